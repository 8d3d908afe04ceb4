theorem hs_at {h : Hp} {c k : Nat} {v : Int} : hs h c k v c k = v := if_pos ⟨rfl, rfl⟩
theorem hs_cell {h : Hp} {c k c' : Nat} {v : Int} (e : c' ≠ c) : hs h c k v c' = h c' := by
  funext k'; exact if_neg (fun x => e x.1)
theorem hs_slot {h : Hp} {c k k' : Nat} {v : Int} (e : k' ≠ k) : hs h c k v c k' = h c k' := if_neg (fun x => e x.2)
theorem hs_row {h : Hp} {c k : Nat} {v : Int} : hs h c k v c = fun k' => if k' = k then v else h c k' := by
  funext k'
  by_cases e : k' = k
  · subst e; rw [hs_at, if_pos rfl]
  · rw [hs_slot e, if_neg e]
theorem lp_inv {α β : Type} (L : Nat → Int → α → Option β) (P : Nat → α → Prop) (Q : β → Prop) (m : Nat)
    (h1 : ∀ n k a, k < m → P k a → (∃ a', P (k + 1) a' ∧ L (n + 1) (k : Int) a = L n ((k : Int) + 1) a') ∨ (∃ r, L (n + 1) (k : Int) a = some r ∧ Q r))
    (h2 : ∀ n a, P m a → ∃ r, L (n + 1) (m : Int) a = some r ∧ Q r) :
    ∀ n k a, k ≤ m → m - k < n → P k a → ∃ r, L n (k : Int) a = some r ∧ Q r := by
  intro n
  induction n with
  | zero => intro k a _ h; omega
  | succ n ih =>
    intro k a hk hn hp
    by_cases e : k < m
    · rcases h1 n k a e hp with ⟨a', hp', he⟩ | hr
      · rw [he]
        have := ih (k + 1) a' (by omega) (by omega) hp'
        rw [Int.natCast_add] at this
        exact this
      · exact hr
    · have : k = m := by omega
      subst this
      exact h2 n a hp
theorem lp_fold {α β : Type} (L : Nat → Int → α → Option β) (a : Nat → α) (r : β) (m : Nat)
    (h1 : ∀ n k, k < m → L (n + 1) (k : Int) (a k) = L n ((k : Int) + 1) (a (k + 1)))
    (h2 : ∀ n, L (n + 1) (m : Int) (a m) = some r) :
    ∀ n k, k ≤ m → m - k < n → L n (k : Int) (a k) = some r := by
  intro n k hk hn
  have := lp_inv L (fun k x => x = a k) (fun x => x = r) m (fun n k x hk hx => Or.inl ⟨a (k + 1), rfl, by rw [hx]; exact h1 n k hk⟩) (fun n x hx => ⟨r, by rw [hx]; exact h2 n, rfl⟩) n k (a k) hk hn rfl
  obtain ⟨x, h3, h4⟩ := this
  rw [h3, h4]
def fsum (g : Nat → Int) : Nat → Int
  | 0 => 0
  | n + 1 => fsum g n + g n
theorem fsum_congr {f g : Nat → Int} : ∀ {n : Nat}, (∀ k, k < n → f k = g k) → fsum f n = fsum g n
  | 0, _ => rfl
  | n + 1, h => by rw [fsum, fsum, fsum_congr (fun k hk => h k (by omega)), h n (by omega)]
theorem fsum_bd {f : Nat → Int} {c : Int} : ∀ {n : Nat}, (∀ k, k < n → 0 ≤ f k ∧ f k ≤ c) → 0 ≤ fsum f n ∧ fsum f n ≤ n * c
  | 0, _ => by simp [fsum]
  | n + 1, h => by
    have h1 := fsum_bd (n := n) (fun k hk => h k (by omega))
    have h2 := h n (by omega)
    rw [fsum, Int.natCast_add, Int.add_mul]
    omega
def cnt (p : Nat → Bool) (n : Nat) : Int := fsum (fun k => if p k then 1 else 0) n
theorem cnt_bd (p : Nat → Bool) (n : Nat) : 0 ≤ cnt p n ∧ cnt p n ≤ n := by
  have := fsum_bd (f := fun k => if p k then 1 else 0) (c := 1) (n := n) (fun k _ => by split <;> omega)
  unfold cnt
  omega
theorem cnt_congr {p q : Nat → Bool} {n : Nat} (h : ∀ k, k < n → p k = q k) : cnt p n = cnt q n := fsum_congr (fun k hk => by rw [h k hk])
theorem cnt_succ (p : Nat → Bool) (n : Nat) : cnt p (n + 1) = cnt p n + (if p n then 1 else 0) := rfl
theorem cnt_zero (p : Nat → Bool) : cnt p 0 = 0 := rfl
theorem cnt_one {p q : Nat → Bool} {a : Nat} : ∀ {n : Nat}, a < n → p a = false → (∀ k, k < n → (q k = true ↔ p k = true ∨ k = a)) → cnt q n = cnt p n + 1
  | 0, h, _, _ => by omega
  | n + 1, h, hp, hq => by
    rw [cnt_succ, cnt_succ]
    by_cases e : a = n
    · subst e
      have : cnt q a = cnt p a := cnt_congr (fun k hk => by
        have := hq k (by omega)
        cases h1 : p k <;> cases h2 : q k <;> simp_all <;> omega)
      have h3 := (hq a (by omega)).mpr (Or.inr rfl)
      rw [this, h3, hp]; simp
    · have := cnt_one (n := n) (by omega) hp (fun k hk => hq k (by omega))
      have h3 := hq n (by omega)
      have h4 : q n = p n := by cases h1 : p n <;> cases h2 : q n <;> simp_all <;> omega
      rw [this, h4]; omega
theorem cnt_mono {p q : Nat → Bool} : ∀ {n : Nat}, (∀ k, k < n → p k = true → q k = true) → cnt p n ≤ cnt q n
  | 0, _ => by simp [cnt_zero]
  | n + 1, h => by
    have h1 := cnt_mono (n := n) (fun k hk => h k (by omega))
    have h2 := h n (by omega)
    rw [cnt_succ, cnt_succ]
    cases h3 : p n <;> cases h4 : q n <;> simp_all <;> omega
theorem cnt_pos {p : Nat → Bool} : ∀ {n : Nat}, 0 < cnt p n ↔ ∃ k, k < n ∧ p k = true
  | 0 => by simp [cnt_zero]
  | n + 1 => by
    have h1 := cnt_pos (p := p) (n := n)
    have h2 := cnt_bd p n
    rw [cnt_succ]
    constructor
    · intro h
      cases e : p n
      · rw [e] at h
        obtain ⟨k, hk, hp⟩ := h1.mp (by simpa using h)
        exact ⟨k, by omega, hp⟩
      · exact ⟨n, by omega, e⟩
    · rintro ⟨k, hk, hp⟩
      by_cases e : k = n
      · subst e; rw [hp]; simp; omega
      · have := h1.mpr ⟨k, by omega, hp⟩
        split <;> omega
