theorem cnt_none {p : Nat → Bool} : ∀ {n : Nat}, (∀ k, k < n → p k = false) → cnt p n = 0
  | 0, _ => rfl
  | n + 1, h => by rw [cnt_succ, cnt_none (fun k hk => h k (by omega)), h n (by omega)]; rfl
theorem cnt_lt {p : Nat → Bool} {a : Nat} : ∀ {n : Nat}, a < n → p a = false → cnt p n < n
  | 0, h, _ => by omega
  | n + 1, h, hp => by
    rw [cnt_succ]
    by_cases e : a = n
    · subst e
      have := cnt_bd p a
      rw [hp]; simp; omega
    · have := cnt_lt (n := n) (by omega) hp
      split <;> omega
theorem above_lt {b : Nat → Int} {f : Nat} (hf : (f : Int) < b 42) : 0 ≤ above b f ∧ above b f < b 42 := by
  have h1 := cnt_bd (fun g => decide (cl b f < cl b g)) (b 42).toNat
  have h2 := cnt_lt (p := fun g => decide (cl b f < cl b g)) (a := f) (n := (b 42).toNat) (by omega) (by simp)
  unfold above
  omega
theorem above_anti {b : Nat → Int} {f g : Nat} (hg : (g : Int) < b 42) (h : cl b f < cl b g) : above b g < above b f := by
  have h1 := cnt_one (p := fun k => decide (cl b g < cl b k)) (q := fun k => decide (cl b g < cl b k) || decide (k = g)) (a := g) (n := (b 42).toNat) (by omega) (by simp) (fun k _ => by simp)
  have h2 := cnt_mono (p := fun k => decide (cl b g < cl b k) || decide (k = g)) (q := fun k => decide (cl b f < cl b k)) (n := (b 42).toNat) (fun k _ hk => by
    simp at hk ⊢
    rcases hk with e | e
    · omega
    · subst e; exact h)
  unfold above
  omega
theorem above_inj {b : Nat → Int} (ok : ∀ f : Nat, (f : Int) < b 42 → okF b f) (hm : b 42 ≤ 12) {f g : Nat} (hf : (f : Int) < b 42) (hg : (g : Int) < b 42) (h : above b f = above b g) : f = g := by
  apply Classical.byContradiction
  intro hne
  have h1 : cl b f ≠ cl b g := fun e => hne (cl_inj (ok f hf) (ok g hg) (by omega) (by omega) e)
  by_cases e : cl b f < cl b g
  · have := above_anti hg e; omega
  · have := above_anti (f := g) hf (by omega); omega
def RowOk (b : Nat → Int) (m : Nat) (r : Nat → Int) : Prop := (∀ j, j < m → 0 ≤ r j ∧ r j < m) ∧ (∀ j, j + 1 < m → cl b (r (j + 1)).toNat < cl b (r j).toNat) ∧ (∀ g : Nat, g < m → ∃ j, j < m ∧ r j = g)
theorem RowOk_lt {b : Nat → Int} {m : Nat} {r : Nat → Int} (h : RowOk b m r) {i j : Nat} (hij : i < j) (hj : j < m) : cl b (r j).toNat < cl b (r i).toNat := by
  induction j with
  | zero => omega
  | succ j ih =>
    have h1 := h.2.1 j hj
    by_cases e : i = j
    · subst e; exact h1
    · have := ih (by omega) (by omega)
      omega
theorem RowOk_above {b : Nat → Int} {r : Nat → Int} (h : RowOk b (b 42).toNat r) : ∀ j, j < (b 42).toNat → above b (r j).toNat = j := by
  intro j
  induction j with
  | zero =>
    intro hj
    refine cnt_none (fun k hk => ?_)
    obtain ⟨i, hi, e⟩ := h.2.2 k hk
    have : k = (r i).toNat := by omega
    rw [this]
    by_cases e0 : i = 0
    · subst e0; simp
    · have := RowOk_lt h (i := 0) (j := i) (by omega) hi
      simp; omega
  | succ j ih =>
    intro hj
    have h1 := ih (by omega)
    have hb := h.1 j (by omega)
    have := cnt_one (p := fun g => decide (cl b (r j).toNat < cl b g)) (q := fun g => decide (cl b (r (j + 1)).toNat < cl b g)) (a := (r j).toNat) (n := (b 42).toNat) (by omega) (by simp) (fun k hk => by
      obtain ⟨i, hi, e⟩ := h.2.2 k hk
      have hk2 : k = (r i).toNat := by omega
      simp only [decide_eq_true_eq]
      rw [hk2]
      rcases Nat.lt_trichotomy i j with c | c | c
      · have h3 := RowOk_lt h (i := i) (j := j) c (by omega)
        have h4 := RowOk_lt h (i := i) (j := j + 1) (by omega) (by omega)
        exact ⟨fun _ => Or.inl h3, fun _ => h4⟩
      · subst c
        have h4 := RowOk_lt h (i := i) (j := i + 1) (by omega) (by omega)
        exact ⟨fun _ => Or.inr rfl, fun _ => h4⟩
      · have h5 : cl b (r i).toNat ≤ cl b (r (j + 1)).toNat := by
          by_cases e2 : i = j + 1
          · subst e2; omega
          · have := RowOk_lt h (i := j + 1) (j := i) (by omega) hi; omega
        have h4 := RowOk_lt h (i := j) (j := j + 1) (by omega) (by omega)
        have h6 : (r i).toNat ≠ (r j).toNat := fun e => by rw [e] at h5; omega
        exact ⟨fun x => by omega, fun x => by rcases x with x | x; omega; exact absurd x h6⟩)
    unfold above at h1 ⊢
    rw [this, h1]
    omega
section Ro
variable {h : Hp} {N : Nat}
theorem m_isAhead {f o : Nat} (hf : f < 12) (ho : o < 12) (of : okF (h 84) f) (oo : okF (h 84) o) : M_Md_isAhead h f o = some (if fq (h 84) o 1 * 16 - o < fq (h 84) f 1 * 16 - f then 1 else 0) := by
  have h1 := mv01 of
  have h2 := mv01 oo
  unfold M_Md_isAhead
  rw [m_of01 hf, m_of01 ho, Option.bind_some, Option.bind_some]
  by_cases e : fq (h 84) f 1 = fq (h 84) o 1
  · by_cases e2 : f < o <;> simp (disch := omega) only [leb_iff, ltb_iff, eqb_iff, pu_rmP, pu_dvP, pu_bs, pu_b0, pu_b1, pu_c0, pu_c1, pu_lt, pu_rdN, pu_wrN, hs_at, hs_cell, hs_slot, if_true, if_false, true_and, and_true, pu_rd, pu_wr, Int.reduceToNat, Int.toNat_natCast, decide_eq_true_eq, Int.add_zero, Bool.false_eq_true, if_pos, if_neg]
  · by_cases e3 : fq (h 84) f 1 = 1
    · simp (disch := omega) only [leb_iff, ltb_iff, eqb_iff, pu_rmP, pu_dvP, pu_bs, pu_b0, pu_b1, pu_c0, pu_c1, pu_lt, pu_rdN, pu_wrN, hs_at, hs_cell, hs_slot, if_true, if_false, true_and, and_true, pu_rd, pu_wr, Int.reduceToNat, Int.toNat_natCast, decide_eq_true_eq, Int.add_zero, Bool.false_eq_true, if_pos, if_neg]
    · simp (disch := omega) only [leb_iff, ltb_iff, eqb_iff, pu_rmP, pu_dvP, pu_bs, pu_b0, pu_b1, pu_c0, pu_c1, pu_lt, pu_rdN, pu_wrN, hs_at, hs_cell, hs_slot, if_true, if_false, true_and, and_true, pu_rd, pu_wr, Int.reduceToNat, Int.toNat_natCast, decide_eq_true_eq, Int.add_zero, Bool.false_eq_true, if_pos, if_neg]
theorem m_beats0 {f o : Nat} (hf : f < 12) (ho : o < 12) (of : okF (h 84) f) (oo : okF (h 84) o) : M_Md_beats0 h f o = some (if cl (h 84) o < cl (h 84) f then 1 else 0) := by
  have h1 := mv01 of
  have h2 := mv01 oo
  have h3 := of.1
  have h4 := oo.1
  unfold M_Md_beats0 cl
  rw [m_of00 hf, m_of00 ho, Option.bind_some, Option.bind_some, m_isAhead hf ho of oo, Option.bind_some]
  by_cases e : fq (h 84) f 0 = fq (h 84) o 0
  · by_cases e2 : fq (h 84) o 1 * 16 - o < fq (h 84) f 1 * 16 - f
    · simp (disch := omega) only [leb_iff, ltb_iff, eqb_iff, pu_rmP, pu_dvP, pu_bs, pu_b0, pu_b1, pu_c0, pu_c1, pu_lt, pu_rdN, pu_wrN, hs_at, hs_cell, hs_slot, if_true, if_false, true_and, and_true, pu_rd, pu_wr, Int.reduceToNat, Int.toNat_natCast, decide_eq_true_eq, Int.add_zero, Bool.false_eq_true, if_pos, if_neg]
    · simp (disch := omega) only [leb_iff, ltb_iff, eqb_iff, pu_rmP, pu_dvP, pu_bs, pu_b0, pu_b1, pu_c0, pu_c1, pu_lt, pu_rdN, pu_wrN, hs_at, hs_cell, hs_slot, if_true, if_false, true_and, and_true, pu_rd, pu_wr, Int.reduceToNat, Int.toNat_natCast, decide_eq_true_eq, Int.add_zero, Bool.false_eq_true, if_pos, if_neg]
  · by_cases e3 : fq (h 84) f 0 ≤ fq (h 84) o 0
    · simp (disch := omega) only [leb_iff, ltb_iff, eqb_iff, pu_rmP, pu_dvP, pu_bs, pu_b0, pu_b1, pu_c0, pu_c1, pu_lt, pu_rdN, pu_wrN, hs_at, hs_cell, hs_slot, if_true, if_false, true_and, and_true, pu_rd, pu_wr, Int.reduceToNat, Int.toNat_natCast, decide_eq_true_eq, Int.add_zero, Bool.false_eq_true, if_pos, if_neg]
    · simp (disch := omega) only [leb_iff, ltb_iff, eqb_iff, pu_rmP, pu_dvP, pu_bs, pu_b0, pu_b1, pu_c0, pu_c1, pu_lt, pu_rdN, pu_wrN, hs_at, hs_cell, hs_slot, if_true, if_false, true_and, and_true, pu_rd, pu_wr, Int.reduceToNat, Int.toNat_natCast, decide_eq_true_eq, Int.add_zero, Bool.false_eq_true, if_pos, if_neg]
theorem m_laysRow_in {b : Nat → Int} {r0 : Nat → Int} {f : Nat} (hb : h 84 = b) (hf : (f : Int) < b 42) (hm : b 42 ≤ 12) (ok : ∀ f : Nat, (f : Int) < b 42 → okF b f) (hr : RowOk b f r0) (K : Int → Hp → Option Hp) :
    ∀ n j (g : Hp), j < n → j ≤ f → (∀ c, c ≠ 94 → g c = h c) → (∀ i, i < j → g 94 i = r0 i) → (∀ i, j < i → i ≤ f → g 94 i = r0 (i - 1)) → (∀ i, j ≤ i → i < f → cl b (r0 i).toNat < cl b f) →
      ∃ (j' : Nat) (g' : Hp), Md_laysRow_L15 N f K n j g = K j' g' ∧ j' ≤ f ∧ (∀ c, c ≠ 94 → g' c = h c) ∧ (∀ i, i < j' → g' 94 i = r0 i) ∧ (∀ i, j' < i → i ≤ f → g' 94 i = r0 (i - 1)) ∧ (∀ i, j' ≤ i → i < f → cl b (r0 i).toNat < cl b f) ∧ (∀ i, i < j' → cl b f < cl b (r0 i).toNat) := by
  intro n
  induction n with
  | zero => intro j g hn; omega
  | succ n ih =>
    intro j g hn hj h1 h2 h3 h4
    rw [Md_laysRow_L15]
    cases j with
    | zero =>
      refine ⟨0, g, ?_, by omega, h1, h2, h3, h4, fun i hi => by omega⟩
      simp (disch := omega) only [leb_iff, ltb_iff, eqb_iff, pu_rmP, pu_dvP, pu_bs, pu_b0, pu_b1, pu_c0, pu_c1, pu_lt, pu_rdN, pu_wrN, hs_at, hs_cell, hs_slot, if_true, if_false, true_and, and_true, pu_rd, pu_wr, Int.reduceToNat, Int.toNat_natCast, decide_eq_true_eq, Int.add_zero, Bool.false_eq_true, if_pos, if_neg]
    | succ j =>
      have hrj := hr.1 j (by omega)
      have e1 : ((j + 1 : Nat) : Int) - 1 = j := by omega
      have hg : g 84 = b := by rw [h1 84 (by omega), hb]
      rw [e1, pu_rdN (by omega), Option.bind_some, h2 j (by omega)]
      have e2 : r0 j = ((r0 j).toNat : Int) := by omega
      have hB := m_beats0 (h := g) (f := f) (o := (r0 j).toNat) (by omega) (by omega) (by rw [hg]; exact ok f hf) (by rw [hg]; exact ok _ (by omega))
      rw [← e2, hg] at hB
      rw [hB, Option.bind_some]
      by_cases c : cl b (r0 j).toNat < cl b f
      · have e3 : ((j + 1 : Nat) : Int) + -1 = j := by omega
        rw [e3]
        simp (disch := omega) only [leb_iff, ltb_iff, eqb_iff, pu_rmP, pu_dvP, pu_bs, pu_b0, pu_b1, pu_c0, pu_c1, pu_lt, pu_rdN, pu_wrN, hs_at, hs_cell, hs_slot, if_true, if_false, true_and, and_true, pu_rd, pu_wr, Int.reduceToNat, Int.toNat_natCast, decide_eq_true_eq, Int.add_zero, Bool.false_eq_true, if_pos, if_neg]
        refine ih j _ (by omega) (by omega) (fun c hc => by rw [hs_cell hc]; exact h1 c hc) (fun i hi => ?_) (fun i hi hi2 => ?_) (fun i hi hi2 => ?_)
        · rw [hs_slot (by omega)]; exact h2 i (by omega)
        · by_cases e4 : i = j + 1
          · subst e4; rw [hs_at]; rfl
          · rw [hs_slot (by omega)]; exact h3 i (by omega) hi2
        · by_cases e4 : i = j
          · subst e4; exact c
          · exact h4 i (by omega) hi2
      · refine ⟨j + 1, g, ?_, by omega, h1, h2, h3, h4, fun i hi => ?_⟩
        · simp (disch := omega) only [leb_iff, ltb_iff, eqb_iff, pu_rmP, pu_dvP, pu_bs, pu_b0, pu_b1, pu_c0, pu_c1, pu_lt, pu_rdN, pu_wrN, hs_at, hs_cell, hs_slot, if_true, if_false, true_and, and_true, pu_rd, pu_wr, Int.reduceToNat, Int.toNat_natCast, decide_eq_true_eq, Int.add_zero, Bool.false_eq_true, if_pos, if_neg]
        · have h5 : cl b f ≠ cl b (r0 j).toNat := fun e => by
            have := cl_inj (ok f hf) (ok (r0 j).toNat (by omega)) (by omega) (by omega) e
            omega
          by_cases e4 : i = j
          · subst e4; omega
          · have := RowOk_lt hr (i := i) (j := j) (by omega) (by omega)
            omega
theorem RowOk_ins {b : Nat → Int} {r0 r : Nat → Int} {f j : Nat} (hj : j ≤ f) (hr : RowOk b f r0) (h2 : ∀ i, i < j → r i = r0 i) (h0 : r j = f) (h3 : ∀ i, j < i → i ≤ f → r i = r0 (i - 1)) (h4 : ∀ i, j ≤ i → i < f → cl b (r0 i).toNat < cl b f) (h5 : ∀ i, i < j → cl b f < cl b (r0 i).toNat) : RowOk b (f + 1) r := by
  refine ⟨fun i hi => ?_, fun i hi => ?_, fun g hg => ?_⟩
  · rcases Nat.lt_trichotomy i j with c | c | c
    · rw [h2 i c]; have := hr.1 i (by omega); omega
    · subst c; rw [h0]; omega
    · rw [h3 i c (by omega)]; have := hr.1 (i - 1) (by omega); omega
  · rcases Nat.lt_trichotomy (i + 1) j with c | c | c
    · rw [h2 i (by omega), h2 (i + 1) c]; exact hr.2.1 i (by omega)
    · rw [c, h0, h2 i (by omega)]; simpa using h5 i (by omega)
    · rw [h3 (i + 1) c (by omega)]
      by_cases e : i = j
      · subst e; rw [h0]; simpa using h4 i (by omega) (by omega)
      · rw [h3 i (by omega) (by omega)]
        have := hr.2.1 (i - 1) (by omega)
        rw [show i - 1 + 1 = i by omega] at this
        exact this
  · by_cases e : g = f
    · exact ⟨j, by omega, by rw [h0, e]⟩
    · obtain ⟨i, hi, he⟩ := hr.2.2 g (by omega)
      by_cases c : i < j
      · exact ⟨i, by omega, by rw [h2 i c, he]⟩
      · exact ⟨i + 1, by omega, by rw [h3 (i + 1) (by omega) (by omega)]; exact he⟩
theorem m_laysRow {b : Nat → Int} (hN : 20 < N) (hb : h 84 = b) (hm0 : 0 ≤ b 42) (hm : b 42 ≤ 12) (ok : ∀ f : Nat, (f : Int) < b 42 → okF b f) : ∃ h', M_Md_laysRow N h = some h' ∧ (∀ c, c ≠ 94 → h' c = h c) ∧ RowOk b (b 42).toNat (h' 94) := by
  have := lp_inv (fun n k g => Md_laysRow_L2 N n k g) (fun k g => (∀ c, c ≠ 94 → g c = h c) ∧ RowOk b k (g 94)) (fun h' => (∀ c, c ≠ 94 → h' c = h c) ∧ RowOk b (b 42).toNat (h' 94)) (b 42).toNat
    (fun n k g hk hp => by
      obtain ⟨h1, h2⟩ := hp
      have hg : g 84 = b := by rw [h1 84 (by omega), hb]
      obtain ⟨j, g', e, hj, k1, k2, k3, k4, k5⟩ := m_laysRow_in (h := g) (N := N) (b := b) (r0 := g 94) (f := k) hg (by omega) hm ok h2 (fun v2_7 h_7 => (wrA h_7 94 12 v2_7 k).bind (fun h8 => Md_laysRow_L2 N n ((k : Int) + 1) h8)) N k g (by omega) (by omega) (fun _ _ => rfl) (fun _ _ => rfl) (fun i hi hi2 => by omega) (fun i hi hi2 => by omega)
      refine Or.inl ⟨hs g' 94 j k, ⟨fun c hc => ?_, ?_⟩, ?_⟩
      · rw [hs_cell hc, k1 c hc, h1 c hc]
      · rw [hs_row]
        refine RowOk_ins (j := j) hj h2 (fun i hi => ?_) (by simp) (fun i hi hi2 => ?_) k4 k5
        · rw [if_neg (by omega)]; exact k2 i hi
        · rw [if_neg (by omega)]; exact k3 i hi hi2
      · (try dsimp only)
        rw [Md_laysRow_L2, pu_rd (by omega) (by omega), Option.bind_some, show Int.toNat 42 = 42 from rfl, hg]
        simp (disch := omega) only [leb_iff, ltb_iff, eqb_iff, pu_rmP, pu_dvP, pu_bs, pu_b0, pu_b1, pu_c0, pu_c1, pu_lt, pu_rdN, pu_wrN, hs_at, hs_cell, hs_slot, if_true, if_false, true_and, and_true, pu_rd, pu_wr, Int.reduceToNat, Int.toNat_natCast, decide_eq_true_eq, Int.add_zero, Bool.false_eq_true, if_pos, if_neg, e])
    (fun n g hp => by
      refine ⟨g, ?_, hp⟩
      have hg : g 84 = b := by rw [hp.1 84 (by omega), hb]
      (try dsimp only)
      rw [Md_laysRow_L2, pu_rd (by omega) (by omega), Option.bind_some, show Int.toNat 42 = 42 from rfl, hg]
      simp (disch := omega) only [leb_iff, ltb_iff, eqb_iff, pu_rmP, pu_dvP, pu_bs, pu_b0, pu_b1, pu_c0, pu_c1, pu_lt, pu_rdN, pu_wrN, hs_at, hs_cell, hs_slot, if_true, if_false, true_and, and_true, pu_rd, pu_wr, Int.reduceToNat, Int.toNat_natCast, decide_eq_true_eq, Int.add_zero, Bool.false_eq_true, if_pos, if_neg]) N 0 h (by omega) (by omega) ⟨fun _ _ => rfl, fun j hj => by omega, fun j hj => by omega, fun j hj => by omega⟩
  exact this
end Ro
def rkA (b : Nat → Int) (k : Int) : Nat → Nat
  | 0 => 0
  | n + 1 => if above b n = k then n else rkA b k n
def rk (b : Nat → Int) (k : Nat) : Nat := rkA b k (b 42).toNat
theorem rk_above {b : Nat → Int} (ok : OkB b) {f : Nat} (hf : (f : Int) < b 42) : rk b (above b f).toNat = f := by
  have hm := ok.many
  have ha := above_lt hf
  have key : ∀ n : Nat, (n : Int) ≤ b 42 → f < n → rkA b ((above b f).toNat : Int) n = f := by
    intro n
    induction n with
    | zero => intro _ h; omega
    | succ n ih =>
      intro hn hfn
      rw [rkA]
      split
      · rename_i e
        exact (above_inj ok.fea hm.2 (by omega) hf (by omega))
      · rename_i e
        exact ih (by omega) (by
          have : f ≠ n := fun x => e (by subst x; omega)
          omega)
  exact key _ (by omega) (by omega)
theorem RowOk_rk {b : Nat → Int} (ok : OkB b) {r : Nat → Int} (h : RowOk b (b 42).toNat r) {k : Nat} (hk : (k : Int) < b 42) : r k = rk b k ∧ rk b k < (b 42).toNat ∧ above b (rk b k) = k := by
  have h1 := RowOk_above h k (by omega)
  have h2 := h.1 k (by omega)
  have h3 := rk_above ok (f := (r k).toNat) (by omega)
  rw [h1, Int.toNat_natCast] at h3
  rw [h3]
  exact ⟨by omega, by omega, h1⟩
theorem rk_spec {b : Nat → Int} (ok : OkB b) {k : Nat} (hk : (k : Int) < b 42) : (rk b k : Int) < b 42 ∧ above b (rk b k) = k := by
  have hm := ok.many
  obtain ⟨h', _, _, h2⟩ := m_laysRow (h := fun c k => if c = 84 then b k else 0) (N := 100) (by omega) (b := b) (by funext k; simp) hm.1 hm.2 ok.fea
  have := RowOk_rk ok h2 hk
  omega
theorem rk_onto {b : Nat → Int} (ok : OkB b) {f : Nat} (hf : (f : Int) < b 42) : ∃ k : Nat, (k : Int) < b 42 ∧ rk b k = f :=
  ⟨(above b f).toNat, by have := above_lt hf; omega, rk_above ok hf⟩
theorem cb_rnk {b : Nat → Int} {h : Hp} (ok : OkB b) (cb : CB b h 23) {k : Nat} (hk : (k : Int) < b 42) : h 41 k = rk b k := by
  have h1 := rk_spec ok hk
  have h2 := cb.rnk (rk b k) h1.1
  rw [h1.2, Int.toNat_natCast] at h2
  exact h2
section So
variable {h : Hp} {N F : Nat}
theorem c_howManyAbove {b : Nat → Int} (hN : 20 < N) (hm0 : 0 ≤ b 42) (hm : b 42 ≤ 12) (ok : ∀ f : Nat, (f : Int) < b 42 → okF b f) (hsz : h F 0 = b 42) (hcl : ∀ f : Nat, (f : Int) < b 42 → h (F + 7) f = cl b f) {f : Nat} (hf : (f : Int) < b 42) : M_Feasts_howManyAbove N h F (cl b f) = some (above b f) := by
  have h1 := cl_bd (ok f hf) (by omega)
  have h2 := (ok f hf).1
  exact lp_fold (fun n k a => Feasts_howManyAbove_L4 N h F (cl b f) n a k) (fun k => cnt (fun g => decide (cl b f < cl b g)) k) (above b f) (b 42).toNat
    (fun n k hk => by
      have h3 := cl_bd (ok k (by omega)) (by omega)
      have h4 := (ok k (by omega)).1
      (try dsimp only)
      rw [Feasts_howManyAbove_L4, hsz, pu_rdN (by omega), Option.bind_some, hcl k (by omega), cnt_succ]
      by_cases c : cl b f < cl b k
      · simp (disch := omega) only [leb_iff, ltb_iff, eqb_iff, pu_rmP, pu_dvP, pu_bs, pu_b0, pu_b1, pu_c0, pu_c1, pu_lt, pu_rdN, pu_wrN, hs_at, hs_cell, hs_slot, if_true, if_false, true_and, and_true, pu_rd, pu_wr, Int.reduceToNat, Int.toNat_natCast, decide_eq_true_eq, Int.add_zero, Bool.false_eq_true, if_pos, if_neg]
      · simp (disch := omega) only [leb_iff, ltb_iff, eqb_iff, pu_rmP, pu_dvP, pu_bs, pu_b0, pu_b1, pu_c0, pu_c1, pu_lt, pu_rdN, pu_wrN, hs_at, hs_cell, hs_slot, if_true, if_false, true_and, and_true, pu_rd, pu_wr, Int.reduceToNat, Int.toNat_natCast, decide_eq_true_eq, Int.add_zero, Bool.false_eq_true, if_pos, if_neg])
    (fun n => by
      (try dsimp only)
      rw [Feasts_howManyAbove_L4, hsz]
      simp (disch := omega) only [leb_iff, ltb_iff, eqb_iff, pu_rmP, pu_dvP, pu_bs, pu_b0, pu_b1, pu_c0, pu_c1, pu_lt, pu_rdN, pu_wrN, hs_at, hs_cell, hs_slot, if_true, if_false, true_and, and_true, pu_rd, pu_wr, Int.reduceToNat, Int.toNat_natCast, decide_eq_true_eq, Int.add_zero, Bool.false_eq_true, if_pos, if_neg]
      rfl) N 0 (by omega) (by omega)
theorem c_sortByClaim {b : Nat → Int} (hN : 20 < N) (hm0 : 0 ≤ b 42) (hm : b 42 ≤ 12) (ok : ∀ f : Nat, (f : Int) < b 42 → okF b f) (hb1 : b 1 ≤ 8) (hsz : h F 0 = b 42) (hrk : ∀ f : Nat, (f : Int) < b 42 → h (F + 1) f = fq b f 0 ∧ h (F + 2) f = fq b f 2) :
    ∃ h', M_Feasts_sortByClaim N h F = some h' ∧ (∀ c, c ≠ F + 7 → c ≠ F + 8 → h' c = h c) ∧ (∀ f : Nat, (f : Int) < b 42 → h' (F + 7) f = cl b f) ∧ (∀ f : Nat, (f : Int) < b 42 → h' (F + 8) (above b f).toNat = f) := by
  unfold M_Feasts_sortByClaim
  have first := lp_inv (fun n k g => Feasts_sortByClaim_L2 N F (fun v1_5 h_5 => Feasts_sortByClaim_L35 N F N 0 h_5) n k g) (fun k g => (∀ c, c ≠ F + 7 → g c = h c) ∧ (∀ f : Nat, f < k → g (F + 7) f = cl b f))
    (fun h' => (∀ c, c ≠ F + 7 → c ≠ F + 8 → h' c = h c) ∧ (∀ f : Nat, (f : Int) < b 42 → h' (F + 7) f = cl b f) ∧ (∀ f : Nat, (f : Int) < b 42 → h' (F + 8) (above b f).toNat = f)) (b 42).toNat
    (fun n k g hk hp => by
      obtain ⟨h1, h2⟩ := hp
      have hr := hrk k (by omega)
      refine Or.inl ⟨hs g (F + 7) k (cl b k), ⟨fun c hc => ?_, fun f hf => ?_⟩, ?_⟩
      · rw [hs_cell hc]; exact h1 c hc
      · by_cases e : f = k
        · subst e; rw [hs_at]
        · rw [hs_slot e]; exact h2 f (by omega)
      · (try dsimp only)
        have e1 : M_Feasts_isMoving g F k = some (fq b k 1) := by
          unfold M_Feasts_isMoving
          rw [pu_rdN (by omega), Option.bind_some, h1 (F + 2) (by omega), hr.2]
          rcases (ok k (by omega)).2.1 with e | e
          · rw [e.1, e.2.1]; rfl
          · rw [e.1]
            simp (disch := omega) only [leb_iff, ltb_iff, eqb_iff, pu_rmP, pu_dvP, pu_bs, pu_b0, pu_b1, pu_c0, pu_c1, pu_lt, pu_rdN, pu_wrN, hs_at, hs_cell, hs_slot, if_true, if_false, true_and, and_true, pu_rd, pu_wr, Int.reduceToNat, Int.toNat_natCast, decide_eq_true_eq, Int.add_zero, Bool.false_eq_true, if_pos, if_neg]
        rw [Feasts_sortByClaim_L2, h1 F (by omega), hsz, pu_rdN (by omega), Option.bind_some, h1 (F + 1) (by omega), hr.1]
        unfold M_Feasts_claimWith
        rw [e1, Option.bind_some, c_ofFeast (mv01 (ok k (by omega))), Option.bind_some]
        have e2 : fq b k 0 * 160 + 4 * 32 + fq b k 1 * 16 + 15 - (k : Int) = cl b k := by unfold cl; omega
        simp (disch := omega) only [leb_iff, ltb_iff, eqb_iff, pu_rmP, pu_dvP, pu_bs, pu_b0, pu_b1, pu_c0, pu_c1, pu_lt, pu_rdN, pu_wrN, hs_at, hs_cell, hs_slot, if_true, if_false, true_and, and_true, pu_rd, pu_wr, Int.reduceToNat, Int.toNat_natCast, decide_eq_true_eq, Int.add_zero, Bool.false_eq_true, if_pos, if_neg, e2])
    (fun n g hp => by
      obtain ⟨h1, h2⟩ := hp
      have second := lp_inv (fun n k g' => Feasts_sortByClaim_L35 N F n k g') (fun k g' => (∀ c, c ≠ F + 8 → g' c = g c) ∧ (∀ f : Nat, f < k → g' (F + 8) (above b f).toNat = f))
        (fun h' => (∀ c, c ≠ F + 7 → c ≠ F + 8 → h' c = h c) ∧ (∀ f : Nat, (f : Int) < b 42 → h' (F + 7) f = cl b f) ∧ (∀ f : Nat, (f : Int) < b 42 → h' (F + 8) (above b f).toNat = f)) (b 42).toNat
        (fun n k g' hk hp => by
          obtain ⟨k1, k2⟩ := hp
          have ha := above_lt (b := b) (f := k) (by omega)
          refine Or.inl ⟨hs g' (F + 8) (above b k).toNat k, ⟨fun c hc => ?_, fun f hf => ?_⟩, ?_⟩
          · rw [hs_cell hc]; exact k1 c hc
          · by_cases e : f = k
            · subst e; rw [hs_at]
            · have ha2 := above_lt (b := b) (f := f) (by omega)
              rw [hs_slot (fun x => e (above_inj ok hm (by omega) (by omega) (by omega)))]
              exact k2 f (by omega)
          · (try dsimp only)
            rw [Feasts_sortByClaim_L35, k1 F (by omega), h1 F (by omega), hsz, pu_rdN (by omega), Option.bind_some, k1 (F + 7) (by omega), h2 k (by omega)]
            rw [c_howManyAbove (b := b) hN hm0 hm ok (by rw [k1 F (by omega), h1 F (by omega), hsz]) (fun f hf => by rw [k1 (F + 7) (by omega)]; exact h2 f (by omega)) (by omega), Option.bind_some]
            simp (disch := omega) only [leb_iff, ltb_iff, eqb_iff, pu_rmP, pu_dvP, pu_bs, pu_b0, pu_b1, pu_c0, pu_c1, pu_lt, pu_rdN, pu_wrN, hs_at, hs_cell, hs_slot, if_true, if_false, true_and, and_true, pu_rd, pu_wr, Int.reduceToNat, Int.toNat_natCast, decide_eq_true_eq, Int.add_zero, Bool.false_eq_true, if_pos, if_neg])
        (fun n g' hp => by
          obtain ⟨k1, k2⟩ := hp
          refine ⟨g', ?_, fun c c1 c2 => by rw [k1 c c2, h1 c c1], fun f hf => by rw [k1 (F + 7) (by omega)]; exact h2 f (by omega), fun f hf => k2 f (by omega)⟩
          (try dsimp only)
          rw [Feasts_sortByClaim_L35, k1 F (by omega), h1 F (by omega), hsz]
          simp (disch := omega) only [leb_iff, ltb_iff, eqb_iff, pu_rmP, pu_dvP, pu_bs, pu_b0, pu_b1, pu_c0, pu_c1, pu_lt, pu_rdN, pu_wrN, hs_at, hs_cell, hs_slot, if_true, if_false, true_and, and_true, pu_rd, pu_wr, Int.reduceToNat, Int.toNat_natCast, decide_eq_true_eq, Int.add_zero, Bool.false_eq_true, if_pos, if_neg]) N 0 g (by omega) (by omega) ⟨fun _ _ => rfl, fun f hf => by omega⟩
      obtain ⟨h', e, q⟩ := second
      refine ⟨h', ?_, q⟩
      (try dsimp only)
      rw [Feasts_sortByClaim_L2, h1 F (by omega), hsz]
      simp (disch := omega) only [leb_iff, ltb_iff, eqb_iff, pu_rmP, pu_dvP, pu_bs, pu_b0, pu_b1, pu_c0, pu_c1, pu_lt, pu_rdN, pu_wrN, hs_at, hs_cell, hs_slot, if_true, if_false, true_and, and_true, pu_rd, pu_wr, Int.reduceToNat, Int.toNat_natCast, decide_eq_true_eq, Int.add_zero, Bool.false_eq_true, if_pos, if_neg]
      exact e) N 0 h (by omega) (by omega) ⟨fun _ _ => rfl, fun f hf => by omega⟩
  exact first
end So
