def dv (t : Nat → Int) (p d : Nat) : Int := if d = p then 0 else if d = p + 1 then t p - 48 else (t p - 48) * 10 + (t (p + 1) - 48)
section Lz
variable {t : Nat → Int} {E p b d q : Nat} {h : Hp} {N : Nat}
theorem dg_bd {q : Nat} (hq : dg t q = true) : 48 ≤ t q ∧ t q ≤ 57 := of_decide_eq_true hq
theorem dg_no {q : Nat} (hq : dg t q = false) : ¬ (48 ≤ t q ∧ t q ≤ 57) := of_decide_eq_false hq
theorem dv_bd (hd : p ≤ d) (hin : ∀ q, p ≤ q → q < d → dg t q = true) : 0 ≤ dv t p d ∧ dv t p d ≤ 99 := by
  unfold dv
  by_cases c1 : d = p
  · rw [if_pos c1]; omega
  · have b1 := dg_bd (hin p (by omega) (by omega))
    rw [if_neg c1]
    by_cases c2 : d = p + 1
    · rw [if_pos c2]; omega
    · have b2 := dg_bd (hin (p + 1) (by omega) (by omega))
      rw [if_neg c2]; omega
theorem dv_up (hq : p ≤ q) : dv t p (q + 1) = if q ≤ p + 1 then dv t p q * 10 + t q - 48 else dv t p q := by
  unfold dv
  by_cases c1 : q = p
  · subst c1
    rw [if_neg (by omega), if_pos rfl, if_pos (by omega), if_pos rfl]; omega
  · by_cases c2 : q = p + 1
    · subst c2
      rw [if_neg (by omega), if_neg (by omega), if_pos (by omega), if_neg (by omega), if_pos rfl]; omega
    · rw [if_neg (by omega), if_neg (by omega), if_neg (by omega), if_neg (by omega), if_neg (by omega)]
theorem hs_comm {c k c' k' : Nat} {v w : Int} (hk : c ≠ c' ∨ k ≠ k') : hs (hs h c k v) c' k' w = hs (hs h c' k' w) c k v := by
  funext x y
  by_cases x1 : x = c
  · subst x1
    by_cases x2 : x = c'
    · subst x2
      by_cases y1 : y = k
      · subst y1; rw [hs_slot (by omega), hs_at, hs_at]
      · rw [hs_slot (k := k) y1]
        by_cases y2 : y = k'
        · subst y2; rw [hs_at, hs_at]
        · rw [hs_slot y2, hs_slot y2, hs_slot y1]
    · rw [hs_cell x2]
      by_cases y1 : y = k
      · subst y1; rw [hs_at, hs_at]
      · rw [hs_slot y1, hs_slot y1, hs_cell x2]
  · rw [hs_cell (c := c) x1]
    by_cases x2 : x = c'
    · subst x2
      by_cases y2 : y = k'
      · subst y2; rw [hs_at, hs_at]
      · rw [hs_slot y2, hs_slot y2, hs_cell x1]
    · rw [hs_cell x2, hs_cell x2, hs_cell x1]
theorem c_digL (B : TB t E) : ∀ m q n h, E - q ≤ m → m < n → p ≤ q → q ≤ E → TC t E h → h 3 2 = (q : Int) → (-1 ≤ h 3 4 ∧ h 3 4 ≤ 400) →
    Reader_readDigits_L25 N (p : Int) n (dv t p q) h = some (dv t p (sc (dg t) E q), hs (hs h 3 2 ((sc (dg t) E q : Nat) : Int)) 3 4 (if p + 2 < sc (dg t) E q ∧ h 3 4 = -1 then h 3 3 else h 3 4)) := by
  have he := B.e
  intro m
  have fin : ∀ q n h, p ≤ q → q ≤ E → TC t E h → h 3 2 = (q : Int) → (-1 ≤ h 3 4 ∧ h 3 4 ≤ 400) → (E ≤ q ∨ dg t q = false) → sc (dg t) E q = q → Reader_readDigits_L25 N (p : Int) (n + 1) (dv t p q) h = some (dv t p (sc (dg t) E q), hs (hs h 3 2 ((sc (dg t) E q : Nat) : Int)) 3 4 (if p + 2 < sc (dg t) E q ∧ h 3 4 = -1 then h 3 3 else h 3 4)) := by
    intro q n h h1 h2 T e hw hz es
    have te := T.e
    rw [es, hs_self e]
    have j15 : (if ltb 2 ((h 3 2) - (p : Int)) then (M_Reader_require h 0).bind (fun h17 => some (dv t p q, h17)) else (M_Reader_require h 1).bind (fun h19 => some (dv t p q, h19))) = some (dv t p q, hs h 3 4 (if p + 2 < q ∧ h 3 4 = -1 then h 3 3 else h 3 4)) := by
      rw [e]
      by_cases c : p + 2 < q
      · rw [if_pos (by rw [ltb_iff (by omega) (by omega) (by omega) (by omega)]; omega), c_req (Or.inl rfl) hw, pu_bs]
        by_cases c2 : h 3 4 = -1
        · rw [if_pos ⟨rfl, c2⟩, if_pos ⟨c, c2⟩]
        · rw [if_neg (fun z => c2 z.2), if_neg (fun z => c2 z.2), hs_self rfl]
      · rw [if_neg (by rw [ltb_iff (by omega) (by omega) (by omega) (by omega)]; omega), c_req (Or.inr rfl) hw, pu_bs, if_neg (fun z => by omega), if_neg (fun z => c z.1), hs_self rfl]
    rw [Reader_readDigits_L25, pu_lt, j15]
    by_cases c : E ≤ q
    · rw [if_pos (by rw [te, e, leb_iff (by omega) (by omega) (by omega) (by omega)]; omega)]
    · have hd : dg t q = false := by rcases hz with z | z; exact absurd z c; exact z
      have hn := dg_no hd
      have tb := B.b q (by omega)
      rw [if_neg (by rw [te, e, leb_iff (by omega) (by omega) (by omega) (by omega)]; omega), e, c_at B T h2, pu_bs]
      unfold tv
      rw [if_pos (show q < E by omega), c_isDigit (by omega), pu_bs, if_neg hn, if_pos eq00]
  induction m with
  | zero =>
    intro q n h h1 h2 h3 h4 T e hw
    obtain ⟨n, rfl⟩ : ∃ k, n = k + 1 := ⟨n - 1, by omega⟩
    exact fin q n h h3 h4 T e hw (Or.inl (by omega)) (sc_at (by omega))
  | succ m ih =>
    intro q n h h1 h2 h3 h4 T e hw
    obtain ⟨n, rfl⟩ : ∃ k, n = k + 1 := ⟨n - 1, by omega⟩
    by_cases c : E ≤ q
    · exact fin q n h h3 h4 T e hw (Or.inl c) (sc_at c)
    · cases hd : dg t q with
      | false => exact fin q n h h3 h4 T e hw (Or.inr hd) (sc_stop hd)
      | true =>
        have hn := dg_bd hd
        have te := T.e
        have tb := B.b q (by omega)
        have st := ih (q + 1) n (hs h 3 2 ((q : Int) + 1)) (by omega) (by omega) (by omega) (by omega) (TC_3 T) (by rw [hs_at]; omega) (by rw [hs_slot (by omega)]; exact hw)
        rw [hs_hs, hs_slot (by omega), hs_slot (by omega), ← sc_step (f := dg t) (by omega) hd, dv_up h3] at st
        rw [Reader_readDigits_L25, pu_lt, if_neg (by rw [te, e, leb_iff (by omega) (by omega) (by omega) (by omega)]; omega), e, c_at B T h4, pu_bs]
        unfold tv
        rw [if_pos (show q < E by omega), c_isDigit (by omega), pu_bs, if_pos hn, if_neg ne10]
        by_cases c2 : q ≤ p + 1
        · rw [if_neg (by rw [leb_iff (by omega) (by omega) (by omega) (by omega)]; omega), pu_bs, pu_lt]
          rw [if_pos c2] at st
          exact st
        · rw [if_pos (by rw [leb_iff (by omega) (by omega) (by omega) (by omega)]; omega), pu_lt]
          rw [if_neg c2] at st
          exact st
theorem c_digits (B : TB t E) (hN : 1000 < N) (T : TC t E h) (hp : p ≤ E) (e : h 3 2 = (p : Int)) (hw : -1 ≤ h 3 4 ∧ h 3 4 ≤ 400) (h3 : 0 ≤ h 3 3 ∧ h 3 3 ≤ 400) :
    M_Reader_readDigits N h = some (dv t p (sc (dg t) E p), hs (hs h 3 2 ((sc (dg t) E p : Nat) : Int)) 3 4 (if (sc (dg t) E p = p ∨ p + 2 < sc (dg t) E p) ∧ h 3 4 = -1 then h 3 3 else h 3 4)) := by
  have he := B.e
  have d0 : dv t p p = 0 := if_pos rfl
  unfold M_Reader_readDigits
  rw [e, c_at B T hp, pu_bs, c_isDigit (tv_bd B), pu_bs]
  by_cases c : 48 ≤ tv t E p ∧ tv t E p ≤ 57
  · have hE : p < E := by
      unfold tv at c
      by_cases z : p < E
      · exact z
      · rw [if_neg z] at c; omega
    have hd : dg t p = true := by unfold tv at c; rw [if_pos hE] at c; exact decide_eq_true c
    have hs1 := sc_bd (f := dg t) (p := p + 1) (E := E) (by omega)
    rw [← sc_step (f := dg t) hE hd] at hs1
    have l := c_digL (N := N) (p := p) B (E - p) p N h (by omega) (by omega) (by omega) hp T e hw
    rw [d0] at l
    rw [if_pos c, c_req (Or.inr rfl) hw, pu_bs, if_neg (fun z => by omega), e, l]
    by_cases c2 : p + 2 < sc (dg t) E p ∧ h 3 4 = -1
    · rw [if_pos c2, if_pos ⟨Or.inr c2.1, c2.2⟩]
    · rw [if_neg c2, if_neg (fun z => c2 ⟨by omega, z.2⟩)]
  · have hs1 : sc (dg t) E p = p := by
      by_cases z : p < E
      · unfold tv at c; rw [if_pos z] at c; exact sc_stop (decide_eq_false c)
      · exact sc_at (by omega)
    rw [if_neg c, c_req (Or.inl rfl) hw, pu_bs]
    by_cases c2 : h 3 4 = -1
    · rw [if_pos ⟨rfl, c2⟩]
      have l := c_digL (N := N) (p := p) B (E - p) p N (hs h 3 4 (h 3 3)) (by omega) (by omega) (by omega) hp (TC_3 T) (by rw [hs_slot (by omega)]; exact e) (by rw [hs_at]; omega)
      rw [d0] at l
      rw [hs_slot (by omega), e, l, hs1, if_neg (by omega), hs_at, if_pos ⟨Or.inl rfl, c2⟩, hs_comm (Or.inr (by omega)), hs_hs, hs_comm (h := h) (c := 3) (k := 4) (c' := 3) (k' := 2) (Or.inr (by omega))]
    · have l := c_digL (N := N) (p := p) B (E - p) p N h (by omega) (by omega) (by omega) hp T e hw
      rw [d0] at l
      rw [if_neg (fun z => c2 z.2), e, l, hs1, if_neg (by omega), if_neg (fun z => c2 z.2)]
end Lz
