theorem eq00 : eqb 0 0 = true := by rw [eqb_iff (by omega) (by omega) (by omega) (by omega)]
theorem ne10 : ¬ eqb 1 0 = true := by rw [eqb_iff (by omega) (by omega) (by omega) (by omega)]; omega
theorem jt0 {α : Type} {B E : Hp → Option α} {h : Hp} : (lt' (hs h 83 0 0) (fun h6 => if leb (h6 83 0) 0 then B h6 else E h6)) = B (hs h 83 0 0) := by
  rw [pu_lt, hs_at, if_pos (by rw [leb_iff (by omega) (by omega) (by omega) (by omega)]; omega)]
theorem jtv {α : Type} {B E : Hp → Option α} {h : Hp} {v : Int} (hv : 1 ≤ v ∧ v ≤ 9) : (lt' (hs h 83 0 v) (fun h6 => if leb (h6 83 0) 0 then B h6 else E h6)) = E (hs h 83 0 v) := by
  rw [pu_lt, hs_at, if_neg (by rw [leb_iff (by omega) (by omega) (by omega) (by omega)]; omega)]
section Qb
variable {h : Hp} {N L : Nat} {xs : Nat → Int32} {v4 : Int}
def px (xs : Nat → Int32) (v4 : Int) (j : Int) : Int := (xs (v4 + j).toNat).toInt
theorem rdX_ok (hv : 0 ≤ v4 ∧ v4 + 6 ≤ L) {j : Int} (hj : 0 ≤ j ∧ j < 6) : rdX xs L (v4 + j) = some (px xs v4 j) := if_pos (by omega)
theorem px_rg (xs : Nat → Int32) (v4 j : Int) : rg (px xs v4 j) := ⟨Int32.le_toInt _, Int32.toInt_lt _⟩
def yrv (b : Nat → Int) (y w : Int) : Int := if w = 0 then yd b + lp b y else if w = 1 then wdy b y else if w = 2 then ful b y else if w = 3 then psc b y else if w = 4 then cnt (plf b (lp b y) (psc b y)) (yd b + lp b y).toNat else if w = 5 then (rnf (plf b (lp b y) (psc b y)) (yd b + lp b y).toNat).1 else if w = 6 then lp b y else if w = 7 then cnt (fsf b (lp b y) (psc b y)) (yd b + lp b y).toNat else if w = 8 then (rnf (fsf b (lp b y) (psc b y)) (yd b + lp b y).toNat).1 else if w = 9 then mtf b (lp b y) (psc b y) (b 42).toNat else V b (lp b y) (psc b y) (yd b + lp b y).toNat 0
theorem lt10 {w : Int} (h0 : 0 ≤ w) (h1 : w ≤ 10) : w = 0 ∨ w = 1 ∨ w = 2 ∨ w = 3 ∨ w = 4 ∨ w = 5 ∨ w = 6 ∨ w = 7 ∨ w = 8 ∨ w = 9 ∨ w = 10 := by omega
theorem a_year (hN : 2000 < N) (i : Inv h) {y w : Int} (c1 : 0 < h 84 0 ∧ 0 ≤ y ∧ y ≤ 9999) (c2 : 0 ≤ w ∧ w ≤ 10) : ∃ hC, M_FB_year N h y w = some (0, yrv (h 84) y w, hC) ∧ Inv hC ∧ hC 84 = h 84 := by
  have ok := i.okb c1.1
  have hy := (Yr_of ok c1.2.1).bd ok
  have yr := Yr_of ok c1.2.1
  have ry : rg y := ⟨by omega, by omega⟩
  have rw_ : rg w := ⟨by omega, by omega⟩
  unfold M_FB_year
  rw [q_checkYear i ry, if_pos c1, xb0, q_checkWhat rw_ (by omega), if_pos c2, xb0]
  obtain ⟨h', e1, e2, e3, e4⟩ := q_settled hN i ok c1.2.1 c1.2.2
  have cb' : CB (h 84) h' 23 := by have := e2.cb; rw [e3] at this; exact this
  have lp1 := lp01 (h 84) y
  have eD : ((yd (h 84) + lp (h 84) y).toNat : Int) = yd (h 84) + lp (h 84) y := by omega
  unfold yrv
  rcases lt10 c2.1 c2.2 with e | e | e | e | e | e | e | e | e | e | e <;> subst e
  · refine ⟨h, ?_, i, rfl⟩
    rw [c_daysOf ok i.cb c1.2.1 (by omega)]
    simp (disch := omega) only [leb_iff, ltb_iff, eqb_iff, pu_rmP, pu_dvP, pu_bs, pu_b0, pu_b1, pu_c0, pu_c1, pu_lt, pu_rdN, pu_wrN, hs_at, hs_cell, hs_slot, if_true, if_false, true_and, and_true, pu_rd, pu_wr, Int.reduceToNat, Int.toNat_natCast, decide_eq_true_eq, Int.add_zero, Bool.false_eq_true, if_pos, if_neg]
  · refine ⟨h, ?_, i, rfl⟩
    rw [c_firstWeekday ok i.cb c1.2.1 (by omega)]
    simp (disch := omega) only [leb_iff, ltb_iff, eqb_iff, pu_rmP, pu_dvP, pu_bs, pu_b0, pu_b1, pu_c0, pu_c1, pu_lt, pu_rdN, pu_wrN, hs_at, hs_cell, hs_slot, if_true, if_false, true_and, and_true, pu_rd, pu_wr, Int.reduceToNat, Int.toNat_natCast, decide_eq_true_eq, Int.add_zero, Bool.false_eq_true, if_pos, if_neg]
  · refine ⟨h, ?_, i, rfl⟩
    rw [c_fullOf ok i.cb c1.2.1 (by omega)]
    simp (disch := omega) only [leb_iff, ltb_iff, eqb_iff, pu_rmP, pu_dvP, pu_bs, pu_b0, pu_b1, pu_c0, pu_c1, pu_lt, pu_rdN, pu_wrN, hs_at, hs_cell, hs_slot, if_true, if_false, true_and, and_true, pu_rd, pu_wr, Int.reduceToNat, Int.toNat_natCast, decide_eq_true_eq, Int.add_zero, Bool.false_eq_true, if_pos, if_neg]
  · refine ⟨h, ?_, i, rfl⟩
    rw [c_paschOf ok i.cb c1.2.1 (by omega)]
    simp (disch := omega) only [leb_iff, ltb_iff, eqb_iff, pu_rmP, pu_dvP, pu_bs, pu_b0, pu_b1, pu_c0, pu_c1, pu_lt, pu_rdN, pu_wrN, hs_at, hs_cell, hs_slot, if_true, if_false, true_and, and_true, pu_rd, pu_wr, Int.reduceToNat, Int.toNat_natCast, decide_eq_true_eq, Int.add_zero, Bool.false_eq_true, if_pos, if_neg]
  · refine ⟨h', ?_, e2, e3⟩
    have q := c_plainDays (h := h') (N := N) (by omega) ok yr e4 (i := 0) (j := (yd (h 84) + lp (h 84) y).toNat) (by omega) (by omega)
    rw [Int.natCast_zero, eD, cnt_zero, Int.sub_zero] at q
    unfold M_YearPlan_measure
    simp (disch := omega) only [leb_iff, ltb_iff, eqb_iff, pu_rmP, pu_dvP, pu_bs, pu_b0, pu_b1, pu_c0, pu_c1, pu_lt, pu_rdN, pu_wrN, hs_at, hs_cell, hs_slot, if_true, if_false, true_and, and_true, pu_rd, pu_wr, Int.reduceToNat, Int.toNat_natCast, decide_eq_true_eq, Int.add_zero, Bool.false_eq_true, if_pos, if_neg, e1, e4.la.days, q]
  · refine ⟨h', ?_, e2, e3⟩
    have q := c_longestPlain (h := h') (N := N) (by omega) ok yr e4
    unfold M_YearPlan_measure
    simp (disch := omega) only [leb_iff, ltb_iff, eqb_iff, pu_rmP, pu_dvP, pu_bs, pu_b0, pu_b1, pu_c0, pu_c1, pu_lt, pu_rdN, pu_wrN, hs_at, hs_cell, hs_slot, if_true, if_false, true_and, and_true, pu_rd, pu_wr, Int.reduceToNat, Int.toNat_natCast, decide_eq_true_eq, Int.add_zero, Bool.false_eq_true, if_pos, if_neg, e1, q]
  · refine ⟨h, ?_, i, rfl⟩
    rw [c_isLeap ok i.cb c1.2.1 (by omega)]
    rcases lp1 with e | e <;> rw [e] <;> simp (disch := omega) only [leb_iff, ltb_iff, eqb_iff, pu_rmP, pu_dvP, pu_bs, pu_b0, pu_b1, pu_c0, pu_c1, pu_lt, pu_rdN, pu_wrN, hs_at, hs_cell, hs_slot, if_true, if_false, true_and, and_true, pu_rd, pu_wr, Int.reduceToNat, Int.toNat_natCast, decide_eq_true_eq, Int.add_zero, Bool.false_eq_true, if_pos, if_neg]
  · refine ⟨h', ?_, e2, e3⟩
    have q := c_fastDays (h := h') (N := N) (by omega) ok cb' yr e4
    unfold M_YearPlan_measure
    simp (disch := omega) only [leb_iff, ltb_iff, eqb_iff, pu_rmP, pu_dvP, pu_bs, pu_b0, pu_b1, pu_c0, pu_c1, pu_lt, pu_rdN, pu_wrN, hs_at, hs_cell, hs_slot, if_true, if_false, true_and, and_true, pu_rd, pu_wr, Int.reduceToNat, Int.toNat_natCast, decide_eq_true_eq, Int.add_zero, Bool.false_eq_true, if_pos, if_neg, e1, q]
  · refine ⟨h', ?_, e2, e3⟩
    have q := c_longestFast (h := h') (N := N) (by omega) ok cb' yr e4
    unfold M_YearPlan_measure
    simp (disch := omega) only [leb_iff, ltb_iff, eqb_iff, pu_rmP, pu_dvP, pu_bs, pu_b0, pu_b1, pu_c0, pu_c1, pu_lt, pu_rdN, pu_wrN, hs_at, hs_cell, hs_slot, if_true, if_false, true_and, and_true, pu_rd, pu_wr, Int.reduceToNat, Int.toNat_natCast, decide_eq_true_eq, Int.add_zero, Bool.false_eq_true, if_pos, if_neg, e1, q]
  · refine ⟨h', ?_, e2, e3⟩
    have q := c_meetings (h := h') (N := N) (by omega) ok cb' yr e4.la
    unfold M_YearPlan_measure
    simp (disch := omega) only [leb_iff, ltb_iff, eqb_iff, pu_rmP, pu_dvP, pu_bs, pu_b0, pu_b1, pu_c0, pu_c1, pu_lt, pu_rdN, pu_wrN, hs_at, hs_cell, hs_slot, if_true, if_false, true_and, and_true, pu_rd, pu_wr, Int.reduceToNat, Int.toNat_natCast, decide_eq_true_eq, Int.add_zero, Bool.false_eq_true, if_pos, if_neg, e1, q]
  · refine ⟨h', ?_, e2, e3⟩
    have q := c_weightOf (h := h') (N := N) (by omega) ok yr e4 (i := 0) (n := (yd (h 84) + lp (h 84) y).toNat) (by omega)
    rw [Int.natCast_zero, eD] at q
    unfold M_YearPlan_measure
    simp (disch := omega) only [leb_iff, ltb_iff, eqb_iff, pu_rmP, pu_dvP, pu_bs, pu_b0, pu_b1, pu_c0, pu_c1, pu_lt, pu_rdN, pu_wrN, hs_at, hs_cell, hs_slot, if_true, if_false, true_and, and_true, pu_rd, pu_wr, Int.reduceToNat, Int.toNat_natCast, decide_eq_true_eq, Int.add_zero, Bool.false_eq_true, if_pos, if_neg, e1, e4.la.days, q]
theorem b_year (hN : 2000 < N) (i : Inv h) {y w : Int} (c1 : 0 < h 84 0 ∧ 0 ≤ y ∧ y ≤ 9999) (c2 : 0 ≤ w ∧ w ≤ 10) : ∃ g', M_Md_year N h y w = some (yrv (h 84) y w, g') ∧ Fz h g' ∧ g' 83 0 = 0 := by
  have ok := i.okb c1.1
  have yr := Yr_of ok c1.2.1
  have hy := yr.bd ok
  have ry : rg y := ⟨by omega, by omega⟩
  unfold M_Md_year
  have i0 : Inv (hs h 83 0 0) := Fz_thrown.inv i
  obtain ⟨h', e1, e2, e3, e4⟩ := m_resolves (h := hs h 83 0 0) (N := N) (b := h 84) (by omega) ok (by rw [hs_cell (by omega)]) c1.2.1 (by omega)
  have fz : Fz h h' := Fz_thrown.trans e2.fz
  have t0 : h' 83 0 = 0 := by rw [e2.2 0 (by omega) (by omega), hs_at]
  have h84 : h' 84 = h 84 := e4.my.bk
  have eD : ((yd (h 84) + lp (h 84) y).toNat : Int) = yd (h 84) + lp (h 84) y := by omega
  rw [q_isYear i ry, pu_bs, if_pos c1, pu_lt, if_neg ne10, m_isIn (by omega) (by omega) (by omega) (by omega) (by omega) (by omega), pu_bs, if_pos c2, if_neg ne10]
  dsimp only
  rw [jt0]
  unfold yrv
  have fbz : ∀ {g : Hp}, Fb h' g → Fz h g ∧ g 83 0 = 0 := fun {g} f => ⟨fz.trans f.fq.fz, by rw [f.2 0 (by omega) (by omega) (by omega)]; exact t0⟩
  rcases lt10 c2.1 c2.2 with e | e | e | e | e | e | e | e | e | e | e <;> subst e
  · refine ⟨h', ?_, fz, t0⟩
    simp (disch := omega) only [leb_iff, ltb_iff, eqb_iff, pu_rmP, pu_dvP, pu_bs, pu_b0, pu_b1, pu_c0, pu_c1, pu_lt, pu_rdN, pu_wrN, hs_at, hs_cell, hs_slot, if_true, if_false, true_and, and_true, pu_rd, pu_wr, Int.reduceToNat, Int.toNat_natCast, decide_eq_true_eq, Int.add_zero, Bool.false_eq_true, if_pos, if_neg, e1, e4.my.days]
  · refine ⟨h', ?_, fz, t0⟩
    simp (disch := omega) only [leb_iff, ltb_iff, eqb_iff, pu_rmP, pu_dvP, pu_bs, pu_b0, pu_b1, pu_c0, pu_c1, pu_lt, pu_rdN, pu_wrN, hs_at, hs_cell, hs_slot, if_true, if_false, true_and, and_true, pu_rd, pu_wr, Int.reduceToNat, Int.toNat_natCast, decide_eq_true_eq, Int.add_zero, Bool.false_eq_true, if_pos, if_neg, e1, e3]
  · refine ⟨h', ?_, fz, t0⟩
    have q := m_fullOf (h := h') (by rw [h84]; exact ok) c1.2.1 (show y ≤ 20000 by omega)
    rw [h84] at q
    simp (disch := omega) only [leb_iff, ltb_iff, eqb_iff, pu_rmP, pu_dvP, pu_bs, pu_b0, pu_b1, pu_c0, pu_c1, pu_lt, pu_rdN, pu_wrN, hs_at, hs_cell, hs_slot, if_true, if_false, true_and, and_true, pu_rd, pu_wr, Int.reduceToNat, Int.toNat_natCast, decide_eq_true_eq, Int.add_zero, Bool.false_eq_true, if_pos, if_neg, e1, q]
  · refine ⟨h', ?_, fz, t0⟩
    simp (disch := omega) only [leb_iff, ltb_iff, eqb_iff, pu_rmP, pu_dvP, pu_bs, pu_b0, pu_b1, pu_c0, pu_c1, pu_lt, pu_rdN, pu_wrN, hs_at, hs_cell, hs_slot, if_true, if_false, true_and, and_true, pu_rd, pu_wr, Int.reduceToNat, Int.toNat_natCast, decide_eq_true_eq, Int.add_zero, Bool.false_eq_true, if_pos, if_neg, e1, e4.my.pasch]
  · obtain ⟨g, q, f⟩ := m_free (h := h') (N := N) (by omega) ok yr e4
    refine ⟨g, ?_, fbz f⟩
    simp (disch := omega) only [leb_iff, ltb_iff, eqb_iff, pu_rmP, pu_dvP, pu_bs, pu_b0, pu_b1, pu_c0, pu_c1, pu_lt, pu_rdN, pu_wrN, hs_at, hs_cell, hs_slot, if_true, if_false, true_and, and_true, pu_rd, pu_wr, Int.reduceToNat, Int.toNat_natCast, decide_eq_true_eq, Int.add_zero, Bool.false_eq_true, if_pos, if_neg, e1, q]
  · obtain ⟨g, q, f⟩ := m_run (h := h') (N := N) (by omega) ok yr e4 (t := 0) (Or.inl rfl)
    rw [if_pos rfl] at q
    refine ⟨g, ?_, fbz f⟩
    simp (disch := omega) only [leb_iff, ltb_iff, eqb_iff, pu_rmP, pu_dvP, pu_bs, pu_b0, pu_b1, pu_c0, pu_c1, pu_lt, pu_rdN, pu_wrN, hs_at, hs_cell, hs_slot, if_true, if_false, true_and, and_true, pu_rd, pu_wr, Int.reduceToNat, Int.toNat_natCast, decide_eq_true_eq, Int.add_zero, Bool.false_eq_true, if_pos, if_neg, e1, q]
  · refine ⟨h', ?_, fz, t0⟩
    have q := m_isLong (h := h') (by rw [h84]; exact ok) c1.2.1 (show y ≤ 20000 by omega)
    rw [h84] at q
    rcases lp01 (h 84) y with e | e <;> rw [e] at q ⊢ <;> simp (disch := omega) only [leb_iff, ltb_iff, eqb_iff, pu_rmP, pu_dvP, pu_bs, pu_b0, pu_b1, pu_c0, pu_c1, pu_lt, pu_rdN, pu_wrN, hs_at, hs_cell, hs_slot, if_true, if_false, true_and, and_true, pu_rd, pu_wr, Int.reduceToNat, Int.toNat_natCast, decide_eq_true_eq, Int.add_zero, Bool.false_eq_true, if_pos, if_neg, e1, q]
  · refine ⟨h', ?_, fz, t0⟩
    have q := m_fastDays (h := h') (N := N) (by omega) ok yr e4
    simp (disch := omega) only [leb_iff, ltb_iff, eqb_iff, pu_rmP, pu_dvP, pu_bs, pu_b0, pu_b1, pu_c0, pu_c1, pu_lt, pu_rdN, pu_wrN, hs_at, hs_cell, hs_slot, if_true, if_false, true_and, and_true, pu_rd, pu_wr, Int.reduceToNat, Int.toNat_natCast, decide_eq_true_eq, Int.add_zero, Bool.false_eq_true, if_pos, if_neg, e1, q]
  · obtain ⟨g, q, f⟩ := m_run (h := h') (N := N) (by omega) ok yr e4 (t := 1) (Or.inr rfl)
    rw [if_neg (by omega)] at q
    refine ⟨g, ?_, fbz f⟩
    simp (disch := omega) only [leb_iff, ltb_iff, eqb_iff, pu_rmP, pu_dvP, pu_bs, pu_b0, pu_b1, pu_c0, pu_c1, pu_lt, pu_rdN, pu_wrN, hs_at, hs_cell, hs_slot, if_true, if_false, true_and, and_true, pu_rd, pu_wr, Int.reduceToNat, Int.toNat_natCast, decide_eq_true_eq, Int.add_zero, Bool.false_eq_true, if_pos, if_neg, e1, q]
  · refine ⟨h', ?_, fz, t0⟩
    have q := m_meetings (h := h') (N := N) (by omega) ok yr e4
    simp (disch := omega) only [leb_iff, ltb_iff, eqb_iff, pu_rmP, pu_dvP, pu_bs, pu_b0, pu_b1, pu_c0, pu_c1, pu_lt, pu_rdN, pu_wrN, hs_at, hs_cell, hs_slot, if_true, if_false, true_and, and_true, pu_rd, pu_wr, Int.reduceToNat, Int.toNat_natCast, decide_eq_true_eq, Int.add_zero, Bool.false_eq_true, if_pos, if_neg, e1, q]
  · obtain ⟨g, q, f⟩ := m_weight (h := h') (N := N) (by omega) ok yr e4 (i := 0) (n := (yd (h 84) + lp (h 84) y).toNat) (by omega)
    rw [Int.natCast_zero, eD] at q
    refine ⟨g, ?_, fbz f⟩
    simp (disch := omega) only [leb_iff, ltb_iff, eqb_iff, pu_rmP, pu_dvP, pu_bs, pu_b0, pu_b1, pu_c0, pu_c1, pu_lt, pu_rdN, pu_wrN, hs_at, hs_cell, hs_slot, if_true, if_false, true_and, and_true, pu_rd, pu_wr, Int.reduceToNat, Int.toNat_natCast, decide_eq_true_eq, Int.add_zero, Bool.false_eq_true, if_pos, if_neg, e1, e4.my.days, q]
theorem k_year (hN : 2000 < N) (i : Inv h) (hv : 0 ≤ v4 ∧ v4 + 6 ≤ L) (k : Hp → Option Int) : ∃ h', Inv h' ∧ Lw_case_4 N L xs v4 h k = k h' := by
  unfold Lw_case_4 M_Lw_year
  simp (disch := omega) only [rdX_ok hv, pu_bs]
  have ry := px_rg xs v4 1
  have rw_ := px_rg xs v4 2
  generalize px xs v4 1 = y at *
  generalize px xs v4 2 = w at *
  by_cases c1 : 0 < h 84 0 ∧ 0 ≤ y ∧ y ≤ 9999
  · by_cases c2 : 0 ≤ w ∧ w ≤ 10
    · obtain ⟨hC, e1, e2, e3⟩ := a_year hN i c1 c2
      refine fin_case (idx := 0) e1 e2 e3 (Or.inl ⟨rfl, rfl⟩) (R := fun g => M_Md_year N g y w) (fun g gi g84 => ?_) k
      obtain ⟨g', f1, f2, f3⟩ := b_year hN gi (y := y) (w := w) (by rw [g84]; exact c1) c2
      exact ⟨_, g', f1, f2, f3, fun _ => by rw [g84]⟩
    · refine fin_case (code := 2) (v := 0) (hC := h) (idx := 2) ?_ i rfl (Or.inr ⟨by omega, rfl, by omega, by omega⟩) (R := fun g => M_Md_year N g y w) (fun g gi g84 => ?_) k
      · unfold M_FB_year
        rw [q_checkYear i ry, if_pos c1, xb0, q_checkWhat rw_ (by omega), if_neg c2, xbn (by omega)]
      · refine ⟨0, hs g 83 0 2, ?_, Fz_thrown, hs_at, fun z => by omega⟩
        unfold M_Md_year
        rw [q_isYear gi ry, pu_bs, g84, if_pos c1]
        unfold rg at *
        rw [pu_lt, if_neg ne10, m_isIn (by omega) (by omega) (by omega) (by omega) (by omega) (by omega), pu_bs, if_neg c2, if_pos eq00]
        exact jtv (by omega)
  · refine fin_case (code := 1) (v := 0) (hC := h) (idx := 1) ?_ i rfl (Or.inr ⟨by omega, rfl, by omega, by omega⟩) (R := fun g => M_Md_year N g y w) (fun g gi g84 => ?_) k
    · unfold M_FB_year
      rw [q_checkYear i ry, if_neg c1, xbn (by omega)]
    · refine ⟨0, hs g 83 0 1, ?_, Fz_thrown, hs_at, fun z => by omega⟩
      unfold M_Md_year
      rw [q_isYear gi ry, pu_bs, g84, if_neg c1, pu_lt, if_pos eq00]
      exact jtv (by omega)
theorem k_day_of {nm : Int → Int → Int → Option XO} {R : Hp → Option (Int × Hp)} {f : Int → Int} (i : Inv h) {y d : Int} (ry : rg y) (rd : rg d) {x : Option XO} {cs : List Nat} (hcs : cidx 1 cs 1 = some 1)
    (hno : ¬ (0 < h 84 0 ∧ 0 ≤ y ∧ y ≤ 9999 ∧ 0 ≤ d ∧ d < yd (h 84) + lp (h 84) y) → x = some (1, 0, h))
    (hnoR : ∀ g, Inv g → g 84 = h 84 → M_Md_isDay N g y d = some (0, g) → R g = some (0, hs g 83 0 1))
    (hN : 2000 < N) (k : Hp → Option Int) (hn : ¬ (0 < h 84 0 ∧ 0 ≤ y ∧ y ≤ 9999 ∧ 0 ≤ d ∧ d < yd (h 84) + lp (h 84) y)) :
    ∃ h', Inv h' ∧ ((xcat x cs f).bind (fun q => (R q.2).bind (fun q' => (M_Md_thrown q'.2).bind (fun y => if eqb y q.1 then if eqb q.1 0 then if eqL (q'.2 96 0) (f q'.1) then k q'.2 else some 0 else k q'.2 else some 0)))) = k h' := by
  refine fin_case (code := 1) (v := 0) (hC := h) (idx := 1) (hno hn) i rfl (Or.inr ⟨by omega, hcs, by omega, by omega⟩) (fun g gi g84 => ?_) k
  rcases q_isDay hN gi ry rd with ⟨h', _, _, _, _, z⟩ | ⟨z, _⟩
  · rw [g84] at z; exact absurd z hn
  · exact ⟨0, _, hnoR g gi g84 z, Fz_thrown, hs_at, fun z => by omega⟩
end Qb
