theorem eqL_self (u : Int) : eqL u u = true := decide_eq_true rfl
theorem fin_case {x : Option XO} {cs : List Nat} {code : Nat} {v idx : Int} {h hC : Hp} {f : Int → Int} (hx : x = some (code, v, hC)) (hi : Inv hC) (h84 : hC 84 = h 84)
    (hc : (code = 0 ∧ idx = 0) ∨ (code ≠ 0 ∧ cidx code cs 1 = some idx ∧ 1 ≤ idx ∧ idx ≤ 3)) {R : Hp → Option (Int × Hp)}
    (hR : ∀ g, Inv g → g 84 = h 84 → ∃ v' g', R g = some (v', g') ∧ Fz g g' ∧ g' 83 0 = idx ∧ (code = 0 → v' = v)) (k : Hp → Option Int) :
    ∃ h', Inv h' ∧ ((xcat x cs f).bind (fun q => (R q.2).bind (fun q' => (M_Md_thrown q'.2).bind (fun y => if eqb y q.1 then if eqb q.1 0 then if eqL (q'.2 96 0) (f q'.1) then k q'.2 else some 0 else k q'.2 else some 0)))) = k h' := by
  subst hx
  unfold xcat M_Md_thrown
  rcases hc with ⟨c1, c2⟩ | ⟨c1, c2, c3, c4⟩
  · subst c1 c2
    obtain ⟨v', g', e1, e2, e3, e4⟩ := hR (hs hC 96 0 (f v)) (Fz_out hi) (by rw [hs_cell (by omega)]; exact h84)
    have e5 := e4 rfl
    subst e5
    refine ⟨g', e2.inv (Fz_out hi), ?_⟩
    have e6 : g' 96 0 = f v' := by rw [e2.1 96 (by omega) (by omega), hs_at]
    simp only [pu_bs, if_true]
    rw [e1, pu_bs]
    simp only [pu_bs]
    rw [e3, e6, eqL_self]
    simp (disch := omega) only [leb_iff, ltb_iff, eqb_iff, pu_rmP, pu_dvP, pu_bs, pu_b0, pu_b1, pu_c0, pu_c1, pu_lt, pu_rdN, pu_wrN, hs_at, hs_cell, hs_slot, if_true, if_false, true_and, and_true, pu_rd, pu_wr, Int.reduceToNat, Int.toNat_natCast, decide_eq_true_eq, Int.add_zero, Bool.false_eq_true, if_pos, if_neg]
  · obtain ⟨v', g', e1, e2, e3, e4⟩ := hR hC hi h84
    refine ⟨g', e2.inv hi, ?_⟩
    simp only [pu_bs, if_neg c1]
    rw [c2]
    simp only [pu_bs]
    rw [e1]
    simp only [pu_bs]
    rw [e3]
    simp (disch := omega) only [leb_iff, ltb_iff, eqb_iff, pu_rmP, pu_dvP, pu_bs, pu_b0, pu_b1, pu_c0, pu_c1, pu_lt, pu_rdN, pu_wrN, hs_at, hs_cell, hs_slot, if_true, if_false, true_and, and_true, pu_rd, pu_wr, Int.reduceToNat, Int.toNat_natCast, decide_eq_true_eq, Int.add_zero, Bool.false_eq_true, if_pos, if_neg]
theorem xb0 {v : Int} {h : Hp} {f : Int → Hp → Option XO} : xbnd (some (0, v, h)) f = f v h := by unfold xbnd; rw [pu_bs]; simp
theorem xbn {c : Nat} {v : Int} {h : Hp} {f : Int → Hp → Option XO} (hc : c ≠ 0) : xbnd (some (c, v, h)) f = some (c, 0, h) := by unfold xbnd; rw [pu_bs]; simp [hc]
def rg (x : Int) : Prop := -2147483648 ≤ x ∧ x < 2147483648
section Qa
variable {h : Hp} {N : Nat}
theorem q_checkYear (i : Inv h) {y : Int} (hy : rg y) : M_FB_checkYear h y = some (if 0 < h 84 0 ∧ 0 ≤ y ∧ y ≤ 9999 then 0 else 1, 0, h) := by
  unfold M_FB_checkYear rg at *
  rcases i.told with ⟨o, t, w⟩ | ⟨o, t, w, _⟩
  · rw [t]
    by_cases c1 : y < 0
    · simp (disch := omega) only [leb_iff, ltb_iff, eqb_iff, pu_rmP, pu_dvP, pu_bs, pu_b0, pu_b1, pu_c0, pu_c1, pu_lt, pu_rdN, pu_wrN, hs_at, hs_cell, hs_slot, if_true, if_false, true_and, and_true, pu_rd, pu_wr, Int.reduceToNat, Int.toNat_natCast, decide_eq_true_eq, Int.add_zero, Bool.false_eq_true, if_pos, if_neg]
    · by_cases c2 : y ≤ 9999
      · simp (disch := omega) only [leb_iff, ltb_iff, eqb_iff, pu_rmP, pu_dvP, pu_bs, pu_b0, pu_b1, pu_c0, pu_c1, pu_lt, pu_rdN, pu_wrN, hs_at, hs_cell, hs_slot, if_true, if_false, true_and, and_true, pu_rd, pu_wr, Int.reduceToNat, Int.toNat_natCast, decide_eq_true_eq, Int.add_zero, Bool.false_eq_true, if_pos, if_neg]
      · simp (disch := omega) only [leb_iff, ltb_iff, eqb_iff, pu_rmP, pu_dvP, pu_bs, pu_b0, pu_b1, pu_c0, pu_c1, pu_lt, pu_rdN, pu_wrN, hs_at, hs_cell, hs_slot, if_true, if_false, true_and, and_true, pu_rd, pu_wr, Int.reduceToNat, Int.toNat_natCast, decide_eq_true_eq, Int.add_zero, Bool.false_eq_true, if_pos, if_neg]
  · rw [t]
    simp (disch := omega) only [leb_iff, ltb_iff, eqb_iff, pu_rmP, pu_dvP, pu_bs, pu_b0, pu_b1, pu_c0, pu_c1, pu_lt, pu_rdN, pu_wrN, hs_at, hs_cell, hs_slot, if_true, if_false, true_and, and_true, pu_rd, pu_wr, Int.reduceToNat, Int.toNat_natCast, decide_eq_true_eq, Int.add_zero, Bool.false_eq_true, if_pos, if_neg]
theorem q_checkWhat {w m : Int} (hw : rg w) (hm : 0 ≤ m ∧ m ≤ 100) : M_FB_checkWhat h w m = some (if 0 ≤ w ∧ w ≤ m then 0 else 2, 0, h) := by
  unfold M_FB_checkWhat rg at *
  by_cases c1 : w < 0
  · simp (disch := omega) only [leb_iff, ltb_iff, eqb_iff, pu_rmP, pu_dvP, pu_bs, pu_b0, pu_b1, pu_c0, pu_c1, pu_lt, pu_rdN, pu_wrN, hs_at, hs_cell, hs_slot, if_true, if_false, true_and, and_true, pu_rd, pu_wr, Int.reduceToNat, Int.toNat_natCast, decide_eq_true_eq, Int.add_zero, Bool.false_eq_true, if_pos, if_neg]
  · by_cases c2 : w ≤ m
    · simp (disch := omega) only [leb_iff, ltb_iff, eqb_iff, pu_rmP, pu_dvP, pu_bs, pu_b0, pu_b1, pu_c0, pu_c1, pu_lt, pu_rdN, pu_wrN, hs_at, hs_cell, hs_slot, if_true, if_false, true_and, and_true, pu_rd, pu_wr, Int.reduceToNat, Int.toNat_natCast, decide_eq_true_eq, Int.add_zero, Bool.false_eq_true, if_pos, if_neg]
    · simp (disch := omega) only [leb_iff, ltb_iff, eqb_iff, pu_rmP, pu_dvP, pu_bs, pu_b0, pu_b1, pu_c0, pu_c1, pu_lt, pu_rdN, pu_wrN, hs_at, hs_cell, hs_slot, if_true, if_false, true_and, and_true, pu_rd, pu_wr, Int.reduceToNat, Int.toNat_natCast, decide_eq_true_eq, Int.add_zero, Bool.false_eq_true, if_pos, if_neg]
theorem q_checkNumber {w l m : Int} (hw : rg w) (hl : -100 ≤ l ∧ l ≤ 100) (hm : -100 ≤ m ∧ m ≤ 100) : M_FB_checkNumber h w l m = some (if l ≤ w ∧ w ≤ m then 0 else 3, 0, h) := by
  unfold M_FB_checkNumber rg at *
  by_cases c1 : w < l
  · simp (disch := omega) only [leb_iff, ltb_iff, eqb_iff, pu_rmP, pu_dvP, pu_bs, pu_b0, pu_b1, pu_c0, pu_c1, pu_lt, pu_rdN, pu_wrN, hs_at, hs_cell, hs_slot, if_true, if_false, true_and, and_true, pu_rd, pu_wr, Int.reduceToNat, Int.toNat_natCast, decide_eq_true_eq, Int.add_zero, Bool.false_eq_true, if_pos, if_neg]
  · by_cases c2 : w ≤ m
    · simp (disch := omega) only [leb_iff, ltb_iff, eqb_iff, pu_rmP, pu_dvP, pu_bs, pu_b0, pu_b1, pu_c0, pu_c1, pu_lt, pu_rdN, pu_wrN, hs_at, hs_cell, hs_slot, if_true, if_false, true_and, and_true, pu_rd, pu_wr, Int.reduceToNat, Int.toNat_natCast, decide_eq_true_eq, Int.add_zero, Bool.false_eq_true, if_pos, if_neg]
    · simp (disch := omega) only [leb_iff, ltb_iff, eqb_iff, pu_rmP, pu_dvP, pu_bs, pu_b0, pu_b1, pu_c0, pu_c1, pu_lt, pu_rdN, pu_wrN, hs_at, hs_cell, hs_slot, if_true, if_false, true_and, and_true, pu_rd, pu_wr, Int.reduceToNat, Int.toNat_natCast, decide_eq_true_eq, Int.add_zero, Bool.false_eq_true, if_pos, if_neg]
theorem q_many (i : Inv h) : 0 ≤ h 84 42 ∧ h 84 42 ≤ 12 := by
  rcases i.told with ⟨o, t, w⟩ | ⟨o, t, w, w2, _⟩
  · exact o.many
  · omega
theorem q_checkFeast (i : Inv h) {f : Int} (hf : rg f) : M_FB_checkFeast h f = some (if 0 ≤ f ∧ f < h 84 42 then 0 else 1, 0, h) := by
  have hm := q_many i
  unfold M_FB_checkFeast rg at *
  rw [cb_many i.cb]
  by_cases c1 : f < 0
  · simp (disch := omega) only [leb_iff, ltb_iff, eqb_iff, pu_rmP, pu_dvP, pu_bs, pu_b0, pu_b1, pu_c0, pu_c1, pu_lt, pu_rdN, pu_wrN, hs_at, hs_cell, hs_slot, if_true, if_false, true_and, and_true, pu_rd, pu_wr, Int.reduceToNat, Int.toNat_natCast, decide_eq_true_eq, Int.add_zero, Bool.false_eq_true, if_pos, if_neg]
  · by_cases c2 : f < h 84 42
    · simp (disch := omega) only [leb_iff, ltb_iff, eqb_iff, pu_rmP, pu_dvP, pu_bs, pu_b0, pu_b1, pu_c0, pu_c1, pu_lt, pu_rdN, pu_wrN, hs_at, hs_cell, hs_slot, if_true, if_false, true_and, and_true, pu_rd, pu_wr, Int.reduceToNat, Int.toNat_natCast, decide_eq_true_eq, Int.add_zero, Bool.false_eq_true, if_pos, if_neg]
    · simp (disch := omega) only [leb_iff, ltb_iff, eqb_iff, pu_rmP, pu_dvP, pu_bs, pu_b0, pu_b1, pu_c0, pu_c1, pu_lt, pu_rdN, pu_wrN, hs_at, hs_cell, hs_slot, if_true, if_false, true_and, and_true, pu_rd, pu_wr, Int.reduceToNat, Int.toNat_natCast, decide_eq_true_eq, Int.add_zero, Bool.false_eq_true, if_pos, if_neg]
theorem q_checkBook (i : Inv h) : M_FB_checkBook h = some (if 0 < h 84 0 then 0 else 4, 0, h) := by
  unfold M_FB_checkBook
  rcases i.told with ⟨o, t, w⟩ | ⟨o, t, w, _⟩
  · rw [t]
    simp (disch := omega) only [leb_iff, ltb_iff, eqb_iff, pu_rmP, pu_dvP, pu_bs, pu_b0, pu_b1, pu_c0, pu_c1, pu_lt, pu_rdN, pu_wrN, hs_at, hs_cell, hs_slot, if_true, if_false, true_and, and_true, pu_rd, pu_wr, Int.reduceToNat, Int.toNat_natCast, decide_eq_true_eq, Int.add_zero, Bool.false_eq_true, if_pos, if_neg]
  · rw [t]
    simp (disch := omega) only [leb_iff, ltb_iff, eqb_iff, pu_rmP, pu_dvP, pu_bs, pu_b0, pu_b1, pu_c0, pu_c1, pu_lt, pu_rdN, pu_wrN, hs_at, hs_cell, hs_slot, if_true, if_false, true_and, and_true, pu_rd, pu_wr, Int.reduceToNat, Int.toNat_natCast, decide_eq_true_eq, Int.add_zero, Bool.false_eq_true, if_pos, if_neg]
theorem q_isYear (i : Inv h) {y : Int} (hy : rg y) : M_Md_isYear h y = some (if 0 < h 84 0 ∧ 0 ≤ y ∧ y ≤ 9999 then 1 else 0) := by
  unfold M_Md_isYear M_Md_hasBook rg at *
  have hw : 0 ≤ h 84 0 ∧ h 84 0 ≤ 9 := by
    rcases i.told with ⟨o, t, w⟩ | ⟨o, t, w, _⟩
    · have := o.week; omega
    · omega
  by_cases c1 : 0 < h 84 0
  · by_cases c2 : 0 ≤ y ∧ y ≤ 9999
    · simp (disch := omega) only [leb_iff, ltb_iff, eqb_iff, pu_rmP, pu_dvP, pu_bs, pu_b0, pu_b1, pu_c0, pu_c1, pu_lt, pu_rdN, pu_wrN, hs_at, hs_cell, hs_slot, if_true, if_false, true_and, and_true, pu_rd, pu_wr, Int.reduceToNat, Int.toNat_natCast, decide_eq_true_eq, Int.add_zero, Bool.false_eq_true, if_pos, if_neg, m_isIn]
    · simp (disch := omega) only [leb_iff, ltb_iff, eqb_iff, pu_rmP, pu_dvP, pu_bs, pu_b0, pu_b1, pu_c0, pu_c1, pu_lt, pu_rdN, pu_wrN, hs_at, hs_cell, hs_slot, if_true, if_false, true_and, and_true, pu_rd, pu_wr, Int.reduceToNat, Int.toNat_natCast, decide_eq_true_eq, Int.add_zero, Bool.false_eq_true, if_pos, if_neg, m_isIn]
  · simp (disch := omega) only [leb_iff, ltb_iff, eqb_iff, pu_rmP, pu_dvP, pu_bs, pu_b0, pu_b1, pu_c0, pu_c1, pu_lt, pu_rdN, pu_wrN, hs_at, hs_cell, hs_slot, if_true, if_false, true_and, and_true, pu_rd, pu_wr, Int.reduceToNat, Int.toNat_natCast, decide_eq_true_eq, Int.add_zero, Bool.false_eq_true, if_pos, if_neg]
theorem q_hasBook (i : Inv h) : M_Md_hasBook h = some (if 0 < h 84 0 then 1 else 0) := by
  unfold M_Md_hasBook
  have hw : 0 ≤ h 84 0 ∧ h 84 0 ≤ 9 := by
    rcases i.told with ⟨o, t, w⟩ | ⟨o, t, w, _⟩
    · have := o.week; omega
    · omega
  by_cases c1 : 0 < h 84 0
  · simp (disch := omega) only [leb_iff, ltb_iff, eqb_iff, pu_rmP, pu_dvP, pu_bs, pu_b0, pu_b1, pu_c0, pu_c1, pu_lt, pu_rdN, pu_wrN, hs_at, hs_cell, hs_slot, if_true, if_false, true_and, and_true, pu_rd, pu_wr, Int.reduceToNat, Int.toNat_natCast, decide_eq_true_eq, Int.add_zero, Bool.false_eq_true, if_pos, if_neg]
  · simp (disch := omega) only [leb_iff, ltb_iff, eqb_iff, pu_rmP, pu_dvP, pu_bs, pu_b0, pu_b1, pu_c0, pu_c1, pu_lt, pu_rdN, pu_wrN, hs_at, hs_cell, hs_slot, if_true, if_false, true_and, and_true, pu_rd, pu_wr, Int.reduceToNat, Int.toNat_natCast, decide_eq_true_eq, Int.add_zero, Bool.false_eq_true, if_pos, if_neg]
theorem q_isFeast (i : Inv h) {f : Int} (hf : rg f) : M_Md_isFeast h f = some (if 0 ≤ f ∧ f < h 84 42 then 1 else 0) := by
  have hm := q_many i
  unfold M_Md_isFeast rg at *
  by_cases c1 : 0 ≤ f ∧ f < h 84 42
  · simp (disch := omega) only [leb_iff, ltb_iff, eqb_iff, pu_rmP, pu_dvP, pu_bs, pu_b0, pu_b1, pu_c0, pu_c1, pu_lt, pu_rdN, pu_wrN, hs_at, hs_cell, hs_slot, if_true, if_false, true_and, and_true, pu_rd, pu_wr, Int.reduceToNat, Int.toNat_natCast, decide_eq_true_eq, Int.add_zero, Bool.false_eq_true, if_pos, if_neg, m_isIn]
  · simp (disch := omega) only [leb_iff, ltb_iff, eqb_iff, pu_rmP, pu_dvP, pu_bs, pu_b0, pu_b1, pu_c0, pu_c1, pu_lt, pu_rdN, pu_wrN, hs_at, hs_cell, hs_slot, if_true, if_false, true_and, and_true, pu_rd, pu_wr, Int.reduceToNat, Int.toNat_natCast, decide_eq_true_eq, Int.add_zero, Bool.false_eq_true, if_pos, if_neg, m_isIn]
theorem Inv.okb (i : Inv h) (w : 0 < h 84 0) : OkB (h 84) := by
  rcases i.told with ⟨o, _, _⟩ | ⟨_, _, z, _⟩
  · exact o
  · omega
theorem Inv.okf (i : Inv h) {f : Int} (w : f < h 84 42) (h0 : 0 ≤ f) : OkB (h 84) := by
  rcases i.told with ⟨o, _, _⟩ | ⟨_, _, _, z, _⟩
  · exact o
  · omega
theorem q_settled (hN : 2000 < N) (i : Inv h) (ok : OkB (h 84)) {y : Int} (h0 : 0 ≤ y) (h1 : y ≤ 9999) : ∃ h', M_FB_settledYear N h y = some h' ∧ Inv h' ∧ h' 84 = h 84 ∧ PS (h 84) (lp (h 84) y) (psc (h 84) y) (res (h 84) (lp (h 84) y) (psc (h 84) y)) h' := by
  obtain ⟨h', e1, e2, e3, e4⟩ := c_settle (h := h) (N := N) (by omega) ok i.cb (i.pl ok) h0 (by omega)
  refine ⟨h', ?_, Inv_class i e2.fc (fun _ => e3) (fun o => e2.ro (i.ro o)), e2 84 (by omega), e4⟩
  unfold M_FB_settledYear
  rw [c_sortOf ok i.cb h0 (by omega), pu_bs, e1, pu_bs]
theorem q_isDay (hN : 2000 < N) (i : Inv h) {y d : Int} (hy : rg y) (hd : rg d) : (∃ h', M_Md_isDay N h y d = some (1, h') ∧ Fz h h' ∧ h' 83 14 = wdy (h 84) y ∧ MS (h 84) (lp (h 84) y) (psc (h 84) y) (res (h 84) (lp (h 84) y) (psc (h 84) y)) h' ∧ (0 < h 84 0 ∧ 0 ≤ y ∧ y ≤ 9999 ∧ 0 ≤ d ∧ d < yd (h 84) + lp (h 84) y)) ∨ (M_Md_isDay N h y d = some (0, h) ∧ ¬ (0 < h 84 0 ∧ 0 ≤ y ∧ y ≤ 9999 ∧ 0 ≤ d ∧ d < yd (h 84) + lp (h 84) y)) := by
  unfold M_Md_isDay
  rw [q_isYear i hy, pu_bs]
  by_cases c1 : 0 < h 84 0 ∧ 0 ≤ y ∧ y ≤ 9999
  · have ok := i.okb c1.1
    have hyd := yd_le ok
    have hlp := lp_le (h 84) y
    unfold rg at *
    have hlen := m_lengthOf (h := h) (N := N) (by omega) ok c1.2.1 (by omega)
    by_cases c2 : 0 ≤ d ∧ d < yd (h 84) + lp (h 84) y
    · obtain ⟨h', e1, e2, e3, e4⟩ := m_resolves (h := h) (N := N) (by omega) ok rfl c1.2.1 (by omega)
      refine Or.inl ⟨h', ?_, e2.fz, e3, e4, by omega⟩
      simp (disch := omega) only [leb_iff, ltb_iff, eqb_iff, pu_rmP, pu_dvP, pu_bs, pu_b0, pu_b1, pu_c0, pu_c1, pu_lt, pu_rdN, pu_wrN, hs_at, hs_cell, hs_slot, if_true, if_false, true_and, and_true, pu_rd, pu_wr, Int.reduceToNat, Int.toNat_natCast, decide_eq_true_eq, Int.add_zero, Bool.false_eq_true, if_pos, if_neg, hlen, m_isIn, e1]
    · refine Or.inr ⟨?_, fun z => c2 z.2.2.2⟩
      simp (disch := omega) only [leb_iff, ltb_iff, eqb_iff, pu_rmP, pu_dvP, pu_bs, pu_b0, pu_b1, pu_c0, pu_c1, pu_lt, pu_rdN, pu_wrN, hs_at, hs_cell, hs_slot, if_true, if_false, true_and, and_true, pu_rd, pu_wr, Int.reduceToNat, Int.toNat_natCast, decide_eq_true_eq, Int.add_zero, Bool.false_eq_true, if_pos, if_neg, hlen, m_isIn]
  · refine Or.inr ⟨?_, fun z => c1 ⟨z.1, z.2.1, z.2.2.1⟩⟩
    simp (disch := omega) only [leb_iff, ltb_iff, eqb_iff, pu_rmP, pu_dvP, pu_bs, pu_b0, pu_b1, pu_c0, pu_c1, pu_lt, pu_rdN, pu_wrN, hs_at, hs_cell, hs_slot, if_true, if_false, true_and, and_true, pu_rd, pu_wr, Int.reduceToNat, Int.toNat_natCast, decide_eq_true_eq, Int.add_zero, Bool.false_eq_true, if_pos, if_neg]
theorem q_checkDay (i : Inv h) {y d : Int} (hy : rg y) (hd : rg d) : M_FB_checkDay h y d = some (if 0 < h 84 0 ∧ 0 ≤ y ∧ y ≤ 9999 ∧ 0 ≤ d ∧ d < yd (h 84) + lp (h 84) y then 0 else 1, 0, h) := by
  unfold M_FB_checkDay
  rw [q_checkYear i hy]
  by_cases c1 : 0 < h 84 0 ∧ 0 ≤ y ∧ y ≤ 9999
  · have ok := i.okb c1.1
    have hyd := yd_le ok
    have hlp := lp_le (h 84) y
    rw [if_pos c1, xb0, c_daysOf ok i.cb c1.2.1 (by omega), pu_bs]
    unfold rg at *
    by_cases c2 : d < 0
    · simp (disch := omega) only [leb_iff, ltb_iff, eqb_iff, pu_rmP, pu_dvP, pu_bs, pu_b0, pu_b1, pu_c0, pu_c1, pu_lt, pu_rdN, pu_wrN, hs_at, hs_cell, hs_slot, if_true, if_false, true_and, and_true, pu_rd, pu_wr, Int.reduceToNat, Int.toNat_natCast, decide_eq_true_eq, Int.add_zero, Bool.false_eq_true, if_pos, if_neg]
    · by_cases c3 : d < yd (h 84) + lp (h 84) y
      · rw [if_pos (show 0 < h 84 0 ∧ 0 ≤ y ∧ y ≤ 9999 ∧ 0 ≤ d ∧ d < yd (h 84) + lp (h 84) y by omega)]
        simp (disch := omega) only [leb_iff, ltb_iff, eqb_iff, pu_rmP, pu_dvP, pu_bs, pu_b0, pu_b1, pu_c0, pu_c1, pu_lt, pu_rdN, pu_wrN, hs_at, hs_cell, hs_slot, if_true, if_false, true_and, and_true, pu_rd, pu_wr, Int.reduceToNat, Int.toNat_natCast, decide_eq_true_eq, Int.add_zero, Bool.false_eq_true, if_pos, if_neg]
      · rw [if_neg (show ¬ (0 < h 84 0 ∧ 0 ≤ y ∧ y ≤ 9999 ∧ 0 ≤ d ∧ d < yd (h 84) + lp (h 84) y) by omega)]
        simp (disch := omega) only [leb_iff, ltb_iff, eqb_iff, pu_rmP, pu_dvP, pu_bs, pu_b0, pu_b1, pu_c0, pu_c1, pu_lt, pu_rdN, pu_wrN, hs_at, hs_cell, hs_slot, if_true, if_false, true_and, and_true, pu_rd, pu_wr, Int.reduceToNat, Int.toNat_natCast, decide_eq_true_eq, Int.add_zero, Bool.false_eq_true, if_pos, if_neg]
  · rw [if_neg c1, xbn (by omega), if_neg (fun z => c1 ⟨z.1, z.2.1, z.2.2.1⟩)]
end Qa
