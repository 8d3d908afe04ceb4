section Qd
variable {h : Hp} {N L : Nat} {xs : Nat → Int32} {v4 : Int}
theorem ckb {α : Type} {v : Int} (hv : v = 0 ∨ v = 1) (k : Option α) : ckB v k = k := by rcases hv with e | e <;> subst e <;> rfl
theorem k_fast (hN : 7000 < N) (i : Inv h) (hv : 0 ≤ v4 ∧ v4 + 6 ≤ L) (k : Hp → Option Int) : ∃ h', Inv h' ∧ Lw_case_8 N L xs v4 h k = k h' := by
  unfold Lw_case_8 M_Lw_fast
  simp (disch := omega) only [rdX_ok hv, pu_bs]
  have ry := px_rg xs v4 1
  have rd := px_rg xs v4 2
  generalize px xs v4 1 = y at *
  generalize px xs v4 2 = d at *
  by_cases c1 : vd (h 84) y d
  · have c1' := c1
    unfold vd at c1'
    have ok := i.okb c1'.1
    have hm := ok.many
    have yr := Yr_of ok c1'.2.1
    have hy := yr.bd ok
    obtain ⟨hC, e1, e2, e3, e4⟩ := q_settled (N := N) (by omega) i ok c1'.2.1 c1'.2.2.1
    have cbC : CB (h 84) hC 23 := by have := e2.cb; rw [e3] at this; exact this
    have ed : ((d.toNat : Nat) : Int) = d := by omega
    refine fin_case (R := fun g => M_Md_fast N g y d) (v := if fsf (h 84) (lp (h 84) y) (psc (h 84) y) d.toNat then 1 else 0) (hC := hC) (code := 0) (idx := 0) ?_ e2 e3 (Or.inl ⟨rfl, rfl⟩) (fun g gi g84 => ?_) k
    · have q := c_isFast (h := hC) (N := N) (by omega) ok cbC yr e4 (d := d.toNat) (by omega)
      rw [ed] at q
      unfold M_FB_fast
      rw [(q_dayC i ry rd).1 c1, xb0, e1, pu_bs, q, pu_bs]
      cases fsf (h 84) (lp (h 84) y) (psc (h 84) y) d.toNat <;> simp (disch := omega) only [leb_iff, ltb_iff, eqb_iff, pu_rmP, pu_dvP, pu_bs, pu_b0, pu_b1, pu_c0, pu_c1, pu_lt, pu_rdN, pu_wrN, hs_at, hs_cell, hs_slot, if_true, if_false, true_and, and_true, pu_rd, pu_wr, Int.reduceToNat, Int.toNat_natCast, decide_eq_true_eq, Int.add_zero, Bool.false_eq_true, if_pos, if_neg]
    · obtain ⟨h', f1, f2, f3, f4⟩ := q_dayR (N := N) (by omega) gi ry rd (by rw [g84]; exact c1)
      rw [g84] at f3
      have q := m_isFast (h := hs h' 83 0 0) (N := N) (by omega) ok yr (f3.th0 0) (d := d.toNat) (by omega)
      rw [ed] at q
      refine ⟨if fsf (h 84) (lp (h 84) y) (psc (h 84) y) d.toNat then 1 else 0, hs h' 83 0 0, ?_, f2.trans Fz_thrown, hs_at, fun _ => rfl⟩
      unfold M_Md_fast
      rw [f1, pu_bs]
      dsimp only
      rw [if_neg ne10, pu_lt, hs_at, if_pos eq00, q, pu_bs]
      cases fsf (h 84) (lp (h 84) y) (psc (h 84) y) d.toNat <;> simp (disch := omega) only [leb_iff, ltb_iff, eqb_iff, pu_rmP, pu_dvP, pu_bs, pu_b0, pu_b1, pu_c0, pu_c1, pu_lt, pu_rdN, pu_wrN, hs_at, hs_cell, hs_slot, if_true, if_false, true_and, and_true, pu_rd, pu_wr, Int.reduceToNat, Int.toNat_natCast, decide_eq_true_eq, Int.add_zero, Bool.false_eq_true, if_pos, if_neg]
  · refine fin_case (R := fun g => M_Md_fast N g y d) (code := 1) (v := 0) (hC := h) (idx := 1) ?_ i rfl (Or.inr ⟨by omega, rfl, by omega, by omega⟩) (fun g gi g84 => ?_) k
    · unfold M_FB_fast
      rw [(q_dayC i ry rd).2 c1, xbn (by omega)]
    · refine ⟨0, hs g 83 0 1, ?_, Fz_thrown, hs_at, fun z => by omega⟩
      unfold M_Md_fast
      rw [q_dayN (by omega) gi ry rd (by rw [g84]; exact c1), pu_bs]
      dsimp only
      rw [if_pos eq00, pu_lt, hs_at, if_neg ne10]
      exact pu_c0 _
theorem k_lesson (hN : 7000 < N) (i : Inv h) (hv : 0 ≤ v4 ∧ v4 + 6 ≤ L) (k : Hp → Option Int) : ∃ h', Inv h' ∧ Lw_case_9 N L xs v4 h k = k h' := by
  unfold Lw_case_9 M_Lw_lesson
  simp (disch := omega) only [rdX_ok hv, pu_bs]
  have ry := px_rg xs v4 1
  have rd := px_rg xs v4 2
  generalize px xs v4 1 = y at *
  generalize px xs v4 2 = d at *
  by_cases c1 : vd (h 84) y d
  · have c1' := c1
    unfold vd at c1'
    have ok := i.okb c1'.1
    have hm := ok.many
    have yr := Yr_of ok c1'.2.1
    have hy := yr.bd ok
    obtain ⟨hC, e1, e2, e3, e4⟩ := q_settled (N := N) (by omega) i ok c1'.2.1 c1'.2.2.1
    have cbC : CB (h 84) hC 23 := by have := e2.cb; rw [e3] at this; exact this
    have ed : ((d.toNat : Nat) : Int) = d := by omega
    have qp := c_isPlain (h := hC) ok yr e4 (d := d.toNat) (by omega)
    rw [ed] at qp
    have refR : ∀ g, Inv g → g 84 = h 84 → ∃ h', Fz g h' ∧ MS (h 84) (lp (h 84) y) (psc (h 84) y) (res (h 84) (lp (h 84) y) (psc (h 84) y)) h' ∧ h' 83 0 = 0 ∧ M_Md_lesson N g y d = (if eqb (if plf (h 84) (lp (h 84) y) (psc (h 84) y) d.toNat then 1 else 0) 0 then some (-1, h') else if ltb d (h' 83 15) then Md_lesson_L57 N d N 0 0 h' else Md_lesson_L57 N d N 0 (h' 83 15) h') := by
      intro g gi g84
      obtain ⟨h', f1, f2, f3, f4⟩ := q_dayR (N := N) (by omega) gi ry rd (by rw [g84]; exact c1)
      rw [g84] at f3
      obtain ⟨h2, q1, q2⟩ := m_isPlain (h := hs h' 83 0 0) (N := N) (by omega) ok yr (f3.th0 0) (d := d.toNat) (by omega)
      rw [ed] at q1
      refine ⟨h2, (f2.trans Fz_thrown).trans q2.fq.fz, (f3.th0 0).fb q2, by rw [q2.2 0 (by omega) (by omega) (by omega), hs_at], ?_⟩
      unfold M_Md_lesson
      rw [f1, pu_bs]
      dsimp only
      rw [pu_lt, if_neg ne10]
      refine jt0.trans ?_
      rw [q1, pu_bs]
      dsimp only
      rw [pu_lt]
    cases c3 : plf (h 84) (lp (h 84) y) (psc (h 84) y) d.toNat
    · refine fin_case (R := fun g => M_Md_lesson N g y d) (v := -1) (hC := hC) (code := 0) (idx := 0) ?_ e2 e3 (Or.inl ⟨rfl, rfl⟩) (fun g gi g84 => ?_) k
      · unfold M_FB_lesson
        rw [(q_dayC i ry rd).1 c1, xb0, e1, pu_bs, qp, pu_bs, c3]
        simp (disch := omega) only [leb_iff, ltb_iff, eqb_iff, pu_rmP, pu_dvP, pu_bs, pu_b0, pu_b1, pu_c0, pu_c1, pu_lt, pu_rdN, pu_wrN, hs_at, hs_cell, hs_slot, if_true, if_false, true_and, and_true, pu_rd, pu_wr, Int.reduceToNat, Int.toNat_natCast, decide_eq_true_eq, Int.add_zero, Bool.false_eq_true, if_pos, if_neg]
      · obtain ⟨h', f1, f2, f3, f4⟩ := refR g gi g84
        refine ⟨-1, h', ?_, f1, f3, fun _ => rfl⟩
        rw [f4, c3]
        simp (disch := omega) only [leb_iff, ltb_iff, eqb_iff, pu_rmP, pu_dvP, pu_bs, pu_b0, pu_b1, pu_c0, pu_c1, pu_lt, pu_rdN, pu_wrN, hs_at, hs_cell, hs_slot, if_true, if_false, true_and, and_true, pu_rd, pu_wr, Int.reduceToNat, Int.toNat_natCast, decide_eq_true_eq, Int.add_zero, Bool.false_eq_true, if_pos, if_neg]
    · by_cases c4 : d < psc (h 84) y
      · have q := c_plainDays (h := hC) (N := N) (by omega) ok yr e4 (i := 0) (j := d.toNat) (by omega) (by omega)
        rw [Int.natCast_zero, ed] at q
        refine fin_case (R := fun g => M_Md_lesson N g y d) (v := cnt (plf (h 84) (lp (h 84) y) (psc (h 84) y)) d.toNat - cnt (plf (h 84) (lp (h 84) y) (psc (h 84) y)) 0) (hC := hC) (code := 0) (idx := 0) ?_ e2 e3 (Or.inl ⟨rfl, rfl⟩) (fun g gi g84 => ?_) k
        · unfold M_FB_lesson
          rw [(q_dayC i ry rd).1 c1, xb0, e1, pu_bs, qp, pu_bs, c3, e4.la.pasch]
          simp (disch := omega) only [leb_iff, ltb_iff, eqb_iff, pu_rmP, pu_dvP, pu_bs, pu_b0, pu_b1, pu_c0, pu_c1, pu_lt, pu_rdN, pu_wrN, hs_at, hs_cell, hs_slot, if_true, if_false, true_and, and_true, pu_rd, pu_wr, Int.reduceToNat, Int.toNat_natCast, decide_eq_true_eq, Int.add_zero, Bool.false_eq_true, if_pos, if_neg, q]
        · obtain ⟨h', f1, f2, f3, f4⟩ := refR g gi g84
          obtain ⟨h2, q1, q2⟩ := m_lesson_L (h := h') (N := N) (by omega) ok yr f2 (i := 0) (j := d.toNat) (by omega) (by omega)
          rw [Int.natCast_zero, ed] at q1
          refine ⟨_, h2, ?_, f1.trans q2.fq.fz, by rw [q2.2 0 (by omega) (by omega) (by omega)]; exact f3, fun _ => rfl⟩
          rw [f4, c3, f2.my.pasch]
          simp (disch := omega) only [leb_iff, ltb_iff, eqb_iff, pu_rmP, pu_dvP, pu_bs, pu_b0, pu_b1, pu_c0, pu_c1, pu_lt, pu_rdN, pu_wrN, hs_at, hs_cell, hs_slot, if_true, if_false, true_and, and_true, pu_rd, pu_wr, Int.reduceToNat, Int.toNat_natCast, decide_eq_true_eq, Int.add_zero, Bool.false_eq_true, if_pos, if_neg, q1]
      · have ep : (((psc (h 84) y).toNat : Nat) : Int) = psc (h 84) y := by omega
        have q := c_plainDays (h := hC) (N := N) (by omega) ok yr e4 (i := (psc (h 84) y).toNat) (j := d.toNat) (by omega) (by omega)
        rw [ed, ep] at q
        refine fin_case (R := fun g => M_Md_lesson N g y d) (v := cnt (plf (h 84) (lp (h 84) y) (psc (h 84) y)) d.toNat - cnt (plf (h 84) (lp (h 84) y) (psc (h 84) y)) (psc (h 84) y).toNat) (hC := hC) (code := 0) (idx := 0) ?_ e2 e3 (Or.inl ⟨rfl, rfl⟩) (fun g gi g84 => ?_) k
        · unfold M_FB_lesson
          rw [(q_dayC i ry rd).1 c1, xb0, e1, pu_bs, qp, pu_bs, c3, e4.la.pasch]
          simp (disch := omega) only [leb_iff, ltb_iff, eqb_iff, pu_rmP, pu_dvP, pu_bs, pu_b0, pu_b1, pu_c0, pu_c1, pu_lt, pu_rdN, pu_wrN, hs_at, hs_cell, hs_slot, if_true, if_false, true_and, and_true, pu_rd, pu_wr, Int.reduceToNat, Int.toNat_natCast, decide_eq_true_eq, Int.add_zero, Bool.false_eq_true, if_pos, if_neg, q]
        · obtain ⟨h', f1, f2, f3, f4⟩ := refR g gi g84
          obtain ⟨h2, q1, q2⟩ := m_lesson_L (h := h') (N := N) (by omega) ok yr f2 (i := (psc (h 84) y).toNat) (j := d.toNat) (by omega) (by omega)
          rw [ed, ep] at q1
          refine ⟨_, h2, ?_, f1.trans q2.fq.fz, by rw [q2.2 0 (by omega) (by omega) (by omega)]; exact f3, fun _ => rfl⟩
          rw [f4, c3, f2.my.pasch]
          simp (disch := omega) only [leb_iff, ltb_iff, eqb_iff, pu_rmP, pu_dvP, pu_bs, pu_b0, pu_b1, pu_c0, pu_c1, pu_lt, pu_rdN, pu_wrN, hs_at, hs_cell, hs_slot, if_true, if_false, true_and, and_true, pu_rd, pu_wr, Int.reduceToNat, Int.toNat_natCast, decide_eq_true_eq, Int.add_zero, Bool.false_eq_true, if_pos, if_neg, q1]
  · refine fin_case (R := fun g => M_Md_lesson N g y d) (code := 1) (v := 0) (hC := h) (idx := 1) ?_ i rfl (Or.inr ⟨by omega, rfl, by omega, by omega⟩) (fun g gi g84 => ?_) k
    · unfold M_FB_lesson
      rw [(q_dayC i ry rd).2 c1, xbn (by omega)]
    · refine ⟨0, hs g 83 0 1, ?_, Fz_thrown, hs_at, fun z => by omega⟩
      unfold M_Md_lesson
      rw [q_dayN (by omega) gi ry rd (by rw [g84]; exact c1), pu_bs]
      dsimp only
      rw [pu_lt, if_pos eq00]
      exact jtv (by omega)
theorem k_joined (hN : 7000 < N) (i : Inv h) (hv : 0 ≤ v4 ∧ v4 + 6 ≤ L) (k : Hp → Option Int) : ∃ h', Inv h' ∧ Lw_case_10 N L xs v4 h k = k h' := by
  unfold Lw_case_10 M_Lw_joined
  simp (disch := omega) only [rdX_ok hv, pu_bs]
  have ry := px_rg xs v4 1
  have rd := px_rg xs v4 2
  generalize px xs v4 1 = y at *
  generalize px xs v4 2 = d at *
  by_cases c1 : vd (h 84) y d
  · have c1' := c1
    unfold vd at c1'
    have ok := i.okb c1'.1
    have hm := ok.many
    have yr := Yr_of ok c1'.2.1
    have hy := yr.bd ok
    obtain ⟨hC, e1, e2, e3, e4⟩ := q_settled (N := N) (by omega) i ok c1'.2.1 c1'.2.2.1
    have cbC : CB (h 84) hC 23 := by have := e2.cb; rw [e3] at this; exact this
    have ed : ((d.toNat : Nat) : Int) = d := by omega
    refine fin_case (R := fun g => M_Md_joined N g y d) (v := (bsm (fun g => decide ((res (h 84) (lp (h 84) y) (psc (h 84) y)).2.1 g = 2 ∧ dyf (h 84) (lp (h 84) y) (psc (h 84) y) g = d)) (h 84 42).toNat : Int)) (hC := hC) (code := 0) (idx := 0) ?_ e2 e3 (Or.inl ⟨rfl, rfl⟩) (fun g gi g84 => ?_) k
    · have q := c_joinedTo (h := hC) (N := N) (by omega) ok cbC yr e4 (fun f hf => res_fa ok _ _ hf) (d := d) (by omega)
      unfold M_FB_joined
      rw [(q_dayC i ry rd).1 c1, xb0, e1, pu_bs, q, pu_bs]
    · obtain ⟨h', f1, f2, f3, f4⟩ := q_dayR (N := N) (by omega) gi ry rd (by rw [g84]; exact c1)
      rw [g84] at f3
      have q := m_joined_L (h := hs h' 83 0 0) (N := N) (by omega) ok yr (f3.th0 0) (d := d) (by omega)
      refine ⟨_, hs h' 83 0 0, ?_, f2.trans Fz_thrown, hs_at, fun _ => rfl⟩
      unfold M_Md_joined
      rw [f1, pu_bs]
      dsimp only
      rw [pu_lt, if_neg ne10]
      exact jt0.trans q
  · refine fin_case (R := fun g => M_Md_joined N g y d) (code := 1) (v := 0) (hC := h) (idx := 1) ?_ i rfl (Or.inr ⟨by omega, rfl, by omega, by omega⟩) (fun g gi g84 => ?_) k
    · unfold M_FB_joined
      rw [(q_dayC i ry rd).2 c1, xbn (by omega)]
    · refine ⟨0, hs g 83 0 1, ?_, Fz_thrown, hs_at, fun z => by omega⟩
      unfold M_Md_joined
      rw [q_dayN (by omega) gi ry rd (by rw [g84]; exact c1), pu_bs]
      dsimp only
      rw [pu_lt, if_pos eq00]
      exact jtv (by omega)
theorem k_feast (hN : 7000 < N) (i : Inv h) (hv : 0 ≤ v4 ∧ v4 + 6 ≤ L) (k : Hp → Option Int) : ∃ h', Inv h' ∧ Lw_case_11 N L xs v4 h k = k h' := by
  unfold Lw_case_11 M_Lw_feast
  simp (disch := omega) only [rdX_ok hv, pu_bs]
  have rf := px_rg xs v4 1
  have rw := px_rg xs v4 2
  generalize px xs v4 1 = f at *
  generalize px xs v4 2 = w at *
  have hm := q_many i
  unfold rg at rf rw
  by_cases c1 : 0 ≤ f ∧ f < h 84 42
  · have ok := i.okf c1.2 c1.1
    by_cases c2 : 0 ≤ w ∧ w ≤ 6
    · have ef : ((f.toNat : Nat) : Int) = f := by omega
      have hfe := cb_fea i.cb (f := f.toNat) (by omega)
      have hmo := ok.mon
      have hmv := c_isMoving ok i.cb (f := f.toNat) (by omega)
      rw [ef] at hmv
      refine fin_case (R := fun g => M_Md_feast g f w) (v := fq (h 84) f.toNat w.toNat) (hC := h) (code := 0) (idx := 0) ?_ i rfl (Or.inl ⟨rfl, rfl⟩) (fun g gi g84 => ?_) k
      · unfold M_FB_feast
        rw [q_checkFeast i (f := f) ⟨rf.1, rf.2⟩, if_pos c1, xb0, q_checkWhat (w := w) ⟨rw.1, rw.2⟩ (by omega), if_pos c2, xb0]
        rcases (show w = 0 ∨ w = 1 ∨ w = 2 ∨ w = 3 ∨ w = 4 ∨ w = 5 ∨ w = 6 by omega) with e | e | e | e | e | e | e <;> subst e
        · simp (disch := omega) only [leb_iff, ltb_iff, eqb_iff, pu_rmP, pu_dvP, pu_bs, pu_b0, pu_b1, pu_c0, pu_c1, pu_lt, pu_rdN, pu_wrN, hs_at, hs_cell, hs_slot, if_true, if_false, true_and, and_true, pu_rd, pu_wr, Int.reduceToNat, Int.toNat_natCast, decide_eq_true_eq, Int.add_zero, Bool.false_eq_true, if_pos, if_neg, hfe.1]
        · rw [hmv]
          rcases mv01 (ok.fea f.toNat (by omega)) with z | z
          · simp (disch := omega) only [leb_iff, ltb_iff, eqb_iff, pu_rmP, pu_dvP, pu_bs, pu_b0, pu_b1, pu_c0, pu_c1, pu_lt, pu_rdN, pu_wrN, hs_at, hs_cell, hs_slot, if_true, if_false, true_and, and_true, pu_rd, pu_wr, Int.reduceToNat, Int.toNat_natCast, decide_eq_true_eq, Int.add_zero, Bool.false_eq_true, if_pos, if_neg, z]
          · simp (disch := omega) only [leb_iff, ltb_iff, eqb_iff, pu_rmP, pu_dvP, pu_bs, pu_b0, pu_b1, pu_c0, pu_c1, pu_lt, pu_rdN, pu_wrN, hs_at, hs_cell, hs_slot, if_true, if_false, true_and, and_true, pu_rd, pu_wr, Int.reduceToNat, Int.toNat_natCast, decide_eq_true_eq, Int.add_zero, Bool.false_eq_true, if_pos, if_neg, z]
        · simp (disch := omega) only [leb_iff, ltb_iff, eqb_iff, pu_rmP, pu_dvP, pu_bs, pu_b0, pu_b1, pu_c0, pu_c1, pu_lt, pu_rdN, pu_wrN, hs_at, hs_cell, hs_slot, if_true, if_false, true_and, and_true, pu_rd, pu_wr, Int.reduceToNat, Int.toNat_natCast, decide_eq_true_eq, Int.add_zero, Bool.false_eq_true, if_pos, if_neg, hfe.2.1]
        · simp (disch := omega) only [leb_iff, ltb_iff, eqb_iff, pu_rmP, pu_dvP, pu_bs, pu_b0, pu_b1, pu_c0, pu_c1, pu_lt, pu_rdN, pu_wrN, hs_at, hs_cell, hs_slot, if_true, if_false, true_and, and_true, pu_rd, pu_wr, Int.reduceToNat, Int.toNat_natCast, decide_eq_true_eq, Int.add_zero, Bool.false_eq_true, if_pos, if_neg, hfe.2.2.1]
        · simp (disch := omega) only [leb_iff, ltb_iff, eqb_iff, pu_rmP, pu_dvP, pu_bs, pu_b0, pu_b1, pu_c0, pu_c1, pu_lt, pu_rdN, pu_wrN, hs_at, hs_cell, hs_slot, if_true, if_false, true_and, and_true, pu_rd, pu_wr, Int.reduceToNat, Int.toNat_natCast, decide_eq_true_eq, Int.add_zero, Bool.false_eq_true, if_pos, if_neg, hfe.2.2.2.1]
        · simp (disch := omega) only [leb_iff, ltb_iff, eqb_iff, pu_rmP, pu_dvP, pu_bs, pu_b0, pu_b1, pu_c0, pu_c1, pu_lt, pu_rdN, pu_wrN, hs_at, hs_cell, hs_slot, if_true, if_false, true_and, and_true, pu_rd, pu_wr, Int.reduceToNat, Int.toNat_natCast, decide_eq_true_eq, Int.add_zero, Bool.false_eq_true, if_pos, if_neg, hfe.2.2.2.2.1]
        · simp (disch := omega) only [leb_iff, ltb_iff, eqb_iff, pu_rmP, pu_dvP, pu_bs, pu_b0, pu_b1, pu_c0, pu_c1, pu_lt, pu_rdN, pu_wrN, hs_at, hs_cell, hs_slot, if_true, if_false, true_and, and_true, pu_rd, pu_wr, Int.reduceToNat, Int.toNat_natCast, decide_eq_true_eq, Int.add_zero, Bool.false_eq_true, if_pos, if_neg, hfe.2.2.2.2.2]
      · have q := m_of0 (h := hs g 83 0 0) (f := f.toNat) (w := w.toNat) (by omega) (by omega)
        rw [ef, show ((w.toNat : Nat) : Int) = w by omega, hs_cell (by omega), g84] at q
        refine ⟨_, hs g 83 0 0, ?_, Fz_thrown, hs_at, fun _ => rfl⟩
        unfold M_Md_feast
        rw [q_isFeast gi (f := f) ⟨rf.1, rf.2⟩, pu_bs, g84, if_pos c1, if_neg ne10, m_isIn (by omega) (by omega) (by omega) (by omega) (by omega) (by omega), pu_bs, if_pos c2, if_neg ne10, jt0, q, pu_bs]
    · refine fin_case (R := fun g => M_Md_feast g f w) (code := 2) (v := 0) (hC := h) (idx := 2) ?_ i rfl (Or.inr ⟨by omega, rfl, by omega, by omega⟩) (fun g gi g84 => ?_) k
      · unfold M_FB_feast
        rw [q_checkFeast i (f := f) ⟨rf.1, rf.2⟩, if_pos c1, xb0, q_checkWhat (w := w) ⟨rw.1, rw.2⟩ (by omega), if_neg c2, xbn (by omega)]
      · refine ⟨0, hs g 83 0 2, ?_, Fz_thrown, hs_at, fun z => by omega⟩
        unfold M_Md_feast
        rw [q_isFeast gi (f := f) ⟨rf.1, rf.2⟩, pu_bs, g84, if_pos c1, if_neg ne10, m_isIn (by omega) (by omega) (by omega) (by omega) (by omega) (by omega), pu_bs, if_neg c2, if_pos eq00]
        exact jtv (by omega)
  · refine fin_case (R := fun g => M_Md_feast g f w) (code := 1) (v := 0) (hC := h) (idx := 1) ?_ i rfl (Or.inr ⟨by omega, rfl, by omega, by omega⟩) (fun g gi g84 => ?_) k
    · unfold M_FB_feast
      rw [q_checkFeast i (f := f) ⟨rf.1, rf.2⟩, if_neg c1, xbn (by omega)]
    · refine ⟨0, hs g 83 0 1, ?_, Fz_thrown, hs_at, fun z => by omega⟩
      unfold M_Md_feast
      rw [q_isFeast gi (f := f) ⟨rf.1, rf.2⟩, pu_bs, g84, if_neg c1, if_pos eq00]
      exact jtv (by omega)
theorem k_of (hN : 7000 < N) (i : Inv h) (hv : 0 ≤ v4 ∧ v4 + 6 ≤ L) (k : Hp → Option Int) : ∃ h', Inv h' ∧ Lw_case_12 N L xs v4 h k = k h' := by
  unfold Lw_case_12 M_Lw_of
  simp (disch := omega) only [rdX_ok hv, pu_bs]
  have rf := px_rg xs v4 1
  have ry := px_rg xs v4 2
  have rw := px_rg xs v4 3
  generalize px xs v4 1 = f at *
  generalize px xs v4 2 = y at *
  generalize px xs v4 3 = w at *
  have hm := q_many i
  unfold rg at rf rw
  have ry' := ry
  unfold rg at ry'
  by_cases c1 : 0 ≤ f ∧ f < h 84 42
  · by_cases c0 : 0 < h 84 0 ∧ 0 ≤ y ∧ y ≤ 9999
    · have ok := i.okf c1.2 c1.1
      by_cases c2 : 0 ≤ w ∧ w ≤ 4
      · have ef : ((f.toNat : Nat) : Int) = f := by omega
        have hf : ((f.toNat : Nat) : Int) < h 84 42 := by omega
        have yr := Yr_of ok c0.2.1
        have hy := yr.bd ok
        have hdb := dyf_bd (b := h 84) (lp (h 84) y) (psc (h 84) y) f.toNat
        obtain ⟨hC, e1, e2, e3, e4⟩ := q_settled (N := N) (by omega) i ok c0.2.1 c0.2.2
        have cbC : CB (h 84) hC 23 := by have := e2.cb; rw [e3] at this; exact this
        have ro := e4.ro f.toNat hf
        have la := (e4.la.rows f.toNat hf).1
        have k1 := c_yieldedTo (h := hC) (N := N) (by omega) ok cbC yr e4 hf
        have k2 := c_kindYieldedTo (h := hC) (N := N) (by omega) ok cbC yr e4 hf
        rw [ef] at k1 k2
        refine fin_case (R := fun g => M_Md_of N g f y w) (v := if w = 0 then dyf (h 84) (lp (h 84) y) (psc (h 84) y) f.toNat else if w = 1 then (res (h 84) (lp (h 84) y) (psc (h 84) y)).1 f.toNat else if w = 2 then (res (h 84) (lp (h 84) y) (psc (h 84) y)).2.1 f.toNat else if w = 3 then ylf (h 84) (lp (h 84) y) (psc (h 84) y) f.toNat else kyf (h 84) (lp (h 84) y) (psc (h 84) y) f.toNat) (hC := hC) (code := 0) (idx := 0) ?_ e2 e3 (Or.inl ⟨rfl, rfl⟩) (fun g gi g84 => ?_) k
        · unfold M_FB_of
          rw [q_checkFeast i (f := f) ⟨rf.1, rf.2⟩, if_pos c1, xb0, q_checkYear i ry, if_pos c0, xb0, q_checkWhat (w := w) ⟨rw.1, rw.2⟩ (by omega), if_pos c2, xb0, e1, pu_bs]
          rcases (show w = 0 ∨ w = 1 ∨ w = 2 ∨ w = 3 ∨ w = 4 by omega) with e | e | e | e | e <;> subst e
          · simp (disch := omega) only [leb_iff, ltb_iff, eqb_iff, pu_rmP, pu_dvP, pu_bs, pu_b0, pu_b1, pu_c0, pu_c1, pu_lt, pu_rdN, pu_wrN, hs_at, hs_cell, hs_slot, if_true, if_false, true_and, and_true, pu_rd, pu_wr, Int.reduceToNat, Int.toNat_natCast, decide_eq_true_eq, Int.add_zero, Bool.false_eq_true, if_pos, if_neg, la]
          · simp (disch := omega) only [leb_iff, ltb_iff, eqb_iff, pu_rmP, pu_dvP, pu_bs, pu_b0, pu_b1, pu_c0, pu_c1, pu_lt, pu_rdN, pu_wrN, hs_at, hs_cell, hs_slot, if_true, if_false, true_and, and_true, pu_rd, pu_wr, Int.reduceToNat, Int.toNat_natCast, decide_eq_true_eq, Int.add_zero, Bool.false_eq_true, if_pos, if_neg, ro.1]
          · simp (disch := omega) only [leb_iff, ltb_iff, eqb_iff, pu_rmP, pu_dvP, pu_bs, pu_b0, pu_b1, pu_c0, pu_c1, pu_lt, pu_rdN, pu_wrN, hs_at, hs_cell, hs_slot, if_true, if_false, true_and, and_true, pu_rd, pu_wr, Int.reduceToNat, Int.toNat_natCast, decide_eq_true_eq, Int.add_zero, Bool.false_eq_true, if_pos, if_neg, ro.2]
          · simp (disch := omega) only [leb_iff, ltb_iff, eqb_iff, pu_rmP, pu_dvP, pu_bs, pu_b0, pu_b1, pu_c0, pu_c1, pu_lt, pu_rdN, pu_wrN, hs_at, hs_cell, hs_slot, if_true, if_false, true_and, and_true, pu_rd, pu_wr, Int.reduceToNat, Int.toNat_natCast, decide_eq_true_eq, Int.add_zero, Bool.false_eq_true, if_pos, if_neg, k1]
          · simp (disch := omega) only [leb_iff, ltb_iff, eqb_iff, pu_rmP, pu_dvP, pu_bs, pu_b0, pu_b1, pu_c0, pu_c1, pu_lt, pu_rdN, pu_wrN, hs_at, hs_cell, hs_slot, if_true, if_false, true_and, and_true, pu_rd, pu_wr, Int.reduceToNat, Int.toNat_natCast, decide_eq_true_eq, Int.add_zero, Bool.false_eq_true, if_pos, if_neg, k2]
        · have i0 : Inv (hs g 83 0 0) := Fz_thrown.inv gi
          obtain ⟨h', f1, f2, f3, f4⟩ := m_resolves (h := hs g 83 0 0) (N := N) (b := h 84) (by omega) ok (by rw [hs_cell (by omega)]; exact g84) c0.2.1 (show y ≤ 20000 by omega)
          have fz : Fz g h' := Fz_thrown.trans f2.fz
          have t0 : h' 83 0 = 0 := by rw [f2.2 0 (by omega) (by omega), hs_at]
          have ro' := f4.ro f.toNat hf
          have la' := f4.my.dys f.toNat hf
          have k1' := m_yieldedTo (h := h') ok yr f4 hf
          rw [ef] at k1'
          have hfa := res_fa ok (lp (h 84) y) (psc (h 84) y) hf
          unfold FaOk at hfa
          have hyb := ylf_bd (l := lp (h 84) y) (p := psc (h 84) y) ok f.toNat
          have head : ∀ v g', (if eqb w 0 then (rdA h' 89 12 f).bind (fun x11 => some (x11, h')) else if eqb w 1 then (rdA h' 90 12 f).bind (fun x12 => some (x12, h')) else if eqb w 2 then (rdA h' 91 12 f).bind (fun x13 => some (x13, h')) else if eqb w 3 then (M_Md_yieldedTo h' f).bind (fun x15 => some (x15, h')) else (rdA h' 91 12 f).bind (fun x16 => if eqb x16 0 then some ((-1), h') else (rdA h' 91 12 f).bind (fun x17 => if eqb x17 5 then some ((-1), h') else (M_Md_yieldedTo h' f).bind (fun x19 => if eqb x19 (-1) then (rdA h' 89 12 f).bind (fun x20 => (M_Md_baseOf N h' x20 0).bind (fun q22 => some (q22.1, q22.2))) else some (4, h'))))) = some (v, g') → M_Md_of N g f y w = some (v, g') := by
            intro v g' e
            unfold M_Md_of
            rw [q_isFeast gi (f := f) ⟨rf.1, rf.2⟩, pu_bs, g84, if_pos c1, pu_lt, if_neg ne10, q_isYear gi ry, pu_bs, g84, if_pos c0, if_neg ne10, m_isIn (by omega) (by omega) (by omega) (by omega) (by omega) (by omega), pu_bs, if_pos c2, if_neg ne10]
            refine jt0.trans ?_
            rw [f1, pu_bs]
            exact e
          rcases (show w = 0 ∨ w = 1 ∨ w = 2 ∨ w = 3 ∨ w = 4 by omega) with e | e | e | e | e
          · refine ⟨dyf (h 84) (lp (h 84) y) (psc (h 84) y) f.toNat, h', head _ _ ?_, fz, t0, fun _ => by rw [if_pos e]⟩
            rw [e]
            simp (disch := omega) only [leb_iff, ltb_iff, eqb_iff, pu_rmP, pu_dvP, pu_bs, pu_b0, pu_b1, pu_c0, pu_c1, pu_lt, pu_rdN, pu_wrN, hs_at, hs_cell, hs_slot, if_true, if_false, true_and, and_true, pu_rd, pu_wr, Int.reduceToNat, Int.toNat_natCast, decide_eq_true_eq, Int.add_zero, Bool.false_eq_true, if_pos, if_neg, la']
          · refine ⟨(res (h 84) (lp (h 84) y) (psc (h 84) y)).1 f.toNat, h', head _ _ ?_, fz, t0, fun _ => by rw [if_neg (by omega), if_pos e]⟩
            rw [e]
            simp (disch := omega) only [leb_iff, ltb_iff, eqb_iff, pu_rmP, pu_dvP, pu_bs, pu_b0, pu_b1, pu_c0, pu_c1, pu_lt, pu_rdN, pu_wrN, hs_at, hs_cell, hs_slot, if_true, if_false, true_and, and_true, pu_rd, pu_wr, Int.reduceToNat, Int.toNat_natCast, decide_eq_true_eq, Int.add_zero, Bool.false_eq_true, if_pos, if_neg, ro'.1]
          · refine ⟨(res (h 84) (lp (h 84) y) (psc (h 84) y)).2.1 f.toNat, h', head _ _ ?_, fz, t0, fun _ => by rw [if_neg (by omega), if_neg (by omega), if_pos e]⟩
            rw [e]
            simp (disch := omega) only [leb_iff, ltb_iff, eqb_iff, pu_rmP, pu_dvP, pu_bs, pu_b0, pu_b1, pu_c0, pu_c1, pu_lt, pu_rdN, pu_wrN, hs_at, hs_cell, hs_slot, if_true, if_false, true_and, and_true, pu_rd, pu_wr, Int.reduceToNat, Int.toNat_natCast, decide_eq_true_eq, Int.add_zero, Bool.false_eq_true, if_pos, if_neg, ro'.2]
          · refine ⟨ylf (h 84) (lp (h 84) y) (psc (h 84) y) f.toNat, h', head _ _ ?_, fz, t0, fun _ => by rw [if_neg (by omega), if_neg (by omega), if_neg (by omega), if_pos e]⟩
            rw [e]
            simp (disch := omega) only [leb_iff, ltb_iff, eqb_iff, pu_rmP, pu_dvP, pu_bs, pu_b0, pu_b1, pu_c0, pu_c1, pu_lt, pu_rdN, pu_wrN, hs_at, hs_cell, hs_slot, if_true, if_false, true_and, and_true, pu_rd, pu_wr, Int.reduceToNat, Int.toNat_natCast, decide_eq_true_eq, Int.add_zero, Bool.false_eq_true, if_pos, if_neg, k1']
          · have hab := res_ab ok (lp (h 84) y) (psc (h 84) y) hf
            have hkv : ∀ v, v = kyf (h 84) (lp (h 84) y) (psc (h 84) y) f.toNat → (0 = 0 → v = if w = 0 then dyf (h 84) (lp (h 84) y) (psc (h 84) y) f.toNat else if w = 1 then (res (h 84) (lp (h 84) y) (psc (h 84) y)).1 f.toNat else if w = 2 then (res (h 84) (lp (h 84) y) (psc (h 84) y)).2.1 f.toNat else if w = 3 then ylf (h 84) (lp (h 84) y) (psc (h 84) y) f.toNat else kyf (h 84) (lp (h 84) y) (psc (h 84) y) f.toNat) := fun v hv _ => by rw [if_neg (by omega), if_neg (by omega), if_neg (by omega), if_neg (by omega)]; exact hv
            by_cases z0 : (res (h 84) (lp (h 84) y) (psc (h 84) y)).2.1 f.toNat = 0
            · refine ⟨-1, h', head _ _ ?_, fz, t0, fun _ => hkv _ (by unfold kyf; rw [if_pos (Or.inl z0)]) rfl⟩
              rw [e]
              simp (disch := omega) only [leb_iff, ltb_iff, eqb_iff, pu_rmP, pu_dvP, pu_bs, pu_b0, pu_b1, pu_c0, pu_c1, pu_lt, pu_rdN, pu_wrN, hs_at, hs_cell, hs_slot, if_true, if_false, true_and, and_true, pu_rd, pu_wr, Int.reduceToNat, Int.toNat_natCast, decide_eq_true_eq, Int.add_zero, Bool.false_eq_true, if_pos, if_neg, ro'.2, z0]
            · by_cases z5 : (res (h 84) (lp (h 84) y) (psc (h 84) y)).2.1 f.toNat = 5
              · refine ⟨-1, h', head _ _ ?_, fz, t0, fun _ => hkv _ (by unfold kyf; rw [if_pos (Or.inr z5)]) rfl⟩
                rw [e]
                simp (disch := omega) only [leb_iff, ltb_iff, eqb_iff, pu_rmP, pu_dvP, pu_bs, pu_b0, pu_b1, pu_c0, pu_c1, pu_lt, pu_rdN, pu_wrN, hs_at, hs_cell, hs_slot, if_true, if_false, true_and, and_true, pu_rd, pu_wr, Int.reduceToNat, Int.toNat_natCast, decide_eq_true_eq, Int.add_zero, Bool.false_eq_true, if_pos, if_neg, ro'.2, z5]
              · have hdn : dyf (h 84) (lp (h 84) y) (psc (h 84) y) f.toNat ≠ -1 := fun z => z5 (hab.mpr z)
                by_cases zy : ylf (h 84) (lp (h 84) y) (psc (h 84) y) f.toNat = -1
                · obtain ⟨h2, g1, g2⟩ := m_baseOf (h := h') (N := N) (by omega) ok yr f4.my (d := dyf (h 84) (lp (h 84) y) (psc (h 84) y) f.toNat) (w := 0) (by omega) (by omega)
                  have hk1 : kyf (h 84) (lp (h 84) y) (psc (h 84) y) f.toNat = (bse (h 84) (lp (h 84) y) (psc (h 84) y) (dyf (h 84) (lp (h 84) y) (psc (h 84) y) f.toNat)) / 32 % 5 := by
                    unfold kyf
                    have z05 : ¬ ((res (h 84) (lp (h 84) y) (psc (h 84) y)).2.1 f.toNat = 0 ∨ (res (h 84) (lp (h 84) y) (psc (h 84) y)).2.1 f.toNat = 5) := by
                      intro q
                      rcases q with q | q
                      · exact z0 q
                      · exact z5 q
                    rw [if_neg z05, if_neg (fun q => q zy)]
                  have hk2 : tlv (bse (h 84) (lp (h 84) y) (psc (h 84) y) (dyf (h 84) (lp (h 84) y) (psc (h 84) y) f.toNat)) 0 = (bse (h 84) (lp (h 84) y) (psc (h 84) y) (dyf (h 84) (lp (h 84) y) (psc (h 84) y) f.toNat)) / 32 % 5 := if_pos rfl
                  refine ⟨tlv (bse (h 84) (lp (h 84) y) (psc (h 84) y) (dyf (h 84) (lp (h 84) y) (psc (h 84) y) f.toNat)) 0, h2, head _ _ ?_, fz.trans g2.fq.fz, by rw [g2.2 0 (by omega) (by omega) (by omega)]; exact t0, fun _ => hkv _ (by rw [hk1, hk2]) rfl⟩
                  rw [e]
                  simp (disch := omega) only [leb_iff, ltb_iff, eqb_iff, pu_rmP, pu_dvP, pu_bs, pu_b0, pu_b1, pu_c0, pu_c1, pu_lt, pu_rdN, pu_wrN, hs_at, hs_cell, hs_slot, if_true, if_false, true_and, and_true, pu_rd, pu_wr, Int.reduceToNat, Int.toNat_natCast, decide_eq_true_eq, Int.add_zero, Bool.false_eq_true, if_pos, if_neg, ro'.2, k1', la', g1]
                · refine ⟨4, h', head _ _ ?_, fz, t0, fun _ => hkv _ (by unfold kyf; rw [if_neg (fun z => by rcases z with z | z; exact z0 z; exact z5 z), if_pos zy]) rfl⟩
                  rw [e]
                  simp (disch := omega) only [leb_iff, ltb_iff, eqb_iff, pu_rmP, pu_dvP, pu_bs, pu_b0, pu_b1, pu_c0, pu_c1, pu_lt, pu_rdN, pu_wrN, hs_at, hs_cell, hs_slot, if_true, if_false, true_and, and_true, pu_rd, pu_wr, Int.reduceToNat, Int.toNat_natCast, decide_eq_true_eq, Int.add_zero, Bool.false_eq_true, if_pos, if_neg, ro'.2, k1']
      · refine fin_case (R := fun g => M_Md_of N g f y w) (code := 2) (v := 0) (hC := h) (idx := 2) ?_ i rfl (Or.inr ⟨by omega, rfl, by omega, by omega⟩) (fun g gi g84 => ?_) k
        · unfold M_FB_of
          rw [q_checkFeast i (f := f) ⟨rf.1, rf.2⟩, if_pos c1, xb0, q_checkYear i ry, if_pos c0, xb0, q_checkWhat (w := w) ⟨rw.1, rw.2⟩ (by omega), if_neg c2, xbn (by omega)]
        · refine ⟨0, hs g 83 0 2, ?_, Fz_thrown, hs_at, fun z => by omega⟩
          unfold M_Md_of
          rw [q_isFeast gi (f := f) ⟨rf.1, rf.2⟩, pu_bs, g84, if_pos c1, pu_lt, if_neg ne10, q_isYear gi ry, pu_bs, g84, if_pos c0, if_neg ne10, m_isIn (by omega) (by omega) (by omega) (by omega) (by omega) (by omega), pu_bs, if_neg c2, if_pos eq00]
          exact jtv (by omega)
    · refine fin_case (R := fun g => M_Md_of N g f y w) (code := 1) (v := 0) (hC := h) (idx := 1) ?_ i rfl (Or.inr ⟨by omega, rfl, by omega, by omega⟩) (fun g gi g84 => ?_) k
      · unfold M_FB_of
        rw [q_checkFeast i (f := f) ⟨rf.1, rf.2⟩, if_pos c1, xb0, q_checkYear i ry, if_neg c0, xbn (by omega)]
      · refine ⟨0, hs g 83 0 1, ?_, Fz_thrown, hs_at, fun z => by omega⟩
        unfold M_Md_of
        rw [q_isFeast gi (f := f) ⟨rf.1, rf.2⟩, pu_bs, g84, if_pos c1, pu_lt, if_neg ne10, q_isYear gi ry, pu_bs, g84, if_neg c0, if_pos eq00]
        exact jtv (by omega)
  · refine fin_case (R := fun g => M_Md_of N g f y w) (code := 1) (v := 0) (hC := h) (idx := 1) ?_ i rfl (Or.inr ⟨by omega, rfl, by omega, by omega⟩) (fun g gi g84 => ?_) k
    · unfold M_FB_of
      rw [q_checkFeast i (f := f) ⟨rf.1, rf.2⟩, if_neg c1, xbn (by omega)]
    · refine ⟨0, hs g 83 0 1, ?_, Fz_thrown, hs_at, fun z => by omega⟩
      unfold M_Md_of
      rw [q_isFeast gi (f := f) ⟨rf.1, rf.2⟩, pu_bs, g84, if_neg c1, pu_lt, if_pos eq00]
      exact jtv (by omega)
end Qd
