theorem je0 {α : Type} {B E : Hp → Option α} {h : Hp} : (lt' (hs h 83 0 0) (fun h6 => if eqb (h6 83 0) 0 then B h6 else E h6)) = B (hs h 83 0 0) := by
  rw [pu_lt, hs_at, if_pos eq00]
theorem jev {α : Type} {B E : Hp → Option α} {h : Hp} {v : Int} (hv : 1 ≤ v ∧ v ≤ 9) : (lt' (hs h 83 0 v) (fun h6 => if eqb (h6 83 0) 0 then B h6 else E h6)) = E (hs h 83 0 v) := by
  rw [pu_lt, hs_at, if_neg (by rw [eqb_iff (by omega) (by omega) (by omega) (by omega)]; omega)]
section Qf
variable {h : Hp} {N L : Nat} {xs : Nat → Int32} {v4 : Int}
theorem k_alike (hN : 7000 < N) (i : Inv h) (hv : 0 ≤ v4 ∧ v4 + 6 ≤ L) (k : Hp → Option Int) : ∃ h', Inv h' ∧ Lw_case_28 N L xs v4 h k = k h' := by
  unfold Lw_case_28 M_Lw_alike
  simp (disch := omega) only [rdX_ok hv, pu_bs]
  have ry := px_rg xs v4 1
  have rz := px_rg xs v4 2
  generalize px xs v4 1 = y at *
  generalize px xs v4 2 = z at *
  by_cases c1 : 0 < h 84 0 ∧ 0 ≤ y ∧ y ≤ 9999
  · by_cases c2 : 0 < h 84 0 ∧ 0 ≤ z ∧ z ≤ 9999
    · have ok := i.okb c1.1
      have b1 := srt_bd ok c1.2.1
      have b2 := srt_bd ok c2.2.1
      have hyd := yd_le ok
      have l1 := lp_le (h 84) y
      have l2 := lp_le (h 84) z
      have w1 := wdy_le ok y
      have w2 := wdy_le ok z
      have hwk := ok.week
      have y1 := (Yr_of ok c1.2.1).bd ok
      have y2 := (Yr_of ok c2.2.1).bd ok
      refine fin_case (R := fun g => M_Md_alike N g y z) (v := if srt (h 84) y = srt (h 84) z then 1 else 0) (hC := h) (code := 0) (idx := 0) ?_ i rfl (Or.inl ⟨rfl, rfl⟩) (fun g gi g84 => ?_) k
      · unfold M_FB_alike
        rw [q_checkYear i ry, if_pos c1, xb0, q_checkYear i rz, if_pos c2, xb0, c_sortOf ok i.cb c1.2.1 (by omega), pu_bs, c_sortOf ok i.cb c2.2.1 (by omega), pu_bs]
        by_cases c : srt (h 84) y = srt (h 84) z
        · simp (disch := omega) only [leb_iff, ltb_iff, eqb_iff, pu_rmP, pu_dvP, pu_bs, pu_b0, pu_b1, pu_c0, pu_c1, pu_lt, pu_rdN, pu_wrN, hs_at, hs_cell, hs_slot, if_true, if_false, true_and, and_true, pu_rd, pu_wr, Int.reduceToNat, Int.toNat_natCast, decide_eq_true_eq, Int.add_zero, Bool.false_eq_true, if_pos, if_neg]
        · simp (disch := omega) only [leb_iff, ltb_iff, eqb_iff, pu_rmP, pu_dvP, pu_bs, pu_b0, pu_b1, pu_c0, pu_c1, pu_lt, pu_rdN, pu_wrN, hs_at, hs_cell, hs_slot, if_true, if_false, true_and, and_true, pu_rd, pu_wr, Int.reduceToNat, Int.toNat_natCast, decide_eq_true_eq, Int.add_zero, Bool.false_eq_true, if_pos, if_neg]
      · have ok' : OkB (hs g 83 0 0 84) := by rw [b84 g84]; exact ok
        have q1 := m_lengthOf (h := hs g 83 0 0) (N := N) (by omega) ok' c1.2.1 (show y ≤ 20000 by omega)
        have q2 := m_lengthOf (h := hs g 83 0 0) (N := N) (by omega) ok' c2.2.1 (show z ≤ 20000 by omega)
        have q3 := m_weekdayOf (h := hs g 83 0 0) (N := N) (by omega) ok' c1.2.1 (show y ≤ 20000 by omega)
        have q4 := m_weekdayOf (h := hs g 83 0 0) (N := N) (by omega) ok' c2.2.1 (show z ≤ 20000 by omega)
        have q5 := m_paschOf (h := hs g 83 0 0) (N := N) (by omega) ok' c1.2.1 (show y ≤ 20000 by omega)
        have q6 := m_paschOf (h := hs g 83 0 0) (N := N) (by omega) ok' c2.2.1 (show z ≤ 20000 by omega)
        rw [b84 g84] at q1 q2 q3 q4 q5 q6
        refine ⟨if srt (h 84) y = srt (h 84) z then 1 else 0, hs g 83 0 0, ?_, Fz_thrown, hs_at, fun _ => rfl⟩
        unfold M_Md_alike
        rw [q_isYear gi ry, pu_bs, g84, if_pos c1, pu_lt, if_neg ne10, q_isYear gi rz, pu_bs, g84, if_pos c2, if_neg ne10]
        refine je0.trans ?_
        rw [q1, pu_bs, q2, pu_bs, q3, pu_bs, q4, pu_bs, q5, pu_bs, q6, pu_bs]
        by_cases c : srt (h 84) y = srt (h 84) z
        · obtain ⟨s1, s2⟩ := srt_inj ok c1.2.1 c2.2.1 c
          have s3 : wdy (h 84) y = wdy (h 84) z := by
            have m1 := wd_shift (d := 0) (psc_mod (b := h 84) y)
            have m2 := wd_shift (d := 0) (psc_mod (b := h 84) z)
            rw [Int.add_zero, Int.emod_eq_of_lt w1.1 w1.2] at m1
            rw [Int.add_zero, Int.emod_eq_of_lt w2.1 w2.2] at m2
            rw [m1, m2, s2]
          rw [if_pos c, s1, s2, s3]
          simp (disch := omega) only [leb_iff, ltb_iff, eqb_iff, pu_rmP, pu_dvP, pu_bs, pu_b0, pu_b1, pu_c0, pu_c1, pu_lt, pu_rdN, pu_wrN, hs_at, hs_cell, hs_slot, if_true, if_false, true_and, and_true, pu_rd, pu_wr, Int.reduceToNat, Int.toNat_natCast, decide_eq_true_eq, Int.add_zero, Bool.false_eq_true, if_pos, if_neg]
        · rw [if_neg c]
          by_cases d1 : lp (h 84) y = lp (h 84) z
          · by_cases d2 : psc (h 84) y = psc (h 84) z
            · exact absurd (by unfold srt; rw [d1, d2]) c
            · by_cases d3 : wdy (h 84) y = wdy (h 84) z
              · simp (disch := omega) only [leb_iff, ltb_iff, eqb_iff, pu_rmP, pu_dvP, pu_bs, pu_b0, pu_b1, pu_c0, pu_c1, pu_lt, pu_rdN, pu_wrN, hs_at, hs_cell, hs_slot, if_true, if_false, true_and, and_true, pu_rd, pu_wr, Int.reduceToNat, Int.toNat_natCast, decide_eq_true_eq, Int.add_zero, Bool.false_eq_true, if_pos, if_neg]
              · simp (disch := omega) only [leb_iff, ltb_iff, eqb_iff, pu_rmP, pu_dvP, pu_bs, pu_b0, pu_b1, pu_c0, pu_c1, pu_lt, pu_rdN, pu_wrN, hs_at, hs_cell, hs_slot, if_true, if_false, true_and, and_true, pu_rd, pu_wr, Int.reduceToNat, Int.toNat_natCast, decide_eq_true_eq, Int.add_zero, Bool.false_eq_true, if_pos, if_neg]
          · simp (disch := omega) only [leb_iff, ltb_iff, eqb_iff, pu_rmP, pu_dvP, pu_bs, pu_b0, pu_b1, pu_c0, pu_c1, pu_lt, pu_rdN, pu_wrN, hs_at, hs_cell, hs_slot, if_true, if_false, true_and, and_true, pu_rd, pu_wr, Int.reduceToNat, Int.toNat_natCast, decide_eq_true_eq, Int.add_zero, Bool.false_eq_true, if_pos, if_neg]
    · refine fin_case (R := fun g => M_Md_alike N g y z) (code := 1) (v := 0) (hC := h) (idx := 1) ?_ i rfl (Or.inr ⟨by omega, rfl, by omega, by omega⟩) (fun g gi g84 => ?_) k
      · unfold M_FB_alike
        rw [q_checkYear i ry, if_pos c1, xb0, q_checkYear i rz, if_neg c2, xbn (by omega)]
      · refine ⟨0, hs g 83 0 1, ?_, Fz_thrown, hs_at, fun z => by omega⟩
        unfold M_Md_alike
        rw [q_isYear gi ry, pu_bs, g84, if_pos c1, pu_lt, if_neg ne10, q_isYear gi rz, pu_bs, g84, if_neg c2, if_pos eq00]
        exact (jev (by omega)).trans (pu_c0 _)
  · refine fin_case (R := fun g => M_Md_alike N g y z) (code := 1) (v := 0) (hC := h) (idx := 1) ?_ i rfl (Or.inr ⟨by omega, rfl, by omega, by omega⟩) (fun g gi g84 => ?_) k
    · unfold M_FB_alike
      rw [q_checkYear i ry, if_neg c1, xbn (by omega)]
    · refine ⟨0, hs g 83 0 1, ?_, Fz_thrown, hs_at, fun z => by omega⟩
      unfold M_Md_alike
      rw [q_isYear gi ry, pu_bs, g84, if_neg c1, pu_lt, if_pos eq00]
      exact (jev (by omega)).trans (pu_c0 _)
theorem k_beats (hN : 7000 < N) (i : Inv h) (hv : 0 ≤ v4 ∧ v4 + 6 ≤ L) (k : Hp → Option Int) : ∃ h', Inv h' ∧ Lw_case_23 N L xs v4 h k = k h' := by
  unfold Lw_case_23 M_Lw_beats
  simp (disch := omega) only [rdX_ok hv, pu_bs]
  have rf := px_rg xs v4 1
  have ro := px_rg xs v4 2
  generalize px xs v4 1 = f at *
  generalize px xs v4 2 = o at *
  have hm := q_many i
  have rf' := rf
  have ro' := ro
  unfold rg at rf' ro'
  by_cases c1 : 0 ≤ f ∧ f < h 84 42
  · by_cases c2 : 0 ≤ o ∧ o < h 84 42
    · by_cases c3 : f = o
      · refine fin_case (R := fun g => M_Md_beats g f o) (code := 3) (v := 0) (hC := h) (idx := 2) ?_ i rfl (Or.inr ⟨by omega, rfl, by omega, by omega⟩) (fun g gi g84 => ?_) k
        · unfold M_FB_beats M_FB_checkTwoFeasts
          rw [q_checkFeast i rf, if_pos c1, xb0, q_checkFeast i ro, if_pos c2, xb0, if_pos (by rw [eqb_iff (by omega) (by omega) (by omega) (by omega)]; exact c3), xbn (by omega)]
        · refine ⟨0, hs g 83 0 2, ?_, Fz_thrown, hs_at, fun z => by omega⟩
          unfold M_Md_beats
          rw [q_isFeast gi rf, pu_bs, g84, if_pos c1, pu_lt, if_neg ne10, q_isFeast gi ro, pu_bs, g84, if_pos c2, if_neg ne10, if_pos (by rw [eqb_iff (by omega) (by omega) (by omega) (by omega)]; exact c3)]
          exact (jev (by omega)).trans (pu_c0 _)
      · have ok := i.okf c1.2 c1.1
        have ef : ((f.toNat : Nat) : Int) = f := by omega
        have eo : ((o.toNat : Nat) : Int) = o := by omega
        have k1 := cb_clm i.cb (f := f.toNat) (by omega)
        have k2 := cb_clm i.cb (f := o.toNat) (by omega)
        have b1 := cl_bd (ok.fea f.toNat (by omega)) (by omega)
        have b2 := cl_bd (ok.fea o.toNat (by omega)) (by omega)
        have a1 := (ok.fea f.toNat (by omega)).1
        have a2 := (ok.fea o.toNat (by omega)).1
        refine fin_case (R := fun g => M_Md_beats g f o) (v := if cl (h 84) o.toNat < cl (h 84) f.toNat then 1 else 0) (hC := h) (code := 0) (idx := 0) ?_ i rfl (Or.inl ⟨rfl, rfl⟩) (fun g gi g84 => ?_) k
        · unfold M_FB_beats M_FB_checkTwoFeasts
          rw [q_checkFeast i rf, if_pos c1, xb0, q_checkFeast i ro, if_pos c2, xb0, if_neg (by rw [eqb_iff (by omega) (by omega) (by omega) (by omega)]; exact c3), xb0]
          by_cases c : cl (h 84) o.toNat < cl (h 84) f.toNat
          · simp (disch := omega) only [leb_iff, ltb_iff, eqb_iff, pu_rmP, pu_dvP, pu_bs, pu_b0, pu_b1, pu_c0, pu_c1, pu_lt, pu_rdN, pu_wrN, hs_at, hs_cell, hs_slot, if_true, if_false, true_and, and_true, pu_rd, pu_wr, Int.reduceToNat, Int.toNat_natCast, decide_eq_true_eq, Int.add_zero, Bool.false_eq_true, if_pos, if_neg, k1, k2]
          · simp (disch := omega) only [leb_iff, ltb_iff, eqb_iff, pu_rmP, pu_dvP, pu_bs, pu_b0, pu_b1, pu_c0, pu_c1, pu_lt, pu_rdN, pu_wrN, hs_at, hs_cell, hs_slot, if_true, if_false, true_and, and_true, pu_rd, pu_wr, Int.reduceToNat, Int.toNat_natCast, decide_eq_true_eq, Int.add_zero, Bool.false_eq_true, if_pos, if_neg, k1, k2]
        · have q := m_beats0 (h := hs g 83 0 0) (f := f.toNat) (o := o.toNat) (by omega) (by omega) (by rw [b84 g84]; exact ok.fea _ (by omega)) (by rw [b84 g84]; exact ok.fea _ (by omega))
          rw [ef, eo, b84 g84] at q
          refine ⟨if cl (h 84) o.toNat < cl (h 84) f.toNat then 1 else 0, hs g 83 0 0, ?_, Fz_thrown, hs_at, fun _ => rfl⟩
          unfold M_Md_beats
          rw [q_isFeast gi rf, pu_bs, g84, if_pos c1, pu_lt, if_neg ne10, q_isFeast gi ro, pu_bs, g84, if_pos c2, if_neg ne10, if_neg (by rw [eqb_iff (by omega) (by omega) (by omega) (by omega)]; exact c3)]
          refine je0.trans ?_
          rw [q, pu_bs]
          by_cases c : cl (h 84) o.toNat < cl (h 84) f.toNat
          · simp (disch := omega) only [leb_iff, ltb_iff, eqb_iff, pu_rmP, pu_dvP, pu_bs, pu_b0, pu_b1, pu_c0, pu_c1, pu_lt, pu_rdN, pu_wrN, hs_at, hs_cell, hs_slot, if_true, if_false, true_and, and_true, pu_rd, pu_wr, Int.reduceToNat, Int.toNat_natCast, decide_eq_true_eq, Int.add_zero, Bool.false_eq_true, if_pos, if_neg]
          · simp (disch := omega) only [leb_iff, ltb_iff, eqb_iff, pu_rmP, pu_dvP, pu_bs, pu_b0, pu_b1, pu_c0, pu_c1, pu_lt, pu_rdN, pu_wrN, hs_at, hs_cell, hs_slot, if_true, if_false, true_and, and_true, pu_rd, pu_wr, Int.reduceToNat, Int.toNat_natCast, decide_eq_true_eq, Int.add_zero, Bool.false_eq_true, if_pos, if_neg]
    · refine fin_case (R := fun g => M_Md_beats g f o) (code := 1) (v := 0) (hC := h) (idx := 1) ?_ i rfl (Or.inr ⟨by omega, rfl, by omega, by omega⟩) (fun g gi g84 => ?_) k
      · unfold M_FB_beats M_FB_checkTwoFeasts
        rw [q_checkFeast i rf, if_pos c1, xb0, q_checkFeast i ro, if_neg c2, xbn (by omega), xbn (by omega)]
      · refine ⟨0, hs g 83 0 1, ?_, Fz_thrown, hs_at, fun z => by omega⟩
        unfold M_Md_beats
        rw [q_isFeast gi rf, pu_bs, g84, if_pos c1, pu_lt, if_neg ne10, q_isFeast gi ro, pu_bs, g84, if_neg c2, if_pos eq00]
        exact (jev (by omega)).trans (pu_c0 _)
  · refine fin_case (R := fun g => M_Md_beats g f o) (code := 1) (v := 0) (hC := h) (idx := 1) ?_ i rfl (Or.inr ⟨by omega, rfl, by omega, by omega⟩) (fun g gi g84 => ?_) k
    · unfold M_FB_beats M_FB_checkTwoFeasts
      rw [q_checkFeast i rf, if_neg c1, xbn (by omega), xbn (by omega)]
    · refine ⟨0, hs g 83 0 1, ?_, Fz_thrown, hs_at, fun z => by omega⟩
      unfold M_Md_beats
      rw [q_isFeast gi rf, pu_bs, g84, if_neg c1, pu_lt, if_pos eq00]
      exact (jev (by omega)).trans (pu_c0 _)
theorem k_yields (hN : 7000 < N) (i : Inv h) (hv : 0 ≤ v4 ∧ v4 + 6 ≤ L) (k : Hp → Option Int) : ∃ h', Inv h' ∧ Lw_case_30 N L xs v4 h k = k h' := by
  unfold Lw_case_30 M_Lw_yields
  simp (disch := omega) only [rdX_ok hv, pu_bs]
  have rf := px_rg xs v4 1
  have ro := px_rg xs v4 2
  generalize px xs v4 1 = f at *
  generalize px xs v4 2 = o at *
  have hm := q_many i
  have rf' := rf
  have ro' := ro
  unfold rg at rf' ro'
  by_cases c1 : 0 ≤ f ∧ f < h 84 42
  · by_cases c2 : 0 ≤ o ∧ o < h 84 42
    · by_cases c3 : f = o
      · refine fin_case (R := fun g => M_Md_yields N g f o) (code := 3) (v := 0) (hC := h) (idx := 2) ?_ i rfl (Or.inr ⟨by omega, rfl, by omega, by omega⟩) (fun g gi g84 => ?_) k
        · unfold M_FB_yields M_FB_checkTwoFeasts
          rw [q_checkFeast i rf, if_pos c1, xb0, q_checkFeast i ro, if_pos c2, xb0, if_pos (by rw [eqb_iff (by omega) (by omega) (by omega) (by omega)]; exact c3), xbn (by omega)]
        · refine ⟨0, hs g 83 0 2, ?_, Fz_thrown, hs_at, fun z => by omega⟩
          unfold M_Md_yields
          rw [q_isFeast gi rf, pu_bs, g84, if_pos c1, pu_lt, if_neg ne10, q_isFeast gi ro, pu_bs, g84, if_pos c2, if_neg ne10, if_pos (by rw [eqb_iff (by omega) (by omega) (by omega) (by omega)]; exact c3)]
          exact jtv (by omega)
      · have ok := i.okf c1.2 c1.1
        have ef : ((f.toNat : Nat) : Int) = f := by omega
        have eo : ((o.toNat : Nat) : Int) = o := by omega
        obtain ⟨hC, e1, e2, e3, e4, e5⟩ := c_allSettled (h := h) (N := N) (by omega) ok i.cb (i.pl ok) (i.ro ok)
        have iC : Inv hC := Inv_class i e2 (fun _ => e3) (fun _ => e4)
        have q := c_yearsYielding (h := hC) (N := N) (by omega) ok e4.rb e5 (f := f.toNat) (o := o.toNat) (by omega) (by omega)
        rw [ef, eo] at q
        refine fin_case (R := fun g => M_Md_yields N g f o) (v := yldC (h 84) f.toNat o.toNat) (hC := hC) (code := 0) (idx := 0) ?_ iC (e2.1 84 (by omega)) (Or.inl ⟨rfl, rfl⟩) (fun g gi g84 => ?_) k
        · unfold M_FB_yields M_FB_checkTwoFeasts
          rw [q_checkFeast i rf, if_pos c1, xb0, q_checkFeast i ro, if_pos c2, xb0, if_neg (by rw [eqb_iff (by omega) (by omega) (by omega) (by omega)]; exact c3), xb0, e1, pu_bs, q, pu_bs]
        · obtain ⟨h', f1, f2⟩ := m_yields0 (h := hs g 83 0 0) (N := N) (by omega) ok (b84 g84) (f := f.toNat) (o := o.toNat) (by omega) (by omega) (by omega)
          rw [ef, eo] at f1
          refine ⟨_, h', ?_, Fz_thrown.trans f2.fz, t0q f2, fun _ => rfl⟩
          unfold M_Md_yields
          rw [q_isFeast gi rf, pu_bs, g84, if_pos c1, pu_lt, if_neg ne10, q_isFeast gi ro, pu_bs, g84, if_pos c2, if_neg ne10, if_neg (by rw [eqb_iff (by omega) (by omega) (by omega) (by omega)]; exact c3)]
          refine jt0.trans ?_
          rw [f1, pu_bs]
    · refine fin_case (R := fun g => M_Md_yields N g f o) (code := 1) (v := 0) (hC := h) (idx := 1) ?_ i rfl (Or.inr ⟨by omega, rfl, by omega, by omega⟩) (fun g gi g84 => ?_) k
      · unfold M_FB_yields M_FB_checkTwoFeasts
        rw [q_checkFeast i rf, if_pos c1, xb0, q_checkFeast i ro, if_neg c2, xbn (by omega), xbn (by omega)]
      · refine ⟨0, hs g 83 0 1, ?_, Fz_thrown, hs_at, fun z => by omega⟩
        unfold M_Md_yields
        rw [q_isFeast gi rf, pu_bs, g84, if_pos c1, pu_lt, if_neg ne10, q_isFeast gi ro, pu_bs, g84, if_neg c2, if_pos eq00]
        exact jtv (by omega)
  · refine fin_case (R := fun g => M_Md_yields N g f o) (code := 1) (v := 0) (hC := h) (idx := 1) ?_ i rfl (Or.inr ⟨by omega, rfl, by omega, by omega⟩) (fun g gi g84 => ?_) k
    · unfold M_FB_yields M_FB_checkTwoFeasts
      rw [q_checkFeast i rf, if_neg c1, xbn (by omega), xbn (by omega)]
    · refine ⟨0, hs g 83 0 1, ?_, Fz_thrown, hs_at, fun z => by omega⟩
      unfold M_Md_yields
      rw [q_isFeast gi rf, pu_bs, g84, if_neg c1, pu_lt, if_pos eq00]
      exact jtv (by omega)
theorem eqb_self (v : Int) : eqb v v = true := decide_eq_true rfl
theorem k_order (hN : 7000 < N) (i : Inv h) (hv : 0 ≤ v4 ∧ v4 + 6 ≤ L) (k : Hp → Option Int) : ∃ h', Inv h' ∧ Lw_case_34 N L xs v4 h k = k h' := by
  unfold Lw_case_34
  simp (disch := omega) only [rdX_ok hv, pu_bs]
  have rf := px_rg xs v4 1
  generalize px xs v4 1 = f at *
  unfold rg at rf
  have hm := q_many i
  have hok : ∀ x : Nat, (x : Int) < h 84 42 → okF (h 84) x := fun x hx => (i.okf (f := (x : Int)) hx (by omega)).fea x hx
  obtain ⟨h', e1, e2, e3⟩ := m_laysRow (h := hs h 83 0 0) (N := N) (b := h 84) (by omega) (b84 rfl) hm.1 hm.2 hok
  refine ⟨h', Inv_frame i (fun c c1 c2 c3 c4 => by rw [e2 c (by omega), hs_cell c3]) (by rw [e2 83 (by omega), hs_slot (by omega)]) (by rw [e2 83 (by omega), hs_slot (by omega)]) (by rw [e2 83 (by omega), hs_slot (by omega)]) (by rw [e2 83 (by omega), hs_slot (by omega)]), ?_⟩
  have h84 : h' 84 = h 84 := by rw [e2 84 (by omega), hs_cell (by omega)]
  unfold M_FB_order M_Md_order
  rw [pu_lt, e1, pu_bs, pu_rd (c := 84) (by omega) (by omega), pu_bs, show Int.toNat 42 = 42 from rfl, h84, cb_many i.cb, m_isIn (by omega) (by omega) (by omega) (by omega) (by omega) (by omega), pu_bs]
  by_cases c : 0 ≤ f ∧ f < h 84 42
  · have ok := i.okf c.2 c.1
    have q1 := cb_rnk ok i.cb (k := f.toNat) (by omega)
    have q2 := (RowOk_rk ok e3 (k := f.toNat) (by omega)).1
    rw [if_pos (show 0 ≤ f ∧ f ≤ h 84 42 - 1 by omega), if_neg ne10, pu_rd (by omega) (by omega), pu_bs, pu_rd (by omega) (by omega), q1, q2]
    simp only [pu_bs]
    simp (disch := omega) only [leb_iff, ltb_iff, eqb_iff, pu_rmP, pu_dvP, pu_bs, pu_b0, pu_b1, pu_c0, pu_c1, pu_lt, pu_rdN, pu_wrN, hs_at, hs_cell, hs_slot, if_true, if_false, true_and, and_true, pu_rd, pu_wr, Int.reduceToNat, Int.toNat_natCast, decide_eq_true_eq, Int.add_zero, Bool.false_eq_true, if_pos, if_neg, eqb_self]
  · rw [if_neg (show ¬ (0 ≤ f ∧ f ≤ h 84 42 - 1) by omega), if_pos eq00]
    by_cases c2 : f < 0
    · simp (disch := omega) only [leb_iff, ltb_iff, eqb_iff, pu_rmP, pu_dvP, pu_bs, pu_b0, pu_b1, pu_c0, pu_c1, pu_lt, pu_rdN, pu_wrN, hs_at, hs_cell, hs_slot, if_true, if_false, true_and, and_true, pu_rd, pu_wr, Int.reduceToNat, Int.toNat_natCast, decide_eq_true_eq, Int.add_zero, Bool.false_eq_true, if_pos, if_neg, eqb_self]
    · simp (disch := omega) only [leb_iff, ltb_iff, eqb_iff, pu_rmP, pu_dvP, pu_bs, pu_b0, pu_b1, pu_c0, pu_c1, pu_lt, pu_rdN, pu_wrN, hs_at, hs_cell, hs_slot, if_true, if_false, true_and, and_true, pu_rd, pu_wr, Int.reduceToNat, Int.toNat_natCast, decide_eq_true_eq, Int.add_zero, Bool.false_eq_true, if_pos, if_neg, eqb_self]
theorem k_count (i : Inv h) (hv : 0 ≤ v4 ∧ v4 + 6 ≤ L) (k : Hp → Option Int) : ∃ h', Inv h' ∧ Lw_case_42 N L xs v4 h k = k h' := by
  unfold Lw_case_42
  simp (disch := omega) only [rdX_ok hv, pu_bs]
  have rf := px_rg xs v4 1
  generalize px xs v4 1 = f at *
  unfold rg at rf
  refine ⟨hs h 83 0 0, Fz_thrown.inv i, ?_⟩
  have cb := i.cb
  have r : ∀ j : Nat, j < 127 → rdA (hs h 83 0 0) 84 127 (j : Int) = some (h 84 j) := fun j hj => by rw [pu_rdN hj, hs_cell (by omega)]
  unfold M_FB_count M_Md_count
  rw [cb.week, cb.mon, cb_many cb, show h 25 0 = h 84 20 from cb.nse, show h 29 0 = h 84 33 from cb.ncl, cb.rch, cb.rst, cb.leap, i.pa.sz, cb.fas, cb.lft, pu_lt]
  by_cases c0 : f = 0
  · subst c0; simp (disch := omega) only [leb_iff, ltb_iff, eqb_iff, pu_rmP, pu_dvP, pu_bs, pu_b0, pu_b1, pu_c0, pu_c1, pu_lt, pu_rdN, pu_wrN, hs_at, hs_cell, hs_slot, if_true, if_false, true_and, and_true, pu_rd, pu_wr, Int.reduceToNat, Int.toNat_natCast, decide_eq_true_eq, Int.add_zero, Bool.false_eq_true, if_pos, if_neg, eqb_self]
  · by_cases c1 : f = 1
    · subst c1; simp (disch := omega) only [leb_iff, ltb_iff, eqb_iff, pu_rmP, pu_dvP, pu_bs, pu_b0, pu_b1, pu_c0, pu_c1, pu_lt, pu_rdN, pu_wrN, hs_at, hs_cell, hs_slot, if_true, if_false, true_and, and_true, pu_rd, pu_wr, Int.reduceToNat, Int.toNat_natCast, decide_eq_true_eq, Int.add_zero, Bool.false_eq_true, if_pos, if_neg, eqb_self]
    · by_cases c2 : f = 2
      · subst c2; simp (disch := omega) only [leb_iff, ltb_iff, eqb_iff, pu_rmP, pu_dvP, pu_bs, pu_b0, pu_b1, pu_c0, pu_c1, pu_lt, pu_rdN, pu_wrN, hs_at, hs_cell, hs_slot, if_true, if_false, true_and, and_true, pu_rd, pu_wr, Int.reduceToNat, Int.toNat_natCast, decide_eq_true_eq, Int.add_zero, Bool.false_eq_true, if_pos, if_neg, eqb_self]
      · by_cases c3 : f = 3
        · subst c3; simp (disch := omega) only [leb_iff, ltb_iff, eqb_iff, pu_rmP, pu_dvP, pu_bs, pu_b0, pu_b1, pu_c0, pu_c1, pu_lt, pu_rdN, pu_wrN, hs_at, hs_cell, hs_slot, if_true, if_false, true_and, and_true, pu_rd, pu_wr, Int.reduceToNat, Int.toNat_natCast, decide_eq_true_eq, Int.add_zero, Bool.false_eq_true, if_pos, if_neg, eqb_self]
        · by_cases c4 : f = 4
          · subst c4; simp (disch := omega) only [leb_iff, ltb_iff, eqb_iff, pu_rmP, pu_dvP, pu_bs, pu_b0, pu_b1, pu_c0, pu_c1, pu_lt, pu_rdN, pu_wrN, hs_at, hs_cell, hs_slot, if_true, if_false, true_and, and_true, pu_rd, pu_wr, Int.reduceToNat, Int.toNat_natCast, decide_eq_true_eq, Int.add_zero, Bool.false_eq_true, if_pos, if_neg, eqb_self]
          · by_cases c5 : f = 5
            · subst c5; simp (disch := omega) only [leb_iff, ltb_iff, eqb_iff, pu_rmP, pu_dvP, pu_bs, pu_b0, pu_b1, pu_c0, pu_c1, pu_lt, pu_rdN, pu_wrN, hs_at, hs_cell, hs_slot, if_true, if_false, true_and, and_true, pu_rd, pu_wr, Int.reduceToNat, Int.toNat_natCast, decide_eq_true_eq, Int.add_zero, Bool.false_eq_true, if_pos, if_neg, eqb_self]
            · by_cases c6 : f = 6
              · subst c6; simp (disch := omega) only [leb_iff, ltb_iff, eqb_iff, pu_rmP, pu_dvP, pu_bs, pu_b0, pu_b1, pu_c0, pu_c1, pu_lt, pu_rdN, pu_wrN, hs_at, hs_cell, hs_slot, if_true, if_false, true_and, and_true, pu_rd, pu_wr, Int.reduceToNat, Int.toNat_natCast, decide_eq_true_eq, Int.add_zero, Bool.false_eq_true, if_pos, if_neg, eqb_self]
              · by_cases c7 : f = 7
                · subst c7; simp (disch := omega) only [leb_iff, ltb_iff, eqb_iff, pu_rmP, pu_dvP, pu_bs, pu_b0, pu_b1, pu_c0, pu_c1, pu_lt, pu_rdN, pu_wrN, hs_at, hs_cell, hs_slot, if_true, if_false, true_and, and_true, pu_rd, pu_wr, Int.reduceToNat, Int.toNat_natCast, decide_eq_true_eq, Int.add_zero, Bool.false_eq_true, if_pos, if_neg, eqb_self]
                · by_cases c8 : f = 8
                  · subst c8; simp (disch := omega) only [leb_iff, ltb_iff, eqb_iff, pu_rmP, pu_dvP, pu_bs, pu_b0, pu_b1, pu_c0, pu_c1, pu_lt, pu_rdN, pu_wrN, hs_at, hs_cell, hs_slot, if_true, if_false, true_and, and_true, pu_rd, pu_wr, Int.reduceToNat, Int.toNat_natCast, decide_eq_true_eq, Int.add_zero, Bool.false_eq_true, if_pos, if_neg, eqb_self]
                  · by_cases c9 : f = 9
                    · subst c9; simp (disch := omega) only [leb_iff, ltb_iff, eqb_iff, pu_rmP, pu_dvP, pu_bs, pu_b0, pu_b1, pu_c0, pu_c1, pu_lt, pu_rdN, pu_wrN, hs_at, hs_cell, hs_slot, if_true, if_false, true_and, and_true, pu_rd, pu_wr, Int.reduceToNat, Int.toNat_natCast, decide_eq_true_eq, Int.add_zero, Bool.false_eq_true, if_pos, if_neg, eqb_self]
                    · by_cases c10 : f = 10
                      · subst c10; simp (disch := omega) only [leb_iff, ltb_iff, eqb_iff, pu_rmP, pu_dvP, pu_bs, pu_b0, pu_b1, pu_c0, pu_c1, pu_lt, pu_rdN, pu_wrN, hs_at, hs_cell, hs_slot, if_true, if_false, true_and, and_true, pu_rd, pu_wr, Int.reduceToNat, Int.toNat_natCast, decide_eq_true_eq, Int.add_zero, Bool.false_eq_true, if_pos, if_neg, eqb_self]
                      · simp (disch := omega) only [leb_iff, ltb_iff, eqb_iff, pu_rmP, pu_dvP, pu_bs, pu_b0, pu_b1, pu_c0, pu_c1, pu_lt, pu_rdN, pu_wrN, hs_at, hs_cell, hs_slot, if_true, if_false, true_and, and_true, pu_rd, pu_wr, Int.reduceToNat, Int.toNat_natCast, decide_eq_true_eq, Int.add_zero, Bool.false_eq_true, if_pos, if_neg, eqb_self]
theorem k_fault (i : Inv h) (k : Hp → Option Int) : ∃ h', Inv h' ∧ Lw_case_3 N L xs v4 h k = k h' := by
  refine ⟨hs h 83 0 0, Fz_thrown.inv i, ?_⟩
  unfold Lw_case_3 M_FB_fault M_Md_fault
  rw [pu_bs, pu_lt, pu_bs]
  dsimp only
  rw [hs_slot (by omega), i.fa.1, if_pos (eqb_self _)]
end Qf
theorem Inv_tp {h h' : Hp} (i : Inv h) (e : ∀ c, (c < 1 ∨ 22 < c) → c ≠ 82 → c ≠ 83 → (c < 87 ∨ 96 < c) → h' c = h c) (e3 : h' 83 3 = h 83 3) (e5 : h' 83 5 = h 83 5) (tp : Tp h') (e10 : h' 83 10 = h 83 10) : Inv h' := by
  have q84 : h' 84 = h 84 := e 84 (by omega) (by omega) (by omega) (by omega)
  have q85 : h' 85 = h 85 := e 85 (by omega) (by omega) (by omega) (by omega)
  have hU : ∀ j, rowU h' j = rowU h j := fun j => by unfold rowU; rw [q85]
  have hA : ∀ j, rowAt h' j = rowAt h j := fun j => by unfold rowAt; rw [e3, q84, hU]
  refine Inv.mk ?_ ?_ ?_ ?_ ?_ ?_ ?_ ?_ ?_
  · rw [q84]; exact i.bok
  · rw [q84]; exact i.z84
  · rw [q84]; exact CB_frame i.cb (fun c c1 c2 => e c (by omega) (by omega) (by omega) (by omega))
  · rw [q84]; intro ok; exact PlanOk_frame (fun c c1 c2 => e c (by omega) (by omega) (by omega) (by omega)) (i.pl ok)
  · rw [q84]; intro ok
    have r := i.ro ok
    refine RoundOk.mk (RB.mk ?_ ?_ ?_) ?_ ?_
    · rw [e 73 (by omega) (by omega) (by omega) (by omega)]; exact r.rb.yrs
    · rw [e 74 (by omega) (by omega) (by omega) (by omega)]; exact r.rb.oft
    · rw [e 75 (by omega) (by omega) (by omega) (by omega)]; exact r.rb.fst
    · unfold RS; rw [e 73 (by omega) (by omega) (by omega) (by omega), e 76 (by omega) (by omega) (by omega) (by omega), e 77 (by omega) (by omega) (by omega) (by omega), e 78 (by omega) (by omega) (by omega) (by omega)]; exact r.rs
    · unfold RM; rw [e 73 (by omega) (by omega) (by omega) (by omega), e 79 (by omega) (by omega) (by omega) (by omega), e 80 (by omega) (by omega) (by omega) (by omega), e 81 (by omega) (by omega) (by omega) (by omega)]; exact r.rm
  · unfold Img
    rw [e 0 (by omega) (by omega) (by omega) (by omega), e5, e 86 (by omega) (by omega) (by omega) (by omega)]
    rcases i.img with x | ⟨x1, x2, x3, x4, x5⟩
    · exact Or.inl x
    · exact Or.inr ⟨x1, x2, x3, CB_frame x4 (fun c c1 c2 => e c (by omega) (by omega) (by omega) (by omega)), x5⟩
  · exact tp
  · rw [e 0 (by omega) (by omega) (by omega) (by omega), e10]; exact i.fa
  · refine Pa.mk ?_ ?_ ?_ ?_ ?_
    · rw [e 61 (by omega) (by omega) (by omega) (by omega), e3]; exact i.pa.sz
    · rw [e3]; exact i.pa.lo
    · rw [e3]; exact i.pa.hi
    · rw [e3, q84]; exact i.pa.ok
    · rw [e3]; intro j hj
      have p := i.pa.js j hj
      refine PaJ.mk ?_ ?_ ?_ ?_ ?_ ?_ ?_
      · rw [hU]; exact p.ok
      · rw [hU, q84]; exact p.mn
      · rw [e 62 (by omega) (by omega) (by omega) (by omega)]; exact p.kd
      · rw [e 62 (by omega) (by omega) (by omega) (by omega), e 63 (by omega) (by omega) (by omega) (by omega), q84]; exact p.fe
      · rw [e 65 (by omega) (by omega) (by omega) (by omega)]; exact p.vl
      · rw [e 64 (by omega) (by omega) (by omega) (by omega)]; exact p.mo
      · rw [hU, hA, e 62 (by omega) (by omega) (by omega) (by omega), e 63 (by omega) (by omega) (by omega) (by omega), e 64 (by omega) (by omega) (by omega) (by omega), e 65 (by omega) (by omega) (by omega) (by omega)]; exact p.eq
