theorem bz_01 (v : Int) : bz01 v = 0 ∨ bz01 v = 1 := by unfold bz01; split <;> simp
section Qe
variable {h : Hp} {N L : Nat} {xs : Nat → Int32} {v4 : Int}
theorem b84 {g : Hp} {v : Int} {b : Nat → Int} (e : g 84 = b) : hs g 83 0 v 84 = b := by rw [hs_cell (by omega)]; exact e
theorem t0q {g g' : Hp} {v : Int} (f : Fq (hs g 83 0 v) g') : g' 83 0 = v := by rw [f.2 0 (by omega) (by omega), hs_at]
theorem k_tally (hN : 7000 < N) (i : Inv h) (hv : 0 ≤ v4 ∧ v4 + 6 ≤ L) (k : Hp → Option Int) : ∃ h', Inv h' ∧ Lw_case_38 N L xs v4 h k = k h' := by
  unfold Lw_case_38 M_Lw_tally
  simp (disch := omega) only [rdX_ok hv, pu_bs]
  have ry := px_rg xs v4 1
  have rt := px_rg xs v4 2
  generalize px xs v4 1 = y at *
  generalize px xs v4 2 = t at *
  have ry' := ry
  unfold rg at ry'
  have rt' := rt
  unfold rg at rt'
  by_cases c1 : 0 < h 84 0 ∧ 0 ≤ y ∧ y ≤ 9999
  · have ok := i.okb c1.1
    have hm := ok.many
    have yr := Yr_of ok c1.2.1
    have hy := yr.bd ok
    by_cases c2 : 0 ≤ t ∧ t ≤ 5
    · obtain ⟨hC, e1, e2, e3, e4⟩ := q_settled (N := N) (by omega) i ok c1.2.1 c1.2.2
      have cbC : CB (h 84) hC 23 := by have := e2.cb; rw [e3] at this; exact this
      have q := c_feastsWith (h := hC) (N := N) (by omega) ok cbC (fun f hf => res_fa ok _ _ hf) e4 (t := t) (by omega)
      refine fin_case (R := fun g => M_Md_tally N g y t) (v := cnt (fun f => decide ((res (h 84) (lp (h 84) y) (psc (h 84) y)).2.1 f = t)) (h 84 42).toNat) (hC := hC) (code := 0) (idx := 0) ?_ e2 e3 (Or.inl ⟨rfl, rfl⟩) (fun g gi g84 => ?_) k
      · unfold M_FB_tally
        rw [q_checkYear i ry, if_pos c1, xb0, q_checkNumber rt (by omega) (by omega), if_pos c2, xb0, e1, pu_bs, q, pu_bs]
      · obtain ⟨h', f1, f2, f3, f4⟩ := m_resolves (h := hs g 83 0 0) (N := N) (b := h 84) (by omega) ok (b84 g84) c1.2.1 (show y ≤ 20000 by omega)
        have q := m_tally_L (h := h') (N := N) (by omega) ok f4 (t := t) (by omega)
        refine ⟨_, h', ?_, Fz_thrown.trans f2.fz, t0q f2, fun _ => rfl⟩
        unfold M_Md_tally
        rw [q_isYear gi ry, pu_bs, g84, if_pos c1, pu_lt, if_neg ne10, m_isIn (by omega) (by omega) (by omega) (by omega) (by omega) (by omega), pu_bs, if_pos c2, if_neg ne10]
        refine jt0.trans ?_
        rw [f1, pu_bs]
        exact q
    · refine fin_case (R := fun g => M_Md_tally N g y t) (code := 3) (v := 0) (hC := h) (idx := 2) ?_ i rfl (Or.inr ⟨by omega, rfl, by omega, by omega⟩) (fun g gi g84 => ?_) k
      · unfold M_FB_tally
        rw [q_checkYear i ry, if_pos c1, xb0, q_checkNumber rt (by omega) (by omega), if_neg c2, xbn (by omega)]
      · refine ⟨0, hs g 83 0 2, ?_, Fz_thrown, hs_at, fun z => by omega⟩
        unfold M_Md_tally
        rw [q_isYear gi ry, pu_bs, g84, if_pos c1, pu_lt, if_neg ne10, m_isIn (by omega) (by omega) (by omega) (by omega) (by omega) (by omega), pu_bs, if_neg c2, if_pos eq00]
        exact jtv (by omega)
  · refine fin_case (R := fun g => M_Md_tally N g y t) (code := 1) (v := 0) (hC := h) (idx := 1) ?_ i rfl (Or.inr ⟨by omega, rfl, by omega, by omega⟩) (fun g gi g84 => ?_) k
    · unfold M_FB_tally
      rw [q_checkYear i ry, if_neg c1, xbn (by omega)]
    · refine ⟨0, hs g 83 0 1, ?_, Fz_thrown, hs_at, fun z => by omega⟩
      unfold M_Md_tally
      rw [q_isYear gi ry, pu_bs, g84, if_neg c1, pu_lt, if_pos eq00]
      exact jtv (by omega)
theorem k_heaviest (hN : 7000 < N) (i : Inv h) (hv : 0 ≤ v4 ∧ v4 + 6 ≤ L) (k : Hp → Option Int) : ∃ h', Inv h' ∧ Lw_case_32 N L xs v4 h k = k h' := by
  unfold Lw_case_32 M_Lw_heaviest
  simp (disch := omega) only [rdX_ok hv, pu_bs]
  have ry := px_rg xs v4 1
  have rn := px_rg xs v4 2
  have rt := bz_01 (px xs v4 3)
  generalize px xs v4 1 = y at *
  generalize px xs v4 2 = n at *
  generalize bz01 (px xs v4 3) = t at *
  have ry' := ry
  unfold rg at ry'
  have rn' := rn
  unfold rg at rn'
  by_cases c1 : 0 < h 84 0 ∧ 0 ≤ y ∧ y ≤ 9999
  · have ok := i.okb c1.1
    have hm := ok.many
    have yr := Yr_of ok c1.2.1
    have hy := yr.bd ok
    by_cases c2 : 1 ≤ n ∧ n ≤ 60
    · have en : ((n.toNat : Nat) : Int) = n := by omega
      have refR : ∀ g, Inv g → g 84 = h 84 → ∃ h', M_Md_heaviest N g y n t = some (if n ≤ yd (h 84) + lp (h 84) y then (if t = 0 then (hvf (h 84) (lp (h 84) y) (psc (h 84) y) n.toNat ((yd (h 84) + lp (h 84) y).toNat - n.toNat)).1 else (hvf (h 84) (lp (h 84) y) (psc (h 84) y) n.toNat ((yd (h 84) + lp (h 84) y).toNat - n.toNat)).2) else -1, h') ∧ Fz g h' ∧ h' 83 0 = 0 := by
        intro g gi g84
        obtain ⟨h', f1, f2, f3, f4⟩ := m_resolves (h := hs g 83 0 0) (N := N) (b := h 84) (by omega) ok (b84 g84) c1.2.1 (show y ≤ 20000 by omega)
        obtain ⟨h2, q1, q2⟩ := m_heaviest_L (h := h') (N := N) (by omega) ok yr f4 (n := n.toNat) (by omega) (by omega) rt
        rw [en] at q1
        refine ⟨h2, ?_, (Fz_thrown.trans f2.fz).trans q2.fq.fz, by rw [q2.2 0 (by omega) (by omega) (by omega)]; exact t0q f2⟩
        unfold M_Md_heaviest
        rw [q_isYear gi ry, pu_bs, g84, if_pos c1, pu_lt, if_neg ne10, m_isIn (by omega) (by omega) (by omega) (by omega) (by omega) (by omega), pu_bs, if_pos c2, if_neg ne10]
        refine jt0.trans ?_
        rw [f1, pu_bs]
        exact q1
      have hdo := c_daysOf ok i.cb c1.2.1 (show y ≤ 20000 by omega)
      by_cases c3 : n ≤ yd (h 84) + lp (h 84) y
      · obtain ⟨hC, e1, e2, e3, e4⟩ := q_settled (N := N) (by omega) i ok c1.2.1 c1.2.2
        have q := c_heaviestFrom (h := hC) (N := N) (by omega) ok yr e4 (n := n.toNat) (by omega) (by omega)
        rw [en] at q
        obtain ⟨j, j1, j2, j3⟩ := hvf_V (h 84) (lp (h 84) y) (psc (h 84) y) n.toNat ((yd (h 84) + lp (h 84) y).toNat - n.toNat)
        have q2 := c_weightOf (h := hC) (N := N) (by omega) ok yr e4 (i := j) (n := n.toNat) (by omega)
        rw [en, ← j2, ← j3] at q2
        refine fin_case (R := fun g => M_Md_heaviest N g y n t) (v := if t = 0 then (hvf (h 84) (lp (h 84) y) (psc (h 84) y) n.toNat ((yd (h 84) + lp (h 84) y).toNat - n.toNat)).1 else (hvf (h 84) (lp (h 84) y) (psc (h 84) y) n.toNat ((yd (h 84) + lp (h 84) y).toNat - n.toNat)).2) (hC := hC) (code := 0) (idx := 0) ?_ e2 e3 (Or.inl ⟨rfl, rfl⟩) (fun g gi g84 => ?_) k
        · unfold M_FB_heaviest
          rw [q_checkYear i ry, if_pos c1, xb0, q_checkNumber rn (by omega) (by omega), if_pos c2, xb0, hdo, pu_bs]
          rcases rt with e | e <;> subst e
          · simp (disch := omega) only [leb_iff, ltb_iff, eqb_iff, pu_rmP, pu_dvP, pu_bs, pu_b0, pu_b1, pu_c0, pu_c1, pu_lt, pu_rdN, pu_wrN, hs_at, hs_cell, hs_slot, if_true, if_false, true_and, and_true, pu_rd, pu_wr, Int.reduceToNat, Int.toNat_natCast, decide_eq_true_eq, Int.add_zero, Bool.false_eq_true, if_pos, if_neg, e1, q]
          · simp (disch := omega) only [leb_iff, ltb_iff, eqb_iff, pu_rmP, pu_dvP, pu_bs, pu_b0, pu_b1, pu_c0, pu_c1, pu_lt, pu_rdN, pu_wrN, hs_at, hs_cell, hs_slot, if_true, if_false, true_and, and_true, pu_rd, pu_wr, Int.reduceToNat, Int.toNat_natCast, decide_eq_true_eq, Int.add_zero, Bool.false_eq_true, if_pos, if_neg, e1, q, q2]
        · obtain ⟨h', f1, f2, f3⟩ := refR g gi g84
          rw [if_pos c3] at f1
          exact ⟨_, h', f1, f2, f3, fun _ => rfl⟩
      · refine fin_case (R := fun g => M_Md_heaviest N g y n t) (v := -1) (hC := h) (code := 0) (idx := 0) ?_ i rfl (Or.inl ⟨rfl, rfl⟩) (fun g gi g84 => ?_) k
        · unfold M_FB_heaviest
          rw [q_checkYear i ry, if_pos c1, xb0, q_checkNumber rn (by omega) (by omega), if_pos c2, xb0, hdo, pu_bs]
          simp (disch := omega) only [leb_iff, ltb_iff, eqb_iff, pu_rmP, pu_dvP, pu_bs, pu_b0, pu_b1, pu_c0, pu_c1, pu_lt, pu_rdN, pu_wrN, hs_at, hs_cell, hs_slot, if_true, if_false, true_and, and_true, pu_rd, pu_wr, Int.reduceToNat, Int.toNat_natCast, decide_eq_true_eq, Int.add_zero, Bool.false_eq_true, if_pos, if_neg]
        · obtain ⟨h', f1, f2, f3⟩ := refR g gi g84
          rw [if_neg c3] at f1
          exact ⟨_, h', f1, f2, f3, fun _ => rfl⟩
    · refine fin_case (R := fun g => M_Md_heaviest N g y n t) (code := 3) (v := 0) (hC := h) (idx := 2) ?_ i rfl (Or.inr ⟨by omega, rfl, by omega, by omega⟩) (fun g gi g84 => ?_) k
      · unfold M_FB_heaviest
        rw [q_checkYear i ry, if_pos c1, xb0, q_checkNumber rn (by omega) (by omega), if_neg c2, xbn (by omega)]
      · refine ⟨0, hs g 83 0 2, ?_, Fz_thrown, hs_at, fun z => by omega⟩
        unfold M_Md_heaviest
        rw [q_isYear gi ry, pu_bs, g84, if_pos c1, pu_lt, if_neg ne10, m_isIn (by omega) (by omega) (by omega) (by omega) (by omega) (by omega), pu_bs, if_neg c2, if_pos eq00]
        exact jtv (by omega)
  · refine fin_case (R := fun g => M_Md_heaviest N g y n t) (code := 1) (v := 0) (hC := h) (idx := 1) ?_ i rfl (Or.inr ⟨by omega, rfl, by omega, by omega⟩) (fun g gi g84 => ?_) k
    · unfold M_FB_heaviest
      rw [q_checkYear i ry, if_neg c1, xbn (by omega)]
    · refine ⟨0, hs g 83 0 1, ?_, Fz_thrown, hs_at, fun z => by omega⟩
      unfold M_Md_heaviest
      rw [q_isYear gi ry, pu_bs, g84, if_neg c1, pu_lt, if_pos eq00]
      exact jtv (by omega)
theorem k_fates (hN : 7000 < N) (i : Inv h) (hv : 0 ≤ v4 ∧ v4 + 6 ≤ L) (k : Hp → Option Int) : ∃ h', Inv h' ∧ Lw_case_19 N L xs v4 h k = k h' := by
  unfold Lw_case_19 M_Lw_fates
  simp (disch := omega) only [rdX_ok hv, pu_bs]
  have rf := px_rg xs v4 1
  have rt := px_rg xs v4 2
  have rq := bz_01 (px xs v4 3)
  generalize px xs v4 1 = f at *
  generalize px xs v4 2 = t at *
  generalize bz01 (px xs v4 3) = q at *
  have rf' := rf
  unfold rg at rf'
  have rt' := rt
  unfold rg at rt'
  have hm := q_many i
  by_cases c1 : 0 ≤ f ∧ f < h 84 42
  · have ok := i.okf c1.2 c1.1
    have ef : ((f.toNat : Nat) : Int) = f := by omega
    have hf : ((f.toNat : Nat) : Int) < h 84 42 := by omega
    by_cases c2 : 0 ≤ t ∧ t ≤ 5
    · obtain ⟨hC, e1, e2, e3, e4, e5⟩ := c_allSettled (h := h) (N := N) (by omega) ok i.cb (i.pl ok) (i.ro ok)
      have iC : Inv hC := Inv_class i e2 (fun _ => e3) (fun _ => e4)
      have h84 : hC 84 = h 84 := e2.1 84 (by omega)
      have cbC : CB (h 84) hC 23 := e2.cb (by omega) i.cb
      have hd : ∀ g, Inv g → g 84 = h 84 → ∀ r, Md_fates_L51 N f t q (cyN (h 84)) N 0 0 (hs g 83 0 0) = r → M_Md_fates N g f t q = r := by
        intro g gi g84 r e
        unfold M_Md_fates
        rw [q_isFeast gi rf, pu_bs, g84, if_pos c1, pu_lt, if_neg ne10, m_isIn (by omega) (by omega) (by omega) (by omega) (by omega) (by omega), pu_bs, if_pos c2, if_neg ne10]
        refine jt0.trans ?_
        rw [m_cycle0 (by omega) ok (b84 g84), pu_bs]
        exact e
      rcases rq with e | e
      · have q1 := c_yearsWith (h := hC) (N := N) (by omega) ok e4.rb e5 hf (t := t) (by omega)
        rw [ef] at q1
        refine fin_case (R := fun g => M_Md_fates N g f t q) (v := cnt (fun y => decide ((rsS (h 84) (sy (h 84) y)).2.1 f.toNat = t)) (cyN (h 84))) (hC := hC) (code := 0) (idx := 0) ?_ iC h84 (Or.inl ⟨rfl, rfl⟩) (fun g gi g84 => ?_) k
        · unfold M_FB_fates
          rw [q_checkFeast i rf, if_pos c1, xb0, q_checkNumber rt (by omega) (by omega), if_pos c2, xb0, e]
          simp (disch := omega) only [leb_iff, ltb_iff, eqb_iff, pu_rmP, pu_dvP, pu_bs, pu_b0, pu_b1, pu_c0, pu_c1, pu_lt, pu_rdN, pu_wrN, hs_at, hs_cell, hs_slot, if_true, if_false, true_and, and_true, pu_rd, pu_wr, Int.reduceToNat, Int.toNat_natCast, decide_eq_true_eq, Int.add_zero, Bool.false_eq_true, if_pos, if_neg, e1, q1]
        · obtain ⟨h', f1, f2⟩ := m_fates0 (h := hs g 83 0 0) (N := N) (by omega) ok (b84 g84) hf (t := t) (by omega)
          rw [ef] at f1
          exact ⟨_, h', hd g gi g84 _ (by rw [e]; exact f1), Fz_thrown.trans f2.fz, t0q f2, fun _ => rfl⟩
      · obtain ⟨r, q1, q2⟩ := c_firstWith (h := hC) (N := N) (by omega) ok e4.rb e5 hf (t := t) (by omega)
        rw [ef] at q1
        refine fin_case (R := fun g => M_Md_fates N g f t q) (v := r) (hC := hC) (code := 0) (idx := 0) ?_ iC h84 (Or.inl ⟨rfl, rfl⟩) (fun g gi g84 => ?_) k
        · unfold M_FB_fates
          rw [q_checkFeast i rf, if_pos c1, xb0, q_checkNumber rt (by omega) (by omega), if_pos c2, xb0, e]
          simp (disch := omega) only [leb_iff, ltb_iff, eqb_iff, pu_rmP, pu_dvP, pu_bs, pu_b0, pu_b1, pu_c0, pu_c1, pu_lt, pu_rdN, pu_wrN, hs_at, hs_cell, hs_slot, if_true, if_false, true_and, and_true, pu_rd, pu_wr, Int.reduceToNat, Int.toNat_natCast, decide_eq_true_eq, Int.add_zero, Bool.false_eq_true, if_pos, if_neg, e1, q1]
        · obtain ⟨r', h', f1, f2, f3⟩ := m_fates1 (h := hs g 83 0 0) (N := N) (by omega) ok (b84 g84) hf (t := t) (by omega)
          rw [ef] at f1
          exact ⟨r', h', hd g gi g84 _ (by rw [e]; exact f1), Fz_thrown.trans f2.fz, t0q f2, fun _ => Lst_uniq f3 q2⟩
    · refine fin_case (R := fun g => M_Md_fates N g f t q) (code := 3) (v := 0) (hC := h) (idx := 2) ?_ i rfl (Or.inr ⟨by omega, rfl, by omega, by omega⟩) (fun g gi g84 => ?_) k
      · unfold M_FB_fates
        rw [q_checkFeast i rf, if_pos c1, xb0, q_checkNumber rt (by omega) (by omega), if_neg c2, xbn (by omega)]
      · refine ⟨0, hs g 83 0 2, ?_, Fz_thrown, hs_at, fun z => by omega⟩
        unfold M_Md_fates
        rw [q_isFeast gi rf, pu_bs, g84, if_pos c1, pu_lt, if_neg ne10, m_isIn (by omega) (by omega) (by omega) (by omega) (by omega) (by omega), pu_bs, if_neg c2, if_pos eq00]
        exact jtv (by omega)
  · refine fin_case (R := fun g => M_Md_fates N g f t q) (code := 1) (v := 0) (hC := h) (idx := 1) ?_ i rfl (Or.inr ⟨by omega, rfl, by omega, by omega⟩) (fun g gi g84 => ?_) k
    · unfold M_FB_fates
      rw [q_checkFeast i rf, if_neg c1, xbn (by omega)]
    · refine ⟨0, hs g 83 0 1, ?_, Fz_thrown, hs_at, fun z => by omega⟩
      unfold M_Md_fates
      rw [q_isFeast gi rf, pu_bs, g84, if_neg c1, pu_lt, if_pos eq00]
      exact jtv (by omega)
theorem k_far (hN : 7000 < N) (i : Inv h) (hv : 0 ≤ v4 ∧ v4 + 6 ≤ L) (k : Hp → Option Int) : ∃ h', Inv h' ∧ Lw_case_20 N L xs v4 h k = k h' := by
  unfold Lw_case_20 M_Lw_far
  simp (disch := omega) only [rdX_ok hv, pu_bs]
  have rf := px_rg xs v4 1
  generalize px xs v4 1 = f at *
  have rf' := rf
  unfold rg at rf'
  have hm := q_many i
  by_cases c1 : 0 ≤ f ∧ f < h 84 42
  · have ok := i.okf c1.2 c1.1
    have ef : ((f.toNat : Nat) : Int) = f := by omega
    have hf : ((f.toNat : Nat) : Int) < h 84 42 := by omega
    obtain ⟨hC, e1, e2, e3, e4, e5⟩ := c_allSettled (h := h) (N := N) (by omega) ok i.cb (i.pl ok) (i.ro ok)
    have iC : Inv hC := Inv_class i e2 (fun _ => e3) (fun _ => e4)
    have h84 : hC 84 = h 84 := e2.1 84 (by omega)
    have cbC : CB (h 84) hC 23 := e2.cb (by omega) i.cb
    obtain ⟨r, q1, q2⟩ := c_farthest (h := hC) (N := N) (by omega) ok e4.rb e5 hf
    rw [ef] at q1
    refine fin_case (R := fun g => M_Md_far N g f) (v := r) (hC := hC) (code := 0) (idx := 0) ?_ iC h84 (Or.inl ⟨rfl, rfl⟩) (fun g gi g84 => ?_) k
    · unfold M_FB_far
      rw [q_checkFeast i rf, if_pos c1, xb0, e1, pu_bs, q1, pu_bs]
    · obtain ⟨r', h', f1, f2, f3⟩ := m_far_L (h := hs g 83 0 0) (N := N) (by omega) ok (b84 g84) hf
      rw [ef] at f1
      refine ⟨r', h', ?_, Fz_thrown.trans f2.fz, t0q f2, fun _ => Mx0_uniq f3 q2⟩
      unfold M_Md_far
      rw [q_isFeast gi rf, pu_bs, g84, if_pos c1, pu_lt, if_neg ne10]
      refine jt0.trans ?_
      rw [m_cycle0 (by omega) ok (b84 g84), pu_bs]
      exact f1
  · refine fin_case (R := fun g => M_Md_far N g f) (code := 1) (v := 0) (hC := h) (idx := 1) ?_ i rfl (Or.inr ⟨by omega, rfl, by omega, by omega⟩) (fun g gi g84 => ?_) k
    · unfold M_FB_far
      rw [q_checkFeast i rf, if_neg c1, xbn (by omega)]
    · refine ⟨0, hs g 83 0 1, ?_, Fz_thrown, hs_at, fun z => by omega⟩
      unfold M_Md_far
      rw [q_isFeast gi rf, pu_bs, g84, if_neg c1, pu_lt, if_pos eq00]
      exact jtv (by omega)
theorem k_span (hN : 7000 < N) (i : Inv h) (hv : 0 ≤ v4 ∧ v4 + 6 ≤ L) (k : Hp → Option Int) : ∃ h', Inv h' ∧ Lw_case_21 N L xs v4 h k = k h' := by
  unfold Lw_case_21 M_Lw_span
  simp (disch := omega) only [rdX_ok hv, pu_bs]
  have rf := px_rg xs v4 1
  have rt := bz_01 (px xs v4 2)
  generalize px xs v4 1 = f at *
  generalize bz01 (px xs v4 2) = t at *
  have rf' := rf
  unfold rg at rf'
  have hm := q_many i
  by_cases c1 : 0 ≤ f ∧ f < h 84 42
  · have ok := i.okf c1.2 c1.1
    have ef : ((f.toNat : Nat) : Int) = f := by omega
    have hf : ((f.toNat : Nat) : Int) < h 84 42 := by omega
    obtain ⟨hC, e1, e2, e3, e4, e5⟩ := c_allSettled (h := h) (N := N) (by omega) ok i.cb (i.pl ok) (i.ro ok)
    have iC : Inv hC := Inv_class i e2 (fun _ => e3) (fun _ => e4)
    have h84 : hC 84 = h 84 := e2.1 84 (by omega)
    have cbC : CB (h 84) hC 23 := e2.cb (by omega) i.cb
    obtain ⟨r, q1, q2⟩ := c_outermost (h := hC) (N := N) (by omega) ok e4.rb e5 hf rt
    rw [ef] at q1
    refine fin_case (R := fun g => M_Md_span N g f t) (v := r) (hC := hC) (code := 0) (idx := 0) ?_ iC h84 (Or.inl ⟨rfl, rfl⟩) (fun g gi g84 => ?_) k
    · unfold M_FB_span
      rw [q_checkFeast i rf, if_pos c1, xb0, e1, pu_bs, q1, pu_bs]
    · obtain ⟨r', h', f1, f2, f3⟩ := m_span_L (h := hs g 83 0 0) (N := N) (by omega) ok (b84 g84) hf rt
      rw [ef] at f1
      refine ⟨r', h', ?_, Fz_thrown.trans f2.fz, t0q f2, fun _ => Ext_uniq f3 q2⟩
      unfold M_Md_span
      rw [q_isFeast gi rf, pu_bs, g84, if_pos c1, pu_lt, if_neg ne10]
      refine jt0.trans ?_
      rw [m_cycle0 (by omega) ok (b84 g84), pu_bs]
      exact f1
  · refine fin_case (R := fun g => M_Md_span N g f t) (code := 1) (v := 0) (hC := h) (idx := 1) ?_ i rfl (Or.inr ⟨by omega, rfl, by omega, by omega⟩) (fun g gi g84 => ?_) k
    · unfold M_FB_span
      rw [q_checkFeast i rf, if_neg c1, xbn (by omega)]
    · refine ⟨0, hs g 83 0 1, ?_, Fz_thrown, hs_at, fun z => by omega⟩
      unfold M_Md_span
      rw [q_isFeast gi rf, pu_bs, g84, if_neg c1, pu_lt, if_pos eq00]
      exact jtv (by omega)
theorem k_interval (hN : 7000 < N) (i : Inv h) (hv : 0 ≤ v4 ∧ v4 + 6 ≤ L) (k : Hp → Option Int) : ∃ h', Inv h' ∧ Lw_case_33 N L xs v4 h k = k h' := by
  unfold Lw_case_33 M_Lw_interval
  simp (disch := omega) only [rdX_ok hv, pu_bs]
  have rf := px_rg xs v4 1
  have rt := bz_01 (px xs v4 2)
  generalize px xs v4 1 = f at *
  generalize bz01 (px xs v4 2) = t at *
  have rf' := rf
  unfold rg at rf'
  have hm := q_many i
  by_cases c1 : 0 ≤ f ∧ f < h 84 42
  · have ok := i.okf c1.2 c1.1
    have ef : ((f.toNat : Nat) : Int) = f := by omega
    have hf : ((f.toNat : Nat) : Int) < h 84 42 := by omega
    obtain ⟨hC, e1, e2, e3, e4, e5⟩ := c_allSettled (h := h) (N := N) (by omega) ok i.cb (i.pl ok) (i.ro ok)
    have iC : Inv hC := Inv_class i e2 (fun _ => e3) (fun _ => e4)
    have h84 : hC 84 = h 84 := e2.1 84 (by omega)
    have cbC : CB (h 84) hC 23 := e2.cb (by omega) i.cb
    obtain ⟨r, q1, q2⟩ := c_gap (h := hC) (N := N) (by omega) ok cbC e4.rb e5 hf rt
    rw [ef] at q1
    refine fin_case (R := fun g => M_Md_interval N g f t) (v := r) (hC := hC) (code := 0) (idx := 0) ?_ iC h84 (Or.inl ⟨rfl, rfl⟩) (fun g gi g84 => ?_) k
    · unfold M_FB_interval
      rw [q_checkFeast i rf, if_pos c1, xb0, e1, pu_bs, q1, pu_bs]
    · obtain ⟨r', h', f1, f2, f3⟩ := m_interval_L (h := hs g 83 0 0) (N := N) (by omega) ok (b84 g84) hf rt
      rw [ef] at f1
      refine ⟨r', h', ?_, Fz_thrown.trans f2.fz, t0q f2, fun _ => Ext_uniq f3 q2⟩
      unfold M_Md_interval
      rw [q_isFeast gi rf, pu_bs, g84, if_pos c1, pu_lt, if_neg ne10]
      refine jt0.trans ?_
      rw [m_cycle0 (by omega) ok (b84 g84), pu_bs]
      exact f1
  · refine fin_case (R := fun g => M_Md_interval N g f t) (code := 1) (v := 0) (hC := h) (idx := 1) ?_ i rfl (Or.inr ⟨by omega, rfl, by omega, by omega⟩) (fun g gi g84 => ?_) k
    · unfold M_FB_interval
      rw [q_checkFeast i rf, if_neg c1, xbn (by omega)]
    · refine ⟨0, hs g 83 0 1, ?_, Fz_thrown, hs_at, fun z => by omega⟩
      unfold M_Md_interval
      rw [q_isFeast gi rf, pu_bs, g84, if_neg c1, pu_lt, if_pos eq00]
      exact jtv (by omega)
theorem k_unresolved (hN : 7000 < N) (i : Inv h) (hv : 0 ≤ v4 ∧ v4 + 6 ≤ L) (k : Hp → Option Int) : ∃ h', Inv h' ∧ Lw_case_26 N L xs v4 h k = k h' := by
  unfold Lw_case_26 M_Lw_unresolved
  by_cases c1 : 0 < h 84 0
  · have ok := i.okb c1
    obtain ⟨hC, e1, e2, e3, e4, e5⟩ := c_allSettled (h := h) (N := N) (by omega) ok i.cb (i.pl ok) (i.ro ok)
    have iC : Inv hC := Inv_class i e2 (fun _ => e3) (fun _ => e4)
    have h84 : hC 84 = h 84 := e2.1 84 (by omega)
    have cbC : CB (h 84) hC 23 := e2.cb (by omega) i.cb
    obtain ⟨r, q1, q2⟩ := c_firstLeft (h := hC) (N := N) (by omega) ok cbC e4.rb e5
    refine fin_case (R := fun g => M_Md_unresolved N g ) (v := r) (hC := hC) (code := 0) (idx := 0) ?_ iC h84 (Or.inl ⟨rfl, rfl⟩) (fun g gi g84 => ?_) k
    · unfold M_FB_unresolved
      rw [q_checkBook i, if_pos c1, xb0, e1, pu_bs, q1, pu_bs]
    · obtain ⟨r', h', f1, f2, f3⟩ := m_unres_L (h := hs g 83 0 0) (N := N) (by omega) ok (b84 g84)
      refine ⟨r', h', ?_, Fz_thrown.trans f2.fz, t0q f2, fun _ => Lst_uniq f3 q2⟩
      unfold M_Md_unresolved
      rw [q_hasBook gi, pu_bs, g84, if_pos c1, pu_lt, if_neg ne10]
      refine jt0.trans ?_
      rw [m_cycle0 (by omega) ok (b84 g84), pu_bs]
      exact f1
  · refine fin_case (R := fun g => M_Md_unresolved N g ) (code := 4) (v := 0) (hC := h) (idx := 1) ?_ i rfl (Or.inr ⟨by omega, rfl, by omega, by omega⟩) (fun g gi g84 => ?_) k
    · unfold M_FB_unresolved
      rw [q_checkBook i, if_neg c1, xbn (by omega)]
    · refine ⟨0, hs g 83 0 1, ?_, Fz_thrown, hs_at, fun z => by omega⟩
      unfold M_Md_unresolved
      rw [q_hasBook gi, pu_bs, g84, if_neg c1, pu_lt, if_pos eq00]
      exact jtv (by omega)
theorem k_meets (hN : 7000 < N) (i : Inv h) (hv : 0 ≤ v4 ∧ v4 + 6 ≤ L) (k : Hp → Option Int) : ∃ h', Inv h' ∧ Lw_case_22 N L xs v4 h k = k h' := by
  unfold Lw_case_22 M_Lw_meets
  simp (disch := omega) only [rdX_ok hv, pu_bs]
  have rf := px_rg xs v4 1
  generalize px xs v4 1 = f at *
  have rf' := rf
  unfold rg at rf'
  have hm := q_many i
  by_cases c1 : 0 ≤ f ∧ f < h 84 42
  · have ok := i.okf c1.2 c1.1
    have ef : ((f.toNat : Nat) : Int) = f := by omega
    have hf : ((f.toNat : Nat) : Int) < h 84 42 := by omega
    obtain ⟨hC, q1, q2, q3⟩ := c_metBy (h := h) (N := N) (by omega) ok i.cb (i.pl ok) (i.ro ok).rb hf
    rw [ef] at q1
    have iC : Inv hC := Inv_class i q2.fc (fun _ => q3) (fun o => q2.ro (i.ro o))
    refine fin_case (R := fun g => M_Md_meets N g f) (v := (bsm (mtB (h 84) f.toNat 80) (h 84 42).toNat : Int)) (hC := hC) (code := 0) (idx := 0) ?_ iC (q2 84 (by omega)) (Or.inl ⟨rfl, rfl⟩) (fun g gi g84 => ?_) k
    · unfold M_FB_meets
      rw [q_checkFeast i rf, if_pos c1, xb0, q1, pu_bs]
    · obtain ⟨h', f1, f2⟩ := m_meets_L (h := hs g 83 0 0) (N := N) (by omega) ok (b84 g84) hf
      rw [ef] at f1
      have hmt : bsm (mtY (h 84) f.toNat (cyN (h 84))) (h 84 42).toNat = bsm (mtB (h 84) f.toNat 80) (h 84 42).toNat := bsm_congr (fun x _ => (mt_eq ok f.toNat x).symm)
      refine ⟨(bsm (mtY (h 84) f.toNat (cyN (h 84))) (h 84 42).toNat : Int), h', ?_, Fz_thrown.trans f2.fz, t0q f2, fun _ => by rw [hmt]⟩
      unfold M_Md_meets
      rw [q_isFeast gi rf, pu_bs, g84, if_pos c1, pu_lt, if_neg ne10]
      refine jt0.trans ?_
      rw [m_cycle0 (by omega) ok (b84 g84), pu_bs]
      exact f1
  · refine fin_case (R := fun g => M_Md_meets N g f) (code := 1) (v := 0) (hC := h) (idx := 1) ?_ i rfl (Or.inr ⟨by omega, rfl, by omega, by omega⟩) (fun g gi g84 => ?_) k
    · unfold M_FB_meets
      rw [q_checkFeast i rf, if_neg c1, xbn (by omega)]
    · refine ⟨0, hs g 83 0 1, ?_, Fz_thrown, hs_at, fun z => by omega⟩
      unfold M_Md_meets
      rw [q_isFeast gi rf, pu_bs, g84, if_neg c1, pu_lt, if_pos eq00]
      exact jtv (by omega)
theorem k_safe (hN : 7000 < N) (i : Inv h) (hv : 0 ≤ v4 ∧ v4 + 6 ≤ L) (k : Hp → Option Int) : ∃ h', Inv h' ∧ Lw_case_24 N L xs v4 h k = k h' := by
  unfold Lw_case_24 M_Lw_safe
  simp (disch := omega) only [rdX_ok hv, pu_bs]
  have rf := px_rg xs v4 1
  generalize px xs v4 1 = f at *
  have rf' := rf
  unfold rg at rf'
  have hm := q_many i
  by_cases c1 : 0 ≤ f ∧ f < h 84 42
  · have ok := i.okf c1.2 c1.1
    have ef : ((f.toNat : Nat) : Int) = f := by omega
    have hf : ((f.toNat : Nat) : Int) < h 84 42 := by omega
    obtain ⟨G, hC, q1, q2, q3, q4⟩ := c_safeRank (h := h) (N := N) (by omega) ok i.cb (i.pl ok) (i.ro ok).rb hf
    rw [ef] at q1
    have iC : Inv hC := Inv_class i q2.fc (fun _ => q3) (fun o => q2.ro (i.ro o))
    refine fin_case (R := fun g => M_Md_safe N g f) (v := sff (h 84) f.toNat G 9 1) (hC := hC) (code := 0) (idx := 0) ?_ iC (q2 84 (by omega)) (Or.inl ⟨rfl, rfl⟩) (fun g gi g84 => ?_) k
    · unfold M_FB_safe
      rw [q_checkFeast i rf, if_pos c1, xb0, q1, pu_bs]
    · obtain ⟨h', f1, f2⟩ := m_safe_L (h := hs g 83 0 0) (N := N) (by omega) ok (b84 g84) hf q4
      rw [ef] at f1
      refine ⟨_, h', ?_, Fz_thrown.trans f2.fz, t0q f2, fun _ => rfl⟩
      unfold M_Md_safe
      rw [q_isFeast gi rf, pu_bs, g84, if_pos c1, pu_lt, if_neg ne10]
      refine jt0.trans ?_
      have ei : ((43 : Int) + 7 * f + 0).toNat = 43 + 7 * f.toNat + 0 := by omega
      have er : hs g 83 0 0 84 (43 + 7 * f.toNat + 0) = fq (h 84) f.toNat 0 := by rw [b84 g84]; rfl
      rw [pu_rd (by omega) (by omega), pu_bs, ei, er, pu_wr (by omega) (by omega), pu_bs, ei]
      exact f1
  · refine fin_case (R := fun g => M_Md_safe N g f) (code := 1) (v := 0) (hC := h) (idx := 1) ?_ i rfl (Or.inr ⟨by omega, rfl, by omega, by omega⟩) (fun g gi g84 => ?_) k
    · unfold M_FB_safe
      rw [q_checkFeast i rf, if_neg c1, xbn (by omega)]
    · refine ⟨0, hs g 83 0 1, ?_, Fz_thrown, hs_at, fun z => by omega⟩
      unfold M_Md_safe
      rw [q_isFeast gi rf, pu_bs, g84, if_neg c1, pu_lt, if_pos eq00]
      exact jtv (by omega)
theorem k_rival (hN : 7000 < N) (i : Inv h) (hv : 0 ≤ v4 ∧ v4 + 6 ≤ L) (k : Hp → Option Int) : ∃ h', Inv h' ∧ Lw_case_36 N L xs v4 h k = k h' := by
  unfold Lw_case_36 M_Lw_rival
  simp (disch := omega) only [rdX_ok hv, pu_bs]
  have rf := px_rg xs v4 1
  generalize px xs v4 1 = f at *
  have rf' := rf
  unfold rg at rf'
  have hm := q_many i
  by_cases c1 : 0 ≤ f ∧ f < h 84 42
  · have ok := i.okf c1.2 c1.1
    have ef : ((f.toNat : Nat) : Int) = f := by omega
    have hf : ((f.toNat : Nat) : Int) < h 84 42 := by omega
    obtain ⟨hC, e1, e2, e3, e4, e5⟩ := c_allSettled (h := h) (N := N) (by omega) ok i.cb (i.pl ok) (i.ro ok)
    have iC : Inv hC := Inv_class i e2 (fun _ => e3) (fun _ => e4)
    have h84 : hC 84 = h 84 := e2.1 84 (by omega)
    have cbC : CB (h 84) hC 23 := e2.cb (by omega) i.cb
    have q1 := c_worstRival (h := hC) (N := N) (by omega) ok cbC e4.rb e5 hf
    rw [ef] at q1
    refine fin_case (R := fun g => M_Md_rival N g f) (v := (rvf (h 84) f.toNat (h 84 42).toNat).1) (hC := hC) (code := 0) (idx := 0) ?_ iC h84 (Or.inl ⟨rfl, rfl⟩) (fun g gi g84 => ?_) k
    · unfold M_FB_rival
      rw [q_checkFeast i rf, if_pos c1, xb0, e1, pu_bs, q1, pu_bs]
    · obtain ⟨h', f1, f2⟩ := m_rival_L (h := hs g 83 0 0) (N := N) (by omega) ok (b84 g84) hf
      rw [ef] at f1
      refine ⟨_, h', ?_, Fz_thrown.trans f2.fz, t0q f2, fun _ => rfl⟩
      unfold M_Md_rival
      rw [q_isFeast gi rf, pu_bs, g84, if_pos c1, pu_lt, if_neg ne10]
      exact jt0.trans f1
  · refine fin_case (R := fun g => M_Md_rival N g f) (code := 1) (v := 0) (hC := h) (idx := 1) ?_ i rfl (Or.inr ⟨by omega, rfl, by omega, by omega⟩) (fun g gi g84 => ?_) k
    · unfold M_FB_rival
      rw [q_checkFeast i rf, if_neg c1, xbn (by omega)]
    · refine ⟨0, hs g 83 0 1, ?_, Fz_thrown, hs_at, fun z => by omega⟩
      unfold M_Md_rival
      rw [q_isFeast gi rf, pu_bs, g84, if_neg c1, pu_lt, if_pos eq00]
      exact jtv (by omega)
theorem k_leader (hN : 7000 < N) (i : Inv h) (hv : 0 ≤ v4 ∧ v4 + 6 ≤ L) (k : Hp → Option Int) : ∃ h', Inv h' ∧ Lw_case_39 N L xs v4 h k = k h' := by
  unfold Lw_case_39 M_Lw_leader
  by_cases c1 : 0 < h 84 0
  · have ok := i.okb c1
    obtain ⟨hC, e1, e2, e3, e4, e5⟩ := c_allSettled (h := h) (N := N) (by omega) ok i.cb (i.pl ok) (i.ro ok)
    have iC : Inv hC := Inv_class i e2 (fun _ => e3) (fun _ => e4)
    have h84 : hC 84 = h 84 := e2.1 84 (by omega)
    have cbC : CB (h 84) hC 23 := e2.cb (by omega) i.cb
    have q1 := c_mostKept (h := hC) (N := N) (by omega) ok cbC e4.rb e5
    refine fin_case (R := fun g => M_Md_leader N g ) (v := (ldf (h 84) (h 84 42).toNat).1) (hC := hC) (code := 0) (idx := 0) ?_ iC h84 (Or.inl ⟨rfl, rfl⟩) (fun g gi g84 => ?_) k
    · unfold M_FB_leader
      rw [q_checkBook i, if_pos c1, xb0, e1, pu_bs, q1, pu_bs]
    · obtain ⟨h', f1, f2⟩ := m_leader_L (h := hs g 83 0 0) (N := N) (by omega) ok (b84 g84)
      refine ⟨_, h', ?_, Fz_thrown.trans f2.fz, t0q f2, fun _ => rfl⟩
      unfold M_Md_leader
      rw [q_hasBook gi, pu_bs, g84, if_pos c1, pu_lt, if_neg ne10]
      exact jt0.trans f1
  · refine fin_case (R := fun g => M_Md_leader N g ) (code := 4) (v := 0) (hC := h) (idx := 1) ?_ i rfl (Or.inr ⟨by omega, rfl, by omega, by omega⟩) (fun g gi g84 => ?_) k
    · unfold M_FB_leader
      rw [q_checkBook i, if_neg c1, xbn (by omega)]
    · refine ⟨0, hs g 83 0 1, ?_, Fz_thrown, hs_at, fun z => by omega⟩
      unfold M_Md_leader
      rw [q_hasBook gi, pu_bs, g84, if_neg c1, pu_lt, if_pos eq00]
      exact jtv (by omega)
theorem k_paschs (hN : 7000 < N) (i : Inv h) (hv : 0 ≤ v4 ∧ v4 + 6 ≤ L) (k : Hp → Option Int) : ∃ h', Inv h' ∧ Lw_case_27 N L xs v4 h k = k h' := by
  unfold Lw_case_27 M_Lw_paschs
  simp (disch := omega) only [rdX_ok hv, pu_bs]
  have rd := px_rg xs v4 1
  generalize px xs v4 1 = d at *
  have rd' := rd
  unfold rg at rd'
  by_cases c1 : 0 < h 84 0
  · have ok := i.okb c1
    have q1 := c_yearsWithPasch (h := h) (N := N) (by omega) ok i.cb (i.ro ok).rb rd
    refine fin_case (R := fun g => M_Md_paschs N g d) (v := cnt (fun y => decide (spc (h 84) (sy (h 84) y) = d)) (cyN (h 84))) (hC := h) (code := 0) (idx := 0) ?_ i rfl (Or.inl ⟨rfl, rfl⟩) (fun g gi g84 => ?_) k
    · unfold M_FB_paschs
      rw [q_checkBook i, if_pos c1, xb0, q1, pu_bs]
    · have f1 := m_paschs_L (h := hs g 83 0 0) (N := N) (by omega) ok (b84 g84) rd
      refine ⟨_, hs g 83 0 0, ?_, Fz_thrown, hs_at, fun _ => rfl⟩
      unfold M_Md_paschs
      rw [q_hasBook gi, pu_bs, g84, if_pos c1, pu_lt, if_neg ne10]
      refine jt0.trans ?_
      rw [m_cycle0 (by omega) ok (b84 g84), pu_bs]
      exact f1
  · refine fin_case (R := fun g => M_Md_paschs N g d) (code := 4) (v := 0) (hC := h) (idx := 1) ?_ i rfl (Or.inr ⟨by omega, rfl, by omega, by omega⟩) (fun g gi g84 => ?_) k
    · unfold M_FB_paschs
      rw [q_checkBook i, if_neg c1, xbn (by omega)]
    · refine ⟨0, hs g 83 0 1, ?_, Fz_thrown, hs_at, fun z => by omega⟩
      unfold M_Md_paschs
      rw [q_hasBook gi, pu_bs, g84, if_neg c1, pu_lt, if_pos eq00]
      exact jtv (by omega)
theorem k_sorts (hN : 7000 < N) (i : Inv h) (hv : 0 ≤ v4 ∧ v4 + 6 ≤ L) (k : Hp → Option Int) : ∃ h', Inv h' ∧ Lw_case_29 N L xs v4 h k = k h' := by
  unfold Lw_case_29 M_Lw_sorts
  by_cases c1 : 0 < h 84 0
  · have ok := i.okb c1
    have q1 := c_howManySorts (h := h) (N := N) (by omega) ok (i.ro ok).rb
    refine fin_case (R := fun g => M_Md_sorts N g ) (v := cnt (fun s => decide (0 < ofn (h 84) s)) 80) (hC := h) (code := 0) (idx := 0) ?_ i rfl (Or.inl ⟨rfl, rfl⟩) (fun g gi g84 => ?_) k
    · unfold M_FB_sorts
      rw [q_checkBook i, if_pos c1, xb0, q1, pu_bs]
    · obtain ⟨h', f1, f2⟩ := m_sorts_L (h := hs g 83 0 0) (N := N) (by omega) ok (b84 g84)
      refine ⟨_, h', ?_, ⟨fun c x1 x2 => by rw [f2 c (by omega), hs_cell x1], fun j x1 x2 x3 => by rw [f2 83 (by omega), hs_slot x1]⟩, by rw [f2 83 (by omega), hs_at], fun _ => rfl⟩
      unfold M_Md_sorts
      rw [q_hasBook gi, pu_bs, g84, if_pos c1, pu_lt, if_neg ne10]
      exact jt0.trans f1
  · refine fin_case (R := fun g => M_Md_sorts N g ) (code := 4) (v := 0) (hC := h) (idx := 1) ?_ i rfl (Or.inr ⟨by omega, rfl, by omega, by omega⟩) (fun g gi g84 => ?_) k
    · unfold M_FB_sorts
      rw [q_checkBook i, if_neg c1, xbn (by omega)]
    · refine ⟨0, hs g 83 0 1, ?_, Fz_thrown, hs_at, fun z => by omega⟩
      unfold M_Md_sorts
      rw [q_hasBook gi, pu_bs, g84, if_neg c1, pu_lt, if_pos eq00]
      exact jtv (by omega)
theorem k_lull (hN : 7000 < N) (i : Inv h) (hv : 0 ≤ v4 ∧ v4 + 6 ≤ L) (k : Hp → Option Int) : ∃ h', Inv h' ∧ Lw_case_37 N L xs v4 h k = k h' := by
  unfold Lw_case_37 M_Lw_lull
  simp (disch := omega) only [rdX_ok hv, pu_bs]
  have rt := px_rg xs v4 1
  generalize px xs v4 1 = t at *
  have rt' := rt
  unfold rg at rt'
  by_cases c1 : 0 < h 84 0
  · have ok := i.okb c1
    by_cases c2 : 1 ≤ t ∧ t ≤ 60
    · obtain ⟨hC, e1, e2, e3, e4, e5⟩ := c_allMeasured (h := h) (N := N) (by omega) ok i.cb (i.pl ok) (i.ro ok)
      have iC : Inv hC := Inv_class i e2 (fun _ => e3) (fun _ => e4)
      have h84 : hC 84 = h 84 := e2.1 84 (by omega)
      have cbC : CB (h 84) hC 23 := e2.cb (by omega) i.cb
      obtain ⟨r, q1, q2⟩ := c_firstRunOf (h := hC) (N := N) (by omega) ok e4.rb e5 (t := t) (by omega)
      refine fin_case (R := fun g => M_Md_lull N g t) (v := r) (hC := hC) (code := 0) (idx := 0) ?_ iC h84 (Or.inl ⟨rfl, rfl⟩) (fun g gi g84 => ?_) k
      · unfold M_FB_lull
        rw [q_checkBook i, if_pos c1, xb0, q_checkNumber rt (by omega) (by omega), if_pos c2, xb0, e1, pu_bs, q1, pu_bs]
      · obtain ⟨r', h', f1, f2, f3⟩ := m_lull_L (h := hs g 83 0 0) (N := N) (by omega) ok (b84 g84) (t := t) (by omega)
        refine ⟨r', h', ?_, Fz_thrown.trans f2.fz, t0q f2, fun _ => Lst_uniq f3 q2⟩
        unfold M_Md_lull
        rw [q_hasBook gi, pu_bs, g84, if_pos c1, pu_lt, if_neg ne10, m_isIn (by omega) (by omega) (by omega) (by omega) (by omega) (by omega), pu_bs, if_pos c2, if_neg ne10]
        refine jt0.trans ?_
        rw [m_cycle0 (by omega) ok (b84 g84), pu_bs]
        exact f1
    · refine fin_case (R := fun g => M_Md_lull N g t) (code := 3) (v := 0) (hC := h) (idx := 2) ?_ i rfl (Or.inr ⟨by omega, rfl, by omega, by omega⟩) (fun g gi g84 => ?_) k
      · unfold M_FB_lull
        rw [q_checkBook i, if_pos c1, xb0, q_checkNumber rt (by omega) (by omega), if_neg c2, xbn (by omega)]
      · refine ⟨0, hs g 83 0 2, ?_, Fz_thrown, hs_at, fun z => by omega⟩
        unfold M_Md_lull
        rw [q_hasBook gi, pu_bs, g84, if_pos c1, pu_lt, if_neg ne10, m_isIn (by omega) (by omega) (by omega) (by omega) (by omega) (by omega), pu_bs, if_neg c2, if_pos eq00]
        exact jtv (by omega)
  · refine fin_case (R := fun g => M_Md_lull N g t) (code := 4) (v := 0) (hC := h) (idx := 1) ?_ i rfl (Or.inr ⟨by omega, rfl, by omega, by omega⟩) (fun g gi g84 => ?_) k
    · unfold M_FB_lull
      rw [q_checkBook i, if_neg c1, xbn (by omega)]
    · refine ⟨0, hs g 83 0 1, ?_, Fz_thrown, hs_at, fun z => by omega⟩
      unfold M_Md_lull
      rw [q_hasBook gi, pu_bs, g84, if_neg c1, pu_lt, if_pos eq00]
      exact jtv (by omega)
theorem k_course (hN : 7000 < N) (i : Inv h) (hv : 0 ≤ v4 ∧ v4 + 6 ≤ L) (k : Hp → Option Int) : ∃ h', Inv h' ∧ Lw_case_31 N L xs v4 h k = k h' := by
  unfold Lw_case_31 M_Lw_course
  simp (disch := omega) only [rdX_ok hv, pu_bs]
  have rw := px_rg xs v4 1
  generalize px xs v4 1 = w at *
  have rw' := rw
  unfold rg at rw'
  by_cases c1 : 0 < h 84 0
  · have ok := i.okb c1
    by_cases c2 : 0 ≤ w ∧ w ≤ 3
    · obtain ⟨hC, e1, e2, e3, e4, e5⟩ := c_allMeasured (h := h) (N := N) (by omega) ok i.cb (i.pl ok) (i.ro ok)
      have iC : Inv hC := Inv_class i e2 (fun _ => e3) (fun _ => e4)
      have h84 : hC 84 = h 84 := e2.1 84 (by omega)
      have cbC : CB (h 84) hC 23 := e2.cb (by omega) i.cb
      have hw2 : w % 2 = 0 ∨ w % 2 = 1 := by omega
      obtain ⟨r, q1, q2⟩ := c_lessons (h := hC) (N := N) (by omega) ok e4.rb e5 (a := if w < 2 then 0 else 1) (t := w % 2) (by split <;> simp) hw2
      refine fin_case (R := fun g => M_Md_course N g w) (v := r) (hC := hC) (code := 0) (idx := 0) ?_ iC h84 (Or.inl ⟨rfl, rfl⟩) (fun g gi g84 => ?_) k
      · unfold M_FB_course
        rw [q_checkBook i, if_pos c1, xb0, q_checkWhat rw (by omega), if_pos c2, xb0, e1, pu_bs]
        rcases (show w = 0 ∨ w = 1 ∨ w = 2 ∨ w = 3 by omega) with e | e | e | e <;> subst e
        · have q1' : M_Round_lessons N hC 0 0 = some r := q1
          simp (disch := omega) only [leb_iff, ltb_iff, eqb_iff, pu_rmP, pu_dvP, pu_bs, pu_b0, pu_b1, pu_c0, pu_c1, pu_lt, pu_rdN, pu_wrN, hs_at, hs_cell, hs_slot, if_true, if_false, true_and, and_true, pu_rd, pu_wr, Int.reduceToNat, Int.toNat_natCast, decide_eq_true_eq, Int.add_zero, Bool.false_eq_true, if_pos, if_neg, q1']
        · have q1' : M_Round_lessons N hC 0 1 = some r := q1
          simp (disch := omega) only [leb_iff, ltb_iff, eqb_iff, pu_rmP, pu_dvP, pu_bs, pu_b0, pu_b1, pu_c0, pu_c1, pu_lt, pu_rdN, pu_wrN, hs_at, hs_cell, hs_slot, if_true, if_false, true_and, and_true, pu_rd, pu_wr, Int.reduceToNat, Int.toNat_natCast, decide_eq_true_eq, Int.add_zero, Bool.false_eq_true, if_pos, if_neg, q1']
        · have q1' : M_Round_lessons N hC 1 0 = some r := q1
          simp (disch := omega) only [leb_iff, ltb_iff, eqb_iff, pu_rmP, pu_dvP, pu_bs, pu_b0, pu_b1, pu_c0, pu_c1, pu_lt, pu_rdN, pu_wrN, hs_at, hs_cell, hs_slot, if_true, if_false, true_and, and_true, pu_rd, pu_wr, Int.reduceToNat, Int.toNat_natCast, decide_eq_true_eq, Int.add_zero, Bool.false_eq_true, if_pos, if_neg, q1']
        · have q1' : M_Round_lessons N hC 1 1 = some r := q1
          simp (disch := omega) only [leb_iff, ltb_iff, eqb_iff, pu_rmP, pu_dvP, pu_bs, pu_b0, pu_b1, pu_c0, pu_c1, pu_lt, pu_rdN, pu_wrN, hs_at, hs_cell, hs_slot, if_true, if_false, true_and, and_true, pu_rd, pu_wr, Int.reduceToNat, Int.toNat_natCast, decide_eq_true_eq, Int.add_zero, Bool.false_eq_true, if_pos, if_neg, q1']
      · obtain ⟨r', h', f1, f2, f3⟩ := m_course_L (h := hs g 83 0 0) (N := N) (by omega) ok (b84 g84) c2
        refine ⟨r', h', ?_, Fz_thrown.trans f2.fz, t0q f2, fun _ => Ext_uniq f3 q2⟩
        unfold M_Md_course
        rw [q_hasBook gi, pu_bs, g84, if_pos c1, pu_lt, if_neg ne10, m_isIn (by omega) (by omega) (by omega) (by omega) (by omega) (by omega), pu_bs, if_pos c2, if_neg ne10]
        refine jt0.trans ?_
        rw [m_cycle0 (by omega) ok (b84 g84), pu_bs]
        exact f1
    · refine fin_case (R := fun g => M_Md_course N g w) (code := 2) (v := 0) (hC := h) (idx := 2) ?_ i rfl (Or.inr ⟨by omega, rfl, by omega, by omega⟩) (fun g gi g84 => ?_) k
      · unfold M_FB_course
        rw [q_checkBook i, if_pos c1, xb0, q_checkWhat rw (by omega), if_neg c2, xbn (by omega)]
      · refine ⟨0, hs g 83 0 2, ?_, Fz_thrown, hs_at, fun z => by omega⟩
        unfold M_Md_course
        rw [q_hasBook gi, pu_bs, g84, if_pos c1, pu_lt, if_neg ne10, m_isIn (by omega) (by omega) (by omega) (by omega) (by omega) (by omega), pu_bs, if_neg c2, if_pos eq00]
        exact jtv (by omega)
  · refine fin_case (R := fun g => M_Md_course N g w) (code := 4) (v := 0) (hC := h) (idx := 1) ?_ i rfl (Or.inr ⟨by omega, rfl, by omega, by omega⟩) (fun g gi g84 => ?_) k
    · unfold M_FB_course
      rw [q_checkBook i, if_neg c1, xbn (by omega)]
    · refine ⟨0, hs g 83 0 1, ?_, Fz_thrown, hs_at, fun z => by omega⟩
      unfold M_Md_course
      rw [q_hasBook gi, pu_bs, g84, if_neg c1, pu_lt, if_pos eq00]
      exact jtv (by omega)
theorem k_cycle (hN : 7000 < N) (i : Inv h) (hv : 0 ≤ v4 ∧ v4 + 6 ≤ L) (k : Hp → Option Int) : ∃ h', Inv h' ∧ Lw_case_18 N L xs v4 h k = k h' := by
  unfold Lw_case_18 M_Lw_cycle
  by_cases c1 : 0 < h 84 0
  · have ok := i.okb c1
    refine fin_case (R := fun g => M_Md_cycle N g ) (v := (cyN (h 84) : Int)) (hC := h) (code := 0) (idx := 0) ?_ i rfl (Or.inl ⟨rfl, rfl⟩) (fun g gi g84 => ?_) k
    · unfold M_FB_cycle
      rw [q_checkBook i, if_pos c1, xb0, (i.ro ok).rb.yrs]
    · refine ⟨_, hs g 83 0 0, ?_, Fz_thrown, hs_at, fun _ => rfl⟩
      unfold M_Md_cycle
      rw [q_hasBook gi, pu_bs, g84, if_pos c1, if_neg ne10, jt0, m_cycle0 (by omega) ok (b84 g84), pu_bs]
  · refine fin_case (R := fun g => M_Md_cycle N g ) (code := 4) (v := 0) (hC := h) (idx := 1) ?_ i rfl (Or.inr ⟨by omega, rfl, by omega, by omega⟩) (fun g gi g84 => ?_) k
    · unfold M_FB_cycle
      rw [q_checkBook i, if_neg c1, xbn (by omega)]
    · refine ⟨0, hs g 83 0 1, ?_, Fz_thrown, hs_at, fun z => by omega⟩
      unfold M_Md_cycle
      rw [q_hasBook gi, pu_bs, g84, if_neg c1, if_pos eq00]
      exact jtv (by omega)
theorem k_next (hN : 7000 < N) (i : Inv h) (hv : 0 ≤ v4 ∧ v4 + 6 ≤ L) (k : Hp → Option Int) : ∃ h', Inv h' ∧ Lw_case_25 N L xs v4 h k = k h' := by
  unfold Lw_case_25 M_Lw_next
  simp (disch := omega) only [rdX_ok hv, pu_bs]
  have rf := px_rg xs v4 1
  have rw := px_rg xs v4 2
  have ry := px_rg xs v4 3
  generalize px xs v4 1 = f at *
  generalize px xs v4 2 = w at *
  generalize px xs v4 3 = y at *
  have rf' := rf
  unfold rg at rf'
  have rw' := rw
  unfold rg at rw'
  have ry' := ry
  unfold rg at ry'
  have hm := q_many i
  by_cases c1 : 0 ≤ f ∧ f < h 84 42
  · have ok := i.okf c1.2 c1.1
    have ef : ((f.toNat : Nat) : Int) = f := by omega
    have hf : ((f.toNat : Nat) : Int) < h 84 42 := by omega
    have hwk := ok.week
    by_cases c0 : 0 < h 84 0 ∧ 0 ≤ y ∧ y ≤ 9999
    · have ey : ((y.toNat : Nat) : Int) = y := by omega
      by_cases c2 : 0 ≤ w ∧ w ≤ h 84 0 - 1
      · obtain ⟨hC, e1, e2, e3, e4, e5⟩ := c_allSettled (h := h) (N := N) (by omega) ok i.cb (i.pl ok) (i.ro ok)
        have iC : Inv hC := Inv_class i e2 (fun _ => e3) (fun _ => e4)
        have h84 : hC 84 = h 84 := e2.1 84 (by omega)
        have cbC : CB (h 84) hC 23 := e2.cb (by omega) i.cb
        obtain ⟨r, q1, q2⟩ := c_firstOn (h := hC) (N := N) (by omega) ok cbC e4.rb e5 hf (w := w) (by omega) (y := y.toNat) (by omega)
        rw [ef, ey] at q1
        refine fin_case (R := fun g => M_Md_next N g f w y) (v := r) (hC := hC) (code := 0) (idx := 0) ?_ iC h84 (Or.inl ⟨rfl, rfl⟩) (fun g gi g84 => ?_) k
        · unfold M_FB_next
          rw [q_checkFeast i rf, if_pos c1, xb0, q_checkYear i ry, if_pos c0, xb0, i.cb.week, q_checkNumber rw (by omega) (by omega), if_pos c2, xb0, e1, pu_bs, q1, pu_bs]
        · obtain ⟨r', h', f1, f2, f3⟩ := m_next_L (h := hs g 83 0 0) (N := N) (by omega) ok (b84 g84) hf (w := w) (by omega) (y := y.toNat) (by omega)
          rw [ef, ey] at f1
          refine ⟨r', h', ?_, Fz_thrown.trans f2.fz, t0q f2, fun _ => Nx_uniq f3 q2⟩
          unfold M_Md_next
          rw [q_isFeast gi rf, pu_bs, g84, if_pos c1, pu_lt, if_neg ne10, q_isYear gi ry, pu_bs, g84, if_pos c0, if_neg ne10, pu_rd (by omega) (by omega), pu_bs, show Int.toNat 0 = 0 from rfl, g84, m_isIn (by omega) (by omega) (by omega) (by omega) (by omega) (by omega), pu_bs, if_pos c2, if_neg ne10]
          refine jt0.trans ?_
          rw [m_cycle0 (by omega) ok (b84 g84), pu_bs]
          exact f1
      · refine fin_case (R := fun g => M_Md_next N g f w y) (code := 3) (v := 0) (hC := h) (idx := 2) ?_ i rfl (Or.inr ⟨by omega, rfl, by omega, by omega⟩) (fun g gi g84 => ?_) k
        · unfold M_FB_next
          rw [q_checkFeast i rf, if_pos c1, xb0, q_checkYear i ry, if_pos c0, xb0, i.cb.week, q_checkNumber rw (by omega) (by omega), if_neg c2, xbn (by omega)]
        · refine ⟨0, hs g 83 0 2, ?_, Fz_thrown, hs_at, fun z => by omega⟩
          unfold M_Md_next
          rw [q_isFeast gi rf, pu_bs, g84, if_pos c1, pu_lt, if_neg ne10, q_isYear gi ry, pu_bs, g84, if_pos c0, if_neg ne10, pu_rd (by omega) (by omega), pu_bs, show Int.toNat 0 = 0 from rfl, g84, m_isIn (by omega) (by omega) (by omega) (by omega) (by omega) (by omega), pu_bs, if_neg c2, if_pos eq00]
          exact jtv (by omega)
    · refine fin_case (R := fun g => M_Md_next N g f w y) (code := 1) (v := 0) (hC := h) (idx := 1) ?_ i rfl (Or.inr ⟨by omega, rfl, by omega, by omega⟩) (fun g gi g84 => ?_) k
      · unfold M_FB_next
        rw [q_checkFeast i rf, if_pos c1, xb0, q_checkYear i ry, if_neg c0, xbn (by omega)]
      · refine ⟨0, hs g 83 0 1, ?_, Fz_thrown, hs_at, fun z => by omega⟩
        unfold M_Md_next
        rw [q_isFeast gi rf, pu_bs, g84, if_pos c1, pu_lt, if_neg ne10, q_isYear gi ry, pu_bs, g84, if_neg c0, if_pos eq00]
        exact jtv (by omega)
  · refine fin_case (R := fun g => M_Md_next N g f w y) (code := 1) (v := 0) (hC := h) (idx := 1) ?_ i rfl (Or.inr ⟨by omega, rfl, by omega, by omega⟩) (fun g gi g84 => ?_) k
    · unfold M_FB_next
      rw [q_checkFeast i rf, if_neg c1, xbn (by omega)]
    · refine ⟨0, hs g 83 0 1, ?_, Fz_thrown, hs_at, fun z => by omega⟩
      unfold M_Md_next
      rw [q_isFeast gi rf, pu_bs, g84, if_neg c1, pu_lt, if_pos eq00]
      exact jtv (by omega)
theorem k_better (hN : 7000 < N) (i : Inv h) (hv : 0 ≤ v4 ∧ v4 + 6 ≤ L) (k : Hp → Option Int) : ∃ h', Inv h' ∧ Lw_case_35 N L xs v4 h k = k h' := by
  unfold Lw_case_35 M_Lw_better
  simp (disch := omega) only [rdX_ok hv, pu_bs]
  have rf := px_rg xs v4 1
  have rn := px_rg xs v4 2
  have rw := px_rg xs v4 3
  generalize px xs v4 1 = f at *
  generalize px xs v4 2 = n at *
  generalize px xs v4 3 = w at *
  have rf' := rf
  unfold rg at rf'
  have rn' := rn
  unfold rg at rn'
  have rw' := rw
  unfold rg at rw'
  have hm := q_many i
  by_cases c1 : 0 ≤ f ∧ f < h 84 42
  · have ok := i.okf c1.2 c1.1
    have ef : ((f.toNat : Nat) : Int) = f := by omega
    have hf : ((f.toNat : Nat) : Int) < h 84 42 := by omega
    by_cases c0 : 0 ≤ w ∧ w ≤ 1
    · by_cases c2 : 0 ≤ n ∧ n ≤ 5
      · have en : ((n.toNat : Nat) : Int) = n := by omega
        obtain ⟨hC, q1, q2, q3, q4⟩ := c_bestShift (h := h) (N := N) (by omega) ok i.cb (i.pl ok) (i.ro ok).rb hf (m := n.toNat) (by omega)
        rw [ef, en] at q1
        have fc : Fc h hC := ⟨fun c hc => q2 c (by omega) (by omega), fun j _ _ => by rw [q2 73 (by omega) (by omega)]⟩
        have iC : Inv hC := Inv_class i fc (fun _ => q3) (fun o => by
          have r := i.ro o
          refine RoundOk.mk (fc.rb r.rb) ?_ ?_
          · unfold RS; rw [q2 73 (by omega) (by omega), q2 76 (by omega) (by omega), q2 77 (by omega) (by omega), q2 78 (by omega) (by omega)]; exact r.rs
          · unfold RM; rw [q2 73 (by omega) (by omega), q2 79 (by omega) (by omega), q2 80 (by omega) (by omega), q2 81 (by omega) (by omega)]; exact r.rm)
        have h36 : hC 36 f.toNat = fq (h 84) f.toNat 3 := by rw [q2 36 (by omega) (by omega)]; exact (cb_fea i.cb hf).2.2.1
        have hw01 : w = 0 ∨ w = 1 := by omega
        refine fin_case (R := fun g => M_Md_better N g f n w) (v := if w = 0 then fq (h 84) f.toNat 3 + bst (h 84) f.toNat n.toNat else kbC (h 84) f.toNat (bst (h 84) f.toNat n.toNat)) (hC := hC) (code := 0) (idx := 0) ?_ iC (q2 84 (by omega) (by omega)) (Or.inl ⟨rfl, rfl⟩) (fun g gi g84 => ?_) k
        · unfold M_FB_better
          rw [q_checkFeast i rf, if_pos c1, xb0, q_checkWhat rw (by omega), if_pos c0, xb0, q_checkNumber rn (by omega) (by omega), if_pos c2, xb0, q1, pu_bs]
          dsimp only
          rw [q4]
          rcases hw01 with e | e <;> subst e
          · simp (disch := omega) only [leb_iff, ltb_iff, eqb_iff, pu_rmP, pu_dvP, pu_bs, pu_b0, pu_b1, pu_c0, pu_c1, pu_lt, pu_rdN, pu_wrN, hs_at, hs_cell, hs_slot, if_true, if_false, true_and, and_true, pu_rd, pu_wr, Int.reduceToNat, Int.toNat_natCast, decide_eq_true_eq, Int.add_zero, Bool.false_eq_true, if_pos, if_neg, h36]
          · simp (disch := omega) only [leb_iff, ltb_iff, eqb_iff, pu_rmP, pu_dvP, pu_bs, pu_b0, pu_b1, pu_c0, pu_c1, pu_lt, pu_rdN, pu_wrN, hs_at, hs_cell, hs_slot, if_true, if_false, true_and, and_true, pu_rd, pu_wr, Int.reduceToNat, Int.toNat_natCast, decide_eq_true_eq, Int.add_zero, Bool.false_eq_true, if_pos, if_neg]
        · obtain ⟨h', f1, f2⟩ := m_better_L (h := hs g 83 0 0) (N := N) (by omega) ok (b84 g84) hf (m := n.toNat) (by omega) hw01
          rw [ef, en] at f1
          refine ⟨_, h', ?_, Fz_thrown.trans f2.fz, t0q f2, fun _ => rfl⟩
          unfold M_Md_better
          rw [q_isFeast gi rf, pu_bs, g84, if_pos c1, pu_lt, if_neg ne10, m_isIn (by omega) (by omega) (by omega) (by omega) (by omega) (by omega), pu_bs, if_pos c0, if_neg ne10, m_isIn (by omega) (by omega) (by omega) (by omega) (by omega) (by omega), pu_bs, if_pos c2, if_neg ne10]
          refine jt0.trans ?_
          have ei : ((43 : Int) + 7 * f + 3).toNat = 43 + 7 * f.toNat + 3 := by omega
          have er : hs g 83 0 0 84 (43 + 7 * f.toNat + 3) = fq (h 84) f.toNat 3 := by rw [b84 g84]; rfl
          rw [pu_rd (by omega) (by omega), pu_bs, ei, er]
          exact f1
      · refine fin_case (R := fun g => M_Md_better N g f n w) (code := 3) (v := 0) (hC := h) (idx := 3) ?_ i rfl (Or.inr ⟨by omega, rfl, by omega, by omega⟩) (fun g gi g84 => ?_) k
        · unfold M_FB_better
          rw [q_checkFeast i rf, if_pos c1, xb0, q_checkWhat rw (by omega), if_pos c0, xb0, q_checkNumber rn (by omega) (by omega), if_neg c2, xbn (by omega)]
        · refine ⟨0, hs g 83 0 3, ?_, Fz_thrown, hs_at, fun z => by omega⟩
          unfold M_Md_better
          rw [q_isFeast gi rf, pu_bs, g84, if_pos c1, pu_lt, if_neg ne10, m_isIn (by omega) (by omega) (by omega) (by omega) (by omega) (by omega), pu_bs, if_pos c0, if_neg ne10, m_isIn (by omega) (by omega) (by omega) (by omega) (by omega) (by omega), pu_bs, if_neg c2, if_pos eq00]
          exact jtv (by omega)
    · refine fin_case (R := fun g => M_Md_better N g f n w) (code := 2) (v := 0) (hC := h) (idx := 2) ?_ i rfl (Or.inr ⟨by omega, rfl, by omega, by omega⟩) (fun g gi g84 => ?_) k
      · unfold M_FB_better
        rw [q_checkFeast i rf, if_pos c1, xb0, q_checkWhat rw (by omega), if_neg c0, xbn (by omega)]
      · refine ⟨0, hs g 83 0 2, ?_, Fz_thrown, hs_at, fun z => by omega⟩
        unfold M_Md_better
        rw [q_isFeast gi rf, pu_bs, g84, if_pos c1, pu_lt, if_neg ne10, m_isIn (by omega) (by omega) (by omega) (by omega) (by omega) (by omega), pu_bs, if_neg c0, if_pos eq00]
        exact jtv (by omega)
  · refine fin_case (R := fun g => M_Md_better N g f n w) (code := 1) (v := 0) (hC := h) (idx := 1) ?_ i rfl (Or.inr ⟨by omega, rfl, by omega, by omega⟩) (fun g gi g84 => ?_) k
    · unfold M_FB_better
      rw [q_checkFeast i rf, if_neg c1, xbn (by omega)]
    · refine ⟨0, hs g 83 0 1, ?_, Fz_thrown, hs_at, fun z => by omega⟩
      unfold M_Md_better
      rw [q_isFeast gi rf, pu_bs, g84, if_neg c1, pu_lt, if_pos eq00]
      exact jtv (by omega)
end Qe
