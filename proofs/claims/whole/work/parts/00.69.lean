section El
variable {h : Hp} {N L : Nat} {xs : Nat → Int32} {v4 : Int}
theorem fin_err {x : Option XO} {cs : List Nat} {code : Nat} {v idx v' : Int} {hC g' : Hp} {f : Int → Int} (hx : x = some (code, v, hC)) (c1 : code ≠ 0) (c2 : cidx code cs 1 = some idx) (c3 : 1 ≤ idx ∧ idx ≤ 3) {R : Hp → Option (Int × Hp)}
    (e1 : R hC = some (v', g')) (e3 : g' 83 0 = idx) (hi : Inv g') (k : Hp → Option Int) :
    ∃ h', Inv h' ∧ ((xcat x cs f).bind (fun q => (R q.2).bind (fun q' => (M_Md_thrown q'.2).bind (fun y => if eqb y q.1 then if eqb q.1 0 then if eqL (q'.2 96 0) (f q'.1) then k q'.2 else some 0 else k q'.2 else some 0)))) = k h' := by
  subst hx
  unfold xcat M_Md_thrown
  refine ⟨g', hi, ?_⟩
  simp only [pu_bs, if_neg c1]
  rw [c2]
  simp only [pu_bs]
  rw [e1]
  simp only [pu_bs]
  rw [e3]
  simp (disch := omega) only [leb_iff, ltb_iff, eqb_iff, pu_rmP, pu_dvP, pu_bs, pu_b0, pu_b1, pu_c0, pu_c1, pu_lt, pu_rdN, pu_wrN, hs_at, hs_cell, hs_slot, if_true, if_false, true_and, and_true, pu_rd, pu_wr, Int.reduceToNat, Int.toNat_natCast, decide_eq_true_eq, Int.add_zero, Bool.false_eq_true, if_pos, if_neg]
theorem apU_cal {b : Nat → Int} {kd f m v : Int} : ∀ k, k < 43 → k ≠ 16 → apU b kd f m v k = b k := fun k hk h16 => by
  unfold apU
  by_cases c0 : kd = 0
  · rw [if_pos c0]; exact up_cal k hk
  · rw [if_neg c0]
    by_cases c1 : kd = 1
    · rw [if_pos c1]; exact up_cal k hk
    · rw [if_neg c1]
      by_cases c2 : kd = 2
      · rw [if_pos c2, up_cal k hk]; exact up_cal k hk
      · rw [if_neg c2]; exact pu_up_ne h16
theorem c_takeBack {g : Hp} {j : Nat} {b : Nat → Int} {kd f m v : Int} (hN : 100 < N) (ok : OkB b) (ok' : OkB (apU b kd f m v)) (cb : CB b g 23) (hj : j < 8) (e2 : g 62 j = kd) (e3 : g 63 j = f) (e4 : g 64 j = m) (e5 : g 65 j = v)
    (hk : 0 ≤ kd ∧ kd ≤ 3) (hf : kd ≤ 2 → 0 ≤ f ∧ f < b 42) : ∃ hC, M_FB_takeBack N g (j : Int) = some hC ∧ Chg b (apU b kd f m v) g hC := by
  unfold M_FB_takeBack
  rw [pu_rdN (by omega), pu_bs, pu_rdN (by omega), pu_bs, pu_rdN (by omega), pu_bs, e2, e3, e5]
  have ef : kd ≤ 2 → ((f.toNat : Nat) : Int) = f := fun z => by have := hf z; omega
  have hf' : kd ≤ 2 → ((f.toNat : Nat) : Int) < b 42 := fun z => by have := hf z; omega
  by_cases c0 : kd = 0
  · have a0 : apU b kd f m v = pu_up b (43 + 7 * f.toNat + 0) v := by unfold apU; rw [if_pos c0]
    rw [a0] at ok' ⊢
    have hv := (ok'.fea f.toNat (by rw [up_cal 42 (by omega)]; exact hf' (by omega))).1
    rw [up_fq (by omega) (by omega), if_pos ⟨rfl, rfl⟩] at hv
    obtain ⟨hC, w1, w2⟩ := c_tellRank (h := g) (N := N) hN ok cb (hf' (by omega)) hv
    rw [ef (by omega)] at w1
    exact ⟨hC, by simp (disch := omega) only [leb_iff, ltb_iff, eqb_iff, pu_rmP, pu_dvP, pu_bs, pu_b0, pu_b1, pu_c0, pu_c1, pu_lt, pu_rdN, pu_wrN, hs_at, hs_cell, hs_slot, if_true, if_false, true_and, and_true, pu_rd, pu_wr, Int.reduceToNat, Int.toNat_natCast, decide_eq_true_eq, Int.add_zero, Bool.false_eq_true, if_pos, if_neg, w1], w2⟩
  · by_cases c1 : kd = 1
    · have a0 : apU b kd f m v = pu_up b (43 + 7 * f.toNat + 4) v := by unfold apU; rw [if_neg c0, if_pos c1]
      rw [a0]
      obtain ⟨hC, w1, w2⟩ := c_tellLaw (h := g) ok cb (hf' (by omega)) (v := v)
      rw [ef (by omega)] at w1
      exact ⟨hC, by simp (disch := omega) only [leb_iff, ltb_iff, eqb_iff, pu_rmP, pu_dvP, pu_bs, pu_b0, pu_b1, pu_c0, pu_c1, pu_lt, pu_rdN, pu_wrN, hs_at, hs_cell, hs_slot, if_true, if_false, true_and, and_true, pu_rd, pu_wr, Int.reduceToNat, Int.toNat_natCast, decide_eq_true_eq, Int.add_zero, Bool.false_eq_true, if_pos, if_neg, w1], w2⟩
    · by_cases c2 : kd = 2
      · have a0 : apU b kd f m v = pu_up (pu_up b (43 + 7 * f.toNat + 2) m) (43 + 7 * f.toNat + 3) v := by unfold apU; rw [if_neg c0, if_neg c1, if_pos c2]
        rw [a0]
        obtain ⟨hC, w1, w2⟩ := c_tellDay (h := g) ok cb (hf' (by omega)) (m := m) (v := v)
        rw [ef (by omega)] at w1
        rw [pu_rdN (by omega), e4]
        exact ⟨hC, by simp (disch := omega) only [leb_iff, ltb_iff, eqb_iff, pu_rmP, pu_dvP, pu_bs, pu_b0, pu_b1, pu_c0, pu_c1, pu_lt, pu_rdN, pu_wrN, hs_at, hs_cell, hs_slot, if_true, if_false, true_and, and_true, pu_rd, pu_wr, Int.reduceToNat, Int.toNat_natCast, decide_eq_true_eq, Int.add_zero, Bool.false_eq_true, if_pos, if_neg, w1], w2⟩
      · have a0 : apU b kd f m v = pu_up b 16 v := by unfold apU; rw [if_neg c0, if_neg c1, if_neg c2]
        rw [a0]
        obtain ⟨hC, w1, w2⟩ := c_tellReach (h := g) ok cb (v := v)
        exact ⟨hC, by simp (disch := omega) only [leb_iff, ltb_iff, eqb_iff, pu_rmP, pu_dvP, pu_bs, pu_b0, pu_b1, pu_c0, pu_c1, pu_lt, pu_rdN, pu_wrN, hs_at, hs_cell, hs_slot, if_true, if_false, true_and, and_true, pu_rd, pu_wr, Int.reduceToNat, Int.toNat_natCast, decide_eq_true_eq, Int.add_zero, Bool.false_eq_true, if_pos, if_neg, w1], w2⟩
theorem m_undo_L {g : Hp} {j : Nat} (hN : 2000 < N) (hj : j < 8) (e3 : g 83 3 = (j : Int)) (z : ∀ k, 127 ≤ k → g 84 k = 0) : ∃ r : Int × Hp, Md_undo_L37 N N 0 g = some r ∧ r.1 = (j : Int) ∧ (∀ c, c ≠ 84 → r.2 c = g c) ∧ r.2 84 = rowU g j :=
  lp_inv (fun n k x => Md_undo_L37 N n k x) (fun k x => (∀ c, c ≠ 84 → x c = g c) ∧ ∀ q, x 84 q = if q < k then g 85 (127 * j + q) else g 84 q) (fun r : Int × Hp => r.1 = (j : Int) ∧ (∀ c, c ≠ 84 → r.2 c = g c) ∧ r.2 84 = rowU g j) 127
    (fun n k x hk hp => by
      obtain ⟨k1, k2⟩ := hp
      refine Or.inl ⟨hs x 84 k (g 85 (127 * j + k)), ⟨fun c hc => by rw [hs_cell hc]; exact k1 c hc, fun q => ?_⟩, ?_⟩
      · by_cases e : q = k
        · subst e; rw [hs_at, if_pos (by omega)]
        · rw [hs_slot e, k2 q]
          by_cases e2 : q < k
          · rw [if_pos e2, if_pos (by omega)]
          · rw [if_neg e2, if_neg (by omega)]
      · (try dsimp only)
        have x3 : x 83 3 = (j : Int) := by rw [k1 83 (by omega)]; exact e3
        have x85 : x 85 (127 * j + k) = g 85 (127 * j + k) := by rw [k1 85 (by omega)]
        have ei : ((127 : Int) * (j : Int) + (k : Int)).toNat = 127 * j + k := by omega
        rw [Md_undo_L37, x3]
        simp (disch := omega) only [leb_iff, ltb_iff, eqb_iff, pu_rmP, pu_dvP, pu_bs, pu_b0, pu_b1, pu_c0, pu_c1, pu_lt, pu_rdN, pu_wrN, hs_at, hs_cell, hs_slot, if_true, if_false, true_and, and_true, pu_rd, pu_wr, Int.reduceToNat, Int.toNat_natCast, decide_eq_true_eq, Int.add_zero, Bool.false_eq_true, if_pos, if_neg, ei, x85])
    (fun n x hp => by
      obtain ⟨k1, k2⟩ := hp
      have x3 : x 83 3 = (j : Int) := by rw [k1 83 (by omega)]; exact e3
      refine ⟨((j : Int), x), ?_, rfl, k1, ?_⟩
      · (try dsimp only)
        rw [Md_undo_L37, x3]
        simp (disch := omega) only [leb_iff, ltb_iff, eqb_iff, pu_rmP, pu_dvP, pu_bs, pu_b0, pu_b1, pu_c0, pu_c1, pu_lt, pu_rdN, pu_wrN, hs_at, hs_cell, hs_slot, if_true, if_false, true_and, and_true, pu_rd, pu_wr, Int.reduceToNat, Int.toNat_natCast, decide_eq_true_eq, Int.add_zero, Bool.false_eq_true, if_pos, if_neg]
      · funext q
        show x 84 q = rowU g j q
        unfold rowU
        rw [k2 q]
        by_cases c : q < 127
        · rw [if_pos c, if_pos c]
        · rw [if_neg c, if_neg c]; exact z q (by omega)) N 0 g (by omega) (by omega) ⟨fun _ _ => rfl, fun q => by rw [if_neg (by omega)]⟩
theorem k_undo (hN : 7000 < N) (i : Inv h) (k : Hp → Option Int) : ∃ h', Inv h' ∧ Lw_case_17 N L xs v4 h k = k h' := by
  unfold Lw_case_17 M_Lw_undo
  have sz := i.pa.sz
  have plo := i.pa.lo
  have phi := i.pa.hi
  by_cases c : h 83 3 = 0
  · refine fin_err (R := fun g => M_Md_undo N g) (code := 4) (v := 0) (hC := h) (idx := 1) (v' := 0) (g' := hs h 83 0 1) ?_ (by omega) rfl (by omega) ?_ hs_at (Fz_thrown.inv i) k
    · unfold M_FB_undo
      rw [sz, c]
      simp (disch := omega) only [leb_iff, ltb_iff, eqb_iff, pu_rmP, pu_dvP, pu_bs, pu_b0, pu_b1, pu_c0, pu_c1, pu_lt, pu_rdN, pu_wrN, hs_at, hs_cell, hs_slot, if_true, if_false, true_and, and_true, pu_rd, pu_wr, Int.reduceToNat, Int.toNat_natCast, decide_eq_true_eq, Int.add_zero, Bool.false_eq_true, if_pos, if_neg]
    · unfold M_Md_undo
      rw [pu_lt, c, if_pos eq00]
      exact jtv (by omega)
  · obtain ⟨j, hj⟩ : ∃ j : Nat, h 83 3 = (j : Int) + 1 := ⟨(h 83 3 - 1).toNat, by omega⟩
    have p := i.pa.js j (by omega)
    have ok := i.pa.ok (by omega)
    have hAt : rowAt h (j + 1) = h 84 := by unfold rowAt; rw [if_pos (by omega)]
    have peq := p.eq
    rw [hAt] at peq
    generalize hb : rowU h j = b' at *
    have ok' := p.ok
    rw [hb] at ok'
    have h42 := p.mn
    rw [hb] at h42
    obtain ⟨hC, w1, w2⟩ := c_takeBack (g := hs h 61 0 (j : Int)) (N := N) (b := h 84) (by omega) ok (by rw [← peq]; exact ok') (CB_frame i.cb (fun c x1 x2 => hs_cell (by omega))) (show j < 8 by omega) (show hs h 61 0 (j : Int) 62 j = h 62 j by rw [hs_cell (by omega)]) (show hs h 61 0 (j : Int) 63 j = h 63 j by rw [hs_cell (by omega)]) (show hs h 61 0 (j : Int) 64 j = h 64 j by rw [hs_cell (by omega)]) (show hs h 61 0 (j : Int) 65 j = h 65 j by rw [hs_cell (by omega)]) p.kd p.fe
    rw [← peq] at w2
    have hf : ∀ c, (c < 23 ∨ 41 < c) → c ≠ 61 → c ≠ 66 → c ≠ 73 → hC c = h c := fun c x1 x2 x3 x4 => by rw [w2.fr c x1 x3 x4, hs_cell x2]
    have h61 : hC 61 0 = (j : Int) := by rw [w2.fr 61 (by omega) (by omega) (by omega), hs_at]
    generalize hG : hs (hs (hs hC 96 0 (nrm (j : Int))) 83 0 0) 83 3 (j : Int) = G
    have Gc : ∀ c, c ≠ 83 → c ≠ 96 → G c = hC c := fun c x1 x2 => by subst hG; rw [hs_cell x1, hs_cell x1, hs_cell x2]
    have G3 : G 83 3 = (j : Int) := by subst hG; rw [hs_at]
    have G0 : G 83 0 = 0 := by subst hG; rw [hs_slot (by omega), hs_at]
    have Gj : ∀ q, q ≠ 0 → q ≠ 3 → G 83 q = h 83 q := fun q x1 x2 => by subst hG; rw [hs_slot x2, hs_slot x1, hs_cell (by omega), hf 83 (by omega) (by omega) (by omega) (by omega)]
    have G96 : G 96 0 = nrm (j : Int) := by subst hG; rw [hs_cell (by omega), hs_cell (by omega), hs_at]
    have G84 : G 84 = h 84 := by rw [Gc 84 (by omega) (by omega), hf 84 (by omega) (by omega) (by omega) (by omega)]
    have G85 : G 85 = h 85 := by rw [Gc 85 (by omega) (by omega), hf 85 (by omega) (by omega) (by omega) (by omega)]
    have GU : ∀ q, rowU G q = rowU h q := fun q => by unfold rowU; rw [G85]
    obtain ⟨r, r1, r2, r3, r4⟩ := m_undo_L (g := G) (N := N) (j := j) (by omega) (by omega) G3 (by rw [G84]; exact i.z84)
    rw [GU, hb] at r4
    have rU : ∀ q, rowU r.2 q = rowU h q := fun q => by rw [← GU]; unfold rowU; rw [r3 85 (by omega)]
    have rc : ∀ c, (c < 23 ∨ 41 < c) → c ≠ 61 → c ≠ 66 → c ≠ 73 → c ≠ 83 → c ≠ 84 → c ≠ 96 → r.2 c = h c := fun c x1 x2 x3 x4 x5 x6 x7 => by rw [r3 c x6, Gc c x5 x7, hf c x1 x2 x3 x4]
    have r83 : r.2 83 = G 83 := r3 83 (by omega)
    refine fin_edit (R := fun g => M_Md_undo N g) (v := (j : Int)) (hC := hC) (hM := r.2) ?_ ?_ ?_ ?_ ?_ k
    · unfold M_FB_undo
      have e0 : h 61 0 - 1 = (j : Int) := by omega
      rw [if_pos (by rw [leb_iff (by omega) (by omega) (by omega) (by omega)]; omega), pu_lt, e0, hs_at, w1, pu_bs, h61]
    · unfold M_Md_undo
      have e1 : hs hC 96 0 (nrm (j : Int)) 83 3 = (j : Int) + 1 := by rw [hs_cell (by omega), hf 83 (by omega) (by omega) (by omega) (by omega)]; exact hj
      rw [pu_lt, e1, if_neg (by rw [eqb_iff (by omega) (by omega) (by omega) (by omega)]; omega)]
      refine jt0.trans ?_
      rw [pu_lt, hs_slot (by omega), e1, show (j : Int) + 1 - 1 = (j : Int) by omega, hG, r1]
      rw [← r2]
    · rw [r83]; exact G0
    · rw [r3 96 (by omega)]; exact G96
    · refine Inv.mk ?_ ?_ ?_ ?_ ?_ ?_ ?_ ?_ ?_
      · rw [r4]; exact Or.inl ok'
      · rw [r4]; intro q hq; rw [← hb]; unfold rowU; rw [if_neg (by omega)]
      · rw [r4]; exact CB_frame w2.cb (fun c c1 c2 => by rw [r3 c (by omega), Gc c (by omega) (by omega)])
      · intro _; exact Or.inl ⟨by rw [r3 66 (by omega), Gc 66 (by omega) (by omega)]; exact w2.p2, by rw [r3 66 (by omega), Gc 66 (by omega) (by omega)]; exact w2.p3⟩
      · intro _
        rw [r4]
        refine RoundChg ok (by rw [peq]; exact apU_cal) (i.ro ok) ?_ ?_ ?_ ?_ ?_
        · rw [r3 73 (by omega), Gc 73 (by omega) (by omega)]; exact w2.r6
        · rw [r3 73 (by omega), Gc 73 (by omega) (by omega)]; exact w2.r7
        · intro q q1 q2; rw [r3 73 (by omega), Gc 73 (by omega) (by omega), w2.rj q q1 q2, hs_cell (by omega)]
        · exact rc 74 (by omega) (by omega) (by omega) (by omega) (by omega) (by omega) (by omega)
        · exact rc 75 (by omega) (by omega) (by omega) (by omega) (by omega) (by omega) (by omega)
      · unfold Img
        rw [rc 0 (by omega) (by omega) (by omega) (by omega) (by omega) (by omega) (by omega), r83, Gj 5 (by omega) (by omega), rc 86 (by omega) (by omega) (by omega) (by omega) (by omega) (by omega) (by omega)]
        rcases i.img with x | ⟨x1, x2, x3, x4, x5⟩
        · exact Or.inl x
        · exact Or.inr ⟨x1, x2, x3, CB_frame x4 (fun c c1 c2 => rc c (by omega) (by omega) (by omega) (by omega) (by omega) (by omega) (by omega)), x5⟩
      · refine Tp.mk ?_ ?_ ?_ ?_
        · rw [rc 1 (by omega) (by omega) (by omega) (by omega) (by omega) (by omega) (by omega), r83, Gj 7 (by omega) (by omega)]; exact i.tp.sz
        · rw [r83, Gj 7 (by omega) (by omega)]; exact i.tp.lo
        · rw [r83, Gj 7 (by omega) (by omega)]; exact i.tp.hi
        · rw [r83, Gj 7 (by omega) (by omega), rc 87 (by omega) (by omega) (by omega) (by omega) (by omega) (by omega) (by omega), rc 2 (by omega) (by omega) (by omega) (by omega) (by omega) (by omega) (by omega)]; exact i.tp.by_
      · rw [rc 0 (by omega) (by omega) (by omega) (by omega) (by omega) (by omega) (by omega), r83, Gj 10 (by omega) (by omega)]; exact i.fa
      · have rg2 : ∀ c, c = 62 ∨ c = 63 ∨ c = 64 ∨ c = 65 → r.2 c = h c := fun c hc => rc c (by omega) (by omega) (by omega) (by omega) (by omega) (by omega) (by omega)
        refine Pa.mk ?_ ?_ ?_ ?_ ?_
        · rw [r3 61 (by omega), Gc 61 (by omega) (by omega), h61, r83, G3]
        · rw [r83, G3]; omega
        · rw [r83, G3]; omega
        · intro _; rw [r4]; exact ok'
        · rw [r83, G3]; intro q hq
          have p2 := i.pa.js q (by omega)
          have hat : rowAt r.2 (q + 1) = rowAt h (q + 1) := by
            unfold rowAt
            rw [r83, G3, if_neg (show ¬ (((q + 1 : Nat) : Int) = h 83 3) by omega), rU, r4]
            by_cases c2 : ((q + 1 : Nat) : Int) = (j : Int)
            · rw [if_pos c2, ← hb, show j = q + 1 by omega]
            · rw [if_neg c2]
          refine PaJ.mk ?_ ?_ ?_ ?_ ?_ ?_ ?_
          · rw [rU]; exact p2.ok
          · rw [rU, r4, h42]; exact p2.mn
          · rw [rg2 62 (by omega)]; exact p2.kd
          · rw [rg2 62 (by omega), rg2 63 (by omega), r4, h42]; exact p2.fe
          · rw [rg2 65 (by omega)]; exact p2.vl
          · rw [rg2 64 (by omega)]; exact p2.mo
          · rw [rU, hat, rg2 62 (by omega), rg2 63 (by omega), rg2 64 (by omega), rg2 65 (by omega)]; exact p2.eq
end El
