section Im
variable {h : Hp} {N L : Nat} {xs : Nat → Int32} {v4 : Int}
theorem m_image_L {g : Hp} (hN : 2000 < N) : ∃ r : Hp, Md_image_L7 N N 0 g = some r ∧ (∀ c, c ≠ 83 → c ≠ 86 → r c = g c) ∧ (∀ j, j ≠ 5 → r 83 j = g 83 j) ∧ r 83 5 = 1 ∧ (∀ q, r 86 q = if q < 127 then g 84 q else g 86 q) :=
  lp_inv (fun n k x => Md_image_L7 N n k x) (fun k x => (∀ c, c ≠ 86 → x c = g c) ∧ ∀ q, x 86 q = if q < k then g 84 q else g 86 q) (fun r : Hp => (∀ c, c ≠ 83 → c ≠ 86 → r c = g c) ∧ (∀ j, j ≠ 5 → r 83 j = g 83 j) ∧ r 83 5 = 1 ∧ (∀ q, r 86 q = if q < 127 then g 84 q else g 86 q)) 127
    (fun n k x hk hp => by
      obtain ⟨k1, k2⟩ := hp
      refine Or.inl ⟨hs x 86 k (g 84 k), ⟨fun c hc => by rw [hs_cell hc]; exact k1 c hc, fun q => ?_⟩, ?_⟩
      · by_cases e : q = k
        · subst e; rw [hs_at, if_pos (by omega)]
        · rw [hs_slot e, k2 q]
          by_cases e2 : q < k
          · rw [if_pos e2, if_pos (by omega)]
          · rw [if_neg e2, if_neg (by omega)]
      · (try dsimp only)
        have x84 : x 84 k = g 84 k := by rw [k1 84 (by omega)]
        rw [Md_image_L7]
        simp (disch := omega) only [leb_iff, ltb_iff, eqb_iff, pu_rmP, pu_dvP, pu_bs, pu_b0, pu_b1, pu_c0, pu_c1, pu_lt, pu_rdN, pu_wrN, hs_at, hs_cell, hs_slot, if_true, if_false, true_and, and_true, pu_rd, pu_wr, Int.reduceToNat, Int.toNat_natCast, decide_eq_true_eq, Int.add_zero, Bool.false_eq_true, if_pos, if_neg, x84])
    (fun n x hp => by
      obtain ⟨k1, k2⟩ := hp
      refine ⟨hs x 83 5 1, ?_, fun c c1 c2 => by rw [hs_cell c1]; exact k1 c c2, fun j hj => by rw [hs_slot hj, k1 83 (by omega)], hs_at, fun q => by rw [hs_cell (by omega)]; exact k2 q⟩
      (try dsimp only)
      rw [Md_image_L7]
      simp (disch := omega) only [leb_iff, ltb_iff, eqb_iff, pu_rmP, pu_dvP, pu_bs, pu_b0, pu_b1, pu_c0, pu_c1, pu_lt, pu_rdN, pu_wrN, hs_at, hs_cell, hs_slot, if_true, if_false, true_and, and_true, pu_rd, pu_wr, Int.reduceToNat, Int.toNat_natCast, decide_eq_true_eq, Int.add_zero, Bool.false_eq_true, if_pos, if_neg]) N 0 g (by omega) (by omega) ⟨fun _ _ => rfl, fun q => by rw [if_neg (by omega)]⟩
theorem m_back_L {g : Hp} (hN : 2000 < N) : ∃ r : Int × Hp, Md_back_L16 N N 0 g = some r ∧ r.1 = 1 ∧ (∀ c, c ≠ 83 → c ≠ 84 → r.2 c = g c) ∧ (∀ j, j ≠ 3 → r.2 83 j = g 83 j) ∧ r.2 83 3 = 0 ∧ (∀ q, r.2 84 q = if q < 127 then g 86 q else g 84 q) :=
  lp_inv (fun n k x => Md_back_L16 N n k x) (fun k x => (∀ c, c ≠ 84 → x c = g c) ∧ ∀ q, x 84 q = if q < k then g 86 q else g 84 q) (fun r : Int × Hp => r.1 = 1 ∧ (∀ c, c ≠ 83 → c ≠ 84 → r.2 c = g c) ∧ (∀ j, j ≠ 3 → r.2 83 j = g 83 j) ∧ r.2 83 3 = 0 ∧ (∀ q, r.2 84 q = if q < 127 then g 86 q else g 84 q)) 127
    (fun n k x hk hp => by
      obtain ⟨k1, k2⟩ := hp
      refine Or.inl ⟨hs x 84 k (g 86 k), ⟨fun c hc => by rw [hs_cell hc]; exact k1 c hc, fun q => ?_⟩, ?_⟩
      · by_cases e : q = k
        · subst e; rw [hs_at, if_pos (by omega)]
        · rw [hs_slot e, k2 q]
          by_cases e2 : q < k
          · rw [if_pos e2, if_pos (by omega)]
          · rw [if_neg e2, if_neg (by omega)]
      · (try dsimp only)
        have x86 : x 86 k = g 86 k := by rw [k1 86 (by omega)]
        rw [Md_back_L16]
        simp (disch := omega) only [leb_iff, ltb_iff, eqb_iff, pu_rmP, pu_dvP, pu_bs, pu_b0, pu_b1, pu_c0, pu_c1, pu_lt, pu_rdN, pu_wrN, hs_at, hs_cell, hs_slot, if_true, if_false, true_and, and_true, pu_rd, pu_wr, Int.reduceToNat, Int.toNat_natCast, decide_eq_true_eq, Int.add_zero, Bool.false_eq_true, if_pos, if_neg, x86])
    (fun n x hp => by
      obtain ⟨k1, k2⟩ := hp
      refine ⟨(1, hs x 83 3 0), ?_, rfl, fun c c1 c2 => (hs_cell c1).trans (k1 c c2), fun j hj => (hs_slot hj).trans (congrFun (k1 83 (by omega)) j), hs_at (h := x) (c := 83) (k := 3) (v := 0), fun q => (congrFun (hs_cell (h := x) (c := 83) (k := 3) (v := 0) (c' := 84) (by omega)) q).trans (k2 q)⟩
      (try dsimp only)
      rw [Md_back_L16]
      simp (disch := omega) only [leb_iff, ltb_iff, eqb_iff, pu_rmP, pu_dvP, pu_bs, pu_b0, pu_b1, pu_c0, pu_c1, pu_lt, pu_rdN, pu_wrN, hs_at, hs_cell, hs_slot, if_true, if_false, true_and, and_true, pu_rd, pu_wr, Int.reduceToNat, Int.toNat_natCast, decide_eq_true_eq, Int.add_zero, Bool.false_eq_true, if_pos, if_neg]) N 0 g (by omega) (by omega) ⟨fun _ _ => rfl, fun q => by rw [if_neg (by omega)]⟩
theorem img_tail (i : Inv h) : ∀ k, 127 ≤ k → h 86 k = 0 := by
  rcases i.img with x | ⟨_, _, _, _, x5⟩
  · exact x.2.2
  · exact x5
theorem k_image (hN : 7000 < N) (i : Inv h) (k : Hp → Option Int) : ∃ h', Inv h' ∧ Lw_case_40 N L xs v4 h k = k h' := by
  unfold Lw_case_40 M_FB_image
  obtain ⟨g, e1, e2, e3⟩ := c_copyFrom (h := h) (B := 42) (O := 23) (by omega) i.bok i.cb
  rw [e1, pu_bs, pu_c1, pu_lt, pu_bs]
  unfold M_Md_image
  rw [pu_lt]
  generalize hG : hs (hs g 0 7 1) 83 0 0 = G
  have Gc : ∀ c, c ≠ 0 → c ≠ 83 → G c = g c := fun c c1 c2 => by subst hG; rw [hs_cell c2, hs_cell c1]
  have G7 : G 0 7 = 1 := by subst hG; rw [hs_cell (by omega), hs_at]
  have G8 : G 0 8 = h 0 8 := by subst hG; rw [hs_cell (by omega), hs_slot (by omega), e2 0 (by omega)]
  have Gj : ∀ j, j ≠ 0 → G 83 j = h 83 j := fun j hj => by subst hG; rw [hs_slot hj, hs_cell (by omega), e2 83 (by omega)]
  obtain ⟨r, r1, r2, r3, r4, r5⟩ := m_image_L (g := G) (N := N) (by omega)
  have q : ∀ c, (c < 42 ∨ 60 < c) → c ≠ 0 → c ≠ 83 → c ≠ 86 → r c = h c := fun c c1 c2 c3 c4 => by rw [r2 c c3 c4, Gc c c2 c3, e2 c (by omega)]
  have q84 : r 84 = h 84 := q 84 (by omega) (by omega) (by omega) (by omega)
  have q85 : r 85 = h 85 := q 85 (by omega) (by omega) (by omega) (by omega)
  have q3 : r 83 3 = h 83 3 := by rw [r3 3 (by omega), Gj 3 (by omega)]
  have q7 : r 83 7 = h 83 7 := by rw [r3 7 (by omega), Gj 7 (by omega)]
  have q86 : r 86 = h 84 := by
    funext j
    rw [r5 j, Gc 84 (by omega) (by omega), Gc 86 (by omega) (by omega), e2 84 (by omega), e2 86 (by omega)]
    by_cases c : j < 127
    · rw [if_pos c]
    · rw [if_neg c, i.z84 j (by omega)]; exact img_tail i j (by omega)
  have hU : ∀ j, rowU r j = rowU h j := fun j => by unfold rowU; rw [q85]
  have hA : ∀ j, rowAt r j = rowAt h j := fun j => by unfold rowAt; rw [q3, q84, hU]
  refine ⟨r, Inv.mk ?_ ?_ ?_ ?_ ?_ ?_ ?_ ?_ ?_, by rw [r1, pu_bs]⟩
  · rw [q84]; exact i.bok
  · rw [q84]; exact i.z84
  · rw [q84]; exact CB_frame i.cb (fun c c1 c2 => q c (by omega) (by omega) (by omega) (by omega))
  · rw [q84]; intro ok; exact PlanOk_frame (fun c c1 c2 => q c (by omega) (by omega) (by omega) (by omega)) (i.pl ok)
  · rw [q84]; intro ok
    have rr := i.ro ok
    have qq : ∀ c, 61 ≤ c → c ≤ 82 → r c = h c := fun c c1 c2 => q c (by omega) (by omega) (by omega) (by omega)
    refine RoundOk.mk (RB.mk ?_ ?_ ?_) ?_ ?_
    · rw [qq 73 (by omega) (by omega)]; exact rr.rb.yrs
    · rw [qq 74 (by omega) (by omega)]; exact rr.rb.oft
    · rw [qq 75 (by omega) (by omega)]; exact rr.rb.fst
    · unfold RS; rw [qq 73 (by omega) (by omega), qq 76 (by omega) (by omega), qq 77 (by omega) (by omega), qq 78 (by omega) (by omega)]; exact rr.rs
    · unfold RM; rw [qq 73 (by omega) (by omega), qq 79 (by omega) (by omega), qq 80 (by omega) (by omega), qq 81 (by omega) (by omega)]; exact rr.rm
  · refine Or.inr ⟨by rw [r2 0 (by omega) (by omega)]; exact G7, r4, by rw [q86]; exact i.bok, ?_, by rw [q86]; exact i.z84⟩
    rw [q86]
    exact CB_frame e3 (fun c c1 c2 => by rw [r2 c (by omega) (by omega), Gc c (by omega) (by omega)])
  · refine Tp.mk ?_ ?_ ?_ ?_
    · rw [q 1 (by omega) (by omega) (by omega) (by omega), q7]; exact i.tp.sz
    · rw [q7]; exact i.tp.lo
    · rw [q7]; exact i.tp.hi
    · rw [q7, q 87 (by omega) (by omega) (by omega) (by omega), q 2 (by omega) (by omega) (by omega) (by omega)]; exact i.tp.by_
  · rw [r2 0 (by omega) (by omega), G8, r3 10 (by omega), Gj 10 (by omega)]; exact i.fa
  · have qp : ∀ c, 61 ≤ c → c ≤ 65 → r c = h c := fun c c1 c2 => q c (by omega) (by omega) (by omega) (by omega)
    refine Pa.mk ?_ ?_ ?_ ?_ ?_
    · rw [qp 61 (by omega) (by omega), q3]; exact i.pa.sz
    · rw [q3]; exact i.pa.lo
    · rw [q3]; exact i.pa.hi
    · rw [q3, q84]; exact i.pa.ok
    · rw [q3]; intro j hj
      have p := i.pa.js j hj
      refine PaJ.mk ?_ ?_ ?_ ?_ ?_ ?_ ?_
      · rw [hU]; exact p.ok
      · rw [hU, q84]; exact p.mn
      · rw [qp 62 (by omega) (by omega)]; exact p.kd
      · rw [qp 62 (by omega) (by omega), qp 63 (by omega) (by omega), q84]; exact p.fe
      · rw [qp 65 (by omega) (by omega)]; exact p.vl
      · rw [qp 64 (by omega) (by omega)]; exact p.mo
      · rw [hU, hA, qp 62 (by omega) (by omega), qp 63 (by omega) (by omega), qp 64 (by omega) (by omega), qp 65 (by omega) (by omega)]; exact p.eq
theorem Inv_over {b : Nat → Int} {C r : Hp} (bok : OkB b ∨ NoB b) (z : ∀ k, 127 ≤ k → b k = 0) (cb : CB b C 23) (po : OkB b → PlanOk b C ∧ RoundOk b C) (c61 : C 61 0 = 0)
    (e : ∀ c, c ≠ 83 → c ≠ 84 → c ≠ 87 → (c < 88 ∨ 96 < c) → r c = C c) (e84 : r 84 = b) (e3 : r 83 3 = 0) (img : Img r) (tp : Tp r) (fa : r 0 8 = r 83 10 ∧ -1 ≤ r 83 10 ∧ r 83 10 ≤ 400) : Inv r := by
  have q : ∀ c, 3 ≤ c → c ≤ 82 → r c = C c := fun c c1 c2 => e c (by omega) (by omega) (by omega) (by omega)
  refine Inv.mk ?_ ?_ ?_ ?_ ?_ img tp fa ?_
  · rw [e84]; exact bok
  · rw [e84]; exact z
  · rw [e84]; exact CB_frame cb (fun c c1 c2 => q c (by omega) (by omega))
  · rw [e84]; intro ok; exact PlanOk_frame (fun c c1 c2 => q c (by omega) (by omega)) (po ok).1
  · rw [e84]; intro ok
    have rr := (po ok).2
    refine RoundOk.mk (RB.mk ?_ ?_ ?_) ?_ ?_
    · rw [q 73 (by omega) (by omega)]; exact rr.rb.yrs
    · rw [q 74 (by omega) (by omega)]; exact rr.rb.oft
    · rw [q 75 (by omega) (by omega)]; exact rr.rb.fst
    · unfold RS; rw [q 73 (by omega) (by omega), q 76 (by omega) (by omega), q 77 (by omega) (by omega), q 78 (by omega) (by omega)]; exact rr.rs
    · unfold RM; rw [q 73 (by omega) (by omega), q 79 (by omega) (by omega), q 80 (by omega) (by omega), q 81 (by omega) (by omega)]; exact rr.rm
  · refine Pa.mk ?_ ?_ ?_ ?_ ?_
    · rw [q 61 (by omega) (by omega), c61, e3]
    · rw [e3]; omega
    · rw [e3]; omega
    · rw [e3]; intro w; omega
    · rw [e3]; intro j hj; omega
theorem k_back (hN : 7000 < N) (i : Inv h) (k : Hp → Option Int) : ∃ h', Inv h' ∧ Lw_case_41 N L xs v4 h k = k h' := by
  unfold Lw_case_41 M_FB_back
  rcases i.img with x | ⟨x1, x2, x3, x4, x5⟩
  · refine ⟨hs h 83 0 0, Fz_thrown.inv i, ?_⟩
    rw [x.1, if_pos eq00, pu_c0, pu_bs]
    unfold M_Md_back
    dsimp only
    rw [pu_lt, hs_slot (by omega), x.2.1, if_pos eq00, pu_c0, pu_bs, if_pos eq00]
  · obtain ⟨C, e1, e2, e3, e4, e5⟩ := c_takeOver (h := h) (N := N) (B := 42) (b := h 86) (by omega) (by omega) x3 x4
    have Cj : ∀ j, C 83 j = h 83 j := fun j => by rw [e2 83 (by omega) (by omega) (by omega) (by omega) (by omega) (by omega)]
    generalize hG : hs C 83 0 0 = G
    have Gc : ∀ c, c ≠ 83 → G c = C c := fun c c1 => by subst hG; rw [hs_cell c1]
    have Gj : ∀ j, j ≠ 0 → G 83 j = h 83 j := fun j hj => by subst hG; rw [hs_slot hj, Cj]
    obtain ⟨r, r1, r2, r3, r4, r5, r6⟩ := m_back_L (g := G) (N := N) (by omega)
    have q : ∀ c, (c < 23 ∨ 41 < c) → c ≠ 61 → c ≠ 66 → c ≠ 73 → c ≠ 74 → c ≠ 75 → c ≠ 83 → c ≠ 84 → r.2 c = h c := fun c c1 c2 c3 c4 c5 c6 c7 c8 => by rw [r3 c c7 c8, Gc c c7, e2 c c1 c2 c3 c4 c5 c6]
    have q84 : r.2 84 = h 86 := by
      funext j
      rw [r6 j, Gc 84 (by omega), Gc 86 (by omega), e2 84 (by omega) (by omega) (by omega) (by omega) (by omega) (by omega), e2 86 (by omega) (by omega) (by omega) (by omega) (by omega) (by omega)]
      by_cases c : j < 127
      · rw [if_pos c]
      · rw [if_neg c, i.z84 j (by omega)]; exact (x5 j (by omega)).symm
    have qj : ∀ j, j ≠ 0 → j ≠ 3 → r.2 83 j = h 83 j := fun j j1 j2 => by rw [r4 j j2, Gj j j1]
    have q0 : r.2 0 = h 0 := q 0 (by omega) (by omega) (by omega) (by omega) (by omega) (by omega) (by omega) (by omega)
    refine ⟨r.2, Inv_over (b := h 86) (C := C) x3 x5 e3 e5 e4 (fun c c1 c2 _ _ => by rw [r3 c c1 c2, Gc c c1]) q84 r5 ?_ ?_ ?_, ?_⟩
    · refine Or.inr ?_
      rw [q0, qj 5 (by omega) (by omega), q 86 (by omega) (by omega) (by omega) (by omega) (by omega) (by omega) (by omega) (by omega)]
      exact ⟨x1, x2, x3, CB_frame x4 (fun c c1 c2 => q c (by omega) (by omega) (by omega) (by omega) (by omega) (by omega) (by omega) (by omega)), x5⟩
    · refine Tp.mk ?_ ?_ ?_ ?_
      · rw [q 1 (by omega) (by omega) (by omega) (by omega) (by omega) (by omega) (by omega) (by omega), qj 7 (by omega) (by omega)]; exact i.tp.sz
      · rw [qj 7 (by omega) (by omega)]; exact i.tp.lo
      · rw [qj 7 (by omega) (by omega)]; exact i.tp.hi
      · rw [qj 7 (by omega) (by omega), q 87 (by omega) (by omega) (by omega) (by omega) (by omega) (by omega) (by omega) (by omega), q 2 (by omega) (by omega) (by omega) (by omega) (by omega) (by omega) (by omega) (by omega)]; exact i.tp.by_
    · rw [q0, qj 10 (by omega) (by omega)]; exact i.fa
    · rw [x1, if_neg ne10, e1, pu_bs, pu_c1, pu_bs]
      unfold M_Md_back
      rw [pu_lt, hG, Gj 5 (by omega), x2, if_neg ne10, r1, pu_bs, r2]
      simp (disch := omega) only [leb_iff, ltb_iff, eqb_iff, pu_rmP, pu_dvP, pu_bs, pu_b0, pu_b1, pu_c0, pu_c1, pu_lt, pu_rdN, pu_wrN, hs_at, hs_cell, hs_slot, if_true, if_false, true_and, and_true, pu_rd, pu_wr, Int.reduceToNat, Int.toNat_natCast, decide_eq_true_eq, Int.add_zero, Bool.false_eq_true, if_pos, if_neg]
end Im
