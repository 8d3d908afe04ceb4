section By
variable {h : Hp} {N L : Nat} {xs : Nat → Int32} {v4 : Int}
theorem bv_core (x : BitVec 32) (s : Nat) (hs : s ≤ 24) : (((((x.sshiftRight s).signExtend 8).signExtend 32).signExtend 8).signExtend 32) &&& 255#32 = (x >>> s) &&& 255#32 := by
  apply BitVec.eq_of_getLsbD_eq
  intro i hi
  rw [BitVec.getLsbD_and, BitVec.getLsbD_and]
  by_cases c : i < 8
  · rw [BitVec.getLsbD_signExtend, BitVec.getLsbD_signExtend, BitVec.getLsbD_signExtend, BitVec.getLsbD_signExtend, BitVec.getLsbD_sshiftRight, BitVec.getLsbD_ushiftRight]
    rw [if_pos c, if_pos hi, if_pos c, if_pos hi, if_pos (show s + i < 32 by omega), decide_eq_true c, decide_eq_true hi, decide_eq_false (show ¬ 32 ≤ i by omega)]
    rfl
  · have z : (255#32).getLsbD i = false := by
      rw [BitVec.getLsbD_ofNat, Nat.testBit_lt_two_pow (Nat.lt_of_lt_of_le (show 255 < 2 ^ 8 by decide) (Nat.pow_le_pow_right (by decide) (show 8 ≤ i by omega))), Bool.and_false]
    rw [z, Bool.and_false, Bool.and_false]
theorem and255 (y : BitVec 32) : 0 ≤ (y &&& 255#32).toInt ∧ (y &&& 255#32).toInt ≤ 255 := by
  have e : (y &&& 255#32).toNat = y.toNat % 256 := by
    rw [BitVec.toNat_and]; exact Nat.and_two_pow_sub_one_eq_mod y.toNat 8
  have b : (y &&& 255#32).toInt = ((y.toNat % 256 : Nat) : Int) := by
    rw [BitVec.toInt_eq_toNat_of_lt (by rw [e]; omega), e]
  rw [b]; omega
theorem byt_eq (v : Int) {s : Int} (hs : s = 0 ∨ s = 8 ∨ s = 16 ∨ s = 24) : andI (ushrI v s) 255 = andI (i2bI (i2bI (shrI v s))) 255 ∧ 0 ≤ andI (ushrI v s) 255 ∧ andI (ushrI v s) 255 ≤ 255 := by
  refine ⟨?_, ?_⟩
  · unfold andI ushrI i2bI shrI
    rw [iZ_toInt, iZ_toInt, iZ_toInt, iZ_toInt]
    refine congrArg Int32.toInt ?_
    apply Int32.toBitVec_inj.mp
    rcases hs with e | e | e | e
    · subst e; exact (bv_core (iZ v).toBitVec 0 (by omega)).symm
    · subst e; exact (bv_core (iZ v).toBitVec 8 (by omega)).symm
    · subst e; exact (bv_core (iZ v).toBitVec 16 (by omega)).symm
    · subst e; exact (bv_core (iZ v).toBitVec 24 (by omega)).symm
  · unfold andI
    exact and255 (iZ (ushrI v s)).toBitVec
theorem k_end (hN : 7000 < N) (i : Inv h) (hv : 0 ≤ v4 ∧ v4 + 6 ≤ L) (k : Hp → Option Int) : ∃ h', Inv h' ∧ Lw_case_1 N L xs v4 h k = k h' := by
  unfold Lw_case_1
  simp (disch := omega) only [rdX_ok hv, pu_bs]
  have rn := px_rg xs v4 1
  generalize px xs v4 1 = n at *
  unfold rg at rn
  have sz := i.tp.sz
  have lo := i.tp.lo
  have hi := i.tp.hi
  by_cases c : 0 ≤ n ∧ n ≤ h 83 7
  · have eC : M_FB_end h n = some (1, hs h 1 1 n) := by unfold M_FB_end; rw [sz]; simp (disch := omega) only [leb_iff, ltb_iff, eqb_iff, pu_rmP, pu_dvP, pu_bs, pu_b0, pu_b1, pu_c0, pu_c1, pu_lt, pu_rdN, pu_wrN, hs_at, hs_cell, hs_slot, if_true, if_false, true_and, and_true, pu_rd, pu_wr, Int.reduceToNat, Int.toNat_natCast, decide_eq_true_eq, Int.add_zero, Bool.false_eq_true, if_pos, if_neg]
    have eR : M_Md_end (hs h 1 1 n) n = some (1, hs (hs (hs h 1 1 n) 83 0 0) 83 7 n) := by
      unfold M_Md_end
      rw [pu_lt, hs_slot (by omega), hs_cell (by omega), m_isIn (by omega) (by omega) (by omega) (by omega) (by omega) (by omega), pu_bs, if_pos c, if_neg ne10, pu_lt, pu_c1]
    refine ⟨hs (hs (hs h 1 1 n) 83 0 0) 83 7 n, ?_, ?_⟩
    · have q : ∀ c, c ≠ 1 → c ≠ 83 → hs (hs (hs h 1 1 n) 83 0 0) 83 7 n c = h c := fun c c1 c2 => by rw [hs_cell c2, hs_cell c2, hs_cell c1]
      have qj : ∀ j, j ≠ 0 → j ≠ 7 → hs (hs (hs h 1 1 n) 83 0 0) 83 7 n 83 j = h 83 j := fun j j1 j2 => by rw [hs_slot j2, hs_slot j1, hs_cell (by omega)]
      refine Inv_tp i (fun c c1 c2 c3 c4 => q c (by omega) c3) (qj 3 (by omega) (by omega)) (qj 5 (by omega) (by omega)) (Tp.mk ?_ ?_ ?_ ?_) (qj 10 (by omega) (by omega))
      · rw [hs_at, hs_cell (by omega), hs_cell (by omega), hs_at]
      · rw [hs_at]; omega
      · rw [hs_at]; omega
      · rw [hs_at, q 87 (by omega) (by omega), q 2 (by omega) (by omega)]; intro j hj; exact i.tp.by_ j (by omega)
    · rw [eC, pu_bs, eR, pu_bs]
      simp (disch := omega) only [leb_iff, ltb_iff, eqb_iff, pu_rmP, pu_dvP, pu_bs, pu_b0, pu_b1, pu_c0, pu_c1, pu_lt, pu_rdN, pu_wrN, hs_at, hs_cell, hs_slot, if_true, if_false, true_and, and_true, pu_rd, pu_wr, Int.reduceToNat, Int.toNat_natCast, decide_eq_true_eq, Int.add_zero, Bool.false_eq_true, if_pos, if_neg]
  · have eC : M_FB_end h n = some (0, h) := by
      unfold M_FB_end; rw [sz]
      by_cases c0 : n < 0
      · simp (disch := omega) only [leb_iff, ltb_iff, eqb_iff, pu_rmP, pu_dvP, pu_bs, pu_b0, pu_b1, pu_c0, pu_c1, pu_lt, pu_rdN, pu_wrN, hs_at, hs_cell, hs_slot, if_true, if_false, true_and, and_true, pu_rd, pu_wr, Int.reduceToNat, Int.toNat_natCast, decide_eq_true_eq, Int.add_zero, Bool.false_eq_true, if_pos, if_neg]
      · simp (disch := omega) only [leb_iff, ltb_iff, eqb_iff, pu_rmP, pu_dvP, pu_bs, pu_b0, pu_b1, pu_c0, pu_c1, pu_lt, pu_rdN, pu_wrN, hs_at, hs_cell, hs_slot, if_true, if_false, true_and, and_true, pu_rd, pu_wr, Int.reduceToNat, Int.toNat_natCast, decide_eq_true_eq, Int.add_zero, Bool.false_eq_true, if_pos, if_neg]
    have eR : M_Md_end h n = some (0, hs h 83 0 0) := by
      unfold M_Md_end
      rw [pu_lt, hs_slot (by omega), m_isIn (by omega) (by omega) (by omega) (by omega) (by omega) (by omega), pu_bs, if_neg c, if_pos eq00, pu_c0]
    refine ⟨hs h 83 0 0, Fz_thrown.inv i, ?_⟩
    rw [eC, pu_bs, eR, pu_bs, if_pos eq00]
end By
