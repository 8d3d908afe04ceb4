theorem md_lo {a j w : Int} (h0 : 0 ≤ a % w + j) (h1 : a % w + j < w) : (a + j) % w = a % w + j := by
  rw [← Int.emod_add_emod, Int.emod_eq_of_lt h0 h1]
theorem md_hi {a j w : Int} (h0 : w ≤ a % w + j) (h1 : a % w + j < 2 * w) : (a + j) % w = a % w + j - w := by
  rw [← Int.emod_add_emod, ← Int.sub_emod_right, Int.emod_eq_of_lt (by omega) (by omega)]
def sp_ms (b : Nat → Int) (l : Int) (m : Nat) : Int := msum b m + (if l = 1 ∧ b 11 < m then 1 else 0)
theorem sp_ms_succ (b : Nat → Int) (l : Int) (m : Nat) : sp_ms b l (m + 1) = sp_ms b l m + b (2 + m) + (if l = 1 ∧ (m : Int) = b 11 then 1 else 0) := by
  unfold sp_ms
  rw [msum]
  split <;> split <;> split <;> omega
theorem sp_ms_lt {b : Nat → Int} (ok : OkB b) {l : Int} {m : Nat} (hm : (m : Int) < b 1) : sp_ms b l m < sp_ms b l (m + 1) := by
  have := ok.days m hm
  rw [sp_ms_succ]; split <;> omega
theorem sp_ms_mono {b : Nat → Int} (ok : OkB b) {l : Int} {i j : Nat} (hi : i ≤ j) (hj : (j : Int) ≤ b 1) : sp_ms b l i ≤ sp_ms b l j := by
  induction j with
  | zero => have : i = 0 := by omega
            subst this; omega
  | succ j ih =>
    by_cases e : i = j + 1
    · subst e; omega
    · have := ih (by omega) (by omega)
      have := sp_ms_lt ok (l := l) (m := j) (by omega)
      omega
theorem sp_ms_zero {b : Nat → Int} (ok : OkB b) (l : Int) : sp_ms b l 0 = 0 := by
  have := ok.lmon
  unfold sp_ms
  rw [if_neg (by omega)]; rfl
theorem sp_ms_all {b : Nat → Int} (ok : OkB b) {l : Int} (hl : l = 0 ∨ l = 1) : sp_ms b l (b 1).toNat = yd b + l := by
  have := ok.lmon
  have := ok.mon
  unfold sp_ms yd
  rcases hl with e | e <;> subst e
  · rw [if_neg (by omega)]
  · rw [if_pos (by omega)]
theorem sp_ms_uniq {b : Nat → Int} (ok : OkB b) {l d : Int} {i j : Nat} (hi : (i : Int) < b 1) (hj : (j : Int) < b 1) (h1 : sp_ms b l i ≤ d) (h2 : d < sp_ms b l (i + 1)) (h3 : sp_ms b l j ≤ d) (h4 : d < sp_ms b l (j + 1)) : i = j := by
  by_cases e : i < j
  · have := sp_ms_mono ok (l := l) (i := i + 1) (j := j) (by omega) (by omega)
    omega
  · by_cases e2 : j < i
    · have := sp_ms_mono ok (l := l) (i := j + 1) (j := i) (by omega) (by omega)
      omega
    · omega
theorem lp_le (b : Nat → Int) (y : Int) : 0 ≤ lp b y ∧ lp b y ≤ 1 := by rcases lp01 b y with e | e <;> omega
section Md
variable {h : Hp} {N : Nat}
theorem m_isLong (ok : OkB (h 84)) {y : Int} (h0 : 0 ≤ y) (h1 : y ≤ 20000) : M_Md_isLong h y = some (lp (h 84) y) := by
  unfold M_Md_isLong lp isL
  simp (disch := omega) only [leb_iff, ltb_iff, eqb_iff, pu_rmP, pu_dvP, pu_bs, pu_b0, pu_b1, pu_c0, pu_c1, pu_lt, pu_rdN, pu_wrN, hs_at, hs_cell, hs_slot, if_true, if_false, true_and, and_true, pu_rd, pu_wr, Int.reduceToNat, Int.toNat_natCast, decide_eq_true_eq, Int.add_zero, Bool.false_eq_true, pu_rd, Int.reduceToNat]
  rcases ok.leap with e | e
  · rw [e]; rfl
  · simp (disch := omega) only [leb_iff, ltb_iff, eqb_iff, pu_rmP, pu_dvP, pu_bs, pu_b0, pu_b1, pu_c0, pu_c1, pu_lt, pu_rdN, pu_wrN, hs_at, hs_cell, hs_slot, if_true, if_false, true_and, and_true, pu_rd, pu_wr, Int.reduceToNat, Int.toNat_natCast, decide_eq_true_eq, Int.add_zero, Bool.false_eq_true]
    rw [if_neg (by omega)]
    have := Int.emod_nonneg y (show h 84 10 ≠ 0 by omega)
    have := Int.emod_lt_of_pos y (show 0 < h 84 10 by omega)
    simp (disch := omega) only [leb_iff, ltb_iff, eqb_iff, pu_rmP, pu_dvP, pu_bs, pu_b0, pu_b1, pu_c0, pu_c1, pu_lt, pu_rdN, pu_wrN, hs_at, hs_cell, hs_slot, if_true, if_false, true_and, and_true, pu_rd, pu_wr, Int.reduceToNat, Int.toNat_natCast, decide_eq_true_eq, Int.add_zero, Bool.false_eq_true]
    by_cases hz : y % h 84 10 = 0
    · rw [if_pos hz, if_pos (by simp [hz]; omega)]
    · rw [if_neg hz, if_neg (by simp [hz])]
theorem m_monthsOf (hN : 10 < N) {X : Nat} (hX : 0 ≤ h X 1) (hX2 : h X 1 ≤ 8) : M_Md_monthsOf N h X 127 = some (msum (h X) (h X 1).toNat) := by
  have := lp_fold (fun n k a => Md_monthsOf_L4 N h X 127 n a k) (msum (h X)) (msum (h X) (h X 1).toNat) (h X 1).toNat
    (fun n k hk => by
      (try dsimp only)
      rw [Md_monthsOf_L4, pu_rd (by omega) (by omega), Option.bind_some, pu_rd (by omega) (by omega), Option.bind_some]
      simp (disch := omega) only [leb_iff, ltb_iff, eqb_iff, pu_rmP, pu_dvP, pu_bs, pu_b0, pu_b1, pu_c0, pu_c1, pu_lt, pu_rdN, pu_wrN, hs_at, hs_cell, hs_slot, if_true, if_false, true_and, and_true, pu_rd, pu_wr, Int.reduceToNat, Int.toNat_natCast, decide_eq_true_eq, Int.add_zero, Bool.false_eq_true, if_pos, if_neg]
      rw [msum, show (2 + (k : Int)).toNat = 2 + k by omega])
    (fun n => by
      (try dsimp only)
      rw [Md_monthsOf_L4, pu_rd (by omega) (by omega), Option.bind_some]
      simp (disch := omega) only [leb_iff, ltb_iff, eqb_iff, pu_rmP, pu_dvP, pu_bs, pu_b0, pu_b1, pu_c0, pu_c1, pu_lt, pu_rdN, pu_wrN, hs_at, hs_cell, hs_slot, if_true, if_false, true_and, and_true, pu_rd, pu_wr, Int.reduceToNat, Int.toNat_natCast, decide_eq_true_eq, Int.add_zero, Bool.false_eq_true, if_pos, if_neg]) N 0 (by omega) (by omega)
  exact this
theorem m_yd (hN : 10 < N) (ok : OkB (h 84)) : M_Md_monthsOf N h 84 127 = some (yd (h 84)) := by
  have := ok.mon
  exact m_monthsOf hN (by omega) (by omega)
theorem m_lengthOf (hN : 10 < N) (ok : OkB (h 84)) {y : Int} (h0 : 0 ≤ y) (h1 : y ≤ 20000) : M_Md_lengthOf N h y = some (yd (h 84) + lp (h 84) y) := by
  unfold M_Md_lengthOf
  rw [m_yd hN ok, Option.bind_some, m_isLong ok h0 h1, Option.bind_some]
  rcases lp01 (h 84) y with e | e <;> rw [e] <;> simp (disch := omega) only [leb_iff, ltb_iff, eqb_iff, pu_rmP, pu_dvP, pu_bs, pu_b0, pu_b1, pu_c0, pu_c1, pu_lt, pu_rdN, pu_wrN, hs_at, hs_cell, hs_slot, if_true, if_false, true_and, and_true, pu_rd, pu_wr, Int.reduceToNat, Int.toNat_natCast, decide_eq_true_eq, Int.add_zero, Bool.false_eq_true, if_pos, if_neg]
theorem m_weekdayOf (hN : 10 < N) (ok : OkB (h 84)) {y : Int} (h0 : 0 ≤ y) (h1 : y ≤ 20000) : M_Md_weekdayOf N h y = some (wdy (h 84) y) := by
  unfold M_Md_weekdayOf
  have hw := ok.week
  have ha := ahd_le ok h0 h1
  unfold wdy
  unfold ahd at *
  simp (disch := omega) only [leb_iff, ltb_iff, eqb_iff, pu_rmP, pu_dvP, pu_bs, pu_b0, pu_b1, pu_c0, pu_c1, pu_lt, pu_rdN, pu_wrN, hs_at, hs_cell, hs_slot, if_true, if_false, true_and, and_true, pu_rd, pu_wr, Int.reduceToNat, Int.toNat_natCast, decide_eq_true_eq, Int.add_zero, Bool.false_eq_true, pu_rd, Int.reduceToNat, m_yd hN ok]
  rcases ok.leap with e | e
  · rw [if_neg (show ¬ 0 < h 84 10 by omega)] at ha ⊢
    simp (disch := omega) only [leb_iff, ltb_iff, eqb_iff, pu_rmP, pu_dvP, pu_bs, pu_b0, pu_b1, pu_c0, pu_c1, pu_lt, pu_rdN, pu_wrN, hs_at, hs_cell, hs_slot, if_true, if_false, true_and, and_true, pu_rd, pu_wr, Int.reduceToNat, Int.toNat_natCast, decide_eq_true_eq, Int.add_zero, Bool.false_eq_true, if_pos, if_neg]
  · rw [if_pos (show 0 < h 84 10 by omega)] at ha ⊢
    simp (disch := omega) only [leb_iff, ltb_iff, eqb_iff, pu_rmP, pu_dvP, pu_bs, pu_b0, pu_b1, pu_c0, pu_c1, pu_lt, pu_rdN, pu_wrN, hs_at, hs_cell, hs_slot, if_true, if_false, true_and, and_true, pu_rd, pu_wr, Int.reduceToNat, Int.toNat_natCast, decide_eq_true_eq, Int.add_zero, Bool.false_eq_true, if_pos, if_neg]
theorem m_fullOf (ok : OkB (h 84)) {y : Int} (h0 : 0 ≤ y) (h1 : y ≤ 20000) : M_Md_fullOf h y = some (ful (h 84) y) := by
  unfold M_Md_fullOf
  have := ok.cyc
  have hs := ok.stp
  have := ok.spn
  have k1 : 0 ≤ y % h 84 12 := Int.emod_nonneg _ (by omega)
  have k2 : y % h 84 12 < h 84 12 := Int.emod_lt_of_pos _ (by omega)
  have k3 : 0 ≤ h 84 14 * (y % h 84 12) := Int.mul_nonneg hs.1 k1
  have k4 : h 84 14 * (y % h 84 12) ≤ 30 * 19 := Int.mul_le_mul hs.2 (by omega) k1 (by omega)
  simp (disch := omega) only [leb_iff, ltb_iff, eqb_iff, pu_rmP, pu_dvP, pu_bs, pu_b0, pu_b1, pu_c0, pu_c1, pu_lt, pu_rdN, pu_wrN, hs_at, hs_cell, hs_slot, if_true, if_false, true_and, and_true, pu_rd, pu_wr, Int.reduceToNat, Int.toNat_natCast, decide_eq_true_eq, Int.add_zero, Bool.false_eq_true, pu_rd, Int.reduceToNat]
  rfl
theorem m_paschOf (hN : 20 < N) (ok : OkB (h 84)) {y : Int} (h0 : 0 ≤ y) (h1 : y ≤ 20000) : M_Md_paschOf N h y = some (psc (h 84) y) := by
  unfold M_Md_paschOf
  have hw := ok.week
  have hf := ful_le ok h0
  have hd := wdy_le ok y
  have := ok.fst
  have := ok.spn
  have k1 : 0 ≤ (wdy (h 84) y + ful (h 84) y) % h 84 0 := Int.emod_nonneg _ (by omega)
  have k2 : (wdy (h 84) y + ful (h 84) y) % h 84 0 < h 84 0 := Int.emod_lt_of_pos _ (by omega)
  rw [m_fullOf ok h0 h1, Option.bind_some]
  have := lp_inv (fun n k (_ : Unit) => Md_paschOf_L8 N h y n (ful (h 84) y + 1 + k)) (fun k _ => True) (fun r => r = psc (h 84) y) ((h 84 0) - (wdy (h 84) y + ful (h 84) y) % h 84 0 - 1).toNat
    (fun n k _ hk _ => by
      refine Or.inl ⟨(), trivial, ?_⟩
      (try dsimp only)
      have e : (wdy (h 84) y + (ful (h 84) y + 1 + k)) % h 84 0 = (wdy (h 84) y + ful (h 84) y) % h 84 0 + (1 + k) := by
        rw [← md_lo (by omega) (by omega)]; congr 1; omega
      rw [Md_paschOf_L8, m_weekdayOf (by omega) ok h0 h1, Option.bind_some, pu_rd (by omega) (by omega), Option.bind_some]
      rw [pu_rmP (by omega) (by omega) (by show 0 < h 84 0; omega) (by show h 84 0 < _; omega), Option.bind_some]
      show (if eqb ((wdy (h 84) y + (ful (h 84) y + 1 + k)) % h 84 0) 0 = true then _ else _) = _
      rw [e]
      simp (disch := omega) only [leb_iff, ltb_iff, eqb_iff, pu_rmP, pu_dvP, pu_bs, pu_b0, pu_b1, pu_c0, pu_c1, pu_lt, pu_rdN, pu_wrN, hs_at, hs_cell, hs_slot, if_true, if_false, true_and, and_true, pu_rd, pu_wr, Int.reduceToNat, Int.toNat_natCast, decide_eq_true_eq, Int.add_zero, Bool.false_eq_true, if_pos, if_neg]
      rw [Int.add_assoc])
    (fun n _ _ => by
      refine ⟨_, ?_, rfl⟩
      (try dsimp only)
      rw [Md_paschOf_L8, m_weekdayOf (by omega) ok h0 h1, Option.bind_some, pu_rd (by omega) (by omega), Option.bind_some]
      rw [pu_rmP (by omega) (by omega) (by show 0 < h 84 0; omega) (by show h 84 0 < _; omega), Option.bind_some]
      show (if eqb ((wdy (h 84) y + (ful (h 84) y + 1 + ((h 84 0) - (wdy (h 84) y + ful (h 84) y) % h 84 0 - 1).toNat)) % h 84 0) 0 = true then _ else _) = _
      have e : (wdy (h 84) y + (ful (h 84) y + 1 + (((h 84 0) - (wdy (h 84) y + ful (h 84) y) % h 84 0 - 1).toNat : Int))) % h 84 0 = 0 := by
        have := md_hi (a := wdy (h 84) y + ful (h 84) y) (j := h 84 0 - (wdy (h 84) y + ful (h 84) y) % h 84 0) (w := h 84 0) (by omega) (by omega)
        rw [show wdy (h 84) y + (ful (h 84) y + 1 + (((h 84 0) - (wdy (h 84) y + ful (h 84) y) % h 84 0 - 1).toNat : Int)) = wdy (h 84) y + ful (h 84) y + (h 84 0 - (wdy (h 84) y + ful (h 84) y) % h 84 0) by omega, this]
        omega
      rw [e]
      simp (disch := omega) only [leb_iff, ltb_iff, eqb_iff, pu_rmP, pu_dvP, pu_bs, pu_b0, pu_b1, pu_c0, pu_c1, pu_lt, pu_rdN, pu_wrN, hs_at, hs_cell, hs_slot, if_true, if_false, true_and, and_true, pu_rd, pu_wr, Int.reduceToNat, Int.toNat_natCast, decide_eq_true_eq, Int.add_zero, Bool.false_eq_true, if_pos, if_neg]
      unfold psc
      congr 1
      omega) N 0 () (by omega) (by omega) trivial
  obtain ⟨r, hr, e⟩ := this
  rw [← e, ← hr]
  simp
theorem m_monthLength (ok : OkB (h 84)) {y : Int} (h0 : 0 ≤ y) (h1 : y ≤ 20000) {m : Nat} (hm : m < 8) : M_Md_monthLength h y m = some (h 84 (2 + m) + (if lp (h 84) y = 1 ∧ (m : Int) = h 84 11 then 1 else 0)) := by
  unfold M_Md_monthLength
  have := ok.lmon
  have := ok.mon
  rw [pu_rd (by omega) (by omega), Option.bind_some, m_isLong ok h0 h1, Option.bind_some, show (2 + (m : Int)).toNat = 2 + m by omega]
  rcases lp01 (h 84) y with e | e <;> rw [e]
  · simp (disch := omega) only [leb_iff, ltb_iff, eqb_iff, pu_rmP, pu_dvP, pu_bs, pu_b0, pu_b1, pu_c0, pu_c1, pu_lt, pu_rdN, pu_wrN, hs_at, hs_cell, hs_slot, if_true, if_false, true_and, and_true, pu_rd, pu_wr, Int.reduceToNat, Int.toNat_natCast, decide_eq_true_eq, Int.add_zero, Bool.false_eq_true, if_pos, if_neg]
  · simp (disch := omega) only [leb_iff, ltb_iff, eqb_iff, pu_rmP, pu_dvP, pu_bs, pu_b0, pu_b1, pu_c0, pu_c1, pu_lt, pu_rdN, pu_wrN, hs_at, hs_cell, hs_slot, if_true, if_false, true_and, and_true, pu_rd, pu_wr, Int.reduceToNat, Int.toNat_natCast, decide_eq_true_eq, Int.add_zero, Bool.false_eq_true, pu_rd, Int.reduceToNat]
    by_cases e2 : (m : Int) = h 84 11
    · simp (disch := omega) only [leb_iff, ltb_iff, eqb_iff, pu_rmP, pu_dvP, pu_bs, pu_b0, pu_b1, pu_c0, pu_c1, pu_lt, pu_rdN, pu_wrN, hs_at, hs_cell, hs_slot, if_true, if_false, true_and, and_true, pu_rd, pu_wr, Int.reduceToNat, Int.toNat_natCast, decide_eq_true_eq, Int.add_zero, Bool.false_eq_true, if_pos, if_neg]
    · simp (disch := omega) only [leb_iff, ltb_iff, eqb_iff, pu_rmP, pu_dvP, pu_bs, pu_b0, pu_b1, pu_c0, pu_c1, pu_lt, pu_rdN, pu_wrN, hs_at, hs_cell, hs_slot, if_true, if_false, true_and, and_true, pu_rd, pu_wr, Int.reduceToNat, Int.toNat_natCast, decide_eq_true_eq, Int.add_zero, Bool.false_eq_true, if_pos, if_neg]
theorem m_firstOf (hN : 10 < N) (ok : OkB (h 84)) {y : Int} (h0 : 0 ≤ y) (h1 : y ≤ 20000) {m : Nat} (hm : m ≤ 8) : M_Md_firstOf N h y m = some (sp_ms (h 84) (lp (h 84) y) m) := by
  have := lp_fold (fun n k a => Md_firstOf_L5 N h y m n a k) (sp_ms (h 84) (lp (h 84) y)) (sp_ms (h 84) (lp (h 84) y) m) m
    (fun n k hk => by
      (try dsimp only)
      rw [Md_firstOf_L5, m_monthLength ok h0 h1 (by omega), Option.bind_some, sp_ms_succ]
      simp (disch := omega) only [leb_iff, ltb_iff, eqb_iff, pu_rmP, pu_dvP, pu_bs, pu_b0, pu_b1, pu_c0, pu_c1, pu_lt, pu_rdN, pu_wrN, hs_at, hs_cell, hs_slot, if_true, if_false, true_and, and_true, pu_rd, pu_wr, Int.reduceToNat, Int.toNat_natCast, decide_eq_true_eq, Int.add_zero, Bool.false_eq_true, if_pos, if_neg, Int.add_assoc])
    (fun n => by
      (try dsimp only)
      rw [Md_firstOf_L5]
      simp (disch := omega) only [leb_iff, ltb_iff, eqb_iff, pu_rmP, pu_dvP, pu_bs, pu_b0, pu_b1, pu_c0, pu_c1, pu_lt, pu_rdN, pu_wrN, hs_at, hs_cell, hs_slot, if_true, if_false, true_and, and_true, pu_rd, pu_wr, Int.reduceToNat, Int.toNat_natCast, decide_eq_true_eq, Int.add_zero, Bool.false_eq_true, if_pos, if_neg]) N 0 (by omega) (by omega)
  rw [sp_ms_zero ok] at this
  exact this
theorem m_monthOf (hN : 10 < N) (ok : OkB (h 84)) {y : Int} (h0 : 0 ≤ y) (h1 : y ≤ 20000) {d : Int} (hd : 0 ≤ d) (hd2 : d < yd (h 84) + lp (h 84) y) : ∃ k : Nat, M_Md_monthOf N h y d = some (k : Int) ∧ (k : Int) < h 84 1 ∧ sp_ms (h 84) (lp (h 84) y) k ≤ d ∧ d < sp_ms (h 84) (lp (h 84) y) (k + 1) := by
  have hm := ok.mon
  have hy := yd_le ok
  have hl := lp_le (h 84) y
  have hall := sp_ms_all ok (lp01 (h 84) y)
  have := lp_inv (fun n k (_ : Unit) => Md_monthOf_L2 N h y d n k) (fun k _ => sp_ms (h 84) (lp (h 84) y) k ≤ d) (fun r => ∃ k : Nat, r = (k : Int) ∧ (k : Int) < h 84 1 ∧ sp_ms (h 84) (lp (h 84) y) k ≤ d ∧ d < sp_ms (h 84) (lp (h 84) y) (k + 1)) (h 84 1).toNat
    (fun n k _ hk hp => by
      have hmo := sp_ms_mono ok (l := lp (h 84) y) (i := k + 1) (j := (h 84 1).toNat) (by omega) (by omega)
      have hz := sp_ms_mono ok (l := lp (h 84) y) (i := 0) (j := k + 1) (by omega) (by omega)
      rw [sp_ms_zero ok] at hz
      (try dsimp only)
      rw [Md_monthOf_L2, show (k : Int) + 1 = ((k + 1 : Nat) : Int) by omega, m_firstOf hN ok h0 h1 (by omega), Option.bind_some]
      by_cases e : d < sp_ms (h 84) (lp (h 84) y) (k + 1)
      · refine Or.inr ⟨k, ?_, k, rfl, by omega, hp, e⟩
        simp (disch := omega) only [leb_iff, ltb_iff, eqb_iff, pu_rmP, pu_dvP, pu_bs, pu_b0, pu_b1, pu_c0, pu_c1, pu_lt, pu_rdN, pu_wrN, hs_at, hs_cell, hs_slot, if_true, if_false, true_and, and_true, pu_rd, pu_wr, Int.reduceToNat, Int.toNat_natCast, decide_eq_true_eq, Int.add_zero, Bool.false_eq_true, if_pos, if_neg]
      · refine Or.inl ⟨(), by omega, ?_⟩
        simp (disch := omega) only [leb_iff, ltb_iff, eqb_iff, pu_rmP, pu_dvP, pu_bs, pu_b0, pu_b1, pu_c0, pu_c1, pu_lt, pu_rdN, pu_wrN, hs_at, hs_cell, hs_slot, if_true, if_false, true_and, and_true, pu_rd, pu_wr, Int.reduceToNat, Int.toNat_natCast, decide_eq_true_eq, Int.add_zero, Bool.false_eq_true, if_pos, if_neg])
    (fun n _ hp => by omega) N 0 () (by omega) (by omega) (by (try dsimp only); rw [sp_ms_zero ok]; omega)
  obtain ⟨r, hr, k, e, h2⟩ := this
  exact ⟨k, by rw [← e]; exact hr, h2⟩
end Md
section Cm
variable {b : Nat → Int} {h : Hp} {B N : Nat}
theorem c_hasLeap {s : Int} (h0 : 0 ≤ s) (h1 : s < 80) : M_Book_hasLeap B s = some (if s < 40 then 0 else 1) := by
  unfold M_Book_hasLeap
  by_cases e : s < 40 <;> simp (disch := omega) only [leb_iff, ltb_iff, eqb_iff, pu_rmP, pu_dvP, pu_bs, pu_b0, pu_b1, pu_c0, pu_c1, pu_lt, pu_rdN, pu_wrN, hs_at, hs_cell, hs_slot, if_true, if_false, true_and, and_true, pu_rd, pu_wr, Int.reduceToNat, Int.toNat_natCast, decide_eq_true_eq, Int.add_zero, Bool.false_eq_true, if_pos, if_neg]
theorem c_monthStart (hN : 10 < N) (ok : OkB b) (cb : CB b h B) {s : Int} (h0 : 0 ≤ s) (h1 : s < 80) {m : Nat} (hm : (m : Int) ≤ b 1) : M_Book_monthStart N h B s m = some (sp_ms b (if s < 40 then 0 else 1) m) := by
  have hmo := ok.mon
  have hlm := ok.lmon
  have key : ∀ a : Int, Book_monthStart_L25 N h B m N a 0 = some (a + msum b m) := by
    intro a
    have := lp_fold (fun n k x => Book_monthStart_L25 N h B m n x k) (fun k => a + msum b k) (a + msum b m) m
      (fun n k hk => by
        (try dsimp only)
        rw [Book_monthStart_L25, cb.mon, pu_rdN (by omega), Option.bind_some, cb.days k (by omega), msum]
        simp (disch := omega) only [leb_iff, ltb_iff, eqb_iff, pu_rmP, pu_dvP, pu_bs, pu_b0, pu_b1, pu_c0, pu_c1, pu_lt, pu_rdN, pu_wrN, hs_at, hs_cell, hs_slot, if_true, if_false, true_and, and_true, pu_rd, pu_wr, Int.reduceToNat, Int.toNat_natCast, decide_eq_true_eq, Int.add_zero, Bool.false_eq_true, if_pos, if_neg, Int.add_assoc])
      (fun n => by
        (try dsimp only)
        rw [Book_monthStart_L25]
        simp (disch := omega) only [leb_iff, ltb_iff, eqb_iff, pu_rmP, pu_dvP, pu_bs, pu_b0, pu_b1, pu_c0, pu_c1, pu_lt, pu_rdN, pu_wrN, hs_at, hs_cell, hs_slot, if_true, if_false, true_and, and_true, pu_rd, pu_wr, Int.reduceToNat, Int.toNat_natCast, decide_eq_true_eq, Int.add_zero, Bool.false_eq_true, if_pos, if_neg]) N 0 (by omega) (by omega)
    rw [show msum b 0 = 0 from rfl, Int.add_zero] at this
    exact this
  unfold M_Book_monthStart
  rw [c_hasLeap h0 h1, Option.bind_some, pu_lt, cb.lmon]
  simp only [key]
  unfold sp_ms
  by_cases e : s < 40
  · simp (disch := omega) only [leb_iff, ltb_iff, eqb_iff, pu_rmP, pu_dvP, pu_bs, pu_b0, pu_b1, pu_c0, pu_c1, pu_lt, pu_rdN, pu_wrN, hs_at, hs_cell, hs_slot, if_true, if_false, true_and, and_true, pu_rd, pu_wr, Int.reduceToNat, Int.toNat_natCast, decide_eq_true_eq, Int.add_zero, Bool.false_eq_true, if_pos, if_neg, Int.zero_add, Int.add_zero]
  · by_cases e2 : b 11 < m
    · simp (disch := omega) only [leb_iff, ltb_iff, eqb_iff, pu_rmP, pu_dvP, pu_bs, pu_b0, pu_b1, pu_c0, pu_c1, pu_lt, pu_rdN, pu_wrN, hs_at, hs_cell, hs_slot, if_true, if_false, true_and, and_true, pu_rd, pu_wr, Int.reduceToNat, Int.toNat_natCast, decide_eq_true_eq, Int.add_zero, Bool.false_eq_true, if_pos, if_neg, Int.add_comm]
    · simp (disch := omega) only [leb_iff, ltb_iff, eqb_iff, pu_rmP, pu_dvP, pu_bs, pu_b0, pu_b1, pu_c0, pu_c1, pu_lt, pu_rdN, pu_wrN, hs_at, hs_cell, hs_slot, if_true, if_false, true_and, and_true, pu_rd, pu_wr, Int.reduceToNat, Int.toNat_natCast, decide_eq_true_eq, Int.add_zero, Bool.false_eq_true, if_pos, if_neg, Int.zero_add, Int.add_zero]
theorem c_monthOf (hN : 10 < N) (ok : OkB b) (cb : CB b h B) {s : Int} (h0 : 0 ≤ s) (h1 : s < 80) {d : Int} (hd : 0 ≤ d) (hd2 : d < yd b + (if s < 40 then 0 else 1)) : ∃ k : Nat, M_Book_monthOf N h B s d = some (k : Int) ∧ (k : Int) < b 1 ∧ sp_ms b (if s < 40 then 0 else 1) k ≤ d ∧ d < sp_ms b (if s < 40 then 0 else 1) (k + 1) := by
  have hmo := ok.mon
  have hy := yd_le ok
  generalize hl : (if s < 40 then (0 : Int) else 1) = l at *
  have hl01 : l = 0 ∨ l = 1 := by subst hl; split <;> simp
  have hall := sp_ms_all ok hl01
  have := lp_inv (fun n k (a : Int) => Book_monthOf_L5 N h B s d n a (k + 1)) (fun k a => ∃ j : Nat, a = j ∧ j ≤ k ∧ sp_ms b l j ≤ d ∧ (∀ i : Nat, j < i → i ≤ k → d < sp_ms b l i)) (fun r => ∃ k : Nat, r = (k : Int) ∧ (k : Int) < b 1 ∧ sp_ms b l k ≤ d ∧ d < sp_ms b l (k + 1)) ((b 1).toNat - 1)
    (fun n k a hk hp => by
      obtain ⟨j, ej, hj, hjd, hi⟩ := hp
      have hmono := sp_ms_mono ok (l := l) (i := k + 1) (j := (b 1).toNat) (by omega) (by omega)
      have hz := sp_ms_mono ok (l := l) (i := 0) (j := k + 1) (by omega) (by omega)
      rw [sp_ms_zero ok] at hz
      (try dsimp only)
      rw [Book_monthOf_L5, cb.mon, show (k : Int) + 1 = ((k + 1 : Nat) : Int) by omega, c_monthStart hN ok cb h0 h1 (by omega), Option.bind_some, hl]
      by_cases e : d < sp_ms b l (k + 1)
      · refine Or.inl ⟨a, ⟨j, ej, by omega, hjd, fun i h1 h2 => ?_⟩, ?_⟩
        · by_cases e2 : i = k + 1
          · subst e2; exact e
          · exact hi i h1 (by omega)
        · simp (disch := omega) only [leb_iff, ltb_iff, eqb_iff, pu_rmP, pu_dvP, pu_bs, pu_b0, pu_b1, pu_c0, pu_c1, pu_lt, pu_rdN, pu_wrN, hs_at, hs_cell, hs_slot, if_true, if_false, true_and, and_true, pu_rd, pu_wr, Int.reduceToNat, Int.toNat_natCast, decide_eq_true_eq, Int.add_zero, Bool.false_eq_true, if_pos, if_neg]
      · refine Or.inl ⟨((k + 1 : Nat) : Int), ⟨k + 1, rfl, by omega, by omega, fun i h1 h2 => by omega⟩, ?_⟩
        simp (disch := omega) only [leb_iff, ltb_iff, eqb_iff, pu_rmP, pu_dvP, pu_bs, pu_b0, pu_b1, pu_c0, pu_c1, pu_lt, pu_rdN, pu_wrN, hs_at, hs_cell, hs_slot, if_true, if_false, true_and, and_true, pu_rd, pu_wr, Int.reduceToNat, Int.toNat_natCast, decide_eq_true_eq, Int.add_zero, Bool.false_eq_true, if_pos, if_neg])
    (fun n a hp => by
      obtain ⟨j, ej, hj, hjd, hi⟩ := hp
      refine ⟨a, ?_, j, ej, by omega, hjd, ?_⟩
      · (try dsimp only)
        rw [Book_monthOf_L5, cb.mon]
        simp (disch := omega) only [leb_iff, ltb_iff, eqb_iff, pu_rmP, pu_dvP, pu_bs, pu_b0, pu_b1, pu_c0, pu_c1, pu_lt, pu_rdN, pu_wrN, hs_at, hs_cell, hs_slot, if_true, if_false, true_and, and_true, pu_rd, pu_wr, Int.reduceToNat, Int.toNat_natCast, decide_eq_true_eq, Int.add_zero, Bool.false_eq_true, if_pos, if_neg]
      · by_cases e : j + 1 ≤ (b 1).toNat - 1
        · exact hi (j + 1) (by omega) e
        · have : j + 1 = (b 1).toNat := by omega
          rw [this]; omega) N 0 0 (by omega) (by omega) ⟨0, rfl, by omega, by rw [sp_ms_zero ok]; omega, fun i h1 h2 => by omega⟩
  obtain ⟨r, hr, k, e, h2⟩ := this
  exact ⟨k, by rw [← e]; exact hr, h2⟩
end Cm
