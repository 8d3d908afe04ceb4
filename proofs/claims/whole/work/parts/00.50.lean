theorem iZ_natP {a : Nat} (h : a < 100000) : (iZ (a : Int)).toBitVec.toNat = a := by
  show (BitVec.ofInt 32 (a : Int)).toNat = a
  rw [BitVec.toNat_ofInt]
  show ((a : Int) % ((2 ^ 32 : Nat) : Int)).toNat = a
  rw [Int.emod_eq_of_lt (by omega) (by omega)]
  omega
theorem orI_nat {a c n : Nat} (hn : n ≤ 16) (ha : a < 2 ^ n) (hc : c < 2 ^ n) : orI (a : Int) (c : Int) = ((a ||| c : Nat) : Int) := by
  have h2 : (2 : Nat) ^ n ≤ 2 ^ 16 := Nat.pow_le_pow_right (by omega) hn
  have h3 : (2 : Nat) ^ 16 = 65536 := rfl
  have h4 := Nat.or_lt_two_pow ha hc
  unfold orI
  show ((iZ (a : Int) ||| iZ (c : Int)).toBitVec).toInt = _
  rw [Int32.toBitVec_or]
  have e : ((iZ (a : Int)).toBitVec ||| (iZ (c : Int)).toBitVec).toNat = a ||| c := by
    rw [BitVec.toNat_or, iZ_natP (by omega), iZ_natP (by omega)]
  rw [BitVec.toInt_eq_toNat_of_lt (by rw [e]; omega), e]
theorem bsm_bit (q : Nat → Bool) : ∀ n i : Nat, (bsm q n).testBit i = (decide (i < n) && q i)
  | 0, i => by simp [bsm]
  | n + 1, i => by
    have ih := bsm_bit q n i
    have hl := bsm_lt q n
    rw [bsm]
    cases c : q n
    · simp only [Bool.false_eq_true, if_false]
      rw [ih]
      by_cases e : i = n
      · subst e; simp [c]
      · by_cases e2 : i < n
        · simp [e2, show i < n + 1 by omega]
        · simp [e2, show ¬ i < n + 1 by omega]
    · simp only [if_true]
      rw [Nat.add_comm]
      by_cases e : i = n
      · subst e
        rw [Nat.testBit_two_pow_add_eq, Nat.testBit_lt_two_pow hl]
        simp [c]
      · by_cases e2 : i < n
        · rw [Nat.testBit_two_pow_add_gt e2, ih]
          simp [e2, show i < n + 1 by omega]
        · rw [Nat.testBit_lt_two_pow]
          · simp [show ¬ i < n + 1 by omega]
          · have h5 : (2 : Nat) ^ (n + 1) ≤ 2 ^ i := Nat.pow_le_pow_right (by omega) (by omega)
            rw [Nat.pow_succ] at h5
            omega
theorem bsm_or2 (q q' : Nat → Bool) {n : Nat} (hn : n ≤ 12) : orI (bsm q n : Int) (bsm q' n : Int) = (bsm (fun k => q k || q' k) n : Int) := by
  rw [orI_nat (n := n) (by omega) (bsm_lt q n) (bsm_lt q' n)]
  congr 1
  apply Nat.eq_of_testBit_eq
  intro i
  rw [Nat.testBit_or, bsm_bit, bsm_bit, bsm_bit]
  cases decide (i < n) <;> simp
set_option maxRecDepth 10000 in
theorem shl_pow : ∀ k, k < 12 → shlI 1 ((k : Nat) : Int) = ((2 ^ k : Nat) : Int) := by decide +kernel
theorem bsm_one {k : Nat} : ∀ n : Nat, bsm (fun j => decide (j = k)) n = if k < n then 2 ^ k else 0
  | 0 => by simp [bsm]
  | n + 1 => by
    rw [bsm, bsm_one n]
    by_cases e : n = k
    · subst e; simp
    · by_cases e2 : k < n
      · simp [e, e2, show k < n + 1 by omega]
      · simp [e, e2, show ¬ k < n + 1 by omega]
theorem bsm_set (q : Nat → Bool) {n k : Nat} (hn : n ≤ 12) (hk : k < n) : orI (bsm q n : Int) (shlI 1 (k : Int)) = (bsm (fun j => q j || decide (j = k)) n : Int) := by
  rw [shl_pow k (by omega)]
  have := bsm_or2 q (fun j => decide (j = k)) hn
  rw [bsm_one, if_pos hk] at this
  exact this
def Nx (q : Nat → Prop) (i m : Nat) (r : Int) : Prop := (r = -1 ∧ ∀ y, i ≤ y → y < m → ¬ q y) ∨ (∃ y : Nat, i ≤ y ∧ y < m ∧ r = y ∧ q y ∧ ∀ z, i ≤ z → z < y → ¬ q z)
theorem Nx_uniq {q : Nat → Prop} {i m : Nat} {r r' : Int} (h : Nx q i m r) (h' : Nx q i m r') : r = r' := by
  rcases h with ⟨h1, h2⟩ | ⟨y, y0, y1, y2, y3, y4⟩
  · rcases h' with ⟨k1, k2⟩ | ⟨z, z0, z1, z2, z3, z4⟩
    · omega
    · exact absurd z3 (h2 z z0 z1)
  · rcases h' with ⟨k1, k2⟩ | ⟨z, z0, z1, z2, z3, z4⟩
    · exact absurd y3 (k2 y y0 y1)
    · have h5 : ¬ z < y := fun x => y4 z z0 x z3
      have h6 : ¬ y < z := fun x => z4 y y0 x y3
      omega
def nxq (b : Nat → Int) (f : Nat) (w : Int) (y : Nat) : Prop := (rsS b (sy b y)).1 f ≠ -1 ∧ ((rsS b (sy b y)).1 f - psc b y) % b 0 = w
def gpv (b : Nat → Int) (f y : Nat) : Int := if (rsS b (sy b y)).1 f ≠ -1 ∧ (rsS b (sy b (y + 1))).1 f ≠ -1 then yd b + lp b y - (rsS b (sy b y)).1 f + (rsS b (sy b (y + 1))).1 f else -1
section Rg
variable {b : Nat → Int} {h : Hp} {N : Nat}
theorem gpv_bd (ok : OkB b) {f : Nat} (hf : (f : Int) < b 42) (y : Nat) : -1 ≤ gpv b f y ∧ gpv b f y ≤ 1000 := by
  have h1 := plS_bd ok (sy b y) hf
  have h2 := plS_bd ok (sy b (y + 1)) hf
  have h3 := res_P ok (sl (sy b y)) (spc b (sy b y)) hf
  have h4 := yd_le ok
  have h5 := lp_le b (y : Int)
  have sp := sy_spec ok y
  unfold PlO at h3
  rw [sp.2.2.1] at h3
  have e : (rsS b (sy b y)).1 f = (res b (lp b y) (spc b (sy b y))).1 f := by unfold rsS; rw [sp.2.2.1]
  unfold gpv
  split
  · omega
  · omega
theorem c_firstOn (hN : 2000 < N) (ok : OkB b) (cb : CB b h 23) (rb : RB b h) (rs : RS b h) {f : Nat} (hf : (f : Int) < b 42) {w : Int} (hw : 0 ≤ w ∧ w < b 0) {y : Nat} (hy : y ≤ 9999) : ∃ r, M_Round_firstOn N h f w y = some r ∧ Nx (nxq b f w) y (min (y + cyN b) 10000) r := by
  have hm := ok.many
  have hC := cyN_bd ok
  have hwk := ok.week
  have hfs := ok.fst
  unfold M_Round_firstOn
  exact lp_inv (fun n k (_ : Unit) => Round_firstOn_L3 N h f w y n k) (fun k _ => y ≤ k ∧ ∀ z, y ≤ z → z < k → ¬ nxq b f w z) (fun r => Nx (nxq b f w) y (min (y + cyN b) 10000) r) (min (y + cyN b) 10000)
    (fun n k _ hk hp => by
      obtain ⟨hyk, hp⟩ := hp
      have es := c_sortOf ok cb (y := (k : Int)) (by omega) (by omega)
      have sp := sy_spec ok k
      rw [← sp.1] at es
      have h5 := (rs (sy b k) sp.2.1 (sy_ofn ok k) f hf).2.1
      have h6 := plS_bd ok (sy b k) hf
      have e1 := c_paschIn cb (s := (sy b k : Int)) (by omega) (by omega)
      have e2 : b 13 + 1 + (sy b k : Int) % 40 = psc b k := by rw [← sp.2.2.2]; rfl
      rw [e2] at e1
      have hpb := psc_le ok (y := (k : Int)) (by omega)
      have hsp := ok.spn
      have e3 := c_weekdayFrom ok cb (p := psc b k) (d := (rsS b (sy b k)).1 f) (by omega) (by omega)
      have m1 := Int.emod_nonneg ((rsS b (sy b k)).1 f - psc b k) (show b 0 ≠ 0 by omega)
      have m2 := Int.emod_lt_of_pos ((rsS b (sy b k)).1 f - psc b k) (show 0 < b 0 by omega)
      by_cases c1 : (rsS b (sy b k)).1 f = -1
      · refine Or.inl ⟨(), ⟨by omega, fun z z1 z2 => ?_⟩, ?_⟩
        · by_cases e : z = k
          · subst e; exact fun x => x.1 c1
          · exact hp z z1 (by omega)
        · (try dsimp only)
          rw [Round_firstOn_L3, rb.yrs]
          simp (disch := omega) only [leb_iff, ltb_iff, eqb_iff, pu_rmP, pu_dvP, pu_bs, pu_b0, pu_b1, pu_c0, pu_c1, pu_lt, pu_rdN, pu_wrN, hs_at, hs_cell, hs_slot, if_true, if_false, true_and, and_true, pu_rd, pu_wr, Int.reduceToNat, Int.toNat_natCast, decide_eq_true_eq, Int.add_zero, Bool.false_eq_true, if_pos, if_neg, es, tn960, h5]
      · by_cases c2 : ((rsS b (sy b k)).1 f - psc b k) % b 0 = w
        · refine Or.inr ⟨k, ?_, Or.inr ⟨k, hyk, hk, rfl, ⟨c1, c2⟩, hp⟩⟩
          (try dsimp only)
          rw [Round_firstOn_L3, rb.yrs]
          simp (disch := omega) only [leb_iff, ltb_iff, eqb_iff, pu_rmP, pu_dvP, pu_bs, pu_b0, pu_b1, pu_c0, pu_c1, pu_lt, pu_rdN, pu_wrN, hs_at, hs_cell, hs_slot, if_true, if_false, true_and, and_true, pu_rd, pu_wr, Int.reduceToNat, Int.toNat_natCast, decide_eq_true_eq, Int.add_zero, Bool.false_eq_true, if_pos, if_neg, es, tn960, h5, e1, e3]
        · refine Or.inl ⟨(), ⟨by omega, fun z z1 z2 => ?_⟩, ?_⟩
          · by_cases e : z = k
            · subst e; exact fun x => c2 x.2
            · exact hp z z1 (by omega)
          · (try dsimp only)
            rw [Round_firstOn_L3, rb.yrs]
            simp (disch := omega) only [leb_iff, ltb_iff, eqb_iff, pu_rmP, pu_dvP, pu_bs, pu_b0, pu_b1, pu_c0, pu_c1, pu_lt, pu_rdN, pu_wrN, hs_at, hs_cell, hs_slot, if_true, if_false, true_and, and_true, pu_rd, pu_wr, Int.reduceToNat, Int.toNat_natCast, decide_eq_true_eq, Int.add_zero, Bool.false_eq_true, if_pos, if_neg, es, tn960, h5, e1, e3])
    (fun n _ hp => by
      refine ⟨-1, ?_, Or.inl ⟨rfl, hp.2⟩⟩
      (try dsimp only)
      rw [Round_firstOn_L3, rb.yrs]
      by_cases c : y + cyN b ≤ 10000
      · rw [show min (y + cyN b) 10000 = y + cyN b by omega]
        simp (disch := omega) only [leb_iff, ltb_iff, eqb_iff, pu_rmP, pu_dvP, pu_bs, pu_b0, pu_b1, pu_c0, pu_c1, pu_lt, pu_rdN, pu_wrN, hs_at, hs_cell, hs_slot, if_true, if_false, true_and, and_true, pu_rd, pu_wr, Int.reduceToNat, Int.toNat_natCast, decide_eq_true_eq, Int.add_zero, Bool.false_eq_true, if_pos, if_neg]
      · rw [show min (y + cyN b) 10000 = 10000 by omega]
        simp (disch := omega) only [leb_iff, ltb_iff, eqb_iff, pu_rmP, pu_dvP, pu_bs, pu_b0, pu_b1, pu_c0, pu_c1, pu_lt, pu_rdN, pu_wrN, hs_at, hs_cell, hs_slot, if_true, if_false, true_and, and_true, pu_rd, pu_wr, Int.reduceToNat, Int.toNat_natCast, decide_eq_true_eq, Int.add_zero, Bool.false_eq_true, if_pos, if_neg]) N y () (by omega) (by omega) ⟨by omega, fun z z1 z2 => by omega⟩
theorem c_gap (hN : 2000 < N) (ok : OkB b) (cb : CB b h 23) (rb : RB b h) (rs : RS b h) {f : Nat} (hf : (f : Int) < b 42) {t : Int} (ht : t = 0 ∨ t = 1) : ∃ r, M_Round_gap N h f t = some r ∧ Ext t (gpv b f) (cyN b) r := by
  have hm := ok.many
  have hC := cyN_bd ok
  have hy := yd_le ok
  unfold M_Round_gap
  have es0 := c_sortOf ok cb (y := ((0 : Nat) : Int)) (by omega) (by omega)
  rw [← (sy_spec ok 0).1, Int.natCast_zero] at es0
  rw [es0, pu_bs]
  exact lp_inv (fun n k a => Round_gap_L15 N h f t n a (sy b k.toNat) k) (fun k a => -1 ≤ a ∧ a ≤ 1000 ∧ Ext t (gpv b f) k a) (fun r => Ext t (gpv b f) (cyN b) r) (cyN b)
    (fun n k a hk hp => by
      obtain ⟨a1, a2, hp⟩ := hp
      have es := c_sortOf ok cb (y := (k : Int) + 1) (by omega) (by omega)
      have sp := sy_spec ok k
      have sp2 := sy_spec ok (k + 1)
      rw [show (k : Int) + 1 = ((k + 1 : Nat) : Int) by omega, ← sp2.1] at es
      have h5 := (rs (sy b k) sp.2.1 (sy_ofn ok k) f hf).2.1
      have h6 := (rs (sy b (k + 1)) sp2.2.1 (sy_ofn ok (k + 1)) f hf).2.1
      have h7 := plS_bd ok (sy b k) hf
      have h8 := plS_bd ok (sy b (k + 1)) hf
      have hg := gpv_bd ok hf k
      have hst := Ext_step hp (fun s => (gpv_bd ok hf s).1)
      have hdi := c_daysIn cb (s := (sy b k : Int)) (by omega) (by omega)
      have e2 : (if (sy b k : Int) < 40 then (0 : Int) else 1) = lp b k := sp.2.2.1
      rw [e2] at hdi
      have ek : ((k : Int) + 1).toNat = k + 1 := by omega
      refine Or.inl ⟨fur t a (gpv b f k), ⟨by unfold fur; split <;> (try split) <;> omega, by unfold fur; split <;> (try split) <;> omega, hst⟩, ?_⟩
      (try dsimp only)
      rw [Round_gap_L15, rb.yrs, ek, Int.toNat_natCast, show (k : Int) + 1 = ((k + 1 : Nat) : Int) by omega]
      by_cases c1 : (rsS b (sy b k)).1 f = -1
      · have e : gpv b f k = -1 := if_neg (fun x => x.1 c1)
        have e3 : fur t a (gpv b f k) = a := by unfold fur; rw [if_pos (Or.inr e)]; omega
        rw [e3]
        simp (disch := omega) only [leb_iff, ltb_iff, eqb_iff, pu_rmP, pu_dvP, pu_bs, pu_b0, pu_b1, pu_c0, pu_c1, pu_lt, pu_rdN, pu_wrN, hs_at, hs_cell, hs_slot, if_true, if_false, true_and, and_true, pu_rd, pu_wr, Int.reduceToNat, Int.toNat_natCast, decide_eq_true_eq, Int.add_zero, Bool.false_eq_true, if_pos, if_neg, es, tn960, h5, h6]
      · by_cases c2 : (rsS b (sy b (k + 1))).1 f = -1
        · have e : gpv b f k = -1 := if_neg (fun x => x.2 c2)
          have e3 : fur t a (gpv b f k) = a := by unfold fur; rw [if_pos (Or.inr e)]; omega
          rw [e3]
          simp (disch := omega) only [leb_iff, ltb_iff, eqb_iff, pu_rmP, pu_dvP, pu_bs, pu_b0, pu_b1, pu_c0, pu_c1, pu_lt, pu_rdN, pu_wrN, hs_at, hs_cell, hs_slot, if_true, if_false, true_and, and_true, pu_rd, pu_wr, Int.reduceToNat, Int.toNat_natCast, decide_eq_true_eq, Int.add_zero, Bool.false_eq_true, if_pos, if_neg, es, tn960, h5, h6]
        · have e : gpv b f k = yd b + lp b k - (rsS b (sy b k)).1 f + (rsS b (sy b (k + 1))).1 f := if_pos ⟨c1, c2⟩
          have hfu := c_further ht (r := a) (v := gpv b f k) (by omega) (by omega)
          rw [e] at hfu ⊢
          simp (disch := omega) only [leb_iff, ltb_iff, eqb_iff, pu_rmP, pu_dvP, pu_bs, pu_b0, pu_b1, pu_c0, pu_c1, pu_lt, pu_rdN, pu_wrN, hs_at, hs_cell, hs_slot, if_true, if_false, true_and, and_true, pu_rd, pu_wr, Int.reduceToNat, Int.toNat_natCast, decide_eq_true_eq, Int.add_zero, Bool.false_eq_true, if_pos, if_neg, es, tn960, h5, h6, hdi, hfu])
    (fun n a hp => by
      refine ⟨a, ?_, hp.2.2⟩
      (try dsimp only)
      rw [Round_gap_L15, rb.yrs]
      simp (disch := omega) only [leb_iff, ltb_iff, eqb_iff, pu_rmP, pu_dvP, pu_bs, pu_b0, pu_b1, pu_c0, pu_c1, pu_lt, pu_rdN, pu_wrN, hs_at, hs_cell, hs_slot, if_true, if_false, true_and, and_true, pu_rd, pu_wr, Int.reduceToNat, Int.toNat_natCast, decide_eq_true_eq, Int.add_zero, Bool.false_eq_true, if_pos, if_neg]) N 0 (-1) (by omega) (by omega) ⟨by omega, by omega, Or.inl ⟨rfl, fun y hy => by omega⟩⟩
end Rg
