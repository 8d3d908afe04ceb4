theorem pu_rd {h : Hp} {c n : Nat} {i : Int} (h0 : 0 ≤ i) (h1 : i < (n : Int)) : rdA h c n i = some (h c i.toNat) := if_pos ⟨h0, h1⟩
theorem pu_rdN {h : Hp} {c n i : Nat} (h1 : i < n) : rdA h c n (i : Int) = some (h c i) := by
  rw [pu_rd (by omega) (by omega)]; rfl
theorem pu_wr {h : Hp} {c n : Nat} {i v : Int} (h0 : 0 ≤ i) (h1 : i < (n : Int)) : wrA h c n i v = some (hs h c i.toNat v) := if_pos ⟨h0, h1⟩
theorem pu_wrN {h : Hp} {c n i : Nat} {v : Int} (h1 : i < n) : wrA h c n (i : Int) v = some (hs h c i v) := by
  rw [pu_wr (by omega) (by omega)]; rfl
theorem pu_dv {a b : Int} (h1 : -2147483648 ≤ a) (h2 : a < 2147483648) (h3 : 0 < b) (h4 : b < 2147483648) : dvI a b = some (a.tdiv b) := by
  have eb : (iZ b).toInt = b := toInt_iZ (by omega) h4
  have ea : (iZ a).toInt = a := toInt_iZ h1 h2
  have hb : ¬ iZ b = 0 := fun e => by rw [e] at eb; have : (0 : Int32).toInt = 0 := rfl; omega
  unfold dvI
  rw [if_neg hb, Int32.toInt_div, ea, eb]
  congr 1
  have k1 : (a.tdiv b).natAbs ≤ a.natAbs := by rw [Int.natAbs_tdiv]; exact Nat.div_le_self _ _
  by_cases e : a = -2147483648
  · by_cases e1 : b = 1
    · subst e; subst e1; decide
    · have k2 : (a.tdiv b).natAbs < a.natAbs := by rw [Int.natAbs_tdiv]; exact Nat.div_lt_self (by omega) (by omega)
      exact Int.bmod_eq_of_le (by omega) (by omega)
  · exact Int.bmod_eq_of_le (by omega) (by omega)
theorem pu_rm {a b : Int} (h1 : -2147483648 ≤ a) (h2 : a < 2147483648) (h3 : 0 < b) (h4 : b < 2147483648) : rmI a b = some (a.tmod b) := by
  have eb : (iZ b).toInt = b := toInt_iZ (by omega) h4
  have ea : (iZ a).toInt = a := toInt_iZ h1 h2
  have hb : ¬ iZ b = 0 := fun e => by rw [e] at eb; have : (0 : Int32).toInt = 0 := rfl; omega
  have hd := pu_dv h1 h2 h3 h4
  unfold dvI at hd
  rw [if_neg hb] at hd
  have hd2 := Option.some.inj hd
  unfold rmI
  rw [if_neg hb]
  congr 1
  have e1 : iZ a / iZ b = iZ (a.tdiv b) := by rw [← hd2, iZ_toInt]
  rw [e1, iZ_mul, iZ_sub]
  have e2 : a - a.tdiv b * b = a.tmod b := by have := Int.mul_tdiv_add_tmod a b; rw [Int.mul_comm] at this; omega
  rw [e2]
  have k := Int.natAbs_tmod a b
  have k2 : a.natAbs % b.natAbs < b.natAbs := Nat.mod_lt _ (by omega)
  exact toInt_iZ (by omega) (by omega)
theorem pu_dvP {a b : Int} (h1 : 0 ≤ a) (h2 : a < 2147483648) (h3 : 0 < b) (h4 : b < 2147483648) : dvI a b = some (a / b) := by
  rw [pu_dv (by omega) h2 h3 h4, Int.tdiv_eq_ediv_of_nonneg h1]
theorem pu_rmP {a b : Int} (h1 : 0 ≤ a) (h2 : a < 2147483648) (h3 : 0 < b) (h4 : b < 2147483648) : rmI a b = some (a % b) := by
  rw [pu_rm (by omega) h2 h3 h4, Int.tmod_eq_emod_of_nonneg h1]
theorem pu_mx {a b : Int} (h1 : -2147483648 ≤ a) (h2 : a < 2147483648) (h3 : -2147483648 ≤ b) (h4 : b < 2147483648) : mxI a b = max a b := by
  unfold mxI
  simp only [ltb_iff h1 h2 h3 h4]
  split <;> omega
theorem pu_mn {a b : Int} (h1 : -2147483648 ≤ a) (h2 : a < 2147483648) (h3 : -2147483648 ≤ b) (h4 : b < 2147483648) : mnI a b = min a b := by
  unfold mnI
  simp only [ltb_iff h3 h4 h1 h2]
  split <;> omega
theorem pu_ab {a : Int} (h1 : -2147483648 < a) (h2 : a < 2147483648) : abI a = (a.natAbs : Int) := by
  unfold abI
  simp only [leb_iff (show (-2147483648 : Int) ≤ 0 by decide) (show (0 : Int) < 2147483648 by decide) (show -2147483648 ≤ a by omega) h2]
  split <;> omega
theorem pu_b0 : rtB 0 = some 0 := Eq.trans rfl rfl
theorem pu_b1 : rtB 1 = some 1 := Eq.trans rfl rfl
theorem pu_c0 {α : Type} (k : Option α) : ckB 0 k = k := Eq.trans rfl rfl
theorem pu_c1 {α : Type} (k : Option α) : ckB 1 k = k := Eq.trans rfl rfl
theorem pu_lt {α β : Type} (x : α) (f : α → β) : lt' x f = f x := Eq.trans rfl rfl
theorem pu_bs {α β : Type} (x : α) (f : α → Option β) : (some x).bind f = f x := Eq.trans rfl rfl
theorem pu_xs {a b : Int} (h1 : -2147483648 ≤ a) (h2 : a < 2147483648) (h3 : 0 < b) (h4 : b < 2147483648) : (leb 0 (xorI a b) = true) = (0 ≤ a) := by
  have hr := Int32.le_toInt (iZ a ^^^ iZ b)
  have hr2 := Int32.toInt_lt (iZ a ^^^ iZ b)
  unfold xorI
  rw [leb_iff (by decide) (by decide) hr hr2]
  have eb : (iZ b).toInt = b := toInt_iZ (by omega) h4
  have ea : (iZ a).toInt = a := toInt_iZ h1 h2
  have m1 := BitVec.msb_eq_toInt (x := (iZ a).toBitVec)
  have m2 := BitVec.msb_eq_toInt (x := (iZ b).toBitVec)
  have m3 := BitVec.msb_eq_toInt (x := (iZ a ^^^ iZ b).toBitVec)
  rw [Int32.toBitVec_xor, BitVec.msb_xor] at m3
  rw [← Int32.toBitVec_xor] at m3
  simp only [Int32.toInt_toBitVec] at m1 m2 m3
  rw [ea] at m1
  rw [eb] at m2
  rw [m1, m2] at m3
  have hb : ¬ b < 0 := by omega
  simp only [hb, decide_false, Bool.xor_false] at m3
  have := decide_eq_decide.mp m3
  exact propext ⟨fun h => by omega, fun h => by omega⟩
theorem pu_fm {a b : Int} (h1 : -2147483648 ≤ a) (h2 : a < 2147483648) (h3 : 0 < b) (h4 : b < 2147483648) : M_JM_floorMod a b = some (a % b) := by
  unfold M_JM_floorMod
  rw [pu_rm h1 h2 h3 h4, Option.bind_some]
  simp only [pu_xs h1 h2 h3 h4]
  by_cases ha : 0 ≤ a
  · rw [if_pos ha, Int.tmod_eq_emod_of_nonneg ha]
  · rw [if_neg ha]
    have k := Int.natAbs_tmod a b
    have k2 : a.natAbs % b.natAbs < b.natAbs := Nat.mod_lt _ (by omega)
    simp only [eqb_iff (show -2147483648 ≤ a.tmod b by omega) (show a.tmod b < 2147483648 by omega) (show (-2147483648 : Int) ≤ 0 by decide) (show (0 : Int) < 2147483648 by decide)]
    have e := Int.tmod_eq_emod (a := a) (b := b)
    have hm := Int.emod_nonneg a (show b ≠ 0 by omega)
    have hm2 := Int.emod_lt_of_pos a h3
    by_cases hd : b ∣ a
    · rw [if_pos (Or.inr hd)] at e
      have := Int.emod_eq_zero_of_dvd hd
      rw [if_pos (by omega)]
      congr 1; omega
    · rw [if_neg (by intro h; rcases h with h | h; exact ha h; exact hd h)] at e
      rw [if_neg (by omega)]
      congr 1; omega
