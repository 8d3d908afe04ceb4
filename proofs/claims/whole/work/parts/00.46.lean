def lpy (b : Nat → Int) : Nat := (max (b 10) 1).toNat
def cy1 (b : Nat → Int) : Nat := (b 12).toNat / Nat.gcd (b 12).toNat (lpy b) * lpy b
def cyN (b : Nat → Int) : Nat := cy1 b * ((b 0).toNat / Nat.gcd (ahd b (cy1 b)).toNat (b 0).toNat)
section Cy
variable {b : Nat → Int} {h : Hp} {N : Nat}
theorem lpy_bd (ok : OkB b) : 1 ≤ lpy b ∧ lpy b ≤ 9 ∧ (0 < b 10 → (lpy b : Int) = b 10) ∧ (b 10 = 0 → lpy b = 1) := by
  have := ok.leap
  unfold lpy; omega
theorem ahd_lc (ok : OkB b) (c : Nat) : ahd b ((lpy b * c : Nat) : Int) = ((lpy b * c : Nat) : Int) * yd b + (if 0 < b 10 then (c : Int) else 0) := by
  have h1 := lpy_bd ok
  have h2 := ok.leap
  unfold ahd
  by_cases e : 0 < b 10
  · rw [if_pos e, if_pos e, Int.natCast_mul, h1.2.2.1 e]
    congr 1
    rw [show b 10 * (c : Int) + b 10 - 1 = (b 10 - 1) + b 10 * c by omega, Int.add_mul_ediv_left _ _ (by omega), Int.ediv_eq_zero_of_lt (by omega) (by omega)]
    omega
  · rw [if_neg e, if_neg e]
theorem ahd_per (ok : OkB b) {y : Int} (c : Nat) : ahd b (y + ((lpy b * c : Nat) : Int)) = ahd b y + ahd b ((lpy b * c : Nat) : Int) := by
  rw [ahd_lc ok]
  have h1 := lpy_bd ok
  unfold ahd
  by_cases e : 0 < b 10
  · rw [if_pos e, if_pos e, if_pos e, Int.natCast_mul, h1.2.2.1 e, show y + b 10 * (c : Int) + b 10 - 1 = (y + b 10 - 1) + b 10 * c by omega, Int.add_mul_ediv_left _ _ (by omega), Int.add_mul]
    omega
  · rw [if_neg e, if_neg e, if_neg e, Int.add_mul]
    omega
theorem ahd_zero (ok : OkB b) : ahd b 0 = 0 := by
  have := ahd_lc ok 0
  simp at this
  exact this
theorem ahd_succ (ok : OkB b) {y : Int} (h0 : 0 ≤ y) : ahd b (y + 1) = ahd b y + (yd b + lp b y) := by
  have h2 := ok.leap
  unfold ahd lp isL
  by_cases e : 0 < b 10
  · rw [if_pos e, if_pos e]
    have hq := Int.mul_ediv_add_emod y (b 10)
    have hr1 := Int.emod_nonneg y (show b 10 ≠ 0 by omega)
    have hr2 := Int.emod_lt_of_pos y e
    have e1 : (y + 1 + b 10 - 1) / b 10 = y / b 10 + 1 := by
      rw [show y + 1 + b 10 - 1 = y + b 10 * 1 by omega, Int.add_mul_ediv_left _ _ (by omega)]
    rw [e1, Int.add_mul]
    by_cases c : y % b 10 = 0
    · have e2 : (y + b 10 - 1) / b 10 = y / b 10 := by
        rw [show y + b 10 - 1 = (b 10 - 1) + b 10 * (y / b 10) by omega, Int.add_mul_ediv_left _ _ (by omega), Int.ediv_eq_zero_of_lt (by omega) (by omega)]
        omega
      rw [e2]
      simp [c, e]; omega
    · have e2 : (y + b 10 - 1) / b 10 = y / b 10 + 1 := by
        rw [show y + b 10 - 1 = (y % b 10 - 1) + b 10 * (y / b 10 + 1) by rw [Int.mul_add]; omega, Int.add_mul_ediv_left _ _ (by omega), Int.ediv_eq_zero_of_lt (by omega) (by omega)]
        omega
      rw [e2]
      simp [c]; omega
  · rw [if_neg e, if_neg e, Int.add_mul]
    simp [e]
theorem cy1_eq (b : Nat → Int) : cy1 b = Nat.lcm (b 12).toNat (lpy b) := by
  unfold cy1 Nat.lcm
  exact Nat.div_mul_right_comm (Nat.gcd_dvd_left _ _) _
theorem cy1_bd (ok : OkB b) : 1 ≤ cy1 b ∧ cy1 b ≤ 171 := by
  have h1 := lpy_bd ok
  have h2 := ok.cyc
  have h3 : 0 < Nat.lcm (b 12).toNat (lpy b) := Nat.lcm_pos (by omega) (by omega)
  have h4 := Nat.le_of_dvd (Nat.mul_pos (show 0 < (b 12).toNat by omega) (show 0 < lpy b by omega)) (Nat.lcm_dvd_mul (b 12).toNat (lpy b))
  have h5 : (b 12).toNat * lpy b ≤ 19 * 9 := Nat.mul_le_mul (by omega) (by omega)
  rw [cy1_eq]
  omega
theorem cyA (ok : OkB b) : 0 < (ahd b (cy1 b)).toNat ∧ ((ahd b (cy1 b)).toNat : Int) = ahd b (cy1 b) ∧ (ahd b (cy1 b)).toNat ≤ 4990000 := by
  have h1 := cy1_bd ok
  have h2 := ahd_le ok (y := (cy1 b : Int)) (by omega) (by omega)
  have hy := yd_le ok
  have h3 : ahd b (cy1 b) ≥ 1 := by
    have e : (cy1 b : Int) = ((cy1 b : Int) - 1) + 1 := by omega
    have h4 := ahd_le ok (y := (cy1 b : Int) - 1) (by omega) (by omega)
    have h5 := lp_le b ((cy1 b : Int) - 1)
    rw [e, ahd_succ ok (by omega)]
    omega
  omega
theorem cyN_bd (ok : OkB b) : 1 ≤ cyN b ∧ cyN b ≤ 1539 := by
  have h1 := cy1_bd ok
  have h2 := cyA ok
  have hw := ok.week
  have h3 : 0 < Nat.gcd (ahd b (cy1 b)).toNat (b 0).toNat := Nat.gcd_pos_of_pos_left _ h2.1
  have h4 : Nat.gcd (ahd b (cy1 b)).toNat (b 0).toNat ≤ (b 0).toNat := Nat.le_of_dvd (by omega) (Nat.gcd_dvd_right _ _)
  have h5 : 0 < (b 0).toNat / Nat.gcd (ahd b (cy1 b)).toNat (b 0).toNat := Nat.div_pos h4 h3
  have h6 : (b 0).toNat / Nat.gcd (ahd b (cy1 b)).toNat (b 0).toNat ≤ (b 0).toNat := Nat.div_le_self _ _
  unfold cyN
  have h7 := Nat.mul_le_mul h1.2 (show (b 0).toNat / Nat.gcd (ahd b (cy1 b)).toNat (b 0).toNat ≤ 9 by omega)
  have h8 := Nat.mul_pos (show 0 < cy1 b by omega) h5
  omega
def Clo (b : Nat → Int) (n : Nat) : Prop := (n : Int) % b 12 = 0 ∧ (0 < b 10 → (n : Int) % b 10 = 0) ∧ ahd b n % b 0 = 0
theorem lpy_dvd (ok : OkB b) {n : Nat} (h : 0 < b 10 → (n : Int) % b 10 = 0) : lpy b ∣ n := by
  have h1 := lpy_bd ok
  by_cases e : 0 < b 10
  · have h2 := h e
    rw [← h1.2.2.1 e] at h2
    exact Int.natCast_dvd_natCast.mp (Int.dvd_of_emod_eq_zero h2)
  · have := ok.leap
    rw [h1.2.2.2 (by omega)]; exact Nat.one_dvd n
theorem ahd_mul (ok : OkB b) {m : Nat} (hm : lpy b ∣ m) (k : Nat) : ahd b ((m * k : Nat) : Int) = ahd b m * k := by
  obtain ⟨c, rfl⟩ := hm
  rw [Nat.mul_assoc, ahd_lc ok, ahd_lc ok, Int.add_mul, Int.natCast_mul, Int.natCast_mul, Int.natCast_mul]
  congr 1
  · rw [Int.mul_assoc, Int.mul_assoc, Int.mul_assoc, Int.mul_assoc, Int.mul_comm (k : Int)]
  · split
    · rfl
    · simp
theorem cyN_clo (ok : OkB b) : Clo b (cyN b) := by
  have h2 := ok.cyc
  have hw := ok.week
  have hA := cyA ok
  have d1 : (b 12).toNat ∣ cyN b := by
    unfold cyN; rw [cy1_eq]; exact Nat.dvd_mul_right_of_dvd (Nat.dvd_lcm_left _ _) _
  have d2 : lpy b ∣ cy1 b := by rw [cy1_eq]; exact Nat.dvd_lcm_right _ _
  refine ⟨?_, fun e => ?_, ?_⟩
  · have := Int.natCast_dvd_natCast.mpr d1
    rw [show (((b 12).toNat : Nat) : Int) = b 12 by omega] at this
    exact Int.emod_eq_zero_of_dvd this
  · have : lpy b ∣ cyN b := by unfold cyN; exact Nat.dvd_mul_right_of_dvd d2 _
    have := Int.natCast_dvd_natCast.mpr this
    rw [(lpy_bd ok).2.2.1 e] at this
    exact Int.emod_eq_zero_of_dvd this
  · unfold cyN
    rw [ahd_mul ok d2, ← hA.2.1]
    have : (b 0).toNat ∣ (ahd b (cy1 b)).toNat * ((b 0).toNat / Nat.gcd (ahd b (cy1 b)).toNat (b 0).toNat) := by
      have g1 := Nat.gcd_dvd_left (ahd b (cy1 b)).toNat (b 0).toNat
      have g2 := Nat.gcd_dvd_right (ahd b (cy1 b)).toNat (b 0).toNat
      obtain ⟨x, hx⟩ := g1
      obtain ⟨y, hy⟩ := g2
      have hp : 0 < Nat.gcd (ahd b (cy1 b)).toNat (b 0).toNat := Nat.gcd_pos_of_pos_left _ hA.1
      generalize Nat.gcd (ahd b (cy1 b)).toNat (b 0).toNat = g at *
      rw [hx, hy, Nat.mul_div_cancel_left _ hp, Nat.mul_assoc, Nat.mul_comm x, ← Nat.mul_assoc]
      exact Nat.dvd_mul_right _ _
    have := Int.natCast_dvd_natCast.mpr this
    rw [show (((b 0).toNat : Nat) : Int) = b 0 by omega, Int.natCast_mul] at this
    exact Int.emod_eq_zero_of_dvd this
theorem cyN_min (ok : OkB b) {n : Nat} (hn : 1 ≤ n) (hc : Clo b n) : cyN b ≤ n := by
  have h2 := ok.cyc
  have hw := ok.week
  have hA := cyA ok
  obtain ⟨c1, c2, c3⟩ := hc
  have d1 : (b 12).toNat ∣ n := by
    have := Int.dvd_of_emod_eq_zero c1
    rw [show b 12 = (((b 12).toNat : Nat) : Int) by omega] at this
    exact Int.natCast_dvd_natCast.mp this
  have d2 : lpy b ∣ cy1 b := by rw [cy1_eq]; exact Nat.dvd_lcm_right _ _
  have d3 : cy1 b ∣ n := by rw [cy1_eq]; exact Nat.lcm_dvd d1 (lpy_dvd ok c2)
  obtain ⟨k, rfl⟩ := d3
  rw [ahd_mul ok d2, ← hA.2.1] at c3
  have d4 : (b 0).toNat ∣ (ahd b (cy1 b)).toNat * k := by
    have := Int.dvd_of_emod_eq_zero c3
    rw [show b 0 = (((b 0).toNat : Nat) : Int) by omega, ← Int.natCast_mul] at this
    exact Int.natCast_dvd_natCast.mp this
  have hp : 0 < Nat.gcd (ahd b (cy1 b)).toNat (b 0).toNat := Nat.gcd_pos_of_pos_left _ hA.1
  have cop := Nat.coprime_div_gcd_div_gcd hp
  have g1 := Nat.gcd_dvd_left (ahd b (cy1 b)).toNat (b 0).toNat
  have g2 := Nat.gcd_dvd_right (ahd b (cy1 b)).toNat (b 0).toNat
  have d5 : (b 0).toNat / Nat.gcd (ahd b (cy1 b)).toNat (b 0).toNat ∣ (ahd b (cy1 b)).toNat / Nat.gcd (ahd b (cy1 b)).toNat (b 0).toNat * k := by
    obtain ⟨x, hx⟩ := g1
    obtain ⟨y, hy⟩ := g2
    generalize Nat.gcd (ahd b (cy1 b)).toNat (b 0).toNat = g at *
    rw [hx, hy, Nat.mul_div_cancel_left _ hp, Nat.mul_div_cancel_left _ hp]
    rw [hx, hy, Nat.mul_assoc] at d4
    exact Nat.dvd_of_mul_dvd_mul_left hp d4
  have d6 := cop.symm.dvd_of_dvd_mul_left d5
  unfold cyN
  have hk : 0 < k := Nat.pos_of_ne_zero (fun e => by subst e; omega)
  exact Nat.mul_le_mul_left _ (Nat.le_of_dvd hk d6)
theorem srt_per (ok : OkB b) {y : Int} (h0 : 0 ≤ y) : lp b (y + cyN b) = lp b y ∧ psc b (y + cyN b) = psc b y ∧ srt b (y + cyN b) = srt b y := by
  have hc := cyN_clo ok
  have h1 : lp b (y + cyN b) = lp b y := by
    unfold lp isL
    by_cases e : 0 < b 10
    · rw [Int.add_emod, hc.2.1 e, Int.add_zero, Int.emod_emod]
    · simp [e]
  have h2 : psc b (y + cyN b) = psc b y := by
    have e1 : wdy b (y + cyN b) = wdy b y := by
      unfold wdy
      obtain ⟨c, hcc⟩ := lpy_dvd ok hc.2.1
      have e2 := ahd_per ok (y := y) c
      rw [← hcc] at e2
      rw [e2, Int.add_emod, hc.2.2, Int.add_zero, Int.emod_emod]
    have e3 : ful b (y + cyN b) = ful b y := by
      unfold ful
      rw [Int.add_emod y, hc.1, Int.add_zero, Int.emod_emod]
    unfold psc
    rw [e1, e3]
  refine ⟨h1, h2, ?_⟩
  unfold srt
  rw [h1, h2]
theorem c_common (hN : 100 < N) {a c : Nat} (ha : 0 < a) (ha2 : a < 10000000) (hc : c ≤ 9) : M_Su_common N a c = some (Nat.gcd a c : Int) := by
  have := lp_gen (fun n (s : Int × Int × Int) => Su_common_L7 N n s.1 s.2.1 s.2.2) (fun s => s.2.1.toNat) (fun s => ∃ x y : Nat, s.1 = x ∧ s.2.1 = y ∧ Nat.gcd x y = Nat.gcd a c ∧ 0 ≤ s.2.2 ∧ s.2.2 + y ≤ 20 ∧ (0 < x) ∧ x < 10000000 ∧ y ≤ 9) (fun r => r = (Nat.gcd a c : Int))
    (fun n s hs => by
      obtain ⟨s1, s2, s3⟩ := s
      obtain ⟨x, y, e1, e2, e3, e4, e5, e6, e7, e8⟩ := hs
      dsimp only at e1 e2 e4 e5
      subst e1 e2
      by_cases c0 : y = 0
      · subst c0
        refine Or.inr ⟨x, ?_, by rw [← e3, Nat.gcd_zero_right]⟩
        dsimp only
        rw [Su_common_L7, pu_mx (by omega) (by omega) (by omega) (by omega)]
        simp (disch := omega) only [leb_iff, ltb_iff, eqb_iff, pu_rmP, pu_dvP, pu_bs, pu_b0, pu_b1, pu_c0, pu_c1, pu_lt, pu_rdN, pu_wrN, hs_at, hs_cell, hs_slot, if_true, if_false, true_and, and_true, pu_rd, pu_wr, Int.reduceToNat, Int.toNat_natCast, decide_eq_true_eq, Int.add_zero, Bool.false_eq_true, if_pos, if_neg]
        congr 1; omega
      · have hlt : x % y < y := Nat.mod_lt _ (by omega)
        refine Or.inl ⟨((y : Int), ((x % y : Nat) : Int), s3 + 1), ⟨y, x % y, rfl, rfl, ?_, by dsimp only; omega, by dsimp only; omega, by omega, by omega, by omega⟩, by dsimp only; omega, ?_⟩
        · rw [← e3, Nat.gcd_comm y, ← Nat.gcd_rec, Nat.gcd_comm]
        · dsimp only
          rw [Su_common_L7]
          simp (disch := omega) only [leb_iff, ltb_iff, eqb_iff, pu_rmP, pu_dvP, pu_bs, pu_b0, pu_b1, pu_c0, pu_c1, pu_lt, pu_rdN, pu_wrN, hs_at, hs_cell, hs_slot, if_true, if_false, true_and, and_true, pu_rd, pu_wr, Int.reduceToNat, Int.toNat_natCast, decide_eq_true_eq, Int.add_zero, Bool.false_eq_true, if_pos, if_neg]
          rw [Int.natCast_emod]) N (a, c, 0) (by dsimp only; omega) ⟨a, c, rfl, rfl, rfl, by dsimp only; omega, by dsimp only; omega, ha, ha2, hc⟩
  obtain ⟨r, e1, e2⟩ := this
  rw [← e2]; exact e1
theorem c_years (hN : 100 < N) (ok : OkB b) (cb : CB b h 23) : M_Book_yearsOfCycle N h 23 = some (cyN b : Int) := by
  have h1 := lpy_bd ok
  have h2 := ok.cyc
  have h3 := ok.leap
  have hw := ok.week
  have hA := cyA ok
  have hc1 := cy1_bd ok
  unfold M_Book_yearsOfCycle
  rw [cb.cyc, cb.leap, cb.week, pu_mx (by omega) (by omega) (by omega) (by omega)]
  have e1 : max (b 10) 1 = (lpy b : Int) := by unfold lpy; omega
  have e2 : b 12 = (((b 12).toNat : Nat) : Int) := by omega
  have e3 : b 0 = (((b 0).toNat : Nat) : Int) := by omega
  rw [e1, e2, c_common hN (by omega) (by omega) (by omega), Option.bind_some]
  have g1 : 0 < Nat.gcd (b 12).toNat (lpy b) := Nat.gcd_pos_of_pos_left _ (by omega)
  have g2 : Nat.gcd (b 12).toNat (lpy b) ≤ (b 12).toNat := Nat.le_of_dvd (by omega) (Nat.gcd_dvd_left _ _)
  rw [pu_dvP (by omega) (by omega) (by omega) (by omega), Option.bind_some]
  have e4 : (((b 12).toNat : Nat) : Int) / ((Nat.gcd (b 12).toNat (lpy b) : Nat) : Int) * (lpy b : Int) = (cy1 b : Int) := by
    unfold cy1; rw [Int.natCast_mul, Int.natCast_ediv]
  rw [e4, c_daysAhead ok cb (by omega) (by omega), Option.bind_some, ← hA.2.1, e3, c_common hN hA.1 (by omega) (by omega), Option.bind_some]
  have g3 : 0 < Nat.gcd (ahd b (cy1 b)).toNat (b 0).toNat := Nat.gcd_pos_of_pos_left _ hA.1
  have g4 : Nat.gcd (ahd b (cy1 b)).toNat (b 0).toNat ≤ (b 0).toNat := Nat.le_of_dvd (by omega) (Nat.gcd_dvd_right _ _)
  rw [pu_dvP (by omega) (by omega) (by omega) (by omega), Option.bind_some]
  unfold cyN
  rw [Int.natCast_mul, Int.natCast_ediv]
theorem m_cycle0 (hN : 2000 < N) (ok : OkB b) (hb : h 84 = b) : M_Md_cycle0 N h = some (cyN b : Int) := by
  have hw := ok.week
  have hcy := ok.cyc
  have hle := ok.leap
  have hbd := cyN_bd ok
  have ok' : OkB (h 84) := by rw [hb]; exact ok
  have e0 := m_lengthOf (h := h) (N := N) (by omega) ok' (y := 0) (by omega) (by omega)
  unfold M_Md_cycle0
  rw [e0, Option.bind_some, hb]
  have s1 : yd b + lp b 0 = ahd b 1 := by
    have := ahd_succ ok (y := 0) (by omega)
    rw [Int.zero_add, ahd_zero ok] at this; omega
  rw [s1]
  have := lp_fold (fun n k a => Md_cycle0_L8 N h n (k + 1) a) (fun k => ahd b ((k : Int) + 1)) (cyN b : Int) (cyN b - 1)
    (fun n k hk => by
      have hlen := m_lengthOf (h := h) (N := N) (by omega) ok' (y := (k : Int) + 1) (by omega) (by omega)
      rw [hb] at hlen
      have ha := ahd_le ok (y := (k : Int) + 1) (by omega) (by omega)
      have hsu := ahd_succ ok (y := (k : Int) + 1) (by omega)
      have hno : ¬ Clo b (k + 1) := fun x => by have := cyN_min ok (by omega) x; omega
      unfold Clo at hno
      rw [Int.natCast_add, Int.natCast_one] at hno
      have m1 := Int.emod_nonneg ((k : Int) + 1) (show b 12 ≠ 0 by omega)
      have m2 := Int.emod_lt_of_pos ((k : Int) + 1) (show 0 < b 12 by omega)
      have m5 := Int.emod_nonneg (ahd b ((k : Int) + 1)) (show b 0 ≠ 0 by omega)
      have m6 := Int.emod_lt_of_pos (ahd b ((k : Int) + 1)) (show 0 < b 0 by omega)
      (try dsimp only)
      rw [Md_cycle0_L8, show (((k + 1 : Nat) : Int) + 1) = (k : Int) + 1 + 1 by omega, hsu]
      by_cases c1 : ((k : Int) + 1) % b 12 = 0
      · by_cases c2 : 0 < b 10
        · have m3 := Int.emod_nonneg ((k : Int) + 1) (show b 10 ≠ 0 by omega)
          have m4 := Int.emod_lt_of_pos ((k : Int) + 1) (show 0 < b 10 by omega)
          by_cases c3 : ((k : Int) + 1) % b 10 = 0
          · have c4 : ¬ ahd b ((k : Int) + 1) % b 0 = 0 := fun x => hno ⟨c1, fun _ => c3, x⟩
            simp (disch := omega) only [leb_iff, ltb_iff, eqb_iff, pu_rmP, pu_dvP, pu_bs, pu_b0, pu_b1, pu_c0, pu_c1, pu_lt, pu_rdN, pu_wrN, hs_at, hs_cell, hs_slot, if_true, if_false, true_and, and_true, pu_rd, pu_wr, Int.reduceToNat, Int.toNat_natCast, decide_eq_true_eq, Int.add_zero, Bool.false_eq_true, if_pos, if_neg, hb, hlen]
          · simp (disch := omega) only [leb_iff, ltb_iff, eqb_iff, pu_rmP, pu_dvP, pu_bs, pu_b0, pu_b1, pu_c0, pu_c1, pu_lt, pu_rdN, pu_wrN, hs_at, hs_cell, hs_slot, if_true, if_false, true_and, and_true, pu_rd, pu_wr, Int.reduceToNat, Int.toNat_natCast, decide_eq_true_eq, Int.add_zero, Bool.false_eq_true, if_pos, if_neg, hb, hlen]
        · have c4 : ¬ ahd b ((k : Int) + 1) % b 0 = 0 := fun x => hno ⟨c1, fun y => absurd y c2, x⟩
          simp (disch := omega) only [leb_iff, ltb_iff, eqb_iff, pu_rmP, pu_dvP, pu_bs, pu_b0, pu_b1, pu_c0, pu_c1, pu_lt, pu_rdN, pu_wrN, hs_at, hs_cell, hs_slot, if_true, if_false, true_and, and_true, pu_rd, pu_wr, Int.reduceToNat, Int.toNat_natCast, decide_eq_true_eq, Int.add_zero, Bool.false_eq_true, if_pos, if_neg, hb, hlen]
      · simp (disch := omega) only [leb_iff, ltb_iff, eqb_iff, pu_rmP, pu_dvP, pu_bs, pu_b0, pu_b1, pu_c0, pu_c1, pu_lt, pu_rdN, pu_wrN, hs_at, hs_cell, hs_slot, if_true, if_false, true_and, and_true, pu_rd, pu_wr, Int.reduceToNat, Int.toNat_natCast, decide_eq_true_eq, Int.add_zero, Bool.false_eq_true, if_pos, if_neg, hb, hlen])
    (fun n => by
      have hc := cyN_clo ok
      have e1 : (((cyN b - 1 : Nat) : Int) + 1) = (cyN b : Int) := by omega
      have ha := ahd_le ok (y := (cyN b : Int)) (by omega) (by omega)
      unfold Clo at hc
      (try dsimp only)
      rw [Md_cycle0_L8, e1]
      by_cases c2 : 0 < b 10
      · have c3 := hc.2.1 c2
        simp (disch := omega) only [leb_iff, ltb_iff, eqb_iff, pu_rmP, pu_dvP, pu_bs, pu_b0, pu_b1, pu_c0, pu_c1, pu_lt, pu_rdN, pu_wrN, hs_at, hs_cell, hs_slot, if_true, if_false, true_and, and_true, pu_rd, pu_wr, Int.reduceToNat, Int.toNat_natCast, decide_eq_true_eq, Int.add_zero, Bool.false_eq_true, if_pos, if_neg, hb, hc.1, c3, hc.2.2]
      · simp (disch := omega) only [leb_iff, ltb_iff, eqb_iff, pu_rmP, pu_dvP, pu_bs, pu_b0, pu_b1, pu_c0, pu_c1, pu_lt, pu_rdN, pu_wrN, hs_at, hs_cell, hs_slot, if_true, if_false, true_and, and_true, pu_rd, pu_wr, Int.reduceToNat, Int.toNat_natCast, decide_eq_true_eq, Int.add_zero, Bool.false_eq_true, if_pos, if_neg, hb, hc.1, hc.2.2]) N 0 (by omega) (by omega)
  exact this
end Cy
