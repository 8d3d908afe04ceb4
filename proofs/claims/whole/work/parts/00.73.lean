section Fd
variable {h : Hp} {N L : Nat} {xs : Nat → Int32} {v4 : Int}
def byt (v s : Int) : Int := i2bI (i2bI (shrI v s))
def tst (h : Hp) (v s : Int) : Hp := hs (hs h 2 (h 1 1).toNat (byt v s)) 1 1 (h 1 1 + 1)
theorem c_addS {n : Nat} {v s : Int} (h0 : 0 ≤ h 1 1) (h1 : h 1 1 < 400) (hs0 : 0 ≤ s ∧ s ≤ 24) : Tape_add_L3 N v (n + 1) s h = Tape_add_L3 N v n (s + (-8)) (tst h v s) := by
  rw [Tape_add_L3, if_neg (by rw [ltb_iff (by omega) (by omega) (by omega) (by omega)]; omega), if_neg (by rw [leb_iff (by omega) (by omega) (by omega) (by omega)]; omega), pu_wr (by omega) (by omega), pu_bs, pu_lt, hs_cell (by omega)]
  rfl
theorem tst_1 {v s : Int} : tst h v s 1 1 = h 1 1 + 1 := by unfold tst; rw [hs_at]
theorem tst_c {v s : Int} : (∀ c, c ≠ 1 → c ≠ 2 → tst h v s c = h c) ∧ (∀ q, q ≠ (h 1 1).toNat → tst h v s 2 q = h 2 q) ∧ tst h v s 2 (h 1 1).toNat = byt v s := by
  unfold tst
  exact ⟨fun c c1 c2 => by rw [hs_cell c1, hs_cell c2], fun q hq => by rw [hs_cell (by omega), hs_slot hq], by rw [hs_cell (by omega), hs_at]⟩
theorem c_add {s : Nat} {v : Int} (hN : 100 < N) (h0 : h 1 1 = (s : Int)) (h1 : s + 4 ≤ 400) : ∃ h', M_Tape_add N h v = some h' ∧ (∀ c, c ≠ 1 → c ≠ 2 → h' c = h c) ∧ h' 1 1 = ((s + 4 : Nat) : Int) ∧ (∀ q, q < s → h' 2 q = h 2 q) ∧ (∀ t : Nat, t < 4 → h' 2 (s + t) = byt v (24 - 8 * (t : Int))) := by
  obtain ⟨n, rfl⟩ : ∃ n, N = n + 5 := ⟨N - 5, by omega⟩
  unfold M_Tape_add
  generalize hM : n + 5 = M
  rw [← hM, c_addS (by omega) (by omega) (by omega)]
  have a1 := tst_1 (h := h) (v := v) (s := 24)
  have a2 := tst_c (h := h) (v := v) (s := 24)
  generalize tst h v 24 = A at *
  rw [c_addS (by omega) (by omega) (by omega)]
  have b1 := tst_1 (h := A) (v := v) (s := 24 + -8)
  have b2 := tst_c (h := A) (v := v) (s := 24 + -8)
  generalize tst A v (24 + -8) = B at *
  rw [c_addS (by omega) (by omega) (by omega)]
  have c1 := tst_1 (h := B) (v := v) (s := 24 + -8 + -8)
  have c2 := tst_c (h := B) (v := v) (s := 24 + -8 + -8)
  generalize tst B v (24 + -8 + -8) = C at *
  rw [c_addS (by omega) (by omega) (by omega)]
  have d1 := tst_1 (h := C) (v := v) (s := 24 + -8 + -8 + -8)
  have d2 := tst_c (h := C) (v := v) (s := 24 + -8 + -8 + -8)
  generalize tst C v (24 + -8 + -8 + -8) = D at *
  rw [Tape_add_L3, if_pos (by rw [ltb_iff (by omega) (by omega) (by omega) (by omega)]; omega)]
  have ea : (h 1 1).toNat = s := by omega
  have eb : (A 1 1).toNat = s + 1 := by omega
  have ec : (B 1 1).toNat = s + 2 := by omega
  have ed : (C 1 1).toNat = s + 3 := by omega
  rw [ea] at a2
  rw [eb] at b2
  rw [ec] at c2
  rw [ed] at d2
  refine ⟨D, rfl, fun c x1 x2 => by rw [d2.1 c x1 x2, c2.1 c x1 x2, b2.1 c x1 x2, a2.1 c x1 x2], by omega, fun q hq => by rw [d2.2.1 q (by omega), c2.2.1 q (by omega), b2.2.1 q (by omega), a2.2.1 q (by omega)], fun t ht => ?_⟩
  have : t = 0 ∨ t = 1 ∨ t = 2 ∨ t = 3 := by omega
  rcases this with e | e | e | e
  · subst e; rw [d2.2.1 _ (by omega), c2.2.1 _ (by omega), b2.2.1 _ (by omega)]; exact a2.2.2
  · subst e; rw [d2.2.1 _ (by omega), c2.2.1 _ (by omega)]; exact b2.2.2
  · subst e; rw [d2.2.1 _ (by omega)]; exact c2.2.2
  · subst e; exact d2.2.2
def wdT (a1 a2 a3 a4 a5 : Int) (t : Nat) : Int := if t < 4 then a1 else if t < 8 then a2 else if t < 12 then a3 else if t < 16 then a4 else a5
def shT (t : Nat) : Int := 24 - 8 * ((t % 4 : Nat) : Int)
theorem shT_ok (t : Nat) : shT t = 0 ∨ shT t = 8 ∨ shT t = 16 ∨ shT t = 24 := by unfold shT; omega
theorem c_feed {s : Nat} {a1 a2 a3 a4 a5 : Int} (hN : 100 < N) (h0 : h 1 1 = (s : Int)) (h1 : s + 20 ≤ 400) : ∃ h', M_FB_feed N h a1 a2 a3 a4 a5 = some (((s + 20 : Nat) : Int), h') ∧ (∀ c, c ≠ 1 → c ≠ 2 → h' c = h c) ∧ h' 1 1 = ((s + 20 : Nat) : Int) ∧ (∀ q, q < s → h' 2 q = h 2 q) ∧ (∀ t : Nat, t < 20 → h' 2 (s + t) = byt (wdT a1 a2 a3 a4 a5 t) (shT t)) := by
  have hr : M_Tape_hasRoom h = some 1 := by unfold M_Tape_hasRoom; rw [h0]; simp (disch := omega) only [leb_iff, ltb_iff, eqb_iff, pu_rmP, pu_dvP, pu_bs, pu_b0, pu_b1, pu_c0, pu_c1, pu_lt, pu_rdN, pu_wrN, hs_at, hs_cell, hs_slot, if_true, if_false, true_and, and_true, pu_rd, pu_wr, Int.reduceToNat, Int.toNat_natCast, decide_eq_true_eq, Int.add_zero, Bool.false_eq_true, if_pos, if_neg]
  unfold M_FB_feed
  rw [hr, pu_bs, if_neg ne10]
  obtain ⟨g1, e1, f1, s1, o1, b1⟩ := c_add (h := h) (s := s) (v := a1) hN h0 (by omega)
  rw [e1, pu_bs]
  obtain ⟨g2, e2, f2, s2, o2, b2⟩ := c_add (h := g1) (s := s + 4) (v := a2) hN s1 (by omega)
  rw [e2, pu_bs]
  obtain ⟨g3, e3, f3, s3, o3, b3⟩ := c_add (h := g2) (s := s + 4 + 4) (v := a3) hN s2 (by omega)
  rw [e3, pu_bs]
  obtain ⟨g4, e4, f4, s4, o4, b4⟩ := c_add (h := g3) (s := s + 4 + 4 + 4) (v := a4) hN s3 (by omega)
  rw [e4, pu_bs]
  obtain ⟨g5, e5, f5, s5, o5, b5⟩ := c_add (h := g4) (s := s + 4 + 4 + 4 + 4) (v := a5) hN s4 (by omega)
  rw [e5, pu_bs, s5]
  refine ⟨g5, rfl, fun c x1 x2 => by rw [f5 c x1 x2, f4 c x1 x2, f3 c x1 x2, f2 c x1 x2, f1 c x1 x2], s5, fun q hq => by rw [o5 q (by omega), o4 q (by omega), o3 q (by omega), o2 q (by omega), o1 q hq], fun t ht => ?_⟩
  unfold wdT
  by_cases c1 : t < 4
  · rw [if_pos c1, o5 _ (by omega), o4 _ (by omega), o3 _ (by omega), o2 _ (by omega), b1 t c1]
    unfold shT; rw [show t % 4 = t by omega]
  · rw [if_neg c1]
    by_cases c2 : t < 8
    · rw [if_pos c2, o5 _ (by omega), o4 _ (by omega), o3 _ (by omega), show s + t = s + 4 + (t - 4) by omega, b2 _ (by omega)]
      unfold shT; rw [show t % 4 = t - 4 by omega]
    · rw [if_neg c2]
      by_cases c3 : t < 12
      · rw [if_pos c3, o5 _ (by omega), o4 _ (by omega), show s + t = s + 4 + 4 + (t - 8) by omega, b3 _ (by omega)]
        unfold shT; rw [show t % 4 = t - 8 by omega]
      · rw [if_neg c3]
        by_cases c4 : t < 16
        · rw [if_pos c4, o5 _ (by omega), show s + t = s + 4 + 4 + 4 + (t - 12) by omega, b4 _ (by omega)]
          unfold shT; rw [show t % 4 = t - 12 by omega]
        · rw [if_neg c4, show s + t = s + 4 + 4 + 4 + 4 + (t - 16) by omega, b5 _ (by omega)]
          unfold shT; rw [show t % 4 = t - 16 by omega]
theorem m_feed {g : Hp} {s : Nat} {a1 a2 a3 a4 a5 : Int} (hN : 100 < N) (h0 : g 83 7 = (s : Int)) (h1 : s + 20 ≤ 400) : ∃ r : Int × Hp, Md_feed_L23 N a1 a2 a3 a4 a5 N 0 g = some r ∧ r.1 = ((s + 20 : Nat) : Int) ∧ (∀ c, c ≠ 83 → c ≠ 87 → r.2 c = g c) ∧ (∀ j, j ≠ 7 → r.2 83 j = g 83 j) ∧ r.2 83 7 = ((s + 20 : Nat) : Int) ∧ (∀ q, q < s → r.2 87 q = g 87 q) ∧ (∀ t : Nat, t < 20 → r.2 87 (s + t) = andI (ushrI (wdT a1 a2 a3 a4 a5 t) (shT t)) 255) :=
  lp_inv (fun n k x => Md_feed_L23 N a1 a2 a3 a4 a5 n k x) (fun k x => (∀ c, c ≠ 83 → c ≠ 87 → x c = g c) ∧ (∀ j, j ≠ 7 → x 83 j = g 83 j) ∧ x 83 7 = ((s + k : Nat) : Int) ∧ (∀ q, q < s → x 87 q = g 87 q) ∧ (∀ t : Nat, t < k → x 87 (s + t) = andI (ushrI (wdT a1 a2 a3 a4 a5 t) (shT t)) 255))
    (fun r : Int × Hp => r.1 = ((s + 20 : Nat) : Int) ∧ (∀ c, c ≠ 83 → c ≠ 87 → r.2 c = g c) ∧ (∀ j, j ≠ 7 → r.2 83 j = g 83 j) ∧ r.2 83 7 = ((s + 20 : Nat) : Int) ∧ (∀ q, q < s → r.2 87 q = g 87 q) ∧ (∀ t : Nat, t < 20 → r.2 87 (s + t) = andI (ushrI (wdT a1 a2 a3 a4 a5 t) (shT t)) 255)) 20
    (fun n k x hk hp => by
      obtain ⟨k1, k2, k3, k4, k5⟩ := hp
      refine Or.inl ⟨hs (hs x 87 (s + k) (andI (ushrI (wdT a1 a2 a3 a4 a5 k) (shT k)) 255)) 83 7 ((s + k : Nat) + 1 : Int), ⟨fun c c1 c2 => by rw [hs_cell c1, hs_cell c2]; exact k1 c c1 c2, fun j hj => by rw [hs_slot hj, hs_cell (by omega)]; exact k2 j hj, by rw [hs_at]; omega, fun q hq => by rw [hs_cell (by omega), hs_slot (by omega)]; exact k4 q hq, fun t ht => ?_⟩, ?_⟩
      · rw [hs_cell (by omega)]
        by_cases e : t = k
        · subst e; rw [hs_at]
        · rw [hs_slot (by omega)]; exact k5 t (by omega)
      · (try dsimp only)
        have esh : (24 : Int) - 8 * ((k : Int) % 4) = shT k := by unfold shT; omega
        have core : ∀ v : Int, v = wdT a1 a2 a3 a4 a5 k → (rmI (k : Int) 4).bind (fun x3 => (wrA x 87 400 (x 83 7) (andI (ushrI v (24 - (8 * x3))) 255)).bind (fun h4 => lt' (hs h4 83 7 ((h4 83 7) + 1)) (fun h5 => Md_feed_L23 N a1 a2 a3 a4 a5 n ((k : Int) + 1) h5))) = Md_feed_L23 N a1 a2 a3 a4 a5 n ((k : Int) + 1) (hs (hs x 87 (s + k) (andI (ushrI (wdT a1 a2 a3 a4 a5 k) (shT k)) 255)) 83 7 ((s + k : Nat) + 1 : Int)) := fun v hv => by
          rw [pu_rmP (by omega) (by omega) (by omega) (by omega), pu_bs, k3, pu_wrN (by omega), pu_bs, pu_lt, hs_cell (by omega), k3, esh, hv]
        rw [Md_feed_L23, pu_lt, if_neg (by rw [leb_iff (by omega) (by omega) (by omega) (by omega)]; omega)]
        by_cases c1 : k < 4
        · rw [if_neg (by rw [leb_iff (by omega) (by omega) (by omega) (by omega)]; omega)]
          exact core a1 (by unfold wdT; rw [if_pos c1])
        · rw [if_pos (by rw [leb_iff (by omega) (by omega) (by omega) (by omega)]; omega)]
          by_cases c2 : k < 8
          · rw [if_neg (by rw [leb_iff (by omega) (by omega) (by omega) (by omega)]; omega)]
            exact core a2 (by unfold wdT; rw [if_neg c1, if_pos c2])
          · rw [if_pos (by rw [leb_iff (by omega) (by omega) (by omega) (by omega)]; omega)]
            by_cases c3 : k < 12
            · rw [if_neg (by rw [leb_iff (by omega) (by omega) (by omega) (by omega)]; omega)]
              exact core a3 (by unfold wdT; rw [if_neg c1, if_neg c2, if_pos c3])
            · rw [if_pos (by rw [leb_iff (by omega) (by omega) (by omega) (by omega)]; omega)]
              by_cases c4 : k < 16
              · rw [if_neg (by rw [leb_iff (by omega) (by omega) (by omega) (by omega)]; omega)]
                exact core a4 (by unfold wdT; rw [if_neg c1, if_neg c2, if_neg c3, if_pos c4])
              · rw [if_pos (by rw [leb_iff (by omega) (by omega) (by omega) (by omega)]; omega)]
                exact core a5 (by unfold wdT; rw [if_neg c1, if_neg c2, if_neg c3, if_neg c4]))
    (fun n x hp => by
      obtain ⟨k1, k2, k3, k4, k5⟩ := hp
      refine ⟨(((s + 20 : Nat) : Int), x), ?_, rfl, k1, k2, k3, k4, k5⟩
      (try dsimp only)
      rw [Md_feed_L23, if_pos (by rw [leb_iff (by omega) (by omega) (by omega) (by omega)]; omega), k3]) N 0 g (by omega) (by omega) ⟨fun _ _ _ => rfl, fun _ _ => rfl, h0, fun _ _ => rfl, fun t ht => by omega⟩
theorem k_feed (hN : 7000 < N) (i : Inv h) (hv : 0 ≤ v4 ∧ v4 + 6 ≤ L) (k : Hp → Option Int) : ∃ h', Inv h' ∧ Lw_case_0 N L xs v4 h k = k h' := by
  unfold Lw_case_0
  simp (disch := omega) only [rdX_ok hv, pu_bs]
  generalize px xs v4 1 = a1 at *
  generalize px xs v4 2 = a2 at *
  generalize px xs v4 3 = a3 at *
  generalize px xs v4 4 = a4 at *
  generalize px xs v4 5 = a5 at *
  have sz := i.tp.sz
  have lo := i.tp.lo
  have hi := i.tp.hi
  obtain ⟨s, es⟩ : ∃ s : Nat, h 83 7 = (s : Int) := ⟨(h 83 7).toNat, by omega⟩
  by_cases c : s + 20 ≤ 400
  · obtain ⟨C, e1, e2, e3, e4, e5⟩ := c_feed (h := h) (N := N) (s := s) (a1 := a1) (a2 := a2) (a3 := a3) (a4 := a4) (a5 := a5) (by omega) (by omega) c
    have C83 : C 83 = h 83 := e2 83 (by omega) (by omega)
    obtain ⟨r, r1, r2, r3, r4, r5, r6, r7⟩ := m_feed (g := hs C 83 0 0) (N := N) (s := s) (a1 := a1) (a2 := a2) (a3 := a3) (a4 := a4) (a5 := a5) (by omega) (by rw [hs_slot (by omega), C83]; exact es) c
    have eR : M_Md_feed N C a1 a2 a3 a4 a5 = some r := by
      unfold M_Md_feed
      rw [pu_lt, hs_slot (by omega), C83, es, if_pos (by rw [leb_iff (by omega) (by omega) (by omega) (by omega)]; omega)]
      exact r1
    have q : ∀ c, c ≠ 1 → c ≠ 2 → c ≠ 83 → c ≠ 87 → r.2 c = h c := fun c c1 c2 c3 c4 => by rw [r3 c c3 c4, hs_cell c3, e2 c c1 c2]
    have qj : ∀ j, j ≠ 0 → j ≠ 7 → r.2 83 j = h 83 j := fun j j1 j2 => by rw [r4 j j2, hs_slot j1, C83]
    have q1 : r.2 1 = C 1 := by rw [r3 1 (by omega) (by omega), hs_cell (by omega)]
    have q2 : r.2 2 = C 2 := by rw [r3 2 (by omega) (by omega), hs_cell (by omega)]
    refine ⟨r.2, Inv_tp i (fun c c1 c2 c3 c4 => q c (by omega) (by omega) c3 (by omega)) (qj 3 (by omega) (by omega)) (qj 5 (by omega) (by omega)) (Tp.mk ?_ ?_ ?_ ?_) (qj 10 (by omega) (by omega)), ?_⟩
    · rw [q1, e3, r5]
    · rw [r5]; omega
    · rw [r5]; omega
    · rw [r5, q2]
      intro j hj
      by_cases c2 : j < s
      · rw [r6 j c2, e4 j c2, hs_cell (by omega), e2 87 (by omega) (by omega)]
        exact i.tp.by_ j (by omega)
      · rw [show j = s + (j - s) by omega, r7 (j - s) (by omega), e5 (j - s) (by omega)]
        exact byt_eq _ (shT_ok _)
    · rw [e1, pu_bs]
      dsimp only
      rw [eR, pu_bs, r2]
      simp (disch := omega) only [leb_iff, ltb_iff, eqb_iff, pu_rmP, pu_dvP, pu_bs, pu_b0, pu_b1, pu_c0, pu_c1, pu_lt, pu_rdN, pu_wrN, hs_at, hs_cell, hs_slot, if_true, if_false, true_and, and_true, pu_rd, pu_wr, Int.reduceToNat, Int.toNat_natCast, decide_eq_true_eq, Int.add_zero, Bool.false_eq_true, if_pos, if_neg]
  · have eC : M_FB_feed N h a1 a2 a3 a4 a5 = some (-1, h) := by
      unfold M_FB_feed M_Tape_hasRoom
      rw [sz, es]
      simp (disch := omega) only [leb_iff, ltb_iff, eqb_iff, pu_rmP, pu_dvP, pu_bs, pu_b0, pu_b1, pu_c0, pu_c1, pu_lt, pu_rdN, pu_wrN, hs_at, hs_cell, hs_slot, if_true, if_false, true_and, and_true, pu_rd, pu_wr, Int.reduceToNat, Int.toNat_natCast, decide_eq_true_eq, Int.add_zero, Bool.false_eq_true, if_pos, if_neg]
    have eR : M_Md_feed N h a1 a2 a3 a4 a5 = some (-1, hs h 83 0 0) := by
      unfold M_Md_feed
      rw [pu_lt, hs_slot (by omega), es, if_neg (by rw [leb_iff (by omega) (by omega) (by omega) (by omega)]; omega)]
    refine ⟨hs h 83 0 0, Fz_thrown.inv i, ?_⟩
    rw [eC, pu_bs, eR, pu_bs]
    simp (disch := omega) only [leb_iff, ltb_iff, eqb_iff, pu_rmP, pu_dvP, pu_bs, pu_b0, pu_b1, pu_c0, pu_c1, pu_lt, pu_rdN, pu_wrN, hs_at, hs_cell, hs_slot, if_true, if_false, true_and, and_true, pu_rd, pu_wr, Int.reduceToNat, Int.toNat_natCast, decide_eq_true_eq, Int.add_zero, Bool.false_eq_true, if_pos, if_neg]
end Fd
