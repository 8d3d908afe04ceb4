def Zi (C0 M0 : Hp) : Prop := (M0 83 12 = 0) ∧ (M0 88 16 = 20) ∧ (M0 88 18 = 5) ∧ (∀ k, 17 ≤ k → k < 127 → k ≠ 18 → M0 88 k = 0) ∧ (C0 4 10 = 20) ∧ (C0 4 11 = 0) ∧ (C0 4 12 = 5) ∧ (C0 4 13 = 0) ∧ (C0 6 0 = 0) ∧ (C0 10 0 = 0) ∧ (C0 14 0 = 0) ∧ (C0 3 5 = 0 ∧ C0 3 6 = 0 ∧ C0 3 7 = 0)
theorem Zi.w12 {C0 M0 : Hp} (q_ : Zi C0 M0) : M0 83 12 = 0 := q_.1
theorem Zi.b16 {C0 M0 : Hp} (q_ : Zi C0 M0) : M0 88 16 = 20 := q_.2.1
theorem Zi.b18 {C0 M0 : Hp} (q_ : Zi C0 M0) : M0 88 18 = 5 := q_.2.2.1
theorem Zi.bz {C0 M0 : Hp} (q_ : Zi C0 M0) : ∀ k, 17 ≤ k → k < 127 → k ≠ 18 → M0 88 k = 0 := q_.2.2.2.1
theorem Zi.c10 {C0 M0 : Hp} (q_ : Zi C0 M0) : C0 4 10 = 20 := q_.2.2.2.2.1
theorem Zi.c11 {C0 M0 : Hp} (q_ : Zi C0 M0) : C0 4 11 = 0 := q_.2.2.2.2.2.1
theorem Zi.c12 {C0 M0 : Hp} (q_ : Zi C0 M0) : C0 4 12 = 5 := q_.2.2.2.2.2.2.1
theorem Zi.c13 {C0 M0 : Hp} (q_ : Zi C0 M0) : C0 4 13 = 0 := q_.2.2.2.2.2.2.2.1
theorem Zi.s6 {C0 M0 : Hp} (q_ : Zi C0 M0) : C0 6 0 = 0 := q_.2.2.2.2.2.2.2.2.1
theorem Zi.s10 {C0 M0 : Hp} (q_ : Zi C0 M0) : C0 10 0 = 0 := q_.2.2.2.2.2.2.2.2.2.1
theorem Zi.s14 {C0 M0 : Hp} (q_ : Zi C0 M0) : C0 14 0 = 0 := q_.2.2.2.2.2.2.2.2.2.2.1
theorem Zi.fl {C0 M0 : Hp} (q_ : Zi C0 M0) : C0 3 5 = 0 ∧ C0 3 6 = 0 ∧ C0 3 7 = 0 := q_.2.2.2.2.2.2.2.2.2.2.2
theorem Zi.mk {C0 M0 : Hp} (w12_ : M0 83 12 = 0) (b16_ : M0 88 16 = 20) (b18_ : M0 88 18 = 5) (bz_ : ∀ k, 17 ≤ k → k < 127 → k ≠ 18 → M0 88 k = 0) (c10_ : C0 4 10 = 20) (c11_ : C0 4 11 = 0) (c12_ : C0 4 12 = 5) (c13_ : C0 4 13 = 0) (s6_ : C0 6 0 = 0) (s10_ : C0 10 0 = 0) (s14_ : C0 14 0 = 0) (fl_ : C0 3 5 = 0 ∧ C0 3 6 = 0 ∧ C0 3 7 = 0) : Zi C0 M0 := ⟨w12_, b16_, b18_, bz_, c10_, c11_, c12_, c13_, s6_, s10_, s14_, fl_⟩
def Mf (n : Nat) (C0 M0 C M : Hp) : Prop := (Hd n C0 M0 C M) ∧ (1 ≤ n ∧ n ≤ 8) ∧ ((M 88 10 = 0 ∨ (2 ≤ M 88 10 ∧ M 88 10 ≤ 9)) ∧ C 4 4 = M 88 10) ∧ (0 ≤ M 88 11 ∧ M 88 11 < (n : Int) ∧ C 4 5 = M 88 11)
theorem Mf.hd {n : Nat} {C0 M0 C M : Hp} (q_ : Mf n C0 M0 C M) : Hd n C0 M0 C M := q_.1
theorem Mf.nn {n : Nat} {C0 M0 C M : Hp} (q_ : Mf n C0 M0 C M) : 1 ≤ n ∧ n ≤ 8 := q_.2.1
theorem Mf.lp {n : Nat} {C0 M0 C M : Hp} (q_ : Mf n C0 M0 C M) : (M 88 10 = 0 ∨ (2 ≤ M 88 10 ∧ M 88 10 ≤ 9)) ∧ C 4 4 = M 88 10 := q_.2.2.1
theorem Mf.lm {n : Nat} {C0 M0 C M : Hp} (q_ : Mf n C0 M0 C M) : 0 ≤ M 88 11 ∧ M 88 11 < (n : Int) ∧ C 4 5 = M 88 11 := q_.2.2.2
theorem Mf.mk {n : Nat} {C0 M0 C M : Hp} (hd_ : Hd n C0 M0 C M) (nn_ : 1 ≤ n ∧ n ≤ 8) (lp_ : (M 88 10 = 0 ∨ (2 ≤ M 88 10 ∧ M 88 10 ≤ 9)) ∧ C 4 4 = M 88 10) (lm_ : 0 ≤ M 88 11 ∧ M 88 11 < (n : Int) ∧ C 4 5 = M 88 11) : Mf n C0 M0 C M := ⟨hd_, nn_, lp_, lm_⟩
section Ls2
variable {t : Nat → Int} {E : Nat} {C M C0 M0 : Hp} {N : Nat}
theorem Kp_init (Z : Zi C0 M0) (fm : FrH M0 M) (fc : FrHC C0 C) (a : PMon (M 88) C) (b : PMoo (M 88) C) : Kp (M 88) C (M 83 12) := by
  have z : ∀ k, 17 ≤ k → k < 127 → k ≠ 18 → M 88 k = 0 := fun k h1 h2 h3 => by rw [fm.2.2 k (by omega)]; exact Z.bz k h1 h2 h3
  have z20 := z 20 (by omega) (by omega) (by omega)
  have z33 := z 33 (by omega) (by omega) (by omega)
  have z42 := z 42 (by omega) (by omega) (by omega)
  have z17 := z 17 (by omega) (by omega) (by omega)
  have z19 := z 19 (by omega) (by omega) (by omega)
  have s6 : C 6 0 = 0 := by rw [fc.1 6 (by omega) (by omega) (by omega)]; exact Z.s6
  have s10 : C 10 0 = 0 := by rw [fc.1 10 (by omega) (by omega) (by omega)]; exact Z.s10
  have s14 : C 14 0 = 0 := by rw [fc.1 14 (by omega) (by omega) (by omega)]; exact Z.s14
  refine Kp.mk a b (PSet.mk ?_ ?_ ?_ ?_ ?_) (PSea.mk (by rw [z20, s6]; omega) (fun k hk => by omega)) (PClo.mk (by rw [z33, s10]; omega) (fun k hk => by omega)) (PFea.mk (by rw [z42, s14]; omega) (fun k hk => by omega) (fun k h1 h2 => z k (by omega) h2 (by omega)))
  · rw [fm.2.2 16 (by omega), Z.b16, fc.2.2 10 (by omega), Z.c10]; omega
  · rw [z17, fc.2.2 13 (by omega), Z.c13]; omega
  · rw [fm.2.2 18 (by omega), Z.b18, fc.2.2 12 (by omega), Z.c12]; omega
  · rw [z19, fc.2.2 11 (by omega), Z.c11]; omega
  · rw [fm.2.1 12 (by omega) (by omega), Z.w12, fc.2.1 5 (by omega), fc.2.1 6 (by omega), fc.2.1 7 (by omega), Z.fl.1, Z.fl.2.1, Z.fl.2.2]; omega
theorem Mf_f {n : Nat} {C' M' : Hp} (F : Mf n C0 M0 C M) (f : FrC C C') (g : FrM M M') : Mf n C0 M0 C' M' := by
  refine Mf.mk (Hd_f F.hd F.nn.2 f g) F.nn ?_ ?_
  · rw [g.1 88 (by omega), f.1 4 (by omega)]; exact F.lp
  · rw [g.1 88 (by omega), f.1 4 (by omega)]; exact F.lm
theorem bd_sp (B : TB t E) (hN : 1000 < N) (P : Ms t E M) (w : M 83 10 ≠ -1) : Bd t E M (spM N M) := by
  have pm := P.pl
  obtain ⟨q, eq⟩ : ∃ q : Nat, M 83 9 = (q : Int) := ⟨(M 83 9).toNat, by omega⟩
  have hb := sc_bd (f := bl t) (show q ≤ E by omega)
  unfold spM
  rw [m_here (N := N) B hN P.tm (show q ≤ E by omega) eq, pu_bs]
  (try dsimp only)
  have P1 : Ms t E (hs M 83 9 ((sc (bl t) E q : Nat) : Int)) := Ms_9 P (by omega)
  have w1 : hs M 83 9 ((sc (bl t) E q : Nat) : Int) 83 10 ≠ -1 := by rw [hs_slot (by omega)]; exact w
  refine Bd_tr (h1 := hs M 83 9 ((sc (bl t) E q : Nat) : Int)) (hs_slot (by omega)) FrM_9.r ?_
  refine Bd_number P1 w1 ?_
  (try dsimp only)
  refine Bd_w88 (n := 15) (by omega) (by omega) ?_
  rw [if_neg (flt_n (Ms_w88 P1) (by rw [hs_cell (by omega)]; exact w1))]
  exact Bd_ok (Ms_w88 P1)
theorem bd_moN (B : TB t E) (hN : 1000 < N) (P : Ms t E M) (w : M 83 10 ≠ -1) : Bd t E M (moNM N M) := by
  unfold moNM
  refine Bd_number P w ?_
  (try dsimp only)
  refine Bd_w88 (n := 12) (by omega) (by omega) ?_
  have P1 : Ms t E (hs M 88 12 0) := Ms_w88 P
  have w1 : hs M 88 12 0 83 10 ≠ -1 := by rw [hs_cell (by omega)]; exact w
  refine Bd_number P1 w1 ?_
  (try dsimp only)
  refine Bd_w88 (n := 13) (by omega) (by omega) ?_
  have P2 : Ms t E (hs (hs M 88 12 0) 88 13 0) := Ms_w88 P1
  have w2 : hs (hs M 88 12 0) 88 13 0 83 10 ≠ -1 := by rw [hs_cell (by omega)]; exact w1
  refine Bd_number P2 w2 ?_
  (try dsimp only)
  refine Bd_w88 (n := 14) (by omega) (by omega) ?_
  exact bd_sp B hN (Ms_w88 P2) (by rw [hs_cell (by omega)]; exact w2)
theorem bd_moM (B : TB t E) (hN : 1000 < N) (P : Ms t E M) (w : M 83 10 ≠ -1) : Bd t E M (moM N M) := by
  unfold moM
  refine Bd_has B hN P w (by omega) (fun M1 P1 w1 _ => ?_)
  (try dsimp only)
  rw [if_pos eq00]
  unfold moTM
  refine Bd_expects P1 w1 ?_
  exact bd_moN B hN P1 w1
theorem bd_moD (B : TB t E) (hN : 1000 < N) (P : Ms t E M) (w : M 83 10 = -1) {q b : Nat} (eq : M 83 9 = (q : Int)) (eb : sc (bl t) E q = b) (hb : b < E) (hd : dg t b = true) : Bd t E (hs (hs (hs M 83 9 (b : Int)) 83 9 (b : Int)) 83 10 (b : Int)) (moM N M) := by
  have he := B.e
  have pm := P.pl
  have hdg := dg_bd hd
  have nl : le' t b = false := decide_eq_false (by omega)
  have ee : sc (le' t) E b = b := sc_stop nl
  have sbb := sc_sc (f := bl t) (show q ≤ E by omega)
  rw [eb] at sbb
  have nw : ∀ k, k < 36 → ¬ hasW t b b (txS k) := fun k hk x => by
    have := len_bd hk
    have := x.1
    omega
  obtain ⟨r, e', z⟩ := m_has (N := N) (w := 19) B hN P.tm (by omega) (show q ≤ E by omega) eq P.wr
  rw [eb, ee] at z
  unfold moM
  rw [e', pu_bs]
  rcases z with ⟨_, z, _⟩ | ⟨_, z⟩
  · exact absurd z (nw 19 (by omega))
  · subst z
    (try dsimp only)
    rw [if_pos eq00]
    unfold moTM
    have P1 : Ms t E (hs M 83 9 (b : Int)) := Ms_9 P (by omega)
    obtain ⟨h', e2, y⟩ := m_expects (N := N) (w := 20) B hN P1.tm (by omega) (show b ≤ E by omega) hs_at (by rw [hs_slot (by omega)]; exact w)
    rw [sbb, ee] at y
    rw [e2, pu_bs]
    rcases y with ⟨y, _⟩ | ⟨_, y⟩
    · exact absurd y (nw 20 (by omega))
    · rw [y]
      exact bd_moN B hN (Ms_10 (Ms_9 P1 (by omega)) (by omega)) (by rw [hs_at]; omega)
theorem s2_moN (B : TB t E) (hN : 1000 < N) (P : Ps t E C M) (D : Ds C) (Z : Zi C0 M0) (f : FrR M0 M) (F : C 3 4 = -1 → ∃ n, Mf n C0 M0 C M) : S2 (moNC N C) (moNM N M) (Q2 t E M0) := by
  unfold moNC moNM
  refine S2_number B hN P rfl (by omega) (by omega) (fun a aM C1 M1 P1 f1 g1 r1 b1 => ?_)
  (try dsimp only)
  refine S2_w4 ?_
  refine S2_w88 (n := 12) (by omega) (by omega) ?_
  refine S2_number B hN ((P1.wC (by omega)).wM) rfl (by omega) (by omega) (fun b bM C2 M2 P2 f2 g2 r2 b2 => ?_)
  (try dsimp only)
  refine S2_w4 ?_
  refine S2_w88 (n := 13) (by omega) (by omega) ?_
  refine S2_number B hN ((P2.wC (by omega)).wM) rfl (by omega) (by omega) (fun c cM C3 M3 P3 f3 g3 r3 b3 => ?_)
  (try dsimp only)
  refine S2_w4 ?_
  refine S2_w88 (n := 14) (by omega) (by omega) ?_
  have P4 : Ps t E (hs C3 4 8 c) (hs M3 88 14 cM) := (P3.wC (by omega)).wM
  have D4 : Ds (hs C3 4 8 c) := Ds_w4 ((Ds_w4 ((Ds_w4 (D.fr' f1) (by omega)).fr' f2) (by omega)).fr' f3) (by omega)
  have fR : FrR M0 (hs M3 88 14 cM) := (((((f.trans g1.r).trans FrR_w88).trans g2.r).trans FrR_w88).trans g3.r).trans FrR_w88
  have c47 : hs C3 4 8 c 4 7 = b := by rw [hs_slot (by omega), f3.1 4 (by omega), hs_at]
  have z34 : hs C3 4 8 c 3 4 = C3 3 4 := by rw [hs_cell (by omega)]
  have e88 : hs M3 88 14 cM 88 = pu_up (pu_up (pu_up (M 88) 12 aM) 13 bM) 14 cM := by rw [hs_up, g3.1 88 (by omega), hs_up, g2.1 88 (by omega), hs_up, g1.1 88 (by omega)]
  have e4 : hs C3 4 8 c 4 = pu_up (pu_up (pu_up (C 4) 6 a) 7 b) 8 c := by rw [hs_up, f3.1 4 (by omega), hs_up, f2.1 4 (by omega), hs_up, f1.1 4 (by omega)]
  have e5 : hs C3 4 8 c 5 = C 5 := by rw [hs_cell (by omega), f3.1 5 (by omega), hs_cell (by omega), f2.1 5 (by omega), hs_cell (by omega), f1.1 5 (by omega)]
  have fH : FrH M (hs M3 88 14 cM) := ((((FrH_M g1).trans (FrH_w (by omega))).trans (FrH_M g2)).trans (FrH_w (by omega))).trans ((FrH_M g3).trans (FrH_w (by omega)))
  have fHC : FrHC C (hs C3 4 8 c) := ((((FrHC_C f1).trans (FrHC_w (by omega))).trans (FrHC_C f2)).trans (FrHC_w (by omega))).trans ((FrHC_C f3).trans (FrHC_w (by omega)))
  generalize hs C3 4 8 c = C4 at *
  generalize hs M3 88 14 cM = M4 at *
  by_cases z : C3 3 4 = -1
  · have y3 := r3 z
    have y3' : C2 3 4 = -1 := by
      have x := y3.2.2.2
      rwa [hs_cell (by omega)] at x
    have y2 := r2 y3'
    have y2' : C1 3 4 = -1 := by
      have x := y2.2.2.2
      rwa [hs_cell (by omega)] at x
    have y1 := r1 y2'
    obtain ⟨n, F'⟩ := F y1.2.2.2
    have nn := F'.nn
    have H4 : Hd n C0 M0 C4 M4 := Hd_g F'.hd fH fHC F'.nn.2 (fun k hk => by rw [e88, pu_up_ne (by omega), pu_up_ne (by omega), pu_up_ne (by omega)]) (fun j _ _ => by rw [e4, pu_up_ne (by omega), pu_up_ne (by omega), pu_up_ne (by omega)]) e5
    have wk := H4.week
    have mn := H4.mon
    have mb := msum_bd (b := M4 88) n (fun i hi => (H4.days i hi).1)
    refine S2_mono (s2_span (f := b) (k := M4 88 0) (y := msum (M4 88) n) B hN P4 (z34.trans z) H4.yday c47 wk.2.2 (by rw [e88, pu_up_ne (by omega), pu_up_at]; exact y2.1.symm) rfl (by omega) (by rw [mn.1, Int.toNat_natCast]) (by omega) (by omega) (by omega)) (fun C' M' q => ?_)
    obtain ⟨q1, q2, q3, q4⟩ := q
    refine ⟨q1, fun x => ?_, fR.trans ⟨q4.1, fun j j1 j2 _ => q4.2.1 j j1 j2⟩⟩
    obtain ⟨v, v1, v2, v3⟩ := q2 x
    have H5 : Hd n C0 M0 C' M' := Hd_g H4 ⟨q4.1, q4.2.1, fun x hx => q4.2.2 x (by omega)⟩ ⟨fun c c3 c4 _ => q3.1 c c3 c4, q3.2.2, fun j hj => q3.2.1 j (by omega)⟩ nn.2 (fun k hk => q4.2.2 k (by omega)) (fun j _ _ => q3.2.1 j (by omega)) (q3.1 5 (by omega) (by omega))
    have K5 := Hd_mon H5 nn.1 nn.2
    have m5 := H5.mon
    refine Kp_init Z H5.fm H5.fc K5 (PMoo.mk ?_ ?_ ?_ ?_ ?_ ?_ ?_)
    · rw [q4.2.2 10 (by omega), q3.2.1 4 (by omega), e88, e4, pu_up_ne (by omega), pu_up_ne (by omega), pu_up_ne (by omega), pu_up_ne (by omega), pu_up_ne (by omega), pu_up_ne (by omega)]; exact F'.lp
    · rw [m5.1, q4.2.2 11 (by omega), q3.2.1 5 (by omega), e88, e4, pu_up_ne (by omega), pu_up_ne (by omega), pu_up_ne (by omega), pu_up_ne (by omega), pu_up_ne (by omega), pu_up_ne (by omega)]; exact F'.lm
    · rw [q4.2.2 12 (by omega), q3.2.1 6 (by omega), e88, e4, pu_up_ne (by omega), pu_up_ne (by omega), pu_up_at, pu_up_ne (by omega), pu_up_ne (by omega), pu_up_at]; omega
    · rw [q4.2.2 13 (by omega), q3.2.1 7 (by omega), e88, e4, pu_up_ne (by omega), pu_up_at, pu_up_ne (by omega), pu_up_at]; omega
    · rw [q4.2.2 14 (by omega), q3.2.1 8 (by omega), e88, e4, pu_up_at, pu_up_at]; omega
    · rw [v3, v2]; omega
    · rw [← K5.yday, q3.2.1 3 (by omega), H4.yday, v3, q4.2.2 0 (by omega), q4.2.2 13 (by omega), show M4 88 13 = bM by rw [e88, pu_up_ne (by omega), pu_up_at]]; omega
  · have z4 : C4 3 4 ≠ -1 := by rw [z34]; exact z
    have yd := D4.yd
    have mo := D4.mo
    have wk := D4.wk
    refine S2_bad P4.w z4 (Sf_number B hN P4.c D4 (by omega) (by rw [c47, pu_mn (by omega) (by omega) (by omega) (by omega)]; omega) (fun d g4 P5 D5 _ _ => Sf_w4 (Sf_ok (Cs_w P5 (by omega)) (Ds_w4 D5 (by omega))))) (bd_sp B hN P4.m (by rw [← P4.w]; exact z4)) fR
theorem s2_moT (B : TB t E) (hN : 1000 < N) (P : Ps t E C M) (D : Ds C) (Z : Zi C0 M0) (f : FrR M0 M) (F : C 3 4 = -1 → ∃ n, Mf n C0 M0 C M) : S2 ((M_Reader_readWord N C).bind (fun h37 => moTC N h37)) (moTM N M) (Q2 t E M0) := by
  obtain ⟨C', M', e, e', P', f', g', w⟩ := expects2 (N := N) (k := 2) (k' := 20) B hN P (by omega) (by omega) rfl (fun h => moNC N h)
  unfold moTC moTM
  rw [e, e', pu_bs]
  exact s2_moN B hN P' (D.fr' f') Z (f.trans g'.r) (fun z => by obtain ⟨n, H⟩ := F (w z); exact ⟨n, Mf_f H f' g'⟩)
theorem s2_moon (B : TB t E) (hN : 1000 < N) (P : Ps t E C M) (w : C 3 4 = -1) (D : Ds C) (Z : Zi C0 M0) {n : Nat} (H : Hd n C0 M0 C M) (nn : 1 ≤ n ∧ n ≤ 8) (lp : M 88 10 = 0 ∧ M 88 11 = 0 ∧ C 4 4 = 0 ∧ C 4 5 = 0) : S2 (M_Reader_readMoon N C) (moM N M) (Q2 t E M0) := by
  have he := B.e
  have pc := P.c.pl
  have pm := P.m.pl
  have w' : M 83 10 = -1 := by rw [← P.w]; exact w
  have F : Mf n C0 M0 C M := Mf.mk H nn (by omega) (by omega)
  obtain ⟨p, ep⟩ : ∃ p : Nat, C 3 2 = (p : Int) := ⟨(C 3 2).toNat, by omega⟩
  obtain ⟨q, eq⟩ : ∃ q : Nat, M 83 9 = (q : Int) := ⟨(M 83 9).toNat, by omega⟩
  obtain ⟨rr, e', z⟩ := m_has (N := N) (w := 19) B hN P.m.tm (by omega) (show q ≤ E by omega) eq P.m.wr
  have PH := Ps_here P eq
  have st := P.s w
  rw [ep, eq, Int.toNat_natCast, Int.toNat_natCast] at st
  have hbp := sc_bd (f := bl t) (show p ≤ E by omega)
  rw [← st] at z PH
  have kw := c_word (N := N) B hN P.c.tc (show p ≤ E by omega) ep
  generalize eb : sc (bl t) E p = b at *
  have hee := sc_bd (f := le' t) hbp.2
  generalize ee : sc (le' t) E b = e at *
  have PW := Ps_word (b := b) P hee.2
  have g3 : hs (hs C 3 3 (b : Int)) 3 2 (e : Int) 3 3 = (b : Int) := by rw [hs_slot (by omega), hs_at]
  have g2 : hs (hs C 3 3 (b : Int)) 3 2 (e : Int) 3 2 = (e : Int) := hs_at
  have fW : FrC C (hs (hs C 3 3 (b : Int)) 3 2 (e : Int)) := FrC_word
  obtain ⟨r1, a1, y1⟩ := c_isWord (N := N) (w := 1) B hN PW.c.tc (by omega) g3 g2 hee.1 hee.2
  rw [moon_eq]
  unfold moM
  rw [kw, pu_bs, a1, pu_bs, e', pu_bs]
  generalize hG : hs (hs C 3 3 (b : Int)) 3 2 (e : Int) = G at *
  rw [show txS 19 = txS 1 from rfl] at z
  rcases y1 with ⟨y1, y2⟩ | ⟨y1, y2⟩
  · rcases z with ⟨_, _, z3⟩ | ⟨z1, _⟩
    · subst y1 z3
      simp only [pu_lt, if_neg ne10]
      refine S2_number B hN PW rfl (by omega) (by omega) (fun a aM C1 M1 P1 f1 g1 r1 b1 => ?_)
      (try dsimp only)
      refine S2_w88 (n := 10) (by omega) (by omega) ?_
      refine S2_r88 (n := 1) (by omega) (by omega) ?_
      have fC1 : FrC C C1 := fW.trans f1
      have gM1 : FrM M M1 := FrM_9.trans g1
      have F1 := Mf_f F fC1 gM1
      have m1 := F1.hd.mon
      have c42 : hs C1 4 4 a 4 2 = (n : Int) := by rw [hs_slot (by omega)]; exact m1.2
      have x1 : hs M1 88 10 aM 88 1 = (n : Int) := by rw [hs_slot (by omega)]; exact m1.1
      rw [c42, x1]
      refine S2_number B hN ((P1.wC (by omega)).wM) rfl (by omega) (by omega) (fun b bM C2 M2 P2 f2 g2 r2 b2 => ?_)
      (try dsimp only)
      refine S2_w88 (n := 11) (by omega) (by omega) ?_
      refine s2_moT B hN ((P2.wC (by omega)).wM) (Ds_w4 ((Ds_w4 (D.fr' fC1) (by omega)).fr' f2) (by omega)) Z ((((H.fm.r.trans gM1.r).trans FrR_w88).trans g2.r).trans FrR_w88) (fun x => ⟨n, ?_⟩)
      rw [hs_cell (by omega)] at x
      have q2 := r2 x
      have q2' : C1 3 4 = -1 := by
        have u := q2.2.2.2
        rwa [hs_cell (by omega)] at u
      have q1 := r1 q2'
      have e88 : hs M2 88 11 bM 88 = pu_up (pu_up (M1 88) 10 aM) 11 bM := by rw [hs_up, g2.1 88 (by omega), hs_up]
      have e4 : hs C2 4 5 b 4 = pu_up (pu_up (C1 4) 4 a) 5 b := by rw [hs_up, f2.1 4 (by omega), hs_up]
      refine Mf.mk (Hd_g F1.hd (((FrH_w (by omega)).trans (FrH_M g2)).trans (FrH_w (by omega))) (((FrHC_w (by omega)).trans (FrHC_C f2)).trans (FrHC_w (by omega))) nn.2 (fun k hk => by rw [e88, pu_up_ne (by omega), pu_up_ne (by omega)]) (fun j _ _ => by rw [e4, pu_up_ne (by omega), pu_up_ne (by omega)]) (by rw [hs_cell (by omega), f2.1 5 (by omega), hs_cell (by omega)])) nn ?_ ?_
      · rw [e88, e4, pu_up_ne (by omega), pu_up_at, pu_up_ne (by omega), pu_up_at]; omega
      · rw [e88, e4, pu_up_at, pu_up_at]; omega
    · exact absurd ⟨w', y2⟩ z1
  · rcases z with ⟨_, z2, _⟩ | ⟨_, z3⟩
    · exact absurd z2 y2
    · subst y1 z3
      simp only [pu_lt, if_pos eq00]
      have s := s2_moT (N := N) B hN PH D Z (H.fm.r.trans FrM_9.r) (fun _ => ⟨n, Mf_f F ⟨fun _ _ => rfl, fun _ _ _ _ => rfl⟩ FrM_9⟩)
      rw [kw, pu_bs] at s
      exact s
end Ls2
