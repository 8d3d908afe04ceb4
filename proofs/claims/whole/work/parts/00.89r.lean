def lp0 (C M : Hp) : Prop := M 88 10 = 0 ∧ M 88 11 = 0 ∧ C 4 4 = 0 ∧ C 4 5 = 0
def Yo (t : Nat → Int) (E : Nat) (C0 M0 C1 M1 : Hp) : Prop := Cs t E C1 ∧ Ds C1 ∧ Ms t E M1 ∧ FrR M0 M1 ∧ ((C1 3 4 = M1 83 10 ∧ C1 3 4 ≠ -1) ∨ (Ps t E C1 M1 ∧ C1 3 4 = -1 ∧ ∃ n : Nat, (1 ≤ n ∧ n ≤ 8) ∧ Hd n C0 M0 C1 M1 ∧ lp0 C1 M1) ∨ (M1 83 10 = -1 ∧ ∃ q b : Nat, M1 83 9 = (q : Int) ∧ sc (bl t) E q = b ∧ b < E ∧ dg t b = true ∧ C1 3 4 = (b : Int)))
def YrS (x : Option Hp) (y : (Hp → Option Hp) → Option Hp) (Q : Hp → Hp → Prop) : Prop := ∃ C1 M1, x = some C1 ∧ (∀ k, y k = k M1) ∧ Q C1 M1
section Lt2
variable {t : Nat → Int} {E : Nat} {C M C0 M0 : Hp} {N : Nat}
theorem L19_bad (P : Ms t E M) (w : M 83 10 ≠ -1) {n2 : Nat} (h : 0 < n2) (k : Hp → Option Hp) : Md_bookLine_L19 N k n2 M = k M := by
  obtain ⟨n', rfl⟩ : ∃ n', n2 = n' + 1 := ⟨n2 - 1, by omega⟩
  rw [Md_bookLine_L19, if_neg (flt_n P w)]
def mStep (N n2 : Nat) (M : Hp) (k : Hp → Option Hp) : Option Hp := (rdA M 88 127 1).bind (fun x11 => (M_Md_number N M 5 31).bind (fun q13 => (wrA q13.2 88 127 (2 + x11) q13.1).bind (fun h14 => (rdA h14 88 127 1).bind (fun x15 => (wrA h14 88 127 1 (x15 + 1)).bind (fun h16 => Md_bookLine_L19 N k n2 h16)))))
theorem y_step (B : TB t E) (hN : 1000 < N) (P : Ps t E C M) (w : C 3 4 = -1) (D : Ds C) {n : Nat} (H : Hd n C0 M0 C M) (hn : n < 8) (lp : lp0 C M) {n1 n2 : Nat} {v : Int} (hv : v = (n : Int) + 1) (hn1 : 9 < n1) (hn2 : 9 < n2 + n)
    (ih : ∀ C' M', Ps t E C' M' → C' 3 4 = -1 → Ds C' → Hd (n + 1) C0 M0 C' M' → lp0 C' M' → YrS (Reader_readYears_L44 N n1 v C') (fun k => Md_bookLine_L19 N k n2 M') (Yo t E C0 M0)) :
    YrS ((M_Reader_readNumber N C 5 31).bind (fun q => (M_Book_addMonth q.2 4 q.1).bind (fun h => Reader_readYears_L44 N n1 v h))) (fun k => mStep N n2 M k) (Yo t E C0 M0) := by
  obtain ⟨a, aM, C1, M1, e, e', P1, f1, g1, r1, b1, _, _⟩ := number2 (N := N) (lo := 5) (hi := 31) B hN P (by omega) (by omega)
  have H1 := Hd_f H (by omega) f1 g1
  have m1 := H1.mon
  have D1 := D.fr' f1
  obtain ⟨C2, s1, s2, s3, s4, s5⟩ := Sf_month P1.c D1 (v := a) (by omega) (K := fun h => some h) (fun h' p d _ => Sf_ok p d)
  have cm := c_addMonth (h := C1) (n := n) (v := a) (by omega) m1.2
  rw [if_neg (by omega)] at cm
  rw [cm, pu_bs] at s1
  have s1 := Option.some.inj s1
  have kM : ∀ k, mStep N n2 M k = Md_bookLine_L19 N k n2 (hs (hs M1 88 (2 + n) aM) 88 1 ((n : Int) + 1)) := fun k => by
    unfold mStep
    rw [rd88 (n := 1) (by omega) (by omega), pu_bs, e', pu_bs]
    (try dsimp only)
    rw [H.mon.1, wr88 (n := 2 + n) (by omega) (by omega), pu_bs, rd88 (n := 1) (by omega) (by omega), pu_bs, hs_slot (by omega), m1.1, wr88 (n := 1) (by omega) (by omega), pu_bs]
  have kC : ((M_Reader_readNumber N C 5 31).bind (fun q => (M_Book_addMonth q.2 4 q.1).bind (fun h => Reader_readYears_L44 N n1 v h))) = Reader_readYears_L44 N n1 v C2 := by
    rw [e, pu_bs]
    (try dsimp only)
    rw [cm, pu_bs, s1]
  have c43 : C2 4 3 = C1 4 3 + a := by rw [← s1, hs_at]
  have c42 : C2 4 2 = ((n + 1 : Nat) : Int) := by rw [← s1, hs_slot (by omega), hs_at]
  have c4j : ∀ j, j ≠ 2 → j ≠ 3 → C2 4 j = C1 4 j := fun j j1 j2 => by rw [← s1, hs_slot j2, hs_slot j1, hs_cell (by omega)]
  have c5 : C2 5 = pu_up (C1 5) n a := by rw [← s1, hs_cell (by omega), hs_cell (by omega), hs_up]
  have cc : ∀ c, c ≠ 4 → c ≠ 5 → C2 c = C1 c := fun c h1 h2 => by rw [← s1, hs_cell h1, hs_cell h1, hs_cell h2]
  have P2 : Ps t E C2 (hs (hs M1 88 (2 + n) aM) 88 1 ((n : Int) + 1)) := by
    have x := (P1.wM (k := 2 + n) (v := aM)).wM (k := 1) (v := (n : Int) + 1)
    exact Ps.mk s2 x.m (by rw [cc 3 (by omega) (by omega)]; exact x.w) (by rw [cc 3 (by omega) (by omega)]; exact x.s)
  have e88 : hs (hs M1 88 (2 + n) aM) 88 1 ((n : Int) + 1) 88 = pu_up (pu_up (M1 88) (2 + n) aM) 1 ((n : Int) + 1) := by rw [hs_up, hs_up]
  have fH : FrH M (hs (hs M1 88 (2 + n) aM) 88 1 ((n : Int) + 1)) := ((FrH_M g1).trans (FrH_w (by omega))).trans (FrH_w (by omega))
  generalize hs (hs M1 88 (2 + n) aM) 88 1 ((n : Int) + 1) = M3 at *
  have fHC : FrHC C C2 := (FrHC_C f1).trans ⟨fun c _ h4 h5 => cc c h4 h5, fun j _ => by rw [cc 3 (by omega) (by omega)], fun j hj => c4j j (by omega) (by omega)⟩
  by_cases z : C1 3 4 = -1
  · have rz := r1 z
    have q1 : ∀ k, k ≠ 1 → k ≠ 2 + n → M3 88 k = M1 88 k := fun k k1 k2 => by rw [e88, pu_up_ne k1, pu_up_ne k2]
    have qn : M3 88 (2 + n) = a := by rw [e88, pu_up_ne (by omega), pu_up_at]; exact rz.1.symm
    have q0 : M3 88 1 = (n : Int) + 1 := by rw [e88, pu_up_at]
    have H2 : Hd (n + 1) C0 M0 C2 M3 := by
      refine Hd.mk ?_ ?_ ?_ ?_ (H.fm.trans fH) (H.fc.trans fHC)
      · rw [q1 0 (by omega) (by omega), c4j 1 (by omega) (by omega)]; exact H1.week
      · rw [q0, c42]; exact ⟨by omega, rfl⟩
      · rw [c43, H1.yday, msum, qn, msum_cgq n (fun k k1 k2 => q1 k (by omega) (by omega))]
      · intro i hi
        rw [c5]
        unfold pu_up
        by_cases ci : i = n
        · subst ci; rw [if_pos rfl, qn]; exact ⟨by omega, rfl⟩
        · rw [if_neg ci, q1 _ (by omega) (by omega)]; exact H1.days i (by omega)
    have lp2 : lp0 C2 M3 := by
      unfold lp0 at *
      rw [q1 10 (by omega) (by omega), q1 11 (by omega) (by omega), c4j 4 (by omega) (by omega), c4j 5 (by omega) (by omega), g1.1 88 (by omega), f1.1 4 (by omega)]
      exact lp
    obtain ⟨C', M', t1, t2, t3⟩ := ih C2 M3 P2 (by rw [cc 3 (by omega) (by omega)]; exact z) s3 H2 lp2
    exact ⟨C', M', by rw [kC]; exact t1, fun k => (kM k).trans (t2 k), t3⟩
  · have z2 : C2 3 4 ≠ -1 := by rw [s4 z]; exact z
    have wM : M3 83 10 ≠ -1 := by rw [← P2.w]; exact z2
    obtain ⟨C', u1, u2, u3, u4, u5⟩ := sf_yL (N := N) B hN 9 n1 v C2 s2 s3 (by omega) (by omega) (by omega) (by omega)
    refine ⟨C', M3, by rw [kC]; exact u1, fun k => (kM k).trans (L19_bad P2.m wM (by omega) k), u2, u3, P2.m, H.fm.r.trans fH.r, Or.inl ⟨?_, ?_⟩⟩
    · rw [u4 z2]; exact P2.w
    · rw [u4 z2]; exact z2
theorem tv_dg {b : Nat} (h : 48 ≤ tv t E b ∧ tv t E b ≤ 57) : b < E ∧ dg t b = true := by
  unfold tv at h
  by_cases c : b < E
  · rw [if_pos c] at h; exact ⟨c, decide_eq_true h⟩
  · rw [if_neg c] at h; omega
theorem yl2 (B : TB t E) (hN : 1000 < N) : ∀ (m n n1 n2 : Nat) (C M : Hp), n + m = 8 → 1 ≤ n → 20 < n1 + n → 20 < n2 + n → Ps t E C M → C 3 4 = -1 → Ds C → Hd n C0 M0 C M → lp0 C M → YrS (Reader_readYears_L44 N n1 (n : Int) C) (fun k => Md_bookLine_L19 N k n2 M) (Yo t E C0 M0) := by
  intro m
  induction m with
  | zero =>
    intro n n1 n2 C M hnm h1 hn1 hn2 P w D H lp
    have he := B.e
    have pc := P.c.pl
    have pm := P.m.pl
    have w' : M 83 10 = -1 := by rw [← P.w]; exact w
    have mn := H.mon
    obtain ⟨n1', rfl⟩ : ∃ n', n1 = n' + 1 := ⟨n1 - 1, by omega⟩
    obtain ⟨n2', rfl⟩ : ∃ n', n2 = n' + 1 := ⟨n2 - 1, by omega⟩
    obtain ⟨p, ep⟩ : ∃ p : Nat, C 3 2 = (p : Int) := ⟨(C 3 2).toNat, by omega⟩
    obtain ⟨q, eq⟩ : ∃ q : Nat, M 83 9 = (q : Int) := ⟨(M 83 9).toNat, by omega⟩
    have st := P.s w
    rw [ep, eq, Int.toNat_natCast, Int.toNat_natCast] at st
    have hbp := sc_bd (f := bl t) (show p ≤ E by omega)
    have sbb := sc_sc (f := bl t) (show p ≤ E by omega)
    generalize eb : sc (bl t) E p = b at *
    have kd := c_digitComes (N := N) B hN P.c.tc (show p ≤ E by omega) ep eb
    have kM : ∀ k, Md_bookLine_L19 N k (n2' + 1) M = k M := fun k => by
      rw [Md_bookLine_L19, if_pos (flt_y P.m w'), rd88 (n := 1) (by omega) (by omega), pu_bs, if_pos (by rw [mn.1, leb_iff (by omega) (by omega) (by omega) (by omega)]; omega)]
    have fB : FrC C (hs C 3 2 (b : Int)) := ⟨fun c hc => hs_cell hc, fun j j1 _ _ => hs_slot j1⟩
    have C4 : hs C 3 2 (b : Int) 3 4 = -1 := by rw [hs_slot (by omega)]; exact w
    have cB : Cs t E (hs C 3 2 (b : Int)) := Cs.mk (TC_3 P.c.tc) (by rw [hs_at]; omega) (by rw [C4]; omega)
    have C2 : hs C 3 2 (b : Int) 3 2 = (b : Int) := hs_at
    generalize hs C 3 2 (b : Int) = G at *
    by_cases dc : 48 ≤ tv t E b ∧ tv t E b ≤ 57
    · rw [if_pos dc] at kd
      have tq := tv_dg dc
      have fX : FrC G (hs G 3 3 (b : Int)) := FrC_33
      have cX : Cs t E (hs G 3 3 (b : Int)) := Cs_w3 cB (by omega)
      have X4 : hs G 3 3 (b : Int) 3 4 = -1 := by rw [hs_slot (by omega)]; exact C4
      have X3 : hs G 3 3 (b : Int) 3 3 = (b : Int) := hs_at
      have X42 : hs G 3 3 (b : Int) 4 2 = (n : Int) := by rw [hs_cell (by omega), fB.1 4 (by omega)]; exact mn.2
      have e1 : Reader_readYears_L44 N (n1' + 1) (n : Int) C = (M_Reader_readNumber N (hs (hs G 3 3 (b : Int)) 3 4 (b : Int)) 5 31).bind (fun q20 => (M_Book_addMonth q20.2 4 q20.1).bind (fun h22 => Reader_readYears_L44 N n1' ((n : Int) + 1) h22)) := by
        rw [Reader_readYears_L44, if_neg (by rw [ltb_iff (by omega) (by omega) (by omega) (by omega)]; omega), kd, pu_bs]
        (try dsimp only)
        rw [if_neg ne10, pu_lt, C2]
        rw [if_pos (by rw [X42, leb_iff (by omega) (by omega) (by omega) (by omega)]; omega), c_req (Or.inl rfl) cX.wr, pu_bs, if_pos ⟨rfl, X4⟩, X3]
      have s : Sf t E (hs (hs G 3 3 (b : Int)) 3 4 (b : Int)) ((M_Reader_readNumber N (hs (hs G 3 3 (b : Int)) 3 4 (b : Int)) 5 31).bind (fun q20 => (M_Book_addMonth q20.2 4 q20.1).bind (fun h22 => Reader_readYears_L44 N n1' ((n : Int) + 1) h22))) := by
        refine Sf_number B hN (Cs_4 cX (by omega)) (((D.fr' fB).fr' fX).fr' FrC_4) (by omega) (by omega) (fun x g2 P2 D2 _ bx => ?_)
        (try dsimp only)
        refine Sf_month P2 D2 (by omega) (fun g3 P3 D3 _ => ?_)
        exact sf_yL B hN 9 n1' _ g3 P3 D3 (by omega) (by omega) (by omega) (by omega)
      obtain ⟨C', u1, u2, u3, u4, _⟩ := s
      refine ⟨C', M, by rw [e1]; exact u1, kM, u2, u3, P.m, H.fm.r, Or.inr (Or.inr ⟨w', q, b, eq, st.symm, tq.1, tq.2, ?_⟩)⟩
      rw [u4 (by rw [hs_at]; omega), hs_at]
    · rw [if_neg dc] at kd
      refine ⟨G, M, ?_, kM, cB, D.fr' fB, P.m, H.fm.r, Or.inr (Or.inl ⟨Ps.mk cB P.m (by rw [C4, w']) (fun _ => ?_), C4, n, by omega, Hd_f H (by omega) fB ⟨fun _ _ => rfl, fun _ _ _ => rfl⟩, ?_⟩)⟩
      · rw [Reader_readYears_L44, if_neg (by rw [ltb_iff (by omega) (by omega) (by omega) (by omega)]; omega), kd, pu_bs]
        (try dsimp only)
        rw [if_pos eq00]
      · rw [C2, eq, Int.toNat_natCast, Int.toNat_natCast, sbb, st]
      · unfold lp0 at *
        rw [fB.1 4 (by omega)]; exact lp
  | succ m ih =>
    intro n n1 n2 C M hnm h1 hn1 hn2 P w D H lp
    have he := B.e
    have pc := P.c.pl
    have pm := P.m.pl
    have w' : M 83 10 = -1 := by rw [← P.w]; exact w
    have mn := H.mon
    obtain ⟨n1', rfl⟩ : ∃ n', n1 = n' + 1 := ⟨n1 - 1, by omega⟩
    obtain ⟨n2', rfl⟩ : ∃ n', n2 = n' + 1 := ⟨n2 - 1, by omega⟩
    obtain ⟨p, ep⟩ : ∃ p : Nat, C 3 2 = (p : Int) := ⟨(C 3 2).toNat, by omega⟩
    obtain ⟨q, eq⟩ : ∃ q : Nat, M 83 9 = (q : Int) := ⟨(M 83 9).toNat, by omega⟩
    have st := P.s w
    rw [ep, eq, Int.toNat_natCast, Int.toNat_natCast] at st
    have hbp := sc_bd (f := bl t) (show p ≤ E by omega)
    have sbb := sc_sc (f := bl t) (show p ≤ E by omega)
    generalize eb : sc (bl t) E p = b at *
    have kd := c_digitComes (N := N) B hN P.c.tc (show p ≤ E by omega) ep eb
    have kf := m_isFigure (N := N) B hN P.m.tm (show q ≤ E by omega) eq st.symm
    have fB : FrC C (hs C 3 2 (b : Int)) := ⟨fun c hc => hs_cell hc, fun j j1 _ _ => hs_slot j1⟩
    have C4 : hs C 3 2 (b : Int) 3 4 = -1 := by rw [hs_slot (by omega)]; exact w
    have cB : Cs t E (hs C 3 2 (b : Int)) := Cs.mk (TC_3 P.c.tc) (by rw [hs_at]; omega) (by rw [C4]; omega)
    have C2 : hs C 3 2 (b : Int) 3 2 = (b : Int) := hs_at
    generalize hs C 3 2 (b : Int) = G at *
    have fM : FrM M (hs M 83 9 (b : Int)) := FrM_9
    have M10 : hs M 83 9 (b : Int) 83 10 = -1 := by rw [hs_slot (by omega)]; exact w'
    have M9 : hs M 83 9 (b : Int) 83 9 = (b : Int) := hs_at
    have mB : Ms t E (hs M 83 9 (b : Int)) := Ms_9 P.m (by omega)
    generalize hs M 83 9 (b : Int) = R at *
    have hlp : lp0 G R := by
      unfold lp0 at *
      rw [fB.1 4 (by omega), fM.1 88 (by omega)]; exact lp
    by_cases dc : 48 ≤ tv t E b ∧ tv t E b ≤ 57
    · rw [if_pos dc] at kd kf
      have fX : FrC G (hs G 3 3 (b : Int)) := FrC_33
      have cX : Cs t E (hs G 3 3 (b : Int)) := Cs_w3 cB (by omega)
      have X4 : hs G 3 3 (b : Int) 3 4 = -1 := by rw [hs_slot (by omega)]; exact C4
      have X2 : hs G 3 3 (b : Int) 3 2 = (b : Int) := by rw [hs_slot (by omega)]; exact C2
      have X42 : hs G 3 3 (b : Int) 4 2 = (n : Int) := by rw [hs_cell (by omega), fB.1 4 (by omega)]; exact mn.2
      have hlx : lp0 (hs G 3 3 (b : Int)) R := by
        unfold lp0 at *
        rw [fX.1 4 (by omega)]; exact hlp
      have e1 : Reader_readYears_L44 N (n1' + 1) (n : Int) C = (M_Reader_readNumber N (hs G 3 3 (b : Int)) 5 31).bind (fun q20 => (M_Book_addMonth q20.2 4 q20.1).bind (fun h22 => Reader_readYears_L44 N n1' ((n : Int) + 1) h22)) := by
        rw [Reader_readYears_L44, if_neg (by rw [ltb_iff (by omega) (by omega) (by omega) (by omega)]; omega), kd, pu_bs]
        (try dsimp only)
        rw [if_neg ne10, pu_lt, C2]
        rw [if_neg (by rw [X42, leb_iff (by omega) (by omega) (by omega) (by omega)]; omega), c_req (Or.inr rfl) cX.wr, pu_bs, if_neg (fun z => by omega)]
      have e2 : ∀ k, Md_bookLine_L19 N k (n2' + 1) M = mStep N n2' R k := fun k => by
        rw [Md_bookLine_L19, if_pos (flt_y P.m w'), rd88 (n := 1) (by omega) (by omega), pu_bs, if_neg (by rw [mn.1, leb_iff (by omega) (by omega) (by omega) (by omega)]; omega), pu_bs, pu_lt, if_neg (by rw [mn.1, eqb_iff (by omega) (by omega) (by omega) (by omega)]; omega), kf, pu_bs]
        (try dsimp only)
        rw [if_neg ne10]
        exact Eq.trans rfl rfl
      obtain ⟨C', M', u1, u2, u3⟩ := y_step (N := N) (n1 := n1') (n2 := n2') (v := (n : Int) + 1) B hN (Ps.mk cX mB (by rw [X4, M10]) (fun _ => by rw [X2, M9])) X4 ((D.fr' fB).fr' fX) (Hd_f H (by omega) (fB.trans fX) fM) (by omega) hlx rfl (by omega) (by omega) (fun C' M' P' w' D' H' lp' => by
        have := ih (n + 1) n1' n2' C' M' (by omega) (by omega) (by omega) (by omega) P' w' D' H' lp'
        rwa [show ((n + 1 : Nat) : Int) = (n : Int) + 1 by omega] at this)
      exact ⟨C', M', by rw [e1]; exact u1, fun k => (e2 k).trans (u2 k), u3⟩
    · rw [if_neg dc] at kd kf
      refine ⟨G, R, ?_, fun k => ?_, cB, D.fr' fB, mB, H.fm.r.trans fM.r, Or.inr (Or.inl ⟨Ps.mk cB mB (by rw [C4, M10]) (fun _ => by rw [C2, M9]), C4, n, by omega, Hd_f H (by omega) fB fM, hlp⟩)⟩
      · rw [Reader_readYears_L44, if_neg (by rw [ltb_iff (by omega) (by omega) (by omega) (by omega)]; omega), kd, pu_bs]
        (try dsimp only)
        rw [if_pos eq00]
      · show Md_bookLine_L19 N k (n2' + 1) M = k R
        rw [Md_bookLine_L19, if_pos (flt_y P.m w'), rd88 (n := 1) (by omega) (by omega), pu_bs, if_neg (by rw [mn.1, leb_iff (by omega) (by omega) (by omega) (by omega)]; omega), pu_bs, pu_lt, if_neg (by rw [mn.1, eqb_iff (by omega) (by omega) (by omega) (by omega)]; omega), kf, pu_bs]
        (try dsimp only)
        rw [if_pos eq00]
end Lt2
