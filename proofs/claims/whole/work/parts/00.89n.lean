section Lp2
variable {t : Nat → Int} {E : Nat} {C M : Hp} {N : Nat}
theorem s2_feN (B : TB t E) (hN : 1000 < N) {n : Nat} (hn : n < 12) {C0 M0 : Hp} (K : Kp (M0 88) C0 (M0 83 12)) (en : M0 88 42 = (n : Int)) (P : Ps t E C M) (D : Ds C) (f0 : FrC C0 C) (g0 : FrF n M0 M) {r : Int} (hr : 1 ≤ r ∧ r ≤ 9) (v0 : M 88 (43 + 7 * n) = r) (vz : ∀ u, 1 ≤ u → u < 7 → M 88 (43 + 7 * n + u) = 0) :
    S2 ((M_Reader_readNumber N C 0 ((C 4 2) - 1)).bind (fun q40 => (M_Reader_lastDayOf q40.2 q40.1).bind (fun x34 => (M_Reader_readNumber N q40.2 0 x34).bind (fun q36 => feTC N r q40.1 q36.1 q36.2))))
      ((rdA M 88 127 1).bind (fun x55 => (M_Md_number N M 0 (x55 - 1)).bind (fun q57 => (wrA q57.2 88 127 ((43 + (7 * (n : Int))) + 2) q57.1).bind (fun h58 => if eqb (h58 83 10) (-1) then (rdA h58 88 127 ((43 + (7 * (n : Int))) + 2)).bind (fun x59 => (rdA h58 88 127 (2 + x59)).bind (fun x60 => (M_Md_number N h58 0 (x60 - 1)).bind (fun q62 => (wrA q62.2 88 127 ((43 + (7 * (n : Int))) + 3) q62.1).bind (fun h63 => feTM N (n : Int) h63)))) else feTM N (n : Int) h58)))) (Q2 t E M0) := by
  have km := K.mo.mon
  refine S2_r88 (n := 1) (by omega) (by omega) ?_
  have e1 : M 88 1 = M0 88 1 := g0.2.2 1 (by omega)
  have c42 : C 4 2 = M0 88 1 := by rw [f0.1 4 (by omega)]; exact km.2.2
  refine S2_number B hN P (by rw [e1, c42]) (by omega) (by omega) (fun m mM C2 M2 P2 f2 g2 r2 b2 => ?_)
  (try dsimp only)
  refine S2_w88 (n := 43 + 7 * n + 2) (by omega) (by omega) ?_
  have P2w : Ps t E C2 (hs M2 88 (43 + 7 * n + 2) mM) := P2.wM
  by_cases z : C2 3 4 = -1
  · have rz := r2 z
    rw [if_pos (flt_y P2w.m (by rw [hs_cell (by omega), ← P2.w]; exact z))]
    refine S2_r88 (n := 43 + 7 * n + 2) (by omega) (by omega) ?_
    rw [hs_at]
    refine S2_r88 (n := 2 + m.toNat) (by omega) (by omega) ?_
    have e60 : hs M2 88 (43 + 7 * n + 2) mM 88 (2 + m.toNat) = M0 88 (2 + m.toNat) := by rw [hs_slot (by omega), g2.1 88 (by omega), g0.2.2 _ (by omega)]
    rw [e60]
    have fC : FrC C0 C2 := f0.trans f2
    have Km : PMon (M0 88) C2 := PMon_fr K.mo (fun _ _ => rfl) (fun j _ _ => by rw [fC.1 4 (by omega)]) (fC.1 5 (by omega))
    rw [last2 Km (by omega) (by omega), pu_bs]
    have dd := (K.mo.days m.toNat (by omega)).1
    refine S2_number B hN P2w rfl (by omega) (by omega) (fun d dM C3 M3 P3 f3 g3 r3 b3 => ?_)
    (try dsimp only)
    refine S2_w88 (n := 43 + 7 * n + 3) (by omega) (by omega) ?_
    have e88 : M3 88 = pu_up (M 88) (43 + 7 * n + 2) mM := by rw [g3.1 88 (by omega), hs_up, g2.1 88 (by omega)]
    refine s2_feT B hN hn K en P3.wM (fC.trans f3) ((((g0.trans (FrF_M g2)).trans (FrF_w (u := 2) (by omega))).trans (FrF_M g3)).trans (FrF_w (u := 3) (by omega))) (fun y => ?_)
    have ry := r3 y
    refine ⟨⟨?_, hr⟩, ?_, ?_, Or.inr ⟨?_, by omega, by omega, by omega, by omega⟩, ?_, ?_⟩
    · rw [hs_slot (by omega), e88, pu_up_ne (by omega)]; exact v0
    · rw [hs_slot (by omega), e88, pu_up_at]; exact rz.1.symm
    · rw [hs_at]; exact ry.1.symm
    · rw [hs_slot (by omega), e88, pu_up_ne (by omega)]; exact vz 1 (by omega) (by omega)
    · rw [hs_slot (by omega), e88, pu_up_ne (by omega)]; exact vz 5 (by omega) (by omega)
    · rw [hs_slot (by omega), e88, pu_up_ne (by omega)]; exact vz 6 (by omega) (by omega)
  · rw [if_neg (flt_n P2w.m (by rw [hs_cell (by omega), ← P2.w]; exact z))]
    obtain ⟨x, ex, bx⟩ := lastC (D.fr' f2) (m := m) (by omega)
    rw [ex, pu_bs]
    obtain ⟨d, C3, e3, p3, f3, b3, w3⟩ := numberC (N := N) (lo := 0) (hi := x) B hN P2.c (by omega) (by omega)
    rw [e3, pu_bs]
    (try dsimp only)
    have nw : C3 3 4 ≠ -1 := by rw [w3 z]; exact z
    exact s2_feT B hN hn K en (Ps.mk p3 P2w.m (by rw [w3 z]; exact P2w.w) (fun y => absurd y nw)) ((f0.trans f2).trans f3) ((g0.trans (FrF_M g2)).trans (FrF_w (u := 2) (by omega))) (fun y => absurd y nw)
theorem s2_feW (B : TB t E) (hN : 1000 < N) {n : Nat} (hn : n < 12) {C0 M0 : Hp} (K : Kp (M0 88) C0 (M0 83 12)) (en : M0 88 42 = (n : Int)) (P : Ps t E C M) (D : Ds C) (w : C 3 4 = -1) (f0 : FrC C0 C) (g0 : FrF n M0 M) {r : Int} (hr : 1 ≤ r ∧ r ≤ 9) (v0 : M 88 (43 + 7 * n) = r) (vz : ∀ u, 1 ≤ u → u < 7 → M 88 (43 + 7 * n + u) = 0) :
    S2 (feWC N r C) (feWM N (n : Int) M) (Q2 t E M0) := by
  have he := B.e
  have pc := P.c.pl
  have pm := P.m.pl
  have w' : M 83 10 = -1 := by rw [← P.w]; exact w
  obtain ⟨p, ep⟩ : ∃ p : Nat, C 3 2 = (p : Int) := ⟨(C 3 2).toNat, by omega⟩
  obtain ⟨q, eq⟩ : ∃ q : Nat, M 83 9 = (q : Int) := ⟨(M 83 9).toNat, by omega⟩
  obtain ⟨rr, e', z⟩ := m_has (N := N) (w := 28) B hN P.m.tm (by omega) (show q ≤ E by omega) eq P.m.wr
  have PH := Ps_here P eq
  have st := P.s w
  rw [ep, eq, Int.toNat_natCast, Int.toNat_natCast] at st
  have hbp := sc_bd (f := bl t) (show p ≤ E by omega)
  rw [← st] at z PH
  have kw := c_word (N := N) B hN P.c.tc (show p ≤ E by omega) ep
  generalize eb : sc (bl t) E p = b at *
  have hee := sc_bd (f := le' t) hbp.2
  generalize ee : sc (le' t) E b = e at *
  have PW := Ps_word (b := b) P hee.2
  have g3 : hs (hs C 3 3 (b : Int)) 3 2 (e : Int) 3 3 = (b : Int) := by rw [hs_slot (by omega), hs_at]
  have g2 : hs (hs C 3 3 (b : Int)) 3 2 (e : Int) 3 2 = (e : Int) := hs_at
  have g4 : hs (hs C 3 3 (b : Int)) 3 2 (e : Int) 3 4 = C 3 4 := by rw [hs_slot (by omega), hs_slot (by omega)]
  have fW : FrC C (hs (hs C 3 3 (b : Int)) 3 2 (e : Int)) := FrC_word
  obtain ⟨r4, a4, y4⟩ := c_isWord (N := N) (w := 4) B hN PW.c.tc (by omega) g3 g2 hee.1 hee.2
  obtain ⟨r5, a5, y5⟩ := c_isWord (N := N) (w := 5) B hN PW.c.tc (by omega) g3 g2 hee.1 hee.2
  generalize hG : hs (hs C 3 3 (b : Int)) 3 2 (e : Int) = G at *
  have wr : -1 ≤ G 3 4 ∧ G 3 4 ≤ 400 := by rw [g4]; exact P.c.wr
  unfold feWC feWM
  rw [kw, pu_bs, a4, pu_bs, e', pu_bs]
  rw [show txS 28 = txS 4 from rfl] at z
  rcases y4 with ⟨y1, y2⟩ | ⟨y1, y2⟩
  · rcases z with ⟨_, _, z3⟩ | ⟨z1, _⟩
    · subst y1 z3
      simp only [pu_lt, if_neg ne10]
      rw [c_req (Or.inr rfl) wr, pu_bs, if_neg (fun z => by omega)]
      refine S2_w88 (n := 43 + 7 * n + 1) (by omega) (by omega) ?_
      refine S2_w88 (n := 43 + 7 * n + 2) (by omega) (by omega) ?_
      refine S2_signed B hN PW.wM.wM (fun _ => rfl) (by omega) (fun d dM C2 M2 P2 f2 g2' r2 b2 => ?_)
      (try dsimp only)
      refine S2_w88 (n := 43 + 7 * n + 3) (by omega) (by omega) ?_
      have e88 : M2 88 = pu_up (pu_up (M 88) (43 + 7 * n + 1) 1) (43 + 7 * n + 2) (-1) := by rw [g2'.1 88 (by omega), hs_up, hs_up, hs_cell (by omega)]
      refine s2_feT B hN hn K en P2.wM ((f0.trans fW).trans f2) (((((g0.trans (FrF_M FrM_9)).trans (FrF_w (u := 1) (by omega))).trans (FrF_w (u := 2) (by omega))).trans (FrF_M g2')).trans (FrF_w (u := 3) (by omega))) (fun y => ?_)
      have ry := r2 y
      refine ⟨⟨?_, hr⟩, ?_, ?_, Or.inl ⟨?_, rfl, by omega, by omega⟩, ?_, ?_⟩
      · rw [hs_slot (by omega), e88, pu_up_ne (by omega), pu_up_ne (by omega)]; exact v0
      · rw [hs_slot (by omega), e88, pu_up_at]
      · rw [hs_at]; exact ry.1.symm
      · rw [hs_slot (by omega), e88, pu_up_ne (by omega), pu_up_at]
      · rw [hs_slot (by omega), e88, pu_up_ne (by omega), pu_up_ne (by omega)]; exact vz 5 (by omega) (by omega)
      · rw [hs_slot (by omega), e88, pu_up_ne (by omega), pu_up_ne (by omega)]; exact vz 6 (by omega) (by omega)
    · exact absurd ⟨w', y2⟩ z1
  · rcases z with ⟨_, z2, _⟩ | ⟨_, z3⟩
    · exact absurd z2 y2
    · subst y1 z3
      obtain ⟨C1, M1, e1, e2, P1, f1, g1, w1⟩ := exp3 (k := 5) (k' := 29) B hN PH (by omega) (by omega) rfl kw a5
      have mm := fun (x : Nat) => show M1 88 x = M 88 x by rw [g1.1 88 (by omega), hs_cell (by omega)]
      have main := s2_feN B hN hn K en P1 (D.fr' f1) (f0.trans f1) ((g0.trans (FrF_M FrM_9)).trans (FrF_M g1)) hr (by rw [mm]; exact v0) (fun u u1 u2 => by rw [mm]; exact vz u u1 u2)
      simp only [pu_lt, if_pos eq00, a5, e2, pu_bs]
      have r5' : r5 = 0 ∨ r5 = 1 := by rcases y5 with x | x; exact Or.inr x.1; exact Or.inl x.1
      rcases r5' with x | x
      · subst x
        simp only [if_pos eq00, e1, pu_bs]
        exact main
      · subst x
        simp only [if_neg ne10, e1, pu_bs]
        exact main
theorem s2_feastL (B : TB t E) (hN : 1000 < N) (P : Ps t E C M) (D : Ds C) (w : C 3 4 = -1) (K : Kp (M 88) C (M 83 12)) {a : Int} (ea : C 3 3 = a) (ha : 0 ≤ a ∧ a ≤ 400) : S2 (M_Reader_readFeast N C) (M_Md_feastLine N M a) (Q2 t E M) := by
  have w' : M 83 10 = -1 := by rw [← P.w]; exact w
  have kn := K.fe.many
  obtain ⟨n, en⟩ : ∃ n : Nat, M 88 42 = (n : Int) := ⟨(M 88 42).toNat, by omega⟩
  have e14 : C 14 0 = (n : Int) := by omega
  rw [feast_eq, feastM_eq]
  refine S2_r88 (n := 42) (by omega) (by omega) ?_
  rw [pu_lt, en, e14]
  by_cases c : n = 12
  · rw [if_pos (by rw [leb_iff (by omega) (by omega) (by omega) (by omega)]; omega), if_pos (by rw [eqb_iff (by omega) (by omega) (by omega) (by omega)]; omega)]
    (try dsimp only)
    rw [c_req (Or.inl rfl) P.c.wr, pu_bs, if_pos ⟨rfl, w⟩, m_wrong P.m.wr, pu_bs, if_pos w', ea]
    (try dsimp only)
    refine S2_bad (C := hs C 3 4 a) (M := hs M 83 10 a) (by rw [hs_at, hs_at]) (by rw [hs_at]; omega) (Sf_number B hN (Cs_4 P.c ha) (D.fr' FrC_4) (by omega) (by omega) (fun r g Pg Dg _ br => sf_feW B hN Pg Dg (by omega))) ?_ FrM_10.r
    unfold feJM
    rw [if_neg (flt_n (Ms_10 P.m (by omega)) (by rw [hs_at]; omega))]
    exact Bd_ok (Ms_10 P.m (by omega))
  · rw [if_neg (by rw [leb_iff (by omega) (by omega) (by omega) (by omega)]; omega), if_neg (by rw [eqb_iff (by omega) (by omega) (by omega) (by omega)]; omega)]
    (try dsimp only)
    rw [c_req (Or.inr rfl) P.c.wr, pu_bs, if_neg (fun z => by omega)]
    unfold feJM
    rw [if_pos (flt_y P.m w')]
    refine S2_r88 (n := 42) (by omega) (by omega) ?_
    rw [en]
    refine S2_number B hN P rfl (by omega) (by omega) (fun r rM C1 M1 P1 f1 g1 r1 b1 => ?_)
    (try dsimp only)
    refine S2_w88 (n := 43 + 7 * n) (by omega) (by omega) ?_
    have gF : FrF n M (hs M1 88 (43 + 7 * n) rM) := (FrF_M g1).trans (FrF_w (u := 0) (by omega))
    by_cases z : C1 3 4 = -1
    · have rz := r1 z
      refine s2_feW B hN (by omega) K en P1.wM (D.fr' f1) z f1 gF (by omega) (by rw [hs_at]; exact rz.1.symm) (fun u u1 u2 => ?_)
      rw [hs_slot (by omega), g1.1 88 (by omega)]
      exact K.fe.rest _ (by omega) (by omega)
    · exact S2_bad (by rw [hs_cell (by omega)]; exact P1.w) z (sf_feW B hN P1.c (D.fr' f1) (by omega)) (bd_feW B hN (Ms_w88 P1.m) (by rw [hs_cell (by omega), ← P1.w]; exact z) (by omega)) gF.r
end Lp2
