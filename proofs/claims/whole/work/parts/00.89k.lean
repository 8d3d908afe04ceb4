section Lm2
variable {t : Nat → Int} {E : Nat} {C M : Hp} {N : Nat}
def clTC (N : Nat) (h3 : Hp) : Option Hp := (M_Reader_readSigned N h3 (-99)).bind (fun q5 => (M_Reader_readSigned N q5.2 q5.1).bind (fun q7 => (M_Spans_add q7.2 10 q5.1 q7.1 0).bind (fun h9 => some h9)))
theorem closed_eq : M_Reader_readClosed N C = lt' (fun (s0_1 : Int) => (M_Reader_require C s0_1).bind (fun h3 => clTC N h3)) (fun j1 => if leb 4 (C 10 0) then j1 0 else j1 1) := by
  unfold M_Reader_readClosed clTC
  exact Eq.trans rfl rfl
theorem sf_clT (B : TB t E) (hN : 1000 < N) (P3 : Cs t E C) (D3 : Ds C) : Sf t E C (clTC N C) := by
  unfold clTC
  refine Sf_signed B hN P3 D3 (by omega) (fun a h5 P5 D5 _ ba => ?_)
  (try dsimp only)
  refine Sf_signed B hN P5 D5 (by omega) (fun b h7 P7 D7 _ bb => ?_)
  (try dsimp only)
  exact Sf_span (Or.inr rfl) P7 D7
theorem s2_closed (B : TB t E) (hN : 1000 < N) (P : Ps t E C M) (D : Ds C) (w : C 3 4 = -1) (K : Kp (M 88) C (M 83 12)) {a : Int} (ea : C 3 3 = a) (ha : 0 ≤ a ∧ a ≤ 400) : S2 (M_Reader_readClosed N C) (M_Md_closedLine N M a) (Q2 t E M) := by
  have w' : M 83 10 = -1 := by rw [← P.w]; exact w
  have nn := K.cl.ncl
  have km := K.mo.mon
  obtain ⟨n, en⟩ : ∃ n : Nat, M 88 33 = (n : Int) := ⟨(M 88 33).toNat, by omega⟩
  have e6 : C 10 0 = (n : Int) := by omega
  rw [closed_eq]
  unfold M_Md_closedLine
  refine S2_r88 (n := 33) (by omega) (by omega) ?_
  rw [pu_lt, pu_lt, en, e6]
  by_cases c : n = 4
  · rw [if_pos (by rw [leb_iff (by omega) (by omega) (by omega) (by omega)]; omega), if_pos (by rw [eqb_iff (by omega) (by omega) (by omega) (by omega)]; omega)]
    (try dsimp only)
    rw [c_req (Or.inl rfl) P.c.wr, pu_bs, if_pos ⟨rfl, w⟩, m_wrong P.m.wr, pu_bs, if_pos w', ea]
    (try dsimp only)
    refine S2_bad (C := hs C 3 4 a) (M := hs M 83 10 a) (by rw [hs_at, hs_at]) (by rw [hs_at]; omega) (sf_clT B hN (Cs_4 P.c ha) (D.fr' FrC_4)) ?_ FrM_10.r
    rw [if_neg (flt_n (Ms_10 P.m (by omega)) (by rw [hs_at]; omega))]
    exact Bd_ok (Ms_10 P.m (by omega))
  · rw [if_neg (by rw [leb_iff (by omega) (by omega) (by omega) (by omega)]; omega), if_neg (by rw [eqb_iff (by omega) (by omega) (by omega) (by omega)]; omega)]
    (try dsimp only)
    rw [c_req (Or.inr rfl) P.c.wr, pu_bs, if_neg (fun z => by omega), if_pos (flt_y P.m w')]
    refine S2_r88 (n := 33) (by omega) (by omega) ?_
    rw [en]
    unfold clTC
    refine S2_signed B hN P (fun _ => rfl) (by omega) (fun v1 m1 C1 M1 P1 f1 g1 r1 b1 => ?_)
    (try dsimp only)
    refine S2_w88 (n := 34 + 2 * n) (by omega) (by omega) ?_
    refine S2_r88 (n := 34 + 2 * n) (by omega) (by omega) ?_
    rw [hs_at]
    refine S2_signed B hN P1.wM (fun z => (r1 z).1) (by omega) (fun v2 m2 C2 M2 P2 f2 g2 r2 b2 => ?_)
    (try dsimp only)
    refine S2_w88 (n := 35 + 2 * n) (by omega) (by omega) ?_
    refine S2_r88 (n := 33) (by omega) (by omega) ?_
    have e20 : hs M2 88 (35 + 2 * n) m2 88 33 = (n : Int) := by rw [hs_slot (by omega), g2.1 88 (by omega), hs_slot (by omega), g1.1 88 (by omega), en]
    rw [e20]
    refine S2_w88 (n := 33) (by omega) (by omega) ?_
    have q6 : ∀ c, c ≠ 3 → C2 c = C c := fun c hc => by rw [f2.1 c hc, f1.1 c hc]
    rw [c_spansAdd (n := n) (by omega) (by rw [q6 10 (by omega)]; exact e6), pu_bs, if_neg c]
    refine ⟨_, _, rfl, rfl, (((((P2.wM).wM).wC (by omega)).wC (by omega)).wC (by omega)).wC (by omega), ?_, (((g1.r.trans FrR_w88).trans g2.r).trans FrR_w88).trans FrR_w88⟩
    intro z
    rw [hs_cell (by omega), hs_cell (by omega), hs_cell (by omega), hs_cell (by omega)] at z
    have y2 := r2 z
    have y1 := r1 y2.2
    have eb : hs (hs M2 88 (35 + 2 * n) m2) 88 33 ((n : Int) + 1) 88 = pu_up (pu_up (pu_up (M 88) (34 + 2 * n) m1) (35 + 2 * n) m2) 33 ((n : Int) + 1) := by rw [hs_up, hs_up, g2.1 88 (by omega), hs_up, g1.1 88 (by omega)]
    have e12 : hs (hs M2 88 (35 + 2 * n) m2) 88 33 ((n : Int) + 1) 83 12 = M 83 12 := by rw [hs_cell (by omega), hs_cell (by omega), g2.2 12 (by omega) (by omega), hs_cell (by omega), g1.2 12 (by omega) (by omega)]
    rw [eb, e12]
    generalize hb : pu_up (pu_up (pu_up (M 88) (34 + 2 * n) m1) (35 + 2 * n) m2) 33 ((n : Int) + 1) = b'
    have q : ∀ k, k ≠ 33 → k ≠ 34 + 2 * n → k ≠ 35 + 2 * n → b' k = M 88 k := fun k k0 k1 k2 => by rw [← hb, pu_up_ne k0, pu_up_ne k2, pu_up_ne k1]
    have q0 : b' 33 = (n : Int) + 1 := by rw [← hb, pu_up_at]
    have q2 : b' (35 + 2 * n) = m2 := by rw [← hb, pu_up_ne (by omega), pu_up_at]
    have q1 : b' (34 + 2 * n) = m1 := by rw [← hb, pu_up_ne (by omega), pu_up_ne (by omega), pu_up_at]
    generalize hC' : hs (hs (hs (hs C2 (10 + 1) n v1) (10 + 2) n v2) (10 + 3) n 0) 10 0 ((n + 1 : Nat) : Int) = C'
    have Cq : ∀ c, (c < 10 ∨ 13 < c) → c ≠ 3 → C' c = C c := fun c hc h3 => by rw [← hC', hs_cell (by omega), hs_cell (by omega), hs_cell (by omega), hs_cell (by omega)]; exact q6 c h3
    have C3j : ∀ j, 5 ≤ j → j ≤ 7 → C' 3 j = C 3 j := fun j j1 j2 => by rw [← hC', hs_cell (by omega), hs_cell (by omega), hs_cell (by omega), hs_cell (by omega), f2.2 j (by omega) (by omega) (by omega), f1.2 j (by omega) (by omega) (by omega)]
    have c0 : C' 10 0 = (n : Int) + 1 := by rw [← hC', hs_at]; omega
    have c7 : C' 11 = pu_up (C 11) n v1 := by rw [← hC', hs_cell (by omega), hs_cell (by omega), hs_cell (by omega), hs_up, q6 11 (by omega)]
    have c8 : C' 12 = pu_up (C 12) n v2 := by rw [← hC', hs_cell (by omega), hs_cell (by omega), hs_up, hs_cell (by omega), q6 12 (by omega)]
    refine Kp.mk (PMon_fr K.mo (fun k _ => q k (by omega) (by omega) (by omega)) (fun j _ _ => by rw [Cq 4 (by omega) (by omega)]) (Cq 5 (by omega) (by omega))) (PMoo_fr (by omega) K.ca (fun k _ => q k (by omega) (by omega) (by omega)) (fun j _ _ => by rw [Cq 4 (by omega) (by omega)])) (PSet_fr K.st (fun k _ _ => q k (by omega) (by omega) (by omega)) (fun j _ _ => by rw [Cq 4 (by omega) (by omega)]) C3j rfl) (PSea_fr K.se (fun k _ _ => q k (by omega) (by omega) (by omega)) (fun c _ _ => Cq c (by omega) (by omega))) (PClo.mk ?_ ?_) (PFea_fr (by omega) K.fe (fun k _ => q k (by omega) (by omega) (by omega)) (fun k _ _ => q k (by omega) (by omega) (by omega)) (fun c _ _ => Cq c (by omega) (by omega)))
    · rw [q0, c0]; omega
    · rw [q0, c7, c8]
      intro k hk
      unfold pu_up
      by_cases ck : k = n
      · subst ck
        rw [if_pos rfl, if_pos rfl, q1, q2]
        omega
      · rw [if_neg ck, if_neg ck, q _ (by omega) (by omega) (by omega), q _ (by omega) (by omega) (by omega)]
        exact K.cl.clo k (by omega)
theorem num_bg (B : TB t E) (hN : 1000 < N) (P : Cs t E C) {lo hi : Int} (hl : -100000 ≤ lo ∧ lo ≤ 100000) (hh : -100000 ≤ hi ∧ hi ≤ 100000) {v : Int} {h' : Hp} (e : M_Reader_readNumber N C lo hi = some (v, h')) : h' 3 3 = ((sc (bl t) E (C 3 2).toNat : Nat) : Int) := by
  have pc := P.pl
  have wc := P.wr
  obtain ⟨p, ep⟩ : ∃ p : Nat, C 3 2 = (p : Int) := ⟨(C 3 2).toNat, by omega⟩
  have k := c_number (N := N) B hN P.tc (show p ≤ E by omega) ep wc hl hh rfl rfl
  rw [e] at k
  have k2 := (Prod.mk.inj (Option.some.inj k)).2
  rw [k2, hs_slot (by omega), hs_slot (by omega), hs_at, ep, Int.toNat_natCast]
theorem Ps_here (P : Ps t E C M) {q : Nat} (eq : M 83 9 = (q : Int)) : Ps t E C (hs M 83 9 ((sc (bl t) E q : Nat) : Int)) := by
  have pm := P.m.pl
  have hb := sc_bd (f := bl t) (show q ≤ E by omega)
  refine Ps.mk P.c (Ms_9 P.m (by omega)) (by rw [hs_slot (by omega)]; exact P.w) (fun z => ?_)
  rw [hs_at, Int.toNat_natCast, sc_sc (by omega), P.s z, eq, Int.toNat_natCast]
theorem sf_fasT (B : TB t E) (p : Cs t E C) (Dg : Ds C) (nb : 0 ≤ C 3 3 ∧ C 3 3 ≤ C 3 2) {v : Int} : Sf t E C (if eqb (andI (shrI (C 4 13) v) 1) 0 then (M_Reader_require C 1).bind (fun h7 => lt' (hs h7 4 13 (orI (h7 4 13) (shlI 1 v))) (fun h8 => some h8)) else (M_Reader_require C 0).bind (fun h4 => lt' (hs h4 4 13 (orI (h4 4 13) (shlI 1 v))) (fun h5 => some h5))) := by
  refine Sf_ite (fun _ => ?_) (fun _ => ?_)
  · refine Sf_req B p Dg (Or.inr rfl) nb (fun h3 P3 D3 _ _ => ?_)
    exact Sf_w4 (Sf_ok (Cs_w P3 (by omega)) (Ds_w4 D3 (by omega)))
  · refine Sf_req B p Dg (Or.inl rfl) nb (fun h3 P3 D3 _ _ => ?_)
    exact Sf_w4 (Sf_ok (Cs_w P3 (by omega)) (Ds_w4 D3 (by omega)))
theorem s2_fast (B : TB t E) (hN : 1000 < N) (P : Ps t E C M) (D : Ds C) (w : C 3 4 = -1) (K : Kp (M 88) C (M 83 12)) : S2 (M_Reader_readFasting N C) (M_Md_fastLine N M) (Q2 t E M) := by
  have he := B.e
  have w' : M 83 10 = -1 := by rw [← P.w]; exact w
  have kw := K.mo.week
  have km := K.mo.mon
  have kf := K.st.fas
  have pm := P.m.pl
  obtain ⟨q, eq⟩ : ∃ q : Nat, M 83 9 = (q : Int) := ⟨(M 83 9).toNat, by omega⟩
  have hb := sc_bd (f := bl t) (show q ≤ E by omega)
  have st := P.s w
  rw [eq, Int.toNat_natCast] at st
  have P0 := Ps_here P eq
  unfold M_Reader_readFasting M_Md_fastLine
  rw [m_here B hN P.m.tm (show q ≤ E by omega) eq, pu_bs]
  (try dsimp only)
  refine S2_r88 (n := 0) (by omega) (by omega) ?_
  have x0 : hs M 83 9 ((sc (bl t) E q : Nat) : Int) 88 = M 88 := hs_cell (by omega)
  rw [x0]
  obtain ⟨v, vM, C1, M1, e, e', P1, f, g, r, b, _, _⟩ := number2 (N := N) (lo := 0) (hi := C 4 1 - 1) B hN P0 (by omega) (by omega)
  have bg := num_bg B hN P.c (by omega) (by omega) e
  rw [st] at bg
  have nb := nb_num B hN P.c (by omega) (by omega) e
  rw [show M 88 0 - 1 = C 4 1 - 1 by omega, e, e', pu_bs, pu_bs]
  (try dsimp only)
  generalize hbb : sc (bl t) E q = bb at *
  have g' : FrR M M1 := FrM_9.r.trans g.r
  have e88 : M1 88 = M 88 := by rw [g.1 88 (by omega), x0]
  have e12 : M1 83 12 = M 83 12 := by rw [g.2 12 (by omega) (by omega), hs_slot (by omega)]
  by_cases z : C1 3 4 = -1
  · have rz := r z
    have z' : M1 83 10 = -1 := by rw [← P1.w]; exact z
    rw [if_pos (flt_y P1.m z')]
    refine S2_r88 (n := 17) (by omega) (by omega) ?_
    have k13 : C1 4 13 = M 88 17 := by rw [f.1 4 (by omega)]; exact kf.2.2
    rw [e88, ← rz.1]
    have fb := fb_all v.toNat (by omega) (M 88 17).toNat (by omega)
    rw [show (((M 88 17).toNat : Nat) : Int) = M 88 17 by omega, show ((v.toNat : Nat) : Int) = v by omega] at fb
    obtain ⟨fb1, fb2, fb3⟩ := fb
    rcases fb1 with y | y
    · rw [if_pos (show eqb (andI (shrI (C1 4 13) v) 1) 0 = true by rw [k13, y]; exact eq00), if_neg (show ¬ eqb (andI (shrI (M 88 17) v) 1) 1 = true by rw [y, eqb_iff (by omega) (by omega) (by omega) (by omega)]; omega)]
      refine S2_r88 (n := 17) (by omega) (by omega) ?_
      rw [e88]
      refine S2_w88 (n := 17) (by omega) (by omega) ?_
      rw [c_req (Or.inr rfl) P1.c.wr, pu_bs, if_neg (fun z => by omega), pu_lt, k13]
      generalize orI (M 88 17) (shlI 1 v) = o at *
      refine ⟨_, _, rfl, rfl, (P1.wC (by omega)).wM, ?_, g'.trans FrR_w88⟩
      intro _
      have K1 : Kp (M1 88) C1 (M1 83 12) := by
        have := Kp_fr (M' := M1) (C' := C1) K f ⟨fun c hc => by rw [g.1 c hc, hs_cell hc], fun j j1 j2 => by rw [g.2 j j1 j2, hs_slot j1]⟩
        exact this
      rw [hs_up, hs_cell (by omega)]
      have m1 := K1.mo.mon
      have ks := K1.st
      have ux : ∀ k, k ≠ 17 → pu_up (M1 88) 17 o k = M1 88 k := fun k hk => pu_up_ne hk
      refine Kp.mk (PMon_fr K1.mo (fun k _ => ux k (by omega)) (fun j _ _ => hs_slot (by omega)) (hs_cell (by omega))) (PMoo_fr (by omega) K1.ca (fun k _ => ux k (by omega)) (fun j _ _ => hs_slot (by omega))) (PSet.mk ?_ ?_ ?_ ?_ ?_) (PSea_fr K1.se (fun k _ _ => ux k (by omega)) (fun c _ _ => hs_cell (by omega))) (PClo_fr K1.cl (fun k _ _ => ux k (by omega)) (fun c _ _ => hs_cell (by omega))) (PFea_fr (by omega) K1.fe (fun k _ => ux k (by omega)) (fun k _ _ => ux k (by omega)) (fun c _ _ => hs_cell (by omega)))
      · rw [ux 16 (by omega), hs_slot (by omega)]; exact ks.rch
      · rw [pu_up_at, hs_at]; exact ⟨fb2, fb3, rfl⟩
      · rw [ux 18 (by omega), hs_slot (by omega)]; exact ks.lft
      · rw [ux 19 (by omega), hs_slot (by omega)]; exact ks.rst
      · rw [hs_cell (by omega)]; exact ks.tld
    · rw [if_neg (show ¬ eqb (andI (shrI (C1 4 13) v) 1) 0 = true by rw [k13, y]; exact ne10), if_pos (show eqb (andI (shrI (M 88 17) v) 1) 1 = true by rw [y, eqb_iff (by omega) (by omega) (by omega) (by omega)])]
      rw [m_wrong P1.m.wr, pu_bs, if_pos z']
      refine S2_r88 (n := 17) (by omega) (by omega) ?_
      refine S2_w88 (n := 17) (by omega) (by omega) ?_
      rw [c_req (Or.inl rfl) P1.c.wr, pu_bs, if_pos ⟨rfl, z⟩, pu_lt, bg]
      refine ⟨_, _, rfl, rfl, ((Ps_wrong P1 (by omega)).wC (by omega)).wM, ?_, (g'.trans FrM_10.r).trans FrR_w88⟩
      intro x
      rw [hs_cell (by omega), hs_at] at x
      omega
  · rw [if_neg (flt_n P1.m (by rw [← P1.w]; exact z))]
    exact S2_bad P1.w z (sf_fasT B P1.c (D.fr' f) nb) (Bd_ok P1.m) g'
end Lm2
