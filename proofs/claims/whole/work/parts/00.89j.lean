set_option maxRecDepth 100000 in
theorem tb_0 : ∀ a, a < 2 → ∀ b, b < 2 → ∀ c, c < 2 → andI (shrI ((a + 2 * b + 4 * c : Nat) : Int) 0) 1 = ((a : Nat) : Int) := by decide +kernel
set_option maxRecDepth 100000 in
theorem tb_1 : ∀ a, a < 2 → ∀ b, b < 2 → ∀ c, c < 2 → andI (shrI ((a + 2 * b + 4 * c : Nat) : Int) 1) 1 = ((b : Nat) : Int) := by decide +kernel
set_option maxRecDepth 100000 in
theorem tb_2 : ∀ a, a < 2 → ∀ b, b < 2 → ∀ c, c < 2 → andI (shrI ((a + 2 * b + 4 * c : Nat) : Int) 2) 1 = ((c : Nat) : Int) := by decide +kernel
set_option maxRecDepth 100000 in
theorem to_0 : ∀ b, b < 2 → ∀ c, c < 2 → orI ((0 + 2 * b + 4 * c : Nat) : Int) (shlI 1 0) = ((1 + 2 * b + 4 * c : Nat) : Int) := by decide +kernel
set_option maxRecDepth 100000 in
theorem to_1 : ∀ a, a < 2 → ∀ c, c < 2 → orI ((a + 2 * 0 + 4 * c : Nat) : Int) (shlI 1 1) = ((a + 2 + 4 * c : Nat) : Int) := by decide +kernel
set_option maxRecDepth 100000 in
theorem to_2 : ∀ a, a < 2 → ∀ b, b < 2 → orI ((a + 2 * b + 4 * 0 : Nat) : Int) (shlI 1 2) = ((a + 2 * b + 4 : Nat) : Int) := by decide +kernel
set_option maxRecDepth 100000 in
theorem fb_all : ∀ v, v < 9 → ∀ a, a < 512 → (andI (shrI ((a : Nat) : Int) ((v : Nat) : Int)) 1 = 0 ∨ andI (shrI ((a : Nat) : Int) ((v : Nat) : Int)) 1 = 1) ∧ 0 ≤ orI ((a : Nat) : Int) (shlI 1 ((v : Nat) : Int)) ∧ orI ((a : Nat) : Int) (shlI 1 ((v : Nat) : Int)) < 512 := by decide +kernel
section Ll
variable {t : Nat → Int} {E : Nat} {C M : Hp} {N : Nat}
theorem flt_y (P : Ms t E M) (w : M 83 10 = -1) : eqb (M 83 10) (-1) = true := by rw [flt P]; exact w
theorem flt_n (P : Ms t E M) (w : M 83 10 ≠ -1) : ¬ eqb (M 83 10) (-1) = true := by rw [flt P]; exact w
theorem Cs_4 {a : Int} (P : Cs t E C) (ha : 0 ≤ a ∧ a ≤ 400) : Cs t E (hs C 3 4 a) := Cs.mk (TC_3 P.tc) (by rw [hs_slot (by omega)]; exact P.pl) (by rw [hs_at]; omega)
theorem FrC_4 {a : Int} : FrC C (hs C 3 4 a) := ⟨fun c hc => hs_cell hc, fun j _ _ j3 => hs_slot j3⟩
theorem Ps_wrong {a : Int} (P : Ps t E C M) (ha : 0 ≤ a ∧ a ≤ 400) : Ps t E (hs C 3 4 a) (hs M 83 10 a) := Ps.mk (Cs_4 P.c ha) (Ms_10 P.m (by omega)) (by rw [hs_at, hs_at]) (fun z => by rw [hs_at] at z; omega)
def seTC (N : Nat) (h3 : Hp) : Option Hp := (M_Reader_readSigned N h3 (-99)).bind (fun q5 => (M_Reader_readSigned N q5.2 q5.1).bind (fun q7 => (M_Reader_readNumber N q7.2 0 9).bind (fun q9 => (M_Spans_add q9.2 6 q5.1 q7.1 q9.1).bind (fun h11 => some h11))))
theorem season_eq : M_Reader_readSeason N C = lt' (fun (s0_1 : Int) => (M_Reader_require C s0_1).bind (fun h3 => seTC N h3)) (fun j1 => if leb 4 (C 6 0) then j1 0 else j1 1) := by
  unfold M_Reader_readSeason seTC
  exact Eq.trans rfl rfl
theorem sf_seT (B : TB t E) (hN : 1000 < N) (P3 : Cs t E C) (D3 : Ds C) : Sf t E C (seTC N C) := by
  unfold seTC
  refine Sf_signed B hN P3 D3 (by omega) (fun a h5 P5 D5 _ ba => ?_)
  (try dsimp only)
  refine Sf_signed B hN P5 D5 (by omega) (fun b h7 P7 D7 _ bb => ?_)
  (try dsimp only)
  refine Sf_number B hN P7 D7 (by omega) (by omega) (fun c h9 P9 D9 _ bc => ?_)
  (try dsimp only)
  exact Sf_span (Or.inl rfl) P9 D9
theorem s2_season (B : TB t E) (hN : 1000 < N) (P : Ps t E C M) (D : Ds C) (w : C 3 4 = -1) (K : Kp (M 88) C (M 83 12)) {a : Int} (ea : C 3 3 = a) (ha : 0 ≤ a ∧ a ≤ 400) : S2 (M_Reader_readSeason N C) (M_Md_seasonLine N M a) (Q2 t E M) := by
  have w' : M 83 10 = -1 := by rw [← P.w]; exact w
  have nn := K.se.nse
  have km := K.mo.mon
  obtain ⟨n, en⟩ : ∃ n : Nat, M 88 20 = (n : Int) := ⟨(M 88 20).toNat, by omega⟩
  have e6 : C 6 0 = (n : Int) := by omega
  rw [season_eq]
  unfold M_Md_seasonLine
  refine S2_r88 (n := 20) (by omega) (by omega) ?_
  rw [pu_lt, pu_lt, en, e6]
  by_cases c : n = 4
  · rw [if_pos (by rw [leb_iff (by omega) (by omega) (by omega) (by omega)]; omega), if_pos (by rw [eqb_iff (by omega) (by omega) (by omega) (by omega)]; omega)]
    (try dsimp only)
    rw [c_req (Or.inl rfl) P.c.wr, pu_bs, if_pos ⟨rfl, w⟩, m_wrong P.m.wr, pu_bs, if_pos w', ea]
    (try dsimp only)
    refine S2_bad (C := hs C 3 4 a) (M := hs M 83 10 a) (by rw [hs_at, hs_at]) (by rw [hs_at]; omega) (sf_seT B hN (Cs_4 P.c ha) (D.fr' FrC_4)) ?_ FrM_10.r
    rw [if_neg (flt_n (Ms_10 P.m (by omega)) (by rw [hs_at]; omega))]
    exact Bd_ok (Ms_10 P.m (by omega))
  · rw [if_neg (by rw [leb_iff (by omega) (by omega) (by omega) (by omega)]; omega), if_neg (by rw [eqb_iff (by omega) (by omega) (by omega) (by omega)]; omega)]
    (try dsimp only)
    rw [c_req (Or.inr rfl) P.c.wr, pu_bs, if_neg (fun z => by omega), if_pos (flt_y P.m w')]
    refine S2_r88 (n := 20) (by omega) (by omega) ?_
    rw [en]
    unfold seTC
    refine S2_signed B hN P (fun _ => rfl) (by omega) (fun v1 m1 C1 M1 P1 f1 g1 r1 b1 => ?_)
    (try dsimp only)
    refine S2_w88 (n := 21 + 3 * n) (by omega) (by omega) ?_
    refine S2_r88 (n := 21 + 3 * n) (by omega) (by omega) ?_
    rw [hs_at]
    refine S2_signed B hN P1.wM (fun z => (r1 z).1) (by omega) (fun v2 m2 C2 M2 P2 f2 g2 r2 b2 => ?_)
    (try dsimp only)
    refine S2_w88 (n := 22 + 3 * n) (by omega) (by omega) ?_
    refine S2_number B hN P2.wM rfl (by omega) (by omega) (fun v3 m3 C3 M3 P3 f3 g3 r3 b3 => ?_)
    (try dsimp only)
    refine S2_w88 (n := 23 + 3 * n) (by omega) (by omega) ?_
    refine S2_r88 (n := 20) (by omega) (by omega) ?_
    have e20 : hs M3 88 (23 + 3 * n) m3 88 20 = (n : Int) := by rw [hs_slot (by omega), g3.1 88 (by omega), hs_slot (by omega), g2.1 88 (by omega), hs_slot (by omega), g1.1 88 (by omega), en]
    rw [e20]
    refine S2_w88 (n := 20) (by omega) (by omega) ?_
    have q6 : ∀ c, c ≠ 3 → C3 c = C c := fun c hc => by rw [f3.1 c hc, f2.1 c hc, f1.1 c hc]
    rw [c_spansAdd (n := n) (by omega) (by rw [q6 6 (by omega)]; exact e6), pu_bs, if_neg c]
    refine ⟨_, _, rfl, rfl, (((((P3.wM).wM).wC (by omega)).wC (by omega)).wC (by omega)).wC (by omega), ?_, ((((g1.r.trans FrR_w88).trans g2.r).trans FrR_w88).trans g3.r).trans (FrR_w88.trans FrR_w88)⟩
    intro z
    rw [hs_cell (by omega), hs_cell (by omega), hs_cell (by omega), hs_cell (by omega)] at z
    have y3 := r3 z
    have y2 := r2 y3.2.2.2
    have y1 := r1 y2.2
    have eb : hs (hs M3 88 (23 + 3 * n) m3) 88 20 ((n : Int) + 1) 88 = pu_up (pu_up (pu_up (pu_up (M 88) (21 + 3 * n) m1) (22 + 3 * n) m2) (23 + 3 * n) m3) 20 ((n : Int) + 1) := by rw [hs_up, hs_up, g3.1 88 (by omega), hs_up, g2.1 88 (by omega), hs_up, g1.1 88 (by omega)]
    have e12 : hs (hs M3 88 (23 + 3 * n) m3) 88 20 ((n : Int) + 1) 83 12 = M 83 12 := by rw [hs_cell (by omega), hs_cell (by omega), g3.2 12 (by omega) (by omega), hs_cell (by omega), g2.2 12 (by omega) (by omega), hs_cell (by omega), g1.2 12 (by omega) (by omega)]
    rw [eb, e12]
    generalize hb : pu_up (pu_up (pu_up (pu_up (M 88) (21 + 3 * n) m1) (22 + 3 * n) m2) (23 + 3 * n) m3) 20 ((n : Int) + 1) = b'
    have q : ∀ k, k ≠ 20 → k ≠ 21 + 3 * n → k ≠ 22 + 3 * n → k ≠ 23 + 3 * n → b' k = M 88 k := fun k k0 k1 k2 k3 => by rw [← hb, pu_up_ne k0, pu_up_ne k3, pu_up_ne k2, pu_up_ne k1]
    have q0 : b' 20 = (n : Int) + 1 := by rw [← hb, pu_up_at]
    have q3 : b' (23 + 3 * n) = m3 := by rw [← hb, pu_up_ne (by omega), pu_up_at]
    have q2 : b' (22 + 3 * n) = m2 := by rw [← hb, pu_up_ne (by omega), pu_up_ne (by omega), pu_up_at]
    have q1 : b' (21 + 3 * n) = m1 := by rw [← hb, pu_up_ne (by omega), pu_up_ne (by omega), pu_up_ne (by omega), pu_up_at]
    generalize hC' : hs (hs (hs (hs C3 (6 + 1) n v1) (6 + 2) n v2) (6 + 3) n v3) 6 0 ((n + 1 : Nat) : Int) = C'
    have Cq : ∀ c, (c < 6 ∨ 9 < c) → c ≠ 3 → C' c = C c := fun c hc h3 => by rw [← hC', hs_cell (by omega), hs_cell (by omega), hs_cell (by omega), hs_cell (by omega)]; exact q6 c h3
    have C3j : ∀ j, 5 ≤ j → j ≤ 7 → C' 3 j = C 3 j := fun j j1 j2 => by rw [← hC', hs_cell (by omega), hs_cell (by omega), hs_cell (by omega), hs_cell (by omega), f3.2 j (by omega) (by omega) (by omega), f2.2 j (by omega) (by omega) (by omega), f1.2 j (by omega) (by omega) (by omega)]
    have c0 : C' 6 0 = (n : Int) + 1 := by rw [← hC', hs_at]; omega
    have c7 : C' 7 = pu_up (C 7) n v1 := by rw [← hC', hs_cell (by omega), hs_cell (by omega), hs_cell (by omega), hs_up, q6 7 (by omega)]
    have c8 : C' 8 = pu_up (C 8) n v2 := by rw [← hC', hs_cell (by omega), hs_cell (by omega), hs_up, hs_cell (by omega), q6 8 (by omega)]
    have c9 : C' 9 = pu_up (C 9) n v3 := by rw [← hC', hs_cell (by omega), hs_up, hs_cell (by omega), hs_cell (by omega), q6 9 (by omega)]
    refine Kp.mk (PMon_fr K.mo (fun k _ => q k (by omega) (by omega) (by omega) (by omega)) (fun j _ _ => by rw [Cq 4 (by omega) (by omega)]) (Cq 5 (by omega) (by omega))) (PMoo_fr (by omega) K.ca (fun k _ => q k (by omega) (by omega) (by omega) (by omega)) (fun j _ _ => by rw [Cq 4 (by omega) (by omega)])) (PSet_fr K.st (fun k _ _ => q k (by omega) (by omega) (by omega) (by omega)) (fun j _ _ => by rw [Cq 4 (by omega) (by omega)]) C3j rfl) (PSea.mk ?_ ?_) (PClo_fr K.cl (fun k _ _ => q k (by omega) (by omega) (by omega) (by omega)) (fun c _ _ => Cq c (by omega) (by omega))) (PFea_fr (by omega) K.fe (fun k _ => q k (by omega) (by omega) (by omega) (by omega)) (fun k _ _ => q k (by omega) (by omega) (by omega) (by omega)) (fun c _ _ => Cq c (by omega) (by omega)))
    · rw [q0, c0]; omega
    · rw [q0, c7, c8, c9]
      intro k hk
      unfold pu_up
      by_cases ck : k = n
      · subst ck
        rw [if_pos rfl, if_pos rfl, if_pos rfl, q1, q2, q3]
        omega
      · rw [if_neg ck, if_neg ck, if_neg ck, q _ (by omega) (by omega) (by omega) (by omega), q _ (by omega) (by omega) (by omega) (by omega), q _ (by omega) (by omega) (by omega) (by omega)]
        exact K.se.sea k (by omega)
end Ll
