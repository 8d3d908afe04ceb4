section Ln2
variable {t : Nat → Int} {E : Nat} {C M : Hp} {N : Nat}
theorem FrR_12 {h : Hp} {v : Int} : FrR h (hs h 83 12 v) := ⟨fun x h1 _ => hs_cell h1, fun j _ _ j3 => hs_slot j3⟩
theorem s2_once (B : TB t E) (hN : 1000 < N) (P : Ps t E C M) (K : Kp (M 88) C (M 83 12)) {k j n3 : Nat} {a1 a2 a3 lo hi w2 : Int} (hk : 5 ≤ k) (hj : 10 ≤ j) (h3 : 16 ≤ n3 ∧ n3 ≤ 19) (e3 : a3 = (n3 : Int)) (bit : andI (shrI (M 83 12) a1) 1 = 0) (ow : orI (M 83 12) (shlI 1 a1) = w2)
    (hl : -100000 ≤ lo ∧ lo ≤ 100000) (hh : -100000 ≤ hi ∧ hi ≤ 100000)
    (hset : ∀ (v : Int) (b' : Nat → Int) (h' : Hp), lo ≤ v → v ≤ hi → (∀ n, n ≠ n3 → b' n = M 88 n) → b' n3 = v → (∀ x, x ≠ j → h' 4 x = C 4 x) → h' 4 j = v → (∀ x, 5 ≤ x → x ≤ 7 → x ≠ k → h' 3 x = C 3 x) → h' 3 k = 1 → PSet b' h' w2) :
    S2 (ckB 1 (lt' (hs C 3 k 1) (fun h29 => (M_Reader_readNumber N h29 lo hi).bind (fun q31 => lt' (hs q31.2 4 j q31.1) (fun h32 => some h32))))) (M_Md_once N M a1 a2 a3 lo hi) (Q2 t E M) := by
  have km := K.mo.mon
  unfold M_Md_once
  simp only [pu_lt, pu_c1]
  rw [if_neg (by rw [bit, eqb_iff (by omega) (by omega) (by omega) (by omega)]; omega), ow]
  refine S2_number B hN ((P.wC3 hk).wM12) rfl hl hh (fun v vM C1 M1 P1 f g r b => ?_)
  (try dsimp only)
  refine S2_w88 (n := n3) e3 (by omega) ?_
  refine ⟨_, _, rfl, rfl, (P1.wC (by omega)).wM, ?_, (FrR_12.trans g.r).trans FrR_w88⟩
  intro z
  rw [hs_cell (by omega)] at z
  have rz := r z
  have e88 : M1 88 = M 88 := by rw [g.1 88 (by omega), hs_cell (by omega)]
  have e12 : hs M1 88 n3 vM 83 12 = w2 := by rw [hs_cell (by omega), g.2 12 (by omega) (by omega), hs_at]
  rw [hs_up, e88, e12]
  have ux : ∀ x, x ≠ n3 → pu_up (M 88) n3 vM x = M 88 x := fun x hx => pu_up_ne hx
  have cx : ∀ c, c ≠ 3 → c ≠ 4 → hs C1 4 j v c = C c := fun c c3 c4 => by rw [hs_cell c4, f.1 c c3, hs_cell c3]
  have c4 : ∀ x, x ≠ j → hs C1 4 j v 4 x = C 4 x := fun x hx => by rw [hs_slot hx, f.1 4 (by omega), hs_cell (by omega)]
  refine Kp.mk (PMon_fr K.mo (fun x _ => ux x (by omega)) (fun x _ _ => c4 x (by omega)) (cx 5 (by omega) (by omega))) (PMoo_fr (by omega) K.ca (fun x _ => ux x (by omega)) (fun x _ _ => c4 x (by omega))) (hset v _ _ rz.2.1 rz.2.2.1 ux (by rw [pu_up_at]; exact rz.1.symm) c4 hs_at (fun x x1 x2 x3 => by rw [hs_cell (by omega), f.2 x (by omega) (by omega) (by omega), hs_slot x3]) (by rw [hs_cell (by omega), f.2 k (by omega) (by omega) (by omega), hs_at])) (PSea_fr K.se (fun x _ _ => ux x (by omega)) (fun c _ _ => cx c (by omega) (by omega))) (PClo_fr K.cl (fun x _ _ => ux x (by omega)) (fun c _ _ => cx c (by omega) (by omega))) (PFea_fr (by omega) K.fe (fun x _ => ux x (by omega)) (fun x _ _ => ux x (by omega)) (fun c _ _ => cx c (by omega) (by omega)))
theorem once_bad (P : Ms t E M) (w : M 83 10 = -1) {n3 : Nat} {a1 a2 a3 lo hi : Int} (h3 : n3 < 127) (e3 : a3 = (n3 : Int)) (bit : andI (shrI (M 83 12) a1) 1 = 1) (ha : 0 ≤ a2 ∧ a2 ≤ 400) : Bd t E (hs M 83 10 a2) (M_Md_once N M a1 a2 a3 lo hi) := by
  unfold M_Md_once
  simp only [pu_lt]
  rw [if_pos (by rw [bit, eqb_iff (by omega) (by omega) (by omega) (by omega)]), m_wrong P.wr, pu_bs, if_pos w]
  have P1 : Ms t E (hs M 83 10 a2) := Ms_10 P (by omega)
  have e10 : hs M 83 10 a2 83 10 = a2 := hs_at
  generalize hs M 83 10 a2 = G at *
  refine Bd_tr (h1 := hs G 83 12 (orI (G 83 12) (shlI 1 a1))) (hs_slot (by omega)) FrR_12 ?_
  refine Bd_number (Ms_12 P1) (by rw [hs_slot (by omega), e10]; omega) ?_
  exact Bd_w88 e3 h3 (Bd_ok (Ms_w88 (Ms_12 P1)))
theorem Ps_word {b e : Nat} (P : Ps t E C M) (hE : e ≤ E) : Ps t E (hs (hs C 3 3 (b : Int)) 3 2 (e : Int)) (hs M 83 9 (e : Int)) := by
  have g4 : hs (hs C 3 3 (b : Int)) 3 2 (e : Int) 3 4 = C 3 4 := by rw [hs_slot (by omega), hs_slot (by omega)]
  exact Ps.mk (Cs.mk (TC_3 (TC_3 P.c.tc)) (by rw [hs_at]; omega) (by rw [g4]; exact P.c.wr)) (Ms_9 P.m (by omega)) (by rw [g4, hs_slot (by omega)]; exact P.w) (fun _ => by rw [hs_at, hs_at])
theorem FrC_word {b e : Int} : FrC C (hs (hs C 3 3 b) 3 2 e) := ⟨fun c hc => by rw [hs_cell hc, hs_cell hc], fun j j1 j2 _ => by rw [hs_slot j1, hs_slot j2]⟩
theorem law2 (B : TB t E) (hN : 1000 < N) (P : Ps t E C M) (w : C 3 4 = -1) : ∃ v vM C' M', M_Reader_readLaw N C = some (v, C') ∧ M_Md_lawWord N M = some (vM, M') ∧ Ps t E C' M' ∧ FrC C C' ∧ FrM M M' ∧ (C' 3 4 = -1 → v = vM ∧ 0 ≤ v ∧ v ≤ 3) := by
  have he := B.e
  have pc := P.c.pl
  have pm := P.m.pl
  have w' : M 83 10 = -1 := by rw [← P.w]; exact w
  obtain ⟨p, ep⟩ : ∃ p : Nat, C 3 2 = (p : Int) := ⟨(C 3 2).toNat, by omega⟩
  obtain ⟨q, eq⟩ : ∃ q : Nat, M 83 9 = (q : Int) := ⟨(M 83 9).toNat, by omega⟩
  have st := P.s w
  rw [ep, eq, Int.toNat_natCast, Int.toNat_natCast] at st
  have hb := sc_bd (f := bl t) (show p ≤ E by omega)
  generalize eb : sc (bl t) E p = b at *
  have hee := sc_bd (f := le' t) hb.2
  generalize ee : sc (le' t) E b = e at *
  have cL := c_law (N := N) B hN P.c.tc (show p ≤ E by omega) ep P.c.wr eb ee
  have mL := m_law (N := N) B hN P.m.tm (show q ≤ E by omega) eq w' st.symm ee
  rw [show txS 30 = txS 6 from rfl, show txS 31 = txS 7 from rfl, show txS 32 = txS 8 from rfl, show txS 33 = txS 9 from rfl] at mL
  rw [if_pos w] at cL
  have good : ∀ v : Int, 0 ≤ v ∧ v ≤ 3 → M_Reader_readLaw N C = some (v, hs (hs C 3 3 (b : Int)) 3 2 (e : Int)) → M_Md_lawWord N M = some (v, hs M 83 9 (e : Int)) → ∃ v vM C' M', M_Reader_readLaw N C = some (v, C') ∧ M_Md_lawWord N M = some (vM, M') ∧ Ps t E C' M' ∧ FrC C C' ∧ FrM M M' ∧ (C' 3 4 = -1 → v = vM ∧ 0 ≤ v ∧ v ≤ 3) := fun v hv k m => ⟨v, v, _, _, k, m, Ps_word P hee.2, FrC_word, FrM_9, fun _ => ⟨rfl, hv⟩⟩
  have bad : M_Reader_readLaw N C = some (3, hs (hs (hs C 3 3 (b : Int)) 3 2 (e : Int)) 3 4 (b : Int)) → M_Md_lawWord N M = some (-1, hs (hs M 83 9 (b : Int)) 83 10 (b : Int)) → ∃ v vM C' M', M_Reader_readLaw N C = some (v, C') ∧ M_Md_lawWord N M = some (vM, M') ∧ Ps t E C' M' ∧ FrC C C' ∧ FrM M M' ∧ (C' 3 4 = -1 → v = vM ∧ 0 ≤ v ∧ v ≤ 3) := fun k m => by
    refine ⟨3, -1, _, _, k, m, ?_, FrC_word.trans FrC_4, FrM_9.trans FrM_10, fun z => by rw [hs_at] at z; omega⟩
    have g4 : hs (hs (hs C 3 3 (b : Int)) 3 2 (e : Int)) 3 4 (b : Int) 3 4 = (b : Int) := hs_at
    exact Ps.mk (Cs_4 (Ps_word (b := b) P hee.2).c (by omega)) (Ms_10 (Ms_9 P.m (by omega)) (by omega)) (by rw [hs_at, hs_at]) (fun z => by rw [g4] at z; omega)
  rcases cL with ⟨c1, k⟩ | ⟨c1, c2, k⟩ | ⟨c1, c2, c3, k⟩ | ⟨c1, c2, c3, c4, k⟩ | ⟨c1, c2, c3, c4, k⟩ <;> rcases mL with ⟨d1, m⟩ | ⟨d1, d2, m⟩ | ⟨d1, d2, d3, m⟩ | ⟨d1, d2, d3, d4, m⟩ | ⟨d1, d2, d3, d4, m⟩ <;> first | contradiction | exact good _ (by omega) k m | exact bad k m
def FrX (n : Nat) (M M' : Hp) : Prop := (∀ c, c ≠ 83 → c ≠ 88 → M' c = M c) ∧ (∀ j, j ≠ 9 → j ≠ 10 → M' 83 j = M 83 j) ∧ (∀ x, x ≠ n → M' 88 x = M 88 x)
theorem FrX_M {n : Nat} {M M' : Hp} (g : FrM M M') : FrX n M M' := ⟨fun c c1 _ => g.1 c c1, fun j j1 j2 => g.2 j j1 j2, fun x _ => by rw [g.1 88 (by omega)]⟩
theorem FrX_w {n : Nat} {M M' : Hp} {v : Int} (g : FrM M M') : FrX n M (hs M' 88 n v) := ⟨fun c c1 c2 => by rw [hs_cell c2]; exact g.1 c c1, fun j j1 j2 => by rw [hs_cell (by omega)]; exact g.2 j j1 j2, fun x hx => by rw [hs_slot hx, g.1 88 (by omega)]⟩
theorem S2_law (B : TB t E) (hN : 1000 < N) (P : Ps t E C M) {K : Int × Hp → Option Hp} {R : Hp → Option Hp} {i : Int} {n : Nat} (ei : i = (n : Int)) (hn : n < 127) {Q : Hp → Hp → Prop}
    (k : ∀ v C' M', Ps t E C' M' → FrC C C' → FrX n M M' → (C' 3 4 = -1 → C 3 4 = -1 ∧ (0 ≤ v ∧ v ≤ 3) ∧ M' 88 n = v) → S2 (K (v, C')) (R M') Q) :
    S2 ((M_Reader_readLaw N C).bind K) (if eqb (M 83 10) (-1) then (M_Md_lawWord N M).bind (fun q51 => (wrA q51.2 88 127 i q51.1).bind (fun h52 => R h52)) else R M) Q := by
  by_cases c : C 3 4 = -1
  · have w' : M 83 10 = -1 := by rw [← P.w]; exact c
    rw [if_pos (flt_y P.m w')]
    obtain ⟨v, vM, C', M', e, e', P', f, g, r⟩ := law2 (N := N) B hN P c
    rw [e, e', pu_bs, pu_bs]
    (try dsimp only)
    refine S2_w88 ei hn ?_
    exact k v C' _ P'.wM f (FrX_w g) (fun z => ⟨c, (r z).2, by rw [hs_at]; exact (r z).1.symm⟩)
  · rw [if_neg (flt_n P.m (by rw [← P.w]; exact c))]
    obtain ⟨v, C', e, p, f, w⟩ := lawC (N := N) B hN P.c
    rw [e, pu_bs]
    have nw : C' 3 4 ≠ -1 := by rw [w c]; exact c
    exact k v C' M (Ps.mk p P.m (by rw [w c]; exact P.w) (fun z => absurd z nw)) f ⟨fun _ _ _ => rfl, fun _ _ _ => rfl, fun _ _ => rfl⟩ (fun z => absurd z nw)
theorem S2_option (B : TB t E) (hN : 1000 < N) (P : Ps t E C M) {o o' : Nat} (ho : o < 36) (ho' : o' < 36) (eo : txS o = txS o') {K : Int × Hp → Option Hp} {R : Hp → Option Hp} {i : Int} {n : Nat} (ei : i = (n : Int)) (hn : n < 127) (z0 : C 3 4 = -1 → M 88 n = 0) {Q : Hp → Hp → Prop}
    (k : ∀ v C' M', Ps t E C' M' → FrC C C' → FrX n M M' → (C' 3 4 = -1 → C 3 4 = -1 ∧ (0 ≤ v ∧ v ≤ 9) ∧ M' 88 n = v) → S2 (K (v, C')) (R M') Q) :
    S2 ((M_Reader_readOption N C o).bind K) ((M_Md_has N M o').bind (fun q => if eqb q.1 0 then R q.2 else (M_Md_number N q.2 1 9).bind (fun q' => (wrA q'.2 88 127 i q'.1).bind (fun h => R h)))) Q := by
  have he := B.e
  have pc := P.c.pl
  have pm := P.m.pl
  obtain ⟨p, ep⟩ : ∃ p : Nat, C 3 2 = (p : Int) := ⟨(C 3 2).toNat, by omega⟩
  obtain ⟨q, eq⟩ : ∃ q : Nat, M 83 9 = (q : Int) := ⟨(M 83 9).toNat, by omega⟩
  have hbq := sc_bd (f := bl t) (show q ≤ E by omega)
  obtain ⟨rr, e', z⟩ := m_has (N := N) (w := o') B hN P.m.tm ho' (show q ≤ E by omega) eq P.m.wr
  rw [e', pu_bs]
  by_cases c : C 3 4 = -1
  · have w' : M 83 10 = -1 := by rw [← P.w]; exact c
    have st := P.s c
    rw [ep, eq, Int.toNat_natCast, Int.toNat_natCast] at st
    rw [← st] at z hbq
    have kw := c_word (N := N) B hN P.c.tc (show p ≤ E by omega) ep
    generalize eb : sc (bl t) E p = b at *
    have hb : b ≤ E := hbq.2
    have hee := sc_bd (f := le' t) hb
    generalize ee : sc (le' t) E b = e at *
    have PW := Ps_word (b := b) P hee.2
    have g3 : hs (hs C 3 3 (b : Int)) 3 2 (e : Int) 3 3 = (b : Int) := by rw [hs_slot (by omega), hs_at]
    have g2 : hs (hs C 3 3 (b : Int)) 3 2 (e : Int) 3 2 = (e : Int) := hs_at
    have g4 : hs (hs C 3 3 (b : Int)) 3 2 (e : Int) 3 4 = C 3 4 := by rw [hs_slot (by omega), hs_slot (by omega)]
    obtain ⟨r, a, y⟩ := c_isWord (N := N) (w := o) B hN PW.c.tc ho g3 g2 hee.1 hee.2
    unfold M_Reader_readOption
    rw [kw, pu_bs, a, pu_bs]
    rw [← eo] at z
    rcases y with ⟨y1, y2⟩ | ⟨y1, y2⟩
    · rcases z with ⟨_, _, z3⟩ | ⟨z1, _⟩
      · rw [y1, if_neg ne10, z3]
        (try dsimp only)
        rw [if_neg ne10]
        obtain ⟨v, vM, C', M', e1, e2, P', f, g, r', _, _, _⟩ := number2 (N := N) (lo := 1) (hi := 9) B hN PW (by omega) (by omega)
        rw [e1, e2, pu_bs, pu_bs, pu_bs]
        (try dsimp only)
        refine S2_w88 ei hn ?_
        exact k v C' _ P'.wM (FrC_word.trans f) (FrX_w (FrM_9.trans g)) (fun x => ⟨c, by have := r' x; omega, by rw [hs_at]; exact (r' x).1.symm⟩)
      · exact absurd ⟨w', y2⟩ z1
    · rcases z with ⟨_, z2, _⟩ | ⟨_, z3⟩
      · exact absurd z2 y2
      · rw [y1, if_pos eq00, z3, pu_lt, pu_bs]
        (try dsimp only)
        rw [if_pos eq00]
        have h4 : hs (hs (hs C 3 3 (b : Int)) 3 2 (e : Int)) 3 2 (C 3 2) 3 4 = C 3 4 := by rw [hs_slot (by omega)]; exact g4
        refine k 0 _ _ (Ps.mk (Cs.mk (TC_3 PW.c.tc) (by rw [hs_at]; exact pc) (by rw [h4]; exact P.c.wr)) (Ms_9 P.m (by omega)) (by rw [h4, hs_slot (by omega)]; exact P.w) (fun _ => ?_)) (FrC_word.trans ⟨fun c hc => hs_cell hc, fun j j1 _ _ => hs_slot j1⟩) (FrX_M FrM_9) (fun _ => ⟨c, by omega, by rw [hs_cell (by omega)]; exact z0 c⟩)
        rw [hs_at, hs_at, ep, Int.toNat_natCast, Int.toNat_natCast, ← eb, sc_sc (by omega)]
  · rcases z with ⟨z1, _⟩ | ⟨_, z3⟩
    · exact absurd (P.w.trans z1) c
    · rw [z3]
      (try dsimp only)
      rw [if_pos eq00]
      obtain ⟨v, C', e, p', f, w⟩ := optionC (N := N) B hN P.c ho
      rw [e, pu_bs]
      have nw : C' 3 4 ≠ -1 := by rw [w c]; exact c
      exact k v C' _ (Ps.mk p' (Ms_9 P.m (by omega)) (by rw [w c, hs_slot (by omega)]; exact P.w) (fun z => absurd z nw)) f (FrX_M FrM_9) (fun z => absurd z nw)
end Ln2
