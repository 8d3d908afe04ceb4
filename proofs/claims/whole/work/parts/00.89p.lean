def spM (N : Nat) (h40 : Hp) : Option Hp := (M_Md_here N h40).bind (fun q42 => (M_Md_number N q42.2 1 30).bind (fun q44 => (wrA q44.2 88 127 15 q44.1).bind (fun h45 => if eqb (h45 83 10) (-1) then (rdA h45 88 127 13).bind (fun x46 => (rdA h45 88 127 15).bind (fun x47 => (rdA h45 88 127 0).bind (fun x48 => (M_Md_monthsOf N h45 88 127).bind (fun x50 => if leb ((x46 + x47) + x48) x50 then some h45 else (M_Md_wrong h45 q42.1).bind (fun h52 => some h52))))) else some h45)))
def moNM (N : Nat) (h31 : Hp) : Option Hp := (M_Md_number N h31 1 19).bind (fun q33 => (wrA q33.2 88 127 12 q33.1).bind (fun h34 => (M_Md_number N h34 0 99).bind (fun q36 => (wrA q36.2 88 127 13 q36.1).bind (fun h37 => (M_Md_number N h37 0 30).bind (fun q39 => (wrA q39.2 88 127 14 q39.1).bind (fun h40 => spM N h40))))))
def moTM (N : Nat) (h29 : Hp) : Option Hp := (M_Md_expects N h29 20).bind (fun h31 => moNM N h31)
def moM (N : Nat) (h19 : Hp) : Option Hp := (M_Md_has N h19 19).bind (fun q21 => if eqb q21.1 0 then moTM N q21.2 else (M_Md_number N q21.2 2 9).bind (fun q54 => (wrA q54.2 88 127 10 q54.1).bind (fun h55 => (rdA h55 88 127 1).bind (fun x56 => (M_Md_number N h55 0 (x56 - 1)).bind (fun q58 => (wrA q58.2 88 127 11 q58.1).bind (fun h59 => moTM N h59))))))
def FrH (M M' : Hp) : Prop := (∀ c, c ≠ 83 → c ≠ 88 → M' c = M c) ∧ (∀ j, j ≠ 9 → j ≠ 10 → M' 83 j = M 83 j) ∧ (∀ x, 16 ≤ x → M' 88 x = M 88 x)
def FrHC (C C' : Hp) : Prop := (∀ c, c ≠ 3 → c ≠ 4 → c ≠ 5 → C' c = C c) ∧ (∀ j, 5 ≤ j → C' 3 j = C 3 j) ∧ (∀ j, 10 ≤ j → C' 4 j = C 4 j)
def Hd (n : Nat) (C0 M0 C M : Hp) : Prop := (3 ≤ M 88 0 ∧ M 88 0 ≤ 9 ∧ C 4 1 = M 88 0) ∧ (M 88 1 = (n : Int) ∧ C 4 2 = (n : Int)) ∧ (C 4 3 = msum (M 88) n) ∧ (∀ i : Nat, i < n → (5 ≤ M 88 (2 + i) ∧ M 88 (2 + i) ≤ 31) ∧ C 5 i = M 88 (2 + i)) ∧ (FrH M0 M) ∧ (FrHC C0 C)
theorem Hd.week {n : Nat} {C0 M0 C M : Hp} (q_ : Hd n C0 M0 C M) : 3 ≤ M 88 0 ∧ M 88 0 ≤ 9 ∧ C 4 1 = M 88 0 := q_.1
theorem Hd.mon {n : Nat} {C0 M0 C M : Hp} (q_ : Hd n C0 M0 C M) : M 88 1 = (n : Int) ∧ C 4 2 = (n : Int) := q_.2.1
theorem Hd.yday {n : Nat} {C0 M0 C M : Hp} (q_ : Hd n C0 M0 C M) : C 4 3 = msum (M 88) n := q_.2.2.1
theorem Hd.days {n : Nat} {C0 M0 C M : Hp} (q_ : Hd n C0 M0 C M) : ∀ i : Nat, i < n → (5 ≤ M 88 (2 + i) ∧ M 88 (2 + i) ≤ 31) ∧ C 5 i = M 88 (2 + i) := q_.2.2.2.1
theorem Hd.fm {n : Nat} {C0 M0 C M : Hp} (q_ : Hd n C0 M0 C M) : FrH M0 M := q_.2.2.2.2.1
theorem Hd.fc {n : Nat} {C0 M0 C M : Hp} (q_ : Hd n C0 M0 C M) : FrHC C0 C := q_.2.2.2.2.2
theorem Hd.mk {n : Nat} {C0 M0 C M : Hp} (week_ : 3 ≤ M 88 0 ∧ M 88 0 ≤ 9 ∧ C 4 1 = M 88 0) (mon_ : M 88 1 = (n : Int) ∧ C 4 2 = (n : Int)) (yday_ : C 4 3 = msum (M 88) n) (days_ : ∀ i : Nat, i < n → (5 ≤ M 88 (2 + i) ∧ M 88 (2 + i) ≤ 31) ∧ C 5 i = M 88 (2 + i)) (fm_ : FrH M0 M) (fc_ : FrHC C0 C) : Hd n C0 M0 C M := ⟨week_, mon_, yday_, days_, fm_, fc_⟩
section Lr2
variable {t : Nat → Int} {E : Nat} {C M C0 M0 : Hp} {N : Nat}
theorem bookLine_eq : M_Md_bookLine N M = (M_Md_expects N M 18).bind (fun h2 => (M_Md_number N h2 3 9).bind (fun q4 => (wrA q4.2 88 127 0 q4.1).bind (fun h5 => Md_bookLine_L19 N (fun h_19 => moM N h_19) N h5))) := by
  unfold M_Md_bookLine moM moTM moNM spM
  exact Eq.trans rfl rfl
theorem FrH.trans {a b c : Hp} (f : FrH a b) (g : FrH b c) : FrH a c := ⟨fun x h1 h2 => by rw [g.1 x h1 h2, f.1 x h1 h2], fun j j1 j2 => by rw [g.2.1 j j1 j2, f.2.1 j j1 j2], fun x hx => by rw [g.2.2 x hx, f.2.2 x hx]⟩
theorem FrHC.trans {a b c : Hp} (f : FrHC a b) (g : FrHC b c) : FrHC a c := ⟨fun x h1 h2 h3 => by rw [g.1 x h1 h2 h3, f.1 x h1 h2 h3], fun j j1 => by rw [g.2.1 j j1, f.2.1 j j1], fun x hx => by rw [g.2.2 x hx, f.2.2 x hx]⟩
theorem FrH_M {M M' : Hp} (g : FrM M M') : FrH M M' := ⟨fun c c1 _ => g.1 c c1, fun j j1 j2 => g.2 j j1 j2, fun x _ => by rw [g.1 88 (by omega)]⟩
theorem FrH_w {M : Hp} {k : Nat} {v : Int} (hk : k < 16) : FrH M (hs M 88 k v) := ⟨fun c _ c2 => hs_cell c2, fun j _ _ => by rw [hs_cell (by omega)], fun x hx => hs_slot (by omega)⟩
theorem FrHC_C {C C' : Hp} (f : FrC C C') : FrHC C C' := ⟨fun c c1 _ _ => f.1 c c1, fun j j1 => f.2 j (by omega) (by omega) (by omega), fun j _ => by rw [f.1 4 (by omega)]⟩
theorem FrHC_w {C : Hp} {k : Nat} {v : Int} (hk : k < 10) : FrHC C (hs C 4 k v) := ⟨fun c _ c2 _ => hs_cell c2, fun j _ => by rw [hs_cell (by omega)], fun x hx => hs_slot (by omega)⟩
theorem FrHC_5 {C : Hp} {k : Nat} {v : Int} : FrHC C (hs C 5 k v) := ⟨fun c _ _ c3 => hs_cell c3, fun j _ => by rw [hs_cell (by omega)], fun x hx => by rw [hs_cell (by omega)]⟩
theorem FrH.r {M M' : Hp} (g : FrH M M') : FrR M M' := ⟨g.1, fun j j1 j2 _ => g.2.1 j j1 j2⟩
theorem msum_cgq {b b' : Nat → Int} : ∀ n, (∀ k, 2 ≤ k → k < 2 + n → b' k = b k) → msum b' n = msum b n := by
  intro n
  induction n with
  | zero => intro _; rfl
  | succ n ih => intro eb; rw [msum, msum, ih (fun k h1 h2 => eb k h1 (by omega)), eb (2 + n) (by omega) (by omega)]
theorem Hd_g {n : Nat} {C' M' : Hp} (H : Hd n C0 M0 C M) (fm : FrH M M') (fc : FrHC C C') (hn : n ≤ 8) (eb : ∀ k, k < 10 → M' 88 k = M 88 k) (e4 : ∀ j, 1 ≤ j → j ≤ 3 → C' 4 j = C 4 j) (e5 : C' 5 = C 5) : Hd n C0 M0 C' M' := by
  refine Hd.mk ?_ ?_ ?_ ?_ (H.fm.trans fm) (H.fc.trans fc)
  · rw [eb 0 (by omega), e4 1 (by omega) (by omega)]; exact H.week
  · rw [eb 1 (by omega), e4 2 (by omega) (by omega)]; exact H.mon
  · rw [e4 3 (by omega) (by omega), H.yday, msum_cgq n (fun k _ _ => eb k (by omega))]
  · intro i hi
    rw [eb (2 + i) (by omega), e5]; exact H.days i hi
theorem Hd_f {n : Nat} {C' M' : Hp} (H : Hd n C0 M0 C M) (hn : n ≤ 8) (f : FrC C C') (g : FrM M M') : Hd n C0 M0 C' M' := Hd_g H (FrH_M g) (FrHC_C f) hn (fun k _ => by rw [g.1 88 (by omega)]) (fun j _ _ => by rw [f.1 4 (by omega)]) (f.1 5 (by omega))
theorem Hd_mon {n : Nat} (H : Hd n C0 M0 C M) (h1 : 1 ≤ n) (h8 : n ≤ 8) : PMon (M 88) C := by
  have m := H.mon
  refine PMon.mk H.week (by omega) ?_ (fun i hi => H.days i (by omega))
  unfold yd
  rw [H.yday, m.1, Int.toNat_natCast]
theorem msum_bd {b : Nat → Int} : ∀ n : Nat, (∀ i, i < n → 5 ≤ b (2 + i) ∧ b (2 + i) ≤ 31) → 0 ≤ msum b n ∧ msum b n ≤ 31 * (n : Int) := by
  intro n
  induction n with
  | zero => intro _; rw [msum]; omega
  | succ n ih =>
    intro eb
    have h1 := ih (fun i hi => eb i (by omega))
    have h2 := eb n (by omega)
    rw [msum]
    omega
theorem S2_w4 {y : Option Hp} {k : Nat} {v : Int} {K : Hp → Option Hp} {Q : Hp → Hp → Prop} (s : S2 (K (hs C 4 k v)) y Q) : S2 (lt' (hs C 4 k v) K) y Q := by rw [pu_lt]; exact s
theorem s2_span (B : TB t E) (hN : 1000 < N) (P : Ps t E C M) (w : C 3 4 = -1) {f k y : Int} (c3 : C 4 3 = y) (c7 : C 4 7 = f) (c1 : C 4 1 = k) (m13 : M 88 13 = f) (m0 : M 88 0 = k) (m1 : 0 ≤ M 88 1 ∧ M 88 1 ≤ 8) (my : msum (M 88) (M 88 1).toNat = y) (hf : 0 ≤ f ∧ f ≤ 99) (hk : 3 ≤ k ∧ k ≤ 9) (hy : 0 ≤ y ∧ y ≤ 248) :
    S2 ((M_Reader_readNumber N C 1 (mnI 30 (((C 4 3) - (C 4 7)) - (C 4 1)))).bind (fun q28 => lt' (hs q28.2 4 9 q28.1) (fun h29 => some h29))) (spM N M)
      (fun C' M' => Ps t E C' M' ∧ (C' 3 4 = -1 → ∃ v, (1 ≤ v ∧ v ≤ 30 ∧ f + v + k ≤ y) ∧ C' 4 9 = v ∧ M' 88 15 = v) ∧ ((∀ c, c ≠ 3 → c ≠ 4 → C' c = C c) ∧ (∀ j, j ≠ 9 → C' 4 j = C 4 j) ∧ (∀ j, 5 ≤ j → C' 3 j = C 3 j)) ∧ FrX 15 M M') := by
  have he := B.e
  have pc := P.c.pl
  have pm := P.m.pl
  have w' : M 83 10 = -1 := by rw [← P.w]; exact w
  obtain ⟨p, ep⟩ : ∃ p : Nat, C 3 2 = (p : Int) := ⟨(C 3 2).toNat, by omega⟩
  obtain ⟨q, eq⟩ : ∃ q : Nat, M 83 9 = (q : Int) := ⟨(M 83 9).toNat, by omega⟩
  have hr := m_here (N := N) B hN P.m.tm (show q ≤ E by omega) eq
  have PH := Ps_here P eq
  have st := P.s w
  rw [ep, eq, Int.toNat_natCast, Int.toNat_natCast] at st
  have hbp := sc_bd (f := bl t) (show p ≤ E by omega)
  have sbb := sc_sc (f := bl t) (show p ≤ E by omega)
  rw [← st] at hr PH
  generalize eb : sc (bl t) E p = b at *
  have hd := sc_bd (f := dg t) hbp.2
  generalize ed : sc (dg t) E b = d at *
  have hX : mnI 30 (((C 4 3) - (C 4 7)) - (C 4 1)) = min 30 (y - f - k) := by rw [c3, c7, c1, pu_mn (by omega) (by omega) (by omega) (by omega)]
  rw [hX]
  have kc := c_number (N := N) (lo := 1) (hi := min 30 (y - f - k)) B hN P.c.tc (show p ≤ E by omega) ep P.c.wr (by omega) (by omega) eb ed
  rw [w] at kc
  have n9 : hs M 83 9 (b : Int) 83 9 = (b : Int) := hs_at
  have n10 : hs M 83 9 (b : Int) 83 10 = -1 := by rw [hs_slot (by omega)]; exact w'
  have fH : FrM M (hs M 83 9 (b : Int)) := FrM_9
  unfold spM
  rw [hr, pu_bs]
  (try dsimp only)
  generalize hs M 83 9 (b : Int) = H at *
  obtain ⟨v, d', km, d1, d2, d3, d4⟩ := m_number (N := N) (lo := 1) (hi := 30) B hN PH.m.tm hbp.2 n9 n10 (by omega) (by omega) sbb ed
  rw [kc, km, pu_bs, pu_bs]
  (try dsimp only)
  refine S2_w88 (n := 15) (by omega) (by omega) ?_
  rw [pu_lt]
  have fN : FrM M (hs (hs H 83 9 (d' : Int)) 83 10 (nW t b d 1 30 (-1))) := (fH.trans FrM_9).trans FrM_10
  have N10 : hs (hs H 83 9 (d' : Int)) 83 10 (nW t b d 1 30 (-1)) 83 10 = nW t b d 1 30 (-1) := hs_at
  have N9 : hs (hs H 83 9 (d' : Int)) 83 10 (nW t b d 1 30 (-1)) 83 9 = (d' : Int) := by rw [hs_slot (by omega), hs_at]
  have C4' : hs (hs (hs C 3 3 (b : Int)) 3 2 (d : Int)) 3 4 (nW t b d 1 (min 30 (y - f - k)) (-1)) 3 4 = nW t b d 1 (min 30 (y - f - k)) (-1) := hs_at
  have C2' : hs (hs (hs C 3 3 (b : Int)) 3 2 (d : Int)) 3 4 (nW t b d 1 (min 30 (y - f - k)) (-1)) 3 2 = (d : Int) := by rw [hs_slot (by omega), hs_at]
  have fC : FrC C (hs (hs (hs C 3 3 (b : Int)) 3 2 (d : Int)) 3 4 (nW t b d 1 (min 30 (y - f - k)) (-1))) := FrC_word.trans FrC_4
  have wbd : ∀ hi : Int, -1 ≤ nW t b d 1 hi (-1) ∧ nW t b d 1 hi (-1) ≤ 400 := fun hi => by unfold nW; split <;> omega
  have cT : Cs t E (hs (hs (hs C 3 3 (b : Int)) 3 2 (d : Int)) 3 4 (nW t b d 1 (min 30 (y - f - k)) (-1))) := Cs.mk (TC_3 (TC_3 (TC_3 P.c.tc))) (by rw [C2']; omega) (by rw [C4']; exact wbd _)
  have mT : Ms t E (hs (hs H 83 9 (d' : Int)) 83 10 (nW t b d 1 30 (-1))) := Ms_10 (Ms_9 PH.m (by omega)) (wbd _)
  have bad : ∀ hi : Int, nbad t b d 1 hi = true → nW t b d 1 hi (-1) = (b : Int) := fun hi x => by unfold nW; rw [if_pos ⟨x, rfl⟩]
  have good : ∀ hi : Int, nbad t b d 1 hi = false → nW t b d 1 hi (-1) = -1 := fun hi x => by unfold nW; rw [if_neg (fun y => by rw [x] at y; exact absurd y.1 (by decide))]
  have frc : ∀ (X : Hp) (u : Int), FrC C X → (∀ c, c ≠ 3 → c ≠ 4 → hs X 4 9 u c = C c) ∧ (∀ j, j ≠ 9 → hs X 4 9 u 4 j = C 4 j) ∧ (∀ j, 5 ≤ j → hs X 4 9 u 3 j = C 3 j) := fun X u fx => ⟨fun c h3 h4 => by rw [hs_cell h4]; exact fx.1 c h3, fun j hj => by rw [hs_slot hj, fx.1 4 (by omega)], fun j hj => by rw [hs_cell (by omega)]; exact fx.2 j (by omega) (by omega) (by omega)⟩
  have wM : nbad t b d 1 (min 30 (y - f - k)) = true → ∀ G : Hp, Ms t E G → FrX 15 M G → G 83 10 = (b : Int) → ∀ u : Int, S2 (some (hs (hs (hs (hs C 3 3 (b : Int)) 3 2 (d : Int)) 3 4 (nW t b d 1 (min 30 (y - f - k)) (-1))) 4 9 u)) (some G) (fun C' M' => Ps t E C' M' ∧ (C' 3 4 = -1 → ∃ v, (1 ≤ v ∧ v ≤ 30 ∧ f + v + k ≤ y) ∧ C' 4 9 = v ∧ M' 88 15 = v) ∧ ((∀ c, c ≠ 3 → c ≠ 4 → C' c = C c) ∧ (∀ j, j ≠ 9 → C' 4 j = C 4 j) ∧ (∀ j, 5 ≤ j → C' 3 j = C 3 j)) ∧ FrX 15 M M') := fun x G pG fG g10 u => by
    have b4 := bad _ x
    refine ⟨_, _, rfl, rfl, Ps.mk (Cs_w cT (by omega)) pG ?_ ?_, ?_, frc _ _ fC, fG⟩
    · rw [hs_cell (by omega), C4', b4, g10]
    · intro z; rw [hs_cell (by omega), C4', b4] at z; omega
    · intro z; rw [hs_cell (by omega), C4', b4] at z; omega
  cases hx : nbad t b d 1 30 with
  | true =>
    have nb : nbad t b d 1 (min 30 (y - f - k)) = true := by
      have h1 := of_decide_eq_true hx
      exact decide_eq_true (by omega)
    rw [if_neg (flt_n (Ms_w88 mT) (by rw [hs_cell (by omega), N10, bad _ hx]; omega))]
    exact wM nb _ (Ms_w88 mT) (FrX_w fN) (by rw [hs_cell (by omega), N10, bad _ hx]) _
  | false =>
    obtain ⟨e1, e2⟩ := d3 hx
    have h1 := of_decide_eq_false hx
    have M10 : hs (hs (hs H 83 9 (d' : Int)) 83 10 (nW t b d 1 30 (-1))) 88 15 v 83 10 = -1 := by rw [hs_cell (by omega), N10, good _ hx]
    have M88 : hs (hs (hs H 83 9 (d' : Int)) 83 10 (nW t b d 1 30 (-1))) 88 15 v 88 = pu_up (M 88) 15 v := by rw [hs_up, fN.1 88 (by omega)]
    have M9 : hs (hs (hs H 83 9 (d' : Int)) 83 10 (nW t b d 1 30 (-1))) 88 15 v 83 9 = (d' : Int) := by rw [hs_cell (by omega)]; exact N9
    have fX : FrX 15 M (hs (hs (hs H 83 9 (d' : Int)) 83 10 (nW t b d 1 30 (-1))) 88 15 v) := FrX_w fN
    have mX : Ms t E (hs (hs (hs H 83 9 (d' : Int)) 83 10 (nW t b d 1 30 (-1))) 88 15 v) := Ms_w88 mT
    rw [if_pos (flt_y mX M10)]
    generalize hs (hs (hs H 83 9 (d' : Int)) 83 10 (nW t b d 1 30 (-1))) 88 15 v = G at *
    have x1 : G 88 1 = M 88 1 := by rw [M88, pu_up_ne (by omega)]
    have ms : M_Md_monthsOf N G 88 127 = some y := by
      rw [m_monthsOf (by omega) (by rw [x1]; omega) (by rw [x1]; omega), x1, M88, ← my, msum_cgq _ (fun k k1 k2 => pu_up_ne (by omega))]
    refine S2_r88 (n := 13) (by omega) (by omega) ?_
    refine S2_r88 (n := 15) (by omega) (by omega) ?_
    refine S2_r88 (n := 0) (by omega) (by omega) ?_
    rw [ms, pu_bs, show G 88 13 = f by rw [M88, pu_up_ne (by omega)]; exact m13, show G 88 15 = v by rw [M88, pu_up_at], show G 88 0 = k by rw [M88, pu_up_ne (by omega)]; exact m0]
    by_cases s : f + v + k ≤ y
    · rw [if_pos (show leb (f + v + k) y = true by rw [leb_iff (by omega) (by omega) (by omega) (by omega)]; exact s)]
      have nb : nbad t b d 1 (min 30 (y - f - k)) = false := decide_eq_false (by omega)
      have b4 := good _ nb
      refine ⟨_, _, rfl, rfl, Ps.mk (Cs_w cT (by omega)) mX ?_ ?_, ?_, frc _ _ fC, fX⟩
      · rw [hs_cell (by omega), C4', b4, M10]
      · intro _; rw [hs_cell (by omega), C2', M9, e1]
      · intro _
        refine ⟨v, by omega, ?_, by rw [M88, pu_up_at]⟩
        rw [hs_at, if_pos b4, e2]
    · rw [if_neg (show ¬ leb (f + v + k) y = true by rw [leb_iff (by omega) (by omega) (by omega) (by omega)]; exact s)]
      have nb : nbad t b d 1 (min 30 (y - f - k)) = true := decide_eq_true (by omega)
      rw [m_wrong mX.wr, pu_bs, if_pos M10]
      exact wM nb _ (Ms_10 mX (by omega)) ⟨fun c c1 c2 => by rw [hs_cell c1]; exact fX.1 c c1 c2, fun j j1 j2 => by rw [hs_slot j2]; exact fX.2.1 j j1 j2, fun x hx => by rw [hs_cell (by omega)]; exact fX.2.2 x hx⟩ hs_at _
end Lr2
