def feCM (h : Hp) : Option Hp := (rdA h 88 127 42).bind (fun x40 => (wrA h 88 127 42 (x40 + 1)).bind (fun h41 => some h41))
def feOM (N : Nat) (x5 : Int) (h37 : Hp) : Option Hp := (M_Md_has N h37 35).bind (fun q39 => if eqb q39.1 0 then feCM q39.2 else (M_Md_number N q39.2 1 9).bind (fun q43 => (wrA q43.2 88 127 ((43 + (7 * x5)) + 6) q43.1).bind (fun h44 => feCM h44)))
def feVM (N : Nat) (x5 : Int) (h31 : Hp) : Option Hp := (M_Md_has N h31 34).bind (fun q33 => if eqb q33.1 0 then feOM N x5 q33.2 else (M_Md_number N q33.2 1 9).bind (fun q48 => (wrA q48.2 88 127 ((43 + (7 * x5)) + 5) q48.1).bind (fun h49 => feOM N x5 h49)))
def feTM (N : Nat) (x5 : Int) (h27 : Hp) : Option Hp := if eqb (h27 83 10) (-1) then (M_Md_lawWord N h27).bind (fun q51 => (wrA q51.2 88 127 ((43 + (7 * x5)) + 4) q51.1).bind (fun h52 => feVM N x5 h52)) else feVM N x5 h27
def feWM (N : Nat) (x5 : Int) (h8 : Hp) : Option Hp := (M_Md_has N h8 28).bind (fun q10 => if eqb q10.1 0 then (M_Md_expects N q10.2 29).bind (fun h54 => (rdA h54 88 127 1).bind (fun x55 => (M_Md_number N h54 0 (x55 - 1)).bind (fun q57 => (wrA q57.2 88 127 ((43 + (7 * x5)) + 2) q57.1).bind (fun h58 => if eqb (h58 83 10) (-1) then (rdA h58 88 127 ((43 + (7 * x5)) + 2)).bind (fun x59 => (rdA h58 88 127 (2 + x59)).bind (fun x60 => (M_Md_number N h58 0 (x60 - 1)).bind (fun q62 => (wrA q62.2 88 127 ((43 + (7 * x5)) + 3) q62.1).bind (fun h63 => feTM N x5 h63)))) else feTM N x5 h58)))) else (wrA q10.2 88 127 ((43 + (7 * x5)) + 1) 1).bind (fun h64 => (wrA h64 88 127 ((43 + (7 * x5)) + 2) (-1)).bind (fun h65 => (M_Md_signed N h65 (-99)).bind (fun q67 => (wrA q67.2 88 127 ((43 + (7 * x5)) + 3) q67.1).bind (fun h68 => feTM N x5 h68)))))
def feJM (N : Nat) (h_4 : Hp) : Option Hp := if eqb (h_4 83 10) (-1) then (rdA h_4 88 127 42).bind (fun x5 => (M_Md_number N h_4 1 9).bind (fun q7 => (wrA q7.2 88 127 ((43 + (7 * x5)) + 0) q7.1).bind (fun h8 => feWM N x5 h8))) else some h_4
section Lo2
variable {t : Nat → Int} {E : Nat} {C M : Hp} {N : Nat}
theorem feastM_eq {a : Int} : M_Md_feastLine N M a = (rdA M 88 127 42).bind (fun x1 => if eqb x1 12 then (M_Md_wrong M a).bind (fun h70 => feJM N h70) else feJM N M) := by
  unfold M_Md_feastLine feJM feWM feTM feVM feOM feCM
  exact Eq.trans rfl rfl
def FrF (n : Nat) (M M' : Hp) : Prop := (∀ c, c ≠ 83 → c ≠ 88 → M' c = M c) ∧ (∀ j, j ≠ 9 → j ≠ 10 → M' 83 j = M 83 j) ∧ (∀ x, (x < 43 + 7 * n ∨ 50 + 7 * n ≤ x) → M' 88 x = M 88 x)
theorem FrF.trans {n : Nat} {a b c : Hp} (f : FrF n a b) (g : FrF n b c) : FrF n a c := ⟨fun x h1 h2 => by rw [g.1 x h1 h2, f.1 x h1 h2], fun j j1 j2 => by rw [g.2.1 j j1 j2, f.2.1 j j1 j2], fun x hx => by rw [g.2.2 x hx, f.2.2 x hx]⟩
theorem FrF_M {n : Nat} {M M' : Hp} (g : FrM M M') : FrF n M M' := ⟨fun c c1 _ => g.1 c c1, fun j j1 j2 => g.2 j j1 j2, fun x _ => by rw [g.1 88 (by omega)]⟩
theorem FrF_X {n u : Nat} (hu : u < 7) {M M' : Hp} (g : FrX (43 + 7 * n + u) M M') : FrF n M M' := ⟨g.1, g.2.1, fun x hx => g.2.2 x (by omega)⟩
theorem FrF_w {n u : Nat} (hu : u < 7) {M : Hp} {v : Int} : FrF n M (hs M 88 (43 + 7 * n + u) v) := ⟨fun c _ c2 => hs_cell c2, fun j _ _ => by rw [hs_cell (by omega)], fun x hx => hs_slot (by omega)⟩
theorem FrF.r {n : Nat} {M M' : Hp} (g : FrF n M M') : FrR M M' := ⟨g.1, fun j j1 j2 _ => g.2.1 j j1 j2⟩
theorem s2_feT (B : TB t E) (hN : 1000 < N) {n : Nat} (hn : n < 12) {C0 M0 : Hp} (K : Kp (M0 88) C0 (M0 83 12)) (en : M0 88 42 = (n : Int)) (P : Ps t E C M) (f0 : FrC C0 C) (g0 : FrF n M0 M) {r m d : Int}
    (v : C 3 4 = -1 → (M 88 (43 + 7 * n) = r ∧ 1 ≤ r ∧ r ≤ 9) ∧ M 88 (43 + 7 * n + 2) = m ∧ M 88 (43 + 7 * n + 3) = d ∧ ((M 88 (43 + 7 * n + 1) = 1 ∧ m = -1 ∧ -99 ≤ d ∧ d ≤ 99) ∨ (M 88 (43 + 7 * n + 1) = 0 ∧ 0 ≤ m ∧ m < M0 88 1 ∧ 0 ≤ d ∧ d < M0 88 (2 + m.toNat))) ∧ M 88 (43 + 7 * n + 5) = 0 ∧ M 88 (43 + 7 * n + 6) = 0) :
    S2 (feTC N r m d C) (feTM N (n : Int) M) (Q2 t E M0) := by
  have km := K.mo.mon
  have kn := K.fe.many
  unfold feTC feTM
  refine S2_law B hN P (n := 43 + 7 * n + 4) (by omega) (by omega) (fun l C1 M1 P1 f1 g1 r1 => ?_)
  (try dsimp only)
  unfold feVM
  refine S2_option (o := 10) (o' := 34) (R := feOM N (n : Int)) (i := 43 + 7 * (n : Int) + 5) B hN P1 (by omega) (by omega) rfl (n := 43 + 7 * n + 5) (by omega) (by omega) (fun z => by rw [g1.2.2 _ (by omega)]; exact (v (r1 z).1).2.2.2.2.1) (fun vg C2 M2 P2 f2 g2 r2 => ?_)
  (try dsimp only)
  unfold feOM
  refine S2_option (o := 11) (o' := 35) (R := feCM) (i := 43 + 7 * (n : Int) + 6) B hN P2 (by omega) (by omega) rfl (n := 43 + 7 * n + 6) (by omega) (by omega) (fun z => by rw [g2.2.2 _ (by omega), g1.2.2 _ (by omega)]; exact (v (r1 (r2 z).1).1).2.2.2.2.2) (fun oc C3 M3 P3 f3 g3 r3 => ?_)
  (try dsimp only)
  have gF : FrF n M0 M3 := ((g0.trans (FrF_X (by omega) g1)).trans (FrF_X (by omega) g2)).trans (FrF_X (by omega) g3)
  have fC : FrC C0 C3 := ((f0.trans f1).trans f2).trans f3
  have e42 : M3 88 42 = (n : Int) := by rw [gF.2.2 42 (by omega)]; exact en
  unfold feCM
  refine S2_r88 (n := 42) (by omega) (by omega) ?_
  rw [e42]
  refine S2_w88 (n := 42) (by omega) (by omega) ?_
  rw [c_feastsAdd (n := n) (by omega) (by rw [fC.1 14 (by omega)]; omega), pu_bs, if_neg (by omega)]
  refine ⟨_, _, rfl, rfl, (((((((P3.wM).wC (by omega)).wC (by omega)).wC (by omega)).wC (by omega)).wC (by omega)).wC (by omega)).wC (by omega), ?_, gF.r.trans FrR_w88⟩
  intro z
  rw [hs_cell (by omega), hs_cell (by omega), hs_cell (by omega), hs_cell (by omega), hs_cell (by omega), hs_cell (by omega), hs_cell (by omega)] at z
  have y3 := r3 z
  have y2 := r2 y3.1
  have y1 := r1 y2.1
  obtain ⟨v0, v2, v3, v1, _, _⟩ := v y1.1
  have e12 : hs M3 88 42 ((n : Int) + 1) 83 12 = M0 83 12 := by rw [hs_cell (by omega), gF.2.1 12 (by omega) (by omega)]
  have eu : ∀ u, u < 4 → M3 88 (43 + 7 * n + u) = M 88 (43 + 7 * n + u) := fun u hu => by rw [g3.2.2 _ (by omega), g2.2.2 _ (by omega), g1.2.2 _ (by omega)]
  have u4 : M3 88 (43 + 7 * n + 4) = l := by rw [g3.2.2 _ (by omega), g2.2.2 _ (by omega)]; exact y1.2.2
  have u5 : M3 88 (43 + 7 * n + 5) = vg := by rw [g3.2.2 _ (by omega)]; exact y2.2.2
  have u6 : M3 88 (43 + 7 * n + 6) = oc := y3.2.2
  rw [hs_up, e12]
  generalize hb : pu_up (M3 88) 42 ((n : Int) + 1) = b'
  have q42 : b' 42 = (n : Int) + 1 := by rw [← hb, pu_up_at]
  have qo : ∀ x, x ≠ 42 → (x < 43 + 7 * n ∨ 50 + 7 * n ≤ x) → b' x = M0 88 x := fun x x1 x2 => by rw [← hb, pu_up_ne x1]; exact gF.2.2 x x2
  have qn : ∀ u, b' (43 + 7 * n + u) = M3 88 (43 + 7 * n + u) := fun u => by rw [← hb, pu_up_ne (by omega)]
  generalize hC' : hs (hs (hs (hs (hs (hs (hs C3 (14 + 1) n r) (14 + 2) n m) (14 + 3) n d) (14 + 4) n l) (14 + 5) n vg) (14 + 6) n oc) 14 0 ((n + 1 : Nat) : Int) = C'
  have Cq : ∀ c, (c < 14 ∨ 20 < c) → c ≠ 3 → C' c = C0 c := fun c hc h3 => by rw [← hC', hs_cell (by omega), hs_cell (by omega), hs_cell (by omega), hs_cell (by omega), hs_cell (by omega), hs_cell (by omega), hs_cell (by omega)]; exact fC.1 c h3
  have C3j : ∀ j, 5 ≤ j → j ≤ 7 → C' 3 j = C0 3 j := fun j j1 j2 => by rw [← hC', hs_cell (by omega), hs_cell (by omega), hs_cell (by omega), hs_cell (by omega), hs_cell (by omega), hs_cell (by omega), hs_cell (by omega)]; exact fC.2 j (by omega) (by omega) (by omega)
  have c0 : C' 14 0 = (n : Int) + 1 := by rw [← hC', hs_at]; omega
  have c1 : C' 15 = pu_up (C0 15) n r := by rw [← hC', hs_cell (by omega), hs_cell (by omega), hs_cell (by omega), hs_cell (by omega), hs_cell (by omega), hs_cell (by omega), hs_up, fC.1 15 (by omega)]
  have c2 : C' 16 = pu_up (C0 16) n m := by rw [← hC', hs_cell (by omega), hs_cell (by omega), hs_cell (by omega), hs_cell (by omega), hs_cell (by omega), hs_up, hs_cell (by omega), fC.1 16 (by omega)]
  have c3 : C' 17 = pu_up (C0 17) n d := by rw [← hC', hs_cell (by omega), hs_cell (by omega), hs_cell (by omega), hs_cell (by omega), hs_up, hs_cell (by omega), hs_cell (by omega), fC.1 17 (by omega)]
  have c4 : C' 18 = pu_up (C0 18) n l := by rw [← hC', hs_cell (by omega), hs_cell (by omega), hs_cell (by omega), hs_up, hs_cell (by omega), hs_cell (by omega), hs_cell (by omega), fC.1 18 (by omega)]
  have c5 : C' 19 = pu_up (C0 19) n vg := by rw [← hC', hs_cell (by omega), hs_cell (by omega), hs_up, hs_cell (by omega), hs_cell (by omega), hs_cell (by omega), hs_cell (by omega), fC.1 19 (by omega)]
  have c6 : C' 20 = pu_up (C0 20) n oc := by rw [← hC', hs_cell (by omega), hs_up, hs_cell (by omega), hs_cell (by omega), hs_cell (by omega), hs_cell (by omega), hs_cell (by omega), fC.1 20 (by omega)]
  refine Kp.mk (PMon_fr K.mo (fun k _ => qo k (by omega) (by omega)) (fun j _ _ => by rw [Cq 4 (by omega) (by omega)]) (Cq 5 (by omega) (by omega))) (PMoo_fr (by omega) K.ca (fun k _ => qo k (by omega) (by omega)) (fun j _ _ => by rw [Cq 4 (by omega) (by omega)])) (PSet_fr K.st (fun k _ _ => qo k (by omega) (by omega)) (fun j _ _ => by rw [Cq 4 (by omega) (by omega)]) C3j rfl) (PSea_fr K.se (fun k _ _ => qo k (by omega) (by omega)) (fun c _ _ => Cq c (by omega) (by omega))) (PClo_fr K.cl (fun k _ _ => qo k (by omega) (by omega)) (fun c _ _ => Cq c (by omega) (by omega))) (PFea.mk ?_ ?_ ?_)
  · rw [q42, c0]; omega
  · rw [q42, c1, c2, c3, c4, c5, c6]
    intro f hf
    unfold pu_up
    by_cases cf : f = n
    · subst cf
      have w0 : fq b' f 0 = r := by unfold fq; rw [qn, eu 0 (by omega)]; exact v0.1
      have w1 : fq b' f 1 = M 88 (43 + 7 * f + 1) := by unfold fq; rw [qn, eu 1 (by omega)]
      have w2 : fq b' f 2 = m := by unfold fq; rw [qn, eu 2 (by omega)]; exact v2
      have w3 : fq b' f 3 = d := by unfold fq; rw [qn, eu 3 (by omega)]; exact v3
      have w4 : fq b' f 4 = l := by unfold fq; rw [qn]; exact u4
      have w5 : fq b' f 5 = vg := by unfold fq; rw [qn]; exact u5
      have w6 : fq b' f 6 = oc := by unfold fq; rw [qn]; exact u6
      rw [if_pos rfl, if_pos rfl, if_pos rfl, if_pos rfl, if_pos rfl, if_pos rfl, w0, w2, w3, w4, w5, w6]
      refine ⟨?_, rfl, rfl, rfl, rfl, rfl, rfl⟩
      unfold okF
      rw [w0, w1, w2, w3, w4, w5, w6, qo 1 (by omega) (by omega)]
      refine ⟨v0.2, ?_, y1.2.1, y2.2.1, y3.2.1⟩
      rcases v1 with x | ⟨x1, x2, x3, x4, x5⟩
      · exact Or.inl x
      · exact Or.inr ⟨x1, x2, x3, x4, by rw [qo (2 + m.toNat) (by omega) (by omega)]; exact x5⟩
    · have q' : ∀ u, u < 7 → b' (43 + 7 * f + u) = M0 88 (43 + 7 * f + u) := fun u hu => qo _ (by omega) (by omega)
      have q'' : ∀ u, u < 7 → fq b' f u = fq (M0 88) f u := fun u hu => by unfold fq; exact q' u hu
      rw [if_neg cf, if_neg cf, if_neg cf, if_neg cf, if_neg cf, if_neg cf, q'' 0 (by omega), q'' 2 (by omega), q'' 3 (by omega), q'' 4 (by omega), q'' 5 (by omega), q'' 6 (by omega)]
      have k := K.fe.fea f (by omega)
      exact ⟨okF_cgp (by omega) (fun k _ => qo k (by omega) (by omega)) q' k.1, k.2⟩
  · rw [q42]
    intro k h1 h2
    rw [qo k (by omega) (by omega)]
    exact K.fe.rest k (by omega) h2
theorem bd_feC (P : Ms t E M) : Bd t E M (feCM M) := by
  unfold feCM
  exact Bd_r88 (n := 42) (by omega) (by omega) (Bd_w88 (n := 42) (by omega) (by omega) (Bd_ok (Ms_w88 P)))
theorem bd_feT (B : TB t E) (hN : 1000 < N) (P : Ms t E M) (w : M 83 10 ≠ -1) {x : Int} : Bd t E M (feTM N x M) := by
  unfold feTM
  rw [if_neg (flt_n P w)]
  unfold feVM
  refine Bd_has B hN P w (by omega) (fun M1 P1 w1 _ => ?_)
  (try dsimp only)
  rw [if_pos eq00]
  unfold feOM
  refine Bd_has B hN P1 w1 (by omega) (fun M2 P2 w2 _ => ?_)
  (try dsimp only)
  rw [if_pos eq00]
  exact bd_feC P2
theorem bd_feW (B : TB t E) (hN : 1000 < N) (P : Ms t E M) (w : M 83 10 ≠ -1) {n : Nat} (hn : n < 12) : Bd t E M (feWM N (n : Int) M) := by
  unfold feWM
  refine Bd_has B hN P w (by omega) (fun M1 P1 w1 _ => ?_)
  (try dsimp only)
  rw [if_pos eq00]
  refine Bd_expects P1 w1 ?_
  refine Bd_r88 (n := 1) (by omega) (by omega) ?_
  refine Bd_number P1 w1 ?_
  (try dsimp only)
  refine Bd_w88 (n := 43 + 7 * n + 2) (by omega) (by omega) ?_
  have P2 : Ms t E (hs M1 88 (43 + 7 * n + 2) 0) := Ms_w88 P1
  have w2 : hs M1 88 (43 + 7 * n + 2) 0 83 10 ≠ -1 := by rw [hs_cell (by omega)]; exact w1
  rw [if_neg (flt_n P2 w2)]
  exact bd_feT B hN P2 w2
theorem exp3 (B : TB t E) (hN : 1000 < N) (P : Ps t E C M) {k k' : Nat} (hk : k < 36) (hk' : k' < 36) (ek : txS k = txS k') {G : Hp} {r : Int} (kw : M_Reader_readWord N C = some G) (a : M_Reader_isWord N G k = some r) :
    ∃ C' M', M_Reader_require G r = some C' ∧ M_Md_expects N M k' = some M' ∧ Ps t E C' M' ∧ FrC C C' ∧ FrM M M' ∧ (C' 3 4 = -1 → C 3 4 = -1) := by
  obtain ⟨C', M', e, e', P', f, g, w⟩ := expects2 (N := N) B hN P hk hk' ek (fun h => some h)
  rw [kw, pu_bs, a, pu_bs] at e
  cases hx : M_Reader_require G r with
  | none => rw [hx] at e; exact absurd e (by simp)
  | some x =>
    rw [hx, pu_bs] at e
    exact ⟨C', M', by rw [Option.some.inj e], e', P', f, g, w⟩
theorem last2 {b : Nat → Int} (K : PMon b C) {m : Int} (h0 : 0 ≤ m) (h1 : m < b 1) : M_Reader_lastDayOf C m = some (b (2 + m.toNat) - 1) := by
  have km := K.mon
  unfold M_Reader_lastDayOf
  rw [if_neg (by rw [ltb_iff (by omega) (by omega) (by omega) (by omega)]; omega), if_neg (by rw [leb_iff (by omega) (by omega) (by omega) (by omega)]; omega), pu_rd (by omega) (by omega), pu_bs, (K.days m.toNat (by omega)).2]
end Lo2
