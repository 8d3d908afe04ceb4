def readFin (N : Nat) (h_17 : Hp) : Option (Int × Hp) := (M_Feasts_sortByClaim N h_17 14).bind (fun h19 => if eqb (h19 3 4) (-1) then ckB 1 (lt' (hs h19 4 0 1) (fun h21 => some (h21 3 4, h21))) else ckB 0 (lt' (hs h19 4 0 0) (fun h20 => some (h20 3 4, h20))))
section Lv2
variable {t : Nat → Int} {E : Nat} {C M : Hp} {N : Nat}
theorem L47_eq {n : Nat} {v : Int} : Reader_read_L47 N (n + 1) v C = if ltb 24 v then readFin N C else (M_Reader_lineComes N C).bind (fun q23 => if eqb q23.1 0 then readFin N q23.2 else (M_Reader_readLine N q23.2 v).bind (fun h25 => Reader_read_L47 N n (v + 1) h25)) := by
  rw [Reader_read_L47, pu_lt]
  unfold readFin
  exact Eq.trans rfl rfl
theorem L72_bad (P : Ms t E M) (w : M 83 10 ≠ -1) {n2 : Nat} (h : 0 < n2) {v : Int} (k : Int → Hp → Option (Int × Hp)) : Md_book_L72 N k n2 v M = k v M := by
  obtain ⟨n', rfl⟩ : ∃ n', n2 = n' + 1 := ⟨n2 - 1, by omega⟩
  rw [Md_book_L72, if_neg (flt_n P w)]
theorem FrD.trans {a b c : Hp} (f : FrD a b) (g : FrD b c) : FrD a c := fun x hx => by rw [g x hx, f x hx]
theorem rl2 (B : TB t E) (hN : 1000 < N) : ∀ (m v n1 n2 : Nat) (C M : Hp), v + m = 25 → m < n1 → m + 1 < n2 → Ps t E C M → Ds C → (C 3 4 = -1 → Kp (M 88) C (M 83 12)) → (v = 25 → C 3 4 ≠ -1) →
    ∃ (C1 M1 : Hp) (v' : Int), Reader_read_L47 N n1 (v : Int) C = readFin N C1 ∧ (∀ k, Md_book_L72 N k n2 (v : Int) M = k v' M1) ∧ Ps t E C1 M1 ∧ Ds C1 ∧ (C1 3 4 = -1 → Kp (M1 88) C1 (M1 83 12)) ∧ FrD C C1 ∧ FrR M M1 := by
  intro m
  induction m with
  | zero =>
    intro v n1 n2 C M hv hn1 hn2 P D K h25
    obtain ⟨n1', rfl⟩ : ∃ n', n1 = n' + 1 := ⟨n1 - 1, by omega⟩
    have nw := h25 (by omega)
    refine ⟨C, M, (v : Int), ?_, fun k => L72_bad P.m (by rw [← P.w]; exact nw) (by omega) k, P, D, K, fun _ _ => rfl, FrR.rf⟩
    rw [L47_eq, if_pos (by rw [ltb_iff (by omega) (by omega) (by omega) (by omega)]; omega)]
  | succ m ih =>
    intro v n1 n2 C M hv hn1 hn2 P D K h25
    obtain ⟨n1', rfl⟩ : ∃ n', n1 = n' + 1 := ⟨n1 - 1, by omega⟩
    obtain ⟨n2', rfl⟩ : ∃ n', n2 = n' + 1 := ⟨n2 - 1, by omega⟩
    have he := B.e
    have pc := P.c.pl
    have pm := P.m.pl
    obtain ⟨p, ep⟩ : ∃ p : Nat, C 3 2 = (p : Int) := ⟨(C 3 2).toNat, by omega⟩
    obtain ⟨q, eq⟩ : ∃ q : Nat, M 83 9 = (q : Int) := ⟨(M 83 9).toNat, by omega⟩
    have hbp := sc_bd (f := bl t) (show p ≤ E by omega)
    generalize eb : sc (bl t) E p = b at *
    have kl := c_lineComes (N := N) B hN P.c.tc (show p ≤ E by omega) ep P.c.wr eb
    have fL : ∀ x : Int, FrC C (hs (hs (hs C 3 2 (b : Int)) 3 3 (b : Int)) 3 4 x) := fun x => ⟨fun c hc => by rw [hs_cell hc, hs_cell hc, hs_cell hc], fun j j1 j2 j3 => by rw [hs_slot j3, hs_slot j2, hs_slot j1]⟩
    have L4 : ∀ x : Int, hs (hs (hs C 3 2 (b : Int)) 3 3 (b : Int)) 3 4 x 3 4 = x := fun x => hs_at
    have L2 : ∀ x : Int, hs (hs (hs C 3 2 (b : Int)) 3 3 (b : Int)) 3 4 x 3 2 = (b : Int) := fun x => by rw [hs_slot (by omega), hs_slot (by omega), hs_at]
    have cL : ∀ x : Int, -1 ≤ x ∧ x ≤ 400 → Cs t E (hs (hs (hs C 3 2 (b : Int)) 3 3 (b : Int)) 3 4 x) := fun x hx => Cs.mk (TC_3 (TC_3 (TC_3 P.c.tc))) (by rw [L2]; omega) (by rw [L4]; exact hx)
    have e47 : ∀ (r x : Int), lW t E b (C 3 4) = x → (if x = -1 ∧ b < E then (1 : Int) else 0) = r → Reader_read_L47 N (n1' + 1) (v : Int) C = if eqb r 0 then readFin N (hs (hs (hs C 3 2 (b : Int)) 3 3 (b : Int)) 3 4 x) else (M_Reader_readLine N (hs (hs (hs C 3 2 (b : Int)) 3 3 (b : Int)) 3 4 x) (v : Int)).bind (fun h25 => Reader_read_L47 N n1' ((v : Int) + 1) h25) := fun r x hx hr => by
      subst hx
      subst hr
      rw [L47_eq, if_neg (by rw [ltb_iff (by omega) (by omega) (by omega) (by omega)]; omega), kl, pu_bs]
    by_cases w : C 3 4 = -1
    · have w' : M 83 10 = -1 := by rw [← P.w]; exact w
      have KK := K w
      have st := P.s w
      rw [ep, eq, Int.toNat_natCast, Int.toNat_natCast, eb] at st
      have hr := m_here (N := N) B hN P.m.tm (show q ≤ E by omega) eq
      rw [← st] at hr
      have fM : FrM M (hs M 83 9 (b : Int)) := FrM_9
      have M10 : hs M 83 9 (b : Int) 83 10 = -1 := by rw [hs_slot (by omega)]; exact w'
      have M9 : hs M 83 9 (b : Int) 83 9 = (b : Int) := hs_at
      have mB : Ms t E (hs M 83 9 (b : Int)) := Ms_9 P.m (by omega)
      generalize hs M 83 9 (b : Int) = R at *
      have e72'' : ∀ k (x y : Int), R 83 9 = x → R 83 8 = y → Md_book_L72 N k (n2' + 1) (v : Int) M = if leb y (b : Int) then k (v : Int) R else (rdA R 87 400 x).bind (fun x14 => lt' (fun (h_18 : Hp) => if eqb (h_18 83 10) (-1) then if eqb (v : Int) 24 then (M_Md_here N h_18).bind (fun q24 => (M_Md_wrong q24.2 q24.1).bind (fun h26 => if eqb (h26 83 10) (-1) then (M_Md_line N h26).bind (fun h28 => Md_book_L72 N k n2' ((v : Int) + 1) h28) else Md_book_L72 N k n2' ((v : Int) + 1) h26)) else if eqb (h_18 83 10) (-1) then (M_Md_line N h_18).bind (fun h22 => Md_book_L72 N k n2' ((v : Int) + 1) h22) else Md_book_L72 N k n2' ((v : Int) + 1) h_18 else if eqb (h_18 83 10) (-1) then (M_Md_line N h_18).bind (fun h20 => Md_book_L72 N k n2' ((v : Int) + 1) h20) else Md_book_L72 N k n2' ((v : Int) + 1) h_18) (fun j18 => if eqb x14 59 then lt' (hs R 83 9 (x + 1)) (fun h29 => j18 h29) else (M_Md_wrong R x).bind (fun h31 => j18 h31))) := fun k x y hx hy => by
        subst hx
        subst hy
        rw [Md_book_L72, if_pos (flt_y P.m w'), hr, pu_bs]
      have e72 := fun k => e72'' k (b : Int) (E : Int) M9 mB.tm.e
      by_cases hb : b < E
      · have e87 : rdA R 87 400 (b : Int) = some (t b) := by rw [pu_rdN (by omega), mB.tm.b b hb]
        have tb := B.b b hb
        have nle : ¬ leb (E : Int) (b : Int) = true := by rw [leb_iff (by omega) (by omega) (by omega) (by omega)]; omega
        by_cases c : t b = 59
        · have lw : lW t E b (-1) = -1 := by unfold lW; rw [if_neg (fun z => z.2.2 c)]
          rw [e47 1 (-1) (by rw [w]; exact lw) (if_pos ⟨rfl, hb⟩), if_neg ne10]
          have L2' := L2 (-1)
          have L4' := L4 (-1)
          have cL' := cL (-1) (by omega)
          have fL' := fL (-1)
          generalize hs (hs (hs C 3 2 (b : Int)) 3 3 (b : Int)) 3 4 (-1) = G at *
          have DG : Ds G := D.fr' fL'
          obtain ⟨C4, s1, s2, s3, s4, s5⟩ := sf_line (N := N) (a := (v : Int)) B hN cL' DG (by omega)
          have fN : FrC G (hs G 3 2 ((b : Int) + 1)) := ⟨fun c hc => hs_cell hc, fun j j1 _ _ => hs_slot j1⟩
          have cN : Cs t E (hs G 3 2 ((b : Int) + 1)) := Cs.mk (TC_3 cL'.tc) (by rw [hs_at]; omega) (by rw [hs_slot (by omega)]; exact cL'.wr)
          have N4 : hs G 3 2 ((b : Int) + 1) 3 4 = -1 := by rw [hs_slot (by omega)]; exact L4'
          have N2 : hs G 3 2 ((b : Int) + 1) 3 2 = ((b + 1 : Nat) : Int) := by rw [hs_at]; omega
          have gN : FrM R (hs R 83 9 ((b : Int) + 1)) := FrM_9
          have mN : Ms t E (hs R 83 9 ((b : Int) + 1)) := Ms_9 mB (by omega)
          have O10 : hs R 83 9 ((b : Int) + 1) 83 10 = -1 := by rw [hs_slot (by omega)]; exact M10
          have O9 : hs R 83 9 ((b : Int) + 1) 83 9 = ((b + 1 : Nat) : Int) := by rw [hs_at]; omega
          have ln : M_Reader_readLine N G (v : Int) = (M_Reader_readWord N (hs G 3 2 ((b : Int) + 1))).bind (fun h3 => (M_Reader_require h3 (if v = 24 then 0 else 1)).bind (fun h6 => liTC N h6)) := by
            rw [line_eq, L2', pu_lt]
            by_cases c24 : v = 24
            · simp only [pu_lt, if_pos c24, if_pos (show leb 24 (v : Int) = true by rw [leb_iff (by omega) (by omega) (by omega) (by omega)]; omega)]
            · simp only [pu_lt, if_neg c24, if_neg (show ¬ leb 24 (v : Int) = true by rw [leb_iff (by omega) (by omega) (by omega) (by omega)]; omega)]
          have e72' : ∀ k, Md_book_L72 N k (n2' + 1) (v : Int) M = if eqb (v : Int) 24 then (M_Md_here N (hs R 83 9 ((b : Int) + 1))).bind (fun q24 => (M_Md_wrong q24.2 q24.1).bind (fun h26 => if eqb (h26 83 10) (-1) then (M_Md_line N h26).bind (fun h28 => Md_book_L72 N k n2' ((v : Int) + 1) h28) else Md_book_L72 N k n2' ((v : Int) + 1) h26)) else (M_Md_line N (hs R 83 9 ((b : Int) + 1))).bind (fun h22 => Md_book_L72 N k n2' ((v : Int) + 1) h22) := fun k => by
            rw [e72 k, if_neg nle, e87, pu_bs, pu_lt, if_pos (show eqb (t b) 59 = true by rw [c, eqb_iff (by omega) (by omega) (by omega) (by omega)]), pu_lt]
            (try dsimp only)
            rw [if_pos (flt_y mN O10), if_pos (flt_y mN O10)]
          have PN : Ps t E (hs G 3 2 ((b : Int) + 1)) (hs R 83 9 ((b : Int) + 1)) := Ps.mk cN mN (by rw [N4, O10]) (fun _ => by rw [N2, O9])
          have KN : Kp (hs R 83 9 ((b : Int) + 1) 88) (hs G 3 2 ((b : Int) + 1)) (hs R 83 9 ((b : Int) + 1) 83 12) := Kp_fr KK (fL'.trans fN) (fM.trans gN)
          have DN := DG.fr' fN
          generalize hs G 3 2 ((b : Int) + 1) = X at *
          generalize hs R 83 9 ((b : Int) + 1) = Y at *
          obtain ⟨W, k1, k2, k3, k4, k5⟩ := wordC (N := N) B hN PN.c
          have k1' := k1
          rw [ln, k1, pu_bs] at s1
          rw [ln, k1, pu_bs]
          have vv : ((v : Int) + 1) = ((v + 1 : Nat) : Int) := by omega
          by_cases c24 : v = 24
          · rw [if_pos c24, c_req (Or.inl rfl) k2.wr, pu_bs, if_pos ⟨rfl, k4.trans N4⟩] at s1
            rw [if_pos c24, c_req (Or.inl rfl) k2.wr, pu_bs, if_pos ⟨rfl, k4.trans N4⟩, s1, pu_bs, vv]
            have px := PN.c.pl
            have py := PN.m.pl
            have kw := c_word (N := N) (p := b + 1) B hN PN.c.tc (by omega) N2
            rw [k1'] at kw
            have W3 : W 3 3 = ((sc (bl t) E (b + 1) : Nat) : Int) := by rw [Option.some.inj kw, hs_slot (by omega), hs_at]
            have hb1 := sc_bd (f := bl t) (show b + 1 ≤ E by omega)
            have sl : Sf t E (hs W 3 4 (W 3 3)) (liTC N (hs W 3 4 (W 3 3))) := sf_liT B hN (Cs_4 k2 (by omega)) ((DN.fr' k3).fr' FrC_4) (by rw [hs_slot (by omega), hs_slot (by omega)]; exact k5)
            obtain ⟨C5, v1, v2, v3, v4, v5⟩ := sl
            rw [v1] at s1
            have s1' := Option.some.inj s1
            have w5 : C4 3 4 = W 3 3 := by rw [← s1', v4 (by rw [hs_at]; omega), hs_at]
            have hh := m_here (N := N) (p := b + 1) B hN PN.m.tm (by omega) O9
            generalize sc (bl t) E (b + 1) = b' at *
            have mZ : Ms t E (hs (hs Y 83 9 (b' : Int)) 83 10 (b' : Int)) := Ms_10 (Ms_9 PN.m (by omega)) (by omega)
            have Z10 : hs (hs Y 83 9 (b' : Int)) 83 10 (b' : Int) 83 10 = (b' : Int) := hs_at
            obtain ⟨C1, M1, v', i1, i2, i3, i4, i5, i6, i7⟩ := ih (v + 1) n1' n2' C4 (hs (hs Y 83 9 (b' : Int)) 83 10 (b' : Int)) (by omega) (by omega) (by omega) (Ps.mk s2 mZ (by rw [Z10, w5, W3]) (fun z => by rw [w5, W3] at z; omega)) s3 (fun z => by rw [w5, W3] at z; omega) (fun _ => by rw [w5, W3]; omega)
            refine ⟨C1, M1, v', i1, fun k => ?_, i3, i4, i5, (fL'.d.trans s5).trans i6, ((fM.trans gN).r.trans (FrM_9.trans FrM_10).r).trans i7⟩
            rw [e72' k, if_pos (by rw [eqb_iff (by omega) (by omega) (by omega) (by omega)]; omega), hh, pu_bs]
            (try dsimp only)
            have mw : M_Md_wrong (hs Y 83 9 (b' : Int)) (b' : Int) = some (hs (hs Y 83 9 (b' : Int)) 83 10 (b' : Int)) := by rw [m_wrong (by rw [hs_slot (by omega)]; exact PN.m.wr), if_pos (by rw [hs_slot (by omega)]; exact O10)]
            rw [mw, pu_bs]
            rw [if_neg (flt_n mZ (by rw [Z10]; omega)), vv]
            exact i2 k
          · rw [if_neg c24, c_req (Or.inr rfl) k2.wr, pu_bs, if_neg (fun z => by omega)] at s1
            rw [if_neg c24, c_req (Or.inr rfl) k2.wr, pu_bs, if_neg (fun z => by omega), s1, pu_bs, vv]
            obtain ⟨C5, M5, u1, u2, u3, u4, u5⟩ := s2_liT (N := N) B hN PN DN N4 KN k1'
            rw [u1] at s1
            have s1' := Option.some.inj s1
            subst s1'
            obtain ⟨C1, M1, v', i1, i2, i3, i4, i5, i6, i7⟩ := ih (v + 1) n1' n2' C5 M5 (by omega) (by omega) (by omega) u3 s3 u4 (fun z => by omega)
            refine ⟨C1, M1, v', i1, fun k => ?_, i3, i4, i5, (fL'.d.trans s5).trans i6, ((fM.trans gN).r.trans u5).trans i7⟩
            rw [e72' k, if_neg (by rw [eqb_iff (by omega) (by omega) (by omega) (by omega)]; omega), u2, pu_bs, vv]
            exact i2 k
        · have lw : lW t E b (-1) = (b : Int) := by unfold lW; rw [if_pos ⟨rfl, hb, c⟩]
          rw [e47 0 (b : Int) (by rw [w]; exact lw) (if_neg (fun z => by omega)), if_pos eq00]
          have mZ : Ms t E (hs R 83 10 (b : Int)) := Ms_10 mB (by omega)
          have Z10 : hs R 83 10 (b : Int) 83 10 = (b : Int) := hs_at
          refine ⟨_, hs R 83 10 (b : Int), (v : Int) + 1, rfl, fun k => ?_, Ps.mk (cL _ (by omega)) mZ (by rw [L4, Z10]) (fun z => by rw [L4] at z; omega), D.fr' (fL _), fun z => by rw [L4] at z; omega, (fL _).d, (fM.trans FrM_10).r⟩
          rw [e72 k, if_neg nle, e87, pu_bs, pu_lt, if_neg (show ¬ eqb (t b) 59 = true by rw [eqb_iff (by omega) (by omega) (by omega) (by omega)]; exact c), m_wrong mB.wr, pu_bs, if_pos M10]
          (try dsimp only)
          rw [if_neg (flt_n mZ (by rw [Z10]; omega)), if_neg (flt_n mZ (by rw [Z10]; omega))]
          exact L72_bad mZ (by rw [Z10]; omega) (by omega) k
      · have lw : lW t E b (-1) = -1 := by unfold lW; rw [if_neg (fun z => hb z.2.1)]
        rw [e47 0 (-1) (by rw [w]; exact lw) (if_neg (fun z => hb z.2)), if_pos eq00]
        refine ⟨_, R, (v : Int), rfl, fun k => ?_, Ps.mk (cL _ (by omega)) mB (by rw [L4, M10]) (fun _ => by rw [L2, M9]), D.fr' (fL _), fun _ => Kp_fr KK (fL _) fM, (fL _).d, fM.r⟩
        rw [e72 k, if_pos (by rw [leb_iff (by omega) (by omega) (by omega) (by omega)]; omega)]
    · have lw : lW t E b (C 3 4) = C 3 4 := by unfold lW; rw [if_neg (fun z => w z.1)]
      rw [e47 0 (C 3 4) lw (if_neg (fun z => w z.1)), if_pos eq00]
      refine ⟨_, M, (v : Int), rfl, fun k => L72_bad P.m (by rw [← P.w]; exact w) (by omega) k, Ps.mk (cL _ P.c.wr) P.m (by rw [L4]; exact P.w) (fun z => by rw [L4] at z; exact absurd z w), D.fr' (fL _), fun z => by rw [L4] at z; exact absurd z w, (fL _).d, FrR.rf⟩
end Lv2
