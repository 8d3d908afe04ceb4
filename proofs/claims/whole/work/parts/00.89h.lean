section Li
variable {t : Nat → Int} {E : Nat} {h : Hp} {N : Nat}
theorem Sf_digit (B : TB t E) (hN : 1000 < N) (P : Cs t E h) (D : Ds h) {K : Int × Hp → Option Hp} (k : ∀ r h', (r = 0 ∨ r = 1) → Cs t E h' → Ds h' → FrC h h' → Sf t E h' (K (r, h'))) : Sf t E h ((M_Reader_digitComes N h).bind K) := by
  obtain ⟨r, h', e, z, p, f, w⟩ := digitC B hN P
  rw [e, pu_bs]
  exact Sf_tr (fun _ => w) f.d (k r h' z p (D.fr' f) f)
theorem sf_yL (B : TB t E) (hN : 1000 < N) : ∀ (m n : Nat) (v : Int) (h : Hp), Cs t E h → Ds h → 0 ≤ v → 9 - v ≤ (m : Int) → v ≤ 9 → m < n → Sf t E h (Reader_readYears_L44 N n v h) := by
  intro m
  induction m with
  | zero =>
    intro n v h P D h0 h1 h9 h2
    obtain ⟨n', rfl⟩ : ∃ n', n = n' + 1 := ⟨n - 1, by omega⟩
    rw [Reader_readYears_L44, if_pos (by rw [ltb_iff (by omega) (by omega) (by omega) (by omega)]; omega)]
    exact Sf_ok P D
  | succ m ih =>
    intro n v h P D h0 h1 h9 h2
    obtain ⟨n', rfl⟩ : ∃ n', n = n' + 1 := ⟨n - 1, by omega⟩
    rw [Reader_readYears_L44]
    refine Sf_ite (fun _ => Sf_ok P D) (fun c => ?_)
    rw [ltb_iff (by omega) (by omega) (by omega) (by omega)] at c
    refine Sf_digit B hN P D (fun r g z Pg Dg _ => ?_)
    (try dsimp only)
    refine Sf_if0 z (fun _ => Sf_ok Pg Dg) (fun _ => ?_)
    refine Sf_w3 (by omega) ?_
    have P' : Cs t E (hs g 3 3 (g 3 2)) := Cs_w3 Pg (by omega)
    have D' : Ds (hs g 3 3 (g 3 2)) := Dg.fr' FrC_33
    have nb : 0 ≤ hs g 3 3 (g 3 2) 3 3 ∧ hs g 3 3 (g 3 2) 3 3 ≤ hs g 3 3 (g 3 2) 3 2 := by
      have := Pg.pl
      rw [hs_at, hs_slot (by omega)]; omega
    generalize hs g 3 3 (g 3 2) = G at *
    (try dsimp only)
    refine Sf_ite (fun _ => ?_) (fun _ => ?_)
    · refine Sf_req B P' D' (Or.inl rfl) nb (fun g1 P1 D1 _ _ => ?_)
      (try dsimp only)
      refine Sf_number B hN P1 D1 (by omega) (by omega) (fun x g2 P2 D2 _ bx => ?_)
      (try dsimp only)
      refine Sf_month P2 D2 (by omega) (fun g3 P3 D3 _ => ?_)
      exact ih n' (v + 1) g3 P3 D3 (by omega) (by omega) (by omega) (by omega)
    · refine Sf_req B P' D' (Or.inr rfl) nb (fun g1 P1 D1 _ _ => ?_)
      (try dsimp only)
      refine Sf_number B hN P1 D1 (by omega) (by omega) (fun x g2 P2 D2 _ bx => ?_)
      (try dsimp only)
      refine Sf_month P2 D2 (by omega) (fun g3 P3 D3 _ => ?_)
      exact ih n' (v + 1) g3 P3 D3 (by omega) (by omega) (by omega) (by omega)
theorem sf_years (B : TB t E) (hN : 1000 < N) (P : Cs t E h) (D : Ds h) : Sf t E h (M_Reader_readYears N h) := by
  unfold M_Reader_readYears
  refine Sf_word B hN P D (fun h2 P2 D2 _ b2 => ?_)
  (try dsimp only)
  refine Sf_isWord B hN P2 (by omega) b2 (fun x z => ?_)
  (try dsimp only)
  refine Sf_req B P2 D2 z b2 (fun h6 P6 D6 _ _ => ?_)
  (try dsimp only)
  refine Sf_number B hN P6 D6 (by omega) (by omega) (fun v g Pg Dg _ bv => ?_)
  (try dsimp only)
  refine Sf_w4 ?_
  refine Sf_number B hN (Cs_w Pg (by omega)) (Ds_wk Dg (by omega)) (by omega) (by omega) (fun x g2 P2 D2 _ bx => ?_)
  (try dsimp only)
  refine Sf_month P2 D2 (by omega) (fun g3 P3 D3 _ => ?_)
  exact sf_yL B hN 8 N 1 g3 P3 D3 (by omega) (by omega) (by omega) (by omega)
def moNC (N : Nat) (h17 : Hp) : Option Hp := (M_Reader_readNumber N h17 1 19).bind (fun q19 => lt' (hs q19.2 4 6 q19.1) (fun h20 => (M_Reader_readNumber N h20 0 99).bind (fun q22 => lt' (hs q22.2 4 7 q22.1) (fun h23 => (M_Reader_readNumber N h23 0 30).bind (fun q25 => lt' (hs q25.2 4 8 q25.1) (fun h26 => (M_Reader_readNumber N h26 1 (mnI 30 (((h26 4 3) - (h26 4 7)) - (h26 4 1)))).bind (fun q28 => lt' (hs q28.2 4 9 q28.1) (fun h29 => some h29))))))))
def moTC (N : Nat) (h : Hp) : Option Hp := (M_Reader_isWord N h 2).bind (fun x15 => (M_Reader_require h x15).bind (fun h17 => moNC N h17))
theorem moon_eq : M_Reader_readMoon N h = (M_Reader_readWord N h).bind (fun h2 => (M_Reader_isWord N h2 1).bind (fun x4 => lt' (fun (h_13 : Hp) => moTC N h_13) (fun j13 => if eqb x4 0 then j13 h2 else (M_Reader_readNumber N h2 2 9).bind (fun q31 => lt' (hs q31.2 4 4 q31.1) (fun h32 => (M_Reader_readNumber N h32 0 ((h32 4 2) - 1)).bind (fun q34 => lt' (hs q34.2 4 5 q34.1) (fun h35 => (M_Reader_readWord N h35).bind (fun h37 => j13 h37)))))))) := by
  unfold M_Reader_readMoon moTC moNC
  exact Eq.trans rfl rfl
theorem sf_moN (B : TB t E) (hN : 1000 < N) (P : Cs t E h) (D : Ds h) : Sf t E h (moNC N h) := by
  unfold moNC
  refine Sf_number B hN P D (by omega) (by omega) (fun a g1 P1 D1 _ ba => ?_)
  (try dsimp only)
  refine Sf_w4 ?_
  refine Sf_number B hN (Cs_w P1 (by omega)) (Ds_w4 D1 (by omega)) (by omega) (by omega) (fun b g2 P2 D2 _ bb => ?_)
  (try dsimp only)
  refine Sf_w4 ?_
  refine Sf_number B hN (Cs_w P2 (by omega)) (Ds_w4 D2 (by omega)) (by omega) (by omega) (fun c g3 P3 D3 f3 bc => ?_)
  (try dsimp only)
  refine Sf_w4 ?_
  have e7 : hs g3 4 8 c 4 7 = b := by rw [hs_slot (by omega), f3.1 4 (by omega), hs_at]
  have P4 : Cs t E (hs g3 4 8 c) := Cs_w P3 (by omega)
  have D4 : Ds (hs g3 4 8 c) := Ds_w4 D3 (by omega)
  generalize hs g3 4 8 c = G at *
  have yd := D4.yd
  have mo := D4.mo
  have wk := D4.wk
  refine Sf_number B hN P4 D4 (by omega) (by rw [e7, pu_mn (by omega) (by omega) (by omega) (by omega)]; omega) (fun d g4 P5 D5 _ _ => ?_)
  exact Sf_w4 (Sf_ok (Cs_w P5 (by omega)) (Ds_w4 D5 (by omega)))
theorem sf_moT (B : TB t E) (hN : 1000 < N) (P : Cs t E h) (D : Ds h) (hb : 0 ≤ h 3 3 ∧ h 3 3 ≤ h 3 2) : Sf t E h (moTC N h) := by
  unfold moTC
  exact Sf_isWord B hN P (by omega) hb (fun x z => Sf_req B P D z hb (fun g Pg Dg _ _ => sf_moN B hN Pg Dg))
theorem sf_moon (B : TB t E) (hN : 1000 < N) (P : Cs t E h) (D : Ds h) : Sf t E h (M_Reader_readMoon N h) := by
  rw [moon_eq]
  refine Sf_word B hN P D (fun h2 P2 D2 _ b2 => ?_)
  (try dsimp only)
  refine Sf_isWord B hN P2 (by omega) b2 (fun x4 z4 => ?_)
  (try dsimp only)
  refine Sf_lt (fun j => ∀ g : Hp, Cs t E g → Ds g → (0 ≤ g 3 3 ∧ g 3 3 ≤ g 3 2) → Sf t E g (j g)) (fun g Pg Dg bg => sf_moT B hN Pg Dg bg) (fun j hj => Sf_if0 z4 (fun _ => hj h2 P2 D2 b2) (fun _ => ?_))
  refine Sf_number B hN P2 D2 (by omega) (by omega) (fun a g1 P1 D1 _ ba => ?_)
  (try dsimp only)
  refine Sf_w4 ?_
  have P4 : Cs t E (hs g1 4 4 a) := Cs_w P1 (by omega)
  have D4 : Ds (hs g1 4 4 a) := Ds_w4 D1 (by omega)
  have mo := D4.mo
  generalize hs g1 4 4 a = G at *
  refine Sf_number B hN P4 D4 (by omega) (by omega) (fun b g2 P5 D5 _ bb => ?_)
  (try dsimp only)
  refine Sf_w4 ?_
  exact Sf_word B hN (Cs_w P5 (by omega)) (Ds_w4 D5 (by omega)) (fun g3 P6 D6 _ b6 => hj g3 P6 D6 b6)
end Li
