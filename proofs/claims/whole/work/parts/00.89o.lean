section Lq2
variable {t : Nat → Int} {E : Nat} {C M : Hp} {N : Nat}
theorem Bd_id {x : Option Hp} (s : Bd t E M x) : Bd t E M (x.bind (fun y => some y)) := by
  obtain ⟨h', e, r⟩ := s
  exact ⟨h', by rw [e, pu_bs], r⟩
theorem hasW_ne {b e a c : Nat} (ha : a < 36) (hc : c < 36) (hd : (txS a).length ≠ (txS c).length ∨ (txS a).getD 0 0 ≠ (txS c).getD 0 0) (h1 : hasW t b e (txS a)) : ¬ hasW t b e (txS c) := fun h2 => by
  have la := len_bd ha
  have lc := len_bd hc
  obtain ⟨x1, x2⟩ := h1
  obtain ⟨y1, y2⟩ := h2
  rcases hd with z | z
  · omega
  · exact z ((x2 0 (by omega)).symm.trans (y2 0 (by omega)))
theorem told3 (D : Ds C) (K : Kp (M 88) C (M 83 12)) : ∃ a b c : Nat, a < 2 ∧ b < 2 ∧ c < 2 ∧ C 3 5 = (a : Int) ∧ C 3 6 = (b : Int) ∧ C 3 7 = (c : Int) ∧ M 83 12 = ((a + 2 * b + 4 * c : Nat) : Int) := by
  have f5 := D.f5
  have f6 := D.f6
  have f7 := D.f7
  have tl := K.st.tld
  exact ⟨(C 3 5).toNat, (C 3 6).toNat, (C 3 7).toNat, by omega, by omega, by omega, by omega, by omega, by omega, by omega⟩
theorem s2_reach (B : TB t E) (hN : 1000 < N) (P : Ps t E C M) (D : Ds C) (K : Kp (M 88) C (M 83 12)) {a2 : Int} (z : C 3 5 = 0) : S2 (ckB 1 (lt' (hs C 3 5 1) (fun h29 => (M_Reader_readNumber N h29 1 60).bind (fun q31 => lt' (hs q31.2 4 10 q31.1) (fun h32 => some h32))))) (M_Md_once N M 0 a2 16 1 60) (Q2 t E M) := by
  obtain ⟨a, b, c, ha, hb, hc, e5, e6, e7, ew⟩ := told3 D K
  have a0 : a = 0 := by omega
  subst a0
  refine s2_once B hN P K (n3 := 16) (w2 := ((1 + 2 * b + 4 * c : Nat) : Int)) (by omega) (by omega) (by omega) (by omega) (by rw [ew]; exact tb_0 0 ha b hb c hc) (by rw [ew]; exact to_0 b hb c hc) (by omega) (by omega) (fun v b' h' l1 l2 q1 q2 q3 q4 q5 q6 => PSet.mk ?_ ?_ ?_ ?_ ?_)
  · rw [q2, q4]; omega
  · rw [q1 17 (by omega), q3 13 (by omega)]; exact K.st.fas
  · rw [q1 18 (by omega), q3 12 (by omega)]; exact K.st.lft
  · rw [q1 19 (by omega), q3 11 (by omega)]; exact K.st.rst
  · rw [q6, q5 6 (by omega) (by omega) (by omega), q5 7 (by omega) (by omega) (by omega), e6, e7]; omega
theorem s2_rest (B : TB t E) (hN : 1000 < N) (P : Ps t E C M) (D : Ds C) (K : Kp (M 88) C (M 83 12)) {a2 : Int} (z : C 3 6 = 0) : S2 (ckB 1 (lt' (hs C 3 6 1) (fun h29 => (M_Reader_readNumber N h29 0 9).bind (fun q31 => lt' (hs q31.2 4 11 q31.1) (fun h32 => some h32))))) (M_Md_once N M 1 a2 19 0 9) (Q2 t E M) := by
  obtain ⟨a, b, c, ha, hb, hc, e5, e6, e7, ew⟩ := told3 D K
  have b0 : b = 0 := by omega
  subst b0
  refine s2_once B hN P K (n3 := 19) (w2 := ((a + 2 + 4 * c : Nat) : Int)) (by omega) (by omega) (by omega) (by omega) (by rw [ew]; exact tb_1 a ha 0 hb c hc) (by rw [ew]; exact to_1 a ha c hc) (by omega) (by omega) (fun v b' h' l1 l2 q1 q2 q3 q4 q5 q6 => PSet.mk ?_ ?_ ?_ ?_ ?_)
  · rw [q1 16 (by omega), q3 10 (by omega)]; exact K.st.rch
  · rw [q1 17 (by omega), q3 13 (by omega)]; exact K.st.fas
  · rw [q1 18 (by omega), q3 12 (by omega)]; exact K.st.lft
  · rw [q2, q4]; omega
  · rw [q6, q5 5 (by omega) (by omega) (by omega), q5 7 (by omega) (by omega) (by omega), e5, e7]; omega
theorem s2_lift (B : TB t E) (hN : 1000 < N) (P : Ps t E C M) (D : Ds C) (K : Kp (M 88) C (M 83 12)) {a2 : Int} (z : C 3 7 = 0) : S2 (ckB 1 (lt' (hs C 3 7 1) (fun h29 => (M_Reader_readNumber N h29 1 9).bind (fun q31 => lt' (hs q31.2 4 12 q31.1) (fun h32 => some h32))))) (M_Md_once N M 2 a2 18 1 9) (Q2 t E M) := by
  obtain ⟨a, b, c, ha, hb, hc, e5, e6, e7, ew⟩ := told3 D K
  have c0 : c = 0 := by omega
  subst c0
  refine s2_once B hN P K (n3 := 18) (w2 := ((a + 2 * b + 4 : Nat) : Int)) (by omega) (by omega) (by omega) (by omega) (by rw [ew]; exact tb_2 a ha b hb 0 hc) (by rw [ew]; exact to_2 a ha b hb) (by omega) (by omega) (fun v b' h' l1 l2 q1 q2 q3 q4 q5 q6 => PSet.mk ?_ ?_ ?_ ?_ ?_)
  · rw [q1 16 (by omega), q3 10 (by omega)]; exact K.st.rch
  · rw [q1 17 (by omega), q3 13 (by omega)]; exact K.st.fas
  · rw [q2, q4]; omega
  · rw [q1 19 (by omega), q3 11 (by omega)]; exact K.st.rst
  · rw [q6, q5 5 (by omega) (by omega) (by omega), q5 6 (by omega) (by omega) (by omega), e5, e6]; omega
theorem s2_liT (B : TB t E) (hN : 1000 < N) (P : Ps t E C M) (D : Ds C) (w : C 3 4 = -1) (K : Kp (M 88) C (M 83 12)) {G : Hp} (kG : M_Reader_readWord N C = some G) : S2 (liTC N G) (M_Md_line N M) (Q2 t E M) := by
  have he := B.e
  have pc := P.c.pl
  have pm := P.m.pl
  have w' : M 83 10 = -1 := by rw [← P.w]; exact w
  obtain ⟨p, ep⟩ : ∃ p : Nat, C 3 2 = (p : Int) := ⟨(C 3 2).toNat, by omega⟩
  obtain ⟨q, eq⟩ : ∃ q : Nat, M 83 9 = (q : Int) := ⟨(M 83 9).toNat, by omega⟩
  have hr := m_here (N := N) B hN P.m.tm (show q ≤ E by omega) eq
  have PH := Ps_here P eq
  have st := P.s w
  rw [ep, eq, Int.toNat_natCast, Int.toNat_natCast] at st
  have hbp := sc_bd (f := bl t) (show p ≤ E by omega)
  have sbb := sc_sc (f := bl t) (show p ≤ E by omega)
  rw [← st] at hr PH
  have kw := c_word (N := N) B hN P.c.tc (show p ≤ E by omega) ep
  generalize eb : sc (bl t) E p = b at *
  have hee := sc_bd (f := le' t) hbp.2
  generalize ee : sc (le' t) E b = e at *
  rw [kG] at kw
  have kw' : hs (hs C 3 3 (b : Int)) 3 2 (e : Int) = G := (Option.some.inj kw).symm
  have PW := Ps_word (b := b) PH hee.2
  have g3 : hs (hs C 3 3 (b : Int)) 3 2 (e : Int) 3 3 = (b : Int) := by rw [hs_slot (by omega), hs_at]
  have g2 : hs (hs C 3 3 (b : Int)) 3 2 (e : Int) 3 2 = (e : Int) := hs_at
  have g4 : hs (hs C 3 3 (b : Int)) 3 2 (e : Int) 3 4 = C 3 4 := by rw [hs_slot (by omega), hs_slot (by omega)]
  have fW : FrC C (hs (hs C 3 3 (b : Int)) 3 2 (e : Int)) := FrC_word
  rw [kw'] at PW g3 g2 g4 fW
  have n9 : hs M 83 9 (b : Int) 83 9 = (b : Int) := hs_at
  have n10 : hs M 83 9 (b : Int) 83 10 = -1 := by rw [hs_slot (by omega)]; exact w'
  have fH : FrM M (hs M 83 9 (b : Int)) := FrM_9
  generalize hs M 83 9 (b : Int) = H at *
  have fM : FrM M (hs H 83 9 (e : Int)) := fH.trans FrM_9
  have wG : G 3 4 = -1 := by rw [g4]; exact w
  have KG : Kp (hs H 83 9 (e : Int) 88) G (hs H 83 9 (e : Int) 83 12) := Kp_fr K fW fM
  have DG : Ds G := D.fr' fW
  have iy : ∀ k, k < 36 → hasW t b e (txS k) → M_Reader_isWord N G k = some 1 := fun k hk hw => by
    obtain ⟨r, a, y⟩ := c_isWord (N := N) (w := k) B hN PW.c.tc hk g3 g2 hee.1 hee.2
    rcases y with y | y
    · rw [a, y.1]
    · exact absurd hw y.2
  have io : ∀ k, k < 36 → ¬ hasW t b e (txS k) → M_Reader_isWord N G k = some 0 := fun k hk hw => by
    obtain ⟨r, a, y⟩ := c_isWord (N := N) (w := k) B hN PW.c.tc hk g3 g2 hee.1 hee.2
    rcases y with y | y
    · exact absurd y.2 hw
    · rw [a, y.1]
  have hy : ∀ k, k < 36 → hasW t b e (txS k) → M_Md_has N H k = some (1, hs H 83 9 (e : Int)) := fun k hk hw => by
    obtain ⟨r, a, y⟩ := m_has1 (N := N) (w := k) B hN PH.m.tm hk hbp.2 n9 sbb ee n10
    rcases y with y | y
    · rw [a, y.2]
    · exact absurd hw y.1
  have ho : ∀ k, k < 36 → ¬ hasW t b e (txS k) → M_Md_has N H k = some (0, H) := fun k hk hw => by
    obtain ⟨r, a, y⟩ := m_has1 (N := N) (w := k) B hN PH.m.tm hk hbp.2 n9 sbb ee n10
    rcases y with y | y
    · exact absurd y.1 hw
    · rw [a, y.2]
  have tr : ∀ x y : Option Hp, S2 x y (Q2 t E (hs H 83 9 (e : Int))) → S2 x y (Q2 t E M) := fun x y s => Q2_tr fM.r s
  have ha : 0 ≤ (b : Int) ∧ (b : Int) ≤ 400 := by omega
  unfold liTC M_Md_line
  rw [hr, pu_bs]
  (try dsimp only)
  have no_ : ∀ y : Option Hp, Bd t E (hs (hs H 83 9 (e : Int)) 83 10 (b : Int)) y → S2 ((M_Reader_require G 0).bind (fun h18 => some h18)) y (Q2 t E M) := fun y s => by
    rw [c_req (Or.inl rfl) PW.c.wr, pu_bs, if_pos ⟨rfl, wG⟩, g3]
    exact S2_bad (by rw [hs_at, hs_at]) (by rw [hs_at]; omega) (Sf_ok (Cs_4 PW.c ha) (DG.fr' FrC_4)) s (fM.trans FrM_10).r
  by_cases c3 : hasW t b e (txS 3)
  · have n1 := ho 21 (by omega) (hasW_ne (by omega) (by omega) (by decide) c3)
    have n2 := ho 22 (by omega) (hasW_ne (by omega) (by omega) (by decide) c3)
    have n3 := ho 23 (by omega) (hasW_ne (by omega) (by omega) (by decide) c3)
    have n4 := ho 24 (by omega) (hasW_ne (by omega) (by omega) (by decide) c3)
    have n5 := ho 25 (by omega) (hasW_ne (by omega) (by omega) (by decide) c3)
    have n6 := ho 26 (by omega) (hasW_ne (by omega) (by omega) (by decide) c3)
    have n7 := hy 27 (by omega) c3
    have i1 := iy 3 (by omega) c3
    simp only [n1, n2, n3, n4, n5, n6, n7, i1, pu_bs, if_pos eq00, if_neg ne10]
    exact tr _ _ (S2_id (s2_feastL B hN PW DG wG KG g3 ha))
  have i3 := io 3 (by omega) c3
  have o27 := ho 27 (by omega) c3
  by_cases c12 : hasW t b e (txS 12)
  · have n1 := ho 21 (by omega) (hasW_ne (by omega) (by omega) (by decide) c12)
    have n2 := ho 22 (by omega) (hasW_ne (by omega) (by omega) (by decide) c12)
    have n3 := ho 23 (by omega) (hasW_ne (by omega) (by omega) (by decide) c12)
    have n4 := ho 24 (by omega) (hasW_ne (by omega) (by omega) (by decide) c12)
    have n5 := hy 25 (by omega) c12
    have i1 := iy 12 (by omega) c12
    simp only [n1, n2, n3, n4, n5, i3, i1, pu_bs, if_pos eq00, if_neg ne10]
    exact tr _ _ (S2_id (s2_season B hN PW DG wG KG g3 ha))
  have i12 := io 12 (by omega) c12
  have o25 := ho 25 (by omega) c12
  by_cases c13 : hasW t b e (txS 13)
  · have n1 := ho 21 (by omega) (hasW_ne (by omega) (by omega) (by decide) c13)
    have n2 := ho 22 (by omega) (hasW_ne (by omega) (by omega) (by decide) c13)
    have n3 := ho 23 (by omega) (hasW_ne (by omega) (by omega) (by decide) c13)
    have n4 := ho 24 (by omega) (hasW_ne (by omega) (by omega) (by decide) c13)
    have n5 := hy 26 (by omega) c13
    have i1 := iy 13 (by omega) c13
    simp only [n1, n2, n3, n4, o25, n5, i3, i12, i1, pu_bs, if_pos eq00, if_neg ne10]
    exact tr _ _ (S2_id (s2_closed B hN PW DG wG KG g3 ha))
  have i13 := io 13 (by omega) c13
  have o26 := ho 26 (by omega) c13
  by_cases c14 : hasW t b e (txS 14)
  · have n1 := ho 21 (by omega) (hasW_ne (by omega) (by omega) (by decide) c14)
    have n2 := ho 22 (by omega) (hasW_ne (by omega) (by omega) (by decide) c14)
    have n3 := ho 23 (by omega) (hasW_ne (by omega) (by omega) (by decide) c14)
    have n5 := hy 24 (by omega) c14
    have i1 := iy 14 (by omega) c14
    simp only [n1, n2, n3, n5, i3, i12, i13, i1, pu_bs, if_pos eq00, if_neg ne10]
    exact tr _ _ (S2_id (s2_fast B hN PW DG wG KG))
  have i14 := io 14 (by omega) c14
  have o24 := ho 24 (by omega) c14
  obtain ⟨fa, fb, fc, hfa, hfb, hfc, e5, e6, e7, ew⟩ := told3 DG KG
  have w9 : hs H 83 9 (e : Int) 83 10 = -1 := by rw [hs_slot (by omega)]; exact n10
  unfold M_Reader_readSetting
  by_cases c15 : hasW t b e (txS 15)
  · have i15 := iy 15 (by omega) c15
    have i16 := io 16 (by omega) (hasW_ne (by omega) (by omega) (by decide) c15)
    have i17 := io 17 (by omega) (hasW_ne (by omega) (by omega) (by decide) c15)
    have n1 := hy 21 (by omega) c15
    rcases DG.f5 with z | z
    · have s := s2_reach (a2 := (b : Int)) B hN PW DG KG z
      simp only [n1, i3, i12, i13, i14, i15, i16, i17, z, pu_bs, pu_lt, pu_c1, if_pos eq00, if_neg ne10] at s ⊢
      exact tr _ _ (S2_id s)
    · simp only [n1, i3, i12, i13, i14, i15, i16, i17, z, pu_bs, pu_lt, pu_c1, if_pos eq00, if_neg ne10]
      have bb := Bd_id (once_bad (N := N) (a1 := 0) (a2 := (b : Int)) (a3 := 16) (lo := 1) (hi := 60) (n3 := 16) PW.m w9 (by omega) (by omega) (by rw [ew, tb_0 fa hfa fb hfb fc hfc]; omega) ha)
      obtain ⟨x, y, u1, u2, u3⟩ := no_ _ bb
      exact ⟨x, y, by rw [u1, pu_bs], u2, u3⟩
  have i15 := io 15 (by omega) c15
  have o21 := ho 21 (by omega) c15
  by_cases c16 : hasW t b e (txS 16)
  · have i16 := iy 16 (by omega) c16
    have i17 := io 17 (by omega) (hasW_ne (by omega) (by omega) (by decide) c16)
    have n1 := hy 22 (by omega) c16
    rcases DG.f6 with z | z
    · have s := s2_rest (a2 := (b : Int)) B hN PW DG KG z
      simp only [o21, n1, i3, i12, i13, i14, i15, i16, i17, z, pu_bs, pu_lt, pu_c1, if_pos eq00, if_neg ne10] at s ⊢
      exact tr _ _ (S2_id s)
    · simp only [o21, n1, i3, i12, i13, i14, i15, i16, i17, z, pu_bs, pu_lt, pu_c1, if_pos eq00, if_neg ne10]
      have bb := Bd_id (once_bad (N := N) (a1 := 1) (a2 := (b : Int)) (a3 := 19) (lo := 0) (hi := 9) (n3 := 19) PW.m w9 (by omega) (by omega) (by rw [ew, tb_1 fa hfa fb hfb fc hfc]; omega) ha)
      obtain ⟨x, y, u1, u2, u3⟩ := no_ _ bb
      exact ⟨x, y, by rw [u1, pu_bs], u2, u3⟩
  have i16 := io 16 (by omega) c16
  have o22 := ho 22 (by omega) c16
  by_cases c17 : hasW t b e (txS 17)
  · have i17 := iy 17 (by omega) c17
    have n1 := hy 23 (by omega) c17
    rcases DG.f7 with z | z
    · have s := s2_lift (a2 := (b : Int)) B hN PW DG KG z
      simp only [o21, o22, n1, i3, i12, i13, i14, i15, i16, i17, z, pu_bs, pu_lt, pu_c1, if_pos eq00, if_neg ne10] at s ⊢
      exact tr _ _ (S2_id s)
    · simp only [o21, o22, n1, i3, i12, i13, i14, i15, i16, i17, z, pu_bs, pu_lt, pu_c1, if_pos eq00, if_neg ne10]
      have bb := Bd_id (once_bad (N := N) (a1 := 2) (a2 := (b : Int)) (a3 := 18) (lo := 1) (hi := 9) (n3 := 18) PW.m w9 (by omega) (by omega) (by rw [ew, tb_2 fa hfa fb hfb fc hfc]; omega) ha)
      obtain ⟨x, y, u1, u2, u3⟩ := no_ _ bb
      exact ⟨x, y, by rw [u1, pu_bs], u2, u3⟩
  have i17 := io 17 (by omega) c17
  have o23 := ho 23 (by omega) c17
  simp only [o21, o22, o23, o24, o25, o26, o27, i3, i12, i13, i14, i15, i16, i17, pu_bs, pu_lt, pu_c1, if_pos eq00, if_neg ne10]
  rw [m_wrong PH.m.wr, pu_bs, if_pos n10, c_req (Or.inl rfl) PW.c.wr, pu_bs, if_pos ⟨rfl, wG⟩, g3, pu_bs]
  exact S2_bad (C := hs G 3 4 (b : Int)) (M := hs H 83 10 (b : Int)) (by rw [hs_at, hs_at]) (by rw [hs_at]; omega) (Sf_ok (Cs_4 PW.c ha) (DG.fr' FrC_4)) (Bd_ok (Ms_10 PH.m (by omega))) (fH.trans FrM_10).r
end Lq2
