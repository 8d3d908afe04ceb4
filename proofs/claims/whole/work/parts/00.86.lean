section Lo
variable {t : Nat → Int} {E p b d q s e : Nat} {h : Hp} {N : Nat}
theorem m_has1 (B : TB t E) (hN : 1000 < N) (T : TM t E h) {w : Nat} (hw : w < 36) (hb : b ≤ E) (e9 : h 83 9 = (b : Int)) (eb : sc (bl t) E b = b) (ee : sc (le' t) E b = e) (hf : h 83 10 = -1) :
    ∃ r : Int × Hp, M_Md_has N h w = some r ∧ ((hasW t b e (txS w) ∧ r = (1, hs h 83 9 (e : Int))) ∨ (¬ hasW t b e (txS w) ∧ r = (0, h))) := by
  obtain ⟨r, r1, r2⟩ := m_has (N := N) B hN T hw hb e9 (by omega)
  rw [eb, ee, hs_self e9] at r2
  refine ⟨r, r1, ?_⟩
  rcases r2 with z | z
  · exact Or.inl z.2
  · exact Or.inr ⟨fun y => z.1 ⟨hf, y⟩, z.2⟩
theorem m_law (B : TB t E) (hN : 1000 < N) (T : TM t E h) (hp : p ≤ E) (e9 : h 83 9 = (p : Int)) (hf : h 83 10 = -1) (eb : sc (bl t) E p = b) (ee : sc (le' t) E b = e) :
    (hasW t b e (txS 30) ∧ M_Md_lawWord N h = some (0, hs h 83 9 (e : Int))) ∨
    (¬ hasW t b e (txS 30) ∧ hasW t b e (txS 31) ∧ M_Md_lawWord N h = some (1, hs h 83 9 (e : Int))) ∨
    (¬ hasW t b e (txS 30) ∧ ¬ hasW t b e (txS 31) ∧ hasW t b e (txS 32) ∧ M_Md_lawWord N h = some (2, hs h 83 9 (e : Int))) ∨
    (¬ hasW t b e (txS 30) ∧ ¬ hasW t b e (txS 31) ∧ ¬ hasW t b e (txS 32) ∧ hasW t b e (txS 33) ∧ M_Md_lawWord N h = some (3, hs h 83 9 (e : Int))) ∨
    (¬ hasW t b e (txS 30) ∧ ¬ hasW t b e (txS 31) ∧ ¬ hasW t b e (txS 32) ∧ ¬ hasW t b e (txS 33) ∧ M_Md_lawWord N h = some (-1, hs (hs h 83 9 (b : Int)) 83 10 (b : Int))) := by
  have he := B.e
  have hb := sc_bd (f := bl t) hp
  have ebb := sc_sc (f := bl t) hp
  rw [eb] at hb ebb
  have TG : TM t E (hs h 83 9 (b : Int)) := TM_9 T
  have g9 : hs h 83 9 (b : Int) 83 9 = (b : Int) := hs_at
  have g10 : hs h 83 9 (b : Int) 83 10 = -1 := by rw [hs_slot (by omega)]; exact hf
  have ne : ∀ k : Int, 0 ≤ k → k ≤ 3 → ¬ eqb k (-1) = true := fun k k1 k2 => by rw [eqb_iff (by omega) (by omega) (by omega) (by omega)]; omega
  obtain ⟨r6, a6, z6⟩ := m_has1 (N := N) (w := 30) B hN TG (by omega) hb.2 g9 ebb ee g10
  obtain ⟨r7, a7, z7⟩ := m_has1 (N := N) (w := 31) B hN TG (by omega) hb.2 g9 ebb ee g10
  obtain ⟨r8, a8, z8⟩ := m_has1 (N := N) (w := 32) B hN TG (by omega) hb.2 g9 ebb ee g10
  obtain ⟨r9, a9, z9⟩ := m_has1 (N := N) (w := 33) B hN TG (by omega) hb.2 g9 ebb ee g10
  rw [hs_hs] at z6 z7 z8 z9
  unfold M_Md_lawWord
  rw [m_here B hN T hp e9, pu_bs, eb]
  dsimp only
  rw [a6, pu_bs]
  rcases z6 with ⟨x6, y6⟩ | ⟨x6, y6⟩
  · subst y6; exact Or.inl ⟨x6, by rw [if_neg ne10, if_neg (ne 0 (by omega) (by omega))]⟩
  · subst y6
    dsimp only
    rw [if_pos eq00, a7, pu_bs]
    rcases z7 with ⟨x7, y7⟩ | ⟨x7, y7⟩
    · subst y7; exact Or.inr (Or.inl ⟨x6, x7, by rw [if_neg ne10, if_neg (ne 1 (by omega) (by omega))]⟩)
    · subst y7
      dsimp only
      rw [if_pos eq00, a8, pu_bs]
      rcases z8 with ⟨x8, y8⟩ | ⟨x8, y8⟩
      · subst y8; exact Or.inr (Or.inr (Or.inl ⟨x6, x7, x8, by rw [if_neg ne10, if_neg (ne 2 (by omega) (by omega))]⟩))
      · subst y8
        dsimp only
        rw [if_pos eq00, a9, pu_bs]
        rcases z9 with ⟨x9, y9⟩ | ⟨x9, y9⟩
        · subst y9
          exact Or.inr (Or.inr (Or.inr (Or.inl ⟨x6, x7, x8, x9, by rw [if_neg ne10, if_neg (ne 3 (by omega) (by omega))]⟩)))
        · subst y9
          refine Or.inr (Or.inr (Or.inr (Or.inr ⟨x6, x7, x8, x9, ?_⟩)))
          dsimp only
          rw [if_pos eq00, if_pos (show eqb (-1) (-1) = true by rw [eqb_iff (by omega) (by omega) (by omega) (by omega)]), m_wrong (by rw [g10]; omega), pu_bs, g10, if_pos rfl]
end Lo
