section Lm
variable {t : Nat → Int} {E p b d q s e : Nat} {h : Hp} {N : Nat}
theorem c_law (B : TB t E) (hN : 1000 < N) (T : TC t E h) (hp : p ≤ E) (e2 : h 3 2 = (p : Int)) (hw : -1 ≤ h 3 4 ∧ h 3 4 ≤ 400) (eb : sc (bl t) E p = b) (ee : sc (le' t) E b = e) :
    (hasW t b e (txS 6) ∧ M_Reader_readLaw N h = some (0, hs (hs h 3 3 (b : Int)) 3 2 (e : Int))) ∨
    (¬ hasW t b e (txS 6) ∧ hasW t b e (txS 7) ∧ M_Reader_readLaw N h = some (1, hs (hs h 3 3 (b : Int)) 3 2 (e : Int))) ∨
    (¬ hasW t b e (txS 6) ∧ ¬ hasW t b e (txS 7) ∧ hasW t b e (txS 8) ∧ M_Reader_readLaw N h = some (2, hs (hs h 3 3 (b : Int)) 3 2 (e : Int))) ∨
    (¬ hasW t b e (txS 6) ∧ ¬ hasW t b e (txS 7) ∧ ¬ hasW t b e (txS 8) ∧ hasW t b e (txS 9) ∧ M_Reader_readLaw N h = some (3, hs (hs h 3 3 (b : Int)) 3 2 (e : Int))) ∨
    (¬ hasW t b e (txS 6) ∧ ¬ hasW t b e (txS 7) ∧ ¬ hasW t b e (txS 8) ∧ ¬ hasW t b e (txS 9) ∧ M_Reader_readLaw N h = some (3, hs (hs (hs h 3 3 (b : Int)) 3 2 (e : Int)) 3 4 (if h 3 4 = -1 then (b : Int) else h 3 4))) := by
  have he := B.e
  have hb := sc_bd (f := bl t) hp
  rw [eb] at hb
  have hee := sc_bd (f := le' t) hb.2
  rw [ee] at hee
  have k := c_word (N := N) B hN T hp e2
  rw [eb, ee] at k
  have T2 : TC t E (hs (hs h 3 3 (b : Int)) 3 2 (e : Int)) := TC_3 (TC_3 T)
  have g3 : hs (hs h 3 3 (b : Int)) 3 2 (e : Int) 3 3 = (b : Int) := by rw [hs_slot (by omega), hs_at]
  have g2 : hs (hs h 3 3 (b : Int)) 3 2 (e : Int) 3 2 = (e : Int) := hs_at
  have g4 : hs (hs h 3 3 (b : Int)) 3 2 (e : Int) 3 4 = h 3 4 := by rw [hs_slot (by omega), hs_slot (by omega)]
  obtain ⟨r6, a6, z6⟩ := c_isWord (N := N) (w := 6) B hN T2 (by omega) g3 g2 hee.1 hee.2
  obtain ⟨r7, a7, z7⟩ := c_isWord (N := N) (w := 7) B hN T2 (by omega) g3 g2 hee.1 hee.2
  obtain ⟨r8, a8, z8⟩ := c_isWord (N := N) (w := 8) B hN T2 (by omega) g3 g2 hee.1 hee.2
  obtain ⟨r9, a9, z9⟩ := c_isWord (N := N) (w := 9) B hN T2 (by omega) g3 g2 hee.1 hee.2
  unfold M_Reader_readLaw
  rw [k, pu_bs, a6, pu_bs]
  rcases z6 with ⟨y6, x6⟩ | ⟨y6, x6⟩
  · subst y6; exact Or.inl ⟨x6, by rw [if_neg ne10]⟩
  · subst y6
    rw [if_pos eq00, a7, pu_bs]
    rcases z7 with ⟨y7, x7⟩ | ⟨y7, x7⟩
    · subst y7; exact Or.inr (Or.inl ⟨x6, x7, by rw [if_neg ne10]⟩)
    · subst y7
      rw [if_pos eq00, a8, pu_bs]
      rcases z8 with ⟨y8, x8⟩ | ⟨y8, x8⟩
      · subst y8; exact Or.inr (Or.inr (Or.inl ⟨x6, x7, x8, by rw [if_neg ne10]⟩))
      · subst y8
        rw [if_pos eq00, a9, pu_bs]
        rcases z9 with ⟨y9, x9⟩ | ⟨y9, x9⟩
        · subst y9
          refine Or.inr (Or.inr (Or.inr (Or.inl ⟨x6, x7, x8, x9, ?_⟩)))
          rw [c_req (Or.inr rfl) (by rw [g4]; exact hw), pu_bs, if_neg (fun z => by omega)]
        · subst y9
          refine Or.inr (Or.inr (Or.inr (Or.inr ⟨x6, x7, x8, x9, ?_⟩)))
          rw [c_req (Or.inl rfl) (by rw [g4]; exact hw), pu_bs, g4, g3]
          by_cases c : h 3 4 = -1
          · rw [if_pos ⟨rfl, c⟩, if_pos c]
          · rw [if_neg (fun z => c z.2), if_neg c, hs_self g4]
end Lm
