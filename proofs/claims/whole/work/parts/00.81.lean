section Li
variable {t : Nat → Int} {E p b d q s : Nat} {h : Hp} {N : Nat}
theorem c_digitComes (B : TB t E) (hN : 1000 < N) (T : TC t E h) (hp : p ≤ E) (e : h 3 2 = (p : Int)) (eb : sc (bl t) E p = b) : M_Reader_digitComes N h = some (if 48 ≤ tv t E b ∧ tv t E b ≤ 57 then 1 else 0, hs h 3 2 (b : Int)) := by
  have hb := sc_bd (f := bl t) hp
  rw [eb] at hb
  unfold M_Reader_digitComes
  rw [c_skip B hN T hp e, pu_bs, eb, hs_at, c_at B (TC_3 T) hb.2, pu_bs, c_isDigit (tv_bd B), pu_bs]
  by_cases c : 48 ≤ tv t E b ∧ tv t E b ≤ 57
  · rw [if_pos c, pu_c1]
  · rw [if_neg c, pu_c0]
theorem m_isFigure (B : TB t E) (hN : 1000 < N) (T : TM t E h) (hp : p ≤ E) (e : h 83 9 = (p : Int)) (eb : sc (bl t) E p = b) : M_Md_isFigure N h = some (if 48 ≤ tv t E b ∧ tv t E b ≤ 57 then 1 else 0, hs h 83 9 (b : Int)) := by
  have he := B.e
  have te := (TM_9 (v := (b : Int)) T).e
  have hb := sc_bd (f := bl t) hp
  rw [eb] at hb
  unfold M_Md_isFigure
  rw [m_here B hN T hp e, pu_bs, eb]
  dsimp only
  unfold tv
  by_cases c0 : E ≤ b
  · rw [if_pos (show leb (hs h 83 9 (b : Int) 83 8) (b : Int) = true by rw [te, leb_iff (by omega) (by omega) (by omega) (by omega)]; omega), pu_c0, if_neg (show ¬ b < E by omega), if_neg (show ¬ ((48 : Int) ≤ -1 ∧ (-1 : Int) ≤ 57) by omega)]
  · have tb := B.b b (by omega)
    rw [if_neg (show ¬ leb (hs h 83 9 (b : Int) 83 8) (b : Int) = true by rw [te, leb_iff (by omega) (by omega) (by omega) (by omega)]; omega), hs_at, pu_rdN (by omega), pu_bs, (TM_9 (v := (b : Int)) T).b b (by omega), m_isIn (by omega) (by omega) (by omega) (by omega) (by omega) (by omega), pu_bs, if_pos (show b < E by omega)]
    by_cases c : 48 ≤ t b ∧ t b ≤ 57
    · rw [if_pos c, if_neg ne10, pu_c1]
    · rw [if_neg c, if_pos eq00, pu_c0]
theorem m_expects_no {w : Nat} (hf : -1 ≤ h 83 10 ∧ h 83 10 ≤ 400) (hn : h 83 10 ≠ -1) : M_Md_expects N h w = some h := by
  unfold M_Md_expects
  rw [if_neg (by rw [eqb_iff (by omega) (by omega) (by omega) (by omega)]; exact hn)]
theorem m_expects (B : TB t E) (hN : 1000 < N) (T : TM t E h) {w : Nat} (hw : w < 36) (hp : p ≤ E) (e9 : h 83 9 = (p : Int)) (hf : h 83 10 = -1) :
    ∃ h', M_Md_expects N h w = some h' ∧ ((hasW t (sc (bl t) E p) (sc (le' t) E (sc (bl t) E p)) (txS w) ∧ h' = hs h 83 9 ((sc (le' t) E (sc (bl t) E p) : Nat) : Int)) ∨ (¬ hasW t (sc (bl t) E p) (sc (le' t) E (sc (bl t) E p)) (txS w) ∧ h' = hs (hs h 83 9 ((sc (bl t) E p : Nat) : Int)) 83 10 ((sc (bl t) E p : Nat) : Int))) := by
  obtain ⟨r, r1, r2⟩ := m_has B hN T hw hp e9 (by omega)
  unfold M_Md_expects
  rw [if_pos (by rw [hf, eqb_iff (by omega) (by omega) (by omega) (by omega)]), r1, pu_bs]
  rcases r2 with ⟨_, z2, z3⟩ | ⟨z1, z3⟩
  · subst z3
    exact ⟨_, by rw [if_neg ne10], Or.inl ⟨z2, rfl⟩⟩
  · subst z3
    dsimp only
    rw [if_pos eq00, hs_at, m_wrong (by rw [hs_slot (by omega)]; omega), pu_bs, hs_slot (by omega), if_pos hf]
    exact ⟨_, rfl, Or.inr ⟨fun y => z1 ⟨hf, y⟩, rfl⟩⟩
end Li
