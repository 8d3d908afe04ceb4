section Ll
variable {t : Nat → Int} {E p b d q s e : Nat} {h : Hp} {N : Nat}
theorem hs32 {v2 v3 w2 w3 : Int} : hs (hs (hs (hs h 3 3 v3) 3 2 v2) 3 3 w3) 3 2 w2 = hs (hs h 3 3 w3) 3 2 w2 := by
  rw [hs_comm (h := hs h 3 3 v3) (c := 3) (k := 2) (c' := 3) (k' := 3) (Or.inr (by omega)), hs_hs, hs_hs]
theorem c_option (B : TB t E) (hN : 1000 < N) (T : TC t E h) (hp : p ≤ E) (e2 : h 3 2 = (p : Int)) (hw : -1 ≤ h 3 4 ∧ h 3 4 ≤ 400) {w : Nat} (hw6 : w < 36) (eb : sc (bl t) E p = b) (ee : sc (le' t) E b = e) (eq : sc (bl t) E e = q) (ed : sc (dg t) E q = d) :
    (¬ hasW t b e (txS w) ∧ M_Reader_readOption N h w = some (0, hs (hs h 3 3 (b : Int)) 3 2 (p : Int))) ∨ (hasW t b e (txS w) ∧ M_Reader_readOption N h w = some (if nW t q d 1 9 (h 3 4) = -1 then dv t q d else 1, hs (hs (hs h 3 3 (q : Int)) 3 2 (d : Int)) 3 4 (nW t q d 1 9 (h 3 4)))) := by
  have he := B.e
  have hb := sc_bd (f := bl t) hp
  rw [eb] at hb
  have hee := sc_bd (f := le' t) hb.2
  rw [ee] at hee
  have k := c_word (N := N) B hN T hp e2
  rw [eb, ee] at k
  have T2 : TC t E (hs (hs h 3 3 (b : Int)) 3 2 (e : Int)) := TC_3 (TC_3 T)
  obtain ⟨r, r1, r2⟩ := c_isWord (N := N) (w := w) B hN T2 hw6 (by rw [hs_slot (by omega), hs_at]) hs_at hee.1 hee.2
  unfold M_Reader_readOption
  rw [k, pu_bs, r1, pu_bs]
  rcases r2 with ⟨z1, z2⟩ | ⟨z1, z2⟩
  · subst z1
    refine Or.inr ⟨z2, ?_⟩
    have n := c_number (N := N) (lo := 1) (hi := 9) B hN T2 hee.2 hs_at (by rw [hs_slot (by omega), hs_slot (by omega)]; exact hw) (by omega) (by omega) eq ed
    have g4 : hs (hs h 3 3 (b : Int)) 3 2 (e : Int) 3 4 = h 3 4 := by rw [hs_slot (by omega), hs_slot (by omega)]
    rw [g4, hs32] at n
    rw [if_neg ne10, n, pu_bs]
  · subst z1
    refine Or.inl ⟨z2, ?_⟩
    rw [if_pos eq00, pu_lt, hs_hs, e2]
end Ll
