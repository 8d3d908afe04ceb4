def lW (t : Nat → Int) (E b : Nat) (w : Int) : Int := if w = -1 ∧ b < E ∧ t b ≠ 59 then (b : Int) else w
section Lk
variable {t : Nat → Int} {E p b d q s : Nat} {h : Hp} {N : Nat}
theorem c_lineComes (B : TB t E) (hN : 1000 < N) (T : TC t E h) (hp : p ≤ E) (e : h 3 2 = (p : Int)) (hw : -1 ≤ h 3 4 ∧ h 3 4 ≤ 400) (eb : sc (bl t) E p = b) :
    M_Reader_lineComes N h = some (if lW t E b (h 3 4) = -1 ∧ b < E then 1 else 0, hs (hs (hs h 3 2 (b : Int)) 3 3 (b : Int)) 3 4 (lW t E b (h 3 4))) := by
  have he := B.e
  have te := T.e
  have hb := sc_bd (f := bl t) hp
  rw [eb] at hb
  unfold M_Reader_lineComes
  rw [c_skip B hN T hp e, pu_bs, pu_lt, eb, hs_at, pu_lt]
  have T3 : TC t E (hs (hs h 3 2 (b : Int)) 3 3 (b : Int)) := TC_3 (TC_3 T)
  have g2 : hs (hs h 3 2 (b : Int)) 3 3 (b : Int) 3 2 = (b : Int) := by rw [hs_slot (by omega), hs_at]
  have g3 : hs (hs h 3 2 (b : Int)) 3 3 (b : Int) 3 3 = (b : Int) := hs_at
  have g4 : hs (hs h 3 2 (b : Int)) 3 3 (b : Int) 3 4 = h 3 4 := by rw [hs_slot (by omega), hs_slot (by omega)]
  generalize hs (hs h 3 2 (b : Int)) 3 3 (b : Int) = G at *
  have t1 := T3.e
  have fin : ∀ W : Int, (-1 ≤ W ∧ W ≤ 400) → (if eqb (hs G 3 4 W 3 4) (-1) then if leb (hs G 3 4 W 1 1) (hs G 3 4 W 3 2) then ckB 0 (some ((0 : Int), hs G 3 4 W)) else ckB 1 (some (1, hs G 3 4 W)) else ckB 0 (some (0, hs G 3 4 W))) = some (if W = -1 ∧ b < E then 1 else 0, hs G 3 4 W) := fun W hW => by
    have q1 : hs G 3 4 W 1 1 = (E : Int) := by rw [hs_cell (by omega)]; exact t1
    have q2 : hs G 3 4 W 3 2 = (b : Int) := by rw [hs_slot (by omega)]; exact g2
    have q4 : hs G 3 4 W 3 4 = W := hs_at
    rw [q1, q2, q4]
    by_cases c : W = -1
    · rw [if_pos (by rw [eqb_iff (by omega) (by omega) (by omega) (by omega)]; exact c)]
      by_cases c2 : b < E
      · rw [if_neg (by rw [leb_iff (by omega) (by omega) (by omega) (by omega)]; omega), pu_c1, if_pos ⟨c, c2⟩]
      · rw [if_pos (by rw [leb_iff (by omega) (by omega) (by omega) (by omega)]; omega), pu_c0, if_neg (fun z => c2 z.2)]
    · rw [if_neg (by rw [eqb_iff (by omega) (by omega) (by omega) (by omega)]; exact c), pu_c0, if_neg (fun z => c z.1)]
  have j6 : ∀ s0 : Int, (s0 = 0 ∨ s0 = 1) → (s0 = 0 ↔ b < E ∧ t b ≠ 59) → (M_Reader_require G s0).bind (fun h8 => if eqb (h8 3 4) (-1) then if leb (h8 1 1) (h8 3 2) then ckB 0 (some ((0 : Int), h8)) else ckB 1 (some (1, h8)) else ckB 0 (some (0, h8))) = some (if lW t E b (h 3 4) = -1 ∧ b < E then 1 else 0, hs G 3 4 (lW t E b (h 3 4))) := fun s0 h0 h1 => by
    have eG : (if s0 = 0 ∧ G 3 4 = -1 then hs G 3 4 (G 3 3) else G) = hs G 3 4 (lW t E b (h 3 4)) := by
      unfold lW
      rw [g3, g4]
      by_cases c : s0 = 0 ∧ h 3 4 = -1
      · rw [if_pos c, if_pos ⟨c.2, h1.mp c.1⟩]
      · rw [if_neg c, if_neg (fun z => c ⟨h1.mpr z.2, z.1⟩), hs_self g4]
    have hL : -1 ≤ lW t E b (h 3 4) ∧ lW t E b (h 3 4) ≤ 400 := by unfold lW; split <;> omega
    rw [c_req h0 (by rw [g4]; exact hw), pu_bs, eG]
    exact fin _ hL
  by_cases c : E ≤ b
  · rw [if_pos (show leb (G 1 1) (G 3 2) = true by rw [t1, g2, leb_iff (by omega) (by omega) (by omega) (by omega)]; omega)]
    exact j6 1 (Or.inr rfl) ⟨fun z => by omega, fun z => by omega⟩
  · have tb := B.b b (by omega)
    rw [if_neg (show ¬ leb (G 1 1) (G 3 2) = true by rw [t1, g2, leb_iff (by omega) (by omega) (by omega) (by omega)]; omega), g2, c_at B T3 hb.2, pu_bs]
    unfold tv
    rw [if_pos (show b < E by omega)]
    by_cases c2 : t b = 59
    · rw [if_pos (show eqb (t b) 59 = true by rw [eqb_iff (by omega) (by omega) (by omega) (by omega)]; exact c2)]
      exact j6 1 (Or.inr rfl) ⟨fun z => by omega, fun z => absurd c2 z.2⟩
    · rw [if_neg (show ¬ eqb (t b) 59 = true by rw [eqb_iff (by omega) (by omega) (by omega) (by omega)]; exact c2)]
      exact j6 0 (Or.inl rfl) ⟨fun _ => ⟨by omega, c2⟩, fun _ => rfl⟩
end Lk
