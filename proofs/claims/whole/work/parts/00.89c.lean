section Lu
variable {t : Nat → Int} {E : Nat} {hC hM : Hp} {N : Nat}
theorem expects2 (B : TB t E) (hN : 1000 < N) (P : Ps t E hC hM) {k k' : Nat} (hk : k < 36) (hk' : k' < 36) (ek : txS k = txS k') {α : Type} (K : Hp → Option α) :
    ∃ hC' hM', ((M_Reader_readWord N hC).bind (fun h2 => (M_Reader_isWord N h2 k).bind (fun x4 => (M_Reader_require h2 x4).bind (fun h6 => K h6)))) = K hC' ∧ M_Md_expects N hM k' = some hM' ∧ Ps t E hC' hM' ∧ FrC hC hC' ∧ FrM hM hM' ∧ (hC' 3 4 = -1 → hC 3 4 = -1) := by
  have he := B.e
  have pc := P.c.pl
  have pm := P.m.pl
  have wc := P.c.wr
  obtain ⟨p, ep⟩ : ∃ p : Nat, hC 3 2 = (p : Int) := ⟨(hC 3 2).toNat, by omega⟩
  obtain ⟨q, eq⟩ : ∃ q : Nat, hM 83 9 = (q : Int) := ⟨(hM 83 9).toNat, by omega⟩
  have hb := sc_bd (f := bl t) (show p ≤ E by omega)
  have kw := c_word (N := N) B hN P.c.tc (show p ≤ E by omega) ep
  generalize eb : sc (bl t) E p = b at *
  have hee := sc_bd (f := le' t) hb.2
  generalize ee : sc (le' t) E b = e at *
  have T2 : TC t E (hs (hs hC 3 3 (b : Int)) 3 2 (e : Int)) := TC_3 (TC_3 P.c.tc)
  have g3 : hs (hs hC 3 3 (b : Int)) 3 2 (e : Int) 3 3 = (b : Int) := by rw [hs_slot (by omega), hs_at]
  have g2 : hs (hs hC 3 3 (b : Int)) 3 2 (e : Int) 3 2 = (e : Int) := hs_at
  have g4 : hs (hs hC 3 3 (b : Int)) 3 2 (e : Int) 3 4 = hC 3 4 := by rw [hs_slot (by omega), hs_slot (by omega)]
  have fG : FrC hC (hs (hs hC 3 3 (b : Int)) 3 2 (e : Int)) := ⟨fun c hc => by rw [hs_cell hc, hs_cell hc], fun j j1 j2 _ => by rw [hs_slot j1, hs_slot j2]⟩
  obtain ⟨r, r1, r2⟩ := c_isWord (N := N) (w := k) B hN T2 hk g3 g2 hee.1 hee.2
  rw [kw, pu_bs, r1, pu_bs]
  generalize hs (hs hC 3 3 (b : Int)) 3 2 (e : Int) = G at *
  have cG : Cs t E G := Cs.mk T2 (by rw [g2]; omega) (by rw [g4]; exact wc)
  have rr : r = 0 ∨ r = 1 := by rcases r2 with z | z; exact Or.inr z.1; exact Or.inl z.1
  rw [c_req rr (by rw [g4]; exact wc), pu_bs, g4, g3]
  have fF' : FrC hC (hs G 3 4 (b : Int)) := ⟨fun c hc => by rw [hs_cell hc]; exact fG.1 c hc, fun j j1 j2 j3 => by rw [hs_slot j3]; exact fG.2 j j1 j2 j3⟩
  have cF : Cs t E (hs G 3 4 (b : Int)) := Cs.mk (TC_3 T2) (by rw [hs_slot (by omega), g2]; omega) (by rw [hs_at]; omega)
  by_cases c : hC 3 4 = -1
  · have f10 : hM 83 10 = -1 := by rw [← P.w]; exact c
    have st := P.s c
    rw [ep, eq, Int.toNat_natCast, Int.toNat_natCast, eb] at st
    obtain ⟨h', m1, m2⟩ := m_expects (N := N) (w := k') B hN P.m.tm hk' (show q ≤ E by omega) eq f10
    rw [← st, ee, ← ek] at m2
    rcases r2 with ⟨z1, z2⟩ | ⟨z1, z2⟩
    · rcases m2 with ⟨y1, y2⟩ | ⟨y1, y2⟩
      · rw [if_neg (fun w => by omega)]
        have q9 : hs hM 83 9 (e : Int) 83 9 = (e : Int) := hs_at
        have q10 : hs hM 83 9 (e : Int) 83 10 = -1 := by rw [hs_slot (by omega)]; exact f10
        refine ⟨G, h', rfl, m1, ?_, fG, ?_, fun _ => c⟩
        · rw [y2]
          exact Ps.mk cG (Ms.mk (TM_9 P.m.tm) (by rw [q9]; omega) (by rw [q10]; omega)) (by rw [g4, q10]; exact c) (fun _ => by rw [g2, q9])
        · rw [y2]; exact ⟨fun x hx => hs_cell hx, fun j j1 _ => hs_slot j1⟩
      · exact absurd z2 y1
    · rcases m2 with ⟨y1, y2⟩ | ⟨y1, y2⟩
      · exact absurd y1 z2
      · rw [if_pos ⟨z1, c⟩]
        have q9 : hs (hs hM 83 9 (b : Int)) 83 10 (b : Int) 83 9 = (b : Int) := by rw [hs_slot (by omega), hs_at]
        have q10 : hs (hs hM 83 9 (b : Int)) 83 10 (b : Int) 83 10 = (b : Int) := hs_at
        have w4 : hs G 3 4 (b : Int) 3 4 = (b : Int) := hs_at
        refine ⟨hs G 3 4 (b : Int), h', rfl, m1, ?_, fF', ?_, fun _ => c⟩
        · rw [y2]
          exact Ps.mk cF (Ms.mk (TM_fr P.m.tm (by rw [hs_slot (by omega), hs_slot (by omega)]) (by rw [hs_cell (by omega), hs_cell (by omega)])) (by rw [q9]; omega) (by rw [q10]; omega)) (by rw [w4, q10]) (fun z => by rw [w4] at z; omega)
        · rw [y2]; exact ⟨fun x hx => by rw [hs_cell hx, hs_cell hx], fun j j1 j2 => by rw [hs_slot j2, hs_slot j1]⟩
  · have f10 : hM 83 10 ≠ -1 := by rw [← P.w]; exact c
    rw [if_neg (fun z => c z.2)]
    exact ⟨G, hM, rfl, m_expects_no P.m.wr f10, Ps.mk cG P.m (by rw [g4]; exact P.w) (fun z => by rw [g4] at z; exact absurd z c), fG, ⟨fun _ _ => rfl, fun _ _ _ => rfl⟩, fun z => by rw [g4] at z; exact absurd z c⟩
end Lu
