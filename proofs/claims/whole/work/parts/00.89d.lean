section Lv
variable {t : Nat → Int} {E : Nat} {hC : Hp} {N : Nat}
theorem FrC.trans {h h' h'' : Hp} (a : FrC h h') (c : FrC h' h'') : FrC h h'' := ⟨fun x hx => by rw [c.1 x hx, a.1 x hx], fun j j1 j2 j3 => by rw [c.2 j j1 j2 j3, a.2 j j1 j2 j3]⟩
theorem FrM.trans {h h' h'' : Hp} (a : FrM h h') (c : FrM h' h'') : FrM h h'' := ⟨fun x hx => by rw [c.1 x hx, a.1 x hx], fun j j1 j2 => by rw [c.2 j j1 j2, a.2 j j1 j2]⟩
theorem numberC (B : TB t E) (hN : 1000 < N) (P : Cs t E hC) {lo hi : Int} (hl : -100000 ≤ lo ∧ lo ≤ 100000) (hh : -100000 ≤ hi ∧ hi ≤ 100000) :
    ∃ v hC', M_Reader_readNumber N hC lo hi = some (v, hC') ∧ Cs t E hC' ∧ FrC hC hC' ∧ (v = lo ∨ (lo ≤ v ∧ v ≤ hi)) ∧ (hC 3 4 ≠ -1 → hC' 3 4 = hC 3 4) := by
  have he := B.e
  have pc := P.pl
  have wc := P.wr
  obtain ⟨p, ep⟩ : ∃ p : Nat, hC 3 2 = (p : Int) := ⟨(hC 3 2).toNat, by omega⟩
  have hb := sc_bd (f := bl t) (show p ≤ E by omega)
  generalize eb : sc (bl t) E p = b at *
  have hd := sc_bd (f := dg t) hb.2
  generalize ed : sc (dg t) E b = d at *
  have k := c_number (N := N) B hN P.tc (show p ≤ E by omega) ep wc hl hh eb ed
  have hW : -1 ≤ nW t b d lo hi (hC 3 4) ∧ nW t b d lo hi (hC 3 4) ≤ 400 := by unfold nW; split <;> omega
  refine ⟨_, _, k, Cs.mk (TC_3 (TC_3 (TC_3 P.tc))) (by rw [hs_slot (by omega), hs_at]; omega) (by rw [hs_at]; exact hW), ⟨fun c hc => by rw [hs_cell hc, hs_cell hc, hs_cell hc], fun j j1 j2 j3 => by rw [hs_slot j3, hs_slot j1, hs_slot j2]⟩, ?_, fun z => by rw [hs_at]; unfold nW; rw [if_neg (fun y => z y.2)]⟩
  by_cases z : nW t b d lo hi (hC 3 4) = -1
  · rw [if_pos z]
    refine Or.inr ?_
    unfold nW at z
    by_cases y : nbad t b d lo hi = true ∧ hC 3 4 = -1
    · rw [if_pos y] at z; omega
    · rw [if_neg y] at z
      have nb : ¬ nbad t b d lo hi = true := fun x => y ⟨x, z⟩
      unfold nbad at nb
      rw [decide_eq_true_iff] at nb
      omega
  · rw [if_neg z]; exact Or.inl rfl
theorem wordC (B : TB t E) (hN : 1000 < N) (P : Cs t E hC) : ∃ hC', M_Reader_readWord N hC = some hC' ∧ Cs t E hC' ∧ FrC hC hC' ∧ hC' 3 4 = hC 3 4 ∧ (0 ≤ hC' 3 3 ∧ hC' 3 3 ≤ hC' 3 2) := by
  have he := B.e
  have pc := P.pl
  have wc := P.wr
  obtain ⟨p, ep⟩ : ∃ p : Nat, hC 3 2 = (p : Int) := ⟨(hC 3 2).toNat, by omega⟩
  have hb := sc_bd (f := bl t) (show p ≤ E by omega)
  have kw := c_word (N := N) B hN P.tc (show p ≤ E by omega) ep
  generalize eb : sc (bl t) E p = b at *
  have hee := sc_bd (f := le' t) hb.2
  generalize ee : sc (le' t) E b = e at *
  have g4 : hs (hs hC 3 3 (b : Int)) 3 2 (e : Int) 3 4 = hC 3 4 := by rw [hs_slot (by omega), hs_slot (by omega)]
  refine ⟨_, kw, Cs.mk (TC_3 (TC_3 P.tc)) (by rw [hs_at]; omega) (by rw [g4]; exact wc), ⟨fun c hc => by rw [hs_cell hc, hs_cell hc], fun j j1 j2 _ => by rw [hs_slot j1, hs_slot j2]⟩, g4, ?_⟩
  rw [hs_at, hs_slot (by omega), hs_at]; omega
theorem isWordC (B : TB t E) (hN : 1000 < N) (P : Cs t E hC) {w : Nat} (hw : w < 36) (hb : 0 ≤ hC 3 3 ∧ hC 3 3 ≤ hC 3 2) : ∃ r : Int, M_Reader_isWord N hC w = some r ∧ (r = 0 ∨ r = 1) := by
  have pc := P.pl
  obtain ⟨r, r1, r2⟩ := c_isWord (N := N) (w := w) (b := (hC 3 3).toNat) (e := (hC 3 2).toNat) B hN P.tc hw (by omega) (by omega) (by omega) (by omega)
  exact ⟨r, r1, by rcases r2 with z | z; exact Or.inr z.1; exact Or.inl z.1⟩
theorem reqC (P : Cs t E hC) {a : Int} (ha : a = 0 ∨ a = 1) (hb : 0 ≤ hC 3 3 ∧ hC 3 3 ≤ 400) : ∃ hC', M_Reader_require hC a = some hC' ∧ Cs t E hC' ∧ FrC hC hC' ∧ hC' 3 2 = hC 3 2 ∧ hC' 3 3 = hC 3 3 ∧ (hC 3 4 ≠ -1 → hC' 3 4 = hC 3 4) := by
  have wc := P.wr
  rw [c_req ha wc]
  by_cases c : a = 0 ∧ hC 3 4 = -1
  · rw [if_pos c]
    exact ⟨_, rfl, Cs.mk (TC_3 P.tc) (by rw [hs_slot (by omega)]; exact P.pl) (by rw [hs_at]; omega), ⟨fun x hx => hs_cell hx, fun j _ _ j3 => hs_slot j3⟩, hs_slot (by omega), hs_slot (by omega), fun z => absurd c.2 z⟩
  · rw [if_neg c]
    exact ⟨hC, rfl, P, ⟨fun _ _ => rfl, fun _ _ _ _ => rfl⟩, rfl, rfl, fun _ => rfl⟩
theorem digitC (B : TB t E) (hN : 1000 < N) (P : Cs t E hC) : ∃ r hC', M_Reader_digitComes N hC = some (r, hC') ∧ (r = 0 ∨ r = 1) ∧ Cs t E hC' ∧ FrC hC hC' ∧ hC' 3 4 = hC 3 4 := by
  have pc := P.pl
  have wc := P.wr
  obtain ⟨p, ep⟩ : ∃ p : Nat, hC 3 2 = (p : Int) := ⟨(hC 3 2).toNat, by omega⟩
  have hb := sc_bd (f := bl t) (show p ≤ E by omega)
  have k := c_digitComes (N := N) B hN P.tc (show p ≤ E by omega) ep rfl
  refine ⟨_, _, k, by split <;> omega, Cs.mk (TC_3 P.tc) (by rw [hs_at]; omega) (by rw [hs_slot (by omega)]; exact wc), ⟨fun x hx => hs_cell hx, fun j j1 _ _ => hs_slot j1⟩, hs_slot (by omega)⟩
end Lv
