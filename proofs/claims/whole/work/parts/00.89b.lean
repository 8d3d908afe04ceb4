section Lt
variable {t : Nat → Int} {E : Nat} {hC hM : Hp} {N : Nat}
theorem signed2 (B : TB t E) (hN : 1000 < N) (P : Ps t E hC hM) {lo : Int} (hl : -99 ≤ lo ∧ lo ≤ 99) :
    ∃ v vM hC' hM', M_Reader_readSigned N hC lo = some (v, hC') ∧ M_Md_signed N hM lo = some (vM, hM') ∧ Ps t E hC' hM' ∧ FrC hC hC' ∧ FrM hM hM' ∧ (hC' 3 4 = -1 → v = vM ∧ hC 3 4 = -1) ∧ (lo ≤ v ∧ v ≤ 99) ∧ (hC 3 4 ≠ -1 → hC' 3 4 = hC 3 4) ∧ (-999 ≤ vM ∧ vM ≤ 999) := by
  have he := B.e
  have pc := P.c.pl
  have pm := P.m.pl
  have wc := P.c.wr
  obtain ⟨p, ep⟩ : ∃ p : Nat, hC 3 2 = (p : Int) := ⟨(hC 3 2).toNat, by omega⟩
  obtain ⟨q, eq⟩ : ∃ q : Nat, hM 83 9 = (q : Int) := ⟨(hM 83 9).toNat, by omega⟩
  have hb := sc_bd (f := bl t) (show p ≤ E by omega)
  generalize eb : sc (bl t) E p = b at *
  have hsE : sgS t E b ≤ E ∧ b ≤ sgS t E b := by
    unfold sgS
    by_cases c : tv t E b = 45
    · rw [if_pos c]
      unfold tv at c
      by_cases z : b < E
      · omega
      · rw [if_neg z] at c; omega
    · rw [if_neg c]; omega
  have hd := sc_bd (f := dg t) hsE.1
  have hin := sc_in (f := dg t) hsE.1
  generalize ed : sc (dg t) E (sgS t E b) = d at *
  have vb := dv_bd hd.1 hin
  have svb : -99 ≤ sgV t E b (dv t (sgS t E b) d) ∧ sgV t E b (dv t (sgS t E b) d) ≤ 99 := by unfold sgV; split <;> omega
  have k := c_signed (N := N) (lo := lo) B hN P.c.tc (show p ≤ E by omega) ep wc (by omega) eb ed
  have hsw : ∀ w : Int, (-1 ≤ w ∧ w ≤ 400) → -1 ≤ sW b (sgS t E b) d (sgV t E b (dv t (sgS t E b) d)) lo w ∧ sW b (sgS t E b) d (sgV t E b (dv t (sgS t E b) d)) lo w ≤ 400 := fun w hw => by
    unfold sW
    split
    · split
      · omega
      · split <;> omega
    · exact hw
  have good : ∀ w : Int, sW b (sgS t E b) d (sgV t E b (dv t (sgS t E b) d)) lo w = -1 → w = -1 ∧ lo ≤ sgV t E b (dv t (sgS t E b) d) := fun w z => by
    unfold sW at z
    by_cases c : w = -1
    · rw [if_pos c] at z
      by_cases c2 : d = sgS t E b
      · rw [if_pos c2] at z; omega
      · rw [if_neg c2] at z
        by_cases c3 : sgS t E b + 2 < d ∨ sgV t E b (dv t (sgS t E b) d) < lo
        · rw [if_pos c3] at z; omega
        · exact ⟨c, by omega⟩
    · rw [if_neg c] at z; exact absurd z c
  have hm2 : ∀ d' : Nat, ∀ v : Int, M_Md_signed N hM lo = some (v, hs (hs hM 83 9 (d' : Int)) 83 10 (sW b (sgS t E b) d (sgV t E b (dv t (sgS t E b) d)) lo (-1))) → True := fun _ _ _ => trivial
  generalize hsv : sgV t E b (dv t (sgS t E b) d) = sv at *
  have hW := hsw (hC 3 4) wc
  have gW := good (hC 3 4)
  have c4 : hs (hs (hs hC 3 3 (b : Int)) 3 2 (d : Int)) 3 4 (sW b (sgS t E b) d sv lo (hC 3 4)) 3 4 = sW b (sgS t E b) d sv lo (hC 3 4) := hs_at
  have c2 : hs (hs (hs hC 3 3 (b : Int)) 3 2 (d : Int)) 3 4 (sW b (sgS t E b) d sv lo (hC 3 4)) 3 2 = (d : Int) := by rw [hs_slot (by omega), hs_at]
  have cT : Cs t E (hs (hs (hs hC 3 3 (b : Int)) 3 2 (d : Int)) 3 4 (sW b (sgS t E b) d sv lo (hC 3 4))) := Cs.mk (TC_3 (TC_3 (TC_3 P.c.tc))) (by rw [c2]; omega) (by rw [c4]; exact hW)
  have fC : FrC hC (hs (hs (hs hC 3 3 (b : Int)) 3 2 (d : Int)) 3 4 (sW b (sgS t E b) d sv lo (hC 3 4))) := ⟨fun c hc => by rw [hs_cell hc, hs_cell hc, hs_cell hc], fun j j1 j2 j3 => by rw [hs_slot j3, hs_slot j1, hs_slot j2]⟩
  have vv : lo ≤ (if sW b (sgS t E b) d sv lo (hC 3 4) = -1 then sv else lo) ∧ (if sW b (sgS t E b) d sv lo (hC 3 4) = -1 then sv else lo) ≤ 99 := by
    by_cases z : sW b (sgS t E b) d sv lo (hC 3 4) = -1
    · rw [if_pos z]; exact ⟨(gW z).2, svb.2⟩
    · rw [if_neg z]; omega
  by_cases c : hC 3 4 = -1
  · have f10 : hM 83 10 = -1 := by rw [← P.w]; exact c
    have st := P.s c
    rw [ep, eq, Int.toNat_natCast, Int.toNat_natCast, eb] at st
    obtain ⟨v, d', m1, m2, m3, m4, m5⟩ := m_signed (N := N) (lo := lo) B hN P.m.tm (show q ≤ E by omega) eq f10 (by omega) st.symm ed
    rw [hsv] at m1 m4
    have g10 : hs (hs hM 83 9 (d' : Int)) 83 10 (sW b (sgS t E b) d sv lo (-1)) 83 10 = sW b (sgS t E b) d sv lo (-1) := hs_at
    have g9 : hs (hs hM 83 9 (d' : Int)) 83 10 (sW b (sgS t E b) d sv lo (-1)) 83 9 = (d' : Int) := by rw [hs_slot (by omega), hs_at]
    rw [c] at k hW c4 c2 cT fC vv
    refine ⟨_, v, _, _, k, m1, Ps.mk cT (Ms.mk (TM_fr P.m.tm (by rw [hs_slot (by omega), hs_slot (by omega)]) (by rw [hs_cell (by omega), hs_cell (by omega)])) (by rw [g9]; omega) (by rw [g10]; exact hW)) (by rw [c4, g10]) ?_, fC, ⟨fun x hx => by rw [hs_cell hx, hs_cell hx], fun j j1 j2 => by rw [hs_slot j2, hs_slot j1]⟩, ?_, vv, fun z => absurd c z, m5⟩
    · rw [c4, c2, g9]
      intro z
      rw [(m4 z).1]
    · rw [c4]
      intro z
      rw [if_pos z]
      exact ⟨(m4 z).2.symm, c⟩
  · have f10 : hM 83 10 ≠ -1 := by rw [← P.w]; exact c
    have wm := P.m.wr
    have eW : sW b (sgS t E b) d sv lo (hC 3 4) = hC 3 4 := by unfold sW; rw [if_neg c]
    have km : M_Md_signed N hM lo = some (0, hM) := by
      unfold M_Md_signed
      rw [if_neg (by rw [eqb_iff (by omega) (by omega) (by omega) (by omega)]; exact f10)]
    rw [eW] at k cT fC c4
    rw [if_neg c] at k
    exact ⟨lo, 0, _, hM, k, km, Ps.mk cT P.m (by rw [c4]; exact P.w) (fun z => absurd (c4.symm.trans z) c), fC, ⟨fun _ _ => rfl, fun _ _ _ => rfl⟩, fun z => absurd (c4.symm.trans z) c, by omega, fun _ => c4, by omega⟩
end Lt
