def Cs (t : Nat → Int) (E : Nat) (h : Hp) : Prop := (TC t E h) ∧ (0 ≤ h 3 2 ∧ h 3 2 ≤ (E : Int)) ∧ (-1 ≤ h 3 4 ∧ h 3 4 ≤ 400)
theorem Cs.tc {t : Nat → Int} {E : Nat} {h : Hp} (q_ : Cs t E h) : TC t E h := q_.1
theorem Cs.pl {t : Nat → Int} {E : Nat} {h : Hp} (q_ : Cs t E h) : 0 ≤ h 3 2 ∧ h 3 2 ≤ (E : Int) := q_.2.1
theorem Cs.wr {t : Nat → Int} {E : Nat} {h : Hp} (q_ : Cs t E h) : -1 ≤ h 3 4 ∧ h 3 4 ≤ 400 := q_.2.2
theorem Cs.mk {t : Nat → Int} {E : Nat} {h : Hp} (tc_ : TC t E h) (pl_ : 0 ≤ h 3 2 ∧ h 3 2 ≤ (E : Int)) (wr_ : -1 ≤ h 3 4 ∧ h 3 4 ≤ 400) : Cs t E h := ⟨tc_, pl_, wr_⟩
def Ms (t : Nat → Int) (E : Nat) (h : Hp) : Prop := (TM t E h) ∧ (0 ≤ h 83 9 ∧ h 83 9 ≤ (E : Int)) ∧ (-1 ≤ h 83 10 ∧ h 83 10 ≤ 400)
theorem Ms.tm {t : Nat → Int} {E : Nat} {h : Hp} (q_ : Ms t E h) : TM t E h := q_.1
theorem Ms.pl {t : Nat → Int} {E : Nat} {h : Hp} (q_ : Ms t E h) : 0 ≤ h 83 9 ∧ h 83 9 ≤ (E : Int) := q_.2.1
theorem Ms.wr {t : Nat → Int} {E : Nat} {h : Hp} (q_ : Ms t E h) : -1 ≤ h 83 10 ∧ h 83 10 ≤ 400 := q_.2.2
theorem Ms.mk {t : Nat → Int} {E : Nat} {h : Hp} (tm_ : TM t E h) (pl_ : 0 ≤ h 83 9 ∧ h 83 9 ≤ (E : Int)) (wr_ : -1 ≤ h 83 10 ∧ h 83 10 ≤ 400) : Ms t E h := ⟨tm_, pl_, wr_⟩
def Ps (t : Nat → Int) (E : Nat) (hC hM : Hp) : Prop := (Cs t E hC) ∧ (Ms t E hM) ∧ (hC 3 4 = hM 83 10) ∧ (hC 3 4 = -1 → sc (bl t) E (hC 3 2).toNat = sc (bl t) E (hM 83 9).toNat)
theorem Ps.c {t : Nat → Int} {E : Nat} {hC hM : Hp} (q_ : Ps t E hC hM) : Cs t E hC := q_.1
theorem Ps.m {t : Nat → Int} {E : Nat} {hC hM : Hp} (q_ : Ps t E hC hM) : Ms t E hM := q_.2.1
theorem Ps.w {t : Nat → Int} {E : Nat} {hC hM : Hp} (q_ : Ps t E hC hM) : hC 3 4 = hM 83 10 := q_.2.2.1
theorem Ps.s {t : Nat → Int} {E : Nat} {hC hM : Hp} (q_ : Ps t E hC hM) : hC 3 4 = -1 → sc (bl t) E (hC 3 2).toNat = sc (bl t) E (hM 83 9).toNat := q_.2.2.2
theorem Ps.mk {t : Nat → Int} {E : Nat} {hC hM : Hp} (c_ : Cs t E hC) (m_ : Ms t E hM) (w_ : hC 3 4 = hM 83 10) (s_ : hC 3 4 = -1 → sc (bl t) E (hC 3 2).toNat = sc (bl t) E (hM 83 9).toNat) : Ps t E hC hM := ⟨c_, m_, w_, s_⟩
def FrC (h h' : Hp) : Prop := (∀ c, c ≠ 3 → h' c = h c) ∧ (∀ j, j ≠ 2 → j ≠ 3 → j ≠ 4 → h' 3 j = h 3 j)
def FrM (h h' : Hp) : Prop := (∀ c, c ≠ 83 → h' c = h c) ∧ (∀ j, j ≠ 9 → j ≠ 10 → h' 83 j = h 83 j)
section Ls
variable {t : Nat → Int} {E : Nat} {hC hM : Hp} {N : Nat}
theorem number2 (B : TB t E) (hN : 1000 < N) (P : Ps t E hC hM) {lo hi : Int} (hl : -100000 ≤ lo ∧ lo ≤ 100000) (hh : -100000 ≤ hi ∧ hi ≤ 100000) :
    ∃ v vM hC' hM', M_Reader_readNumber N hC lo hi = some (v, hC') ∧ M_Md_number N hM lo hi = some (vM, hM') ∧ Ps t E hC' hM' ∧ FrC hC hC' ∧ FrM hM hM' ∧ (hC' 3 4 = -1 → v = vM ∧ lo ≤ v ∧ v ≤ hi ∧ hC 3 4 = -1) ∧ (v = lo ∨ (lo ≤ v ∧ v ≤ hi)) ∧ (hC 3 4 ≠ -1 → hC' 3 4 = hC 3 4 ∧ v = lo) ∧ (0 ≤ vM ∧ vM ≤ 999) := by
  have he := B.e
  have pc := P.c.pl
  have pm := P.m.pl
  have wc := P.c.wr
  obtain ⟨p, ep⟩ : ∃ p : Nat, hC 3 2 = (p : Int) := ⟨(hC 3 2).toNat, by omega⟩
  obtain ⟨q, eq⟩ : ∃ q : Nat, hM 83 9 = (q : Int) := ⟨(hM 83 9).toNat, by omega⟩
  have hb := sc_bd (f := bl t) (show p ≤ E by omega)
  generalize eb : sc (bl t) E p = b at *
  have hd := sc_bd (f := dg t) hb.2
  have hin := sc_in (f := dg t) hb.2
  generalize ed : sc (dg t) E b = d at *
  have k := c_number (N := N) B hN P.c.tc (show p ≤ E by omega) ep wc hl hh eb ed
  have hW : -1 ≤ nW t b d lo hi (hC 3 4) ∧ nW t b d lo hi (hC 3 4) ≤ 400 := by unfold nW; split <;> omega
  have c4 : hs (hs (hs hC 3 3 (b : Int)) 3 2 (d : Int)) 3 4 (nW t b d lo hi (hC 3 4)) 3 4 = nW t b d lo hi (hC 3 4) := hs_at
  have c2 : hs (hs (hs hC 3 3 (b : Int)) 3 2 (d : Int)) 3 4 (nW t b d lo hi (hC 3 4)) 3 2 = (d : Int) := by rw [hs_slot (by omega), hs_at]
  have cT : Cs t E (hs (hs (hs hC 3 3 (b : Int)) 3 2 (d : Int)) 3 4 (nW t b d lo hi (hC 3 4))) := Cs.mk (TC_3 (TC_3 (TC_3 P.c.tc))) (by rw [c2]; omega) (by rw [c4]; exact hW)
  have fC : FrC hC (hs (hs (hs hC 3 3 (b : Int)) 3 2 (d : Int)) 3 4 (nW t b d lo hi (hC 3 4))) := ⟨fun c hc => by rw [hs_cell hc, hs_cell hc, hs_cell hc], fun j j1 j2 j3 => by rw [hs_slot j3, hs_slot j1, hs_slot j2]⟩
  by_cases c : hC 3 4 = -1
  · have f10 : hM 83 10 = -1 := by rw [← P.w]; exact c
    have st := P.s c
    rw [ep, eq, Int.toNat_natCast, Int.toNat_natCast, eb] at st
    obtain ⟨v, d', m1, m2, m3, m4, m5⟩ := m_number (N := N) B hN P.m.tm (show q ≤ E by omega) eq f10 hl hh st.symm ed
    have g10 : hs (hs hM 83 9 (d' : Int)) 83 10 (nW t b d lo hi (-1)) 83 10 = nW t b d lo hi (-1) := hs_at
    have g9 : hs (hs hM 83 9 (d' : Int)) 83 10 (nW t b d lo hi (-1)) 83 9 = (d' : Int) := by rw [hs_slot (by omega), hs_at]
    rw [c] at k hW c4 c2 cT fC
    have good : nW t b d lo hi (-1) = -1 → nbad t b d lo hi = false ∧ lo ≤ dv t b d ∧ dv t b d ≤ hi := fun z => by
      have nb : nbad t b d lo hi = false := by
        cases hx : nbad t b d lo hi with
        | false => rfl
        | true =>
          unfold nW at z
          rw [if_pos ⟨hx, rfl⟩] at z
          omega
      have y := of_decide_eq_false nb
      exact ⟨nb, by omega, by omega⟩
    refine ⟨_, v, _, _, k, m1, Ps.mk cT (Ms.mk (TM_fr P.m.tm (by rw [hs_slot (by omega), hs_slot (by omega)]) (by rw [hs_cell (by omega), hs_cell (by omega)])) (by rw [g9]; omega) (by rw [g10]; exact hW)) (by rw [c4, g10]) ?_, fC, ⟨fun x hx => by rw [hs_cell hx, hs_cell hx], fun j j1 j2 => by rw [hs_slot j2, hs_slot j1]⟩, ?_, ?_, fun z => absurd c z, m5⟩
    · rw [c4, c2, g9]
      intro z
      rw [(m4 (good z).1).1]
    · rw [c4]
      intro z
      rw [if_pos z]
      exact ⟨(m4 (good z).1).2.symm, (good z).2.1, (good z).2.2, c⟩
    · by_cases z : nW t b d lo hi (-1) = -1
      · rw [if_pos z]; exact Or.inr (good z).2
      · rw [if_neg z]; exact Or.inl rfl
  · have f10 : hM 83 10 ≠ -1 := by rw [← P.w]; exact c
    have wm := P.m.wr
    have eW : nW t b d lo hi (hC 3 4) = hC 3 4 := by unfold nW; rw [if_neg (fun z => c z.2)]
    have km : M_Md_number N hM lo hi = some (0, hM) := by
      unfold M_Md_number
      rw [if_neg (by rw [eqb_iff (by omega) (by omega) (by omega) (by omega)]; exact f10)]
    rw [eW] at k cT fC c4
    rw [if_neg c] at k
    refine ⟨lo, 0, _, hM, k, km, Ps.mk cT P.m (by rw [c4]; exact P.w) (fun z => absurd (c4.symm.trans z) c), fC, ⟨fun _ _ => rfl, fun _ _ _ => rfl⟩, fun z => absurd (c4.symm.trans z) c, Or.inl rfl, fun _ => ⟨c4, rfl⟩, by omega⟩
end Ls
