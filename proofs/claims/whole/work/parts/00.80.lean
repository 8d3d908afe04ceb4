section Lh
variable {t : Nat → Int} {E p b d q s : Nat} {h : Hp} {N : Nat}
theorem m_sgn {G : Hp} (B : TB t E) (hN : 1000 < N) (T : TM t E G) (hse : s ≤ E) (hb : b ≤ 400) (e : G 83 9 = (s : Int)) (hf : G 83 10 = -1) {lo n0 : Int} (hl : -100000 ≤ lo ∧ lo ≤ 100000) (hn : n0 = 0 ∨ n0 = 1) (ed : sc (dg t) E s = d) :
    ∃ (v : Int) (d' : Nat), (M_Md_figures N G (b : Int)).bind (fun q8 => if eqb n0 0 then if leb lo q8.1 then some (q8.1, q8.2) else (M_Md_wrong q8.2 (b : Int)).bind (fun h10 => some (q8.1, h10)) else if leb lo (-q8.1) then some (-q8.1, q8.2) else (M_Md_wrong q8.2 (b : Int)).bind (fun h12 => some (-q8.1, h12))) = some (v, hs (hs G 83 9 (d' : Int)) 83 10 (sW b s d (if n0 = 0 then dv t s d else -dv t s d) lo (-1))) ∧ s ≤ d' ∧ d' ≤ E ∧ (sW b s d (if n0 = 0 then dv t s d else -dv t s d) lo (-1) = -1 → d' = d ∧ v = (if n0 = 0 then dv t s d else -dv t s d)) ∧ (-999 ≤ v ∧ v ≤ 999) := by
  have he := B.e
  have hd := sc_bd (f := dg t) hse
  rw [ed] at hd
  obtain ⟨v, d', f1, f2, f3, f4, f5, f6⟩ := m_figures (N := N) (h := G) (p := s) (a := (b : Int)) B hN T hse e (by omega) ed
  rw [hf] at f1
  have hF : -1 ≤ fF s d' (b : Int) (-1) ∧ fF s d' (b : Int) (-1) ≤ 400 := by
    unfold fF
    rw [if_pos rfl]
    by_cases c1 : d' = s
    · rw [if_pos c1]; omega
    · rw [if_neg c1]
      by_cases c2 : d' ≤ s + 2
      · rw [if_pos c2]; omega
      · rw [if_neg c2]; omega
  have core : ∀ sv sd : Int, (-999 ≤ sv ∧ sv ≤ 999) → (d ≤ s + 2 → sv = sd) → (if leb lo sv then some (sv, hs (hs G 83 9 (d' : Int)) 83 10 (fF s d' (b : Int) (-1))) else (M_Md_wrong (hs (hs G 83 9 (d' : Int)) 83 10 (fF s d' (b : Int) (-1))) (b : Int)).bind (fun h10 => some (sv, h10))) = some (sv, hs (hs G 83 9 (d' : Int)) 83 10 (sW b s d sd lo (-1))) ∧ (sW b s d sd lo (-1) = -1 → d' = d ∧ sv = sd) := by
    intro sv sd hsv hsd
    have wr : M_Md_wrong (hs (hs G 83 9 (d' : Int)) 83 10 (fF s d' (b : Int) (-1))) (b : Int) = some (hs (hs G 83 9 (d' : Int)) 83 10 (if fF s d' (b : Int) (-1) = -1 then (b : Int) else fF s d' (b : Int) (-1))) := by
      rw [m_wrong (by rw [hs_at]; exact hF), hs_at, hs_hs]
      by_cases c : fF s d' (b : Int) (-1) = -1
      · rw [if_pos c, if_pos c]
      · rw [if_neg c, if_neg c]
    rw [wr, pu_bs]
    by_cases c1 : d ≤ s + 2
    · have k := (f4 c1).1
      have k2 := hsd c1
      subst k2
      by_cases c2 : d = s
      · have w1 : fF s d' (b : Int) (-1) = (s : Int) := by unfold fF; rw [if_pos rfl, if_pos (by omega)]
        have w2 : sW b s d sv lo (-1) = (s : Int) := by unfold sW; rw [if_pos rfl, if_pos c2]
        rw [w1, w2, if_neg (show ¬ ((s : Int) = -1) by omega)]
        refine ⟨?_, fun z => by omega⟩
        split <;> rfl
      · have w1 : fF s d' (b : Int) (-1) = -1 := by unfold fF; rw [if_pos rfl, if_neg (by omega), if_pos (by omega)]
        rw [w1, if_pos rfl]
        by_cases c3 : sv < lo
        · have w2 : sW b s d sv lo (-1) = (b : Int) := by unfold sW; rw [if_pos rfl, if_neg c2, if_pos (Or.inr c3)]
          rw [w2, if_neg (by rw [leb_iff (by omega) (by omega) (by omega) (by omega)]; omega)]
          exact ⟨rfl, fun z => by omega⟩
        · have w2 : sW b s d sv lo (-1) = -1 := by unfold sW; rw [if_pos rfl, if_neg c2, if_neg (by omega)]
          rw [w2, if_pos (by rw [leb_iff (by omega) (by omega) (by omega) (by omega)]; omega)]
          exact ⟨rfl, fun _ => ⟨k, rfl⟩⟩
    · have k := f5 (by omega)
      have w1 : fF s d' (b : Int) (-1) = (b : Int) := by unfold fF; rw [if_pos rfl, if_neg (by omega), if_neg (by omega)]
      have w2 : sW b s d sd lo (-1) = (b : Int) := by unfold sW; rw [if_pos rfl, if_neg (by omega), if_pos (Or.inl (by omega))]
      rw [w1, w2, if_neg (show ¬ ((b : Int) = -1) by omega)]
      refine ⟨?_, fun z => by omega⟩
      split <;> rfl
  rw [f1, pu_bs]
  dsimp only
  rcases hn with z | z
  · subst z
    rw [if_pos eq00, if_pos rfl]
    have r := core v (dv t s d) (by omega) (fun c => (f4 c).2)
    exact ⟨v, d', r.1, f2, by omega, r.2, by omega⟩
  · subst z
    rw [if_neg ne10, if_neg (show ¬ ((1 : Int) = 0) by omega)]
    have r := core (-v) (-dv t s d) (by omega) (fun c => by rw [(f4 c).2])
    exact ⟨-v, d', r.1, f2, by omega, r.2, by omega⟩
theorem m_signed (B : TB t E) (hN : 1000 < N) (T : TM t E h) (hp : p ≤ E) (e : h 83 9 = (p : Int)) (hf : h 83 10 = -1) {lo : Int} (hl : -100000 ≤ lo ∧ lo ≤ 100000)
    (eb : sc (bl t) E p = b) (ed : sc (dg t) E (sgS t E b) = d) :
    ∃ (v : Int) (d' : Nat), M_Md_signed N h lo = some (v, hs (hs h 83 9 (d' : Int)) 83 10 (sW b (sgS t E b) d (sgV t E b (dv t (sgS t E b) d)) lo (-1))) ∧ b ≤ d' ∧ d' ≤ E ∧ (sW b (sgS t E b) d (sgV t E b (dv t (sgS t E b) d)) lo (-1) = -1 → d' = d ∧ v = sgV t E b (dv t (sgS t E b) d)) ∧ (-999 ≤ v ∧ v ≤ 999) := by
  have he := B.e
  have hb := sc_bd (f := bl t) hp
  rw [eb] at hb
  have te := T.e
  unfold M_Md_signed sgV
  rw [hf, if_pos (by rw [eqb_iff (by omega) (by omega) (by omega) (by omega)]), m_here B hN T hp e, pu_bs, eb]
  dsimp only
  rw [pu_lt]
  simp only [hs_slot (show (8 : Nat) ≠ 9 by omega), te, hs_at]
  unfold sgS at *
  by_cases c : tv t E b = 45
  · have hbE : b < E := by
      unfold tv at c
      by_cases z : b < E
      · exact z
      · rw [if_neg z] at c; omega
    have tb : t b = 45 := by unfold tv at c; rw [if_pos hbE] at c; exact c
    rw [if_pos c] at ed
    rw [if_pos c, if_pos c, if_neg (show ¬ leb (E : Int) (b : Int) = true by rw [leb_iff (by omega) (by omega) (by omega) (by omega)]; omega), pu_rdN (by omega), pu_bs, hs_cell (by omega), T.b b hbE, tb, if_pos (show eqb 45 45 = true by rw [eqb_iff (by omega) (by omega) (by omega) (by omega)])]
    rw [pu_lt, if_neg ne10, pu_lt, hs_hs]
    obtain ⟨v, d', r1, r2, r3, r4, r5⟩ := m_sgn (G := hs h 83 9 ((b : Int) + 1)) (b := b) (n0 := 1) (s := b + 1) B hN (TM_9 T) (by omega) (by omega) (by rw [hs_at]; omega) (by rw [hs_slot (by omega)]; exact hf) hl (Or.inr rfl) ed
    rw [if_neg (show ¬ ((1 : Int) = 0) by omega), hs_hs] at r1
    rw [if_neg (show ¬ ((1 : Int) = 0) by omega)] at r4
    exact ⟨v, d', r1, by omega, r3, r4, r5⟩
  · rw [if_neg c] at ed
    rw [if_neg c, if_neg c]
    obtain ⟨v, d', r1, r2, r3, r4, r5⟩ := m_sgn (G := hs h 83 9 (b : Int)) (b := b) (n0 := 0) (s := b) B hN (TM_9 T) hb.2 (by omega) (by rw [hs_at]) (by rw [hs_slot (by omega)]; exact hf) hl (Or.inl rfl) ed
    rw [if_pos rfl, hs_hs] at r1
    rw [if_pos rfl] at r4
    by_cases z : E ≤ b
    · rw [if_pos (show leb (E : Int) (b : Int) = true by rw [leb_iff (by omega) (by omega) (by omega) (by omega)]; omega)]
      rw [pu_lt, if_pos eq00]
      exact ⟨v, d', r1, by omega, r3, r4, r5⟩
    · have tb := B.b b (by omega)
      have tn : t b ≠ 45 := by unfold tv at c; rw [if_pos (by omega)] at c; exact c
      rw [if_neg (show ¬ leb (E : Int) (b : Int) = true by rw [leb_iff (by omega) (by omega) (by omega) (by omega)]; omega), pu_rdN (by omega), pu_bs, hs_cell (by omega), T.b b (by omega), if_neg (show ¬ eqb (t b) 45 = true by rw [eqb_iff (by omega) (by omega) (by omega) (by omega)]; exact tn)]
      rw [pu_lt, if_pos eq00]
      exact ⟨v, d', r1, by omega, r3, r4, r5⟩
end Lh
