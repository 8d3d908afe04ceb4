def sgS (t : Nat → Int) (E b : Nat) : Nat := if tv t E b = 45 then b + 1 else b
def sgV (t : Nat → Int) (E b : Nat) (v : Int) : Int := if tv t E b = 45 then -v else v
def sW (b s d : Nat) (sv lo w : Int) : Int := if w = -1 then (if d = s then (s : Int) else if s + 2 < d ∨ sv < lo then (b : Int) else -1) else w
section Lg
variable {t : Nat → Int} {E p b d q s : Nat} {h : Hp} {N : Nat}
def cW (b s d : Nat) (sv lo w : Int) : Int := if ((d = s ∨ s + 2 < d) ∨ sv < lo) ∧ w = -1 then (b : Int) else w
theorem cW_eq {sv lo w a : Int} (ha : a = if sv < lo then 0 else 1) : (if a = 0 ∧ (if (d = s ∨ s + 2 < d) ∧ w = -1 then (b : Int) else w) = -1 then (b : Int) else (if (d = s ∨ s + 2 < d) ∧ w = -1 then (b : Int) else w)) = cW b s d sv lo w := by
  unfold cW
  rw [ha]
  by_cases c1 : (d = s ∨ s + 2 < d)
  · by_cases c2 : w = -1
    · rw [if_pos (show (d = s ∨ s + 2 < d) ∧ w = -1 from ⟨c1, c2⟩), if_neg (fun z => by omega), if_pos ⟨Or.inl c1, c2⟩]
    · rw [if_neg (show ¬ ((d = s ∨ s + 2 < d) ∧ w = -1) from fun z => c2 z.2), if_neg (fun z => c2 z.2), if_neg (fun z => c2 z.2)]
  · rw [if_neg (show ¬ ((d = s ∨ s + 2 < d) ∧ w = -1) from fun z => c1 z.1)]
    by_cases c3 : sv < lo
    · rw [if_pos c3]
      by_cases c2 : w = -1
      · rw [if_pos ⟨rfl, c2⟩, if_pos ⟨Or.inr c3, c2⟩]
      · rw [if_neg (fun z => c2 z.2), if_neg (fun z => c2 z.2)]
    · rw [if_neg c3, if_neg (fun z => by omega), if_neg (fun z => ?_)]
      rcases z.1 with y | y
      · exact c1 y
      · exact c3 y
theorem c_sgn {G : Hp} (B : TB t E) (hN : 1000 < N) (T : TC t E G) (hse : s ≤ E) (hb : b ≤ 400) (e : G 3 2 = (s : Int)) (hw : -1 ≤ G 3 4 ∧ G 3 4 ≤ 400) {lo n0 : Int} (hl : -100000 ≤ lo ∧ lo ≤ 100000) (hn : n0 = 0 ∨ n0 = 1) (ed : sc (dg t) E s = d) :
    (lt' (hs G 3 3 (b : Int)) (fun h15 => lt' (fun (s0_20 : Int) (h_20 : Hp) => if ltb s0_20 lo then (M_Reader_require h_20 0).bind (fun h22 => if eqb (h22 3 4) (-1) then some (s0_20, h22) else some (lo, h22)) else (M_Reader_require h_20 1).bind (fun h24 => if eqb (h24 3 4) (-1) then some (s0_20, h24) else some (lo, h24))) (fun j20 => if eqb n0 0 then (M_Reader_readDigits N h15).bind (fun q26 => j20 q26.1 q26.2) else (M_Reader_readDigits N h15).bind (fun q28 => j20 (-q28.1) q28.2)))) = some (if cW b s d (if n0 = 0 then dv t s d else -dv t s d) lo (G 3 4) = -1 then (if n0 = 0 then dv t s d else -dv t s d) else lo, hs (hs (hs G 3 3 (b : Int)) 3 2 (d : Int)) 3 4 (cW b s d (if n0 = 0 then dv t s d else -dv t s d) lo (G 3 4))) := by
  have he := B.e
  have hd := sc_bd (f := dg t) hse
  have hin := sc_in (f := dg t) hse
  rw [ed] at hd hin
  have vb := dv_bd hd.1 hin
  have k := c_digits (N := N) (h := hs G 3 3 (b : Int)) (p := s) B hN (TC_3 T) hse (by rw [hs_slot (by omega)]; exact e) (by rw [hs_slot (by omega)]; exact hw) (by rw [hs_at]; omega)
  rw [ed, hs_slot (k := 3) (by omega), hs_at] at k
  have hW : -1 ≤ (if (d = s ∨ s + 2 < d) ∧ G 3 4 = -1 then (b : Int) else G 3 4) ∧ (if (d = s ∨ s + 2 < d) ∧ G 3 4 = -1 then (b : Int) else G 3 4) ≤ 400 := by split <;> omega
  have h3 : hs (hs G 3 3 (b : Int)) 3 2 (d : Int) 3 3 = (b : Int) := by rw [hs_slot (by omega), hs_at]
  have j20 : ∀ sv : Int, (-100 ≤ sv ∧ sv ≤ 100) → (if ltb sv lo then (M_Reader_require (hs (hs (hs G 3 3 (b : Int)) 3 2 (d : Int)) 3 4 (if (d = s ∨ s + 2 < d) ∧ G 3 4 = -1 then (b : Int) else G 3 4)) 0).bind (fun h22 => if eqb (h22 3 4) (-1) then some (sv, h22) else some (lo, h22)) else (M_Reader_require (hs (hs (hs G 3 3 (b : Int)) 3 2 (d : Int)) 3 4 (if (d = s ∨ s + 2 < d) ∧ G 3 4 = -1 then (b : Int) else G 3 4)) 1).bind (fun h24 => if eqb (h24 3 4) (-1) then some (sv, h24) else some (lo, h24))) = some (if cW b s d sv lo (G 3 4) = -1 then sv else lo, hs (hs (hs G 3 3 (b : Int)) 3 2 (d : Int)) 3 4 (cW b s d sv lo (G 3 4))) := fun sv hsv => by
    by_cases c1 : sv < lo
    · rw [if_pos (by rw [ltb_iff (by omega) (by omega) (by omega) (by omega)]; exact c1), rq_fin (b := b) (Or.inl rfl) hW h3 hb, cW_eq (by rw [if_pos c1])]
    · rw [if_neg (by rw [ltb_iff (by omega) (by omega) (by omega) (by omega)]; exact c1), rq_fin (b := b) (Or.inr rfl) hW h3 hb, cW_eq (by rw [if_neg c1])]
  rw [pu_lt, pu_lt, k]
  rcases hn with z | z
  · subst z
    rw [if_pos eq00, pu_bs, if_pos rfl]
    exact j20 (dv t s d) (by omega)
  · subst z
    rw [if_neg ne10, pu_bs, if_neg (show ¬ ((1 : Int) = 0) by omega)]
    exact j20 (-dv t s d) (by omega)
theorem c_signed (B : TB t E) (hN : 1000 < N) (T : TC t E h) (hp : p ≤ E) (e : h 3 2 = (p : Int)) (hw : -1 ≤ h 3 4 ∧ h 3 4 ≤ 400) {lo : Int} (hl : -100000 ≤ lo ∧ lo ≤ 100000)
    (eb : sc (bl t) E p = b) (ed : sc (dg t) E (sgS t E b) = d) :
    M_Reader_readSigned N h lo = some (if sW b (sgS t E b) d (sgV t E b (dv t (sgS t E b) d)) lo (h 3 4) = -1 then sgV t E b (dv t (sgS t E b) d) else lo, hs (hs (hs h 3 3 (b : Int)) 3 2 (d : Int)) 3 4 (sW b (sgS t E b) d (sgV t E b (dv t (sgS t E b) d)) lo (h 3 4))) := by
  have he := B.e
  have hb := sc_bd (f := bl t) hp
  rw [eb] at hb
  have tb := tv_bd (p := b) B
  unfold M_Reader_readSigned sgV
  rw [c_skip B hN T hp e, pu_bs, eb, hs_at, c_at B (TC_3 T) hb.2, pu_bs, pu_lt]
  unfold sgS at *
  by_cases c : tv t E b = 45
  · have hbE : b < E := by
      unfold tv at c
      by_cases z : b < E
      · exact z
      · rw [if_neg z] at c; omega
    rw [if_pos c] at ed ⊢
    rw [if_pos c, if_pos (show eqb (tv t E b) 45 = true by rw [eqb_iff (by omega) (by omega) (by omega) (by omega)]; exact c)]
    dsimp only
    rw [pu_lt, if_neg ne10, pu_lt, pu_lt, hs_hs, hs_at]
    have tb1 := tv_bd (p := b + 1) B
    have ei : (b : Int) + 1 = ((b + 1 : Nat) : Int) := by omega
    rw [ei, hs_slot (k := 3) (by omega), hs_at, c_at B (TC_3 (TC_3 T)) (by omega), pu_bs, c_isDigit tb1, pu_bs]
    have hds : (48 ≤ tv t E (b + 1) ∧ tv t E (b + 1) ≤ 57) ↔ d ≠ b + 1 := by
      rw [← ed]
      by_cases z : b + 1 < E
      · unfold tv
        rw [if_pos z]
        by_cases y : 48 ≤ t (b + 1) ∧ t (b + 1) ≤ 57
        · have k1 := sc_bd (f := dg t) (p := b + 1 + 1) (E := E) (by omega)
          rw [← sc_step (f := dg t) z (decide_eq_true y)] at k1
          exact ⟨fun _ => by omega, fun _ => y⟩
        · rw [sc_stop (f := dg t) (decide_eq_false y)]
          exact ⟨fun x => absurd x y, fun x => absurd rfl x⟩
      · rw [sc_at (by omega)]
        unfold tv
        rw [if_neg z]
        exact ⟨fun x => by omega, fun x => absurd rfl x⟩
    have w4 : hs (hs h 3 2 ((b + 1 : Nat) : Int)) 3 3 ((b + 1 : Nat) : Int) 3 4 = h 3 4 := by rw [hs_slot (by omega), hs_slot (by omega)]
    have w3 : hs (hs h 3 2 ((b + 1 : Nat) : Int)) 3 3 ((b + 1 : Nat) : Int) 3 3 = ((b + 1 : Nat) : Int) := hs_at
    have hG : ∀ W : Int, hs (hs (hs (hs (hs (hs h 3 2 ((b + 1 : Nat) : Int)) 3 3 ((b + 1 : Nat) : Int)) 3 4 W) 3 3 (b : Int)) 3 2 (d : Int)) 3 4 = hs (hs (hs h 3 3 (b : Int)) 3 2 (d : Int)) 3 4 := fun W => by
      funext u
      rw [hs_comm (c := 3) (k := 4) (c' := 3) (k' := 3) (Or.inr (by omega)), hs_hs, hs_comm (c := 3) (k := 4) (c' := 3) (k' := 2) (Or.inr (by omega)), hs_hs, hs_comm (h := h) (c := 3) (k := 2) (c' := 3) (k' := 3) (Or.inr (by omega)), hs_hs]
    have fin : ∀ W : Int, (-1 ≤ W ∧ W ≤ 400) → cW b (b + 1) d (-dv t (b + 1) d) lo W = sW b (b + 1) d (-dv t (b + 1) d) lo (h 3 4) → ∀ G : Hp, G = hs (hs (hs h 3 2 ((b + 1 : Nat) : Int)) 3 3 ((b + 1 : Nat) : Int)) 3 4 W → (lt' (hs G 3 3 (b : Int)) (fun h15 => lt' (fun (s0_20 : Int) (h_20 : Hp) => if ltb s0_20 lo then (M_Reader_require h_20 0).bind (fun h22 => if eqb (h22 3 4) (-1) then some (s0_20, h22) else some (lo, h22)) else (M_Reader_require h_20 1).bind (fun h24 => if eqb (h24 3 4) (-1) then some (s0_20, h24) else some (lo, h24))) (fun j20 => if eqb 1 0 then (M_Reader_readDigits N h15).bind (fun q26 => j20 q26.1 q26.2) else (M_Reader_readDigits N h15).bind (fun q28 => j20 (-q28.1) q28.2)))) = some (if sW b (b + 1) d (-dv t (b + 1) d) lo (h 3 4) = -1 then -dv t (b + 1) d else lo, hs (hs (hs h 3 3 (b : Int)) 3 2 (d : Int)) 3 4 (sW b (b + 1) d (-dv t (b + 1) d) lo (h 3 4))) := by
      intro W hW eW G eG
      have g4 : G 3 4 = W := by rw [eG, hs_at]
      have r := c_sgn (G := G) (b := b) (n0 := 1) (s := b + 1) B hN (by rw [eG]; exact TC_3 (TC_3 (TC_3 T))) (by omega) (by omega) (by rw [eG, hs_slot (by omega), hs_slot (by omega), hs_at]) (by rw [g4]; exact hW) hl (Or.inr rfl) ed
      rw [if_neg (show ¬ ((1 : Int) = 0) by omega), g4, eW] at r
      rw [r, eG, hG W]
    by_cases c2 : d = b + 1
    · rw [if_neg (fun z => (hds.mp z) c2), c_req (Or.inl rfl) (by rw [w4]; exact hw), pu_bs, w4, w3]
      by_cases c3 : h 3 4 = -1
      · rw [if_pos ⟨rfl, c3⟩]
        refine fin ((b + 1 : Nat) : Int) (by omega) ?_ _ rfl
        unfold cW sW
        rw [if_neg (fun z => by omega), if_pos c3, if_pos c2]
      · rw [if_neg (fun z => c3 z.2)]
        refine fin (h 3 4) hw ?_ _ (by rw [hs_self w4])
        unfold cW sW
        rw [if_neg (fun z => c3 z.2), if_neg c3]
    · rw [if_pos (hds.mpr c2), c_req (Or.inr rfl) (by rw [w4]; exact hw), pu_bs, if_neg (fun z => by omega)]
      refine fin (h 3 4) hw ?_ _ (by rw [hs_self w4])
      unfold cW sW
      by_cases c3 : h 3 4 = -1
      · rw [if_pos c3, if_neg c2]
        by_cases c4 : b + 1 + 2 < d ∨ -dv t (b + 1) d < lo
        · rw [if_pos c4, if_pos ⟨by omega, c3⟩]
        · rw [if_neg c4, if_neg (fun z => by omega)]; exact c3
      · rw [if_neg (fun z => c3 z.2), if_neg c3]
  · rw [if_neg c] at ed ⊢
    rw [if_neg c, if_neg (show ¬ eqb (tv t E b) 45 = true by rw [eqb_iff (by omega) (by omega) (by omega) (by omega)]; exact c)]
    dsimp only
    rw [pu_lt, if_pos eq00]
    have r := c_sgn (G := hs h 3 2 (b : Int)) (b := b) (n0 := 0) (s := b) B hN (TC_3 T) hb.2 (by omega) hs_at (by rw [hs_slot (by omega)]; exact hw) hl (Or.inl rfl) ed
    rw [if_pos rfl, hs_slot (by omega), hs_comm (h := h) (c := 3) (k := 2) (c' := 3) (k' := 3) (Or.inr (by omega)), hs_hs] at r
    have eW : cW b b d (dv t b d) lo (h 3 4) = sW b b d (dv t b d) lo (h 3 4) := by
      unfold cW sW
      by_cases c3 : h 3 4 = -1
      · rw [if_pos c3]
        by_cases c2 : d = b
        · rw [if_pos c2, if_pos ⟨Or.inl (Or.inl c2), c3⟩]
        · rw [if_neg c2]
          by_cases c4 : b + 2 < d ∨ dv t b d < lo
          · rw [if_pos c4, if_pos ⟨by omega, c3⟩]
          · rw [if_neg c4, if_neg (fun z => by omega)]; exact c3
      · rw [if_neg (fun z => c3 z.2), if_neg c3]
    rw [← eW, ← r]
    dsimp only
    rw [hs_comm (h := h) (c := 3) (k := 2) (c' := 3) (k' := 3) (Or.inr (by omega))]
end Lg
