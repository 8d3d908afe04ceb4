def nbad (t : Nat → Int) (b d : Nat) (lo hi : Int) : Bool := decide ((d = b ∨ b + 2 < d) ∨ dv t b d < lo ∨ hi < dv t b d)
def nW (t : Nat → Int) (b d : Nat) (lo hi w : Int) : Int := if nbad t b d lo hi = true ∧ w = -1 then (b : Int) else w
section Ln
variable {t : Nat → Int} {E p b d q : Nat} {h : Hp} {N : Nat}
theorem rq_fin {H : Hp} {W v lo a : Int} (ha : a = 0 ∨ a = 1) (hW : -1 ≤ W ∧ W ≤ 400) (h3 : H 3 3 = (b : Int)) (hb : b ≤ 400) :
    (M_Reader_require (hs H 3 4 W) a).bind (fun h7 => if eqb (h7 3 4) (-1) then some (v, h7) else some (lo, h7)) = some (if (if a = 0 ∧ W = -1 then (b : Int) else W) = -1 then v else lo, hs H 3 4 (if a = 0 ∧ W = -1 then (b : Int) else W)) := by
  rw [c_req ha (by rw [hs_at]; exact hW), pu_bs, hs_at, hs_slot (by omega), h3]
  by_cases c : a = 0 ∧ W = -1
  · rw [if_pos c, if_pos c, hs_at, if_neg (by rw [eqb_iff (by omega) (by omega) (by omega) (by omega)]; omega), hs_hs, if_neg (by omega)]
  · rw [if_neg c, if_neg c, hs_at]
    by_cases c2 : W = -1
    · rw [if_pos (by rw [eqb_iff (by omega) (by omega) (by omega) (by omega)]; exact c2), if_pos c2]
    · rw [if_neg (by rw [eqb_iff (by omega) (by omega) (by omega) (by omega)]; exact c2), if_neg c2]
theorem nW_eq {lo hi w a : Int} (ha : a = if dv t b d < lo ∨ hi < dv t b d then 0 else 1) : (if a = 0 ∧ (if (d = b ∨ b + 2 < d) ∧ w = -1 then (b : Int) else w) = -1 then (b : Int) else (if (d = b ∨ b + 2 < d) ∧ w = -1 then (b : Int) else w)) = nW t b d lo hi w := by
  unfold nW nbad
  rw [ha]
  by_cases c1 : (d = b ∨ b + 2 < d)
  · by_cases c2 : w = -1
    · rw [if_pos (show (d = b ∨ b + 2 < d) ∧ w = -1 from ⟨c1, c2⟩), if_neg (fun z => by omega), if_pos ⟨decide_eq_true (Or.inl c1), c2⟩]
    · rw [if_neg (show ¬ ((d = b ∨ b + 2 < d) ∧ w = -1) from fun z => c2 z.2), if_neg (fun z => c2 z.2), if_neg (fun z => c2 z.2)]
  · rw [if_neg (show ¬ ((d = b ∨ b + 2 < d) ∧ w = -1) from fun z => c1 z.1)]
    by_cases c3 : dv t b d < lo ∨ hi < dv t b d
    · rw [if_pos c3]
      by_cases c2 : w = -1
      · rw [if_pos ⟨rfl, c2⟩, if_pos ⟨decide_eq_true (Or.inr c3), c2⟩]
      · rw [if_neg (fun z => c2 z.2), if_neg (fun z => c2 z.2)]
    · rw [if_neg c3, if_neg (fun z => by omega), if_neg (fun z => ?_)]
      have y := of_decide_eq_true z.1
      rcases y with y | y
      · exact c1 y
      · exact c3 y
theorem c_number (B : TB t E) (hN : 1000 < N) (T : TC t E h) (hp : p ≤ E) (e : h 3 2 = (p : Int)) (hw : -1 ≤ h 3 4 ∧ h 3 4 ≤ 400) {lo hi : Int} (hl : -100000 ≤ lo ∧ lo ≤ 100000) (hh : -100000 ≤ hi ∧ hi ≤ 100000)
    (eb : sc (bl t) E p = b) (ed : sc (dg t) E b = d) :
    M_Reader_readNumber N h lo hi = some (if nW t b d lo hi (h 3 4) = -1 then dv t b d else lo, hs (hs (hs h 3 3 (b : Int)) 3 2 (d : Int)) 3 4 (nW t b d lo hi (h 3 4))) := by
  have he := B.e
  have hb := sc_bd (f := bl t) hp
  rw [eb] at hb
  have hd := sc_bd (f := dg t) hb.2
  have hin := sc_in (f := dg t) hb.2
  rw [ed] at hd hin
  have vb := dv_bd hd.1 hin
  have k := c_digits (N := N) (h := hs (hs h 3 2 (b : Int)) 3 3 (b : Int)) (p := b) B hN (TC_3 (TC_3 T)) hb.2 (by rw [hs_slot (by omega), hs_at]) (by rw [hs_slot (by omega), hs_slot (by omega)]; exact hw) (by rw [hs_at]; omega)
  rw [ed, hs_slot (k := 3) (by omega), hs_slot (k := 2) (by omega), hs_at, hs_comm (h := h) (c := 3) (k := 2) (c' := 3) (k' := 3) (Or.inr (by omega)), hs_hs] at k
  have hW : -1 ≤ (if (d = b ∨ b + 2 < d) ∧ h 3 4 = -1 then (b : Int) else h 3 4) ∧ (if (d = b ∨ b + 2 < d) ∧ h 3 4 = -1 then (b : Int) else h 3 4) ≤ 400 := by split <;> omega
  have h3 : hs (hs h 3 3 (b : Int)) 3 2 (d : Int) 3 3 = (b : Int) := by rw [hs_slot (by omega), hs_at]
  unfold M_Reader_readNumber
  rw [c_skip B hN T hp e, pu_bs, pu_lt, eb, hs_at, hs_comm (h := h) (c := 3) (k := 2) (c' := 3) (k' := 3) (Or.inr (by omega)), k, pu_bs]
  dsimp only
  by_cases c1 : dv t b d < lo
  · rw [if_pos (by rw [ltb_iff (by omega) (by omega) (by omega) (by omega)]; exact c1), rq_fin (b := b) (Or.inl rfl) hW h3 (by omega), nW_eq (hi := hi) (by rw [if_pos (Or.inl c1)])]
  · rw [if_neg (by rw [ltb_iff (by omega) (by omega) (by omega) (by omega)]; exact c1)]
    by_cases c2 : hi < dv t b d
    · rw [if_pos (by rw [ltb_iff (by omega) (by omega) (by omega) (by omega)]; exact c2), rq_fin (b := b) (Or.inl rfl) hW h3 (by omega), nW_eq (lo := lo) (by rw [if_pos (Or.inr c2)])]
    · rw [if_neg (by rw [ltb_iff (by omega) (by omega) (by omega) (by omega)]; exact c2), rq_fin (b := b) (Or.inr rfl) hW h3 (by omega), nW_eq (t := t) (lo := lo) (hi := hi) (by rw [if_neg (by omega)])]
end Ln
