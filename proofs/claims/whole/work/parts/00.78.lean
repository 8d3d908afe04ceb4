section Lf
variable {t : Nat → Int} {E p b d q : Nat} {h : Hp} {N : Nat}
def fF (p q : Nat) (a w : Int) : Int := if w = -1 then (if q = p then (p : Int) else if q ≤ p + 2 then -1 else a) else w
theorem fig_step (B : TB t E) (T : TM t E h) {n : Nat} {a v : Int} (hq : q < E) (hd : dg t q = true) (hpq : p ≤ q) (hle : q ≤ p + 2) (e : h 83 9 = (q : Int)) : Md_figures_L7 N a (p : Int) (n + 1) v h = Md_figures_L7 N a (p : Int) n ((10 * v) + t q - 48) (hs h 83 9 ((q + 1 : Nat) : Int)) := by
  have he := B.e
  have te := T.e
  have hn := dg_bd hd
  rw [Md_figures_L7, pu_lt, if_neg (by rw [te, e, leb_iff (by omega) (by omega) (by omega) (by omega)]; omega), e, pu_rdN (by omega), pu_bs, T.b q hq, m_isIn (by omega) (by omega) (by omega) (by omega) (by omega) (by omega), pu_bs, if_pos hn, if_neg ne10, if_neg (by rw [ltb_iff (by omega) (by omega) (by omega) (by omega)]; omega), pu_bs, pu_lt]
  rfl
theorem fig_stop (B : TB t E) (T : TM t E h) {n : Nat} {a v : Int} (hpq : p ≤ q) (hq : q ≤ E) (hst : E ≤ q ∨ dg t q = false ∨ p + 2 < q) (e : h 83 9 = (q : Int)) (hf : -1 ≤ h 83 10 ∧ h 83 10 ≤ 400) : Md_figures_L7 N a (p : Int) (n + 1) v h = some (v, hs h 83 10 (fF p q a (h 83 10))) := by
  have he := B.e
  have te := T.e
  have j6 : (if eqb (h 83 9) (p : Int) then (M_Md_wrong h (p : Int)).bind (fun h10 => some (v, h10)) else if leb ((h 83 9) - (p : Int)) 2 then some (v, h) else (M_Md_wrong h a).bind (fun h8 => some (v, h8))) = some (v, hs h 83 10 (fF p q a (h 83 10))) := by
    unfold fF
    rw [e]
    by_cases c1 : q = p
    · rw [if_pos (by rw [eqb_iff (by omega) (by omega) (by omega) (by omega)]; omega), m_wrong hf, pu_bs, if_pos c1]
      by_cases c : h 83 10 = -1
      · rw [if_pos c, if_pos c]
      · rw [if_neg c, if_neg c, hs_self rfl]
    · rw [if_neg (by rw [eqb_iff (by omega) (by omega) (by omega) (by omega)]; omega), if_neg c1]
      by_cases c2 : q ≤ p + 2
      · rw [if_pos (by rw [leb_iff (by omega) (by omega) (by omega) (by omega)]; omega), if_pos c2]
        by_cases c : h 83 10 = -1
        · rw [if_pos c, hs_self c]
        · rw [if_neg c, hs_self rfl]
      · rw [if_neg (by rw [leb_iff (by omega) (by omega) (by omega) (by omega)]; omega), if_neg c2, m_wrong hf, pu_bs]
        by_cases c : h 83 10 = -1
        · rw [if_pos c, if_pos c]
        · rw [if_neg c, if_neg c, hs_self rfl]
  rw [Md_figures_L7, pu_lt, j6]
  by_cases c : E ≤ q
  · rw [if_pos (by rw [te, e, leb_iff (by omega) (by omega) (by omega) (by omega)]; omega)]
  · have tb := B.b q (by omega)
    rw [if_neg (by rw [te, e, leb_iff (by omega) (by omega) (by omega) (by omega)]; omega), e, pu_rdN (by omega), pu_bs, T.b q (by omega), m_isIn (by omega) (by omega) (by omega) (by omega) (by omega) (by omega), pu_bs]
    by_cases c2 : 48 ≤ t q ∧ t q ≤ 57
    · rw [if_pos c2, if_neg ne10, if_pos (by
        rw [ltb_iff (by omega) (by omega) (by omega) (by omega)]
        rcases hst with z | z | z
        · omega
        · exact absurd c2 (dg_no z)
        · omega)]
    · rw [if_neg c2, if_pos eq00]
theorem TM_9 {v : Int} (T : TM t E h) : TM t E (hs h 83 9 v) := TM_fr T (hs_slot (by omega)) (hs_cell (by omega))
theorem m_figures (B : TB t E) (hN : 1000 < N) (T : TM t E h) {a : Int} (hp : p ≤ E) (e : h 83 9 = (p : Int)) (hf : -1 ≤ h 83 10 ∧ h 83 10 ≤ 400) (ed : sc (dg t) E p = d) :
    ∃ (v : Int) (d' : Nat), M_Md_figures N h a = some (v, hs (hs h 83 9 (d' : Int)) 83 10 (fF p d' a (h 83 10))) ∧ p ≤ d' ∧ d' ≤ d ∧ (d ≤ p + 2 → d' = d ∧ v = dv t p d) ∧ (p + 2 < d → p + 2 < d') ∧ (0 ≤ v ∧ v ≤ 999) := by
  have he := B.e
  have hd := sc_bd (f := dg t) hp
  have hin := sc_in (f := dg t) hp
  have hen := sc_end (f := dg t) hp
  rw [ed] at hd hin hen
  have st : d = p ∨ d = p + 1 ∨ d = p + 2 ∨ p + 2 < d := by omega
  have hst : E ≤ d ∨ dg t d = false ∨ p + 2 < d := by
    by_cases c : d < E
    · exact Or.inr (Or.inl (hen c))
    · exact Or.inl (by omega)
  obtain ⟨n, rfl⟩ : ∃ n, N = n + 4 := ⟨N - 4, by omega⟩
  unfold M_Md_figures
  generalize hM : n + 4 = M
  rw [← hM, e]
  rcases st with c | c | c | c
  · subst c
    rw [fig_stop B T (by omega) hp hst e hf]
    exact ⟨0, d, by rw [hs_self e], by omega, by omega, fun _ => ⟨rfl, by unfold dv; rw [if_pos rfl]⟩, fun z => by omega, by omega⟩
  · subst c
    have b1 := dg_bd (hin p (by omega) (by omega))
    rw [fig_step B T (by omega) (hin p (by omega) (by omega)) (by omega) (by omega) e, fig_stop B (TM_9 T) (by omega) (by omega) hst (by rw [hs_at]) (by rw [hs_slot (by omega)]; exact hf), hs_slot (by omega)]
    exact ⟨_, p + 1, rfl, by omega, by omega, fun _ => ⟨rfl, by unfold dv; rw [if_neg (by omega), if_pos rfl]; omega⟩, fun z => by omega, by omega⟩
  · subst c
    have b1 := dg_bd (hin p (by omega) (by omega))
    have b2 := dg_bd (hin (p + 1) (by omega) (by omega))
    rw [fig_step B T (by omega) (hin p (by omega) (by omega)) (by omega) (by omega) e, fig_step B (TM_9 T) (by omega) (hin (p + 1) (by omega) (by omega)) (by omega) (by omega) (by rw [hs_at]), hs_hs, fig_stop B (TM_9 T) (by omega) (by omega) hst (by rw [hs_at]) (by rw [hs_slot (by omega)]; exact hf), hs_slot (by omega)]
    exact ⟨_, p + 2, rfl, by omega, by omega, fun _ => ⟨rfl, by unfold dv; rw [if_neg (by omega), if_neg (by omega)]; omega⟩, fun z => by omega, by omega⟩
  · have b1 := dg_bd (hin p (by omega) (by omega))
    have b2 := dg_bd (hin (p + 1) (by omega) (by omega))
    have b3 := dg_bd (hin (p + 2) (by omega) (by omega))
    rw [fig_step B T (by omega) (hin p (by omega) (by omega)) (by omega) (by omega) e, fig_step B (TM_9 T) (by omega) (hin (p + 1) (by omega) (by omega)) (by omega) (by omega) (by rw [hs_at]), hs_hs, fig_step B (TM_9 T) (by omega) (hin (p + 2) (by omega) (by omega)) (by omega) (by omega) (by rw [hs_at]), hs_hs, fig_stop (q := p + 3) B (TM_9 T) (by omega) (by omega) (Or.inr (Or.inr (by omega))) (by rw [hs_at]) (by rw [hs_slot (by omega)]; exact hf), hs_slot (by omega)]
    exact ⟨_, p + 3, rfl, by omega, by omega, fun z => by omega, fun z => by omega, by omega⟩
theorem m_number (B : TB t E) (hN : 1000 < N) (T : TM t E h) (hp : p ≤ E) (e : h 83 9 = (p : Int)) (hf : h 83 10 = -1) {lo hi : Int} (hl : -100000 ≤ lo ∧ lo ≤ 100000) (hh : -100000 ≤ hi ∧ hi ≤ 100000)
    (eb : sc (bl t) E p = b) (ed : sc (dg t) E b = d) :
    ∃ (v : Int) (d' : Nat), M_Md_number N h lo hi = some (v, hs (hs h 83 9 (d' : Int)) 83 10 (nW t b d lo hi (-1))) ∧ b ≤ d' ∧ d' ≤ E ∧ (nbad t b d lo hi = false → d' = d ∧ v = dv t b d) ∧ (0 ≤ v ∧ v ≤ 999) := by
  have he := B.e
  have hb := sc_bd (f := bl t) hp
  rw [eb] at hb
  have hd := sc_bd (f := dg t) hb.2
  rw [ed] at hd
  obtain ⟨v, d', f1, f2, f3, f4, f5, f6⟩ := m_figures (N := N) (h := hs h 83 9 (b : Int)) (p := b) (a := (b : Int)) B hN (TM_9 T) hb.2 hs_at (by rw [hs_slot (by omega)]; omega) ed
  rw [hs_hs, hs_slot (by omega), hf] at f1
  have fw : fF b d' (b : Int) (-1) = if d' = b ∨ b + 2 < d' then (b : Int) else -1 := by
    unfold fF
    rw [if_pos rfl]
    by_cases c1 : d' = b
    · rw [if_pos c1, if_pos (Or.inl c1)]
    · rw [if_neg c1]
      by_cases c2 : d' ≤ b + 2
      · rw [if_pos c2, if_neg (by omega)]
      · rw [if_neg c2, if_pos (by omega)]
  rw [fw] at f1
  have hdb : (d' = b ∨ b + 2 < d') ↔ (d = b ∨ b + 2 < d) := by
    by_cases c : d ≤ b + 2
    · rw [(f4 c).1]
    · have := f5 (by omega)
      omega
  unfold M_Md_number
  rw [hf, if_pos (by rw [eqb_iff (by omega) (by omega) (by omega) (by omega)]), m_here B hN T hp e, pu_bs, eb]
  dsimp only
  rw [f1, pu_bs]
  dsimp only
  have wr : ∀ W : Int, (-1 ≤ W ∧ W ≤ 400) → M_Md_wrong (hs (hs h 83 9 (d' : Int)) 83 10 W) (b : Int) = some (hs (hs h 83 9 (d' : Int)) 83 10 (if W = -1 then (b : Int) else W)) := fun W hW => by
    rw [m_wrong (by rw [hs_at]; exact hW), hs_at, hs_hs]
    by_cases c : W = -1
    · rw [if_pos c, if_pos c]
    · rw [if_neg c, if_neg c]
  have hW : -1 ≤ (if d' = b ∨ b + 2 < d' then (b : Int) else -1) ∧ (if d' = b ∨ b + 2 < d' then (b : Int) else -1) ≤ 400 := by split <;> omega
  have ww : (if (if d' = b ∨ b + 2 < d' then (b : Int) else -1) = -1 then (b : Int) else (if d' = b ∨ b + 2 < d' then (b : Int) else -1)) = (b : Int) := by
    by_cases c : d' = b ∨ b + 2 < d'
    · rw [if_pos c, if_neg (by omega)]
    · rw [if_neg c, if_pos rfl]
  have bad : (d = b ∨ b + 2 < d) ∨ v < lo ∨ hi < v → nW t b d lo hi (-1) = (b : Int) ∧ ¬ nbad t b d lo hi = false := fun z => by
    have y : nbad t b d lo hi = true := by
      unfold nbad
      refine decide_eq_true ?_
      by_cases c : d = b ∨ b + 2 < d
      · exact Or.inl c
      · rw [← (f4 (by omega)).2]
        rcases z with z | z
        · exact absurd z c
        · exact Or.inr z
    unfold nW
    rw [if_pos ⟨y, rfl⟩, y]; exact ⟨rfl, by decide⟩
  by_cases c1 : v < lo
  · rw [if_pos (by rw [ltb_iff (by omega) (by omega) (by omega) (by omega)]; exact c1), wr _ hW, pu_bs, ww, (bad (Or.inr (Or.inl c1))).1]
    exact ⟨v, d', rfl, f2, by omega, fun z => absurd z (bad (Or.inr (Or.inl c1))).2, f6⟩
  · rw [if_neg (by rw [ltb_iff (by omega) (by omega) (by omega) (by omega)]; exact c1)]
    by_cases c2 : v ≤ hi
    · rw [if_pos (by rw [leb_iff (by omega) (by omega) (by omega) (by omega)]; exact c2)]
      by_cases c3 : d = b ∨ b + 2 < d
      · rw [if_pos (hdb.mpr c3), (bad (Or.inl c3)).1]
        exact ⟨v, d', rfl, f2, by omega, fun z => absurd z (bad (Or.inl c3)).2, f6⟩
      · have y : nbad t b d lo hi = false := by
          unfold nbad
          refine decide_eq_false (fun z => ?_)
          rw [← (f4 (by omega)).2] at z
          rcases z with z | z
          · exact c3 z
          · omega
        rw [if_neg (fun z => c3 (hdb.mp z))]
        have y2 : nW t b d lo hi (-1) = -1 := by unfold nW; rw [if_neg (fun z => by rw [y] at z; exact absurd z.1 (by decide))]
        rw [y2]
        exact ⟨v, d', rfl, f2, by omega, fun _ => f4 (by omega), f6⟩
    · rw [if_neg (by rw [leb_iff (by omega) (by omega) (by omega) (by omega)]; exact c2), wr _ hW, pu_bs, ww, (bad (Or.inr (Or.inr (by omega)))).1]
      exact ⟨v, d', rfl, f2, by omega, fun z => absurd z (bad (Or.inr (Or.inr (by omega)))).2, f6⟩
end Lf
