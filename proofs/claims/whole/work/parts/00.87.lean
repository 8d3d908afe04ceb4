section Lq
variable {h : Hp} {N : Nat}
def sfB (h : Hp) (n : Nat) (k : Nat) : Int := if k = 42 then (n : Int) else if k = 1 then 8 else if k < 43 then 31 else if (k - 43) % 7 = 0 then h 15 ((k - 43) / 7) else if (k - 43) % 7 = 1 then (if h 16 ((k - 43) / 7) = -1 then 1 else 0) else if (k - 43) % 7 = 2 then h 16 ((k - 43) / 7) else 0
theorem sfB_q {n f u : Nat} (hu : u < 7) : fq (sfB h n) f u = if u = 0 then h 15 f else if u = 1 then (if h 16 f = -1 then 1 else 0) else if u = 2 then h 16 f else 0 := by
  unfold fq sfB
  rw [if_neg (by omega), if_neg (by omega), if_neg (by omega), show (43 + 7 * f + u - 43) % 7 = u by omega, show (43 + 7 * f + u - 43) / 7 = f by omega]
theorem c_sort_safe (hN : 20 < N) {n : Nat} (hn : n ≤ 12) (e : h 14 0 = (n : Int)) (hf : ∀ f, f < n → (1 ≤ h 15 f ∧ h 15 f ≤ 9) ∧ -1 ≤ h 16 f ∧ h 16 f ≤ 7) : ∃ h', M_Feasts_sortByClaim N h 14 = some h' ∧ ∀ c, c ≠ 21 → c ≠ 22 → h' c = h c := by
  have b42 : sfB h n 42 = (n : Int) := if_pos rfl
  have b1 : sfB h n 1 = 8 := by unfold sfB; rw [if_neg (by omega), if_pos rfl]
  have ok : ∀ f : Nat, (f : Int) < sfB h n 42 → okF (sfB h n) f := fun f hf' => by
    rw [b42] at hf'
    have k := hf f (by omega)
    unfold okF
    rw [sfB_q (by omega), sfB_q (by omega), sfB_q (by omega), sfB_q (by omega), sfB_q (by omega), sfB_q (by omega), sfB_q (by omega), b1]
    simp only [if_true, show ¬ (1 = 0) by omega, show ¬ (2 = 0) by omega, show ¬ (2 = 1) by omega, show ¬ (3 = 0) by omega, show ¬ (3 = 1) by omega, show ¬ (3 = 2) by omega, show ¬ (4 = 0) by omega, show ¬ (4 = 1) by omega, show ¬ (4 = 2) by omega, show ¬ (5 = 0) by omega, show ¬ (5 = 1) by omega, show ¬ (5 = 2) by omega, show ¬ (6 = 0) by omega, show ¬ (6 = 1) by omega, show ¬ (6 = 2) by omega, if_false]
    refine ⟨k.1, ?_, by omega, by omega, by omega⟩
    by_cases c : h 16 f = -1
    · rw [if_pos c]; exact Or.inl ⟨rfl, c, by omega, by omega⟩
    · rw [if_neg c]
      refine Or.inr ⟨rfl, by omega, by omega, by omega, ?_⟩
      unfold sfB
      rw [if_neg (by omega), if_neg (by omega), if_pos (by omega)]; omega
  obtain ⟨h', r1, r2, _⟩ := c_sortByClaim (h := h) (N := N) (F := 14) (b := sfB h n) hN (by rw [b42]; omega) (by rw [b42]; omega) ok (by rw [b1]; omega) (by rw [b42]; exact e) (fun f _ => by
    rw [sfB_q (by omega), sfB_q (by omega)]
    exact ⟨rfl, rfl⟩)
  exact ⟨h', r1, r2⟩
end Lq
