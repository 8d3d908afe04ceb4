section Tu
variable {h : Hp} {N L : Nat} {xs : Nat → Int32} {v4 : Int}
def Kb (N L : Nat) (xs : Nat → Int32) : Prop := ∀ (h : Hp) (v4 : Int) (k : Hp → Option Int), Inv h → ∃ h', Inv h' ∧ Lw_case_2 N L xs v4 h k = k h'
theorem k_turn (kb : Kb N L xs) (hN : 7000 < N) (i : Inv h) (hv : 0 ≤ v4 ∧ v4 + 6 ≤ L) (k : Hp → Option Int) : ∃ h', Inv h' ∧ Lw_turn N L xs v4 h k = k h' := by
  unfold Lw_turn
  have e : rdX xs L v4 = some (px xs v4 0) := by
    have := rdX_ok (xs := xs) hv (j := 0) (by omega)
    rwa [Int.add_zero] at this
  rw [e, pu_bs, pu_lt]
  generalize andI (px xs v4 0) 63 = x
  by_cases c0 : eqb x 0 = true
  · rw [if_pos c0]; exact k_feed hN i hv k
  rw [if_neg c0]
  by_cases c1 : eqb x 1 = true
  · rw [if_pos c1]; exact k_end hN i hv k
  rw [if_neg c1]
  by_cases c2 : eqb x 2 = true
  · rw [if_pos c2]; exact kb h v4 k i
  rw [if_neg c2]
  by_cases c3 : eqb x 3 = true
  · rw [if_pos c3]; exact k_fault i k
  rw [if_neg c3]
  by_cases c4 : eqb x 4 = true
  · rw [if_pos c4]; exact k_year (by omega) i hv k
  rw [if_neg c4]
  by_cases c5 : eqb x 5 = true
  · rw [if_pos c5]; exact k_day (by omega) i hv k
  rw [if_neg c5]
  by_cases c6 : eqb x 6 = true
  · rw [if_pos c6]; exact k_office (by omega) i hv k
  rw [if_neg c6]
  by_cases c7 : eqb x 7 = true
  · rw [if_pos c7]; exact k_base (by omega) i hv k
  rw [if_neg c7]
  by_cases c8 : eqb x 8 = true
  · rw [if_pos c8]; exact k_fast hN i hv k
  rw [if_neg c8]
  by_cases c9 : eqb x 9 = true
  · rw [if_pos c9]; exact k_lesson hN i hv k
  rw [if_neg c9]
  by_cases c10 : eqb x 10 = true
  · rw [if_pos c10]; exact k_joined hN i hv k
  rw [if_neg c10]
  by_cases c11 : eqb x 11 = true
  · rw [if_pos c11]; exact k_feast hN i hv k
  rw [if_neg c11]
  by_cases c12 : eqb x 12 = true
  · rw [if_pos c12]; exact k_of hN i hv k
  rw [if_neg c12]
  by_cases c13 : eqb x 13 = true
  · rw [if_pos c13]; exact k_rank hN i hv k
  rw [if_neg c13]
  by_cases c14 : eqb x 14 = true
  · rw [if_pos c14]; exact k_law hN i hv k
  rw [if_neg c14]
  by_cases c15 : eqb x 15 = true
  · rw [if_pos c15]; exact k_put hN i hv k
  rw [if_neg c15]
  by_cases c16 : eqb x 16 = true
  · rw [if_pos c16]; exact k_reach hN i hv k
  rw [if_neg c16]
  by_cases c17 : eqb x 17 = true
  · rw [if_pos c17]; exact k_undo hN i k
  rw [if_neg c17]
  by_cases c18 : eqb x 18 = true
  · rw [if_pos c18]; exact k_cycle hN i hv k
  rw [if_neg c18]
  by_cases c19 : eqb x 19 = true
  · rw [if_pos c19]; exact k_fates hN i hv k
  rw [if_neg c19]
  by_cases c20 : eqb x 20 = true
  · rw [if_pos c20]; exact k_far hN i hv k
  rw [if_neg c20]
  by_cases c21 : eqb x 21 = true
  · rw [if_pos c21]; exact k_span hN i hv k
  rw [if_neg c21]
  by_cases c22 : eqb x 22 = true
  · rw [if_pos c22]; exact k_meets hN i hv k
  rw [if_neg c22]
  by_cases c23 : eqb x 23 = true
  · rw [if_pos c23]; exact k_beats hN i hv k
  rw [if_neg c23]
  by_cases c24 : eqb x 24 = true
  · rw [if_pos c24]; exact k_safe hN i hv k
  rw [if_neg c24]
  by_cases c25 : eqb x 25 = true
  · rw [if_pos c25]; exact k_next hN i hv k
  rw [if_neg c25]
  by_cases c26 : eqb x 26 = true
  · rw [if_pos c26]; exact k_unresolved hN i hv k
  rw [if_neg c26]
  by_cases c27 : eqb x 27 = true
  · rw [if_pos c27]; exact k_paschs hN i hv k
  rw [if_neg c27]
  by_cases c28 : eqb x 28 = true
  · rw [if_pos c28]; exact k_alike hN i hv k
  rw [if_neg c28]
  by_cases c29 : eqb x 29 = true
  · rw [if_pos c29]; exact k_sorts hN i hv k
  rw [if_neg c29]
  by_cases c30 : eqb x 30 = true
  · rw [if_pos c30]; exact k_yields hN i hv k
  rw [if_neg c30]
  by_cases c31 : eqb x 31 = true
  · rw [if_pos c31]; exact k_course hN i hv k
  rw [if_neg c31]
  by_cases c32 : eqb x 32 = true
  · rw [if_pos c32]; exact k_heaviest hN i hv k
  rw [if_neg c32]
  by_cases c33 : eqb x 33 = true
  · rw [if_pos c33]; exact k_interval hN i hv k
  rw [if_neg c33]
  by_cases c34 : eqb x 34 = true
  · rw [if_pos c34]; exact k_order hN i hv k
  rw [if_neg c34]
  by_cases c35 : eqb x 35 = true
  · rw [if_pos c35]; exact k_better hN i hv k
  rw [if_neg c35]
  by_cases c36 : eqb x 36 = true
  · rw [if_pos c36]; exact k_rival hN i hv k
  rw [if_neg c36]
  by_cases c37 : eqb x 37 = true
  · rw [if_pos c37]; exact k_lull hN i hv k
  rw [if_neg c37]
  by_cases c38 : eqb x 38 = true
  · rw [if_pos c38]; exact k_tally hN i hv k
  rw [if_neg c38]
  by_cases c39 : eqb x 39 = true
  · rw [if_pos c39]; exact k_leader hN i hv k
  rw [if_neg c39]
  by_cases c40 : eqb x 40 = true
  · rw [if_pos c40]; exact k_image hN i k
  rw [if_neg c40]
  by_cases c41 : eqb x 41 = true
  · rw [if_pos c41]; exact k_back hN i k
  rw [if_neg c41]
  by_cases c42 : eqb x 42 = true
  · rw [if_pos c42]; exact k_count i hv k
  rw [if_neg c42]
  exact ⟨h, i, rfl⟩
theorem k_loop (kb : Kb N L xs) (hN : 7000 < N) (hL : L ≤ 3072) : ∀ (n : Nat) (v4 : Int) (h : Hp), Inv h → 0 ≤ v4 → v4 ≤ L → (L : Int) < v4 + 6 * n → Lw_loop N L xs n v4 h = some 1 := by
  intro n
  induction n with
  | zero => intro v4 h i h0 h1 h2; omega
  | succ n ih =>
    intro v4 h i h0 h1 h2
    rw [Lw_loop]
    by_cases c : (L : Int) - 6 < v4
    · rw [if_pos (by rw [ltb_iff (by omega) (by omega) (by omega) (by omega)]; exact c)]
    · rw [if_neg (by rw [ltb_iff (by omega) (by omega) (by omega) (by omega)]; exact c)]
      obtain ⟨h', i', e⟩ := k_turn kb hN i (v4 := v4) ⟨h0, by omega⟩ (fun h => Lw_loop N L xs n (v4 + 6) h)
      rw [e]
      exact ih (v4 + 6) h' i' (by omega) (by omega) (by omega)
theorem NoB_00 : NoB (h00 84) := NoB.mk (fun k h1 h2 => by show (if k = 18 then (5 : Int) else if k = 16 then 20 else 0) = 0; rw [if_neg h2, if_neg h1]) rfl rfl
theorem Inv_00 : Inv h00 := by
  have nok : ¬ OkB (h00 84) := fun ok => by
    have hw := ok.week
    have z : h00 84 0 = 0 := rfl
    omega
  have z1 : h00 84 1 = 0 := rfl
  have z20 : h00 84 20 = 0 := rfl
  have z33 : h00 84 33 = 0 := rfl
  have z42 : h00 84 42 = 0 := rfl
  have z3 : h00 83 3 = 0 := rfl
  have z7 : h00 83 7 = 0 := rfl
  refine Inv.mk (Or.inr NoB_00) ?_ ?_ (fun ok => absurd ok nok) (fun ok => absurd ok nok) ?_ ?_ ?_ ?_
  · intro k hk; exact NoB_00.z k (by omega) (by omega)
  · refine CB.mk ?_ rfl rfl ?_ rfl rfl rfl rfl rfl rfl rfl rfl rfl rfl ?_ rfl ?_ rfl ?_ rfl ?_ ?_ ?_
    · rw [if_neg (by have z : h00 84 0 = 0 := rfl
                     omega)]; rfl
    · rfl
    · intro j hj; omega
    · intro j hj; omega
    · intro j hj; omega
    · intro j hj; omega
    · intro j hj; omega
    · intro j hj; omega
  · exact Or.inl ⟨rfl, rfl, fun k _ => rfl⟩
  · refine Tp.mk rfl ?_ ?_ ?_
    · omega
    · omega
    · intro j hj; omega
  · have z10 : h00 83 10 = -1 := rfl
    exact ⟨rfl, by omega, by omega⟩
  · refine Pa.mk rfl ?_ ?_ ?_ ?_
    · omega
    · omega
    · intro w; omega
    · intro j hj; omega
theorem k_all (kb : Kb 10000 L xs) (hL : L ≤ 3072) : Lw_loop 10000 L xs 513 0 h00 = some 1 := k_loop kb (by omega) hL 513 0 h00 Inv_00 (by omega) (by omega) (by omega)
end Tu
