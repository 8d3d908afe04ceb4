section Lr
variable {h : Hp} {N : Nat}
theorem m_L194 {g : Hp} (hN : 2000 < N) : ∃ r : Int × Hp, Md_book_L194 N N 0 g = some r ∧ r.1 = g 88 42 ∧ (∀ c, c ≠ 83 → c ≠ 84 → r.2 c = g c) ∧ (∀ j, j ≠ 3 → r.2 83 j = g 83 j) ∧ r.2 83 3 = 0 ∧ (∀ q, r.2 84 q = if q < 127 then g 88 q else g 84 q) :=
  lp_inv (fun n k x => Md_book_L194 N n k x) (fun k x => (∀ c, c ≠ 84 → x c = g c) ∧ ∀ q, x 84 q = if q < k then g 88 q else g 84 q) (fun r : Int × Hp => r.1 = g 88 42 ∧ (∀ c, c ≠ 83 → c ≠ 84 → r.2 c = g c) ∧ (∀ j, j ≠ 3 → r.2 83 j = g 83 j) ∧ r.2 83 3 = 0 ∧ (∀ q, r.2 84 q = if q < 127 then g 88 q else g 84 q)) 127
    (fun n k x hk hp => by
      obtain ⟨k1, k2⟩ := hp
      refine Or.inl ⟨hs x 84 k (g 88 k), ⟨fun c hc => by rw [hs_cell hc]; exact k1 c hc, fun q => ?_⟩, ?_⟩
      · by_cases e : q = k
        · subst e; rw [hs_at, if_pos (by omega)]
        · rw [hs_slot e, k2 q]
          by_cases e2 : q < k
          · rw [if_pos e2, if_pos (by omega)]
          · rw [if_neg e2, if_neg (by omega)]
      · (try dsimp only)
        have x88 : x 88 k = g 88 k := by rw [k1 88 (by omega)]
        rw [Md_book_L194]
        simp (disch := omega) only [leb_iff, ltb_iff, eqb_iff, pu_rmP, pu_dvP, pu_bs, pu_b0, pu_b1, pu_c0, pu_c1, pu_lt, pu_rdN, pu_wrN, hs_at, hs_cell, hs_slot, if_true, if_false, true_and, and_true, pu_rd, pu_wr, Int.reduceToNat, Int.toNat_natCast, decide_eq_true_eq, Int.add_zero, Bool.false_eq_true, if_pos, if_neg, x88])
    (fun n x hp => by
      obtain ⟨k1, k2⟩ := hp
      refine ⟨(g 88 42, hs x 83 3 0), ?_, rfl, fun c c1 c2 => (hs_cell c1).trans (k1 c c2), fun j hj => (hs_slot hj).trans (congrFun (k1 83 (by omega)) j), hs_at (h := x) (c := 83) (k := 3) (v := 0), fun q => (congrFun (hs_cell (h := x) (c := 83) (k := 3) (v := 0) (c' := 84) (by omega)) q).trans (k2 q)⟩
      have x42 : x 84 42 = g 88 42 := by rw [k2 42, if_pos (by omega)]
      (try dsimp only)
      rw [Md_book_L194, if_pos (by rw [leb_iff (by omega) (by omega) (by omega) (by omega)]; omega), pu_lt, pu_rd (by omega) (by omega), pu_bs, hs_cell (by omega), show Int.toNat 42 = 42 from rfl, x42]) N 0 g (by omega) (by omega) ⟨fun _ _ => rfl, fun q => by rw [if_neg (by omega)]⟩
theorem m_L30 {g : Hp} {K : Int → Hp → Option (Int × Hp)} (hN : 2000 < N) : ∃ g', ((∀ c, c ≠ 88 → g' c = g c) ∧ ∀ q, g' 88 q = if q < 127 then 0 else g 88 q) ∧ Md_book_L30 N K N 0 g = K 127 g' := by
  obtain ⟨g', g1, eg⟩ := lp_cont (fun n k (x : Hp) => Md_book_L30 N K n k x) (fun x => K 127 x) (fun k x => (∀ c, c ≠ 88 → x c = g c) ∧ (∀ q, x 88 q = if q < k then 0 else g 88 q)) 127
    (fun n k x hk hp => by
      obtain ⟨k1, k2⟩ := hp
      refine ⟨hs x 88 k 0, ⟨fun c hc => by rw [hs_cell hc]; exact k1 c hc, fun q => ?_⟩, ?_⟩
      · by_cases e : q = k
        · subst e; rw [hs_at, if_pos (by omega)]
        · rw [hs_slot e, k2 q]
          by_cases e2 : q < k
          · rw [if_pos e2, if_pos (by omega)]
          · rw [if_neg e2, if_neg (by omega)]
      · (try dsimp only)
        rw [Md_book_L30]
        simp (disch := omega) only [leb_iff, ltb_iff, eqb_iff, pu_rmP, pu_dvP, pu_bs, pu_b0, pu_b1, pu_c0, pu_c1, pu_lt, pu_rdN, pu_wrN, hs_at, hs_cell, hs_slot, if_true, if_false, true_and, and_true, pu_rd, pu_wr, Int.reduceToNat, Int.toNat_natCast, decide_eq_true_eq, Int.add_zero, Bool.false_eq_true, if_pos, if_neg])
    (fun n x hp => by
      (try dsimp only)
      rw [Md_book_L30, if_pos (by rw [leb_iff (by omega) (by omega) (by omega) (by omega)]; omega)]
      rfl) N 0 g (by omega) (by omega) ⟨fun _ _ => rfl, fun q => by rw [if_neg (by omega)]⟩
  rw [Int.natCast_zero] at eg
  exact ⟨g', g1, eg⟩
end Lr
