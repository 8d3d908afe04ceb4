section Lj
variable {h : Hp} {N : Nat}
theorem c_addMonth {n : Nat} {v : Int} (hn : n ≤ 8) (e : h 4 2 = (n : Int)) : M_Book_addMonth h 4 v = some (if n = 8 then h else hs (hs (hs h 5 n v) 4 2 ((n + 1 : Nat) : Int)) 4 3 (h 4 3 + v)) := by
  unfold M_Book_addMonth
  by_cases c : n = 8
  · rw [if_pos (by rw [e, leb_iff (by omega) (by omega) (by omega) (by omega)]; omega), if_pos c]
  · rw [if_neg (by rw [e, leb_iff (by omega) (by omega) (by omega) (by omega)]; omega), if_neg c, e, pu_wrN (by omega), pu_bs, pu_lt, hs_cell (by omega), e, pu_lt, hs_slot (by omega), hs_cell (by omega)]
    rfl
theorem c_spansAdd {n P : Nat} {a1 a2 a3 : Int} (hn : n ≤ 4) (e : h P 0 = (n : Int)) : M_Spans_add h P a1 a2 a3 = some (if n = 4 then h else hs (hs (hs (hs h (P + 1) n a1) (P + 2) n a2) (P + 3) n a3) P 0 ((n + 1 : Nat) : Int)) := by
  unfold M_Spans_add
  by_cases c : n = 4
  · rw [if_pos (by rw [e, leb_iff (by omega) (by omega) (by omega) (by omega)]; omega), if_pos c]
  · rw [if_neg (by rw [e, leb_iff (by omega) (by omega) (by omega) (by omega)]; omega), if_neg c, e, pu_wrN (by omega), pu_bs, hs_cell (by omega), e, pu_wrN (by omega), pu_bs, hs_cell (by omega), hs_cell (by omega), e, pu_wrN (by omega), pu_bs, pu_lt, hs_cell (by omega), hs_cell (by omega), hs_cell (by omega), e]
    rfl
theorem c_feastsAdd {n F : Nat} {a1 a2 a3 a4 a5 a6 : Int} (hn : n ≤ 12) (e : h F 0 = (n : Int)) : M_Feasts_add h F a1 a2 a3 a4 a5 a6 = some (if n = 12 then h else hs (hs (hs (hs (hs (hs (hs h (F + 1) n a1) (F + 2) n a2) (F + 3) n a3) (F + 4) n a4) (F + 5) n a5) (F + 6) n a6) F 0 ((n + 1 : Nat) : Int)) := by
  unfold M_Feasts_add
  by_cases c : n = 12
  · rw [if_pos (by rw [e, leb_iff (by omega) (by omega) (by omega) (by omega)]; omega), if_pos c]
  · rw [if_neg (by rw [e, leb_iff (by omega) (by omega) (by omega) (by omega)]; omega), if_neg c, e, pu_wrN (by omega), pu_bs, hs_cell (by omega), e, pu_wrN (by omega), pu_bs, hs_cell (by omega), hs_cell (by omega), e, pu_wrN (by omega), pu_bs, hs_cell (by omega), hs_cell (by omega), hs_cell (by omega), e, pu_wrN (by omega), pu_bs, hs_cell (by omega), hs_cell (by omega), hs_cell (by omega), hs_cell (by omega), e, pu_wrN (by omega), pu_bs, hs_cell (by omega), hs_cell (by omega), hs_cell (by omega), hs_cell (by omega), hs_cell (by omega), e, pu_wrN (by omega), pu_bs, pu_lt, hs_cell (by omega), hs_cell (by omega), hs_cell (by omega), hs_cell (by omega), hs_cell (by omega), hs_cell (by omega), e]
    rfl
end Lj
