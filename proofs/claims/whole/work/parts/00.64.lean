section Ed
variable {h : Hp} {N : Nat}
def dr (u : Int) : Nat := if u = 8 then 1 else 0
def nu (u : Int) : Nat := if u = 8 then 7 else u.toNat
theorem nu_bd {u : Int} (h0 : 0 ≤ u) (h1 : u ≤ 8) : nu u ≤ 7 ∧ ((nu u : Nat) : Int) + dr u = u ∧ dr u ≤ 1 := by
  unfold nu dr; split <;> omega
theorem cp_self {c : Nat} : ∃ h', cpA h c 8 1 c 8 0 7 = some h' ∧ (∀ x, x ≠ c → h' x = h x) ∧ (∀ j : Nat, j < 7 → h' c j = h c (j + 1)) := by
  refine ⟨_, by unfold cpA; rw [if_pos (by omega)], fun x hx => by funext k; exact if_neg hx, fun j hj => ?_⟩
  show (if c = c then va_cpy (h c) (h c) (1 : Int).toNat (0 : Int).toNat (7 : Int).toNat j else h c j) = _
  rw [if_pos rfl, show (1 : Int).toNat = 1 from rfl, show (0 : Int).toNat = 0 from rfl, show (7 : Int).toNat = 7 from rfl, pk_cpy_in (by omega) (by omega), Nat.sub_zero, Nat.add_comm]
theorem c_drop (hu : h 61 0 = 8) : ∃ h', M_Past_dropOldest h = some h' ∧ (∀ c, (c < 61 ∨ 65 < c) → h' c = h c) ∧ h' 61 0 = 7 ∧ (∀ j : Nat, j < 7 → h' 62 j = h 62 (j + 1) ∧ h' 63 j = h 63 (j + 1) ∧ h' 64 j = h 64 (j + 1) ∧ h' 65 j = h 65 (j + 1)) := by
  unfold M_Past_dropOldest
  rw [pu_lt, hs_at]
  obtain ⟨a, a1, a2, a3⟩ := cp_self (h := hs h 61 0 7) (c := 62)
  rw [a1, pu_bs, a2 61 (by omega), hs_at]
  obtain ⟨d, d1, d2, d3⟩ := cp_self (h := a) (c := 63)
  rw [d1, pu_bs, d2 61 (by omega), a2 61 (by omega), hs_at]
  obtain ⟨e, e1, e2, e3⟩ := cp_self (h := d) (c := 64)
  rw [e1, pu_bs, e2 61 (by omega), d2 61 (by omega), a2 61 (by omega), hs_at]
  obtain ⟨f, f1, f2, f3⟩ := cp_self (h := e) (c := 65)
  rw [f1, pu_bs]
  refine ⟨f, rfl, fun c hc => by rw [f2 c (by omega), e2 c (by omega), d2 c (by omega), a2 c (by omega), hs_cell (by omega)], by rw [f2 61 (by omega), e2 61 (by omega), d2 61 (by omega), a2 61 (by omega), hs_at], fun j hj => ⟨?_, ?_, ?_, ?_⟩⟩
  · rw [f2 62 (by omega), e2 62 (by omega), d2 62 (by omega), a3 j hj, hs_cell (by omega)]
  · rw [f2 63 (by omega), e2 63 (by omega), d3 j hj, a2 63 (by omega), hs_cell (by omega)]
  · rw [f2 64 (by omega), e3 j hj, d2 64 (by omega), a2 64 (by omega), hs_cell (by omega)]
  · rw [f3 j hj, e2 65 (by omega), d2 65 (by omega), a2 65 (by omega), hs_cell (by omega)]
theorem c_remember (h0 : 0 ≤ h 61 0) (h8 : h 61 0 ≤ 8) (k f m v : Int) : ∃ h', M_Past_remember h k f m v = some h' ∧ (∀ c, (c < 61 ∨ 65 < c) → h' c = h c) ∧ h' 61 0 = (nu (h 61 0) : Int) + 1 ∧ (∀ j : Nat, j ≤ nu (h 61 0) → h' 62 j = (if j = nu (h 61 0) then k else h 62 (j + dr (h 61 0))) ∧ h' 63 j = (if j = nu (h 61 0) then f else h 63 (j + dr (h 61 0))) ∧ h' 64 j = (if j = nu (h 61 0) then m else h 64 (j + dr (h 61 0))) ∧ h' 65 j = (if j = nu (h 61 0) then v else h 65 (j + dr (h 61 0)))) := by
  have nb := nu_bd h0 h8
  have core : ∀ g : Hp, (∀ c, (c < 61 ∨ 65 < c) → g c = h c) → g 61 0 = (nu (h 61 0) : Int) → (∀ j : Nat, j < nu (h 61 0) → g 62 j = h 62 (j + dr (h 61 0)) ∧ g 63 j = h 63 (j + dr (h 61 0)) ∧ g 64 j = h 64 (j + dr (h 61 0)) ∧ g 65 j = h 65 (j + dr (h 61 0))) → ∃ h', ((wrA g 62 8 (g 61 0) k).bind (fun h4 => (wrA h4 63 8 (h4 61 0) f).bind (fun h5 => (wrA h5 64 8 (h5 61 0) m).bind (fun h6 => (wrA h6 65 8 (h6 61 0) v).bind (fun h7 => lt' (hs h7 61 0 ((h7 61 0) + 1)) (fun h8 => some h8)))))) = some h' ∧ (∀ c, (c < 61 ∨ 65 < c) → h' c = h c) ∧ h' 61 0 = (nu (h 61 0) : Int) + 1 ∧ (∀ j : Nat, j ≤ nu (h 61 0) → h' 62 j = (if j = nu (h 61 0) then k else h 62 (j + dr (h 61 0))) ∧ h' 63 j = (if j = nu (h 61 0) then f else h 63 (j + dr (h 61 0))) ∧ h' 64 j = (if j = nu (h 61 0) then m else h 64 (j + dr (h 61 0))) ∧ h' 65 j = (if j = nu (h 61 0) then v else h 65 (j + dr (h 61 0)))) := by
    intro g g1 g2 g3
    refine ⟨hs (hs (hs (hs (hs g 62 (nu (h 61 0)) k) 63 (nu (h 61 0)) f) 64 (nu (h 61 0)) m) 65 (nu (h 61 0)) v) 61 0 ((nu (h 61 0) : Int) + 1), ?_, fun c hc => by rw [hs_cell (by omega), hs_cell (by omega), hs_cell (by omega), hs_cell (by omega), hs_cell (by omega)]; exact g1 c hc, hs_at, fun j hj => ?_⟩
    · simp (disch := omega) only [leb_iff, ltb_iff, eqb_iff, pu_rmP, pu_dvP, pu_bs, pu_b0, pu_b1, pu_c0, pu_c1, pu_lt, pu_rdN, pu_wrN, hs_at, hs_cell, hs_slot, if_true, if_false, true_and, and_true, pu_rd, pu_wr, Int.reduceToNat, Int.toNat_natCast, decide_eq_true_eq, Int.add_zero, Bool.false_eq_true, if_pos, if_neg, g2]
    · by_cases e : j = nu (h 61 0)
      · subst e; simp (disch := omega) only [leb_iff, ltb_iff, eqb_iff, pu_rmP, pu_dvP, pu_bs, pu_b0, pu_b1, pu_c0, pu_c1, pu_lt, pu_rdN, pu_wrN, hs_at, hs_cell, hs_slot, if_true, if_false, true_and, and_true, pu_rd, pu_wr, Int.reduceToNat, Int.toNat_natCast, decide_eq_true_eq, Int.add_zero, Bool.false_eq_true, if_pos, if_neg]
      · have := g3 j (by omega)
        simp (disch := omega) only [leb_iff, ltb_iff, eqb_iff, pu_rmP, pu_dvP, pu_bs, pu_b0, pu_b1, pu_c0, pu_c1, pu_lt, pu_rdN, pu_wrN, hs_at, hs_cell, hs_slot, if_true, if_false, true_and, and_true, pu_rd, pu_wr, Int.reduceToNat, Int.toNat_natCast, decide_eq_true_eq, Int.add_zero, Bool.false_eq_true, if_pos, if_neg, this.1, this.2.1, this.2.2.1, this.2.2.2]
  unfold M_Past_remember
  rw [pu_lt]
  by_cases c : h 61 0 = 8
  · obtain ⟨g, g1, g2, g3, g4⟩ := c_drop c
    have e1 : nu (h 61 0) = 7 := if_pos c
    have e2 : dr (h 61 0) = 1 := if_pos c
    rw [if_neg (by rw [ltb_iff (by omega) (by omega) (by omega) (by omega)]; omega), g1, pu_bs]
    exact core g g2 (by rw [g3, e1]; rfl) (fun j hj => by rw [e2]; exact g4 j (by omega))
  · have e1 : nu (h 61 0) = (h 61 0).toNat := if_neg c
    have e2 : dr (h 61 0) = 0 := if_neg c
    rw [if_pos (by rw [ltb_iff (by omega) (by omega) (by omega) (by omega)]; omega)]
    exact core h (fun _ _ => rfl) (by omega) (fun j hj => by rw [e2]; exact ⟨rfl, rfl, rfl, rfl⟩)
theorem m_remembers (hN : 2000 < N) (h0 : 0 ≤ h 83 3) (h8 : h 83 3 ≤ 8) : ∃ h', M_Md_remembers N h = some h' ∧ (∀ c, c ≠ 83 → c ≠ 85 → h' c = h c) ∧ (∀ j, j ≠ 3 → h' 83 j = h 83 j) ∧ h' 83 3 = (nu (h 83 3) : Int) + 1 ∧ (∀ j : Nat, j < nu (h 83 3) → rowU h' j = rowU h (j + dr (h 83 3))) ∧ (∀ k, k < 127 → rowU h' (nu (h 83 3)) k = h 84 k) := by
  have nb := nu_bd h0 h8
  have core : ∀ g : Hp, (∀ c, c ≠ 83 → c ≠ 85 → g c = h c) → (∀ j, j ≠ 3 → g 83 j = h 83 j) → g 83 3 = (nu (h 83 3) : Int) → (∀ j : Nat, j < nu (h 83 3) → rowU g j = rowU h (j + dr (h 83 3))) → ∃ h', Md_remembers_L51 N N 0 g = some h' ∧ (∀ c, c ≠ 83 → c ≠ 85 → h' c = h c) ∧ (∀ j, j ≠ 3 → h' 83 j = h 83 j) ∧ h' 83 3 = (nu (h 83 3) : Int) + 1 ∧ (∀ j : Nat, j < nu (h 83 3) → rowU h' j = rowU h (j + dr (h 83 3))) ∧ (∀ k, k < 127 → rowU h' (nu (h 83 3)) k = h 84 k) := by
    intro g g1 g2 g3 g4
    exact lp_inv (fun n k x => Md_remembers_L51 N n k x) (fun k x => (∀ c, c ≠ 85 → x c = g c) ∧ (∀ q, (q < 127 * nu (h 83 3) ∨ 127 * nu (h 83 3) + k ≤ q) → x 85 q = g 85 q) ∧ (∀ q, q < k → x 85 (127 * nu (h 83 3) + q) = h 84 q)) (fun h' => (∀ c, c ≠ 83 → c ≠ 85 → h' c = h c) ∧ (∀ j, j ≠ 3 → h' 83 j = h 83 j) ∧ h' 83 3 = (nu (h 83 3) : Int) + 1 ∧ (∀ j : Nat, j < nu (h 83 3) → rowU h' j = rowU h (j + dr (h 83 3))) ∧ (∀ k, k < 127 → rowU h' (nu (h 83 3)) k = h 84 k)) 127
      (fun n k x hk hp => by
        obtain ⟨k1, k2, k3⟩ := hp
        refine Or.inl ⟨hs x 85 (127 * nu (h 83 3) + k) (h 84 k), ⟨fun c hc => by rw [hs_cell hc]; exact k1 c hc, fun q hq => by rw [hs_slot (by omega)]; exact k2 q (by omega), fun q hq => ?_⟩, ?_⟩
        · by_cases e : q = k
          · subst e; rw [hs_at]
          · rw [hs_slot (by omega)]; exact k3 q (by omega)
        · (try dsimp only)
          have x84 : x 84 k = h 84 k := by rw [k1 84 (by omega), g1 84 (by omega) (by omega)]
          have x3 : x 83 3 = (nu (h 83 3) : Int) := by rw [k1 83 (by omega), g3]
          have ei : (127 * ((nu (h 83 3) : Nat) : Int) + (k : Int)).toNat = 127 * nu (h 83 3) + k := by omega
          rw [Md_remembers_L51, x3]
          simp (disch := omega) only [leb_iff, ltb_iff, eqb_iff, pu_rmP, pu_dvP, pu_bs, pu_b0, pu_b1, pu_c0, pu_c1, pu_lt, pu_rdN, pu_wrN, hs_at, hs_cell, hs_slot, if_true, if_false, true_and, and_true, pu_rd, pu_wr, Int.reduceToNat, Int.toNat_natCast, decide_eq_true_eq, Int.add_zero, Bool.false_eq_true, if_pos, if_neg, x84, ei])
      (fun n x hp => by
        obtain ⟨k1, k2, k3⟩ := hp
        have x3 : x 83 3 = (nu (h 83 3) : Int) := by rw [k1 83 (by omega), g3]
        refine ⟨hs x 83 3 ((nu (h 83 3) : Int) + 1), ?_, fun c c1 c2 => by rw [hs_cell c1, k1 c c2]; exact g1 c c1 c2, fun j hj => by rw [hs_slot hj, k1 83 (by omega)]; exact g2 j hj, hs_at, fun j hj => ?_, fun k hk => ?_⟩
        · (try dsimp only)
          rw [Md_remembers_L51, x3]
          simp (disch := omega) only [leb_iff, ltb_iff, eqb_iff, pu_rmP, pu_dvP, pu_bs, pu_b0, pu_b1, pu_c0, pu_c1, pu_lt, pu_rdN, pu_wrN, hs_at, hs_cell, hs_slot, if_true, if_false, true_and, and_true, pu_rd, pu_wr, Int.reduceToNat, Int.toNat_natCast, decide_eq_true_eq, Int.add_zero, Bool.false_eq_true, if_pos, if_neg]
        · rw [← g4 j hj]
          unfold rowU
          funext k
          rw [hs_cell (by omega)]
          by_cases c : k < 127
          · rw [if_pos c, if_pos c]; exact k2 _ (Or.inl (by
              have : 127 * j + 127 ≤ 127 * nu (h 83 3) := by omega
              omega))
          · rw [if_neg c, if_neg c]
        · unfold rowU
          rw [if_pos hk, hs_cell (by omega)]
          exact k3 k hk) N 0 g (by omega) (by omega) ⟨fun _ _ => rfl, fun _ _ => rfl, fun q hq => by omega⟩
  unfold M_Md_remembers
  rw [pu_lt]
  by_cases c : h 83 3 = 8
  · have e1 : nu (h 83 3) = 7 := if_pos c
    have e2 : dr (h 83 3) = 1 := if_pos c
    rw [if_pos (by rw [eqb_iff (by omega) (by omega) (by omega) (by omega)]; exact c)]
    obtain ⟨g, ⟨g1, g2⟩, eg⟩ := lp_cont (fun n k (x : Hp) => Md_remembers_L11 N (fun v1_11 h_11 => lt' (hs h_11 83 3 ((h_11 83 3) - 1)) (fun h12 => Md_remembers_L51 N N 0 h12)) n k x) (fun h_11 => lt' (hs h_11 83 3 ((h_11 83 3) - 1)) (fun h12 => Md_remembers_L51 N N 0 h12)) (fun k x => (∀ c, c ≠ 85 → x c = h c) ∧ (∀ q, x 85 q = if q < k then h 85 (q + 127) else h 85 q)) 889
      (fun n k x hk hp => by
        obtain ⟨k1, k2⟩ := hp
        refine ⟨hs x 85 k (h 85 (k + 127)), ⟨fun c hc => by rw [hs_cell hc]; exact k1 c hc, fun q => ?_⟩, ?_⟩
        · by_cases e : q = k
          · subst e; rw [hs_at, if_pos (by omega)]
          · rw [hs_slot e, k2 q]
            by_cases e2 : q < k
            · rw [if_pos e2, if_pos (by omega)]
            · rw [if_neg e2, if_neg (by omega)]
        · (try dsimp only)
          have x85 : x 85 (k + 127) = h 85 (k + 127) := by rw [k2, if_neg (by omega)]
          have ei : ((k : Int) + 127).toNat = k + 127 := by omega
          rw [Md_remembers_L11]
          simp (disch := omega) only [leb_iff, ltb_iff, eqb_iff, pu_rmP, pu_dvP, pu_bs, pu_b0, pu_b1, pu_c0, pu_c1, pu_lt, pu_rdN, pu_wrN, hs_at, hs_cell, hs_slot, if_true, if_false, true_and, and_true, pu_rd, pu_wr, Int.reduceToNat, Int.toNat_natCast, decide_eq_true_eq, Int.add_zero, Bool.false_eq_true, if_pos, if_neg, ei, x85])
      (fun n x hp => by
        (try dsimp only)
        rw [Md_remembers_L11]
        simp (disch := omega) only [leb_iff, ltb_iff, eqb_iff, pu_rmP, pu_dvP, pu_bs, pu_b0, pu_b1, pu_c0, pu_c1, pu_lt, pu_rdN, pu_wrN, hs_at, hs_cell, hs_slot, if_true, if_false, true_and, and_true, pu_rd, pu_wr, Int.reduceToNat, Int.toNat_natCast, decide_eq_true_eq, Int.add_zero, Bool.false_eq_true, if_pos, if_neg]) N 0 h (by omega) (by omega) ⟨fun _ _ => rfl, fun q => by rw [if_neg (by omega)]⟩
    rw [Int.natCast_zero] at eg
    rw [eg, pu_lt, g1 83 (by omega)]
    refine core (hs g 83 3 (h 83 3 - 1)) (fun x x1 x2 => by rw [hs_cell x1]; exact g1 x x2) (fun j hj => by rw [hs_slot hj, g1 83 (by omega)]) (by rw [hs_at, e1]; omega) (fun j hj => ?_)
    rw [e2]
    unfold rowU
    funext k
    rw [hs_cell (by omega)]
    by_cases c2 : k < 127
    · rw [if_pos c2, if_pos c2, g2, if_pos (by omega), show 127 * j + k + 127 = 127 * (j + 1) + k by omega]
    · rw [if_neg c2, if_neg c2]
  · have e1 : nu (h 83 3) = (h 83 3).toNat := if_neg c
    have e2 : dr (h 83 3) = 0 := if_neg c
    rw [if_neg (by rw [eqb_iff (by omega) (by omega) (by omega) (by omega)]; exact c)]
    exact core h (fun _ _ _ => rfl) (fun _ _ => rfl) (by omega) (fun j _ => by rw [e2]; rfl)
end Ed
