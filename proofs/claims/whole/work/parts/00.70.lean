section Cp
variable {h : Hp} {N L : Nat} {xs : Nat → Int32} {v4 : Int} {b : Nat → Int}
theorem cp_to {c c' n : Nat} {m : Int} (hm : m = (n : Int)) : ∃ h', cpA h c n 0 c' n 0 m = some h' ∧ (∀ x, x ≠ c' → h' x = h x) ∧ (∀ j : Nat, j < n → h' c' j = h c j) := by
  subst hm
  refine ⟨_, by unfold cpA; rw [if_pos (by omega)], fun x hx => by funext k; exact if_neg hx, fun j hj => ?_⟩
  show (if c' = c' then va_cpy (h c) (h c') (0 : Int).toNat (0 : Int).toNat ((n : Nat) : Int).toNat j else h c' j) = _
  rw [if_pos rfl, show (0 : Int).toNat = 0 from rfl, Int.toNat_natCast, pk_cpy_in (by omega) (by omega), Nat.sub_zero, Nat.zero_add]
theorem c_spCopy {P Q : Nat} (hd : P + 3 < Q ∨ Q + 3 < P) : ∃ h', M_Spans_copyFrom h P Q = some h' ∧ (∀ c, (c < P ∨ P + 3 < c) → h' c = h c) ∧ h' P 0 = h Q 0 ∧ (∀ j : Nat, j < 4 → h' (P + 1) j = h (Q + 1) j) ∧ (∀ j : Nat, j < 4 → h' (P + 2) j = h (Q + 2) j) ∧ (∀ j : Nat, j < 4 → h' (P + 3) j = h (Q + 3) j) := by
  unfold M_Spans_copyFrom
  rw [pu_lt]
  obtain ⟨g1, e1, f1, v1⟩ := cp_to (h := hs h P 0 (h Q 0)) (c := Q + 1) (c' := P + 1) (n := 4) (m := 4) rfl
  rw [e1, pu_bs]
  obtain ⟨g2, e2, f2, v2⟩ := cp_to (h := g1) (c := Q + 2) (c' := P + 2) (n := 4) (m := 4) rfl
  rw [e2, pu_bs]
  obtain ⟨g3, e3, f3, v3⟩ := cp_to (h := g2) (c := Q + 3) (c' := P + 3) (n := 4) (m := 4) rfl
  rw [e3, pu_bs]
  refine ⟨g3, rfl, fun c hc => by rw [f3 c (by omega), f2 c (by omega), f1 c (by omega), hs_cell (by omega)], by rw [f3 P (by omega), f2 P (by omega), f1 P (by omega), hs_at], fun j hj => ?_, fun j hj => ?_, fun j hj => ?_⟩
  · rw [f3 (P + 1) (by omega), f2 (P + 1) (by omega), v1 j hj, hs_cell (by omega)]
  · rw [f3 (P + 2) (by omega), v2 j hj, f1 (Q + 2) (by omega), hs_cell (by omega)]
  · rw [v3 j hj, f2 (Q + 3) (by omega), f1 (Q + 3) (by omega), hs_cell (by omega)]
theorem c_feCopy {P Q : Nat} (hd : P + 8 < Q ∨ Q + 8 < P) : ∃ h', M_Feasts_copyFrom h P Q = some h' ∧ (∀ c, (c < P ∨ P + 8 < c) → h' c = h c) ∧ h' P 0 = h Q 0 ∧ (∀ j : Nat, j < 12 → h' (P + 1) j = h (Q + 1) j) ∧ (∀ j : Nat, j < 12 → h' (P + 2) j = h (Q + 2) j) ∧ (∀ j : Nat, j < 12 → h' (P + 3) j = h (Q + 3) j) ∧ (∀ j : Nat, j < 12 → h' (P + 4) j = h (Q + 4) j) ∧ (∀ j : Nat, j < 12 → h' (P + 5) j = h (Q + 5) j) ∧ (∀ j : Nat, j < 12 → h' (P + 6) j = h (Q + 6) j) ∧ (∀ j : Nat, j < 12 → h' (P + 7) j = h (Q + 7) j) ∧ (∀ j : Nat, j < 12 → h' (P + 8) j = h (Q + 8) j) := by
  unfold M_Feasts_copyFrom
  rw [pu_lt]
  obtain ⟨g1, e1, f1, v1⟩ := cp_to (h := hs h P 0 (h Q 0)) (c := Q + 1) (c' := P + 1) (n := 12) (m := 12) rfl
  rw [e1, pu_bs]
  obtain ⟨g2, e2, f2, v2⟩ := cp_to (h := g1) (c := Q + 2) (c' := P + 2) (n := 12) (m := 12) rfl
  rw [e2, pu_bs]
  obtain ⟨g3, e3, f3, v3⟩ := cp_to (h := g2) (c := Q + 3) (c' := P + 3) (n := 12) (m := 12) rfl
  rw [e3, pu_bs]
  obtain ⟨g4, e4, f4, v4⟩ := cp_to (h := g3) (c := Q + 4) (c' := P + 4) (n := 12) (m := 12) rfl
  rw [e4, pu_bs]
  obtain ⟨g5, e5, f5, v5⟩ := cp_to (h := g4) (c := Q + 5) (c' := P + 5) (n := 12) (m := 12) rfl
  rw [e5, pu_bs]
  obtain ⟨g6, e6, f6, v6⟩ := cp_to (h := g5) (c := Q + 6) (c' := P + 6) (n := 12) (m := 12) rfl
  rw [e6, pu_bs]
  obtain ⟨g7, e7, f7, v7⟩ := cp_to (h := g6) (c := Q + 7) (c' := P + 7) (n := 12) (m := 12) rfl
  rw [e7, pu_bs]
  obtain ⟨g8, e8, f8, v8⟩ := cp_to (h := g7) (c := Q + 8) (c' := P + 8) (n := 12) (m := 12) rfl
  rw [e8, pu_bs]
  refine ⟨g8, rfl, fun c hc => by rw [f8 c (by omega), f7 c (by omega), f6 c (by omega), f5 c (by omega), f4 c (by omega), f3 c (by omega), f2 c (by omega), f1 c (by omega), hs_cell (by omega)], by rw [f8 P (by omega), f7 P (by omega), f6 P (by omega), f5 P (by omega), f4 P (by omega), f3 P (by omega), f2 P (by omega), f1 P (by omega), hs_at], fun j hj => ?_, fun j hj => ?_, fun j hj => ?_, fun j hj => ?_, fun j hj => ?_, fun j hj => ?_, fun j hj => ?_, fun j hj => ?_⟩
  · rw [f8 (P + 1) (by omega), f7 (P + 1) (by omega), f6 (P + 1) (by omega), f5 (P + 1) (by omega), f4 (P + 1) (by omega), f3 (P + 1) (by omega), f2 (P + 1) (by omega), v1 j hj, hs_cell (by omega)]
  · rw [f8 (P + 2) (by omega), f7 (P + 2) (by omega), f6 (P + 2) (by omega), f5 (P + 2) (by omega), f4 (P + 2) (by omega), f3 (P + 2) (by omega), v2 j hj, f1 (Q + 2) (by omega), hs_cell (by omega)]
  · rw [f8 (P + 3) (by omega), f7 (P + 3) (by omega), f6 (P + 3) (by omega), f5 (P + 3) (by omega), f4 (P + 3) (by omega), v3 j hj, f2 (Q + 3) (by omega), f1 (Q + 3) (by omega), hs_cell (by omega)]
  · rw [f8 (P + 4) (by omega), f7 (P + 4) (by omega), f6 (P + 4) (by omega), f5 (P + 4) (by omega), v4 j hj, f3 (Q + 4) (by omega), f2 (Q + 4) (by omega), f1 (Q + 4) (by omega), hs_cell (by omega)]
  · rw [f8 (P + 5) (by omega), f7 (P + 5) (by omega), f6 (P + 5) (by omega), v5 j hj, f4 (Q + 5) (by omega), f3 (Q + 5) (by omega), f2 (Q + 5) (by omega), f1 (Q + 5) (by omega), hs_cell (by omega)]
  · rw [f8 (P + 6) (by omega), f7 (P + 6) (by omega), v6 j hj, f5 (Q + 6) (by omega), f4 (Q + 6) (by omega), f3 (Q + 6) (by omega), f2 (Q + 6) (by omega), f1 (Q + 6) (by omega), hs_cell (by omega)]
  · rw [f8 (P + 7) (by omega), v7 j hj, f6 (Q + 7) (by omega), f5 (Q + 7) (by omega), f4 (Q + 7) (by omega), f3 (Q + 7) (by omega), f2 (Q + 7) (by omega), f1 (Q + 7) (by omega), hs_cell (by omega)]
  · rw [v8 j hj, f7 (Q + 8) (by omega), f6 (Q + 8) (by omega), f5 (Q + 8) (by omega), f4 (Q + 8) (by omega), f3 (Q + 8) (by omega), f2 (Q + 8) (by omega), f1 (Q + 8) (by omega), hs_cell (by omega)]
theorem bds (bok : OkB b ∨ NoB b) : b 1 ≤ 8 ∧ b 20 ≤ 4 ∧ b 33 ≤ 4 ∧ b 42 ≤ 12 := by
  rcases bok with o | o
  · have h1 := o.mon
    have h2 := o.nse
    have h3 := o.ncl
    have h4 := o.many
    omega
  · rw [o.z 1 (by omega) (by omega), o.z 20 (by omega) (by omega), o.z 33 (by omega) (by omega), o.z 42 (by omega) (by omega)]; omega
theorem ckB1 {α : Type} {v : Int} {k : Option α} (hv : v = 0 ∨ v = 1) : ckB v k = k := by
  rcases hv with e | e
  · subst e; exact pu_c0 k
  · subst e; exact pu_c1 k
theorem c_copyFrom {B O : Nat} (hd : B + 18 < O ∨ O + 18 < B) (bok : OkB b ∨ NoB b) (cb : CB b h O) : ∃ h', M_Book_copyFrom h B O = some h' ∧ (∀ c, (c < B ∨ B + 18 < c) → h' c = h c) ∧ CB b h' B := by
  have bd := bds bok
  have hOB : O ≠ B := by omega
  have h0 : h O 0 = 0 ∨ h O 0 = 1 := by rw [cb.told]; split <;> omega
  unfold M_Book_copyFrom
  rw [ckB1 h0]
  simp only [pu_lt, hs_cell hOB]
  generalize hG : hs (hs (hs (hs (hs (hs (hs (hs (hs (hs (hs (hs (hs (hs h B 0 (h O 0)) B 1 (h O 1)) B 2 (h O 2)) B 3 (h O 3)) B 4 (h O 4)) B 5 (h O 5)) B 6 (h O 6)) B 7 (h O 7)) B 8 (h O 8)) B 9 (h O 9)) B 10 (h O 10)) B 11 (h O 11)) B 12 (h O 12)) B 13 (h O 13) = G
  have Gc : ∀ c, c ≠ B → G c = h c := fun c hc => by subst hG; rw [hs_cell hc, hs_cell hc, hs_cell hc, hs_cell hc, hs_cell hc, hs_cell hc, hs_cell hc, hs_cell hc, hs_cell hc, hs_cell hc, hs_cell hc, hs_cell hc, hs_cell hc, hs_cell hc]
  have G0 : G B 0 = h O 0 := by subst hG; rw [hs_slot (by omega), hs_slot (by omega), hs_slot (by omega), hs_slot (by omega), hs_slot (by omega), hs_slot (by omega), hs_slot (by omega), hs_slot (by omega), hs_slot (by omega), hs_slot (by omega), hs_slot (by omega), hs_slot (by omega), hs_slot (by omega), hs_at]
  have G1 : G B 1 = h O 1 := by subst hG; rw [hs_slot (by omega), hs_slot (by omega), hs_slot (by omega), hs_slot (by omega), hs_slot (by omega), hs_slot (by omega), hs_slot (by omega), hs_slot (by omega), hs_slot (by omega), hs_slot (by omega), hs_slot (by omega), hs_slot (by omega), hs_at]
  have G2 : G B 2 = h O 2 := by subst hG; rw [hs_slot (by omega), hs_slot (by omega), hs_slot (by omega), hs_slot (by omega), hs_slot (by omega), hs_slot (by omega), hs_slot (by omega), hs_slot (by omega), hs_slot (by omega), hs_slot (by omega), hs_slot (by omega), hs_at]
  have G3 : G B 3 = h O 3 := by subst hG; rw [hs_slot (by omega), hs_slot (by omega), hs_slot (by omega), hs_slot (by omega), hs_slot (by omega), hs_slot (by omega), hs_slot (by omega), hs_slot (by omega), hs_slot (by omega), hs_slot (by omega), hs_at]
  have G4 : G B 4 = h O 4 := by subst hG; rw [hs_slot (by omega), hs_slot (by omega), hs_slot (by omega), hs_slot (by omega), hs_slot (by omega), hs_slot (by omega), hs_slot (by omega), hs_slot (by omega), hs_slot (by omega), hs_at]
  have G5 : G B 5 = h O 5 := by subst hG; rw [hs_slot (by omega), hs_slot (by omega), hs_slot (by omega), hs_slot (by omega), hs_slot (by omega), hs_slot (by omega), hs_slot (by omega), hs_slot (by omega), hs_at]
  have G6 : G B 6 = h O 6 := by subst hG; rw [hs_slot (by omega), hs_slot (by omega), hs_slot (by omega), hs_slot (by omega), hs_slot (by omega), hs_slot (by omega), hs_slot (by omega), hs_at]
  have G7 : G B 7 = h O 7 := by subst hG; rw [hs_slot (by omega), hs_slot (by omega), hs_slot (by omega), hs_slot (by omega), hs_slot (by omega), hs_slot (by omega), hs_at]
  have G8 : G B 8 = h O 8 := by subst hG; rw [hs_slot (by omega), hs_slot (by omega), hs_slot (by omega), hs_slot (by omega), hs_slot (by omega), hs_at]
  have G9 : G B 9 = h O 9 := by subst hG; rw [hs_slot (by omega), hs_slot (by omega), hs_slot (by omega), hs_slot (by omega), hs_at]
  have G10 : G B 10 = h O 10 := by subst hG; rw [hs_slot (by omega), hs_slot (by omega), hs_slot (by omega), hs_at]
  have G11 : G B 11 = h O 11 := by subst hG; rw [hs_slot (by omega), hs_slot (by omega), hs_at]
  have G12 : G B 12 = h O 12 := by subst hG; rw [hs_slot (by omega), hs_at]
  have G13 : G B 13 = h O 13 := by subst hG; rw [hs_at]
  obtain ⟨g1, e1, f1, v1⟩ := cp_to (h := G) (c := O + 1) (c' := B + 1) (n := 8) (m := 8) rfl
  rw [e1, pu_bs]
  obtain ⟨g2, e2, f2, s0, s1, s2, s3⟩ := c_spCopy (h := g1) (P := B + 2) (Q := O + 2) (by omega)
  rw [e2, pu_bs]
  obtain ⟨g3, e3, f3, t0, t1, t2, t3⟩ := c_spCopy (h := g2) (P := B + 6) (Q := O + 6) (by omega)
  rw [e3, pu_bs]
  obtain ⟨g4, e4, f4, u0, u1, u2, u3, u4, u5, u6, u7, u8⟩ := c_feCopy (h := g3) (P := B + 10) (Q := O + 10) (by omega)
  rw [e4, pu_bs]
  have hO : ∀ u, u ≤ 18 → g3 (O + u) = h (O + u) := fun u hu => by rw [f3 (O + u) (by omega), f2 (O + u) (by omega), f1 (O + u) (by omega), Gc (O + u) (by omega)]
  have hO2 : ∀ u, u ≤ 18 → g2 (O + u) = h (O + u) := fun u hu => by rw [f2 (O + u) (by omega), f1 (O + u) (by omega), Gc (O + u) (by omega)]
  have hO1 : ∀ u, u ≤ 18 → g1 (O + u) = h (O + u) := fun u hu => by rw [f1 (O + u) (by omega), Gc (O + u) (by omega)]
  have hB : ∀ j, g4 B j = G B j := fun j => by rw [f4 B (by omega), f3 B (by omega), f2 B (by omega), f1 B (by omega)]
  refine ⟨g4, rfl, fun c hc => by rw [f4 c (by omega), f3 c (by omega), f2 c (by omega), f1 c (by omega), Gc c (by omega)], CB.mk ?_ ?_ ?_ ?_ ?_ ?_ ?_ ?_ ?_ ?_ ?_ ?_ ?_ ?_ ?_ ?_ ?_ ?_ ?_ ?_ ?_ ?_ ?_⟩
  · rw [hB, G0]; exact cb.told
  · rw [hB, G1]; exact cb.week
  · rw [hB, G2]; exact cb.mon
  · rw [hB, G3]; exact cb.yday
  · rw [hB, G4]; exact cb.leap
  · rw [hB, G5]; exact cb.lmon
  · rw [hB, G6]; exact cb.cyc
  · rw [hB, G7]; exact cb.fst
  · rw [hB, G8]; exact cb.stp
  · rw [hB, G9]; exact cb.spn
  · rw [hB, G10]; exact cb.rch
  · rw [hB, G11]; exact cb.rst
  · rw [hB, G12]; exact cb.lft
  · rw [hB, G13]; exact cb.fas
  · intro i hi; rw [f4 (B + 1) (by omega), f3 (B + 1) (by omega), f2 (B + 1) (by omega), v1 i (by omega), Gc (O + 1) (by omega)]; exact cb.days i hi
  · rw [f4 (B + 2) (by omega), f3 (B + 2) (by omega), s0, hO1 2 (by omega)]; exact cb.nse
  · intro k hk
    have q1 : g4 (B + 3) k = h (O + 3) k := by rw [f4 (B + 3) (by omega), f3 (B + 3) (by omega)]; exact (s1 k (by omega)).trans (congrFun (hO1 3 (by omega)) k)
    have q2 : g4 (B + 4) k = h (O + 4) k := by rw [f4 (B + 4) (by omega), f3 (B + 4) (by omega)]; exact (s2 k (by omega)).trans (congrFun (hO1 4 (by omega)) k)
    have q3 : g4 (B + 5) k = h (O + 5) k := by rw [f4 (B + 5) (by omega), f3 (B + 5) (by omega)]; exact (s3 k (by omega)).trans (congrFun (hO1 5 (by omega)) k)
    rw [q1, q2, q3]; exact cb.sea k hk
  · rw [f4 (B + 6) (by omega), t0, hO2 6 (by omega)]; exact cb.ncl
  · intro k hk
    have q1 : g4 (B + 7) k = h (O + 7) k := by rw [f4 (B + 7) (by omega)]; exact (t1 k (by omega)).trans (congrFun (hO2 7 (by omega)) k)
    have q2 : g4 (B + 8) k = h (O + 8) k := by rw [f4 (B + 8) (by omega)]; exact (t2 k (by omega)).trans (congrFun (hO2 8 (by omega)) k)
    rw [q1, q2]; exact cb.clo k hk
  · rw [u0, hO 10 (by omega)]; exact cb.many
  · intro f hf
    have q1 : g4 (B + 11) f = h (O + 11) f := (u1 f (by omega)).trans (congrFun (hO 11 (by omega)) f)
    have q2 : g4 (B + 12) f = h (O + 12) f := (u2 f (by omega)).trans (congrFun (hO 12 (by omega)) f)
    have q3 : g4 (B + 13) f = h (O + 13) f := (u3 f (by omega)).trans (congrFun (hO 13 (by omega)) f)
    have q4 : g4 (B + 14) f = h (O + 14) f := (u4 f (by omega)).trans (congrFun (hO 14 (by omega)) f)
    have q5 : g4 (B + 15) f = h (O + 15) f := (u5 f (by omega)).trans (congrFun (hO 15 (by omega)) f)
    have q6 : g4 (B + 16) f = h (O + 16) f := (u6 f (by omega)).trans (congrFun (hO 16 (by omega)) f)
    rw [q1, q2, q3, q4, q5, q6]; exact cb.fea f hf
  · intro f hf
    have q : g4 (B + 17) f = h (O + 17) f := (u7 f (by omega)).trans (congrFun (hO 17 (by omega)) f)
    rw [q]; exact cb.clm f hf
  · intro f hf
    have ha := above_lt hf
    have q : g4 (B + 18) (above b f).toNat = h (O + 18) (above b f).toNat := (u8 _ (by omega)).trans (congrFun (hO 18 (by omega)) _)
    rw [q]; exact cb.rnk f hf
theorem c_takeOver {B : Nat} (hN : 2000 < N) (hd : B + 18 < 23 ∨ 41 < B) (bok : OkB b ∨ NoB b) (cb : CB b h B) : ∃ h', M_FB_takeOver N h B = some h' ∧ (∀ c, (c < 23 ∨ 41 < c) → c ≠ 61 → c ≠ 66 → c ≠ 73 → c ≠ 74 → c ≠ 75 → h' c = h c) ∧ CB b h' 23 ∧ h' 61 0 = 0 ∧ (OkB b → PlanOk b h' ∧ RoundOk b h') := by
  obtain ⟨g, e1, e2, e3⟩ := c_copyFrom (h := h) (B := 23) (O := B) (by omega) bok cb
  have eF : ∀ x : Hp, M_YearPlan_forget x = some (hs (hs x 66 2 (-1)) 66 3 (-1)) := fun x => by unfold M_YearPlan_forget; simp only [pu_lt, pu_bs]
  generalize hG : hs (hs (hs g 61 0 0) 66 2 (-1)) 66 3 (-1) = G
  have Gc : ∀ c, c ≠ 61 → c ≠ 66 → G c = g c := fun c c1 c2 => by subst hG; rw [hs_cell c2, hs_cell c2, hs_cell c1]
  have G61 : G 61 0 = 0 := by subst hG; rw [hs_cell (by omega), hs_cell (by omega), hs_at]
  have G2 : G 66 2 = -1 := by subst hG; rw [hs_slot (by omega), hs_at]
  have G3 : G 66 3 = -1 := by subst hG; rw [hs_at]
  have cG : CB b G 23 := CB_frame e3 (fun c c1 c2 => Gc c (by omega) (by omega))
  unfold M_FB_takeOver
  rw [e1, pu_bs, pu_lt, eF, pu_bs, hG]
  have beg : ∃ h', M_Round_begin N G = some h' ∧ (∀ c, c ≠ 73 → c ≠ 74 → c ≠ 75 → h' c = G c) ∧ (OkB b → RoundOk b h') := by
    rcases bok with o | o
    · obtain ⟨x, x1, x2, x3⟩ := c_begin (h := G) (N := N) hN o cG
      exact ⟨x, x1, x2, fun _ => x3⟩
    · have z := o.z 0 (by omega) (by omega)
      obtain ⟨x, x1, x2⟩ := c_begin_no (h := G) (N := N) (by omega) (by rw [cG.told, if_neg (by omega)])
      exact ⟨x, x1, x2, fun ok => by have := ok.week; omega⟩
  obtain ⟨x, x1, x2, x3⟩ := beg
  rw [x1, pu_bs]
  refine ⟨x, rfl, fun c c1 c2 c3 c4 c5 c6 => by rw [x2 c c4 c5 c6, Gc c c2 c3, e2 c (by omega)], CB_frame cG (fun c c1 c2 => x2 c (by omega) (by omega) (by omega)), by rw [x2 61 (by omega) (by omega) (by omega)]; exact G61, fun ok => ⟨Or.inl ⟨?_, ?_⟩, x3 ok⟩⟩
  · rw [x2 66 (by omega) (by omega) (by omega)]; exact G2
  · rw [x2 66 (by omega) (by omega) (by omega)]; exact G3
end Cp
