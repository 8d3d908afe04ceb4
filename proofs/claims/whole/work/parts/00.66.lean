section Ei
variable {h : Hp} {N L : Nat} {xs : Nat → Int32} {v4 : Int}
theorem RoundChg {b b' : Nat → Int} {g hM : Hp} (ok : OkB b) (hcal : ∀ k, k < 43 → k ≠ 16 → b' k = b k) (r : RoundOk b g) (e6 : hM 73 6 = 0) (e7 : hM 73 7 = 0) (ej : ∀ j, j ≠ 6 → j ≠ 7 → hM 73 j = g 73 j) (e74 : hM 74 = g 74) (e75 : hM 75 = g 75) : RoundOk b' hM :=
  RoundOk.mk (RB_cg ok hcal r.rb (ej 3 (by omega) (by omega)) e74 e75) (Or.inl e6) (Or.inl e7)
theorem Inv_edit {g hC hM : Hp} {b' : Nat → Int} (i : Inv h) (ok : OkB (h 84)) (ok' : OkB b') (h42 : b' 42 = h 84 42) (z' : ∀ k, 127 ≤ k → b' k = 0) (hcal : ∀ k, k < 43 → k ≠ 16 → b' k = h 84 k)
    {kd f m v : Int} (hk : 0 ≤ kd ∧ kd ≤ 3) (hfe : kd ≤ 2 → 0 ≤ f ∧ f < h 84 42) (hv : -1000 ≤ v ∧ v ≤ 1000) (hm : -1 ≤ m ∧ m ≤ 100) (hap : apU b' kd f m v = h 84)
    (g1 : ∀ c, (c < 61 ∨ 65 < c) → g c = h c) (g2 : g 61 0 = (nu (h 61 0) : Int) + 1)
    (g3 : ∀ j : Nat, j ≤ nu (h 61 0) → g 62 j = (if j = nu (h 61 0) then kd else h 62 (j + dr (h 61 0))) ∧ g 63 j = (if j = nu (h 61 0) then f else h 63 (j + dr (h 61 0))) ∧ g 64 j = (if j = nu (h 61 0) then m else h 64 (j + dr (h 61 0))) ∧ g 65 j = (if j = nu (h 61 0) then v else h 65 (j + dr (h 61 0))))
    (ch : Chg (h 84) b' g hC) (e : ∀ c, c ≠ 83 → c ≠ 84 → c ≠ 85 → c ≠ 96 → hM c = hC c) (e84 : hM 84 = b') (e3 : hM 83 3 = (nu (h 83 3) : Int) + 1) (ej : ∀ j, j ≠ 0 → j ≠ 3 → hM 83 j = h 83 j)
    (eu : ∀ j : Nat, j < nu (h 83 3) → rowU hM j = rowU h (j + dr (h 83 3))) (en : ∀ k, k < 127 → rowU hM (nu (h 83 3)) k = h 84 k) : Inv hM := by
  have sz := i.pa.sz
  have nb := nu_bd i.pa.lo i.pa.hi
  rw [sz] at g2 g3
  have q : ∀ c, (c < 23 ∨ 41 < c) → (c < 61 ∨ 66 < c) → c ≠ 73 → c ≠ 83 → c ≠ 84 → c ≠ 85 → c ≠ 96 → hM c = h c := fun c c1 c2 c3 c4 c5 c6 c7 => by rw [e c c4 c5 c6 c7, ch.fr c c1 (by omega) c3, g1 c (by omega)]
  have hnew : rowU hM (nu (h 83 3)) = h 84 := by
    funext k
    by_cases c : k < 127
    · exact en k c
    · rw [i.z84 k (by omega)]; unfold rowU; rw [if_neg c]
  have hg : ∀ c, c = 61 ∨ c = 62 ∨ c = 63 ∨ c = 64 ∨ c = 65 → hM c = g c := fun c hc => by rw [e c (by omega) (by omega) (by omega) (by omega), ch.fr c (by omega) (by omega) (by omega)]
  refine Inv.mk ?_ ?_ ?_ ?_ ?_ ?_ ?_ ?_ ?_
  · rw [e84]; exact Or.inl ok'
  · rw [e84]; exact z'
  · rw [e84]; exact CB_frame ch.cb (fun c c1 c2 => e c (by omega) (by omega) (by omega) (by omega))
  · intro _; exact Or.inl ⟨by rw [e 66 (by omega) (by omega) (by omega) (by omega)]; exact ch.p2, by rw [e 66 (by omega) (by omega) (by omega) (by omega)]; exact ch.p3⟩
  · intro _
    rw [e84]
    refine RoundChg ok hcal (i.ro ok) ?_ ?_ ?_ ?_ ?_
    · rw [e 73 (by omega) (by omega) (by omega) (by omega)]; exact ch.r6
    · rw [e 73 (by omega) (by omega) (by omega) (by omega)]; exact ch.r7
    · intro j j1 j2; rw [e 73 (by omega) (by omega) (by omega) (by omega), ch.rj j j1 j2, g1 73 (by omega)]
    · exact q 74 (by omega) (by omega) (by omega) (by omega) (by omega) (by omega) (by omega)
    · exact q 75 (by omega) (by omega) (by omega) (by omega) (by omega) (by omega) (by omega)
  · unfold Img
    rw [q 0 (by omega) (by omega) (by omega) (by omega) (by omega) (by omega) (by omega), ej 5 (by omega) (by omega), q 86 (by omega) (by omega) (by omega) (by omega) (by omega) (by omega) (by omega)]
    rcases i.img with x | ⟨x1, x2, x3, x4, x5⟩
    · exact Or.inl x
    · exact Or.inr ⟨x1, x2, x3, CB_frame x4 (fun c c1 c2 => q c (by omega) (by omega) (by omega) (by omega) (by omega) (by omega) (by omega)), x5⟩
  · refine Tp.mk ?_ ?_ ?_ ?_
    · rw [q 1 (by omega) (by omega) (by omega) (by omega) (by omega) (by omega) (by omega), ej 7 (by omega) (by omega)]; exact i.tp.sz
    · rw [ej 7 (by omega) (by omega)]; exact i.tp.lo
    · rw [ej 7 (by omega) (by omega)]; exact i.tp.hi
    · rw [ej 7 (by omega) (by omega), q 87 (by omega) (by omega) (by omega) (by omega) (by omega) (by omega) (by omega), q 2 (by omega) (by omega) (by omega) (by omega) (by omega) (by omega) (by omega)]; exact i.tp.by_
  · rw [q 0 (by omega) (by omega) (by omega) (by omega) (by omega) (by omega) (by omega), ej 10 (by omega) (by omega)]; exact i.fa
  · refine Pa.mk ?_ ?_ ?_ ?_ ?_
    · rw [hg 61 (by omega), g2, e3]
    · rw [e3]; omega
    · rw [e3]; omega
    · intro _; rw [e84]; exact ok'
    · rw [e3]; intro j hj
      by_cases c : j = nu (h 83 3)
      · subst c
        have r := g3 (nu (h 83 3)) (by omega)
        rw [if_pos rfl, if_pos rfl, if_pos rfl, if_pos rfl] at r
        refine PaJ.mk ?_ ?_ ?_ ?_ ?_ ?_ ?_
        · rw [hnew]; exact ok
        · rw [hnew, e84, h42]
        · rw [hg 62 (by omega), r.1]; exact hk
        · rw [hg 62 (by omega), hg 63 (by omega), r.1, r.2.1, e84, h42]; exact hfe
        · rw [hg 65 (by omega), r.2.2.2]; exact hv
        · rw [hg 64 (by omega), r.2.2.1]; exact hm
        · rw [hnew, hg 62 (by omega), hg 63 (by omega), hg 64 (by omega), hg 65 (by omega), r.1, r.2.1, r.2.2.1, r.2.2.2]
          have : rowAt hM (nu (h 83 3) + 1) = b' := by unfold rowAt; rw [if_pos (by rw [e3]; omega)]; exact e84
          rw [this]; exact hap.symm
      · have r := g3 j (by omega)
        rw [if_neg c, if_neg c, if_neg c, if_neg c] at r
        have p := i.pa.js (j + dr (h 83 3)) (by omega)
        have hat : rowAt hM (j + 1) = rowAt h (j + dr (h 83 3) + 1) := by
          unfold rowAt
          rw [if_neg (by rw [e3]; omega)]
          by_cases c2 : j + 1 = nu (h 83 3)
          · rw [c2, hnew, if_pos (by omega)]
          · rw [if_neg (by omega), eu (j + 1) (by omega), show j + 1 + dr (h 83 3) = j + dr (h 83 3) + 1 by omega]
        refine PaJ.mk ?_ ?_ ?_ ?_ ?_ ?_ ?_
        · rw [eu j (by omega)]; exact p.ok
        · rw [eu j (by omega), e84, h42]; exact p.mn
        · rw [hg 62 (by omega), r.1]; exact p.kd
        · rw [hg 62 (by omega), hg 63 (by omega), r.1, r.2.1, e84, h42]; exact p.fe
        · rw [hg 65 (by omega), r.2.2.2]; exact p.vl
        · rw [hg 64 (by omega), r.2.2.1]; exact p.mo
        · rw [eu j (by omega), hat, hg 62 (by omega), hg 63 (by omega), hg 64 (by omega), hg 65 (by omega), r.1, r.2.1, r.2.2.1, r.2.2.2]; exact p.eq
theorem fin_edit {x : Option XO} {cs : List Nat} {v : Int} {hC : Hp} (hx : x = some (0, v, hC)) {R : Hp → Option (Int × Hp)} {hM : Hp} (hR : R (hs hC 96 0 (nrm v)) = some (v, hM)) (h0 : hM 83 0 = 0) (h96 : hM 96 0 = nrm v) (hi : Inv hM) (k : Hp → Option Int) :
    ∃ h', Inv h' ∧ ((xcat x cs nrm).bind (fun q => (R q.2).bind (fun q' => (M_Md_thrown q'.2).bind (fun y => if eqb y q.1 then if eqb q.1 0 then if eqL (q'.2 96 0) (nrm q'.1) then k q'.2 else some 0 else k q'.2 else some 0)))) = k h' := by
  subst hx
  refine ⟨hM, hi, ?_⟩
  unfold xcat M_Md_thrown
  simp only [pu_bs, if_true]
  rw [hR]
  simp only [pu_bs]
  rw [h0, h96, eqL_self]
  simp (disch := omega) only [leb_iff, ltb_iff, eqb_iff, pu_rmP, pu_dvP, pu_bs, pu_b0, pu_b1, pu_c0, pu_c1, pu_lt, pu_rdN, pu_wrN, hs_at, hs_cell, hs_slot, if_true, if_false, true_and, and_true, pu_rd, pu_wr, Int.reduceToNat, Int.toNat_natCast, decide_eq_true_eq, Int.add_zero, Bool.false_eq_true, if_pos, if_neg]
theorem pu_self {b : Nat → Int} {k : Nat} {v w : Int} (hw : w = b k) : pu_up (pu_up b k v) k w = b := by
  rw [pu_up_up, hw]; funext j; unfold pu_up; split
  · rename_i z; rw [z]
  · rfl
theorem q_isFeastW (hm : 0 ≤ h 84 42 ∧ h 84 42 ≤ 12) {f : Int} (hf : rg f) : M_Md_isFeast h f = some (if 0 ≤ f ∧ f < h 84 42 then 1 else 0) := by
  unfold M_Md_isFeast rg at *
  by_cases c1 : 0 ≤ f ∧ f < h 84 42
  · simp (disch := omega) only [leb_iff, ltb_iff, eqb_iff, pu_rmP, pu_dvP, pu_bs, pu_b0, pu_b1, pu_c0, pu_c1, pu_lt, pu_rdN, pu_wrN, hs_at, hs_cell, hs_slot, if_true, if_false, true_and, and_true, pu_rd, pu_wr, Int.reduceToNat, Int.toNat_natCast, decide_eq_true_eq, Int.add_zero, Bool.false_eq_true, if_pos, if_neg, m_isIn]
  · simp (disch := omega) only [leb_iff, ltb_iff, eqb_iff, pu_rmP, pu_dvP, pu_bs, pu_b0, pu_b1, pu_c0, pu_c1, pu_lt, pu_rdN, pu_wrN, hs_at, hs_cell, hs_slot, if_true, if_false, true_and, and_true, pu_rd, pu_wr, Int.reduceToNat, Int.toNat_natCast, decide_eq_true_eq, Int.add_zero, Bool.false_eq_true, if_pos, if_neg, m_isIn]
theorem ed_fin {g hC : Hp} {b' : Nat → Int} (hN : 2000 < N) (i : Inv h) (ok : OkB (h 84)) (ok' : OkB b') (h42 : b' 42 = h 84 42) (z' : ∀ k, 127 ≤ k → b' k = 0) (hcal : ∀ k, k < 43 → k ≠ 16 → b' k = h 84 k)
    {kd f m v : Int} (hk : 0 ≤ kd ∧ kd ≤ 3) (hfe : kd ≤ 2 → 0 ≤ f ∧ f < h 84 42) (hv : -1000 ≤ v ∧ v ≤ 1000) (hm : -1 ≤ m ∧ m ≤ 100) (hap : apU b' kd f m v = h 84)
    (g1 : ∀ c, (c < 61 ∨ 65 < c) → g c = h c) (g2 : g 61 0 = (nu (h 61 0) : Int) + 1)
    (g3 : ∀ j : Nat, j ≤ nu (h 61 0) → g 62 j = (if j = nu (h 61 0) then kd else h 62 (j + dr (h 61 0))) ∧ g 63 j = (if j = nu (h 61 0) then f else h 63 (j + dr (h 61 0))) ∧ g 64 j = (if j = nu (h 61 0) then m else h 64 (j + dr (h 61 0))) ∧ g 65 j = (if j = nu (h 61 0) then v else h 65 (j + dr (h 61 0))))
    (ch : Chg (h 84) b' g hC) {x : Option XO} {cs : List Nat} {ans : Int} (hx : x = some (0, ans, hC)) {R : Hp → Option (Int × Hp)}
    (hR : ∀ M, M_Md_remembers N (hs (hs hC 96 0 (nrm ans)) 83 0 0) = some M → M 84 = h 84 → ∃ hM, R (hs hC 96 0 (nrm ans)) = some (ans, hM) ∧ hM 84 = b' ∧ ∀ c, c ≠ 84 → hM c = M c) (k : Hp → Option Int) :
    ∃ h', Inv h' ∧ ((xcat x cs nrm).bind (fun q => (R q.2).bind (fun q' => (M_Md_thrown q'.2).bind (fun y => if eqb y q.1 then if eqb q.1 0 then if eqL (q'.2 96 0) (nrm q'.1) then k q'.2 else some 0 else k q'.2 else some 0)))) = k h' := by
  have h83 : hC 83 = h 83 := by rw [ch.fr 83 (by omega) (by omega) (by omega), g1 83 (by omega)]
  have h84 : hC 84 = h 84 := by rw [ch.fr 84 (by omega) (by omega) (by omega), g1 84 (by omega)]
  have h85 : hC 85 = h 85 := by rw [ch.fr 85 (by omega) (by omega) (by omega), g1 85 (by omega)]
  generalize hG : hs (hs hC 96 0 (nrm ans)) 83 0 0 = G at hR
  have G83 : ∀ j, j ≠ 0 → G 83 j = h 83 j := fun j hj => by subst hG; rw [hs_slot hj, hs_cell (by omega), h83]
  have Gc : ∀ c, c ≠ 83 → c ≠ 96 → G c = hC c := fun c x1 x2 => by subst hG; rw [hs_cell x1, hs_cell x2]
  have G0 : G 83 0 = 0 := by subst hG; rw [hs_at]
  have G96 : G 96 0 = nrm ans := by subst hG; rw [hs_cell (by omega), hs_at]
  obtain ⟨M, m1, m2, m3, m4, m5, m6⟩ := m_remembers (h := G) (N := N) hN (by rw [G83 3 (by omega)]; exact i.pa.lo) (by rw [G83 3 (by omega)]; exact i.pa.hi)
  rw [G83 3 (by omega)] at m4 m5 m6
  have GU : ∀ j, rowU G j = rowU h j := fun j => by unfold rowU; rw [Gc 85 (by omega) (by omega), h85]
  have M84 : M 84 = h 84 := by rw [m2 84 (by omega) (by omega), Gc 84 (by omega) (by omega), h84]
  obtain ⟨hM, r1, r2, r3⟩ := hR M m1 M84
  refine fin_edit hx r1 ?_ ?_ ?_ k
  · rw [r3 83 (by omega), m3 0 (by omega)]; exact G0
  · rw [r3 96 (by omega), m2 96 (by omega) (by omega)]; exact G96
  · have rU : ∀ j, rowU hM j = rowU M j := fun j => by unfold rowU; rw [r3 85 (by omega)]
    refine Inv_edit i ok ok' h42 z' hcal hk hfe hv hm hap g1 g2 g3 ch (fun c x1 x2 x3 x4 => by rw [r3 c x2, m2 c x1 x3, Gc c x1 x4]) r2 (by rw [r3 83 (by omega)]; exact m4) (fun j j0 j3 => by rw [r3 83 (by omega), m3 j j3, G83 j j0]) (fun j hj => by rw [rU, m5 j hj, GU]) (fun k hk => ?_)
    rw [rU, m6 k hk, Gc 84 (by omega) (by omega), h84]
end Ei
