theorem PlanOk_frame {b : Nat → Int} {h h' : Hp} (e : ∀ c, 66 ≤ c → c ≤ 72 → h' c = h c) (p : PlanOk b h) : PlanOk b h' := by
  unfold PlanOk at p ⊢
  rw [e 66 (by omega) (by omega)]
  rcases p with p1 | ⟨z, z0, z1, z2, z3, z4⟩
  · exact Or.inl p1
  · have la : Laid b (lp b z) (psc b z) h' := Laid.mk (by rw [e 66 (by omega) (by omega)]; exact z3.days) (by rw [e 66 (by omega) (by omega)]; exact z3.pasch) (by rw [e 69 (by omega) (by omega), e 70 (by omega) (by omega)]; exact z3.rows)
    refine Or.inr ⟨z, z0, z1, z2, la, ?_⟩
    rcases z4 with z4 | z4
    · exact Or.inl z4
    · exact Or.inr ⟨z4.1, PS.mk la (by rw [e 67 (by omega) (by omega)]; exact z4.2.bs) (by rw [e 68 (by omega) (by omega)]; exact z4.2.of) (by rw [e 71 (by omega) (by omega), e 72 (by omega) (by omega)]; exact z4.2.ro)⟩
theorem PS_frame {b : Nat → Int} {l p : Int} {s : St} {h h' : Hp} (e : ∀ c, 66 ≤ c → c ≤ 72 → h' c = h c) (q : PS b l p s h) : PS b l p s h' :=
  PS.mk (Laid.mk (by rw [e 66 (by omega) (by omega)]; exact q.la.days) (by rw [e 66 (by omega) (by omega)]; exact q.la.pasch) (by rw [e 69 (by omega) (by omega), e 70 (by omega) (by omega)]; exact q.la.rows)) (by rw [e 67 (by omega) (by omega)]; exact q.bs) (by rw [e 68 (by omega) (by omega)]; exact q.of) (by rw [e 71 (by omega) (by omega), e 72 (by omega) (by omega)]; exact q.ro)
theorem Yr_s {b : Nat → Int} (ok : OkB b) {s : Nat} (hpos : 0 < ofn b s) : s < 80 ∧ Yr b (sl s) (spc b s) := by
  obtain ⟨y, y1, y2⟩ := ofn_pos.mp hpos
  have sp := sy_spec ok y
  rw [y2] at sp
  refine ⟨sp.2.1, ?_⟩
  rw [sp.2.2.1, sp.2.2.2]
  exact Yr_of ok (by omega)
def Lst (q : Nat → Prop) (C : Nat) (r : Int) : Prop := (r = -1 ∧ ∀ y, y < C → ¬ q y) ∨ (∃ y : Nat, y < C ∧ r = y ∧ q y ∧ ∀ z, z < y → ¬ q z)
theorem Lst_uniq {q : Nat → Prop} {C : Nat} {r r' : Int} (h : Lst q C r) (h' : Lst q C r') : r = r' := by
  rcases h with ⟨h1, h2⟩ | ⟨y, y1, y2, y3, y4⟩
  · rcases h' with ⟨k1, k2⟩ | ⟨z, z1, z2, z3, z4⟩
    · omega
    · exact absurd z3 (h2 z z1)
  · rcases h' with ⟨k1, k2⟩ | ⟨z, z1, z2, z3, z4⟩
    · exact absurd y3 (k2 y y1)
    · have h5 : ¬ z < y := fun x => y4 z x z3
      have h6 : ¬ y < z := fun x => z4 y x y3
      omega
theorem Lst_congr {q q' : Nat → Prop} {C : Nat} {r : Int} (h : ∀ y, y < C → (q y ↔ q' y)) (hl : Lst q C r) : Lst q' C r := by
  rcases hl with ⟨h1, h2⟩ | ⟨y, y1, y2, y3, y4⟩
  · exact Or.inl ⟨h1, fun y hy x => h2 y hy ((h y hy).mpr x)⟩
  · exact Or.inr ⟨y, y1, y2, (h y y1).mp y3, fun z hz x => y4 z hz ((h z (by omega)).mpr x)⟩
def Mx0 (g : Nat → Int) (C : Nat) (r : Int) : Prop := 0 ≤ r ∧ (∀ y, y < C → g y ≤ r) ∧ (r = 0 ∨ ∃ y, y < C ∧ r = g y)
theorem Mx0_uniq {g : Nat → Int} {C : Nat} {r r' : Int} (h : Mx0 g C r) (h' : Mx0 g C r') : r = r' := by
  obtain ⟨h1, h2, h3⟩ := h
  obtain ⟨k1, k2, k3⟩ := h'
  have a1 : r ≤ r' := by
    rcases h3 with e | ⟨y, y1, y2⟩
    · omega
    · have := k2 y y1; omega
  have a2 : r' ≤ r := by
    rcases k3 with e | ⟨y, y1, y2⟩
    · omega
    · have := h2 y y1; omega
  omega
def Ext (t : Int) (v : Nat → Int) (C : Nat) (r : Int) : Prop := (r = -1 ∧ ∀ y, y < C → v y = -1) ∨ (r ≠ -1 ∧ (∃ y, y < C ∧ r = v y) ∧ ∀ y, y < C → v y ≠ -1 → (if t = 0 then r ≤ v y else v y ≤ r))
theorem Ext_uniq {t : Int} {v : Nat → Int} {C : Nat} {r r' : Int} (h : Ext t v C r) (h' : Ext t v C r') : r = r' := by
  rcases h with ⟨h1, h2⟩ | ⟨h1, ⟨y, y1, y2⟩, h3⟩
  · rcases h' with ⟨k1, k2⟩ | ⟨k1, ⟨z, z1, z2⟩, k3⟩
    · omega
    · have := h2 z z1; omega
  · rcases h' with ⟨k1, k2⟩ | ⟨k1, ⟨z, z1, z2⟩, k3⟩
    · have := k2 y y1; omega
    · have a1 := h3 z z1 (by omega)
      have a2 := k3 y y1 (by omega)
      split at a1
      · rename_i e; rw [if_pos e] at a2; omega
      · rename_i e; rw [if_neg e] at a2; omega
section Rq
variable {b : Nat → Int} {h : Hp} {N : Nat}
theorem c_allMeasured (hN : 1100 < N) (ok : OkB b) (cb : CB b h 23) (pk : PlanOk b h) (ro : RoundOk b h) : ∃ h', M_Round_allMeasured N h = some h' ∧ Fc h h' ∧ PlanOk b h' ∧ RoundOk b h' ∧ RM b h' := by
  unfold M_Round_allMeasured
  rcases ro.rm with h7 | ⟨h7, hrm⟩
  · exact lp_inv (fun n k x => Round_allMeasured_L2 N n k x) (fun k x => (∀ c, (c < 66 ∨ 72 < c) → c ≠ 79 → c ≠ 80 → c ≠ 81 → x c = h c) ∧ PlanOk b x ∧ (∀ s : Nat, s < k → 0 < ofn b s → x 79 s = (rnf (plf b (sl s) (spc b s)) (yd b + sl s).toNat).1 ∧ x 80 s = cnt (plf b (sl s) (spc b s)) (spc b s).toNat ∧ x 81 s = cnt (plf b (sl s) (spc b s)) (yd b + sl s).toNat - cnt (plf b (sl s) (spc b s)) (spc b s).toNat))
      (fun h' => Fc h h' ∧ PlanOk b h' ∧ RoundOk b h' ∧ RM b h') 80
      (fun n k x hk hp => by
        obtain ⟨k1, k2, k3⟩ := hp
        have cbx : CB b x 23 := CB_frame cb (fun c c1 c2 => k1 c (by omega) (by omega) (by omega) (by omega))
        have x74 : x 74 k = ofn b k := by rw [k1 74 (by omega) (by omega) (by omega) (by omega)]; exact ro.rb.oft k hk
        have x73 : x 73 7 = 0 := by rw [k1 73 (by omega) (by omega) (by omega) (by omega)]; exact h7
        have hob := ofn_bd ok k
        by_cases c : 0 < ofn b k
        · obtain ⟨y, y1, y2⟩ := ofn_pos.mp c
          have sp := sy_spec ok y
          have hC := cyN_bd ok
          rw [y2] at sp
          obtain ⟨x1, e1, f1, p1, s1⟩ := c_settle (h := x) hN ok cbx k2 (y := (y : Int)) (by omega) (by omega)
          rw [← sp.1] at e1
          rw [← sp.2.2.1, ← sp.2.2.2] at s1
          have yr := (Yr_s ok c).2
          have hy := yr.bd ok
          have hsr : rsS b k = res b (sl k) (spc b k) := rfl
          have q1 := c_longestPlain (h := x1) (N := N) (by omega) ok yr s1
          have s2 : PS b (sl k) (spc b k) (res b (sl k) (spc b k)) (hs x1 79 k (rnf (plf b (sl k) (spc b k)) (yd b + sl k).toNat).1) := PS_frame (fun c c1 c2 => hs_cell (by omega)) s1
          have q2 := c_plainDays (N := N) (by omega) ok yr s2 (i := 0) (j := (spc b k).toNat) (by omega) (by omega)
          rw [Int.natCast_zero, show (((spc b k).toNat : Nat) : Int) = spc b k by omega, cnt_zero, Int.sub_zero] at q2
          have s3 : PS b (sl k) (spc b k) (res b (sl k) (spc b k)) (hs (hs x1 79 k (rnf (plf b (sl k) (spc b k)) (yd b + sl k).toNat).1) 80 k (cnt (plf b (sl k) (spc b k)) (spc b k).toNat)) := PS_frame (fun c c1 c2 => hs_cell (by omega)) s2
          have q3 := c_plainDays (N := N) (by omega) ok yr s3 (i := (spc b k).toNat) (j := (yd b + sl k).toNat) (by omega) (by omega)
          rw [show (((spc b k).toNat : Nat) : Int) = spc b k by omega, show (((yd b + sl k).toNat : Nat) : Int) = yd b + sl k by omega] at q3
          refine Or.inl ⟨hs (hs (hs x1 79 k (rnf (plf b (sl k) (spc b k)) (yd b + sl k).toNat).1) 80 k (cnt (plf b (sl k) (spc b k)) (spc b k).toNat)) 81 k (cnt (plf b (sl k) (spc b k)) (yd b + sl k).toNat - cnt (plf b (sl k) (spc b k)) (spc b k).toNat), ⟨fun c c1 c2 c3 c4 => by rw [hs_cell c4, hs_cell c3, hs_cell c2, f1 c c1]; exact k1 c c1 c2 c3 c4, PlanOk_frame (fun c c1 c2 => by rw [hs_cell (by omega), hs_cell (by omega), hs_cell (by omega)]) p1, fun s hs hpos => ?_⟩, ?_⟩
          · by_cases e : s = k
            · subst e; simp (disch := omega) only [leb_iff, ltb_iff, eqb_iff, pu_rmP, pu_dvP, pu_bs, pu_b0, pu_b1, pu_c0, pu_c1, pu_lt, pu_rdN, pu_wrN, hs_at, hs_cell, hs_slot, if_true, if_false, true_and, and_true, pu_rd, pu_wr, Int.reduceToNat, Int.toNat_natCast, decide_eq_true_eq, Int.add_zero, Bool.false_eq_true, if_pos, if_neg]
            · have := k3 s (by omega) hpos
              rw [hs_cell (c := 81) (c' := 79) (by omega), hs_cell (c := 80) (c' := 79) (by omega), hs_slot e, hs_cell (c := 81) (c' := 80) (by omega), hs_slot e, hs_cell (c := 79) (c' := 80) (by omega), hs_slot e, hs_cell (by omega), hs_cell (by omega), f1 79 (by omega), f1 80 (by omega), f1 81 (by omega)]
              exact this
          · (try dsimp only)
            rw [Round_allMeasured_L2, x73]
            simp (disch := omega) only [leb_iff, ltb_iff, eqb_iff, pu_rmP, pu_dvP, pu_bs, pu_b0, pu_b1, pu_c0, pu_c1, pu_lt, pu_rdN, pu_wrN, hs_at, hs_cell, hs_slot, if_true, if_false, true_and, and_true, pu_rd, pu_wr, Int.reduceToNat, Int.toNat_natCast, decide_eq_true_eq, Int.add_zero, Bool.false_eq_true, if_pos, if_neg, x74, e1, q1, s1.la.pasch, s1.la.days, q2, q3]
        · refine Or.inl ⟨x, ⟨k1, k2, fun s hs hpos => ?_⟩, ?_⟩
          · by_cases e : s = k
            · subst e; omega
            · exact k3 s (by omega) hpos
          · (try dsimp only)
            rw [Round_allMeasured_L2, x73]
            simp (disch := omega) only [leb_iff, ltb_iff, eqb_iff, pu_rmP, pu_dvP, pu_bs, pu_b0, pu_b1, pu_c0, pu_c1, pu_lt, pu_rdN, pu_wrN, hs_at, hs_cell, hs_slot, if_true, if_false, true_and, and_true, pu_rd, pu_wr, Int.reduceToNat, Int.toNat_natCast, decide_eq_true_eq, Int.add_zero, Bool.false_eq_true, if_pos, if_neg, x74])
      (fun n x hp => by
        obtain ⟨k1, k2, k3⟩ := hp
        have fx : Fc h (hs x 73 7 1) := ⟨fun c hc => by rw [hs_cell (by omega)]; exact k1 c (by omega) (by omega) (by omega) (by omega), fun k c1 c2 => by rw [hs_slot c2, k1 73 (by omega) (by omega) (by omega) (by omega)]⟩
        have hrm : RM b (hs x 73 7 1) := by unfold RM; rw [hs_cell (by omega), hs_cell (by omega), hs_cell (by omega)]; exact k3
        refine ⟨hs x 73 7 1, ?_, fx, PlanOk_frame (fun c c1 c2 => hs_cell (by omega)) k2, RoundOk.mk (fx.rb ro.rb) ?_ (Or.inr ⟨hs_at, hrm⟩), hrm⟩
        · (try dsimp only)
          rw [Round_allMeasured_L2]
          simp (disch := omega) only [leb_iff, ltb_iff, eqb_iff, pu_rmP, pu_dvP, pu_bs, pu_b0, pu_b1, pu_c0, pu_c1, pu_lt, pu_rdN, pu_wrN, hs_at, hs_cell, hs_slot, if_true, if_false, true_and, and_true, pu_rd, pu_wr, Int.reduceToNat, Int.toNat_natCast, decide_eq_true_eq, Int.add_zero, Bool.false_eq_true, if_pos, if_neg]
        · rw [hs_slot (by omega), k1 73 (by omega) (by omega) (by omega) (by omega)]
          unfold RS
          rw [hs_cell (by omega), hs_cell (by omega), hs_cell (by omega), k1 76 (by omega) (by omega) (by omega) (by omega), k1 77 (by omega) (by omega) (by omega) (by omega), k1 78 (by omega) (by omega) (by omega) (by omega)]
          exact ro.rs) N 0 h (by omega) (by omega) ⟨fun _ _ _ _ _ => rfl, pk, fun s hs => by omega⟩
  · have he : hs h 73 7 1 = h := by
      funext c k
      by_cases e : c = 73
      · subst e; rw [hs_up]; unfold pu_up; split
        · rename_i z; rw [z, h7]
        · rfl
      · rw [hs_cell e]
    refine ⟨h, ?_, Fc.refl h, pk, ro, hrm⟩
    obtain ⟨N, rfl⟩ : ∃ m, N = m + 1 := ⟨N - 1, by omega⟩
    rw [Round_allMeasured_L2, h7]
    simp (disch := omega) only [leb_iff, ltb_iff, eqb_iff, pu_rmP, pu_dvP, pu_bs, pu_b0, pu_b1, pu_c0, pu_c1, pu_lt, pu_rdN, pu_wrN, hs_at, hs_cell, hs_slot, if_true, if_false, true_and, and_true, pu_rd, pu_wr, Int.reduceToNat, Int.toNat_natCast, decide_eq_true_eq, Int.add_zero, Bool.false_eq_true, if_pos, if_neg, he]
theorem tn960 (s f : Nat) : ((s : Int) * 12 + (f : Int)).toNat = s * 12 + f := by omega
theorem rsS_fa (ok : OkB b) (s : Nat) {f : Nat} (hf : (f : Int) < b 42) : -1 ≤ (rsS b s).2.1 f ∧ (rsS b s).2.1 f ≤ 5 := (res_fa ok (sl s) (spc b s) hf).2
theorem c_yearsWith (hN : 100 < N) (ok : OkB b) (rb : RB b h) (rs : RS b h) {f : Nat} (hf : (f : Int) < b 42) {t : Int} (ht : -10 ≤ t ∧ t ≤ 10) : M_Round_yearsWith N h f t = some (cnt (fun y => decide ((rsS b (sy b y)).2.1 f = t)) (cyN b)) := by
  have hm := ok.many
  rw [sum_sorts (t := sy b) (fun s => decide ((rsS b s).2.1 f = t)) (cyN b) (S := 80) (fun y _ => (sy_spec ok y).2.1)]
  exact lp_fold (fun n k a => Round_yearsWith_L5 N h f t n a k) (fsum (fun s => if decide ((rsS b s).2.1 f = t) then cnt (fun y => decide (sy b y = s)) (cyN b) else 0)) _ 80
    (fun n k hk => by
      have h1 := rb.oft k hk
      have h2 := ofn_bd ok k
      have h3 := rsS_fa ok k hf
      have h4 : cnt (fun y => decide (sy b y = k)) (cyN b) = ofn b k := rfl
      (try dsimp only)
      rw [Round_yearsWith_L5, fsum, h4]
      by_cases c : 0 < ofn b k
      · have h5 := (rs k hk c f hf).2.2
        by_cases c2 : (rsS b k).2.1 f = t
        · simp (disch := omega) only [leb_iff, ltb_iff, eqb_iff, pu_rmP, pu_dvP, pu_bs, pu_b0, pu_b1, pu_c0, pu_c1, pu_lt, pu_rdN, pu_wrN, hs_at, hs_cell, hs_slot, if_true, if_false, true_and, and_true, pu_rd, pu_wr, Int.reduceToNat, Int.toNat_natCast, decide_eq_true_eq, Int.add_zero, Bool.false_eq_true, if_pos, if_neg, h1, tn960, h5]
        · simp (disch := omega) only [leb_iff, ltb_iff, eqb_iff, pu_rmP, pu_dvP, pu_bs, pu_b0, pu_b1, pu_c0, pu_c1, pu_lt, pu_rdN, pu_wrN, hs_at, hs_cell, hs_slot, if_true, if_false, true_and, and_true, pu_rd, pu_wr, Int.reduceToNat, Int.toNat_natCast, decide_eq_true_eq, Int.add_zero, Bool.false_eq_true, if_pos, if_neg, h1, tn960, h5]
      · have h6 : ofn b k = 0 := by omega
        simp (disch := omega) only [leb_iff, ltb_iff, eqb_iff, pu_rmP, pu_dvP, pu_bs, pu_b0, pu_b1, pu_c0, pu_c1, pu_lt, pu_rdN, pu_wrN, hs_at, hs_cell, hs_slot, if_true, if_false, true_and, and_true, pu_rd, pu_wr, Int.reduceToNat, Int.toNat_natCast, decide_eq_true_eq, Int.add_zero, Bool.false_eq_true, if_pos, if_neg, h1, h6, ite_self])
    (fun n => by
      (try dsimp only)
      rw [Round_yearsWith_L5]
      simp (disch := omega) only [leb_iff, ltb_iff, eqb_iff, pu_rmP, pu_dvP, pu_bs, pu_b0, pu_b1, pu_c0, pu_c1, pu_lt, pu_rdN, pu_wrN, hs_at, hs_cell, hs_slot, if_true, if_false, true_and, and_true, pu_rd, pu_wr, Int.reduceToNat, Int.toNat_natCast, decide_eq_true_eq, Int.add_zero, Bool.false_eq_true, if_pos, if_neg]) N 0 (by omega) (by omega)
def LsS (b : Nat → Int) (q : Nat → Prop) (k : Nat) (r : Int) : Prop := (r = -1 ∧ ∀ y, y < cyN b → sy b y < k → ¬ q (sy b y)) ∨ (∃ y : Nat, y < cyN b ∧ r = y ∧ q (sy b y) ∧ ∀ z, z < y → sy b z < k → ¬ q (sy b z))
theorem LsS_bd (ok : OkB b) {q : Nat → Prop} {k : Nat} {r : Int} (h : LsS b q k r) : -1 ≤ r ∧ r ≤ 1539 := by
  have := cyN_bd ok
  rcases h with ⟨h1, _⟩ | ⟨y, y1, y2, _⟩ <;> omega
theorem LsS_no {q : Nat → Prop} {k : Nat} {r : Int} (h : LsS b q k r) (hq : 0 < ofn b k → ¬ q k) : LsS b q (k + 1) r := by
  rcases h with ⟨h1, h2⟩ | ⟨y, y1, y2, y3, y4⟩
  · refine Or.inl ⟨h1, fun y hy hk => ?_⟩
    by_cases e : sy b y = k
    · rw [e]; exact hq (ofn_pos.mpr ⟨y, hy, e⟩)
    · exact h2 y hy (by omega)
  · refine Or.inr ⟨y, y1, y2, y3, fun z hz hk => ?_⟩
    by_cases e : sy b z = k
    · rw [e]; exact hq (ofn_pos.mpr ⟨z, by omega, e⟩)
    · exact y4 z hz (by omega)
theorem LsS_yes {q : Nat → Prop} {k : Nat} {r : Int} (h : LsS b q k r) (hq : q k) {y0 : Nat} (h0 : y0 < cyN b) (h1 : sy b y0 = k) (h2 : ∀ z, z < y0 → sy b z ≠ k) : LsS b q (k + 1) (if r = -1 then (y0 : Int) else if r ≤ y0 then r else (y0 : Int)) := by
  rcases h with ⟨k1, k2⟩ | ⟨y, y1, y2, y3, y4⟩
  · rw [if_pos k1]
    refine Or.inr ⟨y0, h0, rfl, by rw [h1]; exact hq, fun z hz hk => ?_⟩
    exact k2 z (by omega) (by have := h2 z hz; omega)
  · rw [if_neg (by omega)]
    by_cases c : r ≤ y0
    · rw [if_pos c]
      refine Or.inr ⟨y, y1, y2, y3, fun z hz hk => ?_⟩
      exact y4 z hz (by have := h2 z (by omega); omega)
    · rw [if_neg c]
      refine Or.inr ⟨y0, h0, rfl, by rw [h1]; exact hq, fun z hz hk => ?_⟩
      exact y4 z (by omega) (by have := h2 z hz; omega)
theorem LsS_fin (ok : OkB b) {q : Nat → Prop} {r : Int} (h : LsS b q 80 r) : Lst (fun y => q (sy b y)) (cyN b) r := by
  rcases h with ⟨k1, k2⟩ | ⟨y, y1, y2, y3, y4⟩
  · exact Or.inl ⟨k1, fun y hy => k2 y hy (sy_spec ok y).2.1⟩
  · exact Or.inr ⟨y, y1, y2, y3, fun z hz => y4 z hz (sy_spec ok z).2.1⟩
theorem c_earlier (ok : OkB b) (rb : RB b h) {k : Nat} (hk : k < 80) (hpos : 0 < ofn b k) {r : Int} (hr : -1 ≤ r ∧ r ≤ 10000) : ∃ y0 : Nat, y0 < cyN b ∧ sy b y0 = k ∧ (∀ z, z < y0 → sy b z ≠ k) ∧ M_Round_earlier h r k = some (if r = -1 then (y0 : Int) else if r ≤ y0 then r else (y0 : Int)) := by
  obtain ⟨y0, e1, e2, e3, e4⟩ := rb.fst k hk hpos
  have hC := cyN_bd ok
  refine ⟨y0, e2, e3, e4, ?_⟩
  unfold M_Round_earlier
  by_cases c1 : r = -1
  · simp (disch := omega) only [leb_iff, ltb_iff, eqb_iff, pu_rmP, pu_dvP, pu_bs, pu_b0, pu_b1, pu_c0, pu_c1, pu_lt, pu_rdN, pu_wrN, hs_at, hs_cell, hs_slot, if_true, if_false, true_and, and_true, pu_rd, pu_wr, Int.reduceToNat, Int.toNat_natCast, decide_eq_true_eq, Int.add_zero, Bool.false_eq_true, if_pos, if_neg, e1]
  · by_cases c2 : r ≤ y0
    · simp (disch := omega) only [leb_iff, ltb_iff, eqb_iff, pu_rmP, pu_dvP, pu_bs, pu_b0, pu_b1, pu_c0, pu_c1, pu_lt, pu_rdN, pu_wrN, hs_at, hs_cell, hs_slot, if_true, if_false, true_and, and_true, pu_rd, pu_wr, Int.reduceToNat, Int.toNat_natCast, decide_eq_true_eq, Int.add_zero, Bool.false_eq_true, if_pos, if_neg, e1]
    · simp (disch := omega) only [leb_iff, ltb_iff, eqb_iff, pu_rmP, pu_dvP, pu_bs, pu_b0, pu_b1, pu_c0, pu_c1, pu_lt, pu_rdN, pu_wrN, hs_at, hs_cell, hs_slot, if_true, if_false, true_and, and_true, pu_rd, pu_wr, Int.reduceToNat, Int.toNat_natCast, decide_eq_true_eq, Int.add_zero, Bool.false_eq_true, if_pos, if_neg, e1]
theorem c_firstWith (hN : 100 < N) (ok : OkB b) (rb : RB b h) (rs : RS b h) {f : Nat} (hf : (f : Int) < b 42) {t : Int} (ht : -10 ≤ t ∧ t ≤ 10) : ∃ r, M_Round_firstWith N h f t = some r ∧ Lst (fun y => (rsS b (sy b y)).2.1 f = t) (cyN b) r := by
  have hm := ok.many
  have := lp_inv (fun n k a => Round_firstWith_L5 N h f t n a k) (fun k a => LsS b (fun s => (rsS b s).2.1 f = t) k a) (fun r => LsS b (fun s => (rsS b s).2.1 f = t) 80 r) 80
    (fun n k a hk hp => by
      have h1 := rb.oft k hk
      have h2 := ofn_bd ok k
      have h3 := rsS_fa ok k hf
      have h4 := LsS_bd ok hp
      by_cases c : 0 < ofn b k
      · have h5 := (rs k hk c f hf).2.2
        by_cases c2 : (rsS b k).2.1 f = t
        · obtain ⟨y0, e1, e2, e3, e4⟩ := c_earlier ok rb hk c (r := a) (by omega)
          refine Or.inl ⟨_, LsS_yes hp c2 e1 e2 e3, ?_⟩
          (try dsimp only)
          rw [Round_firstWith_L5, e4]
          simp (disch := omega) only [leb_iff, ltb_iff, eqb_iff, pu_rmP, pu_dvP, pu_bs, pu_b0, pu_b1, pu_c0, pu_c1, pu_lt, pu_rdN, pu_wrN, hs_at, hs_cell, hs_slot, if_true, if_false, true_and, and_true, pu_rd, pu_wr, Int.reduceToNat, Int.toNat_natCast, decide_eq_true_eq, Int.add_zero, Bool.false_eq_true, if_pos, if_neg, h1, tn960, h5]
        · refine Or.inl ⟨a, LsS_no hp (fun _ => c2), ?_⟩
          (try dsimp only)
          rw [Round_firstWith_L5]
          simp (disch := omega) only [leb_iff, ltb_iff, eqb_iff, pu_rmP, pu_dvP, pu_bs, pu_b0, pu_b1, pu_c0, pu_c1, pu_lt, pu_rdN, pu_wrN, hs_at, hs_cell, hs_slot, if_true, if_false, true_and, and_true, pu_rd, pu_wr, Int.reduceToNat, Int.toNat_natCast, decide_eq_true_eq, Int.add_zero, Bool.false_eq_true, if_pos, if_neg, h1, tn960, h5]
      · refine Or.inl ⟨a, LsS_no hp (fun x => absurd x c), ?_⟩
        (try dsimp only)
        rw [Round_firstWith_L5]
        simp (disch := omega) only [leb_iff, ltb_iff, eqb_iff, pu_rmP, pu_dvP, pu_bs, pu_b0, pu_b1, pu_c0, pu_c1, pu_lt, pu_rdN, pu_wrN, hs_at, hs_cell, hs_slot, if_true, if_false, true_and, and_true, pu_rd, pu_wr, Int.reduceToNat, Int.toNat_natCast, decide_eq_true_eq, Int.add_zero, Bool.false_eq_true, if_pos, if_neg, h1])
    (fun n a hp => by
      refine ⟨a, ?_, hp⟩
      (try dsimp only)
      rw [Round_firstWith_L5]
      simp (disch := omega) only [leb_iff, ltb_iff, eqb_iff, pu_rmP, pu_dvP, pu_bs, pu_b0, pu_b1, pu_c0, pu_c1, pu_lt, pu_rdN, pu_wrN, hs_at, hs_cell, hs_slot, if_true, if_false, true_and, and_true, pu_rd, pu_wr, Int.reduceToNat, Int.toNat_natCast, decide_eq_true_eq, Int.add_zero, Bool.false_eq_true, if_pos, if_neg]) N 0 (-1) (by omega) (by omega) (Or.inl ⟨rfl, fun y hy hk => by omega⟩)
  obtain ⟨r, e1, e2⟩ := this
  exact ⟨r, e1, LsS_fin ok e2⟩
theorem c_firstRunOf (hN : 100 < N) (ok : OkB b) (rb : RB b h) (rm : RM b h) {t : Int} (ht : 0 ≤ t ∧ t ≤ 100) : ∃ r, M_Round_firstRunOf N h t = some r ∧ Lst (fun y => t ≤ (rnf (plf b (sl (sy b y)) (spc b (sy b y))) (yd b + sl (sy b y)).toNat).1) (cyN b) r := by
  have hy := yd_le ok
  have := lp_inv (fun n k a => Round_firstRunOf_L4 N h t n a k) (fun k a => LsS b (fun s => t ≤ (rnf (plf b (sl s) (spc b s)) (yd b + sl s).toNat).1) k a) (fun r => LsS b (fun s => t ≤ (rnf (plf b (sl s) (spc b s)) (yd b + sl s).toNat).1) 80 r) 80
    (fun n k a hk hp => by
      have h1 := rb.oft k hk
      have h2 := ofn_bd ok k
      have h3 := rnf_bd (plf b (sl k) (spc b k)) (yd b + sl k).toNat
      have h4 := LsS_bd ok hp
      have h6 : sl k ≤ 1 := by unfold sl; split <;> omega
      by_cases c : 0 < ofn b k
      · have h5 := (rm k hk c).1
        by_cases c2 : t ≤ (rnf (plf b (sl k) (spc b k)) (yd b + sl k).toNat).1
        · obtain ⟨y0, e1, e2, e3, e4⟩ := c_earlier ok rb hk c (r := a) (by omega)
          refine Or.inl ⟨_, LsS_yes hp c2 e1 e2 e3, ?_⟩
          (try dsimp only)
          rw [Round_firstRunOf_L4, e4]
          simp (disch := omega) only [leb_iff, ltb_iff, eqb_iff, pu_rmP, pu_dvP, pu_bs, pu_b0, pu_b1, pu_c0, pu_c1, pu_lt, pu_rdN, pu_wrN, hs_at, hs_cell, hs_slot, if_true, if_false, true_and, and_true, pu_rd, pu_wr, Int.reduceToNat, Int.toNat_natCast, decide_eq_true_eq, Int.add_zero, Bool.false_eq_true, if_pos, if_neg, h1, h5]
        · refine Or.inl ⟨a, LsS_no hp (fun _ => c2), ?_⟩
          (try dsimp only)
          rw [Round_firstRunOf_L4]
          simp (disch := omega) only [leb_iff, ltb_iff, eqb_iff, pu_rmP, pu_dvP, pu_bs, pu_b0, pu_b1, pu_c0, pu_c1, pu_lt, pu_rdN, pu_wrN, hs_at, hs_cell, hs_slot, if_true, if_false, true_and, and_true, pu_rd, pu_wr, Int.reduceToNat, Int.toNat_natCast, decide_eq_true_eq, Int.add_zero, Bool.false_eq_true, if_pos, if_neg, h1, h5]
      · refine Or.inl ⟨a, LsS_no hp (fun x => absurd x c), ?_⟩
        (try dsimp only)
        rw [Round_firstRunOf_L4]
        simp (disch := omega) only [leb_iff, ltb_iff, eqb_iff, pu_rmP, pu_dvP, pu_bs, pu_b0, pu_b1, pu_c0, pu_c1, pu_lt, pu_rdN, pu_wrN, hs_at, hs_cell, hs_slot, if_true, if_false, true_and, and_true, pu_rd, pu_wr, Int.reduceToNat, Int.toNat_natCast, decide_eq_true_eq, Int.add_zero, Bool.false_eq_true, if_pos, if_neg, h1])
    (fun n a hp => by
      refine ⟨a, ?_, hp⟩
      (try dsimp only)
      rw [Round_firstRunOf_L4]
      simp (disch := omega) only [leb_iff, ltb_iff, eqb_iff, pu_rmP, pu_dvP, pu_bs, pu_b0, pu_b1, pu_c0, pu_c1, pu_lt, pu_rdN, pu_wrN, hs_at, hs_cell, hs_slot, if_true, if_false, true_and, and_true, pu_rd, pu_wr, Int.reduceToNat, Int.toNat_natCast, decide_eq_true_eq, Int.add_zero, Bool.false_eq_true, if_pos, if_neg]) N 0 (-1) (by omega) (by omega) (Or.inl ⟨rfl, fun y hy hk => by omega⟩)
  obtain ⟨r, e1, e2⟩ := this
  exact ⟨r, e1, LsS_fin ok e2⟩
end Rq
