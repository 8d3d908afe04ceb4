section Go
variable {b : Nat → Int} {h : Hp} {N : Nat} {l p : Int}
def PS (b : Nat → Int) (l p : Int) (s : St) (h : Hp) : Prop := (Laid b l p h) ∧ (∀ d : Nat, (d : Int) < yd b + l → h 67 d = bse b l p d) ∧ (∀ d : Nat, (d : Int) < yd b + l → h 68 d = ofc b l p s d) ∧ (∀ f : Nat, (f : Int) < b 42 → h 71 f = s.1 f ∧ h 72 f = s.2.1 f)
theorem PS.la {b : Nat → Int} {l p : Int} {s : St} {h : Hp} (q_ : PS b l p s h) : Laid b l p h := q_.1
theorem PS.bs {b : Nat → Int} {l p : Int} {s : St} {h : Hp} (q_ : PS b l p s h) : ∀ d : Nat, (d : Int) < yd b + l → h 67 d = bse b l p d := q_.2.1
theorem PS.of {b : Nat → Int} {l p : Int} {s : St} {h : Hp} (q_ : PS b l p s h) : ∀ d : Nat, (d : Int) < yd b + l → h 68 d = ofc b l p s d := q_.2.2.1
theorem PS.ro {b : Nat → Int} {l p : Int} {s : St} {h : Hp} (q_ : PS b l p s h) : ∀ f : Nat, (f : Int) < b 42 → h 71 f = s.1 f ∧ h 72 f = s.2.1 f := q_.2.2.2
theorem PS.mk {b : Nat → Int} {l p : Int} {s : St} {h : Hp} (la_ : Laid b l p h) (bs_ : ∀ d : Nat, (d : Int) < yd b + l → h 67 d = bse b l p d) (of_ : ∀ d : Nat, (d : Int) < yd b + l → h 68 d = ofc b l p s d) (ro_ : ∀ f : Nat, (f : Int) < b 42 → h 71 f = s.1 f ∧ h 72 f = s.2.1 f) : PS b l p s h := ⟨la_, bs_, of_, ro_⟩
theorem PS.set {s : St} {h' : Hp} (ps : PS b l p s h) (hc : ∀ c, c ≠ 68 → c ≠ 71 → c ≠ 72 → h' c = h c) {s' : St} (h1 : ∀ d : Nat, (d : Int) < yd b + l → h' 68 d = ofc b l p s' d) (h2 : ∀ f : Nat, (f : Int) < b 42 → h' 71 f = s'.1 f ∧ h' 72 f = s'.2.1 f) : PS b l p s' h' := by
  refine PS.mk (Laid.mk ?_ ?_ ?_) ?_ h1 h2
  · rw [hc 66 (by omega) (by omega) (by omega)]; exact ps.la.days
  · rw [hc 66 (by omega) (by omega) (by omega)]; exact ps.la.pasch
  · rw [hc 69 (by omega) (by omega) (by omega), hc 70 (by omega) (by omega) (by omega)]; exact ps.la.rows
  · rw [hc 67 (by omega) (by omega) (by omega)]; exact ps.bs
theorem c_isOpenTo (hN : 20 < N) (ok : OkB b) (cb : CB b h 23) (yr : Yr b l p) {s : St} (ht : ThOk b s) (ps : PS b l p s h) {f : Nat} (hf : (f : Int) < b 42) {d : Int} (hd : -1000 ≤ d ∧ d ≤ 1000) : M_YearPlan_isOpenTo N h f d = some (if opn b l p f s d then 1 else 0) := by
  have hm := ok.many
  have hy := yr.bd ok
  have hfe := cb_fea cb hf
  have ho := (ok.fea f hf).1
  unfold M_YearPlan_isOpenTo opn
  rw [c_hasDay ps.la.days (by omega) (by omega), Option.bind_some]
  by_cases c1 : 0 ≤ d ∧ d < yd b + l
  · have e1 := ps.bs d.toNat (by omega)
    have e2 := ps.of d.toNat (by omega)
    rw [show ((d.toNat : Nat) : Int) = d by omega] at e1
    have hb := bse_bd ok l p d
    have hob := ofc_bd ok ht (l := l) (p := p) d.toNat
    obtain ⟨r, hr1, hr2, hr3, hr4⟩ := c_closed (N := N) (by omega) ok cb (x := d - p) (by omega)
    have hr1' : M_Spans_lastWith N h 29 (d - p) = some r := hr1
    simp (disch := omega) only [leb_iff, ltb_iff, eqb_iff, pu_rmP, pu_dvP, pu_bs, pu_b0, pu_b1, pu_c0, pu_c1, pu_lt, pu_rdN, pu_wrN, hs_at, hs_cell, hs_slot, if_true, if_false, true_and, and_true, pu_rd, pu_wr, Int.reduceToNat, Int.toNat_natCast, decide_eq_true_eq, Int.add_zero, Bool.false_eq_true, if_pos, if_neg, e1, e2, c_kindIn, c_rankIn, hfe.1, ps.la.pasch, hr1']
    by_cases c2 : s.2.2 d.toNat = -1
    · have c2' : ¬ ofc b l p s d.toNat / 32 % 5 = 4 := fun x => (hob.2.2.mp x) c2
      by_cases c3 : bse b l p d / 160 < fq b f 0
      · by_cases c4 : r = -1
        · have := hr4.mp c4
          simp (disch := omega) only [leb_iff, ltb_iff, eqb_iff, pu_rmP, pu_dvP, pu_bs, pu_b0, pu_b1, pu_c0, pu_c1, pu_lt, pu_rdN, pu_wrN, hs_at, hs_cell, hs_slot, if_true, if_false, true_and, and_true, pu_rd, pu_wr, Int.reduceToNat, Int.toNat_natCast, decide_eq_true_eq, Int.add_zero, Bool.false_eq_true, if_pos, if_neg]
          rw [if_pos ⟨c1.1, c1.2, c2, c3, this⟩]
        · have : ¬ cz b (d - p) = false := fun x => c4 (hr4.mpr x)
          simp (disch := omega) only [leb_iff, ltb_iff, eqb_iff, pu_rmP, pu_dvP, pu_bs, pu_b0, pu_b1, pu_c0, pu_c1, pu_lt, pu_rdN, pu_wrN, hs_at, hs_cell, hs_slot, if_true, if_false, true_and, and_true, pu_rd, pu_wr, Int.reduceToNat, Int.toNat_natCast, decide_eq_true_eq, Int.add_zero, Bool.false_eq_true, if_pos, if_neg]
          rw [if_neg (fun x => this x.2.2.2.2)]
      · simp (disch := omega) only [leb_iff, ltb_iff, eqb_iff, pu_rmP, pu_dvP, pu_bs, pu_b0, pu_b1, pu_c0, pu_c1, pu_lt, pu_rdN, pu_wrN, hs_at, hs_cell, hs_slot, if_true, if_false, true_and, and_true, pu_rd, pu_wr, Int.reduceToNat, Int.toNat_natCast, decide_eq_true_eq, Int.add_zero, Bool.false_eq_true, if_pos, if_neg, false_and, and_false]
    · have c2' := hob.2.2.mpr c2
      simp (disch := omega) only [leb_iff, ltb_iff, eqb_iff, pu_rmP, pu_dvP, pu_bs, pu_b0, pu_b1, pu_c0, pu_c1, pu_lt, pu_rdN, pu_wrN, hs_at, hs_cell, hs_slot, if_true, if_false, true_and, and_true, pu_rd, pu_wr, Int.reduceToNat, Int.toNat_natCast, decide_eq_true_eq, Int.add_zero, Bool.false_eq_true, if_pos, if_neg, c2, false_and, and_false]
  · have c1' : ¬ (0 ≤ d ∧ d < yd b + l ∧ s.2.2 d.toNat = -1 ∧ bse b l p d / 160 < fq b f 0 ∧ cz b (d - p) = false) := fun x => c1 ⟨x.1, x.2.1⟩
    rw [if_neg c1, decide_eq_false c1']
    simp (disch := omega) only [leb_iff, ltb_iff, eqb_iff, pu_rmP, pu_dvP, pu_bs, pu_b0, pu_b1, pu_c0, pu_c1, pu_lt, pu_rdN, pu_wrN, hs_at, hs_cell, hs_slot, if_true, if_false, true_and, and_true, pu_rd, pu_wr, Int.reduceToNat, Int.toNat_natCast, decide_eq_true_eq, Int.add_zero, Bool.false_eq_true, if_pos, if_neg]
theorem PS.moved (ok : OkB b) {s : St} (ps : PS b l p s h) {f : Nat} (hf : (f : Int) < b 42) {d : Int} (h0 : 0 ≤ d) (t : Int) : PS b l p (pu_up s.1 f d, pu_up s.2.1 f t, pu_up s.2.2 d.toNat f) (hs (hs (hs h 68 d.toNat (cl b f)) 71 f d) 72 f t) := by
  refine ps.set (fun c c1 c2 c3 => by rw [hs_cell c3, hs_cell c2, hs_cell c1]) (fun e he => ?_) (fun g hg => ?_)
  · rw [hs_cell (by omega), hs_cell (by omega)]
    by_cases c : e = d.toNat
    · subst c; rw [hs_at, ofc_at]
    · rw [hs_slot c, ofc_ne c]; exact ps.of e he
  · have := ps.ro g hg
    rw [hs_cell (c := 72) (c' := 71) (by omega), hs_up, hs_cell (c := 68) (by omega), hs_up, hs_cell (c := 71) (by omega), hs_cell (c := 68) (by omega)]
    unfold pu_up
    dsimp only
    split
    · exact ⟨rfl, rfl⟩
    · exact this
theorem PS.fate (ok : OkB b) {s : St} (ps : PS b l p s h) {f : Nat} (t : Int) : PS b l p (s.1, pu_up s.2.1 f t, s.2.2) (hs h 72 f t) := by
  refine ps.set (fun c c1 c2 c3 => by rw [hs_cell c3]) (fun e he => ?_) (fun g hg => ?_)
  · rw [hs_cell (by omega)]; exact ps.of e he
  · have := ps.ro g hg
    rw [hs_cell (by omega), hs_up]
    unfold pu_up
    dsimp only
    split
    · exact ⟨this.1, rfl⟩
    · exact this
theorem c_seekDay (hN : 100 < N) (ok : OkB b) (cb : CB b h 23) (yr : Yr b l p) {s : St} (ht : ThOk b s) (ps : PS b l p s h) {f : Nat} (hf : (f : Int) < b 42) (hdy : dyf b l p f ≠ -1) {u : Int} (hu : u = 1 ∨ u = -1) :
    ∃ h', M_YearPlan_seekDay N h f u = some h' ∧ (∀ c, c ≠ 68 → c ≠ 71 → c ≠ 72 → h' c = h c) ∧ PS b l p (mvd s f (seek (opn b l p f s) (dyf b l p f) u (b 16).toNat 1)) h' := by
  have hm := ok.many
  have hy := yr.bd ok
  have hdb := dyf_bd (b := b) l p f
  have hrw := (ps.la.rows f hf).1
  have hrc := ok.rch
  have key : ∀ r n j : Nat, r < n → j + r = (b 16).toNat → ∃ h', YearPlan_seekDay_L2 N h f u n ((j : Int) + 1) = some h' ∧ (∀ c, c ≠ 68 → c ≠ 71 → c ≠ 72 → h' c = h c) ∧ PS b l p (mvd s f (seek (opn b l p f s) (dyf b l p f) u r ((j : Int) + 1))) h' := by
    intro r
    induction r with
    | zero =>
      intro n j hn hj
      obtain ⟨n, rfl⟩ : ∃ m, n = m + 1 := ⟨n - 1, by omega⟩
      refine ⟨hs h 72 f 4, ?_, fun c c1 c2 c3 => hs_cell c3, ?_⟩
      · rw [YearPlan_seekDay_L2, cb.rch]
        simp (disch := omega) only [leb_iff, ltb_iff, eqb_iff, pu_rmP, pu_dvP, pu_bs, pu_b0, pu_b1, pu_c0, pu_c1, pu_lt, pu_rdN, pu_wrN, hs_at, hs_cell, hs_slot, if_true, if_false, true_and, and_true, pu_rd, pu_wr, Int.reduceToNat, Int.toNat_natCast, decide_eq_true_eq, Int.add_zero, Bool.false_eq_true, if_pos, if_neg]
      · rw [seek]; unfold mvd; rw [if_pos rfl]; exact ps.fate ok 4
    | succ r ih =>
      intro n j hn hj
      obtain ⟨n, rfl⟩ : ∃ m, n = m + 1 := ⟨n - 1, by omega⟩
      have hju : -70 ≤ u * ((j : Int) + 1) ∧ u * ((j : Int) + 1) ≤ 70 := by rcases hu with e | e <;> subst e <;> omega
      have e1 : ((j : Int) + 1) * u = u * ((j : Int) + 1) := Int.mul_comm _ _
      rw [YearPlan_seekDay_L2, cb.rch, pu_rdN (by omega), Option.bind_some, hrw, e1, c_isOpenTo (by omega) ok cb yr ht ps hf (by omega), Option.bind_some, seek]
      by_cases c : opn b l p f s (dyf b l p f + u * ((j : Int) + 1)) = true
      · have c' := c
        unfold opn at c'
        simp only [decide_eq_true_eq] at c'
        have e2 : dyf b l p f + u * ((j : Int) + 1) = ((dyf b l p f + u * ((j : Int) + 1)).toNat : Int) := by omega
        have hh := c_hold (h := h) ok cb (f := f) (d := (dyf b l p f + u * ((j : Int) + 1)).toNat) (t := 1) hf (by omega)
        rw [← e2] at hh
        rw [hh]
        refine ⟨_, by simp (disch := omega) only [leb_iff, ltb_iff, eqb_iff, pu_rmP, pu_dvP, pu_bs, pu_b0, pu_b1, pu_c0, pu_c1, pu_lt, pu_rdN, pu_wrN, hs_at, hs_cell, hs_slot, if_true, if_false, true_and, and_true, pu_rd, pu_wr, Int.reduceToNat, Int.toNat_natCast, decide_eq_true_eq, Int.add_zero, Bool.false_eq_true, if_pos, if_neg, c]; rfl, fun c c1 c2 c3 => by rw [hs_cell c3, hs_cell c2, hs_cell c1], ?_⟩
        rw [if_pos c]
        unfold mvd
        rw [if_neg (by omega)]
        exact ps.moved ok hf (by omega) 1
      · simp only [Bool.not_eq_true] at c
        have := ih n (j + 1) (by omega) (by omega)
        rw [Int.natCast_add] at this
        obtain ⟨h', h1, h2, h3⟩ := this
        refine ⟨h', ?_, h2, ?_⟩
        · simp (disch := omega) only [leb_iff, ltb_iff, eqb_iff, pu_rmP, pu_dvP, pu_bs, pu_b0, pu_b1, pu_c0, pu_c1, pu_lt, pu_rdN, pu_wrN, hs_at, hs_cell, hs_slot, if_true, if_false, true_and, and_true, pu_rd, pu_wr, Int.reduceToNat, Int.toNat_natCast, decide_eq_true_eq, Int.add_zero, Bool.false_eq_true, if_pos, if_neg, c]
          exact h1
        · rw [c]; exact h3
  have := key (b 16).toNat N 0 (by omega) (by omega)
  exact this
theorem c_joinedTo (hN : 20 < N) (ok : OkB b) (cb : CB b h 23) (yr : Yr b l p) {s : St} (ps : PS b l p s h) (hfa : ∀ f : Nat, (f : Int) < b 42 → FaOk b l p s f) {d : Int} (hd : -1000 ≤ d ∧ d ≤ 1000) : M_YearPlan_joinedTo N h d = some (bsm (fun g => decide (s.2.1 g = 2 ∧ dyf b l p g = d)) (b 42).toNat : Int) := by
  have hm := ok.many
  have hy := yr.bd ok
  exact lp_fold (fun n k a => YearPlan_joinedTo_L4 N h d n a k) (fun k => (bsm (fun g => decide (s.2.1 g = 2 ∧ dyf b l p g = d)) k : Int)) _ (b 42).toNat
    (fun n k hk => by
      (try dsimp only)
      have hr := ps.ro k (by omega)
      have hl := (ps.la.rows k (by omega)).1
      have hf := hfa k (by omega)
      have hdb := dyf_bd (b := b) l p k
      have ho := bsm_or (q := fun g => decide (s.2.1 g = 2 ∧ dyf b l p g = d)) (k := k) (by omega)
      rw [YearPlan_joinedTo_L4, cb_many cb, ← ho]
      unfold FaOk at hf
      simp (disch := omega) only [leb_iff, ltb_iff, eqb_iff, pu_rmP, pu_dvP, pu_bs, pu_b0, pu_b1, pu_c0, pu_c1, pu_lt, pu_rdN, pu_wrN, hs_at, hs_cell, hs_slot, if_true, if_false, true_and, and_true, pu_rd, pu_wr, Int.reduceToNat, Int.toNat_natCast, decide_eq_true_eq, Int.add_zero, Bool.false_eq_true, if_pos, if_neg, hr.2, hl]
      by_cases c1 : s.2.1 k = 2
      · by_cases c2 : dyf b l p k = d
        · simp (disch := omega) only [leb_iff, ltb_iff, eqb_iff, pu_rmP, pu_dvP, pu_bs, pu_b0, pu_b1, pu_c0, pu_c1, pu_lt, pu_rdN, pu_wrN, hs_at, hs_cell, hs_slot, if_true, if_false, true_and, and_true, pu_rd, pu_wr, Int.reduceToNat, Int.toNat_natCast, decide_eq_true_eq, Int.add_zero, Bool.false_eq_true, if_pos, if_neg, c1, c2]
        · simp (disch := omega) only [leb_iff, ltb_iff, eqb_iff, pu_rmP, pu_dvP, pu_bs, pu_b0, pu_b1, pu_c0, pu_c1, pu_lt, pu_rdN, pu_wrN, hs_at, hs_cell, hs_slot, if_true, if_false, true_and, and_true, pu_rd, pu_wr, Int.reduceToNat, Int.toNat_natCast, decide_eq_true_eq, Int.add_zero, Bool.false_eq_true, if_pos, if_neg, c1, c2, and_false]
      · simp (disch := omega) only [leb_iff, ltb_iff, eqb_iff, pu_rmP, pu_dvP, pu_bs, pu_b0, pu_b1, pu_c0, pu_c1, pu_lt, pu_rdN, pu_wrN, hs_at, hs_cell, hs_slot, if_true, if_false, true_and, and_true, pu_rd, pu_wr, Int.reduceToNat, Int.toNat_natCast, decide_eq_true_eq, Int.add_zero, Bool.false_eq_true, if_pos, if_neg, c1, false_and])
    (fun n => by
      (try dsimp only)
      rw [YearPlan_joinedTo_L4, cb_many cb]
      simp (disch := omega) only [leb_iff, ltb_iff, eqb_iff, pu_rmP, pu_dvP, pu_bs, pu_b0, pu_b1, pu_c0, pu_c1, pu_lt, pu_rdN, pu_wrN, hs_at, hs_cell, hs_slot, if_true, if_false, true_and, and_true, pu_rd, pu_wr, Int.reduceToNat, Int.toNat_natCast, decide_eq_true_eq, Int.add_zero, Bool.false_eq_true, if_pos, if_neg]) N 0 (by omega) (by omega)
theorem c_goByLaw (hN : 100 < N) (ok : OkB b) (cb : CB b h 23) (yr : Yr b l p) {s : St} (ht : ThOk b s) (ps : PS b l p s h) (hfa : ∀ f : Nat, (f : Int) < b 42 → FaOk b l p s f) {f : Nat} (hf : (f : Int) < b 42) (hfate : s.2.1 f = -1) :
    ∃ h', M_YearPlan_goByLaw N h f = some h' ∧ (∀ c, c ≠ 68 → c ≠ 71 → c ≠ 72 → h' c = h c) ∧ PS b l p (lw b l p f s) h' := by
  have hm := ok.many
  have hy := yr.bd ok
  have hdy := (hfa f hf).1 hfate
  have hdb := dyf_bd (b := b) l p f
  have hfe := (cb_fea cb hf).2.2.2.1
  have ho := (ok.fea f hf).2.2.1
  unfold M_YearPlan_goByLaw lw
  rw [pu_rdN (by omega), Option.bind_some, hfe, if_neg (show ¬ s.2.1 f ≠ -1 from fun x => x hfate)]
  by_cases c0 : fq b f 4 = 0
  · obtain ⟨h', h1, h2, h3⟩ := c_seekDay hN ok cb yr ht ps hf hdy (u := 1) (Or.inl rfl)
    refine ⟨h', ?_, h2, ?_⟩
    · simp (disch := omega) only [leb_iff, ltb_iff, eqb_iff, pu_rmP, pu_dvP, pu_bs, pu_b0, pu_b1, pu_c0, pu_c1, pu_lt, pu_rdN, pu_wrN, hs_at, hs_cell, hs_slot, if_true, if_false, true_and, and_true, pu_rd, pu_wr, Int.reduceToNat, Int.toNat_natCast, decide_eq_true_eq, Int.add_zero, Bool.false_eq_true, if_pos, if_neg, h1]
    · rw [if_pos c0]; exact h3
  · by_cases c1 : fq b f 4 = 1
    · obtain ⟨h', h1, h2, h3⟩ := c_seekDay hN ok cb yr ht ps hf hdy (u := -1) (Or.inr rfl)
      refine ⟨h', ?_, h2, ?_⟩
      · simp (disch := omega) only [leb_iff, ltb_iff, eqb_iff, pu_rmP, pu_dvP, pu_bs, pu_b0, pu_b1, pu_c0, pu_c1, pu_lt, pu_rdN, pu_wrN, hs_at, hs_cell, hs_slot, if_true, if_false, true_and, and_true, pu_rd, pu_wr, Int.reduceToNat, Int.toNat_natCast, decide_eq_true_eq, Int.add_zero, Bool.false_eq_true, if_pos, if_neg, h1]
      · rw [if_neg c0, if_pos c1]; exact h3
    · rw [if_neg c0, if_neg c1]
      by_cases c2 : fq b f 4 = 2
      · rw [if_pos c2]
        have hj := c_joinedTo (N := N) (by omega) ok cb yr ps hfa (d := dyf b l p f) (by omega)
        have hct := bsm_ct (fun g => decide (s.2.1 g = 2 ∧ dyf b l p g = dyf b l p f)) (b 42).toNat (by omega)
        have hcb := cnt_bd (fun g => decide (s.2.1 g = 2 ∧ dyf b l p g = dyf b l p f)) (b 42).toNat
        unfold jcf
        by_cases c3 : cnt (fun g => decide (s.2.1 g = 2 ∧ dyf b l p g = dyf b l p f)) (b 42).toNat < 2
        · refine ⟨hs h 72 f 2, ?_, fun c d1 d2 d3 => hs_cell d3, ?_⟩
          · simp (disch := omega) only [leb_iff, ltb_iff, eqb_iff, pu_rmP, pu_dvP, pu_bs, pu_b0, pu_b1, pu_c0, pu_c1, pu_lt, pu_rdN, pu_wrN, hs_at, hs_cell, hs_slot, if_true, if_false, true_and, and_true, pu_rd, pu_wr, Int.reduceToNat, Int.toNat_natCast, decide_eq_true_eq, Int.add_zero, Bool.false_eq_true, if_pos, if_neg, (ps.la.rows f hf).1, hj, hct]
          · rw [if_pos c3]; exact ps.fate ok 2
        · refine ⟨hs h 72 f 3, ?_, fun c d1 d2 d3 => hs_cell d3, ?_⟩
          · simp (disch := omega) only [leb_iff, ltb_iff, eqb_iff, pu_rmP, pu_dvP, pu_bs, pu_b0, pu_b1, pu_c0, pu_c1, pu_lt, pu_rdN, pu_wrN, hs_at, hs_cell, hs_slot, if_true, if_false, true_and, and_true, pu_rd, pu_wr, Int.reduceToNat, Int.toNat_natCast, decide_eq_true_eq, Int.add_zero, Bool.false_eq_true, if_pos, if_neg, (ps.la.rows f hf).1, hj, hct]
          · rw [if_neg c3]; exact ps.fate ok 3
      · rw [if_neg c2]
        refine ⟨hs h 72 f 3, ?_, fun c d1 d2 d3 => hs_cell d3, ps.fate ok 3⟩
        simp (disch := omega) only [leb_iff, ltb_iff, eqb_iff, pu_rmP, pu_dvP, pu_bs, pu_b0, pu_b1, pu_c0, pu_c1, pu_lt, pu_rdN, pu_wrN, hs_at, hs_cell, hs_slot, if_true, if_false, true_and, and_true, pu_rd, pu_wr, Int.reduceToNat, Int.toNat_natCast, decide_eq_true_eq, Int.add_zero, Bool.false_eq_true, if_pos, if_neg]
theorem c_settle_new (hN : 1100 < N) (ok : OkB b) (cb : CB b h 23) (yr : Yr b l p) (la : Laid b l p h) :
    ∃ h', ((M_YearPlan_fillBase N h).bind (fun h5 => (cpA h5 67 249 0 68 249 0 (h5 66 4)).bind (fun h6 => (M_YearPlan_keepGreatest N h6).bind (fun h8 => YearPlan_settle_L46 N N 0 h8)))) = some h' ∧ (∀ c, c ≠ 67 → c ≠ 68 → c ≠ 71 → c ≠ 72 → h' c = h c) ∧ PS b l p (res b l p) h' := by
  have hm := ok.many
  have hy := yr.bd ok
  obtain ⟨h5, e5, f5, b5⟩ := c_fillBase hN ok cb yr la
  rw [e5, Option.bind_some, f5 66 (by omega), la.days]
  unfold cpA
  rw [if_pos (by omega), Option.bind_some]
  generalize hg : (fun c' k' => if c' = 68 then va_cpy (h5 67) (h5 68) (0 : Int).toNat (0 : Int).toNat (yd b + l).toNat k' else h5 c' k' : Hp) = h6
  have f6 : ∀ c, c ≠ 68 → h6 c = h5 c := fun c hc => by subst hg; funext k; exact if_neg hc
  have b6 : ∀ d : Nat, (d : Int) < yd b + l → h6 68 d = bse b l p d := fun d hd => by
    subst hg
    show (if 68 = 68 then va_cpy (h5 67) (h5 68) 0 0 (yd b + l).toNat d else h5 68 d) = _
    rw [if_pos rfl, pk_cpy_in (by omega) (by omega), Nat.zero_add, Nat.sub_zero]
    exact b5 d hd
  have cb6 : CB b h6 23 := CB_frame cb (fun c c1 c2 => by rw [f6 c (by omega), f5 c (by omega)])
  have la6 : Laid b l p h6 := Laid.mk (by rw [f6 66 (by omega), f5 66 (by omega)]; exact la.days) (by rw [f6 66 (by omega), f5 66 (by omega)]; exact la.pasch) (by rw [f6 69 (by omega), f5 69 (by omega), f6 70 (by omega), f5 70 (by omega)]; exact la.rows)
  obtain ⟨h8, e8, f8, o8, r8⟩ := c_keepGreatest (N := N) (by omega) ok cb6 yr la6 (fun d hd => ⟨by rw [f6 67 (by omega)]; exact b5 d hd, b6 d hd⟩)
  rw [e8, Option.bind_some]
  have ps8 : PS b l p (lws b l p 0) h8 := PS.mk (Laid.mk (by rw [f8 66 (by omega) (by omega) (by omega)]; exact la6.days) (by rw [f8 66 (by omega) (by omega) (by omega)]; exact la6.pasch) (by rw [f8 69 (by omega) (by omega) (by omega), f8 70 (by omega) (by omega) (by omega)]; exact la6.rows)) (fun d hd => by rw [f8 67 (by omega) (by omega) (by omega), f6 67 (by omega)]; exact b5 d hd) o8 r8
  exact lp_inv (fun n k x => YearPlan_settle_L46 N n k x) (fun k x => (∀ c, c ≠ 67 → c ≠ 68 → c ≠ 71 → c ≠ 72 → x c = h c) ∧ PS b l p (lws b l p k) x)
    (fun h' => (∀ c, c ≠ 67 → c ≠ 68 → c ≠ 71 → c ≠ 72 → h' c = h c) ∧ PS b l p (res b l p) h') (b 42).toNat
    (fun n k x hk hp => by
      obtain ⟨k1, k2⟩ := hp
      have cbx : CB b x 23 := CB_frame cb (fun c c1 c2 => k1 c (by omega) (by omega) (by omega) (by omega))
      have hr := rk_spec ok (k := k) (by omega)
      have hk4 := cb_rnk ok cbx (k := k) (by omega)
      have ht := lws_th ok l p k (by omega)
      have hfa : ∀ f : Nat, (f : Int) < b 42 → FaOk b l p (lws b l p k) f := fun f hf => lws_fa ok l p hf k
      have hf1 := hfa (rk b k) hr.1
      unfold FaOk at hf1
      have hro := (k2.ro (rk b k) hr.1).2
      by_cases c : (lws b l p k).2.1 (rk b k) = -1
      · obtain ⟨x', e, g1, g2⟩ := c_goByLaw (h := x) (N := N) (by omega) ok cbx yr ht k2 hfa hr.1 c
        refine Or.inl ⟨x', ⟨fun c c1 c2 c3 c4 => by rw [g1 c c2 c3 c4]; exact k1 c c1 c2 c3 c4, g2⟩, ?_⟩
        (try dsimp only)
        rw [YearPlan_settle_L46, cb_many cbx]
        simp (disch := omega) only [leb_iff, ltb_iff, eqb_iff, pu_rmP, pu_dvP, pu_bs, pu_b0, pu_b1, pu_c0, pu_c1, pu_lt, pu_rdN, pu_wrN, hs_at, hs_cell, hs_slot, if_true, if_false, true_and, and_true, pu_rd, pu_wr, Int.reduceToNat, Int.toNat_natCast, decide_eq_true_eq, Int.add_zero, Bool.false_eq_true, if_pos, if_neg, hk4, hro, e]
      · refine Or.inl ⟨x, ⟨k1, ?_⟩, ?_⟩
        · rw [lws]; unfold lw; rw [if_pos c]; exact k2
        · (try dsimp only)
          rw [YearPlan_settle_L46, cb_many cbx]
          simp (disch := omega) only [leb_iff, ltb_iff, eqb_iff, pu_rmP, pu_dvP, pu_bs, pu_b0, pu_b1, pu_c0, pu_c1, pu_lt, pu_rdN, pu_wrN, hs_at, hs_cell, hs_slot, if_true, if_false, true_and, and_true, pu_rd, pu_wr, Int.reduceToNat, Int.toNat_natCast, decide_eq_true_eq, Int.add_zero, Bool.false_eq_true, if_pos, if_neg, hk4, hro])
    (fun n x hp => by
      obtain ⟨k1, k2⟩ := hp
      refine ⟨x, ?_, k1, k2⟩
      (try dsimp only)
      rw [YearPlan_settle_L46, k1 33 (by omega) (by omega) (by omega) (by omega), cb_many cb]
      simp (disch := omega) only [leb_iff, ltb_iff, eqb_iff, pu_rmP, pu_dvP, pu_bs, pu_b0, pu_b1, pu_c0, pu_c1, pu_lt, pu_rdN, pu_wrN, hs_at, hs_cell, hs_slot, if_true, if_false, true_and, and_true, pu_rd, pu_wr, Int.reduceToNat, Int.toNat_natCast, decide_eq_true_eq, Int.add_zero, Bool.false_eq_true, if_pos, if_neg]) N 0 h8 (by omega) (by omega) ⟨fun c c1 c2 c3 c4 => by rw [f8 c c2 c3 c4, f6 c c2, f5 c c1], ps8⟩
end Go
