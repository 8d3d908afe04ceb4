def mtq (b : Nat → Int) (f s g : Nat) : Bool := decide (g ≠ f ∧ dyS b s f ≠ -1 ∧ dyS b s g = dyS b s f)
def mtB (b : Nat → Int) (f : Nat) : Nat → Nat → Bool
  | 0, _ => false
  | k + 1, g => mtB b f k g || (decide (0 < ofn b k) && mtq b f k g)
def mtY (b : Nat → Int) (f : Nat) : Nat → Nat → Bool
  | 0, _ => false
  | y + 1, g => mtY b f y g || mtq b f (sy b y) g
theorem mtB_iff {b : Nat → Int} {f g : Nat} : ∀ k : Nat, mtB b f k g = true ↔ ∃ s, s < k ∧ 0 < ofn b s ∧ mtq b f s g = true
  | 0 => by simp [mtB]
  | k + 1 => by
    have ih := mtB_iff (b := b) (f := f) (g := g) k
    rw [mtB, Bool.or_eq_true, ih]
    constructor
    · rintro (⟨s, s1, s2, s3⟩ | h)
      · exact ⟨s, by omega, s2, s3⟩
      · simp at h; exact ⟨k, by omega, h.1, h.2⟩
    · rintro ⟨s, s1, s2, s3⟩
      by_cases e : s = k
      · subst e; exact Or.inr (by simp [s2, s3])
      · exact Or.inl ⟨s, by omega, s2, s3⟩
theorem mtY_iff {b : Nat → Int} {f g : Nat} : ∀ k : Nat, mtY b f k g = true ↔ ∃ y, y < k ∧ mtq b f (sy b y) g = true
  | 0 => by simp [mtY]
  | k + 1 => by
    have ih := mtY_iff (b := b) (f := f) (g := g) k
    rw [mtY, Bool.or_eq_true, ih]
    constructor
    · rintro (⟨s, s1, s3⟩ | h)
      · exact ⟨s, by omega, s3⟩
      · exact ⟨k, by omega, h⟩
    · rintro ⟨s, s1, s3⟩
      by_cases e : s = k
      · subst e; exact Or.inr s3
      · exact Or.inl ⟨s, by omega, s3⟩
theorem mt_eq {b : Nat → Int} (ok : OkB b) (f g : Nat) : mtB b f 80 g = mtY b f (cyN b) g := by
  apply Bool.eq_iff_iff.mpr
  rw [mtB_iff, mtY_iff]
  constructor
  · rintro ⟨s, s1, s2, s3⟩
    obtain ⟨y, y1, y2⟩ := ofn_pos.mp s2
    exact ⟨y, y1, by rw [y2]; exact s3⟩
  · rintro ⟨y, y1, y2⟩
    exact ⟨sy b y, (sy_spec ok y).2.1, ofn_pos.mpr ⟨y, y1, rfl⟩, y2⟩
section Mt
variable {b : Nat → Int} {h : Hp} {N : Nat}
theorem c_metInPlan (hN : 20 < N) (ok : OkB b) (cb : CB b h 23) {s : Nat} (la : Laid b (sl s) (spc b s) h) {f : Nat} (hf : (f : Int) < b 42) : M_Round_metInPlan N h f = some (bsm (mtq b f s) (b 42).toNat : Int) := by
  have hm := ok.many
  have h1 : h 69 f = dyS b s f := (la.rows f hf).1
  have h2 := dyS_bd ok s f
  exact lp_fold (fun n k a => Round_metInPlan_L4 N h f n a k) (fun k => (bsm (mtq b f s) k : Int)) _ (b 42).toNat
    (fun n k hk => by
      have h3 : h 69 k = dyS b s k := (la.rows k (by omega)).1
      have h4 := dyS_bd ok s k
      have ho := bsm_or (q := mtq b f s) (k := k) (by omega)
      (try dsimp only)
      rw [Round_metInPlan_L4, cb_many cb, ← ho]
      unfold mtq
      by_cases c0 : k = f
      · subst c0
        simp (disch := omega) only [leb_iff, ltb_iff, eqb_iff, pu_rmP, pu_dvP, pu_bs, pu_b0, pu_b1, pu_c0, pu_c1, pu_lt, pu_rdN, pu_wrN, hs_at, hs_cell, hs_slot, if_true, if_false, true_and, and_true, pu_rd, pu_wr, Int.reduceToNat, Int.toNat_natCast, decide_eq_true_eq, Int.add_zero, Bool.false_eq_true, if_pos, if_neg, ne_eq, not_true_eq_false, false_and]
      · by_cases c1 : dyS b s f = -1
        · simp (disch := omega) only [leb_iff, ltb_iff, eqb_iff, pu_rmP, pu_dvP, pu_bs, pu_b0, pu_b1, pu_c0, pu_c1, pu_lt, pu_rdN, pu_wrN, hs_at, hs_cell, hs_slot, if_true, if_false, true_and, and_true, pu_rd, pu_wr, Int.reduceToNat, Int.toNat_natCast, decide_eq_true_eq, Int.add_zero, Bool.false_eq_true, if_pos, if_neg, h1, ne_eq, not_true_eq_false, false_and, and_false]
        · by_cases c2 : dyS b s k = dyS b s f
          · simp (disch := omega) only [leb_iff, ltb_iff, eqb_iff, pu_rmP, pu_dvP, pu_bs, pu_b0, pu_b1, pu_c0, pu_c1, pu_lt, pu_rdN, pu_wrN, hs_at, hs_cell, hs_slot, if_true, if_false, true_and, and_true, pu_rd, pu_wr, Int.reduceToNat, Int.toNat_natCast, decide_eq_true_eq, Int.add_zero, Bool.false_eq_true, if_pos, if_neg, h1, h3, ne_eq, c0, c1, not_false_eq_true]
          · simp (disch := omega) only [leb_iff, ltb_iff, eqb_iff, pu_rmP, pu_dvP, pu_bs, pu_b0, pu_b1, pu_c0, pu_c1, pu_lt, pu_rdN, pu_wrN, hs_at, hs_cell, hs_slot, if_true, if_false, true_and, and_true, pu_rd, pu_wr, Int.reduceToNat, Int.toNat_natCast, decide_eq_true_eq, Int.add_zero, Bool.false_eq_true, if_pos, if_neg, h1, h3, c2, and_false])
    (fun n => by
      (try dsimp only)
      rw [Round_metInPlan_L4, cb_many cb]
      simp (disch := omega) only [leb_iff, ltb_iff, eqb_iff, pu_rmP, pu_dvP, pu_bs, pu_b0, pu_b1, pu_c0, pu_c1, pu_lt, pu_rdN, pu_wrN, hs_at, hs_cell, hs_slot, if_true, if_false, true_and, and_true, pu_rd, pu_wr, Int.reduceToNat, Int.toNat_natCast, decide_eq_true_eq, Int.add_zero, Bool.false_eq_true, if_pos, if_neg]) N 0 (by omega) (by omega)
theorem Fp.trans {h h' h'' : Hp} (a : Fp h h') (c : Fp h' h'') : Fp h h'' := fun x hx => by rw [c x hx, a x hx]
theorem c_layS (hN : 20 < N) (ok : OkB b) (cb : CB b h 23) (pk : PlanOk b h) {k : Nat} (hpos : 0 < ofn b k) : ∃ h', M_YearPlan_lay N h k = some h' ∧ Fp h h' ∧ PlanOk b h' ∧ h' 66 2 = (k : Int) ∧ Laid b (sl k) (spc b k) h' := by
  obtain ⟨y, y1, y2⟩ := ofn_pos.mp hpos
  have hC := cyN_bd ok
  have sp := sy_spec ok y
  rw [y2] at sp
  obtain ⟨h', e1, e2, e3, e4, e5, _⟩ := c_lay (h := h) hN ok cb pk (y := (y : Int)) (by omega) (by omega)
  rw [← sp.1] at e1 e4
  rw [← sp.2.2.1, ← sp.2.2.2] at e5
  exact ⟨h', e1, e2, e3, e4, e5⟩
theorem c_metBy (hN : 100 < N) (ok : OkB b) (cb : CB b h 23) (pk : PlanOk b h) (rb : RB b h) {f : Nat} (hf : (f : Int) < b 42) : ∃ h', M_Round_metBy N h f = some ((bsm (mtB b f 80) (b 42).toNat : Int), h') ∧ Fp h h' ∧ PlanOk b h' := by
  have hm := ok.many
  unfold M_Round_metBy
  have := lp_inv (fun n k (a : Int × Hp) => Round_metBy_L4 N f n a.1 k a.2) (fun k a => a.1 = (bsm (mtB b f k) (b 42).toNat : Int) ∧ Fp h a.2 ∧ PlanOk b a.2) (fun r => r.1 = (bsm (mtB b f 80) (b 42).toNat : Int) ∧ Fp h r.2 ∧ PlanOk b r.2) 80
    (fun n k a hk hp => by
      obtain ⟨a, x⟩ := a
      obtain ⟨k1, k2, k3⟩ := hp
      dsimp only at k1 k2 k3
      have h1 : x 74 k = ofn b k := by rw [k2 74 (by omega)]; exact rb.oft k hk
      have h2 := ofn_bd ok k
      have cbx : CB b x 23 := CB_frame cb (fun c c1 c2 => k2 c (by omega))
      by_cases c : 0 < ofn b k
      · obtain ⟨x', e1, e2, e3, e4, e5⟩ := c_layS (h := x) (N := N) (by omega) ok cbx k3 c
        have e6 := c_metInPlan (h := x') (N := N) (by omega) ok (CB_frame cbx (fun c c1 c2 => e2 c (by omega))) e5 hf
        have e7 := bsm_or2 (mtB b f k) (mtq b f k) (n := (b 42).toNat) (by omega)
        have e8 : bsm (fun g => mtB b f k g || mtq b f k g) (b 42).toNat = bsm (mtB b f (k + 1)) (b 42).toNat := bsm_congr (fun g _ => by rw [mtB, decide_eq_true c]; rfl)
        refine Or.inl ⟨((bsm (mtB b f (k + 1)) (b 42).toNat : Int), x'), ⟨rfl, k2.trans e2, e3⟩, ?_⟩
        dsimp only
        rw [Round_metBy_L4, k1]
        rw [e8] at e7
        simp (disch := omega) only [leb_iff, ltb_iff, eqb_iff, pu_rmP, pu_dvP, pu_bs, pu_b0, pu_b1, pu_c0, pu_c1, pu_lt, pu_rdN, pu_wrN, hs_at, hs_cell, hs_slot, if_true, if_false, true_and, and_true, pu_rd, pu_wr, Int.reduceToNat, Int.toNat_natCast, decide_eq_true_eq, Int.add_zero, Bool.false_eq_true, if_pos, if_neg, h1, e1, e6, e7]
      · refine Or.inl ⟨((bsm (mtB b f (k + 1)) (b 42).toNat : Int), x), ⟨rfl, k2, k3⟩, ?_⟩
        have e8 : bsm (mtB b f (k + 1)) (b 42).toNat = bsm (mtB b f k) (b 42).toNat := bsm_congr (fun g _ => by rw [mtB, decide_eq_false c]; simp)
        dsimp only
        rw [Round_metBy_L4, k1, e8]
        simp (disch := omega) only [leb_iff, ltb_iff, eqb_iff, pu_rmP, pu_dvP, pu_bs, pu_b0, pu_b1, pu_c0, pu_c1, pu_lt, pu_rdN, pu_wrN, hs_at, hs_cell, hs_slot, if_true, if_false, true_and, and_true, pu_rd, pu_wr, Int.reduceToNat, Int.toNat_natCast, decide_eq_true_eq, Int.add_zero, Bool.false_eq_true, if_pos, if_neg, h1])
    (fun n a hp => by
      obtain ⟨a, x⟩ := a
      refine ⟨(a, x), ?_, hp⟩
      dsimp only
      rw [Round_metBy_L4]
      simp (disch := omega) only [leb_iff, ltb_iff, eqb_iff, pu_rmP, pu_dvP, pu_bs, pu_b0, pu_b1, pu_c0, pu_c1, pu_lt, pu_rdN, pu_wrN, hs_at, hs_cell, hs_slot, if_true, if_false, true_and, and_true, pu_rd, pu_wr, Int.reduceToNat, Int.toNat_natCast, decide_eq_true_eq, Int.add_zero, Bool.false_eq_true, if_pos, if_neg]) N 0 (0, h) (by omega) (by omega) ⟨by
        dsimp only
        have e8 : bsm (mtB b f 0) (b 42).toNat = bsm (fun _ => false) (b 42).toNat := rfl
        have : ∀ n, bsm (fun _ => false) n = 0 := fun n => by
          induction n with
          | zero => rfl
          | succ n ih => rw [bsm, ih]; rfl
        rw [e8, this]; rfl, fun _ _ => rfl, pk⟩
  obtain ⟨⟨r, x⟩, e, e1, e2, e3⟩ := this
  dsimp only at e1
  exact ⟨x, by rw [← e1]; exact e, e2, e3⟩
theorem m_meets_in (hN : 20 < N) (ok : OkB b) {s : Nat} {st : St} (m : MS b (sl s) (spc b s) st h) {f : Nat} (hf : (f : Int) < b 42) (hd : dyS b s f ≠ -1) (q : Nat → Bool) (K : Int → Int → Option (Int × Hp)) : Md_meets_L64 N h f K N (bsm q (b 42).toNat : Int) 0 = K (bsm (fun g => q g || mtq b f s g) (b 42).toNat : Int) ((b 42).toNat : Int) := by
  have hm := ok.many
  obtain ⟨a, e1, e2⟩ := lp_cont (fun n j a => Md_meets_L64 N h f K n a j) (fun a => K a ((b 42).toNat : Int)) (fun j a => a = (bsm (fun g => q g || (decide (g < j) && mtq b f s g)) (b 42).toNat : Int)) (b 42).toNat
    (fun n j a hj ha => by
      have h1 : h 89 f = dyS b s f := m.my.dys f hf
      have h2 := dyS_bd ok s f
      have h3 : h 89 j = dyS b s j := m.my.dys j (by omega)
      have h4 := dyS_bd ok s j
      have h5 := bsm_bd (q := fun g => q g || (decide (g < j) && mtq b f s g)) (n := (b 42).toNat) (by omega)
      have h6 := or_zero (a := (bsm (fun g => q g || (decide (g < j) && mtq b f s g)) (b 42).toNat : Int)) (by omega) (by omega)
      have h7 := bsm_set (fun g => q g || (decide (g < j) && mtq b f s g)) (n := (b 42).toNat) (k := j) (by omega) hj
      refine ⟨_, rfl, ?_⟩
      (try dsimp only)
      rw [Md_meets_L64, pu_rd (by omega) (by omega), pu_bs, show Int.toNat 42 = 42 from rfl, m.my.bk, ha]
      by_cases c : mtq b f s j = true
      · have e8 : bsm (fun g => (q g || (decide (g < j) && mtq b f s g)) || decide (g = j)) (b 42).toNat = bsm (fun g => q g || (decide (g < j + 1) && mtq b f s g)) (b 42).toNat := bsm_congr (fun g _ => by
          by_cases e : g = j
          · subst e; simp [c]
          · by_cases e2 : g < j
            · simp [e, e2, show g < j + 1 by omega]
            · simp [e, e2, show ¬ g < j + 1 by omega])
        rw [e8] at h7
        unfold mtq at c
        simp only [decide_eq_true_eq] at c
        simp (disch := omega) only [leb_iff, ltb_iff, eqb_iff, pu_rmP, pu_dvP, pu_bs, pu_b0, pu_b1, pu_c0, pu_c1, pu_lt, pu_rdN, pu_wrN, hs_at, hs_cell, hs_slot, if_true, if_false, true_and, and_true, pu_rd, pu_wr, Int.reduceToNat, Int.toNat_natCast, decide_eq_true_eq, Int.add_zero, Bool.false_eq_true, if_pos, if_neg, h1, h3, h7]
      · have e8 : bsm (fun g => q g || (decide (g < j + 1) && mtq b f s g)) (b 42).toNat = bsm (fun g => q g || (decide (g < j) && mtq b f s g)) (b 42).toNat := bsm_congr (fun g _ => by
          by_cases e : g = j
          · subst e; simp [c]
          · by_cases e2 : g < j
            · simp [e2, show g < j + 1 by omega]
            · simp [e2, show ¬ g < j + 1 by omega])
        rw [e8]
        unfold mtq at c
        simp only [decide_eq_true_eq] at c
        by_cases c0 : j = f
        · subst c0
          simp (disch := omega) only [leb_iff, ltb_iff, eqb_iff, pu_rmP, pu_dvP, pu_bs, pu_b0, pu_b1, pu_c0, pu_c1, pu_lt, pu_rdN, pu_wrN, hs_at, hs_cell, hs_slot, if_true, if_false, true_and, and_true, pu_rd, pu_wr, Int.reduceToNat, Int.toNat_natCast, decide_eq_true_eq, Int.add_zero, Bool.false_eq_true, if_pos, if_neg, h6]
        · have c2 : ¬ dyS b s j = dyS b s f := fun x => c ⟨c0, hd, x⟩
          simp (disch := omega) only [leb_iff, ltb_iff, eqb_iff, pu_rmP, pu_dvP, pu_bs, pu_b0, pu_b1, pu_c0, pu_c1, pu_lt, pu_rdN, pu_wrN, hs_at, hs_cell, hs_slot, if_true, if_false, true_and, and_true, pu_rd, pu_wr, Int.reduceToNat, Int.toNat_natCast, decide_eq_true_eq, Int.add_zero, Bool.false_eq_true, if_pos, if_neg, h1, h3, h6])
    (fun n a ha => by
      (try dsimp only)
      rw [Md_meets_L64, pu_rd (by omega) (by omega), pu_bs, show Int.toNat 42 = 42 from rfl, m.my.bk]
      simp (disch := omega) only [leb_iff, ltb_iff, eqb_iff, pu_rmP, pu_dvP, pu_bs, pu_b0, pu_b1, pu_c0, pu_c1, pu_lt, pu_rdN, pu_wrN, hs_at, hs_cell, hs_slot, if_true, if_false, true_and, and_true, pu_rd, pu_wr, Int.reduceToNat, Int.toNat_natCast, decide_eq_true_eq, Int.add_zero, Bool.false_eq_true, if_pos, if_neg]) N 0 (bsm q (b 42).toNat : Int) (by omega) (by omega) (by congr 1; exact bsm_congr (fun g _ => by simp))
  have e9 : bsm (fun g => q g || (decide (g < (b 42).toNat) && mtq b f s g)) (b 42).toNat = bsm (fun g => q g || mtq b f s g) (b 42).toNat := bsm_congr (fun g hg => by simp [hg])
  rw [e9] at e1
  rw [← e1]; exact e2
theorem m_meets_L (hN : 2000 < N) (ok : OkB b) (hb : h 84 = b) {f : Nat} (hf : (f : Int) < b 42) : ∃ h', Md_meets_L36 N f (cyN b) N 0 0 h = some ((bsm (mtY b f (cyN b)) (b 42).toNat : Int), h') ∧ Fq h h' := by
  have hm := ok.many
  have hC := cyN_bd ok
  have := lp_inv (fun n k (a : Int × Hp) => Md_meets_L36 N f (cyN b) n a.1 k a.2) (fun k a => a.1 = (bsm (mtY b f k) (b 42).toNat : Int) ∧ Fq h a.2) (fun r => r.1 = (bsm (mtY b f (cyN b)) (b 42).toNat : Int) ∧ Fq h r.2) (cyN b)
    (fun n k a hk hp => by
      obtain ⟨a, x⟩ := a
      obtain ⟨k1, k2⟩ := hp
      dsimp only at k1 k2
      obtain ⟨x', e1, e2, e3, e4⟩ := m_resY (h := x) (N := N) (by omega) ok (k2.bk hb) (y := k) (by omega)
      have h1 : x' 89 f = dyS b (sy b k) f := e4.my.dys f hf
      have h2 := dyS_bd ok (sy b k) f
      refine Or.inl ⟨((bsm (mtY b f (k + 1)) (b 42).toNat : Int), x'), ⟨rfl, k2.trans e2⟩, ?_⟩
      dsimp only
      rw [Md_meets_L36, e1, pu_bs, k1]
      by_cases c : dyS b (sy b k) f = -1
      · have e8 : bsm (mtY b f (k + 1)) (b 42).toNat = bsm (mtY b f k) (b 42).toNat := bsm_congr (fun g _ => by
          have : mtq b f (sy b k) g = false := decide_eq_false (fun x => x.2.1 c)
          rw [mtY, this]; simp)
        rw [e8]
        simp (disch := omega) only [leb_iff, ltb_iff, eqb_iff, pu_rmP, pu_dvP, pu_bs, pu_b0, pu_b1, pu_c0, pu_c1, pu_lt, pu_rdN, pu_wrN, hs_at, hs_cell, hs_slot, if_true, if_false, true_and, and_true, pu_rd, pu_wr, Int.reduceToNat, Int.toNat_natCast, decide_eq_true_eq, Int.add_zero, Bool.false_eq_true, if_pos, if_neg, h1]
      · have e9 := m_meets_in (h := x') (N := N) (by omega) ok e4 hf c (mtY b f k) (fun v3_13 v5_13 => Md_meets_L36 N f (cyN b) n v3_13 ((k : Int) + 1) x')
        have e8 : bsm (fun g => mtY b f k g || mtq b f (sy b k) g) (b 42).toNat = bsm (mtY b f (k + 1)) (b 42).toNat := bsm_congr (fun g _ => rfl)
        rw [e8] at e9
        simp (disch := omega) only [leb_iff, ltb_iff, eqb_iff, pu_rmP, pu_dvP, pu_bs, pu_b0, pu_b1, pu_c0, pu_c1, pu_lt, pu_rdN, pu_wrN, hs_at, hs_cell, hs_slot, if_true, if_false, true_and, and_true, pu_rd, pu_wr, Int.reduceToNat, Int.toNat_natCast, decide_eq_true_eq, Int.add_zero, Bool.false_eq_true, if_pos, if_neg, h1, e9])
    (fun n a hp => by
      obtain ⟨a, x⟩ := a
      refine ⟨(a, x), ?_, hp⟩
      dsimp only
      rw [Md_meets_L36]
      simp (disch := omega) only [leb_iff, ltb_iff, eqb_iff, pu_rmP, pu_dvP, pu_bs, pu_b0, pu_b1, pu_c0, pu_c1, pu_lt, pu_rdN, pu_wrN, hs_at, hs_cell, hs_slot, if_true, if_false, true_and, and_true, pu_rd, pu_wr, Int.reduceToNat, Int.toNat_natCast, decide_eq_true_eq, Int.add_zero, Bool.false_eq_true, if_pos, if_neg]) N 0 (0, h) (by omega) (by omega) ⟨by
        dsimp only
        have e8 : bsm (mtY b f 0) (b 42).toNat = bsm (fun _ => false) (b 42).toNat := rfl
        have : ∀ n, bsm (fun _ => false) n = 0 := fun n => by
          induction n with
          | zero => rfl
          | succ n ih => rw [bsm, ih]; rfl
        rw [e8, this]; rfl, Fq.refl h⟩
  obtain ⟨⟨r, x⟩, e, e1, e2⟩ := this
  dsimp only at e1
  exact ⟨x, by rw [← e1]; exact e, e2⟩
theorem m_course_L (hN : 2000 < N) (ok : OkB b) (hb : h 84 = b) {v : Int} (hv : 0 ≤ v ∧ v ≤ 3) : ∃ r h', Md_course_L48 N v (cyN b) N (-1) 0 h = some (r, h') ∧ Fq h h' ∧ Ext (v % 2) (fun y => lesV b (if v < 2 then 0 else 1) (sy b y)) (cyN b) r := by
  have hC := cyN_bd ok
  generalize ha : (if v < 2 then (0 : Int) else 1) = a0
  have hvb : ∀ s, 0 ≤ lesV b a0 s ∧ lesV b a0 s ≤ 1000 := fun s => by
    unfold lesV; split
    · rename_i c; have := lesS_bd ok (a := a0) c; omega
    · omega
  have := lp_inv (fun n k (a : Int × Hp) => Md_course_L48 N v (cyN b) n a.1 k a.2) (fun k a => (-1 ≤ a.1 ∧ a.1 ≤ 1000) ∧ Ext (v % 2) (fun y => lesV b a0 (sy b y)) k a.1 ∧ Fq h a.2) (fun r => Ext (v % 2) (fun y => lesV b a0 (sy b y)) (cyN b) r.1 ∧ Fq h r.2) (cyN b)
    (fun n k a hk hp => by
      obtain ⟨a, x⟩ := a
      obtain ⟨k0, k1, k2⟩ := hp
      dsimp only at k0 k1 k2
      obtain ⟨x', e1, e2, e3, e4⟩ := m_resY (h := x) (N := N) (by omega) ok (k2.bk hb) (y := k) (by omega)
      have yr := (Yr_s ok (sy_ofn ok k)).2
      have hy := yr.bd ok
      have hst := Ext_step k1 (fun s => by have := hvb (sy b s); omega)
      have hvk := hvb (sy b k)
      have hpos : lesV b a0 (sy b k) = lesS b a0 (sy b k) := if_pos (sy_ofn ok k)
      have mid : ∃ x2, Fb x' x2 ∧ (if v < 2 then M_Md_lessons N x' 0 (x' 83 15) else M_Md_lessons N x' (x' 83 15) (x' 83 13)) = some (lesV b a0 (sy b k), x2) := by
        rw [e4.my.pasch, e4.my.days, hpos]
        by_cases c : v < 2
        · rw [if_pos c] at ha ⊢
          obtain ⟨x2, f1, f2⟩ := m_lessons (h := x') (N := N) (by omega) ok yr e4 (i := 0) (j := (spc b (sy b k)).toNat) (by omega) (by omega)
          refine ⟨x2, f2, ?_⟩
          rw [Int.natCast_zero, show (((spc b (sy b k)).toNat : Nat) : Int) = spc b (sy b k) by omega, cnt_zero, Int.sub_zero] at f1
          rw [f1]; unfold lesS; rw [if_pos ha.symm]
        · rw [if_neg c] at ha ⊢
          obtain ⟨x2, f1, f2⟩ := m_lessons (h := x') (N := N) (by omega) ok yr e4 (i := (spc b (sy b k)).toNat) (j := (yd b + sl (sy b k)).toNat) (by omega) (by omega)
          refine ⟨x2, f2, ?_⟩
          rw [show (((spc b (sy b k)).toNat : Nat) : Int) = spc b (sy b k) by omega, show (((yd b + sl (sy b k)).toNat : Nat) : Int) = yd b + sl (sy b k) by omega] at f1
          rw [f1]; unfold lesS; rw [if_neg (by omega)]
      obtain ⟨x2, f2, f1⟩ := mid
      refine Or.inl ⟨(fur (v % 2) a (lesV b a0 (sy b k)), x2), ⟨by dsimp only; unfold fur; split <;> (try split) <;> omega, hst, k2.trans (e2.trans f2.fq)⟩, ?_⟩
      dsimp only
      rw [Md_course_L48, e1, pu_bs]
      unfold fur
      by_cases c0 : v < 2
      · rw [if_pos c0] at f1
        by_cases c2 : a = -1
        · rw [if_pos (Or.inl c2), show max a (lesV b a0 (sy b k)) = lesV b a0 (sy b k) by omega]
          simp (disch := omega) only [leb_iff, ltb_iff, eqb_iff, pu_rmP, pu_dvP, pu_bs, pu_b0, pu_b1, pu_c0, pu_c1, pu_lt, pu_rdN, pu_wrN, hs_at, hs_cell, hs_slot, if_true, if_false, true_and, and_true, pu_rd, pu_wr, Int.reduceToNat, Int.toNat_natCast, decide_eq_true_eq, Int.add_zero, Bool.false_eq_true, if_pos, if_neg, f1]
        · rw [if_neg (show ¬ (a = -1 ∨ lesV b a0 (sy b k) = -1) by omega)]
          by_cases c4 : v % 2 = 0
          · rw [if_pos c4]
            by_cases c3 : a ≤ lesV b a0 (sy b k)
            · rw [show min a (lesV b a0 (sy b k)) = a by omega]
              simp (disch := omega) only [leb_iff, ltb_iff, eqb_iff, pu_rmP, pu_dvP, pu_bs, pu_b0, pu_b1, pu_c0, pu_c1, pu_lt, pu_rdN, pu_wrN, hs_at, hs_cell, hs_slot, if_true, if_false, true_and, and_true, pu_rd, pu_wr, Int.reduceToNat, Int.toNat_natCast, decide_eq_true_eq, Int.add_zero, Bool.false_eq_true, if_pos, if_neg, f1]
            · rw [show min a (lesV b a0 (sy b k)) = lesV b a0 (sy b k) by omega]
              simp (disch := omega) only [leb_iff, ltb_iff, eqb_iff, pu_rmP, pu_dvP, pu_bs, pu_b0, pu_b1, pu_c0, pu_c1, pu_lt, pu_rdN, pu_wrN, hs_at, hs_cell, hs_slot, if_true, if_false, true_and, and_true, pu_rd, pu_wr, Int.reduceToNat, Int.toNat_natCast, decide_eq_true_eq, Int.add_zero, Bool.false_eq_true, if_pos, if_neg, f1]
          · rw [if_neg c4]
            by_cases c3 : lesV b a0 (sy b k) ≤ a
            · rw [show max a (lesV b a0 (sy b k)) = a by omega]
              simp (disch := omega) only [leb_iff, ltb_iff, eqb_iff, pu_rmP, pu_dvP, pu_bs, pu_b0, pu_b1, pu_c0, pu_c1, pu_lt, pu_rdN, pu_wrN, hs_at, hs_cell, hs_slot, if_true, if_false, true_and, and_true, pu_rd, pu_wr, Int.reduceToNat, Int.toNat_natCast, decide_eq_true_eq, Int.add_zero, Bool.false_eq_true, if_pos, if_neg, f1]
            · rw [show max a (lesV b a0 (sy b k)) = lesV b a0 (sy b k) by omega]
              simp (disch := omega) only [leb_iff, ltb_iff, eqb_iff, pu_rmP, pu_dvP, pu_bs, pu_b0, pu_b1, pu_c0, pu_c1, pu_lt, pu_rdN, pu_wrN, hs_at, hs_cell, hs_slot, if_true, if_false, true_and, and_true, pu_rd, pu_wr, Int.reduceToNat, Int.toNat_natCast, decide_eq_true_eq, Int.add_zero, Bool.false_eq_true, if_pos, if_neg, f1]
      · rw [if_neg c0] at f1
        by_cases c2 : a = -1
        · rw [if_pos (Or.inl c2), show max a (lesV b a0 (sy b k)) = lesV b a0 (sy b k) by omega]
          simp (disch := omega) only [leb_iff, ltb_iff, eqb_iff, pu_rmP, pu_dvP, pu_bs, pu_b0, pu_b1, pu_c0, pu_c1, pu_lt, pu_rdN, pu_wrN, hs_at, hs_cell, hs_slot, if_true, if_false, true_and, and_true, pu_rd, pu_wr, Int.reduceToNat, Int.toNat_natCast, decide_eq_true_eq, Int.add_zero, Bool.false_eq_true, if_pos, if_neg, f1]
        · rw [if_neg (show ¬ (a = -1 ∨ lesV b a0 (sy b k) = -1) by omega)]
          by_cases c4 : v % 2 = 0
          · rw [if_pos c4]
            by_cases c3 : a ≤ lesV b a0 (sy b k)
            · rw [show min a (lesV b a0 (sy b k)) = a by omega]
              simp (disch := omega) only [leb_iff, ltb_iff, eqb_iff, pu_rmP, pu_dvP, pu_bs, pu_b0, pu_b1, pu_c0, pu_c1, pu_lt, pu_rdN, pu_wrN, hs_at, hs_cell, hs_slot, if_true, if_false, true_and, and_true, pu_rd, pu_wr, Int.reduceToNat, Int.toNat_natCast, decide_eq_true_eq, Int.add_zero, Bool.false_eq_true, if_pos, if_neg, f1]
            · rw [show min a (lesV b a0 (sy b k)) = lesV b a0 (sy b k) by omega]
              simp (disch := omega) only [leb_iff, ltb_iff, eqb_iff, pu_rmP, pu_dvP, pu_bs, pu_b0, pu_b1, pu_c0, pu_c1, pu_lt, pu_rdN, pu_wrN, hs_at, hs_cell, hs_slot, if_true, if_false, true_and, and_true, pu_rd, pu_wr, Int.reduceToNat, Int.toNat_natCast, decide_eq_true_eq, Int.add_zero, Bool.false_eq_true, if_pos, if_neg, f1]
          · rw [if_neg c4]
            by_cases c3 : lesV b a0 (sy b k) ≤ a
            · rw [show max a (lesV b a0 (sy b k)) = a by omega]
              simp (disch := omega) only [leb_iff, ltb_iff, eqb_iff, pu_rmP, pu_dvP, pu_bs, pu_b0, pu_b1, pu_c0, pu_c1, pu_lt, pu_rdN, pu_wrN, hs_at, hs_cell, hs_slot, if_true, if_false, true_and, and_true, pu_rd, pu_wr, Int.reduceToNat, Int.toNat_natCast, decide_eq_true_eq, Int.add_zero, Bool.false_eq_true, if_pos, if_neg, f1]
            · rw [show max a (lesV b a0 (sy b k)) = lesV b a0 (sy b k) by omega]
              simp (disch := omega) only [leb_iff, ltb_iff, eqb_iff, pu_rmP, pu_dvP, pu_bs, pu_b0, pu_b1, pu_c0, pu_c1, pu_lt, pu_rdN, pu_wrN, hs_at, hs_cell, hs_slot, if_true, if_false, true_and, and_true, pu_rd, pu_wr, Int.reduceToNat, Int.toNat_natCast, decide_eq_true_eq, Int.add_zero, Bool.false_eq_true, if_pos, if_neg, f1])
    (fun n a hp => by
      obtain ⟨a, x⟩ := a
      refine ⟨(a, x), ?_, hp.2⟩
      dsimp only
      rw [Md_course_L48]
      simp (disch := omega) only [leb_iff, ltb_iff, eqb_iff, pu_rmP, pu_dvP, pu_bs, pu_b0, pu_b1, pu_c0, pu_c1, pu_lt, pu_rdN, pu_wrN, hs_at, hs_cell, hs_slot, if_true, if_false, true_and, and_true, pu_rd, pu_wr, Int.reduceToNat, Int.toNat_natCast, decide_eq_true_eq, Int.add_zero, Bool.false_eq_true, if_pos, if_neg]) N 0 (-1, h) (by omega) (by omega) ⟨by dsimp only; omega, Or.inl ⟨rfl, fun y hy => by omega⟩, Fq.refl h⟩
  obtain ⟨⟨r, x⟩, e, e1, e2⟩ := this
  exact ⟨r, x, e, e2, e1⟩
theorem m_interval_L (hN : 2000 < N) (ok : OkB b) (hb : h 84 = b) {f : Nat} (hf : (f : Int) < b 42) {t : Int} (ht : t = 0 ∨ t = 1) : ∃ r h', Md_interval_L40 N f t (cyN b) N (-1) (-1) 0 h = some (r, h') ∧ Fq h h' ∧ Ext t (gpv b f) (cyN b) r := by
  have hm := ok.many
  have hC := cyN_bd ok
  have hyd := yd_le ok
  have := lp_inv (fun n k (a : Int × Int × Hp) => Md_interval_L40 N f t (cyN b) n a.1 a.2.1 k a.2.2) (fun k a => (-1 ≤ a.1 ∧ a.1 ≤ 1000) ∧ Ext t (gpv b f) (k - 1) a.1 ∧ (k = 0 → a.2.1 = -1) ∧ (∀ j, k = j + 1 → a.2.1 = if (rsS b (sy b j)).1 f = -1 then -1 else yd b + lp b j - (rsS b (sy b j)).1 f) ∧ Fq h a.2.2) (fun r => Ext t (gpv b f) (cyN b) r.1 ∧ Fq h r.2) (cyN b + 1)
    (fun n k a hk hp => by
      obtain ⟨a, lf, x⟩ := a
      obtain ⟨k0, k1, k3, k4, k2⟩ := hp
      dsimp only at k0 k1 k2 k3 k4
      obtain ⟨x', e1, e2, e3, e4⟩ := m_resY (h := x) (N := N) (by omega) ok (k2.bk hb) (y := k) (by omega)
      have h1 := (e4.ro f hf).1
      have h4 := plS_bd ok (sy b k) hf
      have sp := sy_spec ok k
      have hdays : x' 83 13 = yd b + lp b k := by rw [e4.my.days, sp.2.2.1]
      have hlp := lp_le b (k : Int)
      cases k with
      | zero =>
        have k5 := k3 rfl
        refine Or.inl ⟨(a, if (rsS b (sy b 0)).1 f = -1 then -1 else yd b + lp b ((0 : Nat) : Int) - (rsS b (sy b 0)).1 f, x'), ⟨k0, k1, fun e => by omega, fun j hj => ?_, k2.trans e2⟩, ?_⟩
        · have : j = 0 := by omega
          subst this; rfl
        · dsimp only
          rw [Md_interval_L40, e1, pu_bs, k5]
          by_cases c1 : (rsS b (sy b 0)).1 f = -1
          · simp (disch := omega) only [leb_iff, ltb_iff, eqb_iff, pu_rmP, pu_dvP, pu_bs, pu_b0, pu_b1, pu_c0, pu_c1, pu_lt, pu_rdN, pu_wrN, hs_at, hs_cell, hs_slot, if_true, if_false, true_and, and_true, pu_rd, pu_wr, Int.reduceToNat, Int.toNat_natCast, decide_eq_true_eq, Int.add_zero, Bool.false_eq_true, if_pos, if_neg, h1]
          · simp (disch := omega) only [leb_iff, ltb_iff, eqb_iff, pu_rmP, pu_dvP, pu_bs, pu_b0, pu_b1, pu_c0, pu_c1, pu_lt, pu_rdN, pu_wrN, hs_at, hs_cell, hs_slot, if_true, if_false, true_and, and_true, pu_rd, pu_wr, Int.reduceToNat, Int.toNat_natCast, decide_eq_true_eq, Int.add_zero, Bool.false_eq_true, if_pos, if_neg, h1, hdays]
      | succ j =>
        have k5 := k4 j rfl
        have hst := Ext_step k1 (fun s => (gpv_bd ok hf s).1)
        rw [show j + 1 - 1 = j by omega] at hst
        have hg := gpv_bd ok hf j
        have hpj := plS_bd ok (sy b j) hf
        have hlj := lp_le b (j : Int)
        have hres := res_P ok (sl (sy b j)) (spc b (sy b j)) hf
        unfold PlO at hres
        rw [(sy_spec ok j).2.2.1] at hres
        have hej : (rsS b (sy b j)).1 f = (res b (lp b j) (spc b (sy b j))).1 f := by unfold rsS; rw [(sy_spec ok j).2.2.1]
        refine Or.inl ⟨(fur t a (gpv b f j), if (rsS b (sy b (j + 1))).1 f = -1 then -1 else yd b + lp b ((j + 1 : Nat) : Int) - (rsS b (sy b (j + 1))).1 f, x'), ⟨by dsimp only; unfold fur; split <;> (try split) <;> omega, hst, fun e => by omega, fun i hi => ?_, k2.trans e2⟩, ?_⟩
        · have : i = j + 1 := by omega
          subst this; rfl
        · dsimp only
          rw [Md_interval_L40, e1, pu_bs, k5]
          by_cases c1 : (rsS b (sy b j)).1 f = -1
          · have e : gpv b f j = -1 := if_neg (fun x => x.1 c1)
            have e3 : fur t a (gpv b f j) = a := by unfold fur; rw [if_pos (Or.inr e)]; omega
            rw [e3, if_pos c1]
            by_cases c2 : (rsS b (sy b (j + 1))).1 f = -1
            · simp (disch := omega) only [leb_iff, ltb_iff, eqb_iff, pu_rmP, pu_dvP, pu_bs, pu_b0, pu_b1, pu_c0, pu_c1, pu_lt, pu_rdN, pu_wrN, hs_at, hs_cell, hs_slot, if_true, if_false, true_and, and_true, pu_rd, pu_wr, Int.reduceToNat, Int.toNat_natCast, decide_eq_true_eq, Int.add_zero, Bool.false_eq_true, if_pos, if_neg, h1]
            · simp (disch := omega) only [leb_iff, ltb_iff, eqb_iff, pu_rmP, pu_dvP, pu_bs, pu_b0, pu_b1, pu_c0, pu_c1, pu_lt, pu_rdN, pu_wrN, hs_at, hs_cell, hs_slot, if_true, if_false, true_and, and_true, pu_rd, pu_wr, Int.reduceToNat, Int.toNat_natCast, decide_eq_true_eq, Int.add_zero, Bool.false_eq_true, if_pos, if_neg, h1, hdays]
          · rw [if_neg c1]
            by_cases c2 : (rsS b (sy b (j + 1))).1 f = -1
            · have e : gpv b f j = -1 := if_neg (fun x => x.2 c2)
              have e3 : fur t a (gpv b f j) = a := by unfold fur; rw [if_pos (Or.inr e)]; omega
              rw [e3]
              simp (disch := omega) only [leb_iff, ltb_iff, eqb_iff, pu_rmP, pu_dvP, pu_bs, pu_b0, pu_b1, pu_c0, pu_c1, pu_lt, pu_rdN, pu_wrN, hs_at, hs_cell, hs_slot, if_true, if_false, true_and, and_true, pu_rd, pu_wr, Int.reduceToNat, Int.toNat_natCast, decide_eq_true_eq, Int.add_zero, Bool.false_eq_true, if_pos, if_neg, h1]
            · have e : gpv b f j = yd b + lp b j - (rsS b (sy b j)).1 f + (rsS b (sy b (j + 1))).1 f := if_pos ⟨c1, c2⟩
              unfold fur
              by_cases c3 : a = -1
              · rw [if_pos (Or.inl c3), show max a (gpv b f j) = gpv b f j by omega, e]
                simp (disch := omega) only [leb_iff, ltb_iff, eqb_iff, pu_rmP, pu_dvP, pu_bs, pu_b0, pu_b1, pu_c0, pu_c1, pu_lt, pu_rdN, pu_wrN, hs_at, hs_cell, hs_slot, if_true, if_false, true_and, and_true, pu_rd, pu_wr, Int.reduceToNat, Int.toNat_natCast, decide_eq_true_eq, Int.add_zero, Bool.false_eq_true, if_pos, if_neg, h1, hdays]
              · rw [if_neg (show ¬ (a = -1 ∨ gpv b f j = -1) by omega)]
                rcases ht with et | et
                · subst et
                  rw [if_pos rfl]
                  by_cases c4 : a ≤ gpv b f j
                  · rw [show min a (gpv b f j) = a by omega]
                    rw [e] at c4
                    simp (disch := omega) only [leb_iff, ltb_iff, eqb_iff, pu_rmP, pu_dvP, pu_bs, pu_b0, pu_b1, pu_c0, pu_c1, pu_lt, pu_rdN, pu_wrN, hs_at, hs_cell, hs_slot, if_true, if_false, true_and, and_true, pu_rd, pu_wr, Int.reduceToNat, Int.toNat_natCast, decide_eq_true_eq, Int.add_zero, Bool.false_eq_true, if_pos, if_neg, h1, hdays]
                  · rw [show min a (gpv b f j) = gpv b f j by omega, e]
                    rw [e] at c4
                    simp (disch := omega) only [leb_iff, ltb_iff, eqb_iff, pu_rmP, pu_dvP, pu_bs, pu_b0, pu_b1, pu_c0, pu_c1, pu_lt, pu_rdN, pu_wrN, hs_at, hs_cell, hs_slot, if_true, if_false, true_and, and_true, pu_rd, pu_wr, Int.reduceToNat, Int.toNat_natCast, decide_eq_true_eq, Int.add_zero, Bool.false_eq_true, if_pos, if_neg, h1, hdays]
                · subst et
                  rw [if_neg (show ¬ (1 : Int) = 0 by omega)]
                  by_cases c4 : gpv b f j ≤ a
                  · rw [show max a (gpv b f j) = a by omega]
                    rw [e] at c4
                    simp (disch := omega) only [leb_iff, ltb_iff, eqb_iff, pu_rmP, pu_dvP, pu_bs, pu_b0, pu_b1, pu_c0, pu_c1, pu_lt, pu_rdN, pu_wrN, hs_at, hs_cell, hs_slot, if_true, if_false, true_and, and_true, pu_rd, pu_wr, Int.reduceToNat, Int.toNat_natCast, decide_eq_true_eq, Int.add_zero, Bool.false_eq_true, if_pos, if_neg, h1, hdays]
                  · rw [show max a (gpv b f j) = gpv b f j by omega, e]
                    rw [e] at c4
                    simp (disch := omega) only [leb_iff, ltb_iff, eqb_iff, pu_rmP, pu_dvP, pu_bs, pu_b0, pu_b1, pu_c0, pu_c1, pu_lt, pu_rdN, pu_wrN, hs_at, hs_cell, hs_slot, if_true, if_false, true_and, and_true, pu_rd, pu_wr, Int.reduceToNat, Int.toNat_natCast, decide_eq_true_eq, Int.add_zero, Bool.false_eq_true, if_pos, if_neg, h1, hdays])
    (fun n a hp => by
      obtain ⟨a, lf, x⟩ := a
      refine ⟨(a, x), ?_, hp.2.1, hp.2.2.2.2⟩
      dsimp only
      rw [Md_interval_L40]
      simp (disch := omega) only [leb_iff, ltb_iff, eqb_iff, pu_rmP, pu_dvP, pu_bs, pu_b0, pu_b1, pu_c0, pu_c1, pu_lt, pu_rdN, pu_wrN, hs_at, hs_cell, hs_slot, if_true, if_false, true_and, and_true, pu_rd, pu_wr, Int.reduceToNat, Int.toNat_natCast, decide_eq_true_eq, Int.add_zero, Bool.false_eq_true, if_pos, if_neg]) N 0 (-1, -1, h) (by omega) (by omega) ⟨by dsimp only; omega, Or.inl ⟨rfl, fun y hy => by omega⟩, fun _ => rfl, fun j hj => by omega, Fq.refl h⟩
  obtain ⟨⟨r, x⟩, e, e1, e2⟩ := this
  exact ⟨r, x, e, e2, e1⟩
end Mt
