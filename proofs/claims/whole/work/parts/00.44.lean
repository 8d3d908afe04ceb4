theorem rk_inj {b : Nat → Int} (ok : OkB b) {i j : Nat} (hi : (i : Int) < b 42) (hj : (j : Int) < b 42) (e : rk b i = rk b j) : i = j := by
  have h1 := (rk_spec ok hi).2
  have h2 := (rk_spec ok hj).2
  rw [e] at h1
  omega
def JOk (b : Nat → Int) (l p : Int) (s : St) : Prop := (∀ o : Nat, (o : Int) < b 42 → s.2.1 o = 0 → dyf b l p o ≠ -1 ∧ s.2.2 (dyf b l p o).toNat = o) ∧ (∀ d o : Nat, s.2.2 d = o → s.2.1 o = 0 → dyf b l p o = d)
def PlO (b : Nat → Int) (l : Int) (s : St) (f : Nat) : Prop := s.1 f = -1 ∨ (0 ≤ s.1 f ∧ s.1 f < yd b + l)
theorem kps_J {b : Nat → Int} (ok : OkB b) (l p : Int) : ∀ n : Nat, (n : Int) ≤ b 42 →
    (∀ j : Nat, j < n → (kps b l p n).2.1 (rk b j) = 0 → dyf b l p (rk b j) ≠ -1 ∧ (kps b l p n).2.2 (dyf b l p (rk b j)).toNat = rk b j) ∧
    (∀ d : Nat, (kps b l p n).2.2 d ≠ -1 → ∃ j : Nat, j < n ∧ (kps b l p n).2.2 d = rk b j ∧ (kps b l p n).2.1 (rk b j) = 0 ∧ dyf b l p (rk b j) = d) ∧
    (∀ j : Nat, j < n → PlO b l (kps b l p n) (rk b j)) := by
  intro n
  induction n with
  | zero => intro _; exact ⟨fun j h => by omega, fun d hd => absurd rfl hd, fun j h => by omega⟩
  | succ n ih =>
    intro hn
    obtain ⟨h1, h2, h3⟩ := ih (by omega)
    have hinj : ∀ j : Nat, j < n → rk b j ≠ rk b n := fun j hj e => by have := rk_inj ok (by omega) (by omega) e; omega
    have hdb := dyf_bd (b := b) l p (rk b n)
    rw [kps]; unfold kp
    by_cases c1 : dyf b l p (rk b n) = -1
    · rw [if_pos c1]
      refine ⟨fun j hj => ?_, fun d hd => ?_, fun j hj => ?_⟩
      · by_cases e : j = n
        · subst e; dsimp only; rw [pu_up_at]; intro x; omega
        · dsimp only; rw [pu_up_ne (hinj j (by omega))]; exact h1 j (by omega)
      · obtain ⟨j, j1, j2, j3, j4⟩ := h2 d hd
        refine ⟨j, by omega, j2, ?_, j4⟩
        dsimp only; rw [pu_up_ne (hinj j j1)]; exact j3
      · unfold PlO
        by_cases e : j = n
        · subst e; dsimp only; rw [pu_up_at]; exact Or.inl rfl
        · dsimp only; rw [pu_up_ne (hinj j (by omega))]; exact h3 j (by omega)
    · rw [if_neg c1]
      by_cases c2 : bse b l p (dyf b l p (rk b n)) < cl b (rk b n) ∧ (kps b l p n).2.2 (dyf b l p (rk b n)).toNat = -1
      · rw [if_pos c2]
        refine ⟨fun j hj => ?_, fun d hd => ?_, fun j hj => ?_⟩
        · by_cases e : j = n
          · subst e; dsimp only; intro _; rw [pu_up_at]; exact ⟨c1, rfl⟩
          · dsimp only; rw [pu_up_ne (hinj j (by omega))]; intro x
            obtain ⟨y1, y2⟩ := h1 j (by omega) x
            refine ⟨y1, ?_⟩
            rw [pu_up_ne (fun z => ?_)]
            · exact y2
            · rw [z, c2.2] at y2; omega
        · dsimp only at hd ⊢
          by_cases e : d = (dyf b l p (rk b n)).toNat
          · subst e
            refine ⟨n, by omega, ?_, ?_, by omega⟩
            · rw [pu_up_at]
            · rw [pu_up_at]
          · rw [pu_up_ne e] at hd
            obtain ⟨j, j1, j2, j3, j4⟩ := h2 d hd
            refine ⟨j, by omega, ?_, ?_, j4⟩
            · rw [pu_up_ne e]; exact j2
            · rw [pu_up_ne (hinj j j1)]; exact j3
        · unfold PlO
          by_cases e : j = n
          · subst e; dsimp only; rw [pu_up_at]; omega
          · dsimp only; rw [pu_up_ne (hinj j (by omega))]; exact h3 j (by omega)
      · rw [if_neg c2]
        refine ⟨fun j hj => ?_, fun d hd => ?_, fun j hj => ?_⟩
        · by_cases e : j = n
          · subst e; dsimp only; rw [pu_up_at]; intro x; omega
          · dsimp only; rw [pu_up_ne (hinj j (by omega))]; exact h1 j (by omega)
        · obtain ⟨j, j1, j2, j3, j4⟩ := h2 d hd
          refine ⟨j, by omega, j2, ?_, j4⟩
          dsimp only; rw [pu_up_ne (hinj j j1)]; exact j3
        · unfold PlO
          by_cases e : j = n
          · subst e; dsimp only; rw [pu_up_at]; exact Or.inl rfl
          · dsimp only; rw [pu_up_ne (hinj j (by omega))]; exact h3 j (by omega)
theorem kps_J2 {b : Nat → Int} (ok : OkB b) (l p : Int) : JOk b l p (kps b l p (b 42).toNat) := by
  have hm := ok.many
  obtain ⟨h1, h2, h3⟩ := kps_J ok l p (b 42).toNat (by omega)
  refine ⟨fun o ho h0 => ?_, fun d o e h0 => ?_⟩
  · obtain ⟨j, hj, e⟩ := rk_onto ok ho
    rw [← e] at h0 ⊢
    exact h1 j (by omega) h0
  · obtain ⟨j, j1, j2, j3, j4⟩ := h2 d (by omega)
    have : o = rk b j := by omega
    rw [this]; exact j4
theorem J_fate {b : Nat → Int} {l p : Int} {s : St} {f : Nat} {v : Int} (x : Nat → Int) (hv : v ≠ 0) (j : JOk b l p s) : JOk b l p (x, pu_up s.2.1 f v, s.2.2) := by
  refine ⟨fun o ho h0 => ?_, fun d o e h0 => ?_⟩
  · dsimp only at h0 ⊢
    by_cases c : o = f
    · subst c; rw [pu_up_at] at h0; exact absurd h0 hv
    · rw [pu_up_ne c] at h0; exact j.1 o ho h0
  · dsimp only at e h0
    by_cases c : o = f
    · subst c; rw [pu_up_at] at h0; exact absurd h0 hv
    · rw [pu_up_ne c] at h0; exact j.2 d o e h0
theorem J_mvd {b : Nat → Int} {l p : Int} {s : St} {f : Nat} {r : Int} (j : JOk b l p s) (hr : r = -1 ∨ (0 ≤ r ∧ r < yd b + l ∧ s.2.2 r.toNat = -1)) : JOk b l p (mvd s f r) := by
  unfold mvd
  split
  · exact J_fate _ (by omega) j
  · rename_i hn
    have hr2 : 0 ≤ r ∧ r < yd b + l ∧ s.2.2 r.toNat = -1 := by rcases hr with e | e; exact absurd e hn; exact e
    refine ⟨fun o ho h0 => ?_, fun d o e h0 => ?_⟩
    · dsimp only at h0 ⊢
      by_cases c : o = f
      · subst c; rw [pu_up_at] at h0; omega
      · rw [pu_up_ne c] at h0
        obtain ⟨y1, y2⟩ := j.1 o ho h0
        refine ⟨y1, ?_⟩
        rw [pu_up_ne (fun z => ?_)]
        · exact y2
        · rw [z, hr2.2.2] at y2; omega
    · dsimp only at e h0
      by_cases c : o = f
      · subst c; rw [pu_up_at] at h0; omega
      · rw [pu_up_ne c] at h0
        by_cases c2 : d = r.toNat
        · subst c2; rw [pu_up_at] at e; omega
        · rw [pu_up_ne c2] at e; exact j.2 d o e h0
theorem lws_J {b : Nat → Int} (ok : OkB b) (l p : Int) : ∀ n : Nat, JOk b l p (lws b l p n) := by
  intro n
  induction n with
  | zero => exact kps_J2 ok l p
  | succ n ih =>
    rw [lws]; unfold lw
    split
    · exact ih
    · split
      · exact J_mvd ih (seek_opn _ _)
      · split
        · exact J_mvd ih (seek_opn _ _)
        · split
          · exact J_fate _ (by split <;> omega) ih
          · exact J_fate _ (by omega) ih
theorem res_J {b : Nat → Int} (ok : OkB b) (l p : Int) : JOk b l p (res b l p) := lws_J ok l p _
theorem lws_P {b : Nat → Int} (ok : OkB b) (l p : Int) {f : Nat} (hf : (f : Int) < b 42) : ∀ n : Nat, PlO b l (lws b l p n) f := by
  have mv : ∀ (s : St) (g : Nat) (r : Int), PlO b l s f → (r = -1 ∨ (0 ≤ r ∧ r < yd b + l ∧ s.2.2 r.toNat = -1)) → PlO b l (mvd s g r) f := by
    intro s g r h hr
    unfold mvd PlO at *
    split
    · exact h
    · dsimp only
      by_cases c : f = g
      · subst c; rw [pu_up_at]; omega
      · rw [pu_up_ne c]; exact h
  intro n
  induction n with
  | zero =>
    obtain ⟨j, hj, e⟩ := rk_onto ok hf
    have hm := ok.many
    rw [← e, lws]
    exact (kps_J ok l p (b 42).toNat (by omega)).2.2 j (by omega)
  | succ n ih =>
    rw [lws]; unfold lw
    split
    · exact ih
    · split
      · exact mv _ _ _ ih (seek_opn _ _)
      · split
        · exact mv _ _ _ ih (seek_opn _ _)
        · split <;> exact ih
theorem res_P {b : Nat → Int} (ok : OkB b) (l p : Int) {f : Nat} (hf : (f : Int) < b 42) : PlO b l (res b l p) f := lws_P ok l p hf _
theorem or_zero {a : Int} (h0 : 0 ≤ a) (h1 : a < 100000) : orI a 0 = a := by
  unfold orI
  rw [iZ_zero, Int32.or_zero, toInt_iZ (by omega) (by omega)]
def wgf (b : Nat → Int) (l p : Int) (d : Nat) : Int := ofr b l p d / 160
theorem wgf_bd {b : Nat → Int} (ok : OkB b) (l p : Int) (d : Nat) : 0 ≤ wgf b l p d ∧ wgf b l p d ≤ 9 := by
  have := ofr_bd ok l p d
  unfold wgf; omega
theorem fsum_le {f : Nat → Int} {c : Int} (h : ∀ k, 0 ≤ f k ∧ f k ≤ c) {i : Nat} : ∀ j : Nat, i ≤ j → 0 ≤ fsum f j - fsum f i ∧ fsum f j - fsum f i ≤ (j - i : Nat) * c := by
  intro j
  induction j with
  | zero => intro hi; have : i = 0 := by omega
            subst this; simp
  | succ j ih =>
    intro hi
    by_cases e : i = j + 1
    · subst e; simp
    · have h1 := ih (by omega)
      have h2 := h j
      rw [fsum, show ((j + 1 - i : Nat) : Int) = ((j - i : Nat) : Int) + 1 by omega, Int.add_mul]
      omega
theorem wsum_bd {b : Nat → Int} (ok : OkB b) (l p : Int) {i j : Nat} (h : i ≤ j) (hj : j ≤ 1000) : 0 ≤ fsum (wgf b l p) j - fsum (wgf b l p) i ∧ fsum (wgf b l p) j - fsum (wgf b l p) i ≤ 9000 := by
  have := fsum_le (fun k => wgf_bd ok l p k) j h
  omega
def V (b : Nat → Int) (l p : Int) (n k : Nat) : Int := fsum (wgf b l p) (k + n) - fsum (wgf b l p) k
def hvf (b : Nat → Int) (l p : Int) (n : Nat) : Nat → Int × Int
  | 0 => (0, V b l p n 0)
  | k + 1 => if (hvf b l p n k).2 < V b l p n (k + 1) then (((k + 1 : Nat) : Int), V b l p n (k + 1)) else hvf b l p n k
theorem hvf_V (b : Nat → Int) (l p : Int) (n : Nat) : ∀ k : Nat, ∃ j : Nat, j ≤ k ∧ (hvf b l p n k).1 = j ∧ (hvf b l p n k).2 = V b l p n j
  | 0 => ⟨0, by omega, rfl, rfl⟩
  | k + 1 => by
    obtain ⟨j, h1, h2, h3⟩ := hvf_V b l p n k
    rw [hvf]
    split
    · exact ⟨k + 1, by omega, rfl, rfl⟩
    · exact ⟨j, by omega, h2, h3⟩
section Yw
variable {b : Nat → Int} {h : Hp} {N : Nat} {l p : Int}
theorem c_fastDays (hN : 300 < N) (ok : OkB b) (cb : CB b h 23) (yr : Yr b l p) (ps : PS b l p (res b l p) h) : M_YearPlan_fastDays N h = some (cnt (fsf b l p) (yd b + l).toNat) := by
  have hy := yr.bd ok
  exact lp_fold (fun n k a => YearPlan_fastDays_L4 N h n a k) (cnt (fsf b l p)) _ (yd b + l).toNat
    (fun n k hk => by
      (try dsimp only)
      rw [YearPlan_fastDays_L4, ps.la.days, c_isFast (by omega) ok cb yr ps (by omega), Option.bind_some, cnt_succ]
      cases c : fsf b l p k <;> simp (disch := omega) only [leb_iff, ltb_iff, eqb_iff, pu_rmP, pu_dvP, pu_bs, pu_b0, pu_b1, pu_c0, pu_c1, pu_lt, pu_rdN, pu_wrN, hs_at, hs_cell, hs_slot, if_true, if_false, true_and, and_true, pu_rd, pu_wr, Int.reduceToNat, Int.toNat_natCast, decide_eq_true_eq, Int.add_zero, Bool.false_eq_true, if_pos, if_neg])
    (fun n => by
      (try dsimp only)
      rw [YearPlan_fastDays_L4, ps.la.days]
      simp (disch := omega) only [leb_iff, ltb_iff, eqb_iff, pu_rmP, pu_dvP, pu_bs, pu_b0, pu_b1, pu_c0, pu_c1, pu_lt, pu_rdN, pu_wrN, hs_at, hs_cell, hs_slot, if_true, if_false, true_and, and_true, pu_rd, pu_wr, Int.reduceToNat, Int.toNat_natCast, decide_eq_true_eq, Int.add_zero, Bool.false_eq_true, if_pos, if_neg]) N 0 (by omega) (by omega)
theorem c_longestFast (hN : 300 < N) (ok : OkB b) (cb : CB b h 23) (yr : Yr b l p) (ps : PS b l p (res b l p) h) : M_YearPlan_longestFast N h = some (rnf (fsf b l p) (yd b + l).toNat).1 := by
  have hy := yr.bd ok
  exact lp_fold (fun n k (a : Int × Int) => YearPlan_longestFast_L6 N h n a.1 a.2 k) (rnf (fsf b l p)) _ (yd b + l).toNat
    (fun n k hk => by
      have hb := rnf_bd (fsf b l p) k
      (try dsimp only)
      rw [YearPlan_longestFast_L6, ps.la.days, c_isFast (by omega) ok cb yr ps (by omega), Option.bind_some, pu_mx (by omega) (by omega) (by omega) (by omega), pu_mx (by omega) (by omega) (by omega) (by omega), rnf]
      cases c : fsf b l p k
      · simp (disch := omega) only [leb_iff, ltb_iff, eqb_iff, pu_rmP, pu_dvP, pu_bs, pu_b0, pu_b1, pu_c0, pu_c1, pu_lt, pu_rdN, pu_wrN, hs_at, hs_cell, hs_slot, if_true, if_false, true_and, and_true, pu_rd, pu_wr, Int.reduceToNat, Int.toNat_natCast, decide_eq_true_eq, Int.add_zero, Bool.false_eq_true, if_pos, if_neg]
        rw [show max (rnf (fsf b l p) k).1 0 = (rnf (fsf b l p) k).1 by omega]
      · simp (disch := omega) only [leb_iff, ltb_iff, eqb_iff, pu_rmP, pu_dvP, pu_bs, pu_b0, pu_b1, pu_c0, pu_c1, pu_lt, pu_rdN, pu_wrN, hs_at, hs_cell, hs_slot, if_true, if_false, true_and, and_true, pu_rd, pu_wr, Int.reduceToNat, Int.toNat_natCast, decide_eq_true_eq, Int.add_zero, Bool.false_eq_true, if_pos, if_neg])
    (fun n => by
      (try dsimp only)
      rw [YearPlan_longestFast_L6, ps.la.days]
      simp (disch := omega) only [leb_iff, ltb_iff, eqb_iff, pu_rmP, pu_dvP, pu_bs, pu_b0, pu_b1, pu_c0, pu_c1, pu_lt, pu_rdN, pu_wrN, hs_at, hs_cell, hs_slot, if_true, if_false, true_and, and_true, pu_rd, pu_wr, Int.reduceToNat, Int.toNat_natCast, decide_eq_true_eq, Int.add_zero, Bool.false_eq_true, if_pos, if_neg]) N 0 (by omega) (by omega)
theorem c_weightOf (hN : 300 < N) (ok : OkB b) (yr : Yr b l p) (ps : PS b l p (res b l p) h) {i n : Nat} (hi : ((i + n : Nat) : Int) ≤ yd b + l) : M_YearPlan_weightOf N h i n = some (V b l p n i) := by
  have hy := yr.bd ok
  have := lp_fold (fun m k a => YearPlan_weightOf_L5 N h i n m a k) (fun k => fsum (wgf b l p) k - fsum (wgf b l p) i) (V b l p n i) (i + n)
    (fun m k hk => by
      have hob := ofr_bd ok l p k
      have ho : h 68 k = ofr b l p k := ps.of k (by omega)
      (try dsimp only)
      rw [YearPlan_weightOf_L5, ps.la.days, fsum]
      simp (disch := omega) only [leb_iff, ltb_iff, eqb_iff, pu_rmP, pu_dvP, pu_bs, pu_b0, pu_b1, pu_c0, pu_c1, pu_lt, pu_rdN, pu_wrN, hs_at, hs_cell, hs_slot, if_true, if_false, true_and, and_true, pu_rd, pu_wr, Int.reduceToNat, Int.toNat_natCast, decide_eq_true_eq, Int.add_zero, Bool.false_eq_true, if_pos, if_neg, ho, c_rankIn]
      congr 1
      unfold wgf
      omega)
    (fun m => by
      (try dsimp only)
      rw [YearPlan_weightOf_L5, ps.la.days]
      simp (disch := omega) only [leb_iff, ltb_iff, eqb_iff, pu_rmP, pu_dvP, pu_bs, pu_b0, pu_b1, pu_c0, pu_c1, pu_lt, pu_rdN, pu_wrN, hs_at, hs_cell, hs_slot, if_true, if_false, true_and, and_true, pu_rd, pu_wr, Int.reduceToNat, Int.toNat_natCast, decide_eq_true_eq, Int.add_zero, Bool.false_eq_true, if_pos, if_neg]
      rfl) N i (by omega) (by omega)
  unfold M_YearPlan_weightOf
  rw [Int.sub_self] at this
  exact this
theorem c_heaviestFrom (hN : 300 < N) (ok : OkB b) (yr : Yr b l p) (ps : PS b l p (res b l p) h) {n : Nat} (hn1 : 1 ≤ n) (hn : (n : Int) ≤ yd b + l) : M_YearPlan_heaviestFrom N h n = some (hvf b l p n ((yd b + l).toNat - n)).1 := by
  have hy := yr.bd ok
  unfold M_YearPlan_heaviestFrom
  have h0 := c_weightOf hN ok yr ps (i := 0) (n := n) (by omega)
  rw [Int.natCast_zero] at h0
  rw [h0, Option.bind_some]
  have := lp_fold (fun m k (a : Int × Int × Int) => YearPlan_heaviestFrom_L15 N h n m a.1 a.2.1 a.2.2 (k + 1)) (fun k => (V b l p n k, (hvf b l p n k).2, (hvf b l p n k).1)) (hvf b l p n ((yd b + l).toNat - n)).1 ((yd b + l).toNat - n)
    (fun m k hk => by
      have hob := ofr_bd ok l p k
      have ho : h 68 k = ofr b l p k := ps.of k (by omega)
      have hob2 := ofr_bd ok l p (k + n)
      have ho2 : h 68 (k + n) = ofr b l p (k + n) := ps.of (k + n) (by omega)
      have e2 : V b l p n (k + 1) = V b l p n k + (wgf b l p (k + n) - wgf b l p k) := by
        unfold V; rw [show k + 1 + n = (k + n) + 1 by omega, fsum, fsum]; omega
      have w1 : ofr b l p k / 160 = wgf b l p k := rfl
      have w2 : ofr b l p (k + n) / 160 = wgf b l p (k + n) := rfl
      have b1 : 0 ≤ V b l p n (k + 1) ∧ V b l p n (k + 1) ≤ 9000 := wsum_bd ok l p (by omega) (by omega)
      obtain ⟨j, j1, j2, j3⟩ := hvf_V b l p n k
      have b2 : 0 ≤ V b l p n j ∧ V b l p n j ≤ 9000 := wsum_bd ok l p (by omega) (by omega)
      (try dsimp only)
      rw [YearPlan_heaviestFrom_L15, ps.la.days, hvf, pu_rd (i := (k : Int) + 1 + n - 1) (by omega) (by omega), pu_bs, pu_rd (i := (k : Int) + 1 - 1) (by omega) (by omega), show ((k : Int) + 1 + n - 1).toNat = k + n by omega, show ((k : Int) + 1 - 1).toNat = k by omega, ho2, c_rankIn (by omega) (by omega), pu_bs, pu_bs, ho, c_rankIn (by omega) (by omega), pu_bs, w1, w2, ← e2]
      by_cases c : (hvf b l p n k).2 < V b l p n (k + 1)
      · simp (disch := omega) only [leb_iff, ltb_iff, eqb_iff, pu_rmP, pu_dvP, pu_bs, pu_b0, pu_b1, pu_c0, pu_c1, pu_lt, pu_rdN, pu_wrN, hs_at, hs_cell, hs_slot, if_true, if_false, true_and, and_true, pu_rd, pu_wr, Int.reduceToNat, Int.toNat_natCast, decide_eq_true_eq, Int.add_zero, Bool.false_eq_true, if_pos, if_neg]
        rfl
      · simp (disch := omega) only [leb_iff, ltb_iff, eqb_iff, pu_rmP, pu_dvP, pu_bs, pu_b0, pu_b1, pu_c0, pu_c1, pu_lt, pu_rdN, pu_wrN, hs_at, hs_cell, hs_slot, if_true, if_false, true_and, and_true, pu_rd, pu_wr, Int.reduceToNat, Int.toNat_natCast, decide_eq_true_eq, Int.add_zero, Bool.false_eq_true, if_pos, if_neg])
    (fun m => by
      (try dsimp only)
      rw [YearPlan_heaviestFrom_L15, ps.la.days]
      simp (disch := omega) only [leb_iff, ltb_iff, eqb_iff, pu_rmP, pu_dvP, pu_bs, pu_b0, pu_b1, pu_c0, pu_c1, pu_lt, pu_rdN, pu_wrN, hs_at, hs_cell, hs_slot, if_true, if_false, true_and, and_true, pu_rd, pu_wr, Int.reduceToNat, Int.toNat_natCast, decide_eq_true_eq, Int.add_zero, Bool.false_eq_true, if_pos, if_neg]) N 0 (by omega) (by omega)
  exact this
def lsf (b : Nat → Int) (l p : Int) (f : Nat) : Int := cnt (fun g => decide (dyf b l p f ≠ -1 ∧ dyf b l p g = dyf b l p f)) f
def mtf (b : Nat → Int) (l p : Int) (n : Nat) : Int := cnt (fun f => decide (lsf b l p f = 1)) n
theorem c_lesserThere (hN : 20 < N) (ok : OkB b) (yr : Yr b l p) (la : Laid b l p h) {f : Nat} (hf : (f : Int) < b 42) : M_YearPlan_lesserThere N h f = some (lsf b l p f) := by
  have hm := ok.many
  have hy := yr.bd ok
  have h1 := (la.rows f hf).1
  have h2 := dyf_bd (b := b) l p f
  exact lp_fold (fun n k a => YearPlan_lesserThere_L4 N h f n a k) (cnt (fun g => decide (dyf b l p f ≠ -1 ∧ dyf b l p g = dyf b l p f))) _ f
    (fun n k hk => by
      have h3 := (la.rows k (by omega)).1
      have h4 := dyf_bd (b := b) l p k
      (try dsimp only)
      rw [YearPlan_lesserThere_L4, cnt_succ]
      by_cases c1 : dyf b l p f = -1
      · simp (disch := omega) only [leb_iff, ltb_iff, eqb_iff, pu_rmP, pu_dvP, pu_bs, pu_b0, pu_b1, pu_c0, pu_c1, pu_lt, pu_rdN, pu_wrN, hs_at, hs_cell, hs_slot, if_true, if_false, true_and, and_true, pu_rd, pu_wr, Int.reduceToNat, Int.toNat_natCast, decide_eq_true_eq, Int.add_zero, Bool.false_eq_true, if_pos, if_neg, h1, h3, ne_eq, not_true_eq_false, false_and, decide_false, if_false]
      · by_cases c2 : dyf b l p k = dyf b l p f
        · simp (disch := omega) only [leb_iff, ltb_iff, eqb_iff, pu_rmP, pu_dvP, pu_bs, pu_b0, pu_b1, pu_c0, pu_c1, pu_lt, pu_rdN, pu_wrN, hs_at, hs_cell, hs_slot, if_true, if_false, true_and, and_true, pu_rd, pu_wr, Int.reduceToNat, Int.toNat_natCast, decide_eq_true_eq, Int.add_zero, Bool.false_eq_true, if_pos, if_neg, h1, h3, c1, c2, ne_eq, not_false_eq_true, decide_true]
        · simp (disch := omega) only [leb_iff, ltb_iff, eqb_iff, pu_rmP, pu_dvP, pu_bs, pu_b0, pu_b1, pu_c0, pu_c1, pu_lt, pu_rdN, pu_wrN, hs_at, hs_cell, hs_slot, if_true, if_false, true_and, and_true, pu_rd, pu_wr, Int.reduceToNat, Int.toNat_natCast, decide_eq_true_eq, Int.add_zero, Bool.false_eq_true, if_pos, if_neg, h1, h3])
    (fun n => by
      (try dsimp only)
      rw [YearPlan_lesserThere_L4]
      simp (disch := omega) only [leb_iff, ltb_iff, eqb_iff, pu_rmP, pu_dvP, pu_bs, pu_b0, pu_b1, pu_c0, pu_c1, pu_lt, pu_rdN, pu_wrN, hs_at, hs_cell, hs_slot, if_true, if_false, true_and, and_true, pu_rd, pu_wr, Int.reduceToNat, Int.toNat_natCast, decide_eq_true_eq, Int.add_zero, Bool.false_eq_true, if_pos, if_neg]
      rfl) N 0 (by omega) (by omega)
theorem c_meetings (hN : 20 < N) (ok : OkB b) (cb : CB b h 23) (yr : Yr b l p) (la : Laid b l p h) : M_YearPlan_meetings N h = some (mtf b l p (b 42).toNat) := by
  have hm := ok.many
  exact lp_fold (fun n k a => YearPlan_meetings_L4 N h n a k) (fun n => mtf b l p n) _ (b 42).toNat
    (fun n k hk => by
      have hb := cnt_bd (fun g => decide (dyf b l p k ≠ -1 ∧ dyf b l p g = dyf b l p k)) k
      have hb2 : 0 ≤ lsf b l p k ∧ lsf b l p k ≤ k := hb
      (try dsimp only)
      unfold mtf
      rw [YearPlan_meetings_L4, cb_many cb, c_lesserThere hN ok yr la (by omega), Option.bind_some, cnt_succ]
      by_cases c : lsf b l p k = 1
      · simp (disch := omega) only [leb_iff, ltb_iff, eqb_iff, pu_rmP, pu_dvP, pu_bs, pu_b0, pu_b1, pu_c0, pu_c1, pu_lt, pu_rdN, pu_wrN, hs_at, hs_cell, hs_slot, if_true, if_false, true_and, and_true, pu_rd, pu_wr, Int.reduceToNat, Int.toNat_natCast, decide_eq_true_eq, Int.add_zero, Bool.false_eq_true, if_pos, if_neg, c, decide_true]
      · simp (disch := omega) only [leb_iff, ltb_iff, eqb_iff, pu_rmP, pu_dvP, pu_bs, pu_b0, pu_b1, pu_c0, pu_c1, pu_lt, pu_rdN, pu_wrN, hs_at, hs_cell, hs_slot, if_true, if_false, true_and, and_true, pu_rd, pu_wr, Int.reduceToNat, Int.toNat_natCast, decide_eq_true_eq, Int.add_zero, Bool.false_eq_true, if_pos, if_neg])
    (fun n => by
      (try dsimp only)
      rw [YearPlan_meetings_L4, cb_many cb]
      simp (disch := omega) only [leb_iff, ltb_iff, eqb_iff, pu_rmP, pu_dvP, pu_bs, pu_b0, pu_b1, pu_c0, pu_c1, pu_lt, pu_rdN, pu_wrN, hs_at, hs_cell, hs_slot, if_true, if_false, true_and, and_true, pu_rd, pu_wr, Int.reduceToNat, Int.toNat_natCast, decide_eq_true_eq, Int.add_zero, Bool.false_eq_true, if_pos, if_neg]) N 0 (by omega) (by omega)
theorem c_feastsWith (hN : 20 < N) (ok : OkB b) (cb : CB b h 23) {s : St} (hfa : ∀ f : Nat, (f : Int) < b 42 → FaOk b l p s f) (ps : PS b l p s h) {t : Int} (ht : -10 ≤ t ∧ t ≤ 10) : M_YearPlan_feastsWith N h t = some (cnt (fun f => decide (s.2.1 f = t)) (b 42).toNat) := by
  have hm := ok.many
  exact lp_fold (fun n k a => YearPlan_feastsWith_L4 N h t n a k) (cnt (fun f => decide (s.2.1 f = t))) _ (b 42).toNat
    (fun n k hk => by
      have h1 := (ps.ro k (by omega)).2
      have h2 := hfa k (by omega)
      unfold FaOk at h2
      (try dsimp only)
      rw [YearPlan_feastsWith_L4, cb_many cb, cnt_succ]
      by_cases c : s.2.1 k = t
      · simp (disch := omega) only [leb_iff, ltb_iff, eqb_iff, pu_rmP, pu_dvP, pu_bs, pu_b0, pu_b1, pu_c0, pu_c1, pu_lt, pu_rdN, pu_wrN, hs_at, hs_cell, hs_slot, if_true, if_false, true_and, and_true, pu_rd, pu_wr, Int.reduceToNat, Int.toNat_natCast, decide_eq_true_eq, Int.add_zero, Bool.false_eq_true, if_pos, if_neg, h1]
      · simp (disch := omega) only [leb_iff, ltb_iff, eqb_iff, pu_rmP, pu_dvP, pu_bs, pu_b0, pu_b1, pu_c0, pu_c1, pu_lt, pu_rdN, pu_wrN, hs_at, hs_cell, hs_slot, if_true, if_false, true_and, and_true, pu_rd, pu_wr, Int.reduceToNat, Int.toNat_natCast, decide_eq_true_eq, Int.add_zero, Bool.false_eq_true, if_pos, if_neg, h1])
    (fun n => by
      (try dsimp only)
      rw [YearPlan_feastsWith_L4, cb_many cb]
      simp (disch := omega) only [leb_iff, ltb_iff, eqb_iff, pu_rmP, pu_dvP, pu_bs, pu_b0, pu_b1, pu_c0, pu_c1, pu_lt, pu_rdN, pu_wrN, hs_at, hs_cell, hs_slot, if_true, if_false, true_and, and_true, pu_rd, pu_wr, Int.reduceToNat, Int.toNat_natCast, decide_eq_true_eq, Int.add_zero, Bool.false_eq_true, if_pos, if_neg]) N 0 (by omega) (by omega)
def ylf (b : Nat → Int) (l p : Int) (f : Nat) : Int := if (res b l p).2.1 f = 0 ∨ (res b l p).2.1 f = 5 then -1 else if (res b l p).2.2 (dyf b l p f).toNat ≠ -1 ∧ (res b l p).2.1 ((res b l p).2.2 (dyf b l p f).toNat).toNat = 0 then (res b l p).2.2 (dyf b l p f).toNat else -1
def kyf (b : Nat → Int) (l p : Int) (f : Nat) : Int := if (res b l p).2.1 f = 0 ∨ (res b l p).2.1 f = 5 then -1 else if ylf b l p f ≠ -1 then 4 else bse b l p (dyf b l p f) / 32 % 5
def AbOk (b : Nat → Int) (l p : Int) (s : St) (f : Nat) : Prop := s.2.1 f = 5 ↔ dyf b l p f = -1
theorem kps_ab (b : Nat → Int) (l p : Int) : ∀ n j : Nat, j < n → AbOk b l p (kps b l p n) (rk b j) := by
  intro n
  induction n with
  | zero => intro j h; omega
  | succ n ih =>
    intro j hj
    rw [kps]
    have h1 : rk b j ≠ rk b n → AbOk b l p (kps b l p n) (rk b j) := fun e => ih j (by
      have : j ≠ n := fun x => e (by rw [x])
      omega)
    unfold AbOk at h1 ⊢
    by_cases e : rk b j = rk b n
    · rw [e]; unfold kp
      split
      · rename_i c; dsimp only; rw [pu_up_at, c]; simp
      · rename_i c; split <;> (dsimp only; rw [pu_up_at]; constructor <;> intro x <;> omega)
    · unfold kp
      split
      · dsimp only; rw [pu_up_ne e]; exact h1 e
      · split <;> (dsimp only; rw [pu_up_ne e]; exact h1 e)
theorem lws_ab {b : Nat → Int} (ok : OkB b) (l p : Int) {f : Nat} (hf : (f : Int) < b 42) : ∀ n : Nat, AbOk b l p (lws b l p n) f := by
  intro n
  induction n with
  | zero =>
    obtain ⟨k, hk, e⟩ := rk_onto ok hf
    rw [← e]
    exact kps_ab b l p _ k (by omega)
  | succ n ih =>
    have hfa := (lws_fa ok l p hf n).1
    rw [lws]
    generalize hs : lws b l p n = s at *
    have key : ∀ (x y : Nat → Int) (v : Int), s.2.1 (rk b n) = -1 → v ≠ 5 → AbOk b l p (x, pu_up s.2.1 (rk b n) v, y) f := by
      intro x y v h1 h2
      unfold AbOk at ih ⊢
      dsimp only
      by_cases e : f = rk b n
      · rw [e, pu_up_at]
        rw [e] at hfa
        have := hfa h1
        constructor
        · intro z; exact absurd z h2
        · intro z; exact absurd z this
      · rw [pu_up_ne e]; exact ih
    unfold lw
    split
    · exact ih
    · rename_i c
      have c' : s.2.1 (rk b n) = -1 := by omega
      split
      · unfold mvd; split <;> exact key _ _ _ c' (by omega)
      · split
        · unfold mvd; split <;> exact key _ _ _ c' (by omega)
        · split
          · exact key _ _ _ c' (by split <;> omega)
          · exact key _ _ _ c' (by omega)
theorem res_ab {b : Nat → Int} (ok : OkB b) (l p : Int) {f : Nat} (hf : (f : Int) < b 42) : (res b l p).2.1 f = 5 ↔ dyf b l p f = -1 := lws_ab ok l p hf _
theorem c_yieldedTo (hN : 20 < N) (ok : OkB b) (cb : CB b h 23) (yr : Yr b l p) (ps : PS b l p (res b l p) h) {f : Nat} (hf : (f : Int) < b 42) : M_YearPlan_yieldedTo N h f = some (ylf b l p f) := by
  have hm := ok.many
  have hy := yr.bd ok
  have hj := res_J ok l p
  have h1 := (ps.ro f hf).2
  have h2 := res_fa ok l p hf
  unfold FaOk at h2
  have h3 := (ps.la.rows f hf).1
  have h4 := dyf_bd (b := b) l p f
  have h5 := res_ab ok l p hf
  unfold M_YearPlan_yieldedTo
  by_cases c0 : (res b l p).2.1 f = 0
  · have : ylf b l p f = -1 := if_pos (Or.inl c0)
    simp (disch := omega) only [leb_iff, ltb_iff, eqb_iff, pu_rmP, pu_dvP, pu_bs, pu_b0, pu_b1, pu_c0, pu_c1, pu_lt, pu_rdN, pu_wrN, hs_at, hs_cell, hs_slot, if_true, if_false, true_and, and_true, pu_rd, pu_wr, Int.reduceToNat, Int.toNat_natCast, decide_eq_true_eq, Int.add_zero, Bool.false_eq_true, if_pos, if_neg, h1, this]
  · by_cases c5 : (res b l p).2.1 f = 5
    · have : ylf b l p f = -1 := if_pos (Or.inr c5)
      simp (disch := omega) only [leb_iff, ltb_iff, eqb_iff, pu_rmP, pu_dvP, pu_bs, pu_b0, pu_b1, pu_c0, pu_c1, pu_lt, pu_rdN, pu_wrN, hs_at, hs_cell, hs_slot, if_true, if_false, true_and, and_true, pu_rd, pu_wr, Int.reduceToNat, Int.toNat_natCast, decide_eq_true_eq, Int.add_zero, Bool.false_eq_true, if_pos, if_neg, h1, this]
    · have hdn : dyf b l p f ≠ -1 := fun x => c5 (h5.mpr x)
      have ht := res_th ok l p (dyf b l p f).toNat
      have hyl : ylf b l p f = if (res b l p).2.2 (dyf b l p f).toNat ≠ -1 ∧ (res b l p).2.1 ((res b l p).2.2 (dyf b l p f).toNat).toNat = 0 then (res b l p).2.2 (dyf b l p f).toNat else -1 := if_neg (fun x => by rcases x with x | x; exact c0 x; exact c5 x)
      have := lp_inv (fun n k (_ : Unit) => YearPlan_yieldedTo_L23 N h f n k) (fun k _ => ∀ o : Nat, o < k → ¬ ((res b l p).2.1 o = 0 ∧ dyf b l p o = dyf b l p f)) (fun r => r = ylf b l p f) (b 42).toNat
        (fun n k _ hk hv => by
          have k1 := (ps.ro k (by omega)).2
          have k2 := res_fa ok l p (f := k) (by omega)
          unfold FaOk at k2
          have k3 := (ps.la.rows k (by omega)).1
          have k4 := dyf_bd (b := b) l p k
          by_cases c : (res b l p).2.1 k = 0 ∧ dyf b l p k = dyf b l p f
          · refine Or.inr ⟨k, ?_, ?_⟩
            · (try dsimp only)
              rw [YearPlan_yieldedTo_L23, cb_many cb]
              simp (disch := omega) only [leb_iff, ltb_iff, eqb_iff, pu_rmP, pu_dvP, pu_bs, pu_b0, pu_b1, pu_c0, pu_c1, pu_lt, pu_rdN, pu_wrN, hs_at, hs_cell, hs_slot, if_true, if_false, true_and, and_true, pu_rd, pu_wr, Int.reduceToNat, Int.toNat_natCast, decide_eq_true_eq, Int.add_zero, Bool.false_eq_true, if_pos, if_neg, k1, k3, h3, c.1, c.2]
            · have := (hj.1 k (by omega) c.1).2
              rw [c.2] at this
              rw [hyl, this, if_pos ⟨by omega, by rw [Int.toNat_natCast]; exact c.1⟩]
          · refine Or.inl ⟨(), fun o ho => ?_, ?_⟩
            · by_cases e : o = k
              · subst e; exact c
              · exact hv o (by omega)
            · (try dsimp only)
              rw [YearPlan_yieldedTo_L23, cb_many cb]
              by_cases c1 : (res b l p).2.1 k = 0
              · have c2 : ¬ dyf b l p k = dyf b l p f := fun x => c ⟨c1, x⟩
                simp (disch := omega) only [leb_iff, ltb_iff, eqb_iff, pu_rmP, pu_dvP, pu_bs, pu_b0, pu_b1, pu_c0, pu_c1, pu_lt, pu_rdN, pu_wrN, hs_at, hs_cell, hs_slot, if_true, if_false, true_and, and_true, pu_rd, pu_wr, Int.reduceToNat, Int.toNat_natCast, decide_eq_true_eq, Int.add_zero, Bool.false_eq_true, if_pos, if_neg, k1, k3, h3]
              · simp (disch := omega) only [leb_iff, ltb_iff, eqb_iff, pu_rmP, pu_dvP, pu_bs, pu_b0, pu_b1, pu_c0, pu_c1, pu_lt, pu_rdN, pu_wrN, hs_at, hs_cell, hs_slot, if_true, if_false, true_and, and_true, pu_rd, pu_wr, Int.reduceToNat, Int.toNat_natCast, decide_eq_true_eq, Int.add_zero, Bool.false_eq_true, if_pos, if_neg, k1, k3, h3])
        (fun n _ hv => by
          refine ⟨-1, ?_, ?_⟩
          · (try dsimp only)
            rw [YearPlan_yieldedTo_L23, cb_many cb]
            simp (disch := omega) only [leb_iff, ltb_iff, eqb_iff, pu_rmP, pu_dvP, pu_bs, pu_b0, pu_b1, pu_c0, pu_c1, pu_lt, pu_rdN, pu_wrN, hs_at, hs_cell, hs_slot, if_true, if_false, true_and, and_true, pu_rd, pu_wr, Int.reduceToNat, Int.toNat_natCast, decide_eq_true_eq, Int.add_zero, Bool.false_eq_true, if_pos, if_neg]
          · rw [hyl, if_neg]
            rintro ⟨x1, x2⟩
            have := hj.2 (dyf b l p f).toNat ((res b l p).2.2 (dyf b l p f).toNat).toNat (by omega) x2
            exact hv _ (by omega) ⟨x2, by rw [this]; omega⟩) N 0 () (by omega) (by omega) (fun o ho => by omega)
      obtain ⟨r, e1, e2⟩ := this
      rw [Int.natCast_zero] at e1
      simp (disch := omega) only [leb_iff, ltb_iff, eqb_iff, pu_rmP, pu_dvP, pu_bs, pu_b0, pu_b1, pu_c0, pu_c1, pu_lt, pu_rdN, pu_wrN, hs_at, hs_cell, hs_slot, if_true, if_false, true_and, and_true, pu_rd, pu_wr, Int.reduceToNat, Int.toNat_natCast, decide_eq_true_eq, Int.add_zero, Bool.false_eq_true, if_pos, if_neg, h1]
      rw [← e2]; exact e1
theorem ylf_bd (ok : OkB b) (f : Nat) : ylf b l p f = -1 ∨ (0 ≤ ylf b l p f ∧ ylf b l p f < b 42) := by
  unfold ylf
  split
  · exact Or.inl rfl
  · split
    · have := res_th ok l p (dyf b l p f).toNat; omega
    · exact Or.inl rfl
theorem c_kindYieldedTo (hN : 20 < N) (ok : OkB b) (cb : CB b h 23) (yr : Yr b l p) (ps : PS b l p (res b l p) h) {f : Nat} (hf : (f : Int) < b 42) : M_YearPlan_kindYieldedTo N h f = some (kyf b l p f) := by
  have hm := ok.many
  have hy := yr.bd ok
  have h1 := (ps.ro f hf).2
  have h2 := res_fa ok l p hf
  unfold FaOk at h2
  have h3 := (ps.la.rows f hf).1
  have h4 := dyf_bd (b := b) l p f
  have h5 := res_ab ok l p hf
  have h6 := c_yieldedTo hN ok cb yr ps hf
  have h7 := ylf_bd (l := l) (p := p) ok f
  unfold M_YearPlan_kindYieldedTo kyf
  by_cases c0 : (res b l p).2.1 f = 0
  · simp (disch := omega) only [leb_iff, ltb_iff, eqb_iff, pu_rmP, pu_dvP, pu_bs, pu_b0, pu_b1, pu_c0, pu_c1, pu_lt, pu_rdN, pu_wrN, hs_at, hs_cell, hs_slot, if_true, if_false, true_and, and_true, pu_rd, pu_wr, Int.reduceToNat, Int.toNat_natCast, decide_eq_true_eq, Int.add_zero, Bool.false_eq_true, if_pos, if_neg, h1, c0, true_or]
  · by_cases c5 : (res b l p).2.1 f = 5
    · simp (disch := omega) only [leb_iff, ltb_iff, eqb_iff, pu_rmP, pu_dvP, pu_bs, pu_b0, pu_b1, pu_c0, pu_c1, pu_lt, pu_rdN, pu_wrN, hs_at, hs_cell, hs_slot, if_true, if_false, true_and, and_true, pu_rd, pu_wr, Int.reduceToNat, Int.toNat_natCast, decide_eq_true_eq, Int.add_zero, Bool.false_eq_true, if_pos, if_neg, h1, c5, or_true]
    · have hdn : dyf b l p f ≠ -1 := fun x => c5 (h5.mpr x)
      have hb := bse_bd ok l p (dyf b l p f)
      have h8 := ps.bs (dyf b l p f).toNat (by omega)
      rw [show (((dyf b l p f).toNat : Nat) : Int) = dyf b l p f by omega] at h8
      by_cases c6 : ylf b l p f = -1
      · simp (disch := omega) only [leb_iff, ltb_iff, eqb_iff, pu_rmP, pu_dvP, pu_bs, pu_b0, pu_b1, pu_c0, pu_c1, pu_lt, pu_rdN, pu_wrN, hs_at, hs_cell, hs_slot, if_true, if_false, true_and, and_true, pu_rd, pu_wr, Int.reduceToNat, Int.toNat_natCast, decide_eq_true_eq, Int.add_zero, Bool.false_eq_true, if_pos, if_neg, h1, h6, h3, h8, c_kindIn, c0, c5, false_or]
      · simp (disch := omega) only [leb_iff, ltb_iff, eqb_iff, pu_rmP, pu_dvP, pu_bs, pu_b0, pu_b1, pu_c0, pu_c1, pu_lt, pu_rdN, pu_wrN, hs_at, hs_cell, hs_slot, if_true, if_false, true_and, and_true, pu_rd, pu_wr, Int.reduceToNat, Int.toNat_natCast, decide_eq_true_eq, Int.add_zero, Bool.false_eq_true, if_pos, if_neg, h1, h6]
end Yw
