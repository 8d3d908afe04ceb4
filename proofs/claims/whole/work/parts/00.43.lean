def Fp (h h' : Hp) : Prop := ∀ c, (c < 66 ∨ 72 < c) → h' c = h c
def PlanOk (b : Nat → Int) (h : Hp) : Prop := (h 66 2 = -1 ∧ h 66 3 = -1) ∨ (∃ y : Int, 0 ≤ y ∧ y ≤ 20000 ∧ h 66 2 = srt b y ∧ Laid b (lp b y) (psc b y) h ∧ (h 66 3 = -1 ∨ (h 66 3 = srt b y ∧ PS b (lp b y) (psc b y) (res b (lp b y) (psc b y)) h)))
theorem srt_inj {b : Nat → Int} (ok : OkB b) {y z : Int} (hy : 0 ≤ y) (hz : 0 ≤ z) (e : srt b y = srt b z) : lp b y = lp b z ∧ psc b y = psc b z := by
  have h1 := srt_bd ok hy
  have h2 := srt_bd ok hz
  rw [← h1.2.2.1, ← h2.2.2.1, ← h1.2.2.2, ← h2.2.2.2, e]; exact ⟨rfl, rfl⟩
section Pk
variable {b : Nat → Int} {h : Hp} {N : Nat}
theorem c_lay (hN : 20 < N) (ok : OkB b) (cb : CB b h 23) (pk : PlanOk b h) {y : Int} (h0 : 0 ≤ y) (h1 : y ≤ 20000) : ∃ h', M_YearPlan_lay N h (srt b y) = some h' ∧ Fp h h' ∧ PlanOk b h' ∧ h' 66 2 = srt b y ∧ Laid b (lp b y) (psc b y) h' ∧ (h' 66 3 = -1 ∨ (h' 66 3 = srt b y ∧ PS b (lp b y) (psc b y) (res b (lp b y) (psc b y)) h')) := by
  have hs := srt_bd ok h0
  by_cases c : h 66 2 = srt b y
  · refine ⟨h, ?_, fun _ _ => rfl, pk, c, ?_⟩
    · unfold M_YearPlan_lay
      rw [c, if_pos (by rw [eqb_iff (by omega) (by omega) (by omega) (by omega)])]
    · rcases pk with e | ⟨z, z0, z1, e1, e2, e3⟩
      · omega
      · obtain ⟨i1, i2⟩ := srt_inj ok h0 z0 (by rw [← c, e1])
        rw [i1, i2]
        refine ⟨e2, ?_⟩
        rcases e3 with e3 | e3
        · exact Or.inl e3
        · exact Or.inr ⟨by rw [e3.1, ← e1, c], e3.2⟩
  · have hr : -1 ≤ h 66 2 ∧ h 66 2 < 80 := by
      rcases pk with e | ⟨z, z0, z1, e1, e2, e3⟩
      · omega
      · have := srt_bd ok z0; omega
    obtain ⟨h', e1, e2, e3, e4, e5⟩ := c_lay_new hN ok cb hs.1 hs.2.1 hs.2.2.1 hs.2.2.2 (Yr_of ok h0) c hr
    exact ⟨h', e1, fun c hc => e2 c (by omega) (by omega) (by omega), Or.inr ⟨y, h0, h1, e3, e5, Or.inl e4⟩, e3, e5, Or.inl e4⟩
theorem c_settle (hN : 1100 < N) (ok : OkB b) (cb : CB b h 23) (pk : PlanOk b h) {y : Int} (h0 : 0 ≤ y) (h1 : y ≤ 20000) : ∃ h', M_YearPlan_settle N h (srt b y) = some h' ∧ Fp h h' ∧ PlanOk b h' ∧ PS b (lp b y) (psc b y) (res b (lp b y) (psc b y)) h' := by
  have hs1 := srt_bd ok h0
  obtain ⟨g, e1, e2, e3, e4, e5, e6⟩ := c_lay (N := N) (by omega) ok cb pk h0 h1
  unfold M_YearPlan_settle
  rw [e1, Option.bind_some]
  by_cases c : g 66 3 = srt b y
  · rcases e6 with e6 | e6
    · omega
    · refine ⟨g, ?_, e2, e3, e6.2⟩
      rw [c, if_pos (by rw [eqb_iff (by omega) (by omega) (by omega) (by omega)])]
  · have hr : -1 ≤ g 66 3 ∧ g 66 3 < 80 := by rcases e6 with e6 | e6 <;> omega
    have la : Laid b (lp b y) (psc b y) (hs g 66 3 (srt b y)) := Laid.mk (by rw [hs_slot (by omega)]; exact e5.days) (by rw [hs_slot (by omega)]; exact e5.pasch) (by rw [hs_cell (by omega), hs_cell (by omega)]; exact e5.rows)
    have cbg : CB b (hs g 66 3 (srt b y)) 23 := CB_frame cb (fun c c1 c2 => by rw [hs_cell (by omega), e2 c (by omega)])
    obtain ⟨h', f1, f2, f3⟩ := c_settle_new hN ok cbg (Yr_of ok h0) la
    refine ⟨h', ?_, fun c hc => by rw [f2 c (by omega) (by omega) (by omega) (by omega), hs_cell (by omega), e2 c hc], ?_, f3⟩
    · rw [if_neg (by rw [eqb_iff (by omega) (by omega) (by omega) (by omega)]; exact c), pu_lt]
      exact f1
    · exact Or.inr ⟨y, h0, h1, by rw [f2 66 (by omega) (by omega) (by omega) (by omega), hs_slot (by omega), e4], f3.la, Or.inr ⟨by rw [f2 66 (by omega) (by omega) (by omega) (by omega), hs_at], f3⟩⟩
end Pk
def ofr (b : Nat → Int) (l p : Int) (d : Nat) : Int := ofc b l p (res b l p) d
def plf (b : Nat → Int) (l p : Int) (d : Nat) : Bool := decide (ofr b l p d / 32 % 5 = 0)
def rnf (q : Nat → Bool) : Nat → Int × Int
  | 0 => (0, 0)
  | n + 1 => if q n then (max (rnf q n).1 ((rnf q n).2 + 1), (rnf q n).2 + 1) else ((rnf q n).1, 0)
theorem rnf_bd (q : Nat → Bool) : ∀ n : Nat, 0 ≤ (rnf q n).2 ∧ (rnf q n).2 ≤ (rnf q n).1 ∧ (rnf q n).1 ≤ n
  | 0 => by simp [rnf]
  | n + 1 => by
    have := rnf_bd q n
    rw [rnf]
    split
    · dsimp only; omega
    · dsimp only; omega
theorem res_th {b : Nat → Int} (ok : OkB b) (l p : Int) : ThOk b (res b l p) := lws_th ok l p _ (by have := ok.many; omega)
theorem res_fa {b : Nat → Int} (ok : OkB b) (l p : Int) {f : Nat} (hf : (f : Int) < b 42) : FaOk b l p (res b l p) f := lws_fa ok l p hf _
theorem ofr_bd {b : Nat → Int} (ok : OkB b) (l p : Int) (d : Nat) : 0 ≤ ofr b l p d ∧ ofr b l p d < 1600 ∧ (ofr b l p d / 32 % 5 = 4 ↔ (res b l p).2.2 d ≠ -1) := ofc_bd ok (res_th ok l p) d
def vkf (b : Nat → Int) (l p : Int) (d : Int) : Nat → Bool
  | 0 => false
  | n + 1 => vkf b l p d n || decide (vgf b l p n = d ∧ (res b l p).2.1 n = 0)
theorem vkf_mono {b : Nat → Int} {l p d : Int} {n m : Nat} (h : vkf b l p d n = true) (hnm : n ≤ m) : vkf b l p d m = true := by
  induction m with
  | zero => have : n = 0 := by omega
            subst this; exact h
  | succ m ih =>
    by_cases e : n = m + 1
    · subst e; exact h
    · rw [vkf, ih (by omega)]; rfl
theorem vkf_sun {b : Nat → Int} (ok : OkB b) {l p d : Int} (hd : 0 ≤ d) (hs : (d - p) % b 0 = 0) : ∀ n : Nat, vkf b l p d n = false
  | 0 => rfl
  | n + 1 => by
    rw [vkf, vkf_sun ok hd hs n]
    simp only [Bool.false_or, decide_eq_false_iff_not]
    rintro ⟨h1, _⟩
    have hw := ok.week
    unfold vgf at h1
    split at h1
    · omega
    · split at h1
      · rename_i c
        have e : dyf b l p n - 1 - p = (d - p) + 1 := by omega
        rw [e, md_lo (by omega) (by omega), hs] at c
        omega
      · rename_i c
        exact c (by rw [h1]; exact hs)
def fsf (b : Nat → Int) (l p : Int) (d : Nat) : Bool := decide (((d : Int) - p) % b 0 ≠ 0) && !(decide ((res b l p).2.2 d ≠ -1 ∧ b 18 ≤ fq b ((res b l p).2.2 d).toNat 0)) && (eqb (andI (shrI (b 17) (((d : Int) - p) % b 0)) 1) 1 || vkf b l p d (b 42).toNat)
section Yq
variable {b : Nat → Int} {h : Hp} {N : Nat} {l p : Int}
theorem c_isPlain (ok : OkB b) (yr : Yr b l p) (ps : PS b l p (res b l p) h) {d : Nat} (hd : (d : Int) < yd b + l) : M_YearPlan_isPlain h d = some (if plf b l p d then 1 else 0) := by
  have hy := yr.bd ok
  have h1 := ofr_bd ok l p d
  have h2 : h 68 d = ofr b l p d := ps.of d hd
  unfold M_YearPlan_isPlain plf
  simp (disch := omega) only [leb_iff, ltb_iff, eqb_iff, pu_rmP, pu_dvP, pu_bs, pu_b0, pu_b1, pu_c0, pu_c1, pu_lt, pu_rdN, pu_wrN, hs_at, hs_cell, hs_slot, if_true, if_false, true_and, and_true, pu_rd, pu_wr, Int.reduceToNat, Int.toNat_natCast, decide_eq_true_eq, Int.add_zero, Bool.false_eq_true, if_pos, if_neg, h2, c_kindIn]
  split <;> rfl
theorem m_isPlain (hN : 20 < N) (ok : OkB b) (yr : Yr b l p) (m : MS b l p (res b l p) h) {d : Nat} (hd : (d : Int) < yd b + l) : ∃ h', M_Md_isPlain N h d = some (if plf b l p d then 1 else 0, h') ∧ Fb h h' := by
  have hm := ok.many
  have hy := yr.bd ok
  have ht := res_th ok l p d
  have h1 := ofr_bd ok l p d
  unfold M_Md_isPlain plf
  by_cases c : (res b l p).2.2 d = -1
  · obtain ⟨g, e1, e2, e3⟩ := m_laysBase (h := h) (N := N) hN ok yr m.my (d := d) (by omega)
    obtain ⟨d1, d2, d3, d4, d5⟩ := Enc_dec ok e3
    refine ⟨g, ?_, e2⟩
    have e4 : ofr b l p d = bse b l p d := by unfold ofr ofc; rw [if_pos c]
    by_cases c2 : bse b l p d / 32 % 5 = 0
    · simp (disch := omega) only [leb_iff, ltb_iff, eqb_iff, pu_rmP, pu_dvP, pu_bs, pu_b0, pu_b1, pu_c0, pu_c1, pu_lt, pu_rdN, pu_wrN, hs_at, hs_cell, hs_slot, if_true, if_false, true_and, and_true, pu_rd, pu_wr, Int.reduceToNat, Int.toNat_natCast, decide_eq_true_eq, Int.add_zero, Bool.false_eq_true, if_pos, if_neg, m.th d hd, e1, d2, e4]
    · simp (disch := omega) only [leb_iff, ltb_iff, eqb_iff, pu_rmP, pu_dvP, pu_bs, pu_b0, pu_b1, pu_c0, pu_c1, pu_lt, pu_rdN, pu_wrN, hs_at, hs_cell, hs_slot, if_true, if_false, true_and, and_true, pu_rd, pu_wr, Int.reduceToNat, Int.toNat_natCast, decide_eq_true_eq, Int.add_zero, Bool.false_eq_true, if_pos, if_neg, m.th d hd, e1, d2, e4]
  · refine ⟨h, ?_, Fb.refl h⟩
    have c2 := h1.2.2.mpr c
    simp (disch := omega) only [leb_iff, ltb_iff, eqb_iff, pu_rmP, pu_dvP, pu_bs, pu_b0, pu_b1, pu_c0, pu_c1, pu_lt, pu_rdN, pu_wrN, hs_at, hs_cell, hs_slot, if_true, if_false, true_and, and_true, pu_rd, pu_wr, Int.reduceToNat, Int.toNat_natCast, decide_eq_true_eq, Int.add_zero, Bool.false_eq_true, if_pos, if_neg, m.th d hd]
theorem c_plainDays (hN : 300 < N) (ok : OkB b) (yr : Yr b l p) (ps : PS b l p (res b l p) h) {i j : Nat} (hij : i ≤ j) (hj : (j : Int) ≤ yd b + l) : M_YearPlan_plainDays N h i j = some (cnt (plf b l p) j - cnt (plf b l p) i) := by
  have hy := yr.bd ok
  have := lp_fold (fun n k a => YearPlan_plainDays_L5 N h j n a k) (fun k => cnt (plf b l p) k - cnt (plf b l p) i) (cnt (plf b l p) j - cnt (plf b l p) i) j
    (fun n k hk => by
      (try dsimp only)
      rw [YearPlan_plainDays_L5, c_isPlain ok yr ps (by omega), Option.bind_some, cnt_succ]
      cases c : plf b l p k
      · simp (disch := omega) only [leb_iff, ltb_iff, eqb_iff, pu_rmP, pu_dvP, pu_bs, pu_b0, pu_b1, pu_c0, pu_c1, pu_lt, pu_rdN, pu_wrN, hs_at, hs_cell, hs_slot, if_true, if_false, true_and, and_true, pu_rd, pu_wr, Int.reduceToNat, Int.toNat_natCast, decide_eq_true_eq, Int.add_zero, Bool.false_eq_true, if_pos, if_neg]
      · simp (disch := omega) only [leb_iff, ltb_iff, eqb_iff, pu_rmP, pu_dvP, pu_bs, pu_b0, pu_b1, pu_c0, pu_c1, pu_lt, pu_rdN, pu_wrN, hs_at, hs_cell, hs_slot, if_true, if_false, true_and, and_true, pu_rd, pu_wr, Int.reduceToNat, Int.toNat_natCast, decide_eq_true_eq, Int.add_zero, Bool.false_eq_true, if_pos, if_neg]
        congr 1; omega)
    (fun n => by
      (try dsimp only)
      rw [YearPlan_plainDays_L5]
      simp (disch := omega) only [leb_iff, ltb_iff, eqb_iff, pu_rmP, pu_dvP, pu_bs, pu_b0, pu_b1, pu_c0, pu_c1, pu_lt, pu_rdN, pu_wrN, hs_at, hs_cell, hs_slot, if_true, if_false, true_and, and_true, pu_rd, pu_wr, Int.reduceToNat, Int.toNat_natCast, decide_eq_true_eq, Int.add_zero, Bool.false_eq_true, if_pos, if_neg]) N i hij (by omega)
  unfold M_YearPlan_plainDays
  rw [Int.sub_self] at this
  exact this
theorem c_longestPlain (hN : 300 < N) (ok : OkB b) (yr : Yr b l p) (ps : PS b l p (res b l p) h) : M_YearPlan_longestPlain N h = some (rnf (plf b l p) (yd b + l).toNat).1 := by
  have hy := yr.bd ok
  exact lp_fold (fun n k (a : Int × Int) => YearPlan_longestPlain_L6 N h n a.1 a.2 k) (rnf (plf b l p)) _ (yd b + l).toNat
    (fun n k hk => by
      have hb := rnf_bd (plf b l p) k
      (try dsimp only)
      rw [YearPlan_longestPlain_L6, ps.la.days, c_isPlain ok yr ps (by omega), Option.bind_some, pu_mx (by omega) (by omega) (by omega) (by omega), pu_mx (by omega) (by omega) (by omega) (by omega), rnf]
      cases c : plf b l p k
      · simp (disch := omega) only [leb_iff, ltb_iff, eqb_iff, pu_rmP, pu_dvP, pu_bs, pu_b0, pu_b1, pu_c0, pu_c1, pu_lt, pu_rdN, pu_wrN, hs_at, hs_cell, hs_slot, if_true, if_false, true_and, and_true, pu_rd, pu_wr, Int.reduceToNat, Int.toNat_natCast, decide_eq_true_eq, Int.add_zero, Bool.false_eq_true, if_pos, if_neg]
        rw [show max (rnf (plf b l p) k).1 0 = (rnf (plf b l p) k).1 by omega]
      · simp (disch := omega) only [leb_iff, ltb_iff, eqb_iff, pu_rmP, pu_dvP, pu_bs, pu_b0, pu_b1, pu_c0, pu_c1, pu_lt, pu_rdN, pu_wrN, hs_at, hs_cell, hs_slot, if_true, if_false, true_and, and_true, pu_rd, pu_wr, Int.reduceToNat, Int.toNat_natCast, decide_eq_true_eq, Int.add_zero, Bool.false_eq_true, if_pos, if_neg])
    (fun n => by
      (try dsimp only)
      rw [YearPlan_longestPlain_L6, ps.la.days]
      simp (disch := omega) only [leb_iff, ltb_iff, eqb_iff, pu_rmP, pu_dvP, pu_bs, pu_b0, pu_b1, pu_c0, pu_c1, pu_lt, pu_rdN, pu_wrN, hs_at, hs_cell, hs_slot, if_true, if_false, true_and, and_true, pu_rd, pu_wr, Int.reduceToNat, Int.toNat_natCast, decide_eq_true_eq, Int.add_zero, Bool.false_eq_true, if_pos, if_neg]) N 0 (by omega) (by omega)
theorem c_vigKept (hN : 20 < N) (ok : OkB b) (cb : CB b h 23) (yr : Yr b l p) (ps : PS b l p (res b l p) h) {d : Int} (hd : 0 ≤ d ∧ d < 1000) : M_YearPlan_isVigilOfKept N h d = some (if vkf b l p d (b 42).toNat then 1 else 0) := by
  have hm := ok.many
  have hy := yr.bd ok
  have := lp_inv (fun n k (_ : Unit) => YearPlan_isVigilOfKept_L2 N h d n k) (fun k _ => vkf b l p d k = false) (fun r => r = if vkf b l p d (b 42).toNat then 1 else 0) (b 42).toNat
    (fun n k _ hk hv => by
      have h1 := (ps.la.rows k (by omega)).2
      have h2 := (ps.ro k (by omega)).2
      have h3 := vgf_bd (b := b) l p k
      have h4 := dyf_bd (b := b) l p k
      have h5 := res_fa ok l p (f := k) (by omega)
      unfold FaOk at h5
      by_cases c : vgf b l p k = d ∧ (res b l p).2.1 k = 0
      · refine Or.inr ⟨1, ?_, ?_⟩
        · (try dsimp only)
          rw [YearPlan_isVigilOfKept_L2, cb_many cb]
          simp (disch := omega) only [leb_iff, ltb_iff, eqb_iff, pu_rmP, pu_dvP, pu_bs, pu_b0, pu_b1, pu_c0, pu_c1, pu_lt, pu_rdN, pu_wrN, hs_at, hs_cell, hs_slot, if_true, if_false, true_and, and_true, pu_rd, pu_wr, Int.reduceToNat, Int.toNat_natCast, decide_eq_true_eq, Int.add_zero, Bool.false_eq_true, if_pos, if_neg, h1, h2, c.1, c.2]
        · have : vkf b l p d (k + 1) = true := by rw [vkf, decide_eq_true c]; simp
          rw [vkf_mono this (by omega)]; rfl
      · refine Or.inl ⟨(), ?_, ?_⟩
        · rw [vkf, hv, decide_eq_false c]; rfl
        · (try dsimp only)
          rw [YearPlan_isVigilOfKept_L2, cb_many cb]
          by_cases c1 : vgf b l p k = d
          · have c2 : ¬ (res b l p).2.1 k = 0 := fun x => c ⟨c1, x⟩
            simp (disch := omega) only [leb_iff, ltb_iff, eqb_iff, pu_rmP, pu_dvP, pu_bs, pu_b0, pu_b1, pu_c0, pu_c1, pu_lt, pu_rdN, pu_wrN, hs_at, hs_cell, hs_slot, if_true, if_false, true_and, and_true, pu_rd, pu_wr, Int.reduceToNat, Int.toNat_natCast, decide_eq_true_eq, Int.add_zero, Bool.false_eq_true, if_pos, if_neg, h1, h2]
          · simp (disch := omega) only [leb_iff, ltb_iff, eqb_iff, pu_rmP, pu_dvP, pu_bs, pu_b0, pu_b1, pu_c0, pu_c1, pu_lt, pu_rdN, pu_wrN, hs_at, hs_cell, hs_slot, if_true, if_false, true_and, and_true, pu_rd, pu_wr, Int.reduceToNat, Int.toNat_natCast, decide_eq_true_eq, Int.add_zero, Bool.false_eq_true, if_pos, if_neg, h1, h2])
    (fun n _ hv => by
      refine ⟨0, ?_, by rw [hv]; rfl⟩
      (try dsimp only)
      rw [YearPlan_isVigilOfKept_L2, cb_many cb]
      simp (disch := omega) only [leb_iff, ltb_iff, eqb_iff, pu_rmP, pu_dvP, pu_bs, pu_b0, pu_b1, pu_c0, pu_c1, pu_lt, pu_rdN, pu_wrN, hs_at, hs_cell, hs_slot, if_true, if_false, true_and, and_true, pu_rd, pu_wr, Int.reduceToNat, Int.toNat_natCast, decide_eq_true_eq, Int.add_zero, Bool.false_eq_true, if_pos, if_neg]) N 0 () (by omega) (by omega) rfl
  obtain ⟨r, e1, e2⟩ := this
  rw [← e2]; exact e1
theorem m_hasVigil (hN : 20 < N) (ok : OkB b) (yr : Yr b l p) (m : MS b l p (res b l p) h) {d : Int} (hd : 0 ≤ d ∧ d < 1000) : M_Md_hasVigil N h d = some (if vkf b l p d (b 42).toNat then 1 else 0) := by
  have hm := ok.many
  have hy := yr.bd ok
  have := lp_inv (fun n k (_ : Unit) => Md_hasVigil_L2 N h d n k) (fun k _ => vkf b l p d k = false) (fun r => r = if vkf b l p d (b 42).toNat then 1 else 0) (b 42).toNat
    (fun n k _ hk hv => by
      have h1 := m_vigilOf ok yr m.my (f := k) (by omega)
      have h2 := (m.ro k (by omega)).2
      have h3 := vgf_bd (b := b) l p k
      have h4 := dyf_bd (b := b) l p k
      have h5 := res_fa ok l p (f := k) (by omega)
      unfold FaOk at h5
      by_cases c : vgf b l p k = d ∧ (res b l p).2.1 k = 0
      · refine Or.inr ⟨1, ?_, ?_⟩
        · (try dsimp only)
          rw [Md_hasVigil_L2, pu_rd (by omega) (by omega), Option.bind_some, show Int.toNat 42 = 42 from rfl, m.my.bk]
          simp (disch := omega) only [leb_iff, ltb_iff, eqb_iff, pu_rmP, pu_dvP, pu_bs, pu_b0, pu_b1, pu_c0, pu_c1, pu_lt, pu_rdN, pu_wrN, hs_at, hs_cell, hs_slot, if_true, if_false, true_and, and_true, pu_rd, pu_wr, Int.reduceToNat, Int.toNat_natCast, decide_eq_true_eq, Int.add_zero, Bool.false_eq_true, if_pos, if_neg, h1, h2, c.1, c.2]
        · have : vkf b l p d (k + 1) = true := by rw [vkf, decide_eq_true c]; simp
          rw [vkf_mono this (by omega)]; rfl
      · refine Or.inl ⟨(), ?_, ?_⟩
        · rw [vkf, hv, decide_eq_false c]; rfl
        · (try dsimp only)
          rw [Md_hasVigil_L2, pu_rd (by omega) (by omega), Option.bind_some, show Int.toNat 42 = 42 from rfl, m.my.bk]
          by_cases c1 : (res b l p).2.1 k = 0
          · have c2 : ¬ vgf b l p k = d := fun x => c ⟨x, c1⟩
            simp (disch := omega) only [leb_iff, ltb_iff, eqb_iff, pu_rmP, pu_dvP, pu_bs, pu_b0, pu_b1, pu_c0, pu_c1, pu_lt, pu_rdN, pu_wrN, hs_at, hs_cell, hs_slot, if_true, if_false, true_and, and_true, pu_rd, pu_wr, Int.reduceToNat, Int.toNat_natCast, decide_eq_true_eq, Int.add_zero, Bool.false_eq_true, if_pos, if_neg, h1, h2]
          · simp (disch := omega) only [leb_iff, ltb_iff, eqb_iff, pu_rmP, pu_dvP, pu_bs, pu_b0, pu_b1, pu_c0, pu_c1, pu_lt, pu_rdN, pu_wrN, hs_at, hs_cell, hs_slot, if_true, if_false, true_and, and_true, pu_rd, pu_wr, Int.reduceToNat, Int.toNat_natCast, decide_eq_true_eq, Int.add_zero, Bool.false_eq_true, if_pos, if_neg, h1, h2])
    (fun n _ hv => by
      refine ⟨0, ?_, by rw [hv]; rfl⟩
      (try dsimp only)
      rw [Md_hasVigil_L2, pu_rd (by omega) (by omega), Option.bind_some, show Int.toNat 42 = 42 from rfl, m.my.bk]
      simp (disch := omega) only [leb_iff, ltb_iff, eqb_iff, pu_rmP, pu_dvP, pu_bs, pu_b0, pu_b1, pu_c0, pu_c1, pu_lt, pu_rdN, pu_wrN, hs_at, hs_cell, hs_slot, if_true, if_false, true_and, and_true, pu_rd, pu_wr, Int.reduceToNat, Int.toNat_natCast, decide_eq_true_eq, Int.add_zero, Bool.false_eq_true, if_pos, if_neg]) N 0 () (by omega) (by omega) rfl
  obtain ⟨r, e1, e2⟩ := this
  rw [← e2]; exact e1
theorem and_rng (a c : Int) : -2147483648 ≤ andI a c ∧ andI a c < 2147483648 := by
  unfold andI
  exact ⟨Int32.le_toInt _, Int32.toInt_lt _⟩
theorem c_isFast (hN : 20 < N) (ok : OkB b) (cb : CB b h 23) (yr : Yr b l p) (ps : PS b l p (res b l p) h) {d : Nat} (hd : (d : Int) < yd b + l) : M_YearPlan_isFast N h d = some (if fsf b l p d then 1 else 0) := by
  have hm := ok.many
  have hw := ok.week
  have hl := ok.lft
  have hy := yr.bd ok
  have h1 := Int.emod_nonneg ((d : Int) - p) (show b 0 ≠ 0 by omega)
  have h2 := Int.emod_lt_of_pos ((d : Int) - p) (show 0 < b 0 by omega)
  have ht := res_th ok l p d
  have hob := ofr_bd ok l p d
  have ho : h 68 d = ofr b l p d := ps.of d hd
  unfold M_YearPlan_isFast fsf
  rw [ps.la.pasch, c_weekdayFrom ok cb (by omega) (by omega), Option.bind_some, c_hasFeast ok (res_th ok l p) (l := l) (p := p) (by omega) (ps.of d hd), Option.bind_some, c_vigKept hN ok cb yr ps (by omega), Option.bind_some, cb.fas, cb.lft, pu_lt, pu_rdN (by omega), Option.bind_some, ho, c_rankIn (by omega) (by omega), Option.bind_some]
  by_cases c1 : ((d : Int) - p) % b 0 = 0
  · rw [c1]
    simp (disch := omega) only [leb_iff, ltb_iff, eqb_iff, pu_rmP, pu_dvP, pu_bs, pu_b0, pu_b1, pu_c0, pu_c1, pu_lt, pu_rdN, pu_wrN, hs_at, hs_cell, hs_slot, if_true, if_false, true_and, and_true, pu_rd, pu_wr, Int.reduceToNat, Int.toNat_natCast, decide_eq_true_eq, Int.add_zero, Bool.false_eq_true, if_pos, if_neg]
    rfl
  · rw [decide_eq_true c1, Bool.true_and, if_neg (by rw [eqb_iff (by omega) (by omega) (by omega) (by omega)]; exact c1)]
    have tail : (if eqb (andI (shrI (b 17) (((d : Int) - p) % b 0)) 1) 1 = true then rtB 1 else if eqb (if vkf b l p d (b 42).toNat = true then 1 else 0) 0 = true then rtB 0 else rtB 1) = some (if (eqb (andI (shrI (b 17) (((d : Int) - p) % b 0)) 1) 1 || vkf b l p d (b 42).toNat) = true then 1 else 0) := by
      cases eqb (andI (shrI (b 17) (((d : Int) - p) % b 0)) 1) 1 <;> cases vkf b l p d (b 42).toNat <;> rfl
    rw [tail]
    by_cases c2 : (res b l p).2.2 d = -1
    · rw [if_pos c2, decide_eq_false (fun x => x.1 c2)]
      simp (disch := omega) only [leb_iff, ltb_iff, eqb_iff, pu_rmP, pu_dvP, pu_bs, pu_b0, pu_b1, pu_c0, pu_c1, pu_lt, pu_rdN, pu_wrN, hs_at, hs_cell, hs_slot, if_true, if_false, true_and, and_true, pu_rd, pu_wr, Int.reduceToNat, Int.toNat_natCast, decide_eq_true_eq, Int.add_zero, Bool.false_eq_true, if_pos, if_neg]
      rfl
    · have hcl := cl_bd (ok.fea ((res b l p).2.2 d).toNat (by omega)) (by omega)
      have hrk := (ok.fea ((res b l p).2.2 d).toNat (by omega)).1
      have e4 : ofr b l p d / 160 = fq b ((res b l p).2.2 d).toNat 0 := by unfold ofr ofc; rw [if_neg c2]; omega
      rw [if_neg c2, e4]
      by_cases c3 : b 18 ≤ fq b ((res b l p).2.2 d).toNat 0
      · rw [decide_eq_true (⟨c2, c3⟩ : (res b l p).2.2 d ≠ -1 ∧ _)]
        simp (disch := omega) only [leb_iff, ltb_iff, eqb_iff, pu_rmP, pu_dvP, pu_bs, pu_b0, pu_b1, pu_c0, pu_c1, pu_lt, pu_rdN, pu_wrN, hs_at, hs_cell, hs_slot, if_true, if_false, true_and, and_true, pu_rd, pu_wr, Int.reduceToNat, Int.toNat_natCast, decide_eq_true_eq, Int.add_zero, Bool.false_eq_true, if_pos, if_neg]
        rfl
      · rw [decide_eq_false (fun x => c3 x.2)]
        simp (disch := omega) only [leb_iff, ltb_iff, eqb_iff, pu_rmP, pu_dvP, pu_bs, pu_b0, pu_b1, pu_c0, pu_c1, pu_lt, pu_rdN, pu_wrN, hs_at, hs_cell, hs_slot, if_true, if_false, true_and, and_true, pu_rd, pu_wr, Int.reduceToNat, Int.toNat_natCast, decide_eq_true_eq, Int.add_zero, Bool.false_eq_true, if_pos, if_neg]
        rfl
theorem m_isFast (hN : 20 < N) (ok : OkB b) (yr : Yr b l p) (m : MS b l p (res b l p) h) {d : Nat} (hd : (d : Int) < yd b + l) : M_Md_isFast N h d = some (if fsf b l p d then 1 else 0) := by
  have hm := ok.many
  have hw := ok.week
  have hl := ok.lft
  have hy := yr.bd ok
  have hw0 := m.my.wd0
  have h1 := Int.emod_nonneg ((d : Int) - p) (show b 0 ≠ 0 by omega)
  have h2 := Int.emod_lt_of_pos ((d : Int) - p) (show 0 < b 0 by omega)
  have ht := res_th ok l p d
  have hsh := wd_shift (d := d) m.my.wd
  unfold M_Md_isFast fsf
  rw [pu_rdN (by omega), Option.bind_some, m.th d hd, pu_lt, pu_rd (c := 84) (i := 0) (by omega) (by omega), Option.bind_some, show Int.toNat 0 = 0 from rfl, m.my.bk, pu_rmP (by omega) (by omega) (by omega) (by omega), Option.bind_some, hsh, m_hasVigil hN ok yr m (by omega), Option.bind_some, pu_rd (c := 84) (i := 17) (by omega) (by omega), Option.bind_some, show Int.toNat 17 = 17 from rfl, m.my.bk, pu_rd (c := 84) (i := 18) (by omega) (by omega), show Int.toNat 18 = 18 from rfl, m.my.bk]
  have tail : (if eqb (((d : Int) - p) % b 0) 0 = true then (if eqb (if vkf b l p d (b 42).toNat = true then 1 else 0) 0 = true then rtB 0 else rtB 1) else if eqb (andI (shrI (b 17) (((d : Int) - p) % b 0)) 1) 1 = true then rtB 1 else if eqb (if vkf b l p d (b 42).toNat = true then 1 else 0) 0 = true then rtB 0 else rtB 1) = some (if (decide (((d : Int) - p) % b 0 ≠ 0) && (eqb (andI (shrI (b 17) (((d : Int) - p) % b 0)) 1) 1 || vkf b l p d (b 42).toNat)) = true then 1 else 0) := by
    by_cases c1 : ((d : Int) - p) % b 0 = 0
    · rw [vkf_sun ok (by omega) c1, if_pos (by rw [eqb_iff (by omega) (by omega) (by omega) (by omega)]; exact c1), decide_eq_false (fun x => x c1)]; rfl
    · rw [if_neg (by rw [eqb_iff (by omega) (by omega) (by omega) (by omega)]; exact c1), decide_eq_true c1]
      cases eqb (andI (shrI (b 17) (((d : Int) - p) % b 0)) 1) 1 <;> cases vkf b l p d (b 42).toNat <;> rfl
  rw [tail]
  by_cases c2 : (res b l p).2.2 d = -1
  · rw [decide_eq_false (fun x => x.1 c2 : ¬ ((res b l p).2.2 d ≠ -1 ∧ b 18 ≤ fq b ((res b l p).2.2 d).toNat 0)), if_pos (by rw [eqb_iff (by omega) (by omega) (by omega) (by omega)]; exact c2)]
    simp
  · have hrk := (ok.fea ((res b l p).2.2 d).toNat (by omega)).1
    have hof := m_of00 (h := h) (f := ((res b l p).2.2 d).toNat) (by omega)
    rw [show ((((res b l p).2.2 d).toNat : Nat) : Int) = (res b l p).2.2 d by omega, m.my.bk] at hof
    rw [if_neg (by rw [eqb_iff (by omega) (by omega) (by omega) (by omega)]; exact c2), Option.bind_some, hof, Option.bind_some, Option.bind_some]
    by_cases c3 : b 18 ≤ fq b ((res b l p).2.2 d).toNat 0
    · rw [decide_eq_true (⟨c2, c3⟩ : (res b l p).2.2 d ≠ -1 ∧ _), if_neg (by rw [ltb_iff (by omega) (by omega) (by omega) (by omega)]; omega), pu_b0]
      simp
    · rw [decide_eq_false (fun x => c3 x.2 : ¬ ((res b l p).2.2 d ≠ -1 ∧ b 18 ≤ fq b ((res b l p).2.2 d).toNat 0)), if_pos (by rw [ltb_iff (by omega) (by omega) (by omega) (by omega)]; omega)]
      simp
end Yq
