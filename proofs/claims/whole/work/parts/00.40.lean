def Fb (h h' : Hp) : Prop := (∀ c, c ≠ 83 → h' c = h c) ∧ (∀ j, j ≠ 22 → j ≠ 23 → j ≠ 24 → h' 83 j = h 83 j)
theorem Fb.refl (h : Hp) : Fb h h := ⟨fun _ _ => rfl, fun _ _ _ _ => rfl⟩
theorem Fb.trans {h h' h'' : Hp} (a : Fb h h') (c : Fb h' h'') : Fb h h'' := ⟨fun x hx => by rw [c.1 x hx, a.1 x hx], fun j h1 h2 h3 => by rw [c.2 j h1 h2 h3, a.2 j h1 h2 h3]⟩
def MY (b : Nat → Int) (l p : Int) (h : Hp) : Prop := (h 84 = b) ∧ (h 83 13 = yd b + l) ∧ (h 83 15 = p) ∧ (0 ≤ h 83 14 ∧ h 83 14 < b 0) ∧ ((h 83 14 + p) % b 0 = 0) ∧ (∀ f : Nat, (f : Int) < b 42 → h 89 f = dyf b l p f)
theorem MY.bk {b : Nat → Int} {l p : Int} {h : Hp} (q_ : MY b l p h) : h 84 = b := q_.1
theorem MY.days {b : Nat → Int} {l p : Int} {h : Hp} (q_ : MY b l p h) : h 83 13 = yd b + l := q_.2.1
theorem MY.pasch {b : Nat → Int} {l p : Int} {h : Hp} (q_ : MY b l p h) : h 83 15 = p := q_.2.2.1
theorem MY.wd0 {b : Nat → Int} {l p : Int} {h : Hp} (q_ : MY b l p h) : 0 ≤ h 83 14 ∧ h 83 14 < b 0 := q_.2.2.2.1
theorem MY.wd {b : Nat → Int} {l p : Int} {h : Hp} (q_ : MY b l p h) : (h 83 14 + p) % b 0 = 0 := q_.2.2.2.2.1
theorem MY.dys {b : Nat → Int} {l p : Int} {h : Hp} (q_ : MY b l p h) : ∀ f : Nat, (f : Int) < b 42 → h 89 f = dyf b l p f := q_.2.2.2.2.2
theorem MY.mk {b : Nat → Int} {l p : Int} {h : Hp} (bk_ : h 84 = b) (days_ : h 83 13 = yd b + l) (pasch_ : h 83 15 = p) (wd0_ : 0 ≤ h 83 14 ∧ h 83 14 < b 0) (wd_ : (h 83 14 + p) % b 0 = 0) (dys_ : ∀ f : Nat, (f : Int) < b 42 → h 89 f = dyf b l p f) : MY b l p h := ⟨bk_, days_, pasch_, wd0_, wd_, dys_⟩
theorem MY.fb {b : Nat → Int} {l p : Int} {h h' : Hp} (m : MY b l p h) (f : Fb h h') : MY b l p h' :=
  MY.mk (by rw [f.1 84 (by omega)]; exact m.bk) (by rw [f.2 13 (by omega) (by omega) (by omega)]; exact m.days) (by rw [f.2 15 (by omega) (by omega) (by omega)]; exact m.pasch) (by rw [f.2 14 (by omega) (by omega) (by omega)]; exact m.wd0) (by rw [f.2 14 (by omega) (by omega) (by omega)]; exact m.wd) (by rw [f.1 89 (by omega)]; exact m.dys)
theorem wd_shift {w0 p w d : Int} (h : (w0 + p) % w = 0) : (w0 + d) % w = (d - p) % w := by
  obtain ⟨k, hk⟩ := Int.dvd_of_emod_eq_zero h
  rw [show w0 + d = d - p + w * k by rw [← hk]; omega, Int.add_mul_emod_self_left]
def Enc (b : Nat → Int) (h : Hp) (c : Int) : Prop := c = h 83 22 * 160 + h 83 23 * 32 + (if h 83 24 = -1 then 0 else fq b (h 83 24).toNat 1 * 16 + 15 - h 83 24) ∧ (0 ≤ h 83 22 ∧ h 83 22 ≤ 9) ∧ ((h 83 24 = -1 ∧ (h 83 23 = 0 ∨ h 83 23 = 3)) ∨ (0 ≤ h 83 24 ∧ h 83 24 < b 42 ∧ (h 83 23 = 1 ∨ h 83 23 = 2)))
theorem Enc_dec {b : Nat → Int} (ok : OkB b) {h : Hp} {c : Int} (e : Enc b h c) : h 83 22 = c / 160 ∧ h 83 23 = c / 32 % 5 ∧ h 83 24 = (if c / 32 % 5 = 0 ∨ c / 32 % 5 = 3 then -1 else 15 - c % 16) ∧ 0 ≤ c ∧ c < 1600 := by
  obtain ⟨e1, e2, e3⟩ := e
  have hm := ok.many
  rcases e3 with ⟨e3, e4⟩ | ⟨e3, e4, e5⟩
  · rw [if_pos e3] at e1
    rw [if_pos (by omega)]
    omega
  · rw [if_neg (by omega)] at e1
    have := mv01 (ok.fea (h 83 24).toNat (by omega))
    rw [if_neg (by omega)]
    omega
section Mb
variable {b : Nat → Int} {h : Hp} {N : Nat} {l p : Int}
theorem m_isSunday (ok : OkB b) (m : MY b l p h) {d : Int} (hd : 0 ≤ d ∧ d ≤ 1000) : M_Md_isSunday h d = some (if (d - p) % b 0 = 0 then 1 else 0) := by
  have hw := ok.week
  have hw0 := m.wd0
  have h1 := Int.emod_nonneg (d - p) (show b 0 ≠ 0 by omega)
  have h2 := Int.emod_lt_of_pos (d - p) (show 0 < b 0 by omega)
  have hs := wd_shift (d := d) m.wd
  unfold M_Md_isSunday
  simp (disch := omega) only [leb_iff, ltb_iff, eqb_iff, pu_rmP, pu_dvP, pu_bs, pu_b0, pu_b1, pu_c0, pu_c1, pu_lt, pu_rdN, pu_wrN, hs_at, hs_cell, hs_slot, if_true, if_false, true_and, and_true, pu_rd, pu_wr, Int.reduceToNat, Int.toNat_natCast, decide_eq_true_eq, Int.add_zero, Bool.false_eq_true, if_pos, if_neg, m.bk, hs]
  by_cases e : (d - p) % b 0 = 0 <;> simp (disch := omega) only [leb_iff, ltb_iff, eqb_iff, pu_rmP, pu_dvP, pu_bs, pu_b0, pu_b1, pu_c0, pu_c1, pu_lt, pu_rdN, pu_wrN, hs_at, hs_cell, hs_slot, if_true, if_false, true_and, and_true, pu_rd, pu_wr, Int.reduceToNat, Int.toNat_natCast, decide_eq_true_eq, Int.add_zero, Bool.false_eq_true, if_pos, if_neg]
theorem m_vigilOf (ok : OkB b) (yr : Yr b l p) (m : MY b l p h) {f : Nat} (hf : (f : Int) < b 42) : M_Md_vigilOf h f = some (vgf b l p f) := by
  have hm := ok.many
  have hy := yr.bd ok
  have hdb := dyf_bd (b := b) l p f
  have ho := (ok.fea f hf).2.2.2.1
  unfold M_Md_vigilOf vgf
  rw [m_of05 (by omega), m.bk, pu_rdN (by omega), Option.bind_some, m.dys f hf]
  by_cases c1 : dyf b l p f = -1
  · simp (disch := omega) only [leb_iff, ltb_iff, eqb_iff, pu_rmP, pu_dvP, pu_bs, pu_b0, pu_b1, pu_c0, pu_c1, pu_lt, pu_rdN, pu_wrN, hs_at, hs_cell, hs_slot, if_true, if_false, true_and, and_true, pu_rd, pu_wr, Int.reduceToNat, Int.toNat_natCast, decide_eq_true_eq, Int.add_zero, Bool.false_eq_true, if_pos, if_neg]
  · by_cases c2 : fq b f 5 = 0
    · simp (disch := omega) only [leb_iff, ltb_iff, eqb_iff, pu_rmP, pu_dvP, pu_bs, pu_b0, pu_b1, pu_c0, pu_c1, pu_lt, pu_rdN, pu_wrN, hs_at, hs_cell, hs_slot, if_true, if_false, true_and, and_true, pu_rd, pu_wr, Int.reduceToNat, Int.toNat_natCast, decide_eq_true_eq, Int.add_zero, Bool.false_eq_true, if_pos, if_neg, true_or]
    · by_cases c3 : dyf b l p f < 1
      · simp (disch := omega) only [leb_iff, ltb_iff, eqb_iff, pu_rmP, pu_dvP, pu_bs, pu_b0, pu_b1, pu_c0, pu_c1, pu_lt, pu_rdN, pu_wrN, hs_at, hs_cell, hs_slot, if_true, if_false, true_and, and_true, pu_rd, pu_wr, Int.reduceToNat, Int.toNat_natCast, decide_eq_true_eq, Int.add_zero, Bool.false_eq_true, if_pos, if_neg]
      · have hsu := m_isSunday ok m (d := dyf b l p f - 1) (by omega)
        by_cases c4 : (dyf b l p f - 1 - p) % b 0 = 0
        · by_cases c5 : dyf b l p f = 1
          · simp (disch := omega) only [leb_iff, ltb_iff, eqb_iff, pu_rmP, pu_dvP, pu_bs, pu_b0, pu_b1, pu_c0, pu_c1, pu_lt, pu_rdN, pu_wrN, hs_at, hs_cell, hs_slot, if_true, if_false, true_and, and_true, pu_rd, pu_wr, Int.reduceToNat, Int.toNat_natCast, decide_eq_true_eq, Int.add_zero, Bool.false_eq_true, if_pos, if_neg, hsu]
            congr 1; omega
          · simp (disch := omega) only [leb_iff, ltb_iff, eqb_iff, pu_rmP, pu_dvP, pu_bs, pu_b0, pu_b1, pu_c0, pu_c1, pu_lt, pu_rdN, pu_wrN, hs_at, hs_cell, hs_slot, if_true, if_false, true_and, and_true, pu_rd, pu_wr, Int.reduceToNat, Int.toNat_natCast, decide_eq_true_eq, Int.add_zero, Bool.false_eq_true, if_pos, if_neg, hsu]
            congr 1; omega
        · simp (disch := omega) only [leb_iff, ltb_iff, eqb_iff, pu_rmP, pu_dvP, pu_bs, pu_b0, pu_b1, pu_c0, pu_c1, pu_lt, pu_rdN, pu_wrN, hs_at, hs_cell, hs_slot, if_true, if_false, true_and, and_true, pu_rd, pu_wr, Int.reduceToNat, Int.toNat_natCast, decide_eq_true_eq, Int.add_zero, Bool.false_eq_true, if_pos, if_neg, hsu]
theorem m_claims (ok : OkB b) (hb : h 84 = b) {c : Int} (e : Enc b h c) {f : Nat} (hf : (f : Int) < b 42) {r k : Int} (hr : 0 ≤ r ∧ r ≤ 9) (hk : k = 1 ∨ k = 2) : ∃ h', M_Md_claims h r k f = some h' ∧ Fb h h' ∧ Enc b h' (max c (kcl b f r k)) := by
  have hm := ok.many
  have hmv := mv01 (ok.fea f hf)
  have hdec := Enc_dec ok e
  have e' := e
  obtain ⟨e1, e2, e3⟩ := e
  have hgr : ∀ h' : Hp, h' = hs (hs (hs h 83 22 r) 83 23 k) 83 24 f → Fb h h' ∧ Enc b h' (kcl b f r k) := by
    intro h' e
    subst e
    refine ⟨⟨fun c hc => by rw [hs_cell hc, hs_cell hc, hs_cell hc], fun j j1 j2 j3 => by rw [hs_slot j3, hs_slot j2, hs_slot j1]⟩, ?_⟩
    unfold Enc kcl
    simp (disch := omega) only [leb_iff, ltb_iff, eqb_iff, pu_rmP, pu_dvP, pu_bs, pu_b0, pu_b1, pu_c0, pu_c1, pu_lt, pu_rdN, pu_wrN, hs_at, hs_cell, hs_slot, if_true, if_false, true_and, and_true, pu_rd, pu_wr, Int.reduceToNat, Int.toNat_natCast, decide_eq_true_eq, Int.add_zero, Bool.false_eq_true, if_pos, if_neg]
    exact ⟨by omega, by omega, by omega⟩
  unfold M_Md_claims
  by_cases c1 : r = h 83 22
  · by_cases c2 : k = h 83 23
    · have e3' : 0 ≤ h 83 24 ∧ h 83 24 < b 42 := by omega
      have hA := m_isAhead (h := h) (f := f) (o := (h 83 24).toNat) (by omega) (by omega) (by rw [hb]; exact ok.fea f hf) (by rw [hb]; exact ok.fea _ (by omega))
      have hmv2 := mv01 (ok.fea (h 83 24).toNat (by omega))
      rw [show (((h 83 24).toNat : Nat) : Int) = h 83 24 by omega, hb] at hA
      rw [if_neg (by omega)] at e1
      by_cases c3 : fq b (h 83 24).toNat 1 * 16 - h 83 24 < fq b f 1 * 16 - f
      · obtain ⟨g1, g2⟩ := hgr _ rfl
        refine ⟨_, ?_, g1, ?_⟩
        · simp (disch := omega) only [leb_iff, ltb_iff, eqb_iff, pu_rmP, pu_dvP, pu_bs, pu_b0, pu_b1, pu_c0, pu_c1, pu_lt, pu_rdN, pu_wrN, hs_at, hs_cell, hs_slot, if_true, if_false, true_and, and_true, pu_rd, pu_wr, Int.reduceToNat, Int.toNat_natCast, decide_eq_true_eq, Int.add_zero, Bool.false_eq_true, if_pos, if_neg, hA]
        · rw [show max c (kcl b f r k) = kcl b f r k by unfold kcl; omega]; exact g2
      · refine ⟨h, ?_, Fb.refl h, ?_⟩
        · simp (disch := omega) only [leb_iff, ltb_iff, eqb_iff, pu_rmP, pu_dvP, pu_bs, pu_b0, pu_b1, pu_c0, pu_c1, pu_lt, pu_rdN, pu_wrN, hs_at, hs_cell, hs_slot, if_true, if_false, true_and, and_true, pu_rd, pu_wr, Int.reduceToNat, Int.toNat_natCast, decide_eq_true_eq, Int.add_zero, Bool.false_eq_true, if_pos, if_neg, hA]
        · rw [show max c (kcl b f r k) = c by unfold kcl; omega]; exact e'
    · by_cases c3 : k ≤ h 83 23
      · refine ⟨h, ?_, Fb.refl h, ?_⟩
        · simp (disch := omega) only [leb_iff, ltb_iff, eqb_iff, pu_rmP, pu_dvP, pu_bs, pu_b0, pu_b1, pu_c0, pu_c1, pu_lt, pu_rdN, pu_wrN, hs_at, hs_cell, hs_slot, if_true, if_false, true_and, and_true, pu_rd, pu_wr, Int.reduceToNat, Int.toNat_natCast, decide_eq_true_eq, Int.add_zero, Bool.false_eq_true, if_pos, if_neg]
        · rw [show max c (kcl b f r k) = c by unfold kcl; omega]; exact e'
      · obtain ⟨g1, g2⟩ := hgr _ rfl
        refine ⟨_, ?_, g1, ?_⟩
        · simp (disch := omega) only [leb_iff, ltb_iff, eqb_iff, pu_rmP, pu_dvP, pu_bs, pu_b0, pu_b1, pu_c0, pu_c1, pu_lt, pu_rdN, pu_wrN, hs_at, hs_cell, hs_slot, if_true, if_false, true_and, and_true, pu_rd, pu_wr, Int.reduceToNat, Int.toNat_natCast, decide_eq_true_eq, Int.add_zero, Bool.false_eq_true, if_pos, if_neg]
        · rw [show max c (kcl b f r k) = kcl b f r k by unfold kcl; omega]; exact g2
  · by_cases c3 : r ≤ h 83 22
    · refine ⟨h, ?_, Fb.refl h, ?_⟩
      · simp (disch := omega) only [leb_iff, ltb_iff, eqb_iff, pu_rmP, pu_dvP, pu_bs, pu_b0, pu_b1, pu_c0, pu_c1, pu_lt, pu_rdN, pu_wrN, hs_at, hs_cell, hs_slot, if_true, if_false, true_and, and_true, pu_rd, pu_wr, Int.reduceToNat, Int.toNat_natCast, decide_eq_true_eq, Int.add_zero, Bool.false_eq_true, if_pos, if_neg]
      · rw [show max c (kcl b f r k) = c by unfold kcl; omega]; exact e'
    · obtain ⟨g1, g2⟩ := hgr _ rfl
      refine ⟨_, ?_, g1, ?_⟩
      · simp (disch := omega) only [leb_iff, ltb_iff, eqb_iff, pu_rmP, pu_dvP, pu_bs, pu_b0, pu_b1, pu_c0, pu_c1, pu_lt, pu_rdN, pu_wrN, hs_at, hs_cell, hs_slot, if_true, if_false, true_and, and_true, pu_rd, pu_wr, Int.reduceToNat, Int.toNat_natCast, decide_eq_true_eq, Int.add_zero, Bool.false_eq_true, if_pos, if_neg]
      · rw [show max c (kcl b f r k) = kcl b f r k by unfold kcl; omega]; exact g2
theorem m_laysBase (hN : 20 < N) (ok : OkB b) (yr : Yr b l p) (m : MY b l p h) {d : Int} (hd : 0 ≤ d ∧ d < yd b + l) : ∃ h', M_Md_laysBase N h d = some h' ∧ Fb h h' ∧ Enc b h' (bse b l p d) := by
  have hm := ok.many
  have hy := yr.bd ok
  have hw := ok.week
  unfold M_Md_laysBase
  generalize hg : hs (hs (hs h 83 22 0) 83 23 0) 83 24 (-1) = g
  have fg : Fb h g := by subst hg; exact ⟨fun c hc => by rw [hs_cell hc, hs_cell hc, hs_cell hc], fun j j1 j2 j3 => by rw [hs_slot j3, hs_slot j2, hs_slot j1]⟩
  have my := m.fb fg
  have loop : ∀ g0, Fb h g0 → Enc b g0 (b0f b p d) → ∃ h', Md_laysBase_L36 N d N 0 g0 = some h' ∧ Fb h h' ∧ Enc b h' (bse b l p d) := by
    intro g0 h1 h2
    exact lp_inv (fun n k x => Md_laysBase_L36 N d n k x) (fun k x => Fb h x ∧ Enc b x (bsf b l p d k)) (fun h' => Fb h h' ∧ Enc b h' (bse b l p d)) (b 42).toNat
      (fun n k x hk hp => by
        obtain ⟨k1, k2⟩ := hp
        have mx := m.fb k1
        have o := ok.fea k (by omega)
        have hdb := dyf_bd (b := b) l p k
        have hvb := vgf_bd (b := b) l p k
        have h5 := o.2.2.2.1
        have h6 := o.2.2.2.2
        by_cases c1 : dyf b l p k = -1
        · refine Or.inl ⟨x, ⟨k1, ?_⟩, ?_⟩
          · rw [bsf]; unfold orf vrf; rw [if_neg (by omega), if_neg (by omega)]; exact k2
          · (try dsimp only)
            rw [Md_laysBase_L36]
            simp (disch := omega) only [leb_iff, ltb_iff, eqb_iff, pu_rmP, pu_dvP, pu_bs, pu_b0, pu_b1, pu_c0, pu_c1, pu_lt, pu_rdN, pu_wrN, hs_at, hs_cell, hs_slot, if_true, if_false, true_and, and_true, pu_rd, pu_wr, Int.reduceToNat, Int.toNat_natCast, decide_eq_true_eq, Int.add_zero, Bool.false_eq_true, if_pos, if_neg, mx.bk, mx.dys k (by omega)]
        · have mid : ∃ x1, Fb h x1 ∧ Enc b x1 (vrf b l p d k (bsf b l p d k)) ∧ (if vgf b l p k = d then M_Md_claims x (fq b k 5) 1 k else some x) = some x1 := by
            by_cases c2 : vgf b l p k = d
            · obtain ⟨x1, e, f1, f2⟩ := m_claims (h := x) ok mx.bk k2 (f := k) (by omega) (r := fq b k 5) (k := 1) h5 (Or.inl rfl)
              refine ⟨x1, k1.trans f1, ?_, ?_⟩
              · unfold vrf; rw [if_pos c2]; exact f2
              · rw [if_pos c2]; exact e
            · refine ⟨x, k1, ?_, ?_⟩
              · unfold vrf; rw [if_neg c2]; exact k2
              · rw [if_neg c2]
          obtain ⟨x1, m1, m2, m3⟩ := mid
          have mx1 := m.fb m1
          have fin : ∃ x2, Fb h x2 ∧ Enc b x2 (bsf b l p d (k + 1)) ∧ (if dyf b l p k ≠ -1 ∧ 0 < fq b k 6 ∧ 1 ≤ d - dyf b l p k ∧ d - dyf b l p k ≤ b 0 then M_Md_claims x1 (fq b k 6) 2 k else some x1) = some x2 := by
            rw [bsf]; unfold orf
            by_cases c2 : dyf b l p k ≠ -1 ∧ 0 < fq b k 6 ∧ 1 ≤ d - dyf b l p k ∧ d - dyf b l p k ≤ b 0
            · obtain ⟨x2, e, f1, f2⟩ := m_claims (h := x1) ok mx1.bk m2 (f := k) (by omega) (r := fq b k 6) (k := 2) h6 (Or.inr rfl)
              refine ⟨x2, m1.trans f1, ?_, ?_⟩
              · rw [if_pos c2]; exact f2
              · rw [if_pos c2]; exact e
            · refine ⟨x1, m1, ?_, ?_⟩
              · rw [if_neg c2]; exact m2
              · rw [if_neg c2]
          obtain ⟨x2, f1, f2, f3⟩ := fin
          refine Or.inl ⟨x2, ⟨f1, f2⟩, ?_⟩
          (try dsimp only)
          have tail : ((M_Md_of0 x1 k 6).bind (fun x21 => if leb x21 0 then Md_laysBase_L36 N d n ((k : Int) + 1) x1 else (rdA x1 89 12 k).bind (fun x22 => (rdA x1 84 127 0).bind (fun x23 => (M_Md_isIn (d - x22) 1 x23).bind (fun x25 => if eqb x25 0 then Md_laysBase_L36 N d n ((k : Int) + 1) x1 else (M_Md_of0 x1 k 6).bind (fun x27 => (M_Md_claims x1 x27 2 k).bind (fun h29 => Md_laysBase_L36 N d n ((k : Int) + 1) h29))))))) = Md_laysBase_L36 N d n ((k : Int) + 1) x2 := by
            rw [m_of06 (by omega), mx1.bk, Option.bind_some, pu_rdN (by omega), Option.bind_some, mx1.dys k (by omega), pu_rd (by omega) (by omega), Option.bind_some, show Int.toNat 0 = 0 from rfl, mx1.bk, m_isIn (by omega) (by omega) (by omega) (by omega) (by omega) (by omega), Option.bind_some]
            by_cases c2 : dyf b l p k ≠ -1 ∧ 0 < fq b k 6 ∧ 1 ≤ d - dyf b l p k ∧ d - dyf b l p k ≤ b 0
            · rw [if_pos c2] at f3
              simp (disch := omega) only [leb_iff, ltb_iff, eqb_iff, pu_rmP, pu_dvP, pu_bs, pu_b0, pu_b1, pu_c0, pu_c1, pu_lt, pu_rdN, pu_wrN, hs_at, hs_cell, hs_slot, if_true, if_false, true_and, and_true, pu_rd, pu_wr, Int.reduceToNat, Int.toNat_natCast, decide_eq_true_eq, Int.add_zero, Bool.false_eq_true, if_pos, if_neg, f3]
            · rw [if_neg c2] at f3
              have := Option.some.inj f3
              subst this
              by_cases c3 : 0 < fq b k 6
              · simp (disch := omega) only [leb_iff, ltb_iff, eqb_iff, pu_rmP, pu_dvP, pu_bs, pu_b0, pu_b1, pu_c0, pu_c1, pu_lt, pu_rdN, pu_wrN, hs_at, hs_cell, hs_slot, if_true, if_false, true_and, and_true, pu_rd, pu_wr, Int.reduceToNat, Int.toNat_natCast, decide_eq_true_eq, Int.add_zero, Bool.false_eq_true, if_pos, if_neg]
              · simp (disch := omega) only [leb_iff, ltb_iff, eqb_iff, pu_rmP, pu_dvP, pu_bs, pu_b0, pu_b1, pu_c0, pu_c1, pu_lt, pu_rdN, pu_wrN, hs_at, hs_cell, hs_slot, if_true, if_false, true_and, and_true, pu_rd, pu_wr, Int.reduceToNat, Int.toNat_natCast, decide_eq_true_eq, Int.add_zero, Bool.false_eq_true, if_pos, if_neg]
          rw [← tail, Md_laysBase_L36]
          rw [pu_rd (by omega) (by omega), Option.bind_some, show Int.toNat 42 = 42 from rfl, mx.bk, pu_rdN (by omega), Option.bind_some, mx.dys k (by omega), m_vigilOf ok yr mx (by omega), Option.bind_some, m_of05 (h := x) (by omega), mx.bk]
          by_cases c2 : vgf b l p k = d
          · rw [if_pos c2] at m3
            simp (disch := omega) only [leb_iff, ltb_iff, eqb_iff, pu_rmP, pu_dvP, pu_bs, pu_b0, pu_b1, pu_c0, pu_c1, pu_lt, pu_rdN, pu_wrN, hs_at, hs_cell, hs_slot, if_true, if_false, true_and, and_true, pu_rd, pu_wr, Int.reduceToNat, Int.toNat_natCast, decide_eq_true_eq, Int.add_zero, Bool.false_eq_true, if_pos, if_neg, m3]
          · rw [if_neg c2] at m3
            have := Option.some.inj m3
            subst this
            simp (disch := omega) only [leb_iff, ltb_iff, eqb_iff, pu_rmP, pu_dvP, pu_bs, pu_b0, pu_b1, pu_c0, pu_c1, pu_lt, pu_rdN, pu_wrN, hs_at, hs_cell, hs_slot, if_true, if_false, true_and, and_true, pu_rd, pu_wr, Int.reduceToNat, Int.toNat_natCast, decide_eq_true_eq, Int.add_zero, Bool.false_eq_true, if_pos, if_neg])
      (fun n x hp => by
        refine ⟨x, ?_, hp⟩
        have mx := m.fb hp.1
        (try dsimp only)
        rw [Md_laysBase_L36, pu_rd (by omega) (by omega), Option.bind_some, show Int.toNat 42 = 42 from rfl, mx.bk]
        simp (disch := omega) only [leb_iff, ltb_iff, eqb_iff, pu_rmP, pu_dvP, pu_bs, pu_b0, pu_b1, pu_c0, pu_c1, pu_lt, pu_rdN, pu_wrN, hs_at, hs_cell, hs_slot, if_true, if_false, true_and, and_true, pu_rd, pu_wr, Int.reduceToNat, Int.toNat_natCast, decide_eq_true_eq, Int.add_zero, Bool.false_eq_true, if_pos, if_neg]) N 0 g0 (by omega) (by omega) ⟨h1, h2⟩
  simp only [pu_lt, hg]
  rw [m_isSunday ok my (by omega), Option.bind_some]
  have g22 : g 83 22 = 0 := by subst hg; simp (disch := omega) only [leb_iff, ltb_iff, eqb_iff, pu_rmP, pu_dvP, pu_bs, pu_b0, pu_b1, pu_c0, pu_c1, pu_lt, pu_rdN, pu_wrN, hs_at, hs_cell, hs_slot, if_true, if_false, true_and, and_true, pu_rd, pu_wr, Int.reduceToNat, Int.toNat_natCast, decide_eq_true_eq, Int.add_zero, Bool.false_eq_true, if_pos, if_neg]
  have g23 : g 83 23 = 0 := by subst hg; simp (disch := omega) only [leb_iff, ltb_iff, eqb_iff, pu_rmP, pu_dvP, pu_bs, pu_b0, pu_b1, pu_c0, pu_c1, pu_lt, pu_rdN, pu_wrN, hs_at, hs_cell, hs_slot, if_true, if_false, true_and, and_true, pu_rd, pu_wr, Int.reduceToNat, Int.toNat_natCast, decide_eq_true_eq, Int.add_zero, Bool.false_eq_true, if_pos, if_neg]
  have g24 : g 83 24 = -1 := by subst hg; simp (disch := omega) only [leb_iff, ltb_iff, eqb_iff, pu_rmP, pu_dvP, pu_bs, pu_b0, pu_b1, pu_c0, pu_c1, pu_lt, pu_rdN, pu_wrN, hs_at, hs_cell, hs_slot, if_true, if_false, true_and, and_true, pu_rd, pu_wr, Int.reduceToNat, Int.toNat_natCast, decide_eq_true_eq, Int.add_zero, Bool.false_eq_true, if_pos, if_neg]
  by_cases c1 : (d - p) % b 0 = 0
  · have hsr := sr_bd ok (d - p)
    have hms := m_sundayRank (h := g) (N := N) (by omega) (by rw [my.bk]; exact ok) (d := d) (by omega) (by rw [my.pasch]; omega)
    rw [my.bk, my.pasch] at hms
    have hb0 : b0f b p d = sr b (d - p) * 160 + 96 := if_pos c1
    obtain ⟨h', e1, e2, e3⟩ := loop (hs (hs (hs g 83 22 (sr b (d - p))) 83 23 3) 83 24 (-1)) (fg.trans ⟨fun c hc => by rw [hs_cell hc, hs_cell hc, hs_cell hc], fun j j1 j2 j3 => by rw [hs_slot j3, hs_slot j2, hs_slot j1]⟩) (by
      unfold Enc
      simp (disch := omega) only [leb_iff, ltb_iff, eqb_iff, pu_rmP, pu_dvP, pu_bs, pu_b0, pu_b1, pu_c0, pu_c1, pu_lt, pu_rdN, pu_wrN, hs_at, hs_cell, hs_slot, if_true, if_false, true_and, and_true, pu_rd, pu_wr, Int.reduceToNat, Int.toNat_natCast, decide_eq_true_eq, Int.add_zero, Bool.false_eq_true, if_pos, if_neg]
      refine ⟨?_, ?_, ?_⟩
      · omega
      · omega
      · simp)
    refine ⟨h', ?_, e2, e3⟩
    have hcl : M_Md_claims g (sr b (d - p)) 3 (-1) = some (hs (hs (hs g 83 22 (sr b (d - p))) 83 23 3) 83 24 (-1)) := by
      unfold M_Md_claims
      rw [g22, g23, g24]
      by_cases c2 : sr b (d - p) = 0
      · simp (disch := omega) only [leb_iff, ltb_iff, eqb_iff, pu_rmP, pu_dvP, pu_bs, pu_b0, pu_b1, pu_c0, pu_c1, pu_lt, pu_rdN, pu_wrN, hs_at, hs_cell, hs_slot, if_true, if_false, true_and, and_true, pu_rd, pu_wr, Int.reduceToNat, Int.toNat_natCast, decide_eq_true_eq, Int.add_zero, Bool.false_eq_true, if_pos, if_neg]
      · simp (disch := omega) only [leb_iff, ltb_iff, eqb_iff, pu_rmP, pu_dvP, pu_bs, pu_b0, pu_b1, pu_c0, pu_c1, pu_lt, pu_rdN, pu_wrN, hs_at, hs_cell, hs_slot, if_true, if_false, true_and, and_true, pu_rd, pu_wr, Int.reduceToNat, Int.toNat_natCast, decide_eq_true_eq, Int.add_zero, Bool.false_eq_true, if_pos, if_neg]
    simp (disch := omega) only [leb_iff, ltb_iff, eqb_iff, pu_rmP, pu_dvP, pu_bs, pu_b0, pu_b1, pu_c0, pu_c1, pu_lt, pu_rdN, pu_wrN, hs_at, hs_cell, hs_slot, if_true, if_false, true_and, and_true, pu_rd, pu_wr, Int.reduceToNat, Int.toNat_natCast, decide_eq_true_eq, Int.add_zero, Bool.false_eq_true, if_pos, if_neg, hms, hcl]
    exact e1
  · have hb0 : b0f b p d = 0 := if_neg c1
    obtain ⟨h', e1, e2, e3⟩ := loop g fg (by unfold Enc; rw [g22, g23, g24, hb0]; exact ⟨rfl, by omega, by omega⟩)
    refine ⟨h', ?_, e2, e3⟩
    simp (disch := omega) only [leb_iff, ltb_iff, eqb_iff, pu_rmP, pu_dvP, pu_bs, pu_b0, pu_b1, pu_c0, pu_c1, pu_lt, pu_rdN, pu_wrN, hs_at, hs_cell, hs_slot, if_true, if_false, true_and, and_true, pu_rd, pu_wr, Int.reduceToNat, Int.toNat_natCast, decide_eq_true_eq, Int.add_zero, Bool.false_eq_true, if_pos, if_neg]
    exact e1
end Mb
