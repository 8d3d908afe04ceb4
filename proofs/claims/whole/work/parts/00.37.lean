section Fb
variable {b : Nat → Int} {h : Hp} {N : Nat} {l p : Int}
theorem c_fill (hN : 1100 < N) {X nX : Nat} {e v : Int} (h0 : 0 ≤ e) (h1 : e ≤ nX) (h2 : nX < 1000) : ∃ h', M_JA_fill_IIIIV N h X nX 0 e v = some h' ∧ (∀ c, c ≠ X → h' c = h c) ∧ (∀ d : Nat, h' X d = if (d : Int) < e then v else h X d) := by
  unfold M_JA_fill_IIIIV M_JA_rangeCheck
  simp (disch := omega) only [leb_iff, ltb_iff, eqb_iff, pu_rmP, pu_dvP, pu_bs, pu_b0, pu_b1, pu_c0, pu_c1, pu_lt, pu_rdN, pu_wrN, hs_at, hs_cell, hs_slot, if_true, if_false, true_and, and_true, pu_rd, pu_wr, Int.reduceToNat, Int.toNat_natCast, decide_eq_true_eq, Int.add_zero, Bool.false_eq_true, if_pos, if_neg]
  exact lp_inv (fun n k x => JA_fill_IIIIV_L10 N X nX e v n k x) (fun k x => (∀ c, c ≠ X → x c = h c) ∧ (∀ d : Nat, x X d = if d < k then v else h X d))
    (fun h' => (∀ c, c ≠ X → h' c = h c) ∧ (∀ d : Nat, h' X d = if (d : Int) < e then v else h X d)) e.toNat
    (fun n k x hk hp => by
      obtain ⟨k1, k2⟩ := hp
      refine Or.inl ⟨hs x X k v, ⟨fun c hc => by rw [hs_cell hc]; exact k1 c hc, fun d => ?_⟩, ?_⟩
      · by_cases c : d = k
        · subst c; simp (disch := omega) only [leb_iff, ltb_iff, eqb_iff, pu_rmP, pu_dvP, pu_bs, pu_b0, pu_b1, pu_c0, pu_c1, pu_lt, pu_rdN, pu_wrN, hs_at, hs_cell, hs_slot, if_true, if_false, true_and, and_true, pu_rd, pu_wr, Int.reduceToNat, Int.toNat_natCast, decide_eq_true_eq, Int.add_zero, Bool.false_eq_true, if_pos, if_neg]
        · have := k2 d
          rw [hs_slot c, this]
          by_cases c2 : d < k <;> simp (disch := omega) only [leb_iff, ltb_iff, eqb_iff, pu_rmP, pu_dvP, pu_bs, pu_b0, pu_b1, pu_c0, pu_c1, pu_lt, pu_rdN, pu_wrN, hs_at, hs_cell, hs_slot, if_true, if_false, true_and, and_true, pu_rd, pu_wr, Int.reduceToNat, Int.toNat_natCast, decide_eq_true_eq, Int.add_zero, Bool.false_eq_true, if_pos, if_neg]
      · (try dsimp only)
        rw [JA_fill_IIIIV_L10]
        simp (disch := omega) only [leb_iff, ltb_iff, eqb_iff, pu_rmP, pu_dvP, pu_bs, pu_b0, pu_b1, pu_c0, pu_c1, pu_lt, pu_rdN, pu_wrN, hs_at, hs_cell, hs_slot, if_true, if_false, true_and, and_true, pu_rd, pu_wr, Int.reduceToNat, Int.toNat_natCast, decide_eq_true_eq, Int.add_zero, Bool.false_eq_true, if_pos, if_neg])
    (fun n x hp => by
      obtain ⟨k1, k2⟩ := hp
      refine ⟨x, ?_, k1, fun d => ?_⟩
      · (try dsimp only)
        rw [JA_fill_IIIIV_L10]
        simp (disch := omega) only [leb_iff, ltb_iff, eqb_iff, pu_rmP, pu_dvP, pu_bs, pu_b0, pu_b1, pu_c0, pu_c1, pu_lt, pu_rdN, pu_wrN, hs_at, hs_cell, hs_slot, if_true, if_false, true_and, and_true, pu_rd, pu_wr, Int.reduceToNat, Int.toNat_natCast, decide_eq_true_eq, Int.add_zero, Bool.false_eq_true, if_pos, if_neg]
      · rw [k2 d]
        by_cases c : (d : Int) < e <;> simp (disch := omega) only [leb_iff, ltb_iff, eqb_iff, pu_rmP, pu_dvP, pu_bs, pu_b0, pu_b1, pu_c0, pu_c1, pu_lt, pu_rdN, pu_wrN, hs_at, hs_cell, hs_slot, if_true, if_false, true_and, and_true, pu_rd, pu_wr, Int.reduceToNat, Int.toNat_natCast, decide_eq_true_eq, Int.add_zero, Bool.false_eq_true, if_pos, if_neg]) N 0 h (by omega) (by omega) ⟨fun _ _ => rfl, fun d => by simp (disch := omega) only [leb_iff, ltb_iff, eqb_iff, pu_rmP, pu_dvP, pu_bs, pu_b0, pu_b1, pu_c0, pu_c1, pu_lt, pu_rdN, pu_wrN, hs_at, hs_cell, hs_slot, if_true, if_false, true_and, and_true, pu_rd, pu_wr, Int.reduceToNat, Int.toNat_natCast, decide_eq_true_eq, Int.add_zero, Bool.false_eq_true, if_pos, if_neg]⟩
theorem c_raiseBase {D d a : Int} (hD : h 66 4 = D) (hb : 0 ≤ D ∧ D ≤ 249) (hd : -10000 ≤ d ∧ d ≤ 10000) (ha : 0 ≤ a ∧ a < 10000) (hv : ∀ k : Nat, (k : Int) < D → 0 ≤ h 67 k ∧ h 67 k < 10000) : ∃ h', M_YearPlan_raiseBase h d a = some h' ∧ (∀ c, c ≠ 67 → h' c = h c) ∧ (∀ k : Nat, (k : Int) < D → h' 67 k = if (k : Int) = d then max (h 67 k) a else h 67 k) := by
  unfold M_YearPlan_raiseBase
  rw [c_hasDay hD (by omega) hd, Option.bind_some]
  by_cases e : 0 ≤ d ∧ d < D
  · have hvd := hv d.toNat (by omega)
    by_cases e2 : a ≤ h 67 d.toNat
    · refine ⟨h, by simp (disch := omega) only [leb_iff, ltb_iff, eqb_iff, pu_rmP, pu_dvP, pu_bs, pu_b0, pu_b1, pu_c0, pu_c1, pu_lt, pu_rdN, pu_wrN, hs_at, hs_cell, hs_slot, if_true, if_false, true_and, and_true, pu_rd, pu_wr, Int.reduceToNat, Int.toNat_natCast, decide_eq_true_eq, Int.add_zero, Bool.false_eq_true, if_pos, if_neg], fun _ _ => rfl, fun k hk => ?_⟩
      by_cases e3 : (k : Int) = d
      · rw [if_pos e3]; have : k = d.toNat := by omega
        subst this; omega
      · rw [if_neg e3]
    · refine ⟨hs h 67 d.toNat a, by simp (disch := omega) only [leb_iff, ltb_iff, eqb_iff, pu_rmP, pu_dvP, pu_bs, pu_b0, pu_b1, pu_c0, pu_c1, pu_lt, pu_rdN, pu_wrN, hs_at, hs_cell, hs_slot, if_true, if_false, true_and, and_true, pu_rd, pu_wr, Int.reduceToNat, Int.toNat_natCast, decide_eq_true_eq, Int.add_zero, Bool.false_eq_true, if_pos, if_neg], fun c hc => hs_cell hc, fun k hk => ?_⟩
      by_cases e3 : (k : Int) = d
      · rw [if_pos e3]; have : k = d.toNat := by omega
        subst this; rw [hs_at]; omega
      · rw [if_neg e3, hs_slot (by omega)]
  · refine ⟨h, by simp (disch := omega) only [leb_iff, ltb_iff, eqb_iff, pu_rmP, pu_dvP, pu_bs, pu_b0, pu_b1, pu_c0, pu_c1, pu_lt, pu_rdN, pu_wrN, hs_at, hs_cell, hs_slot, if_true, if_false, true_and, and_true, pu_rd, pu_wr, Int.reduceToNat, Int.toNat_natCast, decide_eq_true_eq, Int.add_zero, Bool.false_eq_true, if_pos, if_neg], fun _ _ => rfl, fun k hk => ?_⟩
    rw [if_neg (by omega)]
theorem c_fillOctave (hN : 20 < N) {D d a w : Int} (hD : h 66 4 = D) (hb : 0 ≤ D ∧ D ≤ 249) (hw : h 23 1 = w) (hwb : 0 ≤ w ∧ w ≤ 9) (hd : 0 ≤ d ∧ d ≤ 1000) (ha : 0 ≤ a ∧ a < 10000) (hv : ∀ k : Nat, (k : Int) < D → 0 ≤ h 67 k ∧ h 67 k < 10000) : ∃ h', M_YearPlan_fillOctave N h d a = some h' ∧ (∀ c, c ≠ 67 → h' c = h c) ∧ (∀ k : Nat, (k : Int) < D → h' 67 k = if 1 ≤ (k : Int) - d ∧ (k : Int) - d ≤ w then max (h 67 k) a else h 67 k) := by
  have := lp_inv (fun n k x => YearPlan_fillOctave_L2 N d a n (k + 1) x) (fun j x => (∀ c, c ≠ 67 → x c = h c) ∧ (∀ k : Nat, (k : Int) < D → x 67 k = if 1 ≤ (k : Int) - d ∧ (k : Int) - d ≤ j then max (h 67 k) a else h 67 k))
    (fun h' => (∀ c, c ≠ 67 → h' c = h c) ∧ (∀ k : Nat, (k : Int) < D → h' 67 k = if 1 ≤ (k : Int) - d ∧ (k : Int) - d ≤ w then max (h 67 k) a else h 67 k)) w.toNat
    (fun n j x hj hp => by
      obtain ⟨k1, k2⟩ := hp
      obtain ⟨x', e, x1, x2⟩ := c_raiseBase (h := x) (D := D) (d := d + ((j : Int) + 1)) (a := a) (by rw [k1 66 (by omega), hD]) hb (by omega) ha (fun k hk => by
        have := hv k hk
        rw [k2 k hk]; split <;> omega)
      refine Or.inl ⟨x', ⟨fun c hc => by rw [x1 c hc, k1 c hc], fun k hk => ?_⟩, ?_⟩
      · rw [x2 k hk, k2 k hk]
        by_cases c1 : (k : Int) = d + ((j : Int) + 1)
        · rw [if_pos c1, if_neg (by omega), if_pos (by omega)]
        · rw [if_neg c1]
          by_cases c2 : 1 ≤ (k : Int) - d ∧ (k : Int) - d ≤ j
          · rw [if_pos c2, if_pos (by omega)]
          · rw [if_neg c2, if_neg (by omega)]
      · (try dsimp only)
        rw [YearPlan_fillOctave_L2, k1 23 (by omega), hw]
        simp (disch := omega) only [leb_iff, ltb_iff, eqb_iff, pu_rmP, pu_dvP, pu_bs, pu_b0, pu_b1, pu_c0, pu_c1, pu_lt, pu_rdN, pu_wrN, hs_at, hs_cell, hs_slot, if_true, if_false, true_and, and_true, pu_rd, pu_wr, Int.reduceToNat, Int.toNat_natCast, decide_eq_true_eq, Int.add_zero, Bool.false_eq_true, if_pos, if_neg, e])
    (fun n x hp => by
      obtain ⟨k1, k2⟩ := hp
      refine ⟨x, ?_, k1, fun k hk => ?_⟩
      · (try dsimp only)
        rw [YearPlan_fillOctave_L2, k1 23 (by omega), hw]
        simp (disch := omega) only [leb_iff, ltb_iff, eqb_iff, pu_rmP, pu_dvP, pu_bs, pu_b0, pu_b1, pu_c0, pu_c1, pu_lt, pu_rdN, pu_wrN, hs_at, hs_cell, hs_slot, if_true, if_false, true_and, and_true, pu_rd, pu_wr, Int.reduceToNat, Int.toNat_natCast, decide_eq_true_eq, Int.add_zero, Bool.false_eq_true, if_pos, if_neg]
      · rw [k2 k hk, show ((w.toNat : Nat) : Int) = w by omega]) N 0 h (by omega) (by omega) ⟨fun _ _ => rfl, fun k hk => by rw [if_neg (by omega)]⟩
  exact this
theorem c_fillBase (hN : 1100 < N) (ok : OkB b) (cb : CB b h 23) (yr : Yr b l p) (la : Laid b l p h) : ∃ h', M_YearPlan_fillBase N h = some h' ∧ (∀ c, c ≠ 67 → h' c = h c) ∧ (∀ d : Nat, (d : Int) < yd b + l → h' 67 d = bse b l p d) := by
  have hm := ok.many
  have hw := ok.week
  have hy := yr.bd ok
  have hpm := Int.emod_nonneg p (show b 0 ≠ 0 by omega)
  have hpm2 := Int.emod_lt_of_pos p (show 0 < b 0 by omega)
  unfold M_YearPlan_fillBase
  obtain ⟨g, e1, g1, g2⟩ := c_fill (h := h) (N := N) hN (X := 67) (nX := 249) (e := yd b + l) (v := 0) (by omega) (by omega) (by omega)
  rw [la.days, e1, Option.bind_some, g1 66 (by omega), g1 23 (by omega), la.pasch, cb.week, pu_mx (by omega) (by omega) (by omega) (by omega), show max (b 0) 1 = b 0 by omega, pu_rmP (by omega) (by omega) (by omega) (by omega), Option.bind_some]
  have := lp_gen (fun n (s : Int × Hp) => YearPlan_fillBase_L32 N (b 0) (fun v2_7 h_7 => YearPlan_fillBase_L68 N N 0 h_7) n s.1 s.2) (fun s => (yd b + l + 20 - s.1).toNat)
    (fun s => 0 ≤ s.1 ∧ s.1 % b 0 = p % b 0 ∧ s.1 < yd b + l + 10 ∧ (∀ c, c ≠ 67 → s.2 c = h c) ∧ (∀ d : Nat, (d : Int) < yd b + l → s.2 67 d = if (d : Int) < s.1 then b0f b p d else 0) ∧ (∀ d : Int, s.1 - b 0 < d → d < s.1 → 0 ≤ d → d % b 0 ≠ p % b 0))
    (fun h' => (∀ c, c ≠ 67 → h' c = h c) ∧ (∀ d : Nat, (d : Int) < yd b + l → h' 67 d = bse b l p d))
    (fun n s hs => by
      obtain ⟨d0, x⟩ := s
      obtain ⟨s0, s1, s2, s3, s4, s5⟩ := hs
      dsimp only at s0 s1 s2 s3 s4 s5
      have cbx : CB b x 23 := CB_frame cb (fun c c1 c2 => s3 c (by omega))
      by_cases c : d0 < yd b + l
      · refine Or.inl ⟨(d0 + b 0, hs x 67 d0.toNat (b0f b p d0)), ⟨by (try dsimp only); omega, by (try dsimp only); rw [Int.add_emod_right]; exact s1, by (try dsimp only); omega, fun c hc => ?_, fun d hd => ?_, fun d hd1 hd2 hd3 => ?_⟩, by (try dsimp only); omega, ?_⟩
        · (try dsimp only)
          rw [hs_cell hc]; exact s3 c hc
        · (try dsimp only)
          by_cases c2 : (d : Int) = d0
          · have : d = d0.toNat := by omega
            rw [this, hs_at, if_pos (by omega)]; congr 1; omega
          · rw [hs_slot (by omega), s4 d hd]
            by_cases c3 : (d : Int) < d0
            · rw [if_pos c3, if_pos (by omega)]
            · rw [if_neg c3]
              by_cases c4 : (d : Int) < d0 + b 0
              · rw [if_pos c4]
                unfold b0f
                rw [if_neg]
                intro hz
                have e5 : (d : Int) % b 0 = p % b 0 := Int.emod_eq_emod_iff_emod_sub_eq_zero.mpr hz
                have e6 : (d : Int) = d0 + (d - d0) := by omega
                by_cases c5 : d0 % b 0 + (d - d0) < b 0
                · have := md_lo (a := d0) (j := (d : Int) - d0) (w := b 0) (by omega) c5
                  rw [← e6] at this; omega
                · have := md_hi (a := d0) (j := (d : Int) - d0) (w := b 0) (by omega) (by omega)
                  rw [← e6] at this; omega
              · rw [if_neg c4]
        · (try dsimp only)
          dsimp only at hd1 hd2
          intro e5
          have e6 : d = d0 + (d - d0) := by omega
          by_cases c5 : d0 % b 0 + (d - d0) < b 0
          · have := md_lo (a := d0) (j := d - d0) (w := b 0) (by omega) c5
            rw [← e6] at this; omega
          · have := md_hi (a := d0) (j := d - d0) (w := b 0) (by omega) (by omega)
            rw [← e6] at this; omega
        · (try dsimp only)
          rw [YearPlan_fillBase_L32, s3 66 (by omega), la.days, la.pasch, c_sundayClaim (by omega) ok cbx (by omega)]
          have e7 : b0f b p d0 = sr b (d0 - p) * 160 + 96 := if_pos (Int.emod_eq_emod_iff_emod_sub_eq_zero.mp s1)
          rw [e7]
          simp (disch := omega) only [leb_iff, ltb_iff, eqb_iff, pu_rmP, pu_dvP, pu_bs, pu_b0, pu_b1, pu_c0, pu_c1, pu_lt, pu_rdN, pu_wrN, hs_at, hs_cell, hs_slot, if_true, if_false, true_and, and_true, pu_rd, pu_wr, Int.reduceToNat, Int.toNat_natCast, decide_eq_true_eq, Int.add_zero, Bool.false_eq_true, if_pos, if_neg]
      · have base : ∀ d : Nat, (d : Int) < yd b + l → x 67 d = b0f b p d := fun d hd => by rw [s4 d hd, if_pos (by omega)]
        have second := lp_inv (fun n k x => YearPlan_fillBase_L68 N n k x) (fun k x => (∀ c, c ≠ 67 → x c = h c) ∧ (∀ d : Nat, (d : Int) < yd b + l → x 67 d = bsf b l p d k))
          (fun h' => (∀ c, c ≠ 67 → h' c = h c) ∧ (∀ d : Nat, (d : Int) < yd b + l → h' 67 d = bse b l p d)) (b 42).toNat
          (fun n k x hk hp => by
            obtain ⟨k1, k2⟩ := hp
            have cbx : CB b x 23 := CB_frame cb (fun c c1 c2 => k1 c (by omega))
            have o := ok.fea k (by omega)
            have hfe := cb_fea cbx (f := k) (by omega)
            have hr := la.rows k (by omega)
            have hvb := vgf_bd (b := b) l p k
            have hdb := dyf_bd (b := b) l p k
            have hk1 := kcl_bd o (by omega) (r := fq b k 5) (k := 1)
            have hk2 := kcl_bd o (by omega) (r := fq b k 6) (k := 2)
            have h5 := o.2.2.2.1
            have h6 := o.2.2.2.2
            have bdx : ∀ d : Nat, (d : Int) < yd b + l → 0 ≤ x 67 d ∧ x 67 d < 1600 := fun d hd => by rw [k2 d hd]; exact bsf_bd ok l p d k (by omega)
            have mid : ∃ x1, (∀ c, c ≠ 67 → x1 c = h c) ∧ (∀ d : Nat, (d : Int) < yd b + l → x1 67 d = vrf b l p d k (bsf b l p d k)) ∧ (if eqb (vgf b l p k) (-1) = true then some x else (rdA x 70 12 k).bind (fun x22 => (M_Feasts_vigilClaim x 33 k).bind (fun x24 => (M_YearPlan_raiseBase x x22 x24).bind (fun h26 => some h26)))) = some x1 := by
              by_cases c1 : vgf b l p k = -1
              · refine ⟨x, k1, fun d hd => ?_, by simp (disch := omega) only [leb_iff, ltb_iff, eqb_iff, pu_rmP, pu_dvP, pu_bs, pu_b0, pu_b1, pu_c0, pu_c1, pu_lt, pu_rdN, pu_wrN, hs_at, hs_cell, hs_slot, if_true, if_false, true_and, and_true, pu_rd, pu_wr, Int.reduceToNat, Int.toNat_natCast, decide_eq_true_eq, Int.add_zero, Bool.false_eq_true, if_pos, if_neg]⟩
                rw [k2 d hd]; unfold vrf; rw [if_neg (by omega)]
              · obtain ⟨x', e, x1, x2⟩ := c_raiseBase (h := x) (D := yd b + l) (d := vgf b l p k) (a := kcl b k (fq b k 5) 1) (by rw [k1 66 (by omega), la.days]) (by omega) (by omega) (by omega) (fun d hd => by have := bdx d hd; omega)
                refine ⟨x', fun c hc => by rw [x1 c hc, k1 c hc], fun d hd => ?_, ?_⟩
                · rw [x2 d hd, k2 d hd]; unfold vrf
                  by_cases c2 : vgf b l p k = d
                  · rw [if_pos c2, if_pos c2.symm]
                  · rw [if_neg c2, if_neg (fun e => c2 e.symm)]
                · rw [c_vigilClaim ok cbx (by omega), pu_rdN (h := x) (c := 70) (by omega), k1 70 (by omega), hr.2]
                  simp (disch := omega) only [leb_iff, ltb_iff, eqb_iff, pu_rmP, pu_dvP, pu_bs, pu_b0, pu_b1, pu_c0, pu_c1, pu_lt, pu_rdN, pu_wrN, hs_at, hs_cell, hs_slot, if_true, if_false, true_and, and_true, pu_rd, pu_wr, Int.reduceToNat, Int.toNat_natCast, decide_eq_true_eq, Int.add_zero, Bool.false_eq_true, if_pos, if_neg, e]
            obtain ⟨x1, m1, m2, m3⟩ := mid
            have cbx1 : CB b x1 23 := CB_frame cb (fun c c1 c2 => m1 c (by omega))
            have bdx1 : ∀ d : Nat, (d : Int) < yd b + l → 0 ≤ x1 67 d ∧ x1 67 d < 10000 := fun d hd => by
              rw [m2 d hd]; have := bsf_bd ok l p d k (by omega); unfold vrf; split <;> omega
            have fin : ∃ x2, (∀ c, c ≠ 67 → x2 c = h c) ∧ (∀ d : Nat, (d : Int) < yd b + l → x2 67 d = bsf b l p d (k + 1)) ∧ ((rdA x1 69 12 k).bind (fun x15 => if eqb x15 (-1) then YearPlan_fillBase_L68 N n ((k : Int) + 1) x1 else (rdA x1 39 12 k).bind (fun x16 => if leb x16 0 then YearPlan_fillBase_L68 N n ((k : Int) + 1) x1 else (rdA x1 69 12 k).bind (fun x17 => (M_Feasts_octaveClaim x1 33 k).bind (fun x19 => (M_YearPlan_fillOctave N x1 x17 x19).bind (fun h21 => YearPlan_fillBase_L68 N n ((k : Int) + 1) h21)))))) = YearPlan_fillBase_L68 N n ((k : Int) + 1) x2 := by
              have hfe1 := cb_fea cbx1 (f := k) (by omega)
              rw [pu_rdN (by omega), Option.bind_some, m1 69 (by omega), hr.1, pu_rdN (by omega), Option.bind_some, hfe1.2.2.2.2.2]
              by_cases c1 : dyf b l p k ≠ -1 ∧ 0 < fq b k 6
              · obtain ⟨x', e, y1, y2⟩ := c_fillOctave (h := x1) (N := N) (by omega) (D := yd b + l) (d := dyf b l p k) (a := kcl b k (fq b k 6) 2) (w := b 0) (by rw [m1 66 (by omega), la.days]) (by omega) (by rw [m1 23 (by omega), cb.week]) (by omega) (by omega) (by omega) bdx1
                refine ⟨x', fun c hc => by rw [y1 c hc, m1 c hc], fun d hd => ?_, ?_⟩
                · rw [y2 d hd, m2 d hd, bsf]; unfold orf
                  by_cases c2 : 1 ≤ (d : Int) - dyf b l p k ∧ (d : Int) - dyf b l p k ≤ b 0
                  · rw [if_pos c2, if_pos ⟨c1.1, c1.2, c2⟩]
                  · rw [if_neg c2, if_neg (fun z => c2 z.2.2)]
                · rw [c_octaveClaim ok cbx1 (by omega)]
                  simp (disch := omega) only [leb_iff, ltb_iff, eqb_iff, pu_rmP, pu_dvP, pu_bs, pu_b0, pu_b1, pu_c0, pu_c1, pu_lt, pu_rdN, pu_wrN, hs_at, hs_cell, hs_slot, if_true, if_false, true_and, and_true, pu_rd, pu_wr, Int.reduceToNat, Int.toNat_natCast, decide_eq_true_eq, Int.add_zero, Bool.false_eq_true, if_pos, if_neg, e]
              · refine ⟨x1, m1, fun d hd => ?_, ?_⟩
                · rw [m2 d hd, bsf]; unfold orf
                  rw [if_neg (fun z => c1 ⟨z.1, z.2.1⟩)]
                · by_cases c2 : dyf b l p k = -1
                  · simp (disch := omega) only [leb_iff, ltb_iff, eqb_iff, pu_rmP, pu_dvP, pu_bs, pu_b0, pu_b1, pu_c0, pu_c1, pu_lt, pu_rdN, pu_wrN, hs_at, hs_cell, hs_slot, if_true, if_false, true_and, and_true, pu_rd, pu_wr, Int.reduceToNat, Int.toNat_natCast, decide_eq_true_eq, Int.add_zero, Bool.false_eq_true, if_pos, if_neg]
                  · simp (disch := omega) only [leb_iff, ltb_iff, eqb_iff, pu_rmP, pu_dvP, pu_bs, pu_b0, pu_b1, pu_c0, pu_c1, pu_lt, pu_rdN, pu_wrN, hs_at, hs_cell, hs_slot, if_true, if_false, true_and, and_true, pu_rd, pu_wr, Int.reduceToNat, Int.toNat_natCast, decide_eq_true_eq, Int.add_zero, Bool.false_eq_true, if_pos, if_neg]
            obtain ⟨x2, f1, f2, f3⟩ := fin
            refine Or.inl ⟨x2, ⟨f1, f2⟩, ?_⟩
            (try dsimp only)
            rw [← f3]
            rw [YearPlan_fillBase_L68, cb_many cbx, pu_rdN (h := x) (c := 70) (by omega), Option.bind_some, k1 70 (by omega), hr.2]
            by_cases c1 : vgf b l p k = -1
            · have : x1 = x := by
                rw [if_pos (by rw [eqb_iff (by omega) (by omega) (by omega) (by omega)]; exact c1)] at m3
                exact (Option.some.inj m3).symm
              subst this
              simp (disch := omega) only [leb_iff, ltb_iff, eqb_iff, pu_rmP, pu_dvP, pu_bs, pu_b0, pu_b1, pu_c0, pu_c1, pu_lt, pu_rdN, pu_wrN, hs_at, hs_cell, hs_slot, if_true, if_false, true_and, and_true, pu_rd, pu_wr, Int.reduceToNat, Int.toNat_natCast, decide_eq_true_eq, Int.add_zero, Bool.false_eq_true, if_pos, if_neg]
            · rw [if_neg (by rw [eqb_iff (by omega) (by omega) (by omega) (by omega)]; exact c1), c_vigilClaim ok cbx (by omega), pu_rdN (by omega), Option.bind_some, Option.bind_some, k1 70 (by omega), hr.2, Option.bind_fun_some] at m3
              rw [c_vigilClaim ok cbx (by omega)]
              simp (disch := omega) only [leb_iff, ltb_iff, eqb_iff, pu_rmP, pu_dvP, pu_bs, pu_b0, pu_b1, pu_c0, pu_c1, pu_lt, pu_rdN, pu_wrN, hs_at, hs_cell, hs_slot, if_true, if_false, true_and, and_true, pu_rd, pu_wr, Int.reduceToNat, Int.toNat_natCast, decide_eq_true_eq, Int.add_zero, Bool.false_eq_true, if_pos, if_neg, m3])
          (fun n x hp => by
            obtain ⟨k1, k2⟩ := hp
            refine ⟨x, ?_, k1, k2⟩
            (try dsimp only)
            rw [YearPlan_fillBase_L68, k1 33 (by omega), cb_many cb]
            simp (disch := omega) only [leb_iff, ltb_iff, eqb_iff, pu_rmP, pu_dvP, pu_bs, pu_b0, pu_b1, pu_c0, pu_c1, pu_lt, pu_rdN, pu_wrN, hs_at, hs_cell, hs_slot, if_true, if_false, true_and, and_true, pu_rd, pu_wr, Int.reduceToNat, Int.toNat_natCast, decide_eq_true_eq, Int.add_zero, Bool.false_eq_true, if_pos, if_neg]) N 0 x (by omega) (by omega) ⟨s3, base⟩
        obtain ⟨r, e, q⟩ := second
        refine Or.inr ⟨r, ?_, q⟩
        (try dsimp only)
        rw [YearPlan_fillBase_L32, s3 66 (by omega), la.days]
        simp (disch := omega) only [leb_iff, ltb_iff, eqb_iff, pu_rmP, pu_dvP, pu_bs, pu_b0, pu_b1, pu_c0, pu_c1, pu_lt, pu_rdN, pu_wrN, hs_at, hs_cell, hs_slot, if_true, if_false, true_and, and_true, pu_rd, pu_wr, Int.reduceToNat, Int.toNat_natCast, decide_eq_true_eq, Int.add_zero, Bool.false_eq_true, if_pos, if_neg]
        exact e) N (p % b 0, g) (by (try dsimp only); omega) (by
      refine ⟨hpm, by (try dsimp only); rw [Int.emod_emod], by (try dsimp only); omega, g1, fun d hd => ?_, fun d hd1 hd2 hd3 => ?_⟩
      · dsimp only
        rw [g2 d, if_pos hd]
        by_cases c : (d : Int) < p % b 0
        · rw [if_pos c]; unfold b0f; rw [if_neg]
          intro hz
          have e5 : (d : Int) % b 0 = p % b 0 := Int.emod_eq_emod_iff_emod_sub_eq_zero.mpr hz
          rw [Int.emod_eq_of_lt (by omega) (by omega)] at e5; omega
        · rw [if_neg c]
      · dsimp only at hd1 hd2
        rw [Int.emod_eq_of_lt hd3 (by omega)]; omega)
  exact this
end Fb
