section Be
variable {b : Nat → Int} {h : Hp} {N : Nat}
theorem m_canTell (ok : OkB b) {f : Nat} (hf : (f : Int) < b 42) {x : Hp} {v : Int} (hx : x 84 = pu_up b (43 + 7 * f + 3) v) {d : Int} (hd : -1000 ≤ d ∧ d ≤ 1000) : ∃ t : Int, M_Md_canTell x f d = some t ∧ ((t = 1 ∧ tell b f d) ∨ (t = 0 ∧ ¬ tell b f d)) := by
  have hm := ok.many
  have hmo := ok.mon
  have ho := ok.fea f hf
  have q : ∀ u, u < 7 → u ≠ 3 → fq (x 84) f u = fq b f u := fun u hu h3 => by rw [hx, up_fq (by omega) hu, if_neg (fun z => h3 z.2)]
  unfold M_Md_canTell tell
  rw [m_of01 (by omega), pu_bs, q 1 (by omega) (by omega), m_of02 (by omega), q 2 (by omega) (by omega)]
  rcases ho.2.1 with e | e
  · by_cases c : -99 ≤ d ∧ d ≤ 99
    · exact ⟨1, by simp (disch := omega) only [leb_iff, ltb_iff, eqb_iff, pu_rmP, pu_dvP, pu_bs, pu_b0, pu_b1, pu_c0, pu_c1, pu_lt, pu_rdN, pu_wrN, hs_at, hs_cell, hs_slot, if_true, if_false, true_and, and_true, pu_rd, pu_wr, Int.reduceToNat, Int.toNat_natCast, decide_eq_true_eq, Int.add_zero, Bool.false_eq_true, if_pos, if_neg, m_isIn, e.1], Or.inl ⟨rfl, Or.inl ⟨e.1, c⟩⟩⟩
    · refine ⟨0, by simp (disch := omega) only [leb_iff, ltb_iff, eqb_iff, pu_rmP, pu_dvP, pu_bs, pu_b0, pu_b1, pu_c0, pu_c1, pu_lt, pu_rdN, pu_wrN, hs_at, hs_cell, hs_slot, if_true, if_false, true_and, and_true, pu_rd, pu_wr, Int.reduceToNat, Int.toNat_natCast, decide_eq_true_eq, Int.add_zero, Bool.false_eq_true, if_pos, if_neg, m_isIn, e.1], Or.inr ⟨rfl, fun z => ?_⟩⟩
      rcases z with z | z <;> omega
  · have hdb := ok.days (fq b f 2).toNat (by omega)
    have e2 : rdA x 84 127 (2 + fq b f 2) = some (b (2 + (fq b f 2).toNat)) := by
      rw [pu_rd (by omega) (by omega), hx, show (2 + fq b f 2).toNat = 2 + (fq b f 2).toNat by omega, up_cal _ (by omega)]
    by_cases c : 0 ≤ d ∧ d < b (2 + (fq b f 2).toNat)
    · refine ⟨1, ?_, Or.inl ⟨rfl, Or.inr ⟨e.1, c⟩⟩⟩
      rw [pu_bs, e2]
      simp (disch := omega) only [leb_iff, ltb_iff, eqb_iff, pu_rmP, pu_dvP, pu_bs, pu_b0, pu_b1, pu_c0, pu_c1, pu_lt, pu_rdN, pu_wrN, hs_at, hs_cell, hs_slot, if_true, if_false, true_and, and_true, pu_rd, pu_wr, Int.reduceToNat, Int.toNat_natCast, decide_eq_true_eq, Int.add_zero, Bool.false_eq_true, if_pos, if_neg, m_isIn]
    · refine ⟨0, ?_, Or.inr ⟨rfl, fun z => ?_⟩⟩
      · rw [pu_bs, e2]
        simp (disch := omega) only [leb_iff, ltb_iff, eqb_iff, pu_rmP, pu_dvP, pu_bs, pu_b0, pu_b1, pu_c0, pu_c1, pu_lt, pu_rdN, pu_wrN, hs_at, hs_cell, hs_slot, if_true, if_false, true_and, and_true, pu_rd, pu_wr, Int.reduceToNat, Int.toNat_natCast, decide_eq_true_eq, Int.add_zero, Bool.false_eq_true, if_pos, if_neg, m_isIn]
      · rcases z with z | z <;> omega
theorem kpC_told (ok : OkB b) {f : Nat} (hf : (f : Int) < b 42) {sh : Int} (ht : tell b f (fq b f 3 + sh)) : kpC (pu_up b (43 + 7 * f + 3) (fq b f 3 + sh)) f = kbC b f sh := by
  unfold kpC kbC
  rw [cyN_cg ok up_cal6]
  refine cnt_congr (fun y hy => ?_)
  apply Bool.eq_iff_iff.mpr
  rw [kbB_iff, decide_eq_true_eq, sy_cg ok up_cal6]
  unfold rsS kbS
  rw [spc_cg up_cal6, kept_told ok hf ht]
  exact ⟨fun z => ⟨ht, z⟩, fun z => z.2⟩
theorem kbC_no {f : Nat} {sh : Int} (ht : ¬ tell b f (fq b f 3 + sh)) : kbC b f sh = 0 := by
  unfold kbC
  refine cnt_none (fun y _ => ?_)
  rw [← Bool.not_eq_true, kbB_iff]
  exact fun z => ht z.1
theorem tell_self (ok : OkB b) {f : Nat} (hf : (f : Int) < b 42) : tell b f (fq b f 3) := by
  rcases (ok.fea f hf).2.1 with e | e
  · exact Or.inl ⟨e.1, e.2.2⟩
  · exact Or.inr ⟨e.1, e.2.2.2⟩
theorem told_bd (ok : OkB b) {f : Nat} (hf : (f : Int) < b 42) : -99 ≤ fq b f 3 ∧ fq b f 3 ≤ 99 := by
  have hmo := ok.mon
  rcases (ok.fea f hf).2.1 with e | e
  · exact e.2.2
  · have := ok.days (fq b f 2).toNat (by omega); omega
theorem m_side (hN : 2000 < N) (ok : OkB b) {f : Nat} (hf : (f : Int) < b 42) {x : Hp} (fx : Fs h x) {v : Int} (hx : x 84 = pu_up b (43 + 7 * f + 3) v) {sh v6 v7 v8 v9 : Int} (hsh : -5 ≤ sh ∧ sh ≤ 5) (hv9 : -5 ≤ v9 ∧ v9 < 2) (hv6 : -1 ≤ v6 ∧ v6 ≤ 1539) (e89 : v9 * v8 = sh) (n : Nat) (K : Int → Int → Int → Hp → Option (Int × Hp)) :
    ∃ x' v', Fs h x' ∧ x' 84 = pu_up b (43 + 7 * f + 3) v' ∧ ((tell b f (fq b f 3 + sh) ∧ v6 < kbC b f sh ∧ Md_better_L91 N f (43 + 7 * (f : Int) + 3) (fq b f 3) v8 K (n + 1) v6 v7 v9 x = Md_better_L91 N f (43 + 7 * (f : Int) + 3) (fq b f 3) v8 K n (kbC b f sh) (fq b f 3 + sh) (v9 + 2) x') ∨ (¬ (tell b f (fq b f 3 + sh) ∧ v6 < kbC b f sh) ∧ Md_better_L91 N f (43 + 7 * (f : Int) + 3) (fq b f 3) v8 K (n + 1) v6 v7 v9 x = Md_better_L91 N f (43 + 7 * (f : Int) + 3) (fq b f 3) v8 K n v6 v7 (v9 + 2) x')) := by
  have hm := ok.many
  have htb := told_bd ok hf
  have hkb := kbC_bd ok f sh
  obtain ⟨t, t1, t2⟩ := m_canTell ok hf hx (d := fq b f 3 + sh) (by omega)
  have unf := @Md_better_L91.eq_2 N f (43 + 7 * (f : Int) + 3) (fq b f 3) v8 K v6 v7 v9 x n
  rw [e89, t1] at unf
  rcases t2 with ⟨t2, t3⟩ | ⟨t2, t3⟩
  · have ok' := up_okB ok (f := f) (w := 3) (by omega) (up_told ok hf t3)
    have h42 : pu_up b (43 + 7 * f + 3) (fq b f 3 + sh) 42 = b 42 := up_cal 42 (by omega)
    have h84 : hs x 84 (43 + 7 * f + 3) (fq b f 3 + sh) 84 = pu_up b (43 + 7 * f + 3) (fq b f 3 + sh) := by rw [hs_up, hx, pu_up_up]
    obtain ⟨x', e1, e2⟩ := m_keptYears (h := hs x 84 (43 + 7 * f + 3) (fq b f 3 + sh)) hN ok' h84 (f := f) (by rw [h42]; exact hf)
    rw [kpC_told ok hf t3] at e1
    have ei : ((43 : Int) + 7 * (f : Int) + 3).toNat = 43 + 7 * f + 3 := by omega
    refine ⟨x', fq b f 3 + sh, (fx.trans Fs_hs).trans e2.fs, by rw [e2.1 84 (by omega) (by omega)]; exact h84, ?_⟩
    by_cases c : v6 < kbC b f sh
    · refine Or.inl ⟨t3, c, ?_⟩
      rw [unf, t2]
      simp (disch := omega) only [leb_iff, ltb_iff, eqb_iff, pu_rmP, pu_dvP, pu_bs, pu_b0, pu_b1, pu_c0, pu_c1, pu_lt, pu_rdN, pu_wrN, hs_at, hs_cell, hs_slot, if_true, if_false, true_and, and_true, pu_rd, pu_wr, Int.reduceToNat, Int.toNat_natCast, decide_eq_true_eq, Int.add_zero, Bool.false_eq_true, if_pos, if_neg, ei, e1]
    · refine Or.inr ⟨fun z => c z.2, ?_⟩
      rw [unf, t2]
      simp (disch := omega) only [leb_iff, ltb_iff, eqb_iff, pu_rmP, pu_dvP, pu_bs, pu_b0, pu_b1, pu_c0, pu_c1, pu_lt, pu_rdN, pu_wrN, hs_at, hs_cell, hs_slot, if_true, if_false, true_and, and_true, pu_rd, pu_wr, Int.reduceToNat, Int.toNat_natCast, decide_eq_true_eq, Int.add_zero, Bool.false_eq_true, if_pos, if_neg, ei, e1]
  · refine ⟨x, v, fx, hx, Or.inr ⟨fun z => t3 z.1, ?_⟩⟩
    rw [unf, t2]
    simp (disch := omega) only [leb_iff, ltb_iff, eqb_iff, pu_rmP, pu_dvP, pu_bs, pu_b0, pu_b1, pu_c0, pu_c1, pu_lt, pu_rdN, pu_wrN, hs_at, hs_cell, hs_slot, if_true, if_false, true_and, and_true, pu_rd, pu_wr, Int.reduceToNat, Int.toNat_natCast, decide_eq_true_eq, Int.add_zero, Bool.false_eq_true, if_pos, if_neg]
theorem m_better_L (hN : 2000 < N) (ok : OkB b) (hb : h 84 = b) {f : Nat} (hf : (f : Int) < b 42) {m : Nat} (hm5 : m ≤ 5) {w : Int} (hw : w = 0 ∨ w = 1) : ∃ h', Md_better_L82 N f m w (43 + 7 * (f : Int) + 3) (fq b f 3) N (-1) (fq b f 3) 0 h = some (if w = 0 then fq b f 3 + bst b f m else kbC b f (bst b f m), h') ∧ Fq h h' := by
  have hm := ok.many
  have ei : ((43 : Int) + 7 * (f : Int) + 3).toNat = 43 + 7 * f + 3 := by omega
  have hwas : b (43 + 7 * f + 3) = fq b f 3 := rfl
  have hself : pu_up b (43 + 7 * f + 3) (fq b f 3) = b := by
    rw [← hwas]; funext k; unfold pu_up; split
    · rename_i z; rw [z]
    · rfl
  have := lp_inv (fun n k (a : Int × Int × Hp) => Md_better_L82 N f m w (43 + 7 * (f : Int) + 3) (fq b f 3) n a.1 a.2.1 k a.2.2) (fun k a => Fs h a.2.2 ∧ (∃ v, a.2.2 84 = pu_up b (43 + 7 * f + 3) v) ∧ ((k = 0 ∧ a.1 = -1 ∧ a.2.1 = fq b f 3) ∨ (∃ j, k = j + 1 ∧ a.1 = kbC b f (bst b f j) ∧ a.2.1 = fq b f 3 + bst b f j))) (fun r => r.1 = (if w = 0 then fq b f 3 + bst b f m else kbC b f (bst b f m)) ∧ Fq h r.2) (m + 1)
    (fun n k a hk hp => by
      obtain ⟨a, a2, x⟩ := a
      obtain ⟨k1, ⟨v, k2⟩, k3⟩ := hp
      dsimp only at k1 k2 k3
      have hN3 : ∃ n', N = n' + 3 := ⟨N - 3, by omega⟩
      obtain ⟨n', hn'⟩ := hN3
      have fin : ∀ (p q : Int) (y : Hp) (c : Nat), Md_better_L91 N f (43 + 7 * (f : Int) + 3) (fq b f 3) (k : Int) (fun v6_16 v7_16 v9_16 h_16 => Md_better_L82 N f m w (43 + 7 * (f : Int) + 3) (fq b f 3) n v6_16 v7_16 ((k : Int) + 1) h_16) (c + 1) p q (-1 + 2 + 2) y = Md_better_L82 N f m w (43 + 7 * (f : Int) + 3) (fq b f 3) n p q ((k : Int) + 1) y := by
        intro p q y c
        rw [Md_better_L91]
        simp (disch := omega) only [leb_iff, ltb_iff, eqb_iff, pu_rmP, pu_dvP, pu_bs, pu_b0, pu_b1, pu_c0, pu_c1, pu_lt, pu_rdN, pu_wrN, hs_at, hs_cell, hs_slot, if_true, if_false, true_and, and_true, pu_rd, pu_wr, Int.reduceToNat, Int.toNat_natCast, decide_eq_true_eq, Int.add_zero, Bool.false_eq_true, if_pos, if_neg]
      have head : Md_better_L82 N f m w (43 + 7 * (f : Int) + 3) (fq b f 3) (n + 1) a a2 (k : Int) x = Md_better_L91 N f (43 + 7 * (f : Int) + 3) (fq b f 3) (k : Int) (fun v6_16 v7_16 v9_16 h_16 => Md_better_L82 N f m w (43 + 7 * (f : Int) + 3) (fq b f 3) n v6_16 v7_16 ((k : Int) + 1) h_16) (n' + 2 + 1) a a2 (-1) x := by
        rw [Md_better_L82, if_neg (by rw [ltb_iff (by omega) (by omega) (by omega) (by omega)]; omega), ← hn']
      rcases k3 with ⟨z1, z2, z3⟩ | ⟨j, z1, z2, z3⟩
      · subst z1
        have t0 := tell_self ok hf
        have hk0 := kbC_bd ok f 0
        obtain ⟨x1, v1, f1, f2, f3⟩ := m_side (h := h) hN ok hf k1 k2 (sh := 0) (v6 := a) (v7 := a2) (v8 := ((0 : Nat) : Int)) (v9 := -1) (by omega) (by omega) (by omega) (by simp) (n' + 2) (fun v6_16 v7_16 v9_16 h_16 => Md_better_L82 N f m w (43 + 7 * (f : Int) + 3) (fq b f 3) n v6_16 v7_16 (((0 : Nat) : Int) + 1) h_16)
        rw [Int.add_zero] at f3
        rcases f3 with ⟨g1, g2, g3⟩ | ⟨g1, g3⟩
        · obtain ⟨x2, v2, p1, p2, p3⟩ := m_side (h := h) hN ok hf f1 f2 (sh := 0) (v6 := kbC b f 0) (v7 := fq b f 3) (v8 := ((0 : Nat) : Int)) (v9 := -1 + 2) (by omega) (by omega) (by omega) (by simp) (n' + 1) (fun v6_16 v7_16 v9_16 h_16 => Md_better_L82 N f m w (43 + 7 * (f : Int) + 3) (fq b f 3) n v6_16 v7_16 (((0 : Nat) : Int) + 1) h_16)
          rcases p3 with ⟨q1, q2, q3⟩ | ⟨q1, q3⟩
          · omega
          · refine Or.inl ⟨(kbC b f 0, fq b f 3, x2), ⟨p1, ⟨v2, p2⟩, Or.inr ⟨0, by omega, rfl, by dsimp only; rw [bst]; omega⟩⟩, ?_⟩
            dsimp only
            rw [head, g3, q3, fin]
        · exact absurd ⟨t0, by omega⟩ g1
      · subst z1
        have hb0 := bst_bd b f j
        have hk0 := kbC_bd ok f (bst b f j)
        have hk1 := kbC_bd ok f (-((j : Int) + 1))
        have hk2 := kbC_bd ok f ((j : Int) + 1)
        generalize hs1 : (if kbC b f (bst b f j) < kbC b f (-((j : Int) + 1)) then -((j : Int) + 1) else bst b f j) = s1
        have hbst : bst b f (j + 1) = if kbC b f s1 < kbC b f ((j : Int) + 1) then (j : Int) + 1 else s1 := by rw [bst, hs1]
        obtain ⟨x1, v1, f1, f2, f3⟩ := m_side (h := h) hN ok hf k1 k2 (sh := -((j : Int) + 1)) (v6 := a) (v7 := a2) (v8 := ((j + 1 : Nat) : Int)) (v9 := -1) (by omega) (by omega) (by omega) (by omega) (n' + 2) (fun v6_16 v7_16 v9_16 h_16 => Md_better_L82 N f m w (43 + 7 * (f : Int) + 3) (fq b f 3) n v6_16 v7_16 (((j + 1 : Nat) : Int) + 1) h_16)
        have mid : Md_better_L91 N f (43 + 7 * (f : Int) + 3) (fq b f 3) ((j + 1 : Nat) : Int) (fun v6_16 v7_16 v9_16 h_16 => Md_better_L82 N f m w (43 + 7 * (f : Int) + 3) (fq b f 3) n v6_16 v7_16 (((j + 1 : Nat) : Int) + 1) h_16) (n' + 2 + 1) a a2 (-1) x = Md_better_L91 N f (43 + 7 * (f : Int) + 3) (fq b f 3) ((j + 1 : Nat) : Int) (fun v6_16 v7_16 v9_16 h_16 => Md_better_L82 N f m w (43 + 7 * (f : Int) + 3) (fq b f 3) n v6_16 v7_16 (((j + 1 : Nat) : Int) + 1) h_16) (n' + 1 + 1) (kbC b f s1) (fq b f 3 + s1) (-1 + 2) x1 := by
          rcases f3 with ⟨g1, g2, g3⟩ | ⟨g1, g3⟩
          · rw [if_pos (by omega)] at hs1
            rw [g3, ← hs1]
          · have hno : ¬ kbC b f (bst b f j) < kbC b f (-((j : Int) + 1)) := fun z => by
              by_cases ct : tell b f (fq b f 3 + -((j : Int) + 1))
              · exact g1 ⟨ct, by omega⟩
              · have := kbC_no ct; omega
            rw [if_neg hno] at hs1
            rw [g3, ← hs1, z2, z3]
        have hs1b : -5 ≤ s1 ∧ s1 ≤ 5 := by rw [← hs1]; split <;> omega
        have hks1 := kbC_bd ok f s1
        obtain ⟨x2, v2, p1, p2, p3⟩ := m_side (h := h) hN ok hf f1 f2 (sh := (j : Int) + 1) (v6 := kbC b f s1) (v7 := fq b f 3 + s1) (v8 := ((j + 1 : Nat) : Int)) (v9 := -1 + 2) (by omega) (by omega) (by omega) (by omega) (n' + 1) (fun v6_16 v7_16 v9_16 h_16 => Md_better_L82 N f m w (43 + 7 * (f : Int) + 3) (fq b f 3) n v6_16 v7_16 (((j + 1 : Nat) : Int) + 1) h_16)
        refine Or.inl ⟨(kbC b f (bst b f (j + 1)), fq b f 3 + bst b f (j + 1), x2), ⟨p1, ⟨v2, p2⟩, Or.inr ⟨j + 1, by omega, rfl, rfl⟩⟩, ?_⟩
        dsimp only
        rw [head, mid]
        rcases p3 with ⟨q1, q2, q3⟩ | ⟨q1, q3⟩
        · rw [if_pos q2] at hbst
          rw [q3, hbst, fin]
        · have hno : ¬ kbC b f s1 < kbC b f ((j : Int) + 1) := fun z => by
            by_cases ct : tell b f (fq b f 3 + ((j : Int) + 1))
            · exact q1 ⟨ct, z⟩
            · have := kbC_no ct; omega
          rw [if_neg hno] at hbst
          rw [q3, hbst, fin])
    (fun n a hp => by
      obtain ⟨a, a2, x⟩ := a
      obtain ⟨k1, ⟨v, k2⟩, k3⟩ := hp
      dsimp only at k1 k2 k3
      rcases k3 with ⟨z1, z2, z3⟩ | ⟨j, z1, z2, z3⟩
      · omega
      · have hj : j = m := by omega
        subst hj
        have hfr : Fq h (hs x 84 (43 + 7 * f + 3) (fq b f 3)) := (k1.trans Fs_hs).fq (by rw [hs_up, k2, pu_up_up, hself, hb])
        rcases hw with e | e
        · refine ⟨(a2, hs x 84 (43 + 7 * f + 3) (fq b f 3)), ?_, by dsimp only; rw [if_pos e]; exact z3, hfr⟩
          dsimp only
          rw [Md_better_L82]
          simp (disch := omega) only [leb_iff, ltb_iff, eqb_iff, pu_rmP, pu_dvP, pu_bs, pu_b0, pu_b1, pu_c0, pu_c1, pu_lt, pu_rdN, pu_wrN, hs_at, hs_cell, hs_slot, if_true, if_false, true_and, and_true, pu_rd, pu_wr, Int.reduceToNat, Int.toNat_natCast, decide_eq_true_eq, Int.add_zero, Bool.false_eq_true, if_pos, if_neg, ei]
        · refine ⟨(a, hs x 84 (43 + 7 * f + 3) (fq b f 3)), ?_, by dsimp only; rw [if_neg (by omega)]; exact z2, hfr⟩
          dsimp only
          rw [Md_better_L82]
          simp (disch := omega) only [leb_iff, ltb_iff, eqb_iff, pu_rmP, pu_dvP, pu_bs, pu_b0, pu_b1, pu_c0, pu_c1, pu_lt, pu_rdN, pu_wrN, hs_at, hs_cell, hs_slot, if_true, if_false, true_and, and_true, pu_rd, pu_wr, Int.reduceToNat, Int.toNat_natCast, decide_eq_true_eq, Int.add_zero, Bool.false_eq_true, if_pos, if_neg, ei]) N 0 (-1, fq b f 3, h) (by omega) (by omega) ⟨(Fq.refl h).fs, ⟨fq b f 3, by dsimp only; rw [hb, hself]⟩, Or.inl ⟨rfl, rfl, rfl⟩⟩
  obtain ⟨⟨r, x⟩, e, e1, e2⟩ := this
  dsimp only at e1
  exact ⟨x, by rw [← e1]; exact e, e2⟩
def ixN (b : Nat → Int) (y : Nat) : Nat := ((psc b y * 10 + wdy b y) * 2 + lp b y).toNat
theorem ix_bd (ok : OkB b) (y : Nat) : (psc b y * 10 + wdy b y) * 2 + lp b y = (ixN b y : Int) ∧ ixN b y < 5200 := by
  have h1 := psc_le ok (y := (y : Int)) (by omega)
  have h2 := wdy_le ok (y : Int)
  have h3 := lp_le b (y : Int)
  have := ok.fst
  have := ok.spn
  have := ok.week
  unfold ixN; omega
theorem ix_iff (ok : OkB b) (y z : Nat) : ixN b y = ixN b z ↔ sy b y = sy b z := by
  have i1 := ix_bd ok y
  have i2 := ix_bd ok z
  have h2 := wdy_le ok (y : Int)
  have h3 := lp_le b (y : Int)
  have g2 := wdy_le ok (z : Int)
  have g3 := lp_le b (z : Int)
  have hw := ok.week
  have s1 := sy_spec ok y
  have s2 := sy_spec ok z
  constructor
  · intro e
    have e1 : psc b y = psc b z ∧ lp b y = lp b z := by
      have : (psc b y * 10 + wdy b y) * 2 + lp b y = (psc b z * 10 + wdy b z) * 2 + lp b z := by rw [i1.1, i2.1, e]
      omega
    have : srt b y = srt b z := by unfold srt; rw [e1.1, e1.2]
    omega
  · intro e
    have e1 : srt b y = srt b z := by rw [← s1.1, ← s2.1, e]
    obtain ⟨e2, e3⟩ := srt_inj ok (by omega) (by omega) e1
    have e4 : wdy b y = wdy b z := by
      have m1 := wd_shift (d := 0) (psc_mod (b := b) (y : Int))
      have m2 := wd_shift (d := 0) (psc_mod (b := b) (z : Int))
      rw [Int.add_zero, Int.emod_eq_of_lt h2.1 h2.2] at m1
      rw [Int.add_zero, Int.emod_eq_of_lt g2.1 g2.2] at m2
      rw [m1, m2, e3]
    unfold ixN; rw [e2, e3, e4]
def dsk (b : Nat → Int) (k : Nat) : Int := cnt (fun s => decide (0 < cnt (fun y => decide (sy b y = s)) k)) 80
theorem m_sorts_L (hN : 6000 < N) (ok : OkB b) (hb : h 84 = b) : ∃ h', Md_sorts_L27 N (fun v1_6 h_6 => (M_Md_cycle0 N h_6).bind (fun x8 => Md_sorts_L56 N x8 N 0 0 h_6)) N 0 h = some (cnt (fun s => decide (0 < ofn b s)) 80, h') ∧ (∀ c, c ≠ 95 → h' c = h c) := by
  have hC := cyN_bd ok
  obtain ⟨g, ⟨g1, g2⟩, eg⟩ := lp_cont (fun n k (x : Hp) => Md_sorts_L27 N (fun v1_6 h_6 => (M_Md_cycle0 N h_6).bind (fun x8 => Md_sorts_L56 N x8 N 0 0 h_6)) n k x) (fun h_6 => (M_Md_cycle0 N h_6).bind (fun x8 => Md_sorts_L56 N x8 N 0 0 h_6)) (fun k x => (∀ c, c ≠ 95 → x c = h c) ∧ (∀ i : Nat, i < k → x 95 i = 0)) 5200
    (fun n k x hk hp => by
      obtain ⟨k1, k2⟩ := hp
      refine ⟨hs x 95 k 0, ⟨fun c hc => by rw [hs_cell hc]; exact k1 c hc, fun i hi => ?_⟩, ?_⟩
      · by_cases e : i = k
        · subst e; rw [hs_at]
        · rw [hs_slot e]; exact k2 i (by omega)
      · (try dsimp only)
        rw [Md_sorts_L27]
        simp (disch := omega) only [leb_iff, ltb_iff, eqb_iff, pu_rmP, pu_dvP, pu_bs, pu_b0, pu_b1, pu_c0, pu_c1, pu_lt, pu_rdN, pu_wrN, hs_at, hs_cell, hs_slot, if_true, if_false, true_and, and_true, pu_rd, pu_wr, Int.reduceToNat, Int.toNat_natCast, decide_eq_true_eq, Int.add_zero, Bool.false_eq_true, if_pos, if_neg])
    (fun n x hp => by
      (try dsimp only)
      rw [Md_sorts_L27]
      simp (disch := omega) only [leb_iff, ltb_iff, eqb_iff, pu_rmP, pu_dvP, pu_bs, pu_b0, pu_b1, pu_c0, pu_c1, pu_lt, pu_rdN, pu_wrN, hs_at, hs_cell, hs_slot, if_true, if_false, true_and, and_true, pu_rd, pu_wr, Int.reduceToNat, Int.toNat_natCast, decide_eq_true_eq, Int.add_zero, Bool.false_eq_true, if_pos, if_neg]) N 0 h (by omega) (by omega) ⟨fun _ _ => rfl, fun i hi => by omega⟩
  rw [Int.natCast_zero] at eg
  rw [eg, m_cycle0 (by omega) ok (by rw [g1 84 (by omega)]; exact hb), pu_bs]
  have := lp_inv (fun n k (a : Int × Hp) => Md_sorts_L56 N (cyN b) n a.1 k a.2) (fun k a => a.1 = dsk b k ∧ (∀ c, c ≠ 95 → a.2 c = h c) ∧ (∀ y : Nat, (a.2 95 (ixN b y) = 0 ∨ a.2 95 (ixN b y) = 1) ∧ (a.2 95 (ixN b y) = 1 ↔ ∃ z, z < k ∧ sy b z = sy b y))) (fun r => r.1 = dsk b (cyN b) ∧ (∀ c, c ≠ 95 → r.2 c = h c)) (cyN b)
    (fun n k a hk hp => by
      obtain ⟨a, x⟩ := a
      obtain ⟨k1, k2, k3⟩ := hp
      dsimp only at k1 k2 k3
      have x84 : x 84 = b := by rw [k2 84 (by omega)]; exact hb
      have ok' : OkB (x 84) := by rw [x84]; exact ok
      have q1 := m_paschOf (h := x) (N := N) (by omega) ok' (y := (k : Int)) (by omega) (by omega)
      have q2 := m_weekdayOf (h := x) (N := N) (by omega) ok' (y := (k : Int)) (by omega) (by omega)
      have q3 := m_isLong (h := x) ok' (y := (k : Int)) (by omega) (by omega)
      rw [x84] at q1 q2 q3
      have ib := ix_bd ok k
      have hk3 := k3 k
      have hlp := lp01 b (k : Int)
      have hstep : dsk b (k + 1) = dsk b k + (if x 95 (ixN b k) = 1 then 0 else 1) := by
        unfold dsk
        rw [cnt_diff (p := fun s => decide (0 < cnt (fun y => decide (sy b y = s)) (k + 1))) (q := fun s => decide (0 < cnt (fun y => decide (sy b y = s)) k)) (a := sy b k) (sy_spec ok k).2.1 (fun s hs hne => by
          have : cnt (fun y => decide (sy b y = s)) (k + 1) = cnt (fun y => decide (sy b y = s)) k := by
            rw [cnt_succ, if_neg (by simp; exact fun z => hne (Eq.symm z)), Int.add_zero]
          rw [this])]
        congr 1
        have e1 : 0 < cnt (fun y => decide (sy b y = sy b k)) (k + 1) := cnt_pos.mpr ⟨k, by omega, by simp⟩
        have e2 : 0 < cnt (fun y => decide (sy b y = sy b k)) k ↔ x 95 (ixN b k) = 1 := by
          rw [cnt_pos, hk3.2]; simp
        by_cases c : x 95 (ixN b k) = 1
        · have := e2.mpr c
          simp [e1, this, c]
        · have : ¬ 0 < cnt (fun y => decide (sy b y = sy b k)) k := fun z => c (e2.mp z)
          simp only [decide_eq_true_eq, if_pos e1, if_neg this, if_neg c]; rfl
      refine Or.inl ⟨(dsk b (k + 1), hs x 95 (ixN b k) 1), ⟨rfl, fun c hc => by dsimp only; rw [hs_cell hc]; exact k2 c hc, fun y => ?_⟩, ?_⟩
      · dsimp only
        by_cases e : ixN b y = ixN b k
        · rw [e, hs_at]
          exact ⟨Or.inr rfl, fun _ => ⟨k, by omega, ((ix_iff ok y k).mp e).symm⟩, fun _ => rfl⟩
        · rw [hs_slot e]
          refine ⟨(k3 y).1, ?_⟩
          rw [(k3 y).2]
          constructor
          · rintro ⟨z, z1, z2⟩; exact ⟨z, by omega, z2⟩
          · rintro ⟨z, z1, z2⟩
            by_cases e2 : z = k
            · subst e2; exact absurd ((ix_iff ok y z).mpr z2.symm) e
            · exact ⟨z, by omega, z2⟩
      · dsimp only
        rw [Md_sorts_L56, q1, pu_bs, q2, pu_bs, q3, pu_bs, hstep, k1, pu_lt]
        have i0 : (if lp b (k : Int) = 0 then (0 : Int) else 1) = lp b k := by rcases hlp with e | e <;> rw [e] <;> rfl
        have gen : ∀ s0 : Int, s0 = lp b (k : Int) → ((rdA x 95 5200 ((psc b k * 10 + wdy b k) * 2 + s0)).bind (fun x16 => if eqb x16 0 then ckB 1 ((wrA x 95 5200 ((psc b k * 10 + wdy b k) * 2 + s0) 1).bind (fun h17 => Md_sorts_L56 N (cyN b) n (dsk b k + 1) ((k : Int) + 1) h17)) else ckB 1 ((wrA x 95 5200 ((psc b k * 10 + wdy b k) * 2 + s0) 1).bind (fun h18 => Md_sorts_L56 N (cyN b) n (dsk b k + 0) ((k : Int) + 1) h18)))) = Md_sorts_L56 N (cyN b) n (dsk b k + (if x 95 (ixN b k) = 1 then 0 else 1)) ((k : Int) + 1) (hs x 95 (ixN b k) 1) := by
          intro s0 hs0
          rw [hs0, ib.1]
          rcases hk3.1 with c | c
          · simp (disch := omega) only [leb_iff, ltb_iff, eqb_iff, pu_rmP, pu_dvP, pu_bs, pu_b0, pu_b1, pu_c0, pu_c1, pu_lt, pu_rdN, pu_wrN, hs_at, hs_cell, hs_slot, if_true, if_false, true_and, and_true, pu_rd, pu_wr, Int.reduceToNat, Int.toNat_natCast, decide_eq_true_eq, Int.add_zero, Bool.false_eq_true, if_pos, if_neg, c]
          · simp (disch := omega) only [leb_iff, ltb_iff, eqb_iff, pu_rmP, pu_dvP, pu_bs, pu_b0, pu_b1, pu_c0, pu_c1, pu_lt, pu_rdN, pu_wrN, hs_at, hs_cell, hs_slot, if_true, if_false, true_and, and_true, pu_rd, pu_wr, Int.reduceToNat, Int.toNat_natCast, decide_eq_true_eq, Int.add_zero, Bool.false_eq_true, if_pos, if_neg, c]
        rcases hlp with e | e
        · have := gen 0 e.symm
          rw [e]
          simp (disch := omega) only [leb_iff, ltb_iff, eqb_iff, pu_rmP, pu_dvP, pu_bs, pu_b0, pu_b1, pu_c0, pu_c1, pu_lt, pu_rdN, pu_wrN, hs_at, hs_cell, hs_slot, if_true, if_false, true_and, and_true, pu_rd, pu_wr, Int.reduceToNat, Int.toNat_natCast, decide_eq_true_eq, Int.add_zero, Bool.false_eq_true, if_pos, if_neg]
          simp (disch := omega) only [leb_iff, ltb_iff, eqb_iff, pu_rmP, pu_dvP, pu_bs, pu_b0, pu_b1, pu_c0, pu_c1, pu_lt, pu_rdN, pu_wrN, hs_at, hs_cell, hs_slot, if_true, if_false, true_and, and_true, pu_rd, pu_wr, Int.reduceToNat, Int.toNat_natCast, decide_eq_true_eq, Int.add_zero, Bool.false_eq_true, if_pos, if_neg] at this
          exact this
        · have := gen 1 e.symm
          rw [e]
          simp (disch := omega) only [leb_iff, ltb_iff, eqb_iff, pu_rmP, pu_dvP, pu_bs, pu_b0, pu_b1, pu_c0, pu_c1, pu_lt, pu_rdN, pu_wrN, hs_at, hs_cell, hs_slot, if_true, if_false, true_and, and_true, pu_rd, pu_wr, Int.reduceToNat, Int.toNat_natCast, decide_eq_true_eq, Int.add_zero, Bool.false_eq_true, if_pos, if_neg]
          simp (disch := omega) only [leb_iff, ltb_iff, eqb_iff, pu_rmP, pu_dvP, pu_bs, pu_b0, pu_b1, pu_c0, pu_c1, pu_lt, pu_rdN, pu_wrN, hs_at, hs_cell, hs_slot, if_true, if_false, true_and, and_true, pu_rd, pu_wr, Int.reduceToNat, Int.toNat_natCast, decide_eq_true_eq, Int.add_zero, Bool.false_eq_true, if_pos, if_neg] at this
          exact this)
    (fun n a hp => by
      obtain ⟨a, x⟩ := a
      refine ⟨(a, x), ?_, hp.1, hp.2.1⟩
      dsimp only
      rw [Md_sorts_L56]
      simp (disch := omega) only [leb_iff, ltb_iff, eqb_iff, pu_rmP, pu_dvP, pu_bs, pu_b0, pu_b1, pu_c0, pu_c1, pu_lt, pu_rdN, pu_wrN, hs_at, hs_cell, hs_slot, if_true, if_false, true_and, and_true, pu_rd, pu_wr, Int.reduceToNat, Int.toNat_natCast, decide_eq_true_eq, Int.add_zero, Bool.false_eq_true, if_pos, if_neg]) N 0 (0, g) (by omega) (by omega) ⟨by
        dsimp only
        unfold dsk
        exact (cnt_none (fun s _ => by simp [cnt_zero])).symm, g1, fun y => ⟨Or.inl (g2 _ (ix_bd ok y).2), ⟨fun z => by have := g2 _ (ix_bd ok y).2; dsimp only at z; omega, fun z => by obtain ⟨z, z1, _⟩ := z; omega⟩⟩⟩
  obtain ⟨⟨r, x⟩, e, e1, e2⟩ := this
  dsimp only at e1
  exact ⟨x, by rw [show cnt (fun s => decide (0 < ofn b s)) 80 = dsk b (cyN b) from rfl, ← e1]; exact e, e2⟩
end Be
