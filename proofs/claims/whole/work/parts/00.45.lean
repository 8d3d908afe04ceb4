section Ym
variable {b : Nat → Int} {h : Hp} {N : Nat} {l p : Int}
theorem m_free (hN : 300 < N) (ok : OkB b) (yr : Yr b l p) (m : MS b l p (res b l p) h) : ∃ h', M_Md_free N h = some (cnt (plf b l p) (yd b + l).toNat, h') ∧ Fb h h' := by
  have hy := yr.bd ok
  have := lp_inv (fun n k (a : Int × Hp) => Md_free_L4 N n a.1 k a.2) (fun k a => a.1 = cnt (plf b l p) k ∧ Fb h a.2) (fun r => r.1 = cnt (plf b l p) (yd b + l).toNat ∧ Fb h r.2) (yd b + l).toNat
    (fun n k a hk hp => by
      obtain ⟨a, x⟩ := a
      obtain ⟨k1, k2⟩ := hp
      dsimp only at k1 k2
      have mx := m.fb k2
      obtain ⟨x', e1, e2⟩ := m_isPlain (h := x) (N := N) (by omega) ok yr mx (d := k) (by omega)
      refine Or.inl ⟨(cnt (plf b l p) (k + 1), x'), ⟨rfl, k2.trans e2⟩, ?_⟩
      dsimp only
      rw [Md_free_L4, mx.my.days, e1, pu_bs, cnt_succ, k1]
      cases c : plf b l p k <;> simp (disch := omega) only [leb_iff, ltb_iff, eqb_iff, pu_rmP, pu_dvP, pu_bs, pu_b0, pu_b1, pu_c0, pu_c1, pu_lt, pu_rdN, pu_wrN, hs_at, hs_cell, hs_slot, if_true, if_false, true_and, and_true, pu_rd, pu_wr, Int.reduceToNat, Int.toNat_natCast, decide_eq_true_eq, Int.add_zero, Bool.false_eq_true, if_pos, if_neg])
    (fun n a hp => by
      obtain ⟨a, x⟩ := a
      refine ⟨(a, x), ?_, hp⟩
      have mx := m.fb hp.2
      dsimp only at mx ⊢
      rw [Md_free_L4, mx.my.days]
      simp (disch := omega) only [leb_iff, ltb_iff, eqb_iff, pu_rmP, pu_dvP, pu_bs, pu_b0, pu_b1, pu_c0, pu_c1, pu_lt, pu_rdN, pu_wrN, hs_at, hs_cell, hs_slot, if_true, if_false, true_and, and_true, pu_rd, pu_wr, Int.reduceToNat, Int.toNat_natCast, decide_eq_true_eq, Int.add_zero, Bool.false_eq_true, if_pos, if_neg]) N 0 (0, h) (by omega) (by omega) ⟨rfl, Fb.refl h⟩
  obtain ⟨⟨r, x⟩, e, e1, e2⟩ := this
  dsimp only at e1
  exact ⟨x, by rw [← e1]; exact e, e2⟩
theorem m_lessons (hN : 300 < N) (ok : OkB b) (yr : Yr b l p) (m : MS b l p (res b l p) h) {i j : Nat} (hij : i ≤ j) (hj : (j : Int) ≤ yd b + l) : ∃ h', M_Md_lessons N h i j = some (cnt (plf b l p) j - cnt (plf b l p) i, h') ∧ Fb h h' := by
  have hy := yr.bd ok
  have := lp_inv (fun n k (a : Int × Hp) => Md_lessons_L5 N j n a.1 k a.2) (fun k a => a.1 = cnt (plf b l p) k - cnt (plf b l p) i ∧ Fb h a.2) (fun r => r.1 = cnt (plf b l p) j - cnt (plf b l p) i ∧ Fb h r.2) j
    (fun n k a hk hp => by
      obtain ⟨a, x⟩ := a
      obtain ⟨k1, k2⟩ := hp
      dsimp only at k1 k2
      have mx := m.fb k2
      obtain ⟨x', e1, e2⟩ := m_isPlain (h := x) (N := N) (by omega) ok yr mx (d := k) (by omega)
      refine Or.inl ⟨(cnt (plf b l p) (k + 1) - cnt (plf b l p) i, x'), ⟨rfl, k2.trans e2⟩, ?_⟩
      dsimp only
      rw [Md_lessons_L5, e1, pu_bs, cnt_succ, k1]
      cases c : plf b l p k
      · simp (disch := omega) only [leb_iff, ltb_iff, eqb_iff, pu_rmP, pu_dvP, pu_bs, pu_b0, pu_b1, pu_c0, pu_c1, pu_lt, pu_rdN, pu_wrN, hs_at, hs_cell, hs_slot, if_true, if_false, true_and, and_true, pu_rd, pu_wr, Int.reduceToNat, Int.toNat_natCast, decide_eq_true_eq, Int.add_zero, Bool.false_eq_true, if_pos, if_neg]
      · simp (disch := omega) only [leb_iff, ltb_iff, eqb_iff, pu_rmP, pu_dvP, pu_bs, pu_b0, pu_b1, pu_c0, pu_c1, pu_lt, pu_rdN, pu_wrN, hs_at, hs_cell, hs_slot, if_true, if_false, true_and, and_true, pu_rd, pu_wr, Int.reduceToNat, Int.toNat_natCast, decide_eq_true_eq, Int.add_zero, Bool.false_eq_true, if_pos, if_neg]
        rw [show cnt (plf b l p) k - cnt (plf b l p) i + 1 = cnt (plf b l p) k + 1 - cnt (plf b l p) i by omega])
    (fun n a hp => by
      obtain ⟨a, x⟩ := a
      refine ⟨(a, x), ?_, hp⟩
      dsimp only
      rw [Md_lessons_L5]
      simp (disch := omega) only [leb_iff, ltb_iff, eqb_iff, pu_rmP, pu_dvP, pu_bs, pu_b0, pu_b1, pu_c0, pu_c1, pu_lt, pu_rdN, pu_wrN, hs_at, hs_cell, hs_slot, if_true, if_false, true_and, and_true, pu_rd, pu_wr, Int.reduceToNat, Int.toNat_natCast, decide_eq_true_eq, Int.add_zero, Bool.false_eq_true, if_pos, if_neg]) N i (0, h) hij (by omega) ⟨by rw [Int.sub_self], Fb.refl h⟩
  obtain ⟨⟨r, x⟩, e, e1, e2⟩ := this
  dsimp only at e1
  exact ⟨x, by rw [← e1]; exact e, e2⟩
theorem m_lesson_L (hN : 300 < N) (ok : OkB b) (yr : Yr b l p) (m : MS b l p (res b l p) h) {i j : Nat} (hij : i ≤ j) (hj : (j : Int) ≤ yd b + l) : ∃ h', Md_lesson_L57 N j N 0 i h = some (cnt (plf b l p) j - cnt (plf b l p) i, h') ∧ Fb h h' := by
  have hy := yr.bd ok
  have := lp_inv (fun n k (a : Int × Hp) => Md_lesson_L57 N j n a.1 k a.2) (fun k a => a.1 = cnt (plf b l p) k - cnt (plf b l p) i ∧ Fb h a.2) (fun r => r.1 = cnt (plf b l p) j - cnt (plf b l p) i ∧ Fb h r.2) j
    (fun n k a hk hp => by
      obtain ⟨a, x⟩ := a
      obtain ⟨k1, k2⟩ := hp
      dsimp only at k1 k2
      have mx := m.fb k2
      obtain ⟨x', e1, e2⟩ := m_isPlain (h := x) (N := N) (by omega) ok yr mx (d := k) (by omega)
      refine Or.inl ⟨(cnt (plf b l p) (k + 1) - cnt (plf b l p) i, x'), ⟨rfl, k2.trans e2⟩, ?_⟩
      dsimp only
      rw [Md_lesson_L57, e1, pu_bs, cnt_succ, k1]
      cases c : plf b l p k
      · simp (disch := omega) only [leb_iff, ltb_iff, eqb_iff, pu_rmP, pu_dvP, pu_bs, pu_b0, pu_b1, pu_c0, pu_c1, pu_lt, pu_rdN, pu_wrN, hs_at, hs_cell, hs_slot, if_true, if_false, true_and, and_true, pu_rd, pu_wr, Int.reduceToNat, Int.toNat_natCast, decide_eq_true_eq, Int.add_zero, Bool.false_eq_true, if_pos, if_neg]
      · simp (disch := omega) only [leb_iff, ltb_iff, eqb_iff, pu_rmP, pu_dvP, pu_bs, pu_b0, pu_b1, pu_c0, pu_c1, pu_lt, pu_rdN, pu_wrN, hs_at, hs_cell, hs_slot, if_true, if_false, true_and, and_true, pu_rd, pu_wr, Int.reduceToNat, Int.toNat_natCast, decide_eq_true_eq, Int.add_zero, Bool.false_eq_true, if_pos, if_neg]
        rw [show cnt (plf b l p) k - cnt (plf b l p) i + 1 = cnt (plf b l p) k + 1 - cnt (plf b l p) i by omega])
    (fun n a hp => by
      obtain ⟨a, x⟩ := a
      refine ⟨(a, x), ?_, hp⟩
      dsimp only
      rw [Md_lesson_L57]
      simp (disch := omega) only [leb_iff, ltb_iff, eqb_iff, pu_rmP, pu_dvP, pu_bs, pu_b0, pu_b1, pu_c0, pu_c1, pu_lt, pu_rdN, pu_wrN, hs_at, hs_cell, hs_slot, if_true, if_false, true_and, and_true, pu_rd, pu_wr, Int.reduceToNat, Int.toNat_natCast, decide_eq_true_eq, Int.add_zero, Bool.false_eq_true, if_pos, if_neg]) N i (0, h) hij (by omega) ⟨by rw [Int.sub_self], Fb.refl h⟩
  obtain ⟨⟨r, x⟩, e, e1, e2⟩ := this
  dsimp only at e1
  exact ⟨x, by rw [← e1]; exact e, e2⟩
theorem m_run (hN : 300 < N) (ok : OkB b) (yr : Yr b l p) (m : MS b l p (res b l p) h) {t : Int} (ht : t = 0 ∨ t = 1) : ∃ h', M_Md_run N h t = some ((rnf (if t = 0 then plf b l p else fsf b l p) (yd b + l).toNat).1, h') ∧ Fb h h' := by
  have hy := yr.bd ok
  generalize hq : (if t = 0 then plf b l p else fsf b l p) = q
  have := lp_inv (fun n k (a : Int × Int × Hp) => Md_run_L7 N t n a.1 a.2.1 k a.2.2) (fun k a => a.1 = (rnf q k).1 ∧ a.2.1 = (rnf q k).2 ∧ Fb h a.2.2) (fun r => r.1 = (rnf q (yd b + l).toNat).1 ∧ Fb h r.2) (yd b + l).toNat
    (fun n k a hk hp => by
      obtain ⟨a, a2, x⟩ := a
      obtain ⟨k1, k2, k3⟩ := hp
      dsimp only at k1 k2 k3
      have mx := m.fb k3
      have hb := rnf_bd q k
      rcases ht with e | e
      · subst e
        rw [if_pos rfl] at hq
        subst hq
        obtain ⟨x', e1, e2⟩ := m_isPlain (h := x) (N := N) (by omega) ok yr mx (d := k) (by omega)
        refine Or.inl ⟨((rnf (plf b l p) (k + 1)).1, (rnf (plf b l p) (k + 1)).2, x'), ⟨rfl, rfl, k3.trans e2⟩, ?_⟩
        dsimp only
        rw [Md_run_L7, mx.my.days, rnf, pu_lt, e1, pu_bs, k1, k2]
        cases c : plf b l p k
        · simp (disch := omega) only [leb_iff, ltb_iff, eqb_iff, pu_rmP, pu_dvP, pu_bs, pu_b0, pu_b1, pu_c0, pu_c1, pu_lt, pu_rdN, pu_wrN, hs_at, hs_cell, hs_slot, if_true, if_false, true_and, and_true, pu_rd, pu_wr, Int.reduceToNat, Int.toNat_natCast, decide_eq_true_eq, Int.add_zero, Bool.false_eq_true, if_pos, if_neg]
        · by_cases c2 : (rnf (plf b l p) k).2 + 1 ≤ (rnf (plf b l p) k).1
          · simp (disch := omega) only [leb_iff, ltb_iff, eqb_iff, pu_rmP, pu_dvP, pu_bs, pu_b0, pu_b1, pu_c0, pu_c1, pu_lt, pu_rdN, pu_wrN, hs_at, hs_cell, hs_slot, if_true, if_false, true_and, and_true, pu_rd, pu_wr, Int.reduceToNat, Int.toNat_natCast, decide_eq_true_eq, Int.add_zero, Bool.false_eq_true, if_pos, if_neg]
            rw [show max (rnf (plf b l p) k).1 ((rnf (plf b l p) k).2 + 1) = (rnf (plf b l p) k).1 by omega]
          · simp (disch := omega) only [leb_iff, ltb_iff, eqb_iff, pu_rmP, pu_dvP, pu_bs, pu_b0, pu_b1, pu_c0, pu_c1, pu_lt, pu_rdN, pu_wrN, hs_at, hs_cell, hs_slot, if_true, if_false, true_and, and_true, pu_rd, pu_wr, Int.reduceToNat, Int.toNat_natCast, decide_eq_true_eq, Int.add_zero, Bool.false_eq_true, if_pos, if_neg]
            rw [show max (rnf (plf b l p) k).1 ((rnf (plf b l p) k).2 + 1) = (rnf (plf b l p) k).2 + 1 by omega]
      · subst e
        rw [if_neg (by omega)] at hq
        subst hq
        refine Or.inl ⟨((rnf (fsf b l p) (k + 1)).1, (rnf (fsf b l p) (k + 1)).2, x), ⟨rfl, rfl, k3⟩, ?_⟩
        dsimp only
        rw [Md_run_L7, mx.my.days, rnf, pu_lt, m_isFast (by omega) ok yr mx (by omega), pu_bs, k1, k2]
        cases c : fsf b l p k
        · simp (disch := omega) only [leb_iff, ltb_iff, eqb_iff, pu_rmP, pu_dvP, pu_bs, pu_b0, pu_b1, pu_c0, pu_c1, pu_lt, pu_rdN, pu_wrN, hs_at, hs_cell, hs_slot, if_true, if_false, true_and, and_true, pu_rd, pu_wr, Int.reduceToNat, Int.toNat_natCast, decide_eq_true_eq, Int.add_zero, Bool.false_eq_true, if_pos, if_neg]
        · by_cases c2 : (rnf (fsf b l p) k).2 + 1 ≤ (rnf (fsf b l p) k).1
          · simp (disch := omega) only [leb_iff, ltb_iff, eqb_iff, pu_rmP, pu_dvP, pu_bs, pu_b0, pu_b1, pu_c0, pu_c1, pu_lt, pu_rdN, pu_wrN, hs_at, hs_cell, hs_slot, if_true, if_false, true_and, and_true, pu_rd, pu_wr, Int.reduceToNat, Int.toNat_natCast, decide_eq_true_eq, Int.add_zero, Bool.false_eq_true, if_pos, if_neg]
            rw [show max (rnf (fsf b l p) k).1 ((rnf (fsf b l p) k).2 + 1) = (rnf (fsf b l p) k).1 by omega]
          · simp (disch := omega) only [leb_iff, ltb_iff, eqb_iff, pu_rmP, pu_dvP, pu_bs, pu_b0, pu_b1, pu_c0, pu_c1, pu_lt, pu_rdN, pu_wrN, hs_at, hs_cell, hs_slot, if_true, if_false, true_and, and_true, pu_rd, pu_wr, Int.reduceToNat, Int.toNat_natCast, decide_eq_true_eq, Int.add_zero, Bool.false_eq_true, if_pos, if_neg]
            rw [show max (rnf (fsf b l p) k).1 ((rnf (fsf b l p) k).2 + 1) = (rnf (fsf b l p) k).2 + 1 by omega])
    (fun n a hp => by
      obtain ⟨a, a2, x⟩ := a
      have mx := m.fb hp.2.2
      refine ⟨(a, x), ?_, hp.1, hp.2.2⟩
      dsimp only at mx ⊢
      rw [Md_run_L7, mx.my.days]
      simp (disch := omega) only [leb_iff, ltb_iff, eqb_iff, pu_rmP, pu_dvP, pu_bs, pu_b0, pu_b1, pu_c0, pu_c1, pu_lt, pu_rdN, pu_wrN, hs_at, hs_cell, hs_slot, if_true, if_false, true_and, and_true, pu_rd, pu_wr, Int.reduceToNat, Int.toNat_natCast, decide_eq_true_eq, Int.add_zero, Bool.false_eq_true, if_pos, if_neg]) N 0 (0, 0, h) (by omega) (by omega) ⟨rfl, rfl, Fb.refl h⟩
  obtain ⟨⟨r, x⟩, e, e1, e2⟩ := this
  dsimp only at e1
  exact ⟨x, by rw [← e1]; exact e, e2⟩
theorem m_fastDays (hN : 300 < N) (ok : OkB b) (yr : Yr b l p) (m : MS b l p (res b l p) h) : M_Md_fastDays N h = some (cnt (fsf b l p) (yd b + l).toNat) := by
  have hy := yr.bd ok
  exact lp_fold (fun n k a => Md_fastDays_L4 N h n a k) (cnt (fsf b l p)) _ (yd b + l).toNat
    (fun n k hk => by
      (try dsimp only)
      rw [Md_fastDays_L4, m.my.days, m_isFast (by omega) ok yr m (by omega), pu_bs, cnt_succ]
      cases c : fsf b l p k <;> simp (disch := omega) only [leb_iff, ltb_iff, eqb_iff, pu_rmP, pu_dvP, pu_bs, pu_b0, pu_b1, pu_c0, pu_c1, pu_lt, pu_rdN, pu_wrN, hs_at, hs_cell, hs_slot, if_true, if_false, true_and, and_true, pu_rd, pu_wr, Int.reduceToNat, Int.toNat_natCast, decide_eq_true_eq, Int.add_zero, Bool.false_eq_true, if_pos, if_neg])
    (fun n => by
      (try dsimp only)
      rw [Md_fastDays_L4, m.my.days]
      simp (disch := omega) only [leb_iff, ltb_iff, eqb_iff, pu_rmP, pu_dvP, pu_bs, pu_b0, pu_b1, pu_c0, pu_c1, pu_lt, pu_rdN, pu_wrN, hs_at, hs_cell, hs_slot, if_true, if_false, true_and, and_true, pu_rd, pu_wr, Int.reduceToNat, Int.toNat_natCast, decide_eq_true_eq, Int.add_zero, Bool.false_eq_true, if_pos, if_neg]) N 0 (by omega) (by omega)
theorem fsum_diff {f g : Nat → Int} {a : Nat} : ∀ {n : Nat}, a < n → (∀ k, k < n → k ≠ a → f k = g k) → fsum f n = fsum g n + (f a - g a)
  | 0, h, _ => by omega
  | n + 1, h, hfg => by
    rw [fsum, fsum]
    by_cases e : a = n
    · subst e
      rw [fsum_congr (f := f) (g := g) (fun k hk => hfg k (by omega) (by omega))]; omega
    · rw [fsum_diff (n := n) (by omega) (fun k hk hka => hfg k (by omega) hka), hfg n (by omega) (by omega)]; omega
theorem cnt_diff {p q : Nat → Bool} {a n : Nat} (h : a < n) (hpq : ∀ k, k < n → k ≠ a → p k = q k) : cnt p n = cnt q n + ((if p a then 1 else 0) - (if q a then 1 else 0)) :=
  fsum_diff (f := fun k => if p k then 1 else 0) (g := fun k => if q k then 1 else 0) h (fun k hk hka => by rw [hpq k hk hka])
theorem meet_eq (b : Nat → Int) (l p : Int) (D : Nat) (hD : yd b + l = D) : ∀ n : Nat, cnt (fun d => decide (1 < cnt (fun g => decide (dyf b l p g = (d : Int))) n)) D = mtf b l p n := by
  intro n
  induction n with
  | zero => unfold mtf; rw [cnt_zero]; exact cnt_none (fun k _ => by simp [cnt_zero])
  | succ n ih =>
    have hs : mtf b l p (n + 1) = mtf b l p n + (if decide (lsf b l p n = 1) then 1 else 0) := cnt_succ _ _
    rw [hs, ← ih]
    by_cases c : dyf b l p n = -1
    · have h1 : lsf b l p n = 0 := cnt_none (fun k _ => by simp [c])
      rw [h1]
      simp only [decide_eq_true_eq]
      rw [if_neg (by omega), Int.add_zero]
      refine cnt_congr (fun d hd => ?_)
      rw [cnt_succ, if_neg (by simp; omega), Int.add_zero]
    · have hb := dyf_bd (b := b) l p n
      have h1 : lsf b l p n = cnt (fun g => decide (dyf b l p g = dyf b l p n)) n := cnt_congr (fun k _ => by simp [c])
      rw [cnt_diff (a := (dyf b l p n).toNat) (q := fun d => decide (1 < cnt (fun g => decide (dyf b l p g = (d : Int))) n)) (by omega) (fun d hd hda => ?_)]
      · have e : (((dyf b l p n).toNat : Nat) : Int) = dyf b l p n := by omega
        rw [cnt_succ, e, ← h1]
        simp only [decide_true, if_true, decide_eq_true_eq]
        split <;> split <;> split <;> omega
      · rw [cnt_succ, if_neg (by simp; omega), Int.add_zero]
theorem m_meet_in (hN : 20 < N) (ok : OkB b) (m : MY b l p h) {d : Int} (hd : 0 ≤ d ∧ d ≤ 1000) (hy : yd b + l ≤ 1000) (K : Int → Int → Option Int) : Md_meetings_L17 N h d K N 0 0 = K (cnt (fun g => decide (dyf b l p g = d)) (b 42).toNat) ((b 42).toNat : Int) := by
  have hm := ok.many
  obtain ⟨a, e1, e2⟩ := lp_cont (fun n j a => Md_meetings_L17 N h d K n a j) (fun a => K a ((b 42).toNat : Int)) (fun j a => a = cnt (fun g => decide (dyf b l p g = d)) j) (b 42).toNat
    (fun n j a hj ha => by
      have hdb := dyf_bd (b := b) l p j
      refine ⟨cnt (fun g => decide (dyf b l p g = d)) (j + 1), rfl, ?_⟩
      (try dsimp only)
      rw [Md_meetings_L17, pu_rd (by omega) (by omega), pu_bs, show Int.toNat 42 = 42 from rfl, m.bk, pu_rdN (by omega), pu_bs, m.dys j (by omega), cnt_succ, ha]
      by_cases c : dyf b l p j = d
      · simp (disch := omega) only [leb_iff, ltb_iff, eqb_iff, pu_rmP, pu_dvP, pu_bs, pu_b0, pu_b1, pu_c0, pu_c1, pu_lt, pu_rdN, pu_wrN, hs_at, hs_cell, hs_slot, if_true, if_false, true_and, and_true, pu_rd, pu_wr, Int.reduceToNat, Int.toNat_natCast, decide_eq_true_eq, Int.add_zero, Bool.false_eq_true, if_pos, if_neg]
      · simp (disch := omega) only [leb_iff, ltb_iff, eqb_iff, pu_rmP, pu_dvP, pu_bs, pu_b0, pu_b1, pu_c0, pu_c1, pu_lt, pu_rdN, pu_wrN, hs_at, hs_cell, hs_slot, if_true, if_false, true_and, and_true, pu_rd, pu_wr, Int.reduceToNat, Int.toNat_natCast, decide_eq_true_eq, Int.add_zero, Bool.false_eq_true, if_pos, if_neg])
    (fun n a ha => by
      (try dsimp only)
      rw [Md_meetings_L17, pu_rd (by omega) (by omega), pu_bs, show Int.toNat 42 = 42 from rfl, m.bk]
      simp (disch := omega) only [leb_iff, ltb_iff, eqb_iff, pu_rmP, pu_dvP, pu_bs, pu_b0, pu_b1, pu_c0, pu_c1, pu_lt, pu_rdN, pu_wrN, hs_at, hs_cell, hs_slot, if_true, if_false, true_and, and_true, pu_rd, pu_wr, Int.reduceToNat, Int.toNat_natCast, decide_eq_true_eq, Int.add_zero, Bool.false_eq_true, if_pos, if_neg]) N 0 0 (by omega) (by omega) rfl
  rw [← e1]; exact e2
theorem m_meetings (hN : 300 < N) (ok : OkB b) (yr : Yr b l p) (m : MS b l p (res b l p) h) : M_Md_meetings N h = some (mtf b l p (b 42).toNat) := by
  have hy := yr.bd ok
  have hm := ok.many
  rw [← meet_eq b l p (yd b + l).toNat (by omega)]
  exact lp_fold (fun n k a => Md_meetings_L4 N h n a k) (cnt (fun d => decide (1 < cnt (fun g => decide (dyf b l p g = (d : Int))) (b 42).toNat))) _ (yd b + l).toNat
    (fun n k hk => by
      have hb := cnt_bd (fun g => decide (dyf b l p g = (k : Int))) (b 42).toNat
      (try dsimp only)
      rw [Md_meetings_L4, m.my.days, m_meet_in (by omega) ok m.my (by omega) (by omega), cnt_succ]
      by_cases c : 1 < cnt (fun g => decide (dyf b l p g = (k : Int))) (b 42).toNat
      · simp (disch := omega) only [leb_iff, ltb_iff, eqb_iff, pu_rmP, pu_dvP, pu_bs, pu_b0, pu_b1, pu_c0, pu_c1, pu_lt, pu_rdN, pu_wrN, hs_at, hs_cell, hs_slot, if_true, if_false, true_and, and_true, pu_rd, pu_wr, Int.reduceToNat, Int.toNat_natCast, decide_eq_true_eq, Int.add_zero, Bool.false_eq_true, if_pos, if_neg]
      · simp (disch := omega) only [leb_iff, ltb_iff, eqb_iff, pu_rmP, pu_dvP, pu_bs, pu_b0, pu_b1, pu_c0, pu_c1, pu_lt, pu_rdN, pu_wrN, hs_at, hs_cell, hs_slot, if_true, if_false, true_and, and_true, pu_rd, pu_wr, Int.reduceToNat, Int.toNat_natCast, decide_eq_true_eq, Int.add_zero, Bool.false_eq_true, if_pos, if_neg])
    (fun n => by
      (try dsimp only)
      rw [Md_meetings_L4, m.my.days]
      simp (disch := omega) only [leb_iff, ltb_iff, eqb_iff, pu_rmP, pu_dvP, pu_bs, pu_b0, pu_b1, pu_c0, pu_c1, pu_lt, pu_rdN, pu_wrN, hs_at, hs_cell, hs_slot, if_true, if_false, true_and, and_true, pu_rd, pu_wr, Int.reduceToNat, Int.toNat_natCast, decide_eq_true_eq, Int.add_zero, Bool.false_eq_true, if_pos, if_neg]) N 0 (by omega) (by omega)
theorem m_weightOf (hN : 20 < N) (ok : OkB b) (yr : Yr b l p) (m : MS b l p (res b l p) h) {d : Nat} (hd : (d : Int) < yd b + l) : ∃ h', M_Md_weightOf N h d = some (wgf b l p d, h') ∧ Fb h h' := by
  have hm := ok.many
  have hy := yr.bd ok
  have ht := res_th ok l p d
  unfold M_Md_weightOf wgf ofr ofc
  by_cases c : (res b l p).2.2 d = -1
  · obtain ⟨g, e1, e2, e3⟩ := m_laysBase (h := h) (N := N) hN ok yr m.my (d := d) (by omega)
    obtain ⟨d1, d2, d3, d4, d5⟩ := Enc_dec ok e3
    refine ⟨g, ?_, e2⟩
    simp (disch := omega) only [leb_iff, ltb_iff, eqb_iff, pu_rmP, pu_dvP, pu_bs, pu_b0, pu_b1, pu_c0, pu_c1, pu_lt, pu_rdN, pu_wrN, hs_at, hs_cell, hs_slot, if_true, if_false, true_and, and_true, pu_rd, pu_wr, Int.reduceToNat, Int.toNat_natCast, decide_eq_true_eq, Int.add_zero, Bool.false_eq_true, if_pos, if_neg, m.th d hd, e1, d1]
  · refine ⟨h, ?_, Fb.refl h⟩
    have hcl := cl_bd (ok.fea ((res b l p).2.2 d).toNat (by omega)) (by omega)
    have hof := m_of00 (h := h) (f := ((res b l p).2.2 d).toNat) (by omega)
    rw [show ((((res b l p).2.2 d).toNat : Nat) : Int) = (res b l p).2.2 d by omega, m.my.bk] at hof
    rw [if_neg c, show cl b ((res b l p).2.2 d).toNat / 160 = fq b ((res b l p).2.2 d).toNat 0 by omega]
    simp (disch := omega) only [leb_iff, ltb_iff, eqb_iff, pu_rmP, pu_dvP, pu_bs, pu_b0, pu_b1, pu_c0, pu_c1, pu_lt, pu_rdN, pu_wrN, hs_at, hs_cell, hs_slot, if_true, if_false, true_and, and_true, pu_rd, pu_wr, Int.reduceToNat, Int.toNat_natCast, decide_eq_true_eq, Int.add_zero, Bool.false_eq_true, if_pos, if_neg, m.th d hd, hof]
theorem m_weight (hN : 300 < N) (ok : OkB b) (yr : Yr b l p) (m : MS b l p (res b l p) h) {i n : Nat} (hi : ((i + n : Nat) : Int) ≤ yd b + l) : ∃ h', M_Md_weight N h i n = some (V b l p n i, h') ∧ Fb h h' := by
  have hy := yr.bd ok
  have := lp_inv (fun m' k (a : Int × Hp) => Md_weight_L5 N i n m' a.1 k a.2) (fun k a => a.1 = fsum (wgf b l p) k - fsum (wgf b l p) i ∧ Fb h a.2) (fun r => r.1 = V b l p n i ∧ Fb h r.2) (i + n)
    (fun m' k a hk hp => by
      obtain ⟨a, x⟩ := a
      obtain ⟨k1, k2⟩ := hp
      dsimp only at k1 k2
      have mx := m.fb k2
      obtain ⟨x', e1, e2⟩ := m_weightOf (h := x) (N := N) (by omega) ok yr mx (d := k) (by omega)
      refine Or.inl ⟨(a + wgf b l p k, x'), ⟨by dsimp only; rw [k1, fsum]; omega, k2.trans e2⟩, ?_⟩
      dsimp only
      rw [Md_weight_L5, e1, pu_bs]
      simp (disch := omega) only [leb_iff, ltb_iff, eqb_iff, pu_rmP, pu_dvP, pu_bs, pu_b0, pu_b1, pu_c0, pu_c1, pu_lt, pu_rdN, pu_wrN, hs_at, hs_cell, hs_slot, if_true, if_false, true_and, and_true, pu_rd, pu_wr, Int.reduceToNat, Int.toNat_natCast, decide_eq_true_eq, Int.add_zero, Bool.false_eq_true, if_pos, if_neg])
    (fun m' a hp => by
      obtain ⟨a, x⟩ := a
      refine ⟨(a, x), ?_, hp⟩
      dsimp only
      rw [Md_weight_L5]
      simp (disch := omega) only [leb_iff, ltb_iff, eqb_iff, pu_rmP, pu_dvP, pu_bs, pu_b0, pu_b1, pu_c0, pu_c1, pu_lt, pu_rdN, pu_wrN, hs_at, hs_cell, hs_slot, if_true, if_false, true_and, and_true, pu_rd, pu_wr, Int.reduceToNat, Int.toNat_natCast, decide_eq_true_eq, Int.add_zero, Bool.false_eq_true, if_pos, if_neg]) N i (0, h) (by omega) (by omega) ⟨by rw [Int.sub_self], Fb.refl h⟩
  obtain ⟨⟨r, x⟩, e, e1, e2⟩ := this
  dsimp only at e1
  exact ⟨x, by rw [← e1]; exact e, e2⟩
theorem m_heaviest_L (hN : 300 < N) (ok : OkB b) (yr : Yr b l p) (m : MS b l p (res b l p) h) {n : Nat} (hn1 : 1 ≤ n) (hn : n ≤ 60) {t : Int} (ht : t = 0 ∨ t = 1) : ∃ h', Md_heaviest_L54 N n t N (-1) (-1) 0 h = some (if (n : Int) ≤ yd b + l then (if t = 0 then (hvf b l p n ((yd b + l).toNat - n)).1 else (hvf b l p n ((yd b + l).toNat - n)).2) else -1, h') ∧ Fb h h' := by
  have hy := yr.bd ok
  by_cases hc : (n : Int) ≤ yd b + l
  · have := lp_inv (fun m' k (a : Int × Int × Hp) => Md_heaviest_L54 N n t m' a.1 a.2.1 k a.2.2) (fun k a => Fb h a.2.2 ∧ ((k = 0 ∧ a.1 = -1 ∧ a.2.1 = -1) ∨ (∃ j, k = j + 1 ∧ a.1 = (hvf b l p n j).1 ∧ a.2.1 = (hvf b l p n j).2))) (fun r => r.1 = (if t = 0 then (hvf b l p n ((yd b + l).toNat - n)).1 else (hvf b l p n ((yd b + l).toNat - n)).2) ∧ Fb h r.2) ((yd b + l).toNat - n + 1)
      (fun m' k a hk hp => by
        obtain ⟨a, a2, x⟩ := a
        obtain ⟨k1, k2⟩ := hp
        dsimp only at k1 k2
        have mx := m.fb k1
        obtain ⟨x', e1, e2⟩ := m_weight (h := x) (N := N) (by omega) ok yr mx (i := k) (n := n) (by omega)
        have b1 : 0 ≤ V b l p n k ∧ V b l p n k ≤ 9000 := wsum_bd ok l p (by omega) (by omega)
        rcases k2 with ⟨z1, z2, z3⟩ | ⟨j, z1, z2, z3⟩
        · refine Or.inl ⟨((hvf b l p n 0).1, (hvf b l p n 0).2, x'), ⟨k1.trans e2, Or.inr ⟨0, by omega, rfl, rfl⟩⟩, ?_⟩
          dsimp only
          rw [Md_heaviest_L54, mx.my.days, e1, pu_bs, hvf, z3]
          subst z1
          simp (disch := omega) only [leb_iff, ltb_iff, eqb_iff, pu_rmP, pu_dvP, pu_bs, pu_b0, pu_b1, pu_c0, pu_c1, pu_lt, pu_rdN, pu_wrN, hs_at, hs_cell, hs_slot, if_true, if_false, true_and, and_true, pu_rd, pu_wr, Int.reduceToNat, Int.toNat_natCast, decide_eq_true_eq, Int.add_zero, Bool.false_eq_true, if_pos, if_neg]
          rfl
        · obtain ⟨i, i1, i2, i3⟩ := hvf_V b l p n j
          have b2 : 0 ≤ V b l p n i ∧ V b l p n i ≤ 9000 := wsum_bd ok l p (by omega) (by omega)
          refine Or.inl ⟨((hvf b l p n (j + 1)).1, (hvf b l p n (j + 1)).2, x'), ⟨k1.trans e2, Or.inr ⟨j + 1, by omega, rfl, rfl⟩⟩, ?_⟩
          dsimp only
          rw [Md_heaviest_L54, mx.my.days, e1, pu_bs, hvf, z3, z2, ← z1]
          by_cases c : (hvf b l p n j).2 < V b l p n k
          · simp (disch := omega) only [leb_iff, ltb_iff, eqb_iff, pu_rmP, pu_dvP, pu_bs, pu_b0, pu_b1, pu_c0, pu_c1, pu_lt, pu_rdN, pu_wrN, hs_at, hs_cell, hs_slot, if_true, if_false, true_and, and_true, pu_rd, pu_wr, Int.reduceToNat, Int.toNat_natCast, decide_eq_true_eq, Int.add_zero, Bool.false_eq_true, if_pos, if_neg]
          · simp (disch := omega) only [leb_iff, ltb_iff, eqb_iff, pu_rmP, pu_dvP, pu_bs, pu_b0, pu_b1, pu_c0, pu_c1, pu_lt, pu_rdN, pu_wrN, hs_at, hs_cell, hs_slot, if_true, if_false, true_and, and_true, pu_rd, pu_wr, Int.reduceToNat, Int.toNat_natCast, decide_eq_true_eq, Int.add_zero, Bool.false_eq_true, if_pos, if_neg])
      (fun m' a hp => by
        obtain ⟨a, a2, x⟩ := a
        obtain ⟨k1, k2⟩ := hp
        dsimp only at k1 k2
        have mx := m.fb k1
        rcases k2 with ⟨z1, z2, z3⟩ | ⟨j, z1, z2, z3⟩
        · omega
        · have : j = (yd b + l).toNat - n := by omega
          subst this
          rcases ht with e | e
          · refine ⟨(a, x), ?_, by dsimp only; rw [if_pos e]; exact z2, k1⟩
            dsimp only
            rw [Md_heaviest_L54, mx.my.days]
            simp (disch := omega) only [leb_iff, ltb_iff, eqb_iff, pu_rmP, pu_dvP, pu_bs, pu_b0, pu_b1, pu_c0, pu_c1, pu_lt, pu_rdN, pu_wrN, hs_at, hs_cell, hs_slot, if_true, if_false, true_and, and_true, pu_rd, pu_wr, Int.reduceToNat, Int.toNat_natCast, decide_eq_true_eq, Int.add_zero, Bool.false_eq_true, if_pos, if_neg]
          · refine ⟨(a2, x), ?_, by dsimp only; rw [if_neg (by omega)]; exact z3, k1⟩
            dsimp only
            rw [Md_heaviest_L54, mx.my.days]
            simp (disch := omega) only [leb_iff, ltb_iff, eqb_iff, pu_rmP, pu_dvP, pu_bs, pu_b0, pu_b1, pu_c0, pu_c1, pu_lt, pu_rdN, pu_wrN, hs_at, hs_cell, hs_slot, if_true, if_false, true_and, and_true, pu_rd, pu_wr, Int.reduceToNat, Int.toNat_natCast, decide_eq_true_eq, Int.add_zero, Bool.false_eq_true, if_pos, if_neg]) N 0 (-1, -1, h) (by omega) (by omega) ⟨Fb.refl h, Or.inl ⟨rfl, rfl, rfl⟩⟩
    obtain ⟨⟨r, x⟩, e, e1, e2⟩ := this
    dsimp only at e1
    exact ⟨x, by rw [if_pos hc, ← e1]; exact e, e2⟩
  · refine ⟨h, ?_, Fb.refl h⟩
    obtain ⟨N, rfl⟩ : ∃ m, N = m + 1 := ⟨N - 1, by omega⟩
    rw [if_neg hc, Md_heaviest_L54, m.my.days]
    simp (disch := omega) only [leb_iff, ltb_iff, eqb_iff, pu_rmP, pu_dvP, pu_bs, pu_b0, pu_b1, pu_c0, pu_c1, pu_lt, pu_rdN, pu_wrN, hs_at, hs_cell, hs_slot, if_true, if_false, true_and, and_true, pu_rd, pu_wr, Int.reduceToNat, Int.toNat_natCast, decide_eq_true_eq, Int.add_zero, Bool.false_eq_true, if_pos, if_neg, ite_self]
theorem m_yieldedTo (ok : OkB b) (yr : Yr b l p) (m : MS b l p (res b l p) h) {f : Nat} (hf : (f : Int) < b 42) : M_Md_yieldedTo h f = some (ylf b l p f) := by
  have hm := ok.many
  have hy := yr.bd ok
  have h1 := (m.ro f hf).2
  have h2 := res_fa ok l p hf
  unfold FaOk at h2
  have h3 := m.my.dys f hf
  have h4 := dyf_bd (b := b) l p f
  have h5 := res_ab ok l p hf
  unfold M_Md_yieldedTo ylf
  by_cases c0 : (res b l p).2.1 f = 0
  · simp (disch := omega) only [leb_iff, ltb_iff, eqb_iff, pu_rmP, pu_dvP, pu_bs, pu_b0, pu_b1, pu_c0, pu_c1, pu_lt, pu_rdN, pu_wrN, hs_at, hs_cell, hs_slot, if_true, if_false, true_and, and_true, pu_rd, pu_wr, Int.reduceToNat, Int.toNat_natCast, decide_eq_true_eq, Int.add_zero, Bool.false_eq_true, if_pos, if_neg, h1, c0, true_or]
  · by_cases c5 : (res b l p).2.1 f = 5
    · simp (disch := omega) only [leb_iff, ltb_iff, eqb_iff, pu_rmP, pu_dvP, pu_bs, pu_b0, pu_b1, pu_c0, pu_c1, pu_lt, pu_rdN, pu_wrN, hs_at, hs_cell, hs_slot, if_true, if_false, true_and, and_true, pu_rd, pu_wr, Int.reduceToNat, Int.toNat_natCast, decide_eq_true_eq, Int.add_zero, Bool.false_eq_true, if_pos, if_neg, h1, c5, or_true]
    · have hdn : dyf b l p f ≠ -1 := fun x => c5 (h5.mpr x)
      have ht := res_th ok l p (dyf b l p f).toNat
      have h6 := m.th (dyf b l p f).toNat (by omega)
      rw [if_neg (fun x => by rcases x with x | x; exact c0 x; exact c5 x)]
      by_cases c6 : (res b l p).2.2 (dyf b l p f).toNat = -1
      · rw [if_neg (fun x => x.1 c6)]
        simp (disch := omega) only [leb_iff, ltb_iff, eqb_iff, pu_rmP, pu_dvP, pu_bs, pu_b0, pu_b1, pu_c0, pu_c1, pu_lt, pu_rdN, pu_wrN, hs_at, hs_cell, hs_slot, if_true, if_false, true_and, and_true, pu_rd, pu_wr, Int.reduceToNat, Int.toNat_natCast, decide_eq_true_eq, Int.add_zero, Bool.false_eq_true, if_pos, if_neg, h1, h3, h6]
      · have h7 := (m.ro ((res b l p).2.2 (dyf b l p f).toNat).toNat (by omega)).2
        have h8 := res_fa ok l p (f := ((res b l p).2.2 (dyf b l p f).toNat).toNat) (by omega)
        unfold FaOk at h8
        by_cases c7 : (res b l p).2.1 ((res b l p).2.2 (dyf b l p f).toNat).toNat = 0
        · rw [if_pos ⟨c6, c7⟩]
          simp (disch := omega) only [leb_iff, ltb_iff, eqb_iff, pu_rmP, pu_dvP, pu_bs, pu_b0, pu_b1, pu_c0, pu_c1, pu_lt, pu_rdN, pu_wrN, hs_at, hs_cell, hs_slot, if_true, if_false, true_and, and_true, pu_rd, pu_wr, Int.reduceToNat, Int.toNat_natCast, decide_eq_true_eq, Int.add_zero, Bool.false_eq_true, if_pos, if_neg, h1, h3, h6, h7]
        · rw [if_neg (fun x => c7 x.2)]
          simp (disch := omega) only [leb_iff, ltb_iff, eqb_iff, pu_rmP, pu_dvP, pu_bs, pu_b0, pu_b1, pu_c0, pu_c1, pu_lt, pu_rdN, pu_wrN, hs_at, hs_cell, hs_slot, if_true, if_false, true_and, and_true, pu_rd, pu_wr, Int.reduceToNat, Int.toNat_natCast, decide_eq_true_eq, Int.add_zero, Bool.false_eq_true, if_pos, if_neg, h1, h3, h6, h7]
theorem m_tally_L (hN : 20 < N) (ok : OkB b) (m : MS b l p (res b l p) h) {t : Int} (ht : -10 ≤ t ∧ t ≤ 10) : Md_tally_L49 N h t N 0 0 = some (cnt (fun f => decide ((res b l p).2.1 f = t)) (b 42).toNat, h) := by
  have hm := ok.many
  exact lp_fold (fun n k a => Md_tally_L49 N h t n a k) (cnt (fun f => decide ((res b l p).2.1 f = t))) (cnt (fun f => decide ((res b l p).2.1 f = t)) (b 42).toNat, h) (b 42).toNat
    (fun n k hk => by
      have h1 := (m.ro k (by omega)).2
      have h2 := res_fa ok l p (f := k) (by omega)
      unfold FaOk at h2
      (try dsimp only)
      rw [Md_tally_L49, pu_rd (by omega) (by omega), pu_bs, show Int.toNat 42 = 42 from rfl, m.my.bk, cnt_succ]
      by_cases c : (res b l p).2.1 k = t
      · simp (disch := omega) only [leb_iff, ltb_iff, eqb_iff, pu_rmP, pu_dvP, pu_bs, pu_b0, pu_b1, pu_c0, pu_c1, pu_lt, pu_rdN, pu_wrN, hs_at, hs_cell, hs_slot, if_true, if_false, true_and, and_true, pu_rd, pu_wr, Int.reduceToNat, Int.toNat_natCast, decide_eq_true_eq, Int.add_zero, Bool.false_eq_true, if_pos, if_neg, h1]
      · simp (disch := omega) only [leb_iff, ltb_iff, eqb_iff, pu_rmP, pu_dvP, pu_bs, pu_b0, pu_b1, pu_c0, pu_c1, pu_lt, pu_rdN, pu_wrN, hs_at, hs_cell, hs_slot, if_true, if_false, true_and, and_true, pu_rd, pu_wr, Int.reduceToNat, Int.toNat_natCast, decide_eq_true_eq, Int.add_zero, Bool.false_eq_true, if_pos, if_neg, h1])
    (fun n => by
      (try dsimp only)
      rw [Md_tally_L49, pu_rd (by omega) (by omega), pu_bs, show Int.toNat 42 = 42 from rfl, m.my.bk]
      simp (disch := omega) only [leb_iff, ltb_iff, eqb_iff, pu_rmP, pu_dvP, pu_bs, pu_b0, pu_b1, pu_c0, pu_c1, pu_lt, pu_rdN, pu_wrN, hs_at, hs_cell, hs_slot, if_true, if_false, true_and, and_true, pu_rd, pu_wr, Int.reduceToNat, Int.toNat_natCast, decide_eq_true_eq, Int.add_zero, Bool.false_eq_true, if_pos, if_neg]) N 0 (by omega) (by omega)
theorem m_joined_L (hN : 20 < N) (ok : OkB b) (yr : Yr b l p) (m : MS b l p (res b l p) h) {d : Int} (hd : -1000 ≤ d ∧ d ≤ 1000) : Md_joined_L32 N h d N 0 0 = some ((bsm (fun g => decide ((res b l p).2.1 g = 2 ∧ dyf b l p g = d)) (b 42).toNat : Int), h) := by
  have hm := ok.many
  have hy := yr.bd ok
  exact lp_fold (fun n k a => Md_joined_L32 N h d n a k) (fun k => (bsm (fun g => decide ((res b l p).2.1 g = 2 ∧ dyf b l p g = d)) k : Int)) _ (b 42).toNat
    (fun n k hk => by
      have h1 := (m.ro k (by omega)).2
      have h2 := res_fa ok l p (f := k) (by omega)
      unfold FaOk at h2
      have h3 := m.my.dys k (by omega)
      have h4 := dyf_bd (b := b) l p k
      have h5 := bsm_or (q := fun g => decide ((res b l p).2.1 g = 2 ∧ dyf b l p g = d)) (k := k) (by omega)
      have h6 := bsm_bd (q := fun g => decide ((res b l p).2.1 g = 2 ∧ dyf b l p g = d)) (n := k) (by omega)
      have h7 := or_zero (a := (bsm (fun g => decide ((res b l p).2.1 g = 2 ∧ dyf b l p g = d)) k : Int)) (by omega) (by omega)
      (try dsimp only)
      rw [Md_joined_L32, pu_rd (by omega) (by omega), pu_bs, show Int.toNat 42 = 42 from rfl, m.my.bk, ← h5, h7]
      by_cases c1 : (res b l p).2.1 k = 2
      · by_cases c2 : dyf b l p k = d
        · simp (disch := omega) only [leb_iff, ltb_iff, eqb_iff, pu_rmP, pu_dvP, pu_bs, pu_b0, pu_b1, pu_c0, pu_c1, pu_lt, pu_rdN, pu_wrN, hs_at, hs_cell, hs_slot, if_true, if_false, true_and, and_true, pu_rd, pu_wr, Int.reduceToNat, Int.toNat_natCast, decide_eq_true_eq, Int.add_zero, Bool.false_eq_true, if_pos, if_neg, h1, h3, c1, c2]
        · simp (disch := omega) only [leb_iff, ltb_iff, eqb_iff, pu_rmP, pu_dvP, pu_bs, pu_b0, pu_b1, pu_c0, pu_c1, pu_lt, pu_rdN, pu_wrN, hs_at, hs_cell, hs_slot, if_true, if_false, true_and, and_true, pu_rd, pu_wr, Int.reduceToNat, Int.toNat_natCast, decide_eq_true_eq, Int.add_zero, Bool.false_eq_true, if_pos, if_neg, h1, h3, c1, c2, and_false]
      · simp (disch := omega) only [leb_iff, ltb_iff, eqb_iff, pu_rmP, pu_dvP, pu_bs, pu_b0, pu_b1, pu_c0, pu_c1, pu_lt, pu_rdN, pu_wrN, hs_at, hs_cell, hs_slot, if_true, if_false, true_and, and_true, pu_rd, pu_wr, Int.reduceToNat, Int.toNat_natCast, decide_eq_true_eq, Int.add_zero, Bool.false_eq_true, if_pos, if_neg, h1, h3, c1, false_and])
    (fun n => by
      (try dsimp only)
      rw [Md_joined_L32, pu_rd (by omega) (by omega), pu_bs, show Int.toNat 42 = 42 from rfl, m.my.bk]
      simp (disch := omega) only [leb_iff, ltb_iff, eqb_iff, pu_rmP, pu_dvP, pu_bs, pu_b0, pu_b1, pu_c0, pu_c1, pu_lt, pu_rdN, pu_wrN, hs_at, hs_cell, hs_slot, if_true, if_false, true_and, and_true, pu_rd, pu_wr, Int.reduceToNat, Int.toNat_natCast, decide_eq_true_eq, Int.add_zero, Bool.false_eq_true, if_pos, if_neg]) N 0 (by omega) (by omega)
end Ym
