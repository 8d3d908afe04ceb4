theorem Mx0_step {g : Nat → Int} {k : Nat} {r : Int} (h : Mx0 g k r) : Mx0 g (k + 1) (max r (g k)) := by
  obtain ⟨h1, h2, h3⟩ := h
  refine ⟨by omega, fun y hy => ?_, ?_⟩
  · by_cases e : y = k
    · subst e; omega
    · have := h2 y (by omega); omega
  · by_cases c : r ≤ g k
    · exact Or.inr ⟨k, by omega, by omega⟩
    · rcases h3 with e | ⟨y, y1, y2⟩
      · exact Or.inl (by omega)
      · exact Or.inr ⟨y, by omega, by omega⟩
section Mc
variable {b : Nat → Int} {h : Hp} {N : Nat}
theorem Fq.bk {h h' : Hp} (f : Fq h h') (hb : h 84 = b) : h' 84 = b := by rw [f.1 84 (by omega) (by omega)]; exact hb
theorem m_resY (hN : 1100 < N) (ok : OkB b) (hb : h 84 = b) {y : Nat} (hy : y ≤ 20000) : ∃ h', M_Md_resolves N h y = some h' ∧ Fq h h' ∧ h' 83 14 = wdy b y ∧ MS b (sl (sy b y)) (spc b (sy b y)) (rsS b (sy b y)) h' := by
  obtain ⟨h', e1, e2, e3, e4⟩ := m_resolves (h := h) hN ok hb (y := (y : Int)) (by omega) (by omega)
  have sp := sy_spec ok y
  refine ⟨h', e1, e2, e3, ?_⟩
  unfold rsS
  rw [sp.2.2.1, sp.2.2.2]; exact e4
theorem m_fates0 (hN : 2000 < N) (ok : OkB b) (hb : h 84 = b) {f : Nat} (hf : (f : Int) < b 42) {t : Int} (ht : -10 ≤ t ∧ t ≤ 10) : ∃ h', Md_fates_L51 N f t 0 (cyN b) N 0 0 h = some (cnt (fun y => decide ((rsS b (sy b y)).2.1 f = t)) (cyN b), h') ∧ Fq h h' := by
  have hm := ok.many
  have hC := cyN_bd ok
  have := lp_inv (fun n k (a : Int × Hp) => Md_fates_L51 N f t 0 (cyN b) n a.1 k a.2) (fun k a => a.1 = cnt (fun y => decide ((rsS b (sy b y)).2.1 f = t)) k ∧ Fq h a.2) (fun r => r.1 = cnt (fun y => decide ((rsS b (sy b y)).2.1 f = t)) (cyN b) ∧ Fq h r.2) (cyN b)
    (fun n k a hk hp => by
      obtain ⟨a, x⟩ := a
      obtain ⟨k1, k2⟩ := hp
      dsimp only at k1 k2
      obtain ⟨x', e1, e2, e3, e4⟩ := m_resY (h := x) (N := N) (by omega) ok (k2.bk hb) (y := k) (by omega)
      have h1 := (e4.ro f hf).2
      have h2 := rsS_fa ok (sy b k) hf
      refine Or.inl ⟨(cnt (fun y => decide ((rsS b (sy b y)).2.1 f = t)) (k + 1), x'), ⟨rfl, k2.trans e2⟩, ?_⟩
      dsimp only
      rw [Md_fates_L51, e1, pu_bs, cnt_succ, k1]
      by_cases c : (rsS b (sy b k)).2.1 f = t
      · simp (disch := omega) only [leb_iff, ltb_iff, eqb_iff, pu_rmP, pu_dvP, pu_bs, pu_b0, pu_b1, pu_c0, pu_c1, pu_lt, pu_rdN, pu_wrN, hs_at, hs_cell, hs_slot, if_true, if_false, true_and, and_true, pu_rd, pu_wr, Int.reduceToNat, Int.toNat_natCast, decide_eq_true_eq, Int.add_zero, Bool.false_eq_true, if_pos, if_neg, h1]
      · simp (disch := omega) only [leb_iff, ltb_iff, eqb_iff, pu_rmP, pu_dvP, pu_bs, pu_b0, pu_b1, pu_c0, pu_c1, pu_lt, pu_rdN, pu_wrN, hs_at, hs_cell, hs_slot, if_true, if_false, true_and, and_true, pu_rd, pu_wr, Int.reduceToNat, Int.toNat_natCast, decide_eq_true_eq, Int.add_zero, Bool.false_eq_true, if_pos, if_neg, h1])
    (fun n a hp => by
      obtain ⟨a, x⟩ := a
      refine ⟨(a, x), ?_, hp⟩
      dsimp only
      rw [Md_fates_L51]
      simp (disch := omega) only [leb_iff, ltb_iff, eqb_iff, pu_rmP, pu_dvP, pu_bs, pu_b0, pu_b1, pu_c0, pu_c1, pu_lt, pu_rdN, pu_wrN, hs_at, hs_cell, hs_slot, if_true, if_false, true_and, and_true, pu_rd, pu_wr, Int.reduceToNat, Int.toNat_natCast, decide_eq_true_eq, Int.add_zero, Bool.false_eq_true, if_pos, if_neg]) N 0 (0, h) (by omega) (by omega) ⟨rfl, Fq.refl h⟩
  obtain ⟨⟨r, x⟩, e, e1, e2⟩ := this
  dsimp only at e1
  exact ⟨x, by rw [← e1]; exact e, e2⟩
theorem m_fates1 (hN : 2000 < N) (ok : OkB b) (hb : h 84 = b) {f : Nat} (hf : (f : Int) < b 42) {t : Int} (ht : -10 ≤ t ∧ t ≤ 10) : ∃ r h', Md_fates_L51 N f t 1 (cyN b) N 0 0 h = some (r, h') ∧ Fq h h' ∧ Lst (fun y => (rsS b (sy b y)).2.1 f = t) (cyN b) r := by
  have hm := ok.many
  have hC := cyN_bd ok
  have := lp_inv (fun n k (a : Hp) => Md_fates_L51 N f t 1 (cyN b) n 0 k a) (fun k a => (∀ y, y < k → ¬ (rsS b (sy b y)).2.1 f = t) ∧ Fq h a) (fun r => Lst (fun y => (rsS b (sy b y)).2.1 f = t) (cyN b) r.1 ∧ Fq h r.2) (cyN b)
    (fun n k x hk hp => by
      obtain ⟨k1, k2⟩ := hp
      obtain ⟨x', e1, e2, e3, e4⟩ := m_resY (h := x) (N := N) (by omega) ok (k2.bk hb) (y := k) (by omega)
      have h1 := (e4.ro f hf).2
      have h2 := rsS_fa ok (sy b k) hf
      by_cases c : (rsS b (sy b k)).2.1 f = t
      · refine Or.inr ⟨((k : Int), x'), ?_, Or.inr ⟨k, hk, rfl, c, k1⟩, k2.trans e2⟩
        (try dsimp only)
        rw [Md_fates_L51, e1, pu_bs]
        simp (disch := omega) only [leb_iff, ltb_iff, eqb_iff, pu_rmP, pu_dvP, pu_bs, pu_b0, pu_b1, pu_c0, pu_c1, pu_lt, pu_rdN, pu_wrN, hs_at, hs_cell, hs_slot, if_true, if_false, true_and, and_true, pu_rd, pu_wr, Int.reduceToNat, Int.toNat_natCast, decide_eq_true_eq, Int.add_zero, Bool.false_eq_true, if_pos, if_neg, h1]
      · refine Or.inl ⟨x', ⟨fun y hy => ?_, k2.trans e2⟩, ?_⟩
        · by_cases e : y = k
          · subst e; exact c
          · exact k1 y (by omega)
        · (try dsimp only)
          rw [Md_fates_L51, e1, pu_bs]
          simp (disch := omega) only [leb_iff, ltb_iff, eqb_iff, pu_rmP, pu_dvP, pu_bs, pu_b0, pu_b1, pu_c0, pu_c1, pu_lt, pu_rdN, pu_wrN, hs_at, hs_cell, hs_slot, if_true, if_false, true_and, and_true, pu_rd, pu_wr, Int.reduceToNat, Int.toNat_natCast, decide_eq_true_eq, Int.add_zero, Bool.false_eq_true, if_pos, if_neg, h1])
    (fun n x hp => by
      refine ⟨(-1, x), ?_, Or.inl ⟨rfl, hp.1⟩, hp.2⟩
      (try dsimp only)
      rw [Md_fates_L51]
      simp (disch := omega) only [leb_iff, ltb_iff, eqb_iff, pu_rmP, pu_dvP, pu_bs, pu_b0, pu_b1, pu_c0, pu_c1, pu_lt, pu_rdN, pu_wrN, hs_at, hs_cell, hs_slot, if_true, if_false, true_and, and_true, pu_rd, pu_wr, Int.reduceToNat, Int.toNat_natCast, decide_eq_true_eq, Int.add_zero, Bool.false_eq_true, if_pos, if_neg]) N 0 h (by omega) (by omega) ⟨fun y hy => by omega, Fq.refl h⟩
  obtain ⟨⟨r, x⟩, e, e1, e2⟩ := this
  exact ⟨r, x, e, e2, e1⟩
theorem m_far_L (hN : 2000 < N) (ok : OkB b) (hb : h 84 = b) {f : Nat} (hf : (f : Int) < b 42) : ∃ r h', Md_far_L36 N f (cyN b) N 0 0 h = some (r, h') ∧ Fq h h' ∧ Mx0 (fun y => farS b f (sy b y)) (cyN b) r := by
  have hm := ok.many
  have hC := cyN_bd ok
  have := lp_inv (fun n k (a : Int × Hp) => Md_far_L36 N f (cyN b) n a.1 k a.2) (fun k a => a.1 ≤ 500 ∧ Mx0 (fun y => farS b f (sy b y)) k a.1 ∧ Fq h a.2) (fun r => Mx0 (fun y => farS b f (sy b y)) (cyN b) r.1 ∧ Fq h r.2) (cyN b)
    (fun n k a hk hp => by
      obtain ⟨a, x⟩ := a
      obtain ⟨k0, k1, k2⟩ := hp
      dsimp only at k0 k1 k2
      obtain ⟨x', e1, e2, e3, e4⟩ := m_resY (h := x) (N := N) (by omega) ok (k2.bk hb) (y := k) (by omega)
      have h1 := e4.ro f hf
      have h2 := rsS_fa ok (sy b k) hf
      have h3 := farS_bd ok (sy b k) hf
      have h4 := plS_bd ok (sy b k) hf
      have h5 := dyS_bd ok (sy b k) f
      have h6 : x' 89 f = dyS b (sy b k) f := e4.my.dys f hf
      have h0 := k1.1
      refine Or.inl ⟨(max a (farS b f (sy b k)), x'), ⟨by dsimp only; omega, Mx0_step k1, k2.trans e2⟩, ?_⟩
      dsimp only
      rw [Md_far_L36, e1, pu_bs]
      unfold M_Md_apart
      by_cases c : (rsS b (sy b k)).2.1 f = 1
      · have e : farS b f (sy b k) = (((rsS b (sy b k)).1 f - dyS b (sy b k) f).natAbs : Int) := if_pos c
        by_cases c2 : dyS b (sy b k) f ≤ (rsS b (sy b k)).1 f
        · have e' : (rsS b (sy b k)).1 f - dyS b (sy b k) f = farS b f (sy b k) := by omega
          by_cases c3 : farS b f (sy b k) ≤ a
          · rw [show max a (farS b f (sy b k)) = a by omega]
            simp (disch := omega) only [leb_iff, ltb_iff, eqb_iff, pu_rmP, pu_dvP, pu_bs, pu_b0, pu_b1, pu_c0, pu_c1, pu_lt, pu_rdN, pu_wrN, hs_at, hs_cell, hs_slot, if_true, if_false, true_and, and_true, pu_rd, pu_wr, Int.reduceToNat, Int.toNat_natCast, decide_eq_true_eq, Int.add_zero, Bool.false_eq_true, if_pos, if_neg, h1.1, h1.2, h6, e']
          · rw [show max a (farS b f (sy b k)) = farS b f (sy b k) by omega]
            simp (disch := omega) only [leb_iff, ltb_iff, eqb_iff, pu_rmP, pu_dvP, pu_bs, pu_b0, pu_b1, pu_c0, pu_c1, pu_lt, pu_rdN, pu_wrN, hs_at, hs_cell, hs_slot, if_true, if_false, true_and, and_true, pu_rd, pu_wr, Int.reduceToNat, Int.toNat_natCast, decide_eq_true_eq, Int.add_zero, Bool.false_eq_true, if_pos, if_neg, h1.1, h1.2, h6, e']
        · have e' : dyS b (sy b k) f - (rsS b (sy b k)).1 f = farS b f (sy b k) := by omega
          by_cases c3 : farS b f (sy b k) ≤ a
          · rw [show max a (farS b f (sy b k)) = a by omega]
            simp (disch := omega) only [leb_iff, ltb_iff, eqb_iff, pu_rmP, pu_dvP, pu_bs, pu_b0, pu_b1, pu_c0, pu_c1, pu_lt, pu_rdN, pu_wrN, hs_at, hs_cell, hs_slot, if_true, if_false, true_and, and_true, pu_rd, pu_wr, Int.reduceToNat, Int.toNat_natCast, decide_eq_true_eq, Int.add_zero, Bool.false_eq_true, if_pos, if_neg, h1.1, h1.2, h6, e']
          · rw [show max a (farS b f (sy b k)) = farS b f (sy b k) by omega]
            simp (disch := omega) only [leb_iff, ltb_iff, eqb_iff, pu_rmP, pu_dvP, pu_bs, pu_b0, pu_b1, pu_c0, pu_c1, pu_lt, pu_rdN, pu_wrN, hs_at, hs_cell, hs_slot, if_true, if_false, true_and, and_true, pu_rd, pu_wr, Int.reduceToNat, Int.toNat_natCast, decide_eq_true_eq, Int.add_zero, Bool.false_eq_true, if_pos, if_neg, h1.1, h1.2, h6, e']
      · have e : farS b f (sy b k) = 0 := if_neg c
        rw [e, show max a 0 = a by omega]
        simp (disch := omega) only [leb_iff, ltb_iff, eqb_iff, pu_rmP, pu_dvP, pu_bs, pu_b0, pu_b1, pu_c0, pu_c1, pu_lt, pu_rdN, pu_wrN, hs_at, hs_cell, hs_slot, if_true, if_false, true_and, and_true, pu_rd, pu_wr, Int.reduceToNat, Int.toNat_natCast, decide_eq_true_eq, Int.add_zero, Bool.false_eq_true, if_pos, if_neg, h1.2])
    (fun n a hp => by
      obtain ⟨a, x⟩ := a
      refine ⟨(a, x), ?_, hp.2⟩
      dsimp only
      rw [Md_far_L36]
      simp (disch := omega) only [leb_iff, ltb_iff, eqb_iff, pu_rmP, pu_dvP, pu_bs, pu_b0, pu_b1, pu_c0, pu_c1, pu_lt, pu_rdN, pu_wrN, hs_at, hs_cell, hs_slot, if_true, if_false, true_and, and_true, pu_rd, pu_wr, Int.reduceToNat, Int.toNat_natCast, decide_eq_true_eq, Int.add_zero, Bool.false_eq_true, if_pos, if_neg]) N 0 (0, h) (by omega) (by omega) ⟨by dsimp only; omega, ⟨by dsimp only; omega, fun y hy => by omega, Or.inl rfl⟩, Fq.refl h⟩
  obtain ⟨⟨r, x⟩, e, e1, e2⟩ := this
  exact ⟨r, x, e, e2, e1⟩
theorem m_span_L (hN : 2000 < N) (ok : OkB b) (hb : h 84 = b) {f : Nat} (hf : (f : Int) < b 42) {t : Int} (ht : t = 0 ∨ t = 1) : ∃ r h', Md_span_L37 N f t (cyN b) N (-1) 0 h = some (r, h') ∧ Fq h h' ∧ Ext t (fun y => (rsS b (sy b y)).1 f) (cyN b) r := by
  have hm := ok.many
  have hC := cyN_bd ok
  have := lp_inv (fun n k (a : Int × Hp) => Md_span_L37 N f t (cyN b) n a.1 k a.2) (fun k a => (-1 ≤ a.1 ∧ a.1 ≤ 249) ∧ Ext t (fun y => (rsS b (sy b y)).1 f) k a.1 ∧ Fq h a.2) (fun r => Ext t (fun y => (rsS b (sy b y)).1 f) (cyN b) r.1 ∧ Fq h r.2) (cyN b)
    (fun n k a hk hp => by
      obtain ⟨a, x⟩ := a
      obtain ⟨k0, k1, k2⟩ := hp
      dsimp only at k0 k1 k2
      obtain ⟨x', e1, e2, e3, e4⟩ := m_resY (h := x) (N := N) (by omega) ok (k2.bk hb) (y := k) (by omega)
      have h1 := (e4.ro f hf).1
      have h4 := plS_bd ok (sy b k) hf
      have hst := Ext_step k1 (fun s => (plS_bd ok (sy b s) hf).1)
      refine Or.inl ⟨(fur t a ((rsS b (sy b k)).1 f), x'), ⟨by dsimp only; unfold fur; split <;> (try split) <;> omega, hst, k2.trans e2⟩, ?_⟩
      dsimp only
      rw [Md_span_L37, e1, pu_bs]
      unfold fur
      by_cases c1 : (rsS b (sy b k)).1 f = -1
      · rw [if_pos (Or.inr c1), show max a ((rsS b (sy b k)).1 f) = a by omega]
        simp (disch := omega) only [leb_iff, ltb_iff, eqb_iff, pu_rmP, pu_dvP, pu_bs, pu_b0, pu_b1, pu_c0, pu_c1, pu_lt, pu_rdN, pu_wrN, hs_at, hs_cell, hs_slot, if_true, if_false, true_and, and_true, pu_rd, pu_wr, Int.reduceToNat, Int.toNat_natCast, decide_eq_true_eq, Int.add_zero, Bool.false_eq_true, if_pos, if_neg, h1]
      · by_cases c2 : a = -1
        · rw [if_pos (Or.inl c2), show max a ((rsS b (sy b k)).1 f) = (rsS b (sy b k)).1 f by omega]
          simp (disch := omega) only [leb_iff, ltb_iff, eqb_iff, pu_rmP, pu_dvP, pu_bs, pu_b0, pu_b1, pu_c0, pu_c1, pu_lt, pu_rdN, pu_wrN, hs_at, hs_cell, hs_slot, if_true, if_false, true_and, and_true, pu_rd, pu_wr, Int.reduceToNat, Int.toNat_natCast, decide_eq_true_eq, Int.add_zero, Bool.false_eq_true, if_pos, if_neg, h1]
        · rw [if_neg (show ¬ (a = -1 ∨ (rsS b (sy b k)).1 f = -1) by omega)]
          rcases ht with e | e
          · subst e
            by_cases c3 : a ≤ (rsS b (sy b k)).1 f
            · rw [if_pos rfl, show min a ((rsS b (sy b k)).1 f) = a by omega]
              simp (disch := omega) only [leb_iff, ltb_iff, eqb_iff, pu_rmP, pu_dvP, pu_bs, pu_b0, pu_b1, pu_c0, pu_c1, pu_lt, pu_rdN, pu_wrN, hs_at, hs_cell, hs_slot, if_true, if_false, true_and, and_true, pu_rd, pu_wr, Int.reduceToNat, Int.toNat_natCast, decide_eq_true_eq, Int.add_zero, Bool.false_eq_true, if_pos, if_neg, h1]
            · rw [if_pos rfl, show min a ((rsS b (sy b k)).1 f) = (rsS b (sy b k)).1 f by omega]
              simp (disch := omega) only [leb_iff, ltb_iff, eqb_iff, pu_rmP, pu_dvP, pu_bs, pu_b0, pu_b1, pu_c0, pu_c1, pu_lt, pu_rdN, pu_wrN, hs_at, hs_cell, hs_slot, if_true, if_false, true_and, and_true, pu_rd, pu_wr, Int.reduceToNat, Int.toNat_natCast, decide_eq_true_eq, Int.add_zero, Bool.false_eq_true, if_pos, if_neg, h1]
          · subst e
            by_cases c3 : (rsS b (sy b k)).1 f ≤ a
            · rw [if_neg (show ¬ (1 : Int) = 0 by omega), show max a ((rsS b (sy b k)).1 f) = a by omega]
              simp (disch := omega) only [leb_iff, ltb_iff, eqb_iff, pu_rmP, pu_dvP, pu_bs, pu_b0, pu_b1, pu_c0, pu_c1, pu_lt, pu_rdN, pu_wrN, hs_at, hs_cell, hs_slot, if_true, if_false, true_and, and_true, pu_rd, pu_wr, Int.reduceToNat, Int.toNat_natCast, decide_eq_true_eq, Int.add_zero, Bool.false_eq_true, if_pos, if_neg, h1]
            · rw [if_neg (show ¬ (1 : Int) = 0 by omega), show max a ((rsS b (sy b k)).1 f) = (rsS b (sy b k)).1 f by omega]
              simp (disch := omega) only [leb_iff, ltb_iff, eqb_iff, pu_rmP, pu_dvP, pu_bs, pu_b0, pu_b1, pu_c0, pu_c1, pu_lt, pu_rdN, pu_wrN, hs_at, hs_cell, hs_slot, if_true, if_false, true_and, and_true, pu_rd, pu_wr, Int.reduceToNat, Int.toNat_natCast, decide_eq_true_eq, Int.add_zero, Bool.false_eq_true, if_pos, if_neg, h1])
    (fun n a hp => by
      obtain ⟨a, x⟩ := a
      refine ⟨(a, x), ?_, hp.2⟩
      dsimp only
      rw [Md_span_L37]
      simp (disch := omega) only [leb_iff, ltb_iff, eqb_iff, pu_rmP, pu_dvP, pu_bs, pu_b0, pu_b1, pu_c0, pu_c1, pu_lt, pu_rdN, pu_wrN, hs_at, hs_cell, hs_slot, if_true, if_false, true_and, and_true, pu_rd, pu_wr, Int.reduceToNat, Int.toNat_natCast, decide_eq_true_eq, Int.add_zero, Bool.false_eq_true, if_pos, if_neg]) N 0 (-1, h) (by omega) (by omega) ⟨by dsimp only; omega, Or.inl ⟨rfl, fun y hy => by omega⟩, Fq.refl h⟩
  obtain ⟨⟨r, x⟩, e, e1, e2⟩ := this
  exact ⟨r, x, e, e2, e1⟩
theorem m_next_L (hN : 2000 < N) (ok : OkB b) (hb : h 84 = b) {f : Nat} (hf : (f : Int) < b 42) {w : Int} (hw : 0 ≤ w ∧ w < b 0) {y : Nat} (hy : y ≤ 9999) : ∃ r h', Md_next_L63 N f w y (cyN b) N y h = some (r, h') ∧ Fq h h' ∧ Nx (nxq b f w) y (min (y + cyN b) 10000) r := by
  have hm := ok.many
  have hC := cyN_bd ok
  have hwk := ok.week
  have := lp_inv (fun n k (a : Hp) => Md_next_L63 N f w y (cyN b) n k a) (fun k a => y ≤ k ∧ (∀ z, y ≤ z → z < k → ¬ nxq b f w z) ∧ Fq h a) (fun r => Nx (nxq b f w) y (min (y + cyN b) 10000) r.1 ∧ Fq h r.2) (min (y + cyN b) 10000)
    (fun n k x hk hp => by
      obtain ⟨hyk, k1, k2⟩ := hp
      obtain ⟨x', e1, e2, e3, e4⟩ := m_resY (h := x) (N := N) (by omega) ok (k2.bk hb) (y := k) (by omega)
      have h1 := (e4.ro f hf).1
      have h4 := plS_bd ok (sy b k) hf
      have hw0 := wdy_le ok (k : Int)
      have hsh := wd_shift (d := (rsS b (sy b k)).1 f) (psc_mod (b := b) (k : Int))
      have m1 := Int.emod_nonneg ((rsS b (sy b k)).1 f - psc b k) (show b 0 ≠ 0 by omega)
      have m2 := Int.emod_lt_of_pos ((rsS b (sy b k)).1 f - psc b k) (show 0 < b 0 by omega)
      have x84 : x' 84 = b := (k2.trans e2).bk hb
      by_cases c1 : (rsS b (sy b k)).1 f = -1
      · refine Or.inl ⟨x', ⟨by omega, fun z z1 z2 => ?_, k2.trans e2⟩, ?_⟩
        · by_cases e : z = k
          · subst e; exact fun x => x.1 c1
          · exact k1 z z1 (by omega)
        · (try dsimp only)
          rw [Md_next_L63, e1, pu_bs]
          simp (disch := omega) only [leb_iff, ltb_iff, eqb_iff, pu_rmP, pu_dvP, pu_bs, pu_b0, pu_b1, pu_c0, pu_c1, pu_lt, pu_rdN, pu_wrN, hs_at, hs_cell, hs_slot, if_true, if_false, true_and, and_true, pu_rd, pu_wr, Int.reduceToNat, Int.toNat_natCast, decide_eq_true_eq, Int.add_zero, Bool.false_eq_true, if_pos, if_neg, h1]
      · by_cases c2 : ((rsS b (sy b k)).1 f - psc b k) % b 0 = w
        · refine Or.inr ⟨((k : Int), x'), ?_, Or.inr ⟨k, hyk, hk, rfl, ⟨c1, c2⟩, k1⟩, k2.trans e2⟩
          (try dsimp only)
          rw [Md_next_L63, e1, pu_bs]
          simp (disch := omega) only [leb_iff, ltb_iff, eqb_iff, pu_rmP, pu_dvP, pu_bs, pu_b0, pu_b1, pu_c0, pu_c1, pu_lt, pu_rdN, pu_wrN, hs_at, hs_cell, hs_slot, if_true, if_false, true_and, and_true, pu_rd, pu_wr, Int.reduceToNat, Int.toNat_natCast, decide_eq_true_eq, Int.add_zero, Bool.false_eq_true, if_pos, if_neg, h1, x84, e3, hsh]
        · refine Or.inl ⟨x', ⟨by omega, fun z z1 z2 => ?_, k2.trans e2⟩, ?_⟩
          · by_cases e : z = k
            · subst e; exact fun x => c2 x.2
            · exact k1 z z1 (by omega)
          · (try dsimp only)
            rw [Md_next_L63, e1, pu_bs]
            simp (disch := omega) only [leb_iff, ltb_iff, eqb_iff, pu_rmP, pu_dvP, pu_bs, pu_b0, pu_b1, pu_c0, pu_c1, pu_lt, pu_rdN, pu_wrN, hs_at, hs_cell, hs_slot, if_true, if_false, true_and, and_true, pu_rd, pu_wr, Int.reduceToNat, Int.toNat_natCast, decide_eq_true_eq, Int.add_zero, Bool.false_eq_true, if_pos, if_neg, h1, x84, e3, hsh])
    (fun n x hp => by
      refine ⟨(-1, x), ?_, Or.inl ⟨rfl, hp.2.1⟩, hp.2.2⟩
      (try dsimp only)
      rw [Md_next_L63]
      by_cases c : y + cyN b ≤ 10000
      · rw [show min (y + cyN b) 10000 = y + cyN b by omega]
        simp (disch := omega) only [leb_iff, ltb_iff, eqb_iff, pu_rmP, pu_dvP, pu_bs, pu_b0, pu_b1, pu_c0, pu_c1, pu_lt, pu_rdN, pu_wrN, hs_at, hs_cell, hs_slot, if_true, if_false, true_and, and_true, pu_rd, pu_wr, Int.reduceToNat, Int.toNat_natCast, decide_eq_true_eq, Int.add_zero, Bool.false_eq_true, if_pos, if_neg]
      · rw [show min (y + cyN b) 10000 = 10000 by omega]
        simp (disch := omega) only [leb_iff, ltb_iff, eqb_iff, pu_rmP, pu_dvP, pu_bs, pu_b0, pu_b1, pu_c0, pu_c1, pu_lt, pu_rdN, pu_wrN, hs_at, hs_cell, hs_slot, if_true, if_false, true_and, and_true, pu_rd, pu_wr, Int.reduceToNat, Int.toNat_natCast, decide_eq_true_eq, Int.add_zero, Bool.false_eq_true, if_pos, if_neg]) N y h (by omega) (by omega) ⟨by omega, fun z z1 z2 => by omega, Fq.refl h⟩
  obtain ⟨⟨r, x⟩, e, e1, e2⟩ := this
  exact ⟨r, x, e, e2, e1⟩
theorem m_unres_in (hN : 100 < N) (ok : OkB b) {l p : Int} {s : St} (m : MS b l p s h) (hfa : ∀ f : Nat, (f : Int) < b 42 → -1 ≤ s.2.1 f ∧ s.2.1 f ≤ 5) (v : Int) (K : Int → Option (Int × Hp)) : (∃ g : Nat, (g : Int) < b 42 ∧ s.2.1 g = 4) ∧ Md_unresolved_L44 N h v K N 0 = some (v, h) ∨ ¬ (∃ g : Nat, (g : Int) < b 42 ∧ s.2.1 g = 4) ∧ Md_unresolved_L44 N h v K N 0 = K ((b 42).toNat : Int) := by
  have hm := ok.many
  have key : ∀ n k : Nat, k ≤ (b 42).toNat → (b 42).toNat - k < n → (∀ g : Nat, g < k → s.2.1 g ≠ 4) → (∃ g : Nat, (g : Int) < b 42 ∧ s.2.1 g = 4) ∧ Md_unresolved_L44 N h v K n k = some (v, h) ∨ ¬ (∃ g : Nat, (g : Int) < b 42 ∧ s.2.1 g = 4) ∧ Md_unresolved_L44 N h v K n k = K ((b 42).toNat : Int) := by
    intro n
    induction n with
    | zero => intro k _ hn; omega
    | succ n ih =>
      intro k hk hn hno
      rw [Md_unresolved_L44, pu_rd (by omega) (by omega), pu_bs, show Int.toNat 42 = 42 from rfl, m.my.bk]
      by_cases c : k < (b 42).toNat
      · have h1 := (m.ro k (by omega)).2
        have h2 := hfa k (by omega)
        by_cases c2 : s.2.1 k = 4
        · refine Or.inl ⟨⟨k, by omega, c2⟩, ?_⟩
          simp (disch := omega) only [leb_iff, ltb_iff, eqb_iff, pu_rmP, pu_dvP, pu_bs, pu_b0, pu_b1, pu_c0, pu_c1, pu_lt, pu_rdN, pu_wrN, hs_at, hs_cell, hs_slot, if_true, if_false, true_and, and_true, pu_rd, pu_wr, Int.reduceToNat, Int.toNat_natCast, decide_eq_true_eq, Int.add_zero, Bool.false_eq_true, if_pos, if_neg, h1]
        · have := ih (k + 1) (by omega) (by omega) (fun g hg => by
            by_cases e : g = k
            · subst e; exact c2
            · exact hno g (by omega))
          rw [Int.natCast_add] at this
          simp (disch := omega) only [leb_iff, ltb_iff, eqb_iff, pu_rmP, pu_dvP, pu_bs, pu_b0, pu_b1, pu_c0, pu_c1, pu_lt, pu_rdN, pu_wrN, hs_at, hs_cell, hs_slot, if_true, if_false, true_and, and_true, pu_rd, pu_wr, Int.reduceToNat, Int.toNat_natCast, decide_eq_true_eq, Int.add_zero, Bool.false_eq_true, if_pos, if_neg, h1]
          exact this
      · have e : k = (b 42).toNat := by omega
        refine Or.inr ⟨?_, ?_⟩
        · rintro ⟨g, g1, g2⟩; exact hno g (by omega) g2
        · rw [e]
          simp (disch := omega) only [leb_iff, ltb_iff, eqb_iff, pu_rmP, pu_dvP, pu_bs, pu_b0, pu_b1, pu_c0, pu_c1, pu_lt, pu_rdN, pu_wrN, hs_at, hs_cell, hs_slot, if_true, if_false, true_and, and_true, pu_rd, pu_wr, Int.reduceToNat, Int.toNat_natCast, decide_eq_true_eq, Int.add_zero, Bool.false_eq_true, if_pos, if_neg]
  have := key N 0 (by omega) (by omega) (fun g hg => by omega)
  exact this
theorem m_unres_L (hN : 2000 < N) (ok : OkB b) (hb : h 84 = b) : ∃ r h', Md_unresolved_L32 N (cyN b) N 0 h = some (r, h') ∧ Fq h h' ∧ Lst (fun y => ∃ g : Nat, (g : Int) < b 42 ∧ (rsS b (sy b y)).2.1 g = 4) (cyN b) r := by
  have hm := ok.many
  have hC := cyN_bd ok
  have := lp_inv (fun n k (a : Hp) => Md_unresolved_L32 N (cyN b) n k a) (fun k a => (∀ y, y < k → ¬ ∃ g : Nat, (g : Int) < b 42 ∧ (rsS b (sy b y)).2.1 g = 4) ∧ Fq h a) (fun r => Lst (fun y => ∃ g : Nat, (g : Int) < b 42 ∧ (rsS b (sy b y)).2.1 g = 4) (cyN b) r.1 ∧ Fq h r.2) (cyN b)
    (fun n k x hk hp => by
      obtain ⟨k1, k2⟩ := hp
      obtain ⟨x', e1, e2, e3, e4⟩ := m_resY (h := x) (N := N) (by omega) ok (k2.bk hb) (y := k) (by omega)
      rcases m_unres_in (h := x') (N := N) (by omega) ok e4 (fun f hf => rsS_fa ok (sy b k) hf) (k : Int) (fun v3_11 => Md_unresolved_L32 N (cyN b) n ((k : Int) + 1) x') with ⟨c, ce⟩ | ⟨c, ce⟩
      · refine Or.inr ⟨((k : Int), x'), ?_, Or.inr ⟨k, hk, rfl, c, k1⟩, k2.trans e2⟩
        (try dsimp only)
        rw [Md_unresolved_L32, e1, pu_bs, ce]
        simp (disch := omega) only [leb_iff, ltb_iff, eqb_iff, pu_rmP, pu_dvP, pu_bs, pu_b0, pu_b1, pu_c0, pu_c1, pu_lt, pu_rdN, pu_wrN, hs_at, hs_cell, hs_slot, if_true, if_false, true_and, and_true, pu_rd, pu_wr, Int.reduceToNat, Int.toNat_natCast, decide_eq_true_eq, Int.add_zero, Bool.false_eq_true, if_pos, if_neg]
      · refine Or.inl ⟨x', ⟨fun y hy => ?_, k2.trans e2⟩, ?_⟩
        · by_cases e : y = k
          · subst e; exact c
          · exact k1 y (by omega)
        · (try dsimp only)
          rw [Md_unresolved_L32, e1, pu_bs, ce]
          simp (disch := omega) only [leb_iff, ltb_iff, eqb_iff, pu_rmP, pu_dvP, pu_bs, pu_b0, pu_b1, pu_c0, pu_c1, pu_lt, pu_rdN, pu_wrN, hs_at, hs_cell, hs_slot, if_true, if_false, true_and, and_true, pu_rd, pu_wr, Int.reduceToNat, Int.toNat_natCast, decide_eq_true_eq, Int.add_zero, Bool.false_eq_true, if_pos, if_neg])
    (fun n x hp => by
      refine ⟨(-1, x), ?_, Or.inl ⟨rfl, hp.1⟩, hp.2⟩
      (try dsimp only)
      rw [Md_unresolved_L32]
      simp (disch := omega) only [leb_iff, ltb_iff, eqb_iff, pu_rmP, pu_dvP, pu_bs, pu_b0, pu_b1, pu_c0, pu_c1, pu_lt, pu_rdN, pu_wrN, hs_at, hs_cell, hs_slot, if_true, if_false, true_and, and_true, pu_rd, pu_wr, Int.reduceToNat, Int.toNat_natCast, decide_eq_true_eq, Int.add_zero, Bool.false_eq_true, if_pos, if_neg]) N 0 h (by omega) (by omega) ⟨fun y hy => by omega, Fq.refl h⟩
  obtain ⟨⟨r, x⟩, e, e1, e2⟩ := this
  exact ⟨r, x, e, e2, e1⟩
theorem m_paschs_L (hN : 2000 < N) (ok : OkB b) (hb : h 84 = b) {d : Int} (hd : -2147483648 ≤ d ∧ d < 2147483648) : Md_paschs_L35 N h d (cyN b) N 0 0 = some (cnt (fun y => decide (spc b (sy b y) = d)) (cyN b), h) := by
  have hC := cyN_bd ok
  have hfs := ok.fst
  have hsp := ok.spn
  have hwk := ok.week
  exact lp_fold (fun n k a => Md_paschs_L35 N h d (cyN b) n a k) (cnt (fun y => decide (spc b (sy b y) = d))) (cnt (fun y => decide (spc b (sy b y) = d)) (cyN b), h) (cyN b)
    (fun n k hk => by
      have hp := m_paschOf (h := h) (N := N) (by omega) (by rw [hb]; exact ok) (y := (k : Int)) (by omega) (by omega)
      rw [hb] at hp
      have sp := sy_spec ok k
      have hpl := psc_le ok (y := (k : Int)) (by omega)
      (try dsimp only)
      rw [Md_paschs_L35, hp, pu_bs, cnt_succ, sp.2.2.2]
      by_cases c : psc b k = d
      · simp (disch := omega) only [leb_iff, ltb_iff, eqb_iff, pu_rmP, pu_dvP, pu_bs, pu_b0, pu_b1, pu_c0, pu_c1, pu_lt, pu_rdN, pu_wrN, hs_at, hs_cell, hs_slot, if_true, if_false, true_and, and_true, pu_rd, pu_wr, Int.reduceToNat, Int.toNat_natCast, decide_eq_true_eq, Int.add_zero, Bool.false_eq_true, if_pos, if_neg]
      · simp (disch := omega) only [leb_iff, ltb_iff, eqb_iff, pu_rmP, pu_dvP, pu_bs, pu_b0, pu_b1, pu_c0, pu_c1, pu_lt, pu_rdN, pu_wrN, hs_at, hs_cell, hs_slot, if_true, if_false, true_and, and_true, pu_rd, pu_wr, Int.reduceToNat, Int.toNat_natCast, decide_eq_true_eq, Int.add_zero, Bool.false_eq_true, if_pos, if_neg])
    (fun n => by
      (try dsimp only)
      rw [Md_paschs_L35]
      simp (disch := omega) only [leb_iff, ltb_iff, eqb_iff, pu_rmP, pu_dvP, pu_bs, pu_b0, pu_b1, pu_c0, pu_c1, pu_lt, pu_rdN, pu_wrN, hs_at, hs_cell, hs_slot, if_true, if_false, true_and, and_true, pu_rd, pu_wr, Int.reduceToNat, Int.toNat_natCast, decide_eq_true_eq, Int.add_zero, Bool.false_eq_true, if_pos, if_neg]) N 0 (by omega) (by omega)
theorem yq_eq (ok : OkB b) {f o : Nat} (hf : (f : Int) < b 42) (ho : (o : Int) < b 42) (hne : f ≠ o) (s : Nat) : yqS b f o s = decide ((rsS b s).2.1 o = 0 ∧ (rsS b s).2.1 f ≠ 0 ∧ dyS b s o = dyS b s f) := by
  unfold yqS
  have j := res_J ok (sl s) (spc b s)
  by_cases c1 : (rsS b s).2.1 o = 0
  · by_cases c2 : dyS b s o = dyS b s f
    · have c3 : (rsS b s).2.1 f ≠ 0 := fun c3 => by
        have j1 := (j.1 o ho c1).2
        have j2 := (j.1 f hf c3).2
        unfold dyS at c2
        rw [c2, j2] at j1
        omega
      simp [c1, c2, c3]
    · simp [c2]
  · simp [c1]
theorem m_yields0 (hN : 2000 < N) (ok : OkB b) (hb : h 84 = b) {f o : Nat} (hf : (f : Int) < b 42) (ho : (o : Int) < b 42) (hne : f ≠ o) : ∃ h', M_Md_yields0 N h f o = some (yldC b f o, h') ∧ Fq h h' := by
  have hm := ok.many
  have hC := cyN_bd ok
  unfold M_Md_yields0
  rw [m_cycle0 hN ok hb, pu_bs]
  have := lp_inv (fun n k (a : Int × Hp) => Md_yields0_L11 N f o (cyN b) n a.1 k a.2) (fun k a => a.1 = cnt (fun y => yqS b f o (sy b y)) k ∧ Fq h a.2) (fun r => r.1 = cnt (fun y => yqS b f o (sy b y)) (cyN b) ∧ Fq h r.2) (cyN b)
    (fun n k a hk hp => by
      obtain ⟨a, x⟩ := a
      obtain ⟨k1, k2⟩ := hp
      dsimp only at k1 k2
      obtain ⟨x', e1, e2, e3, e4⟩ := m_resY (h := x) (N := N) (by omega) ok (k2.bk hb) (y := k) (by omega)
      have h1 := (e4.ro f hf).2
      have h2 := rsS_fa ok (sy b k) hf
      have h3 := (e4.ro o ho).2
      have h4 := rsS_fa ok (sy b k) ho
      have h5 : x' 89 f = dyS b (sy b k) f := e4.my.dys f hf
      have h6 : x' 89 o = dyS b (sy b k) o := e4.my.dys o ho
      have h7 := dyS_bd ok (sy b k) f
      have h8 := dyS_bd ok (sy b k) o
      refine Or.inl ⟨(cnt (fun y => yqS b f o (sy b y)) (k + 1), x'), ⟨rfl, k2.trans e2⟩, ?_⟩
      dsimp only
      rw [Md_yields0_L11, e1, pu_bs, cnt_succ, k1, yq_eq ok hf ho hne (sy b k)]
      by_cases c : (rsS b (sy b k)).2.1 o = 0
      · by_cases c2 : (rsS b (sy b k)).2.1 f = 0
        · simp (disch := omega) only [leb_iff, ltb_iff, eqb_iff, pu_rmP, pu_dvP, pu_bs, pu_b0, pu_b1, pu_c0, pu_c1, pu_lt, pu_rdN, pu_wrN, hs_at, hs_cell, hs_slot, if_true, if_false, true_and, and_true, pu_rd, pu_wr, Int.reduceToNat, Int.toNat_natCast, decide_eq_true_eq, Int.add_zero, Bool.false_eq_true, if_pos, if_neg, h1, h3, c2, ne_eq, not_true_eq_false, false_and, and_false]
        · by_cases c3 : dyS b (sy b k) o = dyS b (sy b k) f
          · simp (disch := omega) only [leb_iff, ltb_iff, eqb_iff, pu_rmP, pu_dvP, pu_bs, pu_b0, pu_b1, pu_c0, pu_c1, pu_lt, pu_rdN, pu_wrN, hs_at, hs_cell, hs_slot, if_true, if_false, true_and, and_true, pu_rd, pu_wr, Int.reduceToNat, Int.toNat_natCast, decide_eq_true_eq, Int.add_zero, Bool.false_eq_true, if_pos, if_neg, h1, h3, h5, h6, ne_eq, c2, not_false_eq_true]
          · simp (disch := omega) only [leb_iff, ltb_iff, eqb_iff, pu_rmP, pu_dvP, pu_bs, pu_b0, pu_b1, pu_c0, pu_c1, pu_lt, pu_rdN, pu_wrN, hs_at, hs_cell, hs_slot, if_true, if_false, true_and, and_true, pu_rd, pu_wr, Int.reduceToNat, Int.toNat_natCast, decide_eq_true_eq, Int.add_zero, Bool.false_eq_true, if_pos, if_neg, h1, h3, h5, h6, c3, and_false]
      · simp (disch := omega) only [leb_iff, ltb_iff, eqb_iff, pu_rmP, pu_dvP, pu_bs, pu_b0, pu_b1, pu_c0, pu_c1, pu_lt, pu_rdN, pu_wrN, hs_at, hs_cell, hs_slot, if_true, if_false, true_and, and_true, pu_rd, pu_wr, Int.reduceToNat, Int.toNat_natCast, decide_eq_true_eq, Int.add_zero, Bool.false_eq_true, if_pos, if_neg, h1, h3, c, false_and])
    (fun n a hp => by
      obtain ⟨a, x⟩ := a
      refine ⟨(a, x), ?_, hp⟩
      dsimp only
      rw [Md_yields0_L11]
      simp (disch := omega) only [leb_iff, ltb_iff, eqb_iff, pu_rmP, pu_dvP, pu_bs, pu_b0, pu_b1, pu_c0, pu_c1, pu_lt, pu_rdN, pu_wrN, hs_at, hs_cell, hs_slot, if_true, if_false, true_and, and_true, pu_rd, pu_wr, Int.reduceToNat, Int.toNat_natCast, decide_eq_true_eq, Int.add_zero, Bool.false_eq_true, if_pos, if_neg]) N 0 (0, h) (by omega) (by omega) ⟨rfl, Fq.refl h⟩
  obtain ⟨⟨r, x⟩, e, e1, e2⟩ := this
  dsimp only at e1
  refine ⟨x, ?_, e2⟩
  unfold yldC
  rw [← e1]; exact e
theorem m_keptYears (hN : 2000 < N) (ok : OkB b) (hb : h 84 = b) {f : Nat} (hf : (f : Int) < b 42) : ∃ h', M_Md_keptYears N h f = some (kpC b f, h') ∧ Fq h h' := by
  have hm := ok.many
  have hC := cyN_bd ok
  unfold M_Md_keptYears
  rw [m_cycle0 hN ok hb, pu_bs]
  have := lp_inv (fun n k (a : Int × Hp) => Md_keptYears_L10 N f (cyN b) n a.1 k a.2) (fun k a => a.1 = cnt (fun y => decide ((rsS b (sy b y)).2.1 f = 0)) k ∧ Fq h a.2) (fun r => r.1 = cnt (fun y => decide ((rsS b (sy b y)).2.1 f = 0)) (cyN b) ∧ Fq h r.2) (cyN b)
    (fun n k a hk hp => by
      obtain ⟨a, x⟩ := a
      obtain ⟨k1, k2⟩ := hp
      dsimp only at k1 k2
      obtain ⟨x', e1, e2, e3, e4⟩ := m_resY (h := x) (N := N) (by omega) ok (k2.bk hb) (y := k) (by omega)
      have h1 := (e4.ro f hf).2
      have h2 := rsS_fa ok (sy b k) hf
      refine Or.inl ⟨(cnt (fun y => decide ((rsS b (sy b y)).2.1 f = 0)) (k + 1), x'), ⟨rfl, k2.trans e2⟩, ?_⟩
      dsimp only
      rw [Md_keptYears_L10, e1, pu_bs, cnt_succ, k1]
      by_cases c : (rsS b (sy b k)).2.1 f = 0
      · simp (disch := omega) only [leb_iff, ltb_iff, eqb_iff, pu_rmP, pu_dvP, pu_bs, pu_b0, pu_b1, pu_c0, pu_c1, pu_lt, pu_rdN, pu_wrN, hs_at, hs_cell, hs_slot, if_true, if_false, true_and, and_true, pu_rd, pu_wr, Int.reduceToNat, Int.toNat_natCast, decide_eq_true_eq, Int.add_zero, Bool.false_eq_true, if_pos, if_neg, h1]
      · simp (disch := omega) only [leb_iff, ltb_iff, eqb_iff, pu_rmP, pu_dvP, pu_bs, pu_b0, pu_b1, pu_c0, pu_c1, pu_lt, pu_rdN, pu_wrN, hs_at, hs_cell, hs_slot, if_true, if_false, true_and, and_true, pu_rd, pu_wr, Int.reduceToNat, Int.toNat_natCast, decide_eq_true_eq, Int.add_zero, Bool.false_eq_true, if_pos, if_neg, h1])
    (fun n a hp => by
      obtain ⟨a, x⟩ := a
      refine ⟨(a, x), ?_, hp⟩
      dsimp only
      rw [Md_keptYears_L10]
      simp (disch := omega) only [leb_iff, ltb_iff, eqb_iff, pu_rmP, pu_dvP, pu_bs, pu_b0, pu_b1, pu_c0, pu_c1, pu_lt, pu_rdN, pu_wrN, hs_at, hs_cell, hs_slot, if_true, if_false, true_and, and_true, pu_rd, pu_wr, Int.reduceToNat, Int.toNat_natCast, decide_eq_true_eq, Int.add_zero, Bool.false_eq_true, if_pos, if_neg]) N 0 (0, h) (by omega) (by omega) ⟨rfl, Fq.refl h⟩
  obtain ⟨⟨r, x⟩, e, e1, e2⟩ := this
  dsimp only at e1
  refine ⟨x, ?_, e2⟩
  unfold kpC
  rw [← e1]; exact e
theorem m_rival_L (hN : 2000 < N) (ok : OkB b) (hb : h 84 = b) {f : Nat} (hf : (f : Int) < b 42) : ∃ h', Md_rival_L33 N f N (-1) 0 0 h = some ((rvf b f (b 42).toNat).1, h') ∧ Fq h h' := by
  have hm := ok.many
  have := lp_inv (fun n k (a : Int × Int × Hp) => Md_rival_L33 N f n a.1 a.2.1 k a.2.2) (fun k a => a.1 = (rvf b f k).1 ∧ a.2.1 = (rvf b f k).2 ∧ Fq h a.2.2) (fun r => r.1 = (rvf b f (b 42).toNat).1 ∧ Fq h r.2) (b 42).toNat
    (fun n k a hk hp => by
      obtain ⟨a, a2, x⟩ := a
      obtain ⟨k1, k2, k3⟩ := hp
      dsimp only at k1 k2 k3
      have h1 := rvf_bd ok f k
      have h2 := yldC_bd ok f k
      have x84 := k3.bk hb
      by_cases c1 : k = f
      · refine Or.inl ⟨((rvf b f (k + 1)).1, (rvf b f (k + 1)).2, x), ⟨rfl, rfl, k3⟩, ?_⟩
        dsimp only
        rw [Md_rival_L33, pu_rd (by omega) (by omega), pu_bs, show Int.toNat 42 = 42 from rfl, x84, rvf, k1, k2]
        subst c1
        simp (disch := omega) only [leb_iff, ltb_iff, eqb_iff, pu_rmP, pu_dvP, pu_bs, pu_b0, pu_b1, pu_c0, pu_c1, pu_lt, pu_rdN, pu_wrN, hs_at, hs_cell, hs_slot, if_true, if_false, true_and, and_true, pu_rd, pu_wr, Int.reduceToNat, Int.toNat_natCast, decide_eq_true_eq, Int.add_zero, Bool.false_eq_true, if_pos, if_neg]
      · obtain ⟨x', e1, e2⟩ := m_yields0 (h := x) hN ok x84 hf (o := k) (by omega) (fun e => c1 e.symm)
        refine Or.inl ⟨((rvf b f (k + 1)).1, (rvf b f (k + 1)).2, x'), ⟨rfl, rfl, k3.trans e2⟩, ?_⟩
        dsimp only
        rw [Md_rival_L33, pu_rd (by omega) (by omega), pu_bs, show Int.toNat 42 = 42 from rfl, x84, rvf, k1, k2, e1, pu_bs]
        by_cases c2 : (rvf b f k).2 < yldC b f k
        · simp (disch := omega) only [leb_iff, ltb_iff, eqb_iff, pu_rmP, pu_dvP, pu_bs, pu_b0, pu_b1, pu_c0, pu_c1, pu_lt, pu_rdN, pu_wrN, hs_at, hs_cell, hs_slot, if_true, if_false, true_and, and_true, pu_rd, pu_wr, Int.reduceToNat, Int.toNat_natCast, decide_eq_true_eq, Int.add_zero, Bool.false_eq_true, if_pos, if_neg]
        · simp (disch := omega) only [leb_iff, ltb_iff, eqb_iff, pu_rmP, pu_dvP, pu_bs, pu_b0, pu_b1, pu_c0, pu_c1, pu_lt, pu_rdN, pu_wrN, hs_at, hs_cell, hs_slot, if_true, if_false, true_and, and_true, pu_rd, pu_wr, Int.reduceToNat, Int.toNat_natCast, decide_eq_true_eq, Int.add_zero, Bool.false_eq_true, if_pos, if_neg])
    (fun n a hp => by
      obtain ⟨a, a2, x⟩ := a
      obtain ⟨k1, k2, k3⟩ := hp
      have x84 := k3.bk hb
      refine ⟨(a, x), ?_, k1, k3⟩
      dsimp only at x84 ⊢
      rw [Md_rival_L33, pu_rd (by omega) (by omega), pu_bs, show Int.toNat 42 = 42 from rfl, x84]
      simp (disch := omega) only [leb_iff, ltb_iff, eqb_iff, pu_rmP, pu_dvP, pu_bs, pu_b0, pu_b1, pu_c0, pu_c1, pu_lt, pu_rdN, pu_wrN, hs_at, hs_cell, hs_slot, if_true, if_false, true_and, and_true, pu_rd, pu_wr, Int.reduceToNat, Int.toNat_natCast, decide_eq_true_eq, Int.add_zero, Bool.false_eq_true, if_pos, if_neg]) N 0 (-1, 0, h) (by omega) (by omega) ⟨rfl, rfl, Fq.refl h⟩
  obtain ⟨⟨r, x⟩, e, e1, e2⟩ := this
  dsimp only at e1
  exact ⟨x, by rw [← e1]; exact e, e2⟩
theorem m_leader_L (hN : 2000 < N) (ok : OkB b) (hb : h 84 = b) : ∃ h', Md_leader_L31 N N (-1) (-1) 0 h = some ((ldf b (b 42).toNat).1, h') ∧ Fq h h' := by
  have hm := ok.many
  have := lp_inv (fun n k (a : Int × Int × Hp) => Md_leader_L31 N n a.1 a.2.1 k a.2.2) (fun k a => a.1 = (ldf b k).1 ∧ a.2.1 = (ldf b k).2 ∧ Fq h a.2.2) (fun r => r.1 = (ldf b (b 42).toNat).1 ∧ Fq h r.2) (b 42).toNat
    (fun n k a hk hp => by
      obtain ⟨a, a2, x⟩ := a
      obtain ⟨k1, k2, k3⟩ := hp
      dsimp only at k1 k2 k3
      have h1 := ldf_bd ok k
      have h2 := kpC_bd ok k
      have x84 := k3.bk hb
      obtain ⟨x', e1, e2⟩ := m_keptYears (h := x) hN ok x84 (f := k) (by omega)
      refine Or.inl ⟨((ldf b (k + 1)).1, (ldf b (k + 1)).2, x'), ⟨rfl, rfl, k3.trans e2⟩, ?_⟩
      dsimp only
      rw [Md_leader_L31, pu_rd (by omega) (by omega), pu_bs, show Int.toNat 42 = 42 from rfl, x84, ldf, k1, k2, e1, pu_bs]
      by_cases c2 : (ldf b k).2 < kpC b k
      · simp (disch := omega) only [leb_iff, ltb_iff, eqb_iff, pu_rmP, pu_dvP, pu_bs, pu_b0, pu_b1, pu_c0, pu_c1, pu_lt, pu_rdN, pu_wrN, hs_at, hs_cell, hs_slot, if_true, if_false, true_and, and_true, pu_rd, pu_wr, Int.reduceToNat, Int.toNat_natCast, decide_eq_true_eq, Int.add_zero, Bool.false_eq_true, if_pos, if_neg]
      · simp (disch := omega) only [leb_iff, ltb_iff, eqb_iff, pu_rmP, pu_dvP, pu_bs, pu_b0, pu_b1, pu_c0, pu_c1, pu_lt, pu_rdN, pu_wrN, hs_at, hs_cell, hs_slot, if_true, if_false, true_and, and_true, pu_rd, pu_wr, Int.reduceToNat, Int.toNat_natCast, decide_eq_true_eq, Int.add_zero, Bool.false_eq_true, if_pos, if_neg])
    (fun n a hp => by
      obtain ⟨a, a2, x⟩ := a
      obtain ⟨k1, k2, k3⟩ := hp
      have x84 := k3.bk hb
      refine ⟨(a, x), ?_, k1, k3⟩
      dsimp only at x84 ⊢
      rw [Md_leader_L31, pu_rd (by omega) (by omega), pu_bs, show Int.toNat 42 = 42 from rfl, x84]
      simp (disch := omega) only [leb_iff, ltb_iff, eqb_iff, pu_rmP, pu_dvP, pu_bs, pu_b0, pu_b1, pu_c0, pu_c1, pu_lt, pu_rdN, pu_wrN, hs_at, hs_cell, hs_slot, if_true, if_false, true_and, and_true, pu_rd, pu_wr, Int.reduceToNat, Int.toNat_natCast, decide_eq_true_eq, Int.add_zero, Bool.false_eq_true, if_pos, if_neg]) N 0 (-1, -1, h) (by omega) (by omega) ⟨rfl, rfl, Fq.refl h⟩
  obtain ⟨⟨r, x⟩, e, e1, e2⟩ := this
  dsimp only at e1
  exact ⟨x, by rw [← e1]; exact e, e2⟩
theorem m_lull_L (hN : 2000 < N) (ok : OkB b) (hb : h 84 = b) {t : Int} (ht : 0 ≤ t ∧ t ≤ 100) : ∃ r h', Md_lull_L46 N t (cyN b) N 0 h = some (r, h') ∧ Fq h h' ∧ Lst (fun y => t ≤ (rnf (plf b (sl (sy b y)) (spc b (sy b y))) (yd b + sl (sy b y)).toNat).1) (cyN b) r := by
  have hC := cyN_bd ok
  have hyd := yd_le ok
  have := lp_inv (fun n k (a : Hp) => Md_lull_L46 N t (cyN b) n k a) (fun k a => (∀ y, y < k → ¬ t ≤ (rnf (plf b (sl (sy b y)) (spc b (sy b y))) (yd b + sl (sy b y)).toNat).1) ∧ Fq h a) (fun r => Lst (fun y => t ≤ (rnf (plf b (sl (sy b y)) (spc b (sy b y))) (yd b + sl (sy b y)).toNat).1) (cyN b) r.1 ∧ Fq h r.2) (cyN b)
    (fun n k x hk hp => by
      obtain ⟨k1, k2⟩ := hp
      obtain ⟨x', e1, e2, e3, e4⟩ := m_resY (h := x) (N := N) (by omega) ok (k2.bk hb) (y := k) (by omega)
      have yr := (Yr_s ok (sy_ofn ok k)).2
      obtain ⟨x2, f1, f2⟩ := m_run (h := x') (N := N) (by omega) ok yr e4 (t := 0) (Or.inl rfl)
      rw [if_pos rfl] at f1
      have hb2 := rnf_bd (plf b (sl (sy b k)) (spc b (sy b k))) (yd b + sl (sy b k)).toNat
      have hy := yr.bd ok
      by_cases c : t ≤ (rnf (plf b (sl (sy b k)) (spc b (sy b k))) (yd b + sl (sy b k)).toNat).1
      · refine Or.inr ⟨((k : Int), x2), ?_, Or.inr ⟨k, hk, rfl, c, k1⟩, k2.trans (e2.trans f2.fq)⟩
        (try dsimp only)
        rw [Md_lull_L46, e1, pu_bs, f1, pu_bs]
        simp (disch := omega) only [leb_iff, ltb_iff, eqb_iff, pu_rmP, pu_dvP, pu_bs, pu_b0, pu_b1, pu_c0, pu_c1, pu_lt, pu_rdN, pu_wrN, hs_at, hs_cell, hs_slot, if_true, if_false, true_and, and_true, pu_rd, pu_wr, Int.reduceToNat, Int.toNat_natCast, decide_eq_true_eq, Int.add_zero, Bool.false_eq_true, if_pos, if_neg]
      · refine Or.inl ⟨x2, ⟨fun y hy => ?_, k2.trans (e2.trans f2.fq)⟩, ?_⟩
        · by_cases e : y = k
          · subst e; exact c
          · exact k1 y (by omega)
        · (try dsimp only)
          rw [Md_lull_L46, e1, pu_bs, f1, pu_bs]
          simp (disch := omega) only [leb_iff, ltb_iff, eqb_iff, pu_rmP, pu_dvP, pu_bs, pu_b0, pu_b1, pu_c0, pu_c1, pu_lt, pu_rdN, pu_wrN, hs_at, hs_cell, hs_slot, if_true, if_false, true_and, and_true, pu_rd, pu_wr, Int.reduceToNat, Int.toNat_natCast, decide_eq_true_eq, Int.add_zero, Bool.false_eq_true, if_pos, if_neg])
    (fun n x hp => by
      refine ⟨(-1, x), ?_, Or.inl ⟨rfl, hp.1⟩, hp.2⟩
      (try dsimp only)
      rw [Md_lull_L46]
      simp (disch := omega) only [leb_iff, ltb_iff, eqb_iff, pu_rmP, pu_dvP, pu_bs, pu_b0, pu_b1, pu_c0, pu_c1, pu_lt, pu_rdN, pu_wrN, hs_at, hs_cell, hs_slot, if_true, if_false, true_and, and_true, pu_rd, pu_wr, Int.reduceToNat, Int.toNat_natCast, decide_eq_true_eq, Int.add_zero, Bool.false_eq_true, if_pos, if_neg]) N 0 h (by omega) (by omega) ⟨fun y hy => by omega, Fq.refl h⟩
  obtain ⟨⟨r, x⟩, e, e1, e2⟩ := this
  exact ⟨r, x, e, e2, e1⟩
end Mc
