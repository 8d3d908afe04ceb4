def Fq (h h' : Hp) : Prop := (∀ c, c ≠ 83 → (c < 89 ∨ 94 < c) → h' c = h c) ∧ (∀ j, (j < 13 ∨ 15 < j) → (j < 22 ∨ 24 < j) → h' 83 j = h 83 j)
theorem Fq.refl (h : Hp) : Fq h h := ⟨fun _ _ _ => rfl, fun _ _ _ => rfl⟩
theorem Fq.trans {h h' h'' : Hp} (a : Fq h h') (c : Fq h' h'') : Fq h h'' := ⟨fun x hx h2 => by rw [c.1 x hx h2, a.1 x hx h2], fun j h1 h2 => by rw [c.2 j h1 h2, a.2 j h1 h2]⟩
theorem Fb.fq {h h' : Hp} (a : Fb h h') : Fq h h' := ⟨fun c hc _ => a.1 c hc, fun j _ h2 => a.2 j (by omega) (by omega) (by omega)⟩
section Mk
variable {b : Nat → Int} {h : Hp} {N : Nat} {l p : Int}
theorem keep_iff (ok : OkB b) {f : Nat} (hf : (f : Int) < b 42) (d : Int) : (bse b l p d / 160 ≤ fq b f 0) ↔ bse b l p d < cl b f := by
  have hm := ok.many
  have h1 := bse_bd ok l p d
  have h2 := bse_mod ok l p d
  have h3 := cl_bd (ok.fea f hf) (by omega)
  omega
def MK (b : Nat → Int) (l p : Int) (s : St) (h : Hp) : Prop := (MY b l p h) ∧ (∀ d : Nat, (d : Int) < yd b + l → h 92 d = s.2.2 d)
theorem MK.my {b : Nat → Int} {l p : Int} {s : St} {h : Hp} (q_ : MK b l p s h) : MY b l p h := q_.1
theorem MK.th {b : Nat → Int} {l p : Int} {s : St} {h : Hp} (q_ : MK b l p s h) : ∀ d : Nat, (d : Int) < yd b + l → h 92 d = s.2.2 d := q_.2
theorem MK.mk {b : Nat → Int} {l p : Int} {s : St} {h : Hp} (my_ : MY b l p h) (th_ : ∀ d : Nat, (d : Int) < yd b + l → h 92 d = s.2.2 d) : MK b l p s h := ⟨my_, th_⟩
def Fk (h h' : Hp) : Prop := (∀ c, c ≠ 83 → c ≠ 90 → c ≠ 91 → c ≠ 92 → h' c = h c) ∧ (∀ j, j ≠ 22 → j ≠ 23 → j ≠ 24 → h' 83 j = h 83 j)
theorem Fk.my {h h' : Hp} (a : Fk h h') (m : MY b l p h) : MY b l p h' :=
  MY.mk (by rw [a.1 84 (by omega) (by omega) (by omega) (by omega)]; exact m.bk) (by rw [a.2 13 (by omega) (by omega) (by omega)]; exact m.days) (by rw [a.2 15 (by omega) (by omega) (by omega)]; exact m.pasch) (by rw [a.2 14 (by omega) (by omega) (by omega)]; exact m.wd0) (by rw [a.2 14 (by omega) (by omega) (by omega)]; exact m.wd) (by rw [a.1 89 (by omega) (by omega) (by omega) (by omega)]; exact m.dys)
theorem Fk.trans {h h' h'' : Hp} (a : Fk h h') (c : Fk h' h'') : Fk h h'' := ⟨fun x h1 h2 h3 h4 => by rw [c.1 x h1 h2 h3 h4, a.1 x h1 h2 h3 h4], fun j h1 h2 h3 => by rw [c.2 j h1 h2 h3, a.2 j h1 h2 h3]⟩
theorem Fb.fk {h h' : Hp} (a : Fb h h') : Fk h h' := ⟨fun c h1 _ _ _ => a.1 c h1, a.2⟩
theorem Fk_hs {h : Hp} {c k : Nat} {v : Int} (hc : c = 90 ∨ c = 91 ∨ c = 92) : Fk h (hs h c k v) := ⟨fun x h1 h2 h3 h4 => hs_cell (by omega), fun j h1 h2 h3 => by rw [hs_cell (by omega)]⟩
theorem m_keeps (hN : 20 < N) (ok : OkB b) (yr : Yr b l p) {s : St} (ht : ThOk b s) (m : MK b l p s h) {f : Nat} (hf : (f : Int) < b 42) : ∃ h', M_Md_keeps N h f = some h' ∧ Fk h h' ∧ MK b l p (kp b l p f s) h' ∧ (∃ v w : Int, h' 90 = pu_up (h 90) f v ∧ h' 91 = pu_up (h 91) f w ∧ (kp b l p f s).1 = pu_up s.1 f v ∧ (kp b l p f s).2.1 = pu_up s.2.1 f w) := by
  have hm := ok.many
  have hy := yr.bd ok
  have hdb := dyf_bd (b := b) l p f
  have ho := (ok.fea f hf).1
  have hdys := m.my.dys f hf
  unfold M_Md_keeps
  by_cases c1 : dyf b l p f = -1
  · have fk : Fk h (hs (hs h 90 f (-1)) 91 f 5) := (Fk_hs (by omega)).trans (Fk_hs (by omega))
    refine ⟨hs (hs h 90 f (-1)) 91 f 5, ?_, fk, ?_, -1, 5, ?_, ?_, ?_⟩
    · simp (disch := omega) only [leb_iff, ltb_iff, eqb_iff, pu_rmP, pu_dvP, pu_bs, pu_b0, pu_b1, pu_c0, pu_c1, pu_lt, pu_rdN, pu_wrN, hs_at, hs_cell, hs_slot, if_true, if_false, true_and, and_true, pu_rd, pu_wr, Int.reduceToNat, Int.toNat_natCast, decide_eq_true_eq, Int.add_zero, Bool.false_eq_true, if_pos, if_neg, hdys]
    · refine MK.mk (fk.my m.my) (fun d hd => ?_)
      rw [hs_cell (by omega), hs_cell (by omega)]; unfold kp; rw [if_pos c1]; exact m.th d hd
    · rw [hs_cell (by omega), hs_up]
    · rw [hs_up, hs_cell (by omega)]
    · unfold kp; rw [if_pos c1]; exact ⟨rfl, rfl⟩
  · have hdn : dyf b l p f = ((dyf b l p f).toNat : Int) := by omega
    have hth := m.th (dyf b l p f).toNat (by omega)
    have htd := ht (dyf b l p f).toNat
    have fk : Fk h (hs (hs h 90 f (-1)) 91 f (-1)) := (Fk_hs (by omega)).trans (Fk_hs (by omega))
    by_cases c2 : s.2.2 (dyf b l p f).toNat = -1
    · obtain ⟨g, e1, e2, e3⟩ := m_laysBase (h := hs (hs h 90 f (-1)) 91 f (-1)) (N := N) hN ok yr (fk.my m.my) (d := dyf b l p f) (by omega)
      obtain ⟨d1, d2, d3, d4, d5⟩ := Enc_dec ok e3
      have hki := keep_iff (l := l) (p := p) ok hf (dyf b l p f)
      have g84 : g 84 = b := by rw [e2.1 84 (by omega), hs_cell (by omega), hs_cell (by omega)]; exact m.my.bk
      have g89 : g 89 f = dyf b l p f := by rw [e2.1 89 (by omega), hs_cell (by omega), hs_cell (by omega)]; exact hdys
      have hof := m_of00 (h := g) (f := f) (by omega)
      rw [g84] at hof
      by_cases c3 : bse b l p (dyf b l p f) < cl b f
      · refine ⟨hs (hs (hs g 91 f 0) 90 f (dyf b l p f)) 92 (dyf b l p f).toNat f, ?_, ((fk.trans e2.fk).trans (Fk_hs (by omega))).trans ((Fk_hs (by omega)).trans (Fk_hs (by omega))), ?_, dyf b l p f, 0, ?_, ?_, ?_⟩
        · have c3' := hki.mpr c3
          simp (disch := omega) only [leb_iff, ltb_iff, eqb_iff, pu_rmP, pu_dvP, pu_bs, pu_b0, pu_b1, pu_c0, pu_c1, pu_lt, pu_rdN, pu_wrN, hs_at, hs_cell, hs_slot, if_true, if_false, true_and, and_true, pu_rd, pu_wr, Int.reduceToNat, Int.toNat_natCast, decide_eq_true_eq, Int.add_zero, Bool.false_eq_true, if_pos, if_neg, hdys, hth, e1, hof, d1, g89]
        · refine MK.mk ((((fk.trans e2.fk).trans (Fk_hs (by omega))).trans ((Fk_hs (by omega)).trans (Fk_hs (by omega)))).my m.my) (fun d hd => ?_)
          unfold kp; rw [if_neg c1, if_pos ⟨c3, c2⟩, hs_up, hs_cell (by omega), hs_cell (by omega), e2.1 92 (by omega), hs_cell (by omega), hs_cell (by omega)]
          dsimp only
          unfold pu_up
          split
          · rfl
          · exact m.th d hd
        · rw [hs_cell (by omega), hs_up, hs_cell (by omega), e2.1 90 (by omega), hs_cell (by omega), hs_up, pu_up_up]
        · rw [hs_cell (by omega), hs_cell (by omega), hs_up, e2.1 91 (by omega), hs_up, hs_cell (by omega), pu_up_up]
        · unfold kp; rw [if_neg c1, if_pos ⟨c3, c2⟩]; exact ⟨rfl, rfl⟩
      · refine ⟨g, ?_, fk.trans e2.fk, ?_, -1, -1, ?_, ?_, ?_⟩
        · have c3' : ¬ bse b l p (dyf b l p f) / 160 ≤ fq b f 0 := fun x => c3 (hki.mp x)
          simp (disch := omega) only [leb_iff, ltb_iff, eqb_iff, pu_rmP, pu_dvP, pu_bs, pu_b0, pu_b1, pu_c0, pu_c1, pu_lt, pu_rdN, pu_wrN, hs_at, hs_cell, hs_slot, if_true, if_false, true_and, and_true, pu_rd, pu_wr, Int.reduceToNat, Int.toNat_natCast, decide_eq_true_eq, Int.add_zero, Bool.false_eq_true, if_pos, if_neg, hdys, hth, e1, hof, d1]
        · refine MK.mk ((fk.trans e2.fk).my m.my) (fun d hd => ?_)
          unfold kp; rw [if_neg c1, if_neg (fun x => c3 x.1), e2.1 92 (by omega), hs_cell (by omega), hs_cell (by omega)]
          exact m.th d hd
        · rw [e2.1 90 (by omega), hs_cell (by omega), hs_up]
        · rw [e2.1 91 (by omega), hs_up, hs_cell (by omega)]
        · unfold kp; rw [if_neg c1, if_neg (fun x => c3 x.1)]; exact ⟨rfl, rfl⟩
    · refine ⟨hs (hs h 90 f (-1)) 91 f (-1), ?_, fk, ?_, -1, -1, ?_, ?_, ?_⟩
      · simp (disch := omega) only [leb_iff, ltb_iff, eqb_iff, pu_rmP, pu_dvP, pu_bs, pu_b0, pu_b1, pu_c0, pu_c1, pu_lt, pu_rdN, pu_wrN, hs_at, hs_cell, hs_slot, if_true, if_false, true_and, and_true, pu_rd, pu_wr, Int.reduceToNat, Int.toNat_natCast, decide_eq_true_eq, Int.add_zero, Bool.false_eq_true, if_pos, if_neg, hdys, hth]
      · refine MK.mk (fk.my m.my) (fun d hd => ?_)
        unfold kp; rw [if_neg c1, if_neg (fun x => c2 x.2), hs_cell (by omega), hs_cell (by omega)]
        exact m.th d hd
      · rw [hs_cell (by omega), hs_up]
      · rw [hs_up, hs_cell (by omega)]
      · unfold kp; rw [if_neg c1, if_neg (fun x => c2 x.2)]; exact ⟨rfl, rfl⟩
def MS (b : Nat → Int) (l p : Int) (s : St) (h : Hp) : Prop := (MY b l p h) ∧ (∀ d : Nat, (d : Int) < yd b + l → h 92 d = s.2.2 d) ∧ (∀ f : Nat, (f : Int) < b 42 → h 90 f = s.1 f ∧ h 91 f = s.2.1 f) ∧ (∀ d : Nat, (d : Int) < yd b + l → h 93 d = jcf b l p s d ∧ jcf b l p s d ≤ 2)
theorem MS.my {b : Nat → Int} {l p : Int} {s : St} {h : Hp} (q_ : MS b l p s h) : MY b l p h := q_.1
theorem MS.th {b : Nat → Int} {l p : Int} {s : St} {h : Hp} (q_ : MS b l p s h) : ∀ d : Nat, (d : Int) < yd b + l → h 92 d = s.2.2 d := q_.2.1
theorem MS.ro {b : Nat → Int} {l p : Int} {s : St} {h : Hp} (q_ : MS b l p s h) : ∀ f : Nat, (f : Int) < b 42 → h 90 f = s.1 f ∧ h 91 f = s.2.1 f := q_.2.2.1
theorem MS.jo {b : Nat → Int} {l p : Int} {s : St} {h : Hp} (q_ : MS b l p s h) : ∀ d : Nat, (d : Int) < yd b + l → h 93 d = jcf b l p s d ∧ jcf b l p s d ≤ 2 := q_.2.2.2
theorem MS.mk {b : Nat → Int} {l p : Int} {s : St} {h : Hp} (my_ : MY b l p h) (th_ : ∀ d : Nat, (d : Int) < yd b + l → h 92 d = s.2.2 d) (ro_ : ∀ f : Nat, (f : Int) < b 42 → h 90 f = s.1 f ∧ h 91 f = s.2.1 f) (jo_ : ∀ d : Nat, (d : Int) < yd b + l → h 93 d = jcf b l p s d ∧ jcf b l p s d ≤ 2) : MS b l p s h := ⟨my_, th_, ro_, jo_⟩
def Fm (h h' : Hp) : Prop := (∀ c, c ≠ 83 → c ≠ 90 → c ≠ 91 → c ≠ 92 → c ≠ 93 → h' c = h c) ∧ (∀ j, j ≠ 22 → j ≠ 23 → j ≠ 24 → h' 83 j = h 83 j)
theorem Fm.refl (h : Hp) : Fm h h := ⟨fun _ _ _ _ _ _ => rfl, fun _ _ _ _ => rfl⟩
theorem Fm.my {h h' : Hp} (a : Fm h h') (m : MY b l p h) : MY b l p h' :=
  MY.mk (by rw [a.1 84 (by omega) (by omega) (by omega) (by omega) (by omega)]; exact m.bk) (by rw [a.2 13 (by omega) (by omega) (by omega)]; exact m.days) (by rw [a.2 15 (by omega) (by omega) (by omega)]; exact m.pasch) (by rw [a.2 14 (by omega) (by omega) (by omega)]; exact m.wd0) (by rw [a.2 14 (by omega) (by omega) (by omega)]; exact m.wd) (by rw [a.1 89 (by omega) (by omega) (by omega) (by omega) (by omega)]; exact m.dys)
theorem Fm.trans {h h' h'' : Hp} (a : Fm h h') (c : Fm h' h'') : Fm h h'' := ⟨fun x h1 h2 h3 h4 h5 => by rw [c.1 x h1 h2 h3 h4 h5, a.1 x h1 h2 h3 h4 h5], fun j h1 h2 h3 => by rw [c.2 j h1 h2 h3, a.2 j h1 h2 h3]⟩
theorem Fb.fm {h h' : Hp} (a : Fb h h') : Fm h h' := ⟨fun c h1 _ _ _ _ => a.1 c h1, a.2⟩
theorem Fk.fm {h h' : Hp} (a : Fk h h') : Fm h h' := ⟨fun c h1 h2 h3 h4 _ => a.1 c h1 h2 h3 h4, a.2⟩
theorem Fm_hs {h : Hp} {c k : Nat} {v : Int} (hc : c = 90 ∨ c = 91 ∨ c = 92 ∨ c = 93) : Fm h (hs h c k v) := ⟨fun x h1 h2 h3 h4 h5 => hs_cell (by omega), fun j h1 h2 h3 => by rw [hs_cell (by omega)]⟩
theorem MS.fb {s : St} {h h' : Hp} (m : MS b l p s h) (f : Fb h h') : MS b l p s h' :=
  MS.mk (m.my.fb f) (by rw [f.1 92 (by omega)]; exact m.th) (by rw [f.1 90 (by omega), f.1 91 (by omega)]; exact m.ro) (by rw [f.1 93 (by omega)]; exact m.jo)
theorem jcf_other (ok : OkB b) {s : St} {f : Nat} (h1 : s.2.1 f ≠ 2) {v : Int} (hv : v ≠ 2) (x y : Nat → Int) (d : Int) : jcf b l p (x, pu_up s.2.1 f v, y) d = jcf b l p s d := by
  unfold jcf
  refine cnt_congr (fun k hk => ?_)
  dsimp only
  by_cases e : k = f
  · subst e; simp [pu_up_at, h1, hv]
  · simp only [pu_up_ne e]
theorem jcf_join {s : St} {f : Nat} (hf : (f : Int) < b 42) (h1 : s.2.1 f ≠ 2) (x y : Nat → Int) (d : Int) : jcf b l p (x, pu_up s.2.1 f 2, y) d = jcf b l p s d + (if dyf b l p f = d then 1 else 0) := by
  unfold jcf
  dsimp only
  by_cases e : dyf b l p f = d
  · rw [if_pos e]
    refine cnt_one (a := f) (by omega) (by simp [h1]) (fun k hk => ?_)
    by_cases c : k = f
    · subst c; simp [pu_up_at, e]
    · simp [pu_up_ne c, c]
  · rw [if_neg e, Int.add_zero]
    refine cnt_congr (fun k hk => ?_)
    by_cases c : k = f
    · subst c; simp [e]
    · simp only [pu_up_ne c]
theorem MS.fate (ok : OkB b) {s : St} (m : MS b l p s h) {f : Nat} (h1 : s.2.1 f ≠ 2) {v : Int} (hv : v ≠ 2) : MS b l p (s.1, pu_up s.2.1 f v, s.2.2) (hs h 91 f v) := by
  refine MS.mk ((Fm_hs (by omega)).my m.my) (fun d hd => by rw [hs_cell (by omega)]; exact m.th d hd) (fun g hg => ?_) (fun d hd => ?_)
  · have := m.ro g hg
    rw [hs_cell (by omega), hs_up]
    dsimp only
    unfold pu_up
    split
    · exact ⟨this.1, rfl⟩
    · exact this
  · rw [hs_cell (by omega), jcf_other ok h1 hv]; exact m.jo d hd
theorem m_canMove (hN : 20 < N) (ok : OkB b) (yr : Yr b l p) {s : St} (ht : ThOk b s) (m : MS b l p s h) {f : Nat} (hf : (f : Int) < b 42) {d : Int} (hd : -1000 ≤ d ∧ d ≤ 1000) : ∃ h', M_Md_canMove N h f d = some (if opn b l p f s d then 1 else 0, h') ∧ Fb h h' := by
  have hm := ok.many
  have hy := yr.bd ok
  have ho := (ok.fea f hf).1
  unfold M_Md_canMove
  rw [m.my.days, m_isIn (by omega) (by omega) (by omega) (by omega) (by omega) (by omega), Option.bind_some]
  by_cases c1 : 0 ≤ d ∧ d < yd b + l
  · have hcl := m_isClosed (h := h) (N := N) (by omega) (by rw [m.my.bk]; exact ok) (d := d) (by omega) (by rw [m.my.pasch]; omega)
    rw [m.my.bk, m.my.pasch] at hcl
    have hth := m.th d.toNat (by omega)
    have htd := ht d.toNat
    obtain ⟨g, e1, e2, e3⟩ := m_laysBase (h := h) (N := N) hN ok yr m.my (d := d) (by omega)
    obtain ⟨d1, d2, d3, d4, d5⟩ := Enc_dec ok e3
    have hof := m_of00 (h := g) (f := f) (by omega)
    rw [e2.1 84 (by omega), m.my.bk] at hof
    cases hz : cz b (d - p)
    · by_cases c2 : s.2.2 d.toNat = -1
      · refine ⟨g, ?_, e2⟩
        by_cases c3 : bse b l p d / 160 < fq b f 0
        · have : opn b l p f s d = true := by unfold opn; simp [c1, c2, c3, hz]
          simp (disch := omega) only [leb_iff, ltb_iff, eqb_iff, pu_rmP, pu_dvP, pu_bs, pu_b0, pu_b1, pu_c0, pu_c1, pu_lt, pu_rdN, pu_wrN, hs_at, hs_cell, hs_slot, if_true, if_false, true_and, and_true, pu_rd, pu_wr, Int.reduceToNat, Int.toNat_natCast, decide_eq_true_eq, Int.add_zero, Bool.false_eq_true, if_pos, if_neg, hcl, hz, hth, c2, e1, hof, d1, this]
        · have : opn b l p f s d = false := by unfold opn; simp [c3]
          simp (disch := omega) only [leb_iff, ltb_iff, eqb_iff, pu_rmP, pu_dvP, pu_bs, pu_b0, pu_b1, pu_c0, pu_c1, pu_lt, pu_rdN, pu_wrN, hs_at, hs_cell, hs_slot, if_true, if_false, true_and, and_true, pu_rd, pu_wr, Int.reduceToNat, Int.toNat_natCast, decide_eq_true_eq, Int.add_zero, Bool.false_eq_true, if_pos, if_neg, hcl, hz, hth, c2, e1, hof, d1, this]
      · refine ⟨h, ?_, Fb.refl h⟩
        have : opn b l p f s d = false := by unfold opn; simp [c2]
        simp (disch := omega) only [leb_iff, ltb_iff, eqb_iff, pu_rmP, pu_dvP, pu_bs, pu_b0, pu_b1, pu_c0, pu_c1, pu_lt, pu_rdN, pu_wrN, hs_at, hs_cell, hs_slot, if_true, if_false, true_and, and_true, pu_rd, pu_wr, Int.reduceToNat, Int.toNat_natCast, decide_eq_true_eq, Int.add_zero, Bool.false_eq_true, if_pos, if_neg, hcl, hz, hth, this]
    · refine ⟨h, ?_, Fb.refl h⟩
      have : opn b l p f s d = false := by unfold opn; simp [hz]
      simp (disch := omega) only [leb_iff, ltb_iff, eqb_iff, pu_rmP, pu_dvP, pu_bs, pu_b0, pu_b1, pu_c0, pu_c1, pu_lt, pu_rdN, pu_wrN, hs_at, hs_cell, hs_slot, if_true, if_false, true_and, and_true, pu_rd, pu_wr, Int.reduceToNat, Int.toNat_natCast, decide_eq_true_eq, Int.add_zero, Bool.false_eq_true, if_pos, if_neg, hcl, hz, this]
  · refine ⟨h, ?_, Fb.refl h⟩
    have : opn b l p f s d = false := by
      unfold opn
      exact decide_eq_false (fun x => c1 ⟨x.1, x.2.1⟩)
    simp (disch := omega) only [leb_iff, ltb_iff, eqb_iff, pu_rmP, pu_dvP, pu_bs, pu_b0, pu_b1, pu_c0, pu_c1, pu_lt, pu_rdN, pu_wrN, hs_at, hs_cell, hs_slot, if_true, if_false, true_and, and_true, pu_rd, pu_wr, Int.reduceToNat, Int.toNat_natCast, decide_eq_true_eq, Int.add_zero, Bool.false_eq_true, if_pos, if_neg, this]
theorem m_moves (hN : 100 < N) (ok : OkB b) (yr : Yr b l p) {s : St} (ht : ThOk b s) (m : MS b l p s h) {f : Nat} (hf : (f : Int) < b 42) (hfate : s.2.1 f = -1) (hdy : dyf b l p f ≠ -1) {u : Int} (hu : u = 1 ∨ u = -1) :
    ∃ h', M_Md_moves N h f u = some h' ∧ Fm h h' ∧ MS b l p (mvd s f (seek (opn b l p f s) (dyf b l p f) u (b 16).toNat 1)) h' := by
  have hm := ok.many
  have hy := yr.bd ok
  have hdb := dyf_bd (b := b) l p f
  have hrc := ok.rch
  have m4 := m.fate ok (f := f) (v := 4) (by omega) (by omega)
  have hopn : ∀ d, opn b l p f (s.1, pu_up s.2.1 f 4, s.2.2) d = opn b l p f s d := fun d => rfl
  have key : ∀ r n j : Nat, ∀ g : Hp, r < n → j + r = (b 16).toNat → Fb (hs h 91 f 4) g → ∃ h', Md_moves_L9 N f u n ((j : Int) + 1) g = some h' ∧ Fm h h' ∧ MS b l p (mvd s f (seek (opn b l p f s) (dyf b l p f) u r ((j : Int) + 1))) h' := by
    intro r
    induction r with
    | zero =>
      intro n j g hn hj fb
      obtain ⟨n, rfl⟩ : ∃ m, n = m + 1 := ⟨n - 1, by omega⟩
      have mg := m4.fb fb
      refine ⟨g, ?_, (Fm_hs (by omega)).trans fb.fm, ?_⟩
      · rw [Md_moves_L9]
        simp (disch := omega) only [leb_iff, ltb_iff, eqb_iff, pu_rmP, pu_dvP, pu_bs, pu_b0, pu_b1, pu_c0, pu_c1, pu_lt, pu_rdN, pu_wrN, hs_at, hs_cell, hs_slot, if_true, if_false, true_and, and_true, pu_rd, pu_wr, Int.reduceToNat, Int.toNat_natCast, decide_eq_true_eq, Int.add_zero, Bool.false_eq_true, if_pos, if_neg, mg.my.bk]
      · rw [seek]; unfold mvd; rw [if_pos rfl]; exact mg
    | succ r ih =>
      intro n j g hn hj fb
      obtain ⟨n, rfl⟩ : ∃ m, n = m + 1 := ⟨n - 1, by omega⟩
      have mg := m4.fb fb
      have hju : -70 ≤ u * ((j : Int) + 1) ∧ u * ((j : Int) + 1) ≤ 70 := by rcases hu with e | e <;> subst e <;> omega
      have ht4 : ThOk b (s.1, pu_up s.2.1 f 4, s.2.2) := ht
      obtain ⟨g', e1, e2⟩ := m_canMove (N := N) (by omega) ok yr ht4 mg hf (d := dyf b l p f + u * ((j : Int) + 1)) (by omega)
      rw [hopn] at e1
      rw [Md_moves_L9, pu_rd (by omega) (by omega), Option.bind_some, show Int.toNat 16 = 16 from rfl, mg.my.bk, pu_rdN (by omega), Option.bind_some, mg.my.dys f hf, e1, Option.bind_some, seek]
      by_cases c : opn b l p f s (dyf b l p f + u * ((j : Int) + 1)) = true
      · have c' := c
        unfold opn at c'
        simp only [decide_eq_true_eq] at c'
        have mg' := mg.fb e2
        refine ⟨hs (hs (hs g' 91 f 1) 90 f (dyf b l p f + u * ((j : Int) + 1))) 92 (dyf b l p f + u * ((j : Int) + 1)).toNat f, ?_, ((Fm_hs (by omega)).trans (fb.fm.trans e2.fm)).trans ((Fm_hs (by omega)).trans ((Fm_hs (by omega)).trans (Fm_hs (by omega)))), ?_⟩
        · simp (disch := omega) only [leb_iff, ltb_iff, eqb_iff, pu_rmP, pu_dvP, pu_bs, pu_b0, pu_b1, pu_c0, pu_c1, pu_lt, pu_rdN, pu_wrN, hs_at, hs_cell, hs_slot, if_true, if_false, true_and, and_true, pu_rd, pu_wr, Int.reduceToNat, Int.toNat_natCast, decide_eq_true_eq, Int.add_zero, Bool.false_eq_true, if_pos, if_neg, c]
        · rw [if_pos c]
          unfold mvd
          rw [if_neg (by omega)]
          generalize dyf b l p f + u * ((j : Int) + 1) = d at *
          refine MS.mk ((((Fm_hs (by omega)).trans ((Fm_hs (by omega)).trans (Fm_hs (by omega)))) : Fm g' _).my mg'.my) (fun e he => ?_) (fun k hk => ?_) (fun e he => ?_)
          · have := mg'.th e he
            rw [hs_up, hs_cell (by omega), hs_cell (by omega)]
            dsimp only
            unfold pu_up
            split
            · rfl
            · exact this
          · have := mg'.ro k hk
            rw [hs_cell (c := 92) (c' := 90) (by omega), hs_up, hs_cell (c := 91) (by omega), hs_cell (c := 92) (by omega), hs_cell (c := 90) (by omega), hs_up]
            unfold pu_up at this ⊢
            dsimp only at this ⊢
            split
            · exact ⟨rfl, rfl⟩
            · rename_i z; rw [if_neg z] at this; exact this
          · rw [hs_cell (by omega), hs_cell (by omega), hs_cell (by omega), jcf_other ok (by omega) (by omega)]
            have := mg'.jo e he
            rw [jcf_other ok (by omega) (by omega)] at this
            exact this
      · simp only [Bool.not_eq_true] at c
        have := ih n (j + 1) g' (by omega) (by omega) (fb.trans e2)
        rw [Int.natCast_add] at this
        obtain ⟨h', h1, h2, h3⟩ := this
        refine ⟨h', ?_, h2, ?_⟩
        · simp (disch := omega) only [leb_iff, ltb_iff, eqb_iff, pu_rmP, pu_dvP, pu_bs, pu_b0, pu_b1, pu_c0, pu_c1, pu_lt, pu_rdN, pu_wrN, hs_at, hs_cell, hs_slot, if_true, if_false, true_and, and_true, pu_rd, pu_wr, Int.reduceToNat, Int.toNat_natCast, decide_eq_true_eq, Int.add_zero, Bool.false_eq_true, if_pos, if_neg, c]
          exact h1
        · rw [c]; exact h3
  unfold M_Md_moves
  rw [pu_wrN (by omega), Option.bind_some]
  have := key (b 16).toNat N 0 _ (by omega) (by omega) (Fb.refl _)
  exact this
theorem m_yieldsBy (hN : 100 < N) (ok : OkB b) (yr : Yr b l p) {s : St} (ht : ThOk b s) (m : MS b l p s h) {f : Nat} (hf : (f : Int) < b 42) (hfate : s.2.1 f = -1) (hdy : dyf b l p f ≠ -1) :
    ∃ h', M_Md_yieldsBy N h f = some h' ∧ Fm h h' ∧ MS b l p (lw b l p f s) h' := by
  have hm := ok.many
  have hy := yr.bd ok
  have hdb := dyf_bd (b := b) l p f
  have ho := (ok.fea f hf).2.2.1
  unfold M_Md_yieldsBy lw
  rw [m_of04 (by omega), Option.bind_some, m.my.bk, if_neg (show ¬ s.2.1 f ≠ -1 from fun x => x hfate)]
  by_cases c0 : fq b f 4 = 0
  · obtain ⟨h', h1, h2, h3⟩ := m_moves hN ok yr ht m hf hfate hdy (u := 1) (Or.inl rfl)
    refine ⟨h', ?_, h2, ?_⟩
    · simp (disch := omega) only [leb_iff, ltb_iff, eqb_iff, pu_rmP, pu_dvP, pu_bs, pu_b0, pu_b1, pu_c0, pu_c1, pu_lt, pu_rdN, pu_wrN, hs_at, hs_cell, hs_slot, if_true, if_false, true_and, and_true, pu_rd, pu_wr, Int.reduceToNat, Int.toNat_natCast, decide_eq_true_eq, Int.add_zero, Bool.false_eq_true, if_pos, if_neg, h1]
    · rw [if_pos c0]; exact h3
  · by_cases c1 : fq b f 4 = 1
    · obtain ⟨h', h1, h2, h3⟩ := m_moves hN ok yr ht m hf hfate hdy (u := -1) (Or.inr rfl)
      refine ⟨h', ?_, h2, ?_⟩
      · simp (disch := omega) only [leb_iff, ltb_iff, eqb_iff, pu_rmP, pu_dvP, pu_bs, pu_b0, pu_b1, pu_c0, pu_c1, pu_lt, pu_rdN, pu_wrN, hs_at, hs_cell, hs_slot, if_true, if_false, true_and, and_true, pu_rd, pu_wr, Int.reduceToNat, Int.toNat_natCast, decide_eq_true_eq, Int.add_zero, Bool.false_eq_true, if_pos, if_neg, h1]
      · rw [if_neg c0, if_pos c1]; exact h3
    · rw [if_neg c0, if_neg c1]
      by_cases c2 : fq b f 4 = 2
      · rw [if_pos c2]
        have hdn : dyf b l p f = ((dyf b l p f).toNat : Int) := by omega
        have hj := m.jo (dyf b l p f).toNat (by omega)
        rw [← hdn] at hj
        have hjb : 0 ≤ jcf b l p s (dyf b l p f) := (cnt_bd _ _).1
        have hdys := m.my.dys f hf
        by_cases c3 : jcf b l p s (dyf b l p f) < 2
        · refine ⟨hs (hs h 91 f 2) 93 (dyf b l p f).toNat (jcf b l p s (dyf b l p f) + 1), ?_, (Fm_hs (by omega)).trans (Fm_hs (by omega)), ?_⟩
          · simp (disch := omega) only [leb_iff, ltb_iff, eqb_iff, pu_rmP, pu_dvP, pu_bs, pu_b0, pu_b1, pu_c0, pu_c1, pu_lt, pu_rdN, pu_wrN, hs_at, hs_cell, hs_slot, if_true, if_false, true_and, and_true, pu_rd, pu_wr, Int.reduceToNat, Int.toNat_natCast, decide_eq_true_eq, Int.add_zero, Bool.false_eq_true, if_pos, if_neg, hdys, hj.1]
          · rw [if_pos c3]
            refine MS.mk ((((Fm_hs (by omega)).trans (Fm_hs (by omega))) : Fm h _).my m.my) (fun d hd => by rw [hs_cell (by omega), hs_cell (by omega)]; exact m.th d hd) (fun g hg => ?_) (fun d hd => ?_)
            · have := m.ro g hg
              rw [hs_cell (by omega), hs_cell (by omega), hs_cell (c := 93) (by omega), hs_up]
              dsimp only
              unfold pu_up
              split
              · exact ⟨this.1, rfl⟩
              · exact this
            · have := m.jo d hd
              rw [jcf_join hf (by omega)]
              by_cases e : d = (dyf b l p f).toNat
              · rw [e, hs_at, if_pos (by omega), ← hdn]; omega
              · rw [hs_slot e, hs_cell (by omega), if_neg (by omega)]; omega
        · refine ⟨hs (hs h 91 f 3) 93 (dyf b l p f).toNat (jcf b l p s (dyf b l p f)), ?_, (Fm_hs (by omega)).trans (Fm_hs (by omega)), ?_⟩
          · simp (disch := omega) only [leb_iff, ltb_iff, eqb_iff, pu_rmP, pu_dvP, pu_bs, pu_b0, pu_b1, pu_c0, pu_c1, pu_lt, pu_rdN, pu_wrN, hs_at, hs_cell, hs_slot, if_true, if_false, true_and, and_true, pu_rd, pu_wr, Int.reduceToNat, Int.toNat_natCast, decide_eq_true_eq, Int.add_zero, Bool.false_eq_true, if_pos, if_neg, hdys, hj.1]
          · rw [if_neg c3]
            have m3 := m.fate ok (f := f) (v := 3) (by omega) (by omega)
            have e93 : hs (hs h 91 f 3) 93 (dyf b l p f).toNat (jcf b l p s (dyf b l p f)) 93 = hs h 91 f 3 93 := by
              rw [hs_up]; funext k; unfold pu_up; split
              · rename_i e; subst e; rw [hs_cell (by omega)]; exact hj.1.symm
              · rfl
            refine MS.mk ((Fm_hs (by omega)).my m3.my) (fun d hd => by rw [hs_cell (by omega)]; exact m3.th d hd) (fun g hg => by rw [hs_cell (by omega), hs_cell (by omega)]; exact m3.ro g hg) (fun d hd => by rw [e93]; exact m3.jo d hd)
      · rw [if_neg c2]
        refine ⟨hs h 91 f 3, ?_, Fm_hs (by omega), m.fate ok (by omega) (by omega)⟩
        simp (disch := omega) only [leb_iff, ltb_iff, eqb_iff, pu_rmP, pu_dvP, pu_bs, pu_b0, pu_b1, pu_c0, pu_c1, pu_lt, pu_rdN, pu_wrN, hs_at, hs_cell, hs_slot, if_true, if_false, true_and, and_true, pu_rd, pu_wr, Int.reduceToNat, Int.toNat_natCast, decide_eq_true_eq, Int.add_zero, Bool.false_eq_true, if_pos, if_neg]
end Mk
