section Ek
variable {h : Hp} {N L : Nat} {xs : Nat → Int32} {v4 : Int}
def pvd (b : Nat → Int) (f : Nat) (m d : Int) : Prop := (fq b f 1 = 1 ∧ m = -1 ∧ -99 ≤ d ∧ d ≤ 99) ∨ (fq b f 1 = 0 ∧ 0 ≤ m ∧ m < b 1 ∧ 0 ≤ d ∧ d < b (2 + m.toNat))
theorem up_put {b : Nat → Int} {f : Nat} (ok : OkB b) (hf : (f : Int) < b 42) {m v : Int} (hv : pvd b f m v) : OkB (pu_up (pu_up b (43 + 7 * f + 2) m) (43 + 7 * f + 3) v) := by
  have hmo := ok.mon
  have q : ∀ o : Nat, ∀ u, u < 7 → fq (pu_up (pu_up b (43 + 7 * f + 2) m) (43 + 7 * f + 3) v) o u = if o = f ∧ u = 3 then v else if o = f ∧ u = 2 then m else fq b o u := fun o u hu => by rw [up_fq (by omega) hu, up_fq (by omega) hu]
  have hcal : ∀ k, k < 43 → pu_up (pu_up b (43 + 7 * f + 2) m) (43 + 7 * f + 3) v k = b k := fun k hk => by rw [up_cal k hk, up_cal k hk]
  refine OkB_cg ok (fun k hk _ => hcal k hk) (by rw [hcal 16 (by omega)]; exact ok.rch) (fun o ho => ?_)
  by_cases e : o = f
  · subst e
    have h := ok.fea o ho
    unfold okF at h ⊢
    rw [q o 0 (by omega), q o 1 (by omega), q o 2 (by omega), q o 3 (by omega), q o 4 (by omega), q o 5 (by omega), q o 6 (by omega), hcal 1 (by omega)]
    simp only [show ¬ (0 = 3) by omega, show ¬ (0 = 2) by omega, show ¬ (1 = 3) by omega, show ¬ (1 = 2) by omega, show ¬ (2 = 3) by omega, show ¬ (4 = 3) by omega, show ¬ (4 = 2) by omega, show ¬ (5 = 3) by omega, show ¬ (5 = 2) by omega, show ¬ (6 = 3) by omega, show ¬ (6 = 2) by omega, and_false, if_false, and_true, if_true, true_and]
    refine ⟨h.1, ?_, h.2.2⟩
    rcases hv with z | z
    · exact Or.inl z
    · refine Or.inr ⟨z.1, z.2.1, z.2.2.1, z.2.2.2.1, ?_⟩
      rw [hcal (2 + m.toNat) (by omega)]; exact z.2.2.2.2
  · exact okF_cg ok (fun k hk _ => hcal k hk) ho (fun w hw => by rw [q o w hw, if_neg (fun z => e z.1), if_neg (fun z => e z.1)])
theorem ap_put {b : Nat → Int} {f : Nat} {m v om ov : Int} (h1 : om = b (43 + 7 * f + 2)) (h2 : ov = b (43 + 7 * f + 3)) : pu_up (pu_up (pu_up (pu_up b (43 + 7 * f + 2) m) (43 + 7 * f + 3) v) (43 + 7 * f + 2) om) (43 + 7 * f + 3) ov = b := by
  funext k
  by_cases e3 : k = 43 + 7 * f + 3
  · rw [e3, pu_up_at, h2]
  · rw [pu_up_ne e3]
    by_cases e2 : k = 43 + 7 * f + 2
    · rw [e2, pu_up_at, h1]
    · rw [pu_up_ne e2, pu_up_ne e3, pu_up_ne e2]
theorem k_put (hN : 7000 < N) (i : Inv h) (hv : 0 ≤ v4 ∧ v4 + 6 ≤ L) (k : Hp → Option Int) : ∃ h', Inv h' ∧ Lw_case_15 N L xs v4 h k = k h' := by
  unfold Lw_case_15 M_Lw_put
  simp (disch := omega) only [rdX_ok hv, pu_bs]
  have rf := px_rg xs v4 1
  have rm := px_rg xs v4 2
  have rd := px_rg xs v4 3
  generalize px xs v4 1 = f at *
  generalize px xs v4 2 = m at *
  generalize px xs v4 3 = d at *
  have hm := q_many i
  have rf' := rf
  unfold rg at rf' rm rd
  by_cases c1 : 0 ≤ f ∧ f < h 84 42
  · have ok := i.okf c1.2 c1.1
    have ef : ((f.toNat : Nat) : Int) = f := by omega
    have hf : ((f.toNat : Nat) : Int) < h 84 42 := by omega
    have hfe := cb_fea i.cb hf
    have hmo := ok.mon
    have hfo := (ok.fea f.toNat hf).2.1
    have hmv := c_isMoving ok i.cb hf
    rw [ef] at hmv
    have canP : ∀ g : Hp, g 84 = h 84 → ∃ t : Int, M_Md_canPut g f m d = some t ∧ ((t = 1 ∧ pvd (h 84) f.toNat m d) ∨ (t = 0 ∧ ¬ pvd (h 84) f.toNat m d)) := by
      intro g g84
      have q1 := m_of01 (h := g) (f := f.toNat) (by omega)
      rw [ef, g84] at q1
      unfold M_Md_canPut pvd
      rw [q1, pu_bs]
      rcases hfo with e | e
      · by_cases c : m = -1
        · by_cases c3 : -99 ≤ d ∧ d ≤ 99
          · exact ⟨1, by simp (disch := omega) only [leb_iff, ltb_iff, eqb_iff, pu_rmP, pu_dvP, pu_bs, pu_b0, pu_b1, pu_c0, pu_c1, pu_lt, pu_rdN, pu_wrN, hs_at, hs_cell, hs_slot, if_true, if_false, true_and, and_true, pu_rd, pu_wr, Int.reduceToNat, Int.toNat_natCast, decide_eq_true_eq, Int.add_zero, Bool.false_eq_true, if_pos, if_neg, m_isIn], Or.inl ⟨rfl, Or.inl ⟨e.1, c, c3⟩⟩⟩
          · refine ⟨0, by simp (disch := omega) only [leb_iff, ltb_iff, eqb_iff, pu_rmP, pu_dvP, pu_bs, pu_b0, pu_b1, pu_c0, pu_c1, pu_lt, pu_rdN, pu_wrN, hs_at, hs_cell, hs_slot, if_true, if_false, true_and, and_true, pu_rd, pu_wr, Int.reduceToNat, Int.toNat_natCast, decide_eq_true_eq, Int.add_zero, Bool.false_eq_true, if_pos, if_neg, m_isIn], Or.inr ⟨rfl, fun z => ?_⟩⟩
            rcases z with z | z <;> omega
        · refine ⟨0, by simp (disch := omega) only [leb_iff, ltb_iff, eqb_iff, pu_rmP, pu_dvP, pu_bs, pu_b0, pu_b1, pu_c0, pu_c1, pu_lt, pu_rdN, pu_wrN, hs_at, hs_cell, hs_slot, if_true, if_false, true_and, and_true, pu_rd, pu_wr, Int.reduceToNat, Int.toNat_natCast, decide_eq_true_eq, Int.add_zero, Bool.false_eq_true, if_pos, if_neg], Or.inr ⟨rfl, fun z => ?_⟩⟩
          rcases z with z | z <;> omega
      · by_cases c : 0 ≤ m ∧ m < h 84 1
        · have hdb := ok.days m.toNat (by omega)
          have e2 : rdA g 84 127 (2 + m) = some (h 84 (2 + m.toNat)) := by rw [pu_rd (by omega) (by omega), g84, show (2 + m).toNat = 2 + m.toNat by omega]
          by_cases c3 : 0 ≤ d ∧ d < h 84 (2 + m.toNat)
          · refine ⟨1, ?_, Or.inl ⟨rfl, Or.inr ⟨e.1, c.1, c.2, c3⟩⟩⟩
            rw [e2]
            simp (disch := omega) only [leb_iff, ltb_iff, eqb_iff, pu_rmP, pu_dvP, pu_bs, pu_b0, pu_b1, pu_c0, pu_c1, pu_lt, pu_rdN, pu_wrN, hs_at, hs_cell, hs_slot, if_true, if_false, true_and, and_true, pu_rd, pu_wr, Int.reduceToNat, Int.toNat_natCast, decide_eq_true_eq, Int.add_zero, Bool.false_eq_true, if_pos, if_neg, m_isIn, g84]
          · refine ⟨0, ?_, Or.inr ⟨rfl, fun z => ?_⟩⟩
            · rw [e2]
              simp (disch := omega) only [leb_iff, ltb_iff, eqb_iff, pu_rmP, pu_dvP, pu_bs, pu_b0, pu_b1, pu_c0, pu_c1, pu_lt, pu_rdN, pu_wrN, hs_at, hs_cell, hs_slot, if_true, if_false, true_and, and_true, pu_rd, pu_wr, Int.reduceToNat, Int.toNat_natCast, decide_eq_true_eq, Int.add_zero, Bool.false_eq_true, if_pos, if_neg, m_isIn, g84]
            · rcases z with z | z <;> omega
        · refine ⟨0, by simp (disch := omega) only [leb_iff, ltb_iff, eqb_iff, pu_rmP, pu_dvP, pu_bs, pu_b0, pu_b1, pu_c0, pu_c1, pu_lt, pu_rdN, pu_wrN, hs_at, hs_cell, hs_slot, if_true, if_false, true_and, and_true, pu_rd, pu_wr, Int.reduceToNat, Int.toNat_natCast, decide_eq_true_eq, Int.add_zero, Bool.false_eq_true, if_pos, if_neg, m_isIn, g84], Or.inr ⟨rfl, fun z => ?_⟩⟩
          rcases z with z | z <;> omega
    have clsT : ∃ t : Int, M_Book_canTell h 23 m d = some t ∧ ((t = 1 ∧ ((m = -1 ∧ -99 ≤ d ∧ d ≤ 99) ∨ (0 ≤ m ∧ m < h 84 1 ∧ 0 ≤ d ∧ d < h 84 (2 + m.toNat)))) ∨ (t = 0 ∧ ¬ ((m = -1 ∧ -99 ≤ d ∧ d ≤ 99) ∨ (0 ≤ m ∧ m < h 84 1 ∧ 0 ≤ d ∧ d < h 84 (2 + m.toNat))))) := by
      unfold M_Book_canTell
      rw [i.cb.mon]
      by_cases c : m = -1
      · by_cases c3 : -99 ≤ d ∧ d ≤ 99
        · exact ⟨1, by simp (disch := omega) only [leb_iff, ltb_iff, eqb_iff, pu_rmP, pu_dvP, pu_bs, pu_b0, pu_b1, pu_c0, pu_c1, pu_lt, pu_rdN, pu_wrN, hs_at, hs_cell, hs_slot, if_true, if_false, true_and, and_true, pu_rd, pu_wr, Int.reduceToNat, Int.toNat_natCast, decide_eq_true_eq, Int.add_zero, Bool.false_eq_true, if_pos, if_neg], Or.inl ⟨rfl, Or.inl ⟨c, c3⟩⟩⟩
        · refine ⟨0, ?_, Or.inr ⟨rfl, fun z => ?_⟩⟩
          · by_cases c4 : d < -99
            · simp (disch := omega) only [leb_iff, ltb_iff, eqb_iff, pu_rmP, pu_dvP, pu_bs, pu_b0, pu_b1, pu_c0, pu_c1, pu_lt, pu_rdN, pu_wrN, hs_at, hs_cell, hs_slot, if_true, if_false, true_and, and_true, pu_rd, pu_wr, Int.reduceToNat, Int.toNat_natCast, decide_eq_true_eq, Int.add_zero, Bool.false_eq_true, if_pos, if_neg]
            · simp (disch := omega) only [leb_iff, ltb_iff, eqb_iff, pu_rmP, pu_dvP, pu_bs, pu_b0, pu_b1, pu_c0, pu_c1, pu_lt, pu_rdN, pu_wrN, hs_at, hs_cell, hs_slot, if_true, if_false, true_and, and_true, pu_rd, pu_wr, Int.reduceToNat, Int.toNat_natCast, decide_eq_true_eq, Int.add_zero, Bool.false_eq_true, if_pos, if_neg]
          · rcases z with z | z <;> omega
      · by_cases c0 : m < 0
        · refine ⟨0, by simp (disch := omega) only [leb_iff, ltb_iff, eqb_iff, pu_rmP, pu_dvP, pu_bs, pu_b0, pu_b1, pu_c0, pu_c1, pu_lt, pu_rdN, pu_wrN, hs_at, hs_cell, hs_slot, if_true, if_false, true_and, and_true, pu_rd, pu_wr, Int.reduceToNat, Int.toNat_natCast, decide_eq_true_eq, Int.add_zero, Bool.false_eq_true, if_pos, if_neg], Or.inr ⟨rfl, fun z => ?_⟩⟩
          rcases z with z | z <;> omega
        · by_cases c3 : h 84 1 ≤ m
          · refine ⟨0, by simp (disch := omega) only [leb_iff, ltb_iff, eqb_iff, pu_rmP, pu_dvP, pu_bs, pu_b0, pu_b1, pu_c0, pu_c1, pu_lt, pu_rdN, pu_wrN, hs_at, hs_cell, hs_slot, if_true, if_false, true_and, and_true, pu_rd, pu_wr, Int.reduceToNat, Int.toNat_natCast, decide_eq_true_eq, Int.add_zero, Bool.false_eq_true, if_pos, if_neg], Or.inr ⟨rfl, fun z => ?_⟩⟩
            rcases z with z | z <;> omega
          · have hdb := ok.days m.toNat (by omega)
            have hdays : h (23 + 1) m.toNat = h 84 (2 + m.toNat) := i.cb.days m.toNat (by omega)
            by_cases c4 : d < 0
            · refine ⟨0, by simp (disch := omega) only [leb_iff, ltb_iff, eqb_iff, pu_rmP, pu_dvP, pu_bs, pu_b0, pu_b1, pu_c0, pu_c1, pu_lt, pu_rdN, pu_wrN, hs_at, hs_cell, hs_slot, if_true, if_false, true_and, and_true, pu_rd, pu_wr, Int.reduceToNat, Int.toNat_natCast, decide_eq_true_eq, Int.add_zero, Bool.false_eq_true, if_pos, if_neg], Or.inr ⟨rfl, fun z => ?_⟩⟩
              rcases z with z | z <;> omega
            · by_cases c5 : h 84 (2 + m.toNat) ≤ d
              · refine ⟨0, by simp (disch := omega) only [leb_iff, ltb_iff, eqb_iff, pu_rmP, pu_dvP, pu_bs, pu_b0, pu_b1, pu_c0, pu_c1, pu_lt, pu_rdN, pu_wrN, hs_at, hs_cell, hs_slot, if_true, if_false, true_and, and_true, pu_rd, pu_wr, Int.reduceToNat, Int.toNat_natCast, decide_eq_true_eq, Int.add_zero, Bool.false_eq_true, if_pos, if_neg, hdays], Or.inr ⟨rfl, fun z => ?_⟩⟩
                rcases z with z | z <;> omega
              · exact ⟨1, by simp (disch := omega) only [leb_iff, ltb_iff, eqb_iff, pu_rmP, pu_dvP, pu_bs, pu_b0, pu_b1, pu_c0, pu_c1, pu_lt, pu_rdN, pu_wrN, hs_at, hs_cell, hs_slot, if_true, if_false, true_and, and_true, pu_rd, pu_wr, Int.reduceToNat, Int.toNat_natCast, decide_eq_true_eq, Int.add_zero, Bool.false_eq_true, if_pos, if_neg, hdays], Or.inl ⟨rfl, Or.inr ⟨by omega, by omega, by omega, by omega⟩⟩⟩
    obtain ⟨t, t1, t2⟩ := clsT
    have mv := mv01 (ok.fea f.toNat hf)
    by_cases c2 : pvd (h 84) f.toNat m d
    · have sz := i.pa.sz
      have plo := i.pa.lo
      have phi := i.pa.hi
      have htb := told_bd ok hf
      have hib : -1 ≤ fq (h 84) f.toNat 2 ∧ fq (h 84) f.toNat 2 ≤ 8 := by rcases hfo with e | e <;> omega
      obtain ⟨g, g1, g2, g3, g4⟩ := c_remember (h := h) (by omega) (by omega) 2 f (fq (h 84) f.toNat 2) (fq (h 84) f.toNat 3)
      obtain ⟨hC, e1, ch⟩ := c_tellDay (h := g) ok (CB_frame i.cb (fun c x1 x2 => g2 c (by omega))) hf (m := m) (v := d)
      rw [ef] at e1
      have hcal : ∀ k, k < 43 → pu_up (pu_up (h 84) (43 + 7 * f.toNat + 2) m) (43 + 7 * f.toNat + 3) d k = h 84 k := fun k hk => by rw [up_cal k hk, up_cal k hk]
      refine ed_fin (N := N) (R := fun G => M_Md_put N G f m d) (ans := if fq (h 84) f.toNat 2 = m ∧ fq (h 84) f.toNat 3 = d then 0 else 1) (by omega) i ok (up_put ok hf c2) (hcal 42 (by omega)) (z_up (z_up i.z84 (by omega)) (by omega)) (fun k hk _ => hcal k hk) (by omega) (fun _ => c1) (by omega) (by omega) ?_ g2 g3 g4 ch ?_ (fun M m1 M84 => ?_) k
      · unfold apU; rw [if_neg (by omega), if_neg (by omega), if_pos rfl]; exact ap_put rfl rfl
      · have ht : t = 1 := by
          rcases t2 with z | z
          · exact z.1
          · exact absurd (by rcases c2 with y | y; exact Or.inl ⟨y.2.1, y.2.2⟩; exact Or.inr y.2) z.2
        have hs0 : ∀ A B : Option XO, (if eqb m (-1) = true then (if eqb (fq (h 84) f.toNat 1) 1 = true then A else B) else (if eqb (fq (h 84) f.toNat 1) 0 = true then A else B)) = A := by
          intro A B
          rcases c2 with y | y
          · rw [y.1, y.2.1]; simp (disch := omega) only [leb_iff, ltb_iff, eqb_iff, pu_rmP, pu_dvP, pu_bs, pu_b0, pu_b1, pu_c0, pu_c1, pu_lt, pu_rdN, pu_wrN, hs_at, hs_cell, hs_slot, if_true, if_false, true_and, and_true, pu_rd, pu_wr, Int.reduceToNat, Int.toNat_natCast, decide_eq_true_eq, Int.add_zero, Bool.false_eq_true, if_pos, if_neg]
          · rw [y.1]; simp (disch := omega) only [leb_iff, ltb_iff, eqb_iff, pu_rmP, pu_dvP, pu_bs, pu_b0, pu_b1, pu_c0, pu_c1, pu_lt, pu_rdN, pu_wrN, hs_at, hs_cell, hs_slot, if_true, if_false, true_and, and_true, pu_rd, pu_wr, Int.reduceToNat, Int.toNat_natCast, decide_eq_true_eq, Int.add_zero, Bool.false_eq_true, if_pos, if_neg]
        unfold M_FB_put
        rw [q_checkFeast i rf, if_pos c1, xb0, hmv, pu_bs, pu_lt]
        dsimp only
        rw [hs0, t1, pu_bs, ht, if_neg ne10, pu_rd (by omega) (by omega), pu_bs, pu_rd (by omega) (by omega), pu_bs, hfe.2.1, hfe.2.2.1, g1, pu_bs, e1, pu_bs]
        by_cases d1 : fq (h 84) f.toNat 2 = m
        · by_cases d2 : fq (h 84) f.toNat 3 = d
          · rw [if_pos (show fq (h 84) f.toNat 2 = m ∧ fq (h 84) f.toNat 3 = d from ⟨d1, d2⟩)]; simp (disch := omega) only [leb_iff, ltb_iff, eqb_iff, pu_rmP, pu_dvP, pu_bs, pu_b0, pu_b1, pu_c0, pu_c1, pu_lt, pu_rdN, pu_wrN, hs_at, hs_cell, hs_slot, if_true, if_false, true_and, and_true, pu_rd, pu_wr, Int.reduceToNat, Int.toNat_natCast, decide_eq_true_eq, Int.add_zero, Bool.false_eq_true, if_pos, if_neg]
          · rw [if_neg (show ¬ (fq (h 84) f.toNat 2 = m ∧ fq (h 84) f.toNat 3 = d) from fun z => d2 z.2)]; simp (disch := omega) only [leb_iff, ltb_iff, eqb_iff, pu_rmP, pu_dvP, pu_bs, pu_b0, pu_b1, pu_c0, pu_c1, pu_lt, pu_rdN, pu_wrN, hs_at, hs_cell, hs_slot, if_true, if_false, true_and, and_true, pu_rd, pu_wr, Int.reduceToNat, Int.toNat_natCast, decide_eq_true_eq, Int.add_zero, Bool.false_eq_true, if_pos, if_neg]
        · rw [if_neg (show ¬ (fq (h 84) f.toNat 2 = m ∧ fq (h 84) f.toNat 3 = d) from fun z => d1 z.1)]; simp (disch := omega) only [leb_iff, ltb_iff, eqb_iff, pu_rmP, pu_dvP, pu_bs, pu_b0, pu_b1, pu_c0, pu_c1, pu_lt, pu_rdN, pu_wrN, hs_at, hs_cell, hs_slot, if_true, if_false, true_and, and_true, pu_rd, pu_wr, Int.reduceToNat, Int.toNat_natCast, decide_eq_true_eq, Int.add_zero, Bool.false_eq_true, if_pos, if_neg]
      · have h84 : hC 84 = h 84 := by rw [ch.fr 84 (by omega) (by omega) (by omega), g2 84 (by omega)]
        generalize hans : (if fq (h 84) f.toNat 2 = m ∧ fq (h 84) f.toNat 3 = d then (0 : Int) else 1) = ans at *
        have w84 : hs hC 96 0 (nrm ans) 84 = h 84 := by rw [hs_cell (by omega)]; exact h84
        have ei : ((43 : Int) + 7 * f + 2).toNat = 43 + 7 * f.toNat + 2 := by omega
        have ei3 : ((43 : Int) + 7 * f + 3).toNat = 43 + 7 * f.toNat + 3 := by omega
        have v2 : M 84 (43 + 7 * f.toNat + 2) = fq (h 84) f.toNat 2 := by rw [M84]; rfl
        have v3 : M 84 (43 + 7 * f.toNat + 3) = fq (h 84) f.toNat 3 := by rw [M84]; rfl
        obtain ⟨t', p1, p2⟩ := canP (hs hC 96 0 (nrm ans)) w84
        have ht' : t' = 1 := by
          rcases p2 with z | z
          · exact z.1
          · exact absurd c2 z.2
        refine ⟨hs (hs M 84 (43 + 7 * f.toNat + 2) m) 84 (43 + 7 * f.toNat + 3) d, ?_, by rw [hs_up, hs_up, M84], fun c hc => by rw [hs_cell hc, hs_cell hc]⟩
        unfold M_Md_put
        rw [q_isFeastW (by rw [w84]; exact hm) rf, pu_bs, w84, if_pos c1, pu_lt, if_neg ne10, p1, pu_bs, ht', if_neg ne10]
        refine jt0.trans ?_
        rw [m1, pu_bs, pu_rd (by omega) (by omega), pu_bs, ei, v2, pu_lt, pu_rd (by omega) (by omega), pu_bs, ei3, v3]
        dsimp only
        rw [pu_wr (by omega) (by omega), pu_bs, pu_wr (by omega) (by omega), pu_bs, ei, ei3, ← hans]
        by_cases d1 : fq (h 84) f.toNat 2 = m
        · by_cases d2 : fq (h 84) f.toNat 3 = d
          · rw [if_pos (show fq (h 84) f.toNat 2 = m ∧ fq (h 84) f.toNat 3 = d from ⟨d1, d2⟩)]; simp (disch := omega) only [leb_iff, ltb_iff, eqb_iff, pu_rmP, pu_dvP, pu_bs, pu_b0, pu_b1, pu_c0, pu_c1, pu_lt, pu_rdN, pu_wrN, hs_at, hs_cell, hs_slot, if_true, if_false, true_and, and_true, pu_rd, pu_wr, Int.reduceToNat, Int.toNat_natCast, decide_eq_true_eq, Int.add_zero, Bool.false_eq_true, if_pos, if_neg, ei, ei3, d1]
          · rw [if_neg (show ¬ (fq (h 84) f.toNat 2 = m ∧ fq (h 84) f.toNat 3 = d) from fun z => d2 z.2)]; simp (disch := omega) only [leb_iff, ltb_iff, eqb_iff, pu_rmP, pu_dvP, pu_bs, pu_b0, pu_b1, pu_c0, pu_c1, pu_lt, pu_rdN, pu_wrN, hs_at, hs_cell, hs_slot, if_true, if_false, true_and, and_true, pu_rd, pu_wr, Int.reduceToNat, Int.toNat_natCast, decide_eq_true_eq, Int.add_zero, Bool.false_eq_true, if_pos, if_neg, ei, ei3, d1]
        · rw [if_neg (show ¬ (fq (h 84) f.toNat 2 = m ∧ fq (h 84) f.toNat 3 = d) from fun z => d1 z.1)]; simp (disch := omega) only [leb_iff, ltb_iff, eqb_iff, pu_rmP, pu_dvP, pu_bs, pu_b0, pu_b1, pu_c0, pu_c1, pu_lt, pu_rdN, pu_wrN, hs_at, hs_cell, hs_slot, if_true, if_false, true_and, and_true, pu_rd, pu_wr, Int.reduceToNat, Int.toNat_natCast, decide_eq_true_eq, Int.add_zero, Bool.false_eq_true, if_pos, if_neg, ei, ei3, d1]
    · refine fin_case (R := fun g => M_Md_put N g f m d) (code := 3) (v := 0) (hC := h) (idx := 2) ?_ i rfl (Or.inr ⟨by omega, rfl, by omega, by omega⟩) (fun g gi g84 => ?_) k
      · unfold M_FB_put
        rw [q_checkFeast i rf, if_pos c1, xb0, hmv, pu_bs, pu_lt]
        dsimp only
        rw [t1]
        simp only [pu_bs]
        rcases t2 with ⟨y1, y2⟩ | ⟨y1, y2⟩
        · rcases mv with z | z
          · rcases y2 with y2 | y2
            · rw [z, y2.1]; simp (disch := omega) only [leb_iff, ltb_iff, eqb_iff, pu_rmP, pu_dvP, pu_bs, pu_b0, pu_b1, pu_c0, pu_c1, pu_lt, pu_rdN, pu_wrN, hs_at, hs_cell, hs_slot, if_true, if_false, true_and, and_true, pu_rd, pu_wr, Int.reduceToNat, Int.toNat_natCast, decide_eq_true_eq, Int.add_zero, Bool.false_eq_true, if_pos, if_neg]
            · exact absurd (Or.inr ⟨z, y2⟩) c2
          · rcases y2 with y2 | y2
            · exact absurd (Or.inl ⟨z, y2.1, y2.2⟩) c2
            · rw [z]; simp (disch := omega) only [leb_iff, ltb_iff, eqb_iff, pu_rmP, pu_dvP, pu_bs, pu_b0, pu_b1, pu_c0, pu_c1, pu_lt, pu_rdN, pu_wrN, hs_at, hs_cell, hs_slot, if_true, if_false, true_and, and_true, pu_rd, pu_wr, Int.reduceToNat, Int.toNat_natCast, decide_eq_true_eq, Int.add_zero, Bool.false_eq_true, if_pos, if_neg]
        · rw [y1]
          rcases mv with z | z <;> rw [z] <;> (by_cases q1 : m = -1) <;> simp (disch := omega) only [leb_iff, ltb_iff, eqb_iff, pu_rmP, pu_dvP, pu_bs, pu_b0, pu_b1, pu_c0, pu_c1, pu_lt, pu_rdN, pu_wrN, hs_at, hs_cell, hs_slot, if_true, if_false, true_and, and_true, pu_rd, pu_wr, Int.reduceToNat, Int.toNat_natCast, decide_eq_true_eq, Int.add_zero, Bool.false_eq_true, if_pos, if_neg]
      · obtain ⟨t', p1, p2⟩ := canP g g84
        have ht' : t' = 0 := by
          rcases p2 with z | z
          · exact absurd z.2 c2
          · exact z.1
        refine ⟨0, hs g 83 0 2, ?_, Fz_thrown, hs_at, fun z => by omega⟩
        unfold M_Md_put
        rw [q_isFeast gi rf, pu_bs, g84, if_pos c1, pu_lt, if_neg ne10, p1, pu_bs, ht', if_pos eq00]
        exact jtv (by omega)
  · refine fin_case (R := fun g => M_Md_put N g f m d) (code := 1) (v := 0) (hC := h) (idx := 1) ?_ i rfl (Or.inr ⟨by omega, rfl, by omega, by omega⟩) (fun g gi g84 => ?_) k
    · unfold M_FB_put
      rw [q_checkFeast i rf, if_neg c1, xbn (by omega)]
    · refine ⟨0, hs g 83 0 1, ?_, Fz_thrown, hs_at, fun z => by omega⟩
      unfold M_Md_put
      rw [q_isFeast gi rf, pu_bs, g84, if_neg c1, pu_lt, if_pos eq00]
      exact jtv (by omega)
end Ek
