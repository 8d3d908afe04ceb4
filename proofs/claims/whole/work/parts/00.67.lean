section Ej
variable {h : Hp} {N L : Nat} {xs : Nat → Int32} {v4 : Int}
theorem z_up {b : Nat → Int} {k : Nat} {v : Int} (z : ∀ j, 127 ≤ j → b j = 0) (hk : k < 127) : ∀ j, 127 ≤ j → pu_up b k v j = 0 := fun j hj => by rw [pu_up_ne (by omega)]; exact z j hj
theorem up_law {b : Nat → Int} {f : Nat} (ok : OkB b) (hf : (f : Int) < b 42) {v : Int} (hv : 0 ≤ v ∧ v ≤ 3) : okF (pu_up b (43 + 7 * f + 4) v) f := by
  have hmo := ok.mon
  have h := ok.fea f hf
  unfold okF at h ⊢
  have q : ∀ u, u < 7 → fq (pu_up b (43 + 7 * f + 4) v) f u = if u = 4 then v else fq b f u := fun u hu => by rw [up_fq (by omega) hu]; simp
  rw [q 0 (by omega), q 1 (by omega), q 2 (by omega), q 3 (by omega), q 4 (by omega), q 5 (by omega), q 6 (by omega), up_cal 1 (by omega)]
  simp (disch := omega) only [leb_iff, ltb_iff, eqb_iff, pu_rmP, pu_dvP, pu_bs, pu_b0, pu_b1, pu_c0, pu_c1, pu_lt, pu_rdN, pu_wrN, hs_at, hs_cell, hs_slot, if_true, if_false, true_and, and_true, pu_rd, pu_wr, Int.reduceToNat, Int.toNat_natCast, decide_eq_true_eq, Int.add_zero, Bool.false_eq_true, if_pos, if_neg]
  refine ⟨h.1, ?_, hv, h.2.2.2⟩
  rcases h.2.1 with e | e
  · exact Or.inl e
  · refine Or.inr ⟨e.1, e.2.1, e.2.2.1, e.2.2.2.1, ?_⟩
    rw [up_cal (2 + (fq b f 2).toNat) (by omega)]; exact e.2.2.2.2
theorem k_rank (hN : 7000 < N) (i : Inv h) (hv : 0 ≤ v4 ∧ v4 + 6 ≤ L) (k : Hp → Option Int) : ∃ h', Inv h' ∧ Lw_case_13 N L xs v4 h k = k h' := by
  unfold Lw_case_13 M_Lw_rank
  simp (disch := omega) only [rdX_ok hv, pu_bs]
  have rf := px_rg xs v4 1
  have rn := px_rg xs v4 2
  generalize px xs v4 1 = f at *
  generalize px xs v4 2 = n at *
  have hm := q_many i
  have rf' := rf
  have rn' := rn
  unfold rg at rf' rn'
  by_cases c1 : 0 ≤ f ∧ f < h 84 42
  · by_cases c2 : 1 ≤ n ∧ n ≤ 9
    · have ok := i.okf c1.2 c1.1
      have ef : ((f.toNat : Nat) : Int) = f := by omega
      have hf : ((f.toNat : Nat) : Int) < h 84 42 := by omega
      have hfe := cb_fea i.cb hf
      have ho := (ok.fea f.toNat hf).1
      have sz := i.pa.sz
      have plo := i.pa.lo
      have phi := i.pa.hi
      obtain ⟨g, g1, g2, g3, g4⟩ := c_remember (h := h) (by omega) (by omega) 0 f (-1) (fq (h 84) f.toNat 0)
      obtain ⟨hC, e1, ch⟩ := c_tellRank (h := g) (N := N) (by omega) ok (CB_frame i.cb (fun c x1 x2 => g2 c (by omega))) hf c2
      rw [ef] at e1
      refine ed_fin (N := N) (R := fun G => M_Md_rank N G f n) (ans := fq (h 84) f.toNat 0) (by omega) i ok (up_okB ok (by omega) (up_rank ok hf c2)) (up_cal 42 (by omega)) (z_up i.z84 (by omega)) up_cal6 (by omega) (fun _ => c1) (by omega) (by omega) ?_ g2 g3 g4 ch ?_ (fun M m1 M84 => ?_) k
      · unfold apU; rw [if_pos rfl]; exact pu_self rfl
      · unfold M_FB_rank
        rw [q_checkFeast i rf, if_pos c1, xb0, q_checkNumber rn (by omega) (by omega), if_pos c2, xb0, pu_rd (by omega) (by omega), pu_bs, hfe.1, g1, pu_bs, e1, pu_bs]
      · have h84 : hC 84 = h 84 := by rw [ch.fr 84 (by omega) (by omega) (by omega), g2 84 (by omega)]
        have w84 : hs hC 96 0 (nrm (fq (h 84) f.toNat 0)) 84 = h 84 := by rw [hs_cell (by omega)]; exact h84
        have ei : ((43 : Int) + 7 * f + 0).toNat = 43 + 7 * f.toNat + 0 := by omega
        refine ⟨hs M 84 (43 + 7 * f.toNat + 0) n, ?_, by rw [hs_up, M84], fun c hc => hs_cell hc⟩
        unfold M_Md_rank
        rw [q_isFeastW (by rw [w84]; exact hm) rf, pu_bs, w84, if_pos c1, pu_lt, if_neg ne10, m_isIn (by omega) (by omega) (by omega) (by omega) (by omega) (by omega), pu_bs, if_pos c2, if_neg ne10]
        refine jt0.trans ?_
        unfold M_Md_tells
        rw [m1, pu_bs, pu_rd (by omega) (by omega), pu_bs, pu_wr (by omega) (by omega), pu_bs, pu_bs, ei, M84]
        rfl
    · refine fin_case (R := fun g => M_Md_rank N g f n) (code := 3) (v := 0) (hC := h) (idx := 2) ?_ i rfl (Or.inr ⟨by omega, rfl, by omega, by omega⟩) (fun g gi g84 => ?_) k
      · unfold M_FB_rank
        rw [q_checkFeast i rf, if_pos c1, xb0, q_checkNumber rn (by omega) (by omega), if_neg c2, xbn (by omega)]
      · refine ⟨0, hs g 83 0 2, ?_, Fz_thrown, hs_at, fun z => by omega⟩
        unfold M_Md_rank
        rw [q_isFeast gi rf, pu_bs, g84, if_pos c1, pu_lt, if_neg ne10, m_isIn (by omega) (by omega) (by omega) (by omega) (by omega) (by omega), pu_bs, if_neg c2, if_pos eq00]
        exact jtv (by omega)
  · refine fin_case (R := fun g => M_Md_rank N g f n) (code := 1) (v := 0) (hC := h) (idx := 1) ?_ i rfl (Or.inr ⟨by omega, rfl, by omega, by omega⟩) (fun g gi g84 => ?_) k
    · unfold M_FB_rank
      rw [q_checkFeast i rf, if_neg c1, xbn (by omega)]
    · refine ⟨0, hs g 83 0 1, ?_, Fz_thrown, hs_at, fun z => by omega⟩
      unfold M_Md_rank
      rw [q_isFeast gi rf, pu_bs, g84, if_neg c1, pu_lt, if_pos eq00]
      exact jtv (by omega)
theorem k_law (hN : 7000 < N) (i : Inv h) (hv : 0 ≤ v4 ∧ v4 + 6 ≤ L) (k : Hp → Option Int) : ∃ h', Inv h' ∧ Lw_case_14 N L xs v4 h k = k h' := by
  unfold Lw_case_14 M_Lw_law
  simp (disch := omega) only [rdX_ok hv, pu_bs]
  have rf := px_rg xs v4 1
  have rn := px_rg xs v4 2
  generalize px xs v4 1 = f at *
  generalize px xs v4 2 = n at *
  have hm := q_many i
  have rf' := rf
  have rn' := rn
  unfold rg at rf' rn'
  by_cases c1 : 0 ≤ f ∧ f < h 84 42
  · by_cases c2 : 0 ≤ n ∧ n ≤ 3
    · have ok := i.okf c1.2 c1.1
      have ef : ((f.toNat : Nat) : Int) = f := by omega
      have hf : ((f.toNat : Nat) : Int) < h 84 42 := by omega
      have hfe := cb_fea i.cb hf
      have ho := (ok.fea f.toNat hf).2.2.1
      have sz := i.pa.sz
      have plo := i.pa.lo
      have phi := i.pa.hi
      obtain ⟨g, g1, g2, g3, g4⟩ := c_remember (h := h) (by omega) (by omega) 1 f (-1) (fq (h 84) f.toNat 4)
      obtain ⟨hC, e1, ch⟩ := c_tellLaw (h := g) ok (CB_frame i.cb (fun c x1 x2 => g2 c (by omega))) hf (v := n)
      rw [ef] at e1
      refine ed_fin (N := N) (R := fun G => M_Md_law N G f n) (ans := fq (h 84) f.toNat 4) (by omega) i ok (up_okB ok (by omega) (up_law ok hf c2)) (up_cal 42 (by omega)) (z_up i.z84 (by omega)) up_cal6 (by omega) (fun _ => c1) (by omega) (by omega) ?_ g2 g3 g4 ch ?_ (fun M m1 M84 => ?_) k
      · unfold apU; rw [if_neg (by omega), if_pos rfl]; exact pu_self rfl
      · unfold M_FB_law
        rw [q_checkFeast i rf, if_pos c1, xb0, q_checkNumber rn (by omega) (by omega), if_pos c2, xb0, pu_rd (by omega) (by omega), pu_bs, hfe.2.2.2.1, g1, pu_bs, e1, pu_bs]
      · have h84 : hC 84 = h 84 := by rw [ch.fr 84 (by omega) (by omega) (by omega), g2 84 (by omega)]
        have w84 : hs hC 96 0 (nrm (fq (h 84) f.toNat 4)) 84 = h 84 := by rw [hs_cell (by omega)]; exact h84
        have ei : ((43 : Int) + 7 * f + 4).toNat = 43 + 7 * f.toNat + 4 := by omega
        refine ⟨hs M 84 (43 + 7 * f.toNat + 4) n, ?_, by rw [hs_up, M84], fun c hc => hs_cell hc⟩
        unfold M_Md_law
        rw [q_isFeastW (by rw [w84]; exact hm) rf, pu_bs, w84, if_pos c1, pu_lt, if_neg ne10, m_isIn (by omega) (by omega) (by omega) (by omega) (by omega) (by omega), pu_bs, if_pos c2, if_neg ne10]
        refine jt0.trans ?_
        unfold M_Md_tells
        rw [m1, pu_bs, pu_rd (by omega) (by omega), pu_bs, pu_wr (by omega) (by omega), pu_bs, pu_bs, ei, M84]
        rfl
    · refine fin_case (R := fun g => M_Md_law N g f n) (code := 3) (v := 0) (hC := h) (idx := 2) ?_ i rfl (Or.inr ⟨by omega, rfl, by omega, by omega⟩) (fun g gi g84 => ?_) k
      · unfold M_FB_law
        rw [q_checkFeast i rf, if_pos c1, xb0, q_checkNumber rn (by omega) (by omega), if_neg c2, xbn (by omega)]
      · refine ⟨0, hs g 83 0 2, ?_, Fz_thrown, hs_at, fun z => by omega⟩
        unfold M_Md_law
        rw [q_isFeast gi rf, pu_bs, g84, if_pos c1, pu_lt, if_neg ne10, m_isIn (by omega) (by omega) (by omega) (by omega) (by omega) (by omega), pu_bs, if_neg c2, if_pos eq00]
        exact jtv (by omega)
  · refine fin_case (R := fun g => M_Md_law N g f n) (code := 1) (v := 0) (hC := h) (idx := 1) ?_ i rfl (Or.inr ⟨by omega, rfl, by omega, by omega⟩) (fun g gi g84 => ?_) k
    · unfold M_FB_law
      rw [q_checkFeast i rf, if_neg c1, xbn (by omega)]
    · refine ⟨0, hs g 83 0 1, ?_, Fz_thrown, hs_at, fun z => by omega⟩
      unfold M_Md_law
      rw [q_isFeast gi rf, pu_bs, g84, if_neg c1, pu_lt, if_pos eq00]
      exact jtv (by omega)
theorem k_reach (hN : 7000 < N) (i : Inv h) (hv : 0 ≤ v4 ∧ v4 + 6 ≤ L) (k : Hp → Option Int) : ∃ h', Inv h' ∧ Lw_case_16 N L xs v4 h k = k h' := by
  unfold Lw_case_16 M_Lw_reach
  simp (disch := omega) only [rdX_ok hv, pu_bs]
  have rn := px_rg xs v4 1
  generalize px xs v4 1 = n at *
  have rn' := rn
  unfold rg at rn'
  by_cases c1 : 0 < h 84 0
  · by_cases c2 : 1 ≤ n ∧ n ≤ 60
    · have ok := i.okb c1
      have hwk := ok.week
      have hrc := ok.rch
      have hm := ok.many
      have sz := i.pa.sz
      have plo := i.pa.lo
      have phi := i.pa.hi
      obtain ⟨g, g1, g2, g3, g4⟩ := c_remember (h := h) (by omega) (by omega) 3 (-1) (-1) (h 84 16)
      obtain ⟨hC, e1, ch⟩ := c_tellReach (h := g) ok (CB_frame i.cb (fun c x1 x2 => g2 c (by omega))) (v := n)
      have hcal : ∀ k, k < 43 → k ≠ 16 → pu_up (h 84) 16 n k = h 84 k := fun k _ hk => pu_up_ne hk
      have hq : ∀ o w : Nat, fq (pu_up (h 84) 16 n) o w = fq (h 84) o w := fun o w => by unfold fq; exact pu_up_ne (by omega)
      have ok' : OkB (pu_up (h 84) 16 n) := OkB_cg ok hcal (by rw [pu_up_at]; exact c2) (fun o ho => okF_cg ok hcal ho (fun w _ => hq o w))
      refine ed_fin (N := N) (R := fun G => M_Md_reach N G n) (ans := h 84 16) (by omega) i ok ok' (pu_up_ne (by omega)) (z_up i.z84 (by omega)) hcal (by omega) (fun z => by omega) (by omega) (by omega) ?_ g2 g3 g4 ch ?_ (fun M m1 M84 => ?_) k
      · unfold apU; rw [if_neg (by omega), if_neg (by omega), if_neg (by omega)]; exact pu_self rfl
      · unfold M_FB_reach
        rw [q_checkBook i, if_pos c1, xb0, q_checkNumber rn (by omega) (by omega), if_pos c2, xb0, i.cb.rch, g1, pu_bs, e1, pu_bs]
      · have h84 : hC 84 = h 84 := by rw [ch.fr 84 (by omega) (by omega) (by omega), g2 84 (by omega)]
        have w84 : hs hC 96 0 (nrm (h 84 16)) 84 = h 84 := by rw [hs_cell (by omega)]; exact h84
        refine ⟨hs M 84 16 n, ?_, by rw [hs_up, M84], fun c hc => hs_cell hc⟩
        have hB : M_Md_hasBook (hs hC 96 0 (nrm (h 84 16))) = some 1 := by
          unfold M_Md_hasBook
          rw [pu_rd (by omega) (by omega), pu_bs, show Int.toNat 0 = 0 from rfl, w84]
          simp (disch := omega) only [leb_iff, ltb_iff, eqb_iff, pu_rmP, pu_dvP, pu_bs, pu_b0, pu_b1, pu_c0, pu_c1, pu_lt, pu_rdN, pu_wrN, hs_at, hs_cell, hs_slot, if_true, if_false, true_and, and_true, pu_rd, pu_wr, Int.reduceToNat, Int.toNat_natCast, decide_eq_true_eq, Int.add_zero, Bool.false_eq_true, if_pos, if_neg]
        unfold M_Md_reach
        rw [hB, pu_bs, if_neg ne10, m_isIn (by omega) (by omega) (by omega) (by omega) (by omega) (by omega), pu_bs, if_pos c2, if_neg ne10, jt0]
        unfold M_Md_tells
        rw [m1, pu_bs, pu_rd (by omega) (by omega), pu_bs, pu_wr (by omega) (by omega), pu_bs, pu_bs, show Int.toNat 16 = 16 from rfl, M84]
    · refine fin_case (R := fun g => M_Md_reach N g n) (code := 3) (v := 0) (hC := h) (idx := 2) ?_ i rfl (Or.inr ⟨by omega, rfl, by omega, by omega⟩) (fun g gi g84 => ?_) k
      · unfold M_FB_reach
        rw [q_checkBook i, if_pos c1, xb0, q_checkNumber rn (by omega) (by omega), if_neg c2, xbn (by omega)]
      · refine ⟨0, hs g 83 0 2, ?_, Fz_thrown, hs_at, fun z => by omega⟩
        unfold M_Md_reach
        rw [q_hasBook gi, pu_bs, g84, if_pos c1, if_neg ne10, m_isIn (by omega) (by omega) (by omega) (by omega) (by omega) (by omega), pu_bs, if_neg c2, if_pos eq00]
        exact jtv (by omega)
  · refine fin_case (R := fun g => M_Md_reach N g n) (code := 4) (v := 0) (hC := h) (idx := 1) ?_ i rfl (Or.inr ⟨by omega, rfl, by omega, by omega⟩) (fun g gi g84 => ?_) k
    · unfold M_FB_reach
      rw [q_checkBook i, if_neg c1, xbn (by omega)]
    · refine ⟨0, hs g 83 0 1, ?_, Fz_thrown, hs_at, fun z => by omega⟩
      unfold M_Md_reach
      rw [q_hasBook gi, pu_bs, g84, if_neg c1, if_pos eq00]
      exact jtv (by omega)
end Ej
