section Te
variable {b b' : Nat → Int} {h h' : Hp} {N : Nat}
theorem CB_fea (ok : OkB b) (cb : CB b h 23) (hcal : ∀ k, k < 43 → b' k = b k) (e : ∀ c, 23 ≤ c → c ≤ 33 → h' c = h c)
    (fea : ∀ f : Nat, (f : Int) < b 42 → h' 34 f = fq b' f 0 ∧ h' 35 f = fq b' f 2 ∧ h' 36 f = fq b' f 3 ∧ h' 37 f = fq b' f 4 ∧ h' 38 f = fq b' f 5 ∧ h' 39 f = fq b' f 6)
    (clm : ∀ f : Nat, (f : Int) < b 42 → h' 40 f = cl b' f) (rnk : ∀ f : Nat, (f : Int) < b 42 → h' 41 (above b' f).toNat = f) : CB b' h' 23 := by
  have hmo := ok.mon
  have hse := ok.nse
  have hcl := ok.ncl
  have e23 : h' 23 = h 23 := e 23 (by omega) (by omega)
  have hyd : yd b' = yd b := yd_cg ok (fun k hk _ => hcal k hk)
  refine CB.mk ?_ ?_ ?_ ?_ ?_ ?_ ?_ ?_ ?_ ?_ ?_ ?_ ?_ ?_ ?_ ?_ ?_ ?_ ?_ ?_ ?_ ?_ ?_
  · rw [e23, hcal 0 (by omega)]; exact cb.told
  · rw [e23, hcal 0 (by omega)]; exact cb.week
  · rw [e23, hcal 1 (by omega)]; exact cb.mon
  · rw [e23, hyd]; exact cb.yday
  · rw [e23, hcal 10 (by omega)]; exact cb.leap
  · rw [e23, hcal 11 (by omega)]; exact cb.lmon
  · rw [e23, hcal 12 (by omega)]; exact cb.cyc
  · rw [e23, hcal 13 (by omega)]; exact cb.fst
  · rw [e23, hcal 14 (by omega)]; exact cb.stp
  · rw [e23, hcal 15 (by omega)]; exact cb.spn
  · rw [e23, hcal 16 (by omega)]; exact cb.rch
  · rw [e23, hcal 19 (by omega)]; exact cb.rst
  · rw [e23, hcal 18 (by omega)]; exact cb.lft
  · rw [e23, hcal 17 (by omega)]; exact cb.fas
  · intro i hi; rw [hcal 1 (by omega)] at hi; rw [e 24 (by omega) (by omega), hcal (2 + i) (by omega)]; exact cb.days i hi
  · rw [e 25 (by omega) (by omega), hcal 20 (by omega)]; exact cb.nse
  · intro k hk; rw [hcal 20 (by omega)] at hk; rw [e 26 (by omega) (by omega), e 27 (by omega) (by omega), e 28 (by omega) (by omega), hcal (21 + 3 * k) (by omega), hcal (22 + 3 * k) (by omega), hcal (23 + 3 * k) (by omega)]; exact cb.sea k hk
  · rw [e 29 (by omega) (by omega), hcal 33 (by omega)]; exact cb.ncl
  · intro k hk; rw [hcal 33 (by omega)] at hk; rw [e 30 (by omega) (by omega), e 31 (by omega) (by omega), hcal (34 + 2 * k) (by omega), hcal (35 + 2 * k) (by omega)]; exact cb.clo k hk
  · rw [e 33 (by omega) (by omega), hcal 42 (by omega)]; exact cb.many
  · intro f hf; rw [hcal 42 (by omega)] at hf; exact fea f hf
  · intro f hf; rw [hcal 42 (by omega)] at hf; exact clm f hf
  · intro f hf; rw [hcal 42 (by omega)] at hf; exact rnk f hf
theorem above_cg (h42 : b' 42 = b 42) (hcl : ∀ f : Nat, (f : Int) < b 42 → cl b' f = cl b f) {f : Nat} (hf : (f : Int) < b 42) : above b' f = above b f := by
  unfold above
  rw [h42]
  exact cnt_congr (fun k hk => by rw [hcl f hf, hcl k (by omega)])
theorem RB_cg (ok : OkB b) (hc : ∀ k, k < 43 → k ≠ 16 → b' k = b k) (r : RB b h) (e3 : h' 73 3 = h 73 3) (e74 : h' 74 = h 74) (e75 : h' 75 = h 75) : RB b' h' := by
  refine RB.mk ?_ ?_ ?_
  · rw [e3, cyN_cg ok hc]; exact r.yrs
  · intro s hs; rw [e74, ofn_cg ok hc]; exact r.oft s hs
  · intro s hs hpos
    rw [ofn_cg ok hc] at hpos
    obtain ⟨y, y1, y2, y3, y4⟩ := r.fst s hs hpos
    exact ⟨y, by rw [e75]; exact y1, by rw [cyN_cg ok hc]; exact y2, by rw [sy_cg ok hc]; exact y3, fun z hz => by rw [sy_cg ok hc]; exact y4 z hz⟩
def fgt (h : Hp) : Hp := hs (hs (hs (hs h 66 2 (-1)) 66 3 (-1)) 73 6 0) 73 7 0
theorem c_forget : M_FB_forgetResults h = some (fgt h) := by
  unfold M_FB_forgetResults M_YearPlan_forget M_Round_forget fgt
  simp only [pu_lt, pu_bs, pu_c0]
theorem fgt_c {c : Nat} (h1 : c ≠ 66) (h2 : c ≠ 73) : fgt h c = h c := by
  unfold fgt; rw [hs_cell h2, hs_cell h2, hs_cell h1, hs_cell h1]
theorem fgt_66 : fgt h 66 2 = -1 ∧ fgt h 66 3 = -1 := by
  unfold fgt; simp (disch := omega) only [leb_iff, ltb_iff, eqb_iff, pu_rmP, pu_dvP, pu_bs, pu_b0, pu_b1, pu_c0, pu_c1, pu_lt, pu_rdN, pu_wrN, hs_at, hs_cell, hs_slot, if_true, if_false, true_and, and_true, pu_rd, pu_wr, Int.reduceToNat, Int.toNat_natCast, decide_eq_true_eq, Int.add_zero, Bool.false_eq_true, if_pos, if_neg]
theorem fgt_73 : fgt h 73 6 = 0 ∧ fgt h 73 7 = 0 ∧ (∀ j, j ≠ 6 → j ≠ 7 → fgt h 73 j = h 73 j) := by
  unfold fgt
  refine ⟨by simp (disch := omega) only [leb_iff, ltb_iff, eqb_iff, pu_rmP, pu_dvP, pu_bs, pu_b0, pu_b1, pu_c0, pu_c1, pu_lt, pu_rdN, pu_wrN, hs_at, hs_cell, hs_slot, if_true, if_false, true_and, and_true, pu_rd, pu_wr, Int.reduceToNat, Int.toNat_natCast, decide_eq_true_eq, Int.add_zero, Bool.false_eq_true, if_pos, if_neg], by simp (disch := omega) only [leb_iff, ltb_iff, eqb_iff, pu_rmP, pu_dvP, pu_bs, pu_b0, pu_b1, pu_c0, pu_c1, pu_lt, pu_rdN, pu_wrN, hs_at, hs_cell, hs_slot, if_true, if_false, true_and, and_true, pu_rd, pu_wr, Int.reduceToNat, Int.toNat_natCast, decide_eq_true_eq, Int.add_zero, Bool.false_eq_true, if_pos, if_neg], fun j h1 h2 => ?_⟩
  rw [hs_slot h2, hs_slot h1, hs_cell (by omega), hs_cell (by omega)]
def Chg (b b' : Nat → Int) (h h' : Hp) : Prop := (CB b' h' 23) ∧ (∀ c, (c < 23 ∨ 41 < c) → c ≠ 66 → c ≠ 73 → h' c = h c) ∧ (h' 66 2 = -1) ∧ (h' 66 3 = -1) ∧ (h' 73 6 = 0) ∧ (h' 73 7 = 0) ∧ (∀ j, j ≠ 6 → j ≠ 7 → h' 73 j = h 73 j)
theorem Chg.cb {b b' : Nat → Int} {h h' : Hp} (q_ : Chg b b' h h') : CB b' h' 23 := q_.1
theorem Chg.fr {b b' : Nat → Int} {h h' : Hp} (q_ : Chg b b' h h') : ∀ c, (c < 23 ∨ 41 < c) → c ≠ 66 → c ≠ 73 → h' c = h c := q_.2.1
theorem Chg.p2 {b b' : Nat → Int} {h h' : Hp} (q_ : Chg b b' h h') : h' 66 2 = -1 := q_.2.2.1
theorem Chg.p3 {b b' : Nat → Int} {h h' : Hp} (q_ : Chg b b' h h') : h' 66 3 = -1 := q_.2.2.2.1
theorem Chg.r6 {b b' : Nat → Int} {h h' : Hp} (q_ : Chg b b' h h') : h' 73 6 = 0 := q_.2.2.2.2.1
theorem Chg.r7 {b b' : Nat → Int} {h h' : Hp} (q_ : Chg b b' h h') : h' 73 7 = 0 := q_.2.2.2.2.2.1
theorem Chg.rj {b b' : Nat → Int} {h h' : Hp} (q_ : Chg b b' h h') : ∀ j, j ≠ 6 → j ≠ 7 → h' 73 j = h 73 j := q_.2.2.2.2.2.2
theorem Chg.mk {b b' : Nat → Int} {h h' : Hp} (cb_ : CB b' h' 23) (fr_ : ∀ c, (c < 23 ∨ 41 < c) → c ≠ 66 → c ≠ 73 → h' c = h c) (p2_ : h' 66 2 = -1) (p3_ : h' 66 3 = -1) (r6_ : h' 73 6 = 0) (r7_ : h' 73 7 = 0) (rj_ : ∀ j, j ≠ 6 → j ≠ 7 → h' 73 j = h 73 j) : Chg b b' h h' := ⟨cb_, fr_, p2_, p3_, r6_, r7_, rj_⟩
theorem c_tellRank (hN : 100 < N) (ok : OkB b) (cb : CB b h 23) {f : Nat} (hf : (f : Int) < b 42) {v : Int} (hv : 1 ≤ v ∧ v ≤ 9) : ∃ h', M_FB_tellRank N h f v = some h' ∧ Chg b (pu_up b (43 + 7 * f + 0) v) h h' := by
  have hm := ok.many
  have ok' := up_okB ok (f := f) (w := 0) (by omega) (up_rank ok hf hv)
  have h42 : pu_up b (43 + 7 * f + 0) v 42 = b 42 := up_cal 42 (by omega)
  have hm' := ok'.mon
  have q : ∀ o : Nat, ∀ u, u < 7 → fq (pu_up b (43 + 7 * f + 0) v) o u = if o = f ∧ u = 0 then v else fq b o u := fun o u hu => up_fq (by omega) hu
  unfold M_FB_tellRank
  rw [pu_wrN (by omega), pu_bs]
  have hrk : ∀ o : Nat, (o : Int) < b 42 → hs h 34 f v 34 o = fq (pu_up b (43 + 7 * f + 0) v) o 0 ∧ hs h 34 f v 35 o = fq (pu_up b (43 + 7 * f + 0) v) o 2 := by
    intro o ho
    have hfe := cb_fea cb ho
    rw [q o 0 (by omega), q o 2 (by omega), hs_cell (c := 34) (c' := 35) (by omega), hfe.2.1, hs_up]
    unfold pu_up
    by_cases e : o = f
    · rw [if_pos e, if_pos ⟨e, rfl⟩, if_neg (by omega)]; exact ⟨rfl, rfl⟩
    · rw [if_neg e, if_neg (fun z => e z.1), if_neg (fun z => e z.1), hfe.1]; exact ⟨rfl, rfl⟩
  obtain ⟨g, e1, e2, e3, e4⟩ := c_sortByClaim (h := hs h 34 f v) (N := N) (F := 33) (b := pu_up b (43 + 7 * f + 0) v) (by omega) (by rw [h42]; exact hm.1) (by rw [h42]; exact hm.2) ok'.fea hm'.2 (by rw [h42, hs_cell (by omega)]; exact cb_many cb) (fun o ho => by rw [h42] at ho; exact hrk o ho)
  rw [e1, pu_bs, c_forget, pu_bs]
  rw [h42] at e3 e4
  have gc : ∀ c, c ≠ 34 → c ≠ 40 → c ≠ 41 → g c = h c := fun c c1 c2 c3 => by rw [e2 c (by omega) (by omega), hs_cell c1]
  refine ⟨fgt g, rfl, Chg.mk ?_ ?_ fgt_66.1 fgt_66.2 fgt_73.1 fgt_73.2.1 ?_⟩
  · refine CB_fea ok cb up_cal (fun c c1 c2 => by rw [fgt_c (by omega) (by omega)]; exact gc c (by omega) (by omega) (by omega)) (fun o ho => ?_) (fun o ho => by rw [fgt_c (by omega) (by omega)]; exact e3 o ho) (fun o ho => by rw [fgt_c (by omega) (by omega)]; exact e4 o ho)
    have hfe := cb_fea cb ho
    have hr := hrk o ho
    rw [fgt_c (by omega) (by omega), fgt_c (by omega) (by omega), fgt_c (by omega) (by omega), fgt_c (by omega) (by omega), fgt_c (by omega) (by omega), fgt_c (by omega) (by omega)]
    rw [e2 34 (by omega) (by omega), hr.1, gc 35 (by omega) (by omega) (by omega), gc 36 (by omega) (by omega) (by omega), gc 37 (by omega) (by omega) (by omega), gc 38 (by omega) (by omega) (by omega), gc 39 (by omega) (by omega) (by omega), q o 2 (by omega), q o 3 (by omega), q o 4 (by omega), q o 5 (by omega), q o 6 (by omega)]
    simp only [show ¬ (2 = 0) by omega, show ¬ (3 = 0) by omega, show ¬ (4 = 0) by omega, show ¬ (5 = 0) by omega, show ¬ (6 = 0) by omega, and_false, if_false]
    exact ⟨trivial, hfe.2⟩
  · intro c hc c1 c2; rw [fgt_c c1 c2]; exact gc c (by omega) (by omega) (by omega)
  · intro j j1 j2; rw [fgt_73.2.2 j j1 j2, gc 73 (by omega) (by omega) (by omega)]
theorem c_tellLaw (ok : OkB b) (cb : CB b h 23) {f : Nat} (hf : (f : Int) < b 42) {v : Int} : ∃ h', M_FB_tellLaw h f v = some h' ∧ Chg b (pu_up b (43 + 7 * f + 4) v) h h' := by
  have hm := ok.many
  have q : ∀ o : Nat, ∀ u, u < 7 → fq (pu_up b (43 + 7 * f + 4) v) o u = if o = f ∧ u = 4 then v else fq b o u := fun o u hu => up_fq (by omega) hu
  have hcl : ∀ o : Nat, (o : Int) < b 42 → cl (pu_up b (43 + 7 * f + 4) v) o = cl b o := fun o ho => by
    unfold cl; rw [q o 0 (by omega), q o 1 (by omega), if_neg (by omega), if_neg (by omega)]
  unfold M_FB_tellLaw
  rw [pu_wrN (by omega), pu_bs, c_forget, pu_bs]
  refine ⟨fgt (hs h 37 f v), rfl, Chg.mk ?_ ?_ fgt_66.1 fgt_66.2 fgt_73.1 fgt_73.2.1 ?_⟩
  · refine CB_fea ok cb up_cal (fun c c1 c2 => by rw [fgt_c (by omega) (by omega), hs_cell (by omega)]) (fun o ho => ?_) (fun o ho => by rw [fgt_c (by omega) (by omega), hs_cell (by omega), hcl o ho]; exact cb_clm cb ho) (fun o ho => by rw [fgt_c (by omega) (by omega), hs_cell (by omega), above_cg (up_cal 42 (by omega)) hcl ho]; exact cb.rnk o ho)
    have hfe := cb_fea cb ho
    rw [fgt_c (by omega) (by omega), fgt_c (by omega) (by omega), fgt_c (by omega) (by omega), fgt_c (by omega) (by omega), fgt_c (by omega) (by omega), fgt_c (by omega) (by omega)]
    rw [hs_cell (by omega), hs_cell (by omega), hs_cell (by omega), hs_cell (c := 37) (c' := 38) (by omega), hs_cell (c := 37) (c' := 39) (by omega), hs_up, q o 0 (by omega), q o 2 (by omega), q o 3 (by omega), q o 4 (by omega), q o 5 (by omega), q o 6 (by omega)]
    simp only [show ¬ (0 = 4) by omega, show ¬ (2 = 4) by omega, show ¬ (3 = 4) by omega, show ¬ (5 = 4) by omega, show ¬ (6 = 4) by omega, and_false, if_false, and_true]
    unfold pu_up
    refine ⟨hfe.1, hfe.2.1, hfe.2.2.1, ?_, hfe.2.2.2.2⟩
    split
    · rfl
    · exact hfe.2.2.2.1
  · intro c hc c1 c2; rw [fgt_c c1 c2, hs_cell (by omega)]
  · intro j j1 j2; rw [fgt_73.2.2 j j1 j2, hs_cell (by omega)]
theorem c_tellDay (ok : OkB b) (cb : CB b h 23) {f : Nat} (hf : (f : Int) < b 42) {m v : Int} : ∃ h', M_FB_tellDay h f m v = some h' ∧ Chg b (pu_up (pu_up b (43 + 7 * f + 2) m) (43 + 7 * f + 3) v) h h' := by
  have hm := ok.many
  have q : ∀ o : Nat, ∀ u, u < 7 → fq (pu_up (pu_up b (43 + 7 * f + 2) m) (43 + 7 * f + 3) v) o u = if o = f ∧ u = 3 then v else if o = f ∧ u = 2 then m else fq b o u := fun o u hu => by rw [up_fq (by omega) hu, up_fq (by omega) hu]
  have hcal : ∀ k, k < 43 → pu_up (pu_up b (43 + 7 * f + 2) m) (43 + 7 * f + 3) v k = b k := fun k hk => by rw [up_cal k hk, up_cal k hk]
  have hcl : ∀ o : Nat, (o : Int) < b 42 → cl (pu_up (pu_up b (43 + 7 * f + 2) m) (43 + 7 * f + 3) v) o = cl b o := fun o ho => by
    unfold cl; rw [q o 0 (by omega), q o 1 (by omega), if_neg (by omega), if_neg (by omega), if_neg (by omega), if_neg (by omega)]
  unfold M_FB_tellDay
  rw [pu_wrN (by omega), pu_bs, pu_wrN (by omega), pu_bs, c_forget, pu_bs]
  refine ⟨fgt (hs (hs h 35 f m) 36 f v), rfl, Chg.mk ?_ ?_ fgt_66.1 fgt_66.2 fgt_73.1 fgt_73.2.1 ?_⟩
  · refine CB_fea ok cb hcal (fun c c1 c2 => by rw [fgt_c (by omega) (by omega), hs_cell (by omega), hs_cell (by omega)]) (fun o ho => ?_) (fun o ho => by rw [fgt_c (by omega) (by omega), hs_cell (by omega), hs_cell (by omega), hcl o ho]; exact cb_clm cb ho) (fun o ho => by rw [fgt_c (by omega) (by omega), hs_cell (by omega), hs_cell (by omega), above_cg (hcal 42 (by omega)) hcl ho]; exact cb.rnk o ho)
    have hfe := cb_fea cb ho
    rw [fgt_c (by omega) (by omega), fgt_c (by omega) (by omega), fgt_c (by omega) (by omega), fgt_c (by omega) (by omega), fgt_c (by omega) (by omega), fgt_c (by omega) (by omega)]
    have r35 : hs (hs h 35 f m) 36 f v 35 o = if o = f then m else h 35 o := by rw [hs_cell (by omega), hs_up]; rfl
    have r36 : hs (hs h 35 f m) 36 f v 36 o = if o = f then v else h 36 o := by rw [hs_up, hs_cell (by omega)]; rfl
    have rx : ∀ c, c ≠ 35 → c ≠ 36 → hs (hs h 35 f m) 36 f v c o = h c o := fun c c1 c2 => by rw [hs_cell c2, hs_cell c1]
    rw [r35, r36, rx 34 (by omega) (by omega), rx 37 (by omega) (by omega), rx 38 (by omega) (by omega), rx 39 (by omega) (by omega), q o 0 (by omega), q o 2 (by omega), q o 3 (by omega), q o 4 (by omega), q o 5 (by omega), q o 6 (by omega)]
    simp only [show ¬ (0 = 3) by omega, show ¬ (0 = 2) by omega, show ¬ (2 = 3) by omega, show ¬ (3 = 2) by omega, show ¬ (4 = 3) by omega, show ¬ (4 = 2) by omega, show ¬ (5 = 3) by omega, show ¬ (5 = 2) by omega, show ¬ (6 = 3) by omega, show ¬ (6 = 2) by omega, and_false, if_false, and_true]
    refine ⟨hfe.1, ?_, ?_, hfe.2.2.2⟩
    · split
      · rfl
      · exact hfe.2.1
    · split
      · rfl
      · exact hfe.2.2.1
  · intro c hc c1 c2; rw [fgt_c c1 c2, hs_cell (by omega), hs_cell (by omega)]
  · intro j j1 j2; rw [fgt_73.2.2 j j1 j2, hs_cell (by omega), hs_cell (by omega)]
theorem c_tellReach (ok : OkB b) (cb : CB b h 23) {v : Int} : ∃ h', M_FB_tellReach h v = some h' ∧ Chg b (pu_up b 16 v) h h' := by
  have hmo := ok.mon
  have hse := ok.nse
  have hcl := ok.ncl
  have hm := ok.many
  unfold M_FB_tellReach
  rw [pu_lt, c_forget, pu_bs]
  have e23 : ∀ j, j ≠ 10 → fgt (hs h 23 10 v) 23 j = h 23 j := fun j hj => by rw [fgt_c (by omega) (by omega), hs_slot hj]
  have ec : ∀ c, c ≠ 23 → c ≠ 66 → c ≠ 73 → fgt (hs h 23 10 v) c = h c := fun c c1 c2 c3 => by rw [fgt_c c2 c3, hs_cell c1]
  have hb : ∀ k, k ≠ 16 → pu_up b 16 v k = b k := fun k hk => pu_up_ne hk
  have hq : ∀ f w : Nat, fq (pu_up b 16 v) f w = fq b f w := fun f w => by unfold fq; exact hb _ (by omega)
  have hyd : yd (pu_up b 16 v) = yd b := yd_cg ok (fun k _ hk => hb k hk)
  have hcl2 : ∀ f : Nat, cl (pu_up b 16 v) f = cl b f := fun f => by unfold cl; rw [hq, hq]
  have hab : ∀ f : Nat, (f : Int) < b 42 → above (pu_up b 16 v) f = above b f := fun f hf => above_cg (hb 42 (by omega)) (fun o _ => hcl2 o) hf
  refine ⟨fgt (hs h 23 10 v), rfl, Chg.mk ?_ ?_ fgt_66.1 fgt_66.2 fgt_73.1 fgt_73.2.1 ?_⟩
  · refine CB.mk ?_ ?_ ?_ ?_ ?_ ?_ ?_ ?_ ?_ ?_ ?_ ?_ ?_ ?_ ?_ ?_ ?_ ?_ ?_ ?_ ?_ ?_ ?_
    · rw [e23 0 (by omega), hb 0 (by omega)]; exact cb.told
    · rw [e23 1 (by omega), hb 0 (by omega)]; exact cb.week
    · rw [e23 2 (by omega), hb 1 (by omega)]; exact cb.mon
    · rw [e23 3 (by omega), hyd]; exact cb.yday
    · rw [e23 4 (by omega), hb 10 (by omega)]; exact cb.leap
    · rw [e23 5 (by omega), hb 11 (by omega)]; exact cb.lmon
    · rw [e23 6 (by omega), hb 12 (by omega)]; exact cb.cyc
    · rw [e23 7 (by omega), hb 13 (by omega)]; exact cb.fst
    · rw [e23 8 (by omega), hb 14 (by omega)]; exact cb.stp
    · rw [e23 9 (by omega), hb 15 (by omega)]; exact cb.spn
    · rw [fgt_c (by omega) (by omega), hs_at, pu_up_at]
    · rw [e23 11 (by omega), hb 19 (by omega)]; exact cb.rst
    · rw [e23 12 (by omega), hb 18 (by omega)]; exact cb.lft
    · rw [e23 13 (by omega), hb 17 (by omega)]; exact cb.fas
    · intro i hi; rw [hb 1 (by omega)] at hi; rw [ec 24 (by omega) (by omega) (by omega), hb (2 + i) (by omega)]; exact cb.days i hi
    · rw [ec 25 (by omega) (by omega) (by omega), hb 20 (by omega)]; exact cb.nse
    · intro k hk; rw [hb 20 (by omega)] at hk; rw [ec 26 (by omega) (by omega) (by omega), ec 27 (by omega) (by omega) (by omega), ec 28 (by omega) (by omega) (by omega), hb (21 + 3 * k) (by omega), hb (22 + 3 * k) (by omega), hb (23 + 3 * k) (by omega)]; exact cb.sea k hk
    · rw [ec 29 (by omega) (by omega) (by omega), hb 33 (by omega)]; exact cb.ncl
    · intro k hk; rw [hb 33 (by omega)] at hk; rw [ec 30 (by omega) (by omega) (by omega), ec 31 (by omega) (by omega) (by omega), hb (34 + 2 * k) (by omega), hb (35 + 2 * k) (by omega)]; exact cb.clo k hk
    · rw [ec 33 (by omega) (by omega) (by omega), hb 42 (by omega)]; exact cb.many
    · intro f hf; rw [hb 42 (by omega)] at hf; rw [ec 34 (by omega) (by omega) (by omega), ec 35 (by omega) (by omega) (by omega), ec 36 (by omega) (by omega) (by omega), ec 37 (by omega) (by omega) (by omega), ec 38 (by omega) (by omega) (by omega), ec 39 (by omega) (by omega) (by omega), hq, hq, hq, hq, hq, hq]; exact cb.fea f hf
    · intro f hf; rw [hb 42 (by omega)] at hf; rw [ec 40 (by omega) (by omega) (by omega), hcl2]; exact cb.clm f hf
    · intro f hf; rw [hb 42 (by omega)] at hf; rw [ec 41 (by omega) (by omega) (by omega), hab f hf]; exact cb.rnk f hf
  · intro c hc c1 c2; exact ec c (by omega) c1 c2
  · intro j j1 j2; rw [fgt_73.2.2 j j1 j2, hs_cell (by omega)]
end Te
