section Cg
variable {b b' : Nat → Int} {l p : Int}
theorem msum_cg (hc : ∀ k, k < 43 → k ≠ 16 → b' k = b k) : ∀ n : Nat, n ≤ 12 → msum b' n = msum b n
  | 0, _ => rfl
  | n + 1, h => by rw [msum, msum, msum_cg hc n (by omega), hc (2 + n) (by omega) (by omega)]
theorem yd_cg (ok : OkB b) (hc : ∀ k, k < 43 → k ≠ 16 → b' k = b k) : yd b' = yd b := by
  have := ok.mon
  unfold yd
  rw [hc 1 (by omega) (by omega), msum_cg hc _ (by omega)]
theorem lp_cg (hc : ∀ k, k < 43 → k ≠ 16 → b' k = b k) (y : Int) : lp b' y = lp b y := by
  unfold lp isL; rw [hc 10 (by omega) (by omega)]
theorem ahd_cg (ok : OkB b) (hc : ∀ k, k < 43 → k ≠ 16 → b' k = b k) (y : Int) : ahd b' y = ahd b y := by
  unfold ahd; rw [hc 10 (by omega) (by omega), yd_cg ok hc]
theorem wdy_cg (ok : OkB b) (hc : ∀ k, k < 43 → k ≠ 16 → b' k = b k) (y : Int) : wdy b' y = wdy b y := by
  unfold wdy; rw [hc 0 (by omega) (by omega), ahd_cg ok hc]
theorem ful_cg (hc : ∀ k, k < 43 → k ≠ 16 → b' k = b k) (y : Int) : ful b' y = ful b y := by
  unfold ful; rw [hc 13 (by omega) (by omega), hc 14 (by omega) (by omega), hc 12 (by omega) (by omega), hc 15 (by omega) (by omega)]
theorem psc_cg (ok : OkB b) (hc : ∀ k, k < 43 → k ≠ 16 → b' k = b k) (y : Int) : psc b' y = psc b y := by
  unfold psc; rw [ful_cg hc, wdy_cg ok hc, hc 0 (by omega) (by omega)]
theorem srt_cg (ok : OkB b) (hc : ∀ k, k < 43 → k ≠ 16 → b' k = b k) (y : Int) : srt b' y = srt b y := by
  unfold srt; rw [psc_cg ok hc, lp_cg hc, hc 13 (by omega) (by omega)]
theorem sy_cg (ok : OkB b) (hc : ∀ k, k < 43 → k ≠ 16 → b' k = b k) (y : Nat) : sy b' y = sy b y := by
  unfold sy; rw [srt_cg ok hc]
theorem cyN_cg (ok : OkB b) (hc : ∀ k, k < 43 → k ≠ 16 → b' k = b k) : cyN b' = cyN b := by
  have e1 : lpy b' = lpy b := by unfold lpy; rw [hc 10 (by omega) (by omega)]
  have e2 : cy1 b' = cy1 b := by unfold cy1; rw [hc 12 (by omega) (by omega), e1]
  unfold cyN; rw [e2, hc 0 (by omega) (by omega), ahd_cg ok hc]
theorem ofn_cg (ok : OkB b) (hc : ∀ k, k < 43 → k ≠ 16 → b' k = b k) (s : Nat) : ofn b' s = ofn b s := by
  unfold ofn; rw [cyN_cg ok hc]
  exact cnt_congr (fun y _ => by rw [sy_cg ok hc])
theorem spc_cg (hc : ∀ k, k < 43 → k ≠ 16 → b' k = b k) (s : Nat) : spc b' s = spc b s := by
  unfold spc; rw [hc 13 (by omega) (by omega)]
theorem sr_cg (ok : OkB b) (hc : ∀ k, k < 43 → k ≠ 16 → b' k = b k) (x : Int) : sr b' x = sr b x := by
  have key : ∀ n : Nat, n ≤ 4 → sp_sr b' x n = sp_sr b x n := by
    intro n
    induction n with
    | zero => intro _; exact hc 19 (by omega) (by omega)
    | succ n ih => intro h; rw [sp_sr, sp_sr, ih (by omega), hc (21 + 3 * n) (by omega) (by omega), hc (22 + 3 * n) (by omega) (by omega), hc (23 + 3 * n) (by omega) (by omega)]
  have := ok.nse
  unfold sr
  rw [hc 20 (by omega) (by omega), key _ (by omega)]
theorem b0f_cg (ok : OkB b) (hc : ∀ k, k < 43 → k ≠ 16 → b' k = b k) (p d : Int) : b0f b' p d = b0f b p d := by
  unfold b0f; rw [hc 0 (by omega) (by omega), sr_cg ok hc]
theorem ms_cg (hc : ∀ k, k < 43 → k ≠ 16 → b' k = b k) {m : Nat} (hm : m ≤ 8) : sp_ms b' l m = sp_ms b l m := by
  unfold sp_ms; rw [msum_cg hc m (by omega), hc 11 (by omega) (by omega)]
theorem td_cg (ok : OkB b) (hc : ∀ k, k < 43 → k ≠ 16 → b' k = b k) {o : Nat} (ho : (o : Int) < b 42) (hq : ∀ w, w < 7 → fq b' o w = fq b o w) : sp_td b' l p o = sp_td b l p o := by
  have hmo := ok.mon
  unfold sp_td
  rw [hq 1 (by omega), hq 2 (by omega), hq 3 (by omega)]
  rcases (ok.fea o ho).2.1 with e | e
  · rw [if_pos e.1, if_pos e.1]
  · rw [if_neg (by omega), if_neg (by omega), ms_cg hc (by omega)]
theorem dyf_cg (ok : OkB b) (hc : ∀ k, k < 43 → k ≠ 16 → b' k = b k) {o : Nat} (ho : (o : Int) < b 42) (hq : ∀ w, w < 7 → fq b' o w = fq b o w) : dyf b' l p o = dyf b l p o := by
  unfold dyf; rw [td_cg ok hc ho hq, yd_cg ok hc]
theorem vgf_cg (ok : OkB b) (hc : ∀ k, k < 43 → k ≠ 16 → b' k = b k) {o : Nat} (ho : (o : Int) < b 42) (hq : ∀ w, w < 7 → fq b' o w = fq b o w) : vgf b' l p o = vgf b l p o := by
  unfold vgf; rw [dyf_cg ok hc ho hq, hq 5 (by omega), hc 0 (by omega) (by omega)]
theorem clo_cg (ok : OkB b) (hc : ∀ k, k < 43 → k ≠ 16 → b' k = b k) {o : Nat} (ho : (o : Int) < b 42) (hq : ∀ w, w < 7 → fq b' o w = fq b o w) (d : Int) : clo b' l p o d = clo b l p o d := by
  unfold clo cl kcl
  rw [dyf_cg ok hc ho hq, vgf_cg ok hc ho hq, hq 0 (by omega), hq 1 (by omega), hq 5 (by omega), hq 6 (by omega), hc 0 (by omega) (by omega)]
theorem gof_cg (ok : OkB b) (hc : ∀ k, k < 43 → k ≠ 16 → b' k = b k) {f : Nat} (hq : ∀ o : Nat, o ≠ f → ∀ w, w < 7 → fq b' o w = fq b o w) (d : Int) : ∀ n : Nat, (n : Int) ≤ b 42 → gof b' l p f d n = gof b l p f d n := by
  intro n
  induction n with
  | zero => intro _; exact b0f_cg ok hc p d
  | succ n ih =>
    intro hn
    rw [gof, gof, ih (by omega)]
    by_cases e : n = f
    · rw [if_pos e, if_pos e]
    · rw [if_neg e, if_neg e, dyf_cg ok hc (by omega) (hq n e), clo_cg ok hc (by omega) (hq n e)]
theorem OkB_cg (ok : OkB b) (hc : ∀ k, k < 43 → k ≠ 16 → b' k = b k) (hr : 1 ≤ b' 16 ∧ b' 16 ≤ 60) (hf : ∀ f : Nat, (f : Int) < b 42 → okF b' f) : OkB b' := by
  have hmo := ok.mon
  have hse := ok.nse
  have hcl := ok.ncl
  refine OkB.mk ?_ ?_ ?_ ?_ ?_ ?_ ?_ ?_ ?_ ?_ ?_ ?_ ?_ ?_ ?_ ?_ ?_ ?_ ?_ ?_
  · rw [hc 0 (by omega) (by omega)]; exact ok.week
  · rw [hc 1 (by omega) (by omega)]; exact ok.mon
  · intro i hi; rw [hc 1 (by omega) (by omega)] at hi; rw [hc (2 + i) (by omega) (by omega)]; exact ok.days i hi
  · rw [hc 10 (by omega) (by omega)]; exact ok.leap
  · rw [hc 11 (by omega) (by omega), hc 1 (by omega) (by omega)]; exact ok.lmon
  · rw [hc 12 (by omega) (by omega)]; exact ok.cyc
  · rw [hc 13 (by omega) (by omega)]; exact ok.fst
  · rw [hc 14 (by omega) (by omega)]; exact ok.stp
  · rw [hc 15 (by omega) (by omega)]; exact ok.spn
  · rw [hc 13 (by omega) (by omega), hc 15 (by omega) (by omega), hc 0 (by omega) (by omega), yd_cg ok hc]; exact ok.fit
  · exact hr
  · rw [hc 17 (by omega) (by omega)]; exact ok.fas
  · rw [hc 18 (by omega) (by omega)]; exact ok.lft
  · rw [hc 19 (by omega) (by omega)]; exact ok.rst
  · rw [hc 20 (by omega) (by omega)]; exact ok.nse
  · intro k hk; rw [hc 20 (by omega) (by omega)] at hk; rw [hc (21 + 3 * k) (by omega) (by omega), hc (22 + 3 * k) (by omega) (by omega), hc (23 + 3 * k) (by omega) (by omega)]; exact ok.sea k hk
  · rw [hc 33 (by omega) (by omega)]; exact ok.ncl
  · intro k hk; rw [hc 33 (by omega) (by omega)] at hk; rw [hc (34 + 2 * k) (by omega) (by omega), hc (35 + 2 * k) (by omega) (by omega)]; exact ok.clo k hk
  · rw [hc 42 (by omega) (by omega)]; exact ok.many
  · intro f hk; rw [hc 42 (by omega) (by omega)] at hk; exact hf f hk
theorem okF_cg (ok : OkB b) (hc : ∀ k, k < 43 → k ≠ 16 → b' k = b k) {o : Nat} (ho : (o : Int) < b 42) (hq : ∀ w, w < 7 → fq b' o w = fq b o w) : okF b' o := by
  have hmo := ok.mon
  have h := ok.fea o ho
  unfold okF at h ⊢
  rw [hq 0 (by omega), hq 1 (by omega), hq 2 (by omega), hq 3 (by omega), hq 4 (by omega), hq 5 (by omega), hq 6 (by omega), hc 1 (by omega) (by omega)]
  refine ⟨h.1, ?_, h.2.2⟩
  rcases h.2.1 with e | e
  · exact Or.inl e
  · refine Or.inr ⟨e.1, e.2.1, e.2.2.1, e.2.2.2.1, ?_⟩
    rw [hc (2 + (fq b o 2).toNat) (by omega) (by omega)]; exact e.2.2.2.2
end Cg
section Up
variable {b : Nat → Int} {l p : Int} {f : Nat}
theorem up_cal {w : Nat} {v : Int} : ∀ k, k < 43 → pu_up b (43 + 7 * f + w) v k = b k := fun k hk => pu_up_ne (by omega)
theorem up_cal6 {w : Nat} {v : Int} : ∀ k, k < 43 → k ≠ 16 → pu_up b (43 + 7 * f + w) v k = b k := fun k hk _ => pu_up_ne (by omega)
theorem up_fq {w : Nat} (hw : w < 7) {v : Int} {o u : Nat} (hu : u < 7) : fq (pu_up b (43 + 7 * f + w) v) o u = if o = f ∧ u = w then v else fq b o u := by
  unfold fq pu_up
  by_cases e : o = f ∧ u = w
  · rw [if_pos e, if_pos (by omega)]
  · rw [if_neg e, if_neg (by omega)]
theorem up_oth {w : Nat} (hw : w < 7) {v : Int} : ∀ o : Nat, o ≠ f → ∀ u, u < 7 → fq (pu_up b (43 + 7 * f + w) v) o u = fq b o u := fun o ho u hu => by
  rw [up_fq hw hu, if_neg (fun x => ho x.1)]
theorem up_okB (ok : OkB b) {w : Nat} (hw : w < 7) {v : Int} (h : okF (pu_up b (43 + 7 * f + w) v) f) : OkB (pu_up b (43 + 7 * f + w) v) :=
  OkB_cg ok up_cal6 (by rw [up_cal 16 (by omega)]; exact ok.rch) (fun o ho => by
    by_cases e : o = f
    · rw [e]; exact h
    · exact okF_cg ok up_cal6 ho (up_oth hw o e))
theorem up_rank (ok : OkB b) (hf : (f : Int) < b 42) {v : Int} (hv : 1 ≤ v ∧ v ≤ 9) : okF (pu_up b (43 + 7 * f + 0) v) f := by
  have hmo := ok.mon
  have h := ok.fea f hf
  unfold okF at h ⊢
  have q : ∀ u, u < 7 → fq (pu_up b (43 + 7 * f + 0) v) f u = if u = 0 then v else fq b f u := fun u hu => by rw [up_fq (by omega) hu]; simp
  rw [q 0 (by omega), q 1 (by omega), q 2 (by omega), q 3 (by omega), q 4 (by omega), q 5 (by omega), q 6 (by omega), up_cal 1 (by omega)]
  simp (disch := omega) only [leb_iff, ltb_iff, eqb_iff, pu_rmP, pu_dvP, pu_bs, pu_b0, pu_b1, pu_c0, pu_c1, pu_lt, pu_rdN, pu_wrN, hs_at, hs_cell, hs_slot, if_true, if_false, true_and, and_true, pu_rd, pu_wr, Int.reduceToNat, Int.toNat_natCast, decide_eq_true_eq, Int.add_zero, Bool.false_eq_true, if_pos, if_neg]
  refine ⟨hv, ?_, h.2.2⟩
  rcases h.2.1 with e | e
  · exact Or.inl e
  · refine Or.inr ⟨e.1, e.2.1, e.2.2.1, e.2.2.2.1, ?_⟩
    rw [up_cal (2 + (fq b f 2).toNat) (by omega)]; exact e.2.2.2.2
def tell (b : Nat → Int) (f : Nat) (d : Int) : Prop := (fq b f 1 = 1 ∧ -99 ≤ d ∧ d ≤ 99) ∨ (fq b f 1 = 0 ∧ 0 ≤ d ∧ d < b (2 + (fq b f 2).toNat))
theorem up_told (ok : OkB b) (hf : (f : Int) < b 42) {v : Int} (hv : tell b f v) : okF (pu_up b (43 + 7 * f + 3) v) f := by
  have hmo := ok.mon
  have h := ok.fea f hf
  unfold okF at h ⊢
  have q : ∀ u, u < 7 → fq (pu_up b (43 + 7 * f + 3) v) f u = if u = 3 then v else fq b f u := fun u hu => by rw [up_fq (by omega) hu]; simp
  rw [q 0 (by omega), q 1 (by omega), q 2 (by omega), q 3 (by omega), q 4 (by omega), q 5 (by omega), q 6 (by omega), up_cal 1 (by omega)]
  simp (disch := omega) only [leb_iff, ltb_iff, eqb_iff, pu_rmP, pu_dvP, pu_bs, pu_b0, pu_b1, pu_c0, pu_c1, pu_lt, pu_rdN, pu_wrN, hs_at, hs_cell, hs_slot, if_true, if_false, true_and, and_true, pu_rd, pu_wr, Int.reduceToNat, Int.toNat_natCast, decide_eq_true_eq, Int.add_zero, Bool.false_eq_true, if_pos, if_neg]
  refine ⟨h.1, ?_, h.2.2⟩
  rcases h.2.1 with e | e
  · rcases hv with e2 | e2
    · exact Or.inl ⟨e.1, e.2.1, e2.2⟩
    · omega
  · rcases hv with e2 | e2
    · omega
    · refine Or.inr ⟨e.1, e.2.1, e.2.2.1, e2.2.1, ?_⟩
      rw [up_cal (2 + (fq b f 2).toNat) (by omega)]; exact e2.2.2
theorem kept_rank (ok : OkB b) (hf : (f : Int) < b 42) {v : Int} (hv : 1 ≤ v ∧ v ≤ 9) : ((res (pu_up b (43 + 7 * f + 0) v) l p).2.1 f = 0 ↔ dyf b l p f ≠ -1 ∧ gof b l p f (dyf b l p f) (b 42).toNat < kcl b f v 4) ∧ ((res (pu_up b (43 + 7 * f + 0) v) l p).2.1 f = 5 ↔ dyf b l p f = -1) := by
  have hm := ok.many
  have ok' := up_okB ok (f := f) (w := 0) (by omega) (up_rank ok hf hv)
  have h42 : pu_up b (43 + 7 * f + 0) v 42 = b 42 := up_cal 42 (by omega)
  have hd : dyf (pu_up b (43 + 7 * f + 0) v) l p f = dyf b l p f := by
    unfold dyf sp_td
    rw [up_fq (by omega) (by omega), up_fq (by omega) (by omega), up_fq (by omega) (by omega), yd_cg ok up_cal6]
    simp only [true_and, show ¬ (1 = 0) by omega, show ¬ (2 = 0) by omega, show ¬ (3 = 0) by omega, if_false]
    have hmo := ok.mon
    rcases (ok.fea f hf).2.1 with e | e
    · simp only [e.1, if_true]
    · simp only [e.1, show ¬ ((0 : Int) = 1) by omega, if_false]
      rw [ms_cg up_cal6 (by omega)]
  have hcl : cl (pu_up b (43 + 7 * f + 0) v) f = kcl b f v 4 := by
    unfold cl kcl
    rw [up_fq (by omega) (by omega), up_fq (by omega) (by omega), if_pos ⟨rfl, rfl⟩, if_neg (by omega)]
    omega
  constructor
  · rw [kept_iff ok' l p (by rw [h42]; exact hf), hd, hcl, h42, gof_cg ok up_cal6 (up_oth (by omega)) _ _ (by omega)]
  · rw [res_ab ok' l p (by rw [h42]; exact hf), hd]
theorem kept_told (ok : OkB b) (hf : (f : Int) < b 42) {sh : Int} (hv : tell b f (fq b f 3 + sh)) : (res (pu_up b (43 + 7 * f + 3) (fq b f 3 + sh)) l p).2.1 f = 0 ↔ (0 ≤ sp_td b l p f + sh ∧ sp_td b l p f + sh < yd b + l) ∧ gof b l p f (sp_td b l p f + sh) (b 42).toNat < cl b f := by
  have hm := ok.many
  have ok' := up_okB ok (f := f) (w := 3) (by omega) (up_told ok hf hv)
  generalize hb : pu_up b (43 + 7 * f + 3) (fq b f 3 + sh) = b' at *
  have hcal : ∀ k, k < 43 → k ≠ 16 → b' k = b k := fun k hk _ => by rw [← hb]; exact up_cal k hk
  have hoth : ∀ o : Nat, o ≠ f → ∀ u, u < 7 → fq b' o u = fq b o u := fun o ho u hu => by rw [← hb]; exact up_oth (by omega) o ho u hu
  have h42 : b' 42 = b 42 := hcal 42 (by omega) (by omega)
  have q : ∀ u, u < 7 → fq b' f u = if u = 3 then fq b f 3 + sh else fq b f u := fun u hu => by rw [← hb, up_fq (by omega) hu]; simp
  have hd : sp_td b' l p f = sp_td b l p f + sh := by
    unfold sp_td
    rw [q 1 (by omega), q 2 (by omega), q 3 (by omega)]
    simp only [show ¬ (1 = 3) by omega, show ¬ (2 = 3) by omega, if_false, if_true]
    have hmo := ok.mon
    rcases (ok.fea f hf).2.1 with e | e
    · simp only [e.1, if_true]; omega
    · simp only [e.1, show ¬ ((0 : Int) = 1) by omega, if_false]
      rw [ms_cg hcal (by omega)]; omega
  have hcl : cl b' f = cl b f := by
    unfold cl
    rw [q 0 (by omega), q 1 (by omega)]
    simp only [show ¬ (0 = 3) by omega, show ¬ (1 = 3) by omega, if_false]
  have hdy : dyf b' l p f = if 0 ≤ sp_td b l p f + sh ∧ sp_td b l p f + sh < yd b + l then sp_td b l p f + sh else -1 := by
    unfold dyf; rw [hd, yd_cg ok hcal]
  rw [kept_iff ok' l p (by rw [h42]; exact hf), hcl, h42, gof_cg ok hcal hoth _ _ (by omega), hdy]
  by_cases c : 0 ≤ sp_td b l p f + sh ∧ sp_td b l p f + sh < yd b + l
  · rw [if_pos c]
    exact ⟨fun x => ⟨c, x.2⟩, fun x => ⟨by omega, x.2⟩⟩
  · rw [if_neg c]
    exact ⟨fun x => absurd rfl x.1, fun x => absurd x.1 c⟩
end Up
