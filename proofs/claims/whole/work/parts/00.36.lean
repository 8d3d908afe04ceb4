theorem lp_gen {σ β : Type} (L : Nat → σ → Option β) (μ : σ → Nat) (P : σ → Prop) (Q : β → Prop)
    (h1 : ∀ n s, P s → (∃ s', P s' ∧ μ s' < μ s ∧ L (n + 1) s = L n s') ∨ (∃ r, L (n + 1) s = some r ∧ Q r)) : ∀ n s, μ s < n → P s → ∃ r, L n s = some r ∧ Q r := by
  intro n
  induction n with
  | zero => intro s h; omega
  | succ n ih =>
    intro s hm hp
    rcases h1 n s hp with ⟨s', hp', hm', e⟩ | hr
    · rw [e]; exact ih s' (by omega) hp'
    · exact hr
def sp_td (b : Nat → Int) (l p : Int) (f : Nat) : Int := if fq b f 1 = 1 then p + fq b f 3 else sp_ms b l (fq b f 2).toNat + fq b f 3
def dyf (b : Nat → Int) (l p : Int) (f : Nat) : Int := if 0 ≤ sp_td b l p f ∧ sp_td b l p f < yd b + l then sp_td b l p f else -1
def vgf (b : Nat → Int) (l p : Int) (f : Nat) : Int := if fq b f 5 = 0 ∨ dyf b l p f < 1 then -1 else if (dyf b l p f - 1 - p) % b 0 = 0 then dyf b l p f - 2 else dyf b l p f - 1
def b0f (b : Nat → Int) (p d : Int) : Int := if (d - p) % b 0 = 0 then sr b (d - p) * 160 + 96 else 0
def vrf (b : Nat → Int) (l p d : Int) (f : Nat) (a : Int) : Int := if vgf b l p f = d then max a (kcl b f (fq b f 5) 1) else a
def orf (b : Nat → Int) (l p d : Int) (f : Nat) (a : Int) : Int := if dyf b l p f ≠ -1 ∧ 0 < fq b f 6 ∧ 1 ≤ d - dyf b l p f ∧ d - dyf b l p f ≤ b 0 then max a (kcl b f (fq b f 6) 2) else a
def bsf (b : Nat → Int) (l p d : Int) : Nat → Int
  | 0 => b0f b p d
  | n + 1 => orf b l p d n (vrf b l p d n (bsf b l p d n))
def bse (b : Nat → Int) (l p d : Int) : Int := bsf b l p d (b 42).toNat
def Yr (b : Nat → Int) (l p : Int) : Prop := (l = 0 ∨ l = 1) ∧ (b 13 + 1 ≤ p) ∧ (p < b 13 + b 15 + b 0)
theorem Yr.l01 {b : Nat → Int} {l p : Int} (q_ : Yr b l p) : l = 0 ∨ l = 1 := q_.1
theorem Yr.plo {b : Nat → Int} {l p : Int} (q_ : Yr b l p) : b 13 + 1 ≤ p := q_.2.1
theorem Yr.phi {b : Nat → Int} {l p : Int} (q_ : Yr b l p) : p < b 13 + b 15 + b 0 := q_.2.2
theorem Yr.mk {b : Nat → Int} {l p : Int} (l01_ : l = 0 ∨ l = 1) (plo_ : b 13 + 1 ≤ p) (phi_ : p < b 13 + b 15 + b 0) : Yr b l p := ⟨l01_, plo_, phi_⟩
theorem Yr_of {b : Nat → Int} (ok : OkB b) {y : Int} (h0 : 0 ≤ y) : Yr b (lp b y) (psc b y) := by
  have := psc_le ok h0
  exact Yr.mk (lp01 b y) this.1 this.2
theorem Yr.bd {b : Nat → Int} (ok : OkB b) {l p : Int} (yr : Yr b l p) : 1 ≤ p ∧ p < 200 ∧ p < yd b + l ∧ 0 ≤ l ∧ l ≤ 1 ∧ 5 ≤ yd b ∧ yd b ≤ 248 := by
  have := yr.l01
  have := yr.plo
  have := yr.phi
  have := ok.fst
  have := ok.fit
  have := ok.spn
  have := ok.week
  have := yd_le ok
  omega
theorem td_bd {b : Nat → Int} (ok : OkB b) {l p : Int} (yr : Yr b l p) {f : Nat} (hf : (f : Int) < b 42) : -200 ≤ sp_td b l p f ∧ sp_td b l p f ≤ 1000 := by
  have h1 := yr.bd ok
  have h2 := (ok.fea f hf).2.1
  have hm := ok.mon
  unfold sp_td
  split
  · omega
  · have h3 : fq b f 1 = 0 := by omega
    have h4 := sp_ms_mono ok (l := l) (i := 0) (j := (fq b f 2).toNat) (by omega) (by omega)
    have h5 := sp_ms_mono ok (l := l) (i := (fq b f 2).toNat) (j := (b 1).toNat) (by omega) (by omega)
    rw [sp_ms_zero ok] at h4
    rw [sp_ms_all ok yr.l01] at h5
    have h6 := ok.days (fq b f 2).toNat (by omega)
    omega
theorem dyf_bd {b : Nat → Int} (l p : Int) (f : Nat) : dyf b l p f = -1 ∨ (0 ≤ dyf b l p f ∧ dyf b l p f < yd b + l) := by
  unfold dyf; split <;> omega
theorem vgf_bd {b : Nat → Int} (l p : Int) (f : Nat) : vgf b l p f = -1 ∨ (0 ≤ vgf b l p f ∧ vgf b l p f < dyf b l p f) := by
  unfold vgf; split
  · omega
  · split <;> omega
theorem b0f_bd {b : Nat → Int} (ok : OkB b) (p d : Int) : 0 ≤ b0f b p d ∧ b0f b p d < 1600 := by
  have := sr_bd ok (d - p)
  unfold b0f; split <;> omega
theorem bsf_bd {b : Nat → Int} (ok : OkB b) (l p d : Int) : ∀ n : Nat, (n : Int) ≤ b 42 → 0 ≤ bsf b l p d n ∧ bsf b l p d n < 1600 := by
  intro n
  induction n with
  | zero => intro _; exact b0f_bd ok p d
  | succ n ih =>
    intro hn
    have hm := ok.many
    have h1 := ih (by omega)
    have o := ok.fea n (by omega)
    have h2 := kcl_bd o (by omega) (r := fq b n 5) (k := 1)
    have h3 := kcl_bd o (by omega) (r := fq b n 6) (k := 2)
    have h4 := o.2.2.2.1
    have h5 := o.2.2.2.2
    rw [bsf]
    unfold orf vrf
    split <;> split <;> omega
theorem bse_bd {b : Nat → Int} (ok : OkB b) (l p d : Int) : 0 ≤ bse b l p d ∧ bse b l p d < 1600 := by
  have := ok.many
  exact bsf_bd ok l p d _ (by omega)
def Laid (b : Nat → Int) (l p : Int) (h : Hp) : Prop := (h 66 4 = yd b + l) ∧ (h 66 5 = p) ∧ (∀ f : Nat, (f : Int) < b 42 → h 69 f = dyf b l p f ∧ h 70 f = vgf b l p f)
theorem Laid.days {b : Nat → Int} {l p : Int} {h : Hp} (q_ : Laid b l p h) : h 66 4 = yd b + l := q_.1
theorem Laid.pasch {b : Nat → Int} {l p : Int} {h : Hp} (q_ : Laid b l p h) : h 66 5 = p := q_.2.1
theorem Laid.rows {b : Nat → Int} {l p : Int} {h : Hp} (q_ : Laid b l p h) : ∀ f : Nat, (f : Int) < b 42 → h 69 f = dyf b l p f ∧ h 70 f = vgf b l p f := q_.2.2
theorem Laid.mk {b : Nat → Int} {l p : Int} {h : Hp} (days_ : h 66 4 = yd b + l) (pasch_ : h 66 5 = p) (rows_ : ∀ f : Nat, (f : Int) < b 42 → h 69 f = dyf b l p f ∧ h 70 f = vgf b l p f) : Laid b l p h := ⟨days_, pasch_, rows_⟩
theorem srt_bd {b : Nat → Int} (ok : OkB b) {y : Int} (h0 : 0 ≤ y) : 0 ≤ srt b y ∧ srt b y < 80 ∧ (if srt b y < 40 then (0 : Int) else 1) = lp b y ∧ b 13 + 1 + srt b y % 40 = psc b y := by
  have h1 := psc_le ok h0
  have h2 := ok.spn
  have h3 := ok.week
  unfold srt
  rcases lp01 b y with e | e <;> rw [e]
  · rw [if_pos (by omega), Int.emod_eq_of_lt (by omega) (by omega)]; omega
  · rw [if_neg (by omega), show psc b y - b 13 - 1 + 40 * 1 = psc b y - b 13 - 1 + 40 by omega, Int.add_emod_right, Int.emod_eq_of_lt (by omega) (by omega)]; omega
section Pl
variable {b : Nat → Int} {h : Hp} {N : Nat} {l p : Int}
theorem c_daysIn (cb : CB b h 23) {s : Int} (h0 : 0 ≤ s) (h1 : s < 80) : M_Book_daysIn h 23 s = some (yd b + (if s < 40 then 0 else 1)) := by
  unfold M_Book_daysIn
  rw [c_hasLeap h0 h1, Option.bind_some, cb.yday]
  by_cases e : s < 40 <;> simp (disch := omega) only [leb_iff, ltb_iff, eqb_iff, pu_rmP, pu_dvP, pu_bs, pu_b0, pu_b1, pu_c0, pu_c1, pu_lt, pu_rdN, pu_wrN, hs_at, hs_cell, hs_slot, if_true, if_false, true_and, and_true, pu_rd, pu_wr, Int.reduceToNat, Int.toNat_natCast, decide_eq_true_eq, Int.add_zero, Bool.false_eq_true, if_pos, if_neg]
theorem c_paschIn (cb : CB b h 23) {s : Int} (h0 : 0 ≤ s) (h1 : s < 80) : M_Book_paschIn h 23 s = some (b 13 + 1 + s % 40) := by
  unfold M_Book_paschIn
  rw [cb.fst]
  simp (disch := omega) only [leb_iff, ltb_iff, eqb_iff, pu_rmP, pu_dvP, pu_bs, pu_b0, pu_b1, pu_c0, pu_c1, pu_lt, pu_rdN, pu_wrN, hs_at, hs_cell, hs_slot, if_true, if_false, true_and, and_true, pu_rd, pu_wr, Int.reduceToNat, Int.toNat_natCast, decide_eq_true_eq, Int.add_zero, Bool.false_eq_true, if_pos, if_neg]
theorem c_isSunday (ok : OkB b) (cb : CB b h 23) {d : Int} (hp : h 66 5 = p) (hpb : -1000 ≤ p ∧ p ≤ 1000) (hd : -1000 ≤ d ∧ d ≤ 1000) : M_YearPlan_isSunday h d = some (if (d - p) % b 0 = 0 then 1 else 0) := by
  have hw := ok.week
  have h1 := Int.emod_nonneg (d - p) (show b 0 ≠ 0 by omega)
  have h2 := Int.emod_lt_of_pos (d - p) (show 0 < b 0 by omega)
  unfold M_YearPlan_isSunday
  rw [hp, c_weekdayFrom ok cb (by omega) (by omega), Option.bind_some]
  by_cases e : (d - p) % b 0 = 0 <;> simp (disch := omega) only [leb_iff, ltb_iff, eqb_iff, pu_rmP, pu_dvP, pu_bs, pu_b0, pu_b1, pu_c0, pu_c1, pu_lt, pu_rdN, pu_wrN, hs_at, hs_cell, hs_slot, if_true, if_false, true_and, and_true, pu_rd, pu_wr, Int.reduceToNat, Int.toNat_natCast, decide_eq_true_eq, Int.add_zero, Bool.false_eq_true, if_pos, if_neg]
theorem c_toldDay (hN : 20 < N) (ok : OkB b) (cb : CB b h 23) {s : Int} (h0 : 0 ≤ s) (h1 : s < 80) (hl : (if s < 40 then (0 : Int) else 1) = l) (hs : h 66 2 = s) (hp : h 66 5 = p) {f : Nat} (hf : (f : Int) < b 42) : M_YearPlan_toldDay N h f = some (sp_td b l p f) := by
  have hm := ok.many
  have hfe := cb_fea cb hf
  unfold M_YearPlan_toldDay sp_td
  rw [c_isMoving ok cb hf, Option.bind_some, hs, hp]
  rcases (ok.fea f hf).2.1 with e | e
  · rw [e.1]
    simp (disch := omega) only [leb_iff, ltb_iff, eqb_iff, pu_rmP, pu_dvP, pu_bs, pu_b0, pu_b1, pu_c0, pu_c1, pu_lt, pu_rdN, pu_wrN, hs_at, hs_cell, hs_slot, if_true, if_false, true_and, and_true, pu_rd, pu_wr, Int.reduceToNat, Int.toNat_natCast, decide_eq_true_eq, Int.add_zero, Bool.false_eq_true, if_pos, if_neg, hfe.2.2.1]
  · rw [e.1]
    simp (disch := omega) only [leb_iff, ltb_iff, eqb_iff, pu_rmP, pu_dvP, pu_bs, pu_b0, pu_b1, pu_c0, pu_c1, pu_lt, pu_rdN, pu_wrN, hs_at, hs_cell, hs_slot, if_true, if_false, true_and, and_true, pu_rd, pu_wr, Int.reduceToNat, Int.toNat_natCast, decide_eq_true_eq, Int.add_zero, Bool.false_eq_true, if_pos, if_neg, hfe.2.1, hfe.2.2.1]
    have h2 := c_monthStart (N := N) (by omega) ok cb h0 h1 (m := (fq b f 2).toNat) (by omega)
    rw [show ((fq b f 2).toNat : Int) = fq b f 2 by omega, hl] at h2
    rw [h2, Option.bind_some]
theorem c_hasDay {D d : Int} (hD : h 66 4 = D) (hb : 0 ≤ D ∧ D ≤ 1000) (hd : -10000 ≤ d ∧ d ≤ 10000) : M_YearPlan_hasDay h d = some (if 0 ≤ d ∧ d < D then 1 else 0) := by
  unfold M_YearPlan_hasDay
  rw [hD]
  by_cases e1 : d < 0
  · simp (disch := omega) only [leb_iff, ltb_iff, eqb_iff, pu_rmP, pu_dvP, pu_bs, pu_b0, pu_b1, pu_c0, pu_c1, pu_lt, pu_rdN, pu_wrN, hs_at, hs_cell, hs_slot, if_true, if_false, true_and, and_true, pu_rd, pu_wr, Int.reduceToNat, Int.toNat_natCast, decide_eq_true_eq, Int.add_zero, Bool.false_eq_true, if_pos, if_neg]
  · by_cases e2 : D ≤ d <;> simp (disch := omega) only [leb_iff, ltb_iff, eqb_iff, pu_rmP, pu_dvP, pu_bs, pu_b0, pu_b1, pu_c0, pu_c1, pu_lt, pu_rdN, pu_wrN, hs_at, hs_cell, hs_slot, if_true, if_false, true_and, and_true, pu_rd, pu_wr, Int.reduceToNat, Int.toNat_natCast, decide_eq_true_eq, Int.add_zero, Bool.false_eq_true, if_pos, if_neg]
theorem c_vigilDay (ok : OkB b) (cb : CB b h 23) (yr : Yr b l p) (hp : h 66 5 = p) {f : Nat} (hf : (f : Int) < b 42) (hd : h 69 f = dyf b l p f) : M_YearPlan_vigilDay h f = some (vgf b l p f) := by
  have hm := ok.many
  have hfe := cb_fea cb hf
  have hbd := dyf_bd (b := b) l p f
  have hy := yr.bd ok
  have ho := (ok.fea f hf).2.2.2.1
  unfold M_YearPlan_vigilDay vgf
  simp (disch := omega) only [leb_iff, ltb_iff, eqb_iff, pu_rmP, pu_dvP, pu_bs, pu_b0, pu_b1, pu_c0, pu_c1, pu_lt, pu_rdN, pu_wrN, hs_at, hs_cell, hs_slot, if_true, if_false, true_and, and_true, pu_rd, pu_wr, Int.reduceToNat, Int.toNat_natCast, decide_eq_true_eq, Int.add_zero, Bool.false_eq_true, if_pos, if_neg, hfe.2.2.2.2.1, hd]
  by_cases e1 : fq b f 5 = 0
  · simp (disch := omega) only [leb_iff, ltb_iff, eqb_iff, pu_rmP, pu_dvP, pu_bs, pu_b0, pu_b1, pu_c0, pu_c1, pu_lt, pu_rdN, pu_wrN, hs_at, hs_cell, hs_slot, if_true, if_false, true_and, and_true, pu_rd, pu_wr, Int.reduceToNat, Int.toNat_natCast, decide_eq_true_eq, Int.add_zero, Bool.false_eq_true, if_pos, if_neg, true_or]
  · by_cases e2 : dyf b l p f < 1
    · simp (disch := omega) only [leb_iff, ltb_iff, eqb_iff, pu_rmP, pu_dvP, pu_bs, pu_b0, pu_b1, pu_c0, pu_c1, pu_lt, pu_rdN, pu_wrN, hs_at, hs_cell, hs_slot, if_true, if_false, true_and, and_true, pu_rd, pu_wr, Int.reduceToNat, Int.toNat_natCast, decide_eq_true_eq, Int.add_zero, Bool.false_eq_true, if_pos, if_neg]
    · rw [c_isSunday ok cb hp (by omega) (by omega), Option.bind_some]
      by_cases e3 : (dyf b l p f - 1 - p) % b 0 = 0
      · simp (disch := omega) only [leb_iff, ltb_iff, eqb_iff, pu_rmP, pu_dvP, pu_bs, pu_b0, pu_b1, pu_c0, pu_c1, pu_lt, pu_rdN, pu_wrN, hs_at, hs_cell, hs_slot, if_true, if_false, true_and, and_true, pu_rd, pu_wr, Int.reduceToNat, Int.toNat_natCast, decide_eq_true_eq, Int.add_zero, Bool.false_eq_true, if_pos, if_neg]
        congr 1; omega
      · simp (disch := omega) only [leb_iff, ltb_iff, eqb_iff, pu_rmP, pu_dvP, pu_bs, pu_b0, pu_b1, pu_c0, pu_c1, pu_lt, pu_rdN, pu_wrN, hs_at, hs_cell, hs_slot, if_true, if_false, true_and, and_true, pu_rd, pu_wr, Int.reduceToNat, Int.toNat_natCast, decide_eq_true_eq, Int.add_zero, Bool.false_eq_true, if_pos, if_neg]
theorem CB_frame {B : Nat} {h' : Hp} (cb : CB b h B) (e : ∀ c, B ≤ c → c ≤ B + 18 → h' c = h c) : CB b h' B := by
  refine CB.mk ?_ ?_ ?_ ?_ ?_ ?_ ?_ ?_ ?_ ?_ ?_ ?_ ?_ ?_ ?_ ?_ ?_ ?_ ?_ ?_ ?_ ?_ ?_
  all_goals first
    | (rw [e B (by omega) (by omega)]; first | exact cb.told | exact cb.week | exact cb.mon | exact cb.yday | exact cb.leap | exact cb.lmon | exact cb.cyc | exact cb.fst | exact cb.stp | exact cb.spn | exact cb.rch | exact cb.rst | exact cb.lft | exact cb.fas)
    | (intro i hi; rw [e (B + 1) (by omega) (by omega)]; exact cb.days i hi)
    | (rw [e (B + 2) (by omega) (by omega)]; exact cb.nse)
    | (intro i hi; rw [e (B + 3) (by omega) (by omega), e (B + 4) (by omega) (by omega), e (B + 5) (by omega) (by omega)]; exact cb.sea i hi)
    | (rw [e (B + 6) (by omega) (by omega)]; exact cb.ncl)
    | (intro i hi; rw [e (B + 7) (by omega) (by omega), e (B + 8) (by omega) (by omega)]; exact cb.clo i hi)
    | (rw [e (B + 10) (by omega) (by omega)]; exact cb.many)
    | (intro i hi; rw [e (B + 11) (by omega) (by omega), e (B + 12) (by omega) (by omega), e (B + 13) (by omega) (by omega), e (B + 14) (by omega) (by omega), e (B + 15) (by omega) (by omega), e (B + 16) (by omega) (by omega)]; exact cb.fea i hi)
    | (intro i hi; rw [e (B + 17) (by omega) (by omega)]; exact cb.clm i hi)
    | (intro i hi; rw [e (B + 18) (by omega) (by omega)]; exact cb.rnk i hi)
theorem c_lay_new (hN : 20 < N) (ok : OkB b) (cb : CB b h 23) {s : Int} (h0 : 0 ≤ s) (h1 : s < 80) (hl : (if s < 40 then (0 : Int) else 1) = l) (hpp : b 13 + 1 + s % 40 = p) (yr : Yr b l p) (hne : h 66 2 ≠ s) (hr : -1 ≤ h 66 2 ∧ h 66 2 < 80) :
    ∃ h', M_YearPlan_lay N h s = some h' ∧ (∀ c, c ≠ 66 → c ≠ 69 → c ≠ 70 → h' c = h c) ∧ h' 66 2 = s ∧ h' 66 3 = -1 ∧ Laid b l p h' := by
  have hm := ok.many
  have hy := yr.bd ok
  unfold M_YearPlan_lay
  simp (disch := omega) only [leb_iff, ltb_iff, eqb_iff, pu_rmP, pu_dvP, pu_bs, pu_b0, pu_b1, pu_c0, pu_c1, pu_lt, pu_rdN, pu_wrN, hs_at, hs_cell, hs_slot, if_true, if_false, true_and, and_true, pu_rd, pu_wr, Int.reduceToNat, Int.toNat_natCast, decide_eq_true_eq, Int.add_zero, Bool.false_eq_true, if_pos, if_neg]
  rw [c_daysIn (h := hs (hs h 66 2 s) 66 3 (-1)) (CB_frame cb (fun c c1 c2 => by rw [hs_cell (by omega), hs_cell (by omega)])) h0 h1, hl]
  simp (disch := omega) only [leb_iff, ltb_iff, eqb_iff, pu_rmP, pu_dvP, pu_bs, pu_b0, pu_b1, pu_c0, pu_c1, pu_lt, pu_rdN, pu_wrN, hs_at, hs_cell, hs_slot, if_true, if_false, true_and, and_true, pu_rd, pu_wr, Int.reduceToNat, Int.toNat_natCast, decide_eq_true_eq, Int.add_zero, Bool.false_eq_true, if_pos, if_neg]
  rw [c_paschIn (h := hs (hs (hs h 66 2 s) 66 3 (-1)) 66 4 (yd b + l)) (CB_frame cb (fun c c1 c2 => by rw [hs_cell (by omega), hs_cell (by omega), hs_cell (by omega)])) h0 h1, hpp]
  simp (disch := omega) only [leb_iff, ltb_iff, eqb_iff, pu_rmP, pu_dvP, pu_bs, pu_b0, pu_b1, pu_c0, pu_c1, pu_lt, pu_rdN, pu_wrN, hs_at, hs_cell, hs_slot, if_true, if_false, true_and, and_true, pu_rd, pu_wr, Int.reduceToNat, Int.toNat_natCast, decide_eq_true_eq, Int.add_zero, Bool.false_eq_true, if_pos, if_neg]
  generalize hg : hs (hs (hs (hs h 66 2 s) 66 3 (-1)) 66 4 (yd b + l)) 66 5 p = g
  have g1 : ∀ c, c ≠ 66 → g c = h c := fun c hc => by subst hg; rw [hs_cell hc, hs_cell hc, hs_cell hc, hs_cell hc]
  have g2 : g 66 2 = s := by subst hg; simp (disch := omega) only [leb_iff, ltb_iff, eqb_iff, pu_rmP, pu_dvP, pu_bs, pu_b0, pu_b1, pu_c0, pu_c1, pu_lt, pu_rdN, pu_wrN, hs_at, hs_cell, hs_slot, if_true, if_false, true_and, and_true, pu_rd, pu_wr, Int.reduceToNat, Int.toNat_natCast, decide_eq_true_eq, Int.add_zero, Bool.false_eq_true, if_pos, if_neg]
  have g3 : g 66 3 = -1 := by subst hg; simp (disch := omega) only [leb_iff, ltb_iff, eqb_iff, pu_rmP, pu_dvP, pu_bs, pu_b0, pu_b1, pu_c0, pu_c1, pu_lt, pu_rdN, pu_wrN, hs_at, hs_cell, hs_slot, if_true, if_false, true_and, and_true, pu_rd, pu_wr, Int.reduceToNat, Int.toNat_natCast, decide_eq_true_eq, Int.add_zero, Bool.false_eq_true, if_pos, if_neg]
  have g4 : g 66 4 = yd b + l := by subst hg; simp (disch := omega) only [leb_iff, ltb_iff, eqb_iff, pu_rmP, pu_dvP, pu_bs, pu_b0, pu_b1, pu_c0, pu_c1, pu_lt, pu_rdN, pu_wrN, hs_at, hs_cell, hs_slot, if_true, if_false, true_and, and_true, pu_rd, pu_wr, Int.reduceToNat, Int.toNat_natCast, decide_eq_true_eq, Int.add_zero, Bool.false_eq_true, if_pos, if_neg]
  have g5 : g 66 5 = p := by subst hg; simp (disch := omega) only [leb_iff, ltb_iff, eqb_iff, pu_rmP, pu_dvP, pu_bs, pu_b0, pu_b1, pu_c0, pu_c1, pu_lt, pu_rdN, pu_wrN, hs_at, hs_cell, hs_slot, if_true, if_false, true_and, and_true, pu_rd, pu_wr, Int.reduceToNat, Int.toNat_natCast, decide_eq_true_eq, Int.add_zero, Bool.false_eq_true, if_pos, if_neg]
  exact lp_inv (fun n k x => YearPlan_lay_L45 N n k x) (fun k x => (∀ c, c ≠ 69 → c ≠ 70 → x c = g c) ∧ (∀ f : Nat, f < k → x 69 f = dyf b l p f ∧ x 70 f = vgf b l p f))
    (fun h' => (∀ c, c ≠ 66 → c ≠ 69 → c ≠ 70 → h' c = h c) ∧ h' 66 2 = s ∧ h' 66 3 = -1 ∧ Laid b l p h') (b 42).toNat
    (fun n k x hk hp => by
      obtain ⟨k1, k2⟩ := hp
      have x66 : x 66 = g 66 := k1 66 (by omega) (by omega)
      have cbx : CB b x 23 := CB_frame cb (fun c c1 c2 => by rw [k1 c (by omega) (by omega), g1 c (by omega)])
      have htd := td_bd ok yr (f := k) (by omega)
      refine Or.inl ⟨hs (hs x 69 k (dyf b l p k)) 70 k (vgf b l p k), ⟨fun c c1 c2 => by rw [hs_cell c2, hs_cell c1]; exact k1 c c1 c2, fun f hf => ?_⟩, ?_⟩
      · by_cases e : f = k
        · subst e; simp (disch := omega) only [leb_iff, ltb_iff, eqb_iff, pu_rmP, pu_dvP, pu_bs, pu_b0, pu_b1, pu_c0, pu_c1, pu_lt, pu_rdN, pu_wrN, hs_at, hs_cell, hs_slot, if_true, if_false, true_and, and_true, pu_rd, pu_wr, Int.reduceToNat, Int.toNat_natCast, decide_eq_true_eq, Int.add_zero, Bool.false_eq_true, if_pos, if_neg]
        · have := k2 f (by omega)
          simp (disch := omega) only [leb_iff, ltb_iff, eqb_iff, pu_rmP, pu_dvP, pu_bs, pu_b0, pu_b1, pu_c0, pu_c1, pu_lt, pu_rdN, pu_wrN, hs_at, hs_cell, hs_slot, if_true, if_false, true_and, and_true, pu_rd, pu_wr, Int.reduceToNat, Int.toNat_natCast, decide_eq_true_eq, Int.add_zero, Bool.false_eq_true, if_pos, if_neg, this]
      · (try dsimp only)
        have hv := c_vigilDay (h := hs x 69 k (dyf b l p k)) ok (CB_frame cbx (fun c c1 c2 => by rw [hs_cell (by omega)])) yr (by rw [hs_cell (by omega), x66, g5]) (f := k) (by omega) hs_at
        rw [YearPlan_lay_L45, cb_many cbx, c_toldDay hN ok cbx h0 h1 hl (by rw [x66, g2]) (by rw [x66, g5]) (by omega), Option.bind_some, c_hasDay (D := yd b + l) (by rw [x66, g4]) (by omega) (by omega), Option.bind_some]
        by_cases e : 0 ≤ sp_td b l p k ∧ sp_td b l p k < yd b + l
        · have e2 : dyf b l p k = sp_td b l p k := if_pos e
          rw [e2] at hv ⊢
          simp (disch := omega) only [leb_iff, ltb_iff, eqb_iff, pu_rmP, pu_dvP, pu_bs, pu_b0, pu_b1, pu_c0, pu_c1, pu_lt, pu_rdN, pu_wrN, hs_at, hs_cell, hs_slot, if_true, if_false, true_and, and_true, pu_rd, pu_wr, Int.reduceToNat, Int.toNat_natCast, decide_eq_true_eq, Int.add_zero, Bool.false_eq_true, if_pos, if_neg, hv]
        · have e2 : dyf b l p k = -1 := if_neg e
          rw [e2] at hv ⊢
          simp (disch := omega) only [leb_iff, ltb_iff, eqb_iff, pu_rmP, pu_dvP, pu_bs, pu_b0, pu_b1, pu_c0, pu_c1, pu_lt, pu_rdN, pu_wrN, hs_at, hs_cell, hs_slot, if_true, if_false, true_and, and_true, pu_rd, pu_wr, Int.reduceToNat, Int.toNat_natCast, decide_eq_true_eq, Int.add_zero, Bool.false_eq_true, if_pos, if_neg, hv])
    (fun n x hp => by
      obtain ⟨k1, k2⟩ := hp
      have x66 : x 66 = g 66 := k1 66 (by omega) (by omega)
      refine ⟨x, ?_, fun c c1 c2 c3 => by rw [k1 c c2 c3, g1 c c1], by rw [x66, g2], by rw [x66, g3], Laid.mk (by rw [x66, g4]) (by rw [x66, g5]) (fun f hf => k2 f (by omega))⟩
      (try dsimp only)
      rw [YearPlan_lay_L45, k1 33 (by omega) (by omega), g1 33 (by omega), cb_many cb]
      simp (disch := omega) only [leb_iff, ltb_iff, eqb_iff, pu_rmP, pu_dvP, pu_bs, pu_b0, pu_b1, pu_c0, pu_c1, pu_lt, pu_rdN, pu_wrN, hs_at, hs_cell, hs_slot, if_true, if_false, true_and, and_true, pu_rd, pu_wr, Int.reduceToNat, Int.toNat_natCast, decide_eq_true_eq, Int.add_zero, Bool.false_eq_true, if_pos, if_neg]) N 0 g (by omega) (by omega) ⟨fun _ _ _ => rfl, fun f hf => by omega⟩
end Pl
