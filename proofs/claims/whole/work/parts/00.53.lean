def clo (b : Nat → Int) (l p : Int) (o : Nat) (d : Int) : Int := if d - dyf b l p o = 0 then cl b o else if d - dyf b l p o ≤ 0 then (if vgf b l p o = d then kcl b o (fq b o 5) 1 else 0) else if b 0 < d - dyf b l p o then 0 else if fq b o 6 ≤ 0 then 0 else kcl b o (fq b o 6) 2
def gof (b : Nat → Int) (l p : Int) (f : Nat) (d : Int) : Nat → Int
  | 0 => b0f b p d
  | n + 1 => if n = f then gof b l p f d n else if dyf b l p n = -1 then gof b l p f d n else max (gof b l p f d n) (clo b l p n d)
section Go2
variable {b : Nat → Int} {h : Hp} {N : Nat} {l p : Int}
theorem clo_bd (ok : OkB b) {o : Nat} (ho : (o : Int) < b 42) (d : Int) : 0 ≤ clo b l p o d ∧ clo b l p o d < 1600 := by
  have hm := ok.many
  have o1 := ok.fea o ho
  have h1 := cl_bd o1 (by omega)
  have h2 := kcl_bd o1 (by omega) (r := fq b o 5) (k := 1)
  have h3 := kcl_bd o1 (by omega) (r := fq b o 6) (k := 2)
  have h4 := o1.1
  have h5 := o1.2.2.2.1
  have h6 := o1.2.2.2.2
  unfold clo
  split
  · omega
  · split
    · split <;> omega
    · split
      · omega
      · split <;> omega
theorem gof_bd (ok : OkB b) (f : Nat) (d : Int) : ∀ n : Nat, (n : Int) ≤ b 42 → 0 ≤ gof b l p f d n ∧ gof b l p f d n < 1600 := by
  intro n
  induction n with
  | zero => intro _; exact b0f_bd ok p d
  | succ n ih =>
    intro hn
    have h1 := ih (by omega)
    have h2 := clo_bd (l := l) (p := p) ok (o := n) (by omega) d
    rw [gof]
    split
    · exact h1
    · split
      · exact h1
      · omega
theorem gof_iff (ok : OkB b) {f : Nat} {d c : Int} (hd : 0 ≤ d) (hf : dyf b l p f = d) (hc : 0 < c) : ∀ n : Nat, (n : Int) ≤ b 42 → (gof b l p f d n < c ↔ bsf b l p d n < c ∧ ∀ o : Nat, o < n → o ≠ f → dyf b l p o = d → cl b o < c) := by
  intro n
  induction n with
  | zero => intro _; rw [gof, bsf]; exact ⟨fun x => ⟨x, fun o ho => by omega⟩, fun x => x.1⟩
  | succ n ih =>
    intro hn
    have ih := ih (by omega)
    have hvb := vgf_bd (b := b) l p n
    have hdb := dyf_bd (b := b) l p n
    have o1 := ok.fea n (by omega)
    have h5 := o1.2.2.2.1
    have h6 := o1.2.2.2.2
    rw [gof, bsf]
    have step : ∀ P : Prop, ((∀ o : Nat, o < n + 1 → o ≠ f → dyf b l p o = d → cl b o < c) ↔ (∀ o : Nat, o < n → o ≠ f → dyf b l p o = d → cl b o < c) ∧ (n ≠ f → dyf b l p n = d → cl b n < c)) := fun _ => by
      constructor
      · intro x; exact ⟨fun o ho => x o (by omega), x n (by omega)⟩
      · rintro ⟨x, y⟩ o ho
        by_cases e : o = n
        · subst e; exact y
        · exact x o (by omega)
    rw [step True]
    by_cases c1 : n = f
    · rw [if_pos c1]
      have e1 : orf b l p d n (vrf b l p d n (bsf b l p d n)) = bsf b l p d n := by
        unfold orf vrf
        rw [c1, hf] at hvb ⊢
        rw [if_neg (by omega), if_neg (by omega)]
      rw [e1, ih]
      exact ⟨fun x => ⟨x.1, x.2, fun y => absurd c1 y⟩, fun x => ⟨x.1, x.2.1⟩⟩
    · rw [if_neg c1]
      by_cases c2 : dyf b l p n = -1
      · rw [if_pos c2]
        have e1 : orf b l p d n (vrf b l p d n (bsf b l p d n)) = bsf b l p d n := by
          unfold orf vrf
          rw [if_neg (by omega), if_neg (by omega)]
        rw [e1, ih]
        exact ⟨fun x => ⟨x.1, x.2, fun _ y => by omega⟩, fun x => ⟨x.1, x.2.1⟩⟩
      · rw [if_neg c2]
        have hmx : max (gof b l p f d n) (clo b l p n d) < c ↔ gof b l p f d n < c ∧ clo b l p n d < c := by omega
        rw [hmx, ih]
        have key : (clo b l p n d < c ∧ bsf b l p d n < c) ↔ (orf b l p d n (vrf b l p d n (bsf b l p d n)) < c ∧ (dyf b l p n = d → cl b n < c)) := by
          unfold clo orf vrf
          by_cases e0 : d - dyf b l p n = 0
          · rw [if_pos e0, if_neg (by omega), if_neg (by omega)]
            constructor
            · rintro ⟨x, y⟩; exact ⟨y, fun _ => x⟩
            · rintro ⟨x, y⟩; exact ⟨y (by omega), x⟩
          · rw [if_neg e0]
            by_cases e1 : d - dyf b l p n ≤ 0
            · rw [if_pos e1, if_neg (show ¬ (dyf b l p n ≠ -1 ∧ 0 < fq b n 6 ∧ 1 ≤ d - dyf b l p n ∧ d - dyf b l p n ≤ b 0) by omega)]
              by_cases e2 : vgf b l p n = d
              · rw [if_pos e2, if_pos e2]; omega
              · rw [if_neg e2, if_neg e2]; omega
            · rw [if_neg e1, if_neg (show ¬ vgf b l p n = d by omega)]
              by_cases e2 : b 0 < d - dyf b l p n
              · rw [if_pos e2, if_neg (by omega)]; omega
              · rw [if_neg e2]
                by_cases e3 : fq b n 6 ≤ 0
                · rw [if_pos e3, if_neg (by omega)]; omega
                · rw [if_neg e3, if_pos (by omega)]; omega
        constructor
        · rintro ⟨⟨x1, x2⟩, x3⟩
          have := key.mp ⟨x3, x1⟩
          exact ⟨this.1, x2, fun _ => this.2⟩
        · rintro ⟨x1, x2, x3⟩
          have := key.mpr ⟨x1, x3 c1⟩
          exact ⟨⟨this.2, x2⟩, this.1⟩
theorem kps_keep (ok : OkB b) (l p : Int) {k : Nat} (hk : (k : Int) < b 42) : ∀ n : Nat, k < n → (n : Int) ≤ b 42 → ((kps b l p n).2.1 (rk b k) = 0 ↔ dyf b l p (rk b k) ≠ -1 ∧ bse b l p (dyf b l p (rk b k)) < cl b (rk b k) ∧ (kps b l p k).2.2 (dyf b l p (rk b k)).toNat = -1) := by
  intro n
  induction n with
  | zero => intro h; omega
  | succ n ih =>
    intro hkn hn
    rw [kps]
    by_cases e : k = n
    · subst e
      unfold kp
      by_cases c1 : dyf b l p (rk b k) = -1
      · rw [if_pos c1]; dsimp only; rw [pu_up_at]
        exact ⟨fun x => by omega, fun x => absurd c1 x.1⟩
      · rw [if_neg c1]
        by_cases c2 : bse b l p (dyf b l p (rk b k)) < cl b (rk b k) ∧ (kps b l p k).2.2 (dyf b l p (rk b k)).toNat = -1
        · rw [if_pos c2]; dsimp only; rw [pu_up_at]; exact ⟨fun _ => ⟨c1, c2.1, c2.2⟩, fun _ => rfl⟩
        · rw [if_neg c2]; dsimp only; rw [pu_up_at]
          exact ⟨fun x => by omega, fun x => absurd ⟨x.2.1, x.2.2⟩ c2⟩
    · have hne : rk b k ≠ rk b n := fun x => e (rk_inj ok hk (by omega) x)
      have ih := ih (by omega) (by omega)
      unfold kp
      split
      · dsimp only; rw [pu_up_ne hne]; exact ih
      · split <;> (dsimp only; rw [pu_up_ne hne]; exact ih)
theorem th_stay (ok : OkB b) (l p : Int) {d m : Nat} : ∀ n : Nat, m ≤ n → (kps b l p m).2.2 d ≠ -1 → (kps b l p n).2.2 d ≠ -1 := by
  intro n
  induction n with
  | zero => intro hm h; have : m = 0 := by omega
            subst this; exact h
  | succ n ih =>
    intro hm h
    by_cases e : m = n + 1
    · subst e; exact h
    · have := ih (by omega) h
      rw [kps]; unfold kp
      split
      · exact this
      · split
        · dsimp only; unfold pu_up; split
          · omega
          · exact this
        · exact this
theorem above_lt_iff (ok : OkB b) {f g : Nat} (hf : (f : Int) < b 42) (hg : (g : Int) < b 42) : above b g < above b f ↔ cl b f < cl b g := by
  have hm := ok.many
  constructor
  · intro h
    by_cases e : cl b f < cl b g
    · exact e
    · by_cases e2 : cl b f = cl b g
      · have := cl_inj (ok.fea f hf) (ok.fea g hg) (by omega) (by omega) e2
        subst this; omega
      · have := above_anti (f := g) hf (by omega); omega
  · exact above_anti hg
theorem kept_kps (ok : OkB b) (l p : Int) {f : Nat} (hf : (f : Int) < b 42) : (kps b l p (b 42).toNat).2.1 f = 0 ↔ dyf b l p f ≠ -1 ∧ bse b l p (dyf b l p f) < cl b f ∧ ∀ o : Nat, (o : Int) < b 42 → o ≠ f → dyf b l p o = dyf b l p f → cl b o < cl b f := by
  have hm := ok.many
  obtain ⟨k, hk, e⟩ := rk_onto ok hf
  have hkk := kps_keep ok l p hk (b 42).toNat (by omega) (by omega)
  rw [e] at hkk
  rw [hkk]
  have hak := (rk_spec ok hk).2
  rw [e] at hak
  constructor
  · rintro ⟨h1, h2, h3⟩
    refine ⟨h1, h2, fun o ho hne hdo => ?_⟩
    apply Classical.byContradiction
    intro hno
    have hcl : cl b f < cl b o := by
      have : cl b f ≠ cl b o := fun x => hne (cl_inj (ok.fea f hf) (ok.fea o ho) (by omega) (by omega) x).symm
      omega
    have hab := (above_lt_iff ok hf ho).mpr hcl
    obtain ⟨j, hj, ej⟩ := rk_onto ok ho
    have haj := (rk_spec ok hj).2
    rw [ej] at haj
    have hjk : j < k := by omega
    have hko := kps_keep ok l p hj k hjk (by omega)
    rw [ej, hdo] at hko
    by_cases c : (kps b l p j).2.2 (dyf b l p f).toNat = -1
    · have h0 := hko.mpr ⟨h1, by omega, c⟩
      have hJ := (kps_J ok l p k (by omega)).1 j hjk
      rw [ej] at hJ
      have := (hJ h0).2
      rw [hdo, h3] at this
      omega
    · exact th_stay ok l p k (by omega) c h3
  · rintro ⟨h1, h2, h3⟩
    refine ⟨h1, h2, ?_⟩
    apply Classical.byContradiction
    intro hno
    obtain ⟨j, j1, j2, j3, j4⟩ := (kps_J ok l p k (by omega)).2.1 _ hno
    have hj := rk_spec ok (k := j) (by omega)
    have hdb := dyf_bd (b := b) l p f
    have hne : rk b j ≠ f := fun x => by rw [x] at hj; omega
    have := h3 (rk b j) hj.1 hne (by omega)
    have hab := (above_lt_iff ok (f := rk b j) (g := f) hj.1 hf).mpr this
    omega
theorem lws_zero (ok : OkB b) (l p : Int) (f : Nat) : ∀ n : Nat, ((lws b l p n).2.1 f = 0 ↔ (kps b l p (b 42).toNat).2.1 f = 0) := by
  intro n
  induction n with
  | zero => exact Iff.rfl
  | succ n ih =>
    rw [← ih, lws]
    generalize lws b l p n = s
    have key : ∀ (x y : Nat → Int) (v : Int), s.2.1 (rk b n) = -1 → v ≠ 0 → (((x, pu_up s.2.1 (rk b n) v, y) : St).2.1 f = 0 ↔ s.2.1 f = 0) := by
      intro x y v h1 h2
      dsimp only
      by_cases e : f = rk b n
      · rw [e, pu_up_at, h1]; exact ⟨fun z => absurd z h2, fun z => by omega⟩
      · rw [pu_up_ne e]
    unfold lw
    split
    · exact Iff.rfl
    · rename_i c
      have c' : s.2.1 (rk b n) = -1 := by omega
      split
      · unfold mvd; split <;> exact key _ _ _ c' (by omega)
      · split
        · unfold mvd; split <;> exact key _ _ _ c' (by omega)
        · split
          · exact key _ _ _ c' (by split <;> omega)
          · exact key _ _ _ c' (by omega)
theorem kept_iff (ok : OkB b) (l p : Int) {f : Nat} (hf : (f : Int) < b 42) : (res b l p).2.1 f = 0 ↔ dyf b l p f ≠ -1 ∧ gof b l p f (dyf b l p f) (b 42).toNat < cl b f := by
  have hm := ok.many
  have hdb := dyf_bd (b := b) l p f
  have hcl := cl_bd (ok.fea f hf) (by omega)
  have ho := (ok.fea f hf).1
  unfold res
  rw [lws_zero ok l p f, kept_kps ok l p hf]
  constructor
  · rintro ⟨h1, h2, h3⟩
    exact ⟨h1, (gof_iff ok (by omega) rfl (by omega) _ (by omega)).mpr ⟨h2, fun o h => h3 o (by omega)⟩⟩
  · rintro ⟨h1, h2⟩
    have := (gof_iff ok (l := l) (p := p) (f := f) (d := dyf b l p f) (c := cl b f) (by omega) rfl (by omega) (b 42).toNat (by omega)).mp h2
    exact ⟨h1, this.1, fun o h => this.2 o (by omega)⟩
theorem c_claimOn (ok : OkB b) (cb : CB b h 23) (yr : Yr b l p) (la : Laid b l p h) {o : Nat} (ho : (o : Int) < b 42) {d : Int} (hd : -1000 ≤ d ∧ d ≤ 1000) : M_YearPlan_claimOn h o d = some (clo b l p o d) := by
  have hm := ok.many
  have hw := ok.week
  have hy := yr.bd ok
  have h1 := la.rows o ho
  have h2 := dyf_bd (b := b) l p o
  have h3 := vgf_bd (b := b) l p o
  have hfe := cb_fea cb ho
  have h6 := (ok.fea o ho).2.2.2.2
  have e1 := c_vigilClaim ok cb ho
  have e2 := c_octaveClaim ok cb ho
  unfold M_YearPlan_claimOn clo
  rw [cb.week]
  by_cases c0 : d - dyf b l p o = 0
  · simp (disch := omega) only [leb_iff, ltb_iff, eqb_iff, pu_rmP, pu_dvP, pu_bs, pu_b0, pu_b1, pu_c0, pu_c1, pu_lt, pu_rdN, pu_wrN, hs_at, hs_cell, hs_slot, if_true, if_false, true_and, and_true, pu_rd, pu_wr, Int.reduceToNat, Int.toNat_natCast, decide_eq_true_eq, Int.add_zero, Bool.false_eq_true, if_pos, if_neg, h1.1, cb_clm cb ho]
  · by_cases c1 : d - dyf b l p o ≤ 0
    · by_cases c2 : vgf b l p o = d
      · simp (disch := omega) only [leb_iff, ltb_iff, eqb_iff, pu_rmP, pu_dvP, pu_bs, pu_b0, pu_b1, pu_c0, pu_c1, pu_lt, pu_rdN, pu_wrN, hs_at, hs_cell, hs_slot, if_true, if_false, true_and, and_true, pu_rd, pu_wr, Int.reduceToNat, Int.toNat_natCast, decide_eq_true_eq, Int.add_zero, Bool.false_eq_true, if_pos, if_neg, h1.1, h1.2, e1]
      · simp (disch := omega) only [leb_iff, ltb_iff, eqb_iff, pu_rmP, pu_dvP, pu_bs, pu_b0, pu_b1, pu_c0, pu_c1, pu_lt, pu_rdN, pu_wrN, hs_at, hs_cell, hs_slot, if_true, if_false, true_and, and_true, pu_rd, pu_wr, Int.reduceToNat, Int.toNat_natCast, decide_eq_true_eq, Int.add_zero, Bool.false_eq_true, if_pos, if_neg, h1.1, h1.2]
    · by_cases c2 : b 0 < d - dyf b l p o
      · simp (disch := omega) only [leb_iff, ltb_iff, eqb_iff, pu_rmP, pu_dvP, pu_bs, pu_b0, pu_b1, pu_c0, pu_c1, pu_lt, pu_rdN, pu_wrN, hs_at, hs_cell, hs_slot, if_true, if_false, true_and, and_true, pu_rd, pu_wr, Int.reduceToNat, Int.toNat_natCast, decide_eq_true_eq, Int.add_zero, Bool.false_eq_true, if_pos, if_neg, h1.1]
      · by_cases c3 : fq b o 6 ≤ 0
        · simp (disch := omega) only [leb_iff, ltb_iff, eqb_iff, pu_rmP, pu_dvP, pu_bs, pu_b0, pu_b1, pu_c0, pu_c1, pu_lt, pu_rdN, pu_wrN, hs_at, hs_cell, hs_slot, if_true, if_false, true_and, and_true, pu_rd, pu_wr, Int.reduceToNat, Int.toNat_natCast, decide_eq_true_eq, Int.add_zero, Bool.false_eq_true, if_pos, if_neg, h1.1, hfe.2.2.2.2.2]
        · simp (disch := omega) only [leb_iff, ltb_iff, eqb_iff, pu_rmP, pu_dvP, pu_bs, pu_b0, pu_b1, pu_c0, pu_c1, pu_lt, pu_rdN, pu_wrN, hs_at, hs_cell, hs_slot, if_true, if_false, true_and, and_true, pu_rd, pu_wr, Int.reduceToNat, Int.toNat_natCast, decide_eq_true_eq, Int.add_zero, Bool.false_eq_true, if_pos, if_neg, h1.1, hfe.2.2.2.2.2, e2]
theorem c_greatest (hN : 20 < N) (ok : OkB b) (cb : CB b h 23) (yr : Yr b l p) (la : Laid b l p h) {f : Nat} (hf : (f : Int) < b 42) {d : Int} (hd : -1000 ≤ d ∧ d ≤ 1000) : M_YearPlan_greatestOfOthers N h f d = some (gof b l p f d (b 42).toNat) := by
  have hm := ok.many
  have hy := yr.bd ok
  have loop : ∀ v, v = b0f b p d → YearPlan_greatestOfOthers_L29 N h f d N v 0 = some (gof b l p f d (b 42).toNat) := by
    intro v hv
    rw [hv]
    exact lp_fold (fun n k a => YearPlan_greatestOfOthers_L29 N h f d n a k) (gof b l p f d) _ (b 42).toNat
      (fun n k hk => by
        have h1 := (la.rows k (by omega)).1
        have h2 := dyf_bd (b := b) l p k
        have h3 := gof_bd (l := l) (p := p) ok f d k (by omega)
        have h4 := clo_bd (l := l) (p := p) ok (o := k) (by omega) d
        have h5 := c_claimOn ok cb yr la (o := k) (by omega) hd
        (try dsimp only)
        rw [YearPlan_greatestOfOthers_L29, cb_many cb, gof]
        by_cases c1 : k = f
        · subst c1
          simp (disch := omega) only [leb_iff, ltb_iff, eqb_iff, pu_rmP, pu_dvP, pu_bs, pu_b0, pu_b1, pu_c0, pu_c1, pu_lt, pu_rdN, pu_wrN, hs_at, hs_cell, hs_slot, if_true, if_false, true_and, and_true, pu_rd, pu_wr, Int.reduceToNat, Int.toNat_natCast, decide_eq_true_eq, Int.add_zero, Bool.false_eq_true, if_pos, if_neg]
        · by_cases c2 : dyf b l p k = -1
          · simp (disch := omega) only [leb_iff, ltb_iff, eqb_iff, pu_rmP, pu_dvP, pu_bs, pu_b0, pu_b1, pu_c0, pu_c1, pu_lt, pu_rdN, pu_wrN, hs_at, hs_cell, hs_slot, if_true, if_false, true_and, and_true, pu_rd, pu_wr, Int.reduceToNat, Int.toNat_natCast, decide_eq_true_eq, Int.add_zero, Bool.false_eq_true, if_pos, if_neg, h1]
          · simp (disch := omega) only [leb_iff, ltb_iff, eqb_iff, pu_rmP, pu_dvP, pu_bs, pu_b0, pu_b1, pu_c0, pu_c1, pu_lt, pu_rdN, pu_wrN, hs_at, hs_cell, hs_slot, if_true, if_false, true_and, and_true, pu_rd, pu_wr, Int.reduceToNat, Int.toNat_natCast, decide_eq_true_eq, Int.add_zero, Bool.false_eq_true, if_pos, if_neg, h1, h5, pu_mx])
      (fun n => by
        (try dsimp only)
        rw [YearPlan_greatestOfOthers_L29, cb_many cb]
        simp (disch := omega) only [leb_iff, ltb_iff, eqb_iff, pu_rmP, pu_dvP, pu_bs, pu_b0, pu_b1, pu_c0, pu_c1, pu_lt, pu_rdN, pu_wrN, hs_at, hs_cell, hs_slot, if_true, if_false, true_and, and_true, pu_rd, pu_wr, Int.reduceToNat, Int.toNat_natCast, decide_eq_true_eq, Int.add_zero, Bool.false_eq_true, if_pos, if_neg]) N 0 (by omega) (by omega)
  unfold M_YearPlan_greatestOfOthers
  rw [c_isSunday ok cb la.pasch (by omega) (by omega), pu_bs, la.pasch, c_sundayClaim (by omega) ok cb (by omega)]
  by_cases c : (d - p) % b 0 = 0
  · have e : b0f b p d = sr b (d - p) * 160 + 96 := if_pos c
    have := loop _ e.symm
    simp (disch := omega) only [leb_iff, ltb_iff, eqb_iff, pu_rmP, pu_dvP, pu_bs, pu_b0, pu_b1, pu_c0, pu_c1, pu_lt, pu_rdN, pu_wrN, hs_at, hs_cell, hs_slot, if_true, if_false, true_and, and_true, pu_rd, pu_wr, Int.reduceToNat, Int.toNat_natCast, decide_eq_true_eq, Int.add_zero, Bool.false_eq_true, if_pos, if_neg, this]
  · have e : b0f b p d = 0 := if_neg c
    have := loop _ e.symm
    simp (disch := omega) only [leb_iff, ltb_iff, eqb_iff, pu_rmP, pu_dvP, pu_bs, pu_b0, pu_b1, pu_c0, pu_c1, pu_lt, pu_rdN, pu_wrN, hs_at, hs_cell, hs_slot, if_true, if_false, true_and, and_true, pu_rd, pu_wr, Int.reduceToNat, Int.toNat_natCast, decide_eq_true_eq, Int.add_zero, Bool.false_eq_true, if_pos, if_neg, this]
end Go2
