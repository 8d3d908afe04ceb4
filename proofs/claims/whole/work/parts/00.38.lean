abbrev St : Type := (Nat → Int) × (Nat → Int) × (Nat → Int)
def pu_up (g : Nat → Int) (i : Nat) (v : Int) : Nat → Int := fun j => if j = i then v else g j
def kp (b : Nat → Int) (l p : Int) (f : Nat) (s : St) : St := if dyf b l p f = -1 then (pu_up s.1 f (-1), pu_up s.2.1 f 5, s.2.2) else if bse b l p (dyf b l p f) < cl b f ∧ s.2.2 (dyf b l p f).toNat = -1 then (pu_up s.1 f (dyf b l p f), pu_up s.2.1 f 0, pu_up s.2.2 (dyf b l p f).toNat f) else (pu_up s.1 f (-1), pu_up s.2.1 f (-1), s.2.2)
def kps (b : Nat → Int) (l p : Int) : Nat → St
  | 0 => (fun _ => 0, fun _ => 0, fun _ => -1)
  | n + 1 => kp b l p (rk b n) (kps b l p n)
def opn (b : Nat → Int) (l p : Int) (f : Nat) (s : St) (d : Int) : Bool := decide (0 ≤ d ∧ d < yd b + l ∧ s.2.2 d.toNat = -1 ∧ bse b l p d / 160 < fq b f 0 ∧ cz b (d - p) = false)
def seek (o : Int → Bool) (d0 u : Int) : Nat → Int → Int
  | 0, _ => -1
  | n + 1, k => if o (d0 + u * k) then d0 + u * k else seek o d0 u n (k + 1)
def jcf (b : Nat → Int) (l p : Int) (s : St) (d : Int) : Int := cnt (fun g => decide (s.2.1 g = 2 ∧ dyf b l p g = d)) (b 42).toNat
def mvd (s : St) (f : Nat) (r : Int) : St := if r = -1 then (s.1, pu_up s.2.1 f 4, s.2.2) else (pu_up s.1 f r, pu_up s.2.1 f 1, pu_up s.2.2 r.toNat f)
def lw (b : Nat → Int) (l p : Int) (f : Nat) (s : St) : St := if s.2.1 f ≠ -1 then s else if fq b f 4 = 0 then mvd s f (seek (opn b l p f s) (dyf b l p f) 1 (b 16).toNat 1) else if fq b f 4 = 1 then mvd s f (seek (opn b l p f s) (dyf b l p f) (-1) (b 16).toNat 1) else if fq b f 4 = 2 then (s.1, pu_up s.2.1 f (if jcf b l p s (dyf b l p f) < 2 then 2 else 3), s.2.2) else (s.1, pu_up s.2.1 f 3, s.2.2)
def lws (b : Nat → Int) (l p : Int) : Nat → St
  | 0 => kps b l p (b 42).toNat
  | n + 1 => lw b l p (rk b n) (lws b l p n)
def res (b : Nat → Int) (l p : Int) : St := lws b l p (b 42).toNat
def ofc (b : Nat → Int) (l p : Int) (s : St) (d : Nat) : Int := if s.2.2 d = -1 then bse b l p d else cl b (s.2.2 d).toNat
theorem pu_up_at (g : Nat → Int) (i : Nat) (v : Int) : pu_up g i v i = v := if_pos rfl
theorem pu_up_ne {g : Nat → Int} {i j : Nat} {v : Int} (h : j ≠ i) : pu_up g i v j = g j := if_neg h
theorem hs_up {h : Hp} {c k : Nat} {v : Int} : hs h c k v c = pu_up (h c) k v := hs_row
theorem pu_up_up {g : Nat → Int} {i : Nat} {v w : Int} : pu_up (pu_up g i v) i w = pu_up g i w := by
  funext j; unfold pu_up; split <;> rfl
theorem ofc_at {b : Nat → Int} {l p : Int} {x y th : Nat → Int} {d f : Nat} : ofc b l p (x, y, pu_up th d f) d = cl b f := by
  unfold ofc; simp only [pu_up_at]; rw [if_neg (by omega)]; rfl
theorem ofc_ne {b : Nat → Int} {l p : Int} {x y x' y' th : Nat → Int} {d e : Nat} {v : Int} (h : e ≠ d) : ofc b l p (x, y, pu_up th d v) e = ofc b l p (x', y', th) e := by
  unfold ofc; simp only [pu_up_ne h]
theorem seek_bd {o : Int → Bool} {d0 u : Int} (P : Int → Prop) (h : ∀ d, o d = true → P d) : ∀ n k, seek o d0 u n k = -1 ∨ P (seek o d0 u n k)
  | 0, _ => Or.inl rfl
  | n + 1, k => by
    rw [seek]
    split
    · rename_i e; exact Or.inr (h _ e)
    · exact seek_bd P h n (k + 1)
theorem seek_opn {b : Nat → Int} {l p : Int} {f : Nat} {s : St} {u : Int} (n : Nat) (k : Int) : seek (opn b l p f s) (dyf b l p f) u n k = -1 ∨ (0 ≤ seek (opn b l p f s) (dyf b l p f) u n k ∧ seek (opn b l p f s) (dyf b l p f) u n k < yd b + l ∧ s.2.2 (seek (opn b l p f s) (dyf b l p f) u n k).toNat = -1) :=
  seek_bd (fun d => 0 ≤ d ∧ d < yd b + l ∧ s.2.2 d.toNat = -1) (fun d hd => by unfold opn at hd; simp at hd; exact ⟨hd.1, hd.2.1, hd.2.2.1⟩) n k
theorem bsf_mod {b : Nat → Int} (ok : OkB b) (l p d : Int) : ∀ n : Nat, (n : Int) ≤ b 42 → bsf b l p d n % 160 < 128 := by
  intro n
  induction n with
  | zero => intro _; rw [bsf]; unfold b0f; split <;> omega
  | succ n ih =>
    intro hn
    have hm := ok.many
    have h1 := ih (by omega)
    have o := ok.fea n (by omega)
    have h2 := kcl_bd o (by omega) (r := fq b n 5) (k := 1)
    have h3 := kcl_bd o (by omega) (r := fq b n 6) (k := 2)
    rw [bsf]
    unfold orf vrf
    split <;> split <;> omega
theorem bse_mod {b : Nat → Int} (ok : OkB b) (l p d : Int) : bse b l p d % 160 < 128 := by
  have := ok.many
  exact bsf_mod ok l p d _ (by omega)
def ThOk (b : Nat → Int) (s : St) : Prop := ∀ d : Nat, s.2.2 d = -1 ∨ (0 ≤ s.2.2 d ∧ s.2.2 d < b 42)
theorem ThOk_upd {b : Nat → Int} {s : St} {x y : Nat → Int} {i f : Nat} (h : ThOk b s) (hf : (f : Int) < b 42) : ThOk b (x, y, pu_up s.2.2 i f) := by
  intro d
  dsimp only
  unfold pu_up
  split
  · omega
  · exact h d
theorem kps_th {b : Nat → Int} (ok : OkB b) (l p : Int) : ∀ n : Nat, (n : Int) ≤ b 42 → ThOk b (kps b l p n) := by
  intro n
  induction n with
  | zero => intro _ d; exact Or.inl rfl
  | succ n ih =>
    intro hn
    have h1 := ih (by omega)
    have h2 := rk_spec ok (k := n) (by omega)
    rw [kps]; unfold kp
    split
    · exact h1
    · split
      · exact ThOk_upd h1 h2.1
      · exact h1
theorem mvd_th {b : Nat → Int} {s : St} {f : Nat} {r : Int} (h : ThOk b s) (hf : (f : Int) < b 42) : ThOk b (mvd s f r) := by
  unfold mvd
  split
  · exact h
  · exact ThOk_upd h hf
theorem lw_th {b : Nat → Int} {l p : Int} {s : St} {f : Nat} (h : ThOk b s) (hf : (f : Int) < b 42) : ThOk b (lw b l p f s) := by
  unfold lw
  split
  · exact h
  · split
    · exact mvd_th h hf
    · split
      · exact mvd_th h hf
      · split <;> exact h
theorem lws_th {b : Nat → Int} (ok : OkB b) (l p : Int) : ∀ n : Nat, (n : Int) ≤ b 42 → ThOk b (lws b l p n) := by
  intro n
  have hm := ok.many
  induction n with
  | zero => intro _; exact kps_th ok l p _ (by omega)
  | succ n ih =>
    intro hn
    have h2 := rk_spec ok (k := n) (by omega)
    rw [lws]
    exact lw_th (ih (by omega)) h2.1
def FaOk (b : Nat → Int) (l p : Int) (s : St) (f : Nat) : Prop := (s.2.1 f = -1 → dyf b l p f ≠ -1) ∧ -1 ≤ s.2.1 f ∧ s.2.1 f ≤ 5
theorem kps_fa {b : Nat → Int} (l p : Int) : ∀ n j : Nat, j < n → FaOk b l p (kps b l p n) (rk b j) := by
  intro n
  induction n with
  | zero => intro j h; omega
  | succ n ih =>
    intro j hj
    rw [kps]
    have h1 : rk b j ≠ rk b n → FaOk b l p (kps b l p n) (rk b j) := fun e => ih j (by
      have : j ≠ n := fun x => e (by rw [x])
      omega)
    unfold kp
    split
    · by_cases e : rk b j = rk b n
      · unfold FaOk; dsimp only; rw [e, pu_up_at]; omega
      · have := h1 e; unfold FaOk at this ⊢; dsimp only; rw [pu_up_ne e]; exact this
    · rename_i hd
      split
      · by_cases e : rk b j = rk b n
        · unfold FaOk; dsimp only; rw [e, pu_up_at]; omega
        · have := h1 e; unfold FaOk at this ⊢; dsimp only; rw [pu_up_ne e]; exact this
      · by_cases e : rk b j = rk b n
        · unfold FaOk; dsimp only; rw [e, pu_up_at]; exact ⟨fun _ => hd, by omega, by omega⟩
        · have := h1 e; unfold FaOk at this ⊢; dsimp only; rw [pu_up_ne e]; exact this
theorem lw_fa {b : Nat → Int} {l p : Int} {s : St} {f g : Nat} (h : FaOk b l p s g) : FaOk b l p (lw b l p f s) g := by
  have key : ∀ (x y : Nat → Int) (v : Int), 0 ≤ v → v ≤ 5 → FaOk b l p (x, pu_up s.2.1 f v, y) g := by
    intro x y v h0 h1
    unfold FaOk at h ⊢
    dsimp only
    by_cases e : g = f
    · rw [e, pu_up_at]; omega
    · rw [pu_up_ne e]; exact h
  unfold lw
  split
  · exact h
  · split
    · unfold mvd; split <;> exact key _ _ _ (by omega) (by omega)
    · split
      · unfold mvd; split <;> exact key _ _ _ (by omega) (by omega)
      · split
        · exact key _ _ _ (by split <;> omega) (by split <;> omega)
        · exact key _ _ _ (by omega) (by omega)
theorem lws_fa {b : Nat → Int} (ok : OkB b) (l p : Int) {f : Nat} (hf : (f : Int) < b 42) : ∀ n : Nat, FaOk b l p (lws b l p n) f := by
  intro n
  induction n with
  | zero =>
    obtain ⟨k, hk, e⟩ := rk_onto ok hf
    rw [← e]
    exact kps_fa l p _ k (by omega)
  | succ n ih => rw [lws]; exact lw_fa ih
section Se
variable {b : Nat → Int} {h : Hp} {N : Nat} {l p : Int}
theorem ofc_bd (ok : OkB b) {s : St} (ht : ThOk b s) (d : Nat) : 0 ≤ ofc b l p s d ∧ ofc b l p s d < 1600 ∧ (ofc b l p s d / 32 % 5 = 4 ↔ s.2.2 d ≠ -1) := by
  have hm := ok.many
  have h1 := bse_bd ok l p d
  have h2 := bse_mod ok l p d
  unfold ofc
  split
  · rename_i e
    exact ⟨h1.1, h1.2, by constructor <;> intro x <;> omega⟩
  · rename_i e
    have h3 := ht d
    have o := ok.fea (s.2.2 d).toNat (by omega)
    have h4 := cl_bd o (by omega)
    have h5 := o.1
    exact ⟨by omega, by omega, by constructor <;> intro x <;> omega⟩
theorem c_hasFeast (ok : OkB b) {s : St} (ht : ThOk b s) {d : Nat} (hd : d < 249) (e : h 68 d = ofc b l p s d) : M_YearPlan_hasFeast h d = some (if s.2.2 d = -1 then 0 else 1) := by
  have h1 := ofc_bd ok ht (l := l) (p := p) d
  unfold M_YearPlan_hasFeast
  rw [pu_rdN hd, Option.bind_some, e, c_kindIn (by omega) (by omega), Option.bind_some]
  by_cases c : s.2.2 d = -1
  · have : ¬ ofc b l p s d / 32 % 5 = 4 := fun x => (h1.2.2.mp x) c
    simp (disch := omega) only [leb_iff, ltb_iff, eqb_iff, pu_rmP, pu_dvP, pu_bs, pu_b0, pu_b1, pu_c0, pu_c1, pu_lt, pu_rdN, pu_wrN, hs_at, hs_cell, hs_slot, if_true, if_false, true_and, and_true, pu_rd, pu_wr, Int.reduceToNat, Int.toNat_natCast, decide_eq_true_eq, Int.add_zero, Bool.false_eq_true, if_pos, if_neg]
  · have := h1.2.2.mpr c
    simp (disch := omega) only [leb_iff, ltb_iff, eqb_iff, pu_rmP, pu_dvP, pu_bs, pu_b0, pu_b1, pu_c0, pu_c1, pu_lt, pu_rdN, pu_wrN, hs_at, hs_cell, hs_slot, if_true, if_false, true_and, and_true, pu_rd, pu_wr, Int.reduceToNat, Int.toNat_natCast, decide_eq_true_eq, Int.add_zero, Bool.false_eq_true, if_pos, if_neg]
theorem c_hold (ok : OkB b) (cb : CB b h 23) {f d : Nat} {t : Int} (hf : (f : Int) < b 42) (hd : d < 249) : M_YearPlan_hold h f d t = some (hs (hs (hs h 68 d (cl b f)) 71 f d) 72 f t) := by
  have hm := ok.many
  unfold M_YearPlan_hold
  simp (disch := omega) only [leb_iff, ltb_iff, eqb_iff, pu_rmP, pu_dvP, pu_bs, pu_b0, pu_b1, pu_c0, pu_c1, pu_lt, pu_rdN, pu_wrN, hs_at, hs_cell, hs_slot, if_true, if_false, true_and, and_true, pu_rd, pu_wr, Int.reduceToNat, Int.toNat_natCast, decide_eq_true_eq, Int.add_zero, Bool.false_eq_true, if_pos, if_neg, cb_clm cb hf]
theorem c_keepGreatest (hN : 20 < N) (ok : OkB b) (cb : CB b h 23) (yr : Yr b l p) (la : Laid b l p h) (hbs : ∀ d : Nat, (d : Int) < yd b + l → h 67 d = bse b l p d ∧ h 68 d = bse b l p d) :
    ∃ h', M_YearPlan_keepGreatest N h = some h' ∧ (∀ c, c ≠ 68 → c ≠ 71 → c ≠ 72 → h' c = h c) ∧ (∀ d : Nat, (d : Int) < yd b + l → h' 68 d = ofc b l p (kps b l p (b 42).toNat) d) ∧ (∀ f : Nat, (f : Int) < b 42 → h' 71 f = (kps b l p (b 42).toNat).1 f ∧ h' 72 f = (kps b l p (b 42).toNat).2.1 f) := by
  have hm := ok.many
  have hy := yr.bd ok
  have := lp_inv (fun n k x => YearPlan_keepGreatest_L2 N n k x) (fun k x => (∀ c, c ≠ 68 → c ≠ 71 → c ≠ 72 → x c = h c) ∧ (∀ d : Nat, (d : Int) < yd b + l → x 68 d = ofc b l p (kps b l p k) d) ∧ (∀ j : Nat, j < k → x 71 (rk b j) = (kps b l p k).1 (rk b j) ∧ x 72 (rk b j) = (kps b l p k).2.1 (rk b j)))
    (fun h' => (∀ c, c ≠ 68 → c ≠ 71 → c ≠ 72 → h' c = h c) ∧ (∀ d : Nat, (d : Int) < yd b + l → h' 68 d = ofc b l p (kps b l p (b 42).toNat) d) ∧ (∀ f : Nat, (f : Int) < b 42 → h' 71 f = (kps b l p (b 42).toNat).1 f ∧ h' 72 f = (kps b l p (b 42).toNat).2.1 f)) (b 42).toNat
    (fun n k x hk hp => by
      obtain ⟨k1, k2, k3⟩ := hp
      have hr := rk_spec ok (k := k) (by omega)
      have cbx : CB b x 23 := CB_frame cb (fun c c1 c2 => k1 c (by omega) (by omega) (by omega))
      have ht := kps_th ok l p k (by omega)
      have hk4 := cb_rnk ok cbx (k := k) (by omega)
      have hdb := dyf_bd (b := b) l p (rk b k)
      have hrow := (la.rows (rk b k) hr.1).1
      have o := ok.fea (rk b k) hr.1
      have hcl := cl_bd o (by omega)
      have ho1 := o.1
      generalize hf : rk b k = f at *
      have others : ∀ (v w : Int) (z : Hp) (y : Nat → Int), (∀ g, z 71 g = pu_up (x 71) f v g) → (∀ g, z 72 g = pu_up (x 72) f w g) → ∀ j : Nat, j < k + 1 → z 71 (rk b j) = pu_up (kps b l p k).1 f v (rk b j) ∧ z 72 (rk b j) = pu_up (kps b l p k).2.1 f w (rk b j) := by
        intro v w z y hz1 hz2 j hj
        rw [hz1, hz2]
        by_cases e : rk b j = f
        · rw [e, pu_up_at, pu_up_at, pu_up_at, pu_up_at]; exact ⟨rfl, rfl⟩
        · rw [pu_up_ne e, pu_up_ne e, pu_up_ne e, pu_up_ne e]
          exact k3 j (by
            have : j ≠ k := fun y => e (by rw [y, hf])
            omega)
      by_cases c1 : dyf b l p f = -1
      · refine Or.inl ⟨hs (hs x 71 f (-1)) 72 f 5, ⟨fun c d1 d2 d3 => by rw [hs_cell d3, hs_cell d2]; exact k1 c d1 d2 d3, fun d hd => ?_, fun j hj => ?_⟩, ?_⟩
        · rw [hs_cell (by omega), hs_cell (by omega), kps, hf]
          unfold kp; rw [if_pos c1]; exact k2 d hd
        · rw [kps, hf]; unfold kp; rw [if_pos c1]
          exact others (-1) 5 _ (fun _ => 0) (fun g => by rw [hs_cell (by omega), hs_row]; rfl) (fun g => by rw [hs_row, hs_cell (by omega)]; rfl) j hj
        · (try dsimp only)
          rw [YearPlan_keepGreatest_L2, cb_many cbx]
          simp (disch := omega) only [leb_iff, ltb_iff, eqb_iff, pu_rmP, pu_dvP, pu_bs, pu_b0, pu_b1, pu_c0, pu_c1, pu_lt, pu_rdN, pu_wrN, hs_at, hs_cell, hs_slot, if_true, if_false, true_and, and_true, pu_rd, pu_wr, Int.reduceToNat, Int.toNat_natCast, decide_eq_true_eq, Int.add_zero, Bool.false_eq_true, if_pos, if_neg, hk4, k1 69 (by omega) (by omega) (by omega), hrow]
      · have hdn : dyf b l p f = ((dyf b l p f).toNat : Int) := by omega
        have hb := bse_bd ok l p (dyf b l p f)
        have hbb := hbs (dyf b l p f).toNat (by omega)
        rw [← hdn] at hbb
        have x67 : x 67 = h 67 := k1 67 (by omega) (by omega) (by omega)
        have hHF := c_hasFeast (h := hs x 71 f (-1)) ok ht (d := (dyf b l p f).toNat) (l := l) (p := p) (by omega) (by rw [hs_cell (by omega)]; exact k2 _ (by omega))
        rw [← hdn] at hHF
        by_cases c2 : bse b l p (dyf b l p f) < cl b f ∧ (kps b l p k).2.2 (dyf b l p f).toNat = -1
        · refine Or.inl ⟨hs (hs (hs (hs x 71 f (-1)) 68 (dyf b l p f).toNat (cl b f)) 71 f (dyf b l p f)) 72 f 0, ⟨fun c d1 d2 d3 => by rw [hs_cell d3, hs_cell d2, hs_cell d1, hs_cell d2]; exact k1 c d1 d2 d3, fun d hd => ?_, fun j hj => ?_⟩, ?_⟩
          · rw [hs_cell (by omega), hs_cell (by omega), kps, hf]
            unfold kp; rw [if_neg c1, if_pos c2]
            by_cases e : d = (dyf b l p f).toNat
            · rw [e, hs_at, ofc_at]
            · rw [hs_slot e, hs_cell (by omega), ofc_ne e]; exact k2 d hd
          · rw [kps, hf]; unfold kp; rw [if_neg c1, if_pos c2]
            exact others (dyf b l p f) 0 _ (fun _ => 0) (fun g => by
              rw [hs_cell (by omega), hs_up, hs_cell (by omega), hs_up, pu_up_up]) (fun g => by rw [hs_row, hs_cell (by omega), hs_cell (by omega), hs_cell (by omega)]; rfl) j hj
          · (try dsimp only)
            rw [YearPlan_keepGreatest_L2, cb_many cbx]
            have hh := c_hold (h := hs x 71 f (-1)) ok (CB_frame cbx (fun c c1 c2 => hs_cell (by omega))) (f := f) (d := (dyf b l p f).toNat) (t := 0) hr.1 (by omega)
            rw [← hdn] at hh
            simp (disch := omega) only [leb_iff, ltb_iff, eqb_iff, pu_rmP, pu_dvP, pu_bs, pu_b0, pu_b1, pu_c0, pu_c1, pu_lt, pu_rdN, pu_wrN, hs_at, hs_cell, hs_slot, if_true, if_false, true_and, and_true, pu_rd, pu_wr, Int.reduceToNat, Int.toNat_natCast, decide_eq_true_eq, Int.add_zero, Bool.false_eq_true, if_pos, if_neg, hk4, k1 69 (by omega) (by omega) (by omega), hrow, cb_clm cbx hr.1, x67, hbb.1, hHF, c2.2, hh]
        · refine Or.inl ⟨hs (hs x 71 f (-1)) 72 f (-1), ⟨fun c d1 d2 d3 => by rw [hs_cell d3, hs_cell d2]; exact k1 c d1 d2 d3, fun d hd => ?_, fun j hj => ?_⟩, ?_⟩
          · rw [hs_cell (by omega), hs_cell (by omega), kps, hf]
            unfold kp; rw [if_neg c1, if_neg c2]; exact k2 d hd
          · rw [kps, hf]; unfold kp; rw [if_neg c1, if_neg c2]
            exact others (-1) (-1) _ (fun _ => 0) (fun g => by rw [hs_cell (by omega), hs_row]; rfl) (fun g => by rw [hs_row, hs_cell (by omega)]; rfl) j hj
          · (try dsimp only)
            rw [YearPlan_keepGreatest_L2, cb_many cbx]
            simp (disch := omega) only [leb_iff, ltb_iff, eqb_iff, pu_rmP, pu_dvP, pu_bs, pu_b0, pu_b1, pu_c0, pu_c1, pu_lt, pu_rdN, pu_wrN, hs_at, hs_cell, hs_slot, if_true, if_false, true_and, and_true, pu_rd, pu_wr, Int.reduceToNat, Int.toNat_natCast, decide_eq_true_eq, Int.add_zero, Bool.false_eq_true, if_pos, if_neg, hk4, k1 69 (by omega) (by omega) (by omega), hrow, cb_clm cbx hr.1, x67, hbb.1, hHF]
            by_cases c3 : cl b f ≤ bse b l p (dyf b l p f)
            · simp (disch := omega) only [leb_iff, ltb_iff, eqb_iff, pu_rmP, pu_dvP, pu_bs, pu_b0, pu_b1, pu_c0, pu_c1, pu_lt, pu_rdN, pu_wrN, hs_at, hs_cell, hs_slot, if_true, if_false, true_and, and_true, pu_rd, pu_wr, Int.reduceToNat, Int.toNat_natCast, decide_eq_true_eq, Int.add_zero, Bool.false_eq_true, if_pos, if_neg]
            · have : ¬ (kps b l p k).2.2 (dyf b l p f).toNat = -1 := fun e => c2 ⟨by omega, e⟩
              simp (disch := omega) only [leb_iff, ltb_iff, eqb_iff, pu_rmP, pu_dvP, pu_bs, pu_b0, pu_b1, pu_c0, pu_c1, pu_lt, pu_rdN, pu_wrN, hs_at, hs_cell, hs_slot, if_true, if_false, true_and, and_true, pu_rd, pu_wr, Int.reduceToNat, Int.toNat_natCast, decide_eq_true_eq, Int.add_zero, Bool.false_eq_true, if_pos, if_neg])
    (fun n x hp => by
      obtain ⟨k1, k2, k3⟩ := hp
      refine ⟨x, ?_, k1, k2, fun f hf => ?_⟩
      · (try dsimp only)
        rw [YearPlan_keepGreatest_L2, k1 33 (by omega) (by omega) (by omega), cb_many cb]
        simp (disch := omega) only [leb_iff, ltb_iff, eqb_iff, pu_rmP, pu_dvP, pu_bs, pu_b0, pu_b1, pu_c0, pu_c1, pu_lt, pu_rdN, pu_wrN, hs_at, hs_cell, hs_slot, if_true, if_false, true_and, and_true, pu_rd, pu_wr, Int.reduceToNat, Int.toNat_natCast, decide_eq_true_eq, Int.add_zero, Bool.false_eq_true, if_pos, if_neg]
      · obtain ⟨k, hk, e⟩ := rk_onto ok hf
        rw [← e]; exact k3 k (by omega)) N 0 h (by omega) (by omega) ⟨fun _ _ _ _ => rfl, fun d hd => by rw [(hbs d hd).2]; rfl, fun j hj => by omega⟩
  exact this
end Se
