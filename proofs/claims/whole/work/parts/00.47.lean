def sy (b : Nat → Int) (y : Nat) : Nat := (srt b (y : Int)).toNat
def sl (s : Nat) : Int := if (s : Int) < 40 then 0 else 1
def spc (b : Nat → Int) (s : Nat) : Int := b 13 + 1 + (s : Int) % 40
def ofn (b : Nat → Int) (s : Nat) : Int := cnt (fun y => decide (sy b y = s)) (cyN b)
def rsS (b : Nat → Int) (s : Nat) : St := res b (sl s) (spc b s)
def dyS (b : Nat → Int) (s f : Nat) : Int := dyf b (sl s) (spc b s) f
theorem sy_spec {b : Nat → Int} (ok : OkB b) (y : Nat) : (sy b y : Int) = srt b y ∧ sy b y < 80 ∧ sl (sy b y) = lp b y ∧ spc b (sy b y) = psc b y := by
  have h := srt_bd ok (y := (y : Int)) (by omega)
  have e : (sy b y : Int) = srt b y := by unfold sy; omega
  refine ⟨e, by omega, ?_, ?_⟩
  · unfold sl; rw [e]; exact h.2.2.1
  · unfold spc; rw [e]; exact h.2.2.2
theorem ofn_pos {b : Nat → Int} {s : Nat} : 0 < ofn b s ↔ ∃ y, y < cyN b ∧ sy b y = s := by
  unfold ofn
  rw [cnt_pos]
  constructor
  · rintro ⟨y, h1, h2⟩; exact ⟨y, h1, by simpa using h2⟩
  · rintro ⟨y, h1, h2⟩; exact ⟨y, h1, by simpa using h2⟩
theorem ofn_bd {b : Nat → Int} (ok : OkB b) (s : Nat) : 0 ≤ ofn b s ∧ ofn b s ≤ 1539 := by
  have := cnt_bd (fun y => decide (sy b y = s)) (cyN b)
  have := cyN_bd ok
  unfold ofn
  omega
theorem sum_sorts {t : Nat → Nat} (q : Nat → Bool) {S : Nat} : ∀ C : Nat, (∀ y, y < C → t y < S) → cnt (fun y => q (t y)) C = fsum (fun s => if q s then cnt (fun y => decide (t y = s)) C else 0) S := by
  intro C
  induction C with
  | zero =>
    intro _
    rw [cnt_zero, fsum_congr (g := fun _ => 0) (fun s _ => by rw [cnt_zero]; split <;> rfl)]
    have : ∀ n, fsum (fun _ => 0) n = 0 := fun n => by
      induction n with
      | zero => rfl
      | succ n ih => rw [fsum, ih]; rfl
    rw [this]
  | succ C ih =>
    intro h
    rw [cnt_succ, ih (fun y hy => h y (by omega))]
    rw [fsum_diff (f := fun s => if q s then cnt (fun y => decide (t y = s)) (C + 1) else 0) (g := fun s => if q s then cnt (fun y => decide (t y = s)) C else 0) (a := t C) (h C (by omega)) (fun s hs hne => by
      have e : cnt (fun y => decide (t y = s)) (C + 1) = cnt (fun y => decide (t y = s)) C := by
        rw [cnt_succ]; simp; omega
      rw [e])]
    congr 1
    rw [cnt_succ]
    cases q (t C) <;> simp; omega
theorem sy_ofn {b : Nat → Int} (ok : OkB b) (y : Nat) : 0 < ofn b (sy b y) := by
  have key : ∀ q r : Nat, srt b ((r + cyN b * q : Nat) : Int) = srt b (r : Int) := by
    intro q
    induction q with
    | zero => intro r; simp
    | succ q ih =>
      intro r
      have := (srt_per ok (y := ((r + cyN b * q : Nat) : Int)) (by omega)).2.2
      rw [show ((r + cyN b * q : Nat) : Int) + (cyN b : Int) = ((r + cyN b * (q + 1) : Nat) : Int) by rw [Nat.mul_add]; omega] at this
      rw [this, ih]
  have hb := cyN_bd ok
  rw [ofn_pos]
  refine ⟨y % cyN b, Nat.mod_lt _ (by omega), ?_⟩
  have := key (y / cyN b) (y % cyN b)
  rw [Nat.mod_add_div] at this
  unfold sy
  rw [this]
def RB (b : Nat → Int) (h : Hp) : Prop := (h 73 3 = (cyN b : Int)) ∧ (∀ s : Nat, s < 80 → h 74 s = ofn b s) ∧ (∀ s : Nat, s < 80 → 0 < ofn b s → ∃ y : Nat, h 75 s = y ∧ y < cyN b ∧ sy b y = s ∧ ∀ z : Nat, z < y → sy b z ≠ s)
theorem RB.yrs {b : Nat → Int} {h : Hp} (q_ : RB b h) : h 73 3 = (cyN b : Int) := q_.1
theorem RB.oft {b : Nat → Int} {h : Hp} (q_ : RB b h) : ∀ s : Nat, s < 80 → h 74 s = ofn b s := q_.2.1
theorem RB.fst {b : Nat → Int} {h : Hp} (q_ : RB b h) : ∀ s : Nat, s < 80 → 0 < ofn b s → ∃ y : Nat, h 75 s = y ∧ y < cyN b ∧ sy b y = s ∧ ∀ z : Nat, z < y → sy b z ≠ s := q_.2.2
theorem RB.mk {b : Nat → Int} {h : Hp} (yrs_ : h 73 3 = (cyN b : Int)) (oft_ : ∀ s : Nat, s < 80 → h 74 s = ofn b s) (fst_ : ∀ s : Nat, s < 80 → 0 < ofn b s → ∃ y : Nat, h 75 s = y ∧ y < cyN b ∧ sy b y = s ∧ ∀ z : Nat, z < y → sy b z ≠ s) : RB b h := ⟨yrs_, oft_, fst_⟩
def RS (b : Nat → Int) (h : Hp) : Prop := ∀ s : Nat, s < 80 → 0 < ofn b s → ∀ f : Nat, (f : Int) < b 42 → h 76 (s * 12 + f) = dyS b s f ∧ h 77 (s * 12 + f) = (rsS b s).1 f ∧ h 78 (s * 12 + f) = (rsS b s).2.1 f
def RM (b : Nat → Int) (h : Hp) : Prop := ∀ s : Nat, s < 80 → 0 < ofn b s → h 79 s = (rnf (plf b (sl s) (spc b s)) (yd b + sl s).toNat).1 ∧ h 80 s = cnt (plf b (sl s) (spc b s)) (spc b s).toNat ∧ h 81 s = cnt (plf b (sl s) (spc b s)) (yd b + sl s).toNat - cnt (plf b (sl s) (spc b s)) (spc b s).toNat
def RoundOk (b : Nat → Int) (h : Hp) : Prop := (RB b h) ∧ (h 73 6 = 0 ∨ (h 73 6 = 1 ∧ RS b h)) ∧ (h 73 7 = 0 ∨ (h 73 7 = 1 ∧ RM b h))
theorem RoundOk.rb {b : Nat → Int} {h : Hp} (q_ : RoundOk b h) : RB b h := q_.1
theorem RoundOk.rs {b : Nat → Int} {h : Hp} (q_ : RoundOk b h) : h 73 6 = 0 ∨ (h 73 6 = 1 ∧ RS b h) := q_.2.1
theorem RoundOk.rm {b : Nat → Int} {h : Hp} (q_ : RoundOk b h) : h 73 7 = 0 ∨ (h 73 7 = 1 ∧ RM b h) := q_.2.2
theorem RoundOk.mk {b : Nat → Int} {h : Hp} (rb_ : RB b h) (rs_ : h 73 6 = 0 ∨ (h 73 6 = 1 ∧ RS b h)) (rm_ : h 73 7 = 0 ∨ (h 73 7 = 1 ∧ RM b h)) : RoundOk b h := ⟨rb_, rs_, rm_⟩
def Fc (h h' : Hp) : Prop := (∀ c, (c < 66 ∨ 82 < c ∨ c = 74 ∨ c = 75) → h' c = h c) ∧ (∀ k, k ≠ 6 → k ≠ 7 → h' 73 k = h 73 k)
theorem Fc.refl (h : Hp) : Fc h h := ⟨fun _ _ => rfl, fun _ _ _ => rfl⟩
theorem Fc.trans {h h' h'' : Hp} (a : Fc h h') (c : Fc h' h'') : Fc h h'' := ⟨fun x hx => by rw [c.1 x hx, a.1 x hx], fun k h1 h2 => by rw [c.2 k h1 h2, a.2 k h1 h2]⟩
theorem Fp.fc {h h' : Hp} (a : Fp h h') : Fc h h' := ⟨fun c hc => a c (by omega), fun k _ _ => by rw [a 73 (by omega)]⟩
theorem Fc.rb {b : Nat → Int} {h h' : Hp} (a : Fc h h') (r : RB b h) : RB b h' := RB.mk (by rw [a.2 3 (by omega) (by omega)]; exact r.yrs) (by rw [a.1 74 (by omega)]; exact r.oft) (by rw [a.1 75 (by omega)]; exact r.fst)
theorem Fc.cb {b : Nat → Int} {h h' : Hp} {B : Nat} (hB : B < 47) (a : Fc h h') (r : CB b h B) : CB b h' B := CB_frame r (fun c c1 c2 => a.1 c (by omega))
theorem Fp.ro {b : Nat → Int} {h h' : Hp} (a : Fp h h') (r : RoundOk b h) : RoundOk b h' :=
  RoundOk.mk (a.fc.rb r.rb) (by rw [a 73 (by omega)]; unfold RS; rw [a 76 (by omega), a 77 (by omega), a 78 (by omega)]; exact r.rs) (by rw [a 73 (by omega)]; unfold RM; rw [a 79 (by omega), a 80 (by omega), a 81 (by omega)]; exact r.rm)
section Rn
variable {b : Nat → Int} {h : Hp} {N : Nat}
theorem c_fill2 (hN : 100 < N) {X nX : Nat} {v : Int} (h2 : nX < 90) : ∃ h', M_JA_fill_IIV N h X nX v = some h' ∧ (∀ c, c ≠ X → h' c = h c) ∧ (∀ d : Nat, d < nX → h' X d = v) := by
  unfold M_JA_fill_IIV
  exact lp_inv (fun n k x => JA_fill_IIV_L5 N X nX v nX n k x) (fun k x => (∀ c, c ≠ X → x c = h c) ∧ (∀ d : Nat, d < k → x X d = v))
    (fun h' => (∀ c, c ≠ X → h' c = h c) ∧ (∀ d : Nat, d < nX → h' X d = v)) nX
    (fun n k x hk hp => by
      obtain ⟨k1, k2⟩ := hp
      refine Or.inl ⟨hs x X k v, ⟨fun c hc => by rw [hs_cell hc]; exact k1 c hc, fun d hd => ?_⟩, ?_⟩
      · by_cases c : d = k
        · subst c; simp (disch := omega) only [leb_iff, ltb_iff, eqb_iff, pu_rmP, pu_dvP, pu_bs, pu_b0, pu_b1, pu_c0, pu_c1, pu_lt, pu_rdN, pu_wrN, hs_at, hs_cell, hs_slot, if_true, if_false, true_and, and_true, pu_rd, pu_wr, Int.reduceToNat, Int.toNat_natCast, decide_eq_true_eq, Int.add_zero, Bool.false_eq_true, if_pos, if_neg]
        · rw [hs_slot c]; exact k2 d (by omega)
      · (try dsimp only)
        rw [JA_fill_IIV_L5]
        simp (disch := omega) only [leb_iff, ltb_iff, eqb_iff, pu_rmP, pu_dvP, pu_bs, pu_b0, pu_b1, pu_c0, pu_c1, pu_lt, pu_rdN, pu_wrN, hs_at, hs_cell, hs_slot, if_true, if_false, true_and, and_true, pu_rd, pu_wr, Int.reduceToNat, Int.toNat_natCast, decide_eq_true_eq, Int.add_zero, Bool.false_eq_true, if_pos, if_neg])
    (fun n x hp => by
      refine ⟨x, ?_, hp⟩
      (try dsimp only)
      rw [JA_fill_IIV_L5]
      simp (disch := omega) only [leb_iff, ltb_iff, eqb_iff, pu_rmP, pu_dvP, pu_bs, pu_b0, pu_b1, pu_c0, pu_c1, pu_lt, pu_rdN, pu_wrN, hs_at, hs_cell, hs_slot, if_true, if_false, true_and, and_true, pu_rd, pu_wr, Int.reduceToNat, Int.toNat_natCast, decide_eq_true_eq, Int.add_zero, Bool.false_eq_true, if_pos, if_neg]) N 0 h (by omega) (by omega) ⟨fun _ _ => rfl, fun d hd => by omega⟩
theorem c_begin (hN : 2000 < N) (ok : OkB b) (cb : CB b h 23) : ∃ h', M_Round_begin N h = some h' ∧ (∀ c, c ≠ 73 → c ≠ 74 → c ≠ 75 → h' c = h c) ∧ RoundOk b h' := by
  have hw := ok.week
  have hC := cyN_bd ok
  have htold : h 23 0 = 1 := by rw [cb.told, if_pos (by omega)]
  unfold M_Round_begin M_Round_forget
  simp only [pu_c0, pu_lt, pu_bs]
  obtain ⟨g, e1, g1, g2⟩ := c_fill2 (h := hs (hs h 73 6 0) 73 7 0) (N := N) (X := 74) (nX := 80) (v := 0) (by omega) (by omega)
  rw [e1, pu_bs]
  have g23 : ∀ c, c ≠ 73 → c ≠ 74 → g c = h c := fun c c1 c2 => by rw [g1 c c2, hs_cell c1, hs_cell c1]
  have cbg : CB b g 23 := CB_frame cb (fun c c1 c2 => g23 c (by omega) (by omega))
  rw [g23 23 (by omega) (by omega), htold, c_years (by omega) ok cbg, pu_bs, if_neg (by rw [eqb_iff (by omega) (by omega) (by omega) (by omega)]; omega), hs_at]
  generalize hg : hs g 73 3 (cyN b : Int) = a
  have a3 : a 73 3 = (cyN b : Int) := by subst hg; rw [hs_at]
  have a6 : a 73 6 = 0 := by subst hg; rw [hs_slot (by omega), g1 73 (by omega)]; simp (disch := omega) only [leb_iff, ltb_iff, eqb_iff, pu_rmP, pu_dvP, pu_bs, pu_b0, pu_b1, pu_c0, pu_c1, pu_lt, pu_rdN, pu_wrN, hs_at, hs_cell, hs_slot, if_true, if_false, true_and, and_true, pu_rd, pu_wr, Int.reduceToNat, Int.toNat_natCast, decide_eq_true_eq, Int.add_zero, Bool.false_eq_true, if_pos, if_neg]
  have a7 : a 73 7 = 0 := by subst hg; rw [hs_slot (by omega), g1 73 (by omega)]; simp (disch := omega) only [leb_iff, ltb_iff, eqb_iff, pu_rmP, pu_dvP, pu_bs, pu_b0, pu_b1, pu_c0, pu_c1, pu_lt, pu_rdN, pu_wrN, hs_at, hs_cell, hs_slot, if_true, if_false, true_and, and_true, pu_rd, pu_wr, Int.reduceToNat, Int.toNat_natCast, decide_eq_true_eq, Int.add_zero, Bool.false_eq_true, if_pos, if_neg]
  have a74 : ∀ s : Nat, s < 80 → a 74 s = 0 := fun s hs => by subst hg; rw [hs_cell (by omega)]; exact g2 s hs
  have ac : ∀ c, c ≠ 73 → c ≠ 74 → a c = h c := fun c c1 c2 => by subst hg; rw [hs_cell c1]; exact g23 c c1 c2
  clear hg e1 g1 g2 g23
  have := lp_inv (fun n k x => Round_begin_L44 N n ((cyN b : Int) - 1 - k) x) (fun k x => (∀ c, c ≠ 74 → c ≠ 75 → x c = a c) ∧ (∀ s : Nat, s < 80 → x 74 s = ofn b s - cnt (fun y => decide (sy b y = s)) (cyN b - k)) ∧ (∀ s : Nat, s < 80 → (∃ y : Nat, cyN b - k ≤ y ∧ y < cyN b ∧ sy b y = s) → ∃ y : Nat, x 75 s = y ∧ cyN b - k ≤ y ∧ y < cyN b ∧ sy b y = s ∧ ∀ z : Nat, cyN b - k ≤ z → z < y → sy b z ≠ s))
    (fun h' => (∀ c, c ≠ 73 → c ≠ 74 → c ≠ 75 → h' c = h c) ∧ RoundOk b h') (cyN b)
    (fun n k x hk hp => by
      obtain ⟨k1, k2, k3⟩ := hp
      have cbx : CB b x 23 := CB_frame cb (fun c c1 c2 => by rw [k1 c (by omega) (by omega), ac c (by omega) (by omega)])
      have ey : (cyN b : Int) - 1 - k = ((cyN b - 1 - k : Nat) : Int) := by omega
      have es := c_sortOf ok cbx (y := (cyN b : Int) - 1 - k) (by omega) (by omega)
      have sp := sy_spec ok (cyN b - 1 - k)
      rw [ey, ← sp.1] at es
      have ek : cyN b - k = (cyN b - 1 - k) + 1 := by omega
      have ek2 : cyN b - (k + 1) = cyN b - 1 - k := by omega
      refine Or.inl ⟨hs (hs x 74 (sy b (cyN b - 1 - k)) (x 74 (sy b (cyN b - 1 - k)) + 1)) 75 (sy b (cyN b - 1 - k)) ((cyN b - 1 - k : Nat) : Int), ⟨fun c c1 c2 => by rw [hs_cell c2, hs_cell c1]; exact k1 c c1 c2, fun s hs => ?_, fun s hs hex => ?_⟩, ?_⟩
      · rw [hs_cell (by omega), ek2]
        by_cases e : s = sy b (cyN b - 1 - k)
        · rw [e, hs_at, k2 _ sp.2.1, ek, cnt_succ, if_pos (by simp)]; omega
        · rw [hs_slot e, k2 s hs, ek, cnt_succ, if_neg (by simp; omega)]; omega
      · rw [ek2] at hex ⊢
        by_cases e : s = sy b (cyN b - 1 - k)
        · rw [e, hs_at]
          exact ⟨cyN b - 1 - k, rfl, by omega, by omega, rfl, fun z z1 z2 => by omega⟩
        · rw [hs_slot e, hs_cell (by omega)]
          obtain ⟨y, y1, y2, y3⟩ := hex
          have : cyN b - 1 - k ≠ y := fun z => e (by rw [z, y3])
          obtain ⟨y', z1, z2, z3, z4, z5⟩ := k3 s hs ⟨y, by omega, y2, y3⟩
          refine ⟨y', z1, by omega, z3, z4, fun z w1 w2 => ?_⟩
          by_cases e2 : z = cyN b - 1 - k
          · rw [e2]; exact fun w => e w.symm
          · exact z5 z (by omega) w2
      · (try dsimp only)
        rw [ey, Round_begin_L44, es]
        simp (disch := omega) only [leb_iff, ltb_iff, eqb_iff, pu_rmP, pu_dvP, pu_bs, pu_b0, pu_b1, pu_c0, pu_c1, pu_lt, pu_rdN, pu_wrN, hs_at, hs_cell, hs_slot, if_true, if_false, true_and, and_true, pu_rd, pu_wr, Int.reduceToNat, Int.toNat_natCast, decide_eq_true_eq, Int.add_zero, Bool.false_eq_true, if_pos, if_neg]
        congr 1
        omega)
    (fun n x hp => by
      obtain ⟨k1, k2, k3⟩ := hp
      have x73 : x 73 = a 73 := k1 73 (by omega) (by omega)
      rw [Nat.sub_self] at k2 k3
      refine ⟨x, ?_, fun c c1 c2 c3 => by rw [k1 c c2 c3, ac c c1 c2], RoundOk.mk (RB.mk (by rw [x73, a3]) (fun s hs => by rw [k2 s hs, cnt_zero]; omega) (fun s hs hpos => ?_)) (Or.inl (by rw [x73, a6])) (Or.inl (by rw [x73, a7]))⟩
      · (try dsimp only)
        rw [Round_begin_L44]
        simp (disch := omega) only [leb_iff, ltb_iff, eqb_iff, pu_rmP, pu_dvP, pu_bs, pu_b0, pu_b1, pu_c0, pu_c1, pu_lt, pu_rdN, pu_wrN, hs_at, hs_cell, hs_slot, if_true, if_false, true_and, and_true, pu_rd, pu_wr, Int.reduceToNat, Int.toNat_natCast, decide_eq_true_eq, Int.add_zero, Bool.false_eq_true, if_pos, if_neg]
      · obtain ⟨y, y1, y2⟩ := ofn_pos.mp hpos
        obtain ⟨y', z1, z2, z3, z4, z5⟩ := k3 s hs ⟨y, by omega, y1, y2⟩
        exact ⟨y', z1, z3, z4, fun z hz => z5 z (by omega) hz⟩) N 0 a (by omega) (by omega) ⟨fun _ _ _ => rfl, fun s hs => by rw [a74 s hs, Nat.sub_zero]; unfold ofn; omega, fun s hs hex => by obtain ⟨y, y1, y2, y3⟩ := hex; omega⟩
  rw [Int.natCast_zero, Int.sub_zero] at this
  exact this
theorem c_begin_no (hN : 100 < N) (ht : h 23 0 = 0) : ∃ h', M_Round_begin N h = some h' ∧ (∀ c, c ≠ 73 → c ≠ 74 → c ≠ 75 → h' c = h c) := by
  unfold M_Round_begin M_Round_forget
  simp only [pu_c0, pu_lt, pu_bs]
  obtain ⟨g, e1, g1, g2⟩ := c_fill2 (h := hs (hs h 73 6 0) 73 7 0) (N := N) (X := 74) (nX := 80) (v := 0) (by omega) (by omega)
  have g23 : ∀ c, c ≠ 73 → c ≠ 74 → g c = h c := fun c c1 c2 => by rw [g1 c c2, hs_cell c1, hs_cell c1]
  refine ⟨hs g 73 3 0, ?_, fun c c1 c2 c3 => by rw [hs_cell c1]; exact g23 c c1 c2⟩
  obtain ⟨N, rfl⟩ : ∃ m, N = m + 1 := ⟨N - 1, by omega⟩
  rw [e1, pu_bs, g23 23 (by omega) (by omega), ht, Round_begin_L44]
  simp (disch := omega) only [leb_iff, ltb_iff, eqb_iff, pu_rmP, pu_dvP, pu_bs, pu_b0, pu_b1, pu_c0, pu_c1, pu_lt, pu_rdN, pu_wrN, hs_at, hs_cell, hs_slot, if_true, if_false, true_and, and_true, pu_rd, pu_wr, Int.reduceToNat, Int.toNat_natCast, decide_eq_true_eq, Int.add_zero, Bool.false_eq_true, if_pos, if_neg]
theorem cp_row {cs cd s : Nat} (hs : s < 80) (hne : cs ≠ cd) : ∃ h', cpA h cs 12 0 cd 960 ((s : Int) * 12) 12 = some h' ∧ (∀ c, c ≠ cd → h' c = h c) ∧ (∀ j : Nat, h' cd j = if s * 12 ≤ j ∧ j < s * 12 + 12 then h cs (j - s * 12) else h cd j) := by
  refine ⟨_, by unfold cpA; rw [if_pos (by omega)], fun c hc => by funext k; exact if_neg hc, fun j => ?_⟩
  show (if cd = cd then va_cpy (h cs) (h cd) (0 : Int).toNat ((s : Int) * 12).toNat (12 : Int).toNat j else h cd j) = _
  rw [if_pos rfl, show ((s : Int) * 12).toNat = s * 12 by omega, show (0 : Int).toNat = 0 from rfl, show (12 : Int).toNat = 12 from rfl]
  by_cases e : s * 12 ≤ j ∧ j < s * 12 + 12
  · rw [if_pos e, pk_cpy_in e.1 e.2, Nat.zero_add]
  · rw [if_neg e, pk_cpy_out (show j < s * 12 ∨ s * 12 + 12 ≤ j by omega)]
theorem c_allSettled (hN : 1100 < N) (ok : OkB b) (cb : CB b h 23) (pk : PlanOk b h) (ro : RoundOk b h) : ∃ h', M_Round_allSettled N h = some h' ∧ Fc h h' ∧ PlanOk b h' ∧ RoundOk b h' ∧ RS b h' := by
  have hm := ok.many
  unfold M_Round_allSettled
  rcases ro.rs with h6 | ⟨h6, hrs⟩
  · exact lp_inv (fun n k x => Round_allSettled_L2 N n k x) (fun k x => (∀ c, (c < 66 ∨ 72 < c) → c ≠ 76 → c ≠ 77 → c ≠ 78 → x c = h c) ∧ PlanOk b x ∧ (∀ s : Nat, s < k → 0 < ofn b s → ∀ f : Nat, (f : Int) < b 42 → x 76 (s * 12 + f) = dyS b s f ∧ x 77 (s * 12 + f) = (rsS b s).1 f ∧ x 78 (s * 12 + f) = (rsS b s).2.1 f))
      (fun h' => Fc h h' ∧ PlanOk b h' ∧ RoundOk b h' ∧ RS b h') 80
      (fun n k x hk hp => by
        obtain ⟨k1, k2, k3⟩ := hp
        have cbx : CB b x 23 := CB_frame cb (fun c c1 c2 => k1 c (by omega) (by omega) (by omega) (by omega))
        have x74 : x 74 k = ofn b k := by rw [k1 74 (by omega) (by omega) (by omega) (by omega)]; exact ro.rb.oft k hk
        have x73 : x 73 6 = 0 := by rw [k1 73 (by omega) (by omega) (by omega) (by omega)]; exact h6
        have hob := ofn_bd ok k
        by_cases c : 0 < ofn b k
        · obtain ⟨y, y1, y2⟩ := ofn_pos.mp c
          have sp := sy_spec ok y
          have hC := cyN_bd ok
          rw [y2] at sp
          obtain ⟨x1, e1, f1, p1, s1⟩ := c_settle (h := x) hN ok cbx k2 (y := (y : Int)) (by omega) (by omega)
          rw [← sp.1] at e1
          rw [← sp.2.2.1, ← sp.2.2.2] at s1
          obtain ⟨x2, e2, f2, r2⟩ := cp_row (h := x1) (cs := 69) (cd := 76) (s := k) hk (by omega)
          obtain ⟨x3, e3, f3, r3⟩ := cp_row (h := x2) (cs := 71) (cd := 77) (s := k) hk (by omega)
          obtain ⟨x4, e4, f4, r4⟩ := cp_row (h := x3) (cs := 72) (cd := 78) (s := k) hk (by omega)
          have x4c : ∀ c, c ≠ 76 → c ≠ 77 → c ≠ 78 → x4 c = x1 c := fun c c1 c2 c3 => by rw [f4 c c3, f3 c c2, f2 c c1]
          refine Or.inl ⟨x4, ⟨fun c c1 c2 c3 c4 => by rw [x4c c c2 c3 c4, f1 c c1]; exact k1 c c1 c2 c3 c4, ?_, fun s hs hpos f hf => ?_⟩, ?_⟩
          · rcases p1 with p1 | ⟨z, z0, z1, z2, z3, z4⟩
            · exact Or.inl (by rw [x4c 66 (by omega) (by omega) (by omega)]; exact p1)
            · refine Or.inr ⟨z, z0, z1, by rw [x4c 66 (by omega) (by omega) (by omega)]; exact z2, Laid.mk (by rw [x4c 66 (by omega) (by omega) (by omega)]; exact z3.days) (by rw [x4c 66 (by omega) (by omega) (by omega)]; exact z3.pasch) (by rw [x4c 69 (by omega) (by omega) (by omega), x4c 70 (by omega) (by omega) (by omega)]; exact z3.rows), ?_⟩
              rw [x4c 66 (by omega) (by omega) (by omega)]
              rcases z4 with z4 | z4
              · exact Or.inl z4
              · exact Or.inr ⟨z4.1, PS.mk (Laid.mk (by rw [x4c 66 (by omega) (by omega) (by omega)]; exact z3.days) (by rw [x4c 66 (by omega) (by omega) (by omega)]; exact z3.pasch) (by rw [x4c 69 (by omega) (by omega) (by omega), x4c 70 (by omega) (by omega) (by omega)]; exact z3.rows)) (by rw [x4c 67 (by omega) (by omega) (by omega)]; exact z4.2.bs) (by rw [x4c 68 (by omega) (by omega) (by omega)]; exact z4.2.of) (by rw [x4c 71 (by omega) (by omega) (by omega), x4c 72 (by omega) (by omega) (by omega)]; exact z4.2.ro)⟩
          · have hr := s1.ro f hf
            have hl := (s1.la.rows f hf).1
            rw [f4 76 (by omega), f3 76 (by omega), r2, f4 77 (by omega), r3, r4, f2 71 (by omega), f3 72 (by omega), f2 72 (by omega), f2 77 (by omega), f3 78 (by omega), f2 78 (by omega)]
            by_cases e : s = k
            · subst e
              rw [if_pos (by omega), if_pos (by omega), if_pos (by omega), show s * 12 + f - s * 12 = f by omega]
              exact ⟨hl, hr.1, hr.2⟩
            · rw [if_neg (by omega), if_neg (by omega), if_neg (by omega), f1 76 (by omega), f1 77 (by omega), f1 78 (by omega)]
              exact k3 s (by omega) hpos f hf
          · (try dsimp only)
            rw [Round_allSettled_L2, x73]
            simp (disch := omega) only [leb_iff, ltb_iff, eqb_iff, pu_rmP, pu_dvP, pu_bs, pu_b0, pu_b1, pu_c0, pu_c1, pu_lt, pu_rdN, pu_wrN, hs_at, hs_cell, hs_slot, if_true, if_false, true_and, and_true, pu_rd, pu_wr, Int.reduceToNat, Int.toNat_natCast, decide_eq_true_eq, Int.add_zero, Bool.false_eq_true, if_pos, if_neg, x74, e1, e2, e3, e4]
        · refine Or.inl ⟨x, ⟨k1, k2, fun s hs hpos => ?_⟩, ?_⟩
          · by_cases e : s = k
            · subst e; omega
            · exact k3 s (by omega) hpos
          · (try dsimp only)
            rw [Round_allSettled_L2, x73]
            simp (disch := omega) only [leb_iff, ltb_iff, eqb_iff, pu_rmP, pu_dvP, pu_bs, pu_b0, pu_b1, pu_c0, pu_c1, pu_lt, pu_rdN, pu_wrN, hs_at, hs_cell, hs_slot, if_true, if_false, true_and, and_true, pu_rd, pu_wr, Int.reduceToNat, Int.toNat_natCast, decide_eq_true_eq, Int.add_zero, Bool.false_eq_true, if_pos, if_neg, x74])
      (fun n x hp => by
        obtain ⟨k1, k2, k3⟩ := hp
        have fx : Fc h (hs x 73 6 1) := ⟨fun c hc => by rw [hs_cell (by omega)]; exact k1 c (by omega) (by omega) (by omega) (by omega), fun k c1 c2 => by rw [hs_slot c1, k1 73 (by omega) (by omega) (by omega) (by omega)]⟩
        have hrs : RS b (hs x 73 6 1) := by unfold RS; rw [hs_cell (by omega), hs_cell (by omega), hs_cell (by omega)]; exact k3
        refine ⟨hs x 73 6 1, ?_, fx, ?_, RoundOk.mk (fx.rb ro.rb) (Or.inr ⟨hs_at, hrs⟩) ?_, hrs⟩
        · (try dsimp only)
          rw [Round_allSettled_L2]
          simp (disch := omega) only [leb_iff, ltb_iff, eqb_iff, pu_rmP, pu_dvP, pu_bs, pu_b0, pu_b1, pu_c0, pu_c1, pu_lt, pu_rdN, pu_wrN, hs_at, hs_cell, hs_slot, if_true, if_false, true_and, and_true, pu_rd, pu_wr, Int.reduceToNat, Int.toNat_natCast, decide_eq_true_eq, Int.add_zero, Bool.false_eq_true, if_pos, if_neg]
        · unfold PlanOk at k2 ⊢
          rw [hs_cell (by omega)]
          rcases k2 with p1 | ⟨z, z0, z1, z2, z3, z4⟩
          · exact Or.inl p1
          · refine Or.inr ⟨z, z0, z1, z2, Laid.mk (by rw [hs_cell (by omega)]; exact z3.days) (by rw [hs_cell (by omega)]; exact z3.pasch) (by rw [hs_cell (by omega), hs_cell (by omega)]; exact z3.rows), ?_⟩
            rcases z4 with z4 | z4
            · exact Or.inl z4
            · exact Or.inr ⟨z4.1, PS.mk (Laid.mk (by rw [hs_cell (by omega)]; exact z3.days) (by rw [hs_cell (by omega)]; exact z3.pasch) (by rw [hs_cell (by omega), hs_cell (by omega)]; exact z3.rows)) (by rw [hs_cell (by omega)]; exact z4.2.bs) (by rw [hs_cell (by omega)]; exact z4.2.of) (by rw [hs_cell (by omega), hs_cell (by omega)]; exact z4.2.ro)⟩
        · rw [hs_slot (by omega), k1 73 (by omega) (by omega) (by omega) (by omega)]
          unfold RM
          rw [hs_cell (by omega), hs_cell (by omega), hs_cell (by omega), k1 79 (by omega) (by omega) (by omega) (by omega), k1 80 (by omega) (by omega) (by omega) (by omega), k1 81 (by omega) (by omega) (by omega) (by omega)]
          exact ro.rm) N 0 h (by omega) (by omega) ⟨fun _ _ _ _ _ => rfl, pk, fun s hs => by omega⟩
  · refine ⟨hs h 73 6 1, ?_, ⟨fun c hc => hs_cell (by omega), fun k c1 c2 => hs_slot c1⟩, ?_, ?_, ?_⟩
    · obtain ⟨N, rfl⟩ : ∃ m, N = m + 1 := ⟨N - 1, by omega⟩
      rw [Round_allSettled_L2, h6]
      simp (disch := omega) only [leb_iff, ltb_iff, eqb_iff, pu_rmP, pu_dvP, pu_bs, pu_b0, pu_b1, pu_c0, pu_c1, pu_lt, pu_rdN, pu_wrN, hs_at, hs_cell, hs_slot, if_true, if_false, true_and, and_true, pu_rd, pu_wr, Int.reduceToNat, Int.toNat_natCast, decide_eq_true_eq, Int.add_zero, Bool.false_eq_true, if_pos, if_neg]
    · have : hs h 73 6 1 = h := by
        funext c k
        by_cases e : c = 73
        · subst e; rw [hs_up]; unfold pu_up; split
          · rename_i z; rw [z, h6]
          · rfl
        · rw [hs_cell e]
      rw [this]; exact pk
    · have : hs h 73 6 1 = h := by
        funext c k
        by_cases e : c = 73
        · subst e; rw [hs_up]; unfold pu_up; split
          · rename_i z; rw [z, h6]
          · rfl
        · rw [hs_cell e]
      rw [this]; exact ro
    · unfold RS; rw [hs_cell (by omega), hs_cell (by omega), hs_cell (by omega)]; exact hrs
end Rn
