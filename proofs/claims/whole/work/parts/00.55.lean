def gS (b : Nat → Int) (f s : Nat) : Int := if dyS b s f = -1 then 0 else gof b (sl s) (spc b s) f (dyS b s f) (b 42).toNat
def sff (b : Nat → Int) (f : Nat) (G : Int) : Nat → Int → Int
  | 0, _ => -1
  | n + 1, r => if G < kcl b f r 4 then r else sff b f G n (r + 1)
def kbS (b : Nat → Int) (f : Nat) (sh : Int) (s : Nat) : Prop := tell b f (fq b f 3 + sh) ∧ (0 ≤ sp_td b (sl s) (spc b s) f + sh ∧ sp_td b (sl s) (spc b s) f + sh < yd b + sl s) ∧ gof b (sl s) (spc b s) f (sp_td b (sl s) (spc b s) f + sh) (b 42).toNat < cl b f
noncomputable def kbB (b : Nat → Int) (f : Nat) (sh : Int) (s : Nat) : Bool := @decide (kbS b f sh s) (Classical.propDecidable _)
noncomputable def kbC (b : Nat → Int) (f : Nat) (sh : Int) : Int := cnt (fun y => kbB b f sh (sy b y)) (cyN b)
theorem kbB_iff {b : Nat → Int} {f : Nat} {sh : Int} {s : Nat} : kbB b f sh s = true ↔ kbS b f sh s := by unfold kbB; simp
noncomputable def bst (b : Nat → Int) (f : Nat) : Nat → Int
  | 0 => 0
  | j + 1 => if kbC b f (if kbC b f (bst b f j) < kbC b f (-((j : Int) + 1)) then -((j : Int) + 1) else bst b f j) < kbC b f ((j : Int) + 1) then (j : Int) + 1 else (if kbC b f (bst b f j) < kbC b f (-((j : Int) + 1)) then -((j : Int) + 1) else bst b f j)
section Sf
variable {b : Nat → Int} {h : Hp} {N : Nat}
theorem kbC_bd (ok : OkB b) (f : Nat) (sh : Int) : 0 ≤ kbC b f sh ∧ kbC b f sh ≤ 1539 := by
  have := cnt_bd (fun y => kbB b f sh (sy b y)) (cyN b)
  have := cyN_bd ok
  unfold kbC; omega
theorem bst_bd (b : Nat → Int) (f : Nat) : ∀ j : Nat, -(j : Int) ≤ bst b f j ∧ bst b f j ≤ j
  | 0 => by simp [bst]
  | j + 1 => by
    have := bst_bd b f j
    rw [bst]
    split
    · omega
    · split <;> omega
theorem gS_bd (ok : OkB b) (f s : Nat) : 0 ≤ gS b f s ∧ gS b f s < 1600 := by
  have hm := ok.many
  unfold gS; split
  · omega
  · exact gof_bd ok f _ _ (by omega)
theorem MxS_bd2 {g : Nat → Int} {c : Int} (hg : ∀ s, g s ≤ c) (hc : 0 ≤ c) {k : Nat} {r : Int} (h : MxS b g k r) : 0 ≤ r ∧ r ≤ c := by
  obtain ⟨h1, h2, h3⟩ := h
  rcases h3 with e | ⟨y, y1, y2⟩
  · omega
  · have := hg (sy b y); omega
theorem c_safeRank (hN : 100 < N) (ok : OkB b) (cb : CB b h 23) (pk : PlanOk b h) (rb : RB b h) {f : Nat} (hf : (f : Int) < b 42) : ∃ G h', M_Round_safeRank N h f = some (sff b f G 9 1, h') ∧ Fp h h' ∧ PlanOk b h' ∧ Mx0 (fun y => gS b f (sy b y)) (cyN b) G := by
  have hm := ok.many
  have ho := ok.fea f hf
  unfold M_Round_safeRank
  obtain ⟨⟨G, x⟩, ⟨g1, g2, g3⟩, e⟩ := lp_cont (fun n k (a : Int × Hp) => Round_safeRank_L4 N f (fun v2_7 v3_7 h_7 => Round_safeRank_L71 N h_7 f v2_7 N 1) n a.1 k a.2) (fun a => Round_safeRank_L71 N a.2 f a.1 N 1) (fun k a => MxS b (gS b f) k a.1 ∧ Fp h a.2 ∧ PlanOk b a.2) 80
    (fun n k a hk hp => by
      obtain ⟨a, x⟩ := a
      obtain ⟨k1, k2, k3⟩ := hp
      dsimp only at k1 k2 k3
      have h1 : x 74 k = ofn b k := by rw [k2 74 (by omega)]; exact rb.oft k hk
      have h2 := ofn_bd ok k
      have h3 := MxS_bd2 (c := 1600) (fun s => by have := gS_bd ok f s; omega) (by omega) k1
      have h4 := gS_bd ok f k
      have cbx : CB b x 23 := CB_frame cb (fun c c1 c2 => k2 c (by omega))
      by_cases c : 0 < ofn b k
      · obtain ⟨x', e1, e2, e3, e4, e5⟩ := c_layS (h := x) (N := N) (by omega) ok cbx k3 c
        have yr := (Yr_s ok c).2
        have cbx' : CB b x' 23 := CB_frame cbx (fun c c1 c2 => e2 c (by omega))
        have h5 : x' 69 f = dyS b k f := (e5.rows f hf).1
        have h6 := dyS_bd ok k f
        refine ⟨(max a (gS b f k), x'), ⟨MxS_yes k1 c, k2.trans e2, e3⟩, ?_⟩
        dsimp only
        rw [Round_safeRank_L4]
        by_cases c2 : dyS b k f = -1
        · have e : gS b f k = 0 := if_pos c2
          rw [e, show max a 0 = a by omega]
          simp (disch := omega) only [leb_iff, ltb_iff, eqb_iff, pu_rmP, pu_dvP, pu_bs, pu_b0, pu_b1, pu_c0, pu_c1, pu_lt, pu_rdN, pu_wrN, hs_at, hs_cell, hs_slot, if_true, if_false, true_and, and_true, pu_rd, pu_wr, Int.reduceToNat, Int.toNat_natCast, decide_eq_true_eq, Int.add_zero, Bool.false_eq_true, if_pos, if_neg, h1, e1, h5]
        · have e : gS b f k = gof b (sl k) (spc b k) f (dyS b k f) (b 42).toNat := if_neg c2
          have e6 := c_greatest (h := x') (N := N) (by omega) ok cbx' yr e5 hf (d := dyS b k f) (by omega)
          rw [← e] at e6
          simp (disch := omega) only [leb_iff, ltb_iff, eqb_iff, pu_rmP, pu_dvP, pu_bs, pu_b0, pu_b1, pu_c0, pu_c1, pu_lt, pu_rdN, pu_wrN, hs_at, hs_cell, hs_slot, if_true, if_false, true_and, and_true, pu_rd, pu_wr, Int.reduceToNat, Int.toNat_natCast, decide_eq_true_eq, Int.add_zero, Bool.false_eq_true, if_pos, if_neg, h1, e1, h5, e6, pu_mx]
      · refine ⟨(a, x), ⟨MxS_no k1 c, k2, k3⟩, ?_⟩
        dsimp only
        rw [Round_safeRank_L4]
        simp (disch := omega) only [leb_iff, ltb_iff, eqb_iff, pu_rmP, pu_dvP, pu_bs, pu_b0, pu_b1, pu_c0, pu_c1, pu_lt, pu_rdN, pu_wrN, hs_at, hs_cell, hs_slot, if_true, if_false, true_and, and_true, pu_rd, pu_wr, Int.reduceToNat, Int.toNat_natCast, decide_eq_true_eq, Int.add_zero, Bool.false_eq_true, if_pos, if_neg, h1])
    (fun n a hp => by
      obtain ⟨a, x⟩ := a
      dsimp only
      rw [Round_safeRank_L4]
      simp (disch := omega) only [leb_iff, ltb_iff, eqb_iff, pu_rmP, pu_dvP, pu_bs, pu_b0, pu_b1, pu_c0, pu_c1, pu_lt, pu_rdN, pu_wrN, hs_at, hs_cell, hs_slot, if_true, if_false, true_and, and_true, pu_rd, pu_wr, Int.reduceToNat, Int.toNat_natCast, decide_eq_true_eq, Int.add_zero, Bool.false_eq_true, if_pos, if_neg]) N 0 (0, h) (by omega) (by omega) ⟨⟨by dsimp only; omega, fun y hy hk => by omega, Or.inl rfl⟩, fun _ _ => rfl, pk⟩
  dsimp only at g1 g2 g3 e
  have hGb := MxS_bd2 (c := 1600) (fun s => by have := gS_bd ok f s; omega) (by omega) g1
  have cbx : CB b x 23 := CB_frame cb (fun c c1 c2 => g2 c (by omega))
  have key : ∀ r n : Nat, r < n → r ≤ 9 → Round_safeRank_L71 N x f G n (10 - (r : Int)) = some (sff b f G r (10 - (r : Int)), x) := by
    intro r
    induction r with
    | zero =>
      intro n hn _
      obtain ⟨n, rfl⟩ : ∃ m, n = m + 1 := ⟨n - 1, by omega⟩
      rw [Round_safeRank_L71, sff]
      simp (disch := omega) only [leb_iff, ltb_iff, eqb_iff, pu_rmP, pu_dvP, pu_bs, pu_b0, pu_b1, pu_c0, pu_c1, pu_lt, pu_rdN, pu_wrN, hs_at, hs_cell, hs_slot, if_true, if_false, true_and, and_true, pu_rd, pu_wr, Int.reduceToNat, Int.toNat_natCast, decide_eq_true_eq, Int.add_zero, Bool.false_eq_true, if_pos, if_neg]
    | succ r ih =>
      intro n hn hr
      obtain ⟨n, rfl⟩ : ∃ m, n = m + 1 := ⟨n - 1, by omega⟩
      have hk := kcl_bd ho (by omega) (r := 10 - ((r + 1 : Nat) : Int)) (k := 4)
      have ih := ih n (by omega) (by omega)
      rw [Round_safeRank_L71, c_claimWith ok cbx hf, sff]
      rw [show (10 - (r : Int)) = 10 - ((r + 1 : Nat) : Int) + 1 by omega] at ih
      by_cases c : G < kcl b f (10 - ((r + 1 : Nat) : Int)) 4
      · simp (disch := omega) only [leb_iff, ltb_iff, eqb_iff, pu_rmP, pu_dvP, pu_bs, pu_b0, pu_b1, pu_c0, pu_c1, pu_lt, pu_rdN, pu_wrN, hs_at, hs_cell, hs_slot, if_true, if_false, true_and, and_true, pu_rd, pu_wr, Int.reduceToNat, Int.toNat_natCast, decide_eq_true_eq, Int.add_zero, Bool.false_eq_true, if_pos, if_neg]
      · simp (disch := omega) only [leb_iff, ltb_iff, eqb_iff, pu_rmP, pu_dvP, pu_bs, pu_b0, pu_b1, pu_c0, pu_c1, pu_lt, pu_rdN, pu_wrN, hs_at, hs_cell, hs_slot, if_true, if_false, true_and, and_true, pu_rd, pu_wr, Int.reduceToNat, Int.toNat_natCast, decide_eq_true_eq, Int.add_zero, Bool.false_eq_true, if_pos, if_neg, ih]
  have k9 := key 9 N (by omega) (by omega)
  refine ⟨G, x, ?_, g2, g3, MxS_fin ok g1⟩
  rw [Int.natCast_zero] at e
  rw [e]; exact k9
def Fs (h h' : Hp) : Prop := (∀ c, c ≠ 83 → c ≠ 84 → (c < 89 ∨ 94 < c) → h' c = h c) ∧ (∀ j, (j < 13 ∨ 15 < j) → (j < 22 ∨ 24 < j) → h' 83 j = h 83 j)
theorem Fq.fs {h h' : Hp} (a : Fq h h') : Fs h h' := ⟨fun c h1 _ h3 => a.1 c h1 h3, a.2⟩
theorem Fs.trans {h h' h'' : Hp} (a : Fs h h') (c : Fs h' h'') : Fs h h'' := ⟨fun x h1 h2 h3 => by rw [c.1 x h1 h2 h3, a.1 x h1 h2 h3], fun j h1 h2 => by rw [c.2 j h1 h2, a.2 j h1 h2]⟩
theorem Fs_hs {h : Hp} {k : Nat} {v : Int} : Fs h (hs h 84 k v) := ⟨fun c _ h2 _ => hs_cell h2, fun j _ _ => by rw [hs_cell (by omega)]⟩
theorem Fs.fq {h h' : Hp} (a : Fs h h') (e : h' 84 = h 84) : Fq h h' := ⟨fun c h1 h2 => by
  by_cases x : c = 84
  · rw [x]; exact e
  · exact a.1 c h1 x h2, a.2⟩
theorem m_isSafe (hN : 2000 < N) (ok : OkB b) (hb : h 84 = b) {f : Nat} (hf : (f : Int) < b 42) : ∃ r h', M_Md_isSafe N h f = some (r, h') ∧ Fq h h' ∧ ((r = 1 ∧ ∀ y, y < cyN b → (rsS b (sy b y)).2.1 f = 0 ∨ (rsS b (sy b y)).2.1 f = 5) ∨ (r = 0 ∧ ∃ y, y < cyN b ∧ (rsS b (sy b y)).2.1 f ≠ 0 ∧ (rsS b (sy b y)).2.1 f ≠ 5)) := by
  have hm := ok.many
  have hC := cyN_bd ok
  unfold M_Md_isSafe
  rw [m_cycle0 hN ok hb, pu_bs]
  have := lp_inv (fun n k (a : Hp) => Md_isSafe_L7 N f (cyN b) n k a) (fun k a => (∀ y, y < k → (rsS b (sy b y)).2.1 f = 0 ∨ (rsS b (sy b y)).2.1 f = 5) ∧ Fq h a) (fun r => Fq h r.2 ∧ ((r.1 = 1 ∧ ∀ y, y < cyN b → (rsS b (sy b y)).2.1 f = 0 ∨ (rsS b (sy b y)).2.1 f = 5) ∨ (r.1 = 0 ∧ ∃ y, y < cyN b ∧ (rsS b (sy b y)).2.1 f ≠ 0 ∧ (rsS b (sy b y)).2.1 f ≠ 5))) (cyN b)
    (fun n k x hk hp => by
      obtain ⟨k1, k2⟩ := hp
      obtain ⟨x', e1, e2, e3, e4⟩ := m_resY (h := x) (N := N) (by omega) ok (k2.bk hb) (y := k) (by omega)
      have h1 := (e4.ro f hf).2
      have h2 := rsS_fa ok (sy b k) hf
      by_cases c : (rsS b (sy b k)).2.1 f = 0 ∨ (rsS b (sy b k)).2.1 f = 5
      · refine Or.inl ⟨x', ⟨fun y hy => ?_, k2.trans e2⟩, ?_⟩
        · by_cases e : y = k
          · subst e; exact c
          · exact k1 y (by omega)
        · (try dsimp only)
          rw [Md_isSafe_L7, e1, pu_bs]
          rcases c with c | c
          · simp (disch := omega) only [leb_iff, ltb_iff, eqb_iff, pu_rmP, pu_dvP, pu_bs, pu_b0, pu_b1, pu_c0, pu_c1, pu_lt, pu_rdN, pu_wrN, hs_at, hs_cell, hs_slot, if_true, if_false, true_and, and_true, pu_rd, pu_wr, Int.reduceToNat, Int.toNat_natCast, decide_eq_true_eq, Int.add_zero, Bool.false_eq_true, if_pos, if_neg, h1, c]
          · simp (disch := omega) only [leb_iff, ltb_iff, eqb_iff, pu_rmP, pu_dvP, pu_bs, pu_b0, pu_b1, pu_c0, pu_c1, pu_lt, pu_rdN, pu_wrN, hs_at, hs_cell, hs_slot, if_true, if_false, true_and, and_true, pu_rd, pu_wr, Int.reduceToNat, Int.toNat_natCast, decide_eq_true_eq, Int.add_zero, Bool.false_eq_true, if_pos, if_neg, h1, c]
      · refine Or.inr ⟨(0, x'), ?_, k2.trans e2, Or.inr ⟨rfl, k, hk, fun x => c (Or.inl x), fun x => c (Or.inr x)⟩⟩
        (try dsimp only)
        rw [Md_isSafe_L7, e1, pu_bs]
        have c1 : ¬ (rsS b (sy b k)).2.1 f = 0 := fun x => c (Or.inl x)
        have c2 : ¬ (rsS b (sy b k)).2.1 f = 5 := fun x => c (Or.inr x)
        simp (disch := omega) only [leb_iff, ltb_iff, eqb_iff, pu_rmP, pu_dvP, pu_bs, pu_b0, pu_b1, pu_c0, pu_c1, pu_lt, pu_rdN, pu_wrN, hs_at, hs_cell, hs_slot, if_true, if_false, true_and, and_true, pu_rd, pu_wr, Int.reduceToNat, Int.toNat_natCast, decide_eq_true_eq, Int.add_zero, Bool.false_eq_true, if_pos, if_neg, h1])
    (fun n x hp => by
      refine ⟨(1, x), ?_, hp.2, Or.inl ⟨rfl, hp.1⟩⟩
      (try dsimp only)
      rw [Md_isSafe_L7]
      simp (disch := omega) only [leb_iff, ltb_iff, eqb_iff, pu_rmP, pu_dvP, pu_bs, pu_b0, pu_b1, pu_c0, pu_c1, pu_lt, pu_rdN, pu_wrN, hs_at, hs_cell, hs_slot, if_true, if_false, true_and, and_true, pu_rd, pu_wr, Int.reduceToNat, Int.toNat_natCast, decide_eq_true_eq, Int.add_zero, Bool.false_eq_true, if_pos, if_neg]) N 0 h (by omega) (by omega) ⟨fun y hy => by omega, Fq.refl h⟩
  obtain ⟨⟨r, x⟩, e, e1, e2⟩ := this
  exact ⟨r, x, e, e1, e2⟩
theorem safe_iff (ok : OkB b) {f : Nat} (hf : (f : Int) < b 42) {G : Int} (hG : Mx0 (fun y => gS b f (sy b y)) (cyN b) G) {v : Int} (hv : 1 ≤ v ∧ v ≤ 9) : (∀ y, y < cyN (pu_up b (43 + 7 * f + 0) v) → (rsS (pu_up b (43 + 7 * f + 0) v) (sy (pu_up b (43 + 7 * f + 0) v) y)).2.1 f = 0 ∨ (rsS (pu_up b (43 + 7 * f + 0) v) (sy (pu_up b (43 + 7 * f + 0) v) y)).2.1 f = 5) ↔ G < kcl b f v 4 := by
  have hm := ok.many
  have hk := kcl_bd (ok.fea f hf) (by omega) (r := v) (k := 4)
  have e1 := cyN_cg ok (up_cal6 (b := b) (f := f) (w := 0) (v := v))
  have key : ∀ y : Nat, ((rsS (pu_up b (43 + 7 * f + 0) v) (sy (pu_up b (43 + 7 * f + 0) v) y)).2.1 f = 0 ∨ (rsS (pu_up b (43 + 7 * f + 0) v) (sy (pu_up b (43 + 7 * f + 0) v) y)).2.1 f = 5) ↔ gS b f (sy b y) < kcl b f v 4 := by
    intro y
    rw [sy_cg ok up_cal6]
    unfold rsS
    rw [spc_cg up_cal6]
    have hr := kept_rank (l := sl (sy b y)) (p := spc b (sy b y)) ok hf hv
    rw [hr.1, hr.2]
    unfold gS dyS
    by_cases c : dyf b (sl (sy b y)) (spc b (sy b y)) f = -1
    · rw [if_pos c]; exact ⟨fun _ => by omega, fun _ => Or.inr c⟩
    · rw [if_neg c]
      exact ⟨fun x => by rcases x with x | x; exact x.2; exact absurd x c, fun x => Or.inl ⟨c, x⟩⟩
  rw [e1]
  obtain ⟨h1, h2, h3⟩ := hG
  constructor
  · intro x
    rcases h3 with e | ⟨y, y1, y2⟩
    · omega
    · have := (key y).mp (x y y1)
      dsimp only at y2
      omega
  · intro x y hy
    rw [key y]
    have := h2 y hy
    dsimp only at this
    omega
theorem m_safe_L (hN : 2000 < N) (ok : OkB b) (hb : h 84 = b) {f : Nat} (hf : (f : Int) < b 42) {G : Int} (hG : Mx0 (fun y => gS b f (sy b y)) (cyN b) G) : ∃ h', Md_safe_L54 N f (43 + 7 * (f : Int) + 0) (fq b f 0) N 1 (hs h 84 (43 + 7 * f + 0) 1) = some (sff b f G 9 1, h') ∧ Fq h h' := by
  have hm := ok.many
  have ei : ((43 : Int) + 7 * (f : Int)).toNat = 43 + 7 * f + 0 := by omega
  have hwas : b (43 + 7 * f + 0) = fq b f 0 := rfl
  have key : ∀ r n : Nat, r < n → r ≤ 9 → ∀ x : Hp, Fs h x → x 84 = pu_up b (43 + 7 * f + 0) (10 - (r : Int)) → ∃ h', Md_safe_L54 N f (43 + 7 * (f : Int) + 0) (fq b f 0) n (10 - (r : Int)) x = some (sff b f G r (10 - (r : Int)), h') ∧ Fq h h' := by
    intro r
    induction r with
    | zero =>
      intro n hn _ x fx x84
      obtain ⟨n, rfl⟩ : ∃ m, n = m + 1 := ⟨n - 1, by omega⟩
      refine ⟨hs x 84 (43 + 7 * f + 0) (fq b f 0), ?_, (fx.trans Fs_hs).fq ?_⟩
      · rw [Md_safe_L54, sff]
        simp (disch := omega) only [leb_iff, ltb_iff, eqb_iff, pu_rmP, pu_dvP, pu_bs, pu_b0, pu_b1, pu_c0, pu_c1, pu_lt, pu_rdN, pu_wrN, hs_at, hs_cell, hs_slot, if_true, if_false, true_and, and_true, pu_rd, pu_wr, Int.reduceToNat, Int.toNat_natCast, decide_eq_true_eq, Int.add_zero, Bool.false_eq_true, if_pos, if_neg, ei]
      · rw [hs_up, x84, pu_up_up, hb, ← hwas]
        funext k; unfold pu_up; split
        · rename_i z; rw [z]
        · rfl
    | succ r ih =>
      intro n hn hr x fx x84
      obtain ⟨n, rfl⟩ : ∃ m, n = m + 1 := ⟨n - 1, by omega⟩
      have hv : 1 ≤ 10 - ((r + 1 : Nat) : Int) ∧ 10 - ((r + 1 : Nat) : Int) ≤ 9 := by omega
      have ok' := up_okB ok (f := f) (w := 0) (by omega) (up_rank ok hf hv)
      have h42 : pu_up b (43 + 7 * f + 0) (10 - ((r + 1 : Nat) : Int)) 42 = b 42 := up_cal 42 (by omega)
      obtain ⟨v, x', e1, e2, e3⟩ := m_isSafe (h := x) hN ok' x84 (f := f) (by rw [h42]; exact hf)
      have hsi := safe_iff ok hf hG hv
      rw [Md_safe_L54, e1, sff]
      by_cases c : G < kcl b f (10 - ((r + 1 : Nat) : Int)) 4
      · have hv1 : v = 1 := by
          rcases e3 with e3 | e3
          · exact e3.1
          · obtain ⟨y, y1, y2, y3⟩ := e3.2
            rcases hsi.mpr c y y1 with z | z
            · exact absurd z y2
            · exact absurd z y3
        refine ⟨hs x' 84 (43 + 7 * f + 0) (fq b f 0), ?_, ((fx.trans e2.fs).trans Fs_hs).fq ?_⟩
        · rw [hv1]
          simp (disch := omega) only [leb_iff, ltb_iff, eqb_iff, pu_rmP, pu_dvP, pu_bs, pu_b0, pu_b1, pu_c0, pu_c1, pu_lt, pu_rdN, pu_wrN, hs_at, hs_cell, hs_slot, if_true, if_false, true_and, and_true, pu_rd, pu_wr, Int.reduceToNat, Int.toNat_natCast, decide_eq_true_eq, Int.add_zero, Bool.false_eq_true, if_pos, if_neg, ei]
        · rw [hs_up, e2.1 84 (by omega) (by omega), x84, pu_up_up, hb, ← hwas]
          funext k; unfold pu_up; split
          · rename_i z; rw [z]
          · rfl
      · have hv0 : v = 0 := by
          rcases e3 with e3 | e3
          · exact absurd (hsi.mp e3.2) c
          · exact e3.1
        obtain ⟨h', f1, f2⟩ := ih n (by omega) (by omega) (hs x' 84 (43 + 7 * f + 0) (10 - (r : Int))) ((fx.trans e2.fs).trans Fs_hs) (by rw [hs_up, e2.1 84 (by omega) (by omega), x84, pu_up_up])
        refine ⟨h', ?_, f2⟩
        rw [hv0]
        rw [show (10 - (r : Int)) = 10 - ((r + 1 : Nat) : Int) + 1 by omega, Int.add_zero] at f1
        simp (disch := omega) only [leb_iff, ltb_iff, eqb_iff, pu_rmP, pu_dvP, pu_bs, pu_b0, pu_b1, pu_c0, pu_c1, pu_lt, pu_rdN, pu_wrN, hs_at, hs_cell, hs_slot, if_true, if_false, true_and, and_true, pu_rd, pu_wr, Int.reduceToNat, Int.toNat_natCast, decide_eq_true_eq, Int.add_zero, Bool.false_eq_true, if_pos, if_neg, ei, f1]
  have := key 9 N (by omega) (by omega) (hs h 84 (43 + 7 * f + 0) 1) Fs_hs (by rw [hs_up, hb]; rfl)
  exact this
theorem td_bd2 {l p : Int} (ok : OkB b) (yr : Yr b l p) {f : Nat} (hf : (f : Int) < b 42) : -200 ≤ sp_td b l p f ∧ sp_td b l p f ≤ 500 := by
  have h1 := yr.bd ok
  have h2 := (ok.fea f hf).2.1
  have hm := ok.mon
  unfold sp_td
  split
  · omega
  · have h3 : fq b f 1 = 0 := by omega
    have h4 := sp_ms_mono ok (l := l) (i := 0) (j := (fq b f 2).toNat) (by omega) (by omega)
    have h5 := sp_ms_mono ok (l := l) (i := (fq b f 2).toNat) (j := (b 1).toNat) (by omega) (by omega)
    rw [sp_ms_zero ok] at h4
    rw [sp_ms_all ok yr.l01] at h5
    have h6 := ok.days (fq b f 2).toNat (by omega)
    omega
theorem c_isKeptBy (hN : 20 < N) (ok : OkB b) (cb : CB b h 23) {s : Nat} (hpos : 0 < ofn b s) (hs2 : h 66 2 = (s : Int)) (la : Laid b (sl s) (spc b s) h) {f : Nat} (hf : (f : Int) < b 42) {sh : Int} (hsh : -5 ≤ sh ∧ sh ≤ 5) : M_Round_isKeptBy N h f sh = some (if kbB b f sh s then 1 else 0) := by
  have hm := ok.many
  obtain ⟨h80, yr⟩ := Yr_s ok hpos
  have hy := yr.bd ok
  have hfe := cb_fea cb hf
  have htd := td_bd2 ok yr hf
  have ho := ok.fea f hf
  have hmo := ok.mon
  have hcl := cl_bd ho (by omega)
  have ho1 := ho.1
  have hgb := gof_bd (l := sl s) (p := spc b s) ok f (sp_td b (sl s) (spc b s) f + sh) (b 42).toNat (by omega)
  have e1 := c_toldDay (h := h) (N := N) (l := sl s) (p := spc b s) hN ok cb (s := (s : Int)) (by omega) (by omega) rfl hs2 la.pasch hf
  have e2 := c_hasDay (h := h) (D := yd b + sl s) (d := sp_td b (sl s) (spc b s) f + sh) la.days (by omega) (by omega)
  have e3 := c_greatest (h := h) (N := N) hN ok cb yr la hf (d := sp_td b (sl s) (spc b s) f + sh) (by omega)
  unfold M_Round_isKeptBy
  rw [e1, pu_bs, pu_rdN (by omega), pu_bs, pu_rdN (by omega), pu_bs, hfe.2.1, hfe.2.2.1]
  have e5 : ∃ t : Int, M_Book_canTell h 23 (fq b f 2) (fq b f 3 + sh) = some t ∧ ((t = 1 ∧ tell b f (fq b f 3 + sh)) ∨ (t = 0 ∧ ¬ tell b f (fq b f 3 + sh))) := by
    unfold M_Book_canTell tell
    rw [cb.mon]
    rcases ho.2.1 with e | e
    · rw [e.2.1]
      by_cases c : -99 ≤ fq b f 3 + sh ∧ fq b f 3 + sh ≤ 99
      · exact ⟨1, by simp (disch := omega) only [leb_iff, ltb_iff, eqb_iff, pu_rmP, pu_dvP, pu_bs, pu_b0, pu_b1, pu_c0, pu_c1, pu_lt, pu_rdN, pu_wrN, hs_at, hs_cell, hs_slot, if_true, if_false, true_and, and_true, pu_rd, pu_wr, Int.reduceToNat, Int.toNat_natCast, decide_eq_true_eq, Int.add_zero, Bool.false_eq_true, if_pos, if_neg], Or.inl ⟨rfl, Or.inl ⟨e.1, c⟩⟩⟩
      · refine ⟨0, ?_, Or.inr ⟨rfl, fun x => ?_⟩⟩
        · by_cases c2 : fq b f 3 + sh < -99
          · simp (disch := omega) only [leb_iff, ltb_iff, eqb_iff, pu_rmP, pu_dvP, pu_bs, pu_b0, pu_b1, pu_c0, pu_c1, pu_lt, pu_rdN, pu_wrN, hs_at, hs_cell, hs_slot, if_true, if_false, true_and, and_true, pu_rd, pu_wr, Int.reduceToNat, Int.toNat_natCast, decide_eq_true_eq, Int.add_zero, Bool.false_eq_true, if_pos, if_neg]
          · simp (disch := omega) only [leb_iff, ltb_iff, eqb_iff, pu_rmP, pu_dvP, pu_bs, pu_b0, pu_b1, pu_c0, pu_c1, pu_lt, pu_rdN, pu_wrN, hs_at, hs_cell, hs_slot, if_true, if_false, true_and, and_true, pu_rd, pu_wr, Int.reduceToNat, Int.toNat_natCast, decide_eq_true_eq, Int.add_zero, Bool.false_eq_true, if_pos, if_neg]
        · rcases x with x | x <;> omega
    · have hdays : h (23 + 1) (fq b f 2).toNat = b (2 + (fq b f 2).toNat) := cb.days (fq b f 2).toNat (by omega)
      have hdb := ok.days (fq b f 2).toNat (by omega)
      by_cases c1 : fq b f 3 + sh < 0
      · refine ⟨0, ?_, Or.inr ⟨rfl, fun x => ?_⟩⟩
        · simp (disch := omega) only [leb_iff, ltb_iff, eqb_iff, pu_rmP, pu_dvP, pu_bs, pu_b0, pu_b1, pu_c0, pu_c1, pu_lt, pu_rdN, pu_wrN, hs_at, hs_cell, hs_slot, if_true, if_false, true_and, and_true, pu_rd, pu_wr, Int.reduceToNat, Int.toNat_natCast, decide_eq_true_eq, Int.add_zero, Bool.false_eq_true, if_pos, if_neg]
        · rcases x with x | x <;> omega
      · by_cases c2 : b (2 + (fq b f 2).toNat) ≤ fq b f 3 + sh
        · refine ⟨0, ?_, Or.inr ⟨rfl, fun x => ?_⟩⟩
          · simp (disch := omega) only [leb_iff, ltb_iff, eqb_iff, pu_rmP, pu_dvP, pu_bs, pu_b0, pu_b1, pu_c0, pu_c1, pu_lt, pu_rdN, pu_wrN, hs_at, hs_cell, hs_slot, if_true, if_false, true_and, and_true, pu_rd, pu_wr, Int.reduceToNat, Int.toNat_natCast, decide_eq_true_eq, Int.add_zero, Bool.false_eq_true, if_pos, if_neg, hdays]
          · rcases x with x | x <;> omega
        · exact ⟨1, by simp (disch := omega) only [leb_iff, ltb_iff, eqb_iff, pu_rmP, pu_dvP, pu_bs, pu_b0, pu_b1, pu_c0, pu_c1, pu_lt, pu_rdN, pu_wrN, hs_at, hs_cell, hs_slot, if_true, if_false, true_and, and_true, pu_rd, pu_wr, Int.reduceToNat, Int.toNat_natCast, decide_eq_true_eq, Int.add_zero, Bool.false_eq_true, if_pos, if_neg, hdays], Or.inl ⟨rfl, Or.inr ⟨e.1, by omega, by omega⟩⟩⟩
  obtain ⟨t, t1, t2⟩ := e5
  rw [t1, pu_bs]
  rcases t2 with ⟨t2, t3⟩ | ⟨t2, t3⟩
  · rw [t2, e2]
    by_cases c1 : 0 ≤ sp_td b (sl s) (spc b s) f + sh ∧ sp_td b (sl s) (spc b s) f + sh < yd b + sl s
    · by_cases c2 : gof b (sl s) (spc b s) f (sp_td b (sl s) (spc b s) f + sh) (b 42).toNat < cl b f
      · have : kbB b f sh s = true := kbB_iff.mpr ⟨t3, c1, c2⟩
        simp (disch := omega) only [leb_iff, ltb_iff, eqb_iff, pu_rmP, pu_dvP, pu_bs, pu_b0, pu_b1, pu_c0, pu_c1, pu_lt, pu_rdN, pu_wrN, hs_at, hs_cell, hs_slot, if_true, if_false, true_and, and_true, pu_rd, pu_wr, Int.reduceToNat, Int.toNat_natCast, decide_eq_true_eq, Int.add_zero, Bool.false_eq_true, if_pos, if_neg, e3, cb_clm cb hf, this]
      · have : kbB b f sh s = false := by rw [← Bool.not_eq_true, kbB_iff]; exact fun x => c2 x.2.2
        simp (disch := omega) only [leb_iff, ltb_iff, eqb_iff, pu_rmP, pu_dvP, pu_bs, pu_b0, pu_b1, pu_c0, pu_c1, pu_lt, pu_rdN, pu_wrN, hs_at, hs_cell, hs_slot, if_true, if_false, true_and, and_true, pu_rd, pu_wr, Int.reduceToNat, Int.toNat_natCast, decide_eq_true_eq, Int.add_zero, Bool.false_eq_true, if_pos, if_neg, e3, cb_clm cb hf, this]
    · have : kbB b f sh s = false := by rw [← Bool.not_eq_true, kbB_iff]; exact fun x => c1 x.2.1
      simp (disch := omega) only [leb_iff, ltb_iff, eqb_iff, pu_rmP, pu_dvP, pu_bs, pu_b0, pu_b1, pu_c0, pu_c1, pu_lt, pu_rdN, pu_wrN, hs_at, hs_cell, hs_slot, if_true, if_false, true_and, and_true, pu_rd, pu_wr, Int.reduceToNat, Int.toNat_natCast, decide_eq_true_eq, Int.add_zero, Bool.false_eq_true, if_pos, if_neg, this]
  · have : kbB b f sh s = false := by rw [← Bool.not_eq_true, kbB_iff]; exact fun x => t3 x.1
    rw [t2]
    simp (disch := omega) only [leb_iff, ltb_iff, eqb_iff, pu_rmP, pu_dvP, pu_bs, pu_b0, pu_b1, pu_c0, pu_c1, pu_lt, pu_rdN, pu_wrN, hs_at, hs_cell, hs_slot, if_true, if_false, true_and, and_true, pu_rd, pu_wr, Int.reduceToNat, Int.toNat_natCast, decide_eq_true_eq, Int.add_zero, Bool.false_eq_true, if_pos, if_neg, this]
noncomputable def kbA (b : Nat → Int) (f : Nat) (sh : Int) (k : Nat) : Int := fsum (fun s => if kbB b f sh s then ofn b s else 0) k
theorem kbA_all (ok : OkB b) (f : Nat) (sh : Int) : kbA b f sh 80 = kbC b f sh := by
  unfold kbA kbC
  rw [sum_sorts (t := sy b) (fun s => kbB b f sh s) (cyN b) (S := 80) (fun y _ => (sy_spec ok y).2.1)]
  rfl
theorem c_countKept (hN : 100 < N) (ok : OkB b) (cb : CB b h 23) (pk : PlanOk b h) (rb : RB b h) {f : Nat} (hf : (f : Int) < b 42) {m : Nat} (hm5 : m ≤ 5) : ∃ h', M_Round_countKept N h f m = some h' ∧ (∀ c, (c < 66 ∨ 72 < c) → c ≠ 82 → h' c = h c) ∧ PlanOk b h' ∧ (∀ j : Nat, j < 11 → (5 - m ≤ j ∧ j ≤ 5 + m) → h' 82 j = kbC b f ((j : Int) - 5)) := by
  have hm := ok.many
  unfold M_Round_countKept
  obtain ⟨g, e1, g1, g2⟩ := c_fill2 (h := h) (N := N) (X := 82) (nX := 11) (v := 0) (by omega) (by omega)
  rw [e1, pu_bs]
  have := lp_inv (fun n k x => Round_countKept_L10 N f m n k x) (fun k x => (∀ c, (c < 66 ∨ 72 < c) → c ≠ 82 → x c = h c) ∧ PlanOk b x ∧ (∀ j : Nat, j < 11 → (5 - m ≤ j ∧ j ≤ 5 + m) → x 82 j = kbA b f ((j : Int) - 5) k)) (fun h' => (∀ c, (c < 66 ∨ 72 < c) → c ≠ 82 → h' c = h c) ∧ PlanOk b h' ∧ (∀ j : Nat, j < 11 → (5 - m ≤ j ∧ j ≤ 5 + m) → h' 82 j = kbA b f ((j : Int) - 5) 80)) 80
    (fun n k x hk hp => by
      obtain ⟨k1, k2, k3⟩ := hp
      have h1 : x 74 k = ofn b k := by rw [k1 74 (by omega) (by omega)]; exact rb.oft k hk
      have h2 := ofn_bd ok k
      have cbx : CB b x 23 := CB_frame cb (fun c c1 c2 => k1 c (by omega) (by omega))
      by_cases c : 0 < ofn b k
      · obtain ⟨x', e1, e2, e3, e4, e5⟩ := c_layS (h := x) (N := N) (by omega) ok cbx k2 c
        obtain ⟨z, ⟨z1, z2⟩, ez⟩ := lp_cont (fun n' i (a : Hp) => Round_countKept_L37 N f m k (fun v4_12 h_12 => Round_countKept_L10 N f m n ((k : Int) + 1) h_12) n' (-(m : Int) + i) a) (fun a => Round_countKept_L10 N f m n ((k : Int) + 1) a) (fun i a => (∀ c, c ≠ 82 → a c = x' c) ∧ (∀ j : Nat, j < 11 → (5 - m ≤ j ∧ j ≤ 5 + m) → a 82 j = if j < 5 - m + i then kbA b f ((j : Int) - 5) (k + 1) else kbA b f ((j : Int) - 5) k)) (2 * m + 1)
          (fun n' i a hi ha => by
            obtain ⟨a1, a2⟩ := ha
            have ej : (-(m : Int) + i + 5).toNat = 5 - m + i := by omega
            have es : -(m : Int) + i = ((5 - m + i : Nat) : Int) - 5 := by omega
            have ha82 := a2 (5 - m + i) (by omega) (by omega)
            rw [if_neg (by omega)] at ha82
            have cba : CB b a 23 := CB_frame cbx (fun c c1 c2 => by rw [a1 c (by omega), e2 c (by omega)])
            have a66 : a 66 = x' 66 := a1 66 (by omega)
            have laa : Laid b (sl k) (spc b k) a := Laid.mk (by rw [a66]; exact e5.days) (by rw [a66]; exact e5.pasch) (by rw [a1 69 (by omega), a1 70 (by omega)]; exact e5.rows)
            have hik := c_isKeptBy (h := a) (N := N) (by omega) ok cba c (by rw [a66]; exact e4) laa hf (sh := -(m : Int) + i) (by omega)
            have a74 : a 74 k = ofn b k := by rw [a1 74 (by omega), e2 74 (by omega)]; exact h1
            have hA : kbA b f (((5 - m + i : Nat) : Int) - 5) (k + 1) = kbA b f (((5 - m + i : Nat) : Int) - 5) k + (if kbB b f (((5 - m + i : Nat) : Int) - 5) k then ofn b k else 0) := rfl
            refine ⟨hs a 82 (5 - m + i) (kbA b f (((5 - m + i : Nat) : Int) - 5) (k + 1)), ⟨fun c hc => by rw [hs_cell hc]; exact a1 c hc, fun j hj hj2 => ?_⟩, ?_⟩
            · by_cases e : j = 5 - m + i
              · subst e; rw [hs_at, if_pos (by omega)]
              · rw [hs_slot e, a2 j hj hj2]
                by_cases e2 : j < 5 - m + i
                · rw [if_pos e2, if_pos (by omega)]
                · rw [if_neg e2, if_neg (by omega)]
            · (try dsimp only)
              rw [Round_countKept_L37, hik, pu_rd (by omega) (by omega), pu_bs, pu_bs, ej, ha82, hA]
              rw [show -(m : Int) + ((i : Int) + 1) = -(m : Int) + i + 1 by omega]
              rw [← es]
              cases c3 : kbB b f (-(m : Int) + i) k
              · simp (disch := omega) only [leb_iff, ltb_iff, eqb_iff, pu_rmP, pu_dvP, pu_bs, pu_b0, pu_b1, pu_c0, pu_c1, pu_lt, pu_rdN, pu_wrN, hs_at, hs_cell, hs_slot, if_true, if_false, true_and, and_true, pu_rd, pu_wr, Int.reduceToNat, Int.toNat_natCast, decide_eq_true_eq, Int.add_zero, Bool.false_eq_true, if_pos, if_neg, ej]
              · simp (disch := omega) only [leb_iff, ltb_iff, eqb_iff, pu_rmP, pu_dvP, pu_bs, pu_b0, pu_b1, pu_c0, pu_c1, pu_lt, pu_rdN, pu_wrN, hs_at, hs_cell, hs_slot, if_true, if_false, true_and, and_true, pu_rd, pu_wr, Int.reduceToNat, Int.toNat_natCast, decide_eq_true_eq, Int.add_zero, Bool.false_eq_true, if_pos, if_neg, ej, a74])
          (fun n' a ha => by
            (try dsimp only)
            rw [Round_countKept_L37]
            simp (disch := omega) only [leb_iff, ltb_iff, eqb_iff, pu_rmP, pu_dvP, pu_bs, pu_b0, pu_b1, pu_c0, pu_c1, pu_lt, pu_rdN, pu_wrN, hs_at, hs_cell, hs_slot, if_true, if_false, true_and, and_true, pu_rd, pu_wr, Int.reduceToNat, Int.toNat_natCast, decide_eq_true_eq, Int.add_zero, Bool.false_eq_true, if_pos, if_neg]) N 0 x' (by omega) (by omega) ⟨fun _ _ => rfl, fun j hj hj2 => by rw [e2 82 (by omega), if_neg (by omega)]; exact k3 j hj hj2⟩
        rw [Int.natCast_zero, Int.add_zero] at ez
        refine Or.inl ⟨z, ⟨fun c c1 c2 => by rw [z1 c c2, e2 c c1]; exact k1 c c1 c2, PlanOk_frame (fun c c1 c2 => z1 c (by omega)) e3, fun j hj hj2 => by rw [z2 j hj hj2, if_pos (by omega)]⟩, ?_⟩
        (try dsimp only)
        rw [Round_countKept_L10]
        simp (disch := omega) only [leb_iff, ltb_iff, eqb_iff, pu_rmP, pu_dvP, pu_bs, pu_b0, pu_b1, pu_c0, pu_c1, pu_lt, pu_rdN, pu_wrN, hs_at, hs_cell, hs_slot, if_true, if_false, true_and, and_true, pu_rd, pu_wr, Int.reduceToNat, Int.toNat_natCast, decide_eq_true_eq, Int.add_zero, Bool.false_eq_true, if_pos, if_neg, h1, e1, ez]
      · refine Or.inl ⟨x, ⟨k1, k2, fun j hj hj2 => ?_⟩, ?_⟩
        · have : kbA b f ((j : Int) - 5) (k + 1) = kbA b f ((j : Int) - 5) k + (if kbB b f ((j : Int) - 5) k then ofn b k else 0) := rfl
          rw [this, k3 j hj hj2]; split <;> omega
        · (try dsimp only)
          rw [Round_countKept_L10]
          simp (disch := omega) only [leb_iff, ltb_iff, eqb_iff, pu_rmP, pu_dvP, pu_bs, pu_b0, pu_b1, pu_c0, pu_c1, pu_lt, pu_rdN, pu_wrN, hs_at, hs_cell, hs_slot, if_true, if_false, true_and, and_true, pu_rd, pu_wr, Int.reduceToNat, Int.toNat_natCast, decide_eq_true_eq, Int.add_zero, Bool.false_eq_true, if_pos, if_neg, h1])
    (fun n x hp => by
      refine ⟨x, ?_, hp⟩
      (try dsimp only)
      rw [Round_countKept_L10]
      simp (disch := omega) only [leb_iff, ltb_iff, eqb_iff, pu_rmP, pu_dvP, pu_bs, pu_b0, pu_b1, pu_c0, pu_c1, pu_lt, pu_rdN, pu_wrN, hs_at, hs_cell, hs_slot, if_true, if_false, true_and, and_true, pu_rd, pu_wr, Int.reduceToNat, Int.toNat_natCast, decide_eq_true_eq, Int.add_zero, Bool.false_eq_true, if_pos, if_neg]) N 0 g (by omega) (by omega) ⟨fun c c1 c2 => g1 c c2, PlanOk_frame (fun c c1 c2 => g1 c (by omega)) pk, fun j hj hj2 => g2 j hj⟩
  obtain ⟨h', q1, q2, q3, q4⟩ := this
  exact ⟨h', q1, q2, q3, fun j hj hj2 => by rw [q4 j hj hj2, kbA_all ok]⟩
theorem c_keptByShift {m : Nat} (hm5 : m ≤ 5) {f : Nat} (hk : ∀ j : Nat, j < 11 → (5 - m ≤ j ∧ j ≤ 5 + m) → h 82 j = kbC b f ((j : Int) - 5)) {sh : Int} (hs1 : -(m : Int) ≤ sh ∧ sh ≤ m) : M_Round_keptByShift h sh = some (kbC b f sh) := by
  have := hk (sh + 5).toNat (by omega) (by omega)
  unfold M_Round_keptByShift
  rw [pu_mx (by omega) (by omega) (by omega) (by omega), pu_mn (by omega) (by omega) (by omega) (by omega), show min (max (sh + 5) 0) 10 = sh + 5 by omega, pu_rd (by omega) (by omega), pu_bs, this, show (((sh + 5).toNat : Nat) : Int) - 5 = sh by omega]
theorem c_bestShift (hN : 100 < N) (ok : OkB b) (cb : CB b h 23) (pk : PlanOk b h) (rb : RB b h) {f : Nat} (hf : (f : Int) < b 42) {m : Nat} (hm5 : m ≤ 5) : ∃ h', M_Round_bestShift N h f m = some (bst b f m, h') ∧ (∀ c, (c < 66 ∨ 72 < c) → c ≠ 82 → h' c = h c) ∧ PlanOk b h' ∧ M_Round_keptByShift h' (bst b f m) = some (kbC b f (bst b f m)) := by
  obtain ⟨g, e1, e2, e3, e4⟩ := c_countKept hN ok cb pk rb hf hm5
  have hbm := bst_bd b f m
  unfold M_Round_bestShift
  rw [e1, pu_bs]
  refine ⟨g, ?_, e2, e3, c_keptByShift hm5 e4 (by omega)⟩
  exact lp_fold (fun n k a => Round_bestShift_L11 N g m n a (k + 1)) (fun k => bst b f k) (bst b f m, g) m
    (fun n k hk => by
      have hb := bst_bd b f k
      have q1 := c_keptByShift hm5 e4 (sh := -((k : Int) + 1)) (by omega)
      have q2 := c_keptByShift hm5 e4 (sh := bst b f k) (by omega)
      have q3 := c_keptByShift hm5 e4 (sh := (k : Int) + 1) (by omega)
      have b1 := kbC_bd ok f (-((k : Int) + 1))
      have b2 := kbC_bd ok f (bst b f k)
      have b3 := kbC_bd ok f ((k : Int) + 1)
      (try dsimp only)
      rw [Round_bestShift_L11, q1, q2, q3, bst]
      by_cases c1 : kbC b f (bst b f k) < kbC b f (-((k : Int) + 1))
      · by_cases c2 : kbC b f (-((k : Int) + 1)) < kbC b f ((k : Int) + 1)
        · simp (disch := omega) only [leb_iff, ltb_iff, eqb_iff, pu_rmP, pu_dvP, pu_bs, pu_b0, pu_b1, pu_c0, pu_c1, pu_lt, pu_rdN, pu_wrN, hs_at, hs_cell, hs_slot, if_true, if_false, true_and, and_true, pu_rd, pu_wr, Int.reduceToNat, Int.toNat_natCast, decide_eq_true_eq, Int.add_zero, Bool.false_eq_true, if_pos, if_neg, q1]
        · simp (disch := omega) only [leb_iff, ltb_iff, eqb_iff, pu_rmP, pu_dvP, pu_bs, pu_b0, pu_b1, pu_c0, pu_c1, pu_lt, pu_rdN, pu_wrN, hs_at, hs_cell, hs_slot, if_true, if_false, true_and, and_true, pu_rd, pu_wr, Int.reduceToNat, Int.toNat_natCast, decide_eq_true_eq, Int.add_zero, Bool.false_eq_true, if_pos, if_neg, q1]
      · by_cases c2 : kbC b f (bst b f k) < kbC b f ((k : Int) + 1)
        · simp (disch := omega) only [leb_iff, ltb_iff, eqb_iff, pu_rmP, pu_dvP, pu_bs, pu_b0, pu_b1, pu_c0, pu_c1, pu_lt, pu_rdN, pu_wrN, hs_at, hs_cell, hs_slot, if_true, if_false, true_and, and_true, pu_rd, pu_wr, Int.reduceToNat, Int.toNat_natCast, decide_eq_true_eq, Int.add_zero, Bool.false_eq_true, if_pos, if_neg, q2]
        · simp (disch := omega) only [leb_iff, ltb_iff, eqb_iff, pu_rmP, pu_dvP, pu_bs, pu_b0, pu_b1, pu_c0, pu_c1, pu_lt, pu_rdN, pu_wrN, hs_at, hs_cell, hs_slot, if_true, if_false, true_and, and_true, pu_rd, pu_wr, Int.reduceToNat, Int.toNat_natCast, decide_eq_true_eq, Int.add_zero, Bool.false_eq_true, if_pos, if_neg, q2])
    (fun n => by
      (try dsimp only)
      rw [Round_bestShift_L11]
      simp (disch := omega) only [leb_iff, ltb_iff, eqb_iff, pu_rmP, pu_dvP, pu_bs, pu_b0, pu_b1, pu_c0, pu_c1, pu_lt, pu_rdN, pu_wrN, hs_at, hs_cell, hs_slot, if_true, if_false, true_and, and_true, pu_rd, pu_wr, Int.reduceToNat, Int.toNat_natCast, decide_eq_true_eq, Int.add_zero, Bool.false_eq_true, if_pos, if_neg]) N 0 (by omega) (by omega)
end Sf
