def MxS (b : Nat → Int) (g : Nat → Int) (k : Nat) (r : Int) : Prop := 0 ≤ r ∧ (∀ y, y < cyN b → sy b y < k → g (sy b y) ≤ r) ∧ (r = 0 ∨ ∃ y, y < cyN b ∧ r = g (sy b y))
def fur (t r v : Int) : Int := if r = -1 ∨ v = -1 then max r v else if t = 0 then min r v else max r v
def ExS (b : Nat → Int) (t : Int) (v : Nat → Int) (k : Nat) (r : Int) : Prop := (r = -1 ∧ ∀ y, y < cyN b → sy b y < k → v (sy b y) = -1) ∨ (r ≠ -1 ∧ (∃ y, y < cyN b ∧ r = v (sy b y)) ∧ ∀ y, y < cyN b → sy b y < k → v (sy b y) ≠ -1 → (if t = 0 then r ≤ v (sy b y) else v (sy b y) ≤ r))
section Rx
variable {b : Nat → Int} {h : Hp} {N : Nat}
theorem MxS_no {g : Nat → Int} {k : Nat} {r : Int} (h : MxS b g k r) (hz : ¬ 0 < ofn b k) : MxS b g (k + 1) r := by
  obtain ⟨h1, h2, h3⟩ := h
  refine ⟨h1, fun y hy hk => ?_, h3⟩
  have : sy b y ≠ k := fun e => hz (ofn_pos.mpr ⟨y, hy, e⟩)
  exact h2 y hy (by omega)
theorem MxS_yes {g : Nat → Int} {k : Nat} {r : Int} (h : MxS b g k r) (hz : 0 < ofn b k) : MxS b g (k + 1) (max r (g k)) := by
  obtain ⟨h1, h2, h3⟩ := h
  obtain ⟨y0, y1, y2⟩ := ofn_pos.mp hz
  refine ⟨by omega, fun y hy hk => ?_, ?_⟩
  · by_cases e : sy b y = k
    · rw [e]; omega
    · have := h2 y hy (by omega); omega
  · by_cases c : r ≤ g k
    · exact Or.inr ⟨y0, y1, by rw [y2]; omega⟩
    · rcases h3 with e | ⟨y, z1, z2⟩
      · exact Or.inl (by omega)
      · exact Or.inr ⟨y, z1, by omega⟩
theorem MxS_fin (ok : OkB b) {g : Nat → Int} {r : Int} (h : MxS b g 80 r) : Mx0 (fun y => g (sy b y)) (cyN b) r :=
  ⟨h.1, fun y hy => h.2.1 y hy (sy_spec ok y).2.1, h.2.2⟩
theorem ExS_no {t : Int} {v : Nat → Int} {k : Nat} {r : Int} (h : ExS b t v k r) (hz : ¬ 0 < ofn b k) : ExS b t v (k + 1) r := by
  have hne : ∀ y, y < cyN b → sy b y ≠ k := fun y hy e => hz (ofn_pos.mpr ⟨y, hy, e⟩)
  rcases h with ⟨h1, h2⟩ | ⟨h1, h2, h3⟩
  · exact Or.inl ⟨h1, fun y hy hk => h2 y hy (by have := hne y hy; omega)⟩
  · exact Or.inr ⟨h1, h2, fun y hy hk => h3 y hy (by have := hne y hy; omega)⟩
theorem ExS_yes {t : Int} {v : Nat → Int} {k : Nat} {r : Int} (h : ExS b t v k r) (hv : ∀ s, -1 ≤ v s) (hz : 0 < ofn b k) : ExS b t v (k + 1) (fur t r (v k)) := by
  obtain ⟨y0, y1, y2⟩ := ofn_pos.mp hz
  have hvk := hv k
  unfold fur
  rcases h with ⟨h1, h2⟩ | ⟨h1, ⟨z0, z1, z2⟩, h3⟩
  · rw [if_pos (Or.inl h1), show max r (v k) = v k by omega]
    by_cases c : v k = -1
    · refine Or.inl ⟨c, fun y hy hk => ?_⟩
      by_cases e : sy b y = k
      · rw [e]; exact c
      · exact h2 y hy (by omega)
    · refine Or.inr ⟨c, ⟨y0, y1, by rw [y2]⟩, fun y hy hk hn => ?_⟩
      by_cases e : sy b y = k
      · rw [e]; split <;> omega
      · exact absurd (h2 y hy (by omega)) hn
  · have hr : -1 ≤ r := by rw [z2]; exact hv _
    by_cases c : v k = -1
    · rw [if_pos (Or.inr c), show max r (v k) = r by omega]
      refine Or.inr ⟨h1, ⟨z0, z1, z2⟩, fun y hy hk hn => ?_⟩
      by_cases e : sy b y = k
      · rw [e] at hn; exact absurd c hn
      · exact h3 y hy (by omega) hn
    · rw [if_neg (by omega)]
      by_cases ct : t = 0
      · rw [if_pos ct]
        refine Or.inr ⟨by omega, ?_, fun y hy hk hn => ?_⟩
        · by_cases c2 : r ≤ v k
          · exact ⟨z0, z1, by omega⟩
          · exact ⟨y0, y1, by rw [y2]; omega⟩
        · rw [if_pos ct]
          by_cases e : sy b y = k
          · rw [e]; omega
          · have := h3 y hy (by omega) hn
            rw [if_pos ct] at this; omega
      · rw [if_neg ct]
        refine Or.inr ⟨by omega, ?_, fun y hy hk hn => ?_⟩
        · by_cases c2 : v k ≤ r
          · exact ⟨z0, z1, by omega⟩
          · exact ⟨y0, y1, by rw [y2]; omega⟩
        · rw [if_neg ct]
          by_cases e : sy b y = k
          · rw [e]; omega
          · have := h3 y hy (by omega) hn
            rw [if_neg ct] at this; omega
theorem ExS_fin (ok : OkB b) {t : Int} {v : Nat → Int} {r : Int} (h : ExS b t v 80 r) : Ext t (fun y => v (sy b y)) (cyN b) r := by
  rcases h with ⟨h1, h2⟩ | ⟨h1, h2, h3⟩
  · exact Or.inl ⟨h1, fun y hy => h2 y hy (sy_spec ok y).2.1⟩
  · exact Or.inr ⟨h1, h2, fun y hy => h3 y hy (sy_spec ok y).2.1⟩
theorem Ext_step {t : Int} {v : Nat → Int} {k : Nat} {r : Int} (h : Ext t v k r) (hv : ∀ s, -1 ≤ v s) : Ext t v (k + 1) (fur t r (v k)) := by
  have hvk := hv k
  unfold fur
  rcases h with ⟨h1, h2⟩ | ⟨h1, ⟨z0, z1, z2⟩, h3⟩
  · rw [if_pos (Or.inl h1), show max r (v k) = v k by omega]
    by_cases c : v k = -1
    · refine Or.inl ⟨c, fun y hy => ?_⟩
      by_cases e : y = k
      · rw [e]; exact c
      · exact h2 y (by omega)
    · refine Or.inr ⟨c, ⟨k, by omega, rfl⟩, fun y hy hn => ?_⟩
      by_cases e : y = k
      · rw [e]; split <;> omega
      · exact absurd (h2 y (by omega)) hn
  · have hr : -1 ≤ r := by rw [z2]; exact hv _
    by_cases c : v k = -1
    · rw [if_pos (Or.inr c), show max r (v k) = r by omega]
      refine Or.inr ⟨h1, ⟨z0, by omega, z2⟩, fun y hy hn => ?_⟩
      by_cases e : y = k
      · rw [e] at hn; exact absurd c hn
      · exact h3 y (by omega) hn
    · rw [if_neg (by omega)]
      by_cases ct : t = 0
      · rw [if_pos ct]
        refine Or.inr ⟨by omega, ?_, fun y hy hn => ?_⟩
        · by_cases c2 : r ≤ v k
          · exact ⟨z0, by omega, by omega⟩
          · exact ⟨k, by omega, by omega⟩
        · rw [if_pos ct]
          by_cases e : y = k
          · rw [e]; omega
          · have := h3 y (by omega) hn
            rw [if_pos ct] at this; omega
      · rw [if_neg ct]
        refine Or.inr ⟨by omega, ?_, fun y hy hn => ?_⟩
        · by_cases c2 : v k ≤ r
          · exact ⟨z0, by omega, by omega⟩
          · exact ⟨k, by omega, by omega⟩
        · rw [if_neg ct]
          by_cases e : y = k
          · rw [e]; omega
          · have := h3 y (by omega) hn
            rw [if_neg ct] at this; omega
theorem c_further {t r v : Int} (ht : t = 0 ∨ t = 1) (hr : -1 ≤ r ∧ r ≤ 100000) (hv : -1 ≤ v ∧ v ≤ 100000) : M_Round_further r v t = some (fur t r v) := by
  unfold M_Round_further fur
  rw [pu_mx (by omega) (by omega) (by omega) (by omega), pu_mn (by omega) (by omega) (by omega) (by omega)]
  by_cases c1 : r = -1
  · simp (disch := omega) only [leb_iff, ltb_iff, eqb_iff, pu_rmP, pu_dvP, pu_bs, pu_b0, pu_b1, pu_c0, pu_c1, pu_lt, pu_rdN, pu_wrN, hs_at, hs_cell, hs_slot, if_true, if_false, true_and, and_true, pu_rd, pu_wr, Int.reduceToNat, Int.toNat_natCast, decide_eq_true_eq, Int.add_zero, Bool.false_eq_true, if_pos, if_neg, true_or]
  · by_cases c2 : v = -1
    · simp (disch := omega) only [leb_iff, ltb_iff, eqb_iff, pu_rmP, pu_dvP, pu_bs, pu_b0, pu_b1, pu_c0, pu_c1, pu_lt, pu_rdN, pu_wrN, hs_at, hs_cell, hs_slot, if_true, if_false, true_and, and_true, pu_rd, pu_wr, Int.reduceToNat, Int.toNat_natCast, decide_eq_true_eq, Int.add_zero, Bool.false_eq_true, if_pos, if_neg, or_true]
    · by_cases c3 : t = 0
      · simp (disch := omega) only [leb_iff, ltb_iff, eqb_iff, pu_rmP, pu_dvP, pu_bs, pu_b0, pu_b1, pu_c0, pu_c1, pu_lt, pu_rdN, pu_wrN, hs_at, hs_cell, hs_slot, if_true, if_false, true_and, and_true, pu_rd, pu_wr, Int.reduceToNat, Int.toNat_natCast, decide_eq_true_eq, Int.add_zero, Bool.false_eq_true, if_pos, if_neg]
      · simp (disch := omega) only [leb_iff, ltb_iff, eqb_iff, pu_rmP, pu_dvP, pu_bs, pu_b0, pu_b1, pu_c0, pu_c1, pu_lt, pu_rdN, pu_wrN, hs_at, hs_cell, hs_slot, if_true, if_false, true_and, and_true, pu_rd, pu_wr, Int.reduceToNat, Int.toNat_natCast, decide_eq_true_eq, Int.add_zero, Bool.false_eq_true, if_pos, if_neg]
theorem plS_bd (ok : OkB b) (s : Nat) {f : Nat} (hf : (f : Int) < b 42) : -1 ≤ (rsS b s).1 f ∧ (rsS b s).1 f ≤ 249 := by
  have := res_P ok (sl s) (spc b s) hf
  have h2 := yd_le ok
  have h6 : sl s ≤ 1 := by unfold sl; split <;> omega
  unfold PlO at this
  have e : (rsS b s).1 f = (res b (sl s) (spc b s)).1 f := rfl
  omega
theorem dyS_bd (ok : OkB b) (s : Nat) (f : Nat) : -1 ≤ dyS b s f ∧ dyS b s f ≤ 249 := by
  have := dyf_bd (b := b) (sl s) (spc b s) f
  have h2 := yd_le ok
  have h6 : sl s ≤ 1 := by unfold sl; split <;> omega
  have e : dyS b s f = dyf b (sl s) (spc b s) f := rfl
  omega
def farS (b : Nat → Int) (f s : Nat) : Int := if (rsS b s).2.1 f = 1 then (((rsS b s).1 f - dyS b s f).natAbs : Int) else 0
theorem farS_bd (ok : OkB b) (s : Nat) {f : Nat} (hf : (f : Int) < b 42) : 0 ≤ farS b f s ∧ farS b f s ≤ 500 := by
  have h1 := plS_bd ok s hf
  have h2 := dyS_bd ok s f
  unfold farS; split <;> omega
theorem MxS_bd (ok : OkB b) {f : Nat} (hf : (f : Int) < b 42) {k : Nat} {r : Int} (h : MxS b (farS b f) k r) : 0 ≤ r ∧ r ≤ 500 := by
  obtain ⟨h1, h2, h3⟩ := h
  rcases h3 with e | ⟨y, y1, y2⟩
  · omega
  · have := farS_bd ok (sy b y) hf; omega
theorem c_farthest (hN : 100 < N) (ok : OkB b) (rb : RB b h) (rs : RS b h) {f : Nat} (hf : (f : Int) < b 42) : ∃ r, M_Round_farthest N h f = some r ∧ Mx0 (fun y => farS b f (sy b y)) (cyN b) r := by
  have hm := ok.many
  have := lp_inv (fun n k a => Round_farthest_L4 N h f n a k) (fun k a => MxS b (farS b f) k a) (fun r => MxS b (farS b f) 80 r) 80
    (fun n k a hk hp => by
      have h1 := rb.oft k hk
      have h2 := ofn_bd ok k
      have h3 := rsS_fa ok k hf
      have h4 := MxS_bd ok hf hp
      have h7 := plS_bd ok k hf
      have h8 := dyS_bd ok k f
      by_cases c : 0 < ofn b k
      · have h5 := rs k hk c f hf
        refine Or.inl ⟨_, MxS_yes hp c, ?_⟩
        (try dsimp only)
        rw [Round_farthest_L4]
        by_cases c2 : (rsS b k).2.1 f = 1
        · have e : farS b f k = (((rsS b k).1 f - dyS b k f).natAbs : Int) := if_pos c2
          rw [e]
          simp (disch := omega) only [leb_iff, ltb_iff, eqb_iff, pu_rmP, pu_dvP, pu_bs, pu_b0, pu_b1, pu_c0, pu_c1, pu_lt, pu_rdN, pu_wrN, hs_at, hs_cell, hs_slot, if_true, if_false, true_and, and_true, pu_rd, pu_wr, Int.reduceToNat, Int.toNat_natCast, decide_eq_true_eq, Int.add_zero, Bool.false_eq_true, if_pos, if_neg, h1, tn960, h5.1, h5.2.1, h5.2.2, pu_ab, pu_mx]
        · have e : farS b f k = 0 := if_neg c2
          rw [e, show max a 0 = a by omega]
          simp (disch := omega) only [leb_iff, ltb_iff, eqb_iff, pu_rmP, pu_dvP, pu_bs, pu_b0, pu_b1, pu_c0, pu_c1, pu_lt, pu_rdN, pu_wrN, hs_at, hs_cell, hs_slot, if_true, if_false, true_and, and_true, pu_rd, pu_wr, Int.reduceToNat, Int.toNat_natCast, decide_eq_true_eq, Int.add_zero, Bool.false_eq_true, if_pos, if_neg, h1, tn960, h5.2.2]
      · refine Or.inl ⟨a, MxS_no hp c, ?_⟩
        (try dsimp only)
        rw [Round_farthest_L4]
        simp (disch := omega) only [leb_iff, ltb_iff, eqb_iff, pu_rmP, pu_dvP, pu_bs, pu_b0, pu_b1, pu_c0, pu_c1, pu_lt, pu_rdN, pu_wrN, hs_at, hs_cell, hs_slot, if_true, if_false, true_and, and_true, pu_rd, pu_wr, Int.reduceToNat, Int.toNat_natCast, decide_eq_true_eq, Int.add_zero, Bool.false_eq_true, if_pos, if_neg, h1])
    (fun n a hp => by
      refine ⟨a, ?_, hp⟩
      (try dsimp only)
      rw [Round_farthest_L4]
      simp (disch := omega) only [leb_iff, ltb_iff, eqb_iff, pu_rmP, pu_dvP, pu_bs, pu_b0, pu_b1, pu_c0, pu_c1, pu_lt, pu_rdN, pu_wrN, hs_at, hs_cell, hs_slot, if_true, if_false, true_and, and_true, pu_rd, pu_wr, Int.reduceToNat, Int.toNat_natCast, decide_eq_true_eq, Int.add_zero, Bool.false_eq_true, if_pos, if_neg]) N 0 0 (by omega) (by omega) ⟨by omega, fun y hy hk => by omega, Or.inl rfl⟩
  obtain ⟨r, e1, e2⟩ := this
  exact ⟨r, e1, MxS_fin ok e2⟩
theorem c_outermost (hN : 100 < N) (ok : OkB b) (rb : RB b h) (rs : RS b h) {f : Nat} (hf : (f : Int) < b 42) {t : Int} (ht : t = 0 ∨ t = 1) : ∃ r, M_Round_outermost N h f t = some r ∧ Ext t (fun y => (rsS b (sy b y)).1 f) (cyN b) r := by
  have hm := ok.many
  have := lp_inv (fun n k a => Round_outermost_L5 N h f t n a k) (fun k a => -1 ≤ a ∧ a ≤ 249 ∧ ExS b t (fun s => (rsS b s).1 f) k a) (fun r => ExS b t (fun s => (rsS b s).1 f) 80 r) 80
    (fun n k a hk hp => by
      obtain ⟨a1, a2, hp⟩ := hp
      have h1 := rb.oft k hk
      have h2 := ofn_bd ok k
      have h7 := plS_bd ok k hf
      by_cases c : 0 < ofn b k
      · have h5 := rs k hk c f hf
        refine Or.inl ⟨fur t a ((rsS b k).1 f), ⟨by unfold fur; split <;> (try split) <;> omega, by unfold fur; split <;> (try split) <;> omega, ExS_yes hp (fun s => (plS_bd ok s hf).1) c⟩, ?_⟩
        (try dsimp only)
        rw [Round_outermost_L5]
        have hfu := c_further ht (r := a) (v := (rsS b k).1 f) (by omega) (by omega)
        simp (disch := omega) only [leb_iff, ltb_iff, eqb_iff, pu_rmP, pu_dvP, pu_bs, pu_b0, pu_b1, pu_c0, pu_c1, pu_lt, pu_rdN, pu_wrN, hs_at, hs_cell, hs_slot, if_true, if_false, true_and, and_true, pu_rd, pu_wr, Int.reduceToNat, Int.toNat_natCast, decide_eq_true_eq, Int.add_zero, Bool.false_eq_true, if_pos, if_neg, h1, tn960, h5.2.1, hfu]
      · refine Or.inl ⟨a, ⟨a1, a2, ExS_no hp c⟩, ?_⟩
        (try dsimp only)
        rw [Round_outermost_L5]
        simp (disch := omega) only [leb_iff, ltb_iff, eqb_iff, pu_rmP, pu_dvP, pu_bs, pu_b0, pu_b1, pu_c0, pu_c1, pu_lt, pu_rdN, pu_wrN, hs_at, hs_cell, hs_slot, if_true, if_false, true_and, and_true, pu_rd, pu_wr, Int.reduceToNat, Int.toNat_natCast, decide_eq_true_eq, Int.add_zero, Bool.false_eq_true, if_pos, if_neg, h1])
    (fun n a hp => by
      refine ⟨a, ?_, hp.2.2⟩
      (try dsimp only)
      rw [Round_outermost_L5]
      simp (disch := omega) only [leb_iff, ltb_iff, eqb_iff, pu_rmP, pu_dvP, pu_bs, pu_b0, pu_b1, pu_c0, pu_c1, pu_lt, pu_rdN, pu_wrN, hs_at, hs_cell, hs_slot, if_true, if_false, true_and, and_true, pu_rd, pu_wr, Int.reduceToNat, Int.toNat_natCast, decide_eq_true_eq, Int.add_zero, Bool.false_eq_true, if_pos, if_neg]) N 0 (-1) (by omega) (by omega) ⟨by omega, by omega, Or.inl ⟨rfl, fun y hy hk => by omega⟩⟩
  obtain ⟨r, e1, e2⟩ := this
  exact ⟨r, e1, ExS_fin ok e2⟩
def lesS (b : Nat → Int) (a : Int) (s : Nat) : Int := if a = 0 then cnt (plf b (sl s) (spc b s)) (spc b s).toNat else cnt (plf b (sl s) (spc b s)) (yd b + sl s).toNat - cnt (plf b (sl s) (spc b s)) (spc b s).toNat
theorem cnt_le {q : Nat → Bool} {i : Nat} : ∀ {j : Nat}, i ≤ j → 0 ≤ cnt q j - cnt q i ∧ cnt q j - cnt q i ≤ j := by
  intro j hij
  have h1 := cnt_bd q i
  have h2 := cnt_bd q j
  have h3 := fsum_le (f := fun k => if q k then 1 else 0) (c := 1) (fun k => by split <;> omega) j hij
  unfold cnt at *
  omega
theorem lesS_bd (ok : OkB b) {a : Int} {s : Nat} (hpos : 0 < ofn b s) : 0 ≤ lesS b a s ∧ lesS b a s ≤ 1000 := by
  have hy := ((Yr_s ok hpos).2).bd ok
  have h1 := cnt_bd (plf b (sl s) (spc b s)) (spc b s).toNat
  have h2 := cnt_le (q := plf b (sl s) (spc b s)) (i := (spc b s).toNat) (j := (yd b + sl s).toNat) (by omega)
  unfold lesS; split <;> omega
def lesV (b : Nat → Int) (a : Int) (s : Nat) : Int := if 0 < ofn b s then lesS b a s else 0
theorem c_lessons (hN : 100 < N) (ok : OkB b) (rb : RB b h) (rm : RM b h) {a t : Int} (ha : a = 0 ∨ a = 1) (ht : t = 0 ∨ t = 1) : ∃ r, M_Round_lessons N h a t = some r ∧ Ext t (fun y => lesV b a (sy b y)) (cyN b) r := by
  have hv : ∀ s, -1 ≤ lesV b a s ∧ lesV b a s ≤ 1000 := fun s => by
    unfold lesV; split
    · rename_i c; have := lesS_bd ok (a := a) c; omega
    · omega
  have := lp_inv (fun n k x => Round_lessons_L5 N h a t n x k) (fun k x => -1 ≤ x ∧ x ≤ 1000 ∧ ExS b t (lesV b a) k x) (fun r => ExS b t (lesV b a) 80 r) 80
    (fun n k x hk hp => by
      obtain ⟨a1, a2, hp⟩ := hp
      have h1 := rb.oft k hk
      have h2 := ofn_bd ok k
      have h7 := hv k
      by_cases c : 0 < ofn b k
      · have h5 := rm k hk c
        refine Or.inl ⟨fur t x (lesV b a k), ⟨by unfold fur; split <;> (try split) <;> omega, by unfold fur; split <;> (try split) <;> omega, ExS_yes hp (fun s => (hv s).1) c⟩, ?_⟩
        (try dsimp only)
        rw [Round_lessons_L5]
        have hfu := c_further ht (r := x) (v := lesV b a k) (by omega) (by omega)
        have e0 : lesV b a k = lesS b a k := if_pos c
        rcases ha with e | e
        · have e1 : lesV b a k = cnt (plf b (sl k) (spc b k)) (spc b k).toNat := by rw [e0]; exact if_pos e
          rw [← e1] at h5
          simp (disch := omega) only [leb_iff, ltb_iff, eqb_iff, pu_rmP, pu_dvP, pu_bs, pu_b0, pu_b1, pu_c0, pu_c1, pu_lt, pu_rdN, pu_wrN, hs_at, hs_cell, hs_slot, if_true, if_false, true_and, and_true, pu_rd, pu_wr, Int.reduceToNat, Int.toNat_natCast, decide_eq_true_eq, Int.add_zero, Bool.false_eq_true, if_pos, if_neg, h1, h5.2.1, hfu]
        · have e1 : lesV b a k = cnt (plf b (sl k) (spc b k)) (yd b + sl k).toNat - cnt (plf b (sl k) (spc b k)) (spc b k).toNat := by rw [e0]; exact if_neg (by omega)
          have h6 := h5.2.2
          rw [← e1] at h6
          simp (disch := omega) only [leb_iff, ltb_iff, eqb_iff, pu_rmP, pu_dvP, pu_bs, pu_b0, pu_b1, pu_c0, pu_c1, pu_lt, pu_rdN, pu_wrN, hs_at, hs_cell, hs_slot, if_true, if_false, true_and, and_true, pu_rd, pu_wr, Int.reduceToNat, Int.toNat_natCast, decide_eq_true_eq, Int.add_zero, Bool.false_eq_true, if_pos, if_neg, h1, h6, hfu]
      · refine Or.inl ⟨x, ⟨a1, a2, ExS_no hp c⟩, ?_⟩
        (try dsimp only)
        rw [Round_lessons_L5]
        simp (disch := omega) only [leb_iff, ltb_iff, eqb_iff, pu_rmP, pu_dvP, pu_bs, pu_b0, pu_b1, pu_c0, pu_c1, pu_lt, pu_rdN, pu_wrN, hs_at, hs_cell, hs_slot, if_true, if_false, true_and, and_true, pu_rd, pu_wr, Int.reduceToNat, Int.toNat_natCast, decide_eq_true_eq, Int.add_zero, Bool.false_eq_true, if_pos, if_neg, h1])
    (fun n a hp => by
      refine ⟨a, ?_, hp.2.2⟩
      (try dsimp only)
      rw [Round_lessons_L5]
      simp (disch := omega) only [leb_iff, ltb_iff, eqb_iff, pu_rmP, pu_dvP, pu_bs, pu_b0, pu_b1, pu_c0, pu_c1, pu_lt, pu_rdN, pu_wrN, hs_at, hs_cell, hs_slot, if_true, if_false, true_and, and_true, pu_rd, pu_wr, Int.reduceToNat, Int.toNat_natCast, decide_eq_true_eq, Int.add_zero, Bool.false_eq_true, if_pos, if_neg]) N 0 (-1) (by omega) (by omega) ⟨by omega, by omega, Or.inl ⟨rfl, fun y hy hk => by omega⟩⟩
  obtain ⟨r, e1, e2⟩ := this
  exact ⟨r, e1, ExS_fin ok e2⟩
theorem c_yearsWithPasch (hN : 100 < N) (ok : OkB b) (cb : CB b h 23) (rb : RB b h) {d : Int} (hd : -2147483648 ≤ d ∧ d < 2147483648) : M_Round_yearsWithPasch N h d = some (cnt (fun y => decide (spc b (sy b y) = d)) (cyN b)) := by
  have hf := ok.fst
  rw [sum_sorts (t := sy b) (fun s => decide (spc b s = d)) (cyN b) (S := 80) (fun y _ => (sy_spec ok y).2.1)]
  exact lp_fold (fun n k a => Round_yearsWithPasch_L4 N h d n a k) (fsum (fun s => if decide (spc b s = d) then cnt (fun y => decide (sy b y = s)) (cyN b) else 0)) _ 80
    (fun n k hk => by
      have h1 := rb.oft k hk
      have h4 : cnt (fun y => decide (sy b y = k)) (cyN b) = ofn b k := rfl
      have h5 : b 13 + 1 + (k : Int) % 40 = spc b k := rfl
      (try dsimp only)
      rw [Round_yearsWithPasch_L4, fsum, h4, c_paschIn cb (by omega) (by omega), pu_bs, h5]
      by_cases c : spc b k = d
      · simp (disch := omega) only [leb_iff, ltb_iff, eqb_iff, pu_rmP, pu_dvP, pu_bs, pu_b0, pu_b1, pu_c0, pu_c1, pu_lt, pu_rdN, pu_wrN, hs_at, hs_cell, hs_slot, if_true, if_false, true_and, and_true, pu_rd, pu_wr, Int.reduceToNat, Int.toNat_natCast, decide_eq_true_eq, Int.add_zero, Bool.false_eq_true, if_pos, if_neg, h1]
      · simp (disch := omega) only [leb_iff, ltb_iff, eqb_iff, pu_rmP, pu_dvP, pu_bs, pu_b0, pu_b1, pu_c0, pu_c1, pu_lt, pu_rdN, pu_wrN, hs_at, hs_cell, hs_slot, if_true, if_false, true_and, and_true, pu_rd, pu_wr, Int.reduceToNat, Int.toNat_natCast, decide_eq_true_eq, Int.add_zero, Bool.false_eq_true, if_pos, if_neg, h1])
    (fun n => by
      (try dsimp only)
      rw [Round_yearsWithPasch_L4]
      simp (disch := omega) only [leb_iff, ltb_iff, eqb_iff, pu_rmP, pu_dvP, pu_bs, pu_b0, pu_b1, pu_c0, pu_c1, pu_lt, pu_rdN, pu_wrN, hs_at, hs_cell, hs_slot, if_true, if_false, true_and, and_true, pu_rd, pu_wr, Int.reduceToNat, Int.toNat_natCast, decide_eq_true_eq, Int.add_zero, Bool.false_eq_true, if_pos, if_neg]) N 0 (by omega) (by omega)
theorem c_howManySorts (hN : 100 < N) (ok : OkB b) (rb : RB b h) : M_Round_howManySorts N h = some (cnt (fun s => decide (0 < ofn b s)) 80) := by
  exact lp_fold (fun n k a => Round_howManySorts_L4 N h n a k) (cnt (fun s => decide (0 < ofn b s))) _ 80
    (fun n k hk => by
      have h1 := rb.oft k hk
      have h2 := ofn_bd ok k
      (try dsimp only)
      rw [Round_howManySorts_L4, cnt_succ]
      by_cases c : 0 < ofn b k
      · simp (disch := omega) only [leb_iff, ltb_iff, eqb_iff, pu_rmP, pu_dvP, pu_bs, pu_b0, pu_b1, pu_c0, pu_c1, pu_lt, pu_rdN, pu_wrN, hs_at, hs_cell, hs_slot, if_true, if_false, true_and, and_true, pu_rd, pu_wr, Int.reduceToNat, Int.toNat_natCast, decide_eq_true_eq, Int.add_zero, Bool.false_eq_true, if_pos, if_neg, h1]
      · simp (disch := omega) only [leb_iff, ltb_iff, eqb_iff, pu_rmP, pu_dvP, pu_bs, pu_b0, pu_b1, pu_c0, pu_c1, pu_lt, pu_rdN, pu_wrN, hs_at, hs_cell, hs_slot, if_true, if_false, true_and, and_true, pu_rd, pu_wr, Int.reduceToNat, Int.toNat_natCast, decide_eq_true_eq, Int.add_zero, Bool.false_eq_true, if_pos, if_neg, h1])
    (fun n => by
      (try dsimp only)
      rw [Round_howManySorts_L4]
      simp (disch := omega) only [leb_iff, ltb_iff, eqb_iff, pu_rmP, pu_dvP, pu_bs, pu_b0, pu_b1, pu_c0, pu_c1, pu_lt, pu_rdN, pu_wrN, hs_at, hs_cell, hs_slot, if_true, if_false, true_and, and_true, pu_rd, pu_wr, Int.reduceToNat, Int.toNat_natCast, decide_eq_true_eq, Int.add_zero, Bool.false_eq_true, if_pos, if_neg]) N 0 (by omega) (by omega)
def yqS (b : Nat → Int) (f o s : Nat) : Bool := decide ((rsS b s).2.1 o = 0 ∧ dyS b s o = dyS b s f)
def yldC (b : Nat → Int) (f o : Nat) : Int := cnt (fun y => yqS b f o (sy b y)) (cyN b)
theorem c_yearsYielding (hN : 100 < N) (ok : OkB b) (rb : RB b h) (rs : RS b h) {f o : Nat} (hf : (f : Int) < b 42) (ho : (o : Int) < b 42) : M_Round_yearsYielding N h f o = some (yldC b f o) := by
  have hm := ok.many
  unfold yldC
  rw [sum_sorts (t := sy b) (fun s => yqS b f o s) (cyN b) (S := 80) (fun y _ => (sy_spec ok y).2.1)]
  exact lp_fold (fun n k a => Round_yearsYielding_L5 N h f o n a k) (fsum (fun s => if yqS b f o s then cnt (fun y => decide (sy b y = s)) (cyN b) else 0)) _ 80
    (fun n k hk => by
      have h1 := rb.oft k hk
      have h2 := ofn_bd ok k
      have h3 := rsS_fa ok k ho
      have h4 : cnt (fun y => decide (sy b y = k)) (cyN b) = ofn b k := rfl
      have h7 := dyS_bd ok k f
      have h8 := dyS_bd ok k o
      (try dsimp only)
      rw [Round_yearsYielding_L5, fsum, h4]
      by_cases c : 0 < ofn b k
      · have h5 := rs k hk c f hf
        have h6 := rs k hk c o ho
        by_cases c2 : (rsS b k).2.1 o = 0
        · by_cases c3 : dyS b k o = dyS b k f
          · have e : yqS b f o k = true := decide_eq_true ⟨c2, c3⟩
            simp (disch := omega) only [leb_iff, ltb_iff, eqb_iff, pu_rmP, pu_dvP, pu_bs, pu_b0, pu_b1, pu_c0, pu_c1, pu_lt, pu_rdN, pu_wrN, hs_at, hs_cell, hs_slot, if_true, if_false, true_and, and_true, pu_rd, pu_wr, Int.reduceToNat, Int.toNat_natCast, decide_eq_true_eq, Int.add_zero, Bool.false_eq_true, if_pos, if_neg, h1, tn960, h5.1, h6.1, h6.2.2, e]
          · have e : yqS b f o k = false := decide_eq_false (fun x => c3 x.2)
            simp (disch := omega) only [leb_iff, ltb_iff, eqb_iff, pu_rmP, pu_dvP, pu_bs, pu_b0, pu_b1, pu_c0, pu_c1, pu_lt, pu_rdN, pu_wrN, hs_at, hs_cell, hs_slot, if_true, if_false, true_and, and_true, pu_rd, pu_wr, Int.reduceToNat, Int.toNat_natCast, decide_eq_true_eq, Int.add_zero, Bool.false_eq_true, if_pos, if_neg, h1, tn960, h5.1, h6.1, h6.2.2, e]
        · have e : yqS b f o k = false := decide_eq_false (fun x => c2 x.1)
          simp (disch := omega) only [leb_iff, ltb_iff, eqb_iff, pu_rmP, pu_dvP, pu_bs, pu_b0, pu_b1, pu_c0, pu_c1, pu_lt, pu_rdN, pu_wrN, hs_at, hs_cell, hs_slot, if_true, if_false, true_and, and_true, pu_rd, pu_wr, Int.reduceToNat, Int.toNat_natCast, decide_eq_true_eq, Int.add_zero, Bool.false_eq_true, if_pos, if_neg, h1, tn960, h6.2.2, e]
      · have h6 : ofn b k = 0 := by omega
        simp (disch := omega) only [leb_iff, ltb_iff, eqb_iff, pu_rmP, pu_dvP, pu_bs, pu_b0, pu_b1, pu_c0, pu_c1, pu_lt, pu_rdN, pu_wrN, hs_at, hs_cell, hs_slot, if_true, if_false, true_and, and_true, pu_rd, pu_wr, Int.reduceToNat, Int.toNat_natCast, decide_eq_true_eq, Int.add_zero, Bool.false_eq_true, if_pos, if_neg, h1, h6, ite_self])
    (fun n => by
      (try dsimp only)
      rw [Round_yearsYielding_L5]
      simp (disch := omega) only [leb_iff, ltb_iff, eqb_iff, pu_rmP, pu_dvP, pu_bs, pu_b0, pu_b1, pu_c0, pu_c1, pu_lt, pu_rdN, pu_wrN, hs_at, hs_cell, hs_slot, if_true, if_false, true_and, and_true, pu_rd, pu_wr, Int.reduceToNat, Int.toNat_natCast, decide_eq_true_eq, Int.add_zero, Bool.false_eq_true, if_pos, if_neg]) N 0 (by omega) (by omega)
theorem yldC_bd (ok : OkB b) (f o : Nat) : 0 ≤ yldC b f o ∧ yldC b f o ≤ 1539 := by
  have := cnt_bd (fun y => yqS b f o (sy b y)) (cyN b)
  have := cyN_bd ok
  unfold yldC; omega
def rvf (b : Nat → Int) (f : Nat) : Nat → Int × Int
  | 0 => (-1, 0)
  | o + 1 => if o = f then rvf b f o else if (rvf b f o).2 < yldC b f o then ((o : Int), yldC b f o) else rvf b f o
theorem rvf_bd (ok : OkB b) (f : Nat) : ∀ o : Nat, 0 ≤ (rvf b f o).2 ∧ (rvf b f o).2 ≤ 1539
  | 0 => by simp [rvf]
  | o + 1 => by
    have := rvf_bd ok f o
    have := yldC_bd ok f o
    rw [rvf]
    split
    · omega
    · split
      · exact yldC_bd ok f o
      · omega
theorem c_worstRival (hN : 100 < N) (ok : OkB b) (cb : CB b h 23) (rb : RB b h) (rs : RS b h) {f : Nat} (hf : (f : Int) < b 42) : M_Round_worstRival N h f = some (rvf b f (b 42).toNat).1 := by
  have hm := ok.many
  exact lp_fold (fun n k (a : Int × Int) => Round_worstRival_L7 N h f n a.1 a.2 k) (rvf b f) _ (b 42).toNat
    (fun n k hk => by
      have h1 := rvf_bd ok f k
      have h2 := yldC_bd ok f k
      (try dsimp only)
      rw [Round_worstRival_L7, cb_many cb, rvf]
      by_cases c1 : k = f
      · subst c1
        simp (disch := omega) only [leb_iff, ltb_iff, eqb_iff, pu_rmP, pu_dvP, pu_bs, pu_b0, pu_b1, pu_c0, pu_c1, pu_lt, pu_rdN, pu_wrN, hs_at, hs_cell, hs_slot, if_true, if_false, true_and, and_true, pu_rd, pu_wr, Int.reduceToNat, Int.toNat_natCast, decide_eq_true_eq, Int.add_zero, Bool.false_eq_true, if_pos, if_neg]
      · rw [c_yearsYielding hN ok rb rs hf (by omega)]
        by_cases c2 : (rvf b f k).2 < yldC b f k
        · simp (disch := omega) only [leb_iff, ltb_iff, eqb_iff, pu_rmP, pu_dvP, pu_bs, pu_b0, pu_b1, pu_c0, pu_c1, pu_lt, pu_rdN, pu_wrN, hs_at, hs_cell, hs_slot, if_true, if_false, true_and, and_true, pu_rd, pu_wr, Int.reduceToNat, Int.toNat_natCast, decide_eq_true_eq, Int.add_zero, Bool.false_eq_true, if_pos, if_neg]
        · simp (disch := omega) only [leb_iff, ltb_iff, eqb_iff, pu_rmP, pu_dvP, pu_bs, pu_b0, pu_b1, pu_c0, pu_c1, pu_lt, pu_rdN, pu_wrN, hs_at, hs_cell, hs_slot, if_true, if_false, true_and, and_true, pu_rd, pu_wr, Int.reduceToNat, Int.toNat_natCast, decide_eq_true_eq, Int.add_zero, Bool.false_eq_true, if_pos, if_neg])
    (fun n => by
      (try dsimp only)
      rw [Round_worstRival_L7, cb_many cb]
      simp (disch := omega) only [leb_iff, ltb_iff, eqb_iff, pu_rmP, pu_dvP, pu_bs, pu_b0, pu_b1, pu_c0, pu_c1, pu_lt, pu_rdN, pu_wrN, hs_at, hs_cell, hs_slot, if_true, if_false, true_and, and_true, pu_rd, pu_wr, Int.reduceToNat, Int.toNat_natCast, decide_eq_true_eq, Int.add_zero, Bool.false_eq_true, if_pos, if_neg]) N 0 (by omega) (by omega)
def kpC (b : Nat → Int) (f : Nat) : Int := cnt (fun y => decide ((rsS b (sy b y)).2.1 f = 0)) (cyN b)
theorem kpC_bd (ok : OkB b) (f : Nat) : 0 ≤ kpC b f ∧ kpC b f ≤ 1539 := by
  have := cnt_bd (fun y => decide ((rsS b (sy b y)).2.1 f = 0)) (cyN b)
  have := cyN_bd ok
  unfold kpC; omega
def ldf (b : Nat → Int) : Nat → Int × Int
  | 0 => (-1, -1)
  | o + 1 => if (ldf b o).2 < kpC b o then ((o : Int), kpC b o) else ldf b o
theorem ldf_bd (ok : OkB b) : ∀ o : Nat, -1 ≤ (ldf b o).2 ∧ (ldf b o).2 ≤ 1539
  | 0 => by simp [ldf]
  | o + 1 => by
    have := ldf_bd ok o
    have := kpC_bd ok o
    rw [ldf]
    split
    · dsimp only; omega
    · omega
theorem c_mostKept (hN : 100 < N) (ok : OkB b) (cb : CB b h 23) (rb : RB b h) (rs : RS b h) : M_Round_mostKept N h = some (ldf b (b 42).toNat).1 := by
  have hm := ok.many
  exact lp_fold (fun n k (a : Int × Int) => Round_mostKept_L6 N h n a.1 a.2 k) (ldf b) _ (b 42).toNat
    (fun n k hk => by
      have h1 := ldf_bd ok k
      have h2 := kpC_bd ok k
      have h3 := c_yearsWith hN ok rb rs (f := k) (by omega) (t := 0) (by omega)
      have h4 : cnt (fun y => decide ((rsS b (sy b y)).2.1 k = 0)) (cyN b) = kpC b k := rfl
      rw [h4] at h3
      (try dsimp only)
      rw [Round_mostKept_L6, cb_many cb, ldf, h3]
      by_cases c2 : (ldf b k).2 < kpC b k
      · simp (disch := omega) only [leb_iff, ltb_iff, eqb_iff, pu_rmP, pu_dvP, pu_bs, pu_b0, pu_b1, pu_c0, pu_c1, pu_lt, pu_rdN, pu_wrN, hs_at, hs_cell, hs_slot, if_true, if_false, true_and, and_true, pu_rd, pu_wr, Int.reduceToNat, Int.toNat_natCast, decide_eq_true_eq, Int.add_zero, Bool.false_eq_true, if_pos, if_neg]
      · simp (disch := omega) only [leb_iff, ltb_iff, eqb_iff, pu_rmP, pu_dvP, pu_bs, pu_b0, pu_b1, pu_c0, pu_c1, pu_lt, pu_rdN, pu_wrN, hs_at, hs_cell, hs_slot, if_true, if_false, true_and, and_true, pu_rd, pu_wr, Int.reduceToNat, Int.toNat_natCast, decide_eq_true_eq, Int.add_zero, Bool.false_eq_true, if_pos, if_neg])
    (fun n => by
      (try dsimp only)
      rw [Round_mostKept_L6, cb_many cb]
      simp (disch := omega) only [leb_iff, ltb_iff, eqb_iff, pu_rmP, pu_dvP, pu_bs, pu_b0, pu_b1, pu_c0, pu_c1, pu_lt, pu_rdN, pu_wrN, hs_at, hs_cell, hs_slot, if_true, if_false, true_and, and_true, pu_rd, pu_wr, Int.reduceToNat, Int.toNat_natCast, decide_eq_true_eq, Int.add_zero, Bool.false_eq_true, if_pos, if_neg]) N 0 (by omega) (by omega)
theorem Lst_or {q q' : Nat → Prop} {C : Nat} {r r' : Int} (h : Lst q C r) (h' : Lst q' C r') : Lst (fun y => q y ∨ q' y) C (if r' = -1 then r else if r = -1 then r' else if r ≤ r' then r else r') := by
  rcases h with ⟨h1, h2⟩ | ⟨y, y1, y2, y3, y4⟩
  · rcases h' with ⟨k1, k2⟩ | ⟨z, z1, z2, z3, z4⟩
    · rw [if_pos k1]
      exact Or.inl ⟨h1, fun y hy x => by rcases x with x | x; exact h2 y hy x; exact k2 y hy x⟩
    · rw [if_neg (by omega), if_pos h1]
      exact Or.inr ⟨z, z1, z2, Or.inr z3, fun w hw x => by rcases x with x | x; exact h2 w (by omega) x; exact z4 w hw x⟩
  · rcases h' with ⟨k1, k2⟩ | ⟨z, z1, z2, z3, z4⟩
    · rw [if_pos k1]
      exact Or.inr ⟨y, y1, y2, Or.inl y3, fun w hw x => by rcases x with x | x; exact y4 w hw x; exact k2 w (by omega) x⟩
    · rw [if_neg (by omega), if_neg (by omega)]
      by_cases c : r ≤ r'
      · rw [if_pos c]
        exact Or.inr ⟨y, y1, y2, Or.inl y3, fun w hw x => by rcases x with x | x; exact y4 w hw x; exact z4 w (by omega) x⟩
      · rw [if_neg c]
        exact Or.inr ⟨z, z1, z2, Or.inr z3, fun w hw x => by rcases x with x | x; exact y4 w (by omega) x; exact z4 w hw x⟩
theorem Lst_bd {q : Nat → Prop} {C : Nat} {r : Int} (h : Lst q C r) : -1 ≤ r ∧ r ≤ C := by
  rcases h with ⟨h1, _⟩ | ⟨y, y1, y2, _⟩ <;> omega
theorem c_firstLeft (hN : 100 < N) (ok : OkB b) (cb : CB b h 23) (rb : RB b h) (rs : RS b h) : ∃ r, M_Round_firstLeft N h = some r ∧ Lst (fun y => ∃ g : Nat, (g : Int) < b 42 ∧ (rsS b (sy b y)).2.1 g = 4) (cyN b) r := by
  have hm := ok.many
  have hC := cyN_bd ok
  exact lp_inv (fun n k a => Round_firstLeft_L4 N h n a k) (fun k a => Lst (fun y => ∃ g : Nat, g < k ∧ (rsS b (sy b y)).2.1 g = 4) (cyN b) a) (fun r => Lst (fun y => ∃ g : Nat, (g : Int) < b 42 ∧ (rsS b (sy b y)).2.1 g = 4) (cyN b) r) (b 42).toNat
    (fun n k a hk hp => by
      obtain ⟨r, e1, e2⟩ := c_firstWith hN ok rb rs (f := k) (by omega) (t := 4) (by omega)
      have b1 := Lst_bd hp
      have b2 := Lst_bd e2
      refine Or.inl ⟨_, Lst_congr (fun y _ => ?_) (Lst_or hp e2), ?_⟩
      · constructor
        · rintro (⟨g, g1, g2⟩ | g2)
          · exact ⟨g, by omega, g2⟩
          · exact ⟨k, by omega, g2⟩
        · rintro ⟨g, g1, g2⟩
          by_cases e : g = k
          · subst e; exact Or.inr g2
          · exact Or.inl ⟨g, by omega, g2⟩
      · (try dsimp only)
        rw [Round_firstLeft_L4, cb_many cb, e1]
        by_cases c1 : r = -1
        · simp (disch := omega) only [leb_iff, ltb_iff, eqb_iff, pu_rmP, pu_dvP, pu_bs, pu_b0, pu_b1, pu_c0, pu_c1, pu_lt, pu_rdN, pu_wrN, hs_at, hs_cell, hs_slot, if_true, if_false, true_and, and_true, pu_rd, pu_wr, Int.reduceToNat, Int.toNat_natCast, decide_eq_true_eq, Int.add_zero, Bool.false_eq_true, if_pos, if_neg]
        · by_cases c2 : a = -1
          · simp (disch := omega) only [leb_iff, ltb_iff, eqb_iff, pu_rmP, pu_dvP, pu_bs, pu_b0, pu_b1, pu_c0, pu_c1, pu_lt, pu_rdN, pu_wrN, hs_at, hs_cell, hs_slot, if_true, if_false, true_and, and_true, pu_rd, pu_wr, Int.reduceToNat, Int.toNat_natCast, decide_eq_true_eq, Int.add_zero, Bool.false_eq_true, if_pos, if_neg]
          · by_cases c3 : a ≤ r
            · simp (disch := omega) only [leb_iff, ltb_iff, eqb_iff, pu_rmP, pu_dvP, pu_bs, pu_b0, pu_b1, pu_c0, pu_c1, pu_lt, pu_rdN, pu_wrN, hs_at, hs_cell, hs_slot, if_true, if_false, true_and, and_true, pu_rd, pu_wr, Int.reduceToNat, Int.toNat_natCast, decide_eq_true_eq, Int.add_zero, Bool.false_eq_true, if_pos, if_neg]
            · simp (disch := omega) only [leb_iff, ltb_iff, eqb_iff, pu_rmP, pu_dvP, pu_bs, pu_b0, pu_b1, pu_c0, pu_c1, pu_lt, pu_rdN, pu_wrN, hs_at, hs_cell, hs_slot, if_true, if_false, true_and, and_true, pu_rd, pu_wr, Int.reduceToNat, Int.toNat_natCast, decide_eq_true_eq, Int.add_zero, Bool.false_eq_true, if_pos, if_neg])
    (fun n a hp => by
      refine ⟨a, ?_, Lst_congr (fun y _ => ?_) hp⟩
      · (try dsimp only)
        rw [Round_firstLeft_L4, cb_many cb]
        simp (disch := omega) only [leb_iff, ltb_iff, eqb_iff, pu_rmP, pu_dvP, pu_bs, pu_b0, pu_b1, pu_c0, pu_c1, pu_lt, pu_rdN, pu_wrN, hs_at, hs_cell, hs_slot, if_true, if_false, true_and, and_true, pu_rd, pu_wr, Int.reduceToNat, Int.toNat_natCast, decide_eq_true_eq, Int.add_zero, Bool.false_eq_true, if_pos, if_neg]
      · constructor
        · rintro ⟨g, g1, g2⟩; exact ⟨g, by omega, g2⟩
        · rintro ⟨g, g1, g2⟩; exact ⟨g, by omega, g2⟩) N 0 (-1) (by omega) (by omega) (Or.inl ⟨rfl, fun y hy x => by obtain ⟨g, g1, _⟩ := x; omega⟩)
end Rx
