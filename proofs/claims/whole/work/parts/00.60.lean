theorem MS.th0 {b : Nat → Int} {l p : Int} {s : St} {h : Hp} (m : MS b l p s h) (v : Int) : MS b l p s (hs h 83 0 v) :=
  MS.mk (MY.mk (by rw [hs_cell (by omega)]; exact m.my.bk) (by rw [hs_slot (by omega)]; exact m.my.days) (by rw [hs_slot (by omega)]; exact m.my.pasch) (by rw [hs_slot (by omega)]; exact m.my.wd0) (by rw [hs_slot (by omega)]; exact m.my.wd) (by rw [hs_cell (by omega)]; exact m.my.dys)) (by rw [hs_cell (by omega)]; exact m.th) (by rw [hs_cell (by omega), hs_cell (by omega)]; exact m.ro) (by rw [hs_cell (by omega)]; exact m.jo)
section Qc
variable {h : Hp} {N L : Nat} {xs : Nat → Int32} {v4 : Int}
def vd (b : Nat → Int) (y d : Int) : Prop := 0 < b 0 ∧ 0 ≤ y ∧ y ≤ 9999 ∧ 0 ≤ d ∧ d < yd b + lp b y
theorem q_dayR (hN : 2000 < N) (i : Inv h) {y d : Int} (ry : rg y) (rd : rg d) (c : vd (h 84) y d) : ∃ h', M_Md_isDay N h y d = some (1, h') ∧ Fz h h' ∧ MS (h 84) (lp (h 84) y) (psc (h 84) y) (res (h 84) (lp (h 84) y) (psc (h 84) y)) h' ∧ h' 83 14 = wdy (h 84) y := by
  rcases q_isDay hN i ry rd with ⟨h', e1, e2, e3, e4, _⟩ | ⟨_, z⟩
  · exact ⟨h', e1, e2, e4, e3⟩
  · exact absurd c z
theorem q_dayN (hN : 2000 < N) (i : Inv h) {y d : Int} (ry : rg y) (rd : rg d) (c : ¬ vd (h 84) y d) : M_Md_isDay N h y d = some (0, h) := by
  rcases q_isDay hN i ry rd with ⟨h', _, _, _, _, z⟩ | ⟨z, _⟩
  · exact absurd z c
  · exact z
theorem q_dayC (i : Inv h) {y d : Int} (ry : rg y) (rd : rg d) : (vd (h 84) y d → M_FB_checkDay h y d = some (0, 0, h)) ∧ (¬ vd (h 84) y d → M_FB_checkDay h y d = some (1, 0, h)) := by
  rw [q_checkDay i ry rd]
  exact ⟨fun c => by unfold vd at c; rw [if_pos c], fun c => by unfold vd at c; rw [if_neg c]⟩
theorem k_day (hN : 2000 < N) (i : Inv h) (hv : 0 ≤ v4 ∧ v4 + 6 ≤ L) (k : Hp → Option Int) : ∃ h', Inv h' ∧ Lw_case_5 N L xs v4 h k = k h' := by
  unfold Lw_case_5 M_Lw_day
  simp (disch := omega) only [rdX_ok hv, pu_bs]
  have ry := px_rg xs v4 1
  have rd := px_rg xs v4 2
  have rw_ := px_rg xs v4 3
  generalize px xs v4 1 = y at *
  generalize px xs v4 2 = d at *
  generalize px xs v4 3 = w at *
  by_cases c1 : vd (h 84) y d
  · by_cases c2 : 0 ≤ w ∧ w ≤ 3
    · have c1' := c1
      unfold vd at c1'
      have ok := i.okb c1'.1
      have yr := Yr_of ok c1'.2.1
      have hy := yr.bd ok
      have hw := ok.week
      have hsr := srt_bd ok c1'.2.1
      have refR : ∀ g, Inv g → g 84 = h 84 → ∃ h', Fz g h' ∧ MS (h 84) (lp (h 84) y) (psc (h 84) y) (res (h 84) (lp (h 84) y) (psc (h 84) y)) h' ∧ h' 83 14 = wdy (h 84) y ∧ h' 83 0 = 0 ∧ M_Md_day N g y d w = (if eqb w 0 then (M_Md_monthOf N h' y d).bind (fun x8 => some (x8, h')) else if eqb w 1 then (M_Md_monthOf N h' y d).bind (fun x10 => (M_Md_firstOf N h' y x10).bind (fun x12 => some (d - x12, h'))) else if eqb w 2 then (rdA h' 84 127 0).bind (fun x13 => (rmI ((h' 83 14) + d) x13).bind (fun x14 => some (x14, h'))) else (M_Md_isClosed N h' d).bind (fun x16 => if eqb x16 0 then some (0, h') else some (1, h'))) := by
        intro g gi g84
        obtain ⟨h', e1, e2, e3, e4⟩ := q_dayR hN gi ry rd (by rw [g84]; exact c1)
        rw [g84] at e3 e4
        refine ⟨hs h' 83 0 0, e2.trans Fz_thrown, e3.th0 0, by rw [hs_slot (by omega)]; exact e4, hs_at, ?_⟩
        unfold M_Md_day
        rw [e1, pu_bs]
        dsimp only
        rw [pu_lt, if_neg ne10, m_isIn (by omega) (by omega) (by omega) (by omega) (by omega) (by omega), pu_bs, if_pos c2, if_neg ne10]
        exact jt0
      have h4 : w = 0 ∨ w = 1 ∨ w = 2 ∨ w = 3 := by omega
      obtain ⟨mo, m1, m2, m3, m4⟩ := c_monthOf (h := h) (N := N) (B := 23) (by omega) ok i.cb hsr.1 hsr.2.1 (d := d) c1'.2.2.2.1 (by rw [hsr.2.2.1]; exact c1'.2.2.2.2)
      rw [hsr.2.2.1] at m3 m4
      have mst := c_monthStart (h := h) (N := N) (B := 23) (by omega) ok i.cb hsr.1 hsr.2.1 (m := mo) (by omega)
      rw [hsr.2.2.1] at mst
      have pO := c_paschOf ok i.cb c1'.2.1 (show y ≤ 20000 by omega)
      rcases h4 with e | e | e | e
      · refine fin_case (R := fun g => M_Md_day N g y d w) (v := (mo : Int)) (hC := h) (code := 0) (idx := 0) ?_ i rfl (Or.inl ⟨rfl, rfl⟩) (fun g gi g84 => ?_) k
        · unfold M_FB_day
          rw [(q_dayC i ry rd).1 c1, xb0, q_checkWhat rw_ (by omega), if_pos c2, xb0, c_sortOf ok i.cb c1'.2.1 (by omega), pu_bs, e, m1]
          simp (disch := omega) only [leb_iff, ltb_iff, eqb_iff, pu_rmP, pu_dvP, pu_bs, pu_b0, pu_b1, pu_c0, pu_c1, pu_lt, pu_rdN, pu_wrN, hs_at, hs_cell, hs_slot, if_true, if_false, true_and, and_true, pu_rd, pu_wr, Int.reduceToNat, Int.toNat_natCast, decide_eq_true_eq, Int.add_zero, Bool.false_eq_true, if_pos, if_neg]
        · obtain ⟨h', f1, f2, f3, f4, f5⟩ := refR g gi g84
          obtain ⟨mo', n1, n2, n3, n4⟩ := m_monthOf (h := h') (N := N) (by omega) (by rw [f2.my.bk]; exact ok) c1'.2.1 (show y ≤ 20000 by omega) (d := d) c1'.2.2.2.1 (by rw [f2.my.bk]; exact c1'.2.2.2.2)
          rw [f2.my.bk] at n2 n3 n4
          have : mo' = mo := sp_ms_uniq ok n2 m2 n3 n4 m3 m4
          refine ⟨(mo' : Int), h', ?_, f1, f4, fun _ => by rw [this]⟩
          rw [f5, e, n1]
          simp (disch := omega) only [leb_iff, ltb_iff, eqb_iff, pu_rmP, pu_dvP, pu_bs, pu_b0, pu_b1, pu_c0, pu_c1, pu_lt, pu_rdN, pu_wrN, hs_at, hs_cell, hs_slot, if_true, if_false, true_and, and_true, pu_rd, pu_wr, Int.reduceToNat, Int.toNat_natCast, decide_eq_true_eq, Int.add_zero, Bool.false_eq_true, if_pos, if_neg]
      · refine fin_case (R := fun g => M_Md_day N g y d w) (v := d - sp_ms (h 84) (lp (h 84) y) mo) (hC := h) (code := 0) (idx := 0) ?_ i rfl (Or.inl ⟨rfl, rfl⟩) (fun g gi g84 => ?_) k
        · unfold M_FB_day
          rw [(q_dayC i ry rd).1 c1, xb0, q_checkWhat rw_ (by omega), if_pos c2, xb0, c_sortOf ok i.cb c1'.2.1 (by omega), pu_bs, e, m1]
          simp (disch := omega) only [leb_iff, ltb_iff, eqb_iff, pu_rmP, pu_dvP, pu_bs, pu_b0, pu_b1, pu_c0, pu_c1, pu_lt, pu_rdN, pu_wrN, hs_at, hs_cell, hs_slot, if_true, if_false, true_and, and_true, pu_rd, pu_wr, Int.reduceToNat, Int.toNat_natCast, decide_eq_true_eq, Int.add_zero, Bool.false_eq_true, if_pos, if_neg, mst]
        · obtain ⟨h', f1, f2, f3, f4, f5⟩ := refR g gi g84
          have ok' : OkB (h' 84) := by rw [f2.my.bk]; exact ok
          obtain ⟨mo', n1, n2, n3, n4⟩ := m_monthOf (h := h') (N := N) (by omega) ok' c1'.2.1 (show y ≤ 20000 by omega) (d := d) c1'.2.2.2.1 (by rw [f2.my.bk]; exact c1'.2.2.2.2)
          rw [f2.my.bk] at n2 n3 n4
          have : mo' = mo := sp_ms_uniq ok n2 m2 n3 n4 m3 m4
          have hmo := ok.mon
          have ff := m_firstOf (h := h') (N := N) (by omega) ok' c1'.2.1 (show y ≤ 20000 by omega) (m := mo') (by omega)
          rw [f2.my.bk] at ff
          refine ⟨d - sp_ms (h 84) (lp (h 84) y) mo', h', ?_, f1, f4, fun _ => by rw [this]⟩
          rw [f5, e, n1]
          simp (disch := omega) only [leb_iff, ltb_iff, eqb_iff, pu_rmP, pu_dvP, pu_bs, pu_b0, pu_b1, pu_c0, pu_c1, pu_lt, pu_rdN, pu_wrN, hs_at, hs_cell, hs_slot, if_true, if_false, true_and, and_true, pu_rd, pu_wr, Int.reduceToNat, Int.toNat_natCast, decide_eq_true_eq, Int.add_zero, Bool.false_eq_true, if_pos, if_neg, ff]
      · have wf := c_weekdayFrom ok i.cb (p := psc (h 84) y) (d := d) (by omega) (by omega)
        refine fin_case (R := fun g => M_Md_day N g y d w) (v := (d - psc (h 84) y) % h 84 0) (hC := h) (code := 0) (idx := 0) ?_ i rfl (Or.inl ⟨rfl, rfl⟩) (fun g gi g84 => ?_) k
        · unfold M_FB_day
          rw [(q_dayC i ry rd).1 c1, xb0, q_checkWhat rw_ (by omega), if_pos c2, xb0, c_sortOf ok i.cb c1'.2.1 (by omega), pu_bs, e, pO]
          simp (disch := omega) only [leb_iff, ltb_iff, eqb_iff, pu_rmP, pu_dvP, pu_bs, pu_b0, pu_b1, pu_c0, pu_c1, pu_lt, pu_rdN, pu_wrN, hs_at, hs_cell, hs_slot, if_true, if_false, true_and, and_true, pu_rd, pu_wr, Int.reduceToNat, Int.toNat_natCast, decide_eq_true_eq, Int.add_zero, Bool.false_eq_true, if_pos, if_neg, wf]
        · obtain ⟨h', f1, f2, f3, f4, f5⟩ := refR g gi g84
          have hw0 := wdy_le ok y
          refine ⟨(d - psc (h 84) y) % h 84 0, h', ?_, f1, f4, fun _ => rfl⟩
          rw [f5, e, f3]
          have sh := wd_shift (d := d) (psc_mod (b := h 84) y)
          simp (disch := omega) only [leb_iff, ltb_iff, eqb_iff, pu_rmP, pu_dvP, pu_bs, pu_b0, pu_b1, pu_c0, pu_c1, pu_lt, pu_rdN, pu_wrN, hs_at, hs_cell, hs_slot, if_true, if_false, true_and, and_true, pu_rd, pu_wr, Int.reduceToNat, Int.toNat_natCast, decide_eq_true_eq, Int.add_zero, Bool.false_eq_true, if_pos, if_neg, f2.my.bk, sh]
      · obtain ⟨r, r1, r2, r3, r4⟩ := c_closed (h := h) (N := N) (B := 23) (by omega) ok i.cb (x := d - psc (h 84) y) (by omega)
        have r1' : M_Spans_lastWith N h 29 (d - psc (h 84) y) = some r := r1
        refine fin_case (R := fun g => M_Md_day N g y d w) (v := if cz (h 84) (d - psc (h 84) y) then 1 else 0) (hC := h) (code := 0) (idx := 0) ?_ i rfl (Or.inl ⟨rfl, rfl⟩) (fun g gi g84 => ?_) k
        · unfold M_FB_day
          rw [(q_dayC i ry rd).1 c1, xb0, q_checkWhat rw_ (by omega), if_pos c2, xb0, c_sortOf ok i.cb c1'.2.1 (by omega), pu_bs, e, pO]
          by_cases c : r = -1
          · have := r4.mp c
            simp (disch := omega) only [leb_iff, ltb_iff, eqb_iff, pu_rmP, pu_dvP, pu_bs, pu_b0, pu_b1, pu_c0, pu_c1, pu_lt, pu_rdN, pu_wrN, hs_at, hs_cell, hs_slot, if_true, if_false, true_and, and_true, pu_rd, pu_wr, Int.reduceToNat, Int.toNat_natCast, decide_eq_true_eq, Int.add_zero, Bool.false_eq_true, if_pos, if_neg, r1', this]
          · have : ¬ cz (h 84) (d - psc (h 84) y) = false := fun z => c (r4.mpr z)
            simp only [Bool.not_eq_false] at this
            simp (disch := omega) only [leb_iff, ltb_iff, eqb_iff, pu_rmP, pu_dvP, pu_bs, pu_b0, pu_b1, pu_c0, pu_c1, pu_lt, pu_rdN, pu_wrN, hs_at, hs_cell, hs_slot, if_true, if_false, true_and, and_true, pu_rd, pu_wr, Int.reduceToNat, Int.toNat_natCast, decide_eq_true_eq, Int.add_zero, Bool.false_eq_true, if_pos, if_neg, r1', this]
        · obtain ⟨h', f1, f2, f3, f4, f5⟩ := refR g gi g84
          have q := m_isClosed (h := h') (N := N) (by omega) (by rw [f2.my.bk]; exact ok) (d := d) (by omega) (by rw [f2.my.pasch]; omega)
          rw [f2.my.bk, f2.my.pasch] at q
          refine ⟨if cz (h 84) (d - psc (h 84) y) then 1 else 0, h', ?_, f1, f4, fun _ => rfl⟩
          rw [f5, e, q]
          cases cz (h 84) (d - psc (h 84) y) <;> simp (disch := omega) only [leb_iff, ltb_iff, eqb_iff, pu_rmP, pu_dvP, pu_bs, pu_b0, pu_b1, pu_c0, pu_c1, pu_lt, pu_rdN, pu_wrN, hs_at, hs_cell, hs_slot, if_true, if_false, true_and, and_true, pu_rd, pu_wr, Int.reduceToNat, Int.toNat_natCast, decide_eq_true_eq, Int.add_zero, Bool.false_eq_true, if_pos, if_neg]
    · refine fin_case (R := fun g => M_Md_day N g y d w) (code := 2) (v := 0) (hC := h) (idx := 2) ?_ i rfl (Or.inr ⟨by omega, rfl, by omega, by omega⟩) (fun g gi g84 => ?_) k
      · unfold M_FB_day
        rw [(q_dayC i ry rd).1 c1, xb0, q_checkWhat rw_ (by omega), if_neg c2, xbn (by omega)]
      · obtain ⟨h', e1, e2, e3, e4⟩ := q_dayR hN gi ry rd (by rw [g84]; exact c1)
        refine ⟨0, hs h' 83 0 2, ?_, e2.trans Fz_thrown, hs_at, fun z => by omega⟩
        unfold M_Md_day
        unfold rg at *
        rw [e1, pu_bs]
        dsimp only
        rw [pu_lt, if_neg ne10, m_isIn (by omega) (by omega) (by omega) (by omega) (by omega) (by omega), pu_bs, if_neg c2, if_pos eq00]
        exact jtv (by omega)
  · refine fin_case (R := fun g => M_Md_day N g y d w) (code := 1) (v := 0) (hC := h) (idx := 1) ?_ i rfl (Or.inr ⟨by omega, rfl, by omega, by omega⟩) (fun g gi g84 => ?_) k
    · unfold M_FB_day
      rw [(q_dayC i ry rd).2 c1, xbn (by omega)]
    · refine ⟨0, hs g 83 0 1, ?_, Fz_thrown, hs_at, fun z => by omega⟩
      unfold M_Md_day
      rw [q_dayN hN gi ry rd (by rw [g84]; exact c1), pu_bs]
      dsimp only
      rw [pu_lt, if_pos eq00]
      exact jtv (by omega)
def tlv (c w : Int) : Int := if w = 0 then c / 32 % 5 else if w = 1 then c / 160 else if c / 32 % 5 = 0 ∨ c / 32 % 5 = 3 then -1 else 15 - c % 16
theorem c_tell {c w : Int} (h0 : 0 ≤ c) (h1 : c < 1600) (hw : 0 ≤ w ∧ w ≤ 2) : M_Cl_tell c w = some (tlv c w) := by
  unfold M_Cl_tell M_Cl_feastIn tlv
  rw [c_kindIn h0 (by omega), c_rankIn h0 (by omega)]
  rcases (show w = 0 ∨ w = 1 ∨ w = 2 by omega) with e | e | e <;> subst e
  · simp (disch := omega) only [leb_iff, ltb_iff, eqb_iff, pu_rmP, pu_dvP, pu_bs, pu_b0, pu_b1, pu_c0, pu_c1, pu_lt, pu_rdN, pu_wrN, hs_at, hs_cell, hs_slot, if_true, if_false, true_and, and_true, pu_rd, pu_wr, Int.reduceToNat, Int.toNat_natCast, decide_eq_true_eq, Int.add_zero, Bool.false_eq_true, if_pos, if_neg]
  · simp (disch := omega) only [leb_iff, ltb_iff, eqb_iff, pu_rmP, pu_dvP, pu_bs, pu_b0, pu_b1, pu_c0, pu_c1, pu_lt, pu_rdN, pu_wrN, hs_at, hs_cell, hs_slot, if_true, if_false, true_and, and_true, pu_rd, pu_wr, Int.reduceToNat, Int.toNat_natCast, decide_eq_true_eq, Int.add_zero, Bool.false_eq_true, if_pos, if_neg]
  · by_cases c1 : c / 32 % 5 = 0
    · simp (disch := omega) only [leb_iff, ltb_iff, eqb_iff, pu_rmP, pu_dvP, pu_bs, pu_b0, pu_b1, pu_c0, pu_c1, pu_lt, pu_rdN, pu_wrN, hs_at, hs_cell, hs_slot, if_true, if_false, true_and, and_true, pu_rd, pu_wr, Int.reduceToNat, Int.toNat_natCast, decide_eq_true_eq, Int.add_zero, Bool.false_eq_true, if_pos, if_neg, true_or]
    · by_cases c2 : c / 32 % 5 = 3
      · simp (disch := omega) only [leb_iff, ltb_iff, eqb_iff, pu_rmP, pu_dvP, pu_bs, pu_b0, pu_b1, pu_c0, pu_c1, pu_lt, pu_rdN, pu_wrN, hs_at, hs_cell, hs_slot, if_true, if_false, true_and, and_true, pu_rd, pu_wr, Int.reduceToNat, Int.toNat_natCast, decide_eq_true_eq, Int.add_zero, Bool.false_eq_true, if_pos, if_neg, or_true]
      · simp (disch := omega) only [leb_iff, ltb_iff, eqb_iff, pu_rmP, pu_dvP, pu_bs, pu_b0, pu_b1, pu_c0, pu_c1, pu_lt, pu_rdN, pu_wrN, hs_at, hs_cell, hs_slot, if_true, if_false, true_and, and_true, pu_rd, pu_wr, Int.reduceToNat, Int.toNat_natCast, decide_eq_true_eq, Int.add_zero, Bool.false_eq_true, if_pos, if_neg]
theorem m_baseOf {b : Nat → Int} {l p : Int} (hN : 20 < N) (ok : OkB b) (yr : Yr b l p) (m : MY b l p h) {d w : Int} (hd : 0 ≤ d ∧ d < yd b + l) (hw : 0 ≤ w ∧ w ≤ 2) : ∃ h', M_Md_baseOf N h d w = some (tlv (bse b l p d) w, h') ∧ Fb h h' := by
  obtain ⟨h', e1, e2, e3⟩ := m_laysBase (h := h) (N := N) hN ok yr m hd
  obtain ⟨d1, d2, d3, d4, d5⟩ := Enc_dec ok e3
  refine ⟨h', ?_, e2⟩
  unfold M_Md_baseOf tlv
  rw [e1, pu_bs, d1, d2, d3]
  rcases (show w = 0 ∨ w = 1 ∨ w = 2 by omega) with e | e | e <;> subst e
  · simp (disch := omega) only [leb_iff, ltb_iff, eqb_iff, pu_rmP, pu_dvP, pu_bs, pu_b0, pu_b1, pu_c0, pu_c1, pu_lt, pu_rdN, pu_wrN, hs_at, hs_cell, hs_slot, if_true, if_false, true_and, and_true, pu_rd, pu_wr, Int.reduceToNat, Int.toNat_natCast, decide_eq_true_eq, Int.add_zero, Bool.false_eq_true, if_pos, if_neg]
  · simp (disch := omega) only [leb_iff, ltb_iff, eqb_iff, pu_rmP, pu_dvP, pu_bs, pu_b0, pu_b1, pu_c0, pu_c1, pu_lt, pu_rdN, pu_wrN, hs_at, hs_cell, hs_slot, if_true, if_false, true_and, and_true, pu_rd, pu_wr, Int.reduceToNat, Int.toNat_natCast, decide_eq_true_eq, Int.add_zero, Bool.false_eq_true, if_pos, if_neg]
  · simp (disch := omega) only [leb_iff, ltb_iff, eqb_iff, pu_rmP, pu_dvP, pu_bs, pu_b0, pu_b1, pu_c0, pu_c1, pu_lt, pu_rdN, pu_wrN, hs_at, hs_cell, hs_slot, if_true, if_false, true_and, and_true, pu_rd, pu_wr, Int.reduceToNat, Int.toNat_natCast, decide_eq_true_eq, Int.add_zero, Bool.false_eq_true, if_pos, if_neg]
theorem k_base (hN : 2000 < N) (i : Inv h) (hv : 0 ≤ v4 ∧ v4 + 6 ≤ L) (k : Hp → Option Int) : ∃ h', Inv h' ∧ Lw_case_7 N L xs v4 h k = k h' := by
  unfold Lw_case_7 M_Lw_base
  simp (disch := omega) only [rdX_ok hv, pu_bs]
  have ry := px_rg xs v4 1
  have rd := px_rg xs v4 2
  have rw_ := px_rg xs v4 3
  generalize px xs v4 1 = y at *
  generalize px xs v4 2 = d at *
  generalize px xs v4 3 = w at *
  by_cases c1 : vd (h 84) y d
  · by_cases c2 : 0 ≤ w ∧ w ≤ 2
    · have c1' := c1
      unfold vd at c1'
      have ok := i.okb c1'.1
      have yr := Yr_of ok c1'.2.1
      have hy := yr.bd ok
      obtain ⟨hC, e1, e2, e3, e4⟩ := q_settled hN i ok c1'.2.1 c1'.2.2.1
      have hb := bse_bd ok (lp (h 84) y) (psc (h 84) y) d
      have e5 := e4.bs d.toNat (by omega)
      rw [show ((d.toNat : Nat) : Int) = d by omega] at e5
      refine fin_case (R := fun g => M_Md_base N g y d w) (v := tlv (bse (h 84) (lp (h 84) y) (psc (h 84) y) d) w) (hC := hC) (code := 0) (idx := 0) ?_ e2 e3 (Or.inl ⟨rfl, rfl⟩) (fun g gi g84 => ?_) k
      · unfold M_FB_base
        rw [(q_dayC i ry rd).1 c1, xb0, q_checkWhat rw_ (by omega), if_pos c2, xb0, e1, pu_bs, pu_rd (by omega) (by omega), pu_bs, e5, c_tell (by omega) (by omega) c2, pu_bs]
      · obtain ⟨h', f1, f2, f3, f4⟩ := q_dayR hN gi ry rd (by rw [g84]; exact c1)
        rw [g84] at f3
        obtain ⟨h2, g1, g2⟩ := m_baseOf (h := hs h' 83 0 0) (N := N) (by omega) ok yr (f3.th0 0).my (d := d) (w := w) (by omega) c2
        refine ⟨_, h2, ?_, (f2.trans Fz_thrown).trans g2.fq.fz, by rw [g2.2 0 (by omega) (by omega) (by omega), hs_at], fun _ => rfl⟩
        unfold M_Md_base
        rw [f1, pu_bs]
        dsimp only
        rw [if_neg ne10, m_isIn (by omega) (by omega) (by omega) (by omega) (by omega) (by omega), pu_bs, if_pos c2, if_neg ne10, jt0, g1, pu_bs]
    · refine fin_case (R := fun g => M_Md_base N g y d w) (code := 2) (v := 0) (hC := h) (idx := 2) ?_ i rfl (Or.inr ⟨by omega, rfl, by omega, by omega⟩) (fun g gi g84 => ?_) k
      · unfold M_FB_base
        rw [(q_dayC i ry rd).1 c1, xb0, q_checkWhat rw_ (by omega), if_neg c2, xbn (by omega)]
      · obtain ⟨h', e1, e2, e3, e4⟩ := q_dayR hN gi ry rd (by rw [g84]; exact c1)
        refine ⟨0, hs h' 83 0 2, ?_, e2.trans Fz_thrown, hs_at, fun z => by omega⟩
        unfold M_Md_base
        unfold rg at *
        rw [e1, pu_bs]
        dsimp only
        rw [if_neg ne10, m_isIn (by omega) (by omega) (by omega) (by omega) (by omega) (by omega), pu_bs, if_neg c2, if_pos eq00]
        exact jtv (by omega)
  · refine fin_case (R := fun g => M_Md_base N g y d w) (code := 1) (v := 0) (hC := h) (idx := 1) ?_ i rfl (Or.inr ⟨by omega, rfl, by omega, by omega⟩) (fun g gi g84 => ?_) k
    · unfold M_FB_base
      rw [(q_dayC i ry rd).2 c1, xbn (by omega)]
    · refine ⟨0, hs g 83 0 1, ?_, Fz_thrown, hs_at, fun z => by omega⟩
      unfold M_Md_base
      rw [q_dayN hN gi ry rd (by rw [g84]; exact c1), pu_bs]
      dsimp only
      rw [if_pos eq00]
      exact jtv (by omega)
theorem k_office (hN : 2000 < N) (i : Inv h) (hv : 0 ≤ v4 ∧ v4 + 6 ≤ L) (k : Hp → Option Int) : ∃ h', Inv h' ∧ Lw_case_6 N L xs v4 h k = k h' := by
  unfold Lw_case_6 M_Lw_office
  simp (disch := omega) only [rdX_ok hv, pu_bs]
  have ry := px_rg xs v4 1
  have rd := px_rg xs v4 2
  have rw_ := px_rg xs v4 3
  generalize px xs v4 1 = y at *
  generalize px xs v4 2 = d at *
  generalize px xs v4 3 = w at *
  by_cases c1 : vd (h 84) y d
  · by_cases c2 : 0 ≤ w ∧ w ≤ 2
    · have c1' := c1
      unfold vd at c1'
      have ok := i.okb c1'.1
      have hm := ok.many
      have yr := Yr_of ok c1'.2.1
      have hy := yr.bd ok
      obtain ⟨hC, e1, e2, e3, e4⟩ := q_settled hN i ok c1'.2.1 c1'.2.2.1
      have hb := ofr_bd ok (lp (h 84) y) (psc (h 84) y) d.toNat
      have e5 : hC 68 d.toNat = ofr (h 84) (lp (h 84) y) (psc (h 84) y) d.toNat := e4.of d.toNat (by omega)
      refine fin_case (R := fun g => M_Md_office N g y d w) (v := tlv (ofr (h 84) (lp (h 84) y) (psc (h 84) y) d.toNat) w) (hC := hC) (code := 0) (idx := 0) ?_ e2 e3 (Or.inl ⟨rfl, rfl⟩) (fun g gi g84 => ?_) k
      · unfold M_FB_office
        rw [(q_dayC i ry rd).1 c1, xb0, q_checkWhat rw_ (by omega), if_pos c2, xb0, e1, pu_bs, pu_rd (by omega) (by omega), pu_bs, e5, c_tell (by omega) (by omega) c2, pu_bs]
      · obtain ⟨h', f1, f2, f3, f4⟩ := q_dayR hN gi ry rd (by rw [g84]; exact c1)
        rw [g84] at f3
        have f5 := f3.th0 0
        have th := f5.th d.toNat (by omega)
        have ht := res_th ok (lp (h 84) y) (psc (h 84) y) d.toNat
        have head : ∀ v g', ((rdA (hs h' 83 0 0) 92 260 d).bind (fun x7 => if eqb x7 (-1) then (M_Md_baseOf N (hs h' 83 0 0) d w).bind (fun q13 => some (q13.1, q13.2)) else if eqb w 0 then some (4, hs h' 83 0 0) else if eqb w 1 then (rdA (hs h' 83 0 0) 92 260 d).bind (fun x8 => (M_Md_of0 (hs h' 83 0 0) x8 0).bind (fun x10 => some (x10, hs h' 83 0 0))) else (rdA (hs h' 83 0 0) 92 260 d).bind (fun x11 => some (x11, hs h' 83 0 0)))) = some (v, g') → M_Md_office N g y d w = some (v, g') := by
          intro v g' e
          unfold M_Md_office
          rw [f1, pu_bs]
          dsimp only
          rw [pu_lt, if_neg ne10, m_isIn (by omega) (by omega) (by omega) (by omega) (by omega) (by omega), pu_bs, if_pos c2, if_neg ne10]
          exact jt0.trans e
        have er : ofr (h 84) (lp (h 84) y) (psc (h 84) y) d.toNat = ofc (h 84) (lp (h 84) y) (psc (h 84) y) (res (h 84) (lp (h 84) y) (psc (h 84) y)) d.toNat := rfl
        unfold ofc at er
        rw [show ((d.toNat : Nat) : Int) = d by omega] at er
        by_cases c3 : (res (h 84) (lp (h 84) y) (psc (h 84) y)).2.2 d.toNat = -1
        · rw [if_pos c3] at er
          obtain ⟨h2, g1, g2⟩ := m_baseOf (h := hs h' 83 0 0) (N := N) (by omega) ok yr f5.my (d := d) (w := w) (by omega) c2
          refine ⟨_, h2, head _ _ ?_, (f2.trans Fz_thrown).trans g2.fq.fz, by rw [g2.2 0 (by omega) (by omega) (by omega), hs_at], fun _ => by rw [er]⟩
          rw [pu_rd (by omega) (by omega), pu_bs, th, c3]
          simp (disch := omega) only [leb_iff, ltb_iff, eqb_iff, pu_rmP, pu_dvP, pu_bs, pu_b0, pu_b1, pu_c0, pu_c1, pu_lt, pu_rdN, pu_wrN, hs_at, hs_cell, hs_slot, if_true, if_false, true_and, and_true, pu_rd, pu_wr, Int.reduceToNat, Int.toNat_natCast, decide_eq_true_eq, Int.add_zero, Bool.false_eq_true, if_pos, if_neg, g1]
        · rw [if_neg c3] at er
          have hcl := cl_bd (ok.fea ((res (h 84) (lp (h 84) y) (psc (h 84) y)).2.2 d.toNat).toNat (by omega)) (by omega)
          have hmv := mv01 (ok.fea ((res (h 84) (lp (h 84) y) (psc (h 84) y)).2.2 d.toNat).toNat (by omega))
          have hof := m_of00 (h := hs h' 83 0 0) (f := ((res (h 84) (lp (h 84) y) (psc (h 84) y)).2.2 d.toNat).toNat) (by omega)
          rw [show ((((res (h 84) (lp (h 84) y) (psc (h 84) y)).2.2 d.toNat).toNat : Nat) : Int) = (res (h 84) (lp (h 84) y) (psc (h 84) y)).2.2 d.toNat by omega, f5.my.bk] at hof
          have hclv : cl (h 84) ((res (h 84) (lp (h 84) y) (psc (h 84) y)).2.2 d.toNat).toNat = fq (h 84) ((res (h 84) (lp (h 84) y) (psc (h 84) y)).2.2 d.toNat).toNat 0 * 160 + 128 + fq (h 84) ((res (h 84) (lp (h 84) y) (psc (h 84) y)).2.2 d.toNat).toNat 1 * 16 + 15 - (((res (h 84) (lp (h 84) y) (psc (h 84) y)).2.2 d.toNat).toNat : Int) := rfl
          refine ⟨tlv (ofr (h 84) (lp (h 84) y) (psc (h 84) y) d.toNat) w, hs h' 83 0 0, head _ _ ?_, f2.trans Fz_thrown, hs_at, fun _ => rfl⟩
          rw [er, pu_rd (by omega) (by omega), pu_bs, th, pu_bs, pu_bs]
          unfold tlv
          generalize (res (h 84) (lp (h 84) y) (psc (h 84) y)).2.2 d.toNat = o at *
          generalize cl (h 84) o.toNat = cc at *
          rcases (show w = 0 ∨ w = 1 ∨ w = 2 by omega) with e | e | e <;> subst e
          · simp (disch := omega) only [leb_iff, ltb_iff, eqb_iff, pu_rmP, pu_dvP, pu_bs, pu_b0, pu_b1, pu_c0, pu_c1, pu_lt, pu_rdN, pu_wrN, hs_at, hs_cell, hs_slot, if_true, if_false, true_and, and_true, pu_rd, pu_wr, Int.reduceToNat, Int.toNat_natCast, decide_eq_true_eq, Int.add_zero, Bool.false_eq_true, if_pos, if_neg]
            congr 2; omega
          · simp (disch := omega) only [leb_iff, ltb_iff, eqb_iff, pu_rmP, pu_dvP, pu_bs, pu_b0, pu_b1, pu_c0, pu_c1, pu_lt, pu_rdN, pu_wrN, hs_at, hs_cell, hs_slot, if_true, if_false, true_and, and_true, pu_rd, pu_wr, Int.reduceToNat, Int.toNat_natCast, decide_eq_true_eq, Int.add_zero, Bool.false_eq_true, if_pos, if_neg, hof]
            congr 2; omega
          · simp (disch := omega) only [leb_iff, ltb_iff, eqb_iff, pu_rmP, pu_dvP, pu_bs, pu_b0, pu_b1, pu_c0, pu_c1, pu_lt, pu_rdN, pu_wrN, hs_at, hs_cell, hs_slot, if_true, if_false, true_and, and_true, pu_rd, pu_wr, Int.reduceToNat, Int.toNat_natCast, decide_eq_true_eq, Int.add_zero, Bool.false_eq_true, if_pos, if_neg]
            congr 2; omega
    · refine fin_case (R := fun g => M_Md_office N g y d w) (code := 2) (v := 0) (hC := h) (idx := 2) ?_ i rfl (Or.inr ⟨by omega, rfl, by omega, by omega⟩) (fun g gi g84 => ?_) k
      · unfold M_FB_office
        rw [(q_dayC i ry rd).1 c1, xb0, q_checkWhat rw_ (by omega), if_neg c2, xbn (by omega)]
      · obtain ⟨h', e1, e2, e3, e4⟩ := q_dayR hN gi ry rd (by rw [g84]; exact c1)
        refine ⟨0, hs h' 83 0 2, ?_, e2.trans Fz_thrown, hs_at, fun z => by omega⟩
        unfold M_Md_office
        unfold rg at *
        rw [e1, pu_bs]
        dsimp only
        rw [pu_lt, if_neg ne10, m_isIn (by omega) (by omega) (by omega) (by omega) (by omega) (by omega), pu_bs, if_neg c2, if_pos eq00]
        exact jtv (by omega)
  · refine fin_case (R := fun g => M_Md_office N g y d w) (code := 1) (v := 0) (hC := h) (idx := 1) ?_ i rfl (Or.inr ⟨by omega, rfl, by omega, by omega⟩) (fun g gi g84 => ?_) k
    · unfold M_FB_office
      rw [(q_dayC i ry rd).2 c1, xbn (by omega)]
    · refine ⟨0, hs g 83 0 1, ?_, Fz_thrown, hs_at, fun z => by omega⟩
      unfold M_Md_office
      rw [q_dayN hN gi ry rd (by rw [g84]; exact c1), pu_bs]
      dsimp only
      rw [pu_lt, if_pos eq00]
      exact jtv (by omega)
end Qc
