theorem m_isIn {a lo hi : Int} (h1 : -2147483648 ≤ a) (h2 : a < 2147483648) (h3 : -2147483648 ≤ lo) (h4 : lo < 2147483648) (h5 : -2147483648 ≤ hi) (h6 : hi < 2147483648) : M_Md_isIn a lo hi = some (if lo ≤ a ∧ a ≤ hi then 1 else 0) := by
  unfold M_Md_isIn
  by_cases e1 : a < lo
  · simp (disch := omega) only [leb_iff, ltb_iff, eqb_iff, pu_rmP, pu_dvP, pu_bs, pu_b0, pu_b1, pu_c0, pu_c1, pu_lt, pu_rdN, pu_wrN, hs_at, hs_cell, hs_slot, if_true, if_false, true_and, and_true, pu_rd, pu_wr, Int.reduceToNat, Int.toNat_natCast, decide_eq_true_eq, Int.add_zero, Bool.false_eq_true, if_pos, if_neg]
  · by_cases e2 : hi < a <;> simp (disch := omega) only [leb_iff, ltb_iff, eqb_iff, pu_rmP, pu_dvP, pu_bs, pu_b0, pu_b1, pu_c0, pu_c1, pu_lt, pu_rdN, pu_wrN, hs_at, hs_cell, hs_slot, if_true, if_false, true_and, and_true, pu_rd, pu_wr, Int.reduceToNat, Int.toNat_natCast, decide_eq_true_eq, Int.add_zero, Bool.false_eq_true, if_pos, if_neg]
def sp_sr (b : Nat → Int) (x : Int) : Nat → Int
  | 0 => b 19
  | n + 1 => if b (21 + 3 * n) ≤ x ∧ x ≤ b (22 + 3 * n) then b (23 + 3 * n) else sp_sr b x n
def sp_cz (b : Nat → Int) (x : Int) : Nat → Bool
  | 0 => false
  | n + 1 => decide (b (34 + 2 * n) ≤ x ∧ x ≤ b (35 + 2 * n)) || sp_cz b x n
def lastI (fr to : Nat → Int) (x : Int) : Nat → Int
  | 0 => -1
  | n + 1 => if fr n ≤ x ∧ x ≤ to n then (n : Int) else lastI fr to x n
theorem lastI_bd (fr to : Nat → Int) (x : Int) : ∀ n : Nat, lastI fr to x n = -1 ∨ (0 ≤ lastI fr to x n ∧ lastI fr to x n < n)
  | 0 => Or.inl rfl
  | n + 1 => by
    have := lastI_bd fr to x n
    rw [lastI]; split <;> omega
theorem lastI_sr (b : Nat → Int) (x : Int) : ∀ n : Nat, sp_sr b x n = if lastI (fun k => b (21 + 3 * k)) (fun k => b (22 + 3 * k)) x n = -1 then b 19 else b (23 + 3 * (lastI (fun k => b (21 + 3 * k)) (fun k => b (22 + 3 * k)) x n).toNat)
  | 0 => rfl
  | n + 1 => by
    rw [sp_sr, lastI]
    split
    · rw [if_neg (by omega), Int.toNat_natCast]
    · exact lastI_sr b x n
theorem lastI_cz (b : Nat → Int) (x : Int) : ∀ n : Nat, (lastI (fun k => b (34 + 2 * k)) (fun k => b (35 + 2 * k)) x n = -1) = (sp_cz b x n = false)
  | 0 => by simp [lastI, sp_cz]
  | n + 1 => by
    rw [sp_cz, lastI]
    split
    · rename_i e
      simp [e]
    · rename_i e
      rw [lastI_cz b x n]
      simp [e]
theorem c_lastWith {h : Hp} {P N : Nat} {x : Int} (hN : 10 < N) (fr to : Nat → Int) (sz : Nat) (hsz : h P 0 = sz) (h4 : sz ≤ 4) (hx : -100000 ≤ x ∧ x ≤ 100000)
    (hft : ∀ k, k < sz → h (P + 1) k = fr k ∧ h (P + 2) k = to k ∧ -1000 ≤ fr k ∧ fr k ≤ 1000 ∧ -1000 ≤ to k ∧ to k ≤ 1000) : M_Spans_lastWith N h P x = some (lastI fr to x sz) := by
  have key : ∀ n k : Nat, k ≤ sz → k < n → Spans_lastWith_L7 N h P x n ((k : Int) - 1) = some (lastI fr to x k) := by
    intro n
    induction n with
    | zero => intro k _ h; omega
    | succ n ih =>
      intro k hk hn
      rw [Spans_lastWith_L7]
      cases k with
      | zero => simp (disch := omega) only [leb_iff, ltb_iff, eqb_iff, pu_rmP, pu_dvP, pu_bs, pu_b0, pu_b1, pu_c0, pu_c1, pu_lt, pu_rdN, pu_wrN, hs_at, hs_cell, hs_slot, if_true, if_false, true_and, and_true, pu_rd, pu_wr, Int.reduceToNat, Int.toNat_natCast, decide_eq_true_eq, Int.add_zero, Bool.false_eq_true, if_pos, if_neg, lastI, Int.natCast_zero]
      | succ k =>
        have := hft k (by omega)
        have e1 : ((k + 1 : Nat) : Int) - 1 = k := by omega
        have e2 : (k : Int) + -1 = (k : Int) - 1 := by omega
        rw [e1, lastI]
        simp (disch := omega) only [leb_iff, ltb_iff, eqb_iff, pu_rmP, pu_dvP, pu_bs, pu_b0, pu_b1, pu_c0, pu_c1, pu_lt, pu_rdN, pu_wrN, hs_at, hs_cell, hs_slot, if_true, if_false, true_and, and_true, pu_rd, pu_wr, Int.reduceToNat, Int.toNat_natCast, decide_eq_true_eq, Int.add_zero, Bool.false_eq_true, this.1, this.2.1, e2]
        rw [if_neg (by omega), ih k (by omega) (by omega)]
        by_cases c1 : x < fr k
        · simp (disch := omega) only [leb_iff, ltb_iff, eqb_iff, pu_rmP, pu_dvP, pu_bs, pu_b0, pu_b1, pu_c0, pu_c1, pu_lt, pu_rdN, pu_wrN, hs_at, hs_cell, hs_slot, if_true, if_false, true_and, and_true, pu_rd, pu_wr, Int.reduceToNat, Int.toNat_natCast, decide_eq_true_eq, Int.add_zero, Bool.false_eq_true, if_pos, if_neg]
        · by_cases c2 : to k < x
          · simp (disch := omega) only [leb_iff, ltb_iff, eqb_iff, pu_rmP, pu_dvP, pu_bs, pu_b0, pu_b1, pu_c0, pu_c1, pu_lt, pu_rdN, pu_wrN, hs_at, hs_cell, hs_slot, if_true, if_false, true_and, and_true, pu_rd, pu_wr, Int.reduceToNat, Int.toNat_natCast, decide_eq_true_eq, Int.add_zero, Bool.false_eq_true, if_pos, if_neg]
          · simp (disch := omega) only [leb_iff, ltb_iff, eqb_iff, pu_rmP, pu_dvP, pu_bs, pu_b0, pu_b1, pu_c0, pu_c1, pu_lt, pu_rdN, pu_wrN, hs_at, hs_cell, hs_slot, if_true, if_false, true_and, and_true, pu_rd, pu_wr, Int.reduceToNat, Int.toNat_natCast, decide_eq_true_eq, Int.add_zero, Bool.false_eq_true, if_pos, if_neg]
  unfold M_Spans_lastWith
  rw [hsz]
  exact key N sz (by omega) (by omega)
def cz (b : Nat → Int) (x : Int) : Bool := sp_cz b x (b 33).toNat
def sr (b : Nat → Int) (x : Int) : Int := sp_sr b x (b 20).toNat
theorem sr_bd {b : Nat → Int} (ok : OkB b) (x : Int) : 0 ≤ sr b x ∧ sr b x ≤ 9 := by
  have key : ∀ n : Nat, (n : Int) ≤ b 20 → 0 ≤ sp_sr b x n ∧ sp_sr b x n ≤ 9 := by
    intro n
    induction n with
    | zero => intro _; exact ok.rst
    | succ n ih =>
      intro hn
      have h1 := ok.sea n (by omega)
      have h2 := ih (by omega)
      rw [sp_sr]; split
      · exact h1.2.2.2
      · exact h2
  have := ok.nse
  exact key _ (by omega)
section Sp
variable {b : Nat → Int} {h : Hp} {B N : Nat}
theorem c_closed (hN : 10 < N) (ok : OkB b) (cb : CB b h B) {x : Int} (hx : -100000 ≤ x ∧ x ≤ 100000) : ∃ r, M_Spans_lastWith N h (B + 6) x = some r ∧ -1 ≤ r ∧ r ≤ 4 ∧ (r = -1 ↔ cz b x = false) := by
  have h1 := ok.ncl
  have h2 := c_lastWith (h := h) (P := B + 6) hN (fun k => b (34 + 2 * k)) (fun k => b (35 + 2 * k)) (b 33).toNat (by rw [cb.ncl]; omega) (by omega) hx (fun k hk => by
    have h3 := cb.clo k (by omega)
    have h4 := ok.clo k (by omega)
    exact ⟨h3.1, h3.2, by omega, by omega, by omega, by omega⟩)
  have h5 := lastI_bd (fun k => b (34 + 2 * k)) (fun k => b (35 + 2 * k)) x (b 33).toNat
  have h6 := lastI_cz b x (b 33).toNat
  exact ⟨_, h2, by omega, by omega, by rw [h6]; exact Iff.rfl⟩
theorem c_sundayClaim (hN : 10 < N) (ok : OkB b) (cb : CB b h B) {x : Int} (hx : -100000 ≤ x ∧ x ≤ 100000) : M_Book_sundayClaim N h B x = some (sr b x * 160 + 96) := by
  have h1 := ok.nse
  have h2 := c_lastWith (h := h) (P := B + 2) hN (fun k => b (21 + 3 * k)) (fun k => b (22 + 3 * k)) (b 20).toNat (by rw [cb.nse]; omega) (by omega) hx (fun k hk => by
    have h3 := cb.sea k (by omega)
    have h4 := ok.sea k (by omega)
    exact ⟨h3.1, h3.2.1, by omega, by omega, by omega, by omega⟩)
  have h5 := lastI_bd (fun k => b (21 + 3 * k)) (fun k => b (22 + 3 * k)) x (b 20).toNat
  have h6 := lastI_sr b x (b 20).toNat
  unfold M_Book_sundayClaim M_Cl_sunday sr
  rw [h2, Option.bind_some, h6]
  generalize lastI (fun k => b (21 + 3 * k)) (fun k => b (22 + 3 * k)) x (b 20).toNat = r at *
  by_cases e : r = -1
  · simp (disch := omega) only [leb_iff, ltb_iff, eqb_iff, pu_rmP, pu_dvP, pu_bs, pu_b0, pu_b1, pu_c0, pu_c1, pu_lt, pu_rdN, pu_wrN, hs_at, hs_cell, hs_slot, if_true, if_false, true_and, and_true, pu_rd, pu_wr, Int.reduceToNat, Int.toNat_natCast, decide_eq_true_eq, Int.add_zero, Bool.false_eq_true, if_pos, if_neg, cb.rst]
  · have h7 := cb.sea r.toNat (by omega)
    simp (disch := omega) only [leb_iff, ltb_iff, eqb_iff, pu_rmP, pu_dvP, pu_bs, pu_b0, pu_b1, pu_c0, pu_c1, pu_lt, pu_rdN, pu_wrN, hs_at, hs_cell, hs_slot, if_true, if_false, true_and, and_true, pu_rd, pu_wr, Int.reduceToNat, Int.toNat_natCast, decide_eq_true_eq, Int.add_zero, Bool.false_eq_true, if_pos, if_neg, h7.2.2]
theorem c_weekdayFrom (ok : OkB b) (cb : CB b h B) {p d : Int} (hp : -100000 ≤ p ∧ p ≤ 100000) (hd : -100000 ≤ d ∧ d ≤ 100000) : M_Book_weekdayFrom h B p d = some ((d - p) % b 0) := by
  have hw := ok.week
  unfold M_Book_weekdayFrom
  rw [cb.week, pu_mx (by omega) (by omega) (by omega) (by omega), show max (b 0) 1 = b 0 by omega, pu_fm (by omega) (by omega) (by omega) (by omega), Option.bind_some]
end Sp
section SpM
variable {h : Hp} {N : Nat}
theorem m_sundayRank (hN : 10 < N) (ok : OkB (h 84)) {d : Int} (hd : -10000 ≤ d ∧ d ≤ 10000) (hp : -10000 ≤ h 83 15 ∧ h 83 15 ≤ 10000) : M_Md_sundayRank N h d = some (sr (h 84) (d - h 83 15)) := by
  have hs := ok.nse
  unfold M_Md_sundayRank sr
  rw [pu_rd (by omega) (by omega), Option.bind_some]
  exact lp_fold (fun n k a => Md_sundayRank_L10 N h d n a k) (sp_sr (h 84) (d - h 83 15)) (sp_sr (h 84) (d - h 83 15) (h 84 20).toNat) (h 84 20).toNat
    (fun n k hk => by
      (try dsimp only)
      have := ok.sea k (by omega)
      rw [Md_sundayRank_L10, sp_sr]
      rw [pu_rd (c := 84) (i := 20) (by omega) (by omega), Option.bind_some, pu_rd (i := 21 + 3 * (k : Int)) (by omega) (by omega), Option.bind_some, pu_rd (i := 21 + 3 * (k : Int) + 1) (by omega) (by omega), Option.bind_some, pu_rd (i := 21 + 3 * (k : Int) + 2) (by omega) (by omega)]
      rw [show (21 + 3 * (k : Int)).toNat = 21 + 3 * k by omega, show (21 + 3 * (k : Int) + 1).toNat = 22 + 3 * k by omega, show (21 + 3 * (k : Int) + 2).toNat = 23 + 3 * k by omega]
      rw [m_isIn (by omega) (by omega) (by omega) (by omega) (by omega) (by omega)]
      by_cases e : h 84 (21 + 3 * k) ≤ d - h 83 15 ∧ d - h 83 15 ≤ h 84 (22 + 3 * k)
      · simp (disch := omega) only [leb_iff, ltb_iff, eqb_iff, pu_rmP, pu_dvP, pu_bs, pu_b0, pu_b1, pu_c0, pu_c1, pu_lt, pu_rdN, pu_wrN, hs_at, hs_cell, hs_slot, if_true, if_false, true_and, and_true, pu_rd, pu_wr, Int.reduceToNat, Int.toNat_natCast, decide_eq_true_eq, Int.add_zero, Bool.false_eq_true, if_pos, if_neg]
      · simp (disch := omega) only [leb_iff, ltb_iff, eqb_iff, pu_rmP, pu_dvP, pu_bs, pu_b0, pu_b1, pu_c0, pu_c1, pu_lt, pu_rdN, pu_wrN, hs_at, hs_cell, hs_slot, if_true, if_false, true_and, and_true, pu_rd, pu_wr, Int.reduceToNat, Int.toNat_natCast, decide_eq_true_eq, Int.add_zero, Bool.false_eq_true, if_pos, if_neg])
    (fun n => by
      (try dsimp only)
      rw [Md_sundayRank_L10]
      simp (disch := omega) only [leb_iff, ltb_iff, eqb_iff, pu_rmP, pu_dvP, pu_bs, pu_b0, pu_b1, pu_c0, pu_c1, pu_lt, pu_rdN, pu_wrN, hs_at, hs_cell, hs_slot, if_true, if_false, true_and, and_true, pu_rd, pu_wr, Int.reduceToNat, Int.toNat_natCast, decide_eq_true_eq, Int.add_zero, Bool.false_eq_true, if_pos, if_neg]) N 0 (by omega) (by omega)
theorem m_isClosed (hN : 10 < N) (ok : OkB (h 84)) {d : Int} (hd : -10000 ≤ d ∧ d ≤ 10000) (hp : -10000 ≤ h 83 15 ∧ h 83 15 ≤ 10000) : M_Md_isClosed N h d = some (if cz (h 84) (d - h 83 15) then 1 else 0) := by
  have hs := ok.ncl
  unfold M_Md_isClosed
  have key : ∀ k : Nat, sp_cz (h 84) (d - h 83 15) (k + 1) = true → (k : Int) < h 84 33 → cz (h 84) (d - h 83 15) = true := by
    intro k hk hlt
    have : ∀ j : Nat, k + 1 ≤ j → sp_cz (h 84) (d - h 83 15) j = true := by
      intro j hj
      induction j with
      | zero => omega
      | succ j ih =>
        by_cases e : k + 1 = j + 1
        · rw [← e]; exact hk
        · rw [sp_cz, ih (by omega)]; simp
    exact this _ (by omega)
  have := lp_inv (fun n k (_ : Unit) => Md_isClosed_L2 N h d n k) (fun k _ => sp_cz (h 84) (d - h 83 15) k = false) (fun r => r = if cz (h 84) (d - h 83 15) then 1 else 0) (h 84 33).toNat
    (fun n k _ hk hc => by
      (try dsimp only)
      have := ok.clo k (by omega)
      have hkk := key k
      rw [sp_cz] at hkk
      rw [Md_isClosed_L2]
      rw [pu_rd (c := 84) (i := 33) (by omega) (by omega), Option.bind_some, pu_rd (i := 34 + 2 * (k : Int)) (by omega) (by omega), Option.bind_some, pu_rd (i := 34 + 2 * (k : Int) + 1) (by omega) (by omega), Option.bind_some]
      rw [show (34 + 2 * (k : Int)).toNat = 34 + 2 * k by omega, show (34 + 2 * (k : Int) + 1).toNat = 35 + 2 * k by omega]
      rw [m_isIn (by omega) (by omega) (by omega) (by omega) (by omega) (by omega)]
      by_cases e : h 84 (34 + 2 * k) ≤ d - h 83 15 ∧ d - h 83 15 ≤ h 84 (35 + 2 * k)
      · refine Or.inr ⟨1, ?_, ?_⟩
        · simp (disch := omega) only [leb_iff, ltb_iff, eqb_iff, pu_rmP, pu_dvP, pu_bs, pu_b0, pu_b1, pu_c0, pu_c1, pu_lt, pu_rdN, pu_wrN, hs_at, hs_cell, hs_slot, if_true, if_false, true_and, and_true, pu_rd, pu_wr, Int.reduceToNat, Int.toNat_natCast, decide_eq_true_eq, Int.add_zero, Bool.false_eq_true, if_pos, if_neg]
        · rw [hkk (by simp [e]) (by omega)]; rfl
      · refine Or.inl ⟨(), ?_, ?_⟩
        · rw [sp_cz, hc]; simp [e]
        · simp (disch := omega) only [leb_iff, ltb_iff, eqb_iff, pu_rmP, pu_dvP, pu_bs, pu_b0, pu_b1, pu_c0, pu_c1, pu_lt, pu_rdN, pu_wrN, hs_at, hs_cell, hs_slot, if_true, if_false, true_and, and_true, pu_rd, pu_wr, Int.reduceToNat, Int.toNat_natCast, decide_eq_true_eq, Int.add_zero, Bool.false_eq_true, if_pos, if_neg])
    (fun n _ hc => by
      refine ⟨0, ?_, ?_⟩
      · (try dsimp only)
        rw [Md_isClosed_L2]
        simp (disch := omega) only [leb_iff, ltb_iff, eqb_iff, pu_rmP, pu_dvP, pu_bs, pu_b0, pu_b1, pu_c0, pu_c1, pu_lt, pu_rdN, pu_wrN, hs_at, hs_cell, hs_slot, if_true, if_false, true_and, and_true, pu_rd, pu_wr, Int.reduceToNat, Int.toNat_natCast, decide_eq_true_eq, Int.add_zero, Bool.false_eq_true, if_pos, if_neg]
      · unfold cz; rw [hc]; rfl) N 0 () (by omega) (by omega) rfl
  obtain ⟨r, h1, h2⟩ := this
  rw [← h2]; exact h1
theorem m_of0 {f w : Nat} (hf : f < 12) (hw : w < 7) : M_Md_of0 h f w = some (fq (h 84) f w) := by
  unfold M_Md_of0 fq
  rw [pu_rd (by omega) (by omega), Option.bind_some, show (43 + 7 * (f : Int) + (w : Int)).toNat = 43 + 7 * f + w by omega]
theorem m_of00 {f : Nat} (hf : f < 12) : M_Md_of0 h f 0 = some (fq (h 84) f 0) := m_of0 (w := 0) hf (by omega)
theorem m_of01 {f : Nat} (hf : f < 12) : M_Md_of0 h f 1 = some (fq (h 84) f 1) := m_of0 (w := 1) hf (by omega)
theorem m_of02 {f : Nat} (hf : f < 12) : M_Md_of0 h f 2 = some (fq (h 84) f 2) := m_of0 (w := 2) hf (by omega)
theorem m_of03 {f : Nat} (hf : f < 12) : M_Md_of0 h f 3 = some (fq (h 84) f 3) := m_of0 (w := 3) hf (by omega)
theorem m_of04 {f : Nat} (hf : f < 12) : M_Md_of0 h f 4 = some (fq (h 84) f 4) := m_of0 (w := 4) hf (by omega)
theorem m_of05 {f : Nat} (hf : f < 12) : M_Md_of0 h f 5 = some (fq (h 84) f 5) := m_of0 (w := 5) hf (by omega)
theorem m_of06 {f : Nat} (hf : f < 12) : M_Md_of0 h f 6 = some (fq (h 84) f 6) := m_of0 (w := 6) hf (by omega)
end SpM
def kcl (b : Nat → Int) (f : Nat) (r k : Int) : Int := r * 160 + k * 32 + fq b f 1 * 16 + 15 - f
theorem cl_eq (b : Nat → Int) (f : Nat) : cl b f = kcl b f (fq b f 0) 4 := by unfold cl kcl; omega
theorem c_kindIn {a : Int} (h0 : 0 ≤ a) (h1 : a < 10000) : M_Cl_kindIn a = some (a / 32 % 5) := by
  unfold M_Cl_kindIn
  simp (disch := omega) only [leb_iff, ltb_iff, eqb_iff, pu_rmP, pu_dvP, pu_bs, pu_b0, pu_b1, pu_c0, pu_c1, pu_lt, pu_rdN, pu_wrN, hs_at, hs_cell, hs_slot, if_true, if_false, true_and, and_true, pu_rd, pu_wr, Int.reduceToNat, Int.toNat_natCast, decide_eq_true_eq, Int.add_zero, Bool.false_eq_true, if_pos, if_neg]
theorem c_rankIn {a : Int} (h0 : 0 ≤ a) (h1 : a < 10000) : M_Cl_rankIn a = some (a / 160) := by
  unfold M_Cl_rankIn
  simp (disch := omega) only [leb_iff, ltb_iff, eqb_iff, pu_rmP, pu_dvP, pu_bs, pu_b0, pu_b1, pu_c0, pu_c1, pu_lt, pu_rdN, pu_wrN, hs_at, hs_cell, hs_slot, if_true, if_false, true_and, and_true, pu_rd, pu_wr, Int.reduceToNat, Int.toNat_natCast, decide_eq_true_eq, Int.add_zero, Bool.false_eq_true, if_pos, if_neg]
theorem mv01 {b : Nat → Int} {f : Nat} (ok : okF b f) : fq b f 1 = 0 ∨ fq b f 1 = 1 := by
  rcases ok.2.1 with e | e
  · exact Or.inr e.1
  · exact Or.inl e.1
theorem kcl_bd {b : Nat → Int} {f : Nat} (ok : okF b f) (hf : f < 12) {r k : Int} : r * 160 + k * 32 + 4 ≤ kcl b f r k ∧ kcl b f r k ≤ r * 160 + k * 32 + 31 := by
  have := mv01 ok
  unfold kcl
  omega
theorem cl_bd {b : Nat → Int} {f : Nat} (ok : okF b f) (hf : f < 12) : fq b f 0 * 160 + 132 ≤ cl b f ∧ cl b f ≤ fq b f 0 * 160 + 159 := by
  have := kcl_bd ok hf (r := fq b f 0) (k := 4)
  rw [cl_eq]
  omega
theorem cl_inj {b : Nat → Int} {f g : Nat} (of : okF b f) (og : okF b g) (hf : f < 12) (hg : g < 12) (e : cl b f = cl b g) : f = g := by
  have := mv01 of
  have := mv01 og
  unfold cl at e
  omega
theorem cb_fea {b : Nat → Int} {h : Hp} (cb : CB b h 23) {f : Nat} (hf : (f : Int) < b 42) : h 34 f = fq b f 0 ∧ h 35 f = fq b f 2 ∧ h 36 f = fq b f 3 ∧ h 37 f = fq b f 4 ∧ h 38 f = fq b f 5 ∧ h 39 f = fq b f 6 := cb.fea f hf
theorem cb_many {b : Nat → Int} {h : Hp} (cb : CB b h 23) : h 33 0 = b 42 := cb.many
theorem cb_clm {b : Nat → Int} {h : Hp} (cb : CB b h 23) {f : Nat} (hf : (f : Int) < b 42) : h 40 f = cl b f := cb.clm f hf
section Fe
variable {b : Nat → Int} {h : Hp}
theorem c_isMoving (ok : OkB b) (cb : CB b h 23) {f : Nat} (hf : (f : Int) < b 42) : M_Feasts_isMoving h 33 f = some (fq b f 1) := by
  have hm := ok.many
  have h1 := (cb_fea cb hf).2.1
  unfold M_Feasts_isMoving
  rw [pu_rdN (by omega), Option.bind_some, show h (33 + 2) f = fq b f 2 from h1]
  have hb := ok.mon
  rcases (ok.fea f hf).2.1 with e | e
  · rw [e.1, e.2.1]; rfl
  · rw [e.1]
    simp (disch := omega) only [leb_iff, ltb_iff, eqb_iff, pu_rmP, pu_dvP, pu_bs, pu_b0, pu_b1, pu_c0, pu_c1, pu_lt, pu_rdN, pu_wrN, hs_at, hs_cell, hs_slot, if_true, if_false, true_and, and_true, pu_rd, pu_wr, Int.reduceToNat, Int.toNat_natCast, decide_eq_true_eq, Int.add_zero, Bool.false_eq_true, if_pos, if_neg]
theorem c_ofFeast {r k m f : Int} (hm : m = 0 ∨ m = 1) : M_Cl_ofFeast r k m f = some (r * 160 + k * 32 + m * 16 + 15 - f) := by
  unfold M_Cl_ofFeast
  rcases hm with e | e <;> subst e <;> simp (disch := omega) only [leb_iff, ltb_iff, eqb_iff, pu_rmP, pu_dvP, pu_bs, pu_b0, pu_b1, pu_c0, pu_c1, pu_lt, pu_rdN, pu_wrN, hs_at, hs_cell, hs_slot, if_true, if_false, true_and, and_true, pu_rd, pu_wr, Int.reduceToNat, Int.toNat_natCast, decide_eq_true_eq, Int.add_zero, Bool.false_eq_true, if_pos, if_neg] <;> congr 1 <;> omega
theorem c_claimWith (ok : OkB b) (cb : CB b h 23) {f : Nat} (hf : (f : Int) < b 42) {r : Int} : M_Feasts_claimWith h 33 f r = some (kcl b f r 4) := by
  unfold M_Feasts_claimWith
  rw [c_isMoving ok cb hf, Option.bind_some, c_ofFeast (mv01 (ok.fea f hf)), Option.bind_some]
  unfold kcl; congr 1
theorem c_vigilClaim (ok : OkB b) (cb : CB b h 23) {f : Nat} (hf : (f : Int) < b 42) : M_Feasts_vigilClaim h 33 f = some (kcl b f (fq b f 5) 1) := by
  have hm := ok.many
  unfold M_Feasts_vigilClaim
  rw [pu_rdN (by omega), Option.bind_some, c_isMoving ok cb hf, Option.bind_some, c_ofFeast (mv01 (ok.fea f hf)), Option.bind_some, show h (33 + 5) f = fq b f 5 from (cb_fea cb hf).2.2.2.2.1]
  unfold kcl; congr 1
theorem c_octaveClaim (ok : OkB b) (cb : CB b h 23) {f : Nat} (hf : (f : Int) < b 42) : M_Feasts_octaveClaim h 33 f = some (kcl b f (fq b f 6) 2) := by
  have hm := ok.many
  unfold M_Feasts_octaveClaim
  rw [pu_rdN (by omega), Option.bind_some, c_isMoving ok cb hf, Option.bind_some, c_ofFeast (mv01 (ok.fea f hf)), Option.bind_some, show h (33 + 6) f = fq b f 6 from (cb_fea cb hf).2.2.2.2.2]
  unfold kcl; congr 1
end Fe
