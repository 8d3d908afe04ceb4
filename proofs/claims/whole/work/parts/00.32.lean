section Cal
variable {b : Nat → Int} {h : Hp} {B : Nat}
theorem c_isLeap (ok : OkB b) (cb : CB b h B) {y : Int} (h0 : 0 ≤ y) (h1 : y ≤ 20000) : M_Book_isLeap h B y = some (lp b y) := by
  unfold M_Book_isLeap lp isL
  rw [cb.leap]
  rcases ok.leap with e | e
  · rw [e]; rfl
  · simp (disch := omega) only [leb_iff, pu_rmP, Option.bind_some, pu_b0, pu_b1]
    rw [if_neg (by omega)]
    have := Int.emod_nonneg y (show b 10 ≠ 0 by omega)
    have := Int.emod_lt_of_pos y (show 0 < b 10 by omega)
    simp (disch := omega) only [eqb_iff]
    by_cases hz : y % b 10 = 0
    · rw [if_pos hz, if_pos (by simp [hz]; omega)]
    · rw [if_neg hz, if_neg (by simp [hz])]
theorem lp01 (b : Nat → Int) (y : Int) : lp b y = 0 ∨ lp b y = 1 := by unfold lp; split <;> simp
theorem c_daysOf (ok : OkB b) (cb : CB b h B) {y : Int} (h0 : 0 ≤ y) (h1 : y ≤ 20000) : M_Book_daysOf h B y = some (yd b + lp b y) := by
  unfold M_Book_daysOf
  rw [c_isLeap ok cb h0 h1, Option.bind_some, cb.yday]
  rcases lp01 b y with e | e <;> rw [e] <;> simp (disch := omega) only [eqb_iff] <;> simp
theorem ahd_le (ok : OkB b) {y : Int} (h0 : 0 ≤ y) (h1 : y ≤ 20000) : 0 ≤ ahd b y ∧ ahd b y ≤ 4990000 := by
  have hy := yd_le ok
  have k1 : 0 ≤ y * yd b := Int.mul_nonneg h0 (by omega)
  have k2 : y * yd b ≤ 20000 * 248 := Int.mul_le_mul h1 hy.2 (by omega) (by omega)
  unfold ahd
  split
  · rename_i hl
    have := ok.leap
    have k3 : (y + b 10 - 1) / b 10 ≤ y + b 10 - 1 := Int.ediv_le_self _ (by omega)
    have k4 : 0 ≤ (y + b 10 - 1) / b 10 := Int.ediv_nonneg (by omega) (by omega)
    omega
  · omega
theorem c_daysAhead (ok : OkB b) (cb : CB b h B) {y : Int} (h0 : 0 ≤ y) (h1 : y ≤ 20000) : M_Book_daysAhead h B y = some (ahd b y) := by
  unfold M_Book_daysAhead ahd
  rw [cb.leap, cb.yday]
  rcases ok.leap with e | e
  · rw [e]; rfl
  · simp (disch := omega) only [leb_iff, pu_dvP, Option.bind_some]
    rw [if_neg (by omega), if_pos (by omega)]
theorem c_left {a c : Int} (h0 : 0 ≤ a) (h1 : a < 2147483648) (h2 : 0 < c) (h3 : c < 2147483648) : M_Su_left a c = some (a % c) := by
  unfold M_Su_left
  simp (disch := omega) only [leb_iff, pu_rmP, Option.bind_some]
  rw [if_neg (by omega)]
theorem wdy_le (ok : OkB b) (y : Int) : 0 ≤ wdy b y ∧ wdy b y < b 0 := by
  have := ok.week
  exact ⟨Int.emod_nonneg _ (by omega), Int.emod_lt_of_pos _ (by omega)⟩
theorem c_firstWeekday (ok : OkB b) (cb : CB b h B) {y : Int} (h0 : 0 ≤ y) (h1 : y ≤ 20000) : M_Book_firstWeekday h B y = some (wdy b y) := by
  unfold M_Book_firstWeekday
  have := ahd_le ok h0 h1
  have := ok.week
  rw [c_daysAhead ok cb h0 h1, Option.bind_some, cb.week, c_left (by omega) (by omega) (by omega) (by omega), Option.bind_some]
  rfl
theorem ful_le (ok : OkB b) {y : Int} (h0 : 0 ≤ y) : b 13 ≤ ful b y ∧ ful b y < b 13 + b 15 := by
  have := ok.cyc
  have := ok.stp
  have := ok.spn
  have k1 : 0 ≤ b 14 * (y % b 12) % b 15 := Int.emod_nonneg _ (by omega)
  have k2 : b 14 * (y % b 12) % b 15 < b 15 := Int.emod_lt_of_pos _ (by omega)
  unfold ful
  omega
theorem c_fullOf (ok : OkB b) (cb : CB b h B) {y : Int} (h0 : 0 ≤ y) (h1 : y ≤ 20000) : M_Book_fullOf h B y = some (ful b y) := by
  unfold M_Book_fullOf
  have := ok.cyc
  have hs := ok.stp
  have := ok.spn
  have k1 : 0 ≤ y % b 12 := Int.emod_nonneg _ (by omega)
  have k2 : y % b 12 < b 12 := Int.emod_lt_of_pos _ (by omega)
  have k3 : 0 ≤ b 14 * (y % b 12) := Int.mul_nonneg hs.1 k1
  have k4 : b 14 * (y % b 12) ≤ 30 * 19 := Int.mul_le_mul hs.2 (by omega) k1 (by omega)
  rw [cb.cyc, cb.stp, cb.spn, cb.fst, c_left h0 (by omega) (by omega) (by omega), Option.bind_some, c_left k3 (by omega) (by omega) (by omega), Option.bind_some]
  rfl
theorem psc_le (ok : OkB b) {y : Int} (h0 : 0 ≤ y) : b 13 + 1 ≤ psc b y ∧ psc b y < b 13 + b 15 + b 0 := by
  have := ful_le ok h0
  have := ok.week
  have k1 : 0 ≤ (wdy b y + ful b y) % b 0 := Int.emod_nonneg _ (by omega)
  have k2 : (wdy b y + ful b y) % b 0 < b 0 := Int.emod_lt_of_pos _ (by omega)
  unfold psc
  omega
theorem c_paschOf (ok : OkB b) (cb : CB b h B) {y : Int} (h0 : 0 ≤ y) (h1 : y ≤ 20000) : M_Book_paschOf h B y = some (psc b y) := by
  unfold M_Book_paschOf
  have := ful_le ok h0
  have := wdy_le ok y
  have := ok.week
  have := ok.fst
  have := ok.spn
  rw [c_fullOf ok cb h0 h1, Option.bind_some, c_firstWeekday ok cb h0 h1, Option.bind_some, cb.week, c_left (by omega) (by omega) (by omega) (by omega), Option.bind_some]
  rfl
def srt (b : Nat → Int) (y : Int) : Int := psc b y - b 13 - 1 + 40 * lp b y
theorem c_sortOf (ok : OkB b) (cb : CB b h B) {y : Int} (h0 : 0 ≤ y) (h1 : y ≤ 20000) : M_Book_sortOf h B y = some (srt b y) := by
  unfold M_Book_sortOf srt
  have := psc_le ok h0
  have := ok.week
  have := ok.fst
  have := ok.spn
  rw [c_paschOf ok cb h0 h1, Option.bind_some, cb.fst, pu_fm (by omega) (by omega) (by omega) (by omega), Option.bind_some, c_isLeap ok cb h0 h1, Option.bind_some]
  rw [Int.emod_eq_of_lt (by omega) (by omega)]
  rcases lp01 b y with e | e <;> rw [e] <;> simp (disch := omega) only [eqb_iff] <;> simp
end Cal
