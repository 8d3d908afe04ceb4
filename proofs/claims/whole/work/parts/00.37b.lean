set_option maxRecDepth 100000 in
theorem bit_or : ∀ k, k < 12 → ∀ a, a < 2 ^ k → orI ((a : Nat) : Int) (shlI 1 ((k : Nat) : Int)) = ((a + 2 ^ k : Nat) : Int) := by decide +kernel
set_option maxRecDepth 100000 in
theorem bit_ct : ∀ k, k < 12 → ∀ a, a < 2 ^ k → M_JI_bitCount ((a + 2 ^ k : Nat) : Int) = (M_JI_bitCount ((a : Nat) : Int)).map (fun x => x + 1) := by decide +kernel
def bsm (q : Nat → Bool) : Nat → Nat
  | 0 => 0
  | n + 1 => if q n then bsm q n + 2 ^ n else bsm q n
theorem bsm_lt (q : Nat → Bool) : ∀ n, bsm q n < 2 ^ n
  | 0 => Nat.lt_succ_self 0
  | n + 1 => by
    have := bsm_lt q n
    rw [bsm, Nat.pow_succ]; split <;> omega
theorem bsm_or {q : Nat → Bool} {k : Nat} (hk : k < 12) : (if q k then orI (bsm q k) (shlI 1 (k : Int)) else (bsm q k : Int)) = bsm q (k + 1) := by
  rw [bsm]
  cases q k
  · simp
  · simp only [if_true]; exact bit_or k hk _ (bsm_lt q k)
theorem bsm_ct (q : Nat → Bool) : ∀ n, n ≤ 12 → M_JI_bitCount (bsm q n) = some (cnt q n)
  | 0, _ => show M_JI_bitCount ((0 : Nat) : Int) = some 0 by decide +kernel
  | n + 1, h => by
    have := bsm_ct q n (by omega)
    rw [cnt_succ, bsm]
    cases q n
    · simp [this]
    · simp only [if_true]
      rw [bit_ct n (by omega) _ (bsm_lt q n), this]; rfl
theorem bsm_congr {q q' : Nat → Bool} : ∀ {n : Nat}, (∀ k, k < n → q k = q' k) → bsm q n = bsm q' n
  | 0, _ => rfl
  | n + 1, h => by rw [bsm, bsm, bsm_congr (fun k hk => h k (by omega)), h n (by omega)]
theorem bsm_bd {q : Nat → Bool} {n : Nat} (h : n ≤ 12) : bsm q n < 4096 := by
  have h1 := bsm_lt q n
  have h2 : (2 : Nat) ^ n ≤ 2 ^ 12 := Nat.pow_le_pow_right (by omega) h
  have h3 : (2 : Nat) ^ 12 = 4096 := rfl
  omega
