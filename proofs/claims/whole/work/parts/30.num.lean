/-! ===== numbers and sets of bits ===== -/
/-- the set of those below n of which f says so -/
def bs : Nat → (Nat → Bool) → Nat
  | 0, _ => 0
  | n + 1, f => bs n f + (if f n then 2 ^ n else 0)
theorem bs_lt (f : Nat → Bool) : ∀ n, bs n f < 2 ^ n
  | 0 => by simp [bs]
  | n + 1 => by
    have h := bs_lt f n
    have e : 2 ^ (n + 1) = 2 ^ n + 2 ^ n := by rw [Nat.pow_succ]; omega
    simp only [bs]
    split <;> omega
theorem bs_tb (f : Nat → Bool) : ∀ n j, (bs n f).testBit j = (decide (j < n) && f j)
  | 0, j => by simp [bs]
  | n + 1, j => by
    have h := bs_tb f n j
    have hl := bs_lt f n
    simp only [bs]
    by_cases hf : f n = true
    · rw [if_pos hf, Nat.add_comm]
      by_cases hj : j = n
      · subst hj
        rw [Nat.testBit_two_pow_add_eq, Nat.testBit_lt_two_pow hl]
        simp [hf]
      · by_cases hlt : j < n
        · rw [Nat.testBit_two_pow_add_gt hlt, h]
          simp [hlt, Nat.lt_succ_of_lt hlt]
        · have h1 : n < j := by omega
          have h2 : 2 ^ n + bs n f < 2 ^ j := Nat.lt_of_lt_of_le (by have e : 2 ^ (n + 1) = 2 ^ n + 2 ^ n := by rw [Nat.pow_succ]; omega
                                                                     omega) (Nat.pow_le_pow_right (by decide) h1)
          rw [Nat.testBit_lt_two_pow h2]
          simp; omega
    · rw [if_neg hf, Nat.add_zero, h]
      by_cases hj : j = n
      · subst hj
        simp [hf]
      · by_cases hlt : j < n
        · simp [hlt, Nat.lt_succ_of_lt hlt]
        · simp [hlt]; omega
theorem bs_congr {f g : Nat → Bool} {n : Nat} (h : ∀ j, j < n → f j = g j) : bs n f = bs n g := by
  induction n with
  | zero => rfl
  | succ n ih =>
    simp only [bs]
    rw [ih (fun j hj => h j (by omega)), h n (by omega)]
theorem nI_or (a b : Nat) : nI a ||| nI b = nI (a ||| b) := by
  unfold nI
  apply Int32.toBitVec_inj.mp
  rw [Int32.toBitVec_or]
  exact (BitVec.ofNat_or ..).symm
theorem nI_and (a b : Nat) : nI a &&& nI b = nI (a &&& b) := by
  unfold nI
  apply Int32.toBitVec_inj.mp
  rw [Int32.toBitVec_and]
  exact (BitVec.ofNat_and ..).symm
theorem nI_31 {k : Nat} (h : k < 32) : nI k &&& 31 = nI k := by
  rw [show (31 : Int32) = nI 31 from rfl, nI_and, show (31 : Nat) = 2 ^ 5 - 1 from rfl, Nat.and_two_pow_sub_one_eq_mod, Nat.mod_eq_of_lt h]
theorem nI_smod {k : Nat} (h : k < 32) : ((nI k).toBitVec.smod 32).toNat = k := by
  have : ∀ k, k < 32 → ((nI k).toBitVec.smod 32).toNat = k := by decide +kernel
  exact this k h
theorem nI_shl {n k : Nat} (hk : k < 32) (h : n * 2 ^ k < 2 ^ 32) : nI n <<< (nI k &&& 31) = nI (n * 2 ^ k) := by
  rw [nI_31 hk]
  exact pk_shlN _ k (nI_smod hk) h
theorem nI_shr {n k : Nat} (hk : k < 32) (h : n < 2 ^ 31) : nI n >>> (nI k &&& 31) = nI (n / 2 ^ k) := by
  rw [nI_31 hk]
  exact pk_shrN h _ k (nI_smod hk)
theorem nI_bit {n k : Nat} (hk : k < 32) (h : n < 2 ^ 31) : (nI n >>> (nI k &&& 31)) &&& (1 : Int32) = nI ((n.testBit k).toNat) := by
  rw [nI_shr hk h, show (1 : Int32) = nI 1 from rfl, nI_and, show (1 : Nat) = 2 ^ 1 - 1 from rfl, Nat.and_two_pow_sub_one_eq_mod, Nat.testBit_eq_decide_div_mod_eq]
  congr 1
  have := Nat.mod_two_eq_zero_or_one (n / 2 ^ k)
  rcases this with h | h <;> simp [h]
/-- one more pane in the set -/
theorem bs_step {f : Nat → Bool} {k : Nat} (hk : k < 31) : nI (bs k f) ||| (if f k then (1 : Int32) <<< (nI k &&& 31) else 0) = nI (bs (k + 1) f) := by
  have hl := bs_lt f k
  simp only [bs]
  by_cases h : f k = true
  · rw [if_pos h, if_pos h, show (1 : Int32) = nI 1 from rfl, nI_shl (by omega) (by rw [Nat.one_mul]; exact Nat.pow_lt_pow_right (by decide) (by omega)), nI_or, Nat.one_mul]
    congr 1
    rw [Nat.or_comm, Nat.add_comm]
    have h2 := Nat.two_pow_add_eq_or_of_lt hl 1
    rw [Nat.mul_one] at h2
    exact h2.symm
  · rw [if_neg h, if_neg h, show (0 : Int32) = nI 0 from rfl, nI_or]
    simp
theorem bs_bit {f : Nat → Bool} {n k : Nat} (hn : n ≤ 31) (hk : k < n) : (nI (bs n f) >>> (nI k &&& 31)) &&& (1 : Int32) = nI (f k).toNat := by
  rw [nI_bit (by omega) (Nat.lt_of_lt_of_le (bs_lt f n) (Nat.pow_le_pow_right (by decide) hn)), bs_tb]
  simp [hk]
theorem nI_b0 (b : Bool) : (nI b.toNat = 0) = (b = false) := by cases b <;> decide
theorem nI_b1 (b : Bool) : (nI b.toNat = 1) = (b = true) := by cases b <;> decide
theorem nI_bz (b : Bool) : (if b = false then (0 : Int32) else 1) = nI b.toNat := by cases b <;> decide
