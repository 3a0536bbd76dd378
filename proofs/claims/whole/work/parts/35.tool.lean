/-! ===== tools ===== -/
theorem j_0 : (0 : Int32) = nI 0 := by decide
theorem j_1 : (1 : Int32) = nI 1 := by decide
theorem j_2 : (2 : Int32) = nI 2 := by decide
theorem j_3 : (3 : Int32) = nI 3 := by decide
theorem j_4 : (4 : Int32) = nI 4 := by decide
theorem j_5 : (5 : Int32) = nI 5 := by decide
theorem j_6 : (6 : Int32) = nI 6 := by decide
theorem j_7 : (7 : Int32) = nI 7 := by decide
theorem j_8 : (8 : Int32) = nI 8 := by decide
theorem j_9 : (9 : Int32) = nI 9 := by decide
theorem j_10 : (10 : Int32) = nI 10 := by decide
theorem j_11 : (11 : Int32) = nI 11 := by decide
theorem j_12 : (12 : Int32) = nI 12 := by decide
theorem j_13 : (13 : Int32) = nI 13 := by decide
theorem j_14 : (14 : Int32) = nI 14 := by decide
theorem j_15 : (15 : Int32) = nI 15 := by decide
theorem j_16 : (16 : Int32) = nI 16 := by decide
theorem j_18 : (18 : Int32) = nI 18 := by decide
theorem j_19 : (19 : Int32) = nI 19 := by decide
theorem j_20 : (20 : Int32) = nI 20 := by decide
theorem j_21 : (21 : Int32) = nI 21 := by decide
theorem j_22 : (22 : Int32) = nI 22 := by decide
theorem j_23 : (23 : Int32) = nI 23 := by decide
theorem j_24 : (24 : Int32) = nI 24 := by decide
theorem j_28 : (28 : Int32) = nI 28 := by decide
theorem j_30 : (30 : Int32) = nI 30 := by decide
theorem j_33 : (33 : Int32) = nI 33 := by decide
theorem j_40 : (40 : Int32) = nI 40 := by decide
theorem j_48 : (48 : Int32) = nI 48 := by decide
theorem j_60 : (60 : Int32) = nI 60 := by decide
theorem j_66 : (66 : Int32) = nI 66 := by decide
theorem j_96 : (96 : Int32) = nI 96 := by decide
theorem j_97 : (97 : Int32) = nI 97 := by decide
theorem j_99 : (99 : Int32) = nI 99 := by decide
theorem j_100 : (100 : Int32) = nI 100 := by decide
theorem j_122 : (122 : Int32) = nI 122 := by decide
theorem j_125 : (125 : Int32) = nI 125 := by decide
theorem j_126 : (126 : Int32) = nI 126 := by decide
theorem j_127 : (127 : Int32) = nI 127 := by decide
theorem j_128 : (128 : Int32) = nI 128 := by decide
theorem j_255 : (255 : Int32) = nI 255 := by decide
theorem j_495 : (495 : Int32) = nI 495 := by decide
theorem j_1000 : (1000 : Int32) = nI 1000 := by decide
theorem j_1001 : (1001 : Int32) = nI 1001 := by decide
theorem j_1023 : (1023 : Int32) = nI 1023 := by decide
theorem j_1024 : (1024 : Int32) = nI 1024 := by decide
theorem j_1100 : (1100 : Int32) = nI 1100 := by decide
theorem j_1386 : (1386 : Int32) = nI 1386 := by decide
theorem j_1452 : (1452 : Int32) = nI 1452 := by decide
theorem j_9999 : (9999 : Int32) = nI 9999 := by decide
theorem vpI {n l : Nat} (h : n < 2 ^ 31) : vp_in (nI n) l ↔ n < l := by
  unfold vp_in
  rw [nI_clamp h]
  constructor
  · intro q
    omega
  · intro q r
    rcases r with r | r
    · exact nI_pos h r
    · omega
/-- a loop that counts up -/
theorem lp (L : Nat → Nat → Prop) (n : Nat) (h0 : ∀ m, L (m + 1) n) (hs : ∀ m k, k < n → L m (k + 1) → L (m + 1) k) : ∃ N, L N 0 := by
  have h : ∀ m k, m + k = n → L (m + 1) k := by
    intro m
    induction m with
    | zero =>
      intro k hk
      rw [show k = n by omega]
      exact h0 0
    | succ m ih =>
      intro k hk
      exact hs (m + 1) k (by omega) (ih (k + 1) (by omega))
  exact ⟨_, h n 0 (by omega)⟩
/-- the same, from another beginning -/
theorem lpf (L : Nat → Nat → Prop) (b n : Nat) (hb : b ≤ n) (h0 : ∀ m, L (m + 1) n) (hs : ∀ m k, b ≤ k → k < n → L m (k + 1) → L (m + 1) k) : ∃ N, L N b := by
  have h : ∀ m k, m + k = n → b ≤ k → L (m + 1) k := by
    intro m
    induction m with
    | zero =>
      intro k hk _
      rw [show k = n by omega]
      exact h0 0
    | succ m ih =>
      intro k hk hbk
      exact hs (m + 1) k hbk (by omega) (ih (k + 1) (by omega) (by omega))
  exact ⟨_, h (n - b) b (by omega) (by omega)⟩
/-- a loop that counts down from n to 0 -/
theorem lpd (L : Nat → Nat → Prop) (n : Nat) (h0 : ∀ m, L (m + 1) 0) (hs : ∀ m k, k < n → L m k → L (m + 1) (k + 1)) : ∃ N, L N n := by
  have h : ∀ k, k ≤ n → L (k + 1) k := by
    intro k
    induction k with
    | zero => intro _; exact h0 0
    | succ k ih => intro hk; exact hs (k + 1) k (by omega) (ih (by omega))
  exact ⟨_, h n (by omega)⟩
/-- one of them -/
def xB : Nat → (Nat → Bool) → Bool
  | 0, _ => false
  | k + 1, f => xB k f || f k
theorem bs_0 (f : Nat → Bool) : ∀ n, (bs n f = 0) = (xB n f = false)
  | 0 => by simp [bs, xB]
  | n + 1 => by
    have h := bs_0 f n
    simp only [bs, xB]
    cases hf : f n
    · simp [h]
    · simp
theorem nI_m1 : (-1 : Int32) = nI (2 ^ 32 - 1) := by decide
theorem bs_andn {f g : Nat → Bool} {n : Nat} (hn : n ≤ 31) : nI (bs n f) &&& (nI (bs n g) ^^^ (-1 : Int32)) = nI (bs n (fun c => f c && !g c)) := by
  rw [nI_m1, nI_xor, nI_and]
  congr 1
  apply Nat.eq_of_testBit_eq
  intro i
  rw [Nat.testBit_and, Nat.testBit_xor, bs_tb, bs_tb, bs_tb, Nat.testBit_two_pow_sub_one]
  by_cases hi : i < n
  · have h2 : i < 32 := by omega
    simp [hi, h2]
  · simp [hi]
theorem bs_and2 {f g : Nat → Bool} {n : Nat} : nI (bs n f) &&& nI (bs n g) = nI (bs n (fun c => f c && g c)) := by
  rw [nI_and]
  congr 1
  apply Nat.eq_of_testBit_eq
  intro i
  rw [Nat.testBit_and, bs_tb, bs_tb, bs_tb]
  cases decide (i < n) <;> simp
theorem bs_full : ∀ n, bs n (fun _ => true) = 2 ^ n - 1
  | 0 => rfl
  | n + 1 => by
    have h := bs_full n
    have e : 2 ^ (n + 1) = 2 ^ n + 2 ^ n := by rw [Nat.pow_succ]; omega
    have : 0 < 2 ^ n := Nat.two_pow_pos n
    simp only [bs, h, if_true]
    omega
theorem bs_1024 (f : Nat → Bool) : bs 10 f < 1024 := bs_lt f 10
theorem bs_64 {n : Nat} (f : Nat → Bool) (h : n ≤ 6) : bs n f < 64 := Nat.lt_of_lt_of_le (bs_lt f n) (Nat.pow_le_pow_right (by decide) h)
/-- the first of those where f is greatest -/
def amx (f : Nat → Nat) : Nat → Nat
  | 0 => 0
  | k + 1 => if f (amx f k) < f k then k else amx f k
theorem amx_le (f : Nat → Nat) : ∀ k, amx f (k + 1) ≤ k
  | 0 => by simp [amx]
  | k + 1 => by
    have := amx_le f k
    rw [amx]
    split <;> omega
theorem amx_lt (f : Nat → Nat) {k : Nat} (h : 0 < k) : amx f k < k := by
  obtain ⟨j, rfl⟩ : ∃ j, k = j + 1 := ⟨k - 1, by omega⟩
  have := amx_le f j
  omega
/-- none -/
def nN : Int32 := -1
theorem nN_1 : -nI 1 = nN := by decide
theorem nN_e : (-1 : Int32) = nN := by decide
theorem nN_t : nN.toInt = -1 := by decide
theorem nN_eq {a : Nat} (h : a < 2 ^ 31) : (nN = nI a) = False := by
  apply eq_false
  intro q
  have := congrArg Int32.toInt q
  rw [nN_t, nI_toInt h] at this
  omega
theorem nN_eq' {a : Nat} (h : a < 2 ^ 31) : (nI a = nN) = False := by
  rw [eq_comm (a := nI a), nN_eq h]
theorem nN_lt {a : Nat} (h : a < 2 ^ 31) : (nN < nI a) = True := by
  apply eq_true
  rw [Int32.lt_iff_toInt_lt, nN_t, nI_toInt h]
  omega
theorem nN_nlt {a : Nat} (h : a < 2 ^ 31) : (nI a < nN) = False := by
  apply eq_false
  rw [Int32.lt_iff_toInt_lt, nN_t, nI_toInt h]
  omega
theorem nN_le {a : Nat} (h : a < 2 ^ 31) : (nN ≤ nI a) = True := by
  apply eq_true
  rw [Int32.le_iff_toInt_le, nN_t, nI_toInt h]
  omega
theorem nN_nle {a : Nat} (h : a < 2 ^ 31) : (nI a ≤ nN) = False := by
  apply eq_false
  rw [Int32.le_iff_toInt_le, nN_t, nI_toInt h]
  omega
theorem b_bit {f : Nat → Bool} {n k : Nat} (hn : n ≤ 31) (hk : k < n) : (nI (bs n f) >>> (nI k &&& 31)) &&& nI 1 = nI (f k).toNat := bs_bit hn hk
theorem n_bit {n k : Nat} (hk : k < 32) (h : n < 2 ^ 31) : (nI n >>> (nI k &&& 31)) &&& nI 1 = nI ((n.testBit k).toNat) := nI_bit hk h
theorem b_eq0 (b : Bool) : (nI b.toNat = nI 0) = (b = false) := nI_b0 b
theorem b_eq1 (b : Bool) : (nI b.toNat = nI 1) = (b = true) := nI_b1 b
theorem b_ite (c : Prop) [Decidable c] : (if c then nI 1 else nI 0) = nI (decide c).toNat := by
  by_cases h : c <;> simp [h]
theorem bs_stepB {f : Nat → Bool} {k : Nat} (hk : k < 31) : nI (bs k f) ||| (if f k then nI 1 <<< (nI k &&& 31) else nI 0) = nI (bs (k + 1) f) := bs_step hk
theorem bs_stY {f : Nat → Bool} {k : Nat} (hk : k < 31) (hf : f k = true) : nI (bs k f) ||| (nI 1 <<< (nI k &&& 31)) = nI (bs (k + 1) f) := by
  have := bs_stepB (f := f) hk
  rw [if_pos hf] at this
  exact this
theorem bs_stN {f : Nat → Bool} {k : Nat} (hk : k < 31) (hf : f k = false) : nI (bs k f) ||| nI 0 = nI (bs (k + 1) f) := by
  have := bs_stepB (f := f) hk
  rw [if_neg (by simp [hf])] at this
  exact this
theorem bs_setY {f : Nat → Bool} {n j : Nat} (hn : n ≤ 31) (hj : j < n) : nI (bs n f) ||| (nI 1 <<< (nI j &&& 31)) = nI (bs n (fun i => f i || decide (i = j))) := by
  have := bs_set (f := f) (b := true) hn hj
  simp only [Bool.and_true] at this
  exact this
theorem bs_andnN {f g : Nat → Bool} {n : Nat} (hn : n ≤ 31) : nI (bs n f) &&& (nI (bs n g) ^^^ nN) = nI (bs n (fun c => f c && !g c)) := bs_andn hn
def dst (a b : Nat) : Nat := (a - b) + (b - a)
theorem sub_toInt {a b : Nat} (ha : a < 2 ^ 30) (hb : b < 2 ^ 30) : (nI a - nI b).toInt = (a : Int) - b := by
  have := Int32.toInt_sub (nI a) (nI b)
  rw [this, nI_toInt (by omega), nI_toInt (by omega)]
  rw [Int.bmod_def]
  have e1 : (2 : Nat) ^ 32 = 4294967296 := by decide
  split <;> omega
theorem eq_toInt {x y : Int32} (h : x.toInt = y.toInt) : x = y := Int32.toInt_inj.mp h
theorem neg_toInt {x : Int32} (h1 : -2147483648 < x.toInt) : (-x).toInt = -x.toInt := by
  have h2 := Int32.toInt_lt x
  rw [Int32.toInt_neg, Int.bmod_def]
  have e1 : (2 : Nat) ^ 32 = 4294967296 := by decide
  split <;> omega
theorem zsub (x : Int32) : nI 0 - x = -x := by
  rw [show nI 0 = 0 from rfl]
  exact Int32.zero_sub x
theorem ge0 {x : Int32} : nI 0 ≤ x ↔ 0 ≤ x.toInt := by
  rw [Int32.le_iff_toInt_le]
  exact Iff.rfl
theorem dst_n {a b : Nat} (ha : a < 2 ^ 30) (hb : b < 2 ^ 30) : (if nI 0 ≤ nI a - nI b then nI a - nI b else -(nI a - nI b)) = nI (dst a b) := by
  have e := sub_toInt ha hb
  apply eq_toInt
  unfold dst
  rw [nI_toInt (n := a - b + (b - a)) (by omega)]
  by_cases h : b ≤ a
  · rw [if_pos (ge0.mpr (by omega)), e]
    omega
  · rw [if_neg (fun q => by have := ge0.mp q; omega), neg_toInt (by omega), e]
    omega
theorem dst_c {a b : Nat} (ha : a < 2 ^ 30) (hb : b < 2 ^ 30) : (if nI 0 ≤ nI a - nI b then nI a - nI b else nI 0 - (nI a - nI b)) = nI (dst a b) := by
  rw [zsub, dst_n ha hb]
/-- none, or a number -/
def oI : Option Nat → Int32
  | none => nN
  | some n => nI n
def bet (s : Nat) : Option Nat → Bool
  | none => true
  | some b => decide (pcs 30 s < pcs 30 b) || (decide (pcs 30 s = pcs 30 b) && decide (s < b))
def oLt (n : Nat) : Option Nat → Prop
  | none => True
  | some b => b < n
theorem pcs_and (f g : Nat → Bool) (n : Nat) : ∀ k, pcs k (bs n (fun c => f c && g c)) + pcs k (bs n (fun c => f c && !g c)) = pcs k (bs n f)
  | 0 => rfl
  | k + 1 => by
    have h := pcs_and f g n k
    simp only [pcs, bs_tb]
    cases hn : decide (k < n) <;> cases hf : f k <;> cases hg : g k <;> simp <;> omega
/-- how many -/
def cB : Nat → (Nat → Bool) → Nat
  | 0, _ => 0
  | k + 1, f => cB k f + (f k).toNat
theorem cB_le (f : Nat → Bool) : ∀ k, cB k f ≤ k
  | 0 => Nat.le_refl 0
  | k + 1 => by
    have := cB_le f k
    have h2 : (f k).toNat ≤ 1 := Bool.toNat_le _
    simp only [cB]
    omega
section RB
variable {z : gS} {P : Int32 → gS → Prop}
theorem c_better {s : Nat} {o : Option Nat} (hs : s < 1024) (ho : oLt 1024 o) (h : P (nI (bet s o).toNat) z) : wX11_isBetterSet 148 gSH (nI s) (oI o) z P := by
  unfold wX11_isBetterSet wX11_isBetterSet_J32
  cases o with
  | none => exact h
  | some b =>
    have hb : b < 1024 := ho
    have e : ¬ oI (some b) = (-1 : Int32) := by
      rw [nN_e, oI, nN_eq' (by omega)]
      exact id
    rw [if_neg e, oI]
    refine j_bitCount hs (j_bitCount hb ?_)
    have h1 := pcs_le s 30
    have h2 := pcs_le b 30
    simp (disch := omega) only [Option.some.injEq, exists_eq_left', exists_eq_left, forall_eq, true_and, and_true, gr_si, gl_si, gr_sl, gi_sl, gr_sA, gl_sA, j_0, j_1, j_2, j_3, j_4, j_5, j_6, j_7, j_8, j_9, j_10, j_11, j_12, j_13, j_14, j_15, j_16, j_18, j_19, j_20, j_21, j_22, j_23, j_24, j_28, j_30, j_33, j_40, j_48, j_60, j_66, j_96, j_97, j_99, j_100, j_122, j_125, j_126, j_127, j_128, j_255, j_495, j_1000, j_1001, j_1023, j_1024, j_1100, j_1386, j_1452, j_9999, nN_1, nI_add, pk_mul, pk_sub, nI_clamp, vpI, nI_leI, nI_ltI, nI_eq, nN_eq, nN_eq', nN_lt, nN_nlt, nN_le, nN_nle, b_bit, n_bit, b_eq0, b_eq1]
    by_cases c1 : pcs 30 s < pcs 30 b
    · rw [if_pos c1]
      simpa [bet, c1] using h
    · rw [if_neg c1]
      by_cases c2 : pcs 30 s = pcs 30 b
      · rw [if_pos c2]
        by_cases c3 : b ≤ s
        · rw [if_pos c3]
          simpa [bet, c1, c2, show ¬ s < b by omega] using h
        · rw [if_neg c3]
          simpa [bet, c1, c2, show s < b by omega] using h
      · rw [if_neg c2]
        simpa [bet, c1, c2] using h
theorem m_within {x : Int32} {a b : Nat} (ha : a < 2 ^ 31) (hb : b < 2 ^ 31) (hab : a ≤ b + 1) (h1 : (∀ n : Nat, a ≤ n → n ≤ b → x ≠ nI n) → P (nI 0) z) (h2 : ∀ n : Nat, x = nI n → a ≤ n → n ≤ b → P (nI 1) z) : wX12_within 148 gSH x (nI a) (nI b) z P := by
  unfold wX12_within
  simp (disch := omega) only [Option.some.injEq, exists_eq_left', exists_eq_left, forall_eq, true_and, and_true, gr_si, gl_si, gr_sl, gi_sl, gr_sA, gl_sA, j_0, j_1, j_2, j_3, j_4, j_5, j_6, j_7, j_8, j_9, j_10, j_11, j_12, j_13, j_14, j_15, j_16, j_18, j_19, j_20, j_21, j_22, j_23, j_24, j_28, j_30, j_33, j_40, j_48, j_60, j_66, j_96, j_97, j_99, j_100, j_122, j_125, j_126, j_127, j_128, j_255, j_495, j_1000, j_1001, j_1023, j_1024, j_1100, j_1386, j_1452, j_9999, nN_1, nI_add, pk_mul, pk_sub, nI_clamp, vpI, nI_leI, nI_ltI, nI_eq, nN_eq, nN_eq', nN_lt, nN_nlt, nN_le, nN_nle, b_bit, n_bit, b_eq0, b_eq1]
  by_cases c1 : x < nI a
  · rw [if_pos c1]
    refine h1 (fun n l1 l2 e => ?_)
    subst e
    rw [nI_ltI (by omega) ha] at c1
    omega
  · rw [if_neg c1]
    by_cases c2 : nI b < x
    · rw [if_pos c2]
      refine h1 (fun n l1 l2 e => ?_)
      subst e
      rw [nI_ltI hb (by omega)] at c2
      omega
    · rw [if_neg c2]
      rw [Int32.lt_iff_toInt_lt, nI_toInt ha] at c1
      rw [Int32.lt_iff_toInt_lt, nI_toInt hb] at c2
      refine h2 x.toInt.toNat (eq_toInt ?_) (by omega) (by omega)
      rw [nI_toInt (by omega)]
      omega
end RB
theorem rg_of (x : Int32) {a b : Nat} (ha : a < 2 ^ 31) (hb : b < 2 ^ 31) : x < nI a ∨ nI b < x ∨ ∃ n : Nat, a ≤ n ∧ n ≤ b ∧ x = nI n := by
  by_cases c1 : x < nI a
  · exact Or.inl c1
  · by_cases c2 : nI b < x
    · exact Or.inr (Or.inl c2)
    · rw [Int32.lt_iff_toInt_lt, nI_toInt ha] at c1
      rw [Int32.lt_iff_toInt_lt, nI_toInt hb] at c2
      refine Or.inr (Or.inr ⟨x.toInt.toNat, by omega, by omega, eq_toInt ?_⟩)
      rw [nI_toInt (by omega)]
      omega
theorem lt_nle {x y : Int32} (h : y < x) : (x ≤ y) = False := by
  apply eq_false
  intro q
  rw [Int32.lt_iff_toInt_lt] at h
  rw [Int32.le_iff_toInt_le] at q
  omega
theorem lt_nlt {x : Int32} {a b : Nat} (h : nI b < x) (hb : b < 2 ^ 31) (hab : a ≤ b + 1) (ha : a < 2 ^ 31) : (x < nI a) = False := by
  apply eq_false
  intro q
  rw [Int32.lt_iff_toInt_lt] at h q
  rw [nI_toInt hb] at h
  rw [nI_toInt ha] at q
  omega
theorem lt_le {x y : Int32} (h : x < y) : (y ≤ x) = False := lt_nle h
theorem lt_ne {x y : Int32} (h : x < y) : (x = y) = False := by
  apply eq_false
  intro q
  rw [Int32.lt_iff_toInt_lt, q] at h
  omega
theorem lt_le1 {x : Int32} {a : Nat} (h : x < nI (a + 1)) (ha : a + 1 < 2 ^ 31) : (x ≤ nI a) = True := by
  apply eq_true
  rw [Int32.lt_iff_toInt_lt, nI_toInt ha] at h
  rw [Int32.le_iff_toInt_le, nI_toInt (by omega)]
  omega
theorem lt_ne' {x y : Int32} (h : y < x) : (x = y) = False := by rw [eq_comm (a := x), lt_ne h]
theorem lt_t {x y : Int32} (h : x < y) : (x < y) = True := eq_true h
section RB
variable {z : gS} {P : Int32 → gS → Prop} {x : Int32} {a b n : Nat}
theorem m_within_lo (h : x < nI a) (hP : P (nI 0) z) : wX12_within 148 gSH x (nI a) (nI b) z P := by
  unfold wX12_within
  rw [if_pos h]
  exact hP
theorem m_within_hi (h : nI b < x) (hP : P (nI 0) z) : wX12_within 148 gSH x (nI a) (nI b) z P := by
  unfold wX12_within
  by_cases c : x < nI a
  · rw [if_pos c]
    exact hP
  · rw [if_neg c, if_pos h]
    exact hP
theorem m_within_in (ha : a ≤ n) (hb : n ≤ b) (hn : b < 2 ^ 31) (hP : P (nI 1) z) : wX12_within 148 gSH (nI n) (nI a) (nI b) z P := by
  unfold wX12_within
  rw [if_neg (nI_nlt ha (by omega)), if_neg (nI_nlt hb (by omega))]
  exact hP
end RB
theorem if0 {A B : Prop} (h : A) : if nI 0 = (0 : Int32) then A else B := by
  rw [if_pos (by decide)]
  exact h
theorem if1 {A B : Prop} (h : B) : if nI 1 = (0 : Int32) then A else B := by
  rw [if_neg (by decide)]
  exact h
