/-! ===== a byte of a long (wb_..: from the kit's rows for pasting) ===== -/
theorem wb_tb (n : Nat) : (lN n).toBitVec = BitVec.ofNat 64 n := rfl
theorem wb_inj {a b : Int64} (h : a.toBitVec = b.toBitVec) : a = b := Int64.toBitVec_inj.mp h
theorem wb_tn {n : Nat} (h : n < 2 ^ 64) : (lN n).toBitVec.toNat = n := by rw [wb_tb, BitVec.toNat_ofNat, Nat.mod_eq_of_lt h]
theorem wb_of (x : Int64) : ∃ n, n < 2 ^ 64 ∧ x = lN n := ⟨x.toBitVec.toNat, x.toBitVec.isLt, wb_inj (by rw [wb_tb]; simp)⟩
theorem wb_c : ∀ k, k < 64 → ((nI k).toInt64 &&& 63) = lN k := by decide +kernel
theorem wb_cu : ∀ k, k < 64 → ((nI k).toInt64.toUInt64 &&& Int64.toUInt64 63) = UInt64.ofNat k := by decide +kernel
theorem wb_sm : ∀ k, k < 64 → (BitVec.ofNat 64 k).smod 64 = BitVec.ofNat 64 k := by decide +kernel
theorem wb_shr {n k : Nat} (hn : n < 2 ^ 64) (hk : k < 64) : ((lN n).toUInt64 >>> ((nI k).toInt64.toUInt64 &&& Int64.toUInt64 63)).toInt64 = lN (n / 2 ^ k) := by
  rw [wb_cu k hk]
  apply wb_inj
  apply BitVec.eq_of_toNat_eq
  show ((lN n).toUInt64 >>> UInt64.ofNat k).toNat = (BitVec.ofNat 64 _).toNat
  have h1 : (UInt64.ofNat k).toNat = k := by
    show (BitVec.ofNat 64 k).toNat = k
    rw [BitVec.toNat_ofNat, Nat.mod_eq_of_lt (by omega)]
  have h2 : (lN n).toUInt64.toNat = n := wb_tn hn
  rw [UInt64.toNat_shiftRight, h1, h2, Nat.mod_eq_of_lt hk, Nat.shiftRight_eq_div_pow, BitVec.toNat_ofNat, Nat.mod_eq_of_lt (Nat.lt_of_le_of_lt (Nat.div_le_self _ _) hn)]
theorem wb_255 : ∀ i, i < 32 → (255 : Int32).toBitVec.getLsbD i = decide (i < 8) := by decide +kernel
theorem cl_byte {n k : Nat} (hn : n < 2 ^ 64) (hk : k < 64) : ((lN n).toUInt64 >>> ((nI k).toInt64.toUInt64 &&& Int64.toUInt64 63)).toInt64.toInt32 &&& (255 : Int32) = nI (n / 2 ^ k % 256) := by
  rw [wb_shr hn hk, lN_i, show (255 : Int32) = nI (2 ^ 8 - 1) by decide, nI_and, Nat.and_two_pow_sub_one_eq_mod]
theorem md_byte {n k : Nat} (hk : k ≤ 56) : (lN n >>> ((nI k).toInt64 &&& 63)).toInt32 &&& (255 : Int32) = nI (n / 2 ^ k % 256) := by
  rw [wb_c k (by omega)]
  apply Int32.toBitVec_inj.mp
  rw [Int32.toBitVec_and]
  apply BitVec.eq_of_getLsbD_eq
  intro i hi
  rw [BitVec.getLsbD_and, wb_255 i hi]
  have e2 : (lN n >>> lN k).toBitVec = (BitVec.ofNat 64 n).sshiftRight k := by
    show (BitVec.ofNat 64 n).sshiftRight ((BitVec.ofNat 64 k).smod 64).toNat = _
    rw [wb_sm k (by omega), BitVec.toNat_ofNat, Nat.mod_eq_of_lt (by omega)]
  have e1 : ((lN n >>> lN k).toInt32).toBitVec = ((BitVec.ofNat 64 n).sshiftRight k).signExtend 32 := by
    rw [← e2]
    rfl
  have e3 : (nI (n / 2 ^ k % 256)).toBitVec = BitVec.ofNat 32 (n / 2 ^ k % 2 ^ 8) := rfl
  rw [e1, e3, BitVec.getLsbD_signExtend, BitVec.getLsbD_sshiftRight, BitVec.getLsbD_ofNat, BitVec.getLsbD_ofNat, Nat.testBit_mod_two_pow, Nat.testBit_div_two_pow]
  by_cases h8 : i < 8
  · have h1 : i < 64 := by omega
    have h2 : k + i < 64 := by omega
    simp [h8, hi, h1, h2, show ¬ 64 ≤ i by omega, Nat.add_comm]
  · simp [h8]
