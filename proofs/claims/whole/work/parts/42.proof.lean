/-! ===== fewest panes that prove, fewest that cloak ===== -/
theorem bs_of {v n : Nat} (h : v < 2 ^ n) : bs n v.testBit = v := by
  apply Nat.eq_of_testBit_eq
  intro i
  rw [bs_tb]
  by_cases hi : i < n
  · simp [hi]
  · rw [Nat.testBit_lt_two_pow (Nat.lt_of_lt_of_le h (Nat.pow_le_pow_right (by decide) (by omega)))]
    simp
theorem bs_inj {f g : Nat → Bool} {n : Nat} : (bs n f = bs n g) ↔ ∀ j, j < n → f j = g j := by
  constructor
  · intro h j hj
    have := congrArg (fun x => x.testBit j) h
    simpa [bs_tb, hj] using this
  · exact bs_congr
theorem xB_false {f : Nat → Bool} : ∀ n, xB n f = false ↔ ∀ j, j < n → f j = false
  | 0 => by simp [xB]
  | n + 1 => by
    have h := xB_false (f := f) n
    simp only [xB, Bool.or_eq_false_iff, h]
    constructor
    · intro q j hj
      by_cases e : j = n
      · rw [e]; exact q.2
      · exact q.1 j (by omega)
    · intro q
      exact ⟨fun j hj => q j (by omega), q n (by omega)⟩
def sub (v : Nat) (f : Nat → Bool) : Bool := !xB 5 (fun d => v.testBit d && !f d)
theorem sub_a {v : Nat} {f : Nat → Bool} (hv : v < 32) : (nI (bs 5 f) &&& nI v = nI v) = (sub v f = true) := by
  have e : nI (bs 5 f) &&& nI v = nI (bs 5 (fun d => f d && v.testBit d)) := by
    have := bs_and2 (f := f) (g := v.testBit) (n := 5)
    rw [bs_of (n := 5) hv] at this
    exact this
  rw [e]
  have hl := bs_lt (fun d => f d && v.testBit d) 5
  apply propext
  rw [nI_eq (by omega) (by omega), sub, Bool.not_eq_true', xB_false]
  constructor
  · intro q j hj
    rw [← bs_of (v := v) (n := 5) hv] at q
    have := (bs_inj.mp q) j hj
    rw [bs_of (n := 5) hv] at this
    cases h1 : f j <;> cases h2 : v.testBit j <;> simp_all
  · intro q
    refine (bs_congr (fun j hj => ?_)).trans (bs_of (n := 5) hv)
    have := q j hj
    cases h1 : f j <;> cases h2 : v.testBit j <;> simp_all
theorem sub_m {v : Nat} {f : Nat → Bool} (hv : v < 32) : (nI v &&& (nI (bs 5 f) ^^^ nN) = nI 0) = (sub v f = true) := by
  have e : nI v &&& (nI (bs 5 f) ^^^ nN) = nI (bs 5 (fun d => v.testBit d && !f d)) := by
    have := bs_andnN (f := v.testBit) (g := f) (n := 5) (by decide)
    rw [bs_of (n := 5) hv] at this
    exact this
  rw [e]
  have hl := bs_lt (fun d => v.testBit d && !f d) 5
  rw [nI_eq (by omega) (by decide), bs_0]
  simp [sub]
def prD (S : sS) (W : sW) (p s : Nat) : Nat → Bool := dsP W (fun g m => s.testBit g && qP S W p g m) 6 (sPA S)
def fPr (S : sS) (W : sW) (p v : Nat) : Nat → Option Nat
  | 0 => none
  | s + 1 => if sub v (prD S W p s) = true ∧ bet s (fPr S W p v s) = true then some s else fPr S W p v s
theorem oLt_mono {a b : Nat} {o : Option Nat} (h : oLt a o) (hab : a ≤ b) : oLt b o := by
  cases o with
  | none => trivial
  | some x => exact Nat.lt_of_lt_of_le h hab
theorem fPr_ok (S : sS) (W : sW) (p v : Nat) : ∀ k, oLt k (fPr S W p v k)
  | 0 => trivial
  | k + 1 => by
    have h := fPr_ok S W p v k
    rw [fPr]
    split
    · exact Nat.lt_succ_self k
    · exact oLt_mono h (by omega)
def clD (S : sS) (W : sW) (p s : Nat) : Nat → Nat → Bool := fun k => dsP W (fun g m => !s.testBit g && qP S W p g m) 6 k
def can (S : sS) (W : sW) (s k : Nat) : Bool := !xB k (fun g => s.testBit g && (wG W g || wD W g))
def fCl (S : sS) (W : sW) (p v : Nat) : Nat → Option Nat
  | 0 => none
  | s + 1 => if can S W s (sPA S) = true ∧ bet s (fCl S W p v s) = true ∧ hrm S (clD S W p s (sPA S)) ≤ v then some s else fCl S W p v s
theorem fCl_ok (S : sS) (W : sW) (p v : Nat) : ∀ k, oLt k (fCl S W p v k)
  | 0 => trivial
  | k + 1 => by
    have h := fCl_ok S W p v k
    rw [fCl]
    split
    · exact Nat.lt_succ_self k
    · exact oLt_mono h (by omega)
theorem xB_ext {f : Nat → Bool} {n : Nat} : ∀ m, n ≤ m → (∀ j, n ≤ j → j < m → f j = false) → xB m f = xB n f
  | 0 => fun h _ => by rw [show n = 0 by omega]
  | m + 1 => fun h q => by
    by_cases e : n = m + 1
    · rw [e]
    · have := xB_ext m (by omega) (fun j a b => q j a (by omega))
      simp only [xB, this, q m (by omega) (by omega), Bool.or_false]
theorem bet_lt {s b : Nat} (h : b < s) : bet s (some b) = decide (pcs 30 s < pcs 30 b) := by
  simp only [bet, show ¬ s < b by omega, decide_false, Bool.and_false, Bool.or_false]
section RC
variable {z : gS} {w t g b i : Nat} {S : sS} {W : sW} {P : Int32 → gS → Prop}
theorem c_fewestProving (h : CW z t w S W) {p v : Nat} (hp : p < 5) (hv : v < 32) (hP : P (oI (fPr S W p v (2 ^ sPA S))) z) : wX3_fewestProving 148 gSH t w (nI p) (nI v) z P := by
  have hh := h
  obtain ⟨hz, ht, hw, hok, hwk, hT, hS, hW⟩ := h
  have h6 := hok.1
  have e64 : 2 ^ sPA S ≤ 2 ^ 6 := Nat.pow_le_pow_right (by decide) h6
  have e1 : 0 < 2 ^ sPA S := Nat.two_pow_pos _
  refine lp (fun m k => wX3_fewestProving_L6 148 gSH P m t w (nI p) (nI v) (oI (fPr S W p v k)) (nI k) z) (2 ^ sPA S) (fun m => ?_) (fun m k hk ih => ?_)
  · unfold wX3_fewestProving_L6 wX3_fewestProving_B6
    refine c_allPanes hh ?_
    rw [if_pos (nI_lt (by omega) (by omega))]
    exact hP
  · unfold wX3_fewestProving_L6 wX3_fewestProving_B6
    refine c_allPanes hh ?_
    rw [if_neg (nI_nlt (by omega) (by omega))]
    refine c_deedsShownOf hh hp (by omega) ?_
    unfold wX3_fewestProving_J47
    simp (disch := omega) only [Option.some.injEq, exists_eq_left', exists_eq_left, forall_eq, true_and, and_true, gr_si, gl_si, gr_sl, gi_sl, gr_sA, gl_sA, j_0, j_1, j_2, j_3, j_4, j_5, j_6, j_7, j_8, j_9, j_10, j_11, j_12, j_13, j_14, j_15, j_16, j_18, j_19, j_20, j_21, j_22, j_23, j_24, j_28, j_30, j_33, j_40, j_48, j_60, j_66, j_96, j_97, j_99, j_100, j_122, j_125, j_126, j_127, j_128, j_255, j_495, j_1000, j_1001, j_1023, j_1024, j_1100, j_1386, j_1452, j_9999, nN_1, nI_add, pk_mul, pk_sub, nI_clamp, vpI, nI_leI, nI_ltI, nI_eq, nN_eq, nN_eq', nN_lt, nN_nlt, nN_le, nN_nle, b_bit, n_bit, b_eq0, b_eq1, wO hw, wA1 hw, wA2 hw, wA3 hw, wL1 hw, wL2 hw, wL3 hw, wR5 hz hw, wR6 hz hw, wR7 hz hw, tO ht, tO1 ht, tA2 ht, tL2 ht, tA3 ht, tL3 ht, tA4 ht, tL4 ht, tA5 ht, tL5 ht, tA6 ht, tL6 ht, tA7 ht, tL7 ht, tA8 ht, tL8 ht, tA9 ht, tL9 ht, tR0 hz ht, tR1 hz ht, tR2 hz ht, tR3 hz ht, tR4 hz ht, tR5 hz ht, tR6 hz ht, tRl0 hz ht, tRl1 hz ht, sub_a]
    change if sub v (prD S W p k) = true then _ else _
    rw [fPr] at ih
    by_cases hs : sub v (prD S W p k) = true
    · rw [if_pos hs]
      refine c_better (by omega) (oLt_mono (fPr_ok S W p v k) (by omega)) (ifb0 (fun hb => ?_) (fun hb => ?_))
      · rw [if_neg (by rw [hb]; simp)] at ih
        exact ih
      · rw [if_pos ⟨hs, hb⟩] at ih
        exact ih
    · rw [if_neg hs]
      rw [if_neg (fun q => hs q.1)] at ih
      exact ih
theorem m_proof (h : MW z 0 S W) {p v : Nat} (hp : p < 5) (hv : v < 32) (hP : P (oI (fPr S W p v (2 ^ sPA S))) z) : ∃ N, wX12_proof_L36 148 gSH P N 129 (nI p) (nI v) nN (nI 0) z := by
  have hh := h
  obtain ⟨hz, hok, hwk, hT, hS, hW, hb⟩ := h
  have h6 := hok.1
  have e64 : 2 ^ sPA S ≤ 2 ^ 6 := Nat.pow_le_pow_right (by decide) h6
  have e1 : 0 < 2 ^ sPA S := Nat.two_pow_pos _
  have es : nI 1 <<< (nI (sPA S) &&& 31) = nI (2 ^ sPA S) := by rw [nI_shl (by omega) (by omega), Nat.one_mul]
  refine lp (fun m k => wX12_proof_L36 148 gSH P m 129 (nI p) (nI v) (oI (fPr S W p v k)) (nI k) z) (2 ^ sPA S) (fun m => ?_) (fun m k hk ih => ?_)
  · unfold wX12_proof_L36 wX12_proof_B36
    refine ⟨mO, m_panes hz hS ?_⟩
    simp (disch := omega) only [Option.some.injEq, exists_eq_left', exists_eq_left, forall_eq, true_and, and_true, gr_si, gl_si, gr_sl, gi_sl, gr_sA, gl_sA, j_0, j_1, j_2, j_3, j_4, j_5, j_6, j_7, j_8, j_9, j_10, j_11, j_12, j_13, j_14, j_15, j_16, j_18, j_19, j_20, j_21, j_22, j_23, j_24, j_28, j_30, j_33, j_40, j_48, j_60, j_66, j_96, j_97, j_99, j_100, j_122, j_125, j_126, j_127, j_128, j_255, j_495, j_1000, j_1001, j_1023, j_1024, j_1100, j_1386, j_1452, j_9999, nN_1, nI_add, pk_mul, pk_sub, nI_clamp, vpI, nI_leI, nI_ltI, nI_eq, nN_eq, nN_eq', nN_lt, nN_nlt, nN_le, nN_nle, b_bit, n_bit, b_eq0, b_eq1, mO, mR10 hz, mA135, mL135, mR24 hz, mA145, mL145, es, Nat.le_refl, if_true]
    exact hP
  · unfold wX12_proof_L36 wX12_proof_B36
    refine ⟨mO, m_panes hz hS ?_⟩
    simp (disch := omega) only [Option.some.injEq, exists_eq_left', exists_eq_left, forall_eq, true_and, and_true, gr_si, gl_si, gr_sl, gi_sl, gr_sA, gl_sA, j_0, j_1, j_2, j_3, j_4, j_5, j_6, j_7, j_8, j_9, j_10, j_11, j_12, j_13, j_14, j_15, j_16, j_18, j_19, j_20, j_21, j_22, j_23, j_24, j_28, j_30, j_33, j_40, j_48, j_60, j_66, j_96, j_97, j_99, j_100, j_122, j_125, j_126, j_127, j_128, j_255, j_495, j_1000, j_1001, j_1023, j_1024, j_1100, j_1386, j_1452, j_9999, nN_1, nI_add, pk_mul, pk_sub, nI_clamp, vpI, nI_leI, nI_ltI, nI_eq, nN_eq, nN_eq', nN_lt, nN_nlt, nN_le, nN_nle, b_bit, n_bit, b_eq0, b_eq1, mO, mR10 hz, mA135, mL135, mR24 hz, mA145, mL145, es, if_neg (show ¬ 2 ^ sPA S ≤ k by omega)]
    refine lp (fun m2 i => wX12_proof_L53 148 gSH (wX12_proof_L36 148 gSH P m) P m2 129 (nI p) (nI v) (oI (fPr S W p v k)) (nI k) (nI (bs 5 (dsP W (fun g m => k.testBit g && qP S W p g m) 6 i))) (nI i) z) (sPA S) (fun m2 => ?_) (fun m2 i hi ih2 => ?_)
    · unfold wX12_proof_L53 wX12_proof_B53
      refine ⟨mO, m_panes hz hS ?_⟩
      unfold wX12_proof_J128 wX12_proof_J123 wX12_proof_J129
      simp (disch := omega) only [Option.some.injEq, exists_eq_left', exists_eq_left, forall_eq, true_and, and_true, gr_si, gl_si, gr_sl, gi_sl, gr_sA, gl_sA, j_0, j_1, j_2, j_3, j_4, j_5, j_6, j_7, j_8, j_9, j_10, j_11, j_12, j_13, j_14, j_15, j_16, j_18, j_19, j_20, j_21, j_22, j_23, j_24, j_28, j_30, j_33, j_40, j_48, j_60, j_66, j_96, j_97, j_99, j_100, j_122, j_125, j_126, j_127, j_128, j_255, j_495, j_1000, j_1001, j_1023, j_1024, j_1100, j_1386, j_1452, j_9999, nN_1, nI_add, pk_mul, pk_sub, nI_clamp, vpI, nI_leI, nI_ltI, nI_eq, nN_eq, nN_eq', nN_lt, nN_nlt, nN_le, nN_nle, b_bit, n_bit, b_eq0, b_eq1, mO, mR10 hz, mA135, mL135, mR24 hz, mA145, mL145, Nat.le_refl, if_true, sub_m]
      change if sub v (prD S W p k) = true then _ else _
      rw [fPr] at ih
      by_cases hs : sub v (prD S W p k) = true
      · rw [if_pos hs]
        have ho := fPr_ok S W p v k
        cases hD : fPr S W p v k with
        | none =>
          rw [hD, if_pos ⟨hs, rfl⟩] at ih
          rw [if_pos (show oI none < nI 0 by decide)]
          exact ih
        | some s =>
          rw [hD] at ho
          have ho2 : s < k := ho
          rw [if_neg (show ¬ oI (some s) < nI 0 from nI_pos (by omega))]
          simp only [oI]
          refine m_bits (by omega) (m_bits (by omega) ?_)
          have q1 := pcs_le s 30
          have q2 := pcs_le k 30
          simp (disch := omega) only [Option.some.injEq, exists_eq_left', exists_eq_left, forall_eq, true_and, and_true, gr_si, gl_si, gr_sl, gi_sl, gr_sA, gl_sA, j_0, j_1, j_2, j_3, j_4, j_5, j_6, j_7, j_8, j_9, j_10, j_11, j_12, j_13, j_14, j_15, j_16, j_18, j_19, j_20, j_21, j_22, j_23, j_24, j_28, j_30, j_33, j_40, j_48, j_60, j_66, j_96, j_97, j_99, j_100, j_122, j_125, j_126, j_127, j_128, j_255, j_495, j_1000, j_1001, j_1023, j_1024, j_1100, j_1386, j_1452, j_9999, nN_1, nI_add, pk_mul, pk_sub, nI_clamp, vpI, nI_leI, nI_ltI, nI_eq, nN_eq, nN_eq', nN_lt, nN_nlt, nN_le, nN_nle, b_bit, n_bit, b_eq0, b_eq1, mO, mR10 hz, mA135, mL135, mR24 hz, mA145, mL145]
          rw [hD, bet_lt ho2] at ih
          by_cases hx : pcs 30 s ≤ pcs 30 k
          · rw [if_pos hx]
            rw [if_neg (by simp; omega)] at ih
            exact ih
          · rw [if_neg hx]
            rw [if_pos ⟨hs, by simp; omega⟩] at ih
            exact ih
      · rw [if_neg hs]
        rw [if_neg (fun q => hs q.1)] at ih
        exact ih
    · unfold wX12_proof_L53 wX12_proof_B53
      refine ⟨mO, m_panes hz hS ?_⟩
      unfold wX12_proof_J89
      simp (disch := omega) only [Option.some.injEq, exists_eq_left', exists_eq_left, forall_eq, true_and, and_true, gr_si, gl_si, gr_sl, gi_sl, gr_sA, gl_sA, j_0, j_1, j_2, j_3, j_4, j_5, j_6, j_7, j_8, j_9, j_10, j_11, j_12, j_13, j_14, j_15, j_16, j_18, j_19, j_20, j_21, j_22, j_23, j_24, j_28, j_30, j_33, j_40, j_48, j_60, j_66, j_96, j_97, j_99, j_100, j_122, j_125, j_126, j_127, j_128, j_255, j_495, j_1000, j_1001, j_1023, j_1024, j_1100, j_1386, j_1452, j_9999, nN_1, nI_add, pk_mul, pk_sub, nI_clamp, vpI, nI_leI, nI_ltI, nI_eq, nN_eq, nN_eq', nN_lt, nN_nlt, nN_le, nN_nle, b_bit, n_bit, b_eq0, b_eq1, mO, mR10 hz, mA135, mL135, mR24 hz, mA145, mL145, if_neg (show ¬ sPA S ≤ i by omega)]
      have e2 : dsP W (fun g m => k.testBit g && qP S W p g m) 6 (i + 1) = fun d => dsP W (fun g m => k.testBit g && qP S W p g m) 6 i d || (k.testBit i && dsG W (qP S W p) 6 i (ln W i) d) := by
        funext d
        simp only [dsP, xB]
        congr 1
        rw [dsG_congr (q' := fun g m => k.testBit i && qP S W p g m) (fun j _ => rfl), dsG_bit]
      rw [e2] at ih2
      by_cases hk2 : k.testBit i = true
      · rw [if_pos hk2]
        refine m_deedsBy (p := some p) hh hp (by decide) hi ?_
        rw [nI_orb]
        simp only [hk2, Bool.true_and] at ih2
        exact ih2
      · rw [if_neg hk2]
        have hk3 : k.testBit i = false := by simpa using hk2
        simp only [hk3, Bool.false_and, Bool.or_false] at ih2
        rw [show nI 0 = nI (bs 5 (fun _ => false)) by rw [bs_f0], nI_orb]
        simp only [Bool.or_false]
        exact ih2
theorem c_fewestCloaking (h : CW z t w S W) {p v : Nat} (hp : p < 5) (hv : v ≤ 495) (hP : P (oI (fCl S W p v (2 ^ sPA S))) z) : wX3_fewestCloaking 148 gSH t w (nI p) (nI v) z P := by
  have hh := h
  obtain ⟨hz, ht, hw, hok, hwk, hT, hS, hW⟩ := h
  have h6 := hok.1
  have e64 : 2 ^ sPA S ≤ 2 ^ 6 := Nat.pow_le_pow_right (by decide) h6
  have e1 : 0 < 2 ^ sPA S := Nat.two_pow_pos _
  refine c_allPanes hh ?_
  simp (disch := omega) only [Option.some.injEq, exists_eq_left', exists_eq_left, forall_eq, true_and, and_true, gr_si, gl_si, gr_sl, gi_sl, gr_sA, gl_sA, j_0, j_1, j_2, j_3, j_4, j_5, j_6, j_7, j_8, j_9, j_10, j_11, j_12, j_13, j_14, j_15, j_16, j_18, j_19, j_20, j_21, j_22, j_23, j_24, j_28, j_30, j_33, j_40, j_48, j_60, j_66, j_96, j_97, j_99, j_100, j_122, j_125, j_126, j_127, j_128, j_255, j_495, j_1000, j_1001, j_1023, j_1024, j_1100, j_1386, j_1452, j_9999, nN_1, nI_add, pk_mul, pk_sub, nI_clamp, vpI, nI_leI, nI_ltI, nI_eq, nN_eq, nN_eq', nN_lt, nN_nlt, nN_le, nN_nle, b_bit, n_bit, b_eq0, b_eq1, wO hw, wA1 hw, wA2 hw, wA3 hw, wL1 hw, wL2 hw, wL3 hw, wR5 hz hw, wR6 hz hw, wR7 hz hw, tO ht, tO1 ht, tA2 ht, tL2 ht, tA3 ht, tL3 ht, tA4 ht, tL4 ht, tA5 ht, tL5 ht, tA6 ht, tL6 ht, tA7 ht, tL7 ht, tA8 ht, tL8 ht, tA9 ht, tL9 ht, tR0 hz ht, tR1 hz ht, tR2 hz ht, tR3 hz ht, tR4 hz ht, tR5 hz ht, tR6 hz ht, tRl0 hz ht, tRl1 hz ht, hW.2.1, hW.2.2.1, nI_orb]
  refine lp (fun m k => wX3_fewestCloaking_L23 148 gSH P m t w (nI p) (nI v) (nI (2 ^ sPA S - 1)) (nI (bs 6 (fun d => wG W d || wD W d))) (oI (fCl S W p v k)) (nI k) z) (2 ^ sPA S) (fun m => ?_) (fun m k hk ih => ?_)
  · unfold wX3_fewestCloaking_L23 wX3_fewestCloaking_B23
    rw [if_pos (nI_lt (by omega) (by omega))]
    exact hP
  · unfold wX3_fewestCloaking_L23 wX3_fewestCloaking_B23
    rw [if_neg (nI_nlt (by omega) (by omega))]
    unfold wX3_fewestCloaking_J73
    have ea : nI k &&& nI (bs 6 (fun d => wG W d || wD W d)) = nI (bs 6 (fun d => k.testBit d && (wG W d || wD W d))) := by
      have := bs_and2 (f := k.testBit) (g := fun d => wG W d || wD W d) (n := 6)
      rw [bs_of (n := 6) (by omega)] at this
      exact this
    have hl := bs_lt (fun d => k.testBit d && (wG W d || wD W d)) 6
    have ec : (bs 6 (fun d => k.testBit d && (wG W d || wD W d)) = 0) = (can S W k (sPA S) = true) := by
      rw [bs_0, can, Bool.not_eq_true', xB_ext 6 h6]
      intro j h1 h2
      obtain ⟨a1, a2⟩ := hwk.2.1 j h1
      simp [a1, a2]
    have en : nI (2 ^ sPA S - 1) &&& (nI k ^^^ nN) = nI (bs (sPA S) (fun d => !k.testBit d)) := by
      have := bs_andnN (f := fun _ => true) (g := k.testBit) (n := sPA S) (by omega)
      rw [bs_of (n := sPA S) hk, bs_full] at this
      simp only [Bool.true_and] at this
      exact this
    simp (disch := omega) only [Option.some.injEq, exists_eq_left', exists_eq_left, forall_eq, true_and, and_true, gr_si, gl_si, gr_sl, gi_sl, gr_sA, gl_sA, j_0, j_1, j_2, j_3, j_4, j_5, j_6, j_7, j_8, j_9, j_10, j_11, j_12, j_13, j_14, j_15, j_16, j_18, j_19, j_20, j_21, j_22, j_23, j_24, j_28, j_30, j_33, j_40, j_48, j_60, j_66, j_96, j_97, j_99, j_100, j_122, j_125, j_126, j_127, j_128, j_255, j_495, j_1000, j_1001, j_1023, j_1024, j_1100, j_1386, j_1452, j_9999, nN_1, nI_add, pk_mul, pk_sub, nI_clamp, vpI, nI_leI, nI_ltI, nI_eq, nN_eq, nN_eq', nN_lt, nN_nlt, nN_le, nN_nle, b_bit, n_bit, b_eq0, b_eq1, wO hw, wA1 hw, wA2 hw, wA3 hw, wL1 hw, wL2 hw, wL3 hw, wR5 hz hw, wR6 hz hw, wR7 hz hw, tO ht, tO1 ht, tA2 ht, tL2 ht, tA3 ht, tL3 ht, tA4 ht, tL4 ht, tA5 ht, tL5 ht, tA6 ht, tL6 ht, tA7 ht, tL7 ht, tA8 ht, tL8 ht, tA9 ht, tL9 ht, tR0 hz ht, tR1 hz ht, tR2 hz ht, tR3 hz ht, tR4 hz ht, tR5 hz ht, tR6 hz ht, tRl0 hz ht, tRl1 hz ht, ea, ec, en]
    rw [fCl] at ih
    by_cases hc : can S W k (sPA S) = true
    · rw [if_pos hc]
      refine c_better (by omega) (oLt_mono (fCl_ok S W p v k) (by omega)) (ifb0 (fun hb => ?_) (fun hb => ?_))
      · rw [if_neg (by rw [hb]; simp)] at ih
        exact ih
      · refine c_deedsShownOf hh hp (bs_64 _ h6) (c_harmOf hh _ ?_)
        rw [dsP_congr (q' := fun g m => !k.testBit g && qP S W p g m) (fun g hg j _ => by simp only [bs_tb, hg, decide_true, Bool.true_and])]
        have hr := hrm_le hok (clD S W p k (sPA S))
        change if nI v < nI (hrm S (clD S W p k (sPA S))) then _ else _
        simp (disch := omega) only [Option.some.injEq, exists_eq_left', exists_eq_left, forall_eq, true_and, and_true, gr_si, gl_si, gr_sl, gi_sl, gr_sA, gl_sA, j_0, j_1, j_2, j_3, j_4, j_5, j_6, j_7, j_8, j_9, j_10, j_11, j_12, j_13, j_14, j_15, j_16, j_18, j_19, j_20, j_21, j_22, j_23, j_24, j_28, j_30, j_33, j_40, j_48, j_60, j_66, j_96, j_97, j_99, j_100, j_122, j_125, j_126, j_127, j_128, j_255, j_495, j_1000, j_1001, j_1023, j_1024, j_1100, j_1386, j_1452, j_9999, nN_1, nI_add, pk_mul, pk_sub, nI_clamp, vpI, nI_leI, nI_ltI, nI_eq, nN_eq, nN_eq', nN_lt, nN_nlt, nN_le, nN_nle, b_bit, n_bit, b_eq0, b_eq1, wO hw, wA1 hw, wA2 hw, wA3 hw, wL1 hw, wL2 hw, wL3 hw, wR5 hz hw, wR6 hz hw, wR7 hz hw, tO ht, tO1 ht, tA2 ht, tL2 ht, tA3 ht, tL3 ht, tA4 ht, tL4 ht, tA5 ht, tL5 ht, tA6 ht, tL6 ht, tA7 ht, tL7 ht, tA8 ht, tL8 ht, tA9 ht, tL9 ht, tR0 hz ht, tR1 hz ht, tR2 hz ht, tR3 hz ht, tR4 hz ht, tR5 hz ht, tR6 hz ht, tRl0 hz ht, tRl1 hz ht]
        by_cases hx : v < hrm S (clD S W p k (sPA S))
        · rw [if_pos hx]
          rw [if_neg (by omega)] at ih
          exact ih
        · rw [if_neg hx]
          rw [if_pos ⟨hc, hb, by omega⟩] at ih
          exact ih
    · rw [if_neg hc]
      rw [if_neg (fun q => hc q.1)] at ih
      exact ih
theorem m_cloak (h : MW z 0 S W) {p v : Nat} (hp : p < 5) (hv : v ≤ 495) (hP : P (oI (fCl S W p v (2 ^ sPA S))) z) : ∃ N, wX12_cloak_L31 148 gSH P N 129 (nI p) (nI v) nN (nI 0) z := by
  have hh := h
  obtain ⟨hz, hok, hwk, hT, hS, hW, hb⟩ := h
  have h6 := hok.1
  have e64 : 2 ^ sPA S ≤ 2 ^ 6 := Nat.pow_le_pow_right (by decide) h6
  have e1 : 0 < 2 ^ sPA S := Nat.two_pow_pos _
  have es : nI 1 <<< (nI (sPA S) &&& 31) = nI (2 ^ sPA S) := by rw [nI_shl (by omega) (by omega), Nat.one_mul]
  refine lp (fun m k => wX12_cloak_L31 148 gSH P m 129 (nI p) (nI v) (oI (fCl S W p v k)) (nI k) z) (2 ^ sPA S) (fun m => ?_) (fun m k hk ih => ?_)
  · unfold wX12_cloak_L31 wX12_cloak_B31
    refine ⟨mO, m_panes hz hS ?_⟩
    simp (disch := omega) only [Option.some.injEq, exists_eq_left', exists_eq_left, forall_eq, true_and, and_true, gr_si, gl_si, gr_sl, gi_sl, gr_sA, gl_sA, j_0, j_1, j_2, j_3, j_4, j_5, j_6, j_7, j_8, j_9, j_10, j_11, j_12, j_13, j_14, j_15, j_16, j_18, j_19, j_20, j_21, j_22, j_23, j_24, j_28, j_30, j_33, j_40, j_48, j_60, j_66, j_96, j_97, j_99, j_100, j_122, j_125, j_126, j_127, j_128, j_255, j_495, j_1000, j_1001, j_1023, j_1024, j_1100, j_1386, j_1452, j_9999, nN_1, nI_add, pk_mul, pk_sub, nI_clamp, vpI, nI_leI, nI_ltI, nI_eq, nN_eq, nN_eq', nN_lt, nN_nlt, nN_le, nN_nle, b_bit, n_bit, b_eq0, b_eq1, mO, mR10 hz, mA135, mL135, mR24 hz, mA145, mL145, es, Nat.le_refl, if_true]
    exact hP
  · unfold wX12_cloak_L31 wX12_cloak_B31
    refine ⟨mO, m_panes hz hS ?_⟩
    simp (disch := omega) only [Option.some.injEq, exists_eq_left', exists_eq_left, forall_eq, true_and, and_true, gr_si, gl_si, gr_sl, gi_sl, gr_sA, gl_sA, j_0, j_1, j_2, j_3, j_4, j_5, j_6, j_7, j_8, j_9, j_10, j_11, j_12, j_13, j_14, j_15, j_16, j_18, j_19, j_20, j_21, j_22, j_23, j_24, j_28, j_30, j_33, j_40, j_48, j_60, j_66, j_96, j_97, j_99, j_100, j_122, j_125, j_126, j_127, j_128, j_255, j_495, j_1000, j_1001, j_1023, j_1024, j_1100, j_1386, j_1452, j_9999, nN_1, nI_add, pk_mul, pk_sub, nI_clamp, vpI, nI_leI, nI_ltI, nI_eq, nN_eq, nN_eq', nN_lt, nN_nlt, nN_le, nN_nle, b_bit, n_bit, b_eq0, b_eq1, mO, mR10 hz, mA135, mL135, mR24 hz, mA145, mL145, es, if_neg (show ¬ 2 ^ sPA S ≤ k by omega)]
    have ho := fCl_ok S W p v k
    have hJ : wX12_cloak_J63 148 gSH (wX12_cloak_L31 148 gSH P m) P 129 (nI p) (nI v) (oI (fCl S W p v k)) (nI k) (nI (bet k (fCl S W p v k)).toNat) z := by
      unfold wX12_cloak_J63
      refine (lp (fun m2 i => wX12_cloak_L71 148 gSH (wX12_cloak_L31 148 gSH P m) P m2 129 (nI p) (nI v) (oI (fCl S W p v k)) (nI k) (nI (bet k (fCl S W p v k) && can S W k i).toNat) (nI (bs 5 (clD S W p k i))) (nI i) z) (sPA S) (fun m2 => ?_) (fun m2 i hi ih2 => ?_)).imp (fun N q => ?_)
      · unfold wX12_cloak_L71 wX12_cloak_B71
        refine ⟨mO, m_panes hz hS ?_⟩
        unfold wX12_cloak_J188 wX12_cloak_J189
        simp (disch := omega) only [Option.some.injEq, exists_eq_left', exists_eq_left, forall_eq, true_and, and_true, gr_si, gl_si, gr_sl, gi_sl, gr_sA, gl_sA, j_0, j_1, j_2, j_3, j_4, j_5, j_6, j_7, j_8, j_9, j_10, j_11, j_12, j_13, j_14, j_15, j_16, j_18, j_19, j_20, j_21, j_22, j_23, j_24, j_28, j_30, j_33, j_40, j_48, j_60, j_66, j_96, j_97, j_99, j_100, j_122, j_125, j_126, j_127, j_128, j_255, j_495, j_1000, j_1001, j_1023, j_1024, j_1100, j_1386, j_1452, j_9999, nN_1, nI_add, pk_mul, pk_sub, nI_clamp, vpI, nI_leI, nI_ltI, nI_eq, nN_eq, nN_eq', nN_lt, nN_nlt, nN_le, nN_nle, b_bit, n_bit, b_eq0, b_eq1, mO, mR10 hz, mA135, mL135, mR24 hz, mA145, mL145, Nat.le_refl, if_true]
        rw [fCl] at ih
        by_cases hx : (bet k (fCl S W p v k) && can S W k (sPA S)) = false
        · rw [if_pos hx]
          rw [if_neg (fun q => by rw [q.1, q.2.1] at hx; exact absurd hx (by decide))] at ih
          exact ih
        · rw [if_neg hx]
          have hx2 : bet k (fCl S W p v k) = true ∧ can S W k (sPA S) = true := by simpa using hx
          refine m_harmOf hh _ ?_
          have hr := hrm_le hok (clD S W p k (sPA S))
          simp (disch := omega) only [Option.some.injEq, exists_eq_left', exists_eq_left, forall_eq, true_and, and_true, gr_si, gl_si, gr_sl, gi_sl, gr_sA, gl_sA, j_0, j_1, j_2, j_3, j_4, j_5, j_6, j_7, j_8, j_9, j_10, j_11, j_12, j_13, j_14, j_15, j_16, j_18, j_19, j_20, j_21, j_22, j_23, j_24, j_28, j_30, j_33, j_40, j_48, j_60, j_66, j_96, j_97, j_99, j_100, j_122, j_125, j_126, j_127, j_128, j_255, j_495, j_1000, j_1001, j_1023, j_1024, j_1100, j_1386, j_1452, j_9999, nN_1, nI_add, pk_mul, pk_sub, nI_clamp, vpI, nI_leI, nI_ltI, nI_eq, nN_eq, nN_eq', nN_lt, nN_nlt, nN_le, nN_nle, b_bit, n_bit, b_eq0, b_eq1, mO, mR10 hz, mA135, mL135, mR24 hz, mA145, mL145]
          by_cases hy : v < hrm S (clD S W p k (sPA S))
          · rw [if_pos hy]
            rw [if_neg (by omega)] at ih
            exact ih
          · rw [if_neg hy]
            rw [if_pos ⟨hx2.2, hx2.1, by omega⟩] at ih
            exact ih
      · unfold wX12_cloak_L71 wX12_cloak_B71
        refine ⟨mO, m_panes hz hS ?_⟩
        have e2 : clD S W p k (i + 1) = fun d => clD S W p k i d || (!k.testBit i && dsG W (qP S W p) 6 i (ln W i) d) := by
          funext d
          simp only [clD, dsP, xB]
          congr 1
          rw [dsG_congr (q' := fun g m => !k.testBit i && qP S W p g m) (fun j _ => rfl), dsG_bit]
        rw [e2] at ih2
        have hJ2 : ∀ c : Bool, c = (bet k (fCl S W p v k) && can S W k (i + 1)) → wX12_cloak_J136 148 gSH (wX12_cloak_L31 148 gSH P m) (wX12_cloak_L71 148 gSH (wX12_cloak_L31 148 gSH P m) P m2) P 129 (nI p) (nI v) (oI (fCl S W p v k)) (nI k) (nI (bs 5 (clD S W p k i))) (nI i) (nI (k.testBit i).toNat) (nI c.toNat) z := by
          intro c hc
          rw [← hc] at ih2
          unfold wX12_cloak_J136 wX12_cloak_J159
          by_cases hk2 : k.testBit i = true
          · rw [if_neg (by rw [hk2]; decide)]
            simp (disch := omega) only [Option.some.injEq, exists_eq_left', exists_eq_left, forall_eq, true_and, and_true, gr_si, gl_si, gr_sl, gi_sl, gr_sA, gl_sA, j_0, j_1, j_2, j_3, j_4, j_5, j_6, j_7, j_8, j_9, j_10, j_11, j_12, j_13, j_14, j_15, j_16, j_18, j_19, j_20, j_21, j_22, j_23, j_24, j_28, j_30, j_33, j_40, j_48, j_60, j_66, j_96, j_97, j_99, j_100, j_122, j_125, j_126, j_127, j_128, j_255, j_495, j_1000, j_1001, j_1023, j_1024, j_1100, j_1386, j_1452, j_9999, nN_1, nI_add, pk_mul, pk_sub, nI_clamp, vpI, nI_leI, nI_ltI, nI_eq, nN_eq, nN_eq', nN_lt, nN_nlt, nN_le, nN_nle, b_bit, n_bit, b_eq0, b_eq1, mO, mR10 hz, mA135, mL135, mR24 hz, mA145, mL145]
            simp only [hk2, Bool.not_true, Bool.false_and, Bool.or_false] at ih2
            rw [show nI 0 = nI (bs 5 (fun _ => false)) by rw [bs_f0], nI_orb]
            simp only [Bool.or_false]
            exact ih2
          · have hk3 : k.testBit i = false := by simpa using hk2
            rw [if_pos (by rw [hk3]; decide)]
            refine ⟨mO, m_deedsBy (p := some p) hh hp (by decide) hi ?_⟩
            simp (disch := omega) only [Option.some.injEq, exists_eq_left', exists_eq_left, forall_eq, true_and, and_true, gr_si, gl_si, gr_sl, gi_sl, gr_sA, gl_sA, j_0, j_1, j_2, j_3, j_4, j_5, j_6, j_7, j_8, j_9, j_10, j_11, j_12, j_13, j_14, j_15, j_16, j_18, j_19, j_20, j_21, j_22, j_23, j_24, j_28, j_30, j_33, j_40, j_48, j_60, j_66, j_96, j_97, j_99, j_100, j_122, j_125, j_126, j_127, j_128, j_255, j_495, j_1000, j_1001, j_1023, j_1024, j_1100, j_1386, j_1452, j_9999, nN_1, nI_add, pk_mul, pk_sub, nI_clamp, vpI, nI_leI, nI_ltI, nI_eq, nN_eq, nN_eq', nN_lt, nN_nlt, nN_le, nN_nle, b_bit, n_bit, b_eq0, b_eq1, mO, mR10 hz, mA135, mL135, mR24 hz, mA145, mL145]
            rw [nI_orb]
            simp only [hk3, Bool.not_false, Bool.true_and] at ih2
            exact ih2
        have eca : can S W k (i + 1) = (can S W k i && !(k.testBit i && (wG W i || wD W i))) := by
          simp only [can, xB, Bool.not_or]
        have hJ3 : wX12_cloak_J96 148 gSH (wX12_cloak_L31 148 gSH P m) (wX12_cloak_L71 148 gSH (wX12_cloak_L31 148 gSH P m) P m2) P 129 (nI p) (nI v) (oI (fCl S W p v k)) (nI k) (nI (bet k (fCl S W p v k) && can S W k i).toNat) (nI (bs 5 (clD S W p k i))) (nI i) (nI (k.testBit i).toNat) z := by
          unfold wX12_cloak_J96 wX12_cloak_J135 wX12_cloak_J131
          refine ifb0 (fun hx => ?_) (fun hx => ifb0 (fun hy => ?_) (fun hy => ⟨mO, m_isWhole (b := 0) hz hW hok (by decide) hi (ifb0 (fun hG => ?_) (fun hG => ?_))⟩))
          · exact hJ2 false (by rw [eca, ← Bool.and_assoc, hx]; rfl)
          · exact hJ2 true (by rw [eca, ← Bool.and_assoc, hx, hy]; rfl)
          · exact hJ2 false (by rw [eca, ← Bool.and_assoc, hx, hy]; simp at hG; simp [hG])
          · simp at hG
            have e6 := hW.2.2.1 i hi
            rw [Nat.zero_add] at e6
            simp (disch := omega) only [Option.some.injEq, exists_eq_left', exists_eq_left, forall_eq, true_and, and_true, gr_si, gl_si, gr_sl, gi_sl, gr_sA, gl_sA, j_0, j_1, j_2, j_3, j_4, j_5, j_6, j_7, j_8, j_9, j_10, j_11, j_12, j_13, j_14, j_15, j_16, j_18, j_19, j_20, j_21, j_22, j_23, j_24, j_28, j_30, j_33, j_40, j_48, j_60, j_66, j_96, j_97, j_99, j_100, j_122, j_125, j_126, j_127, j_128, j_255, j_495, j_1000, j_1001, j_1023, j_1024, j_1100, j_1386, j_1452, j_9999, nN_1, nI_add, pk_mul, pk_sub, nI_clamp, vpI, nI_leI, nI_ltI, nI_eq, nN_eq, nN_eq', nN_lt, nN_nlt, nN_le, nN_nle, b_bit, n_bit, b_eq0, b_eq1, mO, mR10 hz, mA135, mL135, mR24 hz, mA145, mL145, e6]
            refine ⟨by omega, ?_⟩
            by_cases hD : wD W i = false
            · rw [if_pos hD]
              exact hJ2 true (by rw [eca, ← Bool.and_assoc, hx, hy]; simp [hG, hD])
            · rw [if_neg hD]
              exact hJ2 false (by rw [eca, ← Bool.and_assoc, hx, hy]; simp [hD])
        simp (disch := omega) only [Option.some.injEq, exists_eq_left', exists_eq_left, forall_eq, true_and, and_true, gr_si, gl_si, gr_sl, gi_sl, gr_sA, gl_sA, j_0, j_1, j_2, j_3, j_4, j_5, j_6, j_7, j_8, j_9, j_10, j_11, j_12, j_13, j_14, j_15, j_16, j_18, j_19, j_20, j_21, j_22, j_23, j_24, j_28, j_30, j_33, j_40, j_48, j_60, j_66, j_96, j_97, j_99, j_100, j_122, j_125, j_126, j_127, j_128, j_255, j_495, j_1000, j_1001, j_1023, j_1024, j_1100, j_1386, j_1452, j_9999, nN_1, nI_add, pk_mul, pk_sub, nI_clamp, vpI, nI_leI, nI_ltI, nI_eq, nN_eq, nN_eq', nN_lt, nN_nlt, nN_le, nN_nle, b_bit, n_bit, b_eq0, b_eq1, mO, mR10 hz, mA135, mL135, mR24 hz, mA145, mL145, if_neg (show ¬ sPA S ≤ i by omega)]
        by_cases hk2 : k.testBit i = true
        · rw [if_pos hk2]
          rw [hk2] at hJ3
          exact hJ3
        · rw [if_neg hk2]
          rw [show k.testBit i = false by simpa using hk2] at hJ3
          exact hJ3
      · have e0 : (bet k (fCl S W p v k) && can S W k 0) = bet k (fCl S W p v k) := by simp [can, xB]
        rw [← e0]
        exact q
    unfold wX12_cloak_J58
    cases hD : fCl S W p v k with
    | none =>
      rw [hD] at hJ
      rw [if_pos (show oI none < nI 0 by decide)]
      exact hJ
    | some s =>
      rw [hD] at ho hJ
      have ho2 : s < k := ho
      rw [bet_lt ho2] at hJ
      rw [if_neg (show ¬ oI (some s) < nI 0 from nI_pos (by omega))]
      simp only [oI] at hJ ⊢
      refine m_bits (by omega) (m_bits (by omega) ?_)
      have q1 := pcs_le s 30
      have q2 := pcs_le k 30
      simp (disch := omega) only [Option.some.injEq, exists_eq_left', exists_eq_left, forall_eq, true_and, and_true, gr_si, gl_si, gr_sl, gi_sl, gr_sA, gl_sA, j_0, j_1, j_2, j_3, j_4, j_5, j_6, j_7, j_8, j_9, j_10, j_11, j_12, j_13, j_14, j_15, j_16, j_18, j_19, j_20, j_21, j_22, j_23, j_24, j_28, j_30, j_33, j_40, j_48, j_60, j_66, j_96, j_97, j_99, j_100, j_122, j_125, j_126, j_127, j_128, j_255, j_495, j_1000, j_1001, j_1023, j_1024, j_1100, j_1386, j_1452, j_9999, nN_1, nI_add, pk_mul, pk_sub, nI_clamp, vpI, nI_leI, nI_ltI, nI_eq, nN_eq, nN_eq', nN_lt, nN_nlt, nN_le, nN_nle, b_bit, n_bit, b_eq0, b_eq1, mO, mR10 hz, mA135, mL135, mR24 hz, mA145, mL145]
      by_cases hx : pcs 30 s ≤ pcs 30 k
      · rw [if_pos hx]
        rw [show decide (pcs 30 k < pcs 30 s) = false by simp; omega] at hJ
        exact hJ
      · rw [if_neg hx]
        rw [show decide (pcs 30 k < pcs 30 s) = true by simp; omega] at hJ
        exact hJ
end RC
