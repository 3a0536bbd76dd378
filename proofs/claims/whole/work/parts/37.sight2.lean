/-! ===== hide, dark, glass ===== -/
def fHi (S : sS) (W : sW) (a : Nat) : Nat → Option Nat × Nat
  | 0 => (none, 10)
  | c + 1 => if xB (sPA S) (fun p => sSi S W p c) = false ∧ dst c a < (fHi S W a c).2 then (some c, dst c a) else fHi S W a c
theorem fHi_ok (S : sS) (W : sW) {a : Nat} (ha : a < 10) : ∀ k, k ≤ 10 → (fHi S W a k = (none, 10) ∨ ∃ j, j < 10 ∧ fHi S W a k = (some j, dst j a))
  | 0 => fun _ => Or.inl rfl
  | k + 1 => fun hk => by
    have h := fHi_ok S W ha k (by omega)
    simp only [fHi]
    split
    · exact Or.inr ⟨k, by omega, rfl⟩
    · exact h
def aHi (S : sS) (W : sW) (a k : Nat) : Int32 := match (fHi S W a 10).1 with
  | none => nN
  | some j => if k = 0 then nI (dst j a) else nI j
def fDk (S : sS) (W : sW) (v : Nat) : Nat → Option Nat
  | 0 => none
  | c + 1 => if v.testBit c = true ∧ bet (sWa S W c) (fDk S W v c) = true then some (sWa S W c) else fDk S W v c
theorem fDk_ok (S : sS) (W : sW) (v : Nat) (hok : sOK S) : ∀ k, oLt 1024 (fDk S W v k)
  | 0 => trivial
  | k + 1 => by
    have h := fDk_ok S W v hok k
    have h2 := sWa_lt (W := W) (c := k) hok
    simp only [fDk]
    split
    · show sWa S W k < 1024
      omega
    · exact h
def pIn (S : sS) (W : sW) (n c : Nat) : Nat := cB (sPE S) (fun p => decide (c ≤ wC W p) && decide (wC W p < c + n))
theorem pIn_le {S : sS} {W : sW} {n c : Nat} (hok : sOK S) : pIn S W n c ≤ 5 := Nat.le_trans (cB_le _ _) hok.2.1
section RC
variable {z : gS} {w t g b : Nat} {S : sS} {W : sW} {P : Int32 → gS → Prop}
theorem c_nearest (hz : sR z) (hw : isW w) (ht : isS t) (hS : cS z t S) (hW : cW z w S W) (hok : sOK S) (hT : wT W < 2 ^ 30) {a : Nat} (ha : a < 10) (h : P (oI (fHi S W a 10).1) z) : wX6_nearestUnseen 148 gSH t w (nI a) z P := by
  refine c_unseenCells hz hw ht hS hW hok hT ?_
  refine lp (fun m k => wX6_nearestUnseen_L12 148 gSH P m (nI a) (nI (aBl S W)) (oI (fHi S W a k).1) (nI k) z) 10 (fun m => ?_) (fun m k hk ih => ?_)
  · unfold wX6_nearestUnseen_L12 wX6_nearestUnseen_B12
    simp (disch := omega) only [Option.some.injEq, exists_eq_left', exists_eq_left, forall_eq, true_and, and_true, gr_si, gl_si, gr_sl, gi_sl, gr_sA, gl_sA, j_0, j_1, j_2, j_3, j_4, j_5, j_6, j_7, j_8, j_9, j_10, j_11, j_12, j_13, j_14, j_15, j_16, j_18, j_19, j_20, j_21, j_22, j_23, j_24, j_28, j_30, j_33, j_40, j_48, j_60, j_66, j_96, j_97, j_99, j_100, j_122, j_125, j_126, j_127, j_128, j_255, j_495, j_1000, j_1001, j_1023, j_1024, j_1100, j_1386, j_1452, j_9999, nN_1, nI_add, pk_mul, pk_sub, nI_clamp, vpI, nI_leI, nI_ltI, nI_eq, nN_eq, nN_eq', nN_lt, nN_nlt, nN_le, nN_nle, b_bit, n_bit, b_eq0, b_eq1, wO hw, wA1 hw, wA2 hw, wA3 hw, wL1 hw, wL2 hw, wL3 hw, wR5 hz hw, wR6 hz hw, wR7 hz hw, tO ht, tO1 ht, tA2 ht, tL2 ht, tA3 ht, tL3 ht, tA4 ht, tL4 ht, tA5 ht, tL5 ht, tA6 ht, tL6 ht, tA7 ht, tL7 ht, tA8 ht, tL8 ht, tA9 ht, tL9 ht, tR0 hz ht, tR1 hz ht, tR2 hz ht, tR3 hz ht, tR4 hz ht, tR5 hz ht, tR6 hz ht, tRl0 hz ht, tRl1 hz ht, Nat.le_refl, if_true]
    exact h
  · unfold wX6_nearestUnseen_L12 wX6_nearestUnseen_B12
    unfold wX6_nearestUnseen_J42 wX6_nearestUnseen_J47 wX6_nearestUnseen_J67
    simp (disch := omega) only [Option.some.injEq, exists_eq_left', exists_eq_left, forall_eq, true_and, and_true, gr_si, gl_si, gr_sl, gi_sl, gr_sA, gl_sA, j_0, j_1, j_2, j_3, j_4, j_5, j_6, j_7, j_8, j_9, j_10, j_11, j_12, j_13, j_14, j_15, j_16, j_18, j_19, j_20, j_21, j_22, j_23, j_24, j_28, j_30, j_33, j_40, j_48, j_60, j_66, j_96, j_97, j_99, j_100, j_122, j_125, j_126, j_127, j_128, j_255, j_495, j_1000, j_1001, j_1023, j_1024, j_1100, j_1386, j_1452, j_9999, nN_1, nI_add, pk_mul, pk_sub, nI_clamp, vpI, nI_leI, nI_ltI, nI_eq, nN_eq, nN_eq', nN_lt, nN_nlt, nN_le, nN_nle, b_bit, n_bit, b_eq0, b_eq1, wO hw, wA1 hw, wA2 hw, wA3 hw, wL1 hw, wL2 hw, wL3 hw, wR5 hz hw, wR6 hz hw, wR7 hz hw, tO ht, tO1 ht, tA2 ht, tL2 ht, tA3 ht, tL3 ht, tA4 ht, tL4 ht, tA5 ht, tL5 ht, tA6 ht, tL6 ht, tA7 ht, tL7 ht, tA8 ht, tL8 ht, tA9 ht, tL9 ht, tR0 hz ht, tR1 hz ht, tR2 hz ht, tR3 hz ht, tR4 hz ht, tR5 hz ht, tR6 hz ht, tRl0 hz ht, tRl1 hz ht, if_neg (show ¬ 10 ≤ k by omega), aBl, Bool.not_eq_false', dst_c]
    simp only [fHi, aBl] at ih
    by_cases hx : xB (sPA S) (fun p => sSi S W p k) = false
    · simp only [hx, true_and] at ih
      simp only [hx, Bool.false_eq_true, if_false]
      rcases fHi_ok S W ha k (by omega) with e | ⟨j, hj, e⟩
      · simp only [e, oI] at ih ⊢
        rw [if_pos (show dst k a < 10 by unfold dst; omega)] at ih
        simpa using ih
      · simp only [e, oI] at ih ⊢
        have hd : dst k a < 2 ^ 31 := by unfold dst; omega
        have hd2 : dst j a < 2 ^ 31 := by unfold dst; omega
        simp (disch := omega) only [Option.some.injEq, exists_eq_left', exists_eq_left, forall_eq, true_and, and_true, gr_si, gl_si, gr_sl, gi_sl, gr_sA, gl_sA, j_0, j_1, j_2, j_3, j_4, j_5, j_6, j_7, j_8, j_9, j_10, j_11, j_12, j_13, j_14, j_15, j_16, j_18, j_19, j_20, j_21, j_22, j_23, j_24, j_28, j_30, j_33, j_40, j_48, j_60, j_66, j_96, j_97, j_99, j_100, j_122, j_125, j_126, j_127, j_128, j_255, j_495, j_1000, j_1001, j_1023, j_1024, j_1100, j_1386, j_1452, j_9999, nN_1, nI_add, pk_mul, pk_sub, nI_clamp, vpI, nI_leI, nI_ltI, nI_eq, nN_eq, nN_eq', nN_lt, nN_nlt, nN_le, nN_nle, b_bit, n_bit, b_eq0, b_eq1, wO hw, wA1 hw, wA2 hw, wA3 hw, wL1 hw, wL2 hw, wL3 hw, wR5 hz hw, wR6 hz hw, wR7 hz hw, tO ht, tO1 ht, tA2 ht, tL2 ht, tA3 ht, tL3 ht, tA4 ht, tL4 ht, tA5 ht, tL5 ht, tA6 ht, tL6 ht, tA7 ht, tL7 ht, tA8 ht, tL8 ht, tA9 ht, tL9 ht, tR0 hz ht, tR1 hz ht, tR2 hz ht, tR3 hz ht, tR4 hz ht, tR5 hz ht, tR6 hz ht, tRl0 hz ht, tRl1 hz ht, dst_c, if_false]
        by_cases hl : dst j a ≤ dst k a
        · rw [if_pos hl]
          rw [if_neg (by omega)] at ih
          exact ih
        · rw [if_neg hl]
          rw [if_pos (by omega)] at ih
          exact ih
    · have hx2 : xB (sPA S) (fun p => sSi S W p k) = true := by simpa using hx
      simp only [hx2, Bool.true_eq_false, false_and, if_false] at ih
      simp only [hx2, if_true, ite_self]
      exact ih
theorem m_hide (hz : sR z) (hS : mS z S) (hW : mW z 0 S W) (hok : sOK S) (hT : wT W < 2 ^ 30) {j x : Nat} (hj : j < sPE S) (hc : wC W j < 10) (hx : x < 2) (h : P (aHi S W (wC W j) x) z) : ∃ N, wX12_hide_L33 148 gSH P N 129 (nI j) (nI x) nN (nI 10) (nI 0) z := by
  have h5 := hok.2.1
  have e0 := hW.2.1 j hj
  rw [Nat.zero_add] at e0
  refine lp (fun m k => wX12_hide_L33 148 gSH P m 129 (nI j) (nI x) (oI (fHi S W (wC W j) k).1) (nI (fHi S W (wC W j) k).2) (nI k) z) 10 (fun m => ?_) (fun m k hk ih => ?_)
  · unfold wX12_hide_L33 wX12_hide_B33 wX12_hide_J133
    unfold aHi at h
    simp (disch := omega) only [Option.some.injEq, exists_eq_left', exists_eq_left, forall_eq, true_and, and_true, gr_si, gl_si, gr_sl, gi_sl, gr_sA, gl_sA, j_0, j_1, j_2, j_3, j_4, j_5, j_6, j_7, j_8, j_9, j_10, j_11, j_12, j_13, j_14, j_15, j_16, j_18, j_19, j_20, j_21, j_22, j_23, j_24, j_28, j_30, j_33, j_40, j_48, j_60, j_66, j_96, j_97, j_99, j_100, j_122, j_125, j_126, j_127, j_128, j_255, j_495, j_1000, j_1001, j_1023, j_1024, j_1100, j_1386, j_1452, j_9999, nN_1, nI_add, pk_mul, pk_sub, nI_clamp, vpI, nI_leI, nI_ltI, nI_eq, nN_eq, nN_eq', nN_lt, nN_nlt, nN_le, nN_nle, b_bit, n_bit, b_eq0, b_eq1, mO, mR10 hz, mA135, mL135, mR24 hz, mA145, mL145, Nat.le_refl, if_true]
    rcases fHi_ok S W hc 10 (by omega) with e | ⟨i, hi, e⟩
    · simp only [e, oI] at h ⊢
      simp (disch := omega) only [Option.some.injEq, exists_eq_left', exists_eq_left, forall_eq, true_and, and_true, gr_si, gl_si, gr_sl, gi_sl, gr_sA, gl_sA, j_0, j_1, j_2, j_3, j_4, j_5, j_6, j_7, j_8, j_9, j_10, j_11, j_12, j_13, j_14, j_15, j_16, j_18, j_19, j_20, j_21, j_22, j_23, j_24, j_28, j_30, j_33, j_40, j_48, j_60, j_66, j_96, j_97, j_99, j_100, j_122, j_125, j_126, j_127, j_128, j_255, j_495, j_1000, j_1001, j_1023, j_1024, j_1100, j_1386, j_1452, j_9999, nN_1, nI_add, pk_mul, pk_sub, nI_clamp, vpI, nI_leI, nI_ltI, nI_eq, nN_eq, nN_eq', nN_lt, nN_nlt, nN_le, nN_nle, b_bit, n_bit, b_eq0, b_eq1, mO, mR10 hz, mA135, mL135, mR24 hz, mA145, mL145, if_true]
      exact h
    · simp only [e, oI] at h ⊢
      simp (disch := omega) only [Option.some.injEq, exists_eq_left', exists_eq_left, forall_eq, true_and, and_true, gr_si, gl_si, gr_sl, gi_sl, gr_sA, gl_sA, j_0, j_1, j_2, j_3, j_4, j_5, j_6, j_7, j_8, j_9, j_10, j_11, j_12, j_13, j_14, j_15, j_16, j_18, j_19, j_20, j_21, j_22, j_23, j_24, j_28, j_30, j_33, j_40, j_48, j_60, j_66, j_96, j_97, j_99, j_100, j_122, j_125, j_126, j_127, j_128, j_255, j_495, j_1000, j_1001, j_1023, j_1024, j_1100, j_1386, j_1452, j_9999, nN_1, nI_add, pk_mul, pk_sub, nI_clamp, vpI, nI_leI, nI_ltI, nI_eq, nN_eq, nN_eq', nN_lt, nN_nlt, nN_le, nN_nle, b_bit, n_bit, b_eq0, b_eq1, mO, mR10 hz, mA135, mL135, mR24 hz, mA145, mL145, Nat.not_lt_zero, if_false]
      by_cases h1 : x = 1
      · rw [if_pos h1]
        rw [if_neg (by omega)] at h
        exact h
      · rw [if_neg h1]
        rw [if_pos (by omega)] at h
        exact h
  · unfold wX12_hide_L33 wX12_hide_B33
    have hd : dst k (wC W j) < 10 := by unfold dst; omega
    have hJ : wX12_hide_J66 148 gSH (wX12_hide_L33 148 gSH P m) P 129 (nI j) (nI x) (oI (fHi S W (wC W j) k).1) (nI (fHi S W (wC W j) k).2) (nI k) (nI (dst k (wC W j))) z := by
      unfold wX12_hide_J66
      refine ⟨mO, m_seersOf (b := 0) hz hS hW hok hT (by decide) hk ?_⟩
      have hl := sWa_lt (W := W) (c := k) hok
      have e : (sWa S W k = 0) = (xB (sPA S) (fun p => sSi S W p k) = false) := bs_0 _ _
      have hd2 : (fHi S W (wC W j) k).2 < 2 ^ 31 := by
        rcases fHi_ok S W hc k (by omega) with e | ⟨i, hi, e⟩
        · rw [e]; decide
        · rw [e]; show dst i (wC W j) < 2 ^ 31; unfold dst; omega
      unfold wX12_hide_J89 wX12_hide_J90 wX12_hide_J103 wX12_hide_J116
      simp (disch := omega) only [Option.some.injEq, exists_eq_left', exists_eq_left, forall_eq, true_and, and_true, gr_si, gl_si, gr_sl, gi_sl, gr_sA, gl_sA, j_0, j_1, j_2, j_3, j_4, j_5, j_6, j_7, j_8, j_9, j_10, j_11, j_12, j_13, j_14, j_15, j_16, j_18, j_19, j_20, j_21, j_22, j_23, j_24, j_28, j_30, j_33, j_40, j_48, j_60, j_66, j_96, j_97, j_99, j_100, j_122, j_125, j_126, j_127, j_128, j_255, j_495, j_1000, j_1001, j_1023, j_1024, j_1100, j_1386, j_1452, j_9999, nN_1, nI_add, pk_mul, pk_sub, nI_clamp, vpI, nI_leI, nI_ltI, nI_eq, nN_eq, nN_eq', nN_lt, nN_nlt, nN_le, nN_nle, b_bit, n_bit, b_eq0, b_eq1, mO, mR10 hz, mA135, mL135, mR24 hz, mA145, mL145, e, if_true, Nat.one_ne_zero, if_false]
      simp only [fHi] at ih
      by_cases hx : xB (sPA S) (fun p => sSi S W p k) = false
      · simp only [hx, true_and, if_true] at ih ⊢
        by_cases hl : (fHi S W (wC W j) k).2 ≤ dst k (wC W j)
        · rw [if_pos hl]
          rw [if_neg (by omega)] at ih
          exact ih
        · rw [if_neg hl]
          rw [if_pos (by omega)] at ih
          exact ih
      · simp only [hx, false_and, if_false] at ih ⊢
        exact ih
    simp (disch := omega) only [Option.some.injEq, exists_eq_left', exists_eq_left, forall_eq, true_and, and_true, gr_si, gl_si, gr_sl, gi_sl, gr_sA, gl_sA, j_0, j_1, j_2, j_3, j_4, j_5, j_6, j_7, j_8, j_9, j_10, j_11, j_12, j_13, j_14, j_15, j_16, j_18, j_19, j_20, j_21, j_22, j_23, j_24, j_28, j_30, j_33, j_40, j_48, j_60, j_66, j_96, j_97, j_99, j_100, j_122, j_125, j_126, j_127, j_128, j_255, j_495, j_1000, j_1001, j_1023, j_1024, j_1100, j_1386, j_1452, j_9999, nN_1, nI_add, pk_mul, pk_sub, nI_clamp, vpI, nI_leI, nI_ltI, nI_eq, nN_eq, nN_eq', nN_lt, nN_nlt, nN_le, nN_nle, b_bit, n_bit, b_eq0, b_eq1, mO, mR10 hz, mA135, mL135, mR24 hz, mA145, mL145, if_neg (show ¬ 10 ≤ k by omega), e0]
    refine ⟨by omega, ?_⟩
    by_cases hv : nI 0 ≤ nI k - nI (wC W j)
    · rw [if_pos hv]
      have e := dst_n (a := k) (b := wC W j) (by omega) (by omega)
      rw [if_pos hv] at e
      rw [e]
      exact hJ
    · rw [if_neg hv]
      have e := dst_n (a := k) (b := wC W j) (by omega) (by omega)
      rw [if_neg hv] at e
      rw [e]
      exact hJ
theorem c_fewestWatching (hz : sR z) (hw : isW w) (ht : isS t) (hS : cS z t S) (hW : cW z w S W) (hok : sOK S) (hT : wT W < 2 ^ 30) {v : Nat} (hv : v < 1024) (h : P (oI (fDk S W v 10)) z) : wX6_fewestWatching 148 gSH t w (nI v) z P := by
  refine lp (fun m k => wX6_fewestWatching_L5 148 gSH P m t w (nI v) (oI (fDk S W v k)) (nI k) z) 10 (fun m => ?_) (fun m k hk ih => ?_)
  · unfold wX6_fewestWatching_L5 wX6_fewestWatching_B5
    simp (disch := omega) only [Option.some.injEq, exists_eq_left', exists_eq_left, forall_eq, true_and, and_true, gr_si, gl_si, gr_sl, gi_sl, gr_sA, gl_sA, j_0, j_1, j_2, j_3, j_4, j_5, j_6, j_7, j_8, j_9, j_10, j_11, j_12, j_13, j_14, j_15, j_16, j_18, j_19, j_20, j_21, j_22, j_23, j_24, j_28, j_30, j_33, j_40, j_48, j_60, j_66, j_96, j_97, j_99, j_100, j_122, j_125, j_126, j_127, j_128, j_255, j_495, j_1000, j_1001, j_1023, j_1024, j_1100, j_1386, j_1452, j_9999, nN_1, nI_add, pk_mul, pk_sub, nI_clamp, vpI, nI_leI, nI_ltI, nI_eq, nN_eq, nN_eq', nN_lt, nN_nlt, nN_le, nN_nle, b_bit, n_bit, b_eq0, b_eq1, wO hw, wA1 hw, wA2 hw, wA3 hw, wL1 hw, wL2 hw, wL3 hw, wR5 hz hw, wR6 hz hw, wR7 hz hw, tO ht, tO1 ht, tA2 ht, tL2 ht, tA3 ht, tL3 ht, tA4 ht, tL4 ht, tA5 ht, tL5 ht, tA6 ht, tL6 ht, tA7 ht, tL7 ht, tA8 ht, tL8 ht, tA9 ht, tL9 ht, tR0 hz ht, tR1 hz ht, tR2 hz ht, tR3 hz ht, tR4 hz ht, tR5 hz ht, tR6 hz ht, tRl0 hz ht, tRl1 hz ht, Nat.le_refl, if_true]
    exact h
  · unfold wX6_fewestWatching_L5 wX6_fewestWatching_B5
    simp (disch := omega) only [Option.some.injEq, exists_eq_left', exists_eq_left, forall_eq, true_and, and_true, gr_si, gl_si, gr_sl, gi_sl, gr_sA, gl_sA, j_0, j_1, j_2, j_3, j_4, j_5, j_6, j_7, j_8, j_9, j_10, j_11, j_12, j_13, j_14, j_15, j_16, j_18, j_19, j_20, j_21, j_22, j_23, j_24, j_28, j_30, j_33, j_40, j_48, j_60, j_66, j_96, j_97, j_99, j_100, j_122, j_125, j_126, j_127, j_128, j_255, j_495, j_1000, j_1001, j_1023, j_1024, j_1100, j_1386, j_1452, j_9999, nN_1, nI_add, pk_mul, pk_sub, nI_clamp, vpI, nI_leI, nI_ltI, nI_eq, nN_eq, nN_eq', nN_lt, nN_nlt, nN_le, nN_nle, b_bit, n_bit, b_eq0, b_eq1, wO hw, wA1 hw, wA2 hw, wA3 hw, wL1 hw, wL2 hw, wL3 hw, wR5 hz hw, wR6 hz hw, wR7 hz hw, tO ht, tO1 ht, tA2 ht, tL2 ht, tA3 ht, tL3 ht, tA4 ht, tL4 ht, tA5 ht, tL5 ht, tA6 ht, tL6 ht, tA7 ht, tL7 ht, tA8 ht, tL8 ht, tA9 ht, tL9 ht, tR0 hz ht, tR1 hz ht, tR2 hz ht, tR3 hz ht, tR4 hz ht, tR5 hz ht, tR6 hz ht, tRl0 hz ht, tRl1 hz ht, if_neg (show ¬ 10 ≤ k by omega)]
    refine c_watchersOf hz hw ht hS hW hok hT hk ?_
    have hl := sWa_lt (W := W) (c := k) hok
    unfold wX6_fewestWatching_J42
    simp (disch := omega) only [Option.some.injEq, exists_eq_left', exists_eq_left, forall_eq, true_and, and_true, gr_si, gl_si, gr_sl, gi_sl, gr_sA, gl_sA, j_0, j_1, j_2, j_3, j_4, j_5, j_6, j_7, j_8, j_9, j_10, j_11, j_12, j_13, j_14, j_15, j_16, j_18, j_19, j_20, j_21, j_22, j_23, j_24, j_28, j_30, j_33, j_40, j_48, j_60, j_66, j_96, j_97, j_99, j_100, j_122, j_125, j_126, j_127, j_128, j_255, j_495, j_1000, j_1001, j_1023, j_1024, j_1100, j_1386, j_1452, j_9999, nN_1, nI_add, pk_mul, pk_sub, nI_clamp, vpI, nI_leI, nI_ltI, nI_eq, nN_eq, nN_eq', nN_lt, nN_nlt, nN_le, nN_nle, b_bit, n_bit, b_eq0, b_eq1, wO hw, wA1 hw, wA2 hw, wA3 hw, wL1 hw, wL2 hw, wL3 hw, wR5 hz hw, wR6 hz hw, wR7 hz hw, tO ht, tO1 ht, tA2 ht, tL2 ht, tA3 ht, tL3 ht, tA4 ht, tL4 ht, tA5 ht, tL5 ht, tA6 ht, tL6 ht, tA7 ht, tL7 ht, tA8 ht, tL8 ht, tA9 ht, tL9 ht, tR0 hz ht, tR1 hz ht, tR2 hz ht, tR3 hz ht, tR4 hz ht, tR5 hz ht, tR6 hz ht, tRl0 hz ht, tRl1 hz ht]
    simp only [fDk] at ih
    by_cases hb : v.testBit k = true
    · simp only [hb, true_and] at ih
      simp only [hb, Bool.true_eq_false, if_false]
      refine c_better (by omega) (fDk_ok S W v hok k) ?_
      simp (disch := omega) only [Option.some.injEq, exists_eq_left', exists_eq_left, forall_eq, true_and, and_true, gr_si, gl_si, gr_sl, gi_sl, gr_sA, gl_sA, j_0, j_1, j_2, j_3, j_4, j_5, j_6, j_7, j_8, j_9, j_10, j_11, j_12, j_13, j_14, j_15, j_16, j_18, j_19, j_20, j_21, j_22, j_23, j_24, j_28, j_30, j_33, j_40, j_48, j_60, j_66, j_96, j_97, j_99, j_100, j_122, j_125, j_126, j_127, j_128, j_255, j_495, j_1000, j_1001, j_1023, j_1024, j_1100, j_1386, j_1452, j_9999, nN_1, nI_add, pk_mul, pk_sub, nI_clamp, vpI, nI_leI, nI_ltI, nI_eq, nN_eq, nN_eq', nN_lt, nN_nlt, nN_le, nN_nle, b_bit, n_bit, b_eq0, b_eq1, wO hw, wA1 hw, wA2 hw, wA3 hw, wL1 hw, wL2 hw, wL3 hw, wR5 hz hw, wR6 hz hw, wR7 hz hw, tO ht, tO1 ht, tA2 ht, tL2 ht, tA3 ht, tL3 ht, tA4 ht, tL4 ht, tA5 ht, tL5 ht, tA6 ht, tL6 ht, tA7 ht, tL7 ht, tA8 ht, tL8 ht, tA9 ht, tL9 ht, tR0 hz ht, tR1 hz ht, tR2 hz ht, tR3 hz ht, tR4 hz ht, tR5 hz ht, tR6 hz ht, tRl0 hz ht, tRl1 hz ht]
      by_cases hc : bet (sWa S W k) (fDk S W v k) = true
      · simp only [hc, if_true, Bool.true_eq_false, if_false] at ih ⊢
        exact ih
      · simp only [Bool.not_eq_true] at hc
        simp only [hc, if_true, Bool.false_eq_true, if_false] at ih ⊢
        exact ih
    · simp only [Bool.not_eq_true] at hb
      simp only [hb, Bool.false_eq_true, false_and, if_false] at ih
      simp only [hb, if_true]
      exact ih
theorem m_dark (hz : sR z) (hS : mS z S) (hW : mW z 0 S W) (hok : sOK S) (hT : wT W < 2 ^ 30) {v : Nat} (hv : v < 1024) (h : P (oI (fDk S W v 10)) z) : ∃ N, wX12_dark_L22 148 gSH P N 129 (nI v) nN (nI 0) z := by
  refine lp (fun m k => wX12_dark_L22 148 gSH P m 129 (nI v) (oI (fDk S W v k)) (nI k) z) 10 (fun m => ?_) (fun m k hk ih => ?_)
  · unfold wX12_dark_L22 wX12_dark_B22
    simp (disch := omega) only [Option.some.injEq, exists_eq_left', exists_eq_left, forall_eq, true_and, and_true, gr_si, gl_si, gr_sl, gi_sl, gr_sA, gl_sA, j_0, j_1, j_2, j_3, j_4, j_5, j_6, j_7, j_8, j_9, j_10, j_11, j_12, j_13, j_14, j_15, j_16, j_18, j_19, j_20, j_21, j_22, j_23, j_24, j_28, j_30, j_33, j_40, j_48, j_60, j_66, j_96, j_97, j_99, j_100, j_122, j_125, j_126, j_127, j_128, j_255, j_495, j_1000, j_1001, j_1023, j_1024, j_1100, j_1386, j_1452, j_9999, nN_1, nI_add, pk_mul, pk_sub, nI_clamp, vpI, nI_leI, nI_ltI, nI_eq, nN_eq, nN_eq', nN_lt, nN_nlt, nN_le, nN_nle, b_bit, n_bit, b_eq0, b_eq1, mO, mR10 hz, mA135, mL135, mR24 hz, mA145, mL145, Nat.le_refl, if_true]
    exact h
  · unfold wX12_dark_L22 wX12_dark_B22
    simp (disch := omega) only [Option.some.injEq, exists_eq_left', exists_eq_left, forall_eq, true_and, and_true, gr_si, gl_si, gr_sl, gi_sl, gr_sA, gl_sA, j_0, j_1, j_2, j_3, j_4, j_5, j_6, j_7, j_8, j_9, j_10, j_11, j_12, j_13, j_14, j_15, j_16, j_18, j_19, j_20, j_21, j_22, j_23, j_24, j_28, j_30, j_33, j_40, j_48, j_60, j_66, j_96, j_97, j_99, j_100, j_122, j_125, j_126, j_127, j_128, j_255, j_495, j_1000, j_1001, j_1023, j_1024, j_1100, j_1386, j_1452, j_9999, nN_1, nI_add, pk_mul, pk_sub, nI_clamp, vpI, nI_leI, nI_ltI, nI_eq, nN_eq, nN_eq', nN_lt, nN_nlt, nN_le, nN_nle, b_bit, n_bit, b_eq0, b_eq1, mO, mR10 hz, mA135, mL135, mR24 hz, mA145, mL145, if_neg (show ¬ 10 ≤ k by omega)]
    refine m_seersOf (b := 0) hz hS hW hok hT (by decide) hk ?_
    have hl := sWa_lt (W := W) (c := k) hok
    unfold wX12_dark_J79 wX12_dark_J83 wX12_dark_J84 wX12_dark_J97
    simp (disch := omega) only [Option.some.injEq, exists_eq_left', exists_eq_left, forall_eq, true_and, and_true, gr_si, gl_si, gr_sl, gi_sl, gr_sA, gl_sA, j_0, j_1, j_2, j_3, j_4, j_5, j_6, j_7, j_8, j_9, j_10, j_11, j_12, j_13, j_14, j_15, j_16, j_18, j_19, j_20, j_21, j_22, j_23, j_24, j_28, j_30, j_33, j_40, j_48, j_60, j_66, j_96, j_97, j_99, j_100, j_122, j_125, j_126, j_127, j_128, j_255, j_495, j_1000, j_1001, j_1023, j_1024, j_1100, j_1386, j_1452, j_9999, nN_1, nI_add, pk_mul, pk_sub, nI_clamp, vpI, nI_leI, nI_ltI, nI_eq, nN_eq, nN_eq', nN_lt, nN_nlt, nN_le, nN_nle, b_bit, n_bit, b_eq0, b_eq1, mO, mR10 hz, mA135, mL135, mR24 hz, mA145, mL145, if_true, Nat.one_ne_zero, if_false]
    simp only [fDk] at ih
    by_cases hb : v.testBit k = true
    · simp only [hb, true_and] at ih
      simp only [hb, if_true]
      have ho := fDk_ok S W v hok k
      cases hD : fDk S W v k with
      | none =>
        simp only [hD, bet, if_true, oI] at ih ⊢
        simp (disch := omega) only [Option.some.injEq, exists_eq_left', exists_eq_left, forall_eq, true_and, and_true, gr_si, gl_si, gr_sl, gi_sl, gr_sA, gl_sA, j_0, j_1, j_2, j_3, j_4, j_5, j_6, j_7, j_8, j_9, j_10, j_11, j_12, j_13, j_14, j_15, j_16, j_18, j_19, j_20, j_21, j_22, j_23, j_24, j_28, j_30, j_33, j_40, j_48, j_60, j_66, j_96, j_97, j_99, j_100, j_122, j_125, j_126, j_127, j_128, j_255, j_495, j_1000, j_1001, j_1023, j_1024, j_1100, j_1386, j_1452, j_9999, nN_1, nI_add, pk_mul, pk_sub, nI_clamp, vpI, nI_leI, nI_ltI, nI_eq, nN_eq, nN_eq', nN_lt, nN_nlt, nN_le, nN_nle, b_bit, n_bit, b_eq0, b_eq1, mO, mR10 hz, mA135, mL135, mR24 hz, mA145, mL145, if_true]
        exact ih
      | some s =>
        rw [hD] at ho
        have ho2 : s < 1024 := ho
        simp only [hD, bet, oI] at ih ⊢
        simp (disch := omega) only [Option.some.injEq, exists_eq_left', exists_eq_left, forall_eq, true_and, and_true, gr_si, gl_si, gr_sl, gi_sl, gr_sA, gl_sA, j_0, j_1, j_2, j_3, j_4, j_5, j_6, j_7, j_8, j_9, j_10, j_11, j_12, j_13, j_14, j_15, j_16, j_18, j_19, j_20, j_21, j_22, j_23, j_24, j_28, j_30, j_33, j_40, j_48, j_60, j_66, j_96, j_97, j_99, j_100, j_122, j_125, j_126, j_127, j_128, j_255, j_495, j_1000, j_1001, j_1023, j_1024, j_1100, j_1386, j_1452, j_9999, nN_1, nI_add, pk_mul, pk_sub, nI_clamp, vpI, nI_leI, nI_ltI, nI_eq, nN_eq, nN_eq', nN_lt, nN_nlt, nN_le, nN_nle, b_bit, n_bit, b_eq0, b_eq1, mO, mR10 hz, mA135, mL135, mR24 hz, mA145, mL145, Nat.not_lt_zero, if_false]
        refine m_bits (by omega) (m_bits (by omega) ?_)
        have h1 := pcs_le s 30
        have h2 := pcs_le (sWa S W k) 30
        simp (disch := omega) only [Option.some.injEq, exists_eq_left', exists_eq_left, forall_eq, true_and, and_true, gr_si, gl_si, gr_sl, gi_sl, gr_sA, gl_sA, j_0, j_1, j_2, j_3, j_4, j_5, j_6, j_7, j_8, j_9, j_10, j_11, j_12, j_13, j_14, j_15, j_16, j_18, j_19, j_20, j_21, j_22, j_23, j_24, j_28, j_30, j_33, j_40, j_48, j_60, j_66, j_96, j_97, j_99, j_100, j_122, j_125, j_126, j_127, j_128, j_255, j_495, j_1000, j_1001, j_1023, j_1024, j_1100, j_1386, j_1452, j_9999, nN_1, nI_add, pk_mul, pk_sub, nI_clamp, vpI, nI_leI, nI_ltI, nI_eq, nN_eq, nN_eq', nN_lt, nN_nlt, nN_le, nN_nle, b_bit, n_bit, b_eq0, b_eq1, mO, mR10 hz, mA135, mL135, mR24 hz, mA145, mL145]
        by_cases c1 : pcs 30 (sWa S W k) < pcs 30 s
        · rw [if_pos c1]
          simpa [c1] using ih
        · rw [if_neg c1]
          refine m_bits (by omega) (m_bits (by omega) ?_)
          simp (disch := omega) only [Option.some.injEq, exists_eq_left', exists_eq_left, forall_eq, true_and, and_true, gr_si, gl_si, gr_sl, gi_sl, gr_sA, gl_sA, j_0, j_1, j_2, j_3, j_4, j_5, j_6, j_7, j_8, j_9, j_10, j_11, j_12, j_13, j_14, j_15, j_16, j_18, j_19, j_20, j_21, j_22, j_23, j_24, j_28, j_30, j_33, j_40, j_48, j_60, j_66, j_96, j_97, j_99, j_100, j_122, j_125, j_126, j_127, j_128, j_255, j_495, j_1000, j_1001, j_1023, j_1024, j_1100, j_1386, j_1452, j_9999, nN_1, nI_add, pk_mul, pk_sub, nI_clamp, vpI, nI_leI, nI_ltI, nI_eq, nN_eq, nN_eq', nN_lt, nN_nlt, nN_le, nN_nle, b_bit, n_bit, b_eq0, b_eq1, mO, mR10 hz, mA135, mL135, mR24 hz, mA145, mL145]
          by_cases c2 : pcs 30 (sWa S W k) = pcs 30 s
          · rw [if_pos c2]
            by_cases c3 : s ≤ sWa S W k
            · rw [if_pos c3]
              simpa [c1, c2, show ¬ sWa S W k < s by omega] using ih
            · rw [if_neg c3]
              simpa [c1, c2, show sWa S W k < s by omega] using ih
          · rw [if_neg c2]
            simpa [c1, c2] using ih
    · simp only [Bool.not_eq_true] at hb
      simp only [hb, Bool.false_eq_true, false_and, if_false] at ih
      simp only [hb, Bool.false_eq_true, if_false]
      exact ih
theorem c_mostPeopled (hz : sR z) (hw : isW w) (ht : isS t) (hS : cS z t S) (hW : cW z w S W) (hok : sOK S) {n : Nat} (h1n : 1 ≤ n) (hn : n ≤ 10) (hwk : ∀ p, p < sPE S → wC W p < 10) (h : P (nI (amx (pIn S W n) (11 - n))) z) : wX6_mostPeopled 148 gSH t w (nI n) z P := by
  have h5 := hok.2.1
  refine lp (fun m k => wX6_mostPeopled_L8 148 gSH P m t w (nI n) (nI (amx (pIn S W n) k)) (nI (if k = 0 then 0 else pIn S W n (amx (pIn S W n) k))) (nI k) z) (11 - n) (fun m => ?_) (fun m k hk ih => ?_)
  · unfold wX6_mostPeopled_L8 wX6_mostPeopled_B8
    simp (disch := omega) only [Option.some.injEq, exists_eq_left', exists_eq_left, forall_eq, true_and, and_true, gr_si, gl_si, gr_sl, gi_sl, gr_sA, gl_sA, j_0, j_1, j_2, j_3, j_4, j_5, j_6, j_7, j_8, j_9, j_10, j_11, j_12, j_13, j_14, j_15, j_16, j_18, j_19, j_20, j_21, j_22, j_23, j_24, j_28, j_30, j_33, j_40, j_48, j_60, j_66, j_96, j_97, j_99, j_100, j_122, j_125, j_126, j_127, j_128, j_255, j_495, j_1000, j_1001, j_1023, j_1024, j_1100, j_1386, j_1452, j_9999, nN_1, nI_add, pk_mul, pk_sub, nI_clamp, vpI, nI_leI, nI_ltI, nI_eq, nN_eq, nN_eq', nN_lt, nN_nlt, nN_le, nN_nle, b_bit, n_bit, b_eq0, b_eq1, wO hw, wA1 hw, wA2 hw, wA3 hw, wL1 hw, wL2 hw, wL3 hw, wR5 hz hw, wR6 hz hw, wR7 hz hw, tO ht, tO1 ht, tA2 ht, tL2 ht, tA3 ht, tL3 ht, tA4 ht, tL4 ht, tA5 ht, tL5 ht, tA6 ht, tL6 ht, tA7 ht, tL7 ht, tA8 ht, tL8 ht, tA9 ht, tL9 ht, tR0 hz ht, tR1 hz ht, tR2 hz ht, tR3 hz ht, tR4 hz ht, tR5 hz ht, tR6 hz ht, tRl0 hz ht, tRl1 hz ht, if_pos (show 10 < 11 - n + n by omega)]
    exact h
  · unfold wX6_mostPeopled_L8 wX6_mostPeopled_B8
    simp (disch := omega) only [Option.some.injEq, exists_eq_left', exists_eq_left, forall_eq, true_and, and_true, gr_si, gl_si, gr_sl, gi_sl, gr_sA, gl_sA, j_0, j_1, j_2, j_3, j_4, j_5, j_6, j_7, j_8, j_9, j_10, j_11, j_12, j_13, j_14, j_15, j_16, j_18, j_19, j_20, j_21, j_22, j_23, j_24, j_28, j_30, j_33, j_40, j_48, j_60, j_66, j_96, j_97, j_99, j_100, j_122, j_125, j_126, j_127, j_128, j_255, j_495, j_1000, j_1001, j_1023, j_1024, j_1100, j_1386, j_1452, j_9999, nN_1, nI_add, pk_mul, pk_sub, nI_clamp, vpI, nI_leI, nI_ltI, nI_eq, nN_eq, nN_eq', nN_lt, nN_nlt, nN_le, nN_nle, b_bit, n_bit, b_eq0, b_eq1, wO hw, wA1 hw, wA2 hw, wA3 hw, wL1 hw, wL2 hw, wL3 hw, wR5 hz hw, wR6 hz hw, wR7 hz hw, tO ht, tO1 ht, tA2 ht, tL2 ht, tA3 ht, tL3 ht, tA4 ht, tL4 ht, tA5 ht, tL5 ht, tA6 ht, tL6 ht, tA7 ht, tL7 ht, tA8 ht, tL8 ht, tA9 ht, tL9 ht, tR0 hz ht, tR1 hz ht, tR2 hz ht, tR3 hz ht, tR4 hz ht, tR5 hz ht, tR6 hz ht, tRl0 hz ht, tRl1 hz ht, if_neg (show ¬ 10 < k + n by omega)]
    refine lp (fun m2 i => wX6_mostPeopled_L23 148 gSH (wX6_mostPeopled_L8 148 gSH P m) P m2 t w (nI n) (nI (amx (pIn S W n) k)) (nI (if k = 0 then 0 else pIn S W n (amx (pIn S W n) k))) (nI k) (nI (cB i (fun p => decide (k ≤ wC W p) && decide (wC W p < k + n)))) (nI i) z) (sPE S) (fun m2 => ?_) (fun m2 i hi ih2 => ?_)
    · unfold wX6_mostPeopled_L23 wX6_mostPeopled_B23
      unfold wX6_mostPeopled_J87
      change (_ ∧ (if _ then (if nI (pIn S W n k) ≤ _ then _ else _) else _))
      have q1 := pIn_le (W := W) (n := n) (c := k) hok
      have q2 := pIn_le (W := W) (n := n) (c := amx (pIn S W n) k) hok
      have q3 : (if k = 0 then 0 else pIn S W n (amx (pIn S W n) k)) < 2 ^ 31 := by split <;> omega
      simp (disch := omega) only [Option.some.injEq, exists_eq_left', exists_eq_left, forall_eq, true_and, and_true, gr_si, gl_si, gr_sl, gi_sl, gr_sA, gl_sA, j_0, j_1, j_2, j_3, j_4, j_5, j_6, j_7, j_8, j_9, j_10, j_11, j_12, j_13, j_14, j_15, j_16, j_18, j_19, j_20, j_21, j_22, j_23, j_24, j_28, j_30, j_33, j_40, j_48, j_60, j_66, j_96, j_97, j_99, j_100, j_122, j_125, j_126, j_127, j_128, j_255, j_495, j_1000, j_1001, j_1023, j_1024, j_1100, j_1386, j_1452, j_9999, nN_1, nI_add, pk_mul, pk_sub, nI_clamp, vpI, nI_leI, nI_ltI, nI_eq, nN_eq, nN_eq', nN_lt, nN_nlt, nN_le, nN_nle, b_bit, n_bit, b_eq0, b_eq1, wO hw, wA1 hw, wA2 hw, wA3 hw, wL1 hw, wL2 hw, wL3 hw, wR5 hz hw, wR6 hz hw, wR7 hz hw, tO ht, tO1 ht, tA2 ht, tL2 ht, tA3 ht, tL3 ht, tA4 ht, tL4 ht, tA5 ht, tL5 ht, tA6 ht, tL6 ht, tA7 ht, tL7 ht, tA8 ht, tL8 ht, tA9 ht, tL9 ht, tR0 hz ht, tR1 hz ht, tR2 hz ht, tR3 hz ht, tR4 hz ht, tR5 hz ht, tR6 hz ht, tRl0 hz ht, tRl1 hz ht, hS.2.1, Nat.le_refl, if_true]
      rw [if_neg (show ¬ k + 1 = 0 by omega)] at ih
      simp only [amx] at ih
      by_cases h0 : k = 0
      · subst h0
        simp only [amx, Nat.lt_irrefl, if_false] at ih
        rw [if_pos rfl]
        by_cases hx : pIn S W n 0 ≤ 0
        · rw [if_pos hx]
          rw [show pIn S W n 0 = 0 by omega] at ih
          exact ih
        · rw [if_neg hx]
          exact ih
      · rw [if_neg h0] at q3 ⊢
        by_cases hx : pIn S W n k ≤ pIn S W n (amx (pIn S W n) k)
        · rw [if_pos hx]
          rw [if_neg (by omega)] at ih
          exact ih
        · rw [if_neg hx]
          rw [if_pos (by omega)] at ih
          exact ih
    · unfold wX6_mostPeopled_L23 wX6_mostPeopled_B23
      unfold wX6_mostPeopled_J63 wX6_mostPeopled_J64
      have e := hW.2.2.2.1 i hi
      have e2 := hwk i hi
      simp (disch := omega) only [Option.some.injEq, exists_eq_left', exists_eq_left, forall_eq, true_and, and_true, gr_si, gl_si, gr_sl, gi_sl, gr_sA, gl_sA, j_0, j_1, j_2, j_3, j_4, j_5, j_6, j_7, j_8, j_9, j_10, j_11, j_12, j_13, j_14, j_15, j_16, j_18, j_19, j_20, j_21, j_22, j_23, j_24, j_28, j_30, j_33, j_40, j_48, j_60, j_66, j_96, j_97, j_99, j_100, j_122, j_125, j_126, j_127, j_128, j_255, j_495, j_1000, j_1001, j_1023, j_1024, j_1100, j_1386, j_1452, j_9999, nN_1, nI_add, pk_mul, pk_sub, nI_clamp, vpI, nI_leI, nI_ltI, nI_eq, nN_eq, nN_eq', nN_lt, nN_nlt, nN_le, nN_nle, b_bit, n_bit, b_eq0, b_eq1, wO hw, wA1 hw, wA2 hw, wA3 hw, wL1 hw, wL2 hw, wL3 hw, wR5 hz hw, wR6 hz hw, wR7 hz hw, tO ht, tO1 ht, tA2 ht, tL2 ht, tA3 ht, tL3 ht, tA4 ht, tL4 ht, tA5 ht, tL5 ht, tA6 ht, tL6 ht, tA7 ht, tL7 ht, tA8 ht, tL8 ht, tA9 ht, tL9 ht, tR0 hz ht, tR1 hz ht, tR2 hz ht, tR3 hz ht, tR4 hz ht, tR5 hz ht, tR6 hz ht, tRl0 hz ht, tRl1 hz ht, hS.2.1, if_neg (show ¬ sPE S ≤ i by omega), e]
      refine ⟨by omega, ?_⟩
      simp only [cB] at ih2
      by_cases c1 : wC W i < k
      · rw [if_pos c1]
        simpa [show ¬ k ≤ wC W i by omega] using ih2
      · rw [if_neg c1]
        by_cases c2 : k + n ≤ wC W i
        · rw [if_pos c2]
          simpa [show ¬ wC W i < k + n by omega] using ih2
        · rw [if_neg c2]
          simpa [show k ≤ wC W i by omega, show wC W i < k + n by omega] using ih2
theorem m_peopleIn (hz : sR z) (hS : mS z S) (hW : mW z 0 S W) (hok : sOK S) {n c : Nat} (h1n : 1 ≤ n) (hn : n ≤ 10) (hc : c < 100) (hwk : ∀ p, p < sPE S → wC W p < 10) (h : P (nI (pIn S W n c)) z) : wX12_peopleIn 148 gSH 129 (nI c) (nI n) z P := by
  have h5 := hok.2.1
  refine lp (fun m i => wX12_peopleIn_L5 148 gSH P m 129 (nI c) (nI n) (nI (cB i (fun p => decide (c ≤ wC W p) && decide (wC W p < c + n)))) (nI i) z) (sPE S) (fun m => ?_) (fun m i hi ih => ?_)
  · unfold wX12_peopleIn_L5 wX12_peopleIn_B5
    refine ⟨mO, m_people hz hS ?_⟩
    rw [if_pos (nI_le (by omega) (by omega))]
    exact h
  · unfold wX12_peopleIn_L5 wX12_peopleIn_B5
    refine ⟨mO, m_people hz hS ?_⟩
    have e := hW.2.1 i hi
    rw [Nat.zero_add] at e
    have e2 := hwk i hi
    simp (disch := omega) only [Option.some.injEq, exists_eq_left', exists_eq_left, forall_eq, true_and, and_true, gr_si, gl_si, gr_sl, gi_sl, gr_sA, gl_sA, j_0, j_1, j_2, j_3, j_4, j_5, j_6, j_7, j_8, j_9, j_10, j_11, j_12, j_13, j_14, j_15, j_16, j_18, j_19, j_20, j_21, j_22, j_23, j_24, j_28, j_30, j_33, j_40, j_48, j_60, j_66, j_96, j_97, j_99, j_100, j_122, j_125, j_126, j_127, j_128, j_255, j_495, j_1000, j_1001, j_1023, j_1024, j_1100, j_1386, j_1452, j_9999, nN_1, nI_add, pk_mul, pk_sub, nI_clamp, vpI, nI_leI, nI_ltI, nI_eq, nN_eq, nN_eq', nN_lt, nN_nlt, nN_le, nN_nle, b_bit, n_bit, b_eq0, b_eq1, mO, mR10 hz, mA135, mL135, mR24 hz, mA145, mL145, if_neg (show ¬ sPE S ≤ i by omega), e]
    refine ⟨by omega, ?_⟩
    unfold wX12_peopleIn_J41
    simp only [cB] at ih
    refine m_within (by omega) (by omega) (by omega) (fun q => ?_) (fun v ev l1 l2 => ?_)
    · simp (disch := omega) only [Option.some.injEq, exists_eq_left', exists_eq_left, forall_eq, true_and, and_true, gr_si, gl_si, gr_sl, gi_sl, gr_sA, gl_sA, j_0, j_1, j_2, j_3, j_4, j_5, j_6, j_7, j_8, j_9, j_10, j_11, j_12, j_13, j_14, j_15, j_16, j_18, j_19, j_20, j_21, j_22, j_23, j_24, j_28, j_30, j_33, j_40, j_48, j_60, j_66, j_96, j_97, j_99, j_100, j_122, j_125, j_126, j_127, j_128, j_255, j_495, j_1000, j_1001, j_1023, j_1024, j_1100, j_1386, j_1452, j_9999, nN_1, nI_add, pk_mul, pk_sub, nI_clamp, vpI, nI_leI, nI_ltI, nI_eq, nN_eq, nN_eq', nN_lt, nN_nlt, nN_le, nN_nle, b_bit, n_bit, b_eq0, b_eq1, mO, mR10 hz, mA135, mL135, mR24 hz, mA145, mL145, if_true]
      have hf : (decide (c ≤ wC W i) && decide (wC W i < c + n)) = false := by
        by_cases c1 : c ≤ wC W i
        · by_cases c2 : wC W i < c + n
          · exact absurd rfl (q (wC W i) (by omega) (by omega))
          · simp [c2]
        · simp [c1]
      rw [hf] at ih
      exact ih
    · simp (disch := omega) only [Option.some.injEq, exists_eq_left', exists_eq_left, forall_eq, true_and, and_true, gr_si, gl_si, gr_sl, gi_sl, gr_sA, gl_sA, j_0, j_1, j_2, j_3, j_4, j_5, j_6, j_7, j_8, j_9, j_10, j_11, j_12, j_13, j_14, j_15, j_16, j_18, j_19, j_20, j_21, j_22, j_23, j_24, j_28, j_30, j_33, j_40, j_48, j_60, j_66, j_96, j_97, j_99, j_100, j_122, j_125, j_126, j_127, j_128, j_255, j_495, j_1000, j_1001, j_1023, j_1024, j_1100, j_1386, j_1452, j_9999, nN_1, nI_add, pk_mul, pk_sub, nI_clamp, vpI, nI_leI, nI_ltI, nI_eq, nN_eq, nN_eq', nN_lt, nN_nlt, nN_le, nN_nle, b_bit, n_bit, b_eq0, b_eq1, mO, mR10 hz, mA135, mL135, mR24 hz, mA145, mL145, Nat.one_ne_zero, if_false]
      have e3 : wC W i = v := (nI_eq (by omega) (by omega)).mp ev
      subst e3
      have hf : (decide (c ≤ wC W i) && decide (wC W i < c + n)) = true := by simp; omega
      rw [hf] at ih
      exact ih
theorem m_glass (hz : sR z) (hS : mS z S) (hW : mW z 0 S W) (hok : sOK S) {n : Nat} (h1n : 1 ≤ n) (hn : n ≤ 10) (hwk : ∀ p, p < sPE S → wC W p < 10) (h : P (nI (amx (pIn S W n) (11 - n))) z) : ∃ N, wX12_glass_L21 148 gSH P N 129 (nI n) (nI 0) (nI 1) z := by
  suffices hh : ∃ N, wX12_glass_L21 148 gSH P N 129 (nI n) (nI (amx (pIn S W n) 1)) (nI 1) z by simpa only [amx, Nat.lt_irrefl, if_false] using hh
  refine lpf (fun m k => wX12_glass_L21 148 gSH P m 129 (nI n) (nI (amx (pIn S W n) k)) (nI k) z) 1 (11 - n) (by omega) (fun m => ?_) (fun m k hb hk ih => ?_)
  · unfold wX12_glass_L21 wX12_glass_B21
    simp (disch := omega) only [Option.some.injEq, exists_eq_left', exists_eq_left, forall_eq, true_and, and_true, gr_si, gl_si, gr_sl, gi_sl, gr_sA, gl_sA, j_0, j_1, j_2, j_3, j_4, j_5, j_6, j_7, j_8, j_9, j_10, j_11, j_12, j_13, j_14, j_15, j_16, j_18, j_19, j_20, j_21, j_22, j_23, j_24, j_28, j_30, j_33, j_40, j_48, j_60, j_66, j_96, j_97, j_99, j_100, j_122, j_125, j_126, j_127, j_128, j_255, j_495, j_1000, j_1001, j_1023, j_1024, j_1100, j_1386, j_1452, j_9999, nN_1, nI_add, pk_mul, pk_sub, nI_clamp, vpI, nI_leI, nI_ltI, nI_eq, nN_eq, nN_eq', nN_lt, nN_nlt, nN_le, nN_nle, b_bit, n_bit, b_eq0, b_eq1, mO, mR10 hz, mA135, mL135, mR24 hz, mA145, mL145, if_pos (show 10 < 11 - n + n by omega)]
    exact h
  · unfold wX12_glass_L21 wX12_glass_B21
    simp (disch := omega) only [Option.some.injEq, exists_eq_left', exists_eq_left, forall_eq, true_and, and_true, gr_si, gl_si, gr_sl, gi_sl, gr_sA, gl_sA, j_0, j_1, j_2, j_3, j_4, j_5, j_6, j_7, j_8, j_9, j_10, j_11, j_12, j_13, j_14, j_15, j_16, j_18, j_19, j_20, j_21, j_22, j_23, j_24, j_28, j_30, j_33, j_40, j_48, j_60, j_66, j_96, j_97, j_99, j_100, j_122, j_125, j_126, j_127, j_128, j_255, j_495, j_1000, j_1001, j_1023, j_1024, j_1100, j_1386, j_1452, j_9999, nN_1, nI_add, pk_mul, pk_sub, nI_clamp, vpI, nI_leI, nI_ltI, nI_eq, nN_eq, nN_eq', nN_lt, nN_nlt, nN_le, nN_nle, b_bit, n_bit, b_eq0, b_eq1, mO, mR10 hz, mA135, mL135, mR24 hz, mA145, mL145, if_neg (show ¬ 10 < k + n by omega)]
    have ha := amx_lt (pIn S W n) (k := k) (by omega)
    refine m_peopleIn hz hS hW hok h1n hn (by omega) hwk (m_peopleIn hz hS hW hok h1n hn (by omega) hwk ?_)
    have q1 := pIn_le (W := W) (n := n) (c := k) hok
    have q2 := pIn_le (W := W) (n := n) (c := amx (pIn S W n) k) hok
    unfold wX12_glass_J49
    simp (disch := omega) only [Option.some.injEq, exists_eq_left', exists_eq_left, forall_eq, true_and, and_true, gr_si, gl_si, gr_sl, gi_sl, gr_sA, gl_sA, j_0, j_1, j_2, j_3, j_4, j_5, j_6, j_7, j_8, j_9, j_10, j_11, j_12, j_13, j_14, j_15, j_16, j_18, j_19, j_20, j_21, j_22, j_23, j_24, j_28, j_30, j_33, j_40, j_48, j_60, j_66, j_96, j_97, j_99, j_100, j_122, j_125, j_126, j_127, j_128, j_255, j_495, j_1000, j_1001, j_1023, j_1024, j_1100, j_1386, j_1452, j_9999, nN_1, nI_add, pk_mul, pk_sub, nI_clamp, vpI, nI_leI, nI_ltI, nI_eq, nN_eq, nN_eq', nN_lt, nN_nlt, nN_le, nN_nle, b_bit, n_bit, b_eq0, b_eq1, mO, mR10 hz, mA135, mL135, mR24 hz, mA145, mL145]
    simp only [amx] at ih
    by_cases hx : pIn S W n k ≤ pIn S W n (amx (pIn S W n) k)
    · rw [if_pos hx]
      rw [if_neg (by omega)] at ih
      exact ih
    · rw [if_neg hx]
      rw [if_pos (by omega)] at ih
      exact ih
end RC
