/-! ===== what panes see: blind, eyes, hide, dark ===== -/
def aBl (S : sS) (W : sW) : Nat := bs 10 (fun c => !xB (sPA S) (fun p => sSi S W p c))
def aEy (S : sS) (W : sW) : Nat := amx (fun c => pcs 30 (sWa S W c)) 10
theorem sWa_lt {S : sS} {W : sW} {c : Nat} (hok : sOK S) : sWa S W c < 64 := bs_64 _ hok.1
section RC
variable {z : gS} {w t g b : Nat} {S : sS} {W : sW} {P : Int32 → gS → Prop}
theorem c_unseenCells (hz : sR z) (hw : isW w) (ht : isS t) (hS : cS z t S) (hW : cW z w S W) (hok : sOK S) (hT : wT W < 2 ^ 30) (h : P (nI (aBl S W)) z) : wX6_unseenCells 148 gSH t w z P := by
  have h6 := hok.1
  refine lp (fun m k => wX6_unseenCells_L6 148 gSH P m t w (nI (bs 10 (fun c => !xB k (fun p => sSi S W p c)))) (nI k) z) (sPA S) (fun m => ?_) (fun m k hk ih => ?_)
  · unfold wX6_unseenCells_L6 wX6_unseenCells_B6
    simp (disch := omega) only [Option.some.injEq, exists_eq_left', exists_eq_left, forall_eq, true_and, and_true, gr_si, gl_si, gr_sl, gi_sl, gr_sA, gl_sA, j_0, j_1, j_2, j_3, j_4, j_5, j_6, j_7, j_8, j_9, j_10, j_11, j_12, j_13, j_14, j_15, j_16, j_18, j_19, j_20, j_21, j_22, j_23, j_24, j_28, j_30, j_33, j_40, j_48, j_60, j_66, j_96, j_97, j_99, j_100, j_122, j_125, j_126, j_127, j_128, j_255, j_495, j_1000, j_1001, j_1023, j_1024, j_1100, j_1386, j_1452, j_9999, nN_1, nI_add, pk_mul, pk_sub, nI_clamp, vpI, nI_leI, nI_ltI, nI_eq, nN_eq, nN_eq', nN_lt, nN_nlt, nN_le, nN_nle, b_bit, n_bit, b_eq0, b_eq1, wO hw, wA1 hw, wA2 hw, wA3 hw, wL1 hw, wL2 hw, wL3 hw, wR5 hz hw, wR6 hz hw, wR7 hz hw, tO ht, tO1 ht, tA2 ht, tL2 ht, tA3 ht, tL3 ht, tA4 ht, tL4 ht, tA5 ht, tL5 ht, tA6 ht, tL6 ht, tA7 ht, tL7 ht, tA8 ht, tL8 ht, tA9 ht, tL9 ht, tR0 hz ht, tR1 hz ht, tR2 hz ht, tR3 hz ht, tR4 hz ht, tR5 hz ht, tR6 hz ht, tRl0 hz ht, tRl1 hz ht, hS.1, Nat.le_refl, if_true]
    exact h
  · unfold wX6_unseenCells_L6 wX6_unseenCells_B6
    simp (disch := omega) only [Option.some.injEq, exists_eq_left', exists_eq_left, forall_eq, true_and, and_true, gr_si, gl_si, gr_sl, gi_sl, gr_sA, gl_sA, j_0, j_1, j_2, j_3, j_4, j_5, j_6, j_7, j_8, j_9, j_10, j_11, j_12, j_13, j_14, j_15, j_16, j_18, j_19, j_20, j_21, j_22, j_23, j_24, j_28, j_30, j_33, j_40, j_48, j_60, j_66, j_96, j_97, j_99, j_100, j_122, j_125, j_126, j_127, j_128, j_255, j_495, j_1000, j_1001, j_1023, j_1024, j_1100, j_1386, j_1452, j_9999, nN_1, nI_add, pk_mul, pk_sub, nI_clamp, vpI, nI_leI, nI_ltI, nI_eq, nN_eq, nN_eq', nN_lt, nN_nlt, nN_le, nN_nle, b_bit, n_bit, b_eq0, b_eq1, wO hw, wA1 hw, wA2 hw, wA3 hw, wL1 hw, wL2 hw, wL3 hw, wR5 hz hw, wR6 hz hw, wR7 hz hw, tO ht, tO1 ht, tA2 ht, tL2 ht, tA3 ht, tL3 ht, tA4 ht, tL4 ht, tA5 ht, tL5 ht, tA6 ht, tL6 ht, tA7 ht, tL7 ht, tA8 ht, tL8 ht, tA9 ht, tL9 ht, tR0 hz ht, tR1 hz ht, tR2 hz ht, tR3 hz ht, tR4 hz ht, tR5 hz ht, tR6 hz ht, tRl0 hz ht, tRl1 hz ht, hS.1, if_neg (show ¬ sPA S ≤ k by omega)]
    refine c_sightOf hz hw ht hS hW hok hT hk ?_
    rw [bs_andnN (by decide)]
    simpa [xB] using ih
theorem m_blind (hz : sR z) (hS : mS z S) (hW : mW z 0 S W) (hok : sOK S) (hT : wT W < 2 ^ 30) (h : P (nI (aBl S W)) z) : ∃ N, wX12_blind_L9 148 gSH P N 129 0 0 z := by
  refine lp (fun m k => wX12_blind_L9 148 gSH P m 129 (nI (bs k (fun c => !xB (sPA S) (fun p => sSi S W p c)))) (nI k) z) 10 (fun m => ?_) (fun m k hk ih => ?_)
  · unfold wX12_blind_L9 wX12_blind_B9
    simp (disch := omega) only [Option.some.injEq, exists_eq_left', exists_eq_left, forall_eq, true_and, and_true, gr_si, gl_si, gr_sl, gi_sl, gr_sA, gl_sA, j_0, j_1, j_2, j_3, j_4, j_5, j_6, j_7, j_8, j_9, j_10, j_11, j_12, j_13, j_14, j_15, j_16, j_18, j_19, j_20, j_21, j_22, j_23, j_24, j_28, j_30, j_33, j_40, j_48, j_60, j_66, j_96, j_97, j_99, j_100, j_122, j_125, j_126, j_127, j_128, j_255, j_495, j_1000, j_1001, j_1023, j_1024, j_1100, j_1386, j_1452, j_9999, nN_1, nI_add, pk_mul, pk_sub, nI_clamp, vpI, nI_leI, nI_ltI, nI_eq, nN_eq, nN_eq', nN_lt, nN_nlt, nN_le, nN_nle, b_bit, n_bit, b_eq0, b_eq1, mO, mR10 hz, mA135, mL135, mR24 hz, mA145, mL145, Nat.le_refl, if_true]
    exact h
  · unfold wX12_blind_L9 wX12_blind_B9
    simp (disch := omega) only [Option.some.injEq, exists_eq_left', exists_eq_left, forall_eq, true_and, and_true, gr_si, gl_si, gr_sl, gi_sl, gr_sA, gl_sA, j_0, j_1, j_2, j_3, j_4, j_5, j_6, j_7, j_8, j_9, j_10, j_11, j_12, j_13, j_14, j_15, j_16, j_18, j_19, j_20, j_21, j_22, j_23, j_24, j_28, j_30, j_33, j_40, j_48, j_60, j_66, j_96, j_97, j_99, j_100, j_122, j_125, j_126, j_127, j_128, j_255, j_495, j_1000, j_1001, j_1023, j_1024, j_1100, j_1386, j_1452, j_9999, nN_1, nI_add, pk_mul, pk_sub, nI_clamp, vpI, nI_leI, nI_ltI, nI_eq, nN_eq, nN_eq', nN_lt, nN_nlt, nN_le, nN_nle, b_bit, n_bit, b_eq0, b_eq1, mO, mR10 hz, mA135, mL135, mR24 hz, mA145, mL145, if_neg (show ¬ 10 ≤ k by omega)]
    refine m_seersOf (b := 0) hz hS hW hok hT (by decide) hk ?_
    have hl := sWa_lt (W := W) (c := k) hok
    unfold wX12_blind_J32
    simp (disch := omega) only [Option.some.injEq, exists_eq_left', exists_eq_left, forall_eq, true_and, and_true, gr_si, gl_si, gr_sl, gi_sl, gr_sA, gl_sA, j_0, j_1, j_2, j_3, j_4, j_5, j_6, j_7, j_8, j_9, j_10, j_11, j_12, j_13, j_14, j_15, j_16, j_18, j_19, j_20, j_21, j_22, j_23, j_24, j_28, j_30, j_33, j_40, j_48, j_60, j_66, j_96, j_97, j_99, j_100, j_122, j_125, j_126, j_127, j_128, j_255, j_495, j_1000, j_1001, j_1023, j_1024, j_1100, j_1386, j_1452, j_9999, nN_1, nI_add, pk_mul, pk_sub, nI_clamp, vpI, nI_leI, nI_ltI, nI_eq, nN_eq, nN_eq', nN_lt, nN_nlt, nN_le, nN_nle, b_bit, n_bit, b_eq0, b_eq1, mO, mR10 hz, mA135, mL135, mR24 hz, mA145, mL145]
    have e : (sWa S W k = 0) = (xB (sPA S) (fun p => sSi S W p k) = false) := bs_0 _ _
    by_cases hx : xB (sPA S) (fun p => sSi S W p k) = false
    · rw [if_pos (e.mpr hx), bs_stY (by omega) (by simp [hx])]
      exact ih
    · rw [if_neg (fun q => hx (e.mp q)), bs_stN (by omega) (by simpa using hx)]
      exact ih
theorem c_mostWatched (hz : sR z) (hw : isW w) (ht : isS t) (hS : cS z t S) (hW : cW z w S W) (hok : sOK S) (hT : wT W < 2 ^ 30) (h : P (nI (aEy S W)) z) : wX6_mostWatched 148 gSH t w z P := by
  refine lp (fun m k => wX6_mostWatched_L7 148 gSH P m t w (nI (amx (fun c => pcs 30 (sWa S W c)) k)) (nI (if k = 0 then 0 else pcs 30 (sWa S W (amx (fun c => pcs 30 (sWa S W c)) k)))) (nI k) z) 10 (fun m => ?_) (fun m k hk ih => ?_)
  · unfold wX6_mostWatched_L7 wX6_mostWatched_B7
    simp (disch := omega) only [Option.some.injEq, exists_eq_left', exists_eq_left, forall_eq, true_and, and_true, gr_si, gl_si, gr_sl, gi_sl, gr_sA, gl_sA, j_0, j_1, j_2, j_3, j_4, j_5, j_6, j_7, j_8, j_9, j_10, j_11, j_12, j_13, j_14, j_15, j_16, j_18, j_19, j_20, j_21, j_22, j_23, j_24, j_28, j_30, j_33, j_40, j_48, j_60, j_66, j_96, j_97, j_99, j_100, j_122, j_125, j_126, j_127, j_128, j_255, j_495, j_1000, j_1001, j_1023, j_1024, j_1100, j_1386, j_1452, j_9999, nN_1, nI_add, pk_mul, pk_sub, nI_clamp, vpI, nI_leI, nI_ltI, nI_eq, nN_eq, nN_eq', nN_lt, nN_nlt, nN_le, nN_nle, b_bit, n_bit, b_eq0, b_eq1, wO hw, wA1 hw, wA2 hw, wA3 hw, wL1 hw, wL2 hw, wL3 hw, wR5 hz hw, wR6 hz hw, wR7 hz hw, tO ht, tO1 ht, tA2 ht, tL2 ht, tA3 ht, tL3 ht, tA4 ht, tL4 ht, tA5 ht, tL5 ht, tA6 ht, tL6 ht, tA7 ht, tL7 ht, tA8 ht, tL8 ht, tA9 ht, tL9 ht, tR0 hz ht, tR1 hz ht, tR2 hz ht, tR3 hz ht, tR4 hz ht, tR5 hz ht, tR6 hz ht, tRl0 hz ht, tRl1 hz ht, Nat.le_refl, if_true]
    exact h
  · unfold wX6_mostWatched_L7 wX6_mostWatched_B7
    simp (disch := omega) only [Option.some.injEq, exists_eq_left', exists_eq_left, forall_eq, true_and, and_true, gr_si, gl_si, gr_sl, gi_sl, gr_sA, gl_sA, j_0, j_1, j_2, j_3, j_4, j_5, j_6, j_7, j_8, j_9, j_10, j_11, j_12, j_13, j_14, j_15, j_16, j_18, j_19, j_20, j_21, j_22, j_23, j_24, j_28, j_30, j_33, j_40, j_48, j_60, j_66, j_96, j_97, j_99, j_100, j_122, j_125, j_126, j_127, j_128, j_255, j_495, j_1000, j_1001, j_1023, j_1024, j_1100, j_1386, j_1452, j_9999, nN_1, nI_add, pk_mul, pk_sub, nI_clamp, vpI, nI_leI, nI_ltI, nI_eq, nN_eq, nN_eq', nN_lt, nN_nlt, nN_le, nN_nle, b_bit, n_bit, b_eq0, b_eq1, wO hw, wA1 hw, wA2 hw, wA3 hw, wL1 hw, wL2 hw, wL3 hw, wR5 hz hw, wR6 hz hw, wR7 hz hw, tO ht, tO1 ht, tA2 ht, tL2 ht, tA3 ht, tL3 ht, tA4 ht, tL4 ht, tA5 ht, tL5 ht, tA6 ht, tL6 ht, tA7 ht, tL7 ht, tA8 ht, tL8 ht, tA9 ht, tL9 ht, tR0 hz ht, tR1 hz ht, tR2 hz ht, tR3 hz ht, tR4 hz ht, tR5 hz ht, tR6 hz ht, tRl0 hz ht, tRl1 hz ht, if_neg (show ¬ 10 ≤ k by omega)]
    refine c_watchersOf hz hw ht hS hW hok hT hk (j_bitCount (by have := sWa_lt (W := W) (c := k) hok; omega) ?_)
    unfold wX6_mostWatched_J38
    have h1 := pcs_le (sWa S W k) 30
    have h2 := pcs_le (sWa S W (amx (fun c => pcs 30 (sWa S W c)) k)) 30
    have h3 : (if k = 0 then 0 else pcs 30 (sWa S W (amx (fun c => pcs 30 (sWa S W c)) k))) < 2 ^ 31 := by split <;> omega
    simp (disch := omega) only [Option.some.injEq, exists_eq_left', exists_eq_left, forall_eq, true_and, and_true, gr_si, gl_si, gr_sl, gi_sl, gr_sA, gl_sA, j_0, j_1, j_2, j_3, j_4, j_5, j_6, j_7, j_8, j_9, j_10, j_11, j_12, j_13, j_14, j_15, j_16, j_18, j_19, j_20, j_21, j_22, j_23, j_24, j_28, j_30, j_33, j_40, j_48, j_60, j_66, j_96, j_97, j_99, j_100, j_122, j_125, j_126, j_127, j_128, j_255, j_495, j_1000, j_1001, j_1023, j_1024, j_1100, j_1386, j_1452, j_9999, nN_1, nI_add, pk_mul, pk_sub, nI_clamp, vpI, nI_leI, nI_ltI, nI_eq, nN_eq, nN_eq', nN_lt, nN_nlt, nN_le, nN_nle, b_bit, n_bit, b_eq0, b_eq1, wO hw, wA1 hw, wA2 hw, wA3 hw, wL1 hw, wL2 hw, wL3 hw, wR5 hz hw, wR6 hz hw, wR7 hz hw, tO ht, tO1 ht, tA2 ht, tL2 ht, tA3 ht, tL3 ht, tA4 ht, tL4 ht, tA5 ht, tL5 ht, tA6 ht, tL6 ht, tA7 ht, tL7 ht, tA8 ht, tL8 ht, tA9 ht, tL9 ht, tR0 hz ht, tR1 hz ht, tR2 hz ht, tR3 hz ht, tR4 hz ht, tR5 hz ht, tR6 hz ht, tRl0 hz ht, tRl1 hz ht]
    rw [if_neg (show ¬ k + 1 = 0 by omega)] at ih
    simp only [amx] at ih
    by_cases h0 : k = 0
    · subst h0
      simp only [amx, Nat.lt_irrefl, if_false] at ih
      rw [if_pos rfl]
      by_cases hx : pcs 30 (sWa S W 0) ≤ 0
      · rw [if_pos hx]
        rw [show pcs 30 (sWa S W 0) = 0 by omega] at ih
        exact ih
      · rw [if_neg hx]
        exact ih
    · rw [if_neg h0]
      by_cases hx : pcs 30 (sWa S W k) ≤ pcs 30 (sWa S W (amx (fun c => pcs 30 (sWa S W c)) k))
      · rw [if_pos hx]
        rw [if_neg (by omega)] at ih
        exact ih
      · rw [if_neg hx]
        rw [if_pos (by omega)] at ih
        exact ih
theorem m_eyes (hz : sR z) (hS : mS z S) (hW : mW z 0 S W) (hok : sOK S) (hT : wT W < 2 ^ 30) (h : P (nI (aEy S W)) z) : ∃ N, wX12_eyes_L9 148 gSH P N 129 (nI 0) (nI 1) z := by
  suffices hh : ∃ N, wX12_eyes_L9 148 gSH P N 129 (nI (amx (fun c => pcs 30 (sWa S W c)) 1)) (nI 1) z by simpa only [amx, Nat.lt_irrefl, if_false] using hh
  refine lpf (fun m k => wX12_eyes_L9 148 gSH P m 129 (nI (amx (fun c => pcs 30 (sWa S W c)) k)) (nI k) z) 1 10 (by decide) (fun m => ?_) (fun m k hb hk ih => ?_)
  · unfold wX12_eyes_L9 wX12_eyes_B9
    simp (disch := omega) only [Option.some.injEq, exists_eq_left', exists_eq_left, forall_eq, true_and, and_true, gr_si, gl_si, gr_sl, gi_sl, gr_sA, gl_sA, j_0, j_1, j_2, j_3, j_4, j_5, j_6, j_7, j_8, j_9, j_10, j_11, j_12, j_13, j_14, j_15, j_16, j_18, j_19, j_20, j_21, j_22, j_23, j_24, j_28, j_30, j_33, j_40, j_48, j_60, j_66, j_96, j_97, j_99, j_100, j_122, j_125, j_126, j_127, j_128, j_255, j_495, j_1000, j_1001, j_1023, j_1024, j_1100, j_1386, j_1452, j_9999, nN_1, nI_add, pk_mul, pk_sub, nI_clamp, vpI, nI_leI, nI_ltI, nI_eq, nN_eq, nN_eq', nN_lt, nN_nlt, nN_le, nN_nle, b_bit, n_bit, b_eq0, b_eq1, mO, mR10 hz, mA135, mL135, mR24 hz, mA145, mL145, Nat.le_refl, if_true]
    exact h
  · unfold wX12_eyes_L9 wX12_eyes_B9
    simp (disch := omega) only [Option.some.injEq, exists_eq_left', exists_eq_left, forall_eq, true_and, and_true, gr_si, gl_si, gr_sl, gi_sl, gr_sA, gl_sA, j_0, j_1, j_2, j_3, j_4, j_5, j_6, j_7, j_8, j_9, j_10, j_11, j_12, j_13, j_14, j_15, j_16, j_18, j_19, j_20, j_21, j_22, j_23, j_24, j_28, j_30, j_33, j_40, j_48, j_60, j_66, j_96, j_97, j_99, j_100, j_122, j_125, j_126, j_127, j_128, j_255, j_495, j_1000, j_1001, j_1023, j_1024, j_1100, j_1386, j_1452, j_9999, nN_1, nI_add, pk_mul, pk_sub, nI_clamp, vpI, nI_leI, nI_ltI, nI_eq, nN_eq, nN_eq', nN_lt, nN_nlt, nN_le, nN_nle, b_bit, n_bit, b_eq0, b_eq1, mO, mR10 hz, mA135, mL135, mR24 hz, mA145, mL145, if_neg (show ¬ 10 ≤ k by omega)]
    have ha := amx_lt (fun c => pcs 30 (sWa S W c)) (k := k) (by omega)
    refine m_seersOf (b := 0) hz hS hW hok hT (by decide) hk (m_bits (by have := sWa_lt (W := W) (c := k) hok; omega) ?_)
    refine m_seersOf (b := 0) hz hS hW hok hT (by decide) (by omega) (m_bits (by have := sWa_lt (W := W) (c := amx (fun c => pcs 30 (sWa S W c)) k) hok; omega) ?_)
    unfold wX12_eyes_J41
    have h1 := pcs_le (sWa S W k) 30
    have h2 := pcs_le (sWa S W (amx (fun c => pcs 30 (sWa S W c)) k)) 30
    simp (disch := omega) only [Option.some.injEq, exists_eq_left', exists_eq_left, forall_eq, true_and, and_true, gr_si, gl_si, gr_sl, gi_sl, gr_sA, gl_sA, j_0, j_1, j_2, j_3, j_4, j_5, j_6, j_7, j_8, j_9, j_10, j_11, j_12, j_13, j_14, j_15, j_16, j_18, j_19, j_20, j_21, j_22, j_23, j_24, j_28, j_30, j_33, j_40, j_48, j_60, j_66, j_96, j_97, j_99, j_100, j_122, j_125, j_126, j_127, j_128, j_255, j_495, j_1000, j_1001, j_1023, j_1024, j_1100, j_1386, j_1452, j_9999, nN_1, nI_add, pk_mul, pk_sub, nI_clamp, vpI, nI_leI, nI_ltI, nI_eq, nN_eq, nN_eq', nN_lt, nN_nlt, nN_le, nN_nle, b_bit, n_bit, b_eq0, b_eq1, mO, mR10 hz, mA135, mL135, mR24 hz, mA145, mL145]
    simp only [amx] at ih
    by_cases hx : pcs 30 (sWa S W k) ≤ pcs 30 (sWa S W (amx (fun c => pcs 30 (sWa S W c)) k))
    · rw [if_pos hx]
      rw [if_neg (by omega)] at ih
      exact ih
    · rw [if_neg hx]
      rw [if_pos (by omega)] at ih
      exact ih
end RC
section RP
variable {z : gS} {t : Nat} {S : sS} {W : sW} {Q : Int32 → Int32 → gS → Prop}
theorem p_blind (h : Rd z t S W) (hQ : ∀ r, Q r r (si z 129 0 0)) : wX11_blind 148 gSH 0 z (fun r1 z1 => wX12_blind 148 gSH 129 z1 (fun r2 z2 => Q r1 r2 z2)) := by
  have hb := h.th (v := 0)
  obtain ⟨hz, ht, h7, hok, hwk, hT, hS, hW, hmS, hmW⟩ := h
  obtain ⟨gz, _, _, _, _, _, _, _, gmS, gmW⟩ := hb
  refine ⟨gO, t, h7, 3, gR1 hz, c_unseenCells hz w3 ht hS hW hok (by omega) ⟨mO, fun z2 e2 => ?_⟩⟩
  subst e2
  exact m_blind gz gmS gmW hok (by omega) (hQ _)
theorem p_eyes (h : Rd z t S W) (hQ : ∀ r, Q r r (si z 129 0 0)) : wX11_eyes 148 gSH 0 z (fun r1 z1 => wX12_eyes 148 gSH 129 z1 (fun r2 z2 => Q r1 r2 z2)) := by
  have hb := h.th (v := 0)
  obtain ⟨hz, ht, h7, hok, hwk, hT, hS, hW, hmS, hmW⟩ := h
  obtain ⟨gz, _, _, _, _, _, _, _, gmS, gmW⟩ := hb
  refine ⟨gO, t, h7, 3, gR1 hz, c_mostWatched hz w3 ht hS hW hok (by omega) ⟨mO, fun z2 e2 => ?_⟩⟩
  subst e2
  exact m_eyes gz gmS gmW hok (by omega) (hQ _)
end RP
