/-! ===== young, trail, worst, oldest, last, washes ===== -/
/-- one less -/
def pI (k : Nat) : Int32 := nI k - 1
theorem pI_e (k : Nat) : nI k - nI 1 = pI k := by first | (unfold pI; rfl)
theorem pI_a (k : Nat) : nI k + nN = pI k := by
  unfold pI nN
  rw [Int32.sub_eq_add_neg]
theorem pI_s (k : Nat) : pI (k + 1) = nI k := nI_pred k
theorem pI_0 : pI 0 = nN := by decide
def sN : Nat → (Nat → Nat) → Nat
  | 0, _ => 0
  | k + 1, f => sN k f + f k
def yC (W : sW) (x : Int32) (g : Nat) (j : Nat) : Bool := !decide (x < nI (mk W g j).2.2.2)
def aYo (S : sS) (W : sW) (x : Int32) : Nat := sN (sPA S) (fun g => cB (ln W g) (yC W x g))
def tsG (S : sS) (W : sW) (p g i c : Nat) : Bool := xB i (fun j => qP S W p g (mk W g j) && decide (c = (mk W g j).2.2.1))
def aTr (S : sS) (W : sW) (p k c : Nat) : Bool := xB k (fun g => tsG S W p g (ln W g) c)
def fWo (S : sS) (W : sW) : Nat → Option Nat × Nat
  | 0 => (none, 0)
  | p + 1 => if (fWo S W p).2 < hrm S (dsP W (qP S W p) 6 (sPA S)) then (some p, hrm S (dsP W (qP S W p) 6 (sPA S))) else fWo S W p
theorem fWo_le {S : sS} {W : sW} (hok : sOK S) : ∀ k, (fWo S W k).2 ≤ 495
  | 0 => by simp [fWo]
  | k + 1 => by
    have h := fWo_le (W := W) hok k
    rw [fWo]
    split
    · exact hrm_le hok _
    · exact h
section RC
variable {z : gS} {w t g b i : Nat} {S : sS} {W : sW} {P : Int32 → gS → Prop}
theorem c_marksUpTo (h : CW z t w S W) (x : Int32) (hP : P (nI (aYo S W x)) z) : wX3_marksUpTo 148 gSH t w x z P := by
  have hh := h
  obtain ⟨hz, ht, hw, hok, hwk, hT, hS, hW⟩ := h
  have h6 := hok.1
  refine lp (fun m k => wX3_marksUpTo_L5 148 gSH P m t w x (nI (sN k (fun g => cB (ln W g) (yC W x g)))) (nI k) z) (sPA S) (fun m => ?_) (fun m k hk ih => ?_)
  · unfold wX3_marksUpTo_L5 wX3_marksUpTo_B5
    simp (disch := omega) only [Option.some.injEq, exists_eq_left', exists_eq_left, forall_eq, true_and, and_true, gr_si, gl_si, gr_sl, gi_sl, gr_sA, gl_sA, j_0, j_1, j_2, j_3, j_4, j_5, j_6, j_7, j_8, j_9, j_10, j_11, j_12, j_13, j_14, j_15, j_16, j_18, j_19, j_20, j_21, j_22, j_23, j_24, j_28, j_30, j_33, j_40, j_48, j_60, j_66, j_96, j_97, j_99, j_100, j_122, j_125, j_126, j_127, j_128, j_255, j_495, j_1000, j_1001, j_1023, j_1024, j_1100, j_1386, j_1452, j_9999, nN_1, nI_add, pk_mul, pk_sub, nI_clamp, vpI, nI_leI, nI_ltI, nI_eq, nN_eq, nN_eq', nN_lt, nN_nlt, nN_le, nN_nle, b_bit, n_bit, b_eq0, b_eq1, wO hw, wA1 hw, wA2 hw, wA3 hw, wL1 hw, wL2 hw, wL3 hw, wR5 hz hw, wR6 hz hw, wR7 hz hw, tO ht, tO1 ht, tA2 ht, tL2 ht, tA3 ht, tL3 ht, tA4 ht, tL4 ht, tA5 ht, tL5 ht, tA6 ht, tL6 ht, tA7 ht, tL7 ht, tA8 ht, tL8 ht, tA9 ht, tL9 ht, tR0 hz ht, tR1 hz ht, tR2 hz ht, tR3 hz ht, tR4 hz ht, tR5 hz ht, tR6 hz ht, tRl0 hz ht, tRl1 hz ht, hS.1, Nat.le_refl, if_true]
    exact hP
  · unfold wX3_marksUpTo_L5 wX3_marksUpTo_B5
    simp (disch := omega) only [Option.some.injEq, exists_eq_left', exists_eq_left, forall_eq, true_and, and_true, gr_si, gl_si, gr_sl, gi_sl, gr_sA, gl_sA, j_0, j_1, j_2, j_3, j_4, j_5, j_6, j_7, j_8, j_9, j_10, j_11, j_12, j_13, j_14, j_15, j_16, j_18, j_19, j_20, j_21, j_22, j_23, j_24, j_28, j_30, j_33, j_40, j_48, j_60, j_66, j_96, j_97, j_99, j_100, j_122, j_125, j_126, j_127, j_128, j_255, j_495, j_1000, j_1001, j_1023, j_1024, j_1100, j_1386, j_1452, j_9999, nN_1, nI_add, pk_mul, pk_sub, nI_clamp, vpI, nI_leI, nI_ltI, nI_eq, nN_eq, nN_eq', nN_lt, nN_nlt, nN_le, nN_nle, b_bit, n_bit, b_eq0, b_eq1, wO hw, wA1 hw, wA2 hw, wA3 hw, wL1 hw, wL2 hw, wL3 hw, wR5 hz hw, wR6 hz hw, wR7 hz hw, tO ht, tO1 ht, tA2 ht, tL2 ht, tA3 ht, tL3 ht, tA4 ht, tL4 ht, tA5 ht, tL5 ht, tA6 ht, tL6 ht, tA7 ht, tL7 ht, tA8 ht, tL8 ht, tA9 ht, tL9 ht, tR0 hz ht, tR1 hz ht, tR2 hz ht, tR3 hz ht, tR4 hz ht, tR5 hz ht, tR6 hz ht, tRl0 hz ht, tRl1 hz ht, hS.1, if_neg (show ¬ sPA S ≤ k by omega)]
    have hl := ln_le hok hwk hk
    have e := hh.he hk
    refine lp (fun m2 i => wX3_marksUpTo_L17 148 gSH (wX3_marksUpTo_L5 148 gSH P m) P m2 t w x (nI (sN k (fun g => cB (ln W g) (yC W x g)) + cB i (yC W x k))) (nI k) (nI i) z) (ln W k) (fun m2 => ?_) (fun m2 i hi ih2 => ?_)
    · unfold wX3_marksUpTo_L17 wX3_marksUpTo_B17
      simp (disch := omega) only [Option.some.injEq, exists_eq_left', exists_eq_left, forall_eq, true_and, and_true, gr_si, gl_si, gr_sl, gi_sl, gr_sA, gl_sA, j_0, j_1, j_2, j_3, j_4, j_5, j_6, j_7, j_8, j_9, j_10, j_11, j_12, j_13, j_14, j_15, j_16, j_18, j_19, j_20, j_21, j_22, j_23, j_24, j_28, j_30, j_33, j_40, j_48, j_60, j_66, j_96, j_97, j_99, j_100, j_122, j_125, j_126, j_127, j_128, j_255, j_495, j_1000, j_1001, j_1023, j_1024, j_1100, j_1386, j_1452, j_9999, nN_1, nI_add, pk_mul, pk_sub, nI_clamp, vpI, nI_leI, nI_ltI, nI_eq, nN_eq, nN_eq', nN_lt, nN_nlt, nN_le, nN_nle, b_bit, n_bit, b_eq0, b_eq1, wO hw, wA1 hw, wA2 hw, wA3 hw, wL1 hw, wL2 hw, wL3 hw, wR5 hz hw, wR6 hz hw, wR7 hz hw, tO ht, tO1 ht, tA2 ht, tL2 ht, tA3 ht, tL3 ht, tA4 ht, tL4 ht, tA5 ht, tL5 ht, tA6 ht, tL6 ht, tA7 ht, tL7 ht, tA8 ht, tL8 ht, tA9 ht, tL9 ht, tR0 hz ht, tR1 hz ht, tR2 hz ht, tR3 hz ht, tR4 hz ht, tR5 hz ht, tR6 hz ht, tRl0 hz ht, tRl1 hz ht, e, Nat.le_refl, if_true]
      exact ⟨by omega, ih⟩
    · unfold wX3_marksUpTo_L17 wX3_marksUpTo_B17
      simp (disch := omega) only [Option.some.injEq, exists_eq_left', exists_eq_left, forall_eq, true_and, and_true, gr_si, gl_si, gr_sl, gi_sl, gr_sA, gl_sA, j_0, j_1, j_2, j_3, j_4, j_5, j_6, j_7, j_8, j_9, j_10, j_11, j_12, j_13, j_14, j_15, j_16, j_18, j_19, j_20, j_21, j_22, j_23, j_24, j_28, j_30, j_33, j_40, j_48, j_60, j_66, j_96, j_97, j_99, j_100, j_122, j_125, j_126, j_127, j_128, j_255, j_495, j_1000, j_1001, j_1023, j_1024, j_1100, j_1386, j_1452, j_9999, nN_1, nI_add, pk_mul, pk_sub, nI_clamp, vpI, nI_leI, nI_ltI, nI_eq, nN_eq, nN_eq', nN_lt, nN_nlt, nN_le, nN_nle, b_bit, n_bit, b_eq0, b_eq1, wO hw, wA1 hw, wA2 hw, wA3 hw, wL1 hw, wL2 hw, wL3 hw, wR5 hz hw, wR6 hz hw, wR7 hz hw, tO ht, tO1 ht, tA2 ht, tL2 ht, tA3 ht, tL3 ht, tA4 ht, tL4 ht, tA5 ht, tL5 ht, tA6 ht, tL6 ht, tA7 ht, tL7 ht, tA8 ht, tL8 ht, tA9 ht, tL9 ht, tR0 hz ht, tR1 hz ht, tR2 hz ht, tR3 hz ht, tR4 hz ht, tR5 hz ht, tR6 hz ht, tRl0 hz ht, tRl1 hz ht, e, if_neg (show ¬ ln W k ≤ i by omega)]
      refine ⟨by omega, ?_⟩
      obtain ⟨hm, _, _⟩ := mk_ok hok hwk hT hk hi
      refine c_markAt hh hk hi (c_ageOf hm ?_)
      unfold wX3_marksUpTo_J50
      simp (disch := omega) only [Option.some.injEq, exists_eq_left', exists_eq_left, forall_eq, true_and, and_true, gr_si, gl_si, gr_sl, gi_sl, gr_sA, gl_sA, j_0, j_1, j_2, j_3, j_4, j_5, j_6, j_7, j_8, j_9, j_10, j_11, j_12, j_13, j_14, j_15, j_16, j_18, j_19, j_20, j_21, j_22, j_23, j_24, j_28, j_30, j_33, j_40, j_48, j_60, j_66, j_96, j_97, j_99, j_100, j_122, j_125, j_126, j_127, j_128, j_255, j_495, j_1000, j_1001, j_1023, j_1024, j_1100, j_1386, j_1452, j_9999, nN_1, nI_add, pk_mul, pk_sub, nI_clamp, vpI, nI_leI, nI_ltI, nI_eq, nN_eq, nN_eq', nN_lt, nN_nlt, nN_le, nN_nle, b_bit, n_bit, b_eq0, b_eq1, wO hw, wA1 hw, wA2 hw, wA3 hw, wL1 hw, wL2 hw, wL3 hw, wR5 hz hw, wR6 hz hw, wR7 hz hw, tO ht, tO1 ht, tA2 ht, tL2 ht, tA3 ht, tL3 ht, tA4 ht, tL4 ht, tA5 ht, tL5 ht, tA6 ht, tL6 ht, tA7 ht, tL7 ht, tA8 ht, tL8 ht, tA9 ht, tL9 ht, tR0 hz ht, tR1 hz ht, tR2 hz ht, tR3 hz ht, tR4 hz ht, tR5 hz ht, tR6 hz ht, tRl0 hz ht, tRl1 hz ht]
      simp only [cB, yC] at ih2
      by_cases hx : x < nI (mk W k i).2.2.2
      · rw [if_pos hx]
        simpa [hx, yC] using ih2
      · rw [if_neg hx]
        simpa [hx, yC, Nat.add_assoc] using ih2
theorem m_young (h : MW z 0 S W) (x : Int32) (hP : P (nI (aYo S W x)) z) : ∃ N, wX12_young_L9 148 gSH P N 129 x (nI 0) (nI 0) z := by
  have hh := h
  obtain ⟨hz, hok, hwk, hT, hS, hW, hb⟩ := h
  have h6 := hok.1
  refine lp (fun m k => wX12_young_L9 148 gSH P m 129 x (nI (sN k (fun g => cB (ln W g) (yC W x g)))) (nI k) z) (sPA S) (fun m => ?_) (fun m k hk ih => ?_)
  · unfold wX12_young_L9 wX12_young_B9
    refine ⟨mO, m_panes hz hS ?_⟩
    rw [if_pos (nI_le (by omega) (by omega))]
    exact hP
  · unfold wX12_young_L9 wX12_young_B9
    refine ⟨mO, m_panes hz hS ?_⟩
    rw [if_neg (nI_ge hk (by omega))]
    have hl := ln_le hok hwk hk
    have e := hh.he hk
    rw [Nat.zero_add] at e
    refine lp (fun m2 i => wX12_young_L20 148 gSH (wX12_young_L9 148 gSH P m) P m2 129 x (nI (sN k (fun g => cB (ln W g) (yC W x g)) + cB i (yC W x k))) (nI k) (nI i) z) (ln W k) (fun m2 => ?_) (fun m2 i hi ih2 => ?_)
    · unfold wX12_young_L20 wX12_young_B20
      simp (disch := omega) only [Option.some.injEq, exists_eq_left', exists_eq_left, forall_eq, true_and, and_true, gr_si, gl_si, gr_sl, gi_sl, gr_sA, gl_sA, j_0, j_1, j_2, j_3, j_4, j_5, j_6, j_7, j_8, j_9, j_10, j_11, j_12, j_13, j_14, j_15, j_16, j_18, j_19, j_20, j_21, j_22, j_23, j_24, j_28, j_30, j_33, j_40, j_48, j_60, j_66, j_96, j_97, j_99, j_100, j_122, j_125, j_126, j_127, j_128, j_255, j_495, j_1000, j_1001, j_1023, j_1024, j_1100, j_1386, j_1452, j_9999, nN_1, nI_add, pk_mul, pk_sub, nI_clamp, vpI, nI_leI, nI_ltI, nI_eq, nN_eq, nN_eq', nN_lt, nN_nlt, nN_le, nN_nle, b_bit, n_bit, b_eq0, b_eq1, mO, mR10 hz, mA135, mL135, mR24 hz, mA145, mL145, e, Nat.le_refl, if_true]
      exact ⟨by omega, ih⟩
    · unfold wX12_young_L20 wX12_young_B20
      simp (disch := omega) only [Option.some.injEq, exists_eq_left', exists_eq_left, forall_eq, true_and, and_true, gr_si, gl_si, gr_sl, gi_sl, gr_sA, gl_sA, j_0, j_1, j_2, j_3, j_4, j_5, j_6, j_7, j_8, j_9, j_10, j_11, j_12, j_13, j_14, j_15, j_16, j_18, j_19, j_20, j_21, j_22, j_23, j_24, j_28, j_30, j_33, j_40, j_48, j_60, j_66, j_96, j_97, j_99, j_100, j_122, j_125, j_126, j_127, j_128, j_255, j_495, j_1000, j_1001, j_1023, j_1024, j_1100, j_1386, j_1452, j_9999, nN_1, nI_add, pk_mul, pk_sub, nI_clamp, vpI, nI_leI, nI_ltI, nI_eq, nN_eq, nN_eq', nN_lt, nN_nlt, nN_le, nN_nle, b_bit, n_bit, b_eq0, b_eq1, mO, mR10 hz, mA135, mL135, mR24 hz, mA145, mL145, e, if_neg (show ¬ ln W k ≤ i by omega)]
      refine ⟨by omega, ?_⟩
      obtain ⟨hm, _, _⟩ := mk_ok hok hwk hT hk hi
      refine m_markOf hh hk hi (m_ageOf hm ?_)
      unfold wX12_young_J55
      simp (disch := omega) only [Option.some.injEq, exists_eq_left', exists_eq_left, forall_eq, true_and, and_true, gr_si, gl_si, gr_sl, gi_sl, gr_sA, gl_sA, j_0, j_1, j_2, j_3, j_4, j_5, j_6, j_7, j_8, j_9, j_10, j_11, j_12, j_13, j_14, j_15, j_16, j_18, j_19, j_20, j_21, j_22, j_23, j_24, j_28, j_30, j_33, j_40, j_48, j_60, j_66, j_96, j_97, j_99, j_100, j_122, j_125, j_126, j_127, j_128, j_255, j_495, j_1000, j_1001, j_1023, j_1024, j_1100, j_1386, j_1452, j_9999, nN_1, nI_add, pk_mul, pk_sub, nI_clamp, vpI, nI_leI, nI_ltI, nI_eq, nN_eq, nN_eq', nN_lt, nN_nlt, nN_le, nN_nle, b_bit, n_bit, b_eq0, b_eq1, mO, mR10 hz, mA135, mL135, mR24 hz, mA145, mL145]
      simp only [cB, yC] at ih2
      by_cases hx : x < nI (mk W k i).2.2.2
      · rw [if_pos hx]
        simpa [hx, yC] using ih2
      · rw [if_neg hx]
        simpa [hx, yC, Nat.add_assoc] using ih2
theorem c_cellsShownOf (h : CW z t w S W) {p : Nat} (hp : p < 5) (hP : P (nI (bs 10 (aTr S W p (sPA S)))) z) : wX3_cellsShownOf 148 gSH t w (nI p) z P := by
  have hh := h
  obtain ⟨hz, ht, hw, hok, hwk, hT, hS, hW⟩ := h
  have h6 := hok.1
  refine lp (fun m k => wX3_cellsShownOf_L5 148 gSH P m t w (nI p) (nI (bs 10 (aTr S W p k))) (nI k) z) (sPA S) (fun m => ?_) (fun m k hk ih => ?_)
  · unfold wX3_cellsShownOf_L5 wX3_cellsShownOf_B5
    simp (disch := omega) only [Option.some.injEq, exists_eq_left', exists_eq_left, forall_eq, true_and, and_true, gr_si, gl_si, gr_sl, gi_sl, gr_sA, gl_sA, j_0, j_1, j_2, j_3, j_4, j_5, j_6, j_7, j_8, j_9, j_10, j_11, j_12, j_13, j_14, j_15, j_16, j_18, j_19, j_20, j_21, j_22, j_23, j_24, j_28, j_30, j_33, j_40, j_48, j_60, j_66, j_96, j_97, j_99, j_100, j_122, j_125, j_126, j_127, j_128, j_255, j_495, j_1000, j_1001, j_1023, j_1024, j_1100, j_1386, j_1452, j_9999, nN_1, nI_add, pk_mul, pk_sub, nI_clamp, vpI, nI_leI, nI_ltI, nI_eq, nN_eq, nN_eq', nN_lt, nN_nlt, nN_le, nN_nle, b_bit, n_bit, b_eq0, b_eq1, wO hw, wA1 hw, wA2 hw, wA3 hw, wL1 hw, wL2 hw, wL3 hw, wR5 hz hw, wR6 hz hw, wR7 hz hw, tO ht, tO1 ht, tA2 ht, tL2 ht, tA3 ht, tL3 ht, tA4 ht, tL4 ht, tA5 ht, tL5 ht, tA6 ht, tL6 ht, tA7 ht, tL7 ht, tA8 ht, tL8 ht, tA9 ht, tL9 ht, tR0 hz ht, tR1 hz ht, tR2 hz ht, tR3 hz ht, tR4 hz ht, tR5 hz ht, tR6 hz ht, tRl0 hz ht, tRl1 hz ht, hS.1, Nat.le_refl, if_true]
    exact hP
  · unfold wX3_cellsShownOf_L5 wX3_cellsShownOf_B5
    simp (disch := omega) only [Option.some.injEq, exists_eq_left', exists_eq_left, forall_eq, true_and, and_true, gr_si, gl_si, gr_sl, gi_sl, gr_sA, gl_sA, j_0, j_1, j_2, j_3, j_4, j_5, j_6, j_7, j_8, j_9, j_10, j_11, j_12, j_13, j_14, j_15, j_16, j_18, j_19, j_20, j_21, j_22, j_23, j_24, j_28, j_30, j_33, j_40, j_48, j_60, j_66, j_96, j_97, j_99, j_100, j_122, j_125, j_126, j_127, j_128, j_255, j_495, j_1000, j_1001, j_1023, j_1024, j_1100, j_1386, j_1452, j_9999, nN_1, nI_add, pk_mul, pk_sub, nI_clamp, vpI, nI_leI, nI_ltI, nI_eq, nN_eq, nN_eq', nN_lt, nN_nlt, nN_le, nN_nle, b_bit, n_bit, b_eq0, b_eq1, wO hw, wA1 hw, wA2 hw, wA3 hw, wL1 hw, wL2 hw, wL3 hw, wR5 hz hw, wR6 hz hw, wR7 hz hw, tO ht, tO1 ht, tA2 ht, tL2 ht, tA3 ht, tL3 ht, tA4 ht, tL4 ht, tA5 ht, tL5 ht, tA6 ht, tL6 ht, tA7 ht, tL7 ht, tA8 ht, tL8 ht, tA9 ht, tL9 ht, tR0 hz ht, tR1 hz ht, tR2 hz ht, tR3 hz ht, tR4 hz ht, tR5 hz ht, tR6 hz ht, tRl0 hz ht, tRl1 hz ht, hS.1, if_neg (show ¬ sPA S ≤ k by omega)]
    have hl := ln_le hok hwk hk
    have e := hh.he hk
    refine (lp (fun m2 i => wX3_cellsShownOf_L17 148 gSH (wX3_cellsShownOf_L5 148 gSH P m) P m2 t w (nI p) (nI (bs 10 (fun c => aTr S W p k c || tsG S W p k i c))) (nI k) (nI i) z) (ln W k) (fun m2 => ?_) (fun m2 i hi ih2 => ?_)).imp (fun N q => ?_)
    · unfold wX3_cellsShownOf_L17 wX3_cellsShownOf_B17
      simp (disch := omega) only [Option.some.injEq, exists_eq_left', exists_eq_left, forall_eq, true_and, and_true, gr_si, gl_si, gr_sl, gi_sl, gr_sA, gl_sA, j_0, j_1, j_2, j_3, j_4, j_5, j_6, j_7, j_8, j_9, j_10, j_11, j_12, j_13, j_14, j_15, j_16, j_18, j_19, j_20, j_21, j_22, j_23, j_24, j_28, j_30, j_33, j_40, j_48, j_60, j_66, j_96, j_97, j_99, j_100, j_122, j_125, j_126, j_127, j_128, j_255, j_495, j_1000, j_1001, j_1023, j_1024, j_1100, j_1386, j_1452, j_9999, nN_1, nI_add, pk_mul, pk_sub, nI_clamp, vpI, nI_leI, nI_ltI, nI_eq, nN_eq, nN_eq', nN_lt, nN_nlt, nN_le, nN_nle, b_bit, n_bit, b_eq0, b_eq1, wO hw, wA1 hw, wA2 hw, wA3 hw, wL1 hw, wL2 hw, wL3 hw, wR5 hz hw, wR6 hz hw, wR7 hz hw, tO ht, tO1 ht, tA2 ht, tL2 ht, tA3 ht, tL3 ht, tA4 ht, tL4 ht, tA5 ht, tL5 ht, tA6 ht, tL6 ht, tA7 ht, tL7 ht, tA8 ht, tL8 ht, tA9 ht, tL9 ht, tR0 hz ht, tR1 hz ht, tR2 hz ht, tR3 hz ht, tR4 hz ht, tR5 hz ht, tR6 hz ht, tRl0 hz ht, tRl1 hz ht, e, Nat.le_refl, if_true]
      exact ⟨by omega, ih⟩
    · unfold wX3_cellsShownOf_L17 wX3_cellsShownOf_B17
      simp (disch := omega) only [Option.some.injEq, exists_eq_left', exists_eq_left, forall_eq, true_and, and_true, gr_si, gl_si, gr_sl, gi_sl, gr_sA, gl_sA, j_0, j_1, j_2, j_3, j_4, j_5, j_6, j_7, j_8, j_9, j_10, j_11, j_12, j_13, j_14, j_15, j_16, j_18, j_19, j_20, j_21, j_22, j_23, j_24, j_28, j_30, j_33, j_40, j_48, j_60, j_66, j_96, j_97, j_99, j_100, j_122, j_125, j_126, j_127, j_128, j_255, j_495, j_1000, j_1001, j_1023, j_1024, j_1100, j_1386, j_1452, j_9999, nN_1, nI_add, pk_mul, pk_sub, nI_clamp, vpI, nI_leI, nI_ltI, nI_eq, nN_eq, nN_eq', nN_lt, nN_nlt, nN_le, nN_nle, b_bit, n_bit, b_eq0, b_eq1, wO hw, wA1 hw, wA2 hw, wA3 hw, wL1 hw, wL2 hw, wL3 hw, wR5 hz hw, wR6 hz hw, wR7 hz hw, tO ht, tO1 ht, tA2 ht, tL2 ht, tA3 ht, tL3 ht, tA4 ht, tL4 ht, tA5 ht, tL5 ht, tA6 ht, tL6 ht, tA7 ht, tL7 ht, tA8 ht, tL8 ht, tA9 ht, tL9 ht, tR0 hz ht, tR1 hz ht, tR2 hz ht, tR3 hz ht, tR4 hz ht, tR5 hz ht, tR6 hz ht, tRl0 hz ht, tRl1 hz ht, e, if_neg (show ¬ ln W k ≤ i by omega)]
      refine ⟨by omega, ?_⟩
      obtain ⟨hm, _, _⟩ := mk_ok hok hwk hT hk hi
      unfold wX3_cellsShownOf_J58
      refine c_isShownOf hh hp hk hi (ifb0 (fun hq => ?_) (fun hq => ?_))
      · simp (disch := omega) only [Option.some.injEq, exists_eq_left', exists_eq_left, forall_eq, true_and, and_true, gr_si, gl_si, gr_sl, gi_sl, gr_sA, gl_sA, j_0, j_1, j_2, j_3, j_4, j_5, j_6, j_7, j_8, j_9, j_10, j_11, j_12, j_13, j_14, j_15, j_16, j_18, j_19, j_20, j_21, j_22, j_23, j_24, j_28, j_30, j_33, j_40, j_48, j_60, j_66, j_96, j_97, j_99, j_100, j_122, j_125, j_126, j_127, j_128, j_255, j_495, j_1000, j_1001, j_1023, j_1024, j_1100, j_1386, j_1452, j_9999, nN_1, nI_add, pk_mul, pk_sub, nI_clamp, vpI, nI_leI, nI_ltI, nI_eq, nN_eq, nN_eq', nN_lt, nN_nlt, nN_le, nN_nle, b_bit, n_bit, b_eq0, b_eq1, wO hw, wA1 hw, wA2 hw, wA3 hw, wL1 hw, wL2 hw, wL3 hw, wR5 hz hw, wR6 hz hw, wR7 hz hw, tO ht, tO1 ht, tA2 ht, tL2 ht, tA3 ht, tL3 ht, tA4 ht, tL4 ht, tA5 ht, tL5 ht, tA6 ht, tL6 ht, tA7 ht, tL7 ht, tA8 ht, tL8 ht, tA9 ht, tL9 ht, tR0 hz ht, tR1 hz ht, tR2 hz ht, tR3 hz ht, tR4 hz ht, tR5 hz ht, tR6 hz ht, tRl0 hz ht, tRl1 hz ht]
        have e2 : tsG S W p k (i + 1) = tsG S W p k i := by
          funext d
          simp [tsG, xB, hq]
        rw [e2] at ih2
        exact ih2
      · refine c_markAt hh hk hi (c_cellOf hm ?_)
        simp (disch := omega) only [Option.some.injEq, exists_eq_left', exists_eq_left, forall_eq, true_and, and_true, gr_si, gl_si, gr_sl, gi_sl, gr_sA, gl_sA, j_0, j_1, j_2, j_3, j_4, j_5, j_6, j_7, j_8, j_9, j_10, j_11, j_12, j_13, j_14, j_15, j_16, j_18, j_19, j_20, j_21, j_22, j_23, j_24, j_28, j_30, j_33, j_40, j_48, j_60, j_66, j_96, j_97, j_99, j_100, j_122, j_125, j_126, j_127, j_128, j_255, j_495, j_1000, j_1001, j_1023, j_1024, j_1100, j_1386, j_1452, j_9999, nN_1, nI_add, pk_mul, pk_sub, nI_clamp, vpI, nI_leI, nI_ltI, nI_eq, nN_eq, nN_eq', nN_lt, nN_nlt, nN_le, nN_nle, b_bit, n_bit, b_eq0, b_eq1, wO hw, wA1 hw, wA2 hw, wA3 hw, wL1 hw, wL2 hw, wL3 hw, wR5 hz hw, wR6 hz hw, wR7 hz hw, tO ht, tO1 ht, tA2 ht, tL2 ht, tA3 ht, tL3 ht, tA4 ht, tL4 ht, tA5 ht, tL5 ht, tA6 ht, tL6 ht, tA7 ht, tL7 ht, tA8 ht, tL8 ht, tA9 ht, tL9 ht, tR0 hz ht, tR1 hz ht, tR2 hz ht, tR3 hz ht, tR4 hz ht, tR5 hz ht, tR6 hz ht, tRl0 hz ht, tRl1 hz ht]
        rw [bs_setY (by decide) hm.2.2.1]
        have e2 : (fun c => aTr S W p k c || tsG S W p k (i + 1) c) = (fun c => (aTr S W p k c || tsG S W p k i c) || decide (c = (mk W k i).2.2.1)) := by
          funext c
          have : tsG S W p k (i + 1) c = (tsG S W p k i c || decide (c = (mk W k i).2.2.1)) := by
            simp only [tsG, xB, hq, Bool.true_and]
          rw [this, Bool.or_assoc]
        rw [e2] at ih2
        exact ih2
    · have e0 : (fun c => aTr S W p k c || tsG S W p k 0 c) = aTr S W p k := by
        funext c
        simp [tsG, xB]
      rw [← e0]
      exact q
theorem m_trail (h : MW z 0 S W) {p : Nat} (hp : p < 5) (hP : P (nI (bs 10 (aTr S W p (sPA S)))) z) : ∃ N, wX12_trail_L19 148 gSH P N 129 (nI p) (nI 0) (nI 0) z := by
  have hh := h
  obtain ⟨hz, hok, hwk, hT, hS, hW, hb⟩ := h
  have h6 := hok.1
  refine (lp (fun m k => wX12_trail_L19 148 gSH P m 129 (nI p) (nI (bs 10 (aTr S W p k))) (nI k) z) (sPA S) (fun m => ?_) (fun m k hk ih => ?_)).imp (fun N q => q)
  · unfold wX12_trail_L19 wX12_trail_B19
    refine ⟨mO, m_panes hz hS ?_⟩
    rw [if_pos (nI_le (by omega) (by omega))]
    exact hP
  · unfold wX12_trail_L19 wX12_trail_B19
    refine ⟨mO, m_panes hz hS ?_⟩
    rw [if_neg (nI_ge hk (by omega))]
    have hl := ln_le hok hwk hk
    have e := hh.he hk
    rw [Nat.zero_add] at e
    refine (lp (fun m2 i => wX12_trail_L30 148 gSH (wX12_trail_L19 148 gSH P m) P m2 129 (nI p) (nI (bs 10 (fun c => aTr S W p k c || tsG S W p k i c))) (nI k) (nI i) z) (ln W k) (fun m2 => ?_) (fun m2 i hi ih2 => ?_)).imp (fun N q => ?_)
    · unfold wX12_trail_L30 wX12_trail_B30 wX12_trail_J95
      simp (disch := omega) only [Option.some.injEq, exists_eq_left', exists_eq_left, forall_eq, true_and, and_true, gr_si, gl_si, gr_sl, gi_sl, gr_sA, gl_sA, j_0, j_1, j_2, j_3, j_4, j_5, j_6, j_7, j_8, j_9, j_10, j_11, j_12, j_13, j_14, j_15, j_16, j_18, j_19, j_20, j_21, j_22, j_23, j_24, j_28, j_30, j_33, j_40, j_48, j_60, j_66, j_96, j_97, j_99, j_100, j_122, j_125, j_126, j_127, j_128, j_255, j_495, j_1000, j_1001, j_1023, j_1024, j_1100, j_1386, j_1452, j_9999, nN_1, nI_add, pk_mul, pk_sub, nI_clamp, vpI, nI_leI, nI_ltI, nI_eq, nN_eq, nN_eq', nN_lt, nN_nlt, nN_le, nN_nle, b_bit, n_bit, b_eq0, b_eq1, mO, mR10 hz, mA135, mL135, mR24 hz, mA145, mL145, e, Nat.le_refl, if_true]
      exact ⟨by omega, ih⟩
    · unfold wX12_trail_L30 wX12_trail_B30 wX12_trail_J95
      simp (disch := omega) only [Option.some.injEq, exists_eq_left', exists_eq_left, forall_eq, true_and, and_true, gr_si, gl_si, gr_sl, gi_sl, gr_sA, gl_sA, j_0, j_1, j_2, j_3, j_4, j_5, j_6, j_7, j_8, j_9, j_10, j_11, j_12, j_13, j_14, j_15, j_16, j_18, j_19, j_20, j_21, j_22, j_23, j_24, j_28, j_30, j_33, j_40, j_48, j_60, j_66, j_96, j_97, j_99, j_100, j_122, j_125, j_126, j_127, j_128, j_255, j_495, j_1000, j_1001, j_1023, j_1024, j_1100, j_1386, j_1452, j_9999, nN_1, nI_add, pk_mul, pk_sub, nI_clamp, vpI, nI_leI, nI_ltI, nI_eq, nN_eq, nN_eq', nN_lt, nN_nlt, nN_le, nN_nle, b_bit, n_bit, b_eq0, b_eq1, mO, mR10 hz, mA135, mL135, mR24 hz, mA145, mL145, e, if_neg (show ¬ ln W k ≤ i by omega)]
      refine ⟨by omega, ?_⟩
      obtain ⟨hm, _, _⟩ := mk_ok hok hwk hT hk hi
      refine m_isShown hh hk (ifb0 (fun ho => ?_) (fun ho => ?_))
      · have e3 : (fun c => aTr S W p k c || tsG S W p k i c) = aTr S W p (k + 1) := by
          funext c
          simp only [aTr, xB]
          have q1 : ∀ n, tsG S W p k n c = false := fun n => by
            unfold tsG
            rw [xB_congr (g := fun _ => false) (fun j hj => by simp [qP, ho]), xB_F]
          rw [q1, q1]
        rw [e3]
        exact ih
      · refine m_markOf hh hk hi (m_shownOf hh hk hm ?_)
        have hw8 := hm.1
        unfold wX12_trail_J87
        by_cases hq : qP S W p k (mk W k i) = true
        · have hq2 : tel S W k = true ∧ (mk W k i).1 = p := by simpa [qP, ho] using hq
          simp only [hq2.1, hq2.2, if_true]
          refine m_cellOf hm ?_
          simp (disch := omega) only [Option.some.injEq, exists_eq_left', exists_eq_left, forall_eq, true_and, and_true, gr_si, gl_si, gr_sl, gi_sl, gr_sA, gl_sA, j_0, j_1, j_2, j_3, j_4, j_5, j_6, j_7, j_8, j_9, j_10, j_11, j_12, j_13, j_14, j_15, j_16, j_18, j_19, j_20, j_21, j_22, j_23, j_24, j_28, j_30, j_33, j_40, j_48, j_60, j_66, j_96, j_97, j_99, j_100, j_122, j_125, j_126, j_127, j_128, j_255, j_495, j_1000, j_1001, j_1023, j_1024, j_1100, j_1386, j_1452, j_9999, nN_1, nI_add, pk_mul, pk_sub, nI_clamp, vpI, nI_leI, nI_ltI, nI_eq, nN_eq, nN_eq', nN_lt, nN_nlt, nN_le, nN_nle, b_bit, n_bit, b_eq0, b_eq1, mO, mR10 hz, mA135, mL135, mR24 hz, mA145, mL145]
          rw [bs_setY (by decide) hm.2.2.1]
          have e2 : (fun c => aTr S W p k c || tsG S W p k (i + 1) c) = (fun c => (aTr S W p k c || tsG S W p k i c) || decide (c = (mk W k i).2.2.1)) := by
            funext c
            have : tsG S W p k (i + 1) c = (tsG S W p k i c || decide (c = (mk W k i).2.2.1)) := by
              simp only [tsG, xB, hq, Bool.true_and]
            rw [this, Bool.or_assoc]
          rw [e2] at ih2
          exact ih2
        · have e2 : tsG S W p k (i + 1) = tsG S W p k i := by
            funext d
            simp [tsG, xB, hq]
          rw [e2] at ih2
          have hne : ¬ (if tel S W k = true then nI (mk W k i).1 else nN) = nI p := by
            by_cases ht : tel S W k = true
            · rw [if_pos ht, nI_eq (by omega) (by omega)]
              intro hw
              exact hq (by simp [qP, ho, ht, hw])
            · rw [if_neg ht, nN_eq (by omega)]
              exact id
          rw [if_neg hne]
          simp (disch := omega) only [Option.some.injEq, exists_eq_left', exists_eq_left, forall_eq, true_and, and_true, gr_si, gl_si, gr_sl, gi_sl, gr_sA, gl_sA, j_0, j_1, j_2, j_3, j_4, j_5, j_6, j_7, j_8, j_9, j_10, j_11, j_12, j_13, j_14, j_15, j_16, j_18, j_19, j_20, j_21, j_22, j_23, j_24, j_28, j_30, j_33, j_40, j_48, j_60, j_66, j_96, j_97, j_99, j_100, j_122, j_125, j_126, j_127, j_128, j_255, j_495, j_1000, j_1001, j_1023, j_1024, j_1100, j_1386, j_1452, j_9999, nN_1, nI_add, pk_mul, pk_sub, nI_clamp, vpI, nI_leI, nI_ltI, nI_eq, nN_eq, nN_eq', nN_lt, nN_nlt, nN_le, nN_nle, b_bit, n_bit, b_eq0, b_eq1, mO, mR10 hz, mA135, mL135, mR24 hz, mA145, mL145]
          rw [show nI 0 = nI (bs 10 (fun _ => false)) by rw [bs_f0], nI_orb]
          simp only [Bool.or_false]
          exact ih2
    · have e0 : (fun c => aTr S W p k c || tsG S W p k 0 c) = aTr S W p k := by
        funext c
        simp [tsG, xB]
      rw [← e0]
      exact q
theorem c_mostShamed (h : CW z t w S W) (hP : P (oI (fWo S W (sPE S)).1) z) : wX3_mostShamed 148 gSH t w z P := by
  have hh := h
  obtain ⟨hz, ht, hw, hok, hwk, hT, hS, hW⟩ := h
  have h5 := hok.2.1
  refine lp (fun m k => wX3_mostShamed_L7 148 gSH P m t w (oI (fWo S W k).1) (nI (fWo S W k).2) (nI k) z) (sPE S) (fun m => ?_) (fun m k hk ih => ?_)
  · unfold wX3_mostShamed_L7 wX3_mostShamed_B7
    simp (disch := omega) only [Option.some.injEq, exists_eq_left', exists_eq_left, forall_eq, true_and, and_true, gr_si, gl_si, gr_sl, gi_sl, gr_sA, gl_sA, j_0, j_1, j_2, j_3, j_4, j_5, j_6, j_7, j_8, j_9, j_10, j_11, j_12, j_13, j_14, j_15, j_16, j_18, j_19, j_20, j_21, j_22, j_23, j_24, j_28, j_30, j_33, j_40, j_48, j_60, j_66, j_96, j_97, j_99, j_100, j_122, j_125, j_126, j_127, j_128, j_255, j_495, j_1000, j_1001, j_1023, j_1024, j_1100, j_1386, j_1452, j_9999, nN_1, nI_add, pk_mul, pk_sub, nI_clamp, vpI, nI_leI, nI_ltI, nI_eq, nN_eq, nN_eq', nN_lt, nN_nlt, nN_le, nN_nle, b_bit, n_bit, b_eq0, b_eq1, wO hw, wA1 hw, wA2 hw, wA3 hw, wL1 hw, wL2 hw, wL3 hw, wR5 hz hw, wR6 hz hw, wR7 hz hw, tO ht, tO1 ht, tA2 ht, tL2 ht, tA3 ht, tL3 ht, tA4 ht, tL4 ht, tA5 ht, tL5 ht, tA6 ht, tL6 ht, tA7 ht, tL7 ht, tA8 ht, tL8 ht, tA9 ht, tL9 ht, tR0 hz ht, tR1 hz ht, tR2 hz ht, tR3 hz ht, tR4 hz ht, tR5 hz ht, tR6 hz ht, tRl0 hz ht, tRl1 hz ht, hS.2.1, Nat.le_refl, if_true]
    exact hP
  · unfold wX3_mostShamed_L7 wX3_mostShamed_B7
    simp (disch := omega) only [Option.some.injEq, exists_eq_left', exists_eq_left, forall_eq, true_and, and_true, gr_si, gl_si, gr_sl, gi_sl, gr_sA, gl_sA, j_0, j_1, j_2, j_3, j_4, j_5, j_6, j_7, j_8, j_9, j_10, j_11, j_12, j_13, j_14, j_15, j_16, j_18, j_19, j_20, j_21, j_22, j_23, j_24, j_28, j_30, j_33, j_40, j_48, j_60, j_66, j_96, j_97, j_99, j_100, j_122, j_125, j_126, j_127, j_128, j_255, j_495, j_1000, j_1001, j_1023, j_1024, j_1100, j_1386, j_1452, j_9999, nN_1, nI_add, pk_mul, pk_sub, nI_clamp, vpI, nI_leI, nI_ltI, nI_eq, nN_eq, nN_eq', nN_lt, nN_nlt, nN_le, nN_nle, b_bit, n_bit, b_eq0, b_eq1, wO hw, wA1 hw, wA2 hw, wA3 hw, wL1 hw, wL2 hw, wL3 hw, wR5 hz hw, wR6 hz hw, wR7 hz hw, tO ht, tO1 ht, tA2 ht, tL2 ht, tA3 ht, tL3 ht, tA4 ht, tL4 ht, tA5 ht, tL5 ht, tA6 ht, tL6 ht, tA7 ht, tL7 ht, tA8 ht, tL8 ht, tA9 ht, tL9 ht, tR0 hz ht, tR1 hz ht, tR2 hz ht, tR3 hz ht, tR4 hz ht, tR5 hz ht, tR6 hz ht, tRl0 hz ht, tRl1 hz ht, hS.2.1, if_neg (show ¬ sPE S ≤ k by omega)]
    refine c_shameOf hh (by omega) ?_
    have q1 := hrm_le hok (dsP W (qP S W k) 6 (sPA S))
    have q2 := fWo_le (W := W) hok k
    unfold wX3_mostShamed_J37
    simp (disch := omega) only [Option.some.injEq, exists_eq_left', exists_eq_left, forall_eq, true_and, and_true, gr_si, gl_si, gr_sl, gi_sl, gr_sA, gl_sA, j_0, j_1, j_2, j_3, j_4, j_5, j_6, j_7, j_8, j_9, j_10, j_11, j_12, j_13, j_14, j_15, j_16, j_18, j_19, j_20, j_21, j_22, j_23, j_24, j_28, j_30, j_33, j_40, j_48, j_60, j_66, j_96, j_97, j_99, j_100, j_122, j_125, j_126, j_127, j_128, j_255, j_495, j_1000, j_1001, j_1023, j_1024, j_1100, j_1386, j_1452, j_9999, nN_1, nI_add, pk_mul, pk_sub, nI_clamp, vpI, nI_leI, nI_ltI, nI_eq, nN_eq, nN_eq', nN_lt, nN_nlt, nN_le, nN_nle, b_bit, n_bit, b_eq0, b_eq1, wO hw, wA1 hw, wA2 hw, wA3 hw, wL1 hw, wL2 hw, wL3 hw, wR5 hz hw, wR6 hz hw, wR7 hz hw, tO ht, tO1 ht, tA2 ht, tL2 ht, tA3 ht, tL3 ht, tA4 ht, tL4 ht, tA5 ht, tL5 ht, tA6 ht, tL6 ht, tA7 ht, tL7 ht, tA8 ht, tL8 ht, tA9 ht, tL9 ht, tR0 hz ht, tR1 hz ht, tR2 hz ht, tR3 hz ht, tR4 hz ht, tR5 hz ht, tR6 hz ht, tRl0 hz ht, tRl1 hz ht]
    rw [fWo] at ih
    by_cases hx : hrm S (dsP W (qP S W k) 6 (sPA S)) ≤ (fWo S W k).2
    · rw [if_pos hx]
      rw [if_neg (by omega)] at ih
      exact ih
    · rw [if_neg hx]
      rw [if_pos (by omega)] at ih
      exact ih
theorem m_worst (h : MW z 0 S W) (hP : P (oI (fWo S W (sPE S)).1) z) : ∃ N, wX12_worst_L11 148 gSH P N 129 nN (nI 0) (nI 0) z := by
  have hh := h
  obtain ⟨hz, hok, hwk, hT, hS, hW, hb⟩ := h
  have h5 := hok.2.1
  refine lp (fun m k => wX12_worst_L11 148 gSH P m 129 (oI (fWo S W k).1) (nI (fWo S W k).2) (nI k) z) (sPE S) (fun m => ?_) (fun m k hk ih => ?_)
  · unfold wX12_worst_L11 wX12_worst_B11
    refine ⟨mO, m_people hz hS ?_⟩
    rw [if_pos (nI_le (by omega) (by omega))]
    exact hP
  · unfold wX12_worst_L11 wX12_worst_B11
    refine ⟨mO, m_people hz hS ?_⟩
    rw [if_neg (nI_ge hk (by omega))]
    refine m_harmShown (p := some k) (n := 6) hh (show k < 5 by omega) (by decide) ?_
    rw [show qO S W (some k) = qP S W k from rfl]
    have q1 := hrm_le hok (dsP W (qP S W k) 6 (sPA S))
    have q2 := fWo_le (W := W) hok k
    unfold wX12_worst_J40 wX12_worst_J53
    simp (disch := omega) only [Option.some.injEq, exists_eq_left', exists_eq_left, forall_eq, true_and, and_true, gr_si, gl_si, gr_sl, gi_sl, gr_sA, gl_sA, j_0, j_1, j_2, j_3, j_4, j_5, j_6, j_7, j_8, j_9, j_10, j_11, j_12, j_13, j_14, j_15, j_16, j_18, j_19, j_20, j_21, j_22, j_23, j_24, j_28, j_30, j_33, j_40, j_48, j_60, j_66, j_96, j_97, j_99, j_100, j_122, j_125, j_126, j_127, j_128, j_255, j_495, j_1000, j_1001, j_1023, j_1024, j_1100, j_1386, j_1452, j_9999, nN_1, nI_add, pk_mul, pk_sub, nI_clamp, vpI, nI_leI, nI_ltI, nI_eq, nN_eq, nN_eq', nN_lt, nN_nlt, nN_le, nN_nle, b_bit, n_bit, b_eq0, b_eq1, mO, mR10 hz, mA135, mL135, mR24 hz, mA145, mL145]
    rw [fWo] at ih
    by_cases hx : hrm S (dsP W (qP S W k) 6 (sPA S)) ≤ (fWo S W k).2
    · rw [if_pos hx, if_pos hx]
      rw [if_neg (by omega)] at ih
      exact ih
    · rw [if_neg hx, if_neg hx]
      rw [if_pos (by omega)] at ih
      exact ih
end RC
