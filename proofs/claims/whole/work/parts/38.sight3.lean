/-! ===== where, ask; pairs ===== -/
/-- what is said, on both sides -/
def Sd (z : gS) (so ss : Nat → Bool) : Prop := gi z 3 3 = nI (bs 6 so) ∧ gi z 3 4 = nI (bs 6 ss) ∧ ∀ g, g < 6 → gi z 145 (60 + g) = if so g then nI (ss g).toNat else nN
theorem Sd.fr {z z' : gS} {so ss : Nat → Bool} (h : Sd z so ss) (hs : ∀ a k, (a = 3 ∨ a = 145) → gi z' a k = gi z a k) : Sd z' so ss := by
  refine ⟨?_, ?_, fun g hg => ?_⟩ <;> rw [hs _ _ (by omega)]
  · exact h.1
  · exact h.2.1
  · exact h.2.2 g hg
theorem Sd.th {z : gS} {so ss : Nat → Bool} {v : Int32} (h : Sd z so ss) : Sd (si z 129 0 v) so ss := h.fr (fun a k ha => by rw [gi_si, if_neg (by omega)])
def sWh (S : sS) (W : sW) (so ss : Nat → Bool) (k c : Nat) : Bool := !xB k (fun p => so p && (sSi S W p c != ss p))
def aWh (S : sS) (W : sW) (so ss : Nat → Bool) : Nat := bs 10 (sWh S W so ss (sPA S))
def gAs (S : sS) (W : sW) (so ss : Nat → Bool) (k : Nat) : Nat :=
  if pcs 30 (bs 10 (fun c => sWh S W so ss (sPA S) c && sSi S W k c)) < pcs 30 (bs 10 (fun c => sWh S W so ss (sPA S) c && !sSi S W k c)) then pcs 30 (bs 10 (fun c => sWh S W so ss (sPA S) c && !sSi S W k c)) else pcs 30 (bs 10 (fun c => sWh S W so ss (sPA S) c && sSi S W k c))
def fAs (S : sS) (W : sW) (so ss : Nat → Bool) : Nat → Option Nat × Nat
  | 0 => (none, pcs 30 (aWh S W so ss))
  | k + 1 => if so k = false ∧ gAs S W so ss k < (fAs S W so ss k).2 then (some k, gAs S W so ss k) else fAs S W so ss k
theorem gAs_le {S : sS} {W : sW} {so ss : Nat → Bool} {k : Nat} : gAs S W so ss k ≤ 30 := by
  unfold gAs
  split <;> exact pcs_le _ _
theorem fAs_le {S : sS} {W : sW} {so ss : Nat → Bool} : ∀ k, (fAs S W so ss k).2 ≤ 30
  | 0 => pcs_le _ _
  | k + 1 => by
    have h := fAs_le (S := S) (W := W) (so := so) (ss := ss) k
    rw [fAs]
    split
    · exact gAs_le
    · exact h
section RC
variable {z : gS} {w t g b : Nat} {S : sS} {W : sW} {so ss : Nat → Bool} {P : Int32 → gS → Prop}
theorem c_cellsAsSaid (hz : sR z) (ht : isS t) (hS : cS z t S) (hW : cW z 3 S W) (hok : sOK S) (hT : wT W < 2 ^ 30) (hD : Sd z so ss) (h : P (nI (aWh S W so ss)) z) : wX6_cellsAsSaid 148 gSH t 3 z P := by
  have h6 := hok.1
  have hw := w3
  refine lp (fun m k => wX6_cellsAsSaid_L6 148 gSH P m t 3 (nI (bs 10 (sWh S W so ss k))) (nI k) z) (sPA S) (fun m => ?_) (fun m k hk ih => ?_)
  · unfold wX6_cellsAsSaid_L6 wX6_cellsAsSaid_B6
    simp (disch := omega) only [Option.some.injEq, exists_eq_left', exists_eq_left, forall_eq, true_and, and_true, gr_si, gl_si, gr_sl, gi_sl, gr_sA, gl_sA, j_0, j_1, j_2, j_3, j_4, j_5, j_6, j_7, j_8, j_9, j_10, j_11, j_12, j_13, j_14, j_15, j_16, j_18, j_19, j_20, j_21, j_22, j_23, j_24, j_28, j_30, j_33, j_40, j_48, j_60, j_66, j_96, j_97, j_99, j_100, j_122, j_125, j_126, j_127, j_128, j_255, j_495, j_1000, j_1001, j_1023, j_1024, j_1100, j_1386, j_1452, j_9999, nN_1, nI_add, pk_mul, pk_sub, nI_clamp, vpI, nI_leI, nI_ltI, nI_eq, nN_eq, nN_eq', nN_lt, nN_nlt, nN_le, nN_nle, b_bit, n_bit, b_eq0, b_eq1, wO hw, wA1 hw, wA2 hw, wA3 hw, wL1 hw, wL2 hw, wL3 hw, wR5 hz hw, wR6 hz hw, wR7 hz hw, tO ht, tO1 ht, tA2 ht, tL2 ht, tA3 ht, tL3 ht, tA4 ht, tL4 ht, tA5 ht, tL5 ht, tA6 ht, tL6 ht, tA7 ht, tL7 ht, tA8 ht, tL8 ht, tA9 ht, tL9 ht, tR0 hz ht, tR1 hz ht, tR2 hz ht, tR3 hz ht, tR4 hz ht, tR5 hz ht, tR6 hz ht, tRl0 hz ht, tRl1 hz ht, hS.1, Nat.le_refl, if_true]
    exact h
  · unfold wX6_cellsAsSaid_L6 wX6_cellsAsSaid_B6
    unfold wX6_cellsAsSaid_J54 wX6_cellsAsSaid_J56
    simp (disch := omega) only [Option.some.injEq, exists_eq_left', exists_eq_left, forall_eq, true_and, and_true, gr_si, gl_si, gr_sl, gi_sl, gr_sA, gl_sA, j_0, j_1, j_2, j_3, j_4, j_5, j_6, j_7, j_8, j_9, j_10, j_11, j_12, j_13, j_14, j_15, j_16, j_18, j_19, j_20, j_21, j_22, j_23, j_24, j_28, j_30, j_33, j_40, j_48, j_60, j_66, j_96, j_97, j_99, j_100, j_122, j_125, j_126, j_127, j_128, j_255, j_495, j_1000, j_1001, j_1023, j_1024, j_1100, j_1386, j_1452, j_9999, nN_1, nI_add, pk_mul, pk_sub, nI_clamp, vpI, nI_leI, nI_ltI, nI_eq, nN_eq, nN_eq', nN_lt, nN_nlt, nN_le, nN_nle, b_bit, n_bit, b_eq0, b_eq1, wO hw, wA1 hw, wA2 hw, wA3 hw, wL1 hw, wL2 hw, wL3 hw, wR5 hz hw, wR6 hz hw, wR7 hz hw, tO ht, tO1 ht, tA2 ht, tL2 ht, tA3 ht, tL3 ht, tA4 ht, tL4 ht, tA5 ht, tL5 ht, tA6 ht, tL6 ht, tA7 ht, tL7 ht, tA8 ht, tL8 ht, tA9 ht, tL9 ht, tR0 hz ht, tR1 hz ht, tR2 hz ht, tR3 hz ht, tR4 hz ht, tR5 hz ht, tR6 hz ht, tRl0 hz ht, tRl1 hz ht, hS.1, if_neg (show ¬ sPA S ≤ k by omega), hD.1]
    by_cases hs : so k = false
    · rw [if_pos hs]
      have e : sWh S W so ss (k + 1) = sWh S W so ss k := by funext c; simp [sWh, xB, hs]
      rw [e] at ih
      exact ih
    · rw [if_neg hs]
      refine c_sightOf hz hw ht hS hW hok hT hk ?_
      simp (disch := omega) only [Option.some.injEq, exists_eq_left', exists_eq_left, forall_eq, true_and, and_true, gr_si, gl_si, gr_sl, gi_sl, gr_sA, gl_sA, j_0, j_1, j_2, j_3, j_4, j_5, j_6, j_7, j_8, j_9, j_10, j_11, j_12, j_13, j_14, j_15, j_16, j_18, j_19, j_20, j_21, j_22, j_23, j_24, j_28, j_30, j_33, j_40, j_48, j_60, j_66, j_96, j_97, j_99, j_100, j_122, j_125, j_126, j_127, j_128, j_255, j_495, j_1000, j_1001, j_1023, j_1024, j_1100, j_1386, j_1452, j_9999, nN_1, nI_add, pk_mul, pk_sub, nI_clamp, vpI, nI_leI, nI_ltI, nI_eq, nN_eq, nN_eq', nN_lt, nN_nlt, nN_le, nN_nle, b_bit, n_bit, b_eq0, b_eq1, wO hw, wA1 hw, wA2 hw, wA3 hw, wL1 hw, wL2 hw, wL3 hw, wR5 hz hw, wR6 hz hw, wR7 hz hw, tO ht, tO1 ht, tA2 ht, tL2 ht, tA3 ht, tL3 ht, tA4 ht, tL4 ht, tA5 ht, tL5 ht, tA6 ht, tL6 ht, tA7 ht, tL7 ht, tA8 ht, tL8 ht, tA9 ht, tL9 ht, tR0 hz ht, tR1 hz ht, tR2 hz ht, tR3 hz ht, tR4 hz ht, tR5 hz ht, tR6 hz ht, tRl0 hz ht, tRl1 hz ht, hD.2.1]
      by_cases hs2 : ss k = false
      · rw [if_pos hs2, bs_andnN (by decide)]
        have e : sWh S W so ss (k + 1) = fun c => sWh S W so ss k c && !sSi S W k c := by funext c; simp [sWh, xB, hs, hs2]
        rw [e] at ih
        exact ih
      · rw [if_neg hs2, bs_and2]
        have e : sWh S W so ss (k + 1) = fun c => sWh S W so ss k c && sSi S W k c := by funext c; simp [sWh, xB, hs, hs2]
        rw [e] at ih
        exact ih
theorem m_cellsNow (hz : sR z) (hS : mS z S) (hW : mW z 0 S W) (hok : sOK S) (hT : wT W < 2 ^ 30) (hD : Sd z so ss) (h : P (nI (aWh S W so ss)) z) : wX12_cellsNow 148 gSH 129 z P := by
  have h6 := hok.1
  refine lp (fun m k => wX12_cellsNow_L4 148 gSH P m 129 (nI (bs k (sWh S W so ss (sPA S)))) (nI k) z) 10 (fun m => ?_) (fun m k hk ih => ?_)
  · unfold wX12_cellsNow_L4 wX12_cellsNow_B4
    simp (disch := omega) only [Option.some.injEq, exists_eq_left', exists_eq_left, forall_eq, true_and, and_true, gr_si, gl_si, gr_sl, gi_sl, gr_sA, gl_sA, j_0, j_1, j_2, j_3, j_4, j_5, j_6, j_7, j_8, j_9, j_10, j_11, j_12, j_13, j_14, j_15, j_16, j_18, j_19, j_20, j_21, j_22, j_23, j_24, j_28, j_30, j_33, j_40, j_48, j_60, j_66, j_96, j_97, j_99, j_100, j_122, j_125, j_126, j_127, j_128, j_255, j_495, j_1000, j_1001, j_1023, j_1024, j_1100, j_1386, j_1452, j_9999, nN_1, nI_add, pk_mul, pk_sub, nI_clamp, vpI, nI_leI, nI_ltI, nI_eq, nN_eq, nN_eq', nN_lt, nN_nlt, nN_le, nN_nle, b_bit, n_bit, b_eq0, b_eq1, mO, mR10 hz, mA135, mL135, mR24 hz, mA145, mL145, Nat.le_refl, if_true]
    exact h
  · unfold wX12_cellsNow_L4 wX12_cellsNow_B4
    simp (disch := omega) only [Option.some.injEq, exists_eq_left', exists_eq_left, forall_eq, true_and, and_true, gr_si, gl_si, gr_sl, gi_sl, gr_sA, gl_sA, j_0, j_1, j_2, j_3, j_4, j_5, j_6, j_7, j_8, j_9, j_10, j_11, j_12, j_13, j_14, j_15, j_16, j_18, j_19, j_20, j_21, j_22, j_23, j_24, j_28, j_30, j_33, j_40, j_48, j_60, j_66, j_96, j_97, j_99, j_100, j_122, j_125, j_126, j_127, j_128, j_255, j_495, j_1000, j_1001, j_1023, j_1024, j_1100, j_1386, j_1452, j_9999, nN_1, nI_add, pk_mul, pk_sub, nI_clamp, vpI, nI_leI, nI_ltI, nI_eq, nN_eq, nN_eq', nN_lt, nN_nlt, nN_le, nN_nle, b_bit, n_bit, b_eq0, b_eq1, mO, mR10 hz, mA135, mL135, mR24 hz, mA145, mL145, if_neg (show ¬ 10 ≤ k by omega)]
    refine lp (fun m2 i => wX12_cellsNow_L15 148 gSH (wX12_cellsNow_L4 148 gSH P m) P m2 129 (nI (bs k (sWh S W so ss (sPA S)))) (nI k) (nI (sWh S W so ss i k).toNat) (nI i) z) (sPA S) (fun m2 => ?_) (fun m2 i hi ih2 => ?_)
    · unfold wX12_cellsNow_L15 wX12_cellsNow_B15
      refine ⟨mO, m_panes hz hS ?_⟩
      rw [if_pos (nI_le (by omega) (by omega))]
      unfold wX12_cellsNow_J95
      simp (disch := omega) only [Option.some.injEq, exists_eq_left', exists_eq_left, forall_eq, true_and, and_true, gr_si, gl_si, gr_sl, gi_sl, gr_sA, gl_sA, j_0, j_1, j_2, j_3, j_4, j_5, j_6, j_7, j_8, j_9, j_10, j_11, j_12, j_13, j_14, j_15, j_16, j_18, j_19, j_20, j_21, j_22, j_23, j_24, j_28, j_30, j_33, j_40, j_48, j_60, j_66, j_96, j_97, j_99, j_100, j_122, j_125, j_126, j_127, j_128, j_255, j_495, j_1000, j_1001, j_1023, j_1024, j_1100, j_1386, j_1452, j_9999, nN_1, nI_add, pk_mul, pk_sub, nI_clamp, vpI, nI_leI, nI_ltI, nI_eq, nN_eq, nN_eq', nN_lt, nN_nlt, nN_le, nN_nle, b_bit, n_bit, b_eq0, b_eq1, mO, mR10 hz, mA135, mL135, mR24 hz, mA145, mL145]
      by_cases hx : sWh S W so ss (sPA S) k = false
      · rw [if_pos hx, bs_stN (by omega) hx]
        exact ih
      · rw [if_neg hx, bs_stY (by omega) (by simpa using hx)]
        exact ih
    · unfold wX12_cellsNow_L15 wX12_cellsNow_B15
      refine ⟨mO, m_panes hz hS ?_⟩
      rw [if_neg (nI_ge hi (by omega))]
      have e := hD.2.2 i (by omega)
      unfold wX12_cellsNow_J75 wX12_cellsNow_J71 wX12_cellsNow_J68
      unfold wX12_cellsNow_J71 wX12_cellsNow_J75 wX12_cellsNow_J76
      simp (disch := omega) only [Option.some.injEq, exists_eq_left', exists_eq_left, forall_eq, true_and, and_true, gr_si, gl_si, gr_sl, gi_sl, gr_sA, gl_sA, j_0, j_1, j_2, j_3, j_4, j_5, j_6, j_7, j_8, j_9, j_10, j_11, j_12, j_13, j_14, j_15, j_16, j_18, j_19, j_20, j_21, j_22, j_23, j_24, j_28, j_30, j_33, j_40, j_48, j_60, j_66, j_96, j_97, j_99, j_100, j_122, j_125, j_126, j_127, j_128, j_255, j_495, j_1000, j_1001, j_1023, j_1024, j_1100, j_1386, j_1452, j_9999, nN_1, nI_add, pk_mul, pk_sub, nI_clamp, vpI, nI_leI, nI_ltI, nI_eq, nN_eq, nN_eq', nN_lt, nN_nlt, nN_le, nN_nle, b_bit, n_bit, b_eq0, b_eq1, mO, mR10 hz, mA135, mL135, mR24 hz, mA145, mL145, e]
      by_cases hx : sWh S W so ss i k = false
      · rw [if_pos hx]
        have e2 : sWh S W so ss (i + 1) k = false := by
          simp only [sWh, xB] at hx ⊢
          simp only [Bool.not_eq_false'] at hx ⊢
          simp [hx]
        rw [e2] at ih2
        exact ih2
      · rw [if_neg hx]
        refine ⟨by omega, ?_⟩
        have hx2 : xB i (fun p => so p && (sSi S W p k != ss p)) = false := by simpa [sWh] using hx
        by_cases hs : so i = true
        · simp only [hs, if_true]
          have hb : (ss i).toNat < 2 := Bool.toNat_lt _
          simp (disch := omega) only [Option.some.injEq, exists_eq_left', exists_eq_left, forall_eq, true_and, and_true, gr_si, gl_si, gr_sl, gi_sl, gr_sA, gl_sA, j_0, j_1, j_2, j_3, j_4, j_5, j_6, j_7, j_8, j_9, j_10, j_11, j_12, j_13, j_14, j_15, j_16, j_18, j_19, j_20, j_21, j_22, j_23, j_24, j_28, j_30, j_33, j_40, j_48, j_60, j_66, j_96, j_97, j_99, j_100, j_122, j_125, j_126, j_127, j_128, j_255, j_495, j_1000, j_1001, j_1023, j_1024, j_1100, j_1386, j_1452, j_9999, nN_1, nI_add, pk_mul, pk_sub, nI_clamp, vpI, nI_leI, nI_ltI, nI_eq, nN_eq, nN_eq', nN_lt, nN_nlt, nN_le, nN_nle, b_bit, n_bit, b_eq0, b_eq1, mO, mR10 hz, mA135, mL135, mR24 hz, mA145, mL145, Nat.not_lt_zero, if_false]
          refine m_doesSee (b := 0) hz hS hW hok hT (by decide) hi hk ?_
          simp (disch := omega) only [Option.some.injEq, exists_eq_left', exists_eq_left, forall_eq, true_and, and_true, gr_si, gl_si, gr_sl, gi_sl, gr_sA, gl_sA, j_0, j_1, j_2, j_3, j_4, j_5, j_6, j_7, j_8, j_9, j_10, j_11, j_12, j_13, j_14, j_15, j_16, j_18, j_19, j_20, j_21, j_22, j_23, j_24, j_28, j_30, j_33, j_40, j_48, j_60, j_66, j_96, j_97, j_99, j_100, j_122, j_125, j_126, j_127, j_128, j_255, j_495, j_1000, j_1001, j_1023, j_1024, j_1100, j_1386, j_1452, j_9999, nN_1, nI_add, pk_mul, pk_sub, nI_clamp, vpI, nI_leI, nI_ltI, nI_eq, nN_eq, nN_eq', nN_lt, nN_nlt, nN_le, nN_nle, b_bit, n_bit, b_eq0, b_eq1, mO, mR10 hz, mA135, mL135, mR24 hz, mA145, mL145, e, hs, if_true]
          refine ⟨by omega, ?_⟩
          have e2 : sWh S W so ss (i + 1) k = (sSi S W i k == ss i) := by
            simp only [sWh, xB, hx2, hs]
            cases sSi S W i k <;> cases ss i <;> rfl
          rw [e2] at ih2
          cases h1 : sSi S W i k <;> cases h2 : ss i <;> simp only [h1, h2] at ih2 ⊢ <;> simpa [b_eq0, b_eq1] using ih2
        · simp only [hs]
          have hs0 : so i = false := by simpa using hs
          simp (disch := omega) only [Option.some.injEq, exists_eq_left', exists_eq_left, forall_eq, true_and, and_true, gr_si, gl_si, gr_sl, gi_sl, gr_sA, gl_sA, j_0, j_1, j_2, j_3, j_4, j_5, j_6, j_7, j_8, j_9, j_10, j_11, j_12, j_13, j_14, j_15, j_16, j_18, j_19, j_20, j_21, j_22, j_23, j_24, j_28, j_30, j_33, j_40, j_48, j_60, j_66, j_96, j_97, j_99, j_100, j_122, j_125, j_126, j_127, j_128, j_255, j_495, j_1000, j_1001, j_1023, j_1024, j_1100, j_1386, j_1452, j_9999, nN_1, nI_add, pk_mul, pk_sub, nI_clamp, vpI, nI_leI, nI_ltI, nI_eq, nN_eq, nN_eq', nN_lt, nN_nlt, nN_le, nN_nle, b_bit, n_bit, b_eq0, b_eq1, mO, mR10 hz, mA135, mL135, mR24 hz, mA145, mL145, if_true, Bool.false_eq_true, if_false]
          have e2 : sWh S W so ss (i + 1) k = true := by simp [sWh, xB, hx2, hs0]
          rw [e2] at ih2
          exact ih2
theorem c_bestToAsk (hz : sR z) (ht : isS t) (hS : cS z t S) (hW : cW z 3 S W) (hok : sOK S) (hT : wT W < 2 ^ 30) (hD : Sd z so ss) (h : P (oI (fAs S W so ss (sPA S)).1) z) : wX6_bestToAsk 148 gSH t 3 z P := by
  have h6 := hok.1
  have hw := w3
  refine c_cellsAsSaid hz ht hS hW hok hT hD (j_bitCount (bs_1024 _) ?_)
  refine lp (fun m k => wX6_bestToAsk_L17 148 gSH P m t 3 (nI (aWh S W so ss)) (oI (fAs S W so ss k).1) (nI (fAs S W so ss k).2) (nI k) z) (sPA S) (fun m => ?_) (fun m k hk ih => ?_)
  · unfold wX6_bestToAsk_L17 wX6_bestToAsk_B17
    simp (disch := omega) only [Option.some.injEq, exists_eq_left', exists_eq_left, forall_eq, true_and, and_true, gr_si, gl_si, gr_sl, gi_sl, gr_sA, gl_sA, j_0, j_1, j_2, j_3, j_4, j_5, j_6, j_7, j_8, j_9, j_10, j_11, j_12, j_13, j_14, j_15, j_16, j_18, j_19, j_20, j_21, j_22, j_23, j_24, j_28, j_30, j_33, j_40, j_48, j_60, j_66, j_96, j_97, j_99, j_100, j_122, j_125, j_126, j_127, j_128, j_255, j_495, j_1000, j_1001, j_1023, j_1024, j_1100, j_1386, j_1452, j_9999, nN_1, nI_add, pk_mul, pk_sub, nI_clamp, vpI, nI_leI, nI_ltI, nI_eq, nN_eq, nN_eq', nN_lt, nN_nlt, nN_le, nN_nle, b_bit, n_bit, b_eq0, b_eq1, wO hw, wA1 hw, wA2 hw, wA3 hw, wL1 hw, wL2 hw, wL3 hw, wR5 hz hw, wR6 hz hw, wR7 hz hw, tO ht, tO1 ht, tA2 ht, tL2 ht, tA3 ht, tL3 ht, tA4 ht, tL4 ht, tA5 ht, tL5 ht, tA6 ht, tL6 ht, tA7 ht, tL7 ht, tA8 ht, tL8 ht, tA9 ht, tL9 ht, tR0 hz ht, tR1 hz ht, tR2 hz ht, tR3 hz ht, tR4 hz ht, tR5 hz ht, tR6 hz ht, tRl0 hz ht, tRl1 hz ht, hS.1, Nat.le_refl, if_true]
    exact h
  · unfold wX6_bestToAsk_L17 wX6_bestToAsk_B17
    unfold wX6_bestToAsk_J82
    simp (disch := omega) only [Option.some.injEq, exists_eq_left', exists_eq_left, forall_eq, true_and, and_true, gr_si, gl_si, gr_sl, gi_sl, gr_sA, gl_sA, j_0, j_1, j_2, j_3, j_4, j_5, j_6, j_7, j_8, j_9, j_10, j_11, j_12, j_13, j_14, j_15, j_16, j_18, j_19, j_20, j_21, j_22, j_23, j_24, j_28, j_30, j_33, j_40, j_48, j_60, j_66, j_96, j_97, j_99, j_100, j_122, j_125, j_126, j_127, j_128, j_255, j_495, j_1000, j_1001, j_1023, j_1024, j_1100, j_1386, j_1452, j_9999, nN_1, nI_add, pk_mul, pk_sub, nI_clamp, vpI, nI_leI, nI_ltI, nI_eq, nN_eq, nN_eq', nN_lt, nN_nlt, nN_le, nN_nle, b_bit, n_bit, b_eq0, b_eq1, wO hw, wA1 hw, wA2 hw, wA3 hw, wL1 hw, wL2 hw, wL3 hw, wR5 hz hw, wR6 hz hw, wR7 hz hw, tO ht, tO1 ht, tA2 ht, tL2 ht, tA3 ht, tL3 ht, tA4 ht, tL4 ht, tA5 ht, tL5 ht, tA6 ht, tL6 ht, tA7 ht, tL7 ht, tA8 ht, tL8 ht, tA9 ht, tL9 ht, tR0 hz ht, tR1 hz ht, tR2 hz ht, tR3 hz ht, tR4 hz ht, tR5 hz ht, tR6 hz ht, tRl0 hz ht, tRl1 hz ht, hS.1, if_neg (show ¬ sPA S ≤ k by omega), hD.1]
    refine c_sightOf hz hw ht hS hW hok hT hk ?_
    unfold aWh at ih ⊢
    rw [bs_and2, bs_andnN (by decide)]
    refine j_bitCount (bs_1024 _) (j_bitCount (bs_1024 _) ?_)
    have q1 := pcs_le (bs 10 (fun c => sWh S W so ss (sPA S) c && sSi S W k c)) 30
    have q2 := pcs_le (bs 10 (fun c => sWh S W so ss (sPA S) c && !sSi S W k c)) 30
    have q3 := fAs_le (S := S) (W := W) (so := so) (ss := ss) k
    have q4 := gAs_le (S := S) (W := W) (so := so) (ss := ss) (k := k)
    have e : (if nI (pcs 30 (bs 10 (fun c => sWh S W so ss (sPA S) c && sSi S W k c))) < nI (pcs 30 (bs 10 (fun c => sWh S W so ss (sPA S) c && !sSi S W k c))) then nI (pcs 30 (bs 10 (fun c => sWh S W so ss (sPA S) c && !sSi S W k c))) else nI (pcs 30 (bs 10 (fun c => sWh S W so ss (sPA S) c && sSi S W k c)))) = nI (gAs S W so ss k) := by
      unfold gAs
      simp (disch := omega) only [nI_ltI]
      split <;> rfl
    rw [e]
    simp (disch := omega) only [Option.some.injEq, exists_eq_left', exists_eq_left, forall_eq, true_and, and_true, gr_si, gl_si, gr_sl, gi_sl, gr_sA, gl_sA, j_0, j_1, j_2, j_3, j_4, j_5, j_6, j_7, j_8, j_9, j_10, j_11, j_12, j_13, j_14, j_15, j_16, j_18, j_19, j_20, j_21, j_22, j_23, j_24, j_28, j_30, j_33, j_40, j_48, j_60, j_66, j_96, j_97, j_99, j_100, j_122, j_125, j_126, j_127, j_128, j_255, j_495, j_1000, j_1001, j_1023, j_1024, j_1100, j_1386, j_1452, j_9999, nN_1, nI_add, pk_mul, pk_sub, nI_clamp, vpI, nI_leI, nI_ltI, nI_eq, nN_eq, nN_eq', nN_lt, nN_nlt, nN_le, nN_nle, b_bit, n_bit, b_eq0, b_eq1, wO hw, wA1 hw, wA2 hw, wA3 hw, wL1 hw, wL2 hw, wL3 hw, wR5 hz hw, wR6 hz hw, wR7 hz hw, tO ht, tO1 ht, tA2 ht, tL2 ht, tA3 ht, tL3 ht, tA4 ht, tL4 ht, tA5 ht, tL5 ht, tA6 ht, tL6 ht, tA7 ht, tL7 ht, tA8 ht, tL8 ht, tA9 ht, tL9 ht, tR0 hz ht, tR1 hz ht, tR2 hz ht, tR3 hz ht, tR4 hz ht, tR5 hz ht, tR6 hz ht, tRl0 hz ht, tRl1 hz ht, hD.1]
    rw [fAs] at ih
    by_cases hs : so k = false
    · rw [if_pos hs]
      by_cases hx : (fAs S W so ss k).2 ≤ gAs S W so ss k
      · rw [if_pos hx]
        rw [if_neg (by omega)] at ih
        exact ih
      · rw [if_neg hx]
        rw [if_pos ⟨hs, by omega⟩] at ih
        exact ih
    · rw [if_neg hs]
      rw [if_neg (fun q => hs q.1)] at ih
      exact ih
theorem m_ask (hz : sR z) (hS : mS z S) (hW : mW z 0 S W) (hok : sOK S) (hT : wT W < 2 ^ 30) (hD : Sd z so ss) (h : P (oI (fAs S W so ss (sPA S)).1) z) : ∃ N, wX12_ask_L20 148 gSH P N 129 (nI (aWh S W so ss)) nN (nI (pcs 30 (aWh S W so ss))) (nI 0) z := by
  have h6 := hok.1
  refine lp (fun m k => wX12_ask_L20 148 gSH P m 129 (nI (aWh S W so ss)) (oI (fAs S W so ss k).1) (nI (fAs S W so ss k).2) (nI k) z) (sPA S) (fun m => ?_) (fun m k hk ih => ?_)
  · unfold wX12_ask_L20 wX12_ask_B20
    refine ⟨mO, m_panes hz hS ?_⟩
    rw [if_pos (nI_le (by omega) (by omega))]
    exact h
  · unfold wX12_ask_L20 wX12_ask_B20
    refine ⟨mO, m_panes hz hS ?_⟩
    rw [if_neg (nI_ge hk (by omega))]
    refine m_sightOf (b := 0) hz hS hW hok hT (by decide) hk ?_
    unfold aWh at ih ⊢
    rw [bs_and2]
    have hbl : ∀ f, bs 10 f < 2 ^ 31 := fun f => by have := bs_1024 f; omega
    refine m_bits (hbl _) (m_bits (hbl _) ?_)
    have q1 := pcs_le (bs 10 (fun c => sWh S W so ss (sPA S) c && sSi S W k c)) 30
    have q2 := pcs_le (bs 10 (fun c => sWh S W so ss (sPA S) c && !sSi S W k c)) 30
    have q3 := fAs_le (S := S) (W := W) (so := so) (ss := ss) k
    have q4 := gAs_le (S := S) (W := W) (so := so) (ss := ss) (k := k)
    have q5 := pcs_and (sWh S W so ss (sPA S)) (sSi S W k) 10 30
    have hJ : wX12_ask_J67 148 gSH (wX12_ask_L20 148 gSH P m) P 129 (nI (bs 10 (sWh S W so ss (sPA S)))) (oI (fAs S W so ss k).1) (nI (fAs S W so ss k).2) (nI k) (nI (gAs S W so ss k)) z := by
      unfold wX12_ask_J67
      unfold wX12_ask_J92 wX12_ask_J93 wX12_ask_J106 wX12_ask_J118
      have e := hD.2.2 k (by omega)
      simp (disch := omega) only [Option.some.injEq, exists_eq_left', exists_eq_left, forall_eq, true_and, and_true, gr_si, gl_si, gr_sl, gi_sl, gr_sA, gl_sA, j_0, j_1, j_2, j_3, j_4, j_5, j_6, j_7, j_8, j_9, j_10, j_11, j_12, j_13, j_14, j_15, j_16, j_18, j_19, j_20, j_21, j_22, j_23, j_24, j_28, j_30, j_33, j_40, j_48, j_60, j_66, j_96, j_97, j_99, j_100, j_122, j_125, j_126, j_127, j_128, j_255, j_495, j_1000, j_1001, j_1023, j_1024, j_1100, j_1386, j_1452, j_9999, nN_1, nI_add, pk_mul, pk_sub, nI_clamp, vpI, nI_leI, nI_ltI, nI_eq, nN_eq, nN_eq', nN_lt, nN_nlt, nN_le, nN_nle, b_bit, n_bit, b_eq0, b_eq1, mO, mR10 hz, mA135, mL135, mR24 hz, mA145, mL145, e, if_true, Nat.one_ne_zero, if_false]
      refine ⟨by omega, ?_⟩
      rw [fAs] at ih
      by_cases hs : so k = false
      · simp only [hs, Bool.false_eq_true, if_false]
        simp (disch := omega) only [Option.some.injEq, exists_eq_left', exists_eq_left, forall_eq, true_and, and_true, gr_si, gl_si, gr_sl, gi_sl, gr_sA, gl_sA, j_0, j_1, j_2, j_3, j_4, j_5, j_6, j_7, j_8, j_9, j_10, j_11, j_12, j_13, j_14, j_15, j_16, j_18, j_19, j_20, j_21, j_22, j_23, j_24, j_28, j_30, j_33, j_40, j_48, j_60, j_66, j_96, j_97, j_99, j_100, j_122, j_125, j_126, j_127, j_128, j_255, j_495, j_1000, j_1001, j_1023, j_1024, j_1100, j_1386, j_1452, j_9999, nN_1, nI_add, pk_mul, pk_sub, nI_clamp, vpI, nI_leI, nI_ltI, nI_eq, nN_eq, nN_eq', nN_lt, nN_nlt, nN_le, nN_nle, b_bit, n_bit, b_eq0, b_eq1, mO, mR10 hz, mA135, mL135, mR24 hz, mA145, mL145, if_false]
        by_cases hx : (fAs S W so ss k).2 ≤ gAs S W so ss k
        · rw [if_pos hx]
          rw [if_neg (by omega)] at ih
          exact ih
        · rw [if_neg hx]
          rw [if_pos ⟨hs, by omega⟩] at ih
          exact ih
      · have hs1 : so k = true := by simpa using hs
        have hb : (ss k).toNat < 2 := Bool.toNat_lt _
        simp only [hs1, if_true]
        simp (disch := omega) only [Option.some.injEq, exists_eq_left', exists_eq_left, forall_eq, true_and, and_true, gr_si, gl_si, gr_sl, gi_sl, gr_sA, gl_sA, j_0, j_1, j_2, j_3, j_4, j_5, j_6, j_7, j_8, j_9, j_10, j_11, j_12, j_13, j_14, j_15, j_16, j_18, j_19, j_20, j_21, j_22, j_23, j_24, j_28, j_30, j_33, j_40, j_48, j_60, j_66, j_96, j_97, j_99, j_100, j_122, j_125, j_126, j_127, j_128, j_255, j_495, j_1000, j_1001, j_1023, j_1024, j_1100, j_1386, j_1452, j_9999, nN_1, nI_add, pk_mul, pk_sub, nI_clamp, vpI, nI_leI, nI_ltI, nI_eq, nN_eq, nN_eq', nN_lt, nN_nlt, nN_le, nN_nle, b_bit, n_bit, b_eq0, b_eq1, mO, mR10 hz, mA135, mL135, mR24 hz, mA145, mL145, Nat.zero_le, if_true]
        rw [if_neg (fun q => hs q.1)] at ih
        exact ih
    simp (disch := omega) only [Option.some.injEq, exists_eq_left', exists_eq_left, forall_eq, true_and, and_true, gr_si, gl_si, gr_sl, gi_sl, gr_sA, gl_sA, j_0, j_1, j_2, j_3, j_4, j_5, j_6, j_7, j_8, j_9, j_10, j_11, j_12, j_13, j_14, j_15, j_16, j_18, j_19, j_20, j_21, j_22, j_23, j_24, j_28, j_30, j_33, j_40, j_48, j_60, j_66, j_96, j_97, j_99, j_100, j_122, j_125, j_126, j_127, j_128, j_255, j_495, j_1000, j_1001, j_1023, j_1024, j_1100, j_1386, j_1452, j_9999, nN_1, nI_add, pk_mul, pk_sub, nI_clamp, vpI, nI_leI, nI_ltI, nI_eq, nN_eq, nN_eq', nN_lt, nN_nlt, nN_le, nN_nle, b_bit, n_bit, b_eq0, b_eq1, mO, mR10 hz, mA135, mL135, mR24 hz, mA145, mL145]
    by_cases hx : pcs 30 (bs 10 (fun c => sWh S W so ss (sPA S) c && sSi S W k c)) ≤ pcs 30 (bs 10 (sWh S W so ss (sPA S))) - pcs 30 (bs 10 (fun c => sWh S W so ss (sPA S) c && sSi S W k c))
    · rw [if_pos hx]
      refine m_bits (hbl _) ?_
      rw [pk_sub (by omega)]
      have e : pcs 30 (bs 10 (sWh S W so ss (sPA S))) - pcs 30 (bs 10 (fun c => sWh S W so ss (sPA S) c && sSi S W k c)) = gAs S W so ss k := by
        unfold gAs
        split <;> omega
      rw [e]
      exact hJ
    · rw [if_neg hx]
      have e : pcs 30 (bs 10 (fun c => sWh S W so ss (sPA S) c && sSi S W k c)) = gAs S W so ss k := by
        unfold gAs
        split <;> omega
      rw [e]
      exact hJ
end RC
section RP
variable {z : gS} {t : Nat} {S : sS} {W : sW} {so ss : Nat → Bool} {Q : Int32 → Int32 → gS → Prop}
theorem p_where (h : Rd z t S W) (hD : Sd z so ss) (hQ : ∀ r, Q r r (si z 129 0 0)) : wX11_where 148 gSH 0 z (fun r1 z1 => wX12_where 148 gSH 129 z1 (fun r2 z2 => Q r1 r2 z2)) := by
  have hb := h.th (v := 0)
  obtain ⟨hz, ht, h7, hok, hwk, hT, hS, hW, hmS, hmW⟩ := h
  obtain ⟨gz, _, _, _, _, _, _, _, gmS, gmW⟩ := hb
  refine ⟨gO, t, h7, 3, gR1 hz, c_cellsAsSaid hz ht hS hW hok (by omega) hD ⟨mO, fun z2 e2 => ?_⟩⟩
  subst e2
  exact m_cellsNow gz gmS gmW hok (by omega) hD.th (hQ _)
theorem p_ask (h : Rd z t S W) (hD : Sd z so ss) (hQ : ∀ r, Q r r (si z 129 0 0)) : wX11_ask 148 gSH 0 z (fun r1 z1 => wX12_ask 148 gSH 129 z1 (fun r2 z2 => Q r1 r2 z2)) := by
  have hb := h.th (v := 0)
  obtain ⟨hz, ht, h7, hok, hwk, hT, hS, hW, hmS, hmW⟩ := h
  obtain ⟨gz, _, _, _, _, _, _, _, gmS, gmW⟩ := hb
  refine ⟨gO, t, h7, 3, gR1 hz, c_bestToAsk hz ht hS hW hok (by omega) hD ⟨mO, fun z2 e2 => ?_⟩⟩
  subst e2
  refine m_cellsNow gz gmS gmW hok (by omega) hD.th (m_bits (by have := bs_1024 (sWh S W so ss (sPA S)); unfold aWh; omega) ?_)
  exact m_ask gz gmS gmW hok (by omega) hD.th (hQ _)
theorem p_hide (h : Rd z t S W) (x y : Int32) (hQ : ∀ r, Q r r (si z 129 0 0)) : wX11_hide 148 gSH 0 x y z (fun r1 z1 => wX12_hide 148 gSH 129 x y z1 (fun r2 z2 => Q r1 r2 z2)) := by
  have hb := h.th (v := 0)
  obtain ⟨hz, ht, h7, hok, hwk, hT, hS, hW, hmS, hmW⟩ := h
  obtain ⟨gz, _, _, _, _, _, _, _, gmS, gmW⟩ := hb
  have h5 := hok.2.1
  refine ⟨gO, t, h7, tO ht, ?_⟩
  rcases ix_of x (n := sPE S) (by omega) with hx | ⟨j, hj, rfl⟩
  · refine c_hasPerson_no ht hS hx ?_
    rw [if_pos rfl]
    refine ⟨mO, fun z2 e2 => ?_⟩
    subst e2
    refine m_isPerson_no gz gmS hx ?_
    exact if0 (hQ _)
  · refine c_hasPerson_yes ht hS hok hj ?_
    rw [if_neg (by decide)]
    have hc := hwk.1 j hj
    rcases rg_of y (a := 0) (b := 1) (by decide) (by decide) with hy | hy | ⟨k, hk0, hk1, rfl⟩
    · rw [if_pos (show y < 0 from hy)]
      refine ⟨mO, fun z2 e2 => ?_⟩
      subst e2
      refine m_isPerson_yes gz gmS hok hj ?_
      rw [if_neg (by decide)]
      refine m_within_lo (a := 0) (b := 1) hy ?_
      exact if0 (hQ _)
    · rw [if_neg (show ¬ y < 0 by rw [j_0, lt_nlt hy (by decide) (by decide) (by decide)]; exact id), if_neg (show ¬ y ≤ 1 by rw [j_1, lt_nle hy]; exact id)]
      refine ⟨mO, fun z2 e2 => ?_⟩
      subst e2
      refine m_isPerson_yes gz gmS hok hj ?_
      rw [if_neg (by decide)]
      refine m_within_hi (a := 0) (b := 1) hy ?_
      exact if0 (hQ _)
    · rw [if_neg (show ¬ nI k < 0 from nI_pos (by omega)), if_pos (show nI k ≤ 1 from nI_le (b := 1) hk1 (by decide))]
      refine ⟨3, gR1 hz, wO w3, _, wR5 hz w3, wA1 w3, by rw [wL1 w3]; exact vp_in_nI (by omega) (by decide), fun v hv => ?_⟩
      rw [nI_clamp (by omega), hW.2.2.2.1 j hj] at hv
      subst hv
      refine ⟨t, h7, 3, gR1 hz, c_nearest hz w3 ht hS hW hok (by omega) hc ?_⟩
      have hm : Q (aHi S W (wC W j) k) (aHi S W (wC W j) k) (si z 129 0 0) → wX12_hide 148 gSH 129 (nI j) (nI k) z (fun r2 z2 => Q (aHi S W (wC W j) k) r2 z2) := by
        intro hq
        refine ⟨mO, fun z2 e2 => ?_⟩
        subst e2
        refine m_isPerson_yes gz gmS hok hj ?_
        rw [if_neg (by decide)]
        refine m_within_in (a := 0) (b := 1) hk0 hk1 (by decide) ?_
        rw [if_neg (by decide)]
        exact m_hide gz gmS gmW hok (by omega) hj hc (by omega) hq
      have hm2 := hm (hQ _)
      unfold aHi at hm2
      rcases fHi_ok S W hc 10 (by omega) with e | ⟨i, hi, e⟩
      · rw [e] at hm2 ⊢
        exact hm2
      · rw [e] at hm2 ⊢
        have q : ¬ oI (some i) = (-1 : Int32) := by
          rw [nN_e, oI, nN_eq' (by omega)]
          exact id
        rw [if_neg q]
        by_cases hk : k = 0
        · subst hk
          refine if0 ?_
          have e3 : (if 0 ≤ oI (some i) - nI (wC W j) then oI (some i) - nI (wC W j) else 0 - (oI (some i) - nI (wC W j))) = nI (dst i (wC W j)) := dst_c (by omega) (by omega)
          simp only [e3]
          exact hm2
        · rw [if_neg (by rw [j_0, nI_eq (by omega) (by omega)]; exact hk)]
          simp only [hk, if_false] at hm2
          exact hm2
theorem p_dark (h : Rd z t S W) (x : Int32) (hQ : ∀ r, Q r r (si z 129 0 0)) : wX11_dark 148 gSH 0 x z (fun r1 z1 => wX12_dark 148 gSH 129 x z1 (fun r2 z2 => Q r1 r2 z2)) := by
  have hb := h.th (v := 0)
  obtain ⟨hz, ht, h7, hok, hwk, hT, hS, hW, hmS, hmW⟩ := h
  obtain ⟨gz, _, _, _, _, _, _, _, gmS, gmW⟩ := hb
  unfold wX11_dark
  rcases rg_of x (a := 1) (b := 1023) (by decide) (by decide) with hy | hy | ⟨k, hk0, hk1, rfl⟩
  · rw [if_pos (show x ≤ 0 by rw [j_0, lt_le1 hy (by decide)]; trivial)]
    refine ⟨mO, fun z2 e2 => ?_⟩
    subst e2
    refine m_within_lo (a := 1) (b := 1023) hy ?_
    exact if0 (hQ _)
  · have hy0 : ¬ x ≤ 0 := by
      intro q
      rw [j_0, Int32.le_iff_toInt_le] at q
      rw [Int32.lt_iff_toInt_lt] at hy
      rw [nI_toInt (by decide)] at q hy
      omega
    rw [if_neg hy0, if_neg (show ¬ x ≤ 1023 by rw [j_1023, lt_nle hy]; exact id)]
    refine ⟨mO, fun z2 e2 => ?_⟩
    subst e2
    refine m_within_hi (a := 1) (b := 1023) hy ?_
    exact if0 (hQ _)
  · rw [if_neg (show ¬ nI k ≤ 0 from nI_nle (by omega) (by omega)), if_pos (show nI k ≤ 1023 from nI_le (b := 1023) hk1 (by decide))]
    refine ⟨gO, t, h7, 3, gR1 hz, c_fewestWatching hz w3 ht hS hW hok (by omega) (by omega) ⟨mO, fun z2 e2 => ?_⟩⟩
    subst e2
    refine m_within_in (a := 1) (b := 1023) hk0 hk1 (by decide) ?_
    rw [if_neg (by decide)]
    exact m_dark gz gmS gmW hok (by omega) (by omega) (hQ _)
theorem p_glass (h : Rd z t S W) (x : Int32) (hQ : ∀ r, Q r r (si z 129 0 0)) : wX11_glass 148 gSH 0 x z (fun r1 z1 => wX12_glass 148 gSH 129 x z1 (fun r2 z2 => Q r1 r2 z2)) := by
  have hb := h.th (v := 0)
  obtain ⟨hz, ht, h7, hok, hwk, hT, hS, hW, hmS, hmW⟩ := h
  obtain ⟨gz, _, _, _, _, _, _, _, gmS, gmW⟩ := hb
  unfold wX11_glass
  rcases rg_of x (a := 1) (b := 10) (by decide) (by decide) with hy | hy | ⟨k, hk0, hk1, rfl⟩
  · rw [if_pos (show x < 1 from hy)]
    refine ⟨mO, fun z2 e2 => ?_⟩
    subst e2
    refine m_within_lo (a := 1) (b := 10) hy ?_
    exact if0 (hQ _)
  · rw [if_neg (show ¬ x < 1 by rw [j_1, lt_nlt hy (by decide) (by decide) (by decide)]; exact id), if_neg (show ¬ x ≤ 10 by rw [j_10, lt_nle hy]; exact id)]
    refine ⟨mO, fun z2 e2 => ?_⟩
    subst e2
    refine m_within_hi (a := 1) (b := 10) hy ?_
    exact if0 (hQ _)
  · rw [if_neg (show ¬ nI k < 1 from nI_nlt (b := 1) hk0 (by omega)), if_pos (show nI k ≤ 10 from nI_le (b := 10) hk1 (by decide))]
    refine ⟨gO, t, h7, 3, gR1 hz, c_mostPeopled hz w3 ht hS hW hok hk0 hk1 hwk.1 ⟨mO, fun z2 e2 => ?_⟩⟩
    subst e2
    refine m_within_in (a := 1) (b := 10) hk0 hk1 (by decide) ?_
    rw [if_neg (by decide)]
    exact m_glass gz gmS gmW hok hk0 hk1 hwk.1 (hQ _)
end RP
