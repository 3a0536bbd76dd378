/-! ===== marks ===== -/
def CW (z : gS) (t w : Nat) (S : sS) (W : sW) : Prop := sR z ∧ isS t ∧ isW w ∧ sOK S ∧ wOK S W ∧ wT W < 2 ^ 20 ∧ cS z t S ∧ cW z w S W
def MW (z : gS) (b : Nat) (S : sS) (W : sW) : Prop := sR z ∧ sOK S ∧ wOK S W ∧ wT W < 2 ^ 20 ∧ mS z S ∧ mW z b S W ∧ b ≤ 1452
def mk (W : sW) (g i : Nat) : sM := (wM W g).getD i m0
def ln (W : sW) (g : Nat) : Nat := (wM W g).length
def mB (m : sM) : Prop := m.1 < 8 ∧ m.2.1 < 5 ∧ m.2.2.1 < 10 ∧ m.2.2.2 < 2 ^ 20
theorem mk_ok {S : sS} {W : sW} (hok : sOK S) (hwk : wOK S W) (hT : wT W < 2 ^ 20) {g i : Nat} (hg : g < sPA S) (hi : i < ln W g) : mB (mk W g i) ∧ mOK S (mk W g i) ∧ (mk W g i).2.2.2 ≤ wT W := by
  have hm : mk W g i ∈ wM W g := by
    unfold mk
    rw [List.getD_eq_getElem?_getD, List.getElem?_eq_getElem hi]
    exact List.getElem_mem hi
  obtain ⟨h1, h2⟩ := hwk.2.2.2 g hg _ hm
  have a1 := hok.2.1
  have a2 := hok.2.2.1
  obtain ⟨b1, b2, b3⟩ := h1
  exact ⟨⟨by omega, by omega, b3, by omega⟩, ⟨b1, b2, b3⟩, h2⟩
theorem ln_le {S : sS} {W : sW} (hok : sOK S) (hwk : wOK S W) {g : Nat} (hg : g < sPA S) : ln W g ≤ 6 := by
  have h1 := hwk.2.2.1 g hg
  have h2 := (hok.2.2.2.2.2.1 g hg).2
  unfold ln
  omega
theorem nI_sa {n k l : Nat} (hk : k < 32) (h : n < 2 ^ 31) : (nI n >>> (nI k &&& 31)) &&& nI (2 ^ l - 1) = nI (n / 2 ^ k % 2 ^ l) := by
  rw [nI_shr hk h, nI_and, Nat.and_two_pow_sub_one_eq_mod]
theorem mkC_lt {m : sM} (h : mB m) : mkC m < 2 ^ 31 := by
  obtain ⟨h1, h2, h3, h4⟩ := h
  unfold mkC
  omega
theorem mkM_lt {m : sM} (h : mB m) : mkM m < 2 ^ 31 := by
  obtain ⟨h1, h2, h3, h4⟩ := h
  unfold mkM
  omega
theorem whoC {m : sM} (h : mB m) : (nI (mkC m) >>> (nI 7 &&& 31)) &&& nI 7 = nI m.1 := by
  refine (nI_sa (l := 3) (by decide) (mkC_lt h)).trans ?_
  obtain ⟨h1, h2, h3, h4⟩ := h
  congr 1
  unfold mkC
  omega
theorem deedC {m : sM} (h : mB m) : (nI (mkC m) >>> (nI 4 &&& 31)) &&& nI 7 = nI m.2.1 := by
  refine (nI_sa (l := 3) (by decide) (mkC_lt h)).trans ?_
  obtain ⟨h1, h2, h3, h4⟩ := h
  congr 1
  unfold mkC
  omega
theorem cellC {m : sM} (h : mB m) : nI (mkC m) &&& nI 15 = nI m.2.2.1 := by
  rw [nI_and, show (15 : Nat) = 2 ^ 4 - 1 from rfl, Nat.and_two_pow_sub_one_eq_mod]
  obtain ⟨h1, h2, h3, h4⟩ := h
  congr 1
  unfold mkC
  omega
theorem ageC {m : sM} (h : mB m) : nI (mkC m) >>> (nI 10 &&& 31) = nI m.2.2.2 := by
  rw [nI_shr (by decide) (mkC_lt h)]
  obtain ⟨h1, h2, h3, h4⟩ := h
  congr 1
  unfold mkC
  omega
theorem likeC {m : sM} (h : mB m) : nI (mkC m) &&& nI 1023 = nI (m.1 * 128 + m.2.1 * 16 + m.2.2.1) := by
  rw [nI_and, show (1023 : Nat) = 2 ^ 10 - 1 from rfl, Nat.and_two_pow_sub_one_eq_mod]
  obtain ⟨h1, h2, h3, h4⟩ := h
  congr 1
  unfold mkC
  omega
theorem whoM {m : sM} (h : mB m) : nI (mkM m) &&& nI 7 = nI m.1 := by
  rw [nI_and, show (7 : Nat) = 2 ^ 3 - 1 from rfl, Nat.and_two_pow_sub_one_eq_mod]
  obtain ⟨h1, h2, h3, h4⟩ := h
  congr 1
  unfold mkM
  omega
theorem deedM {m : sM} (h : mB m) : (nI (mkM m) >>> (nI 3 &&& 31)) &&& nI 7 = nI m.2.1 := by
  refine (nI_sa (l := 3) (by decide) (mkM_lt h)).trans ?_
  obtain ⟨h1, h2, h3, h4⟩ := h
  congr 1
  unfold mkM
  omega
theorem cellM {m : sM} (h : mB m) : (nI (mkM m) >>> (nI 6 &&& 31)) &&& nI 15 = nI m.2.2.1 := by
  refine (nI_sa (l := 4) (by decide) (mkM_lt h)).trans ?_
  obtain ⟨h1, h2, h3, h4⟩ := h
  congr 1
  unfold mkM
  omega
theorem ageM {m : sM} (h : mB m) : nI (mkM m) >>> (nI 10 &&& 31) = nI m.2.2.2 := by
  rw [nI_shr (by decide) (mkM_lt h)]
  obtain ⟨h1, h2, h3, h4⟩ := h
  congr 1
  unfold mkM
  omega
theorem likeM {m : sM} (h : mB m) : nI (mkM m) &&& nI 1023 = nI (m.2.2.1 * 64 + m.2.1 * 8 + m.1) := by
  rw [nI_and, show (1023 : Nat) = 2 ^ 10 - 1 from rfl, Nat.and_two_pow_sub_one_eq_mod]
  obtain ⟨h1, h2, h3, h4⟩ := h
  congr 1
  unfold mkM
  omega
/-- what a pane shows to all, and whether it tells who -/
def opn (W : sW) (g : Nat) : Bool := wG W g || !wD W g
def tel (S : sS) (W : sW) (g : Nat) : Bool := wG W g || !decide (sKD S g = 1)
section RC
variable {z : gS} {w t g b i : Nat} {S : sS} {W : sW} {P : Int32 → gS → Prop}
theorem CW.he (h : CW z t w S W) (hg : g < sPA S) : gi z (w + 2) g = nI (ln W g) := h.2.2.2.2.2.2.2.2.2.2.2.1 g hg
theorem MW.he (h : MW z b S W) (hg : g < sPA S) : gi z 145 (b + 18 + g) = nI (ln W g) := h.2.2.2.2.2.1.2.2.2.2.1 g hg
theorem c_markAt (h : CW z t w S W) (hg : g < sPA S) (hi : i < ln W g) (hP : P (nI (mkC (mk W g i))) z) : wX10_markAt 148 gSH w (nI g) (nI i) z P := by
  obtain ⟨hz, ht, hw, hok, hwk, hT, hS, hW⟩ := h
  have h6 := hok.1
  have hl := ln_le hok hwk hg
  unfold wX10_markAt
  simp (disch := omega) only [Option.some.injEq, exists_eq_left', exists_eq_left, forall_eq, true_and, and_true, gr_si, gl_si, gr_sl, gi_sl, gr_sA, gl_sA, j_0, j_1, j_2, j_3, j_4, j_5, j_6, j_7, j_8, j_9, j_10, j_11, j_12, j_13, j_14, j_15, j_16, j_18, j_19, j_20, j_21, j_22, j_23, j_24, j_28, j_30, j_33, j_40, j_48, j_60, j_66, j_96, j_97, j_99, j_100, j_122, j_125, j_126, j_127, j_128, j_255, j_495, j_1000, j_1001, j_1023, j_1024, j_1100, j_1386, j_1452, j_9999, nN_1, nI_add, pk_mul, pk_sub, nI_clamp, vpI, nI_leI, nI_ltI, nI_eq, nN_eq, nN_eq', nN_lt, nN_nlt, nN_le, nN_nle, b_bit, n_bit, b_eq0, b_eq1, wO hw, wA1 hw, wA2 hw, wA3 hw, wL1 hw, wL2 hw, wL3 hw, wR5 hz hw, wR6 hz hw, wR7 hz hw, tO ht, tO1 ht, tA2 ht, tL2 ht, tA3 ht, tL3 ht, tA4 ht, tL4 ht, tA5 ht, tL5 ht, tA6 ht, tL6 ht, tA7 ht, tL7 ht, tA8 ht, tL8 ht, tA9 ht, tL9 ht, tR0 hz ht, tR1 hz ht, tR2 hz ht, tR3 hz ht, tR4 hz ht, tR5 hz ht, tR6 hz ht, tRl0 hz ht, tRl1 hz ht, hW.2.2.2.2.2 g hg i hi]
  exact ⟨by omega, hP⟩
theorem m_markOf (h : MW z b S W) (hg : g < sPA S) (hi : i < ln W g) (hP : P (nI (mkM (mk W g i))) z) : wX12_markOf 148 gSH 129 (nI b) (nI g) (nI i) z P := by
  obtain ⟨hz, hok, hwk, hT, hS, hW, hb⟩ := h
  have h6 := hok.1
  have hl := ln_le hok hwk hg
  unfold wX12_markOf
  simp (disch := omega) only [Option.some.injEq, exists_eq_left', exists_eq_left, forall_eq, true_and, and_true, gr_si, gl_si, gr_sl, gi_sl, gr_sA, gl_sA, j_0, j_1, j_2, j_3, j_4, j_5, j_6, j_7, j_8, j_9, j_10, j_11, j_12, j_13, j_14, j_15, j_16, j_18, j_19, j_20, j_21, j_22, j_23, j_24, j_28, j_30, j_33, j_40, j_48, j_60, j_66, j_96, j_97, j_99, j_100, j_122, j_125, j_126, j_127, j_128, j_255, j_495, j_1000, j_1001, j_1023, j_1024, j_1100, j_1386, j_1452, j_9999, nN_1, nI_add, pk_mul, pk_sub, nI_clamp, vpI, nI_leI, nI_ltI, nI_eq, nN_eq, nN_eq', nN_lt, nN_nlt, nN_le, nN_nle, b_bit, n_bit, b_eq0, b_eq1, mO, mR10 hz, mA135, mL135, mR24 hz, mA145, mL145, hW.2.2.2.2.2 g hg i hi]
  exact ⟨by omega, hP⟩
theorem c_whoOf {m : sM} (h : mB m) (hP : P (nI m.1) z) : wX10_whoOf 148 gSH (nI (mkC m)) z P := by
  unfold wX10_whoOf
  rw [j_7, whoC h]
  exact hP
theorem c_deedOf {m : sM} (h : mB m) (hP : P (nI m.2.1) z) : wX10_deedOf 148 gSH (nI (mkC m)) z P := by
  unfold wX10_deedOf
  rw [j_7, j_4, deedC h]
  exact hP
theorem c_cellOf {m : sM} (h : mB m) (hP : P (nI m.2.2.1) z) : wX10_cellOf 148 gSH (nI (mkC m)) z P := by
  unfold wX10_cellOf
  rw [j_15, cellC h]
  exact hP
theorem c_ageOf {m : sM} (h : mB m) (hP : P (nI m.2.2.2) z) : wX10_ageOf 148 gSH (nI (mkC m)) z P := by
  unfold wX10_ageOf
  rw [j_10, ageC h]
  exact hP
theorem m_whoOf {m : sM} (h : mB m) (hP : P (nI m.1) z) : wX12_whoOf 148 gSH (nI (mkM m)) z P := by
  unfold wX12_whoOf
  rw [j_7, whoM h]
  exact hP
theorem m_deedOf {m : sM} (h : mB m) (hP : P (nI m.2.1) z) : wX12_deedOf 148 gSH (nI (mkM m)) z P := by
  unfold wX12_deedOf
  rw [j_7, j_3, deedM h]
  exact hP
theorem m_cellOf {m : sM} (h : mB m) (hP : P (nI m.2.2.1) z) : wX12_cellOf 148 gSH (nI (mkM m)) z P := by
  unfold wX12_cellOf
  rw [j_15, j_6, cellM h]
  exact hP
theorem m_ageOf {m : sM} (h : mB m) (hP : P (nI m.2.2.2) z) : wX12_ageOf 148 gSH (nI (mkM m)) z P := by
  unfold wX12_ageOf
  rw [j_10, ageM h]
  exact hP
theorem c_open (h : CW z t w S W) (hg : g < sPA S) (hP : P (nI (opn W g).toNat) z) : wX10_isOpenToAll 148 gSH w (nI g) z P := by
  obtain ⟨hz, ht, hw, hok, hwk, hT, hS, hW⟩ := h
  have h6 := hok.1
  unfold opn at hP
  refine ⟨wO hw, c_isBroken hw hW (by omega) (ifb0 (fun hG => ?_) (fun hG => ?_))⟩
  · refine c_isDrawn hw hW (by omega) (ifb0 (fun hD => ?_) (fun hD => ?_))
    · rw [hG, hD] at hP
      exact hP
    · rw [hG, hD] at hP
      exact hP
  · rw [hG] at hP
    exact hP
theorem c_tell (h : CW z t w S W) (hg : g < sPA S) (hP : P (nI (tel S W g).toNat) z) : wX10_tellsWho 148 gSH w t (nI g) z P := by
  obtain ⟨hz, ht, hw, hok, hwk, hT, hS, hW⟩ := h
  have h6 := hok.1
  have h4 := hok.2.2.2.2.1 g hg
  unfold tel at hP
  refine ⟨wO hw, c_isBroken hw hW (by omega) (ifb0 (fun hG => ?_) (fun hG => ?_))⟩
  · unfold wX10_tellsWho_J18
    simp (disch := omega) only [Option.some.injEq, exists_eq_left', exists_eq_left, forall_eq, true_and, and_true, gr_si, gl_si, gr_sl, gi_sl, gr_sA, gl_sA, j_0, j_1, j_2, j_3, j_4, j_5, j_6, j_7, j_8, j_9, j_10, j_11, j_12, j_13, j_14, j_15, j_16, j_18, j_19, j_20, j_21, j_22, j_23, j_24, j_28, j_30, j_33, j_40, j_48, j_60, j_66, j_96, j_97, j_99, j_100, j_122, j_125, j_126, j_127, j_128, j_255, j_495, j_1000, j_1001, j_1023, j_1024, j_1100, j_1386, j_1452, j_9999, nN_1, nI_add, pk_mul, pk_sub, nI_clamp, vpI, nI_leI, nI_ltI, nI_eq, nN_eq, nN_eq', nN_lt, nN_nlt, nN_le, nN_nle, b_bit, n_bit, b_eq0, b_eq1, wO hw, wA1 hw, wA2 hw, wA3 hw, wL1 hw, wL2 hw, wL3 hw, wR5 hz hw, wR6 hz hw, wR7 hz hw, tO ht, tO1 ht, tA2 ht, tL2 ht, tA3 ht, tL3 ht, tA4 ht, tL4 ht, tA5 ht, tL5 ht, tA6 ht, tL6 ht, tA7 ht, tL7 ht, tA8 ht, tL8 ht, tA9 ht, tL9 ht, tR0 hz ht, tR1 hz ht, tR2 hz ht, tR3 hz ht, tR4 hz ht, tR5 hz ht, tR6 hz ht, tRl0 hz ht, tRl1 hz ht, hS.2.2.2.2.1 g hg]
    refine ⟨by omega, ?_⟩
    by_cases hk : sKD S g = 1
    · rw [if_pos hk]
      simpa [hG, hk] using hP
    · rw [if_neg hk]
      simpa [hG, hk] using hP
  · rw [hG] at hP
    exact hP
theorem m_isShown (h : MW z b S W) (hg : g < sPA S) (hP : P (nI (opn W g).toNat) z) : wX12_isShown 148 gSH 129 (nI b) (nI g) z P := by
  obtain ⟨hz, hok, hwk, hT, hS, hW, hb⟩ := h
  have h6 := hok.1
  unfold opn at hP
  refine ⟨mO, m_isWhole hz hW hok hb hg (ifb0 (fun hG => ?_) (fun hG => ?_))⟩
  · have hG2 : wG W g = true := by simpa using hG
    rw [hG2] at hP
    exact hP
  · have hG2 : wG W g = false := by simpa using hG
    unfold wX12_isShown_J23
    simp (disch := omega) only [Option.some.injEq, exists_eq_left', exists_eq_left, forall_eq, true_and, and_true, gr_si, gl_si, gr_sl, gi_sl, gr_sA, gl_sA, j_0, j_1, j_2, j_3, j_4, j_5, j_6, j_7, j_8, j_9, j_10, j_11, j_12, j_13, j_14, j_15, j_16, j_18, j_19, j_20, j_21, j_22, j_23, j_24, j_28, j_30, j_33, j_40, j_48, j_60, j_66, j_96, j_97, j_99, j_100, j_122, j_125, j_126, j_127, j_128, j_255, j_495, j_1000, j_1001, j_1023, j_1024, j_1100, j_1386, j_1452, j_9999, nN_1, nI_add, pk_mul, pk_sub, nI_clamp, vpI, nI_leI, nI_ltI, nI_eq, nN_eq, nN_eq', nN_lt, nN_nlt, nN_le, nN_nle, b_bit, n_bit, b_eq0, b_eq1, mO, mR10 hz, mA135, mL135, mR24 hz, mA145, mL145, hW.2.2.1 g hg]
    refine ⟨by omega, ?_⟩
    by_cases hD : wD W g = false
    · rw [if_pos hD]
      simpa [hG2, hD] using hP
    · rw [if_neg hD]
      simpa [hG2, hD] using hP
theorem m_shownOf (h : MW z b S W) (hg : g < sPA S) {m : sM} (hm : mB m) (hP : P (if tel S W g then nI m.1 else nN) z) : wX12_shownOf 148 gSH 129 (nI b) (nI g) (nI (mkM m)) z P := by
  obtain ⟨hz, hok, hwk, hT, hS, hW, hb⟩ := h
  have h6 := hok.1
  have h4 := hok.2.2.2.2.1 g hg
  unfold tel at hP
  refine ⟨mO, m_isWhole hz hW hok hb hg (ifb0 (fun hG => ?_) (fun hG => ?_))⟩
  · have hG2 : wG W g = true := by simpa using hG
    refine m_whoOf hm ?_
    simpa [hG2] using hP
  · have hG2 : wG W g = false := by simpa using hG
    refine m_paneOf (k := 0) hz (by omega) (by decide) ?_
    rw [Nat.add_zero, hS.2.2.2.2.1 g hg]
    simp (disch := omega) only [Option.some.injEq, exists_eq_left', exists_eq_left, forall_eq, true_and, and_true, gr_si, gl_si, gr_sl, gi_sl, gr_sA, gl_sA, j_0, j_1, j_2, j_3, j_4, j_5, j_6, j_7, j_8, j_9, j_10, j_11, j_12, j_13, j_14, j_15, j_16, j_18, j_19, j_20, j_21, j_22, j_23, j_24, j_28, j_30, j_33, j_40, j_48, j_60, j_66, j_96, j_97, j_99, j_100, j_122, j_125, j_126, j_127, j_128, j_255, j_495, j_1000, j_1001, j_1023, j_1024, j_1100, j_1386, j_1452, j_9999, nN_1, nI_add, pk_mul, pk_sub, nI_clamp, vpI, nI_leI, nI_ltI, nI_eq, nN_eq, nN_eq', nN_lt, nN_nlt, nN_le, nN_nle, b_bit, n_bit, b_eq0, b_eq1, mO, mR10 hz, mA135, mL135, mR24 hz, mA145, mL145]
    by_cases hk : sKD S g = 1
    · rw [if_pos hk]
      simpa [hG2, hk] using hP
    · rw [if_neg hk]
      refine m_whoOf hm ?_
      simpa [hG2, hk] using hP
end RC
