/-! ===== a pane's row of marks ===== -/
def rowC (z : gS) (w g : Nat) (l : List sM) : Prop := gi z (w + 2) g = nI l.length ∧ ∀ i, i < l.length → gi z (w + 3) (g * 6 + i) = nI (mkC (l.getD i m0))
def rowM (z : gS) (b g : Nat) (l : List sM) : Prop := gi z 145 (b + 18 + g) = nI l.length ∧ ∀ i, i < l.length → gi z 145 (b + 24 + 6 * g + i) = nI (mkM (l.getD i m0))
def aC (w g : Nat) : Nat → Nat → Prop := fun a k => (a = w + 2 ∧ k = g) ∨ (a = w + 3 ∧ g * 6 ≤ k ∧ k < g * 6 + 6)
def aM (b g : Nat) : Nat → Nat → Prop := fun a k => a = 145 ∧ (k = b + 18 + g ∨ (b + 24 + 6 * g ≤ k ∧ k < b + 24 + 6 * g + 6))
theorem gd_er {l : List sM} {i j : Nat} : (l.eraseIdx i).getD j m0 = if j < i then l.getD j m0 else l.getD (j + 1) m0 := by
  rw [List.getD_eq_getElem?_getD, List.getElem?_eraseIdx]
  split <;> rw [List.getD_eq_getElem?_getD]
theorem gd_ap {l : List sM} {m : sM} {j : Nat} (h : j < l.length) : (l ++ [m]).getD j m0 = l.getD j m0 := by
  rw [List.getD_eq_getElem?_getD, List.getElem?_append_left h, List.getD_eq_getElem?_getD]
theorem gd_al {l : List sM} {m : sM} {r : List sM} : (l ++ m :: r).getD l.length m0 = m := by
  rw [List.getD_eq_getElem?_getD, List.getElem?_append_right (Nat.le_refl _)]
  simp
theorem er_al {l : List sM} {m : sM} {r : List sM} : (l ++ m :: r).eraseIdx l.length = l ++ r := by
  rw [List.eraseIdx_append_of_length_le (Nat.le_refl _)]
  simp
theorem gd_se {l : List sM} {m : sM} {i j : Nat} (h : i < l.length) : (l.set i m).getD j m0 = if i = j then m else l.getD j m0 := by
  rw [List.getD_eq_getElem?_getD, List.getElem?_set]
  by_cases e : i = j
  · rw [if_pos e, if_pos e, if_pos h]
    rfl
  · rw [if_neg e, if_neg e, List.getD_eq_getElem?_getD]
theorem se_al {l : List sM} {m m' : sM} {r : List sM} : (l ++ m :: r).set l.length m' = l ++ m' :: r := by
  rw [List.set_append_right _ _ (Nat.le_refl _)]
  simp
section RC
variable {z : gS} {w t g b i : Nat} {S : sS} {W : sW} {P : Int32 → gS → Prop} {R : gS → Prop} {l : List sM}
theorem rowC.fr {z' : gS} (h : rowC z w g l) (hl : l.length ≤ 6) (hs : ∀ a k, aC w g a k → gi z' a k = gi z a k) : rowC z' w g l :=
  ⟨(hs _ _ (Or.inl ⟨rfl, rfl⟩)).trans h.1, fun i hi => (hs _ _ (Or.inr ⟨rfl, by omega, by omega⟩)).trans (h.2 i hi)⟩
theorem rowM.fr {z' : gS} (h : rowM z b g l) (hl : l.length ≤ 6) (hs : ∀ a k, aM b g a k → gi z' a k = gi z a k) : rowM z' b g l :=
  ⟨(hs _ _ ⟨rfl, Or.inl rfl⟩).trans h.1, fun i hi => (hs _ _ ⟨rfl, Or.inr ⟨by omega, by omega⟩⟩).trans (h.2 i hi)⟩
theorem r_markAt (hz : sR z) (hw : isW w) (hg : g < 6) (hr : rowC z w g l) (hl : l.length ≤ 6) (hi : i < l.length) (hP : P (nI (mkC (l.getD i m0))) z) : wX10_markAt 148 gSH w (nI g) (nI i) z P := by
  unfold wX10_markAt
  simp (disch := omega) only [Option.some.injEq, exists_eq_left', exists_eq_left, forall_eq, true_and, and_true, gr_si, gl_si, gr_sl, gi_sl, gr_sA, gl_sA, j_0, j_1, j_2, j_3, j_4, j_5, j_6, j_7, j_8, j_9, j_10, j_11, j_12, j_13, j_14, j_15, j_16, j_18, j_19, j_20, j_21, j_22, j_23, j_24, j_28, j_30, j_33, j_40, j_48, j_60, j_66, j_96, j_97, j_99, j_100, j_122, j_125, j_126, j_127, j_128, j_255, j_495, j_1000, j_1001, j_1023, j_1024, j_1100, j_1386, j_1452, j_9999, nN_1, nI_add, pk_mul, pk_sub, nI_clamp, vpI, nI_leI, nI_ltI, nI_eq, nN_eq, nN_eq', nN_lt, nN_nlt, nN_le, nN_nle, b_bit, n_bit, b_eq0, b_eq1, wO hw, wA1 hw, wA2 hw, wA3 hw, wL1 hw, wL2 hw, wL3 hw, wR5 hz hw, wR6 hz hw, wR7 hz hw, hr.2 i hi]
  exact ⟨by omega, hP⟩
theorem r_markOf (hz : sR z) (hb : b ≤ 1452) (hg : g < 6) (hr : rowM z b g l) (hl : l.length ≤ 6) (hi : i < l.length) (hP : P (nI (mkM (l.getD i m0))) z) : wX12_markOf 148 gSH 129 (nI b) (nI g) (nI i) z P := by
  unfold wX12_markOf
  simp (disch := omega) only [Option.some.injEq, exists_eq_left', exists_eq_left, forall_eq, true_and, and_true, gr_si, gl_si, gr_sl, gi_sl, gr_sA, gl_sA, j_0, j_1, j_2, j_3, j_4, j_5, j_6, j_7, j_8, j_9, j_10, j_11, j_12, j_13, j_14, j_15, j_16, j_18, j_19, j_20, j_21, j_22, j_23, j_24, j_28, j_30, j_33, j_40, j_48, j_60, j_66, j_96, j_97, j_99, j_100, j_122, j_125, j_126, j_127, j_128, j_255, j_495, j_1000, j_1001, j_1023, j_1024, j_1100, j_1386, j_1452, j_9999, nN_1, nI_add, pk_mul, pk_sub, nI_clamp, vpI, nI_leI, nI_ltI, nI_eq, nN_eq, nN_eq', nN_lt, nN_nlt, nN_le, nN_nle, b_bit, n_bit, b_eq0, b_eq1, mO, mR10 hz, mA135, mL135, mR24 hz, mA145, mL145, hr.2 i hi]
  exact ⟨by omega, hP⟩
theorem r_drop (hz : sR z) (hw : isW w) (hg : g < 6) (hr : rowC z w g l) (hl : l.length ≤ 6) (hi : i < l.length) (hP : ∀ z', Fr (aC w g) z z' → rowC z' w g (l.eraseIdx i) → R z') : wX10_dropMark 148 gSH w (nI g) (nI i) z R := by
  unfold wX10_dropMark
  simp (disch := omega) only [Option.some.injEq, exists_eq_left', exists_eq_left, forall_eq, true_and, and_true, gr_si, gl_si, gr_sl, gi_sl, gr_sA, gl_sA, j_0, j_1, j_2, j_3, j_4, j_5, j_6, j_7, j_8, j_9, j_10, j_11, j_12, j_13, j_14, j_15, j_16, j_18, j_19, j_20, j_21, j_22, j_23, j_24, j_28, j_30, j_33, j_40, j_48, j_60, j_66, j_96, j_97, j_99, j_100, j_122, j_125, j_126, j_127, j_128, j_255, j_495, j_1000, j_1001, j_1023, j_1024, j_1100, j_1386, j_1452, j_9999, nN_1, nI_add, pk_mul, pk_sub, nI_clamp, vpI, nI_leI, nI_ltI, nI_eq, nN_eq, nN_eq', nN_lt, nN_nlt, nN_le, nN_nle, b_bit, n_bit, b_eq0, b_eq1, wO hw, wA1 hw, wA2 hw, wA3 hw, wL1 hw, wL2 hw, wL3 hw, wR5 hz hw, wR6 hz hw, wR7 hz hw, hr.1]
  refine ⟨by omega, by omega, ?_⟩
  have hle : (l.eraseIdx i).length = l.length - 1 := List.length_eraseIdx_of_lt hi
  refine (lpf (fun m j => ∀ z1, Fr (aC w g) z z1 → gi z1 (w + 2) g = nI (l.length - 1) → (∀ k, k < l.length → gi z1 (w + 3) (g * 6 + k) = nI (mkC (if i ≤ k ∧ k < j then l.getD (k + 1) m0 else l.getD k m0))) → wX10_dropMark_L20 148 gSH R m w (nI g) (nI (g * 6)) (nI (g * 6 + j)) z1) i (l.length - 1) (by omega) (fun m z1 hf h1 h2 => ?_) (fun m j hj0 hj ih z1 hf h1 h2 => ?_)).imp (fun N q => q _ (Fr.rf.si (Or.inl ⟨rfl, rfl⟩)) (by rw [gi_si, if_pos ⟨rfl, rfl⟩]) (fun k hk => by
    rw [gi_si, if_neg (by omega), hr.2 k hk, if_neg (by omega)]))
  · unfold wX10_dropMark_L20 wX10_dropMark_B20
    have hz := hf.sR hz
    simp (disch := omega) only [Option.some.injEq, exists_eq_left', exists_eq_left, forall_eq, true_and, and_true, gr_si, gl_si, gr_sl, gi_sl, gr_sA, gl_sA, j_0, j_1, j_2, j_3, j_4, j_5, j_6, j_7, j_8, j_9, j_10, j_11, j_12, j_13, j_14, j_15, j_16, j_18, j_19, j_20, j_21, j_22, j_23, j_24, j_28, j_30, j_33, j_40, j_48, j_60, j_66, j_96, j_97, j_99, j_100, j_122, j_125, j_126, j_127, j_128, j_255, j_495, j_1000, j_1001, j_1023, j_1024, j_1100, j_1386, j_1452, j_9999, nN_1, nI_add, pk_mul, pk_sub, nI_clamp, vpI, nI_leI, nI_ltI, nI_eq, nN_eq, nN_eq', nN_lt, nN_nlt, nN_le, nN_nle, b_bit, n_bit, b_eq0, b_eq1, wO hw, wA1 hw, wA2 hw, wA3 hw, wL1 hw, wL2 hw, wL3 hw, wR5 hz hw, wR6 hz hw, wR7 hz hw, h1, Nat.le_refl, if_true]
    refine ⟨by omega, hP z1 hf ⟨by rw [h1, hle], fun k hk => ?_⟩⟩
    rw [hle] at hk
    rw [h2 k (by omega), gd_er]
    by_cases e : k < i
    · rw [if_neg (by omega), if_pos e]
    · rw [if_pos (by omega), if_neg e]
  · unfold wX10_dropMark_L20 wX10_dropMark_B20
    have hz := hf.sR hz
    have e1 := h2 (j + 1) (by omega)
    rw [if_neg (by omega)] at e1
    simp (disch := omega) only [Option.some.injEq, exists_eq_left', exists_eq_left, forall_eq, true_and, and_true, gr_si, gl_si, gr_sl, gi_sl, gr_sA, gl_sA, j_0, j_1, j_2, j_3, j_4, j_5, j_6, j_7, j_8, j_9, j_10, j_11, j_12, j_13, j_14, j_15, j_16, j_18, j_19, j_20, j_21, j_22, j_23, j_24, j_28, j_30, j_33, j_40, j_48, j_60, j_66, j_96, j_97, j_99, j_100, j_122, j_125, j_126, j_127, j_128, j_255, j_495, j_1000, j_1001, j_1023, j_1024, j_1100, j_1386, j_1452, j_9999, nN_1, nI_add, pk_mul, pk_sub, nI_clamp, vpI, nI_leI, nI_ltI, nI_eq, nN_eq, nN_eq', nN_lt, nN_nlt, nN_le, nN_nle, b_bit, n_bit, b_eq0, b_eq1, wO hw, wA1 hw, wA2 hw, wA3 hw, wL1 hw, wL2 hw, wL3 hw, wR5 hz hw, wR6 hz hw, wR7 hz hw, h1, if_neg (show ¬ g * 6 + (l.length - 1) ≤ g * 6 + j by omega)]
    refine ⟨by omega, by omega, by omega, ?_⟩
    rw [show g * 6 + j + 1 = g * 6 + (j + 1) by omega, e1]
    refine ih _ (hf.si (Or.inr ⟨rfl, by omega, by omega⟩)) (by rw [gi_si, if_neg (by omega), h1]) (fun k hk => ?_)
    rw [gi_si]
    by_cases e : k = j
    · subst e
      rw [if_pos ⟨rfl, rfl⟩, if_pos (by omega)]
    · rw [if_neg (by omega), h2 k hk]
      by_cases e2 : i ≤ k ∧ k < j
      · rw [if_pos e2, if_pos (by omega)]
      · rw [if_neg e2, if_neg (by omega)]
theorem r_forget (hz : sR z) (hb : b ≤ 1452) (hg : g < 6) (hr : rowM z b g l) (hl : l.length ≤ 6) (hi : i < l.length) (hP : ∀ z', Fr (aM b g) z z' → rowM z' b g (l.eraseIdx i) → R z') : wX12_forgets 148 gSH 129 (nI b) (nI g) (nI i) z R := by
  unfold wX12_forgets
  simp (disch := omega) only [Option.some.injEq, exists_eq_left', exists_eq_left, forall_eq, true_and, and_true, gr_si, gl_si, gr_sl, gi_sl, gr_sA, gl_sA, j_0, j_1, j_2, j_3, j_4, j_5, j_6, j_7, j_8, j_9, j_10, j_11, j_12, j_13, j_14, j_15, j_16, j_18, j_19, j_20, j_21, j_22, j_23, j_24, j_28, j_30, j_33, j_40, j_48, j_60, j_66, j_96, j_97, j_99, j_100, j_122, j_125, j_126, j_127, j_128, j_255, j_495, j_1000, j_1001, j_1023, j_1024, j_1100, j_1386, j_1452, j_9999, nN_1, nI_add, pk_mul, pk_sub, nI_clamp, vpI, nI_leI, nI_ltI, nI_eq, nN_eq, nN_eq', nN_lt, nN_nlt, nN_le, nN_nle, b_bit, n_bit, b_eq0, b_eq1, mO, mR10 hz, mA135, mL135, mR24 hz, mA145, mL145, hr.1]
  refine ⟨by omega, by omega, ?_⟩
  have hle : (l.eraseIdx i).length = l.length - 1 := List.length_eraseIdx_of_lt hi
  refine (lpf (fun m j => ∀ z1, Fr (aM b g) z z1 → gi z1 145 (b + 18 + g) = nI (l.length - 1) → (∀ k, k < l.length → gi z1 145 (b + 24 + 6 * g + k) = nI (mkM (if i ≤ k ∧ k < j then l.getD (k + 1) m0 else l.getD k m0))) → wX12_forgets_L18 148 gSH R m 129 (nI b) (nI g) (nI j) z1) i (l.length - 1) (by omega) (fun m z1 hf h1 h2 => ?_) (fun m j hj0 hj ih z1 hf h1 h2 => ?_)).imp (fun N q => q _ (Fr.rf.si ⟨rfl, Or.inl rfl⟩) (by rw [gi_si, if_pos ⟨rfl, rfl⟩]) (fun k hk => by
    rw [gi_si, if_neg (by omega), hr.2 k hk, if_neg (by omega)]))
  · unfold wX12_forgets_L18 wX12_forgets_B18
    have hz := hf.sR hz
    simp (disch := omega) only [Option.some.injEq, exists_eq_left', exists_eq_left, forall_eq, true_and, and_true, gr_si, gl_si, gr_sl, gi_sl, gr_sA, gl_sA, j_0, j_1, j_2, j_3, j_4, j_5, j_6, j_7, j_8, j_9, j_10, j_11, j_12, j_13, j_14, j_15, j_16, j_18, j_19, j_20, j_21, j_22, j_23, j_24, j_28, j_30, j_33, j_40, j_48, j_60, j_66, j_96, j_97, j_99, j_100, j_122, j_125, j_126, j_127, j_128, j_255, j_495, j_1000, j_1001, j_1023, j_1024, j_1100, j_1386, j_1452, j_9999, nN_1, nI_add, pk_mul, pk_sub, nI_clamp, vpI, nI_leI, nI_ltI, nI_eq, nN_eq, nN_eq', nN_lt, nN_nlt, nN_le, nN_nle, b_bit, n_bit, b_eq0, b_eq1, mO, mR10 hz, mA135, mL135, mR24 hz, mA145, mL145, h1, Nat.le_refl, if_true]
    refine ⟨by omega, hP z1 hf ⟨by rw [h1, hle], fun k hk => ?_⟩⟩
    rw [hle] at hk
    rw [h2 k (by omega), gd_er]
    by_cases e : k < i
    · rw [if_neg (by omega), if_pos e]
    · rw [if_pos (by omega), if_neg e]
  · unfold wX12_forgets_L18 wX12_forgets_B18 wX12_markOf
    have hz := hf.sR hz
    have e1 := h2 (j + 1) (by omega)
    rw [if_neg (by omega)] at e1
    simp (disch := omega) only [Option.some.injEq, exists_eq_left', exists_eq_left, forall_eq, true_and, and_true, gr_si, gl_si, gr_sl, gi_sl, gr_sA, gl_sA, j_0, j_1, j_2, j_3, j_4, j_5, j_6, j_7, j_8, j_9, j_10, j_11, j_12, j_13, j_14, j_15, j_16, j_18, j_19, j_20, j_21, j_22, j_23, j_24, j_28, j_30, j_33, j_40, j_48, j_60, j_66, j_96, j_97, j_99, j_100, j_122, j_125, j_126, j_127, j_128, j_255, j_495, j_1000, j_1001, j_1023, j_1024, j_1100, j_1386, j_1452, j_9999, nN_1, nI_add, pk_mul, pk_sub, nI_clamp, vpI, nI_leI, nI_ltI, nI_eq, nN_eq, nN_eq', nN_lt, nN_nlt, nN_le, nN_nle, b_bit, n_bit, b_eq0, b_eq1, mO, mR10 hz, mA135, mL135, mR24 hz, mA145, mL145, h1, if_neg (show ¬ l.length - 1 ≤ j by omega)]
    refine ⟨by omega, by omega, by omega, ?_⟩
    rw [e1]
    refine ih _ (hf.si ⟨rfl, Or.inr ⟨by omega, by omega⟩⟩) (by rw [gi_si, if_neg (by omega), h1]) (fun k hk => ?_)
    rw [gi_si]
    by_cases e : k = j
    · subst e
      rw [if_pos ⟨rfl, rfl⟩, if_pos (by omega)]
    · rw [if_neg (by omega), h2 k hk]
      by_cases e2 : i ≤ k ∧ k < j
      · rw [if_pos e2, if_pos (by omega)]
      · rw [if_neg e2, if_neg (by omega)]
/-- one mark more, the oldest goes where all places are taken -/
def adM (kp : Nat) (l : List sM) (m : sM) : List sM := (if l.length < kp then l else l.eraseIdx 0) ++ [m]
theorem adM_len {kp : Nat} {m : sM} (hk : 1 ≤ kp) (hl : l.length ≤ kp) : (adM kp l m).length ≤ kp := by
  unfold adM
  split
  · simp; omega
  · rw [List.length_append, List.length_eraseIdx_of_lt (by omega)]
    simp
    omega
theorem r_add0 (hz : sR z) (hw : isW w) (hg : g < 6) (hr : rowC z w g l) (hl : l.length < 6) {m : sM} (hP : ∀ z', Fr (aC w g) z z' → rowC z' w g (l ++ [m]) → R z') : wX10_addMark_J16 148 gSH R w (nI g) (nI (mkC m)) z := by
  unfold wX10_addMark_J16
  simp (disch := omega) only [Option.some.injEq, exists_eq_left', exists_eq_left, forall_eq, true_and, and_true, gr_si, gl_si, gr_sl, gi_sl, gr_sA, gl_sA, j_0, j_1, j_2, j_3, j_4, j_5, j_6, j_7, j_8, j_9, j_10, j_11, j_12, j_13, j_14, j_15, j_16, j_18, j_19, j_20, j_21, j_22, j_23, j_24, j_28, j_30, j_33, j_40, j_48, j_60, j_66, j_96, j_97, j_99, j_100, j_122, j_125, j_126, j_127, j_128, j_255, j_495, j_1000, j_1001, j_1023, j_1024, j_1100, j_1386, j_1452, j_9999, nN_1, nI_add, pk_mul, pk_sub, nI_clamp, vpI, nI_leI, nI_ltI, nI_eq, nN_eq, nN_eq', nN_lt, nN_nlt, nN_le, nN_nle, b_bit, n_bit, b_eq0, b_eq1, wO hw, wA1 hw, wA2 hw, wA3 hw, wL1 hw, wL2 hw, wL3 hw, wR5 hz hw, wR6 hz hw, wR7 hz hw, hr.1]
  refine ⟨by omega, by omega, ?_⟩
  rw [gi_si, if_neg (by omega), hr.1, nI_add]
  refine ⟨hg, hg, ?_⟩
  refine hP _ ((Fr.rf.si (A := aC w g) (a := w + 3) (k := g * 6 + l.length) (Or.inr ⟨rfl, by omega, by omega⟩)).si (Or.inl ⟨rfl, rfl⟩)) ⟨?_, fun i hi => ?_⟩
  · rw [gi_si, if_pos ⟨rfl, rfl⟩, List.length_append]
    rfl
  · rw [List.length_append] at hi
    simp only [List.length_cons, List.length_nil] at hi
    rw [gi_si, if_neg (by omega), gi_si]
    by_cases e : i = l.length
    · subst e
      rw [if_pos ⟨rfl, rfl⟩, gd_al]
    · rw [if_neg (by omega), gd_ap (by omega), hr.2 i (by omega)]
theorem r_add (hz : sR z) (hw : isW w) (hg : g < 6) (hr : rowC z w g l) {kp : Nat} (hk : 1 ≤ kp) (hk6 : kp ≤ 6) (hl : l.length ≤ kp) {m : sM} (hP : ∀ z', Fr (aC w g) z z' → rowC z' w g (adM kp l m) → R z') : wX10_addMark 148 gSH w (nI g) (nI kp) (nI (mkC m)) z R := by
  unfold wX10_addMark
  unfold adM at hP
  simp (disch := omega) only [Option.some.injEq, exists_eq_left', exists_eq_left, forall_eq, true_and, and_true, gr_si, gl_si, gr_sl, gi_sl, gr_sA, gl_sA, j_0, j_1, j_2, j_3, j_4, j_5, j_6, j_7, j_8, j_9, j_10, j_11, j_12, j_13, j_14, j_15, j_16, j_18, j_19, j_20, j_21, j_22, j_23, j_24, j_28, j_30, j_33, j_40, j_48, j_60, j_66, j_96, j_97, j_99, j_100, j_122, j_125, j_126, j_127, j_128, j_255, j_495, j_1000, j_1001, j_1023, j_1024, j_1100, j_1386, j_1452, j_9999, nN_1, nI_add, pk_mul, pk_sub, nI_clamp, vpI, nI_leI, nI_ltI, nI_eq, nN_eq, nN_eq', nN_lt, nN_nlt, nN_le, nN_nle, b_bit, n_bit, b_eq0, b_eq1, wO hw, wA1 hw, wA2 hw, wA3 hw, wL1 hw, wL2 hw, wL3 hw, wR5 hz hw, wR6 hz hw, wR7 hz hw, hr.1]
  refine ⟨by omega, ?_⟩
  by_cases hx : l.length < kp
  · rw [if_pos hx]
    rw [if_pos hx] at hP
    exact r_add0 hz hw hg hr (by omega) hP
  · rw [if_neg hx]
    rw [if_neg hx] at hP
    refine r_drop (i := 0) hz hw hg hr (by omega) (by omega) (fun z1 hf h1 => ?_)
    have hle : (l.eraseIdx 0).length = l.length - 1 := List.length_eraseIdx_of_lt (by omega)
    exact r_add0 (hf.sR hz) hw hg h1 (by omega) (fun z2 hf2 h2 => hP z2 (hf.tr hf2 (fun _ _ q => q) (fun _ _ q => q)) h2)
end RC
