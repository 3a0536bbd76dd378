/-! ===== deeds that are shown ===== -/
def dsG (W : sW) (q : Nat → sM → Bool) (n g i d : Nat) : Bool := xB i (fun j => decide (ln W g - n ≤ j) && (q g (mk W g j) && decide (d = (mk W g j).2.1)))
def dsP (W : sW) (q : Nat → sM → Bool) (n k d : Nat) : Bool := xB k (fun g => dsG W q n g (ln W g) d)
def qA (W : sW) (g : Nat) (_ : sM) : Bool := opn W g
def qP (S : sS) (W : sW) (p g : Nat) (m : sM) : Bool := opn W g && (tel S W g && decide (m.1 = p))
def hsm (S : sS) (f : Nat → Bool) : Nat → Nat
  | 0 => 0
  | k + 1 => hsm S f k + (f k).toNat * sHA S k
def hrm (S : sS) (f : Nat → Bool) : Nat := hsm S f (sDE S)
theorem hsm_le {S : sS} (hok : sOK S) (f : Nat → Bool) : ∀ k, k ≤ sDE S → hsm S f k ≤ 99 * k
  | 0 => fun _ => Nat.le_refl 0
  | k + 1 => fun hk => by
    have h := hsm_le hok f k (by omega)
    have h2 := hok.2.2.2.2.2.2.2.1 k (by omega)
    simp only [hsm]
    cases f k <;> simp <;> omega
theorem hrm_le {S : sS} (hok : sOK S) (f : Nat → Bool) : hrm S f ≤ 495 := by
  have h := hsm_le hok f (sDE S) (Nat.le_refl _)
  have h2 := hok.2.2.1
  unfold hrm
  omega
theorem xB_congr {f g : Nat → Bool} {n : Nat} (h : ∀ j, j < n → f j = g j) : xB n f = xB n g := by
  induction n with
  | zero => rfl
  | succ n ih =>
    simp only [xB]
    rw [ih (fun j hj => h j (by omega)), h n (by omega)]
theorem xB_and (b : Bool) (f : Nat → Bool) : ∀ n, xB n (fun j => b && f j) = (b && xB n f)
  | 0 => by simp [xB]
  | n + 1 => by
    simp only [xB, xB_and b f n]
    cases b <;> simp
theorem xB_F (n : Nat) : xB n (fun _ => false) = false := by
  induction n with
  | zero => rfl
  | succ n ih => simp [xB, ih]
theorem dsG_congr {W : sW} {q q' : Nat → sM → Bool} {n g i : Nat} (h : ∀ j, j < i → q g (mk W g j) = q' g (mk W g j)) : dsG W q n g i = dsG W q' n g i := by
  funext d
  exact xB_congr (fun j hj => by rw [h j hj])
theorem dsP_congr {W : sW} {q q' : Nat → sM → Bool} {n k : Nat} (h : ∀ g, g < k → ∀ j, j < ln W g → q g (mk W g j) = q' g (mk W g j)) : dsP W q n k = dsP W q' n k := by
  funext d
  exact xB_congr (fun g hg => by rw [dsG_congr (h g hg)])
theorem dsG_bit {W : sW} {q : Nat → sM → Bool} {b : Bool} {n g i d : Nat} : dsG W (fun g m => b && q g m) n g i d = (b && dsG W q n g i d) := by
  unfold dsG
  rw [← xB_and]
  congr 1
  funext j
  cases b <;> simp
theorem dsG_no {W : sW} {q : Nat → sM → Bool} {n g i : Nat} (h : ∀ j, j < i → q g (mk W g j) = false) : dsG W q n g i = fun _ => false := by
  funext d
  unfold dsG
  rw [xB_congr (g := fun _ => false) (fun j hj => by rw [h j hj]; simp), xB_F]
theorem dsG_lo {W : sW} {q : Nat → sM → Bool} {n g : Nat} : ∀ i, i ≤ ln W g - n → dsG W q n g i = fun _ => false
  | 0 => fun _ => rfl
  | i + 1 => fun hi => by
    have h1 := dsG_lo (W := W) (q := q) (n := n) (g := g) i (by omega)
    funext d
    have h2 := congrFun h1 d
    unfold dsG at h2 ⊢
    simp only [xB, h2]
    rw [show decide (ln W g - n ≤ i) = false by simp; omega]
    rfl
theorem nI_orb {n : Nat} (f g : Nat → Bool) : nI (bs n f) ||| nI (bs n g) = nI (bs n (fun d => f d || g d)) := by rw [nI_or, bs_or]
section RC
variable {z : gS} {w t g b i : Nat} {S : sS} {W : sW} {P : Int32 → gS → Prop}
theorem c_harmOf (h : CW z t w S W) (f : Nat → Bool) (hP : P (nI (hrm S f)) z) : wX3_harmOf 148 gSH t (nI (bs 5 f)) z P := by
  obtain ⟨hz, ht, hw, hok, hwk, hT, hS, hW⟩ := h
  have h5 := hok.2.2.1
  refine lp (fun m k => wX3_harmOf_L4 148 gSH P m t (nI (bs 5 f)) (nI (hsm S f k)) (nI k) z) (sDE S) (fun m => ?_) (fun m k hk ih => ?_)
  · unfold wX3_harmOf_L4 wX3_harmOf_B4
    simp (disch := omega) only [Option.some.injEq, exists_eq_left', exists_eq_left, forall_eq, true_and, and_true, gr_si, gl_si, gr_sl, gi_sl, gr_sA, gl_sA, j_0, j_1, j_2, j_3, j_4, j_5, j_6, j_7, j_8, j_9, j_10, j_11, j_12, j_13, j_14, j_15, j_16, j_18, j_19, j_20, j_21, j_22, j_23, j_24, j_28, j_30, j_33, j_40, j_48, j_60, j_66, j_96, j_97, j_99, j_100, j_122, j_125, j_126, j_127, j_128, j_255, j_495, j_1000, j_1001, j_1023, j_1024, j_1100, j_1386, j_1452, j_9999, nN_1, nI_add, pk_mul, pk_sub, nI_clamp, vpI, nI_leI, nI_ltI, nI_eq, nN_eq, nN_eq', nN_lt, nN_nlt, nN_le, nN_nle, b_bit, n_bit, b_eq0, b_eq1, wO hw, wA1 hw, wA2 hw, wA3 hw, wL1 hw, wL2 hw, wL3 hw, wR5 hz hw, wR6 hz hw, wR7 hz hw, tO ht, tO1 ht, tA2 ht, tL2 ht, tA3 ht, tL3 ht, tA4 ht, tL4 ht, tA5 ht, tL5 ht, tA6 ht, tL6 ht, tA7 ht, tL7 ht, tA8 ht, tL8 ht, tA9 ht, tL9 ht, tR0 hz ht, tR1 hz ht, tR2 hz ht, tR3 hz ht, tR4 hz ht, tR5 hz ht, tR6 hz ht, tRl0 hz ht, tRl1 hz ht, hS.2.2.1, Nat.le_refl, if_true]
    exact hP
  · unfold wX3_harmOf_L4 wX3_harmOf_B4
    simp (disch := omega) only [Option.some.injEq, exists_eq_left', exists_eq_left, forall_eq, true_and, and_true, gr_si, gl_si, gr_sl, gi_sl, gr_sA, gl_sA, j_0, j_1, j_2, j_3, j_4, j_5, j_6, j_7, j_8, j_9, j_10, j_11, j_12, j_13, j_14, j_15, j_16, j_18, j_19, j_20, j_21, j_22, j_23, j_24, j_28, j_30, j_33, j_40, j_48, j_60, j_66, j_96, j_97, j_99, j_100, j_122, j_125, j_126, j_127, j_128, j_255, j_495, j_1000, j_1001, j_1023, j_1024, j_1100, j_1386, j_1452, j_9999, nN_1, nI_add, pk_mul, pk_sub, nI_clamp, vpI, nI_leI, nI_ltI, nI_eq, nN_eq, nN_eq', nN_lt, nN_nlt, nN_le, nN_nle, b_bit, n_bit, b_eq0, b_eq1, wO hw, wA1 hw, wA2 hw, wA3 hw, wL1 hw, wL2 hw, wL3 hw, wR5 hz hw, wR6 hz hw, wR7 hz hw, tO ht, tO1 ht, tA2 ht, tL2 ht, tA3 ht, tL3 ht, tA4 ht, tL4 ht, tA5 ht, tL5 ht, tA6 ht, tL6 ht, tA7 ht, tL7 ht, tA8 ht, tL8 ht, tA9 ht, tL9 ht, tR0 hz ht, tR1 hz ht, tR2 hz ht, tR3 hz ht, tR4 hz ht, tR5 hz ht, tR6 hz ht, tRl0 hz ht, tRl1 hz ht, hS.2.2.1, if_neg (show ¬ sDE S ≤ k by omega), hS.2.2.2.2.2.2.2.2.1 k hk]
    exact ⟨by omega, ih⟩
theorem m_harmOf (h : MW z b S W) (f : Nat → Bool) (hP : P (nI (hrm S f)) z) : wX12_harmOf 148 gSH 129 (nI (bs 5 f)) z P := by
  obtain ⟨hz, hok, hwk, hT, hS, hW, hb⟩ := h
  have h5 := hok.2.2.1
  refine lp (fun m k => wX12_harmOf_L4 148 gSH P m 129 (nI (bs 5 f)) (nI (hsm S f k)) (nI k) z) (sDE S) (fun m => ?_) (fun m k hk ih => ?_)
  · unfold wX12_harmOf_L4 wX12_harmOf_B4
    refine ⟨mO, m_deeds hz hS ?_⟩
    rw [if_pos (nI_le (by omega) (by omega))]
    exact hP
  · unfold wX12_harmOf_L4 wX12_harmOf_B4
    refine ⟨mO, m_deeds hz hS ?_⟩
    rw [if_neg (nI_ge hk (by omega))]
    unfold wX12_harmOf_J35
    simp (disch := omega) only [Option.some.injEq, exists_eq_left', exists_eq_left, forall_eq, true_and, and_true, gr_si, gl_si, gr_sl, gi_sl, gr_sA, gl_sA, j_0, j_1, j_2, j_3, j_4, j_5, j_6, j_7, j_8, j_9, j_10, j_11, j_12, j_13, j_14, j_15, j_16, j_18, j_19, j_20, j_21, j_22, j_23, j_24, j_28, j_30, j_33, j_40, j_48, j_60, j_66, j_96, j_97, j_99, j_100, j_122, j_125, j_126, j_127, j_128, j_255, j_495, j_1000, j_1001, j_1023, j_1024, j_1100, j_1386, j_1452, j_9999, nN_1, nI_add, pk_mul, pk_sub, nI_clamp, vpI, nI_leI, nI_ltI, nI_eq, nN_eq, nN_eq', nN_lt, nN_nlt, nN_le, nN_nle, b_bit, n_bit, b_eq0, b_eq1, mO, mR10 hz, mA135, mL135, mR24 hz, mA145, mL145, hS.2.2.2.2.2.2.2.2.1 k hk]
    simp only [hsm] at ih
    by_cases hf : f k = true
    · rw [if_pos hf]
      rw [hf] at ih
      simp only [Bool.toNat_true, Nat.one_mul] at ih
      exact ⟨by omega, ih⟩
    · rw [if_neg hf]
      have hf2 : f k = false := by simpa using hf
      rw [hf2] at ih
      simp only [Bool.toNat_false, Nat.zero_mul] at ih
      exact ih
theorem c_harmShown (h : CW z t w S W) {n : Nat} (hn : n ≤ 6) (hP : P (nI (hrm S (dsP W (qA W) n (sPA S)))) z) : wX3_harmShown 148 gSH t w (nI n) z P := by
  have hh := h
  obtain ⟨hz, ht, hw, hok, hwk, hT, hS, hW⟩ := h
  have h6 := hok.1
  refine lp (fun m k => wX3_harmShown_L5 148 gSH P m t w (nI n) (nI (bs 5 (dsP W (qA W) n k))) (nI k) z) (sPA S) (fun m => ?_) (fun m k hk ih => ?_)
  · unfold wX3_harmShown_L5 wX3_harmShown_B5
    simp (disch := omega) only [Option.some.injEq, exists_eq_left', exists_eq_left, forall_eq, true_and, and_true, gr_si, gl_si, gr_sl, gi_sl, gr_sA, gl_sA, j_0, j_1, j_2, j_3, j_4, j_5, j_6, j_7, j_8, j_9, j_10, j_11, j_12, j_13, j_14, j_15, j_16, j_18, j_19, j_20, j_21, j_22, j_23, j_24, j_28, j_30, j_33, j_40, j_48, j_60, j_66, j_96, j_97, j_99, j_100, j_122, j_125, j_126, j_127, j_128, j_255, j_495, j_1000, j_1001, j_1023, j_1024, j_1100, j_1386, j_1452, j_9999, nN_1, nI_add, pk_mul, pk_sub, nI_clamp, vpI, nI_leI, nI_ltI, nI_eq, nN_eq, nN_eq', nN_lt, nN_nlt, nN_le, nN_nle, b_bit, n_bit, b_eq0, b_eq1, wO hw, wA1 hw, wA2 hw, wA3 hw, wL1 hw, wL2 hw, wL3 hw, wR5 hz hw, wR6 hz hw, wR7 hz hw, tO ht, tO1 ht, tA2 ht, tL2 ht, tA3 ht, tL3 ht, tA4 ht, tL4 ht, tA5 ht, tL5 ht, tA6 ht, tL6 ht, tA7 ht, tL7 ht, tA8 ht, tL8 ht, tA9 ht, tL9 ht, tR0 hz ht, tR1 hz ht, tR2 hz ht, tR3 hz ht, tR4 hz ht, tR5 hz ht, tR6 hz ht, tRl0 hz ht, tRl1 hz ht, hS.1, Nat.le_refl, if_true]
    exact c_harmOf hh _ hP
  · unfold wX3_harmShown_L5 wX3_harmShown_B5
    have hl := ln_le hok hwk hk
    have hJ : ∀ l : Nat, (l = ln W k ∧ opn W k = true ∨ l = 0 ∧ opn W k = false) → wX3_harmShown_J34 148 gSH (wX3_harmShown_L5 148 gSH P m) P t w (nI n) (nI (bs 5 (dsP W (qA W) n k))) (nI k) (nI l) z := by
      intro l hll
      unfold wX3_harmShown_J34
      intro v hv
      have hv2 : v = nI (l - n) := by
        rw [hv]
        apply eq_toInt
        have e := sub_toInt (a := l) (b := n) (by omega) (by omega)
        rw [nI_toInt (n := l - n) (by omega)]
        by_cases hc : n < l
        · rw [if_pos (by rw [Int32.lt_iff_toInt_lt, e]; show (0 : Int) < _; omega), e]
          omega
        · rw [if_neg (by rw [Int32.lt_iff_toInt_lt, e]; show ¬ (0 : Int) < _; omega)]
          show (0 : Int) = _
          omega
      subst hv2
      refine (lpf (fun m2 i => wX3_harmShown_L46 148 gSH (wX3_harmShown_L5 148 gSH P m) P m2 t w (nI n) (nI (bs 5 (fun d => dsP W (qA W) n k d || dsG W (qA W) n k i d))) (nI k) (nI l) (nI i) z) (l - n) l (by omega) (fun m2 => ?_) (fun m2 i hi0 hi ih2 => ?_)).imp (fun N q => ?_)
      · unfold wX3_harmShown_L46 wX3_harmShown_B46
        simp (disch := omega) only [Option.some.injEq, exists_eq_left', exists_eq_left, forall_eq, true_and, and_true, gr_si, gl_si, gr_sl, gi_sl, gr_sA, gl_sA, j_0, j_1, j_2, j_3, j_4, j_5, j_6, j_7, j_8, j_9, j_10, j_11, j_12, j_13, j_14, j_15, j_16, j_18, j_19, j_20, j_21, j_22, j_23, j_24, j_28, j_30, j_33, j_40, j_48, j_60, j_66, j_96, j_97, j_99, j_100, j_122, j_125, j_126, j_127, j_128, j_255, j_495, j_1000, j_1001, j_1023, j_1024, j_1100, j_1386, j_1452, j_9999, nN_1, nI_add, pk_mul, pk_sub, nI_clamp, vpI, nI_leI, nI_ltI, nI_eq, nN_eq, nN_eq', nN_lt, nN_nlt, nN_le, nN_nle, b_bit, n_bit, b_eq0, b_eq1, wO hw, wA1 hw, wA2 hw, wA3 hw, wL1 hw, wL2 hw, wL3 hw, wR5 hz hw, wR6 hz hw, wR7 hz hw, tO ht, tO1 ht, tA2 ht, tL2 ht, tA3 ht, tL3 ht, tA4 ht, tL4 ht, tA5 ht, tL5 ht, tA6 ht, tL6 ht, tA7 ht, tL7 ht, tA8 ht, tL8 ht, tA9 ht, tL9 ht, tR0 hz ht, tR1 hz ht, tR2 hz ht, tR3 hz ht, tR4 hz ht, tR5 hz ht, tR6 hz ht, tRl0 hz ht, tRl1 hz ht, Nat.le_refl, if_true]
        have e : (fun d => dsP W (qA W) n k d || dsG W (qA W) n k l d) = dsP W (qA W) n (k + 1) := by
          funext d
          simp only [dsP, xB]
          congr 1
          rcases hll with ⟨rfl, _⟩ | ⟨rfl, ho⟩
          · rfl
          · rw [dsG_no (i := ln W k) (fun j _ => ho)]
            rfl
        rw [e]
        exact ih
      · unfold wX3_harmShown_L46 wX3_harmShown_B46
        rcases hll with ⟨rfl, ho⟩ | ⟨rfl, ho⟩
        · simp (disch := omega) only [Option.some.injEq, exists_eq_left', exists_eq_left, forall_eq, true_and, and_true, gr_si, gl_si, gr_sl, gi_sl, gr_sA, gl_sA, j_0, j_1, j_2, j_3, j_4, j_5, j_6, j_7, j_8, j_9, j_10, j_11, j_12, j_13, j_14, j_15, j_16, j_18, j_19, j_20, j_21, j_22, j_23, j_24, j_28, j_30, j_33, j_40, j_48, j_60, j_66, j_96, j_97, j_99, j_100, j_122, j_125, j_126, j_127, j_128, j_255, j_495, j_1000, j_1001, j_1023, j_1024, j_1100, j_1386, j_1452, j_9999, nN_1, nI_add, pk_mul, pk_sub, nI_clamp, vpI, nI_leI, nI_ltI, nI_eq, nN_eq, nN_eq', nN_lt, nN_nlt, nN_le, nN_nle, b_bit, n_bit, b_eq0, b_eq1, wO hw, wA1 hw, wA2 hw, wA3 hw, wL1 hw, wL2 hw, wL3 hw, wR5 hz hw, wR6 hz hw, wR7 hz hw, tO ht, tO1 ht, tA2 ht, tL2 ht, tA3 ht, tL3 ht, tA4 ht, tL4 ht, tA5 ht, tL5 ht, tA6 ht, tL6 ht, tA7 ht, tL7 ht, tA8 ht, tL8 ht, tA9 ht, tL9 ht, tR0 hz ht, tR1 hz ht, tR2 hz ht, tR3 hz ht, tR4 hz ht, tR5 hz ht, tR6 hz ht, tRl0 hz ht, tRl1 hz ht, if_neg (show ¬ ln W k ≤ i by omega)]
          obtain ⟨hm, _, _⟩ := mk_ok hok hwk hT hk hi
          refine c_markAt hh hk hi (c_deedOf hm ?_)
          rw [bs_setY (by decide) hm.2.1]
          have e : (fun d => dsP W (qA W) n k d || dsG W (qA W) n k (i + 1) d) = (fun d => (dsP W (qA W) n k d || dsG W (qA W) n k i d) || decide (d = (mk W k i).2.1)) := by
            funext d
            have : dsG W (qA W) n k (i + 1) d = (dsG W (qA W) n k i d || decide (d = (mk W k i).2.1)) := by
              simp only [dsG, xB, qA, ho, hi0]
              simp
            rw [this, Bool.or_assoc]
          rw [e] at ih2
          exact ih2
        · omega
      · have e0 : (fun d => dsP W (qA W) n k d || dsG W (qA W) n k (l - n) d) = dsP W (qA W) n k := by
          rw [dsG_lo (l - n) (by omega)]
          funext d
          simp
        rw [← e0]
        exact q
    have e : gi z (w + 2) k = nI (ln W k) := hh.he hk
    simp (disch := omega) only [Option.some.injEq, exists_eq_left', exists_eq_left, forall_eq, true_and, and_true, gr_si, gl_si, gr_sl, gi_sl, gr_sA, gl_sA, j_0, j_1, j_2, j_3, j_4, j_5, j_6, j_7, j_8, j_9, j_10, j_11, j_12, j_13, j_14, j_15, j_16, j_18, j_19, j_20, j_21, j_22, j_23, j_24, j_28, j_30, j_33, j_40, j_48, j_60, j_66, j_96, j_97, j_99, j_100, j_122, j_125, j_126, j_127, j_128, j_255, j_495, j_1000, j_1001, j_1023, j_1024, j_1100, j_1386, j_1452, j_9999, nN_1, nI_add, pk_mul, pk_sub, nI_clamp, vpI, nI_leI, nI_ltI, nI_eq, nN_eq, nN_eq', nN_lt, nN_nlt, nN_le, nN_nle, b_bit, n_bit, b_eq0, b_eq1, wO hw, wA1 hw, wA2 hw, wA3 hw, wL1 hw, wL2 hw, wL3 hw, wR5 hz hw, wR6 hz hw, wR7 hz hw, tO ht, tO1 ht, tA2 ht, tL2 ht, tA3 ht, tL3 ht, tA4 ht, tL4 ht, tA5 ht, tL5 ht, tA6 ht, tL6 ht, tA7 ht, tL7 ht, tA8 ht, tL8 ht, tA9 ht, tL9 ht, tR0 hz ht, tR1 hz ht, tR2 hz ht, tR3 hz ht, tR4 hz ht, tR5 hz ht, tR6 hz ht, tRl0 hz ht, tRl1 hz ht, hS.1, if_neg (show ¬ sPA S ≤ k by omega)]
    refine c_open hh hk ?_
    simp (disch := omega) only [Option.some.injEq, exists_eq_left', exists_eq_left, forall_eq, true_and, and_true, gr_si, gl_si, gr_sl, gi_sl, gr_sA, gl_sA, j_0, j_1, j_2, j_3, j_4, j_5, j_6, j_7, j_8, j_9, j_10, j_11, j_12, j_13, j_14, j_15, j_16, j_18, j_19, j_20, j_21, j_22, j_23, j_24, j_28, j_30, j_33, j_40, j_48, j_60, j_66, j_96, j_97, j_99, j_100, j_122, j_125, j_126, j_127, j_128, j_255, j_495, j_1000, j_1001, j_1023, j_1024, j_1100, j_1386, j_1452, j_9999, nN_1, nI_add, pk_mul, pk_sub, nI_clamp, vpI, nI_leI, nI_ltI, nI_eq, nN_eq, nN_eq', nN_lt, nN_nlt, nN_le, nN_nle, b_bit, n_bit, b_eq0, b_eq1, wO hw, wA1 hw, wA2 hw, wA3 hw, wL1 hw, wL2 hw, wL3 hw, wR5 hz hw, wR6 hz hw, wR7 hz hw, tO ht, tO1 ht, tA2 ht, tL2 ht, tA3 ht, tL3 ht, tA4 ht, tL4 ht, tA5 ht, tL5 ht, tA6 ht, tL6 ht, tA7 ht, tL7 ht, tA8 ht, tL8 ht, tA9 ht, tL9 ht, tR0 hz ht, tR1 hz ht, tR2 hz ht, tR3 hz ht, tR4 hz ht, tR5 hz ht, tR6 hz ht, tRl0 hz ht, tRl1 hz ht, e]
    by_cases ho : opn W k = false
    · rw [if_pos ho]
      exact hJ 0 (Or.inr ⟨rfl, ho⟩)
    · rw [if_neg ho]
      exact ⟨by omega, hJ (ln W k) (Or.inl ⟨rfl, by simpa using ho⟩)⟩
def qO (S : sS) (W : sW) : Option Nat → Nat → sM → Bool
  | none => qA W
  | some p => qP S W p
theorem m_deedsBy (h : MW z b S W) {p : Option Nat} (hp : oLt 5 p) {n : Nat} (hn : n ≤ 6) (hg : g < sPA S) (hP : P (nI (bs 5 (dsG W (qO S W p) n g (ln W g)))) z) : wX12_deedsBy 148 gSH 129 (nI b) (nI g) (oI p) (nI n) z P := by
  have hh := h
  obtain ⟨hz, hok, hwk, hT, hS, hW, hb⟩ := h
  have h6 := hok.1
  have hl := ln_le hok hwk hg
  have e := hh.he hg
  have hJ : ∀ l, l = ln W g - n → wX12_deedsBy_J32 148 gSH P 129 (nI b) (nI g) (oI p) (nI 0) (nI (ln W g)) (nI l) z := by
    intro l hl2
    unfold wX12_deedsBy_J32
    have q : ∃ N, wX12_deedsBy_L34 148 gSH P N 129 (nI b) (nI g) (oI p) (nI (bs 5 (dsG W (qO S W p) n g l))) (nI (ln W g)) (nI l) z := by
      refine lpf (fun m i => wX12_deedsBy_L34 148 gSH P m 129 (nI b) (nI g) (oI p) (nI (bs 5 (dsG W (qO S W p) n g i))) (nI (ln W g)) (nI i) z) l (ln W g) (by omega) (fun m => ?_) (fun m i hi0 hi ih => ?_)
      · unfold wX12_deedsBy_L34 wX12_deedsBy_B34
        simp (disch := omega) only [Option.some.injEq, exists_eq_left', exists_eq_left, forall_eq, true_and, and_true, gr_si, gl_si, gr_sl, gi_sl, gr_sA, gl_sA, j_0, j_1, j_2, j_3, j_4, j_5, j_6, j_7, j_8, j_9, j_10, j_11, j_12, j_13, j_14, j_15, j_16, j_18, j_19, j_20, j_21, j_22, j_23, j_24, j_28, j_30, j_33, j_40, j_48, j_60, j_66, j_96, j_97, j_99, j_100, j_122, j_125, j_126, j_127, j_128, j_255, j_495, j_1000, j_1001, j_1023, j_1024, j_1100, j_1386, j_1452, j_9999, nN_1, nI_add, pk_mul, pk_sub, nI_clamp, vpI, nI_leI, nI_ltI, nI_eq, nN_eq, nN_eq', nN_lt, nN_nlt, nN_le, nN_nle, b_bit, n_bit, b_eq0, b_eq1, mO, mR10 hz, mA135, mL135, mR24 hz, mA145, mL145, Nat.le_refl, if_true]
        exact hP
      · unfold wX12_deedsBy_L34 wX12_deedsBy_B34
        simp (disch := omega) only [Option.some.injEq, exists_eq_left', exists_eq_left, forall_eq, true_and, and_true, gr_si, gl_si, gr_sl, gi_sl, gr_sA, gl_sA, j_0, j_1, j_2, j_3, j_4, j_5, j_6, j_7, j_8, j_9, j_10, j_11, j_12, j_13, j_14, j_15, j_16, j_18, j_19, j_20, j_21, j_22, j_23, j_24, j_28, j_30, j_33, j_40, j_48, j_60, j_66, j_96, j_97, j_99, j_100, j_122, j_125, j_126, j_127, j_128, j_255, j_495, j_1000, j_1001, j_1023, j_1024, j_1100, j_1386, j_1452, j_9999, nN_1, nI_add, pk_mul, pk_sub, nI_clamp, vpI, nI_leI, nI_ltI, nI_eq, nN_eq, nN_eq', nN_lt, nN_nlt, nN_le, nN_nle, b_bit, n_bit, b_eq0, b_eq1, mO, mR10 hz, mA135, mL135, mR24 hz, mA145, mL145, if_neg (show ¬ ln W g ≤ i by omega)]
        refine m_isShown hh hg (ifb0 (fun ho => ?_) (fun ho => ?_))
        · have e0 : ∀ k, dsG W (qO S W p) n g k = fun _ => false := fun k => dsG_no (fun j _ => by cases p <;> simp [qO, qA, qP, ho])
          rw [e0] at hP ⊢
          exact hP
        · obtain ⟨hm, _, _⟩ := mk_ok hok hwk hT hg hi
          refine m_markOf hh hg hi ?_
          have eY : qO S W p g (mk W g i) = true → wX12_deedsBy_J78 148 gSH (wX12_deedsBy_L34 148 gSH P m) P 129 (nI b) (nI g) (oI p) (nI (ln W g)) (nI i) (nI (mkM (mk W g i))) (nI (bs 5 (dsG W (qO S W p) n g i))) z := by
            intro hq
            unfold wX12_deedsBy_J78
            refine m_deedOf hm ?_
            unfold wX12_deedsBy_J89
            simp (disch := omega) only [Option.some.injEq, exists_eq_left', exists_eq_left, forall_eq, true_and, and_true, gr_si, gl_si, gr_sl, gi_sl, gr_sA, gl_sA, j_0, j_1, j_2, j_3, j_4, j_5, j_6, j_7, j_8, j_9, j_10, j_11, j_12, j_13, j_14, j_15, j_16, j_18, j_19, j_20, j_21, j_22, j_23, j_24, j_28, j_30, j_33, j_40, j_48, j_60, j_66, j_96, j_97, j_99, j_100, j_122, j_125, j_126, j_127, j_128, j_255, j_495, j_1000, j_1001, j_1023, j_1024, j_1100, j_1386, j_1452, j_9999, nN_1, nI_add, pk_mul, pk_sub, nI_clamp, vpI, nI_leI, nI_ltI, nI_eq, nN_eq, nN_eq', nN_lt, nN_nlt, nN_le, nN_nle, b_bit, n_bit, b_eq0, b_eq1, mO, mR10 hz, mA135, mL135, mR24 hz, mA145, mL145]
            rw [bs_setY (by decide) hm.2.1]
            have e2 : dsG W (qO S W p) n g (i + 1) = (fun d => dsG W (qO S W p) n g i d || decide (d = (mk W g i).2.1)) := by
              funext d
              simp only [dsG, xB, hq]
              rw [show decide (ln W g - n ≤ i) = true by simp; omega]
              simp
            rw [e2] at ih
            exact ih
          cases p with
          | none =>
            rw [if_pos (show oI none < nI 0 by decide)]
            exact eY ho
          | some p =>
            have hp5 : p < 5 := hp
            rw [if_neg (show ¬ oI (some p) < nI 0 from nI_pos (by omega))]
            refine m_shownOf hh hg hm ?_
            simp only [oI]
            by_cases ht : tel S W g = true
            · simp only [ht, if_true]
              have hw8 := hm.1
              simp (disch := omega) only [Option.some.injEq, exists_eq_left', exists_eq_left, forall_eq, true_and, and_true, gr_si, gl_si, gr_sl, gi_sl, gr_sA, gl_sA, j_0, j_1, j_2, j_3, j_4, j_5, j_6, j_7, j_8, j_9, j_10, j_11, j_12, j_13, j_14, j_15, j_16, j_18, j_19, j_20, j_21, j_22, j_23, j_24, j_28, j_30, j_33, j_40, j_48, j_60, j_66, j_96, j_97, j_99, j_100, j_122, j_125, j_126, j_127, j_128, j_255, j_495, j_1000, j_1001, j_1023, j_1024, j_1100, j_1386, j_1452, j_9999, nN_1, nI_add, pk_mul, pk_sub, nI_clamp, vpI, nI_leI, nI_ltI, nI_eq, nN_eq, nN_eq', nN_lt, nN_nlt, nN_le, nN_nle, b_bit, n_bit, b_eq0, b_eq1, mO, mR10 hz, mA135, mL135, mR24 hz, mA145, mL145]
              by_cases hwp : (mk W g i).1 = p
              · rw [if_pos hwp]
                exact eY (by simp [qO, qP, ho, ht, hwp])
              · rw [if_neg hwp]
                unfold wX12_deedsBy_J89
                simp (disch := omega) only [Option.some.injEq, exists_eq_left', exists_eq_left, forall_eq, true_and, and_true, gr_si, gl_si, gr_sl, gi_sl, gr_sA, gl_sA, j_0, j_1, j_2, j_3, j_4, j_5, j_6, j_7, j_8, j_9, j_10, j_11, j_12, j_13, j_14, j_15, j_16, j_18, j_19, j_20, j_21, j_22, j_23, j_24, j_28, j_30, j_33, j_40, j_48, j_60, j_66, j_96, j_97, j_99, j_100, j_122, j_125, j_126, j_127, j_128, j_255, j_495, j_1000, j_1001, j_1023, j_1024, j_1100, j_1386, j_1452, j_9999, nN_1, nI_add, pk_mul, pk_sub, nI_clamp, vpI, nI_leI, nI_ltI, nI_eq, nN_eq, nN_eq', nN_lt, nN_nlt, nN_le, nN_nle, b_bit, n_bit, b_eq0, b_eq1, mO, mR10 hz, mA135, mL135, mR24 hz, mA145, mL145]
                have e2 : dsG W (qO S W (some p)) n g (i + 1) = dsG W (qO S W (some p)) n g i := by
                  funext d
                  simp [dsG, xB, qO, qP, hwp]
                rw [e2] at ih
                rw [show nI 0 = nI (bs 5 (fun _ => false)) by rw [bs_f0], nI_orb]
                simp only [Bool.or_false]
                exact ih
            · simp only [ht]
              simp (disch := omega) only [Option.some.injEq, exists_eq_left', exists_eq_left, forall_eq, true_and, and_true, gr_si, gl_si, gr_sl, gi_sl, gr_sA, gl_sA, j_0, j_1, j_2, j_3, j_4, j_5, j_6, j_7, j_8, j_9, j_10, j_11, j_12, j_13, j_14, j_15, j_16, j_18, j_19, j_20, j_21, j_22, j_23, j_24, j_28, j_30, j_33, j_40, j_48, j_60, j_66, j_96, j_97, j_99, j_100, j_122, j_125, j_126, j_127, j_128, j_255, j_495, j_1000, j_1001, j_1023, j_1024, j_1100, j_1386, j_1452, j_9999, nN_1, nI_add, pk_mul, pk_sub, nI_clamp, vpI, nI_leI, nI_ltI, nI_eq, nN_eq, nN_eq', nN_lt, nN_nlt, nN_le, nN_nle, b_bit, n_bit, b_eq0, b_eq1, mO, mR10 hz, mA135, mL135, mR24 hz, mA145, mL145, Bool.false_eq_true, if_false]
              unfold wX12_deedsBy_J89
              simp (disch := omega) only [Option.some.injEq, exists_eq_left', exists_eq_left, forall_eq, true_and, and_true, gr_si, gl_si, gr_sl, gi_sl, gr_sA, gl_sA, j_0, j_1, j_2, j_3, j_4, j_5, j_6, j_7, j_8, j_9, j_10, j_11, j_12, j_13, j_14, j_15, j_16, j_18, j_19, j_20, j_21, j_22, j_23, j_24, j_28, j_30, j_33, j_40, j_48, j_60, j_66, j_96, j_97, j_99, j_100, j_122, j_125, j_126, j_127, j_128, j_255, j_495, j_1000, j_1001, j_1023, j_1024, j_1100, j_1386, j_1452, j_9999, nN_1, nI_add, pk_mul, pk_sub, nI_clamp, vpI, nI_leI, nI_ltI, nI_eq, nN_eq, nN_eq', nN_lt, nN_nlt, nN_le, nN_nle, b_bit, n_bit, b_eq0, b_eq1, mO, mR10 hz, mA135, mL135, mR24 hz, mA145, mL145]
              have e2 : dsG W (qO S W (some p)) n g (i + 1) = dsG W (qO S W (some p)) n g i := by
                funext d
                simp [dsG, xB, qO, qP, ht]
              rw [e2] at ih
              rw [show nI 0 = nI (bs 5 (fun _ => false)) by rw [bs_f0], nI_orb]
              simp only [Bool.or_false]
              exact ih
    rw [dsG_lo l (by omega), bs_f0] at q
    exact q
  unfold wX12_deedsBy
  simp (disch := omega) only [Option.some.injEq, exists_eq_left', exists_eq_left, forall_eq, true_and, and_true, gr_si, gl_si, gr_sl, gi_sl, gr_sA, gl_sA, j_0, j_1, j_2, j_3, j_4, j_5, j_6, j_7, j_8, j_9, j_10, j_11, j_12, j_13, j_14, j_15, j_16, j_18, j_19, j_20, j_21, j_22, j_23, j_24, j_28, j_30, j_33, j_40, j_48, j_60, j_66, j_96, j_97, j_99, j_100, j_122, j_125, j_126, j_127, j_128, j_255, j_495, j_1000, j_1001, j_1023, j_1024, j_1100, j_1386, j_1452, j_9999, nN_1, nI_add, pk_mul, pk_sub, nI_clamp, vpI, nI_leI, nI_ltI, nI_eq, nN_eq, nN_eq', nN_lt, nN_nlt, nN_le, nN_nle, b_bit, n_bit, b_eq0, b_eq1, mO, mR10 hz, mA135, mL135, mR24 hz, mA145, mL145, e]
  refine ⟨by omega, ?_⟩
  by_cases hc : ln W g ≤ n
  · rw [if_pos hc]
    exact hJ 0 (by omega)
  · rw [if_neg hc]
    exact hJ _ rfl
theorem m_harmShown (h : MW z b S W) {p : Option Nat} (hp : oLt 5 p) {n : Nat} (hn : n ≤ 6) (hP : P (nI (hrm S (dsP W (qO S W p) n (sPA S)))) z) : wX12_harmShown 148 gSH 129 (nI b) (oI p) (nI n) z P := by
  have hh := h
  obtain ⟨hz, hok, hwk, hT, hS, hW, hb⟩ := h
  have h6 := hok.1
  refine lp (fun m k => wX12_harmShown_L6 148 gSH P m 129 (nI b) (oI p) (nI n) (nI (bs 5 (dsP W (qO S W p) n k))) (nI k) z) (sPA S) (fun m => ?_) (fun m k hk ih => ?_)
  · unfold wX12_harmShown_L6 wX12_harmShown_B6
    refine ⟨mO, m_panes hz hS ?_⟩
    rw [if_pos (nI_le (by omega) (by omega))]
    exact m_harmOf hh _ hP
  · unfold wX12_harmShown_L6 wX12_harmShown_B6
    refine ⟨mO, m_panes hz hS ?_⟩
    rw [if_neg (nI_ge hk (by omega))]
    refine m_deedsBy hh hp hn hk ?_
    simp (disch := omega) only [Option.some.injEq, exists_eq_left', exists_eq_left, forall_eq, true_and, and_true, gr_si, gl_si, gr_sl, gi_sl, gr_sA, gl_sA, j_0, j_1, j_2, j_3, j_4, j_5, j_6, j_7, j_8, j_9, j_10, j_11, j_12, j_13, j_14, j_15, j_16, j_18, j_19, j_20, j_21, j_22, j_23, j_24, j_28, j_30, j_33, j_40, j_48, j_60, j_66, j_96, j_97, j_99, j_100, j_122, j_125, j_126, j_127, j_128, j_255, j_495, j_1000, j_1001, j_1023, j_1024, j_1100, j_1386, j_1452, j_9999, nN_1, nI_add, pk_mul, pk_sub, nI_clamp, vpI, nI_leI, nI_ltI, nI_eq, nN_eq, nN_eq', nN_lt, nN_nlt, nN_le, nN_nle, b_bit, n_bit, b_eq0, b_eq1, mO, mR10 hz, mA135, mL135, mR24 hz, mA145, mL145]
    rw [nI_orb]
    exact ih
theorem c_isShownOf (h : CW z t w S W) {p : Nat} (hp : p < 5) (hg : g < sPA S) (hi : i < ln W g) (hP : P (nI (qP S W p g (mk W g i)).toNat) z) : wX3_isShownOf 148 gSH t w (nI g) (nI i) (nI p) z P := by
  have hh := h
  obtain ⟨hz, ht, hw, hok, hwk, hT, hS, hW⟩ := h
  obtain ⟨hm, _, _⟩ := mk_ok hok hwk hT hg hi
  have hm1 := hm.1
  unfold qP at hP
  refine ⟨wO hw, c_open hh hg (ifb0 (fun ho => ?_) (fun ho => ?_))⟩
  · simpa [ho, nI_0] using hP
  · refine c_tell hh hg (ifb0 (fun hl => ?_) (fun hl => ?_))
    · simpa [hl, nI_0] using hP
    · refine c_markAt hh hg hi (c_whoOf hm ?_)
      simp (disch := omega) only [Option.some.injEq, exists_eq_left', exists_eq_left, forall_eq, true_and, and_true, gr_si, gl_si, gr_sl, gi_sl, gr_sA, gl_sA, j_0, j_1, j_2, j_3, j_4, j_5, j_6, j_7, j_8, j_9, j_10, j_11, j_12, j_13, j_14, j_15, j_16, j_18, j_19, j_20, j_21, j_22, j_23, j_24, j_28, j_30, j_33, j_40, j_48, j_60, j_66, j_96, j_97, j_99, j_100, j_122, j_125, j_126, j_127, j_128, j_255, j_495, j_1000, j_1001, j_1023, j_1024, j_1100, j_1386, j_1452, j_9999, nN_1, nI_add, pk_mul, pk_sub, nI_clamp, vpI, nI_leI, nI_ltI, nI_eq, nN_eq, nN_eq', nN_lt, nN_nlt, nN_le, nN_nle, b_bit, n_bit, b_eq0, b_eq1, wO hw, wA1 hw, wA2 hw, wA3 hw, wL1 hw, wL2 hw, wL3 hw, wR5 hz hw, wR6 hz hw, wR7 hz hw, tO ht, tO1 ht, tA2 ht, tL2 ht, tA3 ht, tL3 ht, tA4 ht, tL4 ht, tA5 ht, tL5 ht, tA6 ht, tL6 ht, tA7 ht, tL7 ht, tA8 ht, tL8 ht, tA9 ht, tL9 ht, tR0 hz ht, tR1 hz ht, tR2 hz ht, tR3 hz ht, tR4 hz ht, tR5 hz ht, tR6 hz ht, tRl0 hz ht, tRl1 hz ht]
      by_cases hx : (mk W g i).1 = p
      · rw [if_pos hx]
        simpa [ho, hl, hx] using hP
      · rw [if_neg hx]
        simpa [ho, hl, hx] using hP
theorem c_deedsShownOf (h : CW z t w S W) {p v : Nat} (hp : p < 5) (hv : v < 64) (hP : P (nI (bs 5 (dsP W (fun g m => v.testBit g && qP S W p g m) 6 (sPA S)))) z) : wX3_deedsShownOf 148 gSH t w (nI v) (nI p) z P := by
  have hh := h
  obtain ⟨hz, ht, hw, hok, hwk, hT, hS, hW⟩ := h
  have h6 := hok.1
  refine lp (fun m k => wX3_deedsShownOf_L6 148 gSH P m t w (nI v) (nI p) (nI (bs 5 (dsP W (fun g m => v.testBit g && qP S W p g m) 6 k))) (nI k) z) (sPA S) (fun m => ?_) (fun m k hk ih => ?_)
  · unfold wX3_deedsShownOf_L6 wX3_deedsShownOf_B6
    simp (disch := omega) only [Option.some.injEq, exists_eq_left', exists_eq_left, forall_eq, true_and, and_true, gr_si, gl_si, gr_sl, gi_sl, gr_sA, gl_sA, j_0, j_1, j_2, j_3, j_4, j_5, j_6, j_7, j_8, j_9, j_10, j_11, j_12, j_13, j_14, j_15, j_16, j_18, j_19, j_20, j_21, j_22, j_23, j_24, j_28, j_30, j_33, j_40, j_48, j_60, j_66, j_96, j_97, j_99, j_100, j_122, j_125, j_126, j_127, j_128, j_255, j_495, j_1000, j_1001, j_1023, j_1024, j_1100, j_1386, j_1452, j_9999, nN_1, nI_add, pk_mul, pk_sub, nI_clamp, vpI, nI_leI, nI_ltI, nI_eq, nN_eq, nN_eq', nN_lt, nN_nlt, nN_le, nN_nle, b_bit, n_bit, b_eq0, b_eq1, wO hw, wA1 hw, wA2 hw, wA3 hw, wL1 hw, wL2 hw, wL3 hw, wR5 hz hw, wR6 hz hw, wR7 hz hw, tO ht, tO1 ht, tA2 ht, tL2 ht, tA3 ht, tL3 ht, tA4 ht, tL4 ht, tA5 ht, tL5 ht, tA6 ht, tL6 ht, tA7 ht, tL7 ht, tA8 ht, tL8 ht, tA9 ht, tL9 ht, tR0 hz ht, tR1 hz ht, tR2 hz ht, tR3 hz ht, tR4 hz ht, tR5 hz ht, tR6 hz ht, tRl0 hz ht, tRl1 hz ht, hS.1, Nat.le_refl, if_true]
    exact hP
  · unfold wX3_deedsShownOf_L6 wX3_deedsShownOf_B6
    have hl := ln_le hok hwk hk
    have e : gi z (w + 2) k = nI (ln W k) := hh.he hk
    have hJ : ∀ l : Nat, (l = ln W k ∧ v.testBit k = true ∨ l = 0 ∧ v.testBit k = false) → wX3_deedsShownOf_J35 148 gSH (wX3_deedsShownOf_L6 148 gSH P m) P t w (nI v) (nI p) (nI (bs 5 (dsP W (fun g m => v.testBit g && qP S W p g m) 6 k))) (nI k) (nI l) z := by
      intro l hll
      unfold wX3_deedsShownOf_J35
      refine (lp (fun m2 i => wX3_deedsShownOf_L40 148 gSH (wX3_deedsShownOf_L6 148 gSH P m) P m2 t w (nI v) (nI p) (nI (bs 5 (fun d => dsP W (fun g m => v.testBit g && qP S W p g m) 6 k d || dsG W (fun g m => v.testBit g && qP S W p g m) 6 k i d))) (nI k) (nI l) (nI i) z) l (fun m2 => ?_) (fun m2 i hi ih2 => ?_)).imp (fun N q => ?_)
      · unfold wX3_deedsShownOf_L40 wX3_deedsShownOf_B40
        simp (disch := omega) only [Option.some.injEq, exists_eq_left', exists_eq_left, forall_eq, true_and, and_true, gr_si, gl_si, gr_sl, gi_sl, gr_sA, gl_sA, j_0, j_1, j_2, j_3, j_4, j_5, j_6, j_7, j_8, j_9, j_10, j_11, j_12, j_13, j_14, j_15, j_16, j_18, j_19, j_20, j_21, j_22, j_23, j_24, j_28, j_30, j_33, j_40, j_48, j_60, j_66, j_96, j_97, j_99, j_100, j_122, j_125, j_126, j_127, j_128, j_255, j_495, j_1000, j_1001, j_1023, j_1024, j_1100, j_1386, j_1452, j_9999, nN_1, nI_add, pk_mul, pk_sub, nI_clamp, vpI, nI_leI, nI_ltI, nI_eq, nN_eq, nN_eq', nN_lt, nN_nlt, nN_le, nN_nle, b_bit, n_bit, b_eq0, b_eq1, wO hw, wA1 hw, wA2 hw, wA3 hw, wL1 hw, wL2 hw, wL3 hw, wR5 hz hw, wR6 hz hw, wR7 hz hw, tO ht, tO1 ht, tA2 ht, tL2 ht, tA3 ht, tL3 ht, tA4 ht, tL4 ht, tA5 ht, tL5 ht, tA6 ht, tL6 ht, tA7 ht, tL7 ht, tA8 ht, tL8 ht, tA9 ht, tL9 ht, tR0 hz ht, tR1 hz ht, tR2 hz ht, tR3 hz ht, tR4 hz ht, tR5 hz ht, tR6 hz ht, tRl0 hz ht, tRl1 hz ht, Nat.le_refl, if_true]
        have e : (fun d => dsP W (fun g m => v.testBit g && qP S W p g m) 6 k d || dsG W (fun g m => v.testBit g && qP S W p g m) 6 k l d) = dsP W (fun g m => v.testBit g && qP S W p g m) 6 (k + 1) := by
          funext d
          simp only [dsP, xB]
          congr 1
          rcases hll with ⟨rfl, _⟩ | ⟨rfl, ho⟩
          · rfl
          · rw [dsG_no (i := ln W k) (fun j _ => by simp [ho])]
            rfl
        rw [e]
        exact ih
      · unfold wX3_deedsShownOf_L40 wX3_deedsShownOf_B40
        rcases hll with ⟨rfl, ho⟩ | ⟨rfl, ho⟩
        · simp (disch := omega) only [Option.some.injEq, exists_eq_left', exists_eq_left, forall_eq, true_and, and_true, gr_si, gl_si, gr_sl, gi_sl, gr_sA, gl_sA, j_0, j_1, j_2, j_3, j_4, j_5, j_6, j_7, j_8, j_9, j_10, j_11, j_12, j_13, j_14, j_15, j_16, j_18, j_19, j_20, j_21, j_22, j_23, j_24, j_28, j_30, j_33, j_40, j_48, j_60, j_66, j_96, j_97, j_99, j_100, j_122, j_125, j_126, j_127, j_128, j_255, j_495, j_1000, j_1001, j_1023, j_1024, j_1100, j_1386, j_1452, j_9999, nN_1, nI_add, pk_mul, pk_sub, nI_clamp, vpI, nI_leI, nI_ltI, nI_eq, nN_eq, nN_eq', nN_lt, nN_nlt, nN_le, nN_nle, b_bit, n_bit, b_eq0, b_eq1, wO hw, wA1 hw, wA2 hw, wA3 hw, wL1 hw, wL2 hw, wL3 hw, wR5 hz hw, wR6 hz hw, wR7 hz hw, tO ht, tO1 ht, tA2 ht, tL2 ht, tA3 ht, tL3 ht, tA4 ht, tL4 ht, tA5 ht, tL5 ht, tA6 ht, tL6 ht, tA7 ht, tL7 ht, tA8 ht, tL8 ht, tA9 ht, tL9 ht, tR0 hz ht, tR1 hz ht, tR2 hz ht, tR3 hz ht, tR4 hz ht, tR5 hz ht, tR6 hz ht, tRl0 hz ht, tRl1 hz ht, if_neg (show ¬ ln W k ≤ i by omega)]
          obtain ⟨hm, _, _⟩ := mk_ok hok hwk hT hk hi
          unfold wX3_deedsShownOf_J78
          refine c_isShownOf hh hp hk hi (ifb0 (fun hq => ?_) (fun hq => ?_))
          · simp (disch := omega) only [Option.some.injEq, exists_eq_left', exists_eq_left, forall_eq, true_and, and_true, gr_si, gl_si, gr_sl, gi_sl, gr_sA, gl_sA, j_0, j_1, j_2, j_3, j_4, j_5, j_6, j_7, j_8, j_9, j_10, j_11, j_12, j_13, j_14, j_15, j_16, j_18, j_19, j_20, j_21, j_22, j_23, j_24, j_28, j_30, j_33, j_40, j_48, j_60, j_66, j_96, j_97, j_99, j_100, j_122, j_125, j_126, j_127, j_128, j_255, j_495, j_1000, j_1001, j_1023, j_1024, j_1100, j_1386, j_1452, j_9999, nN_1, nI_add, pk_mul, pk_sub, nI_clamp, vpI, nI_leI, nI_ltI, nI_eq, nN_eq, nN_eq', nN_lt, nN_nlt, nN_le, nN_nle, b_bit, n_bit, b_eq0, b_eq1, wO hw, wA1 hw, wA2 hw, wA3 hw, wL1 hw, wL2 hw, wL3 hw, wR5 hz hw, wR6 hz hw, wR7 hz hw, tO ht, tO1 ht, tA2 ht, tL2 ht, tA3 ht, tL3 ht, tA4 ht, tL4 ht, tA5 ht, tL5 ht, tA6 ht, tL6 ht, tA7 ht, tL7 ht, tA8 ht, tL8 ht, tA9 ht, tL9 ht, tR0 hz ht, tR1 hz ht, tR2 hz ht, tR3 hz ht, tR4 hz ht, tR5 hz ht, tR6 hz ht, tRl0 hz ht, tRl1 hz ht]
            have e2 : dsG W (fun g m => v.testBit g && qP S W p g m) 6 k (i + 1) = dsG W (fun g m => v.testBit g && qP S W p g m) 6 k i := by
              funext d
              simp [dsG, xB, hq]
            rw [e2] at ih2
            exact ih2
          · refine c_markAt hh hk hi (c_deedOf hm ?_)
            simp (disch := omega) only [Option.some.injEq, exists_eq_left', exists_eq_left, forall_eq, true_and, and_true, gr_si, gl_si, gr_sl, gi_sl, gr_sA, gl_sA, j_0, j_1, j_2, j_3, j_4, j_5, j_6, j_7, j_8, j_9, j_10, j_11, j_12, j_13, j_14, j_15, j_16, j_18, j_19, j_20, j_21, j_22, j_23, j_24, j_28, j_30, j_33, j_40, j_48, j_60, j_66, j_96, j_97, j_99, j_100, j_122, j_125, j_126, j_127, j_128, j_255, j_495, j_1000, j_1001, j_1023, j_1024, j_1100, j_1386, j_1452, j_9999, nN_1, nI_add, pk_mul, pk_sub, nI_clamp, vpI, nI_leI, nI_ltI, nI_eq, nN_eq, nN_eq', nN_lt, nN_nlt, nN_le, nN_nle, b_bit, n_bit, b_eq0, b_eq1, wO hw, wA1 hw, wA2 hw, wA3 hw, wL1 hw, wL2 hw, wL3 hw, wR5 hz hw, wR6 hz hw, wR7 hz hw, tO ht, tO1 ht, tA2 ht, tL2 ht, tA3 ht, tL3 ht, tA4 ht, tL4 ht, tA5 ht, tL5 ht, tA6 ht, tL6 ht, tA7 ht, tL7 ht, tA8 ht, tL8 ht, tA9 ht, tL9 ht, tR0 hz ht, tR1 hz ht, tR2 hz ht, tR3 hz ht, tR4 hz ht, tR5 hz ht, tR6 hz ht, tRl0 hz ht, tRl1 hz ht]
            rw [bs_setY (by decide) hm.2.1]
            have e2 : (fun d => dsP W (fun g m => v.testBit g && qP S W p g m) 6 k d || dsG W (fun g m => v.testBit g && qP S W p g m) 6 k (i + 1) d) = (fun d => (dsP W (fun g m => v.testBit g && qP S W p g m) 6 k d || dsG W (fun g m => v.testBit g && qP S W p g m) 6 k i d) || decide (d = (mk W k i).2.1)) := by
              funext d
              have : dsG W (fun g m => v.testBit g && qP S W p g m) 6 k (i + 1) d = (dsG W (fun g m => v.testBit g && qP S W p g m) 6 k i d || decide (d = (mk W k i).2.1)) := by
                simp only [dsG, xB, hq, ho]
                rw [show decide (ln W k - 6 ≤ i) = true by simp; omega]
                simp
              rw [this, Bool.or_assoc]
            rw [e2] at ih2
            exact ih2
        · omega
      · have e0 : (fun d => dsP W (fun g m => v.testBit g && qP S W p g m) 6 k d || dsG W (fun g m => v.testBit g && qP S W p g m) 6 k 0 d) = dsP W (fun g m => v.testBit g && qP S W p g m) 6 k := by
          funext d
          simp [dsG, xB]
        rw [← e0]
        exact q
    simp (disch := omega) only [Option.some.injEq, exists_eq_left', exists_eq_left, forall_eq, true_and, and_true, gr_si, gl_si, gr_sl, gi_sl, gr_sA, gl_sA, j_0, j_1, j_2, j_3, j_4, j_5, j_6, j_7, j_8, j_9, j_10, j_11, j_12, j_13, j_14, j_15, j_16, j_18, j_19, j_20, j_21, j_22, j_23, j_24, j_28, j_30, j_33, j_40, j_48, j_60, j_66, j_96, j_97, j_99, j_100, j_122, j_125, j_126, j_127, j_128, j_255, j_495, j_1000, j_1001, j_1023, j_1024, j_1100, j_1386, j_1452, j_9999, nN_1, nI_add, pk_mul, pk_sub, nI_clamp, vpI, nI_leI, nI_ltI, nI_eq, nN_eq, nN_eq', nN_lt, nN_nlt, nN_le, nN_nle, b_bit, n_bit, b_eq0, b_eq1, wO hw, wA1 hw, wA2 hw, wA3 hw, wL1 hw, wL2 hw, wL3 hw, wR5 hz hw, wR6 hz hw, wR7 hz hw, tO ht, tO1 ht, tA2 ht, tL2 ht, tA3 ht, tL3 ht, tA4 ht, tL4 ht, tA5 ht, tL5 ht, tA6 ht, tL6 ht, tA7 ht, tL7 ht, tA8 ht, tL8 ht, tA9 ht, tL9 ht, tR0 hz ht, tR1 hz ht, tR2 hz ht, tR3 hz ht, tR4 hz ht, tR5 hz ht, tR6 hz ht, tRl0 hz ht, tRl1 hz ht, hS.1, if_neg (show ¬ sPA S ≤ k by omega), e]
    by_cases ho : v.testBit k = false
    · rw [if_pos ho]
      exact hJ 0 (Or.inr ⟨rfl, ho⟩)
    · rw [if_neg ho]
      exact ⟨by omega, hJ (ln W k) (Or.inl ⟨rfl, by simpa using ho⟩)⟩
theorem c_allPanes (h : CW z t w S W) (hP : P (nI (2 ^ sPA S - 1)) z) : wX3_allPanes 148 gSH t z P := by
  obtain ⟨hz, ht, hw, hok, hwk, hT, hS, hW⟩ := h
  have h6 := hok.1
  have e64 : 2 ^ sPA S ≤ 2 ^ 6 := Nat.pow_le_pow_right (by decide) h6
  have e1 : 0 < 2 ^ sPA S := Nat.two_pow_pos _
  unfold wX3_allPanes
  refine ⟨tO ht, ?_⟩
  rw [hS.1, j_1, nI_shl (by omega) (by omega), Nat.one_mul, pk_sub (by omega)]
  exact hP
theorem allB {n g : Nat} (h : g < n) : (2 ^ n - 1).testBit g = true := by
  rw [Nat.testBit_two_pow_sub_one]
  simpa using h
theorem c_shameOf (h : CW z t w S W) {p : Nat} (hp : p < 5) (hP : P (nI (hrm S (dsP W (qP S W p) 6 (sPA S)))) z) : wX3_shameOf 148 gSH t w (nI p) z P := by
  have h6 := h.2.2.2.1.1
  have e64 : 2 ^ sPA S ≤ 2 ^ 6 := Nat.pow_le_pow_right (by decide) h6
  have e1 : 0 < 2 ^ sPA S := Nat.two_pow_pos _
  refine c_allPanes h (c_deedsShownOf h hp (by omega) (c_harmOf h _ ?_))
  rw [dsP_congr (q' := qP S W p) (fun g hg j _ => by simp only [allB hg, Bool.true_and])]
  exact hP
end RC
