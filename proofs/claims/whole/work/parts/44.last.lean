/-! ===== oldest, last, washes ===== -/
abbrev oP : Type := Option Nat × Option Nat
def gtO (o : Option Nat) (a : Nat) : Bool := match o with
  | none => true
  | some b => decide (b < a)
def stO (g : Nat) (s : oP) (m : sM) : oP := if gtO s.2 m.2.2.2 = true then (some g, some m.2.2.2) else s
def fOg (W : sW) (g : Nat) (s : oP) : Nat → oP
  | 0 => s
  | i + 1 => stO g (fOg W g s i) (mk W g i)
def fOl (W : sW) : Nat → oP
  | 0 => (none, none)
  | g + 1 => fOg W g (fOl W g) (ln W g)
def stL (S : sS) (W : sW) (p g : Nat) (s : Option Nat × Nat) (m : sM) : Option Nat × Nat := if qP S W p g m = true ∧ (s.1 = none ∨ m.2.2.2 < s.2) then (some m.2.2.1, m.2.2.2) else s
def fLg (S : sS) (W : sW) (p g : Nat) : Nat → Option Nat × Nat → Option Nat × Nat
  | 0, s => s
  | k + 1, s => fLg S W p g k (stL S W p g s (mk W g k))
def fLa (S : sS) (W : sW) (p : Nat) : Nat → Option Nat × Nat
  | 0 => (none, 0)
  | g + 1 => fLg S W p g (ln W g) (fLa S W p g)
def okL (s : Option Nat × Nat) : Prop := s.2 < 2 ^ 20 ∧ oLt 10 s.1
/-- the least of those from k on, below n -/
def Lst (f : Nat → Bool) (k n : Nat) : Option Nat → Prop
  | none => ∀ j, k ≤ j → j < n → f j = false
  | some j => k ≤ j ∧ j < n ∧ f j = true ∧ ∀ i, k ≤ i → i < j → f i = false
def fF (f : Nat → Bool) : Nat → Option Nat
  | 0 => none
  | k + 1 => match fF f k with
    | some j => some j
    | none => if f k then some k else none
theorem fF_lst (f : Nat → Bool) : ∀ n, Lst f 0 n (fF f n)
  | 0 => fun j _ h => by omega
  | n + 1 => by
    have h := fF_lst f n
    rw [fF]
    cases hF : fF f n with
    | some j =>
      rw [hF] at h
      obtain ⟨a, b, c, d⟩ := h
      exact ⟨a, by omega, c, d⟩
    | none =>
      rw [hF] at h
      by_cases hn : f n = true
      · simp only [hn, if_true]
        exact ⟨by omega, by omega, hn, fun i h1 h2 => h i h1 h2⟩
      · simp only [hn]
        intro j h1 h2
        by_cases e : j = n
        · rw [e]; simpa using hn
        · exact h j h1 (by omega)
theorem Lst_un {f : Nat → Bool} {k n : Nat} {a b : Option Nat} (ha : Lst f k n a) (hb : Lst f k n b) : a = b := by
  cases a with
  | none =>
    cases b with
    | none => rfl
    | some j =>
      obtain ⟨h1, h2, h3, h4⟩ := hb
      rw [ha j h1 h2] at h3
      cases h3
  | some i =>
    obtain ⟨g1, g2, g3, g4⟩ := ha
    cases b with
    | none =>
      rw [hb i g1 g2] at g3
      cases g3
    | some j =>
      obtain ⟨h1, h2, h3, h4⟩ := hb
      by_cases h : i < j
      · rw [h4 i g1 h] at g3
        cases g3
      · by_cases h' : j < i
        · rw [g4 j h1 h'] at h3
          cases h3
        · rw [show i = j by omega]
def wsF (W : sW) (p d g : Nat) (j : Nat) : Bool := decide ((mk W g j).1 = p) && decide ((mk W g j).2.1 = d)
def wsO (l : Nat) : Option Nat → Nat
  | none => 0
  | some j => l - j
def wsN (W : sW) (p d g : Nat) : Nat := if wG W g then 0 else wsO (ln W g) (fF (wsF W p d g) (ln W g))
section RC
variable {z : gS} {w t g b i : Nat} {S : sS} {W : sW} {P : Int32 → gS → Prop}
theorem gtO_le {o : Option Nat} {a : Nat} (ho : oLt (2 ^ 20) o) (ha : a < 2 ^ 20) {A B : Prop} (h1 : gtO o a = false → A) (h2 : gtO o a = true → B) : if nI a ≤ oI o then A else B := by
  cases o with
  | none =>
    rw [if_neg (show ¬ nI a ≤ oI none by rw [oI, nN_nle (by omega)]; exact id)]
    exact h2 rfl
  | some b =>
    have hb : b < 2 ^ 20 := ho
    by_cases hx : a ≤ b
    · rw [if_pos (show nI a ≤ oI (some b) from nI_le hx (by omega))]
      exact h1 (by simp [gtO]; omega)
    · rw [if_neg (show ¬ nI a ≤ oI (some b) from nI_ge (by omega) (by omega))]
      exact h2 (by simp [gtO]; omega)
theorem fOg_ok {s : oP} (hok : sOK S) (hwk : wOK S W) (hT : wT W < 2 ^ 20) (hg : g < sPA S) (hs : oLt (2 ^ 20) s.2) : ∀ i, i ≤ ln W g → oLt (2 ^ 20) (fOg W g s i).2
  | 0 => fun _ => hs
  | i + 1 => fun hi => by
    have h := fOg_ok hok hwk hT hg hs i (by omega)
    obtain ⟨hm, _, _⟩ := mk_ok hok hwk hT hg (i := i) (by omega)
    rw [fOg, stO]
    split
    · exact hm.2.2.2
    · exact h
theorem fOl_ok (hok : sOK S) (hwk : wOK S W) (hT : wT W < 2 ^ 20) : ∀ g, g ≤ sPA S → oLt (2 ^ 20) (fOl W g).2
  | 0 => fun _ => trivial
  | g + 1 => fun hg => fOg_ok hok hwk hT (by omega) (fOl_ok hok hwk hT g (by omega)) _ (Nat.le_refl _)
theorem c_oldest (h : CW z t w S W) (hP : P (oI (fOl W (sPA S)).1) z) : wX3_paneOfGreatestAge 148 gSH t w z P := by
  have hh := h
  obtain ⟨hz, ht, hw, hok, hwk, hT, hS, hW⟩ := h
  have h6 := hok.1
  refine lp (fun m k => wX3_paneOfGreatestAge_L7 148 gSH P m t w (oI (fOl W k).1) (oI (fOl W k).2) (nI k) z) (sPA S) (fun m => ?_) (fun m k hk ih => ?_)
  · unfold wX3_paneOfGreatestAge_L7 wX3_paneOfGreatestAge_B7
    simp (disch := omega) only [Option.some.injEq, exists_eq_left', exists_eq_left, forall_eq, true_and, and_true, gr_si, gl_si, gr_sl, gi_sl, gr_sA, gl_sA, j_0, j_1, j_2, j_3, j_4, j_5, j_6, j_7, j_8, j_9, j_10, j_11, j_12, j_13, j_14, j_15, j_16, j_18, j_19, j_20, j_21, j_22, j_23, j_24, j_28, j_30, j_33, j_40, j_48, j_60, j_66, j_96, j_97, j_99, j_100, j_122, j_125, j_126, j_127, j_128, j_255, j_495, j_1000, j_1001, j_1023, j_1024, j_1100, j_1386, j_1452, j_9999, nN_1, nI_add, pk_mul, pk_sub, nI_clamp, vpI, nI_leI, nI_ltI, nI_eq, nN_eq, nN_eq', nN_lt, nN_nlt, nN_le, nN_nle, b_bit, n_bit, b_eq0, b_eq1, wO hw, wA1 hw, wA2 hw, wA3 hw, wL1 hw, wL2 hw, wL3 hw, wR5 hz hw, wR6 hz hw, wR7 hz hw, tO ht, tO1 ht, tA2 ht, tL2 ht, tA3 ht, tL3 ht, tA4 ht, tL4 ht, tA5 ht, tL5 ht, tA6 ht, tL6 ht, tA7 ht, tL7 ht, tA8 ht, tL8 ht, tA9 ht, tL9 ht, tR0 hz ht, tR1 hz ht, tR2 hz ht, tR3 hz ht, tR4 hz ht, tR5 hz ht, tR6 hz ht, tRl0 hz ht, tRl1 hz ht, hS.1, Nat.le_refl, if_true]
    exact hP
  · unfold wX3_paneOfGreatestAge_L7 wX3_paneOfGreatestAge_B7
    simp (disch := omega) only [Option.some.injEq, exists_eq_left', exists_eq_left, forall_eq, true_and, and_true, gr_si, gl_si, gr_sl, gi_sl, gr_sA, gl_sA, j_0, j_1, j_2, j_3, j_4, j_5, j_6, j_7, j_8, j_9, j_10, j_11, j_12, j_13, j_14, j_15, j_16, j_18, j_19, j_20, j_21, j_22, j_23, j_24, j_28, j_30, j_33, j_40, j_48, j_60, j_66, j_96, j_97, j_99, j_100, j_122, j_125, j_126, j_127, j_128, j_255, j_495, j_1000, j_1001, j_1023, j_1024, j_1100, j_1386, j_1452, j_9999, nN_1, nI_add, pk_mul, pk_sub, nI_clamp, vpI, nI_leI, nI_ltI, nI_eq, nN_eq, nN_eq', nN_lt, nN_nlt, nN_le, nN_nle, b_bit, n_bit, b_eq0, b_eq1, wO hw, wA1 hw, wA2 hw, wA3 hw, wL1 hw, wL2 hw, wL3 hw, wR5 hz hw, wR6 hz hw, wR7 hz hw, tO ht, tO1 ht, tA2 ht, tL2 ht, tA3 ht, tL3 ht, tA4 ht, tL4 ht, tA5 ht, tL5 ht, tA6 ht, tL6 ht, tA7 ht, tL7 ht, tA8 ht, tL8 ht, tA9 ht, tL9 ht, tR0 hz ht, tR1 hz ht, tR2 hz ht, tR3 hz ht, tR4 hz ht, tR5 hz ht, tR6 hz ht, tRl0 hz ht, tRl1 hz ht, hS.1, if_neg (show ¬ sPA S ≤ k by omega)]
    have hl := ln_le hok hwk hk
    have e := hh.he hk
    refine lp (fun m2 i => wX3_paneOfGreatestAge_L19 148 gSH (wX3_paneOfGreatestAge_L7 148 gSH P m) P m2 t w (oI (fOg W k (fOl W k) i).1) (oI (fOg W k (fOl W k) i).2) (nI k) (nI i) z) (ln W k) (fun m2 => ?_) (fun m2 i hi ih2 => ?_)
    · unfold wX3_paneOfGreatestAge_L19 wX3_paneOfGreatestAge_B19
      simp (disch := omega) only [Option.some.injEq, exists_eq_left', exists_eq_left, forall_eq, true_and, and_true, gr_si, gl_si, gr_sl, gi_sl, gr_sA, gl_sA, j_0, j_1, j_2, j_3, j_4, j_5, j_6, j_7, j_8, j_9, j_10, j_11, j_12, j_13, j_14, j_15, j_16, j_18, j_19, j_20, j_21, j_22, j_23, j_24, j_28, j_30, j_33, j_40, j_48, j_60, j_66, j_96, j_97, j_99, j_100, j_122, j_125, j_126, j_127, j_128, j_255, j_495, j_1000, j_1001, j_1023, j_1024, j_1100, j_1386, j_1452, j_9999, nN_1, nI_add, pk_mul, pk_sub, nI_clamp, vpI, nI_leI, nI_ltI, nI_eq, nN_eq, nN_eq', nN_lt, nN_nlt, nN_le, nN_nle, b_bit, n_bit, b_eq0, b_eq1, wO hw, wA1 hw, wA2 hw, wA3 hw, wL1 hw, wL2 hw, wL3 hw, wR5 hz hw, wR6 hz hw, wR7 hz hw, tO ht, tO1 ht, tA2 ht, tL2 ht, tA3 ht, tL3 ht, tA4 ht, tL4 ht, tA5 ht, tL5 ht, tA6 ht, tL6 ht, tA7 ht, tL7 ht, tA8 ht, tL8 ht, tA9 ht, tL9 ht, tR0 hz ht, tR1 hz ht, tR2 hz ht, tR3 hz ht, tR4 hz ht, tR5 hz ht, tR6 hz ht, tRl0 hz ht, tRl1 hz ht, e, Nat.le_refl, if_true]
      exact ⟨by omega, ih⟩
    · unfold wX3_paneOfGreatestAge_L19 wX3_paneOfGreatestAge_B19
      simp (disch := omega) only [Option.some.injEq, exists_eq_left', exists_eq_left, forall_eq, true_and, and_true, gr_si, gl_si, gr_sl, gi_sl, gr_sA, gl_sA, j_0, j_1, j_2, j_3, j_4, j_5, j_6, j_7, j_8, j_9, j_10, j_11, j_12, j_13, j_14, j_15, j_16, j_18, j_19, j_20, j_21, j_22, j_23, j_24, j_28, j_30, j_33, j_40, j_48, j_60, j_66, j_96, j_97, j_99, j_100, j_122, j_125, j_126, j_127, j_128, j_255, j_495, j_1000, j_1001, j_1023, j_1024, j_1100, j_1386, j_1452, j_9999, nN_1, nI_add, pk_mul, pk_sub, nI_clamp, vpI, nI_leI, nI_ltI, nI_eq, nN_eq, nN_eq', nN_lt, nN_nlt, nN_le, nN_nle, b_bit, n_bit, b_eq0, b_eq1, wO hw, wA1 hw, wA2 hw, wA3 hw, wL1 hw, wL2 hw, wL3 hw, wR5 hz hw, wR6 hz hw, wR7 hz hw, tO ht, tO1 ht, tA2 ht, tL2 ht, tA3 ht, tL3 ht, tA4 ht, tL4 ht, tA5 ht, tL5 ht, tA6 ht, tL6 ht, tA7 ht, tL7 ht, tA8 ht, tL8 ht, tA9 ht, tL9 ht, tR0 hz ht, tR1 hz ht, tR2 hz ht, tR3 hz ht, tR4 hz ht, tR5 hz ht, tR6 hz ht, tRl0 hz ht, tRl1 hz ht, e, if_neg (show ¬ ln W k ≤ i by omega)]
      refine ⟨by omega, ?_⟩
      obtain ⟨hm, _, _⟩ := mk_ok hok hwk hT hk hi
      refine c_markAt hh hk hi (c_ageOf hm ?_)
      unfold wX3_paneOfGreatestAge_J56
      rw [fOg, stO] at ih2
      refine gtO_le (fOg_ok hok hwk hT hk (fOl_ok hok hwk hT k (by omega)) i (by omega)) hm.2.2.2 (fun q => ?_) (fun q => ?_)
      · rw [q, if_neg (by decide)] at ih2
        simp (disch := omega) only [Option.some.injEq, exists_eq_left', exists_eq_left, forall_eq, true_and, and_true, gr_si, gl_si, gr_sl, gi_sl, gr_sA, gl_sA, j_0, j_1, j_2, j_3, j_4, j_5, j_6, j_7, j_8, j_9, j_10, j_11, j_12, j_13, j_14, j_15, j_16, j_18, j_19, j_20, j_21, j_22, j_23, j_24, j_28, j_30, j_33, j_40, j_48, j_60, j_66, j_96, j_97, j_99, j_100, j_122, j_125, j_126, j_127, j_128, j_255, j_495, j_1000, j_1001, j_1023, j_1024, j_1100, j_1386, j_1452, j_9999, nN_1, nI_add, pk_mul, pk_sub, nI_clamp, vpI, nI_leI, nI_ltI, nI_eq, nN_eq, nN_eq', nN_lt, nN_nlt, nN_le, nN_nle, b_bit, n_bit, b_eq0, b_eq1, wO hw, wA1 hw, wA2 hw, wA3 hw, wL1 hw, wL2 hw, wL3 hw, wR5 hz hw, wR6 hz hw, wR7 hz hw, tO ht, tO1 ht, tA2 ht, tL2 ht, tA3 ht, tL3 ht, tA4 ht, tL4 ht, tA5 ht, tL5 ht, tA6 ht, tL6 ht, tA7 ht, tL7 ht, tA8 ht, tL8 ht, tA9 ht, tL9 ht, tR0 hz ht, tR1 hz ht, tR2 hz ht, tR3 hz ht, tR4 hz ht, tR5 hz ht, tR6 hz ht, tRl0 hz ht, tRl1 hz ht]
        exact ih2
      · rw [q, if_pos rfl] at ih2
        simp (disch := omega) only [Option.some.injEq, exists_eq_left', exists_eq_left, forall_eq, true_and, and_true, gr_si, gl_si, gr_sl, gi_sl, gr_sA, gl_sA, j_0, j_1, j_2, j_3, j_4, j_5, j_6, j_7, j_8, j_9, j_10, j_11, j_12, j_13, j_14, j_15, j_16, j_18, j_19, j_20, j_21, j_22, j_23, j_24, j_28, j_30, j_33, j_40, j_48, j_60, j_66, j_96, j_97, j_99, j_100, j_122, j_125, j_126, j_127, j_128, j_255, j_495, j_1000, j_1001, j_1023, j_1024, j_1100, j_1386, j_1452, j_9999, nN_1, nI_add, pk_mul, pk_sub, nI_clamp, vpI, nI_leI, nI_ltI, nI_eq, nN_eq, nN_eq', nN_lt, nN_nlt, nN_le, nN_nle, b_bit, n_bit, b_eq0, b_eq1, wO hw, wA1 hw, wA2 hw, wA3 hw, wL1 hw, wL2 hw, wL3 hw, wR5 hz hw, wR6 hz hw, wR7 hz hw, tO ht, tO1 ht, tA2 ht, tL2 ht, tA3 ht, tL3 ht, tA4 ht, tL4 ht, tA5 ht, tL5 ht, tA6 ht, tL6 ht, tA7 ht, tL7 ht, tA8 ht, tL8 ht, tA9 ht, tL9 ht, tR0 hz ht, tR1 hz ht, tR2 hz ht, tR3 hz ht, tR4 hz ht, tR5 hz ht, tR6 hz ht, tRl0 hz ht, tRl1 hz ht]
        exact ih2
theorem m_oldest (h : MW z 0 S W) (hP : P (oI (fOl W (sPA S)).1) z) : ∃ N, wX12_oldest_L11 148 gSH P N 129 nN nN (nI 0) z := by
  have hh := h
  obtain ⟨hz, hok, hwk, hT, hS, hW, hb⟩ := h
  have h6 := hok.1
  refine lp (fun m k => wX12_oldest_L11 148 gSH P m 129 (oI (fOl W k).1) (oI (fOl W k).2) (nI k) z) (sPA S) (fun m => ?_) (fun m k hk ih => ?_)
  · unfold wX12_oldest_L11 wX12_oldest_B11
    refine ⟨mO, m_panes hz hS ?_⟩
    rw [if_pos (nI_le (by omega) (by omega))]
    exact hP
  · unfold wX12_oldest_L11 wX12_oldest_B11
    refine ⟨mO, m_panes hz hS ?_⟩
    rw [if_neg (nI_ge hk (by omega))]
    have hl := ln_le hok hwk hk
    have e := hh.he hk
    rw [Nat.zero_add] at e
    refine lp (fun m2 i => wX12_oldest_L22 148 gSH (wX12_oldest_L11 148 gSH P m) P m2 129 (oI (fOg W k (fOl W k) i).1) (oI (fOg W k (fOl W k) i).2) (nI k) (nI i) z) (ln W k) (fun m2 => ?_) (fun m2 i hi ih2 => ?_)
    · unfold wX12_oldest_L22 wX12_oldest_B22
      simp (disch := omega) only [Option.some.injEq, exists_eq_left', exists_eq_left, forall_eq, true_and, and_true, gr_si, gl_si, gr_sl, gi_sl, gr_sA, gl_sA, j_0, j_1, j_2, j_3, j_4, j_5, j_6, j_7, j_8, j_9, j_10, j_11, j_12, j_13, j_14, j_15, j_16, j_18, j_19, j_20, j_21, j_22, j_23, j_24, j_28, j_30, j_33, j_40, j_48, j_60, j_66, j_96, j_97, j_99, j_100, j_122, j_125, j_126, j_127, j_128, j_255, j_495, j_1000, j_1001, j_1023, j_1024, j_1100, j_1386, j_1452, j_9999, nN_1, nI_add, pk_mul, pk_sub, nI_clamp, vpI, nI_leI, nI_ltI, nI_eq, nN_eq, nN_eq', nN_lt, nN_nlt, nN_le, nN_nle, b_bit, n_bit, b_eq0, b_eq1, mO, mR10 hz, mA135, mL135, mR24 hz, mA145, mL145, e, Nat.le_refl, if_true]
      exact ⟨by omega, ih⟩
    · unfold wX12_oldest_L22 wX12_oldest_B22
      simp (disch := omega) only [Option.some.injEq, exists_eq_left', exists_eq_left, forall_eq, true_and, and_true, gr_si, gl_si, gr_sl, gi_sl, gr_sA, gl_sA, j_0, j_1, j_2, j_3, j_4, j_5, j_6, j_7, j_8, j_9, j_10, j_11, j_12, j_13, j_14, j_15, j_16, j_18, j_19, j_20, j_21, j_22, j_23, j_24, j_28, j_30, j_33, j_40, j_48, j_60, j_66, j_96, j_97, j_99, j_100, j_122, j_125, j_126, j_127, j_128, j_255, j_495, j_1000, j_1001, j_1023, j_1024, j_1100, j_1386, j_1452, j_9999, nN_1, nI_add, pk_mul, pk_sub, nI_clamp, vpI, nI_leI, nI_ltI, nI_eq, nN_eq, nN_eq', nN_lt, nN_nlt, nN_le, nN_nle, b_bit, n_bit, b_eq0, b_eq1, mO, mR10 hz, mA135, mL135, mR24 hz, mA145, mL145, e, if_neg (show ¬ ln W k ≤ i by omega)]
      refine ⟨by omega, ?_⟩
      obtain ⟨hm, _, _⟩ := mk_ok hok hwk hT hk hi
      refine m_markOf hh hk hi (m_ageOf hm ?_)
      unfold wX12_oldest_J60 wX12_oldest_J73
      rw [fOg, stO] at ih2
      have ho := fOg_ok hok hwk hT hk (fOl_ok hok hwk hT k (by omega)) i (by omega)
      refine gtO_le ho hm.2.2.2 (fun q => ?_) (fun q => ?_)
      · rw [q, if_neg (by decide)] at ih2
        refine gtO_le ho hm.2.2.2 (fun _ => ?_) (fun q2 => ?_)
        · simp (disch := omega) only [Option.some.injEq, exists_eq_left', exists_eq_left, forall_eq, true_and, and_true, gr_si, gl_si, gr_sl, gi_sl, gr_sA, gl_sA, j_0, j_1, j_2, j_3, j_4, j_5, j_6, j_7, j_8, j_9, j_10, j_11, j_12, j_13, j_14, j_15, j_16, j_18, j_19, j_20, j_21, j_22, j_23, j_24, j_28, j_30, j_33, j_40, j_48, j_60, j_66, j_96, j_97, j_99, j_100, j_122, j_125, j_126, j_127, j_128, j_255, j_495, j_1000, j_1001, j_1023, j_1024, j_1100, j_1386, j_1452, j_9999, nN_1, nI_add, pk_mul, pk_sub, nI_clamp, vpI, nI_leI, nI_ltI, nI_eq, nN_eq, nN_eq', nN_lt, nN_nlt, nN_le, nN_nle, b_bit, n_bit, b_eq0, b_eq1, mO, mR10 hz, mA135, mL135, mR24 hz, mA145, mL145]
          exact ih2
        · rw [q] at q2
          cases q2
      · rw [q, if_pos rfl] at ih2
        refine gtO_le ho hm.2.2.2 (fun q2 => ?_) (fun _ => ?_)
        · rw [q] at q2
          cases q2
        · simp (disch := omega) only [Option.some.injEq, exists_eq_left', exists_eq_left, forall_eq, true_and, and_true, gr_si, gl_si, gr_sl, gi_sl, gr_sA, gl_sA, j_0, j_1, j_2, j_3, j_4, j_5, j_6, j_7, j_8, j_9, j_10, j_11, j_12, j_13, j_14, j_15, j_16, j_18, j_19, j_20, j_21, j_22, j_23, j_24, j_28, j_30, j_33, j_40, j_48, j_60, j_66, j_96, j_97, j_99, j_100, j_122, j_125, j_126, j_127, j_128, j_255, j_495, j_1000, j_1001, j_1023, j_1024, j_1100, j_1386, j_1452, j_9999, nN_1, nI_add, pk_mul, pk_sub, nI_clamp, vpI, nI_leI, nI_ltI, nI_eq, nN_eq, nN_eq', nN_lt, nN_nlt, nN_le, nN_nle, b_bit, n_bit, b_eq0, b_eq1, mO, mR10 hz, mA135, mL135, mR24 hz, mA145, mL145]
          exact ih2
theorem stL_ok {p : Nat} {s : Option Nat × Nat} {m : sM} (hs : okL s) (hm : mB m) : okL (stL S W p g s m) := by
  unfold stL
  split
  · exact ⟨hm.2.2.2, hm.2.2.1⟩
  · exact hs
theorem fLg_ok {p : Nat} (hok : sOK S) (hwk : wOK S W) (hT : wT W < 2 ^ 20) (hg : g < sPA S) : ∀ k s, k ≤ ln W g → okL s → okL (fLg S W p g k s)
  | 0, s => fun _ h => h
  | k + 1, s => fun hk h => fLg_ok hok hwk hT hg k _ (by omega) (stL_ok h (mk_ok hok hwk hT hg (i := k) (by omega)).1)
theorem fLa_ok {p : Nat} (hok : sOK S) (hwk : wOK S W) (hT : wT W < 2 ^ 20) : ∀ g, g ≤ sPA S → okL (fLa S W p g)
  | 0 => fun _ => ⟨by show 0 < 2 ^ 20; decide, trivial⟩
  | g + 1 => fun hg => fLg_ok hok hwk hT (by omega) _ _ (Nat.le_refl _) (fLa_ok hok hwk hT g (by omega))
theorem c_last (h : CW z t w S W) {p : Nat} (hp : p < 5) (hP : P (oI (fLa S W p (sPA S)).1) z) : wX3_newestCellOf 148 gSH t w (nI p) z P := by
  have hh := h
  obtain ⟨hz, ht, hw, hok, hwk, hT, hS, hW⟩ := h
  have h6 := hok.1
  refine lp (fun m k => wX3_newestCellOf_L8 148 gSH P m t w (nI p) (oI (fLa S W p k).1) (nI (fLa S W p k).2) (nI k) z) (sPA S) (fun m => ?_) (fun m k hk ih => ?_)
  · unfold wX3_newestCellOf_L8 wX3_newestCellOf_B8
    simp (disch := omega) only [Option.some.injEq, exists_eq_left', exists_eq_left, forall_eq, true_and, and_true, gr_si, gl_si, gr_sl, gi_sl, gr_sA, gl_sA, j_0, j_1, j_2, j_3, j_4, j_5, j_6, j_7, j_8, j_9, j_10, j_11, j_12, j_13, j_14, j_15, j_16, j_18, j_19, j_20, j_21, j_22, j_23, j_24, j_28, j_30, j_33, j_40, j_48, j_60, j_66, j_96, j_97, j_99, j_100, j_122, j_125, j_126, j_127, j_128, j_255, j_495, j_1000, j_1001, j_1023, j_1024, j_1100, j_1386, j_1452, j_9999, nN_1, nI_add, pk_mul, pk_sub, nI_clamp, vpI, nI_leI, nI_ltI, nI_eq, nN_eq, nN_eq', nN_lt, nN_nlt, nN_le, nN_nle, b_bit, n_bit, b_eq0, b_eq1, wO hw, wA1 hw, wA2 hw, wA3 hw, wL1 hw, wL2 hw, wL3 hw, wR5 hz hw, wR6 hz hw, wR7 hz hw, tO ht, tO1 ht, tA2 ht, tL2 ht, tA3 ht, tL3 ht, tA4 ht, tL4 ht, tA5 ht, tL5 ht, tA6 ht, tL6 ht, tA7 ht, tL7 ht, tA8 ht, tL8 ht, tA9 ht, tL9 ht, tR0 hz ht, tR1 hz ht, tR2 hz ht, tR3 hz ht, tR4 hz ht, tR5 hz ht, tR6 hz ht, tRl0 hz ht, tRl1 hz ht, hS.1, Nat.le_refl, if_true]
    exact hP
  · unfold wX3_newestCellOf_L8 wX3_newestCellOf_B8
    have hl := ln_le hok hwk hk
    have e := hh.he hk
    simp (disch := omega) only [Option.some.injEq, exists_eq_left', exists_eq_left, forall_eq, true_and, and_true, gr_si, gl_si, gr_sl, gi_sl, gr_sA, gl_sA, j_0, j_1, j_2, j_3, j_4, j_5, j_6, j_7, j_8, j_9, j_10, j_11, j_12, j_13, j_14, j_15, j_16, j_18, j_19, j_20, j_21, j_22, j_23, j_24, j_28, j_30, j_33, j_40, j_48, j_60, j_66, j_96, j_97, j_99, j_100, j_122, j_125, j_126, j_127, j_128, j_255, j_495, j_1000, j_1001, j_1023, j_1024, j_1100, j_1386, j_1452, j_9999, nN_1, nI_add, pk_mul, pk_sub, nI_clamp, vpI, nI_leI, nI_ltI, nI_eq, nN_eq, nN_eq', nN_lt, nN_nlt, nN_le, nN_nle, b_bit, n_bit, b_eq0, b_eq1, wO hw, wA1 hw, wA2 hw, wA3 hw, wL1 hw, wL2 hw, wL3 hw, wR5 hz hw, wR6 hz hw, wR7 hz hw, tO ht, tO1 ht, tA2 ht, tL2 ht, tA3 ht, tL3 ht, tA4 ht, tL4 ht, tA5 ht, tL5 ht, tA6 ht, tL6 ht, tA7 ht, tL7 ht, tA8 ht, tL8 ht, tA9 ht, tL9 ht, tR0 hz ht, tR1 hz ht, tR2 hz ht, tR3 hz ht, tR4 hz ht, tR5 hz ht, tR6 hz ht, tRl0 hz ht, tRl1 hz ht, hS.1, if_neg (show ¬ sPA S ≤ k by omega), e, pI_e]
    refine ⟨by omega, ?_⟩
    refine (lpd (fun m2 i => ∀ s, okL s → fLg S W p k i s = fLa S W p (k + 1) → wX3_newestCellOf_L28 148 gSH (wX3_newestCellOf_L8 148 gSH P m) P m2 t w (nI p) (oI s.1) (nI s.2) (nI k) (pI i) z) (ln W k) (fun m2 s hs e2 => ?_) (fun m2 i hi ih2 s hs e2 => ?_)).imp (fun N q => q _ (fLa_ok hok hwk hT k (by omega)) rfl)
    · unfold wX3_newestCellOf_L28 wX3_newestCellOf_B28
      rw [fLg] at e2
      simp (disch := omega) only [Option.some.injEq, exists_eq_left', exists_eq_left, forall_eq, true_and, and_true, gr_si, gl_si, gr_sl, gi_sl, gr_sA, gl_sA, j_0, j_1, j_2, j_3, j_4, j_5, j_6, j_7, j_8, j_9, j_10, j_11, j_12, j_13, j_14, j_15, j_16, j_18, j_19, j_20, j_21, j_22, j_23, j_24, j_28, j_30, j_33, j_40, j_48, j_60, j_66, j_96, j_97, j_99, j_100, j_122, j_125, j_126, j_127, j_128, j_255, j_495, j_1000, j_1001, j_1023, j_1024, j_1100, j_1386, j_1452, j_9999, nN_1, nI_add, pk_mul, pk_sub, nI_clamp, vpI, nI_leI, nI_ltI, nI_eq, nN_eq, nN_eq', nN_lt, nN_nlt, nN_le, nN_nle, b_bit, n_bit, b_eq0, b_eq1, wO hw, wA1 hw, wA2 hw, wA3 hw, wL1 hw, wL2 hw, wL3 hw, wR5 hz hw, wR6 hz hw, wR7 hz hw, tO ht, tO1 ht, tA2 ht, tL2 ht, tA3 ht, tL3 ht, tA4 ht, tL4 ht, tA5 ht, tL5 ht, tA6 ht, tL6 ht, tA7 ht, tL7 ht, tA8 ht, tL8 ht, tA9 ht, tL9 ht, tR0 hz ht, tR1 hz ht, tR2 hz ht, tR3 hz ht, tR4 hz ht, tR5 hz ht, tR6 hz ht, tRl0 hz ht, tRl1 hz ht, pI_0, if_true]
      rw [e2]
      exact ih
    · unfold wX3_newestCellOf_L28 wX3_newestCellOf_B28
      obtain ⟨hm, _, _⟩ := mk_ok hok hwk hT hk hi
      have ih3 := ih2 _ (stL_ok (S := S) (W := W) (p := p) (g := k) hs hm) e2
      have hs2 := hs.1
      have hm4 := hm.2.2.2
      simp (disch := omega) only [Option.some.injEq, exists_eq_left', exists_eq_left, forall_eq, true_and, and_true, gr_si, gl_si, gr_sl, gi_sl, gr_sA, gl_sA, j_0, j_1, j_2, j_3, j_4, j_5, j_6, j_7, j_8, j_9, j_10, j_11, j_12, j_13, j_14, j_15, j_16, j_18, j_19, j_20, j_21, j_22, j_23, j_24, j_28, j_30, j_33, j_40, j_48, j_60, j_66, j_96, j_97, j_99, j_100, j_122, j_125, j_126, j_127, j_128, j_255, j_495, j_1000, j_1001, j_1023, j_1024, j_1100, j_1386, j_1452, j_9999, nN_1, nI_add, pk_mul, pk_sub, nI_clamp, vpI, nI_leI, nI_ltI, nI_eq, nN_eq, nN_eq', nN_lt, nN_nlt, nN_le, nN_nle, b_bit, n_bit, b_eq0, b_eq1, wO hw, wA1 hw, wA2 hw, wA3 hw, wL1 hw, wL2 hw, wL3 hw, wR5 hz hw, wR6 hz hw, wR7 hz hw, tO ht, tO1 ht, tA2 ht, tL2 ht, tA3 ht, tL3 ht, tA4 ht, tL4 ht, tA5 ht, tL5 ht, tA6 ht, tL6 ht, tA7 ht, tL7 ht, tA8 ht, tL8 ht, tA9 ht, tL9 ht, tR0 hz ht, tR1 hz ht, tR2 hz ht, tR3 hz ht, tR4 hz ht, tR5 hz ht, tR6 hz ht, tRl0 hz ht, tRl1 hz ht, pI_s, Nat.not_lt_zero, if_false]
      refine c_markAt hh hk hi ?_
      have hY : (s.1 = none ∨ (mk W k i).2.2.2 < s.2) → wX3_newestCellOf_J58 148 gSH (wX3_newestCellOf_L8 148 gSH P m) (wX3_newestCellOf_L28 148 gSH (wX3_newestCellOf_L8 148 gSH P m) P m2) P t w (nI p) (oI s.1) (nI s.2) (nI k) (nI i) (nI (mkC (mk W k i))) z := by
        intro hc
        unfold wX3_newestCellOf_J58 wX3_newestCellOf_J63 wX3_newestCellOf_J96
        simp (disch := omega) only [Option.some.injEq, exists_eq_left', exists_eq_left, forall_eq, true_and, and_true, gr_si, gl_si, gr_sl, gi_sl, gr_sA, gl_sA, j_0, j_1, j_2, j_3, j_4, j_5, j_6, j_7, j_8, j_9, j_10, j_11, j_12, j_13, j_14, j_15, j_16, j_18, j_19, j_20, j_21, j_22, j_23, j_24, j_28, j_30, j_33, j_40, j_48, j_60, j_66, j_96, j_97, j_99, j_100, j_122, j_125, j_126, j_127, j_128, j_255, j_495, j_1000, j_1001, j_1023, j_1024, j_1100, j_1386, j_1452, j_9999, nN_1, nI_add, pk_mul, pk_sub, nI_clamp, vpI, nI_leI, nI_ltI, nI_eq, nN_eq, nN_eq', nN_lt, nN_nlt, nN_le, nN_nle, b_bit, n_bit, b_eq0, b_eq1, wO hw, wA1 hw, wA2 hw, wA3 hw, wL1 hw, wL2 hw, wL3 hw, wR5 hz hw, wR6 hz hw, wR7 hz hw, tO ht, tO1 ht, tA2 ht, tL2 ht, tA3 ht, tL3 ht, tA4 ht, tL4 ht, tA5 ht, tL5 ht, tA6 ht, tL6 ht, tA7 ht, tL7 ht, tA8 ht, tL8 ht, tA9 ht, tL9 ht, tR0 hz ht, tR1 hz ht, tR2 hz ht, tR3 hz ht, tR4 hz ht, tR5 hz ht, tR6 hz ht, tRl0 hz ht, tRl1 hz ht, Nat.one_ne_zero, if_false, pI_a]
        refine c_isShownOf hh hp hk hi (ifb0 (fun hq => ?_) (fun hq => c_cellOf hm (c_ageOf hm ?_)))
        · rw [stL, if_neg (by rw [hq]; simp)] at ih3
          exact ih3
        · rw [stL, if_pos ⟨hq, hc⟩] at ih3
          exact ih3
      have hN : ¬ (s.1 = none ∨ (mk W k i).2.2.2 < s.2) → wX3_newestCellOf_J63 148 gSH (wX3_newestCellOf_L8 148 gSH P m) (wX3_newestCellOf_L28 148 gSH (wX3_newestCellOf_L8 148 gSH P m) P m2) P t w (nI p) (oI s.1) (nI s.2) (nI k) (nI i) (nI (mkC (mk W k i))) (nI 0) z := by
        intro hc
        unfold wX3_newestCellOf_J63 wX3_newestCellOf_J96
        simp (disch := omega) only [Option.some.injEq, exists_eq_left', exists_eq_left, forall_eq, true_and, and_true, gr_si, gl_si, gr_sl, gi_sl, gr_sA, gl_sA, j_0, j_1, j_2, j_3, j_4, j_5, j_6, j_7, j_8, j_9, j_10, j_11, j_12, j_13, j_14, j_15, j_16, j_18, j_19, j_20, j_21, j_22, j_23, j_24, j_28, j_30, j_33, j_40, j_48, j_60, j_66, j_96, j_97, j_99, j_100, j_122, j_125, j_126, j_127, j_128, j_255, j_495, j_1000, j_1001, j_1023, j_1024, j_1100, j_1386, j_1452, j_9999, nN_1, nI_add, pk_mul, pk_sub, nI_clamp, vpI, nI_leI, nI_ltI, nI_eq, nN_eq, nN_eq', nN_lt, nN_nlt, nN_le, nN_nle, b_bit, n_bit, b_eq0, b_eq1, wO hw, wA1 hw, wA2 hw, wA3 hw, wL1 hw, wL2 hw, wL3 hw, wR5 hz hw, wR6 hz hw, wR7 hz hw, tO ht, tO1 ht, tA2 ht, tL2 ht, tA3 ht, tL3 ht, tA4 ht, tL4 ht, tA5 ht, tL5 ht, tA6 ht, tL6 ht, tA7 ht, tL7 ht, tA8 ht, tL8 ht, tA9 ht, tL9 ht, tR0 hz ht, tR1 hz ht, tR2 hz ht, tR3 hz ht, tR4 hz ht, tR5 hz ht, tR6 hz ht, tRl0 hz ht, tRl1 hz ht, if_true, pI_a]
        rw [stL, if_neg (fun q => hc q.2)] at ih3
        exact ih3
      cases h1 : s.1 with
      | none =>
        rw [if_pos (show oI none = nN from rfl)]
        rw [h1] at hY
        exact hY (Or.inl rfl)
      | some v =>
        have hv : v < 10 := by have := hs.2; rw [h1] at this; exact this
        rw [if_neg (show ¬ oI (some v) = nN by rw [oI, nN_eq' (by omega)]; exact id)]
        refine c_ageOf hm ?_
        rw [h1] at hY hN
        simp (disch := omega) only [Option.some.injEq, exists_eq_left', exists_eq_left, forall_eq, true_and, and_true, gr_si, gl_si, gr_sl, gi_sl, gr_sA, gl_sA, j_0, j_1, j_2, j_3, j_4, j_5, j_6, j_7, j_8, j_9, j_10, j_11, j_12, j_13, j_14, j_15, j_16, j_18, j_19, j_20, j_21, j_22, j_23, j_24, j_28, j_30, j_33, j_40, j_48, j_60, j_66, j_96, j_97, j_99, j_100, j_122, j_125, j_126, j_127, j_128, j_255, j_495, j_1000, j_1001, j_1023, j_1024, j_1100, j_1386, j_1452, j_9999, nN_1, nI_add, pk_mul, pk_sub, nI_clamp, vpI, nI_leI, nI_ltI, nI_eq, nN_eq, nN_eq', nN_lt, nN_nlt, nN_le, nN_nle, b_bit, n_bit, b_eq0, b_eq1, wO hw, wA1 hw, wA2 hw, wA3 hw, wL1 hw, wL2 hw, wL3 hw, wR5 hz hw, wR6 hz hw, wR7 hz hw, tO ht, tO1 ht, tA2 ht, tL2 ht, tA3 ht, tL3 ht, tA4 ht, tL4 ht, tA5 ht, tL5 ht, tA6 ht, tL6 ht, tA7 ht, tL7 ht, tA8 ht, tL8 ht, tA9 ht, tL9 ht, tR0 hz ht, tR1 hz ht, tR2 hz ht, tR3 hz ht, tR4 hz ht, tR5 hz ht, tR6 hz ht, tRl0 hz ht, tRl1 hz ht]
        by_cases hx : s.2 ≤ (mk W k i).2.2.2
        · rw [if_pos hx]
          exact hN (fun q => by rcases q with q | q; cases q; omega)
        · rw [if_neg hx]
          exact hY (Or.inr (by omega))
theorem m_last (h : MW z 0 S W) {p : Nat} (hp : p < sPE S) (hP : P (oI (fLa S W p (sPA S)).1) z) : ∃ N, wX12_last_L12 148 gSH P N 129 (nI p) nN (nI 0) (nI 0) z := by
  have hh := h
  obtain ⟨hz, hok, hwk, hT, hS, hW, hb⟩ := h
  have h6 := hok.1
  have h5 := hok.2.1
  refine lp (fun m k => wX12_last_L12 148 gSH P m 129 (nI p) (oI (fLa S W p k).1) (nI (fLa S W p k).2) (nI k) z) (sPA S) (fun m => ?_) (fun m k hk ih => ?_)
  · unfold wX12_last_L12 wX12_last_B12
    refine ⟨mO, m_panes hz hS ?_⟩
    rw [if_pos (nI_le (by omega) (by omega))]
    exact hP
  · unfold wX12_last_L12 wX12_last_B12
    refine ⟨mO, m_panes hz hS ?_⟩
    rw [if_neg (nI_ge hk (by omega))]
    refine m_isPerson_yes hz hS hok hp ?_
    have hl := ln_le hok hwk hk
    have e := hh.he hk
    rw [Nat.zero_add] at e
    simp (disch := omega) only [Option.some.injEq, exists_eq_left', exists_eq_left, forall_eq, true_and, and_true, gr_si, gl_si, gr_sl, gi_sl, gr_sA, gl_sA, j_0, j_1, j_2, j_3, j_4, j_5, j_6, j_7, j_8, j_9, j_10, j_11, j_12, j_13, j_14, j_15, j_16, j_18, j_19, j_20, j_21, j_22, j_23, j_24, j_28, j_30, j_33, j_40, j_48, j_60, j_66, j_96, j_97, j_99, j_100, j_122, j_125, j_126, j_127, j_128, j_255, j_495, j_1000, j_1001, j_1023, j_1024, j_1100, j_1386, j_1452, j_9999, nN_1, nI_add, pk_mul, pk_sub, nI_clamp, vpI, nI_leI, nI_ltI, nI_eq, nN_eq, nN_eq', nN_lt, nN_nlt, nN_le, nN_nle, b_bit, n_bit, b_eq0, b_eq1, mO, mR10 hz, mA135, mL135, mR24 hz, mA145, mL145, Nat.one_ne_zero, if_false, e, pI_e]
    refine ⟨by omega, ?_⟩
    refine (lpd (fun m2 i => i ≤ ln W k → ∀ s, okL s → fLg S W p k i s = fLa S W p (k + 1) → wX12_last_L43 148 gSH (wX12_last_L12 148 gSH P m) P m2 129 (nI p) (oI s.1) (nI s.2) (nI k) (pI i) z) (ln W k) (fun m2 _ s hs e2 => ?_) (fun m2 i hi ih2 _ s hs e2 => ?_)).imp (fun N q => q (Nat.le_refl _) _ (fLa_ok hok hwk hT k (by omega)) rfl)
    · unfold wX12_last_L43 wX12_last_B43 wX12_last_J138
      rw [fLg] at e2
      simp (disch := omega) only [Option.some.injEq, exists_eq_left', exists_eq_left, forall_eq, true_and, and_true, gr_si, gl_si, gr_sl, gi_sl, gr_sA, gl_sA, j_0, j_1, j_2, j_3, j_4, j_5, j_6, j_7, j_8, j_9, j_10, j_11, j_12, j_13, j_14, j_15, j_16, j_18, j_19, j_20, j_21, j_22, j_23, j_24, j_28, j_30, j_33, j_40, j_48, j_60, j_66, j_96, j_97, j_99, j_100, j_122, j_125, j_126, j_127, j_128, j_255, j_495, j_1000, j_1001, j_1023, j_1024, j_1100, j_1386, j_1452, j_9999, nN_1, nI_add, pk_mul, pk_sub, nI_clamp, vpI, nI_leI, nI_ltI, nI_eq, nN_eq, nN_eq', nN_lt, nN_nlt, nN_le, nN_nle, b_bit, n_bit, b_eq0, b_eq1, mO, mR10 hz, mA135, mL135, mR24 hz, mA145, mL145, pI_0, if_true]
      rw [e2]
      exact ih
    · unfold wX12_last_L43 wX12_last_B43
      obtain ⟨hm, _, _⟩ := mk_ok hok hwk hT hk hi
      have ih3 := ih2 (by omega) _ (stL_ok (S := S) (W := W) (p := p) (g := k) hs hm) e2
      have hs2 := hs.1
      have hm4 := hm.2.2.2
      have hw8 := hm.1
      simp (disch := omega) only [Option.some.injEq, exists_eq_left', exists_eq_left, forall_eq, true_and, and_true, gr_si, gl_si, gr_sl, gi_sl, gr_sA, gl_sA, j_0, j_1, j_2, j_3, j_4, j_5, j_6, j_7, j_8, j_9, j_10, j_11, j_12, j_13, j_14, j_15, j_16, j_18, j_19, j_20, j_21, j_22, j_23, j_24, j_28, j_30, j_33, j_40, j_48, j_60, j_66, j_96, j_97, j_99, j_100, j_122, j_125, j_126, j_127, j_128, j_255, j_495, j_1000, j_1001, j_1023, j_1024, j_1100, j_1386, j_1452, j_9999, nN_1, nI_add, pk_mul, pk_sub, nI_clamp, vpI, nI_leI, nI_ltI, nI_eq, nN_eq, nN_eq', nN_lt, nN_nlt, nN_le, nN_nle, b_bit, n_bit, b_eq0, b_eq1, mO, mR10 hz, mA135, mL135, mR24 hz, mA145, mL145, pI_s, Nat.not_lt_zero, if_false]
      refine m_isShown hh hk (ifb0 (fun ho => ?_) (fun ho => ?_))
      · have q1 : ∀ n s, fLg S W p k n s = s := by
          intro n
          induction n with
          | zero => intro s; rfl
          | succ n ihn =>
            intro s
            rw [fLg, ihn, stL, if_neg (by simp [qP, ho])]
        rw [q1] at e2
        unfold wX12_last_J138
        simp (disch := omega) only [Option.some.injEq, exists_eq_left', exists_eq_left, forall_eq, true_and, and_true, gr_si, gl_si, gr_sl, gi_sl, gr_sA, gl_sA, j_0, j_1, j_2, j_3, j_4, j_5, j_6, j_7, j_8, j_9, j_10, j_11, j_12, j_13, j_14, j_15, j_16, j_18, j_19, j_20, j_21, j_22, j_23, j_24, j_28, j_30, j_33, j_40, j_48, j_60, j_66, j_96, j_97, j_99, j_100, j_122, j_125, j_126, j_127, j_128, j_255, j_495, j_1000, j_1001, j_1023, j_1024, j_1100, j_1386, j_1452, j_9999, nN_1, nI_add, pk_mul, pk_sub, nI_clamp, vpI, nI_leI, nI_ltI, nI_eq, nN_eq, nN_eq', nN_lt, nN_nlt, nN_le, nN_nle, b_bit, n_bit, b_eq0, b_eq1, mO, mR10 hz, mA135, mL135, mR24 hz, mA145, mL145]
        rw [e2]
        exact ih
      · refine m_markOf hh hk hi (m_shownOf hh hk hm ?_)
        have hY : qP S W p k (mk W k i) = true → (s.1 = none ∨ (mk W k i).2.2.2 < s.2) → wX12_last_J95 148 gSH (wX12_last_L12 148 gSH P m) (wX12_last_L43 148 gSH (wX12_last_L12 148 gSH P m) P m2) P 129 (nI p) (oI s.1) (nI s.2) (nI k) (nI i) (nI (mkM (mk W k i))) z := by
          intro hq hc
          unfold wX12_last_J95 wX12_last_J100 wX12_last_J116 wX12_last_J131
          simp (disch := omega) only [Option.some.injEq, exists_eq_left', exists_eq_left, forall_eq, true_and, and_true, gr_si, gl_si, gr_sl, gi_sl, gr_sA, gl_sA, j_0, j_1, j_2, j_3, j_4, j_5, j_6, j_7, j_8, j_9, j_10, j_11, j_12, j_13, j_14, j_15, j_16, j_18, j_19, j_20, j_21, j_22, j_23, j_24, j_28, j_30, j_33, j_40, j_48, j_60, j_66, j_96, j_97, j_99, j_100, j_122, j_125, j_126, j_127, j_128, j_255, j_495, j_1000, j_1001, j_1023, j_1024, j_1100, j_1386, j_1452, j_9999, nN_1, nI_add, pk_mul, pk_sub, nI_clamp, vpI, nI_leI, nI_ltI, nI_eq, nN_eq, nN_eq', nN_lt, nN_nlt, nN_le, nN_nle, b_bit, n_bit, b_eq0, b_eq1, mO, mR10 hz, mA135, mL135, mR24 hz, mA145, mL145, Nat.one_ne_zero, if_false, pI_a]
          refine m_cellOf hm (m_ageOf hm ?_)
          rw [stL, if_pos ⟨hq, hc⟩] at ih3
          exact ih3
        have hN : ¬ (qP S W p k (mk W k i) = true ∧ (s.1 = none ∨ (mk W k i).2.2.2 < s.2)) → wX12_last_J99 148 gSH (wX12_last_L12 148 gSH P m) (wX12_last_L43 148 gSH (wX12_last_L12 148 gSH P m) P m2) P 129 (nI p) (oI s.1) (nI s.2) (nI k) (nI i) (nI (mkM (mk W k i))) z := by
          intro hc
          unfold wX12_last_J99 wX12_last_J100 wX12_last_J116 wX12_last_J131
          simp (disch := omega) only [Option.some.injEq, exists_eq_left', exists_eq_left, forall_eq, true_and, and_true, gr_si, gl_si, gr_sl, gi_sl, gr_sA, gl_sA, j_0, j_1, j_2, j_3, j_4, j_5, j_6, j_7, j_8, j_9, j_10, j_11, j_12, j_13, j_14, j_15, j_16, j_18, j_19, j_20, j_21, j_22, j_23, j_24, j_28, j_30, j_33, j_40, j_48, j_60, j_66, j_96, j_97, j_99, j_100, j_122, j_125, j_126, j_127, j_128, j_255, j_495, j_1000, j_1001, j_1023, j_1024, j_1100, j_1386, j_1452, j_9999, nN_1, nI_add, pk_mul, pk_sub, nI_clamp, vpI, nI_leI, nI_ltI, nI_eq, nN_eq, nN_eq', nN_lt, nN_nlt, nN_le, nN_nle, b_bit, n_bit, b_eq0, b_eq1, mO, mR10 hz, mA135, mL135, mR24 hz, mA145, mL145, if_true, pI_a]
          rw [stL, if_neg hc] at ih3
          exact ih3
        by_cases hq : qP S W p k (mk W k i) = true
        · have hq2 : tel S W k = true ∧ (mk W k i).1 = p := by simpa [qP, ho] using hq
          simp only [hq2.1, hq2.2, if_true]
          cases h1 : s.1 with
          | none =>
            rw [if_pos (show oI none < nI 0 by decide)]
            rw [h1] at hY
            exact hY hq (Or.inl rfl)
          | some v =>
            have hv : v < 10 := by have := hs.2; rw [h1] at this; exact this
            rw [if_neg (show ¬ oI (some v) < nI 0 from nI_pos (by omega))]
            refine m_ageOf hm ?_
            rw [h1] at hY hN
            simp (disch := omega) only [Option.some.injEq, exists_eq_left', exists_eq_left, forall_eq, true_and, and_true, gr_si, gl_si, gr_sl, gi_sl, gr_sA, gl_sA, j_0, j_1, j_2, j_3, j_4, j_5, j_6, j_7, j_8, j_9, j_10, j_11, j_12, j_13, j_14, j_15, j_16, j_18, j_19, j_20, j_21, j_22, j_23, j_24, j_28, j_30, j_33, j_40, j_48, j_60, j_66, j_96, j_97, j_99, j_100, j_122, j_125, j_126, j_127, j_128, j_255, j_495, j_1000, j_1001, j_1023, j_1024, j_1100, j_1386, j_1452, j_9999, nN_1, nI_add, pk_mul, pk_sub, nI_clamp, vpI, nI_leI, nI_ltI, nI_eq, nN_eq, nN_eq', nN_lt, nN_nlt, nN_le, nN_nle, b_bit, n_bit, b_eq0, b_eq1, mO, mR10 hz, mA135, mL135, mR24 hz, mA145, mL145]
            by_cases hx : s.2 ≤ (mk W k i).2.2.2
            · rw [if_pos hx]
              exact hN (fun q => by rcases q.2 with q | q; cases q; omega)
            · rw [if_neg hx]
              exact hY hq (Or.inr (by omega))
        · have hne : ¬ (if tel S W k = true then nI (mk W k i).1 else nN) = nI p := by
            by_cases ht : tel S W k = true
            · rw [if_pos ht, nI_eq (by omega) (by omega)]
              intro hw
              exact hq (by simp [qP, ho, ht, hw])
            · rw [if_neg ht, nN_eq (by omega)]
              exact id
          rw [if_neg hne]
          exact hN (fun q => hq q.1)
end RC
