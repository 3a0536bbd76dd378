/-! ===== washes, twin ===== -/
theorem pcs_bs (f : Nat → Bool) (n : Nat) : ∀ k, pcs k (bs n f) = cB k (fun j => decide (j < n) && f j)
  | 0 => rfl
  | k + 1 => by simp only [pcs, cB, pcs_bs f n k, bs_tb]
theorem cB_congr {f g : Nat → Bool} {n : Nat} (h : ∀ j, j < n → f j = g j) : cB n f = cB n g := by
  induction n with
  | zero => rfl
  | succ n ih =>
    simp only [cB]
    rw [ih (fun j hj => h j (by omega)), h n (by omega)]
theorem cB_F (n : Nat) : cB n (fun _ => false) = 0 := by
  induction n with
  | zero => rfl
  | succ n ih => simp [cB, ih]
theorem cB_ext {f : Nat → Bool} {n : Nat} : ∀ m, n ≤ m → (∀ j, n ≤ j → j < m → f j = false) → cB m f = cB n f
  | 0 => fun h _ => by rw [show n = 0 by omega]
  | m + 1 => fun h q => by
    by_cases e : n = m + 1
    · rw [e]
    · have := cB_ext m (by omega) (fun j a b => q j a (by omega))
      simp only [cB, this, q m (by omega) (by omega), Bool.toNat_false, Nat.add_zero]
/-- one more in the set -/
theorem cB_set {f h : Nat → Bool} {j : Nat} (hf : f j = false) : ∀ n, j < n → cB n (fun i => (f i || decide (i = j)) && h i) = cB n (fun i => f i && h i) + (h j).toNat
  | 0 => fun q => by omega
  | n + 1 => fun q => by
    by_cases e : j = n
    · subst e
      simp only [cB, hf, decide_true, Bool.or_true, Bool.true_and, Bool.false_and, Bool.toNat_false, Nat.add_zero]
      congr 1
      exact cB_congr (fun i hi => by simp [show ¬ i = j by omega])
    · have := cB_set (f := f) (h := h) hf n (by omega)
      simp only [cB, this, show ¬ n = j from fun x => e x.symm, decide_false, Bool.or_false]
      omega
theorem cB_mono {f g : Nat → Bool} : ∀ n, (∀ j, j < n → f j = true → g j = true) → cB n f ≤ cB n g
  | 0 => fun _ => Nat.le_refl 0
  | n + 1 => fun h => by
    have := cB_mono n (fun j hj => h j (by omega))
    have h2 := h n (by omega)
    simp only [cB]
    cases hf : f n <;> cases hg : g n <;> simp_all <;> omega
theorem cB_lt {f g : Nat → Bool} : ∀ n, (∀ j, j < n → f j = true → g j = true) → (∃ j, j < n ∧ f j = false ∧ g j = true) → cB n f < cB n g
  | 0 => fun _ h => by obtain ⟨j, hj, _⟩ := h; omega
  | n + 1 => fun h h' => by
    obtain ⟨j, hj, hf, hg⟩ := h'
    have hm := cB_mono n (fun j hj => h j (by omega))
    have h2 := h n (by omega)
    simp only [cB]
    by_cases e : j = n
    · subst e
      simp [hf, hg]
      omega
    · have := cB_lt n (fun j hj => h j (by omega)) ⟨j, by omega, hf, hg⟩
      cases hf : f n <;> cases hg : g n <;> simp_all <;> omega
/-- how often x stands among the first n -/
def ct (a : Nat → Nat) (n x : Nat) : Nat := cB n (fun j => decide (a j = x))
def tR (a : Nat → Nat) (cb : Nat → Nat) : Nat → Nat
  | 0 => 0
  | i + 1 => tR a cb i + (decide (ct a i (a i) < cb (a i))).toNat
def tF (a : Nat → Nat) (j : Nat) : Bool := decide (ct a j (a j) = 0)
theorem tF_ct (a : Nat → Nat) (x : Nat) : ∀ n, cB n (fun j => tF a j && decide (a j = x)) = if ct a n x = 0 then 0 else 1
  | 0 => rfl
  | n + 1 => by
    have h := tF_ct a x n
    simp only [cB, h, ct] at h ⊢
    by_cases e : a n = x
    · simp only [e, tF, ct, decide_true, Bool.and_true, Bool.toNat_true]
      by_cases e2 : cB n (fun j => decide (a j = x)) = 0
      · simp [e2]
      · simp [e2]
    · simp only [e, decide_false, Bool.and_false, Bool.toNat_false, Nat.add_zero]
      by_cases e2 : cB n (fun j => decide (a j = x)) = 0 <;> simp [e2]
def tS (a : Nat → Nat) (cb : Nat → Nat) (n : Nat) : Nat → Nat
  | 0 => 0
  | j + 1 => tS a cb n j + (if tF a j = true then (if ct a n (a j) < cb (a j) then ct a n (a j) else cb (a j)) else 0)
theorem tS_step (a cb : Nat → Nat) (n : Nat) : ∀ j, j ≤ n → tS a cb (n + 1) j = tS a cb n j + (if ct a n (a n) < cb (a n) then cB j (fun i => tF a i && decide (a i = a n)) else 0)
  | 0 => fun _ => by simp [tS, cB]
  | j + 1 => fun hj => by
    have h := tS_step a cb n j (by omega)
    simp only [tS, h, cB]
    by_cases e : a j = a n
    · have e2 : ct a (n + 1) (a j) = ct a n (a n) + 1 := by simp [ct, cB, e]
      rw [e2, e]
      by_cases hf : tF a j = true
      · simp only [hf, decide_true, Bool.and_true, Bool.toNat_true, if_true]
        split <;> split <;> omega
      · have hf2 : tF a j = false := by simpa using hf
        simp only [hf2, Bool.false_and, Bool.toNat_false, Nat.add_zero, Bool.false_eq_true, if_false]
    · have e2 : ct a (n + 1) (a j) = ct a n (a j) := by
        have e' : ¬ a n = a j := fun x => e x.symm
        simp [ct, cB, e']
      rw [e2]
      simp only [e, decide_false, Bool.and_false, Bool.toNat_false, Nat.add_zero]
      omega
theorem tS_tR (a cb : Nat → Nat) : ∀ n, tS a cb n n = tR a cb n
  | 0 => rfl
  | n + 1 => by
    have h := tS_tR a cb n
    simp only [tS, tR]
    rw [tS_step a cb n n (Nat.le_refl _), h, tF_ct]
    have e2 : ct a (n + 1) (a n) = ct a n (a n) + 1 := by simp [ct, cB]
    rw [e2]
    by_cases e : ct a n (a n) = 0
    · have hf : tF a n = true := by simp [tF, e]
      simp only [hf, if_true, e]
      by_cases h1 : 0 < cb (a n)
      · simp [h1]
        intro q
        omega
      · simp [h1]
        split <;> omega
    · have hf : tF a n = false := by simp [tF, e]
      simp only [hf, e]
      by_cases h1 : ct a n (a n) < cb (a n) <;> simp [h1]
def kC (m : sM) : Nat := m.1 * 128 + m.2.1 * 16 + m.2.2.1
def ky (W : sW) (g j : Nat) : Nat := kC (mk W g j)
def aTw (W : sW) (g h : Nat) : Nat := tR (ky W g) (ct (ky W h) (ln W h)) (ln W g)
theorem kM_eq {m n : sM} (hm : mB m) (hn : mB n) : (m.2.2.1 * 64 + m.2.1 * 8 + m.1 = n.2.2.1 * 64 + n.2.1 * 8 + n.1) = (kC m = kC n) := by
  obtain ⟨a1, a2, a3, a4⟩ := hm
  obtain ⟨b1, b2, b3, b4⟩ := hn
  unfold kC
  apply propext
  constructor <;> intro h <;> omega
theorem ct_le (a : Nat → Nat) (n x : Nat) : ct a n x ≤ n := cB_le _ _
section RC
variable {z : gS} {w t g b i : Nat} {S : sS} {W : sW} {P : Int32 → gS → Prop}
theorem c_washes (h : CW z t w S W) {p d : Nat} (hp : p < 5) (hd : d < 5) (hP : P (nI (sN (sPA S) (wsN W p d))) z) : wX3_rinsesNeeded 148 gSH t w (nI p) (nI d) z P := by
  have hh := h
  obtain ⟨hz, ht, hw, hok, hwk, hT, hS, hW⟩ := h
  have h6 := hok.1
  refine lp (fun m k => wX3_rinsesNeeded_L6 148 gSH P m t w (nI p) (nI d) (nI (sN k (wsN W p d))) (nI k) z) (sPA S) (fun m => ?_) (fun m k hk ih => ?_)
  · unfold wX3_rinsesNeeded_L6 wX3_rinsesNeeded_B6
    simp (disch := omega) only [Option.some.injEq, exists_eq_left', exists_eq_left, forall_eq, true_and, and_true, gr_si, gl_si, gr_sl, gi_sl, gr_sA, gl_sA, j_0, j_1, j_2, j_3, j_4, j_5, j_6, j_7, j_8, j_9, j_10, j_11, j_12, j_13, j_14, j_15, j_16, j_18, j_19, j_20, j_21, j_22, j_23, j_24, j_28, j_30, j_33, j_40, j_48, j_60, j_66, j_96, j_97, j_99, j_100, j_122, j_125, j_126, j_127, j_128, j_255, j_495, j_1000, j_1001, j_1023, j_1024, j_1100, j_1386, j_1452, j_9999, nN_1, nI_add, pk_mul, pk_sub, nI_clamp, vpI, nI_leI, nI_ltI, nI_eq, nN_eq, nN_eq', nN_lt, nN_nlt, nN_le, nN_nle, b_bit, n_bit, b_eq0, b_eq1, wO hw, wA1 hw, wA2 hw, wA3 hw, wL1 hw, wL2 hw, wL3 hw, wR5 hz hw, wR6 hz hw, wR7 hz hw, tO ht, tO1 ht, tA2 ht, tL2 ht, tA3 ht, tL3 ht, tA4 ht, tL4 ht, tA5 ht, tL5 ht, tA6 ht, tL6 ht, tA7 ht, tL7 ht, tA8 ht, tL8 ht, tA9 ht, tL9 ht, tR0 hz ht, tR1 hz ht, tR2 hz ht, tR3 hz ht, tR4 hz ht, tR5 hz ht, tR6 hz ht, tRl0 hz ht, tRl1 hz ht, hS.1, Nat.le_refl, if_true]
    exact hP
  · unfold wX3_rinsesNeeded_L6 wX3_rinsesNeeded_B6
    have hl := ln_le hok hwk hk
    have e := hh.he hk
    rw [sN] at ih
    have hJ : ∀ l : Nat, (l = ln W k ∧ wG W k = false ∨ l = 0 ∧ wG W k = true) → wX3_rinsesNeeded_J35 148 gSH (wX3_rinsesNeeded_L6 148 gSH P m) P t w (nI p) (nI d) (nI (sN k (wsN W p d))) (nI k) (nI l) z := by
      intro l hll
      unfold wX3_rinsesNeeded_J35
      refine (lp (fun m2 i => (∀ j, j < i → wsF W p d k j = false) → wX3_rinsesNeeded_L40 148 gSH (wX3_rinsesNeeded_L6 148 gSH P m) P m2 t w (nI p) (nI d) (nI (sN k (wsN W p d))) (nI k) (nI l) (nI i) z) l (fun m2 hn => ?_) (fun m2 i hi ih2 hn => ?_)).imp (fun N q => q (fun j hj => by omega))
      · unfold wX3_rinsesNeeded_L40 wX3_rinsesNeeded_B40 wX3_rinsesNeeded_J94
        simp (disch := omega) only [Option.some.injEq, exists_eq_left', exists_eq_left, forall_eq, true_and, and_true, gr_si, gl_si, gr_sl, gi_sl, gr_sA, gl_sA, j_0, j_1, j_2, j_3, j_4, j_5, j_6, j_7, j_8, j_9, j_10, j_11, j_12, j_13, j_14, j_15, j_16, j_18, j_19, j_20, j_21, j_22, j_23, j_24, j_28, j_30, j_33, j_40, j_48, j_60, j_66, j_96, j_97, j_99, j_100, j_122, j_125, j_126, j_127, j_128, j_255, j_495, j_1000, j_1001, j_1023, j_1024, j_1100, j_1386, j_1452, j_9999, nN_1, nI_add, pk_mul, pk_sub, nI_clamp, vpI, nI_leI, nI_ltI, nI_eq, nN_eq, nN_eq', nN_lt, nN_nlt, nN_le, nN_nle, b_bit, n_bit, b_eq0, b_eq1, wO hw, wA1 hw, wA2 hw, wA3 hw, wL1 hw, wL2 hw, wL3 hw, wR5 hz hw, wR6 hz hw, wR7 hz hw, tO ht, tO1 ht, tA2 ht, tL2 ht, tA3 ht, tL3 ht, tA4 ht, tL4 ht, tA5 ht, tL5 ht, tA6 ht, tL6 ht, tA7 ht, tL7 ht, tA8 ht, tL8 ht, tA9 ht, tL9 ht, tR0 hz ht, tR1 hz ht, tR2 hz ht, tR3 hz ht, tR4 hz ht, tR5 hz ht, tR6 hz ht, tRl0 hz ht, tRl1 hz ht, Nat.le_refl, if_true]
        have e0 : wsN W p d k = 0 := by
          unfold wsN
          rcases hll with ⟨rfl, hG⟩ | ⟨rfl, hG⟩
          · rw [hG, Lst_un (fF_lst (wsF W p d k) (ln W k)) (b := none) (fun j _ hj => hn j hj)]
            rfl
          · rw [hG]
            rfl
        rw [e0] at ih
        exact ih
      · rcases hll with ⟨rfl, hG⟩ | ⟨rfl, hG⟩
        · unfold wX3_rinsesNeeded_L40 wX3_rinsesNeeded_B40 wX3_rinsesNeeded_J94 wX3_rinsesNeeded_J88
          simp (disch := omega) only [Option.some.injEq, exists_eq_left', exists_eq_left, forall_eq, true_and, and_true, gr_si, gl_si, gr_sl, gi_sl, gr_sA, gl_sA, j_0, j_1, j_2, j_3, j_4, j_5, j_6, j_7, j_8, j_9, j_10, j_11, j_12, j_13, j_14, j_15, j_16, j_18, j_19, j_20, j_21, j_22, j_23, j_24, j_28, j_30, j_33, j_40, j_48, j_60, j_66, j_96, j_97, j_99, j_100, j_122, j_125, j_126, j_127, j_128, j_255, j_495, j_1000, j_1001, j_1023, j_1024, j_1100, j_1386, j_1452, j_9999, nN_1, nI_add, pk_mul, pk_sub, nI_clamp, vpI, nI_leI, nI_ltI, nI_eq, nN_eq, nN_eq', nN_lt, nN_nlt, nN_le, nN_nle, b_bit, n_bit, b_eq0, b_eq1, wO hw, wA1 hw, wA2 hw, wA3 hw, wL1 hw, wL2 hw, wL3 hw, wR5 hz hw, wR6 hz hw, wR7 hz hw, tO ht, tO1 ht, tA2 ht, tL2 ht, tA3 ht, tL3 ht, tA4 ht, tL4 ht, tA5 ht, tL5 ht, tA6 ht, tL6 ht, tA7 ht, tL7 ht, tA8 ht, tL8 ht, tA9 ht, tL9 ht, tR0 hz ht, tR1 hz ht, tR2 hz ht, tR3 hz ht, tR4 hz ht, tR5 hz ht, tR6 hz ht, tRl0 hz ht, tRl1 hz ht, if_neg (show ¬ ln W k ≤ i by omega)]
          obtain ⟨hm, _, _⟩ := mk_ok hok hwk hT hk hi
          have hm1 := hm.1
          have hm2 := hm.2.1
          refine c_markAt hh hk hi (c_whoOf hm ?_)
          have hnx : wsF W p d k i = false → ∀ j, j < i + 1 → wsF W p d k j = false := by
            intro q j hj
            by_cases e : j = i
            · rw [e]; exact q
            · exact hn j (by omega)
          simp (disch := omega) only [Option.some.injEq, exists_eq_left', exists_eq_left, forall_eq, true_and, and_true, gr_si, gl_si, gr_sl, gi_sl, gr_sA, gl_sA, j_0, j_1, j_2, j_3, j_4, j_5, j_6, j_7, j_8, j_9, j_10, j_11, j_12, j_13, j_14, j_15, j_16, j_18, j_19, j_20, j_21, j_22, j_23, j_24, j_28, j_30, j_33, j_40, j_48, j_60, j_66, j_96, j_97, j_99, j_100, j_122, j_125, j_126, j_127, j_128, j_255, j_495, j_1000, j_1001, j_1023, j_1024, j_1100, j_1386, j_1452, j_9999, nN_1, nI_add, pk_mul, pk_sub, nI_clamp, vpI, nI_leI, nI_ltI, nI_eq, nN_eq, nN_eq', nN_lt, nN_nlt, nN_le, nN_nle, b_bit, n_bit, b_eq0, b_eq1, wO hw, wA1 hw, wA2 hw, wA3 hw, wL1 hw, wL2 hw, wL3 hw, wR5 hz hw, wR6 hz hw, wR7 hz hw, tO ht, tO1 ht, tA2 ht, tL2 ht, tA3 ht, tL3 ht, tA4 ht, tL4 ht, tA5 ht, tL5 ht, tA6 ht, tL6 ht, tA7 ht, tL7 ht, tA8 ht, tL8 ht, tA9 ht, tL9 ht, tR0 hz ht, tR1 hz ht, tR2 hz ht, tR3 hz ht, tR4 hz ht, tR5 hz ht, tR6 hz ht, tRl0 hz ht, tRl1 hz ht]
          by_cases hx : (mk W k i).1 = p
          · rw [if_pos hx]
            refine c_deedOf hm ?_
            simp (disch := omega) only [Option.some.injEq, exists_eq_left', exists_eq_left, forall_eq, true_and, and_true, gr_si, gl_si, gr_sl, gi_sl, gr_sA, gl_sA, j_0, j_1, j_2, j_3, j_4, j_5, j_6, j_7, j_8, j_9, j_10, j_11, j_12, j_13, j_14, j_15, j_16, j_18, j_19, j_20, j_21, j_22, j_23, j_24, j_28, j_30, j_33, j_40, j_48, j_60, j_66, j_96, j_97, j_99, j_100, j_122, j_125, j_126, j_127, j_128, j_255, j_495, j_1000, j_1001, j_1023, j_1024, j_1100, j_1386, j_1452, j_9999, nN_1, nI_add, pk_mul, pk_sub, nI_clamp, vpI, nI_leI, nI_ltI, nI_eq, nN_eq, nN_eq', nN_lt, nN_nlt, nN_le, nN_nle, b_bit, n_bit, b_eq0, b_eq1, wO hw, wA1 hw, wA2 hw, wA3 hw, wL1 hw, wL2 hw, wL3 hw, wR5 hz hw, wR6 hz hw, wR7 hz hw, tO ht, tO1 ht, tA2 ht, tL2 ht, tA3 ht, tL3 ht, tA4 ht, tL4 ht, tA5 ht, tL5 ht, tA6 ht, tL6 ht, tA7 ht, tL7 ht, tA8 ht, tL8 ht, tA9 ht, tL9 ht, tR0 hz ht, tR1 hz ht, tR2 hz ht, tR3 hz ht, tR4 hz ht, tR5 hz ht, tR6 hz ht, tRl0 hz ht, tRl1 hz ht]
            by_cases hy : (mk W k i).2.1 = d
            · rw [if_pos hy]
              have hF : wsF W p d k i = true := by simp [wsF, hx, hy]
              have e0 : wsN W p d k = ln W k - i := by
                unfold wsN
                rw [hG, Lst_un (fF_lst (wsF W p d k) (ln W k)) (b := some i) ⟨by omega, hi, hF, fun j _ hj => hn j hj⟩]
                rfl
              rw [e0] at ih
              exact ih
            · rw [if_neg hy]
              exact ih2 (hnx (by simp [wsF, hy]))
          · rw [if_neg hx]
            exact ih2 (hnx (by simp [wsF, hx]))
        · omega
    simp (disch := omega) only [Option.some.injEq, exists_eq_left', exists_eq_left, forall_eq, true_and, and_true, gr_si, gl_si, gr_sl, gi_sl, gr_sA, gl_sA, j_0, j_1, j_2, j_3, j_4, j_5, j_6, j_7, j_8, j_9, j_10, j_11, j_12, j_13, j_14, j_15, j_16, j_18, j_19, j_20, j_21, j_22, j_23, j_24, j_28, j_30, j_33, j_40, j_48, j_60, j_66, j_96, j_97, j_99, j_100, j_122, j_125, j_126, j_127, j_128, j_255, j_495, j_1000, j_1001, j_1023, j_1024, j_1100, j_1386, j_1452, j_9999, nN_1, nI_add, pk_mul, pk_sub, nI_clamp, vpI, nI_leI, nI_ltI, nI_eq, nN_eq, nN_eq', nN_lt, nN_nlt, nN_le, nN_nle, b_bit, n_bit, b_eq0, b_eq1, wO hw, wA1 hw, wA2 hw, wA3 hw, wL1 hw, wL2 hw, wL3 hw, wR5 hz hw, wR6 hz hw, wR7 hz hw, tO ht, tO1 ht, tA2 ht, tL2 ht, tA3 ht, tL3 ht, tA4 ht, tL4 ht, tA5 ht, tL5 ht, tA6 ht, tL6 ht, tA7 ht, tL7 ht, tA8 ht, tL8 ht, tA9 ht, tL9 ht, tR0 hz ht, tR1 hz ht, tR2 hz ht, tR3 hz ht, tR4 hz ht, tR5 hz ht, tR6 hz ht, tRl0 hz ht, tRl1 hz ht, hS.1, if_neg (show ¬ sPA S ≤ k by omega)]
    refine c_isBroken hw hW (by omega) (ifb0 (fun hG => ?_) (fun hG => ?_))
    · simp (disch := omega) only [Option.some.injEq, exists_eq_left', exists_eq_left, forall_eq, true_and, and_true, gr_si, gl_si, gr_sl, gi_sl, gr_sA, gl_sA, j_0, j_1, j_2, j_3, j_4, j_5, j_6, j_7, j_8, j_9, j_10, j_11, j_12, j_13, j_14, j_15, j_16, j_18, j_19, j_20, j_21, j_22, j_23, j_24, j_28, j_30, j_33, j_40, j_48, j_60, j_66, j_96, j_97, j_99, j_100, j_122, j_125, j_126, j_127, j_128, j_255, j_495, j_1000, j_1001, j_1023, j_1024, j_1100, j_1386, j_1452, j_9999, nN_1, nI_add, pk_mul, pk_sub, nI_clamp, vpI, nI_leI, nI_ltI, nI_eq, nN_eq, nN_eq', nN_lt, nN_nlt, nN_le, nN_nle, b_bit, n_bit, b_eq0, b_eq1, wO hw, wA1 hw, wA2 hw, wA3 hw, wL1 hw, wL2 hw, wL3 hw, wR5 hz hw, wR6 hz hw, wR7 hz hw, tO ht, tO1 ht, tA2 ht, tL2 ht, tA3 ht, tL3 ht, tA4 ht, tL4 ht, tA5 ht, tL5 ht, tA6 ht, tL6 ht, tA7 ht, tL7 ht, tA8 ht, tL8 ht, tA9 ht, tL9 ht, tR0 hz ht, tR1 hz ht, tR2 hz ht, tR3 hz ht, tR4 hz ht, tR5 hz ht, tR6 hz ht, tRl0 hz ht, tRl1 hz ht, e]
      exact ⟨by omega, hJ _ (Or.inl ⟨rfl, hG⟩)⟩
    · exact hJ 0 (Or.inr ⟨rfl, hG⟩)
theorem m_washes (h : MW z 0 S W) {p d : Nat} (hp : p < 5) (hd : d < 5) (hP : P (nI (sN (sPA S) (wsN W p d))) z) : ∃ N, wX12_washes_L28 148 gSH P N 129 (nI p) (nI d) (nI 0) (nI 0) z := by
  have hh := h
  obtain ⟨hz, hok, hwk, hT, hS, hW, hb⟩ := h
  have h6 := hok.1
  refine lp (fun m k => wX12_washes_L28 148 gSH P m 129 (nI p) (nI d) (nI (sN k (wsN W p d))) (nI k) z) (sPA S) (fun m => ?_) (fun m k hk ih => ?_)
  · unfold wX12_washes_L28 wX12_washes_B28
    refine ⟨mO, m_panes hz hS ?_⟩
    rw [if_pos (nI_le (by omega) (by omega))]
    exact hP
  · unfold wX12_washes_L28 wX12_washes_B28
    refine ⟨mO, m_panes hz hS ?_⟩
    rw [if_neg (nI_ge hk (by omega))]
    have hl := ln_le hok hwk hk
    have e := hh.he hk
    rw [Nat.zero_add] at e
    simp (disch := omega) only [Option.some.injEq, exists_eq_left', exists_eq_left, forall_eq, true_and, and_true, gr_si, gl_si, gr_sl, gi_sl, gr_sA, gl_sA, j_0, j_1, j_2, j_3, j_4, j_5, j_6, j_7, j_8, j_9, j_10, j_11, j_12, j_13, j_14, j_15, j_16, j_18, j_19, j_20, j_21, j_22, j_23, j_24, j_28, j_30, j_33, j_40, j_48, j_60, j_66, j_96, j_97, j_99, j_100, j_122, j_125, j_126, j_127, j_128, j_255, j_495, j_1000, j_1001, j_1023, j_1024, j_1100, j_1386, j_1452, j_9999, nN_1, nI_add, pk_mul, pk_sub, nI_clamp, vpI, nI_leI, nI_ltI, nI_eq, nN_eq, nN_eq', nN_lt, nN_nlt, nN_le, nN_nle, b_bit, n_bit, b_eq0, b_eq1, mO, mR10 hz, mA135, mL135, mR24 hz, mA145, mL145, e, pI_e]
    refine ⟨by omega, ?_⟩
    rw [sN] at ih
    have hE : ∀ o, (wG W k = false ∧ Lst (wsF W p d k) 0 (ln W k) o ∨ wG W k = true ∧ o = none) → wX12_washes_J113 148 gSH (wX12_washes_L28 148 gSH P m) P 129 (nI p) (nI d) (nI (sN k (wsN W p d))) (nI k) (oI o) z := by
      intro o ho
      unfold wX12_washes_J113 wX12_washes_J136
      have e0 : wsN W p d k = wsO (ln W k) o := by
        unfold wsN
        rcases ho with ⟨hG, ho⟩ | ⟨hG, rfl⟩
        · rw [hG, Lst_un (fF_lst (wsF W p d k) (ln W k)) ho]
          rfl
        · rw [hG]
          rfl
      rw [e0] at ih
      cases o with
      | none =>
        rw [if_neg (show ¬ 0 ≤ oI none by decide)]
        simp (disch := omega) only [Option.some.injEq, exists_eq_left', exists_eq_left, forall_eq, true_and, and_true, gr_si, gl_si, gr_sl, gi_sl, gr_sA, gl_sA, j_0, j_1, j_2, j_3, j_4, j_5, j_6, j_7, j_8, j_9, j_10, j_11, j_12, j_13, j_14, j_15, j_16, j_18, j_19, j_20, j_21, j_22, j_23, j_24, j_28, j_30, j_33, j_40, j_48, j_60, j_66, j_96, j_97, j_99, j_100, j_122, j_125, j_126, j_127, j_128, j_255, j_495, j_1000, j_1001, j_1023, j_1024, j_1100, j_1386, j_1452, j_9999, nN_1, nI_add, pk_mul, pk_sub, nI_clamp, vpI, nI_leI, nI_ltI, nI_eq, nN_eq, nN_eq', nN_lt, nN_nlt, nN_le, nN_nle, b_bit, n_bit, b_eq0, b_eq1, mO, mR10 hz, mA135, mL135, mR24 hz, mA145, mL145]
        exact ih
      | some j =>
        have hj : j < ln W k := by
          rcases ho with ⟨_, ho⟩ | ⟨_, ho⟩
          · exact ho.2.1
          · cases ho
        rw [if_pos (show 0 ≤ oI (some j) from nI_pos' (by omega))]
        simp only [oI]
        simp (disch := omega) only [Option.some.injEq, exists_eq_left', exists_eq_left, forall_eq, true_and, and_true, gr_si, gl_si, gr_sl, gi_sl, gr_sA, gl_sA, j_0, j_1, j_2, j_3, j_4, j_5, j_6, j_7, j_8, j_9, j_10, j_11, j_12, j_13, j_14, j_15, j_16, j_18, j_19, j_20, j_21, j_22, j_23, j_24, j_28, j_30, j_33, j_40, j_48, j_60, j_66, j_96, j_97, j_99, j_100, j_122, j_125, j_126, j_127, j_128, j_255, j_495, j_1000, j_1001, j_1023, j_1024, j_1100, j_1386, j_1452, j_9999, nN_1, nI_add, pk_mul, pk_sub, nI_clamp, vpI, nI_leI, nI_ltI, nI_eq, nN_eq, nN_eq', nN_lt, nN_nlt, nN_le, nN_nle, b_bit, n_bit, b_eq0, b_eq1, mO, mR10 hz, mA135, mL135, mR24 hz, mA145, mL145, e]
        exact ⟨by omega, ih⟩
    refine (lpd (fun m2 i => i ≤ ln W k → ∀ o, (wG W k = false ∧ Lst (wsF W p d k) i (ln W k) o ∨ wG W k = true ∧ o = none) → wX12_washes_L54 148 gSH (wX12_washes_L28 148 gSH P m) P m2 129 (nI p) (nI d) (nI (sN k (wsN W p d))) (nI k) (oI o) (pI i) z) (ln W k) (fun m2 _ o ho => ?_) (fun m2 i hi ih2 _ o ho => ?_)).imp (fun N q => q (Nat.le_refl _) none (by
      cases hG : wG W k
      · exact Or.inl ⟨rfl, fun j a b => by omega⟩
      · exact Or.inr ⟨rfl, rfl⟩))
    · unfold wX12_washes_L54 wX12_washes_B54
      simp (disch := omega) only [Option.some.injEq, exists_eq_left', exists_eq_left, forall_eq, true_and, and_true, gr_si, gl_si, gr_sl, gi_sl, gr_sA, gl_sA, j_0, j_1, j_2, j_3, j_4, j_5, j_6, j_7, j_8, j_9, j_10, j_11, j_12, j_13, j_14, j_15, j_16, j_18, j_19, j_20, j_21, j_22, j_23, j_24, j_28, j_30, j_33, j_40, j_48, j_60, j_66, j_96, j_97, j_99, j_100, j_122, j_125, j_126, j_127, j_128, j_255, j_495, j_1000, j_1001, j_1023, j_1024, j_1100, j_1386, j_1452, j_9999, nN_1, nI_add, pk_mul, pk_sub, nI_clamp, vpI, nI_leI, nI_ltI, nI_eq, nN_eq, nN_eq', nN_lt, nN_nlt, nN_le, nN_nle, b_bit, n_bit, b_eq0, b_eq1, mO, mR10 hz, mA135, mL135, mR24 hz, mA145, mL145, pI_0, if_true]
      exact hE o ho
    · unfold wX12_washes_L54 wX12_washes_B54
      simp (disch := omega) only [Option.some.injEq, exists_eq_left', exists_eq_left, forall_eq, true_and, and_true, gr_si, gl_si, gr_sl, gi_sl, gr_sA, gl_sA, j_0, j_1, j_2, j_3, j_4, j_5, j_6, j_7, j_8, j_9, j_10, j_11, j_12, j_13, j_14, j_15, j_16, j_18, j_19, j_20, j_21, j_22, j_23, j_24, j_28, j_30, j_33, j_40, j_48, j_60, j_66, j_96, j_97, j_99, j_100, j_122, j_125, j_126, j_127, j_128, j_255, j_495, j_1000, j_1001, j_1023, j_1024, j_1100, j_1386, j_1452, j_9999, nN_1, nI_add, pk_mul, pk_sub, nI_clamp, vpI, nI_leI, nI_ltI, nI_eq, nN_eq, nN_eq', nN_lt, nN_nlt, nN_le, nN_nle, b_bit, n_bit, b_eq0, b_eq1, mO, mR10 hz, mA135, mL135, mR24 hz, mA145, mL145, pI_s, Nat.not_lt_zero, if_false]
      refine m_isWhole (b := 0) hz hW hok (by decide) hk (ifb0 (fun hG => ?_) (fun hG => ?_))
      · have hG2 : wG W k = true := by simpa using hG
        rcases ho with ⟨q, _⟩ | ⟨_, q⟩
        · rw [hG2] at q
          cases q
        · exact hE o (Or.inr ⟨hG2, q⟩)
      · have hG2 : wG W k = false := by simpa using hG
        rcases ho with ⟨_, ho⟩ | ⟨q, _⟩
        · obtain ⟨hm, _, _⟩ := mk_ok hok hwk hT hk hi
          have hm1 := hm.1
          have hm2 := hm.2.1
          refine m_markOf hh hk hi (m_whoOf hm ?_)
          unfold wX12_washes_J103 wX12_washes_J105
          have hno : wsF W p d k i = false → Lst (wsF W p d k) i (ln W k) o := by
            intro q
            cases o with
            | none =>
              intro j h1 h2
              by_cases e : j = i
              · rw [e]; exact q
              · exact ho j (by omega) h2
            | some v =>
              obtain ⟨a1, a2, a3, a4⟩ := ho
              refine ⟨by omega, a2, a3, fun j h1 h2 => ?_⟩
              by_cases e : j = i
              · rw [e]; exact q
              · exact a4 j (by omega) h2
          simp (disch := omega) only [Option.some.injEq, exists_eq_left', exists_eq_left, forall_eq, true_and, and_true, gr_si, gl_si, gr_sl, gi_sl, gr_sA, gl_sA, j_0, j_1, j_2, j_3, j_4, j_5, j_6, j_7, j_8, j_9, j_10, j_11, j_12, j_13, j_14, j_15, j_16, j_18, j_19, j_20, j_21, j_22, j_23, j_24, j_28, j_30, j_33, j_40, j_48, j_60, j_66, j_96, j_97, j_99, j_100, j_122, j_125, j_126, j_127, j_128, j_255, j_495, j_1000, j_1001, j_1023, j_1024, j_1100, j_1386, j_1452, j_9999, nN_1, nI_add, pk_mul, pk_sub, nI_clamp, vpI, nI_leI, nI_ltI, nI_eq, nN_eq, nN_eq', nN_lt, nN_nlt, nN_le, nN_nle, b_bit, n_bit, b_eq0, b_eq1, mO, mR10 hz, mA135, mL135, mR24 hz, mA145, mL145]
          by_cases hx : (mk W k i).1 = p
          · rw [if_pos hx]
            refine m_deedOf hm ?_
            simp (disch := omega) only [Option.some.injEq, exists_eq_left', exists_eq_left, forall_eq, true_and, and_true, gr_si, gl_si, gr_sl, gi_sl, gr_sA, gl_sA, j_0, j_1, j_2, j_3, j_4, j_5, j_6, j_7, j_8, j_9, j_10, j_11, j_12, j_13, j_14, j_15, j_16, j_18, j_19, j_20, j_21, j_22, j_23, j_24, j_28, j_30, j_33, j_40, j_48, j_60, j_66, j_96, j_97, j_99, j_100, j_122, j_125, j_126, j_127, j_128, j_255, j_495, j_1000, j_1001, j_1023, j_1024, j_1100, j_1386, j_1452, j_9999, nN_1, nI_add, pk_mul, pk_sub, nI_clamp, vpI, nI_leI, nI_ltI, nI_eq, nN_eq, nN_eq', nN_lt, nN_nlt, nN_le, nN_nle, b_bit, n_bit, b_eq0, b_eq1, mO, mR10 hz, mA135, mL135, mR24 hz, mA145, mL145, pI_a]
            by_cases hy : (mk W k i).2.1 = d
            · rw [if_pos hy]
              have hF : wsF W p d k i = true := by simp [wsF, hx, hy]
              exact ih2 (by omega) (some i) (Or.inl ⟨hG2, by omega, hi, hF, fun j h1 h2 => by omega⟩)
            · rw [if_neg hy]
              exact ih2 (by omega) o (Or.inl ⟨hG2, hno (by simp [wsF, hy])⟩)
          · rw [if_neg hx]
            simp (disch := omega) only [Option.some.injEq, exists_eq_left', exists_eq_left, forall_eq, true_and, and_true, gr_si, gl_si, gr_sl, gi_sl, gr_sA, gl_sA, j_0, j_1, j_2, j_3, j_4, j_5, j_6, j_7, j_8, j_9, j_10, j_11, j_12, j_13, j_14, j_15, j_16, j_18, j_19, j_20, j_21, j_22, j_23, j_24, j_28, j_30, j_33, j_40, j_48, j_60, j_66, j_96, j_97, j_99, j_100, j_122, j_125, j_126, j_127, j_128, j_255, j_495, j_1000, j_1001, j_1023, j_1024, j_1100, j_1386, j_1452, j_9999, nN_1, nI_add, pk_mul, pk_sub, nI_clamp, vpI, nI_leI, nI_ltI, nI_eq, nN_eq, nN_eq', nN_lt, nN_nlt, nN_le, nN_nle, b_bit, n_bit, b_eq0, b_eq1, mO, mR10 hz, mA135, mL135, mR24 hz, mA145, mL145, pI_a]
            exact ih2 (by omega) o (Or.inl ⟨hG2, hno (by simp [wsF, hx])⟩)
        · rw [hG2] at q
          cases q
theorem c_twin (h : CW z t w S W) {e : Nat} (hg : g < sPA S) (he : e < sPA S) (hP : P (nI (aTw W g e)) z) : wX3_alikeMarks 148 gSH w (nI g) (nI e) z P := by
  have hh := h
  obtain ⟨hz, ht, hw, hok, hwk, hT, hS, hW⟩ := h
  have h6 := hok.1
  have hlg := ln_le hok hwk hg
  have hle := ln_le hok hwk he
  have eg := hh.he hg
  have ee := hh.he he
  have hcl := fun x => ct_le (ky W e) (ln W e) x
  refine (lp (fun m i => ∀ f : Nat → Bool, (∀ j, ln W e ≤ j → f j = false) → cB (ln W e) f = tR (ky W g) (ct (ky W e) (ln W e)) i → (∀ x, cB (ln W e) (fun j => f j && decide (ky W e j = x)) = if ct (ky W g) i x < ct (ky W e) (ln W e) x then ct (ky W g) i x else ct (ky W e) (ln W e) x) → wX3_alikeMarks_L5 148 gSH P m w (nI g) (nI e) (nI (bs 6 f)) (nI i) z) (ln W g) (fun m f h1 h2 h3 => ?_) (fun m i hi ih f h1 h2 h3 => ?_)).imp (fun N q => ?_)
  · unfold wX3_alikeMarks_L5 wX3_alikeMarks_B5
    simp (disch := omega) only [Option.some.injEq, exists_eq_left', exists_eq_left, forall_eq, true_and, and_true, gr_si, gl_si, gr_sl, gi_sl, gr_sA, gl_sA, j_0, j_1, j_2, j_3, j_4, j_5, j_6, j_7, j_8, j_9, j_10, j_11, j_12, j_13, j_14, j_15, j_16, j_18, j_19, j_20, j_21, j_22, j_23, j_24, j_28, j_30, j_33, j_40, j_48, j_60, j_66, j_96, j_97, j_99, j_100, j_122, j_125, j_126, j_127, j_128, j_255, j_495, j_1000, j_1001, j_1023, j_1024, j_1100, j_1386, j_1452, j_9999, nN_1, nI_add, pk_mul, pk_sub, nI_clamp, vpI, nI_leI, nI_ltI, nI_eq, nN_eq, nN_eq', nN_lt, nN_nlt, nN_le, nN_nle, b_bit, n_bit, b_eq0, b_eq1, wO hw, wA1 hw, wA2 hw, wA3 hw, wL1 hw, wL2 hw, wL3 hw, wR5 hz hw, wR6 hz hw, wR7 hz hw, tO ht, tO1 ht, tA2 ht, tL2 ht, tA3 ht, tL3 ht, tA4 ht, tL4 ht, tA5 ht, tL5 ht, tA6 ht, tL6 ht, tA7 ht, tL7 ht, tA8 ht, tL8 ht, tA9 ht, tL9 ht, tR0 hz ht, tR1 hz ht, tR2 hz ht, tR3 hz ht, tR4 hz ht, tR5 hz ht, tR6 hz ht, tRl0 hz ht, tRl1 hz ht, eg, Nat.le_refl, if_true]
    refine ⟨by omega, j_bitCount (by have := bs_lt f 6; omega) ?_⟩
    rw [pcs_bs, cB_ext (n := ln W e) 30 (by omega) (fun j a _ => by rw [h1 j a, Bool.and_false]), cB_congr (g := f) (fun j hj => by simp [show j < 6 by omega]), h2]
    exact hP
  · unfold wX3_alikeMarks_L5 wX3_alikeMarks_B5
    simp (disch := omega) only [Option.some.injEq, exists_eq_left', exists_eq_left, forall_eq, true_and, and_true, gr_si, gl_si, gr_sl, gi_sl, gr_sA, gl_sA, j_0, j_1, j_2, j_3, j_4, j_5, j_6, j_7, j_8, j_9, j_10, j_11, j_12, j_13, j_14, j_15, j_16, j_18, j_19, j_20, j_21, j_22, j_23, j_24, j_28, j_30, j_33, j_40, j_48, j_60, j_66, j_96, j_97, j_99, j_100, j_122, j_125, j_126, j_127, j_128, j_255, j_495, j_1000, j_1001, j_1023, j_1024, j_1100, j_1386, j_1452, j_9999, nN_1, nI_add, pk_mul, pk_sub, nI_clamp, vpI, nI_leI, nI_ltI, nI_eq, nN_eq, nN_eq', nN_lt, nN_nlt, nN_le, nN_nle, b_bit, n_bit, b_eq0, b_eq1, wO hw, wA1 hw, wA2 hw, wA3 hw, wL1 hw, wL2 hw, wL3 hw, wR5 hz hw, wR6 hz hw, wR7 hz hw, tO ht, tO1 ht, tA2 ht, tL2 ht, tA3 ht, tL3 ht, tA4 ht, tL4 ht, tA5 ht, tL5 ht, tA6 ht, tL6 ht, tA7 ht, tL7 ht, tA8 ht, tL8 ht, tA9 ht, tL9 ht, tR0 hz ht, tR1 hz ht, tR2 hz ht, tR3 hz ht, tR4 hz ht, tR5 hz ht, tR6 hz ht, tRl0 hz ht, tRl1 hz ht, eg, if_neg (show ¬ ln W g ≤ i by omega)]
    refine ⟨by omega, ?_⟩
    have ect : ∀ x, ct (ky W g) (i + 1) x = ct (ky W g) i x + (decide (ky W g i = x)).toNat := fun x => rfl
    refine (lp (fun m2 j => (∀ v, v < j → (!f v && decide (ky W e v = ky W g i)) = false) → wX3_alikeMarks_L19 148 gSH (wX3_alikeMarks_L5 148 gSH P m) P m2 w (nI g) (nI e) (nI (bs 6 f)) (nI i) (nI j) z) (ln W e) (fun m2 hn => ?_) (fun m2 j hj ih2 hn => ?_)).imp (fun N q => q (fun v hv => by omega))
    · unfold wX3_alikeMarks_L19 wX3_alikeMarks_B19 wX3_alikeMarks_J87
      simp (disch := omega) only [Option.some.injEq, exists_eq_left', exists_eq_left, forall_eq, true_and, and_true, gr_si, gl_si, gr_sl, gi_sl, gr_sA, gl_sA, j_0, j_1, j_2, j_3, j_4, j_5, j_6, j_7, j_8, j_9, j_10, j_11, j_12, j_13, j_14, j_15, j_16, j_18, j_19, j_20, j_21, j_22, j_23, j_24, j_28, j_30, j_33, j_40, j_48, j_60, j_66, j_96, j_97, j_99, j_100, j_122, j_125, j_126, j_127, j_128, j_255, j_495, j_1000, j_1001, j_1023, j_1024, j_1100, j_1386, j_1452, j_9999, nN_1, nI_add, pk_mul, pk_sub, nI_clamp, vpI, nI_leI, nI_ltI, nI_eq, nN_eq, nN_eq', nN_lt, nN_nlt, nN_le, nN_nle, b_bit, n_bit, b_eq0, b_eq1, wO hw, wA1 hw, wA2 hw, wA3 hw, wL1 hw, wL2 hw, wL3 hw, wR5 hz hw, wR6 hz hw, wR7 hz hw, tO ht, tO1 ht, tA2 ht, tL2 ht, tA3 ht, tL3 ht, tA4 ht, tL4 ht, tA5 ht, tL5 ht, tA6 ht, tL6 ht, tA7 ht, tL7 ht, tA8 ht, tL8 ht, tA9 ht, tL9 ht, tR0 hz ht, tR1 hz ht, tR2 hz ht, tR3 hz ht, tR4 hz ht, tR5 hz ht, tR6 hz ht, tRl0 hz ht, tRl1 hz ht, ee, Nat.le_refl, if_true]
      refine ⟨by omega, ?_⟩
      have hc : cB (ln W e) (fun j => f j && decide (ky W e j = ky W g i)) = ct (ky W e) (ln W e) (ky W g i) := by
        refine cB_congr (fun j hj => ?_)
        have := hn j hj
        cases hf : f j <;> cases hk : decide (ky W e j = ky W g i) <;> simp_all
      have h4 := h3 (ky W g i)
      rw [hc] at h4
      refine ih f h1 ?_ ?_
      · rw [tR, h2]
        have : ¬ ct (ky W g) i (ky W g i) < ct (ky W e) (ln W e) (ky W g i) := by
          intro q
          rw [if_pos q] at h4
          omega
        simp [this]
      · intro x
        rw [ect, h3 x]
        by_cases ex : ky W g i = x
        · subst ex
          simp only [decide_true, Bool.toNat_true]
          split <;> split <;> split at h4 <;> omega
        · simp only [ex, decide_false, Bool.toNat_false, Nat.add_zero]
    · unfold wX3_alikeMarks_L19 wX3_alikeMarks_B19 wX3_alikeMarks_J44 wX3_alikeMarks_J81 wX3_alikeMarks_J87
      simp (disch := omega) only [Option.some.injEq, exists_eq_left', exists_eq_left, forall_eq, true_and, and_true, gr_si, gl_si, gr_sl, gi_sl, gr_sA, gl_sA, j_0, j_1, j_2, j_3, j_4, j_5, j_6, j_7, j_8, j_9, j_10, j_11, j_12, j_13, j_14, j_15, j_16, j_18, j_19, j_20, j_21, j_22, j_23, j_24, j_28, j_30, j_33, j_40, j_48, j_60, j_66, j_96, j_97, j_99, j_100, j_122, j_125, j_126, j_127, j_128, j_255, j_495, j_1000, j_1001, j_1023, j_1024, j_1100, j_1386, j_1452, j_9999, nN_1, nI_add, pk_mul, pk_sub, nI_clamp, vpI, nI_leI, nI_ltI, nI_eq, nN_eq, nN_eq', nN_lt, nN_nlt, nN_le, nN_nle, b_bit, n_bit, b_eq0, b_eq1, wO hw, wA1 hw, wA2 hw, wA3 hw, wL1 hw, wL2 hw, wL3 hw, wR5 hz hw, wR6 hz hw, wR7 hz hw, tO ht, tO1 ht, tA2 ht, tL2 ht, tA3 ht, tL3 ht, tA4 ht, tL4 ht, tA5 ht, tL5 ht, tA6 ht, tL6 ht, tA7 ht, tL7 ht, tA8 ht, tL8 ht, tA9 ht, tL9 ht, tR0 hz ht, tR1 hz ht, tR2 hz ht, tR3 hz ht, tR4 hz ht, tR5 hz ht, tR6 hz ht, tRl0 hz ht, tRl1 hz ht, ee, if_neg (show ¬ ln W e ≤ j by omega), Nat.one_ne_zero, if_false, if_true]
      refine ⟨by omega, ?_⟩
      have hnx : (!f j && decide (ky W e j = ky W g i)) = false → ∀ v, v < j + 1 → (!f v && decide (ky W e v = ky W g i)) = false := by
        intro q v hv
        by_cases e : v = j
        · rw [e]; exact q
        · exact hn v (by omega)
      by_cases hf : f j = false
      · rw [if_pos hf]
        obtain ⟨hm, _, _⟩ := mk_ok hok hwk hT hg hi
        obtain ⟨hm2, _, _⟩ := mk_ok hok hwk hT he hj
        refine c_markAt hh hg hi (c_markAt hh he hj ?_)
        unfold wX10_isAlike
        rw [j_1023, likeC hm, likeC hm2]
        have ek : (nI ((mk W g i).1 * 128 + (mk W g i).2.1 * 16 + (mk W g i).2.2.1) = nI ((mk W e j).1 * 128 + (mk W e j).2.1 * 16 + (mk W e j).2.2.1)) = (ky W e j = ky W g i) := by
          obtain ⟨a1, a2, a3, a4⟩ := hm
          obtain ⟨b1, b2, b3, b4⟩ := hm2
          rw [nI_eq (by omega) (by omega)]
          exact propext eq_comm
        simp (disch := omega) only [Option.some.injEq, exists_eq_left', exists_eq_left, forall_eq, true_and, and_true, gr_si, gl_si, gr_sl, gi_sl, gr_sA, gl_sA, j_0, j_1, j_2, j_3, j_4, j_5, j_6, j_7, j_8, j_9, j_10, j_11, j_12, j_13, j_14, j_15, j_16, j_18, j_19, j_20, j_21, j_22, j_23, j_24, j_28, j_30, j_33, j_40, j_48, j_60, j_66, j_96, j_97, j_99, j_100, j_122, j_125, j_126, j_127, j_128, j_255, j_495, j_1000, j_1001, j_1023, j_1024, j_1100, j_1386, j_1452, j_9999, nN_1, nI_add, pk_mul, pk_sub, nI_clamp, vpI, nI_leI, nI_ltI, nI_eq, nN_eq, nN_eq', nN_lt, nN_nlt, nN_le, nN_nle, b_bit, n_bit, b_eq0, b_eq1, wO hw, wA1 hw, wA2 hw, wA3 hw, wL1 hw, wL2 hw, wL3 hw, wR5 hz hw, wR6 hz hw, wR7 hz hw, tO ht, tO1 ht, tA2 ht, tL2 ht, tA3 ht, tL3 ht, tA4 ht, tL4 ht, tA5 ht, tL5 ht, tA6 ht, tL6 ht, tA7 ht, tL7 ht, tA8 ht, tL8 ht, tA9 ht, tL9 ht, tR0 hz ht, tR1 hz ht, tR2 hz ht, tR3 hz ht, tR4 hz ht, tR5 hz ht, tR6 hz ht, tRl0 hz ht, tRl1 hz ht, ek, Nat.one_ne_zero, if_false, if_true]
        by_cases hx : ky W e j = ky W g i
        · rw [if_pos hx, bs_setY (by decide) (by omega)]
          have hlt : cB (ln W e) (fun j => f j && decide (ky W e j = ky W g i)) < ct (ky W e) (ln W e) (ky W g i) := by
            refine cB_lt _ (fun v _ hv => ?_) ⟨j, hj, by simp [hf], by simp [hx]⟩
            simp only [Bool.and_eq_true] at hv
            exact hv.2
          have h4 := h3 (ky W g i)
          refine ih _ (fun v hv => ?_) ?_ (fun x => ?_)
          · rw [h1 v hv]
            simp
            omega
          · have := cB_set (f := f) (h := fun _ => true) hf (ln W e) hj
            simp only [Bool.and_true, Bool.toNat_true] at this
            rw [this, h2, tR]
            have : ct (ky W g) i (ky W g i) < ct (ky W e) (ln W e) (ky W g i) := by split at h4 <;> omega
            simp [this]
          · rw [cB_set (h := fun v => decide (ky W e v = x)) hf (ln W e) hj, h3 x, ect, hx]
            by_cases ex : ky W g i = x
            · subst ex
              simp only [decide_true, Bool.toNat_true]
              split <;> split <;> split at h4 <;> omega
            · simp only [ex, decide_false, Bool.toNat_false, Nat.add_zero]
        · rw [if_neg hx]
          exact ih2 (hnx (by simp [hx]))
      · rw [if_neg hf]
        have hf2 : f j = true := by simpa using hf
        exact ih2 (hnx (by simp [hf2]))
  · have q2 := q (fun _ => false) (fun _ _ => rfl) (by rw [cB_F]; rfl) (fun x => by
      simp only [Bool.false_and]
      rw [cB_F]
      have e3 : ct (ky W g) 0 x = 0 := rfl
      rw [e3]
      split <;> omega)
    rw [bs_f0] at q2
    exact q2
theorem m_likeIn (h : MW z 0 S W) {m : sM} (hm : mB m) (hg : g < sPA S) (hP : P (nI (ct (ky W g) (ln W g) (kC m))) z) : wX12_likeIn 148 gSH 129 (nI g) (nI (mkM m)) z P := by
  have hh := h
  obtain ⟨hz, hok, hwk, hT, hS, hW, hb⟩ := h
  have h6 := hok.1
  have hl := ln_le hok hwk hg
  have e := hh.he hg
  rw [Nat.zero_add] at e
  refine lp (fun m2 i => wX12_likeIn_L5 148 gSH P m2 129 (nI g) (nI (mkM m)) (nI (ct (ky W g) i (kC m))) (nI i) z) (ln W g) (fun m2 => ?_) (fun m2 i hi ih => ?_)
  · unfold wX12_likeIn_L5 wX12_likeIn_B5
    simp (disch := omega) only [Option.some.injEq, exists_eq_left', exists_eq_left, forall_eq, true_and, and_true, gr_si, gl_si, gr_sl, gi_sl, gr_sA, gl_sA, j_0, j_1, j_2, j_3, j_4, j_5, j_6, j_7, j_8, j_9, j_10, j_11, j_12, j_13, j_14, j_15, j_16, j_18, j_19, j_20, j_21, j_22, j_23, j_24, j_28, j_30, j_33, j_40, j_48, j_60, j_66, j_96, j_97, j_99, j_100, j_122, j_125, j_126, j_127, j_128, j_255, j_495, j_1000, j_1001, j_1023, j_1024, j_1100, j_1386, j_1452, j_9999, nN_1, nI_add, pk_mul, pk_sub, nI_clamp, vpI, nI_leI, nI_ltI, nI_eq, nN_eq, nN_eq', nN_lt, nN_nlt, nN_le, nN_nle, b_bit, n_bit, b_eq0, b_eq1, mO, mR10 hz, mA135, mL135, mR24 hz, mA145, mL145, e, Nat.le_refl, if_true]
    exact ⟨by omega, hP⟩
  · unfold wX12_likeIn_L5 wX12_likeIn_B5
    simp (disch := omega) only [Option.some.injEq, exists_eq_left', exists_eq_left, forall_eq, true_and, and_true, gr_si, gl_si, gr_sl, gi_sl, gr_sA, gl_sA, j_0, j_1, j_2, j_3, j_4, j_5, j_6, j_7, j_8, j_9, j_10, j_11, j_12, j_13, j_14, j_15, j_16, j_18, j_19, j_20, j_21, j_22, j_23, j_24, j_28, j_30, j_33, j_40, j_48, j_60, j_66, j_96, j_97, j_99, j_100, j_122, j_125, j_126, j_127, j_128, j_255, j_495, j_1000, j_1001, j_1023, j_1024, j_1100, j_1386, j_1452, j_9999, nN_1, nI_add, pk_mul, pk_sub, nI_clamp, vpI, nI_leI, nI_ltI, nI_eq, nN_eq, nN_eq', nN_lt, nN_nlt, nN_le, nN_nle, b_bit, n_bit, b_eq0, b_eq1, mO, mR10 hz, mA135, mL135, mR24 hz, mA145, mL145, e, if_neg (show ¬ ln W g ≤ i by omega)]
    refine ⟨by omega, ?_⟩
    obtain ⟨hm2, _, _⟩ := mk_ok hok hwk hT hg hi
    refine m_markOf hh hg hi ?_
    rw [likeM hm, likeM hm2]
    unfold wX12_likeIn_J45
    have ek : (nI ((mk W g i).2.2.1 * 64 + (mk W g i).2.1 * 8 + (mk W g i).1) = nI (m.2.2.1 * 64 + m.2.1 * 8 + m.1)) = (ky W g i = kC m) := by
      have := kM_eq hm2 hm
      obtain ⟨a1, a2, a3, a4⟩ := hm
      obtain ⟨b1, b2, b3, b4⟩ := hm2
      rw [nI_eq (by omega) (by omega), this]
      rfl
    simp (disch := omega) only [Option.some.injEq, exists_eq_left', exists_eq_left, forall_eq, true_and, and_true, gr_si, gl_si, gr_sl, gi_sl, gr_sA, gl_sA, j_0, j_1, j_2, j_3, j_4, j_5, j_6, j_7, j_8, j_9, j_10, j_11, j_12, j_13, j_14, j_15, j_16, j_18, j_19, j_20, j_21, j_22, j_23, j_24, j_28, j_30, j_33, j_40, j_48, j_60, j_66, j_96, j_97, j_99, j_100, j_122, j_125, j_126, j_127, j_128, j_255, j_495, j_1000, j_1001, j_1023, j_1024, j_1100, j_1386, j_1452, j_9999, nN_1, nI_add, pk_mul, pk_sub, nI_clamp, vpI, nI_leI, nI_ltI, nI_eq, nN_eq, nN_eq', nN_lt, nN_nlt, nN_le, nN_nle, b_bit, n_bit, b_eq0, b_eq1, mO, mR10 hz, mA135, mL135, mR24 hz, mA145, mL145, ek]
    rw [show ct (ky W g) (i + 1) (kC m) = ct (ky W g) i (kC m) + (decide (ky W g i = kC m)).toNat from rfl] at ih
    by_cases hx : ky W g i = kC m
    · rw [if_pos hx]
      simpa [hx] using ih
    · rw [if_neg hx]
      simpa [hx] using ih
theorem m_twin (h : MW z 0 S W) {e : Nat} (hg : g < sPA S) (he : e < sPA S) (hP : P (nI (aTw W g e)) z) : ∃ N, wX12_twin_L33 148 gSH P N 129 (nI g) (nI e) (nI 0) (nI 0) z := by
  have hh := h
  obtain ⟨hz, hok, hwk, hT, hS, hW, hb⟩ := h
  have h6 := hok.1
  have hl := ln_le hok hwk hg
  have hle := ln_le hok hwk he
  have eg := hh.he hg
  rw [Nat.zero_add] at eg
  have hS2 : tS (ky W g) (ct (ky W e) (ln W e)) (ln W g) (ln W g) = aTw W g e := tS_tR _ _ _
  refine lp (fun m i => wX12_twin_L33 148 gSH P m 129 (nI g) (nI e) (nI (tS (ky W g) (ct (ky W e) (ln W e)) (ln W g) i)) (nI i) z) (ln W g) (fun m => ?_) (fun m i hi ih => ?_)
  · unfold wX12_twin_L33 wX12_twin_B33
    simp (disch := omega) only [Option.some.injEq, exists_eq_left', exists_eq_left, forall_eq, true_and, and_true, gr_si, gl_si, gr_sl, gi_sl, gr_sA, gl_sA, j_0, j_1, j_2, j_3, j_4, j_5, j_6, j_7, j_8, j_9, j_10, j_11, j_12, j_13, j_14, j_15, j_16, j_18, j_19, j_20, j_21, j_22, j_23, j_24, j_28, j_30, j_33, j_40, j_48, j_60, j_66, j_96, j_97, j_99, j_100, j_122, j_125, j_126, j_127, j_128, j_255, j_495, j_1000, j_1001, j_1023, j_1024, j_1100, j_1386, j_1452, j_9999, nN_1, nI_add, pk_mul, pk_sub, nI_clamp, vpI, nI_leI, nI_ltI, nI_eq, nN_eq, nN_eq', nN_lt, nN_nlt, nN_le, nN_nle, b_bit, n_bit, b_eq0, b_eq1, mO, mR10 hz, mA135, mL135, mR24 hz, mA145, mL145, eg, Nat.le_refl, if_true]
    rw [hS2]
    exact ⟨by omega, hP⟩
  · unfold wX12_twin_L33 wX12_twin_B33
    simp (disch := omega) only [Option.some.injEq, exists_eq_left', exists_eq_left, forall_eq, true_and, and_true, gr_si, gl_si, gr_sl, gi_sl, gr_sA, gl_sA, j_0, j_1, j_2, j_3, j_4, j_5, j_6, j_7, j_8, j_9, j_10, j_11, j_12, j_13, j_14, j_15, j_16, j_18, j_19, j_20, j_21, j_22, j_23, j_24, j_28, j_30, j_33, j_40, j_48, j_60, j_66, j_96, j_97, j_99, j_100, j_122, j_125, j_126, j_127, j_128, j_255, j_495, j_1000, j_1001, j_1023, j_1024, j_1100, j_1386, j_1452, j_9999, nN_1, nI_add, pk_mul, pk_sub, nI_clamp, vpI, nI_leI, nI_ltI, nI_eq, nN_eq, nN_eq', nN_lt, nN_nlt, nN_le, nN_nle, b_bit, n_bit, b_eq0, b_eq1, mO, mR10 hz, mA135, mL135, mR24 hz, mA145, mL145, eg, if_neg (show ¬ ln W g ≤ i by omega)]
    refine ⟨by omega, ?_⟩
    obtain ⟨hm, _, _⟩ := mk_ok hok hwk hT hg hi
    refine m_markOf hh hg hi ?_
    refine lp (fun m2 j => wX12_twin_L63 148 gSH (wX12_twin_L33 148 gSH P m) P m2 129 (nI g) (nI e) (nI (tS (ky W g) (ct (ky W e) (ln W e)) (ln W g) i)) (nI i) (nI (mkM (mk W g i))) (nI (ct (ky W g) j (ky W g i))) (nI j) z) i (fun m2 => ?_) (fun m2 j hj ih2 => ?_)
    · unfold wX12_twin_L63 wX12_twin_B63
      simp (disch := omega) only [Option.some.injEq, exists_eq_left', exists_eq_left, forall_eq, true_and, and_true, gr_si, gl_si, gr_sl, gi_sl, gr_sA, gl_sA, j_0, j_1, j_2, j_3, j_4, j_5, j_6, j_7, j_8, j_9, j_10, j_11, j_12, j_13, j_14, j_15, j_16, j_18, j_19, j_20, j_21, j_22, j_23, j_24, j_28, j_30, j_33, j_40, j_48, j_60, j_66, j_96, j_97, j_99, j_100, j_122, j_125, j_126, j_127, j_128, j_255, j_495, j_1000, j_1001, j_1023, j_1024, j_1100, j_1386, j_1452, j_9999, nN_1, nI_add, pk_mul, pk_sub, nI_clamp, vpI, nI_leI, nI_ltI, nI_eq, nN_eq, nN_eq', nN_lt, nN_nlt, nN_le, nN_nle, b_bit, n_bit, b_eq0, b_eq1, mO, mR10 hz, mA135, mL135, mR24 hz, mA145, mL145, Nat.le_refl, if_true]
      refine m_likeIn hh hm hg (m_likeIn hh hm he ?_)
      unfold wX12_twin_J149
      have q1 := ct_le (ky W g) i (ky W g i)
      have q2 := ct_le (ky W e) (ln W e) (ky W g i)
      have q3 := ct_le (ky W g) (ln W g) (ky W g i)
      have q4 : kC (mk W g i) = ky W g i := rfl
      rw [q4]
      simp (disch := omega) only [Option.some.injEq, exists_eq_left', exists_eq_left, forall_eq, true_and, and_true, gr_si, gl_si, gr_sl, gi_sl, gr_sA, gl_sA, j_0, j_1, j_2, j_3, j_4, j_5, j_6, j_7, j_8, j_9, j_10, j_11, j_12, j_13, j_14, j_15, j_16, j_18, j_19, j_20, j_21, j_22, j_23, j_24, j_28, j_30, j_33, j_40, j_48, j_60, j_66, j_96, j_97, j_99, j_100, j_122, j_125, j_126, j_127, j_128, j_255, j_495, j_1000, j_1001, j_1023, j_1024, j_1100, j_1386, j_1452, j_9999, nN_1, nI_add, pk_mul, pk_sub, nI_clamp, vpI, nI_leI, nI_ltI, nI_eq, nN_eq, nN_eq', nN_lt, nN_nlt, nN_le, nN_nle, b_bit, n_bit, b_eq0, b_eq1, mO, mR10 hz, mA135, mL135, mR24 hz, mA145, mL145]
      rw [tS, tF] at ih
      by_cases hx : ct (ky W g) i (ky W g i) ≤ 0
      · rw [if_pos hx]
        rw [if_pos (show decide (ct (ky W g) i (ky W g i) = 0) = true by simp; omega)] at ih
        by_cases hy : ct (ky W e) (ln W e) (ky W g i) ≤ ct (ky W g) (ln W g) (ky W g i)
        · rw [if_pos hy]
          rw [if_neg (by omega)] at ih
          exact ih
        · rw [if_neg hy]
          rw [if_pos (by omega)] at ih
          exact ih
      · rw [if_neg hx]
        rw [if_neg (show ¬ decide (ct (ky W g) i (ky W g i) = 0) = true by simp; omega)] at ih
        exact ih
    · unfold wX12_twin_L63 wX12_twin_B63
      simp (disch := omega) only [Option.some.injEq, exists_eq_left', exists_eq_left, forall_eq, true_and, and_true, gr_si, gl_si, gr_sl, gi_sl, gr_sA, gl_sA, j_0, j_1, j_2, j_3, j_4, j_5, j_6, j_7, j_8, j_9, j_10, j_11, j_12, j_13, j_14, j_15, j_16, j_18, j_19, j_20, j_21, j_22, j_23, j_24, j_28, j_30, j_33, j_40, j_48, j_60, j_66, j_96, j_97, j_99, j_100, j_122, j_125, j_126, j_127, j_128, j_255, j_495, j_1000, j_1001, j_1023, j_1024, j_1100, j_1386, j_1452, j_9999, nN_1, nI_add, pk_mul, pk_sub, nI_clamp, vpI, nI_leI, nI_ltI, nI_eq, nN_eq, nN_eq', nN_lt, nN_nlt, nN_le, nN_nle, b_bit, n_bit, b_eq0, b_eq1, mO, mR10 hz, mA135, mL135, mR24 hz, mA145, mL145, if_neg (show ¬ i ≤ j by omega)]
      obtain ⟨hm2, _, _⟩ := mk_ok hok hwk hT hg (i := j) (by omega)
      refine m_markOf hh hg (by omega) ?_
      rw [likeM hm, likeM hm2]
      unfold wX12_twin_J98
      have ek : (nI ((mk W g j).2.2.1 * 64 + (mk W g j).2.1 * 8 + (mk W g j).1) = nI ((mk W g i).2.2.1 * 64 + (mk W g i).2.1 * 8 + (mk W g i).1)) = (ky W g j = ky W g i) := by
        have := kM_eq hm2 hm
        obtain ⟨a1, a2, a3, a4⟩ := hm
        obtain ⟨b1, b2, b3, b4⟩ := hm2
        rw [nI_eq (by omega) (by omega), this]
        rfl
      simp (disch := omega) only [Option.some.injEq, exists_eq_left', exists_eq_left, forall_eq, true_and, and_true, gr_si, gl_si, gr_sl, gi_sl, gr_sA, gl_sA, j_0, j_1, j_2, j_3, j_4, j_5, j_6, j_7, j_8, j_9, j_10, j_11, j_12, j_13, j_14, j_15, j_16, j_18, j_19, j_20, j_21, j_22, j_23, j_24, j_28, j_30, j_33, j_40, j_48, j_60, j_66, j_96, j_97, j_99, j_100, j_122, j_125, j_126, j_127, j_128, j_255, j_495, j_1000, j_1001, j_1023, j_1024, j_1100, j_1386, j_1452, j_9999, nN_1, nI_add, pk_mul, pk_sub, nI_clamp, vpI, nI_leI, nI_ltI, nI_eq, nN_eq, nN_eq', nN_lt, nN_nlt, nN_le, nN_nle, b_bit, n_bit, b_eq0, b_eq1, mO, mR10 hz, mA135, mL135, mR24 hz, mA145, mL145, ek]
      rw [show ct (ky W g) (j + 1) (ky W g i) = ct (ky W g) j (ky W g i) + (decide (ky W g j = ky W g i)).toNat from rfl] at ih2
      by_cases hx : ky W g j = ky W g i
      · rw [if_pos hx]
        simpa [hx] using ih2
      · rw [if_neg hx]
        simpa [hx] using ih2
end RC
