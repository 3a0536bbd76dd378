/-! ===== the law reckoned, both sides ===== -/
theorem nI_p1 {h : Nat} (q : 0 < h) : nI h + nN = nI (h - 1) := by
  rw [pI_a]
  obtain ⟨k, rfl⟩ : ∃ k, h = k + 1 := ⟨h - 1, by omega⟩
  rw [pI_s]
  rfl
theorem j_32 : (32 : Int32) = nI 32 := by decide
theorem Fr.sR {A : Nat → Nat → Prop} {z z' : gS} (h : Fr A z z') (hz : sR z) : sR z' := hz.to h.2.2
theorem ev1_n {fa : Nat → Int32} {s : lSt} : ev1 fa (-5) s = (fup s.1 (s.2 - 1) (if s.1 (s.2 - 1) = 0 then 1 else 0), s.2) := by
  unfold ev1
  rw [if_pos (by decide), if_pos rfl]
theorem ev1_b {fa : Nat → Int32} {s : lSt} {c : Int32} (h1 : c < -4) (h2 : ¬ c = -5) : ev1 fa c s = (fup s.1 (s.2 - 2) (jn c (s.1 (s.2 - 2)) (s.1 (s.2 - 1))), s.2 - 1) := by
  unfold ev1
  rw [if_pos h1, if_neg h2]
theorem ev1_p {fa : Nat → Int32} {s : lSt} {c : Int32} (h1 : ¬ c < -4) : ev1 fa c s = (fup s.1 s.2 (pv fa c), s.2 + 1) := by
  unfold ev1
  rw [if_neg h1]
section RC
variable {z : gS} {w t g b i : Nat} {S : sS} {W : sW} {P : Int32 → gS → Prop}
theorem c_isFading (hz : sR z) (ht : isS t) (hS : cS z t S) (hL : lwOK S) (hlen : (sLW S).length ≤ 1000) {m : sM} {lit n : Nat} (hm : m.2.2.2 < 2 ^ 31) (hP : ∀ z', Fr (fun a _ => a = t + 3) z z' → P (nI (fds S lit m n).toNat) z') : wX5_isFading 148 gSH (t + 1) (nI m.2.2.2) (nI (sHA S m.2.1)) (nI lit) (nI n) z P := by
  have hlen0 := hS.2.2.2.2.2.2.2.2.2.2.1
  have hcod := hS.2.2.2.2.2.2.2.2.2.2.2
  refine ⟨tO1 ht, ?_⟩
  rw [hlen0]
  unfold fds at hP
  by_cases h0 : sLW S = []
  · rw [h0]
    simp only [h0, if_true] at hP
    have h1 := hP z Fr.rf
    simp (disch := omega) only [Option.some.injEq, exists_eq_left', exists_eq_left, forall_eq, true_and, and_true, gr_si, gl_si, gr_sl, gi_sl, gr_sA, gl_sA, j_0, j_1, j_2, j_3, j_4, j_5, j_6, j_7, j_8, j_9, j_10, j_11, j_12, j_13, j_14, j_15, j_16, j_18, j_19, j_20, j_21, j_22, j_23, j_24, j_28, j_30, j_33, j_40, j_48, j_60, j_66, j_96, j_97, j_99, j_100, j_122, j_125, j_126, j_127, j_128, j_255, j_495, j_1000, j_1001, j_1023, j_1024, j_1100, j_1386, j_1452, j_9999, nN_1, nI_add, pk_mul, pk_sub, nI_clamp, vpI, nI_leI, nI_ltI, nI_eq, nN_eq, nN_eq', nN_lt, nN_nlt, nN_le, nN_nle, b_bit, n_bit, b_eq0, b_eq1, List.length_nil, if_true]
    by_cases hx : m.2.2.2 ≤ 8
    · rw [if_pos hx]
      rw [show decide (8 < m.2.2.2) = false by simp; omega] at h1
      exact h1
    · rw [if_neg hx]
      rw [show decide (8 < m.2.2.2) = true by simp; omega] at h1
      exact h1
  · have hl0 : (sLW S).length ≠ 0 := fun q => h0 (List.length_eq_zero_iff.mp q)
    rw [if_neg (nI_ne0 (by omega) (by omega))]
    simp only [h0, if_false] at hP
    have hK := hL.resolve_left h0
    refine (lp (fun m2 i => ∀ z1 (st : lSt), Fr (fun a _ => a = t + 3) z z1 → (∀ j, j < st.2 → gi z1 (t + 3) j = st.1 j) → st.2 ≤ 32 → lwK ((sLW S).drop i) st.2 → (evS (fac m.2.2.2 (sHA S m.2.1) lit n) ((sLW S).drop i) st).1 0 = (evS (fac m.2.2.2 (sHA S m.2.1) lit n) (sLW S) (fun _ => 0, 0)).1 0 → wX5_isFading_L25 148 gSH P m2 (t + 1) (nI m.2.2.2) (nI (sHA S m.2.1)) (nI lit) (nI n) (nI st.2) (nI i) z1) (sLW S).length (fun m2 z1 st hf hst h32 hk hv => ?_) (fun m2 i hi ih z1 st hf hst h32 hk hv => ?_)).imp (fun N q => q z (fun _ => 0, 0) Fr.rf (fun j hj => absurd hj (Nat.not_lt_zero j)) (by decide) hK rfl)
    · rw [List.drop_length] at hk hv
      have hk1 : st.2 = 1 := hk
      have hz1 := hf.sR hz
      have hlen1 : gi z1 (t + 1) 2 = nI (sLW S).length := (hf.1 _ _ (by omega)).trans hlen0
      unfold wX5_isFading_L25 wX5_isFading_B25
      simp (disch := omega) only [Option.some.injEq, exists_eq_left', exists_eq_left, forall_eq, true_and, and_true, gr_si, gl_si, gr_sl, gi_sl, gr_sA, gl_sA, j_0, j_1, j_2, j_3, j_4, j_5, j_6, j_7, j_8, j_9, j_10, j_11, j_12, j_13, j_14, j_15, j_16, j_18, j_19, j_20, j_21, j_22, j_23, j_24, j_28, j_30, j_33, j_40, j_48, j_60, j_66, j_96, j_97, j_99, j_100, j_122, j_125, j_126, j_127, j_128, j_255, j_495, j_1000, j_1001, j_1023, j_1024, j_1100, j_1386, j_1452, j_9999, nN_1, nI_add, pk_mul, pk_sub, nI_clamp, vpI, nI_leI, nI_ltI, nI_eq, nN_eq, nN_eq', nN_lt, nN_nlt, nN_le, nN_nle, b_bit, n_bit, b_eq0, b_eq1, tO1 ht, tRl1 hz1 ht, tA3 ht, tL3 ht, hlen1, Nat.le_refl, if_true]
      refine ⟨by decide, ?_⟩
      have h1 := hP z1 hf
      rw [← hv] at h1
      rw [hst 0 (by omega)]
      simp only [evS] at h1
      by_cases hx : st.1 0 = nI 0
      · rw [if_pos hx]
        have hx0 : st.1 0 = 0 := hx
        simpa [hx0] using h1
      · rw [if_neg hx]
        have hx0 : ¬ st.1 0 = 0 := hx
        simpa [hx0] using h1
    · rw [dropC hi] at hk hv
      have hz1 := hf.sR hz
      have hlen1 : gi z1 (t + 1) 2 = nI (sLW S).length := (hf.1 _ _ (by omega)).trans hlen0
      have hcod1 : gi z1 (t + 2) i = (sLW S).getD i 0 := (hf.1 _ _ (by omega)).trans (hcod i hi)
      rw [evS] at hv
      obtain ⟨hk12, hk2⟩ := hk
      generalize hc : (sLW S).getD i 0 = c at *
      unfold wX5_isFading_L25 wX5_isFading_B25
      refine ⟨tO1 ht, ?_⟩
      rw [hlen1, if_neg (nI_ge hi (by omega))]
      refine ⟨_, tRl0 hz1 ht, tA2 ht, by rw [tL2 ht]; exact vp_in_nI (by omega) (by decide), ?_⟩
      rw [nI_clamp (by omega), hcod1]
      intro v10 hv10
      subst hv10
      by_cases h4 : v10 < -4
      · rw [if_pos h4] at hk2 ⊢
        have hJ : ¬ v10 = -5 → wX5_isFading_J121 148 gSH (wX5_isFading_L25 148 gSH P m2) P (t + 1) (nI m.2.2.2) (nI (sHA S m.2.1)) (nI lit) (nI n) (nI st.2) (nI i) v10 z1 := by
          intro h5
          rw [if_neg h5] at hk2
          obtain ⟨hh, hk3⟩ := hk2
          unfold wX5_isFading_J121 wX5_isFading_J160
          simp (disch := omega) only [Option.some.injEq, exists_eq_left', exists_eq_left, forall_eq, true_and, and_true, gr_si, gl_si, gr_sl, gi_sl, gr_sA, gl_sA, j_0, j_1, j_2, j_3, j_4, j_5, j_6, j_7, j_8, j_9, j_10, j_11, j_12, j_13, j_14, j_15, j_16, j_18, j_19, j_20, j_21, j_22, j_23, j_24, j_28, j_30, j_33, j_40, j_48, j_60, j_66, j_96, j_97, j_99, j_100, j_122, j_125, j_126, j_127, j_128, j_255, j_495, j_1000, j_1001, j_1023, j_1024, j_1100, j_1386, j_1452, j_9999, nN_1, nI_add, pk_mul, pk_sub, nI_clamp, vpI, nI_leI, nI_ltI, nI_eq, nN_eq, nN_eq', nN_lt, nN_nlt, nN_le, nN_nle, b_bit, n_bit, b_eq0, b_eq1, nI_p1, tO1 ht, tRl1 hz1 ht, tA3 ht, tL3 ht, if_neg (show ¬ st.2 ≤ 1 by omega)]
          refine ⟨by omega, by omega, ?_⟩
          rw [hst _ (show st.2 - 1 - 1 < st.2 by omega), hst _ (show st.2 - 1 < st.2 by omega)]
          refine c_joined ⟨by omega, ?_⟩
          rw [ev1_b h4 h5] at hv
          refine ih _ (fup st.1 (st.2 - 2) (jn v10 (st.1 (st.2 - 2)) (st.1 (st.2 - 1))), st.2 - 1) (hf.si rfl) (fun j hj => ?_) (show st.2 - 1 ≤ 32 by omega) hk3 hv
          have hj2 : j < st.2 - 1 := hj
          rw [gi_si]
          unfold fup
          rw [show st.2 - 1 - 1 = st.2 - 2 by omega]
          by_cases e : j = st.2 - 2
          · rw [if_pos ⟨rfl, e⟩]
            simp only [e, if_true]
          · rw [if_neg (fun q => e q.2), hst j (by omega)]
            simp only [e, if_false]
        unfold wX5_isFading_J80
        by_cases h5 : v10 = -5
        · rw [if_pos h5] at hk2 ⊢
          obtain ⟨hh, hk3⟩ := hk2
          subst h5
          unfold wX5_isFading_J117 wX5_isFading_J160
          simp (disch := omega) only [Option.some.injEq, exists_eq_left', exists_eq_left, forall_eq, true_and, and_true, gr_si, gl_si, gr_sl, gi_sl, gr_sA, gl_sA, j_0, j_1, j_2, j_3, j_4, j_5, j_6, j_7, j_8, j_9, j_10, j_11, j_12, j_13, j_14, j_15, j_16, j_18, j_19, j_20, j_21, j_22, j_23, j_24, j_28, j_30, j_33, j_40, j_48, j_60, j_66, j_96, j_97, j_99, j_100, j_122, j_125, j_126, j_127, j_128, j_255, j_495, j_1000, j_1001, j_1023, j_1024, j_1100, j_1386, j_1452, j_9999, nN_1, nI_add, pk_mul, pk_sub, nI_clamp, vpI, nI_leI, nI_ltI, nI_eq, nN_eq, nN_eq', nN_lt, nN_nlt, nN_le, nN_nle, b_bit, n_bit, b_eq0, b_eq1, tO1 ht, tRl1 hz1 ht, tA3 ht, tL3 ht, if_neg (show ¬ st.2 ≤ 0 by omega)]
          refine ⟨by omega, ?_⟩
          rw [hst _ (show st.2 - 1 < st.2 by omega)]
          rw [ev1_n] at hv
          have hgo : ∀ v, v = (if st.1 (st.2 - 1) = 0 then (1 : Int32) else 0) → wX5_isFading_L25 148 gSH P m2 (t + 1) (nI m.2.2.2) (nI (sHA S m.2.1)) (nI lit) (nI n) (nI st.2) (nI (i + 1)) (si z1 (t + 3) (st.2 - 1) v) := by
            intro v ev
            refine ih _ (fup st.1 (st.2 - 1) (if st.1 (st.2 - 1) = 0 then 1 else 0), st.2) (hf.si rfl) (fun j hj => ?_) h32 hk3 hv
            rw [gi_si]
            unfold fup
            by_cases e : j = st.2 - 1
            · rw [if_pos ⟨rfl, e⟩]
              simp only [e, if_true, ev]
            · rw [if_neg (fun q => e q.2), hst j hj]
              simp only [e, if_false]
          by_cases hx : st.1 (st.2 - 1) = nI 0
          · rw [if_pos hx]
            exact ⟨by omega, hgo _ (by rw [if_pos (show st.1 (st.2 - 1) = 0 from hx)]; rfl)⟩
          · rw [if_neg hx]
            exact ⟨by omega, hgo _ (by rw [if_neg (show ¬ st.1 (st.2 - 1) = 0 from hx)]; rfl)⟩
        · rw [if_neg h5]
          exact hJ h5
      · rw [if_neg h4] at hk2 ⊢
        obtain ⟨hh, hk3⟩ := hk2
        rw [j_32, if_neg (nI_ge hh (by omega))]
        refine ⟨_, tRl1 hz1 ht, ?_⟩
        refine c_partOf (fa := fac m.2.2.2 (sHA S m.2.1) lit n) ⟨tA3 ht, by rw [tL3 ht]; exact vp_in_nI hh (by decide), ?_⟩
        unfold wX5_isFading_J160
        simp (disch := omega) only [Option.some.injEq, exists_eq_left', exists_eq_left, forall_eq, true_and, and_true, gr_si, gl_si, gr_sl, gi_sl, gr_sA, gl_sA, j_0, j_1, j_2, j_3, j_4, j_5, j_6, j_7, j_8, j_9, j_10, j_11, j_12, j_13, j_14, j_15, j_16, j_18, j_19, j_20, j_21, j_22, j_23, j_24, j_28, j_30, j_33, j_40, j_48, j_60, j_66, j_96, j_97, j_99, j_100, j_122, j_125, j_126, j_127, j_128, j_255, j_495, j_1000, j_1001, j_1023, j_1024, j_1100, j_1386, j_1452, j_9999, nN_1, nI_add, pk_mul, pk_sub, nI_clamp, vpI, nI_leI, nI_ltI, nI_eq, nN_eq, nN_eq', nN_lt, nN_nlt, nN_le, nN_nle, b_bit, n_bit, b_eq0, b_eq1]
        rw [ev1_p h4] at hv
        refine ih _ (fup st.1 st.2 (pv (fac m.2.2.2 (sHA S m.2.1) lit n) v10), st.2 + 1) (hf.si rfl) (fun j hj => ?_) (show st.2 + 1 ≤ 32 by omega) hk3 hv
        have hj2 : j < st.2 + 1 := hj
        rw [gi_si]
        unfold fup
        by_cases e : j = st.2
        · rw [if_pos ⟨rfl, e⟩]
          simp only [e, if_true]
        · rw [if_neg (fun q => e q.2), hst j (by omega)]
          simp only [e, if_false]
theorem opO_1 {c : Int32} (h : 0 ≤ c) : opO c = 1 ∧ opA c = c := by
  unfold opO opA
  rw [if_pos h, if_pos h]
  exact ⟨rfl, rfl⟩
theorem code_neg {c : Int32} (h1 : ¬ c < -4) (h2 : ¬ 0 ≤ c) : c = -1 ∨ c = -2 ∨ c = -3 ∨ c = -4 := by
  rw [Int32.lt_iff_toInt_lt, show (-4 : Int32).toInt = -4 by decide] at h1
  rw [Int32.le_iff_toInt_le, show (0 : Int32).toInt = 0 by decide] at h2
  have q : c.toInt = -1 ∨ c.toInt = -2 ∨ c.toInt = -3 ∨ c.toInt = -4 := by omega
  rcases q with q | q | q | q
  · exact Or.inl (eq_toInt (q.trans (by decide)))
  · exact Or.inr (Or.inl (eq_toInt (q.trans (by decide))))
  · exact Or.inr (Or.inr (Or.inl (eq_toInt (q.trans (by decide)))))
  · exact Or.inr (Or.inr (Or.inr (eq_toInt (q.trans (by decide)))))
theorem opO_ne {c : Int32} (h : -12 ≤ c) (h1 : c < -5) : opO c ≠ 0 ∧ opO c ≠ 1 ∧ opO c ≠ 2 ∧ opO c ≠ 3 := by
  have n0 : ¬ (0 : Int32) ≤ c := by
    rw [Int32.lt_iff_toInt_lt, show (-5 : Int32).toInt = -5 by decide] at h1
    rw [Int32.le_iff_toInt_le, show (0 : Int32).toInt = 0 by decide]
    omega
  have n4 : ¬ (-4 : Int32) ≤ c := by
    rw [Int32.lt_iff_toInt_lt, show (-5 : Int32).toInt = -5 by decide] at h1
    rw [Int32.le_iff_toInt_le, show (-4 : Int32).toInt = -4 by decide]
    omega
  have n5 : ¬ c = -5 := by
    intro q
    rw [q] at h1
    exact absurd h1 (by decide)
  unfold opO
  rw [if_neg n0, if_neg n4, if_neg n5]
  split
  · decide
  split
  · decide
  split
  · decide
  split
  · decide
  split
  · decide
  split <;> decide
theorem m_worthAt (hz : sR z) (hL : mL z S) (hne : sLW S ≠ []) (hK : lwK (sLW S) 0) (hlen : (sLW S).length ≤ 1000) {fa : Nat → Int32} (hfa : ∀ k, k < 4 → gi z 143 k = fa k) (hP : ∀ z', Fr (fun a _ => a = 144) z z' → P ((evS fa (sLW S) (fun _ => 0, 0)).1 0) z') : wX12_worthAt 148 gSH 129 (nI 0) z P := by
  refine (lp (fun m2 i => ∀ z1 (st : lSt), Fr (fun a _ => a = 144) z z1 → (∀ j, j < st.2 → gi z1 144 j = st.1 j) → st.2 ≤ 32 → lwK ((sLW S).drop i) st.2 → (evS fa ((sLW S).drop i) st).1 0 = (evS fa (sLW S) (fun _ => 0, 0)).1 0 → wX12_worthAt_L4 148 gSH P m2 129 (nI st.2) (nI i) z1) (sLW S).length (fun m2 z1 st hf hst h32 hk hv => ?_) (fun m2 i hi ih z1 st hf hst h32 hk hv => ?_)).imp (fun N q => q z (fun _ => 0, 0) Fr.rf (fun j hj => absurd hj (Nat.not_lt_zero j)) (by decide) hK rfl)
  · rw [List.drop_length] at hk hv
    have hk1 : st.2 = 1 := hk
    have hz1 := hf.sR hz
    have hop : gi z1 136 (sLW S).length = nI 0 := (hf.1 _ _ (by omega)).trans (hL.2.2 hne)
    unfold wX12_worthAt_L4 wX12_worthAt_B4
    simp (disch := omega) only [Option.some.injEq, exists_eq_left', exists_eq_left, forall_eq, true_and, and_true, gr_si, gl_si, gr_sl, gi_sl, gr_sA, gl_sA, j_0, j_1, j_2, j_3, j_4, j_5, j_6, j_7, j_8, j_9, j_10, j_11, j_12, j_13, j_14, j_15, j_16, j_18, j_19, j_20, j_21, j_22, j_23, j_24, j_28, j_30, j_33, j_40, j_48, j_60, j_66, j_96, j_97, j_99, j_100, j_122, j_125, j_126, j_127, j_128, j_255, j_495, j_1000, j_1001, j_1023, j_1024, j_1100, j_1386, j_1452, j_9999, nN_1, nI_add, pk_mul, pk_sub, nI_clamp, vpI, nI_leI, nI_ltI, nI_eq, nN_eq, nN_eq', nN_lt, nN_nlt, nN_le, nN_nle, b_bit, n_bit, b_eq0, b_eq1, mO, mR11 hz1, mA136, mL136, mR23 hz1, mA144, mL144, hop, if_true]
    refine ⟨by omega, by decide, ?_⟩
    rw [hst 0 (by omega)]
    rw [evS] at hv
    rw [hv]
    exact hP z1 hf
  · rw [dropC hi] at hk hv
    have hz1 := hf.sR hz
    obtain ⟨o1, o2⟩ := hL.2.1 i hi
    have hop : gi z1 136 i = opO ((sLW S).getD i 0) := (hf.1 _ _ (by omega)).trans o1
    have har : gi z1 137 i = opA ((sLW S).getD i 0) := (hf.1 _ _ (by omega)).trans o2
    have hfa1 : ∀ k, k < 4 → gi z1 143 k = fa k := fun k hk => (hf.1 _ _ (by omega)).trans (hfa k hk)
    rw [evS] at hv
    obtain ⟨hk12, hk2⟩ := hk
    generalize hc : (sLW S).getD i 0 = c at *
    unfold wX12_worthAt_L4 wX12_worthAt_B4
    simp (disch := omega) only [Option.some.injEq, exists_eq_left', exists_eq_left, forall_eq, true_and, and_true, gr_si, gl_si, gr_sl, gi_sl, gr_sA, gl_sA, nN_1, nI_add, pk_mul, pk_sub, nI_clamp, vpI, nI_leI, nI_ltI, nI_eq, nN_eq, nN_eq', nN_lt, nN_nlt, nN_le, nN_nle, b_bit, n_bit, b_eq0, b_eq1, mO, mR11 hz1, mR12 hz1, mA136, mL136, mA137, mL137, mR23 hz1, mA144, mL144, hop]
    refine ⟨by omega, ?_⟩
    by_cases h4 : c < -4
    · rw [if_pos h4] at hk2
      by_cases h5 : c = -5
      · rw [if_pos h5] at hk2
        obtain ⟨hh, hk3⟩ := hk2
        subst h5
        rw [show opO (-5) = 3 by decide, if_neg (by decide)]
        refine ⟨by omega, ?_⟩
        rw [if_neg (by decide), if_neg (by decide), if_pos rfl]
        rw [j_1]
        unfold wX12_worthAt_J100 wX12_worthAt_J134
        simp (disch := omega) only [Option.some.injEq, exists_eq_left', exists_eq_left, forall_eq, true_and, and_true, gr_si, gl_si, gr_sl, gi_sl, gr_sA, gl_sA, j_0, j_1, j_2, j_3, j_4, j_5, j_6, j_7, j_8, j_9, j_10, j_11, j_12, j_13, j_14, j_15, j_16, j_18, j_19, j_20, j_21, j_22, j_23, j_24, j_28, j_30, j_33, j_40, j_48, j_60, j_66, j_96, j_97, j_99, j_100, j_122, j_125, j_126, j_127, j_128, j_255, j_495, j_1000, j_1001, j_1023, j_1024, j_1100, j_1386, j_1452, j_9999, nN_1, nI_add, pk_mul, pk_sub, nI_clamp, vpI, nI_leI, nI_ltI, nI_eq, nN_eq, nN_eq', nN_lt, nN_nlt, nN_le, nN_nle, b_bit, n_bit, b_eq0, b_eq1, mA144, mL144]
        refine ⟨by omega, ?_⟩
        rw [hst _ (show st.2 - 1 < st.2 by omega)]
        rw [ev1_n] at hv
        have hgo : ∀ v, v = (if st.1 (st.2 - 1) = 0 then (1 : Int32) else 0) → wX12_worthAt_L4 148 gSH P m2 129 (nI st.2) (nI (i + 1)) (si z1 144 (st.2 - 1) v) := by
          intro v ev
          refine ih _ (fup st.1 (st.2 - 1) (if st.1 (st.2 - 1) = 0 then 1 else 0), st.2) (hf.si rfl) (fun j hj => ?_) h32 hk3 hv
          rw [gi_si]
          unfold fup
          by_cases e : j = st.2 - 1
          · rw [if_pos ⟨rfl, e⟩]
            simp only [e, if_true, ev]
          · rw [if_neg (fun q => e q.2), hst j hj]
            simp only [e, if_false]
        by_cases hx : st.1 (st.2 - 1) = nI 0
        · rw [if_pos hx]
          exact ⟨by omega, hgo _ (by rw [if_pos (show st.1 (st.2 - 1) = 0 from hx)]; rfl)⟩
        · rw [if_neg hx]
          exact ⟨by omega, hgo _ (by rw [if_neg (show ¬ st.1 (st.2 - 1) = 0 from hx)]; rfl)⟩
      · rw [if_neg h5] at hk2
        obtain ⟨hh, hk3⟩ := hk2
        have h6 : c < -5 := by
          rw [Int32.lt_iff_toInt_lt] at h4 ⊢
          have q : c.toInt ≠ (-5 : Int32).toInt := fun q => h5 (eq_toInt q)
          have e1 : (-4 : Int32).toInt = -4 := by decide
          have e2 : (-5 : Int32).toInt = -5 := by decide
          omega
        obtain ⟨n0, n1, n2, n3⟩ := opO_ne hk12 h6
        rw [if_neg n0]
        refine ⟨by omega, ?_⟩
        rw [if_neg n1, if_neg n2, if_neg n3]
        unfold wX12_worthAt_J134
        simp (disch := omega) only [Option.some.injEq, exists_eq_left', exists_eq_left, forall_eq, true_and, and_true, gr_si, gl_si, gr_sl, gi_sl, gr_sA, gl_sA, j_0, j_1, j_2, j_3, j_4, j_5, j_6, j_7, j_8, j_9, j_10, j_11, j_12, j_13, j_14, j_15, j_16, j_18, j_19, j_20, j_21, j_22, j_23, j_24, j_28, j_30, j_33, j_40, j_48, j_60, j_66, j_96, j_97, j_99, j_100, j_122, j_125, j_126, j_127, j_128, j_255, j_495, j_1000, j_1001, j_1023, j_1024, j_1100, j_1386, j_1452, j_9999, nN_1, nI_add, pk_mul, pk_sub, nI_clamp, vpI, nI_leI, nI_ltI, nI_eq, nN_eq, nN_eq', nN_lt, nN_nlt, nN_le, nN_nle, b_bit, n_bit, b_eq0, b_eq1, nI_p1, mA144, mL144]
        refine ⟨by omega, by omega, ?_⟩
        rw [hst _ (show st.2 - 1 - 1 < st.2 by omega), hst _ (show st.2 - 1 < st.2 by omega)]
        refine m_both h6 hk12 ⟨by omega, ?_⟩
        rw [ev1_b h4 h5] at hv
        refine ih _ (fup st.1 (st.2 - 2) (jn c (st.1 (st.2 - 2)) (st.1 (st.2 - 1))), st.2 - 1) (hf.si rfl) (fun j hj => ?_) (show st.2 - 1 ≤ 32 by omega) hk3 hv
        have hj2 : j < st.2 - 1 := hj
        rw [gi_si]
        unfold fup
        rw [show st.2 - 1 - 1 = st.2 - 2 by omega]
        by_cases e : j = st.2 - 2
        · rw [if_pos ⟨rfl, e⟩]
          simp only [e, if_true]
        · rw [if_neg (fun q => e q.2), hst j (by omega)]
          simp only [e, if_false]
    · rw [if_neg h4] at hk2
      obtain ⟨hh, hk3⟩ := hk2
      rw [ev1_p h4] at hv
      have hgo : ∀ v, v = pv fa c → wX12_worthAt_L4 148 gSH P m2 129 (nI (st.2 + 1)) (nI (i + 1)) (si z1 144 st.2 v) := by
        intro v ev
        refine ih _ (fup st.1 st.2 (pv fa c), st.2 + 1) (hf.si rfl) (fun j hj => ?_) (show st.2 + 1 ≤ 32 by omega) hk3 hv
        have hj2 : j < st.2 + 1 := hj
        rw [gi_si]
        unfold fup
        by_cases e : j = st.2
        · rw [if_pos ⟨rfl, e⟩]
          simp only [e, if_true, ev]
        · rw [if_neg (fun q => e q.2), hst j (by omega)]
          simp only [e, if_false]
      by_cases hc0 : 0 ≤ c
      · obtain ⟨q1, q2⟩ := opO_1 hc0
        rw [q1, if_neg (by decide)]
        refine ⟨by omega, ?_⟩
        rw [if_pos rfl]
        unfold wX12_worthAt_J33 wX12_worthAt_J64 wX12_worthAt_J134
        simp (disch := omega) only [eq_self, if_true, Option.some.injEq, exists_eq_left', exists_eq_left, forall_eq, true_and, and_true, gr_si, gl_si, gr_sl, gi_sl, gr_sA, gl_sA, j_0, j_1, j_2, j_3, j_4, j_5, j_6, j_7, j_8, j_9, j_10, j_11, j_12, j_13, j_14, j_15, j_16, j_18, j_19, j_20, j_21, j_22, j_23, j_24, j_28, j_30, j_33, j_40, j_48, j_60, j_66, j_96, j_97, j_99, j_100, j_122, j_125, j_126, j_127, j_128, j_255, j_495, j_1000, j_1001, j_1023, j_1024, j_1100, j_1386, j_1452, j_9999, nN_1, nI_add, pk_mul, pk_sub, nI_clamp, vpI, nI_leI, nI_ltI, nI_eq, nN_eq, nN_eq', nN_lt, nN_nlt, nN_le, nN_nle, b_bit, n_bit, b_eq0, b_eq1, mO, mR12 hz1, mA137, mL137, mR23 hz1, mA144, mL144, har, q2]
        refine ⟨by omega, by omega, hgo c ?_⟩
        unfold pv
        have nn : ∀ k : Int32, k.toInt < 0 → ¬ c = k := by
          intro k hk q
          rw [q, Int32.le_iff_toInt_le] at hc0
          have e0 : (0 : Int32).toInt = 0 := by decide
          omega
        rw [if_neg (nn (-4) (by decide)), if_neg (nn (-3) (by decide)), if_neg (nn (-2) (by decide)), if_neg (nn (-1) (by decide))]
      · obtain ⟨k, hk, q1, q2, q3⟩ : ∃ k : Nat, k < 4 ∧ opO c = 2 ∧ opA c = nI k ∧ pv fa c = fa k := by
          rcases code_neg h4 hc0 with rfl | rfl | rfl | rfl
          · exact ⟨0, by decide, by decide, by decide, rfl⟩
          · exact ⟨1, by decide, by decide, by decide, rfl⟩
          · exact ⟨2, by decide, by decide, by decide, rfl⟩
          · exact ⟨3, by decide, by decide, by decide, rfl⟩
        rw [q1, if_neg (by decide)]
        refine ⟨by omega, ?_⟩
        rw [if_neg (by decide), if_pos rfl]
        unfold wX12_worthAt_J33 wX12_worthAt_J64 wX12_worthAt_J134
        simp (disch := omega) only [if_neg (show ¬ (2 : Nat) = 1 by decide), Option.some.injEq, exists_eq_left', exists_eq_left, forall_eq, true_and, and_true, gr_si, gl_si, gr_sl, gi_sl, gr_sA, gl_sA, j_0, j_1, j_2, j_3, j_4, j_5, j_6, j_7, j_8, j_9, j_10, j_11, j_12, j_13, j_14, j_15, j_16, j_18, j_19, j_20, j_21, j_22, j_23, j_24, j_28, j_30, j_33, j_40, j_48, j_60, j_66, j_96, j_97, j_99, j_100, j_122, j_125, j_126, j_127, j_128, j_255, j_495, j_1000, j_1001, j_1023, j_1024, j_1100, j_1386, j_1452, j_9999, nN_1, nI_add, pk_mul, pk_sub, nI_clamp, vpI, nI_leI, nI_ltI, nI_eq, nN_eq, nN_eq', nN_lt, nN_nlt, nN_le, nN_nle, b_bit, n_bit, b_eq0, b_eq1, mO, mR12 hz1, mA137, mL137, mR22 hz1, mA143, mL143, mR23 hz1, mA144, mL144, har, q2, hfa1]
        exact ⟨by omega, by omega, by omega, hgo _ q3.symm⟩
end RC
