/-! ===== what is done in a world ===== -/
def wrC (w : Nat) : Nat → Nat → Prop := fun a k => (a = w ∧ k ≤ 2) ∨ (w + 1 ≤ a ∧ a ≤ w + 3)
def wrM (b : Nat) : Nat → Nat → Prop := fun a k => a = 145 ∧ b ≤ k ∧ k < b + 60
def wrCt (w t : Nat) : Nat → Nat → Prop := fun a k => wrC w a k ∨ a = t + 3
def wrMt (b : Nat) : Nat → Nat → Prop := fun a k => wrM b a k ∨ a = 143 ∨ a = 144
theorem isW.dj {w : Nat} (h : isW w) : 3 ≤ w ∧ (w ≤ 73 ∨ 113 ≤ w ∧ w ≤ 125) := by
  have : ∀ w ∈ gWs, 3 ≤ w ∧ (w ≤ 73 ∨ 113 ≤ w ∧ w ≤ 125) := by decide
  exact this w h
theorem cS.fr2 {z z' : gS} {t : Nat} {S : sS} (h : cS z t S) (hs : ∀ a k, t ≤ a → a ≤ t + 9 → a ≠ t + 3 → gi z' a k = gi z a k) : cS z' t S := by
  obtain ⟨h1, h2, h3, h4, h5, h6, h7, h8, h9, h10, h11, h12⟩ := h
  refine ⟨?_, ?_, ?_, ?_, fun p hp => ?_, fun p hp => ?_, fun p hp => ?_, fun p hp => ?_, fun p hp => ?_, fun p hp => ?_, ?_, fun p hp => ?_⟩ <;> rw [hs _ _ (by omega) (by omega) (by omega)]
  · exact h1
  · exact h2
  · exact h3
  · exact h4
  · exact h5 p hp
  · exact h6 p hp
  · exact h7 p hp
  · exact h8 p hp
  · exact h9 p hp
  · exact h10 p hp
  · exact h11
  · exact h12 p hp
theorem CW.up {z z' : gS} {t w : Nat} {S : sS} {W W' : sW} (h : CW z t w S W) (hf : Fr (wrCt w t) z z') (hwk : wOK S W') (hT : wT W' < 2 ^ 20) (hW : cW z' w S W') : CW z' t w S W' := by
  obtain ⟨hz, ht, hw, hok, _, _, hS, _⟩ := h
  have h1 := hw.dj
  have h2 := ht.le
  exact ⟨hf.sR hz, ht, hw, hok, hwk, hT, hS.fr2 (fun a k q1 q2 q3 => hf.1 a k (by unfold wrCt wrC; omega)), hW⟩
theorem MW.up {z z' : gS} {b : Nat} {S : sS} {W W' : sW} (h : MW z b S W) (hf : Fr (wrMt b) z z') (hwk : wOK S W') (hT : wT W' < 2 ^ 20) (hW : mW z' b S W') : MW z' b S W' := by
  obtain ⟨hz, hok, _, _, hS, _, hb⟩ := h
  exact ⟨hf.sR hz, hok, hwk, hT, hS.fr (fun k => hf.1 135 k (by unfold wrMt wrM; omega)), hW, hb⟩
theorem mkC_or : ∀ p, p < 8 → ∀ d, d < 8 → ∀ c, c < 16 → ((nI p <<< (nI 7 &&& 31)) ||| (nI d <<< (nI 4 &&& 31))) ||| nI c = nI (mkC (p, d, c, 0)) := by decide +kernel
theorem mkM_or : ∀ p, p < 8 → ∀ d, d < 8 → ∀ c, c < 16 → ((nI c <<< (nI 6 &&& 31)) ||| (nI d <<< (nI 3 &&& 31))) ||| nI p = nI (mkM (p, d, c, 0)) := by decide +kernel
def acM (S : sS) (W : sW) (p d g : Nat) : List sM := if g < sPA S ∧ sSi S W g (wC W p) = true then adM (sKP S g) (wM W g) (p, d, wC W p, 0) else wM W g
def acW (S : sS) (W : sW) (p d : Nat) : sW := (wT W, wC W, wD W, wG W, acM S W p d)
theorem acW_ok {S : sS} {W : sW} (hok : sOK S) (hwk : wOK S W) {p d : Nat} (hp : p < sPE S) (hd : d < sDE S) : wOK S (acW S W p d) := by
  obtain ⟨h1, h2, h3, h4⟩ := hwk
  refine ⟨h1, h2, fun g hg => ?_, fun g hg m hm => ?_⟩
  · show (acM S W p d g).length ≤ _
    unfold acM
    split
    · exact adM_len (hok.2.2.2.2.2.1 g hg).1 (h3 g hg)
    · exact h3 g hg
  · change m ∈ acM S W p d g at hm
    unfold acM at hm
    split at hm
    · unfold adM at hm
      rcases List.mem_append.mp hm with q | q
      · refine h4 g hg m ?_
        split at q
        · exact q
        · exact List.mem_of_mem_eraseIdx q
      · rw [List.mem_singleton] at q
        subst q
        exact ⟨⟨hp, hd, h1 p hp⟩, Nat.zero_le _⟩
    · exact h4 g hg m hm
section RC
variable {z : gS} {w t g b i : Nat} {S : sS} {W : sW} {P : Int32 → gS → Prop} {R : gS → Prop}
theorem CW.row (h : CW z t w S W) (hg : g < sPA S) : rowC z w g (wM W g) := ⟨h.2.2.2.2.2.2.2.2.2.2.2.1 g hg, h.2.2.2.2.2.2.2.2.2.2.2.2 g hg⟩
theorem MW.row (h : MW z b S W) (hg : g < sPA S) : rowM z b g (wM W g) := ⟨h.2.2.2.2.2.1.2.2.2.2.1 g hg, h.2.2.2.2.2.1.2.2.2.2.2 g hg⟩
theorem c_act (h : CW z t w S W) {p d : Nat} (hp : p < sPE S) (hd : d < sDE S) (hP : ∀ z', CW z' t w S (acW S W p d) → Fr (wrC w) z z' → P (nI (sWa S W (wC W p))) z') : wX10_act 148 gSH w t (nI p) (nI d) z P := by
  have hh := h
  obtain ⟨hz, ht, hw, hok, hwk, hT, hS, hW⟩ := h
  have h6 := hok.1
  have h5 := hok.2.1
  have h3 := hok.2.2.1
  have hwd := hw.dj
  have htl := ht.le
  have hc := hwk.1 p hp
  have hl6 : ∀ g, g < sPA S → (wM W g).length ≤ 6 := fun g hg => ln_le hok hwk hg
  unfold wX10_act
  simp (disch := omega) only [Option.some.injEq, exists_eq_left', exists_eq_left, forall_eq, true_and, and_true, gr_si, gl_si, gr_sl, gi_sl, gr_sA, gl_sA, j_0, j_1, j_2, j_3, j_4, j_5, j_6, j_7, j_8, j_9, j_10, j_11, j_12, j_13, j_14, j_15, j_16, j_18, j_19, j_20, j_21, j_22, j_23, j_24, j_28, j_30, j_33, j_40, j_48, j_60, j_66, j_96, j_97, j_99, j_100, j_122, j_125, j_126, j_127, j_128, j_255, j_495, j_1000, j_1001, j_1023, j_1024, j_1100, j_1386, j_1452, j_9999, nN_1, nI_add, pk_mul, pk_sub, nI_clamp, vpI, nI_leI, nI_ltI, nI_eq, nN_eq, nN_eq', nN_lt, nN_nlt, nN_le, nN_nle, b_bit, n_bit, b_eq0, b_eq1, wO hw, wA1 hw, wA2 hw, wA3 hw, wL1 hw, wL2 hw, wL3 hw, wR5 hz hw, wR6 hz hw, wR7 hz hw, tO ht, tO1 ht, tA2 ht, tL2 ht, tA3 ht, tL3 ht, tA4 ht, tL4 ht, tA5 ht, tL5 ht, tA6 ht, tL6 ht, tA7 ht, tL7 ht, tA8 ht, tL8 ht, tA9 ht, tL9 ht, tR0 hz ht, tR1 hz ht, tR2 hz ht, tR3 hz ht, tR4 hz ht, tR5 hz ht, tR6 hz ht, tRl0 hz ht, tRl1 hz ht, hW.2.2.2.1 p hp]
  refine ⟨by omega, c_watchersOf hz hw ht hS hW hok (by omega) hc ?_⟩
  refine (lp (fun m k => ∀ z1, Fr (fun a k => w + 2 ≤ a ∧ a ≤ w + 3) z z1 → (∀ g, g < sPA S → rowC z1 w g (if g < k then acM S W p d g else wM W g)) → wX10_act_L20 148 gSH P m w t (nI p) (nI d) (nI (wC W p)) (nI (sWa S W (wC W p))) (nI k) z1) (sPA S) (fun m z1 hf hr => ?_) (fun m k hk ih z1 hf hr => ?_)).imp (fun N q => q z Fr.rf (fun g hg => by rw [if_neg (by omega)]; exact hh.row hg))
  · have hz1 := hf.sR hz
    have hS1 : cS z1 t S := hS.fr (fun a k q1 q2 => hf.1 a k (by omega))
    unfold wX10_act_L20 wX10_act_B20
    simp (disch := omega) only [Option.some.injEq, exists_eq_left', exists_eq_left, forall_eq, true_and, and_true, gr_si, gl_si, gr_sl, gi_sl, gr_sA, gl_sA, j_0, j_1, j_2, j_3, j_4, j_5, j_6, j_7, j_8, j_9, j_10, j_11, j_12, j_13, j_14, j_15, j_16, j_18, j_19, j_20, j_21, j_22, j_23, j_24, j_28, j_30, j_33, j_40, j_48, j_60, j_66, j_96, j_97, j_99, j_100, j_122, j_125, j_126, j_127, j_128, j_255, j_495, j_1000, j_1001, j_1023, j_1024, j_1100, j_1386, j_1452, j_9999, nN_1, nI_add, pk_mul, pk_sub, nI_clamp, vpI, nI_leI, nI_ltI, nI_eq, nN_eq, nN_eq', nN_lt, nN_nlt, nN_le, nN_nle, b_bit, n_bit, b_eq0, b_eq1, wO hw, wA1 hw, wA2 hw, wA3 hw, wL1 hw, wL2 hw, wL3 hw, wR5 hz hw, wR6 hz hw, wR7 hz hw, tO ht, tO1 ht, tA2 ht, tL2 ht, tA3 ht, tL3 ht, tA4 ht, tL4 ht, tA5 ht, tL5 ht, tA6 ht, tL6 ht, tA7 ht, tL7 ht, tA8 ht, tL8 ht, tA9 ht, tL9 ht, tR0 hz ht, tR1 hz ht, tR2 hz ht, tR3 hz ht, tR4 hz ht, tR5 hz ht, tR6 hz ht, tRl0 hz ht, tRl1 hz ht, hS1.1, Nat.le_refl, if_true]
    have hfr : Fr (wrC w) z z1 := hf.mono (fun a k q => Or.inr ⟨by omega, by omega⟩)
    refine hP z1 (hh.up (hfr.mono (fun a k q => Or.inl q)) (acW_ok hok hwk hp hd) hT ⟨?_, ?_, ?_, fun q hq => ?_, fun g hg => ?_, fun g hg => ?_⟩) hfr
    · exact (hf.1 _ _ (by omega)).trans hW.1
    · exact (hf.1 _ _ (by omega)).trans hW.2.1
    · exact (hf.1 _ _ (by omega)).trans hW.2.2.1
    · exact (hf.1 _ _ (by omega)).trans (hW.2.2.2.1 q hq)
    · have := (hr g hg).1
      rw [if_pos hg] at this
      exact this
    · have := (hr g hg).2
      rw [if_pos hg] at this
      exact this
  · have hz1 := hf.sR hz
    have hS1 : cS z1 t S := hS.fr (fun a k q1 q2 => hf.1 a k (by omega))
    have hkp := hok.2.2.2.2.2.1 k hk
    have hrk := hr k hk
    rw [if_neg (Nat.lt_irrefl k)] at hrk
    unfold wX10_act_L20 wX10_act_B20 wX10_act_J63
    rw [show sWa S W (wC W p) = bs (sPA S) (fun q => sSi S W q (wC W p)) from rfl] at ih ⊢
    simp (disch := omega) only [Option.some.injEq, exists_eq_left', exists_eq_left, forall_eq, true_and, and_true, gr_si, gl_si, gr_sl, gi_sl, gr_sA, gl_sA, j_0, j_1, j_2, j_3, j_4, j_5, j_6, j_7, j_8, j_9, j_10, j_11, j_12, j_13, j_14, j_15, j_16, j_18, j_19, j_20, j_21, j_22, j_23, j_24, j_28, j_30, j_33, j_40, j_48, j_60, j_66, j_96, j_97, j_99, j_100, j_122, j_125, j_126, j_127, j_128, j_255, j_495, j_1000, j_1001, j_1023, j_1024, j_1100, j_1386, j_1452, j_9999, nN_1, nI_add, pk_mul, pk_sub, nI_clamp, vpI, nI_leI, nI_ltI, nI_eq, nN_eq, nN_eq', nN_lt, nN_nlt, nN_le, nN_nle, b_bit, n_bit, b_eq0, b_eq1, wO hw, wA1 hw, wA2 hw, wA3 hw, wL1 hw, wL2 hw, wL3 hw, wR5 hz hw, wR6 hz hw, wR7 hz hw, tO ht, tA5 ht, tL5 ht, tR2 hz1 ht, hS1.1, if_neg (show ¬ sPA S ≤ k by omega), hS1.2.2.2.2.2.1 k hk]
    by_cases hs : sSi S W k (wC W p) = false
    · rw [if_pos hs]
      refine ih z1 hf (fun g hg => ?_)
      by_cases e : g = k
      · subst e
        rw [if_pos (Nat.lt_succ_self g)]
        unfold acM
        rw [if_neg (by rw [hs]; simp)]
        exact hrk
      · have := hr g hg
        by_cases e2 : g < k
        · rw [if_pos e2] at this
          rw [if_pos (by omega)]
          exact this
        · rw [if_neg e2] at this
          rw [if_neg (by omega)]
          exact this
    · rw [if_neg hs]
      have hs1 : sSi S W k (wC W p) = true := by simpa using hs
      refine ⟨by omega, ?_⟩
      rw [mkC_or p (by omega) d (by omega) _ (by omega)]
      refine r_add hz1 hw (by omega) hrk hkp.1 hkp.2 (hwk.2.2.1 k hk) (fun z2 hf2 h2 => ?_)
      refine ih z2 (hf.tr hf2 (fun _ _ q => q) (fun a j q => by unfold aC at q; omega)) (fun g hg => ?_)
      by_cases e : g = k
      · subst e
        rw [if_pos (Nat.lt_succ_self g)]
        unfold acM
        rw [if_pos ⟨hg, hs1⟩]
        exact h2
      · have hg2 := hr g hg
        have hg3 : rowC z2 w g (if g < k then acM S W p d g else wM W g) := by
          refine hg2.fr ?_ (fun a j q => hf2.1 a j (by unfold aC at q ⊢; omega))
          split
          · have := (acW_ok hok hwk hp hd).2.2.1 g hg
            have := (hok.2.2.2.2.2.1 g hg).2
            change (acM S W p d g).length ≤ _ at *
            omega
          · exact hl6 g hg
        by_cases e2 : g < k
        · rw [if_pos e2] at hg3
          rw [if_pos (by omega)]
          exact hg3
        · rw [if_neg e2] at hg3
          rw [if_neg (by omega)]
          exact hg3
theorem m_does (h : MW z b S W) {p d : Nat} (hp : p < sPE S) (hd : d < sDE S) (hP : ∀ z', MW z' b S (acW S W p d) → Fr (wrM b) z z' → P (nI (sWa S W (wC W p))) z') : wX12_does 148 gSH 129 (nI b) (nI p) (nI d) (nI (wC W p)) z P := by
  have hh := h
  obtain ⟨hz, hok, hwk, hT, hS, hW, hb⟩ := h
  have h6 := hok.1
  have h5 := hok.2.1
  have h3 := hok.2.2.1
  have hc := hwk.1 p hp
  have hl6 : ∀ g, g < sPA S → (wM W g).length ≤ 6 := fun g hg => ln_le hok hwk hg
  refine ⟨mO, m_seersOf hz hS hW hok (by omega) hb hc ?_⟩
  refine (lp (fun m k => ∀ z1, Fr (fun a k => a = 145 ∧ b + 18 ≤ k ∧ k < b + 60) z z1 → (∀ g, g < sPA S → rowM z1 b g (if g < k then acM S W p d g else wM W g)) → wX12_does_L12 148 gSH P m 129 (nI b) (nI p) (nI d) (nI (wC W p)) (nI (sWa S W (wC W p))) (nI k) z1) (sPA S) (fun m z1 hf hr => ?_) (fun m k hk ih z1 hf hr => ?_)).imp (fun N q => q z Fr.rf (fun g hg => by rw [if_neg (by omega)]; exact hh.row hg))
  · have hz1 := hf.sR hz
    have hS1 : mS z1 S := hS.fr (fun k => hf.1 135 k (by omega))
    unfold wX12_does_L12 wX12_does_B12
    refine ⟨mO, m_panes hz1 hS1 ?_⟩
    rw [if_pos (nI_le (by omega) (by omega))]
    have hfr : Fr (wrM b) z z1 := hf.mono (fun a k q => ⟨q.1, by omega, by omega⟩)
    refine hP z1 (hh.up (hfr.mono (fun a k q => Or.inl q)) (acW_ok hok hwk hp hd) hT ⟨?_, fun q hq => ?_, fun g hg => ?_, fun g hg => ?_, fun g hg => ?_, fun g hg => ?_⟩) hfr
    · exact (hf.1 _ _ (by omega)).trans hW.1
    · exact (hf.1 _ _ (by omega)).trans (hW.2.1 q hq)
    · exact (hf.1 _ _ (by omega)).trans (hW.2.2.1 g hg)
    · exact (hf.1 _ _ (by omega)).trans (hW.2.2.2.1 g hg)
    · have := (hr g hg).1
      rw [if_pos hg] at this
      exact this
    · have := (hr g hg).2
      rw [if_pos hg] at this
      exact this
  · have hz1 := hf.sR hz
    have hS1 : mS z1 S := hS.fr (fun k => hf.1 135 k (by omega))
    have hkp := hok.2.2.2.2.2.1 k hk
    have hrk := hr k hk
    rw [if_neg (Nat.lt_irrefl k)] at hrk
    have hlk := hwk.2.2.1 k hk
    unfold wX12_does_L12 wX12_does_B12
    refine ⟨mO, m_panes hz1 hS1 ?_⟩
    rw [if_neg (nI_ge hk (by omega))]
    rw [show sWa S W (wC W p) = bs (sPA S) (fun q => sSi S W q (wC W p)) from rfl] at ih ⊢
    have hJ : ∀ z2 l, Fr (aM b k) z1 z2 → rowM z2 b k l → l.length < 6 → acM S W p d k = l ++ [(p, d, wC W p, 0)] → wX12_does_J62 148 gSH (wX12_does_L12 148 gSH P m) P 129 (nI b) (nI p) (nI d) (nI (wC W p)) (nI (bs (sPA S) (fun q => sSi S W q (wC W p)))) (nI k) z2 := by
      intro z2 l hf2 hr2 hl2 ea
      have hz2 := hf2.sR hz1
      unfold wX12_does_J62 wX12_does_J117
      simp (disch := omega) only [Option.some.injEq, exists_eq_left', exists_eq_left, forall_eq, true_and, and_true, gr_si, gl_si, gr_sl, gi_sl, gr_sA, gl_sA, j_0, j_1, j_2, j_3, j_4, j_5, j_6, j_7, j_8, j_9, j_10, j_11, j_12, j_13, j_14, j_15, j_16, j_18, j_19, j_20, j_21, j_22, j_23, j_24, j_28, j_30, j_33, j_40, j_48, j_60, j_66, j_96, j_97, j_99, j_100, j_122, j_125, j_126, j_127, j_128, j_255, j_495, j_1000, j_1001, j_1023, j_1024, j_1100, j_1386, j_1452, j_9999, nN_1, nI_add, pk_mul, pk_sub, nI_clamp, vpI, nI_leI, nI_ltI, nI_eq, nN_eq, nN_eq', nN_lt, nN_nlt, nN_le, nN_nle, b_bit, n_bit, b_eq0, b_eq1, mO, mR24 hz2, mA145, mL145, hr2.1, mkM_or p (show p < 8 by omega) d (show d < 8 by omega) (wC W p) (show wC W p < 16 by omega)]
      refine ⟨by omega, by omega, ?_⟩
      rw [gi_si, if_neg (by omega), hr2.1, nI_add]
      have hf3 : Fr (aM b k) z1 (si (si z2 145 (b + 24 + 6 * k + l.length) (nI (mkM (p, d, wC W p, 0)))) 145 (b + 18 + k) (nI (l.length + 1))) := (hf2.si ⟨rfl, Or.inr ⟨by omega, by omega⟩⟩).si ⟨rfl, Or.inl rfl⟩
      refine ⟨by omega, by omega, ?_⟩
      refine ih _ (hf.tr hf3 (fun _ _ q => q) (fun a j q => by unfold aM at q; omega)) (fun g hg => ?_)
      by_cases e : g = k
      · subst e
        rw [if_pos (Nat.lt_succ_self g), ea]
        refine ⟨?_, fun i hi => ?_⟩
        · rw [gi_si, if_pos ⟨rfl, rfl⟩, List.length_append]
          rfl
        · rw [List.length_append] at hi
          simp only [List.length_cons, List.length_nil] at hi
          rw [gi_si, if_neg (by omega), gi_si]
          by_cases e : i = l.length
          · subst e
            rw [if_pos ⟨rfl, rfl⟩, gd_al]
          · rw [if_neg (by omega), gd_ap (by omega), hr2.2 i (by omega)]
      · have hg2 := hr g hg
        have hg3 : rowM (si (si z2 145 (b + 24 + 6 * k + l.length) (nI (mkM (p, d, wC W p, 0)))) 145 (b + 18 + k) (nI (l.length + 1))) b g (if g < k then acM S W p d g else wM W g) := by
          refine hg2.fr ?_ (fun a j q => hf3.1 a j (by unfold aM at q ⊢; omega))
          split
          · have := (acW_ok hok hwk hp hd).2.2.1 g hg
            have := (hok.2.2.2.2.2.1 g hg).2
            change (acM S W p d g).length ≤ _ at *
            omega
          · exact hl6 g hg
        by_cases e2 : g < k
        · rw [if_pos e2] at hg3
          rw [if_pos (by omega)]
          exact hg3
        · rw [if_neg e2] at hg3
          rw [if_neg (by omega)]
          exact hg3
    simp (disch := omega) only [Option.some.injEq, exists_eq_left', exists_eq_left, forall_eq, true_and, and_true, gr_si, gl_si, gr_sl, gi_sl, gr_sA, gl_sA, j_0, j_1, j_2, j_3, j_4, j_5, j_6, j_7, j_8, j_9, j_10, j_11, j_12, j_13, j_14, j_15, j_16, j_18, j_19, j_20, j_21, j_22, j_23, j_24, j_28, j_30, j_33, j_40, j_48, j_60, j_66, j_96, j_97, j_99, j_100, j_122, j_125, j_126, j_127, j_128, j_255, j_495, j_1000, j_1001, j_1023, j_1024, j_1100, j_1386, j_1452, j_9999, nN_1, nI_add, pk_mul, pk_sub, nI_clamp, vpI, nI_leI, nI_ltI, nI_eq, nN_eq, nN_eq', nN_lt, nN_nlt, nN_le, nN_nle, b_bit, n_bit, b_eq0, b_eq1, mO, mR24 hz1, mA145, mL145, hrk.1]
    by_cases hs : sSi S W k (wC W p) = true
    · rw [if_pos hs]
      refine ⟨by omega, m_paneOf (k := 1) hz1 (by omega) (by decide) ?_⟩
      rw [show 5 + 3 * k + 1 = 6 + 3 * k by omega, hS1.2.2.2.2.2.1 k hk]
      simp (disch := omega) only [Option.some.injEq, exists_eq_left', exists_eq_left, forall_eq, true_and, and_true, gr_si, gl_si, gr_sl, gi_sl, gr_sA, gl_sA, j_0, j_1, j_2, j_3, j_4, j_5, j_6, j_7, j_8, j_9, j_10, j_11, j_12, j_13, j_14, j_15, j_16, j_18, j_19, j_20, j_21, j_22, j_23, j_24, j_28, j_30, j_33, j_40, j_48, j_60, j_66, j_96, j_97, j_99, j_100, j_122, j_125, j_126, j_127, j_128, j_255, j_495, j_1000, j_1001, j_1023, j_1024, j_1100, j_1386, j_1452, j_9999, nN_1, nI_add, pk_mul, pk_sub, nI_clamp, vpI, nI_leI, nI_ltI, nI_eq, nN_eq, nN_eq', nN_lt, nN_nlt, nN_le, nN_nle, b_bit, n_bit, b_eq0, b_eq1]
      by_cases hx : (wM W k).length = sKP S k
      · rw [if_pos hx]
        refine r_forget (i := 0) hz1 hb (by omega) hrk (by omega) (by omega) (fun z2 hf2 h2 => ?_)
        have hle : ((wM W k).eraseIdx 0).length = (wM W k).length - 1 := List.length_eraseIdx_of_lt (by omega)
        refine hJ z2 _ hf2 h2 (by omega) ?_
        unfold acM adM
        rw [if_pos ⟨hk, hs⟩, if_neg (by omega)]
      · rw [if_neg hx]
        refine hJ z1 _ Fr.rf hrk (by omega) ?_
        unfold acM adM
        rw [if_pos ⟨hk, hs⟩, if_pos (by omega)]
    · rw [if_neg hs]
      unfold wX12_does_J117
      simp (disch := omega) only [Option.some.injEq, exists_eq_left', exists_eq_left, forall_eq, true_and, and_true, gr_si, gl_si, gr_sl, gi_sl, gr_sA, gl_sA, j_0, j_1, j_2, j_3, j_4, j_5, j_6, j_7, j_8, j_9, j_10, j_11, j_12, j_13, j_14, j_15, j_16, j_18, j_19, j_20, j_21, j_22, j_23, j_24, j_28, j_30, j_33, j_40, j_48, j_60, j_66, j_96, j_97, j_99, j_100, j_122, j_125, j_126, j_127, j_128, j_255, j_495, j_1000, j_1001, j_1023, j_1024, j_1100, j_1386, j_1452, j_9999, nN_1, nI_add, pk_mul, pk_sub, nI_clamp, vpI, nI_leI, nI_ltI, nI_eq, nN_eq, nN_eq', nN_lt, nN_nlt, nN_le, nN_nle, b_bit, n_bit, b_eq0, b_eq1]
      refine ih z1 hf (fun g hg => ?_)
      by_cases e : g = k
      · subst e
        rw [if_pos (Nat.lt_succ_self g)]
        unfold acM
        rw [if_neg (fun q => hs q.2)]
        exact hrk
      · have := hr g hg
        by_cases e2 : g < k
        · rw [if_pos e2] at this
          rw [if_pos (by omega)]
          exact this
        · rw [if_neg e2] at this
          rw [if_neg (by omega)]
          exact this
end RC
