/-! ===== the model reads a day ===== -/
def mNa (z : gS) (s a b : Nat) (L : List (Nat × Nat)) : Prop := gi z 129 s = nI L.length ∧ ∀ i, i < L.length → gl z a i = lN (cv (L.getD i (0, 0)).1) ∧ gi z b i = nI (L.getD i (0, 0)).2
section RM
variable {z z0 : gS} {tp : List Nat} {n i f : Nat} {S : sS} {nm : sNm} {D : List sL} {J : gS → Prop} {P : Int32 → gS → Prop} {R : gS → Prop}
theorem m_nameAt0 {L : List (Nat × Nat)} (hJ : okJ tp n J) (hi : i ≤ n) (h : TS J z i) (hk2 : kkd tp i = 2) (hL : mNa z 18 138 140 L) (hl : L.length ≤ 16) (hb : ∀ e ∈ L, e.1 < 27 ^ 8) (hP : P (if L.findIdx (fun e => e.1 == kvl tp i) < L.length then nI (L.getD (L.findIdx (fun e => e.1 == kvl tp i)) (0, 0)).2 else nN) z) : wX12_nameAt 148 gSH 129 (0 : Int32) z P := by
  obtain ⟨j1, j2, j3⟩ := hJ.1 z h.1
  have hn := j2.2.1
  have hr := j2.2.2.2 i hi
  have hv := kvl_w hk2
  have hw : L.findIdx (fun e => e.1 == kvl tp i) ≤ L.length := List.findIdx_le_length
  have ht : L.findIdx (fun e => e.1 == kvl tp i) < L.length → (L.getD (L.findIdx (fun e => e.1 == kvl tp i)) (0, 0)).1 = kvl tp i := by
    intro q
    have e := List.findIdx_getElem (p := fun e : Nat × Nat => e.1 == kvl tp i) (w := q)
    rw [beq_iff_eq] at e
    rw [List.getD_eq_getElem?_getD, List.getElem?_eq_getElem q]
    exact e
  have hf : ∀ k, k < L.findIdx (fun e => e.1 == kvl tp i) → k < L.length ∧ (L.getD k (0, 0)).1 ≠ kvl tp i ∧ (L.getD k (0, 0)).1 < 27 ^ 8 := by
    intro k hk
    have hkl : k < L.length := by omega
    have e := List.not_of_lt_findIdx hk
    have eg : L.getD k (0, 0) = L[k] := by
      rw [List.getD_eq_getElem?_getD, List.getElem?_eq_getElem hkl]
      rfl
    refine ⟨hkl, ?_, ?_⟩
    · rw [eg]
      intro r
      rw [r] at e
      simp at e
    · rw [eg]
      exact hb _ (List.getElem_mem hkl)
  generalize L.findIdx (fun e => e.1 == kvl tp i) = w at hP hw ht hf
  refine lp (fun N k => wX12_nameAt_L2 148 gSH P N 129 (0 : Int32) (nI k) z) w (fun N => ?_) (fun N k hk ih => ?_)
  · unfold wX12_nameAt_L2 wX12_nameAt_B2
    rw [if_pos (show (0 : Int32) = 0 from rfl)]
    refine ⟨mO, ?_⟩
    rw [hL.1]
    refine ifi (nI_leI (by omega) (by omega)) (fun q => ?_) (fun q => ?_)
    · rw [if_neg (by omega)] at hP
      exact hP
    · have q' : w < L.length := by omega
      rw [if_pos q'] at hP
      rw [if_pos (show (0 : Int32) = 0 from rfl)]
      refine ⟨mO, _, mR14 j1, mA138, by rw [mL138]; exact vp_in_nI (by omega) (by decide), mO, _, mR6 j1, mA133, ?_⟩
      rw [h.2.1]
      refine ⟨by rw [mL133]; exact mI hn hi, ?_⟩
      rw [nI_clamp (by omega), nI_clamp (by omega), (hL.2 w q').1, hr.2.2.1 hk2, ht q', if_pos (cmp0.mpr rfl), if_pos (show (0 : Int32) = 0 from rfl)]
      refine ⟨_, mR16 j1, mA140, by rw [mL140]; exact vp_in_nI (by omega) (by decide), ?_⟩
      rw [(hL.2 w q').2]
      exact hP
  · obtain ⟨f1, f2, f3⟩ := hf k hk
    unfold wX12_nameAt_L2 wX12_nameAt_B2
    rw [if_pos (show (0 : Int32) = 0 from rfl)]
    refine ⟨mO, ?_⟩
    rw [hL.1]
    refine ifi (nI_leI (by omega) (by omega)) (fun q => absurd q (by omega)) (fun q => ?_)
    rw [if_pos (show (0 : Int32) = 0 from rfl)]
    refine ⟨mO, _, mR14 j1, mA138, by rw [mL138]; exact vp_in_nI (by omega) (by decide), mO, _, mR6 j1, mA133, ?_⟩
    rw [h.2.1]
    refine ⟨by rw [mL133]; exact mI hn hi, ?_⟩
    have a := cv_lt (kvl tp i)
    have b := cv_lt (L.getD k (0, 0)).1
    rw [nI_clamp (by omega), nI_clamp (by omega), (hL.2 k f1).1, hr.2.2.1 hk2, if_neg (fun r => f2 (cv_inj f3 hv ((cmpN (by omega) (by omega)).mp r)))]
    intro v10 e10
    rw [nI_1] at e10
    subst e10
    exact ih
theorem m_nameAt1 {L : List (Nat × Nat)} (hJ : okJ tp n J) (hi : i ≤ n) (h : TS J z i) (hk2 : kkd tp i = 2) (hL : mNa z 19 139 141 L) (hl : L.length ≤ 16) (hb : ∀ e ∈ L, e.1 < 27 ^ 8) (hP : P (if L.findIdx (fun e => e.1 == kvl tp i) < L.length then nI (L.getD (L.findIdx (fun e => e.1 == kvl tp i)) (0, 0)).2 else nN) z) : wX12_nameAt 148 gSH 129 (1 : Int32) z P := by
  obtain ⟨j1, j2, j3⟩ := hJ.1 z h.1
  have hn := j2.2.1
  have hr := j2.2.2.2 i hi
  have hv := kvl_w hk2
  have hw : L.findIdx (fun e => e.1 == kvl tp i) ≤ L.length := List.findIdx_le_length
  have ht : L.findIdx (fun e => e.1 == kvl tp i) < L.length → (L.getD (L.findIdx (fun e => e.1 == kvl tp i)) (0, 0)).1 = kvl tp i := by
    intro q
    have e := List.findIdx_getElem (p := fun e : Nat × Nat => e.1 == kvl tp i) (w := q)
    rw [beq_iff_eq] at e
    rw [List.getD_eq_getElem?_getD, List.getElem?_eq_getElem q]
    exact e
  have hf : ∀ k, k < L.findIdx (fun e => e.1 == kvl tp i) → k < L.length ∧ (L.getD k (0, 0)).1 ≠ kvl tp i ∧ (L.getD k (0, 0)).1 < 27 ^ 8 := by
    intro k hk
    have hkl : k < L.length := by omega
    have e := List.not_of_lt_findIdx hk
    have eg : L.getD k (0, 0) = L[k] := by
      rw [List.getD_eq_getElem?_getD, List.getElem?_eq_getElem hkl]
      rfl
    refine ⟨hkl, ?_, ?_⟩
    · rw [eg]
      intro r
      rw [r] at e
      simp at e
    · rw [eg]
      exact hb _ (List.getElem_mem hkl)
  generalize L.findIdx (fun e => e.1 == kvl tp i) = w at hP hw ht hf
  refine lp (fun N k => wX12_nameAt_L2 148 gSH P N 129 (1 : Int32) (nI k) z) w (fun N => ?_) (fun N k hk ih => ?_)
  · unfold wX12_nameAt_L2 wX12_nameAt_B2
    rw [if_neg (show ¬ (1 : Int32) = 0 by decide)]
    refine ⟨mO, ?_⟩
    rw [hL.1]
    refine ifi (nI_leI (by omega) (by omega)) (fun q => ?_) (fun q => ?_)
    · rw [if_neg (by omega)] at hP
      exact hP
    · have q' : w < L.length := by omega
      rw [if_pos q'] at hP
      rw [if_neg (show ¬ (1 : Int32) = 0 by decide)]
      refine ⟨mO, _, mR15 j1, mA139, by rw [mL139]; exact vp_in_nI (by omega) (by decide), mO, _, mR6 j1, mA133, ?_⟩
      rw [h.2.1]
      refine ⟨by rw [mL133]; exact mI hn hi, ?_⟩
      rw [nI_clamp (by omega), nI_clamp (by omega), (hL.2 w q').1, hr.2.2.1 hk2, ht q', if_pos (cmp0.mpr rfl), if_neg (show ¬ (1 : Int32) = 0 by decide)]
      refine ⟨_, mR17 j1, mA141, by rw [mL141]; exact vp_in_nI (by omega) (by decide), ?_⟩
      rw [(hL.2 w q').2]
      exact hP
  · obtain ⟨f1, f2, f3⟩ := hf k hk
    unfold wX12_nameAt_L2 wX12_nameAt_B2
    rw [if_neg (show ¬ (1 : Int32) = 0 by decide)]
    refine ⟨mO, ?_⟩
    rw [hL.1]
    refine ifi (nI_leI (by omega) (by omega)) (fun q => absurd q (by omega)) (fun q => ?_)
    rw [if_neg (show ¬ (1 : Int32) = 0 by decide)]
    refine ⟨mO, _, mR15 j1, mA139, by rw [mL139]; exact vp_in_nI (by omega) (by decide), mO, _, mR6 j1, mA133, ?_⟩
    rw [h.2.1]
    refine ⟨by rw [mL133]; exact mI hn hi, ?_⟩
    have a := cv_lt (kvl tp i)
    have b := cv_lt (L.getD k (0, 0)).1
    rw [nI_clamp (by omega), nI_clamp (by omega), (hL.2 k f1).1, hr.2.2.1 hk2, if_neg (fun r => f2 (cv_inj f3 hv ((cmpN (by omega) (by omega)).mp r)))]
    intro v10 e10
    rw [nI_1] at e10
    subst e10
    exact ih
theorem nmK_b (hok : sOK S) (h : nmOK S nm) {v : Nat} (hi : nmI nm v < nm.2.2.2.length) : nmK nm v < 46 := by
  have k1 := hok.1
  have k2 := hok.2.1
  have k3 := hok.2.2.1
  rcases (h.2.1 _ (nmI_get hi)).2 with ⟨a1, _⟩ | ⟨p, a1, a2, _⟩ | ⟨d, a1, a2, _⟩
  · dsimp only at a1; omega
  · dsimp only at a2; omega
  · dsimp only at a2; omega
theorem m_told {F : Nat} (hF : nmB F) (hJ : okJ tp n J) (hl : tp.length ≤ 1000) (hi : i ≤ n) (h : TS J z i) (hok : sOK S) (hnm : nmOK S nm) (hN : ∀ z, J z → mNm z nm)
    (h1 : knm tp i = false → ∀ z', TF J z' i (kfl tp 1 i) → P 0 z')
    (h2 : ¬ knm tp i = false → ¬ tld S nm F (kvl tp i) < nmC S F → ∀ z', TF J z' i (kfl tp 2 i) → P 0 z')
    (h3 : ¬ knm tp i = false → tld S nm F (kvl tp i) < nmC S F → ∀ z', TS J z' (i + 1) → P (nI (tld S nm F (kvl tp i))) z') : wX12_takeTold 148 gSH 129 (nI F) z P := by
  have hF40 : F ≤ 40 := by rcases hF with r | r | r <;> omega
  have hff : ∀ k z' x, TF J z' i k → (∀ z'', TF J z'' i k → P 0 z'') → wX12_takeTold_J59 148 gSH P 129 x z' := by
    intro k z' x hh hp
    refine ⟨mO, ?_⟩
    rw [if_neg hh.np, hh.2.1]
    refine ⟨mO, fun z8 e8 => ?_⟩
    have h8 := hh.to hJ (z' := z8) (j := i) (by rw [e8, j_0, nI_add]; rfl)
    refine ⟨mO, ?_⟩
    rw [if_neg h8.np]
    exact hp z8 h8
  refine ⟨mO, ?_⟩
  rw [if_pos h.2.2]
  refine m_isName hJ hi h ?_
  cases hn : knm tp i
  · rw [if_pos (show nI (false).toNat = 0 from rfl)]
    refine m_wrong (k := 1) hJ hi hl (by decide) (by decide) h (fun z' k' => ⟨mO, ?_⟩)
    rw [if_neg k'.np]
    refine ⟨mO, ?_⟩
    rw [if_neg k'.n0]
    exact hff _ z' _ k' (h1 hn)
  · rw [if_neg (show ¬ nI (true).toNat = 0 by decide)]
    have hn' : ¬ knm tp i = false := by rw [hn]; decide
    have hk2 := knm_k hn'
    refine ⟨mO, ?_⟩
    rw [if_pos h.p0]
    have hmn := hN z h.1
    refine m_nameAt0 hJ hi h hk2 hmn hnm.1 (fun e he => (hnm.2.1 e he).1) ?_
    obtain ⟨t1, t2⟩ := tld_m (v := kvl tp i) hok hnm hF
    have ei : nm.2.2.2.findIdx (fun e => e.1 == kvl tp i) = nmI nm (kvl tp i) := rfl
    have ek : (nm.2.2.2.getD (nmI nm (kvl tp i)) (0, 0)).2 = nmK nm (kvl tp i) := rfl
    rw [ei, ek]
    refine ⟨mO, ?_⟩
    rw [if_pos h.2.2]
    have hno : ∀ x : Int32, (x < 0 ∨ 5 < x) → ¬ tld S nm F (kvl tp i) < nmC S F → wX12_within 148 gSH x (0 : Int32) (5 : Int32) z (fun (r12 : Int32) (z13 : gS) => if r12 = 0 then (wX12_wrong 148 gSH 129 (2 : Int32) z13 (fun (z15 : gS) => wX12_takeTold_J59 148 gSH P 129 x z15)) else wX12_takeTold_J59 148 gSH P 129 x z13) := by
      intro x hx hq
      have fin : (if (0 : Int32) = 0 then (wX12_wrong 148 gSH 129 (2 : Int32) z (fun (z15 : gS) => wX12_takeTold_J59 148 gSH P 129 x z15)) else wX12_takeTold_J59 148 gSH P 129 x z) := by
        rw [if_pos rfl]
        exact m_wrong (k := 2) hJ hi hl (by decide) (by decide) h (fun z' k' => hff _ z' _ k' (h2 hn' hq))
      unfold wX12_within
      refine ift (fun q => fin) (fun q => ift (fun q2 => fin) (fun q2 => ?_))
      rcases hx with r | r
      · exact absurd r q
      · exact absurd r q2
    by_cases hc : nmI nm (kvl tp i) < nm.2.2.2.length
    · rw [if_pos hc]
      have hb := nmK_b hok hnm hc
      by_cases ht : tld S nm F (kvl tp i) < nmC S F
      · have e := (t1 ht).2
        have k1 := hok.1
        have k2 := hok.2.1
        have k3 := hok.2.2.1
        have h5 : tld S nm F (kvl tp i) ≤ 5 := by
          rcases hF with r | r | r
          · rw [r] at ht ⊢; have ht : tld S nm 0 (kvl tp i) < sPA S := ht; omega
          · rw [r] at ht ⊢; have ht : tld S nm 20 (kvl tp i) < sPE S := ht; omega
          · rw [r] at ht ⊢; have ht : tld S nm 40 (kvl tp i) < sDE S := ht; omega
        rw [pk_sub (by omega), e, show F + tld S nm F (kvl tp i) - F = tld S nm F (kvl tp i) by omega]
        unfold wX12_within
        rw [if_neg (nI_pos (by omega)), if_neg (show ¬ (5 : Int32) < nI (tld S nm F (kvl tp i)) from nI_nlt (a := 5) (by omega) (by decide))]
        dsimp only
        rw [if_neg (by decide)]
        refine ⟨mO, ?_⟩
        rw [if_pos h.p0, h.2.1]
        refine ⟨mO, fun z8 e8 => ?_⟩
        rw [nI_1] at e8
        have h8 := h.to hJ e8
        refine ⟨mO, ?_⟩
        rw [if_pos h8.p0]
        exact h3 hn' ht z8 h8
      · refine hno _ ?_ ht
        rcases t2 ht hc with r | r
        · left; exact pk_sneg (by omega) r
        · right
          rw [pk_sub (by omega)]
          exact nI_lt (a := 5) (by omega) (by omega)
    · rw [if_neg hc]
      have hlt : nN - nI F < 0 := by rcases hF with r | r | r <;> rw [r] <;> decide
      generalize nN - nI F = x at hlt ⊢
      exact hno x (Or.inl hlt) (fun q => hc (t1 q).1)
theorem m_told_f {x : Int32} (hJ : okJ tp n J) (h : TF J z i f) (hP : ∀ z', TF J z' i f → P 0 z') : wX12_takeTold 148 gSH 129 x z P := by
  refine ⟨mO, ?_⟩
  rw [if_neg h.n0]
  refine ⟨mO, ?_⟩
  rw [if_neg h.np]
  refine ⟨mO, ?_⟩
  rw [if_neg h.n0]
  refine ⟨mO, ?_⟩
  rw [if_neg h.np, h.2.1]
  refine ⟨mO, fun z8 e8 => ?_⟩
  have h8 := h.to hJ (z' := z8) (j := i) (by rw [e8, j_0, nI_add]; rfl)
  refine ⟨mO, ?_⟩
  rw [if_neg h8.np]
  exact hP z8 h8
def aDM : Nat → Nat → Prop := fun a k => (a = 129 ∧ (k = 7 ∨ k = 8)) ∨ (a = 142 ∧ 125 ≤ k)
def mDr (z : gS) (b : Nat) (D : List sL) : Prop := ∀ j, j < D.length → gi z 142 (b + 3 * j) = nI (D.getD j l0).1 ∧ gi z 142 (b + 1 + 3 * j) = nI (D.getD j l0).2.1 ∧ gi z 142 (b + 2 + 3 * j) = nI (D.getD j l0).2.2
def JD (z0 : gS) (D : List sL) (z : gS) : Prop := Fr aDM z0 z ∧ mDr z 125 D
def JD0 (z0 : gS) (z : gS) : Prop := Fr aDM z0 z
theorem okJD (hz : sR z0) (hK : mK z0 tp n) (hW : mWd z0) : okJ tp n (JD z0 D) := by
  refine ⟨fun z h => ⟨h.1.sR hz, hK.fr (fun a k q => h.1.1 a k (by unfold aDM; omega)) (fun k => h.1.2.1 _ _), hW.fr (fun k => h.1.2.1 _ _)⟩, fun z k v hk h => ⟨h.1.si (Or.inl ⟨rfl, by omega⟩), fun j hj => ?_⟩⟩
  rw [gi_si, if_neg (by omega), gi_si, if_neg (by omega), gi_si, if_neg (by omega)]
  exact h.2 j hj
theorem okJD0 (hz : sR z0) (hK : mK z0 tp n) (hW : mWd z0) : okJ tp n (JD0 z0) := ⟨fun z h => ⟨Fr.sR h hz, hK.fr (fun a k q => h.1 a k (by unfold aDM; omega)) (fun k => h.2.1 _ _), hW.fr (fun k => h.2.1 _ _)⟩, fun z k v hk h => Fr.si h (Or.inl ⟨rfl, by omega⟩)⟩
theorem TF.d0 (h : TF (JD z0 D) z i f) : TF (JD0 z0) z i f := ⟨h.1.1, h.2⟩
theorem m_dFail {N : Nat} {x : Int32} (h : TF (JD0 z0) z i f) (hP : P (nI f) z) : wX12_day_L11 148 gSH P (N + 1) 129 x z := by
  refine ⟨mO, ?_⟩
  rw [if_neg h.n0]
  refine ⟨mO, ?_⟩
  rw [if_neg h.np, h.2.2.1]
  exact hP
theorem e125 (m : Nat) : (125 : Int32) + ((3 : Int32) * nI m) = nI (125 + 3 * m) := by rw [j_125, j_3, pk_mul, nI_add]
theorem e126 (m : Nat) : (126 : Int32) + ((3 : Int32) * nI m) = nI (126 + 3 * m) := by rw [j_126, j_3, pk_mul, nI_add]
theorem e127 (m : Nat) : (127 : Int32) + ((3 : Int32) * nI m) = nI (127 + 3 * m) := by rw [j_127, j_3, pk_mul, nI_add]
theorem m_dCopy {m : Nat} (hz : sR z) (hm : m ≤ 40) (hD : D.length = m) (h0 : gi z 142 0 = nI m) (hr : mDr z 125 D) (hP : ∀ z', mD z' D → Fr (fun a k => a = 142 ∧ k < 125) z z' → P 0 z') : ∃ N, wX12_day_L195 148 gSH P N 129 (nI m) (nI 0) z := by
  refine (lp (fun N k => ∀ z1, Fr (fun a k => a = 142 ∧ k < 125) z z1 → (∀ j, 125 ≤ j → gi z1 142 j = gi z 142 j) → gi z1 142 0 = nI m → (∀ j, j < k → gi z1 142 (1 + j) = gi z 142 (125 + j)) → wX12_day_L195 148 gSH P N 129 (nI m) (nI k) z1) (3 * m) (fun N z1 f1 f2 f3 f4 => ?_) (fun N k hk ih z1 f1 f2 f3 f4 => ?_)).imp (fun N q => q z Fr.rf (fun _ _ => rfl) h0 (fun j hj => absurd hj (Nat.not_lt_zero _)))
  · unfold wX12_day_L195 wX12_day_B195
    rw [j_3, pk_mul, if_pos (nI_le (Nat.le_refl _) (by omega))]
    refine hP z1 ⟨by rw [f3, hD], fun j hj => ?_⟩ f1
    have := hr j hj
    rw [hD] at hj
    rw [f4 (3 * j) (by omega), show 2 + 3 * j = 1 + (3 * j + 1) by omega, f4 (3 * j + 1) (by omega), show 3 + 3 * j = 1 + (3 * j + 2) by omega, f4 (3 * j + 2) (by omega), show 125 + (3 * j + 1) = 125 + 1 + 3 * j by omega, show 125 + (3 * j + 2) = 125 + 2 + 3 * j by omega]
    exact this
  · unfold wX12_day_L195 wX12_day_B195
    rw [j_3, pk_mul, if_neg (nI_ge hk (by omega))]
    have hz1 := f1.sR hz
    refine ⟨mO, _, mR21 hz1, _, mR21 hz1, mA142, ?_⟩
    rw [j_125, nI_add, j_1, nI_add, mL142]
    refine ⟨vp_in_nI (by omega) (by decide), mA142, vp_in_nI (by omega) (by decide), fun z18 e18 v19 e19 => ?_⟩
    rw [nI_clamp (by omega), nI_clamp (by omega)] at e18
    rw [nI_add] at e19
    subst e19
    refine ih z18 (by rw [e18]; exact f1.si ⟨rfl, by omega⟩) (fun j hj => ?_) ?_ (fun j hj => ?_)
    · rw [e18, gi_si, if_neg (by omega)]; exact f2 j hj
    · rw [e18, gi_si, if_neg (by omega)]; exact f3
    · rw [e18, gi_si]
      by_cases e : j = k
      · rw [if_pos ⟨rfl, by omega⟩, e, f2 _ (by omega)]
      · rw [if_neg (by omega)]; exact f4 j (by omega)
theorem TS.wD {k : Nat} {x : Int32} (h : TS (JD z0 D) z i) (hk : 125 + 3 * D.length ≤ k) {z' : gS} (e : z' = si z 142 k x) : TS (JD z0 D) z' i := by
  refine ⟨⟨by rw [e]; exact h.1.1.si (Or.inr ⟨rfl, by omega⟩), fun j hj => ?_⟩, by rw [e, gi_si, if_neg (by omega)]; exact h.2.1, by rw [e, gi_si, if_neg (by omega)]; exact h.2.2⟩
  rw [e, gi_si, if_neg (by omega), gi_si, if_neg (by omega), gi_si, if_neg (by omega)]
  exact h.1.2 j hj
theorem TF.wD {k : Nat} {x : Int32} (h : TF (JD0 z0) z i f) (hk : 125 ≤ k) {z' : gS} (e : z' = si z 142 k x) : TF (JD0 z0) z' i f := ⟨by rw [e]; exact Fr.si h.1 (Or.inr ⟨rfl, by omega⟩), by rw [e, gi_si, if_neg (by omega)]; exact h.2.1, by rw [e, gi_si, if_neg (by omega)]; exact h.2.2.1, h.2.2.2⟩
theorem TS.dn {l : sL} (h : TS (JD z0 D) z i) (h1 : gi z 142 (125 + 3 * D.length) = nI l.1) (h2 : gi z 142 (126 + 3 * D.length) = nI l.2.1) (h3 : gi z 142 (127 + 3 * D.length) = nI l.2.2) : TS (JD z0 (D ++ [l])) z i := by
  refine ⟨⟨h.1.1, fun j hj => ?_⟩, h.2⟩
  rw [gt_apL]
  simp only [List.length_append, List.length_singleton] at hj
  by_cases e : j = D.length
  · rw [if_pos e, e]; exact ⟨h1, h2, h3⟩
  · rw [if_neg e]; exact h.1.2 j (by omega)
/-- the row at 142 keeps where only the token and the fault change -/
def JDx (z0 : gS) (D : List sL) (ks : List (Nat × Nat)) (z : gS) : Prop := JD z0 D z ∧ ∀ e ∈ ks, gi z 142 e.1 = nI e.2
theorem okJDx {ks : List (Nat × Nat)} (hz : sR z0) (hK : mK z0 tp n) (hW : mWd z0) : okJ tp n (JDx z0 D ks) := ⟨fun z h => (okJD hz hK hW).1 z h.1, fun z k v hk h => ⟨(okJD hz hK hW).2 z k v hk h.1, fun e he => by rw [gi_si, if_neg (by omega)]; exact h.2 e he⟩⟩
theorem TS.dx {ks : List (Nat × Nat)} {k x : Nat} (h : TS (JDx z0 D ks) z i) (hk : 125 + 3 * D.length ≤ k) (hks : ∀ e ∈ ks, e.1 < k) {z' : gS} (e : z' = si z 142 k (nI x)) : TS (JDx z0 D ((k, x) :: ks)) z' i := by
  have a : TS (JD z0 D) z i := ⟨h.1.1, h.2⟩
  have b := a.wD hk e
  refine ⟨⟨b.1, fun q hq => ?_⟩, b.2⟩
  rw [List.mem_cons] at hq
  rcases hq with r | r
  · rw [r, e, gi_si, if_pos ⟨rfl, rfl⟩]
  · have := hks q r
    rw [e, gi_si, if_neg (by omega)]
    exact h.1.2 q r
theorem TF.dx {ks : List (Nat × Nat)} (h : TF (JDx z0 D ks) z i f) : TF (JD0 z0) z i f := ⟨h.1.1.1, h.2⟩
set_option maxHeartbeats 1000000 in
theorem m_dLp (hz0 : sR z0) (hK0 : mK z0 tp n) (hW0 : mWd z0) (hk : tOK tp) (hn : tK tp n) (hok : sOK S) (hnm : nmOK S nm) (hN0 : mNm z0 nm) : ∀ f z i D, 1000 ≤ f + i → TS (JD z0 D) z i → i ≤ n → D.length ≤ 40 → ((dLp tp S nm f i D).1 = 0 → ∀ z', mD z' (dLp tp S nm f i D).2.2 → Fr (fun a k => aDM a k ∨ a = 142) z0 z' → P 0 z') → ((dLp tp S nm f i D).1 ≠ 0 → ∀ z', Fr aDM z0 z' → P (nI (kfl tp (dLp tp S nm f i D).1 (dLp tp S nm f i D).2.1)) z') → wX12_day_L11 148 gSH P (f + 2) 129 (nI D.length) z := by
  have hnn := hn.2.1
  have hl := hk.1
  have k1 := hok.1
  have k2 := hok.2.1
  have k3 := hok.2.2.1
  have hEnd : ∀ N z i D, TS (JD z0 D) z i → i ≤ n → D.length ≤ 40 → kkd tp i = 0 → (∀ z', mD z' D → Fr (fun a k => aDM a k ∨ a = 142) z0 z' → P 0 z') → wX12_day_L11 148 gSH P (N + 1) 129 (nI D.length) z := by
    intro N z i D hT hi hD hk0 hP
    obtain ⟨j1, j2, j3⟩ := (okJD (D := D) hz0 hK0 hW0).1 z hT.1
    refine ⟨mO, ?_⟩
    rw [if_pos hT.2.2, hT.2.1]
    refine ⟨_, mR4 j1, mA131, by rw [mL131]; exact mI hnn hi, ?_⟩
    rw [nI_clamp (by omega), (j2.2.2.2 i hi).1, if_pos ((srt_e (kkd_le tp i)).2.2.2.mpr hk0)]
    refine ⟨mO, ?_⟩
    rw [if_pos hT.p0]
    refine ⟨_, mR21 j1, mA142, by rw [mL142]; exact vp_in_nI (n := 0) (by decide) (by decide), fun z10 e10 => ?_⟩
    rw [show (0 : Int32).toNatClampNeg = 0 from rfl] at e10
    refine m_dCopy (z := z10) (by rw [e10]; exact j1.to (fun _ _ => rfl)) hD rfl (by rw [e10, gi_si, if_pos ⟨rfl, rfl⟩]) (fun j hj => ?_) (fun z' hm hf => hP z' hm ?_)
    · rw [e10, gi_si, if_neg (by omega), gi_si, if_neg (by omega), gi_si, if_neg (by omega)]
      exact hT.1.2 j hj
    · have hf10 : Fr (fun a k => aDM a k ∨ a = 142) z0 z10 := by
        rw [e10]
        exact (hT.1.1.mono (fun a k q => Or.inl q)).si (Or.inr rfl)
      exact hf10.tr hf (fun a k q => q) (fun a k q => Or.inr q.1)
  intro f
  induction f with
  | zero =>
    intro z i D hfi hT hi hD h1 h2
    have : i = n := by omega
    subst this
    exact hEnd 1 z i D hT hi hD hn.1 (h1 rfl)
  | succ f ih =>
    intro z i D hfi hT hi hD h1 h2
    simp only [dLp] at h1 h2
    by_cases hk0 : kkd tp i = 0
    · rw [if_pos hk0] at h1
      exact hEnd _ z i D hT hi hD hk0 (h1 rfl)
    rw [if_neg hk0] at h1 h2
    obtain ⟨j1, j2, j3⟩ := (okJD (D := D) hz0 hK0 hW0).1 z hT.1
    have hJ : ∀ {ks}, okJ tp n (JDx z0 D ks) := fun {ks} => okJDx hz0 hK0 hW0
    have hNx : ∀ {ks} zz, JDx z0 D ks zz → mNm zz nm := fun {ks} zz h => hN0.fr (fun a k q => h.1.1.1 a k (by unfold aDM; omega)) (fun k => h.1.1.2.1 _ _)
    have hX : TS (JDx z0 D []) z i := ⟨⟨hT.1, fun e he => absurd he List.not_mem_nil⟩, hT.2⟩
    have hrl := krs_le tp i
    have hlt := hn.nx hi hk0
    obtain ⟨a1, a2, a3⟩ := dLn_ok (S := S) (nm := nm) (m := D.length) hn hi hD
    -- a fault goes to the end
    have hFf : ∀ zz x j g, TF (JD0 z0) zz j g → P (nI g) zz → wX12_day_J165 148 gSH (wX12_day_L11 148 gSH P (f + 2)) P 129 x zz := fun zz x j g hh hp => ⟨mO, m_takeSign_f hh (m_dFail hh hp)⟩
    have hF161 : ∀ zz j g s0, D.length < 40 → TF (JD0 z0) zz j g → (∀ z', Fr aDM z0 z' → P (nI g) z') → wX12_day_J161 148 gSH (wX12_day_L11 148 gSH P (f + 2)) P 129 (nI D.length) s0 ((127 : Int32) + ((3 : Int32) * nI D.length)) 142 zz := by
      intro zz j g s0 hD2 hh hp
      rw [e127]
      refine ⟨mA142, by rw [mL142]; exact vp_in_nI (by omega) (by decide), fun z43 e43 v44 e44 => ?_⟩
      rw [nI_clamp (by omega)] at e43
      have h43 := hh.wD (by omega) e43
      exact hFf z43 _ j g h43 (hp z43 h43.1)
    have hF121 : ∀ zz j g s0 (w : Nat), D.length < 40 → TF (JD0 z0) zz j g → (∀ z', Fr aDM z0 z' → P (nI g) z') → wX12_day_J121 148 gSH (wX12_day_L11 148 gSH P (f + 2)) P 129 (nI D.length) (nI w) s0 ((126 : Int32) + ((3 : Int32) * nI D.length)) 142 zz := by
      intro zz j g s0 w hD2 hh hp
      rw [e126]
      refine ⟨mA142, by rw [mL142]; exact vp_in_nI (by omega) (by decide), fun z38 e38 => ⟨mO, ?_⟩⟩
      rw [nI_clamp (by omega)] at e38
      have h38 := hh.wD (by omega) e38
      refine ⟨_, mR21 (h38.1.sR hz0), ?_⟩
      refine ift (fun _ => m_takeNumber_f h38 (hF161 _ _ _ _ hD2 h38 hp)) (fun _ => ift (fun _ => m_told_f (okJD0 hz0 hK0 hW0) h38 (fun z49 h49 => hF161 _ _ _ _ hD2 h49 hp)) (fun _ => hF161 _ _ _ _ hD2 h38 hp))
    -- what follows a good line
    have hG161 : ∀ zz j (w x y : Nat), D.length < 40 → TS (JDx z0 D [(126 + 3 * D.length, x), (125 + 3 * D.length, w)]) zz j → dLn tp S nm i D.length = (0, j, (w, x, y)) → wX12_day_J161 148 gSH (wX12_day_L11 148 gSH P (f + 2)) P 129 (nI D.length) (nI y) ((127 : Int32) + ((3 : Int32) * nI D.length)) 142 zz := by
      intro zz j w x y hD2 hh hr
      rw [hr] at h1 h2 a1 a2 a3
      dsimp only at h1 h2 a1 a2 a3
      obtain ⟨b1, b2, b3⟩ := a3 rfl
      rw [if_pos rfl] at h1 h2
      rw [e127]
      refine ⟨mA142, by rw [mL142]; exact vp_in_nI (by omega) (by decide), fun z43 e43 v44 e44 => ?_⟩
      rw [nI_clamp (by omega)] at e43
      rw [nI_1] at e44
      subst e44
      have h43 := hh.dx (by omega) (fun e he => by
        rw [List.mem_cons, List.mem_singleton] at he
        rcases he with r | r <;> rw [r] <;> dsimp only <;> omega) e43
      have hd : TS (JD z0 (D ++ [(w, x, y)])) z43 j := TS.dn ⟨h43.1.1, h43.2⟩ (h43.1.2 (125 + 3 * D.length, w) (by simp)) (h43.1.2 (126 + 3 * D.length, x) (by simp)) (h43.1.2 (127 + 3 * D.length, y) (by simp))
      refine ⟨mO, m_takeSign (c := 59) (okJD hz0 hK0 hW0) hk a2 (by decide) hd (fun q z46 k46 => ?_) (fun q z46 k46 => ?_)⟩
      · rw [if_pos q] at h1 h2
        have := ih z46 _ _ (by omega) k46 (hn.nx a2 (by have := sgn_k q; omega)) (by simp only [List.length_append, List.length_singleton]; omega) h1 h2
        rw [List.length_append] at this
        exact this
      · rw [if_neg (by rw [q]; decide)] at h2
        exact m_dFail k46.d0 (h2 (Nat.succ_ne_zero _) z46 k46.1.1)
    have hBad : ∀ (k j : Nat), dLn tp S nm i D.length = (k + 1, j, l0) → ∀ z', Fr aDM z0 z' → P (nI (kfl tp (k + 1) j)) z' := by
      intro k j hr z' hf
      rw [hr] at h2
      dsimp only at h2
      rw [if_neg (Nat.succ_ne_zero _)] at h2
      exact h2 (Nat.succ_ne_zero _) z' hf
    refine ⟨mO, ?_⟩
    rw [if_pos hT.2.2, hT.2.1]
    refine ⟨_, mR4 j1, mA131, by rw [mL131]; exact mI hnn hi, ?_⟩
    rw [nI_clamp (by omega), (j2.2.2.2 i hi).1, if_neg (fun r => hk0 ((srt_e (kkd_le tp i)).2.2.2.mp r))]
    refine m_wordHere (F := 9) (m := 6) hJ hi (by decide) hX ?_
    rw [wh_9]
    by_cases c1 : ¬ (5 ≤ krs tp i ∧ krs tp i ≤ 10)
    · have er : rO 5 6 (krs tp i) = nN := by unfold rO; rw [if_neg (by omega)]
      rw [er, if_neg (by decide)]
      have hr : dLn tp S nm i D.length = (1, i, l0) := by unfold dLn; rw [if_pos c1]
      exact m_wrong (k := 1) hJ hi hl (by decide) (by decide) hX (fun z' k' => hFf z' _ _ _ k'.dx (hBad 0 i hr z' k'.1.1.1))
    have er : rO 5 6 (krs tp i) = nI (krs tp i - 5) := by unfold rO; rw [if_pos (by omega)]
    rw [er, if_pos (nI_pos' (by omega))]
    by_cases c2 : D.length = 40
    · rw [if_pos (show nI D.length = (40 : Int32) by rw [c2]; rfl)]
      have hr : dLn tp S nm i D.length = (5, i, l0) := by unfold dLn; rw [if_neg c1, if_pos c2]
      exact m_wrong (k := 5) hJ hi hl (by decide) (by decide) hX (fun z' k' => hFf z' _ _ _ k'.dx (hBad 4 i hr z' k'.1.1.1))
    rw [if_neg (show ¬ nI D.length = (40 : Int32) from fun r => c2 ((nI_eq (b := 40) (by omega) (by decide)).mp r))]
    have hD2 : D.length < 40 := by omega
    rw [hT.2.1, nI_1, e125]
    intro z27 e27
    have h27 := hX.to hJ e27
    refine ⟨_, mR21 (h27.1.1.1.sR hz0), mA142, by rw [mL142]; exact vp_in_nI (by omega) (by decide), fun z31 e31 => ?_⟩
    rw [nI_clamp (by omega)] at e31
    have h31 := h27.dx (by omega) (fun e he => absurd he List.not_mem_nil) e31
    refine ⟨_, mR21 (h31.1.1.1.sR hz0), ?_⟩
    -- second word and on
    have hG121 : ∀ zz j (x : Nat), TS (JDx z0 D [(125 + 3 * D.length, krs tp i - 5)]) zz j → j ≤ n → (krs tp i = 5 → (kkd tp j ≠ 3 → dLn tp S nm i D.length = (1, j, l0)) ∧ (¬ kkd tp j ≠ 3 → ¬ kvl tp j ≤ 9 → dLn tp S nm i D.length = (4, j, l0)) ∧ (¬ kkd tp j ≠ 3 → kvl tp j ≤ 9 → dLn tp S nm i D.length = (0, j + 1, (0, x, kvl tp j)))) → (krs tp i = 6 → (knm tp j = false → dLn tp S nm i D.length = (1, j, l0)) ∧ (¬ knm tp j = false → ¬ tld S nm 40 (kvl tp j) < sDE S → dLn tp S nm i D.length = (2, j, l0)) ∧ (¬ knm tp j = false → tld S nm 40 (kvl tp j) < sDE S → dLn tp S nm i D.length = (0, j + 1, (1, x, tld S nm 40 (kvl tp j))))) → (krs tp i ≠ 5 → krs tp i ≠ 6 → dLn tp S nm i D.length = (0, j, (krs tp i - 5, x, 0))) → wX12_day_J121 148 gSH (wX12_day_L11 148 gSH P (f + 2)) P 129 (nI D.length) (nI (krs tp i - 5)) (nI x) ((126 : Int32) + ((3 : Int32) * nI D.length)) 142 zz := by
      intro zz j x hh hj r5 r6 r7
      rw [e126]
      refine ⟨mA142, by rw [mL142]; exact vp_in_nI (by omega) (by decide), fun z38 e38 => ⟨mO, ?_⟩⟩
      rw [nI_clamp (by omega)] at e38
      have h38 := hh.dx (by omega) (fun e he => by
        rw [List.mem_singleton] at he
        rw [he]
        dsimp only
        omega) e38
      refine ⟨_, mR21 (h38.1.1.1.sR hz0), ?_⟩
      refine ifi (nI_eq (b := 0) (by omega) (by decide)) (fun q => ?_) (fun q => ?_)
      · obtain ⟨x1, x2, x3⟩ := r5 (by omega)
        refine m_takeNumber (lo := 0) (hi' := 9) hJ hl hn hj (by decide) (by decide) h38 (fun s1 s2 s3 z' k' => ?_) (fun s z' k' => hF161 _ _ _ _ hD2 k'.dx (hBad 0 j (x1 s))) (fun s s2 z' k' => hF161 _ _ _ _ hD2 k'.dx (hBad 3 j (x2 (by omega) (by omega))))
        have e5 : krs tp i - 5 = 0 := by omega
        rw [e5] at k'
        exact hG161 z' (j + 1) 0 x (kvl tp j) hD2 k' (x3 (by omega) s3)
      refine ifi (nI_eq (b := 1) (by omega) (by decide)) (fun q2 => ?_) (fun q2 => ?_)
      · obtain ⟨x1, x2, x3⟩ := r6 (by omega)
        refine m_told (F := 40) (Or.inr (Or.inr rfl)) hJ hl hj h38 hok hnm hNx (fun s z' k' => hF161 _ _ _ _ hD2 k'.dx (hBad 0 j (x1 s))) (fun s s2 z' k' => hF161 _ _ _ _ hD2 k'.dx (hBad 1 j (x2 s s2))) (fun s s2 z' k' => ?_)
        have e5 : krs tp i - 5 = 1 := by omega
        rw [e5] at k'
        exact hG161 z' (j + 1) 1 x _ hD2 k' (x3 s s2)
      · exact hG161 z38 j (krs tp i - 5) x 0 hD2 h38 (r7 (by omega) (by omega))
    have hG118 : ∀ F, F = (if krs tp i < 7 then 20 else 0) → krs tp i ≠ 10 → wX12_day_J118 148 gSH (wX12_day_L11 148 gSH P (f + 2)) P 129 (nI D.length) (nI (krs tp i - 5)) (nI F) 129 ((126 : Int32) + ((3 : Int32) * nI D.length)) 142 z31 := by
      intro F hF c3
      have hB : nmB F := by
        rw [hF]
        split
        · exact Or.inr (Or.inl rfl)
        · exact Or.inl rfl
      refine ⟨mO, m_told (F := F) hB hJ hl hlt h31 hok hnm hNx (fun s z' k' => hF121 _ _ _ _ _ hD2 k'.dx (hBad 0 (i + 1) ?_)) (fun s s2 z' k' => hF121 _ _ _ _ _ hD2 k'.dx (hBad 1 (i + 1) ?_)) (fun s s2 z' k' => ?_)⟩
      · unfold dLn; rw [if_neg c1, if_neg c2, if_neg c3, if_pos s]
      · unfold dLn; rw [if_neg c1, if_neg c2, if_neg c3, if_neg s, ← hF, if_pos s2]
      · have hk22 : kkd tp (i + 1) = 2 := knm_k s
        have hlt1 := hn.nx (i := i + 1) hlt (by rw [hk22]; decide)
        have s2' : ¬ ¬ tld S nm F (kvl tp (i + 1)) < nmC S F := fun x => x s2
        have base : dLn tp S nm i D.length = (if krs tp i = 5 then
    (if kkd tp (i + 2) ≠ 3 then (1, i + 2, l0) else if ¬ kvl tp (i + 2) ≤ 9 then (4, i + 2, l0) else (0, i + 3, (0, tld S nm 20 (kvl tp (i + 1)), kvl tp (i + 2))))
  else if krs tp i = 6 then
    (if knm tp (i + 2) = false then (1, i + 2, l0) else if ¬ tld S nm 40 (kvl tp (i + 2)) < sDE S then (2, i + 2, l0) else (0, i + 3, (1, tld S nm 20 (kvl tp (i + 1)), tld S nm 40 (kvl tp (i + 2)))))
  else (0, i + 2, (krs tp i - 5, tld S nm 0 (kvl tp (i + 1)), 0))) := by
          unfold dLn
          rw [if_neg c1, if_neg c2, if_neg c3, if_neg s, ← hF, if_neg s2']
        refine hG121 z' (i + 1 + 1) _ k' hlt1 (fun r5 => ?_) (fun r6 => ?_) (fun r5 r6 => ?_)
        · rw [if_pos (show krs tp i < 7 by omega)] at hF
          rw [base, if_pos r5, hF]
          exact ⟨fun x => if_pos x, fun x y => by rw [if_neg x, if_pos y], fun x y => by rw [if_neg x, if_neg (fun w => w y)]⟩
        · rw [if_pos (show krs tp i < 7 by omega)] at hF
          rw [base, if_neg (show ¬ krs tp i = 5 by omega), if_pos r6, hF]
          exact ⟨fun x => if_pos x, fun x y => by rw [if_neg x, if_pos y], fun x y => by rw [if_neg x, if_neg (fun w => w y)]⟩
        · rw [if_neg (show ¬ krs tp i < 7 by omega)] at hF
          rw [base, if_neg r5, if_neg r6, hF]
    refine ifi (nI_eq (b := 5) (by omega) (by decide)) (fun q => ?_) (fun q => ?_)
    · have c3 : krs tp i = 10 := by omega
      have hr : dLn tp S nm i D.length = (0, i + 1, (5, 0, 0)) := by unfold dLn; rw [if_neg c1, if_neg c2, if_pos c3]
      refine hG121 z31 (i + 1) 0 h31 hlt (fun r => by omega) (fun r => by omega) (fun _ _ => ?_)
      rw [hr, show krs tp i - 5 = 5 by omega]
    · refine ifi (nI_leI (a := 2) (by decide) (by omega)) (fun q2 => hG118 0 (by rw [if_neg (by omega)]) (by omega)) (fun q2 => hG118 20 (by rw [if_pos (by omega)]) (by omega))
theorem m_day (hz : sR z) (hK : mK z tp n) (hW : mWd z) (hk : tOK tp) (hok : sOK S) (hnm : nmOK S nm) (hN : mNm z nm) (h7 : gi z 129 7 = 0) (h8 : gi z 129 8 = 0) (h1 : (dLp tp S nm 1000 0 []).1 = 0 → ∀ z', mD z' (dLp tp S nm 1000 0 []).2.2 → Fr (fun a k => aDM a k ∨ a = 142) z z' → P 0 z') (h2 : (dLp tp S nm 1000 0 []).1 ≠ 0 → ∀ z', Fr aDM z z' → P (nI (kfl tp (dLp tp S nm 1000 0 []).1 (dLp tp S nm 1000 0 []).2.1)) z') : ∃ N, wX12_day_L11 148 gSH P N 129 (0 : Int32) z := ⟨1002, m_dLp hz hK hW hk ⟨hK.1, hK.2.1, hK.2.2.1⟩ hok hnm hN 1000 z 0 [] (by decide) ⟨⟨Fr.rf, fun j hj => absurd hj (Nat.not_lt_zero _)⟩, h7, h8⟩ (Nat.zero_le _) (Nat.zero_le _) h1 h2⟩
end RM
