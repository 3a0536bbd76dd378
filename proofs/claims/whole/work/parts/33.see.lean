/-! ===== what the model's panes see ===== -/
theorem bs_or (f g : Nat → Bool) (n : Nat) : bs n f ||| bs n g = bs n (fun j => f j || g j) := by
  apply Nat.eq_of_testBit_eq
  intro j
  rw [Nat.testBit_or, bs_tb, bs_tb, bs_tb]
  cases decide (j < n) <;> simp
theorem bs_one {n j : Nat} (h : j < n) : bs n (fun i => decide (i = j)) = 2 ^ j := by
  apply Nat.eq_of_testBit_eq
  intro i
  rw [bs_tb, Nat.testBit_two_pow]
  by_cases hi : i = j
  · subst hi; simp [h]
  · simp [hi, Ne.symm hi]
theorem bs_set {f : Nat → Bool} {b : Bool} {n j : Nat} (hn : n ≤ 31) (hj : j < n) : nI (bs n f) ||| (nI b.toNat <<< (nI j &&& 31)) = nI (bs n (fun i => f i || (decide (i = j) && b))) := by
  have h2 : 2 ^ j < 2 ^ 31 := Nat.pow_lt_pow_right (by decide) (by omega)
  cases b
  · rw [nI_shl (by omega) (by simp), nI_or]
    simp
  · rw [nI_shl (by omega) (by simp; omega), nI_or, Bool.toNat_true, Nat.one_mul, ← bs_one hj, bs_or]
    simp
theorem i_12 : (12 : Int32) = nI 12 := rfl
theorem i_5 : (5 : Int32) = nI 5 := rfl
theorem i_3 : (3 : Int32) = nI 3 := rfl
theorem i_6 : (6 : Int32) = nI 6 := rfl
theorem i_33 : (33 : Int32) = nI 33 := rfl
theorem i_0 : (0 : Int32) = nI 0 := rfl
theorem i_2 : (2 : Int32) = nI 2 := rfl
theorem i_9 : (9 : Int32) = nI 9 := rfl
theorem i_1 : (1 : Int32) = nI 1 := rfl
theorem i_10 : (10 : Int32) = nI 10 := rfl
theorem i_18 : (18 : Int32) = nI 18 := rfl
theorem i_24 : (24 : Int32) = nI 24 := rfl
theorem i_23 : (23 : Int32) = nI 23 := rfl
theorem i_28 : (28 : Int32) = nI 28 := rfl
section RM
variable {z : gS} {b g : Nat} {S : sS} {W : sW} {P : Int32 → gS → Prop}
theorem m_panes (hz : sR z) (hS : mS z S) (h : P (nI (sPA S)) z) : wX12_panes 148 gSH 129 z P := by
  refine ⟨mO, _, mR10 hz, mA135, by rw [mL135]; exact vp_in_nI (n := 0) (by decide) (by decide), ?_⟩
  rw [show (0 : Int32).toNatClampNeg = 0 from rfl, hS.1]
  exact h
theorem m_people (hz : sR z) (hS : mS z S) (h : P (nI (sPE S)) z) : wX12_people 148 gSH 129 z P := by
  refine ⟨mO, _, mR10 hz, mA135, by rw [mL135]; exact vp_in_nI (n := 1) (by decide) (by decide), ?_⟩
  rw [show (1 : Int32).toNatClampNeg = 1 from rfl, hS.2.1]
  exact h
theorem m_deeds (hz : sR z) (hS : mS z S) (h : P (nI (sDE S)) z) : wX12_deeds 148 gSH 129 z P := by
  refine ⟨mO, _, mR10 hz, mA135, by rw [mL135]; exact vp_in_nI (n := 2) (by decide) (by decide), ?_⟩
  rw [show (2 : Int32).toNatClampNeg = 2 from rfl, hS.2.2.1]
  exact h
theorem m_paneOf (hz : sR z) {k : Nat} (hg : g < 6) (hk : k < 3) (h : P (gi z 135 (5 + 3 * g + k)) z) : wX12_paneOf 148 gSH 129 (nI g) (nI k) z P := by
  refine ⟨mO, _, mR10 hz, mA135, ?_⟩
  rw [i_5, i_3, pk_mul, nI_add, nI_add, nI_clamp (by omega), mL135]
  exact ⟨vp_in_nI (by omega) (by decide), h⟩
theorem m_isWhole (hz : sR z) (hW : mW z b S W) (hok : sOK S) (hb : b ≤ 1452) (hg : g < sPA S) (h : P (nI (!wG W g).toNat) z) : wX12_isWhole 148 gSH 129 (nI b) (nI g) z P := by
  have h6 := hok.1
  refine ⟨mO, _, mR24 hz, mA145, ?_⟩
  rw [i_12, nI_add, nI_add, nI_clamp (by omega), mL145, hW.2.2.2.1 g hg]
  refine ⟨vp_in_nI (by omega) (by decide), ifb0 (fun hG => ?_) (fun hG => ?_)⟩
  · rw [hG] at h; exact h
  · rw [hG] at h; exact h
theorem m_lightOf (hz : sR z) (hS : mS z S) (hok : sOK S) {a : Nat} (ha : a < 2 ^ 30) (h : P (nI (sLight S a)) z) : wX12_lightOf 148 gSH 129 (nI a) z P := by
  have h12 := hok.2.2.2.1
  refine ⟨mO, _, mR10 hz, _, mR10 hz, mA135, ?_⟩
  rw [show (3 : Int32).toNatClampNeg = 3 from rfl, hS.2.2.2.1, mL135]
  unfold sLight at h
  by_cases h0 : sLC S = 0
  · rw [if_pos h0] at h ⊢
    rw [pk_rem (by omega) (by decide) (by decide), Nat.mod_one, i_33, nI_add, nI_clamp (by decide)]
    refine ⟨vp_in_nI (n := 3) (by decide) (by decide), by decide, mA135, vp_in_nI (by decide) (by decide), ?_⟩
    rw [show 33 + 0 = 33 from rfl, hS.2.2.2.2.2.2.2.2.2.2 h0]
    exact h
  · rw [if_neg h0] at h ⊢
    have hm : a % sLC S < sLC S := Nat.mod_lt _ (by omega)
    rw [pk_rem (by omega) (by omega) (by omega), i_33, nI_add, nI_clamp (by omega)]
    refine ⟨vp_in_nI (n := 3) (by decide) (by decide), nI_ne0 (by omega) (by omega), mA135, vp_in_nI (by omega) (by decide), ?_⟩
    rw [hS.2.2.2.2.2.2.2.2.2.1 _ hm]
    exact h
theorem sLight_01 (hok : sOK S) (t : Nat) : sLight S t = 0 ∨ sLight S t = 1 := by
  unfold sLight
  by_cases h0 : sLC S = 0
  · simp [h0]
  · rw [if_neg h0]
    have := hok.2.2.2.2.2.2.2.2.1 (t % sLC S) (Nat.mod_lt _ (by omega))
    omega
theorem s115 {v : Int32} (h : P 0 z) : wX12_sightOf_J115 148 gSH P v z := by
  unfold wX12_sightOf_J115 wX12_sightOf_J116
  rw [if_pos rfl]
  exact h
theorem s111 {v : Int32} (h : P v z) : wX12_sightOf_J111 148 gSH P v z := by
  unfold wX12_sightOf_J111 wX12_sightOf_J116
  rw [if_neg (by decide)]
  exact h
theorem m_sightOf (hz : sR z) (hS : mS z S) (hW : mW z b S W) (hok : sOK S) (hT : wT W < 2 ^ 30) (hb : b ≤ 1452) (hg : g < sPA S) (h : P (nI (bs 10 (sSi S W g))) z) : wX12_sightOf 148 gSH 129 (nI b) (nI g) z P := by
  have h6 := hok.1
  have h4 := hok.2.2.2.2.1 g hg
  have hb2 : bs 10 (sSi S W g) = if (!wG W g && !wD W g && !(decide (sKD S g = 2) && decide (sLight S (wT W) = 0))) then bs 10 (sView S g) else 0 := bs_and 10 _ _
  rw [hb2] at h
  refine ⟨mO, m_paneOf (k := 2) hz (by omega) (by decide) ?_⟩
  rw [show 5 + 3 * g + 2 = 7 + 3 * g by omega, hS.2.2.2.2.2.2.1 g hg]
  -- the last part: is it seen at all
  have hJ : ∀ v : Nat, bs 10 (sView S g) = v → ∀ s0 s1 : Int32, (s1 ||| s0) = nI v → wX12_sightOf_J60 148 gSH P 129 (nI b) (nI g) s0 s1 z := by
    intro v hv s0 s1 hs v7 e7
    rw [e7, hs]
    rw [← hv]
    refine ⟨mO, m_isWhole hz hW hok hb hg (ifb0 (fun hG => ?_) (fun hG => ?_))⟩
    · simp at hG
      exact s115 (by simpa [hG, nI_0] using h)
    · simp at hG
      refine ⟨_, mR24 hz, mA145, ?_⟩
      rw [i_6, nI_add, nI_add, nI_clamp (by omega), mL145, hW.2.2.1 g hg]
      refine ⟨vp_in_nI (by omega) (by decide), ifb0 (fun hD => ?_) (fun hD => ?_)⟩
      · refine m_paneOf (k := 0) hz (by omega) (by decide) ?_
        rw [show 5 + 3 * g + 0 = 5 + 3 * g by omega, hS.2.2.2.2.1 g hg]
        by_cases hk : sKD S g = 2
        · rw [hk, if_pos (show nI 2 = 2 from rfl)]
          refine ⟨_, mR24 hz, mA145, ?_⟩
          rw [i_0, nI_add, nI_clamp (by omega), mL145, Nat.add_zero, hW.1]
          refine ⟨vp_in_nI (by omega) (by decide), m_lightOf hz hS hok hT ?_⟩
          rcases sLight_01 hok (wT W) with hl | hl
          · rw [hl, if_neg (show ¬ nI 0 = 1 by decide)]
            exact s115 (by simpa [hG, hD, hk, hl, nI_0] using h)
          · rw [hl, if_pos (show nI 1 = 1 from rfl)]
            exact s111 (by simpa [hG, hD, hk, hl] using h)
        · rw [if_neg (show ¬ nI (sKD S g) = 2 from fun q => hk ((nI_eq (by omega) (by decide)).mp q))]
          exact s111 (by simpa [hG, hD, hk] using h)
      · exact s115 (by simpa [hG, hD, nI_0] using h)
  have hl : ∀ m k, m + k = 10 → wX12_sightOf_L13 148 gSH P (m + 1) 129 (nI b) (nI g) (nI (bs 10 (sSE S g))) (nI (bs 10 (fun j => decide (9 < j + k) && sSE S g (9 - j)))) (nI k) z := by
    intro m
    induction m with
    | zero =>
      intro k hk
      rw [show k = 10 by omega]
      unfold wX12_sightOf_L13 wX12_sightOf_B13
      rw [if_pos (by decide)]
      refine ⟨mO, m_paneOf (k := 0) hz (by omega) (by decide) ?_⟩
      rw [show 5 + 3 * g + 0 = 5 + 3 * g by omega, hS.2.2.2.2.1 g hg]
      have e1 : bs 10 (fun j => decide (9 < j + 10) && sSE S g (9 - j)) = bs 10 (fun j => sSE S g (9 - j)) := bs_congr (fun j hj => by simp [show 9 < j + 10 by omega])
      rw [e1]
      by_cases hk3 : sKD S g = 3
      · rw [hk3, if_pos (show nI 3 = 3 from rfl)]
        refine hJ _ rfl _ _ ?_
        rw [nI_or, bs_or]
        congr 1
        exact bs_congr (fun j hj => by simp [sView, hk3])
      · rw [if_neg (show ¬ nI (sKD S g) = 3 from fun q => hk3 ((nI_eq (by omega) (by decide)).mp q))]
        refine hJ _ rfl _ _ ?_
        rw [i_0, nI_or, Nat.or_zero]
        congr 1
        exact bs_congr (fun j hj => by simp [sView, hk3])
    | succ m ih =>
      intro k hk
      unfold wX12_sightOf_L13 wX12_sightOf_B13
      rw [if_neg (by rw [i_10]; exact nI_ge (by omega) (by decide))]
      intro v hv u hu
      rw [bs_bit (by decide) (by omega), i_9, pk_sub (by omega), bs_set (by decide) (by omega)] at hv
      rw [nI_1] at hu
      subst hv hu
      have e2 : bs 10 (fun i => (decide (9 < i + k) && sSE S g (9 - i)) || (decide (i = 9 - k) && sSE S g k)) = bs 10 (fun j => decide (9 < j + (k + 1)) && sSE S g (9 - j)) := by
        apply bs_congr
        intro j hj
        by_cases h1 : j = 9 - k
        · subst h1
          have h2 : ¬ 9 < 9 - k + k := by omega
          have h3 : 9 < 9 - k + (k + 1) := by omega
          have h5 : 9 - (9 - k) = k := by omega
          simp [h2, h3, h5]
        · by_cases h2 : 9 < j + k
          · have h3 : 9 < j + (k + 1) := by omega
            simp [h1, h2, h3]
          · have h3 : ¬ 9 < j + (k + 1) := by omega
            simp [h1, h2, h3]
      rw [e2]
      exact ih (k + 1) (by omega)
  refine ⟨11, ?_⟩
  have := hl 10 0 (by omega)
  rw [show bs 10 (fun j => decide (9 < j + 0) && sSE S g (9 - j)) = 0 by rw [bs_congr (g := fun _ => false) (fun j hj => by simp; omega), bs_f0]] at this
  exact this
theorem m_doesSee (hz : sR z) (hS : mS z S) (hW : mW z b S W) (hok : sOK S) (hT : wT W < 2 ^ 30) (hb : b ≤ 1452) (hg : g < sPA S) {c : Nat} (hc : c < 10) (h : P (nI (sSi S W g c).toNat) z) : wX12_doesSee 148 gSH 129 (nI b) (nI g) (nI c) z P := by
  refine ⟨mO, m_sightOf hz hS hW hok hT hb hg ?_⟩
  rw [bs_bit (by decide) hc]
  exact ifb1 (fun q => by rw [q] at h; exact h) (fun q => by rw [q] at h; exact h)
theorem m_seersOf (hz : sR z) (hS : mS z S) (hW : mW z b S W) (hok : sOK S) (hT : wT W < 2 ^ 30) (hb : b ≤ 1452) {c : Nat} (hc : c < 10) (h : P (nI (sWa S W c)) z) : wX12_seersOf 148 gSH 129 (nI b) (nI c) z P := by
  have h6 := hok.1
  have hl : ∀ m k, m + k = sPA S → wX12_seersOf_L5 148 gSH P (m + 1) 129 (nI b) (nI c) (nI (bs k (fun p => sSi S W p c))) (nI k) z := by
    intro m
    induction m with
    | zero =>
      intro k hk
      refine ⟨mO, m_panes hz hS ?_⟩
      rw [if_pos (nI_le (by omega) (by omega)), show k = sPA S by omega]
      exact h
    | succ m ih =>
      intro k hk
      refine ⟨mO, m_panes hz hS ?_⟩
      rw [if_neg (nI_ge (by omega) (by omega))]
      refine m_doesSee hz hS hW hok hT hb (by omega) hc (ifb0 (fun q => ?_) (fun q => ?_))
      · intro v hv u hu
        rw [nI_1] at hu
        have e := bs_step (f := fun p => sSi S W p c) (k := k) (by omega)
        simp only [q] at e
        subst hu
        rw [hv, show (nI (bs k (fun p => sSi S W p c)) ||| 0) = nI (bs (k + 1) (fun p => sSi S W p c)) from e]
        exact ih (k + 1) (by omega)
      · intro v hv u hu
        rw [nI_1] at hu
        have e := bs_step (f := fun p => sSi S W p c) (k := k) (by omega)
        simp only [q, if_true] at e
        subst hu
        rw [hv, e]
        exact ih (k + 1) (by omega)
  exact ⟨_, hl (sPA S) 0 (by omega)⟩
end RM
