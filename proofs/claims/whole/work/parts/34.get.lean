/-! ===== a street, a world now, on both sides ===== -/
def Rd (z : gS) (t : Nat) (S : sS) (W : sW) : Prop := sR z ∧ isS t ∧ gr z 0 7 = some t ∧ sOK S ∧ wOK S W ∧ wT W < 2 ^ 20 ∧ cS z t S ∧ cW z 3 S W ∧ mS z S ∧ mW z 0 S W
theorem cS.fr {z z' : gS} {t : Nat} {S : sS} (h : cS z t S) (hs : ∀ a k, t ≤ a → a ≤ t + 9 → gi z' a k = gi z a k) : cS z' t S := by
  obtain ⟨h1, h2, h3, h4, h5, h6, h7, h8, h9, h10, h11, h12⟩ := h
  refine ⟨?_, ?_, ?_, ?_, fun p hp => ?_, fun p hp => ?_, fun p hp => ?_, fun p hp => ?_, fun p hp => ?_, fun p hp => ?_, ?_, fun p hp => ?_⟩ <;> rw [hs _ _ (by omega) (by omega)]
  · exact h1
  · exact h2
  · exact h3
  · exact h4
  · exact h5 p hp
  · exact h6 p hp
  · exact h7 p hp
  · exact h8 p hp
  · exact h9 p hp
  · exact h10 p hp
  · exact h11
  · exact h12 p hp
theorem cW.fr {z z' : gS} {w : Nat} {S : sS} {W : sW} (h : cW z w S W) (hs : ∀ a k, w ≤ a → a ≤ w + 3 → gi z' a k = gi z a k) : cW z' w S W := by
  obtain ⟨h1, h2, h3, h4, h5, h6⟩ := h
  refine ⟨?_, ?_, ?_, fun p hp => ?_, fun p hp => ?_, fun p hp i hi => ?_⟩ <;> rw [hs _ _ (by omega) (by omega)]
  · exact h1
  · exact h2
  · exact h3
  · exact h4 p hp
  · exact h5 p hp
  · exact h6 p hp i hi
theorem mS.fr {z z' : gS} {S : sS} (h : mS z S) (hs : ∀ k, gi z' 135 k = gi z 135 k) : mS z' S := by
  unfold mS at h ⊢
  simp only [hs]
  exact h
theorem mW.fr {z z' : gS} {b : Nat} {S : sS} {W : sW} (h : mW z b S W) (hs : ∀ k, gi z' 145 k = gi z 145 k) : mW z' b S W := by
  unfold mW at h ⊢
  simp only [hs]
  exact h
theorem isS.le {t : Nat} (h : isS t) : 79 ≤ t ∧ t ≤ 92 := by rcases h with rfl | rfl <;> decide
theorem Rd.fr {z z' : gS} {t : Nat} {S : sS} {W : sW} (h : Rd z t S W) (hs : ∀ a k, (a < 7 ∨ (79 ≤ a ∧ a ≤ 104) ∨ a = 135 ∨ a = 145) → gi z' a k = gi z a k) (hr : ∀ a k, gr z' a k = gr z a k) : Rd z' t S W := by
  obtain ⟨h1, h2, h3, h4, h5, h6, h7, h8, h9, h10⟩ := h
  have hl := h2.le
  exact ⟨h1.to hr, h2, (hr 0 7).trans h3, h4, h5, h6, h7.fr (fun a k h1 h2 => hs a k (by omega)), h8.fr (fun a k h1 h2 => hs a k (by omega)), h9.fr (fun k => hs 135 k (by omega)), h10.fr (fun k => hs 145 k (by omega))⟩
theorem Rd.th {z : gS} {t : Nat} {S : sS} {W : sW} {v : Int32} (h : Rd z t S W) : Rd (si z 129 0 v) t S W := h.fr (fun a k ha => by rw [gi_si, if_neg (by omega)]) (fun a k => rfl)
theorem gO : oO 148 gSH 0 7 := ⟨by decide, by decide +kernel⟩
theorem gR1 {z : gS} (hz : sR z) : gr z 0 1 = some 3 := (hz _ _ (by decide) (by decide)).trans (by decide +kernel)
theorem w3 : isW 3 := by unfold isW; decide
/-! counting bits -/
def pcs : Nat → Nat → Nat
  | 0, _ => 0
  | k + 1, v => pcs k v + (v.testBit k).toNat
def bcE (x0 : Int32) : Int32 :=
  let v1 := (x0 - (((x0.toUInt32 >>> ((1 : Int32).toUInt32 &&& Int32.toUInt32 31)).toInt32) &&& (1431655765 : Int32)))
  let v2 := ((v1 &&& (858993459 : Int32)) + (((v1.toUInt32 >>> ((2 : Int32).toUInt32 &&& Int32.toUInt32 31)).toInt32) &&& (858993459 : Int32)))
  let v3 := ((v2 + ((v2.toUInt32 >>> ((4 : Int32).toUInt32 &&& Int32.toUInt32 31)).toInt32)) &&& (252645135 : Int32))
  let v4 := (v3 + ((v3.toUInt32 >>> ((8 : Int32).toUInt32 &&& Int32.toUInt32 31)).toInt32))
  let v5 := (v4 + ((v4.toUInt32 >>> ((16 : Int32).toUInt32 &&& Int32.toUInt32 31)).toInt32))
  (v5 &&& (63 : Int32))
theorem bc_all : ∀ v, v < 1024 → bcE (nI v) = nI (pcs 30 v) := by decide +kernel
theorem pcs_le (v : Nat) : ∀ k, pcs k v ≤ k
  | 0 => Nat.le_refl 0
  | k + 1 => by
    have := pcs_le v k
    simp only [pcs]
    have : (v.testBit k).toNat ≤ 1 := Bool.toNat_le _
    omega
section RB
variable {z : gS} {t : Nat} {S : sS} {W : sW} {P : Int32 → gS → Prop}
theorem j_bitCount {v : Nat} (hv : v < 1024) (h : P (nI (pcs 30 v)) z) : wJ6_bitCount_0f7a4 148 gSH (nI v) z P := by
  rw [← bc_all v hv] at h
  intro v1 e1 v2 e2 v3 e3 v4 e4 v5 e5
  subst e1 e2 e3 e4 e5
  exact h
theorem m_bits {v : Nat} (hv : v < 2 ^ 31) (h : P (nI (pcs 30 v)) z) : wX12_bits 148 gSH (nI v) z P := by
  have hl : ∀ m k, m + k = 30 → wX12_bits_L4 148 gSH P (m + 1) (nI v) (nI (pcs k v)) (nI k) z := by
    intro m
    induction m with
    | zero =>
      intro k hk
      unfold wX12_bits_L4 wX12_bits_B4
      rw [if_pos (show (30 : Int32) ≤ nI k by rw [show k = 30 by omega]; decide), show k = 30 by omega]
      exact h
    | succ m ih =>
      intro k hk
      unfold wX12_bits_L4 wX12_bits_B4
      rw [if_neg (show ¬ (30 : Int32) ≤ nI k from nI_ge (b := 30) (by omega) (by decide))]
      intro v1 e1 v2 e2
      rw [nI_bit (by omega) hv, nI_add] at e1
      rw [nI_1] at e2
      subst e1 e2
      exact ih (k + 1) (by omega)
  exact ⟨_, hl 30 0 (by omega)⟩
theorem c_hasPane_no (ht : isS t) (hS : cS z t S) {x : Int32} (hx : x < 0 ∨ nI (sPA S) ≤ x) (h : P 0 z) : wX7_hasPane 148 gSH t x z P := by
  unfold wX7_hasPane
  by_cases h0 : x < 0
  · rw [if_pos h0]; exact h
  · rw [if_neg h0]
    refine ⟨tO ht, ?_⟩
    rw [hS.1, if_pos (hx.resolve_left h0)]
    exact h
theorem c_hasPane_yes (ht : isS t) (hS : cS z t S) (hok : sOK S) {j : Nat} (hj : j < sPA S) (h : P 1 z) : wX7_hasPane 148 gSH t (nI j) z P := by
  have h1 := hok.1
  have h2 := hok.2.1
  have h3 := hok.2.2.1
  unfold wX7_hasPane
  rw [if_neg (nI_pos (by omega))]
  refine ⟨tO ht, ?_⟩
  rw [hS.1, if_neg (nI_ge hj (by omega))]
  exact h
theorem c_hasPerson_no (ht : isS t) (hS : cS z t S) {x : Int32} (hx : x < 0 ∨ nI (sPE S) ≤ x) (h : P 0 z) : wX7_hasPerson 148 gSH t x z P := by
  unfold wX7_hasPerson
  by_cases h0 : x < 0
  · rw [if_pos h0]; exact h
  · rw [if_neg h0]
    refine ⟨tO ht, ?_⟩
    rw [hS.2.1, if_pos (hx.resolve_left h0)]
    exact h
theorem c_hasPerson_yes (ht : isS t) (hS : cS z t S) (hok : sOK S) {j : Nat} (hj : j < sPE S) (h : P 1 z) : wX7_hasPerson 148 gSH t (nI j) z P := by
  have h1 := hok.1
  have h2 := hok.2.1
  have h3 := hok.2.2.1
  unfold wX7_hasPerson
  rw [if_neg (nI_pos (by omega))]
  refine ⟨tO ht, ?_⟩
  rw [hS.2.1, if_neg (nI_ge hj (by omega))]
  exact h
theorem c_hasDeed_no (ht : isS t) (hS : cS z t S) {x : Int32} (hx : x < 0 ∨ nI (sDE S) ≤ x) (h : P 0 z) : wX7_hasDeed 148 gSH t x z P := by
  unfold wX7_hasDeed
  by_cases h0 : x < 0
  · rw [if_pos h0]; exact h
  · rw [if_neg h0]
    refine ⟨tO ht, ?_⟩
    rw [hS.2.2.1, if_pos (hx.resolve_left h0)]
    exact h
theorem c_hasDeed_yes (ht : isS t) (hS : cS z t S) (hok : sOK S) {j : Nat} (hj : j < sDE S) (h : P 1 z) : wX7_hasDeed 148 gSH t (nI j) z P := by
  have h1 := hok.1
  have h2 := hok.2.1
  have h3 := hok.2.2.1
  unfold wX7_hasDeed
  rw [if_neg (nI_pos (by omega))]
  refine ⟨tO ht, ?_⟩
  rw [hS.2.2.1, if_neg (nI_ge hj (by omega))]
  exact h
theorem m_isPane_no (hz : sR z) (hS : mS z S) {x : Int32} (hx : x < 0 ∨ nI (sPA S) ≤ x) (h : P 0 z) : wX12_isPane 148 gSH 129 x z P := by
  unfold wX12_isPane
  by_cases h0 : x < 0
  · rw [if_pos h0]; exact h
  · rw [if_neg h0]
    refine ⟨mO, m_panes hz hS ?_⟩
    rw [if_pos (hx.resolve_left h0)]
    exact h
theorem m_isPane_yes (hz : sR z) (hS : mS z S) (hok : sOK S) {j : Nat} (hj : j < sPA S) (h : P 1 z) : wX12_isPane 148 gSH 129 (nI j) z P := by
  have h1 := hok.1
  have h2 := hok.2.1
  have h3 := hok.2.2.1
  unfold wX12_isPane
  rw [if_neg (nI_pos (by omega))]
  refine ⟨mO, m_panes hz hS ?_⟩
  rw [if_neg (nI_ge hj (by omega))]
  exact h
theorem m_isPerson_no (hz : sR z) (hS : mS z S) {x : Int32} (hx : x < 0 ∨ nI (sPE S) ≤ x) (h : P 0 z) : wX12_isPerson 148 gSH 129 x z P := by
  unfold wX12_isPerson
  by_cases h0 : x < 0
  · rw [if_pos h0]; exact h
  · rw [if_neg h0]
    refine ⟨mO, m_people hz hS ?_⟩
    rw [if_pos (hx.resolve_left h0)]
    exact h
theorem m_isPerson_yes (hz : sR z) (hS : mS z S) (hok : sOK S) {j : Nat} (hj : j < sPE S) (h : P 1 z) : wX12_isPerson 148 gSH 129 (nI j) z P := by
  have h1 := hok.1
  have h2 := hok.2.1
  have h3 := hok.2.2.1
  unfold wX12_isPerson
  rw [if_neg (nI_pos (by omega))]
  refine ⟨mO, m_people hz hS ?_⟩
  rw [if_neg (nI_ge hj (by omega))]
  exact h
theorem m_isDeed_no (hz : sR z) (hS : mS z S) {x : Int32} (hx : x < 0 ∨ nI (sDE S) ≤ x) (h : P 0 z) : wX12_isDeed 148 gSH 129 x z P := by
  unfold wX12_isDeed
  by_cases h0 : x < 0
  · rw [if_pos h0]; exact h
  · rw [if_neg h0]
    refine ⟨mO, m_deeds hz hS ?_⟩
    rw [if_pos (hx.resolve_left h0)]
    exact h
theorem m_isDeed_yes (hz : sR z) (hS : mS z S) (hok : sOK S) {j : Nat} (hj : j < sDE S) (h : P 1 z) : wX12_isDeed 148 gSH 129 (nI j) z P := by
  have h1 := hok.1
  have h2 := hok.2.1
  have h3 := hok.2.2.1
  unfold wX12_isDeed
  rw [if_neg (nI_pos (by omega))]
  refine ⟨mO, m_deeds hz hS ?_⟩
  rw [if_neg (nI_ge hj (by omega))]
  exact h
theorem ix_of (x : Int32) {n : Nat} (hn : n < 2 ^ 31) : (x < 0 ∨ nI n ≤ x) ∨ ∃ j : Nat, j < n ∧ x = nI j := by
  rcases pk_ix x hn with h | h | h
  · exact Or.inl (Or.inl h)
  · exact Or.inl (Or.inr h)
  · exact Or.inr h
end RB
section RP
variable {z : gS} {t : Nat} {S : sS} {W : sW} {Q : Int32 → Int32 → gS → Prop}
theorem p_seen (h : Rd z t S W) (x : Int32) (hQ : ∀ r, Q r r (si z 129 0 0)) : wX11_seen 148 gSH 0 x z (fun r1 z1 => wX12_seen 148 gSH 129 x z1 (fun r2 z2 => Q r1 r2 z2)) := by
  have hb := h.th (v := 0)
  obtain ⟨hz, ht, h7, hok, hwk, hT, hS, hW, hmS, hmW⟩ := h
  obtain ⟨gz, _, _, _, _, _, _, _, gmS, gmW⟩ := hb
  have h5 := hok.2.1
  refine ⟨gO, t, h7, tO ht, ?_⟩
  rcases ix_of x (n := sPE S) (by omega) with hx | ⟨j, hj, rfl⟩
  · refine c_hasPerson_no ht hS hx ?_
    rw [if_pos rfl]
    refine ⟨mO, fun z2 e2 => ?_⟩
    subst e2
    refine m_isPerson_no gz gmS hx ?_
    rw [if_pos rfl]
    exact hQ _
  · have hc := hwk.1 j hj
    refine c_hasPerson_yes ht hS hok hj ?_
    rw [if_neg (by decide)]
    refine ⟨3, gR1 hz, t, h7, 3, gR1 hz, wO w3, _, wR5 hz w3, wA1 w3, by rw [wL1 w3]; exact vp_in_nI (by omega) (by decide), wO w3, ?_⟩
    rw [nI_clamp (by omega), hW.2.2.2.1 j hj]
    refine c_watchersOf hz w3 ht hS hW hok (by omega) hc ?_
    refine ⟨mO, fun z2 e2 => ?_⟩
    subst e2
    refine m_isPerson_yes gz gmS hok hj ?_
    rw [if_neg (by decide)]
    refine ⟨_, mR24 gz, mA145, ?_⟩
    rw [i_1, nI_add, nI_clamp (by omega), mL145]
    refine ⟨vp_in_nI (by omega) (by decide), ?_⟩
    have e := gmW.2.1 j hj
    rw [show 0 + 1 + j = 1 + j by omega] at e
    rw [e]
    exact m_seersOf (b := 0) gz gmS gmW hok (by omega) (by decide) hc (hQ _)
theorem p_person (h : Rd z t S W) (x : Int32) (hQ : ∀ r, Q r r (si z 129 0 0)) : wX11_person 148 gSH 0 x z (fun r1 z1 => wX12_person 148 gSH 129 x z1 (fun r2 z2 => Q r1 r2 z2)) := by
  have hb := h.th (v := 0)
  obtain ⟨hz, ht, h7, hok, hwk, hT, hS, hW, hmS, hmW⟩ := h
  obtain ⟨gz, _, _, _, _, _, _, _, gmS, gmW⟩ := hb
  have h5 := hok.2.1
  refine ⟨gO, t, h7, tO ht, ?_⟩
  rcases ix_of x (n := sPE S) (by omega) with hx | ⟨j, hj, rfl⟩
  · refine c_hasPerson_no ht hS hx ?_
    rw [if_pos rfl]
    refine ⟨mO, fun z2 e2 => ?_⟩
    subst e2
    refine m_isPerson_no gz gmS hx ?_
    rw [if_pos rfl]
    exact hQ _
  · refine c_hasPerson_yes ht hS hok hj ?_
    rw [if_neg (by decide)]
    refine ⟨3, gR1 hz, wO w3, _, wR5 hz w3, wA1 w3, by rw [wL1 w3]; exact vp_in_nI (by omega) (by decide), ?_⟩
    rw [nI_clamp (by omega), hW.2.2.2.1 j hj]
    refine ⟨mO, fun z2 e2 => ?_⟩
    subst e2
    refine m_isPerson_yes gz gmS hok hj ?_
    rw [if_neg (by decide)]
    refine ⟨_, mR24 gz, mA145, ?_⟩
    rw [i_1, nI_add, nI_clamp (by omega), mL145]
    refine ⟨vp_in_nI (by omega) (by decide), ?_⟩
    have e := gmW.2.1 j hj
    rw [show 0 + 1 + j = 1 + j by omega] at e
    rw [e]
    exact hQ _
end RP
