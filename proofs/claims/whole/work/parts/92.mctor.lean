/-! ===== the model's constructor (rows of parts 33, 56, 89 once more, where one cell is wanting yet) ===== -/
theorem nO7 : oO 147 (shN 147) 129 8 := shO (by decide) (by decide +kernel)
theorem nA135 : oA 147 (shN 147) 135 1 := shA (by decide) (by decide +kernel)
theorem nL135 : (shN 147 135).2 = 120 := by decide +kernel
theorem nA142 : oA 147 (shN 147) 142 1 := shA (by decide) (by decide +kernel)
theorem nL142 : (shN 147 142).2 = 250 := by decide +kernel
theorem nA145 : oA 147 (shN 147) 145 1 := shA (by decide) (by decide +kernel)
theorem nL145 : (shN 147 145).2 = 1518 := by decide +kernel
theorem nA146 : oA 147 (shN 147) 146 4 := shA (by decide) (by decide +kernel)
theorem nL146 : (shN 147 146).2 = 4 := by decide +kernel
section RM
variable {z : gS} {b : Nat} {S : sS} {P : Int32 → gS → Prop} {R : gS → Prop}
theorem m_people7 (hz : sR z) (hS : mS z S) (h : P (nI (sPE S)) z) : wX12_people 147 (shN 147) 129 z P := by
  refine ⟨nO7, _, mR10 hz, nA135, by rw [nL135]; exact vp_in_nI (n := 1) (by decide) (by decide), ?_⟩
  rw [show (1 : Int32).toNatClampNeg = 1 from rfl, hS.2.1]
  exact h
theorem m_starts7 (hz : sR z) (hb : b ≤ 1452) (hok : sOK S) (hS : mS z S) (hP : ∀ z', MW z' b S (bgW S) → Fr (wrM b) z z' → R z') : wX12_starts 147 (shN 147) 129 (nI b) z R := by
  have h5 := hok.2.1
  have h6 := hok.1
  refine (lp (fun m k => ∀ z1, Fr (wrM b) z z1 → (∀ p, p < k → gi z1 145 (b + p) = nI 0) → wX12_starts_L2 147 (shN 147) R m 129 (nI b) (nI k) z1) 60 (fun m z1 hf hr => ?_) (fun m k hk ih z1 hf hr => ?_)).imp (fun N q => q z Fr.rf (fun p hp => absurd hp (Nat.not_lt_zero p)))
  · unfold wX12_starts_L2 wX12_starts_B2
    rw [if_pos (show (60 : Int32) ≤ nI 60 by decide)]
    refine (lp (fun m k => ∀ z5, Fr (fun a j => a = 145 ∧ b + 1 ≤ j ∧ j < b + 1 + sPE S) z1 z5 → (∀ p, p < k → gi z5 145 (b + 1 + p) = nI (sHO S p)) → wX12_starts_L25 147 (shN 147) R m 129 (nI b) (nI k) z5) (sPE S) (fun m z5 hf5 hr5 => ?_) (fun m k hk ih z5 hf5 hr5 => ?_)).imp (fun N q => q z1 Fr.rf (fun p hp => absurd hp (Nat.not_lt_zero p)))
    · have hff : Fr (wrM b) z z5 := hf.tr hf5 (fun _ _ q => q) (fun a k q => ⟨q.1, by omega, by omega⟩)
      have hS5 : mS z5 S := hS.fr (fun k => hff.1 135 k (by unfold wrM; omega))
      have hq : ∀ j, j < 60 → (j < 1 ∨ 6 ≤ j) → gi z5 145 (b + j) = nI 0 := fun j hj hj2 => (hf5.1 _ _ (by omega)).trans (hr j hj)
      unfold wX12_starts_L25 wX12_starts_B25
      refine ⟨nO7, m_people7 (hff.sR hz) hS5 ?_⟩
      rw [if_pos (nI_le (by omega) (by omega))]
      refine hP z5 ⟨hff.sR hz, hok, bgW_ok hok, show 0 < 2 ^ 20 by decide, hS5, ⟨?_, fun q hq => hr5 q hq, fun g hg => ?_, fun g hg => ?_, fun g hg => ?_, fun g hg i hi => absurd hi (Nat.not_lt_zero i)⟩, hb⟩ hff
      · exact hq 0 (by decide) (by decide)
      · rw [show b + 6 + g = b + (6 + g) by omega]; exact hq _ (by omega) (by omega)
      · rw [show b + 12 + g = b + (12 + g) by omega]; exact hq _ (by omega) (by omega)
      · rw [show b + 18 + g = b + (18 + g) by omega]; exact hq _ (by omega) (by omega)
    · have hff : Fr (wrM b) z z5 := hf.tr hf5 (fun _ _ q => q) (fun a k q => ⟨q.1, by omega, by omega⟩)
      have hS5 : mS z5 S := hS.fr (fun k => hff.1 135 k (by unfold wrM; omega))
      have hz5 := hff.sR hz
      unfold wX12_starts_L25 wX12_starts_B25
      refine ⟨nO7, m_people7 hz5 hS5 ?_⟩
      rw [if_neg (nI_ge hk (by omega))]
      refine ⟨_, mR24 hz5, _, mR10 hz5, nA135, ?_⟩
      rw [j_23, j_1, nI_add, nI_add, nI_add, nI_clamp (by omega), nI_clamp (by omega), nL135, nL145, hS5.2.2.2.2.2.2.2.1 k hk]
      refine ⟨vp_in_nI (by omega) (by decide), nA145, vp_in_nI (by omega) (by decide), fun z9 e9 v10 e10 => ?_⟩
      rw [nI_add] at e10
      subst e9 e10
      refine ih _ (hf5.si ⟨rfl, by omega, by omega⟩) (fun p hp => ?_)
      rw [gi_si]
      by_cases e : p = k
      · rw [if_pos ⟨rfl, by omega⟩, e]
      · rw [if_neg (by omega)]; exact hr5 p (by omega)
  · have hz1 := hf.sR hz
    unfold wX12_starts_L2 wX12_starts_B2
    rw [if_neg (show ¬ (60 : Int32) ≤ nI k from nI_ge (b := 60) hk (by decide))]
    refine ⟨nO7, _, mR24 hz1, nA145, ?_⟩
    rw [nI_add, nI_clamp (by omega), nL145]
    refine ⟨vp_in_nI (by omega) (by decide), fun z9 e9 v10 e10 => ?_⟩
    rw [nI_1] at e10
    subst e9 e10
    refine ih _ (hf.si ⟨rfl, by omega, by omega⟩) (fun p hp => ?_)
    rw [gi_si]
    by_cases e : p = k
    · rw [if_pos ⟨rfl, by omega⟩]; rfl
    · rw [if_neg (by omega)]; exact hr p (by omega)
theorem m_begins7 (hz : sR z) (hok : sOK S) (hS : mS z S) (hP : ∀ z', mW z' 0 S (bgW S) → mSd z' 60 (fun _ => false) (fun _ => false) → gi z' 142 0 = nI 0 → gi z' 129 25 = nI 0 → (∀ m, m < 4 → gi z' 146 m = nI 0) → Fr (fun a k => (a = 145 ∧ k < 66) ∨ (a = 142 ∧ k = 0) ∨ (a = 129 ∧ k = 25) ∨ a = 146) z z' → R z') : wX12_begins 147 (shN 147) 129 z R := by
  refine ⟨nO7, m_starts7 (b := 0) hz (by decide) hok hS (fun z2 w2 f2 => ?_)⟩
  have hz2 := f2.sR hz
  refine (lp (fun N k => ∀ z3, Fr (fun a j => a = 145 ∧ 60 ≤ j ∧ j < 66) z2 z3 → (∀ j, j < k → gi z3 145 (60 + j) = nN) → wX12_begins_L7 147 (shN 147) R N 129 (nI k) z3) 6 (fun N z3 f3 g3 => ?_) (fun N k hk ih z3 f3 g3 => ?_)).imp (fun N q => q z2 Fr.rf (fun j hj => absurd hj (Nat.not_lt_zero _)))
  · unfold wX12_begins_L7 wX12_begins_B7
    rw [if_pos (by decide)]
    have hz3 := f3.sR hz2
    refine ⟨nO7, _, mR21 hz3, nA142, by rw [nL142]; exact vp_in_nI (n := 0) (by decide) (by decide), fun z8 e8 z9 e9 => ?_⟩
    rw [show (0 : Int32).toNatClampNeg = 0 from rfl] at e8
    have hz9 : sR z9 := by rw [e9, e8]; exact hz3.to (fun _ _ => rfl)
    refine (lp (fun N m => ∀ z4, Fr (fun a _ => a = 146) z9 z4 → (∀ j, j < m → gi z4 146 j = nI 0) → wX12_begins_L43 147 (shN 147) R N 129 (nI m) z4) 4 (fun N z4 f4 g4 => ?_) (fun N m hm ih z4 f4 g4 => ?_)).imp (fun N q => q z9 Fr.rf (fun j hj => absurd hj (Nat.not_lt_zero _)))
    · unfold wX12_begins_L43 wX12_begins_B43
      rw [if_pos (by decide)]
      have e9g : ∀ a k, ¬ (a = 142 ∧ k = 0) → ¬ (a = 129 ∧ k = 25) → gi z9 a k = gi z3 a k := fun a k q1 q2 => by rw [e9, gi_si, if_neg q2, e8, gi_si, if_neg q1]
      refine hP z4 ?_ (fun g hg => ?_) ?_ ?_ g4 ?_
      · refine w2.2.2.2.2.2.1.cp hok w2.2.2.1 (fun k hk => ?_)
        rw [f4.1 _ _ (by omega), e9g _ _ (by omega) (by omega), f3.1 _ _ (by omega)]
      · rw [f4.1 _ _ (by omega), e9g _ _ (by omega) (by omega)]
        exact g3 g hg
      · rw [f4.1 _ _ (by omega), e9, gi_si, if_neg (by omega), e8, gi_si, if_pos ⟨rfl, rfl⟩]; rfl
      · rw [f4.1 _ _ (by omega), e9, gi_si, if_pos ⟨rfl, rfl⟩]; rfl
      · refine ⟨fun a k q => ?_, fun a k => ?_, fun a k => ?_⟩
        · rw [f4.1 _ _ (by omega), e9g _ _ (by omega) (by omega), f3.1 _ _ (by omega), f2.1 _ _ (by unfold wrM; omega)]
        · rw [f4.2.1, e9, gl_si, e8, gl_si, f3.2.1, f2.2.1]
        · rw [f4.2.2, e9, gr_si, e8, gr_si, f3.2.2, f2.2.2]
    · unfold wX12_begins_L43 wX12_begins_B43
      rw [if_neg (show ¬ (4 : Int32) ≤ nI m from nI_ge (b := 4) hm (by decide))]
      refine ⟨nO7, _, mR26 (f4.sR hz9), nA146, by rw [nL146]; exact vp_in_nI hm (by decide), fun z14 e14 v15 e15 => ?_⟩
      rw [nI_clamp (by omega), nar_0] at e14
      rw [nI_1] at e15
      subst e15
      refine ih z14 (by rw [e14]; exact f4.si rfl) (fun j hj => ?_)
      rw [e14, gi_si]
      by_cases q : j = m
      · rw [if_pos ⟨rfl, q⟩]
      · rw [if_neg (by omega)]; exact g4 j (by omega)
  · unfold wX12_begins_L7 wX12_begins_B7
    rw [if_neg (show ¬ (6 : Int32) ≤ nI k from nI_ge (b := 6) hk (by decide))]
    refine ⟨nO7, _, mR24 (f3.sR hz2), nA145, ?_⟩
    rw [j_60, nI_add, nL145]
    refine ⟨vp_in_nI (by omega) (by decide), fun z21 e21 v22 e22 => ?_⟩
    rw [nI_clamp (by omega)] at e21
    rw [nI_1] at e22
    subst e22
    refine ih z21 (by rw [e21]; exact f3.si ⟨rfl, by omega, by omega⟩) (fun j hj => ?_)
    rw [e21, gi_si]
    by_cases q : j = k
    · rw [if_pos ⟨rfl, by omega⟩]; rfl
    · rw [if_neg (by omega)]; exact g3 j (by omega)
theorem m_stands7 (hz : sR z) {o : Nat} (ho : o = 0 ∨ o = 60) (hP : ∀ z', (∀ k, k < 60 → gi z' 135 (o + k) = if k = 3 ∨ k = 33 then 1 else if k = 4 then nN else 0) → Fr (fun a k => a = 135 ∧ o ≤ k ∧ k < o + 60) z z' → R z') : wX12_standsAsAlways 147 (shN 147) 129 (nI o) z R := by
  refine (lp (fun N k => ∀ z1, Fr (fun a j => a = 135 ∧ o ≤ j ∧ j < o + 60) z z1 → (∀ j, j < k → gi z1 135 (o + j) = 0) → wX12_standsAsAlways_L2 147 (shN 147) R N 129 (nI o) (nI k) z1) 60 (fun N z1 f1 g1 => ?_) (fun N k hk ih z1 f1 g1 => ?_)).imp (fun N q => q z Fr.rf (fun j hj => absurd hj (Nat.not_lt_zero _)))
  · unfold wX12_standsAsAlways_L2 wX12_standsAsAlways_B2
    rw [if_pos (by decide)]
    have hz1 := f1.sR hz
    refine ⟨nO7, _, mR10 hz1, nA135, ?_⟩
    rw [j_3, nI_add, nL135]
    refine ⟨vp_in_nI (by omega) (by decide), fun z5 e5 => ?_⟩
    refine ⟨_, mR10 (by rw [e5]; exact hz1.to (fun _ _ => rfl)), nA135, ?_⟩
    rw [j_33, nI_add, nL135]
    refine ⟨vp_in_nI (by omega) (by decide), fun z9 e9 => ?_⟩
    refine ⟨_, mR10 (by rw [e9, e5]; exact hz1.to (fun _ _ => rfl)), nA135, ?_⟩
    rw [j_4, nI_add, nL135]
    refine ⟨vp_in_nI (by omega) (by decide), fun z13 e13 => hP z13 (fun k hk => ?_) ?_⟩
    · rw [nI_clamp (by omega)] at e5 e9 e13
      rw [e13, gi_si, e9, gi_si, e5, gi_si]
      by_cases q1 : k = 4
      · rw [if_pos ⟨rfl, by omega⟩, if_neg (by omega), if_pos q1]; rfl
      rw [if_neg (by omega)]
      by_cases q2 : k = 33
      · rw [if_pos ⟨rfl, by omega⟩, if_pos (Or.inr q2)]
      rw [if_neg (by omega)]
      by_cases q3 : k = 3
      · rw [if_pos ⟨rfl, by omega⟩, if_pos (Or.inl q3)]
      rw [if_neg (by omega), if_neg (by omega), if_neg q1]
      exact g1 k hk
    · rw [nI_clamp (by omega)] at e5 e9 e13
      rw [e13, e9, e5]
      exact ((f1.si ⟨rfl, by omega, by omega⟩).si ⟨rfl, by omega, by omega⟩).si ⟨rfl, by omega, by omega⟩
  · unfold wX12_standsAsAlways_L2 wX12_standsAsAlways_B2
    rw [if_neg (show ¬ (60 : Int32) ≤ nI k from nI_ge (b := 60) hk (by decide))]
    refine ⟨nO7, _, mR10 (f1.sR hz), nA135, ?_⟩
    rw [nI_add, nL135]
    refine ⟨vp_in_nI (by omega) (by decide), fun z18 e18 v19 e19 => ?_⟩
    rw [nI_clamp (by omega)] at e18
    rw [nI_1] at e19
    subst e19
    refine ih z18 (by rw [e18]; exact f1.si ⟨rfl, by omega, by omega⟩) (fun j hj => ?_)
    rw [e18, gi_si]
    by_cases q : j = k
    · rw [if_pos ⟨rfl, by omega⟩]
    · rw [if_neg (by omega)]; exact g1 j (by omega)
end RM
def Wv (j : Nat) (z : gS) : Prop := ∀ k, k < j → gl z 134 k = lN (wdL.getD k 0)
section RI
variable {s n j : Nat} {z : gS}
theorem sw_k {K : gS → Prop} {kk : Nat} {v : Int64} (h : Iv s z) (hw : Wv j z) (hk : kk = j) (hv : v = lN (wdL.getD j 0)) (hK : ∀ z', Iv s z' → Wv (j + 1) z' → K z') : ∀ z2 : gS, z2 = sl z 134 kk v → K z2 := by
  intro z2 e
  subst e hk
  refine hK _ ⟨h.1, fun b i q => ?_, h.2.2⟩ (fun i hi => ?_)
  · rw [gl_sl, if_neg (by omega)]; exact h.2.1 b i q
  · rw [gl_sl]
    by_cases e : i = kk
    · rw [if_pos ⟨rfl, e⟩, e, hv]
    · rw [if_neg (by omega)]; exact hw i (by omega)
theorem alw_k {w : Nat × Nat} {K : (Nat → Nat × Nat) → gS → Prop} (h : Iv s z) (hw : Wv 26 z) (hv : gSH n = w) (hf : okB n s = true) (hn : n ≠ 134) (hK : ∀ z', Iv s z' → Wv 26 z' → K (shN (n + 1)) z') : ∀ q : Nat → Nat × Nat, q = va_up (shN n) n w → ∀ z2 : gS, z2 = z0 z n → K q z2 := by
  intro q e z2 e2
  rw [shN_up hv] at e
  subst e e2
  exact hK _ (h.al hf) (fun k hk => by rw [gl_z0, if_neg (fun r => hn r.symm)]; exact hw k hk)
theorem srw_k {a k v : Nat} {K : gS → Prop} (h : Iv s z) (hw : Wv 26 z) (hr : rK[s]? = some (a, k)) (hv : rF a k = some v) (hK : ∀ z', Iv (s + 1) z' → Wv 26 z' → K z') : ∀ z2 : gS, z2 = sr z a k (some v) → K z2 := by
  intro z2 e
  subst e
  exact hK _ (sr_k h hr hv (K := fun z' => Iv (s + 1) z') (fun z' h' => h') _ rfl) hw
theorem od_le (a k : Nat) : od a k ≤ 145 := by
  rcases Nat.eq_zero_or_pos (od a k) with r | r
  · omega
  · have := od_K (show od a k = (od a k - 1) + 1 by omega)
    have := (List.getElem?_eq_some_iff.mp this).1
    rw [rK_len] at this
    omega
theorem rF_7 : ∀ k, k < 7 → rF 0 k = gRR 0 k := by decide +kernel
theorem Iv.sR (h : Iv 145 z) : sR z := by
  intro a k ha hk
  rw [h.2.2 a k (od_le a k)]
  by_cases e : a = 0
  · rw [e]; exact rF_7 k (by omega)
  · unfold rF; rw [if_neg e]
set_option maxRecDepth 10000 in
set_option maxHeartbeats 1000000 in
theorem i_model {P : Nat → (Nat → Nat × Nat) → gS → Prop} (h : Iv 128 z) (hP : ∀ z', Iv 145 z' → Wv 26 z' → wX12_standsAsAlways 147 (shN 147) 129 (0 : Int32) z' (fun (z147 : gS) => (oO 147 (shN 147) 129 8) ∧ (wX12_begins 147 (shN 147) 129 z147 (fun (z149 : gS) => P 147 (shN 147) z149)))) : wX12_init 130 (shN 130) 129 z P := by
  refine al_k h (by decide +kernel) (by decide +kernel) (fun z h => ⟨shO (by decide +kernel) (by decide +kernel), sr_k h (by decide +kernel) (by decide +kernel) (fun z h => ?_)⟩)
  refine al_k h (by decide +kernel) (by decide +kernel) (fun z h => ⟨shO (by decide +kernel) (by decide +kernel), sr_k h (by decide +kernel) (by decide +kernel) (fun z h => ?_)⟩)
  refine al_k h (by decide +kernel) (by decide +kernel) (fun z h => ⟨shO (by decide +kernel) (by decide +kernel), sr_k h (by decide +kernel) (by decide +kernel) (fun z h => ?_)⟩)
  refine al_k h (by decide +kernel) (by decide +kernel) (fun z h => ⟨shO (by decide +kernel) (by decide +kernel), sr_k h (by decide +kernel) (by decide +kernel) (fun z h => ?_)⟩)
  refine al_k h (by decide +kernel) (by decide +kernel) (fun z h => ?_)
  have hw : Wv 0 z := fun k hk => absurd hk (Nat.not_lt_zero _)
  refine ⟨shA (by decide +kernel) (by decide +kernel), shV (by decide +kernel) (by unfold vp_in; decide +kernel), sw_k h hw (by decide +kernel) (by decide +kernel) (fun z h hw => ?_)⟩
  refine ⟨shA (by decide +kernel) (by decide +kernel), shV (by decide +kernel) (by unfold vp_in; decide +kernel), sw_k h hw (by decide +kernel) (by decide +kernel) (fun z h hw => ?_)⟩
  refine ⟨shA (by decide +kernel) (by decide +kernel), shV (by decide +kernel) (by unfold vp_in; decide +kernel), sw_k h hw (by decide +kernel) (by decide +kernel) (fun z h hw => ?_)⟩
  refine ⟨shA (by decide +kernel) (by decide +kernel), shV (by decide +kernel) (by unfold vp_in; decide +kernel), sw_k h hw (by decide +kernel) (by decide +kernel) (fun z h hw => ?_)⟩
  refine ⟨shA (by decide +kernel) (by decide +kernel), shV (by decide +kernel) (by unfold vp_in; decide +kernel), sw_k h hw (by decide +kernel) (by decide +kernel) (fun z h hw => ?_)⟩
  refine ⟨shA (by decide +kernel) (by decide +kernel), shV (by decide +kernel) (by unfold vp_in; decide +kernel), sw_k h hw (by decide +kernel) (by decide +kernel) (fun z h hw => ?_)⟩
  refine ⟨shA (by decide +kernel) (by decide +kernel), shV (by decide +kernel) (by unfold vp_in; decide +kernel), sw_k h hw (by decide +kernel) (by decide +kernel) (fun z h hw => ?_)⟩
  refine ⟨shA (by decide +kernel) (by decide +kernel), shV (by decide +kernel) (by unfold vp_in; decide +kernel), sw_k h hw (by decide +kernel) (by decide +kernel) (fun z h hw => ?_)⟩
  refine ⟨shA (by decide +kernel) (by decide +kernel), shV (by decide +kernel) (by unfold vp_in; decide +kernel), sw_k h hw (by decide +kernel) (by decide +kernel) (fun z h hw => ?_)⟩
  refine ⟨shA (by decide +kernel) (by decide +kernel), shV (by decide +kernel) (by unfold vp_in; decide +kernel), sw_k h hw (by decide +kernel) (by decide +kernel) (fun z h hw => ?_)⟩
  refine ⟨shA (by decide +kernel) (by decide +kernel), shV (by decide +kernel) (by unfold vp_in; decide +kernel), sw_k h hw (by decide +kernel) (by decide +kernel) (fun z h hw => ?_)⟩
  refine ⟨shA (by decide +kernel) (by decide +kernel), shV (by decide +kernel) (by unfold vp_in; decide +kernel), sw_k h hw (by decide +kernel) (by decide +kernel) (fun z h hw => ?_)⟩
  refine ⟨shA (by decide +kernel) (by decide +kernel), shV (by decide +kernel) (by unfold vp_in; decide +kernel), sw_k h hw (by decide +kernel) (by decide +kernel) (fun z h hw => ?_)⟩
  refine ⟨shA (by decide +kernel) (by decide +kernel), shV (by decide +kernel) (by unfold vp_in; decide +kernel), sw_k h hw (by decide +kernel) (by decide +kernel) (fun z h hw => ?_)⟩
  refine ⟨shA (by decide +kernel) (by decide +kernel), shV (by decide +kernel) (by unfold vp_in; decide +kernel), sw_k h hw (by decide +kernel) (by decide +kernel) (fun z h hw => ?_)⟩
  refine ⟨shA (by decide +kernel) (by decide +kernel), shV (by decide +kernel) (by unfold vp_in; decide +kernel), sw_k h hw (by decide +kernel) (by decide +kernel) (fun z h hw => ?_)⟩
  refine ⟨shA (by decide +kernel) (by decide +kernel), shV (by decide +kernel) (by unfold vp_in; decide +kernel), sw_k h hw (by decide +kernel) (by decide +kernel) (fun z h hw => ?_)⟩
  refine ⟨shA (by decide +kernel) (by decide +kernel), shV (by decide +kernel) (by unfold vp_in; decide +kernel), sw_k h hw (by decide +kernel) (by decide +kernel) (fun z h hw => ?_)⟩
  refine ⟨shA (by decide +kernel) (by decide +kernel), shV (by decide +kernel) (by unfold vp_in; decide +kernel), sw_k h hw (by decide +kernel) (by decide +kernel) (fun z h hw => ?_)⟩
  refine ⟨shA (by decide +kernel) (by decide +kernel), shV (by decide +kernel) (by unfold vp_in; decide +kernel), sw_k h hw (by decide +kernel) (by decide +kernel) (fun z h hw => ?_)⟩
  refine ⟨shA (by decide +kernel) (by decide +kernel), shV (by decide +kernel) (by unfold vp_in; decide +kernel), sw_k h hw (by decide +kernel) (by decide +kernel) (fun z h hw => ?_)⟩
  refine ⟨shA (by decide +kernel) (by decide +kernel), shV (by decide +kernel) (by unfold vp_in; decide +kernel), sw_k h hw (by decide +kernel) (by decide +kernel) (fun z h hw => ?_)⟩
  refine ⟨shA (by decide +kernel) (by decide +kernel), shV (by decide +kernel) (by unfold vp_in; decide +kernel), sw_k h hw (by decide +kernel) (by decide +kernel) (fun z h hw => ?_)⟩
  refine ⟨shA (by decide +kernel) (by decide +kernel), shV (by decide +kernel) (by unfold vp_in; decide +kernel), sw_k h hw (by decide +kernel) (by decide +kernel) (fun z h hw => ?_)⟩
  refine ⟨shA (by decide +kernel) (by decide +kernel), shV (by decide +kernel) (by unfold vp_in; decide +kernel), sw_k h hw (by decide +kernel) (by decide +kernel) (fun z h hw => ?_)⟩
  refine ⟨shA (by decide +kernel) (by decide +kernel), shV (by decide +kernel) (by unfold vp_in; decide +kernel), sw_k h hw (by decide +kernel) (by decide +kernel) (fun z h hw => ?_)⟩
  refine ⟨shO (by decide +kernel) (by decide +kernel), srw_k h hw (by decide +kernel) (by decide +kernel) (fun z h hw => ?_)⟩
  refine alw_k h hw (by decide +kernel) (by decide +kernel) (by decide +kernel) (fun z h hw => ⟨shO (by decide +kernel) (by decide +kernel), srw_k h hw (by decide +kernel) (by decide +kernel) (fun z h hw => ?_)⟩)
  refine alw_k h hw (by decide +kernel) (by decide +kernel) (by decide +kernel) (fun z h hw => ⟨shO (by decide +kernel) (by decide +kernel), srw_k h hw (by decide +kernel) (by decide +kernel) (fun z h hw => ?_)⟩)
  refine alw_k h hw (by decide +kernel) (by decide +kernel) (by decide +kernel) (fun z h hw => ⟨shO (by decide +kernel) (by decide +kernel), srw_k h hw (by decide +kernel) (by decide +kernel) (fun z h hw => ?_)⟩)
  refine alw_k h hw (by decide +kernel) (by decide +kernel) (by decide +kernel) (fun z h hw => ⟨shO (by decide +kernel) (by decide +kernel), srw_k h hw (by decide +kernel) (by decide +kernel) (fun z h hw => ?_)⟩)
  refine alw_k h hw (by decide +kernel) (by decide +kernel) (by decide +kernel) (fun z h hw => ⟨shO (by decide +kernel) (by decide +kernel), srw_k h hw (by decide +kernel) (by decide +kernel) (fun z h hw => ?_)⟩)
  refine alw_k h hw (by decide +kernel) (by decide +kernel) (by decide +kernel) (fun z h hw => ⟨shO (by decide +kernel) (by decide +kernel), srw_k h hw (by decide +kernel) (by decide +kernel) (fun z h hw => ?_)⟩)
  refine alw_k h hw (by decide +kernel) (by decide +kernel) (by decide +kernel) (fun z h hw => ⟨shO (by decide +kernel) (by decide +kernel), srw_k h hw (by decide +kernel) (by decide +kernel) (fun z h hw => ?_)⟩)
  refine alw_k h hw (by decide +kernel) (by decide +kernel) (by decide +kernel) (fun z h hw => ⟨shO (by decide +kernel) (by decide +kernel), srw_k h hw (by decide +kernel) (by decide +kernel) (fun z h hw => ?_)⟩)
  refine alw_k h hw (by decide +kernel) (by decide +kernel) (by decide +kernel) (fun z h hw => ⟨shO (by decide +kernel) (by decide +kernel), srw_k h hw (by decide +kernel) (by decide +kernel) (fun z h hw => ?_)⟩)
  refine alw_k h hw (by decide +kernel) (by decide +kernel) (by decide +kernel) (fun z h hw => ⟨shO (by decide +kernel) (by decide +kernel), srw_k h hw (by decide +kernel) (by decide +kernel) (fun z h hw => ?_)⟩)
  refine alw_k h hw (by decide +kernel) (by decide +kernel) (by decide +kernel) (fun z h hw => ⟨shO (by decide +kernel) (by decide +kernel), srw_k h hw (by decide +kernel) (by decide +kernel) (fun z h hw => ?_)⟩)
  refine alw_k h hw (by decide +kernel) (by decide +kernel) (by decide +kernel) (fun z h hw => ⟨shO (by decide +kernel) (by decide +kernel), srw_k h hw (by decide +kernel) (by decide +kernel) (fun z h hw => ?_)⟩)
  exact ⟨shO (by decide +kernel) (by decide +kernel), hP z h hw⟩
end RI
