/-! ===== the model reads a street: the loop, and what follows ===== -/
section RM
variable {z z0 : gS} {tp : List Nat} {n i f : Nat} {S : sS} {nm : sNm} {P : Int32 → gS → Prop} {R : gS → Prop}
theorem m_sFail {N : Nat} (h : TF (JSF z0) z i f) (hP : P (nI f) z) : wX12_street_L30 148 gSH P (N + 1) 129 z := by
  refine ⟨mO, ?_⟩
  rw [if_neg h.n0]
  refine ⟨mO, ?_⟩
  rw [if_neg h.np, h.2.2.1]
  exact hP
theorem m_sLp (hz0 : sR z0) (hK0 : mK z0 tp n) (hW0 : mWd z0) (hk : tOK tp) (hn : tK tp n) : ∀ f z i S nm, 1000 ≤ f + i → TS (JS z0 (sPA S) (sPE S) (sDE S) S nm) z i → i ≤ n → pOK S nm → ((spLp tp f i S nm).1 = 0 → ∀ z', JS z0 (sPA (spLp tp f i S nm).2.2.1) (sPE (spLp tp f i S nm).2.2.1) (sDE (spLp tp f i S nm).2.2.1) (spLp tp f i S nm).2.2.1 (spLp tp f i S nm).2.2.2 z' → ∃ N, wX12_street_L76 148 gSH P N 129 (0 : Int32) z') → ((spLp tp f i S nm).1 ≠ 0 → ∀ z', JSF z0 z' → P (nI (kfl tp (spLp tp f i S nm).1 (spLp tp f i S nm).2.1)) z') → wX12_street_L30 148 gSH P (f + 2) 129 z := by
  have hnn := hn.2.1
  have hEnd : ∀ N z i S nm, TS (JS z0 (sPA S) (sPE S) (sDE S) S nm) z i → i ≤ n → kkd tp i = 0 → (∃ N, wX12_street_L76 148 gSH P N 129 (0 : Int32) z) → wX12_street_L30 148 gSH P (N + 1) 129 z := by
    intro N z i S nm hT hi hk0 hP
    obtain ⟨j1, j2, j3⟩ := (okJS hz0 hK0 hW0).1 z hT.1
    refine ⟨mO, ?_⟩
    rw [if_pos hT.2.2, hT.2.1]
    refine ⟨_, mR4 j1, mA131, by rw [mL131]; exact mI hnn hi, ?_⟩
    rw [nI_clamp (by omega), (j2.2.2.2 i hi).1, if_pos ((srt_e (kkd_le tp i)).2.2.2.mpr hk0)]
    refine ⟨mO, ?_⟩
    rw [if_pos hT.p0]
    exact hP
  intro f
  induction f with
  | zero =>
    intro z i S nm hfi hT hi hp h1 h2
    have : i = n := by omega
    subst this
    exact hEnd 1 z i S nm hT hi hn.1 (h1 rfl z hT.1)
  | succ f ih =>
    intro z i S nm hfi hT hi hp h1 h2
    simp only [spLp] at h1 h2
    by_cases hk0 : kkd tp i = 0
    · rw [if_pos hk0] at h1
      exact hEnd _ z i S nm hT hi hk0 (h1 rfl z hT.1)
    rw [if_neg hk0] at h1 h2
    obtain ⟨j1, j2, j3⟩ := (okJS hz0 hK0 hW0).1 z hT.1
    obtain ⟨a1, a2, a3⟩ := spLn_ok hn hi hk0 hp
    refine ⟨mO, ?_⟩
    rw [if_pos hT.2.2, hT.2.1]
    refine ⟨_, mR4 j1, mA131, by rw [mL131]; exact mI hnn hi, ?_⟩
    rw [nI_clamp (by omega), (j2.2.2.2 i hi).1, if_neg (fun r => hk0 ((srt_e (kkd_le tp i)).2.2.2.mp r))]
    refine m_sLn hz0 hK0 hW0 hk hn hp (hn.nx hi hk0) hT (fun q z' k' => ?_) (fun q z' k' => ?_)
    · rw [if_pos q] at h1 h2
      refine m_takeSign (c := 59) (okJS hz0 hK0 hW0) hk a2 (by decide) k' (fun q2 z46 k46 => ?_) (fun q2 z46 k46 => ?_)
      · rw [if_pos q2] at h1 h2
        exact ih z46 _ _ _ (by have := (a3 q).1; omega) k46 (hn.nx a2 (by have := sgn_k q2; omega)) (a3 q).2 h1 h2
      · rw [if_neg (by rw [q2]; decide)] at h2
        exact m_sFail k46.js (h2 (Nat.succ_ne_zero _) z46 k46.1.1)
    · rw [if_neg q] at h2
      exact m_takeSign_f k' (m_sFail k' (h2 q z' k'.1))
theorem m_begins (hz : sR z) (hok : sOK S) (hS : mS z S) (hP : ∀ z', mW z' 0 S (bgW S) → mSd z' 60 (fun _ => false) (fun _ => false) → gi z' 142 0 = nI 0 → gi z' 129 25 = nI 0 → (∀ m, m < 4 → gi z' 146 m = nI 0) → Fr (fun a k => (a = 145 ∧ k < 66) ∨ (a = 142 ∧ k = 0) ∨ (a = 129 ∧ k = 25) ∨ a = 146) z z' → R z') : wX12_begins 148 gSH 129 z R := by
  refine ⟨mO, m_starts (b := 0) hz (by decide) hok hS (fun z2 w2 f2 => ?_)⟩
  have hz2 := f2.sR hz
  refine (lp (fun N k => ∀ z3, Fr (fun a j => a = 145 ∧ 60 ≤ j ∧ j < 66) z2 z3 → (∀ j, j < k → gi z3 145 (60 + j) = nN) → wX12_begins_L7 148 gSH R N 129 (nI k) z3) 6 (fun N z3 f3 g3 => ?_) (fun N k hk ih z3 f3 g3 => ?_)).imp (fun N q => q z2 Fr.rf (fun j hj => absurd hj (Nat.not_lt_zero _)))
  · unfold wX12_begins_L7 wX12_begins_B7
    rw [if_pos (by decide)]
    have hz3 := f3.sR hz2
    refine ⟨mO, _, mR21 hz3, mA142, by rw [mL142]; exact vp_in_nI (n := 0) (by decide) (by decide), fun z8 e8 z9 e9 => ?_⟩
    rw [show (0 : Int32).toNatClampNeg = 0 from rfl] at e8
    have hz9 : sR z9 := by rw [e9, e8]; exact hz3.to (fun _ _ => rfl)
    refine (lp (fun N m => ∀ z4, Fr (fun a _ => a = 146) z9 z4 → (∀ j, j < m → gi z4 146 j = nI 0) → wX12_begins_L43 148 gSH R N 129 (nI m) z4) 4 (fun N z4 f4 g4 => ?_) (fun N m hm ih z4 f4 g4 => ?_)).imp (fun N q => q z9 Fr.rf (fun j hj => absurd hj (Nat.not_lt_zero _)))
    · unfold wX12_begins_L43 wX12_begins_B43
      rw [if_pos (by decide)]
      have e9g : ∀ a k, ¬ (a = 142 ∧ k = 0) → ¬ (a = 129 ∧ k = 25) → gi z9 a k = gi z3 a k := fun a k q1 q2 => by rw [e9, gi_si, if_neg q2, e8, gi_si, if_neg q1]
      refine hP z4 ?_ (fun g hg => ?_) ?_ ?_ g4 ?_
      · refine w2.2.2.2.2.2.1.cp hok w2.2.2.1 (fun k hk => ?_)
        rw [f4.1 _ _ (by omega), e9g _ _ (by omega) (by omega), f3.1 _ _ (by omega)]
      · rw [f4.1 _ _ (by omega), e9g _ _ (by omega) (by omega)]
        exact g3 g hg
      · rw [f4.1 _ _ (by omega), e9, gi_si, if_neg (by omega), e8, gi_si, if_pos ⟨rfl, rfl⟩]; rfl
      · rw [f4.1 _ _ (by omega), e9, gi_si, if_pos ⟨rfl, rfl⟩]; rfl
      · refine ⟨fun a k q => ?_, fun a k => ?_, fun a k => ?_⟩
        · rw [f4.1 _ _ (by omega), e9g _ _ (by omega) (by omega), f3.1 _ _ (by omega), f2.1 _ _ (by unfold wrM; omega)]
        · rw [f4.2.1, e9, gl_si, e8, gl_si, f3.2.1, f2.2.1]
        · rw [f4.2.2, e9, gr_si, e8, gr_si, f3.2.2, f2.2.2]
    · unfold wX12_begins_L43 wX12_begins_B43
      rw [if_neg (show ¬ (4 : Int32) ≤ nI m from nI_ge (b := 4) hm (by decide))]
      refine ⟨mO, _, mR26 (f4.sR hz9), mA146, by rw [mL146]; exact vp_in_nI hm (by decide), fun z14 e14 v15 e15 => ?_⟩
      rw [nI_clamp (by omega), nar_0] at e14
      rw [nI_1] at e15
      subst e15
      refine ih z14 (by rw [e14]; exact f4.si rfl) (fun j hj => ?_)
      rw [e14, gi_si]
      by_cases q : j = m
      · rw [if_pos ⟨rfl, q⟩]
      · rw [if_neg (by omega)]; exact g4 j (by omega)
  · unfold wX12_begins_L7 wX12_begins_B7
    rw [if_neg (show ¬ (6 : Int32) ≤ nI k from nI_ge (b := 6) hk (by decide))]
    refine ⟨mO, _, mR24 (f3.sR hz2), mA145, ?_⟩
    rw [j_60, nI_add, mL145]
    refine ⟨vp_in_nI (by omega) (by decide), fun z21 e21 v22 e22 => ?_⟩
    rw [nI_clamp (by omega)] at e21
    rw [nI_1] at e22
    subst e22
    refine ih z21 (by rw [e21]; exact f3.si ⟨rfl, by omega, by omega⟩) (fun j hj => ?_)
    rw [e21, gi_si]
    by_cases q : j = k
    · rw [if_pos ⟨rfl, by omega⟩]; rfl
    · rw [if_neg (by omega)]; exact g3 j (by omega)
def aTL : Nat → Nat → Prop := fun a k => (a = 129 ∧ (k = 18 ∨ k = 25)) ∨ (a = 135 ∧ k < 60) ∨ (a = 136 ∧ k < 1100) ∨ (a = 137 ∧ k < 1100) ∨ a = 140 ∨ (a = 142 ∧ k = 0) ∨ (a = 145 ∧ k < 66) ∨ a = 146
def bTL : Nat → Prop := fun a => a = 138
theorem m_tail (hz : sR z) (hp : pOK S nm) (h : JS z0 (sPA S) (sPE S) (sDE S) S nm z) (hP : ∀ z', mS z' S → mL z' S → mNm z' nm → mW z' 0 S (bgW S) → mSd z' 60 (fun _ => false) (fun _ => false) → mD z' [] → gi z' 129 25 = nI 0 → (∀ m, m < 4 → gi z' 146 m = nI 0) → Fg aTL bTL z z' → P 0 z') : ∃ N, wX12_street_L76 148 gSH P N 129 (0 : Int32) z := by
  obtain ⟨hok, hlw, hnm, hlen⟩ := hp
  have k1 := hok.1
  have k2 := hok.2.1
  have k3 := hok.2.2.1
  have k4 := hok.2.2.2.1
  have kl := hok.2.2.2.2.2.2.2.2.2
  obtain ⟨f0, ⟨b1, b2, b3, b4, b5, b6, b7, b8, b9, b10, b11⟩, ⟨l1, l2, l3, l4⟩, o1, ⟨n1, n2⟩⟩ := h
  refine (lp (fun N k => ∀ z1, Fg aTL bTL z z1 → (∀ a j, ¬ (a = 135 ∧ j < 60) → gi z1 a j = gi z a j) → (∀ a j, gl z1 a j = gl z a j) → (∀ j, j < k → gi z1 135 j = gi z 135 (60 + j)) → wX12_street_L76 148 gSH P N 129 (nI k) z1) 60 (fun N z1 f1 e1 l1' g1 => ?_) (fun N k hk ih z1 f1 e1 l1' g1 => ?_)).imp (fun N q => q z Fg.rf (fun _ _ _ => rfl) (fun _ _ => rfl) (fun j hj => absurd hj (Nat.not_lt_zero _)))
  · unfold wX12_street_L76 wX12_street_B76
    rw [if_pos (by decide)]
    have hm : (if sLW S = [] then 0 else (sLW S).length + 1) ≤ 1001 := by split <;> omega
    generalize hM : (if sLW S = [] then 0 else (sLW S).length + 1) = M at l4 hm
    refine (lp (fun N k => ∀ z2, Fg aTL bTL z z2 → (∀ a j, ¬ (a = 136 ∧ j < 1100) → ¬ (a = 137 ∧ j < 1100) → gi z2 a j = gi z1 a j) → (∀ a j, gl z2 a j = gl z a j) → (∀ j, j < k → gi z2 136 j = gi z 136 (1100 + j) ∧ gi z2 137 j = gi z 137 (1100 + j)) → wX12_street_L105 148 gSH P N 129 (nI k) z2) M (fun N z2 f2 e2 l2' g2 => ?_) (fun N k hk ih z2 f2 e2 l2' g2 => ?_)).imp (fun N q => q z1 f1 (fun _ _ _ _ => rfl) l1' (fun j hj => absurd hj (Nat.not_lt_zero _)))
    · refine ⟨mO, ?_⟩
      rw [e2 _ _ (by omega) (by omega), e1 _ _ (by omega), l4, if_pos (nI_le (Nat.le_refl _) (by omega))]
      have hn16 := hnm.1
      refine (lp (fun N k => ∀ z3, Fg aTL bTL z z3 → (∀ a j, a ≠ 140 → gi z3 a j = gi z2 a j) → (∀ a j, a ≠ 138 → gl z3 a j = gl z a j) → (∀ j, j < k → gl z3 138 j = gl z 139 j ∧ gi z3 140 j = gi z 141 j) → wX12_street_L153 148 gSH P N 129 (nI k) z3) nm.2.2.2.length (fun N z3 f3 e3 l3' g3 => ?_) (fun N k hk ih z3 f3 e3 l3' g3 => ?_)).imp (fun N q => q z2 f2 (fun _ _ _ => rfl) (fun a j _ => l2' a j) (fun j hj => absurd hj (Nat.not_lt_zero _)))
      · have e19 : gi z3 129 19 = nI nm.2.2.2.length := by rw [e3 _ _ (by omega), e2 _ _ (by omega) (by omega), e1 _ _ (by omega), n1]
        refine ⟨mO, ?_⟩
        rw [e19, if_pos (nI_le (Nat.le_refl _) (by omega))]
        intro z14 e14
        have f14 : Fg aTL bTL z z14 := by rw [e14]; exact f3.si (Or.inl ⟨rfl, by omega⟩)
        have eg : ∀ a j, ¬ (a = 129 ∧ j = 18) → gi z14 a j = gi z3 a j := fun a j q => by rw [e14, gi_si, if_neg q]
        have e135 : ∀ j, j < 60 → gi z14 135 j = gi z 135 (60 + j) := fun j hj => by rw [eg _ _ (by omega), e3 _ _ (by omega), e2 _ _ (by omega) (by omega)]; exact g1 j hj
        have hmS : mS z14 S := by
          refine ⟨(e135 _ (by omega)).trans b1, (e135 _ (by omega)).trans b2, (e135 _ (by omega)).trans b3, (e135 _ (by omega)).trans b4, fun p hp => ?_, fun p hp => ?_, fun p hp => ?_, fun p hp => ?_, fun p hp => ?_, fun p hp => ?_, fun q => (e135 _ (by omega)).trans (b11 q)⟩
          · rw [e135 _ (by omega), show 60 + (5 + 3 * p) = 65 + 3 * p by omega]; exact b5 p hp
          · rw [e135 _ (by omega), show 60 + (6 + 3 * p) = 66 + 3 * p by omega]; exact b6 p hp
          · rw [e135 _ (by omega), show 60 + (7 + 3 * p) = 67 + 3 * p by omega]; exact b7 p hp
          · rw [e135 _ (by omega), show 60 + (23 + p) = 83 + p by omega]; exact b8 p hp
          · rw [e135 _ (by omega), show 60 + (28 + p) = 88 + p by omega]; exact b9 p hp
          · rw [e135 _ (by omega), show 60 + (33 + p) = 93 + p by omega]; exact b10 p hp
        refine m_begins (f14.sR hz) hok hmS (fun z16 w1 w2 w3 w4 w5 f16 => hP z16 ?_ ?_ ?_ w1 w2 ⟨w3, fun i hi => absurd hi (Nat.not_lt_zero _)⟩ w4 w5 ?_)
        · exact hmS.fr (fun k => f16.1 _ _ (by omega))
        · have e136 : ∀ j, j < M → gi z16 136 j = gi z 136 (1100 + j) ∧ gi z16 137 j = gi z 137 (1100 + j) := fun j hj => by
            rw [f16.1 _ _ (by omega), eg _ _ (by omega), e3 _ _ (by omega), f16.1 _ _ (by omega), eg _ _ (by omega), e3 _ _ (by omega)]
            exact g2 j hj
          refine ⟨?_, fun j hj => ?_, fun q => ?_⟩
          · rw [f16.1 _ _ (by omega), e135 _ (by omega)]; exact l1
          · have hne : ¬ sLW S = [] := fun x => by rw [x] at hj; exact absurd hj (Nat.not_lt_zero _)
            rw [if_neg hne] at hM
            rw [(e136 j (by omega)).1, (e136 j (by omega)).2]
            exact l2 j hj
          · rw [if_neg q] at hM
            rw [(e136 (sLW S).length (by omega)).1]
            exact l3 q
        · refine ⟨?_, fun j hj => ?_⟩
          · rw [f16.1 _ _ (by omega), e14, gi_si, if_pos ⟨rfl, rfl⟩]
          · rw [f16.2.1, f16.1 _ _ (by omega), eg _ _ (by omega), e14, gl_si, (g3 j hj).1, (g3 j hj).2]
            exact n2 j hj
        · exact f14.tr ⟨fun a k q => f16.1 a k (by unfold aTL at q; omega), fun a k _ => f16.2.1 a k, f16.2.2⟩
      · have e19 : gi z3 129 19 = nI nm.2.2.2.length := by rw [e3 _ _ (by omega), e2 _ _ (by omega) (by omega), e1 _ _ (by omega), n1]
        have hz3 := f3.sR hz
        refine ⟨mO, ?_⟩
        rw [e19, if_neg (nI_ge hk (by omega))]
        refine ⟨_, mR14 hz3, _, mR15 hz3, mA139, by rw [mL139]; exact vp_in_nI (by omega) (by decide), mA138, by rw [mL138]; exact vp_in_nI (by omega) (by decide), fun z23 e23 => ?_⟩
        rw [nI_clamp (by omega)] at e23
        have hz23 : sR z23 := by rw [e23]; exact hz3.to (fun _ _ => rfl)
        refine ⟨_, mR16 hz23, _, mR17 hz23, mA141, by rw [mL141]; exact vp_in_nI (by omega) (by decide), mA140, by rw [mL140]; exact vp_in_nI (by omega) (by decide), fun z30 e30 v31 e31 => ?_⟩
        rw [nI_clamp (by omega)] at e30
        rw [nI_1] at e31
        subst e31
        refine ih z30 (by rw [e30, e23]; exact (f3.sl rfl).si (Or.inr (Or.inr (Or.inr (Or.inr (Or.inl rfl)))))) (fun a j q => by rw [e30, gi_si, if_neg (by omega), e23, gi_sl]; exact e3 a j q) (fun a j q => by rw [e30, gl_si, e23, gl_sl, if_neg (by omega)]; exact l3' a j q) (fun j hj => ?_)
        rw [e30, gl_si, e23, gl_sl, gi_si, gi_sl]
        by_cases q : j = k
        · rw [if_pos ⟨rfl, q⟩, if_pos ⟨rfl, q⟩, q]
          exact ⟨l3' _ _ (by omega), by rw [e3 _ _ (by omega), e2 _ _ (by omega) (by omega), e1 _ _ (by omega)]⟩
        · rw [if_neg (by omega), if_neg (by omega)]; exact g3 j (by omega)
    · have hz2 := f2.sR hz
      refine ⟨mO, ?_⟩
      rw [e2 _ _ (by omega) (by omega), e1 _ _ (by omega), l4, if_neg (nI_ge hk (by omega))]
      refine ⟨_, mR11 hz2, _, mR11 hz2, mA136, ?_⟩
      rw [j_1100, nI_add, mL136]
      refine ⟨vp_in_nI (by omega) (by decide), mA136, vp_in_nI (by omega) (by decide), fun z39 e39 => ?_⟩
      rw [nI_clamp (by omega), nI_clamp (by omega)] at e39
      have hz39 : sR z39 := by rw [e39]; exact hz2.to (fun _ _ => rfl)
      refine ⟨_, mR12 hz39, _, mR12 hz39, mA137, ?_⟩
      rw [mL137]
      refine ⟨vp_in_nI (by omega) (by decide), mA137, vp_in_nI (by omega) (by decide), fun z46 e46 v47 e47 => ?_⟩
      rw [nI_clamp (by omega), nI_clamp (by omega)] at e46
      rw [nI_1] at e47
      subst e47
      refine ih z46 (by rw [e46, e39]; exact (f2.si (Or.inr (Or.inr (Or.inl ⟨rfl, by omega⟩)))).si (Or.inr (Or.inr (Or.inr (Or.inl ⟨rfl, by omega⟩))))) (fun a j q1 q2 => by rw [e46, gi_si, if_neg (by omega), e39, gi_si, if_neg (by omega)]; exact e2 a j q1 q2) (fun a j => by rw [e46, gl_si, e39, gl_si]; exact l2' a j) (fun j hj => ?_)
      have r1 : gi z2 136 (1100 + k) = gi z 136 (1100 + k) := by rw [e2 _ _ (by omega) (by omega), e1 _ _ (by omega)]
      have r2 : gi z39 137 (1100 + k) = gi z 137 (1100 + k) := by rw [e39, gi_si, if_neg (by omega), e2 _ _ (by omega) (by omega), e1 _ _ (by omega)]
      rw [r1] at e39
      rw [r2] at e46
      by_cases q : j = k
      · rw [e46, gi_si, if_neg (by omega), e39, gi_si, if_pos ⟨rfl, q⟩, gi_si, if_pos ⟨rfl, q⟩, q]
        exact ⟨rfl, rfl⟩
      · rw [e46, gi_si, if_neg (by omega), e39, gi_si, if_neg (by omega), gi_si, if_neg (by omega), gi_si, if_neg (by omega)]
        exact g2 j (by omega)
  · have hz1 := f1.sR hz
    unfold wX12_street_L76 wX12_street_B76
    rw [if_neg (show ¬ (60 : Int32) ≤ nI k from nI_ge (b := 60) hk (by decide))]
    refine ⟨mO, _, mR10 hz1, _, mR10 hz1, mA135, ?_⟩
    rw [j_60, nI_add, mL135]
    refine ⟨vp_in_nI (by omega) (by decide), mA135, vp_in_nI (by omega) (by decide), fun z56 e56 v57 e57 => ?_⟩
    rw [nI_clamp (by omega), nI_clamp (by omega), e1 _ _ (by omega)] at e56
    rw [nI_1] at e57
    subst e57
    refine ih z56 (by rw [e56]; exact f1.si (Or.inr (Or.inl ⟨rfl, by omega⟩))) (fun a j q => by rw [e56, gi_si, if_neg (by omega)]; exact e1 a j q) (fun a j => by rw [e56, gl_si]; exact l1' a j) (fun j hj => ?_)
    rw [e56, gi_si]
    by_cases q : j = k
    · rw [if_pos ⟨rfl, q⟩, q]
    · rw [if_neg (by omega)]; exact g1 j (by omega)
theorem m_stands (hz : sR z) {o : Nat} (ho : o = 0 ∨ o = 60) (hP : ∀ z', (∀ k, k < 60 → gi z' 135 (o + k) = if k = 3 ∨ k = 33 then 1 else if k = 4 then nN else 0) → Fr (fun a k => a = 135 ∧ o ≤ k ∧ k < o + 60) z z' → R z') : wX12_standsAsAlways 148 gSH 129 (nI o) z R := by
  refine (lp (fun N k => ∀ z1, Fr (fun a j => a = 135 ∧ o ≤ j ∧ j < o + 60) z z1 → (∀ j, j < k → gi z1 135 (o + j) = 0) → wX12_standsAsAlways_L2 148 gSH R N 129 (nI o) (nI k) z1) 60 (fun N z1 f1 g1 => ?_) (fun N k hk ih z1 f1 g1 => ?_)).imp (fun N q => q z Fr.rf (fun j hj => absurd hj (Nat.not_lt_zero _)))
  · unfold wX12_standsAsAlways_L2 wX12_standsAsAlways_B2
    rw [if_pos (by decide)]
    have hz1 := f1.sR hz
    refine ⟨mO, _, mR10 hz1, mA135, ?_⟩
    rw [j_3, nI_add, mL135]
    refine ⟨vp_in_nI (by omega) (by decide), fun z5 e5 => ?_⟩
    refine ⟨_, mR10 (by rw [e5]; exact hz1.to (fun _ _ => rfl)), mA135, ?_⟩
    rw [j_33, nI_add, mL135]
    refine ⟨vp_in_nI (by omega) (by decide), fun z9 e9 => ?_⟩
    refine ⟨_, mR10 (by rw [e9, e5]; exact hz1.to (fun _ _ => rfl)), mA135, ?_⟩
    rw [j_4, nI_add, mL135]
    refine ⟨vp_in_nI (by omega) (by decide), fun z13 e13 => hP z13 (fun k hk => ?_) ?_⟩
    · rw [nI_clamp (by omega)] at e5 e9 e13
      rw [e13, gi_si, e9, gi_si, e5, gi_si]
      by_cases q1 : k = 4
      · rw [if_pos ⟨rfl, by omega⟩, if_neg (by omega), if_pos q1]; rfl
      rw [if_neg (by omega)]
      by_cases q2 : k = 33
      · rw [if_pos ⟨rfl, by omega⟩, if_pos (Or.inr q2)]
      rw [if_neg (by omega)]
      by_cases q3 : k = 3
      · rw [if_pos ⟨rfl, by omega⟩, if_pos (Or.inl q3)]
      rw [if_neg (by omega), if_neg (by omega), if_neg q1]
      exact g1 k hk
    · rw [nI_clamp (by omega)] at e5 e9 e13
      rw [e13, e9, e5]
      exact ((f1.si ⟨rfl, by omega, by omega⟩).si ⟨rfl, by omega, by omega⟩).si ⟨rfl, by omega, by omega⟩
  · unfold wX12_standsAsAlways_L2 wX12_standsAsAlways_B2
    rw [if_neg (show ¬ (60 : Int32) ≤ nI k from nI_ge (b := 60) hk (by decide))]
    refine ⟨mO, _, mR10 (f1.sR hz), mA135, ?_⟩
    rw [nI_add, mL135]
    refine ⟨vp_in_nI (by omega) (by decide), fun z18 e18 v19 e19 => ?_⟩
    rw [nI_clamp (by omega)] at e18
    rw [nI_1] at e19
    subst e19
    refine ih z18 (by rw [e18]; exact f1.si ⟨rfl, by omega, by omega⟩) (fun j hj => ?_)
    rw [e18, gi_si]
    by_cases q : j = k
    · rw [if_pos ⟨rfl, by omega⟩]
    · rw [if_neg (by omega)]; exact g1 j (by omega)
end RM
