/-! ===== the model reads an E ===== -/
def aEM : Nat → Nat → Prop := fun a k => (a = 129 ∧ (k = 7 ∨ k = 8 ∨ k = 13)) ∨ (a = 136 ∧ 1100 ≤ k) ∨ (a = 137 ∧ 1100 ≤ k)
def mEl (z : gS) (c : List Int32) : Prop := gi z 129 13 = nI c.length ∧ ∀ j, j < c.length → gi z 136 (1100 + j) = opO (c.getD j 0) ∧ gi z 137 (1100 + j) = opA (c.getD j 0)
def JM (z0 : gS) (c : List Int32) (z : gS) : Prop := Fr aEM z0 z ∧ mEl z c
def JF (z0 : gS) (b : Nat) (z : gS) : Prop := Fr aEM z0 z ∧ ∃ k, k ≤ b ∧ gi z 129 13 = nI k
section RM
variable {z0 z : gS} {tp : List Nat} {n i f b : Nat} {c : List Int32} {P : Int32 → gS → Prop} {R : gS → Prop}
theorem mWd.fr {z z' : gS} (h : mWd z) (hl : ∀ k, gl z' 134 k = gl z 134 k) : mWd z' := fun k hk => (hl k).trans (h k hk)
theorem okJM (hz : sR z0) (hK : mK z0 tp n) (hW : mWd z0) : okJ tp n (JM z0 c) := by
  refine ⟨fun z h => ⟨h.1.sR hz, hK.fr (fun a k q => h.1.1 a k (by unfold aEM; omega)) (fun k => h.1.2.1 _ _), hW.fr (fun k => h.1.2.1 _ _)⟩, fun z k v hk h => ⟨h.1.si (Or.inl ⟨rfl, by omega⟩), ?_, fun j hj => ?_⟩⟩
  · rw [gi_si, if_neg (by omega)]; exact h.2.1
  · rw [gi_si, if_neg (by omega), gi_si, if_neg (by omega)]; exact h.2.2 j hj
theorem okJF (hz : sR z0) (hK : mK z0 tp n) (hW : mWd z0) : okJ tp n (JF z0 b) := by
  refine ⟨fun z h => ⟨h.1.sR hz, hK.fr (fun a k q => h.1.1 a k (by unfold aEM; omega)) (fun k => h.1.2.1 _ _), hW.fr (fun k => h.1.2.1 _ _)⟩, fun z k v hk h => ⟨h.1.si (Or.inl ⟨rfl, by omega⟩), ?_⟩⟩
  obtain ⟨j, h1, h2⟩ := h.2
  refine ⟨j, h1, ?_⟩
  rw [gi_si, if_neg (by omega)]; exact h2
theorem TF.jf (h : TF (JM z0 c) z i f) (hb : c.length ≤ b) : TF (JF z0 b) z i f := ⟨⟨h.1.1, c.length, hb, h.1.2.1⟩, h.2⟩
theorem TF.mo {b' : Nat} (h : TF (JF z0 b) z i f) (hb : b ≤ b') : TF (JF z0 b') z i f := by
  obtain ⟨⟨h1, k, h2, h3⟩, h4⟩ := h
  exact ⟨⟨h1, k, Nat.le_trans h2 hb, h3⟩, h4⟩
theorem m_emit0 {k : Nat} {x y : Int32} (hz : sR z) (hl : gi z 129 13 = nI k) (hk : k < 1100) (hP : ∀ z', z' = si (si (si z 136 (1100 + k) x) 137 (1100 + k) y) 129 13 (nI (k + 1)) → R z') : wX12_emit 148 gSH 129 x y z R := by
  refine ⟨mO, _, mR11 hz, mA136, ?_⟩
  rw [hl, j_1100, nI_add, mL136]
  refine ⟨vp_in_nI (by omega) (by decide), fun z5 e5 => ?_⟩
  rw [nI_clamp (by omega)] at e5
  have e13 : gi z5 129 13 = nI k := by rw [e5, gi_si, if_neg (by omega), hl]
  refine ⟨_, mR12 (by rw [e5]; exact hz.to (fun _ _ => rfl)), mA137, ?_⟩
  rw [e13, nI_add, mL137]
  refine ⟨vp_in_nI (by omega) (by decide), fun z9 e9 z10 e10 => hP z10 ?_⟩
  rw [nI_clamp (by omega)] at e9
  rw [e10, e9, gi_si, if_neg (by omega), e13, nI_1, e5]
theorem TS.emit (hz : sR z0) (h : TS (JM z0 c) z i) (hc : c.length < 1100) {x : Int32} (hP : ∀ z', TS (JM z0 (c ++ [x])) z' i → R z') : wX12_emit 148 gSH 129 (opO x) (opA x) z R := by
  refine m_emit0 (h.1.1.sR hz) h.1.2.1 hc (fun z' e => hP z' ⟨⟨?_, ?_, fun j hj => ?_⟩, ?_, ?_⟩)
  · rw [e]
    exact ((h.1.1.si (Or.inr (Or.inl ⟨rfl, by omega⟩))).si (Or.inr (Or.inr ⟨rfl, by omega⟩))).si (Or.inl ⟨rfl, by omega⟩)
  · rw [e, gi_si, if_pos ⟨rfl, rfl⟩, List.length_append]; rfl
  · simp only [List.length_append, List.length_singleton] at hj
    rw [gt_apI]
    by_cases ej : j = c.length
    · rw [if_pos ej, e, gi_si, if_neg (by omega), gi_si, if_neg (by omega), gi_si, if_pos ⟨rfl, by omega⟩, gi_si, if_neg (by omega), gi_si, if_pos ⟨rfl, by omega⟩]
      exact ⟨rfl, rfl⟩
    · rw [if_neg ej, e, gi_si, if_neg (by omega), gi_si, if_neg (by omega), gi_si, if_neg (by omega), gi_si, if_neg (by omega), gi_si, if_neg (by omega), gi_si, if_neg (by omega)]
      exact h.1.2.2 j (by omega)
  · rw [e, gi_si, if_neg (by omega), gi_si, if_neg (by omega), gi_si, if_neg (by omega)]; exact h.2.1
  · rw [e, gi_si, if_neg (by omega), gi_si, if_neg (by omega), gi_si, if_neg (by omega)]; exact h.2.2
theorem TF.emit (hz : sR z0) (h : TF (JF z0 b) z i f) (hb : b < 1100) {x y : Int32} (hP : ∀ z', TF (JF z0 (b + 1)) z' i f → R z') : wX12_emit 148 gSH 129 x y z R := by
  obtain ⟨⟨h1, k, h2, h3⟩, h4, h5, h6⟩ := h
  refine m_emit0 (h1.sR hz) h3 (by omega) (fun z' e => hP z' ⟨⟨?_, k + 1, by omega, ?_⟩, ?_, ?_, h6⟩)
  · rw [e]
    exact ((h1.si (Or.inr (Or.inl ⟨rfl, by omega⟩))).si (Or.inr (Or.inr ⟨rfl, by omega⟩))).si (Or.inl ⟨rfl, by omega⟩)
  · rw [e, gi_si, if_pos ⟨rfl, rfl⟩]
  · rw [e, gi_si, if_neg (by omega), gi_si, if_neg (by omega), gi_si, if_neg (by omega)]; exact h4
  · rw [e, gi_si, if_neg (by omega), gi_si, if_neg (by omega), gi_si, if_neg (by omega)]; exact h5
/-- a reader of the model keeps to what the tokens say -/
def Mn (z0 : gS) (n : Nat) (tp : List Nat) (nx : Nat → List Int32 → pR) (w : gS → (gS → Prop) → Prop) : Prop := ∀ z i c R, TS (JM z0 c) z i → i ≤ n → c.length + 1 ≤ i → (∀ z', (nx i c).1 = 0 → TS (JM z0 (nx i c).2.2) z' (nx i c).2.1 → R z') → (∀ z', (nx i c).1 ≠ 0 → TF (JF z0 (c.length + ((nx i c).2.1 - i))) z' (nx i c).2.1 (kfl tp (nx i c).1 (nx i c).2.1) → R z') → w z R
theorem Mn_lp (hz : sR z0) (hn : tK tp n) {nx : Nat → List Int32 → pR} {k lv : Nat} {w : gS → (gS → Prop) → Prop} (hQ : eQ tp n k nx) (h : Mn z0 n tp nx w) {L : Nat → gS → Prop}
    (hs0 : ∀ N z i c, TS (JM z0 c) z i → i ≤ n → jnc tp lv i = 0 → (∀ z', TS (JM z0 c) z' i → R z') → L (N + 1) z)
    (hs1 : ∀ N z i c, TS (JM z0 c) z i → i ≤ n → jnc tp lv i ≠ 0 → (∀ z' K, TS (JM z0 c) z' (i + 1) → (∀ z8, wX12_emit 148 gSH 129 (opO (jnc tp lv i)) (opA (jnc tp lv i)) z8 (fun z10 => L N z10) → K z8) → w z' K) → L (N + 1) z)
    (hf : ∀ N z i f b, TF (JF z0 b) z i f → (∀ z', TF (JF z0 b) z' i f → R z') → L (N + 1) z) :
    ∀ f z i c, TS (JM z0 c) z i → i ≤ n → c.length + 1 ≤ i → 1001 ≤ f + i → (∀ z', (eLp nx (jnc tp lv) f i c).1 = 0 → TS (JM z0 (eLp nx (jnc tp lv) f i c).2.2) z' (eLp nx (jnc tp lv) f i c).2.1 → R z') → (∀ z', (eLp nx (jnc tp lv) f i c).1 ≠ 0 → TF (JF z0 (c.length + ((eLp nx (jnc tp lv) f i c).2.1 - i))) z' (eLp nx (jnc tp lv) f i c).2.1 (kfl tp (eLp nx (jnc tp lv) f i c).1 (eLp nx (jnc tp lv) f i c).2.1) → R z') → L (f + 2) z := by
  have hnn := hn.2.1
  intro f
  induction f with
  | zero => intro z i c _ hi _ hf _ _; omega
  | succ f ih =>
    intro z i c hK hi hc hfi h1 h2
    simp only [eLp] at h1 h2
    by_cases hj : jnc tp lv i = 0
    · rw [if_pos hj] at h1 h2
      exact hs0 _ z i c hK hi hj (fun z' k' => h1 z' rfl k')
    · rw [if_neg hj] at h1 h2
      have hlt := hn.nx hi (jnc_0 hj)
      obtain ⟨a1, a2, a3, a4⟩ := hQ (i + 1) c hlt
      refine hs1 _ z i c hK hi hj (fun z' K k' hK8 => h z' (i + 1) c _ k' hlt (by omega) (fun z8 e8 k8 => hK8 z8 ?_) (fun z8 e8 k8 => hK8 z8 ?_))
      · rw [if_pos e8] at h1 h2
        obtain ⟨b1, es, b2, b3, b4⟩ := a4 e8
        have hl : (nx (i + 1) c).2.2.length + 2 ≤ (nx (i + 1) c).2.1 := by rw [b2, List.length_append]; omega
        have hl2 : (nx (i + 1) c).2.2.length + i + 1 ≤ c.length + (nx (i + 1) c).2.1 := by rw [b2, List.length_append]; omega
        refine k8.emit hz (by omega) (fun z10 k10 => ih z10 _ _ k10 a2 (by simp only [List.length_append, List.length_singleton]; omega) (by omega) h1 (fun z' e' k' => h2 z' e' (k'.mo ?_)))
        have c1 := eLp_ge (lv := lv) hn hQ f (nx (i + 1) c).2.1 ((nx (i + 1) c).2.2 ++ [jnc tp lv i]) a2
        simp only [List.length_append, List.length_singleton]
        omega
      · rw [if_neg e8] at h1 h2
        refine k8.emit hz (by omega) (fun z10 k10 => hf _ z10 _ _ _ k10 (fun z' k' => h2 z' e8 (k'.mo (by omega))))
theorem mwd_19 : mwd tp i 19 = decide (krs tp i = 19) := rfl
theorem mwd_20 : mwd tp i 20 = decide (krs tp i = 20) := rfl
theorem mwd_21 : mwd tp i 21 = decide (krs tp i = 21) := rfl
theorem Mn_lv (hz : sR z0) (hK0 : mK z0 tp n) (hW0 : mWd z0) (hn : tK tp n) {nx : Nat → List Int32 → pR} {k lv : Nat} (hlv : lv ≠ 1) {w : gS → (gS → Prop) → Prop} (hQ : eQ tp n k nx) (h : Mn z0 n tp nx w) {L : (gS → Prop) → Nat → gS → Prop}
    (hs0 : ∀ R N z i c, TS (JM z0 c) z i → i ≤ n → jnc tp lv i = 0 → (∀ z', TS (JM z0 c) z' i → R z') → L R (N + 1) z)
    (hs1 : ∀ R N z i c, TS (JM z0 c) z i → i ≤ n → jnc tp lv i ≠ 0 → (∀ z' K, TS (JM z0 c) z' (i + 1) → (∀ z8, wX12_emit 148 gSH 129 (opO (jnc tp lv i)) (opA (jnc tp lv i)) z8 (fun z10 => L R N z10) → K z8) → w z' K) → L R (N + 1) z)
    (hf : ∀ R N z i f b, TF (JF z0 b) z i f → (∀ z', TF (JF z0 b) z' i f → R z') → L R (N + 1) z) :
    Mn z0 n tp (eLv tp lv nx) (fun z R => w z (fun z2 => ∃ N, L R N z2)) := by
  intro z i c R hK hi hc h1 h2
  obtain ⟨a1, a2, a3, a4⟩ := hQ i c hi
  unfold eLv at h1 h2
  refine h z i c _ hK hi hc (fun z2 e2 k2 => ?_) (fun z2 e2 k2 => ?_)
  · rw [if_pos e2, if_neg hlv] at h1 h2
    obtain ⟨b1, es, b2, b3, b4⟩ := a4 e2
    have hl : (nx i c).2.2.length + i ≤ c.length + (nx i c).2.1 := by rw [b2, List.length_append]; omega
    refine ⟨1002, Mn_lp (lv := lv) (R := R) hz hn hQ h (L := L R) (hs0 R) (hs1 R) (hf R) 1000 z2 _ _ k2 a2 (by omega) (by omega) h1 (fun z' e' k' => h2 z' e' (k'.mo ?_))⟩
    have c1 := eLp_ge (lv := lv) hn hQ 1000 (nx i c).2.1 (nx i c).2.2 a2
    omega
  · rw [if_neg e2] at h1 h2
    exact ⟨1, hf R 0 z2 _ _ _ k2 (fun z' k' => h2 z' e2 k')⟩
theorem Mn_prod (hz : sR z0) (hK0 : mK z0 tp n) (hW0 : mWd z0) (hk : tOK tp) (hn : tK tp n) {nx : Nat → List Int32 → pR} {k : Nat} {x : Int32} {rt : Nat → Int32 → gS → (gS → Prop) → Prop} (hQ : eQ tp n k nx) (h : Mn z0 n tp nx (fun z R => rt 129 x z R)) : Mn z0 n tp (eLv tp 3 nx) (fun z R => wX12_products 148 gSH rt 129 x z R) := by
  have ej : ∀ i, jnc tp 3 i = if sgn tp i 42 then -12 else 0 := fun i => rfl
  have := Mn_lv (lv := 3) hz hK0 hW0 hn (by decide) hQ h (L := fun R N z => wX12_products_L5 148 gSH rt R N 129 x z) (fun R N z i c hT hi hj hR => ?_) (fun R N z i c hT hi hj hw => ?_) (fun R N z i f b hT hR => ?_)
  · exact fun z i c R a b c' d e => ⟨mO, this z i c R a b c' d e⟩
  · refine ⟨mO, m_hasSign (c := 42) (okJM hz hK0 hW0) hk hi (by decide) hT (fun q z' k' => ?_) (fun q z' k' => ?_)⟩
    · rw [ej, if_pos q] at hj
      exact absurd hj (by decide)
    · rw [if_pos rfl]
      exact hR z' k'
  · refine ⟨mO, m_hasSign (c := 42) (okJM hz hK0 hW0) hk hi (by decide) hT (fun q z' k' => ?_) (fun q z' k' => ?_)⟩
    · rw [if_neg (by decide)]
      rw [ej, if_pos q] at hw
      exact hw z' _ k' (fun z8 h8 => h8)
    · rw [ej, if_neg (by rw [q]; decide)] at hj
      exact absurd rfl hj
  · refine ⟨mO, m_hasSign_f (okJF hz hK0 hW0) hT (fun z' k' => ?_)⟩
    rw [if_pos rfl]
    exact hR z' k'
theorem Mn_sums (hz : sR z0) (hK0 : mK z0 tp n) (hW0 : mWd z0) (hk : tOK tp) (hn : tK tp n) {nx : Nat → List Int32 → pR} {k : Nat} {x : Int32} {rt : Nat → Int32 → gS → (gS → Prop) → Prop} (hQ : eQ tp n k nx) (h : Mn z0 n tp nx (fun z R => rt 129 x z R)) : Mn z0 n tp (eLv tp 2 nx) (fun z R => wX12_sums 148 gSH rt 129 x z R) := by
  have ej : ∀ i, jnc tp 2 i = if sgn tp i 43 then -10 else if sgn tp i 45 then -11 else 0 := fun i => rfl
  have hJM : ∀ {c}, okJ tp n (JM z0 c) := fun {c} => okJM hz hK0 hW0
  have := Mn_lv (lv := 2) hz hK0 hW0 hn (by decide) hQ h (L := fun R N z => wX12_sums_L5 148 gSH rt R N 129 x z) (fun R N z i c hT hi hj hR => ?_) (fun R N z i c hT hi hj hw => ?_) (fun R N z i f b hT hR => ?_)
  · exact fun z i c R a b c' d e => ⟨mO, this z i c R a b c' d e⟩
  · refine ⟨mO, m_isSign (c := 43) hJM hk hi (by decide) hT ?_⟩
    rw [ej] at hj
    cases h1 : sgn tp i 43
    · rw [if_pos (show nI (false).toNat = 0 from rfl)]
      refine m_isSign (c := 45) hJM hk hi (by decide) hT ?_
      cases h2 : sgn tp i 45
      · rw [if_pos (show nI (false).toNat = 0 from rfl)]
        exact hR z hT
      · rw [h1, h2] at hj
        exact absurd hj (by decide)
    · rw [h1, if_pos rfl] at hj
      exact absurd hj (by decide)
  · have hJ : wX12_sums_J23 148 gSH rt (fun a x z => wX12_sums_L5 148 gSH rt R N a x z) R 129 x z := by
      refine ⟨mO, m_isSign (c := 43) hJM hk hi (by decide) hT ?_⟩
      intro z10 e10
      rw [hT.2.1, nI_1] at e10
      refine hw z10 _ (hT.to hJM e10) (fun z8 h8 => ?_)
      rw [ej] at h8 hj
      cases h1 : sgn tp i 43
      · rw [if_pos (show nI (false).toNat = 0 from rfl)]
        cases h2 : sgn tp i 45
        · rw [h1, h2] at hj
          exact absurd rfl hj
        · rw [h1, h2] at h8
          exact ⟨mO, h8⟩
      · rw [if_neg (show ¬ nI (true).toNat = 0 by decide)]
        rw [h1] at h8
        exact ⟨mO, h8⟩
    refine ⟨mO, m_isSign (c := 43) hJM hk hi (by decide) hT ?_⟩
    refine ift (fun q => ?_) (fun q => hJ)
    refine m_isSign (c := 45) hJM hk hi (by decide) hT ?_
    refine ift (fun q2 => ?_) (fun q2 => hJ)
    rw [nI_b0] at q q2
    rw [ej, q, q2] at hj
    exact absurd rfl hj
  · refine ⟨mO, m_isSign_f hT ?_⟩
    rw [if_pos rfl]
    refine m_isSign_f hT ?_
    rw [if_pos rfl]
    exact hR z hT
theorem Mn_whole (hz : sR z0) (hK0 : mK z0 tp n) (hW0 : mWd z0) (hn : tK tp n) {nx : Nat → List Int32 → pR} {k : Nat} {x : Int32} {rt : Nat → Int32 → gS → (gS → Prop) → Prop} (hQ : eQ tp n k nx) (h : Mn z0 n tp nx (fun z R => rt 129 x z R)) : Mn z0 n tp (eLv tp 0 nx) (fun z R => wX12_whole 148 gSH rt 129 x z R) := by
  have ej : ∀ i, jnc tp 0 i = if mwd tp i 20 then -6 else if mwd tp i 21 then -7 else 0 := fun i => by
    rw [mwd_20, mwd_21]
    unfold jnc
    simp only [decide_eq_true_eq, if_true]
  have hJM : ∀ {c}, okJ tp n (JM z0 c) := fun {c} => okJM hz hK0 hW0
  have := Mn_lv (lv := 0) hz hK0 hW0 hn (by decide) hQ h (L := fun R N z => wX12_whole_L5 148 gSH rt R N 129 x z) (fun R N z i c hT hi hj hR => ?_) (fun R N z i c hT hi hj hw => ?_) (fun R N z i f b hT hR => ?_)
  · exact fun z i c R a b c' d e => ⟨mO, this z i c R a b c' d e⟩
  · refine ⟨mO, m_isWord (w := 20) hJM hi (by decide) hT ?_⟩
    rw [ej] at hj
    cases h1 : mwd tp i 20
    · rw [if_pos (show nI (false).toNat = 0 from rfl)]
      refine m_isWord (w := 21) hJM hi (by decide) hT ?_
      cases h2 : mwd tp i 21
      · rw [if_pos (show nI (false).toNat = 0 from rfl)]
        exact hR z hT
      · rw [h1, h2] at hj
        exact absurd hj (by decide)
    · rw [h1, if_pos rfl] at hj
      exact absurd hj (by decide)
  · have hJ : wX12_whole_J23 148 gSH rt (fun a x z => wX12_whole_L5 148 gSH rt R N a x z) R 129 x z := by
      refine ⟨mO, m_isWord (w := 20) hJM hi (by decide) hT ?_⟩
      intro z10 e10
      rw [hT.2.1, nI_1] at e10
      refine hw z10 _ (hT.to hJM e10) (fun z8 h8 => ?_)
      rw [ej] at h8 hj
      cases h1 : mwd tp i 20
      · rw [if_pos (show nI (false).toNat = 0 from rfl)]
        cases h2 : mwd tp i 21
        · rw [h1, h2] at hj
          exact absurd rfl hj
        · rw [h1, h2] at h8
          exact ⟨mO, h8⟩
      · rw [if_neg (show ¬ nI (true).toNat = 0 by decide)]
        rw [h1] at h8
        exact ⟨mO, h8⟩
    refine ⟨mO, m_isWord (w := 20) hJM hi (by decide) hT ?_⟩
    refine ift (fun q => ?_) (fun q => hJ)
    refine m_isWord (w := 21) hJM hi (by decide) hT ?_
    refine ift (fun q2 => ?_) (fun q2 => hJ)
    rw [nI_b0] at q q2
    rw [ej, q, q2] at hj
    exact absurd rfl hj
  · refine ⟨mO, m_isWord_f hT ?_⟩
    rw [if_pos rfl]
    refine m_isWord_f hT ?_
    rw [if_pos rfl]
    exact hR z hT
theorem Mn_test (hz : sR z0) (hK0 : mK z0 tp n) (hW0 : mWd z0) (hk : tOK tp) (hn : tK tp n) {nx : Nat → List Int32 → pR} {k : Nat} {x : Int32} {rt : Nat → Int32 → gS → (gS → Prop) → Prop} (hQ : eQ tp n k nx) (h : Mn z0 n tp nx (fun z R => rt 129 x z R)) : Mn z0 n tp (eLv tp 1 nx) (fun z R => wX12_test 148 gSH rt 129 x z R) := by
  have ej : ∀ i, jnc tp 1 i = if sgn tp i 60 then -8 else if sgn tp i 61 then -9 else 0 := fun i => rfl
  have hJM : ∀ {c}, okJ tp n (JM z0 c) := fun {c} => okJM hz hK0 hW0
  have hnn := hn.2.1
  intro z i c R hK hi hc h1 h2
  obtain ⟨a1, a2, a3, a4⟩ := hQ i c hi
  unfold eLv at h1 h2
  refine ⟨mO, h z i c _ hK hi hc (fun z2 e2 k2 => ?_) (fun z2 e2 k2 => ?_)⟩
  · rw [if_pos e2, if_pos rfl] at h1 h2
    simp only [eLp] at h1 h2
    obtain ⟨b1, es, b2, b3, b4⟩ := a4 e2
    have hl : (nx i c).2.2.length + i ≤ c.length + (nx i c).2.1 := by rw [b2, List.length_append]; omega
    generalize (nx i c).2.1 = i2 at h1 h2 k2 a1 a2 b1 b3 hl
    generalize (nx i c).2.2 = c2 at h1 h2 k2 hl
    refine m_isSign (c := 60) hJM hk a2 (by decide) k2 ?_
    have hJ : ∀ z5, TS (JM z0 c2) z5 (i2 + 1) → jnc tp 1 i2 ≠ 0 → wX12_test_J30 148 gSH rt R 129 x (nI (sgn tp i2 60).toNat) z5 := by
      intro z5 k5 hj
      rw [if_neg hj] at h1 h2
      have hlt := hn.nx a2 (jnc_0 hj)
      obtain ⟨p1, p2, p3, p4⟩ := hQ (i2 + 1) c2 hlt
      have hE : ∀ z9 (K : gS → Prop), (wX12_emit 148 gSH 129 (opO (jnc tp 1 i2)) (opA (jnc tp 1 i2)) z9 K) → (if nI (sgn tp i2 60).toNat = 0 then wX12_test_J47 148 gSH rt K (8 : Int32) 129 z9 else wX12_test_J47 148 gSH rt K (7 : Int32) 129 z9) := by
        intro z9 K h8
        rw [ej] at h8 hj
        cases s1 : sgn tp i2 60
        · rw [if_pos (show nI (false).toNat = 0 from rfl)]
          cases s2 : sgn tp i2 61
          · rw [s1, s2] at hj
            exact absurd rfl hj
          · rw [s1, s2] at h8
            exact ⟨mO, h8⟩
        · rw [if_neg (show ¬ nI (true).toNat = 0 by decide)]
          rw [s1] at h8
          exact ⟨mO, h8⟩
      refine ⟨mO, h z5 (i2 + 1) c2 _ k5 hlt (by omega) (fun z9 e9 k9 => hE z9 R ?_) (fun z9 e9 k9 => hE z9 R ?_)⟩
      · rw [if_pos e9] at h1
        obtain ⟨q1, es2, q2, q3, q4⟩ := p4 e9
        exact k9.emit hz (by rw [q2, List.length_append]; omega) (fun z10 k10 => h1 z10 rfl k10)
      · rw [if_neg e9] at h2
        exact k9.emit hz (by omega) (fun z10 k10 => h2 z10 e9 (k10.mo (by omega)))
    refine m_hasSign (c := 60) hJM hk a2 (by decide) k2 (fun q z7 k7 => ?_) (fun q z7 k7 => ?_)
    · rw [if_neg (by decide)]
      exact hJ z7 k7 (by rw [ej, if_pos q]; decide)
    · rw [if_pos rfl]
      refine m_hasSign (c := 61) hJM hk a2 (by decide) k7 (fun q2 z16 k16 => ?_) (fun q2 z16 k16 => ?_)
      · rw [if_neg (by decide)]
        exact hJ z16 k16 (by rw [ej, q, q2]; decide)
      · rw [if_pos rfl]
        have e0 : jnc tp 1 i2 = 0 := by rw [ej, q, q2]; rfl
        rw [if_pos e0] at h1
        exact h1 z16 rfl k16
  · rw [if_neg e2] at h1 h2
    refine m_isSign_f k2 (m_hasSign_f (okJF hz hK0 hW0) k2 (fun z7 k7 => ?_))
    rw [if_pos rfl]
    refine m_hasSign_f (okJF hz hK0 hW0) k7 (fun z16 k16 => ?_)
    rw [if_pos rfl]
    exact h2 z16 e2 k16
theorem Mn_E (hz : sR z0) (hK0 : mK z0 tp n) (hW0 : mWd z0) (hk : tOK tp) (hn : tK tp n) {nx : Nat → List Int32 → pR} {k : Nat} {x : Int32} {rt : Nat → Int32 → gS → (gS → Prop) → Prop} (hQ : eQ tp n k nx) (h : Mn z0 n tp nx (fun z R => rt 129 x z R)) : Mn z0 n tp (eE tp nx) (fun z R => wX12_whole 148 gSH (wX12_test 148 gSH (wX12_sums 148 gSH (wX12_products 148 gSH rt))) 129 x z R) :=
  Mn_whole hz hK0 hW0 hn (eQ_lv hn (eQ_lv hn (eQ_lv hn hQ))) (Mn_test hz hK0 hW0 hk hn (eQ_lv hn (eQ_lv hn hQ)) (Mn_sums hz hK0 hW0 hk hn (eQ_lv hn hQ) (Mn_prod hz hK0 hW0 hk hn hQ h)))
theorem m_part0 (hz : sR z0) (hK0 : mK z0 tp n) (hW0 : mWd z0) (hk : tOK tp) (hi : i ≤ n) {rw' rt : Nat → Int32 → gS → (gS → Prop) → Prop} {x : Int32} (h : TS (JM z0 c) z i) (hJ : ePk tp i = true → wX12_takePart_J69 148 gSH rw' rt R 129 x (nI (decide (kkd tp i = 3)).toNat) (rI 4 (kfc tp i)) z) (hW : ePk tp i = false → ∀ z', TF (JM z0 c) z' i (kfl tp 1 i) → R z') : wX12_takePart 148 gSH rw' rt 129 x z R := by
  have hJM : okJ tp n (JM z0 c) := okJM hz hK0 hW0
  obtain ⟨j1, j2, j3⟩ := hJM.1 z h.1
  have hnn := j2.2.1
  have hr := j2.2.2.2 i hi
  have hfl := kfc_le tp i
  refine ⟨mO, ?_⟩
  rw [if_pos h.p0, h.2.1]
  refine ⟨_, mR4 j1, mA131, by rw [mL131]; exact mI hnn hi, ?_⟩
  rw [nI_clamp (by omega), hr.1]
  have hJ26 : ∀ b : Bool, b = decide (kkd tp i = 3) → wX12_takePart_J26 148 gSH rw' rt R 129 x (nI b.toNat) z := by
    intro b hb
    rw [← hb] at hJ
    refine ⟨mO, m_wordHere (F := 22) (m := 4) hJM hi (by decide) h ?_⟩
    rw [wh_22]
    have e0 : (0 ≤ rI 4 (kfc tp i)) ↔ kfc tp i < 4 := by
      unfold rI
      by_cases q : kfc tp i < 4
      · rw [if_pos q]
        simp only [q, iff_true]
        exact nI_pos' (by omega)
      · rw [if_neg q]
        simp only [q, iff_false]
        decide
    unfold ePk at hJ hW
    refine ifi e0 (fun q => hJ (by rw [decide_eq_true q]; simp)) (fun q => ?_)
    refine ift (fun q1 => ?_) (fun q1 => hJ ?_)
    · rw [nI_b0, hb, decide_eq_false_iff_not] at q1
      refine m_isSign (c := 40) hJM hk hi (by decide) h ?_
      refine ift (fun q2 => ?_) (fun q2 => hJ ?_)
      · rw [nI_b0] at q2
        refine m_isWord (w := 19) hJM hi (by decide) h ?_
        refine ift (fun q3 => ?_) (fun q3 => hJ ?_)
        · rw [nI_b0, mwd_19, decide_eq_false_iff_not] at q3
          refine m_wrong (k := 1) hJM hi hk.1 (by decide) (by decide) h (fun z' k' => ?_)
          refine ⟨mO, ?_⟩
          rw [if_neg k'.np]
          exact hW (by rw [decide_eq_false q1, decide_eq_false q, decide_eq_false q3, q2]; rfl) z' k'
        · rw [nI_b0, Bool.not_eq_false, mwd_19] at q3
          rw [q3]; simp
      · rw [nI_b0, Bool.not_eq_false] at q2
        rw [q2]; simp
    · rw [nI_b0, Bool.not_eq_false, hb] at q1
      rw [q1]; rfl
  exact ifi (srt_e (kkd_le tp i)).2.1 (fun q => hJ26 true (by rw [decide_eq_true q])) (fun q => hJ26 false (by rw [decide_eq_false q]))
theorem Mn_pt (hz : sR z0) (hK0 : mK z0 tp n) (hW0 : mWd z0) (hk : tOK tp) (hn : tK tp n) : ∀ d D, d ≤ 5 → d + 1 ≤ D → Mn z0 n tp (ePt tp d) (fun z R => gTake 148 gSH D 129 (nI (5 - d)) z R) := by
  have hnn := hn.2.1
  have hJM : ∀ {c}, okJ tp n (JM z0 c) := fun {c} => okJM hz hK0 hW0
  intro d
  induction d with
  | zero =>
    intro D hd hD z i c R hK hi hc h1 h2
    obtain ⟨D, rfl⟩ : ∃ D', D = D' + 1 := ⟨D - 1, by omega⟩
    simp only [ePt] at h1 h2
    refine m_part0 hz hK0 hW0 hk hi hK (fun q => ?_) (fun q z' k' => ?_)
    · rw [if_pos q] at h2
      unfold wX12_takePart_J69
      rw [if_pos (by decide)]
      refine ⟨mO, m_wrong (k := 5) hJM hi hk.1 (by decide) (by decide) hK (fun z' k' => ?_)⟩
      refine ⟨mO, ?_⟩
      rw [if_neg k'.np]
      exact h2 z' (Nat.succ_ne_zero _) (k'.jf (by omega))
    · rw [if_neg (by rw [q]; decide)] at h2
      exact h2 z' (Nat.succ_ne_zero _) (k'.jf (by omega))
  | succ d ih =>
    intro D hd hD z i c R hK hi hc h1 h2
    obtain ⟨D, rfl⟩ : ∃ D', D = D' + 1 := ⟨D - 1, by omega⟩
    simp only [ePt] at h1 h2
    refine m_part0 hz hK0 hW0 hk hi hK (fun q => ?_) (fun q z' k' => ?_)
    · rw [if_pos q] at h1 h2
      have hlt := hn.nx hi (ePk_0 q)
      have edp : nI (5 - (d + 1)) + (1 : Int32) = nI (5 - d) := by rw [nI_1]; congr 1; omega
      unfold wX12_takePart_J69
      rw [if_neg (show ¬ nI (5 - (d + 1)) = (5 : Int32) from fun r => by have := (nI_eq (b := 5) (by omega) (by decide)).mp r; omega)]
      refine ⟨mO, ?_⟩
      rw [if_pos hK.p0]
      refine m_hasWord (w := 19) hJM hi (by decide) hK (fun q1 z10 k10 => ?_) (fun q1 z10 k10 => ?_)
      · rw [if_neg (by decide), edp]
        rw [mwd_19, decide_eq_true_eq] at q1
        have hs : sgn tp i 40 = false := by
          rw [← Bool.not_eq_true]
          intro r
          have := sgn_k r
          have := krs_k q1 (by decide)
          omega
        rw [if_neg (by rw [hs]; decide), if_pos q1] at h1 h2
        obtain ⟨a1, a2, a3, a4⟩ := eQ_pt hn d (i + 1) c hlt
        refine ih D (by omega) (by omega) z10 (i + 1) c _ k10 hlt (by omega) (fun z30 e30 k30 => ?_) (fun z30 e30 k30 => ?_)
        · rw [if_pos e30] at h1
          obtain ⟨b1, es, b2, b3, b4⟩ := a4 e30
          exact k30.emit (x := -5) hz (by rw [b2, List.length_append]; omega) (fun z32 k32 => h1 z32 rfl k32)
        · rw [if_neg e30] at h2
          exact k30.emit hz (by omega) (fun z32 k32 => h2 z32 e30 (k32.mo (by omega)))
      · rw [if_pos rfl]
        rw [mwd_19, decide_eq_false_iff_not] at q1
        refine m_hasSign (c := 40) hJM hk hi (by decide) k10 (fun q2 z12 k12 => ?_) (fun q2 z12 k12 => ?_)
        · rw [if_neg (by decide), edp]
          rw [if_pos q2] at h1 h2
          obtain ⟨a1, a2, a3, a4⟩ := eQ_E hn (eQ_pt hn d) (i + 1) c hlt
          refine Mn_E hz hK0 hW0 hk hn (eQ_pt hn d) (ih D (by omega) (by omega)) z12 (i + 1) c _ k12 hlt (by omega) (fun z25 e25 k25 => ?_) (fun z25 e25 k25 => ?_)
          · rw [if_pos e25] at h1 h2
            obtain ⟨b1, es, b2, b3, b4⟩ := a4 e25
            refine m_takeSign (c := 41) hJM hk a2 (by decide) k25 (fun q5 z27 k27 => ?_) (fun q5 z27 k27 => ?_)
            · rw [if_pos q5] at h1
              exact h1 z27 rfl k27
            · rw [if_neg (by rw [q5]; decide)] at h2
              exact h2 z27 (Nat.succ_ne_zero _) (k27.jf (by rw [b2, List.length_append]; dsimp only; omega))
          · rw [if_neg e25] at h2
            exact m_takeSign_f k25 (h2 z25 e25 (k25.mo (by omega)))
        · rw [if_pos rfl]
          rw [if_neg (by rw [q2]; decide), if_neg q1] at h1 h2
          have hF : ∀ x y : Int32, x = opA (eCd tp i) → y = opO (eCd tp i) → wX12_takePart_J165 148 gSH (wX12_whole 148 gSH (wX12_test 148 gSH (wX12_sums 148 gSH (wX12_products 148 gSH (gTake 148 gSH D))))) (gTake 148 gSH D) R 129 x y 129 z12 := by
            intro x y hx hy
            rw [hx, hy]
            refine ⟨mO, k12.emit hz (by omega) (fun z14 k14 => ⟨mO, fun z17 e17 => h1 z17 rfl ?_⟩)⟩
            rw [k14.2.1, nI_1] at e17
            exact k14.to hJM e17
          have q' := q
          unfold ePk at q'
          rw [q2, decide_eq_false q1] at q'
          simp only [Bool.or_false, Bool.or_eq_true, decide_eq_true_eq] at q'
          obtain ⟨j1, j2, j3⟩ := hJM.1 z12 k12.1
          have hr := j2.2.2.2 i hi
          by_cases h3 : kkd tp i = 3
          · have ev := kvl_n h3
            have e1 : eCd tp i = nI (kvl tp i) := by unfold eCd; rw [if_pos h3]
            rw [decide_eq_true h3, if_neg (show ¬ nI (true).toNat = 0 by decide)]
            unfold wX12_takePart_J147
            rw [if_neg (show ¬ nI (true).toNat = 0 by decide)]
            refine ⟨mO, _, mR6 j1, mA133, ?_⟩
            rw [k12.2.1, mL133]
            refine ⟨mI hnn hi, hF _ _ ?_ ?_⟩
            · rw [nI_clamp (by omega), hr.2.2.2 (Or.inl h3), lN_i, e1]
              unfold opA
              rw [if_pos (nI_pos' (by omega))]
            · rw [e1]
              unfold opO
              rw [if_pos (nI_pos' (by omega))]
          · have h4 : kfc tp i < 4 := q'.resolve_left h3
            rw [decide_eq_false h3, if_pos (show nI (false).toNat = 0 from rfl)]
            unfold wX12_takePart_J147
            rw [if_pos (show nI (false).toNat = 0 from rfl)]
            have e1 : eCd tp i = -1 - nI (kfc tp i) := by unfold eCd; rw [if_neg h3]
            have hh : ∀ k, k < 4 → opA (-1 - nI k) = nI k ∧ opO (-1 - nI k) = 2 := by decide
            refine hF _ _ ?_ ?_
            · rw [e1, (hh _ h4).1]
              unfold rI
              rw [if_pos h4]
            · rw [e1, (hh _ h4).2]
    · rw [if_neg (by rw [q]; decide)] at h2
      exact h2 z' (Nat.succ_ne_zero _) (k'.jf (by omega))
theorem Mn_all (hz : sR z0) (hK0 : mK z0 tp n) (hW0 : mWd z0) (hk : tOK tp) (hn : tK tp n) : Mn z0 n tp (eE tp (ePt tp 5)) (fun z R => wgX12_whole 148 gSH 129 (nI 0) z R) := Mn_E hz hK0 hW0 hk hn (eQ_pt hn 5) (Mn_pt hz hK0 hW0 hk hn 5 7 (by decide) (by decide))
end RM
