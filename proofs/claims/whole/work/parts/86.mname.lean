/-! ===== the model reads a street: names ===== -/
def aSM : Nat → Nat → Prop := fun a k => (a = 129 ∧ (k = 7 ∨ k = 8 ∨ k = 13 ∨ k = 19 ∨ k = 20)) ∨ (a = 135 ∧ 60 ≤ k) ∨ (a = 136 ∧ 1100 ≤ k) ∨ (a = 137 ∧ 1100 ≤ k) ∨ a = 141
def bSM : Nat → Prop := fun a => a = 139
def mS6 (z : gS) (c1 c2 c3 : Nat) (S : sS) : Prop := gi z 135 60 = nI c1 ∧ gi z 135 61 = nI c2 ∧ gi z 135 62 = nI c3 ∧ gi z 135 63 = nI (if sLC S = 0 then 1 else sLC S) ∧ (∀ p, p < sPA S → gi z 135 (65 + 3 * p) = nI (sKD S p)) ∧ (∀ p, p < sPA S → gi z 135 (66 + 3 * p) = nI (sKP S p)) ∧ (∀ p, p < sPA S → gi z 135 (67 + 3 * p) = nI (bs 10 (sSE S p))) ∧ (∀ p, p < sPE S → gi z 135 (83 + p) = nI (sHO S p)) ∧ (∀ d, d < sDE S → gi z 135 (88 + d) = nI (sHA S d)) ∧ (∀ i, i < sLC S → gi z 135 (93 + i) = nI (sLI S i)) ∧ (sLC S = 0 → gi z 135 93 = 1)
def mL6 (z : gS) (S : sS) : Prop := gi z 135 64 = (if sLW S = [] then nN else nI 0) ∧ (∀ i, i < (sLW S).length → gi z 136 (1100 + i) = opO ((sLW S).getD i 0) ∧ gi z 137 (1100 + i) = opA ((sLW S).getD i 0)) ∧ (sLW S ≠ [] → gi z 136 (1100 + (sLW S).length) = nI 0) ∧ gi z 129 13 = nI (if sLW S = [] then 0 else (sLW S).length + 1)
def onB (S : sS) : Nat := (if sLC S = 0 then 0 else 1) + (if sLW S = [] then 0 else 2)
def JS (z0 : gS) (c1 c2 c3 : Nat) (S : sS) (nm : sNm) (z : gS) : Prop := Fg aSM bSM z0 z ∧ mS6 z c1 c2 c3 S ∧ mL6 z S ∧ gi z 129 20 = nI (onB S) ∧ mNa z 19 139 141 nm.2.2.2
def JSF (z0 : gS) (z : gS) : Prop := Fg aSM bSM z0 z
theorem mS6.fr {z z' : gS} {c1 c2 c3 : Nat} {S : sS} (h : mS6 z c1 c2 c3 S) (hs : ∀ k, gi z' 135 k = gi z 135 k) : mS6 z' c1 c2 c3 S := by
  unfold mS6 at h ⊢
  simp only [hs]
  exact h
theorem mL6.fr {z z' : gS} {S : sS} (h : mL6 z S) (hs : ∀ a k, (a = 135 ∧ k = 64) ∨ (a = 129 ∧ k = 13) ∨ a = 136 ∨ a = 137 → gi z' a k = gi z a k) : mL6 z' S := by
  obtain ⟨h1, h2, h3, h4⟩ := h
  refine ⟨(hs _ _ (by omega)).trans h1, fun i hi => ?_, fun q => (hs _ _ (by omega)).trans (h3 q), (hs _ _ (by omega)).trans h4⟩
  rw [hs _ _ (by omega), hs _ _ (by omega)]
  exact h2 i hi
theorem mNa.fr {z z' : gS} {s a b : Nat} {L : List (Nat × Nat)} (h : mNa z s a b L) (h1 : gi z' 129 s = gi z 129 s) (h2 : ∀ k, gl z' a k = gl z a k) (h3 : ∀ k, gi z' b k = gi z b k) : mNa z' s a b L := ⟨h1.trans h.1, fun i hi => ⟨(h2 i).trans (h.2 i hi).1, (h3 i).trans (h.2 i hi).2⟩⟩
section RM
variable {z z0 : gS} {tp : List Nat} {n i f c1 c2 c3 : Nat} {S : sS} {nm : sNm} {J : gS → Prop} {P : Int32 → gS → Prop} {R : gS → Prop}
theorem okJS (hz : sR z0) (hK : mK z0 tp n) (hW : mWd z0) : okJ tp n (JS z0 c1 c2 c3 S nm) := by
  refine ⟨fun z h => ⟨h.1.sR hz, hK.fr (fun a k q => h.1.1 a k (by unfold aSM; omega)) (fun k => h.1.2.1 _ _ (by unfold bSM; omega)), hW.fr (fun k => h.1.2.1 _ _ (by unfold bSM; omega))⟩, fun z k v hk h => ⟨h.1.si (Or.inl ⟨rfl, by omega⟩), h.2.1.fr (fun k => by rw [gi_si, if_neg (by omega)]), h.2.2.1.fr (fun a j q => by rw [gi_si, if_neg (by omega)]), ?_, h.2.2.2.2.fr (by rw [gi_si, if_neg (by omega)]) (fun k => rfl) (fun k => by rw [gi_si, if_neg (by omega)])⟩⟩
  rw [gi_si, if_neg (by omega)]
  exact h.2.2.2.1
theorem okJSF (hz : sR z0) (hK : mK z0 tp n) (hW : mWd z0) : okJ tp n (JSF z0) := ⟨fun z h => ⟨Fg.sR h hz, hK.fr (fun a k q => h.1 a k (by unfold aSM; omega)) (fun k => h.2.1 _ _ (by unfold bSM; omega)), hW.fr (fun k => h.2.1 _ _ (by unfold bSM; omega))⟩, fun z k v hk h => Fg.si h (Or.inl ⟨rfl, by omega⟩)⟩
theorem TF.js (h : TF (JS z0 c1 c2 c3 S nm) z i f) : TF (JSF z0) z i f := ⟨h.1.1, h.2⟩
theorem m_takeOne {F m lo : Nat} (hJ : okJ tp n J) (hl : tp.length ≤ 1000) (hi : i ≤ n) (hw : F + m ≤ 26) (hr : wh m (fun k => mwd tp i (F + k)) = rO lo m (krs tp i)) (h : TS J z i) (h1 : lo ≤ krs tp i ∧ krs tp i < lo + m → ∀ z', TS J z' (i + 1) → P (nI (krs tp i - lo)) z') (h2 : ¬ (lo ≤ krs tp i ∧ krs tp i < lo + m) → ∀ z', TF J z' i (kfl tp 1 i) → P 0 z') : wX12_takeOne 148 gSH 129 (nI F) (nI m) z P := by
  have hrl := krs_le tp i
  refine ⟨mO, ?_⟩
  rw [if_pos h.p0]
  refine m_wordHere hJ hi hw h ?_
  rw [hr]
  refine ⟨mO, ?_⟩
  rw [if_pos h.2.2]
  unfold rO
  by_cases q : lo ≤ krs tp i ∧ krs tp i < lo + m
  · rw [if_pos q, if_pos (nI_pos' (by omega))]
    refine ⟨mO, ?_⟩
    rw [if_pos h.p0, h.2.1]
    refine ⟨mO, fun z7 e7 => ⟨mO, ?_⟩⟩
    rw [nI_1] at e7
    have h7 := h.to hJ e7
    rw [if_pos h7.p0]
    exact h1 q z7 h7
  · rw [if_neg q, if_neg (by decide)]
    refine m_wrong (k := 1) hJ hi hl (by decide) (by decide) h (fun z' k' => ⟨mO, ?_⟩)
    rw [if_neg k'.np, k'.2.1]
    refine ⟨mO, fun z7 e7 => ⟨mO, ?_⟩⟩
    have h7 := k'.to hJ (z' := z7) (j := i) (by rw [e7, j_0, nI_add]; rfl)
    rw [if_neg h7.np]
    exact h2 q z7 h7
theorem m_takeOne_f {a b : Int32} (hJ : okJ tp n J) (h : TF J z i f) (hP : ∀ z', TF J z' i f → P 0 z') : wX12_takeOne 148 gSH 129 a b z P := by
  refine ⟨mO, ?_⟩
  rw [if_neg h.np]
  refine ⟨mO, ?_⟩
  rw [if_neg h.n0]
  refine ⟨mO, ?_⟩
  rw [if_neg h.np, h.2.1]
  refine ⟨mO, fun z7 e7 => ⟨mO, ?_⟩⟩
  have h7 := h.to hJ (z' := z7) (j := i) (by rw [e7, j_0, nI_add]; rfl)
  rw [if_neg h7.np]
  exact hP z7 h7
theorem m_takeAfter {w lo hi' : Nat} (hJ : okJ tp n J) (hl : tp.length ≤ 1000) (hn : tK tp n) (hi : i ≤ n) (hw : w < 22) (hlo : lo < 1000) (hhi : hi' < 1000) (h : TS J z i) (h0 : krs tp i ≠ clsL.getD w 0 → ∀ z', TF J z' i (kfl tp 1 i) → P 0 z') (h1 : krs tp i = clsL.getD w 0 → kkd tp (i + 1) = 3 → lo ≤ kvl tp (i + 1) → kvl tp (i + 1) ≤ hi' → ∀ z', TS J z' (i + 2) → P (nI (kvl tp (i + 1))) z') (h2 : krs tp i = clsL.getD w 0 → kkd tp (i + 1) ≠ 3 → ∀ z', TF J z' (i + 1) (kfl tp 1 (i + 1)) → P 0 z') (h3 : krs tp i = clsL.getD w 0 → kkd tp (i + 1) = 3 → ¬ (lo ≤ kvl tp (i + 1) ∧ kvl tp (i + 1) ≤ hi') → ∀ z', TF J z' (i + 1) (kfl tp 4 (i + 1)) → P 0 z') : wX12_takeAfter 148 gSH 129 (nI w) (nI lo) (nI hi') z P := by
  have ew : mwd tp i w = decide (krs tp i = clsL.getD w 0) := by unfold mwd; rw [if_pos hw]
  refine ⟨mO, m_takeWord hJ hl hi (by omega) h (fun q z' k' => ?_) (fun q z' k' => ?_)⟩
  · rw [ew, decide_eq_true_eq] at q
    have := hn.nx hi (by have := krs_k q (wd_r w hw).1; omega)
    exact m_takeNumber hJ hl hn this hlo hhi k' (fun a b c z'' k'' => h1 q a b c z'' k'') (fun a z'' k'' => h2 q a z'' k'') (fun a b z'' k'' => h3 q a b z'' k'')
  · rw [ew, decide_eq_false_iff_not] at q
    exact m_takeNumber_f k' (h0 q z' k')
theorem m_takeAfter_f {a b c : Int32} (hJ : okJ tp n J) (h : TF J z i f) (hP : ∀ z', TF J z' i f → P 0 z') : wX12_takeAfter 148 gSH 129 a b c z P := ⟨mO, m_takeWord_f hJ h (fun z' k' => m_takeNumber_f k' (hP z' k'))⟩
theorem gt_apN {L : List (Nat × Nat)} {x : Nat × Nat} {j : Nat} : (L ++ [x]).getD j (0, 0) = if j = L.length then x else L.getD j (0, 0) := by
  rw [List.getD_eq_getElem?_getD]
  by_cases h : j < L.length
  · rw [List.getElem?_append_left h, if_neg (by omega), List.getD_eq_getElem?_getD]
  · rw [List.getElem?_append_right (by omega)]
    by_cases e : j = L.length
    · rw [if_pos e, e, Nat.sub_self]; rfl
    · rw [if_neg e, List.getD_eq_getElem?_getD, List.getElem?_eq_none (by simp; omega), List.getElem?_eq_none (by omega)]
theorem m_nameP (hz0 : sR z0) (hK0 : mK z0 tp n) (hW0 : mWd z0) (hn : tK tp n) (hl : tp.length ≤ 1000) (hok : sPA S ≤ 6 ∧ sPE S ≤ 5 ∧ sDE S ≤ 5) (hnm : nmOK S nm) (hlen : nm.2.2.2.length < 16) (hi : i < n) (hc : c1 ≤ 6) (h : TS (JS z0 c1 c2 c3 S nm) z i)
    (h1 : c1 = 6 → ∀ z', TF (JSF z0) z' i (kfl tp 5 i) → R z')
    (h2 : ¬ c1 = 6 → knm tp (i + 1) = false → ∀ z', TF (JSF z0) z' (i + 1) (kfl tp 1 (i + 1)) → R z')
    (h3 : ¬ c1 = 6 → ¬ knm tp (i + 1) = false → nmT nm (kvl tp (i + 1)) = true → ∀ z', TF (JSF z0) z' (i + 1) (kfl tp 3 (i + 1)) → R z')
    (h4 : ¬ c1 = 6 → ¬ knm tp (i + 1) = false → ¬ nmT nm (kvl tp (i + 1)) = true → ∀ z', TS (JS z0 (c1 + 1) c2 c3 S (nmP nm c1 (kvl tp (i + 1)))) z' (i + 2) → R z') : wX12_readName 148 gSH 129 (nI 0) (nI 6) (nI 0) z R := by
  have hJ : okJ tp n (JS z0 c1 c2 c3 S nm) := okJS hz0 hK0 hW0
  obtain ⟨j1, j2, j3⟩ := hJ.1 z h.1
  have hnn := hn.2.1
  refine ⟨mO, _, mR10 j1, mA135, ?_⟩
  rw [j_60, nI_add, mL135]
  refine ⟨vp_in_nI (by decide) (by decide), fun v5 e5 => ?_⟩
  rw [nI_clamp (by decide), h.1.2.1.1] at e5
  subst e5
  refine ifi (nI_eq (by omega) (by decide)) (fun q => ?_) (fun q => ?_)
  · exact m_wrong (k := 5) hJ (by omega) hl (by decide) (by decide) h (fun z' k' => h1 q z' k'.js)
  · rw [h.2.1, nI_1]
    intro z6 e6
    have t6 := h.to hJ e6
    have hJ61f : ∀ z' k, TF (JSF z0) z' (i + 1) k → R z' → wX12_readName_J61 148 gSH R 129 (nI 0) (nI 0) (nI c1) z' := by
      intro z' k k' hr
      refine ⟨mO, ?_⟩
      rw [if_neg k'.n0]
      exact hr
    refine m_isName hJ hi t6 ?_
    cases hn1 : knm tp (i + 1)
    · rw [if_pos (show nI (false).toNat = 0 from rfl)]
      exact m_wrong (k := 1) hJ hi hl (by decide) (by decide) t6 (fun z' k' => hJ61f z' _ k'.js (h2 q hn1 z' k'.js))
    · rw [if_neg (show ¬ nI (true).toNat = 0 by decide)]
      have hn' : ¬ knm tp (i + 1) = false := by rw [hn1]; decide
      have hk2 : kkd tp (i + 1) = 2 := knm_k hn'
      have hb := fun e he => (hnm.2.1 e he).1
      refine m_nameAt1 hJ hi t6 hk2 t6.1.2.2.2.2 hnm.1 hb ?_
      have ei : nm.2.2.2.findIdx (fun e => e.1 == kvl tp (i + 1)) = nmI nm (kvl tp (i + 1)) := rfl
      rw [ei]
      by_cases hc2 : nmI nm (kvl tp (i + 1)) < nm.2.2.2.length
      · have hT : nmT nm (kvl tp (i + 1)) = true := by unfold nmT; rw [decide_eq_true_eq]; exact hc2
        rw [if_pos hc2]
        have hcode : (nm.2.2.2.getD (nmI nm (kvl tp (i + 1))) (0, 0)).2 < 2 ^ 31 := by
          have e : (nm.2.2.2.getD (nmI nm (kvl tp (i + 1))) (0, 0)).2 = nmK nm (kvl tp (i + 1)) := rfl
          rw [e]
          rcases (hnm.2.1 _ (nmI_get hc2)).2 with ⟨a1, _⟩ | ⟨p, a1, a2, _⟩ | ⟨d, a1, a2, _⟩
          · dsimp only at a1; have := hok; omega
          · dsimp only at a2; have := hok; omega
          · dsimp only at a2; have := hok; omega
        rw [if_neg (nI_pos hcode)]
        exact m_wrong (k := 3) hJ hi hl (by decide) (by decide) t6 (fun z' k' => hJ61f z' _ k'.js (h3 q hn' hT z' k'.js))
      · have hT : ¬ nmT nm (kvl tp (i + 1)) = true := by unfold nmT; rw [decide_eq_true_eq]; exact hc2
        rw [if_neg hc2, if_pos (by decide)]
        obtain ⟨m1, m2, m3⟩ := hJ.1 z6 t6.1
        have hr := m2.2.2.2 (i + 1) hi
        refine ⟨mO, ?_⟩
        rw [if_pos t6.2.2, t6.2.1, t6.1.2.2.2.2.1]
        refine ⟨_, mR15 m1, _, mR6 m1, mA133, by rw [mL133]; exact mI hnn hi, mA139, by rw [mL139]; exact vp_in_nI hlen (by decide), fun z18 e18 => ?_⟩
        rw [nI_clamp (by omega), nI_clamp (by omega), hr.2.2.1 hk2] at e18
        have e19 : gi z18 129 19 = nI nm.2.2.2.length := by rw [e18, gi_sl]; exact t6.1.2.2.2.2.1
        refine ⟨_, mR17 (by rw [e18]; exact m1.to (fun _ _ => rfl)), mA141, ?_⟩
        rw [e19, mL141]
        refine ⟨vp_in_nI hlen (by decide), fun z22 e22 z23 e23 z24 e24 => ?_⟩
        rw [nI_clamp (by omega), nI_add] at e22
        have e22a : gi z22 129 19 = nI nm.2.2.2.length := by rw [e22, gi_si, if_neg (by omega), e19]
        rw [e22a, nI_1] at e23
        have e23a : gi z23 129 7 = nI (i + 1) := by rw [e23, gi_si, if_neg (by omega), e22, gi_si, if_neg (by omega), e18, gi_sl]; exact t6.2.1
        rw [e23a, nI_1] at e24
        have eg : ∀ a k, ¬ (a = 129 ∧ (k = 7 ∨ k = 19)) → a ≠ 141 → gi z24 a k = gi z6 a k := fun a k q1 q2 => by
          rw [e24, gi_si, if_neg (by omega), e23, gi_si, if_neg (by omega), e22, gi_si, if_neg (by omega), e18, gi_sl]
        have el : ∀ a k, ¬ (a = 139 ∧ k = nm.2.2.2.length) → gl z24 a k = gl z6 a k := fun a k q1 => by
          rw [e24, gl_si, e23, gl_si, e22, gl_si, e18, gl_sl, if_neg q1]
        have f24 : Fg aSM bSM z0 z24 := by
          rw [e24, e23, e22, e18]
          exact (((t6.1.1.sl rfl).si (Or.inr (Or.inr (Or.inr (Or.inr rfl))))).si (Or.inl ⟨rfl, by omega⟩)).si (Or.inl ⟨rfl, by omega⟩)
        refine ⟨_, mR10 (f24.sR hz0), mA135, by rw [mL135]; exact vp_in_nI (by decide) (by decide), by rw [mL135]; exact vp_in_nI (by decide) (by decide), fun z29 e29 => h4 q hn' hT z29 ?_⟩
        rw [j_60, nI_add, nI_clamp (by decide), eg _ _ (by omega) (by omega), t6.1.2.1.1, nI_1] at e29
        have eg2 : ∀ a k, ¬ (a = 129 ∧ (k = 7 ∨ k = 19)) → a ≠ 141 → ¬ (a = 135 ∧ k = 60 + 0) → gi z29 a k = gi z6 a k := fun a k q1 q2 q3 => by
          rw [e29, gi_si, if_neg q3]; exact eg a k q1 q2
        have hs6 := t6.1.2.1
        refine ⟨⟨by rw [e29]; exact f24.si (Or.inr (Or.inl ⟨rfl, by omega⟩)), ?_, ?_, ?_, ?_, ?_⟩, ?_, ?_⟩
        · obtain ⟨b1, b2, b3, b4, b5, b6, b7, b8, b9, b10, b11⟩ := hs6
          refine ⟨?_, ?_, ?_, (eg2 _ _ (by omega) (by omega) (by omega)).trans b4, fun p hp => (eg2 _ _ (by omega) (by omega) (by omega)).trans (b5 p hp), fun p hp => (eg2 _ _ (by omega) (by omega) (by omega)).trans (b6 p hp), fun p hp => (eg2 _ _ (by omega) (by omega) (by omega)).trans (b7 p hp), fun p hp => (eg2 _ _ (by omega) (by omega) (by omega)).trans (b8 p hp), fun p hp => (eg2 _ _ (by omega) (by omega) (by omega)).trans (b9 p hp), fun p hp => (eg2 _ _ (by omega) (by omega) (by omega)).trans (b10 p hp), fun q => (eg2 _ _ (by omega) (by omega) (by omega)).trans (b11 q)⟩
          · rw [e29, gi_si, if_pos ⟨rfl, rfl⟩]
          · exact (eg2 _ _ (by omega) (by omega) (by omega)).trans b2
          · exact (eg2 _ _ (by omega) (by omega) (by omega)).trans b3
        · exact t6.1.2.2.1.fr (fun a k q => eg2 a k (by omega) (by omega) (by omega))
        · rw [eg2 _ _ (by omega) (by omega) (by omega)]; exact t6.1.2.2.2.1
        · show gi z29 129 19 = nI (nm.2.2.2 ++ [(kvl tp (i + 1), c1)]).length
          rw [e29, gi_si, if_neg (by omega), e24, gi_si, if_neg (by omega), e23, gi_si, if_pos ⟨rfl, rfl⟩, List.length_append]
          rfl
        · intro j hj
          have hj : j < (nm.2.2.2 ++ [(kvl tp (i + 1), c1)]).length := hj
          show gl z29 139 j = lN (cv ((nm.2.2.2 ++ [(kvl tp (i + 1), c1)]).getD j (0, 0)).1) ∧ gi z29 141 j = nI ((nm.2.2.2 ++ [(kvl tp (i + 1), c1)]).getD j (0, 0)).2
          rw [gt_apN]
          simp only [List.length_append, List.length_singleton] at hj
          by_cases e : j = nm.2.2.2.length
          · rw [if_pos e, e, e29, gl_si, gi_si, if_neg (by omega), e24, gl_si, gi_si, if_neg (by omega), e23, gl_si, gi_si, if_neg (by omega), e22, gl_si, gi_si, if_pos ⟨rfl, rfl⟩, e18, gl_sl, if_pos ⟨rfl, rfl⟩]
            exact ⟨rfl, by rw [Nat.zero_add]⟩
          · rw [if_neg e, e29, gl_si, gi_si, if_neg (by omega), el _ _ (by omega), e24, gi_si, if_neg (by omega), e23, gi_si, if_neg (by omega), e22, gi_si, if_neg (by omega), e18, gi_sl]
            exact t6.1.2.2.2.2.2 j (by omega)
        · rw [e29, gi_si, if_neg (by omega), e24, gi_si, if_pos ⟨rfl, rfl⟩]
        · rw [eg2 _ _ (by omega) (by omega) (by omega)]; exact t6.2.2
theorem m_nameE (hz0 : sR z0) (hK0 : mK z0 tp n) (hW0 : mWd z0) (hn : tK tp n) (hl : tp.length ≤ 1000) (hok : sPA S ≤ 6 ∧ sPE S ≤ 5 ∧ sDE S ≤ 5) (hnm : nmOK S nm) (hlen : nm.2.2.2.length < 16) (hi : i < n) (hc : c2 ≤ 5) (h : TS (JS z0 c1 c2 c3 S nm) z i)
    (h1 : c2 = 5 → ∀ z', TF (JSF z0) z' i (kfl tp 5 i) → R z')
    (h2 : ¬ c2 = 5 → knm tp (i + 1) = false → ∀ z', TF (JSF z0) z' (i + 1) (kfl tp 1 (i + 1)) → R z')
    (h3 : ¬ c2 = 5 → ¬ knm tp (i + 1) = false → nmT nm (kvl tp (i + 1)) = true → ∀ z', TF (JSF z0) z' (i + 1) (kfl tp 3 (i + 1)) → R z')
    (h4 : ¬ c2 = 5 → ¬ knm tp (i + 1) = false → ¬ nmT nm (kvl tp (i + 1)) = true → ∀ z', TS (JS z0 c1 (c2 + 1) c3 S (nmE nm c2 (kvl tp (i + 1)))) z' (i + 2) → R z') : wX12_readName 148 gSH 129 (nI 1) (nI 5) (nI 20) z R := by
  have hJ : okJ tp n (JS z0 c1 c2 c3 S nm) := okJS hz0 hK0 hW0
  obtain ⟨j1, j2, j3⟩ := hJ.1 z h.1
  have hnn := hn.2.1
  refine ⟨mO, _, mR10 j1, mA135, ?_⟩
  rw [j_60, nI_add, mL135]
  refine ⟨vp_in_nI (by decide) (by decide), fun v5 e5 => ?_⟩
  rw [nI_clamp (by decide), h.1.2.1.2.1] at e5
  subst e5
  refine ifi (nI_eq (by omega) (by decide)) (fun q => ?_) (fun q => ?_)
  · exact m_wrong (k := 5) hJ (by omega) hl (by decide) (by decide) h (fun z' k' => h1 q z' k'.js)
  · rw [h.2.1, nI_1]
    intro z6 e6
    have t6 := h.to hJ e6
    have hJ61f : ∀ z' k, TF (JSF z0) z' (i + 1) k → R z' → wX12_readName_J61 148 gSH R 129 (nI 1) (nI 20) (nI c2) z' := by
      intro z' k k' hr
      refine ⟨mO, ?_⟩
      rw [if_neg k'.n0]
      exact hr
    refine m_isName hJ hi t6 ?_
    cases hn1 : knm tp (i + 1)
    · rw [if_pos (show nI (false).toNat = 0 from rfl)]
      exact m_wrong (k := 1) hJ hi hl (by decide) (by decide) t6 (fun z' k' => hJ61f z' _ k'.js (h2 q hn1 z' k'.js))
    · rw [if_neg (show ¬ nI (true).toNat = 0 by decide)]
      have hn' : ¬ knm tp (i + 1) = false := by rw [hn1]; decide
      have hk2 : kkd tp (i + 1) = 2 := knm_k hn'
      have hb := fun e he => (hnm.2.1 e he).1
      refine m_nameAt1 hJ hi t6 hk2 t6.1.2.2.2.2 hnm.1 hb ?_
      have ei : nm.2.2.2.findIdx (fun e => e.1 == kvl tp (i + 1)) = nmI nm (kvl tp (i + 1)) := rfl
      rw [ei]
      by_cases hc2 : nmI nm (kvl tp (i + 1)) < nm.2.2.2.length
      · have hT : nmT nm (kvl tp (i + 1)) = true := by unfold nmT; rw [decide_eq_true_eq]; exact hc2
        rw [if_pos hc2]
        have hcode : (nm.2.2.2.getD (nmI nm (kvl tp (i + 1))) (0, 0)).2 < 2 ^ 31 := by
          have e : (nm.2.2.2.getD (nmI nm (kvl tp (i + 1))) (0, 0)).2 = nmK nm (kvl tp (i + 1)) := rfl
          rw [e]
          rcases (hnm.2.1 _ (nmI_get hc2)).2 with ⟨a1, _⟩ | ⟨p, a1, a2, _⟩ | ⟨d, a1, a2, _⟩
          · dsimp only at a1; have := hok; omega
          · dsimp only at a2; have := hok; omega
          · dsimp only at a2; have := hok; omega
        rw [if_neg (nI_pos hcode)]
        exact m_wrong (k := 3) hJ hi hl (by decide) (by decide) t6 (fun z' k' => hJ61f z' _ k'.js (h3 q hn' hT z' k'.js))
      · have hT : ¬ nmT nm (kvl tp (i + 1)) = true := by unfold nmT; rw [decide_eq_true_eq]; exact hc2
        rw [if_neg hc2, if_pos (by decide)]
        obtain ⟨m1, m2, m3⟩ := hJ.1 z6 t6.1
        have hr := m2.2.2.2 (i + 1) hi
        refine ⟨mO, ?_⟩
        rw [if_pos t6.2.2, t6.2.1, t6.1.2.2.2.2.1]
        refine ⟨_, mR15 m1, _, mR6 m1, mA133, by rw [mL133]; exact mI hnn hi, mA139, by rw [mL139]; exact vp_in_nI hlen (by decide), fun z18 e18 => ?_⟩
        rw [nI_clamp (by omega), nI_clamp (by omega), hr.2.2.1 hk2] at e18
        have e19 : gi z18 129 19 = nI nm.2.2.2.length := by rw [e18, gi_sl]; exact t6.1.2.2.2.2.1
        refine ⟨_, mR17 (by rw [e18]; exact m1.to (fun _ _ => rfl)), mA141, ?_⟩
        rw [e19, mL141]
        refine ⟨vp_in_nI hlen (by decide), fun z22 e22 z23 e23 z24 e24 => ?_⟩
        rw [nI_clamp (by omega), nI_add] at e22
        have e22a : gi z22 129 19 = nI nm.2.2.2.length := by rw [e22, gi_si, if_neg (by omega), e19]
        rw [e22a, nI_1] at e23
        have e23a : gi z23 129 7 = nI (i + 1) := by rw [e23, gi_si, if_neg (by omega), e22, gi_si, if_neg (by omega), e18, gi_sl]; exact t6.2.1
        rw [e23a, nI_1] at e24
        have eg : ∀ a k, ¬ (a = 129 ∧ (k = 7 ∨ k = 19)) → a ≠ 141 → gi z24 a k = gi z6 a k := fun a k q1 q2 => by
          rw [e24, gi_si, if_neg (by omega), e23, gi_si, if_neg (by omega), e22, gi_si, if_neg (by omega), e18, gi_sl]
        have el : ∀ a k, ¬ (a = 139 ∧ k = nm.2.2.2.length) → gl z24 a k = gl z6 a k := fun a k q1 => by
          rw [e24, gl_si, e23, gl_si, e22, gl_si, e18, gl_sl, if_neg q1]
        have f24 : Fg aSM bSM z0 z24 := by
          rw [e24, e23, e22, e18]
          exact (((t6.1.1.sl rfl).si (Or.inr (Or.inr (Or.inr (Or.inr rfl))))).si (Or.inl ⟨rfl, by omega⟩)).si (Or.inl ⟨rfl, by omega⟩)
        refine ⟨_, mR10 (f24.sR hz0), mA135, by rw [mL135]; exact vp_in_nI (by decide) (by decide), by rw [mL135]; exact vp_in_nI (by decide) (by decide), fun z29 e29 => h4 q hn' hT z29 ?_⟩
        rw [j_60, nI_add, nI_clamp (by decide), eg _ _ (by omega) (by omega), t6.1.2.1.2.1, nI_1] at e29
        have eg2 : ∀ a k, ¬ (a = 129 ∧ (k = 7 ∨ k = 19)) → a ≠ 141 → ¬ (a = 135 ∧ k = 60 + 1) → gi z29 a k = gi z6 a k := fun a k q1 q2 q3 => by
          rw [e29, gi_si, if_neg q3]; exact eg a k q1 q2
        have hs6 := t6.1.2.1
        refine ⟨⟨by rw [e29]; exact f24.si (Or.inr (Or.inl ⟨rfl, by omega⟩)), ?_, ?_, ?_, ?_, ?_⟩, ?_, ?_⟩
        · obtain ⟨b1, b2, b3, b4, b5, b6, b7, b8, b9, b10, b11⟩ := hs6
          refine ⟨?_, ?_, ?_, (eg2 _ _ (by omega) (by omega) (by omega)).trans b4, fun p hp => (eg2 _ _ (by omega) (by omega) (by omega)).trans (b5 p hp), fun p hp => (eg2 _ _ (by omega) (by omega) (by omega)).trans (b6 p hp), fun p hp => (eg2 _ _ (by omega) (by omega) (by omega)).trans (b7 p hp), fun p hp => (eg2 _ _ (by omega) (by omega) (by omega)).trans (b8 p hp), fun p hp => (eg2 _ _ (by omega) (by omega) (by omega)).trans (b9 p hp), fun p hp => (eg2 _ _ (by omega) (by omega) (by omega)).trans (b10 p hp), fun q => (eg2 _ _ (by omega) (by omega) (by omega)).trans (b11 q)⟩
          · exact (eg2 _ _ (by omega) (by omega) (by omega)).trans b1
          · rw [e29, gi_si, if_pos ⟨rfl, rfl⟩]
          · exact (eg2 _ _ (by omega) (by omega) (by omega)).trans b3
        · exact t6.1.2.2.1.fr (fun a k q => eg2 a k (by omega) (by omega) (by omega))
        · rw [eg2 _ _ (by omega) (by omega) (by omega)]; exact t6.1.2.2.2.1
        · show gi z29 129 19 = nI (nm.2.2.2 ++ [(kvl tp (i + 1), 20 + c2)]).length
          rw [e29, gi_si, if_neg (by omega), e24, gi_si, if_neg (by omega), e23, gi_si, if_pos ⟨rfl, rfl⟩, List.length_append]
          rfl
        · intro j hj
          have hj : j < (nm.2.2.2 ++ [(kvl tp (i + 1), 20 + c2)]).length := hj
          show gl z29 139 j = lN (cv ((nm.2.2.2 ++ [(kvl tp (i + 1), 20 + c2)]).getD j (0, 0)).1) ∧ gi z29 141 j = nI ((nm.2.2.2 ++ [(kvl tp (i + 1), 20 + c2)]).getD j (0, 0)).2
          rw [gt_apN]
          simp only [List.length_append, List.length_singleton] at hj
          by_cases e : j = nm.2.2.2.length
          · rw [if_pos e, e, e29, gl_si, gi_si, if_neg (by omega), e24, gl_si, gi_si, if_neg (by omega), e23, gl_si, gi_si, if_neg (by omega), e22, gl_si, gi_si, if_pos ⟨rfl, rfl⟩, e18, gl_sl, if_pos ⟨rfl, rfl⟩]
            exact ⟨rfl, by rfl⟩
          · rw [if_neg e, e29, gl_si, gi_si, if_neg (by omega), el _ _ (by omega), e24, gi_si, if_neg (by omega), e23, gi_si, if_neg (by omega), e22, gi_si, if_neg (by omega), e18, gi_sl]
            exact t6.1.2.2.2.2.2 j (by omega)
        · rw [e29, gi_si, if_neg (by omega), e24, gi_si, if_pos ⟨rfl, rfl⟩]
        · rw [eg2 _ _ (by omega) (by omega) (by omega)]; exact t6.2.2
theorem m_nameD (hz0 : sR z0) (hK0 : mK z0 tp n) (hW0 : mWd z0) (hn : tK tp n) (hl : tp.length ≤ 1000) (hok : sPA S ≤ 6 ∧ sPE S ≤ 5 ∧ sDE S ≤ 5) (hnm : nmOK S nm) (hlen : nm.2.2.2.length < 16) (hi : i < n) (hc : c3 ≤ 5) (h : TS (JS z0 c1 c2 c3 S nm) z i)
    (h1 : c3 = 5 → ∀ z', TF (JSF z0) z' i (kfl tp 5 i) → R z')
    (h2 : ¬ c3 = 5 → knm tp (i + 1) = false → ∀ z', TF (JSF z0) z' (i + 1) (kfl tp 1 (i + 1)) → R z')
    (h3 : ¬ c3 = 5 → ¬ knm tp (i + 1) = false → nmT nm (kvl tp (i + 1)) = true → ∀ z', TF (JSF z0) z' (i + 1) (kfl tp 3 (i + 1)) → R z')
    (h4 : ¬ c3 = 5 → ¬ knm tp (i + 1) = false → ¬ nmT nm (kvl tp (i + 1)) = true → ∀ z', TS (JS z0 c1 c2 (c3 + 1) S (nmD nm c3 (kvl tp (i + 1)))) z' (i + 2) → R z') : wX12_readName 148 gSH 129 (nI 2) (nI 5) (nI 40) z R := by
  have hJ : okJ tp n (JS z0 c1 c2 c3 S nm) := okJS hz0 hK0 hW0
  obtain ⟨j1, j2, j3⟩ := hJ.1 z h.1
  have hnn := hn.2.1
  refine ⟨mO, _, mR10 j1, mA135, ?_⟩
  rw [j_60, nI_add, mL135]
  refine ⟨vp_in_nI (by decide) (by decide), fun v5 e5 => ?_⟩
  rw [nI_clamp (by decide), h.1.2.1.2.2.1] at e5
  subst e5
  refine ifi (nI_eq (by omega) (by decide)) (fun q => ?_) (fun q => ?_)
  · exact m_wrong (k := 5) hJ (by omega) hl (by decide) (by decide) h (fun z' k' => h1 q z' k'.js)
  · rw [h.2.1, nI_1]
    intro z6 e6
    have t6 := h.to hJ e6
    have hJ61f : ∀ z' k, TF (JSF z0) z' (i + 1) k → R z' → wX12_readName_J61 148 gSH R 129 (nI 2) (nI 40) (nI c3) z' := by
      intro z' k k' hr
      refine ⟨mO, ?_⟩
      rw [if_neg k'.n0]
      exact hr
    refine m_isName hJ hi t6 ?_
    cases hn1 : knm tp (i + 1)
    · rw [if_pos (show nI (false).toNat = 0 from rfl)]
      exact m_wrong (k := 1) hJ hi hl (by decide) (by decide) t6 (fun z' k' => hJ61f z' _ k'.js (h2 q hn1 z' k'.js))
    · rw [if_neg (show ¬ nI (true).toNat = 0 by decide)]
      have hn' : ¬ knm tp (i + 1) = false := by rw [hn1]; decide
      have hk2 : kkd tp (i + 1) = 2 := knm_k hn'
      have hb := fun e he => (hnm.2.1 e he).1
      refine m_nameAt1 hJ hi t6 hk2 t6.1.2.2.2.2 hnm.1 hb ?_
      have ei : nm.2.2.2.findIdx (fun e => e.1 == kvl tp (i + 1)) = nmI nm (kvl tp (i + 1)) := rfl
      rw [ei]
      by_cases hc2 : nmI nm (kvl tp (i + 1)) < nm.2.2.2.length
      · have hT : nmT nm (kvl tp (i + 1)) = true := by unfold nmT; rw [decide_eq_true_eq]; exact hc2
        rw [if_pos hc2]
        have hcode : (nm.2.2.2.getD (nmI nm (kvl tp (i + 1))) (0, 0)).2 < 2 ^ 31 := by
          have e : (nm.2.2.2.getD (nmI nm (kvl tp (i + 1))) (0, 0)).2 = nmK nm (kvl tp (i + 1)) := rfl
          rw [e]
          rcases (hnm.2.1 _ (nmI_get hc2)).2 with ⟨a1, _⟩ | ⟨p, a1, a2, _⟩ | ⟨d, a1, a2, _⟩
          · dsimp only at a1; have := hok; omega
          · dsimp only at a2; have := hok; omega
          · dsimp only at a2; have := hok; omega
        rw [if_neg (nI_pos hcode)]
        exact m_wrong (k := 3) hJ hi hl (by decide) (by decide) t6 (fun z' k' => hJ61f z' _ k'.js (h3 q hn' hT z' k'.js))
      · have hT : ¬ nmT nm (kvl tp (i + 1)) = true := by unfold nmT; rw [decide_eq_true_eq]; exact hc2
        rw [if_neg hc2, if_pos (by decide)]
        obtain ⟨m1, m2, m3⟩ := hJ.1 z6 t6.1
        have hr := m2.2.2.2 (i + 1) hi
        refine ⟨mO, ?_⟩
        rw [if_pos t6.2.2, t6.2.1, t6.1.2.2.2.2.1]
        refine ⟨_, mR15 m1, _, mR6 m1, mA133, by rw [mL133]; exact mI hnn hi, mA139, by rw [mL139]; exact vp_in_nI hlen (by decide), fun z18 e18 => ?_⟩
        rw [nI_clamp (by omega), nI_clamp (by omega), hr.2.2.1 hk2] at e18
        have e19 : gi z18 129 19 = nI nm.2.2.2.length := by rw [e18, gi_sl]; exact t6.1.2.2.2.2.1
        refine ⟨_, mR17 (by rw [e18]; exact m1.to (fun _ _ => rfl)), mA141, ?_⟩
        rw [e19, mL141]
        refine ⟨vp_in_nI hlen (by decide), fun z22 e22 z23 e23 z24 e24 => ?_⟩
        rw [nI_clamp (by omega), nI_add] at e22
        have e22a : gi z22 129 19 = nI nm.2.2.2.length := by rw [e22, gi_si, if_neg (by omega), e19]
        rw [e22a, nI_1] at e23
        have e23a : gi z23 129 7 = nI (i + 1) := by rw [e23, gi_si, if_neg (by omega), e22, gi_si, if_neg (by omega), e18, gi_sl]; exact t6.2.1
        rw [e23a, nI_1] at e24
        have eg : ∀ a k, ¬ (a = 129 ∧ (k = 7 ∨ k = 19)) → a ≠ 141 → gi z24 a k = gi z6 a k := fun a k q1 q2 => by
          rw [e24, gi_si, if_neg (by omega), e23, gi_si, if_neg (by omega), e22, gi_si, if_neg (by omega), e18, gi_sl]
        have el : ∀ a k, ¬ (a = 139 ∧ k = nm.2.2.2.length) → gl z24 a k = gl z6 a k := fun a k q1 => by
          rw [e24, gl_si, e23, gl_si, e22, gl_si, e18, gl_sl, if_neg q1]
        have f24 : Fg aSM bSM z0 z24 := by
          rw [e24, e23, e22, e18]
          exact (((t6.1.1.sl rfl).si (Or.inr (Or.inr (Or.inr (Or.inr rfl))))).si (Or.inl ⟨rfl, by omega⟩)).si (Or.inl ⟨rfl, by omega⟩)
        refine ⟨_, mR10 (f24.sR hz0), mA135, by rw [mL135]; exact vp_in_nI (by decide) (by decide), by rw [mL135]; exact vp_in_nI (by decide) (by decide), fun z29 e29 => h4 q hn' hT z29 ?_⟩
        rw [j_60, nI_add, nI_clamp (by decide), eg _ _ (by omega) (by omega), t6.1.2.1.2.2.1, nI_1] at e29
        have eg2 : ∀ a k, ¬ (a = 129 ∧ (k = 7 ∨ k = 19)) → a ≠ 141 → ¬ (a = 135 ∧ k = 60 + 2) → gi z29 a k = gi z6 a k := fun a k q1 q2 q3 => by
          rw [e29, gi_si, if_neg q3]; exact eg a k q1 q2
        have hs6 := t6.1.2.1
        refine ⟨⟨by rw [e29]; exact f24.si (Or.inr (Or.inl ⟨rfl, by omega⟩)), ?_, ?_, ?_, ?_, ?_⟩, ?_, ?_⟩
        · obtain ⟨b1, b2, b3, b4, b5, b6, b7, b8, b9, b10, b11⟩ := hs6
          refine ⟨?_, ?_, ?_, (eg2 _ _ (by omega) (by omega) (by omega)).trans b4, fun p hp => (eg2 _ _ (by omega) (by omega) (by omega)).trans (b5 p hp), fun p hp => (eg2 _ _ (by omega) (by omega) (by omega)).trans (b6 p hp), fun p hp => (eg2 _ _ (by omega) (by omega) (by omega)).trans (b7 p hp), fun p hp => (eg2 _ _ (by omega) (by omega) (by omega)).trans (b8 p hp), fun p hp => (eg2 _ _ (by omega) (by omega) (by omega)).trans (b9 p hp), fun p hp => (eg2 _ _ (by omega) (by omega) (by omega)).trans (b10 p hp), fun q => (eg2 _ _ (by omega) (by omega) (by omega)).trans (b11 q)⟩
          · exact (eg2 _ _ (by omega) (by omega) (by omega)).trans b1
          · exact (eg2 _ _ (by omega) (by omega) (by omega)).trans b2
          · rw [e29, gi_si, if_pos ⟨rfl, rfl⟩]
        · exact t6.1.2.2.1.fr (fun a k q => eg2 a k (by omega) (by omega) (by omega))
        · rw [eg2 _ _ (by omega) (by omega) (by omega)]; exact t6.1.2.2.2.1
        · show gi z29 129 19 = nI (nm.2.2.2 ++ [(kvl tp (i + 1), 40 + c3)]).length
          rw [e29, gi_si, if_neg (by omega), e24, gi_si, if_neg (by omega), e23, gi_si, if_pos ⟨rfl, rfl⟩, List.length_append]
          rfl
        · intro j hj
          have hj : j < (nm.2.2.2 ++ [(kvl tp (i + 1), 40 + c3)]).length := hj
          show gl z29 139 j = lN (cv ((nm.2.2.2 ++ [(kvl tp (i + 1), 40 + c3)]).getD j (0, 0)).1) ∧ gi z29 141 j = nI ((nm.2.2.2 ++ [(kvl tp (i + 1), 40 + c3)]).getD j (0, 0)).2
          rw [gt_apN]
          simp only [List.length_append, List.length_singleton] at hj
          by_cases e : j = nm.2.2.2.length
          · rw [if_pos e, e, e29, gl_si, gi_si, if_neg (by omega), e24, gl_si, gi_si, if_neg (by omega), e23, gl_si, gi_si, if_neg (by omega), e22, gl_si, gi_si, if_pos ⟨rfl, rfl⟩, e18, gl_sl, if_pos ⟨rfl, rfl⟩]
            exact ⟨rfl, by rfl⟩
          · rw [if_neg e, e29, gl_si, gi_si, if_neg (by omega), el _ _ (by omega), e24, gi_si, if_neg (by omega), e23, gi_si, if_neg (by omega), e22, gi_si, if_neg (by omega), e18, gi_sl]
            exact t6.1.2.2.2.2.2 j (by omega)
        · rw [e29, gi_si, if_neg (by omega), e24, gi_si, if_pos ⟨rfl, rfl⟩]
        · rw [eg2 _ _ (by omega) (by omega) (by omega)]; exact t6.2.2
end RM
