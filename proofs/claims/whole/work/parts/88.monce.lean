/-! ===== the model reads a street: light, fades, a line ===== -/
def mS6r (z : gS) (c1 c2 c3 : Nat) (S : sS) : Prop := gi z 135 60 = nI c1 ∧ gi z 135 61 = nI c2 ∧ gi z 135 62 = nI c3 ∧ (∀ p, p < sPA S → gi z 135 (65 + 3 * p) = nI (sKD S p)) ∧ (∀ p, p < sPA S → gi z 135 (66 + 3 * p) = nI (sKP S p)) ∧ (∀ p, p < sPA S → gi z 135 (67 + 3 * p) = nI (bs 10 (sSE S p))) ∧ (∀ p, p < sPE S → gi z 135 (83 + p) = nI (sHO S p)) ∧ (∀ d, d < sDE S → gi z 135 (88 + d) = nI (sHA S d))
theorem mS6r.fr {z z' : gS} {c1 c2 c3 : Nat} {S : sS} (h : mS6r z c1 c2 c3 S) (hk : sPA S ≤ 6 ∧ sPE S ≤ 5 ∧ sDE S ≤ 5) (hs : ∀ k, 60 ≤ k → k < 93 → k ≠ 63 → k ≠ 64 → gi z' 135 k = gi z 135 k) : mS6r z' c1 c2 c3 S := by
  obtain ⟨b1, b2, b3, b5, b6, b7, b8, b9⟩ := h
  exact ⟨(hs _ (by omega) (by omega) (by omega) (by omega)).trans b1, (hs _ (by omega) (by omega) (by omega) (by omega)).trans b2, (hs _ (by omega) (by omega) (by omega) (by omega)).trans b3, fun p hp => (hs _ (by omega) (by omega) (by omega) (by omega)).trans (b5 p hp), fun p hp => (hs _ (by omega) (by omega) (by omega) (by omega)).trans (b6 p hp), fun p hp => (hs _ (by omega) (by omega) (by omega) (by omega)).trans (b7 p hp), fun p hp => (hs _ (by omega) (by omega) (by omega) (by omega)).trans (b8 p hp), fun p hp => (hs _ (by omega) (by omega) (by omega) (by omega)).trans (b9 p hp)⟩
def JL (z0 : gS) (S : sS) (nm : sNm) (m : Nat) (L : Nat → Nat) (z : gS) : Prop := Fg aSM bSM z0 z ∧ mS6r z (sPA S) (sPE S) (sDE S) S ∧ (∀ j, j < m → gi z 135 (93 + j) = nI (L j)) ∧ mL6 z S ∧ gi z 129 20 = nI (onB S + 1) ∧ mNa z 19 139 141 nm.2.2.2
theorem on_bits {S : sS} : (nI (onB S) >>> (nI 0 &&& 31)) &&& (1 : Int32) = nI (if sLC S = 0 then 0 else 1) ∧ (nI (onB S) >>> (nI 1 &&& 31)) &&& (1 : Int32) = nI (if sLW S = [] then 0 else 1) ∧ (sLC S = 0 → nI (onB S) ||| ((1 : Int32) <<< (nI 0 &&& 31)) = nI (onB S + 1)) ∧ (sLW S = [] → nI (onB S) ||| ((1 : Int32) <<< (nI 1 &&& 31)) = nI (onB S + 2)) := by
  unfold onB
  by_cases h1 : sLC S = 0 <;> by_cases h2 : sLW S = [] <;> simp only [h1, h2, if_true, if_false, true_implies, false_implies, and_true] <;> decide
section RM
variable {z z0 : gS} {tp : List Nat} {n i f : Nat} {S : sS} {nm : sNm} {J : gS → Prop} {P : Int32 → gS → Prop} {R : gS → Prop}
theorem okJL {m : Nat} {L : Nat → Nat} (hk : sPA S ≤ 6 ∧ sPE S ≤ 5 ∧ sDE S ≤ 5) (hz : sR z0) (hK : mK z0 tp n) (hW : mWd z0) : okJ tp n (JL z0 S nm m L) := by
  refine ⟨fun z h => (okJSF hz hK hW).1 z h.1, fun z k v hkk h => ⟨h.1.si (Or.inl ⟨rfl, by omega⟩), h.2.1.fr hk (fun j _ _ _ _ => by rw [gi_si, if_neg (by omega)]), fun j hj => by rw [gi_si, if_neg (by omega)]; exact h.2.2.1 j hj, h.2.2.2.1.fr (fun a j q => by rw [gi_si, if_neg (by omega)]), ?_, h.2.2.2.2.2.fr (by rw [gi_si, if_neg (by omega)]) (fun j => rfl) (fun j => by rw [gi_si, if_neg (by omega)])⟩⟩
  rw [gi_si, if_neg (by omega)]
  exact h.2.2.2.2.1
theorem TF.jl {m : Nat} {L : Nat → Nat} (h : TF (JL z0 S nm m L) z i f) : TF (JSF z0) z i f := ⟨h.1.1, h.2⟩
theorem m_lightF {N : Nat} {x : Int32} (hz0 : sR z0) (h : TF (JSF z0) z i f) (hP : ∀ z', TF (JSF z0) z' i f → R z') : wX12_readLight_L2 148 gSH R (N + 1) 129 x z := by
  refine ⟨mO, ?_⟩
  rw [if_neg h.n0]
  refine ⟨mO, _, mR10 (Fg.sR h.1 hz0), mA135, by rw [mL135]; exact vp_in_nI (n := 63) (by decide) (by decide), fun z6 e6 => hP z6 ?_⟩
  rw [show (63 : Int32).toNatClampNeg = 63 by decide] at e6
  exact ⟨by rw [e6]; exact Fg.si h.1 (Or.inr (Or.inl ⟨rfl, by omega⟩)), by rw [e6, gi_si, if_neg (by omega)]; exact h.2.1, by rw [e6, gi_si, if_neg (by omega)]; exact h.2.2.1, h.2.2.2⟩
theorem JL.fin {m : Nat} {L : Nat → Nat} (hk : sPA S ≤ 6 ∧ sPE S ≤ 5 ∧ sDE S ≤ 5) (h : TS (JL z0 S nm m L) z i) (hm : 0 < m) (h0 : sLC S = 0) {z' : gS} (e : z' = si z 135 63 (nI m)) : TS (JS z0 (sPA S) (sPE S) (sDE S) (addL S m L) nm) z' i := by
  have eg : ∀ a k, ¬ (a = 135 ∧ k = 63) → gi z' a k = gi z a k := fun a k q => by rw [e, gi_si, if_neg q]
  obtain ⟨⟨g1, g2, g3, g4, g5, g6⟩, g7, g8⟩ := h
  obtain ⟨b1, b2, b3, b5, b6, b7, b8, b9⟩ := g2
  have hm0 : ¬ m = 0 := by omega
  refine ⟨⟨by rw [e]; exact g1.si (Or.inr (Or.inl ⟨rfl, by omega⟩)), ⟨(eg _ _ (by omega)).trans b1, (eg _ _ (by omega)).trans b2, (eg _ _ (by omega)).trans b3, ?_, fun p hp => (eg _ _ (by omega)).trans (b5 p hp), fun p hp => (eg _ _ (by omega)).trans (b6 p hp), fun p hp => (eg _ _ (by omega)).trans (b7 p hp), fun p hp => (eg _ _ (by omega)).trans (b8 p hp), fun p hp => (eg _ _ (by omega)).trans (b9 p hp), fun j hj => (eg _ _ (by omega)).trans (g3 j hj), fun q => absurd q hm0⟩, ?_, ?_, ?_⟩, (eg _ _ (by omega)).trans g7, (eg _ _ (by omega)).trans g8⟩
  · rw [e, gi_si, if_pos ⟨rfl, rfl⟩]
    show nI m = nI (if m = 0 then 1 else m)
    rw [if_neg hm0]
  · have := g4.fr (z' := z') (fun a k q => eg a k (by omega))
    exact this
  · rw [eg _ _ (by omega), g5]
    show nI (onB S + 1) = nI ((if m = 0 then 0 else 1) + (if sLW S = [] then 0 else 2))
    unfold onB
    rw [if_neg hm0, if_pos h0]
    congr 1
    omega
  · exact g6.fr (eg _ _ (by omega)) (fun k => by rw [e]; rfl) (fun k => eg _ _ (by omega))
theorem JL.st {m w : Nat} {L : Nat → Nat} (hk : sPA S ≤ 6 ∧ sPE S ≤ 5 ∧ sDE S ≤ 5) (h : TS (JL z0 S nm m L) z i) (hm : m < 12) {z' : gS} (e : z' = si z 135 (93 + m) (nI w)) : TS (JL z0 S nm (m + 1) (upF L m w)) z' i := by
  have eg : ∀ a k, ¬ (a = 135 ∧ k = 93 + m) → gi z' a k = gi z a k := fun a k q => by rw [e, gi_si, if_neg q]
  obtain ⟨⟨g1, g2, g3, g4, g5, g6⟩, g7, g8⟩ := h
  refine ⟨⟨by rw [e]; exact g1.si (Or.inr (Or.inl ⟨rfl, by omega⟩)), g2.fr hk (fun k q1 q2 q3 q4 => eg _ _ (by omega)), fun j hj => ?_, g4.fr (fun a k q => eg a k (by omega)), (eg _ _ (by omega)).trans g5, g6.fr (eg _ _ (by omega)) (fun k => by rw [e]; rfl) (fun k => eg _ _ (by omega))⟩, (eg _ _ (by omega)).trans g7, (eg _ _ (by omega)).trans g8⟩
  by_cases q : j = m
  · rw [q, upF_at, e, gi_si, if_pos ⟨rfl, rfl⟩]
  · rw [upF_ne q, eg _ _ (by omega)]; exact g3 j (by omega)
theorem m_light (hz0 : sR z0) (hK0 : mK z0 tp n) (hW0 : mWd z0) (hl : tp.length ≤ 1000) (hn : tK tp n) (hkk : sPA S ≤ 6 ∧ sPE S ≤ 5 ∧ sDE S ≤ 5) (h0 : sLC S = 0) : ∀ f m z i L, m + f = 13 → m ≤ 12 → TS (JL z0 S nm m L) z i → i ≤ n → (m = 0 → kkd tp i = 3) → ((gLp tp f i m L).1 ≠ 0 → ∀ z', TF (JSF z0) z' (gLp tp f i m L).2.1 (kfl tp (gLp tp f i m L).1 (gLp tp f i m L).2.1) → R z') → ((gLp tp f i m L).1 = 0 → ∀ z', TS (JS z0 (sPA S) (sPE S) (sDE S) (addL S (gLp tp f i m L).2.2.1 (gLp tp f i m L).2.2.2) nm) z' (gLp tp f i m L).2.1 → R z') → wX12_readLight_L2 148 gSH R (f + 2) 129 (nI m) z := by
  have hnn := hn.2.1
  intro f
  induction f with
  | zero =>
    intro m z i L hx hm
    omega
  | succ f ih =>
    intro m z i L hx hm hh hi h3 g2 g3
    have hJ : okJ tp n (JL z0 S nm m L) := okJL hkk hz0 hK0 hW0
    obtain ⟨j1, j2, j3⟩ := hJ.1 z hh.1
    simp only [gLp] at g2 g3
    have hJ26 : kkd tp i = 3 → wX12_readLight_J26 148 gSH (wX12_readLight_L2 148 gSH R (f + 2)) R 129 (nI m) z := by
      intro q3
      rw [if_pos q3] at g2 g3
      refine ⟨mO, m_takeNumber (lo := 0) (hi' := 1) hJ hl hn hi (by decide) (by decide) hh (fun r1 r2 r3 z8 k8 => ?_) (fun r => absurd q3 r) (fun r1 r2 z8 k8 => ?_)⟩
      · rw [if_pos r3] at g2 g3
        rw [if_pos k8.2.2]
        refine ifi (nI_eq (b := 12) (by omega) (by decide)) (fun q5 => ?_) (fun q5 => ?_)
        · rw [if_pos q5] at g2
          intro z17 e17
          rw [k8.2.1, nI_pred] at e17
          have k17 := k8.to hJ e17
          exact m_wrong (k := 5) hJ hi hl (by decide) (by decide) k17 (fun z19 k19 => m_lightF hz0 k19.jl (g2 (Nat.succ_ne_zero _)))
        · rw [if_neg q5] at g2 g3
          obtain ⟨m1, m2, m3⟩ := hJ.1 z8 k8.1
          refine ⟨mO, ?_⟩
          rw [if_pos k8.2.2]
          refine ⟨_, mR10 m1, mA135, ?_⟩
          rw [show (93 : Int32) = nI 93 by decide, nI_add, mL135]
          refine ⟨vp_in_nI (by omega) (by decide), fun z14 e14 v15 e15 => ?_⟩
          rw [nI_clamp (by omega)] at e14
          rw [nI_1] at e15
          subst e15
          exact ih (m + 1) z14 (i + 1) _ (by omega) (by omega) (JL.st hkk k8 (by omega) e14) (hn.nx hi (by omega)) (fun r => by omega) g2 g3
      · rw [if_neg (show ¬ kvl tp i ≤ 1 by omega)] at g2
        rw [if_neg k8.n0]
        refine ⟨mO, ?_⟩
        rw [if_neg k8.n0]
        exact m_lightF hz0 k8.jl (g2 (Nat.succ_ne_zero _))
    refine ⟨mO, ?_⟩
    rw [if_pos hh.2.2]
    refine ifi (nI_eq (b := 0) (by omega) (by decide)) (fun q => hJ26 (h3 q)) (fun q => ?_)
    rw [hh.2.1]
    refine ⟨_, mR4 j1, mA131, by rw [mL131]; exact mI hnn hi, ?_⟩
    rw [nI_clamp (by omega), (j2.2.2.2 i hi).1]
    refine ifi (srt_e (kkd_le tp i)).2.1 (fun q2 => hJ26 q2) (fun q2 => ?_)
    rw [if_neg q2] at g3
    refine ⟨mO, _, mR10 j1, mA135, by rw [mL135]; exact vp_in_nI (n := 63) (by decide) (by decide), fun z6 e6 => g3 rfl z6 ?_⟩
    rw [show (63 : Int32).toNatClampNeg = 63 by decide] at e6
    exact JL.fin hkk hh (by omega) h0 e6
theorem m_once (hz0 : sR z0) (hK0 : mK z0 tp n) (hW0 : mWd z0) (hk : tOK tp) (hn : tK tp n) (hp : pOK S nm) (hi : i < n) (c0 : krs tp i ≠ 0) (c1 : krs tp i ≠ 1) (c2 : krs tp i ≠ 2) (h : TS (JS z0 (sPA S) (sPE S) (sDE S) S nm) z i) (h1 : (spLn tp i S nm).1 = 0 → ∀ z', TS (JS z0 (sPA (spLn tp i S nm).2.2.1) (sPE (spLn tp i S nm).2.2.1) (sDE (spLn tp i S nm).2.2.1) (spLn tp i S nm).2.2.1 (spLn tp i S nm).2.2.2) z' (spLn tp i S nm).2.1 → R z') (h2 : (spLn tp i S nm).1 ≠ 0 → ∀ z', TF (JSF z0) z' (spLn tp i S nm).2.1 (kfl tp (spLn tp i S nm).1 (spLn tp i S nm).2.1) → R z') : wX12_readOnce 148 gSH 129 z R := by
  obtain ⟨hok, hlw, hnm, hlen⟩ := hp
  have hl := hk.1
  have hnn := hn.2.1
  have hkk : sPA S ≤ 6 ∧ sPE S ≤ 5 ∧ sDE S ≤ 5 := ⟨hok.1, hok.2.1, hok.2.2.1⟩
  have hJ : okJ tp n (JS z0 (sPA S) (sPE S) (sDE S) S nm) := okJS hz0 hK0 hW0
  obtain ⟨ob1, ob2, ob3, ob4⟩ := on_bits (S := S)
  unfold spLn at h1 h2
  rw [if_neg c0, if_neg c1, if_neg c2] at h1 h2
  have hfin : ∀ z' j g x, TF (JSF z0) z' j g → R z' → wX12_readOnce_J37 148 gSH R 129 x z' := by
    intro z' j g x hh hr
    refine ⟨mO, ?_⟩
    rw [if_neg hh.np]
    exact hr
  refine ⟨mO, m_wordHere (F := 7) (m := 2) hJ (by omega) (by decide) h ?_⟩
  rw [wh_7]
  unfold rO
  by_cases q : 3 ≤ krs tp i ∧ krs tp i < 3 + 2
  · rw [if_pos q, if_pos (nI_pos' (by omega)), h.1.2.2.2.1]
    by_cases c3 : krs tp i = 3
    · rw [if_pos c3] at h1 h2
      unfold spLight at h1 h2
      rw [c3, show 3 - 3 = 0 from rfl, ob1]
      by_cases d0 : sLC S = 0
      · rw [if_neg (fun x => x d0)] at h1 h2
        rw [if_pos d0, if_neg (by decide)]
        refine ⟨mO, ?_⟩
        rw [if_pos h.p0, h.1.2.2.2.1, ob3 d0]
        intro z5 e5 z6 e6
        have e57 : gi z5 129 7 = nI i := by rw [e5, gi_si, if_neg (by omega)]; exact h.2.1
        rw [e57, nI_1] at e6
        rw [if_pos (by decide)]
        have eg : ∀ a k, ¬ (a = 129 ∧ (k = 7 ∨ k = 20)) → gi z6 a k = gi z a k := fun a k q => by rw [e6, gi_si, if_neg (by omega), e5, gi_si, if_neg (by omega)]
        have hs6 := h.1.2.1
        have t6 : TS (JL z0 S nm 0 (fun _ => 0)) z6 (i + 1) := by
          refine ⟨⟨by rw [e6, e5]; exact (h.1.1.si (Or.inl ⟨rfl, by omega⟩)).si (Or.inl ⟨rfl, by omega⟩), ⟨(eg _ _ (by omega)).trans hs6.1, (eg _ _ (by omega)).trans hs6.2.1, (eg _ _ (by omega)).trans hs6.2.2.1, fun p hp => (eg _ _ (by omega)).trans (hs6.2.2.2.2.1 p hp), fun p hp => (eg _ _ (by omega)).trans (hs6.2.2.2.2.2.1 p hp), fun p hp => (eg _ _ (by omega)).trans (hs6.2.2.2.2.2.2.1 p hp), fun p hp => (eg _ _ (by omega)).trans (hs6.2.2.2.2.2.2.2.1 p hp), fun p hp => (eg _ _ (by omega)).trans (hs6.2.2.2.2.2.2.2.2.1 p hp)⟩, fun j hj => absurd hj (Nat.not_lt_zero _), h.1.2.2.1.fr (fun a k q => eg a k (by omega)), ?_, h.1.2.2.2.2.fr (eg _ _ (by omega)) (fun k => by rw [e6, e5]; rfl) (fun k => eg _ _ (by omega))⟩, by rw [e6, gi_si, if_pos ⟨rfl, rfl⟩], (eg _ _ (by omega)).trans h.2.2⟩
          rw [e6, gi_si, if_neg (by omega), e5, gi_si, if_pos ⟨rfl, rfl⟩]
        by_cases d1 : kkd tp (i + 1) ≠ 3
        · rw [if_pos d1] at h2
          have hJL : okJ tp n (JL z0 S nm 0 (fun _ => 0)) := okJL hkk hz0 hK0 hW0
          refine ⟨2, mO, ?_⟩
          rw [if_pos t6.2.2, if_pos rfl]
          refine ⟨mO, m_takeNumber (lo := 0) (hi' := 1) hJL hl hn (i := i + 1) hi (by decide) (by decide) t6 (fun r1 => absurd r1 d1) (fun r z8 k8 => ?_) (fun r1 => absurd r1 d1)⟩
          rw [if_neg k8.n0]
          refine ⟨mO, ?_⟩
          rw [if_neg k8.n0]
          exact m_lightF hz0 k8.jl (h2 (Nat.succ_ne_zero _))
        · rw [if_neg d1] at h1 h2
          refine ⟨15, m_light hz0 hK0 hW0 hl hn hkk d0 13 0 z6 (i + 1) (fun _ => 0) (by decide) (by decide) t6 hi (fun _ => by omega) (fun r z' k' => ?_) (fun r z' k' => ?_)⟩
          · rw [if_neg r] at h2
            exact h2 r z' k'
          · rw [if_pos r] at h1
            exact h1 rfl z' k'
      · rw [if_pos d0] at h2
        rw [if_neg d0, if_pos (show nI 1 = (1 : Int32) from rfl)]
        exact m_wrong (k := 3) hJ (by omega) hl (by decide) (by decide) h (fun z' k' => hfin z' _ _ _ k'.js (h2 (Nat.succ_ne_zero _) z' k'.js))
    · have c4 : krs tp i = 4 := by omega
      rw [if_neg c3, if_pos c4] at h1 h2
      unfold spFades at h1 h2
      rw [c4, show 4 - 3 = 1 from rfl, ob2]
      by_cases d0 : sLW S = []
      · rw [if_neg (fun x => x d0)] at h1 h2
        rw [if_pos d0, if_neg (by decide)]
        refine ⟨mO, ?_⟩
        rw [if_pos h.p0, h.1.2.2.2.1, ob4 d0]
        intro z5 e5 z6 e6
        have e57 : gi z5 129 7 = nI i := by rw [e5, gi_si, if_neg (by omega)]; exact h.2.1
        rw [e57, nI_1] at e6
        rw [if_neg (by decide)]
        have eg : ∀ a k, ¬ (a = 129 ∧ (k = 7 ∨ k = 20)) → gi z6 a k = gi z a k := fun a k q => by rw [e6, gi_si, if_neg (by omega), e5, gi_si, if_neg (by omega)]
        have f6 : Fg aSM bSM z0 z6 := by rw [e6, e5]; exact (h.1.1.si (Or.inl ⟨rfl, by omega⟩)).si (Or.inl ⟨rfl, by omega⟩)
        obtain ⟨l1, l2, l3, l4⟩ := h.1.2.2.1
        rw [if_pos d0] at l4
        have e613 : gi z6 129 13 = nI 0 := (eg _ _ (by omega)).trans l4
        refine ⟨_, mR10 (f6.sR hz0), mA135, by rw [mL135]; exact vp_in_nI (n := 64) (by decide) (by decide), fun z10 e10 => ?_⟩
        rw [show (64 : Int32).toNatClampNeg = 64 by decide, e613] at e10
        have f10 : Fg aSM bSM z0 z10 := by rw [e10]; exact f6.si (Or.inr (Or.inl ⟨rfl, by omega⟩))
        have eg10 : ∀ a k, ¬ (a = 129 ∧ (k = 7 ∨ k = 20)) → ¬ (a = 135 ∧ k = 64) → gi z10 a k = gi z a k := fun a k q1 q2 => by rw [e10, gi_si, if_neg q2]; exact eg a k q1
        obtain ⟨o1, o2, o3⟩ := (okJSF (tp := tp) (n := n) hz0 hK0 hW0).1 z10 f10
        have t10 : TS (JM z10 []) z10 (i + 1) := ⟨⟨Fr.rf, by rw [e10, gi_si, if_neg (by omega)]; exact e613, fun j hj => absurd hj (Nat.not_lt_zero _)⟩, by rw [e10, gi_si, if_neg (by omega), e6, gi_si, if_pos ⟨rfl, rfl⟩], (eg10 _ _ (by omega) (by omega)).trans h.2.2⟩
        obtain ⟨p1, p2, p3, p4⟩ := eQ_all hn (i + 1) [] hi
        refine Mn_all o1 o2 o3 hk hn z10 (i + 1) [] _ t10 hi (by simp) (fun z12 e12 k12 => ?_) (fun z12 e12 k12 => ?_)
        · rw [if_pos e12] at h1
          obtain ⟨w1, w2, w3, w4⟩ := eE_ok hn hi e12
          generalize hc : (eE tp (ePt tp 5) (i + 1) []).2.2 = cc at h1 k12 w3 w4
          have hne : cc ≠ [] := fun x => by rw [x] at w3; exact absurd w3 (by simp [lwK])
          refine m_emit0 (k12.1.1.sR o1) k12.1.2.1 (by omega) (fun z14 e14 => h1 rfl z14 ?_)
          have eg14 : ∀ a k, ¬ (a = 129 ∧ (k = 7 ∨ k = 8 ∨ k = 13 ∨ k = 20)) → ¬ (a = 135 ∧ k = 64) → ¬ (a = 136 ∧ 1100 ≤ k) → ¬ (a = 137 ∧ 1100 ≤ k) → gi z14 a k = gi z a k := fun a k q1 q2 q3 q4 => by
            rw [e14, gi_si, if_neg (by omega), gi_si, if_neg (by omega), gi_si, if_neg (by omega), k12.1.1.1 a k (by unfold aEM; omega)]
            exact eg10 a k (by omega) q2
          have el14 : ∀ a k, gl z14 a k = gl z a k := fun a k => by
            rw [e14, gl_si, gl_si, gl_si, k12.1.1.2.1, e10, gl_si, e6, gl_si, e5, gl_si]
          obtain ⟨b1, b2, b3, b4, b5, b6, b7, b8, b9, b10, b11⟩ := h.1.2.1
          have kp1 := hkk.1
          have kp2 := hkk.2.1
          have kp3 := hkk.2.2
          have kp4 := hok.2.2.2.1
          refine ⟨⟨?_, ⟨(eg14 _ _ (by omega) (by omega) (by omega) (by omega)).trans b1, (eg14 _ _ (by omega) (by omega) (by omega) (by omega)).trans b2, (eg14 _ _ (by omega) (by omega) (by omega) (by omega)).trans b3, (eg14 _ _ (by omega) (by omega) (by omega) (by omega)).trans b4, fun p hp => (eg14 _ _ (by omega) (by omega) (by omega) (by omega)).trans (b5 p hp), fun p hp => (eg14 _ _ (by omega) (by omega) (by omega) (by omega)).trans (b6 p hp), fun p hp => (eg14 _ _ (by omega) (by omega) (by omega) (by omega)).trans (b7 p hp), fun p hp => (eg14 _ _ (by omega) (by omega) (by omega) (by omega)).trans (b8 p hp), fun p hp => (eg14 _ _ (by omega) (by omega) (by omega) (by omega)).trans (b9 p hp), fun p hp => (eg14 _ _ (by omega) (by omega) (by omega) (by omega)).trans (b10 p hp), fun q => (eg14 _ _ (by omega) (by omega) (by omega) (by omega)).trans (b11 q)⟩, ⟨?_, fun j hj => ?_, fun _ => ?_, ?_⟩, ?_, ?_⟩, ?_, ?_⟩
          · have fz : Fg aSM bSM z10 z14 := by
              rw [e14]
              have fz12 : Fg aSM bSM z10 z12 := ⟨fun a k q => k12.1.1.1 a k (fun r => q (by unfold aEM at r; unfold aSM; omega)), fun a k _ => k12.1.1.2.1 a k, k12.1.1.2.2⟩
              exact ((fz12.si (Or.inr (Or.inr (Or.inl ⟨rfl, by omega⟩)))).si (Or.inr (Or.inr (Or.inr (Or.inl ⟨rfl, by omega⟩))))).si (Or.inl ⟨rfl, by omega⟩)
            exact f10.tr fz
          · show gi z14 135 64 = if cc = [] then nN else nI 0
            rw [if_neg hne, e14, gi_si, if_neg (by omega), gi_si, if_neg (by omega), gi_si, if_neg (by omega), k12.1.1.1 _ _ (by unfold aEM; omega), e10, gi_si, if_pos ⟨rfl, rfl⟩]
          · have hj : j < cc.length := hj
            rw [e14, gi_si, if_neg (by omega), gi_si, if_neg (by omega), gi_si, if_neg (by omega), gi_si, if_neg (by omega), gi_si, if_neg (by omega), gi_si, if_neg (by omega)]
            exact k12.1.2.2 j hj
          · show gi z14 136 (1100 + cc.length) = nI 0
            rw [e14, gi_si, if_neg (by omega), gi_si, if_neg (by omega), gi_si, if_pos ⟨rfl, rfl⟩]
            rfl
          · show gi z14 129 13 = nI (if cc = [] then 0 else cc.length + 1)
            rw [if_neg hne, e14, gi_si, if_pos ⟨rfl, rfl⟩]
          · show gi z14 129 20 = nI ((if sLC S = 0 then 0 else 1) + (if cc = [] then 0 else 2))
            rw [if_neg hne, e14, gi_si, if_neg (by omega), gi_si, if_neg (by omega), gi_si, if_neg (by omega), k12.1.1.1 _ _ (by unfold aEM; omega), e10, gi_si, if_neg (by omega), e6, gi_si, if_neg (by omega), e5, gi_si, if_pos ⟨rfl, rfl⟩]
            unfold onB
            rw [if_pos d0]
          · exact h.1.2.2.2.2.fr (eg14 _ _ (by omega) (by omega) (by omega) (by omega)) (fun k => el14 _ _) (fun k => eg14 _ _ (by omega) (by omega) (by omega) (by omega))
          · rw [e14, gi_si, if_neg (by omega), gi_si, if_neg (by omega), gi_si, if_neg (by omega)]; exact k12.2.1
          · rw [e14, gi_si, if_neg (by omega), gi_si, if_neg (by omega), gi_si, if_neg (by omega)]; exact k12.2.2
        · rw [if_neg e12] at h2
          have p2' : (eE tp (ePt tp 5) (i + 1) []).2.1 ≤ n := p2
          refine k12.emit o1 (by simp only [List.length_nil]; omega) (fun z14 k14 => h2 e12 z14 ⟨f10.tr ⟨fun a k q => k14.1.1.1 a k (fun r => q (by unfold aEM at r; unfold aSM; omega)), fun a k _ => k14.1.1.2.1 a k, k14.1.1.2.2⟩, k14.2⟩)
      · rw [if_pos d0] at h2
        rw [if_neg d0, if_pos (show nI 1 = (1 : Int32) from rfl)]
        exact m_wrong (k := 3) hJ (by omega) hl (by decide) (by decide) h (fun z' k' => hfin z' _ _ _ k'.js (h2 (Nat.succ_ne_zero _) z' k'.js))
  · rw [if_neg q, if_neg (by decide)]
    rw [if_neg (show ¬ krs tp i = 3 by omega), if_neg (show ¬ krs tp i = 4 by omega)] at h2
    exact m_wrong (k := 1) hJ (by omega) hl (by decide) (by decide) h (fun z' k' => hfin z' _ _ _ k'.js (h2 (Nat.succ_ne_zero _) z' k'.js))
theorem m_sLn (hz0 : sR z0) (hK0 : mK z0 tp n) (hW0 : mWd z0) (hk : tOK tp) (hn : tK tp n) (hp : pOK S nm) (hi : i < n) (h : TS (JS z0 (sPA S) (sPE S) (sDE S) S nm) z i) (h1 : (spLn tp i S nm).1 = 0 → ∀ z', TS (JS z0 (sPA (spLn tp i S nm).2.2.1) (sPE (spLn tp i S nm).2.2.1) (sDE (spLn tp i S nm).2.2.1) (spLn tp i S nm).2.2.1 (spLn tp i S nm).2.2.2) z' (spLn tp i S nm).2.1 → R z') (h2 : (spLn tp i S nm).1 ≠ 0 → ∀ z', TF (JSF z0) z' (spLn tp i S nm).2.1 (kfl tp (spLn tp i S nm).1 (spLn tp i S nm).2.1) → R z') : wX12_readLine 148 gSH 129 z R := by
  have hJ : okJ tp n (JS z0 (sPA S) (sPE S) (sDE S) S nm) := okJS hz0 hK0 hW0
  obtain ⟨j1, j2, j3⟩ := hJ.1 z h.1
  have w0 : mwd tp i 0 = decide (krs tp i = 0) := rfl
  have w1 : mwd tp i 3 = decide (krs tp i = 1) := rfl
  have w2 : mwd tp i 5 = decide (krs tp i = 2) := rfl
  refine ⟨mO, m_isWord (w := 0) hJ (by omega) (by decide) h ?_⟩
  rw [w0]
  refine ift (fun q => ?_) (fun q => ?_)
  · rw [nI_b0, decide_eq_false_iff_not] at q
    refine m_isWord (w := 3) hJ (by omega) (by decide) h ?_
    rw [w1]
    refine ift (fun q1 => ?_) (fun q1 => ?_)
    · rw [nI_b0, decide_eq_false_iff_not] at q1
      refine m_isWord (w := 5) hJ (by omega) (by decide) h ?_
      rw [w2]
      refine ift (fun q2 => ?_) (fun q2 => ?_)
      · rw [nI_b0, decide_eq_false_iff_not] at q2
        exact m_once hz0 hK0 hW0 hk hn hp hi q q1 q2 h h1 h2
      · rw [nI_b0, Bool.not_eq_false, decide_eq_true_eq] at q2
        have e : spLn tp i S nm = spDeed tp i S nm := by unfold spLn; rw [if_neg q, if_neg q1, if_pos q2]
        rw [e] at h1 h2
        refine ⟨_, mR10 j1, mA135, by rw [mL135]; exact vp_in_nI (n := 62) (by decide) (by decide), fun v13 e13 => ?_⟩
        rw [show (62 : Int32).toNatClampNeg = 62 by decide, h.1.2.1.2.2.1, show (88 : Int32) = nI 88 by decide, nI_add] at e13
        subst e13
        exact m_rDeed hz0 hK0 hW0 hk hn hp hi h h1 h2
    · rw [nI_b0, Bool.not_eq_false, decide_eq_true_eq] at q1
      have e : spLn tp i S nm = spPerson tp i S nm := by unfold spLn; rw [if_neg q, if_pos q1]
      rw [e] at h1 h2
      refine ⟨_, mR10 j1, mA135, by rw [mL135]; exact vp_in_nI (n := 61) (by decide) (by decide), fun v13 e13 => ?_⟩
      rw [show (61 : Int32).toNatClampNeg = 61 by decide, h.1.2.1.2.1, show (83 : Int32) = nI 83 by decide, nI_add] at e13
      subst e13
      exact m_rPerson hz0 hK0 hW0 hk hn hp hi h h1 h2
  · rw [nI_b0, Bool.not_eq_false, decide_eq_true_eq] at q
    have e : spLn tp i S nm = spPane tp i S nm := by unfold spLn; rw [if_pos q]
    rw [e] at h1 h2
    exact m_pane hz0 hK0 hW0 hk hn hp hi h h1 h2
end RM
