/-! ===== the model reads a street: a pane, a person, a deed ===== -/
theorem cB_setB {s : Nat → Bool} {k : Nat} (h : s k = false) : ∀ m, cB m (setB s k) = cB m s + (if k < m then 1 else 0)
  | 0 => by simp [cB]
  | m + 1 => by
    have ih := cB_setB h m
    simp only [cB]
    rw [ih]
    by_cases e : m = k
    · have e1 : setB s k m = true := by unfold setB; rw [decide_eq_true e]; simp
      have e2 : s m = false := by rw [e]; exact h
      rw [e1, e2, if_neg (by omega), if_pos (by omega)]
      simp
    · have e1 : setB s k m = s m := by unfold setB; rw [decide_eq_false e]; simp
      rw [e1]
      by_cases q : k < m
      · rw [if_pos q, if_pos (by omega)]; omega
      · rw [if_neg q, if_neg (by omega)]; omega
theorem bs_ne {s : Nat → Bool} {n k : Nat} (hk : k < n) (h : s k = true) : bs n s ≠ 0 := by
  intro e
  have := bs_tb s n k
  rw [e, Nat.zero_testBit, h, decide_eq_true hk] at this
  exact absurd this (by decide)
section RM
variable {z z0 : gS} {tp : List Nat} {n i f : Nat} {S : sS} {nm : sNm} {J : gS → Prop} {P : Int32 → gS → Prop} {R : gS → Prop}
theorem m_viewF {N : Nat} {a b c d : Int32} (h : TF J z i f) (hP : R z) : wX12_readPane_L46 148 gSH R (N + 1) 129 a b c d z := by
  refine ⟨mO, ?_⟩
  rw [if_neg h.n0]
  refine ⟨mO, ?_⟩
  rw [if_neg h.n0]
  exact hP
theorem m_view {x kd kp : Int32} (hJ : okJ tp n J) (hl : tp.length ≤ 1000) (hn : tK tp n) : ∀ f z i s, cB 10 s + f = 11 → TS J z i → i ≤ n → (bs 10 s = 0 → kkd tp i = 3) → ((vLp tp f i s).1 ≠ 0 → ∀ z', TF J z' (vLp tp f i s).2.1 (kfl tp (vLp tp f i s).1 (vLp tp f i s).2.1) → R z') → ((vLp tp f i s).1 = 0 → ∀ z', TS J z' (vLp tp f i s).2.1 → wX12_readPane_J125 148 gSH R 129 x kd kp (nI (bs 10 (vLp tp f i s).2.2)) z') → wX12_readPane_L46 148 gSH R (f + 2) 129 x kd kp (nI (bs 10 s)) z := by
  intro f
  induction f with
  | zero =>
    intro z i s hc
    have := cB_le s 10
    omega
  | succ f ih =>
    intro z i s hc h hi h0 h2 h3
    obtain ⟨j1, j2, j3⟩ := hJ.1 z h.1
    have hnn := hn.2.1
    have hb := bs_lt s 10
    simp only [vLp] at h2 h3
    have hJ71 : kkd tp i = 3 → wX12_readPane_J71 148 gSH (wX12_readPane_L46 148 gSH R (f + 2)) R 129 x kd kp (nI (bs 10 s)) z := by
      intro q3
      rw [if_pos q3] at h2 h3
      refine ⟨mO, m_takeNumber (lo := 0) (hi' := 9) hJ hl hn hi (by decide) (by decide) h (fun r1 r2 r3 z30 k30 => ?_) (fun r => absurd q3 r) (fun r1 r2 z30 k30 => ?_)⟩
      · rw [if_pos r3] at h2 h3
        rw [if_pos k30.2.2, bs_bit (by decide) (by omega)]
        cases hs : s (kvl tp i)
        · rw [if_neg (show ¬ nI (false).toNat = 1 by decide)]
          rw [if_neg (by rw [hs]; decide)] at h2 h3
          intro v32 e32
          rw [j_1, bs_setY (by decide) (by omega)] at e32
          subst e32
          have e := cB_setB hs 10
          rw [if_pos (by omega)] at e
          exact ih z30 (i + 1) (setB s (kvl tp i)) (by omega) k30 (hn.nx hi (by omega)) (fun r => absurd r (bs_ne (k := kvl tp i) (by omega) (by unfold setB; simp))) h2 h3
        · rw [if_pos (show nI (true).toNat = 1 from rfl)]
          rw [if_pos hs] at h2
          intro z33 e33
          rw [k30.2.1, nI_pred] at e33
          have k33 := k30.to hJ e33
          exact m_wrong (k := 3) hJ hi hl (by decide) (by decide) k33 (fun z35 k35 v32 e32 => m_viewF k35 (h2 (Nat.succ_ne_zero _) z35 k35))
      · rw [if_neg (show ¬ kvl tp i ≤ 9 by omega)] at h2
        rw [if_neg k30.n0]
        intro v32 e32
        exact m_viewF k30 (h2 (Nat.succ_ne_zero _) z30 k30)
    refine ⟨mO, ?_⟩
    rw [if_pos h.2.2]
    refine ifi (nI_eq (b := 0) (by omega) (by decide)) (fun q => hJ71 (h0 q)) (fun q => ?_)
    rw [h.2.1]
    refine ⟨_, mR4 j1, mA131, by rw [mL131]; exact mI hnn hi, ?_⟩
    rw [nI_clamp (by omega), (j2.2.2.2 i hi).1]
    refine ifi (srt_e (kkd_le tp i)).2.1 (fun q2 => hJ71 q2) (fun q2 => ?_)
    rw [if_neg q2] at h3
    exact h3 rfl z h
theorem m_view0 {x kd kp : Int32} (hJ : okJ tp n J) (hl : tp.length ≤ 1000) (hn : tK tp n) (h : TS J z i) (hi : i ≤ n) (h1 : kkd tp i ≠ 3 → ∀ z', TF J z' i (kfl tp 1 i) → R z') (h2 : ¬ kkd tp i ≠ 3 → (vLp tp 11 i (fun _ => false)).1 ≠ 0 → ∀ z', TF J z' (vLp tp 11 i (fun _ => false)).2.1 (kfl tp (vLp tp 11 i (fun _ => false)).1 (vLp tp 11 i (fun _ => false)).2.1) → R z') (h3 : ¬ kkd tp i ≠ 3 → (vLp tp 11 i (fun _ => false)).1 = 0 → ∀ z', TS J z' (vLp tp 11 i (fun _ => false)).2.1 → wX12_readPane_J125 148 gSH R 129 x kd kp (nI (bs 10 (vLp tp 11 i (fun _ => false)).2.2)) z') : ∃ N, wX12_readPane_L46 148 gSH R N 129 x kd kp (0 : Int32) z := by
  by_cases c1 : kkd tp i ≠ 3
  · refine ⟨2, mO, ?_⟩
    rw [if_pos h.2.2, if_pos rfl]
    refine ⟨mO, m_takeNumber (lo := 0) (hi' := 9) hJ hl hn hi (by decide) (by decide) h (fun r1 => absurd r1 c1) (fun r z30 k30 => ?_) (fun r1 => absurd r1 c1)⟩
    rw [if_neg k30.n0]
    intro v32 e32
    exact m_viewF k30 (h1 c1 z30 k30)
  · have := m_view (x := x) (kd := kd) (kp := kp) hJ hl hn 11 z i (fun _ => false) (by decide) h hi (fun _ => by omega) (h2 c1) (h3 c1)
    rw [bs_f0] at this
    exact ⟨_, this⟩
theorem m_pane (hz0 : sR z0) (hK0 : mK z0 tp n) (hW0 : mWd z0) (hk : tOK tp) (hn : tK tp n) (hp : pOK S nm) (hi : i < n) (h : TS (JS z0 (sPA S) (sPE S) (sDE S) S nm) z i) (h1 : (spPane tp i S nm).1 = 0 → ∀ z', TS (JS z0 (sPA (spPane tp i S nm).2.2.1) (sPE (spPane tp i S nm).2.2.1) (sDE (spPane tp i S nm).2.2.1) (spPane tp i S nm).2.2.1 (spPane tp i S nm).2.2.2) z' (spPane tp i S nm).2.1 → R z') (h2 : (spPane tp i S nm).1 ≠ 0 → ∀ z', TF (JSF z0) z' (spPane tp i S nm).2.1 (kfl tp (spPane tp i S nm).1 (spPane tp i S nm).2.1) → R z') : wX12_readPane 148 gSH 129 z R := by
  obtain ⟨hok, -, hnm, hlen⟩ := hp
  have hl := hk.1
  have k1 := hok.1
  have k2 := hok.2.1
  have k3 := hok.2.2.1
  have hF := okJSF (tp := tp) (n := n) hz0 hK0 hW0
  obtain ⟨j1, j2, j3⟩ := (okJS hz0 hK0 hW0).1 z h.1
  refine ⟨mO, _, mR10 j1, mA135, by rw [mL135]; exact vp_in_nI (n := 60) (by decide) (by decide), fun v5 e5 => ?_⟩
  rw [show (60 : Int32).toNatClampNeg = 60 by decide, h.1.2.1.1, show (65 : Int32) = nI 65 by decide, j_3, pk_mul, nI_add] at e5
  subst e5
  have t3 : ∀ z' j g a b, TF (JSF z0) z' j g → R z' → ∃ N, wX12_readPane_L46 148 gSH R N 129 (nI (65 + 3 * sPA S)) a b (0 : Int32) z' := fun z' j g a b hh hr => ⟨1, m_viewF hh hr⟩
  have t2 : ∀ z' j g a b, TF (JSF z0) z' j g → (∀ z'', TF (JSF z0) z'' j g → R z'') → wX12_takeWord 148 gSH 129 (2 : Int32) z' (fun z13 => ∃ N, wX12_readPane_L46 148 gSH R N 129 (nI (65 + 3 * sPA S)) a b (0 : Int32) z13) := fun z' j g a b hh hr => m_takeWord_f hF hh (fun z'' h'' => t3 z'' j g a b h'' (hr z'' h''))
  have t1 : ∀ z' j g a, TF (JSF z0) z' j g → (∀ z'', TF (JSF z0) z'' j g → R z'') → wX12_takeAfter 148 gSH 129 (1 : Int32) (1 : Int32) (6 : Int32) z' (fun r10 z11 => wX12_takeWord 148 gSH 129 (2 : Int32) z11 (fun z13 => ∃ N, wX12_readPane_L46 148 gSH R N 129 (nI (65 + 3 * sPA S)) a r10 (0 : Int32) z13)) := fun z' j g a hh hr => m_takeAfter_f hF hh (fun z'' h'' => t2 z'' j g a 0 h'' hr)
  have t0 : ∀ z' j g, TF (JSF z0) z' j g → (∀ z'', TF (JSF z0) z'' j g → R z'') → wX12_takeOne 148 gSH 129 (15 : Int32) (4 : Int32) z' (fun r8 z9 => wX12_takeAfter 148 gSH 129 (1 : Int32) (1 : Int32) (6 : Int32) z9 (fun r10 z11 => wX12_takeWord 148 gSH 129 (2 : Int32) z11 (fun z13 => ∃ N, wX12_readPane_L46 148 gSH R N 129 (nI (65 + 3 * sPA S)) r8 r10 (0 : Int32) z13))) := fun z' j g hh hr => m_takeOne_f hF hh (fun z'' h'' => t1 z'' j g 0 h'' hr)
  unfold spPane at h1 h2
  have hcase : sPA S = 6 ∨ nm.2.2.2.length < 16 := by omega
  rcases hcase with h6 | h16
  · rw [if_pos h6] at h2
    -- the seventh
    refine ⟨mO, _, mR10 j1, mA135, ?_⟩
    rw [show (60 : Int32) + (0 : Int32) = nI 60 by decide, mL135]
    refine ⟨vp_in_nI (by decide) (by decide), fun v5 e5 => ?_⟩
    rw [nI_clamp (by decide), h.1.2.1.1, h6] at e5
    subst e5
    rw [if_pos (by decide)]
    exact m_wrong (k := 5) (okJS hz0 hK0 hW0) (by omega) hl (by decide) (by decide) h (fun z' k' => t0 z' _ _ k'.js (fun z'' h'' => h2 (Nat.succ_ne_zero _) z'' h''))
  refine m_nameP hz0 hK0 hW0 hn hl ⟨k1, k2, k3⟩ hnm h16 hi k1 h (fun q z' k' => ?_) (fun q q2 z' k' => ?_) (fun q q2 q3 z' k' => ?_) (fun q q2 q3 z7 h7 => ?_)
  · rw [if_pos q] at h2
    exact t0 z' _ _ k' (h2 (Nat.succ_ne_zero _))
  · rw [if_neg q, if_pos q2] at h2
    exact t0 z' _ _ k' (h2 (Nat.succ_ne_zero _))
  · rw [if_neg q, if_neg q2, if_pos q3] at h2
    exact t0 z' _ _ k' (h2 (Nat.succ_ne_zero _))
  rw [if_neg q, if_neg q2, if_neg q3] at h1 h2
  have e1 : kkd tp (i + 1) = 2 := knm_k q2
  have l1 := hn.nx (i := i + 1) hi (by omega)
  have hJ7 : okJ tp n (JS z0 (sPA S + 1) (sPE S) (sDE S) S (nmP nm (sPA S) (kvl tp (i + 1)))) := okJS hz0 hK0 hW0
  refine m_takeOne (F := 15) (m := 4) (lo := 15) hJ7 hl l1 (by decide) wh_15 h7 (fun q4 z9 h9 => ?_) (fun q4 z9 h9 => ?_)
  · have q4 : 15 ≤ krs tp (i + 2) ∧ krs tp (i + 2) < 15 + 4 := q4
    rw [if_neg (show ¬ ¬ (15 ≤ krs tp (i + 2) ∧ krs tp (i + 2) ≤ 18) by omega)] at h1 h2
    have e2 : kkd tp (i + 2) = 2 := krs_k rfl (by omega)
    have l2 := hn.nx (i := i + 2) l1 (by omega)
    refine m_takeAfter (w := 1) (lo := 1) (hi' := 6) hJ7 hl hn l2 (by decide) (by decide) (by decide) h9 (fun q5 z' k' => ?_) (fun q5 q6 q7 q8 z11 h11 => ?_) (fun q5 q6 z' k' => ?_) (fun q5 q6 q7 z' k' => ?_)
    · rw [if_pos (show krs tp (i + 3) ≠ 11 from q5)] at h2
      exact t2 z' _ _ _ _ k'.js (h2 (Nat.succ_ne_zero _))
    · have q5 : krs tp (i + 3) = 11 := q5
      have q6 : kkd tp (i + 4) = 3 := q6
      have q7 : 1 ≤ kvl tp (i + 4) := q7
      have q8 : kvl tp (i + 4) ≤ 6 := q8
      rw [if_neg (show ¬ krs tp (i + 3) ≠ 11 by omega), if_neg (show ¬ kkd tp (i + 4) ≠ 3 by omega), if_neg (show ¬ ¬ (1 ≤ kvl tp (i + 4) ∧ kvl tp (i + 4) ≤ 6) by omega)] at h1 h2
      have e3 : kkd tp (i + 3) = 2 := krs_k q5 (by decide)
      have l3 := hn.nx (i := i + 3) l2 (by omega)
      have l4 := hn.nx (i := i + 4) l3 (by omega)
      refine m_takeWord (w := 2) hJ7 hl (i := i + 5) l4 (by decide) h11 (fun q9 z13 h13 => ?_) (fun q9 z13 h13 => ?_)
      · have q9 : krs tp (i + 5) = 12 := by
          have : mwd tp (i + 5) 2 = decide (krs tp (i + 5) = 12) := rfl
          rw [this, decide_eq_true_eq] at q9
          exact q9
        rw [if_neg (show ¬ krs tp (i + 5) ≠ 12 by omega)] at h1 h2
        have e5 : kkd tp (i + 5) = 2 := krs_k q9 (by decide)
        have l5 := hn.nx (i := i + 5) l4 (by omega)
        refine m_view0 hJ7 hl hn (i := i + 6) h13 l5 (fun r9 z' k' => ?_) (fun r9 r10 z' k' => ?_) (fun r9 r10 z' k' => ?_)
        · rw [if_pos r9] at h2
          exact h2 (Nat.succ_ne_zero _) z' k'.js
        · rw [if_neg r9, if_neg r10] at h2
          exact h2 r10 z' k'.js
        · rw [if_neg r9, if_pos r10] at h1
          obtain ⟨m1, m2, m3⟩ := hJ7.1 z' k'.1
          refine ⟨mO, ?_⟩
          rw [if_pos k'.2.2]
          refine ⟨_, mR10 m1, mA135, by rw [mL135]; exact vp_in_nI (by omega) (by decide), fun z19 e19 => ?_⟩
          refine ⟨_, mR10 (by rw [e19]; exact m1.to (fun _ _ => rfl)), mA135, ?_⟩
          rw [nI_1, mL135]
          refine ⟨vp_in_nI (by omega) (by decide), fun z23 e23 => ?_⟩
          refine ⟨_, mR10 (by rw [e23, e19]; exact m1.to (fun _ _ => rfl)), mA135, ?_⟩
          rw [j_2, nI_add, mL135]
          refine ⟨vp_in_nI (by omega) (by decide), fun z27 e27 => h1 rfl z27 ?_⟩
          rw [nI_clamp (by omega)] at e19 e23 e27
          have eg : ∀ a k, ¬ (a = 135 ∧ (k = 65 + 3 * sPA S ∨ k = 65 + 3 * sPA S + 1 ∨ k = 65 + 3 * sPA S + 2)) → gi z27 a k = gi z' a k := fun a k q => by
            rw [e27, gi_si, if_neg (by omega), e23, gi_si, if_neg (by omega), e19, gi_si, if_neg (by omega)]
          obtain ⟨b1, b2, b3, b4, b5, b6, b7, b8, b9, b10, b11⟩ := k'.1.2.1
          refine ⟨⟨?_, ⟨?_, ?_, ?_, ?_, fun p hp => ?_, fun p hp => ?_, fun p hp => ?_, fun p hp => ?_, fun p hp => ?_, fun p hp => ?_, fun q => ?_⟩, ?_, ?_, ?_⟩, ?_, ?_⟩
          · rw [e27, e23, e19]
            exact ((k'.1.1.si (Or.inr (Or.inl ⟨rfl, by omega⟩))).si (Or.inr (Or.inl ⟨rfl, by omega⟩))).si (Or.inr (Or.inl ⟨rfl, by omega⟩))
          · rw [eg _ _ (by omega)]; exact b1
          · rw [eg _ _ (by omega)]; exact b2
          · rw [eg _ _ (by omega)]; exact b3
          · rw [eg _ _ (by omega)]; exact b4
          · have hp : p < sPA S + 1 := hp
            show gi z27 135 (65 + 3 * p) = nI (upF (sKD S) (sPA S) (krs tp (i + 2) - 15) p)
            by_cases e : p = sPA S
            · rw [e, upF_at, e27, gi_si, if_neg (by omega), e23, gi_si, if_neg (by omega), e19, gi_si, if_pos ⟨rfl, rfl⟩]
            · rw [upF_ne e, eg _ _ (by omega)]; exact b5 p (by omega)
          · have hp : p < sPA S + 1 := hp
            show gi z27 135 (66 + 3 * p) = nI (upF (sKP S) (sPA S) (kvl tp (i + 4)) p)
            by_cases e : p = sPA S
            · rw [e, upF_at, e27, gi_si, if_neg (by omega), e23, gi_si, if_pos ⟨rfl, by omega⟩]
            · rw [upF_ne e, eg _ _ (by omega)]; exact b6 p (by omega)
          · have hp : p < sPA S + 1 := hp
            by_cases e : p = sPA S
            · have es : sSE (addP S (krs tp (i + 2) - 15) (kvl tp (i + 4)) (vLp tp 11 (i + 6) (fun _ => false)).2.2) p = (vLp tp 11 (i + 6) (fun _ => false)).2.2 := by
                funext c
                exact if_pos e
              rw [es, e, e27, gi_si, if_pos ⟨rfl, by omega⟩]
            · have es : sSE (addP S (krs tp (i + 2) - 15) (kvl tp (i + 4)) (vLp tp 11 (i + 6) (fun _ => false)).2.2) p = sSE S p := by
                funext c
                exact if_neg e
              rw [es, eg _ _ (by omega)]; exact b7 p (by omega)
          · rw [eg _ _ (by omega)]; exact b8 p hp
          · rw [eg _ _ (by omega)]; exact b9 p hp
          · rw [eg _ _ (by omega)]; exact b10 p hp
          · rw [eg _ _ (by omega)]; exact b11 q
          · exact k'.1.2.2.1.fr (fun a k q => eg a k (by omega))
          · rw [eg _ _ (by omega)]; exact k'.1.2.2.2.1
          · exact k'.1.2.2.2.2.fr (eg _ _ (by omega)) (fun k => by rw [e27, e23, e19]; rfl) (fun k => eg _ _ (by omega))
          · rw [eg _ _ (by omega)]; exact k'.2.1
          · rw [eg _ _ (by omega)]; exact k'.2.2
      · have q9 : krs tp (i + 5) ≠ 12 := by
          have : mwd tp (i + 5) 2 = decide (krs tp (i + 5) = 12) := rfl
          rw [this, decide_eq_false_iff_not] at q9
          exact q9
        rw [if_pos q9] at h2
        exact t3 z13 _ _ _ _ h13.js (h2 (Nat.succ_ne_zero _) z13 h13.js)
    · rw [if_neg (show ¬ krs tp (i + 3) ≠ 11 from fun x => x q5), if_pos (show kkd tp (i + 4) ≠ 3 from q6)] at h2
      exact t2 z' _ _ _ _ k'.js (h2 (Nat.succ_ne_zero _))
    · rw [if_neg (show ¬ krs tp (i + 3) ≠ 11 from fun x => x q5), if_neg (show ¬ kkd tp (i + 4) ≠ 3 from fun x => x q6), if_pos (show ¬ (1 ≤ kvl tp (i + 4) ∧ kvl tp (i + 4) ≤ 6) from q7)] at h2
      exact t2 z' _ _ _ _ k'.js (h2 (Nat.succ_ne_zero _))
  · have q4 : ¬ (15 ≤ krs tp (i + 2) ∧ krs tp (i + 2) < 15 + 4) := q4
    rw [if_pos (show ¬ (15 ≤ krs tp (i + 2) ∧ krs tp (i + 2) ≤ 18) by omega)] at h2
    exact t1 z9 _ _ _ h9.js (h2 (Nat.succ_ne_zero _))
theorem m_rPerson (hz0 : sR z0) (hK0 : mK z0 tp n) (hW0 : mWd z0) (hk : tOK tp) (hn : tK tp n) (hp : pOK S nm) (hi : i < n) (h : TS (JS z0 (sPA S) (sPE S) (sDE S) S nm) z i) (h1 : (spPerson tp i S nm).1 = 0 → ∀ z', TS (JS z0 (sPA (spPerson tp i S nm).2.2.1) (sPE (spPerson tp i S nm).2.2.1) (sDE (spPerson tp i S nm).2.2.1) (spPerson tp i S nm).2.2.1 (spPerson tp i S nm).2.2.2) z' (spPerson tp i S nm).2.1 → R z') (h2 : (spPerson tp i S nm).1 ≠ 0 → ∀ z', TF (JSF z0) z' (spPerson tp i S nm).2.1 (kfl tp (spPerson tp i S nm).1 (spPerson tp i S nm).2.1) → R z') : wX12_readName 148 gSH 129 (nI 1) (nI 5) (nI 20) z (fun (z29 : gS) => wX12_takeAfter 148 gSH 129 (nI 4) (nI 0) (nI 9) z29 (fun (r30 : Int32) (z31 : gS) => if (gi z31 129 8) = 0 then (∃ t32 : Nat, gr z31 129 10 = some t32 ∧ ((oA 148 gSH t32 1) ∧ ((vp_in (nI (83 + sPE S)) (gSH t32).2) ∧ (∀ z35 : gS, z35 = si z31 t32 (nI (83 + sPE S)).toNatClampNeg r30 → wX12_readLine_J65 148 gSH R  z35)))) else wX12_readLine_J65 148 gSH R  z31)) := by
  obtain ⟨hok, -, hnm, hlen⟩ := hp
  have hl := hk.1
  have k1 := hok.1
  have k2 := hok.2.1
  have k3 := hok.2.2.1
  have hF := okJSF (tp := tp) (n := n) hz0 hK0 hW0
  obtain ⟨j1, j2, j3⟩ := (okJS hz0 hK0 hW0).1 z h.1
  have t1 : ∀ z' j g, TF (JSF z0) z' j g → (∀ z'', TF (JSF z0) z'' j g → R z'') → wX12_takeAfter 148 gSH 129 (nI 4) (nI 0) (nI 9) z' (fun (r30 : Int32) (z31 : gS) => if (gi z31 129 8) = 0 then (∃ t32 : Nat, gr z31 129 10 = some t32 ∧ ((oA 148 gSH t32 1) ∧ ((vp_in (nI (83 + sPE S)) (gSH t32).2) ∧ (∀ z35 : gS, z35 = si z31 t32 (nI (83 + sPE S)).toNatClampNeg r30 → wX12_readLine_J65 148 gSH R  z35)))) else wX12_readLine_J65 148 gSH R  z31) := fun z' j g hh hr => m_takeAfter_f hF hh (fun z'' h'' => by
    rw [if_neg h''.n0]
    exact hr z'' h'')
  unfold spPerson at h1 h2
  have hcase : sPE S = 5 ∨ nm.2.2.2.length < 16 := by omega
  rcases hcase with h6 | h16
  · rw [if_pos h6] at h2
    refine ⟨mO, _, mR10 j1, mA135, ?_⟩
    rw [show (60 : Int32) + nI 1 = nI 61 by decide, mL135]
    refine ⟨vp_in_nI (by decide) (by decide), fun v5 e5 => ?_⟩
    rw [nI_clamp (by decide), h.1.2.1.2.1, h6] at e5
    subst e5
    rw [if_pos rfl]
    exact m_wrong (k := 5) (okJS hz0 hK0 hW0) (by omega) hl (by decide) (by decide) h (fun z' k' => t1 z' _ _ k'.js (fun z'' h'' => h2 (Nat.succ_ne_zero _) z'' h''))
  refine m_nameE hz0 hK0 hW0 hn hl ⟨k1, k2, k3⟩ hnm h16 hi (by omega) h (fun q z' k' => ?_) (fun q q2 z' k' => ?_) (fun q q2 q3 z' k' => ?_) (fun q q2 q3 z7 h7 => ?_)
  · rw [if_pos q] at h2
    exact t1 z' _ _ k' (h2 (Nat.succ_ne_zero _))
  · rw [if_neg q, if_pos q2] at h2
    exact t1 z' _ _ k' (h2 (Nat.succ_ne_zero _))
  · rw [if_neg q, if_neg q2, if_pos q3] at h2
    exact t1 z' _ _ k' (h2 (Nat.succ_ne_zero _))
  rw [if_neg q, if_neg q2, if_neg q3] at h1 h2
  have e1 : kkd tp (i + 1) = 2 := knm_k q2
  have l1 := hn.nx (i := i + 1) hi (by omega)
  have hJ7 : okJ tp n (JS z0 (sPA S) (sPE S + 1) (sDE S) S (nmE nm (sPE S) (kvl tp (i + 1)))) := okJS hz0 hK0 hW0
  refine m_takeAfter (w := 4) (lo := 0) (hi' := 9) hJ7 hl hn l1 (by decide) (by decide) (by decide) h7 (fun q5 z' k' => ?_) (fun q5 q6 q7 q8 z' k' => ?_) (fun q5 q6 z' k' => ?_) (fun q5 q6 q7 z' k' => ?_)
  · rw [if_pos (show krs tp (i + 2) ≠ 13 from q5)] at h2
    rw [if_neg k'.n0]
    exact h2 (Nat.succ_ne_zero _) z' k'.js
  · have q5 : krs tp (i + 2) = 13 := q5
    have q6 : kkd tp (i + 3) = 3 := q6
    have q8 : kvl tp (i + 3) ≤ 9 := q8
    rw [if_neg (show ¬ krs tp (i + 2) ≠ 13 by omega), if_neg (show ¬ kkd tp (i + 3) ≠ 3 by omega), if_neg (show ¬ ¬ kvl tp (i + 3) ≤ 9 by omega)] at h1
    obtain ⟨m1, m2, m3⟩ := hJ7.1 z' k'.1
    rw [if_pos k'.2.2]
    refine ⟨_, mR10 m1, mA135, by rw [mL135]; exact vp_in_nI (by omega) (by decide), fun z35 e35 => h1 rfl z35 ?_⟩
    rw [nI_clamp (by omega)] at e35
    have eg : ∀ a k, ¬ (a = 135 ∧ k = 83 + sPE S) → gi z35 a k = gi z' a k := fun a k q => by rw [e35, gi_si, if_neg q]
    obtain ⟨b1, b2, b3, b4, b5, b6, b7, b8, b9, b10, b11⟩ := k'.1.2.1
    refine ⟨⟨?_, ⟨?_, ?_, ?_, ?_, fun p hp => ?_, fun p hp => ?_, fun p hp => ?_, fun p hp => ?_, fun p hp => ?_, fun p hp => ?_, fun q => ?_⟩, ?_, ?_, ?_⟩, ?_, ?_⟩
    · rw [e35]
      exact k'.1.1.si (Or.inr (Or.inl ⟨rfl, by omega⟩))
    · rw [eg _ _ (by omega)]; exact b1
    · rw [eg _ _ (by omega)]; exact b2
    · rw [eg _ _ (by omega)]; exact b3
    · rw [eg _ _ (by omega)]; exact b4
    · have hp : p < sPA S := hp
      rw [eg _ _ (by omega)]; exact b5 p hp
    · have hp : p < sPA S := hp
      rw [eg _ _ (by omega)]; exact b6 p hp
    · have hp : p < sPA S := hp
      rw [eg _ _ (by omega)]; exact b7 p hp
    · have hp : p < sPE S + 1 := hp
      show gi z35 135 (83 + p) = nI (upF (sHO S) (sPE S) (kvl tp (i + 3)) p)
      by_cases e : p = sPE S
      · rw [e, upF_at, e35, gi_si, if_pos ⟨rfl, rfl⟩]
      · rw [upF_ne e, eg _ _ (by omega)]; exact b8 p (by omega)
    · rw [eg _ _ (by omega)]; exact b9 p hp
    · rw [eg _ _ (by omega)]; exact b10 p hp
    · rw [eg _ _ (by omega)]; exact b11 q
    · exact k'.1.2.2.1.fr (fun a k q => eg a k (by omega))
    · rw [eg _ _ (by omega)]; exact k'.1.2.2.2.1
    · exact k'.1.2.2.2.2.fr (eg _ _ (by omega)) (fun k => by rw [e35]; rfl) (fun k => eg _ _ (by omega))
    · rw [eg _ _ (by omega)]; exact k'.2.1
    · rw [eg _ _ (by omega)]; exact k'.2.2
  · rw [if_neg (show ¬ krs tp (i + 2) ≠ 13 from fun x => x q5), if_pos (show kkd tp (i + 3) ≠ 3 from q6)] at h2
    rw [if_neg k'.n0]
    exact h2 (Nat.succ_ne_zero _) z' k'.js
  · have q7 : ¬ (0 ≤ kvl tp (i + 3) ∧ kvl tp (i + 3) ≤ 9) := q7
    rw [if_neg (show ¬ krs tp (i + 2) ≠ 13 from fun x => x q5), if_neg (show ¬ kkd tp (i + 3) ≠ 3 from fun x => x q6), if_pos (show ¬ kvl tp (i + 3) ≤ 9 by omega)] at h2
    rw [if_neg k'.n0]
    exact h2 (Nat.succ_ne_zero _) z' k'.js
theorem m_rDeed (hz0 : sR z0) (hK0 : mK z0 tp n) (hW0 : mWd z0) (hk : tOK tp) (hn : tK tp n) (hp : pOK S nm) (hi : i < n) (h : TS (JS z0 (sPA S) (sPE S) (sDE S) S nm) z i) (h1 : (spDeed tp i S nm).1 = 0 → ∀ z', TS (JS z0 (sPA (spDeed tp i S nm).2.2.1) (sPE (spDeed tp i S nm).2.2.1) (sDE (spDeed tp i S nm).2.2.1) (spDeed tp i S nm).2.2.1 (spDeed tp i S nm).2.2.2) z' (spDeed tp i S nm).2.1 → R z') (h2 : (spDeed tp i S nm).1 ≠ 0 → ∀ z', TF (JSF z0) z' (spDeed tp i S nm).2.1 (kfl tp (spDeed tp i S nm).1 (spDeed tp i S nm).2.1) → R z') : wX12_readName 148 gSH 129 (nI 2) (nI 5) (nI 40) z (fun (z29 : gS) => wX12_takeAfter 148 gSH 129 (nI 6) (nI 0) (nI 99) z29 (fun (r30 : Int32) (z31 : gS) => if (gi z31 129 8) = 0 then (∃ t32 : Nat, gr z31 129 10 = some t32 ∧ ((oA 148 gSH t32 1) ∧ ((vp_in (nI (88 + sDE S)) (gSH t32).2) ∧ (∀ z35 : gS, z35 = si z31 t32 (nI (88 + sDE S)).toNatClampNeg r30 → wX12_readLine_J119 148 gSH R  z35)))) else wX12_readLine_J119 148 gSH R  z31)) := by
  obtain ⟨hok, -, hnm, hlen⟩ := hp
  have hl := hk.1
  have k1 := hok.1
  have k2 := hok.2.1
  have k3 := hok.2.2.1
  have hF := okJSF (tp := tp) (n := n) hz0 hK0 hW0
  obtain ⟨j1, j2, j3⟩ := (okJS hz0 hK0 hW0).1 z h.1
  have t1 : ∀ z' j g, TF (JSF z0) z' j g → (∀ z'', TF (JSF z0) z'' j g → R z'') → wX12_takeAfter 148 gSH 129 (nI 6) (nI 0) (nI 99) z' (fun (r30 : Int32) (z31 : gS) => if (gi z31 129 8) = 0 then (∃ t32 : Nat, gr z31 129 10 = some t32 ∧ ((oA 148 gSH t32 1) ∧ ((vp_in (nI (88 + sDE S)) (gSH t32).2) ∧ (∀ z35 : gS, z35 = si z31 t32 (nI (88 + sDE S)).toNatClampNeg r30 → wX12_readLine_J119 148 gSH R  z35)))) else wX12_readLine_J119 148 gSH R  z31) := fun z' j g hh hr => m_takeAfter_f hF hh (fun z'' h'' => by
    rw [if_neg h''.n0]
    exact hr z'' h'')
  unfold spDeed at h1 h2
  have hcase : sDE S = 5 ∨ nm.2.2.2.length < 16 := by omega
  rcases hcase with h6 | h16
  · rw [if_pos h6] at h2
    refine ⟨mO, _, mR10 j1, mA135, ?_⟩
    rw [show (60 : Int32) + nI 2 = nI 62 by decide, mL135]
    refine ⟨vp_in_nI (by decide) (by decide), fun v5 e5 => ?_⟩
    rw [nI_clamp (by decide), h.1.2.1.2.2.1, h6] at e5
    subst e5
    rw [if_pos rfl]
    exact m_wrong (k := 5) (okJS hz0 hK0 hW0) (by omega) hl (by decide) (by decide) h (fun z' k' => t1 z' _ _ k'.js (fun z'' h'' => h2 (Nat.succ_ne_zero _) z'' h''))
  refine m_nameD hz0 hK0 hW0 hn hl ⟨k1, k2, k3⟩ hnm h16 hi (by omega) h (fun q z' k' => ?_) (fun q q2 z' k' => ?_) (fun q q2 q3 z' k' => ?_) (fun q q2 q3 z7 h7 => ?_)
  · rw [if_pos q] at h2
    exact t1 z' _ _ k' (h2 (Nat.succ_ne_zero _))
  · rw [if_neg q, if_pos q2] at h2
    exact t1 z' _ _ k' (h2 (Nat.succ_ne_zero _))
  · rw [if_neg q, if_neg q2, if_pos q3] at h2
    exact t1 z' _ _ k' (h2 (Nat.succ_ne_zero _))
  rw [if_neg q, if_neg q2, if_neg q3] at h1 h2
  have e1 : kkd tp (i + 1) = 2 := knm_k q2
  have l1 := hn.nx (i := i + 1) hi (by omega)
  have hJ7 : okJ tp n (JS z0 (sPA S) (sPE S) (sDE S + 1) S (nmD nm (sDE S) (kvl tp (i + 1)))) := okJS hz0 hK0 hW0
  refine m_takeAfter (w := 6) (lo := 0) (hi' := 99) hJ7 hl hn l1 (by decide) (by decide) (by decide) h7 (fun q5 z' k' => ?_) (fun q5 q6 q7 q8 z' k' => ?_) (fun q5 q6 z' k' => ?_) (fun q5 q6 q7 z' k' => ?_)
  · rw [if_pos (show krs tp (i + 2) ≠ 14 from q5)] at h2
    rw [if_neg k'.n0]
    exact h2 (Nat.succ_ne_zero _) z' k'.js
  · have q5 : krs tp (i + 2) = 14 := q5
    have q6 : kkd tp (i + 3) = 3 := q6
    have q8 : kvl tp (i + 3) ≤ 99 := q8
    rw [if_neg (show ¬ krs tp (i + 2) ≠ 14 by omega), if_neg (show ¬ kkd tp (i + 3) ≠ 3 by omega), if_neg (show ¬ ¬ kvl tp (i + 3) ≤ 99 by omega)] at h1
    obtain ⟨m1, m2, m3⟩ := hJ7.1 z' k'.1
    rw [if_pos k'.2.2]
    refine ⟨_, mR10 m1, mA135, by rw [mL135]; exact vp_in_nI (by omega) (by decide), fun z35 e35 => h1 rfl z35 ?_⟩
    rw [nI_clamp (by omega)] at e35
    have eg : ∀ a k, ¬ (a = 135 ∧ k = 88 + sDE S) → gi z35 a k = gi z' a k := fun a k q => by rw [e35, gi_si, if_neg q]
    obtain ⟨b1, b2, b3, b4, b5, b6, b7, b8, b9, b10, b11⟩ := k'.1.2.1
    refine ⟨⟨?_, ⟨?_, ?_, ?_, ?_, fun p hp => ?_, fun p hp => ?_, fun p hp => ?_, fun p hp => ?_, fun p hp => ?_, fun p hp => ?_, fun q => ?_⟩, ?_, ?_, ?_⟩, ?_, ?_⟩
    · rw [e35]
      exact k'.1.1.si (Or.inr (Or.inl ⟨rfl, by omega⟩))
    · rw [eg _ _ (by omega)]; exact b1
    · rw [eg _ _ (by omega)]; exact b2
    · rw [eg _ _ (by omega)]; exact b3
    · rw [eg _ _ (by omega)]; exact b4
    · have hp : p < sPA S := hp
      rw [eg _ _ (by omega)]; exact b5 p hp
    · have hp : p < sPA S := hp
      rw [eg _ _ (by omega)]; exact b6 p hp
    · have hp : p < sPA S := hp
      rw [eg _ _ (by omega)]; exact b7 p hp
    · have hp : p < sPE S := hp
      rw [eg _ _ (by omega)]; exact b8 p hp
    · have hp : p < sDE S + 1 := hp
      show gi z35 135 (88 + p) = nI (upF (sHA S) (sDE S) (kvl tp (i + 3)) p)
      by_cases e : p = sDE S
      · rw [e, upF_at, e35, gi_si, if_pos ⟨rfl, rfl⟩]
      · rw [upF_ne e, eg _ _ (by omega)]; exact b9 p (by omega)
    · rw [eg _ _ (by omega)]; exact b10 p hp
    · rw [eg _ _ (by omega)]; exact b11 q
    · exact k'.1.2.2.1.fr (fun a k q => eg a k (by omega))
    · rw [eg _ _ (by omega)]; exact k'.1.2.2.2.1
    · exact k'.1.2.2.2.2.fr (eg _ _ (by omega)) (fun k => by rw [e35]; rfl) (fun k => eg _ _ (by omega))
    · rw [eg _ _ (by omega)]; exact k'.2.1
    · rw [eg _ _ (by omega)]; exact k'.2.2
  · rw [if_neg (show ¬ krs tp (i + 2) ≠ 14 from fun x => x q5), if_pos (show kkd tp (i + 3) ≠ 3 from q6)] at h2
    rw [if_neg k'.n0]
    exact h2 (Nat.succ_ne_zero _) z' k'.js
  · have q7 : ¬ (0 ≤ kvl tp (i + 3) ∧ kvl tp (i + 3) ≤ 99) := q7
    rw [if_neg (show ¬ krs tp (i + 2) ≠ 14 from fun x => x q5), if_neg (show ¬ kkd tp (i + 3) ≠ 3 from fun x => x q6), if_pos (show ¬ kvl tp (i + 3) ≤ 99 by omega)] at h2
    rw [if_neg k'.n0]
    exact h2 (Nat.succ_ne_zero _) z' k'.js
end RM
