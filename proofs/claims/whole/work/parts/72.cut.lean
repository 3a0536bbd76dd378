/-! ===== the model's tokens ===== -/
def srt (k : Nat) : Nat := if k = 0 then 0 else if k = 1 then 4 else if k = 2 then 1 else if k = 3 then 2 else 3
def mRow (z : gS) (tp : List Nat) (i : Nat) : Prop := gi z 131 i = nI (srt (kkd tp i)) ∧ gi z 132 i = nI (kpl tp i) ∧ (kkd tp i = 2 → gl z 133 i = lN (cv (kvl tp i))) ∧ ((kkd tp i = 3 ∨ kkd tp i = 4) → gl z 133 i = lN (kvl tp i))
def mK (z : gS) (tp : List Nat) (n : Nat) : Prop := kkd tp n = 0 ∧ n ≤ 1000 ∧ (∀ i, i < n → kkd tp i ≠ 0) ∧ ∀ i, i ≤ n → mRow z tp i
def aCT : Nat → Nat → Prop := fun a k => (a = 129 ∧ (k = 2 ∨ k = 3 ∨ k = 7 ∨ k = 8)) ∨ a = 131 ∨ a = 132
def bCT : Nat → Prop := fun a => a = 133
theorem mRow.fr {z z' : gS} {tp : List Nat} {i : Nat} (h : mRow z tp i) (h1 : ∀ a, a = 131 ∨ a = 132 → gi z' a i = gi z a i) (h2 : gl z' 133 i = gl z 133 i) : mRow z' tp i := ⟨(h1 _ (Or.inl rfl)).trans h.1, (h1 _ (Or.inr rfl)).trans h.2.1, fun q => h2.trans (h.2.2.1 q), fun q => h2.trans (h.2.2.2 q)⟩
theorem mK.fr {z z' : gS} {tp : List Nat} {n : Nat} (h : mK z tp n) (h1 : ∀ a k, a = 131 ∨ a = 132 → gi z' a k = gi z a k) (h2 : ∀ k, gl z' 133 k = gl z 133 k) : mK z' tp n := ⟨h.1, h.2.1, h.2.2.1, fun i hi => (h.2.2.2 i hi).fr (fun a q => h1 a i q) (h2 i)⟩
section RC
variable {z : gS} {tp : List Nat} {P : Int32 → gS → Prop} {R : gS → Prop}
theorem m_isLetter {c : Nat} (hc : c < 127) (h : P (nI (klt c).toNat) z) : wX12_isLetter 148 gSH (nI c) z P := by
  unfold wX12_isLetter
  simp (disch := omega) only [j_97, j_122, nI_ltI]
  cases hl : klt c
  · rw [hl] at h
    rcases klt_n.mp hl with q | q
    · rw [if_pos q]; exact h
    · rw [if_neg (by omega), if_pos q]; exact h
  · rw [hl] at h
    have := klt_i.mp hl
    rw [if_neg (by omega), if_neg (by omega)]; exact h
theorem m_isDigit {c : Nat} (hc : c < 127) (h : P (nI (kdg c).toNat) z) : wX12_isDigit 148 gSH (nI c) z P := by
  unfold wX12_isDigit
  rw [j_48, show (57 : Int32) = nI 57 by decide]
  simp (disch := omega) only [nI_ltI]
  cases hl : kdg c
  · rw [hl] at h
    rcases kdg_n.mp hl with q | q
    · rw [if_pos q]; exact h
    · rw [if_neg (by omega), if_pos q]; exact h
  · rw [hl] at h
    have := kdg_i.mp hl
    rw [if_neg (by omega), if_neg (by omega)]; exact h
theorem m_isSignOf {c : Nat} (hc : c < 127) (h : P (nI (ksg c).toNat) z) : wX12_isSignOf 148 gSH (nI c) z P := by
  unfold wX12_isSignOf wX12_isSignOf_J48
  have e : ∀ k : Nat, k < 127 → ((nI c = nI k) ↔ c = k) := fun k hk => nI_eq (by omega) (by omega)
  rw [j_40, show (41 : Int32) = nI 41 by decide, show (59 : Int32) = nI 59 by decide, show (61 : Int32) = nI 61 by decide, j_60, show (43 : Int32) = nI 43 by decide, show (45 : Int32) = nI 45 by decide, show (42 : Int32) = nI 42 by decide]
  simp only [e 40 (by decide), e 41 (by decide), e 59 (by decide), e 61 (by decide), e 60 (by decide), e 43 (by decide), e 45 (by decide), e 42 (by decide)]
  cases hs : ksg c
  · rw [hs] at h
    have hn : ¬ c ∈ kSGl := by
      intro q
      unfold ksg at hs
      rw [decide_eq_false_iff_not] at hs
      exact hs q
    simp only [kSGl, List.mem_cons, List.not_mem_nil, or_false, not_or] at hn
    rw [if_neg hn.1, if_neg hn.2.1, if_neg hn.2.2.2.2.2.2.2, if_neg hn.2.2.2.1, if_neg hn.2.2.1, if_neg hn.2.2.2.2.1, if_neg hn.2.2.2.2.2.1, if_neg hn.2.2.2.2.2.2.1]
    exact h
  · rw [hs] at h
    have hn : c ∈ kSGl := by
      unfold ksg at hs
      rw [decide_eq_true_eq] at hs
      exact hs
    simp only [kSGl, List.mem_cons, List.not_mem_nil, or_false] at hn
    have h : P 1 z := h
    refine ift (fun _ => h) (fun q1 => ift (fun _ => h) (fun q2 => ift (fun _ => h) (fun q3 => ift (fun _ => h) (fun q4 => ift (fun _ => h) (fun q5 => ift (fun _ => h) (fun q6 => ift (fun _ => h) (fun q7 => ift (fun _ => h) (fun q8 => ?_))))))))
    omega
def iCT (z z1 : gS) (tp : List Nat) (n k : Nat) : Prop := kpos tp n ≤ k ∧ k + krn kbl tp k = kpl tp n ∧ (∀ i, i < n → kkd tp i ≠ 0) ∧ (∀ i, i < n → mRow z1 tp i) ∧ Fg aCT bCT z z1 ∧ gi z1 129 3 = nI tp.length ∧ gi z1 129 2 = 0
set_option maxHeartbeats 2000000 in
theorem m_cutAll (hz : sR z) (hT : mT z tp) (hk : tOK tp) (hP : ∀ z' n, mK z' tp n → gi z' 129 7 = 0 → gi z' 129 8 = 0 → gi z' 129 2 = 0 → Fg aCT bCT z z' → R z') : wX12_cutAll 148 gSH 129 z R := by
  have hlen := hk.1
  refine ⟨mO, fun z2 e2 z3 e3 => ?_⟩
  rw [hT.1] at e2
  have main : ∀ m n k z1, tp.length < k + m → iCT z z1 tp n k → wX12_cutAll_L17 148 gSH R m 129 (nI n) (nI k) z1 := by
    intro m
    induction m with
    | zero =>
      intro n k z1 h1 h2
      have := krn_le kbl tp k
      have := kpl_le tp n
      have := h2.2.1
      omega
    | succ m ih =>
      intro n k z1 hm hI
      obtain ⟨i1, i2, i3, i4, i5, i6, i7⟩ := hI
      have hnk := kpos_ge n i3
      have hple := kpl_le tp n
      have hz1 := i5.sR hz
      have hTc : ∀ i, i < tp.length → gi z1 130 i = nI (kch tp i) := fun i hi => (i5.1 _ _ (by unfold aCT; omega)).trans (hT.2 i hi)
      have hcb := kch_b hk k
      have vn : vp_in (nI n) 1002 := vp_in_nI (by omega) (by decide)
      refine ⟨mO, ?_⟩
      rw [i6]
      refine ift (fun q => ?_) (fun q => ?_)
      · rw [nI_leI (by omega) (by omega)] at q
        have hkr := krn_le kbl tp k
        have hpn : kpl tp n = tp.length := by omega
        have hkd : kkd tp n = 0 := tkK_0.mpr (by rw [hpn]; exact Nat.le_refl _)
        refine ⟨_, mR4 hz1, mA131, by rw [mL131]; exact vn, fun z8 e8 => ?_⟩
        have hf8 : Fg aCT bCT z z8 := by rw [e8]; exact i5.si (Or.inr (Or.inl rfl))
        have e83 : gi z8 129 3 = nI tp.length := by rw [e8, gi_si, if_neg (by omega), i6]
        refine ⟨_, mR5 (hf8.sR hz), mA132, by rw [mL132]; exact vn, fun z12 e12 z13 e13 z14 e14 => ?_⟩
        rw [nI_clamp (by omega)] at e8 e12
        rw [e83] at e12
        have hf : Fg aCT bCT z z14 := by
          rw [e14, e13, e12]
          exact ((hf8.si (Or.inr (Or.inr rfl))).si (Or.inl ⟨rfl, by omega⟩)).si (Or.inl ⟨rfl, by omega⟩)
        refine hP z14 n ⟨hkd, by omega, i3, fun i hi => ?_⟩ (by rw [e14, gi_si, if_neg (by omega), e13, gi_si, if_pos ⟨rfl, rfl⟩]) (by rw [e14, gi_si, if_pos ⟨rfl, rfl⟩]) (by rw [e14, gi_si, if_neg (by omega), e13, gi_si, if_neg (by omega), e12, gi_si, if_neg (by omega), e8, gi_si, if_neg (by omega), i7]) hf
        rcases Nat.lt_or_ge i n with r | r
        · refine (i4 i r).fr (fun a qa => ?_) ?_
          · rw [e14, gi_si, if_neg (by omega), e13, gi_si, if_neg (by omega), e12, gi_si, if_neg (by omega), e8, gi_si, if_neg (by omega)]
          · rw [e14, gl_si, e13, gl_si, e12, gl_si, e8, gl_si]
        · have ei : i = n := by omega
          subst ei
          refine ⟨?_, ?_, fun r => by omega, fun r => by omega⟩
          · rw [e14, gi_si, if_neg (by omega), e13, gi_si, if_neg (by omega), e12, gi_si, if_neg (by omega), e8, gi_si, if_pos ⟨rfl, rfl⟩, hkd]
            rfl
          · rw [e14, gi_si, if_neg (by omega), e13, gi_si, if_neg (by omega), e12, gi_si, if_pos ⟨rfl, rfl⟩, hpn]
      · rw [nI_leI (by omega) (by omega)] at q
        refine ⟨_, mR1 hz1, mA130, by rw [mL130]; exact vp_in_nI (by omega) (by decide), fun v18 e18 => ?_⟩
        rw [nI_clamp (by omega), hTc k (by omega)] at e18
        subst e18
        have hbl : kbl (kch tp k) = true → wX12_cutAll_J44 148 gSH (wX12_cutAll_L17 148 gSH R m) R 129 (nI n) (nI k) z1 := by
          intro hb v19 e19
          rw [nI_1] at e19
          subst e19
          have := krn_s (p := kbl) (by decide) hb
          exact ih n (k + 1) z1 (by omega) ⟨by omega, by omega, i3, i4, i5, i6, i7⟩
        refine ift (fun q1 => hbl ?_) (fun q1 => ift (fun q2 => hbl ?_) (fun q2 => ?_))
        · exact kbl_i.mpr (Or.inl ((nI_eq (b := 10) (by omega) (by decide)).mp q1))
        · exact kbl_i.mpr (Or.inr ((nI_eq (b := 32) (by omega) (by decide)).mp q2))
        have hnb : kbl (kch tp k) = false := kbl_n.mpr ⟨fun r => q1 (by rw [r]; rfl), fun r => q2 (by rw [r]; rfl)⟩
        have hpn : kpl tp n = k := by rw [krn_0 hnb] at i2; omega
        have hk0 : kkd tp n ≠ 0 := fun r => by
          have := tkK_0.mp r
          omega
        refine ⟨_, mR5 hz1, mA132, by rw [mL132]; exact vn, fun z23 e23 => ?_⟩
        rw [nI_clamp (by omega)] at e23
        have hf23 : Fg aCT bCT z z23 := by rw [e23]; exact i5.si (Or.inr (Or.inr rfl))
        have hz23 := hf23.sR hz
        have hTc2 : ∀ i, i < tp.length → gi z23 130 i = nI (kch tp i) := fun i hi => (hf23.1 _ _ (by unfold aCT; omega)).trans (hT.2 i hi)
        have e233 : gi z23 129 3 = nI tp.length := by rw [e23, gi_si, if_neg (by omega), i6]
        have hF : ∀ (zz : gS) (y : Int64), zz = si z23 131 n (nI (srt (kkd tp n))) → (kkd tp n = 2 → y = lN (cv (kvl tp n))) → ((kkd tp n = 3 ∨ kkd tp n = 4) → y = lN (kvl tp n)) → wX12_cutAll_J265 148 gSH (wX12_cutAll_L17 148 gSH R m) R 129 (nI n) (nI (kpos tp (n + 1))) y zz := by
          intro zz y ezz y1 y2
          have hfz : Fg aCT bCT z zz := by rw [ezz]; exact hf23.si (Or.inr (Or.inl rfl))
          refine ⟨mO, _, mR6 (hfz.sR hz), mA133, by rw [mL133]; exact vn, fun z40 e40 v41 e41 => ?_⟩
          rw [nI_1] at e41
          subst e41
          rw [nI_clamp (by omega)] at e40
          have hps := kpos_ge (n + 1) (fun i hi => by
            rcases Nat.lt_or_ge i n with r | r
            · exact i3 i r
            · rw [show i = n by omega]; exact hk0)
          have htn := tkN_pos (tp := tp) (p := k) (by omega)
          have eps : kpos tp (n + 1) = kpl tp n + tkN tp (kpl tp n) := rfl
          rw [hpn] at eps
          refine ih (n + 1) _ z40 (by omega) ⟨Nat.le_refl _, rfl, fun i hi => ?_, fun i hi => ?_, by rw [e40]; exact hfz.sl rfl, by rw [e40, gi_sl, ezz, gi_si, if_neg (by omega), e233], by rw [e40, gi_sl, ezz, gi_si, if_neg (by omega), e23, gi_si, if_neg (by omega), i7]⟩
          · rcases Nat.lt_or_ge i n with r | r
            · exact i3 i r
            · rw [show i = n by omega]; exact hk0
          · rcases Nat.lt_or_ge i n with r | r
            · refine (i4 i r).fr (fun a qa => ?_) ?_
              · rw [e40, gi_sl, ezz, gi_si, if_neg (by omega), e23, gi_si, if_neg (by omega)]
              · rw [e40, gl_sl, if_neg (by omega), ezz, gl_si, e23, gl_si]
            · have ei : i = n := by omega
              subst ei
              refine ⟨?_, ?_, fun r => ?_, fun r => ?_⟩
              · rw [e40, gi_sl, ezz, gi_si, if_pos ⟨rfl, rfl⟩]
              · rw [e40, gi_sl, ezz, gi_si, if_neg (by omega), e23, gi_si, if_pos ⟨rfl, rfl⟩, hpn]
              · rw [e40, gl_sl, if_pos ⟨rfl, rfl⟩, y1 r]
              · rw [e40, gl_sl, if_pos ⟨rfl, rfl⟩, y2 r]
        have eps : kpos tp (n + 1) = k + tkN tp k := by
          have : kpos tp (n + 1) = kpl tp n + tkN tp (kpl tp n) := rfl
          rw [hpn] at this
          exact this
        have ekd : kkd tp n = tkK tp k := by unfold kkd; rw [hpn]
        have evl : kvl tp n = tkV tp k := by unfold kvl; rw [hpn]
        refine m_isLetter hcb ?_
        cases hl : klt (kch tp k)
        · rw [if_pos (show nI (false).toNat = 0 from rfl)]
          refine m_isDigit hcb ?_
          cases hd : kdg (kch tp k)
          · rw [if_pos (show nI (false).toNat = 0 from rfl)]
            have en : tkN tp k = 1 := by
              unfold tkN
              rw [if_neg (by omega), hl, hd]
              rfl
            have ek2 : kkd tp n = if ksg (kch tp k) then 4 else 1 := by
              rw [ekd]
              unfold tkK
              rw [if_neg (by omega), hl, hd]
              rfl
            have ev2 : kvl tp n = kch tp k := by
              rw [evl]
              unfold tkV
              rw [hl, hd]
              rfl
            intro v28 e28
            refine ⟨_, mR4 hz23, m_isSignOf hcb ?_⟩
            have hJ : ∀ s : Nat, s = srt (kkd tp n) → wX12_cutAll_J261 148 gSH (wX12_cutAll_L17 148 gSH R m) R 129 (nI n) (nI k) v28 (nI s) (nI n) 131 z23 := by
              intro s hs
              refine ⟨mA131, by rw [mL131]; exact vn, fun z34 e34 v35 e35 => ?_⟩
              rw [nI_clamp (by omega), hs] at e34
              rw [nI_1] at e35
              subst e35
              have := hF z34 v28 e34 (fun r => by
                exfalso
                rw [ek2] at r
                revert r
                split <;> decide) (fun r => by rw [e28, ev2, nI_l (by omega)])
              rw [eps, en] at this
              exact this
            cases hs : ksg (kch tp k)
            · rw [if_pos (show nI (false).toNat = 0 from rfl)]
              exact hJ 4 (by rw [ek2, hs]; rfl)
            · rw [if_neg (show ¬ nI (true).toNat = 0 by decide)]
              exact hJ 3 (by rw [ek2, hs]; rfl)
          · rw [if_neg (show ¬ nI (true).toNat = 0 by decide)]
            have en : tkN tp k = krn kdg tp k := by
              unfold tkN
              rw [if_neg (by omega), hl, hd]
              rfl
            have ek2 : kkd tp n = if krn kdg tp k ≤ 4 then 3 else 1 := by
              rw [ekd]
              unfold tkK
              rw [if_neg (by omega), hl, hd]
              rfl
            have ev2 : kvl tp n = knv tp k (krn kdg tp k) := by
              rw [evl]
              unfold tkV
              rw [hl, hd]
              rfl
            have hr := krn_le kdg tp k
            refine (lp (fun m2 j => wX12_cutAll_L159 148 gSH (wX12_cutAll_L17 148 gSH R m) R m2 129 (nI n) (nI (k + j)) (nI k) (lN (knv tp k (min j 4))) z23) (krn kdg tp k) (fun m2 => ?_) (fun m2 j hj ih2 => ?_))
            · have hJ : wX12_cutAll_J218 148 gSH (wX12_cutAll_L17 148 gSH R m) R 129 (nI n) (nI (k + krn kdg tp k)) (nI k) (lN (knv tp k (min (krn kdg tp k) 4))) z23 := by
                refine ⟨mO, _, mR4 hz23, ?_⟩
                have hJ2 : ∀ s : Nat, s = srt (kkd tp n) → wX12_cutAll_J236 148 gSH (wX12_cutAll_L17 148 gSH R m) R 129 (nI n) (nI (k + krn kdg tp k)) (lN (knv tp k (min (krn kdg tp k) 4))) (nI s) (nI n) 131 z23 := by
                  intro s hs
                  refine ⟨mA131, by rw [mL131]; exact vn, fun z48 e48 => ?_⟩
                  rw [nI_clamp (by omega), hs] at e48
                  have := hF z48 (lN (knv tp k (min (krn kdg tp k) 4))) e48 (fun r => by
                    exfalso
                    rw [ek2] at r
                    revert r
                    split <;> decide) (fun r => by
                    rw [ev2]
                    rw [ek2] at r
                    split at r
                    · rw [Nat.min_eq_left (by assumption)]
                    · omega)
                  rw [eps, en] at this
                  exact this
                rw [pk_sub (by omega), show k + krn kdg tp k - k = krn kdg tp k by omega]
                refine ifi (nI_leI (b := 4) (by omega) (by decide)) (fun q3 => hJ2 2 (by rw [ek2, if_pos q3]; rfl)) (fun q3 => hJ2 4 (by rw [ek2, if_neg q3]; rfl))
              have he := krn_e (p := kdg) (by decide) _ k (rfl : krn kdg tp k = _)
              refine ⟨mO, ?_⟩
              rw [e233]
              refine ift (fun q3 => hJ) (fun q3 => ?_)
              rw [nI_leI (by omega) (by omega)] at q3
              refine ⟨_, mR1 hz23, mA130, by rw [mL130]; exact vp_in_nI (by omega) (by decide), ?_⟩
              rw [nI_clamp (by omega), hTc2 _ (by omega)]
              refine m_isDigit (kch_b hk _) ?_
              rw [he, if_pos (show nI (false).toNat = 0 from rfl)]
              exact hJ
            · have he := krn_in (p := kdg) (by decide) j k hj
              have he1 := kdg_i.mp he.1
              have he2 := he.2
              refine ⟨mO, ?_⟩
              rw [e233, if_neg (nI_ge he2 (by omega))]
              refine ⟨_, mR1 hz23, mA130, by rw [mL130]; exact vp_in_nI (by omega) (by decide), ?_⟩
              rw [nI_clamp (by omega), hTc2 _ (by omega)]
              refine m_isDigit (kch_b hk _) ?_
              rw [he.1, if_neg (show ¬ nI (true).toNat = 0 by decide)]
              rw [pk_sub (by omega), show k + j - k = j by omega]
              refine ifi (nI_leI (a := 4) (by decide) (by omega)) (fun q3 v55 e55 => ?_) (fun q3 => ?_)
              · rw [nI_1] at e55
                subst e55
                rw [show min j 4 = min (j + 1) 4 by omega]
                exact ih2
              · refine ⟨_, mR1 hz23, mA130, by rw [mL130]; exact vp_in_nI (by omega) (by decide), fun v55 e55 => ?_⟩
                rw [nI_1] at e55
                subst e55
                rw [hTc2 _ (by omega), nI_l (by omega), show (10 : Int64) = lN 10 by decide, show (48 : Int64) = lN 48 by decide, lN_mul, lN_add, lN_sub (by omega)]
                rw [show min (j + 1) 4 = j + 1 by omega] at ih2
                rw [show min j 4 = j by omega]
                have ee : 10 * knv tp k j + kch tp (k + j) - 48 = knv tp k (j + 1) := by
                  simp only [knv]
                  omega
                rw [ee]
                exact ih2
        · rw [if_neg (show ¬ nI (true).toNat = 0 by decide)]
          have en : tkN tp k = krn klt tp k := by
            unfold tkN
            rw [if_neg (by omega), hl]
            rfl
          have ek2 : kkd tp n = if krn klt tp k ≤ 8 then 2 else 1 := by
            rw [ekd]
            unfold tkK
            rw [if_neg (by omega), hl]
            rfl
          have ev2 : kvl tp n = kwv tp k (krn klt tp k) := by
            rw [evl]
            unfold tkV
            rw [hl]
            rfl
          have hr := krn_le klt tp k
          refine (lp (fun m2 j => wX12_cutAll_L70 148 gSH (wX12_cutAll_L17 148 gSH R m) R m2 129 (nI n) (nI (k + j)) (nI k) (lN (kcw tp k (min j 8))) z23) (krn klt tp k) (fun m2 => ?_) (fun m2 j hj ih2 => ?_))
          · have hJ : wX12_cutAll_J129 148 gSH (wX12_cutAll_L17 148 gSH R m) R 129 (nI n) (nI (k + krn klt tp k)) (nI k) (lN (kcw tp k (min (krn klt tp k) 8))) z23 := by
              refine ⟨mO, _, mR4 hz23, ?_⟩
              have hJ2 : ∀ s : Nat, s = srt (kkd tp n) → wX12_cutAll_J148 148 gSH (wX12_cutAll_L17 148 gSH R m) R 129 (nI n) (nI (k + krn klt tp k)) (lN (kcw tp k (min (krn klt tp k) 8))) (nI s) (nI n) 131 z23 := by
                intro s hs
                refine ⟨mA131, by rw [mL131]; exact vn, fun z48 e48 => ?_⟩
                rw [nI_clamp (by omega), hs] at e48
                have := hF z48 (lN (kcw tp k (min (krn klt tp k) 8))) e48 (fun r => by
                  rw [ev2]
                  rw [ek2] at r
                  split at r
                  · rename_i q8
                    rw [Nat.min_eq_left q8]
                    unfold cv
                    rw [kcw_cv 8 _ q8 (Nat.le_refl _)]
                  · omega) (fun r => by
                  exfalso
                  rw [ek2] at r
                  revert r
                  split <;> decide)
                rw [eps, en] at this
                exact this
              rw [pk_sub (by omega), show k + krn klt tp k - k = krn klt tp k by omega]
              refine ifi (nI_leI (b := 8) (by omega) (by decide)) (fun q3 => hJ2 1 (by rw [ek2, if_pos q3]; rfl)) (fun q3 => hJ2 4 (by rw [ek2, if_neg q3]; rfl))
            have he := krn_e (p := klt) (by decide) _ k (rfl : krn klt tp k = _)
            refine ⟨mO, ?_⟩
            rw [e233]
            refine ift (fun q3 => hJ) (fun q3 => ?_)
            rw [nI_leI (by omega) (by omega)] at q3
            refine ⟨_, mR1 hz23, mA130, by rw [mL130]; exact vp_in_nI (by omega) (by decide), ?_⟩
            rw [nI_clamp (by omega), hTc2 _ (by omega)]
            refine m_isLetter (kch_b hk _) ?_
            rw [he, if_pos (show nI (false).toNat = 0 from rfl)]
            exact hJ
          · have he := krn_in (p := klt) (by decide) j k hj
            have he1 := klt_i.mp he.1
            have he2 := he.2
            refine ⟨mO, ?_⟩
            rw [e233, if_neg (nI_ge he2 (by omega))]
            refine ⟨_, mR1 hz23, mA130, by rw [mL130]; exact vp_in_nI (by omega) (by decide), ?_⟩
            rw [nI_clamp (by omega), hTc2 _ (by omega)]
            refine m_isLetter (kch_b hk _) ?_
            rw [he.1, if_neg (show ¬ nI (true).toNat = 0 by decide)]
            rw [pk_sub (by omega), show k + j - k = j by omega]
            refine ifi (nI_leI (a := 8) (by decide) (by omega)) (fun q3 v55 e55 => ?_) (fun q3 => ?_)
            · rw [nI_1] at e55
              subst e55
              rw [show min j 8 = min (j + 1) 8 by omega]
              exact ih2
            · refine ⟨_, mR1 hz23, mA130, by rw [mL130]; exact vp_in_nI (by omega) (by decide), ?_⟩
              rw [hTc2 _ (by omega)]
              refine m_isLetter (kch_b hk _) ?_
              rw [he.1, if_neg (show ¬ nI (true).toNat = 0 by decide)]
              intro v55 e55
              rw [nI_1] at e55
              subst e55
              rw [j_96, pk_sub (by omega), nI_l (by omega), show (37 : Int64) = lN 37 by decide, lN_mul, lN_add]
              rw [show min (j + 1) 8 = j + 1 by omega] at ih2
              rw [show min j 8 = j by omega]
              exact ih2
  refine ⟨tp.length + 1, main _ 0 0 z3 (by omega) ⟨Nat.zero_le _, ?_, fun i hi => absurd hi (Nat.not_lt_zero _), fun i hi => absurd hi (Nat.not_lt_zero _), ?_, ?_, ?_⟩⟩
  · show 0 + krn kbl tp 0 = tkP tp 0
    rfl
  · rw [e3, e2]
    exact (Fg.rf.si (Or.inl ⟨rfl, by omega⟩)).si (Or.inl ⟨rfl, by omega⟩)
  · rw [e3, gi_si, if_neg (by omega), e2, gi_si, if_pos ⟨rfl, rfl⟩]
  · rw [e3, gi_si, if_pos ⟨rfl, rfl⟩]
end RC
