/-! ===== the class reads a street: lines ===== -/
section RC
variable {z z' z0 : gS} {tp : List Nat} {n i t v : Nat} {S : sS} {nm : sNm} {P : Int32 → gS → Prop} {R : gS → Prop}
theorem upF_at {f : Nat → Nat} {k v : Nat} : upF f k v k = v := if_pos rfl
theorem upF_ne {f : Nat → Nat} {k v j : Nat} (h : j ≠ k) : upF f k v j = f j := if_neg h
theorem sView_P {kd kp : Nat} {s : Nat → Bool} (p : Nat) : sView (addP S kd kp s) p = if p = sPA S then vwB kd s else sView S p := by
  funext c
  by_cases e : p = sPA S
  · rw [if_pos e, e]
    show ((if sPA S = sPA S then s c else sSE S (sPA S) c) || (decide (upF (sKD S) (sPA S) kd (sPA S) = 3) && (if sPA S = sPA S then s (9 - c) else sSE S (sPA S) (9 - c)))) = vwB kd s c
    rw [if_pos rfl, if_pos rfl, upF_at]
    rfl
  · rw [if_neg e]
    show ((if p = sPA S then s c else sSE S p c) || (decide (upF (sKD S) (sPA S) kd p = 3) && (if p = sPA S then s (9 - c) else sSE S p (9 - c)))) = sView S p c
    rw [if_neg e, if_neg e, upF_ne e]
    rfl
theorem cS_P {kd kp : Nat} {s : Nat → Bool} (h : cS z t S) (h10 : gi z' t 10 = nI (sPA S + 1)) (hs : ∀ a k, ¬ (a = t ∧ k = 10) → gi z' a k = gi z a k) (h4 : gi z (t + 4) (sPA S) = nI kd) (h5 : gi z (t + 5) (sPA S) = nI kp) (h6 : gi z (t + 6) (sPA S) = nI (bs 10 (vwB kd s))) : cS z' t (addP S kd kp s) := by
  obtain ⟨a1, a2, a3, a4, a5, a6, a7, a8, a9, a10, a11, a12⟩ := h
  refine ⟨h10, (hs _ _ (by omega)).trans a2, (hs _ _ (by omega)).trans a3, (hs _ _ (by omega)).trans a4, fun p hp => ?_, fun p hp => ?_, fun p hp => ?_, fun p hp => (hs _ _ (by omega)).trans (a8 p hp), fun p hp => (hs _ _ (by omega)).trans (a9 p hp), fun p hp => (hs _ _ (by omega)).trans (a10 p hp), (hs _ _ (by omega)).trans a11, fun p hp => (hs _ _ (by omega)).trans (a12 p hp)⟩
  · have hp : p < sPA S + 1 := hp
    show gi z' (t + 4) p = nI (upF (sKD S) (sPA S) kd p)
    rw [hs _ _ (by omega)]
    by_cases e : p = sPA S
    · rw [e, upF_at, h4]
    · rw [upF_ne e]; exact a5 p (by omega)
  · have hp : p < sPA S + 1 := hp
    show gi z' (t + 5) p = nI (upF (sKP S) (sPA S) kp p)
    rw [hs _ _ (by omega)]
    by_cases e : p = sPA S
    · rw [e, upF_at, h5]
    · rw [upF_ne e]; exact a6 p (by omega)
  · have hp : p < sPA S + 1 := hp
    rw [hs _ _ (by omega), sView_P]
    by_cases e : p = sPA S
    · rw [if_pos e, e, h6]
    · rw [if_neg e]; exact a7 p (by omega)
theorem cS_E {w : Nat} (h : cS z t S) (h10 : gi z' t 11 = nI (sPE S + 1)) (hs : ∀ a k, ¬ (a = t ∧ k = 11) → gi z' a k = gi z a k) (h4 : gi z (t + 7) (sPE S) = nI w) : cS z' t (addE S w) := by
  obtain ⟨a1, a2, a3, a4, a5, a6, a7, a8, a9, a10, a11, a12⟩ := h
  refine ⟨(hs _ _ (by omega)).trans a1, h10, (hs _ _ (by omega)).trans a3, (hs _ _ (by omega)).trans a4, fun p hp => (hs _ _ (by omega)).trans (a5 p hp), fun p hp => (hs _ _ (by omega)).trans (a6 p hp), fun p hp => (hs _ _ (by omega)).trans (a7 p hp), fun p hp => ?_, fun p hp => (hs _ _ (by omega)).trans (a9 p hp), fun p hp => (hs _ _ (by omega)).trans (a10 p hp), (hs _ _ (by omega)).trans a11, fun p hp => (hs _ _ (by omega)).trans (a12 p hp)⟩
  have hp : p < sPE S + 1 := hp
  show gi z' (t + 7) p = nI (upF (sHO S) (sPE S) w p)
  rw [hs _ _ (by omega)]
  by_cases e : p = sPE S
  · rw [e, upF_at, h4]
  · rw [upF_ne e]; exact a8 p (by omega)
theorem cS_D {w : Nat} (h : cS z t S) (h10 : gi z' t 12 = nI (sDE S + 1)) (hs : ∀ a k, ¬ (a = t ∧ k = 12) → gi z' a k = gi z a k) (h4 : gi z (t + 8) (sDE S) = nI w) : cS z' t (addD S w) := by
  obtain ⟨a1, a2, a3, a4, a5, a6, a7, a8, a9, a10, a11, a12⟩ := h
  refine ⟨(hs _ _ (by omega)).trans a1, (hs _ _ (by omega)).trans a2, h10, (hs _ _ (by omega)).trans a4, fun p hp => (hs _ _ (by omega)).trans (a5 p hp), fun p hp => (hs _ _ (by omega)).trans (a6 p hp), fun p hp => (hs _ _ (by omega)).trans (a7 p hp), fun p hp => (hs _ _ (by omega)).trans (a8 p hp), fun p hp => ?_, fun p hp => (hs _ _ (by omega)).trans (a10 p hp), (hs _ _ (by omega)).trans a11, fun p hp => (hs _ _ (by omega)).trans (a12 p hp)⟩
  have hp : p < sDE S + 1 := hp
  show gi z' (t + 8) p = nI (upF (sHA S) (sDE S) w p)
  rw [hs _ _ (by omega)]
  by_cases e : p = sDE S
  · rw [e, upF_at, h4]
  · rw [upF_ne e]; exact a9 p (by omega)
theorem cS_L {m w : Nat} {L : Nat → Nat} (h : cS z t (addL S m L)) (h10 : gi z' t 13 = nI (m + 1)) (h4 : gi z' (t + 9) m = nI w) (hs : ∀ a k, ¬ (a = t ∧ k = 13) → ¬ (a = t + 9 ∧ k = m) → gi z' a k = gi z a k) : cS z' t (addL S (m + 1) (upF L m w)) := by
  obtain ⟨a1, a2, a3, a4, a5, a6, a7, a8, a9, a10, a11, a12⟩ := h
  refine ⟨(hs _ _ (by omega) (by omega)).trans a1, (hs _ _ (by omega) (by omega)).trans a2, (hs _ _ (by omega) (by omega)).trans a3, h10, fun p hp => (hs _ _ (by omega) (by omega)).trans (a5 p hp), fun p hp => (hs _ _ (by omega) (by omega)).trans (a6 p hp), fun p hp => (hs _ _ (by omega) (by omega)).trans (a7 p hp), fun p hp => (hs _ _ (by omega) (by omega)).trans (a8 p hp), fun p hp => (hs _ _ (by omega) (by omega)).trans (a9 p hp), fun p hp => ?_, (hs _ _ (by omega) (by omega)).trans a11, fun p hp => (hs _ _ (by omega) (by omega)).trans (a12 p hp)⟩
  have hp : p < m + 1 := hp
  show gi z' (t + 9) p = nI (upF L m w p)
  by_cases e : p = m
  · rw [e, upF_at, h4]
  · rw [upF_ne e, hs _ _ (by omega) (by omega)]; exact a10 p (show p < m by omega)
theorem cS_L0 {L : Nat → Nat} (h : cS z t S) (h0 : sLC S = 0) : cS z t (addL S 0 L) := by
  obtain ⟨a1, a2, a3, a4, a5, a6, a7, a8, a9, a10, a11, a12⟩ := h
  refine ⟨a1, a2, a3, ?_, a5, a6, a7, a8, a9, fun p hp => absurd hp (Nat.not_lt_zero _), a11, a12⟩
  rw [a4, h0]; rfl
theorem cS_W {c : List Int32} (h : cS z t S) (hs : ∀ a k, t ≤ a → a ≤ t + 9 → ¬ (a = t + 1 ∧ k = 2) → a ≠ t + 2 → gi z' a k = gi z a k) (hc : cEl z' t c) : cS z' t (addW S c) := by
  obtain ⟨a1, a2, a3, a4, a5, a6, a7, a8, a9, a10, a11, a12⟩ := h
  exact ⟨(hs _ _ (by omega) (by omega) (by omega) (by omega)).trans a1, (hs _ _ (by omega) (by omega) (by omega) (by omega)).trans a2, (hs _ _ (by omega) (by omega) (by omega) (by omega)).trans a3, (hs _ _ (by omega) (by omega) (by omega) (by omega)).trans a4, fun p hp => (hs _ _ (by omega) (by omega) (by omega) (by omega)).trans (a5 p hp), fun p hp => (hs _ _ (by omega) (by omega) (by omega) (by omega)).trans (a6 p hp), fun p hp => (hs _ _ (by omega) (by omega) (by omega) (by omega)).trans (a7 p hp), fun p hp => (hs _ _ (by omega) (by omega) (by omega) (by omega)).trans (a8 p hp), fun p hp => (hs _ _ (by omega) (by omega) (by omega) (by omega)).trans (a9 p hp), fun p hp => (hs _ _ (by omega) (by omega) (by omega) (by omega)).trans (a10 p hp), hc.1, hc.2⟩
theorem cNm_P {kd kp : Nat} {s : Nat → Bool} (h : cNm z t S nm) (hl : ∀ a k, gl z' a k = gl z a k) (hv : gl z (t + 10) (sPA S) = lN v) : cNm z' t (addP S kd kp s) (nmP nm (sPA S) v) := by
  refine ⟨fun p hp => ?_, fun p hp => (hl _ _).trans (h.2.1 p hp), fun p hp => (hl _ _).trans (h.2.2 p hp)⟩
  have hp : p < sPA S + 1 := hp
  show gl z' (t + 10) p = lN (upF nm.1 (sPA S) v p)
  rw [hl]
  by_cases e : p = sPA S
  · rw [e, upF_at, hv]
  · rw [upF_ne e]; exact h.1 p (by omega)
theorem cNm_E {w : Nat} (h : cNm z t S nm) (hl : ∀ a k, gl z' a k = gl z a k) (hv : gl z (t + 11) (sPE S) = lN v) : cNm z' t (addE S w) (nmE nm (sPE S) v) := by
  refine ⟨fun p hp => (hl _ _).trans (h.1 p hp), fun p hp => ?_, fun p hp => (hl _ _).trans (h.2.2 p hp)⟩
  have hp : p < sPE S + 1 := hp
  show gl z' (t + 11) p = lN (upF nm.2.1 (sPE S) v p)
  rw [hl]
  by_cases e : p = sPE S
  · rw [e, upF_at, hv]
  · rw [upF_ne e]; exact h.2.1 p (by omega)
theorem cNm_D {w : Nat} (h : cNm z t S nm) (hl : ∀ a k, gl z' a k = gl z a k) (hv : gl z (t + 12) (sDE S) = lN v) : cNm z' t (addD S w) (nmD nm (sDE S) v) := by
  refine ⟨fun p hp => (hl _ _).trans (h.1 p hp), fun p hp => (hl _ _).trans (h.2.1 p hp), fun p hp => ?_⟩
  have hp : p < sDE S + 1 := hp
  show gl z' (t + 12) p = lN (upF nm.2.2.1 (sDE S) v p)
  rw [hl]
  by_cases e : p = sDE S
  · rw [e, upF_at, hv]
  · rw [upF_ne e]; exact h.2.2 p (by omega)
theorem nilK {A : Type} {q : A → Prop} : ∀ e ∈ ([] : List A), q e := fun e he => absurd he List.not_mem_nil
theorem rI22 {r : Nat} (h : r < 22) : rI 22 r = nI r := if_pos h
theorem c_pane (hz0 : sR z0) (hT0 : cT z0 tp) (hk : tOK tp) (ht : isS t) (hp : pOK S nm) (h : SC z0 t tp z i S nm [] []) (h1 : (spPane tp i S nm).1 = 0 → ∀ z', SC z0 t tp z' (spPane tp i S nm).2.1 (spPane tp i S nm).2.2.1 (spPane tp i S nm).2.2.2 [] [] → P 1 z') (h2 : (spPane tp i S nm).1 ≠ 0 → ∀ z', SF z0 t z' (kfl tp (spPane tp i S nm).1 (spPane tp i S nm).2.1) → P 0 z') : wX8_readsPane 148 gSH 1 t z P := by
  have tl := ht.le
  obtain ⟨hok, -, hnm, -⟩ := hp
  have k1 := hok.1
  unfold spPane at h1 h2
  refine ⟨tO ht, fun v2 e2 => ?_⟩
  rw [h.2.2.1.1] at e2
  subst e2
  refine ifi (nI_ltI (b := 6) (by omega) (by decide)) (fun h6 => ?_) (fun h6 => ?_)
  · rw [if_neg (show ¬ sPA S = 6 by omega)] at h1 h2
    refine ⟨tpO, h.adv hz0 hT0 hk ht (fun z4 s4 => c_newName hz0 ht hok hnm s4 (fun q z' f' => ?_) (fun q q2 z' f' => ?_) (fun q q2 e6 => ?_))⟩
    · rw [if_pos rfl]
      rw [if_pos q] at h2
      exact h2 (Nat.succ_ne_zero _) z' f'
    · rw [if_pos rfl]
      rw [if_neg q, if_pos q2] at h2
      exact h2 (Nat.succ_ne_zero _) z' f'
    · rw [if_neg (by decide)]
      rw [if_neg q, if_neg q2] at h1 h2
      refine ⟨_, tR7 (s4.1.sR hz0) ht, tA10 ht, by rw [tL10 ht]; exact vp_in_nI h6 (by decide), fun z11 e11 => ?_⟩
      rw [nI_clamp (by omega), e6] at e11
      have s11 := s4.wl ht (Or.inl ⟨rfl, Nat.le_refl _⟩) rfl e11
      refine s11.adv hz0 hT0 hk ht (fun z13 s13 => ?_)
      have hrl := krs_le tp (i + 2)
      have hJ63 : ¬ (15 ≤ krs tp (i + 2) ∧ krs tp (i + 2) ≤ 18) → wX8_readsPane_J63 148 gSH P 1 z13 := by
        intro r
        rw [if_pos r] at h2
        exact ⟨tpO, c_wrong (f := 1) s13.2.1 (fun z' e => h2 (Nat.succ_ne_zero _) z' (s13.wr e))⟩
      have er : gi z13 1 7 = rI 22 (krs tp (i + 2)) := s13.2.1.2.2.2.2.2
      rw [er]
      by_cases hr : krs tp (i + 2) < 22
      · rw [rI22 hr]
        refine ifi (nI_ltI (b := 15) (by omega) (by decide)) (fun r => hJ63 (by omega)) (fun r => ?_)
        refine ifi (nI_leI (b := 18) (by omega) (by decide)) (fun r2 => ?_) (fun r2 => hJ63 (by omega))
        rw [if_neg (show ¬ ¬ (15 ≤ krs tp (i + 2) ∧ krs tp (i + 2) ≤ 18) by omega)] at h1 h2
        refine ⟨_, tR1 (s13.1.sR hz0) ht, tA4 ht, by rw [tL4 ht]; exact vp_in_nI h6 (by decide), fun z20 e20 => ?_⟩
        rw [nI_clamp (by omega), j_15, pk_sub (by omega)] at e20
        have s20 := s13.wi ht (Or.inl ⟨Or.inl rfl, Nat.le_refl _⟩) nilK e20
        refine s20.adv hz0 hT0 hk ht (fun z22 s22 => ?_)
        refine c_takesWord (w := 11) (s22.1.sR hz0) (s22.tT ht hT0) hk s22.2.1 (by decide) (fun r3 z24 c24 f24 => ?_) (fun r3 z24 e24 => ?_)
        · rw [if_neg (by decide)]
          have r3 : krs tp (i + 3) = 11 := r3
          rw [if_neg (show ¬ krs tp (i + 3) ≠ 11 by omega)] at h1 h2
          have s24 := s22.tk ht c24 f24
          refine c_hasNumber (lo := 1) (hi := 6) s24.2.1 (by decide) (by decide) (fun r4 r5 r6 r7 => ?_) (fun r4 z' e => ?_) (fun r4 r5 z' e => ?_)
          · rw [if_neg (by decide)]
            have r4 : kkd tp (i + 4) = 3 := r4
            have r5 : 1 ≤ kvl tp (i + 4) := r5
            have r6 : kvl tp (i + 4) ≤ 6 := r6
            have r7 : gi z24 1 5 = nI (kvl tp (i + 4)) := r7
            rw [if_neg (show ¬ kkd tp (i + 4) ≠ 3 by omega), if_neg (show ¬ ¬ (1 ≤ kvl tp (i + 4) ∧ kvl tp (i + 4) ≤ 6) by omega)] at h1 h2
            refine ⟨_, tR2 (s24.1.sR hz0) ht, tA5 ht, by rw [tL5 ht]; exact vp_in_nI h6 (by decide), fun z30 e30 => ?_⟩
            rw [nI_clamp (by omega), r7] at e30
            have s30 := s24.wi ht (Or.inl ⟨Or.inr (Or.inl rfl), Nat.le_refl _⟩) (fun e he => by
              rw [List.mem_singleton] at he
              rw [he]; dsimp only; omega) e30
            refine s30.adv hz0 hT0 hk ht (fun z32 s32 => ?_)
            refine c_takesWord (w := 12) (s32.1.sR hz0) (s32.tT ht hT0) hk s32.2.1 (by decide) (fun r8 z34 c34 f34 => ?_) (fun r8 z34 e34 => ?_)
            · rw [if_neg (by decide)]
              have r8 : krs tp (i + 5) = 12 := r8
              rw [if_neg (show ¬ krs tp (i + 5) ≠ 12 by omega)] at h1 h2
              have s34 := s32.tk ht c34 f34
              refine c_view (kd := krs tp (i + 2) - 15) hz0 hT0 hk ht h6 (by omega) (by simp) (fun e he => by
                rw [List.mem_cons, List.mem_singleton] at he
                rcases he with x | x <;> rw [x] <;> dsimp only <;> omega) s34 (fun r9 z' f' => ?_) (fun r9 r10 z' f' => ?_) (fun r9 r10 z36 s36 => ?_)
              · rw [if_pos rfl]
                rw [if_pos (show kkd tp (i + 6) ≠ 3 from r9)] at h2
                exact h2 (Nat.succ_ne_zero _) z' f'
              · rw [if_pos rfl]
                rw [if_neg (show ¬ kkd tp (i + 6) ≠ 3 from r9), if_neg (show ¬ (vLp tp 11 (i + 6) (fun _ => false)).1 = 0 from r10)] at h2
                exact h2 r10 z' f'
              · rw [if_neg (by decide)]
                rw [if_neg (show ¬ kkd tp (i + 6) ≠ 3 from r9), if_pos (show (vLp tp 11 (i + 6) (fun _ => false)).1 = 0 from r10)] at h1
                intro z37 e37
                rw [s36.2.2.1.1, nI_1] at e37
                refine h1 rfl z37 ⟨by rw [e37]; exact s36.1.si (Or.inr (by omega)), s36.2.1.fg (fun k _ _ => by rw [e37, gi_si, if_neg (by omega)]) (by rw [e37]; rfl), ?_, ?_, nilK, nilK⟩
                · exact cS_P s36.2.2.1 (by rw [e37, gi_si, if_pos ⟨rfl, rfl⟩]) (fun a k q => by rw [e37, gi_si, if_neg q]) (s36.2.2.2.2.1 (t + 4, sPA S, krs tp (i + 2) - 15) (by simp)).2 (s36.2.2.2.2.1 (t + 5, sPA S, kvl tp (i + 4)) (by simp)).2 (s36.2.2.2.2.1 (t + 6, sPA S, _) (List.mem_cons_self)).2
                · exact cNm_P s36.2.2.2.1 (fun a k => by rw [e37]; rfl) (s36.2.2.2.2.2 (t + 10, sPA S, kvl tp (i + 1)) (by simp)).2
            · rw [if_pos rfl]
              rw [if_pos (show krs tp (i + 5) ≠ 12 from r8)] at h2
              exact h2 (Nat.succ_ne_zero _) z34 (s32.wr e34)
          · rw [if_pos rfl]
            rw [if_pos (show kkd tp (i + 4) ≠ 3 from r4)] at h2
            exact h2 (Nat.succ_ne_zero _) z' (s24.wr e)
          · rw [if_pos rfl]
            rw [if_neg (show ¬ kkd tp (i + 4) ≠ 3 from fun x => x r4), if_pos (show ¬ (1 ≤ kvl tp (i + 4) ∧ kvl tp (i + 4) ≤ 6) from r5)] at h2
            exact h2 (Nat.succ_ne_zero _) z' (s24.wr e)
        · rw [if_pos rfl]
          rw [if_pos (show krs tp (i + 3) ≠ 11 from r3)] at h2
          exact h2 (Nat.succ_ne_zero _) z24 (s22.wr e24)
      · have er2 : rI 22 (krs tp (i + 2)) = nN := if_neg hr
        rw [er2, if_pos (by decide)]
        exact hJ63 (by omega)
  · rw [if_pos (show sPA S = 6 by omega)] at h2
    exact ⟨tpO, c_wrong (f := 5) h.2.1 (fun z' e => h2 (Nat.succ_ne_zero _) z' (h.wr e))⟩
theorem c_rPerson (hz0 : sR z0) (hT0 : cT z0 tp) (hk : tOK tp) (ht : isS t) (hp : pOK S nm) (h : SC z0 t tp z i S nm [] []) (h1 : (spPerson tp i S nm).1 = 0 → ∀ z', SC z0 t tp z' (spPerson tp i S nm).2.1 (spPerson tp i S nm).2.2.1 (spPerson tp i S nm).2.2.2 [] [] → P 1 z') (h2 : (spPerson tp i S nm).1 ≠ 0 → ∀ z', SF z0 t z' (kfl tp (spPerson tp i S nm).1 (spPerson tp i S nm).2.1) → P 0 z') : wX8_readsPerson 148 gSH 1 t z P := by
  have tl := ht.le
  obtain ⟨hok, -, hnm, -⟩ := hp
  have k2 := hok.2.1
  have k3 := hok.2.2.1
  unfold spPerson at h1 h2
  refine ⟨tO ht, fun v2 e2 => ?_⟩
  rw [h.2.2.1.2.1] at e2
  subst e2
  refine ifi (nI_ltI (b := 5) (by omega) (by decide)) (fun h6 => ?_) (fun h6 => ?_)
  · rw [if_neg (show ¬ sPE S = 5 by omega)] at h1 h2
    refine ⟨tpO, h.adv hz0 hT0 hk ht (fun z4 s4 => c_newName hz0 ht hok hnm s4 (fun q z' f' => ?_) (fun q q2 z' f' => ?_) (fun q q2 e6 => ?_))⟩
    · rw [if_pos rfl]
      rw [if_pos q] at h2
      exact h2 (Nat.succ_ne_zero _) z' f'
    · rw [if_pos rfl]
      rw [if_neg q, if_pos q2] at h2
      exact h2 (Nat.succ_ne_zero _) z' f'
    · rw [if_neg (by decide)]
      rw [if_neg q, if_neg q2] at h1 h2
      refine ⟨_, tR8 (s4.1.sR hz0) ht, tA11 ht, by rw [tL11 ht]; exact vp_in_nI h6 (by decide), fun z11 e11 => ?_⟩
      rw [nI_clamp (by omega), e6] at e11
      have s11 := s4.wl ht (Or.inr (Or.inl ⟨rfl, Nat.le_refl _⟩)) rfl e11
      refine s11.adv hz0 hT0 hk ht (fun z13 s13 => ?_)
      refine c_takesWord (w := 13) (s13.1.sR hz0) (s13.tT ht hT0) hk s13.2.1 (by decide) (fun r3 z15 c15 f15 => ?_) (fun r3 z15 e15 => ?_)
      · rw [if_neg (by decide)]
        have r3 : krs tp (i + 2) = 13 := r3
        rw [if_neg (show ¬ krs tp (i + 2) ≠ 13 by omega)] at h1 h2
        have s15 := s13.tk ht c15 f15
        refine c_hasNumber (lo := 0) (hi := 9) s15.2.1 (by decide) (by decide) (fun r4 r5 r6 r7 => ?_) (fun r4 z' e => ?_) (fun r4 r5 z' e => ?_)
        · rw [if_neg (by decide)]
          have r4 : kkd tp (i + 3) = 3 := r4
          have r6 : kvl tp (i + 3) ≤ 9 := r6
          have r7 : gi z15 1 5 = nI (kvl tp (i + 3)) := r7
          rw [if_neg (show ¬ kkd tp (i + 3) ≠ 3 by omega), if_neg (show ¬ ¬ kvl tp (i + 3) ≤ 9 by omega)] at h1 h2
          refine ⟨_, tR4 (s15.1.sR hz0) ht, tA7 ht, by rw [tL7 ht]; exact vp_in_nI h6 (by decide), fun z21 e21 => ?_⟩
          rw [nI_clamp (by omega), r7] at e21
          have s21 := s15.wi ht (Or.inr (Or.inl ⟨rfl, Nat.le_refl _⟩)) nilK e21
          refine s21.adv hz0 hT0 hk ht (fun z23 s23 z24 e24 => ?_)
          rw [s23.2.2.1.2.1, nI_1] at e24
          refine h1 rfl z24 ⟨by rw [e24]; exact s23.1.si (Or.inr (by omega)), s23.2.1.fg (fun k _ _ => by rw [e24, gi_si, if_neg (by omega)]) (by rw [e24]; rfl), ?_, ?_, nilK, nilK⟩
          · exact cS_E s23.2.2.1 (by rw [e24, gi_si, if_pos ⟨rfl, rfl⟩]) (fun a k q => by rw [e24, gi_si, if_neg q]) (s23.2.2.2.2.1 (t + 7, sPE S, kvl tp (i + 3)) (by simp)).2
          · exact cNm_E s23.2.2.2.1 (fun a k => by rw [e24]; rfl) (s23.2.2.2.2.2 (t + 11, sPE S, kvl tp (i + 1)) (by simp)).2
        · rw [if_pos rfl]
          rw [if_pos (show kkd tp (i + 3) ≠ 3 from r4)] at h2
          exact h2 (Nat.succ_ne_zero _) z' (s15.wr e)
        · rw [if_pos rfl]
          have r5 : ¬ (0 ≤ kvl tp (i + 3) ∧ kvl tp (i + 3) ≤ 9) := r5
          rw [if_neg (show ¬ kkd tp (i + 3) ≠ 3 from fun x => x r4), if_pos (show ¬ kvl tp (i + 3) ≤ 9 by omega)] at h2
          exact h2 (Nat.succ_ne_zero _) z' (s15.wr e)
      · rw [if_pos rfl]
        rw [if_pos (show krs tp (i + 2) ≠ 13 from r3)] at h2
        exact h2 (Nat.succ_ne_zero _) z15 (s13.wr e15)
  · rw [if_pos (show sPE S = 5 by omega)] at h2
    exact ⟨tpO, c_wrong (f := 5) h.2.1 (fun z' e => h2 (Nat.succ_ne_zero _) z' (h.wr e))⟩
theorem c_rDeed (hz0 : sR z0) (hT0 : cT z0 tp) (hk : tOK tp) (ht : isS t) (hp : pOK S nm) (h : SC z0 t tp z i S nm [] []) (h1 : (spDeed tp i S nm).1 = 0 → ∀ z', SC z0 t tp z' (spDeed tp i S nm).2.1 (spDeed tp i S nm).2.2.1 (spDeed tp i S nm).2.2.2 [] [] → P 1 z') (h2 : (spDeed tp i S nm).1 ≠ 0 → ∀ z', SF z0 t z' (kfl tp (spDeed tp i S nm).1 (spDeed tp i S nm).2.1) → P 0 z') : wX8_readsDeed 148 gSH 1 t z P := by
  have tl := ht.le
  obtain ⟨hok, -, hnm, -⟩ := hp
  have k2 := hok.2.1
  have k3 := hok.2.2.1
  unfold spDeed at h1 h2
  refine ⟨tO ht, fun v2 e2 => ?_⟩
  rw [h.2.2.1.2.2.1] at e2
  subst e2
  refine ifi (nI_ltI (b := 5) (by omega) (by decide)) (fun h6 => ?_) (fun h6 => ?_)
  · rw [if_neg (show ¬ sDE S = 5 by omega)] at h1 h2
    refine ⟨tpO, h.adv hz0 hT0 hk ht (fun z4 s4 => c_newName hz0 ht hok hnm s4 (fun q z' f' => ?_) (fun q q2 z' f' => ?_) (fun q q2 e6 => ?_))⟩
    · rw [if_pos rfl]
      rw [if_pos q] at h2
      exact h2 (Nat.succ_ne_zero _) z' f'
    · rw [if_pos rfl]
      rw [if_neg q, if_pos q2] at h2
      exact h2 (Nat.succ_ne_zero _) z' f'
    · rw [if_neg (by decide)]
      rw [if_neg q, if_neg q2] at h1 h2
      refine ⟨_, tR9 (s4.1.sR hz0) ht, tA12 ht, by rw [tL12 ht]; exact vp_in_nI h6 (by decide), fun z11 e11 => ?_⟩
      rw [nI_clamp (by omega), e6] at e11
      have s11 := s4.wl ht (Or.inr (Or.inr ⟨rfl, Nat.le_refl _⟩)) rfl e11
      refine s11.adv hz0 hT0 hk ht (fun z13 s13 => ?_)
      refine c_takesWord (w := 14) (s13.1.sR hz0) (s13.tT ht hT0) hk s13.2.1 (by decide) (fun r3 z15 c15 f15 => ?_) (fun r3 z15 e15 => ?_)
      · rw [if_neg (by decide)]
        have r3 : krs tp (i + 2) = 14 := r3
        rw [if_neg (show ¬ krs tp (i + 2) ≠ 14 by omega)] at h1 h2
        have s15 := s13.tk ht c15 f15
        refine c_hasNumber (lo := 0) (hi := 99) s15.2.1 (by decide) (by decide) (fun r4 r5 r6 r7 => ?_) (fun r4 z' e => ?_) (fun r4 r5 z' e => ?_)
        · rw [if_neg (by decide)]
          have r4 : kkd tp (i + 3) = 3 := r4
          have r6 : kvl tp (i + 3) ≤ 99 := r6
          have r7 : gi z15 1 5 = nI (kvl tp (i + 3)) := r7
          rw [if_neg (show ¬ kkd tp (i + 3) ≠ 3 by omega), if_neg (show ¬ ¬ kvl tp (i + 3) ≤ 99 by omega)] at h1 h2
          refine ⟨_, tR5 (s15.1.sR hz0) ht, tA8 ht, by rw [tL8 ht]; exact vp_in_nI h6 (by decide), fun z21 e21 => ?_⟩
          rw [nI_clamp (by omega), r7] at e21
          have s21 := s15.wi ht (Or.inr (Or.inr (Or.inl ⟨rfl, Nat.le_refl _⟩))) nilK e21
          refine s21.adv hz0 hT0 hk ht (fun z23 s23 z24 e24 => ?_)
          rw [s23.2.2.1.2.2.1, nI_1] at e24
          refine h1 rfl z24 ⟨by rw [e24]; exact s23.1.si (Or.inr (by omega)), s23.2.1.fg (fun k _ _ => by rw [e24, gi_si, if_neg (by omega)]) (by rw [e24]; rfl), ?_, ?_, nilK, nilK⟩
          · exact cS_D s23.2.2.1 (by rw [e24, gi_si, if_pos ⟨rfl, rfl⟩]) (fun a k q => by rw [e24, gi_si, if_neg q]) (s23.2.2.2.2.1 (t + 8, sDE S, kvl tp (i + 3)) (by simp)).2
          · exact cNm_D s23.2.2.2.1 (fun a k => by rw [e24]; rfl) (s23.2.2.2.2.2 (t + 12, sDE S, kvl tp (i + 1)) (by simp)).2
        · rw [if_pos rfl]
          rw [if_pos (show kkd tp (i + 3) ≠ 3 from r4)] at h2
          exact h2 (Nat.succ_ne_zero _) z' (s15.wr e)
        · rw [if_pos rfl]
          have r5 : ¬ (0 ≤ kvl tp (i + 3) ∧ kvl tp (i + 3) ≤ 99) := r5
          rw [if_neg (show ¬ kkd tp (i + 3) ≠ 3 from fun x => x r4), if_pos (show ¬ kvl tp (i + 3) ≤ 99 by omega)] at h2
          exact h2 (Nat.succ_ne_zero _) z' (s15.wr e)
      · rw [if_pos rfl]
        rw [if_pos (show krs tp (i + 2) ≠ 14 from r3)] at h2
        exact h2 (Nat.succ_ne_zero _) z15 (s13.wr e15)
  · rw [if_pos (show sDE S = 5 by omega)] at h2
    exact ⟨tpO, c_wrong (f := 5) h.2.1 (fun z' e => h2 (Nat.succ_ne_zero _) z' (h.wr e))⟩
theorem c_light (hz0 : sR z0) (hT0 : cT z0 tp) (hk : tOK tp) (ht : isS t) (hp : pOK S nm) (h : SC z0 t tp z i S nm [] []) (h1 : (spLight tp i S nm).1 = 0 → ∀ z', SC z0 t tp z' (spLight tp i S nm).2.1 (spLight tp i S nm).2.2.1 (spLight tp i S nm).2.2.2 [] [] → P 1 z') (h2 : (spLight tp i S nm).1 ≠ 0 → ∀ z', SF z0 t z' (kfl tp (spLight tp i S nm).1 (spLight tp i S nm).2.1) → P 0 z') : wX8_readsLight 148 gSH 1 t z P := by
  have tl := ht.le
  have k4 := hp.1.2.2.2.1
  unfold spLight at h1 h2
  refine ⟨tO ht, ?_⟩
  rw [h.2.2.1.2.2.2.1]
  refine ifi (nI_leI (b := 0) (by omega) (by decide)) (fun q => ?_) (fun q => ?_)
  · rw [if_neg (show ¬ ¬ sLC S = 0 by omega)] at h1 h2
    refine ⟨tpO, h.adv hz0 hT0 hk ht (fun z3 s3 => ?_)⟩
    have main : ∀ f m z1 i1 L, m + f = 13 → SC z0 t tp z1 i1 (addL S m L) nm [] [] → (m = 0 → kkd tp i1 = 3) → ((gLp tp f i1 m L).1 ≠ 0 → ∀ z', SF z0 t z' (kfl tp (gLp tp f i1 m L).1 (gLp tp f i1 m L).2.1) → P 0 z') → ((gLp tp f i1 m L).1 = 0 → ∀ z', SC z0 t tp z' (gLp tp f i1 m L).2.1 (addL S (gLp tp f i1 m L).2.2.1 (gLp tp f i1 m L).2.2.2) nm [] [] → P 1 z') → wX8_readsLight_L19 148 gSH P (f + 1) 1 t (nI m) z1 := by
      intro f
      induction f with
      | zero =>
        intro m z1 i1 L hx hh h0 g2 g3
        unfold wX8_readsLight_L19 wX8_readsLight_B19
        rw [if_pos (show (12 : Int32) < nI m from nI_lt (a := 12) (by omega) (by omega))]
        exact g3 rfl z1 hh
      | succ f ih =>
        intro m z1 i1 L hx hh h0 g2 g3
        unfold wX8_readsLight_L19 wX8_readsLight_B19
        rw [if_neg (show ¬ (12 : Int32) < nI m from nI_nlt (a := 12) (by omega) (by decide))]
        simp only [gLp] at g2 g3
        have hJ36 : kkd tp i1 = 3 → wX8_readsLight_J36 148 gSH (wX8_readsLight_L19 148 gSH P (f + 1)) P 1 t (nI m) z1 := by
          intro q3
          rw [if_pos q3] at g2 g3
          refine ⟨tpO, c_hasNumber (lo := 0) (hi := 1) hh.2.1 (by decide) (by decide) (fun r1 r2 r3 r4 => ?_) (fun r => absurd q3 r) (fun r1 r2 z' e => ?_)⟩
          · rw [if_pos r3] at g2 g3
            rw [if_neg (by decide)]
            refine ifi (nI_ltI (b := 12) (by omega) (by decide)) (fun q5 => ?_) (fun q5 => ?_)
            · rw [if_neg (show ¬ m = 12 by omega)] at g2 g3
              refine ⟨tO ht, _, tR6 (hh.1.sR hz0) ht, tA9 ht, by rw [tL9 ht]; exact vp_in_nI q5 (by decide), fun z12 e12 z13 e13 => ?_⟩
              rw [nI_clamp (by omega), r4] at e12
              have e3 : gi z12 t 13 = nI m := by rw [e12, gi_si, if_neg (by omega)]; exact hh.2.2.1.2.2.2.1
              rw [e3, nI_1] at e13
              have s13 : SC z0 t tp z13 i1 (addL S (m + 1) (upF L m (kvl tp i1))) nm [] [] := by
                refine ⟨by rw [e13, e12]; exact (hh.1.si (Or.inr (by omega))).si (Or.inr (by omega)), hh.2.1.fg (fun k _ _ => by rw [e13, e12, gi_si, if_neg (by omega), gi_si, if_neg (by omega)]) (by rw [e13, e12]; rfl), ?_, ?_, nilK, nilK⟩
                · refine cS_L hh.2.2.1 (by rw [e13, gi_si, if_pos ⟨rfl, rfl⟩]) (by rw [e13, gi_si, if_neg (by omega), e12, gi_si, if_pos ⟨rfl, rfl⟩]) (fun a k q1 q2 => by rw [e13, gi_si, if_neg q1, e12, gi_si, if_neg q2])
                · exact hh.2.2.2.1.fr (fun a k _ _ => by rw [e13, e12]; rfl)
              refine s13.adv hz0 hT0 hk ht (fun z15 s15 v16 e16 => ?_)
              rw [nI_1] at e16
              subst e16
              exact ih (m + 1) z15 (i1 + 1) _ (by omega) s15 (fun r => by omega) g2 g3
            · rw [if_pos (show m = 12 by omega)] at g2
              exact c_wrong (f := 5) hh.2.1 (fun z' e => g2 (Nat.succ_ne_zero _) z' (hh.wr e))
          · rw [if_pos rfl]
            rw [if_neg (show ¬ kvl tp i1 ≤ 1 by omega)] at g2
            exact g2 (Nat.succ_ne_zero _) z' (hh.wr e)
        refine ifi (nI_eq (b := 0) (by omega) (by decide)) (fun q => hJ36 (h0 q)) (fun q => ⟨tpO, c_isNumber hh.2.1 ?_⟩)
        refine ift (fun q2 => ?_) (fun q2 => ?_)
        · rw [nI_b0, decide_eq_false_iff_not] at q2
          rw [if_neg q2] at g3
          exact g3 rfl z1 hh
        · rw [nI_b0, Bool.not_eq_false, decide_eq_true_eq] at q2
          exact hJ36 q2
    by_cases c1 : kkd tp (i + 1) ≠ 3
    · rw [if_pos c1] at h2
      refine ⟨1, ?_⟩
      unfold wX8_readsLight_L19 wX8_readsLight_B19
      rw [if_neg (by decide), if_pos (by decide)]
      refine ⟨tpO, c_hasNumber (lo := 0) (hi := 1) s3.2.1 (by decide) (by decide) (fun r1 _ _ _ => absurd r1 c1) (fun r z' e => ?_) (fun r1 => absurd r1 c1)⟩
      rw [if_pos rfl]
      exact h2 (Nat.succ_ne_zero _) z' (s3.wr e)
    · rw [if_neg c1] at h1 h2
      refine ⟨_, main 13 0 z3 (i + 1) (fun _ => 0) (by decide) ⟨s3.1, s3.2.1, cS_L0 s3.2.2.1 (by omega), s3.2.2.2.1, nilK, nilK⟩ (fun _ => by omega) (fun q z' f' => ?_) (fun q z' s' => ?_)⟩
      · rw [if_neg q] at h2
        exact h2 q z' f'
      · rw [if_pos q] at h1
        exact h1 rfl z' s'
  · rw [if_pos (show ¬ sLC S = 0 by omega)] at h2
    exact ⟨tpO, c_wrong (f := 3) h.2.1 (fun z' e => h2 (Nat.succ_ne_zero _) z' (h.wr e))⟩
theorem c_fades (hz0 : sR z0) (hT0 : cT z0 tp) (hk : tOK tp) (hn : tK tp n) (ht : isS t) (hi : i < n) (hp : pOK S nm) (h : SC z0 t tp z i S nm [] []) (h1 : (spFades tp i S nm).1 = 0 → ∀ z', SC z0 t tp z' (spFades tp i S nm).2.1 (spFades tp i S nm).2.2.1 (spFades tp i S nm).2.2.2 [] [] → P 1 z') (h2 : (spFades tp i S nm).1 ≠ 0 → ∀ z', SF z0 t z' (kfl tp (spFades tp i S nm).1 (spFades tp i S nm).2.1) → P 0 z') : wX8_readsFades 148 gSH 1 t z P := by
  have tl := ht.le
  have hll := hp.1.2.2.2.2.2.2.2.2.2
  unfold spFades at h1 h2
  refine ⟨tO ht, _, tR0 (h.1.sR hz0) ht, tO1 ht, ?_⟩
  rw [h.2.2.1.2.2.2.2.2.2.2.2.2.2.1]
  refine ifi (nI_leI (b := 0) (by omega) (by decide)) (fun q => ?_) (fun q => ?_)
  · have hnil : sLW S = [] := List.length_eq_zero_iff.mp (by omega)
    rw [if_neg (show ¬ ¬ sLW S = [] from fun x => x hnil)] at h1 h2
    refine ⟨tpO, h.adv hz0 hT0 hk ht (fun z5 s5 => ⟨_, tR0 (s5.1.sR hz0) ht, tO1 ht, ?_⟩)⟩
    have hKC : KC z5 t tp z5 (i + 1) [] := by
      refine ⟨Fg.rf, s5.2.1, ?_, fun j hj => absurd hj (Nat.not_lt_zero _)⟩
      rw [s5.2.2.1.2.2.2.2.2.2.2.2.2.2.1, hnil]
    have hSf : ∀ z', Fg (aEX t) bTK z5 z' → Fg (aSC t) (bSC t) z0 z' := fun z' f => s5.1.tr (f.mo2 (fun a k q => by unfold aEX at q; unfold aSC; omega) (fun a q => Or.inl q))
    refine Cn_all (s5.1.sR hz0) (s5.tT ht hT0) hk ht hn z5 (i + 1) [] _ hKC hi (by simp) (fun z9 e9 k9 => ⟨bo_1, ?_⟩) (fun z9 e9 k9 => ⟨bo_0, ?_⟩)
    · rw [if_pos e9] at h1
      refine h1 rfl z9 ⟨hSf z9 k9.1, k9.2.1, cS_W s5.2.2.1 (fun a k q1 q2 q3 q4 => k9.1.1 a k (by unfold aEX; omega)) k9.2.2, s5.2.2.2.1.fr (fun a k q1 q2 => k9.1.2.1 a k (by unfold bTK; omega)), nilK, nilK⟩
    · rw [if_neg e9] at h2
      exact h2 e9 z9 ⟨hSf z9 k9.1, k9.2.1⟩
  · rw [if_pos (show ¬ sLW S = [] from fun x => by rw [x] at q; exact q (Nat.le_refl _))] at h2
    exact ⟨tpO, c_wrong (f := 3) h.2.1 (fun z' e => h2 (Nat.succ_ne_zero _) z' (h.wr e))⟩
theorem c_sLn (hz0 : sR z0) (hT0 : cT z0 tp) (hk : tOK tp) (hn : tK tp n) (ht : isS t) (hi : i < n) (hp : pOK S nm) (h : SC z0 t tp z i S nm [] []) (h1 : (spLn tp i S nm).1 = 0 → ∀ z', SC z0 t tp z' (spLn tp i S nm).2.1 (spLn tp i S nm).2.2.1 (spLn tp i S nm).2.2.2 [] [] → P 1 z') (h2 : (spLn tp i S nm).1 ≠ 0 → ∀ z', SF z0 t z' (kfl tp (spLn tp i S nm).1 (spLn tp i S nm).2.1) → P 0 z') : wX8_readsLine 148 gSH 1 t z P := by
  have hrl := krs_le tp i
  refine ⟨tpO, fun v2 e2 => ?_⟩
  rw [h.2.1.2.2.2.2.2] at e2
  subst e2
  unfold spLn at h1 h2
  refine ifi (rI_eq (w := 0) (by decide) (by decide)) (fun q => ?_) (fun q => ?_)
  · rw [if_pos q] at h1 h2
    exact c_pane hz0 hT0 hk ht hp h (fun a z' b => ⟨bo_1, h1 a z' b⟩) (fun a z' b => ⟨bo_0, h2 a z' b⟩)
  rw [if_neg q] at h1 h2
  refine ifi (rI_eq (w := 1) (by decide) (by decide)) (fun q => ?_) (fun q => ?_)
  · rw [if_pos q] at h1 h2
    exact c_rPerson hz0 hT0 hk ht hp h (fun a z' b => ⟨bo_1, h1 a z' b⟩) (fun a z' b => ⟨bo_0, h2 a z' b⟩)
  rw [if_neg q] at h1 h2
  refine ifi (rI_eq (w := 2) (by decide) (by decide)) (fun q => ?_) (fun q => ?_)
  · rw [if_pos q] at h1 h2
    exact c_rDeed hz0 hT0 hk ht hp h (fun a z' b => ⟨bo_1, h1 a z' b⟩) (fun a z' b => ⟨bo_0, h2 a z' b⟩)
  rw [if_neg q] at h1 h2
  refine ifi (rI_eq (w := 3) (by decide) (by decide)) (fun q => ?_) (fun q => ?_)
  · rw [if_pos q] at h1 h2
    exact c_light hz0 hT0 hk ht hp h (fun a z' b => ⟨bo_1, h1 a z' b⟩) (fun a z' b => ⟨bo_0, h2 a z' b⟩)
  rw [if_neg q] at h1 h2
  refine ifi (rI_eq (w := 4) (by decide) (by decide)) (fun q => ?_) (fun q => ?_)
  · rw [if_pos q] at h1 h2
    exact c_fades hz0 hT0 hk hn ht hi hp h (fun a z' b => ⟨bo_1, h1 a z' b⟩) (fun a z' b => ⟨bo_0, h2 a z' b⟩)
  rw [if_neg q] at h2
  exact c_wrong (f := 1) h.2.1 (fun z' e => h2 (Nat.succ_ne_zero _) z' (h.wr e))
theorem c_sLp (hz0 : sR z0) (hT0 : cT z0 tp) (hk : tOK tp) (hn : tK tp n) (ht : isS t) : ∀ f x z i S nm, x + f = 1000 → SC z0 t tp z i S nm [] [] → i ≤ n → pOK S nm → ((spLp tp f i S nm).1 = 0 → ∀ z' j, SC z0 t tp z' j (spLp tp f i S nm).2.2.1 (spLp tp f i S nm).2.2.2 [] [] → P 1 z') → ((spLp tp f i S nm).1 ≠ 0 → ∀ z', SF z0 t z' (kfl tp (spLp tp f i S nm).1 (spLp tp f i S nm).2.1) → P 0 z') → wX8_reads_L10 148 gSH P (f + 1) 1 t (nI x) z := by
  intro f
  induction f with
  | zero =>
    intro x z i S nm hx h hi hp h1 h2
    unfold wX8_reads_L10 wX8_reads_B10
    rw [if_pos (show (1000 : Int32) ≤ nI x from nI_le (a := 1000) (by omega) (by omega))]
    exact h1 rfl z i h
  | succ f ih =>
    intro x z i S nm hx h hi hp h1 h2
    unfold wX8_reads_L10 wX8_reads_B10
    rw [if_neg (show ¬ (1000 : Int32) ≤ nI x from nI_ge (b := 1000) (by omega) (by decide))]
    refine ⟨tpO, c_isAtEnd h.2.1 ?_⟩
    simp only [spLp] at h1 h2
    refine ift (fun q => ?_) (fun q => ?_)
    · rw [nI_b0, decide_eq_false_iff_not] at q
      rw [if_neg q] at h1 h2
      obtain ⟨a1, a2, a3⟩ := spLn_ok hn hi q hp
      refine c_sLn hz0 hT0 hk hn ht (hn.nx hi q) hp h (fun q1 z11 h11 => ?_) (fun q1 z11 h11 => ?_)
      · rw [if_neg (by decide)]
        rw [if_pos q1] at h1 h2
        refine c_takesSign (c := 59) (h11.1.sR hz0) (h11.tT ht hT0) hk h11.2.1 (by decide) (fun q2 z13 c13 f13 => ?_) (fun q2 z13 e13 => ?_)
        · rw [if_neg (by decide)]
          rw [if_pos q2] at h1 h2
          intro v14 e14
          rw [nI_1] at e14
          subst e14
          exact ih (x + 1) z13 _ _ _ (by omega) (h11.tk ht c13 f13) (hn.nx a2 (by have := sgn_k q2; omega)) (a3 q1).2 h1 h2
        · rw [if_pos rfl]
          rw [if_neg (by rw [q2]; decide)] at h2
          exact h2 (Nat.succ_ne_zero _) z13 (h11.wr e13)
      · rw [if_pos rfl]
        rw [if_neg q1] at h2
        exact h2 q1 z11 h11
    · rw [nI_b0, Bool.not_eq_false, decide_eq_true_eq] at q
      rw [if_pos q] at h1
      exact h1 rfl z i h
def S00 : sS := (0, fun _ => 0, fun _ => 0, fun _ _ => false, 0, fun _ => 0, 0, fun _ => 0, 0, fun _ => 0, [])
def nm0 : sNm := (fun _ => 0, fun _ => 0, fun _ => 0, [])
theorem pOK_0 : pOK S00 nm0 := by
  refine ⟨⟨by decide, by decide, by decide, by decide, fun p hp => absurd hp (Nat.not_lt_zero _), fun p hp => absurd hp (Nat.not_lt_zero _), fun p hp => absurd hp (Nat.not_lt_zero _), fun p hp => absurd hp (Nat.not_lt_zero _), fun p hp => absurd hp (Nat.not_lt_zero _), by decide⟩, Or.inl rfl, ⟨by decide, nilK, fun p hp => absurd hp (Nat.not_lt_zero _), fun p hp => absurd hp (Nat.not_lt_zero _), fun p hp => absurd hp (Nat.not_lt_zero _), nilK⟩, rfl⟩
theorem c_sreads (hz : sR z) (hT : cT z tp) (hk : tOK tp) (hn : tK tp n) (ht : isS t) (h1 : (spLp tp 1000 0 S00 nm0).1 = 0 → ∀ z', Fg (aSC t) (bSC t) z z' → cS z' t (spLp tp 1000 0 S00 nm0).2.2.1 → cNm z' t (spLp tp 1000 0 S00 nm0).2.2.1 (spLp tp 1000 0 S00 nm0).2.2.2 → P 1 z') (h2 : (spLp tp 1000 0 S00 nm0).1 ≠ 0 → ∀ z', SF z t z' (kfl tp (spLp tp 1000 0 S00 nm0).1 (spLp tp 1000 0 S00 nm0).2.1) → P 0 z') : wX8_reads 148 gSH 1 t z P := by
  have tl := ht.le
  refine ⟨tO ht, tO ht, _, tR0 hz ht, tO1 ht, tO1 ht, fun z4 e4 z6 e6 z7 e7 z8 e8 z9 e9 => ⟨tpO, tpO, fun y2 d2 y3 d3 => ?_⟩⟩
  have f9 : Fg (aSC t) (bSC t) z z9 := by
    rw [e9, e8, e7, e6, e4]
    exact ((((Fg.rf.si (Or.inr (by omega))).si (Or.inr (by omega))).si (Or.inr (by omega))).si (Or.inr (by omega))).si (Or.inr (by omega))
  have f2 : Fg (aSC t) (bSC t) z y3 := by
    rw [d3, d2]
    exact (f9.si (Or.inl ⟨rfl, by decide⟩)).si (Or.inl ⟨rfl, by decide⟩)
  have hTy : cT y3 tp := hT.fr (fun a k q => f2.1 a k (by unfold aSC; omega))
  refine c_adv0 (i := 0) (f2.sR hz) hTy hk (by rw [d3, gi_si, if_neg (by omega), d2, gi_si, if_pos ⟨rfl, rfl⟩]; rfl) (fun z5 c5 f5 => ?_)
  have g5 : Fg (aSC t) (bSC t) z z5 := f2.tr (f5.mo2 (fun b k q => Or.inl q) (fun b q => Or.inl q))
  have e0 : ∀ a k, a ≠ 1 → gi z5 a k = gi z9 a k := fun a k q => by
    rw [f5.1 _ _ (by unfold aTK; omega), d3, gi_si, if_neg (by omega), d2, gi_si, if_neg (by omega)]
  refine ⟨1001, c_sLp hz hT hk hn ht 1000 0 z5 0 S00 nm0 (by decide) ⟨g5, c5, ?_, ⟨fun p hp => absurd hp (Nat.not_lt_zero _), fun p hp => absurd hp (Nat.not_lt_zero _), fun p hp => absurd hp (Nat.not_lt_zero _)⟩, nilK, nilK⟩ (Nat.zero_le _) pOK_0 (fun q z' j h => h1 q z' h.1 h.2.2.1 h.2.2.2.1) h2⟩
  refine ⟨?_, ?_, ?_, ?_, fun p hp => absurd hp (Nat.not_lt_zero _), fun p hp => absurd hp (Nat.not_lt_zero _), fun p hp => absurd hp (Nat.not_lt_zero _), fun p hp => absurd hp (Nat.not_lt_zero _), fun p hp => absurd hp (Nat.not_lt_zero _), fun p hp => absurd hp (Nat.not_lt_zero _), ?_, fun p hp => absurd hp (Nat.not_lt_zero _)⟩
  · rw [e0 _ _ (by omega), e9, gi_si, if_neg (by omega), e8, gi_si, if_neg (by omega), e7, gi_si, if_neg (by omega), e6, gi_si, if_pos ⟨rfl, rfl⟩]; rfl
  · rw [e0 _ _ (by omega), e9, gi_si, if_neg (by omega), e8, gi_si, if_neg (by omega), e7, gi_si, if_pos ⟨rfl, rfl⟩]; rfl
  · rw [e0 _ _ (by omega), e9, gi_si, if_neg (by omega), e8, gi_si, if_pos ⟨rfl, rfl⟩]; rfl
  · rw [e0 _ _ (by omega), e9, gi_si, if_pos ⟨rfl, rfl⟩]; rfl
  · rw [e0 _ _ (by omega), e9, gi_si, if_neg (by omega), e8, gi_si, if_neg (by omega), e7, gi_si, if_neg (by omega), e6, gi_si, if_neg (by omega), e4, gi_si, if_pos ⟨rfl, rfl⟩]; rfl
end RC
