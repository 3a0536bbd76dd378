/-! ===== the class reads a day ===== -/
section RD
variable {z z0 : gS} {tp : List Nat} {n i t y m v : Nat} {S : sS} {nm : sNm} {D : List sL} {P : Int32 → gS → Prop} {R : gS → Prop}
theorem c_placeOf {a : Nat} {g : Nat → Nat} (ha : oA 148 gSH a 2) (hm : m ≤ (gSH a).2) (hl : (gSH a).2 < 2 ^ 20) (hg : ∀ k, k < m → gl z a k = lN (g k)) (hb : ∀ k, k < m → g k < 2 ^ 62) (hv : v < 2 ^ 62) (hP : P (rI m (fs1 (fun k => g k == v) m)) z) : wX7_placeOf 148 gSH a (nI m) (lN v) z P := by
  have hw := fs1_le (fun k => g k == v) m
  have ht := fs1_t (f := fun k => g k == v) m
  have hf := fs1_f (f := fun k => g k == v) m
  generalize fs1 (fun k => g k == v) m = w at hP hw ht hf
  refine lp (fun N k => wX7_placeOf_L3 148 gSH P N a (nI m) (lN v) (nI k) z) w (fun N => ?_) (fun N k hk ih => ?_)
  · unfold wX7_placeOf_L3 wX7_placeOf_B3
    unfold rI at hP
    refine ifi (nI_leI (by omega) (by omega)) (fun q => ?_) (fun q => ?_)
    · rw [if_neg (by omega)] at hP
      exact hP
    · have q' : w < m := by omega
      rw [if_pos q'] at hP
      refine ⟨ha, ?_⟩
      rw [if_neg (show ¬ Int32.ofNat (gSH a).2 ≤ nI w from nI_ge (by omega) (by omega))]
      refine ⟨vp_in_nI (by omega) (by omega), ?_⟩
      have e := ht q'
      (try dsimp only at e)
      rw [beq_iff_eq] at e
      rw [nI_clamp (by omega), hg w q', e, if_pos (cmp0.mpr rfl)]
      exact hP
  · unfold wX7_placeOf_L3 wX7_placeOf_B3
    have e := hf k hk
    (try dsimp only at e)
    rw [beq_eq_false_iff_ne] at e
    rw [if_neg (nI_ge (by omega) (by omega))]
    refine ⟨ha, ?_⟩
    rw [if_neg (show ¬ Int32.ofNat (gSH a).2 ≤ nI k from nI_ge (by omega) (by omega))]
    refine ⟨vp_in_nI (by omega) (by omega), ?_⟩
    rw [nI_clamp (by omega), hg k (by omega), if_neg (fun r => e ((cmpN (by have := hb k (by omega); omega) (by omega)).mp r))]
    intro v3 e3
    rw [nI_1] at e3
    subst e3
    exact ih
theorem nm_lt (h : nmOK S nm) : (∀ k, k < sPA S → nm.1 k < 2 ^ 62) ∧ (∀ k, k < sPE S → nm.2.1 k < 2 ^ 62) ∧ (∀ k, k < sDE S → nm.2.2.1 k < 2 ^ 62) := by
  obtain ⟨h1, h2, h3, h4, h5, h6⟩ := h
  have e : 27 ^ 8 < 2 ^ 62 := by decide
  exact ⟨fun k hk => Nat.lt_trans (h2 _ (h3 k hk)).1 e, fun k hk => Nat.lt_trans (h2 _ (h4 k hk)).1 e, fun k hk => Nat.lt_trans (h2 _ (h5 k hk)).1 e⟩
theorem c_names {a w F line : Nat} (hz : sR z) (hT : cT z tp) (hk : tOK tp) (h : cK z tp i) (ha : oA 148 gSH a 2) (hm : nmC S F ≤ (gSH a).2) (hl : (gSH a).2 < 2 ^ 20) (hg : ∀ k, k < nmC S F → gl z a k = lN (nmF nm F k)) (hb : ∀ k, k < nmC S F → nmF nm F k < 2 ^ 62) (hw : oA 148 gSH w 1) (hwl : (gSH w).2 = 40) (hli : line < 40) (hw1 : w ≠ 1) (hw2 : w ≠ 2)
    (h1 : knm tp i = false → ∀ z', z' = si z 1 8 (nI (kfl tp 1 i)) → P 0 z')
    (h2 : ¬ knm tp i = false → ¬ tld S nm F (kvl tp i) < nmC S F → ∀ z', z' = si z 1 8 (nI (kfl tp 2 i)) → P 0 z')
    (h3 : ¬ knm tp i = false → tld S nm F (kvl tp i) < nmC S F → ∀ z', cK z' tp (i + 1) → Fg aTK bTK (si z w line (nI (tld S nm F (kvl tp i)))) z' → P 1 z') : wX1_readsNames 148 gSH 1 a (nI (nmC S F)) w (nI line) z P := by
  refine ⟨tpO, c_isName h ?_⟩
  cases hn : knm tp i
  · rw [if_pos (show nI (false).toNat = 0 from rfl)]
    exact c_wrong (f := 1) h (h1 hn)
  · rw [if_neg (show ¬ nI (true).toNat = 0 by decide)]
    have hn' : ¬ knm tp i = false := by rw [hn]; decide
    have hk2 := knm_k hn'
    rw [h.2.2.2.2.1 hk2]
    refine c_placeOf ha hm hl hg hb (Nat.lt_of_lt_of_le (kvl_w hk2) (by decide)) ?_
    have e : fs1 (fun k => nmF nm F k == kvl tp i) (nmC S F) = tld S nm F (kvl tp i) := rfl
    rw [e]
    refine ifi (rI_no (by omega)) (fun q => c_wrong (f := 2) h (h2 hn' (by omega))) (fun q => ⟨hw, by rw [hwl]; exact vp_in_nI hli (by decide), fun z8 e8 => ?_⟩)
    have q' : tld S nm F (kvl tp i) < nmC S F := by omega
    have er : rI (nmC S F) (tld S nm F (kvl tp i)) = nI (tld S nm F (kvl tp i)) := by unfold rI; rw [if_pos q']
    rw [nI_clamp (by omega), er] at e8
    subst e8
    exact c_adv (hz.to (fun _ _ => rfl)) (hT.fr (fun a k q => by rw [gi_si, if_neg (by omega)])) hk (h.fg (fun k _ _ => by rw [gi_si, if_neg (by omega)]) rfl) (fun z' a b => h3 hn' q' z' a b)
theorem c_cell {line : Nat} (hy : isY y) (hz : sR z) (hT : cT z tp) (hk : tOK tp) (h : cK z tp i) (hli : line < 40)
    (h1 : kkd tp i ≠ 3 → ∀ z', z' = si z 1 8 (nI (kfl tp 1 i)) → P 0 z')
    (h2 : ¬ kkd tp i ≠ 3 → ¬ kvl tp i ≤ 9 → ∀ z', z' = si z 1 8 (nI (kfl tp 4 i)) → P 0 z')
    (h3 : ¬ kkd tp i ≠ 3 → kvl tp i ≤ 9 → ∀ z', cK z' tp (i + 1) → Fg aTK bTK (si z (y + 3) line (nI (kvl tp i))) z' → P 1 z') : wX1_readsCell 148 gSH 1 y (nI line) z P := by
  have yl := hy.le
  refine ⟨tpO, c_hasNumber (lo := 0) (hi := 9) h (by decide) (by decide) (fun q1 q2 q3 q4 => ?_) (fun q z' e => ?_) (fun q q2 z' e => ?_)⟩
  · rw [if_neg (by decide)]
    refine ⟨yO hy, _, yR2 hz hy, yA3 hy, by rw [yL3 hy]; exact vp_in_nI hli (by decide), fun z8 e8 => ?_⟩
    rw [nI_clamp (by omega), q4] at e8
    subst e8
    exact c_adv (hz.to (fun _ _ => rfl)) (hT.fr (fun a k q => by rw [gi_si, if_neg (by omega)])) hk (h.fg (fun k _ _ => by rw [gi_si, if_neg (by omega)]) rfl) (fun z' a b => h3 (by omega) q3 z' a b)
  · rw [if_pos rfl]
    exact h1 q z' e
  · rw [if_pos rfl]
    exact h2 (by omega) (by omega) z' e
def aDC (y : Nat) : Nat → Nat → Prop := fun a k => (a = 1 ∧ 2 ≤ k) ∨ (a = y ∧ k = 3) ∨ (y + 1 ≤ a ∧ a ≤ y + 3)
def cDr (z : gS) (y : Nat) (D : List sL) : Prop := ∀ i, i < D.length → gi z (y + 1) i = nI (5 + (D.getD i l0).1) ∧ ((D.getD i l0).1 ≠ 5 → gi z (y + 2) i = nI (D.getD i l0).2.1) ∧ ((D.getD i l0).1 < 2 → gi z (y + 3) i = nI (D.getD i l0).2.2)
def DC (z0 : gS) (y : Nat) (tp : List Nat) (z : gS) (i : Nat) (D : List sL) : Prop := Fg (aDC y) bTK z0 z ∧ cK z tp i ∧ gi z y 3 = nI D.length ∧ cDr z y D
def DP (z0 : gS) (y : Nat) (tp : List Nat) (z : gS) (i : Nat) (D : List sL) (w : Nat) : Prop := Fg (aDC y) bTK z0 z ∧ cK z tp i ∧ gi z y 3 = nI (D.length + 1) ∧ cDr z y D ∧ gi z (y + 1) D.length = nI w
def DF (z0 : gS) (y : Nat) (z : gS) (f : Nat) : Prop := Fg (aDC y) bTK z0 z ∧ gi z 1 8 = nI f
theorem gt_apL {D : List sL} {x : sL} {j : Nat} : (D ++ [x]).getD j l0 = if j = D.length then x else D.getD j l0 := by
  rw [List.getD_eq_getElem?_getD]
  by_cases h : j < D.length
  · rw [List.getElem?_append_left h, if_neg (by omega), List.getD_eq_getElem?_getD]
  · rw [List.getElem?_append_right (by omega)]
    by_cases e : j = D.length
    · rw [if_pos e, e, Nat.sub_self]; rfl
    · rw [if_neg e, List.getD_eq_getElem?_getD, List.getElem?_eq_none (by simp; omega), List.getElem?_eq_none (by omega)]
theorem DP.fin {w : Nat} {l : sL} (h : DP z0 y tp z i D w) (hw : w = 5 + l.1) (h1 : l.1 ≠ 5 → gi z (y + 2) D.length = nI l.2.1) (h2 : l.1 < 2 → gi z (y + 3) D.length = nI l.2.2) : DC z0 y tp z i (D ++ [l]) := by
  obtain ⟨a1, a2, a3, a4, a5⟩ := h
  refine ⟨a1, a2, by rw [a3, List.length_append]; rfl, fun j hj => ?_⟩
  rw [gt_apL]
  simp only [List.length_append, List.length_singleton] at hj
  by_cases e : j = D.length
  · rw [if_pos e, e, a5, hw]
    exact ⟨rfl, h1, h2⟩
  · rw [if_neg e]
    exact a4 j (by omega)
theorem DP.step {w a x : Nat} (hy : isY y) (h : DP z0 y tp z i D w) (ha : a = y + 2 ∨ a = y + 3) {z' : gS} (hc : cK z' tp (i + 1)) (hf : Fg aTK bTK (si z a D.length (nI x)) z') : DP z0 y tp z' (i + 1) D w ∧ gi z' a D.length = nI x ∧ (a = y + 3 → gi z' (y + 2) D.length = gi z (y + 2) D.length) := by
  have yl := hy.le
  obtain ⟨a1, a2, a3, a4, a5⟩ := h
  have e : ∀ b k, b ≠ 1 → ¬ (b = a ∧ k = D.length) → gi z' b k = gi z b k := fun b k q1 q2 => by
    rw [hf.1 _ _ (by unfold aTK; omega), gi_si, if_neg q2]
  refine ⟨⟨?_, hc, ?_, fun j hj => ?_, ?_⟩, ?_, fun q => ?_⟩
  · refine Fg.tr ?_ (hf.mono (fun b k q => Or.inl q))
    exact a1.si (Or.inr (Or.inr (by omega)))
  · rw [e _ _ (by omega) (by omega), a3]
  · rw [e _ _ (by omega) (by omega), e _ _ (by omega) (by omega), e _ _ (by omega) (by omega)]
    exact a4 j hj
  · rw [e _ _ (by omega) (by omega), a5]
  · rw [hf.1 _ _ (by unfold aTK; omega), gi_si, if_pos ⟨rfl, rfl⟩]
  · exact e _ _ (by omega) (by omega)
theorem DP.wr {w f : Nat} (h : DP z0 y tp z i D w) {z' : gS} (e : z' = si z 1 8 (nI f)) : DF z0 y z' f := ⟨by rw [e]; exact h.1.si (Or.inl ⟨rfl, by decide⟩), by rw [e, gi_si, if_pos ⟨rfl, rfl⟩]⟩
theorem DC.wr {f : Nat} (h : DC z0 y tp z i D) {z' : gS} (e : z' = si z 1 8 (nI f)) : DF z0 y z' f := ⟨by rw [e]; exact h.1.si (Or.inl ⟨rfl, by decide⟩), by rw [e, gi_si, if_pos ⟨rfl, rfl⟩]⟩
theorem Fg.dT (hy : isY y) (hT0 : cT z0 tp) (h : Fg (aDC y) bTK z0 z) : cT z tp := by
  have yl := hy.le
  exact hT0.fr (fun a k q => h.1 a k (by unfold aDC; omega))
theorem c_dLn (hz0 : sR z0) (hT0 : cT z0 tp) (hk : tOK tp) (ht : isS t) (hy : isY y) (hok : sOK S) (hnm : nmOK S nm) (hS : cS z0 t S) (hN : cNm z0 t S nm) (h : DC z0 y tp z i D) (hD : D.length ≤ 40)
    (h1 : (dLn tp S nm i D.length).1 = 0 → ∀ z', DC z0 y tp z' (dLn tp S nm i D.length).2.1 (D ++ [(dLn tp S nm i D.length).2.2]) → P 1 z')
    (h2 : (dLn tp S nm i D.length).1 ≠ 0 → ∀ z', DF z0 y z' (kfl tp (dLn tp S nm i D.length).1 (dLn tp S nm i D.length).2.1) → P 0 z') : wX1_readsLine 148 gSH 1 t y z P := by
  have yl := hy.le
  have tl := ht.le
  have k1 := hok.1
  have k2 := hok.2.1
  have k3 := hok.2.2.1
  have hrl := krs_le tp i
  obtain ⟨b1, b2, b3⟩ := nm_lt hnm
  refine ⟨tpO, fun v2 e2 => ?_⟩
  rw [h.2.1.2.2.2.2.2] at e2
  unfold dLn at h1 h2
  have hJ16 : ¬ (5 ≤ krs tp i ∧ krs tp i ≤ 10) → wX1_readsLine_J16 148 gSH P 1 z := by
    intro q
    rw [if_pos q] at h2
    exact ⟨tpO, c_wrong (f := 1) h.2.1 (fun z' e => h2 (Nat.succ_ne_zero _) z' (h.wr e))⟩
  by_cases hr : krs tp i < 22
  · have er : rI 22 (krs tp i) = nI (krs tp i) := by unfold rI; rw [if_pos hr]
    rw [er] at e2
    subst e2
    refine ifi (nI_ltI (b := 5) (by omega) (by decide)) (fun q => hJ16 (by omega)) (fun q => ?_)
    refine ifi (nI_leI (b := 10) (by omega) (by decide)) (fun q2 => ?_) (fun q2 => hJ16 (by omega))
    rw [if_neg (show ¬ ¬ (5 ≤ krs tp i ∧ krs tp i ≤ 10) by omega)] at h1 h2
    refine ⟨yO hy, fun v7 e7 => ?_⟩
    rw [h.2.2.1] at e7
    subst e7
    refine ifi (nI_ltI (b := 40) (by omega) (by decide)) (fun q3 => ?_) (fun q3 => ?_)
    · rw [if_neg (show ¬ D.length = 40 by omega)] at h1 h2
      refine c_adv (h.1.sR hz0) (h.1.dT hy hT0) hk h.2.1 (fun z9 c9 f9 => ?_)
      have g9 : Fg (aDC y) bTK z0 z9 := h.1.tr (f9.mono (fun b k q => Or.inl q))
      refine ⟨_, yR0 (g9.sR hz0) hy, yA1 hy, by rw [yL1 hy]; exact vp_in_nI q3 (by decide), fun z13 e13 z14 e14 => ?_⟩
      rw [nI_clamp (by omega)] at e13
      have e3 : gi z13 y 3 = nI D.length := by rw [e13, gi_si, if_neg (by omega), f9.1 _ _ (by unfold aTK; omega)]; exact h.2.2.1
      rw [e3, nI_1] at e14
      have hP14 : DP z0 y tp z14 (i + 1) D (krs tp i) := by
        refine ⟨?_, ?_, ?_, fun j hj => ?_, ?_⟩
        · rw [e14, e13]
          exact (g9.si (Or.inr (Or.inr (by omega)))).si (Or.inr (Or.inl ⟨rfl, rfl⟩))
        · rw [e14, e13]
          exact c9.fg (fun k _ _ => by rw [gi_si, if_neg (by omega), gi_si, if_neg (by omega)]) rfl
        · rw [e14, gi_si, if_pos ⟨rfl, rfl⟩]
        · have := h.2.2.2 j hj
          rw [e14, e13, gi_si, if_neg (by omega), gi_si, if_neg (by omega), gi_si, if_neg (by omega), gi_si, if_neg (by omega), gi_si, if_neg (by omega), gi_si, if_neg (by omega), f9.1 _ _ (by unfold aTK; omega), f9.1 _ _ (by unfold aTK; omega), f9.1 _ _ (by unfold aTK; omega)]
          exact this
        · rw [e14, e13, gi_si, if_neg (by omega), gi_si, if_pos ⟨rfl, rfl⟩]
      have hz14 := hP14.1.sR hz0
      have hT14 := hP14.1.dT hy hT0
      have eS : ∀ zz, Fg (aDC y) bTK z0 zz → cS zz t S := fun zz hf => hS.fr (fun a k q1 q2 => hf.1 a k (by unfold aDC; omega))
      have eN : ∀ zz, Fg (aDC y) bTK z0 zz → cNm zz t S nm := fun zz hf => hN.fr (fun a k q1 q2 => hf.2.1 a k (by unfold bTK; omega))
      have hS14 := eS _ hP14.1
      have hN14 := eN _ hP14.1
      have hc2 := hP14.2.1
      refine ifi (nI_eq (b := 5) (by omega) (by decide)) (fun q5 => ?_) (fun q5 => ?_)
      · -- walk
        rw [if_neg (show ¬ krs tp i = 10 by omega)] at h1 h2
        rw [if_pos (show krs tp i < 7 by omega), if_pos q5] at h1 h2
        refine ⟨tO ht, _, tR8 hz14 ht, _, yR1 hz14 hy, ?_⟩
        rw [hS14.2.1]
        refine c_names (S := S) (nm := nm) (F := 20) hz14 hT14 hk hc2 (tA11 ht) (by rw [tL11 ht]; exact k2) (by rw [tL11 ht]; decide) (fun k hk => hN14.2.1 k hk) (fun k hk => b2 k hk) (yA2 hy) (yL2 hy) q3 (by omega) (by omega) (fun r z' e => ?_) (fun r r2 z' e => ?_) (fun r r2 z' c' f' => ?_)
        · rw [if_pos rfl]
          rw [if_pos r] at h2
          exact h2 (Nat.succ_ne_zero _) z' (hP14.wr e)
        · rw [if_pos rfl]
          rw [if_neg r, if_pos r2] at h2
          exact h2 (Nat.succ_ne_zero _) z' (hP14.wr e)
        · rw [if_neg (by decide)]
          rw [if_neg r, if_neg (show ¬ ¬ tld S nm 20 (kvl tp (i + 1)) < nmC S 20 from fun x => x r2)] at h1 h2
          obtain ⟨hP20, p1, -⟩ := hP14.step hy (Or.inl rfl) c' f'
          refine c_cell hy (hP20.1.sR hz0) (hP20.1.dT hy hT0) hk hP20.2.1 q3 (fun s z' e => ?_) (fun s s2 z' e => ?_) (fun s s2 z' c2' f2' => ?_)
          · rw [if_pos rfl]
            rw [if_pos s] at h2
            exact h2 (Nat.succ_ne_zero _) z' (hP20.wr e)
          · rw [if_pos rfl]
            rw [if_neg s, if_pos s2] at h2
            exact h2 (Nat.succ_ne_zero _) z' (hP20.wr e)
          · rw [if_neg (by decide)]
            rw [if_neg s, if_neg (show ¬ ¬ kvl tp (i + 2) ≤ 9 from fun x => x s2)] at h1
            obtain ⟨hP22, p2, p3⟩ := hP20.step hy (Or.inr rfl) c2' f2'
            exact h1 rfl z' (hP22.fin (l := (0, tld S nm 20 (kvl tp (i + 1)), kvl tp (i + 2))) (by dsimp only; omega) (fun _ => (p3 rfl).trans p1) (fun _ => p2))
      refine ifi (nI_eq (b := 6) (by omega) (by decide)) (fun q6 => ?_) (fun q6 => ?_)
      · -- does
        rw [if_neg (show ¬ krs tp i = 10 by omega)] at h1 h2
        rw [if_pos (show krs tp i < 7 by omega), if_neg q5, if_pos q6] at h1 h2
        refine ⟨tO ht, _, tR8 hz14 ht, _, yR1 hz14 hy, ?_⟩
        rw [hS14.2.1]
        refine c_names (S := S) (nm := nm) (F := 20) hz14 hT14 hk hc2 (tA11 ht) (by rw [tL11 ht]; exact k2) (by rw [tL11 ht]; decide) (fun k hk => hN14.2.1 k hk) (fun k hk => b2 k hk) (yA2 hy) (yL2 hy) q3 (by omega) (by omega) (fun r z' e => ?_) (fun r r2 z' e => ?_) (fun r r2 z' c' f' => ?_)
        · rw [if_pos rfl]
          rw [if_pos r] at h2
          exact h2 (Nat.succ_ne_zero _) z' (hP14.wr e)
        · rw [if_pos rfl]
          rw [if_neg r, if_pos r2] at h2
          exact h2 (Nat.succ_ne_zero _) z' (hP14.wr e)
        · rw [if_neg (by decide)]
          rw [if_neg r, if_neg (show ¬ ¬ tld S nm 20 (kvl tp (i + 1)) < nmC S 20 from fun x => x r2)] at h1 h2
          obtain ⟨hP20, p1, -⟩ := hP14.step hy (Or.inl rfl) c' f'
          have hz20 := hP20.1.sR hz0
          refine ⟨_, tR9 hz20 ht, _, yR2 hz20 hy, ?_⟩
          rw [(eS _ hP20.1).2.2.1]
          refine c_names (S := S) (nm := nm) (F := 40) hz20 (hP20.1.dT hy hT0) hk hP20.2.1 (tA12 ht) (by rw [tL12 ht]; exact k3) (by rw [tL12 ht]; decide) (fun k hk => (eN _ hP20.1).2.2 k hk) (fun k hk => b3 k hk) (yA3 hy) (yL3 hy) q3 (by omega) (by omega) (fun s z' e => ?_) (fun s s2 z' e => ?_) (fun s s2 z' c2' f2' => ?_)
          · rw [if_pos rfl]
            rw [if_pos s] at h2
            exact h2 (Nat.succ_ne_zero _) z' (hP20.wr e)
          · rw [if_pos rfl]
            rw [if_neg s, if_pos (show ¬ tld S nm 40 (kvl tp (i + 2)) < sDE S from s2)] at h2
            exact h2 (Nat.succ_ne_zero _) z' (hP20.wr e)
          · rw [if_neg (by decide)]
            rw [if_neg s, if_neg (show ¬ ¬ tld S nm 40 (kvl tp (i + 2)) < sDE S from fun x => x s2)] at h1
            obtain ⟨hP22, p2, p3⟩ := hP20.step hy (Or.inr rfl) c2' f2'
            exact h1 rfl z' (hP22.fin (l := (1, tld S nm 20 (kvl tp (i + 1)), tld S nm 40 (kvl tp (i + 2)))) (by dsimp only; omega) (fun _ => (p3 rfl).trans p1) (fun _ => p2))
      refine ifi (nI_eq (b := 10) (by omega) (by decide)) (fun q7 => ?_) (fun q7 => ?_)
      · rw [if_pos q7] at h1
        exact h1 rfl z14 (hP14.fin (l := (5, 0, 0)) (by dsimp only; omega) (fun r => absurd rfl r) (fun r => absurd r (by decide)))
      · rw [if_neg q7, if_neg (show ¬ krs tp i < 7 by omega), if_neg q5, if_neg q6] at h1 h2
        refine ⟨tO ht, _, tR7 hz14 ht, _, yR1 hz14 hy, ?_⟩
        rw [hS14.1]
        refine c_names (S := S) (nm := nm) (F := 0) hz14 hT14 hk hc2 (tA10 ht) (by rw [tL10 ht]; exact k1) (by rw [tL10 ht]; decide) (fun k hk => hN14.1 k hk) (fun k hk => b1 k hk) (yA2 hy) (yL2 hy) q3 (by omega) (by omega) (fun r z' e => ⟨bo_0, ?_⟩) (fun r r2 z' e => ⟨bo_0, ?_⟩) (fun r r2 z' c' f' => ⟨bo_1, ?_⟩)
        · rw [if_pos r] at h2
          exact h2 (Nat.succ_ne_zero _) z' (hP14.wr e)
        · rw [if_neg r, if_pos r2] at h2
          exact h2 (Nat.succ_ne_zero _) z' (hP14.wr e)
        · rw [if_neg r, if_neg (show ¬ ¬ tld S nm 0 (kvl tp (i + 1)) < nmC S 0 from fun x => x r2)] at h1
          obtain ⟨hP20, p1, -⟩ := hP14.step hy (Or.inl rfl) c' f'
          exact h1 rfl z' (hP20.fin (l := (krs tp i - 5, tld S nm 0 (kvl tp (i + 1)), 0)) (by dsimp only; omega) (fun _ => p1) (fun r => absurd r (by dsimp only; omega)))
    · rw [if_pos (show D.length = 40 by omega)] at h2
      exact c_wrong (f := 5) h.2.1 (fun z' e => h2 (Nat.succ_ne_zero _) z' (h.wr e))
  · have er : rI 22 (krs tp i) = nN := by unfold rI; rw [if_neg hr]
    rw [er] at e2
    subst e2
    rw [if_pos (by decide)]
    exact hJ16 (by omega)
theorem c_dLp (hz0 : sR z0) (hT0 : cT z0 tp) (hk : tOK tp) (hn : tK tp n) (ht : isS t) (hy : isY y) (hok : sOK S) (hnm : nmOK S nm) (hS : cS z0 t S) (hN : cNm z0 t S nm) : ∀ f x z i D, x + f = 1000 → DC z0 y tp z i D → i ≤ n → D.length ≤ 40 → ((dLp tp S nm f i D).1 = 0 → ∀ z' j, DC z0 y tp z' j (dLp tp S nm f i D).2.2 → P 1 z') → ((dLp tp S nm f i D).1 ≠ 0 → ∀ z', DF z0 y z' (kfl tp (dLp tp S nm f i D).1 (dLp tp S nm f i D).2.1) → P 0 z') → wX1_reads_L10 148 gSH P (f + 1) 1 t y (nI x) z := by
  have yl := hy.le
  intro f
  induction f with
  | zero =>
    intro x z i D hx h hi hD h1 h2
    unfold wX1_reads_L10 wX1_reads_B10
    rw [if_pos (show (1000 : Int32) ≤ nI x from nI_le (a := 1000) (by omega) (by omega))]
    exact h1 rfl z i h
  | succ f ih =>
    intro x z i D hx h hi hD h1 h2
    unfold wX1_reads_L10 wX1_reads_B10
    rw [if_neg (show ¬ (1000 : Int32) ≤ nI x from nI_ge (b := 1000) (by omega) (by decide))]
    refine ⟨tpO, c_isAtEnd h.2.1 ?_⟩
    simp only [dLp] at h1 h2
    refine ift (fun q => ?_) (fun q => ?_)
    · rw [nI_b0, decide_eq_false_iff_not] at q
      rw [if_neg q] at h1 h2
      obtain ⟨a1, a2, a3⟩ := dLn_ok (S := S) (nm := nm) (m := D.length) hn hi hD
      refine c_dLn hz0 hT0 hk ht hy hok hnm hS hN h hD (fun q1 z11 h11 => ?_) (fun q1 z11 h11 => ?_)
      · rw [if_neg (by decide)]
        rw [if_pos q1] at h1 h2
        obtain ⟨b1, b2, b3⟩ := a3 q1
        refine c_takesSign (c := 59) (h11.1.sR hz0) (h11.1.dT hy hT0) hk h11.2.1 (by decide) (fun q2 z13 c13 f13 => ?_) (fun q2 z13 e13 => ?_)
        · rw [if_neg (by decide)]
          rw [if_pos q2] at h1 h2
          intro v14 e14
          rw [nI_1] at e14
          subst e14
          refine ih (x + 1) z13 _ _ (by omega) ⟨h11.1.tr (f13.mono (fun b k q => Or.inl q)), c13, ?_, fun j hj => ?_⟩ (hn.nx a2 (by have := sgn_k q2; omega)) (by simp only [List.length_append, List.length_singleton]; omega) h1 h2
          · rw [f13.1 _ _ (by unfold aTK; omega)]; exact h11.2.2.1
          · rw [f13.1 _ _ (by unfold aTK; omega), f13.1 _ _ (by unfold aTK; omega), f13.1 _ _ (by unfold aTK; omega)]
            exact h11.2.2.2 j hj
        · rw [if_pos rfl]
          rw [if_neg (by rw [q2]; decide)] at h2
          exact h2 (Nat.succ_ne_zero _) z13 (h11.wr e13)
      · rw [if_pos rfl]
        rw [if_neg q1] at h2
        exact h2 q1 z11 h11
    · rw [nI_b0, Bool.not_eq_false, decide_eq_true_eq] at q
      rw [if_pos q] at h1
      exact h1 rfl z i h
theorem c_day (hz : sR z) (hT : cT z tp) (hk : tOK tp) (hn : tK tp n) (ht : isS t) (hy : isY y) (hok : sOK S) (hnm : nmOK S nm) (hS : cS z t S) (hN : cNm z t S nm) (h1 : (dLp tp S nm 1000 0 []).1 = 0 → ∀ z', Fg (aDC y) bTK z z' → cD z' y (dLp tp S nm 1000 0 []).2.2 → P 1 z') (h2 : (dLp tp S nm 1000 0 []).1 ≠ 0 → ∀ z', Fg (aDC y) bTK z z' → gi z' 1 8 = nI (kfl tp (dLp tp S nm 1000 0 []).1 (dLp tp S nm 1000 0 []).2.1) → P 0 z') : wX1_reads 148 gSH 1 t y z P := by
  have yl := hy.le
  refine ⟨yO hy, yO hy, fun z2 e2 => ⟨tpO, tpO, fun z3 e3 z4 e4 => ?_⟩⟩
  have f2 : Fg (aDC y) bTK z z4 := by
    rw [e4, e3, e2]
    exact ((Fg.rf.si (Or.inr (Or.inl ⟨rfl, rfl⟩))).si (Or.inl ⟨rfl, by decide⟩)).si (Or.inl ⟨rfl, by decide⟩)
  refine c_adv0 (i := 0) (f2.sR hz) (f2.dT hy hT) hk (by rw [e4, gi_si, if_neg (by omega), e3, gi_si, if_pos ⟨rfl, rfl⟩]; rfl) (fun z5 c5 f5 => ?_)
  have g5 : Fg (aDC y) bTK z z5 := f2.tr (f5.mono (fun b k q => Or.inl q))
  refine ⟨1001, c_dLp hz hT hk hn ht hy hok hnm hS hN 1000 0 z5 0 [] (by decide) ⟨g5, c5, ?_, fun j hj => absurd hj (Nat.not_lt_zero _)⟩ (Nat.zero_le _) (Nat.zero_le _) (fun q z' j h => h1 q z' h.1 ⟨h.2.2.1, h.2.2.2⟩) (fun q z' h => h2 q z' h.1 h.2)⟩
  rw [f5.1 _ _ (by unfold aTK; omega), e4, gi_si, if_neg (by omega), e3, gi_si, if_neg (by omega), e2, gi_si, if_pos ⟨rfl, rfl⟩]
  rfl
end RD
