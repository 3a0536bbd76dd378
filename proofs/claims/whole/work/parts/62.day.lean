/-! ===== a day is played ===== -/
def dyC (W : sW) (l : sL) : Bool := if l.1 = 0 then decide (dst l.2.2 (wC W l.2.1) = 1) else if l.1 = 1 then true else if l.1 = 2 then cRn W l.2.1 else if l.1 = 5 then true else !wG W l.2.1
def dyN (S : sS) (W : sW) (l : sL) : sW := if l.1 = 0 then (if dst l.2.2 (wC W l.2.1) = 1 then stW W l.2.1 l.2.2 else W) else if l.1 = 1 then acW S W l.2.1 l.2.2 else if l.1 = 2 then (if cRn W l.2.1 = true then rnW W l.2.1 else W) else if l.1 = 3 then (if wG W l.2.1 = true then W else plW W l.2.1) else if l.1 = 4 then (if wG W l.2.1 = true then W else smW W l.2.1) else psW S W
def dyU (S : sS) (W : sW) (l : sL) : Bool := decide (l.1 = 1) && decide (sWa S W (wC W l.2.1) = 0)
def upO (b : Bool) (k : Nat) (o : Option Nat) : Option Nat := if b = true ∧ o = none then some k else o
def dyS (S : sS) (D : List sL) : Nat → sW × Option Nat × Option Nat
  | 0 => (bgW S, none, none)
  | k + 1 => (dyN S (dyS S D k).1 (D.getD k l0), upO (!dyC (dyS S D k).1 (D.getD k l0)) k (dyS S D k).2.1, upO (dyU S (dyS S D k).1 (D.getD k l0)) k (dyS S D k).2.2)
section EQ
variable {S : sS} {W : sW} {fi se : Nat}
theorem dyN_0 : dyN S W (0, fi, se) = if dst se (wC W fi) = 1 then stW W fi se else W := rfl
theorem dyN_2 : dyN S W (2, fi, se) = if cRn W fi = true then rnW W fi else W := rfl
theorem dyN_3 : dyN S W (3, fi, se) = if wG W fi = true then W else plW W fi := rfl
theorem dyN_4 : dyN S W (4, fi, se) = if wG W fi = true then W else smW W fi := rfl
theorem dyN_5 : dyN S W (5, fi, se) = psW S W := rfl
theorem dyC_0 : dyC W (0, fi, se) = decide (dst se (wC W fi) = 1) := rfl
theorem dyC_2 : dyC W (2, fi, se) = cRn W fi := rfl
theorem dyC_3 : dyC W (3, fi, se) = !wG W fi := rfl
theorem dyC_4 : dyC W (4, fi, se) = !wG W fi := rfl
theorem dyC_5 : dyC W (5, fi, se) = true := rfl
end EQ
def lnOK (S : sS) (l : sL) : Prop := l.1 < 6 ∧ (l.1 < 2 → l.2.1 < sPE S) ∧ (2 ≤ l.1 → l.1 < 5 → l.2.1 < sPA S) ∧ (l.1 = 0 → l.2.2 < 10) ∧ (l.1 = 1 → l.2.2 < sDE S)
theorem lget {S : sS} {D : List sL} (h : dOK S D) {k : Nat} (hk : k < D.length) : lnOK S (D.getD k l0) := by
  refine h.2 _ ?_
  rw [List.getD_eq_getElem?_getD, List.getElem?_eq_getElem hk]
  exact List.getElem_mem hk
theorem dyN_ok {S : sS} {W : sW} {l : sL} (hok : sOK S) (h : wOK S W) (hl : lnOK S l) : wOK S (dyN S W l) ∧ wT (dyN S W l) ≤ wT W + 1 := by
  obtain ⟨wh, fi, se⟩ := l
  obtain ⟨h1, h2, h3, h4, h5⟩ := hl
  dsimp only at h1 h2 h3 h4 h5
  have : wh = 0 ∨ wh = 1 ∨ wh = 2 ∨ wh = 3 ∨ wh = 4 ∨ wh = 5 := by omega
  unfold dyN
  dsimp only
  rcases this with rfl | rfl | rfl | rfl | rfl | rfl
  · rw [if_pos rfl]
    split
    · exact ⟨stW_ok h (h4 rfl), Nat.le_succ _⟩
    · exact ⟨h, Nat.le_succ _⟩
  · rw [if_neg (by decide), if_pos rfl]
    exact ⟨acW_ok hok h (h2 (by decide)) (h5 rfl), Nat.le_succ _⟩
  · rw [if_neg (by decide), if_neg (by decide), if_pos rfl]
    split
    · exact ⟨rnW_ok h, Nat.le_succ _⟩
    · exact ⟨h, Nat.le_succ _⟩
  · rw [if_neg (by decide), if_neg (by decide), if_neg (by decide), if_pos rfl]
    split
    · exact ⟨h, Nat.le_succ _⟩
    · exact ⟨plW_ok h (h3 (by decide) (by decide)), Nat.le_succ _⟩
  · rw [if_neg (by decide), if_neg (by decide), if_neg (by decide), if_neg (by decide), if_pos rfl]
    split
    · exact ⟨h, Nat.le_succ _⟩
    · exact ⟨smW_ok h (h3 (by decide) (by decide)), Nat.le_succ _⟩
  · rw [if_neg (by decide), if_neg (by decide), if_neg (by decide), if_neg (by decide), if_neg (by decide)]
    exact ⟨psW_ok h, Nat.le_refl _⟩
theorem dyS_ok {S : sS} {D : List sL} (hok : sOK S) (hd : dOK S D) : ∀ k, k ≤ D.length → wOK S (dyS S D k).1 ∧ wT (dyS S D k).1 ≤ k
  | 0, _ => ⟨bgW_ok hok, Nat.le_refl 0⟩
  | k + 1, hk => by
    obtain ⟨h1, h2⟩ := dyS_ok hok hd k (by omega)
    obtain ⟨h3, h4⟩ := dyN_ok hok h1 (lget hd (show k < D.length by omega))
    exact ⟨h3, by show wT (dyN S (dyS S D k).1 (D.getD k l0)) ≤ _; omega⟩
theorem upO_lt {b : Bool} {k : Nat} {o : Option Nat} (h : oLt k o) : oLt (k + 1) (upO b k o) := by
  unfold upO
  split
  · exact Nat.lt_succ_self k
  · cases o with
    | none => trivial
    | some j => exact Nat.lt_succ_of_lt h
theorem dyS_lt {S : sS} {D : List sL} : ∀ k, oLt k (dyS S D k).2.1 ∧ oLt k (dyS S D k).2.2
  | 0 => ⟨trivial, trivial⟩
  | k + 1 => ⟨upO_lt (dyS_lt k).1, upO_lt (dyS_lt k).2⟩
theorem MW.oth {z z' : gS} {b : Nat} {S : sS} {W : sW} (h : MW z b S W) (hz : sR z') (hs : ∀ a k, a = 135 ∨ a = 145 → gi z' a k = gi z a k) : MW z' b S W := ⟨hz, h.2.1, h.2.2.1, h.2.2.2.1, h.2.2.2.2.1.fr (fun k => hs _ _ (Or.inl rfl)), h.2.2.2.2.2.1.fr (fun k => hs _ _ (Or.inr rfl)), h.2.2.2.2.2.2⟩
theorem CW.oth {z z' : gS} {t w : Nat} {S : sS} {W : sW} (h : CW z t w S W) (hz : sR z') (hs : ∀ a k, (t ≤ a ∧ a ≤ t + 9) ∨ (w ≤ a ∧ a ≤ w + 3) → gi z' a k = gi z a k) : CW z' t w S W := ⟨hz, h.2.1, h.2.2.1, h.2.2.2.1, h.2.2.2.2.1, h.2.2.2.2.2.1, h.2.2.2.2.2.2.1.fr (fun a k q1 q2 => hs _ _ (Or.inl ⟨q1, q2⟩)), h.2.2.2.2.2.2.2.fr (fun a k q1 q2 => hs _ _ (Or.inr ⟨q1, q2⟩))⟩
theorem wrCt_of {w t a k : Nat} (h : wrC w a k) : wrCt w t a k := Or.inl h
section RP
variable {z : gS} {n y t k : Nat} {S : sS} {W : sW} {l : sL} {P : Int32 → gS → Prop}
theorem c_isPlayed (hy : isY y) (h : CW z t 7 S W) (hL : lwOK S) (hT1 : wT W + 1 < 2 ^ 20) (hk : k < 40) (hv : gi z (y + 1) k = nI (5 + l.1)) (hf : l.1 ≠ 5 → gi z (y + 2) k = nI l.2.1) (hs : l.1 < 2 → gi z (y + 3) k = nI l.2.2) (hl : lnOK S l) (hne : l.1 ≠ 1) (hP : ∀ z', CW z' t 7 S (dyN S W l) → Fr (wrCt 7 t) z z' → P (nI (dyC W l).toNat) z') : wX0_isPlayed 148 gSH y t 7 (nI k) z P := by
  have hz := h.1
  obtain ⟨wh, fi, se⟩ := l
  obtain ⟨h1, h2, h3, h4, h5⟩ := hl
  dsimp only at h1 h2 h3 h4 h5 hv hf hs hne
  have : wh = 0 ∨ wh = 2 ∨ wh = 3 ∨ wh = 4 ∨ wh = 5 := by omega
  refine ⟨yO hy, _, yR1 hz hy, yA2 hy, by rw [yL2 hy]; exact vp_in_nI hk (by decide), fun v5 e5 => ?_⟩
  refine ⟨_, yR0 hz hy, yA1 hy, by rw [yL1 hy]; exact vp_in_nI hk (by decide), fun v9 e9 => ?_⟩
  rw [nI_clamp (by omega)] at e5 e9
  rw [hv] at e9
  rcases this with rfl | rfl | rfl | rfl | rfl
  · rw [hf (by decide)] at e5
    subst e5 e9
    rw [if_pos (by decide)]
    refine ⟨_, yR2 hz hy, yA3 hy, by rw [yL3 hy]; exact vp_in_nI hk (by decide), wO w7, ?_⟩
    rw [nI_clamp (by omega), hs (by decide)]
    rw [dyN_0, dyC_0] at hP
    refine c_steps h (h2 (by decide)) (h4 rfl) (fun q => ⟨bo_0, ?_⟩) (fun q z' hc' hf' => ⟨bo_1, ?_⟩)
    · rw [if_neg q, decide_eq_false q] at hP
      exact hP z h Fr.rf
    · rw [if_pos q, decide_eq_true q] at hP
      exact hP z' hc' (hf'.mono (fun _ _ q => wrCt_of q))
  · rw [hf (by decide)] at e5
    subst e5 e9
    rw [if_neg (by decide), if_neg (by decide), if_pos (by decide)]
    rw [dyN_2, dyC_2] at hP
    refine ⟨wO w7, c_rinses h (h3 (by decide) (by decide)) (fun q => ⟨bo_0, ?_⟩) (fun q z' hc' hf' => ⟨bo_1, ?_⟩)⟩
    · rw [q, if_neg (by decide)] at hP
      exact hP z h Fr.rf
    · rw [q, if_pos rfl] at hP
      exact hP z' hc' (hf'.mono (fun _ _ q => wrCt_of q))
  · rw [hf (by decide)] at e5
    subst e5 e9
    rw [if_neg (by decide), if_neg (by decide), if_neg (by decide), if_pos (by decide)]
    rw [dyN_3, dyC_3] at hP
    refine ⟨wO w7, c_pulls h (h3 (by decide) (by decide)) (fun q => ⟨bo_0, ?_⟩) (fun q z' hc' hf' => ⟨bo_1, ?_⟩)⟩
    · rw [q, if_pos rfl] at hP
      exact hP z h Fr.rf
    · rw [q, if_neg (by decide)] at hP
      exact hP z' hc' (hf'.mono (fun _ _ q => wrCt_of q))
  · rw [hf (by decide)] at e5
    subst e5 e9
    rw [if_neg (by decide), if_neg (by decide), if_neg (by decide), if_neg (by decide), if_pos (by decide)]
    rw [dyN_4, dyC_4] at hP
    refine ⟨wO w7, c_smashes h (h3 (by decide) (by decide)) (fun q => ⟨bo_0, ?_⟩) (fun q z' hc' hf' => ⟨bo_1, ?_⟩)⟩
    · rw [q, if_pos rfl] at hP
      exact hP z h Fr.rf
    · rw [q, if_neg (by decide)] at hP
      exact hP z' hc' (hf'.mono (fun _ _ q => wrCt_of q))
  · subst e9
    rw [if_neg (by decide), if_neg (by decide), if_neg (by decide), if_neg (by decide), if_neg (by decide)]
    exact ⟨wO w7, c_pass h hL hT1 (fun z' hc' hf' => hP z' hc' hf')⟩
def aDn : Nat → Nat → Prop := fun a k => wrMt 1386 a k ∨ (a = 129 ∧ k = 27)
theorem m_done (h : MW z 1386 S W) (hmL : mL z S) (hL : lwOK S) (hT1 : wT W + 1 < 2 ^ 20) (hl : lnOK S l) (hP : ∀ z', MW z' 1386 S (dyN S W l) → gi z' 129 27 = nI (dyU S W l).toNat → Fr aDn z z' → P (nI (dyC W l).toNat) z') : wX12_done 148 gSH 129 (nI l.1) (nI l.2.1) (nI l.2.2) z P := by
  have hz := h.1
  have hok := h.2.1
  have k6 := hok.1
  have k5 := hok.2.1
  have k3 := hok.2.2.1
  obtain ⟨wh, fi, se⟩ := l
  obtain ⟨h1, h2, h3, h4, h5⟩ := hl
  dsimp only at h1 h2 h3 h4 h5 ⊢
  have : wh = 0 ∨ wh = 1 ∨ wh = 2 ∨ wh = 3 ∨ wh = 4 ∨ wh = 5 := by omega
  have hz2 : ∀ z2, z2 = si z 129 27 0 → MW z2 1386 S W ∧ mL z2 S ∧ gi z2 129 27 = nI 0 ∧ Fr aDn z z2 := by
    intro z2 e2
    subst e2
    exact ⟨h.oth (hz.to (fun _ _ => rfl)) (fun a k q => by rw [gi_si, if_neg (by omega)]), hmL.fr (fun a k q1 q2 => by rw [gi_si, if_neg (by omega)]), by rw [gi_si, if_pos ⟨rfl, rfl⟩]; rfl, Fr.rf.si (Or.inr ⟨rfl, rfl⟩)⟩
  have hno : ∀ (x1 x2 x3 : Int32) z2, z2 = si z 129 27 0 → dyU S W (wh, fi, se) = false → dyN S W (wh, fi, se) = W → dyC W (wh, fi, se) = false → wX12_done_J88 148 gSH P 129 x1 x2 x3 (nI 0) z2 := by
    intro x1 x2 x3 z2 e2 q1 q2 q3
    obtain ⟨g1, g2, g3, g4⟩ := hz2 z2 e2
    have := hP z2 (by rw [q2]; exact g1) (by rw [q1]; exact g3) g4
    rw [q3] at this
    unfold wX12_done_J88 wX12_done_J132 wX12_done_J159 wX12_done_J194 wX12_done_J218
    exact if0 (if0 (if0 (if0 (if0 ⟨bo_0, this⟩))))
  unfold wX12_done
  rcases this with rfl | rfl | rfl | rfl | rfl | rfl
  · rw [if_pos (by decide)]
    have hp := h2 (by decide)
    have hc := h4 rfl
    refine ⟨mO, m_mayWalk h hp hc ⟨mO, fun z2 e2 => ifb0 (fun q => ?_) (fun q => ?_)⟩⟩
    · rw [q]
      refine hno _ _ _ z2 e2 rfl ?_ ?_
      · rw [dyN_0, if_neg (of_decide_eq_false q)]
      · rw [dyC_0, q]
    · obtain ⟨g1, g2, g3, g4⟩ := hz2 z2 e2
      rw [q, if_pos (by decide)]
      refine ⟨_, mR24 g1.1, mA145, ?_⟩
      rw [show (1387 : Int32) = nI 1387 by decide, nI_add, nI_clamp (by omega), mL145]
      refine ⟨vp_in_nI (by omega) (by decide), fun z3 e3 => ⟨bo_1, ?_⟩⟩
      have e1 : dyN S W (0, fi, se) = stW W fi se := by
        rw [dyN_0, if_pos (of_decide_eq_true q)]
      have e4 : dyC W (0, fi, se) = true := by
        rw [dyC_0, q]
      have := hP z3 (by rw [e1, e3]; exact g1.step hp hc) (by rw [e3, gi_si, if_neg (by omega)]; exact g3) (by rw [e3]; exact g4.si (Or.inl (Or.inl ⟨rfl, by omega, by omega⟩)))
      rw [e4] at this
      exact this
  · rw [if_neg (by decide), if_neg (by decide), if_pos (by decide)]
    have hp := h2 (by decide)
    have hd := h5 rfl
    refine ⟨mO, fun z2 e2 => ?_⟩
    obtain ⟨g1, g2, g3, g4⟩ := hz2 z2 e2
    rw [if_neg (by decide), if_neg (by decide)]
    unfold wX12_done_J88
    rw [if_neg (by decide), if_pos (by decide)]
    refine ⟨mO, _, mR24 g1.1, mA145, ?_⟩
    rw [show (1387 : Int32) = nI 1387 by decide, nI_add, nI_clamp (by omega), mL145, show 1387 + fi = 1386 + 1 + fi by omega, g1.2.2.2.2.2.1.2.1 fi hp]
    refine ⟨vp_in_nI (by omega) (by decide), m_does (b := 1386) g1 hp hd (fun z3 hm3 hf3 => ?_)⟩
    have hgo : ∀ (b : Bool) (z4 : gS), b = decide (sWa S W (wC W fi) = 0) → z4 = si z3 129 27 (nI b.toNat) → bo 1 ∧ P 1 z4 := by
      intro b z4 eb e4
      have := hP z4 ?_ ?_ ?_
      · exact ⟨bo_1, this⟩
      · show MW z4 1386 S (acW S W fi se)
        rw [e4]
        exact hm3.oth (hm3.1.to (fun _ _ => rfl)) (fun a k q => by rw [gi_si, if_neg (by omega)])
      · rw [e4, gi_si, if_pos ⟨rfl, rfl⟩, eb]
        rfl
      · rw [e4]
        exact (g4.tr hf3 (fun _ _ q => q) (fun _ _ q => Or.inl (Or.inl q))).si (Or.inr ⟨rfl, rfl⟩)
    have hlt : sWa S W (wC W fi) < 64 := bs_64 _ k6
    by_cases e : sWa S W (wC W fi) = 0
    · rw [if_pos (show nI (sWa S W (wC W fi)) = 0 by rw [e]; rfl)]
      exact ⟨mO, Or.inr rfl, fun z4 e4 => hgo true z4 (decide_eq_true e).symm e4⟩
    · rw [if_neg (nI_ne0 (by omega) (by omega))]
      exact ⟨mO, Or.inl rfl, fun z4 e4 => hgo false z4 (decide_eq_false e).symm e4⟩
  · rw [if_neg (by decide), if_pos (by decide)]
    have hg := h3 (by decide) (by decide)
    have hl6 := ln_le hok h.2.2.1 hg
    unfold ln at hl6
    refine ⟨mO, m_mayWash h hg ⟨mO, fun z2 e2 => ifb0 (fun q => ?_) (fun q => ?_)⟩⟩
    · rw [q]
      refine hno _ _ _ z2 e2 rfl ?_ ?_
      · rw [dyN_2, q, if_neg (by decide)]
      · rw [dyC_2, q]
    · obtain ⟨g1, g2, g3, g4⟩ := hz2 z2 e2
      have hpos : 0 < (wM W fi).length := by
        have q2 := q
        unfold cRn at q2
        simp at q2
        exact q2.2
      rw [q, if_neg (by decide)]
      unfold wX12_done_J88 wX12_done_J132
      rw [if_neg (by decide), if_neg (by decide), if_neg (by decide), if_pos (by decide)]
      refine ⟨mO, _, mR24 g1.1, mA145, ?_⟩
      have e := g1.he hg
      unfold ln at e
      rw [show (1404 : Int32) = nI 1404 by decide, nI_add, nI_clamp (by omega), mL145, show 1404 + fi = 1386 + 18 + fi by omega, e, j_1, pk_sub (by omega)]
      refine ⟨vp_in_nI (by omega) (by decide), vp_in_nI (by omega) (by decide), fun z3 e3 => ⟨bo_1, ?_⟩⟩
      have e1 : dyN S W (2, fi, se) = rnW W fi := by
        rw [dyN_2, q, if_pos rfl]
      have e4 : dyC W (2, fi, se) = true := by
        rw [dyC_2, q]
      have := hP z3 (by rw [e1, e3]; exact g1.rinse hg) (by rw [e3, gi_si, if_neg (by omega)]; exact g3) (by rw [e3]; exact g4.si (Or.inl (Or.inl ⟨rfl, by omega, by omega⟩)))
      rw [e4] at this
      exact this
  · rw [if_neg (by decide), if_neg (by decide), if_neg (by decide), if_neg (by decide)]
    have hg := h3 (by decide) (by decide)
    refine ⟨mO, m_isWhole hz h.2.2.2.2.2.1 hok (by decide) hg (ifb0 (fun q => ?_) (fun q => ?_))⟩
    · have q1 : wG W fi = true := by simpa using q
      refine ⟨mO, fun z2 e2 => if0 ?_⟩
      refine hno _ _ _ z2 e2 rfl ?_ ?_
      · rw [dyN_3, q1, if_pos rfl]
      · rw [dyC_3, q1]
        rfl
    · have q1 : wG W fi = false := by simpa using q
      refine ⟨mO, fun z2 e2 => if1 ?_⟩
      obtain ⟨g1, g2, g3, g4⟩ := hz2 z2 e2
      rw [if_neg (by decide)]
      unfold wX12_done_J88 wX12_done_J132 wX12_done_J159
      rw [if_neg (by decide), if_neg (by decide), if_neg (by decide), if_neg (by decide), if_neg (by decide), if_pos (by decide)]
      refine ⟨mO, _, mR24 g1.1, _, mR24 g1.1, mA145, ?_⟩
      rw [show (1392 : Int32) = nI 1392 by decide, nI_add, nI_clamp (by omega), mL145, show 1392 + fi = 1386 + 6 + fi by omega, g1.2.2.2.2.2.1.2.2.1 fi hg]
      refine ⟨vp_in_nI (by omega) (by decide), mA145, vp_in_nI (by omega) (by decide), fun z3 e3 => ⟨bo_1, ?_⟩⟩
      rw [show (1 : Int32) - nI (wD W fi).toNat = nI (!wD W fi).toNat by cases wD W fi <;> decide] at e3
      have e1 : dyN S W (3, fi, se) = plW W fi := by
        rw [dyN_3, q1, if_neg (by decide)]
      have e4 : dyC W (3, fi, se) = true := by
        rw [dyC_3, q1]
        rfl
      have := hP z3 (by rw [e1, e3]; exact g1.pull hg) (by rw [e3, gi_si, if_neg (by omega)]; exact g3) (by rw [e3]; exact g4.si (Or.inl (Or.inl ⟨rfl, by omega, by omega⟩)))
      rw [e4] at this
      exact this
  · rw [if_neg (by decide), if_neg (by decide), if_neg (by decide), if_neg (by decide)]
    have hg := h3 (by decide) (by decide)
    refine ⟨mO, m_isWhole hz h.2.2.2.2.2.1 hok (by decide) hg (ifb0 (fun q => ?_) (fun q => ?_))⟩
    · have q1 : wG W fi = true := by simpa using q
      refine ⟨mO, fun z2 e2 => if0 ?_⟩
      refine hno _ _ _ z2 e2 rfl ?_ ?_
      · rw [dyN_4, q1, if_pos rfl]
      · rw [dyC_4, q1]
        rfl
    · have q1 : wG W fi = false := by simpa using q
      refine ⟨mO, fun z2 e2 => if1 ?_⟩
      obtain ⟨g1, g2, g3, g4⟩ := hz2 z2 e2
      rw [if_neg (by decide)]
      unfold wX12_done_J88 wX12_done_J132 wX12_done_J159 wX12_done_J194
      rw [if_neg (by decide), if_neg (by decide), if_neg (by decide), if_neg (by decide), if_neg (by decide), if_neg (by decide), if_neg (by decide), if_pos (by decide)]
      refine ⟨mO, _, mR24 g1.1, mA145, ?_⟩
      rw [show (1398 : Int32) = nI 1398 by decide, nI_add, nI_clamp (by omega), mL145, show 1398 + fi = 1386 + 12 + fi by omega]
      refine ⟨vp_in_nI (by omega) (by decide), fun z3 e3 => ⟨bo_1, ?_⟩⟩
      have e1 : dyN S W (4, fi, se) = smW W fi := by
        rw [dyN_4, q1, if_neg (by decide)]
      have e4 : dyC W (4, fi, se) = true := by
        rw [dyC_4, q1]
        rfl
      have := hP z3 (by rw [e1, e3]; exact g1.smash hg) (by rw [e3, gi_si, if_neg (by omega)]; exact g3) (by rw [e3]; exact g4.si (Or.inl (Or.inl ⟨rfl, by omega, by omega⟩)))
      rw [e4] at this
      exact this
  · rw [if_neg (by decide), if_neg (by decide), if_neg (by decide), if_pos (by decide)]
    refine ⟨mO, fun z2 e2 => ?_⟩
    obtain ⟨g1, g2, g3, g4⟩ := hz2 z2 e2
    rw [if_neg (by decide), if_neg (by decide)]
    unfold wX12_done_J88 wX12_done_J132 wX12_done_J159 wX12_done_J194 wX12_done_J218
    rw [if_neg (by decide), if_neg (by decide), if_neg (by decide), if_neg (by decide), if_neg (by decide), if_neg (by decide), if_neg (by decide), if_neg (by decide), if_neg (by decide)]
    refine ⟨mO, m_passes (b := 1386) g1 g2 hL hT1 (fun z3 hm3 hf3 => ⟨bo_1, ?_⟩)⟩
    exact hP z3 hm3 ((hf3.1 _ _ (by unfold wrMt wrM; omega)).trans g3) (g4.tr hf3 (fun _ _ q => q) (fun _ _ q => Or.inl q))
end RP
