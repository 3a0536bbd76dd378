/-! ===== what a street and a world are ===== -/
abbrev sM : Type := Nat × Nat × Nat × Nat
abbrev sS : Type := Nat × (Nat → Nat) × (Nat → Nat) × (Nat → Nat → Bool) × Nat × (Nat → Nat) × Nat × (Nat → Nat) × Nat × (Nat → Nat) × List Int32
def sPA (S : sS) : Nat := S.1
def sKD (S : sS) : Nat → Nat := S.2.1
def sKP (S : sS) : Nat → Nat := S.2.2.1
def sSE (S : sS) : Nat → Nat → Bool := S.2.2.2.1
def sPE (S : sS) : Nat := S.2.2.2.2.1
def sHO (S : sS) : Nat → Nat := S.2.2.2.2.2.1
def sDE (S : sS) : Nat := S.2.2.2.2.2.2.1
def sHA (S : sS) : Nat → Nat := S.2.2.2.2.2.2.2.1
def sLC (S : sS) : Nat := S.2.2.2.2.2.2.2.2.1
def sLI (S : sS) : Nat → Nat := S.2.2.2.2.2.2.2.2.2.1
def sLW (S : sS) : List Int32 := S.2.2.2.2.2.2.2.2.2.2
def sView (S : sS) (p c : Nat) : Bool := sSE S p c || (decide (sKD S p = 3) && sSE S p (9 - c))
def sLight (S : sS) (t : Nat) : Nat := if sLC S = 0 then 1 else sLI S (t % sLC S)
def sOK (S : sS) : Prop := sPA S ≤ 6 ∧ sPE S ≤ 5 ∧ sDE S ≤ 5 ∧ sLC S ≤ 12 ∧ (∀ p, p < sPA S → sKD S p < 4) ∧ (∀ p, p < sPA S → 1 ≤ sKP S p ∧ sKP S p ≤ 6) ∧ (∀ p, p < sPE S → sHO S p < 10) ∧ (∀ d, d < sDE S → sHA S d < 100) ∧ (∀ i, i < sLC S → sLI S i < 2) ∧ (sLW S).length ≤ 1000
/-- the hour, the cells of people, curtains drawn, panes gone, marks (the oldest first: who, deed, cell, age) -/
abbrev sW : Type := Nat × (Nat → Nat) × (Nat → Bool) × (Nat → Bool) × (Nat → List sM)
def wT (W : sW) : Nat := W.1
def wC (W : sW) : Nat → Nat := W.2.1
def wD (W : sW) : Nat → Bool := W.2.2.1
def wG (W : sW) : Nat → Bool := W.2.2.2.1
def wM (W : sW) : Nat → List sM := W.2.2.2.2
def m0 : sM := (0, 0, 0, 0)
def mkC (m : sM) : Nat := m.2.2.2 * 1024 + m.1 * 128 + m.2.1 * 16 + m.2.2.1
def mkM (m : sM) : Nat := m.2.2.2 * 1024 + m.2.2.1 * 64 + m.2.1 * 8 + m.1
def mOK (S : sS) (m : sM) : Prop := m.1 < sPE S ∧ m.2.1 < sDE S ∧ m.2.2.1 < 10
def wOK (S : sS) (W : sW) : Prop := (∀ p, p < sPE S → wC W p < 10) ∧ (∀ g, sPA S ≤ g → wD W g = false ∧ wG W g = false) ∧ (∀ g, g < sPA S → (wM W g).length ≤ sKP S g) ∧ (∀ g, g < sPA S → ∀ m ∈ wM W g, mOK S m ∧ m.2.2.2 ≤ wT W)
def cS (z : gS) (t : Nat) (S : sS) : Prop := gi z t 10 = nI (sPA S) ∧ gi z t 11 = nI (sPE S) ∧ gi z t 12 = nI (sDE S) ∧ gi z t 13 = nI (sLC S) ∧ (∀ p, p < sPA S → gi z (t + 4) p = nI (sKD S p)) ∧ (∀ p, p < sPA S → gi z (t + 5) p = nI (sKP S p)) ∧ (∀ p, p < sPA S → gi z (t + 6) p = nI (bs 10 (sView S p))) ∧ (∀ p, p < sPE S → gi z (t + 7) p = nI (sHO S p)) ∧ (∀ d, d < sDE S → gi z (t + 8) d = nI (sHA S d)) ∧ (∀ i, i < sLC S → gi z (t + 9) i = nI (sLI S i)) ∧ gi z (t + 1) 2 = nI (sLW S).length ∧ (∀ i, i < (sLW S).length → gi z (t + 2) i = (sLW S).getD i 0)
def cW (z : gS) (w : Nat) (S : sS) (W : sW) : Prop := gi z w 0 = nI (wT W) ∧ gi z w 1 = nI (bs 6 (wD W)) ∧ gi z w 2 = nI (bs 6 (wG W)) ∧ (∀ p, p < sPE S → gi z (w + 1) p = nI (wC W p)) ∧ (∀ g, g < sPA S → gi z (w + 2) g = nI (wM W g).length) ∧ (∀ g, g < sPA S → ∀ i, i < (wM W g).length → gi z (w + 3) (g * 6 + i) = nI (mkC ((wM W g).getD i m0)))
def mS (z : gS) (S : sS) : Prop := gi z 135 0 = nI (sPA S) ∧ gi z 135 1 = nI (sPE S) ∧ gi z 135 2 = nI (sDE S) ∧ gi z 135 3 = nI (if sLC S = 0 then 1 else sLC S) ∧ (∀ p, p < sPA S → gi z 135 (5 + 3 * p) = nI (sKD S p)) ∧ (∀ p, p < sPA S → gi z 135 (6 + 3 * p) = nI (sKP S p)) ∧ (∀ p, p < sPA S → gi z 135 (7 + 3 * p) = nI (bs 10 (sSE S p))) ∧ (∀ p, p < sPE S → gi z 135 (23 + p) = nI (sHO S p)) ∧ (∀ d, d < sDE S → gi z 135 (28 + d) = nI (sHA S d)) ∧ (∀ i, i < sLC S → gi z 135 (33 + i) = nI (sLI S i)) ∧ (sLC S = 0 → gi z 135 33 = 1)
def mW (z : gS) (b : Nat) (S : sS) (W : sW) : Prop := gi z 145 b = nI (wT W) ∧ (∀ p, p < sPE S → gi z 145 (b + 1 + p) = nI (wC W p)) ∧ (∀ g, g < sPA S → gi z 145 (b + 6 + g) = nI (wD W g).toNat) ∧ (∀ g, g < sPA S → gi z 145 (b + 12 + g) = nI (wG W g).toNat) ∧ (∀ g, g < sPA S → gi z 145 (b + 18 + g) = nI (wM W g).length) ∧ (∀ g, g < sPA S → ∀ i, i < (wM W g).length → gi z 145 (b + 24 + 6 * g + i) = nI (mkM ((wM W g).getD i m0)))
/-- what a pane sees now -/
def sSi (S : sS) (W : sW) (p c : Nat) : Bool := (!wG W p && !wD W p && !(decide (sKD S p = 2) && decide (sLight S (wT W) = 0))) && sView S p c
def sWa (S : sS) (W : sW) (c : Nat) : Nat := bs (sPA S) (fun p => sSi S W p c)
theorem bs_f0 (n : Nat) : bs n (fun _ => false) = 0 := by
  induction n with
  | zero => rfl
  | succ n ih => simp [bs, ih]
theorem bs_and (n : Nat) (b : Bool) (f : Nat → Bool) : bs n (fun c => b && f c) = if b then bs n f else 0 := by
  cases b
  · simp [bs_f0]
  · simp
theorem bs_step2 {f : Nat → Bool} {k : Nat} (hk : k < 31) : nI (bs k f) ||| (nI (f k).toNat <<< (nI k &&& 31)) = nI (bs (k + 1) f) := by
  rw [← bs_step hk]
  cases h : f k
  · simp only [Bool.toNat_false]
    rw [nI_shl (by omega) (by omega)]
    simp [show nI 0 = 0 from rfl]
  · simp [show nI 1 = 1 from rfl]
theorem if_b {b : Bool} {A : Int32 → Prop} (h : A (nI b.toNat)) : if nI b.toNat = 0 then A 0 else A 1 := by
  cases b
  · exact h
  · exact h
theorem ifb0 {b : Bool} {A B : Prop} (h1 : b = false → A) (h2 : b = true → B) : if nI b.toNat = 0 then A else B := by
  cases b
  · exact h1 rfl
  · exact h2 rfl
theorem ifb1 {b : Bool} {A B : Prop} (h1 : b = true → A) (h2 : b = false → B) : if nI b.toNat = 1 then A else B := by
  cases b
  · exact h2 rfl
  · exact h1 rfl
theorem nI_xor (a b : Nat) : nI a ^^^ nI b = nI (a ^^^ b) := by
  unfold nI
  apply Int32.toBitVec_inj.mp
  rw [Int32.toBitVec_xor]
  exact (BitVec.ofNat_xor ..).symm
/-! ===== what the class's panes see ===== -/
section RC
variable {z : gS} {w t g : Nat} {S : sS} {W : sW} {P : Int32 → gS → Prop}
theorem c_isBroken (hw : isW w) (hW : cW z w S W) (hg : g < 6) (h : P (nI (wG W g).toNat) z) : wX10_isBroken 148 gSH w (nI g) z P := by
  refine ⟨wO hw, ?_⟩
  rw [hW.2.2.1, bs_bit (by decide) hg]
  exact if_b (A := fun v => P v z) h
theorem c_isDrawn (hw : isW w) (hW : cW z w S W) (hg : g < 6) (h : P (nI (wD W g).toNat) z) : wX10_isDrawn 148 gSH w (nI g) z P := by
  refine ⟨wO hw, ?_⟩
  rw [hW.2.1, bs_bit (by decide) hg]
  exact if_b (A := fun v => P v z) h
theorem j_floorMod {a d : Nat} (ha : a < 2 ^ 30) (h0 : 0 < d) (hd : d < 2 ^ 30) (h : P (nI (a % d)) z) : wJ9_floorMod_7cf53 148 gSH (nI a) (nI d) z P := by
  refine ⟨nI_ne0 h0 (by omega), ?_⟩
  intro v hv
  rw [pk_rem (by omega) h0 (by omega)] at hv
  subst hv
  rw [nI_xor, if_pos (nI_pos' (Nat.lt_of_lt_of_le (Nat.xor_lt_two_pow ha hd) (by decide)))]
  exact h
theorem c_lightAt (hz : sR z) (ht : isS t) (hS : cS z t S) (hok : sOK S) {a : Nat} (ha : a < 2 ^ 30) (h : P (nI (sLight S a)) z) : wX7_lightAt 148 gSH t (nI a) z P := by
  refine ⟨tO ht, ?_⟩
  rw [hS.2.2.2.1]
  unfold sLight at h
  by_cases h0 : sLC S = 0
  · rw [h0, if_neg (by decide)]
    rw [if_pos h0] at h
    exact h
  · rw [if_neg h0] at h
    have h12 := hok.2.2.2.1
    have hm : a % sLC S < sLC S := Nat.mod_lt _ (by omega)
    rw [if_pos (show (0 : Int32) < nI (sLC S) from nI_lt (a := 0) (by omega) (by omega))]
    refine ⟨_, tR6 hz ht, j_floorMod ha (by omega) (by omega) ⟨tA9 ht, by rw [tL9 ht]; exact vp_in_nI (by omega) (by decide), ?_⟩⟩
    rw [nI_clamp (by omega), hS.2.2.2.2.2.2.2.2.2.1 _ hm]
    exact h
theorem c_sightOf (hz : sR z) (hw : isW w) (ht : isS t) (hS : cS z t S) (hW : cW z w S W) (hok : sOK S) (hT : wT W < 2 ^ 30) (hg : g < sPA S) (h : P (nI (bs 10 (sSi S W g))) z) : wX10_sightOf 148 gSH w t (nI g) z P := by
  have h6 := hok.1
  have h4 := hok.2.2.2.2.1 g hg
  have hb : bs 10 (sSi S W g) = if (!wG W g && !wD W g && !(decide (sKD S g = 2) && decide (sLight S (wT W) = 0))) then bs 10 (sView S g) else 0 := bs_and 10 _ _
  rw [hb] at h
  refine ⟨wO hw, c_isBroken hw hW (by omega) (ifb0 (fun hG => ?_) (fun hG => ?_))⟩
  · refine c_isDrawn hw hW (by omega) (ifb0 (fun hD => ?_) (fun hD => ?_))
    · have hJ : ∀ (h : P (nI (bs 10 (sView S g))) z), wX10_sightOf_J41 148 gSH P t (nI g) z := by
        intro h
        refine ⟨tO ht, _, tR3 hz ht, tA6 ht, by rw [tL6 ht]; exact vp_in_nI (by omega) (by decide), ?_⟩
        rw [nI_clamp (by omega), hS.2.2.2.2.2.2.1 g hg]
        exact h
      refine ⟨tO ht, _, tR1 hz ht, tA4 ht, by rw [tL4 ht]; exact vp_in_nI (by omega) (by decide), ?_⟩
      rw [nI_clamp (by omega), hS.2.2.2.2.1 g hg]
      rw [hG, hD] at h
      by_cases hk : sKD S g = 2
      · rw [hk, if_pos (show nI 2 = 2 from rfl), hW.1]
        refine c_lightAt hz ht hS hok hT ?_
        by_cases hl : sLight S (wT W) = 0
        · rw [hl, if_pos (show nI 0 = 0 from rfl)]
          simpa [hk, hl, nI_0] using h
        · have hl1 : sLight S (wT W) = 1 := by
            unfold sLight at hl ⊢
            by_cases h0 : sLC S = 0
            · simp [h0]
            · rw [if_neg h0] at hl ⊢
              have := hok.2.2.2.2.2.2.2.2.1 (wT W % sLC S) (Nat.mod_lt _ (by omega))
              omega
          rw [hl1, if_neg (show ¬ nI 1 = 0 by decide)]
          exact hJ (by simpa [hk, hl1] using h)
      · rw [if_neg (show ¬ nI (sKD S g) = 2 from fun q => hk ((nI_eq (by omega) (by decide)).mp q))]
        exact hJ (by simpa [hk] using h)
    · simpa [hG, hD, nI_0] using h
  · simpa [hG, nI_0] using h
theorem c_watchersOf (hz : sR z) (hw : isW w) (ht : isS t) (hS : cS z t S) (hW : cW z w S W) (hok : sOK S) (hT : wT W < 2 ^ 30) {c : Nat} (hc : c < 10) (h : P (nI (sWa S W c)) z) : wX10_watchersOf 148 gSH w t (nI c) z P := by
  have h6 := hok.1
  have hl : ∀ m k, m + k = sPA S → wX10_watchersOf_L5 148 gSH P (m + 1) w t (nI c) (nI (bs k (fun p => sSi S W p c))) (nI k) z := by
    intro m
    induction m with
    | zero =>
      intro k hk
      refine ⟨tO ht, ?_⟩
      rw [hS.1, if_pos (nI_le (by omega) (by omega))]
      rw [show k = sPA S by omega]
      exact h
    | succ m ih =>
      intro k hk
      refine ⟨tO ht, ?_⟩
      rw [hS.1, if_neg (nI_ge (by omega) (by omega))]
      refine ⟨wO hw, c_sightOf hz hw ht hS hW hok hT (by omega) ?_⟩
      intro v hv u hu
      rw [bs_bit (by decide) hc, bs_step2 (f := fun p => sSi S W p c) (by omega)] at hv
      subst hv
      rw [nI_1] at hu
      subst hu
      exact ih (k + 1) (by omega)
  exact ⟨_, hl (sPA S) 0 (by omega)⟩
end RC
