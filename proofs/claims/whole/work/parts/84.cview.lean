/-! ===== the class reads a street ===== -/
def aSC (t : Nat) : Nat → Nat → Prop := fun a k => (a = 1 ∧ 2 ≤ k) ∨ (t ≤ a ∧ a ≤ t + 12)
def bSC (t : Nat) : Nat → Prop := fun a => a = 1 ∨ (t + 10 ≤ a ∧ a ≤ t + 12)
def frS (t : Nat) (S : sS) (a k : Nat) : Prop := ((a = t + 4 ∨ a = t + 5 ∨ a = t + 6) ∧ sPA S ≤ k) ∨ (a = t + 7 ∧ sPE S ≤ k) ∨ (a = t + 8 ∧ sDE S ≤ k) ∨ (a = t + 9 ∧ sLC S ≤ k)
def SC (z0 : gS) (t : Nat) (tp : List Nat) (z : gS) (i : Nat) (S : sS) (nm : sNm) (ks : List (Nat × Nat × Nat)) (ls : List (Nat × Nat × Nat)) : Prop := Fg (aSC t) (bSC t) z0 z ∧ cK z tp i ∧ cS z t S ∧ cNm z t S nm ∧ (∀ e ∈ ks, e.1 ≠ 1 ∧ gi z e.1 e.2.1 = nI e.2.2) ∧ (∀ e ∈ ls, e.1 ≠ 1 ∧ gl z e.1 e.2.1 = lN e.2.2)
def SF (z0 : gS) (t : Nat) (z : gS) (f : Nat) : Prop := Fg (aSC t) (bSC t) z0 z ∧ gi z 1 8 = nI f
theorem Fg.mo2 {A C : Nat → Nat → Prop} {B E : Nat → Prop} {z z1 : gS} (h : Fg A B z z1) (hA : ∀ a k, A a k → C a k) (hB : ∀ a, B a → E a) : Fg C E z z1 := ⟨fun a k q => h.1 a k (fun r => q (hA a k r)), fun a k q => h.2.1 a k (fun r => q (hB a r)), h.2.2⟩
theorem cS.fr3 {z z' : gS} {t : Nat} {S : sS} (h : cS z t S) (hs : ∀ a k, t ≤ a → a ≤ t + 9 → a ≠ t + 3 → ¬ frS t S a k → (a = t → 10 ≤ k ∧ k ≤ 13) → (a = t + 1 → k = 2) → gi z' a k = gi z a k) : cS z' t S := by
  obtain ⟨h1, h2, h3, h4, h5, h6, h7, h8, h9, h10, h11, h12⟩ := h
  unfold frS at hs
  refine ⟨?_, ?_, ?_, ?_, fun p hp => ?_, fun p hp => ?_, fun p hp => ?_, fun p hp => ?_, fun p hp => ?_, fun p hp => ?_, ?_, fun p hp => ?_⟩ <;> rw [hs _ _ (by omega) (by omega) (by omega) (by omega) (by omega) (by omega)]
  · exact h1
  · exact h2
  · exact h3
  · exact h4
  · exact h5 p hp
  · exact h6 p hp
  · exact h7 p hp
  · exact h8 p hp
  · exact h9 p hp
  · exact h10 p hp
  · exact h11
  · exact h12 p hp
section RC
variable {z z0 : gS} {tp : List Nat} {n i t v : Nat} {S : sS} {nm : sNm} {ks ls : List (Nat × Nat × Nat)} {P : Int32 → gS → Prop} {R : gS → Prop}
theorem SC.tk (ht : isS t) (h : SC z0 t tp z i S nm ks ls) {z' : gS} {j : Nat} (hc : cK z' tp j) (hf : Fg aTK bTK z z') : SC z0 t tp z' j S nm ks ls := by
  have tl := ht.le
  obtain ⟨h1, h2, h3, h4, h5, h6⟩ := h
  refine ⟨h1.tr (hf.mo2 (fun a k q => Or.inl q) (fun a q => Or.inl q)), hc, h3.fr (fun a k q1 q2 => hf.1 a k (by unfold aTK; omega)), h4.fr (fun a k q1 q2 => hf.2.1 a k (by unfold bTK; omega)), fun e he => ⟨(h5 e he).1, ?_⟩, fun e he => ⟨(h6 e he).1, ?_⟩⟩
  · rw [hf.1 _ _ (by have := (h5 e he).1; unfold aTK; omega)]; exact (h5 e he).2
  · rw [hf.2.1 _ _ (by have := (h6 e he).1; unfold bTK; omega)]; exact (h6 e he).2
theorem SC.tT (ht : isS t) (hT0 : cT z0 tp) (h : SC z0 t tp z i S nm ks ls) : cT z tp := by
  have tl := ht.le
  exact hT0.fr (fun a k q => h.1.1 a k (by unfold aSC; omega))
theorem SC.adv (hz0 : sR z0) (hT0 : cT z0 tp) (hk : tOK tp) (ht : isS t) (h : SC z0 t tp z i S nm ks ls) (hP : ∀ z', SC z0 t tp z' (i + 1) S nm ks ls → R z') : wX9_advance 148 gSH 1 z R := c_adv (h.1.sR hz0) (h.tT ht hT0) hk h.2.1 (fun z' a b => hP z' (h.tk ht a b))
theorem SC.wr {f : Nat} (h : SC z0 t tp z i S nm ks ls) {z' : gS} (e : z' = si z 1 8 (nI f)) : SF z0 t z' f := ⟨by rw [e]; exact h.1.si (Or.inl ⟨rfl, by decide⟩), by rw [e, gi_si, if_pos ⟨rfl, rfl⟩]⟩
theorem SC.wi (ht : isS t) (h : SC z0 t tp z i S nm ks ls) {a k x : Nat} (hf : frS t S a k) (hd : ∀ e ∈ ks, ¬ (e.1 = a ∧ e.2.1 = k)) {z' : gS} (e : z' = si z a k (nI x)) : SC z0 t tp z' i S nm ((a, k, x) :: ks) ls := by
  have tl := ht.le
  obtain ⟨h1, h2, h3, h4, h5, h6⟩ := h
  have hf' := hf
  unfold frS at hf'
  refine ⟨by rw [e]; exact h1.si (Or.inr (by omega)), h2.fg (fun j _ _ => by rw [e, gi_si, if_neg (by omega)]) (by rw [e]; rfl), h3.fr3 (fun b j q1 q2 q3 q4 q5 q6 => by rw [e, gi_si, if_neg (fun r => q4 (by rw [r.1, r.2]; exact hf))]), h4.fr (fun b j q1 q2 => by rw [e]; rfl), fun q hq => ?_, fun q hq => ⟨(h6 q hq).1, by rw [e]; exact (h6 q hq).2⟩⟩
  rw [List.mem_cons] at hq
  rcases hq with r | r
  · rw [r]
    exact ⟨by dsimp only; omega, by rw [e, gi_si, if_pos ⟨rfl, rfl⟩]⟩
  · exact ⟨(h5 q r).1, by rw [e, gi_si, if_neg (hd q r)]; exact (h5 q r).2⟩
theorem SC.wl (ht : isS t) (h : SC z0 t tp z i S nm ks ls) {a k x : Nat} (hf : (a = t + 10 ∧ sPA S ≤ k) ∨ (a = t + 11 ∧ sPE S ≤ k) ∨ (a = t + 12 ∧ sDE S ≤ k)) (hd : ls = []) {z' : gS} (e : z' = sl z a k (lN x)) : SC z0 t tp z' i S nm ks [(a, k, x)] := by
  have tl := ht.le
  obtain ⟨h1, h2, h3, h4, h5, h6⟩ := h
  refine ⟨by rw [e]; exact h1.sl (Or.inr (by omega)), h2.fg (fun j _ _ => by rw [e]; rfl) (by rw [e, gl_sl, if_neg (by omega)]), h3.fr (fun b j q1 q2 => by rw [e]; rfl), ⟨fun g hg => ?_, fun g hg => ?_, fun g hg => ?_⟩, fun q hq => ⟨(h5 q hq).1, by rw [e]; exact (h5 q hq).2⟩, fun q hq => ?_⟩
  · rw [e, gl_sl, if_neg (by omega)]; exact h4.1 g hg
  · rw [e, gl_sl, if_neg (by omega)]; exact h4.2.1 g hg
  · rw [e, gl_sl, if_neg (by omega)]; exact h4.2.2 g hg
  · rw [List.mem_singleton] at hq
    rw [hq]
    exact ⟨by dsimp only; omega, by rw [e, gl_sl, if_pos ⟨rfl, rfl⟩]⟩
theorem c_isTold (hz : sR z) (ht : isS t) (hok : sOK S) (hnm : nmOK S nm) (hS : cS z t S) (hN : cNm z t S nm) (hv : v < 2 ^ 62) (hP : P (nI (nmT nm v).toNat) z) : wX7_isTold 148 gSH t (lN v) z P := by
  have k1 := hok.1
  have k2 := hok.2.1
  have k3 := hok.2.2.1
  obtain ⟨b1, b2, b3⟩ := nm_lt hnm
  have hy : (tld S nm 0 v < sPA S ∨ tld S nm 20 v < sPE S ∨ tld S nm 40 v < sDE S) → P 1 z := fun q => by
    rw [(nmT_c hnm).mpr q] at hP
    exact hP
  refine ⟨tO ht, _, tR7 hz ht, ?_⟩
  rw [hS.1]
  refine c_placeOf (g := nm.1) (tA10 ht) (by rw [tL10 ht]; exact k1) (by rw [tL10 ht]; decide) hN.1 b1 hv ?_
  have e1 : fs1 (fun k => nm.1 k == v) (sPA S) = tld S nm 0 v := rfl
  rw [e1]
  refine ifi (rI_no (by omega)) (fun q1 => ?_) (fun q1 => hy (Or.inl (by omega)))
  refine ⟨_, tR8 hz ht, ?_⟩
  rw [hS.2.1]
  refine c_placeOf (g := nm.2.1) (tA11 ht) (by rw [tL11 ht]; exact k2) (by rw [tL11 ht]; decide) hN.2.1 b2 hv ?_
  have e2 : fs1 (fun k => nm.2.1 k == v) (sPE S) = tld S nm 20 v := rfl
  rw [e2]
  refine ifi (rI_no (by omega)) (fun q2 => ?_) (fun q2 => hy (Or.inr (Or.inl (by omega))))
  refine ⟨_, tR9 hz ht, ?_⟩
  rw [hS.2.2.1]
  refine c_placeOf (g := nm.2.2.1) (tA12 ht) (by rw [tL12 ht]; exact k3) (by rw [tL12 ht]; decide) hN.2.2 b3 hv ?_
  have e3 : fs1 (fun k => nm.2.2.1 k == v) (sDE S) = tld S nm 40 v := rfl
  rw [e3]
  refine ifi (rI_no (by omega)) (fun q3 => ?_) (fun q3 => hy (Or.inr (Or.inr (by omega))))
  have e : nmT nm v = false := by
    rw [← Bool.not_eq_true, nmT_c hnm]
    omega
  rw [e] at hP
  exact hP
theorem c_newName (hz0 : sR z0) (ht : isS t) (hok : sOK S) (hnm : nmOK S nm) (h : SC z0 t tp z i S nm ks ls) (h1 : knm tp i = false → ∀ z', SF z0 t z' (kfl tp 1 i) → P 0 z') (h2 : ¬ knm tp i = false → nmT nm (kvl tp i) = true → ∀ z', SF z0 t z' (kfl tp 3 i) → P 0 z') (h3 : ¬ knm tp i = false → ¬ nmT nm (kvl tp i) = true → gl z 1 6 = lN (kvl tp i) → P 1 z) : wX8_hasNewName 148 gSH 1 t z P := by
  refine ⟨tpO, c_isName h.2.1 ?_⟩
  cases hn : knm tp i
  · rw [if_pos (show nI (false).toNat = 0 from rfl)]
    exact c_wrong (f := 1) h.2.1 (fun z' e => h1 hn z' (h.wr e))
  · rw [if_neg (show ¬ nI (true).toNat = 0 by decide)]
    have hn' : ¬ knm tp i = false := by rw [hn]; decide
    have hk2 := knm_k hn'
    have e6 := h.2.1.2.2.2.2.1 hk2
    refine ⟨tO ht, ?_⟩
    rw [e6]
    refine c_isTold (h.1.sR hz0) ht hok hnm h.2.2.1 h.2.2.2.1 (Nat.lt_of_lt_of_le (kvl_w hk2) (by decide)) ?_
    refine ift (fun q => ?_) (fun q => ?_)
    · rw [nI_b0] at q
      exact h3 hn' (by rw [q]; decide) e6
    · rw [nI_b0, Bool.not_eq_false] at q
      refine c_isWrong (f := 3) h.2.1 (fun z' e => ?_)
      rw [if_pos rfl]
      exact h2 hn' q z' (h.wr e)
def vwB (kd : Nat) (s : Nat → Bool) : Nat → Bool := fun c => s c || (decide (kd = 3) && s (9 - c))
theorem c_bothWays {s : Nat → Bool} (hP : P (nI (bs 10 (fun c => s c || s (9 - c)))) z) : wX7_bothWays 148 gSH (nI (bs 10 s)) z P := by
  have h0 : bs 10 s = bs 10 (fun c => s c || (decide (9 - c < 0) && s (9 - c))) := bs_congr (fun j hj => by simp)
  have main := lp (fun N k => wX7_bothWays_L4 148 gSH P N (nI (bs 10 s)) (nI (bs 10 (fun c => s c || (decide (9 - c < k) && s (9 - c))))) (nI k) z) 10 (fun N => ?_) (fun N k hk ih => ?_)
  · obtain ⟨N, q⟩ := main
    refine ⟨N, ?_⟩
    rw [← h0] at q
    exact q
  · unfold wX7_bothWays_L4 wX7_bothWays_B4
    rw [if_pos (by decide)]
    have : bs 10 (fun c => s c || (decide (9 - c < 10) && s (9 - c))) = bs 10 (fun c => s c || s (9 - c)) := bs_congr (fun j hj => by rw [decide_eq_true (show 9 - j < 10 by omega)]; rfl)
    rw [this]
    exact hP
  · unfold wX7_bothWays_L4 wX7_bothWays_B4
    rw [if_neg (show ¬ (10 : Int32) ≤ nI k from nI_ge (b := 10) hk (by decide)), bs_bit (by decide) hk]
    cases hs : s k
    · rw [if_pos (show nI (false).toNat = 0 from rfl)]
      intro v1 e1
      rw [nI_1] at e1
      subst e1
      have : bs 10 (fun c => s c || (decide (9 - c < k + 1) && s (9 - c))) = bs 10 (fun c => s c || (decide (9 - c < k) && s (9 - c))) := bs_congr (fun j hj => by
        by_cases e : 9 - j = k
        · rw [e, hs]; simp
        · rw [show decide (9 - j < k + 1) = decide (9 - j < k) by
            apply decide_eq_decide.mpr
            omega])
      rw [this] at ih
      exact ih
    · rw [if_neg (show ¬ nI (true).toNat = 0 by decide)]
      intro v2 e2 v1 e1
      rw [nI_1] at e1
      subst e1
      rw [j_9, pk_sub (by omega), j_1, bs_setY (by decide) (by omega)] at e2
      subst e2
      have : bs 10 (fun c => s c || (decide (9 - c < k + 1) && s (9 - c))) = bs 10 (fun i => (s i || (decide (9 - i < k) && s (9 - i))) || decide (i = 9 - k)) := bs_congr (fun j hj => by
        by_cases e : j = 9 - k
        · rw [decide_eq_true e, show 9 - j = k by omega, hs, decide_eq_true (show k < k + 1 by omega)]
          simp
        · rw [decide_eq_false e, Bool.or_false, show decide (9 - j < k + 1) = decide (9 - j < k) by
            apply decide_eq_decide.mpr
            omega])
      rw [this] at ih
      exact ih
theorem c_view {kd : Nat} (hz0 : sR z0) (hT0 : cT z0 tp) (hk : tOK tp) (ht : isS t) (h6 : sPA S < 6) (hkd : kd < 4) (hks : (t + 4, sPA S, kd) ∈ ks) (hnk : ∀ e ∈ ks, ¬ (e.1 = t + 6 ∧ e.2.1 = sPA S)) (h : SC z0 t tp z i S nm ks ls)
    (h1 : kkd tp i ≠ 3 → ∀ z', SF z0 t z' (kfl tp 1 i) → P 0 z')
    (h2 : ¬ kkd tp i ≠ 3 → (vLp tp 11 i (fun _ => false)).1 ≠ 0 → ∀ z', SF z0 t z' (kfl tp (vLp tp 11 i (fun _ => false)).1 (vLp tp 11 i (fun _ => false)).2.1) → P 0 z')
    (h3 : ¬ kkd tp i ≠ 3 → (vLp tp 11 i (fun _ => false)).1 = 0 → ∀ z', SC z0 t tp z' (vLp tp 11 i (fun _ => false)).2.1 S nm ((t + 6, sPA S, bs 10 (vwB kd (vLp tp 11 i (fun _ => false)).2.2)) :: ks) ls → P 1 z') : wX8_readsView 148 gSH 1 t (nI (sPA S)) z P := by
  have tl := ht.le
  have hJ72 : ∀ z1 i1 s, SC z0 t tp z1 i1 S nm ks ls → (∀ z', SC z0 t tp z' i1 S nm ((t + 6, sPA S, bs 10 (vwB kd s)) :: ks) ls → P 1 z') → wX8_readsView_J72 148 gSH P t (nI (sPA S)) (nI (bs 10 s)) z1 := by
    intro z1 i1 s hh hp
    have hz1 := hh.1.sR hz0
    have hfin : ∀ x, x = bs 10 (vwB kd s) → wX8_readsView_J95 148 gSH P (nI x) (nI (sPA S)) (t + 6) z1 := by
      intro x hx
      refine ⟨tA6 ht, by rw [tL6 ht]; exact vp_in_nI h6 (by decide), fun z8 e8 => hp z8 ?_⟩
      rw [nI_clamp (by omega), hx] at e8
      exact hh.wi ht (Or.inl ⟨by omega, Nat.le_refl _⟩) hnk e8
    refine ⟨tO ht, _, tR3 hz1 ht, _, tR1 hz1 ht, tA4 ht, by rw [tL4 ht]; exact vp_in_nI h6 (by decide), ?_⟩
    have ekd := (hh.2.2.2.2.1 _ hks).2
    dsimp only at ekd
    rw [nI_clamp (by omega), ekd]
    refine ifi (nI_eq (b := 3) (by omega) (by decide)) (fun q => c_bothWays (hfin _ ?_)) (fun q => hfin _ ?_)
    · unfold vwB
      rw [decide_eq_true q]
      simp
    · unfold vwB
      rw [decide_eq_false q]
      simp
  have main : ∀ f x z1 i1 s, x + f = 11 → (x ≠ 0 → True) → SC z0 t tp z1 i1 S nm ks ls → (x = 0 → kkd tp i1 = 3) → ((vLp tp f i1 s).1 ≠ 0 → ∀ z', SF z0 t z' (kfl tp (vLp tp f i1 s).1 (vLp tp f i1 s).2.1) → P 0 z') → ((vLp tp f i1 s).1 = 0 → ∀ z', SC z0 t tp z' (vLp tp f i1 s).2.1 S nm ((t + 6, sPA S, bs 10 (vwB kd (vLp tp f i1 s).2.2)) :: ks) ls → P 1 z') → wX8_readsView_L5 148 gSH P (f + 1) 1 t (nI (sPA S)) (nI (bs 10 s)) (nI x) z1 := by
    intro f
    induction f with
    | zero =>
      intro x z1 i1 s hx _ hh h0 g2 g3
      unfold wX8_readsView_L5 wX8_readsView_B5
      rw [if_pos (show (10 : Int32) < nI x from nI_lt (a := 10) (by omega) (by omega))]
      exact hJ72 z1 i1 s hh (g3 rfl)
    | succ f ih =>
      intro x z1 i1 s hx _ hh h0 g2 g3
      unfold wX8_readsView_L5 wX8_readsView_B5
      rw [if_neg (show ¬ (10 : Int32) < nI x from nI_nlt (a := 10) (by omega) (by decide))]
      simp only [vLp] at g2 g3
      have hJ24 : kkd tp i1 = 3 → wX8_readsView_J24 148 gSH (wX8_readsView_L5 148 gSH P (f + 1)) P 1 t (nI (sPA S)) (nI (bs 10 s)) (nI x) z1 := by
        intro q3
        rw [if_pos q3] at g2 g3
        refine ⟨tpO, c_hasNumber (lo := 0) (hi := 9) hh.2.1 (by decide) (by decide) (fun r1 r2 r3 r4 => ?_) (fun r => absurd q3 r) (fun r1 r2 z' e => ?_)⟩
        · rw [if_pos r3] at g2 g3
          rw [if_neg (by decide), r4, bs_bit (by decide) (by omega)]
          cases hs : s (kvl tp i1)
          · rw [if_pos (show nI (false).toNat = 0 from rfl)]
            rw [if_neg (by rw [hs]; decide)] at g2 g3
            intro v15 e15
            rw [j_1, bs_setY (by decide) (by omega)] at e15
            subst e15
            refine hh.adv hz0 hT0 hk ht (fun z17 h17 v18 e18 => ?_)
            rw [nI_1] at e18
            subst e18
            exact ih (x + 1) z17 (i1 + 1) _ (by omega) (fun _ => trivial) h17 (fun r => by omega) g2 g3
          · rw [if_neg (show ¬ nI (true).toNat = 0 by decide)]
            rw [if_pos hs] at g2
            exact c_wrong (f := 3) hh.2.1 (fun z' e => g2 (Nat.succ_ne_zero _) z' (hh.wr e))
        · rw [if_pos rfl]
          rw [if_neg (show ¬ kvl tp i1 ≤ 9 by omega)] at g2
          exact g2 (Nat.succ_ne_zero _) z' (hh.wr e)
      refine ifi (nI_eq (b := 0) (by omega) (by decide)) (fun q => hJ24 (h0 q)) (fun q => ⟨tpO, c_isNumber hh.2.1 ?_⟩)
      refine ift (fun q2 => ?_) (fun q2 => ?_)
      · rw [nI_b0, decide_eq_false_iff_not] at q2
        rw [if_neg q2] at g3
        exact hJ72 z1 i1 s hh (g3 rfl)
      · rw [nI_b0, Bool.not_eq_false, decide_eq_true_eq] at q2
        exact hJ24 q2
  by_cases c1 : kkd tp i ≠ 3
  · refine ⟨1, ?_⟩
    unfold wX8_readsView_L5 wX8_readsView_B5
    rw [if_neg (by decide), if_pos (by decide)]
    refine ⟨tpO, c_hasNumber (lo := 0) (hi := 9) h.2.1 (by decide) (by decide) (fun r1 _ _ _ => absurd r1 c1) (fun r z' e => ?_) (fun r1 => absurd r1 c1)⟩
    rw [if_pos rfl]
    exact h1 c1 z' (h.wr e)
  · have := main 11 0 z i (fun _ => false) (by decide) (fun _ => trivial) h (fun _ => by omega) (h2 c1) (h3 c1)
    rw [bs_f0] at this
    exact ⟨_, this⟩
end RC
