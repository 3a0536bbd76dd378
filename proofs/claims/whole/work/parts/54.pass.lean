/-! ===== an hour passes ===== -/
def ag (m : sM) : sM := (m.1, m.2.1, m.2.2.1, m.2.2.2 + 1)
theorem mkC_ag (m : sM) : mkC (ag m) = mkC m + 1024 := by
  unfold mkC ag
  dsimp only
  omega
theorem mkM_ag (m : sM) : mkM (ag m) = mkM m + 1024 := by
  unfold mkM ag
  dsimp only
  omega
/-- what is left of a row of marks when an hour has passed -/
def fdL (S : sS) (lit : Nat) : List sM → List sM
  | [] => []
  | m :: r => if fds S lit (ag m) r.length then fdL S lit r else ag m :: fdL S lit r
theorem fdL_len (S : sS) (lit : Nat) : ∀ l, (fdL S lit l).length ≤ l.length
  | [] => Nat.le_refl 0
  | m :: r => by
    have h := fdL_len S lit r
    rw [fdL]
    split
    · rw [List.length_cons]; omega
    · rw [List.length_cons, List.length_cons]; omega
theorem fdL_mem (S : sS) (lit : Nat) : ∀ l m, m ∈ fdL S lit l → ∃ m', m' ∈ l ∧ m = ag m'
  | [], m, h => by rw [fdL] at h; cases h
  | a :: r, m, h => by
    rw [fdL] at h
    split at h
    · obtain ⟨m', h1, h2⟩ := fdL_mem S lit r m h
      exact ⟨m', List.mem_cons_of_mem _ h1, h2⟩
    · rcases List.mem_cons.mp h with q | q
      · exact ⟨a, List.mem_cons_self, q⟩
      · obtain ⟨m', h1, h2⟩ := fdL_mem S lit r m q
        exact ⟨m', List.mem_cons_of_mem _ h1, h2⟩
def psM (S : sS) (W : sW) (g : Nat) : List sM := if wG W g = false then fdL S (sLight S (wT W)) (wM W g) else wM W g
def psW (S : sS) (W : sW) : sW := (wT W + 1, wC W, wD W, wG W, psM S W)
def psN (S : sS) (W : sW) : Nat := sN (sPA S) (fun g => (wM W g).length - (psM S W g).length)
theorem psM_len {S : sS} {W : sW} {g : Nat} : (psM S W g).length ≤ (wM W g).length := by
  unfold psM
  split
  · exact fdL_len S _ _
  · exact Nat.le_refl _
theorem psW_ok {S : sS} {W : sW} (hwk : wOK S W) : wOK S (psW S W) := by
  obtain ⟨h1, h2, h3, h4⟩ := hwk
  refine ⟨h1, h2, fun g hg => ?_, fun g hg m hm => ?_⟩
  · exact Nat.le_trans psM_len (h3 g hg)
  · change m ∈ psM S W g at hm
    show mOK S m ∧ m.2.2.2 ≤ wT W + 1
    unfold psM at hm
    split at hm
    · obtain ⟨m', q1, q2⟩ := fdL_mem S _ _ m hm
      subst q2
      obtain ⟨q3, q4⟩ := h4 g hg m' q1
      exact ⟨q3, Nat.succ_le_succ q4⟩
    · obtain ⟨q3, q4⟩ := h4 g hg m hm
      exact ⟨q3, by omega⟩
theorem sN_s {f : Nat → Nat} {k : Nat} : sN (k + 1) f = sN k f + f k := rfl
section RC
variable {z : gS} {w t g b i : Nat} {S : sS} {W : sW} {P : Int32 → gS → Prop} {R : gS → Prop} {l : List sM}
theorem rowC.set {m m' : sM} {d r : List sM} (h : rowC z w g (d ++ m :: r)) : rowC (si z (w + 3) (g * 6 + d.length) (nI (mkC m'))) w g (d ++ m' :: r) := by
  have hl : (d ++ m' :: r).length = (d ++ m :: r).length := by simp
  refine ⟨?_, fun i hi => ?_⟩
  · rw [gi_si, if_neg (by omega), h.1, hl]
  · rw [hl] at hi
    rw [gi_si, ← se_al (m := m) (m' := m'), gd_se (by simp)]
    by_cases e : d.length = i
    · rw [if_pos ⟨rfl, by omega⟩, if_pos e]
    · rw [if_neg (by omega), if_neg e, h.2 i hi]
theorem rowM.set {m m' : sM} {d r : List sM} (h : rowM z b g (d ++ m :: r)) (hl6 : (d ++ m :: r).length ≤ 6) (hg : g < 6) : rowM (si z 145 (b + 24 + 6 * g + d.length) (nI (mkM m'))) b g (d ++ m' :: r) := by
  have hl : (d ++ m' :: r).length = (d ++ m :: r).length := by simp
  refine ⟨?_, fun i hi => ?_⟩
  · rw [gi_si, if_neg (by omega), h.1, hl]
  · rw [hl] at hi
    rw [gi_si, ← se_al (m := m) (m' := m'), gd_se (by simp)]
    by_cases e : d.length = i
    · rw [if_pos ⟨rfl, by omega⟩, if_pos e]
    · rw [if_neg (by omega), if_neg e, h.2 i hi]
theorem c_fade (hz : sR z) (ht : isS t) (hw : isW w) (hS : cS z t S) (hok : sOK S) (hL : lwOK S) (hg : g < sPA S) (hr : rowC z w g l) (hl : l.length ≤ 6) (hm : ∀ m ∈ l, mOK S m ∧ m.2.2.2 + 1 < 2 ^ 20) {lit : Nat} (hP : ∀ z', Fr (fun a k => aC w g a k ∨ a = t + 3) z z' → rowC z' w g (fdL S lit l) → P (nI (l.length - (fdL S lit l).length)) z') : wX10_fade 148 gSH w t (nI g) (nI lit) z P := by
  have h6 := hok.1
  have h5 := hok.2.1
  have h3 := hok.2.2.1
  have hlen := hok.2.2.2.2.2.2.2.2.2
  have hwd := hw.dj
  have htl := ht.le
  have hloop : ∀ (r d : List sM) (i : Nat) (z1 : gS), i + r.length = l.length → d.length ≤ i → d ++ fdL S lit r = fdL S lit l → (∀ m ∈ r, m ∈ l) → Fr (fun a k => aC w g a k ∨ a = t + 3) z z1 → rowC z1 w g (d ++ r) → wX10_fade_L14 148 gSH P (r.length + 1) w t (nI g) (nI lit) (nI l.length) (nI d.length) (nI i) z1 := by
    intro r
    induction r with
    | nil =>
      intro d i z1 hi hd he _ hf hrow
      unfold wX10_fade_L14 wX10_fade_B14
      rw [List.length_nil] at hi
      rw [if_pos (nI_le (by omega) (by omega)), pk_sub (by omega)]
      rw [fdL, List.append_nil] at he
      rw [List.append_nil] at hrow
      have := hP z1 hf (by rw [← he]; exact hrow)
      rw [← he] at this
      exact this
    | cons m r ih =>
      intro d i z1 hi hd he hmem hf hrow
      rw [List.length_cons] at hi
      have hz1 := hf.sR hz
      have hS1 : cS z1 t S := hS.fr2 (fun a k q1 q2 q3 => hf.1 a k (by unfold aC; omega))
      obtain ⟨hmk, hma⟩ := hm m (hmem m List.mem_cons_self)
      obtain ⟨k1, k2, k3⟩ := hmk
      have hB : mB (ag m) := ⟨show m.1 < 8 by omega, show m.2.1 < 5 by omega, k3, hma⟩
      have hll : (d ++ m :: r).length = d.length + (r.length + 1) := by simp
      unfold wX10_fade_L14 wX10_fade_B14
      rw [if_neg (nI_ge (by omega) (by omega))]
      refine ⟨wO hw, r_markAt hz1 hw (by omega) hrow (by omega) (by omega) ?_⟩
      rw [gd_al]
      intro v9 e9
      rw [j_1024, nI_add, ← mkC_ag] at e9
      subst e9
      refine ⟨tO ht, _, tR5 hz1 ht, c_deedOf hB ⟨tA8 ht, by rw [tL8 ht]; exact vp_in_nI (show m.2.1 < 5 by omega) (by decide), ?_⟩⟩
      intro v16 e16
      rw [nI_clamp (show (ag m).2.1 < 2 ^ 31 from show m.2.1 < 2 ^ 31 by omega), hS1.2.2.2.2.2.2.2.2.1 _ (show (ag m).2.1 < sDE S from k2)] at e16
      subst e16
      refine ⟨_, tR0 hz1 ht, c_ageOf hB ⟨_, wR6 hz1 hw, wA2 hw, by rw [wL2 hw]; exact vp_in_nI (by omega) (by decide), tO1 ht, ?_⟩⟩
      rw [nI_clamp (by omega), hrow.1, j_1, pk_sub (by omega), pk_sub (by omega), show (d ++ m :: r).length - 1 - d.length = r.length by omega]
      refine c_isFading hz1 ht hS1 hL hlen (m := ag m) (show m.2.2.2 + 1 < 2 ^ 31 by omega) (fun z2 hf2 => ?_)
      have hz2 := hf2.sR hz1
      have hrow2 : rowC z2 w g (d ++ m :: r) := hrow.fr (by omega) (fun a k q => hf2.1 a k (by unfold aC at q; omega))
      have hf3 : Fr (fun a k => aC w g a k ∨ a = t + 3) z z2 := hf.tr hf2 (fun _ _ q => q) (fun _ _ q => Or.inr q)
      rw [fdL] at he
      refine ifb0 (fun hq => ?_) (fun hq => ?_)
      · rw [if_neg (by rw [hq]; decide)] at he
        refine ⟨_, wR7 hz2 hw, wA3 hw, ?_⟩
        rw [j_6, pk_mul, nI_add, nI_clamp (by omega), wL3 hw]
        refine ⟨vp_in_nI (by omega) (by decide), fun z3 e3 v30 e30 v31 e31 => ?_⟩
        rw [nI_add] at e30
        rw [nI_1] at e31
        subst e3 e30 e31
        have hd2 : (d ++ [ag m]).length = d.length + 1 := by simp
        rw [← hd2]
        refine ih (d ++ [ag m]) (i + 1) _ (by omega) (by omega) (by rw [List.append_assoc]; exact he) (fun q hq => hmem q (List.mem_cons_of_mem _ hq)) (hf3.si (Or.inl (Or.inr ⟨rfl, by omega, by omega⟩))) ?_
        rw [List.append_assoc]
        exact hrow2.set
      · rw [if_pos hq] at he
        refine r_drop hz2 hw (by omega) hrow2 (by omega) (by omega) (fun z3 hf4 hr4 => ?_)
        rw [er_al] at hr4
        intro v31 e31
        rw [nI_1] at e31
        subst e31
        exact ih d (i + 1) z3 (by omega) (by omega) he (fun q hq => hmem q (List.mem_cons_of_mem _ hq)) (hf3.tr hf4 (fun _ _ q => q) (fun _ _ q => Or.inl q)) hr4
  refine ⟨wO hw, _, wR6 hz hw, wA2 hw, by rw [wL2 hw]; exact vp_in_nI (by omega) (by decide), ?_⟩
  intro v5 e5
  rw [nI_clamp (by omega), hr.1] at e5
  subst e5
  exact ⟨_, hloop l [] 0 z (by omega) (by decide) rfl (fun m q => q) Fr.rf hr⟩
theorem c_pass (h : CW z t w S W) (hL : lwOK S) (hT1 : wT W + 1 < 2 ^ 20) (hP : ∀ z', CW z' t w S (psW S W) → Fr (wrCt w t) z z' → P (nI (psN S W)) z') : wX10_pass 148 gSH w t z P := by
  have hh := h
  obtain ⟨hz, ht, hw, hok, hwk, hT, hS, hW⟩ := h
  have h6 := hok.1
  have hwd := hw.dj
  have htl := ht.le
  have hl6 : ∀ g, g < sPA S → (wM W g).length ≤ 6 := fun g hg => ln_le hok hwk hg
  refine ⟨wO hw, tO ht, ?_⟩
  rw [hW.1]
  refine c_lightAt hz ht hS hok (by omega) ?_
  refine (lp (fun m k => ∀ z1, Fr (fun a k => (w + 2 ≤ a ∧ a ≤ w + 3) ∨ a = t + 3) z z1 → (∀ g, g < sPA S → rowC z1 w g (if g < k then psM S W g else wM W g)) → wX10_pass_L14 148 gSH P m w t (nI (sN k (fun g => (wM W g).length - (psM S W g).length))) (nI (sLight S (wT W))) (nI k) z1) (sPA S) (fun m z1 hf hr => ?_) (fun m k hk ih z1 hf hr => ?_)).imp (fun N q => q z Fr.rf (fun g hg => by rw [if_neg (by omega)]; exact hh.row hg))
  · have hz1 := hf.sR hz
    have hS1 : cS z1 t S := hS.fr2 (fun a k q1 q2 q3 => hf.1 a k (by omega))
    unfold wX10_pass_L14 wX10_pass_B14
    refine ⟨tO ht, ?_⟩
    rw [hS1.1, if_pos (nI_le (by omega) (by omega))]
    refine ⟨wO hw, fun z7 e7 => ?_⟩
    rw [(hf.1 w 0 (by omega)).trans hW.1, nI_1] at e7
    subst e7
    have hfr : Fr (wrCt w t) z (si z1 w 0 (nI (wT W + 1))) := Fr.si (hf.mono (fun a k q => by unfold wrCt wrC; omega)) (Or.inl (Or.inl ⟨rfl, by decide⟩))
    refine hP _ (hh.up hfr (psW_ok hwk) hT1 ⟨?_, ?_, ?_, fun q hq => ?_, fun g hg => ?_, fun g hg => ?_⟩) hfr
    · rw [gi_si, if_pos ⟨rfl, rfl⟩]
      rfl
    · rw [gi_si, if_neg (by omega)]
      exact (hf.1 _ _ (by omega)).trans hW.2.1
    · rw [gi_si, if_neg (by omega)]
      exact (hf.1 _ _ (by omega)).trans hW.2.2.1
    · rw [gi_si, if_neg (by omega)]
      exact (hf.1 _ _ (by omega)).trans (hW.2.2.2.1 q hq)
    · have := (hr g hg).1
      rw [if_pos hg] at this
      rw [gi_si, if_neg (by omega)]
      exact this
    · have := (hr g hg).2
      rw [if_pos hg] at this
      intro i hi
      rw [gi_si, if_neg (by omega)]
      exact this i hi
  · have hz1 := hf.sR hz
    have hS1 : cS z1 t S := hS.fr2 (fun a k q1 q2 q3 => hf.1 a k (by omega))
    have hrk := hr k hk
    rw [if_neg (Nat.lt_irrefl k)] at hrk
    unfold wX10_pass_L14 wX10_pass_B14
    refine ⟨tO ht, ?_⟩
    rw [hS1.1, if_neg (nI_ge hk (by omega))]
    refine ⟨wO hw, wO hw, ?_⟩
    rw [(hf.1 w 2 (by omega)).trans hW.2.2.1, bs_bit (by decide) (by omega)]
    refine if_b (A := fun v => if v = 0 then _ else _) (ifb0 (fun hq => ?_) (fun hq => ?_))
    · refine c_fade hz1 ht hw hS1 hok hL hk hrk (hl6 k hk) (fun m hm => ?_) (fun z2 hf2 h2 => ?_)
      · obtain ⟨q1, q2⟩ := hwk.2.2.2 k hk m hm
        exact ⟨q1, by omega⟩
      · intro v14 e14 v11 e11
        rw [nI_1] at e11
        rw [nI_add] at e14
        subst e14 e11
        have ep : psM S W k = fdL S (sLight S (wT W)) (wM W k) := by
          unfold psM
          rw [if_pos hq]
        have := ih z2 (hf.tr hf2 (fun _ _ q => q) (fun a j q => by unfold aC at q; omega)) (fun g hg => ?_)
        · rw [sN_s, ep] at this
          exact this
        by_cases e : g = k
        · subst e
          rw [if_pos (Nat.lt_succ_self g), ep]
          exact h2
        · have hg2 := hr g hg
          have hg3 : rowC z2 w g (if g < k then psM S W g else wM W g) := by
            refine hg2.fr ?_ (fun a j q => hf2.1 a j (by unfold aC at q ⊢; omega))
            have := psM_len (S := S) (W := W) (g := g)
            have := hl6 g hg
            split <;> omega
          by_cases e2 : g < k
          · rw [if_pos e2] at hg3
            rw [if_pos (by omega)]
            exact hg3
          · rw [if_neg e2] at hg3
            rw [if_neg (by omega)]
            exact hg3
    · intro v11 e11
      rw [nI_1] at e11
      subst e11
      have ep : psM S W k = wM W k := by
        unfold psM
        rw [if_neg (by rw [hq]; decide)]
      have := ih z1 hf (fun g hg => ?_)
      · rw [sN_s, ep, Nat.sub_self, Nat.add_zero] at this
        exact this
      by_cases e : g = k
      · subst e
        rw [if_pos (Nat.lt_succ_self g), ep]
        exact hrk
      · have hg3 := hr g hg
        by_cases e2 : g < k
        · rw [if_pos e2] at hg3
          rw [if_pos (by omega)]
          exact hg3
        · rw [if_neg e2] at hg3
          rw [if_neg (by omega)]
          exact hg3
theorem m_isWhole2 (hz : sR z) (hb : b ≤ 1452) (hg : g < 6) {q : Bool} (hq : gi z 145 (b + 12 + g) = nI q.toNat) (h : P (nI (!q).toNat) z) : wX12_isWhole 148 gSH 129 (nI b) (nI g) z P := by
  refine ⟨mO, _, mR24 hz, mA145, ?_⟩
  rw [i_12, nI_add, nI_add, nI_clamp (by omega), mL145, hq]
  refine ⟨vp_in_nI (by omega) (by decide), ifb0 (fun hG => ?_) (fun hG => ?_)⟩
  · rw [hG] at h; exact h
  · rw [hG] at h; exact h
theorem m_isFaded (hz : sR z) (hb : b ≤ 1452) (hg : g < 6) (hS : mS z S) (hmL : mL z S) (hL : lwOK S) (hok : sOK S) (hr : rowM z b g l) (hl : l.length ≤ 6) (hi : i < l.length) {T : Nat} (hT : gi z 145 b = nI T) (hT2 : T < 2 ^ 30) (hm : mB (l.getD i m0)) (hd : (l.getD i m0).2.1 < sDE S) (hP : ∀ z', Fr (fun a _ => a = 143 ∨ a = 144) z z' → P (nI (fds S (sLight S T) (l.getD i m0) (l.length - 1 - i)).toNat) z') : wX12_isFaded 148 gSH 129 (nI b) (nI g) (nI i) z P := by
  have h5 := hok.2.2.1
  have hlen := hok.2.2.2.2.2.2.2.2.2
  generalize hme : l.getD i m0 = m at *
  unfold wX12_isFaded
  refine ⟨mO, r_markOf hz hb hg hr hl hi ?_⟩
  rw [hme]
  refine ⟨_, mR10 hz, mA135, by rw [mL135]; exact vp_in_nI (n := 4) (by decide) (by decide), ?_⟩
  rw [show (4 : Int32).toNatClampNeg = 4 from rfl, hmL.1]
  unfold fds at hP
  by_cases h0 : sLW S = []
  · rw [if_pos h0, if_neg (by decide)]
    simp only [h0, if_true] at hP
    have h1 := hP z Fr.rf
    refine m_ageOf hm ?_
    have := hm.2.2.2
    by_cases hx : m.2.2.2 ≤ 8
    · rw [if_pos (show nI m.2.2.2 ≤ 8 from nI_le (b := 8) hx (by decide))]
      rw [show decide (8 < m.2.2.2) = false by simp; omega] at h1
      exact h1
    · rw [if_neg (show ¬ nI m.2.2.2 ≤ 8 from nI_ge (a := 8) (by omega) (by omega))]
      rw [show decide (8 < m.2.2.2) = true by simp; omega] at h1
      exact h1
  · simp only [h0, if_false] at hP
    rw [if_neg h0, if_pos (by decide)]
    refine ⟨_, mR22 hz, m_ageOf hm ⟨mA143, by rw [mL143]; exact vp_in_nI (n := 0) (by decide) (by decide), fun z1 e1 => ?_⟩⟩
    rw [show (0 : Int32).toNatClampNeg = 0 from rfl] at e1
    have hf1 : Fr (fun a _ => a = 143) z z1 := by rw [e1]; exact Fr.rf.si rfl
    have hz1 := hf1.sR hz
    refine ⟨_, mR22 hz1, _, mR10 hz1, m_deedOf hm ⟨mA135, ?_⟩⟩
    rw [j_28, nI_add, nI_clamp (by omega), mL135, hf1.1 135 _ (by omega), hS.2.2.2.2.2.2.2.2.1 _ hd]
    refine ⟨vp_in_nI (by omega) (by decide), mA143, by rw [mL143]; exact vp_in_nI (n := 1) (by decide) (by decide), fun z2 e2 => ?_⟩
    rw [show (1 : Int32).toNatClampNeg = 1 from rfl] at e2
    have hf2 : Fr (fun a _ => a = 143) z z2 := by rw [e2]; exact hf1.si rfl
    have hz2 := hf2.sR hz
    refine ⟨_, mR22 hz2, _, mR24 hz2, mA145, ?_⟩
    rw [j_0, nI_add, Nat.add_zero, nI_clamp (by omega), mL145, hf2.1 145 _ (by omega), hT]
    refine ⟨vp_in_nI (by omega) (by decide), m_lightOf hz2 (hS.fr (fun k => hf2.1 135 k (by omega))) hok hT2 ⟨mA143, by rw [mL143]; exact vp_in_nI (n := 2) (by decide) (by decide), fun z3 e3 => ?_⟩⟩
    rw [show (2 : Int32).toNatClampNeg = 2 from rfl] at e3
    have hf3 : Fr (fun a _ => a = 143) z z3 := by rw [e3]; exact hf2.si rfl
    have hz3 := hf3.sR hz
    refine ⟨_, mR22 hz3, _, mR24 hz3, mA145, ?_⟩
    rw [j_18, nI_add, nI_add, nI_clamp (by omega), mL145, hf3.1 145 _ (by omega), hr.1, j_1, pk_sub (by omega), pk_sub (by omega)]
    refine ⟨vp_in_nI (by omega) (by decide), mA143, by rw [mL143]; exact vp_in_nI (n := 3) (by decide) (by decide), fun z4 e4 => ?_⟩
    rw [show (3 : Int32).toNatClampNeg = 3 from rfl] at e4
    have hf4 : Fr (fun a _ => a = 143) z z4 := by rw [e4]; exact hf3.si rfl
    have hz4 := hf4.sR hz
    have hmL4 : mL z4 S := ⟨(hf4.1 _ _ (by omega)).trans hmL.1, fun j hj => ⟨(hf4.1 _ _ (by omega)).trans (hmL.2.1 j hj).1, (hf4.1 _ _ (by omega)).trans (hmL.2.1 j hj).2⟩, fun q => (hf4.1 _ _ (by omega)).trans (hmL.2.2 q)⟩
    refine ⟨_, mR10 hz4, mA135, by rw [mL135]; exact vp_in_nI (n := 4) (by decide) (by decide), ?_⟩
    rw [hmL4.1, if_neg h0]
    refine m_worthAt hz4 hmL4 h0 (hL.resolve_left h0) hlen (fa := fac m.2.2.2 (sHA S m.2.1) (sLight S T) (l.length - 1 - i)) (fun k hk => ?_) (fun z5 hf5 => ?_)
    · rw [e4, gi_si]
      by_cases q3 : k = 3
      · subst q3
        rw [if_pos ⟨rfl, rfl⟩]
        rfl
      rw [if_neg (by omega), e3, gi_si]
      by_cases q2 : k = 2
      · subst q2
        rw [if_pos ⟨rfl, rfl⟩]
        rfl
      rw [if_neg (by omega), e2, gi_si]
      by_cases q1 : k = 1
      · subst q1
        rw [if_pos ⟨rfl, rfl⟩]
        rfl
      rw [if_neg (by omega), e1, gi_si]
      have q0 : k = 0 := by omega
      subst q0
      rw [if_pos ⟨rfl, rfl⟩]
      rfl
    · have h1 := hP z5 (hf4.tr hf5 (fun _ _ q => Or.inl q) (fun _ _ q => Or.inr q))
      split
      · rename_i hx
        rw [show decide ((evS (fac m.2.2.2 (sHA S m.2.1) (sLight S T) (l.length - 1 - i)) (sLW S) (fun _ => 0, 0)).1 0 = 0) = true from decide_eq_true hx] at h1
        exact h1
      · rename_i hx
        rw [show decide ((evS (fac m.2.2.2 (sHA S m.2.1) (sLight S T) (l.length - 1 - i)) (sLW S) (fun _ => 0, 0)).1 0 = 0) = false from decide_eq_false hx] at h1
        exact h1
end RC
