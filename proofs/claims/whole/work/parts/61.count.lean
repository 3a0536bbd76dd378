/-! ===== counts, how long a pane shows ===== -/
theorem yO {y : Nat} (h : isY y) : oO 148 gSH y 0 := by rcases h with rfl | rfl <;> exact ⟨by decide, by decide +kernel⟩
theorem yR0 {z : gS} {y : Nat} (hz : sR z) (h : isY y) : gr z y 0 = some (y + 1) := by rcases h with rfl | rfl <;> exact (hz _ _ (by decide) (by decide)).trans (by decide +kernel)
theorem yR1 {z : gS} {y : Nat} (hz : sR z) (h : isY y) : gr z y 1 = some (y + 2) := by rcases h with rfl | rfl <;> exact (hz _ _ (by decide) (by decide)).trans (by decide +kernel)
theorem yR2 {z : gS} {y : Nat} (hz : sR z) (h : isY y) : gr z y 2 = some (y + 3) := by rcases h with rfl | rfl <;> exact (hz _ _ (by decide) (by decide)).trans (by decide +kernel)
theorem yA1 {y : Nat} (h : isY y) : oA 148 gSH (y + 1) 1 := by rcases h with rfl | rfl <;> exact ⟨by decide, by decide +kernel⟩
theorem yA2 {y : Nat} (h : isY y) : oA 148 gSH (y + 2) 1 := by rcases h with rfl | rfl <;> exact ⟨by decide, by decide +kernel⟩
theorem yA3 {y : Nat} (h : isY y) : oA 148 gSH (y + 3) 1 := by rcases h with rfl | rfl <;> exact ⟨by decide, by decide +kernel⟩
theorem yL1 {y : Nat} (h : isY y) : (gSH (y + 1)).2 = 40 := by rcases h with rfl | rfl <;> decide +kernel
theorem yL2 {y : Nat} (h : isY y) : (gSH (y + 2)).2 = 40 := by rcases h with rfl | rfl <;> decide +kernel
theorem yL3 {y : Nat} (h : isY y) : (gSH (y + 3)).2 = 40 := by rcases h with rfl | rfl <;> decide +kernel
theorem tpO : oO 148 gSH 1 5 := ⟨by decide, by decide +kernel⟩
theorem tpA : oA 148 gSH 2 3 := ⟨by decide, by decide +kernel⟩
theorem tpL : (gSH 2).2 = 1000 := by decide +kernel
theorem tpR {z : gS} (hz : sR z) : gr z 1 0 = some 2 := (hz _ _ (by decide) (by decide)).trans (by decide +kernel)
theorem gR0 {z : gS} (hz : sR z) : gr z 0 0 = some 1 := (hz _ _ (by decide) (by decide)).trans (by decide +kernel)
theorem gR5 {z : gS} (hz : sR z) : gr z 0 5 = some 78 := (hz _ _ (by decide) (by decide)).trans (by decide +kernel)
theorem drO : oO 148 gSH 78 1 := ⟨by decide, by decide +kernel⟩
theorem bs_out {f : Nat → Bool} {n : Nat} (hn : n ≤ 6) (h : ∀ g, n ≤ g → f g = false) : bs 6 f = bs n f := by
  apply Nat.eq_of_testBit_eq
  intro i
  rw [bs_tb, bs_tb]
  by_cases hi : i < n
  · rw [decide_eq_true (show i < 6 by omega), decide_eq_true hi]
  · rw [h i (by omega), Bool.and_false, Bool.and_false]
section RP
variable {z : gS} {n w b t : Nat} {S : sS} {W : sW} {Q : Int32 → Int32 → gS → Prop} {P : Int32 → gS → Prop}
theorem m_bitsOf (hz : sR z) (hS : mS z S) (hok : sOK S) {v : Int32} (hw : w ≤ 60) {f : Nat → Bool} (hf : ∀ g, g < sPA S → (gi z 145 (w + g) = v ↔ f g = true)) (hP : P (nI (bs (sPA S) f)) z) : wX12_bitsOf 148 gSH 129 (nI w) v z P := by
  have h6 := hok.1
  refine lp (fun m k => wX12_bitsOf_L5 148 gSH P m 129 (nI w) v (nI (bs k f)) (nI k) z) (sPA S) (fun m => ?_) (fun m k hk ih => ?_)
  · unfold wX12_bitsOf_L5 wX12_bitsOf_B5
    refine ⟨mO, m_panes hz hS ?_⟩
    rw [if_pos (nI_le (by omega) (by omega))]
    exact hP
  · unfold wX12_bitsOf_L5 wX12_bitsOf_B5
    refine ⟨mO, m_panes hz hS ?_⟩
    rw [if_neg (nI_ge hk (by omega))]
    refine ⟨_, mR24 hz, mA145, ?_⟩
    rw [nI_add, nI_clamp (by omega), mL145]
    refine ⟨vp_in_nI (by omega) (by decide), ?_⟩
    by_cases e : gi z 145 (w + k) = v
    · rw [if_pos e]
      intro v7 e7 v8 e8
      rw [j_1, bs_stY (by omega) ((hf k hk).mp e)] at e7
      rw [nI_1] at e8
      subst e7 e8
      exact ih
    · rw [if_neg e]
      intro v7 e7 v8 e8
      rw [j_0, bs_stN (by omega) (by cases q : f k; rfl; exact absurd ((hf k hk).mpr q) e)] at e7
      rw [nI_1] at e8
      subst e7 e8
      exact ih
theorem c_marksHeld (h : CW z t w S W) (hP : P (nI (sN (sPA S) (fun g => ln W g))) z) : wX10_marksHeld 148 gSH w t z P := by
  have h6 := h.2.2.2.1.1
  refine lp (fun m k => wX10_marksHeld_L4 148 gSH P m w t (nI (sN k (fun g => ln W g))) (nI k) z) (sPA S) (fun m => ?_) (fun m k hk ih => ?_)
  · unfold wX10_marksHeld_L4 wX10_marksHeld_B4
    refine ⟨tO h.2.1, ?_⟩
    rw [h.2.2.2.2.2.2.1.1, if_pos (nI_le (by omega) (by omega))]
    exact hP
  · unfold wX10_marksHeld_L4 wX10_marksHeld_B4
    refine ⟨tO h.2.1, ?_⟩
    rw [h.2.2.2.2.2.2.1.1, if_neg (nI_ge hk (by omega))]
    refine ⟨wO h.2.2.1, _, wR6 h.1 h.2.2.1, wA2 h.2.2.1, by rw [wL2 h.2.2.1]; exact vp_in_nI (by omega) (by decide), fun v6 e6 v7 e7 => ?_⟩
    rw [nI_clamp (by omega), h.he hk, nI_add] at e6
    rw [nI_1] at e7
    subst e6 e7
    exact ih
theorem m_marksMany (h : MW z 0 S W) (hP : P (nI (sN (sPA S) (fun g => ln W g))) z) : wX12_marksMany 148 gSH 129 z P := by
  have h6 := h.2.1.1
  refine lp (fun m k => wX12_marksMany_L4 148 gSH P m 129 (nI (sN k (fun g => ln W g))) (nI k) z) (sPA S) (fun m => ?_) (fun m k hk ih => ?_)
  · unfold wX12_marksMany_L4 wX12_marksMany_B4
    refine ⟨mO, m_panes h.1 h.2.2.2.2.1 ?_⟩
    rw [if_pos (nI_le (by omega) (by omega))]
    exact hP
  · unfold wX12_marksMany_L4 wX12_marksMany_B4
    refine ⟨mO, m_panes h.1 h.2.2.2.2.1 ?_⟩
    rw [if_neg (nI_ge hk (by omega))]
    refine ⟨_, mR24 h.1, mA145, ?_⟩
    have e := h.he hk
    rw [show 0 + 18 + k = 18 + k by omega] at e
    rw [j_18, nI_add, nI_clamp (by omega), mL145, e]
    refine ⟨vp_in_nI (by omega) (by decide), fun v7 e7 v8 e8 => ?_⟩
    rw [nI_add] at e7
    rw [nI_1] at e8
    subst e7 e8
    exact ih
theorem q_count (h : RLq z n) (hn : n < 999) (x : Int32) (hQ : ∀ r z', RLq z' (n + 1) → Q r r z') : wX11_count 148 gSH 0 x z (fun r1 z1 => wX12_count 148 gSH 129 x z1 (fun r2 z2 => Q r1 r2 z2)) := by
  have hth := h.th (v := 0)
  obtain ⟨t, yy, S, W, so, ss, H, N, D, nm, tp, hc, hm, hok⟩ := h
  have hcw := hc.cw hok (by omega)
  have hm0 := hm.th hok (v := 0)
  have hmw0 := hm0.mw hok (by omega)
  have ht := hc.2.1
  have hS := hcw.2.2.2.2.2.2.1
  have sok := hok.1
  have k6 := sok.1
  have k5 := sok.2.1
  have k3 := sok.2.2.1
  have hTn := hok.2.2.2.1
  have hmW := hmw0.2.2.2.2.2.1
  have hcW := hcw.2.2.2.2.2.2.2
  unfold wX11_count
  by_cases e0 : x = 0
  · subst e0
    rw [if_pos rfl]
    refine ⟨gO, t, hc.2.2.1, tO ht, ?_⟩
    rw [hS.1]
    refine ⟨mO, fun z0 e0 => ?_⟩; subst e0
    rw [if_pos rfl]
    refine ⟨_, mR10 hm0.1, mA135, by rw [mL135]; exact vp_in_nI (n := 0) (by decide) (by decide), ?_⟩
    rw [show (0 : Int32).toNatClampNeg = 0 from rfl, hm0.2.1.1]
    exact hQ _ _ hth
  by_cases e1 : x = 1
  · subst e1
    rw [if_neg (by decide), if_pos rfl]
    refine ⟨gO, t, hc.2.2.1, tO ht, ?_⟩
    rw [hS.2.1]
    refine ⟨mO, fun z0 e0 => ?_⟩; subst e0
    rw [if_neg (by decide), if_pos rfl]
    refine ⟨_, mR10 hm0.1, mA135, by rw [mL135]; exact vp_in_nI (n := 1) (by decide) (by decide), ?_⟩
    rw [show (1 : Int32).toNatClampNeg = 1 from rfl, hm0.2.1.2.1]
    exact hQ _ _ hth
  by_cases e2 : x = 2
  · subst e2
    rw [if_neg (by decide), if_neg (by decide), if_pos rfl]
    refine ⟨gO, t, hc.2.2.1, tO ht, ?_⟩
    rw [hS.2.2.1]
    refine ⟨mO, fun z0 e0 => ?_⟩; subst e0
    rw [if_neg (by decide), if_neg (by decide), if_pos rfl]
    refine ⟨_, mR10 hm0.1, mA135, by rw [mL135]; exact vp_in_nI (n := 2) (by decide) (by decide), ?_⟩
    rw [show (2 : Int32).toNatClampNeg = 2 from rfl, hm0.2.1.2.2.1]
    exact hQ _ _ hth
  by_cases e3 : x = 3
  · subst e3
    rw [if_neg (by decide), if_neg (by decide), if_neg (by decide), if_pos rfl]
    refine ⟨gO, _, gR1 hc.1, wO w3, ?_⟩
    rw [hcW.1]
    refine ⟨mO, fun z0 e0 => ?_⟩; subst e0
    rw [if_neg (by decide), if_neg (by decide), if_neg (by decide), if_pos rfl]
    refine ⟨_, mR24 hm0.1, mA145, by rw [mL145]; exact vp_in_nI (n := 0) (by decide) (by decide), ?_⟩
    rw [show (0 : Int32).toNatClampNeg = 0 from rfl, hmW.1]
    exact hQ _ _ hth
  by_cases e4 : x = 4
  · subst e4
    rw [if_neg (by decide), if_neg (by decide), if_neg (by decide), if_neg (by decide), if_pos rfl]
    refine ⟨gO, t, hc.2.2.1, _, gR1 hc.1, wO w3, tO ht, ?_⟩
    rw [hcW.1]
    refine c_lightAt hc.1 ht hS sok (by omega) ?_
    refine ⟨mO, fun z0 e0 => ?_⟩; subst e0
    rw [if_neg (by decide), if_neg (by decide), if_neg (by decide), if_neg (by decide), if_pos rfl]
    refine ⟨_, mR24 hm0.1, mA145, by rw [mL145]; exact vp_in_nI (n := 0) (by decide) (by decide), ?_⟩
    rw [show (0 : Int32).toNatClampNeg = 0 from rfl, hmW.1]
    exact m_lightOf hm0.1 hm0.2.1 sok (by omega) (hQ _ _ hth)
  by_cases e5 : x = 5
  · subst e5
    rw [if_neg (by decide), if_neg (by decide), if_neg (by decide), if_neg (by decide), if_neg (by decide), if_pos rfl]
    refine ⟨gO, _, gR1 hc.1, t, hc.2.2.1, wO w3, c_marksHeld hcw ?_⟩
    refine ⟨mO, fun z0 e0 => ?_⟩; subst e0
    rw [if_neg (by decide), if_neg (by decide), if_neg (by decide), if_neg (by decide), if_neg (by decide), if_pos rfl]
    exact m_marksMany hmw0 (hQ _ _ hth)
  by_cases e6 : x = 6
  · subst e6
    rw [if_neg (by decide), if_neg (by decide), if_neg (by decide), if_neg (by decide), if_neg (by decide), if_neg (by decide), if_pos rfl]
    refine ⟨gO, _, gR1 hc.1, wO w3, ?_⟩
    rw [hcW.2.1, bs_out k6 (fun g hg => (hok.2.2.1.2.1 g hg).1)]
    refine ⟨mO, fun z0 e0 => ?_⟩; subst e0
    rw [if_neg (by decide), if_neg (by decide), if_neg (by decide), if_neg (by decide), if_neg (by decide), if_neg (by decide), if_pos rfl]
    refine m_bitsOf (w := 6) hm0.1 hm0.2.1 sok (by decide) (f := wD W) (fun g hg => ?_) (hQ _ _ hth)
    have e := hmW.2.2.1 g hg
    rw [show 0 + 6 + g = 6 + g by omega] at e
    rw [e, j_1, b_eq1]
  by_cases e7 : x = 7
  · subst e7
    rw [if_neg (by decide), if_neg (by decide), if_neg (by decide), if_neg (by decide), if_neg (by decide), if_neg (by decide), if_neg (by decide), if_pos rfl]
    refine ⟨gO, _, gR1 hc.1, wO w3, ?_⟩
    rw [hcW.2.2.1, bs_out k6 (fun g hg => (hok.2.2.1.2.1 g hg).2)]
    refine ⟨mO, fun z0 e0 => ?_⟩; subst e0
    rw [if_neg (by decide), if_neg (by decide), if_neg (by decide), if_neg (by decide), if_neg (by decide), if_neg (by decide), if_neg (by decide), if_pos rfl]
    refine m_bitsOf (w := 12) hm0.1 hm0.2.1 sok (by decide) (f := wG W) (fun g hg => ?_) (hQ _ _ hth)
    have e := hmW.2.2.2.1 g hg
    rw [show 0 + 12 + g = 12 + g by omega] at e
    rw [e, j_1, b_eq1]
  by_cases e8 : x = 8
  · subst e8
    rw [if_neg (by decide), if_neg (by decide), if_neg (by decide), if_neg (by decide), if_neg (by decide), if_neg (by decide), if_neg (by decide), if_neg (by decide), if_pos rfl]
    refine ⟨gO, _, hc.2.2.2.2.2.1, yO hc.2.2.2.2.1, ?_⟩
    rw [hc.2.2.2.2.2.2.2.2.2.2.2.2.1.1]
    refine ⟨mO, fun z0 e0 => ?_⟩; subst e0
    rw [if_neg (by decide), if_neg (by decide), if_neg (by decide), if_neg (by decide), if_neg (by decide), if_neg (by decide), if_neg (by decide), if_neg (by decide), if_pos rfl]
    refine ⟨_, mR21 hm0.1, mA142, by rw [mL142]; exact vp_in_nI (n := 0) (by decide) (by decide), ?_⟩
    rw [show (0 : Int32).toNatClampNeg = 0 from rfl, hm0.2.2.2.2.2.2.2.1.1]
    exact hQ _ _ hth
  by_cases e9 : x = 9
  · subst e9
    rw [if_neg (by decide), if_neg (by decide), if_neg (by decide), if_neg (by decide), if_neg (by decide), if_neg (by decide), if_neg (by decide), if_neg (by decide), if_neg (by decide), if_pos rfl]
    refine ⟨gO, _, gR1 hc.1, wO w3, ?_⟩
    rw [hc.2.2.2.2.2.2.2.2.2.1.1, bs_out k6 hok.2.2.2.2.1]
    refine j_bitCount (Nat.lt_of_lt_of_le (bs_64 so k6) (by decide)) ?_
    refine ⟨mO, fun z0 e0 => ?_⟩; subst e0
    rw [if_neg (by decide), if_neg (by decide), if_neg (by decide), if_neg (by decide), if_neg (by decide), if_neg (by decide), if_neg (by decide), if_neg (by decide), if_neg (by decide), if_pos rfl]
    refine m_bitsOf (w := 60) hm0.1 hm0.2.1 sok (by decide) (f := fun g => so g && !ss g) (fun g hg => ?_) ?_
    · rw [hm0.2.2.2.2.1 g (by omega)]
      cases so g <;> cases ss g <;> decide
    refine m_bitsOf (w := 60) hm0.1 hm0.2.1 sok (by decide) (f := fun g => so g && ss g) (fun g hg => ?_) ?_
    · rw [hm0.2.2.2.2.1 g (by omega)]
      cases so g <;> cases ss g <;> decide
    rw [nI_or, bs_or, bs_congr (g := so) (fun g hg => by cases so g <;> cases ss g <;> rfl)]
    exact m_bits (Nat.lt_of_lt_of_le (bs_64 so k6) (by decide)) (hQ _ _ hth)
  by_cases e10 : x = 10
  · subst e10
    rw [if_neg (by decide), if_neg (by decide), if_neg (by decide), if_neg (by decide), if_neg (by decide), if_neg (by decide), if_neg (by decide), if_neg (by decide), if_neg (by decide), if_neg (by decide), if_pos rfl]
    refine ⟨gO, _, gR3 hc.1, hO, ?_⟩
    rw [hc.2.2.2.2.2.2.2.2.2.2.1.1]
    refine ⟨mO, fun z0 e0 => ?_⟩; subst e0
    rw [if_neg (by decide), if_neg (by decide), if_neg (by decide), if_neg (by decide), if_neg (by decide), if_neg (by decide), if_neg (by decide), if_neg (by decide), if_neg (by decide), if_neg (by decide), if_pos rfl]
    rw [hm0.2.2.2.2.2.1.1]
    exact hQ _ _ hth
  by_cases e11 : x = 11
  · subst e11
    rw [if_neg (by decide), if_neg (by decide), if_neg (by decide), if_neg (by decide), if_neg (by decide), if_neg (by decide), if_neg (by decide), if_neg (by decide), if_neg (by decide), if_neg (by decide), if_neg (by decide), if_pos rfl]
    refine ⟨gO, _, gR0 hc.1, tpO, ?_⟩
    rw [hc.2.2.2.2.2.2.2.2.2.2.2.2.2.2.1]
    refine ⟨mO, fun z0 e0 => ?_⟩; subst e0
    rw [if_neg (by decide), if_neg (by decide), if_neg (by decide), if_neg (by decide), if_neg (by decide), if_neg (by decide), if_neg (by decide), if_neg (by decide), if_neg (by decide), if_neg (by decide), if_neg (by decide), if_pos rfl]
    rw [hm0.2.2.2.2.2.2.2.2.2.1.1]
    exact hQ _ _ hth
  rw [if_neg e0, if_neg e1, if_neg e2, if_neg e3, if_neg e4, if_neg e5, if_neg e6, if_neg e7, if_neg e8, if_neg e9, if_neg e10, if_neg e11]
  refine ⟨mO, fun z0 e0 => ?_⟩; subst e0
  rw [if_neg e0, if_neg e1, if_neg e2, if_neg e3, if_neg e4, if_neg e5, if_neg e6, if_neg e7, if_neg e8, if_neg e9, if_neg e10, if_neg e11]
  exact hQ _ _ hth
end RP
/-! how long -/
def itW (S : sS) (W : sW) : Nat → sW
  | 0 => W
  | k + 1 => psW S (itW S W k)
theorem itW_ok {S : sS} {W : sW} (h : wOK S W) : ∀ k, wOK S (itW S W k)
  | 0 => h
  | k + 1 => psW_ok (itW_ok h k)
theorem itW_T {S : sS} {W : sW} : ∀ k, wT (itW S W k) = wT W + k
  | 0 => rfl
  | k + 1 => by
    show wT (itW S W k) + 1 = _
    rw [itW_T k]
    omega
def aRu (S : sS) (W : sW) (g : Nat) : Nat → Nat → Int32
  | 0, _ => nN
  | f + 1, k => if (wM (itW S W k) g).length = 0 then nI k else aRu S W g f (k + 1)
section RP
variable {z : gS} {n : Nat} {Q : Int32 → Int32 → gS → Prop}
theorem q_run (h : RLq z n) (hn : n < 999) (x : Int32) (hQ : ∀ r z', RLq z' (n + 1) → Q r r z') : wX11_run 148 gSH 0 x z (fun r1 z1 => wX12_run 148 gSH 129 x z1 (fun r2 z2 => Q r1 r2 z2)) := by
  have hth := h.th (v := 0)
  obtain ⟨t, yy, S, W, so, ss, H, N, D, nm, tp, hc, hm, hok⟩ := h
  have hcw := hc.cw hok (by omega)
  have hm0 := hm.th hok (v := 0)
  have hmw0 := hm0.mw hok (by omega)
  have ht := hc.2.1
  have hS := hcw.2.2.2.2.2.2.1
  have sok := hok.1
  have k6 := sok.1
  have k5 := sok.2.1
  have k3 := sok.2.2.1
  have hTn := hok.2.2.2.1
  have tl := ht.le
  have yl := hc.2.2.2.2.1.le
  refine ⟨gO, t, hc.2.2.1, tO ht, ?_⟩
  rcases ix_of x (n := sPA S) (by omega) with hx | ⟨g, hg, rfl⟩
  · refine c_hasPane_no ht hS hx (if0 ?_)
    refine ⟨mO, fun z0 e0 => ?_⟩; subst e0
    exact m_isPane_no hm0.1 hm0.2.1 hx (if0 (hQ _ _ hth))
  refine c_hasPane_yes ht hS sok hg (if1 ?_)
  refine ⟨_, gR2 hc.1, _, gR1 hc.1, wO w7, c_copy hc.1 w7 w3 (by decide) (fun z1 hf1 hc1 => ?_)⟩
  -- the model
  have hmod : ∀ z2, Fr (fun a _ => (7 ≤ a ∧ a ≤ 10) ∨ a = t + 3) z z2 → ∀ r, r = aRu S W g 100 0 → wX12_run 148 gSH 129 (nI g) z2 (fun r2 z2 => Q r r2 z2) := by
    intro z2 hf2 r er
    have hc2 : Cl z2 t yy S W so ss H N D nm tp := hc.up hf2.2.2 (fun a k _ _ => hf2.2.1 a k) (fun a k q1 q2 q3 q4 q5 q6 q7 => hf2.1 a k (by omega)) (hc.2.2.2.2.2.2.2.2.1.fr (fun a k q1 q2 => hf2.1 a k (by omega))) (hc.2.2.2.2.2.2.2.2.2.2.1.fr (fun a k q1 q2 => hf2.1 a k (by omega)))
    have hm2 := (hm.fr hok (hf2.sR hc.1) (hf2.kpM (fun a k q => by omega))).th hok (v := 0)
    refine ⟨mO, fun z0 e0 => ?_⟩; subst e0
    refine m_isPane_yes hm2.1 hm2.2.1 sok hg (if1 (m_copies (f := 0) (d := 1386) (n := 60) hm2.1 (by decide) (by decide) (by decide) (fun z3 hf3 hc3 => ?_)))
    have hend : ∀ z4, Fr (fun a k => (a = 145 ∧ 1386 ≤ k) ∨ a = 143 ∨ a = 144) (si z2 129 0 0) z4 → RLq z4 (n + 1) := by
      intro z4 hf4
      exact RLq.mk (hc2.fr ((kpC.si (by decide)).tr (hf4.kpC (fun a k q => by omega)))) (hm2.up hok (hf4.sR hm2.1) (fun a k _ => hf4.2.1 a k) (fun a k q1 q2 q3 q4 q5 => hf4.1 a k (by omega)) (hm2.2.2.2.1.cp sok hok.2.2.1 (fun k hk => hf4.1 _ _ (by omega))) (hm2.2.2.2.2.2.1.fr sok hok.2.2.2.2.2.1 (fun a k q => hf4.1 _ _ (by omega)))) (hok.mono (Nat.le_succ n))
    have hl : ∀ (f k : Nat) (z4 : gS), k + f = 100 → Fr (fun a k => (a = 145 ∧ 1386 ≤ k) ∨ a = 143 ∨ a = 144) (si z2 129 0 0) z4 → mW z4 1386 S (itW S W k) → aRu S W g f k = r → wX12_run_L27 148 gSH (fun r2 z2 => Q r r2 z2) (f + 1) 129 (nI g) (nI k) z4 := by
      intro f
      induction f with
      | zero =>
        intro k z4 hk hf4 _ ea
        unfold wX12_run_L27 wX12_run_B27
        rw [if_pos (show (100 : Int32) ≤ nI k from nI_le (a := 100) (by omega) (by omega))]
        rw [← ea]
        exact hQ _ _ (hend z4 hf4)
      | succ f ih =>
        intro k z4 hk hf4 hw4 ea
        have hz4 := hf4.sR hm2.1
        have hmw4 : MW z4 1386 S (itW S W k) := ⟨hz4, sok, itW_ok hok.2.2.1 k, by rw [itW_T]; omega, hm2.2.1.fr (fun k => hf4.1 _ _ (by omega)), hw4, by decide⟩
        have hl6 := ln_le sok (itW_ok hok.2.2.1 k) hg
        have he := hmw4.he hg
        unfold ln at he hl6
        unfold wX12_run_L27 wX12_run_B27
        rw [if_neg (show ¬ (100 : Int32) ≤ nI k from nI_ge (b := 100) (by omega) (by decide))]
        refine ⟨mO, _, mR24 hz4, mA145, ?_⟩
        rw [show (1404 : Int32) = nI 1404 by decide, nI_add, nI_clamp (by omega), mL145, he]
        refine ⟨vp_in_nI (by omega) (by decide), ?_⟩
        rw [aRu] at ea
        by_cases e : (wM (itW S W k) g).length = 0
        · rw [if_pos e] at ea
          rw [e, if_pos (by decide), ← ea]
          exact hQ _ _ (hend z4 hf4)
        · rw [if_neg e] at ea
          rw [if_neg (nI_ne0 (by omega) (by omega))]
          refine m_passes (b := 1386) hmw4 (hm2.2.2.1.fr (fun a k q1 q2 => hf4.1 _ _ (by omega))) hok.2.1 (by rw [itW_T]; omega) (fun z5 hmw5 hf5 v13 e13 => ?_)
          rw [nI_1] at e13
          subst e13
          exact ih (k + 1) z5 (by omega) (hf4.tr hf5 (fun _ _ q => q) (fun a k q => by unfold wrMt wrM at q; omega)) hmw5.2.2.2.2.2.1 ea
    exact ⟨_, hl 100 0 z3 (by decide) (hf3.mono (fun a k q => Or.inl ⟨q.1, q.2.1⟩)) (hm2.2.2.2.1.cp sok hok.2.2.1 hc3) er.symm⟩
  -- the class
  have hl : ∀ (f k : Nat) (z4 : gS), k + f = 100 → Fr (fun a _ => (7 ≤ a ∧ a ≤ 10) ∨ a = t + 3) z z4 → cW z4 7 S (itW S W k) → aRu S W g f k = aRu S W g 100 0 → wX11_run_L26 148 gSH (fun r1 z1 => wX12_run 148 gSH 129 (nI g) z1 (fun r2 z2 => Q r1 r2 z2)) (f + 1) 0 (nI g) (nI k) z4 := by
    intro f
    induction f with
    | zero =>
      intro k z4 hk hf4 _ ea
      unfold wX11_run_L26 wX11_run_B26
      rw [if_pos (show (99 : Int32) < nI k from nI_lt (a := 99) (by omega) (by omega))]
      exact hmod z4 hf4 _ ea
    | succ f ih =>
      intro k z4 hk hf4 hw4 ea
      have hz4 := hf4.sR hc.1
      have hcw4 : CW z4 t 7 S (itW S W k) := ⟨hz4, ht, w7, sok, itW_ok hok.2.2.1 k, by rw [itW_T]; omega, hS.fr2 (fun a k q1 q2 q3 => hf4.1 _ _ (by omega)), hw4⟩
      have hl6 := ln_le sok (itW_ok hok.2.2.1 k) hg
      have he := hcw4.he hg
      unfold ln at he hl6
      have h7 : gr z4 0 7 = some t := (hf4.2.2 _ _).trans hc.2.2.1
      unfold wX11_run_L26 wX11_run_B26
      rw [if_neg (show ¬ (99 : Int32) < nI k from nI_nlt (a := 99) (by omega) (by decide))]
      refine ⟨gO, _, gR2 hz4, wO w7, _, wR6 hz4 w7, wA2 w7, by rw [wL2 w7]; exact vp_in_nI (by omega) (by decide), ?_⟩
      rw [nI_clamp (by omega), he]
      have ea2 := ea
      rw [aRu] at ea2
      by_cases e : (wM (itW S W k) g).length = 0
      · rw [if_pos e] at ea2
        rw [e, if_pos (by decide)]
        exact hmod z4 hf4 _ ea2
      · rw [if_neg e] at ea2
        rw [if_neg (nI_ne0 (by omega) (by omega))]
        refine ⟨_, gR2 hz4, _, h7, wO w7, c_pass hcw4 hok.2.1 (by rw [itW_T]; omega) (fun z5 hcw5 hf5 v22 e22 => ?_)⟩
        rw [nI_1] at e22
        subst e22
        exact ih (k + 1) z5 (by omega) (hf4.tr hf5 (fun _ _ q => q) (fun a k q => by unfold wrCt wrC at q; omega)) hcw5.2.2.2.2.2.2.2 ea2
  exact ⟨_, hl 100 0 z1 (by decide) (hf1.mono (fun a k q => by unfold wrC at q; omega)) (hc1 S W sok hok.2.2.1 hcw.2.2.2.2.2.2.2) rfl⟩
end RP
