/-! ===== a day is judged ===== -/
def aHr (S : sS) (W : sW) : Nat := hrm S (dsP W (qO S W none) 6 (sPA S))
def aJu (S : sS) (D : List sL) (k : Nat) : Int32 := if k = 0 then oI (dyS S D D.length).2.1 else if k = 1 then oI (dyS S D D.length).2.2 else nI (aHr S (dyS S D D.length).1)
theorem oI_n {k : Nat} {o : Option Nat} (hk : k ≤ 40) (ho : oLt k o) : (oI o = -1) ↔ o = none := by
  cases o with
  | none => exact ⟨fun _ => rfl, fun _ => by decide⟩
  | some j =>
    have hj : j < k := ho
    refine ⟨fun q => ?_, fun q => by cases q⟩
    have : (nI j = nN) = False := nN_eq' (by omega)
    exact absurd q (by rw [nN_e]; show ¬ nI j = nN; rw [this]; exact id)
theorem oI_0 {k : Nat} {o : Option Nat} (hk : k ≤ 40) (ho : oLt k o) : (0 ≤ oI o) ↔ o ≠ none := by
  cases o with
  | none => exact ⟨fun q => absurd q (by decide), fun q => absurd rfl q⟩
  | some j =>
    have hj : j < k := ho
    exact ⟨fun _ => by simp, fun _ => nI_pos' (by omega)⟩
theorem upO_y {k : Nat} {o : Option Nat} {b : Bool} (hb : b = true) (ho : o = none) : upO b k o = some k := if_pos ⟨hb, ho⟩
theorem upO_n {k : Nat} {o : Option Nat} {b : Bool} (h : b = false ∨ o ≠ none) : upO b k o = o := if_neg (fun q => h.elim (fun h => by rw [q.1] at h; cases h) (fun h => h q.2))
section RP
variable {z : gS} {n : Nat} {Q : Int32 → Int32 → gS → Prop}
theorem q_judged (h : RLq z n) (hn : n < 999) (x : Int32) (hQ : ∀ r z', RLq z' (n + 1) → Q r r z') : wX11_judged 148 gSH 0 x z (fun r1 z1 => wX12_judged 148 gSH 129 x z1 (fun r2 z2 => Q r1 r2 z2)) := by
  have hth := h.th (v := 0)
  obtain ⟨t, yy, S, W, so, ss, H, N, D, nm, tp, hc, hm, hok⟩ := h
  have hcw := hc.cw hok (by omega)
  have hm0 := hm.th hok (v := 0)
  have hmw0 := hm0.mw hok (by omega)
  have ht := hc.2.1
  have hS := hcw.2.2.2.2.2.2.1
  have sok := hok.1
  have k6 := sok.1
  have k5 := sok.2.1
  have k3 := sok.2.2.1
  have hTn := hok.2.2.2.1
  have tl := ht.le
  have hy := hc.2.2.2.2.1
  have yl := hy.le
  have hdk := hok.2.2.2.2.2.2.2.1
  have hd40 := hdk.1
  unfold wX11_judged
  rcases rg_of x (a := 0) (b := 2) (by decide) (by decide) with hx | hx | ⟨a, -, ha2, rfl⟩
  · rw [if_pos (show x < 0 from hx)]
    refine ⟨mO, fun z0 e0 => ?_⟩; subst e0
    exact m_within_lo (a := 0) (b := 2) hx (if0 (hQ _ _ hth))
  · rw [if_neg (show ¬ x < 0 by rw [j_0, lt_nlt hx (by decide) (by decide) (by decide)]; exact id), if_neg (show ¬ x ≤ 2 by rw [j_2, lt_nle hx]; exact id)]
    refine ⟨mO, fun z0 e0 => ?_⟩; subst e0
    exact m_within_hi (a := 0) (b := 2) hx (if0 (hQ _ _ hth))
  rw [if_neg (nI_pos (by omega)), if_pos (show nI a ≤ 2 from nI_le (b := 2) ha2 (by decide))]
  -- the model
  have hmod : ∀ z2, Fr (fun a k => (7 ≤ a ∧ a ≤ 10) ∨ a = t + 3 ∨ (a = yy ∧ 4 ≤ k)) z z2 → wX12_judged 148 gSH 129 (nI a) z2 (fun r2 z2 => Q (aJu S D a) r2 z2) := by
    intro z2 hf2
    have hc2 : Cl z2 t yy S W so ss H N D nm tp := hc.up hf2.2.2 (fun a k _ _ => hf2.2.1 a k) (fun a k q1 q2 q3 q4 q5 q6 q7 => hf2.1 a k (by omega)) (hc.2.2.2.2.2.2.2.2.1.fr (fun a k q1 q2 => hf2.1 a k (by omega))) (hc.2.2.2.2.2.2.2.2.2.2.1.fr (fun a k q1 q2 => hf2.1 a k (by omega)))
    have hm2 := (hm.fr hok (hf2.sR hc.1) (hf2.kpM (fun a k q => by omega))).th hok (v := 0)
    have hmd := hm2.2.2.2.2.2.2.2.1
    refine ⟨mO, fun z0 e0 => ?_⟩; subst e0
    refine m_within_in (a := 0) (b := 2) (by omega) ha2 (by decide) (if1 ?_)
    refine m_starts (b := 1386) hm2.1 (by decide) sok hm2.2.1 (fun z3 hmw3 hf3 => ?_)
    have hend : ∀ z4, Fr aDn (si z2 129 0 0) z4 → RLq z4 (n + 1) := by
      intro z4 hf4
      have hs : ∀ a k, ¬ (a = 145 ∧ 1386 ≤ k) → a ≠ 143 → a ≠ 144 → ¬ (a = 129 ∧ k = 27) → gi z4 a k = gi (si z2 129 0 0) a k := fun a k q1 q2 q3 q4 => hf4.1 a k (by unfold aDn wrMt wrM; omega)
      exact RLq.mk (hc2.fr ((kpC.si (by decide)).tr (hf4.kpC (fun a k q => by unfold aDn wrMt wrM at q; omega)))) (hm2.up hok (hf4.sR hm2.1) (fun a k _ => hf4.2.1 a k) (fun a k q1 q2 q3 q4 q5 => hs a k (by omega) q3 q4 (by omega)) (hm2.2.2.2.1.cp sok hok.2.2.1 (fun k hk => hs _ _ (by omega) (by omega) (by omega) (by omega))) (hm2.2.2.2.2.2.1.fr sok hok.2.2.2.2.2.1 (fun a k q => hs _ _ (by omega) (by omega) (by omega) (by omega)))) (hok.mono (Nat.le_succ n))
    refine (lp (fun m k => ∀ z4, k ≤ D.length → MW z4 1386 S (dyS S D k).1 → Fr aDn (si z2 129 0 0) z4 → wX12_judged_L31 148 gSH (fun r2 z2 => Q (aJu S D a) r2 z2) m 129 (nI a) (oI (dyS S D k).2.1) (oI (dyS S D k).2.2) (nI k) z4) D.length (fun m z4 _ hmw4 hf4 => ?_) (fun m k hk ih z4 _ hmw4 hf4 => ?_)).imp (fun N q => q z3 (Nat.zero_le _) hmw3 (hf3.mono (fun _ _ q => Or.inl (Or.inl q))))
    · have hz4 := hmw4.1
      have hd0 : gi z4 142 0 = nI D.length := (hf4.1 _ _ (by unfold aDn wrMt wrM; omega)).trans hmd.1
      unfold wX12_judged_L31 wX12_judged_B31
      refine ⟨mO, _, mR21 hz4, mA142, by rw [mL142]; exact vp_in_nI (n := 0) (by decide) (by decide), ?_⟩
      rw [show (0 : Int32).toNatClampNeg = 0 from rfl, hd0, if_pos (nI_le (by omega) (by omega))]
      have : a = 0 ∨ a = 1 ∨ a = 2 := by omega
      rcases this with rfl | rfl | rfl
      · rw [if_pos (by decide)]
        exact hQ _ _ (hend z4 hf4)
      · rw [if_neg (by decide), if_pos (by decide)]
        exact hQ _ _ (hend z4 hf4)
      · rw [if_neg (by decide), if_neg (by decide)]
        exact m_harmShown (b := 1386) (p := none) (n := 6) hmw4 trivial (by decide) (hQ _ _ (hend z4 hf4))
    · have hz4 := hmw4.1
      obtain ⟨w1, w2⟩ := dyS_ok sok hdk k (by omega)
      have hd0 : gi z4 142 0 = nI D.length := (hf4.1 _ _ (by unfold aDn wrMt wrM; omega)).trans hmd.1
      obtain ⟨d1, d2, d3⟩ := hmd.2 k hk
      have d1' : gi z4 142 (1 + 3 * k) = nI (D.getD k l0).1 := (hf4.1 _ _ (by unfold aDn wrMt wrM; omega)).trans d1
      have d2' : gi z4 142 (2 + 3 * k) = nI (D.getD k l0).2.1 := (hf4.1 _ _ (by unfold aDn wrMt wrM; omega)).trans d2
      have d3' : gi z4 142 (3 + 3 * k) = nI (D.getD k l0).2.2 := (hf4.1 _ _ (by unfold aDn wrMt wrM; omega)).trans d3
      obtain ⟨o1, o2⟩ := dyS_lt (S := S) (D := D) k
      unfold wX12_judged_L31 wX12_judged_B31
      refine ⟨mO, _, mR21 hz4, mA142, by rw [mL142]; exact vp_in_nI (n := 0) (by decide) (by decide), ?_⟩
      rw [show (0 : Int32).toNatClampNeg = 0 from rfl, hd0, if_neg (nI_ge hk (by omega))]
      rw [show (1 : Int32) = nI 1 from rfl, show (2 : Int32) = nI 2 from rfl, show (3 : Int32) = nI 3 from rfl, pk_mul, nI_add, nI_add, nI_add, nI_clamp (by omega), nI_clamp (by omega), nI_clamp (by omega)]
      refine ⟨_, mR21 hz4, mA142, by rw [mL142]; exact vp_in_nI (by omega) (by decide), _, mR21 hz4, mA142, by rw [mL142]; exact vp_in_nI (by omega) (by decide), _, mR21 hz4, mA142, by rw [mL142]; exact vp_in_nI (by omega) (by decide), ?_⟩
      rw [d1', d2', d3']
      refine m_done hmw4 (hm2.2.2.1.fr (fun a k q1 q2 => hf4.1 _ _ (by unfold aDn wrMt wrM; omega))) hok.2.1 (by omega) (lget hdk hk) (fun z5 hmw5 hu5 hf5 => ?_)
      have hf6 := hf4.tr (C := aDn) hf5 (fun _ _ q => q) (fun _ _ q => q)
      have ih5 := ih z5 hk hmw5 hf6
      have hJ : ∀ r, r = oI (dyS S D (k + 1)).2.1 → wX12_judged_J96 148 gSH (wX12_judged_L31 148 gSH (fun r2 z2 => Q (aJu S D a) r2 z2) m) (fun r2 z2 => Q (aJu S D a) r2 z2) 129 (nI a) (oI (dyS S D k).2.2) (nI k) r z5 := by
        intro r er
        refine ⟨mO, ?_⟩
        rw [hu5]
        refine ifb0 (fun q => ?_) (fun q => ?_)
        · intro v27 e27
          rw [nI_1] at e27
          subst e27 er
          have : (dyS S D (k + 1)).2.2 = (dyS S D k).2.2 := upO_n (Or.inl q)
          rw [← this]
          exact ih5
        · by_cases e : (dyS S D k).2.2 = none
          · rw [if_neg (fun q => (oI_0 (show k ≤ 40 by omega) o2).mp q e)]
            intro v27 e27
            rw [nI_1] at e27
            subst e27 er
            have : (dyS S D (k + 1)).2.2 = some k := upO_y q e
            rw [this] at ih5
            exact ih5
          · rw [if_pos ((oI_0 (show k ≤ 40 by omega) o2).mpr e)]
            intro v27 e27
            rw [nI_1] at e27
            subst e27 er
            have : (dyS S D (k + 1)).2.2 = (dyS S D k).2.2 := upO_n (Or.inr e)
            rw [← this]
            exact ih5
      refine ifb0 (fun q => ?_) (fun q => ?_)
      · by_cases e : (dyS S D k).2.1 = none
        · rw [if_neg (fun q => (oI_0 (show k ≤ 40 by omega) o1).mp q e)]
          refine hJ _ ?_
          have : (dyS S D (k + 1)).2.1 = some k := upO_y (by rw [q]; rfl) e
          rw [this]
          rfl
        · rw [if_pos ((oI_0 (show k ≤ 40 by omega) o1).mpr e)]
          refine hJ _ ?_
          have : (dyS S D (k + 1)).2.1 = (dyS S D k).2.1 := upO_n (Or.inr e)
          rw [this]
      · refine hJ _ ?_
        have : (dyS S D (k + 1)).2.1 = (dyS S D k).2.1 := upO_n (Or.inl (by rw [q]; rfl))
        rw [this]
  -- the class
  have hcd := hc.2.2.2.2.2.2.2.2.2.2.2.2.1
  refine ⟨gO, _, hc.2.2.2.2.2.1, _, hc.2.2.1, _, gR2 hc.1, yO hy, wO w7, c_begin hc.1 ht w7 sok hS (fun z2 hcw2 hf2 => ⟨yO hy, fun z5 e5 z6 e6 => ?_⟩)⟩
  have hf6 : Fr (fun a k => (7 ≤ a ∧ a ≤ 10) ∨ a = t + 3 ∨ (a = yy ∧ 4 ≤ k)) z z6 := by
    rw [e6, e5]
    exact ((hf2.mono (fun a k q => by unfold wrC at q; omega)).si (Or.inr (Or.inr ⟨rfl, by decide⟩))).si (Or.inr (Or.inr ⟨rfl, by decide⟩))
  have hcw6 : CW z6 t 7 S (bgW S) := hcw2.oth (hf6.sR hc.1) (fun a k q => by rw [e6, gi_si, if_neg (by omega), e5, gi_si, if_neg (by omega)])
  have h64 : gi z6 yy 4 = nN := by rw [e6, gi_si, if_neg (by omega), e5, gi_si, if_pos ⟨rfl, rfl⟩]; rfl
  have h65 : gi z6 yy 5 = nN := by rw [e6, gi_si, if_pos ⟨rfl, rfl⟩]; rfl
  have hloop : ∀ PP : gS → Prop, (∀ z4, CW z4 t 7 S (dyS S D D.length).1 → gi z4 yy 4 = oI (dyS S D D.length).2.1 → gi z4 yy 5 = oI (dyS S D D.length).2.2 → Fr (fun a k => (7 ≤ a ∧ a ≤ 10) ∨ a = t + 3 ∨ (a = yy ∧ 4 ≤ k)) z z4 → PP z4) → ∃ N, wX0_play_L17 148 gSH PP N yy t 7 (nI 0) z6 := by
    intro PP hPP
    refine (lp (fun m k => ∀ z4, k ≤ D.length → CW z4 t 7 S (dyS S D k).1 → gi z4 yy 4 = oI (dyS S D k).2.1 → gi z4 yy 5 = oI (dyS S D k).2.2 → Fr (fun a k => (7 ≤ a ∧ a ≤ 10) ∨ a = t + 3 ∨ (a = yy ∧ 4 ≤ k)) z z4 → wX0_play_L17 148 gSH PP m yy t 7 (nI k) z4) D.length (fun m z4 _ hcw4 h44 h45 hf4 => ?_) (fun m k hk ih z4 _ hcw4 h44 h45 hf4 => ?_)).imp (fun N q => q z6 (Nat.zero_le _) hcw6 h64 h65 hf6)
    · have hz4 := hcw4.1
      have hd0 : gi z4 yy 3 = nI D.length := (hf4.1 _ _ (by omega)).trans hcd.1
      unfold wX0_play_L17 wX0_play_B17
      refine ⟨yO hy, ?_⟩
      rw [hd0, if_pos (nI_le (by omega) (by omega))]
      exact hPP z4 hcw4 h44 h45 hf4
    · have hz4 := hcw4.1
      obtain ⟨w1, w2⟩ := dyS_ok sok hdk k (by omega)
      have hd0 : gi z4 yy 3 = nI D.length := (hf4.1 _ _ (by omega)).trans hcd.1
      obtain ⟨d1, d2, d3⟩ := hcd.2 k hk
      have d1' : gi z4 (yy + 1) k = nI (5 + (D.getD k l0).1) := (hf4.1 _ _ (by omega)).trans d1
      have d2' : (D.getD k l0).1 ≠ 5 → gi z4 (yy + 2) k = nI (D.getD k l0).2.1 := fun q => (hf4.1 _ _ (by omega)).trans (d2 q)
      have d3' : (D.getD k l0).1 < 2 → gi z4 (yy + 3) k = nI (D.getD k l0).2.2 := fun q => (hf4.1 _ _ (by omega)).trans (d3 q)
      obtain ⟨o1, o2⟩ := dyS_lt (S := S) (D := D) k
      have hlk := lget hdk hk
      have hl6 := hlk.1
      have hK : ∀ z5, CW z5 t 7 S (dyS S D (k + 1)).1 → gi z5 yy 4 = oI (dyS S D (k + 1)).2.1 → gi z5 yy 5 = oI (dyS S D (k + 1)).2.2 → Fr (fun a k => (7 ≤ a ∧ a ≤ 10) ∨ a = t + 3 ∨ (a = yy ∧ 4 ≤ k)) z z5 → wX0_play_J99 148 gSH (wX0_play_L17 148 gSH PP m) PP yy t 7 (nI k) z5 := by
        intro z5 a1 a2 a3 a4 v13 e13
        rw [nI_1] at e13
        subst e13
        exact ih z5 hk a1 a2 a3 a4
      unfold wX0_play_L17 wX0_play_B17
      refine ⟨yO hy, ?_⟩
      rw [hd0, if_neg (nI_ge hk (by omega))]
      refine ⟨_, yR0 hz4 hy, yA1 hy, by rw [yL1 hy]; exact vp_in_nI (by omega) (by decide), ?_⟩
      rw [nI_clamp (by omega), d1']
      by_cases e1 : (D.getD k l0).1 = 1
      · rw [e1, if_pos (by decide)]
        refine ⟨_, yR1 hz4 hy, yA2 hy, by rw [yL2 hy]; exact vp_in_nI (by omega) (by decide), _, yR2 hz4 hy, yA3 hy, by rw [yL3 hy]; exact vp_in_nI (by omega) (by decide), wO w7, ?_⟩
        rw [d2' (by omega), d3' (by omega)]
        refine c_act hcw4 (hlk.2.1 (by omega)) (hlk.2.2.2.2 e1) (fun z5 hcw5 hf5 => ?_)
        have hf5' := hf4.tr (C := fun a k => (7 ≤ a ∧ a ≤ 10) ∨ a = t + 3 ∨ (a = yy ∧ 4 ≤ k)) hf5 (fun _ _ q => q) (fun a k q => by unfold wrC at q; omega)
        have eN : (dyS S D (k + 1)).1 = acW S (dyS S D k).1 (D.getD k l0).2.1 (D.getD k l0).2.2 := by
          show dyN S (dyS S D k).1 (D.getD k l0) = _
          unfold dyN
          rw [if_neg (by omega), if_pos e1]
        have eR : (dyS S D (k + 1)).2.1 = (dyS S D k).2.1 := upO_n (Or.inl (by unfold dyC; rw [if_neg (by omega), if_pos e1]; rfl))
        have h54 : gi z5 yy 4 = oI (dyS S D k).2.1 := (hf5.1 _ _ (by unfold wrC; omega)).trans h44
        have h55 : gi z5 yy 5 = oI (dyS S D k).2.2 := (hf5.1 _ _ (by unfold wrC; omega)).trans h45
        have hlt : sWa S (dyS S D k).1 (wC (dyS S D k).1 (D.getD k l0).2.1) < 64 := bs_64 _ k6
        by_cases e0 : sWa S (dyS S D k).1 (wC (dyS S D k).1 (D.getD k l0).2.1) = 0
        · have eU : dyU S (dyS S D k).1 (D.getD k l0) = true := by
            unfold dyU
            rw [decide_eq_true e1, decide_eq_true e0]
            rfl
          rw [if_pos (show nI (sWa S (dyS S D k).1 (wC (dyS S D k).1 (D.getD k l0).2.1)) = 0 by rw [e0]; rfl), h55]
          by_cases e : (dyS S D k).2.2 = none
          · rw [if_pos ((oI_n (show k ≤ 40 by omega) o2).mpr e)]
            intro z7 e7
            have : (dyS S D (k + 1)).2.2 = some k := upO_y eU e
            refine hK z7 (by rw [eN, e7]; exact hcw5.oth (hcw5.1.to (fun _ _ => rfl)) (fun a k q => by rw [gi_si, if_neg (by omega)])) (by rw [eR, e7, gi_si, if_neg (by omega)]; exact h54) (by rw [this, e7, gi_si, if_pos ⟨rfl, rfl⟩]; rfl) (by rw [e7]; exact hf5'.si (Or.inr (Or.inr ⟨rfl, by decide⟩)))
          · rw [if_neg (fun q => e ((oI_n (show k ≤ 40 by omega) o2).mp q))]
            have : (dyS S D (k + 1)).2.2 = (dyS S D k).2.2 := upO_n (Or.inr e)
            exact hK z5 (by rw [eN]; exact hcw5) (by rw [eR]; exact h54) (by rw [this]; exact h55) hf5'
        · rw [if_neg (nI_ne0 (by omega) (by omega))]
          have eU : dyU S (dyS S D k).1 (D.getD k l0) = false := by
            unfold dyU
            rw [decide_eq_false e0, Bool.and_false]
          have : (dyS S D (k + 1)).2.2 = (dyS S D k).2.2 := upO_n (Or.inl eU)
          exact hK z5 (by rw [eN]; exact hcw5) (by rw [eR]; exact h54) (by rw [this]; exact h55) hf5'
      · rw [if_neg (show ¬ nI (5 + (D.getD k l0).1) = 6 from fun q => by have := (nI_eq (b := 6) (by omega) (by decide)).mp q; omega)]
        refine c_isPlayed hy hcw4 hok.2.1 (by omega) (by omega) d1' d2' d3' hlk e1 (fun z5 hcw5 hf5 => ?_)
        have hf5' := hf4.tr (C := fun a k => (7 ≤ a ∧ a ≤ 10) ∨ a = t + 3 ∨ (a = yy ∧ 4 ≤ k)) hf5 (fun _ _ q => q) (fun a k q => by unfold wrCt wrC at q; omega)
        have eU : (dyS S D (k + 1)).2.2 = (dyS S D k).2.2 := upO_n (Or.inl (by unfold dyU; rw [decide_eq_false e1]; rfl))
        have h54 : gi z5 yy 4 = oI (dyS S D k).2.1 := (hf5.1 _ _ (by unfold wrCt wrC; omega)).trans h44
        have h55 : gi z5 yy 5 = oI (dyS S D k).2.2 := (hf5.1 _ _ (by unfold wrCt wrC; omega)).trans h45
        refine ifb0 (fun q => ?_) (fun q => ?_)
        · rw [h54]
          by_cases e : (dyS S D k).2.1 = none
          · rw [if_pos ((oI_n (show k ≤ 40 by omega) o1).mpr e)]
            intro z7 e7
            have : (dyS S D (k + 1)).2.1 = some k := upO_y (by rw [q]; rfl) e
            refine hK z7 (by rw [e7]; exact hcw5.oth (hcw5.1.to (fun _ _ => rfl)) (fun a k q => by rw [gi_si, if_neg (by omega)])) (by rw [this, e7, gi_si, if_pos ⟨rfl, rfl⟩]; rfl) (by rw [eU, e7, gi_si, if_neg (by omega)]; exact h55) (by rw [e7]; exact hf5'.si (Or.inr (Or.inr ⟨rfl, by decide⟩)))
          · rw [if_neg (fun q => e ((oI_n (show k ≤ 40 by omega) o1).mp q))]
            have : (dyS S D (k + 1)).2.1 = (dyS S D k).2.1 := upO_n (Or.inr e)
            exact hK z5 hcw5 (by rw [this]; exact h54) (by rw [eU]; exact h55) hf5'
        · have : (dyS S D (k + 1)).2.1 = (dyS S D k).2.1 := upO_n (Or.inl (by rw [q]; rfl))
          exact hK z5 hcw5 (by rw [this]; exact h54) (by rw [eU]; exact h55) hf5'
  refine hloop _ (fun z4 hcw4 h44 h45 hf4 => ?_)
  have hz4 := hcw4.1
  have g7 : gr z4 0 7 = some t := (hf4.2.2 _ _).trans hc.2.2.1
  have g9 : gr z4 0 9 = some yy := (hf4.2.2 _ _).trans hc.2.2.2.2.2.1
  have hm4 := hmod z4 hf4
  dsimp only
  have : a = 0 ∨ a = 1 ∨ a = 2 := by omega
  rcases this with rfl | rfl | rfl
  · rw [if_pos (by decide)]
    refine ⟨_, g9, yO hy, ?_⟩
    rw [h44]
    exact hm4
  · rw [if_neg (by decide), if_pos (by decide)]
    refine ⟨_, g9, yO hy, ?_⟩
    rw [h45]
    exact hm4
  · rw [if_neg (by decide), if_neg (by decide)]
    refine ⟨_, g7, _, gR2 hz4, c_harmShown (n := 6) hcw4 (by decide) ?_⟩
    exact hm4
end RP
