/-! ===== years, both sides ===== -/
def aYe (S : sS) (s : yS) (a : Nat) : Int32 := if a = 0 then nI s.2.2.1 else if a = 1 then nI s.2.2.2 else nI (aHr S s.2.1)
section RP
variable {z : gS} {n t T : Nat} {S : sS} {s : yS} {R : gS → Prop}
theorem c_years (h : yrC z t S s) (hL : lwOK S) (hy : yOK S T s) {hr : Nat} (hh : T + hr < 2 ^ 19) (hP : ∀ z', yrC z' t S (yrS S s hr) → Fg (aYc t) (fun a => a = 78) z z' → R z') : ∃ N, wX2_play_L19 148 gSH R N 78 t 7 (nI hr) (nI 0) z := by
  have hok := h.1.2.2.2.1
  have ht := h.1.2.1
  have tl := ht.le
  have k6 := hok.1
  have k5 := hok.2.1
  refine (lp (fun m k => ∀ z4, k ≤ hr → yrC z4 t S (yrS S s k) → Fg (aYc t) (fun a => a = 78) z z4 → wX2_play_L19 148 gSH R m 78 t 7 (nI hr) (nI k) z4) hr (fun m z4 _ h4 hf4 => ?_) (fun m k hk ih z4 _ h4 hf4 => ?_)).imp (fun N q => q z (Nat.zero_le _) h Fg.rf)
  · unfold wX2_play_L19 wX2_play_B19
    rw [if_pos (nI_le (by omega) (by omega))]
    exact hP z4 h4 hf4
  · have hyk := yrS_ok hok hy k
    unfold wX2_play_L19 wX2_play_B19
    rw [if_neg (nI_ge hk (by omega))]
    refine (lp (fun m2 j => ∀ z5, j ≤ sPE S → yrC z5 t S (yrPs S (yrS S s k) j) → Fg (aYc t) (fun a => a = 78) z z5 → wX2_play_L29 148 gSH (wX2_play_L19 148 gSH R m) R m2 78 t 7 (nI hr) (nI k) (nI j) z5) (sPE S) (fun m2 z5 _ h5 hf5 => ?_) (fun m2 j hj ih2 z5 _ h5 hf5 => ?_)).imp (fun N q => q z4 (Nat.zero_le _) h4 hf4)
    · have hyp := yrPs_ok hok hyk (sPE S) (Nat.le_refl _)
      have hyw := yrW_ok hyp
      have hJ : ∀ z6, yrC z6 t S (yrW S (yrPs S (yrS S s k) (sPE S))) → Fg (aYc t) (fun a => a = 78) z z6 → wX2_play_J81 148 gSH (wX2_play_L19 148 gSH R m) R 78 t 7 (nI hr) (nI k) z6 := by
        intro z6 h6 hf6
        have hT6 : wT (yrW S (yrPs S (yrS S s k) (sPE S))).2.1 ≤ T + k := hyw.2.2
        refine ⟨wO w7, c_pass h6.1 hL (by omega) (fun z7 hw7 hf7 v9 e9 => ?_)⟩
        rw [nI_1] at e9
        subst e9
        exact ih z7 hk (h6.w hw7 hf7) (hf6.fr hf7 (fun _ _ q => wrCt_Y q))
      generalize yrPs S (yrS S s k) (sPE S) = s5 at h5 hyp hyw hJ
      unfold wX2_play_L29 wX2_play_B29
      refine ⟨tO ht, ?_⟩
      rw [h5.1.2.2.2.2.2.2.1.2.1, if_pos (nI_le (by omega) (by omega)), h5.1.2.2.2.2.2.2.1.1]
      unfold yrW at hJ
      by_cases e : sPA S = 0
      · rw [if_pos e] at hJ
        rw [e, if_pos (by decide)]
        exact hJ z5 h5 hf5
      · rw [if_neg e] at hJ
        rw [if_neg (show ¬ nI (sPA S) ≤ 0 from nI_ge (a := 0) (by omega) (by omega))]
        refine ⟨drO, c_draw (m := 9) h5 (by decide) (by decide) (fun z6 h6 hf6 => ?_)⟩
        have hd9 : drG s5.1 9 < 9 := drG_lt (by decide)
        by_cases e0 : drG s5.1 9 = 0
        · rw [if_pos e0] at hJ
          rw [e0, if_pos (by decide), h6.1.2.2.2.2.2.2.1.1]
          refine c_draw (m := sPA S) h6 (by omega) (by omega) (fun z7 h7 hf7 => ?_)
          have hf7' := (hf5.tr hf6).tr hf7
          refine ⟨wO w7, c_rinses h7.1 (drG_lt (by omega)) (fun q => ?_) (fun q z8 hw8 hf8 => ?_)⟩
          · rw [if_neg (show ¬ cRn s5.2.1 (drG (nxG s5.1) (sPA S)) = true from fun r => by rw [show cRn s5.2.1 (drG (nxG s5.1) (sPA S)) = false from q] at r; cases r)] at hJ
            exact hJ z7 h7 hf7'
          · rw [if_pos (show cRn s5.2.1 (drG (nxG s5.1) (sPA S)) = true from q)] at hJ
            have hf8' := hf8.mono (C := wrCt 7 t) (fun _ _ q => wrCt_of q)
            exact hJ z8 (h7.w hw8 hf8') (hf7'.fr hf8' (fun _ _ q => wrCt_Y q))
        · rw [if_neg e0] at hJ
          rw [if_neg (nI_ne0 (by omega) (by omega))]
          exact hJ z6 h6 (hf5.tr hf6)
    · unfold wX2_play_L29 wX2_play_B29
      refine ⟨tO ht, ?_⟩
      rw [h5.1.2.2.2.2.2.2.1.2.1, if_neg (nI_ge hj (by omega))]
      refine ⟨drO, c_person h5 hj (fun z6 h6 hf6 v23 e23 => ?_)⟩
      rw [nI_1] at e23
      subst e23
      exact ih2 z6 hj h6 (hf5.tr hf6)
variable {P : Int32 → gS → Prop}
theorem m_years (h : yrM z S s) (hL : lwOK S) (hy : yOK S T s) {hr a : Nat} (hh : T + hr < 2 ^ 19) (ha : a ≤ 2) (hP : ∀ z', Fg aYm (fun a => a = 129) z z' → P (aYe S (yrS S s hr) a) z') : ∃ N, wX12_years_L66 148 gSH P N 129 (nI hr) (nI a) (nI 0) z := by
  have hok := h.1.2.1
  have k6 := hok.1
  have k5 := hok.2.1
  refine (lp (fun m k => ∀ z4, k ≤ hr → yrM z4 S (yrS S s k) → Fg aYm (fun a => a = 129) z z4 → wX12_years_L66 148 gSH P m 129 (nI hr) (nI a) (nI k) z4) hr (fun m z4 _ h4 hf4 => ?_) (fun m k hk ih z4 _ h4 hf4 => ?_)).imp (fun N q => q z (Nat.zero_le _) h Fg.rf)
  · unfold wX12_years_L66 wX12_years_B66
    rw [if_pos (nI_le (by omega) (by omega))]
    have hPz := hP z4 hf4
    have : a = 0 ∨ a = 1 ∨ a = 2 := by omega
    rcases this with rfl | rfl | rfl
    · rw [if_pos (by decide), h4.2.2.2.1]
      exact ⟨mO, hPz⟩
    · rw [if_neg (by decide), if_pos (by decide), h4.2.2.2.2.1]
      exact ⟨mO, hPz⟩
    · rw [if_neg (by decide), if_neg (by decide)]
      exact ⟨mO, m_harmShown (b := 1452) (p := none) (n := 6) h4.1 trivial (by decide) hPz⟩
  · have hyk := yrS_ok hok hy k
    unfold wX12_years_L66 wX12_years_B66
    rw [if_neg (nI_ge hk (by omega))]
    refine (lp (fun m2 j => ∀ z5, j ≤ sPE S → yrM z5 S (yrPs S (yrS S s k) j) → Fg aYm (fun a => a = 129) z z5 → wX12_years_L75 148 gSH (wX12_years_L66 148 gSH P m) P m2 129 (nI hr) (nI a) (nI k) (nI j) z5) (sPE S) (fun m2 z5 _ h5 hf5 => ?_) (fun m2 j hj ih2 z5 _ h5 hf5 => ?_)).imp (fun N q => q z4 (Nat.zero_le _) h4 hf4)
    · have hyp := yrPs_ok hok hyk (sPE S) (Nat.le_refl _)
      have hyw := yrW_ok hyp
      have hJ : ∀ z6, yrM z6 S (yrW S (yrPs S (yrS S s k) (sPE S))) → Fg aYm (fun a => a = 129) z z6 → wX12_years_J153 148 gSH (wX12_years_L66 148 gSH P m) P 129 (nI hr) (nI a) (nI k) z6 := by
        intro z6 h6 hf6
        have hT6 : wT (yrW S (yrPs S (yrS S s k) (sPE S))).2.1 ≤ T + k := hyw.2.2
        refine ⟨mO, m_passes (b := 1452) h6.1 h6.2.2.2.2.2 hL (by omega) (fun z7 hw7 hf7 v9 e9 => ?_)⟩
        rw [nI_1] at e9
        subst e9
        exact ih z7 hk (h6.w hw7 hf7) (hf6.fr hf7 (fun _ _ q => wrMt_Y q))
      generalize yrPs S (yrS S s k) (sPE S) = s5 at h5 hyp hyw hJ
      unfold wX12_years_L75 wX12_years_B75
      refine ⟨mO, m_people h5.1.1 h5.1.2.2.2.2.1 ?_⟩
      rw [if_pos (nI_le (by omega) (by omega))]
      refine m_panes h5.1.1 h5.1.2.2.2.2.1 ?_
      unfold yrW at hJ
      by_cases e : sPA S = 0
      · rw [if_pos e] at hJ
        rw [e, if_pos (by decide)]
        exact hJ z5 h5 hf5
      · rw [if_neg e] at hJ
        rw [if_neg (show ¬ nI (sPA S) ≤ 0 from nI_ge (a := 0) (by omega) (by omega))]
        refine m_draw (m := 9) h5 (by decide) (by decide) (fun z6 h6 hf6 => ?_)
        have hd9 : drG s5.1 9 < 9 := drG_lt (by decide)
        by_cases e0 : drG s5.1 9 = 0
        · rw [if_pos e0] at hJ
          rw [e0, if_pos (by decide)]
          refine m_panes h6.1.1 h6.1.2.2.2.2.1 (m_draw (m := sPA S) h6 (by omega) (by omega) (fun z7 h7 hf7 => ?_))
          have hf7' := (hf5.tr hf6).tr hf7
          have hg : drG (nxG s5.1) (sPA S) < sPA S := drG_lt (by omega)
          have hw7 : MW z7 1452 S s5.2.1 := h7.1
          have hl6 := ln_le hok hyp.2.1 hg
          unfold ln at hl6
          have he := hw7.he hg
          unfold ln at he
          show ∃ t36 : Nat, _
          generalize drG (nxG s5.1) (sPA S) = g at hg hl6 he hJ
          refine ⟨_, mR24 hw7.1, mA145, ?_⟩
          rw [show (1470 : Int32) = nI 1470 by decide, nI_add, nI_clamp (by omega), mL145, show 1470 + g = 1452 + 18 + g by omega, he]
          refine ⟨vp_in_nI (by omega) (by decide), m_mayWash hw7 hg (ifb0 (fun q => ?_) (fun q => ?_))⟩
          · rw [if_neg (fun r => by rw [q] at r; cases r)] at hJ
            refine ⟨mA145, by rw [mL145]; exact vp_in_nI (by omega) (by decide), fun z8 e8 => ?_⟩
            rw [nI_clamp (by omega), j_0, pk_sub (by omega), Nat.sub_zero] at e8
            have hf8 : Fr (wrMt 1452) z7 z8 := by rw [e8]; exact Fr.rf.si (Or.inl ⟨rfl, by omega, by omega⟩)
            refine hJ z8 (h7.w (hw7.oth (hf8.sR hw7.1) (fun a k q => ?_)) hf8) (hf7'.fr hf8 (fun _ _ q => wrMt_Y q))
            rw [e8, gi_si]
            by_cases e1 : a = 145 ∧ k = 1452 + 18 + g
            · rw [if_pos e1, e1.1, e1.2, he]
            · rw [if_neg e1]
          · rw [if_pos q] at hJ
            have hpos : 0 < (wM s5.2.1 g).length := by
              have q2 := q
              unfold cRn at q2
              simp at q2
              exact q2.2
            refine ⟨mA145, by rw [mL145]; exact vp_in_nI (by omega) (by decide), fun z8 e8 => ?_⟩
            rw [nI_clamp (by omega), j_1, pk_sub (by omega)] at e8
            have hf8 : Fr (wrMt 1452) z7 z8 := by rw [e8]; exact Fr.rf.si (Or.inl ⟨rfl, by omega, by omega⟩)
            exact hJ z8 (h7.w (by rw [e8]; exact hw7.rinse hg) hf8) (hf7'.fr hf8 (fun _ _ q => wrMt_Y q))
        · rw [if_neg e0] at hJ
          rw [if_neg (nI_ne0 (by omega) (by omega))]
          exact hJ z6 h6 (hf5.tr hf6)
    · unfold wX12_years_L75 wX12_years_B75
      refine ⟨mO, m_people h5.1.1 h5.1.2.2.2.2.1 ?_⟩
      rw [if_neg (nI_ge hj (by omega))]
      refine m_person h5 hj (fun z6 h6 hf6 v23 e23 => ?_)
      rw [nI_1] at e23
      subst e23
      exact ih2 z6 hj h6 (hf5.tr hf6)
end RP
section RP
variable {z : gS} {n : Nat} {Q : Int32 → Int32 → gS → Prop}
theorem q_years (h : RLq z n) (hn : n < 999) (x y w : Int32) (hQ : ∀ r z', RLq z' (n + 1) → Q r r z') : wX11_years 148 gSH 0 x y w z (fun r1 z1 => wX12_years 148 gSH 129 x y w z1 (fun r2 z2 => Q r1 r2 z2)) := by
  have hth := h.th (v := 0)
  obtain ⟨t, yy, S, W, so, ss, H, N, D, nm, tp, hc, hm, hok⟩ := h
  have hcw := hc.cw hok (by omega)
  have hm0 := hm.th hok (v := 0)
  have hmw0 := hm0.mw hok (by omega)
  have ht := hc.2.1
  have hS := hcw.2.2.2.2.2.2.1
  have sok := hok.1
  have k6 := sok.1
  have k5 := sok.2.1
  have k3 := sok.2.2.1
  have hTn := hok.2.2.2.1
  have tl := ht.le
  have yl := hc.2.2.2.2.1.le
  unfold wX11_years
  rcases rg_of x (a := 0) (b := 9999) (by decide) (by decide) with hx | hx | ⟨sd, -, hsd, rfl⟩
  · rw [if_pos (show x < 0 from hx)]
    refine ⟨mO, fun z0 e0 => ?_⟩; subst e0
    exact m_within_lo (a := 0) (b := 9999) hx (if0 (hQ _ _ hth))
  · rw [if_neg (show ¬ x < 0 by rw [j_0, lt_nlt hx (by decide) (by decide) (by decide)]; exact id), if_pos (show (9999 : Int32) < x from hx)]
    refine ⟨mO, fun z0 e0 => ?_⟩; subst e0
    exact m_within_hi (a := 0) (b := 9999) hx (if0 (hQ _ _ hth))
  rw [if_neg (nI_pos (by omega)), if_neg (show ¬ (9999 : Int32) < nI sd from nI_nlt (a := 9999) hsd (by decide))]
  rcases rg_of y (a := 1) (b := 99) (by decide) (by decide) with hx | hx | ⟨hr, hr1, hr2, rfl⟩
  · rw [if_pos (show y < 1 from hx)]
    refine ⟨mO, fun z0 e0 => ?_⟩; subst e0
    exact m_within_in (a := 0) (b := 9999) (by omega) hsd (by decide) (if1 (m_within_lo (a := 1) (b := 99) hx (if0 (hQ _ _ hth))))
  · rw [if_neg (show ¬ y < 1 by rw [j_1, lt_nlt hx (by decide) (by decide) (by decide)]; exact id), if_pos (show (99 : Int32) < y from hx)]
    refine ⟨mO, fun z0 e0 => ?_⟩; subst e0
    exact m_within_in (a := 0) (b := 9999) (by omega) hsd (by decide) (if1 (m_within_hi (a := 1) (b := 99) hx (if0 (hQ _ _ hth))))
  rw [if_neg (show ¬ nI hr < 1 from nI_nlt (b := 1) hr1 (by omega)), if_neg (show ¬ (99 : Int32) < nI hr from nI_nlt (a := 99) hr2 (by decide))]
  rcases rg_of w (a := 0) (b := 2) (by decide) (by decide) with hx | hx | ⟨a, -, ha2, rfl⟩
  · rw [if_pos (show w < 0 from hx)]
    refine ⟨mO, fun z0 e0 => ?_⟩; subst e0
    exact m_within_in (a := 0) (b := 9999) (by omega) hsd (by decide) (if1 (m_within_in (a := 1) (b := 99) hr1 hr2 (by decide) (if1 (m_within_lo (a := 0) (b := 2) hx (if0 (hQ _ _ hth))))))
  · rw [if_neg (show ¬ w < 0 by rw [j_0, lt_nlt hx (by decide) (by decide) (by decide)]; exact id), if_neg (show ¬ w ≤ 2 by rw [j_2, lt_nle hx]; exact id)]
    refine ⟨mO, fun z0 e0 => ?_⟩; subst e0
    exact m_within_in (a := 0) (b := 9999) (by omega) hsd (by decide) (if1 (m_within_in (a := 1) (b := 99) hr1 hr2 (by decide) (if1 (m_within_hi (a := 0) (b := 2) hx (if0 (hQ _ _ hth))))))
  rw [if_neg (nI_pos (by omega)), if_pos (show nI a ≤ 2 from nI_le (b := 2) ha2 (by decide))]
  have hyk : yOK S n (sd, W, 0, 0) := ⟨show sd < 2 ^ 31 by omega, hok.2.2.1, hTn⟩
  refine ⟨gO, _, gR2 hc.1, _, gR1 hc.1, wO w7, c_copy hc.1 w7 w3 (by decide) (fun z1 hf1 hc1 => ?_)⟩
  have hz1 := hf1.sR hc.1
  refine ⟨_, gR5 hz1, _, (hf1.2.2 _ _).trans hc.2.2.1, _, gR2 hz1, drO, drO, fun z2 e2 z3 e3 z4 e4 => ?_⟩
  rw [nI_l (by omega)] at e2
  have hf4 : Fg (aYc t) (fun a => a = 78) z z4 := by
    rw [e4, e3, e2]
    exact ((((Fg.rf (A := aYc t) (B := fun a => a = 78)).fr hf1 (fun a k q => by unfold wrC at q; unfold aYc; omega)).sl rfl).si (Or.inr (Or.inr rfl))).si (Or.inr (Or.inr rfl))
  have hw4 : CW z4 t 7 S W := ⟨hf4.sR hc.1, ht, w7, sok, hok.2.2.1, by omega, hS.fr2 (fun a k q1 q2 q3 => hf4.1 a k (by unfold aYc; omega)), (hc1 S W sok hok.2.2.1 hcw.2.2.2.2.2.2.2).fr (fun a k q1 q2 => by rw [e4, gi_si, if_neg (by omega), e3, gi_si, if_neg (by omega), e2]; rfl)⟩
  have hy4 : yrC z4 t S (sd, W, 0, 0) := ⟨hw4, by rw [e4, e3, e2]; show gl (sl z1 78 0 (lN sd)) 78 0 = _; rw [gl_sl, if_pos ⟨rfl, rfl⟩], show sd < 2 ^ 31 by omega, by rw [e4, gi_si, if_neg (by omega), e3, gi_si, if_pos ⟨rfl, rfl⟩]; rfl, by rw [e4, gi_si, if_pos ⟨rfl, rfl⟩]; rfl⟩
  refine c_years hy4 hok.2.1 hyk (by omega) (fun z5 hy5 hf5 => ?_)
  have hf5' := hf4.tr hf5
  have hz5 := hf5'.sR hc.1
  have hc5 : Cl z5 t yy S W so ss H N D nm tp := hc.up hf5'.2.2 (fun a k q _ => hf5'.2.1 a k q) (fun a k q1 q2 q3 q4 q5 q6 q7 => hf5'.1 a k (by unfold aYc; omega)) (hc.2.2.2.2.2.2.2.2.1.fr (fun a k q1 q2 => hf5'.1 a k (by unfold aYc; omega))) (hc.2.2.2.2.2.2.2.2.2.2.1.fr (fun a k q1 q2 => hf5'.1 a k (by unfold aYc; omega)))
  have hm5 := (hm.fr hok hz5 ⟨fun a k q => hf5'.1 a k (by unfold aYc; omega), fun a k q => hf5'.2.1 a k (by omega)⟩).th hok (v := 0)
  have hmod : wX12_years 148 gSH 129 (nI sd) (nI hr) (nI a) z5 (fun r2 z2 => Q (aYe S (yrS S (sd, W, 0, 0) hr) a) r2 z2) := by
    refine ⟨mO, fun z0 e0 => ?_⟩; subst e0
    refine m_within_in (a := 0) (b := 9999) (by omega) hsd (by decide) (if1 (m_within_in (a := 1) (b := 99) hr1 hr2 (by decide) (if1 (m_within_in (a := 0) (b := 2) (by omega) ha2 (by decide) (if1 ?_)))))
    refine m_copies (f := 0) (d := 1452) (n := 60) hm5.1 (by decide) (by decide) (by decide) (fun z6 hf6 hc6 z7 e7 z8 e8 z9 e9 => ?_)
    rw [nI_l (by omega)] at e7
    have hf9 : Fg aYm (fun a => a = 129) (si z5 129 0 0) z9 := by
      rw [e9, e8, e7]
      exact ((((Fg.rf (A := aYm) (B := fun a => a = 129)).fr hf6 (fun a k q => Or.inl ⟨q.1, q.2.1⟩)).sl rfl).si (Or.inr (Or.inr (Or.inr ⟨rfl, by decide⟩)))).si (Or.inr (Or.inr (Or.inr ⟨rfl, by decide⟩)))
    have hw9 : MW z9 1452 S W := ⟨hf9.sR hm5.1, sok, hok.2.2.1, by omega, hm5.2.1.fr (fun k => hf9.1 _ _ (by unfold aYm; omega)), hm5.2.2.2.1.cp sok hok.2.2.1 (fun k hk => by rw [e9, gi_si, if_neg (by omega), e8, gi_si, if_neg (by omega), e7]; exact hc6 k hk), by decide⟩
    have hy9 : yrM z9 S (sd, W, 0, 0) := ⟨hw9, by rw [e9, e8, e7]; show gl (sl z6 129 28 (lN sd)) 129 28 = _; rw [gl_sl, if_pos ⟨rfl, rfl⟩], show sd < 2 ^ 31 by omega, by rw [e9, gi_si, if_neg (by omega), e8, gi_si, if_pos ⟨rfl, rfl⟩]; rfl, by rw [e9, gi_si, if_pos ⟨rfl, rfl⟩]; rfl, hm5.2.2.1.fr (fun a k q1 q2 => hf9.1 _ _ (by unfold aYm; omega))⟩
    refine m_years hy9 hok.2.1 hyk (by omega) ha2 (fun z10 hf10 => ?_)
    have hf10' := hf9.tr hf10
    refine hQ _ _ (RLq.mk (hc5.fr ((kpC.si (by decide)).tr ⟨fun a k q => hf10'.1 a k (by unfold aYm; omega), fun a k q => hf10'.2.1 a k (by omega), hf10'.2.2⟩)) (hm5.up hok (hf10'.sR hm5.1) (fun a k q => hf10'.2.1 a k (by omega)) (fun a k q1 q2 q3 q4 q5 => hf10'.1 a k (by unfold aYm; omega)) (hm5.2.2.2.1.cp sok hok.2.2.1 (fun k hk => hf10'.1 _ _ (by unfold aYm; omega))) (hm5.2.2.2.2.2.1.fr sok hok.2.2.2.2.2.1 (fun a k q => hf10'.1 _ _ (by unfold aYm; omega)))) (hok.mono (Nat.le_succ n)))
  have : a = 0 ∨ a = 1 ∨ a = 2 := by omega
  dsimp only
  rcases this with rfl | rfl | rfl
  · rw [if_pos (by decide)]
    refine ⟨_, gR5 hz5, drO, ?_⟩
    rw [hy5.2.2.2.1]
    exact hmod
  · rw [if_neg (by decide), if_pos (by decide)]
    refine ⟨_, gR5 hz5, drO, ?_⟩
    rw [hy5.2.2.2.2]
    exact hmod
  · rw [if_neg (by decide), if_neg (by decide)]
    refine ⟨_, hc5.2.2.1, _, gR2 hz5, c_harmShown (n := 6) hy5.1 (by decide) ?_⟩
    exact hmod
end RP
