/-! ===== pairs: what is done ===== -/
theorem bo_1 : bo (nI 1) := rfl
theorem bo_0 : bo (nI 0) := rfl
section RP
variable {z : gS} {n : Nat} {Q : Int32 → Int32 → gS → Prop}
theorem q_walk (h : RLq z n) (hn : n < 999) (x y : Int32) (hQ : ∀ r z', RLq z' (n + 1) → Q r r z') : wX11_walk 148 gSH 0 x y z (fun r1 z1 => wX12_walk 148 gSH 129 x y z1 (fun r2 z2 => Q r1 r2 z2)) := by
  have hth := h.th (v := 0)
  obtain ⟨t, yy, S, W, so, ss, H, N, D, nm, tp, hc, hm, hok⟩ := h
  have hcw := hc.cw hok (by omega)
  have hm0 := hm.th hok (v := 0)
  have hmw0 := hm0.mw hok (by omega)
  have ht := hc.2.1
  have hS := hcw.2.2.2.2.2.2.1
  have sok := hok.1
  have k6 := sok.1
  have k5 := sok.2.1
  have k3 := sok.2.2.1
  have hTn := hok.2.2.2.1
  refine ⟨gO, t, hc.2.2.1, tO ht, ?_⟩
  rcases ix_of x (n := sPE S) (by omega) with hx | ⟨p, hp, rfl⟩
  · refine c_hasPerson_no ht hS hx (if0 ?_)
    refine ⟨mO, fun z0 e0 => ?_⟩; subst e0
    exact m_isPerson_no hm0.1 hm0.2.1 hx (if0 (hQ _ _ hth))
  refine c_hasPerson_yes ht hS sok hp (if1 ?_)
  refine ⟨_, gR1 hc.1, wO w3, ?_⟩
  rcases ix_of y (n := 10) (by decide) with hy | ⟨c, hcc, rfl⟩
  · refine c_canStep_no hy (if0 ?_)
    refine ⟨mO, fun z0 e0 => ?_⟩; subst e0
    exact m_isPerson_yes hm0.1 hm0.2.1 sok hp (if1 (m_mayWalk_no (b := 0) hm0.1 (by decide) (by omega) hy (if0 (hQ _ _ hth))))
  refine c_canStep hcw hp hcc (ifb0 (fun q => ?_) (fun q => ?_))
  · refine ⟨mO, fun z0 e0 => ?_⟩; subst e0
    exact m_isPerson_yes hm0.1 hm0.2.1 sok hp (if1 (m_mayWalk (b := 0) hmw0 hp hcc (by rw [q]; exact if0 (hQ _ _ hth))))
  · refine ⟨_, gR3 hc.1, _, gR1 hc.1, hO, C_keep hc hok (by omega) (fun z1 hcw1 g7 g1 hup => ⟨_, g1, wO w3, c_steps hcw1 hp hcc (fun q2 => absurd (of_decide_eq_true q) q2) (fun _ z2 hcw2 hf2 => ⟨bo_1, ?_⟩)⟩)⟩
    obtain ⟨hc2, hk2, hz2⟩ := hup z2 _ hcw2 (hf2.mono (fun _ _ q => Or.inl q))
    have hm2 := (hm.fr hok hz2 hk2).th hok (v := 0)
    refine ⟨mO, fun z0 e0 => ?_⟩; subst e0
    refine m_isPerson_yes hm2.1 hm2.2.1 sok hp (if1 (m_mayWalk (b := 0) (hm2.mw hok (by omega)) hp hcc ?_))
    rw [q]
    refine if1 (M_keep hm2 hok (by omega) (fun z4 hmw4 _ hup4 => ?_))
    refine ⟨_, mR24 hmw4.1, mA145, ?_⟩
    rw [j_1, nI_add, nI_clamp (by omega), mL145]
    refine ⟨vp_in_nI (by omega) (by decide), fun z5 e5 => ?_⟩
    subst e5
    obtain ⟨hm5, hk5⟩ := hup4 _ _ (hmw4.step hp hcc) (Fr.rf.si (Or.inl ⟨rfl, by omega, by omega⟩))
    exact hQ _ _ (RLq.mk (hc2.fr ((kpC.si (by decide)).tr hk5)) hm5 (hok.keep (stW_ok hok.2.2.1 hcc) (Nat.le_succ_of_le hTn)))
theorem q_does (h : RLq z n) (hn : n < 999) (x y : Int32) (hQ : ∀ r z', RLq z' (n + 1) → Q r r z') : wX11_does 148 gSH 0 x y z (fun r1 z1 => wX12_does_ 148 gSH 129 x y z1 (fun r2 z2 => Q r1 r2 z2)) := by
  have hth := h.th (v := 0)
  obtain ⟨t, yy, S, W, so, ss, H, N, D, nm, tp, hc, hm, hok⟩ := h
  have hcw := hc.cw hok (by omega)
  have hm0 := hm.th hok (v := 0)
  have hmw0 := hm0.mw hok (by omega)
  have ht := hc.2.1
  have hS := hcw.2.2.2.2.2.2.1
  have sok := hok.1
  have k6 := sok.1
  have k5 := sok.2.1
  have k3 := sok.2.2.1
  have hTn := hok.2.2.2.1
  refine ⟨gO, t, hc.2.2.1, tO ht, ?_⟩
  rcases ix_of x (n := sPE S) (by omega) with hx | ⟨p, hp, rfl⟩
  · refine c_hasPerson_no ht hS hx (if0 ?_)
    refine ⟨mO, fun z0 e0 => ?_⟩; subst e0
    exact m_isPerson_no hm0.1 hm0.2.1 hx (if0 (hQ _ _ hth))
  refine c_hasPerson_yes ht hS sok hp (if1 ?_)
  refine ⟨t, hc.2.2.1, tO ht, ?_⟩
  rcases ix_of y (n := sDE S) (by omega) with hy | ⟨d, hd, rfl⟩
  · refine c_hasDeed_no ht hS hy (if0 ?_)
    refine ⟨mO, fun z0 e0 => ?_⟩; subst e0
    exact m_isPerson_yes hm0.1 hm0.2.1 sok hp (if1 (m_isDeed_no hm0.1 hm0.2.1 hy (if0 (hQ _ _ hth))))
  refine c_hasDeed_yes ht hS sok hd (if1 ?_)
  refine ⟨_, gR3 hc.1, _, gR1 hc.1, hO, C_keep hc hok (by omega) (fun z1 hcw1 g7 g1 hup => ⟨_, g1, _, g7, wO w3, c_act hcw1 hp hd (fun z2 hcw2 hf2 => ?_)⟩)⟩
  obtain ⟨hc2, hk2, hz2⟩ := hup z2 _ hcw2 (hf2.mono (fun _ _ q => Or.inl q))
  have hm2 := (hm.fr hok hz2 hk2).th hok (v := 0)
  refine ⟨mO, fun z0 e0 => ?_⟩; subst e0
  refine m_isPerson_yes hm2.1 hm2.2.1 sok hp (if1 (m_isDeed_yes hm2.1 hm2.2.1 sok hd (if1 (M_keep hm2 hok (by omega) (fun z4 hmw4 _ hup4 => ?_)))))
  refine ⟨_, mR24 hmw4.1, mA145, ?_⟩
  have e := hmw4.2.2.2.2.2.1.2.1 p hp
  rw [show 0 + 1 + p = 1 + p by omega] at e
  rw [j_1, nI_add, nI_clamp (by omega), mL145, e]
  refine ⟨vp_in_nI (by omega) (by decide), m_does (b := 0) hmw4 hp hd (fun z5 hmw5 hf5 => ?_)⟩
  obtain ⟨hm5, hk5⟩ := hup4 _ _ hmw5 (hf5.mono (fun _ _ q => Or.inl q))
  exact hQ _ _ (RLq.mk (hc2.fr ((kpC.si (by decide)).tr hk5)) hm5 (hok.keep (acW_ok sok hok.2.2.1 hp hd) (Nat.le_succ_of_le hTn)))
theorem q_wash (h : RLq z n) (hn : n < 999) (x : Int32) (hQ : ∀ r z', RLq z' (n + 1) → Q r r z') : wX11_wash 148 gSH 0 x z (fun r1 z1 => wX12_wash 148 gSH 129 x z1 (fun r2 z2 => Q r1 r2 z2)) := by
  have hth := h.th (v := 0)
  obtain ⟨t, yy, S, W, so, ss, H, N, D, nm, tp, hc, hm, hok⟩ := h
  have hcw := hc.cw hok (by omega)
  have hm0 := hm.th hok (v := 0)
  have hmw0 := hm0.mw hok (by omega)
  have ht := hc.2.1
  have hS := hcw.2.2.2.2.2.2.1
  have sok := hok.1
  have k6 := sok.1
  have k5 := sok.2.1
  have k3 := sok.2.2.1
  have hTn := hok.2.2.2.1
  refine ⟨gO, t, hc.2.2.1, tO ht, ?_⟩
  rcases ix_of x (n := sPA S) (by omega) with hx | ⟨g, hg, rfl⟩
  · refine c_hasPane_no ht hS hx (if0 ?_)
    refine ⟨mO, fun z0 e0 => ?_⟩; subst e0
    exact m_isPane_no hm0.1 hm0.2.1 hx (if0 (hQ _ _ hth))
  refine c_hasPane_yes ht hS sok hg (if1 ?_)
  have hl := ln_le sok hok.2.2.1 hg
  unfold ln at hl
  refine ⟨_, gR1 hc.1, wO w3, c_canRinse hcw hg (ifb0 (fun q => ?_) (fun q => ?_))⟩
  · refine ⟨mO, fun z0 e0 => ?_⟩; subst e0
    exact m_isPane_yes hm0.1 hm0.2.1 sok hg (if1 (m_mayWash (b := 0) hmw0 hg (by rw [q]; exact if0 (hQ _ _ hth))))
  · have hpos : 0 < (wM W g).length := by
      unfold cRn at q
      simp at q
      exact q.2
    refine ⟨_, gR3 hc.1, _, gR1 hc.1, hO, C_keep hc hok (by omega) (fun z1 hcw1 g7 g1 hup => ⟨_, g1, wO w3, c_rinses hcw1 hg (fun q2 => absurd (q2.symm.trans q) (by decide)) (fun _ z2 hcw2 hf2 => ?_)⟩)⟩
    obtain ⟨hc2, hk2, hz2⟩ := hup z2 _ hcw2 (hf2.mono (fun _ _ q => Or.inl q))
    have hm2 := (hm.fr hok hz2 hk2).th hok (v := 0)
    have e2 := hcw2.he hg
    have er : ln (rnW W g) g = (wM W g).length - 1 := by
      unfold ln
      show (if g = g then (wM W g).dropLast else wM W g).length = _
      rw [if_pos rfl, List.length_dropLast]
    rw [er] at e2
    refine ⟨_, gR1 hz2, wO w3, _, wR6 hz2 w3, wA2 w3, by rw [wL2 w3]; exact vp_in_nI (by omega) (by decide), ?_⟩
    rw [nI_clamp (by omega), e2]
    refine ⟨mO, fun z0 e0 => ?_⟩; subst e0
    refine m_isPane_yes hm2.1 hm2.2.1 sok hg (if1 (m_mayWash (b := 0) (hm2.mw hok (by omega)) hg ?_))
    rw [q]
    refine if1 (M_keep hm2 hok (by omega) (fun z4 hmw4 _ hup4 => ?_))
    refine ⟨_, mR24 hmw4.1, mA145, ?_⟩
    have e := hmw4.he hg
    unfold ln at e
    rw [show 0 + 18 + g = 18 + g by omega] at e
    rw [j_18, nI_add, nI_clamp (by omega), mL145, e, j_1, pk_sub (by omega)]
    refine ⟨vp_in_nI (by omega) (by decide), vp_in_nI (by omega) (by decide), fun z5 e5 => ?_⟩
    have hz5 : sR z5 := by rw [e5]; exact hmw4.1.to (fun _ _ => rfl)
    refine ⟨_, mR24 hz5, mA145, by rw [mL145]; exact vp_in_nI (by omega) (by decide), ?_⟩
    subst e5
    rw [gi_si, if_pos ⟨rfl, rfl⟩]
    have hst := hmw4.rinse hg
    rw [show 0 + 18 + g = 18 + g by omega] at hst
    obtain ⟨hm5, hk5⟩ := hup4 _ _ hst (Fr.rf.si (Or.inl ⟨rfl, by omega, by omega⟩))
    exact hQ _ _ (RLq.mk (hc2.fr ((kpC.si (by decide)).tr hk5)) hm5 (hok.keep (rnW_ok hok.2.2.1) (Nat.le_succ_of_le hTn)))
theorem q_curtain (h : RLq z n) (hn : n < 999) (x : Int32) (hQ : ∀ r z', RLq z' (n + 1) → Q r r z') : wX11_curtain 148 gSH 0 x z (fun r1 z1 => wX12_curtain 148 gSH 129 x z1 (fun r2 z2 => Q r1 r2 z2)) := by
  have hth := h.th (v := 0)
  obtain ⟨t, yy, S, W, so, ss, H, N, D, nm, tp, hc, hm, hok⟩ := h
  have hcw := hc.cw hok (by omega)
  have hm0 := hm.th hok (v := 0)
  have hmw0 := hm0.mw hok (by omega)
  have ht := hc.2.1
  have hS := hcw.2.2.2.2.2.2.1
  have sok := hok.1
  have k6 := sok.1
  have k5 := sok.2.1
  have k3 := sok.2.2.1
  have hTn := hok.2.2.2.1
  refine ⟨gO, t, hc.2.2.1, tO ht, ?_⟩
  rcases ix_of x (n := sPA S) (by omega) with hx | ⟨g, hg, rfl⟩
  · refine c_hasPane_no ht hS hx (if0 ?_)
    refine ⟨mO, fun z0 e0 => ?_⟩; subst e0
    exact m_isPane_no hm0.1 hm0.2.1 hx (if0 (hQ _ _ hth))
  refine c_hasPane_yes ht hS sok hg (if1 ?_)
  refine ⟨_, gR1 hc.1, wO w3, c_isBroken w3 hcw.2.2.2.2.2.2.2 (by omega) (ifb0 (fun q => ?_) (fun q => ?_))⟩
  · refine ⟨_, gR3 hc.1, _, gR1 hc.1, hO, C_keep hc hok (by omega) (fun z1 hcw1 g7 g1 hup => ⟨_, g1, wO w3, c_pulls hcw1 hg (fun q2 => absurd (q2.symm.trans q) (by decide)) (fun _ z2 hcw2 hf2 => ⟨bo_1, ?_⟩)⟩)⟩
    obtain ⟨hc2, hk2, hz2⟩ := hup z2 _ hcw2 (hf2.mono (fun _ _ q => Or.inl q))
    have hm2 := (hm.fr hok hz2 hk2).th hok (v := 0)
    refine ⟨mO, fun z0 e0 => ?_⟩; subst e0
    refine m_isPane_yes hm2.1 hm2.2.1 sok hg (if1 (m_isWhole (b := 0) hm2.1 hm2.2.2.2.1 sok (by decide) hg ?_))
    rw [q]
    refine if1 (M_keep hm2 hok (by omega) (fun z4 hmw4 _ hup4 => ?_))
    refine ⟨_, mR24 hmw4.1, _, mR24 hmw4.1, mA145, ?_⟩
    have e := hmw4.2.2.2.2.2.1.2.2.1 g hg
    rw [show 0 + 6 + g = 6 + g by omega] at e
    rw [j_6, nI_add, nI_clamp (by omega), mL145, e]
    refine ⟨vp_in_nI (by omega) (by decide), mA145, vp_in_nI (by omega) (by decide), fun z5 e5 => ?_⟩
    rw [show (1 : Int32) - nI (wD W g).toNat = nI (!wD W g).toNat by cases wD W g <;> decide] at e5
    subst e5
    have hst := hmw4.pull hg
    rw [show 0 + 6 + g = 6 + g by omega] at hst
    obtain ⟨hm5, hk5⟩ := hup4 _ _ hst (Fr.rf.si (Or.inl ⟨rfl, by omega, by omega⟩))
    exact hQ _ _ (RLq.mk (hc2.fr ((kpC.si (by decide)).tr hk5)) hm5 (hok.keep (plW_ok hok.2.2.1 hg) (Nat.le_succ_of_le hTn)))
  · refine ⟨mO, fun z0 e0 => ?_⟩; subst e0
    exact m_isPane_yes hm0.1 hm0.2.1 sok hg (if1 (m_isWhole (b := 0) hm0.1 hm0.2.2.2.1 sok (by decide) hg (by rw [q]; exact if0 (hQ _ _ hth))))
theorem q_stone (h : RLq z n) (hn : n < 999) (x : Int32) (hQ : ∀ r z', RLq z' (n + 1) → Q r r z') : wX11_stone 148 gSH 0 x z (fun r1 z1 => wX12_stone 148 gSH 129 x z1 (fun r2 z2 => Q r1 r2 z2)) := by
  have hth := h.th (v := 0)
  obtain ⟨t, yy, S, W, so, ss, H, N, D, nm, tp, hc, hm, hok⟩ := h
  have hcw := hc.cw hok (by omega)
  have hm0 := hm.th hok (v := 0)
  have hmw0 := hm0.mw hok (by omega)
  have ht := hc.2.1
  have hS := hcw.2.2.2.2.2.2.1
  have sok := hok.1
  have k6 := sok.1
  have k5 := sok.2.1
  have k3 := sok.2.2.1
  have hTn := hok.2.2.2.1
  refine ⟨gO, t, hc.2.2.1, tO ht, ?_⟩
  rcases ix_of x (n := sPA S) (by omega) with hx | ⟨g, hg, rfl⟩
  · refine c_hasPane_no ht hS hx (if0 ?_)
    refine ⟨mO, fun z0 e0 => ?_⟩; subst e0
    exact m_isPane_no hm0.1 hm0.2.1 hx (if0 (hQ _ _ hth))
  refine c_hasPane_yes ht hS sok hg (if1 ?_)
  refine ⟨_, gR1 hc.1, wO w3, c_isBroken w3 hcw.2.2.2.2.2.2.2 (by omega) (ifb0 (fun q => ?_) (fun q => ?_))⟩
  · refine ⟨_, gR3 hc.1, _, gR1 hc.1, hO, C_keep hc hok (by omega) (fun z1 hcw1 g7 g1 hup => ⟨_, g1, wO w3, c_smashes hcw1 hg (fun q2 => absurd (q2.symm.trans q) (by decide)) (fun _ z2 hcw2 hf2 => ⟨bo_1, ?_⟩)⟩)⟩
    obtain ⟨hc2, hk2, hz2⟩ := hup z2 _ hcw2 (hf2.mono (fun _ _ q => Or.inl q))
    have hm2 := (hm.fr hok hz2 hk2).th hok (v := 0)
    refine ⟨mO, fun z0 e0 => ?_⟩; subst e0
    refine m_isPane_yes hm2.1 hm2.2.1 sok hg (if1 (m_isWhole (b := 0) hm2.1 hm2.2.2.2.1 sok (by decide) hg ?_))
    rw [q]
    refine if1 (M_keep hm2 hok (by omega) (fun z4 hmw4 _ hup4 => ?_))
    refine ⟨_, mR24 hmw4.1, mA145, ?_⟩
    rw [j_12, nI_add, nI_clamp (by omega), mL145]
    refine ⟨vp_in_nI (by omega) (by decide), fun z5 e5 => ?_⟩
    subst e5
    have hst := hmw4.smash hg
    rw [show 0 + 12 + g = 12 + g by omega] at hst
    obtain ⟨hm5, hk5⟩ := hup4 _ _ hst (Fr.rf.si (Or.inl ⟨rfl, by omega, by omega⟩))
    exact hQ _ _ (RLq.mk (hc2.fr ((kpC.si (by decide)).tr hk5)) hm5 (hok.keep (smW_ok hok.2.2.1 hg) (Nat.le_succ_of_le hTn)))
  · refine ⟨mO, fun z0 e0 => ?_⟩; subst e0
    exact m_isPane_yes hm0.1 hm0.2.1 sok hg (if1 (m_isWhole (b := 0) hm0.1 hm0.2.2.2.1 sok (by decide) hg (by rw [q]; exact if0 (hQ _ _ hth))))
theorem q_hour (h : RLq z n) (hn : n < 999) (hQ : ∀ r z', RLq z' (n + 1) → Q r r z') : wX11_hour 148 gSH 0 z (fun r1 z1 => wX12_hour 148 gSH 129 z1 (fun r2 z2 => Q r1 r2 z2)) := by
  have hth := h.th (v := 0)
  obtain ⟨t, yy, S, W, so, ss, H, N, D, nm, tp, hc, hm, hok⟩ := h
  have hcw := hc.cw hok (by omega)
  have hm0 := hm.th hok (v := 0)
  have hmw0 := hm0.mw hok (by omega)
  have ht := hc.2.1
  have hS := hcw.2.2.2.2.2.2.1
  have sok := hok.1
  have k6 := sok.1
  have k5 := sok.2.1
  have k3 := sok.2.2.1
  have hTn := hok.2.2.2.1
  refine ⟨gO, _, gR3 hc.1, _, gR1 hc.1, hO, C_keep hc hok (by omega) (fun z1 hcw1 g7 g1 hup => ⟨_, g1, _, g7, wO w3, c_pass hcw1 hok.2.1 (by omega) (fun z2 hcw2 hf2 => ?_)⟩)⟩
  obtain ⟨hc2, hk2, hz2⟩ := hup z2 _ hcw2 hf2
  have hm2 := (hm.fr hok hz2 hk2).th hok (v := 0)
  refine ⟨mO, fun z0 e0 => ?_⟩; subst e0
  refine M_keep hm2 hok (by omega) (fun z4 hmw4 hmL4 hup4 => m_passes (b := 0) hmw4 hmL4 hok.2.1 (by omega) (fun z5 hmw5 hf5 => ?_))
  obtain ⟨hm5, hk5⟩ := hup4 _ _ hmw5 hf5
  exact hQ _ _ (RLq.mk (hc2.fr ((kpC.si (by decide)).tr hk5)) hm5 (hok.keep (psW_ok hok.2.2.1) (Nat.succ_le_succ hTn)))
theorem Ok.back {S : sS} {W V : sW} {so : Nat → Bool} {H r : List sW} {N : sNo} {D : List sL} {nm : sNm} {tp : List Nat} (h : Ok n S W so H N D nm tp) (e : H = V :: r) : Ok n S V so r N D nm tp := by
  obtain ⟨h1, h2, h3, h4, h5, h6, h7, h8⟩ := h
  have hV := h6.2 V (by rw [e]; exact List.mem_cons_self)
  refine ⟨h1, h2, hV.1, hV.2, h5, ⟨?_, fun U hU => h6.2 U (by rw [e]; exact List.mem_cons_of_mem _ hU)⟩, h7, h8⟩
  have := h6.1
  rw [e, List.length_cons] at this
  omega
theorem q_undo (h : RLq z n) (hn : n < 999) (hQ : ∀ r z', RLq z' (n + 1) → Q r r z') : wX11_undo 148 gSH 0 z (fun r1 z1 => wX12_undo 148 gSH 129 z1 (fun r2 z2 => Q r1 r2 z2)) := by
  have hth := h.th (v := 0)
  obtain ⟨t, yy, S, W, so, ss, H, N, D, nm, tp, hc, hm, hok⟩ := h
  have hcw := hc.cw hok (by omega)
  have hm0 := hm.th hok (v := 0)
  have hmw0 := hm0.mw hok (by omega)
  have ht := hc.2.1
  have hS := hcw.2.2.2.2.2.2.1
  have sok := hok.1
  have k6 := sok.1
  have k5 := sok.2.1
  have k3 := sok.2.2.1
  have hTn := hok.2.2.2.1
  have hch := hc.2.2.2.2.2.2.2.2.2.2.1
  have hmh := hm0.2.2.2.2.2.1
  have hhk := hok.2.2.2.2.2.1
  refine ⟨gO, _, gR3 hc.1, _, gR1 hc.1, hO, c_takeBack hc.1 hch hhk sok (fun e => ⟨bo_0, ?_⟩) (fun V r z2 e hV hr hf => ⟨bo_1, ?_⟩)⟩
  · refine ⟨mO, fun z0 e0 => ?_⟩; subst e0
    rw [hmh.1, e, if_pos (by decide)]
    exact hQ _ _ hth
  · have hl := hhk.1
    have hz2 := hf.sR hc.1
    have tl := ht.le
    have hc2 : Cl z2 t yy S V so ss r N D nm tp := hc.up hf.2.2 (fun a k _ _ => hf.2.1 a k) (fun a k q1 q2 q3 q4 q5 q6 q7 => hf.1 a k (fun r => r.elim (fun r => q2 (by omega)) q3)) hV hr
    have hm2 := (hm.fr hok hz2 (hf.kpM (fun a k q => by unfold wrC at q; omega))).th hok (v := 0)
    have hmh2 := hm2.2.2.2.2.2.1
    refine ⟨mO, fun z0 e0 => ?_⟩; subst e0
    rw [hmh2.1, e, List.length_cons, if_neg (nI_ne0 (by omega) (by rw [e, List.length_cons] at hl; omega))]
    rw [e, List.length_cons] at hl
    intro z3 e3
    rw [j_1, pk_sub (by omega), show r.length + 1 - 1 = r.length by omega] at e3
    have e325 : gi z3 129 25 = nI r.length := by rw [e3, gi_si, if_pos ⟨rfl, rfl⟩]
    have hz3 : sR z3 := by rw [e3]; exact hm2.1.to (fun _ _ => rfl)
    have hf3 : Fr (fun a k => a = 129 ∧ k = 25) (si z2 129 0 0) z3 := by rw [e3]; exact Fr.rf.si ⟨rfl, rfl⟩
    rw [e325, j_66, j_5, nI_add, pk_mul]
    refine m_copies (d := 0) (n := 60) hz3 (by omega) (by omega) (by decide) (fun z5 hf5 hc5 => ?_)
    have hff := hf3.tr (C := fun a k => (a = 129 ∧ k = 25) ∨ (a = 145 ∧ k < 60)) hf5 (fun _ _ q => Or.inl q) (fun a k q => Or.inr ⟨q.1, by omega⟩)
    have hok2 := hok.back e
    have hm5 : Md z5 S V so ss r N D nm tp := by
      refine hm2.up hok (hff.sR hm2.1) (fun a k _ => hff.2.1 a k) (fun a k q1 q2 q3 q4 q5 => hff.1 a k (by omega)) ?_ ⟨(hf5.1 _ _ (by omega)).trans e325, fun j hj => ?_⟩
      · have h0 := hmh2.2 0 (by rw [e, List.length_cons]; omega)
        rw [e] at h0
        have h1 : mW (si z2 129 0 0) (66 * (5 + r.length)) S V := by
          have : 66 * (5 + ((V :: r).length - 1 - 0)) = 66 * (5 + r.length) := by rw [List.length_cons]; omega
          rw [← this]
          exact h0
        refine h1.cp sok hok2.2.2.1 (fun k hk => ?_)
        rw [hc5 k hk]
        exact hf3.1 _ _ (by omega)
      · have h0 := hmh2.2 (j + 1) (by rw [e, List.length_cons]; omega)
        rw [e] at h0
        have h1 : mW (si z2 129 0 0) (66 * (5 + (r.length - 1 - j))) S (r.getD j w0) := by
          have : 66 * (5 + ((V :: r).length - 1 - (j + 1))) = 66 * (5 + (r.length - 1 - j)) := by rw [List.length_cons]; omega
          rw [← this]
          exact h0
        exact h1.cp sok (hok2.2.2.2.2.2.1.2 _ (hgt_mem hj)).1 (fun k hk => hff.1 _ _ (by omega))
    exact hQ _ _ (RLq.mk (hc2.fr ((kpC.si (by decide)).tr (hff.kpC (fun a k q => by omega)))) hm5 (hok2.mono (Nat.le_succ n)))
end RP
