/-! ===== pairs: what is asked of marks ===== -/
theorem Rd.c {z : gS} {t : Nat} {S : sS} {W : sW} (h : Rd z t S W) : CW z t 3 S W := ⟨h.1, h.2.1, w3, h.2.2.2.1, h.2.2.2.2.1, h.2.2.2.2.2.1, h.2.2.2.2.2.2.1, h.2.2.2.2.2.2.2.1⟩
theorem Rd.m {z : gS} {t : Nat} {S : sS} {W : sW} (h : Rd z t S W) : MW z 0 S W := ⟨h.1, h.2.2.2.1, h.2.2.2.2.1, h.2.2.2.2.2.1, h.2.2.2.2.2.2.2.2.1, h.2.2.2.2.2.2.2.2.2, by decide⟩
section RP
variable {z : gS} {t : Nat} {S : sS} {W : sW} {so ss : Nat → Bool} {Q : Int32 → Int32 → gS → Prop}
theorem p_shame (h : Rd z t S W) (x : Int32) (hQ : ∀ r, Q r r (si z 129 0 0)) : wX11_shame 148 gSH 0 x z (fun r1 z1 => wX12_shame 148 gSH 129 x z1 (fun r2 z2 => Q r1 r2 z2)) := by
  have hb := h.th (v := 0)
  have hm := hb.m
  have hc := h.c
  obtain ⟨hz, ht, h7, hok, hwk, hT, hS, hW, hmS, hmW⟩ := h
  obtain ⟨gz, _, _, _, _, _, _, _, gmS, gmW⟩ := hb
  have hw := w3
  have k6 := hok.1
  have k5 := hok.2.1
  have k3 := hok.2.2.1
  refine ⟨gO, t, h7, tO ht, ?_⟩
  rcases ix_of x (n := sPE S) (by omega) with hx | ⟨j, hj, rfl⟩
  · refine c_hasPerson_no ht hS hx (if0 ?_)
    refine ⟨mO, fun z2 e2 => ?_⟩; subst e2
    exact m_isPerson_no gz gmS hx (if0 (hQ _))
  refine c_hasPerson_yes ht hS hok hj (if1 ?_)
  refine ⟨t, h7, 3, gR1 hz, c_shameOf hc (by omega) ?_⟩
  refine ⟨mO, fun z2 e2 => ?_⟩; subst e2
  exact m_isPerson_yes gz gmS hok hj (if1 (m_harmShown (b := 0) (p := some j) (n := 6) hm (show j < 5 by omega) (by decide) (hQ _)))
theorem p_harm (h : Rd z t S W) (hQ : ∀ r, Q r r (si z 129 0 0)) : wX11_harm 148 gSH 0 z (fun r1 z1 => wX12_harm 148 gSH 129 z1 (fun r2 z2 => Q r1 r2 z2)) := by
  have hb := h.th (v := 0)
  have hm := hb.m
  have hc := h.c
  obtain ⟨hz, ht, h7, hok, hwk, hT, hS, hW, hmS, hmW⟩ := h
  obtain ⟨gz, _, _, _, _, _, _, _, gmS, gmW⟩ := hb
  have hw := w3
  have k6 := hok.1
  have k5 := hok.2.1
  have k3 := hok.2.2.1
  refine ⟨gO, t, h7, 3, gR1 hz, c_harmShown (n := 6) hc (by decide) ?_⟩
  refine ⟨mO, fun z2 e2 => ?_⟩; subst e2
  exact m_harmShown (b := 0) (p := none) (n := 6) hm trivial (by decide) (hQ _)
theorem p_memory (h : Rd z t S W) (x : Int32) (hQ : ∀ r, Q r r (si z 129 0 0)) : wX11_memory 148 gSH 0 x z (fun r1 z1 => wX12_memory 148 gSH 129 x z1 (fun r2 z2 => Q r1 r2 z2)) := by
  have hb := h.th (v := 0)
  have hm := hb.m
  have hc := h.c
  obtain ⟨hz, ht, h7, hok, hwk, hT, hS, hW, hmS, hmW⟩ := h
  obtain ⟨gz, _, _, _, _, _, _, _, gmS, gmW⟩ := hb
  have hw := w3
  have k6 := hok.1
  have k5 := hok.2.1
  have k3 := hok.2.2.1
  unfold wX11_memory
  rcases rg_of x (a := 1) (b := 6) (by decide) (by decide) with hy | hy | ⟨k, hk0, hk1, rfl⟩
  · rw [if_pos (show x < 1 from hy)]
    refine ⟨mO, fun z2 e2 => ?_⟩; subst e2
    exact m_within_lo (a := 1) (b := 6) hy (if0 (hQ _))
  · rw [if_neg (show ¬ x < 1 by rw [j_1, lt_nlt hy (by decide) (by decide) (by decide)]; exact id), if_neg (show ¬ x ≤ 6 by rw [j_6, lt_nle hy]; exact id)]
    refine ⟨mO, fun z2 e2 => ?_⟩; subst e2
    exact m_within_hi (a := 1) (b := 6) hy (if0 (hQ _))
  · rw [if_neg (show ¬ nI k < 1 from nI_nlt (b := 1) hk0 (by omega)), if_pos (show nI k ≤ 6 from nI_le (b := 6) hk1 (by decide))]
    refine ⟨gO, t, h7, 3, gR1 hz, c_harmShown hc hk1 ?_⟩
    refine ⟨mO, fun z2 e2 => ?_⟩; subst e2
    exact m_within_in (a := 1) (b := 6) hk0 hk1 (by decide) (if1 (m_harmShown (b := 0) (p := none) hm trivial hk1 (hQ _)))
theorem p_worst (h : Rd z t S W) (hQ : ∀ r, Q r r (si z 129 0 0)) : wX11_worst 148 gSH 0 z (fun r1 z1 => wX12_worst 148 gSH 129 z1 (fun r2 z2 => Q r1 r2 z2)) := by
  have hb := h.th (v := 0)
  have hm := hb.m
  have hc := h.c
  obtain ⟨hz, ht, h7, hok, hwk, hT, hS, hW, hmS, hmW⟩ := h
  obtain ⟨gz, _, _, _, _, _, _, _, gmS, gmW⟩ := hb
  have hw := w3
  have k6 := hok.1
  have k5 := hok.2.1
  have k3 := hok.2.2.1
  refine ⟨gO, t, h7, 3, gR1 hz, c_mostShamed hc ?_⟩
  refine ⟨mO, fun z2 e2 => ?_⟩; subst e2
  exact m_worst hm (hQ _)
theorem p_oldest (h : Rd z t S W) (hQ : ∀ r, Q r r (si z 129 0 0)) : wX11_oldest 148 gSH 0 z (fun r1 z1 => wX12_oldest 148 gSH 129 z1 (fun r2 z2 => Q r1 r2 z2)) := by
  have hb := h.th (v := 0)
  have hm := hb.m
  have hc := h.c
  obtain ⟨hz, ht, h7, hok, hwk, hT, hS, hW, hmS, hmW⟩ := h
  obtain ⟨gz, _, _, _, _, _, _, _, gmS, gmW⟩ := hb
  have hw := w3
  have k6 := hok.1
  have k5 := hok.2.1
  have k3 := hok.2.2.1
  refine ⟨gO, t, h7, 3, gR1 hz, c_oldest hc ?_⟩
  refine ⟨mO, fun z2 e2 => ?_⟩; subst e2
  exact m_oldest hm (hQ _)
theorem p_young (h : Rd z t S W) (x : Int32) (hQ : ∀ r, Q r r (si z 129 0 0)) : wX11_young 148 gSH 0 x z (fun r1 z1 => wX12_young 148 gSH 129 x z1 (fun r2 z2 => Q r1 r2 z2)) := by
  have hb := h.th (v := 0)
  have hm := hb.m
  have hc := h.c
  obtain ⟨hz, ht, h7, hok, hwk, hT, hS, hW, hmS, hmW⟩ := h
  obtain ⟨gz, _, _, _, _, _, _, _, gmS, gmW⟩ := hb
  have hw := w3
  have k6 := hok.1
  have k5 := hok.2.1
  have k3 := hok.2.2.1
  refine ⟨gO, t, h7, 3, gR1 hz, c_marksUpTo hc x ?_⟩
  refine ⟨mO, fun z2 e2 => ?_⟩; subst e2
  exact m_young hm x (hQ _)
theorem p_trail (h : Rd z t S W) (x : Int32) (hQ : ∀ r, Q r r (si z 129 0 0)) : wX11_trail 148 gSH 0 x z (fun r1 z1 => wX12_trail 148 gSH 129 x z1 (fun r2 z2 => Q r1 r2 z2)) := by
  have hb := h.th (v := 0)
  have hm := hb.m
  have hc := h.c
  obtain ⟨hz, ht, h7, hok, hwk, hT, hS, hW, hmS, hmW⟩ := h
  obtain ⟨gz, _, _, _, _, _, _, _, gmS, gmW⟩ := hb
  have hw := w3
  have k6 := hok.1
  have k5 := hok.2.1
  have k3 := hok.2.2.1
  refine ⟨gO, t, h7, tO ht, ?_⟩
  rcases ix_of x (n := sPE S) (by omega) with hx | ⟨j, hj, rfl⟩
  · refine c_hasPerson_no ht hS hx (if0 ?_)
    refine ⟨mO, fun z2 e2 => ?_⟩; subst e2
    exact m_isPerson_no gz gmS hx (if0 (hQ _))
  refine c_hasPerson_yes ht hS hok hj (if1 ?_)
  refine ⟨t, h7, 3, gR1 hz, c_cellsShownOf hc (by omega) ?_⟩
  refine ⟨mO, fun z2 e2 => ?_⟩; subst e2
  exact m_isPerson_yes gz gmS hok hj (if1 (m_trail hm (by omega) (hQ _)))
theorem p_last (h : Rd z t S W) (x : Int32) (hQ : ∀ r, Q r r (si z 129 0 0)) : wX11_last 148 gSH 0 x z (fun r1 z1 => wX12_last 148 gSH 129 x z1 (fun r2 z2 => Q r1 r2 z2)) := by
  have hb := h.th (v := 0)
  have hm := hb.m
  have hc := h.c
  obtain ⟨hz, ht, h7, hok, hwk, hT, hS, hW, hmS, hmW⟩ := h
  obtain ⟨gz, _, _, _, _, _, _, _, gmS, gmW⟩ := hb
  have hw := w3
  have k6 := hok.1
  have k5 := hok.2.1
  have k3 := hok.2.2.1
  refine ⟨gO, t, h7, tO ht, ?_⟩
  rcases ix_of x (n := sPE S) (by omega) with hx | ⟨j, hj, rfl⟩
  · refine c_hasPerson_no ht hS hx (if0 ?_)
    refine ⟨mO, fun z2 e2 => ?_⟩; subst e2
    refine ⟨1, ?_⟩
    unfold wX12_last_L12 wX12_last_B12
    refine ⟨mO, m_panes gz gmS ?_⟩
    by_cases q : nI (sPA S) ≤ 0
    · rw [if_pos q]
      exact hQ _
    · rw [if_neg q]
      exact m_isPerson_no gz gmS hx (if0 (hQ _))
  refine c_hasPerson_yes ht hS hok hj (if1 ?_)
  refine ⟨t, h7, 3, gR1 hz, c_last hc (by omega) ?_⟩
  refine ⟨mO, fun z2 e2 => ?_⟩; subst e2
  exact m_last hm hj (hQ _)
theorem p_washes (h : Rd z t S W) (x y : Int32) (hQ : ∀ r, Q r r (si z 129 0 0)) : wX11_washes 148 gSH 0 x y z (fun r1 z1 => wX12_washes 148 gSH 129 x y z1 (fun r2 z2 => Q r1 r2 z2)) := by
  have hb := h.th (v := 0)
  have hm := hb.m
  have hc := h.c
  obtain ⟨hz, ht, h7, hok, hwk, hT, hS, hW, hmS, hmW⟩ := h
  obtain ⟨gz, _, _, _, _, _, _, _, gmS, gmW⟩ := hb
  have hw := w3
  have k6 := hok.1
  have k5 := hok.2.1
  have k3 := hok.2.2.1
  refine ⟨gO, t, h7, tO ht, ?_⟩
  rcases ix_of x (n := sPE S) (by omega) with hx | ⟨j, hj, rfl⟩
  · refine c_hasPerson_no ht hS hx (if0 ?_)
    refine ⟨mO, fun z2 e2 => ?_⟩; subst e2
    exact m_isPerson_no gz gmS hx (if0 (hQ _))
  refine c_hasPerson_yes ht hS hok hj (if1 ?_)
  refine ⟨t, h7, tO ht, ?_⟩
  rcases ix_of y (n := sDE S) (by omega) with hy | ⟨d, hd, rfl⟩
  · refine c_hasDeed_no ht hS hy (if0 ?_)
    refine ⟨mO, fun z2 e2 => ?_⟩; subst e2
    exact m_isPerson_yes gz gmS hok hj (if1 (m_isDeed_no gz gmS hy (if0 (hQ _))))
  refine c_hasDeed_yes ht hS hok hd (if1 ⟨t, h7, 3, gR1 hz, c_washes hc (by omega) (by omega) ?_⟩)
  refine ⟨mO, fun z2 e2 => ?_⟩; subst e2
  exact m_isPerson_yes gz gmS hok hj (if1 (m_isDeed_yes gz gmS hok hd (if1 (m_washes hm (by omega) (by omega) (hQ _)))))
theorem p_twin (h : Rd z t S W) (x y : Int32) (hQ : ∀ r, Q r r (si z 129 0 0)) : wX11_twin 148 gSH 0 x y z (fun r1 z1 => wX12_twin 148 gSH 129 x y z1 (fun r2 z2 => Q r1 r2 z2)) := by
  have hb := h.th (v := 0)
  have hm := hb.m
  have hc := h.c
  obtain ⟨hz, ht, h7, hok, hwk, hT, hS, hW, hmS, hmW⟩ := h
  obtain ⟨gz, _, _, _, _, _, _, _, gmS, gmW⟩ := hb
  have hw := w3
  have k6 := hok.1
  have k5 := hok.2.1
  have k3 := hok.2.2.1
  refine ⟨gO, t, h7, tO ht, ?_⟩
  rcases ix_of x (n := sPA S) (by omega) with hx | ⟨j, hj, rfl⟩
  · refine c_hasPane_no ht hS hx (if0 ?_)
    refine ⟨mO, fun z2 e2 => ?_⟩; subst e2
    exact m_isPane_no gz gmS hx (if0 (hQ _))
  refine c_hasPane_yes ht hS hok hj (if1 ?_)
  refine ⟨t, h7, tO ht, ?_⟩
  rcases ix_of y (n := sPA S) (by omega) with hy | ⟨d, hd, rfl⟩
  · refine c_hasPane_no ht hS hy (if0 ?_)
    refine ⟨mO, fun z2 e2 => ?_⟩; subst e2
    exact m_isPane_yes gz gmS hok hj (if1 (m_isPane_no gz gmS hy (if0 (hQ _))))
  refine c_hasPane_yes ht hS hok hd (if1 ?_)
  by_cases e : nI j = nI d
  · rw [if_pos e]
    refine ⟨mO, fun z2 e2 => ?_⟩; subst e2
    refine m_isPane_yes gz gmS hok hj (if1 (m_isPane_yes gz gmS hok hd (if1 ?_)))
    rw [if_pos e]
    exact hQ _
  · rw [if_neg e]
    refine ⟨3, gR1 hz, c_twin hc hj hd ?_⟩
    refine ⟨mO, fun z2 e2 => ?_⟩; subst e2
    refine m_isPane_yes gz gmS hok hj (if1 (m_isPane_yes gz gmS hok hd (if1 ?_)))
    rw [if_neg e]
    exact m_twin hm hj hd (hQ _)
theorem p_proof (h : Rd z t S W) (x y : Int32) (hQ : ∀ r, Q r r (si z 129 0 0)) : wX11_proof 148 gSH 0 x y z (fun r1 z1 => wX12_proof 148 gSH 129 x y z1 (fun r2 z2 => Q r1 r2 z2)) := by
  have hb := h.th (v := 0)
  have hm := hb.m
  have hc := h.c
  obtain ⟨hz, ht, h7, hok, hwk, hT, hS, hW, hmS, hmW⟩ := h
  obtain ⟨gz, _, _, _, _, _, _, _, gmS, gmW⟩ := hb
  have hw := w3
  have k6 := hok.1
  have k5 := hok.2.1
  have k3 := hok.2.2.1
  have e32 : 2 ^ sDE S ≤ 2 ^ 5 := Nat.pow_le_pow_right (by decide) k3
  have e1 : 0 < 2 ^ sDE S := Nat.two_pow_pos _
  have es : (1 : Int32) <<< (nI (sDE S) &&& 31) = nI (2 ^ sDE S) := by rw [j_1, nI_shl (by omega) (by omega), Nat.one_mul]
  have es1 : nI (2 ^ sDE S) - 1 = nI (2 ^ sDE S - 1) := by rw [j_1, pk_sub (by omega)]
  refine ⟨gO, t, h7, tO ht, ?_⟩
  rcases ix_of x (n := sPE S) (by omega) with hx | ⟨j, hj, rfl⟩
  · refine c_hasPerson_no ht hS hx (if0 ?_)
    refine ⟨mO, fun z2 e2 => ?_⟩; subst e2
    exact m_isPerson_no gz gmS hx (if0 (hQ _))
  refine c_hasPerson_yes ht hS hok hj (if1 ?_)
  rcases rg_of y (a := 0) (b := 2 ^ sDE S - 1) (by decide) (by omega) with hy | hy | ⟨k, hk0, hk1, rfl⟩
  · rw [if_pos (show y < 0 from hy)]
    refine ⟨mO, fun z2 e2 => ?_⟩; subst e2
    refine m_isPerson_yes gz gmS hok hj (if1 (m_deeds gz gmS ?_))
    rw [es, es1]
    exact m_within_lo (a := 0) hy (if0 (hQ _))
  · rw [if_neg (show ¬ y < 0 by rw [j_0, lt_nlt hy (by omega) (by omega) (by decide)]; exact id)]
    refine ⟨t, h7, tO ht, ?_⟩
    rw [hS.2.2.1, es, if_neg (show ¬ y < nI (2 ^ sDE S) by rw [lt_nlt hy (by omega) (by omega) (by omega)]; exact id)]
    refine ⟨mO, fun z2 e2 => ?_⟩; subst e2
    refine m_isPerson_yes gz gmS hok hj (if1 (m_deeds gz gmS ?_))
    rw [es, es1]
    exact m_within_hi (a := 0) hy (if0 (hQ _))
  · rw [if_neg (show ¬ nI k < 0 from nI_pos (by omega))]
    refine ⟨t, h7, tO ht, ?_⟩
    rw [hS.2.2.1, es, if_pos (nI_lt (by omega) (by omega))]
    refine ⟨t, h7, 3, gR1 hz, c_fewestProving hc (by omega) (by omega) ?_⟩
    refine ⟨mO, fun z2 e2 => ?_⟩; subst e2
    refine m_isPerson_yes gz gmS hok hj (if1 (m_deeds gz gmS ?_))
    rw [es, es1]
    exact m_within_in (a := 0) hk0 hk1 (by omega) (if1 (m_proof hm (by omega) (by omega) (hQ _)))
theorem p_cloak (h : Rd z t S W) (x y : Int32) (hQ : ∀ r, Q r r (si z 129 0 0)) : wX11_cloak 148 gSH 0 x y z (fun r1 z1 => wX12_cloak 148 gSH 129 x y z1 (fun r2 z2 => Q r1 r2 z2)) := by
  have hb := h.th (v := 0)
  have hm := hb.m
  have hc := h.c
  obtain ⟨hz, ht, h7, hok, hwk, hT, hS, hW, hmS, hmW⟩ := h
  obtain ⟨gz, _, _, _, _, _, _, _, gmS, gmW⟩ := hb
  have hw := w3
  have k6 := hok.1
  have k5 := hok.2.1
  have k3 := hok.2.2.1
  refine ⟨gO, t, h7, tO ht, ?_⟩
  rcases ix_of x (n := sPE S) (by omega) with hx | ⟨j, hj, rfl⟩
  · refine c_hasPerson_no ht hS hx (if0 ?_)
    refine ⟨mO, fun z2 e2 => ?_⟩; subst e2
    exact m_isPerson_no gz gmS hx (if0 (hQ _))
  refine c_hasPerson_yes ht hS hok hj (if1 ?_)
  rcases rg_of y (a := 0) (b := 495) (by decide) (by decide) with hy | hy | ⟨k, hk0, hk1, rfl⟩
  · rw [if_pos (show y < 0 from hy)]
    refine ⟨mO, fun z2 e2 => ?_⟩; subst e2
    exact m_isPerson_yes gz gmS hok hj (if1 (m_within_lo (a := 0) (b := 495) hy (if0 (hQ _))))
  · rw [if_neg (show ¬ y < 0 by rw [j_0, lt_nlt hy (by omega) (by omega) (by decide)]; exact id), if_neg (show ¬ y ≤ 495 by rw [j_495, lt_nle hy]; exact id)]
    refine ⟨mO, fun z2 e2 => ?_⟩; subst e2
    exact m_isPerson_yes gz gmS hok hj (if1 (m_within_hi (a := 0) (b := 495) hy (if0 (hQ _))))
  · rw [if_neg (show ¬ nI k < 0 from nI_pos (by omega)), if_pos (show nI k ≤ 495 from nI_le (b := 495) hk1 (by decide))]
    refine ⟨t, h7, 3, gR1 hz, c_fewestCloaking hc (by omega) hk1 ?_⟩
    refine ⟨mO, fun z2 e2 => ?_⟩; subst e2
    exact m_isPerson_yes gz gmS hok hj (if1 (m_within_in (a := 0) (b := 495) hk0 hk1 (by decide) (if1 (m_cloak hm (by omega) hk1 (hQ _)))))
theorem p_pane (h : Rd z t S W) (x y : Int32) (hQ : ∀ r, Q r r (si z 129 0 0)) : wX11_pane 148 gSH 0 x y z (fun r1 z1 => wX12_pane 148 gSH 129 x y z1 (fun r2 z2 => Q r1 r2 z2)) := by
  have hb := h.th (v := 0)
  have hm := hb.m
  have hc := h.c
  obtain ⟨hz, ht, h7, hok, hwk, hT, hS, hW, hmS, hmW⟩ := h
  obtain ⟨gz, _, _, _, _, _, _, _, gmS, gmW⟩ := hb
  have hw := w3
  have k6 := hok.1
  have k5 := hok.2.1
  have k3 := hok.2.2.1
  refine ⟨gO, t, h7, tO ht, ?_⟩
  rcases ix_of x (n := sPA S) (by omega) with hx | ⟨j, hj, rfl⟩
  · refine c_hasPane_no ht hS hx (if0 ?_)
    refine ⟨mO, fun z2 e2 => ?_⟩; subst e2
    exact m_isPane_no gz gmS hx (if0 (hQ _))
  refine c_hasPane_yes ht hS hok hj (if1 ?_)
  rcases rg_of y (a := 0) (b := 5) (by decide) (by decide) with hy | hy | ⟨k, hk0, hk1, rfl⟩
  · have n0 : ∀ n : Nat, n < 6 → ¬ y = nI n := fun n hn q => by
      rw [q, nI_ltI (by omega) (by decide)] at hy
      omega
    rw [if_neg (show ¬ y = 0 from n0 0 (by decide)), if_neg (show ¬ y = 1 from n0 1 (by decide)), if_neg (show ¬ y = 2 from n0 2 (by decide)), if_neg (show ¬ y = 3 from n0 3 (by decide)), if_neg (show ¬ y = 4 from n0 4 (by decide)), if_neg (show ¬ y = 5 from n0 5 (by decide))]
    refine ⟨mO, fun z2 e2 => ?_⟩; subst e2
    exact m_isPane_yes gz gmS hok hj (if1 (m_within_lo (a := 0) (b := 5) hy (if0 (hQ _))))
  · have n0 : ∀ n : Nat, n < 6 → ¬ y = nI n := fun n hn q => by
      rw [q, nI_ltI (by omega) (by omega)] at hy
      omega
    rw [if_neg (show ¬ y = 0 from n0 0 (by decide)), if_neg (show ¬ y = 1 from n0 1 (by decide)), if_neg (show ¬ y = 2 from n0 2 (by decide)), if_neg (show ¬ y = 3 from n0 3 (by decide)), if_neg (show ¬ y = 4 from n0 4 (by decide)), if_neg (show ¬ y = 5 from n0 5 (by decide))]
    refine ⟨mO, fun z2 e2 => ?_⟩; subst e2
    exact m_isPane_yes gz gmS hok hj (if1 (m_within_hi (a := 0) (b := 5) hy (if0 (hQ _))))
  · have hm0 : ∀ r, (wX12_within 148 gSH (nI k) (nI 0) (nI 5) (si z 129 0 0) (fun r5 z6 => if r5 = 0 then Q r (-2) z6 else (if nI k = 0 then wX12_paneOf 148 gSH 129 (nI j) (nI k) z6 (fun r8 z9 => Q r r8 z9) else (if nI k = 1 then wX12_paneOf 148 gSH 129 (nI j) (nI k) z6 (fun r11 z12 => Q r r11 z12) else (if nI k = 2 then (∃ t14 : Nat, gr z6 129 24 = some t14 ∧ ((oA 148 gSH t14 1) ∧ ((vp_in (18 + nI j) (gSH t14).2) ∧ Q r (gi z6 t14 (18 + nI j).toNatClampNeg) z6))) else (if nI k = 3 then (∃ t18 : Nat, gr z6 129 24 = some t18 ∧ ((oA 148 gSH t18 1) ∧ ((vp_in (6 + nI j) (gSH t18).2) ∧ Q r (gi z6 t18 (6 + nI j).toNatClampNeg) z6))) else (if nI k = 4 then (∃ t22 : Nat, gr z6 129 24 = some t22 ∧ ((oA 148 gSH t22 1) ∧ ((vp_in (12 + nI j) (gSH t22).2) ∧ Q r (gi z6 t22 (12 + nI j).toNatClampNeg) z6))) else (wX12_sightOf 148 gSH 129 0 (nI j) z6 (fun r25 z26 => Q r r25 z26)))))))) → wX12_pane 148 gSH 129 (nI j) (nI k) z (fun r2 z2 => Q r r2 z2)) := by
      intro r hr
      refine ⟨mO, fun z2 e2 => ?_⟩; subst e2
      exact m_isPane_yes gz gmS hok hj (if1 hr)
    have a1 := gmW.2.2.1 j hj
    have a2 := gmW.2.2.2.1 j hj
    have a3 := gmW.2.2.2.2.1 j hj
    rw [Nat.zero_add] at a1 a2 a3
    have hgz := gz
    have hcase : k = 0 ∨ k = 1 ∨ k = 2 ∨ k = 3 ∨ k = 4 ∨ k = 5 := by omega
    rcases hcase with rfl | rfl | rfl | rfl | rfl | rfl
    · rw [if_pos (by decide)]
      refine ⟨t, h7, tO ht, _, tR1 hz ht, tA4 ht, by rw [tL4 ht]; exact vp_in_nI (by omega) (by decide), ?_⟩
      rw [nI_clamp (by omega), hS.2.2.2.2.1 j hj]
      refine hm0 _ (m_within_in (a := 0) (b := 5) (by decide) (by decide) (by decide) (if1 ?_))
      rw [if_pos (by decide)]
      refine m_paneOf (k := 0) gz (by omega) (by decide) ?_
      rw [Nat.add_zero, gmS.2.2.2.2.1 j hj]
      exact hQ _
    · rw [if_neg (by decide), if_pos (by decide)]
      refine ⟨t, h7, tO ht, _, tR2 hz ht, tA5 ht, by rw [tL5 ht]; exact vp_in_nI (by omega) (by decide), ?_⟩
      rw [nI_clamp (by omega), hS.2.2.2.2.2.1 j hj]
      refine hm0 _ (m_within_in (a := 0) (b := 5) (by decide) (by decide) (by decide) (if1 ?_))
      rw [if_neg (by decide), if_pos (by decide)]
      refine m_paneOf (k := 1) gz (by omega) (by decide) ?_
      rw [show 5 + 3 * j + 1 = 6 + 3 * j by omega, gmS.2.2.2.2.2.1 j hj]
      exact hQ _
    · rw [if_neg (by decide), if_neg (by decide), if_pos (by decide)]
      refine ⟨3, gR1 hz, wO w3, _, wR6 hz w3, wA2 w3, by rw [wL2 w3]; exact vp_in_nI (by omega) (by decide), ?_⟩
      rw [nI_clamp (by omega), hW.2.2.2.2.1 j hj]
      refine hm0 _ (m_within_in (a := 0) (b := 5) (by decide) (by decide) (by decide) (if1 ?_))
      rw [if_neg (by decide), if_neg (by decide), if_pos (by decide)]
      refine ⟨_, mR24 gz, mA145, ?_⟩
      rw [j_18, nI_add, nI_clamp (by omega), mL145, a3]
      exact ⟨vp_in_nI (by omega) (by decide), hQ _⟩
    · rw [if_neg (by decide), if_neg (by decide), if_neg (by decide), if_pos (by decide)]
      refine ⟨3, gR1 hz, wO w3, c_isDrawn w3 hW (by omega) (if_b (A := fun v => wX12_pane 148 gSH 129 (nI j) (nI 3) z (fun r2 z2 => Q v r2 z2)) ?_)⟩
      refine hm0 _ (m_within_in (a := 0) (b := 5) (by decide) (by decide) (by decide) (if1 ?_))
      rw [if_neg (by decide), if_neg (by decide), if_neg (by decide), if_pos (by decide)]
      refine ⟨_, mR24 gz, mA145, ?_⟩
      rw [j_6, nI_add, nI_clamp (by omega), mL145, a1]
      exact ⟨vp_in_nI (by omega) (by decide), hQ _⟩
    · rw [if_neg (by decide), if_neg (by decide), if_neg (by decide), if_neg (by decide), if_pos (by decide)]
      refine ⟨3, gR1 hz, wO w3, c_isBroken w3 hW (by omega) (if_b (A := fun v => wX12_pane 148 gSH 129 (nI j) (nI 4) z (fun r2 z2 => Q v r2 z2)) ?_)⟩
      refine hm0 _ (m_within_in (a := 0) (b := 5) (by decide) (by decide) (by decide) (if1 ?_))
      rw [if_neg (by decide), if_neg (by decide), if_neg (by decide), if_neg (by decide), if_pos (by decide)]
      refine ⟨_, mR24 gz, mA145, ?_⟩
      rw [j_12, nI_add, nI_clamp (by omega), mL145, a2]
      exact ⟨vp_in_nI (by omega) (by decide), hQ _⟩
    · rw [if_neg (by decide), if_neg (by decide), if_neg (by decide), if_neg (by decide), if_neg (by decide), if_pos (by decide)]
      refine ⟨3, gR1 hz, t, h7, wO w3, c_sightOf hz w3 ht hS hW hok (by omega) hj ?_⟩
      refine hm0 _ (m_within_in (a := 0) (b := 5) (by decide) (by decide) (by decide) (if1 ?_))
      rw [if_neg (by decide), if_neg (by decide), if_neg (by decide), if_neg (by decide), if_neg (by decide)]
      exact m_sightOf (b := 0) gz gmS gmW hok (by omega) (by decide) hj (hQ _)
theorem p_shown (h : Rd z t S W) (x i y : Int32) (hQ : ∀ r, Q r r (si z 129 0 0)) : wX11_shown 148 gSH 0 x i y z (fun r1 z1 => wX12_shown 148 gSH 129 x i y z1 (fun r2 z2 => Q r1 r2 z2)) := by
  have hb := h.th (v := 0)
  have hm := hb.m
  have hc := h.c
  obtain ⟨hz, ht, h7, hok, hwk, hT, hS, hW, hmS, hmW⟩ := h
  obtain ⟨gz, _, _, _, _, _, _, _, gmS, gmW⟩ := hb
  have hw := w3
  have k6 := hok.1
  have k5 := hok.2.1
  have k3 := hok.2.2.1
  refine ⟨gO, t, h7, tO ht, ?_⟩
  rcases ix_of x (n := sPA S) (by omega) with hx | ⟨j, hj, rfl⟩
  · refine c_hasPane_no ht hS hx (if0 ?_)
    refine ⟨mO, fun z2 e2 => ?_⟩; subst e2
    exact m_isPane_no gz gmS hx (if0 (hQ _))
  refine c_hasPane_yes ht hS hok hj (if1 ?_)
  have hl := ln_le hok hwk hj
  have a3 := hm.he hj
  have b3 := hc.he hj
  rw [Nat.zero_add] at a3
  have hM : ∀ r, (opn W j = false → Q r (-2) (si z 129 0 0)) → (opn W j = true → wX12_within 148 gSH i (nI 0) (nI (ln W j) - 1) (si z 129 0 0) (fun r10 z11 => if r10 = 0 then Q r (-2) z11 else (wX12_within 148 gSH y (nI 0) (nI 3) z11 (fun r12 z13 => if r12 = 0 then Q r (-2) z13 else (wX12_markOf 148 gSH 129 0 (nI j) i z13 (fun r14 z15 => if y = 0 then (wX12_shownOf 148 gSH 129 0 (nI j) r14 z15 (fun r24 z25 => Q r r24 z25)) else (if y = 1 then (wX12_deedOf 148 gSH r14 z15 (fun r21 z22 => Q r r21 z22)) else (if y = 2 then (wX12_cellOf 148 gSH r14 z15 (fun r18 z19 => Q r r18 z19)) else (wX12_ageOf 148 gSH r14 z15 (fun r16 z17 => Q r r16 z17)))))))))) → wX12_shown 148 gSH 129 (nI j) i y z (fun r2 z2 => Q r r2 z2) := by
    intro r h0 h1
    refine ⟨mO, fun z2 e2 => ?_⟩; subst e2
    refine m_isPane_yes gz gmS hok hj (if1 (m_isShown (b := 0) hm hj (ifb0 (fun ho => h0 ho) (fun ho => ?_))))
    refine ⟨_, mR24 gz, mA145, ?_⟩
    rw [j_18, nI_add, nI_clamp (by omega), mL145, a3]
    exact ⟨vp_in_nI (by omega) (by decide), h1 ho⟩
  refine ⟨3, gR1 hz, wO w3, c_open hc hj (ifb0 (fun ho => ?_) (fun ho => ?_))⟩
  · exact hM _ (fun _ => hQ _) (fun q => by rw [ho] at q; cases q)
  rcases ix_of i (n := ln W j) (by omega) with hi | ⟨v, hv, rfl⟩
  · have hw0 : ∀ P2 : Int32 → gS → Prop, P2 (nI 0) (si z 129 0 0) → wX12_within 148 gSH i (nI 0) (nI (ln W j) - 1) (si z 129 0 0) P2 := by
      intro P2 h2
      rcases hi with hi | hi
      · unfold wX12_within
        rw [if_pos (show i < nI 0 from hi)]
        exact h2
      · unfold wX12_within
        by_cases q : i < nI 0
        · rw [if_pos q]
          exact h2
        · rw [if_neg q]
          have hlt : nI (ln W j) - 1 < i := by
            have e : (nI (ln W j) - 1).toInt = (ln W j : Int) - 1 := sub_toInt (b := 1) (by omega) (by decide)
            rw [Int32.le_iff_toInt_le, nI_toInt (by omega)] at hi
            rw [Int32.lt_iff_toInt_lt, e]
            omega
          rw [if_pos hlt]
          exact h2
    by_cases q : i < 0
    · rw [if_pos q]
      exact hM _ (fun _ => hQ _) (fun _ => hw0 _ (if0 (hQ _)))
    · rw [if_neg q]
      refine ⟨3, gR1 hz, wO w3, _, wR6 hz w3, wA2 w3, by rw [wL2 w3]; exact vp_in_nI (by omega) (by decide), ?_⟩
      rw [nI_clamp (by omega), b3, if_neg (show ¬ i < nI (ln W j) from fun r => by
        have := hi.resolve_left q
        rw [Int32.le_iff_toInt_le] at this
        rw [Int32.lt_iff_toInt_lt] at r
        omega)]
      exact hM _ (fun _ => hQ _) (fun _ => hw0 _ (if0 (hQ _)))
  · have hi0 : nI (ln W j) - 1 = nI (ln W j - 1) := by rw [j_1, pk_sub (by omega)]
    rw [if_neg (show ¬ nI v < 0 from nI_pos (by omega))]
    refine ⟨3, gR1 hz, wO w3, _, wR6 hz w3, wA2 w3, by rw [wL2 w3]; exact vp_in_nI (by omega) (by decide), ?_⟩
    rw [nI_clamp (by omega), b3, if_pos (nI_lt hv (by omega))]
    refine ⟨3, gR1 hz, wO w3, c_markAt hc hj hv ?_⟩
    obtain ⟨hk, _, _⟩ := mk_ok hok hwk hT hj hv
    have hM2 : ∀ r, wX12_within 148 gSH y (nI 0) (nI 3) (si z 129 0 0) (fun r12 z13 => if r12 = 0 then Q r (-2) z13 else (wX12_markOf 148 gSH 129 0 (nI j) (nI v) z13 (fun r14 z15 => if y = 0 then (wX12_shownOf 148 gSH 129 0 (nI j) r14 z15 (fun r24 z25 => Q r r24 z25)) else (if y = 1 then (wX12_deedOf 148 gSH r14 z15 (fun r21 z22 => Q r r21 z22)) else (if y = 2 then (wX12_cellOf 148 gSH r14 z15 (fun r18 z19 => Q r r18 z19)) else (wX12_ageOf 148 gSH r14 z15 (fun r16 z17 => Q r r16 z17))))))) → wX12_shown 148 gSH 129 (nI j) (nI v) y z (fun r2 z2 => Q r r2 z2) := by
      intro r hr
      refine hM r (fun q => by rw [ho] at q; cases q) (fun _ => ?_)
      rw [hi0]
      exact m_within_in (a := 0) (by omega) (by omega) (by omega) (if1 hr)
    rcases rg_of y (a := 0) (b := 3) (by decide) (by decide) with hy | hy | ⟨k, hk0, hk1, rfl⟩
    · have n0 : ∀ n : Nat, n < 4 → ¬ y = nI n := fun n hn q => by
        rw [q, nI_ltI (by omega) (by decide)] at hy
        omega
      rw [if_neg (show ¬ y = 0 from n0 0 (by decide)), if_neg (show ¬ y = 1 from n0 1 (by decide)), if_neg (show ¬ y = 2 from n0 2 (by decide)), if_neg (show ¬ y = 3 from n0 3 (by decide))]
      exact hM2 _ (m_within_lo (a := 0) (b := 3) hy (if0 (hQ _)))
    · have n0 : ∀ n : Nat, n < 4 → ¬ y = nI n := fun n hn q => by
        rw [q, nI_ltI (by omega) (by omega)] at hy
        omega
      rw [if_neg (show ¬ y = 0 from n0 0 (by decide)), if_neg (show ¬ y = 1 from n0 1 (by decide)), if_neg (show ¬ y = 2 from n0 2 (by decide)), if_neg (show ¬ y = 3 from n0 3 (by decide))]
      exact hM2 _ (m_within_hi (a := 0) (b := 3) hy (if0 (hQ _)))
    · have hcase : k = 0 ∨ k = 1 ∨ k = 2 ∨ k = 3 := by omega
      rcases hcase with rfl | rfl | rfl | rfl
      · rw [if_pos (by decide)]
        have hM3 : ∀ r, Q r (if tel S W j then nI (mk W j v).1 else nN) (si z 129 0 0) → wX12_shown 148 gSH 129 (nI j) (nI v) (nI 0) z (fun r2 z2 => Q r r2 z2) := by
          intro r hr
          refine hM2 _ (m_within_in (a := 0) (b := 3) (by decide) (by decide) (by decide) (if1 (m_markOf (b := 0) hm hj hv ?_)))
          rw [if_pos (by decide)]
          exact m_shownOf (b := 0) hm hj hk hr
        refine ⟨3, gR1 hz, t, h7, wO w3, c_tell hc hj (ifb0 (fun hl => ?_) (fun hl => c_whoOf hk ?_))⟩
        · refine hM3 _ ?_
          rw [hl]
          exact hQ _
        · refine hM3 _ ?_
          rw [hl]
          exact hQ _
      · rw [if_neg (by decide), if_pos (by decide)]
        refine c_deedOf hk (hM2 _ (m_within_in (a := 0) (b := 3) (by decide) (by decide) (by decide) (if1 (m_markOf (b := 0) hm hj hv ?_))))
        rw [if_neg (by decide), if_pos (by decide)]
        exact m_deedOf hk (hQ _)
      · rw [if_neg (by decide), if_neg (by decide), if_pos (by decide)]
        refine c_cellOf hk (hM2 _ (m_within_in (a := 0) (b := 3) (by decide) (by decide) (by decide) (if1 (m_markOf (b := 0) hm hj hv ?_))))
        rw [if_neg (by decide), if_neg (by decide), if_pos (by decide)]
        exact m_cellOf hk (hQ _)
      · rw [if_neg (by decide), if_neg (by decide), if_neg (by decide), if_pos (by decide)]
        refine c_ageOf hk (hM2 _ (m_within_in (a := 0) (b := 3) (by decide) (by decide) (by decide) (if1 (m_markOf (b := 0) hm hj hv ?_))))
        rw [if_neg (by decide), if_neg (by decide), if_neg (by decide)]
        exact m_ageOf hk (hQ _)
end RP
