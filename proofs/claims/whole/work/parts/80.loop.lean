/-! ===== the loop of the law ===== -/
theorem ite_i {c : Prop} [Decidable c] {A B : Prop} (h1 : c → A) (h2 : ¬ c → B) : if c then A else B := by
  by_cases h : c
  · rw [if_pos h]; exact h1 h
  · rw [if_neg h]; exact h2 h
theorem cmp_rf (x : Int64) : lg_cmp x x = 0 := by
  unfold lg_cmp
  rw [if_neg (show ¬ x > x from fun q => by rw [gt_iff_lt, Int64.lt_iff_toInt_lt] at q; omega), if_pos rfl]
/-- what the two readers owe -/
def oStreet : Prop := ∀ (z : gS) (n : Nat) (Q : Int32 → Int32 → gS → Prop), RLq z n → n < 999 → (∀ r z', RLq z' (n + 1) → Q r r z') → wX11_street 148 gSH 0 z (fun r1 z1 => wX12_street 148 gSH 129 z1 (fun r2 z2 => Q r1 r2 z2))
def oDay : Prop := ∀ (z : gS) (n : Nat) (Q : Int32 → Int32 → gS → Prop), RLq z n → n < 999 → (∀ r z', RLq z' (n + 1) → Q r r z') → wX11_day 148 gSH 0 z (fun r1 z1 => wX12_day 148 gSH 129 z1 (fun r2 z2 => Q r1 r2 z2))
set_option maxHeartbeats 4000000 in
theorem law_loop (hSt : oStreet) (hDy : oDay) {Ls : Nat} {xs : Nat → Int32} (hL : Ls ≤ 3584) {P : Int32 → gS → Prop} (hP : ∀ z, P 1 z) : ∀ (m i : Nat) (z : gS), i + m = 513 → 7 * i ≤ Ls + 6 → RLq z i → wL_law_L23 148 gSH Ls xs P (m + 1) 0 129 147 (nI (7 * i)) z := by
  intro m
  induction m with
  | zero => intro i z h1 h2 _; omega
  | succ m ih =>
    intro i z him hi h
    have hn : i < 999 := by omega
    unfold wL_law_L23 wL_law_B23
    refine ite_i (fun _ => hP z) (fun hlt => ?_)
    have hlen : 7 * i + 7 ≤ Ls := by
      rw [show Int32.ofNat Ls = nI Ls from rfl, Int32.lt_iff_toInt_lt, show (7 : Int32) = nI 7 by decide, sub_toInt (by omega) (by decide), nI_toInt (by omega)] at hlt
      omega
    have hJ : ∀ z', RLq z' (i + 1) → wL_law_J1473 148 gSH Ls xs (wL_law_L23 148 gSH Ls xs P (m + 1)) P 0 129 147 (nI (7 * i)) z' := by
      intro z' h' v22 e22
      rw [show (7 : Int32) = nI 7 by decide, nI_add, show 7 * i + 7 = 7 * (i + 1) by omega] at e22
      subst e22
      exact ih (i + 1) z' (by omega) (by omega) h'
    have hQ : ∀ (r : Int32) (z' : gS), RLq z' (i + 1) → (if r = r then wL_law_J1473 148 gSH Ls xs (wL_law_L23 148 gSH Ls xs P (m + 1)) P 0 129 147 (nI (7 * i)) z' else P 0 z') := fun r z' h' => by
      rw [if_pos rfl]
      exact hJ z' h'
    have hth := h.th (v := 0)
    have hR := h
    obtain ⟨t, yy, S, W, so, ss, H, N, D, nm, tp, hc, hm, hok⟩ := h
    have hRd := hc.rd hm hok (by omega)
    have hSd := hc.sd hm
    have hQp : ∀ r : Int32, (if r = r then wL_law_J1473 148 gSH Ls xs (wL_law_L23 148 gSH Ls xs P (m + 1)) P 0 129 147 (nI (7 * i)) (si z 129 0 0) else P 0 (si z 129 0 0)) := fun r => hQ r _ hth
    have v0 : vp_in (nI (7 * i)) Ls := vp_in_nI (by omega) (by omega)
    have v1 : vp_in (nI (7 * i) + (1 : Int32)) Ls := by rw [show (1 : Int32) = nI 1 by decide, nI_add]; exact vp_in_nI (by omega) (by omega)
    have v2 : vp_in (nI (7 * i) + (2 : Int32)) Ls := by rw [show (2 : Int32) = nI 2 by decide, nI_add]; exact vp_in_nI (by omega) (by omega)
    have v3 : vp_in (nI (7 * i) + (3 : Int32)) Ls := by rw [show (3 : Int32) = nI 3 by decide, nI_add]; exact vp_in_nI (by omega) (by omega)
    have v4 : vp_in (nI (7 * i) + (4 : Int32)) Ls := by rw [show (4 : Int32) = nI 4 by decide, nI_add]; exact vp_in_nI (by omega) (by omega)
    have v5 : vp_in (nI (7 * i) + (5 : Int32)) Ls := by rw [show (5 : Int32) = nI 5 by decide, nI_add]; exact vp_in_nI (by omega) (by omega)
    have v6 : vp_in (nI (7 * i) + (6 : Int32)) Ls := by rw [show (6 : Int32) = nI 6 by decide, nI_add]; exact vp_in_nI (by omega) (by omega)
    refine ⟨v0, fun v _ => ?_⟩
    refine ite_i (fun _ => ?_) (fun _ => ?_)
    · simp only [v1, v2, v3, v4, v5, v6, gO, mO, true_and]
      exact q_feed hR hn _ _ _ hQ
    refine ite_i (fun _ => ?_) (fun _ => ?_)
    · simp only [v1, v2, v3, v4, v5, v6, gO, mO, true_and]
      exact hSt z i _ hR hn hQ
    refine ite_i (fun _ => ?_) (fun _ => ?_)
    · simp only [v1, v2, v3, v4, v5, v6, gO, mO, true_and]
      exact hDy z i _ hR hn hQ
    refine ite_i (fun _ => ?_) (fun _ => ?_)
    · simp only [v1, v2, v3, v4, v5, v6, gO, mO, true_and]
      exact p_pane hRd _ _ hQp
    refine ite_i (fun _ => ?_) (fun _ => ?_)
    · simp only [v1, v2, v3, v4, v5, v6, gO, mO, true_and]
      exact p_shown hRd _ _ _ hQp
    refine ite_i (fun _ => ?_) (fun _ => ?_)
    · simp only [v1, v2, v3, v4, v5, v6, gO, mO, true_and]
      exact p_person hRd _ hQp
    refine ite_i (fun _ => ?_) (fun _ => ?_)
    · simp only [v1, v2, v3, v4, v5, v6, gO, mO, true_and]
      exact q_walk hR hn _ _ hQ
    refine ite_i (fun _ => ?_) (fun _ => ?_)
    · simp only [v1, v2, v3, v4, v5, v6, gO, mO, true_and]
      exact q_does hR hn _ _ hQ
    refine ite_i (fun _ => ?_) (fun _ => ?_)
    · simp only [v1, v2, v3, v4, v5, v6, gO, mO, true_and]
      exact q_wash hR hn _ hQ
    refine ite_i (fun _ => ?_) (fun _ => ?_)
    · simp only [v1, v2, v3, v4, v5, v6, gO, mO, true_and]
      exact q_curtain hR hn _ hQ
    refine ite_i (fun _ => ?_) (fun _ => ?_)
    · simp only [v1, v2, v3, v4, v5, v6, gO, mO, true_and]
      exact q_stone hR hn _ hQ
    refine ite_i (fun _ => ?_) (fun _ => ?_)
    · simp only [v1, v2, v3, v4, v5, v6, gO, mO, true_and]
      exact q_hour hR hn  hQ
    refine ite_i (fun _ => ?_) (fun _ => ?_)
    · simp only [v1, v2, v3, v4, v5, v6, gO, mO, true_and]
      exact q_undo hR hn  hQ
    refine ite_i (fun _ => ?_) (fun _ => ?_)
    · simp only [v1, v2, v3, v4, v5, v6, gO, mO, true_and]
      exact q_judged hR hn _ hQ
    refine ite_i (fun _ => ?_) (fun _ => ?_)
    · simp only [v1, v2, v3, v4, v5, v6, gO, mO, true_and]
      exact p_shame hRd _ hQp
    refine ite_i (fun _ => ?_) (fun _ => ?_)
    · simp only [v1, v2, v3, v4, v5, v6, gO, mO, true_and]
      exact p_harm hRd  hQp
    refine ite_i (fun _ => ?_) (fun _ => ?_)
    · simp only [v1, v2, v3, v4, v5, v6, gO, mO, true_and]
      exact p_hide hRd _ _ hQp
    refine ite_i (fun _ => ?_) (fun _ => ?_)
    · simp only [v1, v2, v3, v4, v5, v6, gO, mO, true_and]
      exact p_proof hRd _ _ hQp
    refine ite_i (fun _ => ?_) (fun _ => ?_)
    · simp only [v1, v2, v3, v4, v5, v6, gO, mO, true_and]
      exact p_washes hRd _ _ hQp
    refine ite_i (fun _ => ?_) (fun _ => ?_)
    · simp only [v1, v2, v3, v4, v5, v6, gO, mO, true_and]
      exact p_dark hRd _ hQp
    refine ite_i (fun _ => ?_) (fun _ => ?_)
    · refine ⟨v1, v2, ite_i (fun e => ?_) (fun e => ?_)⟩
      · unfold wL_law_J895 wL_law_J919
        simp only [v1, v2, gO, mO, true_and, if_pos e]
        exact q_say hR hn _ _ hQ
      · unfold wL_law_J895 wL_law_J919
        simp only [v1, v2, gO, mO, true_and, if_neg e]
        exact q_say hR hn _ _ hQ
    refine ite_i (fun _ => ?_) (fun _ => ?_)
    · simp only [v1, v2, v3, v4, v5, v6, gO, mO, true_and]
      exact p_where hRd hSd hQp
    refine ite_i (fun _ => ?_) (fun _ => ?_)
    · simp only [v1, v2, v3, v4, v5, v6, gO, mO, true_and]
      exact p_ask hRd hSd hQp
    refine ite_i (fun _ => ?_) (fun _ => ?_)
    · simp only [v1, v2, v3, v4, v5, v6, gO, mO, true_and]
      exact p_memory hRd _ hQp
    refine ite_i (fun _ => ?_) (fun _ => ?_)
    · simp only [v1, v2, v3, v4, v5, v6, gO, mO, true_and]
      exact p_glass hRd _ hQp
    refine ite_i (fun _ => ?_) (fun _ => ?_)
    · simp only [v1, v2, v3, v4, v5, v6, gO, mO, true_and]
      exact p_seen hRd _ hQp
    refine ite_i (fun _ => ?_) (fun _ => ?_)
    · simp only [v1, v2, v3, v4, v5, v6, gO, mO, true_and]
      exact p_eyes hRd  hQp
    refine ite_i (fun _ => ?_) (fun _ => ?_)
    · simp only [v1, v2, v3, v4, v5, v6, gO, mO, true_and]
      exact p_blind hRd  hQp
    refine ite_i (fun _ => ?_) (fun _ => ?_)
    · simp only [v1, v2, v3, v4, v5, v6, gO, mO, true_and]
      exact p_young hRd _ hQp
    refine ite_i (fun _ => ?_) (fun _ => ?_)
    · simp only [v1, v2, v3, v4, v5, v6, gO, mO, true_and]
      exact p_trail hRd _ hQp
    refine ite_i (fun _ => ?_) (fun _ => ?_)
    · simp only [v1, v2, v3, v4, v5, v6, gO, mO, true_and]
      exact p_last hRd _ hQp
    refine ite_i (fun _ => ?_) (fun _ => ?_)
    · simp only [v1, v2, v3, v4, v5, v6, gO, mO, true_and]
      exact p_worst hRd  hQp
    refine ite_i (fun _ => ?_) (fun _ => ?_)
    · simp only [v1, v2, v3, v4, v5, v6, gO, mO, true_and]
      exact p_oldest hRd  hQp
    refine ite_i (fun _ => ?_) (fun _ => ?_)
    · simp only [v1, v2, v3, v4, v5, v6, gO, mO, true_and]
      exact p_cloak hRd _ _ hQp
    refine ite_i (fun _ => ?_) (fun _ => ?_)
    · simp only [v1, v2, v3, v4, v5, v6, gO, mO, true_and]
      exact p_twin hRd _ _ hQp
    refine ite_i (fun _ => ?_) (fun _ => ?_)
    · simp only [v1, v2, v3, v4, v5, v6, gO, mO, true_and]
      exact q_run hR hn _ hQ
    refine ite_i (fun _ => ?_) (fun _ => ?_)
    · simp only [v1, v2, v3, v4, mO, true_and]
      refine q_rests hR _ _ _ _ (fun k r z' h' hk hg => ⟨mO, ?_⟩)
      dsimp only
      rw [hk, if_pos rfl]
      refine ite_i (fun e => ⟨outA, by rw [outL]; exact vp_in_nI (n := 0) (by decide) (by decide), ?_⟩) (fun e => hJ z' h')
      rw [show (0 : Int32).toNatClampNeg = 0 from rfl, hg e, cmp_rf, if_pos rfl]
      exact hJ z' h'
    refine ite_i (fun _ => ?_) (fun _ => ?_)
    · simp only [v1, v2, v3, v4, v5, v6, gO, mO, true_and]
      exact q_years hR hn _ _ _ hQ
    refine ite_i (fun _ => ?_) (fun _ => ?_)
    · refine ⟨v1, v2, ite_i (fun e => ?_) (fun e => ?_)⟩
      · unfold wL_law_J1416 wL_law_J1440
        simp only [v1, v2, gO, mO, true_and, if_pos e]
        exact q_notch hR hn _ _ hQ
      · unfold wL_law_J1416 wL_law_J1440
        simp only [v1, v2, gO, mO, true_and, if_neg e]
        exact q_notch hR hn _ _ hQ
    refine ite_i (fun _ => ?_) (fun _ => ?_)
    · simp only [v1, v2, v3, v4, v5, v6, gO, mO, true_and]
      exact q_count hR hn _ hQ
    exact (fun z' (h' : RLq z' (i + 1)) => hJ z' h') z (by exact RLq.mk hc hm (hok.mono (Nat.le_succ i)))
