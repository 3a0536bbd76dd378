/-! ===== the claim ===== -/
theorem start_rel {z z147 z149 : gS} (h : Iv 145 z) (hw : Wv 26 z) (g : ∀ k, k < 60 → gi z147 135 (0 + k) = if k = 3 ∨ k = 33 then 1 else if k = 4 then nN else 0) (f1 : Fr (fun a k => a = 135 ∧ 0 ≤ k ∧ k < 0 + 60) z z147) (w1 : mW z149 0 S00 (bgW S00)) (w2 : mSd z149 60 (fun _ => false) (fun _ => false)) (w3 : gi z149 142 0 = nI 0) (w4 : gi z149 129 25 = nI 0) (w5 : ∀ m, m < 4 → gi z149 146 m = nI 0) (f2 : Fr (fun a k => (a = 145 ∧ k < 66) ∨ (a = 142 ∧ k = 0) ∨ (a = 129 ∧ k = 25) ∨ a = 146) z147 z149) : RLq (z0 z149 147) 0 := by
  have eg : ∀ a k, a ≠ 147 → gi (z0 z149 147) a k = gi z149 a k := fun a k q => by rw [gi_z0, if_neg q]
  have e0 : ∀ a k, a ≠ 147 → ¬ exI a k → a ≠ 135 → a ≠ 145 → a ≠ 142 → a ≠ 146 → ¬ (a = 129 ∧ k = 25) → gi (z0 z149 147) a k = 0 := fun a k q1 q2 q3 q4 q5 q6 q7 => by
    rw [eg a k q1, f2.1 _ _ (by omega), f1.1 _ _ (by omega)]
    exact h.1 a k q2
  have e135 : ∀ k, k < 60 → gi (z0 z149 147) 135 k = if k = 3 ∨ k = 33 then 1 else if k = 4 then nN else 0 := fun k hk => by
    rw [eg _ _ (by decide), f2.1 _ _ (by omega)]
    have := g k hk
    rw [Nat.zero_add] at this
    exact this
  have er : ∀ a k, a ≠ 147 → gr (z0 z149 147) a k = gr z a k := fun a k q => by rw [gr_z0, if_neg q, f2.2.2, f1.2.2]
  have hzz := h.sR
  have hz : sR (z0 z149 147) := by
    intro a k ha hk
    by_cases q : a = 147
    · rw [q, gr_z0, if_pos rfl]
      have : gRRl.getD 147 [] = [] := by decide +kernel
      unfold gRR
      rw [this]
      rfl
    · rw [er a k q]; exact hzz a k ha hk
  have no : ∀ {q : Prop} (p : Nat), p < 0 → q := fun p hp => absurd hp (Nat.not_lt_zero _)
  refine RLq.mk (t := 79) (y := 105) (S := S00) (W := bgW S00) (so := fun _ => false) (ss := fun _ => false) (H := []) (N := fun _ => none) (D := []) (nm := nm0) (tp := []) ?_ ?_ ?_
  · refine ⟨hz, Or.inl rfl, ?_, ?_, Or.inl rfl, ?_, ?_, ⟨?_, ?_, ?_, ?_, fun p hp => no p hp, fun p hp => no p hp, fun p hp => no p hp, fun p hp => no p hp, fun p hp => no p hp, fun p hp => no p hp, ?_, fun p hp => no p hp⟩, ⟨?_, ?_, ?_, fun p hp => no p hp, fun p hp => no p hp, fun p hp => no p hp⟩, ⟨?_, ?_⟩, ⟨?_, 0, by decide, ?_, fun j hj => no j hj⟩, ⟨?_, fun m hm V a b e => by cases e⟩, ⟨?_, fun j hj => no j hj⟩, ⟨fun p hp => no p hp, fun p hp => no p hp, fun p hp => no p hp⟩, cT_nil ?_⟩
    · rw [er _ _ (by decide)]; exact h.rd (od_le _ _) (by decide +kernel)
    · rw [er _ _ (by decide)]; exact h.rd (od_le _ _) (by decide +kernel)
    · rw [er _ _ (by decide)]; exact h.rd (od_le _ _) (by decide +kernel)
    · rw [er _ _ (by decide)]; exact h.rd (od_le _ _) (by decide +kernel)
    all_goals first
      | exact e0 _ _ (by decide) (by unfold exI; omega) (by decide) (by decide) (by decide) (by decide) (by decide)
      | (rw [e0 _ _ (by decide) (by unfold exI; omega) (by decide) (by decide) (by decide) (by decide) (by decide)]; decide)
  · refine ⟨hz, ⟨e135 0 (by decide), e135 1 (by decide), e135 2 (by decide), e135 3 (by decide), fun p hp => no p hp, fun p hp => no p hp, fun p hp => no p hp, fun p hp => no p hp, fun p hp => no p hp, fun p hp => no p hp, fun _ => e135 33 (by decide)⟩, ⟨e135 4 (by decide), fun p hp => no p hp, fun q => absurd rfl q⟩, w1.fr (fun k => eg _ _ (by decide)), w2.fr (fun k q1 q2 => eg _ _ (by decide)), ⟨(eg _ _ (by decide)).trans w4, fun j hj => no j hj⟩, fun m hm => ⟨(eg _ _ (by decide)).trans (w5 m hm), fun V a b e => by cases e⟩, ⟨(eg _ _ (by decide)).trans w3, fun j hj => no j hj⟩, ⟨?_, fun j hj => no j hj⟩, mT_nil ?_, fun k hk => ?_⟩
    · exact e0 _ _ (by decide) (by unfold exI; omega) (by decide) (by decide) (by decide) (by decide) (by decide)
    · exact e0 _ _ (by decide) (by unfold exI; omega) (by decide) (by decide) (by decide) (by decide) (by decide)
    · rw [gl_z0, if_neg (by decide), f2.2.1, f1.2.1]; exact hw k hk
  · obtain ⟨p1, p2, p3, p4⟩ := pOK_0
    exact ⟨p1, p2, bgW_ok p1, Nat.zero_le _, fun _ _ => rfl, ⟨Nat.zero_le _, fun V hV => absurd hV List.not_mem_nil⟩, (fun m hm V a b e => by cases e), ⟨Nat.zero_le _, fun l hl => absurd hl List.not_mem_nil⟩, p3, tOK_nil⟩
theorem gMath_all : gMath := by
  intro Ls xs hL
  unfold wL_pre
  rw [shN_0, shN_up (by decide +kernel)]
  refine i_class (Iv_0.al (by decide +kernel)) (fun z1 h1 => ⟨rfl, ?_⟩)
  rw [shN_up (by decide +kernel)]
  refine i_model (h1.al (by decide +kernel)) (fun z146 h146 hw => ?_)
  have hz := h146.sR
  refine m_stands7 (o := 0) hz (Or.inl rfl) (fun z147 g f => ⟨nO7, ?_⟩)
  have no : ∀ {q : Prop} (p : Nat), p < 0 → q := fun p hp => absurd hp (Nat.not_lt_zero _)
  have g' : ∀ k, k < 60 → gi z147 135 k = if k = 3 ∨ k = 33 then 1 else if k = 4 then nN else 0 := fun k hk => by
    have := g k hk
    rw [Nat.zero_add] at this
    exact this
  have hS : mS z147 S00 := ⟨g' 0 (by decide), g' 1 (by decide), g' 2 (by decide), g' 3 (by decide), fun p hp => no p hp, fun p hp => no p hp, fun p hp => no p hp, fun p hp => no p hp, fun p hp => no p hp, fun p hp => no p hp, fun _ => g' 33 (by decide)⟩
  refine m_begins7 (f.sR hz) pOK_0.1 hS (fun z149 w1 w2 w3 w4 w5 f2 => ⟨rfl, ?_, 514, by decide, ?_⟩)
  · rw [shN_up (by decide +kernel), shN_148]
  · exact law_loop q_street q_day hL (P := fun r _ => r = 1) (fun _ => rfl) 513 0 _ rfl (by omega) (start_rel h146 hw g f w1 w2 w3 w4 w5 f2)
theorem i_vc : Claimed_1_1 ∧ Claimed_1_2 := i_vc_open gMath_all
