/-! ===== an hour passes, the model ===== -/
def agL (W : sW) (g : Nat) : List sM := if wG W g = false then (wM W g).map ag else wM W g
theorem agL_len {W : sW} {g : Nat} : (agL W g).length = (wM W g).length := by
  unfold agL
  split
  · rw [List.length_map]
  · rfl
theorem mL.fr {z z' : gS} {S : sS} (h : mL z S) (hs : ∀ a k, 135 ≤ a → a ≤ 137 → gi z' a k = gi z a k) : mL z' S :=
  ⟨(hs _ _ (by decide) (by decide)).trans h.1, fun j hj => ⟨(hs _ _ (by decide) (by decide)).trans (h.2.1 j hj).1, (hs _ _ (by decide) (by decide)).trans (h.2.1 j hj).2⟩, fun q => (hs _ _ (by decide) (by decide)).trans (h.2.2 q)⟩
theorem rows_step {b k : Nat} {z1 z2 : gS} {f1 f2 : Nat → List sM} {n : Nat} (hn : n ≤ 6) (hk : k < n) (hl1 : ∀ g, g < n → (f1 g).length ≤ 6) (hl2 : ∀ g, g < n → (f2 g).length ≤ 6) (hr : ∀ g, g < n → rowM z1 b g (if g < k then f1 g else f2 g)) (hf : Fr (fun a j => aM b k a j ∨ a = 143 ∨ a = 144) z1 z2) (h2 : rowM z2 b k (f1 k)) : ∀ g, g < n → rowM z2 b g (if g < k + 1 then f1 g else f2 g) := by
  intro g hg
  by_cases e : g = k
  · subst e
    rw [if_pos (Nat.lt_succ_self g)]
    exact h2
  · have hg2 := hr g hg
    have hg3 : rowM z2 b g (if g < k then f1 g else f2 g) := by
      refine hg2.fr ?_ (fun a j q => hf.1 a j (by unfold aM at q ⊢; omega))
      have := hl1 g hg
      have := hl2 g hg
      split <;> omega
    by_cases e2 : g < k
    · rw [if_pos e2] at hg3
      rw [if_pos (by omega)]
      exact hg3
    · rw [if_neg e2] at hg3
      rw [if_neg (by omega)]
      exact hg3
section RC
variable {z : gS} {w t g b i : Nat} {S : sS} {W : sW} {P : Int32 → gS → Prop} {R : gS → Prop} {l : List sM}
theorem m_passes (h : MW z b S W) (hmL : mL z S) (hL : lwOK S) (hT1 : wT W + 1 < 2 ^ 20) (hP : ∀ z', MW z' b S (psW S W) → Fr (wrMt b) z z' → P (nI (psN S W)) z') : wX12_passes 148 gSH 129 (nI b) z P := by
  have hh := h
  obtain ⟨hz, hok, hwk, hT, hS, hW, hb⟩ := h
  have h6 := hok.1
  have h5 := hok.2.1
  have h3 := hok.2.2.1
  have hl6 : ∀ g, g < sPA S → (wM W g).length ≤ 6 := fun g hg => ln_le hok hwk hg
  have hla : ∀ g, g < sPA S → (agL W g).length ≤ 6 := fun g hg => by rw [agL_len]; exact hl6 g hg
  have hlp : ∀ g, g < sPA S → (psM S W g).length ≤ 6 := fun g hg => Nat.le_trans psM_len (hl6 g hg)
  -- what fades
  have st2 : ∀ z0, Fr (fun a k => a = 145 ∧ b + 18 ≤ k ∧ k < b + 60) z z0 → (∀ g, g < sPA S → rowM z0 b g (agL W g)) → ∃ N, wX12_passes_L77 148 gSH P N 129 (nI b) (nI 0) (nI 0) z0 := by
    intro z0 hf0 hr0
    refine (lp (fun m k => ∀ z1, Fr (fun a k => (a = 145 ∧ b + 18 ≤ k ∧ k < b + 60) ∨ a = 143 ∨ a = 144) z z1 → (∀ g, g < sPA S → rowM z1 b g (if g < k then psM S W g else agL W g)) → wX12_passes_L77 148 gSH P m 129 (nI b) (nI (sN k (fun g => (wM W g).length - (psM S W g).length))) (nI k) z1) (sPA S) (fun m z1 hf hr => ?_) (fun m k hk ih z1 hf hr => ?_)).imp (fun N q => q z0 (hf0.mono (fun _ _ q => Or.inl q)) (fun g hg => by rw [if_neg (by omega)]; exact hr0 g hg))
    · have hz1 := hf.sR hz
      have hS1 : mS z1 S := hS.fr (fun k => hf.1 135 k (by omega))
      unfold wX12_passes_L77 wX12_passes_B77
      refine ⟨mO, m_panes hz1 hS1 ?_⟩
      rw [if_pos (nI_le (by omega) (by omega))]
      refine ⟨_, mR24 hz1, mA145, ?_⟩
      rw [j_0, nI_add, Nat.add_zero, nI_clamp (by omega), mL145, (hf.1 145 b (by omega)).trans hW.1, nI_1]
      refine ⟨vp_in_nI (by omega) (by decide), vp_in_nI (by omega) (by decide), fun z11 e11 => ?_⟩
      subst e11
      have hfr : Fr (wrMt b) z (si z1 145 b (nI (wT W + 1))) := Fr.si (hf.mono (fun a k q => by unfold wrMt wrM; omega)) (Or.inl ⟨rfl, by omega, by omega⟩)
      refine hP _ (hh.up hfr (psW_ok hwk) hT1 ⟨?_, fun q hq => ?_, fun g hg => ?_, fun g hg => ?_, fun g hg => ?_, fun g hg => ?_⟩) hfr
      · rw [gi_si, if_pos ⟨rfl, rfl⟩]
        rfl
      · rw [gi_si, if_neg (by omega)]
        exact (hf.1 _ _ (by omega)).trans (hW.2.1 q hq)
      · rw [gi_si, if_neg (by omega)]
        exact (hf.1 _ _ (by omega)).trans (hW.2.2.1 g hg)
      · rw [gi_si, if_neg (by omega)]
        exact (hf.1 _ _ (by omega)).trans (hW.2.2.2.1 g hg)
      · have := (hr g hg).1
        rw [if_pos hg] at this
        rw [gi_si, if_neg (by omega)]
        exact this
      · have := (hr g hg).2
        rw [if_pos hg] at this
        intro i hi
        rw [gi_si, if_neg (by omega)]
        exact this i hi
    · have hz1 := hf.sR hz
      have hS1 : mS z1 S := hS.fr (fun k => hf.1 135 k (by omega))
      have hrk := hr k hk
      rw [if_neg (Nat.lt_irrefl k)] at hrk
      unfold wX12_passes_L77 wX12_passes_B77
      refine ⟨mO, m_panes hz1 hS1 ?_⟩
      rw [if_neg (nI_ge hk (by omega))]
      by_cases hG : wG W k = false
      · have ea : agL W k = (wM W k).map ag := by
          unfold agL
          rw [if_pos hG]
        have ep : psM S W k = fdL S (sLight S (wT W)) (wM W k) := by
          unfold psM
          rw [if_pos hG]
        have hin : ∀ (r d : List sM) (n : Nat) (z2 : gS), d ++ fdL S (sLight S (wT W)) r = psM S W k → n + (r.length - (fdL S (sLight S (wT W)) r).length) = sN (k + 1) (fun g => (wM W g).length - (psM S W g).length) → (∀ m ∈ r, m ∈ wM W k) → d.length + r.length ≤ 6 → Fr (fun a j => aM b k a j ∨ a = 143 ∨ a = 144) z1 z2 → rowM z2 b k (d ++ r.map ag) → wX12_passes_L88 148 gSH (wX12_passes_L77 148 gSH P m) P (r.length + 1) 129 (nI b) (nI n) (nI k) (nI d.length) z2 := by
          intro r
          induction r with
          | nil =>
            intro d n z2 e1 e2 _ hd hf2 hr2
            rw [fdL, List.append_nil] at e1
            rw [fdL, List.length_nil, Nat.sub_zero, Nat.add_zero] at e2
            rw [List.map_nil, List.append_nil] at hr2
            have hz2 := hf2.sR hz1
            have hft := hf.tr (C := fun a k => (a = 145 ∧ b + 18 ≤ k ∧ k < b + 60) ∨ a = 143 ∨ a = 144) hf2 (fun _ _ q => q) (fun a j q => by unfold aM at q; omega)
            unfold wX12_passes_L88 wX12_passes_B88
            refine ⟨mO, m_isWhole2 hz2 hb (by omega) ((hft.1 _ _ (by omega)).trans (hW.2.2.2.1 k hk)) ?_⟩
            rw [hG]
            refine if1 ⟨_, mR24 hz2, mA145, ?_⟩
            rw [j_18, nI_add, nI_add, nI_clamp (by omega), mL145, hr2.1, if_pos (nI_le (by omega) (by omega))]
            refine ⟨vp_in_nI (by omega) (by decide), fun v15 e15 => ?_⟩
            rw [nI_1] at e15
            subst e15
            rw [e2]
            exact ih z2 hft (rows_step h6 hk hlp hla hr hf2 (by rw [← e1]; exact hr2))
          | cons a r ihr =>
            intro d n z2 e1 e2 hmem hd hf2 hr2
            rw [List.length_cons] at hd
            have hz2 := hf2.sR hz1
            have hft := hf.tr (C := fun a k => (a = 145 ∧ b + 18 ≤ k ∧ k < b + 60) ∨ a = 143 ∨ a = 144) hf2 (fun _ _ q => q) (fun a j q => by unfold aM at q; omega)
            have hle := fdL_len S (sLight S (wT W)) r
            rw [List.map_cons] at hr2
            have hll : (d ++ ag a :: r.map ag).length = d.length + (r.length + 1) := by simp
            obtain ⟨⟨k1, k2, k3⟩, hma⟩ := hwk.2.2.2 k hk a (hmem a List.mem_cons_self)
            have hB : mB (ag a) := ⟨show a.1 < 8 by omega, show a.2.1 < 5 by omega, k3, show a.2.2.2 + 1 < 2 ^ 20 by omega⟩
            unfold wX12_passes_L88 wX12_passes_B88
            refine ⟨mO, m_isWhole2 hz2 hb (by omega) ((hft.1 _ _ (by omega)).trans (hW.2.2.2.1 k hk)) ?_⟩
            rw [hG]
            refine if1 ⟨_, mR24 hz2, mA145, ?_⟩
            rw [j_18, nI_add, nI_add, nI_clamp (by omega), mL145, hr2.1, if_neg (nI_ge (by omega) (by omega))]
            refine ⟨vp_in_nI (by omega) (by decide), m_isFaded (T := wT W) hz2 hb (by omega) (hS.fr (fun j => hft.1 135 j (by omega))) (hmL.fr (fun a j q1 q2 => hft.1 a j (by omega))) hL hok hr2 (by omega) (by omega) ((hft.1 _ _ (by omega)).trans hW.1) (by omega) (by rw [gd_al]; exact hB) (by rw [gd_al]; exact k2) (fun z3 hf3 => ?_)⟩
            rw [gd_al, show (d ++ ag a :: r.map ag).length - 1 - d.length = r.length by omega]
            have hz3 := hf3.sR hz2
            have hr3 : rowM z3 b k (d ++ ag a :: r.map ag) := hr2.fr (by omega) (fun a j q => hf3.1 a j (by unfold aM at q; omega))
            have hf4 : Fr (fun a j => aM b k a j ∨ a = 143 ∨ a = 144) z1 z3 := hf2.tr hf3 (fun _ _ q => q) (fun _ _ q => Or.inr q)
            rw [fdL] at e1 e2
            refine ifb0 (fun hq => ?_) (fun hq => ?_)
            · rw [if_neg (by rw [hq]; decide)] at e1 e2
              rw [List.length_cons, List.length_cons] at e2
              intro v21 e21
              rw [nI_1] at e21
              subst e21
              have hd2 : (d ++ [ag a]).length = d.length + 1 := by simp
              rw [← hd2]
              exact ihr (d ++ [ag a]) n z3 (by rw [List.append_assoc]; exact e1) (by omega) (fun q hq => hmem q (List.mem_cons_of_mem _ hq)) (by omega) hf4 (by rw [List.append_assoc]; exact hr3)
            · rw [if_pos hq] at e1 e2
              rw [List.length_cons] at e2
              refine r_forget hz3 hb (by omega) hr3 (by omega) (by omega) (fun z4 hf5 hr4 => ?_)
              rw [er_al] at hr4
              intro v24 e24
              rw [nI_1] at e24
              subst e24
              exact ihr d (n + 1) z4 e1 (by omega) (fun q hq => hmem q (List.mem_cons_of_mem _ hq)) (by omega) (hf4.tr hf5 (fun _ _ q => q) (fun _ _ q => Or.inl q)) hr4
        refine ⟨_, hin (wM W k) [] (sN k (fun g => (wM W g).length - (psM S W g).length)) z1 ep.symm (by rw [sN_s, ep]) (fun m q => q) (by have := hl6 k hk; simpa using this) Fr.rf ?_⟩
        rw [ea] at hrk
        exact hrk
      · have hG1 : wG W k = true := by simpa using hG
        have ep : psM S W k = agL W k := by
          unfold psM agL
          rw [if_neg hG, if_neg hG]
        refine ⟨1, ?_⟩
        unfold wX12_passes_L88 wX12_passes_B88
        refine ⟨mO, m_isWhole2 hz1 hb (by omega) ((hf.1 _ _ (by omega)).trans (hW.2.2.2.1 k hk)) ?_⟩
        rw [hG1]
        refine if0 (fun v15 e15 => ?_)
        rw [nI_1] at e15
        subst e15
        have := ih z1 hf (rows_step h6 hk hlp hla hr Fr.rf (by rw [ep]; exact hrk))
        rw [sN_s, ep, agL_len, Nat.sub_self, Nat.add_zero] at this
        exact this
  -- all grow older
  refine (lp (fun m k => ∀ z1, Fr (fun a k => a = 145 ∧ b + 18 ≤ k ∧ k < b + 60) z z1 → (∀ g, g < sPA S → rowM z1 b g (if g < k then agL W g else wM W g)) → wX12_passes_L4 148 gSH P m 129 (nI b) (nI 0) (nI k) z1) (sPA S) (fun m z1 hf hr => ?_) (fun m k hk ih z1 hf hr => ?_)).imp (fun N q => q z Fr.rf (fun g hg => by rw [if_neg (by omega)]; exact hh.row hg))
  · have hz1 := hf.sR hz
    have hS1 : mS z1 S := hS.fr (fun k => hf.1 135 k (by omega))
    unfold wX12_passes_L4 wX12_passes_B4
    refine ⟨mO, m_panes hz1 hS1 ?_⟩
    rw [if_pos (nI_le (by omega) (by omega))]
    exact st2 z1 hf (fun g hg => by have := hr g hg; rw [if_pos hg] at this; exact this)
  · have hz1 := hf.sR hz
    have hS1 : mS z1 S := hS.fr (fun k => hf.1 135 k (by omega))
    have hrk := hr k hk
    rw [if_neg (Nat.lt_irrefl k)] at hrk
    have hlk := hl6 k hk
    unfold wX12_passes_L4 wX12_passes_B4
    refine ⟨mO, m_panes hz1 hS1 ?_⟩
    rw [if_neg (nI_ge hk (by omega))]
    by_cases hG : wG W k = false
    · have ea : agL W k = (wM W k).map ag := by
        unfold agL
        rw [if_pos hG]
      have hin : ∀ (r d : List sM) (z2 : gS), d ++ r.map ag = agL W k → d.length + r.length ≤ 6 → Fr (aM b k) z1 z2 → rowM z2 b k (d ++ r) → wX12_passes_L15 148 gSH (wX12_passes_L4 148 gSH P m) P (r.length + 1) 129 (nI b) (nI 0) (nI k) (nI d.length) z2 := by
        intro r
        induction r with
        | nil =>
          intro d z2 e1 hd hf2 hr2
          have hz2 := hf2.sR hz1
          rw [List.map_nil, List.append_nil] at e1
          rw [List.append_nil] at hr2
          unfold wX12_passes_L15 wX12_passes_B15
          refine ⟨mO, _, mR24 hz2, mA145, ?_⟩
          rw [j_18, nI_add, nI_add, nI_clamp (by omega), mL145, hr2.1, if_pos (nI_le (by omega) (by omega))]
          refine ⟨vp_in_nI (by omega) (by decide), fun v15 e15 => ?_⟩
          rw [nI_1] at e15
          subst e15
          exact ih z2 (hf.tr hf2 (fun _ _ q => q) (fun a j q => by unfold aM at q; omega)) (rows_step h6 hk hla hl6 hr (hf2.mono (fun _ _ q => Or.inl q)) (by rw [← e1]; exact hr2))
        | cons a r ihr =>
          intro d z2 e1 hd hf2 hr2
          rw [List.length_cons] at hd
          have hz2 := hf2.sR hz1
          have hft := hf.tr (C := fun a k => a = 145 ∧ b + 18 ≤ k ∧ k < b + 60) hf2 (fun _ _ q => q) (fun a j q => by unfold aM at q; omega)
          have hll : (d ++ a :: r).length = d.length + (r.length + 1) := by simp
          unfold wX12_passes_L15 wX12_passes_B15
          refine ⟨mO, _, mR24 hz2, mA145, ?_⟩
          rw [j_18, nI_add, nI_add, nI_clamp (by omega), mL145, hr2.1, if_neg (nI_ge (by omega) (by omega))]
          refine ⟨vp_in_nI (by omega) (by decide), m_isWhole2 hz2 hb (by omega) ((hft.1 _ _ (by omega)).trans (hW.2.2.2.1 k hk)) ?_⟩
          rw [hG]
          refine if1 ⟨_, mR24 hz2, mA145, ?_⟩
          have em := hr2.2 d.length (by omega)
          rw [gd_al] at em
          rw [j_24, j_6, nI_add, pk_mul, nI_add, nI_add, nI_clamp (by omega), mL145, em, j_1024, nI_add, ← mkM_ag]
          refine ⟨vp_in_nI (by omega) (by decide), vp_in_nI (by omega) (by decide), fun z3 e3 v41 e41 => ?_⟩
          rw [nI_1] at e41
          subst e3 e41
          have hd2 : (d ++ [ag a]).length = d.length + 1 := by simp
          rw [← hd2]
          refine ihr (d ++ [ag a]) _ (by rw [List.append_assoc]; exact e1) (by omega) (hf2.si ⟨rfl, Or.inr ⟨by omega, by omega⟩⟩) ?_
          rw [List.append_assoc]
          exact hr2.set (by omega) (by omega)
      exact ⟨_, hin (wM W k) [] z1 ea.symm (by have := hl6 k hk; simpa using this) Fr.rf hrk⟩
    · have hG1 : wG W k = true := by simpa using hG
      have ea : agL W k = wM W k := by
        unfold agL
        rw [if_neg hG]
      have hgo : wX12_passes_J69 148 gSH (wX12_passes_L4 148 gSH P m) P 129 (nI b) (nI 0) (nI k) z1 := by
        intro v15 e15
        rw [nI_1] at e15
        subst e15
        exact ih z1 hf (rows_step h6 hk hla hl6 hr Fr.rf (by rw [ea]; exact hrk))
      refine ⟨1, ?_⟩
      unfold wX12_passes_L15 wX12_passes_B15
      refine ⟨mO, _, mR24 hz1, mA145, ?_⟩
      rw [j_18, nI_add, nI_add, nI_clamp (by omega), mL145, hrk.1]
      refine ⟨vp_in_nI (by omega) (by decide), ?_⟩
      split
      · exact hgo
      · refine m_isWhole2 hz1 hb (by omega) ((hf.1 _ _ (by omega)).trans (hW.2.2.2.1 k hk)) ?_
        rw [hG1]
        exact if0 hgo
end RC
