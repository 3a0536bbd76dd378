/-! ===== signs are fed ===== -/
def lyT (tp : List Nat) (c : Nat) : List Nat := if tp.length < 1000 ∧ (c = 10 ∨ (32 ≤ c ∧ c ≤ 126)) then tp ++ [c] else tp
def lyL (n : Nat) (tp : List Nat) : Nat → List Nat
  | 0 => tp
  | j + 1 => lyT (lyL n tp j) (n / 2 ^ (56 - 8 * j) % 256)
def shI (j : Nat) : Int32 := if j < 8 then nI (56 - 8 * j) else -8
theorem shI_s : ∀ j, j < 8 → shI j + (-8 : Int32) = shI (j + 1) := by decide
theorem shI_p : ∀ j, j < 8 → ¬ shI j < 0 := by decide
theorem shI_v {j : Nat} (h : j < 8) : shI j = nI (56 - 8 * j) := if_pos h
theorem nar_c : ∀ c, c < 256 → vp_nar .char (((nI c).toUInt32 % 65536).toInt32) = nI c := by decide +kernel
theorem lyT_ok {tp : List Nat} {c : Nat} (h : tOK tp) : tOK (lyT tp c) := by
  unfold lyT
  split
  · rename_i q
    refine ⟨by rw [List.length_append, List.length_singleton]; omega, fun d hd => ?_⟩
    rcases List.mem_append.mp hd with r | r
    · exact h.2 d r
    · rw [List.mem_singleton] at r
      subst r
      exact q.2
  · exact h
theorem lyL_ok {n : Nat} {tp : List Nat} (h : tOK tp) : ∀ j, tOK (lyL n tp j)
  | 0 => h
  | j + 1 => lyT_ok (lyL_ok h j)
theorem gt_ap {tp : List Nat} {c j : Nat} : (tp ++ [c]).getD j 0 = if j = tp.length then c else tp.getD j 0 := by
  rw [List.getD_eq_getElem?_getD]
  by_cases h : j < tp.length
  · rw [List.getElem?_append_left h, if_neg (by omega), List.getD_eq_getElem?_getD]
  · rw [List.getElem?_append_right (by omega)]
    by_cases e : j = tp.length
    · rw [if_pos e, e, Nat.sub_self]; rfl
    · rw [if_neg e, List.getD_eq_getElem?_getD, List.getElem?_eq_none (by simp; omega), List.getElem?_eq_none (by omega)]
section RS
variable {z z' : gS} {t y n : Nat} {S : sS} {W : sW} {so ss : Nat → Bool} {H : List sW} {N : sNo} {D : List sL} {nm : sNm} {tp tp' : List Nat} {R : gS → Prop}
theorem Cl.tape (h : Cl z t y S W so ss H N D nm tp) (hr : ∀ a k, gr z' a k = gr z a k) (hl : ∀ a k, a ≠ 1 → a < 129 → gl z' a k = gl z a k) (hs : ∀ a k, a < 129 → a ≠ 1 → a ≠ 2 → gi z' a k = gi z a k) (hT : cT z' tp') : Cl z' t y S W so ss H N D nm tp' := by
  obtain ⟨g1, g2, g3, g4, g5, g6, g7, g8, g9, g10, g11, g12, g13, g14, g15⟩ := h
  have tl := g2.le
  have yl := g5.le
  exact ⟨g1.to hr, g2, (hr _ _).trans g3, (hr _ _).trans g4, g5, (hr _ _).trans g6, (hr _ _).trans g7, g8.fr (fun a k q1 q2 => hs a k (by omega) (by omega) (by omega)), g9.fr (fun a k q1 q2 => hs a k (by omega) (by omega) (by omega)), ⟨(hs _ _ (by decide) (by decide) (by decide)).trans g10.1, (hs _ _ (by decide) (by decide) (by decide)).trans g10.2⟩, g11.fr (fun a k q1 q2 => hs a k (by omega) (by omega) (by omega)), g12.fr (fun a k q => hs a k (by omega) (by omega) (by omega)), g13.fr (fun a k q1 q2 q3 => hs a k (by omega) (by omega) (by omega)), g14.fr (fun a k q1 q2 => hl a k (by omega) (by omega)), hT⟩
theorem Md.tape (h : Md z S W so ss H N D nm tp) (hok : Ok n S W so H N D nm tp) (hz : sR z') (hl : ∀ a k, a ≠ 129 → a ≠ 133 → gl z' a k = gl z a k) (hs : ∀ a k, 129 ≤ a → ¬ (a = 129 ∧ k ≠ 18 ∧ k ≠ 25) → a ≠ 130 → a ≠ 131 → a ≠ 132 → gi z' a k = gi z a k) (hT : mT z' tp') : Md z' S W so ss H N D nm tp' := by
  obtain ⟨h1, h2, h3, h4, h5, h6, h7, h8, h9, h10, h11⟩ := h
  exact ⟨hz, h2.fr (fun k => hs _ _ (by omega) (by omega) (by omega) (by omega) (by omega)), h3.fr (fun a k q1 q2 => hs _ _ (by omega) (by omega) (by omega) (by omega) (by omega)), h4.fr (fun k => hs _ _ (by omega) (by omega) (by omega) (by omega) (by omega)), h5.fr (fun k q1 q2 => hs _ _ (by omega) (by omega) (by omega) (by omega) (by omega)), h6.fr hok.1 hok.2.2.2.2.2.1 (fun a k q => hs _ _ (by omega) (by omega) (by omega) (by omega) (by omega)), h7.fr hok.1 hok.2.2.2.2.2.2.1 (fun a k q => hs _ _ (by omega) (by omega) (by omega) (by omega) (by omega)), h8.fr (fun k => hs _ _ (by omega) (by omega) (by omega) (by omega) (by omega)), h9.fr (fun a k q => hs _ _ (by omega) (by omega) (by omega) (by omega) (by omega)) (fun k => hl _ _ (by omega) (by omega)), hT, fun k hk => (hl _ _ (by omega) (by omega)).trans (h11 k hk)⟩
def aTc : Nat → Nat → Prop := fun a k => (a = 1 ∧ k = 1) ∨ a = 2
def aTm : Nat → Nat → Prop := fun a k => (a = 129 ∧ k = 2) ∨ a = 130
theorem c_append {m : Nat} (hm : m < 2 ^ 64) (hz : sR z) (hT : cT z tp) (hk : tOK tp) (hP : ∀ z', cT z' (lyL m tp 8) → Fr aTc z z' → R z') : wX9_append 148 gSH 1 (lN m) z R := by
  refine (lp (fun N j => ∀ z1, cT z1 (lyL m tp j) → Fr aTc z z1 → wX9_append_L3 148 gSH R N 1 (lN m) (shI j) z1) 8 (fun N z1 h1 hf => ?_) (fun N j hj ih z1 h1 hf => ?_)).imp (fun N q => q z hT Fr.rf)
  · unfold wX9_append_L3 wX9_append_B3
    rw [if_pos (by decide)]
    exact hP z1 h1 hf
  · have hz1 := hf.sR hz
    have hok1 := lyL_ok (n := m) hk j
    have ih1 : ∀ z2, cT z2 (lyL m tp (j + 1)) → Fr aTc z z2 → wX9_append_J70 148 gSH (wX9_append_L3 148 gSH R N) R 1 (lN m) (shI j) z2 := by
      intro z2 a1 a2 v3 e3
      rw [shI_s j hj] at e3
      subst e3
      exact ih z2 a1 a2
    have et : lyL m tp (j + 1) = lyT (lyL m tp j) (m / 2 ^ (56 - 8 * j) % 256) := rfl
    rw [et] at ih1
    unfold lyT at ih1
    unfold wX9_append_L3 wX9_append_B3
    rw [if_neg (shI_p j hj)]
    intro v1 e1
    rw [shI_v hj, cl_byte hm (by omega)] at e1
    have hc : m / 2 ^ (56 - 8 * j) % 256 < 256 := Nat.mod_lt _ (by decide)
    generalize m / 2 ^ (56 - 8 * j) % 256 = c at e1 ih1 hc
    generalize lyL m tp j = tq at h1 ih1 hok1
    subst e1
    have hlen := hok1.1
    refine ⟨tpO, ?_⟩
    rw [h1.1]
    by_cases hf1 : tq.length < 1000
    · rw [if_neg (show ¬ (1000 : Int32) ≤ nI tq.length from nI_ge (b := 1000) hf1 (by decide))]
      have hJ : (c = 10 ∨ (32 ≤ c ∧ c ≤ 126)) → wX9_append_J48 148 gSH (wX9_append_L3 148 gSH R N) R 1 (lN m) (shI j) (nI c) z1 := by
        intro hcc
        rw [if_pos ⟨hf1, hcc⟩] at ih1
        refine ⟨tpO, _, tpR hz1, tpA, ?_⟩
        rw [h1.1, tpL, nI_clamp (by omega), nar_c c hc]
        refine ⟨vp_in_nI hf1 (by decide), fun z8 e8 z9 e9 => ?_⟩
        have e81 : gi z8 1 1 = nI tq.length := by rw [e8, gi_si, if_neg (by omega), h1.1]
        rw [e81, nI_1] at e9
        refine ih1 z9 ⟨by rw [e9, gi_si, if_pos ⟨rfl, rfl⟩, List.length_append]; rfl, fun i hi => ?_⟩ (by rw [e9, e8]; exact (hf.si (Or.inr rfl)).si (Or.inl ⟨rfl, rfl⟩))
        rw [List.length_append, List.length_singleton] at hi
        rw [e9, gi_si, if_neg (by omega), e8, gi_si, gt_ap]
        by_cases e : i = tq.length
        · rw [if_pos ⟨rfl, e⟩, if_pos e]
        · rw [if_neg (by omega), if_neg e]; exact h1.2 i (by omega)
      by_cases c1 : c = 10
      · rw [if_pos (show nI c = 10 by rw [c1]; rfl)]
        exact hJ (Or.inl c1)
      · rw [if_neg (show ¬ nI c = 10 from fun q => c1 ((nI_eq (b := 10) (by omega) (by decide)).mp q))]
        by_cases c2 : c < 32
        · rw [if_pos (show nI c < 32 from nI_lt (b := 32) c2 (by decide))]
          rw [if_neg (by omega)] at ih1
          exact ih1 z1 h1 hf
        · rw [if_neg (show ¬ nI c < 32 from nI_nlt (b := 32) (by omega) (by omega))]
          by_cases c3 : 126 < c
          · rw [if_pos (show (126 : Int32) < nI c from nI_lt (a := 126) c3 (by omega))]
            rw [if_neg (by omega)] at ih1
            exact ih1 z1 h1 hf
          · rw [if_neg (show ¬ (126 : Int32) < nI c from nI_nlt (a := 126) (by omega) (by decide))]
            exact hJ (Or.inr ⟨by omega, by omega⟩)
    · rw [if_pos (show (1000 : Int32) ≤ nI tq.length from nI_le (a := 1000) (by omega) (by omega))]
      rw [if_neg (by omega)] at ih1
      exact ih1 z1 h1 hf
theorem m_lay {m : Nat} (hz : sR z) (hT : mT z tp) (hk : tOK tp) (hP : ∀ z', mT z' (lyL m tp 8) → Fr aTm z z' → R z') : wX12_lay 148 gSH 129 (lN m) z R := by
  refine (lp (fun N j => ∀ z1, mT z1 (lyL m tp j) → Fr aTm z z1 → wX12_lay_L3 148 gSH R N 129 (lN m) (shI j) z1) 8 (fun N z1 h1 hf => ?_) (fun N j hj ih z1 h1 hf => ?_)).imp (fun N q => q z hT Fr.rf)
  · unfold wX12_lay_L3 wX12_lay_B3
    rw [if_pos (by decide)]
    exact hP z1 h1 hf
  · have hz1 := hf.sR hz
    have hok1 := lyL_ok (n := m) hk j
    have ih1 : ∀ z2, mT z2 (lyL m tp (j + 1)) → Fr aTm z z2 → wX12_lay_J69 148 gSH (wX12_lay_L3 148 gSH R N) R 129 (lN m) (shI j) z2 := by
      intro z2 a1 a2 v3 e3
      rw [shI_s j hj] at e3
      subst e3
      exact ih z2 a1 a2
    have et : lyL m tp (j + 1) = lyT (lyL m tp j) (m / 2 ^ (56 - 8 * j) % 256) := rfl
    rw [et] at ih1
    unfold lyT at ih1
    unfold wX12_lay_L3 wX12_lay_B3
    rw [if_neg (shI_p j hj)]
    intro v1 e1
    rw [shI_v hj, md_byte (by omega)] at e1
    have hc : m / 2 ^ (56 - 8 * j) % 256 < 256 := Nat.mod_lt _ (by decide)
    generalize m / 2 ^ (56 - 8 * j) % 256 = c at e1 ih1 hc
    generalize lyL m tp j = tq at h1 ih1 hok1
    subst e1
    have hlen := hok1.1
    have hJ : (c = 10 ∨ (32 ≤ c ∧ c ≤ 126)) → wX12_lay_J38 148 gSH (wX12_lay_L3 148 gSH R N) R 129 (lN m) (shI j) (nI c) z1 := by
      intro hcc
      refine ⟨mO, ?_⟩
      rw [h1.1]
      by_cases hf1 : tq.length < 1000
      · rw [if_neg (show ¬ (1000 : Int32) ≤ nI tq.length from nI_ge (b := 1000) hf1 (by decide))]
        rw [if_pos ⟨hf1, hcc⟩] at ih1
        refine ⟨_, mR1 hz1, mA130, ?_⟩
        rw [mL130, nI_clamp (by omega)]
        refine ⟨vp_in_nI hf1 (by decide), fun z8 e8 z9 e9 => ?_⟩
        have e81 : gi z8 129 2 = nI tq.length := by rw [e8, gi_si, if_neg (by omega), h1.1]
        rw [e81, nI_1] at e9
        refine ih1 z9 ⟨by rw [e9, gi_si, if_pos ⟨rfl, rfl⟩, List.length_append]; rfl, fun i hi => ?_⟩ (by rw [e9, e8]; exact (hf.si (Or.inr rfl)).si (Or.inl ⟨rfl, rfl⟩))
        rw [List.length_append, List.length_singleton] at hi
        rw [e9, gi_si, if_neg (by omega), e8, gi_si, gt_ap]
        by_cases e : i = tq.length
        · rw [if_pos ⟨rfl, e⟩, if_pos e]
        · rw [if_neg (by omega), if_neg e]; exact h1.2 i (by omega)
      · rw [if_pos (show (1000 : Int32) ≤ nI tq.length from nI_le (a := 1000) (by omega) (by omega))]
        rw [if_neg (by omega)] at ih1
        exact ih1 z1 h1 hf
    by_cases c1 : c = 10
    · rw [if_pos (show nI c = 10 by rw [c1]; rfl)]
      exact hJ (Or.inl c1)
    · rw [if_neg (show ¬ nI c = 10 from fun q => c1 ((nI_eq (b := 10) (by omega) (by decide)).mp q))]
      by_cases c2 : c < 32
      · rw [if_pos (show nI c < 32 from nI_lt (b := 32) c2 (by decide))]
        rw [if_neg (by omega)] at ih1
        exact ih1 z1 h1 hf
      · rw [if_neg (show ¬ nI c < 32 from nI_nlt (b := 32) (by omega) (by omega))]
        by_cases c3 : 126 < c
        · rw [if_pos (show (126 : Int32) < nI c from nI_lt (a := 126) c3 (by omega))]
          rw [if_neg (by omega)] at ih1
          exact ih1 z1 h1 hf
        · rw [if_neg (show ¬ (126 : Int32) < nI c from nI_nlt (a := 126) (by omega) (by decide))]
          exact hJ (Or.inr ⟨by omega, by omega⟩)
end RS
section RP
variable {z : gS} {n : Nat} {Q : Int32 → Int32 → gS → Prop}
theorem q_feed (h : RLq z n) (hn : n < 999) (x y w : Int64) (hQ : ∀ r z', RLq z' (n + 1) → Q r r z') : wX11_feed 148 gSH 0 x y w z (fun r1 z1 => wX12_feed 148 gSH 129 x y w z1 (fun r2 z2 => Q r1 r2 z2)) := by
  have hth := h.th (v := 0)
  obtain ⟨t, yy, S, W, so, ss, H, N, D, nm, tp, hc, hm, hok⟩ := h
  have hcw := hc.cw hok (by omega)
  have hm0 := hm.th hok (v := 0)
  have hmw0 := hm0.mw hok (by omega)
  have ht := hc.2.1
  have hS := hcw.2.2.2.2.2.2.1
  have sok := hok.1
  have k6 := sok.1
  have k5 := sok.2.1
  have k3 := sok.2.2.1
  have hTn := hok.2.2.2.1
  obtain ⟨m1, hm1, rfl⟩ := wb_of x
  obtain ⟨m2, hm2, rfl⟩ := wb_of y
  obtain ⟨m3, hm3, rfl⟩ := wb_of w
  have hct := hc.2.2.2.2.2.2.2.2.2.2.2.2.2.2
  have htk := hok.2.2.2.2.2.2.2.2.2
  refine ⟨gO, _, gR0 hc.1, tpO, c_append hm1 hc.1 hct htk (fun z1 h1 hf1 => ?_)⟩
  have hz1 := hf1.sR hc.1
  refine ⟨_, gR0 hz1, tpO, c_append hm2 hz1 h1 (lyL_ok htk 8) (fun z2 h2 hf2 => ?_)⟩
  have hz2 := hf2.sR hz1
  refine ⟨_, gR0 hz2, tpO, c_append hm3 hz2 h2 (lyL_ok (lyL_ok htk 8) 8) (fun z3 h3 hf3 => ?_)⟩
  have hz3 := hf3.sR hz2
  have hff := (hf1.tr (C := aTc) hf2 (fun _ _ q => q) (fun _ _ q => q)).tr (C := aTc) hf3 (fun _ _ q => q) (fun _ _ q => q)
  have hc3 := hc.tape hff.2.2 (fun a k _ _ => hff.2.1 a k) (fun a k q1 q2 q3 => hff.1 a k (by unfold aTc; omega)) h3
  have hm3' := (hm.fr hok hz3 (hff.kpM (fun a k q => by unfold aTc at q; omega))).th hok (v := 0)
  refine ⟨_, gR0 hz3, tpO, ?_⟩
  rw [h3.1]
  refine ⟨mO, fun z0 e0 => ?_⟩; subst e0
  refine m_lay hm3'.1 hm3'.2.2.2.2.2.2.2.2.2.1 htk (fun z4 h4 hf4 => m_lay (hf4.sR hm3'.1) h4 (lyL_ok htk 8) (fun z5 h5 hf5 => m_lay (hf5.sR (hf4.sR hm3'.1)) h5 (lyL_ok (lyL_ok htk 8) 8) (fun z6 h6 hf6 => ?_)))
  have hfm := (hf4.tr (C := aTm) hf5 (fun _ _ q => q) (fun _ _ q => q)).tr (C := aTm) hf6 (fun _ _ q => q) (fun _ _ q => q)
  rw [h6.1]
  have hm6 := hm3'.tape hok (hfm.sR hm3'.1) (fun a k _ _ => hfm.2.1 a k) (fun a k q1 q2 q3 _ _ => hfm.1 a k (by unfold aTm; omega)) h6
  obtain ⟨b1, b2, b3, b4, b5, b6, b7, b8, b9, b10⟩ := hok.mono (Nat.le_succ n)
  exact hQ _ _ (RLq.mk (hc3.fr ((kpC.si (by decide)).tr (hfm.kpC (fun a k q => by unfold aTm at q; omega)))) hm6 ⟨b1, b2, b3, b4, b5, b6, b7, b8, b9, lyL_ok (lyL_ok (lyL_ok htk 8) 8) 8⟩)
end RP
