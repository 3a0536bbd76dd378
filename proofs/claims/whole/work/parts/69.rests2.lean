/-! ===== rents, both sides ===== -/
theorem outA : oA 148 gSH 147 2 := ⟨by decide, by decide +kernel⟩
theorem outL : (gSH 147).2 = 1 := by decide +kernel
section RP
variable {z : gS} {n : Nat} {P : Int32 → gS → Prop} {x : Int32}
theorem c_rent_no (hx : x < nI 0 ∨ nI 9 < x) (h : P (nI 0) z) : wX11_isRent 148 gSH x z P := by
  unfold wX11_isRent
  by_cases q : x < 0
  · rw [if_pos q]; exact h
  · rw [if_neg q, if_pos (show (9 : Int32) < x from hx.resolve_left q)]; exact h
theorem c_rent_yes {k : Nat} (hk : k ≤ 9) (h : P (nI 1) z) : wX11_isRent 148 gSH (nI k) z P := by
  unfold wX11_isRent
  rw [if_neg (nI_pos (by omega)), if_neg (show ¬ (9 : Int32) < nI k from nI_nlt (a := 9) hk (by decide))]
  exact h
theorem m_w9_no (hx : x < nI 0 ∨ nI 9 < x) (h : P (nI 0) z) : wX12_within 148 gSH x 0 9 z P := by
  rcases hx with hx | hx
  · exact m_within_lo (a := 0) (b := 9) hx h
  · exact m_within_hi (a := 0) (b := 9) hx h
theorem m_w9_yes {k : Nat} (hk : k ≤ 9) (h : P (nI 1) z) : wX12_within 148 gSH (nI k) 0 9 z P := m_within_in (a := 0) (b := 9) (by omega) hk (by decide) h
theorem rg9 (x : Int32) : (x < nI 0 ∨ nI 9 < x) ∨ ∃ k : Nat, k ≤ 9 ∧ x = nI k := by
  rcases rg_of x (a := 0) (b := 9) (by decide) (by decide) with q | q | ⟨k, _, h, e⟩
  · exact Or.inl (Or.inl q)
  · exact Or.inl (Or.inr q)
  · exact Or.inr ⟨k, h, e⟩
theorem RLq.out {v : Int64} (h : RLq z n) : RLq (sl z 147 0 v) n := by
  obtain ⟨t, y, S, W, so, ss, H, N, D, nm, tp, h1, h2, h3⟩ := h
  have hl : ∀ a k, a ≠ 147 → gl (sl z 147 0 v) a k = gl z a k := fun a k q => by rw [gl_sl, if_neg (by omega)]
  obtain ⟨a1, a2, a3, a4, a5, a6, a7, a8, a9, a10, a11⟩ := h2
  exact RLq.mk (h1.fr ⟨fun _ _ _ => rfl, fun a k q => hl a k (by omega), fun _ _ => rfl⟩) ⟨a1.to (fun _ _ => rfl), a2, a3, a4, a5, a6, a7, a8, a9.fr (fun _ _ _ => rfl) (fun k => hl _ _ (by decide)), a10, fun k hk => (hl _ _ (by decide)).trans (a11 k hk)⟩ h3
theorem q_rests (h : RLq z n) (x1 x2 x3 x4 : Int32) {K : Int32 → Int32 → gS → Prop} (hK : ∀ k r z', RLq z' (n + 1) → gi z' 129 0 = k → (k = 0 → gl z' 147 0 = r.toInt64) → K k r z') : wL_rests 148 gSH 0 x1 x2 x3 x4 147 z (fun k z1 => wX12_rests 148 gSH 129 x1 x2 x3 x4 z1 (fun r z2 => K k r z2)) := by
  have hth : ∀ v, RLq (si z 129 0 v) (n + 1) := fun v => h.th
  have hbad : ∀ y1 y2 y3 y4 : Int32, wX12_rests_J40 148 gSH (fun r z2 => K 1 r z2) 129 y1 y2 y3 y4 z := by
    intro y1 y2 y3 y4
    refine ⟨1, ?_⟩
    unfold wX12_rests_L52 wX12_rests_B52 wX12_rests_J174
    rw [if_neg (by decide), if_pos rfl, if_pos rfl]
    refine ⟨mO, fun z4 e4 => ⟨mO, ?_⟩⟩
    have e0 : gi z4 129 0 = 1 := by rw [e4, gi_si, if_pos ⟨rfl, rfl⟩]
    rw [e0, if_neg (by decide)]
    exact hK 1 0 z4 (by rw [e4]; exact hth 1) e0 (fun q => absurd q (by decide))
  refine ⟨gO, outA, by rw [outL]; exact vp_in_nI (n := 0) (by decide) (by decide), ?_⟩
  rcases rg9 x1 with hx | ⟨k1, hk1, rfl⟩
  · refine c_rent_no hx (if0 ?_)
    show wX12_rests 148 gSH 129 x1 x2 x3 x4 z (fun r z2 => K 1 r z2)
    exact m_w9_no hx (if0 (hbad _ _ _ _))
  refine c_rent_yes hk1 (if1 ?_)
  rcases rg9 x2 with hx | ⟨k2, hk2, rfl⟩
  · refine c_rent_no hx (if0 ?_)
    show wX12_rests 148 gSH 129 (nI k1) x2 x3 x4 z (fun r z2 => K 1 r z2)
    exact m_w9_yes hk1 (if1 (m_w9_no hx (if0 (hbad _ _ _ _))))
  refine c_rent_yes hk2 (if1 ?_)
  rcases rg9 x3 with hx | ⟨k3, hk3, rfl⟩
  · refine c_rent_no hx (if0 ?_)
    show wX12_rests 148 gSH 129 (nI k1) (nI k2) x3 x4 z (fun r z2 => K 1 r z2)
    exact m_w9_yes hk1 (if1 (m_w9_yes hk2 (if1 (m_w9_no hx (if0 (hbad _ _ _ _))))))
  refine c_rent_yes hk3 (if1 ?_)
  by_cases hm : (-1 : Int32) ≤ x4
  · have hm2 : ¬ x4 < -1 := by
      rw [Int32.le_iff_toInt_le] at hm
      rw [Int32.lt_iff_toInt_lt]
      omega
    rw [if_pos hm]
    refine c_restsL ?_
    have hgo : ∀ z1, wX12_rests_J41 148 gSH (fun r z2 => K 0 r z2) 129 (nI k1) (nI k2) (nI k3) x4 1 z1 → wX12_rests 148 gSH 129 (nI k1) (nI k2) (nI k3) x4 z1 (fun r z2 => K 0 r z2) := fun z1 q => m_w9_yes hk1 (if1 (m_w9_yes hk2 (if1 (m_w9_yes hk3 (if1 (by rw [if_neg hm2]; exact q))))))
    have hth2 : ∀ v u, RLq (si (sl z 147 0 u) 129 0 v) (n + 1) := fun v u => h.out.th
    by_cases e4 : x4 = -1
    · subst e4
      obtain ⟨c1, c2⟩ := rsM_c (f := aRs (nI k1) (nI k2) (nI k3)) 4 0 0 (-1) (by decide)
      rw [c2]
      refine hgo _ (m_restsL ?_)
      unfold wX12_rests_J174
      rw [if_neg (by decide), if_pos (by decide)]
      refine ⟨mO, fun z4 e4 => ⟨mO, ?_⟩⟩
      have e0 : gi z4 129 0 = 0 := by rw [e4, gi_si, if_pos ⟨rfl, rfl⟩]
      rw [e0, if_pos (by decide), if_neg (by decide)]
      exact hK 0 _ z4 (by rw [e4]; exact hth2 _ _) e0 (fun _ => by rw [e4]; show gl (sl z 147 _ _) 147 0 = _; rw [gl_sl, if_pos ⟨rfl, rfl⟩])
    · obtain ⟨c1, c2⟩ := rsM_b (f := aRs (nI k1) (nI k2) (nI k3)) e4 4 0 0 (by decide) (by decide)
      have hx0 : ¬ x4 < 0 := by
        rw [Int32.le_iff_toInt_le, show (-1 : Int32).toInt = -1 by decide] at hm
        rw [Int32.lt_iff_toInt_lt, show (0 : Int32).toInt = 0 by decide]
        intro q
        exact e4 (eq_toInt (by rw [show (-1 : Int32).toInt = -1 by decide]; omega))
      have hx1 : (0 : Int32) ≤ x4 := by
        rw [Int32.le_iff_toInt_le]
        rw [Int32.lt_iff_toInt_lt] at hx0
        omega
      cases hr : rsC (aRs (nI k1) (nI k2) (nI k3)) x4 4 0 0 with
      | none =>
        rw [hr] at c1
        refine m_w9_yes hk1 (if1 (m_w9_yes hk2 (if1 (m_w9_yes hk3 (if1 ?_)))))
        rw [if_neg hm2]
        refine m_restsL ?_
        rw [c1]
        unfold wX12_rests_J174
        rw [if_neg (by decide), if_neg hx0, if_pos (by decide)]
        refine ⟨mO, fun z4 e4 => ⟨mO, ?_⟩⟩
        have e0 : gi z4 129 0 = 1 := by rw [e4, gi_si, if_pos ⟨rfl, rfl⟩]
        rw [e0, if_neg (by decide)]
        exact hK 1 0 z4 (by rw [e4]; exact hth 1) e0 (fun q => absurd q (by decide))
      | some r =>
        rw [hr] at c1
        have hr0 := c2 r hr
        refine hgo _ (m_restsL ?_)
        rw [c1]
        unfold wX12_rests_J174
        rw [if_neg (by decide), if_neg hx0, if_neg (show ¬ (some r).getD (-1) < 0 from fun q => by
          change r < 0 at q
          rw [Int32.le_iff_toInt_le] at hr0
          rw [Int32.lt_iff_toInt_lt] at q
          omega)]
        refine ⟨mO, fun z4 e4 => ⟨mO, ?_⟩⟩
        have e0 : gi z4 129 0 = 0 := by rw [e4, gi_si, if_pos ⟨rfl, rfl⟩]
        rw [e0, if_pos (by decide), if_pos hx1]
        exact hK 0 _ z4 (by rw [e4]; exact hth2 _ _) e0 (fun _ => by rw [e4]; show gl (sl z 147 _ _) 147 0 = _; rw [gl_sl, if_pos ⟨rfl, rfl⟩]; rfl)
  · rw [if_neg hm]
    have hm2 : x4 < -1 := by
      rw [Int32.le_iff_toInt_le] at hm
      rw [Int32.lt_iff_toInt_lt]
      omega
    show wX12_rests 148 gSH 129 (nI k1) (nI k2) (nI k3) x4 z (fun r z2 => K 1 r z2)
    refine m_w9_yes hk1 (if1 (m_w9_yes hk2 (if1 (m_w9_yes hk3 (if1 ?_)))))
    rw [if_pos hm2]
    exact hbad _ _ _ _
end RP
