/-! ===== a day is told ===== -/
section RQ
variable {z z' : gS} {t y n : Nat} {S : sS} {W : sW} {so ss : Nat → Bool} {H : List sW} {N : sNo} {D D' : List sL} {nm : sNm} {tp : List Nat}
theorem mT_nil (h : gi z 129 2 = 0) : mT z [] := ⟨h, fun i hi => absurd hi (Nat.not_lt_zero _)⟩
theorem cT_nil (h : gi z 1 1 = 0) : cT z [] := ⟨h, fun i hi => absurd hi (Nat.not_lt_zero _)⟩
theorem tOK_nil : tOK [] := ⟨Nat.zero_le _, fun c hc => absurd hc List.not_mem_nil⟩
theorem Md.rd (h : Md z S W so ss H N D nm tp) (hok : Ok n S W so H N D nm tp) (hz : sR z') (hl : ∀ a k, 130 ≤ a → a ≠ 133 → gl z' a k = gl z a k) (hs : ∀ a k, 129 ≤ a → ¬ (a = 129 ∧ k ≠ 18 ∧ k ≠ 25) → a ≠ 130 → a ≠ 131 → a ≠ 132 → a ≠ 142 → gi z' a k = gi z a k) (hT : gi z' 129 2 = 0) (hD : mD z' D') : Md z' S W so ss H N D' nm [] := by
  obtain ⟨h1, h2, h3, h4, h5, h6, h7, h8, h9, h10, h11⟩ := h
  exact ⟨hz, h2.fr (fun k => hs _ _ (by omega) (by omega) (by omega) (by omega) (by omega) (by omega)), h3.fr (fun a k q1 q2 => hs _ _ (by omega) (by omega) (by omega) (by omega) (by omega) (by omega)), h4.fr (fun k => hs _ _ (by omega) (by omega) (by omega) (by omega) (by omega) (by omega)), h5.fr (fun k q1 q2 => hs _ _ (by omega) (by omega) (by omega) (by omega) (by omega) (by omega)), h6.fr hok.1 hok.2.2.2.2.2.1 (fun a k q => hs _ _ (by omega) (by omega) (by omega) (by omega) (by omega) (by omega)), h7.fr hok.1 hok.2.2.2.2.2.2.1 (fun a k q => hs _ _ (by omega) (by omega) (by omega) (by omega) (by omega) (by omega)), hD, h9.fr (fun a k q => hs _ _ (by omega) (by omega) (by omega) (by omega) (by omega) (by omega)) (fun k => hl _ _ (by omega) (by omega)), mT_nil hT, fun k hk => (hl _ _ (by omega) (by omega)).trans (h11 k hk)⟩
theorem isY.co (h : isY y) : isY (214 - y) := by rcases h with rfl | rfl <;> simp [isY]
theorem isY.cc (h : isY y) : 214 - (214 - y) = y := by rcases h with rfl | rfl <;> rfl
theorem isY.ne (h : isY y) : y + 4 ≤ 214 - y ∨ (214 - y) + 4 ≤ y := by rcases h with rfl | rfl <;> omega
/-- the class after the tape is gone: the day that it holds -/
theorem Cl.rd0 (h : Cl z t y S W so ss H N D nm tp) (hr : ∀ a k, gr z' a k = gr z a k) (hl : ∀ a k, a ≠ 1 → a < 129 → gl z' a k = gl z a k) (hs : ∀ a k, a < 129 → a ≠ 1 → ¬ (214 - y ≤ a ∧ a ≤ 214 - y + 3) → gi z' a k = gi z a k) (hT : gi z' 1 1 = 0) : Cl z' t y S W so ss H N D nm [] := by
  obtain ⟨g1, g2, g3, g4, g5, g6, g7, g8, g9, g10, g11, g12, g13, g14, g15⟩ := h
  have tl := g2.le
  have yl := g5.le
  have yn := g5.ne
  exact ⟨g1.to hr, g2, (hr _ _).trans g3, (hr _ _).trans g4, g5, (hr _ _).trans g6, (hr _ _).trans g7, g8.fr (fun a k q1 q2 => hs a k (by omega) (by omega) (by omega)), g9.fr (fun a k q1 q2 => hs a k (by omega) (by omega) (by omega)), ⟨(hs _ _ (by decide) (by decide) (by omega)).trans g10.1, (hs _ _ (by decide) (by decide) (by omega)).trans g10.2⟩, g11.fr (fun a k q1 q2 => hs a k (by omega) (by omega) (by omega)), g12.fr (fun a k q => hs a k (by omega) (by omega) (by omega)), g13.fr (fun a k q1 q2 q3 => hs a k (by omega) (by omega) (by omega)), g14.fr (fun a k q1 q2 => hl a k (by omega) (by omega)), cT_nil hT⟩
theorem Cl.rd1 (h : Cl z t y S W so ss H N D nm tp) (hr : ∀ a k, ¬ (a = 0 ∧ (k = 9 ∨ k = 10)) → gr z' a k = gr z a k) (hr9 : gr z' 0 9 = some (214 - y)) (hr10 : gr z' 0 10 = some y) (hl : ∀ a k, a ≠ 1 → a < 129 → gl z' a k = gl z a k) (hs : ∀ a k, a < 129 → a ≠ 1 → ¬ (214 - y ≤ a ∧ a ≤ 214 - y + 3) → gi z' a k = gi z a k) (hT : gi z' 1 1 = 0) (hD : cD z' (214 - y) D') : Cl z' t (214 - y) S W so ss H N D' nm [] := by
  obtain ⟨g1, g2, g3, g4, g5, g6, g7, g8, g9, g10, g11, g12, g13, g14, g15⟩ := h
  have tl := g2.le
  have yl := g5.le
  have yn := g5.ne
  exact ⟨fun a k ha hk => (hr a k (by omega)).trans (g1 a k ha hk), g2, (hr _ _ (by omega)).trans g3, (hr _ _ (by omega)).trans g4, g5.co, hr9, hr10.trans (by rw [g5.cc]), g8.fr (fun a k q1 q2 => hs a k (by omega) (by omega) (by omega)), g9.fr (fun a k q1 q2 => hs a k (by omega) (by omega) (by omega)), ⟨(hs _ _ (by decide) (by decide) (by omega)).trans g10.1, (hs _ _ (by decide) (by decide) (by omega)).trans g10.2⟩, g11.fr (fun a k q1 q2 => hs a k (by omega) (by omega) (by omega)), g12.fr (fun a k q => hs a k (by omega) (by omega) (by omega)), hD, g14.fr (fun a k q1 q2 => hl a k (by omega) (by omega)), cT_nil hT⟩
theorem Ok.rd (h : Ok n S W so H N D nm tp) (hD : dOK S D') : Ok (n + 1) S W so H N D' nm [] := by
  obtain ⟨h1, h2, h3, h4, h5, h6, h7, h8, h9, h10⟩ := h.mono (Nat.le_succ n)
  exact ⟨h1, h2, h3, h4, h5, h6, h7, hD, h9, tOK_nil⟩
/-- the model's part, from a state in which the class is done -/
theorem m_qday {R : Int32 → gS → Prop} (hm : Md z S W so ss H N D nm tp) (hok : Ok n S W so H N D nm tp) (h1 : (dLp tp S nm 1000 0 []).1 = 0 → ∀ z', Md z' S W so ss H N (dLp tp S nm 1000 0 []).2.2 nm [] → kpC z z' → R 0 z') (h2 : (dLp tp S nm 1000 0 []).1 ≠ 0 → ∀ z', Md z' S W so ss H N D nm [] → kpC z z' → R (nI (kfl tp (dLp tp S nm 1000 0 []).1 (dLp tp S nm 1000 0 []).2.1)) z') : wX12_day 148 gSH 129 z R := by
  obtain ⟨m1, m2, m3, m4, m5, m6, m7, m8, m9, m10, m11⟩ := id hm
  have htok := hok.2.2.2.2.2.2.2.2.2
  refine ⟨mO, fun z2 e2 => ?_⟩
  have hz2 : sR z2 := by rw [e2]; exact m1.to (fun _ _ => rfl)
  have e2g : ∀ a k, ¬ (a = 129 ∧ k = 0) → gi z2 a k = gi z a k := fun a k q => by rw [e2, gi_si, if_neg q]
  have e2l : ∀ a k, gl z2 a k = gl z a k := fun a k => by rw [e2]; rfl
  refine m_cutAll hz2 (m10.fr (fun a k q => e2g a k (by omega))) htok (fun z4 nt hK h7 h8 ht f4 => ?_)
  have hz4 := f4.sR hz2
  have e4g : ∀ a k, ¬ aCT a k → ¬ (a = 129 ∧ k = 0) → gi z4 a k = gi z a k := fun a k q1 q2 => (f4.1 a k q1).trans (e2g a k q2)
  have e4l : ∀ a k, a ≠ 133 → gl z4 a k = gl z a k := fun a k q => (f4.2.1 a k q).trans (e2l a k)
  have e4r : ∀ a k, gr z4 a k = gr z a k := fun a k => (f4.2.2 a k).trans (by rw [e2]; rfl)
  have hW4 : mWd z4 := m11.fr (fun k => e4l _ _ (by decide))
  have hN4 : mNm z4 nm := m9.fr (fun a k q => e4g a k (by unfold aCT; omega) (by omega)) (fun k => e4l _ _ (by decide))
  refine m_day hz4 hK hW4 htok hok.1 hok.2.2.2.2.2.2.2.2.1 hN4 h7 h8 (fun q z' hD f => ?_) (fun q z' f => ?_)
  · refine h1 q z' (hm.rd hok (f.sR hz4) (fun a k q1 q2 => (f.2.1 a k).trans (e4l a k q2)) (fun a k q1 q2 q3 q4 q5 q6 => (f.1 a k (by unfold aDM; omega)).trans (e4g a k (by unfold aCT; omega) (by omega))) ((f.1 _ _ (by unfold aDM; omega)).trans ht) hD) ⟨fun a k q => (f.1 a k (by unfold aDM; omega)).trans (e4g a k (by unfold aCT; omega) (by omega)), fun a k q => (f.2.1 a k).trans (e4l a k (by omega)), fun a k => (f.2.2 a k).trans (e4r a k)⟩
  · refine h2 q z' (hm.rd hok (f.sR hz4) (fun a k q1 q2 => (f.2.1 a k).trans (e4l a k q2)) (fun a k q1 q2 q3 q4 q5 q6 => (f.1 a k (by unfold aDM; omega)).trans (e4g a k (by unfold aCT; omega) (by omega))) ((f.1 _ _ (by unfold aDM; omega)).trans ht) ?_) ⟨fun a k q => (f.1 a k (by unfold aDM; omega)).trans (e4g a k (by unfold aCT; omega) (by omega)), fun a k q => (f.2.1 a k).trans (e4l a k (by omega)), fun a k => (f.2.2 a k).trans (e4r a k)⟩
    have hdl := hok.2.2.2.2.2.2.2.1.1
    refine ⟨((f.1 _ _ (by unfold aDM; omega)).trans (e4g _ _ (by unfold aCT; omega) (by omega))).trans m8.1, fun i hi => ?_⟩
    rw [f.1 _ _ (by unfold aDM; omega), e4g _ _ (by unfold aCT; omega) (by omega), f.1 _ _ (by unfold aDM; omega), e4g _ _ (by unfold aCT; omega) (by omega), f.1 _ _ (by unfold aDM; omega), e4g _ _ (by unfold aCT; omega) (by omega)]
    exact m8.2 i hi
end RQ
theorem q_day : oDay := by
  intro z n Q h hn hQ
  obtain ⟨t, y, S, W, so, ss, H, N, D, nm, tp, hc, hm, hok⟩ := h
  obtain ⟨g1, g2, g3, g4, g5, g6, g7, g8, g9, g10, g11, g12, g13, g14, g15⟩ := id hc
  have tl := g2.le
  have yl := g5.le
  have yn := g5.ne
  have htok := hok.2.2.2.2.2.2.2.2.2
  obtain ⟨nt, hnt⟩ := tK_ex htok.1
  have hdk : dOK S [] := ⟨Nat.zero_le _, fun l hl => absurd hl List.not_mem_nil⟩
  have hdl := dLp_ok (S := S) (nm := nm) hnt 1000 0 [] (Nat.zero_le _) hdk
  refine ⟨gO, _, gR0 g1, _, g3, _, g7, c_day g1 g15 htok hnt g2 g5.co hok.1 hok.2.2.2.2.2.2.2.2.1 g8 g14 (fun q z6 f6 hD6 => ?_) (fun q z6 f6 h8 => ?_)⟩
  · refine ⟨_, gR0 (f6.sR g1), tpO, tpO, fun z9 e9 => ?_⟩
    dsimp only
    rw [if_neg (by decide)]
    have e9g : ∀ a k, ¬ (a = 1 ∧ k = 1) → gi z9 a k = gi z6 a k := fun a k q => by rw [e9, gi_si, if_neg q]
    have e9r : ∀ a k, gr z9 a k = gr z a k := fun a k => by rw [e9]; exact f6.2.2 a k
    refine ⟨_, (e9r 0 9).trans g6, _, (e9r 0 10).trans g7, fun z13 e13 z14 e14 => ?_⟩
    have eg : ∀ a k, ¬ aDC (214 - y) a k → ¬ (a = 1 ∧ k = 1) → gi z14 a k = gi z a k := fun a k q1 q2 => by
      rw [e14, gi_sr, e13, gi_sr, e9g a k q2, f6.1 a k q1]
    have el : ∀ a k, a ≠ 1 → gl z14 a k = gl z a k := fun a k q1 => by
      rw [e14, gl_sr, e13, gl_sr, e9, gl_si, f6.2.1 a k q1]
    have er : ∀ a k, ¬ (a = 0 ∧ (k = 9 ∨ k = 10)) → gr z14 a k = gr z a k := fun a k q1 => by
      rw [e14, gr_sr, if_neg (by omega), e13, gr_sr, if_neg (by omega), e9r]
    have hc14 : Cl z14 t (214 - y) S W so ss H N (dLp tp S nm 1000 0 []).2.2 nm [] := by
      refine hc.rd1 er ?_ ?_ (fun a k q1 q2 => el a k q1) (fun a k q1 q2 q3 => eg a k (by unfold aDC; omega) (by omega)) ?_ ⟨?_, fun i hi => ?_⟩
      · rw [e14, gr_sr, if_neg (by omega), e13, gr_sr, if_pos ⟨rfl, rfl⟩]
      · rw [e14, gr_sr, if_pos ⟨rfl, rfl⟩]
      · rw [e14, gi_sr, e13, gi_sr, e9, gi_si, if_pos ⟨rfl, rfl⟩]
      · rw [e14, gi_sr, e13, gi_sr, e9g _ _ (by omega)]; exact hD6.1
      · rw [e14, gi_sr, gi_sr, gi_sr, e13, gi_sr, gi_sr, gi_sr, e9g _ _ (by omega), e9g _ _ (by omega), e9g _ _ (by omega)]; exact hD6.2 i hi
    have hm14 : Md z14 S W so ss H N D nm tp := hm.fr hok hc14.1 ⟨fun a k q => eg a k (by unfold aDC; omega) (by omega), fun a k q => el a k (by omega)⟩
    refine m_qday hm14 hok (fun _ z' hm' hkp => ?_) (fun r => absurd q r)
    exact hQ 0 z' (RLq.mk (hc14.fr hkp) hm' (hok.rd (hdl.2 q)))
  · refine ⟨_, gR0 (f6.sR g1), tpO, tpO, fun z9 e9 => ?_⟩
    dsimp only
    rw [if_pos rfl]
    have e9r : ∀ a k, gr z9 a k = gr z a k := fun a k => by rw [e9]; exact f6.2.2 a k
    have eg : ∀ a k, ¬ aDC (214 - y) a k → ¬ (a = 1 ∧ k = 1) → gi z9 a k = gi z a k := fun a k q1 q2 => by
      rw [e9, gi_si, if_neg q2, f6.1 a k q1]
    have el : ∀ a k, a ≠ 1 → gl z9 a k = gl z a k := fun a k q1 => by
      rw [e9, gl_si, f6.2.1 a k q1]
    have hc9 : Cl z9 t y S W so ss H N D nm [] := hc.rd0 e9r (fun a k q1 q2 => el a k q1) (fun a k q1 q2 q3 => eg a k (by unfold aDC; omega) (by omega)) (by rw [e9, gi_si, if_pos ⟨rfl, rfl⟩])
    have e98 : gi z9 1 8 = nI (kfl tp (dLp tp S nm 1000 0 []).1 (dLp tp S nm 1000 0 []).2.1) := by rw [e9, gi_si, if_neg (by omega), h8]
    refine ⟨_, gR0 hc9.1, tpO, ?_⟩
    rw [e98]
    have hm9 : Md z9 S W so ss H N D nm tp := hm.fr hok hc9.1 ⟨fun a k q => eg a k (by unfold aDC; omega) (by omega), fun a k q => el a k (by omega)⟩
    refine m_qday hm9 hok (fun r => absurd r q) (fun _ z' hm' hkp => ?_)
    exact hQ _ z' (RLq.mk (hc9.fr hkp) hm' (hok.rd hok.2.2.2.2.2.2.2.1))
