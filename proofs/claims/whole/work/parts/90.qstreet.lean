/-! ===== a street is told ===== -/
section RQ
variable {z z' : gS} {t y n : Nat} {S S' : sS} {W : sW} {so ss : Nat → Bool} {H : List sW} {N : sNo} {D D' : List sL} {nm nm' : sNm} {tp : List Nat}
theorem isS.co (h : isS t) : isS (171 - t) := by rcases h with rfl | rfl <;> simp [isS]
theorem isS.cc (h : isS t) : 171 - (171 - t) = t := by rcases h with rfl | rfl <;> rfl
theorem isS.ne (h : isS t) : t + 13 ≤ 171 - t ∨ (171 - t) + 13 ≤ t := by rcases h with rfl | rfl <;> omega
/-- the class, its street not read -/
theorem Cl.rs0 (h : Cl z t y S W so ss H N D nm tp) (hr : ∀ a k, gr z' a k = gr z a k) (hl : ∀ a k, a ≠ 1 → ¬ (171 - t ≤ a ∧ a ≤ 171 - t + 12) → a < 129 → gl z' a k = gl z a k) (hs : ∀ a k, a < 129 → a ≠ 1 → ¬ (171 - t ≤ a ∧ a ≤ 171 - t + 12) → gi z' a k = gi z a k) (hT : gi z' 1 1 = 0) : Cl z' t y S W so ss H N D nm [] := by
  obtain ⟨g1, g2, g3, g4, g5, g6, g7, g8, g9, g10, g11, g12, g13, g14, g15⟩ := h
  have tl := g2.le
  have tn := g2.ne
  have yl := g5.le
  have cl := g2.co.le
  exact ⟨g1.to hr, g2, (hr _ _).trans g3, (hr _ _).trans g4, g5, (hr _ _).trans g6, (hr _ _).trans g7, g8.fr (fun a k q1 q2 => hs a k (by omega) (by omega) (by omega)), g9.fr (fun a k q1 q2 => hs a k (by omega) (by omega) (by omega)), ⟨(hs _ _ (by decide) (by decide) (by omega)).trans g10.1, (hs _ _ (by decide) (by decide) (by omega)).trans g10.2⟩, g11.fr (fun a k q1 q2 => hs a k (by omega) (by omega) (by omega)), g12.fr (fun a k q => hs a k (by omega) (by omega) (by omega)), g13.fr (fun a k q1 q2 q3 => hs a k (by omega) (by omega) (by omega)), g14.fr (fun a k q1 q2 => hl a k (by omega) (by omega) (by omega)), cT_nil hT⟩
theorem Md.rs0 (h : Md z S W so ss H N D nm tp) (hok : Ok n S W so H N D nm tp) (hz : sR z') (hl : ∀ a k, 130 ≤ a → a ≠ 133 → a ≠ 139 → gl z' a k = gl z a k) (hs : ∀ a k, 129 ≤ a → ¬ (a = 129 ∧ k ≠ 18 ∧ k ≠ 25) → a ≠ 130 → a ≠ 131 → a ≠ 132 → ¬ (a = 135 ∧ 60 ≤ k) → ¬ (a = 136 ∧ 1100 ≤ k) → ¬ (a = 137 ∧ 1100 ≤ k) → a ≠ 141 → gi z' a k = gi z a k) (hT : gi z' 129 2 = 0) : Md z' S W so ss H N D nm [] := by
  obtain ⟨h1, h2, h3, h4, h5, h6, h7, h8, h9, h10, h11⟩ := h
  have k1 := hok.1.1
  have k2 := hok.1.2.1
  have k3 := hok.1.2.2.1
  have k4 := hok.1.2.2.2.1
  have kl := hok.1.2.2.2.2.2.2.2.2.2
  have hs' : ∀ a k, 129 ≤ a → a ≠ 129 → a ≠ 130 → a ≠ 131 → a ≠ 132 → a ≠ 135 → a ≠ 136 → a ≠ 137 → a ≠ 141 → gi z' a k = gi z a k := fun a k q0 q1 q2 q3 q4 q5 q6 q7 q8 => hs a k q0 (by omega) q2 q3 q4 (by omega) (by omega) (by omega) q8
  have e135 : ∀ k, k < 60 → gi z' 135 k = gi z 135 k := fun k hk => hs _ _ (by omega) (by omega) (by omega) (by omega) (by omega) (by omega) (by omega) (by omega) (by omega)
  refine ⟨hz, ?_, ?_, h4.fr (fun k => hs' _ _ (by omega) (by omega) (by omega) (by omega) (by omega) (by omega) (by omega) (by omega) (by omega)), h5.fr (fun k q1 q2 => hs' _ _ (by omega) (by omega) (by omega) (by omega) (by omega) (by omega) (by omega) (by omega) (by omega)), h6.fr hok.1 hok.2.2.2.2.2.1 (fun a k q => hs a k (by omega) (by omega) (by omega) (by omega) (by omega) (by omega) (by omega) (by omega) (by omega)), h7.fr hok.1 hok.2.2.2.2.2.2.1 (fun a k q => hs' _ _ (by omega) (by omega) (by omega) (by omega) (by omega) (by omega) (by omega) (by omega) (by omega)), h8.fr (fun k => hs' _ _ (by omega) (by omega) (by omega) (by omega) (by omega) (by omega) (by omega) (by omega) (by omega)), h9.fr (fun a k q => hs a k (by omega) (by omega) (by omega) (by omega) (by omega) (by omega) (by omega) (by omega) (by omega)) (fun k => hl _ _ (by omega) (by omega) (by omega)), mT_nil hT, fun k hk => (hl _ _ (by omega) (by omega) (by omega)).trans (h11 k hk)⟩
  · obtain ⟨b1, b2, b3, b4, b5, b6, b7, b8, b9, b10, b11⟩ := h2
    exact ⟨(e135 _ (by omega)).trans b1, (e135 _ (by omega)).trans b2, (e135 _ (by omega)).trans b3, (e135 _ (by omega)).trans b4, fun p hp => (e135 _ (by omega)).trans (b5 p hp), fun p hp => (e135 _ (by omega)).trans (b6 p hp), fun p hp => (e135 _ (by omega)).trans (b7 p hp), fun p hp => (e135 _ (by omega)).trans (b8 p hp), fun p hp => (e135 _ (by omega)).trans (b9 p hp), fun p hp => (e135 _ (by omega)).trans (b10 p hp), fun q => (e135 _ (by omega)).trans (b11 q)⟩
  · obtain ⟨b1, b2, b3⟩ := h3
    refine ⟨(e135 _ (by omega)).trans b1, fun i hi => ?_, fun q => (hs _ _ (by omega) (by omega) (by omega) (by omega) (by omega) (by omega) (by omega) (by omega) (by omega)).trans (b3 q)⟩
    rw [hs _ _ (by omega) (by omega) (by omega) (by omega) (by omega) (by omega) (by omega) (by omega) (by omega), hs _ _ (by omega) (by omega) (by omega) (by omega) (by omega) (by omega) (by omega) (by omega) (by omega)]
    exact b2 i hi
/-- the model's part -/
theorem m_qstreet {R : Int32 → gS → Prop} (hm : Md z S W so ss H N D nm tp) (hok : Ok n S W so H N D nm tp) (h1 : (spLp tp 1000 0 S00 nm0).1 = 0 → ∀ z', Md z' (spLp tp 1000 0 S00 nm0).2.2.1 (bgW (spLp tp 1000 0 S00 nm0).2.2.1) (fun _ => false) (fun _ => false) [] (fun _ => none) [] (spLp tp 1000 0 S00 nm0).2.2.2 [] → kpC z z' → R 0 z') (h2 : (spLp tp 1000 0 S00 nm0).1 ≠ 0 → ∀ z', Md z' S W so ss H N D nm [] → kpC z z' → R (nI (kfl tp (spLp tp 1000 0 S00 nm0).1 (spLp tp 1000 0 S00 nm0).2.1)) z') : wX12_street 148 gSH 129 z R := by
  obtain ⟨m1, m2, m3, m4, m5, m6, m7, m8, m9, m10, m11⟩ := id hm
  have htok := hok.2.2.2.2.2.2.2.2.2
  refine ⟨mO, fun z2 e2 => ?_⟩
  have hz2 : sR z2 := by rw [e2]; exact m1.to (fun _ _ => rfl)
  have e2g : ∀ a k, ¬ (a = 129 ∧ k = 0) → gi z2 a k = gi z a k := fun a k q => by rw [e2, gi_si, if_neg q]
  have e2l : ∀ a k, gl z2 a k = gl z a k := fun a k => by rw [e2]; rfl
  refine m_cutAll hz2 (m10.fr (fun a k q => e2g a k (by omega))) htok (fun z4 nt hK h7 h8 ht f4 z5 e5 z6 e6 z7 e7 => ?_)
  have hnt : tK tp nt := ⟨hK.1, hK.2.1, hK.2.2.1⟩
  have hz7 : sR z7 := by rw [e7, e6, e5]; exact (f4.sR hz2).to (fun _ _ => rfl)
  refine m_stands (o := 60) hz7 (Or.inr rfl) (fun z9 g9 f9 => ?_)
  have hz9 := f9.sR hz7
  have e7g : ∀ a k, ¬ (a = 129 ∧ (k = 13 ∨ k = 19 ∨ k = 20)) → gi z7 a k = gi z4 a k := fun a k q => by rw [e7, gi_si, if_neg (by omega), e6, gi_si, if_neg (by omega), e5, gi_si, if_neg (by omega)]
  have e9g : ∀ a k, ¬ (a = 129 ∧ (k = 13 ∨ k = 19 ∨ k = 20)) → ¬ (a = 135 ∧ 60 ≤ k) → ¬ aCT a k → ¬ (a = 129 ∧ k = 0) → gi z9 a k = gi z a k := fun a k q1 q2 q3 q4 => by
    rw [f9.1 _ _ (by omega), e7g _ _ q1, f4.1 _ _ q3, e2g _ _ q4]
  have e9l4 : ∀ a k, gl z9 a k = gl z4 a k := fun a k => by rw [f9.2.1, e7, gl_si, e6, gl_si, e5, gl_si]
  have e9l : ∀ a k, a ≠ 133 → gl z9 a k = gl z a k := fun a k q => by rw [e9l4, f4.2.1 _ _ q, e2l]
  have e9r : ∀ a k, gr z9 a k = gr z a k := fun a k => by rw [f9.2.2, e7, gr_si, e6, gr_si, e5, gr_si, f4.2.2, e2]; rfl
  have hK9 : mK z9 tp nt := hK.fr (fun a k q => by rw [f9.1 _ _ (by omega), e7g _ _ (by omega)]) (fun k => e9l4 _ _)
  have hW9 : mWd z9 := m11.fr (fun k => e9l _ _ (by decide))
  have hT9 : gi z9 129 2 = 0 := by rw [f9.1 _ _ (by omega), e7g _ _ (by omega)]; exact ht
  have hJS : TS (JS z9 (sPA S00) (sPE S00) (sDE S00) S00 nm0) z9 0 := by
    refine ⟨⟨Fg.rf, ⟨g9 0 (by decide), g9 1 (by decide), g9 2 (by decide), g9 3 (by decide), fun p hp => absurd hp (Nat.not_lt_zero _), fun p hp => absurd hp (Nat.not_lt_zero _), fun p hp => absurd hp (Nat.not_lt_zero _), fun p hp => absurd hp (Nat.not_lt_zero _), fun p hp => absurd hp (Nat.not_lt_zero _), fun p hp => absurd hp (Nat.not_lt_zero _), fun _ => g9 33 (by decide)⟩, ⟨g9 4 (by decide), fun p hp => absurd hp (Nat.not_lt_zero _), fun q => absurd rfl q, ?_⟩, ?_, ⟨?_, fun p hp => absurd hp (Nat.not_lt_zero _)⟩⟩, ?_, ?_⟩
    · rw [f9.1 _ _ (by omega), e7, gi_si, if_neg (by omega), e6, gi_si, if_neg (by omega), e5, gi_si, if_pos ⟨rfl, rfl⟩]; rfl
    · rw [f9.1 _ _ (by omega), e7, gi_si, if_pos ⟨rfl, rfl⟩]; rfl
    · rw [f9.1 _ _ (by omega), e7, gi_si, if_neg (by omega), e6, gi_si, if_pos ⟨rfl, rfl⟩]; rfl
    · rw [f9.1 _ _ (by omega), e7g _ _ (by omega)]; exact h7
    · rw [f9.1 _ _ (by omega), e7g _ _ (by omega)]; exact h8
  refine ⟨1002, m_sLp hz9 hK9 hW9 htok hnt 1000 z9 0 S00 nm0 (by decide) hJS (Nat.zero_le _) pOK_0 (fun q z' k' => ?_) (fun q z' k' => ?_)⟩
  · have hp := spLp_ok hnt 1000 0 S00 nm0 (Nat.zero_le _) pOK_0 q
    refine m_tail (k'.1.sR hz9) hp k' (fun z'' v1 v2 v3 v4 v5 v6 v7 v8 f' => h1 q z'' ?_ ?_)
    · have hz'' := f'.sR (k'.1.sR hz9)
      refine ⟨hz'', v1, v2, v4, v5, ⟨v7, fun j hj => absurd hj (Nat.not_lt_zero _)⟩, fun m hm => ⟨v8 m hm, fun V a b e => by cases e⟩, v6, v3, mT_nil ?_, fun k hk => ?_⟩
      · rw [f'.1 _ _ (by unfold aTL; omega), k'.1.1 _ _ (by unfold aSM; omega)]; exact hT9
      · rw [f'.2.1 _ _ (by unfold bTL; omega), k'.1.2.1 _ _ (by unfold bSM; omega)]; exact hW9 k hk
    · exact ⟨fun a k q => by rw [f'.1 _ _ (by unfold aTL; omega), k'.1.1 _ _ (by unfold aSM; omega)]; exact e9g a k (by omega) (by omega) (by unfold aCT; omega) (by omega), fun a k q => by rw [f'.2.1 _ _ (by unfold bTL; omega), k'.1.2.1 _ _ (by unfold bSM; omega)]; exact e9l a k (by omega), fun a k => by rw [f'.2.2, k'.1.2.2]; exact e9r a k⟩
  · refine h2 q z' (hm.rs0 hok (Fg.sR k' hz9) (fun a k q1 q2 q3 => ?_) (fun a k q1 q2 q3 q4 q5 q6 q7 q8 q9 => ?_) ?_) ⟨fun a k q => by rw [k'.1 _ _ (by unfold aSM; omega)]; exact e9g a k (by omega) (by omega) (by unfold aCT; omega) (by omega), fun a k q => by rw [k'.2.1 _ _ (by unfold bSM; omega)]; exact e9l a k (by omega), fun a k => by rw [k'.2.2]; exact e9r a k⟩
    · rw [k'.2.1 _ _ q3]; exact e9l a k q2
    · rw [k'.1 _ _ (by unfold aSM; omega)]; exact e9g a k (by omega) q6 (by unfold aCT; omega) (by omega)
    · rw [k'.1 _ _ (by unfold aSM; omega)]; exact hT9
end RQ
theorem q_street : oStreet := by
  intro z n Q h hn hQ
  obtain ⟨t, y, S, W, so, ss, H, N, D, nm, tp, hc, hm, hok⟩ := h
  obtain ⟨g1, g2, g3, g4, g5, g6, g7, g8, g9, g10, g11, g12, g13, g14, g15⟩ := id hc
  have tl := g2.le
  have cl := g2.co.le
  have yl := g5.le
  have tn := g2.ne
  have htok := hok.2.2.2.2.2.2.2.2.2
  obtain ⟨nt, hnt⟩ := tK_ex htok.1
  have hpp := spLp_ok hnt 1000 0 S00 nm0 (Nat.zero_le _) pOK_0
  refine ⟨gO, _, gR0 g1, _, g4, c_sreads g1 g15 htok hnt g2.co (fun q z5 f5 hS5 hN5 => ?_) (fun q z5 f5 => ?_)⟩
  · obtain ⟨pk1, pk2, pk3, pk4⟩ := hpp q
    refine ⟨_, gR0 (f5.sR g1), tpO, tpO, fun z8 e8 => ?_⟩
    dsimp only
    rw [if_neg (by decide)]
    have e8r : ∀ a k, gr z8 a k = gr z a k := fun a k => by rw [e8]; exact f5.2.2 a k
    refine ⟨_, (e8r 0 7).trans g3, _, (e8r 0 8).trans g4, fun z12 e12 z13 e13 => ?_⟩
    have er : ∀ a k, ¬ (a = 0 ∧ (k = 7 ∨ k = 8)) → gr z13 a k = gr z a k := fun a k q1 => by
      rw [e13, gr_sr, if_neg (by omega), e12, gr_sr, if_neg (by omega), e8r]
    have er7 : gr z13 0 7 = some (171 - t) := by rw [e13, gr_sr, if_neg (by omega), e12, gr_sr, if_pos ⟨rfl, rfl⟩]
    have er8 : gr z13 0 8 = some t := by rw [e13, gr_sr, if_pos ⟨rfl, rfl⟩]
    have hz13 : sR z13 := fun a k ha hk => (er a k (by omega)).trans (g1 a k ha hk)
    have eg13 : ∀ a k, ¬ (a = 1 ∧ k = 1) → gi z13 a k = gi z5 a k := fun a k q1 => by rw [e13, gi_sr, e12, gi_sr, e8, gi_si, if_neg q1]
    have el13 : ∀ a k, gl z13 a k = gl z5 a k := fun a k => by rw [e13, gl_sr, e12, gl_sr, e8, gl_si]
    refine ⟨_, gR1 hz13, _, er7, wO w3, c_begin hz13 g2.co w3 pk1 (hS5.fr (fun a k q1 q2 => eg13 a k (by omega))) (fun z17 w17 f17 => ?_)⟩
    have hz17 := f17.sR hz13
    refine ⟨_, gR1 hz17, wO w3, wO w3, fun z19 e19 z21 e21 => ?_⟩
    have hz21 : sR z21 := by rw [e21, e19]; exact hz17.to (fun _ _ => rfl)
    refine ⟨_, gR3 hz21, ⟨by decide, by decide +kernel⟩, ⟨by decide, by decide +kernel⟩, fun z25 e25 => ?_⟩
    have er25 : ∀ a k, gr z25 a k = gr z13 a k := fun a k => by rw [e25, gr_si, e21, gr_si, e19, gr_si]; exact f17.2.2 a k
    have er9 : gr z25 0 9 = some y := by rw [er25, er _ _ (by omega)]; exact g6
    refine ⟨_, er9, yO g5, yO g5, fun z29 e29 z31 e31 => ?_⟩
    have eg : ∀ a k, ¬ (a = 1) → ¬ (171 - t ≤ a ∧ a ≤ 171 - t + 12) → ¬ wrC 3 a k → ¬ (a = 3) → ¬ (a = 11 ∧ k = 1) → ¬ (a = y ∧ k = 3) → ¬ (a = 0 ∧ k = 6) → gi z31 a k = gi z a k := fun a k q1 q2 q3 q4 q5 q6 q7 => by
      rw [e31, gi_si, if_neg q7, e29, gi_si, if_neg q6, e25, gi_si, if_neg q5, e21, gi_si, if_neg (by omega), e19, gi_si, if_neg (by omega), f17.1 _ _ q3, eg13 _ _ (by omega), f5.1 _ _ (by unfold aSC; omega)]
    have el : ∀ a k, gl z31 a k = gl z5 a k := fun a k => by
      rw [e31, gl_si, e29, gl_si, e25, gl_si, e21, gl_si, e19, gl_si, f17.2.1, el13]
    have er31 : ∀ a k, gr z31 a k = gr z13 a k := fun a k => by rw [e31, gr_si, e29, gr_si]; exact er25 a k
    have hz31 : sR z31 := hz13.to er31
    have e17 : ∀ a k, ¬ (a = 0 ∧ k = 6) → ¬ (a = y ∧ k = 3) → ¬ (a = 11 ∧ k = 1) → ¬ (a = 3 ∧ (k = 3 ∨ k = 4)) → gi z31 a k = gi z17 a k := fun a k q1 q2 q3 q4 => by
      rw [e31, gi_si, if_neg q1, e29, gi_si, if_neg q2, e25, gi_si, if_neg q3, e21, gi_si, if_neg (by omega), e19, gi_si, if_neg (by omega)]
    have hc31 : Cl z31 (171 - t) y (spLp tp 1000 0 S00 nm0).2.2.1 (bgW (spLp tp 1000 0 S00 nm0).2.2.1) (fun _ => false) (fun _ => false) [] (fun _ => none) [] (spLp tp 1000 0 S00 nm0).2.2.2 [] := by
      refine ⟨hz31, g2.co, (er31 0 7).trans er7, (er31 0 8).trans (by rw [er8, g2.cc]), g5, (er31 0 9).trans ((er _ _ (by omega)).trans g6), (er31 0 10).trans ((er _ _ (by omega)).trans g7), ?_, ?_, ⟨?_, ?_⟩, ?_, ?_, ?_, ?_, ?_⟩
      · exact w17.2.2.2.2.2.2.1.fr (fun a k q1 q2 => e17 a k (by omega) (by omega) (by omega) (by omega))
      · obtain ⟨c1, c2, c3, c4, c5, c6⟩ := w17.2.2.2.2.2.2.2
        exact ⟨(e17 _ _ (by omega) (by omega) (by omega) (by omega)).trans c1, (e17 _ _ (by omega) (by omega) (by omega) (by omega)).trans c2, (e17 _ _ (by omega) (by omega) (by omega) (by omega)).trans c3, fun p hp => (e17 _ _ (by omega) (by omega) (by omega) (by omega)).trans (c4 p hp), fun p hp => (e17 _ _ (by omega) (by omega) (by omega) (by omega)).trans (c5 p hp), fun p hp i hi => (e17 _ _ (by omega) (by omega) (by omega) (by omega)).trans (c6 p hp i hi)⟩
      · rw [e31, gi_si, if_neg (by omega), e29, gi_si, if_neg (by omega), e25, gi_si, if_neg (by omega), e21, gi_si, if_neg (by omega), e19, gi_si, if_pos ⟨rfl, rfl⟩, bs_f0]; rfl
      · rw [e31, gi_si, if_neg (by omega), e29, gi_si, if_neg (by omega), e25, gi_si, if_neg (by omega), e21, gi_si, if_pos ⟨rfl, rfl⟩, bs_f0]; rfl
      · obtain ⟨c1, nx, c2, c3, c4⟩ := g11
        refine ⟨?_, nx, c2, ?_, fun j hj => absurd hj (Nat.not_lt_zero _)⟩
        · rw [e31, gi_si, if_neg (by omega), e29, gi_si, if_neg (by omega), e25, gi_si, if_pos ⟨rfl, rfl⟩]; rfl
        · rw [eg _ _ (by omega) (by omega) (by unfold wrC; omega) (by omega) (by omega) (by omega) (by omega)]; exact c3
      · refine ⟨?_, fun m hm V a b e => by cases e⟩
        rw [e31, gi_si, if_pos ⟨rfl, rfl⟩]
        show 0 = nI (bs 4 (fun m => false))
        rw [bs_f0]; rfl
      · refine ⟨?_, fun i hi => absurd hi (Nat.not_lt_zero _)⟩
        rw [e31, gi_si, if_neg (by omega), e29, gi_si, if_pos ⟨rfl, rfl⟩]; rfl
      · exact hN5.fr (fun a k q1 q2 => el a k)
      · apply cT_nil
        rw [e17 _ _ (by omega) (by omega) (by omega) (by omega), f17.1 _ _ (by unfold wrC; omega), e13, gi_sr, e12, gi_sr, e8, gi_si, if_pos ⟨rfl, rfl⟩]
    have hm31 : Md z31 S W so ss H N D nm tp := hm.fr hok hz31 ⟨fun a k q => eg a k (by omega) (by omega) (by unfold wrC; omega) (by omega) (by omega) (by omega) (by omega), fun a k q => (el a k).trans (f5.2.1 _ _ (by unfold bSC; omega))⟩
    refine m_qstreet hm31 hok (fun _ z' hm' hkp => ?_) (fun r => absurd q r)
    refine hQ 0 z' (RLq.mk (hc31.fr hkp) hm' ⟨pk1, pk2, bgW_ok pk1, Nat.zero_le _, fun g _ => rfl, ⟨Nat.zero_le _, fun V hV => absurd hV List.not_mem_nil⟩, (fun m hm V a b e => by cases e), ⟨Nat.zero_le _, fun l hl => absurd hl List.not_mem_nil⟩, pk3, tOK_nil⟩)
  · refine ⟨_, gR0 (f5.1.sR g1), tpO, tpO, fun z9 e9 => ?_⟩
    dsimp only
    rw [if_pos rfl]
    have e9r : ∀ a k, gr z9 a k = gr z a k := fun a k => by rw [e9]; exact f5.1.2.2 a k
    have eg : ∀ a k, ¬ aSC (171 - t) a k → ¬ (a = 1 ∧ k = 1) → gi z9 a k = gi z a k := fun a k q1 q2 => by
      rw [e9, gi_si, if_neg q2, f5.1.1 a k q1]
    have el : ∀ a k, ¬ bSC (171 - t) a → gl z9 a k = gl z a k := fun a k q1 => by
      rw [e9, gl_si, f5.1.2.1 a k q1]
    have hc9 : Cl z9 t y S W so ss H N D nm [] := hc.rs0 e9r (fun a k q1 q2 q3 => el a k (by unfold bSC; omega)) (fun a k q1 q2 q3 => eg a k (by unfold aSC; omega) (by omega)) (by rw [e9, gi_si, if_pos ⟨rfl, rfl⟩])
    have e98 : gi z9 1 8 = nI (kfl tp (spLp tp 1000 0 S00 nm0).1 (spLp tp 1000 0 S00 nm0).2.1) := by rw [e9, gi_si, if_neg (by omega)]; exact f5.2
    refine ⟨_, gR0 hc9.1, tpO, ?_⟩
    rw [e98]
    have hm9 : Md z9 S W so ss H N D nm tp := hm.fr hok hc9.1 ⟨fun a k q => eg a k (by unfold aSC; omega) (by omega), fun a k q => el a k (by unfold bSC; omega)⟩
    refine m_qstreet hm9 hok (fun r => absurd r q) (fun _ z' hm' hkp => ?_)
    exact hQ _ z' (RLq.mk (hc9.fr hkp) hm' (hok.rd hok.2.2.2.2.2.2.2.1))
