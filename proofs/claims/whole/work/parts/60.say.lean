/-! ===== what is said, notches, counts, how long ===== -/
theorem nar_1 : vp_nar .boolean (1 : Int32) = nI 1 := by decide
theorem nar_0 : vp_nar .boolean (0 : Int32) = nI 0 := by decide
section RS
variable {z z' : gS} {t y n : Nat} {S : sS} {W W' : sW} {so ss so' ss' : Nat → Bool} {H H' : List sW} {N : sNo} {D : List sL} {nm : sNm} {tp : List Nat}
theorem Cl.said (h : Cl z t y S W so ss H N D nm tp) (hr : ∀ a k, gr z' a k = gr z a k) (hl : ∀ a k, gl z' a k = gl z a k) (hs : ∀ a k, ¬ (a = 3 ∧ 3 ≤ k) → gi z' a k = gi z a k) (h3 : gi z' 3 3 = nI (bs 6 so')) (h4 : gi z' 3 4 = nI (bs 6 ss')) : Cl z' t y S W so' ss' H N D nm tp := by
  obtain ⟨g1, g2, g3, g4, g5, g6, g7, g8, g9, g10, g11, g12, g13, g14, g15⟩ := h
  have tl := g2.le
  have yl := g5.le
  exact ⟨g1.to hr, g2, (hr _ _).trans g3, (hr _ _).trans g4, g5, (hr _ _).trans g6, (hr _ _).trans g7, g8.fr (fun a k q1 q2 => hs a k (by omega)), g9.fr' (fun a k q => hs a k (by omega)), ⟨h3, h4⟩, g11.fr (fun a k q1 q2 => hs a k (by omega)), g12.fr (fun a k q => hs a k (by omega)), g13.fr (fun a k q1 q2 q3 => hs a k (by omega)), g14.fr (fun a k q1 q2 => hl a k), g15.fr (fun a k q => hs a k (by omega))⟩
end RS
section RP
variable {z : gS} {n : Nat} {Q : Int32 → Int32 → gS → Prop}
theorem q_say (h : RLq z n) (hn : n < 999) (x y : Int32) (hQ : ∀ r z', RLq z' (n + 1) → Q r r z') : wX11_say 148 gSH 0 x y z (fun r1 z1 => wX12_say 148 gSH 129 x y z1 (fun r2 z2 => Q r1 r2 z2)) := by
  have hth := h.th (v := 0)
  obtain ⟨t, yy, S, W, so, ss, H, N, D, nm, tp, hc, hm, hok⟩ := h
  have hcw := hc.cw hok (by omega)
  have hm0 := hm.th hok (v := 0)
  have hmw0 := hm0.mw hok (by omega)
  have ht := hc.2.1
  have hS := hcw.2.2.2.2.2.2.1
  have sok := hok.1
  have k6 := sok.1
  have k5 := sok.2.1
  have k3 := sok.2.2.1
  have hTn := hok.2.2.2.1
  have hsd := hc.2.2.2.2.2.2.2.2.2.1
  refine ⟨gO, t, hc.2.2.1, tO ht, ?_⟩
  rcases ix_of x (n := sPA S) (by omega) with hx | ⟨g, hg, rfl⟩
  · refine c_hasPane_no ht hS hx (if0 ?_)
    refine ⟨mO, fun z0 e0 => ?_⟩; subst e0
    exact m_isPane_no hm0.1 hm0.2.1 hx (if0 (hQ _ _ hth))
  refine c_hasPane_yes ht hS sok hg (if1 ?_)
  refine ⟨_, gR1 hc.1, wO w3, wO w3, fun z2 e2 => ?_⟩
  have hgo : ∀ (v : Nat) (ss' : Nat → Bool) (z4 : gS), (∀ i, i < 6 → ss' i = if i = g then decide (v = 1) else ss i) → v ≤ 1 → z4 = si z2 3 4 (nI (bs 6 ss')) → (oO 148 gSH 129 8 ∧ ∀ z0, z0 = si z4 129 0 0 → wX12_isPane 148 gSH 129 (nI g) z0 (fun r3 z5 => if r3 = 0 then Q 1 0 z5 else ∃ t5, gr z5 129 24 = some t5 ∧ wX12_say_J32 148 gSH (fun r2 z2 => Q 1 r2 z2) (nI v) (60 + nI g) t5 z5)) := by
    intro v ss' z4 hss hv e4
    rw [hsd.1, j_1, bs_setY (by decide) (by omega)] at e2
    have hc4 : Cl z4 t yy S W (fun i => so i || decide (i = g)) ss' H N D nm tp := by
      refine hc.said (fun a k => by rw [e4, e2]; rfl) (fun a k => by rw [e4, e2]; rfl) (fun a k q => ?_) ?_ ?_
      · rw [e4, gi_si, if_neg (by omega), e2, gi_si, if_neg (by omega)]
      · rw [e4, gi_si, if_neg (by omega), e2, gi_si, if_pos ⟨rfl, rfl⟩]
      · rw [e4, gi_si, if_pos ⟨rfl, rfl⟩]
    have hk4 : kpM z z4 := ⟨fun a k q => by rw [e4, gi_si, if_neg (by omega), e2, gi_si, if_neg (by omega)], fun a k q => by rw [e4, e2]; rfl⟩
    have hm4 := (hm.fr hok hc4.1 hk4).th hok (v := 0)
    refine ⟨mO, fun z0 e0 => ?_⟩; subst e0
    refine m_isPane_yes hm4.1 hm4.2.1 sok hg (if1 ⟨_, mR24 hm4.1, mA145, ?_⟩)
    rw [j_60, nI_add, nI_clamp (by omega), mL145]
    refine ⟨vp_in_nI (by omega) (by decide), fun z8 e8 => ?_⟩
    have hf8 : Fr (fun a k => a = 145 ∧ k = 60 + g) (si z4 129 0 0) z8 := by rw [e8]; exact Fr.rf.si ⟨rfl, rfl⟩
    obtain ⟨a1, a2, a3, a4, a5, a6, a7, a8, a9, a10, a11⟩ := hm4
    have hm8 : Md z8 S W (fun i => so i || decide (i = g)) ss' H N D nm tp := by
      refine ⟨hf8.sR a1, a2.fr (fun k => hf8.1 _ _ (by omega)), a3.fr (fun a k q1 q2 => hf8.1 _ _ (by omega)), a4.cp sok hok.2.2.1 (fun k hk => hf8.1 _ _ (by omega)), fun i hi => ?_, a6.fr sok hok.2.2.2.2.2.1 (fun a k q => hf8.1 _ _ (by omega)), a7.fr sok hok.2.2.2.2.2.2.1 (fun a k q => hf8.1 _ _ (by omega)), a8.fr (fun k => hf8.1 _ _ (by omega)), a9.fr (fun a k q => hf8.1 _ _ (by omega)) (fun k => hf8.2.1 _ _), a10.fr (fun a k q => hf8.1 _ _ (by omega)), fun k hk => (hf8.2.1 _ _).trans (a11 k hk)⟩
      show _ = if (so i || decide (i = g)) = true then nI (ss' i).toNat else nN
      rw [e8, gi_si, hss i hi]
      by_cases e : i = g
      · rw [if_pos ⟨rfl, by omega⟩, e, decide_eq_true rfl, Bool.or_true, if_pos rfl, if_pos rfl]
        have : v = 0 ∨ v = 1 := by omega
        rcases this with rfl | rfl <;> rfl
      · rw [if_neg (by omega), decide_eq_false e, Bool.or_false, if_neg e]
        exact a5 i hi
    have hok8 : Ok (n + 1) S W (fun i => so i || decide (i = g)) H N D nm tp := by
      obtain ⟨b1, b2, b3, b4, b5, b6⟩ := hok.mono (Nat.le_succ n)
      refine ⟨b1, b2, b3, b4, fun i hi => ?_, b6⟩
      show (so i || decide (i = g)) = false
      rw [b5 i hi, decide_eq_false (by omega)]
      rfl
    exact hQ _ _ (RLq.mk (hc4.fr ((kpC.si (by decide)).tr (hf8.kpC (fun a k q => by omega)))) hm8 hok8)
  have e24 : gi z2 3 4 = nI (bs 6 ss) := by rw [e2, gi_si, if_neg (by omega)]; exact hsd.2
  by_cases hy : y = 0
  · subst hy
    rw [if_pos rfl]
    refine ⟨wO w3, fun z4 e4 => ?_⟩
    rw [e24, bs_clr (by decide) (by omega)] at e4
    have := hgo 0 _ z4 (fun i hi => by rw [show decide ((0 : Nat) = 1) = false from rfl]) (by decide) e4
    refine ⟨this.1, fun z0 e0 => ?_⟩
    have h2 := this.2 z0 e0
    simp only [if_true]
    exact h2
  · rw [if_neg hy]
    refine ⟨wO w3, fun z4 e4 => ?_⟩
    rw [e24, j_1, bs_setY (by decide) (by omega)] at e4
    have := hgo 1 _ z4 (fun i hi => by
      by_cases e : i = g
      · rw [if_pos e, decide_eq_true e, Bool.or_true]; rfl
      · rw [if_neg e, decide_eq_false e, Bool.or_false]) (by decide) e4
    refine ⟨this.1, fun z0 e0 => ?_⟩
    have h2 := this.2 z0 e0
    simp only [if_neg hy]
    exact h2
theorem q_notch (h : RLq z n) (hn : n < 999) (x y : Int32) (hQ : ∀ r z', RLq z' (n + 1) → Q r r z') : wX11_notch 148 gSH 0 x y z (fun r1 z1 => wX12_notch 148 gSH 129 x y z1 (fun r2 z2 => Q r1 r2 z2)) := by
  have hth := h.th (v := 0)
  obtain ⟨t, yy, S, W, so, ss, H, N, D, nm, tp, hc, hm, hok⟩ := h
  have hcw := hc.cw hok (by omega)
  have hm0 := hm.th hok (v := 0)
  have hmw0 := hm0.mw hok (by omega)
  have ht := hc.2.1
  have hS := hcw.2.2.2.2.2.2.1
  have sok := hok.1
  have k6 := sok.1
  have k5 := sok.2.1
  have k3 := sok.2.2.1
  have hTn := hok.2.2.2.1
  have tl := ht.le
  have yl := hc.2.2.2.2.1.le
  unfold wX11_notch
  rcases rg_of x (a := 0) (b := 3) (by decide) (by decide) with hx | hx | ⟨m, -, hm3, rfl⟩
  · rw [if_pos (show x < 0 from hx)]
    refine ⟨mO, fun z0 e0 => ?_⟩; subst e0
    exact m_within_lo (a := 0) (b := 3) hx (if0 (hQ _ _ hth))
  · rw [if_neg (show ¬ x < 0 by rw [j_0, lt_nlt hx (by decide) (by decide) (by decide)]; exact id), if_neg (show ¬ x < 4 by rw [j_4, lt_nlt hx (by decide) (by decide) (by decide)]; exact id)]
    refine ⟨mO, fun z0 e0 => ?_⟩; subst e0
    exact m_within_hi (a := 0) (b := 3) hx (if0 (hQ _ _ hth))
  have hm4 : m < 4 := by omega
  have hcn := hc.2.2.2.2.2.2.2.2.2.2.2.1
  have hcd := hc.2.2.2.2.2.2.2.2.2.1
  have hmn := hm.2.2.2.2.2.2.1
  rw [if_neg (nI_pos (by omega)), if_pos (show nI m < 4 from nI_lt (b := 4) hm4 (by decide))]
  refine ⟨gO, _, gR4 hc.1, nA, by rw [nLn]; exact vp_in_nI hm4 (by decide), ?_⟩
  rw [nI_clamp (by omega)]
  refine ⟨_, nRk hc.1 hm4, ?_⟩
  by_cases hy : y = 0
  · subst hy
    rw [if_pos rfl]
    refine ⟨_, gR1 hc.1, wO (w_notch hm4), c_copy hc.1 (w_notch hm4) w3 (by omega) (fun z1 hf1 hc1 => ?_)⟩
    have hz1 := hf1.sR hc.1
    refine ⟨_, gR1 hz1, wO w3, wO (w_notch hm4), fun z2 e2 z3 e3 z4 e4 => ?_⟩
    have i33 : gi z1 3 3 = nI (bs 6 so) := (hf1.1 _ _ (by unfold wrC; omega)).trans hcd.1
    rw [i33] at e2
    have i34 : gi z2 3 4 = nI (bs 6 ss) := by rw [e2, gi_si, if_neg (by omega)]; exact (hf1.1 _ _ (by unfold wrC; omega)).trans hcd.2
    rw [i34] at e3
    have i06 : gi z3 0 6 = nI (bs 4 (fun m => (N m).isSome)) := by rw [e3, gi_si, if_neg (by omega), e2, gi_si, if_neg (by omega)]; exact (hf1.1 _ _ (by unfold wrC; omega)).trans hcn.1
    rw [i06, j_1, bs_setY (by decide) (by omega)] at e4
    have hf4 : Fr (fun a k => (113 + 4 * m ≤ a ∧ a ≤ 113 + 4 * m + 3) ∨ (a = 0 ∧ k = 6)) z z4 := by
      rw [e4, e3, e2]
      exact (((hf1.mono (fun a k q => by unfold wrC at q; omega)).si (Or.inl ⟨by omega, by omega⟩)).si (Or.inl ⟨by omega, by omega⟩)).si (Or.inr ⟨rfl, rfl⟩)
    have hc4 : Cl z4 t yy S W so ss H (fun i => if i = m then some (W, so, ss) else N i) D nm tp := by
      obtain ⟨g1, g2, g3, g4, g5, g6, g7, g8, g9, g10, g11, g12, g13, g14, g15⟩ := hc
      refine ⟨hf4.sR g1, g2, (hf4.2.2 _ _).trans g3, (hf4.2.2 _ _).trans g4, g5, (hf4.2.2 _ _).trans g6, (hf4.2.2 _ _).trans g7, g8.fr (fun a k q1 q2 => hf4.1 a k (by omega)), g9.fr (fun a k q1 q2 => hf4.1 a k (by omega)), ⟨(hf4.1 _ _ (by omega)).trans g10.1, (hf4.1 _ _ (by omega)).trans g10.2⟩, g11.fr (fun a k q1 q2 => hf4.1 a k (by omega)), ⟨?_, fun i hi V s1 s2 e => ?_⟩, g13.fr (fun a k q1 q2 q3 => hf4.1 a k (by omega)), g14.fr (fun a k q1 q2 => hf4.2.1 a k), g15.fr (fun a k q => hf4.1 a k (by omega))⟩
      · rw [e4, gi_si, if_pos ⟨rfl, rfl⟩]
        congr 1
        refine bs_congr (fun i hi => ?_)
        by_cases e : i = m
        · simp [e]
        · simp [e]
      · dsimp only at e
        by_cases e5 : i = m
        · subst e5
          rw [if_pos rfl] at e
          cases e
          refine ⟨(hc1 S W sok hok.2.2.1 g9).fr' (fun a k q => ?_), ?_, ?_⟩
          · rw [e4, gi_si, if_neg (by omega), e3, gi_si, if_neg (by omega), e2, gi_si, if_neg (by omega)]
          · rw [e4, gi_si, if_neg (by omega), e3, gi_si, if_neg (by omega), e2, gi_si, if_pos ⟨rfl, rfl⟩]
          · rw [e4, gi_si, if_neg (by omega), e3, gi_si, if_pos ⟨rfl, rfl⟩]
        · rw [if_neg e5] at e
          obtain ⟨b1, b2, b3⟩ := g12.2 i hi V s1 s2 e
          exact ⟨b1.fr (fun a k q1 q2 => hf4.1 a k (by omega)), (hf4.1 _ _ (by omega)).trans b2, (hf4.1 _ _ (by omega)).trans b3⟩
    have hm4' := (hm.fr hok (hf4.sR hc.1) (hf4.kpM (fun a k q => by omega))).th hok (v := 0)
    refine ⟨mO, fun z0 e0 => ?_⟩; subst e0
    refine m_within_in (a := 0) (b := 3) (by omega) hm3 (by decide) (if1 ?_)
    rw [if_pos rfl]
    refine ⟨mO, _, mR26 hm4'.1, mA146, by rw [mL146]; exact vp_in_nI hm4 (by decide), fun z9 e9 => ?_⟩
    rw [nI_clamp (by omega), nar_1] at e9
    have hz9 : sR z9 := by rw [e9]; exact hm4'.1.to (fun _ _ => rfl)
    have hf9 : Fr (fun a k => a = 146 ∧ k = m) (si z4 129 0 0) z9 := by rw [e9]; exact Fr.rf.si ⟨rfl, rfl⟩
    unfold wX12_notch_J51 wX12_notch_J65
    rw [if_pos rfl, if_pos rfl, j_66, j_1, nI_add, pk_mul]
    refine ⟨mO, m_copies (f := 0) (n := 66) hz9 (by omega) (by decide) (by omega) (fun z11 hf11 hc11 => ?_)⟩
    rw [if_pos rfl]
    refine ⟨mO, mO, fun z15 e15 => ?_⟩
    have hff : Fr (fun a k => (a = 146 ∧ k = m) ∨ (a = 145 ∧ 66 * (1 + m) ≤ k ∧ k < 66 * (1 + m) + 66)) (si z4 129 0 0) z11 := hf9.tr hf11 (fun _ _ q => Or.inl q) (fun _ _ q => Or.inr q)
    have hf15 : Fr (fun a k => (a = 146 ∧ k = m) ∨ (a = 145 ∧ 66 * (1 + m) ≤ k ∧ k < 66 * (1 + m) + 66)) (si z4 129 0 0) z15 := by
      refine ⟨fun a k q => ?_, fun a k => by rw [e15]; exact hff.2.1 a k, fun a k => by rw [e15]; exact hff.2.2 a k⟩
      rw [e15, gi_si]
      by_cases e : a = 129 ∧ k = 25
      · rw [if_pos e, e.1, e.2]; exact hff.1 _ _ (by omega)
      · rw [if_neg e]; exact hff.1 _ _ q
    have e15k : ∀ k, gi z15 145 k = gi z11 145 k := fun k => by rw [e15, gi_si, if_neg (by omega)]
    obtain ⟨a1, a2, a3, a4, a5, a6, a7, a8, a9, a10, a11⟩ := hm4'
    have hm15 : Md z15 S W so ss H (fun i => if i = m then some (W, so, ss) else N i) D nm tp := by
      refine ⟨hf15.sR a1, a2.fr (fun k => hf15.1 _ _ (by omega)), a3.fr (fun a k q1 q2 => hf15.1 _ _ (by omega)), a4.cp sok hok.2.2.1 (fun k hk => hf15.1 _ _ (by omega)), a5.fr (fun k q1 q2 => hf15.1 _ _ (by omega)), a6.fr sok hok.2.2.2.2.2.1 (fun a k q => hf15.1 _ _ (by omega)), fun i hi => ?_, a8.fr (fun k => hf15.1 _ _ (by omega)), a9.fr (fun a k q => hf15.1 _ _ (by omega)) (fun k => hf15.2.1 _ _), a10.fr (fun a k q => hf15.1 _ _ (by omega)), fun k hk => (hf15.2.1 _ _).trans (a11 k hk)⟩
      dsimp only
      by_cases e5 : i = m
      · subst e5
        rw [if_pos rfl]
        refine ⟨?_, fun V s1 s2 e => ?_⟩
        · rw [e15, gi_si, if_neg (by omega), hf11.1 _ _ (by omega), e9, gi_si, if_pos ⟨rfl, rfl⟩]
          rfl
        · cases e
          refine ⟨a4.cp sok hok.2.2.1 (fun k hk => ?_), fun g hg => ?_⟩
          · rw [e15k, hc11 k (by omega)]; exact hf9.1 _ _ (by omega)
          · rw [Nat.add_assoc, e15k, hc11 (60 + g) (by omega), Nat.zero_add, hf9.1 _ _ (by omega)]
            exact a5 g hg
      · rw [if_neg e5]
        refine ⟨(hf15.1 _ _ (by omega)).trans (a7 i hi).1, fun V s1 s2 e => ?_⟩
        obtain ⟨b1, b2⟩ := (a7 i hi).2 V s1 s2 e
        exact ⟨b1.cp sok (hok.2.2.2.2.2.2.1 i hi V s1 s2 e).1 (fun k hk => hf15.1 _ _ (by omega)), b2.fr (fun k q1 q2 => hf15.1 _ _ (by omega))⟩
    have hok15 : Ok (n + 1) S W so H (fun i => if i = m then some (W, so, ss) else N i) D nm tp := by
      obtain ⟨b1, b2, b3, b4, b5, b6, b7, b8⟩ := hok.mono (Nat.le_succ n)
      refine ⟨b1, b2, b3, b4, b5, b6, fun i hi V s1 s2 e => ?_, b8⟩
      dsimp only at e
      by_cases e5 : i = m
      · rw [if_pos e5] at e
        cases e
        exact ⟨b3, b4, b5⟩
      · rw [if_neg e5] at e
        exact b7 i hi V s1 s2 e
    exact hQ _ _ (RLq.mk (hc4.fr ((kpC.si (by decide)).tr (hf15.kpC (fun a k q => by omega)))) hm15 hok15)
  · rw [if_neg hy, hcn.1, bs_bit (by decide) hm4]
    have hmn0 := hm0.2.2.2.2.2.2.1 m hm4
    cases hN : N m with
    | none =>
      rw [if_pos (by rfl)]
      refine ⟨mO, fun z0 e0 => ?_⟩; subst e0
      refine m_within_in (a := 0) (b := 3) (by omega) hm3 (by decide) (if1 ?_)
      rw [if_neg hy]
      refine ⟨_, mR26 hm0.1, mA146, by rw [mL146]; exact vp_in_nI hm4 (by decide), ?_⟩
      rw [nI_clamp (by omega), hmn0.1, hN, if_pos (by rfl)]
      exact hQ _ _ hth
    | some u =>
      obtain ⟨V, s1, s2⟩ := u
      obtain ⟨v1, v2, v3⟩ := hcn.2 m hm4 V s1 s2 hN
      obtain ⟨o1, o2, o3⟩ := hok.2.2.2.2.2.2.1 m hm4 V s1 s2 hN
      rw [if_neg (show ¬ nI (some (V, s1, s2)).isSome.toNat = 0 from (by decide : ¬ nI 1 = 0))]
      refine ⟨_, gR1 hc.1, wO w3, c_copy hc.1 w3 (w_notch hm4) (by omega) (fun z1 hf1 hc1 => ?_)⟩
      have hz1 := hf1.sR hc.1
      refine ⟨_, gR1 hz1, wO w3, wO (w_notch hm4), wO w3, fun z2 e2 z3 e3 => ?_⟩
      rw [(hf1.1 _ _ (by unfold wrC; omega)).trans v2] at e2
      have i34 : gi z2 (113 + 4 * m) 4 = nI (bs 6 s2) := by rw [e2, gi_si, if_neg (by omega)]; exact (hf1.1 _ _ (by unfold wrC; omega)).trans v3
      rw [i34] at e3
      have hz3 : sR z3 := by rw [e3, e2]; exact hz1.to (fun _ _ => rfl)
      refine ⟨_, gR3 hz3, hO, hO, fun z4 e4 => ?_⟩
      have hf4 : Fr (fun a k => (3 ≤ a ∧ a ≤ 6) ∨ (a = 11 ∧ k = 1)) z z4 := by
        rw [e4, e3, e2]
        exact (((hf1.mono (fun a k q => by unfold wrC at q; omega)).si (Or.inl ⟨by omega, by omega⟩)).si (Or.inl ⟨by omega, by omega⟩)).si (Or.inr ⟨rfl, rfl⟩)
      have hc4 : Cl z4 t yy S V s1 s2 [] N D nm tp := by
        obtain ⟨g1, g2, g3, g4, g5, g6, g7, g8, g9, g10, g11, g12, g13, g14, g15⟩ := hc
        obtain ⟨c1, nx, c2, c3, c4⟩ := g11
        refine ⟨hf4.sR g1, g2, (hf4.2.2 _ _).trans g3, (hf4.2.2 _ _).trans g4, g5, (hf4.2.2 _ _).trans g6, (hf4.2.2 _ _).trans g7, g8.fr (fun a k q1 q2 => hf4.1 a k (by omega)), (hc1 S V sok o1 v1).fr' (fun a k q => ?_), ⟨?_, ?_⟩, ⟨?_, nx, c2, (hf4.1 _ _ (by omega)).trans c3, fun j hj => absurd hj (Nat.not_lt_zero j)⟩, g12.fr (fun a k q => hf4.1 a k (by omega)), g13.fr (fun a k q1 q2 q3 => hf4.1 a k (by omega)), g14.fr (fun a k q1 q2 => hf4.2.1 a k), g15.fr (fun a k q => hf4.1 a k (by omega))⟩
        · rw [e4, gi_si, if_neg (by omega), e3, gi_si, if_neg (by omega), e2, gi_si, if_neg (by omega)]
        · rw [e4, gi_si, if_neg (by omega), e3, gi_si, if_neg (by omega), e2, gi_si, if_pos ⟨rfl, rfl⟩]
        · rw [e4, gi_si, if_neg (by omega), e3, gi_si, if_pos ⟨rfl, rfl⟩]
        · rw [e4, gi_si, if_pos ⟨rfl, rfl⟩]
          rfl
      have hm4' := (hm.fr hok (hf4.sR hc.1) (hf4.kpM (fun a k q => by omega))).th hok (v := 0)
      refine ⟨mO, fun z0 e0 => ?_⟩; subst e0
      refine m_within_in (a := 0) (b := 3) (by omega) hm3 (by decide) (if1 ?_)
      rw [if_neg hy]
      have hmn4 := hm4'.2.2.2.2.2.2.1 m hm4
      refine ⟨_, mR26 hm4'.1, mA146, by rw [mL146]; exact vp_in_nI hm4 (by decide), ?_⟩
      rw [nI_clamp (by omega), hmn4.1, hN, if_neg (show ¬ nI (some (V, s1, s2)).isSome.toNat = 0 from (by decide : ¬ nI 1 = 0))]
      refine ⟨mO, _, mR26 hm4'.1, mA146, by rw [mL146]; exact vp_in_nI hm4 (by decide), fun z9 e9 => ?_⟩
      rw [nI_clamp (by omega), nar_1] at e9
      have hz9 : sR z9 := by rw [e9]; exact hm4'.1.to (fun _ _ => rfl)
      have hs9 : ∀ a k, gi z9 a k = gi (si z4 129 0 0) a k := fun a k => by
        rw [e9, gi_si]
        by_cases e : a = 146 ∧ k = m
        · rw [if_pos e, e.1, e.2, hmn4.1, hN]; rfl
        · rw [if_neg e]
      have hf9 : Fr (fun _ _ => False) (si z4 129 0 0) z9 := ⟨fun a k _ => hs9 a k, fun a k => by rw [e9]; rfl, fun a k => by rw [e9]; rfl⟩
      unfold wX12_notch_J51 wX12_notch_J65
      rw [if_neg hy, if_neg hy, j_66, j_1, nI_add, pk_mul]
      refine ⟨mO, m_copies (d := 0) (n := 66) hz9 (by omega) (by omega) (by decide) (fun z11 hf11 hc11 => ?_)⟩
      rw [if_neg hy]
      refine ⟨mO, fun z15 e15 => ?_⟩
      have hf15 : Fr (fun a k => (a = 129 ∧ k = 25) ∨ (a = 145 ∧ k < 66)) (si z4 129 0 0) z15 := by
        rw [e15]
        exact (hf9.tr hf11 (fun _ _ q => q.elim) (fun a k q => Or.inr ⟨q.1, by omega⟩)).si (Or.inl ⟨rfl, rfl⟩)
      have e15k : ∀ k, gi z15 145 k = gi z11 145 k := fun k => by rw [e15, gi_si, if_neg (by omega)]
      obtain ⟨n1, n2⟩ := hmn4.2 V s1 s2 hN
      obtain ⟨a1, a2, a3, a4, a5, a6, a7, a8, a9, a10, a11⟩ := hm4'
      have hm15 : Md z15 S V s1 s2 [] N D nm tp := by
        refine ⟨hf15.sR a1, a2.fr (fun k => hf15.1 _ _ (by omega)), a3.fr (fun a k q1 q2 => hf15.1 _ _ (by omega)), n1.cp sok o1 (fun k hk => ?_), fun g hg => ?_, ⟨?_, fun j hj => absurd hj (Nat.not_lt_zero j)⟩, a7.fr sok hok.2.2.2.2.2.2.1 (fun a k q => hf15.1 _ _ (by omega)), a8.fr (fun k => hf15.1 _ _ (by omega)), a9.fr (fun a k q => hf15.1 _ _ (by omega)) (fun k => hf15.2.1 _ _), a10.fr (fun a k q => hf15.1 _ _ (by omega)), fun k hk => (hf15.2.1 _ _).trans (a11 k hk)⟩
        · rw [e15k, hc11 k (by omega)]; exact hs9 _ _
        · have := hc11 (60 + g) (by omega)
          rw [Nat.zero_add] at this
          rw [e15k, this, hs9, ← Nat.add_assoc]
          exact n2 g hg
        · rw [e15, gi_si, if_pos ⟨rfl, rfl⟩]
          rfl
      have hok15 : Ok (n + 1) S V s1 [] N D nm tp := by
        obtain ⟨b1, b2, b3, b4, b5, b6, b7, b8⟩ := hok.mono (Nat.le_succ n)
        exact ⟨b1, b2, o1, by omega, o3, ⟨Nat.zero_le _, fun U hU => by cases hU⟩, b7, b8⟩
      exact hQ _ _ (RLq.mk (hc4.fr ((kpC.si (by decide)).tr (hf15.kpC (fun a k q => by omega)))) hm15 hok15)
end RP
