/-! ===== years by draws ===== -/
def Fg (A : Nat → Nat → Prop) (B : Nat → Prop) (z z' : gS) : Prop := (∀ a k, ¬ A a k → gi z' a k = gi z a k) ∧ (∀ a k, ¬ B a → gl z' a k = gl z a k) ∧ (∀ a k, gr z' a k = gr z a k)
section FG
variable {A C : Nat → Nat → Prop} {B : Nat → Prop} {z z1 z2 : gS}
theorem Fg.rf : Fg A B z z := ⟨fun _ _ _ => rfl, fun _ _ _ => rfl, fun _ _ => rfl⟩
theorem Fg.fr (h : Fg A B z z1) (h2 : Fr C z1 z2) (hC : ∀ a k, C a k → A a k) : Fg A B z z2 := ⟨fun a k q => (h2.1 a k (fun r => q (hC a k r))).trans (h.1 a k q), fun a k q => (h2.2.1 a k).trans (h.2.1 a k q), fun a k => (h2.2.2 a k).trans (h.2.2 a k)⟩
theorem Fg.tr (h : Fg A B z z1) (h2 : Fg A B z1 z2) : Fg A B z z2 := ⟨fun a k q => (h2.1 a k q).trans (h.1 a k q), fun a k q => (h2.2.1 a k q).trans (h.2.1 a k q), fun a k => (h2.2.2 a k).trans (h.2.2 a k)⟩
theorem Fg.si {a k : Nat} {v : Int32} (h : Fg A B z z1) (hA : A a k) : Fg A B z (si z1 a k v) := ⟨fun b j q => by
  rw [gi_si, if_neg (fun r => q (by rw [r.1, r.2]; exact hA))]
  exact h.1 b j q, h.2.1, h.2.2⟩
theorem Fg.sl {a k : Nat} {v : Int64} (h : Fg A B z z1) (hB : B a) : Fg A B z (sl z1 a k v) := ⟨h.1, fun b j q => by
  rw [gl_sl, if_neg (fun r => q (by rw [r.1]; exact hB))]
  exact h.2.1 b j q, h.2.2⟩
theorem Fg.sR (h : Fg A B z z1) (hz : sR z) : sR z1 := hz.to h.2.2
end FG
def nxG (g : Nat) : Nat := (g * 1103515245 + 12345) % 2147483648
def drG (g m : Nat) : Nat := nxG g / 65536 % m
theorem nxG_lt (g : Nat) : nxG g < 2 ^ 31 := Nat.mod_lt _ (by decide)
theorem drG_lt {g m : Nat} (h : 0 < m) : drG g m < m := Nat.mod_lt _ h
abbrev yS : Type := Nat × sW × Nat × Nat
def yrP (S : sS) (p : Nat) (s : yS) : yS := if drG s.1 3 = 0 then (nxG s.1, (if wC s.2.1 p = 0 then s.2.1 else stW s.2.1 p (wC s.2.1 p - 1)), s.2.2.1, s.2.2.2) else if drG s.1 3 = 1 then (nxG s.1, (if wC s.2.1 p = 9 then s.2.1 else stW s.2.1 p (wC s.2.1 p + 1)), s.2.2.1, s.2.2.2) else if sDE S = 0 then (nxG s.1, s.2.1, s.2.2.1, s.2.2.2) else (nxG (nxG s.1), acW S s.2.1 p (drG (nxG s.1) (sDE S)), s.2.2.1 + 1, s.2.2.2 + (if sWa S s.2.1 (wC s.2.1 p) = 0 then 1 else 0))
def yrPs (S : sS) (s : yS) : Nat → yS
  | 0 => s
  | k + 1 => yrP S k (yrPs S s k)
def yrW (S : sS) (s : yS) : yS := if sPA S = 0 then s else if drG s.1 9 = 0 then (nxG (nxG s.1), (if cRn s.2.1 (drG (nxG s.1) (sPA S)) = true then rnW s.2.1 (drG (nxG s.1) (sPA S)) else s.2.1), s.2.2) else (nxG s.1, s.2)
def yrH (S : sS) (s : yS) : yS := ((yrW S (yrPs S s (sPE S))).1, psW S (yrW S (yrPs S s (sPE S))).2.1, (yrW S (yrPs S s (sPE S))).2.2)
def yrS (S : sS) (s : yS) : Nat → yS
  | 0 => s
  | k + 1 => yrH S (yrS S s k)
def yOK (S : sS) (T : Nat) (s : yS) : Prop := s.1 < 2 ^ 31 ∧ wOK S s.2.1 ∧ wT s.2.1 ≤ T
theorem yrP_ok {S : sS} {T p : Nat} {s : yS} (hok : sOK S) (h : yOK S T s) (hp : p < sPE S) : yOK S T (yrP S p s) := by
  have hc := h.2.1.1 p hp
  unfold yrP
  split
  · refine ⟨nxG_lt _, ?_, ?_⟩
    · show wOK S (if wC s.2.1 p = 0 then s.2.1 else stW s.2.1 p (wC s.2.1 p - 1))
      split
      · exact h.2.1
      · exact stW_ok h.2.1 (by omega)
    · show wT (if wC s.2.1 p = 0 then s.2.1 else stW s.2.1 p (wC s.2.1 p - 1)) ≤ T
      split
      · exact h.2.2
      · exact h.2.2
  · split
    · refine ⟨nxG_lt _, ?_, ?_⟩
      · show wOK S (if wC s.2.1 p = 9 then s.2.1 else stW s.2.1 p (wC s.2.1 p + 1))
        split
        · exact h.2.1
        · exact stW_ok h.2.1 (by omega)
      · show wT (if wC s.2.1 p = 9 then s.2.1 else stW s.2.1 p (wC s.2.1 p + 1)) ≤ T
        split
        · exact h.2.2
        · exact h.2.2
    · split
      · exact ⟨nxG_lt _, h.2⟩
      · exact ⟨nxG_lt _, acW_ok hok h.2.1 hp (drG_lt (by omega)), h.2.2⟩
theorem yrPs_ok {S : sS} {T : Nat} {s : yS} (hok : sOK S) (h : yOK S T s) : ∀ k, k ≤ sPE S → yOK S T (yrPs S s k)
  | 0, _ => h
  | k + 1, hk => yrP_ok hok (yrPs_ok hok h k (by omega)) (by omega)
theorem yrW_ok {S : sS} {T : Nat} {s : yS} (h : yOK S T s) : yOK S T (yrW S s) := by
  unfold yrW
  split
  · exact h
  · split
    · refine ⟨nxG_lt _, ?_, ?_⟩
      · show wOK S (if cRn s.2.1 (drG (nxG s.1) (sPA S)) = true then rnW s.2.1 (drG (nxG s.1) (sPA S)) else s.2.1)
        split
        · exact rnW_ok h.2.1
        · exact h.2.1
      · show wT (if cRn s.2.1 (drG (nxG s.1) (sPA S)) = true then rnW s.2.1 (drG (nxG s.1) (sPA S)) else s.2.1) ≤ T
        split
        · exact h.2.2
        · exact h.2.2
    · exact ⟨nxG_lt _, h.2⟩
theorem yrH_ok {S : sS} {T : Nat} {s : yS} (hok : sOK S) (h : yOK S T s) : yOK S (T + 1) (yrH S s) := by
  have := yrW_ok (yrPs_ok hok h (sPE S) (Nat.le_refl _))
  exact ⟨this.1, psW_ok this.2.1, Nat.succ_le_succ this.2.2⟩
theorem yrS_ok {S : sS} {T : Nat} {s : yS} (hok : sOK S) (h : yOK S T s) : ∀ k, yOK S (T + k) (yrS S s k)
  | 0 => h
  | k + 1 => yrH_ok hok (yrS_ok hok h k)
theorem lL_a : (1103515245 : Int64) = lN 1103515245 := by decide
theorem lL_b : (12345 : Int64) = lN 12345 := by decide
theorem lL_c : (2147483648 : Int64) = lN 2147483648 := by decide
theorem lL_d : (65536 : Int64) = lN 65536 := by decide
theorem lL_0 : (0 : Int64) = lN 0 := by decide
theorem dr_next {g : Nat} (h : g < 2 ^ 31) : (lN g * 1103515245 + 12345) - (lN g * 1103515245 + 12345) / 2147483648 * 2147483648 = lN (nxG g) := by
  rw [lL_a, lL_b, lL_c, lN_mul, lN_add, pk_lRem (by omega) (by decide) (by decide)]
  rfl
theorem dr_val {g m : Nat} (h : g < 2 ^ 31) (h0 : 0 < m) (hm : m < 2 ^ 31) : (lN g / 65536 - lN g / 65536 / (nI m).toInt64 * (nI m).toInt64).toInt32 = nI (g / 65536 % m) := by
  rw [lL_d, nI_l hm, pk_lDiv (by omega) (by decide) (by decide), pk_lRem (by omega) h0 (by omega), lN_i]
theorem dr_ne {m : Nat} (h0 : 0 < m) (hm : m < 2 ^ 31) : ¬ (nI m).toInt64 = 0 := by
  rw [nI_l hm, lL_0, pk_lEQ (by omega) (by decide)]
  omega
def yrC (z : gS) (t : Nat) (S : sS) (s : yS) : Prop := CW z t 7 S s.2.1 ∧ gl z 78 0 = lN s.1 ∧ s.1 < 2 ^ 31 ∧ gi z 78 1 = nI s.2.2.1 ∧ gi z 78 2 = nI s.2.2.2
def yrM (z : gS) (S : sS) (s : yS) : Prop := MW z 1452 S s.2.1 ∧ gl z 129 28 = lN s.1 ∧ s.1 < 2 ^ 31 ∧ gi z 129 29 = nI s.2.2.1 ∧ gi z 129 30 = nI s.2.2.2 ∧ mL z S
def aYc (t : Nat) : Nat → Nat → Prop := fun a _ => (7 ≤ a ∧ a ≤ 10) ∨ a = t + 3 ∨ a = 78
def aYm : Nat → Nat → Prop := fun a k => (a = 145 ∧ 1452 ≤ k) ∨ a = 143 ∨ a = 144 ∨ (a = 129 ∧ 29 ≤ k)
section RP
variable {z : gS} {n t p m : Nat} {S : sS} {s : yS} {P : Int32 → gS → Prop} {R : gS → Prop}
theorem c_draw (h : yrC z t S s) (h0 : 0 < m) (hm : m < 2 ^ 31) (hP : ∀ z', yrC z' t S (nxG s.1, s.2) → Fg (aYc t) (fun a => a = 78) z z' → P (nI (drG s.1 m)) z') : wX2_draw 148 gSH 78 (nI m) z P := by
  obtain ⟨h1, h2, h3, h4, h5⟩ := h
  refine ⟨drO, fun z2 e2 => ?_⟩
  rw [h2, dr_next h3] at e2
  rw [if_pos (show (0 : Int32) < nI m from nI_lt (a := 0) h0 hm)]
  have hf : Fg (aYc t) (fun a => a = 78) z z2 := by rw [e2]; exact Fg.rf.sl rfl
  have hg : gl z2 78 0 = lN (nxG s.1) := by rw [e2, gl_sl, if_pos ⟨rfl, rfl⟩]
  have hi : ∀ a k, gi z2 a k = gi z a k := fun a k => by rw [e2]; rfl
  rw [hg, dr_val (nxG_lt _) h0 hm]
  exact ⟨dr_ne h0 hm, hP z2 ⟨h1.oth (hf.sR h1.1) (fun a k _ => hi a k), hg, nxG_lt _, (hi _ _).trans h4, (hi _ _).trans h5⟩ hf⟩
theorem m_draw (h : yrM z S s) (h0 : 0 < m) (hm : m < 2 ^ 31) (hP : ∀ z', yrM z' S (nxG s.1, s.2) → Fg aYm (fun a => a = 129) z z' → P (nI (drG s.1 m)) z') : wX12_draw 148 gSH 129 (nI m) z P := by
  obtain ⟨h1, h2, h3, h4, h5, h6⟩ := h
  refine ⟨mO, fun z2 e2 => ?_⟩
  rw [h2, dr_next h3] at e2
  have hf : Fg aYm (fun a => a = 129) z z2 := by rw [e2]; exact Fg.rf.sl rfl
  have hg : gl z2 129 28 = lN (nxG s.1) := by rw [e2, gl_sl, if_pos ⟨rfl, rfl⟩]
  have hi : ∀ a k, gi z2 a k = gi z a k := fun a k => by rw [e2]; rfl
  rw [hg, dr_val (nxG_lt _) h0 hm]
  exact ⟨dr_ne h0 hm, hP z2 ⟨h1.oth (hf.sR h1.1) (fun a k _ => hi a k), hg, nxG_lt _, (hi _ _).trans h4, (hi _ _).trans h5, h6.fr (fun a k _ _ => hi a k)⟩ hf⟩
theorem yrC.w {z' : gS} {W' : sW} (h : yrC z t S s) (hW : CW z' t 7 S W') (hf : Fr (wrCt 7 t) z z') : yrC z' t S (s.1, W', s.2.2) := by
  have tl := h.1.2.1.le
  exact ⟨hW, (hf.2.1 _ _).trans h.2.1, h.2.2.1, (hf.1 _ _ (by unfold wrCt wrC; omega)).trans h.2.2.2.1, (hf.1 _ _ (by unfold wrCt wrC; omega)).trans h.2.2.2.2⟩
theorem yrM.w {z' : gS} {W' : sW} (h : yrM z S s) (hW : MW z' 1452 S W') (hf : Fr (wrMt 1452) z z') : yrM z' S (s.1, W', s.2.2) :=
  ⟨hW, (hf.2.1 _ _).trans h.2.1, h.2.2.1, (hf.1 _ _ (by unfold wrMt wrM; omega)).trans h.2.2.2.1, (hf.1 _ _ (by unfold wrMt wrM; omega)).trans h.2.2.2.2.1, h.2.2.2.2.2.fr (fun a k q1 q2 => hf.1 _ _ (by unfold wrMt wrM; omega))⟩
theorem wrCt_Y {a k : Nat} (h : wrCt 7 t a k) : aYc t a k := by unfold wrCt wrC at h; unfold aYc; omega
theorem wrMt_Y {a k : Nat} (h : wrMt 1452 a k) : aYm a k := by unfold wrMt wrM at h; unfold aYm; omega
theorem c_person (h : yrC z t S s) (hp : p < sPE S) (hP : ∀ z', yrC z' t S (yrP S p s) → Fg (aYc t) (fun a => a = 78) z z' → R z') : wX2_playPerson 148 gSH 78 t 7 (nI p) z R := by
  have hok := h.1.2.2.2.1
  have k5 := hok.2.1
  have k3 := hok.2.2.1
  have k6 := hok.1
  have hcp := h.1.2.2.2.2.1.1 p hp
  have ht := h.1.2.1
  have tl := ht.le
  refine ⟨drO, c_draw (m := 3) h (by decide) (by decide) (fun z2 h2 hf2 => ?_)⟩
  have hd3 : drG s.1 3 < 3 := drG_lt (by decide)
  unfold yrP at hP
  have hw2 : CW z2 t 7 S s.2.1 := h2.1
  by_cases c0 : drG s.1 3 = 0
  · rw [if_pos c0] at hP
    rw [c0, if_neg (by decide)]
    refine ⟨wO w7, _, wR5 hw2.1 w7, wA1 w7, by rw [wL1 w7]; exact vp_in_nI (by omega) (by decide), ?_⟩
    rw [if_pos (by decide), nI_clamp (by omega), hw2.2.2.2.2.2.2.2.2.2.2.1 p hp]
    refine ⟨wO w7, ?_⟩
    by_cases e : wC s.2.1 p = 0
    · rw [if_pos e] at hP
      rw [e]
      exact c_steps_no w7 (Or.inl (by decide)) (hP z2 h2 hf2)
    · rw [if_neg e] at hP
      rw [show nI (wC s.2.1 p) + (-1 : Int32) = nI (wC s.2.1 p - 1) from nI_p1 (by omega)]
      refine c_steps hw2 hp (by omega) (fun q => absurd (show dst (wC s.2.1 p - 1) (wC s.2.1 p) = 1 by unfold dst; omega) q) (fun _ z3 hw3 hf3 => ?_)
      have hf3' := hf3.mono (C := wrCt 7 t) (fun _ _ q => wrCt_of q)
      exact hP z3 (h2.w hw3 hf3') (hf2.fr hf3' (fun _ _ q => wrCt_Y q))
  · rw [if_neg c0] at hP
    by_cases c1 : drG s.1 3 = 1
    · rw [if_pos c1] at hP
      rw [c1, if_neg (by decide)]
      refine ⟨wO w7, _, wR5 hw2.1 w7, wA1 w7, by rw [wL1 w7]; exact vp_in_nI (by omega) (by decide), ?_⟩
      rw [if_neg (by decide), nI_clamp (by omega), hw2.2.2.2.2.2.2.2.2.2.2.1 p hp]
      refine ⟨wO w7, ?_⟩
      rw [nI_1]
      by_cases e : wC s.2.1 p = 9
      · rw [if_pos e] at hP
        rw [e]
        exact c_steps_no w7 (Or.inr (by decide)) (hP z2 h2 hf2)
      · rw [if_neg e] at hP
        refine c_steps hw2 hp (by omega) (fun q => absurd (show dst (wC s.2.1 p + 1) (wC s.2.1 p) = 1 by unfold dst; omega) q) (fun _ z3 hw3 hf3 => ?_)
        have hf3' := hf3.mono (C := wrCt 7 t) (fun _ _ q => wrCt_of q)
        exact hP z3 (h2.w hw3 hf3') (hf2.fr hf3' (fun _ _ q => wrCt_Y q))
    · rw [if_neg c1] at hP
      rw [show drG s.1 3 = 2 by omega, if_pos (by decide)]
      refine ⟨tO ht, ?_⟩
      rw [hw2.2.2.2.2.2.2.1.2.2.1]
      by_cases e : sDE S = 0
      · rw [if_pos e] at hP
        rw [e, if_pos (by decide)]
        exact hP z2 h2 hf2
      · rw [if_neg e] at hP
        rw [if_neg (show ¬ nI (sDE S) ≤ 0 from nI_ge (a := 0) (by omega) (by omega))]
        refine c_draw (m := sDE S) h2 (by omega) (by omega) (fun z3 h3 hf3 => ?_)
        refine ⟨wO w7, c_act h3.1 hp (drG_lt (by omega)) (fun z4 hw4 hf4 z5 e5 => ?_)⟩
        have hf4' := hf4.mono (C := wrCt 7 t) (fun _ _ q => wrCt_of q)
        have h4 := h3.w hw4 hf4'
        rw [h4.2.2.2.1, nI_1] at e5
        have i52 : gi z5 78 2 = nI s.2.2.2 := by rw [e5, gi_si, if_neg (by omega)]; exact h4.2.2.2.2
        have hgo : ∀ (v : Nat) z6, v = (if sWa S s.2.1 (wC s.2.1 p) = 0 then 1 else 0) → z6 = si z5 78 2 (nI s.2.2.2 + nI v) → R z6 := by
          intro v z6 ev e6
          rw [nI_add] at e6
          have hs6 : ∀ a k, ¬ a = 78 → gi z6 a k = gi z4 a k := fun a k q => by rw [e6, gi_si, if_neg (by omega), e5, gi_si, if_neg (by omega)]
          have hz6 : sR z6 := by rw [e6, e5]; exact hw4.1.to (fun _ _ => rfl)
          refine hP z6 ⟨hw4.oth hz6 (fun a k q => hs6 a k (by omega)), by rw [e6, e5]; exact h4.2.1, h4.2.2.1, ?_, ?_⟩ ?_
          · rw [e6, gi_si, if_neg (by omega), e5, gi_si, if_pos ⟨rfl, rfl⟩]
          · rw [e6, gi_si, if_pos ⟨rfl, rfl⟩, ev]
          · rw [e6, e5]
            exact (((hf2.tr hf3).fr hf4' (fun _ _ q => wrCt_Y q)).si (Or.inr (Or.inr rfl))).si (Or.inr (Or.inr rfl))
        have hlt : sWa S s.2.1 (wC s.2.1 p) < 64 := bs_64 _ k6
        by_cases e0 : sWa S s.2.1 (wC s.2.1 p) = 0
        · rw [if_pos (show nI (sWa S s.2.1 (wC s.2.1 p)) = 0 by rw [e0]; rfl), i52]
          exact ⟨drO, fun z6 e6 => hgo 1 z6 (by rw [if_pos e0]) e6⟩
        · rw [if_neg (show ¬ nI (sWa S s.2.1 (wC s.2.1 p)) = 0 from nI_ne0 (by omega) (by omega)), i52]
          exact ⟨drO, fun z6 e6 => hgo 0 z6 (by rw [if_neg e0]) e6⟩
theorem m_person (h : yrM z S s) (hp : p < sPE S) (hP : ∀ z', yrM z' S (yrP S p s) → Fg aYm (fun a => a = 129) z z' → R z') : wX12_drawsPerson 148 gSH 129 (nI p) z R := by
  have hok := h.1.2.1
  have k5 := hok.2.1
  have k3 := hok.2.2.1
  have k6 := hok.1
  have hcp := h.1.2.2.1.1 p hp
  refine ⟨mO, m_draw (m := 3) h (by decide) (by decide) (fun z2 h2 hf2 => ?_)⟩
  have hd3 : drG s.1 3 < 3 := drG_lt (by decide)
  unfold yrP at hP
  have hw2 : MW z2 1452 S s.2.1 := h2.1
  refine ⟨_, mR24 hw2.1, mA145, ?_⟩
  rw [show (1453 : Int32) = nI 1453 by decide, nI_add, nI_clamp (by omega), mL145, show 1453 + p = 1452 + 1 + p by omega, hw2.2.2.2.2.2.1.2.1 p hp]
  refine ⟨vp_in_nI (by omega) (by decide), fun v7 e7 => ?_⟩
  subst e7
  have hst : ∀ c z3, c < 10 → z3 = si z2 145 (1452 + 1 + p) (nI c) → yrM z3 S (nxG s.1, (if c = wC s.2.1 p then s.2.1 else stW s.2.1 p c), s.2.2) ∧ Fg aYm (fun a => a = 129) z z3 := by
    intro c z3 hc e3
    have hf3 : Fr (wrMt 1452) z2 z3 := by rw [e3]; exact Fr.rf.si (Or.inl ⟨rfl, by omega, by omega⟩)
    refine ⟨?_, hf2.fr hf3 (fun _ _ q => wrMt_Y q)⟩
    by_cases e : c = wC s.2.1 p
    · rw [if_pos e]
      refine h2.w (hw2.oth (hf3.sR hw2.1) (fun a k q => ?_)) hf3
      rw [e3, gi_si]
      by_cases e1 : a = 145 ∧ k = 1452 + 1 + p
      · rw [if_pos e1, e1.1, e1.2, hw2.2.2.2.2.2.1.2.1 p hp, e]
      · rw [if_neg e1]
    · rw [if_neg e]
      exact h2.w (by rw [e3]; exact hw2.step hp hc) hf3
  have hgo : ∀ c z3, c < 10 → (∀ s', s' = (nxG s.1, (if c = wC s.2.1 p then s.2.1 else stW s.2.1 p c), s.2.2) → yrM z3 S s' → Fg aYm (fun a => a = 129) z z3 → R z3) → z3 = si z2 145 (1452 + 1 + p) (nI c) → R z3 := by
    intro c z3 hc hR e3
    obtain ⟨a1, a2⟩ := hst c z3 hc e3
    exact hR _ rfl a1 a2
  have hJ63 : ∀ c, c < 10 → (∀ z3 s', s' = (nxG s.1, (if c = wC s.2.1 p then s.2.1 else stW s.2.1 p c), s.2.2) → yrM z3 S s' → Fg aYm (fun a => a = 129) z z3 → R z3) → wX12_drawsPerson_J63 148 gSH R (nI c) (nI (1452 + 1 + p)) 145 z2 := by
    intro c hc hR
    refine ⟨mA145, by rw [mL145]; exact vp_in_nI (by omega) (by decide), fun z3 e3 => ?_⟩
    rw [nI_clamp (by omega)] at e3
    exact hgo c z3 hc (hR z3) e3
  by_cases c0 : drG s.1 3 = 0
  · rw [if_pos c0] at hP
    rw [c0, if_neg (by decide), if_pos (by decide)]
    unfold wX12_drawsPerson_J35
    rw [show (1453 : Int32) = nI 1453 by decide, nI_add, show 1453 + p = 1452 + 1 + p by omega]
    refine ⟨mO, _, mR24 hw2.1, ?_⟩
    by_cases e : wC s.2.1 p = 0
    · rw [if_pos e] at hP
      rw [e]
      refine m_within_lo (a := 0) (b := 9) (by decide) (if0 ?_)
      refine hJ63 0 (by decide) (fun z3 s' es hy hf => hP z3 ?_ hf)
      rw [es, if_pos e.symm] at hy
      exact hy
    · rw [if_neg e] at hP
      rw [j_1, pk_sub (by omega)]
      refine m_within_in (a := 0) (b := 9) (by omega) (by omega) (by decide) (if1 ?_)
      refine hJ63 _ (by omega) (fun z3 s' es hy hf => hP z3 ?_ hf)
      rw [es, if_neg (by omega)] at hy
      exact hy
  · rw [if_neg c0] at hP
    by_cases c1 : drG s.1 3 = 1
    · rw [if_pos c1] at hP
      rw [c1, if_neg (by decide), if_neg (by decide)]
      unfold wX12_drawsPerson_J35
      rw [show (1453 : Int32) = nI 1453 by decide, nI_add, show 1453 + p = 1452 + 1 + p by omega]
      refine ⟨mO, _, mR24 hw2.1, ?_⟩
      rw [nI_1]
      by_cases e : wC s.2.1 p = 9
      · rw [if_pos e] at hP
        rw [e]
        refine m_within_hi (a := 0) (b := 9) (by decide) (if0 ?_)
        refine hJ63 9 (by decide) (fun z3 s' es hy hf => hP z3 ?_ hf)
        rw [es, if_pos e.symm] at hy
        exact hy
      · rw [if_neg e] at hP
        refine m_within_in (a := 0) (b := 9) (by omega) (by omega) (by decide) (if1 ?_)
        refine hJ63 _ (by omega) (fun z3 s' es hy hf => hP z3 ?_ hf)
        rw [es, if_neg (by omega)] at hy
        exact hy
    · rw [if_neg c1] at hP
      rw [show drG s.1 3 = 2 by omega, if_pos (by decide)]
      refine m_deeds hw2.1 hw2.2.2.2.2.1 ?_
      by_cases e : sDE S = 0
      · rw [if_pos e] at hP
        rw [e, if_pos (by decide)]
        exact hP z2 h2 hf2
      · rw [if_neg e] at hP
        rw [if_neg (show ¬ nI (sDE S) ≤ 0 from nI_ge (a := 0) (by omega) (by omega))]
        refine m_deeds hw2.1 hw2.2.2.2.2.1 (m_draw (m := sDE S) h2 (by omega) (by omega) (fun z3 h3 hf3 => ?_))
        refine m_does (b := 1452) h3.1 hp (drG_lt (by omega)) (fun z4 hw4 hf4 z5 e5 => ?_)
        have hf4' := hf4.mono (C := wrMt 1452) (fun _ _ q => Or.inl q)
        have h4 := h3.w hw4 hf4'
        rw [h4.2.2.2.1, nI_1] at e5
        have i52 : gi z5 129 30 = nI s.2.2.2 := by rw [e5, gi_si, if_neg (by omega)]; exact h4.2.2.2.2.1
        have hgo : ∀ (v : Nat) z6, v = (if sWa S s.2.1 (wC s.2.1 p) = 0 then 1 else 0) → z6 = si z5 129 30 (nI s.2.2.2 + nI v) → R z6 := by
          intro v z6 ev e6
          rw [nI_add] at e6
          have hs6 : ∀ a k, ¬ a = 129 → gi z6 a k = gi z4 a k := fun a k q => by rw [e6, gi_si, if_neg (by omega), e5, gi_si, if_neg (by omega)]
          have hz6 : sR z6 := by rw [e6, e5]; exact hw4.1.to (fun _ _ => rfl)
          refine hP z6 ⟨hw4.oth hz6 (fun a k q => hs6 a k (by omega)), by rw [e6, e5]; exact h4.2.1, h4.2.2.1, ?_, ?_, h4.2.2.2.2.2.fr (fun a k q1 q2 => hs6 a k (by omega))⟩ ?_
          · rw [e6, gi_si, if_neg (by omega), e5, gi_si, if_pos ⟨rfl, rfl⟩]
          · rw [e6, gi_si, if_pos ⟨rfl, rfl⟩, ev]
          · rw [e6, e5]
            exact (((hf2.tr hf3).fr hf4' (fun _ _ q => wrMt_Y q)).si (Or.inr (Or.inr (Or.inr ⟨rfl, by decide⟩)))).si (Or.inr (Or.inr (Or.inr ⟨rfl, by decide⟩)))
        have hlt : sWa S s.2.1 (wC s.2.1 p) < 64 := bs_64 _ k6
        by_cases e0 : sWa S s.2.1 (wC s.2.1 p) = 0
        · rw [if_pos (show nI (sWa S s.2.1 (wC s.2.1 p)) = 0 by rw [e0]; rfl), i52]
          exact ⟨mO, fun z6 e6 => hgo 1 z6 (by rw [if_pos e0]) e6⟩
        · rw [if_neg (show ¬ nI (sWa S s.2.1 (wC s.2.1 p)) = 0 from nI_ne0 (by omega) (by omega)), i52]
          exact ⟨mO, fun z6 e6 => hgo 0 z6 (by rw [if_neg e0]) e6⟩
end RP
