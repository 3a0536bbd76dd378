/-! ===== what can be gone back to ===== -/
theorem Fr.sA {A : Nat → Nat → Prop} {z z1 : gS} {a : Nat} {f : Nat → Int32} (h : Fr A z z1) (hA : ∀ k, A a k) : Fr A z (sA z1 a f) := ⟨fun b j q => by
  rw [gi_sA, if_neg (fun r => q (by rw [r]; exact hA j))]
  exact h.1 b j q, h.2.1, h.2.2⟩
theorem isW.ne {w v : Nat} (hw : isW w) (hv : isW v) (h : w ≠ v) : w + 3 < v ∨ v + 3 < w := by
  have : ∀ w ∈ gWs, ∀ v ∈ gWs, w ≠ v → w + 3 < v ∨ v + 3 < w := by decide
  exact this w hw v hv h
def w0 : sW := (0, fun _ => 0, fun _ => false, fun _ => false, fun _ => [])
/-- the most recent first -/
def cH (z : gS) (S : sS) (H : List sW) : Prop := gi z 11 1 = nI H.length ∧ ∃ nx, nx < 16 ∧ gi z 11 2 = nI nx ∧ ∀ j, j < H.length → cW z (13 + 4 * ((nx + 15 - j) % 16)) S (H.getD j w0)
def mH (z : gS) (S : sS) (H : List sW) : Prop := gi z 129 25 = nI H.length ∧ ∀ j, j < H.length → mW z (66 * (5 + (H.length - 1 - j))) S (H.getD j w0)
def hOK (S : sS) (H : List sW) (n : Nat) : Prop := H.length ≤ 16 ∧ ∀ W ∈ H, wOK S W ∧ wT W ≤ n
theorem hgt_mem {H : List sW} {j : Nat} (h : j < H.length) : H.getD j w0 ∈ H := by
  rw [List.getD_eq_getElem?_getD, List.getElem?_eq_getElem h]
  exact List.getElem_mem h
theorem w_hist {k : Nat} (h : k < 16) : isW (13 + 4 * k) := by
  have : ∀ k, k < 16 → 13 + 4 * k ∈ gWs := by decide
  exact this k h
theorem w_notch {k : Nat} (h : k < 4) : isW (113 + 4 * k) := by
  have : ∀ k, k < 4 → 113 + 4 * k ∈ gWs := by decide
  exact this k h
theorem w7 : isW 7 := by unfold isW; decide
theorem gR3 {z : gS} (hz : sR z) : gr z 0 3 = some 11 := (hz _ _ (by decide) (by decide)).trans (by decide +kernel)
theorem gR4 {z : gS} (hz : sR z) : gr z 0 4 = some 77 := (hz _ _ (by decide) (by decide)).trans (by decide +kernel)
theorem gR2 {z : gS} (hz : sR z) : gr z 0 2 = some 7 := (hz _ _ (by decide) (by decide)).trans (by decide +kernel)
theorem hR0 {z : gS} (hz : sR z) : gr z 11 0 = some 12 := (hz _ _ (by decide) (by decide)).trans (by decide +kernel)
theorem hRk {z : gS} (hz : sR z) {k : Nat} (h : k < 16) : gr z 12 k = some (13 + 4 * k) := by
  have : ∀ k, k < 16 → gRR 12 k = some (13 + 4 * k) := by decide +kernel
  exact (hz _ _ (by decide) (by omega)).trans (this k h)
theorem nRk {z : gS} (hz : sR z) {k : Nat} (h : k < 4) : gr z 77 k = some (113 + 4 * k) := by
  have : ∀ k, k < 4 → gRR 77 k = some (113 + 4 * k) := by decide +kernel
  exact (hz _ _ (by decide) (by omega)).trans (this k h)
theorem hO : oO 148 gSH 11 2 := ⟨by decide, by decide +kernel⟩
theorem hA : oA 148 gSH 12 5 := ⟨by decide, by decide +kernel⟩
theorem hLn : (gSH 12).2 = 16 := by decide +kernel
theorem nA : oA 148 gSH 77 5 := ⟨by decide, by decide +kernel⟩
theorem nLn : (gSH 77).2 = 4 := by decide +kernel
theorem cpy_in {f g : Nat → Int32} {n k : Nat} (h : k < n) : va_cpy f g 0 0 n k = f k := by
  unfold va_cpy
  rw [if_pos ⟨Nat.zero_le _, by omega⟩, Nat.zero_add, Nat.sub_zero]
section RC
variable {z : gS} {w v t g b i p c : Nat} {S : sS} {W : sW} {H : List sW} {P : Int32 → gS → Prop} {R : gS → Prop}
theorem c_copy (hz : sR z) (hw : isW w) (hv : isW v) (hne : w ≠ v) (hP : ∀ z', Fr (wrC w) z z' → (∀ S W, sOK S → wOK S W → cW z v S W → cW z' w S W) → R z') : wX10_copy 148 gSH w v z R := by
  have hd := hw.ne hv hne
  refine ⟨wO hv, wO hw, fun z3 e3 z4 e4 z5 e5 => ?_⟩
  have hf5 : Fr (wrC w) z z5 := by
    rw [e5, e4, e3]
    exact ((Fr.rf.si (Or.inl ⟨rfl, by decide⟩)).si (Or.inl ⟨rfl, by decide⟩)).si (Or.inl ⟨rfl, by decide⟩)
  have hz5 := hf5.sR hz
  have h50 : gi z5 w 0 = gi z v 0 := by rw [e5, gi_si, if_neg (by omega), e4, gi_si, if_neg (by omega), e3, gi_si, if_pos ⟨rfl, rfl⟩]
  have h51 : gi z5 w 1 = gi z v 1 := by rw [e5, gi_si, if_neg (by omega), e4, gi_si, if_pos ⟨rfl, rfl⟩, e3, gi_si, if_neg (by omega)]
  have h52 : gi z5 w 2 = gi z v 2 := by rw [e5, gi_si, if_pos ⟨rfl, rfl⟩, e4, gi_si, if_neg (by omega), e3, gi_si, if_neg (by omega)]
  clear e5 e4 e3
  rw [show (0 : Int32).toNatClampNeg = 0 from rfl, show (5 : Int32).toNatClampNeg = 5 from rfl, show (6 : Int32).toNatClampNeg = 6 from rfl, show (36 : Int32).toNatClampNeg = 36 from rfl]
  refine ⟨_, wR5 hz5 hv, _, wR5 hz5 hw, wA1 hv, wA1 hw, by rw [wL1 hv]; decide, by rw [wL1 hw]; decide, fun z12 e12 => ?_⟩
  have hf12 : Fr (wrC w) z z12 := by
    rw [e12]
    exact hf5.sA (fun k => Or.inr ⟨by omega, by omega⟩)
  have hz12 := hf12.sR hz
  refine ⟨_, wR6 hz12 hv, _, wR6 hz12 hw, wA2 hv, wA2 hw, by rw [wL2 hv]; decide, by rw [wL2 hw]; decide, fun z19 e19 => ?_⟩
  have hf19 : Fr (wrC w) z z19 := by
    rw [e19]
    exact hf12.sA (fun k => Or.inr ⟨by omega, by omega⟩)
  have hz19 := hf19.sR hz
  refine ⟨_, wR7 hz19 hv, _, wR7 hz19 hw, wA3 hv, wA3 hw, by rw [wL3 hv]; decide, by rw [wL3 hw]; decide, fun z26 e26 => ?_⟩
  have hf26 : Fr (wrC w) z z26 := by
    rw [e26]
    exact hf19.sA (fun k => Or.inr ⟨by omega, by omega⟩)
  refine hP z26 hf26 (fun S W hok hwk h => ?_)
  have hl6 : ∀ g, g < sPA S → (wM W g).length ≤ 6 := fun g hg => ln_le hok hwk hg
  have q6 := hok.1
  have q5 := hok.2.1
  obtain ⟨a1, a2, a3, a4, a5, a6⟩ := h
  refine ⟨?_, ?_, ?_, fun p hp => ?_, fun g hg => ?_, fun g hg i hi => ?_⟩
  · rw [e26, gi_sA, if_neg (by omega), e19, gi_sA, if_neg (by omega), e12, gi_sA, if_neg (by omega), h50]; exact a1
  · rw [e26, gi_sA, if_neg (by omega), e19, gi_sA, if_neg (by omega), e12, gi_sA, if_neg (by omega), h51]; exact a2
  · rw [e26, gi_sA, if_neg (by omega), e19, gi_sA, if_neg (by omega), e12, gi_sA, if_neg (by omega), h52]; exact a3
  · rw [e26, gi_sA, if_neg (by omega), e19, gi_sA, if_neg (by omega), e12, gi_sA, if_pos rfl, cpy_in (by omega), hf5.1 _ _ (by unfold wrC; omega)]; exact a4 p hp
  · rw [e26, gi_sA, if_neg (by omega), e19, gi_sA, if_pos rfl, cpy_in (by omega), hf12.1 _ _ (by unfold wrC; omega)]; exact a5 g hg
  · have := hl6 g hg
    rw [e26, gi_sA, if_pos rfl, cpy_in (by omega), hf19.1 _ _ (by unfold wrC; omega)]; exact a6 g hg i hi
theorem kp_len {H : List sW} : ((W :: H).take 16).length = if 16 < H.length + 1 then 16 else H.length + 1 := by
  rw [List.length_take, List.length_cons]
  split <;> omega
theorem kp_get {j : Nat} (h : j < 16) : ((W :: H).take 16).getD j w0 = if j = 0 then W else H.getD (j - 1) w0 := by
  rw [List.getD_eq_getElem?_getD, List.getElem?_take_of_lt h]
  cases j with
  | zero => rfl
  | succ j => rw [if_neg (by omega), List.getElem?_cons_succ, List.getD_eq_getElem?_getD]; rfl
theorem hOK_keep {n : Nat} (h : hOK S H n) (hw : wOK S W) (hT : wT W ≤ n) : hOK S ((W :: H).take 16) n := by
  refine ⟨by rw [List.length_take]; omega, fun V hV => ?_⟩
  rcases List.mem_cons.mp (List.mem_of_mem_take hV) with q | q
  · rw [q]; exact ⟨hw, hT⟩
  · exact h.2 V q
theorem cW.fr' {z' : gS} (h : cW z w S W) (hf : ∀ a k, (w ≤ a ∧ a ≤ w + 3 ∧ (a = w → k ≤ 2)) → gi z' a k = gi z a k) : cW z' w S W := by
  obtain ⟨h1, h2, h3, h4, h5, h6⟩ := h
  refine ⟨?_, ?_, ?_, fun p hp => ?_, fun p hp => ?_, fun p hp i hi => ?_⟩ <;> rw [hf _ _ (by omega)]
  · exact h1
  · exact h2
  · exact h3
  · exact h4 p hp
  · exact h5 p hp
  · exact h6 p hp i hi
theorem c_keep {n : Nat} (hz : sR z) (hH : cH z S H) (hk : hOK S H n) (hok : sOK S) (hwk : wOK S W) (hW : cW z 3 S W) (hP : ∀ z', cH z' S ((W :: H).take 16) → Fr (fun a _ => 11 ≤ a ∧ a ≤ 76) z z' → R z') : wX4_keep 148 gSH 11 3 z R := by
  obtain ⟨h1, nx, hnx, h2, h3⟩ := hH
  refine ⟨hO, _, hR0 hz, hA, ?_⟩
  rw [h2, hLn, nI_clamp (by omega)]
  refine ⟨vp_in_nI hnx (by decide), _, hRk hz hnx, wO (w_hist hnx), c_copy hz (w_hist hnx) w3 (by omega) (fun z7 hf7 hc7 => ?_)⟩
  intro z9 e9 z10 e10
  rw [hf7.1 11 2 (by unfold wrC; omega), h2, nI_1, show (16 : Int32) = nI 16 by decide, pk_rem (by omega) (by decide) (by decide)] at e9
  have e91 : gi z9 11 1 = nI H.length := by rw [e9, gi_si, if_neg (by omega), hf7.1 11 1 (by unfold wrC; omega), h1]
  rw [e91, nI_1] at e10
  have hl := hk.1
  have emin : (if (16 : Int32) < nI (H.length + 1) then (16 : Int32) else nI (H.length + 1)) = nI ((W :: H).take 16).length := by
    rw [kp_len]
    by_cases e : 16 < H.length + 1
    · rw [if_pos e, if_pos (show (16 : Int32) < nI (H.length + 1) from nI_lt (a := 16) e (by omega))]; rfl
    · rw [if_neg e, if_neg (show ¬ (16 : Int32) < nI (H.length + 1) from nI_nlt (a := 16) (by omega) (by decide))]
  rw [emin] at e10
  have hff : Fr (fun a _ => 11 ≤ a ∧ a ≤ 76) z z10 := by
    rw [e10, e9]
    exact ((hf7.mono (fun a k q => by unfold wrC at q; omega)).si ⟨by decide, by decide⟩).si ⟨by decide, by decide⟩
  refine hP z10 ⟨?_, (nx + 1) % 16, by omega, ?_, fun j hj => ?_⟩ hff
  · rw [e10, gi_si, if_pos ⟨rfl, rfl⟩]
  · rw [e10, gi_si, if_neg (by omega), e9, gi_si, if_pos ⟨rfl, rfl⟩]
  · have hj16 : j < 16 := by rw [List.length_take] at hj; omega
    rw [kp_get hj16]
    have hfz : ∀ a k, 13 ≤ a → gi z10 a k = gi z7 a k := fun a k q => by rw [e10, gi_si, if_neg (by omega), e9, gi_si, if_neg (by omega)]
    by_cases e : j = 0
    · subst e
      rw [if_pos rfl, show ((nx + 1) % 16 + 15 - 0) % 16 = nx by omega]
      exact (hc7 S W hok hwk hW).fr (fun a k q1 q2 => hfz a k (by omega))
    · rw [if_neg e]
      have hj2 : j - 1 < H.length := by rw [List.length_take, List.length_cons] at hj; omega
      have := h3 (j - 1) hj2
      rw [show ((nx + 1) % 16 + 15 - j) % 16 = (nx + 15 - (j - 1)) % 16 by omega]
      refine this.fr (fun a k q1 q2 => (hfz a k (by omega)).trans (hf7.1 a k ?_))
      unfold wrC
      omega
theorem m_copies {f d n : Nat} (hz : sR z) (hd : f + n ≤ d ∨ d + n ≤ f) (hf : f + n ≤ 1518) (hd2 : d + n ≤ 1518) (hP : ∀ z', Fr (fun a k => a = 145 ∧ d ≤ k ∧ k < d + n) z z' → (∀ k, k < n → gi z' 145 (d + k) = gi z 145 (f + k)) → R z') : wX12_copies 148 gSH 129 (nI f) (nI d) (nI n) z R := by
  refine (lp (fun m k => ∀ z1, Fr (fun a k => a = 145 ∧ d ≤ k ∧ k < d + n) z z1 → (∀ j, j < k → gi z1 145 (d + j) = gi z 145 (f + j)) → wX12_copies_L3 148 gSH R m 129 (nI f) (nI d) (nI n) (nI k) z1) n (fun m z1 hf hr => ?_) (fun m k hk ih z1 hf1 hr => ?_)).imp (fun N q => q z Fr.rf (fun p hp => absurd hp (Nat.not_lt_zero p)))
  · unfold wX12_copies_L3 wX12_copies_B3
    rw [if_pos (nI_le (by omega) (by omega))]
    exact hP z1 hf hr
  · have hz1 := hf1.sR hz
    unfold wX12_copies_L3 wX12_copies_B3
    rw [if_neg (nI_ge hk (by omega))]
    refine ⟨mO, _, mR24 hz1, _, mR24 hz1, mA145, ?_⟩
    rw [nI_add, nI_add, nI_clamp (by omega), nI_clamp (by omega), mL145]
    refine ⟨vp_in_nI (by omega) (by decide), mA145, vp_in_nI (by omega) (by decide), fun z8 e8 v9 e9 => ?_⟩
    rw [nI_1] at e9
    subst e8 e9
    refine ih _ (hf1.si ⟨rfl, by omega, by omega⟩) (fun j hj => ?_)
    rw [gi_si]
    by_cases e : j = k
    · rw [if_pos ⟨rfl, by omega⟩, e]
      exact hf1.1 _ _ (by omega)
    · rw [if_neg (by omega)]; exact hr j (by omega)
theorem mW.cp {z' : gS} {b' : Nat} (h : mW z b S W) (hok : sOK S) (hwk : wOK S W) (hs : ∀ k, k < 60 → gi z' 145 (b' + k) = gi z 145 (b + k)) : mW z' b' S W := by
  have hl6 : ∀ g, g < sPA S → (wM W g).length ≤ 6 := fun g hg => ln_le hok hwk hg
  have q6 := hok.1
  have q5 := hok.2.1
  obtain ⟨a1, a2, a3, a4, a5, a6⟩ := h
  refine ⟨(hs 0 (by decide)).trans a1, fun p hp => ?_, fun g hg => ?_, fun g hg => ?_, fun g hg => ?_, fun g hg i hi => ?_⟩
  · rw [Nat.add_assoc, hs _ (by omega), ← Nat.add_assoc]; exact a2 p hp
  · rw [Nat.add_assoc, hs _ (by omega), ← Nat.add_assoc]; exact a3 g hg
  · rw [Nat.add_assoc, hs _ (by omega), ← Nat.add_assoc]; exact a4 g hg
  · rw [Nat.add_assoc, hs _ (by omega), ← Nat.add_assoc]; exact a5 g hg
  · have := hl6 g hg
    rw [Nat.add_assoc, Nat.add_assoc, hs _ (by omega), ← Nat.add_assoc, ← Nat.add_assoc]; exact a6 g hg i hi
theorem m_keeps {n : Nat} (hz : sR z) (hH : mH z S H) (hk : hOK S H n) (hok : sOK S) (hwk : wOK S W) (hW : mW z 0 S W) (hP : ∀ z', mH z' S ((W :: H).take 16) → Fr (fun a k => (a = 129 ∧ k = 25) ∨ (a = 145 ∧ 330 ≤ k ∧ k < 1386)) z z' → R z') : wX12_keeps 148 gSH 129 z R := by
  obtain ⟨h1, h2⟩ := hH
  have hl := hk.1
  have hJ : ∀ (H2 : List sW) z1, H2.length < 16 → hOK S H2 n → (W :: H2).take 16 = (W :: H).take 16 → Fr (fun a k => (a = 129 ∧ k = 25) ∨ (a = 145 ∧ 330 ≤ k ∧ k < 1386)) z z1 → gi z1 129 25 = nI H2.length → (∀ j, j < H2.length → mW z1 (66 * (5 + (H2.length - 1 - j))) S (H2.getD j w0)) → wX12_keeps_J53 148 gSH R 129 z1 := by
    intro H2 z1 hl2 hk2 ek hf g1 g2
    have hz1 := hf.sR hz
    unfold wX12_keeps_J53
    rw [g1, show (66 : Int32) = nI 66 by decide, j_5, nI_add, pk_mul]
    refine ⟨mO, m_copies (f := 0) (n := 60) hz1 (by omega) (by decide) (by omega) (fun z4 hf4 hc4 z5 e5 => ?_)⟩
    rw [hf4.1 129 25 (by omega), g1, nI_1] at e5
    rw [← ek] at hP
    have hlen : ((W :: H2).take 16).length = H2.length + 1 := by rw [kp_len, if_neg (by omega)]
    have hff : Fr (fun a k => (a = 129 ∧ k = 25) ∨ (a = 145 ∧ 330 ≤ k ∧ k < 1386)) z z5 := by
      rw [e5]
      exact (hf.tr hf4 (fun _ _ q => q) (fun a k q => Or.inr ⟨q.1, by omega, by omega⟩)).si (Or.inl ⟨rfl, rfl⟩)
    refine hP z5 ⟨by rw [e5, gi_si, if_pos ⟨rfl, rfl⟩, hlen], fun j hj => ?_⟩ hff
    rw [hlen] at hj ⊢
    rw [kp_get (by omega)]
    have hfz : ∀ k, gi z5 145 k = gi z4 145 k := fun k => by rw [e5, gi_si, if_neg (by omega)]
    by_cases e : j = 0
    · subst e
      rw [if_pos rfl, show H2.length + 1 - 1 - 0 = H2.length by omega]
      refine (hW.cp (b' := 0) (z' := z1) hok hwk (fun k hk => hf.1 _ _ (by omega))).cp hok hwk (fun k hk => ?_)
      rw [hfz, hc4 k hk, Nat.zero_add]
    · rw [if_neg e, show H2.length + 1 - 1 - j = H2.length - 1 - (j - 1) by omega]
      refine (g2 (j - 1) (by omega)).cp hok (hk2.2 _ (hgt_mem (by omega))).1 (fun k hk => ?_)
      rw [hfz, hf4.1 _ _ (by omega)]
  refine ⟨mO, ?_⟩
  rw [h1]
  by_cases e16 : H.length = 16
  · rw [if_pos (show nI H.length = 16 by rw [e16]; decide)]
    refine (lpf (fun m k => ∀ z1, Fr (fun a k => (a = 129 ∧ k = 25) ∨ (a = 145 ∧ 330 ≤ k ∧ k < 1386)) z z1 → gi z1 129 25 = nI 16 → (∀ j, j < 16 → 15 - j < k - 1 → mW z1 (66 * (5 + (15 - j))) S (H.getD (j - 1) w0)) → (∀ j, j < 16 → k ≤ 15 - j → mW z1 (66 * (5 + (15 - j))) S (H.getD j w0)) → wX12_keeps_L11 148 gSH R m 129 (nI k) z1) 1 16 (by decide) (fun m z1 hf g1 g2 g3 => ?_) (fun m k hk1 hk2 ih z1 hf g1 g2 g3 => ?_)).imp (fun N q => q z Fr.rf (by rw [h1, e16]) (fun j _ q => by omega) (fun j hj _ => by have := h2 j (by omega); rw [e16] at this; exact this))
    · unfold wX12_keeps_L11 wX12_keeps_B11
      rw [if_pos (show (16 : Int32) ≤ nI 16 by decide)]
      refine ⟨mO, fun z7 e7 => ?_⟩
      rw [g1, j_1, pk_sub (by decide)] at e7
      have et : (H.take 15).length = 15 := by rw [List.length_take]; omega
      refine hJ (H.take 15) z7 (by omega) ⟨by omega, fun V hV => hk.2 V (List.mem_of_mem_take hV)⟩ ?_ ?_ (by rw [e7, gi_si, if_pos ⟨rfl, rfl⟩, et]) (fun j hj => ?_)
      · show List.take 16 (W :: H.take 15) = List.take 16 (W :: H)
        rw [List.take_succ_cons, List.take_succ_cons, List.take_take]
        rfl
      · rw [e7]
        exact hf.si (Or.inl ⟨rfl, rfl⟩)
      · rw [et] at hj ⊢
        have hm := g2 (j + 1) (by omega) (by omega)
        have eg : (H.take 15).getD j w0 = H.getD j w0 := by rw [List.getD_eq_getElem?_getD, List.getElem?_take_of_lt hj, List.getD_eq_getElem?_getD]
        rw [eg, show 15 - 1 - j = 15 - (j + 1) by omega]
        exact hm.fr (fun k => by rw [e7, gi_si, if_neg (by omega)])
    · have hz1 := hf.sR hz
      unfold wX12_keeps_L11 wX12_keeps_B11
      rw [if_neg (show ¬ (16 : Int32) ≤ nI k from nI_ge (b := 16) hk2 (by decide)), show (66 : Int32) = nI 66 by decide, j_5, nI_add, j_1, pk_sub (by omega), pk_mul, pk_mul]
      refine ⟨mO, m_copies (n := 60) hz1 (by omega) (by omega) (by omega) (fun z9 hf9 hc9 v11 e11 => ?_)⟩
      rw [nI_add] at e11
      subst e11
      refine ih z9 (hf.tr hf9 (fun _ _ q => q) (fun a j q => Or.inr ⟨q.1, by omega, by omega⟩)) (by rw [hf9.1 _ _ (by omega)]; exact g1) (fun j hj hq => ?_) (fun j hj hq => ?_)
      · by_cases e : 15 - j = k - 1
        · have hj0 : 0 < j := by omega
          have hm := g3 (j - 1) (by omega) (by omega)
          refine hm.cp hok (hk.2 _ (hgt_mem (by omega))).1 (fun i hi => ?_)
          rw [show 66 * (5 + (15 - j)) + i = 66 * (5 + k - 1) + i by omega, hc9 i hi, show 66 * (5 + k) + i = 66 * (5 + (15 - (j - 1))) + i by omega]
        · have hm := g2 j hj (by omega)
          refine hm.cp hok (hk.2 _ (hgt_mem (by omega))).1 (fun i hi => hf9.1 _ _ (by omega))
      · have hm := g3 j hj (by omega)
        refine hm.cp hok (hk.2 _ (hgt_mem (by omega))).1 (fun i hi => hf9.1 _ _ (by omega))
  · rw [if_neg (show ¬ nI H.length = 16 from fun q => e16 ((nI_eq (b := 16) (by omega) (by decide)).mp q))]
    exact hJ H z (by omega) hk rfl Fr.rf h1 h2
theorem c_takeBack {n : Nat} (hz : sR z) (hH : cH z S H) (hk : hOK S H n) (hok : sOK S) (h0 : H = [] → P (nI 0) z) (h1 : ∀ V r z', H = V :: r → cW z' 3 S V → cH z' S r → Fr (fun a k => (a = 11 ∧ 1 ≤ k ∧ k ≤ 2) ∨ wrC 3 a k) z z' → P (nI 1) z') : wX4_takeBack 148 gSH 11 3 z P := by
  obtain ⟨g1, nx, hnx, g2, g3⟩ := hH
  have hl := hk.1
  refine ⟨hO, ?_⟩
  rw [g1]
  cases hH : H with
  | nil =>
    rw [if_pos (by rfl)]
    exact h0 hH
  | cons V r =>
    rw [hH] at g1 g3 hk hl
    rw [List.length_cons] at hl g1
    rw [if_neg (nI_ne0 (by rw [List.length_cons]; omega) (by rw [List.length_cons]; omega))]
    intro z2 e2 z3 e3
    rw [g2, show (16 : Int32) = nI 16 by decide, nI_add, j_1, pk_sub (by omega), pk_rem (by omega) (by decide) (by decide)] at e2
    have e21 : gi z2 11 1 = nI (r.length + 1) := by rw [e2, gi_si, if_neg (by omega), g1]
    rw [e21, j_1, pk_sub (by omega), show r.length + 1 - 1 = r.length by omega] at e3
    have e32 : gi z3 11 2 = nI ((nx + 16 - 1) % 16) := by rw [e3, gi_si, if_neg (by omega), e2, gi_si, if_pos ⟨rfl, rfl⟩]
    have e31 : gi z3 11 1 = nI r.length := by rw [e3, gi_si, if_pos ⟨rfl, rfl⟩]
    have hf3 : Fr (fun a k => a = 11 ∧ 1 ≤ k ∧ k ≤ 2) z z3 := by
      rw [e3, e2]
      exact (Fr.rf.si ⟨rfl, by decide, by decide⟩).si ⟨rfl, by decide, by decide⟩
    have hz3 := hf3.sR hz
    have hx : (nx + 16 - 1) % 16 < 16 := Nat.mod_lt _ (by decide)
    refine ⟨_, hR0 hz3, hA, ?_⟩
    rw [e32, hLn, nI_clamp (by omega)]
    refine ⟨vp_in_nI hx (by decide), _, hRk hz3 hx, wO w3, c_copy hz3 w3 (w_hist hx) (by omega) (fun z9 hf9 hc9 => ?_)⟩
    have hV := g3 0 (by rw [List.length_cons]; omega)
    refine h1 V r z9 hH (hc9 S V hok (hk.2 V List.mem_cons_self).1 ?_) ⟨by rw [hf9.1 _ _ (by unfold wrC; omega)]; exact e31, (nx + 16 - 1) % 16, hx, by rw [hf9.1 _ _ (by unfold wrC; omega)]; exact e32, fun j hj => ?_⟩ (hf3.tr hf9 (fun _ _ q => Or.inl q) (fun _ _ q => Or.inr q))
    · have : cW z (13 + 4 * ((nx + 16 - 1) % 16)) S V := by
        rw [show (nx + 16 - 1) % 16 = (nx + 15 - 0) % 16 by omega]
        exact hV
      exact this.fr (fun a k q1 q2 => hf3.1 a k (by omega))
    · have hj2 := g3 (j + 1) (by rw [List.length_cons]; omega)
      rw [show ((nx + 16 - 1) % 16 + 15 - j) % 16 = (nx + 15 - (j + 1)) % 16 by omega]
      exact hj2.fr (fun a k q1 q2 => (hf9.1 a k (by unfold wrC; omega)).trans (hf3.1 a k (by omega)))
end RC
