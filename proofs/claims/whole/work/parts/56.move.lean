/-! ===== steps, washings, curtains, stones, beginnings ===== -/
def stW (W : sW) (p c : Nat) : sW := (wT W, fun q => if q = p then c else wC W q, wD W, wG W, wM W)
def rnW (W : sW) (g : Nat) : sW := (wT W, wC W, wD W, wG W, fun q => if q = g then (wM W g).dropLast else wM W q)
def plW (W : sW) (g : Nat) : sW := (wT W, wC W, fun q => if q = g then !wD W g else wD W q, wG W, wM W)
def smW (W : sW) (g : Nat) : sW := (wT W, wC W, wD W, fun q => wG W q || decide (q = g), wM W)
def bgW (S : sS) : sW := (0, sHO S, fun _ => false, fun _ => false, fun _ => [])
def cRn (W : sW) (g : Nat) : Bool := !wG W g && decide (0 < (wM W g).length)
theorem stW_ok {S : sS} {W : sW} {p c : Nat} (h : wOK S W) (hc : c < 10) : wOK S (stW W p c) := by
  refine ⟨fun q hq => ?_, h.2⟩
  show (if q = p then c else wC W q) < 10
  split
  · exact hc
  · exact h.1 q hq
theorem rnW_ok {S : sS} {W : sW} {g : Nat} (h : wOK S W) : wOK S (rnW W g) := by
  refine ⟨h.1, h.2.1, fun q hq => ?_, fun q hq m hm => ?_⟩
  · show (if q = g then (wM W g).dropLast else wM W q).length ≤ _
    split
    · rename_i e
      subst e
      rw [List.length_dropLast]
      have := h.2.2.1 q hq
      omega
    · exact h.2.2.1 q hq
  · change m ∈ (if q = g then (wM W g).dropLast else wM W q) at hm
    refine h.2.2.2 q hq m ?_
    split at hm
    · rename_i e
      subst e
      exact (List.dropLast_sublist _).subset hm
    · exact hm
theorem plW_ok {S : sS} {W : sW} {g : Nat} (h : wOK S W) (hg : g < sPA S) : wOK S (plW W g) := by
  refine ⟨h.1, fun q hq => ⟨?_, (h.2.1 q hq).2⟩, h.2.2⟩
  show (if q = g then !wD W g else wD W q) = false
  rw [if_neg (by omega)]
  exact (h.2.1 q hq).1
theorem smW_ok {S : sS} {W : sW} {g : Nat} (h : wOK S W) (hg : g < sPA S) : wOK S (smW W g) := by
  refine ⟨h.1, fun q hq => ⟨(h.2.1 q hq).1, ?_⟩, h.2.2⟩
  show (wG W q || decide (q = g)) = false
  rw [(h.2.1 q hq).2, decide_eq_false (by omega)]
  rfl
theorem bgW_ok {S : sS} (h : sOK S) : wOK S (bgW S) := ⟨h.2.2.2.2.2.2.1, fun _ _ => ⟨rfl, rfl⟩, fun _ _ => Nat.zero_le _, fun _ _ m hm => by cases hm⟩
theorem gd_dl {l : List sM} {i : Nat} (h : i < l.length - 1) : l.dropLast.getD i m0 = l.getD i m0 := by
  rw [List.getD_eq_getElem?_getD, List.getElem?_dropLast, if_pos h, List.getD_eq_getElem?_getD]
theorem bs_xor {f : Nat → Bool} {n j : Nat} (hn : n ≤ 31) (hj : j < n) : nI (bs n f) ^^^ ((1 : Int32) <<< (nI j &&& 31)) = nI (bs n (fun i => if i = j then !f j else f i)) := by
  have h2 : 2 ^ j < 2 ^ 31 := Nat.pow_lt_pow_right (by decide) (by omega)
  rw [j_1, nI_shl (by omega) (by omega), Nat.one_mul, nI_xor]
  congr 1
  apply Nat.eq_of_testBit_eq
  intro i
  rw [Nat.testBit_xor, bs_tb, bs_tb, Nat.testBit_two_pow]
  by_cases e : i = j
  · subst e
    simp [hj]
  · simp [e, Ne.symm e]
theorem bs_clr {f : Nat → Bool} {n j : Nat} (hn : n ≤ 31) (hj : j < n) : nI (bs n f) &&& (((1 : Int32) <<< (nI j &&& 31)) ^^^ (-1 : Int32)) = nI (bs n (fun i => if i = j then false else f i)) := by
  have h2 : 2 ^ j < 2 ^ 31 := Nat.pow_lt_pow_right (by decide) (by omega)
  rw [nI_m1, j_1, nI_shl (by omega) (by omega), Nat.one_mul, nI_xor, nI_and]
  congr 1
  apply Nat.eq_of_testBit_eq
  intro i
  rw [Nat.testBit_and, Nat.testBit_xor, bs_tb, bs_tb, Nat.testBit_two_pow, Nat.testBit_two_pow_sub_one]
  by_cases e : i = j
  · subst e
    simp
    omega
  · by_cases hi : i < n
    · have : i < 32 := by omega
      simp [e, Ne.symm e, hi, this]
    · simp [e, hi]
section RC
variable {z : gS} {w t g b i p c : Nat} {S : sS} {W : sW} {P : Int32 → gS → Prop} {R : gS → Prop} {l : List sM}
theorem CW.step (h : CW z t w S W) (hp : p < sPE S) (hc : c < 10) : CW (si z (w + 1) p (nI c)) t w S (stW W p c) := by
  have hw := h.2.2.1.dj
  obtain ⟨a1, a2, a3, a4, a5, a6⟩ := h.2.2.2.2.2.2.2
  refine h.up (Fr.rf.si (Or.inl (Or.inr ⟨by omega, by omega⟩))) (stW_ok h.2.2.2.2.1 hc) h.2.2.2.2.2.1 ⟨?_, ?_, ?_, fun q hq => ?_, fun g hg => ?_, fun g hg i hi => ?_⟩
  · rw [gi_si, if_neg (by omega)]; exact a1
  · rw [gi_si, if_neg (by omega)]; exact a2
  · rw [gi_si, if_neg (by omega)]; exact a3
  · rw [gi_si]
    show _ = nI (if q = p then c else wC W q)
    by_cases e : q = p
    · rw [if_pos ⟨rfl, e⟩, if_pos e]
    · rw [if_neg (by omega), if_neg e]; exact a4 q hq
  · rw [gi_si, if_neg (by omega)]; exact a5 g hg
  · rw [gi_si, if_neg (by omega)]; exact a6 g hg i hi
theorem CW.rinse (h : CW z t w S W) (hg : g < sPA S) : CW (si z (w + 2) g (nI ((wM W g).length - 1))) t w S (rnW W g) := by
  have hw := h.2.2.1.dj
  obtain ⟨a1, a2, a3, a4, a5, a6⟩ := h.2.2.2.2.2.2.2
  refine h.up (Fr.rf.si (Or.inl (Or.inr ⟨by omega, by omega⟩))) (rnW_ok h.2.2.2.2.1) h.2.2.2.2.2.1 ⟨?_, ?_, ?_, fun q hq => ?_, fun q hq => ?_, fun q hq i hi => ?_⟩
  · rw [gi_si, if_neg (by omega)]; exact a1
  · rw [gi_si, if_neg (by omega)]; exact a2
  · rw [gi_si, if_neg (by omega)]; exact a3
  · rw [gi_si, if_neg (by omega)]; exact a4 q hq
  · rw [gi_si]
    show _ = nI (if q = g then (wM W g).dropLast else wM W q).length
    by_cases e : q = g
    · rw [if_pos ⟨rfl, e⟩, if_pos e, List.length_dropLast]
    · rw [if_neg (by omega), if_neg e]; exact a5 q hq
  · change i < (if q = g then (wM W g).dropLast else wM W q).length at hi
    rw [gi_si, if_neg (by omega)]
    show _ = nI (mkC ((if q = g then (wM W g).dropLast else wM W q).getD i m0))
    by_cases e : q = g
    · subst e
      rw [if_pos rfl, List.length_dropLast] at hi
      rw [if_pos rfl, gd_dl hi]
      exact a6 q hq i (by omega)
    · rw [if_neg e] at hi ⊢
      exact a6 q hq i hi
theorem CW.pull (h : CW z t w S W) (hg : g < sPA S) : CW (si z w 1 (nI (bs 6 (wD (plW W g))))) t w S (plW W g) := by
  have hw := h.2.2.1.dj
  obtain ⟨a1, a2, a3, a4, a5, a6⟩ := h.2.2.2.2.2.2.2
  refine h.up (Fr.rf.si (Or.inl (Or.inl ⟨rfl, by decide⟩))) (plW_ok h.2.2.2.2.1 hg) h.2.2.2.2.2.1 ⟨?_, ?_, ?_, fun q hq => ?_, fun q hq => ?_, fun q hq i hi => ?_⟩
  · rw [gi_si, if_neg (by omega)]; exact a1
  · rw [gi_si, if_pos ⟨rfl, rfl⟩]
  · rw [gi_si, if_neg (by omega)]; exact a3
  · rw [gi_si, if_neg (by omega)]; exact a4 q hq
  · rw [gi_si, if_neg (by omega)]; exact a5 q hq
  · rw [gi_si, if_neg (by omega)]; exact a6 q hq i hi
theorem CW.smash (h : CW z t w S W) (hg : g < sPA S) : CW (si z w 2 (nI (bs 6 (wG (smW W g))))) t w S (smW W g) := by
  have hw := h.2.2.1.dj
  obtain ⟨a1, a2, a3, a4, a5, a6⟩ := h.2.2.2.2.2.2.2
  refine h.up (Fr.rf.si (Or.inl (Or.inl ⟨rfl, by decide⟩))) (smW_ok h.2.2.2.2.1 hg) h.2.2.2.2.2.1 ⟨?_, ?_, ?_, fun q hq => ?_, fun q hq => ?_, fun q hq i hi => ?_⟩
  · rw [gi_si, if_neg (by omega)]; exact a1
  · rw [gi_si, if_neg (by omega)]; exact a2
  · rw [gi_si, if_pos ⟨rfl, rfl⟩]
  · rw [gi_si, if_neg (by omega)]; exact a4 q hq
  · rw [gi_si, if_neg (by omega)]; exact a5 q hq
  · rw [gi_si, if_neg (by omega)]; exact a6 q hq i hi
theorem MW.step (h : MW z b S W) (hp : p < sPE S) (hc : c < 10) : MW (si z 145 (b + 1 + p) (nI c)) b S (stW W p c) := by
  have h5 := h.2.1.2.1
  have h6 := h.2.1.1
  obtain ⟨a1, a2, a3, a4, a5, a6⟩ := h.2.2.2.2.2.1
  refine h.up (Fr.rf.si (Or.inl ⟨rfl, by omega, by omega⟩)) (stW_ok h.2.2.1 hc) h.2.2.2.1 ⟨?_, fun q hq => ?_, fun g hg => ?_, fun g hg => ?_, fun g hg => ?_, fun g hg i hi => ?_⟩
  · rw [gi_si, if_neg (by omega)]; exact a1
  · rw [gi_si]
    show _ = nI (if q = p then c else wC W q)
    by_cases e : q = p
    · rw [if_pos ⟨rfl, by omega⟩, if_pos e]
    · rw [if_neg (by omega), if_neg e]; exact a2 q hq
  · rw [gi_si, if_neg (by omega)]; exact a3 g hg
  · rw [gi_si, if_neg (by omega)]; exact a4 g hg
  · rw [gi_si, if_neg (by omega)]; exact a5 g hg
  · rw [gi_si, if_neg (by omega)]; exact a6 g hg i hi
theorem MW.rinse (h : MW z b S W) (hg : g < sPA S) : MW (si z 145 (b + 18 + g) (nI ((wM W g).length - 1))) b S (rnW W g) := by
  have h5 := h.2.1.2.1
  have h6 := h.2.1.1
  obtain ⟨a1, a2, a3, a4, a5, a6⟩ := h.2.2.2.2.2.1
  refine h.up (Fr.rf.si (Or.inl ⟨rfl, by omega, by omega⟩)) (rnW_ok h.2.2.1) h.2.2.2.1 ⟨?_, fun q hq => ?_, fun q hq => ?_, fun q hq => ?_, fun q hq => ?_, fun q hq i hi => ?_⟩
  · rw [gi_si, if_neg (by omega)]; exact a1
  · rw [gi_si, if_neg (by omega)]; exact a2 q hq
  · rw [gi_si, if_neg (by omega)]; exact a3 q hq
  · rw [gi_si, if_neg (by omega)]; exact a4 q hq
  · rw [gi_si]
    show _ = nI (if q = g then (wM W g).dropLast else wM W q).length
    by_cases e : q = g
    · rw [if_pos ⟨rfl, by omega⟩, if_pos e, List.length_dropLast]
    · rw [if_neg (by omega), if_neg e]; exact a5 q hq
  · change i < (if q = g then (wM W g).dropLast else wM W q).length at hi
    rw [gi_si, if_neg (by omega)]
    show _ = nI (mkM ((if q = g then (wM W g).dropLast else wM W q).getD i m0))
    by_cases e : q = g
    · subst e
      rw [if_pos rfl, List.length_dropLast] at hi
      rw [if_pos rfl, gd_dl hi]
      exact a6 q hq i (by omega)
    · rw [if_neg e] at hi ⊢
      exact a6 q hq i hi
theorem MW.pull (h : MW z b S W) (hg : g < sPA S) : MW (si z 145 (b + 6 + g) (nI (!wD W g).toNat)) b S (plW W g) := by
  have h5 := h.2.1.2.1
  have h6 := h.2.1.1
  obtain ⟨a1, a2, a3, a4, a5, a6⟩ := h.2.2.2.2.2.1
  refine h.up (Fr.rf.si (Or.inl ⟨rfl, by omega, by omega⟩)) (plW_ok h.2.2.1 hg) h.2.2.2.1 ⟨?_, fun q hq => ?_, fun q hq => ?_, fun q hq => ?_, fun q hq => ?_, fun q hq i hi => ?_⟩
  · rw [gi_si, if_neg (by omega)]; exact a1
  · rw [gi_si, if_neg (by omega)]; exact a2 q hq
  · rw [gi_si]
    show _ = nI (if q = g then !wD W g else wD W q).toNat
    by_cases e : q = g
    · rw [if_pos ⟨rfl, by omega⟩, if_pos e]
    · rw [if_neg (by omega), if_neg e]; exact a3 q hq
  · rw [gi_si, if_neg (by omega)]; exact a4 q hq
  · rw [gi_si, if_neg (by omega)]; exact a5 q hq
  · rw [gi_si, if_neg (by omega)]; exact a6 q hq i hi
theorem MW.smash (h : MW z b S W) (hg : g < sPA S) : MW (si z 145 (b + 12 + g) (nI 1)) b S (smW W g) := by
  have h5 := h.2.1.2.1
  have h6 := h.2.1.1
  obtain ⟨a1, a2, a3, a4, a5, a6⟩ := h.2.2.2.2.2.1
  refine h.up (Fr.rf.si (Or.inl ⟨rfl, by omega, by omega⟩)) (smW_ok h.2.2.1 hg) h.2.2.2.1 ⟨?_, fun q hq => ?_, fun q hq => ?_, fun q hq => ?_, fun q hq => ?_, fun q hq i hi => ?_⟩
  · rw [gi_si, if_neg (by omega)]; exact a1
  · rw [gi_si, if_neg (by omega)]; exact a2 q hq
  · rw [gi_si, if_neg (by omega)]; exact a3 q hq
  · rw [gi_si]
    show _ = nI (wG W q || decide (q = g)).toNat
    by_cases e : q = g
    · rw [if_pos ⟨rfl, by omega⟩, decide_eq_true e, Bool.or_true]
      rfl
    · rw [if_neg (by omega), decide_eq_false e, Bool.or_false]; exact a4 q hq
  · rw [gi_si, if_neg (by omega)]; exact a5 q hq
  · rw [gi_si, if_neg (by omega)]; exact a6 q hq i hi
theorem c_canStep_no {x y : Int32} (hx : x < 0 ∨ nI 10 ≤ x) (h : P (nI 0) z) : wX10_canStep 148 gSH w y x z P := by
  unfold wX10_canStep
  by_cases h0 : x < 0
  · rw [if_pos h0]; exact h
  · rw [if_neg h0, if_pos (show (10 : Int32) ≤ x from hx.resolve_left h0)]; exact h
theorem c_canStep (h : CW z t w S W) (hp : p < sPE S) (hc : c < 10) (hP : P (nI (decide (dst c (wC W p) = 1)).toNat) z) : wX10_canStep 148 gSH w (nI p) (nI c) z P := by
  obtain ⟨hz, ht, hw, hok, hwk, hT, hS, hW⟩ := h
  have h5 := hok.2.1
  have hcp := hwk.1 p hp
  have hds : dst c (wC W p) < 10 := by unfold dst; omega
  unfold wX10_canStep
  rw [if_neg (nI_pos (by omega)), if_neg (show ¬ (10 : Int32) ≤ nI c from nI_ge (b := 10) hc (by decide))]
  refine ⟨wO hw, _, wR5 hz hw, wA1 hw, by rw [wL1 hw]; exact vp_in_nI (by omega) (by decide), ?_⟩
  rw [nI_clamp (by omega), hW.2.2.2.1 p hp]
  rw [show (if (0 : Int32) ≤ nI c - nI (wC W p) then nI c - nI (wC W p) else 0 - (nI c - nI (wC W p))) = nI (dst c (wC W p)) from dst_c (by omega) (by omega)]
  by_cases e : dst c (wC W p) = 1
  · rw [if_pos (show nI (dst c (wC W p)) = 1 by rw [e]; rfl)]
    rw [decide_eq_true e] at hP
    exact hP
  · rw [if_neg (show ¬ nI (dst c (wC W p)) = 1 from fun q => e ((nI_eq (b := 1) (by omega) (by decide)).mp q))]
    rw [decide_eq_false e] at hP
    exact hP
theorem c_steps_no (hw : isW w) {x y : Int32} (hx : x < 0 ∨ nI 10 ≤ x) (h : P (nI 0) z) : wX10_steps 148 gSH w y x z P := ⟨wO hw, c_canStep_no hx (if0 h)⟩
theorem c_steps (h : CW z t w S W) (hp : p < sPE S) (hc : c < 10) (h0 : ¬ dst c (wC W p) = 1 → P (nI 0) z) (h1 : dst c (wC W p) = 1 → ∀ z', CW z' t w S (stW W p c) → Fr (wrC w) z z' → P (nI 1) z') : wX10_steps 148 gSH w (nI p) (nI c) z P := by
  have h5 := h.2.2.2.1.2.1
  refine ⟨wO h.2.2.1, c_canStep h hp hc (ifb0 (fun q => h0 (by simpa using q)) (fun q => ?_))⟩
  refine ⟨_, wR5 h.1 h.2.2.1, wA1 h.2.2.1, by rw [wL1 h.2.2.1]; exact vp_in_nI (by omega) (by decide), fun z7 e7 => ?_⟩
  rw [nI_clamp (by omega)] at e7
  subst e7
  exact h1 (by simpa using q) _ (h.step hp hc) (Fr.rf.si (Or.inr ⟨by omega, by omega⟩))
theorem c_canRinse (h : CW z t w S W) (hg : g < sPA S) (hP : P (nI (cRn W g).toNat) z) : wX10_canRinse 148 gSH w (nI g) z P := by
  have hl := ln_le h.2.2.2.1 h.2.2.2.2.1 hg
  have hhe := h.he hg
  obtain ⟨hz, ht, hw, hok, hwk, hT, hS, hW⟩ := h
  have h6 := hok.1
  unfold cRn at hP
  unfold ln at hl hhe
  refine ⟨wO hw, c_isBroken hw hW (by omega) (ifb0 (fun q => ?_) (fun q => ?_))⟩
  · refine ⟨_, wR6 hz hw, wA2 hw, by rw [wL2 hw]; exact vp_in_nI (by omega) (by decide), ?_⟩
    rw [nI_clamp (by omega), hhe]
    by_cases e : (wM W g).length ≤ 0
    · rw [if_pos (show nI (wM W g).length ≤ 0 from nI_le (b := 0) e (by decide))]
      rw [q, decide_eq_false (by omega)] at hP
      exact hP
    · rw [if_neg (show ¬ nI (wM W g).length ≤ 0 from nI_ge (a := 0) (by omega) (by omega))]
      rw [q, decide_eq_true (by omega)] at hP
      exact hP
  · rw [q] at hP
    exact hP
theorem c_rinses (h : CW z t w S W) (hg : g < sPA S) (h0 : cRn W g = false → P (nI 0) z) (h1 : cRn W g = true → ∀ z', CW z' t w S (rnW W g) → Fr (wrC w) z z' → P (nI 1) z') : wX10_rinses 148 gSH w (nI g) z P := by
  have h6 := h.2.2.2.1.1
  have hl := ln_le h.2.2.2.1 h.2.2.2.2.1 hg
  unfold ln at hl
  refine ⟨wO h.2.2.1, c_canRinse h hg (ifb0 h0 (fun q => ?_))⟩
  have hpos : 0 < (wM W g).length := by
    unfold cRn at q
    simp at q
    exact q.2
  have hv : vp_in (nI g) (gSH (w + 2)).2 := by rw [wL2 h.2.2.1]; exact vp_in_nI (by omega) (by decide)
  refine ⟨_, wR6 h.1 h.2.2.1, wA2 h.2.2.1, hv, hv, fun z7 e7 => ?_⟩
  have hhe := h.he hg
  unfold ln at hhe
  rw [nI_clamp (by omega), hhe, j_1, pk_sub (by omega)] at e7
  subst e7
  exact h1 q _ (h.rinse hg) (Fr.rf.si (Or.inr ⟨by omega, by omega⟩))
theorem c_pulls (h : CW z t w S W) (hg : g < sPA S) (h0 : wG W g = true → P (nI 0) z) (h1 : wG W g = false → ∀ z', CW z' t w S (plW W g) → Fr (wrC w) z z' → P (nI 1) z') : wX10_pulls 148 gSH w (nI g) z P := by
  have h6 := h.2.2.2.1.1
  refine ⟨wO h.2.2.1, c_isBroken h.2.2.1 h.2.2.2.2.2.2.2 (by omega) (ifb0 (fun q => fun z4 e4 => ?_) h0)⟩
  rw [h.2.2.2.2.2.2.2.2.1, bs_xor (by decide) (by omega)] at e4
  subst e4
  exact h1 q _ (h.pull hg) (Fr.rf.si (Or.inl ⟨rfl, by decide⟩))
theorem c_smashes (h : CW z t w S W) (hg : g < sPA S) (h0 : wG W g = true → P (nI 0) z) (h1 : wG W g = false → ∀ z', CW z' t w S (smW W g) → Fr (wrC w) z z' → P (nI 1) z') : wX10_smashes 148 gSH w (nI g) z P := by
  have h6 := h.2.2.2.1.1
  refine ⟨wO h.2.2.1, c_isBroken h.2.2.1 h.2.2.2.2.2.2.2 (by omega) (ifb0 (fun q => fun z4 e4 => ?_) h0)⟩
  rw [h.2.2.2.2.2.2.2.2.2.1, j_1, bs_setY (by decide) (by omega)] at e4
  subst e4
  exact h1 q _ (h.smash hg) (Fr.rf.si (Or.inl ⟨rfl, by decide⟩))
theorem m_mayWalk_no (hz : sR z) (hb : b ≤ 1452) (hp : p < 5) {x : Int32} (hx : x < 0 ∨ nI 10 ≤ x) (h : P (nI 0) z) : wX12_mayWalk 148 gSH 129 (nI b) (nI p) x z P := by
  refine ⟨mO, _, mR24 hz, mA145, ?_⟩
  rw [j_1, nI_add, nI_add, mL145]
  refine ⟨vp_in_nI (by omega) (by decide), fun v5 _ => ?_⟩
  rcases hx with hx | hx
  · exact m_within_lo (a := 0) (b := 9) hx (if0 h)
  · refine m_within_hi (a := 0) (b := 9) ?_ (if0 h)
    rw [Int32.le_iff_toInt_le, nI_toInt (by decide)] at hx
    rw [Int32.lt_iff_toInt_lt, nI_toInt (by decide)]
    omega
theorem m_mayWalk (h : MW z b S W) (hp : p < sPE S) (hc : c < 10) (hP : P (nI (decide (dst c (wC W p) = 1)).toNat) z) : wX12_mayWalk 148 gSH 129 (nI b) (nI p) (nI c) z P := by
  obtain ⟨hz, hok, hwk, hT, hS, hW, hb⟩ := h
  have h5 := hok.2.1
  have hcp := hwk.1 p hp
  refine ⟨mO, _, mR24 hz, mA145, ?_⟩
  rw [j_1, nI_add, nI_add, nI_clamp (by omega), mL145, hW.2.1 p hp]
  refine ⟨vp_in_nI (by omega) (by decide), fun v5 e5 => ?_⟩
  refine m_within_in (a := 0) (b := 9) (by omega) (by omega) (by decide) (if1 ?_)
  have hv : v5.toInt = (c : Int) - wC W p := by rw [e5]; exact sub_toInt (by omega) (by omega)
  unfold wX12_mayWalk_J36
  by_cases e : dst c (wC W p) = 1
  · rw [decide_eq_true e] at hP
    unfold dst at e
    by_cases c1 : v5 = nI 1
    · rw [if_pos c1]; exact hP
    · rw [if_neg c1, if_pos]
      · exact hP
      · apply eq_toInt
        have : ¬ v5.toInt = 1 := fun q => c1 (eq_toInt (q.trans (by decide)))
        rw [hv] at this ⊢
        rw [show (-nI 1).toInt = -1 by decide]
        omega
  · rw [decide_eq_false e] at hP
    unfold dst at e
    rw [if_neg (fun q => by rw [q, nI_toInt (by decide)] at hv; omega), if_neg (fun q => by rw [q, show (-nI 1).toInt = -1 by decide] at hv; omega)]
    exact hP
theorem m_mayWash (h : MW z b S W) (hg : g < sPA S) (hP : P (nI (cRn W g).toNat) z) : wX12_mayWash 148 gSH 129 (nI b) (nI g) z P := by
  have hl := ln_le h.2.1 h.2.2.1 hg
  have hhe := h.he hg
  obtain ⟨hz, hok, hwk, hT, hS, hW, hb⟩ := h
  have h6 := hok.1
  unfold cRn at hP
  unfold ln at hl hhe
  refine ⟨mO, m_isWhole hz hW hok hb hg (ifb0 (fun q => ?_) (fun q => ?_))⟩
  · rw [q] at hP
    exact hP
  · rw [q] at hP
    refine ⟨_, mR24 hz, mA145, ?_⟩
    rw [j_18, nI_add, nI_add, nI_clamp (by omega), mL145, hhe]
    refine ⟨vp_in_nI (by omega) (by decide), ?_⟩
    by_cases e : (wM W g).length ≤ 0
    · rw [if_pos (show nI (wM W g).length ≤ 0 from nI_le (b := 0) e (by decide))]
      rw [decide_eq_false (by omega)] at hP
      exact hP
    · rw [if_neg (show ¬ nI (wM W g).length ≤ 0 from nI_ge (a := 0) (by omega) (by omega))]
      rw [decide_eq_true (by omega)] at hP
      exact hP
theorem c_begin (hz : sR z) (ht : isS t) (hw : isW w) (hok : sOK S) (hS : cS z t S) (hP : ∀ z', CW z' t w S (bgW S) → Fr (wrC w) z z' → R z') : wX10_begin 148 gSH w t z R := by
  have hwd := hw.dj
  have htl := ht.le
  have h5 := hok.2.1
  have h6 := hok.1
  refine ⟨wO hw, fun z2 e2 z3 e3 z4 e4 => ?_⟩
  have hf4 : Fr (wrC w) z z4 := by
    rw [e4, e3, e2]
    exact ((Fr.rf.si (Or.inl ⟨rfl, by decide⟩)).si (Or.inl ⟨rfl, by decide⟩)).si (Or.inl ⟨rfl, by decide⟩)
  have h40 : gi z4 w 0 = 0 := by rw [e4, gi_si, if_neg (by omega), e3, gi_si, if_neg (by omega), e2, gi_si, if_pos ⟨rfl, rfl⟩]
  have h41 : gi z4 w 1 = 0 := by rw [e4, gi_si, if_neg (by omega), e3, gi_si, if_pos ⟨rfl, rfl⟩]
  have h42 : gi z4 w 2 = 0 := by rw [e4, gi_si, if_pos ⟨rfl, rfl⟩]
  clear e4 e3 e2
  refine (lp (fun m k => ∀ z1, Fr (fun a _ => a = w + 1) z4 z1 → (∀ p, p < k → gi z1 (w + 1) p = gi z (t + 7) p) → wX10_begin_L17 148 gSH R m w t (nI k) z1) 5 (fun m z1 hf hr => ?_) (fun m k hk ih z1 hf hr => ?_)).imp (fun N q => q z4 Fr.rf (fun p hp => absurd hp (Nat.not_lt_zero p)))
  · unfold wX10_begin_L17 wX10_begin_B17
    rw [if_pos (show (5 : Int32) ≤ nI 5 by decide)]
    refine (lp (fun m k => ∀ z5, Fr (fun a _ => a = w + 2) z1 z5 → (∀ p, p < k → gi z5 (w + 2) p = nI 0) → wX10_begin_L42 148 gSH R m w (nI k) z5) 6 (fun m z5 hf5 hr5 => ?_) (fun m k hk ih z5 hf5 hr5 => ?_)).imp (fun N q => q z1 Fr.rf (fun p hp => absurd hp (Nat.not_lt_zero p)))
    · unfold wX10_begin_L42 wX10_begin_B42
      rw [if_pos (show (6 : Int32) ≤ nI 6 by decide)]
      have hff : Fr (wrC w) z z5 := (hf4.tr hf (fun _ _ q => q) (fun a k q => Or.inr ⟨by omega, by omega⟩)).tr hf5 (fun _ _ q => q) (fun a k q => Or.inr ⟨by omega, by omega⟩)
      refine hP z5 ⟨hff.sR hz, ht, hw, hok, bgW_ok hok, show 0 < 2 ^ 20 by decide, hS.fr2 (fun a k q1 q2 q3 => hff.1 a k (by unfold wrC; omega)), ?_, ?_, ?_, fun q hq => ?_, fun g hg => ?_, fun g hg i hi => absurd hi (Nat.not_lt_zero i)⟩ hff
      · exact ((hf5.1 _ _ (by omega)).trans (hf.1 _ _ (by omega))).trans h40
      · exact (((hf5.1 _ _ (by omega)).trans (hf.1 _ _ (by omega))).trans h41).trans (by rw [show wD (bgW S) = fun _ => false from rfl, bs_f0]; rfl)
      · exact (((hf5.1 _ _ (by omega)).trans (hf.1 _ _ (by omega))).trans h42).trans (by rw [show wG (bgW S) = fun _ => false from rfl, bs_f0]; rfl)
      · exact ((hf5.1 _ _ (by omega)).trans (hr q (by omega))).trans (hS.2.2.2.2.2.2.2.1 q hq)
      · exact hr5 g (by omega)
    · have hz5 := hf5.sR (hf.sR (hf4.sR hz))
      unfold wX10_begin_L42 wX10_begin_B42
      rw [if_neg (show ¬ (6 : Int32) ≤ nI k from nI_ge (b := 6) hk (by decide))]
      refine ⟨wO hw, _, wR6 hz5 hw, wA2 hw, by rw [wL2 hw]; exact vp_in_nI (by omega) (by decide), fun z9 e9 v10 e10 => ?_⟩
      rw [nI_1] at e10
      rw [nI_clamp (by omega)] at e9
      subst e9 e10
      refine ih _ (hf5.si rfl) (fun p hp => ?_)
      rw [gi_si]
      by_cases e : p = k
      · rw [if_pos ⟨rfl, e⟩]; rfl
      · rw [if_neg (by omega)]; exact hr5 p (by omega)
  · have hz1 := hf.sR (hf4.sR hz)
    unfold wX10_begin_L17 wX10_begin_B17
    rw [if_neg (show ¬ (5 : Int32) ≤ nI k from nI_ge (b := 5) hk (by decide))]
    refine ⟨wO hw, _, wR5 hz1 hw, tO ht, _, tR4 hz1 ht, tA7 ht, by rw [tL7 ht]; exact vp_in_nI (by omega) (by decide), wA1 hw, by rw [wL1 hw]; exact vp_in_nI (by omega) (by decide), fun z9 e9 v10 e10 => ?_⟩
    rw [nI_1] at e10
    rw [nI_clamp (by omega)] at e9
    subst e9 e10
    refine ih _ (hf.si rfl) (fun p hp => ?_)
    rw [gi_si]
    by_cases e : p = k
    · rw [if_pos ⟨rfl, e⟩, e]
      exact (hf.1 _ _ (by omega)).trans (hf4.1 _ _ (by unfold wrC; omega))
    · rw [if_neg (by omega)]; exact hr p (by omega)
theorem m_starts (hz : sR z) (hb : b ≤ 1452) (hok : sOK S) (hS : mS z S) (hP : ∀ z', MW z' b S (bgW S) → Fr (wrM b) z z' → R z') : wX12_starts 148 gSH 129 (nI b) z R := by
  have h5 := hok.2.1
  have h6 := hok.1
  refine (lp (fun m k => ∀ z1, Fr (wrM b) z z1 → (∀ p, p < k → gi z1 145 (b + p) = nI 0) → wX12_starts_L2 148 gSH R m 129 (nI b) (nI k) z1) 60 (fun m z1 hf hr => ?_) (fun m k hk ih z1 hf hr => ?_)).imp (fun N q => q z Fr.rf (fun p hp => absurd hp (Nat.not_lt_zero p)))
  · unfold wX12_starts_L2 wX12_starts_B2
    rw [if_pos (show (60 : Int32) ≤ nI 60 by decide)]
    refine (lp (fun m k => ∀ z5, Fr (fun a j => a = 145 ∧ b + 1 ≤ j ∧ j < b + 1 + sPE S) z1 z5 → (∀ p, p < k → gi z5 145 (b + 1 + p) = nI (sHO S p)) → wX12_starts_L25 148 gSH R m 129 (nI b) (nI k) z5) (sPE S) (fun m z5 hf5 hr5 => ?_) (fun m k hk ih z5 hf5 hr5 => ?_)).imp (fun N q => q z1 Fr.rf (fun p hp => absurd hp (Nat.not_lt_zero p)))
    · have hff : Fr (wrM b) z z5 := hf.tr hf5 (fun _ _ q => q) (fun a k q => ⟨q.1, by omega, by omega⟩)
      have hS5 : mS z5 S := hS.fr (fun k => hff.1 135 k (by unfold wrM; omega))
      have hq : ∀ j, j < 60 → (j < 1 ∨ 6 ≤ j) → gi z5 145 (b + j) = nI 0 := fun j hj hj2 => (hf5.1 _ _ (by omega)).trans (hr j hj)
      unfold wX12_starts_L25 wX12_starts_B25
      refine ⟨mO, m_people (hff.sR hz) hS5 ?_⟩
      rw [if_pos (nI_le (by omega) (by omega))]
      refine hP z5 ⟨hff.sR hz, hok, bgW_ok hok, show 0 < 2 ^ 20 by decide, hS5, ⟨?_, fun q hq => hr5 q hq, fun g hg => ?_, fun g hg => ?_, fun g hg => ?_, fun g hg i hi => absurd hi (Nat.not_lt_zero i)⟩, hb⟩ hff
      · exact hq 0 (by decide) (by decide)
      · rw [show b + 6 + g = b + (6 + g) by omega]; exact hq _ (by omega) (by omega)
      · rw [show b + 12 + g = b + (12 + g) by omega]; exact hq _ (by omega) (by omega)
      · rw [show b + 18 + g = b + (18 + g) by omega]; exact hq _ (by omega) (by omega)
    · have hff : Fr (wrM b) z z5 := hf.tr hf5 (fun _ _ q => q) (fun a k q => ⟨q.1, by omega, by omega⟩)
      have hS5 : mS z5 S := hS.fr (fun k => hff.1 135 k (by unfold wrM; omega))
      have hz5 := hff.sR hz
      unfold wX12_starts_L25 wX12_starts_B25
      refine ⟨mO, m_people hz5 hS5 ?_⟩
      rw [if_neg (nI_ge hk (by omega))]
      refine ⟨_, mR24 hz5, _, mR10 hz5, mA135, ?_⟩
      rw [j_23, j_1, nI_add, nI_add, nI_add, nI_clamp (by omega), nI_clamp (by omega), mL135, mL145, hS5.2.2.2.2.2.2.2.1 k hk]
      refine ⟨vp_in_nI (by omega) (by decide), mA145, vp_in_nI (by omega) (by decide), fun z9 e9 v10 e10 => ?_⟩
      rw [nI_add] at e10
      subst e9 e10
      refine ih _ (hf5.si ⟨rfl, by omega, by omega⟩) (fun p hp => ?_)
      rw [gi_si]
      by_cases e : p = k
      · rw [if_pos ⟨rfl, by omega⟩, e]
      · rw [if_neg (by omega)]; exact hr5 p (by omega)
  · have hz1 := hf.sR hz
    unfold wX12_starts_L2 wX12_starts_B2
    rw [if_neg (show ¬ (60 : Int32) ≤ nI k from nI_ge (b := 60) hk (by decide))]
    refine ⟨mO, _, mR24 hz1, mA145, ?_⟩
    rw [nI_add, nI_clamp (by omega), mL145]
    refine ⟨vp_in_nI (by omega) (by decide), fun z9 e9 v10 e10 => ?_⟩
    rw [nI_1] at e10
    subst e9 e10
    refine ih _ (hf.si ⟨rfl, by omega, by omega⟩) (fun p hp => ?_)
    rw [gi_si]
    by_cases e : p = k
    · rw [if_pos ⟨rfl, by omega⟩]; rfl
    · rw [if_neg (by omega)]; exact hr p (by omega)
end RC
