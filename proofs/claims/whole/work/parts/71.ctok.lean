/-! ===== the class's tokens ===== -/
def aTK : Nat → Nat → Prop := fun a k => a = 1 ∧ 2 ≤ k
def bTK : Nat → Prop := fun a => a = 1
theorem cmp0 {x y : Int64} : lg_cmp x y = 0 ↔ x = y := by
  unfold lg_cmp
  by_cases h : x > y
  · rw [if_pos h]
    constructor
    · intro q; exact absurd q (by decide)
    · intro q; subst q; rw [gt_iff_lt, Int64.lt_iff_toInt_lt] at h; omega
  · rw [if_neg h]
    by_cases h2 : x = y
    · rw [if_pos h2]; simp [h2]
    · rw [if_neg h2]
      constructor
      · intro q; exact absurd q (by decide)
      · intro q; exact absurd q h2
theorem cmpN {a b : Nat} (ha : a < 2 ^ 63) (hb : b < 2 ^ 63) : lg_cmp (lN a) (lN b) = 0 ↔ a = b := cmp0.trans (pk_lEQ ha hb)
theorem cmpL {a b : Nat} (ha : a < 2 ^ 63) (hb : b < 2 ^ 63) : lg_cmp (lN a) (lN b) < 0 ↔ a < b := by
  unfold lg_cmp
  simp only [gt_iff_lt, pk_lLT hb ha, pk_lEQ ha hb]
  by_cases h : b < a
  · rw [if_pos h]
    constructor
    · intro q; exact absurd q (by decide)
    · intro q; omega
  · rw [if_neg h]
    by_cases h2 : a = b
    · rw [if_pos h2]
      constructor
      · intro q; exact absurd q (by decide)
      · intro q; omega
    · rw [if_neg h2]
      constructor
      · intro q; omega
      · intro q; decide
theorem cmpLe {a b : Nat} (ha : a < 2 ^ 63) (hb : b < 2 ^ 63) : lg_cmp (lN a) (lN b) ≤ 0 ↔ a ≤ b := by
  unfold lg_cmp
  simp only [gt_iff_lt, pk_lLT hb ha, pk_lEQ ha hb]
  by_cases h : b < a
  · rw [if_pos h]
    constructor
    · intro q; exact absurd q (by decide)
    · intro q; omega
  · rw [if_neg h]
    by_cases h2 : a = b
    · rw [if_pos h2]
      constructor
      · intro q; omega
      · intro q; decide
    · rw [if_neg h2]
      constructor
      · intro q; omega
      · intro q; decide
/-- a row of words as the class holds it: signs, what has been found and gathered ahead of each -/
def kst (W : List Nat) : Nat → Nat × Nat
  | 0 => (0, 0)
  | i + 1 => if W.getD i 0 = 32 then ((kst W i).1 + 1, 0) else ((kst W i).1, (kst W i).2 * 27 + (W.getD i 0 - 96))
def kWr : List Nat := [112, 97, 110, 101, 32, 112, 101, 114, 115, 111, 110, 32, 100, 101, 101, 100, 32, 108, 105, 103, 104, 116, 32, 102, 97, 100, 101, 115, 32, 119, 97, 108, 107, 32, 100, 111, 101, 115, 32, 119, 97, 115, 104, 32, 99, 117, 114, 116, 97, 105, 110, 32, 115, 116, 111, 110, 101, 32, 104, 111, 117, 114, 32, 107, 101, 101, 112, 115, 32, 115, 101, 101, 115, 32, 97, 116, 32, 104, 97, 114, 109, 32, 112, 108, 97, 105, 110, 32, 102, 114, 111, 115, 116, 101, 100, 32, 116, 104, 105, 99, 107, 32, 109, 105, 114, 114, 111, 114, 32, 110, 111, 116, 32, 97, 110, 100, 32, 111, 114, 32]
def kWf : List Nat := [97, 103, 101, 32, 98, 97, 100, 32, 108, 105, 116, 32, 110, 101, 119, 101, 114, 32]
def kWs (a : Nat) (W L : List Nat) : Prop := fS a ∧ fB (a + 10) ∧ gBl (a + 10) = W.length ∧ W.length < 2 ^ 20 ∧ (Int32.ofNat (gBl (a + 10)) >>> ((0 : Int32) &&& 31) = nI W.length) ∧ (∀ i, i < W.length → ((((gBv (a + 10) i) &&& (255 : Int32)).toUInt32 % 65536).toInt32) = nI (W.getD i 0)) ∧ (∀ i, i < W.length → W.getD i 0 = 32 ∨ (97 ≤ W.getD i 0 ∧ W.getD i 0 ≤ 122)) ∧ (∀ i, i < W.length → (kst W i).2 < 2 ^ 62) ∧ (∀ i, i < W.length → (kst W i).1 < L.length) ∧ (∀ i, i < W.length → W.getD i 0 = 32 → (kst W i).2 = L.getD (kst W i).1 0) ∧ (kst W W.length).1 = L.length ∧ L.length < 2 ^ 20
set_option maxRecDepth 100000 in
theorem kWs_r : kWs 1000000 kWr rL := by
  refine ⟨⟨by decide, by decide⟩, ⟨by decide, by decide⟩, by decide +kernel, by decide, by decide +kernel, by decide +kernel, by decide +kernel, by decide +kernel, by decide +kernel, by decide +kernel, by decide +kernel, by decide⟩
set_option maxRecDepth 100000 in
theorem kWs_f : kWs 1000002 kWf fL := by
  refine ⟨⟨by decide, by decide⟩, ⟨by decide, by decide⟩, by decide +kernel, by decide, by decide +kernel, by decide +kernel, by decide +kernel, by decide +kernel, by decide +kernel, by decide +kernel, by decide +kernel, by decide⟩
theorem fi_hit {L : List Nat} {v k : Nat} (hk : k < L.length) (hle : k ≤ L.findIdx (fun w => w == v)) (h : L.getD k 0 = v) : L.findIdx (fun w => w == v) = k := by
  have e : L[k] = v := by
    rw [List.getD_eq_getElem?_getD, List.getElem?_eq_getElem hk] at h
    exact h
  apply Nat.le_antisymm _ hle
  exact Nat.not_lt.mp (fun q => absurd (List.not_of_lt_findIdx q) (by simp [e]))
theorem fi_miss {L : List Nat} {v k : Nat} (hk : k < L.length) (hle : k ≤ L.findIdx (fun w => w == v)) (h : L.getD k 0 ≠ v) : k + 1 ≤ L.findIdx (fun w => w == v) := by
  rcases Nat.lt_or_ge k (L.findIdx (fun w => w == v)) with q | q
  · exact q
  · have e : L.findIdx (fun w => w == v) = k := Nat.le_antisymm q hle
    have h2 : L.findIdx (fun w => w == v) < L.length := by omega
    have := List.findIdx_getElem (p := fun w => w == v) (w := h2)
    rw [beq_iff_eq] at this
    apply absurd _ h
    rw [List.getD_eq_getElem?_getD, List.getElem?_eq_getElem hk]
    simp only [e] at this
    exact this
section RC
variable {z : gS} {tp : List Nat} {P : Int32 → gS → Prop} {R : gS → Prop}
theorem j_len {a : Nat} {W L : List Nat} (h : kWs a W L) (hP : P (nI W.length) z) : wJ0_length_8abf5 148 gSH a z P := by
  refine ⟨h.1, h.2.1, ?_⟩
  unfold wJ0_coder_7d493
  rw [if_neg (by decide)]
  refine ⟨h.1, ?_⟩
  (try dsimp only)
  rw [h.2.2.2.2.1]
  exact hP
theorem j_charAt {a i : Nat} {W L : List Nat} (h : kWs a W L) (hi : i < W.length) (hP : P (nI (W.getD i 0)) z) : wJ0_charAt_5068e 148 gSH a (nI i) z P := by
  have hl := h.2.2.2.1
  refine ⟨h.1, ?_⟩
  unfold wJ0_isLatin1_aae02
  rw [if_neg (by decide)]
  refine ⟨h.1, ?_⟩
  rw [if_pos rfl]
  (try dsimp only)
  rw [if_neg (by decide)]
  refine ⟨h.2.1, nI_pos (by omega), ?_, ?_, pk_nc _, pk_nc _, ?_⟩
  · rw [h.2.2.1]
    exact nI_lt hi (by omega)
  · rw [h.2.2.1]
    exact vp_in_nI hi (by omega)
  · rw [nI_clamp (by omega), h.2.2.2.2.2.1 i hi]
    exact hP
theorem c_placeIn {a v : Nat} {W L : List Nat} (h : kWs a W L) (hk : gi z 1 2 = nI 2) (hv : v < 2 ^ 62) (hn : gl z 1 6 = lN v) (hP : P (rI L.length (L.findIdx (fun w => w == v))) z) : wX9_placeIn 148 gSH 1 a z P := by
  refine ⟨tpO, ?_⟩
  rw [hk, if_pos (by decide)]
  have hl := h.2.2.2.1
  have hll := h.2.2.2.2.2.2.2.2.2.2.2
  refine (lp (fun m i => (kst W i).1 ≤ L.findIdx (fun w => w == v) → wX9_placeIn_L17 148 gSH P m 1 a (nI (kst W i).1) (lN (kst W i).2) (nI i) z) W.length (fun m h1 => ?_) (fun m i hi ih h1 => ?_)).imp (fun N q => q (Nat.zero_le _))
  · refine ⟨h.1, j_len h ?_⟩
    (try dsimp only)
    rw [if_pos (nI_le (Nat.le_refl _) (by omega))]
    rw [h.2.2.2.2.2.2.2.2.2.2.1] at h1
    unfold rI at hP
    rw [if_neg (by omega)] at hP
    exact hP
  · refine ⟨h.1, j_len h ?_⟩
    (try dsimp only)
    rw [if_neg (nI_ge hi (by omega))]
    refine j_charAt h hi ?_
    have c1 := h.2.2.2.2.2.2.1 i hi
    have c2 := h.2.2.2.2.2.2.2.1 i hi
    have c3 := h.2.2.2.2.2.2.2.2.1 i hi
    (try dsimp only)
    by_cases hb : W.getD i 0 = 32
    · rw [hb, if_pos (by decide)]
      have c4 := h.2.2.2.2.2.2.2.2.2.1 i hi hb
      refine ⟨tpO, ?_⟩
      rw [hn]
      refine ift (fun q => ?_) (fun q => ?_)
      · have q := (cmpN (by omega) (by omega)).mp q
        have e := fi_hit c3 h1 (c4.symm.trans q)
        unfold rI at hP
        rw [e, if_pos c3] at hP
        exact hP
      · have q := mt (cmpN (by omega) (by omega)).mpr q
        have e := fi_miss c3 h1 (fun r => q (c4.trans r))
        intro v8 e8 v9 e9
        have ek : kst W (i + 1) = ((kst W i).1 + 1, 0) := by simp only [kst]; rw [if_pos hb]
        rw [ek] at ih
        rw [nI_1] at e8 e9
        subst e8 e9
        exact ih e
    · rw [if_neg (show ¬ nI (W.getD i 0) = (32 : Int32) from fun q => hb ((nI_eq (b := 32) (by omega) (by decide)).mp q))]
      intro v11 e11 v9 e9
      have ek : kst W (i + 1) = ((kst W i).1, (kst W i).2 * 27 + (W.getD i 0 - 96)) := by simp only [kst]; rw [if_neg hb]
      rw [ek] at ih
      rw [nI_1] at e9
      subst e9
      have e2 : ((nI (W.getD i 0) - (97 : Int32)) + (1 : Int32)).toInt64 = lN (W.getD i 0 - 96) := by
        rw [j_97, pk_sub (by omega), nI_1, nI_l (by omega)]
        congr 1
        omega
      rw [e2, show (27 : Int64) = lN 27 by decide, lN_mul, lN_add] at e11
      subst e11
      exact ih h1
theorem c_placeIn_n {a : Nat} (hk : gi z 1 2 ≠ nI 2) (hP : P nN z) : wX9_placeIn 148 gSH 1 a z P := by
  refine ⟨tpO, ?_⟩
  rw [if_neg (show ¬ gi z 1 2 = (2 : Int32) from hk)]
  exact hP
theorem kch_b (hk : tOK tp) (i : Nat) : kch tp i < 127 := by
  by_cases h : i < tp.length
  · have : kch tp i ∈ tp := by
      rw [kch, List.getD_eq_getElem?_getD, List.getElem?_eq_getElem h]
      exact List.getElem_mem h
    have := hk.2 _ this
    omega
  · rw [kch_out (by omega)]; decide
theorem cT.fg (hT : cT z tp) {z' : gS} (hf : Fg aTK bTK z z') : cT z' tp := hT.fr (fun a k q => hf.1 a k (by unfold aTK; omega))
theorem c_scanWord {p : Nat} (hz : sR z) (hT : cT z tp) (hk : tOK tp) (hp : gi z 1 3 = nI p) (hpl : p < tp.length) (hP : ∀ z', gi z' 1 2 = nI (if krn klt tp p ≤ 8 then 2 else 1) → gi z' 1 3 = gi z 1 3 → gi z' 1 4 = nI (p + krn klt tp p) → (fun z' : gS => gl z' 1 6 = lN (kwv tp p (krn klt tp p))) z' → gi z' 1 7 = gi z 1 7 → Fg aTK bTK z z' → R z') : wX9_scanWord 148 gSH 1 z R := by
  have hlen := hk.1
  have hr := krn_le klt tp p
  refine ⟨tpO, fun v2 e2 z3 e3 => ?_⟩
  rw [hp] at e2
  subst e2
  refine (lp (fun m j => ∀ z4, (∀ a k, ¬ (a = 1 ∧ k = 5) → gi z4 a k = gi z a k) → (fun z4 : gS => gl z4 1 6 = lN (kwv tp p j)) z4 → Fg aTK bTK z z4 → wX9_scanWord_L10 148 gSH R m 1 (nI (p + j)) z4) (krn klt tp p) (fun m z4 h1 h2 hf => ?_) (fun m j hj ih z4 h1 h2 hf => ?_)).imp (fun N q => q z3 (fun a k q => by rw [e3]; rfl) (by rw [e3]; dsimp only; rw [gl_sl, if_pos ⟨rfl, rfl⟩]; rfl) (by rw [e3]; exact Fg.rf.sl rfl))
  · have hJ : wX9_scanWord_J71 148 gSH R 1 (nI (p + krn klt tp p)) z4 := by
      refine ⟨tpO, fun z6 e6 => ?_⟩
      have e63 : gi z6 1 3 = nI p := by rw [e6, gi_si, if_neg (by omega), h1 _ _ (by omega), hp]
      rw [e63, pk_sub (by omega), show p + krn klt tp p - p = krn klt tp p by omega]
      have hJ2 : ∀ s : Nat, s = (if krn klt tp p ≤ 8 then 2 else 1) → wX9_scanWord_J93 148 gSH R (nI s) 1 z6 := by
        intro s hs
        refine ⟨tpO, fun z8 e8 => hP z8 ?_ ?_ ?_ ?_ ?_ ?_⟩
        · rw [e8, gi_si, if_pos ⟨rfl, rfl⟩, hs]
        · rw [e8, gi_si, if_neg (by omega), e63, hp]
        · rw [e8, gi_si, if_neg (by omega), e6, gi_si, if_pos ⟨rfl, rfl⟩]
        · dsimp only; rw [e8, gl_si, e6, gl_si]; exact h2
        · rw [e8, gi_si, if_neg (by omega), e6, gi_si, if_neg (by omega), h1 _ _ (by omega)]
        · rw [e8, e6]
          exact (hf.si ⟨rfl, by decide⟩).si ⟨rfl, by decide⟩
      refine ift (fun q => hJ2 2 ?_) (fun q => hJ2 1 ?_)
      · rw [j_8, nI_leI (by omega) (by decide)] at q
        rw [if_pos q]
      · rw [j_8, nI_leI (by omega) (by decide)] at q
        rw [if_neg q]
    have he := klt_n.mp (krn_e (p := klt) (by decide) _ p (rfl : krn klt tp p = _))
    have hzz := hf.sR hz
    have hT4 := hT.fg hf
    have hcb := kch_b hk (p + krn klt tp p)
    refine ⟨tpO, ?_⟩
    rw [hT4.1]
    refine ift (fun q => hJ) (fun q => ?_)
    rw [nI_leI (by omega) (by omega)] at q
    refine ⟨_, tpR hzz, tpA, by rw [tpL]; exact vp_in_nI (by omega) (by decide), ?_⟩
    rw [nI_clamp (by omega), hT4.2 _ (by omega), show tp.getD (p + krn klt tp p) 0 = kch tp (p + krn klt tp p) from rfl]
    refine ift (fun q2 => hJ) (fun q2 => ?_)
    rw [j_97, nI_ltI (by omega) (by decide)] at q2
    refine ⟨_, tpR hzz, tpA, by rw [tpL]; exact vp_in_nI (by omega) (by decide), ?_⟩
    rw [hT4.2 _ (by omega), show tp.getD (p + krn klt tp p) 0 = kch tp (p + krn klt tp p) from rfl]
    refine ift (fun q3 => hJ) (fun q3 => ?_)
    rw [j_122, nI_ltI (by decide) (by omega)] at q3
    omega
  · have he := krn_in (p := klt) (by decide) j p hj
    have he1 := klt_i.mp he.1
    have he2 := he.2
    have hzz := hf.sR hz
    have hT4 := hT.fg hf
    refine ⟨tpO, ?_⟩
    rw [hT4.1, if_neg (nI_ge he2 (by omega))]
    refine ⟨_, tpR hzz, tpA, by rw [tpL]; exact vp_in_nI (by omega) (by decide), ?_⟩
    rw [nI_clamp (by omega), hT4.2 _ (by omega), show tp.getD (p + j) 0 = kch tp (p + j) from rfl]
    rw [if_neg (by rw [j_97, nI_ltI (by omega) (by decide)]; omega)]
    refine ⟨_, tpR hzz, tpA, by rw [tpL]; exact vp_in_nI (by omega) (by decide), ?_⟩
    rw [hT4.2 _ (by omega), show tp.getD (p + j) 0 = kch tp (p + j) from rfl, if_neg (by rw [j_122, nI_ltI (by decide) (by omega)]; omega)]
    refine ⟨_, tpR hzz, tpA, by rw [tpL]; exact vp_in_nI (by omega) (by decide), fun z19 e19 v20 e20 => ?_⟩
    rw [nI_1] at e20
    subst e20
    rw [hT4.2 _ (by omega), show tp.getD (p + j) 0 = kch tp (p + j) from rfl] at e19
    have e2 : ((nI (kch tp (p + j)) - (97 : Int32)) + (1 : Int32)).toInt64 = lN (kch tp (p + j) - 96) := by
      rw [j_97, pk_sub (by omega), nI_1, nI_l (by omega)]
      congr 1
      omega
    (try dsimp only at h2)
    rw [h2, e2, show (27 : Int64) = lN 27 by decide, lN_mul, lN_add] at e19
    refine ih z19 (fun a k q => by rw [e19]; exact h1 a k q) ?_ (by rw [e19]; exact hf.sl rfl)
    (try dsimp only)
    rw [e19, gl_sl, if_pos ⟨rfl, rfl⟩]
    rfl
theorem c_scanNumber {p : Nat} (hz : sR z) (hT : cT z tp) (hk : tOK tp) (hp : gi z 1 3 = nI p) (hpl : p < tp.length) (hP : ∀ z', gi z' 1 2 = nI (if krn kdg tp p ≤ 4 then 3 else 1) → gi z' 1 3 = gi z 1 3 → gi z' 1 4 = nI (p + krn kdg tp p) → (fun z' : gS => gi z' 1 5 = nI (knv tp p (krn kdg tp p))) z' → gi z' 1 7 = gi z 1 7 → Fg aTK bTK z z' → R z') : wX9_scanNumber 148 gSH 1 z R := by
  have hlen := hk.1
  have hr := krn_le kdg tp p
  refine ⟨tpO, fun v2 e2 z3 e3 => ?_⟩
  rw [hp] at e2
  subst e2
  refine (lp (fun m j => ∀ z4, (∀ a k, ¬ (a = 1 ∧ k = 5) → gi z4 a k = gi z a k) → (fun z4 : gS => gi z4 1 5 = nI (knv tp p j)) z4 → Fg aTK bTK z z4 → wX9_scanNumber_L10 148 gSH R m 1 (nI (p + j)) z4) (krn kdg tp p) (fun m z4 h1 h2 hf => ?_) (fun m j hj ih z4 h1 h2 hf => ?_)).imp (fun N q => q z3 (fun a k q => by rw [e3, gi_si, if_neg q]) (by rw [e3]; dsimp only; rw [gi_si, if_pos ⟨rfl, rfl⟩]; rfl) (by rw [e3]; exact Fg.rf.si ⟨rfl, by decide⟩))
  · have hJ : wX9_scanNumber_J67 148 gSH R 1 (nI (p + krn kdg tp p)) z4 := by
      refine ⟨tpO, fun z6 e6 => ?_⟩
      have e63 : gi z6 1 3 = nI p := by rw [e6, gi_si, if_neg (by omega), h1 _ _ (by omega), hp]
      rw [e63, pk_sub (by omega), show p + krn kdg tp p - p = krn kdg tp p by omega]
      have hJ2 : ∀ s : Nat, s = (if krn kdg tp p ≤ 4 then 3 else 1) → wX9_scanNumber_J88 148 gSH R (nI s) 1 z6 := by
        intro s hs
        refine ⟨tpO, fun z8 e8 => hP z8 ?_ ?_ ?_ ?_ ?_ ?_⟩
        · rw [e8, gi_si, if_pos ⟨rfl, rfl⟩, hs]
        · rw [e8, gi_si, if_neg (by omega), e63, hp]
        · rw [e8, gi_si, if_neg (by omega), e6, gi_si, if_pos ⟨rfl, rfl⟩]
        · dsimp only; rw [e8, gi_si, if_neg (by omega), e6, gi_si, if_neg (by omega)]; exact h2
        · rw [e8, gi_si, if_neg (by omega), e6, gi_si, if_neg (by omega), h1 _ _ (by omega)]
        · rw [e8, e6]
          exact (hf.si ⟨rfl, by decide⟩).si ⟨rfl, by decide⟩
      refine ift (fun q => hJ2 3 ?_) (fun q => hJ2 1 ?_)
      · rw [j_4, nI_leI (by omega) (by decide)] at q
        rw [if_pos q]
      · rw [j_4, nI_leI (by omega) (by decide)] at q
        rw [if_neg q]
    have he := kdg_n.mp (krn_e (p := kdg) (by decide) _ p (rfl : krn kdg tp p = _))
    have hzz := hf.sR hz
    have hT4 := hT.fg hf
    have hcb := kch_b hk (p + krn kdg tp p)
    refine ⟨tpO, ?_⟩
    rw [hT4.1]
    refine ift (fun q => hJ) (fun q => ?_)
    rw [nI_leI (by omega) (by omega)] at q
    refine ⟨_, tpR hzz, tpA, by rw [tpL]; exact vp_in_nI (by omega) (by decide), ?_⟩
    rw [nI_clamp (by omega), hT4.2 _ (by omega), show tp.getD (p + krn kdg tp p) 0 = kch tp (p + krn kdg tp p) from rfl]
    refine ift (fun q2 => hJ) (fun q2 => ?_)
    rw [j_48, nI_ltI (by omega) (by decide)] at q2
    refine ⟨_, tpR hzz, tpA, by rw [tpL]; exact vp_in_nI (by omega) (by decide), ?_⟩
    rw [hT4.2 _ (by omega), show tp.getD (p + krn kdg tp p) 0 = kch tp (p + krn kdg tp p) from rfl]
    refine ift (fun q3 => hJ) (fun q3 => ?_)
    rw [show (57 : Int32) = nI 57 by decide, nI_ltI (by decide) (by omega)] at q3
    omega
  · have he := krn_in (p := kdg) (by decide) j p hj
    have he1 := kdg_i.mp he.1
    have he2 := he.2
    have hzz := hf.sR hz
    have hT4 := hT.fg hf
    refine ⟨tpO, ?_⟩
    rw [hT4.1, if_neg (nI_ge he2 (by omega))]
    refine ⟨_, tpR hzz, tpA, by rw [tpL]; exact vp_in_nI (by omega) (by decide), ?_⟩
    rw [nI_clamp (by omega), hT4.2 _ (by omega), show tp.getD (p + j) 0 = kch tp (p + j) from rfl]
    rw [if_neg (by rw [j_48, nI_ltI (by omega) (by decide)]; omega)]
    refine ⟨_, tpR hzz, tpA, by rw [tpL]; exact vp_in_nI (by omega) (by decide), ?_⟩
    rw [hT4.2 _ (by omega), show tp.getD (p + j) 0 = kch tp (p + j) from rfl, if_neg (by rw [show (57 : Int32) = nI 57 by decide, nI_ltI (by decide) (by omega)]; omega)]
    refine ⟨_, tpR hzz, tpA, by rw [tpL]; exact vp_in_nI (by omega) (by decide), fun z19 e19 v20 e20 => ?_⟩
    rw [nI_1] at e20
    subst e20
    rw [hT4.2 _ (by omega), show tp.getD (p + j) 0 = kch tp (p + j) from rfl] at e19
    (try dsimp only at h2)
    rw [h2, j_10, j_48, pk_mul, pk_sub (by omega), nI_add] at e19
    refine ih z19 (fun a k q => by rw [e19, gi_si, if_neg q]; exact h1 a k q) ?_ (by rw [e19]; exact hf.si ⟨rfl, by decide⟩)
    (try dsimp only)
    rw [e19, gi_si, if_pos ⟨rfl, rfl⟩]
    rfl
theorem c_isSg {c : Nat} (hc : c < 127) (h1 : ksg c = true → ∀ k, k < 8 → P (nI k) z) (h2 : ksg c = false → P (-1) z) : wJ0_indexOf_0f7a4 148 gSH 1000001 (nI c) z P := by
  have fs : fS 1000001 := ⟨by decide, by decide⟩
  have fb : fB (1000001 + 10) := ⟨by decide, by decide⟩
  have el : gBl (1000001 + 10) = 8 := by decide +kernel
  refine ⟨fs, fs, ?_⟩
  unfold wJ0_isLatin1_aae02
  rw [if_neg (by decide)]
  refine ⟨fs, ?_⟩
  rw [if_pos rfl]
  (try dsimp only)
  rw [if_neg (by decide)]
  refine ⟨fs, fb, ?_⟩
  unfold wJ0_coder_7d493
  rw [if_neg (by decide)]
  refine ⟨fs, ?_⟩
  (try dsimp only)
  rw [el, show Int32.ofNat 8 >>> ((0 : Int32) &&& 31) = nI 8 by decide]
  unfold wJ1_indexOf_4cfef wJ1_canEncode_9a6ad
  rw [if_neg (nI_pos (by omega)), if_neg (show ¬ (255 : Int32) < nI c by rw [j_255, nI_ltI (by decide) (by omega)]; omega), if_neg (by decide)]
  intro v3 e3
  (try rw [if_neg (by decide)] at e3)
  refine ⟨fb, fun v5 e5 => ?_⟩
  rw [el, show Int32.ofNat 8 = nI 8 from rfl, if_neg (by decide)] at e5
  subst e3 e5
  rw [if_pos (by decide)]
  intro v1 e1
  rw [show (nI c).toInt8.toInt32 = nI c from (show ∀ c, c < 127 → (nI c).toInt8.toInt32 = nI c by decide +kernel) c hc] at e1
  subst e1
  have hb : ∀ k, k < 8 → gBv (1000001 + 10) k = nI (kSGl.getD k 0) := by decide +kernel
  have hq : ∀ k, k < 8 → kSGl.getD k 0 < 127 ∧ ksg (kSGl.getD k 0) = true := by decide +kernel
  refine (lp (fun m i => (∀ k, k < i → kSGl.getD k 0 ≠ c) → wJ1_indexOfChar_4cfef_L7 148 gSH P m (1000001 + 10) (nI 8) (nI c) (nI i) z) 8 (fun m h => ?_) (fun m i hi ih h => ?_)).imp (fun N q => q (fun k hk => absurd hk (Nat.not_lt_zero _)))
  · unfold wJ1_indexOfChar_4cfef_L7 wJ1_indexOfChar_4cfef_B7
    rw [if_pos (by decide)]
    apply h2
    rw [← Bool.not_eq_true]
    intro q
    unfold ksg at q
    rw [decide_eq_true_eq] at q
    obtain ⟨k, hk, e⟩ := List.getElem_of_mem q
    have hk8 : k < 8 := hk
    apply h k hk8
    rw [List.getD_eq_getElem?_getD, List.getElem?_eq_getElem hk]
    exact e
  · unfold wJ1_indexOfChar_4cfef_L7 wJ1_indexOfChar_4cfef_B7
    rw [if_neg (nI_ge hi (by decide))]
    refine ⟨fb, by rw [el]; exact vp_in_nI hi (by decide), ?_⟩
    rw [nI_clamp (by omega), hb i hi]
    refine ift (fun q => ?_) (fun q v4 e4 => ?_)
    · rw [nI_eq (by have := (hq i hi).1; omega) (by omega)] at q
      exact h1 (q ▸ (hq i hi).2) i hi
    · rw [nI_eq (by have := (hq i hi).1; omega) (by omega)] at q
      rw [nI_1] at e4
      subst e4
      refine ih (fun k hk => ?_)
      rcases Nat.lt_or_ge k i with r | r
      · exact h k r
      · rw [show k = i by omega]
        exact q
theorem krs_no {i : Nat} (h : kkd tp i ≠ 2) : krs tp i = 22 := by
  unfold krs
  rw [if_neg h]
/-- the class stands at a token -/
def cK (z : gS) (tp : List Nat) (i : Nat) : Prop := gi z 1 2 = nI (kkd tp i) ∧ gi z 1 3 = nI (kpl tp i) ∧ gi z 1 4 = nI (kpos tp (i + 1)) ∧ (kkd tp i = 3 → gi z 1 5 = nI (kvl tp i)) ∧ (kkd tp i = 2 → gl z 1 6 = lN (kvl tp i)) ∧ gi z 1 7 = rI 22 (krs tp i)
theorem cK.fg {z' : gS} {i : Nat} (h : cK z tp i) (h1 : ∀ k, 2 ≤ k → k ≤ 7 → gi z' 1 k = gi z 1 k) (h2 : gl z' 1 6 = gl z 1 6) : cK z' tp i := ⟨(h1 _ (by decide) (by decide)).trans h.1, (h1 _ (by decide) (by decide)).trans h.2.1, (h1 _ (by decide) (by decide)).trans h.2.2.1, fun q => (h1 _ (by decide) (by decide)).trans (h.2.2.2.1 q), fun q => h2.trans (h.2.2.2.2.1 q), (h1 _ (by decide) (by decide)).trans h.2.2.2.2.2⟩
theorem c_adv0 {i : Nat} (hz : sR z) (hT : cT z tp) (hk : tOK tp) (hp : gi z 1 4 = nI (kpos tp i)) (hP : ∀ z', cK z' tp i → Fg aTK bTK z z' → R z') : wX9_advance 148 gSH 1 z R := by
  have hlen := hk.1
  have hpos := kpos_le tp i
  have hple := kpl_le tp i
  have epl : kpl tp i = kpos tp i + krn kbl tp (kpos tp i) := rfl
  have eps : kpos tp (i + 1) = kpl tp i + tkN tp (kpl tp i) := rfl
  refine ⟨tpO, fun v2 e2 => ?_⟩
  rw [hp] at e2
  subst e2
  have hJ : wX9_advance_J41 148 gSH R 1 (nI (kpl tp i)) z := by
    refine ⟨tpO, fun z5 e5 z6 e6 => ?_⟩
    have hf : Fg aTK bTK z z6 := by rw [e6, e5]; exact (Fg.rf.si ⟨rfl, by decide⟩).si ⟨rfl, by decide⟩
    have hT6 := hT.fg hf
    have hz6 := hf.sR hz
    have e63 : gi z6 1 3 = nI (kpl tp i) := by rw [e6, gi_si, if_neg (by omega), e5, gi_si, if_pos ⟨rfl, rfl⟩]
    have e67 : gi z6 1 7 = nN := by rw [e6, gi_si, if_pos ⟨rfl, rfl⟩]; rfl
    rw [hT6.1]
    refine ift (fun q => ?_) (fun q => ?_)
    · rw [nI_ltI (by omega) (by omega)] at q
      refine ⟨_, tpR hz6, tpA, by rw [tpL]; exact vp_in_nI (by omega) (by decide), fun v10 e10 => ?_⟩
      rw [nI_clamp (by omega), hT6.2 _ q, show tp.getD (kpl tp i) 0 = kch tp (kpl tp i) from rfl] at e10
      subst e10
      have hcb := kch_b hk (kpl tp i)
      have hnl : klt (kch tp (kpl tp i)) = false → wX9_advance_J109 148 gSH R 1 (nI (kpl tp i)) (nI (kch tp (kpl tp i))) z6 := by
        intro hl
        have hsg : kdg (kch tp (kpl tp i)) = false → wX9_advance_J128 148 gSH R 1 (nI (kpl tp i)) (nI (kch tp (kpl tp i))) z6 := by
          intro hd
          have fin : ∀ s : Nat, s = (if ksg (kch tp (kpl tp i)) then 4 else 1) → wX9_advance_J143 148 gSH R 1 (nI (kpl tp i)) (nI s) 1 z6 := by
            intro s hs
            refine ⟨tpO, fun z15 e15 => ⟨tpO, fun z17 e17 => ?_⟩⟩
            have ekd : kkd tp i = s := by
              unfold kkd tkK
              rw [if_neg (by omega), hl, hd, hs]
              rfl
            have en : tkN tp (kpl tp i) = 1 := by
              unfold tkN
              rw [if_neg (by omega), hl, hd]
              rfl
            have hs2 : s ≠ 2 ∧ s ≠ 3 := by rw [hs]; split <;> decide
            refine hP z17 ⟨?_, ?_, ?_, fun r => by omega, fun r => by omega, ?_⟩ (by rw [e17, e15]; exact (hf.si ⟨rfl, by decide⟩).si ⟨rfl, by decide⟩)
            · rw [e17, gi_si, if_neg (by omega), e15, gi_si, if_pos ⟨rfl, rfl⟩, ekd]
            · rw [e17, gi_si, if_neg (by omega), e15, gi_si, if_neg (by omega), e63]
            · rw [e17, gi_si, if_pos ⟨rfl, rfl⟩, nI_1, eps, en]
            · rw [e17, gi_si, if_neg (by omega), e15, gi_si, if_neg (by omega), e67, krs_no (by omega)]
              rfl
          refine ⟨⟨by decide, by decide⟩, c_isSg hcb (fun h1 k hk8 => ?_) (fun h1 => ?_)⟩
          · rw [if_neg (nI_pos (by omega))]
            exact fin 4 (by rw [h1]; rfl)
          · rw [if_pos (by decide)]
            exact fin 1 (by rw [h1]; rfl)
        refine ift (fun q1 => hsg ?_) (fun q1 => ift (fun q2 => hsg ?_) (fun q2 => ?_))
        · rw [j_48, nI_ltI (by omega) (by decide)] at q1
          exact kdg_n.mpr (Or.inl q1)
        · rw [show (57 : Int32) = nI 57 by decide, nI_ltI (by decide) (by omega)] at q2
          exact kdg_n.mpr (Or.inr q2)
        · rw [j_48, nI_ltI (by omega) (by decide)] at q1
          rw [show (57 : Int32) = nI 57 by decide, nI_ltI (by decide) (by omega)] at q2
          have hd := kdg_i.mpr ⟨Nat.not_lt.mp q1, Nat.not_lt.mp q2⟩
          have ekd : kkd tp i = if krn kdg tp (kpl tp i) ≤ 4 then 3 else 1 := by
            unfold kkd tkK
            rw [if_neg (by omega), hl, hd]
            rfl
          have evl : kvl tp i = knv tp (kpl tp i) (krn kdg tp (kpl tp i)) := by
            unfold kvl tkV
            rw [hl, hd]
            rfl
          have en : tkN tp (kpl tp i) = krn kdg tp (kpl tp i) := by
            unfold tkN
            rw [if_neg (by omega), hl, hd]
            rfl
          refine ⟨tpO, c_scanNumber hz6 hT6 hk e63 q (fun z20 f2 f3 f4 f5 f7 hf2 => hP z20 ⟨?_, f3.trans e63, ?_, fun _ => ?_, fun r => ?_, ?_⟩ (hf.tr hf2))⟩
          · rw [f2, ekd]
          · rw [f4, eps, en]
          · rw [f5, evl]
          · rw [ekd] at r
            exfalso
            revert r
            split <;> decide
          · rw [f7, e67, krs_no (by rw [ekd]; split <;> decide)]
            rfl
      refine ift (fun q1 => hnl ?_) (fun q1 => ift (fun q2 => hnl ?_) (fun q2 => ?_))
      · rw [j_97, nI_ltI (by omega) (by decide)] at q1
        exact klt_n.mpr (Or.inl q1)
      · rw [j_122, nI_ltI (by decide) (by omega)] at q2
        exact klt_n.mpr (Or.inr q2)
      · rw [j_97, nI_ltI (by omega) (by decide)] at q1
        rw [j_122, nI_ltI (by decide) (by omega)] at q2
        have hl := klt_i.mpr ⟨Nat.not_lt.mp q1, Nat.not_lt.mp q2⟩
        have ekd : kkd tp i = if krn klt tp (kpl tp i) ≤ 8 then 2 else 1 := by
          unfold kkd tkK
          rw [if_neg (by omega), hl]
          rfl
        have evl : kvl tp i = kwv tp (kpl tp i) (krn klt tp (kpl tp i)) := by
          unfold kvl tkV
          rw [hl]
          rfl
        have en : tkN tp (kpl tp i) = krn klt tp (kpl tp i) := by
          unfold tkN
          rw [if_neg (by omega), hl]
          rfl
        refine c_scanWord hz6 hT6 hk e63 q (fun z25 f2 f3 f4 f5 f7 hf2 => ?_)
        have fin : ∀ z28, z28 = si z25 1 7 (rI 22 (krs tp i)) → R z28 := by
          intro z28 e28
          refine hP z28 ⟨?_, ?_, ?_, fun r => ?_, fun r => ?_, ?_⟩ (by rw [e28]; exact (hf.tr hf2).si ⟨rfl, by decide⟩)
          · rw [e28, gi_si, if_neg (by omega), f2, ekd]
          · rw [e28, gi_si, if_neg (by omega), f3, e63]
          · rw [e28, gi_si, if_neg (by omega), f4, eps, en]
          · exfalso
            rw [ekd] at r
            revert r
            split <;> decide
          · rw [e28, gl_si, f5, evl]
          · rw [e28, gi_si, if_pos ⟨rfl, rfl⟩]
        by_cases h8 : krn klt tp (kpl tp i) ≤ 8
        · rw [if_pos h8] at f2 ekd
          have hv := kvl_w ekd
          have ers : krs tp i = rsv (kvl tp i) := by unfold krs; rw [if_pos ekd]
          rw [ers] at fin
          rw [← evl] at f5
          exact c_placeIn kWs_r f2 (Nat.lt_of_lt_of_le hv (by decide)) f5 (fun z28 e28 => fin z28 e28)
        · rw [if_neg h8] at f2 ekd
          have ers : krs tp i = 22 := by unfold krs; rw [if_neg (by omega)]
          rw [ers, show rI 22 22 = nN from rfl] at fin
          exact c_placeIn_n (by rw [f2]; decide) (fun z28 e28 => fin z28 e28)
    · rw [nI_ltI (by omega) (by omega)] at q
      intro z31 e31 z32 e32
      have ekd : kkd tp i = 0 := tkK_0.mpr (Nat.not_lt.mp q)
      have e311 : gi z31 1 1 = nI tp.length := by rw [e31, gi_si, if_neg (by omega), hT6.1]
      have en : tkN tp (kpl tp i) = 0 := by
        unfold tkN
        rw [if_pos (by omega)]
      rw [e311] at e32
      refine hP z32 ⟨?_, ?_, ?_, fun r => by omega, fun r => by omega, ?_⟩ (by rw [e32, e31]; exact (hf.si ⟨rfl, by decide⟩).si ⟨rfl, by decide⟩)
      · rw [e32, gi_si, if_neg (by omega), e31, gi_si, if_pos ⟨rfl, rfl⟩, ekd]; rfl
      · rw [e32, gi_si, if_neg (by omega), e31, gi_si, if_neg (by omega), e63]
      · rw [e32, gi_si, if_pos ⟨rfl, rfl⟩, eps, en]
        congr 1
        omega
      · rw [e32, gi_si, if_neg (by omega), e31, gi_si, if_neg (by omega), e67, krs_no (by omega)]
        rfl
  refine (lp (fun m j => wX9_advance_L5 148 gSH R m 1 (nI (kpos tp i + j)) z) (krn kbl tp (kpos tp i)) (fun m => ?_) (fun m j hj ih => ?_))
  · rw [← epl]
    have he := kbl_n.mp (krn_e (p := kbl) (by decide) _ (kpos tp i) (rfl : krn kbl tp (kpos tp i) = _))
    rw [← epl] at he
    have hcb := kch_b hk (kpl tp i)
    refine ⟨tpO, ?_⟩
    rw [hT.1]
    refine ift (fun q => hJ) (fun q => ?_)
    rw [nI_leI (by omega) (by omega)] at q
    refine ⟨_, tpR hz, tpA, by rw [tpL]; exact vp_in_nI (by omega) (by decide), ?_⟩
    rw [nI_clamp (by omega), hT.2 _ (by omega), show tp.getD (kpl tp i) 0 = kch tp (kpl tp i) from rfl]
    rw [if_neg (show ¬ nI (kch tp (kpl tp i)) = 32 from fun r => he.2 ((nI_eq (b := 32) (by omega) (by decide)).mp r))]
    refine ⟨_, tpR hz, tpA, by rw [tpL]; exact vp_in_nI (by omega) (by decide), ?_⟩
    rw [hT.2 _ (by omega), show tp.getD (kpl tp i) 0 = kch tp (kpl tp i) from rfl, if_neg (show ¬ nI (kch tp (kpl tp i)) = 10 from fun r => he.1 ((nI_eq (b := 10) (by omega) (by decide)).mp r))]
    exact hJ
  · have he := krn_in (p := kbl) (by decide) j (kpos tp i) hj
    have he1 := kbl_i.mp he.1
    have he2 := he.2
    have hn : wX9_advance_J35 148 gSH (wX9_advance_L5 148 gSH R m) R 1 (nI (kpos tp i + j)) z := by
      intro v37 e37
      rw [nI_1] at e37
      subst e37
      exact ih
    refine ⟨tpO, ?_⟩
    rw [hT.1, if_neg (nI_ge he2 (by omega))]
    refine ⟨_, tpR hz, tpA, by rw [tpL]; exact vp_in_nI (by omega) (by decide), ?_⟩
    rw [nI_clamp (by omega), hT.2 _ (by omega), show tp.getD (kpos tp i + j) 0 = kch tp (kpos tp i + j) from rfl]
    refine ift (fun q => hn) (fun q => ?_)
    refine ⟨_, tpR hz, tpA, by rw [tpL]; exact vp_in_nI (by omega) (by decide), ?_⟩
    rw [hT.2 _ (by omega), show tp.getD (kpos tp i + j) 0 = kch tp (kpos tp i + j) from rfl]
    refine ift (fun q2 => hn) (fun q2 => ?_)
    rcases he1 with r | r
    · exact absurd (show nI (kch tp (kpos tp i + j)) = 10 by rw [r]; rfl) q2
    · exact absurd (show nI (kch tp (kpos tp i + j)) = 32 by rw [r]; rfl) q
theorem c_adv {i : Nat} (hz : sR z) (hT : cT z tp) (hk : tOK tp) (h : cK z tp i) (hP : ∀ z', cK z' tp (i + 1) → Fg aTK bTK z z' → R z') : wX9_advance 148 gSH 1 z R := c_adv0 hz hT hk h.2.2.1 hP
end RC
