/-! ===== the class reads an E ===== -/
def knm (tp : List Nat) (i : Nat) : Bool := decide (kkd tp i = 2) && decide (krs tp i = 22)
def kfl (tp : List Nat) (f i : Nat) : Nat := f + 16 * kpl tp i
theorem rI_eq {n r w : Nat} (hn : n < 2 ^ 31) (hw : w < n) : rI n r = nI w ↔ r = w := by
  unfold rI
  by_cases h : r < n
  · rw [if_pos h]
    exact nI_eq (by omega) (by omega)
  · rw [if_neg h]
    constructor
    · intro q
      rw [nN_eq (by omega)] at q
      exact q.elim
    · intro q; omega
theorem rI_no {n r : Nat} (hn : n < 2 ^ 31) : rI n r = -1 ↔ n ≤ r := by
  unfold rI
  by_cases h : r < n
  · rw [if_pos h, nN_e, nN_eq' (by omega)]
    simp only [false_iff]; omega
  · rw [if_neg h]
    simp only [nN_e, true_iff]; omega
section RC
variable {z : gS} {tp : List Nat} {i : Nat} {P : Int32 → gS → Prop} {R : gS → Prop}
theorem c_isSign {c : Nat} (hz : sR z) (hT : cT z tp) (hk : tOK tp) (h : cK z tp i) (hc : c < 127) (hP : P (nI (sgn tp i c).toNat) z) : wX9_isSign 148 gSH 1 (nI c) z P := by
  have hlen := hk.1
  refine ⟨tpO, ?_⟩
  rw [h.1]
  have hle := kkd_le tp i
  refine ift (fun q => ?_) (fun q => ?_)
  · rw [j_4, nI_eq (by omega) (by decide)] at q
    have hp := kkd_lt (tp := tp) (i := i) (by omega)
    rw [h.2.1]
    refine ⟨_, tpR hz, tpA, by rw [tpL]; exact vp_in_nI (by omega) (by decide), ?_⟩
    rw [nI_clamp (by omega), hT.2 _ hp, show tp.getD (kpl tp i) 0 = kch tp (kpl tp i) from rfl, ← kvl_s q]
    have hb := kch_b hk (kpl tp i)
    rw [← kvl_s q] at hb
    unfold sgn at hP
    rw [decide_eq_true q] at hP
    refine ift (fun q2 => ?_) (fun q2 => ?_)
    · rw [nI_eq (by omega) (by omega)] at q2
      rw [decide_eq_true q2] at hP
      exact hP
    · rw [nI_eq (by omega) (by omega)] at q2
      rw [decide_eq_false q2] at hP
      exact hP
  · rw [j_4, nI_eq (by omega) (by decide)] at q
    unfold sgn at hP
    rw [decide_eq_false q] at hP
    exact hP
theorem c_isNumber (h : cK z tp i) (hP : P (nI (decide (kkd tp i = 3)).toNat) z) : wX9_isNumber 148 gSH 1 z P := by
  refine ⟨tpO, ?_⟩
  rw [h.1]
  have hle := kkd_le tp i
  refine ift (fun q => ?_) (fun q => ?_)
  · rw [j_3, nI_eq (by omega) (by decide)] at q
    rw [decide_eq_true q] at hP
    exact hP
  · rw [j_3, nI_eq (by omega) (by decide)] at q
    rw [decide_eq_false q] at hP
    exact hP
theorem c_isAtEnd (h : cK z tp i) (hP : P (nI (decide (kkd tp i = 0)).toNat) z) : wX9_isAtEnd 148 gSH 1 z P := by
  refine ⟨tpO, ?_⟩
  rw [h.1]
  have hle := kkd_le tp i
  refine ift (fun q => ?_) (fun q => ?_)
  · rw [j_0, nI_eq (by omega) (by decide)] at q
    rw [decide_eq_true q] at hP
    exact hP
  · rw [j_0, nI_eq (by omega) (by decide)] at q
    rw [decide_eq_false q] at hP
    exact hP
theorem c_isName (h : cK z tp i) (hP : P (nI (knm tp i).toNat) z) : wX9_isName 148 gSH 1 z P := by
  refine ⟨tpO, ?_⟩
  rw [h.1, h.2.2.2.2.2]
  have hle := kkd_le tp i
  have hrl := krs_le tp i
  unfold knm at hP
  refine ift (fun q => ?_) (fun q => ?_)
  · rw [j_2, nI_eq (by omega) (by decide)] at q
    rw [decide_eq_true q] at hP
    refine ifi (rI_no (by decide)) (fun q2 => ?_) (fun q2 => ?_)
    · rw [decide_eq_true (show krs tp i = 22 by omega)] at hP
      exact hP
    · rw [decide_eq_false (show ¬ krs tp i = 22 by omega)] at hP
      exact hP
  · rw [j_2, nI_eq (by omega) (by decide)] at q
    rw [decide_eq_false q] at hP
    exact hP
theorem c_isWrong {f : Nat} (h : cK z tp i) (hP : ∀ z', z' = si z 1 8 (nI (kfl tp f i)) → P 0 z') : wX9_isWrong 148 gSH 1 (nI f) z P := by
  refine ⟨tpO, fun z2 e2 => hP z2 ?_⟩
  rw [e2, h.2.1, j_16, pk_mul, nI_add]
  rfl
theorem c_wrong {f : Nat} (h : cK z tp i) (hP : ∀ z', z' = si z 1 8 (nI (kfl tp f i)) → P 0 z') : wX9_isWrong 148 gSH 1 (nI f) z (fun r z' => bo r ∧ P r z') := c_isWrong h (fun z' e => ⟨bo_0, hP z' e⟩)
theorem c_takesSign {c : Nat} (hz : sR z) (hT : cT z tp) (hk : tOK tp) (h : cK z tp i) (hc : c < 127) (h1 : sgn tp i c = true → ∀ z', cK z' tp (i + 1) → Fg aTK bTK z z' → P 1 z') (h2 : sgn tp i c = false → ∀ z', z' = si z 1 8 (nI (kfl tp 1 i)) → P 0 z') : wX9_takesSign 148 gSH 1 (nI c) z P := by
  refine ⟨tpO, c_isSign hz hT hk h hc ?_⟩
  cases hs : sgn tp i c
  · rw [if_pos (show nI (false).toNat = 0 from rfl)]
    exact c_wrong (f := 1) h (h2 hs)
  · rw [if_neg (show ¬ nI (true).toNat = 0 by decide)]
    exact c_adv hz hT hk h (fun z' a b => h1 hs z' a b)
theorem c_takesWord {w : Nat} (hz : sR z) (hT : cT z tp) (hk : tOK tp) (h : cK z tp i) (hw : w < 22) (h1 : krs tp i = w → ∀ z', cK z' tp (i + 1) → Fg aTK bTK z z' → P 1 z') (h2 : krs tp i ≠ w → ∀ z', z' = si z 1 8 (nI (kfl tp 1 i)) → P 0 z') : wX9_takesWord 148 gSH 1 (nI w) z P := by
  refine ⟨tpO, ?_⟩
  rw [h.2.2.2.2.2]
  refine ifi (rI_eq (by decide) hw) (fun q => c_adv hz hT hk h (fun z' a b => h1 q z' a b)) (fun q => c_wrong (f := 1) h (h2 q))
theorem c_hasNumber {lo hi : Nat} (h : cK z tp i) (hlo : lo < 1000) (hhi : hi < 1000) (h1 : kkd tp i = 3 → lo ≤ kvl tp i → kvl tp i ≤ hi → gi z 1 5 = nI (kvl tp i) → P 1 z) (h2 : kkd tp i ≠ 3 → ∀ z', z' = si z 1 8 (nI (kfl tp 1 i)) → P 0 z') (h3 : kkd tp i = 3 → ¬ (lo ≤ kvl tp i ∧ kvl tp i ≤ hi) → ∀ z', z' = si z 1 8 (nI (kfl tp 4 i)) → P 0 z') : wX9_hasNumber 148 gSH 1 (nI lo) (nI hi) z P := by
  refine ⟨tpO, ?_⟩
  rw [h.1]
  have hle := kkd_le tp i
  refine ift (fun q => ?_) (fun q => ?_)
  · rw [j_3, nI_eq (by omega) (by decide)] at q
    have hv := kvl_n q
    have e5 := h.2.2.2.1 q
    have hJ : ¬ (lo ≤ kvl tp i ∧ kvl tp i ≤ hi) → wX9_hasNumber_J30 148 gSH P 1 z := fun r => ⟨tpO, c_isWrong (f := 4) h (fun z' e => by rw [if_pos rfl]; exact h3 q r z' e)⟩
    rw [e5]
    refine ift (fun q2 => hJ ?_) (fun q2 => ift (fun q3 => ?_) (fun q3 => hJ ?_))
    · rw [nI_ltI (by omega) (by omega)] at q2
      omega
    · rw [nI_ltI (by omega) (by omega)] at q2
      rw [nI_leI (by omega) (by omega)] at q3
      exact h1 q (by omega) q3 e5
    · rw [nI_leI (by omega) (by omega)] at q3
      omega
  · rw [j_3, nI_eq (by omega) (by decide)] at q
    exact c_wrong (f := 1) h (h2 q)
end RC
def aEX (t : Nat) : Nat → Nat → Prop := fun a k => (a = 1 ∧ 2 ≤ k) ∨ (a = t + 1 ∧ k = 2) ∨ a = t + 2
def cEl (z : gS) (t : Nat) (c : List Int32) : Prop := gi z (t + 1) 2 = nI c.length ∧ ∀ j, j < c.length → gi z (t + 2) j = c.getD j 0
def KC (z0 : gS) (t : Nat) (tp : List Nat) (z : gS) (i : Nat) (c : List Int32) : Prop := Fg (aEX t) bTK z0 z ∧ cK z tp i ∧ cEl z t c
def KF (z0 : gS) (t : Nat) (z : gS) (f : Nat) : Prop := Fg (aEX t) bTK z0 z ∧ gi z 1 8 = nI f ∧ ∃ k, k ≤ 1000 ∧ gi z (t + 1) 2 = nI k
theorem Fg.mono {A C : Nat → Nat → Prop} {B : Nat → Prop} {z z1 : gS} (h : Fg A B z z1) (hA : ∀ a k, A a k → C a k) : Fg C B z z1 := ⟨fun a k q => h.1 a k (fun r => q (hA a k r)), h.2.1, h.2.2⟩
theorem gt_apI {c : List Int32} {x : Int32} {j : Nat} : (c ++ [x]).getD j 0 = if j = c.length then x else c.getD j 0 := by
  rw [List.getD_eq_getElem?_getD]
  by_cases h : j < c.length
  · rw [List.getElem?_append_left h, if_neg (by omega), List.getD_eq_getElem?_getD]
  · rw [List.getElem?_append_right (by omega)]
    by_cases e : j = c.length
    · rw [if_pos e, e, Nat.sub_self]; rfl
    · rw [if_neg e, List.getD_eq_getElem?_getD, List.getElem?_eq_none (by simp; omega), List.getElem?_eq_none (by omega)]
section RE
variable {z0 z : gS} {t n : Nat} {tp : List Nat} {i : Nat} {c : List Int32} {P : Int32 → gS → Prop} {R : gS → Prop}
theorem KC.adv (hz0 : sR z0) (hT0 : cT z0 tp) (hk : tOK tp) (ht : isS t) (h : KC z0 t tp z i c) (hP : ∀ z', KC z0 t tp z' (i + 1) c → R z') : wX9_advance 148 gSH 1 z R := by
  have tl := ht.le
  refine c_adv (h.1.sR hz0) (hT0.fr (fun a k q => h.1.1 a k (by unfold aEX; omega))) hk h.2.1 (fun z' a b => hP z' ⟨h.1.tr (b.mono (fun a k q => Or.inl q)), a, ?_, fun j hj => ?_⟩)
  · rw [b.1 _ _ (by unfold aTK; omega)]; exact h.2.2.1
  · rw [b.1 _ _ (by unfold aTK; omega)]; exact h.2.2.2 j hj
theorem KC.wr (ht : isS t) (h : KC z0 t tp z i c) (hc : c.length ≤ 1000) {f : Nat} {z' : gS} (e : z' = si z 1 8 (nI f)) : KF z0 t z' f := by
  have tl := ht.le
  refine ⟨by rw [e]; exact h.1.si (Or.inl ⟨rfl, by decide⟩), by rw [e, gi_si, if_pos ⟨rfl, rfl⟩], c.length, hc, ?_⟩
  rw [e, gi_si, if_neg (by omega)]
  exact h.2.2.1
theorem c_add {k : Nat} {x : Int32} (hz : sR z) (ht : isS t) (hl : gi z (t + 1) 2 = nI k) (hk : k < 1000) (hP : ∀ z', z' = si (si z (t + 2) k x) (t + 1) 2 (nI (k + 1)) → R z') : wX5_add 148 gSH (t + 1) x z R := by
  refine ⟨tO1 ht, _, tRl0 hz ht, tA2 ht, ?_⟩
  rw [hl, tL2 ht, if_neg (show ¬ Int32.ofNat 1000 ≤ nI k from nI_ge (b := 1000) hk (by decide))]
  refine ⟨_, tRl0 hz ht, tA2 ht, by rw [tL2 ht]; exact vp_in_nI hk (by decide), fun z7 e7 z8 e8 => hP z8 ?_⟩
  rw [nI_clamp (by omega)] at e7
  rw [e8, e7, gi_si, if_neg (by omega), hl, nI_1]
theorem KC.add (hz0 : sR z0) (ht : isS t) (h : KC z0 t tp z i c) (hc : c.length < 1000) {x : Int32} (hP : ∀ z', KC z0 t tp z' i (c ++ [x]) → R z') : wX5_add 148 gSH (t + 1) x z R := by
  have tl := ht.le
  refine c_add (h.1.sR hz0) ht h.2.2.1 hc (fun z' e => hP z' ⟨?_, h.2.1.fg (fun k q1 q2 => ?_) ?_, ?_, fun j hj => ?_⟩)
  · rw [e]; exact (h.1.si (Or.inr (Or.inr rfl))).si (Or.inr (Or.inl ⟨rfl, rfl⟩))
  · rw [e, gi_si, if_neg (by omega), gi_si, if_neg (by omega)]
  · rw [e, gl_si, gl_si]
  · rw [e, gi_si, if_pos ⟨rfl, rfl⟩, List.length_append]; rfl
  · rw [e, gi_si, if_neg (by omega), gi_si, gt_apI]
    by_cases ej : j = c.length
    · rw [if_pos ⟨rfl, ej⟩, if_pos ej]
    · rw [if_neg (by omega), if_neg ej]
      simp only [List.length_append, List.length_singleton] at hj
      exact h.2.2.2 j (by omega)
theorem KF.add (hz0 : sR z0) (ht : isS t) {f : Nat} (h : KF z0 t z f) {x : Int32} (hP : ∀ z', KF z0 t z' f → R z') : wX5_add 148 gSH (t + 1) x z R := by
  have tl := ht.le
  obtain ⟨h1, h2, k, hk, h3⟩ := h
  by_cases hk2 : k < 1000
  · refine c_add (h1.sR hz0) ht h3 hk2 (fun z' e => hP z' ⟨?_, ?_, k + 1, hk2, ?_⟩)
    · rw [e]; exact (h1.si (Or.inr (Or.inr rfl))).si (Or.inr (Or.inl ⟨rfl, rfl⟩))
    · rw [e, gi_si, if_neg (by omega), gi_si, if_neg (by omega), h2]
    · rw [e, gi_si, if_pos ⟨rfl, rfl⟩]
  · refine ⟨tO1 ht, _, tRl0 (h1.sR hz0) ht, tA2 ht, ?_⟩
    rw [h3, tL2 ht, if_pos (show Int32.ofNat 1000 ≤ nI k from nI_le (a := 1000) (by omega) (by omega))]
    exact hP z ⟨h1, h2, k, hk, h3⟩
/-- a reader of the class keeps to what the tokens say -/
def Cn (z0 : gS) (t n : Nat) (tp : List Nat) (nx : Nat → List Int32 → pR) (w : gS → (Int32 → gS → Prop) → Prop) : Prop := ∀ z i c P, KC z0 t tp z i c → i ≤ n → c.length + 1 ≤ i → (∀ z', (nx i c).1 = 0 → KC z0 t tp z' (nx i c).2.1 (nx i c).2.2 → P 1 z') → (∀ z', (nx i c).1 ≠ 0 → KF z0 t z' (kfl tp (nx i c).1 (nx i c).2.1) → P 0 z') → w z P
theorem KC.jn (hz0 : sR z0) (hT0 : cT z0 tp) (hk : tOK tp) (ht : isS t) (h : KC z0 t tp z i c) {lv : Nat} (hlv : lv < 4) (hP : P (jnc tp lv i) z) : wX5_joinAt 148 gSH 1 (nI lv) z P := by
  have tl := ht.le
  have hz := h.1.sR hz0
  have hT : cT z tp := hT0.fr (fun a k q => h.1.1 a k (by unfold aEX; omega))
  unfold wX5_joinAt
  rcases (show lv = 0 ∨ lv = 1 ∨ lv = 2 ∨ lv = 3 by omega) with r | r | r | r
  · subst r
    rw [if_pos (by decide)]
    refine ⟨tpO, ?_⟩
    rw [h.2.1.2.2.2.2.2]
    unfold jnc at hP
    rw [if_pos rfl] at hP
    refine ifi (rI_eq (w := 20) (by decide) (by decide)) (fun q => ?_) (fun q => ifi (rI_eq (w := 21) (by decide) (by decide)) (fun q2 => ?_) (fun q2 => ?_))
    · rw [if_pos q] at hP; exact hP
    · rw [if_neg q, if_pos q2] at hP; exact hP
    · rw [if_neg q, if_neg q2] at hP; exact hP
  · subst r
    rw [if_neg (by decide), if_pos (by decide)]
    refine ⟨tpO, c_isSign (c := 60) hz hT hk h.2.1 (by decide) ?_⟩
    unfold jnc at hP
    rw [if_neg (by decide), if_pos rfl] at hP
    cases h1 : sgn tp i 60
    · rw [if_pos (show nI (false).toNat = 0 from rfl)]
      refine c_isSign (c := 61) hz hT hk h.2.1 (by decide) ?_
      cases h2 : sgn tp i 61
      · rw [if_pos (show nI (false).toNat = 0 from rfl)]
        rw [h1, h2] at hP; exact hP
      · rw [if_neg (show ¬ nI (true).toNat = 0 by decide)]
        rw [h1, h2] at hP; exact hP
    · rw [if_neg (show ¬ nI (true).toNat = 0 by decide)]
      rw [h1] at hP; exact hP
  · subst r
    rw [if_neg (by decide), if_neg (by decide), if_pos (by decide)]
    refine ⟨tpO, c_isSign (c := 43) hz hT hk h.2.1 (by decide) ?_⟩
    unfold jnc at hP
    rw [if_neg (by decide), if_neg (by decide), if_pos rfl] at hP
    cases h1 : sgn tp i 43
    · rw [if_pos (show nI (false).toNat = 0 from rfl)]
      refine c_isSign (c := 45) hz hT hk h.2.1 (by decide) ?_
      cases h2 : sgn tp i 45
      · rw [if_pos (show nI (false).toNat = 0 from rfl)]
        rw [h1, h2] at hP; exact hP
      · rw [if_neg (show ¬ nI (true).toNat = 0 by decide)]
        rw [h1, h2] at hP; exact hP
    · rw [if_neg (show ¬ nI (true).toNat = 0 by decide)]
      rw [h1] at hP; exact hP
  · subst r
    rw [if_neg (by decide), if_neg (by decide), if_neg (by decide), if_pos (by decide)]
    refine ⟨tpO, c_isSign (c := 42) hz hT hk h.2.1 (by decide) ?_⟩
    unfold jnc at hP
    rw [if_neg (by decide), if_neg (by decide), if_neg (by decide)] at hP
    cases h1 : sgn tp i 42
    · rw [if_pos (show nI (false).toNat = 0 from rfl)]
      rw [h1] at hP; exact hP
    · rw [if_neg (show ¬ nI (true).toNat = 0 by decide)]
      rw [h1] at hP; exact hP
theorem Cn_lv (hz0 : sR z0) (hT0 : cT z0 tp) (hk : tOK tp) (ht : isS t) (hn : tK tp n) {nx : Nat → List Int32 → pR} {lv k D : Nat} {dp : Int32} (hlv : lv < 4) (hQ : eQ tp n k nx) (h : Cn z0 t n tp nx (fun z P => gRd 148 gSH D 0 (t + 1) 1 (nI (lv + 1)) dp z P)) : Cn z0 t n tp (eLv tp lv nx) (fun z P => gRd 148 gSH (D + 1) 0 (t + 1) 1 (nI lv) dp z P) := by
  intro z i c P hK hi hc h1 h2
  show gRd 148 gSH (D + 1) 0 (t + 1) 1 (nI lv) dp z P
  unfold gRd
  rw [if_pos rfl]
  unfold wX5_readsLevel
  rw [if_pos (show nI lv < 4 from nI_lt (b := 4) hlv (by decide))]
  refine ⟨tO1 ht, ?_⟩
  rw [nI_1]
  obtain ⟨a1, a2, a3, a4⟩ := hQ i c hi
  unfold eLv at h1 h2
  refine h z i c _ hK hi hc (fun z2 e hK2 => ?_) (fun z2 e hF => ?_)
  · rw [if_neg (by decide)]
    rw [if_pos e] at h1 h2
    obtain ⟨b1, es, b2, b3, b4⟩ := a4 e
    have hc2 : (nx i c).2.2.length + 1 ≤ (nx i c).2.1 := by rw [b2, List.length_append]; omega
    generalize (nx i c).2.1 = i2 at h1 h2 hK2 a1 a2 b1 b3 hc2
    generalize (nx i c).2.2 = c2 at h1 h2 hK2 hc2
    have main : ∀ f x z2 i2 c2, KC z0 t tp z2 i2 c2 → i2 ≤ n → c2.length + 1 ≤ i2 → x + f < 2 ^ 20 → (∀ z', (eLp nx (jnc tp lv) f i2 c2).1 = 0 → KC z0 t tp z' (eLp nx (jnc tp lv) f i2 c2).2.1 (eLp nx (jnc tp lv) f i2 c2).2.2 → P 1 z') → (∀ z', (eLp nx (jnc tp lv) f i2 c2).1 ≠ 0 → KF z0 t z' (kfl tp (eLp nx (jnc tp lv) f i2 c2).1 (eLp nx (jnc tp lv) f i2 c2).2.1) → P 0 z') → wX5_readsLevel_L43 148 gSH (gRd 148 gSH D 0) (fun a b dp z P => gRd 148 gSH D 1 a b 0 dp z P) P (f + 1) (t + 1) 1 (nI lv) dp (nI (x + f)) (nI x) z2 := by
      intro f
      induction f with
      | zero =>
        intro x z2 i2 c2 hK2 hi2 hc2 hx g1 g2
        unfold wX5_readsLevel_L43 wX5_readsLevel_B43
        rw [if_pos (nI_le (by omega) (by omega))]
        exact g1 z2 rfl hK2
      | succ f ih =>
        intro x z2 i2 c2 hK2 hi2 hc2 hx g1 g2
        unfold wX5_readsLevel_L43 wX5_readsLevel_B43
        rw [if_neg (nI_ge (by omega) (by omega))]
        refine hK2.jn hz0 hT0 hk ht hlv ?_
        simp only [eLp] at g1 g2
        refine ift (fun q => ?_) (fun q => ?_)
        · rw [if_pos q] at g1 g2
          exact g1 z2 rfl hK2
        · rw [if_neg q] at g1 g2
          have hlt := hn.nx hi2 (jnc_0 q)
          refine ⟨tpO, hK2.adv hz0 hT0 hk ht (fun z7 hK7 => ⟨tO1 ht, ?_⟩)⟩
          rw [nI_1]
          obtain ⟨p1, p2, p3, p4⟩ := hQ (i2 + 1) c2 hlt
          refine h z7 (i2 + 1) c2 _ hK7 hlt (by omega) (fun z10 e10 hK10 => ?_) (fun z10 e10 hF10 => ?_)
          · rw [if_neg (by decide)]
            rw [if_pos e10] at g1 g2
            obtain ⟨q1, es2, q2, q3, q4⟩ := p4 e10
            refine hK10.add hz0 ht (by rw [q2, List.length_append]; have := hn.2.1; omega) (fun z13 hK13 v14 e14 => ?_)
            rw [nI_1] at e14
            subst e14
            rw [show x + (f + 1) = x + 1 + f by omega]
            exact ih (x + 1) z13 _ _ hK13 p2 (by rw [q2]; simp only [List.length_append, List.length_singleton]; omega) (by omega) g1 g2
          · rw [if_pos rfl]
            rw [if_neg e10] at g1 g2
            exact g2 z10 e10 hF10
    refine ift (fun q => ?_) (fun q => ?_)
    · rw [j_1, nI_eq (by omega) (by decide)] at q
      rw [if_pos q] at h1 h2
      have := main 1 0 z2 i2 c2 hK2 a2 hc2 (by decide) h1 h2
      exact ⟨_, this⟩
    · rw [j_1, nI_eq (by omega) (by decide)] at q
      rw [if_neg q] at h1 h2
      have := main 1000 0 z2 i2 c2 hK2 a2 hc2 (by decide) h1 h2
      exact ⟨_, this⟩
  · rw [if_pos rfl]
    rw [if_neg e] at h1 h2
    exact h2 z2 e hF
theorem Cn_l4 (ht : isS t) {nx : Nat → List Int32 → pR} {D : Nat} {dp : Int32} (h : Cn z0 t n tp nx (fun z P => gRd 148 gSH D 1 (t + 1) 1 0 dp z P)) : Cn z0 t n tp nx (fun z P => gRd 148 gSH (D + 1) 0 (t + 1) 1 (nI 4) dp z P) := by
  intro z i c P hK hi hc h1 h2
  show gRd 148 gSH (D + 1) 0 (t + 1) 1 (nI 4) dp z P
  unfold gRd
  rw [if_pos rfl]
  unfold wX5_readsLevel
  rw [if_neg (by decide)]
  exact ⟨tO1 ht, h z i c _ hK hi hc (fun z' e k => ⟨bo_1, h1 z' e k⟩) (fun z' e k => ⟨bo_0, h2 z' e k⟩)⟩
theorem Cn_E (hz0 : sR z0) (hT0 : cT z0 tp) (hk : tOK tp) (ht : isS t) (hn : tK tp n) {nx : Nat → List Int32 → pR} {k D : Nat} {dp : Int32} (hQ : eQ tp n k nx) (h : Cn z0 t n tp nx (fun z P => gRd 148 gSH D 1 (t + 1) 1 0 dp z P)) : Cn z0 t n tp (eE tp nx) (fun z P => gRd 148 gSH (D + 5) 0 (t + 1) 1 (nI 0) dp z P) :=
  Cn_lv hz0 hT0 hk ht hn (by decide) (eQ_lv hn (eQ_lv hn (eQ_lv hn hQ))) (Cn_lv hz0 hT0 hk ht hn (by decide) (eQ_lv hn (eQ_lv hn hQ)) (Cn_lv hz0 hT0 hk ht hn (by decide) (eQ_lv hn hQ) (Cn_lv hz0 hT0 hk ht hn (by decide) hQ (Cn_l4 ht h))))
theorem c_part0 (hz0 : sR z0) (hT0 : cT z0 tp) (hk : tOK tp) (ht : isS t) {rl : Nat → Nat → Int32 → Int32 → gS → (Int32 → gS → Prop) → Prop} {rp : Nat → Nat → Int32 → gS → (Int32 → gS → Prop) → Prop} {x : Int32} (h : KC z0 t tp z i c) (hJ : ePk tp i = true → wX5_readsPart_J59 148 gSH rl rp P (t + 1) 1 x (rI 4 (kfc tp i)) (nI (decide (krs tp i = 19)).toNat) (nI (sgn tp i 40).toNat) z) (hW : ePk tp i = false → ∀ z', z' = si z 1 8 (nI (kfl tp 1 i)) → P 0 z') : wX5_readsPart 148 gSH rl rp (t + 1) 1 x z P := by
  have tl := ht.le
  have hz := h.1.sR hz0
  have hT : cT z tp := hT0.fr (fun a k q => h.1.1 a k (by unfold aEX; omega))
  have hJ21 : ∀ b : Bool, b = decide (krs tp i = 19) → wX5_readsPart_J21 148 gSH rl rp P (t + 1) 1 x (rI 4 (kfc tp i)) (nI b.toNat) z := by
    intro b hb
    rw [← hb] at hJ
    refine ⟨tpO, c_isSign (c := 40) hz hT hk h.2.1 (by decide) (c_isNumber h.2.1 ?_)⟩
    unfold ePk at hJ hW
    refine ift (fun q1 => ?_) (fun q1 => ?_)
    · rw [nI_b0, decide_eq_false_iff_not] at q1
      refine ifi (rI_no (by decide)) (fun q2 => ?_) (fun q2 => hJ ?_)
      · refine ift (fun q3 => ?_) (fun q3 => hJ ?_)
        · rw [nI_b0, hb, decide_eq_false_iff_not] at q3
          refine ift (fun q4 => ?_) (fun q4 => hJ ?_)
          · rw [nI_b0] at q4
            refine c_wrong (f := 1) h.2.1 (hW ?_)
            rw [q4, decide_eq_false q1, decide_eq_false q3, decide_eq_false (show ¬ kfc tp i < 4 by omega)]
            rfl
          · rw [nI_b0, Bool.not_eq_false] at q4
            rw [q4]
            simp
        · rw [nI_b0, Bool.not_eq_false, hb] at q3
          rw [q3]
          simp
      · rw [decide_eq_true (show kfc tp i < 4 by omega)]
        simp
    · rw [nI_b0, Bool.not_eq_false] at q1
      apply hJ
      rw [q1]
      rfl
  have hle := kkd_le tp i
  refine ⟨tpO, ?_⟩
  have fin : (if (gi z 1 7) = (19 : Int32) then wX5_readsPart_J21 148 gSH rl rp P (t + 1) 1 x (rI 4 (kfc tp i)) (1 : Int32) z else wX5_readsPart_J21 148 gSH rl rp P (t + 1) 1 x (rI 4 (kfc tp i)) (0 : Int32) z) := by
    rw [h.2.1.2.2.2.2.2]
    exact ifi (rI_eq (w := 19) (by decide) (by decide)) (fun q => hJ21 true (by rw [decide_eq_true q])) (fun q => hJ21 false (by rw [decide_eq_false q]))
  by_cases h2 : kkd tp i = 2
  · have e : kfc tp i = fct (kvl tp i) := by unfold kfc; rw [if_pos h2]
    rw [e] at fin
    exact c_placeIn kWs_f (by rw [h.2.1.1, h2]) (Nat.lt_of_lt_of_le (kvl_w h2) (by decide)) (h.2.1.2.2.2.2.1 h2) fin
  · have e : kfc tp i = 4 := by unfold kfc; rw [if_neg h2]
    rw [e, show rI 4 4 = nN from rfl] at fin
    exact c_placeIn_n (by rw [h.2.1.1]; exact fun q => h2 ((nI_eq (by omega) (by decide)).mp q)) fin
theorem Cn_pt (hz0 : sR z0) (hT0 : cT z0 tp) (hk : tOK tp) (ht : isS t) (hn : tK tp n) : ∀ d D, d ≤ 5 → 6 * d + 1 ≤ D → Cn z0 t n tp (ePt tp d) (fun z P => gRd 148 gSH D 1 (t + 1) 1 0 (nI (5 - d)) z P) := by
  have tl := ht.le
  have hnn := hn.2.1
  intro d
  induction d with
  | zero =>
    intro D hd hD z i c P hK hi hc h1 h2
    obtain ⟨D, rfl⟩ : ∃ D', D = D' + 1 := ⟨D - 1, by omega⟩
    show gRd 148 gSH (D + 1) 1 (t + 1) 1 0 (nI (5 - 0)) z P
    unfold gRd
    rw [if_neg (by decide)]
    simp only [ePt] at h1 h2
    refine c_part0 hz0 hT0 hk ht hK (fun q => ?_) (fun q z' e => ?_)
    · rw [if_pos q] at h1 h2
      unfold wX5_readsPart_J59
      rw [if_neg (by decide)]
      exact ⟨tpO, c_wrong (f := 5) hK.2.1 (fun z' e => h2 z' (Nat.succ_ne_zero _) (hK.wr ht (by omega) e))⟩
    · rw [if_neg (by rw [q]; decide)] at h1 h2
      exact h2 z' (Nat.succ_ne_zero _) (hK.wr ht (by omega) e)
  | succ d ih =>
    intro D hd hD z i c P hK hi hc h1 h2
    obtain ⟨D, rfl⟩ : ∃ D', D = D' + 1 := ⟨D - 1, by omega⟩
    show gRd 148 gSH (D + 1) 1 (t + 1) 1 0 (nI (5 - (d + 1))) z P
    unfold gRd
    rw [if_neg (by decide)]
    simp only [ePt] at h1 h2
    refine c_part0 hz0 hT0 hk ht hK (fun q => ?_) (fun q z' e => ?_)
    · rw [if_pos q] at h1 h2
      have hlt := hn.nx hi (ePk_0 q)
      have edp : nI (5 - (d + 1)) + (1 : Int32) = nI (5 - d) := by rw [nI_1]; congr 1; omega
      unfold wX5_readsPart_J59
      rw [if_pos (show nI (5 - (d + 1)) < 5 from nI_lt (b := 5) (by omega) (by decide)), edp]
      refine ift (fun q1 => ?_) (fun q1 => ?_)
      · rw [nI_b0] at q1
        rw [if_neg (by rw [q1]; decide)] at h1 h2
        refine ift (fun q2 => ?_) (fun q2 => ?_)
        · rw [nI_b0, decide_eq_false_iff_not] at q2
          rw [if_neg q2] at h1 h2
          have hJ : ∀ x, x = eCd tp i → wX5_readsPart_J158 148 gSH (gRd 148 gSH D 0) (fun a b dp z P => gRd 148 gSH D 1 a b 0 dp z P) P 1 x (t + 1) z := by
            intro x hx
            refine ⟨tO1 ht, hK.add hz0 ht (by omega) (fun z10 hK10 => ⟨tpO, hK10.adv hz0 hT0 hk ht (fun z13 hK13 => h1 z13 rfl ?_)⟩)⟩
            rw [hx] at hK13
            exact hK13
          unfold ePk at q
          rw [q1, decide_eq_false q2] at q
          simp only [Bool.or_false, Bool.or_eq_true, decide_eq_true_eq] at q
          refine ifi (rI_no (by decide)) (fun q3 => ⟨tpO, hJ _ ?_⟩) (fun q3 => hJ _ ?_)
          · have h3 : kkd tp i = 3 := by rcases q with r | r; exact r; omega
            unfold eCd
            rw [if_pos h3, hK.2.1.2.2.2.1 h3]
          · have h4 : kfc tp i < 4 := by omega
            have := kfc_k h4
            unfold eCd rI
            rw [if_neg (show ¬ kkd tp i = 3 by omega), if_pos h4]
        · rw [nI_b0, Bool.not_eq_false, decide_eq_true_eq] at q2
          rw [if_pos q2] at h1 h2
          refine ⟨tpO, hK.adv hz0 hT0 hk ht (fun z18 hK18 => ⟨tO1 ht, ?_⟩)⟩
          obtain ⟨a1, a2, a3, a4⟩ := eQ_pt hn d (i + 1) c hlt
          refine ih D (by omega) (by omega) z18 (i + 1) c _ hK18 hlt (by omega) (fun z21 e21 hK21 => ?_) (fun z21 e21 hF21 => ?_)
          · rw [if_pos e21] at h1 h2
            obtain ⟨b1, es, b2, b3, b4⟩ := a4 e21
            exact hK21.add hz0 ht (by rw [b2, List.length_append]; omega) (fun z24 hK24 => ⟨bo_1, h1 z24 rfl hK24⟩)
          · rw [if_neg e21] at h1 h2
            exact hF21.add hz0 ht (fun z24 hF24 => ⟨bo_0, h2 z24 e21 hF24⟩)
      · rw [nI_b0, Bool.not_eq_false] at q1
        rw [if_pos q1] at h1 h2
        refine ⟨tpO, hK.adv hz0 hT0 hk ht (fun z27 hK27 => ⟨tO1 ht, ?_⟩)⟩
        obtain ⟨a1, a2, a3, a4⟩ := eQ_E hn (eQ_pt hn d) (i + 1) c hlt
        obtain ⟨D2, rfl⟩ : ∃ D', D = D' + 5 := ⟨D - 5, by omega⟩
        refine Cn_E hz0 hT0 hk ht hn (eQ_pt hn d) (ih D2 (by omega) (by omega)) z27 (i + 1) c _ hK27 hlt (by omega) (fun z30 e30 hK30 => ?_) (fun z30 e30 hF30 => ?_)
        · rw [if_neg (by decide)]
          rw [if_pos e30] at h1 h2
          obtain ⟨b1, es, b2, b3, b4⟩ := a4 e30
          have hz30 := hK30.1.sR hz0
          have hT30 : cT z30 tp := hT0.fr (fun a k q => hK30.1.1 a k (by unfold aEX; omega))
          have hS : wX9_takesSign 148 gSH 1 (nI 41) z30 P := by
            refine c_takesSign (c := 41) hz30 hT30 hk hK30.2.1 (by decide) (fun q5 z33 k33 f33 => ?_) (fun q5 z33 e33 => ?_)
            · rw [if_pos q5] at h1
              refine h1 z33 rfl ⟨hK30.1.tr (f33.mono (fun a k q => Or.inl q)), k33, ?_, fun j hj => ?_⟩
              · rw [f33.1 _ _ (by unfold aTK; omega)]; exact hK30.2.2.1
              · rw [f33.1 _ _ (by unfold aTK; omega)]; exact hK30.2.2.2 j hj
            · rw [if_neg (by rw [q5]; decide)] at h2
              exact h2 z33 (Nat.succ_ne_zero _) (hK30.wr ht (by rw [b2, List.length_append]; omega) e33)
          exact hS.2
        · rw [if_pos rfl]
          rw [if_neg e30] at h1 h2
          exact h2 z30 e30 hF30
    · rw [if_neg (by rw [q]; decide)] at h1 h2
      exact h2 z' (Nat.succ_ne_zero _) (hK.wr ht (by omega) e)
theorem Cn_all (hz0 : sR z0) (hT0 : cT z0 tp) (hk : tOK tp) (ht : isS t) (hn : tK tp n) : Cn z0 t n tp (eE tp (ePt tp 5)) (fun z P => wgX5_readsLevel 148 gSH (t + 1) 1 (nI 0) (nI 0) z P) := Cn_E (D := 55) hz0 hT0 hk ht hn (eQ_pt hn 5) (Cn_pt hz0 hT0 hk ht hn 5 55 (by decide) (by decide))
end RE
