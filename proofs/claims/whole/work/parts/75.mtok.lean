/-! ===== the model at a token ===== -/
def clsL : List Nat := [0, 11, 12, 1, 13, 2, 14, 3, 4, 5, 6, 7, 8, 9, 10, 15, 16, 17, 18, 19, 20, 21]
def mwd (tp : List Nat) (i w : Nat) : Bool := if w < 22 then decide (krs tp i = clsL.getD w 0) else decide (kfc tp i = w - 22)
def okJ (tp : List Nat) (n : Nat) (J : gS → Prop) : Prop := (∀ z, J z → sR z ∧ mK z tp n ∧ mWd z) ∧ (∀ z k v, k = 7 ∨ k = 8 → J z → J (si z 129 k v))
def TS (J : gS → Prop) (z : gS) (i : Nat) : Prop := J z ∧ gi z 129 7 = nI i ∧ gi z 129 8 = 0
def TF (J : gS → Prop) (z : gS) (i f : Nat) : Prop := J z ∧ gi z 129 7 = nI i ∧ gi z 129 8 = nI f ∧ 0 < f ∧ f < 2 ^ 20
theorem srt_e {k : Nat} (hk : k ≤ 4) : (nI (srt k) = 1 ↔ k = 2) ∧ (nI (srt k) = 2 ↔ k = 3) ∧ (nI (srt k) = 3 ↔ k = 4) ∧ (nI (srt k) = 0 ↔ k = 0) := by
  have : ∀ k, k ≤ 4 → (nI (srt k) = 1 ↔ k = 2) ∧ (nI (srt k) = 2 ↔ k = 3) ∧ (nI (srt k) = 3 ↔ k = 4) ∧ (nI (srt k) = 0 ↔ k = 0) := by decide
  exact this k hk
theorem rsv_at : ∀ k, k < 22 → rsv (rL.getD k 0) = k := by decide +kernel
theorem fct_at : ∀ k, k < 4 → fct (fL.getD k 0) = k := by decide +kernel
theorem fi_get {L : List Nat} {v k : Nat} (hk : k < L.length) (h : L.findIdx (fun w => w == v) = k) : v = L.getD k 0 := by
  have h2 : L.findIdx (fun w => w == v) < L.length := by omega
  have := List.findIdx_getElem (p := fun w => w == v) (w := h2)
  rw [beq_iff_eq] at this
  rw [List.getD_eq_getElem?_getD, List.getElem?_eq_getElem hk]
  simp only [h] at this
  exact this.symm
theorem rsv_i {v k : Nat} (hk : k < 22) : rsv v = k ↔ v = rL.getD k 0 := ⟨fun h => fi_get (L := rL) hk h, fun h => by rw [h]; exact rsv_at k hk⟩
theorem fct_i {v k : Nat} (hk : k < 4) : fct v = k ↔ v = fL.getD k 0 := ⟨fun h => fi_get (L := fL) hk h, fun h => by rw [h]; exact fct_at k hk⟩
theorem wd_r : ∀ w, w < 22 → clsL.getD w 0 < 22 ∧ cv (rL.getD (clsL.getD w 0) 0) = wdL.getD w 0 ∧ rL.getD (clsL.getD w 0) 0 < 27 ^ 8 := by decide +kernel
theorem wd_f : ∀ w, w < 4 → cv (fL.getD w 0) = wdL.getD (w + 22) 0 ∧ fL.getD w 0 < 27 ^ 8 := by decide +kernel
theorem wd_lt : ∀ w, w < 26 → wdL.getD w 0 < 2 ^ 62 := by decide +kernel
theorem mwd_i {tp : List Nat} {i w : Nat} (hw : w < 26) (hk : kkd tp i = 2) : mwd tp i w = true ↔ cv (kvl tp i) = wdL.getD w 0 := by
  have hv := kvl_w hk
  unfold mwd
  by_cases h : w < 22
  · rw [if_pos h, decide_eq_true_eq]
    have e : krs tp i = rsv (kvl tp i) := by unfold krs; rw [if_pos hk]
    obtain ⟨a1, a2, a3⟩ := wd_r w h
    rw [e, rsv_i a1, ← a2]
    exact ⟨fun q => by rw [q], fun q => cv_inj hv a3 q⟩
  · rw [if_neg h, decide_eq_true_eq]
    have e : kfc tp i = fct (kvl tp i) := by unfold kfc; rw [if_pos hk]
    obtain ⟨a1, a2⟩ := wd_f (w - 22) (by omega)
    rw [show w - 22 + 22 = w by omega] at a1
    rw [e, fct_i (by omega), ← a1]
    exact ⟨fun q => by rw [q], fun q => cv_inj hv a2 q⟩
theorem mwd_k {tp : List Nat} {i w : Nat} (hw : w < 26) (h : mwd tp i w = true) : kkd tp i = 2 := by
  unfold mwd at h
  by_cases q : w < 22
  · rw [if_pos q, decide_eq_true_eq] at h
    exact krs_k h (wd_r w q).1
  · rw [if_neg q, decide_eq_true_eq] at h
    exact kfc_k (by omega)
/-- the last of those of which f says so -/
def wh : Nat → (Nat → Bool) → Int32
  | 0, _ => nN
  | k + 1, f => if f k then nI k else wh k f
theorem wh_n {f : Nat → Bool} : ∀ m, (∀ k, k < m → f k = false) → wh m f = nN
  | 0, _ => rfl
  | m + 1, h => by
    simp only [wh]
    rw [h m (by omega)]
    exact wh_n m (fun k hk => h k (by omega))
theorem wh_y {f : Nat → Bool} {j : Nat} (h1 : f j = true) : ∀ m, j < m → (∀ k, k < m → f k = true → k = j) → wh m f = nI j
  | 0, h, _ => by omega
  | m + 1, h, h2 => by
    simp only [wh]
    by_cases e : m = j
    · rw [e, h1]; rfl
    · cases hf : f m
      · exact wh_y h1 m (by omega) (fun k hk => h2 k (by omega))
      · exact absurd (h2 m (by omega) hf) e
/-- the number of a word among those from one on -/
def rO (lo m r : Nat) : Int32 := if lo ≤ r ∧ r < lo + m then nI (r - lo) else nN
theorem wh_r {tp : List Nat} {i lo m : Nat} (F : Nat) (hc : ∀ k, k < m → F + k < 22 ∧ clsL.getD (F + k) 0 = lo + k) : wh m (fun k => mwd tp i (F + k)) = rO lo m (krs tp i) := by
  have e : ∀ k, k < m → mwd tp i (F + k) = decide (krs tp i = lo + k) := fun k hk => by
    unfold mwd
    rw [if_pos (hc k hk).1, (hc k hk).2]
  unfold rO
  by_cases h : lo ≤ krs tp i ∧ krs tp i < lo + m
  · rw [if_pos h]
    refine wh_y (j := krs tp i - lo) ?_ m (by omega) (fun k hk q => ?_)
    · show mwd tp i (F + (krs tp i - lo)) = true
      rw [e _ (by omega), decide_eq_true_eq]
      omega
    · have q : mwd tp i (F + k) = true := q
      rw [e k hk, decide_eq_true_eq] at q
      omega
  · rw [if_neg h]
    refine wh_n m (fun k hk => ?_)
    show mwd tp i (F + k) = false
    rw [e k hk, decide_eq_false_iff_not]
    omega
theorem wh_15 {tp : List Nat} {i : Nat} : wh 4 (fun k => mwd tp i (15 + k)) = rO 15 4 (krs tp i) := wh_r 15 (by decide)
theorem wh_7 {tp : List Nat} {i : Nat} : wh 2 (fun k => mwd tp i (7 + k)) = rO 3 2 (krs tp i) := wh_r 7 (by decide)
theorem wh_9 {tp : List Nat} {i : Nat} : wh 6 (fun k => mwd tp i (9 + k)) = rO 5 6 (krs tp i) := wh_r 9 (by decide)
theorem wh_22 {tp : List Nat} {i : Nat} : wh 4 (fun k => mwd tp i (22 + k)) = rI 4 (kfc tp i) := by
  have hl := kfc_le tp i
  have e : ∀ k, mwd tp i (22 + k) = decide (kfc tp i = k) := fun k => by
    unfold mwd
    rw [if_neg (by omega), show 22 + k - 22 = k by omega]
  unfold rI
  by_cases h : kfc tp i < 4
  · rw [if_pos h]
    refine wh_y (j := kfc tp i) ?_ 4 h (fun k hk q => ?_)
    · show mwd tp i (22 + kfc tp i) = true
      rw [e]; simp
    · have q : mwd tp i (22 + k) = true := q
      rw [e, decide_eq_true_eq] at q
      exact q.symm
  · rw [if_neg h]
    refine wh_n 4 (fun k hk => ?_)
    show mwd tp i (22 + k) = false
    rw [e, decide_eq_false_iff_not]
    omega
theorem cls_inv : ∀ r, r < 22 → ∃ w, w < 22 ∧ clsL.getD w 0 = r := by decide +kernel
theorem wh_0 {tp : List Nat} {i : Nat} : (0 ≤ wh 22 (fun k => mwd tp i (0 + k))) ↔ krs tp i < 22 := by
  by_cases h : krs tp i < 22
  · obtain ⟨w, hw, e⟩ := cls_inv _ h
    have hm : ∀ k, k < 22 → (mwd tp i (0 + k) = true ↔ krs tp i = clsL.getD k 0) := fun k hk => by
      unfold mwd
      rw [Nat.zero_add, if_pos hk, decide_eq_true_eq]
    have hinj : ∀ k, k < 22 → ∀ w, w < 22 → clsL.getD k 0 = clsL.getD w 0 → k = w := by decide +kernel
    rw [wh_y (j := w) ((hm w hw).mpr e.symm) 22 hw (fun k hk q => hinj k hk w hw ((((hm k hk).mp q).symm.trans e.symm)))]
    simp only [h, iff_true]
    exact nI_pos' (by omega)
  · rw [wh_n 22 (fun k hk => by
      show mwd tp i (0 + k) = false
      unfold mwd
      rw [Nat.zero_add, if_pos hk, decide_eq_false_iff_not]
      have := (wd_r k hk).1
      omega)]
    simp only [h, iff_false]
    decide
section RM
variable {z : gS} {tp : List Nat} {n i f : Nat} {J : gS → Prop} {P : Int32 → gS → Prop} {R : gS → Prop}
theorem TS.to (hJ : okJ tp n J) (h : TS J z i) {z' : gS} {j : Nat} (e : z' = si z 129 7 (nI j)) : TS J z' j := ⟨by rw [e]; exact hJ.2 _ _ _ (Or.inl rfl) h.1, by rw [e, gi_si, if_pos ⟨rfl, rfl⟩], by rw [e, gi_si, if_neg (by omega)]; exact h.2.2⟩
theorem TF.to (hJ : okJ tp n J) (h : TF J z i f) {z' : gS} {j : Nat} (e : z' = si z 129 7 (nI j)) : TF J z' j f := ⟨by rw [e]; exact hJ.2 _ _ _ (Or.inl rfl) h.1, by rw [e, gi_si, if_pos ⟨rfl, rfl⟩], by rw [e, gi_si, if_neg (by omega)]; exact h.2.2.1, h.2.2.2⟩
theorem TF.n0 (h : TF J z i f) : ¬ gi z 129 8 = 0 := by rw [h.2.2.1]; exact nI_ne0 h.2.2.2.1 (by have := h.2.2.2.2; omega)
theorem TF.np (h : TF J z i f) : ¬ gi z 129 8 ≤ 0 := by rw [h.2.2.1]; exact nI_nle h.2.2.2.1 (by have := h.2.2.2.2; omega)
theorem TS.p0 (h : TS J z i) : gi z 129 8 ≤ 0 := by rw [h.2.2]; decide
theorem mI {n i : Nat} (hn : n ≤ 1000) (hi : i ≤ n) : vp_in (nI i) 1002 := vp_in_nI (by omega) (by decide)
theorem m_wrong {k : Nat} (hJ : okJ tp n J) (hi : i ≤ n) (hl : tp.length ≤ 1000) (hk : 0 < k) (hk6 : k < 6) (h : TS J z i) (hP : ∀ z', TF J z' i (kfl tp k i) → R z') : wX12_wrong 148 gSH 129 (nI k) z R := by
  obtain ⟨j1, j2, j3⟩ := hJ.1 z h.1
  have hn := j2.2.1
  have hp := kpl_le tp i
  refine ⟨mO, ?_⟩
  rw [if_pos h.2.2, h.2.1]
  refine ⟨_, mR5 j1, mA132, by rw [mL132]; exact mI hn hi, fun z5 e5 => hP z5 ?_⟩
  rw [nI_clamp (by omega), (j2.2.2.2 i hi).2.1, j_16, pk_mul, nI_add] at e5
  refine ⟨by rw [e5]; exact hJ.2 _ _ _ (Or.inr rfl) h.1, by rw [e5, gi_si, if_neg (by omega)]; exact h.2.1, by rw [e5, gi_si, if_pos ⟨rfl, rfl⟩]; rfl, by unfold kfl; omega, by unfold kfl; omega⟩
theorem m_wrong_f {k : Int32} (h : TF J z i f) (hP : R z) : wX12_wrong 148 gSH 129 k z R := by
  refine ⟨mO, ?_⟩
  rw [if_neg h.n0]
  exact hP
theorem m_isSign {c : Nat} (hJ : okJ tp n J) (hk : tOK tp) (hi : i ≤ n) (hc : c < 127) (h : TS J z i) (hP : P (nI (sgn tp i c).toNat) z) : wX12_isSign 148 gSH 129 (nI c) z P := by
  obtain ⟨j1, j2, j3⟩ := hJ.1 z h.1
  have hn := j2.2.1
  have hr := j2.2.2.2 i hi
  refine ⟨mO, ?_⟩
  rw [if_pos h.2.2, h.2.1]
  refine ⟨_, mR4 j1, mA131, by rw [mL131]; exact mI hn hi, ?_⟩
  rw [nI_clamp (by omega), hr.1]
  unfold sgn at hP
  refine ifi (srt_e (kkd_le tp i)).2.2.1 (fun q => ?_) (fun q => ?_)
  · refine ⟨_, mR6 j1, mA133, by rw [mL133]; exact mI hn hi, ?_⟩
    have hb := kch_b hk (kpl tp i)
    rw [← kvl_s q] at hb
    rw [hr.2.2.2 (Or.inr q), nI_l (by omega)]
    rw [decide_eq_true q] at hP
    refine ifi (cmpN (by omega) (by omega)) (fun q2 => ?_) (fun q2 => ?_)
    · rw [decide_eq_true q2] at hP; exact hP
    · rw [decide_eq_false q2] at hP; exact hP
  · rw [decide_eq_false q] at hP; exact hP
theorem m_isSign_f {c : Int32} (h : TF J z i f) (hP : P 0 z) : wX12_isSign 148 gSH 129 c z P := by
  refine ⟨mO, ?_⟩
  rw [if_neg h.n0]
  exact hP
theorem m_isWord {w : Nat} (hJ : okJ tp n J) (hi : i ≤ n) (hw : w < 26) (h : TS J z i) (hP : P (nI (mwd tp i w).toNat) z) : wX12_isWord 148 gSH 129 (nI w) z P := by
  obtain ⟨j1, j2, j3⟩ := hJ.1 z h.1
  have hn := j2.2.1
  have hr := j2.2.2.2 i hi
  refine ⟨mO, ?_⟩
  rw [if_pos h.2.2, h.2.1]
  refine ⟨_, mR4 j1, mA131, by rw [mL131]; exact mI hn hi, ?_⟩
  rw [nI_clamp (by omega), hr.1]
  refine ifi (srt_e (kkd_le tp i)).1 (fun q => ?_) (fun q => ?_)
  · refine ⟨_, mR6 j1, mA133, by rw [mL133]; exact mI hn hi, _, mR9 j1, mA134, by rw [mL134]; exact vp_in_nI hw (by decide), ?_⟩
    have a := cv_lt (kvl tp i)
    have b := wd_lt w hw
    rw [hr.2.2.1 q, nI_clamp (by omega), j3 w hw]
    refine ifi ((cmpN (by omega) (by omega)).trans (mwd_i hw q).symm) (fun q2 => ?_) (fun q2 => ?_)
    · rw [q2] at hP; exact hP
    · rw [Bool.not_eq_true] at q2
      rw [q2] at hP; exact hP
  · have e : mwd tp i w = false := by
      rw [← Bool.not_eq_true]
      exact fun r => q (mwd_k hw r)
    rw [e] at hP
    exact hP
theorem m_isWord_f {c : Int32} (h : TF J z i f) (hP : P 0 z) : wX12_isWord 148 gSH 129 c z P := by
  refine ⟨mO, ?_⟩
  rw [if_neg h.n0]
  exact hP
theorem m_hasSign {c : Nat} (hJ : okJ tp n J) (hk : tOK tp) (hi : i ≤ n) (hc : c < 127) (h : TS J z i) (h1 : sgn tp i c = true → ∀ z', TS J z' (i + 1) → P 1 z') (h2 : sgn tp i c = false → ∀ z', TS J z' i → P 0 z') : wX12_hasSign 148 gSH 129 (nI c) z P := by
  refine ⟨mO, m_isSign hJ hk hi hc h ?_⟩
  rw [h.2.1]
  cases hs : sgn tp i c
  · rw [if_pos (show nI (false).toNat = 0 from rfl)]
    refine ⟨mO, fun z5 e5 => ⟨bo_0, h2 hs z5 (h.to hJ ?_)⟩⟩
    rw [e5, j_0, nI_add]; rfl
  · rw [if_neg (show ¬ nI (true).toNat = 0 by decide)]
    refine ⟨mO, fun z5 e5 => ⟨bo_1, h1 hs z5 (h.to hJ ?_)⟩⟩
    rw [e5, nI_1]
theorem m_hasSign_f {c : Int32} (hJ : okJ tp n J) (h : TF J z i f) (h2 : ∀ z', TF J z' i f → P 0 z') : wX12_hasSign 148 gSH 129 c z P := by
  refine ⟨mO, m_isSign_f h ?_⟩
  rw [h.2.1, if_pos rfl]
  refine ⟨mO, fun z5 e5 => ⟨bo_0, h2 z5 (h.to hJ ?_)⟩⟩
  rw [e5, j_0, nI_add]; rfl
theorem m_hasWord {w : Nat} (hJ : okJ tp n J) (hi : i ≤ n) (hw : w < 26) (h : TS J z i) (h1 : mwd tp i w = true → ∀ z', TS J z' (i + 1) → P 1 z') (h2 : mwd tp i w = false → ∀ z', TS J z' i → P 0 z') : wX12_hasWord 148 gSH 129 (nI w) z P := by
  refine ⟨mO, m_isWord hJ hi hw h ?_⟩
  rw [h.2.1]
  cases hs : mwd tp i w
  · rw [if_pos (show nI (false).toNat = 0 from rfl)]
    refine ⟨mO, fun z5 e5 => ⟨bo_0, h2 hs z5 (h.to hJ ?_)⟩⟩
    rw [e5, j_0, nI_add]; rfl
  · rw [if_neg (show ¬ nI (true).toNat = 0 by decide)]
    refine ⟨mO, fun z5 e5 => ⟨bo_1, h1 hs z5 (h.to hJ ?_)⟩⟩
    rw [e5, nI_1]
theorem m_hasWord_f {c : Int32} (hJ : okJ tp n J) (h : TF J z i f) (h2 : ∀ z', TF J z' i f → P 0 z') : wX12_hasWord 148 gSH 129 c z P := by
  refine ⟨mO, m_isWord_f h ?_⟩
  rw [h.2.1, if_pos rfl]
  refine ⟨mO, fun z5 e5 => ⟨bo_0, h2 z5 (h.to hJ ?_)⟩⟩
  rw [e5, j_0, nI_add]; rfl
theorem m_takeSign {c : Nat} (hJ : okJ tp n J) (hk : tOK tp) (hi : i ≤ n) (hc : c < 127) (h : TS J z i) (h1 : sgn tp i c = true → ∀ z', TS J z' (i + 1) → R z') (h2 : sgn tp i c = false → ∀ z', TF J z' i (kfl tp 1 i) → R z') : wX12_takeSign 148 gSH 129 (nI c) z R := by
  refine ⟨mO, m_isSign hJ hk hi hc h ?_⟩
  cases hs : sgn tp i c
  · rw [if_pos (show nI (false).toNat = 0 from rfl)]
    exact m_wrong (k := 1) hJ hi hk.1 (by decide) (by decide) h (h2 hs)
  · rw [if_neg (show ¬ nI (true).toNat = 0 by decide)]
    intro z6 e6
    rw [h.2.1, nI_1] at e6
    exact h1 hs z6 (h.to hJ e6)
theorem m_takeSign_f {c : Int32} (h : TF J z i f) (hP : R z) : wX12_takeSign 148 gSH 129 c z R := by
  refine ⟨mO, m_isSign_f h ?_⟩
  rw [if_pos rfl]
  exact m_wrong_f h hP
theorem m_takeWord {w : Nat} (hJ : okJ tp n J) (hl : tp.length ≤ 1000) (hi : i ≤ n) (hw : w < 26) (h : TS J z i) (h1 : mwd tp i w = true → ∀ z', TS J z' (i + 1) → R z') (h2 : mwd tp i w = false → ∀ z', TF J z' i (kfl tp 1 i) → R z') : wX12_takeWord 148 gSH 129 (nI w) z R := by
  refine ⟨mO, m_hasWord hJ hi hw h (fun q z' k => ?_) (fun q z' k => ?_)⟩
  · rw [if_neg (by decide)]
    exact h1 q z' k
  · rw [if_pos rfl]
    exact m_wrong (k := 1) hJ hi hl (by decide) (by decide) k (h2 q)
theorem m_takeWord_f {c : Int32} (hJ : okJ tp n J) (h : TF J z i f) (hP : ∀ z', TF J z' i f → R z') : wX12_takeWord 148 gSH 129 c z R := by
  refine ⟨mO, m_hasWord_f hJ h (fun z' k => ?_)⟩
  rw [if_pos rfl]
  exact m_wrong_f k (hP z' k)
theorem m_takeNumber {lo hi' : Nat} (hJ : okJ tp n J) (hl : tp.length ≤ 1000) (hn : tK tp n) (hi : i ≤ n) (hlo : lo < 1000) (hhi : hi' < 1000) (h : TS J z i) (h1 : kkd tp i = 3 → lo ≤ kvl tp i → kvl tp i ≤ hi' → ∀ z', TS J z' (i + 1) → P (nI (kvl tp i)) z') (h2 : kkd tp i ≠ 3 → ∀ z', TF J z' i (kfl tp 1 i) → P 0 z') (h3 : kkd tp i = 3 → ¬ (lo ≤ kvl tp i ∧ kvl tp i ≤ hi') → ∀ z', TF J z' i (kfl tp 4 i) → P 0 z') : wX12_takeNumber 148 gSH 129 (nI lo) (nI hi') z P := by
  obtain ⟨j1, j2, j3⟩ := hJ.1 z h.1
  have hn2 := j2.2.1
  have hr := j2.2.2.2 i hi
  have hF : ∀ k z', TF J z' i (kfl tp k i) → (∀ z', TF J z' i (kfl tp k i) → P 0 z') → wX12_takeNumber_J70 148 gSH P 129 z' := by
    intro k z' h' hp
    refine ⟨mO, ?_⟩
    rw [if_neg h'.np]
    exact hp z' h'
  refine ⟨mO, ?_⟩
  rw [if_pos h.2.2, h.2.1]
  refine ⟨_, mR4 j1, mA131, by rw [mL131]; exact mI hn2 hi, ?_⟩
  rw [nI_clamp (by omega), hr.1]
  refine ifi (srt_e (kkd_le tp i)).2.1 (fun q => ?_) (fun q => ?_)
  · have hv := kvl_n q
    have hlt := hn.nx hi (by omega)
    refine ⟨mO, ?_⟩
    rw [if_pos h.2.2, h.2.1]
    have hJ65 : ¬ (lo ≤ kvl tp i ∧ kvl tp i ≤ hi') → wX12_takeNumber_J65 148 gSH P 129 z := fun r => ⟨mO, m_wrong (k := 4) hJ hi hl (by decide) (by decide) h (fun z' h' => hF 4 z' h' (h3 q r))⟩
    refine ⟨_, mR6 j1, mA133, by rw [mL133]; exact mI hn2 hi, ?_⟩
    rw [nI_clamp (by omega), hr.2.2.2 (Or.inl q), nI_l (by omega)]
    refine ifi (cmpL (by omega) (by omega)) (fun q2 => hJ65 (by omega)) (fun q2 => ?_)
    refine ⟨_, mR6 j1, mA133, by rw [mL133]; exact mI hn2 hi, ?_⟩
    rw [hr.2.2.2 (Or.inl q), nI_l (by omega)]
    refine ifi (cmpLe (by omega) (by omega)) (fun q3 => ?_) (fun q3 => hJ65 (by omega))
    refine ⟨mO, ?_⟩
    rw [if_pos h.p0, h.2.1, nI_1]
    intro z4 e4
    have h4 := h.to hJ e4
    obtain ⟨k1, k2, k3⟩ := hJ.1 z4 h4.1
    rw [h4.2.1, j_1, pk_sub (by omega), show i + 1 - 1 = i by omega]
    refine ⟨_, mR6 k1, mA133, by rw [mL133]; exact mI hn2 hi, ?_⟩
    rw [nI_clamp (by omega), (k2.2.2.2 i hi).2.2.2 (Or.inl q), lN_i]
    exact h1 q (by omega) q3 z4 h4
  · exact m_wrong (k := 1) hJ hi hl (by decide) (by decide) h (fun z' h' => hF 1 z' h' (h2 q))
theorem m_takeNumber_f {a b : Int32} (h : TF J z i f) (hP : P 0 z) : wX12_takeNumber 148 gSH 129 a b z P := by
  refine ⟨mO, ?_⟩
  rw [if_neg h.n0]
  refine ⟨mO, ?_⟩
  rw [if_neg h.n0]
  refine ⟨mO, ?_⟩
  rw [if_neg h.np]
  exact hP
theorem m_wordHere {F m : Nat} (hJ : okJ tp n J) (hi : i ≤ n) (hw : F + m ≤ 26) (h : TS J z i) (hP : P (wh m (fun k => mwd tp i (F + k))) z) : wX12_wordHere 148 gSH 129 (nI F) (nI m) z P := by
  refine (lp (fun N k => wX12_wordHere_L5 148 gSH P N 129 (nI F) (nI m) (wh k (fun k => mwd tp i (F + k))) (nI k) z) m (fun N => ?_) (fun N k hk ih => ?_))
  · unfold wX12_wordHere_L5 wX12_wordHere_B5
    rw [if_pos (nI_le (Nat.le_refl _) (by omega))]
    exact hP
  · unfold wX12_wordHere_L5 wX12_wordHere_B5
    rw [if_neg (nI_ge hk (by omega)), nI_add]
    refine ⟨mO, m_isWord hJ hi (by omega) h ?_⟩
    simp only [wh] at ih
    cases hs : mwd tp i (F + k)
    · rw [if_pos (show nI (false).toNat = 0 from rfl)]
      intro v4 e4
      rw [nI_1] at e4
      subst e4
      rw [if_neg (show ¬ mwd tp i (F + k) = true by rw [hs]; decide)] at ih
      exact ih
    · rw [if_neg (show ¬ nI (true).toNat = 0 by decide)]
      intro v4 e4
      rw [nI_1] at e4
      subst e4
      rw [if_pos hs] at ih
      exact ih
theorem m_isName (hJ : okJ tp n J) (hi : i ≤ n) (h : TS J z i) (hP : P (nI (knm tp i).toNat) z) : wX12_isName 148 gSH 129 z P := by
  obtain ⟨j1, j2, j3⟩ := hJ.1 z h.1
  have hn := j2.2.1
  have hr := j2.2.2.2 i hi
  have hrl := krs_le tp i
  refine ⟨mO, ?_⟩
  rw [if_pos h.2.2, h.2.1]
  refine ⟨_, mR4 j1, mA131, by rw [mL131]; exact mI hn hi, ?_⟩
  rw [nI_clamp (by omega), hr.1]
  unfold knm at hP
  refine ifi (srt_e (kkd_le tp i)).1 (fun q => ?_) (fun q => ?_)
  · rw [decide_eq_true q] at hP
    refine m_wordHere (F := 0) (m := 22) hJ hi (by decide) h ?_
    refine ifi wh_0 (fun q2 => ?_) (fun q2 => ?_)
    · rw [decide_eq_false (show ¬ krs tp i = 22 by omega)] at hP; exact hP
    · rw [decide_eq_true (show krs tp i = 22 by omega)] at hP; exact hP
  · rw [decide_eq_false q] at hP
    exact hP
end RM
