/-! ===== the constructors ===== -/
def shN (n b : Nat) : Nat × Nat := if b < n then gSH b else (9, 0)
theorem shN_up {n : Nat} {v : Nat × Nat} (h : gSH n = v) : va_up (shN n) n v = shN (n + 1) := by
  funext b
  unfold va_up shN
  by_cases e : b = n
  · rw [if_pos e, if_pos (by omega), e, h]
  · rw [if_neg e]
    by_cases q : b < n
    · rw [if_pos q, if_pos (by omega)]
    · rw [if_neg q, if_neg (by omega)]
theorem shN_0 : (fun _ => (9, 0)) = shN 0 := by
  funext b
  unfold shN
  rw [if_neg (Nat.not_lt_zero _)]
theorem gSHl_len : gSHl.length = 148 := by decide +kernel
theorem shN_148 : shN 148 = gSH := by
  funext b
  unfold shN
  by_cases q : b < 148
  · rw [if_pos q]
  · rw [if_neg q]
    unfold gSH
    rw [List.getD_eq_getElem?_getD, List.getElem?_eq_none (by rw [gSHl_len]; omega)]
    rfl
theorem shO {n a ci : Nat} (h : a < n) (hg : gSH a = (0, ci)) : oO n (shN n) a ci := ⟨h, by unfold shN; rw [if_pos h]; exact hg⟩
theorem shA {n a t : Nat} (h : a < n) (hg : (gSH a).1 = t) : oA n (shN n) a t := ⟨h, by unfold shN; rw [if_pos h]; exact hg⟩
theorem shV {n a : Nat} {i : Int32} (h : a < n) (hv : vp_in i (gSH a).2) : vp_in i (shN n a).2 := by unfold shN; rw [if_pos h]; exact hv
def rF (a k : Nat) : Option Nat := if a = 0 then ([some 1, some 3, some 7, some 11, some 77, some 78, none, some 79, some 92, some 105, some 109] : List (Option Nat)).getD k none else gRR a k
def rK : List (Nat × Nat) := [(1, 0), (0, 0), (3, 5), (3, 6), (3, 7), (0, 1), (7, 5), (7, 6), (7, 7), (0, 2), (11, 0), (13, 5), (13, 6), (13, 7), (12, 0), (17, 5), (17, 6), (17, 7), (12, 1), (21, 5), (21, 6), (21, 7), (12, 2), (25, 5), (25, 6), (25, 7), (12, 3), (29, 5), (29, 6), (29, 7), (12, 4), (33, 5), (33, 6), (33, 7), (12, 5), (37, 5), (37, 6), (37, 7), (12, 6), (41, 5), (41, 6), (41, 7), (12, 7), (45, 5), (45, 6), (45, 7), (12, 8), (49, 5), (49, 6), (49, 7), (12, 9), (53, 5), (53, 6), (53, 7), (12, 10), (57, 5), (57, 6), (57, 7), (12, 11), (61, 5), (61, 6), (61, 7), (12, 12), (65, 5), (65, 6), (65, 7), (12, 13), (69, 5), (69, 6), (69, 7), (12, 14), (73, 5), (73, 6), (73, 7), (12, 15), (0, 3), (0, 4), (0, 5), (80, 0), (80, 1), (79, 0), (79, 1), (79, 2), (79, 3), (79, 4), (79, 5), (79, 6), (79, 7), (79, 8), (79, 9), (0, 7), (93, 0), (93, 1), (92, 0), (92, 1), (92, 2), (92, 3), (92, 4), (92, 5), (92, 6), (92, 7), (92, 8), (92, 9), (0, 8), (105, 0), (105, 1), (105, 2), (0, 9), (109, 0), (109, 1), (109, 2), (0, 10), (113, 5), (113, 6), (113, 7), (77, 0), (117, 5), (117, 6), (117, 7), (77, 1), (121, 5), (121, 6), (121, 7), (77, 2), (125, 5), (125, 6), (125, 7), (77, 3), (129, 1), (129, 4), (129, 5), (129, 6), (129, 9), (129, 10), (129, 11), (129, 12), (129, 14), (129, 15), (129, 16), (129, 17), (129, 21), (129, 22), (129, 23), (129, 24), (129, 26)]
def oL : List (List Nat) := [[2, 6, 10, 76, 77, 78, 0, 91, 104, 108, 112], [1], [], [0, 0, 0, 0, 0, 3, 4, 5], [], [], [], [0, 0, 0, 0, 0, 7, 8, 9], [], [], [], [11], [15, 19, 23, 27, 31, 35, 39, 43, 47, 51, 55, 59, 63, 67, 71, 75], [0, 0, 0, 0, 0, 12, 13, 14], [], [], [], [0, 0, 0, 0, 0, 16, 17, 18], [], [], [], [0, 0, 0, 0, 0, 20, 21, 22], [], [], [], [0, 0, 0, 0, 0, 24, 25, 26], [], [], [], [0, 0, 0, 0, 0, 28, 29, 30], [], [], [], [0, 0, 0, 0, 0, 32, 33, 34], [], [], [], [0, 0, 0, 0, 0, 36, 37, 38], [], [], [], [0, 0, 0, 0, 0, 40, 41, 42], [], [], [], [0, 0, 0, 0, 0, 44, 45, 46], [], [], [], [0, 0, 0, 0, 0, 48, 49, 50], [], [], [], [0, 0, 0, 0, 0, 52, 53, 54], [], [], [], [0, 0, 0, 0, 0, 56, 57, 58], [], [], [], [0, 0, 0, 0, 0, 60, 61, 62], [], [], [], [0, 0, 0, 0, 0, 64, 65, 66], [], [], [], [0, 0, 0, 0, 0, 68, 69, 70], [], [], [], [0, 0, 0, 0, 0, 72, 73, 74], [], [], [], [116, 120, 124, 128], [], [81, 82, 83, 84, 85, 86, 87, 88, 89, 90], [79, 80], [], [], [], [], [], [], [], [], [], [], [], [94, 95, 96, 97, 98, 99, 100, 101, 102, 103], [92, 93], [], [], [], [], [], [], [], [], [], [], [], [105, 106, 107], [], [], [], [109, 110, 111], [], [], [], [0, 0, 0, 0, 0, 113, 114, 115], [], [], [], [0, 0, 0, 0, 0, 117, 118, 119], [], [], [], [0, 0, 0, 0, 0, 121, 122, 123], [], [], [], [0, 0, 0, 0, 0, 125, 126, 127], [], [], [], [0, 129, 0, 0, 130, 131, 132, 0, 0, 133, 134, 135, 136, 0, 137, 138, 139, 140, 0, 0, 0, 141, 142, 143, 144, 0, 145], [], [], [], [], [], [], [], [], [], [], [], [], [], [], [], [], [], []]
def od (a k : Nat) : Nat := (oL.getD a []).getD k 0
theorem gRR_len : ∀ a, a < 148 → (gRRl.getD a []).length ≤ 32 := by decide +kernel
theorem gRRl_len : gRRl.length = 148 := by decide +kernel
theorem rF_hi {a k : Nat} (h : 32 ≤ k) : rF a k = none := by
  unfold rF
  by_cases e : a = 0
  · rw [if_pos e, List.getD_eq_getElem?_getD, List.getElem?_eq_none (by simp; omega)]
    rfl
  · rw [if_neg e]
    unfold gRR
    have hl : (gRRl.getD a []).length ≤ 32 := by
      by_cases q : a < 148
      · exact gRR_len a q
      · rw [List.getD_eq_getElem?_getD, List.getElem?_eq_none (by rw [gRRl_len]; omega)]
        exact Nat.zero_le _
    rw [List.getD_eq_getElem?_getD, List.getElem?_eq_none (by omega)]
    rfl
theorem rF_far {a k : Nat} (h : 148 ≤ a) : rF a k = none := by
  unfold rF gRR
  rw [if_neg (by omega), show gRRl.getD a [] = [] by rw [List.getD_eq_getElem?_getD, List.getElem?_eq_none (by rw [gRRl_len]; omega)]; rfl]
  rfl
def noneB : Option Nat → Bool
  | none => true
  | some _ => false
theorem noneB_t {o : Option Nat} (h : noneB o = true) : o = none := by
  cases o
  · rfl
  · exact absurd h (by simp [noneB])
def rowB : List Nat → List (Option Nat) → Bool
  | [], l => l.all noneB
  | _ :: _, [] => true
  | 0 :: r, o :: l => noneB o && rowB r l
  | (_ + 1) :: r, _ :: l => rowB r l
theorem rowB_t : ∀ (r : List Nat) (l : List (Option Nat)) (k : Nat), rowB r l = true → r.getD k 0 = 0 → l.getD k none = none := by
  intro r
  induction r with
  | nil =>
    intro l k h _
    simp only [rowB, List.all_eq_true] at h
    rw [List.getD_eq_getElem?_getD]
    cases e : l[k]? with
    | none => rfl
    | some o =>
      have := h o (List.mem_of_getElem? e)
      rw [noneB_t this]
      rfl
  | cons x r ih =>
    intro l k h h0
    cases l with
    | nil => rfl
    | cons o l =>
      cases k with
      | zero =>
        cases x with
        | zero =>
          simp only [rowB, Bool.and_eq_true] at h
          exact noneB_t h.1
        | succ x => exact absurd h0 (by simp)
      | succ k =>
        cases x with
        | zero =>
          simp only [rowB, Bool.and_eq_true] at h
          exact ih l k h.2 h0
        | succ x =>
          simp only [rowB] at h
          exact ih l k h h0
def rF0 : List (Option Nat) := [some 1, some 3, some 7, some 11, some 77, some 78, none, some 79, some 92, some 105, some 109]
theorem row_all : ∀ a, a < 148 → rowB (oL.getD a []) (if a = 0 then rF0 else gRRl.getD a []) = true := by decide +kernel
theorem rF_row (a k : Nat) : rF a k = (if a = 0 then rF0 else gRRl.getD a []).getD k none := by
  unfold rF gRR
  by_cases e : a = 0
  · rw [if_pos e, if_pos e]; rfl
  · rw [if_neg e, if_neg e]
theorem rF_0 {a k : Nat} (h : od a k = 0) : rF a k = none := by
  by_cases q : a < 148
  · rw [rF_row]; exact rowB_t _ _ k (row_all a q) h
  · exact rF_far (by omega)
/-- each place is written once -/
theorem rK_len : rK.length = 145 := by decide +kernel
def rowK : List Nat → Nat → Nat → Bool
  | [], _, _ => true
  | 0 :: r, a, k => rowK r a (k + 1)
  | (x + 1) :: r, a, k => (rK[x]? == some (a, k)) && rowK r a (k + 1)
theorem rowK_t : ∀ (r : List Nat) (a k j x : Nat), rowK r a k = true → r.getD j 0 = x + 1 → rK[x]? = some (a, k + j) := by
  intro r
  induction r with
  | nil => intro a k j x _ h; exact absurd h (by simp)
  | cons y r ih =>
    intro a k j x h h0
    cases j with
    | zero =>
      cases y with
      | zero => exact absurd h0 (by simp)
      | succ y =>
        simp only [rowK, Bool.and_eq_true, beq_iff_eq] at h
        have : y = x := by simpa using h0
        rw [← this]; exact h.1
    | succ j =>
      rw [show k + (j + 1) = k + 1 + j by omega]
      cases y with
      | zero => exact ih a (k + 1) j x (by simpa [rowK] using h) h0
      | succ y =>
        simp only [rowK, Bool.and_eq_true] at h
        exact ih a (k + 1) j x h.2 h0
theorem rowK_all : ∀ a, a < 148 → rowK (oL.getD a []) a 0 = true := by decide +kernel
theorem oL_len : oL.length = 148 := by decide +kernel
theorem od_K {a k x : Nat} (h : od a k = x + 1) : rK[x]? = some (a, k) := by
  by_cases q : a < 148
  · have := rowK_t _ a 0 k x (rowK_all a q) h
    rw [Nat.zero_add] at this
    exact this
  · unfold od at h
    rw [show oL.getD a [] = [] by rw [List.getD_eq_getElem?_getD, List.getElem?_eq_none (by rw [oL_len]; omega)]; rfl] at h
    exact absurd h (by simp)
def exI (a k : Nat) : Prop := (a = 1 ∧ k = 7) ∨ ((a = 105 ∨ a = 109) ∧ (k = 4 ∨ k = 5))
def Iv (s : Nat) (z : gS) : Prop := (∀ a k, ¬ exI a k → gi z a k = 0) ∧ (∀ a k, a ≠ 134 → gl z a k = 0) ∧ (∀ a k, od a k ≤ s → gr z a k = rF a k)
/-- nothing of a row is written yet -/
def okB (n s : Nat) : Bool := (oL.getD n []).all (fun x => Nat.beq x 0 || Nat.blt s x)
theorem okB_t {n s : Nat} (h : okB n s = true) (k : Nat) (hk : od n k ≤ s) : rF n k = none := by
  apply rF_0
  unfold od at hk ⊢
  unfold okB at h
  rw [List.getD_eq_getElem?_getD] at hk ⊢
  cases e : (oL.getD n [])[k]? with
  | none => rfl
  | some x =>
    rw [e] at hk
    have := List.all_eq_true.mp h x (List.mem_of_getElem? e)
    simp only [Bool.or_eq_true, Nat.beq_eq, Nat.blt_eq] at this
    have hk : x ≤ s := hk
    rcases this with r | r
    · exact r
    · omega
theorem Iv_0 : Iv 0 gZ0 := ⟨fun _ _ _ => rfl, fun _ _ _ => rfl, fun a k q => (rF_0 (Nat.le_zero.mp q)).symm⟩
section RI
variable {s n a k v : Nat} {z : gS}
theorem Iv.al (h : Iv s z) (hf : okB n s = true) : Iv s (z0 z n) := by
  refine ⟨fun b j q => ?_, fun b j q => ?_, fun b j q => ?_⟩
  · rw [gi_z0]
    split
    · rfl
    · exact h.1 b j q
  · rw [gl_z0]
    split
    · rfl
    · exact h.2.1 b j q
  · rw [gr_z0]
    by_cases e : b = n
    · rw [if_pos e]
      rw [e] at q ⊢
      exact (okB_t hf j q).symm
    · rw [if_neg e]; exact h.2.2 b j q
theorem al_k {w : Nat × Nat} {K : (Nat → Nat × Nat) → gS → Prop} (h : Iv s z) (hv : gSH n = w) (hf : okB n s = true) (hK : ∀ z', Iv s z' → K (shN (n + 1)) z') : ∀ q : Nat → Nat × Nat, q = va_up (shN n) n w → ∀ z2 : gS, z2 = z0 z n → K q z2 := by
  intro q e z2 e2
  rw [shN_up hv] at e
  subst e e2
  exact hK _ (h.al hf)
theorem sr_k {K : gS → Prop} (h : Iv s z) (hr : rK[s]? = some (a, k)) (hv : rF a k = some v) (hK : ∀ z', Iv (s + 1) z' → K z') : ∀ z2 : gS, z2 = sr z a k (some v) → K z2 := by
  intro z2 e
  subst e
  refine hK _ ⟨h.1, h.2.1, fun b j q => ?_⟩
  rw [gr_sr]
  by_cases e : b = a ∧ j = k
  · rw [if_pos e, e.1, e.2, hv]
  · rw [if_neg e]
    refine h.2.2 b j ?_
    rcases Nat.lt_or_ge (od b j) (s + 1) with r | r
    · omega
    · have := od_K (show od b j = s + 1 by omega)
      rw [hr] at this
      have := Option.some.inj this
      exact absurd ⟨(congrArg Prod.fst this).symm, (congrArg Prod.snd this).symm⟩ e
theorem si_k {K : gS → Prop} (h : Iv s z) (hK : ∀ z', Iv s z' → K z') : ∀ z2 : gS, z2 = si z a k (0 : Int32) → K z2 := by
  intro z2 e
  subst e
  refine hK _ ⟨fun b j q => ?_, h.2.1, h.2.2⟩
  rw [gi_si]
  split
  · rfl
  · exact h.1 b j q
theorem sm_k {K : gS → Prop} (h : Iv s z) (he : exI a k) (hK : ∀ z', Iv s z' → K z') : ∀ z2 : gS, z2 = si z a k (-1 : Int32) → K z2 := by
  intro z2 e
  subst e
  refine hK _ ⟨fun b j q => ?_, h.2.1, h.2.2⟩
  rw [gi_si, if_neg (fun r => q (by rw [r.1, r.2]; exact he))]
  exact h.1 b j q
theorem sl_k {K : gS → Prop} (h : Iv s z) (hK : ∀ z', Iv s z' → K z') : ∀ z2 : gS, z2 = sl z a k (0 : Int64) → K z2 := by
  intro z2 e
  subst e
  refine hK _ ⟨h.1, fun b j q => ?_, h.2.2⟩
  rw [gl_sl]
  split
  · rfl
  · exact h.2.1 b j q
theorem Iv.rd (h : Iv s z) (h1 : od a k ≤ s) (h2 : rF a k = some v) : gr z a k = some v := (h.2.2 a k h1).trans h2
def okW (s n a : Nat) : Bool := Nat.blt a n && (gSH a == (0, 6)) && (gSH n == (1, 5)) && (gSH (n + 1) == (1, 6)) && (gSH (n + 2) == (1, 36)) && okB n s && okB (n + 1) (s + 1) && okB (n + 2) (s + 2) && (rK[s]? == some (a, 5)) && (rK[s + 1]? == some (a, 6)) && (rK[s + 2]? == some (a, 7)) && (rF a 5 == some n) && (rF a 6 == some (n + 1)) && (rF a 7 == some (n + 2))
theorem i_world {P : Nat → (Nat → Nat × Nat) → gS → Prop} (h : Iv s z) (hd : okW s n a = true) (hP : ∀ z', Iv (s + 3) z' → P (n + 3) (shN (n + 3)) z') : wX10_init n (shN n) a z P := by
  simp only [okW, Bool.and_eq_true, beq_iff_eq, Nat.blt_eq] at hd
  obtain ⟨⟨⟨⟨⟨⟨⟨⟨⟨⟨⟨⟨⟨d1, d2⟩, d3⟩, d4⟩, d5⟩, d6⟩, d7⟩, d8⟩, d9⟩, d10⟩, d11⟩, d12⟩, d13⟩, d14⟩ := hd
  refine ⟨shO d1 d2, si_k h (fun z1 h => ⟨shO d1 d2, si_k h (fun z1 h => ⟨shO d1 d2, si_k h (fun z1 h => ⟨shO d1 d2, si_k h (fun z1 h => ⟨shO d1 d2, si_k h (fun z1 h => ?_)⟩)⟩)⟩)⟩)⟩
  refine al_k h d3 d6 (fun z1 h => ⟨shO (by omega) d2, sr_k h d9 d12 (fun z1 h => ?_)⟩)
  refine al_k h d4 d7 (fun z1 h => ⟨shO (by omega) d2, sr_k h d10 d13 (fun z1 h => ?_)⟩)
  refine al_k h d5 d8 (fun z1 h => ⟨shO (by omega) d2, sr_k h d11 d14 (fun z1 h => ?_)⟩)
  exact hP z1 h
end RI
theorem i_tape {z : gS} {P : Nat → (Nat → Nat × Nat) → gS → Prop} (h : Iv 0 z) (hP : ∀ z', Iv 1 z' → P 3 (shN 3) z') : wX9_init 2 (shN 2) 1 z P := by
  refine al_k h (by decide +kernel) (by decide +kernel) (fun z h => ⟨shO (by decide +kernel) (by decide +kernel), sr_k h (by decide +kernel) (by decide +kernel) (fun z h => ?_)⟩)
  refine ⟨shO (by decide +kernel) (by decide +kernel), si_k h (fun z h => ⟨shO (by decide +kernel) (by decide +kernel), si_k h (fun z h => ⟨shO (by decide +kernel) (by decide +kernel), si_k h (fun z h => ⟨shO (by decide +kernel) (by decide +kernel), si_k h (fun z h => ⟨shO (by decide +kernel) (by decide +kernel), si_k h (fun z h => ⟨shO (by decide +kernel) (by decide +kernel), sl_k h (fun z h => ⟨shO (by decide +kernel) (by decide +kernel), sm_k h (Or.inl ⟨rfl, rfl⟩) (fun z h => ⟨shO (by decide +kernel) (by decide +kernel), si_k h (fun z h => ?_)⟩)⟩)⟩)⟩)⟩)⟩)⟩)⟩
  exact hP z h
set_option maxRecDepth 10000 in
set_option maxHeartbeats 1000000 in
theorem i_hist {z : gS} {P : Nat → (Nat → Nat × Nat) → gS → Prop} (h : Iv 10 z) (hP : ∀ z', Iv 75 z' → P 77 (shN 77) z') : wX4_init 12 (shN 12) 11 z P := by
  refine al_k h (by decide +kernel) (by decide +kernel) (fun z h => ⟨shO (by decide +kernel) (by decide +kernel), sr_k h (by decide +kernel) (by decide +kernel) (fun z h => ?_)⟩)
  refine ⟨shO (by decide +kernel) (by decide +kernel), si_k h (fun z h => ⟨shO (by decide +kernel) (by decide +kernel), si_k h (fun z h => ?_)⟩)⟩
  refine ⟨shO (by decide +kernel) (by decide +kernel), 12, h.rd (by decide +kernel) (by decide +kernel), al_k h (by decide +kernel) (by decide +kernel) (fun z h => i_world h (by decide +kernel) (fun z h => ⟨rfl, shA (by decide +kernel) (by decide +kernel), shV (by decide +kernel) (by unfold vp_in; decide +kernel), shO (by decide +kernel) (by decide +kernel), sr_k h (by decide +kernel) (by decide +kernel) (fun z h => ?_)⟩))⟩
  refine ⟨shO (by decide +kernel) (by decide +kernel), 12, h.rd (by decide +kernel) (by decide +kernel), al_k h (by decide +kernel) (by decide +kernel) (fun z h => i_world h (by decide +kernel) (fun z h => ⟨rfl, shA (by decide +kernel) (by decide +kernel), shV (by decide +kernel) (by unfold vp_in; decide +kernel), shO (by decide +kernel) (by decide +kernel), sr_k h (by decide +kernel) (by decide +kernel) (fun z h => ?_)⟩))⟩
  refine ⟨shO (by decide +kernel) (by decide +kernel), 12, h.rd (by decide +kernel) (by decide +kernel), al_k h (by decide +kernel) (by decide +kernel) (fun z h => i_world h (by decide +kernel) (fun z h => ⟨rfl, shA (by decide +kernel) (by decide +kernel), shV (by decide +kernel) (by unfold vp_in; decide +kernel), shO (by decide +kernel) (by decide +kernel), sr_k h (by decide +kernel) (by decide +kernel) (fun z h => ?_)⟩))⟩
  refine ⟨shO (by decide +kernel) (by decide +kernel), 12, h.rd (by decide +kernel) (by decide +kernel), al_k h (by decide +kernel) (by decide +kernel) (fun z h => i_world h (by decide +kernel) (fun z h => ⟨rfl, shA (by decide +kernel) (by decide +kernel), shV (by decide +kernel) (by unfold vp_in; decide +kernel), shO (by decide +kernel) (by decide +kernel), sr_k h (by decide +kernel) (by decide +kernel) (fun z h => ?_)⟩))⟩
  refine ⟨shO (by decide +kernel) (by decide +kernel), 12, h.rd (by decide +kernel) (by decide +kernel), al_k h (by decide +kernel) (by decide +kernel) (fun z h => i_world h (by decide +kernel) (fun z h => ⟨rfl, shA (by decide +kernel) (by decide +kernel), shV (by decide +kernel) (by unfold vp_in; decide +kernel), shO (by decide +kernel) (by decide +kernel), sr_k h (by decide +kernel) (by decide +kernel) (fun z h => ?_)⟩))⟩
  refine ⟨shO (by decide +kernel) (by decide +kernel), 12, h.rd (by decide +kernel) (by decide +kernel), al_k h (by decide +kernel) (by decide +kernel) (fun z h => i_world h (by decide +kernel) (fun z h => ⟨rfl, shA (by decide +kernel) (by decide +kernel), shV (by decide +kernel) (by unfold vp_in; decide +kernel), shO (by decide +kernel) (by decide +kernel), sr_k h (by decide +kernel) (by decide +kernel) (fun z h => ?_)⟩))⟩
  refine ⟨shO (by decide +kernel) (by decide +kernel), 12, h.rd (by decide +kernel) (by decide +kernel), al_k h (by decide +kernel) (by decide +kernel) (fun z h => i_world h (by decide +kernel) (fun z h => ⟨rfl, shA (by decide +kernel) (by decide +kernel), shV (by decide +kernel) (by unfold vp_in; decide +kernel), shO (by decide +kernel) (by decide +kernel), sr_k h (by decide +kernel) (by decide +kernel) (fun z h => ?_)⟩))⟩
  refine ⟨shO (by decide +kernel) (by decide +kernel), 12, h.rd (by decide +kernel) (by decide +kernel), al_k h (by decide +kernel) (by decide +kernel) (fun z h => i_world h (by decide +kernel) (fun z h => ⟨rfl, shA (by decide +kernel) (by decide +kernel), shV (by decide +kernel) (by unfold vp_in; decide +kernel), shO (by decide +kernel) (by decide +kernel), sr_k h (by decide +kernel) (by decide +kernel) (fun z h => ?_)⟩))⟩
  refine ⟨shO (by decide +kernel) (by decide +kernel), 12, h.rd (by decide +kernel) (by decide +kernel), al_k h (by decide +kernel) (by decide +kernel) (fun z h => i_world h (by decide +kernel) (fun z h => ⟨rfl, shA (by decide +kernel) (by decide +kernel), shV (by decide +kernel) (by unfold vp_in; decide +kernel), shO (by decide +kernel) (by decide +kernel), sr_k h (by decide +kernel) (by decide +kernel) (fun z h => ?_)⟩))⟩
  refine ⟨shO (by decide +kernel) (by decide +kernel), 12, h.rd (by decide +kernel) (by decide +kernel), al_k h (by decide +kernel) (by decide +kernel) (fun z h => i_world h (by decide +kernel) (fun z h => ⟨rfl, shA (by decide +kernel) (by decide +kernel), shV (by decide +kernel) (by unfold vp_in; decide +kernel), shO (by decide +kernel) (by decide +kernel), sr_k h (by decide +kernel) (by decide +kernel) (fun z h => ?_)⟩))⟩
  refine ⟨shO (by decide +kernel) (by decide +kernel), 12, h.rd (by decide +kernel) (by decide +kernel), al_k h (by decide +kernel) (by decide +kernel) (fun z h => i_world h (by decide +kernel) (fun z h => ⟨rfl, shA (by decide +kernel) (by decide +kernel), shV (by decide +kernel) (by unfold vp_in; decide +kernel), shO (by decide +kernel) (by decide +kernel), sr_k h (by decide +kernel) (by decide +kernel) (fun z h => ?_)⟩))⟩
  refine ⟨shO (by decide +kernel) (by decide +kernel), 12, h.rd (by decide +kernel) (by decide +kernel), al_k h (by decide +kernel) (by decide +kernel) (fun z h => i_world h (by decide +kernel) (fun z h => ⟨rfl, shA (by decide +kernel) (by decide +kernel), shV (by decide +kernel) (by unfold vp_in; decide +kernel), shO (by decide +kernel) (by decide +kernel), sr_k h (by decide +kernel) (by decide +kernel) (fun z h => ?_)⟩))⟩
  refine ⟨shO (by decide +kernel) (by decide +kernel), 12, h.rd (by decide +kernel) (by decide +kernel), al_k h (by decide +kernel) (by decide +kernel) (fun z h => i_world h (by decide +kernel) (fun z h => ⟨rfl, shA (by decide +kernel) (by decide +kernel), shV (by decide +kernel) (by unfold vp_in; decide +kernel), shO (by decide +kernel) (by decide +kernel), sr_k h (by decide +kernel) (by decide +kernel) (fun z h => ?_)⟩))⟩
  refine ⟨shO (by decide +kernel) (by decide +kernel), 12, h.rd (by decide +kernel) (by decide +kernel), al_k h (by decide +kernel) (by decide +kernel) (fun z h => i_world h (by decide +kernel) (fun z h => ⟨rfl, shA (by decide +kernel) (by decide +kernel), shV (by decide +kernel) (by unfold vp_in; decide +kernel), shO (by decide +kernel) (by decide +kernel), sr_k h (by decide +kernel) (by decide +kernel) (fun z h => ?_)⟩))⟩
  refine ⟨shO (by decide +kernel) (by decide +kernel), 12, h.rd (by decide +kernel) (by decide +kernel), al_k h (by decide +kernel) (by decide +kernel) (fun z h => i_world h (by decide +kernel) (fun z h => ⟨rfl, shA (by decide +kernel) (by decide +kernel), shV (by decide +kernel) (by unfold vp_in; decide +kernel), shO (by decide +kernel) (by decide +kernel), sr_k h (by decide +kernel) (by decide +kernel) (fun z h => ?_)⟩))⟩
  refine ⟨shO (by decide +kernel) (by decide +kernel), 12, h.rd (by decide +kernel) (by decide +kernel), al_k h (by decide +kernel) (by decide +kernel) (fun z h => i_world h (by decide +kernel) (fun z h => ⟨rfl, shA (by decide +kernel) (by decide +kernel), shV (by decide +kernel) (by unfold vp_in; decide +kernel), shO (by decide +kernel) (by decide +kernel), sr_k h (by decide +kernel) (by decide +kernel) (fun z h => ?_)⟩))⟩
  exact hP z h
theorem i_law {s n a : Nat} {z : gS} {P : Nat → (Nat → Nat × Nat) → gS → Prop} (h : Iv s z) (hd : a < n ∧ gSH a = (0, 3) ∧ gSH n = (1, 1000) ∧ gSH (n + 1) = (1, 32) ∧ okB n s = true ∧ okB (n + 1) (s + 1) = true ∧ rK[s]? = some (a, 0) ∧ rK[s + 1]? = some (a, 1) ∧ rF a 0 = some n ∧ rF a 1 = some (n + 1)) (hP : ∀ z', Iv (s + 2) z' → P (n + 2) (shN (n + 2)) z') : wX5_init n (shN n) a z P := by
  obtain ⟨d1, d2, d3, d4, d5, d6, d7, d8, d9, d10⟩ := hd
  refine al_k h d3 d5 (fun z h => ⟨shO (by omega) d2, sr_k h d7 d9 (fun z h => ?_)⟩)
  refine al_k h d4 d6 (fun z h => ⟨shO (by omega) d2, sr_k h d8 d10 (fun z h => ⟨shO (by omega) d2, si_k h (fun z h => ?_)⟩)⟩)
  exact hP z h
theorem i_street1 {z : gS} {P : Nat → (Nat → Nat × Nat) → gS → Prop} (h : Iv 78 z) (hP : ∀ z', Iv 90 z' → P 92 (shN 92) z') : wX7_init 80 (shN 80) 79 z P := by
  refine al_k h (by decide +kernel) (by decide +kernel) (fun z h => i_law h (by decide +kernel) (fun z h => ⟨rfl, shO (by decide +kernel) (by decide +kernel), sr_k h (by decide +kernel) (by decide +kernel) (fun z h => ?_)⟩))
  refine al_k h (by decide +kernel) (by decide +kernel) (fun z h => ⟨shO (by decide +kernel) (by decide +kernel), sr_k h (by decide +kernel) (by decide +kernel) (fun z h => ?_)⟩)
  refine al_k h (by decide +kernel) (by decide +kernel) (fun z h => ⟨shO (by decide +kernel) (by decide +kernel), sr_k h (by decide +kernel) (by decide +kernel) (fun z h => ?_)⟩)
  refine al_k h (by decide +kernel) (by decide +kernel) (fun z h => ⟨shO (by decide +kernel) (by decide +kernel), sr_k h (by decide +kernel) (by decide +kernel) (fun z h => ?_)⟩)
  refine al_k h (by decide +kernel) (by decide +kernel) (fun z h => ⟨shO (by decide +kernel) (by decide +kernel), sr_k h (by decide +kernel) (by decide +kernel) (fun z h => ?_)⟩)
  refine al_k h (by decide +kernel) (by decide +kernel) (fun z h => ⟨shO (by decide +kernel) (by decide +kernel), sr_k h (by decide +kernel) (by decide +kernel) (fun z h => ?_)⟩)
  refine al_k h (by decide +kernel) (by decide +kernel) (fun z h => ⟨shO (by decide +kernel) (by decide +kernel), sr_k h (by decide +kernel) (by decide +kernel) (fun z h => ?_)⟩)
  refine al_k h (by decide +kernel) (by decide +kernel) (fun z h => ⟨shO (by decide +kernel) (by decide +kernel), sr_k h (by decide +kernel) (by decide +kernel) (fun z h => ?_)⟩)
  refine al_k h (by decide +kernel) (by decide +kernel) (fun z h => ⟨shO (by decide +kernel) (by decide +kernel), sr_k h (by decide +kernel) (by decide +kernel) (fun z h => ?_)⟩)
  refine al_k h (by decide +kernel) (by decide +kernel) (fun z h => ⟨shO (by decide +kernel) (by decide +kernel), sr_k h (by decide +kernel) (by decide +kernel) (fun z h => ?_)⟩)
  refine ⟨shO (by decide +kernel) (by decide +kernel), si_k h (fun z h => ⟨shO (by decide +kernel) (by decide +kernel), si_k h (fun z h => ⟨shO (by decide +kernel) (by decide +kernel), si_k h (fun z h => ⟨shO (by decide +kernel) (by decide +kernel), si_k h (fun z h => ?_)⟩)⟩)⟩)⟩
  exact hP z h
theorem i_street2 {z : gS} {P : Nat → (Nat → Nat × Nat) → gS → Prop} (h : Iv 91 z) (hP : ∀ z', Iv 103 z' → P 105 (shN 105) z') : wX7_init 93 (shN 93) 92 z P := by
  refine al_k h (by decide +kernel) (by decide +kernel) (fun z h => i_law h (by decide +kernel) (fun z h => ⟨rfl, shO (by decide +kernel) (by decide +kernel), sr_k h (by decide +kernel) (by decide +kernel) (fun z h => ?_)⟩))
  refine al_k h (by decide +kernel) (by decide +kernel) (fun z h => ⟨shO (by decide +kernel) (by decide +kernel), sr_k h (by decide +kernel) (by decide +kernel) (fun z h => ?_)⟩)
  refine al_k h (by decide +kernel) (by decide +kernel) (fun z h => ⟨shO (by decide +kernel) (by decide +kernel), sr_k h (by decide +kernel) (by decide +kernel) (fun z h => ?_)⟩)
  refine al_k h (by decide +kernel) (by decide +kernel) (fun z h => ⟨shO (by decide +kernel) (by decide +kernel), sr_k h (by decide +kernel) (by decide +kernel) (fun z h => ?_)⟩)
  refine al_k h (by decide +kernel) (by decide +kernel) (fun z h => ⟨shO (by decide +kernel) (by decide +kernel), sr_k h (by decide +kernel) (by decide +kernel) (fun z h => ?_)⟩)
  refine al_k h (by decide +kernel) (by decide +kernel) (fun z h => ⟨shO (by decide +kernel) (by decide +kernel), sr_k h (by decide +kernel) (by decide +kernel) (fun z h => ?_)⟩)
  refine al_k h (by decide +kernel) (by decide +kernel) (fun z h => ⟨shO (by decide +kernel) (by decide +kernel), sr_k h (by decide +kernel) (by decide +kernel) (fun z h => ?_)⟩)
  refine al_k h (by decide +kernel) (by decide +kernel) (fun z h => ⟨shO (by decide +kernel) (by decide +kernel), sr_k h (by decide +kernel) (by decide +kernel) (fun z h => ?_)⟩)
  refine al_k h (by decide +kernel) (by decide +kernel) (fun z h => ⟨shO (by decide +kernel) (by decide +kernel), sr_k h (by decide +kernel) (by decide +kernel) (fun z h => ?_)⟩)
  refine al_k h (by decide +kernel) (by decide +kernel) (fun z h => ⟨shO (by decide +kernel) (by decide +kernel), sr_k h (by decide +kernel) (by decide +kernel) (fun z h => ?_)⟩)
  refine ⟨shO (by decide +kernel) (by decide +kernel), si_k h (fun z h => ⟨shO (by decide +kernel) (by decide +kernel), si_k h (fun z h => ⟨shO (by decide +kernel) (by decide +kernel), si_k h (fun z h => ⟨shO (by decide +kernel) (by decide +kernel), si_k h (fun z h => ?_)⟩)⟩)⟩)⟩
  exact hP z h
theorem i_day1 {z : gS} {P : Nat → (Nat → Nat × Nat) → gS → Prop} (h : Iv 104 z) (hP : ∀ z', Iv 107 z' → P 109 (shN 109) z') : wX0_init 106 (shN 106) 105 z P := by
  refine al_k h (by decide +kernel) (by decide +kernel) (fun z h => ⟨shO (by decide +kernel) (by decide +kernel), sr_k h (by decide +kernel) (by decide +kernel) (fun z h => ?_)⟩)
  refine al_k h (by decide +kernel) (by decide +kernel) (fun z h => ⟨shO (by decide +kernel) (by decide +kernel), sr_k h (by decide +kernel) (by decide +kernel) (fun z h => ?_)⟩)
  refine al_k h (by decide +kernel) (by decide +kernel) (fun z h => ⟨shO (by decide +kernel) (by decide +kernel), sr_k h (by decide +kernel) (by decide +kernel) (fun z h => ?_)⟩)
  refine ⟨shO (by decide +kernel) (by decide +kernel), si_k h (fun z h => ⟨shO (by decide +kernel) (by decide +kernel), sm_k h (Or.inr ⟨by omega, by omega⟩) (fun z h => ⟨shO (by decide +kernel) (by decide +kernel), sm_k h (Or.inr ⟨by omega, by omega⟩) (fun z h => ?_)⟩)⟩)⟩
  exact hP z h
theorem i_day2 {z : gS} {P : Nat → (Nat → Nat × Nat) → gS → Prop} (h : Iv 108 z) (hP : ∀ z', Iv 111 z' → P 113 (shN 113) z') : wX0_init 110 (shN 110) 109 z P := by
  refine al_k h (by decide +kernel) (by decide +kernel) (fun z h => ⟨shO (by decide +kernel) (by decide +kernel), sr_k h (by decide +kernel) (by decide +kernel) (fun z h => ?_)⟩)
  refine al_k h (by decide +kernel) (by decide +kernel) (fun z h => ⟨shO (by decide +kernel) (by decide +kernel), sr_k h (by decide +kernel) (by decide +kernel) (fun z h => ?_)⟩)
  refine al_k h (by decide +kernel) (by decide +kernel) (fun z h => ⟨shO (by decide +kernel) (by decide +kernel), sr_k h (by decide +kernel) (by decide +kernel) (fun z h => ?_)⟩)
  refine ⟨shO (by decide +kernel) (by decide +kernel), si_k h (fun z h => ⟨shO (by decide +kernel) (by decide +kernel), sm_k h (Or.inr ⟨by omega, by omega⟩) (fun z h => ⟨shO (by decide +kernel) (by decide +kernel), sm_k h (Or.inr ⟨by omega, by omega⟩) (fun z h => ?_)⟩)⟩)⟩
  exact hP z h
theorem i_draws {s n a : Nat} {z : gS} {P : Nat → (Nat → Nat × Nat) → gS → Prop} (h : Iv s z) (ho : oO n (shN n) a 1) (hP : ∀ z', Iv s z' → P n (shN n) z') : wX2_init n (shN n) a z P := by
  refine ⟨ho, sl_k h (fun z h => ⟨ho, si_k h (fun z h => ⟨ho, si_k h (fun z h => ?_)⟩)⟩)⟩
  exact hP z h
set_option maxRecDepth 10000 in
set_option maxHeartbeats 1000000 in
theorem i_class {z : gS} {P : Nat → (Nat → Nat × Nat) → gS → Prop} (h : Iv 0 z) (hP : ∀ z', Iv 128 z' → P 129 (shN 129) z') : wX11_init 1 (shN 1) 0 z P := by
  refine al_k h (by decide +kernel) (by decide +kernel) (fun z h => i_tape h (fun z h => ⟨rfl, shO (by decide +kernel) (by decide +kernel), sr_k h (by decide +kernel) (by decide +kernel) (fun z h => ?_)⟩))
  refine al_k h (by decide +kernel) (by decide +kernel) (fun z h => i_world h (by decide +kernel) (fun z h => ⟨rfl, shO (by decide +kernel) (by decide +kernel), sr_k h (by decide +kernel) (by decide +kernel) (fun z h => ?_)⟩))
  refine al_k h (by decide +kernel) (by decide +kernel) (fun z h => i_world h (by decide +kernel) (fun z h => ⟨rfl, shO (by decide +kernel) (by decide +kernel), sr_k h (by decide +kernel) (by decide +kernel) (fun z h => ?_)⟩))
  refine al_k h (by decide +kernel) (by decide +kernel) (fun z h => i_hist h (fun z h => ⟨rfl, shO (by decide +kernel) (by decide +kernel), sr_k h (by decide +kernel) (by decide +kernel) (fun z h => ?_)⟩))
  refine al_k h (by decide +kernel) (by decide +kernel) (fun z h => ⟨shO (by decide +kernel) (by decide +kernel), sr_k h (by decide +kernel) (by decide +kernel) (fun z h => ?_)⟩)
  refine al_k h (by decide +kernel) (by decide +kernel) (fun z h => i_draws h (shO (by decide +kernel) (by decide +kernel)) (fun z h => ⟨rfl, shO (by decide +kernel) (by decide +kernel), sr_k h (by decide +kernel) (by decide +kernel) (fun z h => ?_)⟩))
  refine ⟨shO (by decide +kernel) (by decide +kernel), si_k h (fun z h => ?_)⟩
  refine al_k h (by decide +kernel) (by decide +kernel) (fun z h => i_street1 h (fun z h => ⟨rfl, shO (by decide +kernel) (by decide +kernel), sr_k h (by decide +kernel) (by decide +kernel) (fun z h => ?_)⟩))
  refine al_k h (by decide +kernel) (by decide +kernel) (fun z h => i_street2 h (fun z h => ⟨rfl, shO (by decide +kernel) (by decide +kernel), sr_k h (by decide +kernel) (by decide +kernel) (fun z h => ?_)⟩))
  refine al_k h (by decide +kernel) (by decide +kernel) (fun z h => i_day1 h (fun z h => ⟨rfl, shO (by decide +kernel) (by decide +kernel), sr_k h (by decide +kernel) (by decide +kernel) (fun z h => ?_)⟩))
  refine al_k h (by decide +kernel) (by decide +kernel) (fun z h => i_day2 h (fun z h => ⟨rfl, shO (by decide +kernel) (by decide +kernel), sr_k h (by decide +kernel) (by decide +kernel) (fun z h => ?_)⟩))
  refine ⟨shO (by decide +kernel) (by decide +kernel), 77, h.rd (by decide +kernel) (by decide +kernel), al_k h (by decide +kernel) (by decide +kernel) (fun z h => i_world h (by decide +kernel) (fun z h => ⟨rfl, shA (by decide +kernel) (by decide +kernel), shV (by decide +kernel) (by unfold vp_in; decide +kernel), shO (by decide +kernel) (by decide +kernel), sr_k h (by decide +kernel) (by decide +kernel) (fun z h => ?_)⟩))⟩
  refine ⟨shO (by decide +kernel) (by decide +kernel), 77, h.rd (by decide +kernel) (by decide +kernel), al_k h (by decide +kernel) (by decide +kernel) (fun z h => i_world h (by decide +kernel) (fun z h => ⟨rfl, shA (by decide +kernel) (by decide +kernel), shV (by decide +kernel) (by unfold vp_in; decide +kernel), shO (by decide +kernel) (by decide +kernel), sr_k h (by decide +kernel) (by decide +kernel) (fun z h => ?_)⟩))⟩
  refine ⟨shO (by decide +kernel) (by decide +kernel), 77, h.rd (by decide +kernel) (by decide +kernel), al_k h (by decide +kernel) (by decide +kernel) (fun z h => i_world h (by decide +kernel) (fun z h => ⟨rfl, shA (by decide +kernel) (by decide +kernel), shV (by decide +kernel) (by unfold vp_in; decide +kernel), shO (by decide +kernel) (by decide +kernel), sr_k h (by decide +kernel) (by decide +kernel) (fun z h => ?_)⟩))⟩
  refine ⟨shO (by decide +kernel) (by decide +kernel), 77, h.rd (by decide +kernel) (by decide +kernel), al_k h (by decide +kernel) (by decide +kernel) (fun z h => i_world h (by decide +kernel) (fun z h => ⟨rfl, shA (by decide +kernel) (by decide +kernel), shV (by decide +kernel) (by unfold vp_in; decide +kernel), shO (by decide +kernel) (by decide +kernel), sr_k h (by decide +kernel) (by decide +kernel) (fun z h => ?_)⟩))⟩
  exact hP z h
