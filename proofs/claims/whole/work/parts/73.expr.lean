/-! ===== what an E is, token by token ===== -/
abbrev pR : Type := Nat × Nat × List Int32
def sgn (tp : List Nat) (i c : Nat) : Bool := decide (kkd tp i = 4) && decide (kvl tp i = c)
def jnc (tp : List Nat) (lv i : Nat) : Int32 := if lv = 0 then (if krs tp i = 20 then -6 else if krs tp i = 21 then -7 else 0) else if lv = 1 then (if sgn tp i 60 then -8 else if sgn tp i 61 then -9 else 0) else if lv = 2 then (if sgn tp i 43 then -10 else if sgn tp i 45 then -11 else 0) else (if sgn tp i 42 then -12 else 0)
def eLp (nx : Nat → List Int32 → pR) (jc : Nat → Int32) : Nat → Nat → List Int32 → pR
  | 0, i, c => (0, i, c)
  | f + 1, i, c => if jc i = 0 then (0, i, c) else if (nx (i + 1) c).1 = 0 then eLp nx jc f (nx (i + 1) c).2.1 ((nx (i + 1) c).2.2 ++ [jc i]) else nx (i + 1) c
def eLv (tp : List Nat) (lv : Nat) (nx : Nat → List Int32 → pR) (i : Nat) (c : List Int32) : pR := if (nx i c).1 = 0 then eLp nx (jnc tp lv) (if lv = 1 then 1 else 1000) (nx i c).2.1 (nx i c).2.2 else nx i c
def eE (tp : List Nat) (pt : Nat → List Int32 → pR) : Nat → List Int32 → pR := eLv tp 0 (eLv tp 1 (eLv tp 2 (eLv tp 3 pt)))
def ePk (tp : List Nat) (i : Nat) : Bool := decide (kkd tp i = 3) || decide (kfc tp i < 4) || decide (krs tp i = 19) || sgn tp i 40
def eCd (tp : List Nat) (i : Nat) : Int32 := if kkd tp i = 3 then nI (kvl tp i) else -1 - nI (kfc tp i)
def ePt (tp : List Nat) : Nat → Nat → List Int32 → pR
  | 0 => fun i c => if ePk tp i then (5, i, c) else (1, i, c)
  | d + 1 => fun i c => if ePk tp i then (if sgn tp i 40 then (if (eE tp (ePt tp d) (i + 1) c).1 = 0 then (if sgn tp (eE tp (ePt tp d) (i + 1) c).2.1 41 then (0, (eE tp (ePt tp d) (i + 1) c).2.1 + 1, (eE tp (ePt tp d) (i + 1) c).2.2) else (1, (eE tp (ePt tp d) (i + 1) c).2.1, c)) else eE tp (ePt tp d) (i + 1) c) else if krs tp i = 19 then (if (ePt tp d (i + 1) c).1 = 0 then (0, (ePt tp d (i + 1) c).2.1, (ePt tp d (i + 1) c).2.2 ++ [-5]) else ePt tp d (i + 1) c) else (0, i + 1, c ++ [eCd tp i])) else (1, i, c)
def tK (tp : List Nat) (n : Nat) : Prop := kkd tp n = 0 ∧ n ≤ 1000 ∧ ∀ i, i < n → kkd tp i ≠ 0
theorem tK.nx {tp : List Nat} {n i : Nat} (h : tK tp n) (hi : i ≤ n) (hk : kkd tp i ≠ 0) : i < n := by
  rcases Nat.lt_or_ge i n with q | q
  · exact q
  · rw [show i = n by omega] at hk
    exact absurd h.1 hk
theorem tK_ex {tp : List Nat} (h : tp.length ≤ 1000) : ∃ n, tK tp n := by
  have a : ∀ m, (∀ j, j < m → kkd tp j ≠ 0) ∨ ∃ n, n < m ∧ kkd tp n = 0 ∧ ∀ j, j < n → kkd tp j ≠ 0 := by
    intro m
    induction m with
    | zero => exact Or.inl (fun j hj => absurd hj (Nat.not_lt_zero _))
    | succ m ih =>
      rcases ih with q | ⟨n, h1, h2, h3⟩
      · by_cases e : kkd tp m = 0
        · exact Or.inr ⟨m, Nat.lt_succ_self m, e, q⟩
        · refine Or.inl (fun j hj => ?_)
          rcases Nat.lt_or_ge j m with r | r
          · exact q j r
          · rw [show j = m by omega]; exact e
      · exact Or.inr ⟨n, by omega, h2, h3⟩
  rcases a (tp.length + 1) with q | ⟨n, h1, h2, h3⟩
  · have h1 := kpos_ge _ q
    have h2 := kpos_le tp (tp.length + 1)
    omega
  · exact ⟨n, h2, by omega, h3⟩
theorem rsv_le (v : Nat) : rsv v ≤ 22 := List.findIdx_le_length
theorem fct_le (v : Nat) : fct v ≤ 4 := List.findIdx_le_length
theorem krs_le (tp : List Nat) (i : Nat) : krs tp i ≤ 22 := by
  unfold krs
  split
  · exact rsv_le _
  · exact Nat.le_refl _
theorem kfc_le (tp : List Nat) (i : Nat) : kfc tp i ≤ 4 := by
  unfold kfc
  split
  · exact fct_le _
  · exact Nat.le_refl _
theorem krs_k {tp : List Nat} {i r : Nat} (h : krs tp i = r) (hr : r < 22) : kkd tp i = 2 := by
  unfold krs at h
  split at h
  · assumption
  · omega
theorem kfc_k {tp : List Nat} {i : Nat} (h : kfc tp i < 4) : kkd tp i = 2 := by
  unfold kfc at h
  split at h
  · assumption
  · omega
theorem sgn_k {tp : List Nat} {i c : Nat} (h : sgn tp i c = true) : kkd tp i = 4 := by
  unfold sgn at h
  simp only [Bool.and_eq_true, decide_eq_true_eq] at h
  exact h.1
theorem ePk_0 {tp : List Nat} {i : Nat} (h : ePk tp i = true) : kkd tp i ≠ 0 := by
  unfold ePk at h
  simp only [Bool.or_eq_true, decide_eq_true_eq] at h
  rcases h with ((h | h) | h) | h
  · omega
  · have := kfc_k h; omega
  · have := krs_k h (by decide); omega
  · have := sgn_k h; omega
theorem jnc_0 {tp : List Nat} {lv i : Nat} (h : jnc tp lv i ≠ 0) : kkd tp i ≠ 0 := by
  intro e
  apply h
  have e1 : krs tp i = 22 := by unfold krs; rw [if_neg (by omega)]
  have e2 : ∀ c, sgn tp i c = false := fun c => by unfold sgn; rw [decide_eq_false (show ¬ kkd tp i = 4 by omega)]; rfl
  unfold jnc
  simp [e1, e2]
theorem jnc_b {tp : List Nat} {lv i : Nat} (h : jnc tp lv i ≠ 0) : -12 ≤ jnc tp lv i ∧ jnc tp lv i < -4 ∧ jnc tp lv i ≠ -5 := by
  have a : ∀ x : Int32, x = -6 ∨ x = -7 ∨ x = -8 ∨ x = -9 ∨ x = -10 ∨ x = -11 ∨ x = -12 ∨ x = 0 → x ≠ 0 → -12 ≤ x ∧ x < -4 ∧ x ≠ -5 := by
    intro x hx h0
    rcases hx with r | r | r | r | r | r | r | r
    all_goals first | exact absurd r h0 | (rw [r]; decide)
  apply a _ _ h
  unfold jnc
  (repeat' split) <;> simp
/-- codes that leave one part more, within k -/
def wfE (k : Nat) (es : List Int32) : Prop := ∀ rest h, h + k ≤ 32 → lwK rest (h + 1) → lwK (es ++ rest) h
def eQ (tp : List Nat) (n k : Nat) (nx : Nat → List Int32 → pR) : Prop := ∀ i c, i ≤ n → i ≤ (nx i c).2.1 ∧ (nx i c).2.1 ≤ n ∧ (nx i c).1 ≤ 5 ∧ ((nx i c).1 = 0 → i < (nx i c).2.1 ∧ ∃ es, (nx i c).2.2 = c ++ es ∧ es.length + i ≤ (nx i c).2.1 ∧ wfE k es)
theorem eQ_lp {tp : List Nat} {n k lv : Nat} {nx : Nat → List Int32 → pR} (hn : tK tp n) (h : eQ tp n k nx) : ∀ f i c0 es, i ≤ n → wfE (k + 1) es → i ≤ (eLp nx (jnc tp lv) f i (c0 ++ es)).2.1 ∧ (eLp nx (jnc tp lv) f i (c0 ++ es)).2.1 ≤ n ∧ (eLp nx (jnc tp lv) f i (c0 ++ es)).1 ≤ 5 ∧ ((eLp nx (jnc tp lv) f i (c0 ++ es)).1 = 0 → ∃ es', (eLp nx (jnc tp lv) f i (c0 ++ es)).2.2 = c0 ++ es' ∧ es'.length + i ≤ es.length + (eLp nx (jnc tp lv) f i (c0 ++ es)).2.1 ∧ wfE (k + 1) es') := by
  intro f
  induction f with
  | zero =>
    intro i c0 es hi he
    simp only [eLp]
    exact ⟨Nat.le_refl _, hi, Nat.zero_le _, fun _ => ⟨es, rfl, Nat.le_refl _, he⟩⟩
  | succ f ih =>
    intro i c0 es hi he
    simp only [eLp]
    by_cases hj : jnc tp lv i = 0
    · rw [if_pos hj]
      exact ⟨Nat.le_refl _, hi, Nat.zero_le _, fun _ => ⟨es, rfl, Nat.le_refl _, he⟩⟩
    · rw [if_neg hj]
      have hlt := hn.nx hi (jnc_0 hj)
      obtain ⟨a1, a2, a3, a4⟩ := h (i + 1) (c0 ++ es) hlt
      by_cases h0 : (nx (i + 1) (c0 ++ es)).1 = 0
      · rw [if_pos h0]
        obtain ⟨b1, es2, b2, b3, b4⟩ := a4 h0
        rw [b2, show c0 ++ es ++ es2 ++ [jnc tp lv i] = c0 ++ (es ++ es2 ++ [jnc tp lv i]) by simp]
        have hb := jnc_b hj
        have hw : wfE (k + 1) (es ++ es2 ++ [jnc tp lv i]) := by
          intro rest hh hle hr
          rw [List.append_assoc, List.append_assoc]
          refine he _ _ hle (b4 _ _ (by omega) ?_)
          show lwK (jnc tp lv i :: rest) (hh + 1 + 1)
          simp only [lwK]
          rw [if_pos hb.2.1, if_neg hb.2.2]
          exact ⟨hb.1, by omega, hr⟩
        obtain ⟨c1, c2, c3, c4⟩ := ih (nx (i + 1) (c0 ++ es)).2.1 c0 _ a2 hw
        refine ⟨by omega, c2, c3, fun q => ?_⟩
        obtain ⟨es', d1, d2, d3⟩ := c4 q
        refine ⟨es', d1, ?_, d3⟩
        simp only [List.length_append, List.length_singleton] at d2
        omega
      · rw [if_neg h0]
        exact ⟨by omega, a2, a3, fun q => absurd q h0⟩
theorem eLp_ge {tp : List Nat} {n k lv : Nat} {nx : Nat → List Int32 → pR} (hn : tK tp n) (h : eQ tp n k nx) : ∀ f i c, i ≤ n → i ≤ (eLp nx (jnc tp lv) f i c).2.1 := by
  intro f
  induction f with
  | zero => intro i c _; exact Nat.le_refl _
  | succ f ih =>
    intro i c hi
    simp only [eLp]
    by_cases hj : jnc tp lv i = 0
    · rw [if_pos hj]; exact Nat.le_refl _
    · rw [if_neg hj]
      have hlt := hn.nx hi (jnc_0 hj)
      obtain ⟨a1, a2, a3, a4⟩ := h (i + 1) c hlt
      by_cases h0 : (nx (i + 1) c).1 = 0
      · rw [if_pos h0]
        have := ih (nx (i + 1) c).2.1 ((nx (i + 1) c).2.2 ++ [jnc tp lv i]) a2
        omega
      · rw [if_neg h0]; omega
theorem eQ_lv {tp : List Nat} {n k lv : Nat} {nx : Nat → List Int32 → pR} (hn : tK tp n) (h : eQ tp n k nx) : eQ tp n (k + 1) (eLv tp lv nx) := by
  intro i c hi
  obtain ⟨a1, a2, a3, a4⟩ := h i c hi
  unfold eLv
  by_cases h0 : (nx i c).1 = 0
  · rw [if_pos h0]
    obtain ⟨b1, es, b2, b3, b4⟩ := a4 h0
    rw [b2]
    obtain ⟨c1, c2, c3, c4⟩ := eQ_lp (lv := lv) hn h (if lv = 1 then 1 else 1000) (nx i c).2.1 c es a2 (fun rest hh hle hr => b4 rest hh (by omega) hr)
    refine ⟨by omega, c2, c3, fun q => ⟨by omega, ?_⟩⟩
    obtain ⟨es', d1, d2, d3⟩ := c4 q
    exact ⟨es', d1, by omega, d3⟩
  · rw [if_neg h0]
    exact ⟨a1, a2, a3, fun q => absurd q h0⟩
theorem eQ_E {tp : List Nat} {n k : Nat} {nx : Nat → List Int32 → pR} (hn : tK tp n) (h : eQ tp n k nx) : eQ tp n (k + 4) (eE tp nx) := eQ_lv hn (eQ_lv hn (eQ_lv hn (eQ_lv hn h)))
theorem eCd_b {tp : List Nat} {i : Nat} (h : ePk tp i = true) (h1 : ¬ sgn tp i 40 = true) (h2 : ¬ krs tp i = 19) : -12 ≤ eCd tp i ∧ ¬ eCd tp i < -4 := by
  unfold ePk at h
  simp only [Bool.or_eq_true, decide_eq_true_eq, h1, h2, or_false] at h
  unfold eCd
  by_cases h3 : kkd tp i = 3
  · have := kvl_n h3
    rw [if_pos h3, Int32.le_iff_toInt_le, Int32.lt_iff_toInt_lt, nI_toInt (by omega), show (-12 : Int32).toInt = -12 by decide, show (-4 : Int32).toInt = -4 by decide]
    omega
  · rw [if_neg h3]
    have h4 : kfc tp i < 4 := (h.resolve_right (by decide)).resolve_left h3
    exact (show ∀ k, k < 4 → -12 ≤ (-1 - nI k : Int32) ∧ ¬ (-1 - nI k : Int32) < -4 by decide) _ h4
theorem eQ_pt {tp : List Nat} {n : Nat} (hn : tK tp n) : ∀ d, eQ tp n (4 * d) (ePt tp d) := by
  intro d
  induction d with
  | zero =>
    intro i c hi
    simp only [ePt]
    split
    · exact ⟨Nat.le_refl _, hi, by dsimp only; omega, fun q => absurd q (Nat.succ_ne_zero _)⟩
    · exact ⟨Nat.le_refl _, hi, by dsimp only; omega, fun q => absurd q (Nat.succ_ne_zero _)⟩
  | succ d ih =>
    intro i c hi
    simp only [ePt]
    by_cases hp : ePk tp i = true
    · rw [if_pos hp]
      have hlt := hn.nx hi (ePk_0 hp)
      by_cases hs : sgn tp i 40 = true
      · rw [if_pos hs]
        obtain ⟨a1, a2, a3, a4⟩ := eQ_E hn ih (i + 1) c hlt
        by_cases h0 : (eE tp (ePt tp d) (i + 1) c).1 = 0
        · rw [if_pos h0]
          obtain ⟨b1, es, b2, b3, b4⟩ := a4 h0
          by_cases hr : sgn tp (eE tp (ePt tp d) (i + 1) c).2.1 41 = true
          · rw [if_pos hr]
            have := hn.nx a2 (by have := sgn_k hr; omega)
            refine ⟨by dsimp only; omega, this, Nat.zero_le _, fun _ => ⟨by dsimp only; omega, es, b2, by dsimp only; omega, fun rest hh hle hr => b4 rest hh (by omega) hr⟩⟩
          · rw [if_neg hr]
            exact ⟨by dsimp only; omega, a2, by dsimp only; omega, fun q => absurd q (Nat.succ_ne_zero _)⟩
        · rw [if_neg h0]
          exact ⟨by omega, a2, a3, fun q => absurd q h0⟩
      · rw [if_neg hs]
        by_cases hr : krs tp i = 19
        · rw [if_pos hr]
          obtain ⟨a1, a2, a3, a4⟩ := ih (i + 1) c hlt
          by_cases h0 : (ePt tp d (i + 1) c).1 = 0
          · rw [if_pos h0]
            obtain ⟨b1, es, b2, b3, b4⟩ := a4 h0
            refine ⟨by dsimp only; omega, a2, Nat.zero_le _, fun _ => ⟨by dsimp only; omega, es ++ [-5], by dsimp only; rw [b2, List.append_assoc], ?_, fun rest hh hle hr => ?_⟩⟩
            · simp only [List.length_append, List.length_singleton]
              omega
            · rw [List.append_assoc]
              refine b4 _ _ (by omega) ?_
              show lwK (-5 :: rest) (hh + 1)
              simp only [lwK]
              rw [if_pos (by decide), if_pos trivial]
              exact ⟨by decide, by omega, hr⟩
          · rw [if_neg h0]
            exact ⟨by omega, a2, a3, fun q => absurd q h0⟩
        · rw [if_neg hr]
          have hb := eCd_b hp hs hr
          refine ⟨Nat.le_succ _, hlt, Nat.zero_le _, fun _ => ⟨Nat.lt_succ_self _, [eCd tp i], rfl, by dsimp only [List.length_singleton]; omega, fun rest hh hle hr => ?_⟩⟩
          show lwK (eCd tp i :: rest) hh
          simp only [lwK]
          rw [if_neg hb.2]
          exact ⟨hb.1, by omega, hr⟩
    · rw [if_neg hp]
      exact ⟨Nat.le_refl _, hi, by dsimp only; omega, fun q => absurd q (Nat.succ_ne_zero _)⟩
theorem eQ_all {tp : List Nat} {n : Nat} (hn : tK tp n) : eQ tp n 24 (eE tp (ePt tp 5)) := eQ_E hn (eQ_pt hn 5)
