/-! ===== what a day and a street are, token by token ===== -/
/-- the first below m of which f says so, else m -/
def fs1 (f : Nat → Bool) : Nat → Nat
  | 0 => 0
  | m + 1 => if fs1 f m < m then fs1 f m else if f m then m else m + 1
theorem fs1_le (f : Nat → Bool) : ∀ m, fs1 f m ≤ m
  | 0 => Nat.le_refl _
  | m + 1 => by
    have := fs1_le f m
    simp only [fs1]
    split
    · omega
    · split <;> omega
theorem fs1_t {f : Nat → Bool} : ∀ m, fs1 f m < m → f (fs1 f m) = true
  | 0, h => by omega
  | m + 1, h => by
    have ih := fs1_t (f := f) m
    simp only [fs1] at h ⊢
    by_cases q : fs1 f m < m
    · rw [if_pos q]; exact ih q
    · rw [if_neg q] at h ⊢
      by_cases r : f m = true
      · rw [if_pos r]; exact r
      · rw [if_neg r] at h; omega
theorem fs1_f {f : Nat → Bool} : ∀ m k, k < fs1 f m → f k = false
  | 0, k, h => by simp [fs1] at h
  | m + 1, k, h => by
    have ih := fs1_f (f := f) m
    have hl := fs1_le f m
    simp only [fs1] at h
    by_cases q : fs1 f m < m
    · rw [if_pos q] at h; exact ih k h
    · rw [if_neg q] at h
      by_cases r : f m = true
      · rw [if_pos r] at h; exact ih k (by omega)
      · rw [if_neg r] at h
        by_cases e : k = m
        · rw [e]; simpa using r
        · exact ih k (by omega)
theorem fs1_e {f : Nat → Bool} {m k : Nat} (hk : k < m) (h : f k = true) (hu : ∀ j, j < m → f j = true → j = k) : fs1 f m = k := by
  have h1 : fs1 f m ≤ k := Nat.not_lt.mp (fun q => by rw [fs1_f m k q] at h; exact absurd h (by decide))
  exact hu _ (by omega) (fs1_t m (by omega))
theorem fs1_n {f : Nat → Bool} {m : Nat} (h : ∀ j, j < m → f j = false) : fs1 f m = m := by
  have h1 := fs1_le f m
  rcases Nat.lt_or_ge (fs1 f m) m with q | q
  · have := fs1_t m q
    rw [h _ q] at this
    exact absurd this (by decide)
  · omega
def nmF (nm : sNm) (F : Nat) : Nat → Nat := if F = 0 then nm.1 else if F = 20 then nm.2.1 else nm.2.2.1
def nmC (S : sS) (F : Nat) : Nat := if F = 0 then sPA S else if F = 20 then sPE S else sDE S
/-- the number of a name among panes (0), people (20), deeds (40) -/
def tld (S : sS) (nm : sNm) (F v : Nat) : Nat := fs1 (fun k => nmF nm F k == v) (nmC S F)
def nmI (nm : sNm) (v : Nat) : Nat := nm.2.2.2.findIdx (fun e => e.1 == v)
def nmT (nm : sNm) (v : Nat) : Bool := decide (nmI nm v < nm.2.2.2.length)
def nmK (nm : sNm) (v : Nat) : Nat := (nm.2.2.2.getD (nmI nm v) (0, 0)).2
theorem nmI_get {nm : sNm} {v : Nat} (h : nmI nm v < nm.2.2.2.length) : (v, nmK nm v) ∈ nm.2.2.2 := by
  have e := List.findIdx_getElem (p := fun e : Nat × Nat => e.1 == v) (w := h)
  rw [beq_iff_eq] at e
  have : nm.2.2.2.getD (nmI nm v) (0, 0) = nm.2.2.2[nmI nm v]'h := by
    rw [List.getD_eq_getElem?_getD, List.getElem?_eq_getElem h]
    rfl
  have h2 : nm.2.2.2.getD (nmI nm v) (0, 0) = (v, nmK nm v) := by
    apply Prod.ext
    · rw [this]; exact e
    · rfl
  rw [← h2, this]
  exact List.getElem_mem h
theorem nmI_in {nm : sNm} {v c : Nat} (h : (v, c) ∈ nm.2.2.2) : nmI nm v < nm.2.2.2.length := by
  unfold nmI
  rw [List.findIdx_lt_length]
  exact ⟨_, h, by simp⟩
def nmB (F : Nat) : Prop := F = 0 ∨ F = 20 ∨ F = 40
/-- what the model finds -/
theorem tld_m {S : sS} {nm : sNm} {F v : Nat} (hok : sOK S) (h : nmOK S nm) (hF : nmB F) : (tld S nm F v < nmC S F → nmI nm v < nm.2.2.2.length ∧ nmK nm v = F + tld S nm F v) ∧ (¬ tld S nm F v < nmC S F → nmI nm v < nm.2.2.2.length → nmK nm v < F ∨ F + 5 < nmK nm v) := by
  obtain ⟨h1, h2, h3, h4, h5, h6⟩ := h
  have k1 := hok.1
  have k2 := hok.2.1
  have k3 := hok.2.2.1
  constructor
  · intro q
    have e := fs1_t _ q
    (try dsimp only at e)
    rw [beq_iff_eq] at e
    have e : nmF nm F (tld S nm F v) = v := e
    generalize tld S nm F v = k at q e
    have hm : (v, F + k) ∈ nm.2.2.2 := by
      rcases hF with rfl | rfl | rfl
      · have := h3 k q
        rw [show nm.1 k = v from e] at this
        rw [Nat.zero_add]; exact this
      · have := h4 k q
        rw [show nm.2.1 k = v from e] at this
        exact this
      · have := h5 k q
        rw [show nm.2.2.1 k = v from e] at this
        exact this
    have hi := nmI_in hm
    exact ⟨hi, congrArg Prod.snd (h6 _ (nmI_get hi) _ hm rfl)⟩
  · intro q hi
    have hm := nmI_get hi
    have hno : ∀ k, k < nmC S F → nmF nm F k ≠ v := by
      intro k hk r
      have hl := fs1_le (fun k => nmF nm F k == v) (nmC S F)
      have : fs1 (fun k => nmF nm F k == v) (nmC S F) = nmC S F := by
        have q : ¬ fs1 (fun k => nmF nm F k == v) (nmC S F) < nmC S F := q
        omega
      have := fs1_f (f := fun k => nmF nm F k == v) (nmC S F) k (by omega)
      (try dsimp only at this)
      rw [r] at this
      simp at this
    rcases (h2 _ hm).2 with ⟨a1, a2⟩ | ⟨p, a1, a2, a3⟩ | ⟨d, a1, a2, a3⟩
    · dsimp only at a1 a2
      rcases hF with rfl | rfl | rfl
      · exact absurd a2 (hno _ a1)
      · left; omega
      · left; omega
    · dsimp only at a2 a3
      rcases hF with rfl | rfl | rfl
      · right; omega
      · exact absurd a3 (hno _ a1)
      · left; omega
    · dsimp only at a2 a3
      rcases hF with rfl | rfl | rfl
      · right; omega
      · right; omega
      · exact absurd a3 (hno _ a1)
theorem nmT_c {S : sS} {nm : sNm} {v : Nat} (h : nmOK S nm) : nmT nm v = true ↔ (tld S nm 0 v < sPA S ∨ tld S nm 20 v < sPE S ∨ tld S nm 40 v < sDE S) := by
  obtain ⟨h1, h2, h3, h4, h5, h6⟩ := h
  have hy : ∀ F k, k < nmC S F → nmF nm F k = v → tld S nm F v < nmC S F := by
    intro F k hk e
    apply Nat.not_le.mp
    intro q
    have := fs1_f (f := fun k => nmF nm F k == v) (nmC S F) k (Nat.lt_of_lt_of_le hk q)
    (try dsimp only at this)
    rw [e] at this
    simp at this
  unfold nmT
  rw [decide_eq_true_eq]
  constructor
  · intro hi
    have hm := nmI_get hi
    rcases (h2 _ hm).2 with ⟨a1, a2⟩ | ⟨p, a1, a2, a3⟩ | ⟨d, a1, a2, a3⟩
    · left; exact hy 0 _ a1 a2
    · right; left; exact hy 20 _ a1 a3
    · right; right; exact hy 40 _ a1 a3
  · intro q
    have hx : ∀ F, tld S nm F v < nmC S F → nmF nm F (tld S nm F v) = v := by
      intro F q
      have e := fs1_t _ q
      (try dsimp only at e)
      rw [beq_iff_eq] at e
      exact e
    rcases q with q | q | q
    · have := h3 _ q
      rw [show nm.1 (tld S nm 0 v) = v from hx 0 q] at this
      exact nmI_in this
    · have := h4 _ q
      rw [show nm.2.1 (tld S nm 20 v) = v from hx 20 q] at this
      exact nmI_in this
    · have := h5 _ q
      rw [show nm.2.2.1 (tld S nm 40 v) = v from hx 40 q] at this
      exact nmI_in this
/-- a line of a day: fault, token, line -/
def dLn (tp : List Nat) (S : sS) (nm : sNm) (i m : Nat) : Nat × Nat × sL :=
  if ¬ (5 ≤ krs tp i ∧ krs tp i ≤ 10) then (1, i, l0)
  else if m = 40 then (5, i, l0)
  else if krs tp i = 10 then (0, i + 1, (5, 0, 0))
  else if knm tp (i + 1) = false then (1, i + 1, l0)
  else if ¬ tld S nm (if krs tp i < 7 then 20 else 0) (kvl tp (i + 1)) < nmC S (if krs tp i < 7 then 20 else 0) then (2, i + 1, l0)
  else if krs tp i = 5 then
    (if kkd tp (i + 2) ≠ 3 then (1, i + 2, l0) else if ¬ kvl tp (i + 2) ≤ 9 then (4, i + 2, l0) else (0, i + 3, (0, tld S nm 20 (kvl tp (i + 1)), kvl tp (i + 2))))
  else if krs tp i = 6 then
    (if knm tp (i + 2) = false then (1, i + 2, l0) else if ¬ tld S nm 40 (kvl tp (i + 2)) < sDE S then (2, i + 2, l0) else (0, i + 3, (1, tld S nm 20 (kvl tp (i + 1)), tld S nm 40 (kvl tp (i + 2)))))
  else (0, i + 2, (krs tp i - 5, tld S nm 0 (kvl tp (i + 1)), 0))
def dLp (tp : List Nat) (S : sS) (nm : sNm) : Nat → Nat → List sL → Nat × Nat × List sL
  | 0, i, D => (0, i, D)
  | f + 1, i, D => if kkd tp i = 0 then (0, i, D) else if (dLn tp S nm i D.length).1 = 0 then (if sgn tp (dLn tp S nm i D.length).2.1 59 then dLp tp S nm f ((dLn tp S nm i D.length).2.1 + 1) (D ++ [(dLn tp S nm i D.length).2.2]) else (1, (dLn tp S nm i D.length).2.1, D)) else ((dLn tp S nm i D.length).1, (dLn tp S nm i D.length).2.1, D)
theorem knm_k {tp : List Nat} {i : Nat} (h : ¬ knm tp i = false) : kkd tp i = 2 := by
  rw [Bool.not_eq_false] at h
  unfold knm at h
  simp only [Bool.and_eq_true, decide_eq_true_eq] at h
  exact h.1
def dOK1 (S : sS) (l : sL) : Prop := l.1 < 6 ∧ (l.1 < 2 → l.2.1 < sPE S) ∧ (2 ≤ l.1 → l.1 < 5 → l.2.1 < sPA S) ∧ (l.1 = 0 → l.2.2 < 10) ∧ (l.1 = 1 → l.2.2 < sDE S)
theorem dLn_ok {tp : List Nat} {S : sS} {nm : sNm} {n i m : Nat} (hn : tK tp n) (hi : i ≤ n) (hm : m ≤ 40) : i ≤ (dLn tp S nm i m).2.1 ∧ (dLn tp S nm i m).2.1 ≤ n ∧ ((dLn tp S nm i m).1 = 0 → i < (dLn tp S nm i m).2.1 ∧ m < 40 ∧ dOK1 S (dLn tp S nm i m).2.2) := by
  have F : ∀ (k j : Nat), i ≤ j → j ≤ n → i ≤ ((k + 1, j, l0) : Nat × Nat × sL).2.1 ∧ ((k + 1, j, l0) : Nat × Nat × sL).2.1 ≤ n ∧ (((k + 1, j, l0) : Nat × Nat × sL).1 = 0 → i < ((k + 1, j, l0) : Nat × Nat × sL).2.1 ∧ m < 40 ∧ dOK1 S ((k + 1, j, l0) : Nat × Nat × sL).2.2) := fun k j a b => ⟨a, b, fun q => absurd q (Nat.succ_ne_zero _)⟩
  unfold dLn
  by_cases c1 : ¬ (5 ≤ krs tp i ∧ krs tp i ≤ 10)
  · rw [if_pos c1]; exact F 0 i (Nat.le_refl _) hi
  rw [if_neg c1]
  have hlt := hn.nx hi (by have := krs_k (tp := tp) (i := i) rfl (by omega); omega)
  by_cases c2 : m = 40
  · rw [if_pos c2]; exact F 4 i (Nat.le_refl _) hi
  rw [if_neg c2]
  by_cases c3 : krs tp i = 10
  · rw [if_pos c3]
    exact ⟨Nat.le_succ _, hlt, fun _ => ⟨Nat.lt_succ_self _, by omega, by unfold dOK1; dsimp only; omega⟩⟩
  rw [if_neg c3]
  by_cases c4 : knm tp (i + 1) = false
  · rw [if_pos c4]; exact F 0 (i + 1) (by omega) hlt
  rw [if_neg c4]
  have hlt1 := hn.nx (i := i + 1) hlt (by have := knm_k c4; omega)
  by_cases c5 : ¬ tld S nm (if krs tp i < 7 then 20 else 0) (kvl tp (i + 1)) < nmC S (if krs tp i < 7 then 20 else 0)
  · rw [if_pos c5]; exact F 1 (i + 1) (by omega) hlt
  rw [if_neg c5]
  by_cases c6 : krs tp i = 5
  · rw [if_pos c6]
    by_cases c7 : kkd tp (i + 2) ≠ 3
    · rw [if_pos c7]; exact F 0 (i + 2) (by omega) hlt1
    rw [if_neg c7]
    have hlt2 := hn.nx (i := i + 2) hlt1 (by omega)
    by_cases c8 : ¬ kvl tp (i + 2) ≤ 9
    · rw [if_pos c8]; exact F 3 (i + 2) (by omega) hlt1
    rw [if_neg c8]
    rw [if_pos (show krs tp i < 7 by omega)] at c5
    have c5 : tld S nm 20 (kvl tp (i + 1)) < sPE S := by simpa [nmC] using c5
    refine ⟨by dsimp only; omega, hlt2, fun _ => ⟨by dsimp only; omega, by omega, ?_⟩⟩
    unfold dOK1; dsimp only; omega
  rw [if_neg c6]
  by_cases c7 : krs tp i = 6
  · rw [if_pos c7]
    by_cases c8 : knm tp (i + 2) = false
    · rw [if_pos c8]; exact F 0 (i + 2) (by omega) hlt1
    rw [if_neg c8]
    have hlt2 := hn.nx (i := i + 2) hlt1 (by have := knm_k c8; omega)
    by_cases c9 : ¬ tld S nm 40 (kvl tp (i + 2)) < sDE S
    · rw [if_pos c9]; exact F 1 (i + 2) (by omega) hlt1
    rw [if_neg c9]
    rw [if_pos (show krs tp i < 7 by omega)] at c5
    have c5 : tld S nm 20 (kvl tp (i + 1)) < sPE S := by simpa [nmC] using c5
    refine ⟨by dsimp only; omega, hlt2, fun _ => ⟨by dsimp only; omega, by omega, ?_⟩⟩
    unfold dOK1; dsimp only; omega
  rw [if_neg c7]
  rw [if_neg (show ¬ krs tp i < 7 by omega)] at c5
  have c5 : tld S nm 0 (kvl tp (i + 1)) < sPA S := by simpa [nmC] using c5
  refine ⟨by dsimp only; omega, hlt1, fun _ => ⟨by dsimp only; omega, by omega, ?_⟩⟩
  unfold dOK1; dsimp only; omega
theorem dLp_ok {tp : List Nat} {S : sS} {nm : sNm} {n : Nat} (hn : tK tp n) : ∀ f i D, i ≤ n → dOK S D → (dLp tp S nm f i D).2.1 ≤ n ∧ ((dLp tp S nm f i D).1 = 0 → dOK S (dLp tp S nm f i D).2.2) := by
  intro f
  induction f with
  | zero => intro i D hi hD; exact ⟨hi, fun _ => hD⟩
  | succ f ih =>
    intro i D hi hD
    simp only [dLp]
    by_cases c1 : kkd tp i = 0
    · rw [if_pos c1]; exact ⟨hi, fun _ => hD⟩
    rw [if_neg c1]
    obtain ⟨a1, a2, a3⟩ := dLn_ok (S := S) (nm := nm) (m := D.length) hn hi hD.1
    by_cases c2 : (dLn tp S nm i D.length).1 = 0
    · rw [if_pos c2]
      obtain ⟨b1, b2, b3⟩ := a3 c2
      by_cases c3 : sgn tp (dLn tp S nm i D.length).2.1 59 = true
      · rw [if_pos c3]
        refine ih _ _ (hn.nx a2 (by have := sgn_k c3; omega)) ⟨by simp only [List.length_append, List.length_singleton]; omega, fun l hl => ?_⟩
        rcases List.mem_append.mp hl with r | r
        · exact hD.2 l r
        · rw [List.mem_singleton] at r
          rw [r]; exact b3
      · rw [if_neg c3]; exact ⟨a2, fun q => absurd q (Nat.succ_ne_zero _)⟩
    · rw [if_neg c2]; exact ⟨a2, fun q => absurd q c2⟩
