/-! ===== rents at rest ===== -/
def aRs (h l a : Int32) (k : Nat) : Bool := if k = 0 then !decide (l < 0) else if k = 1 then !decide (a < h) && !decide (0 < l) else if k = 2 then !decide (0 < l) && !decide (a < h) else !decide (h < a)
def rsC (f : Nat → Bool) (x : Int32) : Nat → Nat → Nat → Option Int32
  | 0, _, n => if x = -1 then some (nI n) else none
  | m + 1, k, n => if f k = true then (if nI n = x then some (nI k) else rsC f x m (k + 1) (n + 1)) else rsC f x m (k + 1) n
def rsM (f : Nat → Bool) (x : Int32) : Nat → Nat → Nat → Int32 → Nat × Int32
  | 0, _, n, fd => (n, fd)
  | m + 1, k, n, fd => rsM f x m (k + 1) (n + (f k).toNat) (if f k = true ∧ nI n = x then nI k else fd)
theorem rsM_st {f : Nat → Bool} {j : Nat} : ∀ (m k n : Nat) (fd : Int32), j < n → n + m < 100 → (rsM f (nI j) m k n fd).2 = fd
  | 0, _, _, _, _, _ => rfl
  | m + 1, k, n, fd, h, hn => by
    have hb : (f k).toNat ≤ 1 := Bool.toNat_le _
    rw [rsM, if_neg (fun q => by have := (nI_eq (by omega) (by omega)).mp q.2; omega)]
    exact rsM_st m (k + 1) _ fd (by omega) (by omega)
theorem rsM_b {f : Nat → Bool} {x : Int32} (hx : ¬ x = -1) : ∀ (m k n : Nat), n + m < 100 → k + m < 100 → (rsM f x m k n (-1)).2 = (rsC f x m k n).getD (-1) ∧ ∀ r, rsC f x m k n = some r → 0 ≤ r
  | 0, k, n, _, _ => by
    rw [rsC, if_neg hx]
    exact ⟨rfl, fun r q => by cases q⟩
  | m + 1, k, n, hn, hk => by
    rw [rsM, rsC]
    cases hf : f k
    · rw [if_neg (fun q => by cases q.1), if_neg (by decide)]
      exact rsM_b hx m (k + 1) n (by omega) (by omega)
    · rw [if_pos rfl]
      by_cases e : nI n = x
      · rw [if_pos ⟨rfl, e⟩, if_pos e, ← e]
        refine ⟨?_, fun r q => ?_⟩
        · rw [rsM_st m (k + 1) _ _ (by simp) (by simp; omega)]
          rfl
        · cases q
          exact nI_pos' (by omega)
      · rw [if_neg (fun q => e q.2), if_neg e]
        exact rsM_b hx m (k + 1) (n + 1) (by omega) (by omega)
theorem rsM_c {f : Nat → Bool} : ∀ (m k n : Nat) (fd : Int32), n + m < 100 → (rsM f (-1) m k n fd).2 = fd ∧ rsC f (-1) m k n = some (nI (rsM f (-1) m k n fd).1)
  | 0, _, _, _, _ => ⟨rfl, rfl⟩
  | m + 1, k, n, fd, hn => by
    have hne : ¬ nI n = -1 := fun q => by
      have := congrArg Int32.toInt q
      rw [nI_toInt (by omega), show (-1 : Int32).toInt = -1 by decide] at this
      omega
    rw [rsM, rsC, if_neg (fun q => hne q.2)]
    cases hf : f k
    · rw [if_neg (by decide)]
      exact rsM_c m (k + 1) n fd (by omega)
    · rw [if_pos rfl, if_neg hne]
      exact rsM_c m (k + 1) (n + 1) fd (by omega)
section RP
variable {z : gS} {n : Nat} {P : Int32 → gS → Prop} {h l a x : Int32}
theorem i10 : (1 : Int32) - 0 = 1 := by decide
theorem i11 : (1 : Int32) - 1 = 0 := by decide
theorem r00 (hP : P l z) : wX11_rentOf 148 gSH h l a 0 0 z P := hP
theorem r01 (hP : P a z) : wX11_rentOf 148 gSH h l a 0 1 z P := hP
theorem r10 (hP : P 0 z) : wX11_rentOf 148 gSH h l a 1 0 z P := hP
theorem r11 (hP : P h z) : wX11_rentOf 148 gSH h l a 1 1 z P := hP
theorem g00 (hP : P l z) : wX12_getsBy 148 gSH 0 0 h l a z P := hP
theorem g01 (hP : P a z) : wX12_getsBy 148 gSH 0 1 h l a z P := hP
theorem g10 (hP : P 0 z) : wX12_getsBy 148 gSH 1 0 h l a z P := hP
theorem g11 (hP : P h z) : wX12_getsBy 148 gSH 1 1 h l a z P := hP
theorem ifd {A B : Int32} {X Y : Prop} (h1 : decide (A < B) = true → X) (h2 : decide (A < B) = false → Y) : if A < B then X else Y := by
  by_cases q : A < B
  · rw [if_pos q]; exact h1 (decide_eq_true q)
  · rw [if_neg q]; exact h2 (decide_eq_false q)
theorem c_rest : ∀ k, k < 4 → P (nI (aRs h l a k).toNat) z → wX11_isAtRest 148 gSH h l a (nI k) z P := by
  intro k hk hP
  have : k = 0 ∨ k = 1 ∨ k = 2 ∨ k = 3 := by omega
  unfold wX11_isAtRest
  unfold aRs at hP
  rcases this with rfl | rfl | rfl | rfl
  · intro v1 e1 v2 e2
    rw [show nI 0 >>> ((1 : Int32) &&& 31) = 0 by decide] at e1
    rw [show nI 0 &&& (1 : Int32) = 0 by decide] at e2
    subst e1 e2
    rw [if_pos rfl] at hP
    simp only [i10, i11]
    refine r00 (r10 (ifd (fun q => ?_) (fun q => r00 (r10 (ifd (fun q2 => ?_) (fun q2 => ?_))))))
    · rw [q] at hP
      exact hP
    · rw [q2] at hP
      first | exact hP | (rw [q] at hP; exact hP) | exact absurd (q.symm.trans q2) (by decide)
    · rw [q] at hP
      first | exact hP | (rw [q2] at hP; exact hP)
  · intro v1 e1 v2 e2
    rw [show nI 1 >>> ((1 : Int32) &&& 31) = 0 by decide] at e1
    rw [show nI 1 &&& (1 : Int32) = 1 by decide] at e2
    subst e1 e2
    rw [if_neg (by decide), if_pos rfl] at hP
    simp only [i10, i11]
    refine r01 (r11 (ifd (fun q => ?_) (fun q => r10 (r00 (ifd (fun q2 => ?_) (fun q2 => ?_))))))
    · rw [q] at hP
      exact hP
    · rw [q2] at hP
      first | exact hP | (rw [q] at hP; exact hP) | exact absurd (q.symm.trans q2) (by decide)
    · rw [q] at hP
      first | exact hP | (rw [q2] at hP; exact hP)
  · intro v1 e1 v2 e2
    rw [show nI 2 >>> ((1 : Int32) &&& 31) = 1 by decide] at e1
    rw [show nI 2 &&& (1 : Int32) = 0 by decide] at e2
    subst e1 e2
    rw [if_neg (by decide), if_neg (by decide), if_pos rfl] at hP
    simp only [i10, i11]
    refine r10 (r00 (ifd (fun q => ?_) (fun q => r01 (r11 (ifd (fun q2 => ?_) (fun q2 => ?_))))))
    · rw [q] at hP
      exact hP
    · rw [q2] at hP
      first | exact hP | (rw [q] at hP; exact hP) | exact absurd (q.symm.trans q2) (by decide)
    · rw [q] at hP
      first | exact hP | (rw [q2] at hP; exact hP)
  · intro v1 e1 v2 e2
    rw [show nI 3 >>> ((1 : Int32) &&& 31) = 1 by decide] at e1
    rw [show nI 3 &&& (1 : Int32) = 1 by decide] at e2
    subst e1 e2
    rw [if_neg (by decide), if_neg (by decide), if_neg (by decide)] at hP
    simp only [i10, i11]
    refine r11 (r01 (ifd (fun q => ?_) (fun q => r11 (r01 (ifd (fun q2 => ?_) (fun q2 => ?_))))))
    · rw [q] at hP
      exact hP
    · rw [q2] at hP
      first | exact hP | (rw [q] at hP; exact hP) | exact absurd (q.symm.trans q2) (by decide)
    · rw [q] at hP
      first | exact hP | (rw [q2] at hP; exact hP)
theorem c_restsL {K : Option Int32 → gS → Prop} (hK : K (rsC (aRs h l a) x 4 0 0) z) : ∃ N, wX11_rests_L41 148 gSH K N h l a x (nI 0) (nI 0) z := by
  have hl : ∀ (m k n : Nat), k + m = 4 → rsC (aRs h l a) x m k n = rsC (aRs h l a) x 4 0 0 → wX11_rests_L41 148 gSH K (m + 1) h l a x (nI n) (nI k) z := by
    intro m
    induction m with
    | zero =>
      intro k n hk e
      rw [show k = 4 by omega]
      unfold wX11_rests_L41 wX11_rests_B41
      rw [if_pos (by decide)]
      rw [← e, rsC] at hK
      by_cases q : x = -1
      · rw [if_pos q] at hK ⊢
        exact hK
      · rw [if_neg q] at hK ⊢
        exact hK
    | succ m ih =>
      intro k n hk e
      unfold wX11_rests_L41 wX11_rests_B41
      rw [if_neg (show ¬ (4 : Int32) ≤ nI k from nI_ge (b := 4) (by omega) (by decide))]
      refine c_rest k (by omega) (ifb0 (fun q => ?_) (fun q => ?_))
      · rw [rsC, if_neg (by rw [q]; decide)] at e
        intro v10 e10
        rw [nI_1] at e10
        subst e10
        exact ih (k + 1) n (by omega) e
      · rw [rsC, if_pos q] at e
        by_cases q2 : nI n = x
        · rw [if_pos q2] at e ⊢
          rw [← e] at hK
          exact hK
        · rw [if_neg q2] at e ⊢
          intro v11 e11 v10 e10
          rw [nI_1] at e10 e11
          subst e10 e11
          exact ih (k + 1) (n + 1) (by omega) e
  exact ⟨_, hl 4 0 0 rfl rfl⟩
theorem m_restsL (hP : wX12_rests_J174 148 gSH P 129 x 1 (nI (rsM (aRs h l a) x 4 0 0 (-1)).1) (rsM (aRs h l a) x 4 0 0 (-1)).2 z) : ∃ N, wX12_rests_L52 148 gSH P N 129 h l a x 1 (nI 0) (-1) (nI 0) z := by
  have hl : ∀ (m k n : Nat) (fd : Int32), k + m = 4 → rsM (aRs h l a) x m k n fd = rsM (aRs h l a) x 4 0 0 (-1) → wX12_rests_L52 148 gSH P (m + 1) 129 h l a x 1 (nI n) fd (nI k) z := by
    intro m
    induction m with
    | zero =>
      intro k n fd hk e
      rw [show k = 4 by omega]
      unfold wX12_rests_L52 wX12_rests_B52
      rw [if_pos (by decide)]
      rw [← e] at hP
      exact hP
    | succ m ih =>
      intro k n fd hk e
      have hJ : ∀ b : Bool, b = aRs h l a k → wX12_rests_J130 148 gSH (wX12_rests_L52 148 gSH P (m + 1)) P 129 h l a x 1 (nI n) fd (nI k) (nI b.toNat) z := by
        intro b hb
        rw [rsM, ← hb] at e
        unfold wX12_rests_J130 wX12_rests_J149 wX12_rests_J151 wX12_rests_J165
        cases b
        · rw [if_pos (by decide), if_pos (by decide)]
          intro v17 e17 v18 e18
          rw [show nI n + 0 = nI n from nI_add n 0] at e17
          rw [nI_1] at e18
          subst e17 e18
          rw [if_neg (fun q => by cases q.1)] at e
          exact ih (k + 1) n fd (by omega) e
        · rw [if_neg (by decide)]
          by_cases q : nI n = x
          · rw [if_pos q, if_neg (by decide)]
            intro v17 e17 v18 e18
            rw [nI_1] at e17 e18
            subst e17 e18
            rw [if_pos ⟨rfl, q⟩] at e
            exact ih (k + 1) (n + 1) (nI k) (by omega) e
          · rw [if_neg q, if_neg (by decide)]
            intro v17 e17 v18 e18
            rw [nI_1] at e17 e18
            subst e17 e18
            rw [if_neg (fun r => q r.2)] at e
            exact ih (k + 1) (n + 1) fd (by omega) e
      unfold wX12_rests_L52 wX12_rests_B52 wX12_rests_J129
      rw [if_neg (show ¬ (4 : Int32) ≤ nI k from nI_ge (b := 4) (by omega) (by decide)), if_neg (by decide)]
      have : k = 0 ∨ k = 1 ∨ k = 2 ∨ k = 3 := by omega
      unfold aRs at hJ
      rcases this with rfl | rfl | rfl | rfl
      · intro v1 e1 v2 e2
        rw [show nI 0 / (2 : Int32) = 0 by decide] at e1
        rw [show nI 0 - nI 0 / (2 : Int32) * (2 : Int32) = 0 by decide] at e2
        subst e1 e2
        rw [if_pos rfl] at hJ
        simp only [i10, i11]
        refine g10 (g00 (ifd (fun q => ?_) (fun q => g10 (g00 (ifd (fun q2 => ?_) (fun q2 => ?_))))))
        · rw [q] at hJ
          exact hJ false rfl
        · rw [q2] at hJ
          first | exact hJ false rfl | (rw [q] at hJ; exact hJ false rfl) | exact absurd (q.symm.trans q2) (by decide)
        · rw [q] at hJ
          first | exact hJ true rfl | (rw [q2] at hJ; exact hJ true rfl)
      · intro v1 e1 v2 e2
        rw [show nI 1 / (2 : Int32) = 0 by decide] at e1
        rw [show nI 1 - nI 1 / (2 : Int32) * (2 : Int32) = 1 by decide] at e2
        subst e1 e2
        rw [if_neg (by decide), if_pos rfl] at hJ
        simp only [i10, i11]
        refine g11 (g01 (ifd (fun q => ?_) (fun q => g00 (g10 (ifd (fun q2 => ?_) (fun q2 => ?_))))))
        · rw [q] at hJ
          exact hJ false rfl
        · rw [q2] at hJ
          first | exact hJ false rfl | (rw [q] at hJ; exact hJ false rfl) | exact absurd (q.symm.trans q2) (by decide)
        · rw [q] at hJ
          first | exact hJ true rfl | (rw [q2] at hJ; exact hJ true rfl)
      · intro v1 e1 v2 e2
        rw [show nI 2 / (2 : Int32) = 1 by decide] at e1
        rw [show nI 2 - nI 2 / (2 : Int32) * (2 : Int32) = 0 by decide] at e2
        subst e1 e2
        rw [if_neg (by decide), if_neg (by decide), if_pos rfl] at hJ
        simp only [i10, i11]
        refine g00 (g10 (ifd (fun q => ?_) (fun q => g11 (g01 (ifd (fun q2 => ?_) (fun q2 => ?_))))))
        · rw [q] at hJ
          exact hJ false rfl
        · rw [q2] at hJ
          first | exact hJ false rfl | (rw [q] at hJ; exact hJ false rfl) | exact absurd (q.symm.trans q2) (by decide)
        · rw [q] at hJ
          first | exact hJ true rfl | (rw [q2] at hJ; exact hJ true rfl)
      · intro v1 e1 v2 e2
        rw [show nI 3 / (2 : Int32) = 1 by decide] at e1
        rw [show nI 3 - nI 3 / (2 : Int32) * (2 : Int32) = 1 by decide] at e2
        subst e1 e2
        rw [if_neg (by decide), if_neg (by decide), if_neg (by decide)] at hJ
        simp only [i10, i11]
        refine g01 (g11 (ifd (fun q => ?_) (fun q => g01 (g11 (ifd (fun q2 => ?_) (fun q2 => ?_))))))
        · rw [q] at hJ
          exact hJ false rfl
        · rw [q2] at hJ
          first | exact hJ false rfl | (rw [q] at hJ; exact hJ false rfl) | exact absurd (q.symm.trans q2) (by decide)
        · rw [q] at hJ
          first | exact hJ true rfl | (rw [q2] at hJ; exact hJ true rfl)
  exact ⟨_, hl 4 0 0 (-1) rfl rfl⟩
end RP
