/-! ===== the law of what fades ===== -/
/-- what may differ -/
def Fr (A : Nat → Nat → Prop) (z z' : gS) : Prop := (∀ a k, ¬ A a k → gi z' a k = gi z a k) ∧ (∀ a k, gl z' a k = gl z a k) ∧ (∀ a k, gr z' a k = gr z a k)
theorem Fr.rf {A : Nat → Nat → Prop} {z : gS} : Fr A z z := ⟨fun _ _ _ => rfl, fun _ _ => rfl, fun _ _ => rfl⟩
theorem Fr.tr {A B C : Nat → Nat → Prop} {z z1 z2 : gS} (h : Fr A z z1) (h2 : Fr B z1 z2) (hA : ∀ a k, A a k → C a k) (hB : ∀ a k, B a k → C a k) : Fr C z z2 := ⟨fun a k q => (h2.1 a k (fun r => q (hB a k r))).trans (h.1 a k (fun r => q (hA a k r))), fun a k => (h2.2.1 a k).trans (h.2.1 a k), fun a k => (h2.2.2 a k).trans (h.2.2 a k)⟩
theorem Fr.si {A : Nat → Nat → Prop} {z z1 : gS} {a k : Nat} {v : Int32} (h : Fr A z z1) (hA : A a k) : Fr A z (si z1 a k v) := ⟨fun b j q => by
  rw [gi_si, if_neg (fun r => q (by rw [r.1, r.2]; exact hA))]
  exact h.1 b j q, h.2.1, h.2.2⟩
theorem Fr.mono {A C : Nat → Nat → Prop} {z z1 : gS} (h : Fr A z z1) (hA : ∀ a k, A a k → C a k) : Fr C z z1 := ⟨fun a k q => h.1 a k (fun r => q (hA a k r)), h.2.1, h.2.2⟩
def jn (c l r : Int32) : Int32 := if c = -11 then l - r else if c = -10 then l + r else if c = -9 then (if l = r then 1 else 0) else if c = -8 then (if r ≤ l then 0 else 1) else if c = -7 then (if l = 0 then (if r = 0 then 0 else 1) else 1) else if c = -6 then (if l = 0 then 0 else if r = 0 then 0 else 1) else l * r
def pv (fa : Nat → Int32) (c : Int32) : Int32 := if c = -4 then fa 3 else if c = -3 then fa 2 else if c = -2 then fa 1 else if c = -1 then fa 0 else c
abbrev lSt : Type := (Nat → Int32) × Nat
def fup (f : Nat → Int32) (k : Nat) (v : Int32) : Nat → Int32 := fun j => if j = k then v else f j
def ev1 (fa : Nat → Int32) (c : Int32) (s : lSt) : lSt := if c < -4 then (if c = -5 then (fup s.1 (s.2 - 1) (if s.1 (s.2 - 1) = 0 then 1 else 0), s.2) else (fup s.1 (s.2 - 2) (jn c (s.1 (s.2 - 2)) (s.1 (s.2 - 1))), s.2 - 1)) else (fup s.1 s.2 (pv fa c), s.2 + 1)
def evS (fa : Nat → Int32) : List Int32 → lSt → lSt
  | [], s => s
  | c :: r, s => evS fa r (ev1 fa c s)
/-- codes that can be reckoned from a height, within 32 -/
def lwK : List Int32 → Nat → Prop
  | [], h => h = 1
  | c :: r, h => -12 ≤ c ∧ (if c < -4 then (if c = -5 then 0 < h ∧ lwK r h else 1 < h ∧ lwK r (h - 1)) else h < 32 ∧ lwK r (h + 1))
def fac (a b l n : Nat) : Nat → Int32 := fun k => if k = 0 then nI a else if k = 1 then nI b else if k = 2 then nI l else nI n
def lwOK (S : sS) : Prop := sLW S = [] ∨ lwK (sLW S) 0
def fds (S : sS) (lit : Nat) (m : sM) (n : Nat) : Bool := if sLW S = [] then decide (8 < m.2.2.2) else !decide ((evS (fac m.2.2.2 (sHA S m.2.1) lit n) (sLW S) (fun _ => 0, 0)).1 0 = 0)
def opO (c : Int32) : Int32 := if 0 ≤ c then 1 else if -4 ≤ c then 2 else if c = -5 then 3 else if c = -6 then 9 else if c = -7 then 10 else if c = -8 then 7 else if c = -9 then 8 else if c = -10 then 4 else if c = -11 then 5 else 6
def opA (c : Int32) : Int32 := if 0 ≤ c then c else if -4 ≤ c then -1 - c else 0
def mL (z : gS) (S : sS) : Prop := gi z 135 4 = (if sLW S = [] then nN else nI 0) ∧ (∀ i, i < (sLW S).length → gi z 136 i = opO ((sLW S).getD i 0) ∧ gi z 137 i = opA ((sLW S).getD i 0)) ∧ (sLW S ≠ [] → gi z 136 (sLW S).length = nI 0)
theorem dropC {l : List Int32} {i : Nat} (h : i < l.length) : l.drop i = l.getD i 0 :: l.drop (i + 1) := by
  rw [List.drop_eq_getElem_cons h, List.getD_eq_getElem?_getD, List.getElem?_eq_getElem h]
  rfl
section RC
variable {z : gS} {w t g b i : Nat} {S : sS} {W : sW} {P : Int32 → gS → Prop}
theorem c_joined {c l r : Int32} (h : P (jn c l r) z) : wX5_joined 148 gSH c l r z P := by
  unfold wX5_joined wX5_joined_J62
  unfold jn at h
  by_cases h1 : c = -11
  · rw [if_pos h1] at h ⊢; exact h
  rw [if_neg h1] at h ⊢
  by_cases h1 : c = -10
  · rw [if_pos h1] at h ⊢; exact h
  rw [if_neg h1] at h ⊢
  by_cases h1 : c = -9
  · rw [if_pos h1] at h ⊢
    by_cases h2 : l = r
    · rw [if_pos h2] at h ⊢; exact h
    · rw [if_neg h2] at h ⊢; exact h
  rw [if_neg h1] at h ⊢
  by_cases h1 : c = -8
  · rw [if_pos h1] at h ⊢
    by_cases h2 : r ≤ l
    · rw [if_pos h2] at h ⊢; exact h
    · rw [if_neg h2] at h ⊢; exact h
  rw [if_neg h1] at h ⊢
  by_cases h1 : c = -7
  · rw [if_pos h1] at h ⊢
    by_cases h2 : l = 0
    · rw [if_pos h2] at h ⊢
      by_cases h3 : r = 0
      · rw [if_pos h3] at h ⊢; exact h
      · rw [if_neg h3] at h ⊢; exact h
    · rw [if_neg h2] at h ⊢; exact h
  rw [if_neg h1] at h ⊢
  by_cases h1 : c = -6
  · rw [if_pos h1] at h ⊢
    by_cases h2 : l = 0
    · rw [if_pos h2] at h ⊢; exact h
    · rw [if_neg h2] at h ⊢
      by_cases h3 : r = 0
      · rw [if_pos h3] at h ⊢; exact h
      · rw [if_neg h3] at h ⊢; exact h
  rw [if_neg h1] at h ⊢
  exact h
theorem m_both {c l r : Int32} (h1 : c < -5) (h2 : -12 ≤ c) (h : P (jn c l r) z) : wX12_both 148 gSH (opO c) l r z P := by
  have hc : c = -6 ∨ c = -7 ∨ c = -8 ∨ c = -9 ∨ c = -10 ∨ c = -11 ∨ c = -12 := by
    rw [Int32.lt_iff_toInt_lt] at h1
    rw [Int32.le_iff_toInt_le] at h2
    have e1 : (-5 : Int32).toInt = -5 := by decide
    have e2 : (-12 : Int32).toInt = -12 := by decide
    rw [e1] at h1
    rw [e2] at h2
    have q : c.toInt = -6 ∨ c.toInt = -7 ∨ c.toInt = -8 ∨ c.toInt = -9 ∨ c.toInt = -10 ∨ c.toInt = -11 ∨ c.toInt = -12 := by omega
    rcases q with q | q | q | q | q | q | q
    · exact Or.inl (eq_toInt (q.trans (by decide)))
    · exact Or.inr (Or.inl (eq_toInt (q.trans (by decide))))
    · exact Or.inr (Or.inr (Or.inl (eq_toInt (q.trans (by decide)))))
    · exact Or.inr (Or.inr (Or.inr (Or.inl (eq_toInt (q.trans (by decide))))))
    · exact Or.inr (Or.inr (Or.inr (Or.inr (Or.inl (eq_toInt (q.trans (by decide)))))))
    · exact Or.inr (Or.inr (Or.inr (Or.inr (Or.inr (Or.inl (eq_toInt (q.trans (by decide))))))))
    · exact Or.inr (Or.inr (Or.inr (Or.inr (Or.inr (Or.inr (eq_toInt (q.trans (by decide))))))))
  unfold wX12_both wX12_both_J96
  rcases hc with rfl | rfl | rfl | rfl | rfl | rfl | rfl
  · rw [show opO (-6) = 9 by decide]
    rw [jn, if_neg (by decide), if_neg (by decide), if_neg (by decide), if_neg (by decide), if_neg (by decide), if_pos (by decide)] at h
    rw [if_neg (by decide), if_neg (by decide), if_neg (by decide), if_neg (by decide), if_neg (by decide), if_pos (by decide)]
    by_cases h2 : l = 0
    · rw [if_pos h2] at h ⊢; exact h
    · rw [if_neg h2] at h ⊢
      by_cases h3 : r = 0
      · rw [if_pos h3] at h ⊢; exact h
      · rw [if_neg h3] at h ⊢; exact h
  · rw [show opO (-7) = 10 by decide]
    rw [jn, if_neg (by decide), if_neg (by decide), if_neg (by decide), if_neg (by decide), if_pos (by decide)] at h
    rw [if_neg (by decide), if_neg (by decide), if_neg (by decide), if_neg (by decide), if_neg (by decide), if_neg (by decide)]
    by_cases h2 : l = 0
    · rw [if_pos h2] at h ⊢
      by_cases h3 : r = 0
      · rw [if_pos h3] at h ⊢; exact h
      · rw [if_neg h3] at h ⊢; exact h
    · rw [if_neg h2] at h ⊢; exact h
  · rw [show opO (-8) = 7 by decide]
    rw [jn, if_neg (by decide), if_neg (by decide), if_neg (by decide), if_pos (by decide)] at h
    rw [if_neg (by decide), if_neg (by decide), if_neg (by decide), if_pos (by decide)]
    by_cases h2 : r ≤ l
    · rw [if_pos h2] at h ⊢; exact h
    · rw [if_neg h2] at h ⊢; exact h
  · rw [show opO (-9) = 8 by decide]
    rw [jn, if_neg (by decide), if_neg (by decide), if_pos (by decide)] at h
    rw [if_neg (by decide), if_neg (by decide), if_neg (by decide), if_neg (by decide), if_pos (by decide)]
    by_cases h2 : l = r
    · rw [if_pos h2] at h ⊢; exact h
    · rw [if_neg h2] at h ⊢; exact h
  · rw [show opO (-10) = 4 by decide]
    rw [jn, if_neg (by decide), if_pos (by decide)] at h
    rw [if_pos (by decide)]
    exact h
  · rw [show opO (-11) = 5 by decide]
    rw [jn, if_pos (by decide)] at h
    rw [if_neg (by decide), if_pos (by decide)]
    exact h
  · rw [show opO (-12) = 6 by decide]
    rw [jn, if_neg (by decide), if_neg (by decide), if_neg (by decide), if_neg (by decide), if_neg (by decide), if_neg (by decide)] at h
    rw [if_neg (by decide), if_neg (by decide), if_pos (by decide)]
    exact h
theorem c_partOf {c : Int32} {fa : Nat → Int32} (h : P (pv fa c) z) : wX5_partOf 148 gSH c (fa 0) (fa 1) (fa 2) (fa 3) z P := by
  unfold wX5_partOf
  unfold pv at h
  by_cases h1 : c = -4
  · rw [if_pos h1] at h ⊢; exact h
  rw [if_neg h1] at h ⊢
  by_cases h1 : c = -3
  · rw [if_pos h1] at h ⊢; exact h
  rw [if_neg h1] at h ⊢
  by_cases h1 : c = -2
  · rw [if_pos h1] at h ⊢; exact h
  rw [if_neg h1] at h ⊢
  by_cases h1 : c = -1
  · rw [if_pos h1] at h ⊢; exact h
  rw [if_neg h1] at h ⊢
  exact h
end RC
