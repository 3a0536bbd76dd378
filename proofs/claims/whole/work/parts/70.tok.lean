/-! ===== tokens ===== -/
theorem ift {c : Prop} [Decidable c] {A B : Prop} (h1 : c → A) (h2 : ¬ c → B) : if c then A else B := by
  by_cases h : c
  · rw [if_pos h]; exact h1 h
  · rw [if_neg h]; exact h2 h
theorem ifi {c d : Prop} [Decidable c] {A B : Prop} (e : c ↔ d) (h1 : d → A) (h2 : ¬ d → B) : if c then A else B := ift (fun q => h1 (e.mp q)) (fun q => h2 (fun r => q (e.mpr r)))
def kch (tp : List Nat) (i : Nat) : Nat := tp.getD i 0
def klt (c : Nat) : Bool := decide (97 ≤ c) && decide (c ≤ 122)
def kdg (c : Nat) : Bool := decide (48 ≤ c) && decide (c ≤ 57)
def kbl (c : Nat) : Bool := decide (c = 10) || decide (c = 32)
def kSGl : List Nat := [40, 41, 60, 61, 43, 45, 42, 59]
def ksg (c : Nat) : Bool := decide (c ∈ kSGl)
theorem klt_i {c : Nat} : klt c = true ↔ 97 ≤ c ∧ c ≤ 122 := by simp [klt]
theorem kdg_i {c : Nat} : kdg c = true ↔ 48 ≤ c ∧ c ≤ 57 := by simp [kdg]
theorem kbl_i {c : Nat} : kbl c = true ↔ c = 10 ∨ c = 32 := by simp [kbl]
theorem klt_n {c : Nat} : klt c = false ↔ c < 97 ∨ 122 < c := by
  rw [← Bool.not_eq_true, klt_i]; omega
theorem kdg_n {c : Nat} : kdg c = false ↔ c < 48 ∨ 57 < c := by
  rw [← Bool.not_eq_true, kdg_i]; omega
theorem kbl_n {c : Nat} : kbl c = false ↔ c ≠ 10 ∧ c ≠ 32 := by
  rw [← Bool.not_eq_true, kbl_i]; omega
theorem tw_le (p : Nat → Bool) : ∀ l : List Nat, (l.takeWhile p).length ≤ l.length := by
  intro l
  induction l with
  | nil => simp
  | cons x l ih =>
    rw [List.takeWhile_cons]
    split
    · simp only [List.length_cons]; omega
    · simp
/-- how many such stand in a row -/
def krn (p : Nat → Bool) (tp : List Nat) (a : Nat) : Nat := ((tp.drop a).takeWhile p).length
theorem krn_le (p : Nat → Bool) (tp : List Nat) (a : Nat) : krn p tp a ≤ tp.length - a := by
  have := tw_le p (tp.drop a)
  rw [List.length_drop] at this
  exact this
theorem kch_in {tp : List Nat} {a : Nat} (h : a < tp.length) : tp.drop a = kch tp a :: tp.drop (a + 1) := by
  rw [List.drop_eq_getElem_cons h, kch, List.getD_eq_getElem?_getD, List.getElem?_eq_getElem h]
  rfl
theorem kch_out {tp : List Nat} {a : Nat} (h : tp.length ≤ a) : kch tp a = 0 := by
  rw [kch, List.getD_eq_getElem?_getD, List.getElem?_eq_none h]
  rfl
theorem krn_s {p : Nat → Bool} {tp : List Nat} {a : Nat} (h0 : p 0 = false) (h : p (kch tp a) = true) : a < tp.length ∧ krn p tp a = krn p tp (a + 1) + 1 := by
  by_cases hl : a < tp.length
  · refine ⟨hl, ?_⟩
    unfold krn
    rw [kch_in hl, List.takeWhile_cons, if_pos h, List.length_cons]
  · rw [kch_out (by omega), h0] at h
    exact absurd h (by decide)
theorem krn_0 {p : Nat → Bool} {tp : List Nat} {a : Nat} (h : p (kch tp a) = false) : krn p tp a = 0 := by
  by_cases hl : a < tp.length
  · unfold krn
    rw [kch_in hl, List.takeWhile_cons, if_neg (by simp [h])]
    rfl
  · have := krn_le p tp a
    omega
theorem krn_in {p : Nat → Bool} {tp : List Nat} (h0 : p 0 = false) : ∀ (j a : Nat), j < krn p tp a → p (kch tp (a + j)) = true ∧ a + j < tp.length := by
  intro j
  induction j with
  | zero =>
    intro a h
    cases hp : p (kch tp a)
    · rw [krn_0 hp] at h; omega
    · exact ⟨rfl, (krn_s h0 hp).1⟩
  | succ j ih =>
    intro a h
    cases hp : p (kch tp a)
    · rw [krn_0 hp] at h; omega
    · have := ih (a + 1) (by have := (krn_s h0 hp).2; omega)
      rw [show a + (j + 1) = a + 1 + j by omega]
      exact this
theorem krn_e {p : Nat → Bool} {tp : List Nat} (h0 : p 0 = false) : ∀ (n a : Nat), krn p tp a = n → p (kch tp (a + n)) = false := by
  intro n
  induction n with
  | zero =>
    intro a h
    cases hp : p (kch tp a)
    · rfl
    · have := (krn_s h0 hp).2; omega
  | succ n ih =>
    intro a h
    cases hp : p (kch tp a)
    · rw [krn_0 hp] at h; omega
    · have := ih (a + 1) (by have := (krn_s h0 hp).2; omega)
      rw [show a + (n + 1) = a + 1 + n by omega]
      exact this
def kwv (tp : List Nat) (a : Nat) : Nat → Nat
  | 0 => 0
  | k + 1 => kwv tp a k * 27 + (kch tp (a + k) - 96)
def kcw (tp : List Nat) (a : Nat) : Nat → Nat
  | 0 => 0
  | k + 1 => 37 * kcw tp a k + (kch tp (a + k) - 96)
def knv (tp : List Nat) (a : Nat) : Nat → Nat
  | 0 => 0
  | k + 1 => knv tp a k * 10 + (kch tp (a + k) - 48)
theorem kwv_lt {tp : List Nat} {a : Nat} : ∀ k, k ≤ krn klt tp a → kwv tp a k < 27 ^ k
  | 0, _ => Nat.one_pos
  | k + 1, h => by
    have h1 := kwv_lt (tp := tp) (a := a) k (by omega)
    have h2 := klt_i.mp (krn_in (p := klt) (tp := tp) (by decide) k a (by omega)).1
    have e : 27 ^ (k + 1) = 27 ^ k * 27 := Nat.pow_succ ..
    simp only [kwv]
    omega
theorem knv_lt {tp : List Nat} {a : Nat} : ∀ k, k ≤ krn kdg tp a → knv tp a k < 10 ^ k
  | 0, _ => Nat.one_pos
  | k + 1, h => by
    have h1 := knv_lt (tp := tp) (a := a) k (by omega)
    have h2 := kdg_i.mp (krn_in (p := kdg) (tp := tp) (by decide) k a (by omega)).1
    have e : 10 ^ (k + 1) = 10 ^ k * 10 := Nat.pow_succ ..
    simp only [knv]
    omega
theorem cvN_0 : ∀ f, cvN f 0 = 0
  | 0 => rfl
  | f + 1 => by simp [cvN, cvN_0 f]
theorem kcw_cv {tp : List Nat} {a : Nat} : ∀ f k, k ≤ f → k ≤ krn klt tp a → cvN f (kwv tp a k) = kcw tp a k
  | 0, 0, _, _ => rfl
  | 0, k + 1, h, _ => by omega
  | f + 1, 0, _, _ => cvN_0 _
  | f + 1, k + 1, h, h2 => by
    have ih := kcw_cv (tp := tp) (a := a) f k (by omega) (by omega)
    have h3 := klt_i.mp (krn_in (p := klt) (tp := tp) (by decide) k a (by omega)).1
    simp only [kwv, kcw, cvN]
    rw [show (kwv tp a k * 27 + (kch tp (a + k) - 96)) / 27 = kwv tp a k by omega, show (kwv tp a k * 27 + (kch tp (a + k) - 96)) % 27 = kch tp (a + k) - 96 by omega, ih]
    omega
theorem cvN_inj : ∀ f n m, n < 27 ^ f → m < 27 ^ f → cvN f n = cvN f m → n = m
  | 0, n, m, h1, h2, _ => by simp at h1 h2; omega
  | f + 1, n, m, h1, h2, h => by
    have e : 27 ^ (f + 1) = 27 ^ f * 27 := Nat.pow_succ ..
    have ih := cvN_inj f (n / 27) (m / 27) (by omega) (by omega)
    simp only [cvN] at h
    have := ih (by omega)
    omega
theorem cv_inj {n m : Nat} (h1 : n < 27 ^ 8) (h2 : m < 27 ^ 8) (h : cv n = cv m) : n = m := cvN_inj 8 n m h1 h2 h
theorem cvN_lt : ∀ f n, cvN f n < 37 ^ f
  | 0, _ => Nat.one_pos
  | f + 1, n => by
    have := cvN_lt f (n / 27)
    have e : 37 ^ (f + 1) = 37 ^ f * 37 := Nat.pow_succ ..
    simp only [cvN]
    omega
theorem cv_lt (n : Nat) : cv n < 2 ^ 62 := Nat.lt_of_lt_of_le (cvN_lt 8 n) (by decide)
def tkP (tp : List Nat) (b : Nat) : Nat := b + krn kbl tp b
def tkN (tp : List Nat) (p : Nat) : Nat := if tp.length ≤ p then 0 else if klt (kch tp p) then krn klt tp p else if kdg (kch tp p) then krn kdg tp p else 1
def tkK (tp : List Nat) (p : Nat) : Nat := if tp.length ≤ p then 0 else if klt (kch tp p) then (if krn klt tp p ≤ 8 then 2 else 1) else if kdg (kch tp p) then (if krn kdg tp p ≤ 4 then 3 else 1) else if ksg (kch tp p) then 4 else 1
def tkV (tp : List Nat) (p : Nat) : Nat := if klt (kch tp p) then kwv tp p (krn klt tp p) else if kdg (kch tp p) then knv tp p (krn kdg tp p) else kch tp p
def kpos (tp : List Nat) : Nat → Nat
  | 0 => 0
  | i + 1 => tkP tp (kpos tp i) + tkN tp (tkP tp (kpos tp i))
def kpl (tp : List Nat) (i : Nat) : Nat := tkP tp (kpos tp i)
def kkd (tp : List Nat) (i : Nat) : Nat := tkK tp (kpl tp i)
def kvl (tp : List Nat) (i : Nat) : Nat := tkV tp (kpl tp i)
theorem tkP_le {tp : List Nat} {b : Nat} (h : b ≤ tp.length) : b ≤ tkP tp b ∧ tkP tp b ≤ tp.length := by
  have := krn_le kbl tp b
  unfold tkP
  omega
theorem tkN_le {tp : List Nat} {p : Nat} (h : p ≤ tp.length) : p + tkN tp p ≤ tp.length := by
  have h1 := krn_le klt tp p
  have h2 := krn_le kdg tp p
  unfold tkN
  split
  · omega
  · split
    · omega
    · split <;> omega
theorem tkN_pos {tp : List Nat} {p : Nat} (h : p < tp.length) : 0 < tkN tp p := by
  unfold tkN
  rw [if_neg (by omega)]
  split
  · rename_i q
    have := (krn_s (p := klt) (by decide) q).2; omega
  · split
    · rename_i q
      have := (krn_s (p := kdg) (by decide) q).2; omega
    · decide
theorem kpos_le (tp : List Nat) : ∀ i, kpos tp i ≤ tp.length
  | 0 => Nat.zero_le _
  | i + 1 => tkN_le (tkP_le (kpos_le tp i)).2
theorem kpl_le (tp : List Nat) (i : Nat) : kpl tp i ≤ tp.length := (tkP_le (kpos_le tp i)).2
theorem tkK_0 {tp : List Nat} {p : Nat} : tkK tp p = 0 ↔ tp.length ≤ p := by
  unfold tkK
  split
  · simp [*]
  · rename_i h
    constructor
    · intro q
      split at q
      · split at q <;> omega
      · split at q
        · split at q <;> omega
        · split at q <;> omega
    · intro q; exact absurd q h
theorem kkd_lt {tp : List Nat} {i : Nat} (h : kkd tp i ≠ 0) : kpl tp i < tp.length := by
  have := mt tkK_0.mpr h
  omega
theorem kpos_ge {tp : List Nat} : ∀ i, (∀ j, j < i → kkd tp j ≠ 0) → i ≤ kpos tp i
  | 0, _ => Nat.zero_le _
  | i + 1, h => by
    have ih := kpos_ge (tp := tp) i (fun j hj => h j (by omega))
    have h1 := kkd_lt (h i (by omega))
    have h2 := (tkP_le (kpos_le tp i)).1
    have h3 := tkN_pos h1
    show i + 1 ≤ kpl tp i + tkN tp (kpl tp i)
    have : kpl tp i = tkP tp (kpos tp i) := rfl
    omega
theorem kvl_w {tp : List Nat} {i : Nat} (h : kkd tp i = 2) : kvl tp i < 27 ^ 8 := by
  unfold kkd tkK at h
  split at h
  · omega
  · split at h
    · rename_i q
      split at h
      · rename_i q2
        unfold kvl tkV
        rw [if_pos q]
        exact Nat.lt_of_lt_of_le (kwv_lt _ (Nat.le_refl _)) (Nat.pow_le_pow_right (by decide) q2)
      · omega
    · split at h
      · split at h <;> omega
      · split at h <;> omega
theorem kvl_n {tp : List Nat} {i : Nat} (h : kkd tp i = 3) : kvl tp i < 10000 := by
  unfold kkd tkK at h
  split at h
  · omega
  · split at h
    · split at h <;> omega
    · rename_i q0
      split at h
      · rename_i q
        split at h
        · rename_i q2
          unfold kvl tkV
          rw [if_neg q0, if_pos q]
          exact Nat.lt_of_lt_of_le (knv_lt _ (Nat.le_refl _)) (Nat.pow_le_pow_right (by decide) q2)
        · omega
      · split at h <;> omega
theorem kvl_s {tp : List Nat} {i : Nat} (h : kkd tp i = 4) : kvl tp i = kch tp (kpl tp i) := by
  unfold kkd tkK at h
  split at h
  · omega
  · split at h
    · split at h <;> omega
    · rename_i q0
      split at h
      · split at h <;> omega
      · rename_i q1
        unfold kvl tkV
        rw [if_neg q0, if_neg q1]
theorem kkd_le (tp : List Nat) (i : Nat) : kkd tp i ≤ 4 := by
  unfold kkd tkK
  split
  · omega
  · split
    · split <;> omega
    · split
      · split <;> omega
      · split <;> omega
/-- the words that are no names, in the class's order; the facts -/
def rL : List Nat := [316040, 232608281, 82516, 6559778, 3211399, 453773, 89821, 453959, 1473549098, 10502357, 168984, 5948362, 377776, 47, 158692, 8740238, 2591163571, 10792937, 191686599, 10631, 1111, 423]
def fL : List Nat := [923, 1489, 9011, 7555509]
def rsv (v : Nat) : Nat := rL.findIdx (fun w => w == v)
def fct (v : Nat) : Nat := fL.findIdx (fun w => w == v)
def krs (tp : List Nat) (i : Nat) : Nat := if kkd tp i = 2 then rsv (kvl tp i) else 22
def kfc (tp : List Nat) (i : Nat) : Nat := if kkd tp i = 2 then fct (kvl tp i) else 4
def rI (n r : Nat) : Int32 := if r < n then nI r else nN
