/-! ===== the whole state, on both sides ===== -/
/-- a row of letters as a number to 27, read to 37 -/
def cvN : Nat → Nat → Nat
  | 0, _ => 0
  | f + 1, n => cvN f (n / 27) * 37 + n % 27
def cv (n : Nat) : Nat := cvN 8 n
abbrev sL : Type := Nat × Nat × Nat
def l0 : sL := (0, 0, 0)
abbrev sNo : Type := Nat → Option (sW × (Nat → Bool) × (Nat → Bool))
/-- names of panes, people, deeds, and all in the order of telling: name, number -/
abbrev sNm : Type := (Nat → Nat) × (Nat → Nat) × (Nat → Nat) × List (Nat × Nat)
def dOK (S : sS) (D : List sL) : Prop := D.length ≤ 40 ∧ ∀ l ∈ D, l.1 < 6 ∧ (l.1 < 2 → l.2.1 < sPE S) ∧ (2 ≤ l.1 → l.1 < 5 → l.2.1 < sPA S) ∧ (l.1 = 0 → l.2.2 < 10) ∧ (l.1 = 1 → l.2.2 < sDE S)
def cD (z : gS) (y : Nat) (D : List sL) : Prop := gi z y 3 = nI D.length ∧ ∀ i, i < D.length → gi z (y + 1) i = nI (5 + (D.getD i l0).1) ∧ ((D.getD i l0).1 ≠ 5 → gi z (y + 2) i = nI (D.getD i l0).2.1) ∧ ((D.getD i l0).1 < 2 → gi z (y + 3) i = nI (D.getD i l0).2.2)
def mD (z : gS) (D : List sL) : Prop := gi z 142 0 = nI D.length ∧ ∀ i, i < D.length → gi z 142 (1 + 3 * i) = nI (D.getD i l0).1 ∧ gi z 142 (2 + 3 * i) = nI (D.getD i l0).2.1 ∧ gi z 142 (3 + 3 * i) = nI (D.getD i l0).2.2
def cNm (z : gS) (t : Nat) (S : sS) (nm : sNm) : Prop := (∀ g, g < sPA S → gl z (t + 10) g = lN (nm.1 g)) ∧ (∀ p, p < sPE S → gl z (t + 11) p = lN (nm.2.1 p)) ∧ (∀ d, d < sDE S → gl z (t + 12) d = lN (nm.2.2.1 d))
def mNm (z : gS) (nm : sNm) : Prop := gi z 129 18 = nI nm.2.2.2.length ∧ ∀ i, i < nm.2.2.2.length → gl z 138 i = lN (cv (nm.2.2.2.getD i (0, 0)).1) ∧ gi z 140 i = nI (nm.2.2.2.getD i (0, 0)).2
def nmOK (S : sS) (nm : sNm) : Prop := nm.2.2.2.length ≤ 16 ∧ (∀ e ∈ nm.2.2.2, e.1 < 27 ^ 8 ∧ ((e.2 < sPA S ∧ nm.1 e.2 = e.1) ∨ (∃ p, p < sPE S ∧ e.2 = 20 + p ∧ nm.2.1 p = e.1) ∨ (∃ d, d < sDE S ∧ e.2 = 40 + d ∧ nm.2.2.1 d = e.1))) ∧ (∀ g, g < sPA S → (nm.1 g, g) ∈ nm.2.2.2) ∧ (∀ p, p < sPE S → (nm.2.1 p, 20 + p) ∈ nm.2.2.2) ∧ (∀ d, d < sDE S → (nm.2.2.1 d, 40 + d) ∈ nm.2.2.2) ∧ (∀ e ∈ nm.2.2.2, ∀ e' ∈ nm.2.2.2, e.1 = e'.1 → e = e')
def cT (z : gS) (tp : List Nat) : Prop := gi z 1 1 = nI tp.length ∧ ∀ i, i < tp.length → gi z 2 i = nI (tp.getD i 0)
def mT (z : gS) (tp : List Nat) : Prop := gi z 129 2 = nI tp.length ∧ ∀ i, i < tp.length → gi z 130 i = nI (tp.getD i 0)
def tOK (tp : List Nat) : Prop := tp.length ≤ 1000 ∧ ∀ c ∈ tp, c = 10 ∨ (32 ≤ c ∧ c ≤ 126)
def cN (z : gS) (S : sS) (N : sNo) : Prop := gi z 0 6 = nI (bs 4 (fun m => (N m).isSome)) ∧ ∀ m, m < 4 → ∀ V so ss, N m = some (V, so, ss) → cW z (113 + 4 * m) S V ∧ gi z (113 + 4 * m) 3 = nI (bs 6 so) ∧ gi z (113 + 4 * m) 4 = nI (bs 6 ss)
def mSd (z : gS) (b : Nat) (so ss : Nat → Bool) : Prop := ∀ g, g < 6 → gi z 145 (b + g) = if so g then nI (ss g).toNat else nN
def mN (z : gS) (S : sS) (N : sNo) : Prop := ∀ m, m < 4 → gi z 146 m = nI (N m).isSome.toNat ∧ ∀ V so ss, N m = some (V, so, ss) → mW z (66 * (1 + m)) S V ∧ mSd z (66 * (1 + m) + 60) so ss
def noOK (S : sS) (N : sNo) (n : Nat) : Prop := ∀ m, m < 4 → ∀ V so ss, N m = some (V, so, ss) → wOK S V ∧ wT V ≤ n ∧ ∀ g, sPA S ≤ g → so g = false
def wdL : List Nat := [812340, 20876492, 969456, 1119812451, 57, 209646, 407272, 22955708, 11301299, 1166843, 223351, 1167099, 9188151998, 36643177, 426554, 30596128, 16671652071, 37900887, 919275859, 19741, 1891, 573, 1633, 2779, 16781, 26523209]
def mWd (z : gS) : Prop := ∀ k, k < 26 → gl z 134 k = lN (wdL.getD k 0)
def Cl (z : gS) (t y : Nat) (S : sS) (W : sW) (so ss : Nat → Bool) (H : List sW) (N : sNo) (D : List sL) (nm : sNm) (tp : List Nat) : Prop :=
  sR z ∧ isS t ∧ gr z 0 7 = some t ∧ gr z 0 8 = some (171 - t) ∧ isY y ∧ gr z 0 9 = some y ∧ gr z 0 10 = some (214 - y) ∧ cS z t S ∧ cW z 3 S W ∧ (gi z 3 3 = nI (bs 6 so) ∧ gi z 3 4 = nI (bs 6 ss)) ∧ cH z S H ∧ cN z S N ∧ cD z y D ∧ cNm z t S nm ∧ cT z tp
def Md (z : gS) (S : sS) (W : sW) (so ss : Nat → Bool) (H : List sW) (N : sNo) (D : List sL) (nm : sNm) (tp : List Nat) : Prop :=
  sR z ∧ mS z S ∧ mL z S ∧ mW z 0 S W ∧ mSd z 60 so ss ∧ mH z S H ∧ mN z S N ∧ mD z D ∧ mNm z nm ∧ mT z tp ∧ mWd z
def Ok (n : Nat) (S : sS) (W : sW) (so : Nat → Bool) (H : List sW) (N : sNo) (D : List sL) (nm : sNm) (tp : List Nat) : Prop :=
  sOK S ∧ lwOK S ∧ wOK S W ∧ wT W ≤ n ∧ (∀ g, sPA S ≤ g → so g = false) ∧ hOK S H n ∧ noOK S N n ∧ dOK S D ∧ nmOK S nm ∧ tOK tp
def RLq (z : gS) (n : Nat) : Prop := ∃ t y S W so ss H N D nm tp, Cl z t y S W so ss H N D nm tp ∧ Md z S W so ss H N D nm tp ∧ Ok n S W so H N D nm tp
def kpM (z z' : gS) : Prop := (∀ a k, 129 ≤ a → gi z' a k = gi z a k) ∧ (∀ a k, 129 ≤ a → gl z' a k = gl z a k)
def kpC (z z' : gS) : Prop := (∀ a k, a < 129 → gi z' a k = gi z a k) ∧ (∀ a k, a < 129 → gl z' a k = gl z a k) ∧ (∀ a k, gr z' a k = gr z a k)
theorem isY.le {y : Nat} (h : isY y) : 105 ≤ y ∧ y ≤ 109 := by rcases h with rfl | rfl <;> decide
theorem cD.fr {z z' : gS} {y : Nat} {D : List sL} (h : cD z y D) (hs : ∀ a k, y ≤ a → a ≤ y + 3 → (a = y → k = 3) → gi z' a k = gi z a k) : cD z' y D :=
  ⟨(hs _ _ (by omega) (by omega) (by omega)).trans h.1, fun i hi => ⟨(hs _ _ (by omega) (by omega) (by omega)).trans (h.2 i hi).1, fun q => (hs _ _ (by omega) (by omega) (by omega)).trans ((h.2 i hi).2.1 q), fun q => (hs _ _ (by omega) (by omega) (by omega)).trans ((h.2 i hi).2.2 q)⟩⟩
theorem cH.fr {z z' : gS} {S : sS} {H : List sW} (h : cH z S H) (hs : ∀ a k, 11 ≤ a → a ≤ 76 → gi z' a k = gi z a k) : cH z' S H := by
  obtain ⟨h1, nx, h2, h3, h4⟩ := h
  exact ⟨(hs _ _ (by decide) (by decide)).trans h1, nx, h2, (hs _ _ (by decide) (by decide)).trans h3, fun j hj => (h4 j hj).fr (fun a k q1 q2 => hs a k (by omega) (by omega))⟩
theorem cN.fr {z z' : gS} {S : sS} {N : sNo} (h : cN z S N) (hs : ∀ a k, (a = 0 ∧ k = 6) ∨ (113 ≤ a ∧ a ≤ 128) → gi z' a k = gi z a k) : cN z' S N :=
  ⟨(hs _ _ (Or.inl ⟨rfl, rfl⟩)).trans h.1, fun m hm V so ss e => ⟨((h.2 m hm V so ss e).1).fr (fun a k q1 q2 => hs a k (Or.inr ⟨by omega, by omega⟩)), (hs _ _ (Or.inr ⟨by omega, by omega⟩)).trans (h.2 m hm V so ss e).2.1, (hs _ _ (Or.inr ⟨by omega, by omega⟩)).trans (h.2 m hm V so ss e).2.2⟩⟩
theorem cT.fr {z z' : gS} {tp : List Nat} (h : cT z tp) (hs : ∀ a k, (a = 1 ∧ k = 1) ∨ a = 2 → gi z' a k = gi z a k) : cT z' tp :=
  ⟨(hs _ _ (Or.inl ⟨rfl, rfl⟩)).trans h.1, fun i hi => (hs _ _ (Or.inr rfl)).trans (h.2 i hi)⟩
theorem cNm.fr {z z' : gS} {t : Nat} {S : sS} {nm : sNm} (h : cNm z t S nm) (hs : ∀ a k, t + 10 ≤ a → a ≤ t + 12 → gl z' a k = gl z a k) : cNm z' t S nm :=
  ⟨fun g hg => (hs _ _ (by omega) (by omega)).trans (h.1 g hg), fun g hg => (hs _ _ (by omega) (by omega)).trans (h.2.1 g hg), fun g hg => (hs _ _ (by omega) (by omega)).trans (h.2.2 g hg)⟩
theorem mD.fr {z z' : gS} {D : List sL} (h : mD z D) (hs : ∀ k, gi z' 142 k = gi z 142 k) : mD z' D :=
  ⟨(hs _).trans h.1, fun i hi => ⟨(hs _).trans (h.2 i hi).1, (hs _).trans (h.2 i hi).2.1, (hs _).trans (h.2 i hi).2.2⟩⟩
theorem mNm.fr {z z' : gS} {nm : sNm} (h : mNm z nm) (hs : ∀ a k, (a = 129 ∧ k = 18) ∨ a = 140 → gi z' a k = gi z a k) (hl : ∀ k, gl z' 138 k = gl z 138 k) : mNm z' nm :=
  ⟨(hs _ _ (Or.inl ⟨rfl, rfl⟩)).trans h.1, fun i hi => ⟨(hl _).trans (h.2 i hi).1, (hs _ _ (Or.inr rfl)).trans (h.2 i hi).2⟩⟩
theorem mT.fr {z z' : gS} {tp : List Nat} (h : mT z tp) (hs : ∀ a k, (a = 129 ∧ k = 2) ∨ a = 130 → gi z' a k = gi z a k) : mT z' tp :=
  ⟨(hs _ _ (Or.inl ⟨rfl, rfl⟩)).trans h.1, fun i hi => (hs _ _ (Or.inr rfl)).trans (h.2 i hi)⟩
theorem mSd.fr {z z' : gS} {b : Nat} {so ss : Nat → Bool} (h : mSd z b so ss) (hs : ∀ k, b ≤ k → k < b + 6 → gi z' 145 k = gi z 145 k) : mSd z' b so ss := fun g hg => (hs _ (by omega) (by omega)).trans (h g hg)
theorem mN.fr {z z' : gS} {S : sS} {N : sNo} {n : Nat} (h : mN z S N) (hok : sOK S) (hn : noOK S N n) (hs : ∀ a k, a = 146 ∨ (a = 145 ∧ 66 ≤ k ∧ k < 330) → gi z' a k = gi z a k) : mN z' S N :=
  fun m hm => ⟨(hs _ _ (Or.inl rfl)).trans (h m hm).1, fun V so ss e => ⟨((h m hm).2 V so ss e).1.cp hok (hn m hm V so ss e).1 (fun k hk => hs _ _ (Or.inr ⟨rfl, by omega, by omega⟩)), ((h m hm).2 V so ss e).2.fr (fun k q1 q2 => hs _ _ (Or.inr ⟨rfl, by omega, by omega⟩))⟩⟩
theorem mH.fr {z z' : gS} {S : sS} {H : List sW} {n : Nat} (h : mH z S H) (hok : sOK S) (hn : hOK S H n) (hs : ∀ a k, (a = 129 ∧ k = 25) ∨ (a = 145 ∧ 330 ≤ k ∧ k < 1386) → gi z' a k = gi z a k) : mH z' S H := by
  have hl := hn.1
  exact ⟨(hs _ _ (Or.inl ⟨rfl, rfl⟩)).trans h.1, fun j hj => (h.2 j hj).cp hok (hn.2 _ (hgt_mem hj)).1 (fun k hk => hs _ _ (Or.inr ⟨rfl, by omega, by omega⟩))⟩
section RS
variable {z z' : gS} {t y n : Nat} {S : sS} {W W' : sW} {so ss : Nat → Bool} {H H' : List sW} {N : sNo} {D : List sL} {nm : sNm} {tp : List Nat}
theorem Cl.up (h : Cl z t y S W so ss H N D nm tp) (hr : ∀ a k, gr z' a k = gr z a k) (hl : ∀ a k, a ≠ 78 → a < 129 → gl z' a k = gl z a k) (hs : ∀ a k, a < 129 → ¬ (11 ≤ a ∧ a ≤ 76) → ¬ wrC 3 a k → a ≠ t + 3 → ¬ (7 ≤ a ∧ a ≤ 10) → a ≠ 78 → ¬ (a = y ∧ 4 ≤ k) → gi z' a k = gi z a k) (hW : cW z' 3 S W') (hH : cH z' S H') : Cl z' t y S W' so ss H' N D nm tp := by
  obtain ⟨h1, h2, h3, h4, h5, h6, h7, h8, h9, h10, h11, h12, h13, h14, h15⟩ := h
  have tl := h2.le
  have yl := h5.le
  refine ⟨h1.to hr, h2, (hr _ _).trans h3, (hr _ _).trans h4, h5, (hr _ _).trans h6, (hr _ _).trans h7, h8.fr2 (fun a k q1 q2 q3 => hs a k (by omega) (by omega) (by unfold wrC; omega) q3 (by omega) (by omega) (by omega)), hW, ⟨(hs _ _ (by decide) (by decide) (by unfold wrC; omega) (by omega) (by decide) (by decide) (by omega)).trans h10.1, (hs _ _ (by decide) (by decide) (by unfold wrC; omega) (by omega) (by decide) (by decide) (by omega)).trans h10.2⟩, hH, h12.fr (fun a k q => hs a k (by omega) (by omega) (by unfold wrC; omega) (by omega) (by omega) (by omega) (by omega)), h13.fr (fun a k q1 q2 q3 => hs a k (by omega) (by omega) (by unfold wrC; omega) (by omega) (by omega) (by omega) (by omega)), h14.fr (fun a k q1 q2 => hl a k (by omega) (by omega)), h15.fr (fun a k q => hs a k (by omega) (by omega) (by unfold wrC; omega) (by omega) (by omega) (by omega) (by omega))⟩
theorem Cl.fr (h : Cl z t y S W so ss H N D nm tp) (hk : kpC z z') : Cl z' t y S W so ss H N D nm tp := h.up hk.2.2 (fun a k _ q => hk.2.1 a k q) (fun a k q _ _ _ _ _ _ => hk.1 a k q) (h.2.2.2.2.2.2.2.2.1.fr (fun a k q1 q2 => hk.1 a k (by omega))) (h.2.2.2.2.2.2.2.2.2.2.1.fr (fun a k q1 q2 => hk.1 a k (by omega)))
theorem Md.up (h : Md z S W so ss H N D nm tp) (hok : Ok n S W so H N D nm tp) (hz : sR z') (hl : ∀ a k, 130 ≤ a → gl z' a k = gl z a k) (hs : ∀ a k, 129 ≤ a → ¬ (a = 129 ∧ k ≠ 2 ∧ k ≠ 18) → a ≠ 143 → a ≠ 144 → ¬ (a = 145 ∧ (k < 60 ∨ 330 ≤ k)) → gi z' a k = gi z a k) (hW : mW z' 0 S W') (hH : mH z' S H') : Md z' S W' so ss H' N D nm tp := by
  obtain ⟨h1, h2, h3, h4, h5, h6, h7, h8, h9, h10, h11⟩ := h
  exact ⟨hz, h2.fr (fun k => hs _ _ (by omega) (by omega) (by omega) (by omega) (by omega)), h3.fr (fun a k q1 q2 => hs _ _ (by omega) (by omega) (by omega) (by omega) (by omega)), hW, h5.fr (fun k q1 q2 => hs _ _ (by omega) (by omega) (by omega) (by omega) (by omega)), hH, h7.fr hok.1 hok.2.2.2.2.2.2.1 (fun a k q => hs _ _ (by omega) (by omega) (by omega) (by omega) (by omega)), h8.fr (fun k => hs _ _ (by omega) (by omega) (by omega) (by omega) (by omega)), h9.fr (fun a k q => hs _ _ (by omega) (by omega) (by omega) (by omega) (by omega)) (fun k => hl _ _ (by omega)), h10.fr (fun a k q => hs _ _ (by omega) (by omega) (by omega) (by omega) (by omega)), fun k hk => (hl _ _ (by omega)).trans (h11 k hk)⟩
theorem Md.fr (h : Md z S W so ss H N D nm tp) (hok : Ok n S W so H N D nm tp) (hz : sR z') (hk : kpM z z') : Md z' S W so ss H N D nm tp := h.up hok hz (fun a k q => hk.2 a k (by omega)) (fun a k q _ _ _ _ => hk.1 a k q) (h.2.2.2.1.fr (fun k => hk.1 _ _ (by omega))) (h.2.2.2.2.2.1.fr hok.1 hok.2.2.2.2.2.1 (fun a k q => hk.1 _ _ (by omega)))
theorem Ok.mono {n' : Nat} (h : Ok n S W so H N D nm tp) (hn : n ≤ n') : Ok n' S W so H N D nm tp := by
  obtain ⟨h1, h2, h3, h4, h5, h6, h7, h8⟩ := h
  exact ⟨h1, h2, h3, by omega, h5, ⟨h6.1, fun V hV => ⟨(h6.2 V hV).1, Nat.le_trans (h6.2 V hV).2 hn⟩⟩, fun m hm V so ss e => ⟨(h7 m hm V so ss e).1, Nat.le_trans (h7 m hm V so ss e).2.1 hn, (h7 m hm V so ss e).2.2⟩, h8⟩
theorem Ok.keep (h : Ok n S W so H N D nm tp) (hW : wOK S W') (hT : wT W' ≤ n + 1) : Ok (n + 1) S W' so ((W :: H).take 16) N D nm tp := by
  obtain ⟨h1, h2, h3, h4, h5, h6, h7, h8⟩ := h.mono (Nat.le_succ n)
  exact ⟨h1, h2, hW, hT, h5, hOK_keep h6 h3 h4, h7, h8⟩
theorem kpC.si {a k : Nat} {v : Int32} (h : 129 ≤ a) : kpC z (si z a k v) := ⟨fun b j q => by rw [gi_si, if_neg (by omega)], fun b j _ => rfl, fun _ _ => rfl⟩
theorem kpC.tr {z1 z2 : gS} (h : kpC z z1) (h2 : kpC z1 z2) : kpC z z2 := ⟨fun a k q => (h2.1 a k q).trans (h.1 a k q), fun a k q => (h2.2.1 a k q).trans (h.2.1 a k q), fun a k => (h2.2.2 a k).trans (h.2.2 a k)⟩
theorem Fr.kpC {A : Nat → Nat → Prop} (h : Fr A z z') (hA : ∀ a k, A a k → 129 ≤ a) : kpC z z' := ⟨fun a k q => h.1 a k (fun r => by have := hA a k r; omega), fun a k _ => h.2.1 a k, h.2.2⟩
theorem Fr.kpM {A : Nat → Nat → Prop} (h : Fr A z z') (hA : ∀ a k, A a k → a < 129) : kpM z z' := ⟨fun a k q => h.1 a k (fun r => by have := hA a k r; omega), fun a k _ => h.2.1 a k⟩
theorem Cl.cw (h : Cl z t y S W so ss H N D nm tp) (hok : Ok n S W so H N D nm tp) (hn : n < 1000) : CW z t 3 S W := ⟨h.1, h.2.1, w3, hok.1, hok.2.2.1, by have := hok.2.2.2.1; omega, h.2.2.2.2.2.2.2.1, h.2.2.2.2.2.2.2.2.1⟩
theorem Md.mw (h : Md z S W so ss H N D nm tp) (hok : Ok n S W so H N D nm tp) (hn : n < 1000) : MW z 0 S W := ⟨h.1, hok.1, hok.2.2.1, by have := hok.2.2.2.1; omega, h.2.1, h.2.2.2.1, by decide⟩
theorem Md.th (h : Md z S W so ss H N D nm tp) (hok : Ok n S W so H N D nm tp) {v : Int32} : Md (si z 129 0 v) S W so ss H N D nm tp := h.up hok (h.1.to (fun _ _ => rfl)) (fun _ _ _ => rfl) (fun a k q1 q2 _ _ _ => by rw [gi_si, if_neg (by omega)]) (h.2.2.2.1.fr (fun k => by rw [gi_si, if_neg (by omega)])) (h.2.2.2.2.2.1.fr hok.1 hok.2.2.2.2.2.1 (fun a k q => by rw [gi_si, if_neg (by omega)]))
theorem RLq.mk (h1 : Cl z t y S W so ss H N D nm tp) (h2 : Md z S W so ss H N D nm tp) (h3 : Ok n S W so H N D nm tp) : RLq z n := ⟨t, y, S, W, so, ss, H, N, D, nm, tp, h1, h2, h3⟩
theorem RLq.th (h : RLq z n) {v : Int32} : RLq (si z 129 0 v) (n + 1) := by
  obtain ⟨t, y, S, W, so, ss, H, N, D, nm, tp, h1, h2, h3⟩ := h
  exact RLq.mk (h1.fr (kpC.si (by decide))) (h2.th h3) (h3.mono (Nat.le_succ n))
theorem Cl.rd (h : Cl z t y S W so ss H N D nm tp) (h2 : Md z S W so ss H N D nm tp) (hok : Ok n S W so H N D nm tp) (hn : n < 1000) : Rd z t S W := ⟨h.1, h.2.1, h.2.2.1, hok.1, hok.2.2.1, by have := hok.2.2.2.1; omega, h.2.2.2.2.2.2.2.1, h.2.2.2.2.2.2.2.2.1, h2.2.1, h2.2.2.2.1⟩
theorem Cl.sd (h : Cl z t y S W so ss H N D nm tp) (h2 : Md z S W so ss H N D nm tp) : Sd z so ss := ⟨h.2.2.2.2.2.2.2.2.2.1.1, h.2.2.2.2.2.2.2.2.2.1.2, h2.2.2.2.2.1⟩
end RS
section RK
variable {z z' : gS} {t y n : Nat} {S : sS} {W W' : sW} {so ss : Nat → Bool} {H H' : List sW} {N : sNo} {D : List sL} {nm : sNm} {tp : List Nat} {P : Int32 → gS → Prop} {R : gS → Prop}
/-- kept first, then something is done in the world: the class -/
theorem C_keep (h : Cl z t y S W so ss H N D nm tp) (hok : Ok n S W so H N D nm tp) (hn : n < 999) (hP : ∀ z1, CW z1 t 3 S W → gr z1 0 7 = some t → gr z1 0 1 = some 3 → (∀ z2 W', CW z2 t 3 S W' → Fr (wrCt 3 t) z1 z2 → Cl z2 t y S W' so ss ((W :: H).take 16) N D nm tp ∧ kpM z z2 ∧ sR z2) → R z1) : wX4_keep 148 gSH 11 3 z R := by
  have hh := h
  obtain ⟨h1, h2, h3, h4, h5, h6, h7, h8, h9, h10, h11, h12, h13, h14, h15⟩ := h
  have tl := h2.le
  refine c_keep h1 h11 hok.2.2.2.2.2.1 hok.1 hok.2.2.1 h9 (fun z1 hH hf => ?_)
  have hcw : cW z1 3 S W := h9.fr (fun a k q1 q2 => hf.1 a k (by omega))
  have hc1 : Cl z1 t y S W so ss ((W :: H).take 16) N D nm tp := hh.up hf.2.2 (fun a k _ _ => hf.2.1 a k) (fun a k q1 q2 _ _ _ _ _ => hf.1 a k q2) hcw hH
  refine hP z1 (Cl.cw hc1 (hok.keep hok.2.2.1 (by have := hok.2.2.2.1; omega)) (by omega)) hc1.2.2.1 (gR1 hc1.1) (fun z2 W' hW2 hf2 => ⟨hc1.up hf2.2.2 (fun a k _ _ => hf2.2.1 a k) (fun a k q1 q2 q3 q4 q5 q6 q7 => hf2.1 a k (fun r => r.elim q3 q4)) hW2.2.2.2.2.2.2.2 (hH.fr (fun a k q1 q2 => hf2.1 a k (by unfold wrCt wrC; omega))), ?_, hW2.1⟩)
  have hk1 := hf.kpM (fun a k q => by omega)
  have hk2 := hf2.kpM (fun a k q => by unfold wrCt wrC at q; omega)
  exact ⟨fun a k q => (hk2.1 a k q).trans (hk1.1 a k q), fun a k q => (hk2.2 a k q).trans (hk1.2 a k q)⟩
theorem M_keep (h : Md z S W so ss H N D nm tp) (hok : Ok n S W so H N D nm tp) (hn : n < 999) (hP : ∀ z1, MW z1 0 S W → mL z1 S → (∀ z2 W', MW z2 0 S W' → Fr (wrMt 0) z1 z2 → Md z2 S W' so ss ((W :: H).take 16) N D nm tp ∧ kpC z z2) → R z1) : wX12_keeps 148 gSH 129 z R := by
  have hh := h
  obtain ⟨h1, h2, h3, h4, h5, h6, h7, h8, h9, h10, h11⟩ := h
  refine m_keeps h1 h6 hok.2.2.2.2.2.1 hok.1 hok.2.2.1 h4 (fun z1 hH hf => ?_)
  have hok1 : Ok (n + 1) S W so ((W :: H).take 16) N D nm tp := hok.keep hok.2.2.1 (by have := hok.2.2.2.1; omega)
  have hmw : mW z1 0 S W := h4.cp hok.1 hok.2.2.1 (fun k hk => hf.1 _ _ (by omega))
  have hm1 : Md z1 S W so ss ((W :: H).take 16) N D nm tp := hh.up hok (hf.sR h1) (fun a k _ => hf.2.1 a k) (fun a k q1 q2 _ _ q5 => hf.1 a k (by omega)) hmw hH
  refine hP z1 (Md.mw hm1 hok1 (by omega)) hm1.2.2.1 (fun z2 W' hW2 hf2 => ⟨hm1.up hok1 hW2.1 (fun a k _ => hf2.2.1 a k) (fun a k q1 q2 q3 q4 q5 => hf2.1 a k (by unfold wrMt wrM; omega)) hW2.2.2.2.2.2.1 (hH.fr hok.1 hok1.2.2.2.2.2.1 (fun a k q => hf2.1 a k (by unfold wrMt wrM; omega))), ?_⟩)
  exact (hf.kpC (fun a k q => by omega)).tr (hf2.kpC (fun a k q => by unfold wrMt wrM at q; omega))
end RK
