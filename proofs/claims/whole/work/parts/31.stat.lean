/-! ===== the static world ===== -/
def gRRl : List (List (Option Nat)) := [[some 1, some 3, some 7, some 11, some 77, some 78, none, none, none, none, none], [some 2], [], [none, none, none, none, none, some 4, some 5, some 6], [], [], [], [none, none, none, none, none, some 8, some 9, some 10], [], [], [], [some 12], [some 13, some 17, some 21, some 25, some 29, some 33, some 37, some 41, some 45, some 49, some 53, some 57, some 61, some 65, some 69, some 73], [none, none, none, none, none, some 14, some 15, some 16], [], [], [], [none, none, none, none, none, some 18, some 19, some 20], [], [], [], [none, none, none, none, none, some 22, some 23, some 24], [], [], [], [none, none, none, none, none, some 26, some 27, some 28], [], [], [], [none, none, none, none, none, some 30, some 31, some 32], [], [], [], [none, none, none, none, none, some 34, some 35, some 36], [], [], [], [none, none, none, none, none, some 38, some 39, some 40], [], [], [], [none, none, none, none, none, some 42, some 43, some 44], [], [], [], [none, none, none, none, none, some 46, some 47, some 48], [], [], [], [none, none, none, none, none, some 50, some 51, some 52], [], [], [], [none, none, none, none, none, some 54, some 55, some 56], [], [], [], [none, none, none, none, none, some 58, some 59, some 60], [], [], [], [none, none, none, none, none, some 62, some 63, some 64], [], [], [], [none, none, none, none, none, some 66, some 67, some 68], [], [], [], [none, none, none, none, none, some 70, some 71, some 72], [], [], [], [none, none, none, none, none, some 74, some 75, some 76], [], [], [], [some 113, some 117, some 121, some 125], [], [some 80, some 83, some 84, some 85, some 86, some 87, some 88, some 89, some 90, some 91], [some 81, some 82], [], [], [], [], [], [], [], [], [], [], [], [some 93, some 96, some 97, some 98, some 99, some 100, some 101, some 102, some 103, some 104], [some 94, some 95], [], [], [], [], [], [], [], [], [], [], [], [some 106, some 107, some 108], [], [], [], [some 110, some 111, some 112], [], [], [], [none, none, none, none, none, some 114, some 115, some 116], [], [], [], [none, none, none, none, none, some 118, some 119, some 120], [], [], [], [none, none, none, none, none, some 122, some 123, some 124], [], [], [], [none, none, none, none, none, some 126, some 127, some 128], [], [], [], [none, some 130, none, none, some 131, some 132, some 133, none, none, some 134, some 135, some 136, some 137, none, some 138, some 139, some 140, some 141, none, none, none, some 142, some 143, some 144, some 145, none, some 146, none, none, none, none], [], [], [], [], [], [], [], [], [], [], [], [], [], [], [], [], [], []]
def gRR (a k : Nat) : Option Nat := (gRRl.getD a []).getD k none
/-- the references that never change -/
def sR (z : gS) : Prop := ∀ a k, a < 148 → ¬ (a = 0 ∧ 7 ≤ k) → gr z a k = gRR a k
theorem sR.to {z z' : gS} (h : sR z) (hr : ∀ a k, gr z' a k = gr z a k) : sR z' := fun a k ha hk => (hr a k).trans (h a k ha hk)
def gWs : List Nat := [3, 7, 13, 17, 21, 25, 29, 33, 37, 41, 45, 49, 53, 57, 61, 65, 69, 73, 113, 117, 121, 125]
def isW (w : Nat) : Prop := w ∈ gWs
def isS (t : Nat) : Prop := t = 79 ∨ t = 92
def isY (y : Nat) : Prop := y = 105 ∨ y = 109
theorem gW_all : ∀ w ∈ gWs, (w + 3 < 148 ∧ 0 < w) ∧ gSH w = (0, 6) ∧ gSH (w + 1) = (1, 5) ∧ gSH (w + 2) = (1, 6) ∧ gSH (w + 3) = (1, 36) ∧ gRR w 5 = some (w + 1) ∧ gRR w 6 = some (w + 2) ∧ gRR w 7 = some (w + 3) := by decide +kernel
theorem wO {w : Nat} (h : isW w) : oO 148 gSH w 6 := ⟨by have := (gW_all w h).1; omega, (gW_all w h).2.1⟩
theorem wA1 {w : Nat} (h : isW w) : oA 148 gSH (w + 1) 1 := ⟨by have := (gW_all w h).1; omega, by rw [(gW_all w h).2.2.1]⟩
theorem wA2 {w : Nat} (h : isW w) : oA 148 gSH (w + 2) 1 := ⟨by have := (gW_all w h).1; omega, by rw [(gW_all w h).2.2.2.1]⟩
theorem wA3 {w : Nat} (h : isW w) : oA 148 gSH (w + 3) 1 := ⟨by have := (gW_all w h).1; omega, by rw [(gW_all w h).2.2.2.2.1]⟩
theorem wL1 {w : Nat} (h : isW w) : (gSH (w + 1)).2 = 5 := by rw [(gW_all w h).2.2.1]
theorem wL2 {w : Nat} (h : isW w) : (gSH (w + 2)).2 = 6 := by rw [(gW_all w h).2.2.2.1]
theorem wL3 {w : Nat} (h : isW w) : (gSH (w + 3)).2 = 36 := by rw [(gW_all w h).2.2.2.2.1]
theorem wR5 {z : gS} {w : Nat} (hz : sR z) (h : isW w) : gr z w 5 = some (w + 1) := (hz w 5 (by have := (gW_all w h).1; omega) (by have := (gW_all w h).1; omega)).trans (gW_all w h).2.2.2.2.2.1
theorem wR6 {z : gS} {w : Nat} (hz : sR z) (h : isW w) : gr z w 6 = some (w + 2) := (hz w 6 (by have := (gW_all w h).1; omega) (by have := (gW_all w h).1; omega)).trans (gW_all w h).2.2.2.2.2.2.1
theorem wR7 {z : gS} {w : Nat} (hz : sR z) (h : isW w) : gr z w 7 = some (w + 3) := (hz w 7 (by have := (gW_all w h).1; omega) (by have := (gW_all w h).1; omega)).trans (gW_all w h).2.2.2.2.2.2.2
theorem tO {t : Nat} (h : isS t) : oO 148 gSH t 4 := by rcases h with rfl | rfl <;> exact ⟨by decide, by decide +kernel⟩
theorem tO1 {t : Nat} (h : isS t) : oO 148 gSH (t + 1) 3 := by rcases h with rfl | rfl <;> exact ⟨by decide, by decide +kernel⟩
theorem tA2 {t : Nat} (h : isS t) : oA 148 gSH (t + 2) 1 := by rcases h with rfl | rfl <;> exact ⟨by decide, by decide +kernel⟩
theorem tL2 {t : Nat} (h : isS t) : (gSH (t + 2)).2 = 1000 := by rcases h with rfl | rfl <;> decide +kernel
theorem tA3 {t : Nat} (h : isS t) : oA 148 gSH (t + 3) 1 := by rcases h with rfl | rfl <;> exact ⟨by decide, by decide +kernel⟩
theorem tL3 {t : Nat} (h : isS t) : (gSH (t + 3)).2 = 32 := by rcases h with rfl | rfl <;> decide +kernel
theorem tA4 {t : Nat} (h : isS t) : oA 148 gSH (t + 4) 1 := by rcases h with rfl | rfl <;> exact ⟨by decide, by decide +kernel⟩
theorem tL4 {t : Nat} (h : isS t) : (gSH (t + 4)).2 = 6 := by rcases h with rfl | rfl <;> decide +kernel
theorem tA5 {t : Nat} (h : isS t) : oA 148 gSH (t + 5) 1 := by rcases h with rfl | rfl <;> exact ⟨by decide, by decide +kernel⟩
theorem tL5 {t : Nat} (h : isS t) : (gSH (t + 5)).2 = 6 := by rcases h with rfl | rfl <;> decide +kernel
theorem tA6 {t : Nat} (h : isS t) : oA 148 gSH (t + 6) 1 := by rcases h with rfl | rfl <;> exact ⟨by decide, by decide +kernel⟩
theorem tL6 {t : Nat} (h : isS t) : (gSH (t + 6)).2 = 6 := by rcases h with rfl | rfl <;> decide +kernel
theorem tA7 {t : Nat} (h : isS t) : oA 148 gSH (t + 7) 1 := by rcases h with rfl | rfl <;> exact ⟨by decide, by decide +kernel⟩
theorem tL7 {t : Nat} (h : isS t) : (gSH (t + 7)).2 = 5 := by rcases h with rfl | rfl <;> decide +kernel
theorem tA8 {t : Nat} (h : isS t) : oA 148 gSH (t + 8) 1 := by rcases h with rfl | rfl <;> exact ⟨by decide, by decide +kernel⟩
theorem tL8 {t : Nat} (h : isS t) : (gSH (t + 8)).2 = 5 := by rcases h with rfl | rfl <;> decide +kernel
theorem tA9 {t : Nat} (h : isS t) : oA 148 gSH (t + 9) 1 := by rcases h with rfl | rfl <;> exact ⟨by decide, by decide +kernel⟩
theorem tL9 {t : Nat} (h : isS t) : (gSH (t + 9)).2 = 12 := by rcases h with rfl | rfl <;> decide +kernel
theorem tA10 {t : Nat} (h : isS t) : oA 148 gSH (t + 10) 2 := by rcases h with rfl | rfl <;> exact ⟨by decide, by decide +kernel⟩
theorem tL10 {t : Nat} (h : isS t) : (gSH (t + 10)).2 = 6 := by rcases h with rfl | rfl <;> decide +kernel
theorem tA11 {t : Nat} (h : isS t) : oA 148 gSH (t + 11) 2 := by rcases h with rfl | rfl <;> exact ⟨by decide, by decide +kernel⟩
theorem tL11 {t : Nat} (h : isS t) : (gSH (t + 11)).2 = 5 := by rcases h with rfl | rfl <;> decide +kernel
theorem tA12 {t : Nat} (h : isS t) : oA 148 gSH (t + 12) 2 := by rcases h with rfl | rfl <;> exact ⟨by decide, by decide +kernel⟩
theorem tL12 {t : Nat} (h : isS t) : (gSH (t + 12)).2 = 5 := by rcases h with rfl | rfl <;> decide +kernel
theorem tR0 {z : gS} {t : Nat} (hz : sR z) (h : isS t) : gr z t 0 = some (t + 1) := by rcases h with rfl | rfl <;> exact (hz _ _ (by decide) (by decide)).trans (by decide +kernel)
theorem tR1 {z : gS} {t : Nat} (hz : sR z) (h : isS t) : gr z t 1 = some (t + 4) := by rcases h with rfl | rfl <;> exact (hz _ _ (by decide) (by decide)).trans (by decide +kernel)
theorem tR2 {z : gS} {t : Nat} (hz : sR z) (h : isS t) : gr z t 2 = some (t + 5) := by rcases h with rfl | rfl <;> exact (hz _ _ (by decide) (by decide)).trans (by decide +kernel)
theorem tR3 {z : gS} {t : Nat} (hz : sR z) (h : isS t) : gr z t 3 = some (t + 6) := by rcases h with rfl | rfl <;> exact (hz _ _ (by decide) (by decide)).trans (by decide +kernel)
theorem tR4 {z : gS} {t : Nat} (hz : sR z) (h : isS t) : gr z t 4 = some (t + 7) := by rcases h with rfl | rfl <;> exact (hz _ _ (by decide) (by decide)).trans (by decide +kernel)
theorem tR5 {z : gS} {t : Nat} (hz : sR z) (h : isS t) : gr z t 5 = some (t + 8) := by rcases h with rfl | rfl <;> exact (hz _ _ (by decide) (by decide)).trans (by decide +kernel)
theorem tR6 {z : gS} {t : Nat} (hz : sR z) (h : isS t) : gr z t 6 = some (t + 9) := by rcases h with rfl | rfl <;> exact (hz _ _ (by decide) (by decide)).trans (by decide +kernel)
theorem tR7 {z : gS} {t : Nat} (hz : sR z) (h : isS t) : gr z t 7 = some (t + 10) := by rcases h with rfl | rfl <;> exact (hz _ _ (by decide) (by decide)).trans (by decide +kernel)
theorem tR8 {z : gS} {t : Nat} (hz : sR z) (h : isS t) : gr z t 8 = some (t + 11) := by rcases h with rfl | rfl <;> exact (hz _ _ (by decide) (by decide)).trans (by decide +kernel)
theorem tR9 {z : gS} {t : Nat} (hz : sR z) (h : isS t) : gr z t 9 = some (t + 12) := by rcases h with rfl | rfl <;> exact (hz _ _ (by decide) (by decide)).trans (by decide +kernel)
theorem tRl0 {z : gS} {t : Nat} (hz : sR z) (h : isS t) : gr z (t + 1) 0 = some (t + 2) := by rcases h with rfl | rfl <;> exact (hz _ _ (by decide) (by decide)).trans (by decide +kernel)
theorem tRl1 {z : gS} {t : Nat} (hz : sR z) (h : isS t) : gr z (t + 1) 1 = some (t + 3) := by rcases h with rfl | rfl <;> exact (hz _ _ (by decide) (by decide)).trans (by decide +kernel)
theorem mR1 {z : gS} (hz : sR z) : gr z 129 1 = some 130 := (hz _ _ (by decide) (by decide)).trans (by decide +kernel)
theorem mR4 {z : gS} (hz : sR z) : gr z 129 4 = some 131 := (hz _ _ (by decide) (by decide)).trans (by decide +kernel)
theorem mR5 {z : gS} (hz : sR z) : gr z 129 5 = some 132 := (hz _ _ (by decide) (by decide)).trans (by decide +kernel)
theorem mR6 {z : gS} (hz : sR z) : gr z 129 6 = some 133 := (hz _ _ (by decide) (by decide)).trans (by decide +kernel)
theorem mR9 {z : gS} (hz : sR z) : gr z 129 9 = some 134 := (hz _ _ (by decide) (by decide)).trans (by decide +kernel)
theorem mR10 {z : gS} (hz : sR z) : gr z 129 10 = some 135 := (hz _ _ (by decide) (by decide)).trans (by decide +kernel)
theorem mR11 {z : gS} (hz : sR z) : gr z 129 11 = some 136 := (hz _ _ (by decide) (by decide)).trans (by decide +kernel)
theorem mR12 {z : gS} (hz : sR z) : gr z 129 12 = some 137 := (hz _ _ (by decide) (by decide)).trans (by decide +kernel)
theorem mR14 {z : gS} (hz : sR z) : gr z 129 14 = some 138 := (hz _ _ (by decide) (by decide)).trans (by decide +kernel)
theorem mR15 {z : gS} (hz : sR z) : gr z 129 15 = some 139 := (hz _ _ (by decide) (by decide)).trans (by decide +kernel)
theorem mR16 {z : gS} (hz : sR z) : gr z 129 16 = some 140 := (hz _ _ (by decide) (by decide)).trans (by decide +kernel)
theorem mR17 {z : gS} (hz : sR z) : gr z 129 17 = some 141 := (hz _ _ (by decide) (by decide)).trans (by decide +kernel)
theorem mR21 {z : gS} (hz : sR z) : gr z 129 21 = some 142 := (hz _ _ (by decide) (by decide)).trans (by decide +kernel)
theorem mR22 {z : gS} (hz : sR z) : gr z 129 22 = some 143 := (hz _ _ (by decide) (by decide)).trans (by decide +kernel)
theorem mR23 {z : gS} (hz : sR z) : gr z 129 23 = some 144 := (hz _ _ (by decide) (by decide)).trans (by decide +kernel)
theorem mR24 {z : gS} (hz : sR z) : gr z 129 24 = some 145 := (hz _ _ (by decide) (by decide)).trans (by decide +kernel)
theorem mR26 {z : gS} (hz : sR z) : gr z 129 26 = some 146 := (hz _ _ (by decide) (by decide)).trans (by decide +kernel)
theorem mO : oO 148 gSH 129 8 := ⟨by decide, by decide +kernel⟩
theorem mA130 : oA 148 gSH 130 1 := ⟨by decide, by decide +kernel⟩
theorem mL130 : (gSH 130).2 = 1000 := by decide +kernel
theorem mA131 : oA 148 gSH 131 1 := ⟨by decide, by decide +kernel⟩
theorem mL131 : (gSH 131).2 = 1002 := by decide +kernel
theorem mA132 : oA 148 gSH 132 1 := ⟨by decide, by decide +kernel⟩
theorem mL132 : (gSH 132).2 = 1002 := by decide +kernel
theorem mA133 : oA 148 gSH 133 2 := ⟨by decide, by decide +kernel⟩
theorem mL133 : (gSH 133).2 = 1002 := by decide +kernel
theorem mA134 : oA 148 gSH 134 2 := ⟨by decide, by decide +kernel⟩
theorem mL134 : (gSH 134).2 = 26 := by decide +kernel
theorem mA135 : oA 148 gSH 135 1 := ⟨by decide, by decide +kernel⟩
theorem mL135 : (gSH 135).2 = 120 := by decide +kernel
theorem mA136 : oA 148 gSH 136 1 := ⟨by decide, by decide +kernel⟩
theorem mL136 : (gSH 136).2 = 2200 := by decide +kernel
theorem mA137 : oA 148 gSH 137 1 := ⟨by decide, by decide +kernel⟩
theorem mL137 : (gSH 137).2 = 2200 := by decide +kernel
theorem mA138 : oA 148 gSH 138 2 := ⟨by decide, by decide +kernel⟩
theorem mL138 : (gSH 138).2 = 16 := by decide +kernel
theorem mA139 : oA 148 gSH 139 2 := ⟨by decide, by decide +kernel⟩
theorem mL139 : (gSH 139).2 = 16 := by decide +kernel
theorem mA140 : oA 148 gSH 140 1 := ⟨by decide, by decide +kernel⟩
theorem mL140 : (gSH 140).2 = 16 := by decide +kernel
theorem mA141 : oA 148 gSH 141 1 := ⟨by decide, by decide +kernel⟩
theorem mL141 : (gSH 141).2 = 16 := by decide +kernel
theorem mA142 : oA 148 gSH 142 1 := ⟨by decide, by decide +kernel⟩
theorem mL142 : (gSH 142).2 = 250 := by decide +kernel
theorem mA143 : oA 148 gSH 143 1 := ⟨by decide, by decide +kernel⟩
theorem mL143 : (gSH 143).2 = 4 := by decide +kernel
theorem mA144 : oA 148 gSH 144 1 := ⟨by decide, by decide +kernel⟩
theorem mL144 : (gSH 144).2 = 1100 := by decide +kernel
theorem mA145 : oA 148 gSH 145 1 := ⟨by decide, by decide +kernel⟩
theorem mL145 : (gSH 145).2 = 1518 := by decide +kernel
theorem mA146 : oA 148 gSH 146 4 := ⟨by decide, by decide +kernel⟩
theorem mL146 : (gSH 146).2 = 4 := by decide +kernel
