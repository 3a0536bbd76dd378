def wX12_washes_J136 (n : Nat) (sh : Nat → Nat × Nat) (k28 : Nat → Int32 → Int32 → Int32 → Int32 → gS → Prop) (P : Int32 → gS → Prop) (a0 : Nat) (x1 : Int32) (x2 : Int32) (x4 : Int32) (s0 : Int32) (s1 : Int32) (z : gS) : Prop := ∀ v18 : Int32, v18 = (s1 + s0) → (∀ v19 : Int32, v19 = x4 + (1 : Int32) → k28 a0 x1 x2 v18 v19 z)
set_option maxRecDepth 100000 in
set_option maxHeartbeats 4000000 in
theorem vX12_washes_J136 {E : gE} {n : Nat} {sh : Nat → Nat × Nat} {P : Int32 → gS → Prop} {k28 : Nat → Int32 → Int32 → Int32 → Int32 → gS → Prop} {a0 : Nat} {x1 : Int32} {x2 : Int32} {x4 : Int32} {s0 : Int32} {s1 : Int32} {z : gS} (hn : gOK E n) (hk28 : ∀ (a0 : Nat) (x1 : Int32) (x2 : Int32) (x3 : Int32) (x4 : Int32) (z : gS), k28 a0 x1 x2 x3 x4 z → V E (gR 2 0) gyX12_washes 0 0 28 [(0, .ref a0), (1, .int x1), (2, .int x2), (3, .int x3), (4, .int x4)] [] n sh z (kI n sh P)) (hf : wX12_washes_J136 n sh k28 P a0 x1 x2 x4 s0 s1 z) : V E (gR 2 0) gyX12_washes 0 0 136 [(0, .ref a0), (1, .int x1), (2, .int x2), (4, .int x4)] [.int s0, .int s1] n sh z (kI n sh P) := by
  unfold wX12_washes_J136 at hf
  refine V_iadd dX12_washes_136 ?_
  refine V_nI (fun v18 ev18 => ?_)
  have hf := hf v18 ev18
  refine V_istore_n (ls2 := [(3, .int v18), (0, .ref a0), (1, .int x1), (2, .int x2), (4, .int x4)]) dX12_washes_137 rfl (by decide) rfl ?_
  obtain ⟨v19, ev19⟩ : ∃ y : Int32, y = x4 + (1 : Int32) := ⟨_, rfl⟩
  refine V_iinc (j := 4) (v := v19) (ls2 := [(4, .int v19), (3, .int v18), (0, .ref a0), (1, .int x1), (2, .int x2)]) dX12_washes_138 rfl (by rw [ev19]; rfl) (by decide) rfl ?_
  have hf := hf v19 ev19
  refine V_goto (tgt := 28) dX12_washes_141 (by decide) ?_
  refine V_to [2, 3, 4, 1, 0] rfl ?_
  exact hk28 _ _ _ _ _ _ hf
def wX12_washes_J113 (n : Nat) (sh : Nat → Nat × Nat) (k28 : Nat → Int32 → Int32 → Int32 → Int32 → gS → Prop) (P : Int32 → gS → Prop) (a0 : Nat) (x1 : Int32) (x2 : Int32) (x3 : Int32) (x4 : Int32) (x5 : Int32) (z : gS) : Prop := if 0 ≤ x5 then ((oO n sh a0 8) ∧ (∃ t15 : Nat, gr z a0 24 = some t15 ∧ ((oA n sh t15 1) ∧ ((vp_in ((18 : Int32) + x4) (sh t15).2) ∧ wX12_washes_J136 n sh k28 P a0 x1 x2 x4 ((gi z t15 ((18 : Int32) + x4).toNatClampNeg) - x5) x3 z)))) else wX12_washes_J136 n sh k28 P a0 x1 x2 x4 (0 : Int32) x3 z
set_option maxRecDepth 100000 in
set_option maxHeartbeats 4000000 in
theorem vX12_washes_J113 {E : gE} {n : Nat} {sh : Nat → Nat × Nat} {P : Int32 → gS → Prop} {k28 : Nat → Int32 → Int32 → Int32 → Int32 → gS → Prop} {a0 : Nat} {x1 : Int32} {x2 : Int32} {x3 : Int32} {x4 : Int32} {x5 : Int32} {z : gS} (hn : gOK E n) (hk28 : ∀ (a0 : Nat) (x1 : Int32) (x2 : Int32) (x3 : Int32) (x4 : Int32) (z : gS), k28 a0 x1 x2 x3 x4 z → V E (gR 2 0) gyX12_washes 0 0 28 [(0, .ref a0), (1, .int x1), (2, .int x2), (3, .int x3), (4, .int x4)] [] n sh z (kI n sh P)) (hf : wX12_washes_J113 n sh k28 P a0 x1 x2 x3 x4 x5 z) : V E (gR 2 0) gyX12_washes 0 0 113 [(0, .ref a0), (1, .int x1), (2, .int x2), (3, .int x3), (4, .int x4), (5, .int x5)] [] n sh z (kI n sh P) := by
  unfold wX12_washes_J113 at hf
  refine V_iload_n (j := 3) dX12_washes_113 rfl rfl ?_
  refine V_iload (j := 5) dX12_washes_114 rfl ?_
  refine V_if_ge (tgt := 123) dX12_washes_116 (by decide) (fun h20 => ?_) (fun h20 => ?_)
  · have hf := it_t h20 hf
    refine V_aload_n (j := 0) dX12_washes_123 rfl rfl ?_
    obtain ⟨h14, hf⟩ := hf
    obtain ⟨t15, et15, hf⟩ := hf
    refine V_getR fl_X12_119 rfl h14.1 h14.2 et15 dX12_washes_124 ?_
    refine V_bipush (v := (18 : Int32)) dX12_washes_127 (by decide) ?_
    refine V_iload (j := 4) dX12_washes_129 rfl ?_
    refine V_iadd dX12_washes_131 ?_
    obtain ⟨h16, hf⟩ := hf
    obtain ⟨h17, hf⟩ := hf
    refine V_iald h16.1 h16.s h17 dX12_washes_132 ?_
    refine V_iload (j := 5) dX12_washes_133 rfl ?_
    refine V_isub dX12_washes_135 ?_
    refine V_to [0, 1, 2, 4] rfl ?_
    exact vX12_washes_J136 hn hk28 hf
  · have hf := it_f h20 hf
    refine V_iconst (v := (0 : Int32)) dX12_washes_119 (by decide) ?_
    refine V_goto (tgt := 136) dX12_washes_120 (by decide) ?_
    refine V_to [0, 1, 2, 4] rfl ?_
    exact vX12_washes_J136 hn hk28 hf
def wX12_washes_J105 (n : Nat) (sh : Nat → Nat × Nat) (k28 : Nat → Int32 → Int32 → Int32 → Int32 → gS → Prop) (k54 : Nat → Int32 → Int32 → Int32 → Int32 → Int32 → Int32 → gS → Prop) (P : Int32 → gS → Prop) (a0 : Nat) (x1 : Int32) (x2 : Int32) (x3 : Int32) (x4 : Int32) (x6 : Int32) (s0 : Int32) (z : gS) : Prop := ∀ v28 : Int32, v28 = x6 + (-1 : Int32) → k54 a0 x1 x2 x3 x4 s0 v28 z
set_option maxRecDepth 100000 in
set_option maxHeartbeats 4000000 in
theorem vX12_washes_J105 {E : gE} {n : Nat} {sh : Nat → Nat × Nat} {P : Int32 → gS → Prop} {k28 : Nat → Int32 → Int32 → Int32 → Int32 → gS → Prop} {k54 : Nat → Int32 → Int32 → Int32 → Int32 → Int32 → Int32 → gS → Prop} {a0 : Nat} {x1 : Int32} {x2 : Int32} {x3 : Int32} {x4 : Int32} {x6 : Int32} {s0 : Int32} {z : gS} (hn : gOK E n) (hk28 : ∀ (a0 : Nat) (x1 : Int32) (x2 : Int32) (x3 : Int32) (x4 : Int32) (z : gS), k28 a0 x1 x2 x3 x4 z → V E (gR 2 0) gyX12_washes 0 0 28 [(0, .ref a0), (1, .int x1), (2, .int x2), (3, .int x3), (4, .int x4)] [] n sh z (kI n sh P)) (hk54 : ∀ (a0 : Nat) (x1 : Int32) (x2 : Int32) (x3 : Int32) (x4 : Int32) (x5 : Int32) (x6 : Int32) (z : gS), k54 a0 x1 x2 x3 x4 x5 x6 z → V E (gR 2 0) gyX12_washes 0 0 54 [(0, .ref a0), (1, .int x1), (2, .int x2), (3, .int x3), (4, .int x4), (5, .int x5), (6, .int x6)] [] n sh z (kI n sh P)) (hf : wX12_washes_J105 n sh k28 k54 P a0 x1 x2 x3 x4 x6 s0 z) : V E (gR 2 0) gyX12_washes 0 0 105 [(0, .ref a0), (1, .int x1), (2, .int x2), (3, .int x3), (4, .int x4), (6, .int x6)] [.int s0] n sh z (kI n sh P) := by
  unfold wX12_washes_J105 at hf
  refine V_istore (ls2 := [(5, .int s0), (0, .ref a0), (1, .int x1), (2, .int x2), (3, .int x3), (4, .int x4), (6, .int x6)]) dX12_washes_105 (by decide) rfl ?_
  obtain ⟨v28, ev28⟩ : ∃ y : Int32, y = x6 + (-1 : Int32) := ⟨_, rfl⟩
  refine V_iinc (j := 6) (v := v28) (ls2 := [(6, .int v28), (5, .int s0), (0, .ref a0), (1, .int x1), (2, .int x2), (3, .int x3), (4, .int x4)]) dX12_washes_107 rfl (by rw [ev28]; rfl) (by decide) rfl ?_
  have hf := hf v28 ev28
  refine V_goto (tgt := 54) dX12_washes_110 (by decide) ?_
  refine V_to [2, 3, 4, 5, 6, 1, 0] rfl ?_
  exact hk54 _ _ _ _ _ _ _ _ hf
def wX12_washes_J103 (n : Nat) (sh : Nat → Nat × Nat) (k28 : Nat → Int32 → Int32 → Int32 → Int32 → gS → Prop) (k54 : Nat → Int32 → Int32 → Int32 → Int32 → Int32 → Int32 → gS → Prop) (P : Int32 → gS → Prop) (a0 : Nat) (x1 : Int32) (x2 : Int32) (x3 : Int32) (x4 : Int32) (x5 : Int32) (x6 : Int32) (z : gS) : Prop := wX12_washes_J105 n sh k28 k54 P a0 x1 x2 x3 x4 x6 x5 z
set_option maxRecDepth 100000 in
set_option maxHeartbeats 4000000 in
theorem vX12_washes_J103 {E : gE} {n : Nat} {sh : Nat → Nat × Nat} {P : Int32 → gS → Prop} {k28 : Nat → Int32 → Int32 → Int32 → Int32 → gS → Prop} {k54 : Nat → Int32 → Int32 → Int32 → Int32 → Int32 → Int32 → gS → Prop} {a0 : Nat} {x1 : Int32} {x2 : Int32} {x3 : Int32} {x4 : Int32} {x5 : Int32} {x6 : Int32} {z : gS} (hn : gOK E n) (hk28 : ∀ (a0 : Nat) (x1 : Int32) (x2 : Int32) (x3 : Int32) (x4 : Int32) (z : gS), k28 a0 x1 x2 x3 x4 z → V E (gR 2 0) gyX12_washes 0 0 28 [(0, .ref a0), (1, .int x1), (2, .int x2), (3, .int x3), (4, .int x4)] [] n sh z (kI n sh P)) (hk54 : ∀ (a0 : Nat) (x1 : Int32) (x2 : Int32) (x3 : Int32) (x4 : Int32) (x5 : Int32) (x6 : Int32) (z : gS), k54 a0 x1 x2 x3 x4 x5 x6 z → V E (gR 2 0) gyX12_washes 0 0 54 [(0, .ref a0), (1, .int x1), (2, .int x2), (3, .int x3), (4, .int x4), (5, .int x5), (6, .int x6)] [] n sh z (kI n sh P)) (hf : wX12_washes_J103 n sh k28 k54 P a0 x1 x2 x3 x4 x5 x6 z) : V E (gR 2 0) gyX12_washes 0 0 103 [(0, .ref a0), (1, .int x1), (2, .int x2), (3, .int x3), (4, .int x4), (5, .int x5), (6, .int x6)] [] n sh z (kI n sh P) := by
  unfold wX12_washes_J103 at hf
  refine V_iload (j := 5) dX12_washes_103 rfl ?_
  refine V_to [0, 1, 2, 3, 4, 6] rfl ?_
  exact vX12_washes_J105 hn hk28 hk54 hf
def wX12_washes_B54 (n : Nat) (sh : Nat → Nat × Nat) (k28 : Nat → Int32 → Int32 → Int32 → Int32 → gS → Prop) (k54 : Nat → Int32 → Int32 → Int32 → Int32 → Int32 → Int32 → gS → Prop) (P : Int32 → gS → Prop) (a0 : Nat) (x1 : Int32) (x2 : Int32) (x3 : Int32) (x4 : Int32) (x5 : Int32) (x6 : Int32) (z : gS) : Prop := if x6 < 0 then wX12_washes_J113 n sh k28 P a0 x1 x2 x3 x4 x5 z else ((oO n sh a0 8) ∧ (wX12_isWhole n sh a0 (0 : Int32) x4 z (fun (r21 : Int32) (z22 : gS) => if r21 = 0 then wX12_washes_J113 n sh k28 P a0 x1 x2 x3 x4 x5 z22 else (wX12_markOf n sh a0 (0 : Int32) x4 x6 z22 (fun (r24 : Int32) (z25 : gS) => wX12_whoOf n sh r24 z25 (fun (r26 : Int32) (z27 : gS) => if r26 = x1 then (wX12_deedOf n sh r24 z27 (fun (r29 : Int32) (z30 : gS) => if r29 = x2 then wX12_washes_J105 n sh k28 k54 P a0 x1 x2 x3 x4 x6 x6 z30 else wX12_washes_J103 n sh k28 k54 P a0 x1 x2 x3 x4 x5 x6 z30)) else wX12_washes_J103 n sh k28 k54 P a0 x1 x2 x3 x4 x5 x6 z27))))))
def wX12_washes_L54 (n : Nat) (sh : Nat → Nat × Nat) (k28 : Nat → Int32 → Int32 → Int32 → Int32 → gS → Prop) (P : Int32 → gS → Prop) : Nat → Nat → Int32 → Int32 → Int32 → Int32 → Int32 → Int32 → gS → Prop
  | 0, _, _, _, _, _, _, _, _ => False
  | N + 1, a0, x1, x2, x3, x4, x5, x6, z => wX12_washes_B54 n sh k28 (wX12_washes_L54 n sh k28 P N) P a0 x1 x2 x3 x4 x5 x6 z
set_option maxRecDepth 100000 in
set_option maxHeartbeats 4000000 in
theorem vX12_washes_B54 {E : gE} {n : Nat} {sh : Nat → Nat × Nat} {P : Int32 → gS → Prop} {k28 : Nat → Int32 → Int32 → Int32 → Int32 → gS → Prop} {k54 : Nat → Int32 → Int32 → Int32 → Int32 → Int32 → Int32 → gS → Prop} {a0 : Nat} {x1 : Int32} {x2 : Int32} {x3 : Int32} {x4 : Int32} {x5 : Int32} {x6 : Int32} {z : gS} (hn : gOK E n) (hk28 : ∀ (a0 : Nat) (x1 : Int32) (x2 : Int32) (x3 : Int32) (x4 : Int32) (z : gS), k28 a0 x1 x2 x3 x4 z → V E (gR 2 0) gyX12_washes 0 0 28 [(0, .ref a0), (1, .int x1), (2, .int x2), (3, .int x3), (4, .int x4)] [] n sh z (kI n sh P)) (hk54 : ∀ (a0 : Nat) (x1 : Int32) (x2 : Int32) (x3 : Int32) (x4 : Int32) (x5 : Int32) (x6 : Int32) (z : gS), k54 a0 x1 x2 x3 x4 x5 x6 z → V E (gR 2 0) gyX12_washes 0 0 54 [(0, .ref a0), (1, .int x1), (2, .int x2), (3, .int x3), (4, .int x4), (5, .int x5), (6, .int x6)] [] n sh z (kI n sh P)) (hf : wX12_washes_B54 n sh k28 k54 P a0 x1 x2 x3 x4 x5 x6 z) : V E (gR 2 0) gyX12_washes 0 0 54 [(0, .ref a0), (1, .int x1), (2, .int x2), (3, .int x3), (4, .int x4), (5, .int x5), (6, .int x6)] [] n sh z (kI n sh P) := by
  unfold wX12_washes_B54 at hf
  refine V_iload (j := 6) dX12_washes_54 rfl ?_
  refine V_if_lt (tgt := 113) dX12_washes_56 (by decide) (fun h34 => ?_) (fun h34 => ?_)
  · have hf := it_t h34 hf
    refine V_to [0, 1, 2, 3, 4, 5] rfl ?_
    exact vX12_washes_J113 hn hk28 hf
  · have hf := it_f h34 hf
    refine V_aload_n (j := 0) dX12_washes_59 rfl rfl ?_
    refine V_iconst (v := (0 : Int32)) dX12_washes_60 (by decide) ?_
    refine V_iload (j := 4) dX12_washes_61 rfl ?_
    obtain ⟨h23, hf⟩ := hf
    refine V_cVI (ctX12_isWhole hn hf) gc_X12_287 rfl h23.1 ⟨_, h23.2, by decide, rfl⟩ ⟨by decide, by decide, Nat.zero_le _, Nat.zero_le _⟩ (Nat.le_of_ble_eq_true rfl) dX12_washes_63 rfl hn (fun r21 z22 hf => ?_)
    refine V_if_eq (tgt := 113) dX12_washes_66 (by decide) (fun h33 => ?_) (fun h33 => ?_)
    · have hf := it_t h33 hf
      refine V_to [0, 1, 2, 3, 4, 5] rfl ?_
      exact vX12_washes_J113 hn hk28 hf
    · have hf := it_f h33 hf
      refine V_aload_n (j := 0) dX12_washes_69 rfl rfl ?_
      refine V_iconst (v := (0 : Int32)) dX12_washes_70 (by decide) ?_
      refine V_iload (j := 4) dX12_washes_71 rfl ?_
      refine V_iload (j := 6) dX12_washes_73 rfl ?_
      refine V_cVI (ctX12_markOf hn hf) gc_X12_300 rfl h23.1 ⟨_, h23.2, by decide, rfl⟩ ⟨by decide, by decide, Nat.zero_le _, Nat.zero_le _⟩ (Nat.le_of_ble_eq_true rfl) dX12_washes_75 rfl hn (fun r24 z25 hf => ?_)
      refine V_istore (ls2 := [(7, .int r24), (0, .ref a0), (1, .int x1), (2, .int x2), (3, .int x3), (4, .int x4), (5, .int x5), (6, .int x6)]) dX12_washes_78 (by decide) rfl ?_
      refine V_iload (j := 0) dX12_washes_80 rfl ?_
      refine V_cSI (ctX12_whoOf hn hf) gc_X12_321 rfl ⟨by decide, by decide, Nat.zero_le _, Nat.zero_le _⟩ (Nat.le_of_ble_eq_true rfl) dX12_washes_82 rfl hn (fun r26 z27 hf => ?_)
      refine V_iload_n (j := 2) dX12_washes_85 rfl rfl ?_
      refine V_icmp_ne (tgt := 103) dX12_washes_86 (by decide) (fun h32 => ?_) (fun h32 => ?_)
      · have hf := it_f h32 hf
        refine V_to [1, 2, 3, 4, 5, 6, 7] rfl ?_
        exact vX12_washes_J103 hn hk28 hk54 hf
      · have hf := it_t (Classical.not_not.mp h32) hf
        refine V_iload (j := 0) dX12_washes_89 rfl ?_
        refine V_cSI (ctX12_deedOf hn hf) gc_X12_312 rfl ⟨by decide, by decide, Nat.zero_le _, Nat.zero_le _⟩ (Nat.le_of_ble_eq_true rfl) dX12_washes_91 rfl hn (fun r29 z30 hf => ?_)
        refine V_iload_n (j := 3) dX12_washes_94 rfl rfl ?_
        refine V_icmp_ne (tgt := 103) dX12_washes_95 (by decide) (fun h31 => ?_) (fun h31 => ?_)
        · have hf := it_f h31 hf
          refine V_to [1, 2, 3, 4, 5, 6, 7] rfl ?_
          exact vX12_washes_J103 hn hk28 hk54 hf
        · have hf := it_t (Classical.not_not.mp h31) hf
          refine V_iload (j := 7) dX12_washes_98 rfl ?_
          refine V_goto (tgt := 105) dX12_washes_100 (by decide) ?_
          refine V_to [1, 2, 3, 4, 5, 7] rfl ?_
          exact vX12_washes_J105 hn hk28 hk54 hf
set_option maxRecDepth 100000 in
set_option maxHeartbeats 4000000 in
theorem vX12_washes_L54 {E : gE} {n : Nat} {sh : Nat → Nat × Nat} {P : Int32 → gS → Prop} {k28 : Nat → Int32 → Int32 → Int32 → Int32 → gS → Prop} (hn : gOK E n) (hk28 : ∀ (a0 : Nat) (x1 : Int32) (x2 : Int32) (x3 : Int32) (x4 : Int32) (z : gS), k28 a0 x1 x2 x3 x4 z → V E (gR 2 0) gyX12_washes 0 0 28 [(0, .ref a0), (1, .int x1), (2, .int x2), (3, .int x3), (4, .int x4)] [] n sh z (kI n sh P)) : ∀ (N : Nat) (a0 : Nat) (x1 : Int32) (x2 : Int32) (x3 : Int32) (x4 : Int32) (x5 : Int32) (x6 : Int32) (z : gS), wX12_washes_L54 n sh k28 P N a0 x1 x2 x3 x4 x5 x6 z → V E (gR 2 0) gyX12_washes 0 0 54 [(0, .ref a0), (1, .int x1), (2, .int x2), (3, .int x3), (4, .int x4), (5, .int x5), (6, .int x6)] [] n sh z (kI n sh P) := by
  intro N
  induction N with
  | zero => intro a0 x1 x2 x3 x4 x5 x6 z hf; exact False.elim hf
  | succ N ih => intro a0 x1 x2 x3 x4 x5 x6 z hf; exact vX12_washes_B54 hn hk28 ih hf
def wX12_washes_B28 (n : Nat) (sh : Nat → Nat × Nat) (k28 : Nat → Int32 → Int32 → Int32 → Int32 → gS → Prop) (P : Int32 → gS → Prop) (a0 : Nat) (x1 : Int32) (x2 : Int32) (x3 : Int32) (x4 : Int32) (z : gS) : Prop := (oO n sh a0 8) ∧ (wX12_panes n sh a0 z (fun (r7 : Int32) (z8 : gS) => if r7 ≤ x4 then P x3 z8 else (∃ t10 : Nat, gr z8 a0 24 = some t10 ∧ ((oA n sh t10 1) ∧ ((vp_in ((18 : Int32) + x4) (sh t10).2) ∧ (∀ v13 : Int32, v13 = ((gi z8 t10 ((18 : Int32) + x4).toNatClampNeg) - (1 : Int32)) → ((∃ N, wX12_washes_L54 n sh k28 P N a0 x1 x2 x3 x4 (-1 : Int32) v13 z8))))))))
def wX12_washes_L28 (n : Nat) (sh : Nat → Nat × Nat) (P : Int32 → gS → Prop) : Nat → Nat → Int32 → Int32 → Int32 → Int32 → gS → Prop
  | 0, _, _, _, _, _, _ => False
  | N + 1, a0, x1, x2, x3, x4, z => wX12_washes_B28 n sh (wX12_washes_L28 n sh P N) P a0 x1 x2 x3 x4 z
set_option maxRecDepth 100000 in
set_option maxHeartbeats 4000000 in
theorem vX12_washes_B28 {E : gE} {n : Nat} {sh : Nat → Nat × Nat} {P : Int32 → gS → Prop} {k28 : Nat → Int32 → Int32 → Int32 → Int32 → gS → Prop} {a0 : Nat} {x1 : Int32} {x2 : Int32} {x3 : Int32} {x4 : Int32} {z : gS} (hn : gOK E n) (hk28 : ∀ (a0 : Nat) (x1 : Int32) (x2 : Int32) (x3 : Int32) (x4 : Int32) (z : gS), k28 a0 x1 x2 x3 x4 z → V E (gR 2 0) gyX12_washes 0 0 28 [(0, .ref a0), (1, .int x1), (2, .int x2), (3, .int x3), (4, .int x4)] [] n sh z (kI n sh P)) (hf : wX12_washes_B28 n sh k28 P a0 x1 x2 x3 x4 z) : V E (gR 2 0) gyX12_washes 0 0 28 [(0, .ref a0), (1, .int x1), (2, .int x2), (3, .int x3), (4, .int x4)] [] n sh z (kI n sh P) := by
  unfold wX12_washes_B28 at hf
  refine V_iload (j := 4) dX12_washes_28 rfl ?_
  refine V_aload_n (j := 0) dX12_washes_30 rfl rfl ?_
  obtain ⟨h9, hf⟩ := hf
  refine V_cVI (ctX12_panes hn hf) gc_X12_278 rfl h9.1 ⟨_, h9.2, by decide, rfl⟩ ⟨by decide, by decide, Nat.zero_le _, Nat.zero_le _⟩ (Nat.le_of_ble_eq_true rfl) dX12_washes_31 rfl hn (fun r7 z8 hf => ?_)
  refine V_icmp_ge (tgt := 144) dX12_washes_34 (by decide) (fun h35 => ?_) (fun h35 => ?_)
  · have hf := it_t h35 hf
    refine V_iload_n (j := 3) dX12_washes_144 rfl rfl ?_
    exact V_ireturn dX12_washes_145 rfl rfl (Nat.le_refl 0) (kI_of hf)
  · have hf := it_f h35 hf
    refine V_iconst (v := (-1 : Int32)) dX12_washes_37 (by decide) ?_
    refine V_istore (ls2 := [(5, .int (-1 : Int32)), (0, .ref a0), (1, .int x1), (2, .int x2), (3, .int x3), (4, .int x4)]) dX12_washes_38 (by decide) rfl ?_
    refine V_aload_n (j := 1) dX12_washes_40 rfl rfl ?_
    obtain ⟨t10, et10, hf⟩ := hf
    refine V_getR fl_X12_119 rfl h9.1 h9.2 et10 dX12_washes_41 ?_
    refine V_bipush (v := (18 : Int32)) dX12_washes_44 (by decide) ?_
    refine V_iload (j := 5) dX12_washes_46 rfl ?_
    refine V_iadd dX12_washes_48 ?_
    obtain ⟨h11, hf⟩ := hf
    obtain ⟨h12, hf⟩ := hf
    refine V_iald h11.1 h11.s h12 dX12_washes_49 ?_
    refine V_iconst (v := (1 : Int32)) dX12_washes_50 (by decide) ?_
    refine V_isub dX12_washes_51 ?_
    refine V_nI (fun v13 ev13 => ?_)
    have hf := hf v13 ev13
    refine V_istore (ls2 := [(6, .int v13), (5, .int (-1 : Int32)), (0, .ref a0), (1, .int x1), (2, .int x2), (3, .int x3), (4, .int x4)]) dX12_washes_52 (by decide) rfl ?_
    obtain ⟨N, hf⟩ := hf
    refine V_to [2, 3, 4, 5, 6, 1, 0] rfl ?_
    exact vX12_washes_L54 hn hk28 N _ _ _ _ _ _ _ _ hf
set_option maxRecDepth 100000 in
set_option maxHeartbeats 4000000 in
theorem vX12_washes_L28 {E : gE} {n : Nat} {sh : Nat → Nat × Nat} {P : Int32 → gS → Prop} (hn : gOK E n) : ∀ (N : Nat) (a0 : Nat) (x1 : Int32) (x2 : Int32) (x3 : Int32) (x4 : Int32) (z : gS), wX12_washes_L28 n sh P N a0 x1 x2 x3 x4 z → V E (gR 2 0) gyX12_washes 0 0 28 [(0, .ref a0), (1, .int x1), (2, .int x2), (3, .int x3), (4, .int x4)] [] n sh z (kI n sh P) := by
  intro N
  induction N with
  | zero => intro a0 x1 x2 x3 x4 z hf; exact False.elim hf
  | succ N ih => intro a0 x1 x2 x3 x4 z hf; exact vX12_washes_B28 hn ih hf
def wX12_washes (n : Nat) (sh : Nat → Nat × Nat) (a0 : Nat) (x1 : Int32) (x2 : Int32) (z : gS) (P : Int32 → gS → Prop) : Prop := (oO n sh a0 8) ∧ (∀ z2 : gS, z2 = si z a0 0 (0 : Int32) → (wX12_isPerson n sh a0 x1 z2 (fun (r3 : Int32) (z4 : gS) => if r3 = 0 then P (-1 : Int32) z4 else (wX12_isDeed n sh a0 x2 z4 (fun (r5 : Int32) (z6 : gS) => if r5 = 0 then P (-1 : Int32) z6 else ((∃ N, wX12_washes_L28 n sh P N a0 x1 x2 (0 : Int32) (0 : Int32) z6)))))))
set_option maxRecDepth 100000 in
set_option maxHeartbeats 4000000 in
theorem ctX12_washes {E : gE} {n : Nat} {sh : Nat → Nat × Nat} {a0 : Nat} {x1 : Int32} {x2 : Int32} {z : gS} {P : Int32 → gS → Prop} (hn : gOK E n) (hf : wX12_washes n sh a0 x1 x2 z P) : VM E 2 0 gyX12_washes [.ref a0, .int x1, .int x2] n sh z (kI n sh P) := by
  unfold wX12_washes at hf
  refine VM.of (by decide +kernel) (Nat.le_of_ble_eq_true rfl) (fun _ _ _ h => h.2.2) ?_
  show V E (gR 2 0) gyX12_washes 0 0 0 [(0, .ref a0), (1, .int x1), (2, .int x2)] [] n sh z (kI n sh P)
  refine V_aload_n (j := 0) dX12_washes_0 rfl rfl ?_
  refine V_iconst (v := (0 : Int32)) dX12_washes_1 (by decide) ?_
  obtain ⟨h1, hf⟩ := hf
  refine V_putI fl_X12_1 rfl rfl rfl rfl h1.1 h1.2 dX12_washes_2 ?_
  refine V_nz (fun z2 ez2 => ?_)
  have hf := hf z2 ez2
  refine V_aload_n (j := 0) dX12_washes_5 rfl rfl ?_
  refine V_iload_n (j := 1) dX12_washes_6 rfl rfl ?_
  refine V_cVI (ctX12_isPerson hn hf) gc_X12_343 rfl h1.1 ⟨_, h1.2, by decide, rfl⟩ ⟨by decide, by decide, Nat.zero_le _, Nat.zero_le _⟩ (Nat.le_of_ble_eq_true rfl) dX12_washes_7 rfl hn (fun r3 z4 hf => ?_)
  refine V_if_eq (tgt := 21) dX12_washes_10 (by decide) (fun h37 => ?_) (fun h37 => ?_)
  · have hf := it_t h37 hf
    refine V_iconst (v := (-1 : Int32)) dX12_washes_21 (by decide) ?_
    exact V_ireturn dX12_washes_22 rfl rfl (Nat.le_refl 0) (kI_of hf)
  · have hf := it_f h37 hf
    refine V_aload_n (j := 0) dX12_washes_13 rfl rfl ?_
    refine V_iload_n (j := 2) dX12_washes_14 rfl rfl ?_
    refine V_cVI (ctX12_isDeed hn hf) gc_X12_352 rfl h1.1 ⟨_, h1.2, by decide, rfl⟩ ⟨by decide, by decide, Nat.zero_le _, Nat.zero_le _⟩ (Nat.le_of_ble_eq_true rfl) dX12_washes_15 rfl hn (fun r5 z6 hf => ?_)
    refine V_if_ne (tgt := 23) dX12_washes_18 (by decide) (fun h36 => ?_) (fun h36 => ?_)
    · have hf := it_f h36 hf
      refine V_iconst (v := (0 : Int32)) dX12_washes_23 (by decide) ?_
      refine V_istore_n (ls2 := [(3, .int (0 : Int32)), (0, .ref a0), (1, .int x1), (2, .int x2)]) dX12_washes_24 rfl (by decide) rfl ?_
      refine V_iconst (v := (0 : Int32)) dX12_washes_25 (by decide) ?_
      refine V_istore (ls2 := [(4, .int (0 : Int32)), (3, .int (0 : Int32)), (0, .ref a0), (1, .int x1), (2, .int x2)]) dX12_washes_26 (by decide) rfl ?_
      obtain ⟨N, hf⟩ := hf
      refine V_to [2, 3, 4, 1, 0] rfl ?_
      exact vX12_washes_L28 hn N _ _ _ _ _ _ hf
    · have hf := it_t (Classical.not_not.mp h36) hf
      refine V_iconst (v := (-1 : Int32)) dX12_washes_21 (by decide) ?_
      exact V_ireturn dX12_washes_22 rfl rfl (Nat.le_refl 0) (kI_of hf)
def wX12_dark_J97 (n : Nat) (sh : Nat → Nat × Nat) (k22 : Nat → Int32 → Int32 → Int32 → gS → Prop) (P : Int32 → gS → Prop) (a0 : Nat) (x1 : Int32) (x3 : Int32) (s0 : Int32) (z : gS) : Prop := ∀ v8 : Int32, v8 = x3 + (1 : Int32) → k22 a0 x1 s0 v8 z
set_option maxRecDepth 100000 in
set_option maxHeartbeats 4000000 in
theorem vX12_dark_J97 {E : gE} {n : Nat} {sh : Nat → Nat × Nat} {P : Int32 → gS → Prop} {k22 : Nat → Int32 → Int32 → Int32 → gS → Prop} {a0 : Nat} {x1 : Int32} {x3 : Int32} {s0 : Int32} {z : gS} (hn : gOK E n) (hk22 : ∀ (a0 : Nat) (x1 : Int32) (x2 : Int32) (x3 : Int32) (z : gS), k22 a0 x1 x2 x3 z → V E (gR 4 0) gyX12_dark 0 0 22 [(0, .ref a0), (1, .int x1), (2, .int x2), (3, .int x3)] [] n sh z (kI n sh P)) (hf : wX12_dark_J97 n sh k22 P a0 x1 x3 s0 z) : V E (gR 4 0) gyX12_dark 0 0 97 [(0, .ref a0), (1, .int x1), (3, .int x3)] [.int s0] n sh z (kI n sh P) := by
  unfold wX12_dark_J97 at hf
  refine V_istore_n (ls2 := [(2, .int s0), (0, .ref a0), (1, .int x1), (3, .int x3)]) dX12_dark_97 rfl (by decide) rfl ?_
  obtain ⟨v8, ev8⟩ : ∃ y : Int32, y = x3 + (1 : Int32) := ⟨_, rfl⟩
  refine V_iinc (j := 3) (v := v8) (ls2 := [(3, .int v8), (2, .int s0), (0, .ref a0), (1, .int x1)]) dX12_dark_98 rfl (by rw [ev8]; rfl) (by decide) rfl ?_
  have hf := hf v8 ev8
  refine V_goto (tgt := 22) dX12_dark_101 (by decide) ?_
  refine V_to [2, 3, 1, 0] rfl ?_
  exact hk22 _ _ _ _ _ hf
def wX12_dark_J84 (n : Nat) (sh : Nat → Nat × Nat) (k22 : Nat → Int32 → Int32 → Int32 → gS → Prop) (P : Int32 → gS → Prop) (a0 : Nat) (x1 : Int32) (x2 : Int32) (x3 : Int32) (x4 : Int32) (s0 : Int32) (z : gS) : Prop := if s0 = 0 then wX12_dark_J97 n sh k22 P a0 x1 x3 x2 z else wX12_dark_J97 n sh k22 P a0 x1 x3 x4 z
set_option maxRecDepth 100000 in
set_option maxHeartbeats 4000000 in
theorem vX12_dark_J84 {E : gE} {n : Nat} {sh : Nat → Nat × Nat} {P : Int32 → gS → Prop} {k22 : Nat → Int32 → Int32 → Int32 → gS → Prop} {a0 : Nat} {x1 : Int32} {x2 : Int32} {x3 : Int32} {x4 : Int32} {s0 : Int32} {z : gS} (hn : gOK E n) (hk22 : ∀ (a0 : Nat) (x1 : Int32) (x2 : Int32) (x3 : Int32) (z : gS), k22 a0 x1 x2 x3 z → V E (gR 4 0) gyX12_dark 0 0 22 [(0, .ref a0), (1, .int x1), (2, .int x2), (3, .int x3)] [] n sh z (kI n sh P)) (hf : wX12_dark_J84 n sh k22 P a0 x1 x2 x3 x4 s0 z) : V E (gR 4 0) gyX12_dark 0 0 84 [(0, .ref a0), (1, .int x1), (2, .int x2), (3, .int x3), (4, .int x4)] [.int s0] n sh z (kI n sh P) := by
  unfold wX12_dark_J84 at hf
  refine V_istore (ls2 := [(5, .int s0), (0, .ref a0), (1, .int x1), (2, .int x2), (3, .int x3), (4, .int x4)]) dX12_dark_84 (by decide) rfl ?_
  refine V_iload (j := 0) dX12_dark_86 rfl ?_
  refine V_if_eq (tgt := 96) dX12_dark_88 (by decide) (fun h9 => ?_) (fun h9 => ?_)
  · have hf := it_t h9 hf
    refine V_iload_n (j := 3) dX12_dark_96 rfl rfl ?_
    refine V_to [1, 2, 4] rfl ?_
    exact vX12_dark_J97 hn hk22 hf
  · have hf := it_f h9 hf
    refine V_iload (j := 5) dX12_dark_91 rfl ?_
    refine V_goto (tgt := 97) dX12_dark_93 (by decide) ?_
    refine V_to [1, 2, 4] rfl ?_
    exact vX12_dark_J97 hn hk22 hf
def wX12_dark_J83 (n : Nat) (sh : Nat → Nat × Nat) (k22 : Nat → Int32 → Int32 → Int32 → gS → Prop) (P : Int32 → gS → Prop) (a0 : Nat) (x1 : Int32) (x2 : Int32) (x3 : Int32) (x4 : Int32) (z : gS) : Prop := wX12_dark_J84 n sh k22 P a0 x1 x2 x3 x4 (0 : Int32) z
set_option maxRecDepth 100000 in
set_option maxHeartbeats 4000000 in
theorem vX12_dark_J83 {E : gE} {n : Nat} {sh : Nat → Nat × Nat} {P : Int32 → gS → Prop} {k22 : Nat → Int32 → Int32 → Int32 → gS → Prop} {a0 : Nat} {x1 : Int32} {x2 : Int32} {x3 : Int32} {x4 : Int32} {z : gS} (hn : gOK E n) (hk22 : ∀ (a0 : Nat) (x1 : Int32) (x2 : Int32) (x3 : Int32) (z : gS), k22 a0 x1 x2 x3 z → V E (gR 4 0) gyX12_dark 0 0 22 [(0, .ref a0), (1, .int x1), (2, .int x2), (3, .int x3)] [] n sh z (kI n sh P)) (hf : wX12_dark_J83 n sh k22 P a0 x1 x2 x3 x4 z) : V E (gR 4 0) gyX12_dark 0 0 83 [(0, .ref a0), (1, .int x1), (2, .int x2), (3, .int x3), (4, .int x4)] [] n sh z (kI n sh P) := by
  unfold wX12_dark_J83 at hf
  refine V_iconst (v := (0 : Int32)) dX12_dark_83 (by decide) ?_
  exact vX12_dark_J84 hn hk22 hf
def wX12_dark_J79 (n : Nat) (sh : Nat → Nat × Nat) (k22 : Nat → Int32 → Int32 → Int32 → gS → Prop) (P : Int32 → gS → Prop) (a0 : Nat) (x1 : Int32) (x2 : Int32) (x3 : Int32) (x4 : Int32) (z : gS) : Prop := wX12_dark_J84 n sh k22 P a0 x1 x2 x3 x4 (1 : Int32) z
set_option maxRecDepth 100000 in
set_option maxHeartbeats 4000000 in
theorem vX12_dark_J79 {E : gE} {n : Nat} {sh : Nat → Nat × Nat} {P : Int32 → gS → Prop} {k22 : Nat → Int32 → Int32 → Int32 → gS → Prop} {a0 : Nat} {x1 : Int32} {x2 : Int32} {x3 : Int32} {x4 : Int32} {z : gS} (hn : gOK E n) (hk22 : ∀ (a0 : Nat) (x1 : Int32) (x2 : Int32) (x3 : Int32) (z : gS), k22 a0 x1 x2 x3 z → V E (gR 4 0) gyX12_dark 0 0 22 [(0, .ref a0), (1, .int x1), (2, .int x2), (3, .int x3)] [] n sh z (kI n sh P)) (hf : wX12_dark_J79 n sh k22 P a0 x1 x2 x3 x4 z) : V E (gR 4 0) gyX12_dark 0 0 79 [(0, .ref a0), (1, .int x1), (2, .int x2), (3, .int x3), (4, .int x4)] [] n sh z (kI n sh P) := by
  unfold wX12_dark_J79 at hf
  refine V_iconst (v := (1 : Int32)) dX12_dark_79 (by decide) ?_
  refine V_goto (tgt := 84) dX12_dark_80 (by decide) ?_
  exact vX12_dark_J84 hn hk22 hf
def wX12_dark_B22 (n : Nat) (sh : Nat → Nat × Nat) (k22 : Nat → Int32 → Int32 → Int32 → gS → Prop) (P : Int32 → gS → Prop) (a0 : Nat) (x1 : Int32) (x2 : Int32) (x3 : Int32) (z : gS) : Prop := if (10 : Int32) ≤ x3 then P x2 z else ((oO n sh a0 8) ∧ (wX12_seersOf n sh a0 (0 : Int32) x3 z (fun (r5 : Int32) (z6 : gS) => if ((x1 >>> (x3 &&& 31)) &&& (1 : Int32)) = (1 : Int32) then (if x2 < 0 then wX12_dark_J79 n sh k22 P a0 x1 x2 x3 r5 z6 else (wX12_bits n sh r5 z6 (fun (r10 : Int32) (z11 : gS) => wX12_bits n sh x2 z11 (fun (r12 : Int32) (z13 : gS) => if r10 < r12 then wX12_dark_J79 n sh k22 P a0 x1 x2 x3 r5 z13 else (wX12_bits n sh r5 z13 (fun (r14 : Int32) (z15 : gS) => wX12_bits n sh x2 z15 (fun (r16 : Int32) (z17 : gS) => if r14 = r16 then (if x2 ≤ r5 then wX12_dark_J83 n sh k22 P a0 x1 x2 x3 r5 z17 else wX12_dark_J79 n sh k22 P a0 x1 x2 x3 r5 z17) else wX12_dark_J83 n sh k22 P a0 x1 x2 x3 r5 z17))))))) else wX12_dark_J83 n sh k22 P a0 x1 x2 x3 r5 z6)))
def wX12_dark_L22 (n : Nat) (sh : Nat → Nat × Nat) (P : Int32 → gS → Prop) : Nat → Nat → Int32 → Int32 → Int32 → gS → Prop
  | 0, _, _, _, _, _ => False
  | N + 1, a0, x1, x2, x3, z => wX12_dark_B22 n sh (wX12_dark_L22 n sh P N) P a0 x1 x2 x3 z
set_option maxRecDepth 100000 in
set_option maxHeartbeats 4000000 in
theorem vX12_dark_B22 {E : gE} {n : Nat} {sh : Nat → Nat × Nat} {P : Int32 → gS → Prop} {k22 : Nat → Int32 → Int32 → Int32 → gS → Prop} {a0 : Nat} {x1 : Int32} {x2 : Int32} {x3 : Int32} {z : gS} (hn : gOK E n) (hk22 : ∀ (a0 : Nat) (x1 : Int32) (x2 : Int32) (x3 : Int32) (z : gS), k22 a0 x1 x2 x3 z → V E (gR 4 0) gyX12_dark 0 0 22 [(0, .ref a0), (1, .int x1), (2, .int x2), (3, .int x3)] [] n sh z (kI n sh P)) (hf : wX12_dark_B22 n sh k22 P a0 x1 x2 x3 z) : V E (gR 4 0) gyX12_dark 0 0 22 [(0, .ref a0), (1, .int x1), (2, .int x2), (3, .int x3)] [] n sh z (kI n sh P) := by
  unfold wX12_dark_B22 at hf
  refine V_iload_n (j := 3) dX12_dark_22 rfl rfl ?_
  refine V_bipush (v := (10 : Int32)) dX12_dark_23 (by decide) ?_
  refine V_icmp_ge (tgt := 104) dX12_dark_25 (by decide) (fun h23 => ?_) (fun h23 => ?_)
  · have hf := it_t h23 hf
    refine V_iload_n (j := 2) dX12_dark_104 rfl rfl ?_
    exact V_ireturn dX12_dark_105 rfl rfl (Nat.le_refl 0) (kI_of hf)
  · have hf := it_f h23 hf
    refine V_aload_n (j := 0) dX12_dark_28 rfl rfl ?_
    refine V_iconst (v := (0 : Int32)) dX12_dark_29 (by decide) ?_
    refine V_iload_n (j := 3) dX12_dark_30 rfl rfl ?_
    obtain ⟨h7, hf⟩ := hf
    refine V_cVI (ctX12_seersOf hn hf) gc_X12_303 rfl h7.1 ⟨_, h7.2, by decide, rfl⟩ ⟨by decide, by decide, Nat.zero_le _, Nat.zero_le _⟩ (Nat.le_of_ble_eq_true rfl) dX12_dark_31 rfl hn (fun r5 z6 hf => ?_)
    refine V_istore (ls2 := [(4, .int r5), (0, .ref a0), (1, .int x1), (2, .int x2), (3, .int x3)]) dX12_dark_34 (by decide) rfl ?_
    refine V_iload_n (j := 2) dX12_dark_36 rfl rfl ?_
    refine V_iload_n (j := 4) dX12_dark_37 rfl rfl ?_
    refine V_ishr dX12_dark_38 ?_
    refine V_iconst (v := (1 : Int32)) dX12_dark_39 (by decide) ?_
    refine V_iand dX12_dark_40 ?_
    refine V_iconst (v := (1 : Int32)) dX12_dark_41 (by decide) ?_
    refine V_icmp_ne (tgt := 83) dX12_dark_42 (by decide) (fun h22 => ?_) (fun h22 => ?_)
    · have hf := it_f h22 hf
      refine V_to [1, 2, 3, 4, 0] rfl ?_
      exact vX12_dark_J83 hn hk22 hf
    · have hf := it_t (Classical.not_not.mp h22) hf
      refine V_iload_n (j := 3) dX12_dark_45 rfl rfl ?_
      refine V_if_lt (tgt := 79) dX12_dark_46 (by decide) (fun h21 => ?_) (fun h21 => ?_)
      · have hf := it_t h21 hf
        refine V_to [1, 2, 3, 4, 0] rfl ?_
        exact vX12_dark_J79 hn hk22 hf
      · have hf := it_f h21 hf
        refine V_iload (j := 0) dX12_dark_49 rfl ?_
        refine V_cSI (ctX12_bits hn hf) gc_X12_374 rfl ⟨by decide, by decide, Nat.zero_le _, Nat.zero_le _⟩ (Nat.le_of_ble_eq_true rfl) dX12_dark_51 rfl hn (fun r10 z11 hf => ?_)
        refine V_iload_n (j := 3) dX12_dark_54 rfl rfl ?_
        refine V_cSI (ctX12_bits hn hf) gc_X12_374 rfl ⟨by decide, by decide, Nat.zero_le _, Nat.zero_le _⟩ (Nat.le_of_ble_eq_true rfl) dX12_dark_55 rfl hn (fun r12 z13 hf => ?_)
        refine V_icmp_lt (tgt := 79) dX12_dark_58 (by decide) (fun h20 => ?_) (fun h20 => ?_)
        · have hf := it_t h20 hf
          refine V_to [1, 2, 3, 4, 0] rfl ?_
          exact vX12_dark_J79 hn hk22 hf
        · have hf := it_f h20 hf
          refine V_iload (j := 0) dX12_dark_61 rfl ?_
          refine V_cSI (ctX12_bits hn hf) gc_X12_374 rfl ⟨by decide, by decide, Nat.zero_le _, Nat.zero_le _⟩ (Nat.le_of_ble_eq_true rfl) dX12_dark_63 rfl hn (fun r14 z15 hf => ?_)
          refine V_iload_n (j := 3) dX12_dark_66 rfl rfl ?_
          refine V_cSI (ctX12_bits hn hf) gc_X12_374 rfl ⟨by decide, by decide, Nat.zero_le _, Nat.zero_le _⟩ (Nat.le_of_ble_eq_true rfl) dX12_dark_67 rfl hn (fun r16 z17 hf => ?_)
          refine V_icmp_ne (tgt := 83) dX12_dark_70 (by decide) (fun h19 => ?_) (fun h19 => ?_)
          · have hf := it_f h19 hf
            refine V_to [1, 2, 3, 4, 0] rfl ?_
            exact vX12_dark_J83 hn hk22 hf
          · have hf := it_t (Classical.not_not.mp h19) hf
            refine V_iload (j := 0) dX12_dark_73 rfl ?_
            refine V_iload_n (j := 3) dX12_dark_75 rfl rfl ?_
            refine V_icmp_ge (tgt := 83) dX12_dark_76 (by decide) (fun h18 => ?_) (fun h18 => ?_)
            · have hf := it_t h18 hf
              refine V_to [1, 2, 3, 4, 0] rfl ?_
              exact vX12_dark_J83 hn hk22 hf
            · have hf := it_f h18 hf
              refine V_to [1, 2, 3, 4, 0] rfl ?_
              exact vX12_dark_J79 hn hk22 hf
set_option maxRecDepth 100000 in
set_option maxHeartbeats 4000000 in
theorem vX12_dark_L22 {E : gE} {n : Nat} {sh : Nat → Nat × Nat} {P : Int32 → gS → Prop} (hn : gOK E n) : ∀ (N : Nat) (a0 : Nat) (x1 : Int32) (x2 : Int32) (x3 : Int32) (z : gS), wX12_dark_L22 n sh P N a0 x1 x2 x3 z → V E (gR 4 0) gyX12_dark 0 0 22 [(0, .ref a0), (1, .int x1), (2, .int x2), (3, .int x3)] [] n sh z (kI n sh P) := by
  intro N
  induction N with
  | zero => intro a0 x1 x2 x3 z hf; exact False.elim hf
  | succ N ih => intro a0 x1 x2 x3 z hf; exact vX12_dark_B22 hn ih hf
def wX12_dark (n : Nat) (sh : Nat → Nat × Nat) (a0 : Nat) (x1 : Int32) (z : gS) (P : Int32 → gS → Prop) : Prop := (oO n sh a0 8) ∧ (∀ z2 : gS, z2 = si z a0 0 (0 : Int32) → (wX12_within n sh x1 (1 : Int32) (1023 : Int32) z2 (fun (r3 : Int32) (z4 : gS) => if r3 = 0 then P (-1 : Int32) z4 else ((∃ N, wX12_dark_L22 n sh P N a0 x1 (-1 : Int32) (0 : Int32) z4)))))
set_option maxRecDepth 100000 in
set_option maxHeartbeats 4000000 in
theorem ctX12_dark {E : gE} {n : Nat} {sh : Nat → Nat × Nat} {a0 : Nat} {x1 : Int32} {z : gS} {P : Int32 → gS → Prop} (hn : gOK E n) (hf : wX12_dark n sh a0 x1 z P) : VM E 4 0 gyX12_dark [.ref a0, .int x1] n sh z (kI n sh P) := by
  unfold wX12_dark at hf
  refine VM.of (by decide +kernel) (Nat.le_of_ble_eq_true rfl) (fun _ _ _ h => h.2.2) ?_
  show V E (gR 4 0) gyX12_dark 0 0 0 [(0, .ref a0), (1, .int x1)] [] n sh z (kI n sh P)
  refine V_aload_n (j := 0) dX12_dark_0 rfl rfl ?_
  refine V_iconst (v := (0 : Int32)) dX12_dark_1 (by decide) ?_
  obtain ⟨h1, hf⟩ := hf
  refine V_putI fl_X12_1 rfl rfl rfl rfl h1.1 h1.2 dX12_dark_2 ?_
  refine V_nz (fun z2 ez2 => ?_)
  have hf := hf z2 ez2
  refine V_iload_n (j := 1) dX12_dark_5 rfl rfl ?_
  refine V_iconst (v := (1 : Int32)) dX12_dark_6 (by decide) ?_
  refine V_sipush (v := (1023 : Int32)) dX12_dark_7 (by decide) ?_
  refine V_cSI (ctX12_within hn hf) gc_X12_198 rfl ⟨by decide, by decide, Nat.zero_le _, Nat.zero_le _⟩ (Nat.le_of_ble_eq_true rfl) dX12_dark_10 rfl hn (fun r3 z4 hf => ?_)
  refine V_if_ne (tgt := 18) dX12_dark_13 (by decide) (fun h24 => ?_) (fun h24 => ?_)
  · have hf := it_f h24 hf
    refine V_iconst (v := (-1 : Int32)) dX12_dark_18 (by decide) ?_
    refine V_istore_n (ls2 := [(2, .int (-1 : Int32)), (0, .ref a0), (1, .int x1)]) dX12_dark_19 rfl (by decide) rfl ?_
    refine V_iconst (v := (0 : Int32)) dX12_dark_20 (by decide) ?_
    refine V_istore_n (ls2 := [(3, .int (0 : Int32)), (2, .int (-1 : Int32)), (0, .ref a0), (1, .int x1)]) dX12_dark_21 rfl (by decide) rfl ?_
    obtain ⟨N, hf⟩ := hf
    refine V_to [2, 3, 1, 0] rfl ?_
    exact vX12_dark_L22 hn N _ _ _ _ _ hf
  · have hf := it_t (Classical.not_not.mp h24) hf
    refine V_iconst (v := (-1 : Int32)) dX12_dark_16 (by decide) ?_
    exact V_ireturn dX12_dark_17 rfl rfl (Nat.le_refl 0) (kI_of hf)
def wX12_say_J32 (n : Nat) (sh : Nat → Nat × Nat) (P : Int32 → gS → Prop) (s0 : Int32) (s1 : Int32) (s2 : Nat) (z : gS) : Prop := (oA n sh s2 1) ∧ ((vp_in s1 (sh s2).2) ∧ (∀ z8 : gS, z8 = si z s2 s1.toNatClampNeg s0 → P (1 : Int32) z8))
set_option maxRecDepth 100000 in
set_option maxHeartbeats 4000000 in
theorem vX12_say_J32 {E : gE} {n : Nat} {sh : Nat → Nat × Nat} {P : Int32 → gS → Prop} {s0 : Int32} {s1 : Int32} {s2 : Nat} {z : gS} (hn : gOK E n) (hf : wX12_say_J32 n sh P s0 s1 s2 z) : V E (gR 2 0) gyX12_say 0 0 32 [] [.int s0, .int s1, .ref s2] n sh z (kI n sh P) := by
  unfold wX12_say_J32 at hf
  obtain ⟨h6, hf⟩ := hf
  obtain ⟨h7, hf⟩ := hf
  refine V_iast h6.1 h6.s h7 dX12_say_32 ?_
  refine V_nz (fun z8 ez8 => ?_)
  have hf := hf z8 ez8
  refine V_iconst (v := (1 : Int32)) dX12_say_33 (by decide) ?_
  exact V_ireturn dX12_say_34 rfl (by decide) (Nat.le_refl 0) (kI_of hf)
def wX12_say (n : Nat) (sh : Nat → Nat × Nat) (a0 : Nat) (x1 : Int32) (x2 : Int32) (z : gS) (P : Int32 → gS → Prop) : Prop := (oO n sh a0 8) ∧ (∀ z2 : gS, z2 = si z a0 0 (0 : Int32) → (wX12_isPane n sh a0 x1 z2 (fun (r3 : Int32) (z4 : gS) => if r3 = 0 then P (0 : Int32) z4 else (∃ t5 : Nat, gr z4 a0 24 = some t5 ∧ (if x2 = 0 then wX12_say_J32 n sh P (0 : Int32) ((60 : Int32) + x1) t5 z4 else wX12_say_J32 n sh P (1 : Int32) ((60 : Int32) + x1) t5 z4)))))
set_option maxRecDepth 100000 in
set_option maxHeartbeats 4000000 in
theorem ctX12_say {E : gE} {n : Nat} {sh : Nat → Nat × Nat} {a0 : Nat} {x1 : Int32} {x2 : Int32} {z : gS} {P : Int32 → gS → Prop} (hn : gOK E n) (hf : wX12_say n sh a0 x1 x2 z P) : VM E 2 0 gyX12_say [.ref a0, .int x1, .int x2] n sh z (kI n sh P) := by
  unfold wX12_say at hf
  refine VM.of (by decide +kernel) (Nat.le_of_ble_eq_true rfl) (fun _ _ _ h => h.2.2) ?_
  show V E (gR 2 0) gyX12_say 0 0 0 [(0, .ref a0), (1, .int x1), (2, .int x2)] [] n sh z (kI n sh P)
  refine V_aload_n (j := 0) dX12_say_0 rfl rfl ?_
  refine V_iconst (v := (0 : Int32)) dX12_say_1 (by decide) ?_
  obtain ⟨h1, hf⟩ := hf
  refine V_putI fl_X12_1 rfl rfl rfl rfl h1.1 h1.2 dX12_say_2 ?_
  refine V_nz (fun z2 ez2 => ?_)
  have hf := hf z2 ez2
  refine V_aload_n (j := 0) dX12_say_5 rfl rfl ?_
  refine V_iload_n (j := 1) dX12_say_6 rfl rfl ?_
  refine V_cVI (ctX12_isPane hn hf) gc_X12_337 rfl h1.1 ⟨_, h1.2, by decide, rfl⟩ ⟨by decide, by decide, Nat.zero_le _, Nat.zero_le _⟩ (Nat.le_of_ble_eq_true rfl) dX12_say_7 rfl hn (fun r3 z4 hf => ?_)
  refine V_if_ne (tgt := 15) dX12_say_10 (by decide) (fun h10 => ?_) (fun h10 => ?_)
  · have hf := it_f h10 hf
    refine V_aload_n (j := 0) dX12_say_15 rfl rfl ?_
    obtain ⟨t5, et5, hf⟩ := hf
    refine V_getR fl_X12_119 rfl h1.1 h1.2 et5 dX12_say_16 ?_
    refine V_bipush (v := (60 : Int32)) dX12_say_19 (by decide) ?_
    refine V_iload_n (j := 1) dX12_say_21 rfl rfl ?_
    refine V_iadd dX12_say_22 ?_
    refine V_iload_n (j := 2) dX12_say_23 rfl rfl ?_
    refine V_if_eq (tgt := 31) dX12_say_24 (by decide) (fun h9 => ?_) (fun h9 => ?_)
    · have hf := it_t h9 hf
      refine V_iconst (v := (0 : Int32)) dX12_say_31 (by decide) ?_
      refine V_to [] rfl ?_
      exact vX12_say_J32 hn hf
    · have hf := it_f h9 hf
      refine V_iconst (v := (1 : Int32)) dX12_say_27 (by decide) ?_
      refine V_goto (tgt := 32) dX12_say_28 (by decide) ?_
      refine V_to [] rfl ?_
      exact vX12_say_J32 hn hf
  · have hf := it_t (Classical.not_not.mp h10) hf
    refine V_iconst (v := (0 : Int32)) dX12_say_13 (by decide) ?_
    exact V_ireturn dX12_say_14 rfl (by decide) (Nat.le_refl 0) (kI_of hf)
def wX12_cellsNow_J95 (n : Nat) (sh : Nat → Nat × Nat) (k4 : Nat → Int32 → Int32 → gS → Prop) (P : Int32 → gS → Prop) (a0 : Nat) (x2 : Int32) (s0 : Int32) (s1 : Int32) (z : gS) : Prop := ∀ v4 : Int32, v4 = (s1 ||| s0) → (∀ v5 : Int32, v5 = x2 + (1 : Int32) → k4 a0 v4 v5 z)
set_option maxRecDepth 100000 in
set_option maxHeartbeats 4000000 in
theorem vX12_cellsNow_J95 {E : gE} {n : Nat} {sh : Nat → Nat × Nat} {P : Int32 → gS → Prop} {k4 : Nat → Int32 → Int32 → gS → Prop} {a0 : Nat} {x2 : Int32} {s0 : Int32} {s1 : Int32} {z : gS} (hn : gOK E n) (hk4 : ∀ (a0 : Nat) (x1 : Int32) (x2 : Int32) (z : gS), k4 a0 x1 x2 z → V E (gR 3 0) gyX12_cellsNow 0 0 4 [(0, .ref a0), (1, .int x1), (2, .int x2)] [] n sh z (kI n sh P)) (hf : wX12_cellsNow_J95 n sh k4 P a0 x2 s0 s1 z) : V E (gR 3 0) gyX12_cellsNow 0 0 95 [(0, .ref a0), (2, .int x2)] [.int s0, .int s1] n sh z (kI n sh P) := by
  unfold wX12_cellsNow_J95 at hf
  refine V_ior dX12_cellsNow_95 ?_
  refine V_nI (fun v4 ev4 => ?_)
  have hf := hf v4 ev4
  refine V_istore_n (ls2 := [(1, .int v4), (0, .ref a0), (2, .int x2)]) dX12_cellsNow_96 rfl (by decide) rfl ?_
  obtain ⟨v5, ev5⟩ : ∃ y : Int32, y = x2 + (1 : Int32) := ⟨_, rfl⟩
  refine V_iinc (j := 2) (v := v5) (ls2 := [(2, .int v5), (1, .int v4), (0, .ref a0)]) dX12_cellsNow_97 rfl (by rw [ev5]; rfl) (by decide) rfl ?_
  have hf := hf v5 ev5
  refine V_goto (tgt := 4) dX12_cellsNow_100 (by decide) ?_
  refine V_to [2, 1, 0] rfl ?_
  exact hk4 _ _ _ _ hf
def wX12_cellsNow_J76 (n : Nat) (sh : Nat → Nat × Nat) (k4 : Nat → Int32 → Int32 → gS → Prop) (k15 : Nat → Int32 → Int32 → Int32 → Int32 → gS → Prop) (P : Int32 → gS → Prop) (a0 : Nat) (x1 : Int32) (x2 : Int32) (x4 : Int32) (s0 : Int32) (z : gS) : Prop := ∀ v7 : Int32, v7 = x4 + (1 : Int32) → k15 a0 x1 x2 s0 v7 z
set_option maxRecDepth 100000 in
set_option maxHeartbeats 4000000 in
theorem vX12_cellsNow_J76 {E : gE} {n : Nat} {sh : Nat → Nat × Nat} {P : Int32 → gS → Prop} {k4 : Nat → Int32 → Int32 → gS → Prop} {k15 : Nat → Int32 → Int32 → Int32 → Int32 → gS → Prop} {a0 : Nat} {x1 : Int32} {x2 : Int32} {x4 : Int32} {s0 : Int32} {z : gS} (hn : gOK E n) (hk4 : ∀ (a0 : Nat) (x1 : Int32) (x2 : Int32) (z : gS), k4 a0 x1 x2 z → V E (gR 3 0) gyX12_cellsNow 0 0 4 [(0, .ref a0), (1, .int x1), (2, .int x2)] [] n sh z (kI n sh P)) (hk15 : ∀ (a0 : Nat) (x1 : Int32) (x2 : Int32) (x3 : Int32) (x4 : Int32) (z : gS), k15 a0 x1 x2 x3 x4 z → V E (gR 3 0) gyX12_cellsNow 0 0 15 [(0, .ref a0), (1, .int x1), (2, .int x2), (3, .int x3), (4, .int x4)] [] n sh z (kI n sh P)) (hf : wX12_cellsNow_J76 n sh k4 k15 P a0 x1 x2 x4 s0 z) : V E (gR 3 0) gyX12_cellsNow 0 0 76 [(0, .ref a0), (1, .int x1), (2, .int x2), (4, .int x4)] [.int s0] n sh z (kI n sh P) := by
  unfold wX12_cellsNow_J76 at hf
  refine V_istore_n (ls2 := [(3, .int s0), (0, .ref a0), (1, .int x1), (2, .int x2), (4, .int x4)]) dX12_cellsNow_76 rfl (by decide) rfl ?_
  obtain ⟨v7, ev7⟩ : ∃ y : Int32, y = x4 + (1 : Int32) := ⟨_, rfl⟩
  refine V_iinc (j := 4) (v := v7) (ls2 := [(4, .int v7), (3, .int s0), (0, .ref a0), (1, .int x1), (2, .int x2)]) dX12_cellsNow_77 rfl (by rw [ev7]; rfl) (by decide) rfl ?_
  have hf := hf v7 ev7
  refine V_goto (tgt := 15) dX12_cellsNow_80 (by decide) ?_
  refine V_to [2, 3, 4, 1, 0] rfl ?_
  exact hk15 _ _ _ _ _ _ hf
def wX12_cellsNow_J75 (n : Nat) (sh : Nat → Nat × Nat) (k4 : Nat → Int32 → Int32 → gS → Prop) (k15 : Nat → Int32 → Int32 → Int32 → Int32 → gS → Prop) (P : Int32 → gS → Prop) (a0 : Nat) (x1 : Int32) (x2 : Int32) (x4 : Int32) (z : gS) : Prop := wX12_cellsNow_J76 n sh k4 k15 P a0 x1 x2 x4 (0 : Int32) z
set_option maxRecDepth 100000 in
set_option maxHeartbeats 4000000 in
theorem vX12_cellsNow_J75 {E : gE} {n : Nat} {sh : Nat → Nat × Nat} {P : Int32 → gS → Prop} {k4 : Nat → Int32 → Int32 → gS → Prop} {k15 : Nat → Int32 → Int32 → Int32 → Int32 → gS → Prop} {a0 : Nat} {x1 : Int32} {x2 : Int32} {x4 : Int32} {z : gS} (hn : gOK E n) (hk4 : ∀ (a0 : Nat) (x1 : Int32) (x2 : Int32) (z : gS), k4 a0 x1 x2 z → V E (gR 3 0) gyX12_cellsNow 0 0 4 [(0, .ref a0), (1, .int x1), (2, .int x2)] [] n sh z (kI n sh P)) (hk15 : ∀ (a0 : Nat) (x1 : Int32) (x2 : Int32) (x3 : Int32) (x4 : Int32) (z : gS), k15 a0 x1 x2 x3 x4 z → V E (gR 3 0) gyX12_cellsNow 0 0 15 [(0, .ref a0), (1, .int x1), (2, .int x2), (3, .int x3), (4, .int x4)] [] n sh z (kI n sh P)) (hf : wX12_cellsNow_J75 n sh k4 k15 P a0 x1 x2 x4 z) : V E (gR 3 0) gyX12_cellsNow 0 0 75 [(0, .ref a0), (1, .int x1), (2, .int x2), (4, .int x4)] [] n sh z (kI n sh P) := by
  unfold wX12_cellsNow_J75 at hf
  refine V_iconst (v := (0 : Int32)) dX12_cellsNow_75 (by decide) ?_
  exact vX12_cellsNow_J76 hn hk4 hk15 hf
def wX12_cellsNow_J71 (n : Nat) (sh : Nat → Nat × Nat) (k4 : Nat → Int32 → Int32 → gS → Prop) (k15 : Nat → Int32 → Int32 → Int32 → Int32 → gS → Prop) (P : Int32 → gS → Prop) (a0 : Nat) (x1 : Int32) (x2 : Int32) (x4 : Int32) (z : gS) : Prop := wX12_cellsNow_J76 n sh k4 k15 P a0 x1 x2 x4 (1 : Int32) z
set_option maxRecDepth 100000 in
set_option maxHeartbeats 4000000 in
theorem vX12_cellsNow_J71 {E : gE} {n : Nat} {sh : Nat → Nat × Nat} {P : Int32 → gS → Prop} {k4 : Nat → Int32 → Int32 → gS → Prop} {k15 : Nat → Int32 → Int32 → Int32 → Int32 → gS → Prop} {a0 : Nat} {x1 : Int32} {x2 : Int32} {x4 : Int32} {z : gS} (hn : gOK E n) (hk4 : ∀ (a0 : Nat) (x1 : Int32) (x2 : Int32) (z : gS), k4 a0 x1 x2 z → V E (gR 3 0) gyX12_cellsNow 0 0 4 [(0, .ref a0), (1, .int x1), (2, .int x2)] [] n sh z (kI n sh P)) (hk15 : ∀ (a0 : Nat) (x1 : Int32) (x2 : Int32) (x3 : Int32) (x4 : Int32) (z : gS), k15 a0 x1 x2 x3 x4 z → V E (gR 3 0) gyX12_cellsNow 0 0 15 [(0, .ref a0), (1, .int x1), (2, .int x2), (3, .int x3), (4, .int x4)] [] n sh z (kI n sh P)) (hf : wX12_cellsNow_J71 n sh k4 k15 P a0 x1 x2 x4 z) : V E (gR 3 0) gyX12_cellsNow 0 0 71 [(0, .ref a0), (1, .int x1), (2, .int x2), (4, .int x4)] [] n sh z (kI n sh P) := by
  unfold wX12_cellsNow_J71 at hf
  refine V_iconst (v := (1 : Int32)) dX12_cellsNow_71 (by decide) ?_
  refine V_goto (tgt := 76) dX12_cellsNow_72 (by decide) ?_
  exact vX12_cellsNow_J76 hn hk4 hk15 hf
def wX12_cellsNow_J68 (n : Nat) (sh : Nat → Nat × Nat) (k4 : Nat → Int32 → Int32 → gS → Prop) (k15 : Nat → Int32 → Int32 → Int32 → Int32 → gS → Prop) (P : Int32 → gS → Prop) (a0 : Nat) (x1 : Int32) (x2 : Int32) (x4 : Int32) (s0 : Int32) (s1 : Int32) (z : gS) : Prop := if s1 = s0 then wX12_cellsNow_J71 n sh k4 k15 P a0 x1 x2 x4 z else wX12_cellsNow_J75 n sh k4 k15 P a0 x1 x2 x4 z
set_option maxRecDepth 100000 in
set_option maxHeartbeats 4000000 in
theorem vX12_cellsNow_J68 {E : gE} {n : Nat} {sh : Nat → Nat × Nat} {P : Int32 → gS → Prop} {k4 : Nat → Int32 → Int32 → gS → Prop} {k15 : Nat → Int32 → Int32 → Int32 → Int32 → gS → Prop} {a0 : Nat} {x1 : Int32} {x2 : Int32} {x4 : Int32} {s0 : Int32} {s1 : Int32} {z : gS} (hn : gOK E n) (hk4 : ∀ (a0 : Nat) (x1 : Int32) (x2 : Int32) (z : gS), k4 a0 x1 x2 z → V E (gR 3 0) gyX12_cellsNow 0 0 4 [(0, .ref a0), (1, .int x1), (2, .int x2)] [] n sh z (kI n sh P)) (hk15 : ∀ (a0 : Nat) (x1 : Int32) (x2 : Int32) (x3 : Int32) (x4 : Int32) (z : gS), k15 a0 x1 x2 x3 x4 z → V E (gR 3 0) gyX12_cellsNow 0 0 15 [(0, .ref a0), (1, .int x1), (2, .int x2), (3, .int x3), (4, .int x4)] [] n sh z (kI n sh P)) (hf : wX12_cellsNow_J68 n sh k4 k15 P a0 x1 x2 x4 s0 s1 z) : V E (gR 3 0) gyX12_cellsNow 0 0 68 [(0, .ref a0), (1, .int x1), (2, .int x2), (4, .int x4)] [.int s0, .int s1] n sh z (kI n sh P) := by
  unfold wX12_cellsNow_J68 at hf
  refine V_icmp_ne (tgt := 75) dX12_cellsNow_68 (by decide) (fun h16 => ?_) (fun h16 => ?_)
  · have hf := it_f h16 hf
    exact vX12_cellsNow_J75 hn hk4 hk15 hf
  · have hf := it_t (Classical.not_not.mp h16) hf
    exact vX12_cellsNow_J71 hn hk4 hk15 hf
def wX12_cellsNow_B15 (n : Nat) (sh : Nat → Nat × Nat) (k4 : Nat → Int32 → Int32 → gS → Prop) (k15 : Nat → Int32 → Int32 → Int32 → Int32 → gS → Prop) (P : Int32 → gS → Prop) (a0 : Nat) (x1 : Int32) (x2 : Int32) (x3 : Int32) (x4 : Int32) (z : gS) : Prop := (oO n sh a0 8) ∧ (wX12_panes n sh a0 z (fun (r1 : Int32) (z2 : gS) => if r1 ≤ x4 then (if x3 = 0 then wX12_cellsNow_J95 n sh k4 P a0 x2 (0 : Int32) x1 z2 else wX12_cellsNow_J95 n sh k4 P a0 x2 ((1 : Int32) <<< (x2 &&& 31)) x1 z2) else (if x3 = 0 then wX12_cellsNow_J75 n sh k4 k15 P a0 x1 x2 x4 z2 else (∃ t8 : Nat, gr z2 a0 24 = some t8 ∧ ((oA n sh t8 1) ∧ ((vp_in ((60 : Int32) + x4) (sh t8).2) ∧ (if (gi z2 t8 ((60 : Int32) + x4).toNatClampNeg) < 0 then wX12_cellsNow_J71 n sh k4 k15 P a0 x1 x2 x4 z2 else (wX12_doesSee n sh a0 (0 : Int32) x4 x2 z2 (fun (r11 : Int32) (z12 : gS) => ∃ t13 : Nat, gr z12 a0 24 = some t13 ∧ ((oA n sh t13 1) ∧ ((vp_in ((60 : Int32) + x4) (sh t13).2) ∧ (if (gi z12 t13 ((60 : Int32) + x4).toNatClampNeg) = (1 : Int32) then wX12_cellsNow_J68 n sh k4 k15 P a0 x1 x2 x4 (1 : Int32) r11 z12 else wX12_cellsNow_J68 n sh k4 k15 P a0 x1 x2 x4 (0 : Int32) r11 z12))))))))))))
def wX12_cellsNow_L15 (n : Nat) (sh : Nat → Nat × Nat) (k4 : Nat → Int32 → Int32 → gS → Prop) (P : Int32 → gS → Prop) : Nat → Nat → Int32 → Int32 → Int32 → Int32 → gS → Prop
  | 0, _, _, _, _, _, _ => False
  | N + 1, a0, x1, x2, x3, x4, z => wX12_cellsNow_B15 n sh k4 (wX12_cellsNow_L15 n sh k4 P N) P a0 x1 x2 x3 x4 z
set_option maxRecDepth 100000 in
set_option maxHeartbeats 4000000 in
theorem vX12_cellsNow_B15 {E : gE} {n : Nat} {sh : Nat → Nat × Nat} {P : Int32 → gS → Prop} {k4 : Nat → Int32 → Int32 → gS → Prop} {k15 : Nat → Int32 → Int32 → Int32 → Int32 → gS → Prop} {a0 : Nat} {x1 : Int32} {x2 : Int32} {x3 : Int32} {x4 : Int32} {z : gS} (hn : gOK E n) (hk4 : ∀ (a0 : Nat) (x1 : Int32) (x2 : Int32) (z : gS), k4 a0 x1 x2 z → V E (gR 3 0) gyX12_cellsNow 0 0 4 [(0, .ref a0), (1, .int x1), (2, .int x2)] [] n sh z (kI n sh P)) (hk15 : ∀ (a0 : Nat) (x1 : Int32) (x2 : Int32) (x3 : Int32) (x4 : Int32) (z : gS), k15 a0 x1 x2 x3 x4 z → V E (gR 3 0) gyX12_cellsNow 0 0 15 [(0, .ref a0), (1, .int x1), (2, .int x2), (3, .int x3), (4, .int x4)] [] n sh z (kI n sh P)) (hf : wX12_cellsNow_B15 n sh k4 k15 P a0 x1 x2 x3 x4 z) : V E (gR 3 0) gyX12_cellsNow 0 0 15 [(0, .ref a0), (1, .int x1), (2, .int x2), (3, .int x3), (4, .int x4)] [] n sh z (kI n sh P) := by
  unfold wX12_cellsNow_B15 at hf
  refine V_iload (j := 4) dX12_cellsNow_15 rfl ?_
  refine V_aload_n (j := 0) dX12_cellsNow_17 rfl rfl ?_
  obtain ⟨h3, hf⟩ := hf
  refine V_cVI (ctX12_panes hn hf) gc_X12_278 rfl h3.1 ⟨_, h3.2, by decide, rfl⟩ ⟨by decide, by decide, Nat.zero_le _, Nat.zero_le _⟩ (Nat.le_of_ble_eq_true rfl) dX12_cellsNow_18 rfl hn (fun r1 z2 hf => ?_)
  refine V_icmp_ge (tgt := 83) dX12_cellsNow_21 (by decide) (fun h20 => ?_) (fun h20 => ?_)
  · have hf := it_t h20 hf
    refine V_iload_n (j := 1) dX12_cellsNow_83 rfl rfl ?_
    refine V_iload_n (j := 3) dX12_cellsNow_84 rfl rfl ?_
    refine V_if_eq (tgt := 94) dX12_cellsNow_85 (by decide) (fun h6 => ?_) (fun h6 => ?_)
    · have hf := it_t h6 hf
      refine V_iconst (v := (0 : Int32)) dX12_cellsNow_94 (by decide) ?_
      refine V_to [0, 2] rfl ?_
      exact vX12_cellsNow_J95 hn hk4 hf
    · have hf := it_f h6 hf
      refine V_iconst (v := (1 : Int32)) dX12_cellsNow_88 (by decide) ?_
      refine V_iload_n (j := 2) dX12_cellsNow_89 rfl rfl ?_
      refine V_ishl dX12_cellsNow_90 ?_
      refine V_goto (tgt := 95) dX12_cellsNow_91 (by decide) ?_
      refine V_to [0, 2] rfl ?_
      exact vX12_cellsNow_J95 hn hk4 hf
  · have hf := it_f h20 hf
    refine V_iload_n (j := 3) dX12_cellsNow_24 rfl rfl ?_
    refine V_if_eq (tgt := 75) dX12_cellsNow_25 (by decide) (fun h19 => ?_) (fun h19 => ?_)
    · have hf := it_t h19 hf
      refine V_to [0, 1, 2, 4] rfl ?_
      exact vX12_cellsNow_J75 hn hk4 hk15 hf
    · have hf := it_f h19 hf
      refine V_aload_n (j := 0) dX12_cellsNow_28 rfl rfl ?_
      obtain ⟨t8, et8, hf⟩ := hf
      refine V_getR fl_X12_119 rfl h3.1 h3.2 et8 dX12_cellsNow_29 ?_
      refine V_bipush (v := (60 : Int32)) dX12_cellsNow_32 (by decide) ?_
      refine V_iload (j := 4) dX12_cellsNow_34 rfl ?_
      refine V_iadd dX12_cellsNow_36 ?_
      obtain ⟨h9, hf⟩ := hf
      obtain ⟨h10, hf⟩ := hf
      refine V_iald h9.1 h9.s h10 dX12_cellsNow_37 ?_
      refine V_if_lt (tgt := 71) dX12_cellsNow_38 (by decide) (fun h18 => ?_) (fun h18 => ?_)
      · have hf := it_t h18 hf
        refine V_to [0, 1, 2, 4] rfl ?_
        exact vX12_cellsNow_J71 hn hk4 hk15 hf
      · have hf := it_f h18 hf
        refine V_aload_n (j := 0) dX12_cellsNow_41 rfl rfl ?_
        refine V_iconst (v := (0 : Int32)) dX12_cellsNow_42 (by decide) ?_
        refine V_iload (j := 4) dX12_cellsNow_43 rfl ?_
        refine V_iload_n (j := 2) dX12_cellsNow_45 rfl rfl ?_
        refine V_cVI (ctX12_doesSee hn hf) gc_X12_297 rfl h3.1 ⟨_, h3.2, by decide, rfl⟩ ⟨by decide, by decide, Nat.zero_le _, Nat.zero_le _⟩ (Nat.le_of_ble_eq_true rfl) dX12_cellsNow_46 rfl hn (fun r11 z12 hf => ?_)
        refine V_aload_n (j := 0) dX12_cellsNow_49 rfl rfl ?_
        obtain ⟨t13, et13, hf⟩ := hf
        refine V_getR fl_X12_119 rfl h3.1 h3.2 et13 dX12_cellsNow_50 ?_
        refine V_bipush (v := (60 : Int32)) dX12_cellsNow_53 (by decide) ?_
        refine V_iload (j := 4) dX12_cellsNow_55 rfl ?_
        refine V_iadd dX12_cellsNow_57 ?_
        obtain ⟨h14, hf⟩ := hf
        obtain ⟨h15, hf⟩ := hf
        refine V_iald h14.1 h14.s h15 dX12_cellsNow_58 ?_
        refine V_iconst (v := (1 : Int32)) dX12_cellsNow_59 (by decide) ?_
        refine V_icmp_ne (tgt := 67) dX12_cellsNow_60 (by decide) (fun h17 => ?_) (fun h17 => ?_)
        · have hf := it_f h17 hf
          refine V_iconst (v := (0 : Int32)) dX12_cellsNow_67 (by decide) ?_
          refine V_to [0, 1, 2, 4] rfl ?_
          exact vX12_cellsNow_J68 hn hk4 hk15 hf
        · have hf := it_t (Classical.not_not.mp h17) hf
          refine V_iconst (v := (1 : Int32)) dX12_cellsNow_63 (by decide) ?_
          refine V_goto (tgt := 68) dX12_cellsNow_64 (by decide) ?_
          refine V_to [0, 1, 2, 4] rfl ?_
          exact vX12_cellsNow_J68 hn hk4 hk15 hf
set_option maxRecDepth 100000 in
set_option maxHeartbeats 4000000 in
theorem vX12_cellsNow_L15 {E : gE} {n : Nat} {sh : Nat → Nat × Nat} {P : Int32 → gS → Prop} {k4 : Nat → Int32 → Int32 → gS → Prop} (hn : gOK E n) (hk4 : ∀ (a0 : Nat) (x1 : Int32) (x2 : Int32) (z : gS), k4 a0 x1 x2 z → V E (gR 3 0) gyX12_cellsNow 0 0 4 [(0, .ref a0), (1, .int x1), (2, .int x2)] [] n sh z (kI n sh P)) : ∀ (N : Nat) (a0 : Nat) (x1 : Int32) (x2 : Int32) (x3 : Int32) (x4 : Int32) (z : gS), wX12_cellsNow_L15 n sh k4 P N a0 x1 x2 x3 x4 z → V E (gR 3 0) gyX12_cellsNow 0 0 15 [(0, .ref a0), (1, .int x1), (2, .int x2), (3, .int x3), (4, .int x4)] [] n sh z (kI n sh P) := by
  intro N
  induction N with
  | zero => intro a0 x1 x2 x3 x4 z hf; exact False.elim hf
  | succ N ih => intro a0 x1 x2 x3 x4 z hf; exact vX12_cellsNow_B15 hn hk4 ih hf
def wX12_cellsNow_B4 (n : Nat) (sh : Nat → Nat × Nat) (k4 : Nat → Int32 → Int32 → gS → Prop) (P : Int32 → gS → Prop) (a0 : Nat) (x1 : Int32) (x2 : Int32) (z : gS) : Prop := if (10 : Int32) ≤ x2 then P x1 z else ((∃ N, wX12_cellsNow_L15 n sh k4 P N a0 x1 x2 (1 : Int32) (0 : Int32) z))
def wX12_cellsNow_L4 (n : Nat) (sh : Nat → Nat × Nat) (P : Int32 → gS → Prop) : Nat → Nat → Int32 → Int32 → gS → Prop
  | 0, _, _, _, _ => False
  | N + 1, a0, x1, x2, z => wX12_cellsNow_B4 n sh (wX12_cellsNow_L4 n sh P N) P a0 x1 x2 z
set_option maxRecDepth 100000 in
set_option maxHeartbeats 4000000 in
theorem vX12_cellsNow_B4 {E : gE} {n : Nat} {sh : Nat → Nat × Nat} {P : Int32 → gS → Prop} {k4 : Nat → Int32 → Int32 → gS → Prop} {a0 : Nat} {x1 : Int32} {x2 : Int32} {z : gS} (hn : gOK E n) (hk4 : ∀ (a0 : Nat) (x1 : Int32) (x2 : Int32) (z : gS), k4 a0 x1 x2 z → V E (gR 3 0) gyX12_cellsNow 0 0 4 [(0, .ref a0), (1, .int x1), (2, .int x2)] [] n sh z (kI n sh P)) (hf : wX12_cellsNow_B4 n sh k4 P a0 x1 x2 z) : V E (gR 3 0) gyX12_cellsNow 0 0 4 [(0, .ref a0), (1, .int x1), (2, .int x2)] [] n sh z (kI n sh P) := by
  unfold wX12_cellsNow_B4 at hf
  refine V_iload_n (j := 2) dX12_cellsNow_4 rfl rfl ?_
  refine V_bipush (v := (10 : Int32)) dX12_cellsNow_5 (by decide) ?_
  refine V_icmp_ge (tgt := 103) dX12_cellsNow_7 (by decide) (fun h21 => ?_) (fun h21 => ?_)
  · have hf := it_t h21 hf
    refine V_iload_n (j := 1) dX12_cellsNow_103 rfl rfl ?_
    exact V_ireturn dX12_cellsNow_104 rfl rfl (Nat.le_refl 0) (kI_of hf)
  · have hf := it_f h21 hf
    refine V_iconst (v := (1 : Int32)) dX12_cellsNow_10 (by decide) ?_
    refine V_istore_n (ls2 := [(3, .int (1 : Int32)), (0, .ref a0), (1, .int x1), (2, .int x2)]) dX12_cellsNow_11 rfl (by decide) rfl ?_
    refine V_iconst (v := (0 : Int32)) dX12_cellsNow_12 (by decide) ?_
    refine V_istore (ls2 := [(4, .int (0 : Int32)), (3, .int (1 : Int32)), (0, .ref a0), (1, .int x1), (2, .int x2)]) dX12_cellsNow_13 (by decide) rfl ?_
    obtain ⟨N, hf⟩ := hf
    refine V_to [2, 3, 4, 1, 0] rfl ?_
    exact vX12_cellsNow_L15 hn hk4 N _ _ _ _ _ _ hf
set_option maxRecDepth 100000 in
set_option maxHeartbeats 4000000 in
theorem vX12_cellsNow_L4 {E : gE} {n : Nat} {sh : Nat → Nat × Nat} {P : Int32 → gS → Prop} (hn : gOK E n) : ∀ (N : Nat) (a0 : Nat) (x1 : Int32) (x2 : Int32) (z : gS), wX12_cellsNow_L4 n sh P N a0 x1 x2 z → V E (gR 3 0) gyX12_cellsNow 0 0 4 [(0, .ref a0), (1, .int x1), (2, .int x2)] [] n sh z (kI n sh P) := by
  intro N
  induction N with
  | zero => intro a0 x1 x2 z hf; exact False.elim hf
  | succ N ih => intro a0 x1 x2 z hf; exact vX12_cellsNow_B4 hn ih hf
def wX12_cellsNow (n : Nat) (sh : Nat → Nat × Nat) (a0 : Nat) (z : gS) (P : Int32 → gS → Prop) : Prop := (∃ N, wX12_cellsNow_L4 n sh P N a0 (0 : Int32) (0 : Int32) z)
set_option maxRecDepth 100000 in
set_option maxHeartbeats 4000000 in
theorem ctX12_cellsNow {E : gE} {n : Nat} {sh : Nat → Nat × Nat} {a0 : Nat} {z : gS} {P : Int32 → gS → Prop} (hn : gOK E n) (hf : wX12_cellsNow n sh a0 z P) : VM E 3 0 gyX12_cellsNow [.ref a0] n sh z (kI n sh P) := by
  unfold wX12_cellsNow at hf
  refine VM.of (by decide +kernel) (Nat.le_of_ble_eq_true rfl) (fun _ _ _ h => h.2.2) ?_
  show V E (gR 3 0) gyX12_cellsNow 0 0 0 [(0, .ref a0)] [] n sh z (kI n sh P)
  refine V_iconst (v := (0 : Int32)) dX12_cellsNow_0 (by decide) ?_
  refine V_istore_n (ls2 := [(1, .int (0 : Int32)), (0, .ref a0)]) dX12_cellsNow_1 rfl (by decide) rfl ?_
  refine V_iconst (v := (0 : Int32)) dX12_cellsNow_2 (by decide) ?_
  refine V_istore_n (ls2 := [(2, .int (0 : Int32)), (1, .int (0 : Int32)), (0, .ref a0)]) dX12_cellsNow_3 rfl (by decide) rfl ?_
  obtain ⟨N, hf⟩ := hf
  refine V_to [2, 1, 0] rfl ?_
  exact vX12_cellsNow_L4 hn N _ _ _ _ hf
def wX12_where (n : Nat) (sh : Nat → Nat × Nat) (a0 : Nat) (z : gS) (P : Int32 → gS → Prop) : Prop := (oO n sh a0 8) ∧ (∀ z2 : gS, z2 = si z a0 0 (0 : Int32) → (wX12_cellsNow n sh a0 z2 (fun (r3 : Int32) (z4 : gS) => P r3 z4)))
set_option maxRecDepth 100000 in
set_option maxHeartbeats 4000000 in
theorem ctX12_where {E : gE} {n : Nat} {sh : Nat → Nat × Nat} {a0 : Nat} {z : gS} {P : Int32 → gS → Prop} (hn : gOK E n) (hf : wX12_where n sh a0 z P) : VM E 4 0 gyX12_where [.ref a0] n sh z (kI n sh P) := by
  unfold wX12_where at hf
  refine VM.of (by decide +kernel) (Nat.le_of_ble_eq_true rfl) (fun _ _ _ h => h.2.2) ?_
  show V E (gR 4 0) gyX12_where 0 0 0 [(0, .ref a0)] [] n sh z (kI n sh P)
  refine V_aload_n (j := 0) dX12_where_0 rfl rfl ?_
  refine V_iconst (v := (0 : Int32)) dX12_where_1 (by decide) ?_
  obtain ⟨h1, hf⟩ := hf
  refine V_putI fl_X12_1 rfl rfl rfl rfl h1.1 h1.2 dX12_where_2 ?_
  refine V_nz (fun z2 ez2 => ?_)
  have hf := hf z2 ez2
  refine V_aload_n (j := 0) dX12_where_5 rfl rfl ?_
  refine V_cVI (ctX12_cellsNow hn hf) gc_X12_377 rfl h1.1 ⟨_, h1.2, by decide, rfl⟩ ⟨by decide, by decide, Nat.zero_le _, Nat.zero_le _⟩ (Nat.le_of_ble_eq_true rfl) dX12_where_6 rfl hn (fun r3 z4 hf => ?_)
  exact V_ireturn dX12_where_9 rfl rfl (Nat.le_refl 0) (kI_of hf)
def wX12_ask_J118 (n : Nat) (sh : Nat → Nat × Nat) (k20 : Nat → Int32 → Int32 → Int32 → Int32 → gS → Prop) (P : Int32 → gS → Prop) (a0 : Nat) (x1 : Int32) (x2 : Int32) (x4 : Int32) (s0 : Int32) (z : gS) : Prop := ∀ v22 : Int32, v22 = x4 + (1 : Int32) → k20 a0 x1 x2 s0 v22 z
set_option maxRecDepth 100000 in
set_option maxHeartbeats 4000000 in
theorem vX12_ask_J118 {E : gE} {n : Nat} {sh : Nat → Nat × Nat} {P : Int32 → gS → Prop} {k20 : Nat → Int32 → Int32 → Int32 → Int32 → gS → Prop} {a0 : Nat} {x1 : Int32} {x2 : Int32} {x4 : Int32} {s0 : Int32} {z : gS} (hn : gOK E n) (hk20 : ∀ (a0 : Nat) (x1 : Int32) (x2 : Int32) (x3 : Int32) (x4 : Int32) (z : gS), k20 a0 x1 x2 x3 x4 z → V E (gR 4 0) gyX12_ask 0 0 20 [(0, .ref a0), (1, .int x1), (2, .int x2), (3, .int x3), (4, .int x4)] [] n sh z (kI n sh P)) (hf : wX12_ask_J118 n sh k20 P a0 x1 x2 x4 s0 z) : V E (gR 4 0) gyX12_ask 0 0 118 [(0, .ref a0), (1, .int x1), (2, .int x2), (4, .int x4)] [.int s0] n sh z (kI n sh P) := by
  unfold wX12_ask_J118 at hf
  refine V_istore_n (ls2 := [(3, .int s0), (0, .ref a0), (1, .int x1), (2, .int x2), (4, .int x4)]) dX12_ask_118 rfl (by decide) rfl ?_
  obtain ⟨v22, ev22⟩ : ∃ y : Int32, y = x4 + (1 : Int32) := ⟨_, rfl⟩
  refine V_iinc (j := 4) (v := v22) (ls2 := [(4, .int v22), (3, .int s0), (0, .ref a0), (1, .int x1), (2, .int x2)]) dX12_ask_119 rfl (by rw [ev22]; rfl) (by decide) rfl ?_
  have hf := hf v22 ev22
  refine V_goto (tgt := 20) dX12_ask_122 (by decide) ?_
  refine V_to [2, 3, 4, 1, 0] rfl ?_
  exact hk20 _ _ _ _ _ _ hf
def wX12_ask_J106 (n : Nat) (sh : Nat → Nat × Nat) (k20 : Nat → Int32 → Int32 → Int32 → Int32 → gS → Prop) (P : Int32 → gS → Prop) (a0 : Nat) (x1 : Int32) (x3 : Int32) (x4 : Int32) (x6 : Int32) (x7 : Int32) (s0 : Int32) (z : gS) : Prop := if x7 = 0 then wX12_ask_J118 n sh k20 P a0 x1 s0 x4 x3 z else wX12_ask_J118 n sh k20 P a0 x1 s0 x4 x6 z
set_option maxRecDepth 100000 in
set_option maxHeartbeats 4000000 in
theorem vX12_ask_J106 {E : gE} {n : Nat} {sh : Nat → Nat × Nat} {P : Int32 → gS → Prop} {k20 : Nat → Int32 → Int32 → Int32 → Int32 → gS → Prop} {a0 : Nat} {x1 : Int32} {x3 : Int32} {x4 : Int32} {x6 : Int32} {x7 : Int32} {s0 : Int32} {z : gS} (hn : gOK E n) (hk20 : ∀ (a0 : Nat) (x1 : Int32) (x2 : Int32) (x3 : Int32) (x4 : Int32) (z : gS), k20 a0 x1 x2 x3 x4 z → V E (gR 4 0) gyX12_ask 0 0 20 [(0, .ref a0), (1, .int x1), (2, .int x2), (3, .int x3), (4, .int x4)] [] n sh z (kI n sh P)) (hf : wX12_ask_J106 n sh k20 P a0 x1 x3 x4 x6 x7 s0 z) : V E (gR 4 0) gyX12_ask 0 0 106 [(0, .ref a0), (1, .int x1), (3, .int x3), (4, .int x4), (6, .int x6), (7, .int x7)] [.int s0] n sh z (kI n sh P) := by
  unfold wX12_ask_J106 at hf
  refine V_istore_n (ls2 := [(2, .int s0), (0, .ref a0), (1, .int x1), (3, .int x3), (4, .int x4), (6, .int x6), (7, .int x7)]) dX12_ask_106 rfl (by decide) rfl ?_
  refine V_iload (j := 6) dX12_ask_107 rfl ?_
  refine V_if_eq (tgt := 117) dX12_ask_109 (by decide) (fun h23 => ?_) (fun h23 => ?_)
  · have hf := it_t h23 hf
    refine V_iload_n (j := 3) dX12_ask_117 rfl rfl ?_
    refine V_to [1, 2, 0, 4] rfl ?_
    exact vX12_ask_J118 hn hk20 hf
  · have hf := it_f h23 hf
    refine V_iload (j := 5) dX12_ask_112 rfl ?_
    refine V_goto (tgt := 118) dX12_ask_114 (by decide) ?_
    refine V_to [1, 2, 0, 4] rfl ?_
    exact vX12_ask_J118 hn hk20 hf
def wX12_ask_J93 (n : Nat) (sh : Nat → Nat × Nat) (k20 : Nat → Int32 → Int32 → Int32 → Int32 → gS → Prop) (P : Int32 → gS → Prop) (a0 : Nat) (x1 : Int32) (x2 : Int32) (x3 : Int32) (x4 : Int32) (x6 : Int32) (s0 : Int32) (z : gS) : Prop := if s0 = 0 then wX12_ask_J106 n sh k20 P a0 x1 x3 x4 x6 s0 x2 z else wX12_ask_J106 n sh k20 P a0 x1 x3 x4 x6 s0 x4 z
set_option maxRecDepth 100000 in
set_option maxHeartbeats 4000000 in
theorem vX12_ask_J93 {E : gE} {n : Nat} {sh : Nat → Nat × Nat} {P : Int32 → gS → Prop} {k20 : Nat → Int32 → Int32 → Int32 → Int32 → gS → Prop} {a0 : Nat} {x1 : Int32} {x2 : Int32} {x3 : Int32} {x4 : Int32} {x6 : Int32} {s0 : Int32} {z : gS} (hn : gOK E n) (hk20 : ∀ (a0 : Nat) (x1 : Int32) (x2 : Int32) (x3 : Int32) (x4 : Int32) (z : gS), k20 a0 x1 x2 x3 x4 z → V E (gR 4 0) gyX12_ask 0 0 20 [(0, .ref a0), (1, .int x1), (2, .int x2), (3, .int x3), (4, .int x4)] [] n sh z (kI n sh P)) (hf : wX12_ask_J93 n sh k20 P a0 x1 x2 x3 x4 x6 s0 z) : V E (gR 4 0) gyX12_ask 0 0 93 [(0, .ref a0), (1, .int x1), (2, .int x2), (3, .int x3), (4, .int x4), (6, .int x6)] [.int s0] n sh z (kI n sh P) := by
  unfold wX12_ask_J93 at hf
  refine V_istore (ls2 := [(7, .int s0), (0, .ref a0), (1, .int x1), (2, .int x2), (3, .int x3), (4, .int x4), (6, .int x6)]) dX12_ask_93 (by decide) rfl ?_
  refine V_iload (j := 0) dX12_ask_95 rfl ?_
  refine V_if_eq (tgt := 105) dX12_ask_97 (by decide) (fun h24 => ?_) (fun h24 => ?_)
  · have hf := it_t h24 hf
    refine V_iload_n (j := 3) dX12_ask_105 rfl rfl ?_
    refine V_to [1, 2, 4, 5, 6, 0] rfl ?_
    exact vX12_ask_J106 hn hk20 hf
  · have hf := it_f h24 hf
    refine V_iload (j := 5) dX12_ask_100 rfl ?_
    refine V_goto (tgt := 106) dX12_ask_102 (by decide) ?_
    refine V_to [1, 2, 4, 5, 6, 0] rfl ?_
    exact vX12_ask_J106 hn hk20 hf
def wX12_ask_J92 (n : Nat) (sh : Nat → Nat × Nat) (k20 : Nat → Int32 → Int32 → Int32 → Int32 → gS → Prop) (P : Int32 → gS → Prop) (a0 : Nat) (x1 : Int32) (x2 : Int32) (x3 : Int32) (x4 : Int32) (x6 : Int32) (z : gS) : Prop := wX12_ask_J93 n sh k20 P a0 x1 x2 x3 x4 x6 (0 : Int32) z
set_option maxRecDepth 100000 in
set_option maxHeartbeats 4000000 in
theorem vX12_ask_J92 {E : gE} {n : Nat} {sh : Nat → Nat × Nat} {P : Int32 → gS → Prop} {k20 : Nat → Int32 → Int32 → Int32 → Int32 → gS → Prop} {a0 : Nat} {x1 : Int32} {x2 : Int32} {x3 : Int32} {x4 : Int32} {x6 : Int32} {z : gS} (hn : gOK E n) (hk20 : ∀ (a0 : Nat) (x1 : Int32) (x2 : Int32) (x3 : Int32) (x4 : Int32) (z : gS), k20 a0 x1 x2 x3 x4 z → V E (gR 4 0) gyX12_ask 0 0 20 [(0, .ref a0), (1, .int x1), (2, .int x2), (3, .int x3), (4, .int x4)] [] n sh z (kI n sh P)) (hf : wX12_ask_J92 n sh k20 P a0 x1 x2 x3 x4 x6 z) : V E (gR 4 0) gyX12_ask 0 0 92 [(0, .ref a0), (1, .int x1), (2, .int x2), (3, .int x3), (4, .int x4), (6, .int x6)] [] n sh z (kI n sh P) := by
  unfold wX12_ask_J92 at hf
  refine V_iconst (v := (0 : Int32)) dX12_ask_92 (by decide) ?_
  exact vX12_ask_J93 hn hk20 hf
def wX12_ask_J67 (n : Nat) (sh : Nat → Nat × Nat) (k20 : Nat → Int32 → Int32 → Int32 → Int32 → gS → Prop) (P : Int32 → gS → Prop) (a0 : Nat) (x1 : Int32) (x2 : Int32) (x3 : Int32) (x4 : Int32) (s0 : Int32) (z : gS) : Prop := (oO n sh a0 8) ∧ (∃ t19 : Nat, gr z a0 24 = some t19 ∧ ((oA n sh t19 1) ∧ ((vp_in ((60 : Int32) + x4) (sh t19).2) ∧ (if 0 ≤ (gi z t19 ((60 : Int32) + x4).toNatClampNeg) then wX12_ask_J92 n sh k20 P a0 x1 x2 x3 x4 s0 z else (if x3 ≤ s0 then wX12_ask_J92 n sh k20 P a0 x1 x2 x3 x4 s0 z else wX12_ask_J93 n sh k20 P a0 x1 x2 x3 x4 s0 (1 : Int32) z)))))
set_option maxRecDepth 100000 in
set_option maxHeartbeats 4000000 in
theorem vX12_ask_J67 {E : gE} {n : Nat} {sh : Nat → Nat × Nat} {P : Int32 → gS → Prop} {k20 : Nat → Int32 → Int32 → Int32 → Int32 → gS → Prop} {a0 : Nat} {x1 : Int32} {x2 : Int32} {x3 : Int32} {x4 : Int32} {s0 : Int32} {z : gS} (hn : gOK E n) (hk20 : ∀ (a0 : Nat) (x1 : Int32) (x2 : Int32) (x3 : Int32) (x4 : Int32) (z : gS), k20 a0 x1 x2 x3 x4 z → V E (gR 4 0) gyX12_ask 0 0 20 [(0, .ref a0), (1, .int x1), (2, .int x2), (3, .int x3), (4, .int x4)] [] n sh z (kI n sh P)) (hf : wX12_ask_J67 n sh k20 P a0 x1 x2 x3 x4 s0 z) : V E (gR 4 0) gyX12_ask 0 0 67 [(0, .ref a0), (1, .int x1), (2, .int x2), (3, .int x3), (4, .int x4)] [.int s0] n sh z (kI n sh P) := by
  unfold wX12_ask_J67 at hf
  refine V_istore (ls2 := [(6, .int s0), (0, .ref a0), (1, .int x1), (2, .int x2), (3, .int x3), (4, .int x4)]) dX12_ask_67 (by decide) rfl ?_
  refine V_aload_n (j := 1) dX12_ask_69 rfl rfl ?_
  obtain ⟨h18, hf⟩ := hf
  obtain ⟨t19, et19, hf⟩ := hf
  refine V_getR fl_X12_119 rfl h18.1 h18.2 et19 dX12_ask_70 ?_
  refine V_bipush (v := (60 : Int32)) dX12_ask_73 (by decide) ?_
  refine V_iload (j := 5) dX12_ask_75 rfl ?_
  refine V_iadd dX12_ask_77 ?_
  obtain ⟨h20, hf⟩ := hf
  obtain ⟨h21, hf⟩ := hf
  refine V_iald h20.1 h20.s h21 dX12_ask_78 ?_
  refine V_if_ge (tgt := 92) dX12_ask_79 (by decide) (fun h26 => ?_) (fun h26 => ?_)
  · have hf := it_t h26 hf
    refine V_to [1, 2, 3, 4, 5, 0] rfl ?_
    exact vX12_ask_J92 hn hk20 hf
  · have hf := it_f h26 hf
    refine V_iload (j := 0) dX12_ask_82 rfl ?_
    refine V_iload_n (j := 4) dX12_ask_84 rfl rfl ?_
    refine V_icmp_ge (tgt := 92) dX12_ask_85 (by decide) (fun h25 => ?_) (fun h25 => ?_)
    · have hf := it_t h25 hf
      refine V_to [1, 2, 3, 4, 5, 0] rfl ?_
      exact vX12_ask_J92 hn hk20 hf
    · have hf := it_f h25 hf
      refine V_iconst (v := (1 : Int32)) dX12_ask_88 (by decide) ?_
      refine V_goto (tgt := 93) dX12_ask_89 (by decide) ?_
      refine V_to [1, 2, 3, 4, 5, 0] rfl ?_
      exact vX12_ask_J93 hn hk20 hf
def wX12_ask_B20 (n : Nat) (sh : Nat → Nat × Nat) (k20 : Nat → Int32 → Int32 → Int32 → Int32 → gS → Prop) (P : Int32 → gS → Prop) (a0 : Nat) (x1 : Int32) (x2 : Int32) (x3 : Int32) (x4 : Int32) (z : gS) : Prop := (oO n sh a0 8) ∧ (wX12_panes n sh a0 z (fun (r7 : Int32) (z8 : gS) => if r7 ≤ x4 then P x2 z8 else (wX12_sightOf n sh a0 (0 : Int32) x4 z8 (fun (r10 : Int32) (z11 : gS) => wX12_bits n sh (x1 &&& r10) z11 (fun (r12 : Int32) (z13 : gS) => wX12_bits n sh x1 z13 (fun (r14 : Int32) (z15 : gS) => if r12 ≤ (r14 - r12) then (wX12_bits n sh x1 z15 (fun (r16 : Int32) (z17 : gS) => wX12_ask_J67 n sh k20 P a0 x1 x2 x3 x4 (r16 - r12) z17)) else wX12_ask_J67 n sh k20 P a0 x1 x2 x3 x4 r12 z15))))))
def wX12_ask_L20 (n : Nat) (sh : Nat → Nat × Nat) (P : Int32 → gS → Prop) : Nat → Nat → Int32 → Int32 → Int32 → Int32 → gS → Prop
  | 0, _, _, _, _, _, _ => False
  | N + 1, a0, x1, x2, x3, x4, z => wX12_ask_B20 n sh (wX12_ask_L20 n sh P N) P a0 x1 x2 x3 x4 z
set_option maxRecDepth 100000 in
set_option maxHeartbeats 4000000 in
theorem vX12_ask_B20 {E : gE} {n : Nat} {sh : Nat → Nat × Nat} {P : Int32 → gS → Prop} {k20 : Nat → Int32 → Int32 → Int32 → Int32 → gS → Prop} {a0 : Nat} {x1 : Int32} {x2 : Int32} {x3 : Int32} {x4 : Int32} {z : gS} (hn : gOK E n) (hk20 : ∀ (a0 : Nat) (x1 : Int32) (x2 : Int32) (x3 : Int32) (x4 : Int32) (z : gS), k20 a0 x1 x2 x3 x4 z → V E (gR 4 0) gyX12_ask 0 0 20 [(0, .ref a0), (1, .int x1), (2, .int x2), (3, .int x3), (4, .int x4)] [] n sh z (kI n sh P)) (hf : wX12_ask_B20 n sh k20 P a0 x1 x2 x3 x4 z) : V E (gR 4 0) gyX12_ask 0 0 20 [(0, .ref a0), (1, .int x1), (2, .int x2), (3, .int x3), (4, .int x4)] [] n sh z (kI n sh P) := by
  unfold wX12_ask_B20 at hf
  refine V_iload (j := 4) dX12_ask_20 rfl ?_
  refine V_aload_n (j := 0) dX12_ask_22 rfl rfl ?_
  obtain ⟨h9, hf⟩ := hf
  refine V_cVI (ctX12_panes hn hf) gc_X12_278 rfl h9.1 ⟨_, h9.2, by decide, rfl⟩ ⟨by decide, by decide, Nat.zero_le _, Nat.zero_le _⟩ (Nat.le_of_ble_eq_true rfl) dX12_ask_23 rfl hn (fun r7 z8 hf => ?_)
  refine V_icmp_ge (tgt := 125) dX12_ask_26 (by decide) (fun h28 => ?_) (fun h28 => ?_)
  · have hf := it_t h28 hf
    refine V_iload_n (j := 2) dX12_ask_125 rfl rfl ?_
    exact V_ireturn dX12_ask_126 rfl rfl (Nat.le_refl 0) (kI_of hf)
  · have hf := it_f h28 hf
    refine V_iload_n (j := 1) dX12_ask_29 rfl rfl ?_
    refine V_aload_n (j := 0) dX12_ask_30 rfl rfl ?_
    refine V_iconst (v := (0 : Int32)) dX12_ask_31 (by decide) ?_
    refine V_iload (j := 4) dX12_ask_32 rfl ?_
    refine V_cVI (ctX12_sightOf hn hf) gc_X12_294 rfl h9.1 ⟨_, h9.2, by decide, rfl⟩ ⟨by decide, by decide, Nat.zero_le _, Nat.zero_le _⟩ (Nat.le_of_ble_eq_true rfl) dX12_ask_34 rfl hn (fun r10 z11 hf => ?_)
    refine V_iand dX12_ask_37 ?_
    refine V_cSI (ctX12_bits hn hf) gc_X12_374 rfl ⟨by decide, by decide, Nat.zero_le _, Nat.zero_le _⟩ (Nat.le_of_ble_eq_true rfl) dX12_ask_38 rfl hn (fun r12 z13 hf => ?_)
    refine V_istore (ls2 := [(5, .int r12), (0, .ref a0), (1, .int x1), (2, .int x2), (3, .int x3), (4, .int x4)]) dX12_ask_41 (by decide) rfl ?_
    refine V_iload (j := 0) dX12_ask_43 rfl ?_
    refine V_iload_n (j := 2) dX12_ask_45 rfl rfl ?_
    refine V_cSI (ctX12_bits hn hf) gc_X12_374 rfl ⟨by decide, by decide, Nat.zero_le _, Nat.zero_le _⟩ (Nat.le_of_ble_eq_true rfl) dX12_ask_46 rfl hn (fun r14 z15 hf => ?_)
    refine V_iload (j := 0) dX12_ask_49 rfl ?_
    refine V_isub dX12_ask_51 ?_
    refine V_icmp_le (tgt := 60) dX12_ask_52 (by decide) (fun h27 => ?_) (fun h27 => ?_)
    · have hf := it_t h27 hf
      refine V_iload_n (j := 2) dX12_ask_60 rfl rfl ?_
      refine V_cSI (ctX12_bits hn hf) gc_X12_374 rfl ⟨by decide, by decide, Nat.zero_le _, Nat.zero_le _⟩ (Nat.le_of_ble_eq_true rfl) dX12_ask_61 rfl hn (fun r16 z17 hf => ?_)
      refine V_iload (j := 0) dX12_ask_64 rfl ?_
      refine V_isub dX12_ask_66 ?_
      refine V_to [1, 2, 3, 4, 5] rfl ?_
      exact vX12_ask_J67 hn hk20 hf
    · have hf := it_f h27 hf
      refine V_iload (j := 0) dX12_ask_55 rfl ?_
      refine V_goto (tgt := 67) dX12_ask_57 (by decide) ?_
      refine V_to [1, 2, 3, 4, 5] rfl ?_
      exact vX12_ask_J67 hn hk20 hf
set_option maxRecDepth 100000 in
set_option maxHeartbeats 4000000 in
theorem vX12_ask_L20 {E : gE} {n : Nat} {sh : Nat → Nat × Nat} {P : Int32 → gS → Prop} (hn : gOK E n) : ∀ (N : Nat) (a0 : Nat) (x1 : Int32) (x2 : Int32) (x3 : Int32) (x4 : Int32) (z : gS), wX12_ask_L20 n sh P N a0 x1 x2 x3 x4 z → V E (gR 4 0) gyX12_ask 0 0 20 [(0, .ref a0), (1, .int x1), (2, .int x2), (3, .int x3), (4, .int x4)] [] n sh z (kI n sh P) := by
  intro N
  induction N with
  | zero => intro a0 x1 x2 x3 x4 z hf; exact False.elim hf
  | succ N ih => intro a0 x1 x2 x3 x4 z hf; exact vX12_ask_B20 hn ih hf
def wX12_ask (n : Nat) (sh : Nat → Nat × Nat) (a0 : Nat) (z : gS) (P : Int32 → gS → Prop) : Prop := (oO n sh a0 8) ∧ (∀ z2 : gS, z2 = si z a0 0 (0 : Int32) → (wX12_cellsNow n sh a0 z2 (fun (r3 : Int32) (z4 : gS) => wX12_bits n sh r3 z4 (fun (r5 : Int32) (z6 : gS) => (∃ N, wX12_ask_L20 n sh P N a0 r3 (-1 : Int32) r5 (0 : Int32) z6)))))
set_option maxRecDepth 100000 in
set_option maxHeartbeats 4000000 in
theorem ctX12_ask {E : gE} {n : Nat} {sh : Nat → Nat × Nat} {a0 : Nat} {z : gS} {P : Int32 → gS → Prop} (hn : gOK E n) (hf : wX12_ask n sh a0 z P) : VM E 4 0 gyX12_ask [.ref a0] n sh z (kI n sh P) := by
  unfold wX12_ask at hf
  refine VM.of (by decide +kernel) (Nat.le_of_ble_eq_true rfl) (fun _ _ _ h => h.2.2) ?_
  show V E (gR 4 0) gyX12_ask 0 0 0 [(0, .ref a0)] [] n sh z (kI n sh P)
  refine V_aload_n (j := 0) dX12_ask_0 rfl rfl ?_
  refine V_iconst (v := (0 : Int32)) dX12_ask_1 (by decide) ?_
  obtain ⟨h1, hf⟩ := hf
  refine V_putI fl_X12_1 rfl rfl rfl rfl h1.1 h1.2 dX12_ask_2 ?_
  refine V_nz (fun z2 ez2 => ?_)
  have hf := hf z2 ez2
  refine V_aload_n (j := 0) dX12_ask_5 rfl rfl ?_
  refine V_cVI (ctX12_cellsNow hn hf) gc_X12_377 rfl h1.1 ⟨_, h1.2, by decide, rfl⟩ ⟨by decide, by decide, Nat.zero_le _, Nat.zero_le _⟩ (Nat.le_of_ble_eq_true rfl) dX12_ask_6 rfl hn (fun r3 z4 hf => ?_)
  refine V_istore_n (ls2 := [(1, .int r3), (0, .ref a0)]) dX12_ask_9 rfl (by decide) rfl ?_
  refine V_iconst (v := (-1 : Int32)) dX12_ask_10 (by decide) ?_
  refine V_istore_n (ls2 := [(2, .int (-1 : Int32)), (1, .int r3), (0, .ref a0)]) dX12_ask_11 rfl (by decide) rfl ?_
  refine V_iload_n (j := 1) dX12_ask_12 rfl rfl ?_
  refine V_cSI (ctX12_bits hn hf) gc_X12_374 rfl ⟨by decide, by decide, Nat.zero_le _, Nat.zero_le _⟩ (Nat.le_of_ble_eq_true rfl) dX12_ask_13 rfl hn (fun r5 z6 hf => ?_)
  refine V_istore_n (ls2 := [(3, .int r5), (2, .int (-1 : Int32)), (1, .int r3), (0, .ref a0)]) dX12_ask_16 rfl (by decide) rfl ?_
  refine V_iconst (v := (0 : Int32)) dX12_ask_17 (by decide) ?_
  refine V_istore (ls2 := [(4, .int (0 : Int32)), (3, .int r5), (2, .int (-1 : Int32)), (1, .int r3), (0, .ref a0)]) dX12_ask_18 (by decide) rfl ?_
  obtain ⟨N, hf⟩ := hf
  refine V_to [4, 3, 2, 1, 0] rfl ?_
  exact vX12_ask_L20 hn N _ _ _ _ _ _ hf
def wX12_peopleIn_J41 (n : Nat) (sh : Nat → Nat × Nat) (k5 : Nat → Int32 → Int32 → Int32 → Int32 → gS → Prop) (P : Int32 → gS → Prop) (a0 : Nat) (x1 : Int32) (x2 : Int32) (x4 : Int32) (s0 : Int32) (s1 : Int32) (z : gS) : Prop := ∀ v9 : Int32, v9 = (s1 + s0) → (∀ v10 : Int32, v10 = x4 + (1 : Int32) → k5 a0 x1 x2 v9 v10 z)
set_option maxRecDepth 100000 in
set_option maxHeartbeats 4000000 in
theorem vX12_peopleIn_J41 {E : gE} {n : Nat} {sh : Nat → Nat × Nat} {P : Int32 → gS → Prop} {k5 : Nat → Int32 → Int32 → Int32 → Int32 → gS → Prop} {a0 : Nat} {x1 : Int32} {x2 : Int32} {x4 : Int32} {s0 : Int32} {s1 : Int32} {z : gS} (hn : gOK E n) (hk5 : ∀ (a0 : Nat) (x1 : Int32) (x2 : Int32) (x3 : Int32) (x4 : Int32) (z : gS), k5 a0 x1 x2 x3 x4 z → V E (gR 1 0) gyX12_peopleIn 0 0 5 [(0, .ref a0), (1, .int x1), (2, .int x2), (3, .int x3), (4, .int x4)] [] n sh z (kI n sh P)) (hf : wX12_peopleIn_J41 n sh k5 P a0 x1 x2 x4 s0 s1 z) : V E (gR 1 0) gyX12_peopleIn 0 0 41 [(0, .ref a0), (1, .int x1), (2, .int x2), (4, .int x4)] [.int s0, .int s1] n sh z (kI n sh P) := by
  unfold wX12_peopleIn_J41 at hf
  refine V_iadd dX12_peopleIn_41 ?_
  refine V_nI (fun v9 ev9 => ?_)
  have hf := hf v9 ev9
  refine V_istore_n (ls2 := [(3, .int v9), (0, .ref a0), (1, .int x1), (2, .int x2), (4, .int x4)]) dX12_peopleIn_42 rfl (by decide) rfl ?_
  obtain ⟨v10, ev10⟩ : ∃ y : Int32, y = x4 + (1 : Int32) := ⟨_, rfl⟩
  refine V_iinc (j := 4) (v := v10) (ls2 := [(4, .int v10), (3, .int v9), (0, .ref a0), (1, .int x1), (2, .int x2)]) dX12_peopleIn_43 rfl (by rw [ev10]; rfl) (by decide) rfl ?_
  have hf := hf v10 ev10
  refine V_goto (tgt := 5) dX12_peopleIn_46 (by decide) ?_
  refine V_to [2, 3, 4, 1, 0] rfl ?_
  exact hk5 _ _ _ _ _ _ hf
def wX12_peopleIn_B5 (n : Nat) (sh : Nat → Nat × Nat) (k5 : Nat → Int32 → Int32 → Int32 → Int32 → gS → Prop) (P : Int32 → gS → Prop) (a0 : Nat) (x1 : Int32) (x2 : Int32) (x3 : Int32) (x4 : Int32) (z : gS) : Prop := (oO n sh a0 8) ∧ (wX12_people n sh a0 z (fun (r1 : Int32) (z2 : gS) => if r1 ≤ x4 then P x3 z2 else (∃ t4 : Nat, gr z2 a0 24 = some t4 ∧ ((oA n sh t4 1) ∧ ((vp_in ((1 : Int32) + x4) (sh t4).2) ∧ (wX12_within n sh (gi z2 t4 ((1 : Int32) + x4).toNatClampNeg) x1 ((x1 + x2) - (1 : Int32)) z2 (fun (r7 : Int32) (z8 : gS) => if r7 = 0 then wX12_peopleIn_J41 n sh k5 P a0 x1 x2 x4 (0 : Int32) x3 z8 else wX12_peopleIn_J41 n sh k5 P a0 x1 x2 x4 (1 : Int32) x3 z8)))))))
def wX12_peopleIn_L5 (n : Nat) (sh : Nat → Nat × Nat) (P : Int32 → gS → Prop) : Nat → Nat → Int32 → Int32 → Int32 → Int32 → gS → Prop
  | 0, _, _, _, _, _, _ => False
  | N + 1, a0, x1, x2, x3, x4, z => wX12_peopleIn_B5 n sh (wX12_peopleIn_L5 n sh P N) P a0 x1 x2 x3 x4 z
set_option maxRecDepth 100000 in
set_option maxHeartbeats 4000000 in
theorem vX12_peopleIn_B5 {E : gE} {n : Nat} {sh : Nat → Nat × Nat} {P : Int32 → gS → Prop} {k5 : Nat → Int32 → Int32 → Int32 → Int32 → gS → Prop} {a0 : Nat} {x1 : Int32} {x2 : Int32} {x3 : Int32} {x4 : Int32} {z : gS} (hn : gOK E n) (hk5 : ∀ (a0 : Nat) (x1 : Int32) (x2 : Int32) (x3 : Int32) (x4 : Int32) (z : gS), k5 a0 x1 x2 x3 x4 z → V E (gR 1 0) gyX12_peopleIn 0 0 5 [(0, .ref a0), (1, .int x1), (2, .int x2), (3, .int x3), (4, .int x4)] [] n sh z (kI n sh P)) (hf : wX12_peopleIn_B5 n sh k5 P a0 x1 x2 x3 x4 z) : V E (gR 1 0) gyX12_peopleIn 0 0 5 [(0, .ref a0), (1, .int x1), (2, .int x2), (3, .int x3), (4, .int x4)] [] n sh z (kI n sh P) := by
  unfold wX12_peopleIn_B5 at hf
  refine V_iload (j := 4) dX12_peopleIn_5 rfl ?_
  refine V_aload_n (j := 0) dX12_peopleIn_7 rfl rfl ?_
  obtain ⟨h3, hf⟩ := hf
  refine V_cVI (ctX12_people hn hf) gc_X12_265 rfl h3.1 ⟨_, h3.2, by decide, rfl⟩ ⟨by decide, by decide, Nat.zero_le _, Nat.zero_le _⟩ (Nat.le_of_ble_eq_true rfl) dX12_peopleIn_8 rfl hn (fun r1 z2 hf => ?_)
  refine V_icmp_ge (tgt := 49) dX12_peopleIn_11 (by decide) (fun h12 => ?_) (fun h12 => ?_)
  · have hf := it_t h12 hf
    refine V_iload_n (j := 3) dX12_peopleIn_49 rfl rfl ?_
    exact V_ireturn dX12_peopleIn_50 rfl rfl (Nat.le_refl 0) (kI_of hf)
  · have hf := it_f h12 hf
    refine V_iload_n (j := 3) dX12_peopleIn_14 rfl rfl ?_
    refine V_aload_n (j := 0) dX12_peopleIn_15 rfl rfl ?_
    obtain ⟨t4, et4, hf⟩ := hf
    refine V_getR fl_X12_119 rfl h3.1 h3.2 et4 dX12_peopleIn_16 ?_
    refine V_iconst (v := (1 : Int32)) dX12_peopleIn_19 (by decide) ?_
    refine V_iload (j := 4) dX12_peopleIn_20 rfl ?_
    refine V_iadd dX12_peopleIn_22 ?_
    obtain ⟨h5, hf⟩ := hf
    obtain ⟨h6, hf⟩ := hf
    refine V_iald h5.1 h5.s h6 dX12_peopleIn_23 ?_
    refine V_iload_n (j := 1) dX12_peopleIn_24 rfl rfl ?_
    refine V_iload_n (j := 1) dX12_peopleIn_25 rfl rfl ?_
    refine V_iload_n (j := 2) dX12_peopleIn_26 rfl rfl ?_
    refine V_iadd dX12_peopleIn_27 ?_
    refine V_iconst (v := (1 : Int32)) dX12_peopleIn_28 (by decide) ?_
    refine V_isub dX12_peopleIn_29 ?_
    refine V_cSI (ctX12_within hn hf) gc_X12_198 rfl ⟨by decide, by decide, Nat.zero_le _, Nat.zero_le _⟩ (Nat.le_of_ble_eq_true rfl) dX12_peopleIn_30 rfl hn (fun r7 z8 hf => ?_)
    refine V_if_eq (tgt := 40) dX12_peopleIn_33 (by decide) (fun h11 => ?_) (fun h11 => ?_)
    · have hf := it_t h11 hf
      refine V_iconst (v := (0 : Int32)) dX12_peopleIn_40 (by decide) ?_
      refine V_to [0, 1, 2, 4] rfl ?_
      exact vX12_peopleIn_J41 hn hk5 hf
    · have hf := it_f h11 hf
      refine V_iconst (v := (1 : Int32)) dX12_peopleIn_36 (by decide) ?_
      refine V_goto (tgt := 41) dX12_peopleIn_37 (by decide) ?_
      refine V_to [0, 1, 2, 4] rfl ?_
      exact vX12_peopleIn_J41 hn hk5 hf
set_option maxRecDepth 100000 in
set_option maxHeartbeats 4000000 in
theorem vX12_peopleIn_L5 {E : gE} {n : Nat} {sh : Nat → Nat × Nat} {P : Int32 → gS → Prop} (hn : gOK E n) : ∀ (N : Nat) (a0 : Nat) (x1 : Int32) (x2 : Int32) (x3 : Int32) (x4 : Int32) (z : gS), wX12_peopleIn_L5 n sh P N a0 x1 x2 x3 x4 z → V E (gR 1 0) gyX12_peopleIn 0 0 5 [(0, .ref a0), (1, .int x1), (2, .int x2), (3, .int x3), (4, .int x4)] [] n sh z (kI n sh P) := by
  intro N
  induction N with
  | zero => intro a0 x1 x2 x3 x4 z hf; exact False.elim hf
  | succ N ih => intro a0 x1 x2 x3 x4 z hf; exact vX12_peopleIn_B5 hn ih hf
def wX12_peopleIn (n : Nat) (sh : Nat → Nat × Nat) (a0 : Nat) (x1 : Int32) (x2 : Int32) (z : gS) (P : Int32 → gS → Prop) : Prop := (∃ N, wX12_peopleIn_L5 n sh P N a0 x1 x2 (0 : Int32) (0 : Int32) z)
set_option maxRecDepth 100000 in
set_option maxHeartbeats 4000000 in
theorem ctX12_peopleIn {E : gE} {n : Nat} {sh : Nat → Nat × Nat} {a0 : Nat} {x1 : Int32} {x2 : Int32} {z : gS} {P : Int32 → gS → Prop} (hn : gOK E n) (hf : wX12_peopleIn n sh a0 x1 x2 z P) : VM E 1 0 gyX12_peopleIn [.ref a0, .int x1, .int x2] n sh z (kI n sh P) := by
  unfold wX12_peopleIn at hf
  refine VM.of (by decide +kernel) (Nat.le_of_ble_eq_true rfl) (fun _ _ _ h => h.2.2) ?_
  show V E (gR 1 0) gyX12_peopleIn 0 0 0 [(0, .ref a0), (1, .int x1), (2, .int x2)] [] n sh z (kI n sh P)
  refine V_iconst (v := (0 : Int32)) dX12_peopleIn_0 (by decide) ?_
  refine V_istore_n (ls2 := [(3, .int (0 : Int32)), (0, .ref a0), (1, .int x1), (2, .int x2)]) dX12_peopleIn_1 rfl (by decide) rfl ?_
  refine V_iconst (v := (0 : Int32)) dX12_peopleIn_2 (by decide) ?_
  refine V_istore (ls2 := [(4, .int (0 : Int32)), (3, .int (0 : Int32)), (0, .ref a0), (1, .int x1), (2, .int x2)]) dX12_peopleIn_3 (by decide) rfl ?_
  obtain ⟨N, hf⟩ := hf
  refine V_to [2, 3, 4, 1, 0] rfl ?_
  exact vX12_peopleIn_L5 hn N _ _ _ _ _ _ hf
def wX12_glass_J49 (n : Nat) (sh : Nat → Nat × Nat) (k21 : Nat → Int32 → Int32 → Int32 → gS → Prop) (P : Int32 → gS → Prop) (a0 : Nat) (x1 : Int32) (x3 : Int32) (s0 : Int32) (z : gS) : Prop := ∀ v10 : Int32, v10 = x3 + (1 : Int32) → k21 a0 x1 s0 v10 z
set_option maxRecDepth 100000 in
set_option maxHeartbeats 4000000 in
theorem vX12_glass_J49 {E : gE} {n : Nat} {sh : Nat → Nat × Nat} {P : Int32 → gS → Prop} {k21 : Nat → Int32 → Int32 → Int32 → gS → Prop} {a0 : Nat} {x1 : Int32} {x3 : Int32} {s0 : Int32} {z : gS} (hn : gOK E n) (hk21 : ∀ (a0 : Nat) (x1 : Int32) (x2 : Int32) (x3 : Int32) (z : gS), k21 a0 x1 x2 x3 z → V E (gR 2 0) gyX12_glass 0 0 21 [(0, .ref a0), (1, .int x1), (2, .int x2), (3, .int x3)] [] n sh z (kI n sh P)) (hf : wX12_glass_J49 n sh k21 P a0 x1 x3 s0 z) : V E (gR 2 0) gyX12_glass 0 0 49 [(0, .ref a0), (1, .int x1), (3, .int x3)] [.int s0] n sh z (kI n sh P) := by
  unfold wX12_glass_J49 at hf
  refine V_istore_n (ls2 := [(2, .int s0), (0, .ref a0), (1, .int x1), (3, .int x3)]) dX12_glass_49 rfl (by decide) rfl ?_
  obtain ⟨v10, ev10⟩ : ∃ y : Int32, y = x3 + (1 : Int32) := ⟨_, rfl⟩
  refine V_iinc (j := 3) (v := v10) (ls2 := [(3, .int v10), (2, .int s0), (0, .ref a0), (1, .int x1)]) dX12_glass_50 rfl (by rw [ev10]; rfl) (by decide) rfl ?_
  have hf := hf v10 ev10
  refine V_goto (tgt := 21) dX12_glass_53 (by decide) ?_
  refine V_to [2, 3, 1, 0] rfl ?_
  exact hk21 _ _ _ _ _ hf
def wX12_glass_B21 (n : Nat) (sh : Nat → Nat × Nat) (k21 : Nat → Int32 → Int32 → Int32 → gS → Prop) (P : Int32 → gS → Prop) (a0 : Nat) (x1 : Int32) (x2 : Int32) (x3 : Int32) (z : gS) : Prop := if (10 : Int32) < (x3 + x1) then P x2 z else ((oO n sh a0 8) ∧ (wX12_peopleIn n sh a0 x3 x1 z (fun (r5 : Int32) (z6 : gS) => wX12_peopleIn n sh a0 x2 x1 z6 (fun (r8 : Int32) (z9 : gS) => if r5 ≤ r8 then wX12_glass_J49 n sh k21 P a0 x1 x3 x2 z9 else wX12_glass_J49 n sh k21 P a0 x1 x3 x3 z9))))
def wX12_glass_L21 (n : Nat) (sh : Nat → Nat × Nat) (P : Int32 → gS → Prop) : Nat → Nat → Int32 → Int32 → Int32 → gS → Prop
  | 0, _, _, _, _, _ => False
  | N + 1, a0, x1, x2, x3, z => wX12_glass_B21 n sh (wX12_glass_L21 n sh P N) P a0 x1 x2 x3 z
set_option maxRecDepth 100000 in
set_option maxHeartbeats 4000000 in
theorem vX12_glass_B21 {E : gE} {n : Nat} {sh : Nat → Nat × Nat} {P : Int32 → gS → Prop} {k21 : Nat → Int32 → Int32 → Int32 → gS → Prop} {a0 : Nat} {x1 : Int32} {x2 : Int32} {x3 : Int32} {z : gS} (hn : gOK E n) (hk21 : ∀ (a0 : Nat) (x1 : Int32) (x2 : Int32) (x3 : Int32) (z : gS), k21 a0 x1 x2 x3 z → V E (gR 2 0) gyX12_glass 0 0 21 [(0, .ref a0), (1, .int x1), (2, .int x2), (3, .int x3)] [] n sh z (kI n sh P)) (hf : wX12_glass_B21 n sh k21 P a0 x1 x2 x3 z) : V E (gR 2 0) gyX12_glass 0 0 21 [(0, .ref a0), (1, .int x1), (2, .int x2), (3, .int x3)] [] n sh z (kI n sh P) := by
  unfold wX12_glass_B21 at hf
  refine V_iload_n (j := 3) dX12_glass_21 rfl rfl ?_
  refine V_iload_n (j := 1) dX12_glass_22 rfl rfl ?_
  refine V_iadd dX12_glass_23 ?_
  refine V_bipush (v := (10 : Int32)) dX12_glass_24 (by decide) ?_
  refine V_icmp_gt (tgt := 56) dX12_glass_26 (by decide) (fun h12 => ?_) (fun h12 => ?_)
  · have hf := it_t h12 hf
    refine V_iload_n (j := 2) dX12_glass_56 rfl rfl ?_
    exact V_ireturn dX12_glass_57 rfl rfl (Nat.le_refl 0) (kI_of hf)
  · have hf := it_f h12 hf
    refine V_aload_n (j := 0) dX12_glass_29 rfl rfl ?_
    refine V_iload_n (j := 3) dX12_glass_30 rfl rfl ?_
    refine V_iload_n (j := 1) dX12_glass_31 rfl rfl ?_
    obtain ⟨h7, hf⟩ := hf
    refine V_cVI (ctX12_peopleIn hn hf) gc_X12_380 rfl h7.1 ⟨_, h7.2, by decide, rfl⟩ ⟨by decide, by decide, Nat.zero_le _, Nat.zero_le _⟩ (Nat.le_of_ble_eq_true rfl) dX12_glass_32 rfl hn (fun r5 z6 hf => ?_)
    refine V_aload_n (j := 0) dX12_glass_35 rfl rfl ?_
    refine V_iload_n (j := 2) dX12_glass_36 rfl rfl ?_
    refine V_iload_n (j := 1) dX12_glass_37 rfl rfl ?_
    refine V_cVI (ctX12_peopleIn hn hf) gc_X12_380 rfl h7.1 ⟨_, h7.2, by decide, rfl⟩ ⟨by decide, by decide, Nat.zero_le _, Nat.zero_le _⟩ (Nat.le_of_ble_eq_true rfl) dX12_glass_38 rfl hn (fun r8 z9 hf => ?_)
    refine V_icmp_le (tgt := 48) dX12_glass_41 (by decide) (fun h11 => ?_) (fun h11 => ?_)
    · have hf := it_t h11 hf
      refine V_iload_n (j := 2) dX12_glass_48 rfl rfl ?_
      refine V_to [0, 1, 3] rfl ?_
      exact vX12_glass_J49 hn hk21 hf
    · have hf := it_f h11 hf
      refine V_iload_n (j := 3) dX12_glass_44 rfl rfl ?_
      refine V_goto (tgt := 49) dX12_glass_45 (by decide) ?_
      refine V_to [0, 1, 3] rfl ?_
      exact vX12_glass_J49 hn hk21 hf
set_option maxRecDepth 100000 in
set_option maxHeartbeats 4000000 in
theorem vX12_glass_L21 {E : gE} {n : Nat} {sh : Nat → Nat × Nat} {P : Int32 → gS → Prop} (hn : gOK E n) : ∀ (N : Nat) (a0 : Nat) (x1 : Int32) (x2 : Int32) (x3 : Int32) (z : gS), wX12_glass_L21 n sh P N a0 x1 x2 x3 z → V E (gR 2 0) gyX12_glass 0 0 21 [(0, .ref a0), (1, .int x1), (2, .int x2), (3, .int x3)] [] n sh z (kI n sh P) := by
  intro N
  induction N with
  | zero => intro a0 x1 x2 x3 z hf; exact False.elim hf
  | succ N ih => intro a0 x1 x2 x3 z hf; exact vX12_glass_B21 hn ih hf
def wX12_glass (n : Nat) (sh : Nat → Nat × Nat) (a0 : Nat) (x1 : Int32) (z : gS) (P : Int32 → gS → Prop) : Prop := (oO n sh a0 8) ∧ (∀ z2 : gS, z2 = si z a0 0 (0 : Int32) → (wX12_within n sh x1 (1 : Int32) (10 : Int32) z2 (fun (r3 : Int32) (z4 : gS) => if r3 = 0 then P (-1 : Int32) z4 else ((∃ N, wX12_glass_L21 n sh P N a0 x1 (0 : Int32) (1 : Int32) z4)))))
set_option maxRecDepth 100000 in
set_option maxHeartbeats 4000000 in
theorem ctX12_glass {E : gE} {n : Nat} {sh : Nat → Nat × Nat} {a0 : Nat} {x1 : Int32} {z : gS} {P : Int32 → gS → Prop} (hn : gOK E n) (hf : wX12_glass n sh a0 x1 z P) : VM E 2 0 gyX12_glass [.ref a0, .int x1] n sh z (kI n sh P) := by
  unfold wX12_glass at hf
  refine VM.of (by decide +kernel) (Nat.le_of_ble_eq_true rfl) (fun _ _ _ h => h.2.2) ?_
  show V E (gR 2 0) gyX12_glass 0 0 0 [(0, .ref a0), (1, .int x1)] [] n sh z (kI n sh P)
  refine V_aload_n (j := 0) dX12_glass_0 rfl rfl ?_
  refine V_iconst (v := (0 : Int32)) dX12_glass_1 (by decide) ?_
  obtain ⟨h1, hf⟩ := hf
  refine V_putI fl_X12_1 rfl rfl rfl rfl h1.1 h1.2 dX12_glass_2 ?_
  refine V_nz (fun z2 ez2 => ?_)
  have hf := hf z2 ez2
  refine V_iload_n (j := 1) dX12_glass_5 rfl rfl ?_
  refine V_iconst (v := (1 : Int32)) dX12_glass_6 (by decide) ?_
  refine V_bipush (v := (10 : Int32)) dX12_glass_7 (by decide) ?_
  refine V_cSI (ctX12_within hn hf) gc_X12_198 rfl ⟨by decide, by decide, Nat.zero_le _, Nat.zero_le _⟩ (Nat.le_of_ble_eq_true rfl) dX12_glass_9 rfl hn (fun r3 z4 hf => ?_)
  refine V_if_ne (tgt := 17) dX12_glass_12 (by decide) (fun h13 => ?_) (fun h13 => ?_)
  · have hf := it_f h13 hf
    refine V_iconst (v := (0 : Int32)) dX12_glass_17 (by decide) ?_
    refine V_istore_n (ls2 := [(2, .int (0 : Int32)), (0, .ref a0), (1, .int x1)]) dX12_glass_18 rfl (by decide) rfl ?_
    refine V_iconst (v := (1 : Int32)) dX12_glass_19 (by decide) ?_
    refine V_istore_n (ls2 := [(3, .int (1 : Int32)), (2, .int (0 : Int32)), (0, .ref a0), (1, .int x1)]) dX12_glass_20 rfl (by decide) rfl ?_
    obtain ⟨N, hf⟩ := hf
    refine V_to [2, 3, 1, 0] rfl ?_
    exact vX12_glass_L21 hn N _ _ _ _ _ hf
  · have hf := it_t (Classical.not_not.mp h13) hf
    refine V_iconst (v := (-1 : Int32)) dX12_glass_15 (by decide) ?_
    exact V_ireturn dX12_glass_16 rfl rfl (Nat.le_refl 0) (kI_of hf)
def wX12_seen (n : Nat) (sh : Nat → Nat × Nat) (a0 : Nat) (x1 : Int32) (z : gS) (P : Int32 → gS → Prop) : Prop := (oO n sh a0 8) ∧ (∀ z2 : gS, z2 = si z a0 0 (0 : Int32) → (wX12_isPerson n sh a0 x1 z2 (fun (r3 : Int32) (z4 : gS) => if r3 = 0 then P (-1 : Int32) z4 else (∃ t5 : Nat, gr z4 a0 24 = some t5 ∧ ((oA n sh t5 1) ∧ ((vp_in ((1 : Int32) + x1) (sh t5).2) ∧ (wX12_seersOf n sh a0 (0 : Int32) (gi z4 t5 ((1 : Int32) + x1).toNatClampNeg) z4 (fun (r8 : Int32) (z9 : gS) => P r8 z9))))))))
set_option maxRecDepth 100000 in
set_option maxHeartbeats 4000000 in
theorem ctX12_seen {E : gE} {n : Nat} {sh : Nat → Nat × Nat} {a0 : Nat} {x1 : Int32} {z : gS} {P : Int32 → gS → Prop} (hn : gOK E n) (hf : wX12_seen n sh a0 x1 z P) : VM E 4 0 gyX12_seen [.ref a0, .int x1] n sh z (kI n sh P) := by
  unfold wX12_seen at hf
  refine VM.of (by decide +kernel) (Nat.le_of_ble_eq_true rfl) (fun _ _ _ h => h.2.2) ?_
  show V E (gR 4 0) gyX12_seen 0 0 0 [(0, .ref a0), (1, .int x1)] [] n sh z (kI n sh P)
  refine V_aload_n (j := 0) dX12_seen_0 rfl rfl ?_
  refine V_iconst (v := (0 : Int32)) dX12_seen_1 (by decide) ?_
  obtain ⟨h1, hf⟩ := hf
  refine V_putI fl_X12_1 rfl rfl rfl rfl h1.1 h1.2 dX12_seen_2 ?_
  refine V_nz (fun z2 ez2 => ?_)
  have hf := hf z2 ez2
  refine V_aload_n (j := 0) dX12_seen_5 rfl rfl ?_
  refine V_iload_n (j := 1) dX12_seen_6 rfl rfl ?_
  refine V_cVI (ctX12_isPerson hn hf) gc_X12_343 rfl h1.1 ⟨_, h1.2, by decide, rfl⟩ ⟨by decide, by decide, Nat.zero_le _, Nat.zero_le _⟩ (Nat.le_of_ble_eq_true rfl) dX12_seen_7 rfl hn (fun r3 z4 hf => ?_)
  refine V_if_eq (tgt := 29) dX12_seen_10 (by decide) (fun h10 => ?_) (fun h10 => ?_)
  · have hf := it_t h10 hf
    refine V_iconst (v := (-1 : Int32)) dX12_seen_29 (by decide) ?_
    exact V_ireturn dX12_seen_30 rfl rfl (Nat.le_refl 0) (kI_of hf)
  · have hf := it_f h10 hf
    refine V_aload_n (j := 0) dX12_seen_13 rfl rfl ?_
    refine V_iconst (v := (0 : Int32)) dX12_seen_14 (by decide) ?_
    refine V_aload_n (j := 0) dX12_seen_15 rfl rfl ?_
    obtain ⟨t5, et5, hf⟩ := hf
    refine V_getR fl_X12_119 rfl h1.1 h1.2 et5 dX12_seen_16 ?_
    refine V_iconst (v := (1 : Int32)) dX12_seen_19 (by decide) ?_
    refine V_iload_n (j := 1) dX12_seen_20 rfl rfl ?_
    refine V_iadd dX12_seen_21 ?_
    obtain ⟨h6, hf⟩ := hf
    obtain ⟨h7, hf⟩ := hf
    refine V_iald h6.1 h6.s h7 dX12_seen_22 ?_
    refine V_cVI (ctX12_seersOf hn hf) gc_X12_303 rfl h1.1 ⟨_, h1.2, by decide, rfl⟩ ⟨by decide, by decide, Nat.zero_le _, Nat.zero_le _⟩ (Nat.le_of_ble_eq_true rfl) dX12_seen_23 rfl hn (fun r8 z9 hf => ?_)
    refine V_goto (tgt := 30) dX12_seen_26 (by decide) ?_
    exact V_ireturn dX12_seen_30 rfl rfl (Nat.le_refl 0) (kI_of hf)
def wX12_eyes_J41 (n : Nat) (sh : Nat → Nat × Nat) (k9 : Nat → Int32 → Int32 → gS → Prop) (P : Int32 → gS → Prop) (a0 : Nat) (x2 : Int32) (s0 : Int32) (z : gS) : Prop := ∀ v12 : Int32, v12 = x2 + (1 : Int32) → k9 a0 s0 v12 z
set_option maxRecDepth 100000 in
set_option maxHeartbeats 4000000 in
theorem vX12_eyes_J41 {E : gE} {n : Nat} {sh : Nat → Nat × Nat} {P : Int32 → gS → Prop} {k9 : Nat → Int32 → Int32 → gS → Prop} {a0 : Nat} {x2 : Int32} {s0 : Int32} {z : gS} (hn : gOK E n) (hk9 : ∀ (a0 : Nat) (x1 : Int32) (x2 : Int32) (z : gS), k9 a0 x1 x2 z → V E (gR 4 0) gyX12_eyes 0 0 9 [(0, .ref a0), (1, .int x1), (2, .int x2)] [] n sh z (kI n sh P)) (hf : wX12_eyes_J41 n sh k9 P a0 x2 s0 z) : V E (gR 4 0) gyX12_eyes 0 0 41 [(0, .ref a0), (2, .int x2)] [.int s0] n sh z (kI n sh P) := by
  unfold wX12_eyes_J41 at hf
  refine V_istore_n (ls2 := [(1, .int s0), (0, .ref a0), (2, .int x2)]) dX12_eyes_41 rfl (by decide) rfl ?_
  obtain ⟨v12, ev12⟩ : ∃ y : Int32, y = x2 + (1 : Int32) := ⟨_, rfl⟩
  refine V_iinc (j := 2) (v := v12) (ls2 := [(2, .int v12), (1, .int s0), (0, .ref a0)]) dX12_eyes_42 rfl (by rw [ev12]; rfl) (by decide) rfl ?_
  have hf := hf v12 ev12
  refine V_goto (tgt := 9) dX12_eyes_45 (by decide) ?_
  refine V_to [2, 1, 0] rfl ?_
  exact hk9 _ _ _ _ hf
def wX12_eyes_B9 (n : Nat) (sh : Nat → Nat × Nat) (k9 : Nat → Int32 → Int32 → gS → Prop) (P : Int32 → gS → Prop) (a0 : Nat) (x1 : Int32) (x2 : Int32) (z : gS) : Prop := if (10 : Int32) ≤ x2 then P x1 z else ((oO n sh a0 8) ∧ (wX12_seersOf n sh a0 (0 : Int32) x2 z (fun (r3 : Int32) (z4 : gS) => wX12_bits n sh r3 z4 (fun (r6 : Int32) (z7 : gS) => wX12_seersOf n sh a0 (0 : Int32) x1 z7 (fun (r8 : Int32) (z9 : gS) => wX12_bits n sh r8 z9 (fun (r10 : Int32) (z11 : gS) => if r6 ≤ r10 then wX12_eyes_J41 n sh k9 P a0 x2 x1 z11 else wX12_eyes_J41 n sh k9 P a0 x2 x2 z11))))))
def wX12_eyes_L9 (n : Nat) (sh : Nat → Nat × Nat) (P : Int32 → gS → Prop) : Nat → Nat → Int32 → Int32 → gS → Prop
  | 0, _, _, _, _ => False
  | N + 1, a0, x1, x2, z => wX12_eyes_B9 n sh (wX12_eyes_L9 n sh P N) P a0 x1 x2 z
set_option maxRecDepth 100000 in
set_option maxHeartbeats 4000000 in
theorem vX12_eyes_B9 {E : gE} {n : Nat} {sh : Nat → Nat × Nat} {P : Int32 → gS → Prop} {k9 : Nat → Int32 → Int32 → gS → Prop} {a0 : Nat} {x1 : Int32} {x2 : Int32} {z : gS} (hn : gOK E n) (hk9 : ∀ (a0 : Nat) (x1 : Int32) (x2 : Int32) (z : gS), k9 a0 x1 x2 z → V E (gR 4 0) gyX12_eyes 0 0 9 [(0, .ref a0), (1, .int x1), (2, .int x2)] [] n sh z (kI n sh P)) (hf : wX12_eyes_B9 n sh k9 P a0 x1 x2 z) : V E (gR 4 0) gyX12_eyes 0 0 9 [(0, .ref a0), (1, .int x1), (2, .int x2)] [] n sh z (kI n sh P) := by
  unfold wX12_eyes_B9 at hf
  refine V_iload_n (j := 2) dX12_eyes_9 rfl rfl ?_
  refine V_bipush (v := (10 : Int32)) dX12_eyes_10 (by decide) ?_
  refine V_icmp_ge (tgt := 48) dX12_eyes_12 (by decide) (fun h14 => ?_) (fun h14 => ?_)
  · have hf := it_t h14 hf
    refine V_iload_n (j := 1) dX12_eyes_48 rfl rfl ?_
    exact V_ireturn dX12_eyes_49 rfl rfl (Nat.le_refl 0) (kI_of hf)
  · have hf := it_f h14 hf
    refine V_aload_n (j := 0) dX12_eyes_15 rfl rfl ?_
    refine V_iconst (v := (0 : Int32)) dX12_eyes_16 (by decide) ?_
    refine V_iload_n (j := 2) dX12_eyes_17 rfl rfl ?_
    obtain ⟨h5, hf⟩ := hf
    refine V_cVI (ctX12_seersOf hn hf) gc_X12_303 rfl h5.1 ⟨_, h5.2, by decide, rfl⟩ ⟨by decide, by decide, Nat.zero_le _, Nat.zero_le _⟩ (Nat.le_of_ble_eq_true rfl) dX12_eyes_18 rfl hn (fun r3 z4 hf => ?_)
    refine V_cSI (ctX12_bits hn hf) gc_X12_374 rfl ⟨by decide, by decide, Nat.zero_le _, Nat.zero_le _⟩ (Nat.le_of_ble_eq_true rfl) dX12_eyes_21 rfl hn (fun r6 z7 hf => ?_)
    refine V_aload_n (j := 0) dX12_eyes_24 rfl rfl ?_
    refine V_iconst (v := (0 : Int32)) dX12_eyes_25 (by decide) ?_
    refine V_iload_n (j := 1) dX12_eyes_26 rfl rfl ?_
    refine V_cVI (ctX12_seersOf hn hf) gc_X12_303 rfl h5.1 ⟨_, h5.2, by decide, rfl⟩ ⟨by decide, by decide, Nat.zero_le _, Nat.zero_le _⟩ (Nat.le_of_ble_eq_true rfl) dX12_eyes_27 rfl hn (fun r8 z9 hf => ?_)
    refine V_cSI (ctX12_bits hn hf) gc_X12_374 rfl ⟨by decide, by decide, Nat.zero_le _, Nat.zero_le _⟩ (Nat.le_of_ble_eq_true rfl) dX12_eyes_30 rfl hn (fun r10 z11 hf => ?_)
    refine V_icmp_le (tgt := 40) dX12_eyes_33 (by decide) (fun h13 => ?_) (fun h13 => ?_)
    · have hf := it_t h13 hf
      refine V_iload_n (j := 1) dX12_eyes_40 rfl rfl ?_
      refine V_to [0, 2] rfl ?_
      exact vX12_eyes_J41 hn hk9 hf
    · have hf := it_f h13 hf
      refine V_iload_n (j := 2) dX12_eyes_36 rfl rfl ?_
      refine V_goto (tgt := 41) dX12_eyes_37 (by decide) ?_
      refine V_to [0, 2] rfl ?_
      exact vX12_eyes_J41 hn hk9 hf
set_option maxRecDepth 100000 in
set_option maxHeartbeats 4000000 in
theorem vX12_eyes_L9 {E : gE} {n : Nat} {sh : Nat → Nat × Nat} {P : Int32 → gS → Prop} (hn : gOK E n) : ∀ (N : Nat) (a0 : Nat) (x1 : Int32) (x2 : Int32) (z : gS), wX12_eyes_L9 n sh P N a0 x1 x2 z → V E (gR 4 0) gyX12_eyes 0 0 9 [(0, .ref a0), (1, .int x1), (2, .int x2)] [] n sh z (kI n sh P) := by
  intro N
  induction N with
  | zero => intro a0 x1 x2 z hf; exact False.elim hf
  | succ N ih => intro a0 x1 x2 z hf; exact vX12_eyes_B9 hn ih hf
def wX12_eyes (n : Nat) (sh : Nat → Nat × Nat) (a0 : Nat) (z : gS) (P : Int32 → gS → Prop) : Prop := (oO n sh a0 8) ∧ (∀ z2 : gS, z2 = si z a0 0 (0 : Int32) → ((∃ N, wX12_eyes_L9 n sh P N a0 (0 : Int32) (1 : Int32) z2)))
set_option maxRecDepth 100000 in
set_option maxHeartbeats 4000000 in
theorem ctX12_eyes {E : gE} {n : Nat} {sh : Nat → Nat × Nat} {a0 : Nat} {z : gS} {P : Int32 → gS → Prop} (hn : gOK E n) (hf : wX12_eyes n sh a0 z P) : VM E 4 0 gyX12_eyes [.ref a0] n sh z (kI n sh P) := by
  unfold wX12_eyes at hf
  refine VM.of (by decide +kernel) (Nat.le_of_ble_eq_true rfl) (fun _ _ _ h => h.2.2) ?_
  show V E (gR 4 0) gyX12_eyes 0 0 0 [(0, .ref a0)] [] n sh z (kI n sh P)
  refine V_aload_n (j := 0) dX12_eyes_0 rfl rfl ?_
  refine V_iconst (v := (0 : Int32)) dX12_eyes_1 (by decide) ?_
  obtain ⟨h1, hf⟩ := hf
  refine V_putI fl_X12_1 rfl rfl rfl rfl h1.1 h1.2 dX12_eyes_2 ?_
  refine V_nz (fun z2 ez2 => ?_)
  have hf := hf z2 ez2
  refine V_iconst (v := (0 : Int32)) dX12_eyes_5 (by decide) ?_
  refine V_istore_n (ls2 := [(1, .int (0 : Int32)), (0, .ref a0)]) dX12_eyes_6 rfl (by decide) rfl ?_
  refine V_iconst (v := (1 : Int32)) dX12_eyes_7 (by decide) ?_
  refine V_istore_n (ls2 := [(2, .int (1 : Int32)), (1, .int (0 : Int32)), (0, .ref a0)]) dX12_eyes_8 rfl (by decide) rfl ?_
  obtain ⟨N, hf⟩ := hf
  refine V_to [2, 1, 0] rfl ?_
  exact vX12_eyes_L9 hn N _ _ _ _ hf
def wX12_blind_J32 (n : Nat) (sh : Nat → Nat × Nat) (k9 : Nat → Int32 → Int32 → gS → Prop) (P : Int32 → gS → Prop) (a0 : Nat) (x2 : Int32) (s0 : Int32) (s1 : Int32) (z : gS) : Prop := ∀ v6 : Int32, v6 = (s1 ||| s0) → (∀ v7 : Int32, v7 = x2 + (1 : Int32) → k9 a0 v6 v7 z)
set_option maxRecDepth 100000 in
set_option maxHeartbeats 4000000 in
theorem vX12_blind_J32 {E : gE} {n : Nat} {sh : Nat → Nat × Nat} {P : Int32 → gS → Prop} {k9 : Nat → Int32 → Int32 → gS → Prop} {a0 : Nat} {x2 : Int32} {s0 : Int32} {s1 : Int32} {z : gS} (hn : gOK E n) (hk9 : ∀ (a0 : Nat) (x1 : Int32) (x2 : Int32) (z : gS), k9 a0 x1 x2 z → V E (gR 4 0) gyX12_blind 0 0 9 [(0, .ref a0), (1, .int x1), (2, .int x2)] [] n sh z (kI n sh P)) (hf : wX12_blind_J32 n sh k9 P a0 x2 s0 s1 z) : V E (gR 4 0) gyX12_blind 0 0 32 [(0, .ref a0), (2, .int x2)] [.int s0, .int s1] n sh z (kI n sh P) := by
  unfold wX12_blind_J32 at hf
  refine V_ior dX12_blind_32 ?_
  refine V_nI (fun v6 ev6 => ?_)
  have hf := hf v6 ev6
  refine V_istore_n (ls2 := [(1, .int v6), (0, .ref a0), (2, .int x2)]) dX12_blind_33 rfl (by decide) rfl ?_
  obtain ⟨v7, ev7⟩ : ∃ y : Int32, y = x2 + (1 : Int32) := ⟨_, rfl⟩
  refine V_iinc (j := 2) (v := v7) (ls2 := [(2, .int v7), (1, .int v6), (0, .ref a0)]) dX12_blind_34 rfl (by rw [ev7]; rfl) (by decide) rfl ?_
  have hf := hf v7 ev7
  refine V_goto (tgt := 9) dX12_blind_37 (by decide) ?_
  refine V_to [2, 1, 0] rfl ?_
  exact hk9 _ _ _ _ hf
def wX12_blind_B9 (n : Nat) (sh : Nat → Nat × Nat) (k9 : Nat → Int32 → Int32 → gS → Prop) (P : Int32 → gS → Prop) (a0 : Nat) (x1 : Int32) (x2 : Int32) (z : gS) : Prop := if (10 : Int32) ≤ x2 then P x1 z else ((oO n sh a0 8) ∧ (wX12_seersOf n sh a0 (0 : Int32) x2 z (fun (r3 : Int32) (z4 : gS) => if r3 = 0 then wX12_blind_J32 n sh k9 P a0 x2 ((1 : Int32) <<< (x2 &&& 31)) x1 z4 else wX12_blind_J32 n sh k9 P a0 x2 (0 : Int32) x1 z4)))
def wX12_blind_L9 (n : Nat) (sh : Nat → Nat × Nat) (P : Int32 → gS → Prop) : Nat → Nat → Int32 → Int32 → gS → Prop
  | 0, _, _, _, _ => False
  | N + 1, a0, x1, x2, z => wX12_blind_B9 n sh (wX12_blind_L9 n sh P N) P a0 x1 x2 z
set_option maxRecDepth 100000 in
set_option maxHeartbeats 4000000 in
theorem vX12_blind_B9 {E : gE} {n : Nat} {sh : Nat → Nat × Nat} {P : Int32 → gS → Prop} {k9 : Nat → Int32 → Int32 → gS → Prop} {a0 : Nat} {x1 : Int32} {x2 : Int32} {z : gS} (hn : gOK E n) (hk9 : ∀ (a0 : Nat) (x1 : Int32) (x2 : Int32) (z : gS), k9 a0 x1 x2 z → V E (gR 4 0) gyX12_blind 0 0 9 [(0, .ref a0), (1, .int x1), (2, .int x2)] [] n sh z (kI n sh P)) (hf : wX12_blind_B9 n sh k9 P a0 x1 x2 z) : V E (gR 4 0) gyX12_blind 0 0 9 [(0, .ref a0), (1, .int x1), (2, .int x2)] [] n sh z (kI n sh P) := by
  unfold wX12_blind_B9 at hf
  refine V_iload_n (j := 2) dX12_blind_9 rfl rfl ?_
  refine V_bipush (v := (10 : Int32)) dX12_blind_10 (by decide) ?_
  refine V_icmp_ge (tgt := 40) dX12_blind_12 (by decide) (fun h9 => ?_) (fun h9 => ?_)
  · have hf := it_t h9 hf
    refine V_iload_n (j := 1) dX12_blind_40 rfl rfl ?_
    exact V_ireturn dX12_blind_41 rfl rfl (Nat.le_refl 0) (kI_of hf)
  · have hf := it_f h9 hf
    refine V_iload_n (j := 1) dX12_blind_15 rfl rfl ?_
    refine V_aload_n (j := 0) dX12_blind_16 rfl rfl ?_
    refine V_iconst (v := (0 : Int32)) dX12_blind_17 (by decide) ?_
    refine V_iload_n (j := 2) dX12_blind_18 rfl rfl ?_
    obtain ⟨h5, hf⟩ := hf
    refine V_cVI (ctX12_seersOf hn hf) gc_X12_303 rfl h5.1 ⟨_, h5.2, by decide, rfl⟩ ⟨by decide, by decide, Nat.zero_le _, Nat.zero_le _⟩ (Nat.le_of_ble_eq_true rfl) dX12_blind_19 rfl hn (fun r3 z4 hf => ?_)
    refine V_if_ne (tgt := 31) dX12_blind_22 (by decide) (fun h8 => ?_) (fun h8 => ?_)
    · have hf := it_f h8 hf
      refine V_iconst (v := (0 : Int32)) dX12_blind_31 (by decide) ?_
      refine V_to [0, 2] rfl ?_
      exact vX12_blind_J32 hn hk9 hf
    · have hf := it_t (Classical.not_not.mp h8) hf
      refine V_iconst (v := (1 : Int32)) dX12_blind_25 (by decide) ?_
      refine V_iload_n (j := 2) dX12_blind_26 rfl rfl ?_
      refine V_ishl dX12_blind_27 ?_
      refine V_goto (tgt := 32) dX12_blind_28 (by decide) ?_
      refine V_to [0, 2] rfl ?_
      exact vX12_blind_J32 hn hk9 hf
set_option maxRecDepth 100000 in
set_option maxHeartbeats 4000000 in
theorem vX12_blind_L9 {E : gE} {n : Nat} {sh : Nat → Nat × Nat} {P : Int32 → gS → Prop} (hn : gOK E n) : ∀ (N : Nat) (a0 : Nat) (x1 : Int32) (x2 : Int32) (z : gS), wX12_blind_L9 n sh P N a0 x1 x2 z → V E (gR 4 0) gyX12_blind 0 0 9 [(0, .ref a0), (1, .int x1), (2, .int x2)] [] n sh z (kI n sh P) := by
  intro N
  induction N with
  | zero => intro a0 x1 x2 z hf; exact False.elim hf
  | succ N ih => intro a0 x1 x2 z hf; exact vX12_blind_B9 hn ih hf
def wX12_blind (n : Nat) (sh : Nat → Nat × Nat) (a0 : Nat) (z : gS) (P : Int32 → gS → Prop) : Prop := (oO n sh a0 8) ∧ (∀ z2 : gS, z2 = si z a0 0 (0 : Int32) → ((∃ N, wX12_blind_L9 n sh P N a0 (0 : Int32) (0 : Int32) z2)))
set_option maxRecDepth 100000 in
set_option maxHeartbeats 4000000 in
theorem ctX12_blind {E : gE} {n : Nat} {sh : Nat → Nat × Nat} {a0 : Nat} {z : gS} {P : Int32 → gS → Prop} (hn : gOK E n) (hf : wX12_blind n sh a0 z P) : VM E 4 0 gyX12_blind [.ref a0] n sh z (kI n sh P) := by
  unfold wX12_blind at hf
  refine VM.of (by decide +kernel) (Nat.le_of_ble_eq_true rfl) (fun _ _ _ h => h.2.2) ?_
  show V E (gR 4 0) gyX12_blind 0 0 0 [(0, .ref a0)] [] n sh z (kI n sh P)
  refine V_aload_n (j := 0) dX12_blind_0 rfl rfl ?_
  refine V_iconst (v := (0 : Int32)) dX12_blind_1 (by decide) ?_
  obtain ⟨h1, hf⟩ := hf
  refine V_putI fl_X12_1 rfl rfl rfl rfl h1.1 h1.2 dX12_blind_2 ?_
  refine V_nz (fun z2 ez2 => ?_)
  have hf := hf z2 ez2
  refine V_iconst (v := (0 : Int32)) dX12_blind_5 (by decide) ?_
  refine V_istore_n (ls2 := [(1, .int (0 : Int32)), (0, .ref a0)]) dX12_blind_6 rfl (by decide) rfl ?_
  refine V_iconst (v := (0 : Int32)) dX12_blind_7 (by decide) ?_
  refine V_istore_n (ls2 := [(2, .int (0 : Int32)), (1, .int (0 : Int32)), (0, .ref a0)]) dX12_blind_8 rfl (by decide) rfl ?_
  obtain ⟨N, hf⟩ := hf
  refine V_to [2, 1, 0] rfl ?_
  exact vX12_blind_L9 hn N _ _ _ _ hf
def wX12_likeIn_J45 (n : Nat) (sh : Nat → Nat × Nat) (k5 : Nat → Int32 → Int32 → Int32 → Int32 → gS → Prop) (P : Int32 → gS → Prop) (a0 : Nat) (x1 : Int32) (x2 : Int32) (x4 : Int32) (s0 : Int32) (s1 : Int32) (z : gS) : Prop := ∀ v7 : Int32, v7 = (s1 + s0) → (∀ v8 : Int32, v8 = x4 + (1 : Int32) → k5 a0 x1 x2 v7 v8 z)
set_option maxRecDepth 100000 in
set_option maxHeartbeats 4000000 in
theorem vX12_likeIn_J45 {E : gE} {n : Nat} {sh : Nat → Nat × Nat} {P : Int32 → gS → Prop} {k5 : Nat → Int32 → Int32 → Int32 → Int32 → gS → Prop} {a0 : Nat} {x1 : Int32} {x2 : Int32} {x4 : Int32} {s0 : Int32} {s1 : Int32} {z : gS} (hn : gOK E n) (hk5 : ∀ (a0 : Nat) (x1 : Int32) (x2 : Int32) (x3 : Int32) (x4 : Int32) (z : gS), k5 a0 x1 x2 x3 x4 z → V E (gR 1 0) gyX12_likeIn 0 0 5 [(0, .ref a0), (1, .int x1), (2, .int x2), (3, .int x3), (4, .int x4)] [] n sh z (kI n sh P)) (hf : wX12_likeIn_J45 n sh k5 P a0 x1 x2 x4 s0 s1 z) : V E (gR 1 0) gyX12_likeIn 0 0 45 [(0, .ref a0), (1, .int x1), (2, .int x2), (4, .int x4)] [.int s0, .int s1] n sh z (kI n sh P) := by
  unfold wX12_likeIn_J45 at hf
  refine V_iadd dX12_likeIn_45 ?_
  refine V_nI (fun v7 ev7 => ?_)
  have hf := hf v7 ev7
  refine V_istore_n (ls2 := [(3, .int v7), (0, .ref a0), (1, .int x1), (2, .int x2), (4, .int x4)]) dX12_likeIn_46 rfl (by decide) rfl ?_
  obtain ⟨v8, ev8⟩ : ∃ y : Int32, y = x4 + (1 : Int32) := ⟨_, rfl⟩
  refine V_iinc (j := 4) (v := v8) (ls2 := [(4, .int v8), (3, .int v7), (0, .ref a0), (1, .int x1), (2, .int x2)]) dX12_likeIn_47 rfl (by rw [ev8]; rfl) (by decide) rfl ?_
  have hf := hf v8 ev8
  refine V_goto (tgt := 5) dX12_likeIn_50 (by decide) ?_
  refine V_to [2, 3, 4, 1, 0] rfl ?_
  exact hk5 _ _ _ _ _ _ hf
def wX12_likeIn_B5 (n : Nat) (sh : Nat → Nat × Nat) (k5 : Nat → Int32 → Int32 → Int32 → Int32 → gS → Prop) (P : Int32 → gS → Prop) (a0 : Nat) (x1 : Int32) (x2 : Int32) (x3 : Int32) (x4 : Int32) (z : gS) : Prop := (oO n sh a0 8) ∧ (∃ t2 : Nat, gr z a0 24 = some t2 ∧ ((oA n sh t2 1) ∧ ((vp_in ((18 : Int32) + x1) (sh t2).2) ∧ (if (gi z t2 ((18 : Int32) + x1).toNatClampNeg) ≤ x4 then P x3 z else (wX12_markOf n sh a0 (0 : Int32) x1 x4 z (fun (r5 : Int32) (z6 : gS) => if (r5 &&& (1023 : Int32)) = (x2 &&& (1023 : Int32)) then wX12_likeIn_J45 n sh k5 P a0 x1 x2 x4 (1 : Int32) x3 z6 else wX12_likeIn_J45 n sh k5 P a0 x1 x2 x4 (0 : Int32) x3 z6))))))
def wX12_likeIn_L5 (n : Nat) (sh : Nat → Nat × Nat) (P : Int32 → gS → Prop) : Nat → Nat → Int32 → Int32 → Int32 → Int32 → gS → Prop
  | 0, _, _, _, _, _, _ => False
  | N + 1, a0, x1, x2, x3, x4, z => wX12_likeIn_B5 n sh (wX12_likeIn_L5 n sh P N) P a0 x1 x2 x3 x4 z
set_option maxRecDepth 100000 in
set_option maxHeartbeats 4000000 in
theorem vX12_likeIn_B5 {E : gE} {n : Nat} {sh : Nat → Nat × Nat} {P : Int32 → gS → Prop} {k5 : Nat → Int32 → Int32 → Int32 → Int32 → gS → Prop} {a0 : Nat} {x1 : Int32} {x2 : Int32} {x3 : Int32} {x4 : Int32} {z : gS} (hn : gOK E n) (hk5 : ∀ (a0 : Nat) (x1 : Int32) (x2 : Int32) (x3 : Int32) (x4 : Int32) (z : gS), k5 a0 x1 x2 x3 x4 z → V E (gR 1 0) gyX12_likeIn 0 0 5 [(0, .ref a0), (1, .int x1), (2, .int x2), (3, .int x3), (4, .int x4)] [] n sh z (kI n sh P)) (hf : wX12_likeIn_B5 n sh k5 P a0 x1 x2 x3 x4 z) : V E (gR 1 0) gyX12_likeIn 0 0 5 [(0, .ref a0), (1, .int x1), (2, .int x2), (3, .int x3), (4, .int x4)] [] n sh z (kI n sh P) := by
  unfold wX12_likeIn_B5 at hf
  refine V_iload (j := 4) dX12_likeIn_5 rfl ?_
  refine V_aload_n (j := 0) dX12_likeIn_7 rfl rfl ?_
  obtain ⟨h1, hf⟩ := hf
  obtain ⟨t2, et2, hf⟩ := hf
  refine V_getR fl_X12_119 rfl h1.1 h1.2 et2 dX12_likeIn_8 ?_
  refine V_bipush (v := (18 : Int32)) dX12_likeIn_11 (by decide) ?_
  refine V_iload_n (j := 1) dX12_likeIn_13 rfl rfl ?_
  refine V_iadd dX12_likeIn_14 ?_
  obtain ⟨h3, hf⟩ := hf
  obtain ⟨h4, hf⟩ := hf
  refine V_iald h3.1 h3.s h4 dX12_likeIn_15 ?_
  refine V_icmp_ge (tgt := 53) dX12_likeIn_16 (by decide) (fun h10 => ?_) (fun h10 => ?_)
  · have hf := it_t h10 hf
    refine V_iload_n (j := 3) dX12_likeIn_53 rfl rfl ?_
    exact V_ireturn dX12_likeIn_54 rfl rfl (Nat.le_refl 0) (kI_of hf)
  · have hf := it_f h10 hf
    refine V_iload_n (j := 3) dX12_likeIn_19 rfl rfl ?_
    refine V_aload_n (j := 0) dX12_likeIn_20 rfl rfl ?_
    refine V_iconst (v := (0 : Int32)) dX12_likeIn_21 (by decide) ?_
    refine V_iload_n (j := 1) dX12_likeIn_22 rfl rfl ?_
    refine V_iload (j := 4) dX12_likeIn_23 rfl ?_
    refine V_cVI (ctX12_markOf hn hf) gc_X12_300 rfl h1.1 ⟨_, h1.2, by decide, rfl⟩ ⟨by decide, by decide, Nat.zero_le _, Nat.zero_le _⟩ (Nat.le_of_ble_eq_true rfl) dX12_likeIn_25 rfl hn (fun r5 z6 hf => ?_)
    refine V_sipush (v := (1023 : Int32)) dX12_likeIn_28 (by decide) ?_
    refine V_iand dX12_likeIn_31 ?_
    refine V_iload_n (j := 2) dX12_likeIn_32 rfl rfl ?_
    refine V_sipush (v := (1023 : Int32)) dX12_likeIn_33 (by decide) ?_
    refine V_iand dX12_likeIn_36 ?_
    refine V_icmp_ne (tgt := 44) dX12_likeIn_37 (by decide) (fun h9 => ?_) (fun h9 => ?_)
    · have hf := it_f h9 hf
      refine V_iconst (v := (0 : Int32)) dX12_likeIn_44 (by decide) ?_
      refine V_to [0, 1, 2, 4] rfl ?_
      exact vX12_likeIn_J45 hn hk5 hf
    · have hf := it_t (Classical.not_not.mp h9) hf
      refine V_iconst (v := (1 : Int32)) dX12_likeIn_40 (by decide) ?_
      refine V_goto (tgt := 45) dX12_likeIn_41 (by decide) ?_
      refine V_to [0, 1, 2, 4] rfl ?_
      exact vX12_likeIn_J45 hn hk5 hf
set_option maxRecDepth 100000 in
set_option maxHeartbeats 4000000 in
theorem vX12_likeIn_L5 {E : gE} {n : Nat} {sh : Nat → Nat × Nat} {P : Int32 → gS → Prop} (hn : gOK E n) : ∀ (N : Nat) (a0 : Nat) (x1 : Int32) (x2 : Int32) (x3 : Int32) (x4 : Int32) (z : gS), wX12_likeIn_L5 n sh P N a0 x1 x2 x3 x4 z → V E (gR 1 0) gyX12_likeIn 0 0 5 [(0, .ref a0), (1, .int x1), (2, .int x2), (3, .int x3), (4, .int x4)] [] n sh z (kI n sh P) := by
  intro N
  induction N with
  | zero => intro a0 x1 x2 x3 x4 z hf; exact False.elim hf
  | succ N ih => intro a0 x1 x2 x3 x4 z hf; exact vX12_likeIn_B5 hn ih hf
def wX12_likeIn (n : Nat) (sh : Nat → Nat × Nat) (a0 : Nat) (x1 : Int32) (x2 : Int32) (z : gS) (P : Int32 → gS → Prop) : Prop := (∃ N, wX12_likeIn_L5 n sh P N a0 x1 x2 (0 : Int32) (0 : Int32) z)
set_option maxRecDepth 100000 in
set_option maxHeartbeats 4000000 in
theorem ctX12_likeIn {E : gE} {n : Nat} {sh : Nat → Nat × Nat} {a0 : Nat} {x1 : Int32} {x2 : Int32} {z : gS} {P : Int32 → gS → Prop} (hn : gOK E n) (hf : wX12_likeIn n sh a0 x1 x2 z P) : VM E 1 0 gyX12_likeIn [.ref a0, .int x1, .int x2] n sh z (kI n sh P) := by
  unfold wX12_likeIn at hf
  refine VM.of (by decide +kernel) (Nat.le_of_ble_eq_true rfl) (fun _ _ _ h => h.2.2) ?_
  show V E (gR 1 0) gyX12_likeIn 0 0 0 [(0, .ref a0), (1, .int x1), (2, .int x2)] [] n sh z (kI n sh P)
  refine V_iconst (v := (0 : Int32)) dX12_likeIn_0 (by decide) ?_
  refine V_istore_n (ls2 := [(3, .int (0 : Int32)), (0, .ref a0), (1, .int x1), (2, .int x2)]) dX12_likeIn_1 rfl (by decide) rfl ?_
  refine V_iconst (v := (0 : Int32)) dX12_likeIn_2 (by decide) ?_
  refine V_istore (ls2 := [(4, .int (0 : Int32)), (3, .int (0 : Int32)), (0, .ref a0), (1, .int x1), (2, .int x2)]) dX12_likeIn_3 (by decide) rfl ?_
  obtain ⟨N, hf⟩ := hf
  refine V_to [2, 3, 4, 1, 0] rfl ?_
  exact vX12_likeIn_L5 hn N _ _ _ _ _ _ hf
def wX12_twin_J149 (n : Nat) (sh : Nat → Nat × Nat) (k33 : Nat → Int32 → Int32 → Int32 → Int32 → gS → Prop) (P : Int32 → gS → Prop) (a0 : Nat) (x1 : Int32) (x2 : Int32) (x4 : Int32) (s0 : Int32) (s1 : Int32) (z : gS) : Prop := ∀ v18 : Int32, v18 = (s1 + s0) → (∀ v19 : Int32, v19 = x4 + (1 : Int32) → k33 a0 x1 x2 v18 v19 z)
set_option maxRecDepth 100000 in
set_option maxHeartbeats 4000000 in
theorem vX12_twin_J149 {E : gE} {n : Nat} {sh : Nat → Nat × Nat} {P : Int32 → gS → Prop} {k33 : Nat → Int32 → Int32 → Int32 → Int32 → gS → Prop} {a0 : Nat} {x1 : Int32} {x2 : Int32} {x4 : Int32} {s0 : Int32} {s1 : Int32} {z : gS} (hn : gOK E n) (hk33 : ∀ (a0 : Nat) (x1 : Int32) (x2 : Int32) (x3 : Int32) (x4 : Int32) (z : gS), k33 a0 x1 x2 x3 x4 z → V E (gR 2 0) gyX12_twin 0 0 33 [(0, .ref a0), (1, .int x1), (2, .int x2), (3, .int x3), (4, .int x4)] [] n sh z (kI n sh P)) (hf : wX12_twin_J149 n sh k33 P a0 x1 x2 x4 s0 s1 z) : V E (gR 2 0) gyX12_twin 0 0 149 [(0, .ref a0), (1, .int x1), (2, .int x2), (4, .int x4)] [.int s0, .int s1] n sh z (kI n sh P) := by
  unfold wX12_twin_J149 at hf
  refine V_iadd dX12_twin_149 ?_
  refine V_nI (fun v18 ev18 => ?_)
  have hf := hf v18 ev18
  refine V_istore_n (ls2 := [(3, .int v18), (0, .ref a0), (1, .int x1), (2, .int x2), (4, .int x4)]) dX12_twin_150 rfl (by decide) rfl ?_
  obtain ⟨v19, ev19⟩ : ∃ y : Int32, y = x4 + (1 : Int32) := ⟨_, rfl⟩
  refine V_iinc (j := 4) (v := v19) (ls2 := [(4, .int v19), (3, .int v18), (0, .ref a0), (1, .int x1), (2, .int x2)]) dX12_twin_151 rfl (by rw [ev19]; rfl) (by decide) rfl ?_
  have hf := hf v19 ev19
  refine V_goto (tgt := 33) dX12_twin_154 (by decide) ?_
  refine V_to [2, 3, 4, 1, 0] rfl ?_
  exact hk33 _ _ _ _ _ _ hf
def wX12_twin_J98 (n : Nat) (sh : Nat → Nat × Nat) (k33 : Nat → Int32 → Int32 → Int32 → Int32 → gS → Prop) (k63 : Nat → Int32 → Int32 → Int32 → Int32 → Int32 → Int32 → Int32 → gS → Prop) (P : Int32 → gS → Prop) (a0 : Nat) (x1 : Int32) (x2 : Int32) (x3 : Int32) (x4 : Int32) (x5 : Int32) (x7 : Int32) (s0 : Int32) (s1 : Int32) (z : gS) : Prop := ∀ v25 : Int32, v25 = (s1 + s0) → (∀ v26 : Int32, v26 = x7 + (1 : Int32) → k63 a0 x1 x2 x3 x4 x5 v25 v26 z)
set_option maxRecDepth 100000 in
set_option maxHeartbeats 4000000 in
theorem vX12_twin_J98 {E : gE} {n : Nat} {sh : Nat → Nat × Nat} {P : Int32 → gS → Prop} {k33 : Nat → Int32 → Int32 → Int32 → Int32 → gS → Prop} {k63 : Nat → Int32 → Int32 → Int32 → Int32 → Int32 → Int32 → Int32 → gS → Prop} {a0 : Nat} {x1 : Int32} {x2 : Int32} {x3 : Int32} {x4 : Int32} {x5 : Int32} {x7 : Int32} {s0 : Int32} {s1 : Int32} {z : gS} (hn : gOK E n) (hk33 : ∀ (a0 : Nat) (x1 : Int32) (x2 : Int32) (x3 : Int32) (x4 : Int32) (z : gS), k33 a0 x1 x2 x3 x4 z → V E (gR 2 0) gyX12_twin 0 0 33 [(0, .ref a0), (1, .int x1), (2, .int x2), (3, .int x3), (4, .int x4)] [] n sh z (kI n sh P)) (hk63 : ∀ (a0 : Nat) (x1 : Int32) (x2 : Int32) (x3 : Int32) (x4 : Int32) (x5 : Int32) (x6 : Int32) (x7 : Int32) (z : gS), k63 a0 x1 x2 x3 x4 x5 x6 x7 z → V E (gR 2 0) gyX12_twin 0 0 63 [(0, .ref a0), (1, .int x1), (2, .int x2), (3, .int x3), (4, .int x4), (5, .int x5), (6, .int x6), (7, .int x7)] [] n sh z (kI n sh P)) (hf : wX12_twin_J98 n sh k33 k63 P a0 x1 x2 x3 x4 x5 x7 s0 s1 z) : V E (gR 2 0) gyX12_twin 0 0 98 [(0, .ref a0), (1, .int x1), (2, .int x2), (3, .int x3), (4, .int x4), (5, .int x5), (7, .int x7)] [.int s0, .int s1] n sh z (kI n sh P) := by
  unfold wX12_twin_J98 at hf
  refine V_iadd dX12_twin_98 ?_
  refine V_nI (fun v25 ev25 => ?_)
  have hf := hf v25 ev25
  refine V_istore (ls2 := [(6, .int v25), (0, .ref a0), (1, .int x1), (2, .int x2), (3, .int x3), (4, .int x4), (5, .int x5), (7, .int x7)]) dX12_twin_99 (by decide) rfl ?_
  obtain ⟨v26, ev26⟩ : ∃ y : Int32, y = x7 + (1 : Int32) := ⟨_, rfl⟩
  refine V_iinc (j := 7) (v := v26) (ls2 := [(7, .int v26), (6, .int v25), (0, .ref a0), (1, .int x1), (2, .int x2), (3, .int x3), (4, .int x4), (5, .int x5)]) dX12_twin_101 rfl (by rw [ev26]; rfl) (by decide) rfl ?_
  have hf := hf v26 ev26
  refine V_goto (tgt := 63) dX12_twin_104 (by decide) ?_
  refine V_to [2, 3, 4, 5, 6, 7, 1, 0] rfl ?_
  exact hk63 _ _ _ _ _ _ _ _ _ hf
def wX12_twin_B63 (n : Nat) (sh : Nat → Nat × Nat) (k33 : Nat → Int32 → Int32 → Int32 → Int32 → gS → Prop) (k63 : Nat → Int32 → Int32 → Int32 → Int32 → Int32 → Int32 → Int32 → gS → Prop) (P : Int32 → gS → Prop) (a0 : Nat) (x1 : Int32) (x2 : Int32) (x3 : Int32) (x4 : Int32) (x5 : Int32) (x6 : Int32) (x7 : Int32) (z : gS) : Prop := if x4 ≤ x7 then ((oO n sh a0 8) ∧ (wX12_likeIn n sh a0 x1 x5 z (fun (r13 : Int32) (z14 : gS) => wX12_likeIn n sh a0 x2 x5 z14 (fun (r16 : Int32) (z17 : gS) => if x6 ≤ 0 then (if r16 ≤ r13 then wX12_twin_J149 n sh k33 P a0 x1 x2 x4 r16 x3 z17 else wX12_twin_J149 n sh k33 P a0 x1 x2 x4 r13 x3 z17) else wX12_twin_J149 n sh k33 P a0 x1 x2 x4 (0 : Int32) x3 z17)))) else ((oO n sh a0 8) ∧ (wX12_markOf n sh a0 (0 : Int32) x1 x7 z (fun (r22 : Int32) (z23 : gS) => if (r22 &&& (1023 : Int32)) = (x5 &&& (1023 : Int32)) then wX12_twin_J98 n sh k33 k63 P a0 x1 x2 x3 x4 x5 x7 (1 : Int32) x6 z23 else wX12_twin_J98 n sh k33 k63 P a0 x1 x2 x3 x4 x5 x7 (0 : Int32) x6 z23)))
def wX12_twin_L63 (n : Nat) (sh : Nat → Nat × Nat) (k33 : Nat → Int32 → Int32 → Int32 → Int32 → gS → Prop) (P : Int32 → gS → Prop) : Nat → Nat → Int32 → Int32 → Int32 → Int32 → Int32 → Int32 → Int32 → gS → Prop
  | 0, _, _, _, _, _, _, _, _, _ => False
  | N + 1, a0, x1, x2, x3, x4, x5, x6, x7, z => wX12_twin_B63 n sh k33 (wX12_twin_L63 n sh k33 P N) P a0 x1 x2 x3 x4 x5 x6 x7 z
set_option maxRecDepth 100000 in
set_option maxHeartbeats 4000000 in
theorem vX12_twin_B63 {E : gE} {n : Nat} {sh : Nat → Nat × Nat} {P : Int32 → gS → Prop} {k33 : Nat → Int32 → Int32 → Int32 → Int32 → gS → Prop} {k63 : Nat → Int32 → Int32 → Int32 → Int32 → Int32 → Int32 → Int32 → gS → Prop} {a0 : Nat} {x1 : Int32} {x2 : Int32} {x3 : Int32} {x4 : Int32} {x5 : Int32} {x6 : Int32} {x7 : Int32} {z : gS} (hn : gOK E n) (hk33 : ∀ (a0 : Nat) (x1 : Int32) (x2 : Int32) (x3 : Int32) (x4 : Int32) (z : gS), k33 a0 x1 x2 x3 x4 z → V E (gR 2 0) gyX12_twin 0 0 33 [(0, .ref a0), (1, .int x1), (2, .int x2), (3, .int x3), (4, .int x4)] [] n sh z (kI n sh P)) (hk63 : ∀ (a0 : Nat) (x1 : Int32) (x2 : Int32) (x3 : Int32) (x4 : Int32) (x5 : Int32) (x6 : Int32) (x7 : Int32) (z : gS), k63 a0 x1 x2 x3 x4 x5 x6 x7 z → V E (gR 2 0) gyX12_twin 0 0 63 [(0, .ref a0), (1, .int x1), (2, .int x2), (3, .int x3), (4, .int x4), (5, .int x5), (6, .int x6), (7, .int x7)] [] n sh z (kI n sh P)) (hf : wX12_twin_B63 n sh k33 k63 P a0 x1 x2 x3 x4 x5 x6 x7 z) : V E (gR 2 0) gyX12_twin 0 0 63 [(0, .ref a0), (1, .int x1), (2, .int x2), (3, .int x3), (4, .int x4), (5, .int x5), (6, .int x6), (7, .int x7)] [] n sh z (kI n sh P) := by
  unfold wX12_twin_B63 at hf
  refine V_iload (j := 7) dX12_twin_63 rfl ?_
  refine V_iload (j := 4) dX12_twin_65 rfl ?_
  refine V_icmp_ge (tgt := 107) dX12_twin_67 (by decide) (fun h28 => ?_) (fun h28 => ?_)
  · have hf := it_t h28 hf
    refine V_aload_n (j := 0) dX12_twin_107 rfl rfl ?_
    refine V_iload_n (j := 1) dX12_twin_108 rfl rfl ?_
    refine V_iload (j := 5) dX12_twin_109 rfl ?_
    obtain ⟨h15, hf⟩ := hf
    refine V_cVI (ctX12_likeIn hn hf) gc_X12_383 rfl h15.1 ⟨_, h15.2, by decide, rfl⟩ ⟨by decide, by decide, Nat.zero_le _, Nat.zero_le _⟩ (Nat.le_of_ble_eq_true rfl) dX12_twin_111 rfl hn (fun r13 z14 hf => ?_)
    refine V_istore (ls2 := [(7, .int r13), (0, .ref a0), (1, .int x1), (2, .int x2), (3, .int x3), (4, .int x4), (5, .int x5), (6, .int x6)]) dX12_twin_114 (by decide) rfl ?_
    refine V_aload_n (j := 1) dX12_twin_116 rfl rfl ?_
    refine V_iload_n (j := 3) dX12_twin_117 rfl rfl ?_
    refine V_iload (j := 6) dX12_twin_118 rfl ?_
    refine V_cVI (ctX12_likeIn hn hf) gc_X12_383 rfl h15.1 ⟨_, h15.2, by decide, rfl⟩ ⟨by decide, by decide, Nat.zero_le _, Nat.zero_le _⟩ (Nat.le_of_ble_eq_true rfl) dX12_twin_120 rfl hn (fun r16 z17 hf => ?_)
    refine V_istore (ls2 := [(8, .int r16), (7, .int r13), (0, .ref a0), (1, .int x1), (2, .int x2), (3, .int x3), (4, .int x4), (5, .int x5), (6, .int x6)]) dX12_twin_123 (by decide) rfl ?_
    refine V_iload_n (j := 5) dX12_twin_125 rfl rfl ?_
    refine V_iload (j := 8) dX12_twin_126 rfl ?_
    refine V_if_le (tgt := 135) dX12_twin_128 (by decide) (fun h21 => ?_) (fun h21 => ?_)
    · have hf := it_t h21 hf
      refine V_iload (j := 1) dX12_twin_135 rfl ?_
      refine V_iload (j := 0) dX12_twin_137 rfl ?_
      refine V_icmp_ge (tgt := 147) dX12_twin_139 (by decide) (fun h20 => ?_) (fun h20 => ?_)
      · have hf := it_t h20 hf
        refine V_iload (j := 0) dX12_twin_147 rfl ?_
        refine V_to [2, 3, 4, 6] rfl ?_
        exact vX12_twin_J149 hn hk33 hf
      · have hf := it_f h20 hf
        refine V_iload (j := 1) dX12_twin_142 rfl ?_
        refine V_goto (tgt := 149) dX12_twin_144 (by decide) ?_
        refine V_to [2, 3, 4, 6] rfl ?_
        exact vX12_twin_J149 hn hk33 hf
    · have hf := it_f h21 hf
      refine V_iconst (v := (0 : Int32)) dX12_twin_131 (by decide) ?_
      refine V_goto (tgt := 149) dX12_twin_132 (by decide) ?_
      refine V_to [2, 3, 4, 6] rfl ?_
      exact vX12_twin_J149 hn hk33 hf
  · have hf := it_f h28 hf
    refine V_iload (j := 6) dX12_twin_70 rfl ?_
    refine V_aload_n (j := 0) dX12_twin_72 rfl rfl ?_
    refine V_iconst (v := (0 : Int32)) dX12_twin_73 (by decide) ?_
    refine V_iload_n (j := 1) dX12_twin_74 rfl rfl ?_
    refine V_iload (j := 7) dX12_twin_75 rfl ?_
    obtain ⟨h24, hf⟩ := hf
    refine V_cVI (ctX12_markOf hn hf) gc_X12_300 rfl h24.1 ⟨_, h24.2, by decide, rfl⟩ ⟨by decide, by decide, Nat.zero_le _, Nat.zero_le _⟩ (Nat.le_of_ble_eq_true rfl) dX12_twin_77 rfl hn (fun r22 z23 hf => ?_)
    refine V_sipush (v := (1023 : Int32)) dX12_twin_80 (by decide) ?_
    refine V_iand dX12_twin_83 ?_
    refine V_iload (j := 5) dX12_twin_84 rfl ?_
    refine V_sipush (v := (1023 : Int32)) dX12_twin_86 (by decide) ?_
    refine V_iand dX12_twin_89 ?_
    refine V_icmp_ne (tgt := 97) dX12_twin_90 (by decide) (fun h27 => ?_) (fun h27 => ?_)
    · have hf := it_f h27 hf
      refine V_iconst (v := (0 : Int32)) dX12_twin_97 (by decide) ?_
      refine V_to [0, 1, 2, 3, 4, 5, 7] rfl ?_
      exact vX12_twin_J98 hn hk33 hk63 hf
    · have hf := it_t (Classical.not_not.mp h27) hf
      refine V_iconst (v := (1 : Int32)) dX12_twin_93 (by decide) ?_
      refine V_goto (tgt := 98) dX12_twin_94 (by decide) ?_
      refine V_to [0, 1, 2, 3, 4, 5, 7] rfl ?_
      exact vX12_twin_J98 hn hk33 hk63 hf
set_option maxRecDepth 100000 in
set_option maxHeartbeats 4000000 in
theorem vX12_twin_L63 {E : gE} {n : Nat} {sh : Nat → Nat × Nat} {P : Int32 → gS → Prop} {k33 : Nat → Int32 → Int32 → Int32 → Int32 → gS → Prop} (hn : gOK E n) (hk33 : ∀ (a0 : Nat) (x1 : Int32) (x2 : Int32) (x3 : Int32) (x4 : Int32) (z : gS), k33 a0 x1 x2 x3 x4 z → V E (gR 2 0) gyX12_twin 0 0 33 [(0, .ref a0), (1, .int x1), (2, .int x2), (3, .int x3), (4, .int x4)] [] n sh z (kI n sh P)) : ∀ (N : Nat) (a0 : Nat) (x1 : Int32) (x2 : Int32) (x3 : Int32) (x4 : Int32) (x5 : Int32) (x6 : Int32) (x7 : Int32) (z : gS), wX12_twin_L63 n sh k33 P N a0 x1 x2 x3 x4 x5 x6 x7 z → V E (gR 2 0) gyX12_twin 0 0 63 [(0, .ref a0), (1, .int x1), (2, .int x2), (3, .int x3), (4, .int x4), (5, .int x5), (6, .int x6), (7, .int x7)] [] n sh z (kI n sh P) := by
  intro N
  induction N with
  | zero => intro a0 x1 x2 x3 x4 x5 x6 x7 z hf; exact False.elim hf
  | succ N ih => intro a0 x1 x2 x3 x4 x5 x6 x7 z hf; exact vX12_twin_B63 hn hk33 ih hf
def wX12_twin_B33 (n : Nat) (sh : Nat → Nat × Nat) (k33 : Nat → Int32 → Int32 → Int32 → Int32 → gS → Prop) (P : Int32 → gS → Prop) (a0 : Nat) (x1 : Int32) (x2 : Int32) (x3 : Int32) (x4 : Int32) (z : gS) : Prop := (oO n sh a0 8) ∧ (∃ t8 : Nat, gr z a0 24 = some t8 ∧ ((oA n sh t8 1) ∧ ((vp_in ((18 : Int32) + x1) (sh t8).2) ∧ (if (gi z t8 ((18 : Int32) + x1).toNatClampNeg) ≤ x4 then P x3 z else (wX12_markOf n sh a0 (0 : Int32) x1 x4 z (fun (r11 : Int32) (z12 : gS) => (∃ N, wX12_twin_L63 n sh k33 P N a0 x1 x2 x3 x4 r11 (0 : Int32) (0 : Int32) z12)))))))
def wX12_twin_L33 (n : Nat) (sh : Nat → Nat × Nat) (P : Int32 → gS → Prop) : Nat → Nat → Int32 → Int32 → Int32 → Int32 → gS → Prop
  | 0, _, _, _, _, _, _ => False
  | N + 1, a0, x1, x2, x3, x4, z => wX12_twin_B33 n sh (wX12_twin_L33 n sh P N) P a0 x1 x2 x3 x4 z
set_option maxRecDepth 100000 in
set_option maxHeartbeats 4000000 in
theorem vX12_twin_B33 {E : gE} {n : Nat} {sh : Nat → Nat × Nat} {P : Int32 → gS → Prop} {k33 : Nat → Int32 → Int32 → Int32 → Int32 → gS → Prop} {a0 : Nat} {x1 : Int32} {x2 : Int32} {x3 : Int32} {x4 : Int32} {z : gS} (hn : gOK E n) (hk33 : ∀ (a0 : Nat) (x1 : Int32) (x2 : Int32) (x3 : Int32) (x4 : Int32) (z : gS), k33 a0 x1 x2 x3 x4 z → V E (gR 2 0) gyX12_twin 0 0 33 [(0, .ref a0), (1, .int x1), (2, .int x2), (3, .int x3), (4, .int x4)] [] n sh z (kI n sh P)) (hf : wX12_twin_B33 n sh k33 P a0 x1 x2 x3 x4 z) : V E (gR 2 0) gyX12_twin 0 0 33 [(0, .ref a0), (1, .int x1), (2, .int x2), (3, .int x3), (4, .int x4)] [] n sh z (kI n sh P) := by
  unfold wX12_twin_B33 at hf
  refine V_iload (j := 4) dX12_twin_33 rfl ?_
  refine V_aload_n (j := 0) dX12_twin_35 rfl rfl ?_
  obtain ⟨h7, hf⟩ := hf
  obtain ⟨t8, et8, hf⟩ := hf
  refine V_getR fl_X12_119 rfl h7.1 h7.2 et8 dX12_twin_36 ?_
  refine V_bipush (v := (18 : Int32)) dX12_twin_39 (by decide) ?_
  refine V_iload_n (j := 1) dX12_twin_41 rfl rfl ?_
  refine V_iadd dX12_twin_42 ?_
  obtain ⟨h9, hf⟩ := hf
  obtain ⟨h10, hf⟩ := hf
  refine V_iald h9.1 h9.s h10 dX12_twin_43 ?_
  refine V_icmp_ge (tgt := 157) dX12_twin_44 (by decide) (fun h29 => ?_) (fun h29 => ?_)
  · have hf := it_t h29 hf
    refine V_iload_n (j := 3) dX12_twin_157 rfl rfl ?_
    exact V_ireturn dX12_twin_158 rfl rfl (Nat.le_refl 0) (kI_of hf)
  · have hf := it_f h29 hf
    refine V_aload_n (j := 0) dX12_twin_47 rfl rfl ?_
    refine V_iconst (v := (0 : Int32)) dX12_twin_48 (by decide) ?_
    refine V_iload_n (j := 1) dX12_twin_49 rfl rfl ?_
    refine V_iload (j := 4) dX12_twin_50 rfl ?_
    refine V_cVI (ctX12_markOf hn hf) gc_X12_300 rfl h7.1 ⟨_, h7.2, by decide, rfl⟩ ⟨by decide, by decide, Nat.zero_le _, Nat.zero_le _⟩ (Nat.le_of_ble_eq_true rfl) dX12_twin_52 rfl hn (fun r11 z12 hf => ?_)
    refine V_istore (ls2 := [(5, .int r11), (0, .ref a0), (1, .int x1), (2, .int x2), (3, .int x3), (4, .int x4)]) dX12_twin_55 (by decide) rfl ?_
    refine V_iconst (v := (0 : Int32)) dX12_twin_57 (by decide) ?_
    refine V_istore (ls2 := [(6, .int (0 : Int32)), (5, .int r11), (0, .ref a0), (1, .int x1), (2, .int x2), (3, .int x3), (4, .int x4)]) dX12_twin_58 (by decide) rfl ?_
    refine V_iconst (v := (0 : Int32)) dX12_twin_60 (by decide) ?_
    refine V_istore (ls2 := [(7, .int (0 : Int32)), (6, .int (0 : Int32)), (5, .int r11), (0, .ref a0), (1, .int x1), (2, .int x2), (3, .int x3), (4, .int x4)]) dX12_twin_61 (by decide) rfl ?_
    obtain ⟨N, hf⟩ := hf
    refine V_to [3, 4, 5, 6, 7, 2, 1, 0] rfl ?_
    exact vX12_twin_L63 hn hk33 N _ _ _ _ _ _ _ _ _ hf
set_option maxRecDepth 100000 in
set_option maxHeartbeats 4000000 in
theorem vX12_twin_L33 {E : gE} {n : Nat} {sh : Nat → Nat × Nat} {P : Int32 → gS → Prop} (hn : gOK E n) : ∀ (N : Nat) (a0 : Nat) (x1 : Int32) (x2 : Int32) (x3 : Int32) (x4 : Int32) (z : gS), wX12_twin_L33 n sh P N a0 x1 x2 x3 x4 z → V E (gR 2 0) gyX12_twin 0 0 33 [(0, .ref a0), (1, .int x1), (2, .int x2), (3, .int x3), (4, .int x4)] [] n sh z (kI n sh P) := by
  intro N
  induction N with
  | zero => intro a0 x1 x2 x3 x4 z hf; exact False.elim hf
  | succ N ih => intro a0 x1 x2 x3 x4 z hf; exact vX12_twin_B33 hn ih hf
def wX12_twin (n : Nat) (sh : Nat → Nat × Nat) (a0 : Nat) (x1 : Int32) (x2 : Int32) (z : gS) (P : Int32 → gS → Prop) : Prop := (oO n sh a0 8) ∧ (∀ z2 : gS, z2 = si z a0 0 (0 : Int32) → (wX12_isPane n sh a0 x1 z2 (fun (r3 : Int32) (z4 : gS) => if r3 = 0 then P (-1 : Int32) z4 else (wX12_isPane n sh a0 x2 z4 (fun (r5 : Int32) (z6 : gS) => if r5 = 0 then P (-1 : Int32) z6 else (if x1 = x2 then P (-1 : Int32) z6 else ((∃ N, wX12_twin_L33 n sh P N a0 x1 x2 (0 : Int32) (0 : Int32) z6))))))))
set_option maxRecDepth 100000 in
set_option maxHeartbeats 4000000 in
theorem ctX12_twin {E : gE} {n : Nat} {sh : Nat → Nat × Nat} {a0 : Nat} {x1 : Int32} {x2 : Int32} {z : gS} {P : Int32 → gS → Prop} (hn : gOK E n) (hf : wX12_twin n sh a0 x1 x2 z P) : VM E 2 0 gyX12_twin [.ref a0, .int x1, .int x2] n sh z (kI n sh P) := by
  unfold wX12_twin at hf
  refine VM.of (by decide +kernel) (Nat.le_of_ble_eq_true rfl) (fun _ _ _ h => h.2.2) ?_
  show V E (gR 2 0) gyX12_twin 0 0 0 [(0, .ref a0), (1, .int x1), (2, .int x2)] [] n sh z (kI n sh P)
  refine V_aload_n (j := 0) dX12_twin_0 rfl rfl ?_
  refine V_iconst (v := (0 : Int32)) dX12_twin_1 (by decide) ?_
  obtain ⟨h1, hf⟩ := hf
  refine V_putI fl_X12_1 rfl rfl rfl rfl h1.1 h1.2 dX12_twin_2 ?_
  refine V_nz (fun z2 ez2 => ?_)
  have hf := hf z2 ez2
  refine V_aload_n (j := 0) dX12_twin_5 rfl rfl ?_
  refine V_iload_n (j := 1) dX12_twin_6 rfl rfl ?_
  refine V_cVI (ctX12_isPane hn hf) gc_X12_337 rfl h1.1 ⟨_, h1.2, by decide, rfl⟩ ⟨by decide, by decide, Nat.zero_le _, Nat.zero_le _⟩ (Nat.le_of_ble_eq_true rfl) dX12_twin_7 rfl hn (fun r3 z4 hf => ?_)
  refine V_if_eq (tgt := 26) dX12_twin_10 (by decide) (fun h32 => ?_) (fun h32 => ?_)
  · have hf := it_t h32 hf
    refine V_iconst (v := (-1 : Int32)) dX12_twin_26 (by decide) ?_
    exact V_ireturn dX12_twin_27 rfl rfl (Nat.le_refl 0) (kI_of hf)
  · have hf := it_f h32 hf
    refine V_aload_n (j := 0) dX12_twin_13 rfl rfl ?_
    refine V_iload_n (j := 2) dX12_twin_14 rfl rfl ?_
    refine V_cVI (ctX12_isPane hn hf) gc_X12_337 rfl h1.1 ⟨_, h1.2, by decide, rfl⟩ ⟨by decide, by decide, Nat.zero_le _, Nat.zero_le _⟩ (Nat.le_of_ble_eq_true rfl) dX12_twin_15 rfl hn (fun r5 z6 hf => ?_)
    refine V_if_eq (tgt := 26) dX12_twin_18 (by decide) (fun h31 => ?_) (fun h31 => ?_)
    · have hf := it_t h31 hf
      refine V_iconst (v := (-1 : Int32)) dX12_twin_26 (by decide) ?_
      exact V_ireturn dX12_twin_27 rfl rfl (Nat.le_refl 0) (kI_of hf)
    · have hf := it_f h31 hf
      refine V_iload_n (j := 1) dX12_twin_21 rfl rfl ?_
      refine V_iload_n (j := 2) dX12_twin_22 rfl rfl ?_
      refine V_icmp_ne (tgt := 28) dX12_twin_23 (by decide) (fun h30 => ?_) (fun h30 => ?_)
      · have hf := it_f h30 hf
        refine V_iconst (v := (0 : Int32)) dX12_twin_28 (by decide) ?_
        refine V_istore_n (ls2 := [(3, .int (0 : Int32)), (0, .ref a0), (1, .int x1), (2, .int x2)]) dX12_twin_29 rfl (by decide) rfl ?_
        refine V_iconst (v := (0 : Int32)) dX12_twin_30 (by decide) ?_
        refine V_istore (ls2 := [(4, .int (0 : Int32)), (3, .int (0 : Int32)), (0, .ref a0), (1, .int x1), (2, .int x2)]) dX12_twin_31 (by decide) rfl ?_
        obtain ⟨N, hf⟩ := hf
        refine V_to [2, 3, 4, 1, 0] rfl ?_
        exact vX12_twin_L33 hn N _ _ _ _ _ _ hf
      · have hf := it_t (Classical.not_not.mp h30) hf
        refine V_iconst (v := (-1 : Int32)) dX12_twin_26 (by decide) ?_
        exact V_ireturn dX12_twin_27 rfl rfl (Nat.le_refl 0) (kI_of hf)
def wX12_run_B27 (n : Nat) (sh : Nat → Nat × Nat) (k27 : Nat → Int32 → Int32 → gS → Prop) (P : Int32 → gS → Prop) (a0 : Nat) (x1 : Int32) (x2 : Int32) (z : gS) : Prop := if (100 : Int32) ≤ x2 then P (-1 : Int32) z else ((oO n sh a0 8) ∧ (∃ t8 : Nat, gr z a0 24 = some t8 ∧ ((oA n sh t8 1) ∧ ((vp_in ((1404 : Int32) + x1) (sh t8).2) ∧ (if (gi z t8 ((1404 : Int32) + x1).toNatClampNeg) = 0 then P x2 z else (wX12_passes n sh a0 (1386 : Int32) z (fun (r11 : Int32) (z12 : gS) => ∀ v13 : Int32, v13 = x2 + (1 : Int32) → k27 a0 x1 v13 z12)))))))
def wX12_run_L27 (n : Nat) (sh : Nat → Nat × Nat) (P : Int32 → gS → Prop) : Nat → Nat → Int32 → Int32 → gS → Prop
  | 0, _, _, _, _ => False
  | N + 1, a0, x1, x2, z => wX12_run_B27 n sh (wX12_run_L27 n sh P N) P a0 x1 x2 z
set_option maxRecDepth 100000 in
set_option maxHeartbeats 4000000 in
theorem vX12_run_B27 {E : gE} {n : Nat} {sh : Nat → Nat × Nat} {P : Int32 → gS → Prop} {k27 : Nat → Int32 → Int32 → gS → Prop} {a0 : Nat} {x1 : Int32} {x2 : Int32} {z : gS} (hn : gOK E n) (hk27 : ∀ (a0 : Nat) (x1 : Int32) (x2 : Int32) (z : gS), k27 a0 x1 x2 z → V E (gR 4 0) gyX12_run 0 0 27 [(0, .ref a0), (1, .int x1), (2, .int x2)] [] n sh z (kI n sh P)) (hf : wX12_run_B27 n sh k27 P a0 x1 x2 z) : V E (gR 4 0) gyX12_run 0 0 27 [(0, .ref a0), (1, .int x1), (2, .int x2)] [] n sh z (kI n sh P) := by
  unfold wX12_run_B27 at hf
  refine V_iload_n (j := 2) dX12_run_27 rfl rfl ?_
  refine V_bipush (v := (100 : Int32)) dX12_run_28 (by decide) ?_
  refine V_icmp_ge (tgt := 62) dX12_run_30 (by decide) (fun h15 => ?_) (fun h15 => ?_)
  · have hf := it_t h15 hf
    refine V_iconst (v := (-1 : Int32)) dX12_run_62 (by decide) ?_
    exact V_ireturn dX12_run_63 rfl rfl (Nat.le_refl 0) (kI_of hf)
  · have hf := it_f h15 hf
    refine V_aload_n (j := 0) dX12_run_33 rfl rfl ?_
    obtain ⟨h7, hf⟩ := hf
    obtain ⟨t8, et8, hf⟩ := hf
    refine V_getR fl_X12_119 rfl h7.1 h7.2 et8 dX12_run_34 ?_
    refine V_sipush (v := (1404 : Int32)) dX12_run_37 (by decide) ?_
    refine V_iload_n (j := 1) dX12_run_40 rfl rfl ?_
    refine V_iadd dX12_run_41 ?_
    obtain ⟨h9, hf⟩ := hf
    obtain ⟨h10, hf⟩ := hf
    refine V_iald h9.1 h9.s h10 dX12_run_42 ?_
    refine V_if_ne (tgt := 48) dX12_run_43 (by decide) (fun h14 => ?_) (fun h14 => ?_)
    · have hf := it_f h14 hf
      refine V_aload_n (j := 0) dX12_run_48 rfl rfl ?_
      refine V_sipush (v := (1386 : Int32)) dX12_run_49 (by decide) ?_
      refine V_cVI (ctX12_passes hn hf) gc_X12_361 rfl h7.1 ⟨_, h7.2, by decide, rfl⟩ ⟨by decide, by decide, Nat.zero_le _, Nat.zero_le _⟩ (Nat.le_of_ble_eq_true rfl) dX12_run_52 rfl hn (fun r11 z12 hf => ?_)
      refine V_pop dX12_run_55 rfl ?_
      obtain ⟨v13, ev13⟩ : ∃ y : Int32, y = x2 + (1 : Int32) := ⟨_, rfl⟩
      refine V_iinc (j := 2) (v := v13) (ls2 := [(2, .int v13), (0, .ref a0), (1, .int x1)]) dX12_run_56 rfl (by rw [ev13]; rfl) (by decide) rfl ?_
      have hf := hf v13 ev13
      refine V_goto (tgt := 27) dX12_run_59 (by decide) ?_
      refine V_to [1, 2, 0] rfl ?_
      exact hk27 _ _ _ _ hf
    · have hf := it_t (Classical.not_not.mp h14) hf
      refine V_iload_n (j := 2) dX12_run_46 rfl rfl ?_
      exact V_ireturn dX12_run_47 rfl rfl (Nat.le_refl 0) (kI_of hf)
set_option maxRecDepth 100000 in
set_option maxHeartbeats 4000000 in
theorem vX12_run_L27 {E : gE} {n : Nat} {sh : Nat → Nat × Nat} {P : Int32 → gS → Prop} (hn : gOK E n) : ∀ (N : Nat) (a0 : Nat) (x1 : Int32) (x2 : Int32) (z : gS), wX12_run_L27 n sh P N a0 x1 x2 z → V E (gR 4 0) gyX12_run 0 0 27 [(0, .ref a0), (1, .int x1), (2, .int x2)] [] n sh z (kI n sh P) := by
  intro N
  induction N with
  | zero => intro a0 x1 x2 z hf; exact False.elim hf
  | succ N ih => intro a0 x1 x2 z hf; exact vX12_run_B27 hn ih hf
def wX12_run (n : Nat) (sh : Nat → Nat × Nat) (a0 : Nat) (x1 : Int32) (z : gS) (P : Int32 → gS → Prop) : Prop := (oO n sh a0 8) ∧ (∀ z2 : gS, z2 = si z a0 0 (0 : Int32) → (wX12_isPane n sh a0 x1 z2 (fun (r3 : Int32) (z4 : gS) => if r3 = 0 then P (-1 : Int32) z4 else (wX12_copies n sh a0 (0 : Int32) (1386 : Int32) (60 : Int32) z4 (fun (z6 : gS) => (∃ N, wX12_run_L27 n sh P N a0 x1 (0 : Int32) z6))))))
set_option maxRecDepth 100000 in
set_option maxHeartbeats 4000000 in
theorem ctX12_run {E : gE} {n : Nat} {sh : Nat → Nat × Nat} {a0 : Nat} {x1 : Int32} {z : gS} {P : Int32 → gS → Prop} (hn : gOK E n) (hf : wX12_run n sh a0 x1 z P) : VM E 4 0 gyX12_run [.ref a0, .int x1] n sh z (kI n sh P) := by
  unfold wX12_run at hf
  refine VM.of (by decide +kernel) (Nat.le_of_ble_eq_true rfl) (fun _ _ _ h => h.2.2) ?_
  show V E (gR 4 0) gyX12_run 0 0 0 [(0, .ref a0), (1, .int x1)] [] n sh z (kI n sh P)
  refine V_aload_n (j := 0) dX12_run_0 rfl rfl ?_
  refine V_iconst (v := (0 : Int32)) dX12_run_1 (by decide) ?_
  obtain ⟨h1, hf⟩ := hf
  refine V_putI fl_X12_1 rfl rfl rfl rfl h1.1 h1.2 dX12_run_2 ?_
  refine V_nz (fun z2 ez2 => ?_)
  have hf := hf z2 ez2
  refine V_aload_n (j := 0) dX12_run_5 rfl rfl ?_
  refine V_iload_n (j := 1) dX12_run_6 rfl rfl ?_
  refine V_cVI (ctX12_isPane hn hf) gc_X12_337 rfl h1.1 ⟨_, h1.2, by decide, rfl⟩ ⟨by decide, by decide, Nat.zero_le _, Nat.zero_le _⟩ (Nat.le_of_ble_eq_true rfl) dX12_run_7 rfl hn (fun r3 z4 hf => ?_)
  refine V_if_ne (tgt := 15) dX12_run_10 (by decide) (fun h16 => ?_) (fun h16 => ?_)
  · have hf := it_f h16 hf
    refine V_aload_n (j := 0) dX12_run_15 rfl rfl ?_
    refine V_iconst (v := (0 : Int32)) dX12_run_16 (by decide) ?_
    refine V_sipush (v := (1386 : Int32)) dX12_run_17 (by decide) ?_
    refine V_bipush (v := (60 : Int32)) dX12_run_20 (by decide) ?_
    refine V_cVN (ctX12_copies hn hf) gc_X12_275 rfl h1.1 ⟨_, h1.2, by decide, rfl⟩ ⟨by decide, by decide, Nat.zero_le _, Nat.zero_le _⟩ (Nat.le_of_ble_eq_true rfl) dX12_run_22 rfl hn (fun z6 hf => ?_)
    refine V_iconst (v := (0 : Int32)) dX12_run_25 (by decide) ?_
    refine V_istore_n (ls2 := [(2, .int (0 : Int32)), (0, .ref a0), (1, .int x1)]) dX12_run_26 rfl (by decide) rfl ?_
    obtain ⟨N, hf⟩ := hf
    refine V_to [1, 2, 0] rfl ?_
    exact vX12_run_L27 hn N _ _ _ _ hf
  · have hf := it_t (Classical.not_not.mp h16) hf
    refine V_iconst (v := (-1 : Int32)) dX12_run_13 (by decide) ?_
    exact V_ireturn dX12_run_14 rfl rfl (Nat.le_refl 0) (kI_of hf)
def wX12_getsBy (n : Nat) (sh : Nat → Nat × Nat) (x0 : Int32) (x1 : Int32) (x2 : Int32) (x3 : Int32) (x4 : Int32) (z : gS) (P : Int32 → gS → Prop) : Prop := if x0 = (1 : Int32) then (if x1 = (1 : Int32) then P x2 z else P (0 : Int32) z) else (if x1 = (1 : Int32) then P x4 z else P x3 z)
set_option maxRecDepth 100000 in
set_option maxHeartbeats 4000000 in
theorem ctX12_getsBy {E : gE} {n : Nat} {sh : Nat → Nat × Nat} {x0 : Int32} {x1 : Int32} {x2 : Int32} {x3 : Int32} {x4 : Int32} {z : gS} {P : Int32 → gS → Prop} (hn : gOK E n) (hf : wX12_getsBy n sh x0 x1 x2 x3 x4 z P) : VM E 0 0 gyX12_getsBy [.int x0, .int x1, .int x2, .int x3, .int x4] n sh z (kI n sh P) := by
  unfold wX12_getsBy at hf
  refine VM.of (by decide +kernel) (Nat.le_of_ble_eq_true rfl) (fun _ _ _ h => h.2.2) ?_
  show V E (gR 0 0) gyX12_getsBy 0 0 0 [(0, .int x0), (1, .int x1), (2, .int x2), (3, .int x3), (4, .int x4)] [] n sh z (kI n sh P)
  refine V_iload_n (j := 0) dX12_getsBy_0 rfl rfl ?_
  refine V_iconst (v := (1 : Int32)) dX12_getsBy_1 (by decide) ?_
  refine V_icmp_ne (tgt := 18) dX12_getsBy_2 (by decide) (fun h3 => ?_) (fun h3 => ?_)
  · have hf := it_f h3 hf
    refine V_iload_n (j := 1) dX12_getsBy_18 rfl rfl ?_
    refine V_iconst (v := (1 : Int32)) dX12_getsBy_19 (by decide) ?_
    refine V_icmp_ne (tgt := 28) dX12_getsBy_20 (by decide) (fun h1 => ?_) (fun h1 => ?_)
    · have hf := it_f h1 hf
      refine V_iload_n (j := 3) dX12_getsBy_28 rfl rfl ?_
      exact V_ireturn dX12_getsBy_29 rfl rfl (Nat.le_refl 0) (kI_of hf)
    · have hf := it_t (Classical.not_not.mp h1) hf
      refine V_iload (j := 4) dX12_getsBy_23 rfl ?_
      refine V_goto (tgt := 29) dX12_getsBy_25 (by decide) ?_
      exact V_ireturn dX12_getsBy_29 rfl rfl (Nat.le_refl 0) (kI_of hf)
  · have hf := it_t (Classical.not_not.mp h3) hf
    refine V_iload_n (j := 1) dX12_getsBy_5 rfl rfl ?_
    refine V_iconst (v := (1 : Int32)) dX12_getsBy_6 (by decide) ?_
    refine V_icmp_ne (tgt := 14) dX12_getsBy_7 (by decide) (fun h2 => ?_) (fun h2 => ?_)
    · have hf := it_f h2 hf
      refine V_iconst (v := (0 : Int32)) dX12_getsBy_14 (by decide) ?_
      refine V_goto (tgt := 29) dX12_getsBy_15 (by decide) ?_
      exact V_ireturn dX12_getsBy_29 rfl rfl (Nat.le_refl 0) (kI_of hf)
    · have hf := it_t (Classical.not_not.mp h2) hf
      refine V_iload_n (j := 2) dX12_getsBy_10 rfl rfl ?_
      refine V_goto (tgt := 29) dX12_getsBy_11 (by decide) ?_
      exact V_ireturn dX12_getsBy_29 rfl rfl (Nat.le_refl 0) (kI_of hf)
def wX12_rests_J195 (n : Nat) (sh : Nat → Nat × Nat) (P : Int32 → gS → Prop) (a0 : Nat) (x4 : Int32) (x6 : Int32) (x7 : Int32) (s0 : Int32) (s1 : Nat) (z : gS) : Prop := (oO n sh s1 8) ∧ (∀ z4 : gS, z4 = si z s1 0 s0 → ((oO n sh a0 8) ∧ (if (gi z4 a0 0) ≤ 0 then (if 0 ≤ x4 then P x7 z4 else P x6 z4) else P (0 : Int32) z4)))
set_option maxRecDepth 100000 in
set_option maxHeartbeats 4000000 in
theorem vX12_rests_J195 {E : gE} {n : Nat} {sh : Nat → Nat × Nat} {P : Int32 → gS → Prop} {a0 : Nat} {x4 : Int32} {x6 : Int32} {x7 : Int32} {s0 : Int32} {s1 : Nat} {z : gS} (hn : gOK E n) (hf : wX12_rests_J195 n sh P a0 x4 x6 x7 s0 s1 z) : V E (gR 1 0) gyX12_rests 0 0 195 [(0, .ref a0), (4, .int x4), (6, .int x6), (7, .int x7)] [.int s0, .ref s1] n sh z (kI n sh P) := by
  unfold wX12_rests_J195 at hf
  obtain ⟨h3, hf⟩ := hf
  refine V_putI fl_X12_1 rfl rfl rfl rfl h3.1 h3.2 dX12_rests_195 ?_
  refine V_nz (fun z4 ez4 => ?_)
  have hf := hf z4 ez4
  refine V_aload_n (j := 0) dX12_rests_198 rfl rfl ?_
  obtain ⟨h5, hf⟩ := hf
  refine V_getI fl_X12_1 rfl h5.1 h5.2 dX12_rests_199 ?_
  refine V_if_le (tgt := 209) dX12_rests_202 (by decide) (fun h7 => ?_) (fun h7 => ?_)
  · have hf := it_t h7 hf
    refine V_iload (j := 1) dX12_rests_209 rfl ?_
    refine V_if_ge (tgt := 219) dX12_rests_211 (by decide) (fun h6 => ?_) (fun h6 => ?_)
    · have hf := it_t h6 hf
      refine V_iload (j := 3) dX12_rests_219 rfl ?_
      exact V_ireturn dX12_rests_221 rfl rfl (Nat.le_refl 0) (kI_of hf)
    · have hf := it_f h6 hf
      refine V_iload (j := 2) dX12_rests_214 rfl ?_
      refine V_goto (tgt := 221) dX12_rests_216 (by decide) ?_
      exact V_ireturn dX12_rests_221 rfl rfl (Nat.le_refl 0) (kI_of hf)
  · have hf := it_f h7 hf
    refine V_iconst (v := (0 : Int32)) dX12_rests_205 (by decide) ?_
    refine V_goto (tgt := 221) dX12_rests_206 (by decide) ?_
    exact V_ireturn dX12_rests_221 rfl rfl (Nat.le_refl 0) (kI_of hf)
def wX12_rests_J194 (n : Nat) (sh : Nat → Nat × Nat) (P : Int32 → gS → Prop) (a0 : Nat) (x4 : Int32) (x6 : Int32) (x7 : Int32) (s0 : Nat) (z : gS) : Prop := wX12_rests_J195 n sh P a0 x4 x6 x7 (1 : Int32) s0 z
set_option maxRecDepth 100000 in
set_option maxHeartbeats 4000000 in
theorem vX12_rests_J194 {E : gE} {n : Nat} {sh : Nat → Nat × Nat} {P : Int32 → gS → Prop} {a0 : Nat} {x4 : Int32} {x6 : Int32} {x7 : Int32} {s0 : Nat} {z : gS} (hn : gOK E n) (hf : wX12_rests_J194 n sh P a0 x4 x6 x7 s0 z) : V E (gR 1 0) gyX12_rests 0 0 194 [(0, .ref a0), (4, .int x4), (6, .int x6), (7, .int x7)] [.ref s0] n sh z (kI n sh P) := by
  unfold wX12_rests_J194 at hf
  refine V_iconst (v := (1 : Int32)) dX12_rests_194 (by decide) ?_
  exact vX12_rests_J195 hn hf
def wX12_rests_J190 (n : Nat) (sh : Nat → Nat × Nat) (P : Int32 → gS → Prop) (a0 : Nat) (x4 : Int32) (x6 : Int32) (x7 : Int32) (s0 : Nat) (z : gS) : Prop := wX12_rests_J195 n sh P a0 x4 x6 x7 (0 : Int32) s0 z
set_option maxRecDepth 100000 in
set_option maxHeartbeats 4000000 in
theorem vX12_rests_J190 {E : gE} {n : Nat} {sh : Nat → Nat × Nat} {P : Int32 → gS → Prop} {a0 : Nat} {x4 : Int32} {x6 : Int32} {x7 : Int32} {s0 : Nat} {z : gS} (hn : gOK E n) (hf : wX12_rests_J190 n sh P a0 x4 x6 x7 s0 z) : V E (gR 1 0) gyX12_rests 0 0 190 [(0, .ref a0), (4, .int x4), (6, .int x6), (7, .int x7)] [.ref s0] n sh z (kI n sh P) := by
  unfold wX12_rests_J190 at hf
  refine V_iconst (v := (0 : Int32)) dX12_rests_190 (by decide) ?_
  refine V_goto (tgt := 195) dX12_rests_191 (by decide) ?_
  exact vX12_rests_J195 hn hf
def wX12_rests_J174 (n : Nat) (sh : Nat → Nat × Nat) (P : Int32 → gS → Prop) (a0 : Nat) (x4 : Int32) (x5 : Int32) (x6 : Int32) (x7 : Int32) (z : gS) : Prop := if x5 = 0 then wX12_rests_J194 n sh P a0 x4 x6 x7 a0 z else (if x4 < 0 then wX12_rests_J190 n sh P a0 x4 x6 x7 a0 z else (if x7 < 0 then wX12_rests_J194 n sh P a0 x4 x6 x7 a0 z else wX12_rests_J190 n sh P a0 x4 x6 x7 a0 z))
set_option maxRecDepth 100000 in
set_option maxHeartbeats 4000000 in
theorem vX12_rests_J174 {E : gE} {n : Nat} {sh : Nat → Nat × Nat} {P : Int32 → gS → Prop} {a0 : Nat} {x4 : Int32} {x5 : Int32} {x6 : Int32} {x7 : Int32} {z : gS} (hn : gOK E n) (hf : wX12_rests_J174 n sh P a0 x4 x5 x6 x7 z) : V E (gR 1 0) gyX12_rests 0 0 174 [(0, .ref a0), (4, .int x4), (5, .int x5), (6, .int x6), (7, .int x7)] [] n sh z (kI n sh P) := by
  unfold wX12_rests_J174 at hf
  refine V_aload_n (j := 0) dX12_rests_174 rfl rfl ?_
  refine V_iload (j := 2) dX12_rests_175 rfl ?_
  refine V_if_eq (tgt := 194) dX12_rests_177 (by decide) (fun h10 => ?_) (fun h10 => ?_)
  · have hf := it_t h10 hf
    refine V_to [0, 1, 3, 4] rfl ?_
    exact vX12_rests_J194 hn hf
  · have hf := it_f h10 hf
    refine V_iload (j := 1) dX12_rests_180 rfl ?_
    refine V_if_lt (tgt := 190) dX12_rests_182 (by decide) (fun h9 => ?_) (fun h9 => ?_)
    · have hf := it_t h9 hf
      refine V_to [0, 1, 3, 4] rfl ?_
      exact vX12_rests_J190 hn hf
    · have hf := it_f h9 hf
      refine V_iload (j := 4) dX12_rests_185 rfl ?_
      refine V_if_lt (tgt := 194) dX12_rests_187 (by decide) (fun h8 => ?_) (fun h8 => ?_)
      · have hf := it_t h8 hf
        refine V_to [0, 1, 3, 4] rfl ?_
        exact vX12_rests_J194 hn hf
      · have hf := it_f h8 hf
        refine V_to [0, 1, 3, 4] rfl ?_
        exact vX12_rests_J190 hn hf
def wX12_rests_J165 (n : Nat) (sh : Nat → Nat × Nat) (k52 : Nat → Int32 → Int32 → Int32 → Int32 → Int32 → Int32 → Int32 → Int32 → gS → Prop) (P : Int32 → gS → Prop) (a0 : Nat) (x1 : Int32) (x2 : Int32) (x3 : Int32) (x4 : Int32) (x5 : Int32) (x7 : Int32) (x8 : Int32) (s0 : Int32) (s1 : Int32) (z : gS) : Prop := ∀ v17 : Int32, v17 = (s1 + s0) → (∀ v18 : Int32, v18 = x8 + (1 : Int32) → k52 a0 x1 x2 x3 x4 x5 v17 x7 v18 z)
set_option maxRecDepth 100000 in
set_option maxHeartbeats 4000000 in
theorem vX12_rests_J165 {E : gE} {n : Nat} {sh : Nat → Nat × Nat} {P : Int32 → gS → Prop} {k52 : Nat → Int32 → Int32 → Int32 → Int32 → Int32 → Int32 → Int32 → Int32 → gS → Prop} {a0 : Nat} {x1 : Int32} {x2 : Int32} {x3 : Int32} {x4 : Int32} {x5 : Int32} {x7 : Int32} {x8 : Int32} {s0 : Int32} {s1 : Int32} {z : gS} (hn : gOK E n) (hk52 : ∀ (a0 : Nat) (x1 : Int32) (x2 : Int32) (x3 : Int32) (x4 : Int32) (x5 : Int32) (x6 : Int32) (x7 : Int32) (x8 : Int32) (z : gS), k52 a0 x1 x2 x3 x4 x5 x6 x7 x8 z → V E (gR 1 0) gyX12_rests 0 0 52 [(0, .ref a0), (1, .int x1), (2, .int x2), (3, .int x3), (4, .int x4), (5, .int x5), (6, .int x6), (7, .int x7), (8, .int x8)] [] n sh z (kI n sh P)) (hf : wX12_rests_J165 n sh k52 P a0 x1 x2 x3 x4 x5 x7 x8 s0 s1 z) : V E (gR 1 0) gyX12_rests 0 0 165 [(0, .ref a0), (1, .int x1), (2, .int x2), (3, .int x3), (4, .int x4), (5, .int x5), (7, .int x7), (8, .int x8)] [.int s0, .int s1] n sh z (kI n sh P) := by
  unfold wX12_rests_J165 at hf
  refine V_iadd dX12_rests_165 ?_
  refine V_nI (fun v17 ev17 => ?_)
  have hf := hf v17 ev17
  refine V_istore (ls2 := [(6, .int v17), (0, .ref a0), (1, .int x1), (2, .int x2), (3, .int x3), (4, .int x4), (5, .int x5), (7, .int x7), (8, .int x8)]) dX12_rests_166 (by decide) rfl ?_
  obtain ⟨v18, ev18⟩ : ∃ y : Int32, y = x8 + (1 : Int32) := ⟨_, rfl⟩
  refine V_iinc (j := 8) (v := v18) (ls2 := [(8, .int v18), (6, .int v17), (0, .ref a0), (1, .int x1), (2, .int x2), (3, .int x3), (4, .int x4), (5, .int x5), (7, .int x7)]) dX12_rests_168 rfl (by rw [ev18]; rfl) (by decide) rfl ?_
  have hf := hf v18 ev18
  refine V_goto (tgt := 52) dX12_rests_171 (by decide) ?_
  refine V_to [2, 3, 4, 5, 6, 7, 1, 8, 0] rfl ?_
  exact hk52 _ _ _ _ _ _ _ _ _ _ hf
def wX12_rests_J151 (n : Nat) (sh : Nat → Nat × Nat) (k52 : Nat → Int32 → Int32 → Int32 → Int32 → Int32 → Int32 → Int32 → Int32 → gS → Prop) (P : Int32 → gS → Prop) (a0 : Nat) (x1 : Int32) (x2 : Int32) (x3 : Int32) (x4 : Int32) (x5 : Int32) (x6 : Int32) (x8 : Int32) (x11 : Int32) (s0 : Int32) (z : gS) : Prop := if x11 = 0 then wX12_rests_J165 n sh k52 P a0 x1 x2 x3 x4 x5 s0 x8 (0 : Int32) x6 z else wX12_rests_J165 n sh k52 P a0 x1 x2 x3 x4 x5 s0 x8 (1 : Int32) x6 z
set_option maxRecDepth 100000 in
set_option maxHeartbeats 4000000 in
theorem vX12_rests_J151 {E : gE} {n : Nat} {sh : Nat → Nat × Nat} {P : Int32 → gS → Prop} {k52 : Nat → Int32 → Int32 → Int32 → Int32 → Int32 → Int32 → Int32 → Int32 → gS → Prop} {a0 : Nat} {x1 : Int32} {x2 : Int32} {x3 : Int32} {x4 : Int32} {x5 : Int32} {x6 : Int32} {x8 : Int32} {x11 : Int32} {s0 : Int32} {z : gS} (hn : gOK E n) (hk52 : ∀ (a0 : Nat) (x1 : Int32) (x2 : Int32) (x3 : Int32) (x4 : Int32) (x5 : Int32) (x6 : Int32) (x7 : Int32) (x8 : Int32) (z : gS), k52 a0 x1 x2 x3 x4 x5 x6 x7 x8 z → V E (gR 1 0) gyX12_rests 0 0 52 [(0, .ref a0), (1, .int x1), (2, .int x2), (3, .int x3), (4, .int x4), (5, .int x5), (6, .int x6), (7, .int x7), (8, .int x8)] [] n sh z (kI n sh P)) (hf : wX12_rests_J151 n sh k52 P a0 x1 x2 x3 x4 x5 x6 x8 x11 s0 z) : V E (gR 1 0) gyX12_rests 0 0 151 [(0, .ref a0), (1, .int x1), (2, .int x2), (3, .int x3), (4, .int x4), (5, .int x5), (6, .int x6), (8, .int x8), (11, .int x11)] [.int s0] n sh z (kI n sh P) := by
  unfold wX12_rests_J151 at hf
  refine V_istore (ls2 := [(7, .int s0), (0, .ref a0), (1, .int x1), (2, .int x2), (3, .int x3), (4, .int x4), (5, .int x5), (6, .int x6), (8, .int x8), (11, .int x11)]) dX12_rests_151 (by decide) rfl ?_
  refine V_iload (j := 7) dX12_rests_153 rfl ?_
  refine V_iload (j := 9) dX12_rests_155 rfl ?_
  refine V_if_eq (tgt := 164) dX12_rests_157 (by decide) (fun h19 => ?_) (fun h19 => ?_)
  · have hf := it_t h19 hf
    refine V_iconst (v := (0 : Int32)) dX12_rests_164 (by decide) ?_
    refine V_to [1, 2, 3, 4, 5, 6, 0, 8] rfl ?_
    exact vX12_rests_J165 hn hk52 hf
  · have hf := it_f h19 hf
    refine V_iconst (v := (1 : Int32)) dX12_rests_160 (by decide) ?_
    refine V_goto (tgt := 165) dX12_rests_161 (by decide) ?_
    refine V_to [1, 2, 3, 4, 5, 6, 0, 8] rfl ?_
    exact vX12_rests_J165 hn hk52 hf
def wX12_rests_J149 (n : Nat) (sh : Nat → Nat × Nat) (k52 : Nat → Int32 → Int32 → Int32 → Int32 → Int32 → Int32 → Int32 → Int32 → gS → Prop) (P : Int32 → gS → Prop) (a0 : Nat) (x1 : Int32) (x2 : Int32) (x3 : Int32) (x4 : Int32) (x5 : Int32) (x6 : Int32) (x7 : Int32) (x8 : Int32) (x11 : Int32) (z : gS) : Prop := wX12_rests_J151 n sh k52 P a0 x1 x2 x3 x4 x5 x6 x8 x11 x7 z
set_option maxRecDepth 100000 in
set_option maxHeartbeats 4000000 in
theorem vX12_rests_J149 {E : gE} {n : Nat} {sh : Nat → Nat × Nat} {P : Int32 → gS → Prop} {k52 : Nat → Int32 → Int32 → Int32 → Int32 → Int32 → Int32 → Int32 → Int32 → gS → Prop} {a0 : Nat} {x1 : Int32} {x2 : Int32} {x3 : Int32} {x4 : Int32} {x5 : Int32} {x6 : Int32} {x7 : Int32} {x8 : Int32} {x11 : Int32} {z : gS} (hn : gOK E n) (hk52 : ∀ (a0 : Nat) (x1 : Int32) (x2 : Int32) (x3 : Int32) (x4 : Int32) (x5 : Int32) (x6 : Int32) (x7 : Int32) (x8 : Int32) (z : gS), k52 a0 x1 x2 x3 x4 x5 x6 x7 x8 z → V E (gR 1 0) gyX12_rests 0 0 52 [(0, .ref a0), (1, .int x1), (2, .int x2), (3, .int x3), (4, .int x4), (5, .int x5), (6, .int x6), (7, .int x7), (8, .int x8)] [] n sh z (kI n sh P)) (hf : wX12_rests_J149 n sh k52 P a0 x1 x2 x3 x4 x5 x6 x7 x8 x11 z) : V E (gR 1 0) gyX12_rests 0 0 149 [(0, .ref a0), (1, .int x1), (2, .int x2), (3, .int x3), (4, .int x4), (5, .int x5), (6, .int x6), (7, .int x7), (8, .int x8), (11, .int x11)] [] n sh z (kI n sh P) := by
  unfold wX12_rests_J149 at hf
  refine V_iload (j := 7) dX12_rests_149 rfl ?_
  refine V_to [0, 1, 2, 3, 4, 5, 6, 8, 9] rfl ?_
  exact vX12_rests_J151 hn hk52 hf
def wX12_rests_J130 (n : Nat) (sh : Nat → Nat × Nat) (k52 : Nat → Int32 → Int32 → Int32 → Int32 → Int32 → Int32 → Int32 → Int32 → gS → Prop) (P : Int32 → gS → Prop) (a0 : Nat) (x1 : Int32) (x2 : Int32) (x3 : Int32) (x4 : Int32) (x5 : Int32) (x6 : Int32) (x7 : Int32) (x8 : Int32) (s0 : Int32) (z : gS) : Prop := if s0 = 0 then wX12_rests_J149 n sh k52 P a0 x1 x2 x3 x4 x5 x6 x7 x8 s0 z else (if x6 = x4 then wX12_rests_J151 n sh k52 P a0 x1 x2 x3 x4 x5 x6 x8 s0 x8 z else wX12_rests_J149 n sh k52 P a0 x1 x2 x3 x4 x5 x6 x7 x8 s0 z)
set_option maxRecDepth 100000 in
set_option maxHeartbeats 4000000 in
theorem vX12_rests_J130 {E : gE} {n : Nat} {sh : Nat → Nat × Nat} {P : Int32 → gS → Prop} {k52 : Nat → Int32 → Int32 → Int32 → Int32 → Int32 → Int32 → Int32 → Int32 → gS → Prop} {a0 : Nat} {x1 : Int32} {x2 : Int32} {x3 : Int32} {x4 : Int32} {x5 : Int32} {x6 : Int32} {x7 : Int32} {x8 : Int32} {s0 : Int32} {z : gS} (hn : gOK E n) (hk52 : ∀ (a0 : Nat) (x1 : Int32) (x2 : Int32) (x3 : Int32) (x4 : Int32) (x5 : Int32) (x6 : Int32) (x7 : Int32) (x8 : Int32) (z : gS), k52 a0 x1 x2 x3 x4 x5 x6 x7 x8 z → V E (gR 1 0) gyX12_rests 0 0 52 [(0, .ref a0), (1, .int x1), (2, .int x2), (3, .int x3), (4, .int x4), (5, .int x5), (6, .int x6), (7, .int x7), (8, .int x8)] [] n sh z (kI n sh P)) (hf : wX12_rests_J130 n sh k52 P a0 x1 x2 x3 x4 x5 x6 x7 x8 s0 z) : V E (gR 1 0) gyX12_rests 0 0 130 [(0, .ref a0), (1, .int x1), (2, .int x2), (3, .int x3), (4, .int x4), (5, .int x5), (6, .int x6), (7, .int x7), (8, .int x8)] [.int s0] n sh z (kI n sh P) := by
  unfold wX12_rests_J130 at hf
  refine V_istore (ls2 := [(11, .int s0), (0, .ref a0), (1, .int x1), (2, .int x2), (3, .int x3), (4, .int x4), (5, .int x5), (6, .int x6), (7, .int x7), (8, .int x8)]) dX12_rests_130 (by decide) rfl ?_
  refine V_iload (j := 0) dX12_rests_132 rfl ?_
  refine V_if_eq (tgt := 149) dX12_rests_134 (by decide) (fun h21 => ?_) (fun h21 => ?_)
  · have hf := it_t h21 hf
    refine V_to [1, 2, 3, 4, 5, 6, 7, 8, 9, 0] rfl ?_
    exact vX12_rests_J149 hn hk52 hf
  · have hf := it_f h21 hf
    refine V_iload (j := 7) dX12_rests_137 rfl ?_
    refine V_iload (j := 5) dX12_rests_139 rfl ?_
    refine V_icmp_ne (tgt := 149) dX12_rests_141 (by decide) (fun h20 => ?_) (fun h20 => ?_)
    · have hf := it_f h20 hf
      refine V_to [1, 2, 3, 4, 5, 6, 7, 8, 9, 0] rfl ?_
      exact vX12_rests_J149 hn hk52 hf
    · have hf := it_t (Classical.not_not.mp h20) hf
      refine V_iload (j := 9) dX12_rests_144 rfl ?_
      refine V_goto (tgt := 151) dX12_rests_146 (by decide) ?_
      refine V_to [1, 2, 3, 4, 5, 6, 7, 9, 0] rfl ?_
      exact vX12_rests_J151 hn hk52 hf
def wX12_rests_J129 (n : Nat) (sh : Nat → Nat × Nat) (k52 : Nat → Int32 → Int32 → Int32 → Int32 → Int32 → Int32 → Int32 → Int32 → gS → Prop) (P : Int32 → gS → Prop) (a0 : Nat) (x1 : Int32) (x2 : Int32) (x3 : Int32) (x4 : Int32) (x5 : Int32) (x6 : Int32) (x7 : Int32) (x8 : Int32) (z : gS) : Prop := wX12_rests_J130 n sh k52 P a0 x1 x2 x3 x4 x5 x6 x7 x8 (0 : Int32) z
set_option maxRecDepth 100000 in
set_option maxHeartbeats 4000000 in
theorem vX12_rests_J129 {E : gE} {n : Nat} {sh : Nat → Nat × Nat} {P : Int32 → gS → Prop} {k52 : Nat → Int32 → Int32 → Int32 → Int32 → Int32 → Int32 → Int32 → Int32 → gS → Prop} {a0 : Nat} {x1 : Int32} {x2 : Int32} {x3 : Int32} {x4 : Int32} {x5 : Int32} {x6 : Int32} {x7 : Int32} {x8 : Int32} {z : gS} (hn : gOK E n) (hk52 : ∀ (a0 : Nat) (x1 : Int32) (x2 : Int32) (x3 : Int32) (x4 : Int32) (x5 : Int32) (x6 : Int32) (x7 : Int32) (x8 : Int32) (z : gS), k52 a0 x1 x2 x3 x4 x5 x6 x7 x8 z → V E (gR 1 0) gyX12_rests 0 0 52 [(0, .ref a0), (1, .int x1), (2, .int x2), (3, .int x3), (4, .int x4), (5, .int x5), (6, .int x6), (7, .int x7), (8, .int x8)] [] n sh z (kI n sh P)) (hf : wX12_rests_J129 n sh k52 P a0 x1 x2 x3 x4 x5 x6 x7 x8 z) : V E (gR 1 0) gyX12_rests 0 0 129 [(0, .ref a0), (1, .int x1), (2, .int x2), (3, .int x3), (4, .int x4), (5, .int x5), (6, .int x6), (7, .int x7), (8, .int x8)] [] n sh z (kI n sh P) := by
  unfold wX12_rests_J129 at hf
  refine V_iconst (v := (0 : Int32)) dX12_rests_129 (by decide) ?_
  exact vX12_rests_J130 hn hk52 hf
def wX12_rests_B52 (n : Nat) (sh : Nat → Nat × Nat) (k52 : Nat → Int32 → Int32 → Int32 → Int32 → Int32 → Int32 → Int32 → Int32 → gS → Prop) (P : Int32 → gS → Prop) (a0 : Nat) (x1 : Int32) (x2 : Int32) (x3 : Int32) (x4 : Int32) (x5 : Int32) (x6 : Int32) (x7 : Int32) (x8 : Int32) (z : gS) : Prop := if (4 : Int32) ≤ x8 then wX12_rests_J174 n sh P a0 x4 x5 x6 x7 z else (if x5 = 0 then wX12_rests_J174 n sh P a0 x4 x5 x6 x7 z else (∀ v11 : Int32, v11 = (x8 / (2 : Int32)) → (∀ v12 : Int32, v12 = (x8 - x8 / (2 : Int32) * (2 : Int32)) → (wX12_getsBy n sh ((1 : Int32) - v11) v12 x1 x2 x3 z (fun (r13 : Int32) (z14 : gS) => wX12_getsBy n sh v11 v12 x1 x2 x3 z14 (fun (r15 : Int32) (z16 : gS) => if r15 < r13 then wX12_rests_J129 n sh k52 P a0 x1 x2 x3 x4 x5 x6 x7 x8 z16 else (wX12_getsBy n sh ((1 : Int32) - v12) v11 x1 x2 x3 z16 (fun (r22 : Int32) (z23 : gS) => wX12_getsBy n sh v12 v11 x1 x2 x3 z23 (fun (r24 : Int32) (z25 : gS) => if r24 < r22 then wX12_rests_J129 n sh k52 P a0 x1 x2 x3 x4 x5 x6 x7 x8 z25 else wX12_rests_J130 n sh k52 P a0 x1 x2 x3 x4 x5 x6 x7 x8 (1 : Int32) z25)))))))))
def wX12_rests_L52 (n : Nat) (sh : Nat → Nat × Nat) (P : Int32 → gS → Prop) : Nat → Nat → Int32 → Int32 → Int32 → Int32 → Int32 → Int32 → Int32 → Int32 → gS → Prop
  | 0, _, _, _, _, _, _, _, _, _, _ => False
  | N + 1, a0, x1, x2, x3, x4, x5, x6, x7, x8, z => wX12_rests_B52 n sh (wX12_rests_L52 n sh P N) P a0 x1 x2 x3 x4 x5 x6 x7 x8 z
set_option maxRecDepth 100000 in
set_option maxHeartbeats 4000000 in
theorem vX12_rests_B52 {E : gE} {n : Nat} {sh : Nat → Nat × Nat} {P : Int32 → gS → Prop} {k52 : Nat → Int32 → Int32 → Int32 → Int32 → Int32 → Int32 → Int32 → Int32 → gS → Prop} {a0 : Nat} {x1 : Int32} {x2 : Int32} {x3 : Int32} {x4 : Int32} {x5 : Int32} {x6 : Int32} {x7 : Int32} {x8 : Int32} {z : gS} (hn : gOK E n) (hk52 : ∀ (a0 : Nat) (x1 : Int32) (x2 : Int32) (x3 : Int32) (x4 : Int32) (x5 : Int32) (x6 : Int32) (x7 : Int32) (x8 : Int32) (z : gS), k52 a0 x1 x2 x3 x4 x5 x6 x7 x8 z → V E (gR 1 0) gyX12_rests 0 0 52 [(0, .ref a0), (1, .int x1), (2, .int x2), (3, .int x3), (4, .int x4), (5, .int x5), (6, .int x6), (7, .int x7), (8, .int x8)] [] n sh z (kI n sh P)) (hf : wX12_rests_B52 n sh k52 P a0 x1 x2 x3 x4 x5 x6 x7 x8 z) : V E (gR 1 0) gyX12_rests 0 0 52 [(0, .ref a0), (1, .int x1), (2, .int x2), (3, .int x3), (4, .int x4), (5, .int x5), (6, .int x6), (7, .int x7), (8, .int x8)] [] n sh z (kI n sh P) := by
  unfold wX12_rests_B52 at hf
  refine V_iload (j := 8) dX12_rests_52 rfl ?_
  refine V_iconst (v := (4 : Int32)) dX12_rests_54 (by decide) ?_
  refine V_icmp_ge (tgt := 174) dX12_rests_55 (by decide) (fun h29 => ?_) (fun h29 => ?_)
  · have hf := it_t h29 hf
    refine V_to [0, 4, 5, 6, 7] rfl ?_
    exact vX12_rests_J174 hn hf
  · have hf := it_f h29 hf
    refine V_iload (j := 5) dX12_rests_58 rfl ?_
    refine V_if_eq (tgt := 174) dX12_rests_60 (by decide) (fun h28 => ?_) (fun h28 => ?_)
    · have hf := it_t h28 hf
      refine V_to [0, 4, 5, 6, 7] rfl ?_
      exact vX12_rests_J174 hn hf
    · have hf := it_f h28 hf
      refine V_iload (j := 8) dX12_rests_63 rfl ?_
      refine V_iconst (v := (2 : Int32)) dX12_rests_65 (by decide) ?_
      refine V_idiv dX12_rests_66 (by decide) ?_
      refine V_nI (fun v11 ev11 => ?_)
      have hf := hf v11 ev11
      refine V_istore (ls2 := [(9, .int v11), (0, .ref a0), (1, .int x1), (2, .int x2), (3, .int x3), (4, .int x4), (5, .int x5), (6, .int x6), (7, .int x7), (8, .int x8)]) dX12_rests_67 (by decide) rfl ?_
      refine V_iload (j := 9) dX12_rests_69 rfl ?_
      refine V_iconst (v := (2 : Int32)) dX12_rests_71 (by decide) ?_
      refine V_irem dX12_rests_72 (by decide) ?_
      refine V_nI (fun v12 ev12 => ?_)
      have hf := hf v12 ev12
      refine V_istore (ls2 := [(10, .int v12), (9, .int v11), (0, .ref a0), (1, .int x1), (2, .int x2), (3, .int x3), (4, .int x4), (5, .int x5), (6, .int x6), (7, .int x7), (8, .int x8)]) dX12_rests_73 (by decide) rfl ?_
      refine V_iconst (v := (1 : Int32)) dX12_rests_75 (by decide) ?_
      refine V_iload (j := 1) dX12_rests_76 rfl ?_
      refine V_isub dX12_rests_78 ?_
      refine V_iload (j := 0) dX12_rests_79 rfl ?_
      refine V_iload_n (j := 3) dX12_rests_81 rfl rfl ?_
      refine V_iload_n (j := 4) dX12_rests_82 rfl rfl ?_
      refine V_iload_n (j := 5) dX12_rests_83 rfl rfl ?_
      refine V_cSI (ctX12_getsBy hn hf) gc_X12_386 rfl ⟨by decide, by decide, Nat.zero_le _, Nat.zero_le _⟩ (Nat.le_of_ble_eq_true rfl) dX12_rests_84 rfl hn (fun r13 z14 hf => ?_)
      refine V_iload (j := 1) dX12_rests_87 rfl ?_
      refine V_iload (j := 0) dX12_rests_89 rfl ?_
      refine V_iload_n (j := 3) dX12_rests_91 rfl rfl ?_
      refine V_iload_n (j := 4) dX12_rests_92 rfl rfl ?_
      refine V_iload_n (j := 5) dX12_rests_93 rfl rfl ?_
      refine V_cSI (ctX12_getsBy hn hf) gc_X12_386 rfl ⟨by decide, by decide, Nat.zero_le _, Nat.zero_le _⟩ (Nat.le_of_ble_eq_true rfl) dX12_rests_94 rfl hn (fun r15 z16 hf => ?_)
      refine V_icmp_gt (tgt := 129) dX12_rests_97 (by decide) (fun h27 => ?_) (fun h27 => ?_)
      · have hf := it_t h27 hf
        refine V_to [2, 3, 4, 5, 6, 7, 8, 9, 10] rfl ?_
        exact vX12_rests_J129 hn hk52 hf
      · have hf := it_f h27 hf
        refine V_iconst (v := (1 : Int32)) dX12_rests_100 (by decide) ?_
        refine V_iload (j := 0) dX12_rests_101 rfl ?_
        refine V_isub dX12_rests_103 ?_
        refine V_iload (j := 1) dX12_rests_104 rfl ?_
        refine V_iload_n (j := 3) dX12_rests_106 rfl rfl ?_
        refine V_iload_n (j := 4) dX12_rests_107 rfl rfl ?_
        refine V_iload_n (j := 5) dX12_rests_108 rfl rfl ?_
        refine V_cSI (ctX12_getsBy hn hf) gc_X12_386 rfl ⟨by decide, by decide, Nat.zero_le _, Nat.zero_le _⟩ (Nat.le_of_ble_eq_true rfl) dX12_rests_109 rfl hn (fun r22 z23 hf => ?_)
        refine V_iload (j := 0) dX12_rests_112 rfl ?_
        refine V_iload (j := 1) dX12_rests_114 rfl ?_
        refine V_iload_n (j := 3) dX12_rests_116 rfl rfl ?_
        refine V_iload_n (j := 4) dX12_rests_117 rfl rfl ?_
        refine V_iload_n (j := 5) dX12_rests_118 rfl rfl ?_
        refine V_cSI (ctX12_getsBy hn hf) gc_X12_386 rfl ⟨by decide, by decide, Nat.zero_le _, Nat.zero_le _⟩ (Nat.le_of_ble_eq_true rfl) dX12_rests_119 rfl hn (fun r24 z25 hf => ?_)
        refine V_icmp_gt (tgt := 129) dX12_rests_122 (by decide) (fun h26 => ?_) (fun h26 => ?_)
        · have hf := it_t h26 hf
          refine V_to [2, 3, 4, 5, 6, 7, 8, 9, 10] rfl ?_
          exact vX12_rests_J129 hn hk52 hf
        · have hf := it_f h26 hf
          refine V_iconst (v := (1 : Int32)) dX12_rests_125 (by decide) ?_
          refine V_goto (tgt := 130) dX12_rests_126 (by decide) ?_
          refine V_to [2, 3, 4, 5, 6, 7, 8, 9, 10] rfl ?_
          exact vX12_rests_J130 hn hk52 hf
set_option maxRecDepth 100000 in
set_option maxHeartbeats 4000000 in
theorem vX12_rests_L52 {E : gE} {n : Nat} {sh : Nat → Nat × Nat} {P : Int32 → gS → Prop} (hn : gOK E n) : ∀ (N : Nat) (a0 : Nat) (x1 : Int32) (x2 : Int32) (x3 : Int32) (x4 : Int32) (x5 : Int32) (x6 : Int32) (x7 : Int32) (x8 : Int32) (z : gS), wX12_rests_L52 n sh P N a0 x1 x2 x3 x4 x5 x6 x7 x8 z → V E (gR 1 0) gyX12_rests 0 0 52 [(0, .ref a0), (1, .int x1), (2, .int x2), (3, .int x3), (4, .int x4), (5, .int x5), (6, .int x6), (7, .int x7), (8, .int x8)] [] n sh z (kI n sh P) := by
  intro N
  induction N with
  | zero => intro a0 x1 x2 x3 x4 x5 x6 x7 x8 z hf; exact False.elim hf
  | succ N ih => intro a0 x1 x2 x3 x4 x5 x6 x7 x8 z hf; exact vX12_rests_B52 hn ih hf
def wX12_rests_J41 (n : Nat) (sh : Nat → Nat × Nat) (P : Int32 → gS → Prop) (a0 : Nat) (x1 : Int32) (x2 : Int32) (x3 : Int32) (x4 : Int32) (s0 : Int32) (z : gS) : Prop := (∃ N, wX12_rests_L52 n sh P N a0 x1 x2 x3 x4 s0 (0 : Int32) (-1 : Int32) (0 : Int32) z)
set_option maxRecDepth 100000 in
set_option maxHeartbeats 4000000 in
theorem vX12_rests_J41 {E : gE} {n : Nat} {sh : Nat → Nat × Nat} {P : Int32 → gS → Prop} {a0 : Nat} {x1 : Int32} {x2 : Int32} {x3 : Int32} {x4 : Int32} {s0 : Int32} {z : gS} (hn : gOK E n) (hf : wX12_rests_J41 n sh P a0 x1 x2 x3 x4 s0 z) : V E (gR 1 0) gyX12_rests 0 0 41 [(0, .ref a0), (1, .int x1), (2, .int x2), (3, .int x3), (4, .int x4)] [.int s0] n sh z (kI n sh P) := by
  unfold wX12_rests_J41 at hf
  refine V_istore (ls2 := [(5, .int s0), (0, .ref a0), (1, .int x1), (2, .int x2), (3, .int x3), (4, .int x4)]) dX12_rests_41 (by decide) rfl ?_
  refine V_iconst (v := (0 : Int32)) dX12_rests_43 (by decide) ?_
  refine V_istore (ls2 := [(6, .int (0 : Int32)), (5, .int s0), (0, .ref a0), (1, .int x1), (2, .int x2), (3, .int x3), (4, .int x4)]) dX12_rests_44 (by decide) rfl ?_
  refine V_iconst (v := (-1 : Int32)) dX12_rests_46 (by decide) ?_
  refine V_istore (ls2 := [(7, .int (-1 : Int32)), (6, .int (0 : Int32)), (5, .int s0), (0, .ref a0), (1, .int x1), (2, .int x2), (3, .int x3), (4, .int x4)]) dX12_rests_47 (by decide) rfl ?_
  refine V_iconst (v := (0 : Int32)) dX12_rests_49 (by decide) ?_
  refine V_istore (ls2 := [(8, .int (0 : Int32)), (7, .int (-1 : Int32)), (6, .int (0 : Int32)), (5, .int s0), (0, .ref a0), (1, .int x1), (2, .int x2), (3, .int x3), (4, .int x4)]) dX12_rests_50 (by decide) rfl ?_
  obtain ⟨N, hf⟩ := hf
  refine V_to [4, 5, 6, 7, 8, 3, 2, 1, 0] rfl ?_
  exact vX12_rests_L52 hn N _ _ _ _ _ _ _ _ _ _ hf
def wX12_rests_J40 (n : Nat) (sh : Nat → Nat × Nat) (P : Int32 → gS → Prop) (a0 : Nat) (x1 : Int32) (x2 : Int32) (x3 : Int32) (x4 : Int32) (z : gS) : Prop := wX12_rests_J41 n sh P a0 x1 x2 x3 x4 (0 : Int32) z
set_option maxRecDepth 100000 in
set_option maxHeartbeats 4000000 in
theorem vX12_rests_J40 {E : gE} {n : Nat} {sh : Nat → Nat × Nat} {P : Int32 → gS → Prop} {a0 : Nat} {x1 : Int32} {x2 : Int32} {x3 : Int32} {x4 : Int32} {z : gS} (hn : gOK E n) (hf : wX12_rests_J40 n sh P a0 x1 x2 x3 x4 z) : V E (gR 1 0) gyX12_rests 0 0 40 [(0, .ref a0), (1, .int x1), (2, .int x2), (3, .int x3), (4, .int x4)] [] n sh z (kI n sh P) := by
  unfold wX12_rests_J40 at hf
  refine V_iconst (v := (0 : Int32)) dX12_rests_40 (by decide) ?_
  exact vX12_rests_J41 hn hf
def wX12_rests (n : Nat) (sh : Nat → Nat × Nat) (a0 : Nat) (x1 : Int32) (x2 : Int32) (x3 : Int32) (x4 : Int32) (z : gS) (P : Int32 → gS → Prop) : Prop := wX12_within n sh x1 (0 : Int32) (9 : Int32) z (fun (r1 : Int32) (z2 : gS) => if r1 = 0 then wX12_rests_J40 n sh P a0 x1 x2 x3 x4 z2 else (wX12_within n sh x2 (0 : Int32) (9 : Int32) z2 (fun (r30 : Int32) (z31 : gS) => if r30 = 0 then wX12_rests_J40 n sh P a0 x1 x2 x3 x4 z31 else (wX12_within n sh x3 (0 : Int32) (9 : Int32) z31 (fun (r32 : Int32) (z33 : gS) => if r32 = 0 then wX12_rests_J40 n sh P a0 x1 x2 x3 x4 z33 else (if x4 < (-1 : Int32) then wX12_rests_J40 n sh P a0 x1 x2 x3 x4 z33 else wX12_rests_J41 n sh P a0 x1 x2 x3 x4 (1 : Int32) z33))))))
set_option maxRecDepth 100000 in
set_option maxHeartbeats 4000000 in
theorem ctX12_rests {E : gE} {n : Nat} {sh : Nat → Nat × Nat} {a0 : Nat} {x1 : Int32} {x2 : Int32} {x3 : Int32} {x4 : Int32} {z : gS} {P : Int32 → gS → Prop} (hn : gOK E n) (hf : wX12_rests n sh a0 x1 x2 x3 x4 z P) : VM E 1 0 gyX12_rests [.ref a0, .int x1, .int x2, .int x3, .int x4] n sh z (kI n sh P) := by
  unfold wX12_rests at hf
  refine VM.of (by decide +kernel) (Nat.le_of_ble_eq_true rfl) (fun _ _ _ h => h.2.2) ?_
  show V E (gR 1 0) gyX12_rests 0 0 0 [(0, .ref a0), (1, .int x1), (2, .int x2), (3, .int x3), (4, .int x4)] [] n sh z (kI n sh P)
  refine V_iload_n (j := 1) dX12_rests_0 rfl rfl ?_
  refine V_iconst (v := (0 : Int32)) dX12_rests_1 (by decide) ?_
  refine V_bipush (v := (9 : Int32)) dX12_rests_2 (by decide) ?_
  refine V_cSI (ctX12_within hn hf) gc_X12_198 rfl ⟨by decide, by decide, Nat.zero_le _, Nat.zero_le _⟩ (Nat.le_of_ble_eq_true rfl) dX12_rests_4 rfl hn (fun r1 z2 hf => ?_)
  refine V_if_eq (tgt := 40) dX12_rests_7 (by decide) (fun h37 => ?_) (fun h37 => ?_)
  · have hf := it_t h37 hf
    exact vX12_rests_J40 hn hf
  · have hf := it_f h37 hf
    refine V_iload_n (j := 2) dX12_rests_10 rfl rfl ?_
    refine V_iconst (v := (0 : Int32)) dX12_rests_11 (by decide) ?_
    refine V_bipush (v := (9 : Int32)) dX12_rests_12 (by decide) ?_
    refine V_cSI (ctX12_within hn hf) gc_X12_198 rfl ⟨by decide, by decide, Nat.zero_le _, Nat.zero_le _⟩ (Nat.le_of_ble_eq_true rfl) dX12_rests_14 rfl hn (fun r30 z31 hf => ?_)
    refine V_if_eq (tgt := 40) dX12_rests_17 (by decide) (fun h36 => ?_) (fun h36 => ?_)
    · have hf := it_t h36 hf
      exact vX12_rests_J40 hn hf
    · have hf := it_f h36 hf
      refine V_iload_n (j := 3) dX12_rests_20 rfl rfl ?_
      refine V_iconst (v := (0 : Int32)) dX12_rests_21 (by decide) ?_
      refine V_bipush (v := (9 : Int32)) dX12_rests_22 (by decide) ?_
      refine V_cSI (ctX12_within hn hf) gc_X12_198 rfl ⟨by decide, by decide, Nat.zero_le _, Nat.zero_le _⟩ (Nat.le_of_ble_eq_true rfl) dX12_rests_24 rfl hn (fun r32 z33 hf => ?_)
      refine V_if_eq (tgt := 40) dX12_rests_27 (by decide) (fun h35 => ?_) (fun h35 => ?_)
      · have hf := it_t h35 hf
        exact vX12_rests_J40 hn hf
      · have hf := it_f h35 hf
        refine V_iload (j := 4) dX12_rests_30 rfl ?_
        refine V_iconst (v := (-1 : Int32)) dX12_rests_32 (by decide) ?_
        refine V_icmp_lt (tgt := 40) dX12_rests_33 (by decide) (fun h34 => ?_) (fun h34 => ?_)
        · have hf := it_t h34 hf
          exact vX12_rests_J40 hn hf
        · have hf := it_f h34 hf
          refine V_iconst (v := (1 : Int32)) dX12_rests_36 (by decide) ?_
          refine V_goto (tgt := 41) dX12_rests_37 (by decide) ?_
          exact vX12_rests_J41 hn hf
def wX12_draw (n : Nat) (sh : Nat → Nat × Nat) (a0 : Nat) (x1 : Int32) (z : gS) (P : Int32 → gS → Prop) : Prop := (oO n sh a0 8) ∧ (∀ z2 : gS, z2 = sl z a0 28 ((((gl z a0 28) * (1103515245 : Int64)) + (12345 : Int64)) - (((gl z a0 28) * (1103515245 : Int64)) + (12345 : Int64)) / (2147483648 : Int64) * (2147483648 : Int64)) → ((¬ x1.toInt64 = 0) ∧ P (((gl z2 a0 28) / (65536 : Int64)) - ((gl z2 a0 28) / (65536 : Int64)) / x1.toInt64 * x1.toInt64).toInt32 z2))
set_option maxRecDepth 100000 in
set_option maxHeartbeats 4000000 in
theorem ctX12_draw {E : gE} {n : Nat} {sh : Nat → Nat × Nat} {a0 : Nat} {x1 : Int32} {z : gS} {P : Int32 → gS → Prop} (hn : gOK E n) (hf : wX12_draw n sh a0 x1 z P) : VM E 0 0 gyX12_draw [.ref a0, .int x1] n sh z (kI n sh P) := by
  unfold wX12_draw at hf
  refine VM.of (by decide +kernel) (Nat.le_of_ble_eq_true rfl) (fun _ _ _ h => h.2.2) ?_
  show V E (gR 0 0) gyX12_draw 0 0 0 [(0, .ref a0), (1, .int x1)] [] n sh z (kI n sh P)
  refine V_aload_n (j := 0) dX12_draw_0 rfl rfl ?_
  refine V_aload_n (j := 0) dX12_draw_1 rfl rfl ?_
  obtain ⟨h1, hf⟩ := hf
  refine V_getL fl_X12_390 rfl h1.1 h1.2 dX12_draw_2 ?_
  refine V_ldc2 dX12_draw_5 rfl kj_X12_394 ?_
  refine V_lmul dX12_draw_8 ?_
  refine V_ldc2 dX12_draw_9 rfl kj_X12_396 ?_
  refine V_ladd dX12_draw_12 ?_
  refine V_ldc2 dX12_draw_13 rfl kj_X12_398 ?_
  refine V_lrem dX12_draw_16 (by decide) ?_
  refine V_putL fl_X12_390 rfl rfl rfl rfl h1.1 h1.2 dX12_draw_17 ?_
  refine V_nz (fun z2 ez2 => ?_)
  have hf := hf z2 ez2
  refine V_aload_n (j := 0) dX12_draw_20 rfl rfl ?_
  refine V_getL fl_X12_390 rfl h1.1 h1.2 dX12_draw_21 ?_
  refine V_ldc2 dX12_draw_24 rfl kj_X12_400 ?_
  refine V_ldiv dX12_draw_27 (by decide) ?_
  refine V_iload_n (j := 1) dX12_draw_28 rfl rfl ?_
  refine V_i2l dX12_draw_29 ?_
  obtain ⟨h3, hf⟩ := hf
  refine V_lrem dX12_draw_30 h3 ?_
  refine V_l2i dX12_draw_31 ?_
  exact V_ireturn dX12_draw_32 rfl rfl (Nat.le_refl 0) (kI_of hf)
def wX12_drawsPerson_J118 (n : Nat) (sh : Nat → Nat × Nat) (P : gS → Prop) (s0 : Int32) (s1 : Int32) (s2 : Nat) (z : gS) : Prop := (oO n sh s2 8) ∧ (∀ z18 : gS, z18 = si z s2 30 (s1 + s0) → P z18)
set_option maxRecDepth 100000 in
set_option maxHeartbeats 4000000 in
theorem vX12_drawsPerson_J118 {E : gE} {n : Nat} {sh : Nat → Nat × Nat} {P : gS → Prop} {s0 : Int32} {s1 : Int32} {s2 : Nat} {z : gS} (hn : gOK E n) (hf : wX12_drawsPerson_J118 n sh P s0 s1 s2 z) : V E (gR 5 0) gyX12_drawsPerson 0 0 118 [] [.int s0, .int s1, .ref s2] n sh z (kN n sh P) := by
  unfold wX12_drawsPerson_J118 at hf
  refine V_iadd dX12_drawsPerson_118 ?_
  obtain ⟨h17, hf⟩ := hf
  refine V_putI fl_X12_408 rfl rfl rfl rfl h17.1 h17.2 dX12_drawsPerson_119 ?_
  refine V_nz (fun z18 ez18 => ?_)
  have hf := hf z18 ez18
  exact V_return dX12_drawsPerson_122 rfl (Nat.le_refl 0) (kN_of hf)
def wX12_drawsPerson_J63 (n : Nat) (sh : Nat → Nat × Nat) (P : gS → Prop) (s0 : Int32) (s1 : Int32) (s2 : Nat) (z : gS) : Prop := (oA n sh s2 1) ∧ ((vp_in s1 (sh s2).2) ∧ (∀ z27 : gS, z27 = si z s2 s1.toNatClampNeg s0 → P z27))
set_option maxRecDepth 100000 in
set_option maxHeartbeats 4000000 in
theorem vX12_drawsPerson_J63 {E : gE} {n : Nat} {sh : Nat → Nat × Nat} {P : gS → Prop} {s0 : Int32} {s1 : Int32} {s2 : Nat} {z : gS} (hn : gOK E n) (hf : wX12_drawsPerson_J63 n sh P s0 s1 s2 z) : V E (gR 5 0) gyX12_drawsPerson 0 0 63 [] [.int s0, .int s1, .ref s2] n sh z (kN n sh P) := by
  unfold wX12_drawsPerson_J63 at hf
  obtain ⟨h25, hf⟩ := hf
  obtain ⟨h26, hf⟩ := hf
  refine V_iast h25.1 h25.s h26 dX12_drawsPerson_63 ?_
  refine V_nz (fun z27 ez27 => ?_)
  have hf := hf z27 ez27
  refine V_goto (tgt := 122) dX12_drawsPerson_64 (by decide) ?_
  exact V_return dX12_drawsPerson_122 rfl (Nat.le_refl 0) (kN_of hf)
def wX12_drawsPerson_J35 (n : Nat) (sh : Nat → Nat × Nat) (P : gS → Prop) (a0 : Nat) (x1 : Int32) (x3 : Int32) (s0 : Int32) (z : gS) : Prop := (oO n sh a0 8) ∧ (∃ t22 : Nat, gr z a0 24 = some t22 ∧ (wX12_within n sh s0 (0 : Int32) (9 : Int32) z (fun (r23 : Int32) (z24 : gS) => if r23 = 0 then wX12_drawsPerson_J63 n sh P x3 ((1453 : Int32) + x1) t22 z24 else wX12_drawsPerson_J63 n sh P s0 ((1453 : Int32) + x1) t22 z24)))
set_option maxRecDepth 100000 in
set_option maxHeartbeats 4000000 in
theorem vX12_drawsPerson_J35 {E : gE} {n : Nat} {sh : Nat → Nat × Nat} {P : gS → Prop} {a0 : Nat} {x1 : Int32} {x3 : Int32} {s0 : Int32} {z : gS} (hn : gOK E n) (hf : wX12_drawsPerson_J35 n sh P a0 x1 x3 s0 z) : V E (gR 5 0) gyX12_drawsPerson 0 0 35 [(0, .ref a0), (1, .int x1), (3, .int x3)] [.int s0] n sh z (kN n sh P) := by
  unfold wX12_drawsPerson_J35 at hf
  refine V_istore (ls2 := [(4, .int s0), (0, .ref a0), (1, .int x1), (3, .int x3)]) dX12_drawsPerson_35 (by decide) rfl ?_
  refine V_aload_n (j := 1) dX12_drawsPerson_37 rfl rfl ?_
  obtain ⟨h21, hf⟩ := hf
  obtain ⟨t22, et22, hf⟩ := hf
  refine V_getR fl_X12_119 rfl h21.1 h21.2 et22 dX12_drawsPerson_38 ?_
  refine V_sipush (v := (1453 : Int32)) dX12_drawsPerson_41 (by decide) ?_
  refine V_iload_n (j := 2) dX12_drawsPerson_44 rfl rfl ?_
  refine V_iadd dX12_drawsPerson_45 ?_
  refine V_iload (j := 0) dX12_drawsPerson_46 rfl ?_
  refine V_iconst (v := (0 : Int32)) dX12_drawsPerson_48 (by decide) ?_
  refine V_bipush (v := (9 : Int32)) dX12_drawsPerson_49 (by decide) ?_
  refine V_cSI (ctX12_within hn hf) gc_X12_198 rfl ⟨by decide, by decide, Nat.zero_le _, Nat.zero_le _⟩ (Nat.le_of_ble_eq_true rfl) dX12_drawsPerson_51 rfl hn (fun r23 z24 hf => ?_)
  refine V_if_eq (tgt := 62) dX12_drawsPerson_54 (by decide) (fun h28 => ?_) (fun h28 => ?_)
  · have hf := it_t h28 hf
    refine V_iload_n (j := 3) dX12_drawsPerson_62 rfl rfl ?_
    refine V_to [] rfl ?_
    exact vX12_drawsPerson_J63 hn hf
  · have hf := it_f h28 hf
    refine V_iload (j := 0) dX12_drawsPerson_57 rfl ?_
    refine V_goto (tgt := 63) dX12_drawsPerson_59 (by decide) ?_
    refine V_to [] rfl ?_
    exact vX12_drawsPerson_J63 hn hf
def wX12_drawsPerson (n : Nat) (sh : Nat → Nat × Nat) (a0 : Nat) (x1 : Int32) (z : gS) (P : gS → Prop) : Prop := (oO n sh a0 8) ∧ (wX12_draw n sh a0 (3 : Int32) z (fun (r1 : Int32) (z2 : gS) => ∃ t4 : Nat, gr z2 a0 24 = some t4 ∧ ((oA n sh t4 1) ∧ ((vp_in ((1453 : Int32) + x1) (sh t4).2) ∧ (∀ v7 : Int32, v7 = (gi z2 t4 ((1453 : Int32) + x1).toNatClampNeg) → (if (2 : Int32) ≤ r1 then (wX12_deeds n sh a0 z2 (fun (r8 : Int32) (z9 : gS) => if r8 ≤ 0 then P z9 else (wX12_deeds n sh a0 z9 (fun (r10 : Int32) (z11 : gS) => wX12_draw n sh a0 r10 z11 (fun (r12 : Int32) (z13 : gS) => wX12_does n sh a0 (1452 : Int32) x1 r12 v7 z13 (fun (r14 : Int32) (z15 : gS) => ∀ z16 : gS, z16 = si z15 a0 29 ((gi z15 a0 29) + (1 : Int32)) → (if r14 = 0 then wX12_drawsPerson_J118 n sh P (1 : Int32) (gi z16 a0 30) a0 z16 else wX12_drawsPerson_J118 n sh P (0 : Int32) (gi z16 a0 30) a0 z16))))))) else (if r1 = 0 then wX12_drawsPerson_J35 n sh P a0 x1 v7 (v7 - (1 : Int32)) z2 else wX12_drawsPerson_J35 n sh P a0 x1 v7 (v7 + (1 : Int32)) z2)))))))
set_option maxRecDepth 100000 in
set_option maxHeartbeats 4000000 in
theorem ctX12_drawsPerson {E : gE} {n : Nat} {sh : Nat → Nat × Nat} {a0 : Nat} {x1 : Int32} {z : gS} {P : gS → Prop} (hn : gOK E n) (hf : wX12_drawsPerson n sh a0 x1 z P) : VM E 5 0 gyX12_drawsPerson [.ref a0, .int x1] n sh z (kN n sh P) := by
  unfold wX12_drawsPerson at hf
  refine VM.of (by decide +kernel) (Nat.le_of_ble_eq_true rfl) (fun _ _ _ h => h.2.2) ?_
  show V E (gR 5 0) gyX12_drawsPerson 0 0 0 [(0, .ref a0), (1, .int x1)] [] n sh z (kN n sh P)
  refine V_aload_n (j := 0) dX12_drawsPerson_0 rfl rfl ?_
  refine V_iconst (v := (3 : Int32)) dX12_drawsPerson_1 (by decide) ?_
  obtain ⟨h3, hf⟩ := hf
  refine V_cVI (ctX12_draw hn hf) gc_X12_402 rfl h3.1 ⟨_, h3.2, by decide, rfl⟩ ⟨by decide, by decide, Nat.zero_le _, Nat.zero_le _⟩ (Nat.le_of_ble_eq_true rfl) dX12_drawsPerson_2 rfl hn (fun r1 z2 hf => ?_)
  refine V_istore_n (ls2 := [(2, .int r1), (0, .ref a0), (1, .int x1)]) dX12_drawsPerson_5 rfl (by decide) rfl ?_
  refine V_aload_n (j := 1) dX12_drawsPerson_6 rfl rfl ?_
  obtain ⟨t4, et4, hf⟩ := hf
  refine V_getR fl_X12_119 rfl h3.1 h3.2 et4 dX12_drawsPerson_7 ?_
  refine V_sipush (v := (1453 : Int32)) dX12_drawsPerson_10 (by decide) ?_
  refine V_iload_n (j := 2) dX12_drawsPerson_13 rfl rfl ?_
  refine V_iadd dX12_drawsPerson_14 ?_
  obtain ⟨h5, hf⟩ := hf
  obtain ⟨h6, hf⟩ := hf
  refine V_iald h5.1 h5.s h6 dX12_drawsPerson_15 ?_
  refine V_nI (fun v7 ev7 => ?_)
  have hf := hf v7 ev7
  refine V_istore_n (ls2 := [(3, .int v7), (2, .int r1), (0, .ref a0), (1, .int x1)]) dX12_drawsPerson_16 rfl (by decide) rfl ?_
  refine V_iload_n (j := 1) dX12_drawsPerson_17 rfl rfl ?_
  refine V_iconst (v := (2 : Int32)) dX12_drawsPerson_18 (by decide) ?_
  refine V_icmp_ge (tgt := 67) dX12_drawsPerson_19 (by decide) (fun h30 => ?_) (fun h30 => ?_)
  · have hf := it_t h30 hf
    refine V_aload_n (j := 2) dX12_drawsPerson_67 rfl rfl ?_
    refine V_cVI (ctX12_deeds hn hf) gc_X12_281 rfl h3.1 ⟨_, h3.2, by decide, rfl⟩ ⟨by decide, by decide, Nat.zero_le _, Nat.zero_le _⟩ (Nat.le_of_ble_eq_true rfl) dX12_drawsPerson_68 rfl hn (fun r8 z9 hf => ?_)
    refine V_if_le (tgt := 122) dX12_drawsPerson_71 (by decide) (fun h20 => ?_) (fun h20 => ?_)
    · have hf := it_t h20 hf
      exact V_return dX12_drawsPerson_122 rfl (Nat.le_refl 0) (kN_of hf)
    · have hf := it_f h20 hf
      refine V_aload_n (j := 2) dX12_drawsPerson_74 rfl rfl ?_
      refine V_sipush (v := (1452 : Int32)) dX12_drawsPerson_75 (by decide) ?_
      refine V_iload_n (j := 3) dX12_drawsPerson_78 rfl rfl ?_
      refine V_aload_n (j := 2) dX12_drawsPerson_79 rfl rfl ?_
      refine V_aload_n (j := 2) dX12_drawsPerson_80 rfl rfl ?_
      refine V_cVI (ctX12_deeds hn hf) gc_X12_281 rfl h3.1 ⟨_, h3.2, by decide, rfl⟩ ⟨by decide, by decide, Nat.zero_le _, Nat.zero_le _⟩ (Nat.le_of_ble_eq_true rfl) dX12_drawsPerson_81 rfl hn (fun r10 z11 hf => ?_)
      refine V_cVI (ctX12_draw hn hf) gc_X12_402 rfl h3.1 ⟨_, h3.2, by decide, rfl⟩ ⟨by decide, by decide, Nat.zero_le _, Nat.zero_le _⟩ (Nat.le_of_ble_eq_true rfl) dX12_drawsPerson_84 rfl hn (fun r12 z13 hf => ?_)
      refine V_iload_n (j := 0) dX12_drawsPerson_87 rfl rfl ?_
      refine V_cVI (ctX12_does hn hf) gc_X12_355 rfl h3.1 ⟨_, h3.2, by decide, rfl⟩ ⟨by decide, by decide, Nat.zero_le _, Nat.zero_le _⟩ (Nat.le_of_ble_eq_true rfl) dX12_drawsPerson_88 rfl hn (fun r14 z15 hf => ?_)
      refine V_istore (ls2 := [(4, .int r14), (3, .int v7), (2, .int r1), (0, .ref a0), (1, .int x1)]) dX12_drawsPerson_91 (by decide) rfl ?_
      refine V_aload_n (j := 3) dX12_drawsPerson_93 rfl rfl ?_
      refine V_dup dX12_drawsPerson_94 rfl ?_
      refine V_getI fl_X12_405 rfl h3.1 h3.2 dX12_drawsPerson_95 ?_
      refine V_iconst (v := (1 : Int32)) dX12_drawsPerson_98 (by decide) ?_
      refine V_iadd dX12_drawsPerson_99 ?_
      refine V_putI fl_X12_405 rfl rfl rfl rfl h3.1 h3.2 dX12_drawsPerson_100 ?_
      refine V_nz (fun z16 ez16 => ?_)
      have hf := hf z16 ez16
      refine V_aload_n (j := 3) dX12_drawsPerson_103 rfl rfl ?_
      refine V_dup dX12_drawsPerson_104 rfl ?_
      refine V_getI fl_X12_408 rfl h3.1 h3.2 dX12_drawsPerson_105 ?_
      refine V_iload (j := 0) dX12_drawsPerson_108 rfl ?_
      refine V_if_ne (tgt := 117) dX12_drawsPerson_110 (by decide) (fun h19 => ?_) (fun h19 => ?_)
      · have hf := it_f h19 hf
        refine V_iconst (v := (0 : Int32)) dX12_drawsPerson_117 (by decide) ?_
        refine V_to [] rfl ?_
        exact vX12_drawsPerson_J118 hn hf
      · have hf := it_t (Classical.not_not.mp h19) hf
        refine V_iconst (v := (1 : Int32)) dX12_drawsPerson_113 (by decide) ?_
        refine V_goto (tgt := 118) dX12_drawsPerson_114 (by decide) ?_
        refine V_to [] rfl ?_
        exact vX12_drawsPerson_J118 hn hf
  · have hf := it_f h30 hf
    refine V_iload_n (j := 1) dX12_drawsPerson_22 rfl rfl ?_
    refine V_if_ne (tgt := 32) dX12_drawsPerson_23 (by decide) (fun h29 => ?_) (fun h29 => ?_)
    · have hf := it_f h29 hf
      refine V_iload_n (j := 0) dX12_drawsPerson_32 rfl rfl ?_
      refine V_iconst (v := (1 : Int32)) dX12_drawsPerson_33 (by decide) ?_
      refine V_iadd dX12_drawsPerson_34 ?_
      refine V_to [2, 3, 0] rfl ?_
      exact vX12_drawsPerson_J35 hn hf
    · have hf := it_t (Classical.not_not.mp h29) hf
      refine V_iload_n (j := 0) dX12_drawsPerson_26 rfl rfl ?_
      refine V_iconst (v := (1 : Int32)) dX12_drawsPerson_27 (by decide) ?_
      refine V_isub dX12_drawsPerson_28 ?_
      refine V_goto (tgt := 35) dX12_drawsPerson_29 (by decide) ?_
      refine V_to [2, 3, 0] rfl ?_
      exact vX12_drawsPerson_J35 hn hf
