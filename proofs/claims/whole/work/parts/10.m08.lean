def wX12_ask_J118 (n : Nat) (sh : Nat → Nat × Nat) (k20 : Nat → Int32 → Int32 → Int32 → Int32 → gS → Prop) (P : Int32 → gS → Prop) (a0 : Nat) (x1 : Int32) (x2 : Int32) (x4 : Int32) (s0 : Int32) (z : gS) : Prop := ∀ v22 : Int32, v22 = x4 + (1 : Int32) → k20 a0 x1 x2 s0 v22 z
set_option maxRecDepth 100000 in
set_option maxHeartbeats 4000000 in
theorem vX12_ask_J118 {E : gE} {n : Nat} {sh : Nat → Nat × Nat} {P : Int32 → gS → Prop} {k20 : Nat → Int32 → Int32 → Int32 → Int32 → gS → Prop} {a0 : Nat} {x1 : Int32} {x2 : Int32} {x4 : Int32} {s0 : Int32} {z : gS} (hn : n ≤ 1000000) (hk20 : ∀ (a0 : Nat) (x1 : Int32) (x2 : Int32) (x3 : Int32) (x4 : Int32) (z : gS), k20 a0 x1 x2 x3 x4 z → V E (gR 4 0) gyX12_ask 0 0 20 [(0, .ref a0), (1, .int x1), (2, .int x2), (3, .int x3), (4, .int x4)] [] n sh z (kI n sh P)) (hf : wX12_ask_J118 n sh k20 P a0 x1 x2 x4 s0 z) : V E (gR 4 0) gyX12_ask 0 0 118 [(0, .ref a0), (1, .int x1), (2, .int x2), (4, .int x4)] [.int s0] n sh z (kI n sh P) := by
  unfold wX12_ask_J118 at hf
  refine V_istore_n (ls2 := [(3, .int s0), (0, .ref a0), (1, .int x1), (2, .int x2), (4, .int x4)]) dX12_ask_118 rfl (by decide) rfl ?_
  obtain ⟨v22, ev22⟩ : ∃ y : Int32, y = x4 + (1 : Int32) := ⟨_, rfl⟩
  refine V_iinc (j := 4) (v := v22) (ls2 := [(4, .int v22), (3, .int s0), (0, .ref a0), (1, .int x1), (2, .int x2)]) dX12_ask_119 rfl (by rw [ev22]; rfl) (by decide) rfl ?_
  have hf := hf v22 ev22
  refine V_goto (tgt := 20) dX12_ask_122 (by decide) ?_
  refine V_to [2, 3, 4, 1, 0] rfl ?_
  exact hk20 _ _ _ _ _ _ hf
def wX12_ask_J106 (n : Nat) (sh : Nat → Nat × Nat) (k20 : Nat → Int32 → Int32 → Int32 → Int32 → gS → Prop) (P : Int32 → gS → Prop) (a0 : Nat) (x1 : Int32) (x3 : Int32) (x4 : Int32) (x6 : Int32) (x7 : Int32) (s0 : Int32) (z : gS) : Prop := if x7 = 0 then wX12_ask_J118 n sh k20 P a0 x1 s0 x4 x3 z else wX12_ask_J118 n sh k20 P a0 x1 s0 x4 x6 z
set_option maxRecDepth 100000 in
set_option maxHeartbeats 4000000 in
theorem vX12_ask_J106 {E : gE} {n : Nat} {sh : Nat → Nat × Nat} {P : Int32 → gS → Prop} {k20 : Nat → Int32 → Int32 → Int32 → Int32 → gS → Prop} {a0 : Nat} {x1 : Int32} {x3 : Int32} {x4 : Int32} {x6 : Int32} {x7 : Int32} {s0 : Int32} {z : gS} (hn : n ≤ 1000000) (hk20 : ∀ (a0 : Nat) (x1 : Int32) (x2 : Int32) (x3 : Int32) (x4 : Int32) (z : gS), k20 a0 x1 x2 x3 x4 z → V E (gR 4 0) gyX12_ask 0 0 20 [(0, .ref a0), (1, .int x1), (2, .int x2), (3, .int x3), (4, .int x4)] [] n sh z (kI n sh P)) (hf : wX12_ask_J106 n sh k20 P a0 x1 x3 x4 x6 x7 s0 z) : V E (gR 4 0) gyX12_ask 0 0 106 [(0, .ref a0), (1, .int x1), (3, .int x3), (4, .int x4), (6, .int x6), (7, .int x7)] [.int s0] n sh z (kI n sh P) := by
  unfold wX12_ask_J106 at hf
  refine V_istore_n (ls2 := [(2, .int s0), (0, .ref a0), (1, .int x1), (3, .int x3), (4, .int x4), (6, .int x6), (7, .int x7)]) dX12_ask_106 rfl (by decide) rfl ?_
  refine V_iload (j := 6) dX12_ask_107 rfl ?_
  refine V_if_eq (tgt := 117) dX12_ask_109 (by decide) (fun h23 => ?_) (fun h23 => ?_)
  · have hf := it_t h23 hf
    refine V_iload_n (j := 3) dX12_ask_117 rfl rfl ?_
    refine V_to [1, 2, 0, 4] rfl ?_
    exact vX12_ask_J118 hn hk20 hf
  · have hf := it_f h23 hf
    refine V_iload (j := 5) dX12_ask_112 rfl ?_
    refine V_goto (tgt := 118) dX12_ask_114 (by decide) ?_
    refine V_to [1, 2, 0, 4] rfl ?_
    exact vX12_ask_J118 hn hk20 hf
def wX12_ask_J93 (n : Nat) (sh : Nat → Nat × Nat) (k20 : Nat → Int32 → Int32 → Int32 → Int32 → gS → Prop) (P : Int32 → gS → Prop) (a0 : Nat) (x1 : Int32) (x2 : Int32) (x3 : Int32) (x4 : Int32) (x6 : Int32) (s0 : Int32) (z : gS) : Prop := if s0 = 0 then wX12_ask_J106 n sh k20 P a0 x1 x3 x4 x6 s0 x2 z else wX12_ask_J106 n sh k20 P a0 x1 x3 x4 x6 s0 x4 z
set_option maxRecDepth 100000 in
set_option maxHeartbeats 4000000 in
theorem vX12_ask_J93 {E : gE} {n : Nat} {sh : Nat → Nat × Nat} {P : Int32 → gS → Prop} {k20 : Nat → Int32 → Int32 → Int32 → Int32 → gS → Prop} {a0 : Nat} {x1 : Int32} {x2 : Int32} {x3 : Int32} {x4 : Int32} {x6 : Int32} {s0 : Int32} {z : gS} (hn : n ≤ 1000000) (hk20 : ∀ (a0 : Nat) (x1 : Int32) (x2 : Int32) (x3 : Int32) (x4 : Int32) (z : gS), k20 a0 x1 x2 x3 x4 z → V E (gR 4 0) gyX12_ask 0 0 20 [(0, .ref a0), (1, .int x1), (2, .int x2), (3, .int x3), (4, .int x4)] [] n sh z (kI n sh P)) (hf : wX12_ask_J93 n sh k20 P a0 x1 x2 x3 x4 x6 s0 z) : V E (gR 4 0) gyX12_ask 0 0 93 [(0, .ref a0), (1, .int x1), (2, .int x2), (3, .int x3), (4, .int x4), (6, .int x6)] [.int s0] n sh z (kI n sh P) := by
  unfold wX12_ask_J93 at hf
  refine V_istore (ls2 := [(7, .int s0), (0, .ref a0), (1, .int x1), (2, .int x2), (3, .int x3), (4, .int x4), (6, .int x6)]) dX12_ask_93 (by decide) rfl ?_
  refine V_iload (j := 0) dX12_ask_95 rfl ?_
  refine V_if_eq (tgt := 105) dX12_ask_97 (by decide) (fun h24 => ?_) (fun h24 => ?_)
  · have hf := it_t h24 hf
    refine V_iload_n (j := 3) dX12_ask_105 rfl rfl ?_
    refine V_to [1, 2, 4, 5, 6, 0] rfl ?_
    exact vX12_ask_J106 hn hk20 hf
  · have hf := it_f h24 hf
    refine V_iload (j := 5) dX12_ask_100 rfl ?_
    refine V_goto (tgt := 106) dX12_ask_102 (by decide) ?_
    refine V_to [1, 2, 4, 5, 6, 0] rfl ?_
    exact vX12_ask_J106 hn hk20 hf
def wX12_ask_J92 (n : Nat) (sh : Nat → Nat × Nat) (k20 : Nat → Int32 → Int32 → Int32 → Int32 → gS → Prop) (P : Int32 → gS → Prop) (a0 : Nat) (x1 : Int32) (x2 : Int32) (x3 : Int32) (x4 : Int32) (x6 : Int32) (z : gS) : Prop := wX12_ask_J93 n sh k20 P a0 x1 x2 x3 x4 x6 (0 : Int32) z
set_option maxRecDepth 100000 in
set_option maxHeartbeats 4000000 in
theorem vX12_ask_J92 {E : gE} {n : Nat} {sh : Nat → Nat × Nat} {P : Int32 → gS → Prop} {k20 : Nat → Int32 → Int32 → Int32 → Int32 → gS → Prop} {a0 : Nat} {x1 : Int32} {x2 : Int32} {x3 : Int32} {x4 : Int32} {x6 : Int32} {z : gS} (hn : n ≤ 1000000) (hk20 : ∀ (a0 : Nat) (x1 : Int32) (x2 : Int32) (x3 : Int32) (x4 : Int32) (z : gS), k20 a0 x1 x2 x3 x4 z → V E (gR 4 0) gyX12_ask 0 0 20 [(0, .ref a0), (1, .int x1), (2, .int x2), (3, .int x3), (4, .int x4)] [] n sh z (kI n sh P)) (hf : wX12_ask_J92 n sh k20 P a0 x1 x2 x3 x4 x6 z) : V E (gR 4 0) gyX12_ask 0 0 92 [(0, .ref a0), (1, .int x1), (2, .int x2), (3, .int x3), (4, .int x4), (6, .int x6)] [] n sh z (kI n sh P) := by
  unfold wX12_ask_J92 at hf
  refine V_iconst (v := (0 : Int32)) dX12_ask_92 (by decide) ?_
  exact vX12_ask_J93 hn hk20 hf
def wX12_ask_J67 (n : Nat) (sh : Nat → Nat × Nat) (k20 : Nat → Int32 → Int32 → Int32 → Int32 → gS → Prop) (P : Int32 → gS → Prop) (a0 : Nat) (x1 : Int32) (x2 : Int32) (x3 : Int32) (x4 : Int32) (s0 : Int32) (z : gS) : Prop := (oO n sh a0 8) ∧ (∃ t19 : Nat, gr z a0 24 = some t19 ∧ ((oA n sh t19 1) ∧ ((vp_in ((60 : Int32) + x4) (sh t19).2) ∧ (if 0 ≤ (gi z t19 ((60 : Int32) + x4).toNatClampNeg) then wX12_ask_J92 n sh k20 P a0 x1 x2 x3 x4 s0 z else (if x3 ≤ s0 then wX12_ask_J92 n sh k20 P a0 x1 x2 x3 x4 s0 z else wX12_ask_J93 n sh k20 P a0 x1 x2 x3 x4 s0 (1 : Int32) z)))))
set_option maxRecDepth 100000 in
set_option maxHeartbeats 4000000 in
theorem vX12_ask_J67 {E : gE} {n : Nat} {sh : Nat → Nat × Nat} {P : Int32 → gS → Prop} {k20 : Nat → Int32 → Int32 → Int32 → Int32 → gS → Prop} {a0 : Nat} {x1 : Int32} {x2 : Int32} {x3 : Int32} {x4 : Int32} {s0 : Int32} {z : gS} (hn : n ≤ 1000000) (hk20 : ∀ (a0 : Nat) (x1 : Int32) (x2 : Int32) (x3 : Int32) (x4 : Int32) (z : gS), k20 a0 x1 x2 x3 x4 z → V E (gR 4 0) gyX12_ask 0 0 20 [(0, .ref a0), (1, .int x1), (2, .int x2), (3, .int x3), (4, .int x4)] [] n sh z (kI n sh P)) (hf : wX12_ask_J67 n sh k20 P a0 x1 x2 x3 x4 s0 z) : V E (gR 4 0) gyX12_ask 0 0 67 [(0, .ref a0), (1, .int x1), (2, .int x2), (3, .int x3), (4, .int x4)] [.int s0] n sh z (kI n sh P) := by
  unfold wX12_ask_J67 at hf
  refine V_istore (ls2 := [(6, .int s0), (0, .ref a0), (1, .int x1), (2, .int x2), (3, .int x3), (4, .int x4)]) dX12_ask_67 (by decide) rfl ?_
  refine V_aload_n (j := 1) dX12_ask_69 rfl rfl ?_
  obtain ⟨h18, hf⟩ := hf
  obtain ⟨t19, et19, hf⟩ := hf
  refine V_getR fl_X12_119 rfl h18.1 h18.2 et19 dX12_ask_70 ?_
  refine V_bipush (v := (60 : Int32)) dX12_ask_73 (by decide) ?_
  refine V_iload (j := 5) dX12_ask_75 rfl ?_
  refine V_iadd dX12_ask_77 ?_
  obtain ⟨h20, hf⟩ := hf
  obtain ⟨h21, hf⟩ := hf
  refine V_iald h20.1 h20.s h21 dX12_ask_78 ?_
  refine V_if_ge (tgt := 92) dX12_ask_79 (by decide) (fun h26 => ?_) (fun h26 => ?_)
  · have hf := it_t h26 hf
    refine V_to [1, 2, 3, 4, 5, 0] rfl ?_
    exact vX12_ask_J92 hn hk20 hf
  · have hf := it_f h26 hf
    refine V_iload (j := 0) dX12_ask_82 rfl ?_
    refine V_iload_n (j := 4) dX12_ask_84 rfl rfl ?_
    refine V_icmp_ge (tgt := 92) dX12_ask_85 (by decide) (fun h25 => ?_) (fun h25 => ?_)
    · have hf := it_t h25 hf
      refine V_to [1, 2, 3, 4, 5, 0] rfl ?_
      exact vX12_ask_J92 hn hk20 hf
    · have hf := it_f h25 hf
      refine V_iconst (v := (1 : Int32)) dX12_ask_88 (by decide) ?_
      refine V_goto (tgt := 93) dX12_ask_89 (by decide) ?_
      refine V_to [1, 2, 3, 4, 5, 0] rfl ?_
      exact vX12_ask_J93 hn hk20 hf
def wX12_ask_B20 (n : Nat) (sh : Nat → Nat × Nat) (k20 : Nat → Int32 → Int32 → Int32 → Int32 → gS → Prop) (P : Int32 → gS → Prop) (a0 : Nat) (x1 : Int32) (x2 : Int32) (x3 : Int32) (x4 : Int32) (z : gS) : Prop := (oO n sh a0 8) ∧ (wX12_panes n sh a0 z (fun (r7 : Int32) (z8 : gS) => if r7 ≤ x4 then P x2 z8 else (wX12_sightOf n sh a0 (0 : Int32) x4 z8 (fun (r10 : Int32) (z11 : gS) => wX12_bits n sh (x1 &&& r10) z11 (fun (r12 : Int32) (z13 : gS) => wX12_bits n sh x1 z13 (fun (r14 : Int32) (z15 : gS) => if r12 ≤ (r14 - r12) then (wX12_bits n sh x1 z15 (fun (r16 : Int32) (z17 : gS) => wX12_ask_J67 n sh k20 P a0 x1 x2 x3 x4 (r16 - r12) z17)) else wX12_ask_J67 n sh k20 P a0 x1 x2 x3 x4 r12 z15))))))
def wX12_ask_L20 (n : Nat) (sh : Nat → Nat × Nat) (P : Int32 → gS → Prop) : Nat → Nat → Int32 → Int32 → Int32 → Int32 → gS → Prop
  | 0, _, _, _, _, _, _ => False
  | N + 1, a0, x1, x2, x3, x4, z => wX12_ask_B20 n sh (wX12_ask_L20 n sh P N) P a0 x1 x2 x3 x4 z
set_option maxRecDepth 100000 in
set_option maxHeartbeats 4000000 in
theorem vX12_ask_B20 {E : gE} {n : Nat} {sh : Nat → Nat × Nat} {P : Int32 → gS → Prop} {k20 : Nat → Int32 → Int32 → Int32 → Int32 → gS → Prop} {a0 : Nat} {x1 : Int32} {x2 : Int32} {x3 : Int32} {x4 : Int32} {z : gS} (hn : n ≤ 1000000) (hk20 : ∀ (a0 : Nat) (x1 : Int32) (x2 : Int32) (x3 : Int32) (x4 : Int32) (z : gS), k20 a0 x1 x2 x3 x4 z → V E (gR 4 0) gyX12_ask 0 0 20 [(0, .ref a0), (1, .int x1), (2, .int x2), (3, .int x3), (4, .int x4)] [] n sh z (kI n sh P)) (hf : wX12_ask_B20 n sh k20 P a0 x1 x2 x3 x4 z) : V E (gR 4 0) gyX12_ask 0 0 20 [(0, .ref a0), (1, .int x1), (2, .int x2), (3, .int x3), (4, .int x4)] [] n sh z (kI n sh P) := by
  unfold wX12_ask_B20 at hf
  refine V_iload (j := 4) dX12_ask_20 rfl ?_
  refine V_aload_n (j := 0) dX12_ask_22 rfl rfl ?_
  obtain ⟨h9, hf⟩ := hf
  refine V_cVI (ctX12_panes hn hf) gc_X12_278 rfl h9.1 ⟨_, h9.2, by decide, rfl⟩ ⟨by decide, by decide, Nat.zero_le _, Nat.zero_le _⟩ (Nat.le_of_ble_eq_true rfl) dX12_ask_23 rfl hn (fun r7 z8 hf => ?_)
  refine V_icmp_ge (tgt := 125) dX12_ask_26 (by decide) (fun h28 => ?_) (fun h28 => ?_)
  · have hf := it_t h28 hf
    refine V_iload_n (j := 2) dX12_ask_125 rfl rfl ?_
    exact V_ireturn dX12_ask_126 rfl rfl (Nat.le_refl 0) (kI_of hf)
  · have hf := it_f h28 hf
    refine V_iload_n (j := 1) dX12_ask_29 rfl rfl ?_
    refine V_aload_n (j := 0) dX12_ask_30 rfl rfl ?_
    refine V_iconst (v := (0 : Int32)) dX12_ask_31 (by decide) ?_
    refine V_iload (j := 4) dX12_ask_32 rfl ?_
    refine V_cVI (ctX12_sightOf hn hf) gc_X12_294 rfl h9.1 ⟨_, h9.2, by decide, rfl⟩ ⟨by decide, by decide, Nat.zero_le _, Nat.zero_le _⟩ (Nat.le_of_ble_eq_true rfl) dX12_ask_34 rfl hn (fun r10 z11 hf => ?_)
    refine V_iand dX12_ask_37 ?_
    refine V_cSI (ctX12_bits hn hf) gc_X12_374 rfl ⟨by decide, by decide, Nat.zero_le _, Nat.zero_le _⟩ (Nat.le_of_ble_eq_true rfl) dX12_ask_38 rfl hn (fun r12 z13 hf => ?_)
    refine V_istore (ls2 := [(5, .int r12), (0, .ref a0), (1, .int x1), (2, .int x2), (3, .int x3), (4, .int x4)]) dX12_ask_41 (by decide) rfl ?_
    refine V_iload (j := 0) dX12_ask_43 rfl ?_
    refine V_iload_n (j := 2) dX12_ask_45 rfl rfl ?_
    refine V_cSI (ctX12_bits hn hf) gc_X12_374 rfl ⟨by decide, by decide, Nat.zero_le _, Nat.zero_le _⟩ (Nat.le_of_ble_eq_true rfl) dX12_ask_46 rfl hn (fun r14 z15 hf => ?_)
    refine V_iload (j := 0) dX12_ask_49 rfl ?_
    refine V_isub dX12_ask_51 ?_
    refine V_icmp_le (tgt := 60) dX12_ask_52 (by decide) (fun h27 => ?_) (fun h27 => ?_)
    · have hf := it_t h27 hf
      refine V_iload_n (j := 2) dX12_ask_60 rfl rfl ?_
      refine V_cSI (ctX12_bits hn hf) gc_X12_374 rfl ⟨by decide, by decide, Nat.zero_le _, Nat.zero_le _⟩ (Nat.le_of_ble_eq_true rfl) dX12_ask_61 rfl hn (fun r16 z17 hf => ?_)
      refine V_iload (j := 0) dX12_ask_64 rfl ?_
      refine V_isub dX12_ask_66 ?_
      refine V_to [1, 2, 3, 4, 5] rfl ?_
      exact vX12_ask_J67 hn hk20 hf
    · have hf := it_f h27 hf
      refine V_iload (j := 0) dX12_ask_55 rfl ?_
      refine V_goto (tgt := 67) dX12_ask_57 (by decide) ?_
      refine V_to [1, 2, 3, 4, 5] rfl ?_
      exact vX12_ask_J67 hn hk20 hf
set_option maxRecDepth 100000 in
set_option maxHeartbeats 4000000 in
theorem vX12_ask_L20 {E : gE} {n : Nat} {sh : Nat → Nat × Nat} {P : Int32 → gS → Prop} (hn : n ≤ 1000000) : ∀ (N : Nat) (a0 : Nat) (x1 : Int32) (x2 : Int32) (x3 : Int32) (x4 : Int32) (z : gS), wX12_ask_L20 n sh P N a0 x1 x2 x3 x4 z → V E (gR 4 0) gyX12_ask 0 0 20 [(0, .ref a0), (1, .int x1), (2, .int x2), (3, .int x3), (4, .int x4)] [] n sh z (kI n sh P) := by
  intro N
  induction N with
  | zero => intro a0 x1 x2 x3 x4 z hf; exact False.elim hf
  | succ N ih => intro a0 x1 x2 x3 x4 z hf; exact vX12_ask_B20 hn ih hf
def wX12_ask (n : Nat) (sh : Nat → Nat × Nat) (a0 : Nat) (z : gS) (P : Int32 → gS → Prop) : Prop := (oO n sh a0 8) ∧ (∀ z2 : gS, z2 = si z a0 0 (0 : Int32) → (wX12_cellsNow n sh a0 z2 (fun (r3 : Int32) (z4 : gS) => wX12_bits n sh r3 z4 (fun (r5 : Int32) (z6 : gS) => (∃ N, wX12_ask_L20 n sh P N a0 r3 (-1 : Int32) r5 (0 : Int32) z6)))))
set_option maxRecDepth 100000 in
set_option maxHeartbeats 4000000 in
theorem ctX12_ask {E : gE} {n : Nat} {sh : Nat → Nat × Nat} {a0 : Nat} {z : gS} {P : Int32 → gS → Prop} (hn : n ≤ 1000000) (hf : wX12_ask n sh a0 z P) : VM E 4 0 gyX12_ask [.ref a0] n sh z (kI n sh P) := by
  unfold wX12_ask at hf
  refine VM.of (by decide +kernel) (Nat.le_of_ble_eq_true rfl) ?_
  show V E (gR 4 0) gyX12_ask 0 0 0 [(0, .ref a0)] [] n sh z (kI n sh P)
  refine V_aload_n (j := 0) dX12_ask_0 rfl rfl ?_
  refine V_iconst (v := (0 : Int32)) dX12_ask_1 (by decide) ?_
  obtain ⟨h1, hf⟩ := hf
  refine V_putI fl_X12_1 rfl rfl rfl rfl h1.1 h1.2 dX12_ask_2 ?_
  refine V_nz (fun z2 ez2 => ?_)
  have hf := hf z2 ez2
  refine V_aload_n (j := 0) dX12_ask_5 rfl rfl ?_
  refine V_cVI (ctX12_cellsNow hn hf) gc_X12_377 rfl h1.1 ⟨_, h1.2, by decide, rfl⟩ ⟨by decide, by decide, Nat.zero_le _, Nat.zero_le _⟩ (Nat.le_of_ble_eq_true rfl) dX12_ask_6 rfl hn (fun r3 z4 hf => ?_)
  refine V_istore_n (ls2 := [(1, .int r3), (0, .ref a0)]) dX12_ask_9 rfl (by decide) rfl ?_
  refine V_iconst (v := (-1 : Int32)) dX12_ask_10 (by decide) ?_
  refine V_istore_n (ls2 := [(2, .int (-1 : Int32)), (1, .int r3), (0, .ref a0)]) dX12_ask_11 rfl (by decide) rfl ?_
  refine V_iload_n (j := 1) dX12_ask_12 rfl rfl ?_
  refine V_cSI (ctX12_bits hn hf) gc_X12_374 rfl ⟨by decide, by decide, Nat.zero_le _, Nat.zero_le _⟩ (Nat.le_of_ble_eq_true rfl) dX12_ask_13 rfl hn (fun r5 z6 hf => ?_)
  refine V_istore_n (ls2 := [(3, .int r5), (2, .int (-1 : Int32)), (1, .int r3), (0, .ref a0)]) dX12_ask_16 rfl (by decide) rfl ?_
  refine V_iconst (v := (0 : Int32)) dX12_ask_17 (by decide) ?_
  refine V_istore (ls2 := [(4, .int (0 : Int32)), (3, .int r5), (2, .int (-1 : Int32)), (1, .int r3), (0, .ref a0)]) dX12_ask_18 (by decide) rfl ?_
  obtain ⟨N, hf⟩ := hf
  refine V_to [4, 3, 2, 1, 0] rfl ?_
  exact vX12_ask_L20 hn N _ _ _ _ _ _ hf
def wX12_peopleIn_J41 (n : Nat) (sh : Nat → Nat × Nat) (k5 : Nat → Int32 → Int32 → Int32 → Int32 → gS → Prop) (P : Int32 → gS → Prop) (a0 : Nat) (x1 : Int32) (x2 : Int32) (x4 : Int32) (s0 : Int32) (s1 : Int32) (z : gS) : Prop := ∀ v9 : Int32, v9 = (s1 + s0) → (∀ v10 : Int32, v10 = x4 + (1 : Int32) → k5 a0 x1 x2 v9 v10 z)
set_option maxRecDepth 100000 in
set_option maxHeartbeats 4000000 in
theorem vX12_peopleIn_J41 {E : gE} {n : Nat} {sh : Nat → Nat × Nat} {P : Int32 → gS → Prop} {k5 : Nat → Int32 → Int32 → Int32 → Int32 → gS → Prop} {a0 : Nat} {x1 : Int32} {x2 : Int32} {x4 : Int32} {s0 : Int32} {s1 : Int32} {z : gS} (hn : n ≤ 1000000) (hk5 : ∀ (a0 : Nat) (x1 : Int32) (x2 : Int32) (x3 : Int32) (x4 : Int32) (z : gS), k5 a0 x1 x2 x3 x4 z → V E (gR 1 0) gyX12_peopleIn 0 0 5 [(0, .ref a0), (1, .int x1), (2, .int x2), (3, .int x3), (4, .int x4)] [] n sh z (kI n sh P)) (hf : wX12_peopleIn_J41 n sh k5 P a0 x1 x2 x4 s0 s1 z) : V E (gR 1 0) gyX12_peopleIn 0 0 41 [(0, .ref a0), (1, .int x1), (2, .int x2), (4, .int x4)] [.int s0, .int s1] n sh z (kI n sh P) := by
  unfold wX12_peopleIn_J41 at hf
  refine V_iadd dX12_peopleIn_41 ?_
  refine V_nI (fun v9 ev9 => ?_)
  have hf := hf v9 ev9
  refine V_istore_n (ls2 := [(3, .int v9), (0, .ref a0), (1, .int x1), (2, .int x2), (4, .int x4)]) dX12_peopleIn_42 rfl (by decide) rfl ?_
  obtain ⟨v10, ev10⟩ : ∃ y : Int32, y = x4 + (1 : Int32) := ⟨_, rfl⟩
  refine V_iinc (j := 4) (v := v10) (ls2 := [(4, .int v10), (3, .int v9), (0, .ref a0), (1, .int x1), (2, .int x2)]) dX12_peopleIn_43 rfl (by rw [ev10]; rfl) (by decide) rfl ?_
  have hf := hf v10 ev10
  refine V_goto (tgt := 5) dX12_peopleIn_46 (by decide) ?_
  refine V_to [2, 3, 4, 1, 0] rfl ?_
  exact hk5 _ _ _ _ _ _ hf
def wX12_peopleIn_B5 (n : Nat) (sh : Nat → Nat × Nat) (k5 : Nat → Int32 → Int32 → Int32 → Int32 → gS → Prop) (P : Int32 → gS → Prop) (a0 : Nat) (x1 : Int32) (x2 : Int32) (x3 : Int32) (x4 : Int32) (z : gS) : Prop := (oO n sh a0 8) ∧ (wX12_people n sh a0 z (fun (r1 : Int32) (z2 : gS) => if r1 ≤ x4 then P x3 z2 else (∃ t4 : Nat, gr z2 a0 24 = some t4 ∧ ((oA n sh t4 1) ∧ ((vp_in ((1 : Int32) + x4) (sh t4).2) ∧ (wX12_within n sh (gi z2 t4 ((1 : Int32) + x4).toNatClampNeg) x1 ((x1 + x2) - (1 : Int32)) z2 (fun (r7 : Int32) (z8 : gS) => if r7 = 0 then wX12_peopleIn_J41 n sh k5 P a0 x1 x2 x4 (0 : Int32) x3 z8 else wX12_peopleIn_J41 n sh k5 P a0 x1 x2 x4 (1 : Int32) x3 z8)))))))
def wX12_peopleIn_L5 (n : Nat) (sh : Nat → Nat × Nat) (P : Int32 → gS → Prop) : Nat → Nat → Int32 → Int32 → Int32 → Int32 → gS → Prop
  | 0, _, _, _, _, _, _ => False
  | N + 1, a0, x1, x2, x3, x4, z => wX12_peopleIn_B5 n sh (wX12_peopleIn_L5 n sh P N) P a0 x1 x2 x3 x4 z
set_option maxRecDepth 100000 in
set_option maxHeartbeats 4000000 in
theorem vX12_peopleIn_B5 {E : gE} {n : Nat} {sh : Nat → Nat × Nat} {P : Int32 → gS → Prop} {k5 : Nat → Int32 → Int32 → Int32 → Int32 → gS → Prop} {a0 : Nat} {x1 : Int32} {x2 : Int32} {x3 : Int32} {x4 : Int32} {z : gS} (hn : n ≤ 1000000) (hk5 : ∀ (a0 : Nat) (x1 : Int32) (x2 : Int32) (x3 : Int32) (x4 : Int32) (z : gS), k5 a0 x1 x2 x3 x4 z → V E (gR 1 0) gyX12_peopleIn 0 0 5 [(0, .ref a0), (1, .int x1), (2, .int x2), (3, .int x3), (4, .int x4)] [] n sh z (kI n sh P)) (hf : wX12_peopleIn_B5 n sh k5 P a0 x1 x2 x3 x4 z) : V E (gR 1 0) gyX12_peopleIn 0 0 5 [(0, .ref a0), (1, .int x1), (2, .int x2), (3, .int x3), (4, .int x4)] [] n sh z (kI n sh P) := by
  unfold wX12_peopleIn_B5 at hf
  refine V_iload (j := 4) dX12_peopleIn_5 rfl ?_
  refine V_aload_n (j := 0) dX12_peopleIn_7 rfl rfl ?_
  obtain ⟨h3, hf⟩ := hf
  refine V_cVI (ctX12_people hn hf) gc_X12_265 rfl h3.1 ⟨_, h3.2, by decide, rfl⟩ ⟨by decide, by decide, Nat.zero_le _, Nat.zero_le _⟩ (Nat.le_of_ble_eq_true rfl) dX12_peopleIn_8 rfl hn (fun r1 z2 hf => ?_)
  refine V_icmp_ge (tgt := 49) dX12_peopleIn_11 (by decide) (fun h12 => ?_) (fun h12 => ?_)
  · have hf := it_t h12 hf
    refine V_iload_n (j := 3) dX12_peopleIn_49 rfl rfl ?_
    exact V_ireturn dX12_peopleIn_50 rfl rfl (Nat.le_refl 0) (kI_of hf)
  · have hf := it_f h12 hf
    refine V_iload_n (j := 3) dX12_peopleIn_14 rfl rfl ?_
    refine V_aload_n (j := 0) dX12_peopleIn_15 rfl rfl ?_
    obtain ⟨t4, et4, hf⟩ := hf
    refine V_getR fl_X12_119 rfl h3.1 h3.2 et4 dX12_peopleIn_16 ?_
    refine V_iconst (v := (1 : Int32)) dX12_peopleIn_19 (by decide) ?_
    refine V_iload (j := 4) dX12_peopleIn_20 rfl ?_
    refine V_iadd dX12_peopleIn_22 ?_
    obtain ⟨h5, hf⟩ := hf
    obtain ⟨h6, hf⟩ := hf
    refine V_iald h5.1 h5.s h6 dX12_peopleIn_23 ?_
    refine V_iload_n (j := 1) dX12_peopleIn_24 rfl rfl ?_
    refine V_iload_n (j := 1) dX12_peopleIn_25 rfl rfl ?_
    refine V_iload_n (j := 2) dX12_peopleIn_26 rfl rfl ?_
    refine V_iadd dX12_peopleIn_27 ?_
    refine V_iconst (v := (1 : Int32)) dX12_peopleIn_28 (by decide) ?_
    refine V_isub dX12_peopleIn_29 ?_
    refine V_cSI (ctX12_within hn hf) gc_X12_198 rfl ⟨by decide, by decide, Nat.zero_le _, Nat.zero_le _⟩ (Nat.le_of_ble_eq_true rfl) dX12_peopleIn_30 rfl hn (fun r7 z8 hf => ?_)
    refine V_if_eq (tgt := 40) dX12_peopleIn_33 (by decide) (fun h11 => ?_) (fun h11 => ?_)
    · have hf := it_t h11 hf
      refine V_iconst (v := (0 : Int32)) dX12_peopleIn_40 (by decide) ?_
      refine V_to [0, 1, 2, 4] rfl ?_
      exact vX12_peopleIn_J41 hn hk5 hf
    · have hf := it_f h11 hf
      refine V_iconst (v := (1 : Int32)) dX12_peopleIn_36 (by decide) ?_
      refine V_goto (tgt := 41) dX12_peopleIn_37 (by decide) ?_
      refine V_to [0, 1, 2, 4] rfl ?_
      exact vX12_peopleIn_J41 hn hk5 hf
set_option maxRecDepth 100000 in
set_option maxHeartbeats 4000000 in
theorem vX12_peopleIn_L5 {E : gE} {n : Nat} {sh : Nat → Nat × Nat} {P : Int32 → gS → Prop} (hn : n ≤ 1000000) : ∀ (N : Nat) (a0 : Nat) (x1 : Int32) (x2 : Int32) (x3 : Int32) (x4 : Int32) (z : gS), wX12_peopleIn_L5 n sh P N a0 x1 x2 x3 x4 z → V E (gR 1 0) gyX12_peopleIn 0 0 5 [(0, .ref a0), (1, .int x1), (2, .int x2), (3, .int x3), (4, .int x4)] [] n sh z (kI n sh P) := by
  intro N
  induction N with
  | zero => intro a0 x1 x2 x3 x4 z hf; exact False.elim hf
  | succ N ih => intro a0 x1 x2 x3 x4 z hf; exact vX12_peopleIn_B5 hn ih hf
def wX12_peopleIn (n : Nat) (sh : Nat → Nat × Nat) (a0 : Nat) (x1 : Int32) (x2 : Int32) (z : gS) (P : Int32 → gS → Prop) : Prop := (∃ N, wX12_peopleIn_L5 n sh P N a0 x1 x2 (0 : Int32) (0 : Int32) z)
set_option maxRecDepth 100000 in
set_option maxHeartbeats 4000000 in
theorem ctX12_peopleIn {E : gE} {n : Nat} {sh : Nat → Nat × Nat} {a0 : Nat} {x1 : Int32} {x2 : Int32} {z : gS} {P : Int32 → gS → Prop} (hn : n ≤ 1000000) (hf : wX12_peopleIn n sh a0 x1 x2 z P) : VM E 1 0 gyX12_peopleIn [.ref a0, .int x1, .int x2] n sh z (kI n sh P) := by
  unfold wX12_peopleIn at hf
  refine VM.of (by decide +kernel) (Nat.le_of_ble_eq_true rfl) ?_
  show V E (gR 1 0) gyX12_peopleIn 0 0 0 [(0, .ref a0), (1, .int x1), (2, .int x2)] [] n sh z (kI n sh P)
  refine V_iconst (v := (0 : Int32)) dX12_peopleIn_0 (by decide) ?_
  refine V_istore_n (ls2 := [(3, .int (0 : Int32)), (0, .ref a0), (1, .int x1), (2, .int x2)]) dX12_peopleIn_1 rfl (by decide) rfl ?_
  refine V_iconst (v := (0 : Int32)) dX12_peopleIn_2 (by decide) ?_
  refine V_istore (ls2 := [(4, .int (0 : Int32)), (3, .int (0 : Int32)), (0, .ref a0), (1, .int x1), (2, .int x2)]) dX12_peopleIn_3 (by decide) rfl ?_
  obtain ⟨N, hf⟩ := hf
  refine V_to [2, 3, 4, 1, 0] rfl ?_
  exact vX12_peopleIn_L5 hn N _ _ _ _ _ _ hf
def wX12_glass_J49 (n : Nat) (sh : Nat → Nat × Nat) (k21 : Nat → Int32 → Int32 → Int32 → gS → Prop) (P : Int32 → gS → Prop) (a0 : Nat) (x1 : Int32) (x3 : Int32) (s0 : Int32) (z : gS) : Prop := ∀ v10 : Int32, v10 = x3 + (1 : Int32) → k21 a0 x1 s0 v10 z
set_option maxRecDepth 100000 in
set_option maxHeartbeats 4000000 in
theorem vX12_glass_J49 {E : gE} {n : Nat} {sh : Nat → Nat × Nat} {P : Int32 → gS → Prop} {k21 : Nat → Int32 → Int32 → Int32 → gS → Prop} {a0 : Nat} {x1 : Int32} {x3 : Int32} {s0 : Int32} {z : gS} (hn : n ≤ 1000000) (hk21 : ∀ (a0 : Nat) (x1 : Int32) (x2 : Int32) (x3 : Int32) (z : gS), k21 a0 x1 x2 x3 z → V E (gR 2 0) gyX12_glass 0 0 21 [(0, .ref a0), (1, .int x1), (2, .int x2), (3, .int x3)] [] n sh z (kI n sh P)) (hf : wX12_glass_J49 n sh k21 P a0 x1 x3 s0 z) : V E (gR 2 0) gyX12_glass 0 0 49 [(0, .ref a0), (1, .int x1), (3, .int x3)] [.int s0] n sh z (kI n sh P) := by
  unfold wX12_glass_J49 at hf
  refine V_istore_n (ls2 := [(2, .int s0), (0, .ref a0), (1, .int x1), (3, .int x3)]) dX12_glass_49 rfl (by decide) rfl ?_
  obtain ⟨v10, ev10⟩ : ∃ y : Int32, y = x3 + (1 : Int32) := ⟨_, rfl⟩
  refine V_iinc (j := 3) (v := v10) (ls2 := [(3, .int v10), (2, .int s0), (0, .ref a0), (1, .int x1)]) dX12_glass_50 rfl (by rw [ev10]; rfl) (by decide) rfl ?_
  have hf := hf v10 ev10
  refine V_goto (tgt := 21) dX12_glass_53 (by decide) ?_
  refine V_to [2, 3, 1, 0] rfl ?_
  exact hk21 _ _ _ _ _ hf
def wX12_glass_B21 (n : Nat) (sh : Nat → Nat × Nat) (k21 : Nat → Int32 → Int32 → Int32 → gS → Prop) (P : Int32 → gS → Prop) (a0 : Nat) (x1 : Int32) (x2 : Int32) (x3 : Int32) (z : gS) : Prop := if (10 : Int32) < (x3 + x1) then P x2 z else ((oO n sh a0 8) ∧ (wX12_peopleIn n sh a0 x3 x1 z (fun (r5 : Int32) (z6 : gS) => wX12_peopleIn n sh a0 x2 x1 z6 (fun (r8 : Int32) (z9 : gS) => if r5 ≤ r8 then wX12_glass_J49 n sh k21 P a0 x1 x3 x2 z9 else wX12_glass_J49 n sh k21 P a0 x1 x3 x3 z9))))
def wX12_glass_L21 (n : Nat) (sh : Nat → Nat × Nat) (P : Int32 → gS → Prop) : Nat → Nat → Int32 → Int32 → Int32 → gS → Prop
  | 0, _, _, _, _, _ => False
  | N + 1, a0, x1, x2, x3, z => wX12_glass_B21 n sh (wX12_glass_L21 n sh P N) P a0 x1 x2 x3 z
set_option maxRecDepth 100000 in
set_option maxHeartbeats 4000000 in
theorem vX12_glass_B21 {E : gE} {n : Nat} {sh : Nat → Nat × Nat} {P : Int32 → gS → Prop} {k21 : Nat → Int32 → Int32 → Int32 → gS → Prop} {a0 : Nat} {x1 : Int32} {x2 : Int32} {x3 : Int32} {z : gS} (hn : n ≤ 1000000) (hk21 : ∀ (a0 : Nat) (x1 : Int32) (x2 : Int32) (x3 : Int32) (z : gS), k21 a0 x1 x2 x3 z → V E (gR 2 0) gyX12_glass 0 0 21 [(0, .ref a0), (1, .int x1), (2, .int x2), (3, .int x3)] [] n sh z (kI n sh P)) (hf : wX12_glass_B21 n sh k21 P a0 x1 x2 x3 z) : V E (gR 2 0) gyX12_glass 0 0 21 [(0, .ref a0), (1, .int x1), (2, .int x2), (3, .int x3)] [] n sh z (kI n sh P) := by
  unfold wX12_glass_B21 at hf
  refine V_iload_n (j := 3) dX12_glass_21 rfl rfl ?_
  refine V_iload_n (j := 1) dX12_glass_22 rfl rfl ?_
  refine V_iadd dX12_glass_23 ?_
  refine V_bipush (v := (10 : Int32)) dX12_glass_24 (by decide) ?_
  refine V_icmp_gt (tgt := 56) dX12_glass_26 (by decide) (fun h12 => ?_) (fun h12 => ?_)
  · have hf := it_t h12 hf
    refine V_iload_n (j := 2) dX12_glass_56 rfl rfl ?_
    exact V_ireturn dX12_glass_57 rfl rfl (Nat.le_refl 0) (kI_of hf)
  · have hf := it_f h12 hf
    refine V_aload_n (j := 0) dX12_glass_29 rfl rfl ?_
    refine V_iload_n (j := 3) dX12_glass_30 rfl rfl ?_
    refine V_iload_n (j := 1) dX12_glass_31 rfl rfl ?_
    obtain ⟨h7, hf⟩ := hf
    refine V_cVI (ctX12_peopleIn hn hf) gc_X12_380 rfl h7.1 ⟨_, h7.2, by decide, rfl⟩ ⟨by decide, by decide, Nat.zero_le _, Nat.zero_le _⟩ (Nat.le_of_ble_eq_true rfl) dX12_glass_32 rfl hn (fun r5 z6 hf => ?_)
    refine V_aload_n (j := 0) dX12_glass_35 rfl rfl ?_
    refine V_iload_n (j := 2) dX12_glass_36 rfl rfl ?_
    refine V_iload_n (j := 1) dX12_glass_37 rfl rfl ?_
    refine V_cVI (ctX12_peopleIn hn hf) gc_X12_380 rfl h7.1 ⟨_, h7.2, by decide, rfl⟩ ⟨by decide, by decide, Nat.zero_le _, Nat.zero_le _⟩ (Nat.le_of_ble_eq_true rfl) dX12_glass_38 rfl hn (fun r8 z9 hf => ?_)
    refine V_icmp_le (tgt := 48) dX12_glass_41 (by decide) (fun h11 => ?_) (fun h11 => ?_)
    · have hf := it_t h11 hf
      refine V_iload_n (j := 2) dX12_glass_48 rfl rfl ?_
      refine V_to [0, 1, 3] rfl ?_
      exact vX12_glass_J49 hn hk21 hf
    · have hf := it_f h11 hf
      refine V_iload_n (j := 3) dX12_glass_44 rfl rfl ?_
      refine V_goto (tgt := 49) dX12_glass_45 (by decide) ?_
      refine V_to [0, 1, 3] rfl ?_
      exact vX12_glass_J49 hn hk21 hf
set_option maxRecDepth 100000 in
set_option maxHeartbeats 4000000 in
theorem vX12_glass_L21 {E : gE} {n : Nat} {sh : Nat → Nat × Nat} {P : Int32 → gS → Prop} (hn : n ≤ 1000000) : ∀ (N : Nat) (a0 : Nat) (x1 : Int32) (x2 : Int32) (x3 : Int32) (z : gS), wX12_glass_L21 n sh P N a0 x1 x2 x3 z → V E (gR 2 0) gyX12_glass 0 0 21 [(0, .ref a0), (1, .int x1), (2, .int x2), (3, .int x3)] [] n sh z (kI n sh P) := by
  intro N
  induction N with
  | zero => intro a0 x1 x2 x3 z hf; exact False.elim hf
  | succ N ih => intro a0 x1 x2 x3 z hf; exact vX12_glass_B21 hn ih hf
def wX12_glass (n : Nat) (sh : Nat → Nat × Nat) (a0 : Nat) (x1 : Int32) (z : gS) (P : Int32 → gS → Prop) : Prop := (oO n sh a0 8) ∧ (∀ z2 : gS, z2 = si z a0 0 (0 : Int32) → (wX12_within n sh x1 (1 : Int32) (10 : Int32) z2 (fun (r3 : Int32) (z4 : gS) => if r3 = 0 then P (-1 : Int32) z4 else ((∃ N, wX12_glass_L21 n sh P N a0 x1 (0 : Int32) (1 : Int32) z4)))))
set_option maxRecDepth 100000 in
set_option maxHeartbeats 4000000 in
theorem ctX12_glass {E : gE} {n : Nat} {sh : Nat → Nat × Nat} {a0 : Nat} {x1 : Int32} {z : gS} {P : Int32 → gS → Prop} (hn : n ≤ 1000000) (hf : wX12_glass n sh a0 x1 z P) : VM E 2 0 gyX12_glass [.ref a0, .int x1] n sh z (kI n sh P) := by
  unfold wX12_glass at hf
  refine VM.of (by decide +kernel) (Nat.le_of_ble_eq_true rfl) ?_
  show V E (gR 2 0) gyX12_glass 0 0 0 [(0, .ref a0), (1, .int x1)] [] n sh z (kI n sh P)
  refine V_aload_n (j := 0) dX12_glass_0 rfl rfl ?_
  refine V_iconst (v := (0 : Int32)) dX12_glass_1 (by decide) ?_
  obtain ⟨h1, hf⟩ := hf
  refine V_putI fl_X12_1 rfl rfl rfl rfl h1.1 h1.2 dX12_glass_2 ?_
  refine V_nz (fun z2 ez2 => ?_)
  have hf := hf z2 ez2
  refine V_iload_n (j := 1) dX12_glass_5 rfl rfl ?_
  refine V_iconst (v := (1 : Int32)) dX12_glass_6 (by decide) ?_
  refine V_bipush (v := (10 : Int32)) dX12_glass_7 (by decide) ?_
  refine V_cSI (ctX12_within hn hf) gc_X12_198 rfl ⟨by decide, by decide, Nat.zero_le _, Nat.zero_le _⟩ (Nat.le_of_ble_eq_true rfl) dX12_glass_9 rfl hn (fun r3 z4 hf => ?_)
  refine V_if_ne (tgt := 17) dX12_glass_12 (by decide) (fun h13 => ?_) (fun h13 => ?_)
  · have hf := it_f h13 hf
    refine V_iconst (v := (0 : Int32)) dX12_glass_17 (by decide) ?_
    refine V_istore_n (ls2 := [(2, .int (0 : Int32)), (0, .ref a0), (1, .int x1)]) dX12_glass_18 rfl (by decide) rfl ?_
    refine V_iconst (v := (1 : Int32)) dX12_glass_19 (by decide) ?_
    refine V_istore_n (ls2 := [(3, .int (1 : Int32)), (2, .int (0 : Int32)), (0, .ref a0), (1, .int x1)]) dX12_glass_20 rfl (by decide) rfl ?_
    obtain ⟨N, hf⟩ := hf
    refine V_to [2, 3, 1, 0] rfl ?_
    exact vX12_glass_L21 hn N _ _ _ _ _ hf
  · have hf := it_t (Classical.not_not.mp h13) hf
    refine V_iconst (v := (-1 : Int32)) dX12_glass_15 (by decide) ?_
    exact V_ireturn dX12_glass_16 rfl rfl (Nat.le_refl 0) (kI_of hf)
def wX12_seen (n : Nat) (sh : Nat → Nat × Nat) (a0 : Nat) (x1 : Int32) (z : gS) (P : Int32 → gS → Prop) : Prop := (oO n sh a0 8) ∧ (∀ z2 : gS, z2 = si z a0 0 (0 : Int32) → (wX12_isPerson n sh a0 x1 z2 (fun (r3 : Int32) (z4 : gS) => if r3 = 0 then P (-1 : Int32) z4 else (∃ t5 : Nat, gr z4 a0 24 = some t5 ∧ ((oA n sh t5 1) ∧ ((vp_in ((1 : Int32) + x1) (sh t5).2) ∧ (wX12_seersOf n sh a0 (0 : Int32) (gi z4 t5 ((1 : Int32) + x1).toNatClampNeg) z4 (fun (r8 : Int32) (z9 : gS) => P r8 z9))))))))
set_option maxRecDepth 100000 in
set_option maxHeartbeats 4000000 in
theorem ctX12_seen {E : gE} {n : Nat} {sh : Nat → Nat × Nat} {a0 : Nat} {x1 : Int32} {z : gS} {P : Int32 → gS → Prop} (hn : n ≤ 1000000) (hf : wX12_seen n sh a0 x1 z P) : VM E 4 0 gyX12_seen [.ref a0, .int x1] n sh z (kI n sh P) := by
  unfold wX12_seen at hf
  refine VM.of (by decide +kernel) (Nat.le_of_ble_eq_true rfl) ?_
  show V E (gR 4 0) gyX12_seen 0 0 0 [(0, .ref a0), (1, .int x1)] [] n sh z (kI n sh P)
  refine V_aload_n (j := 0) dX12_seen_0 rfl rfl ?_
  refine V_iconst (v := (0 : Int32)) dX12_seen_1 (by decide) ?_
  obtain ⟨h1, hf⟩ := hf
  refine V_putI fl_X12_1 rfl rfl rfl rfl h1.1 h1.2 dX12_seen_2 ?_
  refine V_nz (fun z2 ez2 => ?_)
  have hf := hf z2 ez2
  refine V_aload_n (j := 0) dX12_seen_5 rfl rfl ?_
  refine V_iload_n (j := 1) dX12_seen_6 rfl rfl ?_
  refine V_cVI (ctX12_isPerson hn hf) gc_X12_343 rfl h1.1 ⟨_, h1.2, by decide, rfl⟩ ⟨by decide, by decide, Nat.zero_le _, Nat.zero_le _⟩ (Nat.le_of_ble_eq_true rfl) dX12_seen_7 rfl hn (fun r3 z4 hf => ?_)
  refine V_if_eq (tgt := 29) dX12_seen_10 (by decide) (fun h10 => ?_) (fun h10 => ?_)
  · have hf := it_t h10 hf
    refine V_iconst (v := (-1 : Int32)) dX12_seen_29 (by decide) ?_
    exact V_ireturn dX12_seen_30 rfl rfl (Nat.le_refl 0) (kI_of hf)
  · have hf := it_f h10 hf
    refine V_aload_n (j := 0) dX12_seen_13 rfl rfl ?_
    refine V_iconst (v := (0 : Int32)) dX12_seen_14 (by decide) ?_
    refine V_aload_n (j := 0) dX12_seen_15 rfl rfl ?_
    obtain ⟨t5, et5, hf⟩ := hf
    refine V_getR fl_X12_119 rfl h1.1 h1.2 et5 dX12_seen_16 ?_
    refine V_iconst (v := (1 : Int32)) dX12_seen_19 (by decide) ?_
    refine V_iload_n (j := 1) dX12_seen_20 rfl rfl ?_
    refine V_iadd dX12_seen_21 ?_
    obtain ⟨h6, hf⟩ := hf
    obtain ⟨h7, hf⟩ := hf
    refine V_iald h6.1 h6.s h7 dX12_seen_22 ?_
    refine V_cVI (ctX12_seersOf hn hf) gc_X12_303 rfl h1.1 ⟨_, h1.2, by decide, rfl⟩ ⟨by decide, by decide, Nat.zero_le _, Nat.zero_le _⟩ (Nat.le_of_ble_eq_true rfl) dX12_seen_23 rfl hn (fun r8 z9 hf => ?_)
    refine V_goto (tgt := 30) dX12_seen_26 (by decide) ?_
    exact V_ireturn dX12_seen_30 rfl rfl (Nat.le_refl 0) (kI_of hf)
def wX12_eyes_J41 (n : Nat) (sh : Nat → Nat × Nat) (k9 : Nat → Int32 → Int32 → gS → Prop) (P : Int32 → gS → Prop) (a0 : Nat) (x2 : Int32) (s0 : Int32) (z : gS) : Prop := ∀ v12 : Int32, v12 = x2 + (1 : Int32) → k9 a0 s0 v12 z
set_option maxRecDepth 100000 in
set_option maxHeartbeats 4000000 in
theorem vX12_eyes_J41 {E : gE} {n : Nat} {sh : Nat → Nat × Nat} {P : Int32 → gS → Prop} {k9 : Nat → Int32 → Int32 → gS → Prop} {a0 : Nat} {x2 : Int32} {s0 : Int32} {z : gS} (hn : n ≤ 1000000) (hk9 : ∀ (a0 : Nat) (x1 : Int32) (x2 : Int32) (z : gS), k9 a0 x1 x2 z → V E (gR 4 0) gyX12_eyes 0 0 9 [(0, .ref a0), (1, .int x1), (2, .int x2)] [] n sh z (kI n sh P)) (hf : wX12_eyes_J41 n sh k9 P a0 x2 s0 z) : V E (gR 4 0) gyX12_eyes 0 0 41 [(0, .ref a0), (2, .int x2)] [.int s0] n sh z (kI n sh P) := by
  unfold wX12_eyes_J41 at hf
  refine V_istore_n (ls2 := [(1, .int s0), (0, .ref a0), (2, .int x2)]) dX12_eyes_41 rfl (by decide) rfl ?_
  obtain ⟨v12, ev12⟩ : ∃ y : Int32, y = x2 + (1 : Int32) := ⟨_, rfl⟩
  refine V_iinc (j := 2) (v := v12) (ls2 := [(2, .int v12), (1, .int s0), (0, .ref a0)]) dX12_eyes_42 rfl (by rw [ev12]; rfl) (by decide) rfl ?_
  have hf := hf v12 ev12
  refine V_goto (tgt := 9) dX12_eyes_45 (by decide) ?_
  refine V_to [2, 1, 0] rfl ?_
  exact hk9 _ _ _ _ hf
def wX12_eyes_B9 (n : Nat) (sh : Nat → Nat × Nat) (k9 : Nat → Int32 → Int32 → gS → Prop) (P : Int32 → gS → Prop) (a0 : Nat) (x1 : Int32) (x2 : Int32) (z : gS) : Prop := if (10 : Int32) ≤ x2 then P x1 z else ((oO n sh a0 8) ∧ (wX12_seersOf n sh a0 (0 : Int32) x2 z (fun (r3 : Int32) (z4 : gS) => wX12_bits n sh r3 z4 (fun (r6 : Int32) (z7 : gS) => wX12_seersOf n sh a0 (0 : Int32) x1 z7 (fun (r8 : Int32) (z9 : gS) => wX12_bits n sh r8 z9 (fun (r10 : Int32) (z11 : gS) => if r6 ≤ r10 then wX12_eyes_J41 n sh k9 P a0 x2 x1 z11 else wX12_eyes_J41 n sh k9 P a0 x2 x2 z11))))))
def wX12_eyes_L9 (n : Nat) (sh : Nat → Nat × Nat) (P : Int32 → gS → Prop) : Nat → Nat → Int32 → Int32 → gS → Prop
  | 0, _, _, _, _ => False
  | N + 1, a0, x1, x2, z => wX12_eyes_B9 n sh (wX12_eyes_L9 n sh P N) P a0 x1 x2 z
set_option maxRecDepth 100000 in
set_option maxHeartbeats 4000000 in
theorem vX12_eyes_B9 {E : gE} {n : Nat} {sh : Nat → Nat × Nat} {P : Int32 → gS → Prop} {k9 : Nat → Int32 → Int32 → gS → Prop} {a0 : Nat} {x1 : Int32} {x2 : Int32} {z : gS} (hn : n ≤ 1000000) (hk9 : ∀ (a0 : Nat) (x1 : Int32) (x2 : Int32) (z : gS), k9 a0 x1 x2 z → V E (gR 4 0) gyX12_eyes 0 0 9 [(0, .ref a0), (1, .int x1), (2, .int x2)] [] n sh z (kI n sh P)) (hf : wX12_eyes_B9 n sh k9 P a0 x1 x2 z) : V E (gR 4 0) gyX12_eyes 0 0 9 [(0, .ref a0), (1, .int x1), (2, .int x2)] [] n sh z (kI n sh P) := by
  unfold wX12_eyes_B9 at hf
  refine V_iload_n (j := 2) dX12_eyes_9 rfl rfl ?_
  refine V_bipush (v := (10 : Int32)) dX12_eyes_10 (by decide) ?_
  refine V_icmp_ge (tgt := 48) dX12_eyes_12 (by decide) (fun h14 => ?_) (fun h14 => ?_)
  · have hf := it_t h14 hf
    refine V_iload_n (j := 1) dX12_eyes_48 rfl rfl ?_
    exact V_ireturn dX12_eyes_49 rfl rfl (Nat.le_refl 0) (kI_of hf)
  · have hf := it_f h14 hf
    refine V_aload_n (j := 0) dX12_eyes_15 rfl rfl ?_
    refine V_iconst (v := (0 : Int32)) dX12_eyes_16 (by decide) ?_
    refine V_iload_n (j := 2) dX12_eyes_17 rfl rfl ?_
    obtain ⟨h5, hf⟩ := hf
    refine V_cVI (ctX12_seersOf hn hf) gc_X12_303 rfl h5.1 ⟨_, h5.2, by decide, rfl⟩ ⟨by decide, by decide, Nat.zero_le _, Nat.zero_le _⟩ (Nat.le_of_ble_eq_true rfl) dX12_eyes_18 rfl hn (fun r3 z4 hf => ?_)
    refine V_cSI (ctX12_bits hn hf) gc_X12_374 rfl ⟨by decide, by decide, Nat.zero_le _, Nat.zero_le _⟩ (Nat.le_of_ble_eq_true rfl) dX12_eyes_21 rfl hn (fun r6 z7 hf => ?_)
    refine V_aload_n (j := 0) dX12_eyes_24 rfl rfl ?_
    refine V_iconst (v := (0 : Int32)) dX12_eyes_25 (by decide) ?_
    refine V_iload_n (j := 1) dX12_eyes_26 rfl rfl ?_
    refine V_cVI (ctX12_seersOf hn hf) gc_X12_303 rfl h5.1 ⟨_, h5.2, by decide, rfl⟩ ⟨by decide, by decide, Nat.zero_le _, Nat.zero_le _⟩ (Nat.le_of_ble_eq_true rfl) dX12_eyes_27 rfl hn (fun r8 z9 hf => ?_)
    refine V_cSI (ctX12_bits hn hf) gc_X12_374 rfl ⟨by decide, by decide, Nat.zero_le _, Nat.zero_le _⟩ (Nat.le_of_ble_eq_true rfl) dX12_eyes_30 rfl hn (fun r10 z11 hf => ?_)
    refine V_icmp_le (tgt := 40) dX12_eyes_33 (by decide) (fun h13 => ?_) (fun h13 => ?_)
    · have hf := it_t h13 hf
      refine V_iload_n (j := 1) dX12_eyes_40 rfl rfl ?_
      refine V_to [0, 2] rfl ?_
      exact vX12_eyes_J41 hn hk9 hf
    · have hf := it_f h13 hf
      refine V_iload_n (j := 2) dX12_eyes_36 rfl rfl ?_
      refine V_goto (tgt := 41) dX12_eyes_37 (by decide) ?_
      refine V_to [0, 2] rfl ?_
      exact vX12_eyes_J41 hn hk9 hf
set_option maxRecDepth 100000 in
set_option maxHeartbeats 4000000 in
theorem vX12_eyes_L9 {E : gE} {n : Nat} {sh : Nat → Nat × Nat} {P : Int32 → gS → Prop} (hn : n ≤ 1000000) : ∀ (N : Nat) (a0 : Nat) (x1 : Int32) (x2 : Int32) (z : gS), wX12_eyes_L9 n sh P N a0 x1 x2 z → V E (gR 4 0) gyX12_eyes 0 0 9 [(0, .ref a0), (1, .int x1), (2, .int x2)] [] n sh z (kI n sh P) := by
  intro N
  induction N with
  | zero => intro a0 x1 x2 z hf; exact False.elim hf
  | succ N ih => intro a0 x1 x2 z hf; exact vX12_eyes_B9 hn ih hf
def wX12_eyes (n : Nat) (sh : Nat → Nat × Nat) (a0 : Nat) (z : gS) (P : Int32 → gS → Prop) : Prop := (oO n sh a0 8) ∧ (∀ z2 : gS, z2 = si z a0 0 (0 : Int32) → ((∃ N, wX12_eyes_L9 n sh P N a0 (0 : Int32) (1 : Int32) z2)))
set_option maxRecDepth 100000 in
set_option maxHeartbeats 4000000 in
theorem ctX12_eyes {E : gE} {n : Nat} {sh : Nat → Nat × Nat} {a0 : Nat} {z : gS} {P : Int32 → gS → Prop} (hn : n ≤ 1000000) (hf : wX12_eyes n sh a0 z P) : VM E 4 0 gyX12_eyes [.ref a0] n sh z (kI n sh P) := by
  unfold wX12_eyes at hf
  refine VM.of (by decide +kernel) (Nat.le_of_ble_eq_true rfl) ?_
  show V E (gR 4 0) gyX12_eyes 0 0 0 [(0, .ref a0)] [] n sh z (kI n sh P)
  refine V_aload_n (j := 0) dX12_eyes_0 rfl rfl ?_
  refine V_iconst (v := (0 : Int32)) dX12_eyes_1 (by decide) ?_
  obtain ⟨h1, hf⟩ := hf
  refine V_putI fl_X12_1 rfl rfl rfl rfl h1.1 h1.2 dX12_eyes_2 ?_
  refine V_nz (fun z2 ez2 => ?_)
  have hf := hf z2 ez2
  refine V_iconst (v := (0 : Int32)) dX12_eyes_5 (by decide) ?_
  refine V_istore_n (ls2 := [(1, .int (0 : Int32)), (0, .ref a0)]) dX12_eyes_6 rfl (by decide) rfl ?_
  refine V_iconst (v := (1 : Int32)) dX12_eyes_7 (by decide) ?_
  refine V_istore_n (ls2 := [(2, .int (1 : Int32)), (1, .int (0 : Int32)), (0, .ref a0)]) dX12_eyes_8 rfl (by decide) rfl ?_
  obtain ⟨N, hf⟩ := hf
  refine V_to [2, 1, 0] rfl ?_
  exact vX12_eyes_L9 hn N _ _ _ _ hf
def wX12_blind_J32 (n : Nat) (sh : Nat → Nat × Nat) (k9 : Nat → Int32 → Int32 → gS → Prop) (P : Int32 → gS → Prop) (a0 : Nat) (x2 : Int32) (s0 : Int32) (s1 : Int32) (z : gS) : Prop := ∀ v6 : Int32, v6 = (s1 ||| s0) → (∀ v7 : Int32, v7 = x2 + (1 : Int32) → k9 a0 v6 v7 z)
set_option maxRecDepth 100000 in
set_option maxHeartbeats 4000000 in
theorem vX12_blind_J32 {E : gE} {n : Nat} {sh : Nat → Nat × Nat} {P : Int32 → gS → Prop} {k9 : Nat → Int32 → Int32 → gS → Prop} {a0 : Nat} {x2 : Int32} {s0 : Int32} {s1 : Int32} {z : gS} (hn : n ≤ 1000000) (hk9 : ∀ (a0 : Nat) (x1 : Int32) (x2 : Int32) (z : gS), k9 a0 x1 x2 z → V E (gR 4 0) gyX12_blind 0 0 9 [(0, .ref a0), (1, .int x1), (2, .int x2)] [] n sh z (kI n sh P)) (hf : wX12_blind_J32 n sh k9 P a0 x2 s0 s1 z) : V E (gR 4 0) gyX12_blind 0 0 32 [(0, .ref a0), (2, .int x2)] [.int s0, .int s1] n sh z (kI n sh P) := by
  unfold wX12_blind_J32 at hf
  refine V_ior dX12_blind_32 ?_
  refine V_nI (fun v6 ev6 => ?_)
  have hf := hf v6 ev6
  refine V_istore_n (ls2 := [(1, .int v6), (0, .ref a0), (2, .int x2)]) dX12_blind_33 rfl (by decide) rfl ?_
  obtain ⟨v7, ev7⟩ : ∃ y : Int32, y = x2 + (1 : Int32) := ⟨_, rfl⟩
  refine V_iinc (j := 2) (v := v7) (ls2 := [(2, .int v7), (1, .int v6), (0, .ref a0)]) dX12_blind_34 rfl (by rw [ev7]; rfl) (by decide) rfl ?_
  have hf := hf v7 ev7
  refine V_goto (tgt := 9) dX12_blind_37 (by decide) ?_
  refine V_to [2, 1, 0] rfl ?_
  exact hk9 _ _ _ _ hf
def wX12_blind_B9 (n : Nat) (sh : Nat → Nat × Nat) (k9 : Nat → Int32 → Int32 → gS → Prop) (P : Int32 → gS → Prop) (a0 : Nat) (x1 : Int32) (x2 : Int32) (z : gS) : Prop := if (10 : Int32) ≤ x2 then P x1 z else ((oO n sh a0 8) ∧ (wX12_seersOf n sh a0 (0 : Int32) x2 z (fun (r3 : Int32) (z4 : gS) => if r3 = 0 then wX12_blind_J32 n sh k9 P a0 x2 ((1 : Int32) <<< (x2 &&& 31)) x1 z4 else wX12_blind_J32 n sh k9 P a0 x2 (0 : Int32) x1 z4)))
def wX12_blind_L9 (n : Nat) (sh : Nat → Nat × Nat) (P : Int32 → gS → Prop) : Nat → Nat → Int32 → Int32 → gS → Prop
  | 0, _, _, _, _ => False
  | N + 1, a0, x1, x2, z => wX12_blind_B9 n sh (wX12_blind_L9 n sh P N) P a0 x1 x2 z
set_option maxRecDepth 100000 in
set_option maxHeartbeats 4000000 in
theorem vX12_blind_B9 {E : gE} {n : Nat} {sh : Nat → Nat × Nat} {P : Int32 → gS → Prop} {k9 : Nat → Int32 → Int32 → gS → Prop} {a0 : Nat} {x1 : Int32} {x2 : Int32} {z : gS} (hn : n ≤ 1000000) (hk9 : ∀ (a0 : Nat) (x1 : Int32) (x2 : Int32) (z : gS), k9 a0 x1 x2 z → V E (gR 4 0) gyX12_blind 0 0 9 [(0, .ref a0), (1, .int x1), (2, .int x2)] [] n sh z (kI n sh P)) (hf : wX12_blind_B9 n sh k9 P a0 x1 x2 z) : V E (gR 4 0) gyX12_blind 0 0 9 [(0, .ref a0), (1, .int x1), (2, .int x2)] [] n sh z (kI n sh P) := by
  unfold wX12_blind_B9 at hf
  refine V_iload_n (j := 2) dX12_blind_9 rfl rfl ?_
  refine V_bipush (v := (10 : Int32)) dX12_blind_10 (by decide) ?_
  refine V_icmp_ge (tgt := 40) dX12_blind_12 (by decide) (fun h9 => ?_) (fun h9 => ?_)
  · have hf := it_t h9 hf
    refine V_iload_n (j := 1) dX12_blind_40 rfl rfl ?_
    exact V_ireturn dX12_blind_41 rfl rfl (Nat.le_refl 0) (kI_of hf)
  · have hf := it_f h9 hf
    refine V_iload_n (j := 1) dX12_blind_15 rfl rfl ?_
    refine V_aload_n (j := 0) dX12_blind_16 rfl rfl ?_
    refine V_iconst (v := (0 : Int32)) dX12_blind_17 (by decide) ?_
    refine V_iload_n (j := 2) dX12_blind_18 rfl rfl ?_
    obtain ⟨h5, hf⟩ := hf
    refine V_cVI (ctX12_seersOf hn hf) gc_X12_303 rfl h5.1 ⟨_, h5.2, by decide, rfl⟩ ⟨by decide, by decide, Nat.zero_le _, Nat.zero_le _⟩ (Nat.le_of_ble_eq_true rfl) dX12_blind_19 rfl hn (fun r3 z4 hf => ?_)
    refine V_if_ne (tgt := 31) dX12_blind_22 (by decide) (fun h8 => ?_) (fun h8 => ?_)
    · have hf := it_f h8 hf
      refine V_iconst (v := (0 : Int32)) dX12_blind_31 (by decide) ?_
      refine V_to [0, 2] rfl ?_
      exact vX12_blind_J32 hn hk9 hf
    · have hf := it_t (Classical.not_not.mp h8) hf
      refine V_iconst (v := (1 : Int32)) dX12_blind_25 (by decide) ?_
      refine V_iload_n (j := 2) dX12_blind_26 rfl rfl ?_
      refine V_ishl dX12_blind_27 ?_
      refine V_goto (tgt := 32) dX12_blind_28 (by decide) ?_
      refine V_to [0, 2] rfl ?_
      exact vX12_blind_J32 hn hk9 hf
set_option maxRecDepth 100000 in
set_option maxHeartbeats 4000000 in
theorem vX12_blind_L9 {E : gE} {n : Nat} {sh : Nat → Nat × Nat} {P : Int32 → gS → Prop} (hn : n ≤ 1000000) : ∀ (N : Nat) (a0 : Nat) (x1 : Int32) (x2 : Int32) (z : gS), wX12_blind_L9 n sh P N a0 x1 x2 z → V E (gR 4 0) gyX12_blind 0 0 9 [(0, .ref a0), (1, .int x1), (2, .int x2)] [] n sh z (kI n sh P) := by
  intro N
  induction N with
  | zero => intro a0 x1 x2 z hf; exact False.elim hf
  | succ N ih => intro a0 x1 x2 z hf; exact vX12_blind_B9 hn ih hf
def wX12_blind (n : Nat) (sh : Nat → Nat × Nat) (a0 : Nat) (z : gS) (P : Int32 → gS → Prop) : Prop := (oO n sh a0 8) ∧ (∀ z2 : gS, z2 = si z a0 0 (0 : Int32) → ((∃ N, wX12_blind_L9 n sh P N a0 (0 : Int32) (0 : Int32) z2)))
set_option maxRecDepth 100000 in
set_option maxHeartbeats 4000000 in
theorem ctX12_blind {E : gE} {n : Nat} {sh : Nat → Nat × Nat} {a0 : Nat} {z : gS} {P : Int32 → gS → Prop} (hn : n ≤ 1000000) (hf : wX12_blind n sh a0 z P) : VM E 4 0 gyX12_blind [.ref a0] n sh z (kI n sh P) := by
  unfold wX12_blind at hf
  refine VM.of (by decide +kernel) (Nat.le_of_ble_eq_true rfl) ?_
  show V E (gR 4 0) gyX12_blind 0 0 0 [(0, .ref a0)] [] n sh z (kI n sh P)
  refine V_aload_n (j := 0) dX12_blind_0 rfl rfl ?_
  refine V_iconst (v := (0 : Int32)) dX12_blind_1 (by decide) ?_
  obtain ⟨h1, hf⟩ := hf
  refine V_putI fl_X12_1 rfl rfl rfl rfl h1.1 h1.2 dX12_blind_2 ?_
  refine V_nz (fun z2 ez2 => ?_)
  have hf := hf z2 ez2
  refine V_iconst (v := (0 : Int32)) dX12_blind_5 (by decide) ?_
  refine V_istore_n (ls2 := [(1, .int (0 : Int32)), (0, .ref a0)]) dX12_blind_6 rfl (by decide) rfl ?_
  refine V_iconst (v := (0 : Int32)) dX12_blind_7 (by decide) ?_
  refine V_istore_n (ls2 := [(2, .int (0 : Int32)), (1, .int (0 : Int32)), (0, .ref a0)]) dX12_blind_8 rfl (by decide) rfl ?_
  obtain ⟨N, hf⟩ := hf
  refine V_to [2, 1, 0] rfl ?_
  exact vX12_blind_L9 hn N _ _ _ _ hf
def wX12_likeIn_J45 (n : Nat) (sh : Nat → Nat × Nat) (k5 : Nat → Int32 → Int32 → Int32 → Int32 → gS → Prop) (P : Int32 → gS → Prop) (a0 : Nat) (x1 : Int32) (x2 : Int32) (x4 : Int32) (s0 : Int32) (s1 : Int32) (z : gS) : Prop := ∀ v7 : Int32, v7 = (s1 + s0) → (∀ v8 : Int32, v8 = x4 + (1 : Int32) → k5 a0 x1 x2 v7 v8 z)
set_option maxRecDepth 100000 in
set_option maxHeartbeats 4000000 in
theorem vX12_likeIn_J45 {E : gE} {n : Nat} {sh : Nat → Nat × Nat} {P : Int32 → gS → Prop} {k5 : Nat → Int32 → Int32 → Int32 → Int32 → gS → Prop} {a0 : Nat} {x1 : Int32} {x2 : Int32} {x4 : Int32} {s0 : Int32} {s1 : Int32} {z : gS} (hn : n ≤ 1000000) (hk5 : ∀ (a0 : Nat) (x1 : Int32) (x2 : Int32) (x3 : Int32) (x4 : Int32) (z : gS), k5 a0 x1 x2 x3 x4 z → V E (gR 1 0) gyX12_likeIn 0 0 5 [(0, .ref a0), (1, .int x1), (2, .int x2), (3, .int x3), (4, .int x4)] [] n sh z (kI n sh P)) (hf : wX12_likeIn_J45 n sh k5 P a0 x1 x2 x4 s0 s1 z) : V E (gR 1 0) gyX12_likeIn 0 0 45 [(0, .ref a0), (1, .int x1), (2, .int x2), (4, .int x4)] [.int s0, .int s1] n sh z (kI n sh P) := by
  unfold wX12_likeIn_J45 at hf
  refine V_iadd dX12_likeIn_45 ?_
  refine V_nI (fun v7 ev7 => ?_)
  have hf := hf v7 ev7
  refine V_istore_n (ls2 := [(3, .int v7), (0, .ref a0), (1, .int x1), (2, .int x2), (4, .int x4)]) dX12_likeIn_46 rfl (by decide) rfl ?_
  obtain ⟨v8, ev8⟩ : ∃ y : Int32, y = x4 + (1 : Int32) := ⟨_, rfl⟩
  refine V_iinc (j := 4) (v := v8) (ls2 := [(4, .int v8), (3, .int v7), (0, .ref a0), (1, .int x1), (2, .int x2)]) dX12_likeIn_47 rfl (by rw [ev8]; rfl) (by decide) rfl ?_
  have hf := hf v8 ev8
  refine V_goto (tgt := 5) dX12_likeIn_50 (by decide) ?_
  refine V_to [2, 3, 4, 1, 0] rfl ?_
  exact hk5 _ _ _ _ _ _ hf
def wX12_likeIn_B5 (n : Nat) (sh : Nat → Nat × Nat) (k5 : Nat → Int32 → Int32 → Int32 → Int32 → gS → Prop) (P : Int32 → gS → Prop) (a0 : Nat) (x1 : Int32) (x2 : Int32) (x3 : Int32) (x4 : Int32) (z : gS) : Prop := (oO n sh a0 8) ∧ (∃ t2 : Nat, gr z a0 24 = some t2 ∧ ((oA n sh t2 1) ∧ ((vp_in ((18 : Int32) + x1) (sh t2).2) ∧ (if (gi z t2 ((18 : Int32) + x1).toNatClampNeg) ≤ x4 then P x3 z else (wX12_markOf n sh a0 (0 : Int32) x1 x4 z (fun (r5 : Int32) (z6 : gS) => if (r5 &&& (1023 : Int32)) = (x2 &&& (1023 : Int32)) then wX12_likeIn_J45 n sh k5 P a0 x1 x2 x4 (1 : Int32) x3 z6 else wX12_likeIn_J45 n sh k5 P a0 x1 x2 x4 (0 : Int32) x3 z6))))))
def wX12_likeIn_L5 (n : Nat) (sh : Nat → Nat × Nat) (P : Int32 → gS → Prop) : Nat → Nat → Int32 → Int32 → Int32 → Int32 → gS → Prop
  | 0, _, _, _, _, _, _ => False
  | N + 1, a0, x1, x2, x3, x4, z => wX12_likeIn_B5 n sh (wX12_likeIn_L5 n sh P N) P a0 x1 x2 x3 x4 z
set_option maxRecDepth 100000 in
set_option maxHeartbeats 4000000 in
theorem vX12_likeIn_B5 {E : gE} {n : Nat} {sh : Nat → Nat × Nat} {P : Int32 → gS → Prop} {k5 : Nat → Int32 → Int32 → Int32 → Int32 → gS → Prop} {a0 : Nat} {x1 : Int32} {x2 : Int32} {x3 : Int32} {x4 : Int32} {z : gS} (hn : n ≤ 1000000) (hk5 : ∀ (a0 : Nat) (x1 : Int32) (x2 : Int32) (x3 : Int32) (x4 : Int32) (z : gS), k5 a0 x1 x2 x3 x4 z → V E (gR 1 0) gyX12_likeIn 0 0 5 [(0, .ref a0), (1, .int x1), (2, .int x2), (3, .int x3), (4, .int x4)] [] n sh z (kI n sh P)) (hf : wX12_likeIn_B5 n sh k5 P a0 x1 x2 x3 x4 z) : V E (gR 1 0) gyX12_likeIn 0 0 5 [(0, .ref a0), (1, .int x1), (2, .int x2), (3, .int x3), (4, .int x4)] [] n sh z (kI n sh P) := by
  unfold wX12_likeIn_B5 at hf
  refine V_iload (j := 4) dX12_likeIn_5 rfl ?_
  refine V_aload_n (j := 0) dX12_likeIn_7 rfl rfl ?_
  obtain ⟨h1, hf⟩ := hf
  obtain ⟨t2, et2, hf⟩ := hf
  refine V_getR fl_X12_119 rfl h1.1 h1.2 et2 dX12_likeIn_8 ?_
  refine V_bipush (v := (18 : Int32)) dX12_likeIn_11 (by decide) ?_
  refine V_iload_n (j := 1) dX12_likeIn_13 rfl rfl ?_
  refine V_iadd dX12_likeIn_14 ?_
  obtain ⟨h3, hf⟩ := hf
  obtain ⟨h4, hf⟩ := hf
  refine V_iald h3.1 h3.s h4 dX12_likeIn_15 ?_
  refine V_icmp_ge (tgt := 53) dX12_likeIn_16 (by decide) (fun h10 => ?_) (fun h10 => ?_)
  · have hf := it_t h10 hf
    refine V_iload_n (j := 3) dX12_likeIn_53 rfl rfl ?_
    exact V_ireturn dX12_likeIn_54 rfl rfl (Nat.le_refl 0) (kI_of hf)
  · have hf := it_f h10 hf
    refine V_iload_n (j := 3) dX12_likeIn_19 rfl rfl ?_
    refine V_aload_n (j := 0) dX12_likeIn_20 rfl rfl ?_
    refine V_iconst (v := (0 : Int32)) dX12_likeIn_21 (by decide) ?_
    refine V_iload_n (j := 1) dX12_likeIn_22 rfl rfl ?_
    refine V_iload (j := 4) dX12_likeIn_23 rfl ?_
    refine V_cVI (ctX12_markOf hn hf) gc_X12_300 rfl h1.1 ⟨_, h1.2, by decide, rfl⟩ ⟨by decide, by decide, Nat.zero_le _, Nat.zero_le _⟩ (Nat.le_of_ble_eq_true rfl) dX12_likeIn_25 rfl hn (fun r5 z6 hf => ?_)
    refine V_sipush (v := (1023 : Int32)) dX12_likeIn_28 (by decide) ?_
    refine V_iand dX12_likeIn_31 ?_
    refine V_iload_n (j := 2) dX12_likeIn_32 rfl rfl ?_
    refine V_sipush (v := (1023 : Int32)) dX12_likeIn_33 (by decide) ?_
    refine V_iand dX12_likeIn_36 ?_
    refine V_icmp_ne (tgt := 44) dX12_likeIn_37 (by decide) (fun h9 => ?_) (fun h9 => ?_)
    · have hf := it_f h9 hf
      refine V_iconst (v := (0 : Int32)) dX12_likeIn_44 (by decide) ?_
      refine V_to [0, 1, 2, 4] rfl ?_
      exact vX12_likeIn_J45 hn hk5 hf
    · have hf := it_t (Classical.not_not.mp h9) hf
      refine V_iconst (v := (1 : Int32)) dX12_likeIn_40 (by decide) ?_
      refine V_goto (tgt := 45) dX12_likeIn_41 (by decide) ?_
      refine V_to [0, 1, 2, 4] rfl ?_
      exact vX12_likeIn_J45 hn hk5 hf
set_option maxRecDepth 100000 in
set_option maxHeartbeats 4000000 in
theorem vX12_likeIn_L5 {E : gE} {n : Nat} {sh : Nat → Nat × Nat} {P : Int32 → gS → Prop} (hn : n ≤ 1000000) : ∀ (N : Nat) (a0 : Nat) (x1 : Int32) (x2 : Int32) (x3 : Int32) (x4 : Int32) (z : gS), wX12_likeIn_L5 n sh P N a0 x1 x2 x3 x4 z → V E (gR 1 0) gyX12_likeIn 0 0 5 [(0, .ref a0), (1, .int x1), (2, .int x2), (3, .int x3), (4, .int x4)] [] n sh z (kI n sh P) := by
  intro N
  induction N with
  | zero => intro a0 x1 x2 x3 x4 z hf; exact False.elim hf
  | succ N ih => intro a0 x1 x2 x3 x4 z hf; exact vX12_likeIn_B5 hn ih hf
def wX12_likeIn (n : Nat) (sh : Nat → Nat × Nat) (a0 : Nat) (x1 : Int32) (x2 : Int32) (z : gS) (P : Int32 → gS → Prop) : Prop := (∃ N, wX12_likeIn_L5 n sh P N a0 x1 x2 (0 : Int32) (0 : Int32) z)
set_option maxRecDepth 100000 in
set_option maxHeartbeats 4000000 in
theorem ctX12_likeIn {E : gE} {n : Nat} {sh : Nat → Nat × Nat} {a0 : Nat} {x1 : Int32} {x2 : Int32} {z : gS} {P : Int32 → gS → Prop} (hn : n ≤ 1000000) (hf : wX12_likeIn n sh a0 x1 x2 z P) : VM E 1 0 gyX12_likeIn [.ref a0, .int x1, .int x2] n sh z (kI n sh P) := by
  unfold wX12_likeIn at hf
  refine VM.of (by decide +kernel) (Nat.le_of_ble_eq_true rfl) ?_
  show V E (gR 1 0) gyX12_likeIn 0 0 0 [(0, .ref a0), (1, .int x1), (2, .int x2)] [] n sh z (kI n sh P)
  refine V_iconst (v := (0 : Int32)) dX12_likeIn_0 (by decide) ?_
  refine V_istore_n (ls2 := [(3, .int (0 : Int32)), (0, .ref a0), (1, .int x1), (2, .int x2)]) dX12_likeIn_1 rfl (by decide) rfl ?_
  refine V_iconst (v := (0 : Int32)) dX12_likeIn_2 (by decide) ?_
  refine V_istore (ls2 := [(4, .int (0 : Int32)), (3, .int (0 : Int32)), (0, .ref a0), (1, .int x1), (2, .int x2)]) dX12_likeIn_3 (by decide) rfl ?_
  obtain ⟨N, hf⟩ := hf
  refine V_to [2, 3, 4, 1, 0] rfl ?_
  exact vX12_likeIn_L5 hn N _ _ _ _ _ _ hf
def wX12_twin_J149 (n : Nat) (sh : Nat → Nat × Nat) (k33 : Nat → Int32 → Int32 → Int32 → Int32 → gS → Prop) (P : Int32 → gS → Prop) (a0 : Nat) (x1 : Int32) (x2 : Int32) (x4 : Int32) (s0 : Int32) (s1 : Int32) (z : gS) : Prop := ∀ v18 : Int32, v18 = (s1 + s0) → (∀ v19 : Int32, v19 = x4 + (1 : Int32) → k33 a0 x1 x2 v18 v19 z)
set_option maxRecDepth 100000 in
set_option maxHeartbeats 4000000 in
theorem vX12_twin_J149 {E : gE} {n : Nat} {sh : Nat → Nat × Nat} {P : Int32 → gS → Prop} {k33 : Nat → Int32 → Int32 → Int32 → Int32 → gS → Prop} {a0 : Nat} {x1 : Int32} {x2 : Int32} {x4 : Int32} {s0 : Int32} {s1 : Int32} {z : gS} (hn : n ≤ 1000000) (hk33 : ∀ (a0 : Nat) (x1 : Int32) (x2 : Int32) (x3 : Int32) (x4 : Int32) (z : gS), k33 a0 x1 x2 x3 x4 z → V E (gR 2 0) gyX12_twin 0 0 33 [(0, .ref a0), (1, .int x1), (2, .int x2), (3, .int x3), (4, .int x4)] [] n sh z (kI n sh P)) (hf : wX12_twin_J149 n sh k33 P a0 x1 x2 x4 s0 s1 z) : V E (gR 2 0) gyX12_twin 0 0 149 [(0, .ref a0), (1, .int x1), (2, .int x2), (4, .int x4)] [.int s0, .int s1] n sh z (kI n sh P) := by
  unfold wX12_twin_J149 at hf
  refine V_iadd dX12_twin_149 ?_
  refine V_nI (fun v18 ev18 => ?_)
  have hf := hf v18 ev18
  refine V_istore_n (ls2 := [(3, .int v18), (0, .ref a0), (1, .int x1), (2, .int x2), (4, .int x4)]) dX12_twin_150 rfl (by decide) rfl ?_
  obtain ⟨v19, ev19⟩ : ∃ y : Int32, y = x4 + (1 : Int32) := ⟨_, rfl⟩
  refine V_iinc (j := 4) (v := v19) (ls2 := [(4, .int v19), (3, .int v18), (0, .ref a0), (1, .int x1), (2, .int x2)]) dX12_twin_151 rfl (by rw [ev19]; rfl) (by decide) rfl ?_
  have hf := hf v19 ev19
  refine V_goto (tgt := 33) dX12_twin_154 (by decide) ?_
  refine V_to [2, 3, 4, 1, 0] rfl ?_
  exact hk33 _ _ _ _ _ _ hf
def wX12_twin_J98 (n : Nat) (sh : Nat → Nat × Nat) (k33 : Nat → Int32 → Int32 → Int32 → Int32 → gS → Prop) (k63 : Nat → Int32 → Int32 → Int32 → Int32 → Int32 → Int32 → Int32 → gS → Prop) (P : Int32 → gS → Prop) (a0 : Nat) (x1 : Int32) (x2 : Int32) (x3 : Int32) (x4 : Int32) (x5 : Int32) (x7 : Int32) (s0 : Int32) (s1 : Int32) (z : gS) : Prop := ∀ v25 : Int32, v25 = (s1 + s0) → (∀ v26 : Int32, v26 = x7 + (1 : Int32) → k63 a0 x1 x2 x3 x4 x5 v25 v26 z)
set_option maxRecDepth 100000 in
set_option maxHeartbeats 4000000 in
theorem vX12_twin_J98 {E : gE} {n : Nat} {sh : Nat → Nat × Nat} {P : Int32 → gS → Prop} {k33 : Nat → Int32 → Int32 → Int32 → Int32 → gS → Prop} {k63 : Nat → Int32 → Int32 → Int32 → Int32 → Int32 → Int32 → Int32 → gS → Prop} {a0 : Nat} {x1 : Int32} {x2 : Int32} {x3 : Int32} {x4 : Int32} {x5 : Int32} {x7 : Int32} {s0 : Int32} {s1 : Int32} {z : gS} (hn : n ≤ 1000000) (hk33 : ∀ (a0 : Nat) (x1 : Int32) (x2 : Int32) (x3 : Int32) (x4 : Int32) (z : gS), k33 a0 x1 x2 x3 x4 z → V E (gR 2 0) gyX12_twin 0 0 33 [(0, .ref a0), (1, .int x1), (2, .int x2), (3, .int x3), (4, .int x4)] [] n sh z (kI n sh P)) (hk63 : ∀ (a0 : Nat) (x1 : Int32) (x2 : Int32) (x3 : Int32) (x4 : Int32) (x5 : Int32) (x6 : Int32) (x7 : Int32) (z : gS), k63 a0 x1 x2 x3 x4 x5 x6 x7 z → V E (gR 2 0) gyX12_twin 0 0 63 [(0, .ref a0), (1, .int x1), (2, .int x2), (3, .int x3), (4, .int x4), (5, .int x5), (6, .int x6), (7, .int x7)] [] n sh z (kI n sh P)) (hf : wX12_twin_J98 n sh k33 k63 P a0 x1 x2 x3 x4 x5 x7 s0 s1 z) : V E (gR 2 0) gyX12_twin 0 0 98 [(0, .ref a0), (1, .int x1), (2, .int x2), (3, .int x3), (4, .int x4), (5, .int x5), (7, .int x7)] [.int s0, .int s1] n sh z (kI n sh P) := by
  unfold wX12_twin_J98 at hf
  refine V_iadd dX12_twin_98 ?_
  refine V_nI (fun v25 ev25 => ?_)
  have hf := hf v25 ev25
  refine V_istore (ls2 := [(6, .int v25), (0, .ref a0), (1, .int x1), (2, .int x2), (3, .int x3), (4, .int x4), (5, .int x5), (7, .int x7)]) dX12_twin_99 (by decide) rfl ?_
  obtain ⟨v26, ev26⟩ : ∃ y : Int32, y = x7 + (1 : Int32) := ⟨_, rfl⟩
  refine V_iinc (j := 7) (v := v26) (ls2 := [(7, .int v26), (6, .int v25), (0, .ref a0), (1, .int x1), (2, .int x2), (3, .int x3), (4, .int x4), (5, .int x5)]) dX12_twin_101 rfl (by rw [ev26]; rfl) (by decide) rfl ?_
  have hf := hf v26 ev26
  refine V_goto (tgt := 63) dX12_twin_104 (by decide) ?_
  refine V_to [2, 3, 4, 5, 6, 7, 1, 0] rfl ?_
  exact hk63 _ _ _ _ _ _ _ _ _ hf
def wX12_twin_B63 (n : Nat) (sh : Nat → Nat × Nat) (k33 : Nat → Int32 → Int32 → Int32 → Int32 → gS → Prop) (k63 : Nat → Int32 → Int32 → Int32 → Int32 → Int32 → Int32 → Int32 → gS → Prop) (P : Int32 → gS → Prop) (a0 : Nat) (x1 : Int32) (x2 : Int32) (x3 : Int32) (x4 : Int32) (x5 : Int32) (x6 : Int32) (x7 : Int32) (z : gS) : Prop := if x4 ≤ x7 then ((oO n sh a0 8) ∧ (wX12_likeIn n sh a0 x1 x5 z (fun (r13 : Int32) (z14 : gS) => wX12_likeIn n sh a0 x2 x5 z14 (fun (r16 : Int32) (z17 : gS) => if x6 ≤ 0 then (if r16 ≤ r13 then wX12_twin_J149 n sh k33 P a0 x1 x2 x4 r16 x3 z17 else wX12_twin_J149 n sh k33 P a0 x1 x2 x4 r13 x3 z17) else wX12_twin_J149 n sh k33 P a0 x1 x2 x4 (0 : Int32) x3 z17)))) else ((oO n sh a0 8) ∧ (wX12_markOf n sh a0 (0 : Int32) x1 x7 z (fun (r22 : Int32) (z23 : gS) => if (r22 &&& (1023 : Int32)) = (x5 &&& (1023 : Int32)) then wX12_twin_J98 n sh k33 k63 P a0 x1 x2 x3 x4 x5 x7 (1 : Int32) x6 z23 else wX12_twin_J98 n sh k33 k63 P a0 x1 x2 x3 x4 x5 x7 (0 : Int32) x6 z23)))
def wX12_twin_L63 (n : Nat) (sh : Nat → Nat × Nat) (k33 : Nat → Int32 → Int32 → Int32 → Int32 → gS → Prop) (P : Int32 → gS → Prop) : Nat → Nat → Int32 → Int32 → Int32 → Int32 → Int32 → Int32 → Int32 → gS → Prop
  | 0, _, _, _, _, _, _, _, _, _ => False
  | N + 1, a0, x1, x2, x3, x4, x5, x6, x7, z => wX12_twin_B63 n sh k33 (wX12_twin_L63 n sh k33 P N) P a0 x1 x2 x3 x4 x5 x6 x7 z
set_option maxRecDepth 100000 in
set_option maxHeartbeats 4000000 in
theorem vX12_twin_B63 {E : gE} {n : Nat} {sh : Nat → Nat × Nat} {P : Int32 → gS → Prop} {k33 : Nat → Int32 → Int32 → Int32 → Int32 → gS → Prop} {k63 : Nat → Int32 → Int32 → Int32 → Int32 → Int32 → Int32 → Int32 → gS → Prop} {a0 : Nat} {x1 : Int32} {x2 : Int32} {x3 : Int32} {x4 : Int32} {x5 : Int32} {x6 : Int32} {x7 : Int32} {z : gS} (hn : n ≤ 1000000) (hk33 : ∀ (a0 : Nat) (x1 : Int32) (x2 : Int32) (x3 : Int32) (x4 : Int32) (z : gS), k33 a0 x1 x2 x3 x4 z → V E (gR 2 0) gyX12_twin 0 0 33 [(0, .ref a0), (1, .int x1), (2, .int x2), (3, .int x3), (4, .int x4)] [] n sh z (kI n sh P)) (hk63 : ∀ (a0 : Nat) (x1 : Int32) (x2 : Int32) (x3 : Int32) (x4 : Int32) (x5 : Int32) (x6 : Int32) (x7 : Int32) (z : gS), k63 a0 x1 x2 x3 x4 x5 x6 x7 z → V E (gR 2 0) gyX12_twin 0 0 63 [(0, .ref a0), (1, .int x1), (2, .int x2), (3, .int x3), (4, .int x4), (5, .int x5), (6, .int x6), (7, .int x7)] [] n sh z (kI n sh P)) (hf : wX12_twin_B63 n sh k33 k63 P a0 x1 x2 x3 x4 x5 x6 x7 z) : V E (gR 2 0) gyX12_twin 0 0 63 [(0, .ref a0), (1, .int x1), (2, .int x2), (3, .int x3), (4, .int x4), (5, .int x5), (6, .int x6), (7, .int x7)] [] n sh z (kI n sh P) := by
  unfold wX12_twin_B63 at hf
  refine V_iload (j := 7) dX12_twin_63 rfl ?_
  refine V_iload (j := 4) dX12_twin_65 rfl ?_
  refine V_icmp_ge (tgt := 107) dX12_twin_67 (by decide) (fun h28 => ?_) (fun h28 => ?_)
  · have hf := it_t h28 hf
    refine V_aload_n (j := 0) dX12_twin_107 rfl rfl ?_
    refine V_iload_n (j := 1) dX12_twin_108 rfl rfl ?_
    refine V_iload (j := 5) dX12_twin_109 rfl ?_
    obtain ⟨h15, hf⟩ := hf
    refine V_cVI (ctX12_likeIn hn hf) gc_X12_383 rfl h15.1 ⟨_, h15.2, by decide, rfl⟩ ⟨by decide, by decide, Nat.zero_le _, Nat.zero_le _⟩ (Nat.le_of_ble_eq_true rfl) dX12_twin_111 rfl hn (fun r13 z14 hf => ?_)
    refine V_istore (ls2 := [(7, .int r13), (0, .ref a0), (1, .int x1), (2, .int x2), (3, .int x3), (4, .int x4), (5, .int x5), (6, .int x6)]) dX12_twin_114 (by decide) rfl ?_
    refine V_aload_n (j := 1) dX12_twin_116 rfl rfl ?_
    refine V_iload_n (j := 3) dX12_twin_117 rfl rfl ?_
    refine V_iload (j := 6) dX12_twin_118 rfl ?_
    refine V_cVI (ctX12_likeIn hn hf) gc_X12_383 rfl h15.1 ⟨_, h15.2, by decide, rfl⟩ ⟨by decide, by decide, Nat.zero_le _, Nat.zero_le _⟩ (Nat.le_of_ble_eq_true rfl) dX12_twin_120 rfl hn (fun r16 z17 hf => ?_)
    refine V_istore (ls2 := [(8, .int r16), (7, .int r13), (0, .ref a0), (1, .int x1), (2, .int x2), (3, .int x3), (4, .int x4), (5, .int x5), (6, .int x6)]) dX12_twin_123 (by decide) rfl ?_
    refine V_iload_n (j := 5) dX12_twin_125 rfl rfl ?_
    refine V_iload (j := 8) dX12_twin_126 rfl ?_
    refine V_if_le (tgt := 135) dX12_twin_128 (by decide) (fun h21 => ?_) (fun h21 => ?_)
    · have hf := it_t h21 hf
      refine V_iload (j := 1) dX12_twin_135 rfl ?_
      refine V_iload (j := 0) dX12_twin_137 rfl ?_
      refine V_icmp_ge (tgt := 147) dX12_twin_139 (by decide) (fun h20 => ?_) (fun h20 => ?_)
      · have hf := it_t h20 hf
        refine V_iload (j := 0) dX12_twin_147 rfl ?_
        refine V_to [2, 3, 4, 6] rfl ?_
        exact vX12_twin_J149 hn hk33 hf
      · have hf := it_f h20 hf
        refine V_iload (j := 1) dX12_twin_142 rfl ?_
        refine V_goto (tgt := 149) dX12_twin_144 (by decide) ?_
        refine V_to [2, 3, 4, 6] rfl ?_
        exact vX12_twin_J149 hn hk33 hf
    · have hf := it_f h21 hf
      refine V_iconst (v := (0 : Int32)) dX12_twin_131 (by decide) ?_
      refine V_goto (tgt := 149) dX12_twin_132 (by decide) ?_
      refine V_to [2, 3, 4, 6] rfl ?_
      exact vX12_twin_J149 hn hk33 hf
  · have hf := it_f h28 hf
    refine V_iload (j := 6) dX12_twin_70 rfl ?_
    refine V_aload_n (j := 0) dX12_twin_72 rfl rfl ?_
    refine V_iconst (v := (0 : Int32)) dX12_twin_73 (by decide) ?_
    refine V_iload_n (j := 1) dX12_twin_74 rfl rfl ?_
    refine V_iload (j := 7) dX12_twin_75 rfl ?_
    obtain ⟨h24, hf⟩ := hf
    refine V_cVI (ctX12_markOf hn hf) gc_X12_300 rfl h24.1 ⟨_, h24.2, by decide, rfl⟩ ⟨by decide, by decide, Nat.zero_le _, Nat.zero_le _⟩ (Nat.le_of_ble_eq_true rfl) dX12_twin_77 rfl hn (fun r22 z23 hf => ?_)
    refine V_sipush (v := (1023 : Int32)) dX12_twin_80 (by decide) ?_
    refine V_iand dX12_twin_83 ?_
    refine V_iload (j := 5) dX12_twin_84 rfl ?_
    refine V_sipush (v := (1023 : Int32)) dX12_twin_86 (by decide) ?_
    refine V_iand dX12_twin_89 ?_
    refine V_icmp_ne (tgt := 97) dX12_twin_90 (by decide) (fun h27 => ?_) (fun h27 => ?_)
    · have hf := it_f h27 hf
      refine V_iconst (v := (0 : Int32)) dX12_twin_97 (by decide) ?_
      refine V_to [0, 1, 2, 3, 4, 5, 7] rfl ?_
      exact vX12_twin_J98 hn hk33 hk63 hf
    · have hf := it_t (Classical.not_not.mp h27) hf
      refine V_iconst (v := (1 : Int32)) dX12_twin_93 (by decide) ?_
      refine V_goto (tgt := 98) dX12_twin_94 (by decide) ?_
      refine V_to [0, 1, 2, 3, 4, 5, 7] rfl ?_
      exact vX12_twin_J98 hn hk33 hk63 hf
set_option maxRecDepth 100000 in
set_option maxHeartbeats 4000000 in
theorem vX12_twin_L63 {E : gE} {n : Nat} {sh : Nat → Nat × Nat} {P : Int32 → gS → Prop} {k33 : Nat → Int32 → Int32 → Int32 → Int32 → gS → Prop} (hn : n ≤ 1000000) (hk33 : ∀ (a0 : Nat) (x1 : Int32) (x2 : Int32) (x3 : Int32) (x4 : Int32) (z : gS), k33 a0 x1 x2 x3 x4 z → V E (gR 2 0) gyX12_twin 0 0 33 [(0, .ref a0), (1, .int x1), (2, .int x2), (3, .int x3), (4, .int x4)] [] n sh z (kI n sh P)) : ∀ (N : Nat) (a0 : Nat) (x1 : Int32) (x2 : Int32) (x3 : Int32) (x4 : Int32) (x5 : Int32) (x6 : Int32) (x7 : Int32) (z : gS), wX12_twin_L63 n sh k33 P N a0 x1 x2 x3 x4 x5 x6 x7 z → V E (gR 2 0) gyX12_twin 0 0 63 [(0, .ref a0), (1, .int x1), (2, .int x2), (3, .int x3), (4, .int x4), (5, .int x5), (6, .int x6), (7, .int x7)] [] n sh z (kI n sh P) := by
  intro N
  induction N with
  | zero => intro a0 x1 x2 x3 x4 x5 x6 x7 z hf; exact False.elim hf
  | succ N ih => intro a0 x1 x2 x3 x4 x5 x6 x7 z hf; exact vX12_twin_B63 hn hk33 ih hf
def wX12_twin_B33 (n : Nat) (sh : Nat → Nat × Nat) (k33 : Nat → Int32 → Int32 → Int32 → Int32 → gS → Prop) (P : Int32 → gS → Prop) (a0 : Nat) (x1 : Int32) (x2 : Int32) (x3 : Int32) (x4 : Int32) (z : gS) : Prop := (oO n sh a0 8) ∧ (∃ t8 : Nat, gr z a0 24 = some t8 ∧ ((oA n sh t8 1) ∧ ((vp_in ((18 : Int32) + x1) (sh t8).2) ∧ (if (gi z t8 ((18 : Int32) + x1).toNatClampNeg) ≤ x4 then P x3 z else (wX12_markOf n sh a0 (0 : Int32) x1 x4 z (fun (r11 : Int32) (z12 : gS) => (∃ N, wX12_twin_L63 n sh k33 P N a0 x1 x2 x3 x4 r11 (0 : Int32) (0 : Int32) z12)))))))
def wX12_twin_L33 (n : Nat) (sh : Nat → Nat × Nat) (P : Int32 → gS → Prop) : Nat → Nat → Int32 → Int32 → Int32 → Int32 → gS → Prop
  | 0, _, _, _, _, _, _ => False
  | N + 1, a0, x1, x2, x3, x4, z => wX12_twin_B33 n sh (wX12_twin_L33 n sh P N) P a0 x1 x2 x3 x4 z
set_option maxRecDepth 100000 in
set_option maxHeartbeats 4000000 in
theorem vX12_twin_B33 {E : gE} {n : Nat} {sh : Nat → Nat × Nat} {P : Int32 → gS → Prop} {k33 : Nat → Int32 → Int32 → Int32 → Int32 → gS → Prop} {a0 : Nat} {x1 : Int32} {x2 : Int32} {x3 : Int32} {x4 : Int32} {z : gS} (hn : n ≤ 1000000) (hk33 : ∀ (a0 : Nat) (x1 : Int32) (x2 : Int32) (x3 : Int32) (x4 : Int32) (z : gS), k33 a0 x1 x2 x3 x4 z → V E (gR 2 0) gyX12_twin 0 0 33 [(0, .ref a0), (1, .int x1), (2, .int x2), (3, .int x3), (4, .int x4)] [] n sh z (kI n sh P)) (hf : wX12_twin_B33 n sh k33 P a0 x1 x2 x3 x4 z) : V E (gR 2 0) gyX12_twin 0 0 33 [(0, .ref a0), (1, .int x1), (2, .int x2), (3, .int x3), (4, .int x4)] [] n sh z (kI n sh P) := by
  unfold wX12_twin_B33 at hf
  refine V_iload (j := 4) dX12_twin_33 rfl ?_
  refine V_aload_n (j := 0) dX12_twin_35 rfl rfl ?_
  obtain ⟨h7, hf⟩ := hf
  obtain ⟨t8, et8, hf⟩ := hf
  refine V_getR fl_X12_119 rfl h7.1 h7.2 et8 dX12_twin_36 ?_
  refine V_bipush (v := (18 : Int32)) dX12_twin_39 (by decide) ?_
  refine V_iload_n (j := 1) dX12_twin_41 rfl rfl ?_
  refine V_iadd dX12_twin_42 ?_
  obtain ⟨h9, hf⟩ := hf
  obtain ⟨h10, hf⟩ := hf
  refine V_iald h9.1 h9.s h10 dX12_twin_43 ?_
  refine V_icmp_ge (tgt := 157) dX12_twin_44 (by decide) (fun h29 => ?_) (fun h29 => ?_)
  · have hf := it_t h29 hf
    refine V_iload_n (j := 3) dX12_twin_157 rfl rfl ?_
    exact V_ireturn dX12_twin_158 rfl rfl (Nat.le_refl 0) (kI_of hf)
  · have hf := it_f h29 hf
    refine V_aload_n (j := 0) dX12_twin_47 rfl rfl ?_
    refine V_iconst (v := (0 : Int32)) dX12_twin_48 (by decide) ?_
    refine V_iload_n (j := 1) dX12_twin_49 rfl rfl ?_
    refine V_iload (j := 4) dX12_twin_50 rfl ?_
    refine V_cVI (ctX12_markOf hn hf) gc_X12_300 rfl h7.1 ⟨_, h7.2, by decide, rfl⟩ ⟨by decide, by decide, Nat.zero_le _, Nat.zero_le _⟩ (Nat.le_of_ble_eq_true rfl) dX12_twin_52 rfl hn (fun r11 z12 hf => ?_)
    refine V_istore (ls2 := [(5, .int r11), (0, .ref a0), (1, .int x1), (2, .int x2), (3, .int x3), (4, .int x4)]) dX12_twin_55 (by decide) rfl ?_
    refine V_iconst (v := (0 : Int32)) dX12_twin_57 (by decide) ?_
    refine V_istore (ls2 := [(6, .int (0 : Int32)), (5, .int r11), (0, .ref a0), (1, .int x1), (2, .int x2), (3, .int x3), (4, .int x4)]) dX12_twin_58 (by decide) rfl ?_
    refine V_iconst (v := (0 : Int32)) dX12_twin_60 (by decide) ?_
    refine V_istore (ls2 := [(7, .int (0 : Int32)), (6, .int (0 : Int32)), (5, .int r11), (0, .ref a0), (1, .int x1), (2, .int x2), (3, .int x3), (4, .int x4)]) dX12_twin_61 (by decide) rfl ?_
    obtain ⟨N, hf⟩ := hf
    refine V_to [3, 4, 5, 6, 7, 2, 1, 0] rfl ?_
    exact vX12_twin_L63 hn hk33 N _ _ _ _ _ _ _ _ _ hf
set_option maxRecDepth 100000 in
set_option maxHeartbeats 4000000 in
theorem vX12_twin_L33 {E : gE} {n : Nat} {sh : Nat → Nat × Nat} {P : Int32 → gS → Prop} (hn : n ≤ 1000000) : ∀ (N : Nat) (a0 : Nat) (x1 : Int32) (x2 : Int32) (x3 : Int32) (x4 : Int32) (z : gS), wX12_twin_L33 n sh P N a0 x1 x2 x3 x4 z → V E (gR 2 0) gyX12_twin 0 0 33 [(0, .ref a0), (1, .int x1), (2, .int x2), (3, .int x3), (4, .int x4)] [] n sh z (kI n sh P) := by
  intro N
  induction N with
  | zero => intro a0 x1 x2 x3 x4 z hf; exact False.elim hf
  | succ N ih => intro a0 x1 x2 x3 x4 z hf; exact vX12_twin_B33 hn ih hf
def wX12_twin (n : Nat) (sh : Nat → Nat × Nat) (a0 : Nat) (x1 : Int32) (x2 : Int32) (z : gS) (P : Int32 → gS → Prop) : Prop := (oO n sh a0 8) ∧ (∀ z2 : gS, z2 = si z a0 0 (0 : Int32) → (wX12_isPane n sh a0 x1 z2 (fun (r3 : Int32) (z4 : gS) => if r3 = 0 then P (-1 : Int32) z4 else (wX12_isPane n sh a0 x2 z4 (fun (r5 : Int32) (z6 : gS) => if r5 = 0 then P (-1 : Int32) z6 else (if x1 = x2 then P (-1 : Int32) z6 else ((∃ N, wX12_twin_L33 n sh P N a0 x1 x2 (0 : Int32) (0 : Int32) z6))))))))
set_option maxRecDepth 100000 in
set_option maxHeartbeats 4000000 in
theorem ctX12_twin {E : gE} {n : Nat} {sh : Nat → Nat × Nat} {a0 : Nat} {x1 : Int32} {x2 : Int32} {z : gS} {P : Int32 → gS → Prop} (hn : n ≤ 1000000) (hf : wX12_twin n sh a0 x1 x2 z P) : VM E 2 0 gyX12_twin [.ref a0, .int x1, .int x2] n sh z (kI n sh P) := by
  unfold wX12_twin at hf
  refine VM.of (by decide +kernel) (Nat.le_of_ble_eq_true rfl) ?_
  show V E (gR 2 0) gyX12_twin 0 0 0 [(0, .ref a0), (1, .int x1), (2, .int x2)] [] n sh z (kI n sh P)
  refine V_aload_n (j := 0) dX12_twin_0 rfl rfl ?_
  refine V_iconst (v := (0 : Int32)) dX12_twin_1 (by decide) ?_
  obtain ⟨h1, hf⟩ := hf
  refine V_putI fl_X12_1 rfl rfl rfl rfl h1.1 h1.2 dX12_twin_2 ?_
  refine V_nz (fun z2 ez2 => ?_)
  have hf := hf z2 ez2
  refine V_aload_n (j := 0) dX12_twin_5 rfl rfl ?_
  refine V_iload_n (j := 1) dX12_twin_6 rfl rfl ?_
  refine V_cVI (ctX12_isPane hn hf) gc_X12_337 rfl h1.1 ⟨_, h1.2, by decide, rfl⟩ ⟨by decide, by decide, Nat.zero_le _, Nat.zero_le _⟩ (Nat.le_of_ble_eq_true rfl) dX12_twin_7 rfl hn (fun r3 z4 hf => ?_)
  refine V_if_eq (tgt := 26) dX12_twin_10 (by decide) (fun h32 => ?_) (fun h32 => ?_)
  · have hf := it_t h32 hf
    refine V_iconst (v := (-1 : Int32)) dX12_twin_26 (by decide) ?_
    exact V_ireturn dX12_twin_27 rfl rfl (Nat.le_refl 0) (kI_of hf)
  · have hf := it_f h32 hf
    refine V_aload_n (j := 0) dX12_twin_13 rfl rfl ?_
    refine V_iload_n (j := 2) dX12_twin_14 rfl rfl ?_
    refine V_cVI (ctX12_isPane hn hf) gc_X12_337 rfl h1.1 ⟨_, h1.2, by decide, rfl⟩ ⟨by decide, by decide, Nat.zero_le _, Nat.zero_le _⟩ (Nat.le_of_ble_eq_true rfl) dX12_twin_15 rfl hn (fun r5 z6 hf => ?_)
    refine V_if_eq (tgt := 26) dX12_twin_18 (by decide) (fun h31 => ?_) (fun h31 => ?_)
    · have hf := it_t h31 hf
      refine V_iconst (v := (-1 : Int32)) dX12_twin_26 (by decide) ?_
      exact V_ireturn dX12_twin_27 rfl rfl (Nat.le_refl 0) (kI_of hf)
    · have hf := it_f h31 hf
      refine V_iload_n (j := 1) dX12_twin_21 rfl rfl ?_
      refine V_iload_n (j := 2) dX12_twin_22 rfl rfl ?_
      refine V_icmp_ne (tgt := 28) dX12_twin_23 (by decide) (fun h30 => ?_) (fun h30 => ?_)
      · have hf := it_f h30 hf
        refine V_iconst (v := (0 : Int32)) dX12_twin_28 (by decide) ?_
        refine V_istore_n (ls2 := [(3, .int (0 : Int32)), (0, .ref a0), (1, .int x1), (2, .int x2)]) dX12_twin_29 rfl (by decide) rfl ?_
        refine V_iconst (v := (0 : Int32)) dX12_twin_30 (by decide) ?_
        refine V_istore (ls2 := [(4, .int (0 : Int32)), (3, .int (0 : Int32)), (0, .ref a0), (1, .int x1), (2, .int x2)]) dX12_twin_31 (by decide) rfl ?_
        obtain ⟨N, hf⟩ := hf
        refine V_to [2, 3, 4, 1, 0] rfl ?_
        exact vX12_twin_L33 hn N _ _ _ _ _ _ hf
      · have hf := it_t (Classical.not_not.mp h30) hf
        refine V_iconst (v := (-1 : Int32)) dX12_twin_26 (by decide) ?_
        exact V_ireturn dX12_twin_27 rfl rfl (Nat.le_refl 0) (kI_of hf)
def wX12_run_B27 (n : Nat) (sh : Nat → Nat × Nat) (k27 : Nat → Int32 → Int32 → gS → Prop) (P : Int32 → gS → Prop) (a0 : Nat) (x1 : Int32) (x2 : Int32) (z : gS) : Prop := if (100 : Int32) ≤ x2 then P (-1 : Int32) z else ((oO n sh a0 8) ∧ (∃ t8 : Nat, gr z a0 24 = some t8 ∧ ((oA n sh t8 1) ∧ ((vp_in ((1404 : Int32) + x1) (sh t8).2) ∧ (if (gi z t8 ((1404 : Int32) + x1).toNatClampNeg) = 0 then P x2 z else (wX12_passes n sh a0 (1386 : Int32) z (fun (r11 : Int32) (z12 : gS) => ∀ v13 : Int32, v13 = x2 + (1 : Int32) → k27 a0 x1 v13 z12)))))))
def wX12_run_L27 (n : Nat) (sh : Nat → Nat × Nat) (P : Int32 → gS → Prop) : Nat → Nat → Int32 → Int32 → gS → Prop
  | 0, _, _, _, _ => False
  | N + 1, a0, x1, x2, z => wX12_run_B27 n sh (wX12_run_L27 n sh P N) P a0 x1 x2 z
set_option maxRecDepth 100000 in
set_option maxHeartbeats 4000000 in
theorem vX12_run_B27 {E : gE} {n : Nat} {sh : Nat → Nat × Nat} {P : Int32 → gS → Prop} {k27 : Nat → Int32 → Int32 → gS → Prop} {a0 : Nat} {x1 : Int32} {x2 : Int32} {z : gS} (hn : n ≤ 1000000) (hk27 : ∀ (a0 : Nat) (x1 : Int32) (x2 : Int32) (z : gS), k27 a0 x1 x2 z → V E (gR 4 0) gyX12_run 0 0 27 [(0, .ref a0), (1, .int x1), (2, .int x2)] [] n sh z (kI n sh P)) (hf : wX12_run_B27 n sh k27 P a0 x1 x2 z) : V E (gR 4 0) gyX12_run 0 0 27 [(0, .ref a0), (1, .int x1), (2, .int x2)] [] n sh z (kI n sh P) := by
  unfold wX12_run_B27 at hf
  refine V_iload_n (j := 2) dX12_run_27 rfl rfl ?_
  refine V_bipush (v := (100 : Int32)) dX12_run_28 (by decide) ?_
  refine V_icmp_ge (tgt := 62) dX12_run_30 (by decide) (fun h15 => ?_) (fun h15 => ?_)
  · have hf := it_t h15 hf
    refine V_iconst (v := (-1 : Int32)) dX12_run_62 (by decide) ?_
    exact V_ireturn dX12_run_63 rfl rfl (Nat.le_refl 0) (kI_of hf)
  · have hf := it_f h15 hf
    refine V_aload_n (j := 0) dX12_run_33 rfl rfl ?_
    obtain ⟨h7, hf⟩ := hf
    obtain ⟨t8, et8, hf⟩ := hf
    refine V_getR fl_X12_119 rfl h7.1 h7.2 et8 dX12_run_34 ?_
    refine V_sipush (v := (1404 : Int32)) dX12_run_37 (by decide) ?_
    refine V_iload_n (j := 1) dX12_run_40 rfl rfl ?_
    refine V_iadd dX12_run_41 ?_
    obtain ⟨h9, hf⟩ := hf
    obtain ⟨h10, hf⟩ := hf
    refine V_iald h9.1 h9.s h10 dX12_run_42 ?_
    refine V_if_ne (tgt := 48) dX12_run_43 (by decide) (fun h14 => ?_) (fun h14 => ?_)
    · have hf := it_f h14 hf
      refine V_aload_n (j := 0) dX12_run_48 rfl rfl ?_
      refine V_sipush (v := (1386 : Int32)) dX12_run_49 (by decide) ?_
      refine V_cVI (ctX12_passes hn hf) gc_X12_361 rfl h7.1 ⟨_, h7.2, by decide, rfl⟩ ⟨by decide, by decide, Nat.zero_le _, Nat.zero_le _⟩ (Nat.le_of_ble_eq_true rfl) dX12_run_52 rfl hn (fun r11 z12 hf => ?_)
      refine V_pop dX12_run_55 rfl ?_
      obtain ⟨v13, ev13⟩ : ∃ y : Int32, y = x2 + (1 : Int32) := ⟨_, rfl⟩
      refine V_iinc (j := 2) (v := v13) (ls2 := [(2, .int v13), (0, .ref a0), (1, .int x1)]) dX12_run_56 rfl (by rw [ev13]; rfl) (by decide) rfl ?_
      have hf := hf v13 ev13
      refine V_goto (tgt := 27) dX12_run_59 (by decide) ?_
      refine V_to [1, 2, 0] rfl ?_
      exact hk27 _ _ _ _ hf
    · have hf := it_t (Classical.not_not.mp h14) hf
      refine V_iload_n (j := 2) dX12_run_46 rfl rfl ?_
      exact V_ireturn dX12_run_47 rfl rfl (Nat.le_refl 0) (kI_of hf)
set_option maxRecDepth 100000 in
set_option maxHeartbeats 4000000 in
theorem vX12_run_L27 {E : gE} {n : Nat} {sh : Nat → Nat × Nat} {P : Int32 → gS → Prop} (hn : n ≤ 1000000) : ∀ (N : Nat) (a0 : Nat) (x1 : Int32) (x2 : Int32) (z : gS), wX12_run_L27 n sh P N a0 x1 x2 z → V E (gR 4 0) gyX12_run 0 0 27 [(0, .ref a0), (1, .int x1), (2, .int x2)] [] n sh z (kI n sh P) := by
  intro N
  induction N with
  | zero => intro a0 x1 x2 z hf; exact False.elim hf
  | succ N ih => intro a0 x1 x2 z hf; exact vX12_run_B27 hn ih hf
def wX12_run (n : Nat) (sh : Nat → Nat × Nat) (a0 : Nat) (x1 : Int32) (z : gS) (P : Int32 → gS → Prop) : Prop := (oO n sh a0 8) ∧ (∀ z2 : gS, z2 = si z a0 0 (0 : Int32) → (wX12_isPane n sh a0 x1 z2 (fun (r3 : Int32) (z4 : gS) => if r3 = 0 then P (-1 : Int32) z4 else (wX12_copies n sh a0 (0 : Int32) (1386 : Int32) (60 : Int32) z4 (fun (z6 : gS) => (∃ N, wX12_run_L27 n sh P N a0 x1 (0 : Int32) z6))))))
set_option maxRecDepth 100000 in
set_option maxHeartbeats 4000000 in
theorem ctX12_run {E : gE} {n : Nat} {sh : Nat → Nat × Nat} {a0 : Nat} {x1 : Int32} {z : gS} {P : Int32 → gS → Prop} (hn : n ≤ 1000000) (hf : wX12_run n sh a0 x1 z P) : VM E 4 0 gyX12_run [.ref a0, .int x1] n sh z (kI n sh P) := by
  unfold wX12_run at hf
  refine VM.of (by decide +kernel) (Nat.le_of_ble_eq_true rfl) ?_
  show V E (gR 4 0) gyX12_run 0 0 0 [(0, .ref a0), (1, .int x1)] [] n sh z (kI n sh P)
  refine V_aload_n (j := 0) dX12_run_0 rfl rfl ?_
  refine V_iconst (v := (0 : Int32)) dX12_run_1 (by decide) ?_
  obtain ⟨h1, hf⟩ := hf
  refine V_putI fl_X12_1 rfl rfl rfl rfl h1.1 h1.2 dX12_run_2 ?_
  refine V_nz (fun z2 ez2 => ?_)
  have hf := hf z2 ez2
  refine V_aload_n (j := 0) dX12_run_5 rfl rfl ?_
  refine V_iload_n (j := 1) dX12_run_6 rfl rfl ?_
  refine V_cVI (ctX12_isPane hn hf) gc_X12_337 rfl h1.1 ⟨_, h1.2, by decide, rfl⟩ ⟨by decide, by decide, Nat.zero_le _, Nat.zero_le _⟩ (Nat.le_of_ble_eq_true rfl) dX12_run_7 rfl hn (fun r3 z4 hf => ?_)
  refine V_if_ne (tgt := 15) dX12_run_10 (by decide) (fun h16 => ?_) (fun h16 => ?_)
  · have hf := it_f h16 hf
    refine V_aload_n (j := 0) dX12_run_15 rfl rfl ?_
    refine V_iconst (v := (0 : Int32)) dX12_run_16 (by decide) ?_
    refine V_sipush (v := (1386 : Int32)) dX12_run_17 (by decide) ?_
    refine V_bipush (v := (60 : Int32)) dX12_run_20 (by decide) ?_
    refine V_cVN (ctX12_copies hn hf) gc_X12_275 rfl h1.1 ⟨_, h1.2, by decide, rfl⟩ ⟨by decide, by decide, Nat.zero_le _, Nat.zero_le _⟩ (Nat.le_of_ble_eq_true rfl) dX12_run_22 rfl hn (fun z6 hf => ?_)
    refine V_iconst (v := (0 : Int32)) dX12_run_25 (by decide) ?_
    refine V_istore_n (ls2 := [(2, .int (0 : Int32)), (0, .ref a0), (1, .int x1)]) dX12_run_26 rfl (by decide) rfl ?_
    obtain ⟨N, hf⟩ := hf
    refine V_to [1, 2, 0] rfl ?_
    exact vX12_run_L27 hn N _ _ _ _ hf
  · have hf := it_t (Classical.not_not.mp h16) hf
    refine V_iconst (v := (-1 : Int32)) dX12_run_13 (by decide) ?_
    exact V_ireturn dX12_run_14 rfl rfl (Nat.le_refl 0) (kI_of hf)
def wX12_getsBy (n : Nat) (sh : Nat → Nat × Nat) (x0 : Int32) (x1 : Int32) (x2 : Int32) (x3 : Int32) (x4 : Int32) (z : gS) (P : Int32 → gS → Prop) : Prop := if x0 = (1 : Int32) then (if x1 = (1 : Int32) then P x2 z else P (0 : Int32) z) else (if x1 = (1 : Int32) then P x4 z else P x3 z)
set_option maxRecDepth 100000 in
set_option maxHeartbeats 4000000 in
theorem ctX12_getsBy {E : gE} {n : Nat} {sh : Nat → Nat × Nat} {x0 : Int32} {x1 : Int32} {x2 : Int32} {x3 : Int32} {x4 : Int32} {z : gS} {P : Int32 → gS → Prop} (hn : n ≤ 1000000) (hf : wX12_getsBy n sh x0 x1 x2 x3 x4 z P) : VM E 0 0 gyX12_getsBy [.int x0, .int x1, .int x2, .int x3, .int x4] n sh z (kI n sh P) := by
  unfold wX12_getsBy at hf
  refine VM.of (by decide +kernel) (Nat.le_of_ble_eq_true rfl) ?_
  show V E (gR 0 0) gyX12_getsBy 0 0 0 [(0, .int x0), (1, .int x1), (2, .int x2), (3, .int x3), (4, .int x4)] [] n sh z (kI n sh P)
  refine V_iload_n (j := 0) dX12_getsBy_0 rfl rfl ?_
  refine V_iconst (v := (1 : Int32)) dX12_getsBy_1 (by decide) ?_
  refine V_icmp_ne (tgt := 18) dX12_getsBy_2 (by decide) (fun h3 => ?_) (fun h3 => ?_)
  · have hf := it_f h3 hf
    refine V_iload_n (j := 1) dX12_getsBy_18 rfl rfl ?_
    refine V_iconst (v := (1 : Int32)) dX12_getsBy_19 (by decide) ?_
    refine V_icmp_ne (tgt := 28) dX12_getsBy_20 (by decide) (fun h1 => ?_) (fun h1 => ?_)
    · have hf := it_f h1 hf
      refine V_iload_n (j := 3) dX12_getsBy_28 rfl rfl ?_
      exact V_ireturn dX12_getsBy_29 rfl rfl (Nat.le_refl 0) (kI_of hf)
    · have hf := it_t (Classical.not_not.mp h1) hf
      refine V_iload (j := 4) dX12_getsBy_23 rfl ?_
      refine V_goto (tgt := 29) dX12_getsBy_25 (by decide) ?_
      exact V_ireturn dX12_getsBy_29 rfl rfl (Nat.le_refl 0) (kI_of hf)
  · have hf := it_t (Classical.not_not.mp h3) hf
    refine V_iload_n (j := 1) dX12_getsBy_5 rfl rfl ?_
    refine V_iconst (v := (1 : Int32)) dX12_getsBy_6 (by decide) ?_
    refine V_icmp_ne (tgt := 14) dX12_getsBy_7 (by decide) (fun h2 => ?_) (fun h2 => ?_)
    · have hf := it_f h2 hf
      refine V_iconst (v := (0 : Int32)) dX12_getsBy_14 (by decide) ?_
      refine V_goto (tgt := 29) dX12_getsBy_15 (by decide) ?_
      exact V_ireturn dX12_getsBy_29 rfl rfl (Nat.le_refl 0) (kI_of hf)
    · have hf := it_t (Classical.not_not.mp h2) hf
      refine V_iload_n (j := 2) dX12_getsBy_10 rfl rfl ?_
      refine V_goto (tgt := 29) dX12_getsBy_11 (by decide) ?_
      exact V_ireturn dX12_getsBy_29 rfl rfl (Nat.le_refl 0) (kI_of hf)
def wX12_rests_J195 (n : Nat) (sh : Nat → Nat × Nat) (P : Int32 → gS → Prop) (a0 : Nat) (x4 : Int32) (x6 : Int32) (x7 : Int32) (s0 : Int32) (s1 : Nat) (z : gS) : Prop := (oO n sh s1 8) ∧ (∀ z4 : gS, z4 = si z s1 0 s0 → ((oO n sh a0 8) ∧ (if (gi z4 a0 0) ≤ 0 then (if 0 ≤ x4 then P x7 z4 else P x6 z4) else P (0 : Int32) z4)))
set_option maxRecDepth 100000 in
set_option maxHeartbeats 4000000 in
theorem vX12_rests_J195 {E : gE} {n : Nat} {sh : Nat → Nat × Nat} {P : Int32 → gS → Prop} {a0 : Nat} {x4 : Int32} {x6 : Int32} {x7 : Int32} {s0 : Int32} {s1 : Nat} {z : gS} (hn : n ≤ 1000000) (hf : wX12_rests_J195 n sh P a0 x4 x6 x7 s0 s1 z) : V E (gR 1 0) gyX12_rests 0 0 195 [(0, .ref a0), (4, .int x4), (6, .int x6), (7, .int x7)] [.int s0, .ref s1] n sh z (kI n sh P) := by
  unfold wX12_rests_J195 at hf
  obtain ⟨h3, hf⟩ := hf
  refine V_putI fl_X12_1 rfl rfl rfl rfl h3.1 h3.2 dX12_rests_195 ?_
  refine V_nz (fun z4 ez4 => ?_)
  have hf := hf z4 ez4
  refine V_aload_n (j := 0) dX12_rests_198 rfl rfl ?_
  obtain ⟨h5, hf⟩ := hf
  refine V_getI fl_X12_1 rfl h5.1 h5.2 dX12_rests_199 ?_
  refine V_if_le (tgt := 209) dX12_rests_202 (by decide) (fun h7 => ?_) (fun h7 => ?_)
  · have hf := it_t h7 hf
    refine V_iload (j := 1) dX12_rests_209 rfl ?_
    refine V_if_ge (tgt := 219) dX12_rests_211 (by decide) (fun h6 => ?_) (fun h6 => ?_)
    · have hf := it_t h6 hf
      refine V_iload (j := 3) dX12_rests_219 rfl ?_
      exact V_ireturn dX12_rests_221 rfl rfl (Nat.le_refl 0) (kI_of hf)
    · have hf := it_f h6 hf
      refine V_iload (j := 2) dX12_rests_214 rfl ?_
      refine V_goto (tgt := 221) dX12_rests_216 (by decide) ?_
      exact V_ireturn dX12_rests_221 rfl rfl (Nat.le_refl 0) (kI_of hf)
  · have hf := it_f h7 hf
    refine V_iconst (v := (0 : Int32)) dX12_rests_205 (by decide) ?_
    refine V_goto (tgt := 221) dX12_rests_206 (by decide) ?_
    exact V_ireturn dX12_rests_221 rfl rfl (Nat.le_refl 0) (kI_of hf)
def wX12_rests_J194 (n : Nat) (sh : Nat → Nat × Nat) (P : Int32 → gS → Prop) (a0 : Nat) (x4 : Int32) (x6 : Int32) (x7 : Int32) (s0 : Nat) (z : gS) : Prop := wX12_rests_J195 n sh P a0 x4 x6 x7 (1 : Int32) s0 z
set_option maxRecDepth 100000 in
set_option maxHeartbeats 4000000 in
theorem vX12_rests_J194 {E : gE} {n : Nat} {sh : Nat → Nat × Nat} {P : Int32 → gS → Prop} {a0 : Nat} {x4 : Int32} {x6 : Int32} {x7 : Int32} {s0 : Nat} {z : gS} (hn : n ≤ 1000000) (hf : wX12_rests_J194 n sh P a0 x4 x6 x7 s0 z) : V E (gR 1 0) gyX12_rests 0 0 194 [(0, .ref a0), (4, .int x4), (6, .int x6), (7, .int x7)] [.ref s0] n sh z (kI n sh P) := by
  unfold wX12_rests_J194 at hf
  refine V_iconst (v := (1 : Int32)) dX12_rests_194 (by decide) ?_
  exact vX12_rests_J195 hn hf
def wX12_rests_J190 (n : Nat) (sh : Nat → Nat × Nat) (P : Int32 → gS → Prop) (a0 : Nat) (x4 : Int32) (x6 : Int32) (x7 : Int32) (s0 : Nat) (z : gS) : Prop := wX12_rests_J195 n sh P a0 x4 x6 x7 (0 : Int32) s0 z
set_option maxRecDepth 100000 in
set_option maxHeartbeats 4000000 in
theorem vX12_rests_J190 {E : gE} {n : Nat} {sh : Nat → Nat × Nat} {P : Int32 → gS → Prop} {a0 : Nat} {x4 : Int32} {x6 : Int32} {x7 : Int32} {s0 : Nat} {z : gS} (hn : n ≤ 1000000) (hf : wX12_rests_J190 n sh P a0 x4 x6 x7 s0 z) : V E (gR 1 0) gyX12_rests 0 0 190 [(0, .ref a0), (4, .int x4), (6, .int x6), (7, .int x7)] [.ref s0] n sh z (kI n sh P) := by
  unfold wX12_rests_J190 at hf
  refine V_iconst (v := (0 : Int32)) dX12_rests_190 (by decide) ?_
  refine V_goto (tgt := 195) dX12_rests_191 (by decide) ?_
  exact vX12_rests_J195 hn hf
def wX12_rests_J174 (n : Nat) (sh : Nat → Nat × Nat) (P : Int32 → gS → Prop) (a0 : Nat) (x4 : Int32) (x5 : Int32) (x6 : Int32) (x7 : Int32) (z : gS) : Prop := if x5 = 0 then wX12_rests_J194 n sh P a0 x4 x6 x7 a0 z else (if x4 < 0 then wX12_rests_J190 n sh P a0 x4 x6 x7 a0 z else (if x7 < 0 then wX12_rests_J194 n sh P a0 x4 x6 x7 a0 z else wX12_rests_J190 n sh P a0 x4 x6 x7 a0 z))
set_option maxRecDepth 100000 in
set_option maxHeartbeats 4000000 in
theorem vX12_rests_J174 {E : gE} {n : Nat} {sh : Nat → Nat × Nat} {P : Int32 → gS → Prop} {a0 : Nat} {x4 : Int32} {x5 : Int32} {x6 : Int32} {x7 : Int32} {z : gS} (hn : n ≤ 1000000) (hf : wX12_rests_J174 n sh P a0 x4 x5 x6 x7 z) : V E (gR 1 0) gyX12_rests 0 0 174 [(0, .ref a0), (4, .int x4), (5, .int x5), (6, .int x6), (7, .int x7)] [] n sh z (kI n sh P) := by
  unfold wX12_rests_J174 at hf
  refine V_aload_n (j := 0) dX12_rests_174 rfl rfl ?_
  refine V_iload (j := 2) dX12_rests_175 rfl ?_
  refine V_if_eq (tgt := 194) dX12_rests_177 (by decide) (fun h10 => ?_) (fun h10 => ?_)
  · have hf := it_t h10 hf
    refine V_to [0, 1, 3, 4] rfl ?_
    exact vX12_rests_J194 hn hf
  · have hf := it_f h10 hf
    refine V_iload (j := 1) dX12_rests_180 rfl ?_
    refine V_if_lt (tgt := 190) dX12_rests_182 (by decide) (fun h9 => ?_) (fun h9 => ?_)
    · have hf := it_t h9 hf
      refine V_to [0, 1, 3, 4] rfl ?_
      exact vX12_rests_J190 hn hf
    · have hf := it_f h9 hf
      refine V_iload (j := 4) dX12_rests_185 rfl ?_
      refine V_if_lt (tgt := 194) dX12_rests_187 (by decide) (fun h8 => ?_) (fun h8 => ?_)
      · have hf := it_t h8 hf
        refine V_to [0, 1, 3, 4] rfl ?_
        exact vX12_rests_J194 hn hf
      · have hf := it_f h8 hf
        refine V_to [0, 1, 3, 4] rfl ?_
        exact vX12_rests_J190 hn hf
def wX12_rests_J165 (n : Nat) (sh : Nat → Nat × Nat) (k52 : Nat → Int32 → Int32 → Int32 → Int32 → Int32 → Int32 → Int32 → Int32 → gS → Prop) (P : Int32 → gS → Prop) (a0 : Nat) (x1 : Int32) (x2 : Int32) (x3 : Int32) (x4 : Int32) (x5 : Int32) (x7 : Int32) (x8 : Int32) (s0 : Int32) (s1 : Int32) (z : gS) : Prop := ∀ v17 : Int32, v17 = (s1 + s0) → (∀ v18 : Int32, v18 = x8 + (1 : Int32) → k52 a0 x1 x2 x3 x4 x5 v17 x7 v18 z)
set_option maxRecDepth 100000 in
set_option maxHeartbeats 4000000 in
theorem vX12_rests_J165 {E : gE} {n : Nat} {sh : Nat → Nat × Nat} {P : Int32 → gS → Prop} {k52 : Nat → Int32 → Int32 → Int32 → Int32 → Int32 → Int32 → Int32 → Int32 → gS → Prop} {a0 : Nat} {x1 : Int32} {x2 : Int32} {x3 : Int32} {x4 : Int32} {x5 : Int32} {x7 : Int32} {x8 : Int32} {s0 : Int32} {s1 : Int32} {z : gS} (hn : n ≤ 1000000) (hk52 : ∀ (a0 : Nat) (x1 : Int32) (x2 : Int32) (x3 : Int32) (x4 : Int32) (x5 : Int32) (x6 : Int32) (x7 : Int32) (x8 : Int32) (z : gS), k52 a0 x1 x2 x3 x4 x5 x6 x7 x8 z → V E (gR 1 0) gyX12_rests 0 0 52 [(0, .ref a0), (1, .int x1), (2, .int x2), (3, .int x3), (4, .int x4), (5, .int x5), (6, .int x6), (7, .int x7), (8, .int x8)] [] n sh z (kI n sh P)) (hf : wX12_rests_J165 n sh k52 P a0 x1 x2 x3 x4 x5 x7 x8 s0 s1 z) : V E (gR 1 0) gyX12_rests 0 0 165 [(0, .ref a0), (1, .int x1), (2, .int x2), (3, .int x3), (4, .int x4), (5, .int x5), (7, .int x7), (8, .int x8)] [.int s0, .int s1] n sh z (kI n sh P) := by
  unfold wX12_rests_J165 at hf
  refine V_iadd dX12_rests_165 ?_
  refine V_nI (fun v17 ev17 => ?_)
  have hf := hf v17 ev17
  refine V_istore (ls2 := [(6, .int v17), (0, .ref a0), (1, .int x1), (2, .int x2), (3, .int x3), (4, .int x4), (5, .int x5), (7, .int x7), (8, .int x8)]) dX12_rests_166 (by decide) rfl ?_
  obtain ⟨v18, ev18⟩ : ∃ y : Int32, y = x8 + (1 : Int32) := ⟨_, rfl⟩
  refine V_iinc (j := 8) (v := v18) (ls2 := [(8, .int v18), (6, .int v17), (0, .ref a0), (1, .int x1), (2, .int x2), (3, .int x3), (4, .int x4), (5, .int x5), (7, .int x7)]) dX12_rests_168 rfl (by rw [ev18]; rfl) (by decide) rfl ?_
  have hf := hf v18 ev18
  refine V_goto (tgt := 52) dX12_rests_171 (by decide) ?_
  refine V_to [2, 3, 4, 5, 6, 7, 1, 8, 0] rfl ?_
  exact hk52 _ _ _ _ _ _ _ _ _ _ hf
def wX12_rests_J151 (n : Nat) (sh : Nat → Nat × Nat) (k52 : Nat → Int32 → Int32 → Int32 → Int32 → Int32 → Int32 → Int32 → Int32 → gS → Prop) (P : Int32 → gS → Prop) (a0 : Nat) (x1 : Int32) (x2 : Int32) (x3 : Int32) (x4 : Int32) (x5 : Int32) (x6 : Int32) (x8 : Int32) (x11 : Int32) (s0 : Int32) (z : gS) : Prop := if x11 = 0 then wX12_rests_J165 n sh k52 P a0 x1 x2 x3 x4 x5 s0 x8 (0 : Int32) x6 z else wX12_rests_J165 n sh k52 P a0 x1 x2 x3 x4 x5 s0 x8 (1 : Int32) x6 z
set_option maxRecDepth 100000 in
set_option maxHeartbeats 4000000 in
theorem vX12_rests_J151 {E : gE} {n : Nat} {sh : Nat → Nat × Nat} {P : Int32 → gS → Prop} {k52 : Nat → Int32 → Int32 → Int32 → Int32 → Int32 → Int32 → Int32 → Int32 → gS → Prop} {a0 : Nat} {x1 : Int32} {x2 : Int32} {x3 : Int32} {x4 : Int32} {x5 : Int32} {x6 : Int32} {x8 : Int32} {x11 : Int32} {s0 : Int32} {z : gS} (hn : n ≤ 1000000) (hk52 : ∀ (a0 : Nat) (x1 : Int32) (x2 : Int32) (x3 : Int32) (x4 : Int32) (x5 : Int32) (x6 : Int32) (x7 : Int32) (x8 : Int32) (z : gS), k52 a0 x1 x2 x3 x4 x5 x6 x7 x8 z → V E (gR 1 0) gyX12_rests 0 0 52 [(0, .ref a0), (1, .int x1), (2, .int x2), (3, .int x3), (4, .int x4), (5, .int x5), (6, .int x6), (7, .int x7), (8, .int x8)] [] n sh z (kI n sh P)) (hf : wX12_rests_J151 n sh k52 P a0 x1 x2 x3 x4 x5 x6 x8 x11 s0 z) : V E (gR 1 0) gyX12_rests 0 0 151 [(0, .ref a0), (1, .int x1), (2, .int x2), (3, .int x3), (4, .int x4), (5, .int x5), (6, .int x6), (8, .int x8), (11, .int x11)] [.int s0] n sh z (kI n sh P) := by
  unfold wX12_rests_J151 at hf
  refine V_istore (ls2 := [(7, .int s0), (0, .ref a0), (1, .int x1), (2, .int x2), (3, .int x3), (4, .int x4), (5, .int x5), (6, .int x6), (8, .int x8), (11, .int x11)]) dX12_rests_151 (by decide) rfl ?_
  refine V_iload (j := 7) dX12_rests_153 rfl ?_
  refine V_iload (j := 9) dX12_rests_155 rfl ?_
  refine V_if_eq (tgt := 164) dX12_rests_157 (by decide) (fun h19 => ?_) (fun h19 => ?_)
  · have hf := it_t h19 hf
    refine V_iconst (v := (0 : Int32)) dX12_rests_164 (by decide) ?_
    refine V_to [1, 2, 3, 4, 5, 6, 0, 8] rfl ?_
    exact vX12_rests_J165 hn hk52 hf
  · have hf := it_f h19 hf
    refine V_iconst (v := (1 : Int32)) dX12_rests_160 (by decide) ?_
    refine V_goto (tgt := 165) dX12_rests_161 (by decide) ?_
    refine V_to [1, 2, 3, 4, 5, 6, 0, 8] rfl ?_
    exact vX12_rests_J165 hn hk52 hf
def wX12_rests_J149 (n : Nat) (sh : Nat → Nat × Nat) (k52 : Nat → Int32 → Int32 → Int32 → Int32 → Int32 → Int32 → Int32 → Int32 → gS → Prop) (P : Int32 → gS → Prop) (a0 : Nat) (x1 : Int32) (x2 : Int32) (x3 : Int32) (x4 : Int32) (x5 : Int32) (x6 : Int32) (x7 : Int32) (x8 : Int32) (x11 : Int32) (z : gS) : Prop := wX12_rests_J151 n sh k52 P a0 x1 x2 x3 x4 x5 x6 x8 x11 x7 z
set_option maxRecDepth 100000 in
set_option maxHeartbeats 4000000 in
theorem vX12_rests_J149 {E : gE} {n : Nat} {sh : Nat → Nat × Nat} {P : Int32 → gS → Prop} {k52 : Nat → Int32 → Int32 → Int32 → Int32 → Int32 → Int32 → Int32 → Int32 → gS → Prop} {a0 : Nat} {x1 : Int32} {x2 : Int32} {x3 : Int32} {x4 : Int32} {x5 : Int32} {x6 : Int32} {x7 : Int32} {x8 : Int32} {x11 : Int32} {z : gS} (hn : n ≤ 1000000) (hk52 : ∀ (a0 : Nat) (x1 : Int32) (x2 : Int32) (x3 : Int32) (x4 : Int32) (x5 : Int32) (x6 : Int32) (x7 : Int32) (x8 : Int32) (z : gS), k52 a0 x1 x2 x3 x4 x5 x6 x7 x8 z → V E (gR 1 0) gyX12_rests 0 0 52 [(0, .ref a0), (1, .int x1), (2, .int x2), (3, .int x3), (4, .int x4), (5, .int x5), (6, .int x6), (7, .int x7), (8, .int x8)] [] n sh z (kI n sh P)) (hf : wX12_rests_J149 n sh k52 P a0 x1 x2 x3 x4 x5 x6 x7 x8 x11 z) : V E (gR 1 0) gyX12_rests 0 0 149 [(0, .ref a0), (1, .int x1), (2, .int x2), (3, .int x3), (4, .int x4), (5, .int x5), (6, .int x6), (7, .int x7), (8, .int x8), (11, .int x11)] [] n sh z (kI n sh P) := by
  unfold wX12_rests_J149 at hf
  refine V_iload (j := 7) dX12_rests_149 rfl ?_
  refine V_to [0, 1, 2, 3, 4, 5, 6, 8, 9] rfl ?_
  exact vX12_rests_J151 hn hk52 hf
def wX12_rests_J130 (n : Nat) (sh : Nat → Nat × Nat) (k52 : Nat → Int32 → Int32 → Int32 → Int32 → Int32 → Int32 → Int32 → Int32 → gS → Prop) (P : Int32 → gS → Prop) (a0 : Nat) (x1 : Int32) (x2 : Int32) (x3 : Int32) (x4 : Int32) (x5 : Int32) (x6 : Int32) (x7 : Int32) (x8 : Int32) (s0 : Int32) (z : gS) : Prop := if s0 = 0 then wX12_rests_J149 n sh k52 P a0 x1 x2 x3 x4 x5 x6 x7 x8 s0 z else (if x6 = x4 then wX12_rests_J151 n sh k52 P a0 x1 x2 x3 x4 x5 x6 x8 s0 x8 z else wX12_rests_J149 n sh k52 P a0 x1 x2 x3 x4 x5 x6 x7 x8 s0 z)
set_option maxRecDepth 100000 in
set_option maxHeartbeats 4000000 in
theorem vX12_rests_J130 {E : gE} {n : Nat} {sh : Nat → Nat × Nat} {P : Int32 → gS → Prop} {k52 : Nat → Int32 → Int32 → Int32 → Int32 → Int32 → Int32 → Int32 → Int32 → gS → Prop} {a0 : Nat} {x1 : Int32} {x2 : Int32} {x3 : Int32} {x4 : Int32} {x5 : Int32} {x6 : Int32} {x7 : Int32} {x8 : Int32} {s0 : Int32} {z : gS} (hn : n ≤ 1000000) (hk52 : ∀ (a0 : Nat) (x1 : Int32) (x2 : Int32) (x3 : Int32) (x4 : Int32) (x5 : Int32) (x6 : Int32) (x7 : Int32) (x8 : Int32) (z : gS), k52 a0 x1 x2 x3 x4 x5 x6 x7 x8 z → V E (gR 1 0) gyX12_rests 0 0 52 [(0, .ref a0), (1, .int x1), (2, .int x2), (3, .int x3), (4, .int x4), (5, .int x5), (6, .int x6), (7, .int x7), (8, .int x8)] [] n sh z (kI n sh P)) (hf : wX12_rests_J130 n sh k52 P a0 x1 x2 x3 x4 x5 x6 x7 x8 s0 z) : V E (gR 1 0) gyX12_rests 0 0 130 [(0, .ref a0), (1, .int x1), (2, .int x2), (3, .int x3), (4, .int x4), (5, .int x5), (6, .int x6), (7, .int x7), (8, .int x8)] [.int s0] n sh z (kI n sh P) := by
  unfold wX12_rests_J130 at hf
  refine V_istore (ls2 := [(11, .int s0), (0, .ref a0), (1, .int x1), (2, .int x2), (3, .int x3), (4, .int x4), (5, .int x5), (6, .int x6), (7, .int x7), (8, .int x8)]) dX12_rests_130 (by decide) rfl ?_
  refine V_iload (j := 0) dX12_rests_132 rfl ?_
  refine V_if_eq (tgt := 149) dX12_rests_134 (by decide) (fun h21 => ?_) (fun h21 => ?_)
  · have hf := it_t h21 hf
    refine V_to [1, 2, 3, 4, 5, 6, 7, 8, 9, 0] rfl ?_
    exact vX12_rests_J149 hn hk52 hf
  · have hf := it_f h21 hf
    refine V_iload (j := 7) dX12_rests_137 rfl ?_
    refine V_iload (j := 5) dX12_rests_139 rfl ?_
    refine V_icmp_ne (tgt := 149) dX12_rests_141 (by decide) (fun h20 => ?_) (fun h20 => ?_)
    · have hf := it_f h20 hf
      refine V_to [1, 2, 3, 4, 5, 6, 7, 8, 9, 0] rfl ?_
      exact vX12_rests_J149 hn hk52 hf
    · have hf := it_t (Classical.not_not.mp h20) hf
      refine V_iload (j := 9) dX12_rests_144 rfl ?_
      refine V_goto (tgt := 151) dX12_rests_146 (by decide) ?_
      refine V_to [1, 2, 3, 4, 5, 6, 7, 9, 0] rfl ?_
      exact vX12_rests_J151 hn hk52 hf
def wX12_rests_J129 (n : Nat) (sh : Nat → Nat × Nat) (k52 : Nat → Int32 → Int32 → Int32 → Int32 → Int32 → Int32 → Int32 → Int32 → gS → Prop) (P : Int32 → gS → Prop) (a0 : Nat) (x1 : Int32) (x2 : Int32) (x3 : Int32) (x4 : Int32) (x5 : Int32) (x6 : Int32) (x7 : Int32) (x8 : Int32) (z : gS) : Prop := wX12_rests_J130 n sh k52 P a0 x1 x2 x3 x4 x5 x6 x7 x8 (0 : Int32) z
set_option maxRecDepth 100000 in
set_option maxHeartbeats 4000000 in
theorem vX12_rests_J129 {E : gE} {n : Nat} {sh : Nat → Nat × Nat} {P : Int32 → gS → Prop} {k52 : Nat → Int32 → Int32 → Int32 → Int32 → Int32 → Int32 → Int32 → Int32 → gS → Prop} {a0 : Nat} {x1 : Int32} {x2 : Int32} {x3 : Int32} {x4 : Int32} {x5 : Int32} {x6 : Int32} {x7 : Int32} {x8 : Int32} {z : gS} (hn : n ≤ 1000000) (hk52 : ∀ (a0 : Nat) (x1 : Int32) (x2 : Int32) (x3 : Int32) (x4 : Int32) (x5 : Int32) (x6 : Int32) (x7 : Int32) (x8 : Int32) (z : gS), k52 a0 x1 x2 x3 x4 x5 x6 x7 x8 z → V E (gR 1 0) gyX12_rests 0 0 52 [(0, .ref a0), (1, .int x1), (2, .int x2), (3, .int x3), (4, .int x4), (5, .int x5), (6, .int x6), (7, .int x7), (8, .int x8)] [] n sh z (kI n sh P)) (hf : wX12_rests_J129 n sh k52 P a0 x1 x2 x3 x4 x5 x6 x7 x8 z) : V E (gR 1 0) gyX12_rests 0 0 129 [(0, .ref a0), (1, .int x1), (2, .int x2), (3, .int x3), (4, .int x4), (5, .int x5), (6, .int x6), (7, .int x7), (8, .int x8)] [] n sh z (kI n sh P) := by
  unfold wX12_rests_J129 at hf
  refine V_iconst (v := (0 : Int32)) dX12_rests_129 (by decide) ?_
  exact vX12_rests_J130 hn hk52 hf
def wX12_rests_B52 (n : Nat) (sh : Nat → Nat × Nat) (k52 : Nat → Int32 → Int32 → Int32 → Int32 → Int32 → Int32 → Int32 → Int32 → gS → Prop) (P : Int32 → gS → Prop) (a0 : Nat) (x1 : Int32) (x2 : Int32) (x3 : Int32) (x4 : Int32) (x5 : Int32) (x6 : Int32) (x7 : Int32) (x8 : Int32) (z : gS) : Prop := if (4 : Int32) ≤ x8 then wX12_rests_J174 n sh P a0 x4 x5 x6 x7 z else (if x5 = 0 then wX12_rests_J174 n sh P a0 x4 x5 x6 x7 z else (∀ v11 : Int32, v11 = (x8 / (2 : Int32)) → (∀ v12 : Int32, v12 = (x8 - x8 / (2 : Int32) * (2 : Int32)) → (wX12_getsBy n sh ((1 : Int32) - v11) v12 x1 x2 x3 z (fun (r13 : Int32) (z14 : gS) => wX12_getsBy n sh v11 v12 x1 x2 x3 z14 (fun (r15 : Int32) (z16 : gS) => if r15 < r13 then wX12_rests_J129 n sh k52 P a0 x1 x2 x3 x4 x5 x6 x7 x8 z16 else (wX12_getsBy n sh ((1 : Int32) - v12) v11 x1 x2 x3 z16 (fun (r22 : Int32) (z23 : gS) => wX12_getsBy n sh v12 v11 x1 x2 x3 z23 (fun (r24 : Int32) (z25 : gS) => if r24 < r22 then wX12_rests_J129 n sh k52 P a0 x1 x2 x3 x4 x5 x6 x7 x8 z25 else wX12_rests_J130 n sh k52 P a0 x1 x2 x3 x4 x5 x6 x7 x8 (1 : Int32) z25)))))))))
def wX12_rests_L52 (n : Nat) (sh : Nat → Nat × Nat) (P : Int32 → gS → Prop) : Nat → Nat → Int32 → Int32 → Int32 → Int32 → Int32 → Int32 → Int32 → Int32 → gS → Prop
  | 0, _, _, _, _, _, _, _, _, _, _ => False
  | N + 1, a0, x1, x2, x3, x4, x5, x6, x7, x8, z => wX12_rests_B52 n sh (wX12_rests_L52 n sh P N) P a0 x1 x2 x3 x4 x5 x6 x7 x8 z
set_option maxRecDepth 100000 in
set_option maxHeartbeats 4000000 in
theorem vX12_rests_B52 {E : gE} {n : Nat} {sh : Nat → Nat × Nat} {P : Int32 → gS → Prop} {k52 : Nat → Int32 → Int32 → Int32 → Int32 → Int32 → Int32 → Int32 → Int32 → gS → Prop} {a0 : Nat} {x1 : Int32} {x2 : Int32} {x3 : Int32} {x4 : Int32} {x5 : Int32} {x6 : Int32} {x7 : Int32} {x8 : Int32} {z : gS} (hn : n ≤ 1000000) (hk52 : ∀ (a0 : Nat) (x1 : Int32) (x2 : Int32) (x3 : Int32) (x4 : Int32) (x5 : Int32) (x6 : Int32) (x7 : Int32) (x8 : Int32) (z : gS), k52 a0 x1 x2 x3 x4 x5 x6 x7 x8 z → V E (gR 1 0) gyX12_rests 0 0 52 [(0, .ref a0), (1, .int x1), (2, .int x2), (3, .int x3), (4, .int x4), (5, .int x5), (6, .int x6), (7, .int x7), (8, .int x8)] [] n sh z (kI n sh P)) (hf : wX12_rests_B52 n sh k52 P a0 x1 x2 x3 x4 x5 x6 x7 x8 z) : V E (gR 1 0) gyX12_rests 0 0 52 [(0, .ref a0), (1, .int x1), (2, .int x2), (3, .int x3), (4, .int x4), (5, .int x5), (6, .int x6), (7, .int x7), (8, .int x8)] [] n sh z (kI n sh P) := by
  unfold wX12_rests_B52 at hf
  refine V_iload (j := 8) dX12_rests_52 rfl ?_
  refine V_iconst (v := (4 : Int32)) dX12_rests_54 (by decide) ?_
  refine V_icmp_ge (tgt := 174) dX12_rests_55 (by decide) (fun h29 => ?_) (fun h29 => ?_)
  · have hf := it_t h29 hf
    refine V_to [0, 4, 5, 6, 7] rfl ?_
    exact vX12_rests_J174 hn hf
  · have hf := it_f h29 hf
    refine V_iload (j := 5) dX12_rests_58 rfl ?_
    refine V_if_eq (tgt := 174) dX12_rests_60 (by decide) (fun h28 => ?_) (fun h28 => ?_)
    · have hf := it_t h28 hf
      refine V_to [0, 4, 5, 6, 7] rfl ?_
      exact vX12_rests_J174 hn hf
    · have hf := it_f h28 hf
      refine V_iload (j := 8) dX12_rests_63 rfl ?_
      refine V_iconst (v := (2 : Int32)) dX12_rests_65 (by decide) ?_
      refine V_idiv dX12_rests_66 (by decide) ?_
      refine V_nI (fun v11 ev11 => ?_)
      have hf := hf v11 ev11
      refine V_istore (ls2 := [(9, .int v11), (0, .ref a0), (1, .int x1), (2, .int x2), (3, .int x3), (4, .int x4), (5, .int x5), (6, .int x6), (7, .int x7), (8, .int x8)]) dX12_rests_67 (by decide) rfl ?_
      refine V_iload (j := 9) dX12_rests_69 rfl ?_
      refine V_iconst (v := (2 : Int32)) dX12_rests_71 (by decide) ?_
      refine V_irem dX12_rests_72 (by decide) ?_
      refine V_nI (fun v12 ev12 => ?_)
      have hf := hf v12 ev12
      refine V_istore (ls2 := [(10, .int v12), (9, .int v11), (0, .ref a0), (1, .int x1), (2, .int x2), (3, .int x3), (4, .int x4), (5, .int x5), (6, .int x6), (7, .int x7), (8, .int x8)]) dX12_rests_73 (by decide) rfl ?_
      refine V_iconst (v := (1 : Int32)) dX12_rests_75 (by decide) ?_
      refine V_iload (j := 1) dX12_rests_76 rfl ?_
      refine V_isub dX12_rests_78 ?_
      refine V_iload (j := 0) dX12_rests_79 rfl ?_
      refine V_iload_n (j := 3) dX12_rests_81 rfl rfl ?_
      refine V_iload_n (j := 4) dX12_rests_82 rfl rfl ?_
      refine V_iload_n (j := 5) dX12_rests_83 rfl rfl ?_
      refine V_cSI (ctX12_getsBy hn hf) gc_X12_386 rfl ⟨by decide, by decide, Nat.zero_le _, Nat.zero_le _⟩ (Nat.le_of_ble_eq_true rfl) dX12_rests_84 rfl hn (fun r13 z14 hf => ?_)
      refine V_iload (j := 1) dX12_rests_87 rfl ?_
      refine V_iload (j := 0) dX12_rests_89 rfl ?_
      refine V_iload_n (j := 3) dX12_rests_91 rfl rfl ?_
      refine V_iload_n (j := 4) dX12_rests_92 rfl rfl ?_
      refine V_iload_n (j := 5) dX12_rests_93 rfl rfl ?_
      refine V_cSI (ctX12_getsBy hn hf) gc_X12_386 rfl ⟨by decide, by decide, Nat.zero_le _, Nat.zero_le _⟩ (Nat.le_of_ble_eq_true rfl) dX12_rests_94 rfl hn (fun r15 z16 hf => ?_)
      refine V_icmp_gt (tgt := 129) dX12_rests_97 (by decide) (fun h27 => ?_) (fun h27 => ?_)
      · have hf := it_t h27 hf
        refine V_to [2, 3, 4, 5, 6, 7, 8, 9, 10] rfl ?_
        exact vX12_rests_J129 hn hk52 hf
      · have hf := it_f h27 hf
        refine V_iconst (v := (1 : Int32)) dX12_rests_100 (by decide) ?_
        refine V_iload (j := 0) dX12_rests_101 rfl ?_
        refine V_isub dX12_rests_103 ?_
        refine V_iload (j := 1) dX12_rests_104 rfl ?_
        refine V_iload_n (j := 3) dX12_rests_106 rfl rfl ?_
        refine V_iload_n (j := 4) dX12_rests_107 rfl rfl ?_
        refine V_iload_n (j := 5) dX12_rests_108 rfl rfl ?_
        refine V_cSI (ctX12_getsBy hn hf) gc_X12_386 rfl ⟨by decide, by decide, Nat.zero_le _, Nat.zero_le _⟩ (Nat.le_of_ble_eq_true rfl) dX12_rests_109 rfl hn (fun r22 z23 hf => ?_)
        refine V_iload (j := 0) dX12_rests_112 rfl ?_
        refine V_iload (j := 1) dX12_rests_114 rfl ?_
        refine V_iload_n (j := 3) dX12_rests_116 rfl rfl ?_
        refine V_iload_n (j := 4) dX12_rests_117 rfl rfl ?_
        refine V_iload_n (j := 5) dX12_rests_118 rfl rfl ?_
        refine V_cSI (ctX12_getsBy hn hf) gc_X12_386 rfl ⟨by decide, by decide, Nat.zero_le _, Nat.zero_le _⟩ (Nat.le_of_ble_eq_true rfl) dX12_rests_119 rfl hn (fun r24 z25 hf => ?_)
        refine V_icmp_gt (tgt := 129) dX12_rests_122 (by decide) (fun h26 => ?_) (fun h26 => ?_)
        · have hf := it_t h26 hf
          refine V_to [2, 3, 4, 5, 6, 7, 8, 9, 10] rfl ?_
          exact vX12_rests_J129 hn hk52 hf
        · have hf := it_f h26 hf
          refine V_iconst (v := (1 : Int32)) dX12_rests_125 (by decide) ?_
          refine V_goto (tgt := 130) dX12_rests_126 (by decide) ?_
          refine V_to [2, 3, 4, 5, 6, 7, 8, 9, 10] rfl ?_
          exact vX12_rests_J130 hn hk52 hf
set_option maxRecDepth 100000 in
set_option maxHeartbeats 4000000 in
theorem vX12_rests_L52 {E : gE} {n : Nat} {sh : Nat → Nat × Nat} {P : Int32 → gS → Prop} (hn : n ≤ 1000000) : ∀ (N : Nat) (a0 : Nat) (x1 : Int32) (x2 : Int32) (x3 : Int32) (x4 : Int32) (x5 : Int32) (x6 : Int32) (x7 : Int32) (x8 : Int32) (z : gS), wX12_rests_L52 n sh P N a0 x1 x2 x3 x4 x5 x6 x7 x8 z → V E (gR 1 0) gyX12_rests 0 0 52 [(0, .ref a0), (1, .int x1), (2, .int x2), (3, .int x3), (4, .int x4), (5, .int x5), (6, .int x6), (7, .int x7), (8, .int x8)] [] n sh z (kI n sh P) := by
  intro N
  induction N with
  | zero => intro a0 x1 x2 x3 x4 x5 x6 x7 x8 z hf; exact False.elim hf
  | succ N ih => intro a0 x1 x2 x3 x4 x5 x6 x7 x8 z hf; exact vX12_rests_B52 hn ih hf
def wX12_rests_J41 (n : Nat) (sh : Nat → Nat × Nat) (P : Int32 → gS → Prop) (a0 : Nat) (x1 : Int32) (x2 : Int32) (x3 : Int32) (x4 : Int32) (s0 : Int32) (z : gS) : Prop := (∃ N, wX12_rests_L52 n sh P N a0 x1 x2 x3 x4 s0 (0 : Int32) (-1 : Int32) (0 : Int32) z)
set_option maxRecDepth 100000 in
set_option maxHeartbeats 4000000 in
theorem vX12_rests_J41 {E : gE} {n : Nat} {sh : Nat → Nat × Nat} {P : Int32 → gS → Prop} {a0 : Nat} {x1 : Int32} {x2 : Int32} {x3 : Int32} {x4 : Int32} {s0 : Int32} {z : gS} (hn : n ≤ 1000000) (hf : wX12_rests_J41 n sh P a0 x1 x2 x3 x4 s0 z) : V E (gR 1 0) gyX12_rests 0 0 41 [(0, .ref a0), (1, .int x1), (2, .int x2), (3, .int x3), (4, .int x4)] [.int s0] n sh z (kI n sh P) := by
  unfold wX12_rests_J41 at hf
  refine V_istore (ls2 := [(5, .int s0), (0, .ref a0), (1, .int x1), (2, .int x2), (3, .int x3), (4, .int x4)]) dX12_rests_41 (by decide) rfl ?_
  refine V_iconst (v := (0 : Int32)) dX12_rests_43 (by decide) ?_
  refine V_istore (ls2 := [(6, .int (0 : Int32)), (5, .int s0), (0, .ref a0), (1, .int x1), (2, .int x2), (3, .int x3), (4, .int x4)]) dX12_rests_44 (by decide) rfl ?_
  refine V_iconst (v := (-1 : Int32)) dX12_rests_46 (by decide) ?_
  refine V_istore (ls2 := [(7, .int (-1 : Int32)), (6, .int (0 : Int32)), (5, .int s0), (0, .ref a0), (1, .int x1), (2, .int x2), (3, .int x3), (4, .int x4)]) dX12_rests_47 (by decide) rfl ?_
  refine V_iconst (v := (0 : Int32)) dX12_rests_49 (by decide) ?_
  refine V_istore (ls2 := [(8, .int (0 : Int32)), (7, .int (-1 : Int32)), (6, .int (0 : Int32)), (5, .int s0), (0, .ref a0), (1, .int x1), (2, .int x2), (3, .int x3), (4, .int x4)]) dX12_rests_50 (by decide) rfl ?_
  obtain ⟨N, hf⟩ := hf
  refine V_to [4, 5, 6, 7, 8, 3, 2, 1, 0] rfl ?_
  exact vX12_rests_L52 hn N _ _ _ _ _ _ _ _ _ _ hf
def wX12_rests_J40 (n : Nat) (sh : Nat → Nat × Nat) (P : Int32 → gS → Prop) (a0 : Nat) (x1 : Int32) (x2 : Int32) (x3 : Int32) (x4 : Int32) (z : gS) : Prop := wX12_rests_J41 n sh P a0 x1 x2 x3 x4 (0 : Int32) z
set_option maxRecDepth 100000 in
set_option maxHeartbeats 4000000 in
theorem vX12_rests_J40 {E : gE} {n : Nat} {sh : Nat → Nat × Nat} {P : Int32 → gS → Prop} {a0 : Nat} {x1 : Int32} {x2 : Int32} {x3 : Int32} {x4 : Int32} {z : gS} (hn : n ≤ 1000000) (hf : wX12_rests_J40 n sh P a0 x1 x2 x3 x4 z) : V E (gR 1 0) gyX12_rests 0 0 40 [(0, .ref a0), (1, .int x1), (2, .int x2), (3, .int x3), (4, .int x4)] [] n sh z (kI n sh P) := by
  unfold wX12_rests_J40 at hf
  refine V_iconst (v := (0 : Int32)) dX12_rests_40 (by decide) ?_
  exact vX12_rests_J41 hn hf
def wX12_rests (n : Nat) (sh : Nat → Nat × Nat) (a0 : Nat) (x1 : Int32) (x2 : Int32) (x3 : Int32) (x4 : Int32) (z : gS) (P : Int32 → gS → Prop) : Prop := wX12_within n sh x1 (0 : Int32) (9 : Int32) z (fun (r1 : Int32) (z2 : gS) => if r1 = 0 then wX12_rests_J40 n sh P a0 x1 x2 x3 x4 z2 else (wX12_within n sh x2 (0 : Int32) (9 : Int32) z2 (fun (r30 : Int32) (z31 : gS) => if r30 = 0 then wX12_rests_J40 n sh P a0 x1 x2 x3 x4 z31 else (wX12_within n sh x3 (0 : Int32) (9 : Int32) z31 (fun (r32 : Int32) (z33 : gS) => if r32 = 0 then wX12_rests_J40 n sh P a0 x1 x2 x3 x4 z33 else (if x4 < (-1 : Int32) then wX12_rests_J40 n sh P a0 x1 x2 x3 x4 z33 else wX12_rests_J41 n sh P a0 x1 x2 x3 x4 (1 : Int32) z33))))))
set_option maxRecDepth 100000 in
set_option maxHeartbeats 4000000 in
theorem ctX12_rests {E : gE} {n : Nat} {sh : Nat → Nat × Nat} {a0 : Nat} {x1 : Int32} {x2 : Int32} {x3 : Int32} {x4 : Int32} {z : gS} {P : Int32 → gS → Prop} (hn : n ≤ 1000000) (hf : wX12_rests n sh a0 x1 x2 x3 x4 z P) : VM E 1 0 gyX12_rests [.ref a0, .int x1, .int x2, .int x3, .int x4] n sh z (kI n sh P) := by
  unfold wX12_rests at hf
  refine VM.of (by decide +kernel) (Nat.le_of_ble_eq_true rfl) ?_
  show V E (gR 1 0) gyX12_rests 0 0 0 [(0, .ref a0), (1, .int x1), (2, .int x2), (3, .int x3), (4, .int x4)] [] n sh z (kI n sh P)
  refine V_iload_n (j := 1) dX12_rests_0 rfl rfl ?_
  refine V_iconst (v := (0 : Int32)) dX12_rests_1 (by decide) ?_
  refine V_bipush (v := (9 : Int32)) dX12_rests_2 (by decide) ?_
  refine V_cSI (ctX12_within hn hf) gc_X12_198 rfl ⟨by decide, by decide, Nat.zero_le _, Nat.zero_le _⟩ (Nat.le_of_ble_eq_true rfl) dX12_rests_4 rfl hn (fun r1 z2 hf => ?_)
  refine V_if_eq (tgt := 40) dX12_rests_7 (by decide) (fun h37 => ?_) (fun h37 => ?_)
  · have hf := it_t h37 hf
    exact vX12_rests_J40 hn hf
  · have hf := it_f h37 hf
    refine V_iload_n (j := 2) dX12_rests_10 rfl rfl ?_
    refine V_iconst (v := (0 : Int32)) dX12_rests_11 (by decide) ?_
    refine V_bipush (v := (9 : Int32)) dX12_rests_12 (by decide) ?_
    refine V_cSI (ctX12_within hn hf) gc_X12_198 rfl ⟨by decide, by decide, Nat.zero_le _, Nat.zero_le _⟩ (Nat.le_of_ble_eq_true rfl) dX12_rests_14 rfl hn (fun r30 z31 hf => ?_)
    refine V_if_eq (tgt := 40) dX12_rests_17 (by decide) (fun h36 => ?_) (fun h36 => ?_)
    · have hf := it_t h36 hf
      exact vX12_rests_J40 hn hf
    · have hf := it_f h36 hf
      refine V_iload_n (j := 3) dX12_rests_20 rfl rfl ?_
      refine V_iconst (v := (0 : Int32)) dX12_rests_21 (by decide) ?_
      refine V_bipush (v := (9 : Int32)) dX12_rests_22 (by decide) ?_
      refine V_cSI (ctX12_within hn hf) gc_X12_198 rfl ⟨by decide, by decide, Nat.zero_le _, Nat.zero_le _⟩ (Nat.le_of_ble_eq_true rfl) dX12_rests_24 rfl hn (fun r32 z33 hf => ?_)
      refine V_if_eq (tgt := 40) dX12_rests_27 (by decide) (fun h35 => ?_) (fun h35 => ?_)
      · have hf := it_t h35 hf
        exact vX12_rests_J40 hn hf
      · have hf := it_f h35 hf
        refine V_iload (j := 4) dX12_rests_30 rfl ?_
        refine V_iconst (v := (-1 : Int32)) dX12_rests_32 (by decide) ?_
        refine V_icmp_lt (tgt := 40) dX12_rests_33 (by decide) (fun h34 => ?_) (fun h34 => ?_)
        · have hf := it_t h34 hf
          exact vX12_rests_J40 hn hf
        · have hf := it_f h34 hf
          refine V_iconst (v := (1 : Int32)) dX12_rests_36 (by decide) ?_
          refine V_goto (tgt := 41) dX12_rests_37 (by decide) ?_
          exact vX12_rests_J41 hn hf
def wX12_draw (n : Nat) (sh : Nat → Nat × Nat) (a0 : Nat) (x1 : Int32) (z : gS) (P : Int32 → gS → Prop) : Prop := (oO n sh a0 8) ∧ (∀ z2 : gS, z2 = sl z a0 28 ((((gl z a0 28) * (1103515245 : Int64)) + (12345 : Int64)) - (((gl z a0 28) * (1103515245 : Int64)) + (12345 : Int64)) / (2147483648 : Int64) * (2147483648 : Int64)) → ((¬ x1.toInt64 = 0) ∧ P (((gl z2 a0 28) / (65536 : Int64)) - ((gl z2 a0 28) / (65536 : Int64)) / x1.toInt64 * x1.toInt64).toInt32 z2))
set_option maxRecDepth 100000 in
set_option maxHeartbeats 4000000 in
theorem ctX12_draw {E : gE} {n : Nat} {sh : Nat → Nat × Nat} {a0 : Nat} {x1 : Int32} {z : gS} {P : Int32 → gS → Prop} (hn : n ≤ 1000000) (hf : wX12_draw n sh a0 x1 z P) : VM E 0 0 gyX12_draw [.ref a0, .int x1] n sh z (kI n sh P) := by
  unfold wX12_draw at hf
  refine VM.of (by decide +kernel) (Nat.le_of_ble_eq_true rfl) ?_
  show V E (gR 0 0) gyX12_draw 0 0 0 [(0, .ref a0), (1, .int x1)] [] n sh z (kI n sh P)
  refine V_aload_n (j := 0) dX12_draw_0 rfl rfl ?_
  refine V_aload_n (j := 0) dX12_draw_1 rfl rfl ?_
  obtain ⟨h1, hf⟩ := hf
  refine V_getL fl_X12_390 rfl h1.1 h1.2 dX12_draw_2 ?_
  refine V_ldc2 dX12_draw_5 rfl kj_X12_394 ?_
  refine V_lmul dX12_draw_8 ?_
  refine V_ldc2 dX12_draw_9 rfl kj_X12_396 ?_
  refine V_ladd dX12_draw_12 ?_
  refine V_ldc2 dX12_draw_13 rfl kj_X12_398 ?_
  refine V_lrem dX12_draw_16 (by decide) ?_
  refine V_putL fl_X12_390 rfl rfl rfl rfl h1.1 h1.2 dX12_draw_17 ?_
  refine V_nz (fun z2 ez2 => ?_)
  have hf := hf z2 ez2
  refine V_aload_n (j := 0) dX12_draw_20 rfl rfl ?_
  refine V_getL fl_X12_390 rfl h1.1 h1.2 dX12_draw_21 ?_
  refine V_ldc2 dX12_draw_24 rfl kj_X12_400 ?_
  refine V_ldiv dX12_draw_27 (by decide) ?_
  refine V_iload_n (j := 1) dX12_draw_28 rfl rfl ?_
  refine V_i2l dX12_draw_29 ?_
  obtain ⟨h3, hf⟩ := hf
  refine V_lrem dX12_draw_30 h3 ?_
  refine V_l2i dX12_draw_31 ?_
  exact V_ireturn dX12_draw_32 rfl rfl (Nat.le_refl 0) (kI_of hf)
def wX12_drawsPerson_J118 (n : Nat) (sh : Nat → Nat × Nat) (P : gS → Prop) (s0 : Int32) (s1 : Int32) (s2 : Nat) (z : gS) : Prop := (oO n sh s2 8) ∧ (∀ z18 : gS, z18 = si z s2 30 (s1 + s0) → P z18)
set_option maxRecDepth 100000 in
set_option maxHeartbeats 4000000 in
theorem vX12_drawsPerson_J118 {E : gE} {n : Nat} {sh : Nat → Nat × Nat} {P : gS → Prop} {s0 : Int32} {s1 : Int32} {s2 : Nat} {z : gS} (hn : n ≤ 1000000) (hf : wX12_drawsPerson_J118 n sh P s0 s1 s2 z) : V E (gR 5 0) gyX12_drawsPerson 0 0 118 [] [.int s0, .int s1, .ref s2] n sh z (kN n sh P) := by
  unfold wX12_drawsPerson_J118 at hf
  refine V_iadd dX12_drawsPerson_118 ?_
  obtain ⟨h17, hf⟩ := hf
  refine V_putI fl_X12_408 rfl rfl rfl rfl h17.1 h17.2 dX12_drawsPerson_119 ?_
  refine V_nz (fun z18 ez18 => ?_)
  have hf := hf z18 ez18
  exact V_return dX12_drawsPerson_122 rfl (Nat.le_refl 0) (kN_of hf)
def wX12_drawsPerson_J63 (n : Nat) (sh : Nat → Nat × Nat) (P : gS → Prop) (s0 : Int32) (s1 : Int32) (s2 : Nat) (z : gS) : Prop := (oA n sh s2 1) ∧ ((vp_in s1 (sh s2).2) ∧ (∀ z27 : gS, z27 = si z s2 s1.toNatClampNeg s0 → P z27))
set_option maxRecDepth 100000 in
set_option maxHeartbeats 4000000 in
theorem vX12_drawsPerson_J63 {E : gE} {n : Nat} {sh : Nat → Nat × Nat} {P : gS → Prop} {s0 : Int32} {s1 : Int32} {s2 : Nat} {z : gS} (hn : n ≤ 1000000) (hf : wX12_drawsPerson_J63 n sh P s0 s1 s2 z) : V E (gR 5 0) gyX12_drawsPerson 0 0 63 [] [.int s0, .int s1, .ref s2] n sh z (kN n sh P) := by
  unfold wX12_drawsPerson_J63 at hf
  obtain ⟨h25, hf⟩ := hf
  obtain ⟨h26, hf⟩ := hf
  refine V_iast h25.1 h25.s h26 dX12_drawsPerson_63 ?_
  refine V_nz (fun z27 ez27 => ?_)
  have hf := hf z27 ez27
  refine V_goto (tgt := 122) dX12_drawsPerson_64 (by decide) ?_
  exact V_return dX12_drawsPerson_122 rfl (Nat.le_refl 0) (kN_of hf)
def wX12_drawsPerson_J35 (n : Nat) (sh : Nat → Nat × Nat) (P : gS → Prop) (a0 : Nat) (x1 : Int32) (x3 : Int32) (s0 : Int32) (z : gS) : Prop := (oO n sh a0 8) ∧ (∃ t22 : Nat, gr z a0 24 = some t22 ∧ (wX12_within n sh s0 (0 : Int32) (9 : Int32) z (fun (r23 : Int32) (z24 : gS) => if r23 = 0 then wX12_drawsPerson_J63 n sh P x3 ((1453 : Int32) + x1) t22 z24 else wX12_drawsPerson_J63 n sh P s0 ((1453 : Int32) + x1) t22 z24)))
set_option maxRecDepth 100000 in
set_option maxHeartbeats 4000000 in
theorem vX12_drawsPerson_J35 {E : gE} {n : Nat} {sh : Nat → Nat × Nat} {P : gS → Prop} {a0 : Nat} {x1 : Int32} {x3 : Int32} {s0 : Int32} {z : gS} (hn : n ≤ 1000000) (hf : wX12_drawsPerson_J35 n sh P a0 x1 x3 s0 z) : V E (gR 5 0) gyX12_drawsPerson 0 0 35 [(0, .ref a0), (1, .int x1), (3, .int x3)] [.int s0] n sh z (kN n sh P) := by
  unfold wX12_drawsPerson_J35 at hf
  refine V_istore (ls2 := [(4, .int s0), (0, .ref a0), (1, .int x1), (3, .int x3)]) dX12_drawsPerson_35 (by decide) rfl ?_
  refine V_aload_n (j := 1) dX12_drawsPerson_37 rfl rfl ?_
  obtain ⟨h21, hf⟩ := hf
  obtain ⟨t22, et22, hf⟩ := hf
  refine V_getR fl_X12_119 rfl h21.1 h21.2 et22 dX12_drawsPerson_38 ?_
  refine V_sipush (v := (1453 : Int32)) dX12_drawsPerson_41 (by decide) ?_
  refine V_iload_n (j := 2) dX12_drawsPerson_44 rfl rfl ?_
  refine V_iadd dX12_drawsPerson_45 ?_
  refine V_iload (j := 0) dX12_drawsPerson_46 rfl ?_
  refine V_iconst (v := (0 : Int32)) dX12_drawsPerson_48 (by decide) ?_
  refine V_bipush (v := (9 : Int32)) dX12_drawsPerson_49 (by decide) ?_
  refine V_cSI (ctX12_within hn hf) gc_X12_198 rfl ⟨by decide, by decide, Nat.zero_le _, Nat.zero_le _⟩ (Nat.le_of_ble_eq_true rfl) dX12_drawsPerson_51 rfl hn (fun r23 z24 hf => ?_)
  refine V_if_eq (tgt := 62) dX12_drawsPerson_54 (by decide) (fun h28 => ?_) (fun h28 => ?_)
  · have hf := it_t h28 hf
    refine V_iload_n (j := 3) dX12_drawsPerson_62 rfl rfl ?_
    refine V_to [] rfl ?_
    exact vX12_drawsPerson_J63 hn hf
  · have hf := it_f h28 hf
    refine V_iload (j := 0) dX12_drawsPerson_57 rfl ?_
    refine V_goto (tgt := 63) dX12_drawsPerson_59 (by decide) ?_
    refine V_to [] rfl ?_
    exact vX12_drawsPerson_J63 hn hf
def wX12_drawsPerson (n : Nat) (sh : Nat → Nat × Nat) (a0 : Nat) (x1 : Int32) (z : gS) (P : gS → Prop) : Prop := (oO n sh a0 8) ∧ (wX12_draw n sh a0 (3 : Int32) z (fun (r1 : Int32) (z2 : gS) => ∃ t4 : Nat, gr z2 a0 24 = some t4 ∧ ((oA n sh t4 1) ∧ ((vp_in ((1453 : Int32) + x1) (sh t4).2) ∧ (∀ v7 : Int32, v7 = (gi z2 t4 ((1453 : Int32) + x1).toNatClampNeg) → (if (2 : Int32) ≤ r1 then (wX12_deeds n sh a0 z2 (fun (r8 : Int32) (z9 : gS) => if r8 ≤ 0 then P z9 else (wX12_deeds n sh a0 z9 (fun (r10 : Int32) (z11 : gS) => wX12_draw n sh a0 r10 z11 (fun (r12 : Int32) (z13 : gS) => wX12_does n sh a0 (1452 : Int32) x1 r12 v7 z13 (fun (r14 : Int32) (z15 : gS) => ∀ z16 : gS, z16 = si z15 a0 29 ((gi z15 a0 29) + (1 : Int32)) → (if r14 = 0 then wX12_drawsPerson_J118 n sh P (1 : Int32) (gi z16 a0 30) a0 z16 else wX12_drawsPerson_J118 n sh P (0 : Int32) (gi z16 a0 30) a0 z16))))))) else (if r1 = 0 then wX12_drawsPerson_J35 n sh P a0 x1 v7 (v7 - (1 : Int32)) z2 else wX12_drawsPerson_J35 n sh P a0 x1 v7 (v7 + (1 : Int32)) z2)))))))
set_option maxRecDepth 100000 in
set_option maxHeartbeats 4000000 in
theorem ctX12_drawsPerson {E : gE} {n : Nat} {sh : Nat → Nat × Nat} {a0 : Nat} {x1 : Int32} {z : gS} {P : gS → Prop} (hn : n ≤ 1000000) (hf : wX12_drawsPerson n sh a0 x1 z P) : VM E 5 0 gyX12_drawsPerson [.ref a0, .int x1] n sh z (kN n sh P) := by
  unfold wX12_drawsPerson at hf
  refine VM.of (by decide +kernel) (Nat.le_of_ble_eq_true rfl) ?_
  show V E (gR 5 0) gyX12_drawsPerson 0 0 0 [(0, .ref a0), (1, .int x1)] [] n sh z (kN n sh P)
  refine V_aload_n (j := 0) dX12_drawsPerson_0 rfl rfl ?_
  refine V_iconst (v := (3 : Int32)) dX12_drawsPerson_1 (by decide) ?_
  obtain ⟨h3, hf⟩ := hf
  refine V_cVI (ctX12_draw hn hf) gc_X12_402 rfl h3.1 ⟨_, h3.2, by decide, rfl⟩ ⟨by decide, by decide, Nat.zero_le _, Nat.zero_le _⟩ (Nat.le_of_ble_eq_true rfl) dX12_drawsPerson_2 rfl hn (fun r1 z2 hf => ?_)
  refine V_istore_n (ls2 := [(2, .int r1), (0, .ref a0), (1, .int x1)]) dX12_drawsPerson_5 rfl (by decide) rfl ?_
  refine V_aload_n (j := 1) dX12_drawsPerson_6 rfl rfl ?_
  obtain ⟨t4, et4, hf⟩ := hf
  refine V_getR fl_X12_119 rfl h3.1 h3.2 et4 dX12_drawsPerson_7 ?_
  refine V_sipush (v := (1453 : Int32)) dX12_drawsPerson_10 (by decide) ?_
  refine V_iload_n (j := 2) dX12_drawsPerson_13 rfl rfl ?_
  refine V_iadd dX12_drawsPerson_14 ?_
  obtain ⟨h5, hf⟩ := hf
  obtain ⟨h6, hf⟩ := hf
  refine V_iald h5.1 h5.s h6 dX12_drawsPerson_15 ?_
  refine V_nI (fun v7 ev7 => ?_)
  have hf := hf v7 ev7
  refine V_istore_n (ls2 := [(3, .int v7), (2, .int r1), (0, .ref a0), (1, .int x1)]) dX12_drawsPerson_16 rfl (by decide) rfl ?_
  refine V_iload_n (j := 1) dX12_drawsPerson_17 rfl rfl ?_
  refine V_iconst (v := (2 : Int32)) dX12_drawsPerson_18 (by decide) ?_
  refine V_icmp_ge (tgt := 67) dX12_drawsPerson_19 (by decide) (fun h30 => ?_) (fun h30 => ?_)
  · have hf := it_t h30 hf
    refine V_aload_n (j := 2) dX12_drawsPerson_67 rfl rfl ?_
    refine V_cVI (ctX12_deeds hn hf) gc_X12_281 rfl h3.1 ⟨_, h3.2, by decide, rfl⟩ ⟨by decide, by decide, Nat.zero_le _, Nat.zero_le _⟩ (Nat.le_of_ble_eq_true rfl) dX12_drawsPerson_68 rfl hn (fun r8 z9 hf => ?_)
    refine V_if_le (tgt := 122) dX12_drawsPerson_71 (by decide) (fun h20 => ?_) (fun h20 => ?_)
    · have hf := it_t h20 hf
      exact V_return dX12_drawsPerson_122 rfl (Nat.le_refl 0) (kN_of hf)
    · have hf := it_f h20 hf
      refine V_aload_n (j := 2) dX12_drawsPerson_74 rfl rfl ?_
      refine V_sipush (v := (1452 : Int32)) dX12_drawsPerson_75 (by decide) ?_
      refine V_iload_n (j := 3) dX12_drawsPerson_78 rfl rfl ?_
      refine V_aload_n (j := 2) dX12_drawsPerson_79 rfl rfl ?_
      refine V_aload_n (j := 2) dX12_drawsPerson_80 rfl rfl ?_
      refine V_cVI (ctX12_deeds hn hf) gc_X12_281 rfl h3.1 ⟨_, h3.2, by decide, rfl⟩ ⟨by decide, by decide, Nat.zero_le _, Nat.zero_le _⟩ (Nat.le_of_ble_eq_true rfl) dX12_drawsPerson_81 rfl hn (fun r10 z11 hf => ?_)
      refine V_cVI (ctX12_draw hn hf) gc_X12_402 rfl h3.1 ⟨_, h3.2, by decide, rfl⟩ ⟨by decide, by decide, Nat.zero_le _, Nat.zero_le _⟩ (Nat.le_of_ble_eq_true rfl) dX12_drawsPerson_84 rfl hn (fun r12 z13 hf => ?_)
      refine V_iload_n (j := 0) dX12_drawsPerson_87 rfl rfl ?_
      refine V_cVI (ctX12_does hn hf) gc_X12_355 rfl h3.1 ⟨_, h3.2, by decide, rfl⟩ ⟨by decide, by decide, Nat.zero_le _, Nat.zero_le _⟩ (Nat.le_of_ble_eq_true rfl) dX12_drawsPerson_88 rfl hn (fun r14 z15 hf => ?_)
      refine V_istore (ls2 := [(4, .int r14), (3, .int v7), (2, .int r1), (0, .ref a0), (1, .int x1)]) dX12_drawsPerson_91 (by decide) rfl ?_
      refine V_aload_n (j := 3) dX12_drawsPerson_93 rfl rfl ?_
      refine V_dup dX12_drawsPerson_94 rfl ?_
      refine V_getI fl_X12_405 rfl h3.1 h3.2 dX12_drawsPerson_95 ?_
      refine V_iconst (v := (1 : Int32)) dX12_drawsPerson_98 (by decide) ?_
      refine V_iadd dX12_drawsPerson_99 ?_
      refine V_putI fl_X12_405 rfl rfl rfl rfl h3.1 h3.2 dX12_drawsPerson_100 ?_
      refine V_nz (fun z16 ez16 => ?_)
      have hf := hf z16 ez16
      refine V_aload_n (j := 3) dX12_drawsPerson_103 rfl rfl ?_
      refine V_dup dX12_drawsPerson_104 rfl ?_
      refine V_getI fl_X12_408 rfl h3.1 h3.2 dX12_drawsPerson_105 ?_
      refine V_iload (j := 0) dX12_drawsPerson_108 rfl ?_
      refine V_if_ne (tgt := 117) dX12_drawsPerson_110 (by decide) (fun h19 => ?_) (fun h19 => ?_)
      · have hf := it_f h19 hf
        refine V_iconst (v := (0 : Int32)) dX12_drawsPerson_117 (by decide) ?_
        refine V_to [] rfl ?_
        exact vX12_drawsPerson_J118 hn hf
      · have hf := it_t (Classical.not_not.mp h19) hf
        refine V_iconst (v := (1 : Int32)) dX12_drawsPerson_113 (by decide) ?_
        refine V_goto (tgt := 118) dX12_drawsPerson_114 (by decide) ?_
        refine V_to [] rfl ?_
        exact vX12_drawsPerson_J118 hn hf
  · have hf := it_f h30 hf
    refine V_iload_n (j := 1) dX12_drawsPerson_22 rfl rfl ?_
    refine V_if_ne (tgt := 32) dX12_drawsPerson_23 (by decide) (fun h29 => ?_) (fun h29 => ?_)
    · have hf := it_f h29 hf
      refine V_iload_n (j := 0) dX12_drawsPerson_32 rfl rfl ?_
      refine V_iconst (v := (1 : Int32)) dX12_drawsPerson_33 (by decide) ?_
      refine V_iadd dX12_drawsPerson_34 ?_
      refine V_to [2, 3, 0] rfl ?_
      exact vX12_drawsPerson_J35 hn hf
    · have hf := it_t (Classical.not_not.mp h29) hf
      refine V_iload_n (j := 0) dX12_drawsPerson_26 rfl rfl ?_
      refine V_iconst (v := (1 : Int32)) dX12_drawsPerson_27 (by decide) ?_
      refine V_isub dX12_drawsPerson_28 ?_
      refine V_goto (tgt := 35) dX12_drawsPerson_29 (by decide) ?_
      refine V_to [2, 3, 0] rfl ?_
      exact vX12_drawsPerson_J35 hn hf
def wX12_years_J153 (n : Nat) (sh : Nat → Nat × Nat) (k66 : Nat → Int32 → Int32 → Int32 → gS → Prop) (P : Int32 → gS → Prop) (a0 : Nat) (x2 : Int32) (x3 : Int32) (x4 : Int32) (z : gS) : Prop := (oO n sh a0 8) ∧ (wX12_passes n sh a0 (1452 : Int32) z (fun (r26 : Int32) (z27 : gS) => ∀ v29 : Int32, v29 = x4 + (1 : Int32) → k66 a0 x2 x3 v29 z27))
set_option maxRecDepth 100000 in
set_option maxHeartbeats 4000000 in
theorem vX12_years_J153 {E : gE} {n : Nat} {sh : Nat → Nat × Nat} {P : Int32 → gS → Prop} {k66 : Nat → Int32 → Int32 → Int32 → gS → Prop} {a0 : Nat} {x2 : Int32} {x3 : Int32} {x4 : Int32} {z : gS} (hn : n ≤ 1000000) (hk66 : ∀ (a0 : Nat) (x2 : Int32) (x3 : Int32) (x4 : Int32) (z : gS), k66 a0 x2 x3 x4 z → V E (gR 6 0) gyX12_years 0 0 66 [(0, .ref a0), (2, .int x2), (3, .int x3), (4, .int x4)] [] n sh z (kI n sh P)) (hf : wX12_years_J153 n sh k66 P a0 x2 x3 x4 z) : V E (gR 6 0) gyX12_years 0 0 153 [(0, .ref a0), (2, .int x2), (3, .int x3), (4, .int x4)] [] n sh z (kI n sh P) := by
  unfold wX12_years_J153 at hf
  refine V_aload_n (j := 0) dX12_years_153 rfl rfl ?_
  refine V_sipush (v := (1452 : Int32)) dX12_years_154 (by decide) ?_
  obtain ⟨h28, hf⟩ := hf
  refine V_cVI (ctX12_passes hn hf) gc_X12_361 rfl h28.1 ⟨_, h28.2, by decide, rfl⟩ ⟨by decide, by decide, Nat.zero_le _, Nat.zero_le _⟩ (Nat.le_of_ble_eq_true rfl) dX12_years_157 rfl hn (fun r26 z27 hf => ?_)
  refine V_pop dX12_years_160 rfl ?_
  obtain ⟨v29, ev29⟩ : ∃ y : Int32, y = x4 + (1 : Int32) := ⟨_, rfl⟩
  refine V_iinc (j := 3) (v := v29) (ls2 := [(4, .int v29), (0, .ref a0), (2, .int x2), (3, .int x3)]) dX12_years_161 rfl (by rw [ev29]; rfl) (by decide) rfl ?_
  have hf := hf v29 ev29
  refine V_goto (tgt := 66) dX12_years_164 (by decide) ?_
  refine V_to [1, 2, 3, 0] rfl ?_
  exact hk66 _ _ _ _ _ hf
def wX12_years_J151 (n : Nat) (sh : Nat → Nat × Nat) (k66 : Nat → Int32 → Int32 → Int32 → gS → Prop) (P : Int32 → gS → Prop) (a0 : Nat) (x2 : Int32) (x3 : Int32) (x4 : Int32) (s0 : Int32) (s1 : Int32) (s2 : Int32) (s3 : Nat) (z : gS) : Prop := (oA n sh s3 1) ∧ ((vp_in s2 (sh s3).2) ∧ (∀ z43 : gS, z43 = si z s3 s2.toNatClampNeg (s1 - s0) → wX12_years_J153 n sh k66 P a0 x2 x3 x4 z43))
set_option maxRecDepth 100000 in
set_option maxHeartbeats 4000000 in
theorem vX12_years_J151 {E : gE} {n : Nat} {sh : Nat → Nat × Nat} {P : Int32 → gS → Prop} {k66 : Nat → Int32 → Int32 → Int32 → gS → Prop} {a0 : Nat} {x2 : Int32} {x3 : Int32} {x4 : Int32} {s0 : Int32} {s1 : Int32} {s2 : Int32} {s3 : Nat} {z : gS} (hn : n ≤ 1000000) (hk66 : ∀ (a0 : Nat) (x2 : Int32) (x3 : Int32) (x4 : Int32) (z : gS), k66 a0 x2 x3 x4 z → V E (gR 6 0) gyX12_years 0 0 66 [(0, .ref a0), (2, .int x2), (3, .int x3), (4, .int x4)] [] n sh z (kI n sh P)) (hf : wX12_years_J151 n sh k66 P a0 x2 x3 x4 s0 s1 s2 s3 z) : V E (gR 6 0) gyX12_years 0 0 151 [(0, .ref a0), (2, .int x2), (3, .int x3), (4, .int x4)] [.int s0, .int s1, .int s2, .ref s3] n sh z (kI n sh P) := by
  unfold wX12_years_J151 at hf
  refine V_isub dX12_years_151 ?_
  obtain ⟨h41, hf⟩ := hf
  obtain ⟨h42, hf⟩ := hf
  refine V_iast h41.1 h41.s h42 dX12_years_152 ?_
  refine V_nz (fun z43 ez43 => ?_)
  have hf := hf z43 ez43
  exact vX12_years_J153 hn hk66 hf
def wX12_years_B75 (n : Nat) (sh : Nat → Nat × Nat) (k66 : Nat → Int32 → Int32 → Int32 → gS → Prop) (k75 : Nat → Int32 → Int32 → Int32 → Int32 → gS → Prop) (P : Int32 → gS → Prop) (a0 : Nat) (x2 : Int32) (x3 : Int32) (x4 : Int32) (x5 : Int32) (z : gS) : Prop := (oO n sh a0 8) ∧ (wX12_people n sh a0 z (fun (r21 : Int32) (z22 : gS) => if r21 ≤ x5 then (wX12_panes n sh a0 z22 (fun (r24 : Int32) (z25 : gS) => if r24 ≤ 0 then wX12_years_J153 n sh k66 P a0 x2 x3 x4 z25 else (wX12_draw n sh a0 (9 : Int32) z25 (fun (r30 : Int32) (z31 : gS) => if r30 = 0 then (wX12_panes n sh a0 z31 (fun (r32 : Int32) (z33 : gS) => wX12_draw n sh a0 r32 z33 (fun (r34 : Int32) (z35 : gS) => ∃ t36 : Nat, gr z35 a0 24 = some t36 ∧ ((oA n sh t36 1) ∧ ((vp_in ((1470 : Int32) + r34) (sh t36).2) ∧ (wX12_mayWash n sh a0 (1452 : Int32) r34 z35 (fun (r39 : Int32) (z40 : gS) => if r39 = 0 then wX12_years_J151 n sh k66 P a0 x2 x3 x4 (0 : Int32) (gi z35 t36 ((1470 : Int32) + r34).toNatClampNeg) ((1470 : Int32) + r34) t36 z40 else wX12_years_J151 n sh k66 P a0 x2 x3 x4 (1 : Int32) (gi z35 t36 ((1470 : Int32) + r34).toNatClampNeg) ((1470 : Int32) + r34) t36 z40))))))) else wX12_years_J153 n sh k66 P a0 x2 x3 x4 z31)))) else (wX12_drawsPerson n sh a0 x5 z22 (fun (z48 : gS) => ∀ v49 : Int32, v49 = x5 + (1 : Int32) → k75 a0 x2 x3 x4 v49 z48))))
def wX12_years_L75 (n : Nat) (sh : Nat → Nat × Nat) (k66 : Nat → Int32 → Int32 → Int32 → gS → Prop) (P : Int32 → gS → Prop) : Nat → Nat → Int32 → Int32 → Int32 → Int32 → gS → Prop
  | 0, _, _, _, _, _, _ => False
  | N + 1, a0, x2, x3, x4, x5, z => wX12_years_B75 n sh k66 (wX12_years_L75 n sh k66 P N) P a0 x2 x3 x4 x5 z
set_option maxRecDepth 100000 in
set_option maxHeartbeats 4000000 in
theorem vX12_years_B75 {E : gE} {n : Nat} {sh : Nat → Nat × Nat} {P : Int32 → gS → Prop} {k66 : Nat → Int32 → Int32 → Int32 → gS → Prop} {k75 : Nat → Int32 → Int32 → Int32 → Int32 → gS → Prop} {a0 : Nat} {x2 : Int32} {x3 : Int32} {x4 : Int32} {x5 : Int32} {z : gS} (hn : n ≤ 1000000) (hk66 : ∀ (a0 : Nat) (x2 : Int32) (x3 : Int32) (x4 : Int32) (z : gS), k66 a0 x2 x3 x4 z → V E (gR 6 0) gyX12_years 0 0 66 [(0, .ref a0), (2, .int x2), (3, .int x3), (4, .int x4)] [] n sh z (kI n sh P)) (hk75 : ∀ (a0 : Nat) (x2 : Int32) (x3 : Int32) (x4 : Int32) (x5 : Int32) (z : gS), k75 a0 x2 x3 x4 x5 z → V E (gR 6 0) gyX12_years 0 0 75 [(0, .ref a0), (2, .int x2), (3, .int x3), (4, .int x4), (5, .int x5)] [] n sh z (kI n sh P)) (hf : wX12_years_B75 n sh k66 k75 P a0 x2 x3 x4 x5 z) : V E (gR 6 0) gyX12_years 0 0 75 [(0, .ref a0), (2, .int x2), (3, .int x3), (4, .int x4), (5, .int x5)] [] n sh z (kI n sh P) := by
  unfold wX12_years_B75 at hf
  refine V_iload (j := 4) dX12_years_75 rfl ?_
  refine V_aload_n (j := 0) dX12_years_77 rfl rfl ?_
  obtain ⟨h23, hf⟩ := hf
  refine V_cVI (ctX12_people hn hf) gc_X12_265 rfl h23.1 ⟨_, h23.2, by decide, rfl⟩ ⟨by decide, by decide, Nat.zero_le _, Nat.zero_le _⟩ (Nat.le_of_ble_eq_true rfl) dX12_years_78 rfl hn (fun r21 z22 hf => ?_)
  refine V_icmp_ge (tgt := 96) dX12_years_81 (by decide) (fun h50 => ?_) (fun h50 => ?_)
  · have hf := it_t h50 hf
    refine V_aload_n (j := 0) dX12_years_96 rfl rfl ?_
    refine V_cVI (ctX12_panes hn hf) gc_X12_278 rfl h23.1 ⟨_, h23.2, by decide, rfl⟩ ⟨by decide, by decide, Nat.zero_le _, Nat.zero_le _⟩ (Nat.le_of_ble_eq_true rfl) dX12_years_97 rfl hn (fun r24 z25 hf => ?_)
    refine V_if_le (tgt := 153) dX12_years_100 (by decide) (fun h46 => ?_) (fun h46 => ?_)
    · have hf := it_t h46 hf
      refine V_to [0, 1, 2, 3] rfl ?_
      exact vX12_years_J153 hn hk66 hf
    · have hf := it_f h46 hf
      refine V_aload_n (j := 0) dX12_years_103 rfl rfl ?_
      refine V_bipush (v := (9 : Int32)) dX12_years_104 (by decide) ?_
      refine V_cVI (ctX12_draw hn hf) gc_X12_402 rfl h23.1 ⟨_, h23.2, by decide, rfl⟩ ⟨by decide, by decide, Nat.zero_le _, Nat.zero_le _⟩ (Nat.le_of_ble_eq_true rfl) dX12_years_106 rfl hn (fun r30 z31 hf => ?_)
      refine V_if_ne (tgt := 153) dX12_years_109 (by decide) (fun h45 => ?_) (fun h45 => ?_)
      · have hf := it_f h45 hf
        refine V_to [0, 1, 2, 3] rfl ?_
        exact vX12_years_J153 hn hk66 hf
      · have hf := it_t (Classical.not_not.mp h45) hf
        refine V_aload_n (j := 0) dX12_years_112 rfl rfl ?_
        refine V_aload_n (j := 0) dX12_years_113 rfl rfl ?_
        refine V_cVI (ctX12_panes hn hf) gc_X12_278 rfl h23.1 ⟨_, h23.2, by decide, rfl⟩ ⟨by decide, by decide, Nat.zero_le _, Nat.zero_le _⟩ (Nat.le_of_ble_eq_true rfl) dX12_years_114 rfl hn (fun r32 z33 hf => ?_)
        refine V_cVI (ctX12_draw hn hf) gc_X12_402 rfl h23.1 ⟨_, h23.2, by decide, rfl⟩ ⟨by decide, by decide, Nat.zero_le _, Nat.zero_le _⟩ (Nat.le_of_ble_eq_true rfl) dX12_years_117 rfl hn (fun r34 z35 hf => ?_)
        refine V_istore (ls2 := [(5, .int r34), (0, .ref a0), (2, .int x2), (3, .int x3), (4, .int x4)]) dX12_years_120 (by decide) rfl ?_
        refine V_aload_n (j := 1) dX12_years_122 rfl rfl ?_
        obtain ⟨t36, et36, hf⟩ := hf
        refine V_getR fl_X12_119 rfl h23.1 h23.2 et36 dX12_years_123 ?_
        refine V_sipush (v := (1470 : Int32)) dX12_years_126 (by decide) ?_
        refine V_iload (j := 0) dX12_years_129 rfl ?_
        refine V_iadd dX12_years_131 ?_
        refine V_dup2 dX12_years_132 rfl rfl ?_
        obtain ⟨h37, hf⟩ := hf
        obtain ⟨h38, hf⟩ := hf
        refine V_iald h37.1 h37.s h38 dX12_years_133 ?_
        refine V_aload_n (j := 1) dX12_years_134 rfl rfl ?_
        refine V_sipush (v := (1452 : Int32)) dX12_years_135 (by decide) ?_
        refine V_iload (j := 0) dX12_years_138 rfl ?_
        refine V_cVI (ctX12_mayWash hn hf) gc_X12_358 rfl h23.1 ⟨_, h23.2, by decide, rfl⟩ ⟨by decide, by decide, Nat.zero_le _, Nat.zero_le _⟩ (Nat.le_of_ble_eq_true rfl) dX12_years_140 rfl hn (fun r39 z40 hf => ?_)
        refine V_if_eq (tgt := 150) dX12_years_143 (by decide) (fun h44 => ?_) (fun h44 => ?_)
        · have hf := it_t h44 hf
          refine V_iconst (v := (0 : Int32)) dX12_years_150 (by decide) ?_
          refine V_to [1, 2, 3, 4] rfl ?_
          exact vX12_years_J151 hn hk66 hf
        · have hf := it_f h44 hf
          refine V_iconst (v := (1 : Int32)) dX12_years_146 (by decide) ?_
          refine V_goto (tgt := 151) dX12_years_147 (by decide) ?_
          refine V_to [1, 2, 3, 4] rfl ?_
          exact vX12_years_J151 hn hk66 hf
  · have hf := it_f h50 hf
    refine V_aload_n (j := 0) dX12_years_84 rfl rfl ?_
    refine V_iload (j := 4) dX12_years_85 rfl ?_
    refine V_cVN (ctX12_drawsPerson hn hf) gc_X12_411 rfl h23.1 ⟨_, h23.2, by decide, rfl⟩ ⟨by decide, by decide, Nat.zero_le _, Nat.zero_le _⟩ (Nat.le_of_ble_eq_true rfl) dX12_years_87 rfl hn (fun z48 hf => ?_)
    obtain ⟨v49, ev49⟩ : ∃ y : Int32, y = x5 + (1 : Int32) := ⟨_, rfl⟩
    refine V_iinc (j := 4) (v := v49) (ls2 := [(5, .int v49), (0, .ref a0), (2, .int x2), (3, .int x3), (4, .int x4)]) dX12_years_90 rfl (by rw [ev49]; rfl) (by decide) rfl ?_
    have hf := hf v49 ev49
    refine V_goto (tgt := 75) dX12_years_93 (by decide) ?_
    refine V_to [1, 2, 3, 4, 0] rfl ?_
    exact hk75 _ _ _ _ _ _ hf
set_option maxRecDepth 100000 in
set_option maxHeartbeats 4000000 in
theorem vX12_years_L75 {E : gE} {n : Nat} {sh : Nat → Nat × Nat} {P : Int32 → gS → Prop} {k66 : Nat → Int32 → Int32 → Int32 → gS → Prop} (hn : n ≤ 1000000) (hk66 : ∀ (a0 : Nat) (x2 : Int32) (x3 : Int32) (x4 : Int32) (z : gS), k66 a0 x2 x3 x4 z → V E (gR 6 0) gyX12_years 0 0 66 [(0, .ref a0), (2, .int x2), (3, .int x3), (4, .int x4)] [] n sh z (kI n sh P)) : ∀ (N : Nat) (a0 : Nat) (x2 : Int32) (x3 : Int32) (x4 : Int32) (x5 : Int32) (z : gS), wX12_years_L75 n sh k66 P N a0 x2 x3 x4 x5 z → V E (gR 6 0) gyX12_years 0 0 75 [(0, .ref a0), (2, .int x2), (3, .int x3), (4, .int x4), (5, .int x5)] [] n sh z (kI n sh P) := by
  intro N
  induction N with
  | zero => intro a0 x2 x3 x4 x5 z hf; exact False.elim hf
  | succ N ih => intro a0 x2 x3 x4 x5 z hf; exact vX12_years_B75 hn hk66 ih hf
def wX12_years_B66 (n : Nat) (sh : Nat → Nat × Nat) (k66 : Nat → Int32 → Int32 → Int32 → gS → Prop) (P : Int32 → gS → Prop) (a0 : Nat) (x2 : Int32) (x3 : Int32) (x4 : Int32) (z : gS) : Prop := if x2 ≤ x4 then (if x3 = 0 then ((oO n sh a0 8) ∧ P (gi z a0 29) z) else (if x3 = (1 : Int32) then ((oO n sh a0 8) ∧ P (gi z a0 30) z) else ((oO n sh a0 8) ∧ (wX12_harmShown n sh a0 (1452 : Int32) (-1 : Int32) (6 : Int32) z (fun (r14 : Int32) (z15 : gS) => P r14 z15))))) else ((∃ N, wX12_years_L75 n sh k66 P N a0 x2 x3 x4 (0 : Int32) z))
def wX12_years_L66 (n : Nat) (sh : Nat → Nat × Nat) (P : Int32 → gS → Prop) : Nat → Nat → Int32 → Int32 → Int32 → gS → Prop
  | 0, _, _, _, _, _ => False
  | N + 1, a0, x2, x3, x4, z => wX12_years_B66 n sh (wX12_years_L66 n sh P N) P a0 x2 x3 x4 z
set_option maxRecDepth 100000 in
set_option maxHeartbeats 4000000 in
theorem vX12_years_B66 {E : gE} {n : Nat} {sh : Nat → Nat × Nat} {P : Int32 → gS → Prop} {k66 : Nat → Int32 → Int32 → Int32 → gS → Prop} {a0 : Nat} {x2 : Int32} {x3 : Int32} {x4 : Int32} {z : gS} (hn : n ≤ 1000000) (hk66 : ∀ (a0 : Nat) (x2 : Int32) (x3 : Int32) (x4 : Int32) (z : gS), k66 a0 x2 x3 x4 z → V E (gR 6 0) gyX12_years 0 0 66 [(0, .ref a0), (2, .int x2), (3, .int x3), (4, .int x4)] [] n sh z (kI n sh P)) (hf : wX12_years_B66 n sh k66 P a0 x2 x3 x4 z) : V E (gR 6 0) gyX12_years 0 0 66 [(0, .ref a0), (2, .int x2), (3, .int x3), (4, .int x4)] [] n sh z (kI n sh P) := by
  unfold wX12_years_B66 at hf
  refine V_iload (j := 3) dX12_years_66 rfl ?_
  refine V_iload_n (j := 1) dX12_years_68 rfl rfl ?_
  refine V_icmp_ge (tgt := 167) dX12_years_69 (by decide) (fun h51 => ?_) (fun h51 => ?_)
  · have hf := it_t h51 hf
    refine V_iload_n (j := 2) dX12_years_167 rfl rfl ?_
    refine V_if_ne (tgt := 178) dX12_years_168 (by decide) (fun h20 => ?_) (fun h20 => ?_)
    · have hf := it_f h20 hf
      refine V_iload_n (j := 2) dX12_years_178 rfl rfl ?_
      refine V_iconst (v := (1 : Int32)) dX12_years_179 (by decide) ?_
      refine V_icmp_ne (tgt := 190) dX12_years_180 (by decide) (fun h18 => ?_) (fun h18 => ?_)
      · have hf := it_f h18 hf
        refine V_aload_n (j := 0) dX12_years_190 rfl rfl ?_
        refine V_sipush (v := (1452 : Int32)) dX12_years_191 (by decide) ?_
        refine V_iconst (v := (-1 : Int32)) dX12_years_194 (by decide) ?_
        refine V_bipush (v := (6 : Int32)) dX12_years_195 (by decide) ?_
        obtain ⟨h16, hf⟩ := hf
        refine V_cVI (ctX12_harmShown hn hf) gc_X12_371 rfl h16.1 ⟨_, h16.2, by decide, rfl⟩ ⟨by decide, by decide, Nat.zero_le _, Nat.zero_le _⟩ (Nat.le_of_ble_eq_true rfl) dX12_years_197 rfl hn (fun r14 z15 hf => ?_)
        exact V_ireturn dX12_years_200 rfl rfl (Nat.le_refl 0) (kI_of hf)
      · have hf := it_t (Classical.not_not.mp h18) hf
        refine V_aload_n (j := 0) dX12_years_183 rfl rfl ?_
        obtain ⟨h17, hf⟩ := hf
        refine V_getI fl_X12_408 rfl h17.1 h17.2 dX12_years_184 ?_
        refine V_goto (tgt := 200) dX12_years_187 (by decide) ?_
        exact V_ireturn dX12_years_200 rfl rfl (Nat.le_refl 0) (kI_of hf)
    · have hf := it_t (Classical.not_not.mp h20) hf
      refine V_aload_n (j := 0) dX12_years_171 rfl rfl ?_
      obtain ⟨h19, hf⟩ := hf
      refine V_getI fl_X12_405 rfl h19.1 h19.2 dX12_years_172 ?_
      refine V_goto (tgt := 200) dX12_years_175 (by decide) ?_
      exact V_ireturn dX12_years_200 rfl rfl (Nat.le_refl 0) (kI_of hf)
  · have hf := it_f h51 hf
    refine V_iconst (v := (0 : Int32)) dX12_years_72 (by decide) ?_
    refine V_istore (ls2 := [(5, .int (0 : Int32)), (0, .ref a0), (2, .int x2), (3, .int x3), (4, .int x4)]) dX12_years_73 (by decide) rfl ?_
    obtain ⟨N, hf⟩ := hf
    refine V_to [1, 2, 3, 4, 0] rfl ?_
    exact vX12_years_L75 hn hk66 N _ _ _ _ _ _ hf
set_option maxRecDepth 100000 in
set_option maxHeartbeats 4000000 in
theorem vX12_years_L66 {E : gE} {n : Nat} {sh : Nat → Nat × Nat} {P : Int32 → gS → Prop} (hn : n ≤ 1000000) : ∀ (N : Nat) (a0 : Nat) (x2 : Int32) (x3 : Int32) (x4 : Int32) (z : gS), wX12_years_L66 n sh P N a0 x2 x3 x4 z → V E (gR 6 0) gyX12_years 0 0 66 [(0, .ref a0), (2, .int x2), (3, .int x3), (4, .int x4)] [] n sh z (kI n sh P) := by
  intro N
  induction N with
  | zero => intro a0 x2 x3 x4 z hf; exact False.elim hf
  | succ N ih => intro a0 x2 x3 x4 z hf; exact vX12_years_B66 hn ih hf
def wX12_years (n : Nat) (sh : Nat → Nat × Nat) (a0 : Nat) (x1 : Int32) (x2 : Int32) (x3 : Int32) (z : gS) (P : Int32 → gS → Prop) : Prop := (oO n sh a0 8) ∧ (∀ z2 : gS, z2 = si z a0 0 (0 : Int32) → (wX12_within n sh x1 (0 : Int32) (9999 : Int32) z2 (fun (r3 : Int32) (z4 : gS) => if r3 = 0 then P (-1 : Int32) z4 else (wX12_within n sh x2 (1 : Int32) (99 : Int32) z4 (fun (r5 : Int32) (z6 : gS) => if r5 = 0 then P (-1 : Int32) z6 else (wX12_within n sh x3 (0 : Int32) (2 : Int32) z6 (fun (r7 : Int32) (z8 : gS) => if r7 = 0 then P (-1 : Int32) z8 else (wX12_copies n sh a0 (0 : Int32) (1452 : Int32) (60 : Int32) z8 (fun (z10 : gS) => ∀ z11 : gS, z11 = sl z10 a0 28 x1.toInt64 → (∀ z12 : gS, z12 = si z11 a0 29 (0 : Int32) → (∀ z13 : gS, z13 = si z12 a0 30 (0 : Int32) → ((∃ N, wX12_years_L66 n sh P N a0 x2 x3 (0 : Int32) z13)))))))))))))
set_option maxRecDepth 100000 in
set_option maxHeartbeats 4000000 in
theorem ctX12_years {E : gE} {n : Nat} {sh : Nat → Nat × Nat} {a0 : Nat} {x1 : Int32} {x2 : Int32} {x3 : Int32} {z : gS} {P : Int32 → gS → Prop} (hn : n ≤ 1000000) (hf : wX12_years n sh a0 x1 x2 x3 z P) : VM E 6 0 gyX12_years [.ref a0, .int x1, .int x2, .int x3] n sh z (kI n sh P) := by
  unfold wX12_years at hf
  refine VM.of (by decide +kernel) (Nat.le_of_ble_eq_true rfl) ?_
  show V E (gR 6 0) gyX12_years 0 0 0 [(0, .ref a0), (1, .int x1), (2, .int x2), (3, .int x3)] [] n sh z (kI n sh P)
  refine V_aload_n (j := 0) dX12_years_0 rfl rfl ?_
  refine V_iconst (v := (0 : Int32)) dX12_years_1 (by decide) ?_
  obtain ⟨h1, hf⟩ := hf
  refine V_putI fl_X12_1 rfl rfl rfl rfl h1.1 h1.2 dX12_years_2 ?_
  refine V_nz (fun z2 ez2 => ?_)
  have hf := hf z2 ez2
  refine V_iload_n (j := 1) dX12_years_5 rfl rfl ?_
  refine V_iconst (v := (0 : Int32)) dX12_years_6 (by decide) ?_
  refine V_sipush (v := (9999 : Int32)) dX12_years_7 (by decide) ?_
  refine V_cSI (ctX12_within hn hf) gc_X12_198 rfl ⟨by decide, by decide, Nat.zero_le _, Nat.zero_le _⟩ (Nat.le_of_ble_eq_true rfl) dX12_years_10 rfl hn (fun r3 z4 hf => ?_)
  refine V_if_eq (tgt := 35) dX12_years_13 (by decide) (fun h54 => ?_) (fun h54 => ?_)
  · have hf := it_t h54 hf
    refine V_iconst (v := (-1 : Int32)) dX12_years_35 (by decide) ?_
    exact V_ireturn dX12_years_36 rfl rfl (Nat.le_refl 0) (kI_of hf)
  · have hf := it_f h54 hf
    refine V_iload_n (j := 2) dX12_years_16 rfl rfl ?_
    refine V_iconst (v := (1 : Int32)) dX12_years_17 (by decide) ?_
    refine V_bipush (v := (99 : Int32)) dX12_years_18 (by decide) ?_
    refine V_cSI (ctX12_within hn hf) gc_X12_198 rfl ⟨by decide, by decide, Nat.zero_le _, Nat.zero_le _⟩ (Nat.le_of_ble_eq_true rfl) dX12_years_20 rfl hn (fun r5 z6 hf => ?_)
    refine V_if_eq (tgt := 35) dX12_years_23 (by decide) (fun h53 => ?_) (fun h53 => ?_)
    · have hf := it_t h53 hf
      refine V_iconst (v := (-1 : Int32)) dX12_years_35 (by decide) ?_
      exact V_ireturn dX12_years_36 rfl rfl (Nat.le_refl 0) (kI_of hf)
    · have hf := it_f h53 hf
      refine V_iload_n (j := 3) dX12_years_26 rfl rfl ?_
      refine V_iconst (v := (0 : Int32)) dX12_years_27 (by decide) ?_
      refine V_iconst (v := (2 : Int32)) dX12_years_28 (by decide) ?_
      refine V_cSI (ctX12_within hn hf) gc_X12_198 rfl ⟨by decide, by decide, Nat.zero_le _, Nat.zero_le _⟩ (Nat.le_of_ble_eq_true rfl) dX12_years_29 rfl hn (fun r7 z8 hf => ?_)
      refine V_if_ne (tgt := 37) dX12_years_32 (by decide) (fun h52 => ?_) (fun h52 => ?_)
      · have hf := it_f h52 hf
        refine V_aload_n (j := 0) dX12_years_37 rfl rfl ?_
        refine V_iconst (v := (0 : Int32)) dX12_years_38 (by decide) ?_
        refine V_sipush (v := (1452 : Int32)) dX12_years_39 (by decide) ?_
        refine V_bipush (v := (60 : Int32)) dX12_years_42 (by decide) ?_
        refine V_cVN (ctX12_copies hn hf) gc_X12_275 rfl h1.1 ⟨_, h1.2, by decide, rfl⟩ ⟨by decide, by decide, Nat.zero_le _, Nat.zero_le _⟩ (Nat.le_of_ble_eq_true rfl) dX12_years_44 rfl hn (fun z10 hf => ?_)
        refine V_aload_n (j := 0) dX12_years_47 rfl rfl ?_
        refine V_iload_n (j := 1) dX12_years_48 rfl rfl ?_
        refine V_i2l dX12_years_49 ?_
        refine V_putL fl_X12_390 rfl rfl rfl rfl h1.1 h1.2 dX12_years_50 ?_
        refine V_nz (fun z11 ez11 => ?_)
        have hf := hf z11 ez11
        refine V_aload_n (j := 0) dX12_years_53 rfl rfl ?_
        refine V_iconst (v := (0 : Int32)) dX12_years_54 (by decide) ?_
        refine V_putI fl_X12_405 rfl rfl rfl rfl h1.1 h1.2 dX12_years_55 ?_
        refine V_nz (fun z12 ez12 => ?_)
        have hf := hf z12 ez12
        refine V_aload_n (j := 0) dX12_years_58 rfl rfl ?_
        refine V_iconst (v := (0 : Int32)) dX12_years_59 (by decide) ?_
        refine V_putI fl_X12_408 rfl rfl rfl rfl h1.1 h1.2 dX12_years_60 ?_
        refine V_nz (fun z13 ez13 => ?_)
        have hf := hf z13 ez13
        refine V_iconst (v := (0 : Int32)) dX12_years_63 (by decide) ?_
        refine V_istore (ls2 := [(4, .int (0 : Int32)), (0, .ref a0), (1, .int x1), (2, .int x2), (3, .int x3)]) dX12_years_64 (by decide) rfl ?_
        obtain ⟨N, hf⟩ := hf
        refine V_to [1, 3, 4, 0] rfl ?_
        exact vX12_years_L66 hn N _ _ _ _ _ hf
      · have hf := it_t (Classical.not_not.mp h52) hf
        refine V_iconst (v := (-1 : Int32)) dX12_years_35 (by decide) ?_
        exact V_ireturn dX12_years_36 rfl rfl (Nat.le_refl 0) (kI_of hf)
def wX12_notch_J83 (n : Nat) (sh : Nat → Nat × Nat) (P : Int32 → gS → Prop) (s0 : Int32) (s1 : Nat) (z : gS) : Prop := (oO n sh s1 8) ∧ (∀ z15 : gS, z15 = si z s1 25 s0 → P (1 : Int32) z15)
set_option maxRecDepth 100000 in
set_option maxHeartbeats 4000000 in
theorem vX12_notch_J83 {E : gE} {n : Nat} {sh : Nat → Nat × Nat} {P : Int32 → gS → Prop} {s0 : Int32} {s1 : Nat} {z : gS} (hn : n ≤ 1000000) (hf : wX12_notch_J83 n sh P s0 s1 z) : V E (gR 1 0) gyX12_notch 0 0 83 [] [.int s0, .ref s1] n sh z (kI n sh P) := by
  unfold wX12_notch_J83 at hf
  obtain ⟨h14, hf⟩ := hf
  refine V_putI fl_X12_272 rfl rfl rfl rfl h14.1 h14.2 dX12_notch_83 ?_
  refine V_nz (fun z15 ez15 => ?_)
  have hf := hf z15 ez15
  refine V_iconst (v := (1 : Int32)) dX12_notch_86 (by decide) ?_
  exact V_ireturn dX12_notch_87 rfl (by decide) (Nat.le_refl 0) (kI_of hf)
def wX12_notch_J65 (n : Nat) (sh : Nat → Nat × Nat) (P : Int32 → gS → Prop) (a0 : Nat) (x2 : Int32) (s0 : Int32) (s1 : Int32) (s2 : Nat) (z : gS) : Prop := (oO n sh s2 8) ∧ (wX12_copies n sh s2 s1 s0 (66 : Int32) z (fun (z11 : gS) => if x2 = 0 then ((oO n sh a0 8) ∧ wX12_notch_J83 n sh P (gi z11 a0 25) a0 z11) else wX12_notch_J83 n sh P (0 : Int32) a0 z11))
set_option maxRecDepth 100000 in
set_option maxHeartbeats 4000000 in
theorem vX12_notch_J65 {E : gE} {n : Nat} {sh : Nat → Nat × Nat} {P : Int32 → gS → Prop} {a0 : Nat} {x2 : Int32} {s0 : Int32} {s1 : Int32} {s2 : Nat} {z : gS} (hn : n ≤ 1000000) (hf : wX12_notch_J65 n sh P a0 x2 s0 s1 s2 z) : V E (gR 1 0) gyX12_notch 0 0 65 [(0, .ref a0), (2, .int x2)] [.int s0, .int s1, .ref s2] n sh z (kI n sh P) := by
  unfold wX12_notch_J65 at hf
  refine V_bipush (v := (66 : Int32)) dX12_notch_65 (by decide) ?_
  obtain ⟨h12, hf⟩ := hf
  refine V_cVN (ctX12_copies hn hf) gc_X12_275 rfl h12.1 ⟨_, h12.2, by decide, rfl⟩ ⟨by decide, by decide, Nat.zero_le _, Nat.zero_le _⟩ (Nat.le_of_ble_eq_true rfl) dX12_notch_67 rfl hn (fun z11 hf => ?_)
  refine V_aload_n (j := 0) dX12_notch_70 rfl rfl ?_
  refine V_iload_n (j := 1) dX12_notch_71 rfl rfl ?_
  refine V_if_eq (tgt := 79) dX12_notch_72 (by decide) (fun h16 => ?_) (fun h16 => ?_)
  · have hf := it_t h16 hf
    refine V_aload_n (j := 0) dX12_notch_79 rfl rfl ?_
    obtain ⟨h13, hf⟩ := hf
    refine V_getI fl_X12_272 rfl h13.1 h13.2 dX12_notch_80 ?_
    refine V_to [] rfl ?_
    exact vX12_notch_J83 hn hf
  · have hf := it_f h16 hf
    refine V_iconst (v := (0 : Int32)) dX12_notch_75 (by decide) ?_
    refine V_goto (tgt := 83) dX12_notch_76 (by decide) ?_
    refine V_to [] rfl ?_
    exact vX12_notch_J83 hn hf
def wX12_notch_J51 (n : Nat) (sh : Nat → Nat × Nat) (P : Int32 → gS → Prop) (a0 : Nat) (x1 : Int32) (x2 : Int32) (s0 : Int32) (s1 : Nat) (z : gS) : Prop := if x2 = 0 then wX12_notch_J65 n sh P a0 x2 ((66 : Int32) * ((1 : Int32) + x1)) s0 s1 z else wX12_notch_J65 n sh P a0 x2 (0 : Int32) s0 s1 z
set_option maxRecDepth 100000 in
set_option maxHeartbeats 4000000 in
theorem vX12_notch_J51 {E : gE} {n : Nat} {sh : Nat → Nat × Nat} {P : Int32 → gS → Prop} {a0 : Nat} {x1 : Int32} {x2 : Int32} {s0 : Int32} {s1 : Nat} {z : gS} (hn : n ≤ 1000000) (hf : wX12_notch_J51 n sh P a0 x1 x2 s0 s1 z) : V E (gR 1 0) gyX12_notch 0 0 51 [(0, .ref a0), (1, .int x1), (2, .int x2)] [.int s0, .ref s1] n sh z (kI n sh P) := by
  unfold wX12_notch_J51 at hf
  refine V_iload_n (j := 2) dX12_notch_51 rfl rfl ?_
  refine V_if_eq (tgt := 59) dX12_notch_52 (by decide) (fun h17 => ?_) (fun h17 => ?_)
  · have hf := it_t h17 hf
    refine V_bipush (v := (66 : Int32)) dX12_notch_59 (by decide) ?_
    refine V_iconst (v := (1 : Int32)) dX12_notch_61 (by decide) ?_
    refine V_iload_n (j := 1) dX12_notch_62 rfl rfl ?_
    refine V_iadd dX12_notch_63 ?_
    refine V_imul dX12_notch_64 ?_
    refine V_to [0, 2] rfl ?_
    exact vX12_notch_J65 hn hf
  · have hf := it_f h17 hf
    refine V_iconst (v := (0 : Int32)) dX12_notch_55 (by decide) ?_
    refine V_goto (tgt := 65) dX12_notch_56 (by decide) ?_
    refine V_to [0, 2] rfl ?_
    exact vX12_notch_J65 hn hf
def wX12_notch_J29 (n : Nat) (sh : Nat → Nat × Nat) (P : Int32 → gS → Prop) (a0 : Nat) (x1 : Int32) (x2 : Int32) (z : gS) : Prop := (oO n sh a0 8) ∧ (∃ t6 : Nat, gr z a0 26 = some t6 ∧ ((oA n sh t6 4) ∧ ((vp_in x1 (sh t6).2) ∧ (∀ z9 : gS, z9 = si z t6 x1.toNatClampNeg (vp_nar .boolean (1 : Int32)) → (if x2 = 0 then wX12_notch_J51 n sh P a0 x1 x2 (0 : Int32) a0 z9 else wX12_notch_J51 n sh P a0 x1 x2 ((66 : Int32) * ((1 : Int32) + x1)) a0 z9)))))
set_option maxRecDepth 100000 in
set_option maxHeartbeats 4000000 in
theorem vX12_notch_J29 {E : gE} {n : Nat} {sh : Nat → Nat × Nat} {P : Int32 → gS → Prop} {a0 : Nat} {x1 : Int32} {x2 : Int32} {z : gS} (hn : n ≤ 1000000) (hf : wX12_notch_J29 n sh P a0 x1 x2 z) : V E (gR 1 0) gyX12_notch 0 0 29 [(0, .ref a0), (1, .int x1), (2, .int x2)] [] n sh z (kI n sh P) := by
  unfold wX12_notch_J29 at hf
  refine V_aload_n (j := 0) dX12_notch_29 rfl rfl ?_
  obtain ⟨h5, hf⟩ := hf
  obtain ⟨t6, et6, hf⟩ := hf
  refine V_getR fl_X12_122 rfl h5.1 h5.2 et6 dX12_notch_30 ?_
  refine V_iload_n (j := 1) dX12_notch_33 rfl rfl ?_
  refine V_iconst (v := (1 : Int32)) dX12_notch_34 (by decide) ?_
  obtain ⟨h7, hf⟩ := hf
  obtain ⟨h8, hf⟩ := hf
  refine V_zast h7.1 h7.s h8 dX12_notch_35 ?_
  refine V_nz (fun z9 ez9 => ?_)
  have hf := hf z9 ez9
  refine V_aload_n (j := 0) dX12_notch_36 rfl rfl ?_
  refine V_iload_n (j := 2) dX12_notch_37 rfl rfl ?_
  refine V_if_eq (tgt := 50) dX12_notch_38 (by decide) (fun h18 => ?_) (fun h18 => ?_)
  · have hf := it_t h18 hf
    refine V_iconst (v := (0 : Int32)) dX12_notch_50 (by decide) ?_
    exact vX12_notch_J51 hn hf
  · have hf := it_f h18 hf
    refine V_bipush (v := (66 : Int32)) dX12_notch_41 (by decide) ?_
    refine V_iconst (v := (1 : Int32)) dX12_notch_43 (by decide) ?_
    refine V_iload_n (j := 1) dX12_notch_44 rfl rfl ?_
    refine V_iadd dX12_notch_45 ?_
    refine V_imul dX12_notch_46 ?_
    refine V_goto (tgt := 51) dX12_notch_47 (by decide) ?_
    exact vX12_notch_J51 hn hf
def wX12_notch (n : Nat) (sh : Nat → Nat × Nat) (a0 : Nat) (x1 : Int32) (x2 : Int32) (z : gS) (P : Int32 → gS → Prop) : Prop := (oO n sh a0 8) ∧ (∀ z2 : gS, z2 = si z a0 0 (0 : Int32) → (wX12_within n sh x1 (0 : Int32) (3 : Int32) z2 (fun (r3 : Int32) (z4 : gS) => if r3 = 0 then P (0 : Int32) z4 else (if x2 = 0 then wX12_notch_J29 n sh P a0 x1 x2 z4 else (∃ t19 : Nat, gr z4 a0 26 = some t19 ∧ ((oA n sh t19 4) ∧ ((vp_in x1 (sh t19).2) ∧ (if (gi z4 t19 x1.toNatClampNeg) = 0 then P (0 : Int32) z4 else wX12_notch_J29 n sh P a0 x1 x2 z4))))))))
set_option maxRecDepth 100000 in
set_option maxHeartbeats 4000000 in
theorem ctX12_notch {E : gE} {n : Nat} {sh : Nat → Nat × Nat} {a0 : Nat} {x1 : Int32} {x2 : Int32} {z : gS} {P : Int32 → gS → Prop} (hn : n ≤ 1000000) (hf : wX12_notch n sh a0 x1 x2 z P) : VM E 1 0 gyX12_notch [.ref a0, .int x1, .int x2] n sh z (kI n sh P) := by
  unfold wX12_notch at hf
  refine VM.of (by decide +kernel) (Nat.le_of_ble_eq_true rfl) ?_
  show V E (gR 1 0) gyX12_notch 0 0 0 [(0, .ref a0), (1, .int x1), (2, .int x2)] [] n sh z (kI n sh P)
  refine V_aload_n (j := 0) dX12_notch_0 rfl rfl ?_
  refine V_iconst (v := (0 : Int32)) dX12_notch_1 (by decide) ?_
  obtain ⟨h1, hf⟩ := hf
  refine V_putI fl_X12_1 rfl rfl rfl rfl h1.1 h1.2 dX12_notch_2 ?_
  refine V_nz (fun z2 ez2 => ?_)
  have hf := hf z2 ez2
  refine V_iload_n (j := 1) dX12_notch_5 rfl rfl ?_
  refine V_iconst (v := (0 : Int32)) dX12_notch_6 (by decide) ?_
  refine V_iconst (v := (3 : Int32)) dX12_notch_7 (by decide) ?_
  refine V_cSI (ctX12_within hn hf) gc_X12_198 rfl ⟨by decide, by decide, Nat.zero_le _, Nat.zero_le _⟩ (Nat.le_of_ble_eq_true rfl) dX12_notch_8 rfl hn (fun r3 z4 hf => ?_)
  refine V_if_eq (tgt := 27) dX12_notch_11 (by decide) (fun h24 => ?_) (fun h24 => ?_)
  · have hf := it_t h24 hf
    refine V_iconst (v := (0 : Int32)) dX12_notch_27 (by decide) ?_
    exact V_ireturn dX12_notch_28 rfl (by decide) (Nat.le_refl 0) (kI_of hf)
  · have hf := it_f h24 hf
    refine V_iload_n (j := 2) dX12_notch_14 rfl rfl ?_
    refine V_if_eq (tgt := 29) dX12_notch_15 (by decide) (fun h23 => ?_) (fun h23 => ?_)
    · have hf := it_t h23 hf
      exact vX12_notch_J29 hn hf
    · have hf := it_f h23 hf
      refine V_aload_n (j := 0) dX12_notch_18 rfl rfl ?_
      obtain ⟨t19, et19, hf⟩ := hf
      refine V_getR fl_X12_122 rfl h1.1 h1.2 et19 dX12_notch_19 ?_
      refine V_iload_n (j := 1) dX12_notch_22 rfl rfl ?_
      obtain ⟨h20, hf⟩ := hf
      obtain ⟨h21, hf⟩ := hf
      refine V_zald h20.1 h20.s h21 dX12_notch_23 ?_
      refine V_if_ne (tgt := 29) dX12_notch_24 (by decide) (fun h22 => ?_) (fun h22 => ?_)
      · have hf := it_f h22 hf
        exact vX12_notch_J29 hn hf
      · have hf := it_t (Classical.not_not.mp h22) hf
        refine V_iconst (v := (0 : Int32)) dX12_notch_27 (by decide) ?_
        exact V_ireturn dX12_notch_28 rfl (by decide) (Nat.le_refl 0) (kI_of hf)
def wX12_bitsOf_J36 (n : Nat) (sh : Nat → Nat × Nat) (k5 : Nat → Int32 → Int32 → Int32 → Int32 → gS → Prop) (P : Int32 → gS → Prop) (a0 : Nat) (x1 : Int32) (x2 : Int32) (x4 : Int32) (s0 : Int32) (s1 : Int32) (z : gS) : Prop := ∀ v7 : Int32, v7 = (s1 ||| s0) → (∀ v8 : Int32, v8 = x4 + (1 : Int32) → k5 a0 x1 x2 v7 v8 z)
set_option maxRecDepth 100000 in
set_option maxHeartbeats 4000000 in
theorem vX12_bitsOf_J36 {E : gE} {n : Nat} {sh : Nat → Nat × Nat} {P : Int32 → gS → Prop} {k5 : Nat → Int32 → Int32 → Int32 → Int32 → gS → Prop} {a0 : Nat} {x1 : Int32} {x2 : Int32} {x4 : Int32} {s0 : Int32} {s1 : Int32} {z : gS} (hn : n ≤ 1000000) (hk5 : ∀ (a0 : Nat) (x1 : Int32) (x2 : Int32) (x3 : Int32) (x4 : Int32) (z : gS), k5 a0 x1 x2 x3 x4 z → V E (gR 1 0) gyX12_bitsOf 0 0 5 [(0, .ref a0), (1, .int x1), (2, .int x2), (3, .int x3), (4, .int x4)] [] n sh z (kI n sh P)) (hf : wX12_bitsOf_J36 n sh k5 P a0 x1 x2 x4 s0 s1 z) : V E (gR 1 0) gyX12_bitsOf 0 0 36 [(0, .ref a0), (1, .int x1), (2, .int x2), (4, .int x4)] [.int s0, .int s1] n sh z (kI n sh P) := by
  unfold wX12_bitsOf_J36 at hf
  refine V_ior dX12_bitsOf_36 ?_
  refine V_nI (fun v7 ev7 => ?_)
  have hf := hf v7 ev7
  refine V_istore_n (ls2 := [(3, .int v7), (0, .ref a0), (1, .int x1), (2, .int x2), (4, .int x4)]) dX12_bitsOf_37 rfl (by decide) rfl ?_
  obtain ⟨v8, ev8⟩ : ∃ y : Int32, y = x4 + (1 : Int32) := ⟨_, rfl⟩
  refine V_iinc (j := 4) (v := v8) (ls2 := [(4, .int v8), (3, .int v7), (0, .ref a0), (1, .int x1), (2, .int x2)]) dX12_bitsOf_38 rfl (by rw [ev8]; rfl) (by decide) rfl ?_
  have hf := hf v8 ev8
  refine V_goto (tgt := 5) dX12_bitsOf_41 (by decide) ?_
  refine V_to [2, 3, 4, 1, 0] rfl ?_
  exact hk5 _ _ _ _ _ _ hf
def wX12_bitsOf_B5 (n : Nat) (sh : Nat → Nat × Nat) (k5 : Nat → Int32 → Int32 → Int32 → Int32 → gS → Prop) (P : Int32 → gS → Prop) (a0 : Nat) (x1 : Int32) (x2 : Int32) (x3 : Int32) (x4 : Int32) (z : gS) : Prop := (oO n sh a0 8) ∧ (wX12_panes n sh a0 z (fun (r1 : Int32) (z2 : gS) => if r1 ≤ x4 then P x3 z2 else (∃ t4 : Nat, gr z2 a0 24 = some t4 ∧ ((oA n sh t4 1) ∧ ((vp_in (x1 + x4) (sh t4).2) ∧ (if (gi z2 t4 (x1 + x4).toNatClampNeg) = x2 then wX12_bitsOf_J36 n sh k5 P a0 x1 x2 x4 ((1 : Int32) <<< (x4 &&& 31)) x3 z2 else wX12_bitsOf_J36 n sh k5 P a0 x1 x2 x4 (0 : Int32) x3 z2))))))
def wX12_bitsOf_L5 (n : Nat) (sh : Nat → Nat × Nat) (P : Int32 → gS → Prop) : Nat → Nat → Int32 → Int32 → Int32 → Int32 → gS → Prop
  | 0, _, _, _, _, _, _ => False
  | N + 1, a0, x1, x2, x3, x4, z => wX12_bitsOf_B5 n sh (wX12_bitsOf_L5 n sh P N) P a0 x1 x2 x3 x4 z
set_option maxRecDepth 100000 in
set_option maxHeartbeats 4000000 in
theorem vX12_bitsOf_B5 {E : gE} {n : Nat} {sh : Nat → Nat × Nat} {P : Int32 → gS → Prop} {k5 : Nat → Int32 → Int32 → Int32 → Int32 → gS → Prop} {a0 : Nat} {x1 : Int32} {x2 : Int32} {x3 : Int32} {x4 : Int32} {z : gS} (hn : n ≤ 1000000) (hk5 : ∀ (a0 : Nat) (x1 : Int32) (x2 : Int32) (x3 : Int32) (x4 : Int32) (z : gS), k5 a0 x1 x2 x3 x4 z → V E (gR 1 0) gyX12_bitsOf 0 0 5 [(0, .ref a0), (1, .int x1), (2, .int x2), (3, .int x3), (4, .int x4)] [] n sh z (kI n sh P)) (hf : wX12_bitsOf_B5 n sh k5 P a0 x1 x2 x3 x4 z) : V E (gR 1 0) gyX12_bitsOf 0 0 5 [(0, .ref a0), (1, .int x1), (2, .int x2), (3, .int x3), (4, .int x4)] [] n sh z (kI n sh P) := by
  unfold wX12_bitsOf_B5 at hf
  refine V_iload (j := 4) dX12_bitsOf_5 rfl ?_
  refine V_aload_n (j := 0) dX12_bitsOf_7 rfl rfl ?_
  obtain ⟨h3, hf⟩ := hf
  refine V_cVI (ctX12_panes hn hf) gc_X12_278 rfl h3.1 ⟨_, h3.2, by decide, rfl⟩ ⟨by decide, by decide, Nat.zero_le _, Nat.zero_le _⟩ (Nat.le_of_ble_eq_true rfl) dX12_bitsOf_8 rfl hn (fun r1 z2 hf => ?_)
  refine V_icmp_ge (tgt := 44) dX12_bitsOf_11 (by decide) (fun h10 => ?_) (fun h10 => ?_)
  · have hf := it_t h10 hf
    refine V_iload_n (j := 3) dX12_bitsOf_44 rfl rfl ?_
    exact V_ireturn dX12_bitsOf_45 rfl rfl (Nat.le_refl 0) (kI_of hf)
  · have hf := it_f h10 hf
    refine V_iload_n (j := 3) dX12_bitsOf_14 rfl rfl ?_
    refine V_aload_n (j := 0) dX12_bitsOf_15 rfl rfl ?_
    obtain ⟨t4, et4, hf⟩ := hf
    refine V_getR fl_X12_119 rfl h3.1 h3.2 et4 dX12_bitsOf_16 ?_
    refine V_iload_n (j := 1) dX12_bitsOf_19 rfl rfl ?_
    refine V_iload (j := 4) dX12_bitsOf_20 rfl ?_
    refine V_iadd dX12_bitsOf_22 ?_
    obtain ⟨h5, hf⟩ := hf
    obtain ⟨h6, hf⟩ := hf
    refine V_iald h5.1 h5.s h6 dX12_bitsOf_23 ?_
    refine V_iload_n (j := 2) dX12_bitsOf_24 rfl rfl ?_
    refine V_icmp_ne (tgt := 35) dX12_bitsOf_25 (by decide) (fun h9 => ?_) (fun h9 => ?_)
    · have hf := it_f h9 hf
      refine V_iconst (v := (0 : Int32)) dX12_bitsOf_35 (by decide) ?_
      refine V_to [0, 1, 2, 4] rfl ?_
      exact vX12_bitsOf_J36 hn hk5 hf
    · have hf := it_t (Classical.not_not.mp h9) hf
      refine V_iconst (v := (1 : Int32)) dX12_bitsOf_28 (by decide) ?_
      refine V_iload (j := 4) dX12_bitsOf_29 rfl ?_
      refine V_ishl dX12_bitsOf_31 ?_
      refine V_goto (tgt := 36) dX12_bitsOf_32 (by decide) ?_
      refine V_to [0, 1, 2, 4] rfl ?_
      exact vX12_bitsOf_J36 hn hk5 hf
set_option maxRecDepth 100000 in
set_option maxHeartbeats 4000000 in
theorem vX12_bitsOf_L5 {E : gE} {n : Nat} {sh : Nat → Nat × Nat} {P : Int32 → gS → Prop} (hn : n ≤ 1000000) : ∀ (N : Nat) (a0 : Nat) (x1 : Int32) (x2 : Int32) (x3 : Int32) (x4 : Int32) (z : gS), wX12_bitsOf_L5 n sh P N a0 x1 x2 x3 x4 z → V E (gR 1 0) gyX12_bitsOf 0 0 5 [(0, .ref a0), (1, .int x1), (2, .int x2), (3, .int x3), (4, .int x4)] [] n sh z (kI n sh P) := by
  intro N
  induction N with
  | zero => intro a0 x1 x2 x3 x4 z hf; exact False.elim hf
  | succ N ih => intro a0 x1 x2 x3 x4 z hf; exact vX12_bitsOf_B5 hn ih hf
def wX12_bitsOf (n : Nat) (sh : Nat → Nat × Nat) (a0 : Nat) (x1 : Int32) (x2 : Int32) (z : gS) (P : Int32 → gS → Prop) : Prop := (∃ N, wX12_bitsOf_L5 n sh P N a0 x1 x2 (0 : Int32) (0 : Int32) z)
set_option maxRecDepth 100000 in
set_option maxHeartbeats 4000000 in
theorem ctX12_bitsOf {E : gE} {n : Nat} {sh : Nat → Nat × Nat} {a0 : Nat} {x1 : Int32} {x2 : Int32} {z : gS} {P : Int32 → gS → Prop} (hn : n ≤ 1000000) (hf : wX12_bitsOf n sh a0 x1 x2 z P) : VM E 1 0 gyX12_bitsOf [.ref a0, .int x1, .int x2] n sh z (kI n sh P) := by
  unfold wX12_bitsOf at hf
  refine VM.of (by decide +kernel) (Nat.le_of_ble_eq_true rfl) ?_
  show V E (gR 1 0) gyX12_bitsOf 0 0 0 [(0, .ref a0), (1, .int x1), (2, .int x2)] [] n sh z (kI n sh P)
  refine V_iconst (v := (0 : Int32)) dX12_bitsOf_0 (by decide) ?_
  refine V_istore_n (ls2 := [(3, .int (0 : Int32)), (0, .ref a0), (1, .int x1), (2, .int x2)]) dX12_bitsOf_1 rfl (by decide) rfl ?_
  refine V_iconst (v := (0 : Int32)) dX12_bitsOf_2 (by decide) ?_
  refine V_istore (ls2 := [(4, .int (0 : Int32)), (3, .int (0 : Int32)), (0, .ref a0), (1, .int x1), (2, .int x2)]) dX12_bitsOf_3 (by decide) rfl ?_
  obtain ⟨N, hf⟩ := hf
  refine V_to [2, 3, 4, 1, 0] rfl ?_
  exact vX12_bitsOf_L5 hn N _ _ _ _ _ _ hf
def wX12_marksMany_B4 (n : Nat) (sh : Nat → Nat × Nat) (k4 : Nat → Int32 → Int32 → gS → Prop) (P : Int32 → gS → Prop) (a0 : Nat) (x1 : Int32) (x2 : Int32) (z : gS) : Prop := (oO n sh a0 8) ∧ (wX12_panes n sh a0 z (fun (r1 : Int32) (z2 : gS) => if r1 ≤ x2 then P x1 z2 else (∃ t4 : Nat, gr z2 a0 24 = some t4 ∧ ((oA n sh t4 1) ∧ ((vp_in ((18 : Int32) + x2) (sh t4).2) ∧ (∀ v7 : Int32, v7 = (x1 + (gi z2 t4 ((18 : Int32) + x2).toNatClampNeg)) → (∀ v8 : Int32, v8 = x2 + (1 : Int32) → k4 a0 v7 v8 z2)))))))
def wX12_marksMany_L4 (n : Nat) (sh : Nat → Nat × Nat) (P : Int32 → gS → Prop) : Nat → Nat → Int32 → Int32 → gS → Prop
  | 0, _, _, _, _ => False
  | N + 1, a0, x1, x2, z => wX12_marksMany_B4 n sh (wX12_marksMany_L4 n sh P N) P a0 x1 x2 z
set_option maxRecDepth 100000 in
set_option maxHeartbeats 4000000 in
theorem vX12_marksMany_B4 {E : gE} {n : Nat} {sh : Nat → Nat × Nat} {P : Int32 → gS → Prop} {k4 : Nat → Int32 → Int32 → gS → Prop} {a0 : Nat} {x1 : Int32} {x2 : Int32} {z : gS} (hn : n ≤ 1000000) (hk4 : ∀ (a0 : Nat) (x1 : Int32) (x2 : Int32) (z : gS), k4 a0 x1 x2 z → V E (gR 1 0) gyX12_marksMany 0 0 4 [(0, .ref a0), (1, .int x1), (2, .int x2)] [] n sh z (kI n sh P)) (hf : wX12_marksMany_B4 n sh k4 P a0 x1 x2 z) : V E (gR 1 0) gyX12_marksMany 0 0 4 [(0, .ref a0), (1, .int x1), (2, .int x2)] [] n sh z (kI n sh P) := by
  unfold wX12_marksMany_B4 at hf
  refine V_iload_n (j := 2) dX12_marksMany_4 rfl rfl ?_
  refine V_aload_n (j := 0) dX12_marksMany_5 rfl rfl ?_
  obtain ⟨h3, hf⟩ := hf
  refine V_cVI (ctX12_panes hn hf) gc_X12_278 rfl h3.1 ⟨_, h3.2, by decide, rfl⟩ ⟨by decide, by decide, Nat.zero_le _, Nat.zero_le _⟩ (Nat.le_of_ble_eq_true rfl) dX12_marksMany_6 rfl hn (fun r1 z2 hf => ?_)
  refine V_icmp_ge (tgt := 30) dX12_marksMany_9 (by decide) (fun h9 => ?_) (fun h9 => ?_)
  · have hf := it_t h9 hf
    refine V_iload_n (j := 1) dX12_marksMany_30 rfl rfl ?_
    exact V_ireturn dX12_marksMany_31 rfl rfl (Nat.le_refl 0) (kI_of hf)
  · have hf := it_f h9 hf
    refine V_iload_n (j := 1) dX12_marksMany_12 rfl rfl ?_
    refine V_aload_n (j := 0) dX12_marksMany_13 rfl rfl ?_
    obtain ⟨t4, et4, hf⟩ := hf
    refine V_getR fl_X12_119 rfl h3.1 h3.2 et4 dX12_marksMany_14 ?_
    refine V_bipush (v := (18 : Int32)) dX12_marksMany_17 (by decide) ?_
    refine V_iload_n (j := 2) dX12_marksMany_19 rfl rfl ?_
    refine V_iadd dX12_marksMany_20 ?_
    obtain ⟨h5, hf⟩ := hf
    obtain ⟨h6, hf⟩ := hf
    refine V_iald h5.1 h5.s h6 dX12_marksMany_21 ?_
    refine V_iadd dX12_marksMany_22 ?_
    refine V_nI (fun v7 ev7 => ?_)
    have hf := hf v7 ev7
    refine V_istore_n (ls2 := [(1, .int v7), (0, .ref a0), (2, .int x2)]) dX12_marksMany_23 rfl (by decide) rfl ?_
    obtain ⟨v8, ev8⟩ : ∃ y : Int32, y = x2 + (1 : Int32) := ⟨_, rfl⟩
    refine V_iinc (j := 2) (v := v8) (ls2 := [(2, .int v8), (1, .int v7), (0, .ref a0)]) dX12_marksMany_24 rfl (by rw [ev8]; rfl) (by decide) rfl ?_
    have hf := hf v8 ev8
    refine V_goto (tgt := 4) dX12_marksMany_27 (by decide) ?_
    refine V_to [2, 1, 0] rfl ?_
    exact hk4 _ _ _ _ hf
set_option maxRecDepth 100000 in
set_option maxHeartbeats 4000000 in
theorem vX12_marksMany_L4 {E : gE} {n : Nat} {sh : Nat → Nat × Nat} {P : Int32 → gS → Prop} (hn : n ≤ 1000000) : ∀ (N : Nat) (a0 : Nat) (x1 : Int32) (x2 : Int32) (z : gS), wX12_marksMany_L4 n sh P N a0 x1 x2 z → V E (gR 1 0) gyX12_marksMany 0 0 4 [(0, .ref a0), (1, .int x1), (2, .int x2)] [] n sh z (kI n sh P) := by
  intro N
  induction N with
  | zero => intro a0 x1 x2 z hf; exact False.elim hf
  | succ N ih => intro a0 x1 x2 z hf; exact vX12_marksMany_B4 hn ih hf
def wX12_marksMany (n : Nat) (sh : Nat → Nat × Nat) (a0 : Nat) (z : gS) (P : Int32 → gS → Prop) : Prop := (∃ N, wX12_marksMany_L4 n sh P N a0 (0 : Int32) (0 : Int32) z)
set_option maxRecDepth 100000 in
set_option maxHeartbeats 4000000 in
theorem ctX12_marksMany {E : gE} {n : Nat} {sh : Nat → Nat × Nat} {a0 : Nat} {z : gS} {P : Int32 → gS → Prop} (hn : n ≤ 1000000) (hf : wX12_marksMany n sh a0 z P) : VM E 1 0 gyX12_marksMany [.ref a0] n sh z (kI n sh P) := by
  unfold wX12_marksMany at hf
  refine VM.of (by decide +kernel) (Nat.le_of_ble_eq_true rfl) ?_
  show V E (gR 1 0) gyX12_marksMany 0 0 0 [(0, .ref a0)] [] n sh z (kI n sh P)
  refine V_iconst (v := (0 : Int32)) dX12_marksMany_0 (by decide) ?_
  refine V_istore_n (ls2 := [(1, .int (0 : Int32)), (0, .ref a0)]) dX12_marksMany_1 rfl (by decide) rfl ?_
  refine V_iconst (v := (0 : Int32)) dX12_marksMany_2 (by decide) ?_
  refine V_istore_n (ls2 := [(2, .int (0 : Int32)), (1, .int (0 : Int32)), (0, .ref a0)]) dX12_marksMany_3 rfl (by decide) rfl ?_
  obtain ⟨N, hf⟩ := hf
  refine V_to [2, 1, 0] rfl ?_
  exact vX12_marksMany_L4 hn N _ _ _ _ hf
def wX12_count (n : Nat) (sh : Nat → Nat × Nat) (a0 : Nat) (x1 : Int32) (z : gS) (P : Int32 → gS → Prop) : Prop := (oO n sh a0 8) ∧ (∀ z2 : gS, z2 = si z a0 0 (0 : Int32) → (if x1 = (0 : Int32) then (∃ t4 : Nat, gr z2 a0 10 = some t4 ∧ ((oA n sh t4 1) ∧ ((vp_in x1 (sh t4).2) ∧ P (gi z2 t4 x1.toNatClampNeg) z2))) else (if x1 = (1 : Int32) then (∃ t8 : Nat, gr z2 a0 10 = some t8 ∧ ((oA n sh t8 1) ∧ ((vp_in x1 (sh t8).2) ∧ P (gi z2 t8 x1.toNatClampNeg) z2))) else (if x1 = (2 : Int32) then (∃ t12 : Nat, gr z2 a0 10 = some t12 ∧ ((oA n sh t12 1) ∧ ((vp_in x1 (sh t12).2) ∧ P (gi z2 t12 x1.toNatClampNeg) z2))) else (if x1 = (3 : Int32) then (∃ t16 : Nat, gr z2 a0 24 = some t16 ∧ ((oA n sh t16 1) ∧ ((vp_in (0 : Int32) (sh t16).2) ∧ P (gi z2 t16 (0 : Int32).toNatClampNeg) z2))) else (if x1 = (4 : Int32) then (∃ t20 : Nat, gr z2 a0 24 = some t20 ∧ ((oA n sh t20 1) ∧ ((vp_in (0 : Int32) (sh t20).2) ∧ (wX12_lightOf n sh a0 (gi z2 t20 (0 : Int32).toNatClampNeg) z2 (fun (r23 : Int32) (z24 : gS) => P r23 z24))))) else (if x1 = (5 : Int32) then (wX12_marksMany n sh a0 z2 (fun (r26 : Int32) (z27 : gS) => P r26 z27)) else (if x1 = (6 : Int32) then (wX12_bitsOf n sh a0 (6 : Int32) (1 : Int32) z2 (fun (r29 : Int32) (z30 : gS) => P r29 z30)) else (if x1 = (7 : Int32) then (wX12_bitsOf n sh a0 (12 : Int32) (1 : Int32) z2 (fun (r32 : Int32) (z33 : gS) => P r32 z33)) else (if x1 = (8 : Int32) then (∃ t35 : Nat, gr z2 a0 21 = some t35 ∧ ((oA n sh t35 1) ∧ ((vp_in (0 : Int32) (sh t35).2) ∧ P (gi z2 t35 (0 : Int32).toNatClampNeg) z2))) else (if x1 = (9 : Int32) then (wX12_bitsOf n sh a0 (60 : Int32) (0 : Int32) z2 (fun (r39 : Int32) (z40 : gS) => wX12_bitsOf n sh a0 (60 : Int32) (1 : Int32) z40 (fun (r41 : Int32) (z42 : gS) => wX12_bits n sh (r39 ||| r41) z42 (fun (r43 : Int32) (z44 : gS) => P r43 z44)))) else (if x1 = (10 : Int32) then P (gi z2 a0 25) z2 else (if x1 = (11 : Int32) then P (gi z2 a0 2) z2 else P (-1 : Int32) z2)))))))))))))
set_option maxRecDepth 100000 in
set_option maxHeartbeats 4000000 in
theorem ctX12_count {E : gE} {n : Nat} {sh : Nat → Nat × Nat} {a0 : Nat} {x1 : Int32} {z : gS} {P : Int32 → gS → Prop} (hn : n ≤ 1000000) (hf : wX12_count n sh a0 x1 z P) : VM E 2 0 gyX12_count [.ref a0, .int x1] n sh z (kI n sh P) := by
  unfold wX12_count at hf
  refine VM.of (by decide +kernel) (Nat.le_of_ble_eq_true rfl) ?_
  show V E (gR 2 0) gyX12_count 0 0 0 [(0, .ref a0), (1, .int x1)] [] n sh z (kI n sh P)
  refine V_aload_n (j := 0) dX12_count_0 rfl rfl ?_
  refine V_iconst (v := (0 : Int32)) dX12_count_1 (by decide) ?_
  obtain ⟨h1, hf⟩ := hf
  refine V_putI fl_X12_1 rfl rfl rfl rfl h1.1 h1.2 dX12_count_2 ?_
  refine V_nz (fun z2 ez2 => ?_)
  have hf := hf z2 ez2
  refine V_iload_n (j := 1) dX12_count_5 rfl rfl ?_
  by_cases h3 : x1 = (0 : Int32)
  · have hf := it_t h3 hf
    refine V_tableIn (off := 62) (tgt := 68) dX12_count_6 (by rw [h3]; decide) (by rw [h3]; decide) (by rw [h3]; decide) (by decide) ?_
    refine V_aload_n (j := 0) dX12_count_68 rfl rfl ?_
    obtain ⟨t4, et4, hf⟩ := hf
    refine V_getR fl_X12_89 rfl h1.1 h1.2 et4 dX12_count_69 ?_
    refine V_iload_n (j := 1) dX12_count_72 rfl rfl ?_
    obtain ⟨h5, hf⟩ := hf
    obtain ⟨h6, hf⟩ := hf
    refine V_iald h5.1 h5.s h6 dX12_count_73 ?_
    exact V_ireturn dX12_count_74 rfl rfl (Nat.le_refl 0) (kI_of hf)
  · have hf := it_f h3 hf
    by_cases h7 : x1 = (1 : Int32)
    · have hf := it_t h7 hf
      refine V_tableIn (off := 62) (tgt := 68) dX12_count_6 (by rw [h7]; decide) (by rw [h7]; decide) (by rw [h7]; decide) (by decide) ?_
      refine V_aload_n (j := 0) dX12_count_68 rfl rfl ?_
      obtain ⟨t8, et8, hf⟩ := hf
      refine V_getR fl_X12_89 rfl h1.1 h1.2 et8 dX12_count_69 ?_
      refine V_iload_n (j := 1) dX12_count_72 rfl rfl ?_
      obtain ⟨h9, hf⟩ := hf
      obtain ⟨h10, hf⟩ := hf
      refine V_iald h9.1 h9.s h10 dX12_count_73 ?_
      exact V_ireturn dX12_count_74 rfl rfl (Nat.le_refl 0) (kI_of hf)
    · have hf := it_f h7 hf
      by_cases h11 : x1 = (2 : Int32)
      · have hf := it_t h11 hf
        refine V_tableIn (off := 62) (tgt := 68) dX12_count_6 (by rw [h11]; decide) (by rw [h11]; decide) (by rw [h11]; decide) (by decide) ?_
        refine V_aload_n (j := 0) dX12_count_68 rfl rfl ?_
        obtain ⟨t12, et12, hf⟩ := hf
        refine V_getR fl_X12_89 rfl h1.1 h1.2 et12 dX12_count_69 ?_
        refine V_iload_n (j := 1) dX12_count_72 rfl rfl ?_
        obtain ⟨h13, hf⟩ := hf
        obtain ⟨h14, hf⟩ := hf
        refine V_iald h13.1 h13.s h14 dX12_count_73 ?_
        exact V_ireturn dX12_count_74 rfl rfl (Nat.le_refl 0) (kI_of hf)
      · have hf := it_f h11 hf
        by_cases h15 : x1 = (3 : Int32)
        · have hf := it_t h15 hf
          refine V_tableIn (off := 69) (tgt := 75) dX12_count_6 (by rw [h15]; decide) (by rw [h15]; decide) (by rw [h15]; decide) (by decide) ?_
          refine V_aload_n (j := 0) dX12_count_75 rfl rfl ?_
          obtain ⟨t16, et16, hf⟩ := hf
          refine V_getR fl_X12_119 rfl h1.1 h1.2 et16 dX12_count_76 ?_
          refine V_iconst (v := (0 : Int32)) dX12_count_79 (by decide) ?_
          obtain ⟨h17, hf⟩ := hf
          obtain ⟨h18, hf⟩ := hf
          refine V_iald h17.1 h17.s h18 dX12_count_80 ?_
          exact V_ireturn dX12_count_81 rfl rfl (Nat.le_refl 0) (kI_of hf)
        · have hf := it_f h15 hf
          by_cases h19 : x1 = (4 : Int32)
          · have hf := it_t h19 hf
            refine V_tableIn (off := 76) (tgt := 82) dX12_count_6 (by rw [h19]; decide) (by rw [h19]; decide) (by rw [h19]; decide) (by decide) ?_
            refine V_aload_n (j := 0) dX12_count_82 rfl rfl ?_
            refine V_aload_n (j := 0) dX12_count_83 rfl rfl ?_
            obtain ⟨t20, et20, hf⟩ := hf
            refine V_getR fl_X12_119 rfl h1.1 h1.2 et20 dX12_count_84 ?_
            refine V_iconst (v := (0 : Int32)) dX12_count_87 (by decide) ?_
            obtain ⟨h21, hf⟩ := hf
            obtain ⟨h22, hf⟩ := hf
            refine V_iald h21.1 h21.s h22 dX12_count_88 ?_
            refine V_cVI (ctX12_lightOf hn hf) gc_X12_291 rfl h1.1 ⟨_, h1.2, by decide, rfl⟩ ⟨by decide, by decide, Nat.zero_le _, Nat.zero_le _⟩ (Nat.le_of_ble_eq_true rfl) dX12_count_89 rfl hn (fun r23 z24 hf => ?_)
            exact V_ireturn dX12_count_92 rfl rfl (Nat.le_refl 0) (kI_of hf)
          · have hf := it_f h19 hf
            by_cases h25 : x1 = (5 : Int32)
            · have hf := it_t h25 hf
              refine V_tableIn (off := 87) (tgt := 93) dX12_count_6 (by rw [h25]; decide) (by rw [h25]; decide) (by rw [h25]; decide) (by decide) ?_
              refine V_aload_n (j := 0) dX12_count_93 rfl rfl ?_
              refine V_cVI (ctX12_marksMany hn hf) gc_X12_414 rfl h1.1 ⟨_, h1.2, by decide, rfl⟩ ⟨by decide, by decide, Nat.zero_le _, Nat.zero_le _⟩ (Nat.le_of_ble_eq_true rfl) dX12_count_94 rfl hn (fun r26 z27 hf => ?_)
              exact V_ireturn dX12_count_97 rfl rfl (Nat.le_refl 0) (kI_of hf)
            · have hf := it_f h25 hf
              by_cases h28 : x1 = (6 : Int32)
              · have hf := it_t h28 hf
                refine V_tableIn (off := 92) (tgt := 98) dX12_count_6 (by rw [h28]; decide) (by rw [h28]; decide) (by rw [h28]; decide) (by decide) ?_
                refine V_aload_n (j := 0) dX12_count_98 rfl rfl ?_
                refine V_bipush (v := (6 : Int32)) dX12_count_99 (by decide) ?_
                refine V_iconst (v := (1 : Int32)) dX12_count_101 (by decide) ?_
                refine V_cVI (ctX12_bitsOf hn hf) gc_X12_417 rfl h1.1 ⟨_, h1.2, by decide, rfl⟩ ⟨by decide, by decide, Nat.zero_le _, Nat.zero_le _⟩ (Nat.le_of_ble_eq_true rfl) dX12_count_102 rfl hn (fun r29 z30 hf => ?_)
                exact V_ireturn dX12_count_105 rfl rfl (Nat.le_refl 0) (kI_of hf)
              · have hf := it_f h28 hf
                by_cases h31 : x1 = (7 : Int32)
                · have hf := it_t h31 hf
                  refine V_tableIn (off := 100) (tgt := 106) dX12_count_6 (by rw [h31]; decide) (by rw [h31]; decide) (by rw [h31]; decide) (by decide) ?_
                  refine V_aload_n (j := 0) dX12_count_106 rfl rfl ?_
                  refine V_bipush (v := (12 : Int32)) dX12_count_107 (by decide) ?_
                  refine V_iconst (v := (1 : Int32)) dX12_count_109 (by decide) ?_
                  refine V_cVI (ctX12_bitsOf hn hf) gc_X12_417 rfl h1.1 ⟨_, h1.2, by decide, rfl⟩ ⟨by decide, by decide, Nat.zero_le _, Nat.zero_le _⟩ (Nat.le_of_ble_eq_true rfl) dX12_count_110 rfl hn (fun r32 z33 hf => ?_)
                  exact V_ireturn dX12_count_113 rfl rfl (Nat.le_refl 0) (kI_of hf)
                · have hf := it_f h31 hf
                  by_cases h34 : x1 = (8 : Int32)
                  · have hf := it_t h34 hf
                    refine V_tableIn (off := 108) (tgt := 114) dX12_count_6 (by rw [h34]; decide) (by rw [h34]; decide) (by rw [h34]; decide) (by decide) ?_
                    refine V_aload_n (j := 0) dX12_count_114 rfl rfl ?_
                    obtain ⟨t35, et35, hf⟩ := hf
                    refine V_getR fl_X12_110 rfl h1.1 h1.2 et35 dX12_count_115 ?_
                    refine V_iconst (v := (0 : Int32)) dX12_count_118 (by decide) ?_
                    obtain ⟨h36, hf⟩ := hf
                    obtain ⟨h37, hf⟩ := hf
                    refine V_iald h36.1 h36.s h37 dX12_count_119 ?_
                    exact V_ireturn dX12_count_120 rfl rfl (Nat.le_refl 0) (kI_of hf)
                  · have hf := it_f h34 hf
                    by_cases h38 : x1 = (9 : Int32)
                    · have hf := it_t h38 hf
                      refine V_tableIn (off := 115) (tgt := 121) dX12_count_6 (by rw [h38]; decide) (by rw [h38]; decide) (by rw [h38]; decide) (by decide) ?_
                      refine V_aload_n (j := 0) dX12_count_121 rfl rfl ?_
                      refine V_bipush (v := (60 : Int32)) dX12_count_122 (by decide) ?_
                      refine V_iconst (v := (0 : Int32)) dX12_count_124 (by decide) ?_
                      refine V_cVI (ctX12_bitsOf hn hf) gc_X12_417 rfl h1.1 ⟨_, h1.2, by decide, rfl⟩ ⟨by decide, by decide, Nat.zero_le _, Nat.zero_le _⟩ (Nat.le_of_ble_eq_true rfl) dX12_count_125 rfl hn (fun r39 z40 hf => ?_)
                      refine V_aload_n (j := 0) dX12_count_128 rfl rfl ?_
                      refine V_bipush (v := (60 : Int32)) dX12_count_129 (by decide) ?_
                      refine V_iconst (v := (1 : Int32)) dX12_count_131 (by decide) ?_
                      refine V_cVI (ctX12_bitsOf hn hf) gc_X12_417 rfl h1.1 ⟨_, h1.2, by decide, rfl⟩ ⟨by decide, by decide, Nat.zero_le _, Nat.zero_le _⟩ (Nat.le_of_ble_eq_true rfl) dX12_count_132 rfl hn (fun r41 z42 hf => ?_)
                      refine V_ior dX12_count_135 ?_
                      refine V_cSI (ctX12_bits hn hf) gc_X12_374 rfl ⟨by decide, by decide, Nat.zero_le _, Nat.zero_le _⟩ (Nat.le_of_ble_eq_true rfl) dX12_count_136 rfl hn (fun r43 z44 hf => ?_)
                      exact V_ireturn dX12_count_139 rfl rfl (Nat.le_refl 0) (kI_of hf)
                    · have hf := it_f h38 hf
                      by_cases h45 : x1 = (10 : Int32)
                      · have hf := it_t h45 hf
                        refine V_tableIn (off := 134) (tgt := 140) dX12_count_6 (by rw [h45]; decide) (by rw [h45]; decide) (by rw [h45]; decide) (by decide) ?_
                        refine V_aload_n (j := 0) dX12_count_140 rfl rfl ?_
                        refine V_getI fl_X12_272 rfl h1.1 h1.2 dX12_count_141 ?_
                        exact V_ireturn dX12_count_144 rfl rfl (Nat.le_refl 0) (kI_of hf)
                      · have hf := it_f h45 hf
                        by_cases h46 : x1 = (11 : Int32)
                        · have hf := it_t h46 hf
                          refine V_tableIn (off := 139) (tgt := 145) dX12_count_6 (by rw [h46]; decide) (by rw [h46]; decide) (by rw [h46]; decide) (by decide) ?_
                          refine V_aload_n (j := 0) dX12_count_145 rfl rfl ?_
                          refine V_getI fl_X12_11 rfl h1.1 h1.2 dX12_count_146 ?_
                          exact V_ireturn dX12_count_149 rfl rfl (Nat.le_refl 0) (kI_of hf)
                        · have hf := it_f h46 hf
                          refine V_tableOut (tgt := 150) dX12_count_6 (by have qh3 := sw_ne (a := 0) h3 (by decide); have qh7 := sw_ne (a := 1) h7 (by decide); have qh11 := sw_ne (a := 2) h11 (by decide); have qh15 := sw_ne (a := 3) h15 (by decide); have qh19 := sw_ne (a := 4) h19 (by decide); have qh25 := sw_ne (a := 5) h25 (by decide); have qh28 := sw_ne (a := 6) h28 (by decide); have qh31 := sw_ne (a := 7) h31 (by decide); have qh34 := sw_ne (a := 8) h34 (by decide); have qh38 := sw_ne (a := 9) h38 (by decide); have qh45 := sw_ne (a := 10) h45 (by decide); have qh46 := sw_ne (a := 11) h46 (by decide); omega) (by decide) ?_
                          refine V_iconst (v := (-1 : Int32)) dX12_count_150 (by decide) ?_
                          exact V_ireturn dX12_count_151 rfl rfl (Nat.le_refl 0) (kI_of hf)
