def wX3_harmOf_B4 (n : Nat) (sh : Nat → Nat × Nat) (k4 : Nat → Int32 → Int32 → Int32 → gS → Prop) (P : Int32 → gS → Prop) (a0 : Nat) (x1 : Int32) (x2 : Int32) (x3 : Int32) (z : gS) : Prop := (oO n sh a0 4) ∧ (if (gi z a0 12) ≤ x3 then P x2 z else (∃ t2 : Nat, gr z a0 5 = some t2 ∧ ((oA n sh t2 1) ∧ ((vp_in x3 (sh t2).2) ∧ (∀ v5 : Int32, v5 = (x2 + (((x1 >>> (x3 &&& 31)) &&& (1 : Int32)) * (gi z t2 x3.toNatClampNeg))) → (∀ v6 : Int32, v6 = x3 + (1 : Int32) → k4 a0 x1 v5 v6 z))))))
def wX3_harmOf_L4 (n : Nat) (sh : Nat → Nat × Nat) (P : Int32 → gS → Prop) : Nat → Nat → Int32 → Int32 → Int32 → gS → Prop
  | 0, _, _, _, _, _ => False
  | N + 1, a0, x1, x2, x3, z => wX3_harmOf_B4 n sh (wX3_harmOf_L4 n sh P N) P a0 x1 x2 x3 z
set_option maxRecDepth 100000 in
set_option maxHeartbeats 4000000 in
theorem vX3_harmOf_B4 {E : gE} {n : Nat} {sh : Nat → Nat × Nat} {P : Int32 → gS → Prop} {k4 : Nat → Int32 → Int32 → Int32 → gS → Prop} {a0 : Nat} {x1 : Int32} {x2 : Int32} {x3 : Int32} {z : gS} (hn : gOK E n) (hk4 : ∀ (a0 : Nat) (x1 : Int32) (x2 : Int32) (x3 : Int32) (z : gS), k4 a0 x1 x2 x3 z → V E (gR 0 0) gyX3_harmOf 0 0 4 [(0, .ref a0), (1, .int x1), (2, .int x2), (3, .int x3)] [] n sh z (kI n sh P)) (hf : wX3_harmOf_B4 n sh k4 P a0 x1 x2 x3 z) : V E (gR 0 0) gyX3_harmOf 0 0 4 [(0, .ref a0), (1, .int x1), (2, .int x2), (3, .int x3)] [] n sh z (kI n sh P) := by
  unfold wX3_harmOf_B4 at hf
  refine V_iload_n (j := 3) dX3_harmOf_4 rfl rfl ?_
  refine V_aload_n (j := 0) dX3_harmOf_5 rfl rfl ?_
  obtain ⟨h1, hf⟩ := hf
  refine V_getI fl_X3_9 rfl h1.1 h1.2 dX3_harmOf_6 ?_
  refine V_icmp_ge (tgt := 33) dX3_harmOf_9 (by decide) (fun h7 => ?_) (fun h7 => ?_)
  · have hf := it_t h7 hf
    refine V_iload_n (j := 2) dX3_harmOf_33 rfl rfl ?_
    exact V_ireturn dX3_harmOf_34 rfl rfl (Nat.le_refl 0) (kI_of hf)
  · have hf := it_f h7 hf
    refine V_iload_n (j := 2) dX3_harmOf_12 rfl rfl ?_
    refine V_iload_n (j := 1) dX3_harmOf_13 rfl rfl ?_
    refine V_iload_n (j := 3) dX3_harmOf_14 rfl rfl ?_
    refine V_ishr dX3_harmOf_15 ?_
    refine V_iconst (v := (1 : Int32)) dX3_harmOf_16 (by decide) ?_
    refine V_iand dX3_harmOf_17 ?_
    refine V_aload_n (j := 0) dX3_harmOf_18 rfl rfl ?_
    obtain ⟨t2, et2, hf⟩ := hf
    refine V_getR fl_X3_15 rfl h1.1 h1.2 et2 dX3_harmOf_19 ?_
    refine V_iload_n (j := 3) dX3_harmOf_22 rfl rfl ?_
    obtain ⟨h3, hf⟩ := hf
    obtain ⟨h4, hf⟩ := hf
    refine V_iald h3.1 h3.s h4 dX3_harmOf_23 ?_
    refine V_imul dX3_harmOf_24 ?_
    refine V_iadd dX3_harmOf_25 ?_
    refine V_nI (fun v5 ev5 => ?_)
    have hf := hf v5 ev5
    refine V_istore_n (ls2 := [(2, .int v5), (0, .ref a0), (1, .int x1), (3, .int x3)]) dX3_harmOf_26 rfl (by decide) rfl ?_
    obtain ⟨v6, ev6⟩ : ∃ y : Int32, y = x3 + (1 : Int32) := ⟨_, rfl⟩
    refine V_iinc (j := 3) (v := v6) (ls2 := [(3, .int v6), (2, .int v5), (0, .ref a0), (1, .int x1)]) dX3_harmOf_27 rfl (by rw [ev6]; rfl) (by decide) rfl ?_
    have hf := hf v6 ev6
    refine V_goto (tgt := 4) dX3_harmOf_30 (by decide) ?_
    refine V_to [2, 3, 1, 0] rfl ?_
    exact hk4 _ _ _ _ _ hf
set_option maxRecDepth 100000 in
set_option maxHeartbeats 4000000 in
theorem vX3_harmOf_L4 {E : gE} {n : Nat} {sh : Nat → Nat × Nat} {P : Int32 → gS → Prop} (hn : gOK E n) : ∀ (N : Nat) (a0 : Nat) (x1 : Int32) (x2 : Int32) (x3 : Int32) (z : gS), wX3_harmOf_L4 n sh P N a0 x1 x2 x3 z → V E (gR 0 0) gyX3_harmOf 0 0 4 [(0, .ref a0), (1, .int x1), (2, .int x2), (3, .int x3)] [] n sh z (kI n sh P) := by
  intro N
  induction N with
  | zero => intro a0 x1 x2 x3 z hf; exact False.elim hf
  | succ N ih => intro a0 x1 x2 x3 z hf; exact vX3_harmOf_B4 hn ih hf
def wX3_harmOf (n : Nat) (sh : Nat → Nat × Nat) (a0 : Nat) (x1 : Int32) (z : gS) (P : Int32 → gS → Prop) : Prop := (∃ N, wX3_harmOf_L4 n sh P N a0 x1 (0 : Int32) (0 : Int32) z)
set_option maxRecDepth 100000 in
set_option maxHeartbeats 4000000 in
theorem ctX3_harmOf {E : gE} {n : Nat} {sh : Nat → Nat × Nat} {a0 : Nat} {x1 : Int32} {z : gS} {P : Int32 → gS → Prop} (hn : gOK E n) (hf : wX3_harmOf n sh a0 x1 z P) : VM E 0 0 gyX3_harmOf [.ref a0, .int x1] n sh z (kI n sh P) := by
  unfold wX3_harmOf at hf
  refine VM.of (by decide +kernel) (Nat.le_of_ble_eq_true rfl) (fun _ _ _ h => h.2.2) ?_
  show V E (gR 0 0) gyX3_harmOf 0 0 0 [(0, .ref a0), (1, .int x1)] [] n sh z (kI n sh P)
  refine V_iconst (v := (0 : Int32)) dX3_harmOf_0 (by decide) ?_
  refine V_istore_n (ls2 := [(2, .int (0 : Int32)), (0, .ref a0), (1, .int x1)]) dX3_harmOf_1 rfl (by decide) rfl ?_
  refine V_iconst (v := (0 : Int32)) dX3_harmOf_2 (by decide) ?_
  refine V_istore_n (ls2 := [(3, .int (0 : Int32)), (2, .int (0 : Int32)), (0, .ref a0), (1, .int x1)]) dX3_harmOf_3 rfl (by decide) rfl ?_
  obtain ⟨N, hf⟩ := hf
  refine V_to [2, 3, 1, 0] rfl ?_
  exact vX3_harmOf_L4 hn N _ _ _ _ _ hf
def wX3_harmShown_B46 (n : Nat) (sh : Nat → Nat × Nat) (k5 : Nat → Nat → Int32 → Int32 → Int32 → gS → Prop) (k46 : Nat → Nat → Int32 → Int32 → Int32 → Int32 → Int32 → gS → Prop) (P : Int32 → gS → Prop) (a0 : Nat) (a1 : Nat) (x2 : Int32) (x3 : Int32) (x4 : Int32) (x5 : Int32) (x6 : Int32) (z : gS) : Prop := if x5 ≤ x6 then (∀ v8 : Int32, v8 = x4 + (1 : Int32) → k5 a0 a1 x2 x3 v8 z) else ((oO n sh a1 6) ∧ (wX10_markAt n sh a1 x4 x6 z (fun (r9 : Int32) (z10 : gS) => wX10_deedOf n sh r9 z10 (fun (r12 : Int32) (z13 : gS) => ∀ v14 : Int32, v14 = (x3 ||| ((1 : Int32) <<< (r12 &&& 31))) → (∀ v15 : Int32, v15 = x6 + (1 : Int32) → k46 a0 a1 x2 v14 x4 x5 v15 z13)))))
def wX3_harmShown_L46 (n : Nat) (sh : Nat → Nat × Nat) (k5 : Nat → Nat → Int32 → Int32 → Int32 → gS → Prop) (P : Int32 → gS → Prop) : Nat → Nat → Nat → Int32 → Int32 → Int32 → Int32 → Int32 → gS → Prop
  | 0, _, _, _, _, _, _, _, _ => False
  | N + 1, a0, a1, x2, x3, x4, x5, x6, z => wX3_harmShown_B46 n sh k5 (wX3_harmShown_L46 n sh k5 P N) P a0 a1 x2 x3 x4 x5 x6 z
set_option maxRecDepth 100000 in
set_option maxHeartbeats 4000000 in
theorem vX3_harmShown_B46 {E : gE} {n : Nat} {sh : Nat → Nat × Nat} {P : Int32 → gS → Prop} {k5 : Nat → Nat → Int32 → Int32 → Int32 → gS → Prop} {k46 : Nat → Nat → Int32 → Int32 → Int32 → Int32 → Int32 → gS → Prop} {a0 : Nat} {a1 : Nat} {x2 : Int32} {x3 : Int32} {x4 : Int32} {x5 : Int32} {x6 : Int32} {z : gS} (hn : gOK E n) (hk5 : ∀ (a0 : Nat) (a1 : Nat) (x2 : Int32) (x3 : Int32) (x4 : Int32) (z : gS), k5 a0 a1 x2 x3 x4 z → V E (gR 2 0) gyX3_harmShown 0 0 5 [(0, .ref a0), (1, .ref a1), (2, .int x2), (3, .int x3), (4, .int x4)] [] n sh z (kI n sh P)) (hk46 : ∀ (a0 : Nat) (a1 : Nat) (x2 : Int32) (x3 : Int32) (x4 : Int32) (x5 : Int32) (x6 : Int32) (z : gS), k46 a0 a1 x2 x3 x4 x5 x6 z → V E (gR 2 0) gyX3_harmShown 0 0 46 [(0, .ref a0), (1, .ref a1), (2, .int x2), (3, .int x3), (4, .int x4), (5, .int x5), (6, .int x6)] [] n sh z (kI n sh P)) (hf : wX3_harmShown_B46 n sh k5 k46 P a0 a1 x2 x3 x4 x5 x6 z) : V E (gR 2 0) gyX3_harmShown 0 0 46 [(0, .ref a0), (1, .ref a1), (2, .int x2), (3, .int x3), (4, .int x4), (5, .int x5), (6, .int x6)] [] n sh z (kI n sh P) := by
  unfold wX3_harmShown_B46 at hf
  refine V_iload (j := 6) dX3_harmShown_46 rfl ?_
  refine V_iload (j := 5) dX3_harmShown_48 rfl ?_
  refine V_icmp_ge (tgt := 75) dX3_harmShown_50 (by decide) (fun h16 => ?_) (fun h16 => ?_)
  · have hf := it_t h16 hf
    obtain ⟨v8, ev8⟩ : ∃ y : Int32, y = x4 + (1 : Int32) := ⟨_, rfl⟩
    refine V_iinc (j := 4) (v := v8) (ls2 := [(4, .int v8), (0, .ref a0), (1, .ref a1), (2, .int x2), (3, .int x3), (5, .int x5), (6, .int x6)]) dX3_harmShown_75 rfl (by rw [ev8]; rfl) (by decide) rfl ?_
    have hf := hf v8 ev8
    refine V_goto (tgt := 5) dX3_harmShown_78 (by decide) ?_
    refine V_to [1, 2, 3, 4, 0] rfl ?_
    exact hk5 _ _ _ _ _ _ hf
  · have hf := it_f h16 hf
    refine V_iload_n (j := 3) dX3_harmShown_53 rfl rfl ?_
    refine V_iconst (v := (1 : Int32)) dX3_harmShown_54 (by decide) ?_
    refine V_aload_n (j := 1) dX3_harmShown_55 rfl rfl ?_
    refine V_iload (j := 4) dX3_harmShown_56 rfl ?_
    refine V_iload (j := 6) dX3_harmShown_58 rfl ?_
    obtain ⟨h11, hf⟩ := hf
    refine V_cVI (ctX10_markAt hn hf) gc_X3_37 rfl h11.1 ⟨_, h11.2, by decide, rfl⟩ ⟨by decide, by decide, Nat.zero_le _, Nat.zero_le _⟩ (Nat.le_of_ble_eq_true rfl) dX3_harmShown_60 rfl hn (fun r9 z10 hf => ?_)
    refine V_cSI (ctX10_deedOf hn hf) gc_X3_40 rfl ⟨by decide, by decide, Nat.zero_le _, Nat.zero_le _⟩ (Nat.le_of_ble_eq_true rfl) dX3_harmShown_63 rfl hn (fun r12 z13 hf => ?_)
    refine V_ishl dX3_harmShown_66 ?_
    refine V_ior dX3_harmShown_67 ?_
    refine V_nI (fun v14 ev14 => ?_)
    have hf := hf v14 ev14
    refine V_istore_n (ls2 := [(3, .int v14), (0, .ref a0), (1, .ref a1), (2, .int x2), (4, .int x4), (5, .int x5), (6, .int x6)]) dX3_harmShown_68 rfl (by decide) rfl ?_
    obtain ⟨v15, ev15⟩ : ∃ y : Int32, y = x6 + (1 : Int32) := ⟨_, rfl⟩
    refine V_iinc (j := 6) (v := v15) (ls2 := [(6, .int v15), (3, .int v14), (0, .ref a0), (1, .ref a1), (2, .int x2), (4, .int x4), (5, .int x5)]) dX3_harmShown_69 rfl (by rw [ev15]; rfl) (by decide) rfl ?_
    have hf := hf v15 ev15
    refine V_goto (tgt := 46) dX3_harmShown_72 (by decide) ?_
    refine V_to [2, 3, 4, 1, 5, 6, 0] rfl ?_
    exact hk46 _ _ _ _ _ _ _ _ hf
set_option maxRecDepth 100000 in
set_option maxHeartbeats 4000000 in
theorem vX3_harmShown_L46 {E : gE} {n : Nat} {sh : Nat → Nat × Nat} {P : Int32 → gS → Prop} {k5 : Nat → Nat → Int32 → Int32 → Int32 → gS → Prop} (hn : gOK E n) (hk5 : ∀ (a0 : Nat) (a1 : Nat) (x2 : Int32) (x3 : Int32) (x4 : Int32) (z : gS), k5 a0 a1 x2 x3 x4 z → V E (gR 2 0) gyX3_harmShown 0 0 5 [(0, .ref a0), (1, .ref a1), (2, .int x2), (3, .int x3), (4, .int x4)] [] n sh z (kI n sh P)) : ∀ (N : Nat) (a0 : Nat) (a1 : Nat) (x2 : Int32) (x3 : Int32) (x4 : Int32) (x5 : Int32) (x6 : Int32) (z : gS), wX3_harmShown_L46 n sh k5 P N a0 a1 x2 x3 x4 x5 x6 z → V E (gR 2 0) gyX3_harmShown 0 0 46 [(0, .ref a0), (1, .ref a1), (2, .int x2), (3, .int x3), (4, .int x4), (5, .int x5), (6, .int x6)] [] n sh z (kI n sh P) := by
  intro N
  induction N with
  | zero => intro a0 a1 x2 x3 x4 x5 x6 z hf; exact False.elim hf
  | succ N ih => intro a0 a1 x2 x3 x4 x5 x6 z hf; exact vX3_harmShown_B46 hn hk5 ih hf
def wX3_harmShown_J34 (n : Nat) (sh : Nat → Nat × Nat) (k5 : Nat → Nat → Int32 → Int32 → Int32 → gS → Prop) (P : Int32 → gS → Prop) (a0 : Nat) (a1 : Nat) (x2 : Int32) (x3 : Int32) (x4 : Int32) (s0 : Int32) (z : gS) : Prop := ∀ v7 : Int32, v7 = (if (0 : Int32) < (s0 - x2) then (s0 - x2) else (0 : Int32)) → ((∃ N, wX3_harmShown_L46 n sh k5 P N a0 a1 x2 x3 x4 s0 v7 z))
set_option maxRecDepth 100000 in
set_option maxHeartbeats 4000000 in
theorem vX3_harmShown_J34 {E : gE} {n : Nat} {sh : Nat → Nat × Nat} {P : Int32 → gS → Prop} {k5 : Nat → Nat → Int32 → Int32 → Int32 → gS → Prop} {a0 : Nat} {a1 : Nat} {x2 : Int32} {x3 : Int32} {x4 : Int32} {s0 : Int32} {z : gS} (hn : gOK E n) (hk5 : ∀ (a0 : Nat) (a1 : Nat) (x2 : Int32) (x3 : Int32) (x4 : Int32) (z : gS), k5 a0 a1 x2 x3 x4 z → V E (gR 2 0) gyX3_harmShown 0 0 5 [(0, .ref a0), (1, .ref a1), (2, .int x2), (3, .int x3), (4, .int x4)] [] n sh z (kI n sh P)) (hf : wX3_harmShown_J34 n sh k5 P a0 a1 x2 x3 x4 s0 z) : V E (gR 2 0) gyX3_harmShown 0 0 34 [(0, .ref a0), (1, .ref a1), (2, .int x2), (3, .int x3), (4, .int x4)] [.int s0] n sh z (kI n sh P) := by
  unfold wX3_harmShown_J34 at hf
  refine V_istore (ls2 := [(5, .int s0), (0, .ref a0), (1, .ref a1), (2, .int x2), (3, .int x3), (4, .int x4)]) dX3_harmShown_34 (by decide) rfl ?_
  refine V_iconst (v := (0 : Int32)) dX3_harmShown_36 (by decide) ?_
  refine V_iload (j := 0) dX3_harmShown_37 rfl ?_
  refine V_iload_n (j := 3) dX3_harmShown_39 rfl rfl ?_
  refine V_isub dX3_harmShown_40 ?_
  refine V_max ma_X3_31 mas_max mai mac_max ⟨by decide, by decide, Nat.zero_le _, Nat.zero_le _⟩ (Nat.le_of_ble_eq_true rfl) dX3_harmShown_41 ?_
  refine V_nI (fun v7 ev7 => ?_)
  have hf := hf v7 ev7
  refine V_istore (ls2 := [(6, .int v7), (5, .int s0), (0, .ref a0), (1, .ref a1), (2, .int x2), (3, .int x3), (4, .int x4)]) dX3_harmShown_44 (by decide) rfl ?_
  obtain ⟨N, hf⟩ := hf
  refine V_to [2, 3, 4, 5, 6, 1, 0] rfl ?_
  exact vX3_harmShown_L46 hn hk5 N _ _ _ _ _ _ _ _ hf
def wX3_harmShown_B5 (n : Nat) (sh : Nat → Nat × Nat) (k5 : Nat → Nat → Int32 → Int32 → Int32 → gS → Prop) (P : Int32 → gS → Prop) (a0 : Nat) (a1 : Nat) (x2 : Int32) (x3 : Int32) (x4 : Int32) (z : gS) : Prop := (oO n sh a0 4) ∧ (if (gi z a0 10) ≤ x4 then (wX3_harmOf n sh a0 x3 z (fun (r2 : Int32) (z3 : gS) => P r2 z3)) else ((oO n sh a1 6) ∧ (wX10_isOpenToAll n sh a1 x4 z (fun (r4 : Int32) (z5 : gS) => if r4 = 0 then wX3_harmShown_J34 n sh k5 P a0 a1 x2 x3 x4 (0 : Int32) z5 else (∃ t17 : Nat, gr z5 a1 6 = some t17 ∧ ((oA n sh t17 1) ∧ ((vp_in x4 (sh t17).2) ∧ wX3_harmShown_J34 n sh k5 P a0 a1 x2 x3 x4 (gi z5 t17 x4.toNatClampNeg) z5)))))))
def wX3_harmShown_L5 (n : Nat) (sh : Nat → Nat × Nat) (P : Int32 → gS → Prop) : Nat → Nat → Nat → Int32 → Int32 → Int32 → gS → Prop
  | 0, _, _, _, _, _, _ => False
  | N + 1, a0, a1, x2, x3, x4, z => wX3_harmShown_B5 n sh (wX3_harmShown_L5 n sh P N) P a0 a1 x2 x3 x4 z
set_option maxRecDepth 100000 in
set_option maxHeartbeats 4000000 in
theorem vX3_harmShown_B5 {E : gE} {n : Nat} {sh : Nat → Nat × Nat} {P : Int32 → gS → Prop} {k5 : Nat → Nat → Int32 → Int32 → Int32 → gS → Prop} {a0 : Nat} {a1 : Nat} {x2 : Int32} {x3 : Int32} {x4 : Int32} {z : gS} (hn : gOK E n) (hk5 : ∀ (a0 : Nat) (a1 : Nat) (x2 : Int32) (x3 : Int32) (x4 : Int32) (z : gS), k5 a0 a1 x2 x3 x4 z → V E (gR 2 0) gyX3_harmShown 0 0 5 [(0, .ref a0), (1, .ref a1), (2, .int x2), (3, .int x3), (4, .int x4)] [] n sh z (kI n sh P)) (hf : wX3_harmShown_B5 n sh k5 P a0 a1 x2 x3 x4 z) : V E (gR 2 0) gyX3_harmShown 0 0 5 [(0, .ref a0), (1, .ref a1), (2, .int x2), (3, .int x3), (4, .int x4)] [] n sh z (kI n sh P) := by
  unfold wX3_harmShown_B5 at hf
  refine V_iload (j := 4) dX3_harmShown_5 rfl ?_
  refine V_aload_n (j := 0) dX3_harmShown_7 rfl rfl ?_
  obtain ⟨h1, hf⟩ := hf
  refine V_getI fl_X3_19 rfl h1.1 h1.2 dX3_harmShown_8 ?_
  refine V_icmp_ge (tgt := 81) dX3_harmShown_11 (by decide) (fun h21 => ?_) (fun h21 => ?_)
  · have hf := it_t h21 hf
    refine V_aload_n (j := 0) dX3_harmShown_81 rfl rfl ?_
    refine V_iload_n (j := 3) dX3_harmShown_82 rfl rfl ?_
    refine V_cSI (ctX3_harmOf hn hf) gc_X3_44 rfl ⟨by decide, by decide, Nat.zero_le _, Nat.zero_le _⟩ (Nat.le_of_ble_eq_true rfl) dX3_harmShown_83 rfl hn (fun r2 z3 hf => ?_)
    exact V_ireturn dX3_harmShown_86 rfl rfl (Nat.le_refl 0) (kI_of hf)
  · have hf := it_f h21 hf
    refine V_aload_n (j := 1) dX3_harmShown_14 rfl rfl ?_
    refine V_iload (j := 4) dX3_harmShown_15 rfl ?_
    obtain ⟨h6, hf⟩ := hf
    refine V_cVI (ctX10_isOpenToAll hn hf) gc_X3_22 rfl h6.1 ⟨_, h6.2, by decide, rfl⟩ ⟨by decide, by decide, Nat.zero_le _, Nat.zero_le _⟩ (Nat.le_of_ble_eq_true rfl) dX3_harmShown_17 rfl hn (fun r4 z5 hf => ?_)
    refine V_if_eq (tgt := 33) dX3_harmShown_20 (by decide) (fun h20 => ?_) (fun h20 => ?_)
    · have hf := it_t h20 hf
      refine V_iconst (v := (0 : Int32)) dX3_harmShown_33 (by decide) ?_
      exact vX3_harmShown_J34 hn hk5 hf
    · have hf := it_f h20 hf
      refine V_aload_n (j := 1) dX3_harmShown_23 rfl rfl ?_
      obtain ⟨t17, et17, hf⟩ := hf
      refine V_getR fl_X3_28 rfl h6.1 h6.2 et17 dX3_harmShown_24 ?_
      refine V_iload (j := 4) dX3_harmShown_27 rfl ?_
      obtain ⟨h18, hf⟩ := hf
      obtain ⟨h19, hf⟩ := hf
      refine V_iald h18.1 h18.s h19 dX3_harmShown_29 ?_
      refine V_goto (tgt := 34) dX3_harmShown_30 (by decide) ?_
      exact vX3_harmShown_J34 hn hk5 hf
set_option maxRecDepth 100000 in
set_option maxHeartbeats 4000000 in
theorem vX3_harmShown_L5 {E : gE} {n : Nat} {sh : Nat → Nat × Nat} {P : Int32 → gS → Prop} (hn : gOK E n) : ∀ (N : Nat) (a0 : Nat) (a1 : Nat) (x2 : Int32) (x3 : Int32) (x4 : Int32) (z : gS), wX3_harmShown_L5 n sh P N a0 a1 x2 x3 x4 z → V E (gR 2 0) gyX3_harmShown 0 0 5 [(0, .ref a0), (1, .ref a1), (2, .int x2), (3, .int x3), (4, .int x4)] [] n sh z (kI n sh P) := by
  intro N
  induction N with
  | zero => intro a0 a1 x2 x3 x4 z hf; exact False.elim hf
  | succ N ih => intro a0 a1 x2 x3 x4 z hf; exact vX3_harmShown_B5 hn ih hf
def wX3_harmShown (n : Nat) (sh : Nat → Nat × Nat) (a0 : Nat) (a1 : Nat) (x2 : Int32) (z : gS) (P : Int32 → gS → Prop) : Prop := (∃ N, wX3_harmShown_L5 n sh P N a0 a1 x2 (0 : Int32) (0 : Int32) z)
set_option maxRecDepth 100000 in
set_option maxHeartbeats 4000000 in
theorem ctX3_harmShown {E : gE} {n : Nat} {sh : Nat → Nat × Nat} {a0 : Nat} {a1 : Nat} {x2 : Int32} {z : gS} {P : Int32 → gS → Prop} (hn : gOK E n) (hf : wX3_harmShown n sh a0 a1 x2 z P) : VM E 2 0 gyX3_harmShown [.ref a0, .ref a1, .int x2] n sh z (kI n sh P) := by
  unfold wX3_harmShown at hf
  refine VM.of (by decide +kernel) (Nat.le_of_ble_eq_true rfl) (fun _ _ _ h => h.2.2) ?_
  show V E (gR 2 0) gyX3_harmShown 0 0 0 [(0, .ref a0), (1, .ref a1), (2, .int x2)] [] n sh z (kI n sh P)
  refine V_iconst (v := (0 : Int32)) dX3_harmShown_0 (by decide) ?_
  refine V_istore_n (ls2 := [(3, .int (0 : Int32)), (0, .ref a0), (1, .ref a1), (2, .int x2)]) dX3_harmShown_1 rfl (by decide) rfl ?_
  refine V_iconst (v := (0 : Int32)) dX3_harmShown_2 (by decide) ?_
  refine V_istore (ls2 := [(4, .int (0 : Int32)), (3, .int (0 : Int32)), (0, .ref a0), (1, .ref a1), (2, .int x2)]) dX3_harmShown_3 (by decide) rfl ?_
  obtain ⟨N, hf⟩ := hf
  refine V_to [2, 3, 4, 1, 0] rfl ?_
  exact vX3_harmShown_L5 hn N _ _ _ _ _ _ hf
def wX11_judged (n : Nat) (sh : Nat → Nat × Nat) (a0 : Nat) (x1 : Int32) (z : gS) (P : Int32 → gS → Prop) : Prop := if x1 < 0 then P (-2 : Int32) z else (if x1 ≤ (2 : Int32) then ((oO n sh a0 7) ∧ (∃ t2 : Nat, gr z a0 9 = some t2 ∧ (∃ t3 : Nat, gr z a0 7 = some t3 ∧ (∃ t4 : Nat, gr z a0 2 = some t4 ∧ ((oO n sh t2 0) ∧ (wX0_play n sh t2 t3 t4 z (fun (z6 : gS) => if x1 = 0 then (∃ t15 : Nat, gr z6 a0 9 = some t15 ∧ ((oO n sh t15 0) ∧ P (gi z6 t15 4) z6)) else (if x1 = (1 : Int32) then (∃ t12 : Nat, gr z6 a0 9 = some t12 ∧ ((oO n sh t12 0) ∧ P (gi z6 t12 5) z6)) else (∃ t8 : Nat, gr z6 a0 7 = some t8 ∧ (∃ t9 : Nat, gr z6 a0 2 = some t9 ∧ (wX3_harmShown n sh t8 t9 (6 : Int32) z6 (fun (r10 : Int32) (z11 : gS) => P r10 z11)))))))))))) else P (-2 : Int32) z)
set_option maxRecDepth 100000 in
set_option maxHeartbeats 4000000 in
theorem ctX11_judged {E : gE} {n : Nat} {sh : Nat → Nat × Nat} {a0 : Nat} {x1 : Int32} {z : gS} {P : Int32 → gS → Prop} (hn : gOK E n) (hf : wX11_judged n sh a0 x1 z P) : VM E 6 0 gyX11_judged [.ref a0, .int x1] n sh z (kI n sh P) := by
  unfold wX11_judged at hf
  refine VM.of (by decide +kernel) (Nat.le_of_ble_eq_true rfl) (fun _ _ _ h => h.2.2) ?_
  show V E (gR 6 0) gyX11_judged 0 0 0 [(0, .ref a0), (1, .int x1)] [] n sh z (kI n sh P)
  refine V_iload_n (j := 1) dX11_judged_0 rfl rfl ?_
  refine V_if_lt (tgt := 9) dX11_judged_1 (by decide) (fun h19 => ?_) (fun h19 => ?_)
  · have hf := it_t h19 hf
    refine V_bipush (v := (-2 : Int32)) dX11_judged_9 (by decide) ?_
    exact V_ireturn dX11_judged_11 rfl rfl (Nat.le_refl 0) (kI_of hf)
  · have hf := it_f h19 hf
    refine V_iload_n (j := 1) dX11_judged_4 rfl rfl ?_
    refine V_iconst (v := (2 : Int32)) dX11_judged_5 (by decide) ?_
    refine V_icmp_le (tgt := 12) dX11_judged_6 (by decide) (fun h18 => ?_) (fun h18 => ?_)
    · have hf := it_t h18 hf
      refine V_aload_n (j := 0) dX11_judged_12 rfl rfl ?_
      obtain ⟨h1, hf⟩ := hf
      obtain ⟨t2, et2, hf⟩ := hf
      refine V_getR fl_X11_61 rfl h1.1 h1.2 et2 dX11_judged_13 ?_
      refine V_aload_n (j := 0) dX11_judged_16 rfl rfl ?_
      obtain ⟨t3, et3, hf⟩ := hf
      refine V_getR fl_X11_51 rfl h1.1 h1.2 et3 dX11_judged_17 ?_
      refine V_aload_n (j := 0) dX11_judged_20 rfl rfl ?_
      obtain ⟨t4, et4, hf⟩ := hf
      refine V_getR fl_X11_23 rfl h1.1 h1.2 et4 dX11_judged_21 ?_
      obtain ⟨h7, hf⟩ := hf
      refine V_cVN (ctX0_play hn hf) gc_X11_193 rfl h7.1 ⟨_, h7.2, by decide, rfl⟩ ⟨by decide, by decide, Nat.zero_le _, Nat.zero_le _⟩ (Nat.le_of_ble_eq_true rfl) dX11_judged_24 rfl hn (fun z6 hf => ?_)
      refine V_iload_n (j := 1) dX11_judged_27 rfl rfl ?_
      refine V_if_ne (tgt := 39) dX11_judged_28 (by decide) (fun h17 => ?_) (fun h17 => ?_)
      · have hf := it_f h17 hf
        refine V_iload_n (j := 1) dX11_judged_39 rfl rfl ?_
        refine V_iconst (v := (1 : Int32)) dX11_judged_40 (by decide) ?_
        refine V_icmp_ne (tgt := 54) dX11_judged_41 (by decide) (fun h14 => ?_) (fun h14 => ?_)
        · have hf := it_f h14 hf
          refine V_aload_n (j := 0) dX11_judged_54 rfl rfl ?_
          obtain ⟨t8, et8, hf⟩ := hf
          refine V_getR fl_X11_51 rfl h1.1 h1.2 et8 dX11_judged_55 ?_
          refine V_aload_n (j := 0) dX11_judged_58 rfl rfl ?_
          obtain ⟨t9, et9, hf⟩ := hf
          refine V_getR fl_X11_23 rfl h1.1 h1.2 et9 dX11_judged_59 ?_
          refine V_bipush (v := (6 : Int32)) dX11_judged_62 (by decide) ?_
          refine V_cSI (ctX3_harmShown hn hf) gc_X11_203 rfl ⟨by decide, by decide, Nat.zero_le _, Nat.zero_le _⟩ (Nat.le_of_ble_eq_true rfl) dX11_judged_64 rfl hn (fun r10 z11 hf => ?_)
          exact V_ireturn dX11_judged_67 rfl rfl (Nat.le_refl 0) (kI_of hf)
        · have hf := it_t (Classical.not_not.mp h14) hf
          refine V_aload_n (j := 0) dX11_judged_44 rfl rfl ?_
          obtain ⟨t12, et12, hf⟩ := hf
          refine V_getR fl_X11_61 rfl h1.1 h1.2 et12 dX11_judged_45 ?_
          obtain ⟨h13, hf⟩ := hf
          refine V_getI fl_X11_200 rfl h13.1 h13.2 dX11_judged_48 ?_
          refine V_goto (tgt := 67) dX11_judged_51 (by decide) ?_
          exact V_ireturn dX11_judged_67 rfl rfl (Nat.le_refl 0) (kI_of hf)
      · have hf := it_t (Classical.not_not.mp h17) hf
        refine V_aload_n (j := 0) dX11_judged_31 rfl rfl ?_
        obtain ⟨t15, et15, hf⟩ := hf
        refine V_getR fl_X11_61 rfl h1.1 h1.2 et15 dX11_judged_32 ?_
        obtain ⟨h16, hf⟩ := hf
        refine V_getI fl_X11_197 rfl h16.1 h16.2 dX11_judged_35 ?_
        exact V_ireturn dX11_judged_38 rfl rfl (Nat.le_refl 0) (kI_of hf)
    · have hf := it_f h18 hf
      refine V_bipush (v := (-2 : Int32)) dX11_judged_9 (by decide) ?_
      exact V_ireturn dX11_judged_11 rfl rfl (Nat.le_refl 0) (kI_of hf)
def wX3_allPanes (n : Nat) (sh : Nat → Nat × Nat) (a0 : Nat) (z : gS) (P : Int32 → gS → Prop) : Prop := (oO n sh a0 4) ∧ P (((1 : Int32) <<< ((gi z a0 10) &&& 31)) - (1 : Int32)) z
set_option maxRecDepth 100000 in
set_option maxHeartbeats 4000000 in
theorem ctX3_allPanes {E : gE} {n : Nat} {sh : Nat → Nat × Nat} {a0 : Nat} {z : gS} {P : Int32 → gS → Prop} (hn : gOK E n) (hf : wX3_allPanes n sh a0 z P) : VM E 0 0 gyX3_allPanes [.ref a0] n sh z (kI n sh P) := by
  unfold wX3_allPanes at hf
  refine VM.of (by decide +kernel) (Nat.le_of_ble_eq_true rfl) (fun _ _ _ h => h.2.2) ?_
  show V E (gR 0 0) gyX3_allPanes 0 0 0 [(0, .ref a0)] [] n sh z (kI n sh P)
  refine V_iconst (v := (1 : Int32)) dX3_allPanes_0 (by decide) ?_
  refine V_aload_n (j := 0) dX3_allPanes_1 rfl rfl ?_
  obtain ⟨h1, hf⟩ := hf
  refine V_getI fl_X3_19 rfl h1.1 h1.2 dX3_allPanes_2 ?_
  refine V_ishl dX3_allPanes_5 ?_
  refine V_iconst (v := (1 : Int32)) dX3_allPanes_6 (by decide) ?_
  refine V_isub dX3_allPanes_7 ?_
  exact V_ireturn dX3_allPanes_8 rfl rfl (Nat.le_refl 0) (kI_of hf)
def wX3_isShownOf (n : Nat) (sh : Nat → Nat × Nat) (a0 : Nat) (a1 : Nat) (x2 : Int32) (x3 : Int32) (x4 : Int32) (z : gS) (P : Int32 → gS → Prop) : Prop := (oO n sh a1 6) ∧ (wX10_isOpenToAll n sh a1 x2 z (fun (r1 : Int32) (z2 : gS) => if r1 = 0 then P (0 : Int32) z2 else (wX10_tellsWho n sh a1 a0 x2 z2 (fun (r4 : Int32) (z5 : gS) => if r4 = 0 then P (0 : Int32) z5 else (wX10_markAt n sh a1 x2 x3 z5 (fun (r6 : Int32) (z7 : gS) => wX10_whoOf n sh r6 z7 (fun (r8 : Int32) (z9 : gS) => if r8 = x4 then P (1 : Int32) z9 else P (0 : Int32) z9)))))))
set_option maxRecDepth 100000 in
set_option maxHeartbeats 4000000 in
theorem ctX3_isShownOf {E : gE} {n : Nat} {sh : Nat → Nat × Nat} {a0 : Nat} {a1 : Nat} {x2 : Int32} {x3 : Int32} {x4 : Int32} {z : gS} {P : Int32 → gS → Prop} (hn : gOK E n) (hf : wX3_isShownOf n sh a0 a1 x2 x3 x4 z P) : VM E 2 0 gyX3_isShownOf [.ref a0, .ref a1, .int x2, .int x3, .int x4] n sh z (kI n sh P) := by
  unfold wX3_isShownOf at hf
  refine VM.of (by decide +kernel) (Nat.le_of_ble_eq_true rfl) (fun _ _ _ h => h.2.2) ?_
  show V E (gR 2 0) gyX3_isShownOf 0 0 0 [(0, .ref a0), (1, .ref a1), (2, .int x2), (3, .int x3), (4, .int x4)] [] n sh z (kI n sh P)
  refine V_aload_n (j := 1) dX3_isShownOf_0 rfl rfl ?_
  refine V_iload_n (j := 2) dX3_isShownOf_1 rfl rfl ?_
  obtain ⟨h3, hf⟩ := hf
  refine V_cVI (ctX10_isOpenToAll hn hf) gc_X3_22 rfl h3.1 ⟨_, h3.2, by decide, rfl⟩ ⟨by decide, by decide, Nat.zero_le _, Nat.zero_le _⟩ (Nat.le_of_ble_eq_true rfl) dX3_isShownOf_2 rfl hn (fun r1 z2 hf => ?_)
  refine V_if_eq (tgt := 35) dX3_isShownOf_5 (by decide) (fun h12 => ?_) (fun h12 => ?_)
  · have hf := it_t h12 hf
    refine V_iconst (v := (0 : Int32)) dX3_isShownOf_35 (by decide) ?_
    exact V_ireturn dX3_isShownOf_36 rfl (by decide) (Nat.le_refl 0) (kI_of hf)
  · have hf := it_f h12 hf
    refine V_aload_n (j := 1) dX3_isShownOf_8 rfl rfl ?_
    refine V_aload_n (j := 0) dX3_isShownOf_9 rfl rfl ?_
    refine V_iload_n (j := 2) dX3_isShownOf_10 rfl rfl ?_
    refine V_cVI (ctX10_tellsWho hn hf) gc_X3_50 rfl h3.1 ⟨_, h3.2, by decide, rfl⟩ ⟨by decide, by decide, Nat.zero_le _, Nat.zero_le _⟩ (Nat.le_of_ble_eq_true rfl) dX3_isShownOf_11 rfl hn (fun r4 z5 hf => ?_)
    refine V_if_eq (tgt := 35) dX3_isShownOf_14 (by decide) (fun h11 => ?_) (fun h11 => ?_)
    · have hf := it_t h11 hf
      refine V_iconst (v := (0 : Int32)) dX3_isShownOf_35 (by decide) ?_
      exact V_ireturn dX3_isShownOf_36 rfl (by decide) (Nat.le_refl 0) (kI_of hf)
    · have hf := it_f h11 hf
      refine V_aload_n (j := 1) dX3_isShownOf_17 rfl rfl ?_
      refine V_iload_n (j := 2) dX3_isShownOf_18 rfl rfl ?_
      refine V_iload_n (j := 3) dX3_isShownOf_19 rfl rfl ?_
      refine V_cVI (ctX10_markAt hn hf) gc_X3_37 rfl h3.1 ⟨_, h3.2, by decide, rfl⟩ ⟨by decide, by decide, Nat.zero_le _, Nat.zero_le _⟩ (Nat.le_of_ble_eq_true rfl) dX3_isShownOf_20 rfl hn (fun r6 z7 hf => ?_)
      refine V_cSI (ctX10_whoOf hn hf) gc_X3_54 rfl ⟨by decide, by decide, Nat.zero_le _, Nat.zero_le _⟩ (Nat.le_of_ble_eq_true rfl) dX3_isShownOf_23 rfl hn (fun r8 z9 hf => ?_)
      refine V_iload (j := 4) dX3_isShownOf_26 rfl ?_
      refine V_icmp_ne (tgt := 35) dX3_isShownOf_28 (by decide) (fun h10 => ?_) (fun h10 => ?_)
      · have hf := it_f h10 hf
        refine V_iconst (v := (0 : Int32)) dX3_isShownOf_35 (by decide) ?_
        exact V_ireturn dX3_isShownOf_36 rfl (by decide) (Nat.le_refl 0) (kI_of hf)
      · have hf := it_t (Classical.not_not.mp h10) hf
        refine V_iconst (v := (1 : Int32)) dX3_isShownOf_31 (by decide) ?_
        refine V_goto (tgt := 36) dX3_isShownOf_32 (by decide) ?_
        exact V_ireturn dX3_isShownOf_36 rfl (by decide) (Nat.le_refl 0) (kI_of hf)
def wX3_deedsShownOf_J78 (n : Nat) (sh : Nat → Nat × Nat) (k6 : Nat → Nat → Int32 → Int32 → Int32 → Int32 → gS → Prop) (k40 : Nat → Nat → Int32 → Int32 → Int32 → Int32 → Int32 → Int32 → gS → Prop) (P : Int32 → gS → Prop) (a0 : Nat) (a1 : Nat) (x2 : Int32) (x3 : Int32) (x4 : Int32) (x5 : Int32) (x6 : Int32) (x7 : Int32) (z : gS) : Prop := ∀ v5 : Int32, v5 = x7 + (1 : Int32) → k40 a0 a1 x2 x3 x4 x5 x6 v5 z
set_option maxRecDepth 100000 in
set_option maxHeartbeats 4000000 in
theorem vX3_deedsShownOf_J78 {E : gE} {n : Nat} {sh : Nat → Nat × Nat} {P : Int32 → gS → Prop} {k6 : Nat → Nat → Int32 → Int32 → Int32 → Int32 → gS → Prop} {k40 : Nat → Nat → Int32 → Int32 → Int32 → Int32 → Int32 → Int32 → gS → Prop} {a0 : Nat} {a1 : Nat} {x2 : Int32} {x3 : Int32} {x4 : Int32} {x5 : Int32} {x6 : Int32} {x7 : Int32} {z : gS} (hn : gOK E n) (hk6 : ∀ (a0 : Nat) (a1 : Nat) (x2 : Int32) (x3 : Int32) (x4 : Int32) (x5 : Int32) (z : gS), k6 a0 a1 x2 x3 x4 x5 z → V E (gR 3 0) gyX3_deedsShownOf 0 0 6 [(0, .ref a0), (1, .ref a1), (2, .int x2), (3, .int x3), (4, .int x4), (5, .int x5)] [] n sh z (kI n sh P)) (hk40 : ∀ (a0 : Nat) (a1 : Nat) (x2 : Int32) (x3 : Int32) (x4 : Int32) (x5 : Int32) (x6 : Int32) (x7 : Int32) (z : gS), k40 a0 a1 x2 x3 x4 x5 x6 x7 z → V E (gR 3 0) gyX3_deedsShownOf 0 0 40 [(0, .ref a0), (1, .ref a1), (2, .int x2), (3, .int x3), (4, .int x4), (5, .int x5), (6, .int x6), (7, .int x7)] [] n sh z (kI n sh P)) (hf : wX3_deedsShownOf_J78 n sh k6 k40 P a0 a1 x2 x3 x4 x5 x6 x7 z) : V E (gR 3 0) gyX3_deedsShownOf 0 0 78 [(0, .ref a0), (1, .ref a1), (2, .int x2), (3, .int x3), (4, .int x4), (5, .int x5), (6, .int x6), (7, .int x7)] [] n sh z (kI n sh P) := by
  unfold wX3_deedsShownOf_J78 at hf
  obtain ⟨v5, ev5⟩ : ∃ y : Int32, y = x7 + (1 : Int32) := ⟨_, rfl⟩
  refine V_iinc (j := 7) (v := v5) (ls2 := [(7, .int v5), (0, .ref a0), (1, .ref a1), (2, .int x2), (3, .int x3), (4, .int x4), (5, .int x5), (6, .int x6)]) dX3_deedsShownOf_78 rfl (by rw [ev5]; rfl) (by decide) rfl ?_
  have hf := hf v5 ev5
  refine V_goto (tgt := 40) dX3_deedsShownOf_81 (by decide) ?_
  refine V_to [1, 2, 3, 4, 5, 6, 7, 0] rfl ?_
  exact hk40 _ _ _ _ _ _ _ _ _ hf
def wX3_deedsShownOf_B40 (n : Nat) (sh : Nat → Nat × Nat) (k6 : Nat → Nat → Int32 → Int32 → Int32 → Int32 → gS → Prop) (k40 : Nat → Nat → Int32 → Int32 → Int32 → Int32 → Int32 → Int32 → gS → Prop) (P : Int32 → gS → Prop) (a0 : Nat) (a1 : Nat) (x2 : Int32) (x3 : Int32) (x4 : Int32) (x5 : Int32) (x6 : Int32) (x7 : Int32) (z : gS) : Prop := if x6 ≤ x7 then (∀ v2 : Int32, v2 = x5 + (1 : Int32) → k6 a0 a1 x2 x3 x4 v2 z) else (wX3_isShownOf n sh a0 a1 x5 x7 x3 z (fun (r3 : Int32) (z4 : gS) => if r3 = 0 then wX3_deedsShownOf_J78 n sh k6 k40 P a0 a1 x2 x3 x4 x5 x6 x7 z4 else ((oO n sh a1 6) ∧ (wX10_markAt n sh a1 x5 x7 z4 (fun (r6 : Int32) (z7 : gS) => wX10_deedOf n sh r6 z7 (fun (r9 : Int32) (z10 : gS) => ∀ v11 : Int32, v11 = (x4 ||| ((1 : Int32) <<< (r9 &&& 31))) → wX3_deedsShownOf_J78 n sh k6 k40 P a0 a1 x2 x3 v11 x5 x6 x7 z10))))))
def wX3_deedsShownOf_L40 (n : Nat) (sh : Nat → Nat × Nat) (k6 : Nat → Nat → Int32 → Int32 → Int32 → Int32 → gS → Prop) (P : Int32 → gS → Prop) : Nat → Nat → Nat → Int32 → Int32 → Int32 → Int32 → Int32 → Int32 → gS → Prop
  | 0, _, _, _, _, _, _, _, _, _ => False
  | N + 1, a0, a1, x2, x3, x4, x5, x6, x7, z => wX3_deedsShownOf_B40 n sh k6 (wX3_deedsShownOf_L40 n sh k6 P N) P a0 a1 x2 x3 x4 x5 x6 x7 z
set_option maxRecDepth 100000 in
set_option maxHeartbeats 4000000 in
theorem vX3_deedsShownOf_B40 {E : gE} {n : Nat} {sh : Nat → Nat × Nat} {P : Int32 → gS → Prop} {k6 : Nat → Nat → Int32 → Int32 → Int32 → Int32 → gS → Prop} {k40 : Nat → Nat → Int32 → Int32 → Int32 → Int32 → Int32 → Int32 → gS → Prop} {a0 : Nat} {a1 : Nat} {x2 : Int32} {x3 : Int32} {x4 : Int32} {x5 : Int32} {x6 : Int32} {x7 : Int32} {z : gS} (hn : gOK E n) (hk6 : ∀ (a0 : Nat) (a1 : Nat) (x2 : Int32) (x3 : Int32) (x4 : Int32) (x5 : Int32) (z : gS), k6 a0 a1 x2 x3 x4 x5 z → V E (gR 3 0) gyX3_deedsShownOf 0 0 6 [(0, .ref a0), (1, .ref a1), (2, .int x2), (3, .int x3), (4, .int x4), (5, .int x5)] [] n sh z (kI n sh P)) (hk40 : ∀ (a0 : Nat) (a1 : Nat) (x2 : Int32) (x3 : Int32) (x4 : Int32) (x5 : Int32) (x6 : Int32) (x7 : Int32) (z : gS), k40 a0 a1 x2 x3 x4 x5 x6 x7 z → V E (gR 3 0) gyX3_deedsShownOf 0 0 40 [(0, .ref a0), (1, .ref a1), (2, .int x2), (3, .int x3), (4, .int x4), (5, .int x5), (6, .int x6), (7, .int x7)] [] n sh z (kI n sh P)) (hf : wX3_deedsShownOf_B40 n sh k6 k40 P a0 a1 x2 x3 x4 x5 x6 x7 z) : V E (gR 3 0) gyX3_deedsShownOf 0 0 40 [(0, .ref a0), (1, .ref a1), (2, .int x2), (3, .int x3), (4, .int x4), (5, .int x5), (6, .int x6), (7, .int x7)] [] n sh z (kI n sh P) := by
  unfold wX3_deedsShownOf_B40 at hf
  refine V_iload (j := 7) dX3_deedsShownOf_40 rfl ?_
  refine V_iload (j := 6) dX3_deedsShownOf_42 rfl ?_
  refine V_icmp_ge (tgt := 84) dX3_deedsShownOf_44 (by decide) (fun h13 => ?_) (fun h13 => ?_)
  · have hf := it_t h13 hf
    obtain ⟨v2, ev2⟩ : ∃ y : Int32, y = x5 + (1 : Int32) := ⟨_, rfl⟩
    refine V_iinc (j := 5) (v := v2) (ls2 := [(5, .int v2), (0, .ref a0), (1, .ref a1), (2, .int x2), (3, .int x3), (4, .int x4), (6, .int x6), (7, .int x7)]) dX3_deedsShownOf_84 rfl (by rw [ev2]; rfl) (by decide) rfl ?_
    have hf := hf v2 ev2
    refine V_goto (tgt := 6) dX3_deedsShownOf_87 (by decide) ?_
    refine V_to [1, 2, 3, 4, 5, 0] rfl ?_
    exact hk6 _ _ _ _ _ _ _ hf
  · have hf := it_f h13 hf
    refine V_aload_n (j := 0) dX3_deedsShownOf_47 rfl rfl ?_
    refine V_aload_n (j := 1) dX3_deedsShownOf_48 rfl rfl ?_
    refine V_iload (j := 5) dX3_deedsShownOf_49 rfl ?_
    refine V_iload (j := 7) dX3_deedsShownOf_51 rfl ?_
    refine V_iload_n (j := 3) dX3_deedsShownOf_53 rfl rfl ?_
    refine V_cSI (ctX3_isShownOf hn hf) gc_X3_57 rfl ⟨by decide, by decide, Nat.zero_le _, Nat.zero_le _⟩ (Nat.le_of_ble_eq_true rfl) dX3_deedsShownOf_54 rfl hn (fun r3 z4 hf => ?_)
    refine V_if_eq (tgt := 78) dX3_deedsShownOf_57 (by decide) (fun h12 => ?_) (fun h12 => ?_)
    · have hf := it_t h12 hf
      exact vX3_deedsShownOf_J78 hn hk6 hk40 hf
    · have hf := it_f h12 hf
      refine V_iload (j := 4) dX3_deedsShownOf_60 rfl ?_
      refine V_iconst (v := (1 : Int32)) dX3_deedsShownOf_62 (by decide) ?_
      refine V_aload_n (j := 1) dX3_deedsShownOf_63 rfl rfl ?_
      refine V_iload (j := 5) dX3_deedsShownOf_64 rfl ?_
      refine V_iload (j := 7) dX3_deedsShownOf_66 rfl ?_
      obtain ⟨h8, hf⟩ := hf
      refine V_cVI (ctX10_markAt hn hf) gc_X3_37 rfl h8.1 ⟨_, h8.2, by decide, rfl⟩ ⟨by decide, by decide, Nat.zero_le _, Nat.zero_le _⟩ (Nat.le_of_ble_eq_true rfl) dX3_deedsShownOf_68 rfl hn (fun r6 z7 hf => ?_)
      refine V_cSI (ctX10_deedOf hn hf) gc_X3_40 rfl ⟨by decide, by decide, Nat.zero_le _, Nat.zero_le _⟩ (Nat.le_of_ble_eq_true rfl) dX3_deedsShownOf_71 rfl hn (fun r9 z10 hf => ?_)
      refine V_ishl dX3_deedsShownOf_74 ?_
      refine V_ior dX3_deedsShownOf_75 ?_
      refine V_nI (fun v11 ev11 => ?_)
      have hf := hf v11 ev11
      refine V_istore (ls2 := [(4, .int v11), (0, .ref a0), (1, .ref a1), (2, .int x2), (3, .int x3), (5, .int x5), (6, .int x6), (7, .int x7)]) dX3_deedsShownOf_76 (by decide) rfl ?_
      refine V_to [1, 2, 3, 4, 0, 5, 6, 7] rfl ?_
      exact vX3_deedsShownOf_J78 hn hk6 hk40 hf
set_option maxRecDepth 100000 in
set_option maxHeartbeats 4000000 in
theorem vX3_deedsShownOf_L40 {E : gE} {n : Nat} {sh : Nat → Nat × Nat} {P : Int32 → gS → Prop} {k6 : Nat → Nat → Int32 → Int32 → Int32 → Int32 → gS → Prop} (hn : gOK E n) (hk6 : ∀ (a0 : Nat) (a1 : Nat) (x2 : Int32) (x3 : Int32) (x4 : Int32) (x5 : Int32) (z : gS), k6 a0 a1 x2 x3 x4 x5 z → V E (gR 3 0) gyX3_deedsShownOf 0 0 6 [(0, .ref a0), (1, .ref a1), (2, .int x2), (3, .int x3), (4, .int x4), (5, .int x5)] [] n sh z (kI n sh P)) : ∀ (N : Nat) (a0 : Nat) (a1 : Nat) (x2 : Int32) (x3 : Int32) (x4 : Int32) (x5 : Int32) (x6 : Int32) (x7 : Int32) (z : gS), wX3_deedsShownOf_L40 n sh k6 P N a0 a1 x2 x3 x4 x5 x6 x7 z → V E (gR 3 0) gyX3_deedsShownOf 0 0 40 [(0, .ref a0), (1, .ref a1), (2, .int x2), (3, .int x3), (4, .int x4), (5, .int x5), (6, .int x6), (7, .int x7)] [] n sh z (kI n sh P) := by
  intro N
  induction N with
  | zero => intro a0 a1 x2 x3 x4 x5 x6 x7 z hf; exact False.elim hf
  | succ N ih => intro a0 a1 x2 x3 x4 x5 x6 x7 z hf; exact vX3_deedsShownOf_B40 hn hk6 ih hf
def wX3_deedsShownOf_J35 (n : Nat) (sh : Nat → Nat × Nat) (k6 : Nat → Nat → Int32 → Int32 → Int32 → Int32 → gS → Prop) (P : Int32 → gS → Prop) (a0 : Nat) (a1 : Nat) (x2 : Int32) (x3 : Int32) (x4 : Int32) (x5 : Int32) (s0 : Int32) (z : gS) : Prop := (∃ N, wX3_deedsShownOf_L40 n sh k6 P N a0 a1 x2 x3 x4 x5 s0 (0 : Int32) z)
set_option maxRecDepth 100000 in
set_option maxHeartbeats 4000000 in
theorem vX3_deedsShownOf_J35 {E : gE} {n : Nat} {sh : Nat → Nat × Nat} {P : Int32 → gS → Prop} {k6 : Nat → Nat → Int32 → Int32 → Int32 → Int32 → gS → Prop} {a0 : Nat} {a1 : Nat} {x2 : Int32} {x3 : Int32} {x4 : Int32} {x5 : Int32} {s0 : Int32} {z : gS} (hn : gOK E n) (hk6 : ∀ (a0 : Nat) (a1 : Nat) (x2 : Int32) (x3 : Int32) (x4 : Int32) (x5 : Int32) (z : gS), k6 a0 a1 x2 x3 x4 x5 z → V E (gR 3 0) gyX3_deedsShownOf 0 0 6 [(0, .ref a0), (1, .ref a1), (2, .int x2), (3, .int x3), (4, .int x4), (5, .int x5)] [] n sh z (kI n sh P)) (hf : wX3_deedsShownOf_J35 n sh k6 P a0 a1 x2 x3 x4 x5 s0 z) : V E (gR 3 0) gyX3_deedsShownOf 0 0 35 [(0, .ref a0), (1, .ref a1), (2, .int x2), (3, .int x3), (4, .int x4), (5, .int x5)] [.int s0] n sh z (kI n sh P) := by
  unfold wX3_deedsShownOf_J35 at hf
  refine V_istore (ls2 := [(6, .int s0), (0, .ref a0), (1, .ref a1), (2, .int x2), (3, .int x3), (4, .int x4), (5, .int x5)]) dX3_deedsShownOf_35 (by decide) rfl ?_
  refine V_iconst (v := (0 : Int32)) dX3_deedsShownOf_37 (by decide) ?_
  refine V_istore (ls2 := [(7, .int (0 : Int32)), (6, .int s0), (0, .ref a0), (1, .ref a1), (2, .int x2), (3, .int x3), (4, .int x4), (5, .int x5)]) dX3_deedsShownOf_38 (by decide) rfl ?_
  obtain ⟨N, hf⟩ := hf
  refine V_to [2, 3, 4, 5, 6, 7, 1, 0] rfl ?_
  exact vX3_deedsShownOf_L40 hn hk6 N _ _ _ _ _ _ _ _ _ hf
def wX3_deedsShownOf_B6 (n : Nat) (sh : Nat → Nat × Nat) (k6 : Nat → Nat → Int32 → Int32 → Int32 → Int32 → gS → Prop) (P : Int32 → gS → Prop) (a0 : Nat) (a1 : Nat) (x2 : Int32) (x3 : Int32) (x4 : Int32) (x5 : Int32) (z : gS) : Prop := (oO n sh a0 4) ∧ (if (gi z a0 10) ≤ x5 then P x4 z else (if ((x2 >>> (x5 &&& 31)) &&& (1 : Int32)) = 0 then wX3_deedsShownOf_J35 n sh k6 P a0 a1 x2 x3 x4 x5 (0 : Int32) z else ((oO n sh a1 6) ∧ (∃ t15 : Nat, gr z a1 6 = some t15 ∧ ((oA n sh t15 1) ∧ ((vp_in x5 (sh t15).2) ∧ wX3_deedsShownOf_J35 n sh k6 P a0 a1 x2 x3 x4 x5 (gi z t15 x5.toNatClampNeg) z))))))
def wX3_deedsShownOf_L6 (n : Nat) (sh : Nat → Nat × Nat) (P : Int32 → gS → Prop) : Nat → Nat → Nat → Int32 → Int32 → Int32 → Int32 → gS → Prop
  | 0, _, _, _, _, _, _, _ => False
  | N + 1, a0, a1, x2, x3, x4, x5, z => wX3_deedsShownOf_B6 n sh (wX3_deedsShownOf_L6 n sh P N) P a0 a1 x2 x3 x4 x5 z
set_option maxRecDepth 100000 in
set_option maxHeartbeats 4000000 in
theorem vX3_deedsShownOf_B6 {E : gE} {n : Nat} {sh : Nat → Nat × Nat} {P : Int32 → gS → Prop} {k6 : Nat → Nat → Int32 → Int32 → Int32 → Int32 → gS → Prop} {a0 : Nat} {a1 : Nat} {x2 : Int32} {x3 : Int32} {x4 : Int32} {x5 : Int32} {z : gS} (hn : gOK E n) (hk6 : ∀ (a0 : Nat) (a1 : Nat) (x2 : Int32) (x3 : Int32) (x4 : Int32) (x5 : Int32) (z : gS), k6 a0 a1 x2 x3 x4 x5 z → V E (gR 3 0) gyX3_deedsShownOf 0 0 6 [(0, .ref a0), (1, .ref a1), (2, .int x2), (3, .int x3), (4, .int x4), (5, .int x5)] [] n sh z (kI n sh P)) (hf : wX3_deedsShownOf_B6 n sh k6 P a0 a1 x2 x3 x4 x5 z) : V E (gR 3 0) gyX3_deedsShownOf 0 0 6 [(0, .ref a0), (1, .ref a1), (2, .int x2), (3, .int x3), (4, .int x4), (5, .int x5)] [] n sh z (kI n sh P) := by
  unfold wX3_deedsShownOf_B6 at hf
  refine V_iload (j := 5) dX3_deedsShownOf_6 rfl ?_
  refine V_aload_n (j := 0) dX3_deedsShownOf_8 rfl rfl ?_
  obtain ⟨h1, hf⟩ := hf
  refine V_getI fl_X3_19 rfl h1.1 h1.2 dX3_deedsShownOf_9 ?_
  refine V_icmp_ge (tgt := 90) dX3_deedsShownOf_12 (by decide) (fun h19 => ?_) (fun h19 => ?_)
  · have hf := it_t h19 hf
    refine V_iload (j := 4) dX3_deedsShownOf_90 rfl ?_
    exact V_ireturn dX3_deedsShownOf_92 rfl rfl (Nat.le_refl 0) (kI_of hf)
  · have hf := it_f h19 hf
    refine V_iload_n (j := 2) dX3_deedsShownOf_15 rfl rfl ?_
    refine V_iload (j := 5) dX3_deedsShownOf_16 rfl ?_
    refine V_ishr dX3_deedsShownOf_18 ?_
    refine V_iconst (v := (1 : Int32)) dX3_deedsShownOf_19 (by decide) ?_
    refine V_iand dX3_deedsShownOf_20 ?_
    refine V_if_eq (tgt := 34) dX3_deedsShownOf_21 (by decide) (fun h18 => ?_) (fun h18 => ?_)
    · have hf := it_t h18 hf
      refine V_iconst (v := (0 : Int32)) dX3_deedsShownOf_34 (by decide) ?_
      exact vX3_deedsShownOf_J35 hn hk6 hf
    · have hf := it_f h18 hf
      refine V_aload_n (j := 1) dX3_deedsShownOf_24 rfl rfl ?_
      obtain ⟨h14, hf⟩ := hf
      obtain ⟨t15, et15, hf⟩ := hf
      refine V_getR fl_X3_28 rfl h14.1 h14.2 et15 dX3_deedsShownOf_25 ?_
      refine V_iload (j := 5) dX3_deedsShownOf_28 rfl ?_
      obtain ⟨h16, hf⟩ := hf
      obtain ⟨h17, hf⟩ := hf
      refine V_iald h16.1 h16.s h17 dX3_deedsShownOf_30 ?_
      refine V_goto (tgt := 35) dX3_deedsShownOf_31 (by decide) ?_
      exact vX3_deedsShownOf_J35 hn hk6 hf
set_option maxRecDepth 100000 in
set_option maxHeartbeats 4000000 in
theorem vX3_deedsShownOf_L6 {E : gE} {n : Nat} {sh : Nat → Nat × Nat} {P : Int32 → gS → Prop} (hn : gOK E n) : ∀ (N : Nat) (a0 : Nat) (a1 : Nat) (x2 : Int32) (x3 : Int32) (x4 : Int32) (x5 : Int32) (z : gS), wX3_deedsShownOf_L6 n sh P N a0 a1 x2 x3 x4 x5 z → V E (gR 3 0) gyX3_deedsShownOf 0 0 6 [(0, .ref a0), (1, .ref a1), (2, .int x2), (3, .int x3), (4, .int x4), (5, .int x5)] [] n sh z (kI n sh P) := by
  intro N
  induction N with
  | zero => intro a0 a1 x2 x3 x4 x5 z hf; exact False.elim hf
  | succ N ih => intro a0 a1 x2 x3 x4 x5 z hf; exact vX3_deedsShownOf_B6 hn ih hf
def wX3_deedsShownOf (n : Nat) (sh : Nat → Nat × Nat) (a0 : Nat) (a1 : Nat) (x2 : Int32) (x3 : Int32) (z : gS) (P : Int32 → gS → Prop) : Prop := (∃ N, wX3_deedsShownOf_L6 n sh P N a0 a1 x2 x3 (0 : Int32) (0 : Int32) z)
set_option maxRecDepth 100000 in
set_option maxHeartbeats 4000000 in
theorem ctX3_deedsShownOf {E : gE} {n : Nat} {sh : Nat → Nat × Nat} {a0 : Nat} {a1 : Nat} {x2 : Int32} {x3 : Int32} {z : gS} {P : Int32 → gS → Prop} (hn : gOK E n) (hf : wX3_deedsShownOf n sh a0 a1 x2 x3 z P) : VM E 3 0 gyX3_deedsShownOf [.ref a0, .ref a1, .int x2, .int x3] n sh z (kI n sh P) := by
  unfold wX3_deedsShownOf at hf
  refine VM.of (by decide +kernel) (Nat.le_of_ble_eq_true rfl) (fun _ _ _ h => h.2.2) ?_
  show V E (gR 3 0) gyX3_deedsShownOf 0 0 0 [(0, .ref a0), (1, .ref a1), (2, .int x2), (3, .int x3)] [] n sh z (kI n sh P)
  refine V_iconst (v := (0 : Int32)) dX3_deedsShownOf_0 (by decide) ?_
  refine V_istore (ls2 := [(4, .int (0 : Int32)), (0, .ref a0), (1, .ref a1), (2, .int x2), (3, .int x3)]) dX3_deedsShownOf_1 (by decide) rfl ?_
  refine V_iconst (v := (0 : Int32)) dX3_deedsShownOf_3 (by decide) ?_
  refine V_istore (ls2 := [(5, .int (0 : Int32)), (4, .int (0 : Int32)), (0, .ref a0), (1, .ref a1), (2, .int x2), (3, .int x3)]) dX3_deedsShownOf_4 (by decide) rfl ?_
  obtain ⟨N, hf⟩ := hf
  refine V_to [2, 3, 4, 5, 1, 0] rfl ?_
  exact vX3_deedsShownOf_L6 hn N _ _ _ _ _ _ _ hf
def wX3_shameOf (n : Nat) (sh : Nat → Nat × Nat) (a0 : Nat) (a1 : Nat) (x2 : Int32) (z : gS) (P : Int32 → gS → Prop) : Prop := wX3_allPanes n sh a0 z (fun (r1 : Int32) (z2 : gS) => wX3_deedsShownOf n sh a0 a1 r1 x2 z2 (fun (r3 : Int32) (z4 : gS) => wX3_harmOf n sh a0 r3 z4 (fun (r5 : Int32) (z6 : gS) => P r5 z6)))
set_option maxRecDepth 100000 in
set_option maxHeartbeats 4000000 in
theorem ctX3_shameOf {E : gE} {n : Nat} {sh : Nat → Nat × Nat} {a0 : Nat} {a1 : Nat} {x2 : Int32} {z : gS} {P : Int32 → gS → Prop} (hn : gOK E n) (hf : wX3_shameOf n sh a0 a1 x2 z P) : VM E 4 0 gyX3_shameOf [.ref a0, .ref a1, .int x2] n sh z (kI n sh P) := by
  unfold wX3_shameOf at hf
  refine VM.of (by decide +kernel) (Nat.le_of_ble_eq_true rfl) (fun _ _ _ h => h.2.2) ?_
  show V E (gR 4 0) gyX3_shameOf 0 0 0 [(0, .ref a0), (1, .ref a1), (2, .int x2)] [] n sh z (kI n sh P)
  refine V_aload_n (j := 0) dX3_shameOf_0 rfl rfl ?_
  refine V_aload_n (j := 0) dX3_shameOf_1 rfl rfl ?_
  refine V_aload_n (j := 1) dX3_shameOf_2 rfl rfl ?_
  refine V_aload_n (j := 0) dX3_shameOf_3 rfl rfl ?_
  refine V_cSI (ctX3_allPanes hn hf) gc_X3_61 rfl ⟨by decide, by decide, Nat.zero_le _, Nat.zero_le _⟩ (Nat.le_of_ble_eq_true rfl) dX3_shameOf_4 rfl hn (fun r1 z2 hf => ?_)
  refine V_iload_n (j := 2) dX3_shameOf_7 rfl rfl ?_
  refine V_cSI (ctX3_deedsShownOf hn hf) gc_X3_65 rfl ⟨by decide, by decide, Nat.zero_le _, Nat.zero_le _⟩ (Nat.le_of_ble_eq_true rfl) dX3_shameOf_8 rfl hn (fun r3 z4 hf => ?_)
  refine V_cSI (ctX3_harmOf hn hf) gc_X3_44 rfl ⟨by decide, by decide, Nat.zero_le _, Nat.zero_le _⟩ (Nat.le_of_ble_eq_true rfl) dX3_shameOf_11 rfl hn (fun r5 z6 hf => ?_)
  exact V_ireturn dX3_shameOf_14 rfl rfl (Nat.le_refl 0) (kI_of hf)
def wX11_shame (n : Nat) (sh : Nat → Nat × Nat) (a0 : Nat) (x1 : Int32) (z : gS) (P : Int32 → gS → Prop) : Prop := (oO n sh a0 7) ∧ (∃ t2 : Nat, gr z a0 7 = some t2 ∧ ((oO n sh t2 4) ∧ (wX7_hasPerson n sh t2 x1 z (fun (r3 : Int32) (z4 : gS) => if r3 = 0 then P (-1 : Int32) z4 else (∃ t6 : Nat, gr z4 a0 7 = some t6 ∧ (∃ t7 : Nat, gr z4 a0 1 = some t7 ∧ (wX3_shameOf n sh t6 t7 x1 z4 (fun (r8 : Int32) (z9 : gS) => P r8 z9))))))))
set_option maxRecDepth 100000 in
set_option maxHeartbeats 4000000 in
theorem ctX11_shame {E : gE} {n : Nat} {sh : Nat → Nat × Nat} {a0 : Nat} {x1 : Int32} {z : gS} {P : Int32 → gS → Prop} (hn : gOK E n) (hf : wX11_shame n sh a0 x1 z P) : VM E 5 0 gyX11_shame [.ref a0, .int x1] n sh z (kI n sh P) := by
  unfold wX11_shame at hf
  refine VM.of (by decide +kernel) (Nat.le_of_ble_eq_true rfl) (fun _ _ _ h => h.2.2) ?_
  show V E (gR 5 0) gyX11_shame 0 0 0 [(0, .ref a0), (1, .int x1)] [] n sh z (kI n sh P)
  refine V_aload_n (j := 0) dX11_shame_0 rfl rfl ?_
  obtain ⟨h1, hf⟩ := hf
  obtain ⟨t2, et2, hf⟩ := hf
  refine V_getR fl_X11_51 rfl h1.1 h1.2 et2 dX11_shame_1 ?_
  refine V_iload_n (j := 1) dX11_shame_4 rfl rfl ?_
  obtain ⟨h5, hf⟩ := hf
  refine V_cVI (ctX7_hasPerson hn hf) gc_X11_149 rfl h5.1 ⟨_, h5.2, by decide, rfl⟩ ⟨by decide, by decide, Nat.zero_le _, Nat.zero_le _⟩ (Nat.le_of_ble_eq_true rfl) dX11_shame_5 rfl hn (fun r3 z4 hf => ?_)
  refine V_if_eq (tgt := 26) dX11_shame_8 (by decide) (fun h10 => ?_) (fun h10 => ?_)
  · have hf := it_t h10 hf
    refine V_iconst (v := (-1 : Int32)) dX11_shame_26 (by decide) ?_
    exact V_ireturn dX11_shame_27 rfl rfl (Nat.le_refl 0) (kI_of hf)
  · have hf := it_f h10 hf
    refine V_aload_n (j := 0) dX11_shame_11 rfl rfl ?_
    obtain ⟨t6, et6, hf⟩ := hf
    refine V_getR fl_X11_51 rfl h1.1 h1.2 et6 dX11_shame_12 ?_
    refine V_aload_n (j := 0) dX11_shame_15 rfl rfl ?_
    obtain ⟨t7, et7, hf⟩ := hf
    refine V_getR fl_X11_19 rfl h1.1 h1.2 et7 dX11_shame_16 ?_
    refine V_iload_n (j := 1) dX11_shame_19 rfl rfl ?_
    refine V_cSI (ctX3_shameOf hn hf) gc_X11_209 rfl ⟨by decide, by decide, Nat.zero_le _, Nat.zero_le _⟩ (Nat.le_of_ble_eq_true rfl) dX11_shame_20 rfl hn (fun r8 z9 hf => ?_)
    refine V_goto (tgt := 27) dX11_shame_23 (by decide) ?_
    exact V_ireturn dX11_shame_27 rfl rfl (Nat.le_refl 0) (kI_of hf)
def wX11_harm (n : Nat) (sh : Nat → Nat × Nat) (a0 : Nat) (z : gS) (P : Int32 → gS → Prop) : Prop := (oO n sh a0 7) ∧ (∃ t2 : Nat, gr z a0 7 = some t2 ∧ (∃ t3 : Nat, gr z a0 1 = some t3 ∧ (wX3_harmShown n sh t2 t3 (6 : Int32) z (fun (r4 : Int32) (z5 : gS) => P r4 z5))))
set_option maxRecDepth 100000 in
set_option maxHeartbeats 4000000 in
theorem ctX11_harm {E : gE} {n : Nat} {sh : Nat → Nat × Nat} {a0 : Nat} {z : gS} {P : Int32 → gS → Prop} (hn : gOK E n) (hf : wX11_harm n sh a0 z P) : VM E 3 0 gyX11_harm [.ref a0] n sh z (kI n sh P) := by
  unfold wX11_harm at hf
  refine VM.of (by decide +kernel) (Nat.le_of_ble_eq_true rfl) (fun _ _ _ h => h.2.2) ?_
  show V E (gR 3 0) gyX11_harm 0 0 0 [(0, .ref a0)] [] n sh z (kI n sh P)
  refine V_aload_n (j := 0) dX11_harm_0 rfl rfl ?_
  obtain ⟨h1, hf⟩ := hf
  obtain ⟨t2, et2, hf⟩ := hf
  refine V_getR fl_X11_51 rfl h1.1 h1.2 et2 dX11_harm_1 ?_
  refine V_aload_n (j := 0) dX11_harm_4 rfl rfl ?_
  obtain ⟨t3, et3, hf⟩ := hf
  refine V_getR fl_X11_19 rfl h1.1 h1.2 et3 dX11_harm_5 ?_
  refine V_bipush (v := (6 : Int32)) dX11_harm_8 (by decide) ?_
  refine V_cSI (ctX3_harmShown hn hf) gc_X11_203 rfl ⟨by decide, by decide, Nat.zero_le _, Nat.zero_le _⟩ (Nat.le_of_ble_eq_true rfl) dX11_harm_10 rfl hn (fun r4 z5 hf => ?_)
  exact V_ireturn dX11_harm_13 rfl rfl (Nat.le_refl 0) (kI_of hf)
def wX6_unseenCells_B6 (n : Nat) (sh : Nat → Nat × Nat) (k6 : Nat → Nat → Int32 → Int32 → gS → Prop) (P : Int32 → gS → Prop) (a0 : Nat) (a1 : Nat) (x2 : Int32) (x3 : Int32) (z : gS) : Prop := (oO n sh a0 4) ∧ (if (gi z a0 10) ≤ x3 then P x2 z else ((oO n sh a1 6) ∧ (wX10_sightOf n sh a1 a0 x3 z (fun (r2 : Int32) (z3 : gS) => ∀ v5 : Int32, v5 = (x2 &&& (r2 ^^^ (-1 : Int32))) → (∀ v6 : Int32, v6 = x3 + (1 : Int32) → k6 a0 a1 v5 v6 z3)))))
def wX6_unseenCells_L6 (n : Nat) (sh : Nat → Nat × Nat) (P : Int32 → gS → Prop) : Nat → Nat → Nat → Int32 → Int32 → gS → Prop
  | 0, _, _, _, _, _ => False
  | N + 1, a0, a1, x2, x3, z => wX6_unseenCells_B6 n sh (wX6_unseenCells_L6 n sh P N) P a0 a1 x2 x3 z
set_option maxRecDepth 100000 in
set_option maxHeartbeats 4000000 in
theorem vX6_unseenCells_B6 {E : gE} {n : Nat} {sh : Nat → Nat × Nat} {P : Int32 → gS → Prop} {k6 : Nat → Nat → Int32 → Int32 → gS → Prop} {a0 : Nat} {a1 : Nat} {x2 : Int32} {x3 : Int32} {z : gS} (hn : gOK E n) (hk6 : ∀ (a0 : Nat) (a1 : Nat) (x2 : Int32) (x3 : Int32) (z : gS), k6 a0 a1 x2 x3 z → V E (gR 3 0) gyX6_unseenCells 0 0 6 [(0, .ref a0), (1, .ref a1), (2, .int x2), (3, .int x3)] [] n sh z (kI n sh P)) (hf : wX6_unseenCells_B6 n sh k6 P a0 a1 x2 x3 z) : V E (gR 3 0) gyX6_unseenCells 0 0 6 [(0, .ref a0), (1, .ref a1), (2, .int x2), (3, .int x3)] [] n sh z (kI n sh P) := by
  unfold wX6_unseenCells_B6 at hf
  refine V_iload_n (j := 3) dX6_unseenCells_6 rfl rfl ?_
  refine V_aload_n (j := 0) dX6_unseenCells_7 rfl rfl ?_
  obtain ⟨h1, hf⟩ := hf
  refine V_getI fl_X6_9 rfl h1.1 h1.2 dX6_unseenCells_8 ?_
  refine V_icmp_ge (tgt := 31) dX6_unseenCells_11 (by decide) (fun h7 => ?_) (fun h7 => ?_)
  · have hf := it_t h7 hf
    refine V_iload_n (j := 2) dX6_unseenCells_31 rfl rfl ?_
    exact V_ireturn dX6_unseenCells_32 rfl rfl (Nat.le_refl 0) (kI_of hf)
  · have hf := it_f h7 hf
    refine V_iload_n (j := 2) dX6_unseenCells_14 rfl rfl ?_
    refine V_aload_n (j := 1) dX6_unseenCells_15 rfl rfl ?_
    refine V_aload_n (j := 0) dX6_unseenCells_16 rfl rfl ?_
    refine V_iload_n (j := 3) dX6_unseenCells_17 rfl rfl ?_
    obtain ⟨h4, hf⟩ := hf
    refine V_cVI (ctX10_sightOf hn hf) gc_X6_15 rfl h4.1 ⟨_, h4.2, by decide, rfl⟩ ⟨by decide, by decide, Nat.zero_le _, Nat.zero_le _⟩ (Nat.le_of_ble_eq_true rfl) dX6_unseenCells_18 rfl hn (fun r2 z3 hf => ?_)
    refine V_iconst (v := (-1 : Int32)) dX6_unseenCells_21 (by decide) ?_
    refine V_ixor dX6_unseenCells_22 ?_
    refine V_iand dX6_unseenCells_23 ?_
    refine V_nI (fun v5 ev5 => ?_)
    have hf := hf v5 ev5
    refine V_istore_n (ls2 := [(2, .int v5), (0, .ref a0), (1, .ref a1), (3, .int x3)]) dX6_unseenCells_24 rfl (by decide) rfl ?_
    obtain ⟨v6, ev6⟩ : ∃ y : Int32, y = x3 + (1 : Int32) := ⟨_, rfl⟩
    refine V_iinc (j := 3) (v := v6) (ls2 := [(3, .int v6), (2, .int v5), (0, .ref a0), (1, .ref a1)]) dX6_unseenCells_25 rfl (by rw [ev6]; rfl) (by decide) rfl ?_
    have hf := hf v6 ev6
    refine V_goto (tgt := 6) dX6_unseenCells_28 (by decide) ?_
    refine V_to [2, 3, 1, 0] rfl ?_
    exact hk6 _ _ _ _ _ hf
set_option maxRecDepth 100000 in
set_option maxHeartbeats 4000000 in
theorem vX6_unseenCells_L6 {E : gE} {n : Nat} {sh : Nat → Nat × Nat} {P : Int32 → gS → Prop} (hn : gOK E n) : ∀ (N : Nat) (a0 : Nat) (a1 : Nat) (x2 : Int32) (x3 : Int32) (z : gS), wX6_unseenCells_L6 n sh P N a0 a1 x2 x3 z → V E (gR 3 0) gyX6_unseenCells 0 0 6 [(0, .ref a0), (1, .ref a1), (2, .int x2), (3, .int x3)] [] n sh z (kI n sh P) := by
  intro N
  induction N with
  | zero => intro a0 a1 x2 x3 z hf; exact False.elim hf
  | succ N ih => intro a0 a1 x2 x3 z hf; exact vX6_unseenCells_B6 hn ih hf
def wX6_unseenCells (n : Nat) (sh : Nat → Nat × Nat) (a0 : Nat) (a1 : Nat) (z : gS) (P : Int32 → gS → Prop) : Prop := (∃ N, wX6_unseenCells_L6 n sh P N a0 a1 (1023 : Int32) (0 : Int32) z)
set_option maxRecDepth 100000 in
set_option maxHeartbeats 4000000 in
theorem ctX6_unseenCells {E : gE} {n : Nat} {sh : Nat → Nat × Nat} {a0 : Nat} {a1 : Nat} {z : gS} {P : Int32 → gS → Prop} (hn : gOK E n) (hf : wX6_unseenCells n sh a0 a1 z P) : VM E 3 0 gyX6_unseenCells [.ref a0, .ref a1] n sh z (kI n sh P) := by
  unfold wX6_unseenCells at hf
  refine VM.of (by decide +kernel) (Nat.le_of_ble_eq_true rfl) (fun _ _ _ h => h.2.2) ?_
  show V E (gR 3 0) gyX6_unseenCells 0 0 0 [(0, .ref a0), (1, .ref a1)] [] n sh z (kI n sh P)
  refine V_sipush (v := (1023 : Int32)) dX6_unseenCells_0 (by decide) ?_
  refine V_istore_n (ls2 := [(2, .int (1023 : Int32)), (0, .ref a0), (1, .ref a1)]) dX6_unseenCells_3 rfl (by decide) rfl ?_
  refine V_iconst (v := (0 : Int32)) dX6_unseenCells_4 (by decide) ?_
  refine V_istore_n (ls2 := [(3, .int (0 : Int32)), (2, .int (1023 : Int32)), (0, .ref a0), (1, .ref a1)]) dX6_unseenCells_5 rfl (by decide) rfl ?_
  obtain ⟨N, hf⟩ := hf
  refine V_to [2, 3, 1, 0] rfl ?_
  exact vX6_unseenCells_L6 hn N _ _ _ _ _ hf
def wX6_nearestUnseen_J67 (n : Nat) (sh : Nat → Nat × Nat) (k12 : Int32 → Int32 → Int32 → Int32 → gS → Prop) (P : Int32 → gS → Prop) (x2 : Int32) (x3 : Int32) (x4 : Int32) (x5 : Int32) (z : gS) : Prop := ∀ v3 : Int32, v3 = x5 + (1 : Int32) → k12 x2 x3 x4 v3 z
set_option maxRecDepth 100000 in
set_option maxHeartbeats 4000000 in
theorem vX6_nearestUnseen_J67 {E : gE} {n : Nat} {sh : Nat → Nat × Nat} {P : Int32 → gS → Prop} {k12 : Int32 → Int32 → Int32 → Int32 → gS → Prop} {x2 : Int32} {x3 : Int32} {x4 : Int32} {x5 : Int32} {z : gS} (hn : gOK E n) (hk12 : ∀ (x2 : Int32) (x3 : Int32) (x4 : Int32) (x5 : Int32) (z : gS), k12 x2 x3 x4 x5 z → V E (gR 4 0) gyX6_nearestUnseen 0 0 12 [(2, .int x2), (3, .int x3), (4, .int x4), (5, .int x5)] [] n sh z (kI n sh P)) (hf : wX6_nearestUnseen_J67 n sh k12 P x2 x3 x4 x5 z) : V E (gR 4 0) gyX6_nearestUnseen 0 0 67 [(2, .int x2), (3, .int x3), (4, .int x4), (5, .int x5)] [] n sh z (kI n sh P) := by
  unfold wX6_nearestUnseen_J67 at hf
  obtain ⟨v3, ev3⟩ : ∃ y : Int32, y = x5 + (1 : Int32) := ⟨_, rfl⟩
  refine V_iinc (j := 3) (v := v3) (ls2 := [(5, .int v3), (2, .int x2), (3, .int x3), (4, .int x4)]) dX6_nearestUnseen_67 rfl (by rw [ev3]; rfl) (by decide) rfl ?_
  have hf := hf v3 ev3
  refine V_goto (tgt := 12) dX6_nearestUnseen_70 (by decide) ?_
  refine V_to [1, 2, 3, 0] rfl ?_
  exact hk12 _ _ _ _ _ hf
def wX6_nearestUnseen_J47 (n : Nat) (sh : Nat → Nat × Nat) (k12 : Int32 → Int32 → Int32 → Int32 → gS → Prop) (P : Int32 → gS → Prop) (x2 : Int32) (x3 : Int32) (x4 : Int32) (x5 : Int32) (s0 : Int32) (z : gS) : Prop := if ((x3 >>> (x5 &&& 31)) &&& (1 : Int32)) = 0 then wX6_nearestUnseen_J67 n sh k12 P x2 x3 x4 x5 z else (if s0 = 0 then wX6_nearestUnseen_J67 n sh k12 P x2 x3 x4 x5 z else wX6_nearestUnseen_J67 n sh k12 P x2 x3 x5 x5 z)
set_option maxRecDepth 100000 in
set_option maxHeartbeats 4000000 in
theorem vX6_nearestUnseen_J47 {E : gE} {n : Nat} {sh : Nat → Nat × Nat} {P : Int32 → gS → Prop} {k12 : Int32 → Int32 → Int32 → Int32 → gS → Prop} {x2 : Int32} {x3 : Int32} {x4 : Int32} {x5 : Int32} {s0 : Int32} {z : gS} (hn : gOK E n) (hk12 : ∀ (x2 : Int32) (x3 : Int32) (x4 : Int32) (x5 : Int32) (z : gS), k12 x2 x3 x4 x5 z → V E (gR 4 0) gyX6_nearestUnseen 0 0 12 [(2, .int x2), (3, .int x3), (4, .int x4), (5, .int x5)] [] n sh z (kI n sh P)) (hf : wX6_nearestUnseen_J47 n sh k12 P x2 x3 x4 x5 s0 z) : V E (gR 4 0) gyX6_nearestUnseen 0 0 47 [(2, .int x2), (3, .int x3), (4, .int x4), (5, .int x5)] [.int s0] n sh z (kI n sh P) := by
  unfold wX6_nearestUnseen_J47 at hf
  refine V_istore (ls2 := [(6, .int s0), (2, .int x2), (3, .int x3), (4, .int x4), (5, .int x5)]) dX6_nearestUnseen_47 (by decide) rfl ?_
  refine V_iload_n (j := 2) dX6_nearestUnseen_49 rfl rfl ?_
  refine V_iload (j := 4) dX6_nearestUnseen_50 rfl ?_
  refine V_ishr dX6_nearestUnseen_52 ?_
  refine V_iconst (v := (1 : Int32)) dX6_nearestUnseen_53 (by decide) ?_
  refine V_iand dX6_nearestUnseen_54 ?_
  refine V_if_eq (tgt := 67) dX6_nearestUnseen_55 (by decide) (fun h5 => ?_) (fun h5 => ?_)
  · have hf := it_t h5 hf
    refine V_to [1, 2, 3, 4] rfl ?_
    exact vX6_nearestUnseen_J67 hn hk12 hf
  · have hf := it_f h5 hf
    refine V_iload (j := 0) dX6_nearestUnseen_58 rfl ?_
    refine V_if_eq (tgt := 67) dX6_nearestUnseen_60 (by decide) (fun h4 => ?_) (fun h4 => ?_)
    · have hf := it_t h4 hf
      refine V_to [1, 2, 3, 4] rfl ?_
      exact vX6_nearestUnseen_J67 hn hk12 hf
    · have hf := it_f h4 hf
      refine V_iload (j := 4) dX6_nearestUnseen_63 rfl ?_
      refine V_istore (ls2 := [(4, .int x5), (6, .int s0), (2, .int x2), (3, .int x3), (5, .int x5)]) dX6_nearestUnseen_65 (by decide) rfl ?_
      refine V_to [2, 3, 0, 4] rfl ?_
      exact vX6_nearestUnseen_J67 hn hk12 hf
def wX6_nearestUnseen_J42 (n : Nat) (sh : Nat → Nat × Nat) (k12 : Int32 → Int32 → Int32 → Int32 → gS → Prop) (P : Int32 → gS → Prop) (x2 : Int32) (x3 : Int32) (x4 : Int32) (x5 : Int32) (z : gS) : Prop := wX6_nearestUnseen_J47 n sh k12 P x2 x3 x4 x5 (1 : Int32) z
set_option maxRecDepth 100000 in
set_option maxHeartbeats 4000000 in
theorem vX6_nearestUnseen_J42 {E : gE} {n : Nat} {sh : Nat → Nat × Nat} {P : Int32 → gS → Prop} {k12 : Int32 → Int32 → Int32 → Int32 → gS → Prop} {x2 : Int32} {x3 : Int32} {x4 : Int32} {x5 : Int32} {z : gS} (hn : gOK E n) (hk12 : ∀ (x2 : Int32) (x3 : Int32) (x4 : Int32) (x5 : Int32) (z : gS), k12 x2 x3 x4 x5 z → V E (gR 4 0) gyX6_nearestUnseen 0 0 12 [(2, .int x2), (3, .int x3), (4, .int x4), (5, .int x5)] [] n sh z (kI n sh P)) (hf : wX6_nearestUnseen_J42 n sh k12 P x2 x3 x4 x5 z) : V E (gR 4 0) gyX6_nearestUnseen 0 0 42 [(2, .int x2), (3, .int x3), (4, .int x4), (5, .int x5)] [] n sh z (kI n sh P) := by
  unfold wX6_nearestUnseen_J42 at hf
  refine V_iconst (v := (1 : Int32)) dX6_nearestUnseen_42 (by decide) ?_
  refine V_goto (tgt := 47) dX6_nearestUnseen_43 (by decide) ?_
  exact vX6_nearestUnseen_J47 hn hk12 hf
def wX6_nearestUnseen_B12 (n : Nat) (sh : Nat → Nat × Nat) (k12 : Int32 → Int32 → Int32 → Int32 → gS → Prop) (P : Int32 → gS → Prop) (x2 : Int32) (x3 : Int32) (x4 : Int32) (x5 : Int32) (z : gS) : Prop := if (10 : Int32) ≤ x5 then P x4 z else (if x4 = (-1 : Int32) then wX6_nearestUnseen_J42 n sh k12 P x2 x3 x4 x5 z else (if (if 0 ≤ (x4 - x2) then (x4 - x2) else 0 - (x4 - x2)) ≤ (if 0 ≤ (x5 - x2) then (x5 - x2) else 0 - (x5 - x2)) then wX6_nearestUnseen_J47 n sh k12 P x2 x3 x4 x5 (0 : Int32) z else wX6_nearestUnseen_J42 n sh k12 P x2 x3 x4 x5 z))
def wX6_nearestUnseen_L12 (n : Nat) (sh : Nat → Nat × Nat) (P : Int32 → gS → Prop) : Nat → Int32 → Int32 → Int32 → Int32 → gS → Prop
  | 0, _, _, _, _, _ => False
  | N + 1, x2, x3, x4, x5, z => wX6_nearestUnseen_B12 n sh (wX6_nearestUnseen_L12 n sh P N) P x2 x3 x4 x5 z
set_option maxRecDepth 100000 in
set_option maxHeartbeats 4000000 in
theorem vX6_nearestUnseen_B12 {E : gE} {n : Nat} {sh : Nat → Nat × Nat} {P : Int32 → gS → Prop} {k12 : Int32 → Int32 → Int32 → Int32 → gS → Prop} {x2 : Int32} {x3 : Int32} {x4 : Int32} {x5 : Int32} {z : gS} (hn : gOK E n) (hk12 : ∀ (x2 : Int32) (x3 : Int32) (x4 : Int32) (x5 : Int32) (z : gS), k12 x2 x3 x4 x5 z → V E (gR 4 0) gyX6_nearestUnseen 0 0 12 [(2, .int x2), (3, .int x3), (4, .int x4), (5, .int x5)] [] n sh z (kI n sh P)) (hf : wX6_nearestUnseen_B12 n sh k12 P x2 x3 x4 x5 z) : V E (gR 4 0) gyX6_nearestUnseen 0 0 12 [(2, .int x2), (3, .int x3), (4, .int x4), (5, .int x5)] [] n sh z (kI n sh P) := by
  unfold wX6_nearestUnseen_B12 at hf
  refine V_iload (j := 3) dX6_nearestUnseen_12 rfl ?_
  refine V_bipush (v := (10 : Int32)) dX6_nearestUnseen_14 (by decide) ?_
  refine V_icmp_ge (tgt := 73) dX6_nearestUnseen_16 (by decide) (fun h8 => ?_) (fun h8 => ?_)
  · have hf := it_t h8 hf
    refine V_iload (j := 2) dX6_nearestUnseen_73 rfl ?_
    exact V_ireturn dX6_nearestUnseen_75 rfl rfl (Nat.le_refl 0) (kI_of hf)
  · have hf := it_f h8 hf
    refine V_iload (j := 2) dX6_nearestUnseen_19 rfl ?_
    refine V_iconst (v := (-1 : Int32)) dX6_nearestUnseen_21 (by decide) ?_
    refine V_icmp_eq (tgt := 42) dX6_nearestUnseen_22 (by decide) (fun h7 => ?_) (fun h7 => ?_)
    · have hf := it_t h7 hf
      exact vX6_nearestUnseen_J42 hn hk12 hf
    · have hf := it_f h7 hf
      refine V_iload (j := 3) dX6_nearestUnseen_25 rfl ?_
      refine V_iload_n (j := 0) dX6_nearestUnseen_27 rfl rfl ?_
      refine V_isub dX6_nearestUnseen_28 ?_
      refine V_abs ma_X6_27 mas_abs mai mac_abs ⟨by decide, by decide, Nat.zero_le _, Nat.zero_le _⟩ (Nat.le_of_ble_eq_true rfl) dX6_nearestUnseen_29 ?_
      refine V_iload (j := 2) dX6_nearestUnseen_32 rfl ?_
      refine V_iload_n (j := 0) dX6_nearestUnseen_34 rfl rfl ?_
      refine V_isub dX6_nearestUnseen_35 ?_
      refine V_abs ma_X6_27 mas_abs mai mac_abs ⟨by decide, by decide, Nat.zero_le _, Nat.zero_le _⟩ (Nat.le_of_ble_eq_true rfl) dX6_nearestUnseen_36 ?_
      refine V_icmp_ge (tgt := 46) dX6_nearestUnseen_39 (by decide) (fun h6 => ?_) (fun h6 => ?_)
      · have hf := it_t h6 hf
        refine V_iconst (v := (0 : Int32)) dX6_nearestUnseen_46 (by decide) ?_
        exact vX6_nearestUnseen_J47 hn hk12 hf
      · have hf := it_f h6 hf
        exact vX6_nearestUnseen_J42 hn hk12 hf
set_option maxRecDepth 100000 in
set_option maxHeartbeats 4000000 in
theorem vX6_nearestUnseen_L12 {E : gE} {n : Nat} {sh : Nat → Nat × Nat} {P : Int32 → gS → Prop} (hn : gOK E n) : ∀ (N : Nat) (x2 : Int32) (x3 : Int32) (x4 : Int32) (x5 : Int32) (z : gS), wX6_nearestUnseen_L12 n sh P N x2 x3 x4 x5 z → V E (gR 4 0) gyX6_nearestUnseen 0 0 12 [(2, .int x2), (3, .int x3), (4, .int x4), (5, .int x5)] [] n sh z (kI n sh P) := by
  intro N
  induction N with
  | zero => intro x2 x3 x4 x5 z hf; exact False.elim hf
  | succ N ih => intro x2 x3 x4 x5 z hf; exact vX6_nearestUnseen_B12 hn ih hf
def wX6_nearestUnseen (n : Nat) (sh : Nat → Nat × Nat) (a0 : Nat) (a1 : Nat) (x2 : Int32) (z : gS) (P : Int32 → gS → Prop) : Prop := wX6_unseenCells n sh a0 a1 z (fun (r1 : Int32) (z2 : gS) => (∃ N, wX6_nearestUnseen_L12 n sh P N x2 r1 (-1 : Int32) (0 : Int32) z2))
set_option maxRecDepth 100000 in
set_option maxHeartbeats 4000000 in
theorem ctX6_nearestUnseen {E : gE} {n : Nat} {sh : Nat → Nat × Nat} {a0 : Nat} {a1 : Nat} {x2 : Int32} {z : gS} {P : Int32 → gS → Prop} (hn : gOK E n) (hf : wX6_nearestUnseen n sh a0 a1 x2 z P) : VM E 4 0 gyX6_nearestUnseen [.ref a0, .ref a1, .int x2] n sh z (kI n sh P) := by
  unfold wX6_nearestUnseen at hf
  refine VM.of (by decide +kernel) (Nat.le_of_ble_eq_true rfl) (fun _ _ _ h => h.2.2) ?_
  show V E (gR 4 0) gyX6_nearestUnseen 0 0 0 [(0, .ref a0), (1, .ref a1), (2, .int x2)] [] n sh z (kI n sh P)
  refine V_aload_n (j := 0) dX6_nearestUnseen_0 rfl rfl ?_
  refine V_aload_n (j := 1) dX6_nearestUnseen_1 rfl rfl ?_
  refine V_cSI (ctX6_unseenCells hn hf) gc_X6_21 rfl ⟨by decide, by decide, Nat.zero_le _, Nat.zero_le _⟩ (Nat.le_of_ble_eq_true rfl) dX6_nearestUnseen_2 rfl hn (fun r1 z2 hf => ?_)
  refine V_istore_n (ls2 := [(3, .int r1), (0, .ref a0), (1, .ref a1), (2, .int x2)]) dX6_nearestUnseen_5 rfl (by decide) rfl ?_
  refine V_iconst (v := (-1 : Int32)) dX6_nearestUnseen_6 (by decide) ?_
  refine V_istore (ls2 := [(4, .int (-1 : Int32)), (3, .int r1), (0, .ref a0), (1, .ref a1), (2, .int x2)]) dX6_nearestUnseen_7 (by decide) rfl ?_
  refine V_iconst (v := (0 : Int32)) dX6_nearestUnseen_9 (by decide) ?_
  refine V_istore (ls2 := [(5, .int (0 : Int32)), (4, .int (-1 : Int32)), (3, .int r1), (0, .ref a0), (1, .ref a1), (2, .int x2)]) dX6_nearestUnseen_10 (by decide) rfl ?_
  obtain ⟨N, hf⟩ := hf
  refine V_to [5, 2, 1, 0] rfl ?_
  exact vX6_nearestUnseen_L12 hn N _ _ _ _ _ hf
def wX11_hide (n : Nat) (sh : Nat → Nat × Nat) (a0 : Nat) (x1 : Int32) (x2 : Int32) (z : gS) (P : Int32 → gS → Prop) : Prop := (oO n sh a0 7) ∧ (∃ t2 : Nat, gr z a0 7 = some t2 ∧ ((oO n sh t2 4) ∧ (wX7_hasPerson n sh t2 x1 z (fun (r3 : Int32) (z4 : gS) => if r3 = 0 then P (-1 : Int32) z4 else (if x2 < 0 then P (-1 : Int32) z4 else (if x2 ≤ (1 : Int32) then (∃ t6 : Nat, gr z4 a0 1 = some t6 ∧ ((oO n sh t6 6) ∧ (∃ t8 : Nat, gr z4 t6 5 = some t8 ∧ ((oA n sh t8 1) ∧ ((vp_in x1 (sh t8).2) ∧ (∀ v11 : Int32, v11 = (gi z4 t8 x1.toNatClampNeg) → (∃ t12 : Nat, gr z4 a0 7 = some t12 ∧ (∃ t13 : Nat, gr z4 a0 1 = some t13 ∧ (wX6_nearestUnseen n sh t12 t13 v11 z4 (fun (r14 : Int32) (z15 : gS) => if r14 = (-1 : Int32) then P (-1 : Int32) z15 else (if x2 = 0 then (P (if 0 ≤ (r14 - v11) then (r14 - v11) else 0 - (r14 - v11)) z15) else P r14 z15))))))))))) else P (-1 : Int32) z4))))))
set_option maxRecDepth 100000 in
set_option maxHeartbeats 4000000 in
theorem ctX11_hide {E : gE} {n : Nat} {sh : Nat → Nat × Nat} {a0 : Nat} {x1 : Int32} {x2 : Int32} {z : gS} {P : Int32 → gS → Prop} (hn : gOK E n) (hf : wX11_hide n sh a0 x1 x2 z P) : VM E 5 0 gyX11_hide [.ref a0, .int x1, .int x2] n sh z (kI n sh P) := by
  unfold wX11_hide at hf
  refine VM.of (by decide +kernel) (Nat.le_of_ble_eq_true rfl) (fun _ _ _ h => h.2.2) ?_
  show V E (gR 5 0) gyX11_hide 0 0 0 [(0, .ref a0), (1, .int x1), (2, .int x2)] [] n sh z (kI n sh P)
  refine V_aload_n (j := 0) dX11_hide_0 rfl rfl ?_
  obtain ⟨h1, hf⟩ := hf
  obtain ⟨t2, et2, hf⟩ := hf
  refine V_getR fl_X11_51 rfl h1.1 h1.2 et2 dX11_hide_1 ?_
  refine V_iload_n (j := 1) dX11_hide_4 rfl rfl ?_
  obtain ⟨h5, hf⟩ := hf
  refine V_cVI (ctX7_hasPerson hn hf) gc_X11_149 rfl h5.1 ⟨_, h5.2, by decide, rfl⟩ ⟨by decide, by decide, Nat.zero_le _, Nat.zero_le _⟩ (Nat.le_of_ble_eq_true rfl) dX11_hide_5 rfl hn (fun r3 z4 hf => ?_)
  refine V_if_eq (tgt := 20) dX11_hide_8 (by decide) (fun h20 => ?_) (fun h20 => ?_)
  · have hf := it_t h20 hf
    refine V_iconst (v := (-1 : Int32)) dX11_hide_20 (by decide) ?_
    exact V_ireturn dX11_hide_21 rfl rfl (Nat.le_refl 0) (kI_of hf)
  · have hf := it_f h20 hf
    refine V_iload_n (j := 2) dX11_hide_11 rfl rfl ?_
    refine V_if_lt (tgt := 20) dX11_hide_12 (by decide) (fun h19 => ?_) (fun h19 => ?_)
    · have hf := it_t h19 hf
      refine V_iconst (v := (-1 : Int32)) dX11_hide_20 (by decide) ?_
      exact V_ireturn dX11_hide_21 rfl rfl (Nat.le_refl 0) (kI_of hf)
    · have hf := it_f h19 hf
      refine V_iload_n (j := 2) dX11_hide_15 rfl rfl ?_
      refine V_iconst (v := (1 : Int32)) dX11_hide_16 (by decide) ?_
      refine V_icmp_le (tgt := 22) dX11_hide_17 (by decide) (fun h18 => ?_) (fun h18 => ?_)
      · have hf := it_t h18 hf
        refine V_aload_n (j := 0) dX11_hide_22 rfl rfl ?_
        obtain ⟨t6, et6, hf⟩ := hf
        refine V_getR fl_X11_19 rfl h1.1 h1.2 et6 dX11_hide_23 ?_
        obtain ⟨h7, hf⟩ := hf
        obtain ⟨t8, et8, hf⟩ := hf
        refine V_getR fl_X11_152 rfl h7.1 h7.2 et8 dX11_hide_26 ?_
        refine V_iload_n (j := 1) dX11_hide_29 rfl rfl ?_
        obtain ⟨h9, hf⟩ := hf
        obtain ⟨h10, hf⟩ := hf
        refine V_iald h9.1 h9.s h10 dX11_hide_30 ?_
        refine V_nI (fun v11 ev11 => ?_)
        have hf := hf v11 ev11
        refine V_istore_n (ls2 := [(3, .int v11), (0, .ref a0), (1, .int x1), (2, .int x2)]) dX11_hide_31 rfl (by decide) rfl ?_
        refine V_aload_n (j := 1) dX11_hide_32 rfl rfl ?_
        obtain ⟨t12, et12, hf⟩ := hf
        refine V_getR fl_X11_51 rfl h1.1 h1.2 et12 dX11_hide_33 ?_
        refine V_aload_n (j := 1) dX11_hide_36 rfl rfl ?_
        obtain ⟨t13, et13, hf⟩ := hf
        refine V_getR fl_X11_19 rfl h1.1 h1.2 et13 dX11_hide_37 ?_
        refine V_iload_n (j := 0) dX11_hide_40 rfl rfl ?_
        refine V_cSI (ctX6_nearestUnseen hn hf) gc_X11_212 rfl ⟨by decide, by decide, Nat.zero_le _, Nat.zero_le _⟩ (Nat.le_of_ble_eq_true rfl) dX11_hide_41 rfl hn (fun r14 z15 hf => ?_)
        refine V_istore (ls2 := [(4, .int r14), (3, .int v11), (0, .ref a0), (1, .int x1), (2, .int x2)]) dX11_hide_44 (by decide) rfl ?_
        refine V_iload (j := 0) dX11_hide_46 rfl ?_
        refine V_iconst (v := (-1 : Int32)) dX11_hide_48 (by decide) ?_
        refine V_icmp_ne (tgt := 54) dX11_hide_49 (by decide) (fun h17 => ?_) (fun h17 => ?_)
        · have hf := it_f h17 hf
          refine V_iload_n (j := 4) dX11_hide_54 rfl rfl ?_
          refine V_if_ne (tgt := 68) dX11_hide_55 (by decide) (fun h16 => ?_) (fun h16 => ?_)
          · have hf := it_f h16 hf
            refine V_iload (j := 0) dX11_hide_68 rfl ?_
            exact V_ireturn dX11_hide_70 rfl rfl (Nat.le_refl 0) (kI_of hf)
          · have hf := it_t (Classical.not_not.mp h16) hf
            refine V_iload (j := 0) dX11_hide_58 rfl ?_
            refine V_iload_n (j := 1) dX11_hide_60 rfl rfl ?_
            refine V_isub dX11_hide_61 ?_
            refine V_abs ma_X11_217 mas_abs mai mac_abs ⟨by decide, by decide, Nat.zero_le _, Nat.zero_le _⟩ (Nat.le_of_ble_eq_true rfl) dX11_hide_62 ?_
            refine V_goto (tgt := 70) dX11_hide_65 (by decide) ?_
            exact V_ireturn dX11_hide_70 rfl rfl (Nat.le_refl 0) (kI_of hf)
        · have hf := it_t (Classical.not_not.mp h17) hf
          refine V_iconst (v := (-1 : Int32)) dX11_hide_52 (by decide) ?_
          exact V_ireturn dX11_hide_53 rfl rfl (Nat.le_refl 0) (kI_of hf)
      · have hf := it_f h18 hf
        refine V_iconst (v := (-1 : Int32)) dX11_hide_20 (by decide) ?_
        exact V_ireturn dX11_hide_21 rfl rfl (Nat.le_refl 0) (kI_of hf)
def wJ6_bitCount_0f7a4 (n : Nat) (sh : Nat → Nat × Nat) (x0 : Int32) (z : gS) (P : Int32 → gS → Prop) : Prop := ∀ v1 : Int32, v1 = (x0 - (((x0.toUInt32 >>> ((1 : Int32).toUInt32 &&& Int32.toUInt32 31)).toInt32) &&& (1431655765 : Int32))) → (∀ v2 : Int32, v2 = ((v1 &&& (858993459 : Int32)) + (((v1.toUInt32 >>> ((2 : Int32).toUInt32 &&& Int32.toUInt32 31)).toInt32) &&& (858993459 : Int32))) → (∀ v3 : Int32, v3 = ((v2 + ((v2.toUInt32 >>> ((4 : Int32).toUInt32 &&& Int32.toUInt32 31)).toInt32)) &&& (252645135 : Int32)) → (∀ v4 : Int32, v4 = (v3 + ((v3.toUInt32 >>> ((8 : Int32).toUInt32 &&& Int32.toUInt32 31)).toInt32)) → (∀ v5 : Int32, v5 = (v4 + ((v4.toUInt32 >>> ((16 : Int32).toUInt32 &&& Int32.toUInt32 31)).toInt32)) → P (v5 &&& (63 : Int32)) z))))
set_option maxRecDepth 100000 in
set_option maxHeartbeats 4000000 in
theorem ctJ6_bitCount_0f7a4 {E : gE} {n : Nat} {sh : Nat → Nat × Nat} {x0 : Int32} {z : gS} {P : Int32 → gS → Prop} (hn : gOK E n) (hf : wJ6_bitCount_0f7a4 n sh x0 z P) : VM E 0 0 gyJ6_bitCount_0f7a4 [.int x0] n sh z (kI n sh P) := by
  unfold wJ6_bitCount_0f7a4 at hf
  refine VM.of (by decide +kernel) (Nat.le_of_ble_eq_true rfl) (fun _ _ _ h => h.2.2) ?_
  show V E (gR 0 0) gyJ6_bitCount_0f7a4 0 0 0 [(0, .int x0)] [] n sh z (kI n sh P)
  refine V_iload_n (j := 0) dJ6_bitCount_0f7a4_0 rfl rfl ?_
  refine V_iload_n (j := 0) dJ6_bitCount_0f7a4_1 rfl rfl ?_
  refine V_iconst (v := (1 : Int32)) dJ6_bitCount_0f7a4_2 (by decide) ?_
  refine V_iushr dJ6_bitCount_0f7a4_3 ?_
  refine V_ldcw dJ6_bitCount_0f7a4_4 rfl ki_J6_265 ?_
  refine V_iand dJ6_bitCount_0f7a4_7 ?_
  refine V_isub dJ6_bitCount_0f7a4_8 ?_
  refine V_nI (fun v1 ev1 => ?_)
  have hf := hf v1 ev1
  refine V_istore_n (ls2 := [(0, .int v1)]) dJ6_bitCount_0f7a4_9 rfl (by decide) rfl ?_
  refine V_iload_n (j := 0) dJ6_bitCount_0f7a4_10 rfl rfl ?_
  refine V_ldcw dJ6_bitCount_0f7a4_11 rfl ki_J6_266 ?_
  refine V_iand dJ6_bitCount_0f7a4_14 ?_
  refine V_iload_n (j := 0) dJ6_bitCount_0f7a4_15 rfl rfl ?_
  refine V_iconst (v := (2 : Int32)) dJ6_bitCount_0f7a4_16 (by decide) ?_
  refine V_iushr dJ6_bitCount_0f7a4_17 ?_
  refine V_ldcw dJ6_bitCount_0f7a4_18 rfl ki_J6_266 ?_
  refine V_iand dJ6_bitCount_0f7a4_21 ?_
  refine V_iadd dJ6_bitCount_0f7a4_22 ?_
  refine V_nI (fun v2 ev2 => ?_)
  have hf := hf v2 ev2
  refine V_istore_n (ls2 := [(0, .int v2)]) dJ6_bitCount_0f7a4_23 rfl (by decide) rfl ?_
  refine V_iload_n (j := 0) dJ6_bitCount_0f7a4_24 rfl rfl ?_
  refine V_iload_n (j := 0) dJ6_bitCount_0f7a4_25 rfl rfl ?_
  refine V_iconst (v := (4 : Int32)) dJ6_bitCount_0f7a4_26 (by decide) ?_
  refine V_iushr dJ6_bitCount_0f7a4_27 ?_
  refine V_iadd dJ6_bitCount_0f7a4_28 ?_
  refine V_ldcw dJ6_bitCount_0f7a4_29 rfl ki_J6_267 ?_
  refine V_iand dJ6_bitCount_0f7a4_32 ?_
  refine V_nI (fun v3 ev3 => ?_)
  have hf := hf v3 ev3
  refine V_istore_n (ls2 := [(0, .int v3)]) dJ6_bitCount_0f7a4_33 rfl (by decide) rfl ?_
  refine V_iload_n (j := 0) dJ6_bitCount_0f7a4_34 rfl rfl ?_
  refine V_iload_n (j := 0) dJ6_bitCount_0f7a4_35 rfl rfl ?_
  refine V_bipush (v := (8 : Int32)) dJ6_bitCount_0f7a4_36 (by decide) ?_
  refine V_iushr dJ6_bitCount_0f7a4_38 ?_
  refine V_iadd dJ6_bitCount_0f7a4_39 ?_
  refine V_nI (fun v4 ev4 => ?_)
  have hf := hf v4 ev4
  refine V_istore_n (ls2 := [(0, .int v4)]) dJ6_bitCount_0f7a4_40 rfl (by decide) rfl ?_
  refine V_iload_n (j := 0) dJ6_bitCount_0f7a4_41 rfl rfl ?_
  refine V_iload_n (j := 0) dJ6_bitCount_0f7a4_42 rfl rfl ?_
  refine V_bipush (v := (16 : Int32)) dJ6_bitCount_0f7a4_43 (by decide) ?_
  refine V_iushr dJ6_bitCount_0f7a4_45 ?_
  refine V_iadd dJ6_bitCount_0f7a4_46 ?_
  refine V_nI (fun v5 ev5 => ?_)
  have hf := hf v5 ev5
  refine V_istore_n (ls2 := [(0, .int v5)]) dJ6_bitCount_0f7a4_47 rfl (by decide) rfl ?_
  refine V_iload_n (j := 0) dJ6_bitCount_0f7a4_48 rfl rfl ?_
  refine V_bipush (v := (63 : Int32)) dJ6_bitCount_0f7a4_49 (by decide) ?_
  refine V_iand dJ6_bitCount_0f7a4_51 ?_
  exact V_ireturn dJ6_bitCount_0f7a4_52 rfl rfl (Nat.le_refl 0) (kI_of hf)
def wX11_isBetterSet_J32 (n : Nat) (sh : Nat → Nat × Nat) (P : Int32 → gS → Prop) (z : gS) : Prop := P (1 : Int32) z
set_option maxRecDepth 100000 in
set_option maxHeartbeats 4000000 in
theorem vX11_isBetterSet_J32 {E : gE} {n : Nat} {sh : Nat → Nat × Nat} {P : Int32 → gS → Prop} {z : gS} (hn : gOK E n) (hf : wX11_isBetterSet_J32 n sh P z) : V E (gR 1 0) gyX11_isBetterSet 0 0 32 [] [] n sh z (kI n sh P) := by
  unfold wX11_isBetterSet_J32 at hf
  refine V_iconst (v := (1 : Int32)) dX11_isBetterSet_32 (by decide) ?_
  refine V_goto (tgt := 37) dX11_isBetterSet_33 (by decide) ?_
  exact V_ireturn dX11_isBetterSet_37 rfl (by decide) (Nat.le_refl 0) (kI_of hf)
def wX11_isBetterSet (n : Nat) (sh : Nat → Nat × Nat) (x0 : Int32) (x1 : Int32) (z : gS) (P : Int32 → gS → Prop) : Prop := if x1 = (-1 : Int32) then P (1 : Int32) z else (wJ6_bitCount_0f7a4 n sh x0 z (fun (r1 : Int32) (z2 : gS) => wJ6_bitCount_0f7a4 n sh x1 z2 (fun (r3 : Int32) (z4 : gS) => if r1 < r3 then wX11_isBetterSet_J32 n sh P  z4 else (if r1 = r3 then (if x1 ≤ x0 then P (0 : Int32) z4 else wX11_isBetterSet_J32 n sh P  z4) else P (0 : Int32) z4))))
set_option maxRecDepth 100000 in
set_option maxHeartbeats 4000000 in
theorem ctX11_isBetterSet {E : gE} {n : Nat} {sh : Nat → Nat × Nat} {x0 : Int32} {x1 : Int32} {z : gS} {P : Int32 → gS → Prop} (hn : gOK E n) (hf : wX11_isBetterSet n sh x0 x1 z P) : VM E 1 0 gyX11_isBetterSet [.int x0, .int x1] n sh z (kI n sh P) := by
  unfold wX11_isBetterSet at hf
  refine VM.of (by decide +kernel) (Nat.le_of_ble_eq_true rfl) (fun _ _ _ h => h.2.2) ?_
  show V E (gR 1 0) gyX11_isBetterSet 0 0 0 [(0, .int x0), (1, .int x1)] [] n sh z (kI n sh P)
  refine V_iload_n (j := 1) dX11_isBetterSet_0 rfl rfl ?_
  refine V_iconst (v := (-1 : Int32)) dX11_isBetterSet_1 (by decide) ?_
  refine V_icmp_ne (tgt := 7) dX11_isBetterSet_2 (by decide) (fun h8 => ?_) (fun h8 => ?_)
  · have hf := it_f h8 hf
    refine V_iload_n (j := 0) dX11_isBetterSet_7 rfl rfl ?_
    refine V_cSI (ctJ6_bitCount_0f7a4 hn hf) gc_X11_332 rfl ⟨by decide, by decide, Nat.zero_le _, Nat.zero_le _⟩ (Nat.le_of_ble_eq_true rfl) dX11_isBetterSet_8 rfl hn (fun r1 z2 hf => ?_)
    refine V_istore_n (ls2 := [(2, .int r1), (0, .int x0), (1, .int x1)]) dX11_isBetterSet_11 rfl (by decide) rfl ?_
    refine V_iload_n (j := 2) dX11_isBetterSet_12 rfl rfl ?_
    refine V_cSI (ctJ6_bitCount_0f7a4 hn hf) gc_X11_332 rfl ⟨by decide, by decide, Nat.zero_le _, Nat.zero_le _⟩ (Nat.le_of_ble_eq_true rfl) dX11_isBetterSet_13 rfl hn (fun r3 z4 hf => ?_)
    refine V_istore_n (ls2 := [(3, .int r3), (2, .int r1), (0, .int x0), (1, .int x1)]) dX11_isBetterSet_16 rfl (by decide) rfl ?_
    refine V_iload_n (j := 1) dX11_isBetterSet_17 rfl rfl ?_
    refine V_iload_n (j := 0) dX11_isBetterSet_18 rfl rfl ?_
    refine V_icmp_lt (tgt := 32) dX11_isBetterSet_19 (by decide) (fun h7 => ?_) (fun h7 => ?_)
    · have hf := it_t h7 hf
      refine V_to [] rfl ?_
      exact vX11_isBetterSet_J32 hn hf
    · have hf := it_f h7 hf
      refine V_iload_n (j := 1) dX11_isBetterSet_22 rfl rfl ?_
      refine V_iload_n (j := 0) dX11_isBetterSet_23 rfl rfl ?_
      refine V_icmp_ne (tgt := 36) dX11_isBetterSet_24 (by decide) (fun h6 => ?_) (fun h6 => ?_)
      · have hf := it_f h6 hf
        refine V_iconst (v := (0 : Int32)) dX11_isBetterSet_36 (by decide) ?_
        exact V_ireturn dX11_isBetterSet_37 rfl (by decide) (Nat.le_refl 0) (kI_of hf)
      · have hf := it_t (Classical.not_not.mp h6) hf
        refine V_iload_n (j := 2) dX11_isBetterSet_27 rfl rfl ?_
        refine V_iload_n (j := 3) dX11_isBetterSet_28 rfl rfl ?_
        refine V_icmp_ge (tgt := 36) dX11_isBetterSet_29 (by decide) (fun h5 => ?_) (fun h5 => ?_)
        · have hf := it_t h5 hf
          refine V_iconst (v := (0 : Int32)) dX11_isBetterSet_36 (by decide) ?_
          exact V_ireturn dX11_isBetterSet_37 rfl (by decide) (Nat.le_refl 0) (kI_of hf)
        · have hf := it_f h5 hf
          refine V_to [] rfl ?_
          exact vX11_isBetterSet_J32 hn hf
  · have hf := it_t (Classical.not_not.mp h8) hf
    refine V_iconst (v := (1 : Int32)) dX11_isBetterSet_5 (by decide) ?_
    exact V_ireturn dX11_isBetterSet_6 rfl (by decide) (Nat.le_refl 0) (kI_of hf)
def wX3_fewestProving_J47 (n : Nat) (sh : Nat → Nat × Nat) (k6 : Nat → Nat → Int32 → Int32 → Int32 → Int32 → gS → Prop) (P : Int32 → gS → Prop) (a0 : Nat) (a1 : Nat) (x2 : Int32) (x3 : Int32) (x4 : Int32) (x5 : Int32) (z : gS) : Prop := ∀ v6 : Int32, v6 = x5 + (1 : Int32) → k6 a0 a1 x2 x3 x4 v6 z
set_option maxRecDepth 100000 in
set_option maxHeartbeats 4000000 in
theorem vX3_fewestProving_J47 {E : gE} {n : Nat} {sh : Nat → Nat × Nat} {P : Int32 → gS → Prop} {k6 : Nat → Nat → Int32 → Int32 → Int32 → Int32 → gS → Prop} {a0 : Nat} {a1 : Nat} {x2 : Int32} {x3 : Int32} {x4 : Int32} {x5 : Int32} {z : gS} (hn : gOK E n) (hk6 : ∀ (a0 : Nat) (a1 : Nat) (x2 : Int32) (x3 : Int32) (x4 : Int32) (x5 : Int32) (z : gS), k6 a0 a1 x2 x3 x4 x5 z → V E (gR 4 0) gyX3_fewestProving 0 0 6 [(0, .ref a0), (1, .ref a1), (2, .int x2), (3, .int x3), (4, .int x4), (5, .int x5)] [] n sh z (kI n sh P)) (hf : wX3_fewestProving_J47 n sh k6 P a0 a1 x2 x3 x4 x5 z) : V E (gR 4 0) gyX3_fewestProving 0 0 47 [(0, .ref a0), (1, .ref a1), (2, .int x2), (3, .int x3), (4, .int x4), (5, .int x5)] [] n sh z (kI n sh P) := by
  unfold wX3_fewestProving_J47 at hf
  obtain ⟨v6, ev6⟩ : ∃ y : Int32, y = x5 + (1 : Int32) := ⟨_, rfl⟩
  refine V_iinc (j := 5) (v := v6) (ls2 := [(5, .int v6), (0, .ref a0), (1, .ref a1), (2, .int x2), (3, .int x3), (4, .int x4)]) dX3_fewestProving_47 rfl (by rw [ev6]; rfl) (by decide) rfl ?_
  have hf := hf v6 ev6
  refine V_goto (tgt := 6) dX3_fewestProving_50 (by decide) ?_
  refine V_to [1, 2, 3, 4, 5, 0] rfl ?_
  exact hk6 _ _ _ _ _ _ _ hf
def wX3_fewestProving_B6 (n : Nat) (sh : Nat → Nat × Nat) (k6 : Nat → Nat → Int32 → Int32 → Int32 → Int32 → gS → Prop) (P : Int32 → gS → Prop) (a0 : Nat) (a1 : Nat) (x2 : Int32) (x3 : Int32) (x4 : Int32) (x5 : Int32) (z : gS) : Prop := wX3_allPanes n sh a0 z (fun (r1 : Int32) (z2 : gS) => if r1 < x5 then P x4 z2 else (wX3_deedsShownOf n sh a0 a1 x5 x2 z2 (fun (r3 : Int32) (z4 : gS) => ∀ v5 : Int32, v5 = (r3 &&& x3) → (if v5 = x3 then (wX11_isBetterSet n sh x5 x4 z4 (fun (r7 : Int32) (z8 : gS) => if r7 = 0 then wX3_fewestProving_J47 n sh k6 P a0 a1 x2 x3 x4 x5 z8 else wX3_fewestProving_J47 n sh k6 P a0 a1 x2 x3 x5 x5 z8)) else wX3_fewestProving_J47 n sh k6 P a0 a1 x2 x3 x4 x5 z4))))
def wX3_fewestProving_L6 (n : Nat) (sh : Nat → Nat × Nat) (P : Int32 → gS → Prop) : Nat → Nat → Nat → Int32 → Int32 → Int32 → Int32 → gS → Prop
  | 0, _, _, _, _, _, _, _ => False
  | N + 1, a0, a1, x2, x3, x4, x5, z => wX3_fewestProving_B6 n sh (wX3_fewestProving_L6 n sh P N) P a0 a1 x2 x3 x4 x5 z
set_option maxRecDepth 100000 in
set_option maxHeartbeats 4000000 in
theorem vX3_fewestProving_B6 {E : gE} {n : Nat} {sh : Nat → Nat × Nat} {P : Int32 → gS → Prop} {k6 : Nat → Nat → Int32 → Int32 → Int32 → Int32 → gS → Prop} {a0 : Nat} {a1 : Nat} {x2 : Int32} {x3 : Int32} {x4 : Int32} {x5 : Int32} {z : gS} (hn : gOK E n) (hk6 : ∀ (a0 : Nat) (a1 : Nat) (x2 : Int32) (x3 : Int32) (x4 : Int32) (x5 : Int32) (z : gS), k6 a0 a1 x2 x3 x4 x5 z → V E (gR 4 0) gyX3_fewestProving 0 0 6 [(0, .ref a0), (1, .ref a1), (2, .int x2), (3, .int x3), (4, .int x4), (5, .int x5)] [] n sh z (kI n sh P)) (hf : wX3_fewestProving_B6 n sh k6 P a0 a1 x2 x3 x4 x5 z) : V E (gR 4 0) gyX3_fewestProving 0 0 6 [(0, .ref a0), (1, .ref a1), (2, .int x2), (3, .int x3), (4, .int x4), (5, .int x5)] [] n sh z (kI n sh P) := by
  unfold wX3_fewestProving_B6 at hf
  refine V_iload (j := 5) dX3_fewestProving_6 rfl ?_
  refine V_aload_n (j := 0) dX3_fewestProving_8 rfl rfl ?_
  refine V_cSI (ctX3_allPanes hn hf) gc_X3_61 rfl ⟨by decide, by decide, Nat.zero_le _, Nat.zero_le _⟩ (Nat.le_of_ble_eq_true rfl) dX3_fewestProving_9 rfl hn (fun r1 z2 hf => ?_)
  refine V_icmp_gt (tgt := 53) dX3_fewestProving_12 (by decide) (fun h11 => ?_) (fun h11 => ?_)
  · have hf := it_t h11 hf
    refine V_iload (j := 4) dX3_fewestProving_53 rfl ?_
    exact V_ireturn dX3_fewestProving_55 rfl rfl (Nat.le_refl 0) (kI_of hf)
  · have hf := it_f h11 hf
    refine V_aload_n (j := 0) dX3_fewestProving_15 rfl rfl ?_
    refine V_aload_n (j := 1) dX3_fewestProving_16 rfl rfl ?_
    refine V_iload (j := 5) dX3_fewestProving_17 rfl ?_
    refine V_iload_n (j := 2) dX3_fewestProving_19 rfl rfl ?_
    refine V_cSI (ctX3_deedsShownOf hn hf) gc_X3_65 rfl ⟨by decide, by decide, Nat.zero_le _, Nat.zero_le _⟩ (Nat.le_of_ble_eq_true rfl) dX3_fewestProving_20 rfl hn (fun r3 z4 hf => ?_)
    refine V_iload_n (j := 3) dX3_fewestProving_23 rfl rfl ?_
    refine V_iand dX3_fewestProving_24 ?_
    refine V_nI (fun v5 ev5 => ?_)
    have hf := hf v5 ev5
    refine V_istore (ls2 := [(6, .int v5), (0, .ref a0), (1, .ref a1), (2, .int x2), (3, .int x3), (4, .int x4), (5, .int x5)]) dX3_fewestProving_25 (by decide) rfl ?_
    refine V_iload (j := 0) dX3_fewestProving_27 rfl ?_
    refine V_iload_n (j := 4) dX3_fewestProving_29 rfl rfl ?_
    refine V_icmp_ne (tgt := 47) dX3_fewestProving_30 (by decide) (fun h10 => ?_) (fun h10 => ?_)
    · have hf := it_f h10 hf
      refine V_to [1, 2, 3, 4, 5, 6] rfl ?_
      exact vX3_fewestProving_J47 hn hk6 hf
    · have hf := it_t (Classical.not_not.mp h10) hf
      refine V_iload (j := 6) dX3_fewestProving_33 rfl ?_
      refine V_iload (j := 5) dX3_fewestProving_35 rfl ?_
      refine V_cSI (ctX11_isBetterSet hn hf) gc_X3_69 rfl ⟨by decide, by decide, Nat.zero_le _, Nat.zero_le _⟩ (Nat.le_of_ble_eq_true rfl) dX3_fewestProving_37 rfl hn (fun r7 z8 hf => ?_)
      refine V_if_eq (tgt := 47) dX3_fewestProving_40 (by decide) (fun h9 => ?_) (fun h9 => ?_)
      · have hf := it_t h9 hf
        refine V_to [1, 2, 3, 4, 5, 6] rfl ?_
        exact vX3_fewestProving_J47 hn hk6 hf
      · have hf := it_f h9 hf
        refine V_iload (j := 6) dX3_fewestProving_43 rfl ?_
        refine V_istore (ls2 := [(4, .int x5), (6, .int v5), (0, .ref a0), (1, .ref a1), (2, .int x2), (3, .int x3), (5, .int x5)]) dX3_fewestProving_45 (by decide) rfl ?_
        refine V_to [2, 3, 4, 5, 0, 6] rfl ?_
        exact vX3_fewestProving_J47 hn hk6 hf
set_option maxRecDepth 100000 in
set_option maxHeartbeats 4000000 in
theorem vX3_fewestProving_L6 {E : gE} {n : Nat} {sh : Nat → Nat × Nat} {P : Int32 → gS → Prop} (hn : gOK E n) : ∀ (N : Nat) (a0 : Nat) (a1 : Nat) (x2 : Int32) (x3 : Int32) (x4 : Int32) (x5 : Int32) (z : gS), wX3_fewestProving_L6 n sh P N a0 a1 x2 x3 x4 x5 z → V E (gR 4 0) gyX3_fewestProving 0 0 6 [(0, .ref a0), (1, .ref a1), (2, .int x2), (3, .int x3), (4, .int x4), (5, .int x5)] [] n sh z (kI n sh P) := by
  intro N
  induction N with
  | zero => intro a0 a1 x2 x3 x4 x5 z hf; exact False.elim hf
  | succ N ih => intro a0 a1 x2 x3 x4 x5 z hf; exact vX3_fewestProving_B6 hn ih hf
def wX3_fewestProving (n : Nat) (sh : Nat → Nat × Nat) (a0 : Nat) (a1 : Nat) (x2 : Int32) (x3 : Int32) (z : gS) (P : Int32 → gS → Prop) : Prop := (∃ N, wX3_fewestProving_L6 n sh P N a0 a1 x2 x3 (-1 : Int32) (0 : Int32) z)
set_option maxRecDepth 100000 in
set_option maxHeartbeats 4000000 in
theorem ctX3_fewestProving {E : gE} {n : Nat} {sh : Nat → Nat × Nat} {a0 : Nat} {a1 : Nat} {x2 : Int32} {x3 : Int32} {z : gS} {P : Int32 → gS → Prop} (hn : gOK E n) (hf : wX3_fewestProving n sh a0 a1 x2 x3 z P) : VM E 4 0 gyX3_fewestProving [.ref a0, .ref a1, .int x2, .int x3] n sh z (kI n sh P) := by
  unfold wX3_fewestProving at hf
  refine VM.of (by decide +kernel) (Nat.le_of_ble_eq_true rfl) (fun _ _ _ h => h.2.2) ?_
  show V E (gR 4 0) gyX3_fewestProving 0 0 0 [(0, .ref a0), (1, .ref a1), (2, .int x2), (3, .int x3)] [] n sh z (kI n sh P)
  refine V_iconst (v := (-1 : Int32)) dX3_fewestProving_0 (by decide) ?_
  refine V_istore (ls2 := [(4, .int (-1 : Int32)), (0, .ref a0), (1, .ref a1), (2, .int x2), (3, .int x3)]) dX3_fewestProving_1 (by decide) rfl ?_
  refine V_iconst (v := (0 : Int32)) dX3_fewestProving_3 (by decide) ?_
  refine V_istore (ls2 := [(5, .int (0 : Int32)), (4, .int (-1 : Int32)), (0, .ref a0), (1, .ref a1), (2, .int x2), (3, .int x3)]) dX3_fewestProving_4 (by decide) rfl ?_
  obtain ⟨N, hf⟩ := hf
  refine V_to [2, 3, 4, 5, 1, 0] rfl ?_
  exact vX3_fewestProving_L6 hn N _ _ _ _ _ _ _ hf
def wX11_proof (n : Nat) (sh : Nat → Nat × Nat) (a0 : Nat) (x1 : Int32) (x2 : Int32) (z : gS) (P : Int32 → gS → Prop) : Prop := (oO n sh a0 7) ∧ (∃ t2 : Nat, gr z a0 7 = some t2 ∧ ((oO n sh t2 4) ∧ (wX7_hasPerson n sh t2 x1 z (fun (r3 : Int32) (z4 : gS) => if r3 = 0 then P (-1 : Int32) z4 else (if x2 < 0 then P (-1 : Int32) z4 else (∃ t6 : Nat, gr z4 a0 7 = some t6 ∧ ((oO n sh t6 4) ∧ (if x2 < ((1 : Int32) <<< ((gi z4 t6 12) &&& 31)) then (∃ t8 : Nat, gr z4 a0 7 = some t8 ∧ (∃ t9 : Nat, gr z4 a0 1 = some t9 ∧ (wX3_fewestProving n sh t8 t9 x1 x2 z4 (fun (r10 : Int32) (z11 : gS) => P r10 z11)))) else P (-1 : Int32) z4))))))))
set_option maxRecDepth 100000 in
set_option maxHeartbeats 4000000 in
theorem ctX11_proof {E : gE} {n : Nat} {sh : Nat → Nat × Nat} {a0 : Nat} {x1 : Int32} {x2 : Int32} {z : gS} {P : Int32 → gS → Prop} (hn : gOK E n) (hf : wX11_proof n sh a0 x1 x2 z P) : VM E 5 0 gyX11_proof [.ref a0, .int x1, .int x2] n sh z (kI n sh P) := by
  unfold wX11_proof at hf
  refine VM.of (by decide +kernel) (Nat.le_of_ble_eq_true rfl) (fun _ _ _ h => h.2.2) ?_
  show V E (gR 5 0) gyX11_proof 0 0 0 [(0, .ref a0), (1, .int x1), (2, .int x2)] [] n sh z (kI n sh P)
  refine V_aload_n (j := 0) dX11_proof_0 rfl rfl ?_
  obtain ⟨h1, hf⟩ := hf
  obtain ⟨t2, et2, hf⟩ := hf
  refine V_getR fl_X11_51 rfl h1.1 h1.2 et2 dX11_proof_1 ?_
  refine V_iload_n (j := 1) dX11_proof_4 rfl rfl ?_
  obtain ⟨h5, hf⟩ := hf
  refine V_cVI (ctX7_hasPerson hn hf) gc_X11_149 rfl h5.1 ⟨_, h5.2, by decide, rfl⟩ ⟨by decide, by decide, Nat.zero_le _, Nat.zero_le _⟩ (Nat.le_of_ble_eq_true rfl) dX11_proof_5 rfl hn (fun r3 z4 hf => ?_)
  refine V_if_eq (tgt := 28) dX11_proof_8 (by decide) (fun h14 => ?_) (fun h14 => ?_)
  · have hf := it_t h14 hf
    refine V_iconst (v := (-1 : Int32)) dX11_proof_28 (by decide) ?_
    exact V_ireturn dX11_proof_29 rfl rfl (Nat.le_refl 0) (kI_of hf)
  · have hf := it_f h14 hf
    refine V_iload_n (j := 2) dX11_proof_11 rfl rfl ?_
    refine V_if_lt (tgt := 28) dX11_proof_12 (by decide) (fun h13 => ?_) (fun h13 => ?_)
    · have hf := it_t h13 hf
      refine V_iconst (v := (-1 : Int32)) dX11_proof_28 (by decide) ?_
      exact V_ireturn dX11_proof_29 rfl rfl (Nat.le_refl 0) (kI_of hf)
    · have hf := it_f h13 hf
      refine V_iload_n (j := 2) dX11_proof_15 rfl rfl ?_
      refine V_iconst (v := (1 : Int32)) dX11_proof_16 (by decide) ?_
      refine V_aload_n (j := 0) dX11_proof_17 rfl rfl ?_
      obtain ⟨t6, et6, hf⟩ := hf
      refine V_getR fl_X11_51 rfl h1.1 h1.2 et6 dX11_proof_18 ?_
      obtain ⟨h7, hf⟩ := hf
      refine V_getI fl_X11_222 rfl h7.1 h7.2 dX11_proof_21 ?_
      refine V_ishl dX11_proof_24 ?_
      refine V_icmp_lt (tgt := 30) dX11_proof_25 (by decide) (fun h12 => ?_) (fun h12 => ?_)
      · have hf := it_t h12 hf
        refine V_aload_n (j := 0) dX11_proof_30 rfl rfl ?_
        obtain ⟨t8, et8, hf⟩ := hf
        refine V_getR fl_X11_51 rfl h1.1 h1.2 et8 dX11_proof_31 ?_
        refine V_aload_n (j := 0) dX11_proof_34 rfl rfl ?_
        obtain ⟨t9, et9, hf⟩ := hf
        refine V_getR fl_X11_19 rfl h1.1 h1.2 et9 dX11_proof_35 ?_
        refine V_iload_n (j := 1) dX11_proof_38 rfl rfl ?_
        refine V_iload_n (j := 2) dX11_proof_39 rfl rfl ?_
        refine V_cSI (ctX3_fewestProving hn hf) gc_X11_225 rfl ⟨by decide, by decide, Nat.zero_le _, Nat.zero_le _⟩ (Nat.le_of_ble_eq_true rfl) dX11_proof_40 rfl hn (fun r10 z11 hf => ?_)
        exact V_ireturn dX11_proof_43 rfl rfl (Nat.le_refl 0) (kI_of hf)
      · have hf := it_f h12 hf
        refine V_iconst (v := (-1 : Int32)) dX11_proof_28 (by decide) ?_
        exact V_ireturn dX11_proof_29 rfl rfl (Nat.le_refl 0) (kI_of hf)
def wX3_rinsesNeeded_J94 (n : Nat) (sh : Nat → Nat × Nat) (k6 : Nat → Nat → Int32 → Int32 → Int32 → Int32 → gS → Prop) (P : Int32 → gS → Prop) (a0 : Nat) (a1 : Nat) (x2 : Int32) (x3 : Int32) (x4 : Int32) (x5 : Int32) (z : gS) : Prop := ∀ v8 : Int32, v8 = x5 + (1 : Int32) → k6 a0 a1 x2 x3 x4 v8 z
set_option maxRecDepth 100000 in
set_option maxHeartbeats 4000000 in
theorem vX3_rinsesNeeded_J94 {E : gE} {n : Nat} {sh : Nat → Nat × Nat} {P : Int32 → gS → Prop} {k6 : Nat → Nat → Int32 → Int32 → Int32 → Int32 → gS → Prop} {a0 : Nat} {a1 : Nat} {x2 : Int32} {x3 : Int32} {x4 : Int32} {x5 : Int32} {z : gS} (hn : gOK E n) (hk6 : ∀ (a0 : Nat) (a1 : Nat) (x2 : Int32) (x3 : Int32) (x4 : Int32) (x5 : Int32) (z : gS), k6 a0 a1 x2 x3 x4 x5 z → V E (gR 1 0) gyX3_rinsesNeeded 0 0 6 [(0, .ref a0), (1, .ref a1), (2, .int x2), (3, .int x3), (4, .int x4), (5, .int x5)] [] n sh z (kI n sh P)) (hf : wX3_rinsesNeeded_J94 n sh k6 P a0 a1 x2 x3 x4 x5 z) : V E (gR 1 0) gyX3_rinsesNeeded 0 0 94 [(0, .ref a0), (1, .ref a1), (2, .int x2), (3, .int x3), (4, .int x4), (5, .int x5)] [] n sh z (kI n sh P) := by
  unfold wX3_rinsesNeeded_J94 at hf
  obtain ⟨v8, ev8⟩ : ∃ y : Int32, y = x5 + (1 : Int32) := ⟨_, rfl⟩
  refine V_iinc (j := 5) (v := v8) (ls2 := [(5, .int v8), (0, .ref a0), (1, .ref a1), (2, .int x2), (3, .int x3), (4, .int x4)]) dX3_rinsesNeeded_94 rfl (by rw [ev8]; rfl) (by decide) rfl ?_
  have hf := hf v8 ev8
  refine V_goto (tgt := 6) dX3_rinsesNeeded_97 (by decide) ?_
  refine V_to [1, 2, 3, 4, 5, 0] rfl ?_
  exact hk6 _ _ _ _ _ _ _ hf
def wX3_rinsesNeeded_J88 (n : Nat) (sh : Nat → Nat × Nat) (k6 : Nat → Nat → Int32 → Int32 → Int32 → Int32 → gS → Prop) (k40 : Nat → Nat → Int32 → Int32 → Int32 → Int32 → Int32 → Int32 → gS → Prop) (P : Int32 → gS → Prop) (a0 : Nat) (a1 : Nat) (x2 : Int32) (x3 : Int32) (x4 : Int32) (x5 : Int32) (x6 : Int32) (x7 : Int32) (z : gS) : Prop := ∀ v14 : Int32, v14 = x7 + (1 : Int32) → k40 a0 a1 x2 x3 x4 x5 x6 v14 z
set_option maxRecDepth 100000 in
set_option maxHeartbeats 4000000 in
theorem vX3_rinsesNeeded_J88 {E : gE} {n : Nat} {sh : Nat → Nat × Nat} {P : Int32 → gS → Prop} {k6 : Nat → Nat → Int32 → Int32 → Int32 → Int32 → gS → Prop} {k40 : Nat → Nat → Int32 → Int32 → Int32 → Int32 → Int32 → Int32 → gS → Prop} {a0 : Nat} {a1 : Nat} {x2 : Int32} {x3 : Int32} {x4 : Int32} {x5 : Int32} {x6 : Int32} {x7 : Int32} {z : gS} (hn : gOK E n) (hk6 : ∀ (a0 : Nat) (a1 : Nat) (x2 : Int32) (x3 : Int32) (x4 : Int32) (x5 : Int32) (z : gS), k6 a0 a1 x2 x3 x4 x5 z → V E (gR 1 0) gyX3_rinsesNeeded 0 0 6 [(0, .ref a0), (1, .ref a1), (2, .int x2), (3, .int x3), (4, .int x4), (5, .int x5)] [] n sh z (kI n sh P)) (hk40 : ∀ (a0 : Nat) (a1 : Nat) (x2 : Int32) (x3 : Int32) (x4 : Int32) (x5 : Int32) (x6 : Int32) (x7 : Int32) (z : gS), k40 a0 a1 x2 x3 x4 x5 x6 x7 z → V E (gR 1 0) gyX3_rinsesNeeded 0 0 40 [(0, .ref a0), (1, .ref a1), (2, .int x2), (3, .int x3), (4, .int x4), (5, .int x5), (6, .int x6), (7, .int x7)] [] n sh z (kI n sh P)) (hf : wX3_rinsesNeeded_J88 n sh k6 k40 P a0 a1 x2 x3 x4 x5 x6 x7 z) : V E (gR 1 0) gyX3_rinsesNeeded 0 0 88 [(0, .ref a0), (1, .ref a1), (2, .int x2), (3, .int x3), (4, .int x4), (5, .int x5), (6, .int x6), (7, .int x7)] [] n sh z (kI n sh P) := by
  unfold wX3_rinsesNeeded_J88 at hf
  obtain ⟨v14, ev14⟩ : ∃ y : Int32, y = x7 + (1 : Int32) := ⟨_, rfl⟩
  refine V_iinc (j := 7) (v := v14) (ls2 := [(7, .int v14), (0, .ref a0), (1, .ref a1), (2, .int x2), (3, .int x3), (4, .int x4), (5, .int x5), (6, .int x6)]) dX3_rinsesNeeded_88 rfl (by rw [ev14]; rfl) (by decide) rfl ?_
  have hf := hf v14 ev14
  refine V_goto (tgt := 40) dX3_rinsesNeeded_91 (by decide) ?_
  refine V_to [1, 2, 3, 4, 5, 6, 7, 0] rfl ?_
  exact hk40 _ _ _ _ _ _ _ _ _ hf
def wX3_rinsesNeeded_B40 (n : Nat) (sh : Nat → Nat × Nat) (k6 : Nat → Nat → Int32 → Int32 → Int32 → Int32 → gS → Prop) (k40 : Nat → Nat → Int32 → Int32 → Int32 → Int32 → Int32 → Int32 → gS → Prop) (P : Int32 → gS → Prop) (a0 : Nat) (a1 : Nat) (x2 : Int32) (x3 : Int32) (x4 : Int32) (x5 : Int32) (x6 : Int32) (x7 : Int32) (z : gS) : Prop := if x6 ≤ x7 then wX3_rinsesNeeded_J94 n sh k6 P a0 a1 x2 x3 x4 x5 z else ((oO n sh a1 6) ∧ (wX10_markAt n sh a1 x5 x7 z (fun (r9 : Int32) (z10 : gS) => wX10_whoOf n sh r9 z10 (fun (r12 : Int32) (z13 : gS) => if r12 = x2 then (wX10_deedOf n sh r9 z13 (fun (r15 : Int32) (z16 : gS) => if r15 = x3 then (∀ v17 : Int32, v17 = (x4 + (x6 - x7)) → wX3_rinsesNeeded_J94 n sh k6 P a0 a1 x2 x3 v17 x5 z16) else wX3_rinsesNeeded_J88 n sh k6 k40 P a0 a1 x2 x3 x4 x5 x6 x7 z16)) else wX3_rinsesNeeded_J88 n sh k6 k40 P a0 a1 x2 x3 x4 x5 x6 x7 z13))))
def wX3_rinsesNeeded_L40 (n : Nat) (sh : Nat → Nat × Nat) (k6 : Nat → Nat → Int32 → Int32 → Int32 → Int32 → gS → Prop) (P : Int32 → gS → Prop) : Nat → Nat → Nat → Int32 → Int32 → Int32 → Int32 → Int32 → Int32 → gS → Prop
  | 0, _, _, _, _, _, _, _, _, _ => False
  | N + 1, a0, a1, x2, x3, x4, x5, x6, x7, z => wX3_rinsesNeeded_B40 n sh k6 (wX3_rinsesNeeded_L40 n sh k6 P N) P a0 a1 x2 x3 x4 x5 x6 x7 z
set_option maxRecDepth 100000 in
set_option maxHeartbeats 4000000 in
theorem vX3_rinsesNeeded_B40 {E : gE} {n : Nat} {sh : Nat → Nat × Nat} {P : Int32 → gS → Prop} {k6 : Nat → Nat → Int32 → Int32 → Int32 → Int32 → gS → Prop} {k40 : Nat → Nat → Int32 → Int32 → Int32 → Int32 → Int32 → Int32 → gS → Prop} {a0 : Nat} {a1 : Nat} {x2 : Int32} {x3 : Int32} {x4 : Int32} {x5 : Int32} {x6 : Int32} {x7 : Int32} {z : gS} (hn : gOK E n) (hk6 : ∀ (a0 : Nat) (a1 : Nat) (x2 : Int32) (x3 : Int32) (x4 : Int32) (x5 : Int32) (z : gS), k6 a0 a1 x2 x3 x4 x5 z → V E (gR 1 0) gyX3_rinsesNeeded 0 0 6 [(0, .ref a0), (1, .ref a1), (2, .int x2), (3, .int x3), (4, .int x4), (5, .int x5)] [] n sh z (kI n sh P)) (hk40 : ∀ (a0 : Nat) (a1 : Nat) (x2 : Int32) (x3 : Int32) (x4 : Int32) (x5 : Int32) (x6 : Int32) (x7 : Int32) (z : gS), k40 a0 a1 x2 x3 x4 x5 x6 x7 z → V E (gR 1 0) gyX3_rinsesNeeded 0 0 40 [(0, .ref a0), (1, .ref a1), (2, .int x2), (3, .int x3), (4, .int x4), (5, .int x5), (6, .int x6), (7, .int x7)] [] n sh z (kI n sh P)) (hf : wX3_rinsesNeeded_B40 n sh k6 k40 P a0 a1 x2 x3 x4 x5 x6 x7 z) : V E (gR 1 0) gyX3_rinsesNeeded 0 0 40 [(0, .ref a0), (1, .ref a1), (2, .int x2), (3, .int x3), (4, .int x4), (5, .int x5), (6, .int x6), (7, .int x7)] [] n sh z (kI n sh P) := by
  unfold wX3_rinsesNeeded_B40 at hf
  refine V_iload (j := 7) dX3_rinsesNeeded_40 rfl ?_
  refine V_iload (j := 6) dX3_rinsesNeeded_42 rfl ?_
  refine V_icmp_ge (tgt := 94) dX3_rinsesNeeded_44 (by decide) (fun h20 => ?_) (fun h20 => ?_)
  · have hf := it_t h20 hf
    refine V_to [0, 1, 2, 3, 4, 5] rfl ?_
    exact vX3_rinsesNeeded_J94 hn hk6 hf
  · have hf := it_f h20 hf
    refine V_aload_n (j := 1) dX3_rinsesNeeded_47 rfl rfl ?_
    refine V_iload (j := 5) dX3_rinsesNeeded_48 rfl ?_
    refine V_iload (j := 7) dX3_rinsesNeeded_50 rfl ?_
    obtain ⟨h11, hf⟩ := hf
    refine V_cVI (ctX10_markAt hn hf) gc_X3_37 rfl h11.1 ⟨_, h11.2, by decide, rfl⟩ ⟨by decide, by decide, Nat.zero_le _, Nat.zero_le _⟩ (Nat.le_of_ble_eq_true rfl) dX3_rinsesNeeded_52 rfl hn (fun r9 z10 hf => ?_)
    refine V_istore (ls2 := [(8, .int r9), (0, .ref a0), (1, .ref a1), (2, .int x2), (3, .int x3), (4, .int x4), (5, .int x5), (6, .int x6), (7, .int x7)]) dX3_rinsesNeeded_55 (by decide) rfl ?_
    refine V_iload (j := 0) dX3_rinsesNeeded_57 rfl ?_
    refine V_cSI (ctX10_whoOf hn hf) gc_X3_54 rfl ⟨by decide, by decide, Nat.zero_le _, Nat.zero_le _⟩ (Nat.le_of_ble_eq_true rfl) dX3_rinsesNeeded_59 rfl hn (fun r12 z13 hf => ?_)
    refine V_iload_n (j := 3) dX3_rinsesNeeded_62 rfl rfl ?_
    refine V_icmp_ne (tgt := 88) dX3_rinsesNeeded_63 (by decide) (fun h19 => ?_) (fun h19 => ?_)
    · have hf := it_f h19 hf
      refine V_to [1, 2, 3, 4, 5, 6, 7, 8] rfl ?_
      exact vX3_rinsesNeeded_J88 hn hk6 hk40 hf
    · have hf := it_t (Classical.not_not.mp h19) hf
      refine V_iload (j := 0) dX3_rinsesNeeded_66 rfl ?_
      refine V_cSI (ctX10_deedOf hn hf) gc_X3_40 rfl ⟨by decide, by decide, Nat.zero_le _, Nat.zero_le _⟩ (Nat.le_of_ble_eq_true rfl) dX3_rinsesNeeded_68 rfl hn (fun r15 z16 hf => ?_)
      refine V_iload_n (j := 4) dX3_rinsesNeeded_71 rfl rfl ?_
      refine V_icmp_ne (tgt := 88) dX3_rinsesNeeded_72 (by decide) (fun h18 => ?_) (fun h18 => ?_)
      · have hf := it_f h18 hf
        refine V_to [1, 2, 3, 4, 5, 6, 7, 8] rfl ?_
        exact vX3_rinsesNeeded_J88 hn hk6 hk40 hf
      · have hf := it_t (Classical.not_not.mp h18) hf
        refine V_iload (j := 5) dX3_rinsesNeeded_75 rfl ?_
        refine V_iload (j := 7) dX3_rinsesNeeded_77 rfl ?_
        refine V_iload (j := 8) dX3_rinsesNeeded_79 rfl ?_
        refine V_isub dX3_rinsesNeeded_81 ?_
        refine V_iadd dX3_rinsesNeeded_82 ?_
        refine V_nI (fun v17 ev17 => ?_)
        have hf := hf v17 ev17
        refine V_istore (ls2 := [(4, .int v17), (8, .int r9), (0, .ref a0), (1, .ref a1), (2, .int x2), (3, .int x3), (5, .int x5), (6, .int x6), (7, .int x7)]) dX3_rinsesNeeded_83 (by decide) rfl ?_
        refine V_goto (tgt := 94) dX3_rinsesNeeded_85 (by decide) ?_
        refine V_to [2, 3, 4, 5, 0, 6] rfl ?_
        exact vX3_rinsesNeeded_J94 hn hk6 hf
set_option maxRecDepth 100000 in
set_option maxHeartbeats 4000000 in
theorem vX3_rinsesNeeded_L40 {E : gE} {n : Nat} {sh : Nat → Nat × Nat} {P : Int32 → gS → Prop} {k6 : Nat → Nat → Int32 → Int32 → Int32 → Int32 → gS → Prop} (hn : gOK E n) (hk6 : ∀ (a0 : Nat) (a1 : Nat) (x2 : Int32) (x3 : Int32) (x4 : Int32) (x5 : Int32) (z : gS), k6 a0 a1 x2 x3 x4 x5 z → V E (gR 1 0) gyX3_rinsesNeeded 0 0 6 [(0, .ref a0), (1, .ref a1), (2, .int x2), (3, .int x3), (4, .int x4), (5, .int x5)] [] n sh z (kI n sh P)) : ∀ (N : Nat) (a0 : Nat) (a1 : Nat) (x2 : Int32) (x3 : Int32) (x4 : Int32) (x5 : Int32) (x6 : Int32) (x7 : Int32) (z : gS), wX3_rinsesNeeded_L40 n sh k6 P N a0 a1 x2 x3 x4 x5 x6 x7 z → V E (gR 1 0) gyX3_rinsesNeeded 0 0 40 [(0, .ref a0), (1, .ref a1), (2, .int x2), (3, .int x3), (4, .int x4), (5, .int x5), (6, .int x6), (7, .int x7)] [] n sh z (kI n sh P) := by
  intro N
  induction N with
  | zero => intro a0 a1 x2 x3 x4 x5 x6 x7 z hf; exact False.elim hf
  | succ N ih => intro a0 a1 x2 x3 x4 x5 x6 x7 z hf; exact vX3_rinsesNeeded_B40 hn hk6 ih hf
def wX3_rinsesNeeded_J35 (n : Nat) (sh : Nat → Nat × Nat) (k6 : Nat → Nat → Int32 → Int32 → Int32 → Int32 → gS → Prop) (P : Int32 → gS → Prop) (a0 : Nat) (a1 : Nat) (x2 : Int32) (x3 : Int32) (x4 : Int32) (x5 : Int32) (s0 : Int32) (z : gS) : Prop := (∃ N, wX3_rinsesNeeded_L40 n sh k6 P N a0 a1 x2 x3 x4 x5 s0 (0 : Int32) z)
set_option maxRecDepth 100000 in
set_option maxHeartbeats 4000000 in
theorem vX3_rinsesNeeded_J35 {E : gE} {n : Nat} {sh : Nat → Nat × Nat} {P : Int32 → gS → Prop} {k6 : Nat → Nat → Int32 → Int32 → Int32 → Int32 → gS → Prop} {a0 : Nat} {a1 : Nat} {x2 : Int32} {x3 : Int32} {x4 : Int32} {x5 : Int32} {s0 : Int32} {z : gS} (hn : gOK E n) (hk6 : ∀ (a0 : Nat) (a1 : Nat) (x2 : Int32) (x3 : Int32) (x4 : Int32) (x5 : Int32) (z : gS), k6 a0 a1 x2 x3 x4 x5 z → V E (gR 1 0) gyX3_rinsesNeeded 0 0 6 [(0, .ref a0), (1, .ref a1), (2, .int x2), (3, .int x3), (4, .int x4), (5, .int x5)] [] n sh z (kI n sh P)) (hf : wX3_rinsesNeeded_J35 n sh k6 P a0 a1 x2 x3 x4 x5 s0 z) : V E (gR 1 0) gyX3_rinsesNeeded 0 0 35 [(0, .ref a0), (1, .ref a1), (2, .int x2), (3, .int x3), (4, .int x4), (5, .int x5)] [.int s0] n sh z (kI n sh P) := by
  unfold wX3_rinsesNeeded_J35 at hf
  refine V_istore (ls2 := [(6, .int s0), (0, .ref a0), (1, .ref a1), (2, .int x2), (3, .int x3), (4, .int x4), (5, .int x5)]) dX3_rinsesNeeded_35 (by decide) rfl ?_
  refine V_iconst (v := (0 : Int32)) dX3_rinsesNeeded_37 (by decide) ?_
  refine V_istore (ls2 := [(7, .int (0 : Int32)), (6, .int s0), (0, .ref a0), (1, .ref a1), (2, .int x2), (3, .int x3), (4, .int x4), (5, .int x5)]) dX3_rinsesNeeded_38 (by decide) rfl ?_
  obtain ⟨N, hf⟩ := hf
  refine V_to [2, 3, 4, 5, 6, 7, 1, 0] rfl ?_
  exact vX3_rinsesNeeded_L40 hn hk6 N _ _ _ _ _ _ _ _ _ hf
def wX3_rinsesNeeded_B6 (n : Nat) (sh : Nat → Nat × Nat) (k6 : Nat → Nat → Int32 → Int32 → Int32 → Int32 → gS → Prop) (P : Int32 → gS → Prop) (a0 : Nat) (a1 : Nat) (x2 : Int32) (x3 : Int32) (x4 : Int32) (x5 : Int32) (z : gS) : Prop := (oO n sh a0 4) ∧ (if (gi z a0 10) ≤ x5 then P x4 z else ((oO n sh a1 6) ∧ (wX10_isBroken n sh a1 x5 z (fun (r2 : Int32) (z3 : gS) => if r2 = 0 then (∃ t5 : Nat, gr z3 a1 6 = some t5 ∧ ((oA n sh t5 1) ∧ ((vp_in x5 (sh t5).2) ∧ wX3_rinsesNeeded_J35 n sh k6 P a0 a1 x2 x3 x4 x5 (gi z3 t5 x5.toNatClampNeg) z3))) else wX3_rinsesNeeded_J35 n sh k6 P a0 a1 x2 x3 x4 x5 (0 : Int32) z3))))
def wX3_rinsesNeeded_L6 (n : Nat) (sh : Nat → Nat × Nat) (P : Int32 → gS → Prop) : Nat → Nat → Nat → Int32 → Int32 → Int32 → Int32 → gS → Prop
  | 0, _, _, _, _, _, _, _ => False
  | N + 1, a0, a1, x2, x3, x4, x5, z => wX3_rinsesNeeded_B6 n sh (wX3_rinsesNeeded_L6 n sh P N) P a0 a1 x2 x3 x4 x5 z
set_option maxRecDepth 100000 in
set_option maxHeartbeats 4000000 in
theorem vX3_rinsesNeeded_B6 {E : gE} {n : Nat} {sh : Nat → Nat × Nat} {P : Int32 → gS → Prop} {k6 : Nat → Nat → Int32 → Int32 → Int32 → Int32 → gS → Prop} {a0 : Nat} {a1 : Nat} {x2 : Int32} {x3 : Int32} {x4 : Int32} {x5 : Int32} {z : gS} (hn : gOK E n) (hk6 : ∀ (a0 : Nat) (a1 : Nat) (x2 : Int32) (x3 : Int32) (x4 : Int32) (x5 : Int32) (z : gS), k6 a0 a1 x2 x3 x4 x5 z → V E (gR 1 0) gyX3_rinsesNeeded 0 0 6 [(0, .ref a0), (1, .ref a1), (2, .int x2), (3, .int x3), (4, .int x4), (5, .int x5)] [] n sh z (kI n sh P)) (hf : wX3_rinsesNeeded_B6 n sh k6 P a0 a1 x2 x3 x4 x5 z) : V E (gR 1 0) gyX3_rinsesNeeded 0 0 6 [(0, .ref a0), (1, .ref a1), (2, .int x2), (3, .int x3), (4, .int x4), (5, .int x5)] [] n sh z (kI n sh P) := by
  unfold wX3_rinsesNeeded_B6 at hf
  refine V_iload (j := 5) dX3_rinsesNeeded_6 rfl ?_
  refine V_aload_n (j := 0) dX3_rinsesNeeded_8 rfl rfl ?_
  obtain ⟨h1, hf⟩ := hf
  refine V_getI fl_X3_19 rfl h1.1 h1.2 dX3_rinsesNeeded_9 ?_
  refine V_icmp_ge (tgt := 100) dX3_rinsesNeeded_12 (by decide) (fun h22 => ?_) (fun h22 => ?_)
  · have hf := it_t h22 hf
    refine V_iload (j := 4) dX3_rinsesNeeded_100 rfl ?_
    exact V_ireturn dX3_rinsesNeeded_102 rfl rfl (Nat.le_refl 0) (kI_of hf)
  · have hf := it_f h22 hf
    refine V_aload_n (j := 1) dX3_rinsesNeeded_15 rfl rfl ?_
    refine V_iload (j := 5) dX3_rinsesNeeded_16 rfl ?_
    obtain ⟨h4, hf⟩ := hf
    refine V_cVI (ctX10_isBroken hn hf) gc_X3_79 rfl h4.1 ⟨_, h4.2, by decide, rfl⟩ ⟨by decide, by decide, Nat.zero_le _, Nat.zero_le _⟩ (Nat.le_of_ble_eq_true rfl) dX3_rinsesNeeded_18 rfl hn (fun r2 z3 hf => ?_)
    refine V_if_eq (tgt := 28) dX3_rinsesNeeded_21 (by decide) (fun h21 => ?_) (fun h21 => ?_)
    · have hf := it_t h21 hf
      refine V_aload_n (j := 1) dX3_rinsesNeeded_28 rfl rfl ?_
      obtain ⟨t5, et5, hf⟩ := hf
      refine V_getR fl_X3_28 rfl h4.1 h4.2 et5 dX3_rinsesNeeded_29 ?_
      refine V_iload (j := 5) dX3_rinsesNeeded_32 rfl ?_
      obtain ⟨h6, hf⟩ := hf
      obtain ⟨h7, hf⟩ := hf
      refine V_iald h6.1 h6.s h7 dX3_rinsesNeeded_34 ?_
      exact vX3_rinsesNeeded_J35 hn hk6 hf
    · have hf := it_f h21 hf
      refine V_iconst (v := (0 : Int32)) dX3_rinsesNeeded_24 (by decide) ?_
      refine V_goto (tgt := 35) dX3_rinsesNeeded_25 (by decide) ?_
      exact vX3_rinsesNeeded_J35 hn hk6 hf
set_option maxRecDepth 100000 in
set_option maxHeartbeats 4000000 in
theorem vX3_rinsesNeeded_L6 {E : gE} {n : Nat} {sh : Nat → Nat × Nat} {P : Int32 → gS → Prop} (hn : gOK E n) : ∀ (N : Nat) (a0 : Nat) (a1 : Nat) (x2 : Int32) (x3 : Int32) (x4 : Int32) (x5 : Int32) (z : gS), wX3_rinsesNeeded_L6 n sh P N a0 a1 x2 x3 x4 x5 z → V E (gR 1 0) gyX3_rinsesNeeded 0 0 6 [(0, .ref a0), (1, .ref a1), (2, .int x2), (3, .int x3), (4, .int x4), (5, .int x5)] [] n sh z (kI n sh P) := by
  intro N
  induction N with
  | zero => intro a0 a1 x2 x3 x4 x5 z hf; exact False.elim hf
  | succ N ih => intro a0 a1 x2 x3 x4 x5 z hf; exact vX3_rinsesNeeded_B6 hn ih hf
def wX3_rinsesNeeded (n : Nat) (sh : Nat → Nat × Nat) (a0 : Nat) (a1 : Nat) (x2 : Int32) (x3 : Int32) (z : gS) (P : Int32 → gS → Prop) : Prop := (∃ N, wX3_rinsesNeeded_L6 n sh P N a0 a1 x2 x3 (0 : Int32) (0 : Int32) z)
set_option maxRecDepth 100000 in
set_option maxHeartbeats 4000000 in
theorem ctX3_rinsesNeeded {E : gE} {n : Nat} {sh : Nat → Nat × Nat} {a0 : Nat} {a1 : Nat} {x2 : Int32} {x3 : Int32} {z : gS} {P : Int32 → gS → Prop} (hn : gOK E n) (hf : wX3_rinsesNeeded n sh a0 a1 x2 x3 z P) : VM E 1 0 gyX3_rinsesNeeded [.ref a0, .ref a1, .int x2, .int x3] n sh z (kI n sh P) := by
  unfold wX3_rinsesNeeded at hf
  refine VM.of (by decide +kernel) (Nat.le_of_ble_eq_true rfl) (fun _ _ _ h => h.2.2) ?_
  show V E (gR 1 0) gyX3_rinsesNeeded 0 0 0 [(0, .ref a0), (1, .ref a1), (2, .int x2), (3, .int x3)] [] n sh z (kI n sh P)
  refine V_iconst (v := (0 : Int32)) dX3_rinsesNeeded_0 (by decide) ?_
  refine V_istore (ls2 := [(4, .int (0 : Int32)), (0, .ref a0), (1, .ref a1), (2, .int x2), (3, .int x3)]) dX3_rinsesNeeded_1 (by decide) rfl ?_
  refine V_iconst (v := (0 : Int32)) dX3_rinsesNeeded_3 (by decide) ?_
  refine V_istore (ls2 := [(5, .int (0 : Int32)), (4, .int (0 : Int32)), (0, .ref a0), (1, .ref a1), (2, .int x2), (3, .int x3)]) dX3_rinsesNeeded_4 (by decide) rfl ?_
  obtain ⟨N, hf⟩ := hf
  refine V_to [2, 3, 4, 5, 1, 0] rfl ?_
  exact vX3_rinsesNeeded_L6 hn N _ _ _ _ _ _ _ hf
def wX11_washes (n : Nat) (sh : Nat → Nat × Nat) (a0 : Nat) (x1 : Int32) (x2 : Int32) (z : gS) (P : Int32 → gS → Prop) : Prop := (oO n sh a0 7) ∧ (∃ t2 : Nat, gr z a0 7 = some t2 ∧ ((oO n sh t2 4) ∧ (wX7_hasPerson n sh t2 x1 z (fun (r3 : Int32) (z4 : gS) => if r3 = 0 then P (-1 : Int32) z4 else (∃ t6 : Nat, gr z4 a0 7 = some t6 ∧ ((oO n sh t6 4) ∧ (wX7_hasDeed n sh t6 x2 z4 (fun (r7 : Int32) (z8 : gS) => if r7 = 0 then P (-1 : Int32) z8 else (∃ t10 : Nat, gr z8 a0 7 = some t10 ∧ (∃ t11 : Nat, gr z8 a0 1 = some t11 ∧ (wX3_rinsesNeeded n sh t10 t11 x1 x2 z8 (fun (r12 : Int32) (z13 : gS) => P r12 z13))))))))))))
set_option maxRecDepth 100000 in
set_option maxHeartbeats 4000000 in
theorem ctX11_washes {E : gE} {n : Nat} {sh : Nat → Nat × Nat} {a0 : Nat} {x1 : Int32} {x2 : Int32} {z : gS} {P : Int32 → gS → Prop} (hn : gOK E n) (hf : wX11_washes n sh a0 x1 x2 z P) : VM E 2 0 gyX11_washes [.ref a0, .int x1, .int x2] n sh z (kI n sh P) := by
  unfold wX11_washes at hf
  refine VM.of (by decide +kernel) (Nat.le_of_ble_eq_true rfl) (fun _ _ _ h => h.2.2) ?_
  show V E (gR 2 0) gyX11_washes 0 0 0 [(0, .ref a0), (1, .int x1), (2, .int x2)] [] n sh z (kI n sh P)
  refine V_aload_n (j := 0) dX11_washes_0 rfl rfl ?_
  obtain ⟨h1, hf⟩ := hf
  obtain ⟨t2, et2, hf⟩ := hf
  refine V_getR fl_X11_51 rfl h1.1 h1.2 et2 dX11_washes_1 ?_
  refine V_iload_n (j := 1) dX11_washes_4 rfl rfl ?_
  obtain ⟨h5, hf⟩ := hf
  refine V_cVI (ctX7_hasPerson hn hf) gc_X11_149 rfl h5.1 ⟨_, h5.2, by decide, rfl⟩ ⟨by decide, by decide, Nat.zero_le _, Nat.zero_le _⟩ (Nat.le_of_ble_eq_true rfl) dX11_washes_5 rfl hn (fun r3 z4 hf => ?_)
  refine V_if_eq (tgt := 22) dX11_washes_8 (by decide) (fun h15 => ?_) (fun h15 => ?_)
  · have hf := it_t h15 hf
    refine V_iconst (v := (-1 : Int32)) dX11_washes_22 (by decide) ?_
    exact V_ireturn dX11_washes_23 rfl rfl (Nat.le_refl 0) (kI_of hf)
  · have hf := it_f h15 hf
    refine V_aload_n (j := 0) dX11_washes_11 rfl rfl ?_
    obtain ⟨t6, et6, hf⟩ := hf
    refine V_getR fl_X11_51 rfl h1.1 h1.2 et6 dX11_washes_12 ?_
    refine V_iload_n (j := 2) dX11_washes_15 rfl rfl ?_
    obtain ⟨h9, hf⟩ := hf
    refine V_cVI (ctX7_hasDeed hn hf) gc_X11_166 rfl h9.1 ⟨_, h9.2, by decide, rfl⟩ ⟨by decide, by decide, Nat.zero_le _, Nat.zero_le _⟩ (Nat.le_of_ble_eq_true rfl) dX11_washes_16 rfl hn (fun r7 z8 hf => ?_)
    refine V_if_ne (tgt := 24) dX11_washes_19 (by decide) (fun h14 => ?_) (fun h14 => ?_)
    · have hf := it_f h14 hf
      refine V_aload_n (j := 0) dX11_washes_24 rfl rfl ?_
      obtain ⟨t10, et10, hf⟩ := hf
      refine V_getR fl_X11_51 rfl h1.1 h1.2 et10 dX11_washes_25 ?_
      refine V_aload_n (j := 0) dX11_washes_28 rfl rfl ?_
      obtain ⟨t11, et11, hf⟩ := hf
      refine V_getR fl_X11_19 rfl h1.1 h1.2 et11 dX11_washes_29 ?_
      refine V_iload_n (j := 1) dX11_washes_32 rfl rfl ?_
      refine V_iload_n (j := 2) dX11_washes_33 rfl rfl ?_
      refine V_cSI (ctX3_rinsesNeeded hn hf) gc_X11_229 rfl ⟨by decide, by decide, Nat.zero_le _, Nat.zero_le _⟩ (Nat.le_of_ble_eq_true rfl) dX11_washes_34 rfl hn (fun r12 z13 hf => ?_)
      exact V_ireturn dX11_washes_37 rfl rfl (Nat.le_refl 0) (kI_of hf)
    · have hf := it_t (Classical.not_not.mp h14) hf
      refine V_iconst (v := (-1 : Int32)) dX11_washes_22 (by decide) ?_
      exact V_ireturn dX11_washes_23 rfl rfl (Nat.le_refl 0) (kI_of hf)
def wX6_fewestWatching_J42 (n : Nat) (sh : Nat → Nat × Nat) (k5 : Nat → Nat → Int32 → Int32 → Int32 → gS → Prop) (P : Int32 → gS → Prop) (a0 : Nat) (a1 : Nat) (x2 : Int32) (x3 : Int32) (x4 : Int32) (z : gS) : Prop := ∀ v4 : Int32, v4 = x4 + (1 : Int32) → k5 a0 a1 x2 x3 v4 z
set_option maxRecDepth 100000 in
set_option maxHeartbeats 4000000 in
theorem vX6_fewestWatching_J42 {E : gE} {n : Nat} {sh : Nat → Nat × Nat} {P : Int32 → gS → Prop} {k5 : Nat → Nat → Int32 → Int32 → Int32 → gS → Prop} {a0 : Nat} {a1 : Nat} {x2 : Int32} {x3 : Int32} {x4 : Int32} {z : gS} (hn : gOK E n) (hk5 : ∀ (a0 : Nat) (a1 : Nat) (x2 : Int32) (x3 : Int32) (x4 : Int32) (z : gS), k5 a0 a1 x2 x3 x4 z → V E (gR 4 0) gyX6_fewestWatching 0 0 5 [(0, .ref a0), (1, .ref a1), (2, .int x2), (3, .int x3), (4, .int x4)] [] n sh z (kI n sh P)) (hf : wX6_fewestWatching_J42 n sh k5 P a0 a1 x2 x3 x4 z) : V E (gR 4 0) gyX6_fewestWatching 0 0 42 [(0, .ref a0), (1, .ref a1), (2, .int x2), (3, .int x3), (4, .int x4)] [] n sh z (kI n sh P) := by
  unfold wX6_fewestWatching_J42 at hf
  obtain ⟨v4, ev4⟩ : ∃ y : Int32, y = x4 + (1 : Int32) := ⟨_, rfl⟩
  refine V_iinc (j := 4) (v := v4) (ls2 := [(4, .int v4), (0, .ref a0), (1, .ref a1), (2, .int x2), (3, .int x3)]) dX6_fewestWatching_42 rfl (by rw [ev4]; rfl) (by decide) rfl ?_
  have hf := hf v4 ev4
  refine V_goto (tgt := 5) dX6_fewestWatching_45 (by decide) ?_
  refine V_to [1, 2, 3, 4, 0] rfl ?_
  exact hk5 _ _ _ _ _ _ hf
def wX6_fewestWatching_B5 (n : Nat) (sh : Nat → Nat × Nat) (k5 : Nat → Nat → Int32 → Int32 → Int32 → gS → Prop) (P : Int32 → gS → Prop) (a0 : Nat) (a1 : Nat) (x2 : Int32) (x3 : Int32) (x4 : Int32) (z : gS) : Prop := if (10 : Int32) ≤ x4 then P x3 z else ((oO n sh a1 6) ∧ (wX10_watchersOf n sh a1 a0 x4 z (fun (r1 : Int32) (z2 : gS) => if ((x2 >>> (x4 &&& 31)) &&& (1 : Int32)) = 0 then wX6_fewestWatching_J42 n sh k5 P a0 a1 x2 x3 x4 z2 else (wX11_isBetterSet n sh r1 x3 z2 (fun (r5 : Int32) (z6 : gS) => if r5 = 0 then wX6_fewestWatching_J42 n sh k5 P a0 a1 x2 x3 x4 z6 else wX6_fewestWatching_J42 n sh k5 P a0 a1 x2 r1 x4 z6)))))
def wX6_fewestWatching_L5 (n : Nat) (sh : Nat → Nat × Nat) (P : Int32 → gS → Prop) : Nat → Nat → Nat → Int32 → Int32 → Int32 → gS → Prop
  | 0, _, _, _, _, _, _ => False
  | N + 1, a0, a1, x2, x3, x4, z => wX6_fewestWatching_B5 n sh (wX6_fewestWatching_L5 n sh P N) P a0 a1 x2 x3 x4 z
set_option maxRecDepth 100000 in
set_option maxHeartbeats 4000000 in
theorem vX6_fewestWatching_B5 {E : gE} {n : Nat} {sh : Nat → Nat × Nat} {P : Int32 → gS → Prop} {k5 : Nat → Nat → Int32 → Int32 → Int32 → gS → Prop} {a0 : Nat} {a1 : Nat} {x2 : Int32} {x3 : Int32} {x4 : Int32} {z : gS} (hn : gOK E n) (hk5 : ∀ (a0 : Nat) (a1 : Nat) (x2 : Int32) (x3 : Int32) (x4 : Int32) (z : gS), k5 a0 a1 x2 x3 x4 z → V E (gR 4 0) gyX6_fewestWatching 0 0 5 [(0, .ref a0), (1, .ref a1), (2, .int x2), (3, .int x3), (4, .int x4)] [] n sh z (kI n sh P)) (hf : wX6_fewestWatching_B5 n sh k5 P a0 a1 x2 x3 x4 z) : V E (gR 4 0) gyX6_fewestWatching 0 0 5 [(0, .ref a0), (1, .ref a1), (2, .int x2), (3, .int x3), (4, .int x4)] [] n sh z (kI n sh P) := by
  unfold wX6_fewestWatching_B5 at hf
  refine V_iload (j := 4) dX6_fewestWatching_5 rfl ?_
  refine V_bipush (v := (10 : Int32)) dX6_fewestWatching_7 (by decide) ?_
  refine V_icmp_ge (tgt := 48) dX6_fewestWatching_9 (by decide) (fun h9 => ?_) (fun h9 => ?_)
  · have hf := it_t h9 hf
    refine V_iload_n (j := 3) dX6_fewestWatching_48 rfl rfl ?_
    exact V_ireturn dX6_fewestWatching_49 rfl rfl (Nat.le_refl 0) (kI_of hf)
  · have hf := it_f h9 hf
    refine V_aload_n (j := 1) dX6_fewestWatching_12 rfl rfl ?_
    refine V_aload_n (j := 0) dX6_fewestWatching_13 rfl rfl ?_
    refine V_iload (j := 4) dX6_fewestWatching_14 rfl ?_
    obtain ⟨h3, hf⟩ := hf
    refine V_cVI (ctX10_watchersOf hn hf) gc_X6_33 rfl h3.1 ⟨_, h3.2, by decide, rfl⟩ ⟨by decide, by decide, Nat.zero_le _, Nat.zero_le _⟩ (Nat.le_of_ble_eq_true rfl) dX6_fewestWatching_16 rfl hn (fun r1 z2 hf => ?_)
    refine V_istore (ls2 := [(5, .int r1), (0, .ref a0), (1, .ref a1), (2, .int x2), (3, .int x3), (4, .int x4)]) dX6_fewestWatching_19 (by decide) rfl ?_
    refine V_iload_n (j := 3) dX6_fewestWatching_21 rfl rfl ?_
    refine V_iload (j := 5) dX6_fewestWatching_22 rfl ?_
    refine V_ishr dX6_fewestWatching_24 ?_
    refine V_iconst (v := (1 : Int32)) dX6_fewestWatching_25 (by decide) ?_
    refine V_iand dX6_fewestWatching_26 ?_
    refine V_if_eq (tgt := 42) dX6_fewestWatching_27 (by decide) (fun h8 => ?_) (fun h8 => ?_)
    · have hf := it_t h8 hf
      refine V_to [1, 2, 3, 4, 5] rfl ?_
      exact vX6_fewestWatching_J42 hn hk5 hf
    · have hf := it_f h8 hf
      refine V_iload (j := 0) dX6_fewestWatching_30 rfl ?_
      refine V_iload_n (j := 4) dX6_fewestWatching_32 rfl rfl ?_
      refine V_cSI (ctX11_isBetterSet hn hf) gc_X6_36 rfl ⟨by decide, by decide, Nat.zero_le _, Nat.zero_le _⟩ (Nat.le_of_ble_eq_true rfl) dX6_fewestWatching_33 rfl hn (fun r5 z6 hf => ?_)
      refine V_if_eq (tgt := 42) dX6_fewestWatching_36 (by decide) (fun h7 => ?_) (fun h7 => ?_)
      · have hf := it_t h7 hf
        refine V_to [1, 2, 3, 4, 5] rfl ?_
        exact vX6_fewestWatching_J42 hn hk5 hf
      · have hf := it_f h7 hf
        refine V_iload (j := 0) dX6_fewestWatching_39 rfl ?_
        refine V_istore_n (ls2 := [(3, .int r1), (5, .int r1), (0, .ref a0), (1, .ref a1), (2, .int x2), (4, .int x4)]) dX6_fewestWatching_41 rfl (by decide) rfl ?_
        refine V_to [2, 3, 4, 0, 5] rfl ?_
        exact vX6_fewestWatching_J42 hn hk5 hf
set_option maxRecDepth 100000 in
set_option maxHeartbeats 4000000 in
theorem vX6_fewestWatching_L5 {E : gE} {n : Nat} {sh : Nat → Nat × Nat} {P : Int32 → gS → Prop} (hn : gOK E n) : ∀ (N : Nat) (a0 : Nat) (a1 : Nat) (x2 : Int32) (x3 : Int32) (x4 : Int32) (z : gS), wX6_fewestWatching_L5 n sh P N a0 a1 x2 x3 x4 z → V E (gR 4 0) gyX6_fewestWatching 0 0 5 [(0, .ref a0), (1, .ref a1), (2, .int x2), (3, .int x3), (4, .int x4)] [] n sh z (kI n sh P) := by
  intro N
  induction N with
  | zero => intro a0 a1 x2 x3 x4 z hf; exact False.elim hf
  | succ N ih => intro a0 a1 x2 x3 x4 z hf; exact vX6_fewestWatching_B5 hn ih hf
def wX6_fewestWatching (n : Nat) (sh : Nat → Nat × Nat) (a0 : Nat) (a1 : Nat) (x2 : Int32) (z : gS) (P : Int32 → gS → Prop) : Prop := (∃ N, wX6_fewestWatching_L5 n sh P N a0 a1 x2 (-1 : Int32) (0 : Int32) z)
set_option maxRecDepth 100000 in
set_option maxHeartbeats 4000000 in
theorem ctX6_fewestWatching {E : gE} {n : Nat} {sh : Nat → Nat × Nat} {a0 : Nat} {a1 : Nat} {x2 : Int32} {z : gS} {P : Int32 → gS → Prop} (hn : gOK E n) (hf : wX6_fewestWatching n sh a0 a1 x2 z P) : VM E 4 0 gyX6_fewestWatching [.ref a0, .ref a1, .int x2] n sh z (kI n sh P) := by
  unfold wX6_fewestWatching at hf
  refine VM.of (by decide +kernel) (Nat.le_of_ble_eq_true rfl) (fun _ _ _ h => h.2.2) ?_
  show V E (gR 4 0) gyX6_fewestWatching 0 0 0 [(0, .ref a0), (1, .ref a1), (2, .int x2)] [] n sh z (kI n sh P)
  refine V_iconst (v := (-1 : Int32)) dX6_fewestWatching_0 (by decide) ?_
  refine V_istore_n (ls2 := [(3, .int (-1 : Int32)), (0, .ref a0), (1, .ref a1), (2, .int x2)]) dX6_fewestWatching_1 rfl (by decide) rfl ?_
  refine V_iconst (v := (0 : Int32)) dX6_fewestWatching_2 (by decide) ?_
  refine V_istore (ls2 := [(4, .int (0 : Int32)), (3, .int (-1 : Int32)), (0, .ref a0), (1, .ref a1), (2, .int x2)]) dX6_fewestWatching_3 (by decide) rfl ?_
  obtain ⟨N, hf⟩ := hf
  refine V_to [2, 3, 4, 1, 0] rfl ?_
  exact vX6_fewestWatching_L5 hn N _ _ _ _ _ _ hf
def wX11_dark (n : Nat) (sh : Nat → Nat × Nat) (a0 : Nat) (x1 : Int32) (z : gS) (P : Int32 → gS → Prop) : Prop := if x1 ≤ 0 then P (-1 : Int32) z else (if x1 ≤ (1023 : Int32) then ((oO n sh a0 7) ∧ (∃ t2 : Nat, gr z a0 7 = some t2 ∧ (∃ t3 : Nat, gr z a0 1 = some t3 ∧ (wX6_fewestWatching n sh t2 t3 x1 z (fun (r4 : Int32) (z5 : gS) => P r4 z5))))) else P (-1 : Int32) z)
set_option maxRecDepth 100000 in
set_option maxHeartbeats 4000000 in
theorem ctX11_dark {E : gE} {n : Nat} {sh : Nat → Nat × Nat} {a0 : Nat} {x1 : Int32} {z : gS} {P : Int32 → gS → Prop} (hn : gOK E n) (hf : wX11_dark n sh a0 x1 z P) : VM E 5 0 gyX11_dark [.ref a0, .int x1] n sh z (kI n sh P) := by
  unfold wX11_dark at hf
  refine VM.of (by decide +kernel) (Nat.le_of_ble_eq_true rfl) (fun _ _ _ h => h.2.2) ?_
  show V E (gR 5 0) gyX11_dark 0 0 0 [(0, .ref a0), (1, .int x1)] [] n sh z (kI n sh P)
  refine V_iload_n (j := 1) dX11_dark_0 rfl rfl ?_
  refine V_if_le (tgt := 11) dX11_dark_1 (by decide) (fun h7 => ?_) (fun h7 => ?_)
  · have hf := it_t h7 hf
    refine V_iconst (v := (-1 : Int32)) dX11_dark_11 (by decide) ?_
    exact V_ireturn dX11_dark_12 rfl rfl (Nat.le_refl 0) (kI_of hf)
  · have hf := it_f h7 hf
    refine V_iload_n (j := 1) dX11_dark_4 rfl rfl ?_
    refine V_sipush (v := (1023 : Int32)) dX11_dark_5 (by decide) ?_
    refine V_icmp_le (tgt := 13) dX11_dark_8 (by decide) (fun h6 => ?_) (fun h6 => ?_)
    · have hf := it_t h6 hf
      refine V_aload_n (j := 0) dX11_dark_13 rfl rfl ?_
      obtain ⟨h1, hf⟩ := hf
      obtain ⟨t2, et2, hf⟩ := hf
      refine V_getR fl_X11_51 rfl h1.1 h1.2 et2 dX11_dark_14 ?_
      refine V_aload_n (j := 0) dX11_dark_17 rfl rfl ?_
      obtain ⟨t3, et3, hf⟩ := hf
      refine V_getR fl_X11_19 rfl h1.1 h1.2 et3 dX11_dark_18 ?_
      refine V_iload_n (j := 1) dX11_dark_21 rfl rfl ?_
      refine V_cSI (ctX6_fewestWatching hn hf) gc_X11_232 rfl ⟨by decide, by decide, Nat.zero_le _, Nat.zero_le _⟩ (Nat.le_of_ble_eq_true rfl) dX11_dark_22 rfl hn (fun r4 z5 hf => ?_)
      exact V_ireturn dX11_dark_25 rfl rfl (Nat.le_refl 0) (kI_of hf)
    · have hf := it_f h6 hf
      refine V_iconst (v := (-1 : Int32)) dX11_dark_11 (by decide) ?_
      exact V_ireturn dX11_dark_12 rfl rfl (Nat.le_refl 0) (kI_of hf)
def wX10_hear_J38 (n : Nat) (sh : Nat → Nat × Nat) (P : gS → Prop) (s0 : Int32) (s1 : Nat) (z : gS) : Prop := (oO n sh s1 6) ∧ (∀ z4 : gS, z4 = si z s1 4 s0 → P z4)
set_option maxRecDepth 100000 in
set_option maxHeartbeats 4000000 in
theorem vX10_hear_J38 {E : gE} {n : Nat} {sh : Nat → Nat × Nat} {P : gS → Prop} {s0 : Int32} {s1 : Nat} {z : gS} (hn : gOK E n) (hf : wX10_hear_J38 n sh P s0 s1 z) : V E (gR 0 0) gyX10_hear 0 0 38 [] [.int s0, .ref s1] n sh z (kN n sh P) := by
  unfold wX10_hear_J38 at hf
  obtain ⟨h3, hf⟩ := hf
  refine V_putI fl_X10_24 rfl rfl rfl rfl h3.1 h3.2 dX10_hear_38 ?_
  refine V_nz (fun z4 ez4 => ?_)
  have hf := hf z4 ez4
  exact V_return dX10_hear_41 rfl (Nat.le_refl 0) (kN_of hf)
def wX10_hear (n : Nat) (sh : Nat → Nat × Nat) (a0 : Nat) (x1 : Int32) (x2 : Int32) (z : gS) (P : gS → Prop) : Prop := (oO n sh a0 6) ∧ (∀ z2 : gS, z2 = si z a0 3 ((gi z a0 3) ||| ((1 : Int32) <<< (x1 &&& 31))) → (if x2 = 0 then wX10_hear_J38 n sh P ((gi z2 a0 4) &&& (((1 : Int32) <<< (x1 &&& 31)) ^^^ (-1 : Int32))) a0 z2 else wX10_hear_J38 n sh P ((gi z2 a0 4) ||| ((1 : Int32) <<< (x1 &&& 31))) a0 z2))
set_option maxRecDepth 100000 in
set_option maxHeartbeats 4000000 in
theorem ctX10_hear {E : gE} {n : Nat} {sh : Nat → Nat × Nat} {a0 : Nat} {x1 : Int32} {x2 : Int32} {z : gS} {P : gS → Prop} (hn : gOK E n) (hf : wX10_hear n sh a0 x1 x2 z P) : VM E 0 0 gyX10_hear [.ref a0, .int x1, .int x2] n sh z (kN n sh P) := by
  unfold wX10_hear at hf
  refine VM.of (by decide +kernel) (Nat.le_of_ble_eq_true rfl) (fun _ _ _ h => h.2.2) ?_
  show V E (gR 0 0) gyX10_hear 0 0 0 [(0, .ref a0), (1, .int x1), (2, .int x2)] [] n sh z (kN n sh P)
  refine V_aload_n (j := 0) dX10_hear_0 rfl rfl ?_
  refine V_dup dX10_hear_1 rfl ?_
  obtain ⟨h1, hf⟩ := hf
  refine V_getI fl_X10_21 rfl h1.1 h1.2 dX10_hear_2 ?_
  refine V_iconst (v := (1 : Int32)) dX10_hear_5 (by decide) ?_
  refine V_iload_n (j := 1) dX10_hear_6 rfl rfl ?_
  refine V_ishl dX10_hear_7 ?_
  refine V_ior dX10_hear_8 ?_
  refine V_putI fl_X10_21 rfl rfl rfl rfl h1.1 h1.2 dX10_hear_9 ?_
  refine V_nz (fun z2 ez2 => ?_)
  have hf := hf z2 ez2
  refine V_aload_n (j := 0) dX10_hear_12 rfl rfl ?_
  refine V_iload_n (j := 2) dX10_hear_13 rfl rfl ?_
  refine V_if_eq (tgt := 28) dX10_hear_14 (by decide) (fun h5 => ?_) (fun h5 => ?_)
  · have hf := it_t h5 hf
    refine V_aload_n (j := 0) dX10_hear_28 rfl rfl ?_
    refine V_getI fl_X10_24 rfl h1.1 h1.2 dX10_hear_29 ?_
    refine V_iconst (v := (1 : Int32)) dX10_hear_32 (by decide) ?_
    refine V_iload_n (j := 1) dX10_hear_33 rfl rfl ?_
    refine V_ishl dX10_hear_34 ?_
    refine V_iconst (v := (-1 : Int32)) dX10_hear_35 (by decide) ?_
    refine V_ixor dX10_hear_36 ?_
    refine V_iand dX10_hear_37 ?_
    refine V_to [] rfl ?_
    exact vX10_hear_J38 hn hf
  · have hf := it_f h5 hf
    refine V_aload_n (j := 0) dX10_hear_17 rfl rfl ?_
    refine V_getI fl_X10_24 rfl h1.1 h1.2 dX10_hear_18 ?_
    refine V_iconst (v := (1 : Int32)) dX10_hear_21 (by decide) ?_
    refine V_iload_n (j := 1) dX10_hear_22 rfl rfl ?_
    refine V_ishl dX10_hear_23 ?_
    refine V_ior dX10_hear_24 ?_
    refine V_goto (tgt := 38) dX10_hear_25 (by decide) ?_
    refine V_to [] rfl ?_
    exact vX10_hear_J38 hn hf
def wX11_say (n : Nat) (sh : Nat → Nat × Nat) (a0 : Nat) (x1 : Int32) (x2 : Int32) (z : gS) (P : Int32 → gS → Prop) : Prop := (oO n sh a0 7) ∧ (∃ t2 : Nat, gr z a0 7 = some t2 ∧ ((oO n sh t2 4) ∧ (wX7_hasPane n sh t2 x1 z (fun (r3 : Int32) (z4 : gS) => if r3 = 0 then P (0 : Int32) z4 else (∃ t6 : Nat, gr z4 a0 1 = some t6 ∧ ((oO n sh t6 6) ∧ (wX10_hear n sh t6 x1 x2 z4 (fun (z8 : gS) => P (1 : Int32) z8))))))))
set_option maxRecDepth 100000 in
set_option maxHeartbeats 4000000 in
theorem ctX11_say {E : gE} {n : Nat} {sh : Nat → Nat × Nat} {a0 : Nat} {x1 : Int32} {x2 : Int32} {z : gS} {P : Int32 → gS → Prop} (hn : gOK E n) (hf : wX11_say n sh a0 x1 x2 z P) : VM E 1 0 gyX11_say [.ref a0, .int x1, .int x2] n sh z (kI n sh P) := by
  unfold wX11_say at hf
  refine VM.of (by decide +kernel) (Nat.le_of_ble_eq_true rfl) (fun _ _ _ h => h.2.2) ?_
  show V E (gR 1 0) gyX11_say 0 0 0 [(0, .ref a0), (1, .int x1), (2, .int x2)] [] n sh z (kI n sh P)
  refine V_aload_n (j := 0) dX11_say_0 rfl rfl ?_
  obtain ⟨h1, hf⟩ := hf
  obtain ⟨t2, et2, hf⟩ := hf
  refine V_getR fl_X11_51 rfl h1.1 h1.2 et2 dX11_say_1 ?_
  refine V_iload_n (j := 1) dX11_say_4 rfl rfl ?_
  obtain ⟨h5, hf⟩ := hf
  refine V_cVI (ctX7_hasPane hn hf) gc_X11_101 rfl h5.1 ⟨_, h5.2, by decide, rfl⟩ ⟨by decide, by decide, Nat.zero_le _, Nat.zero_le _⟩ (Nat.le_of_ble_eq_true rfl) dX11_say_5 rfl hn (fun r3 z4 hf => ?_)
  refine V_if_ne (tgt := 13) dX11_say_8 (by decide) (fun h10 => ?_) (fun h10 => ?_)
  · have hf := it_f h10 hf
    refine V_aload_n (j := 0) dX11_say_13 rfl rfl ?_
    obtain ⟨t6, et6, hf⟩ := hf
    refine V_getR fl_X11_19 rfl h1.1 h1.2 et6 dX11_say_14 ?_
    refine V_iload_n (j := 1) dX11_say_17 rfl rfl ?_
    refine V_iload_n (j := 2) dX11_say_18 rfl rfl ?_
    obtain ⟨h9, hf⟩ := hf
    refine V_cVN (ctX10_hear hn hf) gc_X11_235 rfl h9.1 ⟨_, h9.2, by decide, rfl⟩ ⟨by decide, by decide, Nat.zero_le _, Nat.zero_le _⟩ (Nat.le_of_ble_eq_true rfl) dX11_say_19 rfl hn (fun z8 hf => ?_)
    refine V_iconst (v := (1 : Int32)) dX11_say_22 (by decide) ?_
    exact V_ireturn dX11_say_23 rfl (by decide) (Nat.le_refl 0) (kI_of hf)
  · have hf := it_t (Classical.not_not.mp h10) hf
    refine V_iconst (v := (0 : Int32)) dX11_say_11 (by decide) ?_
    exact V_ireturn dX11_say_12 rfl (by decide) (Nat.le_refl 0) (kI_of hf)
def wX6_cellsAsSaid_J56 (n : Nat) (sh : Nat → Nat × Nat) (k6 : Nat → Nat → Int32 → Int32 → gS → Prop) (P : Int32 → gS → Prop) (a0 : Nat) (a1 : Nat) (x2 : Int32) (x3 : Int32) (z : gS) : Prop := ∀ v3 : Int32, v3 = x3 + (1 : Int32) → k6 a0 a1 x2 v3 z
set_option maxRecDepth 100000 in
set_option maxHeartbeats 4000000 in
theorem vX6_cellsAsSaid_J56 {E : gE} {n : Nat} {sh : Nat → Nat × Nat} {P : Int32 → gS → Prop} {k6 : Nat → Nat → Int32 → Int32 → gS → Prop} {a0 : Nat} {a1 : Nat} {x2 : Int32} {x3 : Int32} {z : gS} (hn : gOK E n) (hk6 : ∀ (a0 : Nat) (a1 : Nat) (x2 : Int32) (x3 : Int32) (z : gS), k6 a0 a1 x2 x3 z → V E (gR 3 0) gyX6_cellsAsSaid 0 0 6 [(0, .ref a0), (1, .ref a1), (2, .int x2), (3, .int x3)] [] n sh z (kI n sh P)) (hf : wX6_cellsAsSaid_J56 n sh k6 P a0 a1 x2 x3 z) : V E (gR 3 0) gyX6_cellsAsSaid 0 0 56 [(0, .ref a0), (1, .ref a1), (2, .int x2), (3, .int x3)] [] n sh z (kI n sh P) := by
  unfold wX6_cellsAsSaid_J56 at hf
  obtain ⟨v3, ev3⟩ : ∃ y : Int32, y = x3 + (1 : Int32) := ⟨_, rfl⟩
  refine V_iinc (j := 3) (v := v3) (ls2 := [(3, .int v3), (0, .ref a0), (1, .ref a1), (2, .int x2)]) dX6_cellsAsSaid_56 rfl (by rw [ev3]; rfl) (by decide) rfl ?_
  have hf := hf v3 ev3
  refine V_goto (tgt := 6) dX6_cellsAsSaid_59 (by decide) ?_
  refine V_to [1, 2, 3, 0] rfl ?_
  exact hk6 _ _ _ _ _ hf
def wX6_cellsAsSaid_J54 (n : Nat) (sh : Nat → Nat × Nat) (k6 : Nat → Nat → Int32 → Int32 → gS → Prop) (P : Int32 → gS → Prop) (a0 : Nat) (a1 : Nat) (x3 : Int32) (s0 : Int32) (s1 : Int32) (z : gS) : Prop := ∀ v6 : Int32, v6 = (s1 &&& s0) → wX6_cellsAsSaid_J56 n sh k6 P a0 a1 v6 x3 z
set_option maxRecDepth 100000 in
set_option maxHeartbeats 4000000 in
theorem vX6_cellsAsSaid_J54 {E : gE} {n : Nat} {sh : Nat → Nat × Nat} {P : Int32 → gS → Prop} {k6 : Nat → Nat → Int32 → Int32 → gS → Prop} {a0 : Nat} {a1 : Nat} {x3 : Int32} {s0 : Int32} {s1 : Int32} {z : gS} (hn : gOK E n) (hk6 : ∀ (a0 : Nat) (a1 : Nat) (x2 : Int32) (x3 : Int32) (z : gS), k6 a0 a1 x2 x3 z → V E (gR 3 0) gyX6_cellsAsSaid 0 0 6 [(0, .ref a0), (1, .ref a1), (2, .int x2), (3, .int x3)] [] n sh z (kI n sh P)) (hf : wX6_cellsAsSaid_J54 n sh k6 P a0 a1 x3 s0 s1 z) : V E (gR 3 0) gyX6_cellsAsSaid 0 0 54 [(0, .ref a0), (1, .ref a1), (3, .int x3)] [.int s0, .int s1] n sh z (kI n sh P) := by
  unfold wX6_cellsAsSaid_J54 at hf
  refine V_iand dX6_cellsAsSaid_54 ?_
  refine V_nI (fun v6 ev6 => ?_)
  have hf := hf v6 ev6
  refine V_istore_n (ls2 := [(2, .int v6), (0, .ref a0), (1, .ref a1), (3, .int x3)]) dX6_cellsAsSaid_55 rfl (by decide) rfl ?_
  refine V_to [1, 2, 0, 3] rfl ?_
  exact vX6_cellsAsSaid_J56 hn hk6 hf
def wX6_cellsAsSaid_B6 (n : Nat) (sh : Nat → Nat × Nat) (k6 : Nat → Nat → Int32 → Int32 → gS → Prop) (P : Int32 → gS → Prop) (a0 : Nat) (a1 : Nat) (x2 : Int32) (x3 : Int32) (z : gS) : Prop := (oO n sh a0 4) ∧ (if (gi z a0 10) ≤ x3 then P x2 z else ((oO n sh a1 6) ∧ (if (((gi z a1 3) >>> (x3 &&& 31)) &&& (1 : Int32)) = 0 then wX6_cellsAsSaid_J56 n sh k6 P a0 a1 x2 x3 z else (wX10_sightOf n sh a1 a0 x3 z (fun (r4 : Int32) (z5 : gS) => if (((gi z5 a1 4) >>> (x3 &&& 31)) &&& (1 : Int32)) = 0 then wX6_cellsAsSaid_J54 n sh k6 P a0 a1 x3 (r4 ^^^ (-1 : Int32)) x2 z5 else wX6_cellsAsSaid_J54 n sh k6 P a0 a1 x3 r4 x2 z5)))))
def wX6_cellsAsSaid_L6 (n : Nat) (sh : Nat → Nat × Nat) (P : Int32 → gS → Prop) : Nat → Nat → Nat → Int32 → Int32 → gS → Prop
  | 0, _, _, _, _, _ => False
  | N + 1, a0, a1, x2, x3, z => wX6_cellsAsSaid_B6 n sh (wX6_cellsAsSaid_L6 n sh P N) P a0 a1 x2 x3 z
set_option maxRecDepth 100000 in
set_option maxHeartbeats 4000000 in
theorem vX6_cellsAsSaid_B6 {E : gE} {n : Nat} {sh : Nat → Nat × Nat} {P : Int32 → gS → Prop} {k6 : Nat → Nat → Int32 → Int32 → gS → Prop} {a0 : Nat} {a1 : Nat} {x2 : Int32} {x3 : Int32} {z : gS} (hn : gOK E n) (hk6 : ∀ (a0 : Nat) (a1 : Nat) (x2 : Int32) (x3 : Int32) (z : gS), k6 a0 a1 x2 x3 z → V E (gR 3 0) gyX6_cellsAsSaid 0 0 6 [(0, .ref a0), (1, .ref a1), (2, .int x2), (3, .int x3)] [] n sh z (kI n sh P)) (hf : wX6_cellsAsSaid_B6 n sh k6 P a0 a1 x2 x3 z) : V E (gR 3 0) gyX6_cellsAsSaid 0 0 6 [(0, .ref a0), (1, .ref a1), (2, .int x2), (3, .int x3)] [] n sh z (kI n sh P) := by
  unfold wX6_cellsAsSaid_B6 at hf
  refine V_iload_n (j := 3) dX6_cellsAsSaid_6 rfl rfl ?_
  refine V_aload_n (j := 0) dX6_cellsAsSaid_7 rfl rfl ?_
  obtain ⟨h1, hf⟩ := hf
  refine V_getI fl_X6_9 rfl h1.1 h1.2 dX6_cellsAsSaid_8 ?_
  refine V_icmp_ge (tgt := 62) dX6_cellsAsSaid_11 (by decide) (fun h9 => ?_) (fun h9 => ?_)
  · have hf := it_t h9 hf
    refine V_iload_n (j := 2) dX6_cellsAsSaid_62 rfl rfl ?_
    exact V_ireturn dX6_cellsAsSaid_63 rfl rfl (Nat.le_refl 0) (kI_of hf)
  · have hf := it_f h9 hf
    refine V_aload_n (j := 1) dX6_cellsAsSaid_14 rfl rfl ?_
    obtain ⟨h2, hf⟩ := hf
    refine V_getI fl_X6_40 rfl h2.1 h2.2 dX6_cellsAsSaid_15 ?_
    refine V_iload_n (j := 3) dX6_cellsAsSaid_18 rfl rfl ?_
    refine V_ishr dX6_cellsAsSaid_19 ?_
    refine V_iconst (v := (1 : Int32)) dX6_cellsAsSaid_20 (by decide) ?_
    refine V_iand dX6_cellsAsSaid_21 ?_
    refine V_if_eq (tgt := 56) dX6_cellsAsSaid_22 (by decide) (fun h8 => ?_) (fun h8 => ?_)
    · have hf := it_t h8 hf
      exact vX6_cellsAsSaid_J56 hn hk6 hf
    · have hf := it_f h8 hf
      refine V_aload_n (j := 1) dX6_cellsAsSaid_25 rfl rfl ?_
      refine V_aload_n (j := 0) dX6_cellsAsSaid_26 rfl rfl ?_
      refine V_iload_n (j := 3) dX6_cellsAsSaid_27 rfl rfl ?_
      refine V_cVI (ctX10_sightOf hn hf) gc_X6_15 rfl h2.1 ⟨_, h2.2, by decide, rfl⟩ ⟨by decide, by decide, Nat.zero_le _, Nat.zero_le _⟩ (Nat.le_of_ble_eq_true rfl) dX6_cellsAsSaid_28 rfl hn (fun r4 z5 hf => ?_)
      refine V_istore (ls2 := [(4, .int r4), (0, .ref a0), (1, .ref a1), (2, .int x2), (3, .int x3)]) dX6_cellsAsSaid_31 (by decide) rfl ?_
      refine V_iload_n (j := 3) dX6_cellsAsSaid_33 rfl rfl ?_
      refine V_aload_n (j := 2) dX6_cellsAsSaid_34 rfl rfl ?_
      refine V_getI fl_X6_43 rfl h2.1 h2.2 dX6_cellsAsSaid_35 ?_
      refine V_iload_n (j := 4) dX6_cellsAsSaid_38 rfl rfl ?_
      refine V_ishr dX6_cellsAsSaid_39 ?_
      refine V_iconst (v := (1 : Int32)) dX6_cellsAsSaid_40 (by decide) ?_
      refine V_iand dX6_cellsAsSaid_41 ?_
      refine V_if_eq (tgt := 50) dX6_cellsAsSaid_42 (by decide) (fun h7 => ?_) (fun h7 => ?_)
      · have hf := it_t h7 hf
        refine V_iload (j := 0) dX6_cellsAsSaid_50 rfl ?_
        refine V_iconst (v := (-1 : Int32)) dX6_cellsAsSaid_52 (by decide) ?_
        refine V_ixor dX6_cellsAsSaid_53 ?_
        refine V_to [1, 2, 4] rfl ?_
        exact vX6_cellsAsSaid_J54 hn hk6 hf
      · have hf := it_f h7 hf
        refine V_iload (j := 0) dX6_cellsAsSaid_45 rfl ?_
        refine V_goto (tgt := 54) dX6_cellsAsSaid_47 (by decide) ?_
        refine V_to [1, 2, 4] rfl ?_
        exact vX6_cellsAsSaid_J54 hn hk6 hf
set_option maxRecDepth 100000 in
set_option maxHeartbeats 4000000 in
theorem vX6_cellsAsSaid_L6 {E : gE} {n : Nat} {sh : Nat → Nat × Nat} {P : Int32 → gS → Prop} (hn : gOK E n) : ∀ (N : Nat) (a0 : Nat) (a1 : Nat) (x2 : Int32) (x3 : Int32) (z : gS), wX6_cellsAsSaid_L6 n sh P N a0 a1 x2 x3 z → V E (gR 3 0) gyX6_cellsAsSaid 0 0 6 [(0, .ref a0), (1, .ref a1), (2, .int x2), (3, .int x3)] [] n sh z (kI n sh P) := by
  intro N
  induction N with
  | zero => intro a0 a1 x2 x3 z hf; exact False.elim hf
  | succ N ih => intro a0 a1 x2 x3 z hf; exact vX6_cellsAsSaid_B6 hn ih hf
def wX6_cellsAsSaid (n : Nat) (sh : Nat → Nat × Nat) (a0 : Nat) (a1 : Nat) (z : gS) (P : Int32 → gS → Prop) : Prop := (∃ N, wX6_cellsAsSaid_L6 n sh P N a0 a1 (1023 : Int32) (0 : Int32) z)
set_option maxRecDepth 100000 in
set_option maxHeartbeats 4000000 in
theorem ctX6_cellsAsSaid {E : gE} {n : Nat} {sh : Nat → Nat × Nat} {a0 : Nat} {a1 : Nat} {z : gS} {P : Int32 → gS → Prop} (hn : gOK E n) (hf : wX6_cellsAsSaid n sh a0 a1 z P) : VM E 3 0 gyX6_cellsAsSaid [.ref a0, .ref a1] n sh z (kI n sh P) := by
  unfold wX6_cellsAsSaid at hf
  refine VM.of (by decide +kernel) (Nat.le_of_ble_eq_true rfl) (fun _ _ _ h => h.2.2) ?_
  show V E (gR 3 0) gyX6_cellsAsSaid 0 0 0 [(0, .ref a0), (1, .ref a1)] [] n sh z (kI n sh P)
  refine V_sipush (v := (1023 : Int32)) dX6_cellsAsSaid_0 (by decide) ?_
  refine V_istore_n (ls2 := [(2, .int (1023 : Int32)), (0, .ref a0), (1, .ref a1)]) dX6_cellsAsSaid_3 rfl (by decide) rfl ?_
  refine V_iconst (v := (0 : Int32)) dX6_cellsAsSaid_4 (by decide) ?_
  refine V_istore_n (ls2 := [(3, .int (0 : Int32)), (2, .int (1023 : Int32)), (0, .ref a0), (1, .ref a1)]) dX6_cellsAsSaid_5 rfl (by decide) rfl ?_
  obtain ⟨N, hf⟩ := hf
  refine V_to [2, 3, 1, 0] rfl ?_
  exact vX6_cellsAsSaid_L6 hn N _ _ _ _ _ hf
def wX11_where (n : Nat) (sh : Nat → Nat × Nat) (a0 : Nat) (z : gS) (P : Int32 → gS → Prop) : Prop := (oO n sh a0 7) ∧ (∃ t2 : Nat, gr z a0 7 = some t2 ∧ (∃ t3 : Nat, gr z a0 1 = some t3 ∧ (wX6_cellsAsSaid n sh t2 t3 z (fun (r4 : Int32) (z5 : gS) => P r4 z5))))
set_option maxRecDepth 100000 in
set_option maxHeartbeats 4000000 in
theorem ctX11_where {E : gE} {n : Nat} {sh : Nat → Nat × Nat} {a0 : Nat} {z : gS} {P : Int32 → gS → Prop} (hn : gOK E n) (hf : wX11_where n sh a0 z P) : VM E 4 0 gyX11_where [.ref a0] n sh z (kI n sh P) := by
  unfold wX11_where at hf
  refine VM.of (by decide +kernel) (Nat.le_of_ble_eq_true rfl) (fun _ _ _ h => h.2.2) ?_
  show V E (gR 4 0) gyX11_where 0 0 0 [(0, .ref a0)] [] n sh z (kI n sh P)
  refine V_aload_n (j := 0) dX11_where_0 rfl rfl ?_
  obtain ⟨h1, hf⟩ := hf
  obtain ⟨t2, et2, hf⟩ := hf
  refine V_getR fl_X11_51 rfl h1.1 h1.2 et2 dX11_where_1 ?_
  refine V_aload_n (j := 0) dX11_where_4 rfl rfl ?_
  obtain ⟨t3, et3, hf⟩ := hf
  refine V_getR fl_X11_19 rfl h1.1 h1.2 et3 dX11_where_5 ?_
  refine V_cSI (ctX6_cellsAsSaid hn hf) gc_X11_239 rfl ⟨by decide, by decide, Nat.zero_le _, Nat.zero_le _⟩ (Nat.le_of_ble_eq_true rfl) dX11_where_8 rfl hn (fun r4 z5 hf => ?_)
  exact V_ireturn dX11_where_11 rfl rfl (Nat.le_refl 0) (kI_of hf)
def wX6_bestToAsk_J82 (n : Nat) (sh : Nat → Nat × Nat) (k17 : Nat → Nat → Int32 → Int32 → Int32 → Int32 → gS → Prop) (P : Int32 → gS → Prop) (a0 : Nat) (a1 : Nat) (x2 : Int32) (x3 : Int32) (x4 : Int32) (x5 : Int32) (z : gS) : Prop := ∀ v14 : Int32, v14 = x5 + (1 : Int32) → k17 a0 a1 x2 x3 x4 v14 z
set_option maxRecDepth 100000 in
set_option maxHeartbeats 4000000 in
theorem vX6_bestToAsk_J82 {E : gE} {n : Nat} {sh : Nat → Nat × Nat} {P : Int32 → gS → Prop} {k17 : Nat → Nat → Int32 → Int32 → Int32 → Int32 → gS → Prop} {a0 : Nat} {a1 : Nat} {x2 : Int32} {x3 : Int32} {x4 : Int32} {x5 : Int32} {z : gS} (hn : gOK E n) (hk17 : ∀ (a0 : Nat) (a1 : Nat) (x2 : Int32) (x3 : Int32) (x4 : Int32) (x5 : Int32) (z : gS), k17 a0 a1 x2 x3 x4 x5 z → V E (gR 4 0) gyX6_bestToAsk 0 0 17 [(0, .ref a0), (1, .ref a1), (2, .int x2), (3, .int x3), (4, .int x4), (5, .int x5)] [] n sh z (kI n sh P)) (hf : wX6_bestToAsk_J82 n sh k17 P a0 a1 x2 x3 x4 x5 z) : V E (gR 4 0) gyX6_bestToAsk 0 0 82 [(0, .ref a0), (1, .ref a1), (2, .int x2), (3, .int x3), (4, .int x4), (5, .int x5)] [] n sh z (kI n sh P) := by
  unfold wX6_bestToAsk_J82 at hf
  obtain ⟨v14, ev14⟩ : ∃ y : Int32, y = x5 + (1 : Int32) := ⟨_, rfl⟩
  refine V_iinc (j := 5) (v := v14) (ls2 := [(5, .int v14), (0, .ref a0), (1, .ref a1), (2, .int x2), (3, .int x3), (4, .int x4)]) dX6_bestToAsk_82 rfl (by rw [ev14]; rfl) (by decide) rfl ?_
  have hf := hf v14 ev14
  refine V_goto (tgt := 17) dX6_bestToAsk_85 (by decide) ?_
  refine V_to [1, 2, 3, 4, 5, 0] rfl ?_
  exact hk17 _ _ _ _ _ _ _ hf
def wX6_bestToAsk_B17 (n : Nat) (sh : Nat → Nat × Nat) (k17 : Nat → Nat → Int32 → Int32 → Int32 → Int32 → gS → Prop) (P : Int32 → gS → Prop) (a0 : Nat) (a1 : Nat) (x2 : Int32) (x3 : Int32) (x4 : Int32) (x5 : Int32) (z : gS) : Prop := (oO n sh a0 4) ∧ (if (gi z a0 10) ≤ x5 then P x3 z else ((oO n sh a1 6) ∧ (wX10_sightOf n sh a1 a0 x5 z (fun (r6 : Int32) (z7 : gS) => wJ6_bitCount_0f7a4 n sh (x2 &&& r6) z7 (fun (r9 : Int32) (z10 : gS) => wJ6_bitCount_0f7a4 n sh (x2 &&& (r6 ^^^ (-1 : Int32))) z10 (fun (r11 : Int32) (z12 : gS) => ∀ v13 : Int32, v13 = (if r9 < r11 then r11 else r9) → (if (((gi z12 a1 3) >>> (x5 &&& 31)) &&& (1 : Int32)) = 0 then (if x4 ≤ v13 then wX6_bestToAsk_J82 n sh k17 P a0 a1 x2 x3 x4 x5 z12 else wX6_bestToAsk_J82 n sh k17 P a0 a1 x2 x5 v13 x5 z12) else wX6_bestToAsk_J82 n sh k17 P a0 a1 x2 x3 x4 x5 z12)))))))
def wX6_bestToAsk_L17 (n : Nat) (sh : Nat → Nat × Nat) (P : Int32 → gS → Prop) : Nat → Nat → Nat → Int32 → Int32 → Int32 → Int32 → gS → Prop
  | 0, _, _, _, _, _, _, _ => False
  | N + 1, a0, a1, x2, x3, x4, x5, z => wX6_bestToAsk_B17 n sh (wX6_bestToAsk_L17 n sh P N) P a0 a1 x2 x3 x4 x5 z
set_option maxRecDepth 100000 in
set_option maxHeartbeats 4000000 in
theorem vX6_bestToAsk_B17 {E : gE} {n : Nat} {sh : Nat → Nat × Nat} {P : Int32 → gS → Prop} {k17 : Nat → Nat → Int32 → Int32 → Int32 → Int32 → gS → Prop} {a0 : Nat} {a1 : Nat} {x2 : Int32} {x3 : Int32} {x4 : Int32} {x5 : Int32} {z : gS} (hn : gOK E n) (hk17 : ∀ (a0 : Nat) (a1 : Nat) (x2 : Int32) (x3 : Int32) (x4 : Int32) (x5 : Int32) (z : gS), k17 a0 a1 x2 x3 x4 x5 z → V E (gR 4 0) gyX6_bestToAsk 0 0 17 [(0, .ref a0), (1, .ref a1), (2, .int x2), (3, .int x3), (4, .int x4), (5, .int x5)] [] n sh z (kI n sh P)) (hf : wX6_bestToAsk_B17 n sh k17 P a0 a1 x2 x3 x4 x5 z) : V E (gR 4 0) gyX6_bestToAsk 0 0 17 [(0, .ref a0), (1, .ref a1), (2, .int x2), (3, .int x3), (4, .int x4), (5, .int x5)] [] n sh z (kI n sh P) := by
  unfold wX6_bestToAsk_B17 at hf
  refine V_iload (j := 5) dX6_bestToAsk_17 rfl ?_
  refine V_aload_n (j := 0) dX6_bestToAsk_19 rfl rfl ?_
  obtain ⟨h5, hf⟩ := hf
  refine V_getI fl_X6_9 rfl h5.1 h5.2 dX6_bestToAsk_20 ?_
  refine V_icmp_ge (tgt := 88) dX6_bestToAsk_23 (by decide) (fun h17 => ?_) (fun h17 => ?_)
  · have hf := it_t h17 hf
    refine V_iload_n (j := 3) dX6_bestToAsk_88 rfl rfl ?_
    exact V_ireturn dX6_bestToAsk_89 rfl rfl (Nat.le_refl 0) (kI_of hf)
  · have hf := it_f h17 hf
    refine V_aload_n (j := 1) dX6_bestToAsk_26 rfl rfl ?_
    refine V_aload_n (j := 0) dX6_bestToAsk_27 rfl rfl ?_
    refine V_iload (j := 5) dX6_bestToAsk_28 rfl ?_
    obtain ⟨h8, hf⟩ := hf
    refine V_cVI (ctX10_sightOf hn hf) gc_X6_15 rfl h8.1 ⟨_, h8.2, by decide, rfl⟩ ⟨by decide, by decide, Nat.zero_le _, Nat.zero_le _⟩ (Nat.le_of_ble_eq_true rfl) dX6_bestToAsk_30 rfl hn (fun r6 z7 hf => ?_)
    refine V_istore (ls2 := [(6, .int r6), (0, .ref a0), (1, .ref a1), (2, .int x2), (3, .int x3), (4, .int x4), (5, .int x5)]) dX6_bestToAsk_33 (by decide) rfl ?_
    refine V_iload_n (j := 3) dX6_bestToAsk_35 rfl rfl ?_
    refine V_iload (j := 0) dX6_bestToAsk_36 rfl ?_
    refine V_iand dX6_bestToAsk_38 ?_
    refine V_cSI (ctJ6_bitCount_0f7a4 hn hf) gc_X6_49 rfl ⟨by decide, by decide, Nat.zero_le _, Nat.zero_le _⟩ (Nat.le_of_ble_eq_true rfl) dX6_bestToAsk_39 rfl hn (fun r9 z10 hf => ?_)
    refine V_iload_n (j := 3) dX6_bestToAsk_42 rfl rfl ?_
    refine V_iload (j := 0) dX6_bestToAsk_43 rfl ?_
    refine V_iconst (v := (-1 : Int32)) dX6_bestToAsk_45 (by decide) ?_
    refine V_ixor dX6_bestToAsk_46 ?_
    refine V_iand dX6_bestToAsk_47 ?_
    refine V_cSI (ctJ6_bitCount_0f7a4 hn hf) gc_X6_49 rfl ⟨by decide, by decide, Nat.zero_le _, Nat.zero_le _⟩ (Nat.le_of_ble_eq_true rfl) dX6_bestToAsk_48 rfl hn (fun r11 z12 hf => ?_)
    refine V_max ma_X6_54 mas_max mai mac_max ⟨by decide, by decide, Nat.zero_le _, Nat.zero_le _⟩ (Nat.le_of_ble_eq_true rfl) dX6_bestToAsk_51 ?_
    refine V_nI (fun v13 ev13 => ?_)
    have hf := hf v13 ev13
    refine V_istore (ls2 := [(7, .int v13), (6, .int r6), (0, .ref a0), (1, .ref a1), (2, .int x2), (3, .int x3), (4, .int x4), (5, .int x5)]) dX6_bestToAsk_54 (by decide) rfl ?_
    refine V_aload_n (j := 3) dX6_bestToAsk_56 rfl rfl ?_
    refine V_getI fl_X6_40 rfl h8.1 h8.2 dX6_bestToAsk_57 ?_
    refine V_iload (j := 7) dX6_bestToAsk_60 rfl ?_
    refine V_ishr dX6_bestToAsk_62 ?_
    refine V_iconst (v := (1 : Int32)) dX6_bestToAsk_63 (by decide) ?_
    refine V_iand dX6_bestToAsk_64 ?_
    refine V_if_ne (tgt := 82) dX6_bestToAsk_65 (by decide) (fun h16 => ?_) (fun h16 => ?_)
    · have hf := it_f h16 hf
      refine V_to [2, 3, 4, 5, 6, 7] rfl ?_
      exact vX6_bestToAsk_J82 hn hk17 hf
    · have hf := it_t (Classical.not_not.mp h16) hf
      refine V_iload (j := 0) dX6_bestToAsk_68 rfl ?_
      refine V_iload (j := 6) dX6_bestToAsk_70 rfl ?_
      refine V_icmp_ge (tgt := 82) dX6_bestToAsk_72 (by decide) (fun h15 => ?_) (fun h15 => ?_)
      · have hf := it_t h15 hf
        refine V_to [2, 3, 4, 5, 6, 7] rfl ?_
        exact vX6_bestToAsk_J82 hn hk17 hf
      · have hf := it_f h15 hf
        refine V_iload (j := 7) dX6_bestToAsk_75 rfl ?_
        refine V_istore_n (ls2 := [(3, .int x5), (7, .int v13), (6, .int r6), (0, .ref a0), (1, .ref a1), (2, .int x2), (4, .int x4), (5, .int x5)]) dX6_bestToAsk_77 rfl (by decide) rfl ?_
        refine V_iload (j := 1) dX6_bestToAsk_78 rfl ?_
        refine V_istore (ls2 := [(4, .int v13), (3, .int x5), (7, .int v13), (6, .int r6), (0, .ref a0), (1, .ref a1), (2, .int x2), (5, .int x5)]) dX6_bestToAsk_80 (by decide) rfl ?_
        refine V_to [4, 5, 6, 1, 0, 7] rfl ?_
        exact vX6_bestToAsk_J82 hn hk17 hf
set_option maxRecDepth 100000 in
set_option maxHeartbeats 4000000 in
theorem vX6_bestToAsk_L17 {E : gE} {n : Nat} {sh : Nat → Nat × Nat} {P : Int32 → gS → Prop} (hn : gOK E n) : ∀ (N : Nat) (a0 : Nat) (a1 : Nat) (x2 : Int32) (x3 : Int32) (x4 : Int32) (x5 : Int32) (z : gS), wX6_bestToAsk_L17 n sh P N a0 a1 x2 x3 x4 x5 z → V E (gR 4 0) gyX6_bestToAsk 0 0 17 [(0, .ref a0), (1, .ref a1), (2, .int x2), (3, .int x3), (4, .int x4), (5, .int x5)] [] n sh z (kI n sh P) := by
  intro N
  induction N with
  | zero => intro a0 a1 x2 x3 x4 x5 z hf; exact False.elim hf
  | succ N ih => intro a0 a1 x2 x3 x4 x5 z hf; exact vX6_bestToAsk_B17 hn ih hf
def wX6_bestToAsk (n : Nat) (sh : Nat → Nat × Nat) (a0 : Nat) (a1 : Nat) (z : gS) (P : Int32 → gS → Prop) : Prop := wX6_cellsAsSaid n sh a0 a1 z (fun (r1 : Int32) (z2 : gS) => wJ6_bitCount_0f7a4 n sh r1 z2 (fun (r3 : Int32) (z4 : gS) => (∃ N, wX6_bestToAsk_L17 n sh P N a0 a1 r1 (-1 : Int32) r3 (0 : Int32) z4)))
set_option maxRecDepth 100000 in
set_option maxHeartbeats 4000000 in
theorem ctX6_bestToAsk {E : gE} {n : Nat} {sh : Nat → Nat × Nat} {a0 : Nat} {a1 : Nat} {z : gS} {P : Int32 → gS → Prop} (hn : gOK E n) (hf : wX6_bestToAsk n sh a0 a1 z P) : VM E 4 0 gyX6_bestToAsk [.ref a0, .ref a1] n sh z (kI n sh P) := by
  unfold wX6_bestToAsk at hf
  refine VM.of (by decide +kernel) (Nat.le_of_ble_eq_true rfl) (fun _ _ _ h => h.2.2) ?_
  show V E (gR 4 0) gyX6_bestToAsk 0 0 0 [(0, .ref a0), (1, .ref a1)] [] n sh z (kI n sh P)
  refine V_aload_n (j := 0) dX6_bestToAsk_0 rfl rfl ?_
  refine V_aload_n (j := 1) dX6_bestToAsk_1 rfl rfl ?_
  refine V_cSI (ctX6_cellsAsSaid hn hf) gc_X6_46 rfl ⟨by decide, by decide, Nat.zero_le _, Nat.zero_le _⟩ (Nat.le_of_ble_eq_true rfl) dX6_bestToAsk_2 rfl hn (fun r1 z2 hf => ?_)
  refine V_istore_n (ls2 := [(2, .int r1), (0, .ref a0), (1, .ref a1)]) dX6_bestToAsk_5 rfl (by decide) rfl ?_
  refine V_iconst (v := (-1 : Int32)) dX6_bestToAsk_6 (by decide) ?_
  refine V_istore_n (ls2 := [(3, .int (-1 : Int32)), (2, .int r1), (0, .ref a0), (1, .ref a1)]) dX6_bestToAsk_7 rfl (by decide) rfl ?_
  refine V_iload_n (j := 1) dX6_bestToAsk_8 rfl rfl ?_
  refine V_cSI (ctJ6_bitCount_0f7a4 hn hf) gc_X6_49 rfl ⟨by decide, by decide, Nat.zero_le _, Nat.zero_le _⟩ (Nat.le_of_ble_eq_true rfl) dX6_bestToAsk_9 rfl hn (fun r3 z4 hf => ?_)
  refine V_istore (ls2 := [(4, .int r3), (3, .int (-1 : Int32)), (2, .int r1), (0, .ref a0), (1, .ref a1)]) dX6_bestToAsk_12 (by decide) rfl ?_
  refine V_iconst (v := (0 : Int32)) dX6_bestToAsk_14 (by decide) ?_
  refine V_istore (ls2 := [(5, .int (0 : Int32)), (4, .int r3), (3, .int (-1 : Int32)), (2, .int r1), (0, .ref a0), (1, .ref a1)]) dX6_bestToAsk_15 (by decide) rfl ?_
  obtain ⟨N, hf⟩ := hf
  refine V_to [4, 5, 3, 2, 1, 0] rfl ?_
  exact vX6_bestToAsk_L17 hn N _ _ _ _ _ _ _ hf
def wX11_ask (n : Nat) (sh : Nat → Nat × Nat) (a0 : Nat) (z : gS) (P : Int32 → gS → Prop) : Prop := (oO n sh a0 7) ∧ (∃ t2 : Nat, gr z a0 7 = some t2 ∧ (∃ t3 : Nat, gr z a0 1 = some t3 ∧ (wX6_bestToAsk n sh t2 t3 z (fun (r4 : Int32) (z5 : gS) => P r4 z5))))
set_option maxRecDepth 100000 in
set_option maxHeartbeats 4000000 in
theorem ctX11_ask {E : gE} {n : Nat} {sh : Nat → Nat × Nat} {a0 : Nat} {z : gS} {P : Int32 → gS → Prop} (hn : gOK E n) (hf : wX11_ask n sh a0 z P) : VM E 5 0 gyX11_ask [.ref a0] n sh z (kI n sh P) := by
  unfold wX11_ask at hf
  refine VM.of (by decide +kernel) (Nat.le_of_ble_eq_true rfl) (fun _ _ _ h => h.2.2) ?_
  show V E (gR 5 0) gyX11_ask 0 0 0 [(0, .ref a0)] [] n sh z (kI n sh P)
  refine V_aload_n (j := 0) dX11_ask_0 rfl rfl ?_
  obtain ⟨h1, hf⟩ := hf
  obtain ⟨t2, et2, hf⟩ := hf
  refine V_getR fl_X11_51 rfl h1.1 h1.2 et2 dX11_ask_1 ?_
  refine V_aload_n (j := 0) dX11_ask_4 rfl rfl ?_
  obtain ⟨t3, et3, hf⟩ := hf
  refine V_getR fl_X11_19 rfl h1.1 h1.2 et3 dX11_ask_5 ?_
  refine V_cSI (ctX6_bestToAsk hn hf) gc_X11_243 rfl ⟨by decide, by decide, Nat.zero_le _, Nat.zero_le _⟩ (Nat.le_of_ble_eq_true rfl) dX11_ask_8 rfl hn (fun r4 z5 hf => ?_)
  exact V_ireturn dX11_ask_11 rfl rfl (Nat.le_refl 0) (kI_of hf)
def wX11_memory (n : Nat) (sh : Nat → Nat × Nat) (a0 : Nat) (x1 : Int32) (z : gS) (P : Int32 → gS → Prop) : Prop := if x1 < (1 : Int32) then P (-1 : Int32) z else (if x1 ≤ (6 : Int32) then ((oO n sh a0 7) ∧ (∃ t2 : Nat, gr z a0 7 = some t2 ∧ (∃ t3 : Nat, gr z a0 1 = some t3 ∧ (wX3_harmShown n sh t2 t3 x1 z (fun (r4 : Int32) (z5 : gS) => P r4 z5))))) else P (-1 : Int32) z)
set_option maxRecDepth 100000 in
set_option maxHeartbeats 4000000 in
theorem ctX11_memory {E : gE} {n : Nat} {sh : Nat → Nat × Nat} {a0 : Nat} {x1 : Int32} {z : gS} {P : Int32 → gS → Prop} (hn : gOK E n) (hf : wX11_memory n sh a0 x1 z P) : VM E 3 0 gyX11_memory [.ref a0, .int x1] n sh z (kI n sh P) := by
  unfold wX11_memory at hf
  refine VM.of (by decide +kernel) (Nat.le_of_ble_eq_true rfl) (fun _ _ _ h => h.2.2) ?_
  show V E (gR 3 0) gyX11_memory 0 0 0 [(0, .ref a0), (1, .int x1)] [] n sh z (kI n sh P)
  refine V_iload_n (j := 1) dX11_memory_0 rfl rfl ?_
  refine V_iconst (v := (1 : Int32)) dX11_memory_1 (by decide) ?_
  refine V_icmp_lt (tgt := 11) dX11_memory_2 (by decide) (fun h7 => ?_) (fun h7 => ?_)
  · have hf := it_t h7 hf
    refine V_iconst (v := (-1 : Int32)) dX11_memory_11 (by decide) ?_
    exact V_ireturn dX11_memory_12 rfl rfl (Nat.le_refl 0) (kI_of hf)
  · have hf := it_f h7 hf
    refine V_iload_n (j := 1) dX11_memory_5 rfl rfl ?_
    refine V_bipush (v := (6 : Int32)) dX11_memory_6 (by decide) ?_
    refine V_icmp_le (tgt := 13) dX11_memory_8 (by decide) (fun h6 => ?_) (fun h6 => ?_)
    · have hf := it_t h6 hf
      refine V_aload_n (j := 0) dX11_memory_13 rfl rfl ?_
      obtain ⟨h1, hf⟩ := hf
      obtain ⟨t2, et2, hf⟩ := hf
      refine V_getR fl_X11_51 rfl h1.1 h1.2 et2 dX11_memory_14 ?_
      refine V_aload_n (j := 0) dX11_memory_17 rfl rfl ?_
      obtain ⟨t3, et3, hf⟩ := hf
      refine V_getR fl_X11_19 rfl h1.1 h1.2 et3 dX11_memory_18 ?_
      refine V_iload_n (j := 1) dX11_memory_21 rfl rfl ?_
      refine V_cSI (ctX3_harmShown hn hf) gc_X11_203 rfl ⟨by decide, by decide, Nat.zero_le _, Nat.zero_le _⟩ (Nat.le_of_ble_eq_true rfl) dX11_memory_22 rfl hn (fun r4 z5 hf => ?_)
      exact V_ireturn dX11_memory_25 rfl rfl (Nat.le_refl 0) (kI_of hf)
    · have hf := it_f h6 hf
      refine V_iconst (v := (-1 : Int32)) dX11_memory_11 (by decide) ?_
      exact V_ireturn dX11_memory_12 rfl rfl (Nat.le_refl 0) (kI_of hf)
def wX6_mostPeopled_J87 (n : Nat) (sh : Nat → Nat × Nat) (k8 : Nat → Nat → Int32 → Int32 → Int32 → Int32 → gS → Prop) (P : Int32 → gS → Prop) (a0 : Nat) (a1 : Nat) (x2 : Int32) (x3 : Int32) (x4 : Int32) (x5 : Int32) (z : gS) : Prop := ∀ v2 : Int32, v2 = x5 + (1 : Int32) → k8 a0 a1 x2 x3 x4 v2 z
set_option maxRecDepth 100000 in
set_option maxHeartbeats 4000000 in
theorem vX6_mostPeopled_J87 {E : gE} {n : Nat} {sh : Nat → Nat × Nat} {P : Int32 → gS → Prop} {k8 : Nat → Nat → Int32 → Int32 → Int32 → Int32 → gS → Prop} {a0 : Nat} {a1 : Nat} {x2 : Int32} {x3 : Int32} {x4 : Int32} {x5 : Int32} {z : gS} (hn : gOK E n) (hk8 : ∀ (a0 : Nat) (a1 : Nat) (x2 : Int32) (x3 : Int32) (x4 : Int32) (x5 : Int32) (z : gS), k8 a0 a1 x2 x3 x4 x5 z → V E (gR 0 0) gyX6_mostPeopled 0 0 8 [(0, .ref a0), (1, .ref a1), (2, .int x2), (3, .int x3), (4, .int x4), (5, .int x5)] [] n sh z (kI n sh P)) (hf : wX6_mostPeopled_J87 n sh k8 P a0 a1 x2 x3 x4 x5 z) : V E (gR 0 0) gyX6_mostPeopled 0 0 87 [(0, .ref a0), (1, .ref a1), (2, .int x2), (3, .int x3), (4, .int x4), (5, .int x5)] [] n sh z (kI n sh P) := by
  unfold wX6_mostPeopled_J87 at hf
  obtain ⟨v2, ev2⟩ : ∃ y : Int32, y = x5 + (1 : Int32) := ⟨_, rfl⟩
  refine V_iinc (j := 5) (v := v2) (ls2 := [(5, .int v2), (0, .ref a0), (1, .ref a1), (2, .int x2), (3, .int x3), (4, .int x4)]) dX6_mostPeopled_87 rfl (by rw [ev2]; rfl) (by decide) rfl ?_
  have hf := hf v2 ev2
  refine V_goto (tgt := 8) dX6_mostPeopled_90 (by decide) ?_
  refine V_to [1, 2, 3, 4, 5, 0] rfl ?_
  exact hk8 _ _ _ _ _ _ _ hf
def wX6_mostPeopled_J64 (n : Nat) (sh : Nat → Nat × Nat) (k8 : Nat → Nat → Int32 → Int32 → Int32 → Int32 → gS → Prop) (k23 : Nat → Nat → Int32 → Int32 → Int32 → Int32 → Int32 → Int32 → gS → Prop) (P : Int32 → gS → Prop) (a0 : Nat) (a1 : Nat) (x2 : Int32) (x3 : Int32) (x4 : Int32) (x5 : Int32) (x7 : Int32) (s0 : Int32) (s1 : Int32) (z : gS) : Prop := ∀ v9 : Int32, v9 = (s1 + s0) → (∀ v10 : Int32, v10 = x7 + (1 : Int32) → k23 a0 a1 x2 x3 x4 x5 v9 v10 z)
set_option maxRecDepth 100000 in
set_option maxHeartbeats 4000000 in
theorem vX6_mostPeopled_J64 {E : gE} {n : Nat} {sh : Nat → Nat × Nat} {P : Int32 → gS → Prop} {k8 : Nat → Nat → Int32 → Int32 → Int32 → Int32 → gS → Prop} {k23 : Nat → Nat → Int32 → Int32 → Int32 → Int32 → Int32 → Int32 → gS → Prop} {a0 : Nat} {a1 : Nat} {x2 : Int32} {x3 : Int32} {x4 : Int32} {x5 : Int32} {x7 : Int32} {s0 : Int32} {s1 : Int32} {z : gS} (hn : gOK E n) (hk8 : ∀ (a0 : Nat) (a1 : Nat) (x2 : Int32) (x3 : Int32) (x4 : Int32) (x5 : Int32) (z : gS), k8 a0 a1 x2 x3 x4 x5 z → V E (gR 0 0) gyX6_mostPeopled 0 0 8 [(0, .ref a0), (1, .ref a1), (2, .int x2), (3, .int x3), (4, .int x4), (5, .int x5)] [] n sh z (kI n sh P)) (hk23 : ∀ (a0 : Nat) (a1 : Nat) (x2 : Int32) (x3 : Int32) (x4 : Int32) (x5 : Int32) (x6 : Int32) (x7 : Int32) (z : gS), k23 a0 a1 x2 x3 x4 x5 x6 x7 z → V E (gR 0 0) gyX6_mostPeopled 0 0 23 [(0, .ref a0), (1, .ref a1), (2, .int x2), (3, .int x3), (4, .int x4), (5, .int x5), (6, .int x6), (7, .int x7)] [] n sh z (kI n sh P)) (hf : wX6_mostPeopled_J64 n sh k8 k23 P a0 a1 x2 x3 x4 x5 x7 s0 s1 z) : V E (gR 0 0) gyX6_mostPeopled 0 0 64 [(0, .ref a0), (1, .ref a1), (2, .int x2), (3, .int x3), (4, .int x4), (5, .int x5), (7, .int x7)] [.int s0, .int s1] n sh z (kI n sh P) := by
  unfold wX6_mostPeopled_J64 at hf
  refine V_iadd dX6_mostPeopled_64 ?_
  refine V_nI (fun v9 ev9 => ?_)
  have hf := hf v9 ev9
  refine V_istore (ls2 := [(6, .int v9), (0, .ref a0), (1, .ref a1), (2, .int x2), (3, .int x3), (4, .int x4), (5, .int x5), (7, .int x7)]) dX6_mostPeopled_65 (by decide) rfl ?_
  obtain ⟨v10, ev10⟩ : ∃ y : Int32, y = x7 + (1 : Int32) := ⟨_, rfl⟩
  refine V_iinc (j := 7) (v := v10) (ls2 := [(7, .int v10), (6, .int v9), (0, .ref a0), (1, .ref a1), (2, .int x2), (3, .int x3), (4, .int x4), (5, .int x5)]) dX6_mostPeopled_67 rfl (by rw [ev10]; rfl) (by decide) rfl ?_
  have hf := hf v10 ev10
  refine V_goto (tgt := 23) dX6_mostPeopled_70 (by decide) ?_
  refine V_to [2, 3, 4, 5, 6, 7, 1, 0] rfl ?_
  exact hk23 _ _ _ _ _ _ _ _ _ hf
def wX6_mostPeopled_J63 (n : Nat) (sh : Nat → Nat × Nat) (k8 : Nat → Nat → Int32 → Int32 → Int32 → Int32 → gS → Prop) (k23 : Nat → Nat → Int32 → Int32 → Int32 → Int32 → Int32 → Int32 → gS → Prop) (P : Int32 → gS → Prop) (a0 : Nat) (a1 : Nat) (x2 : Int32) (x3 : Int32) (x4 : Int32) (x5 : Int32) (x7 : Int32) (s0 : Int32) (z : gS) : Prop := wX6_mostPeopled_J64 n sh k8 k23 P a0 a1 x2 x3 x4 x5 x7 (0 : Int32) s0 z
set_option maxRecDepth 100000 in
set_option maxHeartbeats 4000000 in
theorem vX6_mostPeopled_J63 {E : gE} {n : Nat} {sh : Nat → Nat × Nat} {P : Int32 → gS → Prop} {k8 : Nat → Nat → Int32 → Int32 → Int32 → Int32 → gS → Prop} {k23 : Nat → Nat → Int32 → Int32 → Int32 → Int32 → Int32 → Int32 → gS → Prop} {a0 : Nat} {a1 : Nat} {x2 : Int32} {x3 : Int32} {x4 : Int32} {x5 : Int32} {x7 : Int32} {s0 : Int32} {z : gS} (hn : gOK E n) (hk8 : ∀ (a0 : Nat) (a1 : Nat) (x2 : Int32) (x3 : Int32) (x4 : Int32) (x5 : Int32) (z : gS), k8 a0 a1 x2 x3 x4 x5 z → V E (gR 0 0) gyX6_mostPeopled 0 0 8 [(0, .ref a0), (1, .ref a1), (2, .int x2), (3, .int x3), (4, .int x4), (5, .int x5)] [] n sh z (kI n sh P)) (hk23 : ∀ (a0 : Nat) (a1 : Nat) (x2 : Int32) (x3 : Int32) (x4 : Int32) (x5 : Int32) (x6 : Int32) (x7 : Int32) (z : gS), k23 a0 a1 x2 x3 x4 x5 x6 x7 z → V E (gR 0 0) gyX6_mostPeopled 0 0 23 [(0, .ref a0), (1, .ref a1), (2, .int x2), (3, .int x3), (4, .int x4), (5, .int x5), (6, .int x6), (7, .int x7)] [] n sh z (kI n sh P)) (hf : wX6_mostPeopled_J63 n sh k8 k23 P a0 a1 x2 x3 x4 x5 x7 s0 z) : V E (gR 0 0) gyX6_mostPeopled 0 0 63 [(0, .ref a0), (1, .ref a1), (2, .int x2), (3, .int x3), (4, .int x4), (5, .int x5), (7, .int x7)] [.int s0] n sh z (kI n sh P) := by
  unfold wX6_mostPeopled_J63 at hf
  refine V_iconst (v := (0 : Int32)) dX6_mostPeopled_63 (by decide) ?_
  exact vX6_mostPeopled_J64 hn hk8 hk23 hf
def wX6_mostPeopled_B23 (n : Nat) (sh : Nat → Nat × Nat) (k8 : Nat → Nat → Int32 → Int32 → Int32 → Int32 → gS → Prop) (k23 : Nat → Nat → Int32 → Int32 → Int32 → Int32 → Int32 → Int32 → gS → Prop) (P : Int32 → gS → Prop) (a0 : Nat) (a1 : Nat) (x2 : Int32) (x3 : Int32) (x4 : Int32) (x5 : Int32) (x6 : Int32) (x7 : Int32) (z : gS) : Prop := (oO n sh a0 4) ∧ (if (gi z a0 11) ≤ x7 then (if x6 ≤ x4 then wX6_mostPeopled_J87 n sh k8 P a0 a1 x2 x3 x4 x5 z else wX6_mostPeopled_J87 n sh k8 P a0 a1 x2 x5 x6 x5 z) else ((oO n sh a1 6) ∧ (∃ t5 : Nat, gr z a1 5 = some t5 ∧ ((oA n sh t5 1) ∧ ((vp_in x7 (sh t5).2) ∧ (∀ v8 : Int32, v8 = (gi z t5 x7.toNatClampNeg) → (if v8 < x5 then wX6_mostPeopled_J63 n sh k8 k23 P a0 a1 x2 x3 x4 x5 x7 x6 z else (if (x5 + x2) ≤ v8 then wX6_mostPeopled_J63 n sh k8 k23 P a0 a1 x2 x3 x4 x5 x7 x6 z else wX6_mostPeopled_J64 n sh k8 k23 P a0 a1 x2 x3 x4 x5 x7 (1 : Int32) x6 z))))))))
def wX6_mostPeopled_L23 (n : Nat) (sh : Nat → Nat × Nat) (k8 : Nat → Nat → Int32 → Int32 → Int32 → Int32 → gS → Prop) (P : Int32 → gS → Prop) : Nat → Nat → Nat → Int32 → Int32 → Int32 → Int32 → Int32 → Int32 → gS → Prop
  | 0, _, _, _, _, _, _, _, _, _ => False
  | N + 1, a0, a1, x2, x3, x4, x5, x6, x7, z => wX6_mostPeopled_B23 n sh k8 (wX6_mostPeopled_L23 n sh k8 P N) P a0 a1 x2 x3 x4 x5 x6 x7 z
set_option maxRecDepth 100000 in
set_option maxHeartbeats 4000000 in
theorem vX6_mostPeopled_B23 {E : gE} {n : Nat} {sh : Nat → Nat × Nat} {P : Int32 → gS → Prop} {k8 : Nat → Nat → Int32 → Int32 → Int32 → Int32 → gS → Prop} {k23 : Nat → Nat → Int32 → Int32 → Int32 → Int32 → Int32 → Int32 → gS → Prop} {a0 : Nat} {a1 : Nat} {x2 : Int32} {x3 : Int32} {x4 : Int32} {x5 : Int32} {x6 : Int32} {x7 : Int32} {z : gS} (hn : gOK E n) (hk8 : ∀ (a0 : Nat) (a1 : Nat) (x2 : Int32) (x3 : Int32) (x4 : Int32) (x5 : Int32) (z : gS), k8 a0 a1 x2 x3 x4 x5 z → V E (gR 0 0) gyX6_mostPeopled 0 0 8 [(0, .ref a0), (1, .ref a1), (2, .int x2), (3, .int x3), (4, .int x4), (5, .int x5)] [] n sh z (kI n sh P)) (hk23 : ∀ (a0 : Nat) (a1 : Nat) (x2 : Int32) (x3 : Int32) (x4 : Int32) (x5 : Int32) (x6 : Int32) (x7 : Int32) (z : gS), k23 a0 a1 x2 x3 x4 x5 x6 x7 z → V E (gR 0 0) gyX6_mostPeopled 0 0 23 [(0, .ref a0), (1, .ref a1), (2, .int x2), (3, .int x3), (4, .int x4), (5, .int x5), (6, .int x6), (7, .int x7)] [] n sh z (kI n sh P)) (hf : wX6_mostPeopled_B23 n sh k8 k23 P a0 a1 x2 x3 x4 x5 x6 x7 z) : V E (gR 0 0) gyX6_mostPeopled 0 0 23 [(0, .ref a0), (1, .ref a1), (2, .int x2), (3, .int x3), (4, .int x4), (5, .int x5), (6, .int x6), (7, .int x7)] [] n sh z (kI n sh P) := by
  unfold wX6_mostPeopled_B23 at hf
  refine V_iload (j := 7) dX6_mostPeopled_23 rfl ?_
  refine V_aload_n (j := 0) dX6_mostPeopled_25 rfl rfl ?_
  obtain ⟨h1, hf⟩ := hf
  refine V_getI fl_X6_58 rfl h1.1 h1.2 dX6_mostPeopled_26 ?_
  refine V_icmp_ge (tgt := 73) dX6_mostPeopled_29 (by decide) (fun h13 => ?_) (fun h13 => ?_)
  · have hf := it_t h13 hf
    refine V_iload (j := 6) dX6_mostPeopled_73 rfl ?_
    refine V_iload (j := 4) dX6_mostPeopled_75 rfl ?_
    refine V_icmp_le (tgt := 87) dX6_mostPeopled_77 (by decide) (fun h3 => ?_) (fun h3 => ?_)
    · have hf := it_t h3 hf
      refine V_to [0, 1, 2, 3, 4, 5] rfl ?_
      exact vX6_mostPeopled_J87 hn hk8 hf
    · have hf := it_f h3 hf
      refine V_iload (j := 5) dX6_mostPeopled_80 rfl ?_
      refine V_istore_n (ls2 := [(3, .int x5), (0, .ref a0), (1, .ref a1), (2, .int x2), (4, .int x4), (5, .int x5), (6, .int x6), (7, .int x7)]) dX6_mostPeopled_82 rfl (by decide) rfl ?_
      refine V_iload (j := 6) dX6_mostPeopled_83 rfl ?_
      refine V_istore (ls2 := [(4, .int x6), (3, .int x5), (0, .ref a0), (1, .ref a1), (2, .int x2), (5, .int x5), (6, .int x6), (7, .int x7)]) dX6_mostPeopled_85 (by decide) rfl ?_
      refine V_to [2, 3, 4, 1, 0, 5] rfl ?_
      exact vX6_mostPeopled_J87 hn hk8 hf
  · have hf := it_f h13 hf
    refine V_aload_n (j := 1) dX6_mostPeopled_32 rfl rfl ?_
    obtain ⟨h4, hf⟩ := hf
    obtain ⟨t5, et5, hf⟩ := hf
    refine V_getR fl_X6_61 rfl h4.1 h4.2 et5 dX6_mostPeopled_33 ?_
    refine V_iload (j := 7) dX6_mostPeopled_36 rfl ?_
    obtain ⟨h6, hf⟩ := hf
    obtain ⟨h7, hf⟩ := hf
    refine V_iald h6.1 h6.s h7 dX6_mostPeopled_38 ?_
    refine V_nI (fun v8 ev8 => ?_)
    have hf := hf v8 ev8
    refine V_istore (ls2 := [(8, .int v8), (0, .ref a0), (1, .ref a1), (2, .int x2), (3, .int x3), (4, .int x4), (5, .int x5), (6, .int x6), (7, .int x7)]) dX6_mostPeopled_39 (by decide) rfl ?_
    refine V_iload (j := 7) dX6_mostPeopled_41 rfl ?_
    refine V_iload (j := 0) dX6_mostPeopled_43 rfl ?_
    refine V_iload (j := 6) dX6_mostPeopled_45 rfl ?_
    refine V_icmp_lt (tgt := 63) dX6_mostPeopled_47 (by decide) (fun h12 => ?_) (fun h12 => ?_)
    · have hf := it_t h12 hf
      refine V_to [1, 2, 3, 4, 5, 6, 8] rfl ?_
      exact vX6_mostPeopled_J63 hn hk8 hk23 hf
    · have hf := it_f h12 hf
      refine V_iload (j := 0) dX6_mostPeopled_50 rfl ?_
      refine V_iload (j := 6) dX6_mostPeopled_52 rfl ?_
      refine V_iload_n (j := 3) dX6_mostPeopled_54 rfl rfl ?_
      refine V_iadd dX6_mostPeopled_55 ?_
      refine V_icmp_ge (tgt := 63) dX6_mostPeopled_56 (by decide) (fun h11 => ?_) (fun h11 => ?_)
      · have hf := it_t h11 hf
        refine V_to [1, 2, 3, 4, 5, 6, 8] rfl ?_
        exact vX6_mostPeopled_J63 hn hk8 hk23 hf
      · have hf := it_f h11 hf
        refine V_iconst (v := (1 : Int32)) dX6_mostPeopled_59 (by decide) ?_
        refine V_goto (tgt := 64) dX6_mostPeopled_60 (by decide) ?_
        refine V_to [1, 2, 3, 4, 5, 6, 8] rfl ?_
        exact vX6_mostPeopled_J64 hn hk8 hk23 hf
set_option maxRecDepth 100000 in
set_option maxHeartbeats 4000000 in
theorem vX6_mostPeopled_L23 {E : gE} {n : Nat} {sh : Nat → Nat × Nat} {P : Int32 → gS → Prop} {k8 : Nat → Nat → Int32 → Int32 → Int32 → Int32 → gS → Prop} (hn : gOK E n) (hk8 : ∀ (a0 : Nat) (a1 : Nat) (x2 : Int32) (x3 : Int32) (x4 : Int32) (x5 : Int32) (z : gS), k8 a0 a1 x2 x3 x4 x5 z → V E (gR 0 0) gyX6_mostPeopled 0 0 8 [(0, .ref a0), (1, .ref a1), (2, .int x2), (3, .int x3), (4, .int x4), (5, .int x5)] [] n sh z (kI n sh P)) : ∀ (N : Nat) (a0 : Nat) (a1 : Nat) (x2 : Int32) (x3 : Int32) (x4 : Int32) (x5 : Int32) (x6 : Int32) (x7 : Int32) (z : gS), wX6_mostPeopled_L23 n sh k8 P N a0 a1 x2 x3 x4 x5 x6 x7 z → V E (gR 0 0) gyX6_mostPeopled 0 0 23 [(0, .ref a0), (1, .ref a1), (2, .int x2), (3, .int x3), (4, .int x4), (5, .int x5), (6, .int x6), (7, .int x7)] [] n sh z (kI n sh P) := by
  intro N
  induction N with
  | zero => intro a0 a1 x2 x3 x4 x5 x6 x7 z hf; exact False.elim hf
  | succ N ih => intro a0 a1 x2 x3 x4 x5 x6 x7 z hf; exact vX6_mostPeopled_B23 hn hk8 ih hf
def wX6_mostPeopled_B8 (n : Nat) (sh : Nat → Nat × Nat) (k8 : Nat → Nat → Int32 → Int32 → Int32 → Int32 → gS → Prop) (P : Int32 → gS → Prop) (a0 : Nat) (a1 : Nat) (x2 : Int32) (x3 : Int32) (x4 : Int32) (x5 : Int32) (z : gS) : Prop := if (10 : Int32) < (x5 + x2) then P x3 z else ((∃ N, wX6_mostPeopled_L23 n sh k8 P N a0 a1 x2 x3 x4 x5 (0 : Int32) (0 : Int32) z))
def wX6_mostPeopled_L8 (n : Nat) (sh : Nat → Nat × Nat) (P : Int32 → gS → Prop) : Nat → Nat → Nat → Int32 → Int32 → Int32 → Int32 → gS → Prop
  | 0, _, _, _, _, _, _, _ => False
  | N + 1, a0, a1, x2, x3, x4, x5, z => wX6_mostPeopled_B8 n sh (wX6_mostPeopled_L8 n sh P N) P a0 a1 x2 x3 x4 x5 z
set_option maxRecDepth 100000 in
set_option maxHeartbeats 4000000 in
theorem vX6_mostPeopled_B8 {E : gE} {n : Nat} {sh : Nat → Nat × Nat} {P : Int32 → gS → Prop} {k8 : Nat → Nat → Int32 → Int32 → Int32 → Int32 → gS → Prop} {a0 : Nat} {a1 : Nat} {x2 : Int32} {x3 : Int32} {x4 : Int32} {x5 : Int32} {z : gS} (hn : gOK E n) (hk8 : ∀ (a0 : Nat) (a1 : Nat) (x2 : Int32) (x3 : Int32) (x4 : Int32) (x5 : Int32) (z : gS), k8 a0 a1 x2 x3 x4 x5 z → V E (gR 0 0) gyX6_mostPeopled 0 0 8 [(0, .ref a0), (1, .ref a1), (2, .int x2), (3, .int x3), (4, .int x4), (5, .int x5)] [] n sh z (kI n sh P)) (hf : wX6_mostPeopled_B8 n sh k8 P a0 a1 x2 x3 x4 x5 z) : V E (gR 0 0) gyX6_mostPeopled 0 0 8 [(0, .ref a0), (1, .ref a1), (2, .int x2), (3, .int x3), (4, .int x4), (5, .int x5)] [] n sh z (kI n sh P) := by
  unfold wX6_mostPeopled_B8 at hf
  refine V_iload (j := 5) dX6_mostPeopled_8 rfl ?_
  refine V_iload_n (j := 2) dX6_mostPeopled_10 rfl rfl ?_
  refine V_iadd dX6_mostPeopled_11 ?_
  refine V_bipush (v := (10 : Int32)) dX6_mostPeopled_12 (by decide) ?_
  refine V_icmp_gt (tgt := 93) dX6_mostPeopled_14 (by decide) (fun h14 => ?_) (fun h14 => ?_)
  · have hf := it_t h14 hf
    refine V_iload_n (j := 3) dX6_mostPeopled_93 rfl rfl ?_
    exact V_ireturn dX6_mostPeopled_94 rfl rfl (Nat.le_refl 0) (kI_of hf)
  · have hf := it_f h14 hf
    refine V_iconst (v := (0 : Int32)) dX6_mostPeopled_17 (by decide) ?_
    refine V_istore (ls2 := [(6, .int (0 : Int32)), (0, .ref a0), (1, .ref a1), (2, .int x2), (3, .int x3), (4, .int x4), (5, .int x5)]) dX6_mostPeopled_18 (by decide) rfl ?_
    refine V_iconst (v := (0 : Int32)) dX6_mostPeopled_20 (by decide) ?_
    refine V_istore (ls2 := [(7, .int (0 : Int32)), (6, .int (0 : Int32)), (0, .ref a0), (1, .ref a1), (2, .int x2), (3, .int x3), (4, .int x4), (5, .int x5)]) dX6_mostPeopled_21 (by decide) rfl ?_
    obtain ⟨N, hf⟩ := hf
    refine V_to [2, 3, 4, 5, 6, 7, 1, 0] rfl ?_
    exact vX6_mostPeopled_L23 hn hk8 N _ _ _ _ _ _ _ _ _ hf
set_option maxRecDepth 100000 in
set_option maxHeartbeats 4000000 in
theorem vX6_mostPeopled_L8 {E : gE} {n : Nat} {sh : Nat → Nat × Nat} {P : Int32 → gS → Prop} (hn : gOK E n) : ∀ (N : Nat) (a0 : Nat) (a1 : Nat) (x2 : Int32) (x3 : Int32) (x4 : Int32) (x5 : Int32) (z : gS), wX6_mostPeopled_L8 n sh P N a0 a1 x2 x3 x4 x5 z → V E (gR 0 0) gyX6_mostPeopled 0 0 8 [(0, .ref a0), (1, .ref a1), (2, .int x2), (3, .int x3), (4, .int x4), (5, .int x5)] [] n sh z (kI n sh P) := by
  intro N
  induction N with
  | zero => intro a0 a1 x2 x3 x4 x5 z hf; exact False.elim hf
  | succ N ih => intro a0 a1 x2 x3 x4 x5 z hf; exact vX6_mostPeopled_B8 hn ih hf
def wX6_mostPeopled (n : Nat) (sh : Nat → Nat × Nat) (a0 : Nat) (a1 : Nat) (x2 : Int32) (z : gS) (P : Int32 → gS → Prop) : Prop := (∃ N, wX6_mostPeopled_L8 n sh P N a0 a1 x2 (0 : Int32) (0 : Int32) (0 : Int32) z)
set_option maxRecDepth 100000 in
set_option maxHeartbeats 4000000 in
theorem ctX6_mostPeopled {E : gE} {n : Nat} {sh : Nat → Nat × Nat} {a0 : Nat} {a1 : Nat} {x2 : Int32} {z : gS} {P : Int32 → gS → Prop} (hn : gOK E n) (hf : wX6_mostPeopled n sh a0 a1 x2 z P) : VM E 0 0 gyX6_mostPeopled [.ref a0, .ref a1, .int x2] n sh z (kI n sh P) := by
  unfold wX6_mostPeopled at hf
  refine VM.of (by decide +kernel) (Nat.le_of_ble_eq_true rfl) (fun _ _ _ h => h.2.2) ?_
  show V E (gR 0 0) gyX6_mostPeopled 0 0 0 [(0, .ref a0), (1, .ref a1), (2, .int x2)] [] n sh z (kI n sh P)
  refine V_iconst (v := (0 : Int32)) dX6_mostPeopled_0 (by decide) ?_
  refine V_istore_n (ls2 := [(3, .int (0 : Int32)), (0, .ref a0), (1, .ref a1), (2, .int x2)]) dX6_mostPeopled_1 rfl (by decide) rfl ?_
  refine V_iconst (v := (0 : Int32)) dX6_mostPeopled_2 (by decide) ?_
  refine V_istore (ls2 := [(4, .int (0 : Int32)), (3, .int (0 : Int32)), (0, .ref a0), (1, .ref a1), (2, .int x2)]) dX6_mostPeopled_3 (by decide) rfl ?_
  refine V_iconst (v := (0 : Int32)) dX6_mostPeopled_5 (by decide) ?_
  refine V_istore (ls2 := [(5, .int (0 : Int32)), (4, .int (0 : Int32)), (3, .int (0 : Int32)), (0, .ref a0), (1, .ref a1), (2, .int x2)]) dX6_mostPeopled_6 (by decide) rfl ?_
  obtain ⟨N, hf⟩ := hf
  refine V_to [3, 4, 5, 2, 1, 0] rfl ?_
  exact vX6_mostPeopled_L8 hn N _ _ _ _ _ _ _ hf
def wX11_glass (n : Nat) (sh : Nat → Nat × Nat) (a0 : Nat) (x1 : Int32) (z : gS) (P : Int32 → gS → Prop) : Prop := if x1 < (1 : Int32) then P (-1 : Int32) z else (if x1 ≤ (10 : Int32) then ((oO n sh a0 7) ∧ (∃ t2 : Nat, gr z a0 7 = some t2 ∧ (∃ t3 : Nat, gr z a0 1 = some t3 ∧ (wX6_mostPeopled n sh t2 t3 x1 z (fun (r4 : Int32) (z5 : gS) => P r4 z5))))) else P (-1 : Int32) z)
set_option maxRecDepth 100000 in
set_option maxHeartbeats 4000000 in
theorem ctX11_glass {E : gE} {n : Nat} {sh : Nat → Nat × Nat} {a0 : Nat} {x1 : Int32} {z : gS} {P : Int32 → gS → Prop} (hn : gOK E n) (hf : wX11_glass n sh a0 x1 z P) : VM E 1 0 gyX11_glass [.ref a0, .int x1] n sh z (kI n sh P) := by
  unfold wX11_glass at hf
  refine VM.of (by decide +kernel) (Nat.le_of_ble_eq_true rfl) (fun _ _ _ h => h.2.2) ?_
  show V E (gR 1 0) gyX11_glass 0 0 0 [(0, .ref a0), (1, .int x1)] [] n sh z (kI n sh P)
  refine V_iload_n (j := 1) dX11_glass_0 rfl rfl ?_
  refine V_iconst (v := (1 : Int32)) dX11_glass_1 (by decide) ?_
  refine V_icmp_lt (tgt := 11) dX11_glass_2 (by decide) (fun h7 => ?_) (fun h7 => ?_)
  · have hf := it_t h7 hf
    refine V_iconst (v := (-1 : Int32)) dX11_glass_11 (by decide) ?_
    exact V_ireturn dX11_glass_12 rfl rfl (Nat.le_refl 0) (kI_of hf)
  · have hf := it_f h7 hf
    refine V_iload_n (j := 1) dX11_glass_5 rfl rfl ?_
    refine V_bipush (v := (10 : Int32)) dX11_glass_6 (by decide) ?_
    refine V_icmp_le (tgt := 13) dX11_glass_8 (by decide) (fun h6 => ?_) (fun h6 => ?_)
    · have hf := it_t h6 hf
      refine V_aload_n (j := 0) dX11_glass_13 rfl rfl ?_
      obtain ⟨h1, hf⟩ := hf
      obtain ⟨t2, et2, hf⟩ := hf
      refine V_getR fl_X11_51 rfl h1.1 h1.2 et2 dX11_glass_14 ?_
      refine V_aload_n (j := 0) dX11_glass_17 rfl rfl ?_
      obtain ⟨t3, et3, hf⟩ := hf
      refine V_getR fl_X11_19 rfl h1.1 h1.2 et3 dX11_glass_18 ?_
      refine V_iload_n (j := 1) dX11_glass_21 rfl rfl ?_
      refine V_cSI (ctX6_mostPeopled hn hf) gc_X11_246 rfl ⟨by decide, by decide, Nat.zero_le _, Nat.zero_le _⟩ (Nat.le_of_ble_eq_true rfl) dX11_glass_22 rfl hn (fun r4 z5 hf => ?_)
      exact V_ireturn dX11_glass_25 rfl rfl (Nat.le_refl 0) (kI_of hf)
    · have hf := it_f h6 hf
      refine V_iconst (v := (-1 : Int32)) dX11_glass_11 (by decide) ?_
      exact V_ireturn dX11_glass_12 rfl rfl (Nat.le_refl 0) (kI_of hf)
def wX11_seen (n : Nat) (sh : Nat → Nat × Nat) (a0 : Nat) (x1 : Int32) (z : gS) (P : Int32 → gS → Prop) : Prop := (oO n sh a0 7) ∧ (∃ t2 : Nat, gr z a0 7 = some t2 ∧ ((oO n sh t2 4) ∧ (wX7_hasPerson n sh t2 x1 z (fun (r3 : Int32) (z4 : gS) => if r3 = 0 then P (-1 : Int32) z4 else (∃ t6 : Nat, gr z4 a0 1 = some t6 ∧ (∃ t7 : Nat, gr z4 a0 7 = some t7 ∧ (∃ t8 : Nat, gr z4 a0 1 = some t8 ∧ ((oO n sh t8 6) ∧ (∃ t10 : Nat, gr z4 t8 5 = some t10 ∧ ((oA n sh t10 1) ∧ ((vp_in x1 (sh t10).2) ∧ ((oO n sh t6 6) ∧ (wX10_watchersOf n sh t6 t7 (gi z4 t10 x1.toNatClampNeg) z4 (fun (r13 : Int32) (z14 : gS) => P r13 z14))))))))))))))
set_option maxRecDepth 100000 in
set_option maxHeartbeats 4000000 in
theorem ctX11_seen {E : gE} {n : Nat} {sh : Nat → Nat × Nat} {a0 : Nat} {x1 : Int32} {z : gS} {P : Int32 → gS → Prop} (hn : gOK E n) (hf : wX11_seen n sh a0 x1 z P) : VM E 4 0 gyX11_seen [.ref a0, .int x1] n sh z (kI n sh P) := by
  unfold wX11_seen at hf
  refine VM.of (by decide +kernel) (Nat.le_of_ble_eq_true rfl) (fun _ _ _ h => h.2.2) ?_
  show V E (gR 4 0) gyX11_seen 0 0 0 [(0, .ref a0), (1, .int x1)] [] n sh z (kI n sh P)
  refine V_aload_n (j := 0) dX11_seen_0 rfl rfl ?_
  obtain ⟨h1, hf⟩ := hf
  obtain ⟨t2, et2, hf⟩ := hf
  refine V_getR fl_X11_51 rfl h1.1 h1.2 et2 dX11_seen_1 ?_
  refine V_iload_n (j := 1) dX11_seen_4 rfl rfl ?_
  obtain ⟨h5, hf⟩ := hf
  refine V_cVI (ctX7_hasPerson hn hf) gc_X11_149 rfl h5.1 ⟨_, h5.2, by decide, rfl⟩ ⟨by decide, by decide, Nat.zero_le _, Nat.zero_le _⟩ (Nat.le_of_ble_eq_true rfl) dX11_seen_5 rfl hn (fun r3 z4 hf => ?_)
  refine V_if_eq (tgt := 34) dX11_seen_8 (by decide) (fun h16 => ?_) (fun h16 => ?_)
  · have hf := it_t h16 hf
    refine V_iconst (v := (-1 : Int32)) dX11_seen_34 (by decide) ?_
    exact V_ireturn dX11_seen_35 rfl rfl (Nat.le_refl 0) (kI_of hf)
  · have hf := it_f h16 hf
    refine V_aload_n (j := 0) dX11_seen_11 rfl rfl ?_
    obtain ⟨t6, et6, hf⟩ := hf
    refine V_getR fl_X11_19 rfl h1.1 h1.2 et6 dX11_seen_12 ?_
    refine V_aload_n (j := 0) dX11_seen_15 rfl rfl ?_
    obtain ⟨t7, et7, hf⟩ := hf
    refine V_getR fl_X11_51 rfl h1.1 h1.2 et7 dX11_seen_16 ?_
    refine V_aload_n (j := 0) dX11_seen_19 rfl rfl ?_
    obtain ⟨t8, et8, hf⟩ := hf
    refine V_getR fl_X11_19 rfl h1.1 h1.2 et8 dX11_seen_20 ?_
    obtain ⟨h9, hf⟩ := hf
    obtain ⟨t10, et10, hf⟩ := hf
    refine V_getR fl_X11_152 rfl h9.1 h9.2 et10 dX11_seen_23 ?_
    refine V_iload_n (j := 1) dX11_seen_26 rfl rfl ?_
    obtain ⟨h11, hf⟩ := hf
    obtain ⟨h12, hf⟩ := hf
    refine V_iald h11.1 h11.s h12 dX11_seen_27 ?_
    obtain ⟨h15, hf⟩ := hf
    refine V_cVI (ctX10_watchersOf hn hf) gc_X11_249 rfl h15.1 ⟨_, h15.2, by decide, rfl⟩ ⟨by decide, by decide, Nat.zero_le _, Nat.zero_le _⟩ (Nat.le_of_ble_eq_true rfl) dX11_seen_28 rfl hn (fun r13 z14 hf => ?_)
    refine V_goto (tgt := 35) dX11_seen_31 (by decide) ?_
    exact V_ireturn dX11_seen_35 rfl rfl (Nat.le_refl 0) (kI_of hf)
def wX6_mostWatched_J38 (n : Nat) (sh : Nat → Nat × Nat) (k7 : Nat → Nat → Int32 → Int32 → Int32 → gS → Prop) (P : Int32 → gS → Prop) (a0 : Nat) (a1 : Nat) (x2 : Int32) (x3 : Int32) (x4 : Int32) (z : gS) : Prop := ∀ v6 : Int32, v6 = x4 + (1 : Int32) → k7 a0 a1 x2 x3 v6 z
set_option maxRecDepth 100000 in
set_option maxHeartbeats 4000000 in
theorem vX6_mostWatched_J38 {E : gE} {n : Nat} {sh : Nat → Nat × Nat} {P : Int32 → gS → Prop} {k7 : Nat → Nat → Int32 → Int32 → Int32 → gS → Prop} {a0 : Nat} {a1 : Nat} {x2 : Int32} {x3 : Int32} {x4 : Int32} {z : gS} (hn : gOK E n) (hk7 : ∀ (a0 : Nat) (a1 : Nat) (x2 : Int32) (x3 : Int32) (x4 : Int32) (z : gS), k7 a0 a1 x2 x3 x4 z → V E (gR 4 0) gyX6_mostWatched 0 0 7 [(0, .ref a0), (1, .ref a1), (2, .int x2), (3, .int x3), (4, .int x4)] [] n sh z (kI n sh P)) (hf : wX6_mostWatched_J38 n sh k7 P a0 a1 x2 x3 x4 z) : V E (gR 4 0) gyX6_mostWatched 0 0 38 [(0, .ref a0), (1, .ref a1), (2, .int x2), (3, .int x3), (4, .int x4)] [] n sh z (kI n sh P) := by
  unfold wX6_mostWatched_J38 at hf
  obtain ⟨v6, ev6⟩ : ∃ y : Int32, y = x4 + (1 : Int32) := ⟨_, rfl⟩
  refine V_iinc (j := 4) (v := v6) (ls2 := [(4, .int v6), (0, .ref a0), (1, .ref a1), (2, .int x2), (3, .int x3)]) dX6_mostWatched_38 rfl (by rw [ev6]; rfl) (by decide) rfl ?_
  have hf := hf v6 ev6
  refine V_goto (tgt := 7) dX6_mostWatched_41 (by decide) ?_
  refine V_to [1, 2, 3, 4, 0] rfl ?_
  exact hk7 _ _ _ _ _ _ hf
def wX6_mostWatched_B7 (n : Nat) (sh : Nat → Nat × Nat) (k7 : Nat → Nat → Int32 → Int32 → Int32 → gS → Prop) (P : Int32 → gS → Prop) (a0 : Nat) (a1 : Nat) (x2 : Int32) (x3 : Int32) (x4 : Int32) (z : gS) : Prop := if (10 : Int32) ≤ x4 then P x2 z else ((oO n sh a1 6) ∧ (wX10_watchersOf n sh a1 a0 x4 z (fun (r1 : Int32) (z2 : gS) => wJ6_bitCount_0f7a4 n sh r1 z2 (fun (r4 : Int32) (z5 : gS) => if r4 ≤ x3 then wX6_mostWatched_J38 n sh k7 P a0 a1 x2 x3 x4 z5 else wX6_mostWatched_J38 n sh k7 P a0 a1 x4 r4 x4 z5))))
def wX6_mostWatched_L7 (n : Nat) (sh : Nat → Nat × Nat) (P : Int32 → gS → Prop) : Nat → Nat → Nat → Int32 → Int32 → Int32 → gS → Prop
  | 0, _, _, _, _, _, _ => False
  | N + 1, a0, a1, x2, x3, x4, z => wX6_mostWatched_B7 n sh (wX6_mostWatched_L7 n sh P N) P a0 a1 x2 x3 x4 z
set_option maxRecDepth 100000 in
set_option maxHeartbeats 4000000 in
theorem vX6_mostWatched_B7 {E : gE} {n : Nat} {sh : Nat → Nat × Nat} {P : Int32 → gS → Prop} {k7 : Nat → Nat → Int32 → Int32 → Int32 → gS → Prop} {a0 : Nat} {a1 : Nat} {x2 : Int32} {x3 : Int32} {x4 : Int32} {z : gS} (hn : gOK E n) (hk7 : ∀ (a0 : Nat) (a1 : Nat) (x2 : Int32) (x3 : Int32) (x4 : Int32) (z : gS), k7 a0 a1 x2 x3 x4 z → V E (gR 4 0) gyX6_mostWatched 0 0 7 [(0, .ref a0), (1, .ref a1), (2, .int x2), (3, .int x3), (4, .int x4)] [] n sh z (kI n sh P)) (hf : wX6_mostWatched_B7 n sh k7 P a0 a1 x2 x3 x4 z) : V E (gR 4 0) gyX6_mostWatched 0 0 7 [(0, .ref a0), (1, .ref a1), (2, .int x2), (3, .int x3), (4, .int x4)] [] n sh z (kI n sh P) := by
  unfold wX6_mostWatched_B7 at hf
  refine V_iload (j := 4) dX6_mostWatched_7 rfl ?_
  refine V_bipush (v := (10 : Int32)) dX6_mostWatched_9 (by decide) ?_
  refine V_icmp_ge (tgt := 44) dX6_mostWatched_11 (by decide) (fun h8 => ?_) (fun h8 => ?_)
  · have hf := it_t h8 hf
    refine V_iload_n (j := 2) dX6_mostWatched_44 rfl rfl ?_
    exact V_ireturn dX6_mostWatched_45 rfl rfl (Nat.le_refl 0) (kI_of hf)
  · have hf := it_f h8 hf
    refine V_aload_n (j := 1) dX6_mostWatched_14 rfl rfl ?_
    refine V_aload_n (j := 0) dX6_mostWatched_15 rfl rfl ?_
    refine V_iload (j := 4) dX6_mostWatched_16 rfl ?_
    obtain ⟨h3, hf⟩ := hf
    refine V_cVI (ctX10_watchersOf hn hf) gc_X6_33 rfl h3.1 ⟨_, h3.2, by decide, rfl⟩ ⟨by decide, by decide, Nat.zero_le _, Nat.zero_le _⟩ (Nat.le_of_ble_eq_true rfl) dX6_mostWatched_18 rfl hn (fun r1 z2 hf => ?_)
    refine V_cSI (ctJ6_bitCount_0f7a4 hn hf) gc_X6_49 rfl ⟨by decide, by decide, Nat.zero_le _, Nat.zero_le _⟩ (Nat.le_of_ble_eq_true rfl) dX6_mostWatched_21 rfl hn (fun r4 z5 hf => ?_)
    refine V_istore (ls2 := [(5, .int r4), (0, .ref a0), (1, .ref a1), (2, .int x2), (3, .int x3), (4, .int x4)]) dX6_mostWatched_24 (by decide) rfl ?_
    refine V_iload (j := 0) dX6_mostWatched_26 rfl ?_
    refine V_iload_n (j := 4) dX6_mostWatched_28 rfl rfl ?_
    refine V_icmp_le (tgt := 38) dX6_mostWatched_29 (by decide) (fun h7 => ?_) (fun h7 => ?_)
    · have hf := it_t h7 hf
      refine V_to [1, 2, 3, 4, 5] rfl ?_
      exact vX6_mostWatched_J38 hn hk7 hf
    · have hf := it_f h7 hf
      refine V_iload (j := 5) dX6_mostWatched_32 rfl ?_
      refine V_istore_n (ls2 := [(2, .int x4), (5, .int r4), (0, .ref a0), (1, .ref a1), (3, .int x3), (4, .int x4)]) dX6_mostWatched_34 rfl (by decide) rfl ?_
      refine V_iload (j := 1) dX6_mostWatched_35 rfl ?_
      refine V_istore_n (ls2 := [(3, .int r4), (2, .int x4), (5, .int r4), (0, .ref a0), (1, .ref a1), (4, .int x4)]) dX6_mostWatched_37 rfl (by decide) rfl ?_
      refine V_to [3, 4, 1, 0, 5] rfl ?_
      exact vX6_mostWatched_J38 hn hk7 hf
set_option maxRecDepth 100000 in
set_option maxHeartbeats 4000000 in
theorem vX6_mostWatched_L7 {E : gE} {n : Nat} {sh : Nat → Nat × Nat} {P : Int32 → gS → Prop} (hn : gOK E n) : ∀ (N : Nat) (a0 : Nat) (a1 : Nat) (x2 : Int32) (x3 : Int32) (x4 : Int32) (z : gS), wX6_mostWatched_L7 n sh P N a0 a1 x2 x3 x4 z → V E (gR 4 0) gyX6_mostWatched 0 0 7 [(0, .ref a0), (1, .ref a1), (2, .int x2), (3, .int x3), (4, .int x4)] [] n sh z (kI n sh P) := by
  intro N
  induction N with
  | zero => intro a0 a1 x2 x3 x4 z hf; exact False.elim hf
  | succ N ih => intro a0 a1 x2 x3 x4 z hf; exact vX6_mostWatched_B7 hn ih hf
def wX6_mostWatched (n : Nat) (sh : Nat → Nat × Nat) (a0 : Nat) (a1 : Nat) (z : gS) (P : Int32 → gS → Prop) : Prop := (∃ N, wX6_mostWatched_L7 n sh P N a0 a1 (0 : Int32) (0 : Int32) (0 : Int32) z)
set_option maxRecDepth 100000 in
set_option maxHeartbeats 4000000 in
theorem ctX6_mostWatched {E : gE} {n : Nat} {sh : Nat → Nat × Nat} {a0 : Nat} {a1 : Nat} {z : gS} {P : Int32 → gS → Prop} (hn : gOK E n) (hf : wX6_mostWatched n sh a0 a1 z P) : VM E 4 0 gyX6_mostWatched [.ref a0, .ref a1] n sh z (kI n sh P) := by
  unfold wX6_mostWatched at hf
  refine VM.of (by decide +kernel) (Nat.le_of_ble_eq_true rfl) (fun _ _ _ h => h.2.2) ?_
  show V E (gR 4 0) gyX6_mostWatched 0 0 0 [(0, .ref a0), (1, .ref a1)] [] n sh z (kI n sh P)
  refine V_iconst (v := (0 : Int32)) dX6_mostWatched_0 (by decide) ?_
  refine V_istore_n (ls2 := [(2, .int (0 : Int32)), (0, .ref a0), (1, .ref a1)]) dX6_mostWatched_1 rfl (by decide) rfl ?_
  refine V_iconst (v := (0 : Int32)) dX6_mostWatched_2 (by decide) ?_
  refine V_istore_n (ls2 := [(3, .int (0 : Int32)), (2, .int (0 : Int32)), (0, .ref a0), (1, .ref a1)]) dX6_mostWatched_3 rfl (by decide) rfl ?_
  refine V_iconst (v := (0 : Int32)) dX6_mostWatched_4 (by decide) ?_
  refine V_istore (ls2 := [(4, .int (0 : Int32)), (3, .int (0 : Int32)), (2, .int (0 : Int32)), (0, .ref a0), (1, .ref a1)]) dX6_mostWatched_5 (by decide) rfl ?_
  obtain ⟨N, hf⟩ := hf
  refine V_to [3, 4, 2, 1, 0] rfl ?_
  exact vX6_mostWatched_L7 hn N _ _ _ _ _ _ hf
def wX11_eyes (n : Nat) (sh : Nat → Nat × Nat) (a0 : Nat) (z : gS) (P : Int32 → gS → Prop) : Prop := (oO n sh a0 7) ∧ (∃ t2 : Nat, gr z a0 7 = some t2 ∧ (∃ t3 : Nat, gr z a0 1 = some t3 ∧ (wX6_mostWatched n sh t2 t3 z (fun (r4 : Int32) (z5 : gS) => P r4 z5))))
set_option maxRecDepth 100000 in
set_option maxHeartbeats 4000000 in
theorem ctX11_eyes {E : gE} {n : Nat} {sh : Nat → Nat × Nat} {a0 : Nat} {z : gS} {P : Int32 → gS → Prop} (hn : gOK E n) (hf : wX11_eyes n sh a0 z P) : VM E 5 0 gyX11_eyes [.ref a0] n sh z (kI n sh P) := by
  unfold wX11_eyes at hf
  refine VM.of (by decide +kernel) (Nat.le_of_ble_eq_true rfl) (fun _ _ _ h => h.2.2) ?_
  show V E (gR 5 0) gyX11_eyes 0 0 0 [(0, .ref a0)] [] n sh z (kI n sh P)
  refine V_aload_n (j := 0) dX11_eyes_0 rfl rfl ?_
  obtain ⟨h1, hf⟩ := hf
  obtain ⟨t2, et2, hf⟩ := hf
  refine V_getR fl_X11_51 rfl h1.1 h1.2 et2 dX11_eyes_1 ?_
  refine V_aload_n (j := 0) dX11_eyes_4 rfl rfl ?_
  obtain ⟨t3, et3, hf⟩ := hf
  refine V_getR fl_X11_19 rfl h1.1 h1.2 et3 dX11_eyes_5 ?_
  refine V_cSI (ctX6_mostWatched hn hf) gc_X11_252 rfl ⟨by decide, by decide, Nat.zero_le _, Nat.zero_le _⟩ (Nat.le_of_ble_eq_true rfl) dX11_eyes_8 rfl hn (fun r4 z5 hf => ?_)
  exact V_ireturn dX11_eyes_11 rfl rfl (Nat.le_refl 0) (kI_of hf)
def wX11_blind (n : Nat) (sh : Nat → Nat × Nat) (a0 : Nat) (z : gS) (P : Int32 → gS → Prop) : Prop := (oO n sh a0 7) ∧ (∃ t2 : Nat, gr z a0 7 = some t2 ∧ (∃ t3 : Nat, gr z a0 1 = some t3 ∧ (wX6_unseenCells n sh t2 t3 z (fun (r4 : Int32) (z5 : gS) => P r4 z5))))
set_option maxRecDepth 100000 in
set_option maxHeartbeats 4000000 in
theorem ctX11_blind {E : gE} {n : Nat} {sh : Nat → Nat × Nat} {a0 : Nat} {z : gS} {P : Int32 → gS → Prop} (hn : gOK E n) (hf : wX11_blind n sh a0 z P) : VM E 4 0 gyX11_blind [.ref a0] n sh z (kI n sh P) := by
  unfold wX11_blind at hf
  refine VM.of (by decide +kernel) (Nat.le_of_ble_eq_true rfl) (fun _ _ _ h => h.2.2) ?_
  show V E (gR 4 0) gyX11_blind 0 0 0 [(0, .ref a0)] [] n sh z (kI n sh P)
  refine V_aload_n (j := 0) dX11_blind_0 rfl rfl ?_
  obtain ⟨h1, hf⟩ := hf
  obtain ⟨t2, et2, hf⟩ := hf
  refine V_getR fl_X11_51 rfl h1.1 h1.2 et2 dX11_blind_1 ?_
  refine V_aload_n (j := 0) dX11_blind_4 rfl rfl ?_
  obtain ⟨t3, et3, hf⟩ := hf
  refine V_getR fl_X11_19 rfl h1.1 h1.2 et3 dX11_blind_5 ?_
  refine V_cSI (ctX6_unseenCells hn hf) gc_X11_255 rfl ⟨by decide, by decide, Nat.zero_le _, Nat.zero_le _⟩ (Nat.le_of_ble_eq_true rfl) dX11_blind_8 rfl hn (fun r4 z5 hf => ?_)
  exact V_ireturn dX11_blind_11 rfl rfl (Nat.le_refl 0) (kI_of hf)
def wX3_marksUpTo_J50 (n : Nat) (sh : Nat → Nat × Nat) (k5 : Nat → Nat → Int32 → Int32 → Int32 → gS → Prop) (k17 : Nat → Nat → Int32 → Int32 → Int32 → Int32 → gS → Prop) (P : Int32 → gS → Prop) (a0 : Nat) (a1 : Nat) (x2 : Int32) (x4 : Int32) (x5 : Int32) (s0 : Int32) (s1 : Int32) (z : gS) : Prop := ∀ v11 : Int32, v11 = (s1 + s0) → (∀ v12 : Int32, v12 = x5 + (1 : Int32) → k17 a0 a1 x2 v11 x4 v12 z)
set_option maxRecDepth 100000 in
set_option maxHeartbeats 4000000 in
theorem vX3_marksUpTo_J50 {E : gE} {n : Nat} {sh : Nat → Nat × Nat} {P : Int32 → gS → Prop} {k5 : Nat → Nat → Int32 → Int32 → Int32 → gS → Prop} {k17 : Nat → Nat → Int32 → Int32 → Int32 → Int32 → gS → Prop} {a0 : Nat} {a1 : Nat} {x2 : Int32} {x4 : Int32} {x5 : Int32} {s0 : Int32} {s1 : Int32} {z : gS} (hn : gOK E n) (hk5 : ∀ (a0 : Nat) (a1 : Nat) (x2 : Int32) (x3 : Int32) (x4 : Int32) (z : gS), k5 a0 a1 x2 x3 x4 z → V E (gR 1 0) gyX3_marksUpTo 0 0 5 [(0, .ref a0), (1, .ref a1), (2, .int x2), (3, .int x3), (4, .int x4)] [] n sh z (kI n sh P)) (hk17 : ∀ (a0 : Nat) (a1 : Nat) (x2 : Int32) (x3 : Int32) (x4 : Int32) (x5 : Int32) (z : gS), k17 a0 a1 x2 x3 x4 x5 z → V E (gR 1 0) gyX3_marksUpTo 0 0 17 [(0, .ref a0), (1, .ref a1), (2, .int x2), (3, .int x3), (4, .int x4), (5, .int x5)] [] n sh z (kI n sh P)) (hf : wX3_marksUpTo_J50 n sh k5 k17 P a0 a1 x2 x4 x5 s0 s1 z) : V E (gR 1 0) gyX3_marksUpTo 0 0 50 [(0, .ref a0), (1, .ref a1), (2, .int x2), (4, .int x4), (5, .int x5)] [.int s0, .int s1] n sh z (kI n sh P) := by
  unfold wX3_marksUpTo_J50 at hf
  refine V_iadd dX3_marksUpTo_50 ?_
  refine V_nI (fun v11 ev11 => ?_)
  have hf := hf v11 ev11
  refine V_istore_n (ls2 := [(3, .int v11), (0, .ref a0), (1, .ref a1), (2, .int x2), (4, .int x4), (5, .int x5)]) dX3_marksUpTo_51 rfl (by decide) rfl ?_
  obtain ⟨v12, ev12⟩ : ∃ y : Int32, y = x5 + (1 : Int32) := ⟨_, rfl⟩
  refine V_iinc (j := 5) (v := v12) (ls2 := [(5, .int v12), (3, .int v11), (0, .ref a0), (1, .ref a1), (2, .int x2), (4, .int x4)]) dX3_marksUpTo_52 rfl (by rw [ev12]; rfl) (by decide) rfl ?_
  have hf := hf v12 ev12
  refine V_goto (tgt := 17) dX3_marksUpTo_55 (by decide) ?_
  refine V_to [2, 3, 4, 1, 5, 0] rfl ?_
  exact hk17 _ _ _ _ _ _ _ hf
def wX3_marksUpTo_B17 (n : Nat) (sh : Nat → Nat × Nat) (k5 : Nat → Nat → Int32 → Int32 → Int32 → gS → Prop) (k17 : Nat → Nat → Int32 → Int32 → Int32 → Int32 → gS → Prop) (P : Int32 → gS → Prop) (a0 : Nat) (a1 : Nat) (x2 : Int32) (x3 : Int32) (x4 : Int32) (x5 : Int32) (z : gS) : Prop := (oO n sh a1 6) ∧ (∃ t3 : Nat, gr z a1 6 = some t3 ∧ ((oA n sh t3 1) ∧ ((vp_in x4 (sh t3).2) ∧ (if (gi z t3 x4.toNatClampNeg) ≤ x5 then (∀ v6 : Int32, v6 = x4 + (1 : Int32) → k5 a0 a1 x2 x3 v6 z) else (wX10_markAt n sh a1 x4 x5 z (fun (r7 : Int32) (z8 : gS) => wX10_ageOf n sh r7 z8 (fun (r9 : Int32) (z10 : gS) => if x2 < r9 then wX3_marksUpTo_J50 n sh k5 k17 P a0 a1 x2 x4 x5 (0 : Int32) x3 z10 else wX3_marksUpTo_J50 n sh k5 k17 P a0 a1 x2 x4 x5 (1 : Int32) x3 z10)))))))
def wX3_marksUpTo_L17 (n : Nat) (sh : Nat → Nat × Nat) (k5 : Nat → Nat → Int32 → Int32 → Int32 → gS → Prop) (P : Int32 → gS → Prop) : Nat → Nat → Nat → Int32 → Int32 → Int32 → Int32 → gS → Prop
  | 0, _, _, _, _, _, _, _ => False
  | N + 1, a0, a1, x2, x3, x4, x5, z => wX3_marksUpTo_B17 n sh k5 (wX3_marksUpTo_L17 n sh k5 P N) P a0 a1 x2 x3 x4 x5 z
set_option maxRecDepth 100000 in
set_option maxHeartbeats 4000000 in
theorem vX3_marksUpTo_B17 {E : gE} {n : Nat} {sh : Nat → Nat × Nat} {P : Int32 → gS → Prop} {k5 : Nat → Nat → Int32 → Int32 → Int32 → gS → Prop} {k17 : Nat → Nat → Int32 → Int32 → Int32 → Int32 → gS → Prop} {a0 : Nat} {a1 : Nat} {x2 : Int32} {x3 : Int32} {x4 : Int32} {x5 : Int32} {z : gS} (hn : gOK E n) (hk5 : ∀ (a0 : Nat) (a1 : Nat) (x2 : Int32) (x3 : Int32) (x4 : Int32) (z : gS), k5 a0 a1 x2 x3 x4 z → V E (gR 1 0) gyX3_marksUpTo 0 0 5 [(0, .ref a0), (1, .ref a1), (2, .int x2), (3, .int x3), (4, .int x4)] [] n sh z (kI n sh P)) (hk17 : ∀ (a0 : Nat) (a1 : Nat) (x2 : Int32) (x3 : Int32) (x4 : Int32) (x5 : Int32) (z : gS), k17 a0 a1 x2 x3 x4 x5 z → V E (gR 1 0) gyX3_marksUpTo 0 0 17 [(0, .ref a0), (1, .ref a1), (2, .int x2), (3, .int x3), (4, .int x4), (5, .int x5)] [] n sh z (kI n sh P)) (hf : wX3_marksUpTo_B17 n sh k5 k17 P a0 a1 x2 x3 x4 x5 z) : V E (gR 1 0) gyX3_marksUpTo 0 0 17 [(0, .ref a0), (1, .ref a1), (2, .int x2), (3, .int x3), (4, .int x4), (5, .int x5)] [] n sh z (kI n sh P) := by
  unfold wX3_marksUpTo_B17 at hf
  refine V_iload (j := 5) dX3_marksUpTo_17 rfl ?_
  refine V_aload_n (j := 1) dX3_marksUpTo_19 rfl rfl ?_
  obtain ⟨h2, hf⟩ := hf
  obtain ⟨t3, et3, hf⟩ := hf
  refine V_getR fl_X3_28 rfl h2.1 h2.2 et3 dX3_marksUpTo_20 ?_
  refine V_iload (j := 4) dX3_marksUpTo_23 rfl ?_
  obtain ⟨h4, hf⟩ := hf
  obtain ⟨h5, hf⟩ := hf
  refine V_iald h4.1 h4.s h5 dX3_marksUpTo_25 ?_
  refine V_icmp_ge (tgt := 58) dX3_marksUpTo_26 (by decide) (fun h14 => ?_) (fun h14 => ?_)
  · have hf := it_t h14 hf
    obtain ⟨v6, ev6⟩ : ∃ y : Int32, y = x4 + (1 : Int32) := ⟨_, rfl⟩
    refine V_iinc (j := 4) (v := v6) (ls2 := [(4, .int v6), (0, .ref a0), (1, .ref a1), (2, .int x2), (3, .int x3), (5, .int x5)]) dX3_marksUpTo_58 rfl (by rw [ev6]; rfl) (by decide) rfl ?_
    have hf := hf v6 ev6
    refine V_goto (tgt := 5) dX3_marksUpTo_61 (by decide) ?_
    refine V_to [1, 2, 3, 4, 0] rfl ?_
    exact hk5 _ _ _ _ _ _ hf
  · have hf := it_f h14 hf
    refine V_iload_n (j := 3) dX3_marksUpTo_29 rfl rfl ?_
    refine V_aload_n (j := 1) dX3_marksUpTo_30 rfl rfl ?_
    refine V_iload (j := 4) dX3_marksUpTo_31 rfl ?_
    refine V_iload (j := 5) dX3_marksUpTo_33 rfl ?_
    refine V_cVI (ctX10_markAt hn hf) gc_X3_37 rfl h2.1 ⟨_, h2.2, by decide, rfl⟩ ⟨by decide, by decide, Nat.zero_le _, Nat.zero_le _⟩ (Nat.le_of_ble_eq_true rfl) dX3_marksUpTo_35 rfl hn (fun r7 z8 hf => ?_)
    refine V_cSI (ctX10_ageOf hn hf) gc_X3_82 rfl ⟨by decide, by decide, Nat.zero_le _, Nat.zero_le _⟩ (Nat.le_of_ble_eq_true rfl) dX3_marksUpTo_38 rfl hn (fun r9 z10 hf => ?_)
    refine V_iload_n (j := 2) dX3_marksUpTo_41 rfl rfl ?_
    refine V_icmp_gt (tgt := 49) dX3_marksUpTo_42 (by decide) (fun h13 => ?_) (fun h13 => ?_)
    · have hf := it_t h13 hf
      refine V_iconst (v := (0 : Int32)) dX3_marksUpTo_49 (by decide) ?_
      refine V_to [0, 1, 2, 4, 5] rfl ?_
      exact vX3_marksUpTo_J50 hn hk5 hk17 hf
    · have hf := it_f h13 hf
      refine V_iconst (v := (1 : Int32)) dX3_marksUpTo_45 (by decide) ?_
      refine V_goto (tgt := 50) dX3_marksUpTo_46 (by decide) ?_
      refine V_to [0, 1, 2, 4, 5] rfl ?_
      exact vX3_marksUpTo_J50 hn hk5 hk17 hf
set_option maxRecDepth 100000 in
set_option maxHeartbeats 4000000 in
theorem vX3_marksUpTo_L17 {E : gE} {n : Nat} {sh : Nat → Nat × Nat} {P : Int32 → gS → Prop} {k5 : Nat → Nat → Int32 → Int32 → Int32 → gS → Prop} (hn : gOK E n) (hk5 : ∀ (a0 : Nat) (a1 : Nat) (x2 : Int32) (x3 : Int32) (x4 : Int32) (z : gS), k5 a0 a1 x2 x3 x4 z → V E (gR 1 0) gyX3_marksUpTo 0 0 5 [(0, .ref a0), (1, .ref a1), (2, .int x2), (3, .int x3), (4, .int x4)] [] n sh z (kI n sh P)) : ∀ (N : Nat) (a0 : Nat) (a1 : Nat) (x2 : Int32) (x3 : Int32) (x4 : Int32) (x5 : Int32) (z : gS), wX3_marksUpTo_L17 n sh k5 P N a0 a1 x2 x3 x4 x5 z → V E (gR 1 0) gyX3_marksUpTo 0 0 17 [(0, .ref a0), (1, .ref a1), (2, .int x2), (3, .int x3), (4, .int x4), (5, .int x5)] [] n sh z (kI n sh P) := by
  intro N
  induction N with
  | zero => intro a0 a1 x2 x3 x4 x5 z hf; exact False.elim hf
  | succ N ih => intro a0 a1 x2 x3 x4 x5 z hf; exact vX3_marksUpTo_B17 hn hk5 ih hf
def wX3_marksUpTo_B5 (n : Nat) (sh : Nat → Nat × Nat) (k5 : Nat → Nat → Int32 → Int32 → Int32 → gS → Prop) (P : Int32 → gS → Prop) (a0 : Nat) (a1 : Nat) (x2 : Int32) (x3 : Int32) (x4 : Int32) (z : gS) : Prop := (oO n sh a0 4) ∧ (if (gi z a0 10) ≤ x4 then P x3 z else ((∃ N, wX3_marksUpTo_L17 n sh k5 P N a0 a1 x2 x3 x4 (0 : Int32) z)))
def wX3_marksUpTo_L5 (n : Nat) (sh : Nat → Nat × Nat) (P : Int32 → gS → Prop) : Nat → Nat → Nat → Int32 → Int32 → Int32 → gS → Prop
  | 0, _, _, _, _, _, _ => False
  | N + 1, a0, a1, x2, x3, x4, z => wX3_marksUpTo_B5 n sh (wX3_marksUpTo_L5 n sh P N) P a0 a1 x2 x3 x4 z
set_option maxRecDepth 100000 in
set_option maxHeartbeats 4000000 in
theorem vX3_marksUpTo_B5 {E : gE} {n : Nat} {sh : Nat → Nat × Nat} {P : Int32 → gS → Prop} {k5 : Nat → Nat → Int32 → Int32 → Int32 → gS → Prop} {a0 : Nat} {a1 : Nat} {x2 : Int32} {x3 : Int32} {x4 : Int32} {z : gS} (hn : gOK E n) (hk5 : ∀ (a0 : Nat) (a1 : Nat) (x2 : Int32) (x3 : Int32) (x4 : Int32) (z : gS), k5 a0 a1 x2 x3 x4 z → V E (gR 1 0) gyX3_marksUpTo 0 0 5 [(0, .ref a0), (1, .ref a1), (2, .int x2), (3, .int x3), (4, .int x4)] [] n sh z (kI n sh P)) (hf : wX3_marksUpTo_B5 n sh k5 P a0 a1 x2 x3 x4 z) : V E (gR 1 0) gyX3_marksUpTo 0 0 5 [(0, .ref a0), (1, .ref a1), (2, .int x2), (3, .int x3), (4, .int x4)] [] n sh z (kI n sh P) := by
  unfold wX3_marksUpTo_B5 at hf
  refine V_iload (j := 4) dX3_marksUpTo_5 rfl ?_
  refine V_aload_n (j := 0) dX3_marksUpTo_7 rfl rfl ?_
  obtain ⟨h1, hf⟩ := hf
  refine V_getI fl_X3_19 rfl h1.1 h1.2 dX3_marksUpTo_8 ?_
  refine V_icmp_ge (tgt := 64) dX3_marksUpTo_11 (by decide) (fun h15 => ?_) (fun h15 => ?_)
  · have hf := it_t h15 hf
    refine V_iload_n (j := 3) dX3_marksUpTo_64 rfl rfl ?_
    exact V_ireturn dX3_marksUpTo_65 rfl rfl (Nat.le_refl 0) (kI_of hf)
  · have hf := it_f h15 hf
    refine V_iconst (v := (0 : Int32)) dX3_marksUpTo_14 (by decide) ?_
    refine V_istore (ls2 := [(5, .int (0 : Int32)), (0, .ref a0), (1, .ref a1), (2, .int x2), (3, .int x3), (4, .int x4)]) dX3_marksUpTo_15 (by decide) rfl ?_
    obtain ⟨N, hf⟩ := hf
    refine V_to [1, 2, 3, 4, 5, 0] rfl ?_
    exact vX3_marksUpTo_L17 hn hk5 N _ _ _ _ _ _ _ hf
set_option maxRecDepth 100000 in
set_option maxHeartbeats 4000000 in
theorem vX3_marksUpTo_L5 {E : gE} {n : Nat} {sh : Nat → Nat × Nat} {P : Int32 → gS → Prop} (hn : gOK E n) : ∀ (N : Nat) (a0 : Nat) (a1 : Nat) (x2 : Int32) (x3 : Int32) (x4 : Int32) (z : gS), wX3_marksUpTo_L5 n sh P N a0 a1 x2 x3 x4 z → V E (gR 1 0) gyX3_marksUpTo 0 0 5 [(0, .ref a0), (1, .ref a1), (2, .int x2), (3, .int x3), (4, .int x4)] [] n sh z (kI n sh P) := by
  intro N
  induction N with
  | zero => intro a0 a1 x2 x3 x4 z hf; exact False.elim hf
  | succ N ih => intro a0 a1 x2 x3 x4 z hf; exact vX3_marksUpTo_B5 hn ih hf
def wX3_marksUpTo (n : Nat) (sh : Nat → Nat × Nat) (a0 : Nat) (a1 : Nat) (x2 : Int32) (z : gS) (P : Int32 → gS → Prop) : Prop := (∃ N, wX3_marksUpTo_L5 n sh P N a0 a1 x2 (0 : Int32) (0 : Int32) z)
set_option maxRecDepth 100000 in
set_option maxHeartbeats 4000000 in
theorem ctX3_marksUpTo {E : gE} {n : Nat} {sh : Nat → Nat × Nat} {a0 : Nat} {a1 : Nat} {x2 : Int32} {z : gS} {P : Int32 → gS → Prop} (hn : gOK E n) (hf : wX3_marksUpTo n sh a0 a1 x2 z P) : VM E 1 0 gyX3_marksUpTo [.ref a0, .ref a1, .int x2] n sh z (kI n sh P) := by
  unfold wX3_marksUpTo at hf
  refine VM.of (by decide +kernel) (Nat.le_of_ble_eq_true rfl) (fun _ _ _ h => h.2.2) ?_
  show V E (gR 1 0) gyX3_marksUpTo 0 0 0 [(0, .ref a0), (1, .ref a1), (2, .int x2)] [] n sh z (kI n sh P)
  refine V_iconst (v := (0 : Int32)) dX3_marksUpTo_0 (by decide) ?_
  refine V_istore_n (ls2 := [(3, .int (0 : Int32)), (0, .ref a0), (1, .ref a1), (2, .int x2)]) dX3_marksUpTo_1 rfl (by decide) rfl ?_
  refine V_iconst (v := (0 : Int32)) dX3_marksUpTo_2 (by decide) ?_
  refine V_istore (ls2 := [(4, .int (0 : Int32)), (3, .int (0 : Int32)), (0, .ref a0), (1, .ref a1), (2, .int x2)]) dX3_marksUpTo_3 (by decide) rfl ?_
  obtain ⟨N, hf⟩ := hf
  refine V_to [2, 3, 4, 1, 0] rfl ?_
  exact vX3_marksUpTo_L5 hn N _ _ _ _ _ _ hf
def wX11_young (n : Nat) (sh : Nat → Nat × Nat) (a0 : Nat) (x1 : Int32) (z : gS) (P : Int32 → gS → Prop) : Prop := (oO n sh a0 7) ∧ (∃ t2 : Nat, gr z a0 7 = some t2 ∧ (∃ t3 : Nat, gr z a0 1 = some t3 ∧ (wX3_marksUpTo n sh t2 t3 x1 z (fun (r4 : Int32) (z5 : gS) => P r4 z5))))
set_option maxRecDepth 100000 in
set_option maxHeartbeats 4000000 in
theorem ctX11_young {E : gE} {n : Nat} {sh : Nat → Nat × Nat} {a0 : Nat} {x1 : Int32} {z : gS} {P : Int32 → gS → Prop} (hn : gOK E n) (hf : wX11_young n sh a0 x1 z P) : VM E 2 0 gyX11_young [.ref a0, .int x1] n sh z (kI n sh P) := by
  unfold wX11_young at hf
  refine VM.of (by decide +kernel) (Nat.le_of_ble_eq_true rfl) (fun _ _ _ h => h.2.2) ?_
  show V E (gR 2 0) gyX11_young 0 0 0 [(0, .ref a0), (1, .int x1)] [] n sh z (kI n sh P)
  refine V_aload_n (j := 0) dX11_young_0 rfl rfl ?_
  obtain ⟨h1, hf⟩ := hf
  obtain ⟨t2, et2, hf⟩ := hf
  refine V_getR fl_X11_51 rfl h1.1 h1.2 et2 dX11_young_1 ?_
  refine V_aload_n (j := 0) dX11_young_4 rfl rfl ?_
  obtain ⟨t3, et3, hf⟩ := hf
  refine V_getR fl_X11_19 rfl h1.1 h1.2 et3 dX11_young_5 ?_
  refine V_iload_n (j := 1) dX11_young_8 rfl rfl ?_
  refine V_cSI (ctX3_marksUpTo hn hf) gc_X11_258 rfl ⟨by decide, by decide, Nat.zero_le _, Nat.zero_le _⟩ (Nat.le_of_ble_eq_true rfl) dX11_young_9 rfl hn (fun r4 z5 hf => ?_)
  exact V_ireturn dX11_young_12 rfl rfl (Nat.le_refl 0) (kI_of hf)
