def wX3_cellsShownOf_J58 (n : Nat) (sh : Nat → Nat × Nat) (k5 : Nat → Nat → Int32 → Int32 → Int32 → gS → Prop) (k17 : Nat → Nat → Int32 → Int32 → Int32 → Int32 → gS → Prop) (P : Int32 → gS → Prop) (a0 : Nat) (a1 : Nat) (x2 : Int32) (x3 : Int32) (x4 : Int32) (x5 : Int32) (z : gS) : Prop := ∀ v9 : Int32, v9 = x5 + (1 : Int32) → k17 a0 a1 x2 x3 x4 v9 z
set_option maxRecDepth 100000 in
set_option maxHeartbeats 4000000 in
theorem vX3_cellsShownOf_J58 {E : gE} {n : Nat} {sh : Nat → Nat × Nat} {P : Int32 → gS → Prop} {k5 : Nat → Nat → Int32 → Int32 → Int32 → gS → Prop} {k17 : Nat → Nat → Int32 → Int32 → Int32 → Int32 → gS → Prop} {a0 : Nat} {a1 : Nat} {x2 : Int32} {x3 : Int32} {x4 : Int32} {x5 : Int32} {z : gS} (hn : gOK E n) (hk5 : ∀ (a0 : Nat) (a1 : Nat) (x2 : Int32) (x3 : Int32) (x4 : Int32) (z : gS), k5 a0 a1 x2 x3 x4 z → V E (gR 3 0) gyX3_cellsShownOf 0 0 5 [(0, .ref a0), (1, .ref a1), (2, .int x2), (3, .int x3), (4, .int x4)] [] n sh z (kI n sh P)) (hk17 : ∀ (a0 : Nat) (a1 : Nat) (x2 : Int32) (x3 : Int32) (x4 : Int32) (x5 : Int32) (z : gS), k17 a0 a1 x2 x3 x4 x5 z → V E (gR 3 0) gyX3_cellsShownOf 0 0 17 [(0, .ref a0), (1, .ref a1), (2, .int x2), (3, .int x3), (4, .int x4), (5, .int x5)] [] n sh z (kI n sh P)) (hf : wX3_cellsShownOf_J58 n sh k5 k17 P a0 a1 x2 x3 x4 x5 z) : V E (gR 3 0) gyX3_cellsShownOf 0 0 58 [(0, .ref a0), (1, .ref a1), (2, .int x2), (3, .int x3), (4, .int x4), (5, .int x5)] [] n sh z (kI n sh P) := by
  unfold wX3_cellsShownOf_J58 at hf
  obtain ⟨v9, ev9⟩ : ∃ y : Int32, y = x5 + (1 : Int32) := ⟨_, rfl⟩
  refine V_iinc (j := 5) (v := v9) (ls2 := [(5, .int v9), (0, .ref a0), (1, .ref a1), (2, .int x2), (3, .int x3), (4, .int x4)]) dX3_cellsShownOf_58 rfl (by rw [ev9]; rfl) (by decide) rfl ?_
  have hf := hf v9 ev9
  refine V_goto (tgt := 17) dX3_cellsShownOf_61 (by decide) ?_
  refine V_to [1, 2, 3, 4, 5, 0] rfl ?_
  exact hk17 _ _ _ _ _ _ _ hf
def wX3_cellsShownOf_B17 (n : Nat) (sh : Nat → Nat × Nat) (k5 : Nat → Nat → Int32 → Int32 → Int32 → gS → Prop) (k17 : Nat → Nat → Int32 → Int32 → Int32 → Int32 → gS → Prop) (P : Int32 → gS → Prop) (a0 : Nat) (a1 : Nat) (x2 : Int32) (x3 : Int32) (x4 : Int32) (x5 : Int32) (z : gS) : Prop := (oO n sh a1 6) ∧ (∃ t3 : Nat, gr z a1 6 = some t3 ∧ ((oA n sh t3 1) ∧ ((vp_in x4 (sh t3).2) ∧ (if (gi z t3 x4.toNatClampNeg) ≤ x5 then (∀ v6 : Int32, v6 = x4 + (1 : Int32) → k5 a0 a1 x2 x3 v6 z) else (wX3_isShownOf n sh a0 a1 x4 x5 x2 z (fun (r7 : Int32) (z8 : gS) => if r7 = 0 then wX3_cellsShownOf_J58 n sh k5 k17 P a0 a1 x2 x3 x4 x5 z8 else (wX10_markAt n sh a1 x4 x5 z8 (fun (r10 : Int32) (z11 : gS) => wX10_cellOf n sh r10 z11 (fun (r12 : Int32) (z13 : gS) => ∀ v14 : Int32, v14 = (x3 ||| ((1 : Int32) <<< (r12 &&& 31))) → wX3_cellsShownOf_J58 n sh k5 k17 P a0 a1 x2 v14 x4 x5 z13)))))))))
def wX3_cellsShownOf_L17 (n : Nat) (sh : Nat → Nat × Nat) (k5 : Nat → Nat → Int32 → Int32 → Int32 → gS → Prop) (P : Int32 → gS → Prop) : Nat → Nat → Nat → Int32 → Int32 → Int32 → Int32 → gS → Prop
  | 0, _, _, _, _, _, _, _ => False
  | N + 1, a0, a1, x2, x3, x4, x5, z => wX3_cellsShownOf_B17 n sh k5 (wX3_cellsShownOf_L17 n sh k5 P N) P a0 a1 x2 x3 x4 x5 z
set_option maxRecDepth 100000 in
set_option maxHeartbeats 4000000 in
theorem vX3_cellsShownOf_B17 {E : gE} {n : Nat} {sh : Nat → Nat × Nat} {P : Int32 → gS → Prop} {k5 : Nat → Nat → Int32 → Int32 → Int32 → gS → Prop} {k17 : Nat → Nat → Int32 → Int32 → Int32 → Int32 → gS → Prop} {a0 : Nat} {a1 : Nat} {x2 : Int32} {x3 : Int32} {x4 : Int32} {x5 : Int32} {z : gS} (hn : gOK E n) (hk5 : ∀ (a0 : Nat) (a1 : Nat) (x2 : Int32) (x3 : Int32) (x4 : Int32) (z : gS), k5 a0 a1 x2 x3 x4 z → V E (gR 3 0) gyX3_cellsShownOf 0 0 5 [(0, .ref a0), (1, .ref a1), (2, .int x2), (3, .int x3), (4, .int x4)] [] n sh z (kI n sh P)) (hk17 : ∀ (a0 : Nat) (a1 : Nat) (x2 : Int32) (x3 : Int32) (x4 : Int32) (x5 : Int32) (z : gS), k17 a0 a1 x2 x3 x4 x5 z → V E (gR 3 0) gyX3_cellsShownOf 0 0 17 [(0, .ref a0), (1, .ref a1), (2, .int x2), (3, .int x3), (4, .int x4), (5, .int x5)] [] n sh z (kI n sh P)) (hf : wX3_cellsShownOf_B17 n sh k5 k17 P a0 a1 x2 x3 x4 x5 z) : V E (gR 3 0) gyX3_cellsShownOf 0 0 17 [(0, .ref a0), (1, .ref a1), (2, .int x2), (3, .int x3), (4, .int x4), (5, .int x5)] [] n sh z (kI n sh P) := by
  unfold wX3_cellsShownOf_B17 at hf
  refine V_iload (j := 5) dX3_cellsShownOf_17 rfl ?_
  refine V_aload_n (j := 1) dX3_cellsShownOf_19 rfl rfl ?_
  obtain ⟨h2, hf⟩ := hf
  obtain ⟨t3, et3, hf⟩ := hf
  refine V_getR fl_X3_28 rfl h2.1 h2.2 et3 dX3_cellsShownOf_20 ?_
  refine V_iload (j := 4) dX3_cellsShownOf_23 rfl ?_
  obtain ⟨h4, hf⟩ := hf
  obtain ⟨h5, hf⟩ := hf
  refine V_iald h4.1 h4.s h5 dX3_cellsShownOf_25 ?_
  refine V_icmp_ge (tgt := 64) dX3_cellsShownOf_26 (by decide) (fun h16 => ?_) (fun h16 => ?_)
  · have hf := it_t h16 hf
    obtain ⟨v6, ev6⟩ : ∃ y : Int32, y = x4 + (1 : Int32) := ⟨_, rfl⟩
    refine V_iinc (j := 4) (v := v6) (ls2 := [(4, .int v6), (0, .ref a0), (1, .ref a1), (2, .int x2), (3, .int x3), (5, .int x5)]) dX3_cellsShownOf_64 rfl (by rw [ev6]; rfl) (by decide) rfl ?_
    have hf := hf v6 ev6
    refine V_goto (tgt := 5) dX3_cellsShownOf_67 (by decide) ?_
    refine V_to [1, 2, 3, 4, 0] rfl ?_
    exact hk5 _ _ _ _ _ _ hf
  · have hf := it_f h16 hf
    refine V_aload_n (j := 0) dX3_cellsShownOf_29 rfl rfl ?_
    refine V_aload_n (j := 1) dX3_cellsShownOf_30 rfl rfl ?_
    refine V_iload (j := 4) dX3_cellsShownOf_31 rfl ?_
    refine V_iload (j := 5) dX3_cellsShownOf_33 rfl ?_
    refine V_iload_n (j := 2) dX3_cellsShownOf_35 rfl rfl ?_
    refine V_cSI (ctX3_isShownOf hn hf) gc_X3_57 rfl ⟨by decide, by decide, Nat.zero_le _, Nat.zero_le _⟩ (Nat.le_of_ble_eq_true rfl) dX3_cellsShownOf_36 rfl hn (fun r7 z8 hf => ?_)
    refine V_if_eq (tgt := 58) dX3_cellsShownOf_39 (by decide) (fun h15 => ?_) (fun h15 => ?_)
    · have hf := it_t h15 hf
      exact vX3_cellsShownOf_J58 hn hk5 hk17 hf
    · have hf := it_f h15 hf
      refine V_iload_n (j := 3) dX3_cellsShownOf_42 rfl rfl ?_
      refine V_iconst (v := (1 : Int32)) dX3_cellsShownOf_43 (by decide) ?_
      refine V_aload_n (j := 1) dX3_cellsShownOf_44 rfl rfl ?_
      refine V_iload (j := 4) dX3_cellsShownOf_45 rfl ?_
      refine V_iload (j := 5) dX3_cellsShownOf_47 rfl ?_
      refine V_cVI (ctX10_markAt hn hf) gc_X3_37 rfl h2.1 ⟨_, h2.2, by decide, rfl⟩ ⟨by decide, by decide, Nat.zero_le _, Nat.zero_le _⟩ (Nat.le_of_ble_eq_true rfl) dX3_cellsShownOf_49 rfl hn (fun r10 z11 hf => ?_)
      refine V_cSI (ctX10_cellOf hn hf) gc_X3_85 rfl ⟨by decide, by decide, Nat.zero_le _, Nat.zero_le _⟩ (Nat.le_of_ble_eq_true rfl) dX3_cellsShownOf_52 rfl hn (fun r12 z13 hf => ?_)
      refine V_ishl dX3_cellsShownOf_55 ?_
      refine V_ior dX3_cellsShownOf_56 ?_
      refine V_nI (fun v14 ev14 => ?_)
      have hf := hf v14 ev14
      refine V_istore_n (ls2 := [(3, .int v14), (0, .ref a0), (1, .ref a1), (2, .int x2), (4, .int x4), (5, .int x5)]) dX3_cellsShownOf_57 rfl (by decide) rfl ?_
      refine V_to [1, 2, 3, 0, 4, 5] rfl ?_
      exact vX3_cellsShownOf_J58 hn hk5 hk17 hf
set_option maxRecDepth 100000 in
set_option maxHeartbeats 4000000 in
theorem vX3_cellsShownOf_L17 {E : gE} {n : Nat} {sh : Nat → Nat × Nat} {P : Int32 → gS → Prop} {k5 : Nat → Nat → Int32 → Int32 → Int32 → gS → Prop} (hn : gOK E n) (hk5 : ∀ (a0 : Nat) (a1 : Nat) (x2 : Int32) (x3 : Int32) (x4 : Int32) (z : gS), k5 a0 a1 x2 x3 x4 z → V E (gR 3 0) gyX3_cellsShownOf 0 0 5 [(0, .ref a0), (1, .ref a1), (2, .int x2), (3, .int x3), (4, .int x4)] [] n sh z (kI n sh P)) : ∀ (N : Nat) (a0 : Nat) (a1 : Nat) (x2 : Int32) (x3 : Int32) (x4 : Int32) (x5 : Int32) (z : gS), wX3_cellsShownOf_L17 n sh k5 P N a0 a1 x2 x3 x4 x5 z → V E (gR 3 0) gyX3_cellsShownOf 0 0 17 [(0, .ref a0), (1, .ref a1), (2, .int x2), (3, .int x3), (4, .int x4), (5, .int x5)] [] n sh z (kI n sh P) := by
  intro N
  induction N with
  | zero => intro a0 a1 x2 x3 x4 x5 z hf; exact False.elim hf
  | succ N ih => intro a0 a1 x2 x3 x4 x5 z hf; exact vX3_cellsShownOf_B17 hn hk5 ih hf
def wX3_cellsShownOf_B5 (n : Nat) (sh : Nat → Nat × Nat) (k5 : Nat → Nat → Int32 → Int32 → Int32 → gS → Prop) (P : Int32 → gS → Prop) (a0 : Nat) (a1 : Nat) (x2 : Int32) (x3 : Int32) (x4 : Int32) (z : gS) : Prop := (oO n sh a0 4) ∧ (if (gi z a0 10) ≤ x4 then P x3 z else ((∃ N, wX3_cellsShownOf_L17 n sh k5 P N a0 a1 x2 x3 x4 (0 : Int32) z)))
def wX3_cellsShownOf_L5 (n : Nat) (sh : Nat → Nat × Nat) (P : Int32 → gS → Prop) : Nat → Nat → Nat → Int32 → Int32 → Int32 → gS → Prop
  | 0, _, _, _, _, _, _ => False
  | N + 1, a0, a1, x2, x3, x4, z => wX3_cellsShownOf_B5 n sh (wX3_cellsShownOf_L5 n sh P N) P a0 a1 x2 x3 x4 z
set_option maxRecDepth 100000 in
set_option maxHeartbeats 4000000 in
theorem vX3_cellsShownOf_B5 {E : gE} {n : Nat} {sh : Nat → Nat × Nat} {P : Int32 → gS → Prop} {k5 : Nat → Nat → Int32 → Int32 → Int32 → gS → Prop} {a0 : Nat} {a1 : Nat} {x2 : Int32} {x3 : Int32} {x4 : Int32} {z : gS} (hn : gOK E n) (hk5 : ∀ (a0 : Nat) (a1 : Nat) (x2 : Int32) (x3 : Int32) (x4 : Int32) (z : gS), k5 a0 a1 x2 x3 x4 z → V E (gR 3 0) gyX3_cellsShownOf 0 0 5 [(0, .ref a0), (1, .ref a1), (2, .int x2), (3, .int x3), (4, .int x4)] [] n sh z (kI n sh P)) (hf : wX3_cellsShownOf_B5 n sh k5 P a0 a1 x2 x3 x4 z) : V E (gR 3 0) gyX3_cellsShownOf 0 0 5 [(0, .ref a0), (1, .ref a1), (2, .int x2), (3, .int x3), (4, .int x4)] [] n sh z (kI n sh P) := by
  unfold wX3_cellsShownOf_B5 at hf
  refine V_iload (j := 4) dX3_cellsShownOf_5 rfl ?_
  refine V_aload_n (j := 0) dX3_cellsShownOf_7 rfl rfl ?_
  obtain ⟨h1, hf⟩ := hf
  refine V_getI fl_X3_19 rfl h1.1 h1.2 dX3_cellsShownOf_8 ?_
  refine V_icmp_ge (tgt := 70) dX3_cellsShownOf_11 (by decide) (fun h17 => ?_) (fun h17 => ?_)
  · have hf := it_t h17 hf
    refine V_iload_n (j := 3) dX3_cellsShownOf_70 rfl rfl ?_
    exact V_ireturn dX3_cellsShownOf_71 rfl rfl (Nat.le_refl 0) (kI_of hf)
  · have hf := it_f h17 hf
    refine V_iconst (v := (0 : Int32)) dX3_cellsShownOf_14 (by decide) ?_
    refine V_istore (ls2 := [(5, .int (0 : Int32)), (0, .ref a0), (1, .ref a1), (2, .int x2), (3, .int x3), (4, .int x4)]) dX3_cellsShownOf_15 (by decide) rfl ?_
    obtain ⟨N, hf⟩ := hf
    refine V_to [1, 2, 3, 4, 5, 0] rfl ?_
    exact vX3_cellsShownOf_L17 hn hk5 N _ _ _ _ _ _ _ hf
set_option maxRecDepth 100000 in
set_option maxHeartbeats 4000000 in
theorem vX3_cellsShownOf_L5 {E : gE} {n : Nat} {sh : Nat → Nat × Nat} {P : Int32 → gS → Prop} (hn : gOK E n) : ∀ (N : Nat) (a0 : Nat) (a1 : Nat) (x2 : Int32) (x3 : Int32) (x4 : Int32) (z : gS), wX3_cellsShownOf_L5 n sh P N a0 a1 x2 x3 x4 z → V E (gR 3 0) gyX3_cellsShownOf 0 0 5 [(0, .ref a0), (1, .ref a1), (2, .int x2), (3, .int x3), (4, .int x4)] [] n sh z (kI n sh P) := by
  intro N
  induction N with
  | zero => intro a0 a1 x2 x3 x4 z hf; exact False.elim hf
  | succ N ih => intro a0 a1 x2 x3 x4 z hf; exact vX3_cellsShownOf_B5 hn ih hf
def wX3_cellsShownOf (n : Nat) (sh : Nat → Nat × Nat) (a0 : Nat) (a1 : Nat) (x2 : Int32) (z : gS) (P : Int32 → gS → Prop) : Prop := (∃ N, wX3_cellsShownOf_L5 n sh P N a0 a1 x2 (0 : Int32) (0 : Int32) z)
set_option maxRecDepth 100000 in
set_option maxHeartbeats 4000000 in
theorem ctX3_cellsShownOf {E : gE} {n : Nat} {sh : Nat → Nat × Nat} {a0 : Nat} {a1 : Nat} {x2 : Int32} {z : gS} {P : Int32 → gS → Prop} (hn : gOK E n) (hf : wX3_cellsShownOf n sh a0 a1 x2 z P) : VM E 3 0 gyX3_cellsShownOf [.ref a0, .ref a1, .int x2] n sh z (kI n sh P) := by
  unfold wX3_cellsShownOf at hf
  refine VM.of (by decide +kernel) (Nat.le_of_ble_eq_true rfl) (fun _ _ _ h => h.2.2) ?_
  show V E (gR 3 0) gyX3_cellsShownOf 0 0 0 [(0, .ref a0), (1, .ref a1), (2, .int x2)] [] n sh z (kI n sh P)
  refine V_iconst (v := (0 : Int32)) dX3_cellsShownOf_0 (by decide) ?_
  refine V_istore_n (ls2 := [(3, .int (0 : Int32)), (0, .ref a0), (1, .ref a1), (2, .int x2)]) dX3_cellsShownOf_1 rfl (by decide) rfl ?_
  refine V_iconst (v := (0 : Int32)) dX3_cellsShownOf_2 (by decide) ?_
  refine V_istore (ls2 := [(4, .int (0 : Int32)), (3, .int (0 : Int32)), (0, .ref a0), (1, .ref a1), (2, .int x2)]) dX3_cellsShownOf_3 (by decide) rfl ?_
  obtain ⟨N, hf⟩ := hf
  refine V_to [2, 3, 4, 1, 0] rfl ?_
  exact vX3_cellsShownOf_L5 hn N _ _ _ _ _ _ hf
def wX11_trail (n : Nat) (sh : Nat → Nat × Nat) (a0 : Nat) (x1 : Int32) (z : gS) (P : Int32 → gS → Prop) : Prop := (oO n sh a0 7) ∧ (∃ t2 : Nat, gr z a0 7 = some t2 ∧ ((oO n sh t2 4) ∧ (wX7_hasPerson n sh t2 x1 z (fun (r3 : Int32) (z4 : gS) => if r3 = 0 then P (-1 : Int32) z4 else (∃ t6 : Nat, gr z4 a0 7 = some t6 ∧ (∃ t7 : Nat, gr z4 a0 1 = some t7 ∧ (wX3_cellsShownOf n sh t6 t7 x1 z4 (fun (r8 : Int32) (z9 : gS) => P r8 z9))))))))
set_option maxRecDepth 100000 in
set_option maxHeartbeats 4000000 in
theorem ctX11_trail {E : gE} {n : Nat} {sh : Nat → Nat × Nat} {a0 : Nat} {x1 : Int32} {z : gS} {P : Int32 → gS → Prop} (hn : gOK E n) (hf : wX11_trail n sh a0 x1 z P) : VM E 4 0 gyX11_trail [.ref a0, .int x1] n sh z (kI n sh P) := by
  unfold wX11_trail at hf
  refine VM.of (by decide +kernel) (Nat.le_of_ble_eq_true rfl) (fun _ _ _ h => h.2.2) ?_
  show V E (gR 4 0) gyX11_trail 0 0 0 [(0, .ref a0), (1, .int x1)] [] n sh z (kI n sh P)
  refine V_aload_n (j := 0) dX11_trail_0 rfl rfl ?_
  obtain ⟨h1, hf⟩ := hf
  obtain ⟨t2, et2, hf⟩ := hf
  refine V_getR fl_X11_51 rfl h1.1 h1.2 et2 dX11_trail_1 ?_
  refine V_iload_n (j := 1) dX11_trail_4 rfl rfl ?_
  obtain ⟨h5, hf⟩ := hf
  refine V_cVI (ctX7_hasPerson hn hf) gc_X11_149 rfl h5.1 ⟨_, h5.2, by decide, rfl⟩ ⟨by decide, by decide, Nat.zero_le _, Nat.zero_le _⟩ (Nat.le_of_ble_eq_true rfl) dX11_trail_5 rfl hn (fun r3 z4 hf => ?_)
  refine V_if_eq (tgt := 26) dX11_trail_8 (by decide) (fun h10 => ?_) (fun h10 => ?_)
  · have hf := it_t h10 hf
    refine V_iconst (v := (-1 : Int32)) dX11_trail_26 (by decide) ?_
    exact V_ireturn dX11_trail_27 rfl rfl (Nat.le_refl 0) (kI_of hf)
  · have hf := it_f h10 hf
    refine V_aload_n (j := 0) dX11_trail_11 rfl rfl ?_
    obtain ⟨t6, et6, hf⟩ := hf
    refine V_getR fl_X11_51 rfl h1.1 h1.2 et6 dX11_trail_12 ?_
    refine V_aload_n (j := 0) dX11_trail_15 rfl rfl ?_
    obtain ⟨t7, et7, hf⟩ := hf
    refine V_getR fl_X11_19 rfl h1.1 h1.2 et7 dX11_trail_16 ?_
    refine V_iload_n (j := 1) dX11_trail_19 rfl rfl ?_
    refine V_cSI (ctX3_cellsShownOf hn hf) gc_X11_261 rfl ⟨by decide, by decide, Nat.zero_le _, Nat.zero_le _⟩ (Nat.le_of_ble_eq_true rfl) dX11_trail_20 rfl hn (fun r8 z9 hf => ?_)
    refine V_goto (tgt := 27) dX11_trail_23 (by decide) ?_
    exact V_ireturn dX11_trail_27 rfl rfl (Nat.le_refl 0) (kI_of hf)
def wX3_newestCellOf_J96 (n : Nat) (sh : Nat → Nat × Nat) (k8 : Nat → Nat → Int32 → Int32 → Int32 → Int32 → gS → Prop) (k28 : Nat → Nat → Int32 → Int32 → Int32 → Int32 → Int32 → gS → Prop) (P : Int32 → gS → Prop) (a0 : Nat) (a1 : Nat) (x2 : Int32) (x3 : Int32) (x4 : Int32) (x5 : Int32) (x6 : Int32) (z : gS) : Prop := ∀ v11 : Int32, v11 = x6 + (-1 : Int32) → k28 a0 a1 x2 x3 x4 x5 v11 z
set_option maxRecDepth 100000 in
set_option maxHeartbeats 4000000 in
theorem vX3_newestCellOf_J96 {E : gE} {n : Nat} {sh : Nat → Nat × Nat} {P : Int32 → gS → Prop} {k8 : Nat → Nat → Int32 → Int32 → Int32 → Int32 → gS → Prop} {k28 : Nat → Nat → Int32 → Int32 → Int32 → Int32 → Int32 → gS → Prop} {a0 : Nat} {a1 : Nat} {x2 : Int32} {x3 : Int32} {x4 : Int32} {x5 : Int32} {x6 : Int32} {z : gS} (hn : gOK E n) (hk8 : ∀ (a0 : Nat) (a1 : Nat) (x2 : Int32) (x3 : Int32) (x4 : Int32) (x5 : Int32) (z : gS), k8 a0 a1 x2 x3 x4 x5 z → V E (gR 3 0) gyX3_newestCellOf 0 0 8 [(0, .ref a0), (1, .ref a1), (2, .int x2), (3, .int x3), (4, .int x4), (5, .int x5)] [] n sh z (kI n sh P)) (hk28 : ∀ (a0 : Nat) (a1 : Nat) (x2 : Int32) (x3 : Int32) (x4 : Int32) (x5 : Int32) (x6 : Int32) (z : gS), k28 a0 a1 x2 x3 x4 x5 x6 z → V E (gR 3 0) gyX3_newestCellOf 0 0 28 [(0, .ref a0), (1, .ref a1), (2, .int x2), (3, .int x3), (4, .int x4), (5, .int x5), (6, .int x6)] [] n sh z (kI n sh P)) (hf : wX3_newestCellOf_J96 n sh k8 k28 P a0 a1 x2 x3 x4 x5 x6 z) : V E (gR 3 0) gyX3_newestCellOf 0 0 96 [(0, .ref a0), (1, .ref a1), (2, .int x2), (3, .int x3), (4, .int x4), (5, .int x5), (6, .int x6)] [] n sh z (kI n sh P) := by
  unfold wX3_newestCellOf_J96 at hf
  obtain ⟨v11, ev11⟩ : ∃ y : Int32, y = x6 + (-1 : Int32) := ⟨_, rfl⟩
  refine V_iinc (j := 6) (v := v11) (ls2 := [(6, .int v11), (0, .ref a0), (1, .ref a1), (2, .int x2), (3, .int x3), (4, .int x4), (5, .int x5)]) dX3_newestCellOf_96 rfl (by rw [ev11]; rfl) (by decide) rfl ?_
  have hf := hf v11 ev11
  refine V_goto (tgt := 28) dX3_newestCellOf_99 (by decide) ?_
  refine V_to [1, 2, 3, 4, 5, 6, 0] rfl ?_
  exact hk28 _ _ _ _ _ _ _ _ hf
def wX3_newestCellOf_J63 (n : Nat) (sh : Nat → Nat × Nat) (k8 : Nat → Nat → Int32 → Int32 → Int32 → Int32 → gS → Prop) (k28 : Nat → Nat → Int32 → Int32 → Int32 → Int32 → Int32 → gS → Prop) (P : Int32 → gS → Prop) (a0 : Nat) (a1 : Nat) (x2 : Int32) (x3 : Int32) (x4 : Int32) (x5 : Int32) (x6 : Int32) (x7 : Int32) (s0 : Int32) (z : gS) : Prop := if s0 = 0 then wX3_newestCellOf_J96 n sh k8 k28 P a0 a1 x2 x3 x4 x5 x6 z else (wX3_isShownOf n sh a0 a1 x5 x6 x2 z (fun (r12 : Int32) (z13 : gS) => if r12 = 0 then wX3_newestCellOf_J96 n sh k8 k28 P a0 a1 x2 x3 x4 x5 x6 z13 else (wX10_cellOf n sh x7 z13 (fun (r14 : Int32) (z15 : gS) => wX10_ageOf n sh x7 z15 (fun (r16 : Int32) (z17 : gS) => wX3_newestCellOf_J96 n sh k8 k28 P a0 a1 x2 r14 r16 x5 x6 z17)))))
set_option maxRecDepth 100000 in
set_option maxHeartbeats 4000000 in
theorem vX3_newestCellOf_J63 {E : gE} {n : Nat} {sh : Nat → Nat × Nat} {P : Int32 → gS → Prop} {k8 : Nat → Nat → Int32 → Int32 → Int32 → Int32 → gS → Prop} {k28 : Nat → Nat → Int32 → Int32 → Int32 → Int32 → Int32 → gS → Prop} {a0 : Nat} {a1 : Nat} {x2 : Int32} {x3 : Int32} {x4 : Int32} {x5 : Int32} {x6 : Int32} {x7 : Int32} {s0 : Int32} {z : gS} (hn : gOK E n) (hk8 : ∀ (a0 : Nat) (a1 : Nat) (x2 : Int32) (x3 : Int32) (x4 : Int32) (x5 : Int32) (z : gS), k8 a0 a1 x2 x3 x4 x5 z → V E (gR 3 0) gyX3_newestCellOf 0 0 8 [(0, .ref a0), (1, .ref a1), (2, .int x2), (3, .int x3), (4, .int x4), (5, .int x5)] [] n sh z (kI n sh P)) (hk28 : ∀ (a0 : Nat) (a1 : Nat) (x2 : Int32) (x3 : Int32) (x4 : Int32) (x5 : Int32) (x6 : Int32) (z : gS), k28 a0 a1 x2 x3 x4 x5 x6 z → V E (gR 3 0) gyX3_newestCellOf 0 0 28 [(0, .ref a0), (1, .ref a1), (2, .int x2), (3, .int x3), (4, .int x4), (5, .int x5), (6, .int x6)] [] n sh z (kI n sh P)) (hf : wX3_newestCellOf_J63 n sh k8 k28 P a0 a1 x2 x3 x4 x5 x6 x7 s0 z) : V E (gR 3 0) gyX3_newestCellOf 0 0 63 [(0, .ref a0), (1, .ref a1), (2, .int x2), (3, .int x3), (4, .int x4), (5, .int x5), (6, .int x6), (7, .int x7)] [.int s0] n sh z (kI n sh P) := by
  unfold wX3_newestCellOf_J63 at hf
  refine V_istore (ls2 := [(8, .int s0), (0, .ref a0), (1, .ref a1), (2, .int x2), (3, .int x3), (4, .int x4), (5, .int x5), (6, .int x6), (7, .int x7)]) dX3_newestCellOf_63 (by decide) rfl ?_
  refine V_iload (j := 0) dX3_newestCellOf_65 rfl ?_
  refine V_if_eq (tgt := 96) dX3_newestCellOf_67 (by decide) (fun h19 => ?_) (fun h19 => ?_)
  · have hf := it_t h19 hf
    refine V_to [1, 2, 3, 4, 5, 6, 7] rfl ?_
    exact vX3_newestCellOf_J96 hn hk8 hk28 hf
  · have hf := it_f h19 hf
    refine V_aload_n (j := 1) dX3_newestCellOf_70 rfl rfl ?_
    refine V_aload_n (j := 2) dX3_newestCellOf_71 rfl rfl ?_
    refine V_iload (j := 6) dX3_newestCellOf_72 rfl ?_
    refine V_iload (j := 7) dX3_newestCellOf_74 rfl ?_
    refine V_iload_n (j := 3) dX3_newestCellOf_76 rfl rfl ?_
    refine V_cSI (ctX3_isShownOf hn hf) gc_X3_57 rfl ⟨by decide, by decide, Nat.zero_le _, Nat.zero_le _⟩ (Nat.le_of_ble_eq_true rfl) dX3_newestCellOf_77 rfl hn (fun r12 z13 hf => ?_)
    refine V_if_eq (tgt := 96) dX3_newestCellOf_80 (by decide) (fun h18 => ?_) (fun h18 => ?_)
    · have hf := it_t h18 hf
      refine V_to [1, 2, 3, 4, 5, 6, 7] rfl ?_
      exact vX3_newestCellOf_J96 hn hk8 hk28 hf
    · have hf := it_f h18 hf
      refine V_iload (j := 8) dX3_newestCellOf_83 rfl ?_
      refine V_cSI (ctX10_cellOf hn hf) gc_X3_85 rfl ⟨by decide, by decide, Nat.zero_le _, Nat.zero_le _⟩ (Nat.le_of_ble_eq_true rfl) dX3_newestCellOf_85 rfl hn (fun r14 z15 hf => ?_)
      refine V_istore_n (ls2 := [(3, .int r14), (8, .int s0), (0, .ref a0), (1, .ref a1), (2, .int x2), (4, .int x4), (5, .int x5), (6, .int x6), (7, .int x7)]) dX3_newestCellOf_88 rfl (by decide) rfl ?_
      refine V_iload (j := 8) dX3_newestCellOf_89 rfl ?_
      refine V_cSI (ctX10_ageOf hn hf) gc_X3_82 rfl ⟨by decide, by decide, Nat.zero_le _, Nat.zero_le _⟩ (Nat.le_of_ble_eq_true rfl) dX3_newestCellOf_91 rfl hn (fun r16 z17 hf => ?_)
      refine V_istore (ls2 := [(4, .int r16), (3, .int r14), (8, .int s0), (0, .ref a0), (1, .ref a1), (2, .int x2), (5, .int x5), (6, .int x6), (7, .int x7)]) dX3_newestCellOf_94 (by decide) rfl ?_
      refine V_to [3, 4, 5, 1, 0, 6, 7] rfl ?_
      exact vX3_newestCellOf_J96 hn hk8 hk28 hf
def wX3_newestCellOf_J58 (n : Nat) (sh : Nat → Nat × Nat) (k8 : Nat → Nat → Int32 → Int32 → Int32 → Int32 → gS → Prop) (k28 : Nat → Nat → Int32 → Int32 → Int32 → Int32 → Int32 → gS → Prop) (P : Int32 → gS → Prop) (a0 : Nat) (a1 : Nat) (x2 : Int32) (x3 : Int32) (x4 : Int32) (x5 : Int32) (x6 : Int32) (x7 : Int32) (z : gS) : Prop := wX3_newestCellOf_J63 n sh k8 k28 P a0 a1 x2 x3 x4 x5 x6 x7 (1 : Int32) z
set_option maxRecDepth 100000 in
set_option maxHeartbeats 4000000 in
theorem vX3_newestCellOf_J58 {E : gE} {n : Nat} {sh : Nat → Nat × Nat} {P : Int32 → gS → Prop} {k8 : Nat → Nat → Int32 → Int32 → Int32 → Int32 → gS → Prop} {k28 : Nat → Nat → Int32 → Int32 → Int32 → Int32 → Int32 → gS → Prop} {a0 : Nat} {a1 : Nat} {x2 : Int32} {x3 : Int32} {x4 : Int32} {x5 : Int32} {x6 : Int32} {x7 : Int32} {z : gS} (hn : gOK E n) (hk8 : ∀ (a0 : Nat) (a1 : Nat) (x2 : Int32) (x3 : Int32) (x4 : Int32) (x5 : Int32) (z : gS), k8 a0 a1 x2 x3 x4 x5 z → V E (gR 3 0) gyX3_newestCellOf 0 0 8 [(0, .ref a0), (1, .ref a1), (2, .int x2), (3, .int x3), (4, .int x4), (5, .int x5)] [] n sh z (kI n sh P)) (hk28 : ∀ (a0 : Nat) (a1 : Nat) (x2 : Int32) (x3 : Int32) (x4 : Int32) (x5 : Int32) (x6 : Int32) (z : gS), k28 a0 a1 x2 x3 x4 x5 x6 z → V E (gR 3 0) gyX3_newestCellOf 0 0 28 [(0, .ref a0), (1, .ref a1), (2, .int x2), (3, .int x3), (4, .int x4), (5, .int x5), (6, .int x6)] [] n sh z (kI n sh P)) (hf : wX3_newestCellOf_J58 n sh k8 k28 P a0 a1 x2 x3 x4 x5 x6 x7 z) : V E (gR 3 0) gyX3_newestCellOf 0 0 58 [(0, .ref a0), (1, .ref a1), (2, .int x2), (3, .int x3), (4, .int x4), (5, .int x5), (6, .int x6), (7, .int x7)] [] n sh z (kI n sh P) := by
  unfold wX3_newestCellOf_J58 at hf
  refine V_iconst (v := (1 : Int32)) dX3_newestCellOf_58 (by decide) ?_
  refine V_goto (tgt := 63) dX3_newestCellOf_59 (by decide) ?_
  exact vX3_newestCellOf_J63 hn hk8 hk28 hf
def wX3_newestCellOf_B28 (n : Nat) (sh : Nat → Nat × Nat) (k8 : Nat → Nat → Int32 → Int32 → Int32 → Int32 → gS → Prop) (k28 : Nat → Nat → Int32 → Int32 → Int32 → Int32 → Int32 → gS → Prop) (P : Int32 → gS → Prop) (a0 : Nat) (a1 : Nat) (x2 : Int32) (x3 : Int32) (x4 : Int32) (x5 : Int32) (x6 : Int32) (z : gS) : Prop := if x6 < 0 then (∀ v7 : Int32, v7 = x5 + (1 : Int32) → k8 a0 a1 x2 x3 x4 v7 z) else ((oO n sh a1 6) ∧ (wX10_markAt n sh a1 x5 x6 z (fun (r8 : Int32) (z9 : gS) => if x3 = (-1 : Int32) then wX3_newestCellOf_J58 n sh k8 k28 P a0 a1 x2 x3 x4 x5 x6 r8 z9 else (wX10_ageOf n sh r8 z9 (fun (r20 : Int32) (z21 : gS) => if x4 ≤ r20 then wX3_newestCellOf_J63 n sh k8 k28 P a0 a1 x2 x3 x4 x5 x6 r8 (0 : Int32) z21 else wX3_newestCellOf_J58 n sh k8 k28 P a0 a1 x2 x3 x4 x5 x6 r8 z21)))))
def wX3_newestCellOf_L28 (n : Nat) (sh : Nat → Nat × Nat) (k8 : Nat → Nat → Int32 → Int32 → Int32 → Int32 → gS → Prop) (P : Int32 → gS → Prop) : Nat → Nat → Nat → Int32 → Int32 → Int32 → Int32 → Int32 → gS → Prop
  | 0, _, _, _, _, _, _, _, _ => False
  | N + 1, a0, a1, x2, x3, x4, x5, x6, z => wX3_newestCellOf_B28 n sh k8 (wX3_newestCellOf_L28 n sh k8 P N) P a0 a1 x2 x3 x4 x5 x6 z
set_option maxRecDepth 100000 in
set_option maxHeartbeats 4000000 in
theorem vX3_newestCellOf_B28 {E : gE} {n : Nat} {sh : Nat → Nat × Nat} {P : Int32 → gS → Prop} {k8 : Nat → Nat → Int32 → Int32 → Int32 → Int32 → gS → Prop} {k28 : Nat → Nat → Int32 → Int32 → Int32 → Int32 → Int32 → gS → Prop} {a0 : Nat} {a1 : Nat} {x2 : Int32} {x3 : Int32} {x4 : Int32} {x5 : Int32} {x6 : Int32} {z : gS} (hn : gOK E n) (hk8 : ∀ (a0 : Nat) (a1 : Nat) (x2 : Int32) (x3 : Int32) (x4 : Int32) (x5 : Int32) (z : gS), k8 a0 a1 x2 x3 x4 x5 z → V E (gR 3 0) gyX3_newestCellOf 0 0 8 [(0, .ref a0), (1, .ref a1), (2, .int x2), (3, .int x3), (4, .int x4), (5, .int x5)] [] n sh z (kI n sh P)) (hk28 : ∀ (a0 : Nat) (a1 : Nat) (x2 : Int32) (x3 : Int32) (x4 : Int32) (x5 : Int32) (x6 : Int32) (z : gS), k28 a0 a1 x2 x3 x4 x5 x6 z → V E (gR 3 0) gyX3_newestCellOf 0 0 28 [(0, .ref a0), (1, .ref a1), (2, .int x2), (3, .int x3), (4, .int x4), (5, .int x5), (6, .int x6)] [] n sh z (kI n sh P)) (hf : wX3_newestCellOf_B28 n sh k8 k28 P a0 a1 x2 x3 x4 x5 x6 z) : V E (gR 3 0) gyX3_newestCellOf 0 0 28 [(0, .ref a0), (1, .ref a1), (2, .int x2), (3, .int x3), (4, .int x4), (5, .int x5), (6, .int x6)] [] n sh z (kI n sh P) := by
  unfold wX3_newestCellOf_B28 at hf
  refine V_iload (j := 6) dX3_newestCellOf_28 rfl ?_
  refine V_if_lt (tgt := 102) dX3_newestCellOf_30 (by decide) (fun h24 => ?_) (fun h24 => ?_)
  · have hf := it_t h24 hf
    obtain ⟨v7, ev7⟩ : ∃ y : Int32, y = x5 + (1 : Int32) := ⟨_, rfl⟩
    refine V_iinc (j := 5) (v := v7) (ls2 := [(5, .int v7), (0, .ref a0), (1, .ref a1), (2, .int x2), (3, .int x3), (4, .int x4), (6, .int x6)]) dX3_newestCellOf_102 rfl (by rw [ev7]; rfl) (by decide) rfl ?_
    have hf := hf v7 ev7
    refine V_goto (tgt := 8) dX3_newestCellOf_105 (by decide) ?_
    refine V_to [1, 2, 3, 4, 5, 0] rfl ?_
    exact hk8 _ _ _ _ _ _ _ hf
  · have hf := it_f h24 hf
    refine V_aload_n (j := 1) dX3_newestCellOf_33 rfl rfl ?_
    refine V_iload (j := 5) dX3_newestCellOf_34 rfl ?_
    refine V_iload (j := 6) dX3_newestCellOf_36 rfl ?_
    obtain ⟨h10, hf⟩ := hf
    refine V_cVI (ctX10_markAt hn hf) gc_X3_37 rfl h10.1 ⟨_, h10.2, by decide, rfl⟩ ⟨by decide, by decide, Nat.zero_le _, Nat.zero_le _⟩ (Nat.le_of_ble_eq_true rfl) dX3_newestCellOf_38 rfl hn (fun r8 z9 hf => ?_)
    refine V_istore (ls2 := [(7, .int r8), (0, .ref a0), (1, .ref a1), (2, .int x2), (3, .int x3), (4, .int x4), (5, .int x5), (6, .int x6)]) dX3_newestCellOf_41 (by decide) rfl ?_
    refine V_iload_n (j := 4) dX3_newestCellOf_43 rfl rfl ?_
    refine V_iconst (v := (-1 : Int32)) dX3_newestCellOf_44 (by decide) ?_
    refine V_icmp_eq (tgt := 58) dX3_newestCellOf_45 (by decide) (fun h23 => ?_) (fun h23 => ?_)
    · have hf := it_t h23 hf
      refine V_to [1, 2, 3, 4, 5, 6, 7, 0] rfl ?_
      exact vX3_newestCellOf_J58 hn hk8 hk28 hf
    · have hf := it_f h23 hf
      refine V_iload (j := 0) dX3_newestCellOf_48 rfl ?_
      refine V_cSI (ctX10_ageOf hn hf) gc_X3_82 rfl ⟨by decide, by decide, Nat.zero_le _, Nat.zero_le _⟩ (Nat.le_of_ble_eq_true rfl) dX3_newestCellOf_50 rfl hn (fun r20 z21 hf => ?_)
      refine V_iload (j := 5) dX3_newestCellOf_53 rfl ?_
      refine V_icmp_ge (tgt := 62) dX3_newestCellOf_55 (by decide) (fun h22 => ?_) (fun h22 => ?_)
      · have hf := it_t h22 hf
        refine V_iconst (v := (0 : Int32)) dX3_newestCellOf_62 (by decide) ?_
        refine V_to [1, 2, 3, 4, 5, 6, 7, 0] rfl ?_
        exact vX3_newestCellOf_J63 hn hk8 hk28 hf
      · have hf := it_f h22 hf
        refine V_to [1, 2, 3, 4, 5, 6, 7, 0] rfl ?_
        exact vX3_newestCellOf_J58 hn hk8 hk28 hf
set_option maxRecDepth 100000 in
set_option maxHeartbeats 4000000 in
theorem vX3_newestCellOf_L28 {E : gE} {n : Nat} {sh : Nat → Nat × Nat} {P : Int32 → gS → Prop} {k8 : Nat → Nat → Int32 → Int32 → Int32 → Int32 → gS → Prop} (hn : gOK E n) (hk8 : ∀ (a0 : Nat) (a1 : Nat) (x2 : Int32) (x3 : Int32) (x4 : Int32) (x5 : Int32) (z : gS), k8 a0 a1 x2 x3 x4 x5 z → V E (gR 3 0) gyX3_newestCellOf 0 0 8 [(0, .ref a0), (1, .ref a1), (2, .int x2), (3, .int x3), (4, .int x4), (5, .int x5)] [] n sh z (kI n sh P)) : ∀ (N : Nat) (a0 : Nat) (a1 : Nat) (x2 : Int32) (x3 : Int32) (x4 : Int32) (x5 : Int32) (x6 : Int32) (z : gS), wX3_newestCellOf_L28 n sh k8 P N a0 a1 x2 x3 x4 x5 x6 z → V E (gR 3 0) gyX3_newestCellOf 0 0 28 [(0, .ref a0), (1, .ref a1), (2, .int x2), (3, .int x3), (4, .int x4), (5, .int x5), (6, .int x6)] [] n sh z (kI n sh P) := by
  intro N
  induction N with
  | zero => intro a0 a1 x2 x3 x4 x5 x6 z hf; exact False.elim hf
  | succ N ih => intro a0 a1 x2 x3 x4 x5 x6 z hf; exact vX3_newestCellOf_B28 hn hk8 ih hf
def wX3_newestCellOf_B8 (n : Nat) (sh : Nat → Nat × Nat) (k8 : Nat → Nat → Int32 → Int32 → Int32 → Int32 → gS → Prop) (P : Int32 → gS → Prop) (a0 : Nat) (a1 : Nat) (x2 : Int32) (x3 : Int32) (x4 : Int32) (x5 : Int32) (z : gS) : Prop := (oO n sh a0 4) ∧ (if (gi z a0 10) ≤ x5 then P x3 z else ((oO n sh a1 6) ∧ (∃ t3 : Nat, gr z a1 6 = some t3 ∧ ((oA n sh t3 1) ∧ ((vp_in x5 (sh t3).2) ∧ (∀ v6 : Int32, v6 = ((gi z t3 x5.toNatClampNeg) - (1 : Int32)) → ((∃ N, wX3_newestCellOf_L28 n sh k8 P N a0 a1 x2 x3 x4 x5 v6 z))))))))
def wX3_newestCellOf_L8 (n : Nat) (sh : Nat → Nat × Nat) (P : Int32 → gS → Prop) : Nat → Nat → Nat → Int32 → Int32 → Int32 → Int32 → gS → Prop
  | 0, _, _, _, _, _, _, _ => False
  | N + 1, a0, a1, x2, x3, x4, x5, z => wX3_newestCellOf_B8 n sh (wX3_newestCellOf_L8 n sh P N) P a0 a1 x2 x3 x4 x5 z
set_option maxRecDepth 100000 in
set_option maxHeartbeats 4000000 in
theorem vX3_newestCellOf_B8 {E : gE} {n : Nat} {sh : Nat → Nat × Nat} {P : Int32 → gS → Prop} {k8 : Nat → Nat → Int32 → Int32 → Int32 → Int32 → gS → Prop} {a0 : Nat} {a1 : Nat} {x2 : Int32} {x3 : Int32} {x4 : Int32} {x5 : Int32} {z : gS} (hn : gOK E n) (hk8 : ∀ (a0 : Nat) (a1 : Nat) (x2 : Int32) (x3 : Int32) (x4 : Int32) (x5 : Int32) (z : gS), k8 a0 a1 x2 x3 x4 x5 z → V E (gR 3 0) gyX3_newestCellOf 0 0 8 [(0, .ref a0), (1, .ref a1), (2, .int x2), (3, .int x3), (4, .int x4), (5, .int x5)] [] n sh z (kI n sh P)) (hf : wX3_newestCellOf_B8 n sh k8 P a0 a1 x2 x3 x4 x5 z) : V E (gR 3 0) gyX3_newestCellOf 0 0 8 [(0, .ref a0), (1, .ref a1), (2, .int x2), (3, .int x3), (4, .int x4), (5, .int x5)] [] n sh z (kI n sh P) := by
  unfold wX3_newestCellOf_B8 at hf
  refine V_iload (j := 5) dX3_newestCellOf_8 rfl ?_
  refine V_aload_n (j := 0) dX3_newestCellOf_10 rfl rfl ?_
  obtain ⟨h1, hf⟩ := hf
  refine V_getI fl_X3_19 rfl h1.1 h1.2 dX3_newestCellOf_11 ?_
  refine V_icmp_ge (tgt := 108) dX3_newestCellOf_14 (by decide) (fun h25 => ?_) (fun h25 => ?_)
  · have hf := it_t h25 hf
    refine V_iload_n (j := 3) dX3_newestCellOf_108 rfl rfl ?_
    exact V_ireturn dX3_newestCellOf_109 rfl rfl (Nat.le_refl 0) (kI_of hf)
  · have hf := it_f h25 hf
    refine V_aload_n (j := 1) dX3_newestCellOf_17 rfl rfl ?_
    obtain ⟨h2, hf⟩ := hf
    obtain ⟨t3, et3, hf⟩ := hf
    refine V_getR fl_X3_28 rfl h2.1 h2.2 et3 dX3_newestCellOf_18 ?_
    refine V_iload (j := 5) dX3_newestCellOf_21 rfl ?_
    obtain ⟨h4, hf⟩ := hf
    obtain ⟨h5, hf⟩ := hf
    refine V_iald h4.1 h4.s h5 dX3_newestCellOf_23 ?_
    refine V_iconst (v := (1 : Int32)) dX3_newestCellOf_24 (by decide) ?_
    refine V_isub dX3_newestCellOf_25 ?_
    refine V_nI (fun v6 ev6 => ?_)
    have hf := hf v6 ev6
    refine V_istore (ls2 := [(6, .int v6), (0, .ref a0), (1, .ref a1), (2, .int x2), (3, .int x3), (4, .int x4), (5, .int x5)]) dX3_newestCellOf_26 (by decide) rfl ?_
    obtain ⟨N, hf⟩ := hf
    refine V_to [1, 2, 3, 4, 5, 6, 0] rfl ?_
    exact vX3_newestCellOf_L28 hn hk8 N _ _ _ _ _ _ _ _ hf
set_option maxRecDepth 100000 in
set_option maxHeartbeats 4000000 in
theorem vX3_newestCellOf_L8 {E : gE} {n : Nat} {sh : Nat → Nat × Nat} {P : Int32 → gS → Prop} (hn : gOK E n) : ∀ (N : Nat) (a0 : Nat) (a1 : Nat) (x2 : Int32) (x3 : Int32) (x4 : Int32) (x5 : Int32) (z : gS), wX3_newestCellOf_L8 n sh P N a0 a1 x2 x3 x4 x5 z → V E (gR 3 0) gyX3_newestCellOf 0 0 8 [(0, .ref a0), (1, .ref a1), (2, .int x2), (3, .int x3), (4, .int x4), (5, .int x5)] [] n sh z (kI n sh P) := by
  intro N
  induction N with
  | zero => intro a0 a1 x2 x3 x4 x5 z hf; exact False.elim hf
  | succ N ih => intro a0 a1 x2 x3 x4 x5 z hf; exact vX3_newestCellOf_B8 hn ih hf
def wX3_newestCellOf (n : Nat) (sh : Nat → Nat × Nat) (a0 : Nat) (a1 : Nat) (x2 : Int32) (z : gS) (P : Int32 → gS → Prop) : Prop := (∃ N, wX3_newestCellOf_L8 n sh P N a0 a1 x2 (-1 : Int32) (0 : Int32) (0 : Int32) z)
set_option maxRecDepth 100000 in
set_option maxHeartbeats 4000000 in
theorem ctX3_newestCellOf {E : gE} {n : Nat} {sh : Nat → Nat × Nat} {a0 : Nat} {a1 : Nat} {x2 : Int32} {z : gS} {P : Int32 → gS → Prop} (hn : gOK E n) (hf : wX3_newestCellOf n sh a0 a1 x2 z P) : VM E 3 0 gyX3_newestCellOf [.ref a0, .ref a1, .int x2] n sh z (kI n sh P) := by
  unfold wX3_newestCellOf at hf
  refine VM.of (by decide +kernel) (Nat.le_of_ble_eq_true rfl) (fun _ _ _ h => h.2.2) ?_
  show V E (gR 3 0) gyX3_newestCellOf 0 0 0 [(0, .ref a0), (1, .ref a1), (2, .int x2)] [] n sh z (kI n sh P)
  refine V_iconst (v := (-1 : Int32)) dX3_newestCellOf_0 (by decide) ?_
  refine V_istore_n (ls2 := [(3, .int (-1 : Int32)), (0, .ref a0), (1, .ref a1), (2, .int x2)]) dX3_newestCellOf_1 rfl (by decide) rfl ?_
  refine V_iconst (v := (0 : Int32)) dX3_newestCellOf_2 (by decide) ?_
  refine V_istore (ls2 := [(4, .int (0 : Int32)), (3, .int (-1 : Int32)), (0, .ref a0), (1, .ref a1), (2, .int x2)]) dX3_newestCellOf_3 (by decide) rfl ?_
  refine V_iconst (v := (0 : Int32)) dX3_newestCellOf_5 (by decide) ?_
  refine V_istore (ls2 := [(5, .int (0 : Int32)), (4, .int (0 : Int32)), (3, .int (-1 : Int32)), (0, .ref a0), (1, .ref a1), (2, .int x2)]) dX3_newestCellOf_6 (by decide) rfl ?_
  obtain ⟨N, hf⟩ := hf
  refine V_to [3, 4, 5, 2, 1, 0] rfl ?_
  exact vX3_newestCellOf_L8 hn N _ _ _ _ _ _ _ hf
def wX11_last (n : Nat) (sh : Nat → Nat × Nat) (a0 : Nat) (x1 : Int32) (z : gS) (P : Int32 → gS → Prop) : Prop := (oO n sh a0 7) ∧ (∃ t2 : Nat, gr z a0 7 = some t2 ∧ ((oO n sh t2 4) ∧ (wX7_hasPerson n sh t2 x1 z (fun (r3 : Int32) (z4 : gS) => if r3 = 0 then P (-1 : Int32) z4 else (∃ t6 : Nat, gr z4 a0 7 = some t6 ∧ (∃ t7 : Nat, gr z4 a0 1 = some t7 ∧ (wX3_newestCellOf n sh t6 t7 x1 z4 (fun (r8 : Int32) (z9 : gS) => P r8 z9))))))))
set_option maxRecDepth 100000 in
set_option maxHeartbeats 4000000 in
theorem ctX11_last {E : gE} {n : Nat} {sh : Nat → Nat × Nat} {a0 : Nat} {x1 : Int32} {z : gS} {P : Int32 → gS → Prop} (hn : gOK E n) (hf : wX11_last n sh a0 x1 z P) : VM E 4 0 gyX11_last [.ref a0, .int x1] n sh z (kI n sh P) := by
  unfold wX11_last at hf
  refine VM.of (by decide +kernel) (Nat.le_of_ble_eq_true rfl) (fun _ _ _ h => h.2.2) ?_
  show V E (gR 4 0) gyX11_last 0 0 0 [(0, .ref a0), (1, .int x1)] [] n sh z (kI n sh P)
  refine V_aload_n (j := 0) dX11_last_0 rfl rfl ?_
  obtain ⟨h1, hf⟩ := hf
  obtain ⟨t2, et2, hf⟩ := hf
  refine V_getR fl_X11_51 rfl h1.1 h1.2 et2 dX11_last_1 ?_
  refine V_iload_n (j := 1) dX11_last_4 rfl rfl ?_
  obtain ⟨h5, hf⟩ := hf
  refine V_cVI (ctX7_hasPerson hn hf) gc_X11_149 rfl h5.1 ⟨_, h5.2, by decide, rfl⟩ ⟨by decide, by decide, Nat.zero_le _, Nat.zero_le _⟩ (Nat.le_of_ble_eq_true rfl) dX11_last_5 rfl hn (fun r3 z4 hf => ?_)
  refine V_if_eq (tgt := 26) dX11_last_8 (by decide) (fun h10 => ?_) (fun h10 => ?_)
  · have hf := it_t h10 hf
    refine V_iconst (v := (-1 : Int32)) dX11_last_26 (by decide) ?_
    exact V_ireturn dX11_last_27 rfl rfl (Nat.le_refl 0) (kI_of hf)
  · have hf := it_f h10 hf
    refine V_aload_n (j := 0) dX11_last_11 rfl rfl ?_
    obtain ⟨t6, et6, hf⟩ := hf
    refine V_getR fl_X11_51 rfl h1.1 h1.2 et6 dX11_last_12 ?_
    refine V_aload_n (j := 0) dX11_last_15 rfl rfl ?_
    obtain ⟨t7, et7, hf⟩ := hf
    refine V_getR fl_X11_19 rfl h1.1 h1.2 et7 dX11_last_16 ?_
    refine V_iload_n (j := 1) dX11_last_19 rfl rfl ?_
    refine V_cSI (ctX3_newestCellOf hn hf) gc_X11_264 rfl ⟨by decide, by decide, Nat.zero_le _, Nat.zero_le _⟩ (Nat.le_of_ble_eq_true rfl) dX11_last_20 rfl hn (fun r8 z9 hf => ?_)
    refine V_goto (tgt := 27) dX11_last_23 (by decide) ?_
    exact V_ireturn dX11_last_27 rfl rfl (Nat.le_refl 0) (kI_of hf)
def wX3_mostShamed_J37 (n : Nat) (sh : Nat → Nat × Nat) (k7 : Nat → Nat → Int32 → Int32 → Int32 → gS → Prop) (P : Int32 → gS → Prop) (a0 : Nat) (a1 : Nat) (x2 : Int32) (x3 : Int32) (x4 : Int32) (z : gS) : Prop := ∀ v4 : Int32, v4 = x4 + (1 : Int32) → k7 a0 a1 x2 x3 v4 z
set_option maxRecDepth 100000 in
set_option maxHeartbeats 4000000 in
theorem vX3_mostShamed_J37 {E : gE} {n : Nat} {sh : Nat → Nat × Nat} {P : Int32 → gS → Prop} {k7 : Nat → Nat → Int32 → Int32 → Int32 → gS → Prop} {a0 : Nat} {a1 : Nat} {x2 : Int32} {x3 : Int32} {x4 : Int32} {z : gS} (hn : gOK E n) (hk7 : ∀ (a0 : Nat) (a1 : Nat) (x2 : Int32) (x3 : Int32) (x4 : Int32) (z : gS), k7 a0 a1 x2 x3 x4 z → V E (gR 5 0) gyX3_mostShamed 0 0 7 [(0, .ref a0), (1, .ref a1), (2, .int x2), (3, .int x3), (4, .int x4)] [] n sh z (kI n sh P)) (hf : wX3_mostShamed_J37 n sh k7 P a0 a1 x2 x3 x4 z) : V E (gR 5 0) gyX3_mostShamed 0 0 37 [(0, .ref a0), (1, .ref a1), (2, .int x2), (3, .int x3), (4, .int x4)] [] n sh z (kI n sh P) := by
  unfold wX3_mostShamed_J37 at hf
  obtain ⟨v4, ev4⟩ : ∃ y : Int32, y = x4 + (1 : Int32) := ⟨_, rfl⟩
  refine V_iinc (j := 4) (v := v4) (ls2 := [(4, .int v4), (0, .ref a0), (1, .ref a1), (2, .int x2), (3, .int x3)]) dX3_mostShamed_37 rfl (by rw [ev4]; rfl) (by decide) rfl ?_
  have hf := hf v4 ev4
  refine V_goto (tgt := 7) dX3_mostShamed_40 (by decide) ?_
  refine V_to [1, 2, 3, 4, 0] rfl ?_
  exact hk7 _ _ _ _ _ _ hf
def wX3_mostShamed_B7 (n : Nat) (sh : Nat → Nat × Nat) (k7 : Nat → Nat → Int32 → Int32 → Int32 → gS → Prop) (P : Int32 → gS → Prop) (a0 : Nat) (a1 : Nat) (x2 : Int32) (x3 : Int32) (x4 : Int32) (z : gS) : Prop := (oO n sh a0 4) ∧ (if (gi z a0 11) ≤ x4 then P x2 z else (wX3_shameOf n sh a0 a1 x4 z (fun (r2 : Int32) (z3 : gS) => if r2 ≤ x3 then wX3_mostShamed_J37 n sh k7 P a0 a1 x2 x3 x4 z3 else wX3_mostShamed_J37 n sh k7 P a0 a1 x4 r2 x4 z3)))
def wX3_mostShamed_L7 (n : Nat) (sh : Nat → Nat × Nat) (P : Int32 → gS → Prop) : Nat → Nat → Nat → Int32 → Int32 → Int32 → gS → Prop
  | 0, _, _, _, _, _, _ => False
  | N + 1, a0, a1, x2, x3, x4, z => wX3_mostShamed_B7 n sh (wX3_mostShamed_L7 n sh P N) P a0 a1 x2 x3 x4 z
set_option maxRecDepth 100000 in
set_option maxHeartbeats 4000000 in
theorem vX3_mostShamed_B7 {E : gE} {n : Nat} {sh : Nat → Nat × Nat} {P : Int32 → gS → Prop} {k7 : Nat → Nat → Int32 → Int32 → Int32 → gS → Prop} {a0 : Nat} {a1 : Nat} {x2 : Int32} {x3 : Int32} {x4 : Int32} {z : gS} (hn : gOK E n) (hk7 : ∀ (a0 : Nat) (a1 : Nat) (x2 : Int32) (x3 : Int32) (x4 : Int32) (z : gS), k7 a0 a1 x2 x3 x4 z → V E (gR 5 0) gyX3_mostShamed 0 0 7 [(0, .ref a0), (1, .ref a1), (2, .int x2), (3, .int x3), (4, .int x4)] [] n sh z (kI n sh P)) (hf : wX3_mostShamed_B7 n sh k7 P a0 a1 x2 x3 x4 z) : V E (gR 5 0) gyX3_mostShamed 0 0 7 [(0, .ref a0), (1, .ref a1), (2, .int x2), (3, .int x3), (4, .int x4)] [] n sh z (kI n sh P) := by
  unfold wX3_mostShamed_B7 at hf
  refine V_iload (j := 4) dX3_mostShamed_7 rfl ?_
  refine V_aload_n (j := 0) dX3_mostShamed_9 rfl rfl ?_
  obtain ⟨h1, hf⟩ := hf
  refine V_getI fl_X3_88 rfl h1.1 h1.2 dX3_mostShamed_10 ?_
  refine V_icmp_ge (tgt := 43) dX3_mostShamed_13 (by decide) (fun h6 => ?_) (fun h6 => ?_)
  · have hf := it_t h6 hf
    refine V_iload_n (j := 2) dX3_mostShamed_43 rfl rfl ?_
    exact V_ireturn dX3_mostShamed_44 rfl rfl (Nat.le_refl 0) (kI_of hf)
  · have hf := it_f h6 hf
    refine V_aload_n (j := 0) dX3_mostShamed_16 rfl rfl ?_
    refine V_aload_n (j := 1) dX3_mostShamed_17 rfl rfl ?_
    refine V_iload (j := 4) dX3_mostShamed_18 rfl ?_
    refine V_cSI (ctX3_shameOf hn hf) gc_X3_91 rfl ⟨by decide, by decide, Nat.zero_le _, Nat.zero_le _⟩ (Nat.le_of_ble_eq_true rfl) dX3_mostShamed_20 rfl hn (fun r2 z3 hf => ?_)
    refine V_istore (ls2 := [(5, .int r2), (0, .ref a0), (1, .ref a1), (2, .int x2), (3, .int x3), (4, .int x4)]) dX3_mostShamed_23 (by decide) rfl ?_
    refine V_iload (j := 0) dX3_mostShamed_25 rfl ?_
    refine V_iload_n (j := 4) dX3_mostShamed_27 rfl rfl ?_
    refine V_icmp_le (tgt := 37) dX3_mostShamed_28 (by decide) (fun h5 => ?_) (fun h5 => ?_)
    · have hf := it_t h5 hf
      refine V_to [1, 2, 3, 4, 5] rfl ?_
      exact vX3_mostShamed_J37 hn hk7 hf
    · have hf := it_f h5 hf
      refine V_iload (j := 5) dX3_mostShamed_31 rfl ?_
      refine V_istore_n (ls2 := [(2, .int x4), (5, .int r2), (0, .ref a0), (1, .ref a1), (3, .int x3), (4, .int x4)]) dX3_mostShamed_33 rfl (by decide) rfl ?_
      refine V_iload (j := 1) dX3_mostShamed_34 rfl ?_
      refine V_istore_n (ls2 := [(3, .int r2), (2, .int x4), (5, .int r2), (0, .ref a0), (1, .ref a1), (4, .int x4)]) dX3_mostShamed_36 rfl (by decide) rfl ?_
      refine V_to [3, 4, 1, 0, 5] rfl ?_
      exact vX3_mostShamed_J37 hn hk7 hf
set_option maxRecDepth 100000 in
set_option maxHeartbeats 4000000 in
theorem vX3_mostShamed_L7 {E : gE} {n : Nat} {sh : Nat → Nat × Nat} {P : Int32 → gS → Prop} (hn : gOK E n) : ∀ (N : Nat) (a0 : Nat) (a1 : Nat) (x2 : Int32) (x3 : Int32) (x4 : Int32) (z : gS), wX3_mostShamed_L7 n sh P N a0 a1 x2 x3 x4 z → V E (gR 5 0) gyX3_mostShamed 0 0 7 [(0, .ref a0), (1, .ref a1), (2, .int x2), (3, .int x3), (4, .int x4)] [] n sh z (kI n sh P) := by
  intro N
  induction N with
  | zero => intro a0 a1 x2 x3 x4 z hf; exact False.elim hf
  | succ N ih => intro a0 a1 x2 x3 x4 z hf; exact vX3_mostShamed_B7 hn ih hf
def wX3_mostShamed (n : Nat) (sh : Nat → Nat × Nat) (a0 : Nat) (a1 : Nat) (z : gS) (P : Int32 → gS → Prop) : Prop := (∃ N, wX3_mostShamed_L7 n sh P N a0 a1 (-1 : Int32) (0 : Int32) (0 : Int32) z)
set_option maxRecDepth 100000 in
set_option maxHeartbeats 4000000 in
theorem ctX3_mostShamed {E : gE} {n : Nat} {sh : Nat → Nat × Nat} {a0 : Nat} {a1 : Nat} {z : gS} {P : Int32 → gS → Prop} (hn : gOK E n) (hf : wX3_mostShamed n sh a0 a1 z P) : VM E 5 0 gyX3_mostShamed [.ref a0, .ref a1] n sh z (kI n sh P) := by
  unfold wX3_mostShamed at hf
  refine VM.of (by decide +kernel) (Nat.le_of_ble_eq_true rfl) (fun _ _ _ h => h.2.2) ?_
  show V E (gR 5 0) gyX3_mostShamed 0 0 0 [(0, .ref a0), (1, .ref a1)] [] n sh z (kI n sh P)
  refine V_iconst (v := (-1 : Int32)) dX3_mostShamed_0 (by decide) ?_
  refine V_istore_n (ls2 := [(2, .int (-1 : Int32)), (0, .ref a0), (1, .ref a1)]) dX3_mostShamed_1 rfl (by decide) rfl ?_
  refine V_iconst (v := (0 : Int32)) dX3_mostShamed_2 (by decide) ?_
  refine V_istore_n (ls2 := [(3, .int (0 : Int32)), (2, .int (-1 : Int32)), (0, .ref a0), (1, .ref a1)]) dX3_mostShamed_3 rfl (by decide) rfl ?_
  refine V_iconst (v := (0 : Int32)) dX3_mostShamed_4 (by decide) ?_
  refine V_istore (ls2 := [(4, .int (0 : Int32)), (3, .int (0 : Int32)), (2, .int (-1 : Int32)), (0, .ref a0), (1, .ref a1)]) dX3_mostShamed_5 (by decide) rfl ?_
  obtain ⟨N, hf⟩ := hf
  refine V_to [3, 4, 2, 1, 0] rfl ?_
  exact vX3_mostShamed_L7 hn N _ _ _ _ _ _ hf
def wX11_worst (n : Nat) (sh : Nat → Nat × Nat) (a0 : Nat) (z : gS) (P : Int32 → gS → Prop) : Prop := (oO n sh a0 7) ∧ (∃ t2 : Nat, gr z a0 7 = some t2 ∧ (∃ t3 : Nat, gr z a0 1 = some t3 ∧ (wX3_mostShamed n sh t2 t3 z (fun (r4 : Int32) (z5 : gS) => P r4 z5))))
set_option maxRecDepth 100000 in
set_option maxHeartbeats 4000000 in
theorem ctX11_worst {E : gE} {n : Nat} {sh : Nat → Nat × Nat} {a0 : Nat} {z : gS} {P : Int32 → gS → Prop} (hn : gOK E n) (hf : wX11_worst n sh a0 z P) : VM E 6 0 gyX11_worst [.ref a0] n sh z (kI n sh P) := by
  unfold wX11_worst at hf
  refine VM.of (by decide +kernel) (Nat.le_of_ble_eq_true rfl) (fun _ _ _ h => h.2.2) ?_
  show V E (gR 6 0) gyX11_worst 0 0 0 [(0, .ref a0)] [] n sh z (kI n sh P)
  refine V_aload_n (j := 0) dX11_worst_0 rfl rfl ?_
  obtain ⟨h1, hf⟩ := hf
  obtain ⟨t2, et2, hf⟩ := hf
  refine V_getR fl_X11_51 rfl h1.1 h1.2 et2 dX11_worst_1 ?_
  refine V_aload_n (j := 0) dX11_worst_4 rfl rfl ?_
  obtain ⟨t3, et3, hf⟩ := hf
  refine V_getR fl_X11_19 rfl h1.1 h1.2 et3 dX11_worst_5 ?_
  refine V_cSI (ctX3_mostShamed hn hf) gc_X11_267 rfl ⟨by decide, by decide, Nat.zero_le _, Nat.zero_le _⟩ (Nat.le_of_ble_eq_true rfl) dX11_worst_8 rfl hn (fun r4 z5 hf => ?_)
  exact V_ireturn dX11_worst_11 rfl rfl (Nat.le_refl 0) (kI_of hf)
def wX3_paneOfGreatestAge_J56 (n : Nat) (sh : Nat → Nat × Nat) (k7 : Nat → Nat → Int32 → Int32 → Int32 → gS → Prop) (k19 : Nat → Nat → Int32 → Int32 → Int32 → Int32 → gS → Prop) (P : Int32 → gS → Prop) (a0 : Nat) (a1 : Nat) (x2 : Int32) (x3 : Int32) (x4 : Int32) (x5 : Int32) (z : gS) : Prop := ∀ v11 : Int32, v11 = x5 + (1 : Int32) → k19 a0 a1 x2 x3 x4 v11 z
set_option maxRecDepth 100000 in
set_option maxHeartbeats 4000000 in
theorem vX3_paneOfGreatestAge_J56 {E : gE} {n : Nat} {sh : Nat → Nat × Nat} {P : Int32 → gS → Prop} {k7 : Nat → Nat → Int32 → Int32 → Int32 → gS → Prop} {k19 : Nat → Nat → Int32 → Int32 → Int32 → Int32 → gS → Prop} {a0 : Nat} {a1 : Nat} {x2 : Int32} {x3 : Int32} {x4 : Int32} {x5 : Int32} {z : gS} (hn : gOK E n) (hk7 : ∀ (a0 : Nat) (a1 : Nat) (x2 : Int32) (x3 : Int32) (x4 : Int32) (z : gS), k7 a0 a1 x2 x3 x4 z → V E (gR 1 0) gyX3_paneOfGreatestAge 0 0 7 [(0, .ref a0), (1, .ref a1), (2, .int x2), (3, .int x3), (4, .int x4)] [] n sh z (kI n sh P)) (hk19 : ∀ (a0 : Nat) (a1 : Nat) (x2 : Int32) (x3 : Int32) (x4 : Int32) (x5 : Int32) (z : gS), k19 a0 a1 x2 x3 x4 x5 z → V E (gR 1 0) gyX3_paneOfGreatestAge 0 0 19 [(0, .ref a0), (1, .ref a1), (2, .int x2), (3, .int x3), (4, .int x4), (5, .int x5)] [] n sh z (kI n sh P)) (hf : wX3_paneOfGreatestAge_J56 n sh k7 k19 P a0 a1 x2 x3 x4 x5 z) : V E (gR 1 0) gyX3_paneOfGreatestAge 0 0 56 [(0, .ref a0), (1, .ref a1), (2, .int x2), (3, .int x3), (4, .int x4), (5, .int x5)] [] n sh z (kI n sh P) := by
  unfold wX3_paneOfGreatestAge_J56 at hf
  obtain ⟨v11, ev11⟩ : ∃ y : Int32, y = x5 + (1 : Int32) := ⟨_, rfl⟩
  refine V_iinc (j := 5) (v := v11) (ls2 := [(5, .int v11), (0, .ref a0), (1, .ref a1), (2, .int x2), (3, .int x3), (4, .int x4)]) dX3_paneOfGreatestAge_56 rfl (by rw [ev11]; rfl) (by decide) rfl ?_
  have hf := hf v11 ev11
  refine V_goto (tgt := 19) dX3_paneOfGreatestAge_59 (by decide) ?_
  refine V_to [1, 2, 3, 4, 5, 0] rfl ?_
  exact hk19 _ _ _ _ _ _ _ hf
def wX3_paneOfGreatestAge_B19 (n : Nat) (sh : Nat → Nat × Nat) (k7 : Nat → Nat → Int32 → Int32 → Int32 → gS → Prop) (k19 : Nat → Nat → Int32 → Int32 → Int32 → Int32 → gS → Prop) (P : Int32 → gS → Prop) (a0 : Nat) (a1 : Nat) (x2 : Int32) (x3 : Int32) (x4 : Int32) (x5 : Int32) (z : gS) : Prop := (oO n sh a1 6) ∧ (∃ t3 : Nat, gr z a1 6 = some t3 ∧ ((oA n sh t3 1) ∧ ((vp_in x4 (sh t3).2) ∧ (if (gi z t3 x4.toNatClampNeg) ≤ x5 then (∀ v6 : Int32, v6 = x4 + (1 : Int32) → k7 a0 a1 x2 x3 v6 z) else (wX10_markAt n sh a1 x4 x5 z (fun (r7 : Int32) (z8 : gS) => wX10_ageOf n sh r7 z8 (fun (r9 : Int32) (z10 : gS) => if r9 ≤ x3 then wX3_paneOfGreatestAge_J56 n sh k7 k19 P a0 a1 x2 x3 x4 x5 z10 else wX3_paneOfGreatestAge_J56 n sh k7 k19 P a0 a1 x4 r9 x4 x5 z10)))))))
def wX3_paneOfGreatestAge_L19 (n : Nat) (sh : Nat → Nat × Nat) (k7 : Nat → Nat → Int32 → Int32 → Int32 → gS → Prop) (P : Int32 → gS → Prop) : Nat → Nat → Nat → Int32 → Int32 → Int32 → Int32 → gS → Prop
  | 0, _, _, _, _, _, _, _ => False
  | N + 1, a0, a1, x2, x3, x4, x5, z => wX3_paneOfGreatestAge_B19 n sh k7 (wX3_paneOfGreatestAge_L19 n sh k7 P N) P a0 a1 x2 x3 x4 x5 z
set_option maxRecDepth 100000 in
set_option maxHeartbeats 4000000 in
theorem vX3_paneOfGreatestAge_B19 {E : gE} {n : Nat} {sh : Nat → Nat × Nat} {P : Int32 → gS → Prop} {k7 : Nat → Nat → Int32 → Int32 → Int32 → gS → Prop} {k19 : Nat → Nat → Int32 → Int32 → Int32 → Int32 → gS → Prop} {a0 : Nat} {a1 : Nat} {x2 : Int32} {x3 : Int32} {x4 : Int32} {x5 : Int32} {z : gS} (hn : gOK E n) (hk7 : ∀ (a0 : Nat) (a1 : Nat) (x2 : Int32) (x3 : Int32) (x4 : Int32) (z : gS), k7 a0 a1 x2 x3 x4 z → V E (gR 1 0) gyX3_paneOfGreatestAge 0 0 7 [(0, .ref a0), (1, .ref a1), (2, .int x2), (3, .int x3), (4, .int x4)] [] n sh z (kI n sh P)) (hk19 : ∀ (a0 : Nat) (a1 : Nat) (x2 : Int32) (x3 : Int32) (x4 : Int32) (x5 : Int32) (z : gS), k19 a0 a1 x2 x3 x4 x5 z → V E (gR 1 0) gyX3_paneOfGreatestAge 0 0 19 [(0, .ref a0), (1, .ref a1), (2, .int x2), (3, .int x3), (4, .int x4), (5, .int x5)] [] n sh z (kI n sh P)) (hf : wX3_paneOfGreatestAge_B19 n sh k7 k19 P a0 a1 x2 x3 x4 x5 z) : V E (gR 1 0) gyX3_paneOfGreatestAge 0 0 19 [(0, .ref a0), (1, .ref a1), (2, .int x2), (3, .int x3), (4, .int x4), (5, .int x5)] [] n sh z (kI n sh P) := by
  unfold wX3_paneOfGreatestAge_B19 at hf
  refine V_iload (j := 5) dX3_paneOfGreatestAge_19 rfl ?_
  refine V_aload_n (j := 1) dX3_paneOfGreatestAge_21 rfl rfl ?_
  obtain ⟨h2, hf⟩ := hf
  obtain ⟨t3, et3, hf⟩ := hf
  refine V_getR fl_X3_28 rfl h2.1 h2.2 et3 dX3_paneOfGreatestAge_22 ?_
  refine V_iload (j := 4) dX3_paneOfGreatestAge_25 rfl ?_
  obtain ⟨h4, hf⟩ := hf
  obtain ⟨h5, hf⟩ := hf
  refine V_iald h4.1 h4.s h5 dX3_paneOfGreatestAge_27 ?_
  refine V_icmp_ge (tgt := 62) dX3_paneOfGreatestAge_28 (by decide) (fun h13 => ?_) (fun h13 => ?_)
  · have hf := it_t h13 hf
    obtain ⟨v6, ev6⟩ : ∃ y : Int32, y = x4 + (1 : Int32) := ⟨_, rfl⟩
    refine V_iinc (j := 4) (v := v6) (ls2 := [(4, .int v6), (0, .ref a0), (1, .ref a1), (2, .int x2), (3, .int x3), (5, .int x5)]) dX3_paneOfGreatestAge_62 rfl (by rw [ev6]; rfl) (by decide) rfl ?_
    have hf := hf v6 ev6
    refine V_goto (tgt := 7) dX3_paneOfGreatestAge_65 (by decide) ?_
    refine V_to [1, 2, 3, 4, 0] rfl ?_
    exact hk7 _ _ _ _ _ _ hf
  · have hf := it_f h13 hf
    refine V_aload_n (j := 1) dX3_paneOfGreatestAge_31 rfl rfl ?_
    refine V_iload (j := 4) dX3_paneOfGreatestAge_32 rfl ?_
    refine V_iload (j := 5) dX3_paneOfGreatestAge_34 rfl ?_
    refine V_cVI (ctX10_markAt hn hf) gc_X3_37 rfl h2.1 ⟨_, h2.2, by decide, rfl⟩ ⟨by decide, by decide, Nat.zero_le _, Nat.zero_le _⟩ (Nat.le_of_ble_eq_true rfl) dX3_paneOfGreatestAge_36 rfl hn (fun r7 z8 hf => ?_)
    refine V_cSI (ctX10_ageOf hn hf) gc_X3_82 rfl ⟨by decide, by decide, Nat.zero_le _, Nat.zero_le _⟩ (Nat.le_of_ble_eq_true rfl) dX3_paneOfGreatestAge_39 rfl hn (fun r9 z10 hf => ?_)
    refine V_istore (ls2 := [(6, .int r9), (0, .ref a0), (1, .ref a1), (2, .int x2), (3, .int x3), (4, .int x4), (5, .int x5)]) dX3_paneOfGreatestAge_42 (by decide) rfl ?_
    refine V_iload (j := 0) dX3_paneOfGreatestAge_44 rfl ?_
    refine V_iload_n (j := 4) dX3_paneOfGreatestAge_46 rfl rfl ?_
    refine V_icmp_le (tgt := 56) dX3_paneOfGreatestAge_47 (by decide) (fun h12 => ?_) (fun h12 => ?_)
    · have hf := it_t h12 hf
      refine V_to [1, 2, 3, 4, 5, 6] rfl ?_
      exact vX3_paneOfGreatestAge_J56 hn hk7 hk19 hf
    · have hf := it_f h12 hf
      refine V_iload (j := 5) dX3_paneOfGreatestAge_50 rfl ?_
      refine V_istore_n (ls2 := [(2, .int x4), (6, .int r9), (0, .ref a0), (1, .ref a1), (3, .int x3), (4, .int x4), (5, .int x5)]) dX3_paneOfGreatestAge_52 rfl (by decide) rfl ?_
      refine V_iload (j := 1) dX3_paneOfGreatestAge_53 rfl ?_
      refine V_istore_n (ls2 := [(3, .int r9), (2, .int x4), (6, .int r9), (0, .ref a0), (1, .ref a1), (4, .int x4), (5, .int x5)]) dX3_paneOfGreatestAge_55 rfl (by decide) rfl ?_
      refine V_to [3, 4, 1, 0, 5, 6] rfl ?_
      exact vX3_paneOfGreatestAge_J56 hn hk7 hk19 hf
set_option maxRecDepth 100000 in
set_option maxHeartbeats 4000000 in
theorem vX3_paneOfGreatestAge_L19 {E : gE} {n : Nat} {sh : Nat → Nat × Nat} {P : Int32 → gS → Prop} {k7 : Nat → Nat → Int32 → Int32 → Int32 → gS → Prop} (hn : gOK E n) (hk7 : ∀ (a0 : Nat) (a1 : Nat) (x2 : Int32) (x3 : Int32) (x4 : Int32) (z : gS), k7 a0 a1 x2 x3 x4 z → V E (gR 1 0) gyX3_paneOfGreatestAge 0 0 7 [(0, .ref a0), (1, .ref a1), (2, .int x2), (3, .int x3), (4, .int x4)] [] n sh z (kI n sh P)) : ∀ (N : Nat) (a0 : Nat) (a1 : Nat) (x2 : Int32) (x3 : Int32) (x4 : Int32) (x5 : Int32) (z : gS), wX3_paneOfGreatestAge_L19 n sh k7 P N a0 a1 x2 x3 x4 x5 z → V E (gR 1 0) gyX3_paneOfGreatestAge 0 0 19 [(0, .ref a0), (1, .ref a1), (2, .int x2), (3, .int x3), (4, .int x4), (5, .int x5)] [] n sh z (kI n sh P) := by
  intro N
  induction N with
  | zero => intro a0 a1 x2 x3 x4 x5 z hf; exact False.elim hf
  | succ N ih => intro a0 a1 x2 x3 x4 x5 z hf; exact vX3_paneOfGreatestAge_B19 hn hk7 ih hf
def wX3_paneOfGreatestAge_B7 (n : Nat) (sh : Nat → Nat × Nat) (k7 : Nat → Nat → Int32 → Int32 → Int32 → gS → Prop) (P : Int32 → gS → Prop) (a0 : Nat) (a1 : Nat) (x2 : Int32) (x3 : Int32) (x4 : Int32) (z : gS) : Prop := (oO n sh a0 4) ∧ (if (gi z a0 10) ≤ x4 then P x2 z else ((∃ N, wX3_paneOfGreatestAge_L19 n sh k7 P N a0 a1 x2 x3 x4 (0 : Int32) z)))
def wX3_paneOfGreatestAge_L7 (n : Nat) (sh : Nat → Nat × Nat) (P : Int32 → gS → Prop) : Nat → Nat → Nat → Int32 → Int32 → Int32 → gS → Prop
  | 0, _, _, _, _, _, _ => False
  | N + 1, a0, a1, x2, x3, x4, z => wX3_paneOfGreatestAge_B7 n sh (wX3_paneOfGreatestAge_L7 n sh P N) P a0 a1 x2 x3 x4 z
set_option maxRecDepth 100000 in
set_option maxHeartbeats 4000000 in
theorem vX3_paneOfGreatestAge_B7 {E : gE} {n : Nat} {sh : Nat → Nat × Nat} {P : Int32 → gS → Prop} {k7 : Nat → Nat → Int32 → Int32 → Int32 → gS → Prop} {a0 : Nat} {a1 : Nat} {x2 : Int32} {x3 : Int32} {x4 : Int32} {z : gS} (hn : gOK E n) (hk7 : ∀ (a0 : Nat) (a1 : Nat) (x2 : Int32) (x3 : Int32) (x4 : Int32) (z : gS), k7 a0 a1 x2 x3 x4 z → V E (gR 1 0) gyX3_paneOfGreatestAge 0 0 7 [(0, .ref a0), (1, .ref a1), (2, .int x2), (3, .int x3), (4, .int x4)] [] n sh z (kI n sh P)) (hf : wX3_paneOfGreatestAge_B7 n sh k7 P a0 a1 x2 x3 x4 z) : V E (gR 1 0) gyX3_paneOfGreatestAge 0 0 7 [(0, .ref a0), (1, .ref a1), (2, .int x2), (3, .int x3), (4, .int x4)] [] n sh z (kI n sh P) := by
  unfold wX3_paneOfGreatestAge_B7 at hf
  refine V_iload (j := 4) dX3_paneOfGreatestAge_7 rfl ?_
  refine V_aload_n (j := 0) dX3_paneOfGreatestAge_9 rfl rfl ?_
  obtain ⟨h1, hf⟩ := hf
  refine V_getI fl_X3_19 rfl h1.1 h1.2 dX3_paneOfGreatestAge_10 ?_
  refine V_icmp_ge (tgt := 68) dX3_paneOfGreatestAge_13 (by decide) (fun h14 => ?_) (fun h14 => ?_)
  · have hf := it_t h14 hf
    refine V_iload_n (j := 2) dX3_paneOfGreatestAge_68 rfl rfl ?_
    exact V_ireturn dX3_paneOfGreatestAge_69 rfl rfl (Nat.le_refl 0) (kI_of hf)
  · have hf := it_f h14 hf
    refine V_iconst (v := (0 : Int32)) dX3_paneOfGreatestAge_16 (by decide) ?_
    refine V_istore (ls2 := [(5, .int (0 : Int32)), (0, .ref a0), (1, .ref a1), (2, .int x2), (3, .int x3), (4, .int x4)]) dX3_paneOfGreatestAge_17 (by decide) rfl ?_
    obtain ⟨N, hf⟩ := hf
    refine V_to [1, 2, 3, 4, 5, 0] rfl ?_
    exact vX3_paneOfGreatestAge_L19 hn hk7 N _ _ _ _ _ _ _ hf
set_option maxRecDepth 100000 in
set_option maxHeartbeats 4000000 in
theorem vX3_paneOfGreatestAge_L7 {E : gE} {n : Nat} {sh : Nat → Nat × Nat} {P : Int32 → gS → Prop} (hn : gOK E n) : ∀ (N : Nat) (a0 : Nat) (a1 : Nat) (x2 : Int32) (x3 : Int32) (x4 : Int32) (z : gS), wX3_paneOfGreatestAge_L7 n sh P N a0 a1 x2 x3 x4 z → V E (gR 1 0) gyX3_paneOfGreatestAge 0 0 7 [(0, .ref a0), (1, .ref a1), (2, .int x2), (3, .int x3), (4, .int x4)] [] n sh z (kI n sh P) := by
  intro N
  induction N with
  | zero => intro a0 a1 x2 x3 x4 z hf; exact False.elim hf
  | succ N ih => intro a0 a1 x2 x3 x4 z hf; exact vX3_paneOfGreatestAge_B7 hn ih hf
def wX3_paneOfGreatestAge (n : Nat) (sh : Nat → Nat × Nat) (a0 : Nat) (a1 : Nat) (z : gS) (P : Int32 → gS → Prop) : Prop := (∃ N, wX3_paneOfGreatestAge_L7 n sh P N a0 a1 (-1 : Int32) (-1 : Int32) (0 : Int32) z)
set_option maxRecDepth 100000 in
set_option maxHeartbeats 4000000 in
theorem ctX3_paneOfGreatestAge {E : gE} {n : Nat} {sh : Nat → Nat × Nat} {a0 : Nat} {a1 : Nat} {z : gS} {P : Int32 → gS → Prop} (hn : gOK E n) (hf : wX3_paneOfGreatestAge n sh a0 a1 z P) : VM E 1 0 gyX3_paneOfGreatestAge [.ref a0, .ref a1] n sh z (kI n sh P) := by
  unfold wX3_paneOfGreatestAge at hf
  refine VM.of (by decide +kernel) (Nat.le_of_ble_eq_true rfl) (fun _ _ _ h => h.2.2) ?_
  show V E (gR 1 0) gyX3_paneOfGreatestAge 0 0 0 [(0, .ref a0), (1, .ref a1)] [] n sh z (kI n sh P)
  refine V_iconst (v := (-1 : Int32)) dX3_paneOfGreatestAge_0 (by decide) ?_
  refine V_istore_n (ls2 := [(2, .int (-1 : Int32)), (0, .ref a0), (1, .ref a1)]) dX3_paneOfGreatestAge_1 rfl (by decide) rfl ?_
  refine V_iconst (v := (-1 : Int32)) dX3_paneOfGreatestAge_2 (by decide) ?_
  refine V_istore_n (ls2 := [(3, .int (-1 : Int32)), (2, .int (-1 : Int32)), (0, .ref a0), (1, .ref a1)]) dX3_paneOfGreatestAge_3 rfl (by decide) rfl ?_
  refine V_iconst (v := (0 : Int32)) dX3_paneOfGreatestAge_4 (by decide) ?_
  refine V_istore (ls2 := [(4, .int (0 : Int32)), (3, .int (-1 : Int32)), (2, .int (-1 : Int32)), (0, .ref a0), (1, .ref a1)]) dX3_paneOfGreatestAge_5 (by decide) rfl ?_
  obtain ⟨N, hf⟩ := hf
  refine V_to [3, 4, 2, 1, 0] rfl ?_
  exact vX3_paneOfGreatestAge_L7 hn N _ _ _ _ _ _ hf
def wX11_oldest (n : Nat) (sh : Nat → Nat × Nat) (a0 : Nat) (z : gS) (P : Int32 → gS → Prop) : Prop := (oO n sh a0 7) ∧ (∃ t2 : Nat, gr z a0 7 = some t2 ∧ (∃ t3 : Nat, gr z a0 1 = some t3 ∧ (wX3_paneOfGreatestAge n sh t2 t3 z (fun (r4 : Int32) (z5 : gS) => P r4 z5))))
set_option maxRecDepth 100000 in
set_option maxHeartbeats 4000000 in
theorem ctX11_oldest {E : gE} {n : Nat} {sh : Nat → Nat × Nat} {a0 : Nat} {z : gS} {P : Int32 → gS → Prop} (hn : gOK E n) (hf : wX11_oldest n sh a0 z P) : VM E 2 0 gyX11_oldest [.ref a0] n sh z (kI n sh P) := by
  unfold wX11_oldest at hf
  refine VM.of (by decide +kernel) (Nat.le_of_ble_eq_true rfl) (fun _ _ _ h => h.2.2) ?_
  show V E (gR 2 0) gyX11_oldest 0 0 0 [(0, .ref a0)] [] n sh z (kI n sh P)
  refine V_aload_n (j := 0) dX11_oldest_0 rfl rfl ?_
  obtain ⟨h1, hf⟩ := hf
  obtain ⟨t2, et2, hf⟩ := hf
  refine V_getR fl_X11_51 rfl h1.1 h1.2 et2 dX11_oldest_1 ?_
  refine V_aload_n (j := 0) dX11_oldest_4 rfl rfl ?_
  obtain ⟨t3, et3, hf⟩ := hf
  refine V_getR fl_X11_19 rfl h1.1 h1.2 et3 dX11_oldest_5 ?_
  refine V_cSI (ctX3_paneOfGreatestAge hn hf) gc_X11_270 rfl ⟨by decide, by decide, Nat.zero_le _, Nat.zero_le _⟩ (Nat.le_of_ble_eq_true rfl) dX11_oldest_8 rfl hn (fun r4 z5 hf => ?_)
  exact V_ireturn dX11_oldest_11 rfl rfl (Nat.le_refl 0) (kI_of hf)
def wX3_fewestCloaking_J73 (n : Nat) (sh : Nat → Nat × Nat) (k23 : Nat → Nat → Int32 → Int32 → Int32 → Int32 → Int32 → Int32 → gS → Prop) (P : Int32 → gS → Prop) (a0 : Nat) (a1 : Nat) (x2 : Int32) (x3 : Int32) (x4 : Int32) (x5 : Int32) (x6 : Int32) (x7 : Int32) (z : gS) : Prop := ∀ v5 : Int32, v5 = x7 + (1 : Int32) → k23 a0 a1 x2 x3 x4 x5 x6 v5 z
set_option maxRecDepth 100000 in
set_option maxHeartbeats 4000000 in
theorem vX3_fewestCloaking_J73 {E : gE} {n : Nat} {sh : Nat → Nat × Nat} {P : Int32 → gS → Prop} {k23 : Nat → Nat → Int32 → Int32 → Int32 → Int32 → Int32 → Int32 → gS → Prop} {a0 : Nat} {a1 : Nat} {x2 : Int32} {x3 : Int32} {x4 : Int32} {x5 : Int32} {x6 : Int32} {x7 : Int32} {z : gS} (hn : gOK E n) (hk23 : ∀ (a0 : Nat) (a1 : Nat) (x2 : Int32) (x3 : Int32) (x4 : Int32) (x5 : Int32) (x6 : Int32) (x7 : Int32) (z : gS), k23 a0 a1 x2 x3 x4 x5 x6 x7 z → V E (gR 4 0) gyX3_fewestCloaking 0 0 23 [(0, .ref a0), (1, .ref a1), (2, .int x2), (3, .int x3), (4, .int x4), (5, .int x5), (6, .int x6), (7, .int x7)] [] n sh z (kI n sh P)) (hf : wX3_fewestCloaking_J73 n sh k23 P a0 a1 x2 x3 x4 x5 x6 x7 z) : V E (gR 4 0) gyX3_fewestCloaking 0 0 73 [(0, .ref a0), (1, .ref a1), (2, .int x2), (3, .int x3), (4, .int x4), (5, .int x5), (6, .int x6), (7, .int x7)] [] n sh z (kI n sh P) := by
  unfold wX3_fewestCloaking_J73 at hf
  obtain ⟨v5, ev5⟩ : ∃ y : Int32, y = x7 + (1 : Int32) := ⟨_, rfl⟩
  refine V_iinc (j := 7) (v := v5) (ls2 := [(7, .int v5), (0, .ref a0), (1, .ref a1), (2, .int x2), (3, .int x3), (4, .int x4), (5, .int x5), (6, .int x6)]) dX3_fewestCloaking_73 rfl (by rw [ev5]; rfl) (by decide) rfl ?_
  have hf := hf v5 ev5
  refine V_goto (tgt := 23) dX3_fewestCloaking_76 (by decide) ?_
  refine V_to [1, 2, 3, 4, 5, 6, 7, 0] rfl ?_
  exact hk23 _ _ _ _ _ _ _ _ _ hf
def wX3_fewestCloaking_B23 (n : Nat) (sh : Nat → Nat × Nat) (k23 : Nat → Nat → Int32 → Int32 → Int32 → Int32 → Int32 → Int32 → gS → Prop) (P : Int32 → gS → Prop) (a0 : Nat) (a1 : Nat) (x2 : Int32) (x3 : Int32) (x4 : Int32) (x5 : Int32) (x6 : Int32) (x7 : Int32) (z : gS) : Prop := if x4 < x7 then P x6 z else (if (x7 &&& x5) = 0 then (wX11_isBetterSet n sh x7 x6 z (fun (r6 : Int32) (z7 : gS) => if r6 = 0 then wX3_fewestCloaking_J73 n sh k23 P a0 a1 x2 x3 x4 x5 x6 x7 z7 else (wX3_deedsShownOf n sh a0 a1 (x4 &&& (x7 ^^^ (-1 : Int32))) x2 z7 (fun (r8 : Int32) (z9 : gS) => wX3_harmOf n sh a0 r8 z9 (fun (r10 : Int32) (z11 : gS) => if x3 < r10 then wX3_fewestCloaking_J73 n sh k23 P a0 a1 x2 x3 x4 x5 x6 x7 z11 else wX3_fewestCloaking_J73 n sh k23 P a0 a1 x2 x3 x4 x5 x7 x7 z11))))) else wX3_fewestCloaking_J73 n sh k23 P a0 a1 x2 x3 x4 x5 x6 x7 z)
def wX3_fewestCloaking_L23 (n : Nat) (sh : Nat → Nat × Nat) (P : Int32 → gS → Prop) : Nat → Nat → Nat → Int32 → Int32 → Int32 → Int32 → Int32 → Int32 → gS → Prop
  | 0, _, _, _, _, _, _, _, _, _ => False
  | N + 1, a0, a1, x2, x3, x4, x5, x6, x7, z => wX3_fewestCloaking_B23 n sh (wX3_fewestCloaking_L23 n sh P N) P a0 a1 x2 x3 x4 x5 x6 x7 z
set_option maxRecDepth 100000 in
set_option maxHeartbeats 4000000 in
theorem vX3_fewestCloaking_B23 {E : gE} {n : Nat} {sh : Nat → Nat × Nat} {P : Int32 → gS → Prop} {k23 : Nat → Nat → Int32 → Int32 → Int32 → Int32 → Int32 → Int32 → gS → Prop} {a0 : Nat} {a1 : Nat} {x2 : Int32} {x3 : Int32} {x4 : Int32} {x5 : Int32} {x6 : Int32} {x7 : Int32} {z : gS} (hn : gOK E n) (hk23 : ∀ (a0 : Nat) (a1 : Nat) (x2 : Int32) (x3 : Int32) (x4 : Int32) (x5 : Int32) (x6 : Int32) (x7 : Int32) (z : gS), k23 a0 a1 x2 x3 x4 x5 x6 x7 z → V E (gR 4 0) gyX3_fewestCloaking 0 0 23 [(0, .ref a0), (1, .ref a1), (2, .int x2), (3, .int x3), (4, .int x4), (5, .int x5), (6, .int x6), (7, .int x7)] [] n sh z (kI n sh P)) (hf : wX3_fewestCloaking_B23 n sh k23 P a0 a1 x2 x3 x4 x5 x6 x7 z) : V E (gR 4 0) gyX3_fewestCloaking 0 0 23 [(0, .ref a0), (1, .ref a1), (2, .int x2), (3, .int x3), (4, .int x4), (5, .int x5), (6, .int x6), (7, .int x7)] [] n sh z (kI n sh P) := by
  unfold wX3_fewestCloaking_B23 at hf
  refine V_iload (j := 7) dX3_fewestCloaking_23 rfl ?_
  refine V_iload (j := 4) dX3_fewestCloaking_25 rfl ?_
  refine V_icmp_gt (tgt := 79) dX3_fewestCloaking_27 (by decide) (fun h15 => ?_) (fun h15 => ?_)
  · have hf := it_t h15 hf
    refine V_iload (j := 6) dX3_fewestCloaking_79 rfl ?_
    exact V_ireturn dX3_fewestCloaking_81 rfl rfl (Nat.le_refl 0) (kI_of hf)
  · have hf := it_f h15 hf
    refine V_iload (j := 7) dX3_fewestCloaking_30 rfl ?_
    refine V_iload (j := 5) dX3_fewestCloaking_32 rfl ?_
    refine V_iand dX3_fewestCloaking_34 ?_
    refine V_if_ne (tgt := 73) dX3_fewestCloaking_35 (by decide) (fun h14 => ?_) (fun h14 => ?_)
    · have hf := it_f h14 hf
      exact vX3_fewestCloaking_J73 hn hk23 hf
    · have hf := it_t (Classical.not_not.mp h14) hf
      refine V_iload (j := 7) dX3_fewestCloaking_38 rfl ?_
      refine V_iload (j := 6) dX3_fewestCloaking_40 rfl ?_
      refine V_cSI (ctX11_isBetterSet hn hf) gc_X3_69 rfl ⟨by decide, by decide, Nat.zero_le _, Nat.zero_le _⟩ (Nat.le_of_ble_eq_true rfl) dX3_fewestCloaking_42 rfl hn (fun r6 z7 hf => ?_)
      refine V_if_eq (tgt := 73) dX3_fewestCloaking_45 (by decide) (fun h13 => ?_) (fun h13 => ?_)
      · have hf := it_t h13 hf
        exact vX3_fewestCloaking_J73 hn hk23 hf
      · have hf := it_f h13 hf
        refine V_aload_n (j := 0) dX3_fewestCloaking_48 rfl rfl ?_
        refine V_aload_n (j := 0) dX3_fewestCloaking_49 rfl rfl ?_
        refine V_aload_n (j := 1) dX3_fewestCloaking_50 rfl rfl ?_
        refine V_iload (j := 4) dX3_fewestCloaking_51 rfl ?_
        refine V_iload (j := 7) dX3_fewestCloaking_53 rfl ?_
        refine V_iconst (v := (-1 : Int32)) dX3_fewestCloaking_55 (by decide) ?_
        refine V_ixor dX3_fewestCloaking_56 ?_
        refine V_iand dX3_fewestCloaking_57 ?_
        refine V_iload_n (j := 2) dX3_fewestCloaking_58 rfl rfl ?_
        refine V_cSI (ctX3_deedsShownOf hn hf) gc_X3_65 rfl ⟨by decide, by decide, Nat.zero_le _, Nat.zero_le _⟩ (Nat.le_of_ble_eq_true rfl) dX3_fewestCloaking_59 rfl hn (fun r8 z9 hf => ?_)
        refine V_cSI (ctX3_harmOf hn hf) gc_X3_44 rfl ⟨by decide, by decide, Nat.zero_le _, Nat.zero_le _⟩ (Nat.le_of_ble_eq_true rfl) dX3_fewestCloaking_62 rfl hn (fun r10 z11 hf => ?_)
        refine V_iload_n (j := 3) dX3_fewestCloaking_65 rfl rfl ?_
        refine V_icmp_gt (tgt := 73) dX3_fewestCloaking_66 (by decide) (fun h12 => ?_) (fun h12 => ?_)
        · have hf := it_t h12 hf
          exact vX3_fewestCloaking_J73 hn hk23 hf
        · have hf := it_f h12 hf
          refine V_iload (j := 7) dX3_fewestCloaking_69 rfl ?_
          refine V_istore (ls2 := [(6, .int x7), (0, .ref a0), (1, .ref a1), (2, .int x2), (3, .int x3), (4, .int x4), (5, .int x5), (7, .int x7)]) dX3_fewestCloaking_71 (by decide) rfl ?_
          refine V_to [1, 2, 3, 4, 5, 6, 0, 7] rfl ?_
          exact vX3_fewestCloaking_J73 hn hk23 hf
set_option maxRecDepth 100000 in
set_option maxHeartbeats 4000000 in
theorem vX3_fewestCloaking_L23 {E : gE} {n : Nat} {sh : Nat → Nat × Nat} {P : Int32 → gS → Prop} (hn : gOK E n) : ∀ (N : Nat) (a0 : Nat) (a1 : Nat) (x2 : Int32) (x3 : Int32) (x4 : Int32) (x5 : Int32) (x6 : Int32) (x7 : Int32) (z : gS), wX3_fewestCloaking_L23 n sh P N a0 a1 x2 x3 x4 x5 x6 x7 z → V E (gR 4 0) gyX3_fewestCloaking 0 0 23 [(0, .ref a0), (1, .ref a1), (2, .int x2), (3, .int x3), (4, .int x4), (5, .int x5), (6, .int x6), (7, .int x7)] [] n sh z (kI n sh P) := by
  intro N
  induction N with
  | zero => intro a0 a1 x2 x3 x4 x5 x6 x7 z hf; exact False.elim hf
  | succ N ih => intro a0 a1 x2 x3 x4 x5 x6 x7 z hf; exact vX3_fewestCloaking_B23 hn ih hf
def wX3_fewestCloaking (n : Nat) (sh : Nat → Nat × Nat) (a0 : Nat) (a1 : Nat) (x2 : Int32) (x3 : Int32) (z : gS) (P : Int32 → gS → Prop) : Prop := wX3_allPanes n sh a0 z (fun (r1 : Int32) (z2 : gS) => (oO n sh a1 6) ∧ (∀ v4 : Int32, v4 = ((gi z2 a1 2) ||| (gi z2 a1 1)) → ((∃ N, wX3_fewestCloaking_L23 n sh P N a0 a1 x2 x3 r1 v4 (-1 : Int32) (0 : Int32) z2))))
set_option maxRecDepth 100000 in
set_option maxHeartbeats 4000000 in
theorem ctX3_fewestCloaking {E : gE} {n : Nat} {sh : Nat → Nat × Nat} {a0 : Nat} {a1 : Nat} {x2 : Int32} {x3 : Int32} {z : gS} {P : Int32 → gS → Prop} (hn : gOK E n) (hf : wX3_fewestCloaking n sh a0 a1 x2 x3 z P) : VM E 4 0 gyX3_fewestCloaking [.ref a0, .ref a1, .int x2, .int x3] n sh z (kI n sh P) := by
  unfold wX3_fewestCloaking at hf
  refine VM.of (by decide +kernel) (Nat.le_of_ble_eq_true rfl) (fun _ _ _ h => h.2.2) ?_
  show V E (gR 4 0) gyX3_fewestCloaking 0 0 0 [(0, .ref a0), (1, .ref a1), (2, .int x2), (3, .int x3)] [] n sh z (kI n sh P)
  refine V_aload_n (j := 0) dX3_fewestCloaking_0 rfl rfl ?_
  refine V_cSI (ctX3_allPanes hn hf) gc_X3_61 rfl ⟨by decide, by decide, Nat.zero_le _, Nat.zero_le _⟩ (Nat.le_of_ble_eq_true rfl) dX3_fewestCloaking_1 rfl hn (fun r1 z2 hf => ?_)
  refine V_istore (ls2 := [(4, .int r1), (0, .ref a0), (1, .ref a1), (2, .int x2), (3, .int x3)]) dX3_fewestCloaking_4 (by decide) rfl ?_
  refine V_aload_n (j := 2) dX3_fewestCloaking_6 rfl rfl ?_
  obtain ⟨h3, hf⟩ := hf
  refine V_getI fl_X3_73 rfl h3.1 h3.2 dX3_fewestCloaking_7 ?_
  refine V_aload_n (j := 2) dX3_fewestCloaking_10 rfl rfl ?_
  refine V_getI fl_X3_76 rfl h3.1 h3.2 dX3_fewestCloaking_11 ?_
  refine V_ior dX3_fewestCloaking_14 ?_
  refine V_nI (fun v4 ev4 => ?_)
  have hf := hf v4 ev4
  refine V_istore (ls2 := [(5, .int v4), (4, .int r1), (0, .ref a0), (1, .ref a1), (2, .int x2), (3, .int x3)]) dX3_fewestCloaking_15 (by decide) rfl ?_
  refine V_iconst (v := (-1 : Int32)) dX3_fewestCloaking_17 (by decide) ?_
  refine V_istore (ls2 := [(6, .int (-1 : Int32)), (5, .int v4), (4, .int r1), (0, .ref a0), (1, .ref a1), (2, .int x2), (3, .int x3)]) dX3_fewestCloaking_18 (by decide) rfl ?_
  refine V_iconst (v := (0 : Int32)) dX3_fewestCloaking_20 (by decide) ?_
  refine V_istore (ls2 := [(7, .int (0 : Int32)), (6, .int (-1 : Int32)), (5, .int v4), (4, .int r1), (0, .ref a0), (1, .ref a1), (2, .int x2), (3, .int x3)]) dX3_fewestCloaking_21 (by decide) rfl ?_
  obtain ⟨N, hf⟩ := hf
  refine V_to [4, 5, 6, 7, 3, 2, 1, 0] rfl ?_
  exact vX3_fewestCloaking_L23 hn N _ _ _ _ _ _ _ _ _ hf
def wX11_cloak (n : Nat) (sh : Nat → Nat × Nat) (a0 : Nat) (x1 : Int32) (x2 : Int32) (z : gS) (P : Int32 → gS → Prop) : Prop := (oO n sh a0 7) ∧ (∃ t2 : Nat, gr z a0 7 = some t2 ∧ ((oO n sh t2 4) ∧ (wX7_hasPerson n sh t2 x1 z (fun (r3 : Int32) (z4 : gS) => if r3 = 0 then P (-1 : Int32) z4 else (if x2 < 0 then P (-1 : Int32) z4 else (if x2 ≤ (495 : Int32) then (∃ t6 : Nat, gr z4 a0 7 = some t6 ∧ (∃ t7 : Nat, gr z4 a0 1 = some t7 ∧ (wX3_fewestCloaking n sh t6 t7 x1 x2 z4 (fun (r8 : Int32) (z9 : gS) => P r8 z9)))) else P (-1 : Int32) z4))))))
set_option maxRecDepth 100000 in
set_option maxHeartbeats 4000000 in
theorem ctX11_cloak {E : gE} {n : Nat} {sh : Nat → Nat × Nat} {a0 : Nat} {x1 : Int32} {x2 : Int32} {z : gS} {P : Int32 → gS → Prop} (hn : gOK E n) (hf : wX11_cloak n sh a0 x1 x2 z P) : VM E 5 0 gyX11_cloak [.ref a0, .int x1, .int x2] n sh z (kI n sh P) := by
  unfold wX11_cloak at hf
  refine VM.of (by decide +kernel) (Nat.le_of_ble_eq_true rfl) (fun _ _ _ h => h.2.2) ?_
  show V E (gR 5 0) gyX11_cloak 0 0 0 [(0, .ref a0), (1, .int x1), (2, .int x2)] [] n sh z (kI n sh P)
  refine V_aload_n (j := 0) dX11_cloak_0 rfl rfl ?_
  obtain ⟨h1, hf⟩ := hf
  obtain ⟨t2, et2, hf⟩ := hf
  refine V_getR fl_X11_51 rfl h1.1 h1.2 et2 dX11_cloak_1 ?_
  refine V_iload_n (j := 1) dX11_cloak_4 rfl rfl ?_
  obtain ⟨h5, hf⟩ := hf
  refine V_cVI (ctX7_hasPerson hn hf) gc_X11_149 rfl h5.1 ⟨_, h5.2, by decide, rfl⟩ ⟨by decide, by decide, Nat.zero_le _, Nat.zero_le _⟩ (Nat.le_of_ble_eq_true rfl) dX11_cloak_5 rfl hn (fun r3 z4 hf => ?_)
  refine V_if_eq (tgt := 22) dX11_cloak_8 (by decide) (fun h12 => ?_) (fun h12 => ?_)
  · have hf := it_t h12 hf
    refine V_iconst (v := (-1 : Int32)) dX11_cloak_22 (by decide) ?_
    exact V_ireturn dX11_cloak_23 rfl rfl (Nat.le_refl 0) (kI_of hf)
  · have hf := it_f h12 hf
    refine V_iload_n (j := 2) dX11_cloak_11 rfl rfl ?_
    refine V_if_lt (tgt := 22) dX11_cloak_12 (by decide) (fun h11 => ?_) (fun h11 => ?_)
    · have hf := it_t h11 hf
      refine V_iconst (v := (-1 : Int32)) dX11_cloak_22 (by decide) ?_
      exact V_ireturn dX11_cloak_23 rfl rfl (Nat.le_refl 0) (kI_of hf)
    · have hf := it_f h11 hf
      refine V_iload_n (j := 2) dX11_cloak_15 rfl rfl ?_
      refine V_sipush (v := (495 : Int32)) dX11_cloak_16 (by decide) ?_
      refine V_icmp_le (tgt := 24) dX11_cloak_19 (by decide) (fun h10 => ?_) (fun h10 => ?_)
      · have hf := it_t h10 hf
        refine V_aload_n (j := 0) dX11_cloak_24 rfl rfl ?_
        obtain ⟨t6, et6, hf⟩ := hf
        refine V_getR fl_X11_51 rfl h1.1 h1.2 et6 dX11_cloak_25 ?_
        refine V_aload_n (j := 0) dX11_cloak_28 rfl rfl ?_
        obtain ⟨t7, et7, hf⟩ := hf
        refine V_getR fl_X11_19 rfl h1.1 h1.2 et7 dX11_cloak_29 ?_
        refine V_iload_n (j := 1) dX11_cloak_32 rfl rfl ?_
        refine V_iload_n (j := 2) dX11_cloak_33 rfl rfl ?_
        refine V_cSI (ctX3_fewestCloaking hn hf) gc_X11_273 rfl ⟨by decide, by decide, Nat.zero_le _, Nat.zero_le _⟩ (Nat.le_of_ble_eq_true rfl) dX11_cloak_34 rfl hn (fun r8 z9 hf => ?_)
        exact V_ireturn dX11_cloak_37 rfl rfl (Nat.le_refl 0) (kI_of hf)
      · have hf := it_f h10 hf
        refine V_iconst (v := (-1 : Int32)) dX11_cloak_22 (by decide) ?_
        exact V_ireturn dX11_cloak_23 rfl rfl (Nat.le_refl 0) (kI_of hf)
def wX10_isAlike (n : Nat) (sh : Nat → Nat × Nat) (x0 : Int32) (x1 : Int32) (z : gS) (P : Int32 → gS → Prop) : Prop := if (x0 &&& (1023 : Int32)) = (x1 &&& (1023 : Int32)) then P (1 : Int32) z else P (0 : Int32) z
set_option maxRecDepth 100000 in
set_option maxHeartbeats 4000000 in
theorem ctX10_isAlike {E : gE} {n : Nat} {sh : Nat → Nat × Nat} {x0 : Int32} {x1 : Int32} {z : gS} {P : Int32 → gS → Prop} (hn : gOK E n) (hf : wX10_isAlike n sh x0 x1 z P) : VM E 0 0 gyX10_isAlike [.int x0, .int x1] n sh z (kI n sh P) := by
  unfold wX10_isAlike at hf
  refine VM.of (by decide +kernel) (Nat.le_of_ble_eq_true rfl) (fun _ _ _ h => h.2.2) ?_
  show V E (gR 0 0) gyX10_isAlike 0 0 0 [(0, .int x0), (1, .int x1)] [] n sh z (kI n sh P)
  refine V_iload_n (j := 0) dX10_isAlike_0 rfl rfl ?_
  refine V_sipush (v := (1023 : Int32)) dX10_isAlike_1 (by decide) ?_
  refine V_iand dX10_isAlike_4 ?_
  refine V_iload_n (j := 1) dX10_isAlike_5 rfl rfl ?_
  refine V_sipush (v := (1023 : Int32)) dX10_isAlike_6 (by decide) ?_
  refine V_iand dX10_isAlike_9 ?_
  refine V_icmp_ne (tgt := 17) dX10_isAlike_10 (by decide) (fun h1 => ?_) (fun h1 => ?_)
  · have hf := it_f h1 hf
    refine V_iconst (v := (0 : Int32)) dX10_isAlike_17 (by decide) ?_
    exact V_ireturn dX10_isAlike_18 rfl (by decide) (Nat.le_refl 0) (kI_of hf)
  · have hf := it_t (Classical.not_not.mp h1) hf
    refine V_iconst (v := (1 : Int32)) dX10_isAlike_13 (by decide) ?_
    refine V_goto (tgt := 18) dX10_isAlike_14 (by decide) ?_
    exact V_ireturn dX10_isAlike_18 rfl (by decide) (Nat.le_refl 0) (kI_of hf)
def wX3_alikeMarks_J87 (n : Nat) (sh : Nat → Nat × Nat) (k5 : Nat → Int32 → Int32 → Int32 → Int32 → gS → Prop) (P : Int32 → gS → Prop) (a0 : Nat) (x1 : Int32) (x2 : Int32) (x3 : Int32) (x4 : Int32) (z : gS) : Prop := ∀ v11 : Int32, v11 = x4 + (1 : Int32) → k5 a0 x1 x2 x3 v11 z
set_option maxRecDepth 100000 in
set_option maxHeartbeats 4000000 in
theorem vX3_alikeMarks_J87 {E : gE} {n : Nat} {sh : Nat → Nat × Nat} {P : Int32 → gS → Prop} {k5 : Nat → Int32 → Int32 → Int32 → Int32 → gS → Prop} {a0 : Nat} {x1 : Int32} {x2 : Int32} {x3 : Int32} {x4 : Int32} {z : gS} (hn : gOK E n) (hk5 : ∀ (a0 : Nat) (x1 : Int32) (x2 : Int32) (x3 : Int32) (x4 : Int32) (z : gS), k5 a0 x1 x2 x3 x4 z → V E (gR 1 0) gyX3_alikeMarks 0 0 5 [(0, .ref a0), (1, .int x1), (2, .int x2), (3, .int x3), (4, .int x4)] [] n sh z (kI n sh P)) (hf : wX3_alikeMarks_J87 n sh k5 P a0 x1 x2 x3 x4 z) : V E (gR 1 0) gyX3_alikeMarks 0 0 87 [(0, .ref a0), (1, .int x1), (2, .int x2), (3, .int x3), (4, .int x4)] [] n sh z (kI n sh P) := by
  unfold wX3_alikeMarks_J87 at hf
  obtain ⟨v11, ev11⟩ : ∃ y : Int32, y = x4 + (1 : Int32) := ⟨_, rfl⟩
  refine V_iinc (j := 4) (v := v11) (ls2 := [(4, .int v11), (0, .ref a0), (1, .int x1), (2, .int x2), (3, .int x3)]) dX3_alikeMarks_87 rfl (by rw [ev11]; rfl) (by decide) rfl ?_
  have hf := hf v11 ev11
  refine V_goto (tgt := 5) dX3_alikeMarks_90 (by decide) ?_
  refine V_to [1, 2, 3, 4, 0] rfl ?_
  exact hk5 _ _ _ _ _ _ hf
def wX3_alikeMarks_J81 (n : Nat) (sh : Nat → Nat × Nat) (k5 : Nat → Int32 → Int32 → Int32 → Int32 → gS → Prop) (k19 : Nat → Int32 → Int32 → Int32 → Int32 → Int32 → gS → Prop) (P : Int32 → gS → Prop) (a0 : Nat) (x1 : Int32) (x2 : Int32) (x3 : Int32) (x4 : Int32) (x5 : Int32) (z : gS) : Prop := ∀ v12 : Int32, v12 = x5 + (1 : Int32) → k19 a0 x1 x2 x3 x4 v12 z
set_option maxRecDepth 100000 in
set_option maxHeartbeats 4000000 in
theorem vX3_alikeMarks_J81 {E : gE} {n : Nat} {sh : Nat → Nat × Nat} {P : Int32 → gS → Prop} {k5 : Nat → Int32 → Int32 → Int32 → Int32 → gS → Prop} {k19 : Nat → Int32 → Int32 → Int32 → Int32 → Int32 → gS → Prop} {a0 : Nat} {x1 : Int32} {x2 : Int32} {x3 : Int32} {x4 : Int32} {x5 : Int32} {z : gS} (hn : gOK E n) (hk5 : ∀ (a0 : Nat) (x1 : Int32) (x2 : Int32) (x3 : Int32) (x4 : Int32) (z : gS), k5 a0 x1 x2 x3 x4 z → V E (gR 1 0) gyX3_alikeMarks 0 0 5 [(0, .ref a0), (1, .int x1), (2, .int x2), (3, .int x3), (4, .int x4)] [] n sh z (kI n sh P)) (hk19 : ∀ (a0 : Nat) (x1 : Int32) (x2 : Int32) (x3 : Int32) (x4 : Int32) (x5 : Int32) (z : gS), k19 a0 x1 x2 x3 x4 x5 z → V E (gR 1 0) gyX3_alikeMarks 0 0 19 [(0, .ref a0), (1, .int x1), (2, .int x2), (3, .int x3), (4, .int x4), (5, .int x5)] [] n sh z (kI n sh P)) (hf : wX3_alikeMarks_J81 n sh k5 k19 P a0 x1 x2 x3 x4 x5 z) : V E (gR 1 0) gyX3_alikeMarks 0 0 81 [(0, .ref a0), (1, .int x1), (2, .int x2), (3, .int x3), (4, .int x4), (5, .int x5)] [] n sh z (kI n sh P) := by
  unfold wX3_alikeMarks_J81 at hf
  obtain ⟨v12, ev12⟩ : ∃ y : Int32, y = x5 + (1 : Int32) := ⟨_, rfl⟩
  refine V_iinc (j := 5) (v := v12) (ls2 := [(5, .int v12), (0, .ref a0), (1, .int x1), (2, .int x2), (3, .int x3), (4, .int x4)]) dX3_alikeMarks_81 rfl (by rw [ev12]; rfl) (by decide) rfl ?_
  have hf := hf v12 ev12
  refine V_goto (tgt := 19) dX3_alikeMarks_84 (by decide) ?_
  refine V_to [1, 2, 3, 4, 5, 0] rfl ?_
  exact hk19 _ _ _ _ _ _ _ hf
def wX3_alikeMarks_J44 (n : Nat) (sh : Nat → Nat × Nat) (k5 : Nat → Int32 → Int32 → Int32 → Int32 → gS → Prop) (k19 : Nat → Int32 → Int32 → Int32 → Int32 → Int32 → gS → Prop) (P : Int32 → gS → Prop) (a0 : Nat) (x1 : Int32) (x2 : Int32) (x3 : Int32) (x4 : Int32) (x5 : Int32) (s0 : Int32) (z : gS) : Prop := if s0 = 0 then wX3_alikeMarks_J81 n sh k5 k19 P a0 x1 x2 x3 x4 x5 z else ((oO n sh a0 6) ∧ (wX10_markAt n sh a0 x1 x4 z (fun (r13 : Int32) (z14 : gS) => wX10_markAt n sh a0 x2 x5 z14 (fun (r16 : Int32) (z17 : gS) => wX10_isAlike n sh r13 r16 z17 (fun (r18 : Int32) (z19 : gS) => if r18 = 0 then wX3_alikeMarks_J81 n sh k5 k19 P a0 x1 x2 x3 x4 x5 z19 else (∀ v20 : Int32, v20 = (x3 ||| ((1 : Int32) <<< (x5 &&& 31))) → wX3_alikeMarks_J87 n sh k5 P a0 x1 x2 v20 x4 z19))))))
set_option maxRecDepth 100000 in
set_option maxHeartbeats 4000000 in
theorem vX3_alikeMarks_J44 {E : gE} {n : Nat} {sh : Nat → Nat × Nat} {P : Int32 → gS → Prop} {k5 : Nat → Int32 → Int32 → Int32 → Int32 → gS → Prop} {k19 : Nat → Int32 → Int32 → Int32 → Int32 → Int32 → gS → Prop} {a0 : Nat} {x1 : Int32} {x2 : Int32} {x3 : Int32} {x4 : Int32} {x5 : Int32} {s0 : Int32} {z : gS} (hn : gOK E n) (hk5 : ∀ (a0 : Nat) (x1 : Int32) (x2 : Int32) (x3 : Int32) (x4 : Int32) (z : gS), k5 a0 x1 x2 x3 x4 z → V E (gR 1 0) gyX3_alikeMarks 0 0 5 [(0, .ref a0), (1, .int x1), (2, .int x2), (3, .int x3), (4, .int x4)] [] n sh z (kI n sh P)) (hk19 : ∀ (a0 : Nat) (x1 : Int32) (x2 : Int32) (x3 : Int32) (x4 : Int32) (x5 : Int32) (z : gS), k19 a0 x1 x2 x3 x4 x5 z → V E (gR 1 0) gyX3_alikeMarks 0 0 19 [(0, .ref a0), (1, .int x1), (2, .int x2), (3, .int x3), (4, .int x4), (5, .int x5)] [] n sh z (kI n sh P)) (hf : wX3_alikeMarks_J44 n sh k5 k19 P a0 x1 x2 x3 x4 x5 s0 z) : V E (gR 1 0) gyX3_alikeMarks 0 0 44 [(0, .ref a0), (1, .int x1), (2, .int x2), (3, .int x3), (4, .int x4), (5, .int x5)] [.int s0] n sh z (kI n sh P) := by
  unfold wX3_alikeMarks_J44 at hf
  refine V_istore (ls2 := [(6, .int s0), (0, .ref a0), (1, .int x1), (2, .int x2), (3, .int x3), (4, .int x4), (5, .int x5)]) dX3_alikeMarks_44 (by decide) rfl ?_
  refine V_iload (j := 0) dX3_alikeMarks_46 rfl ?_
  refine V_if_eq (tgt := 81) dX3_alikeMarks_48 (by decide) (fun h22 => ?_) (fun h22 => ?_)
  · have hf := it_t h22 hf
    refine V_to [1, 2, 3, 4, 5, 6] rfl ?_
    exact vX3_alikeMarks_J81 hn hk5 hk19 hf
  · have hf := it_f h22 hf
    refine V_aload_n (j := 1) dX3_alikeMarks_51 rfl rfl ?_
    refine V_iload_n (j := 2) dX3_alikeMarks_52 rfl rfl ?_
    refine V_iload (j := 5) dX3_alikeMarks_53 rfl ?_
    obtain ⟨h15, hf⟩ := hf
    refine V_cVI (ctX10_markAt hn hf) gc_X3_37 rfl h15.1 ⟨_, h15.2, by decide, rfl⟩ ⟨by decide, by decide, Nat.zero_le _, Nat.zero_le _⟩ (Nat.le_of_ble_eq_true rfl) dX3_alikeMarks_55 rfl hn (fun r13 z14 hf => ?_)
    refine V_aload_n (j := 1) dX3_alikeMarks_58 rfl rfl ?_
    refine V_iload_n (j := 3) dX3_alikeMarks_59 rfl rfl ?_
    refine V_iload (j := 6) dX3_alikeMarks_60 rfl ?_
    refine V_cVI (ctX10_markAt hn hf) gc_X3_37 rfl h15.1 ⟨_, h15.2, by decide, rfl⟩ ⟨by decide, by decide, Nat.zero_le _, Nat.zero_le _⟩ (Nat.le_of_ble_eq_true rfl) dX3_alikeMarks_62 rfl hn (fun r16 z17 hf => ?_)
    refine V_cSI (ctX10_isAlike hn hf) gc_X3_95 rfl ⟨by decide, by decide, Nat.zero_le _, Nat.zero_le _⟩ (Nat.le_of_ble_eq_true rfl) dX3_alikeMarks_65 rfl hn (fun r18 z19 hf => ?_)
    refine V_if_eq (tgt := 81) dX3_alikeMarks_68 (by decide) (fun h21 => ?_) (fun h21 => ?_)
    · have hf := it_t h21 hf
      refine V_to [1, 2, 3, 4, 5, 6] rfl ?_
      exact vX3_alikeMarks_J81 hn hk5 hk19 hf
    · have hf := it_f h21 hf
      refine V_iload_n (j := 4) dX3_alikeMarks_71 rfl rfl ?_
      refine V_iconst (v := (1 : Int32)) dX3_alikeMarks_72 (by decide) ?_
      refine V_iload (j := 6) dX3_alikeMarks_73 rfl ?_
      refine V_ishl dX3_alikeMarks_75 ?_
      refine V_ior dX3_alikeMarks_76 ?_
      refine V_nI (fun v20 ev20 => ?_)
      have hf := hf v20 ev20
      refine V_istore_n (ls2 := [(3, .int v20), (6, .int s0), (0, .ref a0), (1, .int x1), (2, .int x2), (4, .int x4), (5, .int x5)]) dX3_alikeMarks_77 rfl (by decide) rfl ?_
      refine V_goto (tgt := 87) dX3_alikeMarks_78 (by decide) ?_
      refine V_to [2, 3, 4, 0, 5] rfl ?_
      exact vX3_alikeMarks_J87 hn hk5 hf
def wX3_alikeMarks_B19 (n : Nat) (sh : Nat → Nat × Nat) (k5 : Nat → Int32 → Int32 → Int32 → Int32 → gS → Prop) (k19 : Nat → Int32 → Int32 → Int32 → Int32 → Int32 → gS → Prop) (P : Int32 → gS → Prop) (a0 : Nat) (x1 : Int32) (x2 : Int32) (x3 : Int32) (x4 : Int32) (x5 : Int32) (z : gS) : Prop := (oO n sh a0 6) ∧ (∃ t8 : Nat, gr z a0 6 = some t8 ∧ ((oA n sh t8 1) ∧ ((vp_in x2 (sh t8).2) ∧ (if (gi z t8 x2.toNatClampNeg) ≤ x5 then wX3_alikeMarks_J87 n sh k5 P a0 x1 x2 x3 x4 z else (if ((x3 >>> (x5 &&& 31)) &&& (1 : Int32)) = 0 then wX3_alikeMarks_J44 n sh k5 k19 P a0 x1 x2 x3 x4 x5 (1 : Int32) z else wX3_alikeMarks_J44 n sh k5 k19 P a0 x1 x2 x3 x4 x5 (0 : Int32) z)))))
def wX3_alikeMarks_L19 (n : Nat) (sh : Nat → Nat × Nat) (k5 : Nat → Int32 → Int32 → Int32 → Int32 → gS → Prop) (P : Int32 → gS → Prop) : Nat → Nat → Int32 → Int32 → Int32 → Int32 → Int32 → gS → Prop
  | 0, _, _, _, _, _, _, _ => False
  | N + 1, a0, x1, x2, x3, x4, x5, z => wX3_alikeMarks_B19 n sh k5 (wX3_alikeMarks_L19 n sh k5 P N) P a0 x1 x2 x3 x4 x5 z
set_option maxRecDepth 100000 in
set_option maxHeartbeats 4000000 in
theorem vX3_alikeMarks_B19 {E : gE} {n : Nat} {sh : Nat → Nat × Nat} {P : Int32 → gS → Prop} {k5 : Nat → Int32 → Int32 → Int32 → Int32 → gS → Prop} {k19 : Nat → Int32 → Int32 → Int32 → Int32 → Int32 → gS → Prop} {a0 : Nat} {x1 : Int32} {x2 : Int32} {x3 : Int32} {x4 : Int32} {x5 : Int32} {z : gS} (hn : gOK E n) (hk5 : ∀ (a0 : Nat) (x1 : Int32) (x2 : Int32) (x3 : Int32) (x4 : Int32) (z : gS), k5 a0 x1 x2 x3 x4 z → V E (gR 1 0) gyX3_alikeMarks 0 0 5 [(0, .ref a0), (1, .int x1), (2, .int x2), (3, .int x3), (4, .int x4)] [] n sh z (kI n sh P)) (hk19 : ∀ (a0 : Nat) (x1 : Int32) (x2 : Int32) (x3 : Int32) (x4 : Int32) (x5 : Int32) (z : gS), k19 a0 x1 x2 x3 x4 x5 z → V E (gR 1 0) gyX3_alikeMarks 0 0 19 [(0, .ref a0), (1, .int x1), (2, .int x2), (3, .int x3), (4, .int x4), (5, .int x5)] [] n sh z (kI n sh P)) (hf : wX3_alikeMarks_B19 n sh k5 k19 P a0 x1 x2 x3 x4 x5 z) : V E (gR 1 0) gyX3_alikeMarks 0 0 19 [(0, .ref a0), (1, .int x1), (2, .int x2), (3, .int x3), (4, .int x4), (5, .int x5)] [] n sh z (kI n sh P) := by
  unfold wX3_alikeMarks_B19 at hf
  refine V_iload (j := 5) dX3_alikeMarks_19 rfl ?_
  refine V_aload_n (j := 0) dX3_alikeMarks_21 rfl rfl ?_
  obtain ⟨h7, hf⟩ := hf
  obtain ⟨t8, et8, hf⟩ := hf
  refine V_getR fl_X3_28 rfl h7.1 h7.2 et8 dX3_alikeMarks_22 ?_
  refine V_iload_n (j := 2) dX3_alikeMarks_25 rfl rfl ?_
  obtain ⟨h9, hf⟩ := hf
  obtain ⟨h10, hf⟩ := hf
  refine V_iald h9.1 h9.s h10 dX3_alikeMarks_26 ?_
  refine V_icmp_ge (tgt := 87) dX3_alikeMarks_27 (by decide) (fun h24 => ?_) (fun h24 => ?_)
  · have hf := it_t h24 hf
    refine V_to [0, 1, 2, 3, 4] rfl ?_
    exact vX3_alikeMarks_J87 hn hk5 hf
  · have hf := it_f h24 hf
    refine V_iload_n (j := 3) dX3_alikeMarks_30 rfl rfl ?_
    refine V_iload (j := 5) dX3_alikeMarks_31 rfl ?_
    refine V_ishr dX3_alikeMarks_33 ?_
    refine V_iconst (v := (1 : Int32)) dX3_alikeMarks_34 (by decide) ?_
    refine V_iand dX3_alikeMarks_35 ?_
    refine V_if_ne (tgt := 43) dX3_alikeMarks_36 (by decide) (fun h23 => ?_) (fun h23 => ?_)
    · have hf := it_f h23 hf
      refine V_iconst (v := (0 : Int32)) dX3_alikeMarks_43 (by decide) ?_
      exact vX3_alikeMarks_J44 hn hk5 hk19 hf
    · have hf := it_t (Classical.not_not.mp h23) hf
      refine V_iconst (v := (1 : Int32)) dX3_alikeMarks_39 (by decide) ?_
      refine V_goto (tgt := 44) dX3_alikeMarks_40 (by decide) ?_
      exact vX3_alikeMarks_J44 hn hk5 hk19 hf
set_option maxRecDepth 100000 in
set_option maxHeartbeats 4000000 in
theorem vX3_alikeMarks_L19 {E : gE} {n : Nat} {sh : Nat → Nat × Nat} {P : Int32 → gS → Prop} {k5 : Nat → Int32 → Int32 → Int32 → Int32 → gS → Prop} (hn : gOK E n) (hk5 : ∀ (a0 : Nat) (x1 : Int32) (x2 : Int32) (x3 : Int32) (x4 : Int32) (z : gS), k5 a0 x1 x2 x3 x4 z → V E (gR 1 0) gyX3_alikeMarks 0 0 5 [(0, .ref a0), (1, .int x1), (2, .int x2), (3, .int x3), (4, .int x4)] [] n sh z (kI n sh P)) : ∀ (N : Nat) (a0 : Nat) (x1 : Int32) (x2 : Int32) (x3 : Int32) (x4 : Int32) (x5 : Int32) (z : gS), wX3_alikeMarks_L19 n sh k5 P N a0 x1 x2 x3 x4 x5 z → V E (gR 1 0) gyX3_alikeMarks 0 0 19 [(0, .ref a0), (1, .int x1), (2, .int x2), (3, .int x3), (4, .int x4), (5, .int x5)] [] n sh z (kI n sh P) := by
  intro N
  induction N with
  | zero => intro a0 x1 x2 x3 x4 x5 z hf; exact False.elim hf
  | succ N ih => intro a0 x1 x2 x3 x4 x5 z hf; exact vX3_alikeMarks_B19 hn hk5 ih hf
def wX3_alikeMarks_B5 (n : Nat) (sh : Nat → Nat × Nat) (k5 : Nat → Int32 → Int32 → Int32 → Int32 → gS → Prop) (P : Int32 → gS → Prop) (a0 : Nat) (x1 : Int32) (x2 : Int32) (x3 : Int32) (x4 : Int32) (z : gS) : Prop := (oO n sh a0 6) ∧ (∃ t2 : Nat, gr z a0 6 = some t2 ∧ ((oA n sh t2 1) ∧ ((vp_in x1 (sh t2).2) ∧ (if (gi z t2 x1.toNatClampNeg) ≤ x4 then (wJ6_bitCount_0f7a4 n sh x3 z (fun (r5 : Int32) (z6 : gS) => P r5 z6)) else ((∃ N, wX3_alikeMarks_L19 n sh k5 P N a0 x1 x2 x3 x4 (0 : Int32) z))))))
def wX3_alikeMarks_L5 (n : Nat) (sh : Nat → Nat × Nat) (P : Int32 → gS → Prop) : Nat → Nat → Int32 → Int32 → Int32 → Int32 → gS → Prop
  | 0, _, _, _, _, _, _ => False
  | N + 1, a0, x1, x2, x3, x4, z => wX3_alikeMarks_B5 n sh (wX3_alikeMarks_L5 n sh P N) P a0 x1 x2 x3 x4 z
set_option maxRecDepth 100000 in
set_option maxHeartbeats 4000000 in
theorem vX3_alikeMarks_B5 {E : gE} {n : Nat} {sh : Nat → Nat × Nat} {P : Int32 → gS → Prop} {k5 : Nat → Int32 → Int32 → Int32 → Int32 → gS → Prop} {a0 : Nat} {x1 : Int32} {x2 : Int32} {x3 : Int32} {x4 : Int32} {z : gS} (hn : gOK E n) (hk5 : ∀ (a0 : Nat) (x1 : Int32) (x2 : Int32) (x3 : Int32) (x4 : Int32) (z : gS), k5 a0 x1 x2 x3 x4 z → V E (gR 1 0) gyX3_alikeMarks 0 0 5 [(0, .ref a0), (1, .int x1), (2, .int x2), (3, .int x3), (4, .int x4)] [] n sh z (kI n sh P)) (hf : wX3_alikeMarks_B5 n sh k5 P a0 x1 x2 x3 x4 z) : V E (gR 1 0) gyX3_alikeMarks 0 0 5 [(0, .ref a0), (1, .int x1), (2, .int x2), (3, .int x3), (4, .int x4)] [] n sh z (kI n sh P) := by
  unfold wX3_alikeMarks_B5 at hf
  refine V_iload (j := 4) dX3_alikeMarks_5 rfl ?_
  refine V_aload_n (j := 0) dX3_alikeMarks_7 rfl rfl ?_
  obtain ⟨h1, hf⟩ := hf
  obtain ⟨t2, et2, hf⟩ := hf
  refine V_getR fl_X3_28 rfl h1.1 h1.2 et2 dX3_alikeMarks_8 ?_
  refine V_iload_n (j := 1) dX3_alikeMarks_11 rfl rfl ?_
  obtain ⟨h3, hf⟩ := hf
  obtain ⟨h4, hf⟩ := hf
  refine V_iald h3.1 h3.s h4 dX3_alikeMarks_12 ?_
  refine V_icmp_ge (tgt := 93) dX3_alikeMarks_13 (by decide) (fun h25 => ?_) (fun h25 => ?_)
  · have hf := it_t h25 hf
    refine V_iload_n (j := 3) dX3_alikeMarks_93 rfl rfl ?_
    refine V_cSI (ctJ6_bitCount_0f7a4 hn hf) gc_X3_98 rfl ⟨by decide, by decide, Nat.zero_le _, Nat.zero_le _⟩ (Nat.le_of_ble_eq_true rfl) dX3_alikeMarks_94 rfl hn (fun r5 z6 hf => ?_)
    exact V_ireturn dX3_alikeMarks_97 rfl rfl (Nat.le_refl 0) (kI_of hf)
  · have hf := it_f h25 hf
    refine V_iconst (v := (0 : Int32)) dX3_alikeMarks_16 (by decide) ?_
    refine V_istore (ls2 := [(5, .int (0 : Int32)), (0, .ref a0), (1, .int x1), (2, .int x2), (3, .int x3), (4, .int x4)]) dX3_alikeMarks_17 (by decide) rfl ?_
    obtain ⟨N, hf⟩ := hf
    refine V_to [1, 2, 3, 4, 5, 0] rfl ?_
    exact vX3_alikeMarks_L19 hn hk5 N _ _ _ _ _ _ _ hf
set_option maxRecDepth 100000 in
set_option maxHeartbeats 4000000 in
theorem vX3_alikeMarks_L5 {E : gE} {n : Nat} {sh : Nat → Nat × Nat} {P : Int32 → gS → Prop} (hn : gOK E n) : ∀ (N : Nat) (a0 : Nat) (x1 : Int32) (x2 : Int32) (x3 : Int32) (x4 : Int32) (z : gS), wX3_alikeMarks_L5 n sh P N a0 x1 x2 x3 x4 z → V E (gR 1 0) gyX3_alikeMarks 0 0 5 [(0, .ref a0), (1, .int x1), (2, .int x2), (3, .int x3), (4, .int x4)] [] n sh z (kI n sh P) := by
  intro N
  induction N with
  | zero => intro a0 x1 x2 x3 x4 z hf; exact False.elim hf
  | succ N ih => intro a0 x1 x2 x3 x4 z hf; exact vX3_alikeMarks_B5 hn ih hf
def wX3_alikeMarks (n : Nat) (sh : Nat → Nat × Nat) (a0 : Nat) (x1 : Int32) (x2 : Int32) (z : gS) (P : Int32 → gS → Prop) : Prop := (∃ N, wX3_alikeMarks_L5 n sh P N a0 x1 x2 (0 : Int32) (0 : Int32) z)
set_option maxRecDepth 100000 in
set_option maxHeartbeats 4000000 in
theorem ctX3_alikeMarks {E : gE} {n : Nat} {sh : Nat → Nat × Nat} {a0 : Nat} {x1 : Int32} {x2 : Int32} {z : gS} {P : Int32 → gS → Prop} (hn : gOK E n) (hf : wX3_alikeMarks n sh a0 x1 x2 z P) : VM E 1 0 gyX3_alikeMarks [.ref a0, .int x1, .int x2] n sh z (kI n sh P) := by
  unfold wX3_alikeMarks at hf
  refine VM.of (by decide +kernel) (Nat.le_of_ble_eq_true rfl) (fun _ _ _ h => h.2.2) ?_
  show V E (gR 1 0) gyX3_alikeMarks 0 0 0 [(0, .ref a0), (1, .int x1), (2, .int x2)] [] n sh z (kI n sh P)
  refine V_iconst (v := (0 : Int32)) dX3_alikeMarks_0 (by decide) ?_
  refine V_istore_n (ls2 := [(3, .int (0 : Int32)), (0, .ref a0), (1, .int x1), (2, .int x2)]) dX3_alikeMarks_1 rfl (by decide) rfl ?_
  refine V_iconst (v := (0 : Int32)) dX3_alikeMarks_2 (by decide) ?_
  refine V_istore (ls2 := [(4, .int (0 : Int32)), (3, .int (0 : Int32)), (0, .ref a0), (1, .int x1), (2, .int x2)]) dX3_alikeMarks_3 (by decide) rfl ?_
  obtain ⟨N, hf⟩ := hf
  refine V_to [2, 3, 4, 1, 0] rfl ?_
  exact vX3_alikeMarks_L5 hn N _ _ _ _ _ _ hf
def wX11_twin (n : Nat) (sh : Nat → Nat × Nat) (a0 : Nat) (x1 : Int32) (x2 : Int32) (z : gS) (P : Int32 → gS → Prop) : Prop := (oO n sh a0 7) ∧ (∃ t2 : Nat, gr z a0 7 = some t2 ∧ ((oO n sh t2 4) ∧ (wX7_hasPane n sh t2 x1 z (fun (r3 : Int32) (z4 : gS) => if r3 = 0 then P (-1 : Int32) z4 else (∃ t6 : Nat, gr z4 a0 7 = some t6 ∧ ((oO n sh t6 4) ∧ (wX7_hasPane n sh t6 x2 z4 (fun (r7 : Int32) (z8 : gS) => if r7 = 0 then P (-1 : Int32) z8 else (if x1 = x2 then P (-1 : Int32) z8 else (∃ t10 : Nat, gr z8 a0 1 = some t10 ∧ (wX3_alikeMarks n sh t10 x1 x2 z8 (fun (r11 : Int32) (z12 : gS) => P r11 z12))))))))))))
set_option maxRecDepth 100000 in
set_option maxHeartbeats 4000000 in
theorem ctX11_twin {E : gE} {n : Nat} {sh : Nat → Nat × Nat} {a0 : Nat} {x1 : Int32} {x2 : Int32} {z : gS} {P : Int32 → gS → Prop} (hn : gOK E n) (hf : wX11_twin n sh a0 x1 x2 z P) : VM E 2 0 gyX11_twin [.ref a0, .int x1, .int x2] n sh z (kI n sh P) := by
  unfold wX11_twin at hf
  refine VM.of (by decide +kernel) (Nat.le_of_ble_eq_true rfl) (fun _ _ _ h => h.2.2) ?_
  show V E (gR 2 0) gyX11_twin 0 0 0 [(0, .ref a0), (1, .int x1), (2, .int x2)] [] n sh z (kI n sh P)
  refine V_aload_n (j := 0) dX11_twin_0 rfl rfl ?_
  obtain ⟨h1, hf⟩ := hf
  obtain ⟨t2, et2, hf⟩ := hf
  refine V_getR fl_X11_51 rfl h1.1 h1.2 et2 dX11_twin_1 ?_
  refine V_iload_n (j := 1) dX11_twin_4 rfl rfl ?_
  obtain ⟨h5, hf⟩ := hf
  refine V_cVI (ctX7_hasPane hn hf) gc_X11_101 rfl h5.1 ⟨_, h5.2, by decide, rfl⟩ ⟨by decide, by decide, Nat.zero_le _, Nat.zero_le _⟩ (Nat.le_of_ble_eq_true rfl) dX11_twin_5 rfl hn (fun r3 z4 hf => ?_)
  refine V_if_eq (tgt := 27) dX11_twin_8 (by decide) (fun h15 => ?_) (fun h15 => ?_)
  · have hf := it_t h15 hf
    refine V_iconst (v := (-1 : Int32)) dX11_twin_27 (by decide) ?_
    exact V_ireturn dX11_twin_28 rfl rfl (Nat.le_refl 0) (kI_of hf)
  · have hf := it_f h15 hf
    refine V_aload_n (j := 0) dX11_twin_11 rfl rfl ?_
    obtain ⟨t6, et6, hf⟩ := hf
    refine V_getR fl_X11_51 rfl h1.1 h1.2 et6 dX11_twin_12 ?_
    refine V_iload_n (j := 2) dX11_twin_15 rfl rfl ?_
    obtain ⟨h9, hf⟩ := hf
    refine V_cVI (ctX7_hasPane hn hf) gc_X11_101 rfl h9.1 ⟨_, h9.2, by decide, rfl⟩ ⟨by decide, by decide, Nat.zero_le _, Nat.zero_le _⟩ (Nat.le_of_ble_eq_true rfl) dX11_twin_16 rfl hn (fun r7 z8 hf => ?_)
    refine V_if_eq (tgt := 27) dX11_twin_19 (by decide) (fun h14 => ?_) (fun h14 => ?_)
    · have hf := it_t h14 hf
      refine V_iconst (v := (-1 : Int32)) dX11_twin_27 (by decide) ?_
      exact V_ireturn dX11_twin_28 rfl rfl (Nat.le_refl 0) (kI_of hf)
    · have hf := it_f h14 hf
      refine V_iload_n (j := 1) dX11_twin_22 rfl rfl ?_
      refine V_iload_n (j := 2) dX11_twin_23 rfl rfl ?_
      refine V_icmp_ne (tgt := 29) dX11_twin_24 (by decide) (fun h13 => ?_) (fun h13 => ?_)
      · have hf := it_f h13 hf
        refine V_aload_n (j := 0) dX11_twin_29 rfl rfl ?_
        obtain ⟨t10, et10, hf⟩ := hf
        refine V_getR fl_X11_19 rfl h1.1 h1.2 et10 dX11_twin_30 ?_
        refine V_iload_n (j := 1) dX11_twin_33 rfl rfl ?_
        refine V_iload_n (j := 2) dX11_twin_34 rfl rfl ?_
        refine V_cSI (ctX3_alikeMarks hn hf) gc_X11_276 rfl ⟨by decide, by decide, Nat.zero_le _, Nat.zero_le _⟩ (Nat.le_of_ble_eq_true rfl) dX11_twin_35 rfl hn (fun r11 z12 hf => ?_)
        exact V_ireturn dX11_twin_38 rfl rfl (Nat.le_refl 0) (kI_of hf)
      · have hf := it_t (Classical.not_not.mp h13) hf
        refine V_iconst (v := (-1 : Int32)) dX11_twin_27 (by decide) ?_
        exact V_ireturn dX11_twin_28 rfl rfl (Nat.le_refl 0) (kI_of hf)
def wX11_run_B26 (n : Nat) (sh : Nat → Nat × Nat) (k26 : Nat → Int32 → Int32 → gS → Prop) (P : Int32 → gS → Prop) (a0 : Nat) (x1 : Int32) (x2 : Int32) (z : gS) : Prop := if (99 : Int32) < x2 then P (-1 : Int32) z else ((oO n sh a0 7) ∧ (∃ t12 : Nat, gr z a0 2 = some t12 ∧ ((oO n sh t12 6) ∧ (∃ t14 : Nat, gr z t12 6 = some t14 ∧ ((oA n sh t14 1) ∧ ((vp_in x1 (sh t14).2) ∧ (if (gi z t14 x1.toNatClampNeg) = 0 then P x2 z else (∃ t17 : Nat, gr z a0 2 = some t17 ∧ (∃ t18 : Nat, gr z a0 7 = some t18 ∧ ((oO n sh t17 6) ∧ (wX10_pass n sh t17 t18 z (fun (r19 : Int32) (z20 : gS) => ∀ v22 : Int32, v22 = x2 + (1 : Int32) → k26 a0 x1 v22 z20))))))))))))
def wX11_run_L26 (n : Nat) (sh : Nat → Nat × Nat) (P : Int32 → gS → Prop) : Nat → Nat → Int32 → Int32 → gS → Prop
  | 0, _, _, _, _ => False
  | N + 1, a0, x1, x2, z => wX11_run_B26 n sh (wX11_run_L26 n sh P N) P a0 x1 x2 z
set_option maxRecDepth 100000 in
set_option maxHeartbeats 4000000 in
theorem vX11_run_B26 {E : gE} {n : Nat} {sh : Nat → Nat × Nat} {P : Int32 → gS → Prop} {k26 : Nat → Int32 → Int32 → gS → Prop} {a0 : Nat} {x1 : Int32} {x2 : Int32} {z : gS} (hn : gOK E n) (hk26 : ∀ (a0 : Nat) (x1 : Int32) (x2 : Int32) (z : gS), k26 a0 x1 x2 z → V E (gR 4 0) gyX11_run 0 0 26 [(0, .ref a0), (1, .int x1), (2, .int x2)] [] n sh z (kI n sh P)) (hf : wX11_run_B26 n sh k26 P a0 x1 x2 z) : V E (gR 4 0) gyX11_run 0 0 26 [(0, .ref a0), (1, .int x1), (2, .int x2)] [] n sh z (kI n sh P) := by
  unfold wX11_run_B26 at hf
  refine V_iload_n (j := 2) dX11_run_26 rfl rfl ?_
  refine V_bipush (v := (99 : Int32)) dX11_run_27 (by decide) ?_
  refine V_icmp_gt (tgt := 64) dX11_run_29 (by decide) (fun h24 => ?_) (fun h24 => ?_)
  · have hf := it_t h24 hf
    refine V_iconst (v := (-1 : Int32)) dX11_run_64 (by decide) ?_
    exact V_ireturn dX11_run_65 rfl rfl (Nat.le_refl 0) (kI_of hf)
  · have hf := it_f h24 hf
    refine V_aload_n (j := 0) dX11_run_32 rfl rfl ?_
    obtain ⟨h11, hf⟩ := hf
    obtain ⟨t12, et12, hf⟩ := hf
    refine V_getR fl_X11_23 rfl h11.1 h11.2 et12 dX11_run_33 ?_
    obtain ⟨h13, hf⟩ := hf
    obtain ⟨t14, et14, hf⟩ := hf
    refine V_getR fl_X11_112 rfl h13.1 h13.2 et14 dX11_run_36 ?_
    refine V_iload_n (j := 1) dX11_run_39 rfl rfl ?_
    obtain ⟨h15, hf⟩ := hf
    obtain ⟨h16, hf⟩ := hf
    refine V_iald h15.1 h15.s h16 dX11_run_40 ?_
    refine V_if_ne (tgt := 46) dX11_run_41 (by decide) (fun h23 => ?_) (fun h23 => ?_)
    · have hf := it_f h23 hf
      refine V_aload_n (j := 0) dX11_run_46 rfl rfl ?_
      obtain ⟨t17, et17, hf⟩ := hf
      refine V_getR fl_X11_23 rfl h11.1 h11.2 et17 dX11_run_47 ?_
      refine V_aload_n (j := 0) dX11_run_50 rfl rfl ?_
      obtain ⟨t18, et18, hf⟩ := hf
      refine V_getR fl_X11_51 rfl h11.1 h11.2 et18 dX11_run_51 ?_
      obtain ⟨h21, hf⟩ := hf
      refine V_cVI (ctX10_pass hn hf) gc_X11_185 rfl h21.1 ⟨_, h21.2, by decide, rfl⟩ ⟨by decide, by decide, Nat.zero_le _, Nat.zero_le _⟩ (Nat.le_of_ble_eq_true rfl) dX11_run_54 rfl hn (fun r19 z20 hf => ?_)
      refine V_pop dX11_run_57 rfl ?_
      obtain ⟨v22, ev22⟩ : ∃ y : Int32, y = x2 + (1 : Int32) := ⟨_, rfl⟩
      refine V_iinc (j := 2) (v := v22) (ls2 := [(2, .int v22), (0, .ref a0), (1, .int x1)]) dX11_run_58 rfl (by rw [ev22]; rfl) (by decide) rfl ?_
      have hf := hf v22 ev22
      refine V_goto (tgt := 26) dX11_run_61 (by decide) ?_
      refine V_to [1, 2, 0] rfl ?_
      exact hk26 _ _ _ _ hf
    · have hf := it_t (Classical.not_not.mp h23) hf
      refine V_iload_n (j := 2) dX11_run_44 rfl rfl ?_
      exact V_ireturn dX11_run_45 rfl rfl (Nat.le_refl 0) (kI_of hf)
set_option maxRecDepth 100000 in
set_option maxHeartbeats 4000000 in
theorem vX11_run_L26 {E : gE} {n : Nat} {sh : Nat → Nat × Nat} {P : Int32 → gS → Prop} (hn : gOK E n) : ∀ (N : Nat) (a0 : Nat) (x1 : Int32) (x2 : Int32) (z : gS), wX11_run_L26 n sh P N a0 x1 x2 z → V E (gR 4 0) gyX11_run 0 0 26 [(0, .ref a0), (1, .int x1), (2, .int x2)] [] n sh z (kI n sh P) := by
  intro N
  induction N with
  | zero => intro a0 x1 x2 z hf; exact False.elim hf
  | succ N ih => intro a0 x1 x2 z hf; exact vX11_run_B26 hn ih hf
def wX11_run (n : Nat) (sh : Nat → Nat × Nat) (a0 : Nat) (x1 : Int32) (z : gS) (P : Int32 → gS → Prop) : Prop := (oO n sh a0 7) ∧ (∃ t2 : Nat, gr z a0 7 = some t2 ∧ ((oO n sh t2 4) ∧ (wX7_hasPane n sh t2 x1 z (fun (r3 : Int32) (z4 : gS) => if r3 = 0 then P (-1 : Int32) z4 else (∃ t6 : Nat, gr z4 a0 2 = some t6 ∧ (∃ t7 : Nat, gr z4 a0 1 = some t7 ∧ ((oO n sh t6 6) ∧ (wX10_copy n sh t6 t7 z4 (fun (z9 : gS) => (∃ N, wX11_run_L26 n sh P N a0 x1 (0 : Int32) z9))))))))))
set_option maxRecDepth 100000 in
set_option maxHeartbeats 4000000 in
theorem ctX11_run {E : gE} {n : Nat} {sh : Nat → Nat × Nat} {a0 : Nat} {x1 : Int32} {z : gS} {P : Int32 → gS → Prop} (hn : gOK E n) (hf : wX11_run n sh a0 x1 z P) : VM E 4 0 gyX11_run [.ref a0, .int x1] n sh z (kI n sh P) := by
  unfold wX11_run at hf
  refine VM.of (by decide +kernel) (Nat.le_of_ble_eq_true rfl) (fun _ _ _ h => h.2.2) ?_
  show V E (gR 4 0) gyX11_run 0 0 0 [(0, .ref a0), (1, .int x1)] [] n sh z (kI n sh P)
  refine V_aload_n (j := 0) dX11_run_0 rfl rfl ?_
  obtain ⟨h1, hf⟩ := hf
  obtain ⟨t2, et2, hf⟩ := hf
  refine V_getR fl_X11_51 rfl h1.1 h1.2 et2 dX11_run_1 ?_
  refine V_iload_n (j := 1) dX11_run_4 rfl rfl ?_
  obtain ⟨h5, hf⟩ := hf
  refine V_cVI (ctX7_hasPane hn hf) gc_X11_101 rfl h5.1 ⟨_, h5.2, by decide, rfl⟩ ⟨by decide, by decide, Nat.zero_le _, Nat.zero_le _⟩ (Nat.le_of_ble_eq_true rfl) dX11_run_5 rfl hn (fun r3 z4 hf => ?_)
  refine V_if_ne (tgt := 13) dX11_run_8 (by decide) (fun h25 => ?_) (fun h25 => ?_)
  · have hf := it_f h25 hf
    refine V_aload_n (j := 0) dX11_run_13 rfl rfl ?_
    obtain ⟨t6, et6, hf⟩ := hf
    refine V_getR fl_X11_23 rfl h1.1 h1.2 et6 dX11_run_14 ?_
    refine V_aload_n (j := 0) dX11_run_17 rfl rfl ?_
    obtain ⟨t7, et7, hf⟩ := hf
    refine V_getR fl_X11_19 rfl h1.1 h1.2 et7 dX11_run_18 ?_
    obtain ⟨h10, hf⟩ := hf
    refine V_cVN (ctX10_copy hn hf) gc_X11_280 rfl h10.1 ⟨_, h10.2, by decide, rfl⟩ ⟨by decide, by decide, Nat.zero_le _, Nat.zero_le _⟩ (Nat.le_of_ble_eq_true rfl) dX11_run_21 rfl hn (fun z9 hf => ?_)
    refine V_iconst (v := (0 : Int32)) dX11_run_24 (by decide) ?_
    refine V_istore_n (ls2 := [(2, .int (0 : Int32)), (0, .ref a0), (1, .int x1)]) dX11_run_25 rfl (by decide) rfl ?_
    obtain ⟨N, hf⟩ := hf
    refine V_to [1, 2, 0] rfl ?_
    exact vX11_run_L26 hn N _ _ _ _ hf
  · have hf := it_t (Classical.not_not.mp h25) hf
    refine V_iconst (v := (-1 : Int32)) dX11_run_11 (by decide) ?_
    exact V_ireturn dX11_run_12 rfl rfl (Nat.le_refl 0) (kI_of hf)
def wX2_draw (n : Nat) (sh : Nat → Nat × Nat) (a0 : Nat) (x1 : Int32) (z : gS) (P : Int32 → gS → Prop) : Prop := (oO n sh a0 1) ∧ (∀ z2 : gS, z2 = sl z a0 0 ((((gl z a0 0) * (1103515245 : Int64)) + (12345 : Int64)) - (((gl z a0 0) * (1103515245 : Int64)) + (12345 : Int64)) / (2147483648 : Int64) * (2147483648 : Int64)) → (if 0 < x1 then ((¬ x1.toInt64 = 0) ∧ P (((gl z2 a0 0) / (65536 : Int64)) - ((gl z2 a0 0) / (65536 : Int64)) / x1.toInt64 * x1.toInt64).toInt32 z2) else P (0 : Int32) z2))
set_option maxRecDepth 100000 in
set_option maxHeartbeats 4000000 in
theorem ctX2_draw {E : gE} {n : Nat} {sh : Nat → Nat × Nat} {a0 : Nat} {x1 : Int32} {z : gS} {P : Int32 → gS → Prop} (hn : gOK E n) (hf : wX2_draw n sh a0 x1 z P) : VM E 0 0 gyX2_draw [.ref a0, .int x1] n sh z (kI n sh P) := by
  unfold wX2_draw at hf
  refine VM.of (by decide +kernel) (Nat.le_of_ble_eq_true rfl) (fun _ _ _ h => h.2.2) ?_
  show V E (gR 0 0) gyX2_draw 0 0 0 [(0, .ref a0), (1, .int x1)] [] n sh z (kI n sh P)
  refine V_aload_n (j := 0) dX2_draw_0 rfl rfl ?_
  refine V_aload_n (j := 0) dX2_draw_1 rfl rfl ?_
  obtain ⟨h1, hf⟩ := hf
  refine V_getL fl_X2_7 rfl h1.1 h1.2 dX2_draw_2 ?_
  refine V_ldc2 dX2_draw_5 rfl kj_X2_61 ?_
  refine V_lmul dX2_draw_8 ?_
  refine V_ldc2 dX2_draw_9 rfl kj_X2_63 ?_
  refine V_ladd dX2_draw_12 ?_
  refine V_ldc2 dX2_draw_13 rfl kj_X2_65 ?_
  refine V_lrem dX2_draw_16 (by decide) ?_
  refine V_putL fl_X2_7 rfl rfl rfl rfl h1.1 h1.2 dX2_draw_17 ?_
  refine V_nz (fun z2 ez2 => ?_)
  have hf := hf z2 ez2
  refine V_iload_n (j := 1) dX2_draw_20 rfl rfl ?_
  refine V_if_gt (tgt := 28) dX2_draw_21 (by decide) (fun h4 => ?_) (fun h4 => ?_)
  · have hf := it_t h4 hf
    refine V_aload_n (j := 0) dX2_draw_28 rfl rfl ?_
    refine V_getL fl_X2_7 rfl h1.1 h1.2 dX2_draw_29 ?_
    refine V_ldc2 dX2_draw_32 rfl kj_X2_67 ?_
    refine V_ldiv dX2_draw_35 (by decide) ?_
    refine V_iload_n (j := 1) dX2_draw_36 rfl rfl ?_
    refine V_i2l dX2_draw_37 ?_
    obtain ⟨h3, hf⟩ := hf
    refine V_lrem dX2_draw_38 h3 ?_
    refine V_l2i dX2_draw_39 ?_
    exact V_ireturn dX2_draw_40 rfl rfl (Nat.le_refl 0) (kI_of hf)
  · have hf := it_f h4 hf
    refine V_iconst (v := (0 : Int32)) dX2_draw_24 (by decide) ?_
    refine V_goto (tgt := 40) dX2_draw_25 (by decide) ?_
    exact V_ireturn dX2_draw_40 rfl rfl (Nat.le_refl 0) (kI_of hf)
def wX2_playPerson_J87 (n : Nat) (sh : Nat → Nat × Nat) (P : gS → Prop) (s0 : Int32) (s1 : Int32) (s2 : Nat) (z : gS) : Prop := (oO n sh s2 1) ∧ (∀ z12 : gS, z12 = si z s2 2 (s1 + s0) → P z12)
set_option maxRecDepth 100000 in
set_option maxHeartbeats 4000000 in
theorem vX2_playPerson_J87 {E : gE} {n : Nat} {sh : Nat → Nat × Nat} {P : gS → Prop} {s0 : Int32} {s1 : Int32} {s2 : Nat} {z : gS} (hn : gOK E n) (hf : wX2_playPerson_J87 n sh P s0 s1 s2 z) : V E (gR 5 0) gyX2_playPerson 0 0 87 [] [.int s0, .int s1, .ref s2] n sh z (kN n sh P) := by
  unfold wX2_playPerson_J87 at hf
  refine V_iadd dX2_playPerson_87 ?_
  obtain ⟨h11, hf⟩ := hf
  refine V_putI fl_X2_17 rfl rfl rfl rfl h11.1 h11.2 dX2_playPerson_88 ?_
  refine V_nz (fun z12 ez12 => ?_)
  have hf := hf z12 ez12
  exact V_return dX2_playPerson_91 rfl (Nat.le_refl 0) (kN_of hf)
def wX2_playPerson_J31 (n : Nat) (sh : Nat → Nat × Nat) (P : gS → Prop) (s0 : Int32) (s1 : Int32) (s2 : Int32) (s3 : Nat) (z : gS) : Prop := (oO n sh s3 6) ∧ (wX10_steps n sh s3 s2 (s1 + s0) z (fun (r19 : Int32) (z20 : gS) => P z20))
set_option maxRecDepth 100000 in
set_option maxHeartbeats 4000000 in
theorem vX2_playPerson_J31 {E : gE} {n : Nat} {sh : Nat → Nat × Nat} {P : gS → Prop} {s0 : Int32} {s1 : Int32} {s2 : Int32} {s3 : Nat} {z : gS} (hn : gOK E n) (hf : wX2_playPerson_J31 n sh P s0 s1 s2 s3 z) : V E (gR 5 0) gyX2_playPerson 0 0 31 [] [.int s0, .int s1, .int s2, .ref s3] n sh z (kN n sh P) := by
  unfold wX2_playPerson_J31 at hf
  refine V_iadd dX2_playPerson_31 ?_
  obtain ⟨h21, hf⟩ := hf
  refine V_cVI (ctX10_steps hn hf) gc_X2_50 rfl h21.1 ⟨_, h21.2, by decide, rfl⟩ ⟨by decide, by decide, Nat.zero_le _, Nat.zero_le _⟩ (Nat.le_of_ble_eq_true rfl) dX2_playPerson_32 rfl hn (fun r19 z20 hf => ?_)
  refine V_pop dX2_playPerson_35 rfl ?_
  refine V_goto (tgt := 91) dX2_playPerson_36 (by decide) ?_
  exact V_return dX2_playPerson_91 rfl (Nat.le_refl 0) (kN_of hf)
def wX2_playPerson (n : Nat) (sh : Nat → Nat × Nat) (a0 : Nat) (a1 : Nat) (a2 : Nat) (x3 : Int32) (z : gS) (P : gS → Prop) : Prop := (oO n sh a0 1) ∧ (wX2_draw n sh a0 (3 : Int32) z (fun (r1 : Int32) (z2 : gS) => if (2 : Int32) ≤ r1 then ((oO n sh a1 4) ∧ (if (gi z2 a1 12) ≤ 0 then P z2 else (wX2_draw n sh a0 (gi z2 a1 12) z2 (fun (r5 : Int32) (z6 : gS) => (oO n sh a2 6) ∧ (wX10_act n sh a2 a1 x3 r5 z6 (fun (r7 : Int32) (z8 : gS) => ∀ z10 : gS, z10 = si z8 a0 1 ((gi z8 a0 1) + (1 : Int32)) → (if r7 = 0 then wX2_playPerson_J87 n sh P (1 : Int32) (gi z10 a0 2) a0 z10 else wX2_playPerson_J87 n sh P (0 : Int32) (gi z10 a0 2) a0 z10))))))) else ((oO n sh a2 6) ∧ (∃ t16 : Nat, gr z2 a2 5 = some t16 ∧ ((oA n sh t16 1) ∧ ((vp_in x3 (sh t16).2) ∧ (if r1 = 0 then wX2_playPerson_J31 n sh P (-1 : Int32) (gi z2 t16 x3.toNatClampNeg) x3 a2 z2 else wX2_playPerson_J31 n sh P (1 : Int32) (gi z2 t16 x3.toNatClampNeg) x3 a2 z2)))))))
set_option maxRecDepth 100000 in
set_option maxHeartbeats 4000000 in
theorem ctX2_playPerson {E : gE} {n : Nat} {sh : Nat → Nat × Nat} {a0 : Nat} {a1 : Nat} {a2 : Nat} {x3 : Int32} {z : gS} {P : gS → Prop} (hn : gOK E n) (hf : wX2_playPerson n sh a0 a1 a2 x3 z P) : VM E 5 0 gyX2_playPerson [.ref a0, .ref a1, .ref a2, .int x3] n sh z (kN n sh P) := by
  unfold wX2_playPerson at hf
  refine VM.of (by decide +kernel) (Nat.le_of_ble_eq_true rfl) (fun _ _ _ h => h.2.2) ?_
  show V E (gR 5 0) gyX2_playPerson 0 0 0 [(0, .ref a0), (1, .ref a1), (2, .ref a2), (3, .int x3)] [] n sh z (kN n sh P)
  refine V_aload_n (j := 0) dX2_playPerson_0 rfl rfl ?_
  refine V_iconst (v := (3 : Int32)) dX2_playPerson_1 (by decide) ?_
  obtain ⟨h3, hf⟩ := hf
  refine V_cVI (ctX2_draw hn hf) gc_X2_32 rfl h3.1 ⟨_, h3.2, by decide, rfl⟩ ⟨by decide, by decide, Nat.zero_le _, Nat.zero_le _⟩ (Nat.le_of_ble_eq_true rfl) dX2_playPerson_2 rfl hn (fun r1 z2 hf => ?_)
  refine V_istore (ls2 := [(4, .int r1), (0, .ref a0), (1, .ref a1), (2, .ref a2), (3, .int x3)]) dX2_playPerson_5 (by decide) rfl ?_
  refine V_iload (j := 0) dX2_playPerson_7 rfl ?_
  refine V_iconst (v := (2 : Int32)) dX2_playPerson_9 (by decide) ?_
  refine V_icmp_ge (tgt := 39) dX2_playPerson_10 (by decide) (fun h23 => ?_) (fun h23 => ?_)
  · have hf := it_t h23 hf
    refine V_aload_n (j := 2) dX2_playPerson_39 rfl rfl ?_
    obtain ⟨h4, hf⟩ := hf
    refine V_getI fl_X2_54 rfl h4.1 h4.2 dX2_playPerson_40 ?_
    refine V_if_le (tgt := 91) dX2_playPerson_43 (by decide) (fun h14 => ?_) (fun h14 => ?_)
    · have hf := it_t h14 hf
      exact V_return dX2_playPerson_91 rfl (Nat.le_refl 0) (kN_of hf)
    · have hf := it_f h14 hf
      refine V_aload_n (j := 3) dX2_playPerson_46 rfl rfl ?_
      refine V_aload_n (j := 2) dX2_playPerson_47 rfl rfl ?_
      refine V_iload_n (j := 4) dX2_playPerson_48 rfl rfl ?_
      refine V_aload_n (j := 1) dX2_playPerson_49 rfl rfl ?_
      refine V_aload_n (j := 2) dX2_playPerson_50 rfl rfl ?_
      refine V_getI fl_X2_54 rfl h4.1 h4.2 dX2_playPerson_51 ?_
      refine V_cVI (ctX2_draw hn hf) gc_X2_32 rfl h3.1 ⟨_, h3.2, by decide, rfl⟩ ⟨by decide, by decide, Nat.zero_le _, Nat.zero_le _⟩ (Nat.le_of_ble_eq_true rfl) dX2_playPerson_54 rfl hn (fun r5 z6 hf => ?_)
      obtain ⟨h9, hf⟩ := hf
      refine V_cVI (ctX10_act hn hf) gc_X2_57 rfl h9.1 ⟨_, h9.2, by decide, rfl⟩ ⟨by decide, by decide, Nat.zero_le _, Nat.zero_le _⟩ (Nat.le_of_ble_eq_true rfl) dX2_playPerson_57 rfl hn (fun r7 z8 hf => ?_)
      refine V_istore (ls2 := [(5, .int r7), (4, .int r1), (0, .ref a0), (1, .ref a1), (2, .ref a2), (3, .int x3)]) dX2_playPerson_60 (by decide) rfl ?_
      refine V_aload_n (j := 2) dX2_playPerson_62 rfl rfl ?_
      refine V_dup dX2_playPerson_63 rfl ?_
      refine V_getI fl_X2_13 rfl h3.1 h3.2 dX2_playPerson_64 ?_
      refine V_iconst (v := (1 : Int32)) dX2_playPerson_67 (by decide) ?_
      refine V_iadd dX2_playPerson_68 ?_
      refine V_putI fl_X2_13 rfl rfl rfl rfl h3.1 h3.2 dX2_playPerson_69 ?_
      refine V_nz (fun z10 ez10 => ?_)
      have hf := hf z10 ez10
      refine V_aload_n (j := 2) dX2_playPerson_72 rfl rfl ?_
      refine V_dup dX2_playPerson_73 rfl ?_
      refine V_getI fl_X2_17 rfl h3.1 h3.2 dX2_playPerson_74 ?_
      refine V_iload (j := 0) dX2_playPerson_77 rfl ?_
      refine V_if_ne (tgt := 86) dX2_playPerson_79 (by decide) (fun h13 => ?_) (fun h13 => ?_)
      · have hf := it_f h13 hf
        refine V_iconst (v := (0 : Int32)) dX2_playPerson_86 (by decide) ?_
        refine V_to [] rfl ?_
        exact vX2_playPerson_J87 hn hf
      · have hf := it_t (Classical.not_not.mp h13) hf
        refine V_iconst (v := (1 : Int32)) dX2_playPerson_82 (by decide) ?_
        refine V_goto (tgt := 87) dX2_playPerson_83 (by decide) ?_
        refine V_to [] rfl ?_
        exact vX2_playPerson_J87 hn hf
  · have hf := it_f h23 hf
    refine V_aload_n (j := 3) dX2_playPerson_13 rfl rfl ?_
    refine V_iload_n (j := 4) dX2_playPerson_14 rfl rfl ?_
    refine V_aload_n (j := 3) dX2_playPerson_15 rfl rfl ?_
    obtain ⟨h15, hf⟩ := hf
    obtain ⟨t16, et16, hf⟩ := hf
    refine V_getR fl_X2_46 rfl h15.1 h15.2 et16 dX2_playPerson_16 ?_
    refine V_iload_n (j := 4) dX2_playPerson_19 rfl rfl ?_
    obtain ⟨h17, hf⟩ := hf
    obtain ⟨h18, hf⟩ := hf
    refine V_iald h17.1 h17.s h18 dX2_playPerson_20 ?_
    refine V_iload (j := 0) dX2_playPerson_21 rfl ?_
    refine V_if_ne (tgt := 30) dX2_playPerson_23 (by decide) (fun h22 => ?_) (fun h22 => ?_)
    · have hf := it_f h22 hf
      refine V_iconst (v := (1 : Int32)) dX2_playPerson_30 (by decide) ?_
      refine V_to [] rfl ?_
      exact vX2_playPerson_J31 hn hf
    · have hf := it_t (Classical.not_not.mp h22) hf
      refine V_iconst (v := (-1 : Int32)) dX2_playPerson_26 (by decide) ?_
      refine V_goto (tgt := 31) dX2_playPerson_27 (by decide) ?_
      refine V_to [] rfl ?_
      exact vX2_playPerson_J31 hn hf
def wX2_play_J81 (n : Nat) (sh : Nat → Nat × Nat) (k19 : Nat → Nat → Nat → Int32 → Int32 → gS → Prop) (P : gS → Prop) (a0 : Nat) (a1 : Nat) (a2 : Nat) (x4 : Int32) (x5 : Int32) (z : gS) : Prop := (oO n sh a2 6) ∧ (wX10_pass n sh a2 a1 z (fun (r6 : Int32) (z7 : gS) => ∀ v9 : Int32, v9 = x5 + (1 : Int32) → k19 a0 a1 a2 x4 v9 z7))
set_option maxRecDepth 100000 in
set_option maxHeartbeats 4000000 in
theorem vX2_play_J81 {E : gE} {n : Nat} {sh : Nat → Nat × Nat} {P : gS → Prop} {k19 : Nat → Nat → Nat → Int32 → Int32 → gS → Prop} {a0 : Nat} {a1 : Nat} {a2 : Nat} {x4 : Int32} {x5 : Int32} {z : gS} (hn : gOK E n) (hk19 : ∀ (a0 : Nat) (a1 : Nat) (a2 : Nat) (x4 : Int32) (x5 : Int32) (z : gS), k19 a0 a1 a2 x4 x5 z → V E (gR 6 0) gyX2_play 0 0 19 [(0, .ref a0), (1, .ref a1), (2, .ref a2), (4, .int x4), (5, .int x5)] [] n sh z (kN n sh P)) (hf : wX2_play_J81 n sh k19 P a0 a1 a2 x4 x5 z) : V E (gR 6 0) gyX2_play 0 0 81 [(0, .ref a0), (1, .ref a1), (2, .ref a2), (4, .int x4), (5, .int x5)] [] n sh z (kN n sh P) := by
  unfold wX2_play_J81 at hf
  refine V_aload_n (j := 2) dX2_play_81 rfl rfl ?_
  refine V_aload_n (j := 1) dX2_play_82 rfl rfl ?_
  obtain ⟨h8, hf⟩ := hf
  refine V_cVI (ctX10_pass hn hf) gc_X2_42 rfl h8.1 ⟨_, h8.2, by decide, rfl⟩ ⟨by decide, by decide, Nat.zero_le _, Nat.zero_le _⟩ (Nat.le_of_ble_eq_true rfl) dX2_play_83 rfl hn (fun r6 z7 hf => ?_)
  refine V_pop dX2_play_86 rfl ?_
  obtain ⟨v9, ev9⟩ : ∃ y : Int32, y = x5 + (1 : Int32) := ⟨_, rfl⟩
  refine V_iinc (j := 4) (v := v9) (ls2 := [(5, .int v9), (0, .ref a0), (1, .ref a1), (2, .ref a2), (4, .int x4)]) dX2_play_87 rfl (by rw [ev9]; rfl) (by decide) rfl ?_
  have hf := hf v9 ev9
  refine V_goto (tgt := 19) dX2_play_90 (by decide) ?_
  refine V_to [1, 2, 3, 4, 0] rfl ?_
  exact hk19 _ _ _ _ _ _ hf
def wX2_play_B29 (n : Nat) (sh : Nat → Nat × Nat) (k19 : Nat → Nat → Nat → Int32 → Int32 → gS → Prop) (k29 : Nat → Nat → Nat → Int32 → Int32 → Int32 → gS → Prop) (P : gS → Prop) (a0 : Nat) (a1 : Nat) (a2 : Nat) (x4 : Int32) (x5 : Int32) (x6 : Int32) (z : gS) : Prop := (oO n sh a1 4) ∧ (if (gi z a1 11) ≤ x6 then (if (gi z a1 10) ≤ 0 then wX2_play_J81 n sh k19 P a0 a1 a2 x4 x5 z else ((oO n sh a0 1) ∧ (wX2_draw n sh a0 (9 : Int32) z (fun (r10 : Int32) (z11 : gS) => if r10 = 0 then (wX2_draw n sh a0 (gi z11 a1 10) z11 (fun (r13 : Int32) (z14 : gS) => (oO n sh a2 6) ∧ (wX10_rinses n sh a2 r13 z14 (fun (r15 : Int32) (z16 : gS) => wX2_play_J81 n sh k19 P a0 a1 a2 x4 x5 z16)))) else wX2_play_J81 n sh k19 P a0 a1 a2 x4 x5 z11)))) else ((oO n sh a0 1) ∧ (wX2_playPerson n sh a0 a1 a2 x6 z (fun (z21 : gS) => ∀ v23 : Int32, v23 = x6 + (1 : Int32) → k29 a0 a1 a2 x4 x5 v23 z21))))
def wX2_play_L29 (n : Nat) (sh : Nat → Nat × Nat) (k19 : Nat → Nat → Nat → Int32 → Int32 → gS → Prop) (P : gS → Prop) : Nat → Nat → Nat → Nat → Int32 → Int32 → Int32 → gS → Prop
  | 0, _, _, _, _, _, _, _ => False
  | N + 1, a0, a1, a2, x4, x5, x6, z => wX2_play_B29 n sh k19 (wX2_play_L29 n sh k19 P N) P a0 a1 a2 x4 x5 x6 z
set_option maxRecDepth 100000 in
set_option maxHeartbeats 4000000 in
theorem vX2_play_B29 {E : gE} {n : Nat} {sh : Nat → Nat × Nat} {P : gS → Prop} {k19 : Nat → Nat → Nat → Int32 → Int32 → gS → Prop} {k29 : Nat → Nat → Nat → Int32 → Int32 → Int32 → gS → Prop} {a0 : Nat} {a1 : Nat} {a2 : Nat} {x4 : Int32} {x5 : Int32} {x6 : Int32} {z : gS} (hn : gOK E n) (hk19 : ∀ (a0 : Nat) (a1 : Nat) (a2 : Nat) (x4 : Int32) (x5 : Int32) (z : gS), k19 a0 a1 a2 x4 x5 z → V E (gR 6 0) gyX2_play 0 0 19 [(0, .ref a0), (1, .ref a1), (2, .ref a2), (4, .int x4), (5, .int x5)] [] n sh z (kN n sh P)) (hk29 : ∀ (a0 : Nat) (a1 : Nat) (a2 : Nat) (x4 : Int32) (x5 : Int32) (x6 : Int32) (z : gS), k29 a0 a1 a2 x4 x5 x6 z → V E (gR 6 0) gyX2_play 0 0 29 [(0, .ref a0), (1, .ref a1), (2, .ref a2), (4, .int x4), (5, .int x5), (6, .int x6)] [] n sh z (kN n sh P)) (hf : wX2_play_B29 n sh k19 k29 P a0 a1 a2 x4 x5 x6 z) : V E (gR 6 0) gyX2_play 0 0 29 [(0, .ref a0), (1, .ref a1), (2, .ref a2), (4, .int x4), (5, .int x5), (6, .int x6)] [] n sh z (kN n sh P) := by
  unfold wX2_play_B29 at hf
  refine V_iload (j := 5) dX2_play_29 rfl ?_
  refine V_aload_n (j := 1) dX2_play_31 rfl rfl ?_
  obtain ⟨h5, hf⟩ := hf
  refine V_getI fl_X2_20 rfl h5.1 h5.2 dX2_play_32 ?_
  refine V_icmp_ge (tgt := 52) dX2_play_35 (by decide) (fun h24 => ?_) (fun h24 => ?_)
  · have hf := it_t h24 hf
    refine V_aload_n (j := 1) dX2_play_52 rfl rfl ?_
    refine V_getI fl_X2_29 rfl h5.1 h5.2 dX2_play_53 ?_
    refine V_if_le (tgt := 81) dX2_play_56 (by decide) (fun h19 => ?_) (fun h19 => ?_)
    · have hf := it_t h19 hf
      refine V_to [0, 1, 2, 3, 4] rfl ?_
      exact vX2_play_J81 hn hk19 hf
    · have hf := it_f h19 hf
      refine V_aload_n (j := 0) dX2_play_59 rfl rfl ?_
      refine V_bipush (v := (9 : Int32)) dX2_play_60 (by decide) ?_
      obtain ⟨h12, hf⟩ := hf
      refine V_cVI (ctX2_draw hn hf) gc_X2_32 rfl h12.1 ⟨_, h12.2, by decide, rfl⟩ ⟨by decide, by decide, Nat.zero_le _, Nat.zero_le _⟩ (Nat.le_of_ble_eq_true rfl) dX2_play_62 rfl hn (fun r10 z11 hf => ?_)
      refine V_if_ne (tgt := 81) dX2_play_65 (by decide) (fun h18 => ?_) (fun h18 => ?_)
      · have hf := it_f h18 hf
        refine V_to [0, 1, 2, 3, 4] rfl ?_
        exact vX2_play_J81 hn hk19 hf
      · have hf := it_t (Classical.not_not.mp h18) hf
        refine V_aload_n (j := 2) dX2_play_68 rfl rfl ?_
        refine V_aload_n (j := 0) dX2_play_69 rfl rfl ?_
        refine V_aload_n (j := 1) dX2_play_70 rfl rfl ?_
        refine V_getI fl_X2_29 rfl h5.1 h5.2 dX2_play_71 ?_
        refine V_cVI (ctX2_draw hn hf) gc_X2_32 rfl h12.1 ⟨_, h12.2, by decide, rfl⟩ ⟨by decide, by decide, Nat.zero_le _, Nat.zero_le _⟩ (Nat.le_of_ble_eq_true rfl) dX2_play_74 rfl hn (fun r13 z14 hf => ?_)
        obtain ⟨h17, hf⟩ := hf
        refine V_cVI (ctX10_rinses hn hf) gc_X2_36 rfl h17.1 ⟨_, h17.2, by decide, rfl⟩ ⟨by decide, by decide, Nat.zero_le _, Nat.zero_le _⟩ (Nat.le_of_ble_eq_true rfl) dX2_play_77 rfl hn (fun r15 z16 hf => ?_)
        refine V_pop dX2_play_80 rfl ?_
        refine V_to [0, 1, 2, 3, 4] rfl ?_
        exact vX2_play_J81 hn hk19 hf
  · have hf := it_f h24 hf
    refine V_aload_n (j := 0) dX2_play_38 rfl rfl ?_
    refine V_aload_n (j := 1) dX2_play_39 rfl rfl ?_
    refine V_aload_n (j := 2) dX2_play_40 rfl rfl ?_
    refine V_iload (j := 5) dX2_play_41 rfl ?_
    obtain ⟨h22, hf⟩ := hf
    refine V_cVN (ctX2_playPerson hn hf) gc_X2_25 rfl h22.1 ⟨_, h22.2, by decide, rfl⟩ ⟨by decide, by decide, Nat.zero_le _, Nat.zero_le _⟩ (Nat.le_of_ble_eq_true rfl) dX2_play_43 rfl hn (fun z21 hf => ?_)
    obtain ⟨v23, ev23⟩ : ∃ y : Int32, y = x6 + (1 : Int32) := ⟨_, rfl⟩
    refine V_iinc (j := 5) (v := v23) (ls2 := [(6, .int v23), (0, .ref a0), (1, .ref a1), (2, .ref a2), (4, .int x4), (5, .int x5)]) dX2_play_46 rfl (by rw [ev23]; rfl) (by decide) rfl ?_
    have hf := hf v23 ev23
    refine V_goto (tgt := 29) dX2_play_49 (by decide) ?_
    refine V_to [1, 2, 3, 4, 5, 0] rfl ?_
    exact hk29 _ _ _ _ _ _ _ hf
set_option maxRecDepth 100000 in
set_option maxHeartbeats 4000000 in
theorem vX2_play_L29 {E : gE} {n : Nat} {sh : Nat → Nat × Nat} {P : gS → Prop} {k19 : Nat → Nat → Nat → Int32 → Int32 → gS → Prop} (hn : gOK E n) (hk19 : ∀ (a0 : Nat) (a1 : Nat) (a2 : Nat) (x4 : Int32) (x5 : Int32) (z : gS), k19 a0 a1 a2 x4 x5 z → V E (gR 6 0) gyX2_play 0 0 19 [(0, .ref a0), (1, .ref a1), (2, .ref a2), (4, .int x4), (5, .int x5)] [] n sh z (kN n sh P)) : ∀ (N : Nat) (a0 : Nat) (a1 : Nat) (a2 : Nat) (x4 : Int32) (x5 : Int32) (x6 : Int32) (z : gS), wX2_play_L29 n sh k19 P N a0 a1 a2 x4 x5 x6 z → V E (gR 6 0) gyX2_play 0 0 29 [(0, .ref a0), (1, .ref a1), (2, .ref a2), (4, .int x4), (5, .int x5), (6, .int x6)] [] n sh z (kN n sh P) := by
  intro N
  induction N with
  | zero => intro a0 a1 a2 x4 x5 x6 z hf; exact False.elim hf
  | succ N ih => intro a0 a1 a2 x4 x5 x6 z hf; exact vX2_play_B29 hn hk19 ih hf
def wX2_play_B19 (n : Nat) (sh : Nat → Nat × Nat) (k19 : Nat → Nat → Nat → Int32 → Int32 → gS → Prop) (P : gS → Prop) (a0 : Nat) (a1 : Nat) (a2 : Nat) (x4 : Int32) (x5 : Int32) (z : gS) : Prop := if x4 ≤ x5 then P z else ((∃ N, wX2_play_L29 n sh k19 P N a0 a1 a2 x4 x5 (0 : Int32) z))
def wX2_play_L19 (n : Nat) (sh : Nat → Nat × Nat) (P : gS → Prop) : Nat → Nat → Nat → Nat → Int32 → Int32 → gS → Prop
  | 0, _, _, _, _, _, _ => False
  | N + 1, a0, a1, a2, x4, x5, z => wX2_play_B19 n sh (wX2_play_L19 n sh P N) P a0 a1 a2 x4 x5 z
set_option maxRecDepth 100000 in
set_option maxHeartbeats 4000000 in
theorem vX2_play_B19 {E : gE} {n : Nat} {sh : Nat → Nat × Nat} {P : gS → Prop} {k19 : Nat → Nat → Nat → Int32 → Int32 → gS → Prop} {a0 : Nat} {a1 : Nat} {a2 : Nat} {x4 : Int32} {x5 : Int32} {z : gS} (hn : gOK E n) (hk19 : ∀ (a0 : Nat) (a1 : Nat) (a2 : Nat) (x4 : Int32) (x5 : Int32) (z : gS), k19 a0 a1 a2 x4 x5 z → V E (gR 6 0) gyX2_play 0 0 19 [(0, .ref a0), (1, .ref a1), (2, .ref a2), (4, .int x4), (5, .int x5)] [] n sh z (kN n sh P)) (hf : wX2_play_B19 n sh k19 P a0 a1 a2 x4 x5 z) : V E (gR 6 0) gyX2_play 0 0 19 [(0, .ref a0), (1, .ref a1), (2, .ref a2), (4, .int x4), (5, .int x5)] [] n sh z (kN n sh P) := by
  unfold wX2_play_B19 at hf
  refine V_iload (j := 4) dX2_play_19 rfl ?_
  refine V_iload (j := 3) dX2_play_21 rfl ?_
  refine V_icmp_ge (tgt := 93) dX2_play_23 (by decide) (fun h25 => ?_) (fun h25 => ?_)
  · have hf := it_t h25 hf
    exact V_return dX2_play_93 rfl (Nat.le_refl 0) (kN_of hf)
  · have hf := it_f h25 hf
    refine V_iconst (v := (0 : Int32)) dX2_play_26 (by decide) ?_
    refine V_istore (ls2 := [(6, .int (0 : Int32)), (0, .ref a0), (1, .ref a1), (2, .ref a2), (4, .int x4), (5, .int x5)]) dX2_play_27 (by decide) rfl ?_
    obtain ⟨N, hf⟩ := hf
    refine V_to [1, 2, 3, 4, 5, 0] rfl ?_
    exact vX2_play_L29 hn hk19 N _ _ _ _ _ _ _ hf
set_option maxRecDepth 100000 in
set_option maxHeartbeats 4000000 in
theorem vX2_play_L19 {E : gE} {n : Nat} {sh : Nat → Nat × Nat} {P : gS → Prop} (hn : gOK E n) : ∀ (N : Nat) (a0 : Nat) (a1 : Nat) (a2 : Nat) (x4 : Int32) (x5 : Int32) (z : gS), wX2_play_L19 n sh P N a0 a1 a2 x4 x5 z → V E (gR 6 0) gyX2_play 0 0 19 [(0, .ref a0), (1, .ref a1), (2, .ref a2), (4, .int x4), (5, .int x5)] [] n sh z (kN n sh P) := by
  intro N
  induction N with
  | zero => intro a0 a1 a2 x4 x5 z hf; exact False.elim hf
  | succ N ih => intro a0 a1 a2 x4 x5 z hf; exact vX2_play_B19 hn ih hf
def wX2_play (n : Nat) (sh : Nat → Nat × Nat) (a0 : Nat) (a1 : Nat) (a2 : Nat) (x3 : Int32) (x4 : Int32) (z : gS) (P : gS → Prop) : Prop := (oO n sh a0 1) ∧ (∀ z2 : gS, z2 = sl z a0 0 x3.toInt64 → (∀ z3 : gS, z3 = si z2 a0 1 (0 : Int32) → (∀ z4 : gS, z4 = si z3 a0 2 (0 : Int32) → ((∃ N, wX2_play_L19 n sh P N a0 a1 a2 x4 (0 : Int32) z4)))))
set_option maxRecDepth 100000 in
set_option maxHeartbeats 4000000 in
theorem ctX2_play {E : gE} {n : Nat} {sh : Nat → Nat × Nat} {a0 : Nat} {a1 : Nat} {a2 : Nat} {x3 : Int32} {x4 : Int32} {z : gS} {P : gS → Prop} (hn : gOK E n) (hf : wX2_play n sh a0 a1 a2 x3 x4 z P) : VM E 6 0 gyX2_play [.ref a0, .ref a1, .ref a2, .int x3, .int x4] n sh z (kN n sh P) := by
  unfold wX2_play at hf
  refine VM.of (by decide +kernel) (Nat.le_of_ble_eq_true rfl) (fun _ _ _ h => h.2.2) ?_
  show V E (gR 6 0) gyX2_play 0 0 0 [(0, .ref a0), (1, .ref a1), (2, .ref a2), (3, .int x3), (4, .int x4)] [] n sh z (kN n sh P)
  refine V_aload_n (j := 0) dX2_play_0 rfl rfl ?_
  refine V_iload_n (j := 3) dX2_play_1 rfl rfl ?_
  refine V_i2l dX2_play_2 ?_
  obtain ⟨h1, hf⟩ := hf
  refine V_putL fl_X2_7 rfl rfl rfl rfl h1.1 h1.2 dX2_play_3 ?_
  refine V_nz (fun z2 ez2 => ?_)
  have hf := hf z2 ez2
  refine V_aload_n (j := 0) dX2_play_6 rfl rfl ?_
  refine V_iconst (v := (0 : Int32)) dX2_play_7 (by decide) ?_
  refine V_putI fl_X2_13 rfl rfl rfl rfl h1.1 h1.2 dX2_play_8 ?_
  refine V_nz (fun z3 ez3 => ?_)
  have hf := hf z3 ez3
  refine V_aload_n (j := 0) dX2_play_11 rfl rfl ?_
  refine V_iconst (v := (0 : Int32)) dX2_play_12 (by decide) ?_
  refine V_putI fl_X2_17 rfl rfl rfl rfl h1.1 h1.2 dX2_play_13 ?_
  refine V_nz (fun z4 ez4 => ?_)
  have hf := hf z4 ez4
  refine V_iconst (v := (0 : Int32)) dX2_play_16 (by decide) ?_
  refine V_istore (ls2 := [(5, .int (0 : Int32)), (0, .ref a0), (1, .ref a1), (2, .ref a2), (3, .int x3), (4, .int x4)]) dX2_play_17 (by decide) rfl ?_
  obtain ⟨N, hf⟩ := hf
  refine V_to [1, 2, 3, 5, 0] rfl ?_
  exact vX2_play_L19 hn N _ _ _ _ _ _ hf
def wX11_years (n : Nat) (sh : Nat → Nat × Nat) (a0 : Nat) (x1 : Int32) (x2 : Int32) (x3 : Int32) (z : gS) (P : Int32 → gS → Prop) : Prop := if x1 < 0 then P (-1 : Int32) z else (if (9999 : Int32) < x1 then P (-1 : Int32) z else (if x2 < (1 : Int32) then P (-1 : Int32) z else (if (99 : Int32) < x2 then P (-1 : Int32) z else (if x3 < 0 then P (-1 : Int32) z else (if x3 ≤ (2 : Int32) then ((oO n sh a0 7) ∧ (∃ t2 : Nat, gr z a0 2 = some t2 ∧ (∃ t3 : Nat, gr z a0 1 = some t3 ∧ ((oO n sh t2 6) ∧ (wX10_copy n sh t2 t3 z (fun (z5 : gS) => ∃ t7 : Nat, gr z5 a0 5 = some t7 ∧ (∃ t8 : Nat, gr z5 a0 7 = some t8 ∧ (∃ t9 : Nat, gr z5 a0 2 = some t9 ∧ ((oO n sh t7 1) ∧ (wX2_play n sh t7 t8 t9 x1 x2 z5 (fun (z11 : gS) => if x3 = 0 then (∃ t20 : Nat, gr z11 a0 5 = some t20 ∧ ((oO n sh t20 1) ∧ P (gi z11 t20 1) z11)) else (if x3 = (1 : Int32) then (∃ t17 : Nat, gr z11 a0 5 = some t17 ∧ ((oO n sh t17 1) ∧ P (gi z11 t17 2) z11)) else (∃ t13 : Nat, gr z11 a0 7 = some t13 ∧ (∃ t14 : Nat, gr z11 a0 2 = some t14 ∧ (wX3_harmShown n sh t13 t14 (6 : Int32) z11 (fun (r15 : Int32) (z16 : gS) => P r15 z16)))))))))))))))) else P (-1 : Int32) z)))))
set_option maxRecDepth 100000 in
set_option maxHeartbeats 4000000 in
theorem ctX11_years {E : gE} {n : Nat} {sh : Nat → Nat × Nat} {a0 : Nat} {x1 : Int32} {x2 : Int32} {x3 : Int32} {z : gS} {P : Int32 → gS → Prop} (hn : gOK E n) (hf : wX11_years n sh a0 x1 x2 x3 z P) : VM E 7 0 gyX11_years [.ref a0, .int x1, .int x2, .int x3] n sh z (kI n sh P) := by
  unfold wX11_years at hf
  refine VM.of (by decide +kernel) (Nat.le_of_ble_eq_true rfl) (fun _ _ _ h => h.2.2) ?_
  show V E (gR 7 0) gyX11_years 0 0 0 [(0, .ref a0), (1, .int x1), (2, .int x2), (3, .int x3)] [] n sh z (kI n sh P)
  refine V_iload_n (j := 1) dX11_years_0 rfl rfl ?_
  refine V_if_lt (tgt := 31) dX11_years_1 (by decide) (fun h28 => ?_) (fun h28 => ?_)
  · have hf := it_t h28 hf
    refine V_iconst (v := (-1 : Int32)) dX11_years_31 (by decide) ?_
    exact V_ireturn dX11_years_32 rfl rfl (Nat.le_refl 0) (kI_of hf)
  · have hf := it_f h28 hf
    refine V_iload_n (j := 1) dX11_years_4 rfl rfl ?_
    refine V_sipush (v := (9999 : Int32)) dX11_years_5 (by decide) ?_
    refine V_icmp_gt (tgt := 31) dX11_years_8 (by decide) (fun h27 => ?_) (fun h27 => ?_)
    · have hf := it_t h27 hf
      refine V_iconst (v := (-1 : Int32)) dX11_years_31 (by decide) ?_
      exact V_ireturn dX11_years_32 rfl rfl (Nat.le_refl 0) (kI_of hf)
    · have hf := it_f h27 hf
      refine V_iload_n (j := 2) dX11_years_11 rfl rfl ?_
      refine V_iconst (v := (1 : Int32)) dX11_years_12 (by decide) ?_
      refine V_icmp_lt (tgt := 31) dX11_years_13 (by decide) (fun h26 => ?_) (fun h26 => ?_)
      · have hf := it_t h26 hf
        refine V_iconst (v := (-1 : Int32)) dX11_years_31 (by decide) ?_
        exact V_ireturn dX11_years_32 rfl rfl (Nat.le_refl 0) (kI_of hf)
      · have hf := it_f h26 hf
        refine V_iload_n (j := 2) dX11_years_16 rfl rfl ?_
        refine V_bipush (v := (99 : Int32)) dX11_years_17 (by decide) ?_
        refine V_icmp_gt (tgt := 31) dX11_years_19 (by decide) (fun h25 => ?_) (fun h25 => ?_)
        · have hf := it_t h25 hf
          refine V_iconst (v := (-1 : Int32)) dX11_years_31 (by decide) ?_
          exact V_ireturn dX11_years_32 rfl rfl (Nat.le_refl 0) (kI_of hf)
        · have hf := it_f h25 hf
          refine V_iload_n (j := 3) dX11_years_22 rfl rfl ?_
          refine V_if_lt (tgt := 31) dX11_years_23 (by decide) (fun h24 => ?_) (fun h24 => ?_)
          · have hf := it_t h24 hf
            refine V_iconst (v := (-1 : Int32)) dX11_years_31 (by decide) ?_
            exact V_ireturn dX11_years_32 rfl rfl (Nat.le_refl 0) (kI_of hf)
          · have hf := it_f h24 hf
            refine V_iload_n (j := 3) dX11_years_26 rfl rfl ?_
            refine V_iconst (v := (2 : Int32)) dX11_years_27 (by decide) ?_
            refine V_icmp_le (tgt := 33) dX11_years_28 (by decide) (fun h23 => ?_) (fun h23 => ?_)
            · have hf := it_t h23 hf
              refine V_aload_n (j := 0) dX11_years_33 rfl rfl ?_
              obtain ⟨h1, hf⟩ := hf
              obtain ⟨t2, et2, hf⟩ := hf
              refine V_getR fl_X11_23 rfl h1.1 h1.2 et2 dX11_years_34 ?_
              refine V_aload_n (j := 0) dX11_years_37 rfl rfl ?_
              obtain ⟨t3, et3, hf⟩ := hf
              refine V_getR fl_X11_19 rfl h1.1 h1.2 et3 dX11_years_38 ?_
              obtain ⟨h6, hf⟩ := hf
              refine V_cVN (ctX10_copy hn hf) gc_X11_280 rfl h6.1 ⟨_, h6.2, by decide, rfl⟩ ⟨by decide, by decide, Nat.zero_le _, Nat.zero_le _⟩ (Nat.le_of_ble_eq_true rfl) dX11_years_41 rfl hn (fun z5 hf => ?_)
              refine V_aload_n (j := 0) dX11_years_44 rfl rfl ?_
              obtain ⟨t7, et7, hf⟩ := hf
              refine V_getR fl_X11_40 rfl h1.1 h1.2 et7 dX11_years_45 ?_
              refine V_aload_n (j := 0) dX11_years_48 rfl rfl ?_
              obtain ⟨t8, et8, hf⟩ := hf
              refine V_getR fl_X11_51 rfl h1.1 h1.2 et8 dX11_years_49 ?_
              refine V_aload_n (j := 0) dX11_years_52 rfl rfl ?_
              obtain ⟨t9, et9, hf⟩ := hf
              refine V_getR fl_X11_23 rfl h1.1 h1.2 et9 dX11_years_53 ?_
              refine V_iload_n (j := 1) dX11_years_56 rfl rfl ?_
              refine V_iload_n (j := 2) dX11_years_57 rfl rfl ?_
              obtain ⟨h12, hf⟩ := hf
              refine V_cVN (ctX2_play hn hf) gc_X11_293 rfl h12.1 ⟨_, h12.2, by decide, rfl⟩ ⟨by decide, by decide, Nat.zero_le _, Nat.zero_le _⟩ (Nat.le_of_ble_eq_true rfl) dX11_years_58 rfl hn (fun z11 hf => ?_)
              refine V_iload_n (j := 3) dX11_years_61 rfl rfl ?_
              refine V_if_ne (tgt := 73) dX11_years_62 (by decide) (fun h22 => ?_) (fun h22 => ?_)
              · have hf := it_f h22 hf
                refine V_iload_n (j := 3) dX11_years_73 rfl rfl ?_
                refine V_iconst (v := (1 : Int32)) dX11_years_74 (by decide) ?_
                refine V_icmp_ne (tgt := 88) dX11_years_75 (by decide) (fun h19 => ?_) (fun h19 => ?_)
                · have hf := it_f h19 hf
                  refine V_aload_n (j := 0) dX11_years_88 rfl rfl ?_
                  obtain ⟨t13, et13, hf⟩ := hf
                  refine V_getR fl_X11_51 rfl h1.1 h1.2 et13 dX11_years_89 ?_
                  refine V_aload_n (j := 0) dX11_years_92 rfl rfl ?_
                  obtain ⟨t14, et14, hf⟩ := hf
                  refine V_getR fl_X11_23 rfl h1.1 h1.2 et14 dX11_years_93 ?_
                  refine V_bipush (v := (6 : Int32)) dX11_years_96 (by decide) ?_
                  refine V_cSI (ctX3_harmShown hn hf) gc_X11_203 rfl ⟨by decide, by decide, Nat.zero_le _, Nat.zero_le _⟩ (Nat.le_of_ble_eq_true rfl) dX11_years_98 rfl hn (fun r15 z16 hf => ?_)
                  exact V_ireturn dX11_years_101 rfl rfl (Nat.le_refl 0) (kI_of hf)
                · have hf := it_t (Classical.not_not.mp h19) hf
                  refine V_aload_n (j := 0) dX11_years_78 rfl rfl ?_
                  obtain ⟨t17, et17, hf⟩ := hf
                  refine V_getR fl_X11_40 rfl h1.1 h1.2 et17 dX11_years_79 ?_
                  obtain ⟨h18, hf⟩ := hf
                  refine V_getI fl_X11_299 rfl h18.1 h18.2 dX11_years_82 ?_
                  refine V_goto (tgt := 101) dX11_years_85 (by decide) ?_
                  exact V_ireturn dX11_years_101 rfl rfl (Nat.le_refl 0) (kI_of hf)
              · have hf := it_t (Classical.not_not.mp h22) hf
                refine V_aload_n (j := 0) dX11_years_65 rfl rfl ?_
                obtain ⟨t20, et20, hf⟩ := hf
                refine V_getR fl_X11_40 rfl h1.1 h1.2 et20 dX11_years_66 ?_
                obtain ⟨h21, hf⟩ := hf
                refine V_getI fl_X11_296 rfl h21.1 h21.2 dX11_years_69 ?_
                exact V_ireturn dX11_years_72 rfl rfl (Nat.le_refl 0) (kI_of hf)
            · have hf := it_f h23 hf
              refine V_iconst (v := (-1 : Int32)) dX11_years_31 (by decide) ?_
              exact V_ireturn dX11_years_32 rfl rfl (Nat.le_refl 0) (kI_of hf)
def wX10_copySaid (n : Nat) (sh : Nat → Nat × Nat) (a0 : Nat) (a1 : Nat) (z : gS) (P : gS → Prop) : Prop := (oO n sh a1 6) ∧ ((oO n sh a0 6) ∧ (∀ z3 : gS, z3 = si z a0 3 (gi z a1 3) → (∀ z4 : gS, z4 = si z3 a0 4 (gi z3 a1 4) → P z4)))
set_option maxRecDepth 100000 in
set_option maxHeartbeats 4000000 in
theorem ctX10_copySaid {E : gE} {n : Nat} {sh : Nat → Nat × Nat} {a0 : Nat} {a1 : Nat} {z : gS} {P : gS → Prop} (hn : gOK E n) (hf : wX10_copySaid n sh a0 a1 z P) : VM E 0 0 gyX10_copySaid [.ref a0, .ref a1] n sh z (kN n sh P) := by
  unfold wX10_copySaid at hf
  refine VM.of (by decide +kernel) (Nat.le_of_ble_eq_true rfl) (fun _ _ _ h => h.2.2) ?_
  show V E (gR 0 0) gyX10_copySaid 0 0 0 [(0, .ref a0), (1, .ref a1)] [] n sh z (kN n sh P)
  refine V_aload_n (j := 0) dX10_copySaid_0 rfl rfl ?_
  refine V_aload_n (j := 1) dX10_copySaid_1 rfl rfl ?_
  obtain ⟨h1, hf⟩ := hf
  refine V_getI fl_X10_21 rfl h1.1 h1.2 dX10_copySaid_2 ?_
  obtain ⟨h2, hf⟩ := hf
  refine V_putI fl_X10_21 rfl rfl rfl rfl h2.1 h2.2 dX10_copySaid_5 ?_
  refine V_nz (fun z3 ez3 => ?_)
  have hf := hf z3 ez3
  refine V_aload_n (j := 0) dX10_copySaid_8 rfl rfl ?_
  refine V_aload_n (j := 1) dX10_copySaid_9 rfl rfl ?_
  refine V_getI fl_X10_24 rfl h1.1 h1.2 dX10_copySaid_10 ?_
  refine V_putI fl_X10_24 rfl rfl rfl rfl h2.1 h2.2 dX10_copySaid_13 ?_
  refine V_nz (fun z4 ez4 => ?_)
  have hf := hf z4 ez4
  exact V_return dX10_copySaid_16 rfl (Nat.le_refl 0) (kN_of hf)
def wX11_notch (n : Nat) (sh : Nat → Nat × Nat) (a0 : Nat) (x1 : Int32) (x2 : Int32) (z : gS) (P : Int32 → gS → Prop) : Prop := if x1 < 0 then P (0 : Int32) z else (if x1 < (4 : Int32) then ((oO n sh a0 7) ∧ (∃ t2 : Nat, gr z a0 4 = some t2 ∧ ((oA n sh t2 5) ∧ ((vp_in x1 (sh t2).2) ∧ ∃ t5 : Nat, gr z t2 x1.toNatClampNeg = some t5 ∧ (if x2 = 0 then (∃ t19 : Nat, gr z a0 1 = some t19 ∧ ((oO n sh t5 6) ∧ (wX10_copy n sh t5 t19 z (fun (z21 : gS) => ∃ t23 : Nat, gr z21 a0 1 = some t23 ∧ (wX10_copySaid n sh t5 t23 z21 (fun (z25 : gS) => ∀ z26 : gS, z26 = si z25 a0 6 ((gi z25 a0 6) ||| ((1 : Int32) <<< (x1 &&& 31))) → P (1 : Int32) z26)))))) else (if (((gi z a0 6) >>> (x1 &&& 31)) &&& (1 : Int32)) = 0 then P (0 : Int32) z else (∃ t6 : Nat, gr z a0 1 = some t6 ∧ ((oO n sh t6 6) ∧ (wX10_copy n sh t6 t5 z (fun (z8 : gS) => ∃ t10 : Nat, gr z8 a0 1 = some t10 ∧ ((oO n sh t10 6) ∧ (wX10_copySaid n sh t10 t5 z8 (fun (z12 : gS) => ∃ t14 : Nat, gr z12 a0 3 = some t14 ∧ ((oO n sh t14 2) ∧ (wX4_clear n sh t14 z12 (fun (z16 : gS) => P (1 : Int32) z16)))))))))))))))) else P (0 : Int32) z)
set_option maxRecDepth 100000 in
set_option maxHeartbeats 4000000 in
theorem ctX11_notch {E : gE} {n : Nat} {sh : Nat → Nat × Nat} {a0 : Nat} {x1 : Int32} {x2 : Int32} {z : gS} {P : Int32 → gS → Prop} (hn : gOK E n) (hf : wX11_notch n sh a0 x1 x2 z P) : VM E 2 0 gyX11_notch [.ref a0, .int x1, .int x2] n sh z (kI n sh P) := by
  unfold wX11_notch at hf
  refine VM.of (by decide +kernel) (Nat.le_of_ble_eq_true rfl) (fun _ _ _ h => h.2.2) ?_
  show V E (gR 2 0) gyX11_notch 0 0 0 [(0, .ref a0), (1, .int x1), (2, .int x2)] [] n sh z (kI n sh P)
  refine V_iload_n (j := 1) dX11_notch_0 rfl rfl ?_
  refine V_if_lt (tgt := 9) dX11_notch_1 (by decide) (fun h29 => ?_) (fun h29 => ?_)
  · have hf := it_t h29 hf
    refine V_iconst (v := (0 : Int32)) dX11_notch_9 (by decide) ?_
    exact V_ireturn dX11_notch_10 rfl (by decide) (Nat.le_refl 0) (kI_of hf)
  · have hf := it_f h29 hf
    refine V_iload_n (j := 1) dX11_notch_4 rfl rfl ?_
    refine V_iconst (v := (4 : Int32)) dX11_notch_5 (by decide) ?_
    refine V_icmp_lt (tgt := 11) dX11_notch_6 (by decide) (fun h28 => ?_) (fun h28 => ?_)
    · have hf := it_t h28 hf
      refine V_aload_n (j := 0) dX11_notch_11 rfl rfl ?_
      obtain ⟨h1, hf⟩ := hf
      obtain ⟨t2, et2, hf⟩ := hf
      refine V_getR fl_X11_33 rfl h1.1 h1.2 et2 dX11_notch_12 ?_
      refine V_iload_n (j := 1) dX11_notch_15 rfl rfl ?_
      obtain ⟨h3, hf⟩ := hf
      obtain ⟨h4, t5, et5, hf⟩ := hf
      refine V_aald h3.1 h3.s h4 et5 dX11_notch_16 ?_
      refine V_astore_n (ls2 := [(3, .ref t5), (0, .ref a0), (1, .int x1), (2, .int x2)]) dX11_notch_17 rfl (by decide) rfl ?_
      refine V_iload_n (j := 3) dX11_notch_18 rfl rfl ?_
      refine V_if_ne (tgt := 52) dX11_notch_19 (by decide) (fun h27 => ?_) (fun h27 => ?_)
      · have hf := it_f h27 hf
        refine V_aload_n (j := 1) dX11_notch_52 rfl rfl ?_
        refine V_getI fl_X11_44 rfl h1.1 h1.2 dX11_notch_53 ?_
        refine V_iload_n (j := 2) dX11_notch_56 rfl rfl ?_
        refine V_ishr dX11_notch_57 ?_
        refine V_iconst (v := (1 : Int32)) dX11_notch_58 (by decide) ?_
        refine V_iand dX11_notch_59 ?_
        refine V_if_ne (tgt := 65) dX11_notch_60 (by decide) (fun h18 => ?_) (fun h18 => ?_)
        · have hf := it_f h18 hf
          refine V_aload_n (j := 1) dX11_notch_65 rfl rfl ?_
          obtain ⟨t6, et6, hf⟩ := hf
          refine V_getR fl_X11_19 rfl h1.1 h1.2 et6 dX11_notch_66 ?_
          refine V_aload_n (j := 0) dX11_notch_69 rfl rfl ?_
          obtain ⟨h9, hf⟩ := hf
          refine V_cVN (ctX10_copy hn hf) gc_X11_280 rfl h9.1 ⟨_, h9.2, by decide, rfl⟩ ⟨by decide, by decide, Nat.zero_le _, Nat.zero_le _⟩ (Nat.le_of_ble_eq_true rfl) dX11_notch_70 rfl hn (fun z8 hf => ?_)
          refine V_aload_n (j := 1) dX11_notch_73 rfl rfl ?_
          obtain ⟨t10, et10, hf⟩ := hf
          refine V_getR fl_X11_19 rfl h1.1 h1.2 et10 dX11_notch_74 ?_
          refine V_aload_n (j := 0) dX11_notch_77 rfl rfl ?_
          obtain ⟨h13, hf⟩ := hf
          refine V_cVN (ctX10_copySaid hn hf) gc_X11_302 rfl h13.1 ⟨_, h13.2, by decide, rfl⟩ ⟨by decide, by decide, Nat.zero_le _, Nat.zero_le _⟩ (Nat.le_of_ble_eq_true rfl) dX11_notch_78 rfl hn (fun z12 hf => ?_)
          refine V_aload_n (j := 1) dX11_notch_81 rfl rfl ?_
          obtain ⟨t14, et14, hf⟩ := hf
          refine V_getR fl_X11_29 rfl h1.1 h1.2 et14 dX11_notch_82 ?_
          obtain ⟨h17, hf⟩ := hf
          refine V_cVN (ctX4_clear hn hf) gc_X11_94 rfl h17.1 ⟨_, h17.2, by decide, rfl⟩ ⟨by decide, by decide, Nat.zero_le _, Nat.zero_le _⟩ (Nat.le_of_ble_eq_true rfl) dX11_notch_85 rfl hn (fun z16 hf => ?_)
          refine V_iconst (v := (1 : Int32)) dX11_notch_88 (by decide) ?_
          exact V_ireturn dX11_notch_89 rfl (by decide) (Nat.le_refl 0) (kI_of hf)
        · have hf := it_t (Classical.not_not.mp h18) hf
          refine V_iconst (v := (0 : Int32)) dX11_notch_63 (by decide) ?_
          exact V_ireturn dX11_notch_64 rfl (by decide) (Nat.le_refl 0) (kI_of hf)
      · have hf := it_t (Classical.not_not.mp h27) hf
        refine V_aload_n (j := 0) dX11_notch_22 rfl rfl ?_
        refine V_aload_n (j := 1) dX11_notch_23 rfl rfl ?_
        obtain ⟨t19, et19, hf⟩ := hf
        refine V_getR fl_X11_19 rfl h1.1 h1.2 et19 dX11_notch_24 ?_
        obtain ⟨h22, hf⟩ := hf
        refine V_cVN (ctX10_copy hn hf) gc_X11_280 rfl h22.1 ⟨_, h22.2, by decide, rfl⟩ ⟨by decide, by decide, Nat.zero_le _, Nat.zero_le _⟩ (Nat.le_of_ble_eq_true rfl) dX11_notch_27 rfl hn (fun z21 hf => ?_)
        refine V_aload_n (j := 0) dX11_notch_30 rfl rfl ?_
        refine V_aload_n (j := 1) dX11_notch_31 rfl rfl ?_
        obtain ⟨t23, et23, hf⟩ := hf
        refine V_getR fl_X11_19 rfl h1.1 h1.2 et23 dX11_notch_32 ?_
        refine V_cVN (ctX10_copySaid hn hf) gc_X11_302 rfl h22.1 ⟨_, h22.2, by decide, rfl⟩ ⟨by decide, by decide, Nat.zero_le _, Nat.zero_le _⟩ (Nat.le_of_ble_eq_true rfl) dX11_notch_35 rfl hn (fun z25 hf => ?_)
        refine V_aload_n (j := 1) dX11_notch_38 rfl rfl ?_
        refine V_dup dX11_notch_39 rfl ?_
        refine V_getI fl_X11_44 rfl h1.1 h1.2 dX11_notch_40 ?_
        refine V_iconst (v := (1 : Int32)) dX11_notch_43 (by decide) ?_
        refine V_iload_n (j := 2) dX11_notch_44 rfl rfl ?_
        refine V_ishl dX11_notch_45 ?_
        refine V_ior dX11_notch_46 ?_
        refine V_putI fl_X11_44 rfl rfl rfl rfl h1.1 h1.2 dX11_notch_47 ?_
        refine V_nz (fun z26 ez26 => ?_)
        have hf := hf z26 ez26
        refine V_iconst (v := (1 : Int32)) dX11_notch_50 (by decide) ?_
        exact V_ireturn dX11_notch_51 rfl (by decide) (Nat.le_refl 0) (kI_of hf)
    · have hf := it_f h28 hf
      refine V_iconst (v := (0 : Int32)) dX11_notch_9 (by decide) ?_
      exact V_ireturn dX11_notch_10 rfl (by decide) (Nat.le_refl 0) (kI_of hf)
def wX10_marksHeld_B4 (n : Nat) (sh : Nat → Nat × Nat) (k4 : Nat → Nat → Int32 → Int32 → gS → Prop) (P : Int32 → gS → Prop) (a0 : Nat) (a1 : Nat) (x2 : Int32) (x3 : Int32) (z : gS) : Prop := (oO n sh a1 4) ∧ (if (gi z a1 10) ≤ x3 then P x2 z else ((oO n sh a0 6) ∧ (∃ t3 : Nat, gr z a0 6 = some t3 ∧ ((oA n sh t3 1) ∧ ((vp_in x3 (sh t3).2) ∧ (∀ v6 : Int32, v6 = (x2 + (gi z t3 x3.toNatClampNeg)) → (∀ v7 : Int32, v7 = x3 + (1 : Int32) → k4 a0 a1 v6 v7 z)))))))
def wX10_marksHeld_L4 (n : Nat) (sh : Nat → Nat × Nat) (P : Int32 → gS → Prop) : Nat → Nat → Nat → Int32 → Int32 → gS → Prop
  | 0, _, _, _, _, _ => False
  | N + 1, a0, a1, x2, x3, z => wX10_marksHeld_B4 n sh (wX10_marksHeld_L4 n sh P N) P a0 a1 x2 x3 z
set_option maxRecDepth 100000 in
set_option maxHeartbeats 4000000 in
theorem vX10_marksHeld_B4 {E : gE} {n : Nat} {sh : Nat → Nat × Nat} {P : Int32 → gS → Prop} {k4 : Nat → Nat → Int32 → Int32 → gS → Prop} {a0 : Nat} {a1 : Nat} {x2 : Int32} {x3 : Int32} {z : gS} (hn : gOK E n) (hk4 : ∀ (a0 : Nat) (a1 : Nat) (x2 : Int32) (x3 : Int32) (z : gS), k4 a0 a1 x2 x3 z → V E (gR 0 0) gyX10_marksHeld 0 0 4 [(0, .ref a0), (1, .ref a1), (2, .int x2), (3, .int x3)] [] n sh z (kI n sh P)) (hf : wX10_marksHeld_B4 n sh k4 P a0 a1 x2 x3 z) : V E (gR 0 0) gyX10_marksHeld 0 0 4 [(0, .ref a0), (1, .ref a1), (2, .int x2), (3, .int x3)] [] n sh z (kI n sh P) := by
  unfold wX10_marksHeld_B4 at hf
  refine V_iload_n (j := 3) dX10_marksHeld_4 rfl rfl ?_
  refine V_aload_n (j := 1) dX10_marksHeld_5 rfl rfl ?_
  obtain ⟨h1, hf⟩ := hf
  refine V_getI fl_X10_58 rfl h1.1 h1.2 dX10_marksHeld_6 ?_
  refine V_icmp_ge (tgt := 27) dX10_marksHeld_9 (by decide) (fun h8 => ?_) (fun h8 => ?_)
  · have hf := it_t h8 hf
    refine V_iload_n (j := 2) dX10_marksHeld_27 rfl rfl ?_
    exact V_ireturn dX10_marksHeld_28 rfl rfl (Nat.le_refl 0) (kI_of hf)
  · have hf := it_f h8 hf
    refine V_iload_n (j := 2) dX10_marksHeld_12 rfl rfl ?_
    refine V_aload_n (j := 0) dX10_marksHeld_13 rfl rfl ?_
    obtain ⟨h2, hf⟩ := hf
    obtain ⟨t3, et3, hf⟩ := hf
    refine V_getR fl_X10_31 rfl h2.1 h2.2 et3 dX10_marksHeld_14 ?_
    refine V_iload_n (j := 3) dX10_marksHeld_17 rfl rfl ?_
    obtain ⟨h4, hf⟩ := hf
    obtain ⟨h5, hf⟩ := hf
    refine V_iald h4.1 h4.s h5 dX10_marksHeld_18 ?_
    refine V_iadd dX10_marksHeld_19 ?_
    refine V_nI (fun v6 ev6 => ?_)
    have hf := hf v6 ev6
    refine V_istore_n (ls2 := [(2, .int v6), (0, .ref a0), (1, .ref a1), (3, .int x3)]) dX10_marksHeld_20 rfl (by decide) rfl ?_
    obtain ⟨v7, ev7⟩ : ∃ y : Int32, y = x3 + (1 : Int32) := ⟨_, rfl⟩
    refine V_iinc (j := 3) (v := v7) (ls2 := [(3, .int v7), (2, .int v6), (0, .ref a0), (1, .ref a1)]) dX10_marksHeld_21 rfl (by rw [ev7]; rfl) (by decide) rfl ?_
    have hf := hf v7 ev7
    refine V_goto (tgt := 4) dX10_marksHeld_24 (by decide) ?_
    refine V_to [2, 3, 1, 0] rfl ?_
    exact hk4 _ _ _ _ _ hf
set_option maxRecDepth 100000 in
set_option maxHeartbeats 4000000 in
theorem vX10_marksHeld_L4 {E : gE} {n : Nat} {sh : Nat → Nat × Nat} {P : Int32 → gS → Prop} (hn : gOK E n) : ∀ (N : Nat) (a0 : Nat) (a1 : Nat) (x2 : Int32) (x3 : Int32) (z : gS), wX10_marksHeld_L4 n sh P N a0 a1 x2 x3 z → V E (gR 0 0) gyX10_marksHeld 0 0 4 [(0, .ref a0), (1, .ref a1), (2, .int x2), (3, .int x3)] [] n sh z (kI n sh P) := by
  intro N
  induction N with
  | zero => intro a0 a1 x2 x3 z hf; exact False.elim hf
  | succ N ih => intro a0 a1 x2 x3 z hf; exact vX10_marksHeld_B4 hn ih hf
def wX10_marksHeld (n : Nat) (sh : Nat → Nat × Nat) (a0 : Nat) (a1 : Nat) (z : gS) (P : Int32 → gS → Prop) : Prop := (∃ N, wX10_marksHeld_L4 n sh P N a0 a1 (0 : Int32) (0 : Int32) z)
set_option maxRecDepth 100000 in
set_option maxHeartbeats 4000000 in
theorem ctX10_marksHeld {E : gE} {n : Nat} {sh : Nat → Nat × Nat} {a0 : Nat} {a1 : Nat} {z : gS} {P : Int32 → gS → Prop} (hn : gOK E n) (hf : wX10_marksHeld n sh a0 a1 z P) : VM E 0 0 gyX10_marksHeld [.ref a0, .ref a1] n sh z (kI n sh P) := by
  unfold wX10_marksHeld at hf
  refine VM.of (by decide +kernel) (Nat.le_of_ble_eq_true rfl) (fun _ _ _ h => h.2.2) ?_
  show V E (gR 0 0) gyX10_marksHeld 0 0 0 [(0, .ref a0), (1, .ref a1)] [] n sh z (kI n sh P)
  refine V_iconst (v := (0 : Int32)) dX10_marksHeld_0 (by decide) ?_
  refine V_istore_n (ls2 := [(2, .int (0 : Int32)), (0, .ref a0), (1, .ref a1)]) dX10_marksHeld_1 rfl (by decide) rfl ?_
  refine V_iconst (v := (0 : Int32)) dX10_marksHeld_2 (by decide) ?_
  refine V_istore_n (ls2 := [(3, .int (0 : Int32)), (2, .int (0 : Int32)), (0, .ref a0), (1, .ref a1)]) dX10_marksHeld_3 rfl (by decide) rfl ?_
  obtain ⟨N, hf⟩ := hf
  refine V_to [2, 3, 1, 0] rfl ?_
  exact vX10_marksHeld_L4 hn N _ _ _ _ _ hf
def wX11_count (n : Nat) (sh : Nat → Nat × Nat) (a0 : Nat) (x1 : Int32) (z : gS) (P : Int32 → gS → Prop) : Prop := if x1 = (0 : Int32) then ((oO n sh a0 7) ∧ (∃ t3 : Nat, gr z a0 7 = some t3 ∧ ((oO n sh t3 4) ∧ P (gi z t3 10) z))) else (if x1 = (1 : Int32) then ((oO n sh a0 7) ∧ (∃ t7 : Nat, gr z a0 7 = some t7 ∧ ((oO n sh t7 4) ∧ P (gi z t7 11) z))) else (if x1 = (2 : Int32) then ((oO n sh a0 7) ∧ (∃ t11 : Nat, gr z a0 7 = some t11 ∧ ((oO n sh t11 4) ∧ P (gi z t11 12) z))) else (if x1 = (3 : Int32) then ((oO n sh a0 7) ∧ (∃ t15 : Nat, gr z a0 1 = some t15 ∧ ((oO n sh t15 6) ∧ P (gi z t15 0) z))) else (if x1 = (4 : Int32) then ((oO n sh a0 7) ∧ (∃ t19 : Nat, gr z a0 7 = some t19 ∧ (∃ t20 : Nat, gr z a0 1 = some t20 ∧ ((oO n sh t20 6) ∧ ((oO n sh t19 4) ∧ (wX7_lightAt n sh t19 (gi z t20 0) z (fun (r22 : Int32) (z23 : gS) => P r22 z23))))))) else (if x1 = (5 : Int32) then ((oO n sh a0 7) ∧ (∃ t27 : Nat, gr z a0 1 = some t27 ∧ (∃ t28 : Nat, gr z a0 7 = some t28 ∧ ((oO n sh t27 6) ∧ (wX10_marksHeld n sh t27 t28 z (fun (r29 : Int32) (z30 : gS) => P r29 z30)))))) else (if x1 = (6 : Int32) then ((oO n sh a0 7) ∧ (∃ t34 : Nat, gr z a0 1 = some t34 ∧ ((oO n sh t34 6) ∧ P (gi z t34 1) z))) else (if x1 = (7 : Int32) then ((oO n sh a0 7) ∧ (∃ t38 : Nat, gr z a0 1 = some t38 ∧ ((oO n sh t38 6) ∧ P (gi z t38 2) z))) else (if x1 = (8 : Int32) then ((oO n sh a0 7) ∧ (∃ t42 : Nat, gr z a0 9 = some t42 ∧ ((oO n sh t42 0) ∧ P (gi z t42 3) z))) else (if x1 = (9 : Int32) then ((oO n sh a0 7) ∧ (∃ t46 : Nat, gr z a0 1 = some t46 ∧ ((oO n sh t46 6) ∧ (wJ6_bitCount_0f7a4 n sh (gi z t46 3) z (fun (r48 : Int32) (z49 : gS) => P r48 z49))))) else (if x1 = (10 : Int32) then ((oO n sh a0 7) ∧ (∃ t52 : Nat, gr z a0 3 = some t52 ∧ ((oO n sh t52 2) ∧ P (gi z t52 1) z))) else (if x1 = (11 : Int32) then ((oO n sh a0 7) ∧ (∃ t56 : Nat, gr z a0 0 = some t56 ∧ ((oO n sh t56 5) ∧ P (gi z t56 1) z))) else P (-1 : Int32) z)))))))))))
set_option maxRecDepth 100000 in
set_option maxHeartbeats 4000000 in
theorem ctX11_count {E : gE} {n : Nat} {sh : Nat → Nat × Nat} {a0 : Nat} {x1 : Int32} {z : gS} {P : Int32 → gS → Prop} (hn : gOK E n) (hf : wX11_count n sh a0 x1 z P) : VM E 2 0 gyX11_count [.ref a0, .int x1] n sh z (kI n sh P) := by
  unfold wX11_count at hf
  refine VM.of (by decide +kernel) (Nat.le_of_ble_eq_true rfl) (fun _ _ _ h => h.2.2) ?_
  show V E (gR 2 0) gyX11_count 0 0 0 [(0, .ref a0), (1, .int x1)] [] n sh z (kI n sh P)
  refine V_iload_n (j := 1) dX11_count_0 rfl rfl ?_
  by_cases h1 : x1 = (0 : Int32)
  · have hf := it_t h1 hf
    refine V_tableIn (off := 63) (tgt := 64) dX11_count_1 (by rw [h1]; decide) (by rw [h1]; decide) (by rw [h1]; decide) (by decide) ?_
    refine V_aload_n (j := 0) dX11_count_64 rfl rfl ?_
    obtain ⟨h2, hf⟩ := hf
    obtain ⟨t3, et3, hf⟩ := hf
    refine V_getR fl_X11_51 rfl h2.1 h2.2 et3 dX11_count_65 ?_
    obtain ⟨h4, hf⟩ := hf
    refine V_getI fl_X11_305 rfl h4.1 h4.2 dX11_count_68 ?_
    exact V_ireturn dX11_count_71 rfl rfl (Nat.le_refl 0) (kI_of hf)
  · have hf := it_f h1 hf
    by_cases h5 : x1 = (1 : Int32)
    · have hf := it_t h5 hf
      refine V_tableIn (off := 71) (tgt := 72) dX11_count_1 (by rw [h5]; decide) (by rw [h5]; decide) (by rw [h5]; decide) (by decide) ?_
      refine V_aload_n (j := 0) dX11_count_72 rfl rfl ?_
      obtain ⟨h6, hf⟩ := hf
      obtain ⟨t7, et7, hf⟩ := hf
      refine V_getR fl_X11_51 rfl h6.1 h6.2 et7 dX11_count_73 ?_
      obtain ⟨h8, hf⟩ := hf
      refine V_getI fl_X11_308 rfl h8.1 h8.2 dX11_count_76 ?_
      exact V_ireturn dX11_count_79 rfl rfl (Nat.le_refl 0) (kI_of hf)
    · have hf := it_f h5 hf
      by_cases h9 : x1 = (2 : Int32)
      · have hf := it_t h9 hf
        refine V_tableIn (off := 79) (tgt := 80) dX11_count_1 (by rw [h9]; decide) (by rw [h9]; decide) (by rw [h9]; decide) (by decide) ?_
        refine V_aload_n (j := 0) dX11_count_80 rfl rfl ?_
        obtain ⟨h10, hf⟩ := hf
        obtain ⟨t11, et11, hf⟩ := hf
        refine V_getR fl_X11_51 rfl h10.1 h10.2 et11 dX11_count_81 ?_
        obtain ⟨h12, hf⟩ := hf
        refine V_getI fl_X11_222 rfl h12.1 h12.2 dX11_count_84 ?_
        exact V_ireturn dX11_count_87 rfl rfl (Nat.le_refl 0) (kI_of hf)
      · have hf := it_f h9 hf
        by_cases h13 : x1 = (3 : Int32)
        · have hf := it_t h13 hf
          refine V_tableIn (off := 87) (tgt := 88) dX11_count_1 (by rw [h13]; decide) (by rw [h13]; decide) (by rw [h13]; decide) (by decide) ?_
          refine V_aload_n (j := 0) dX11_count_88 rfl rfl ?_
          obtain ⟨h14, hf⟩ := hf
          obtain ⟨t15, et15, hf⟩ := hf
          refine V_getR fl_X11_19 rfl h14.1 h14.2 et15 dX11_count_89 ?_
          obtain ⟨h16, hf⟩ := hf
          refine V_getI fl_X11_311 rfl h16.1 h16.2 dX11_count_92 ?_
          exact V_ireturn dX11_count_95 rfl rfl (Nat.le_refl 0) (kI_of hf)
        · have hf := it_f h13 hf
          by_cases h17 : x1 = (4 : Int32)
          · have hf := it_t h17 hf
            refine V_tableIn (off := 95) (tgt := 96) dX11_count_1 (by rw [h17]; decide) (by rw [h17]; decide) (by rw [h17]; decide) (by decide) ?_
            refine V_aload_n (j := 0) dX11_count_96 rfl rfl ?_
            obtain ⟨h18, hf⟩ := hf
            obtain ⟨t19, et19, hf⟩ := hf
            refine V_getR fl_X11_51 rfl h18.1 h18.2 et19 dX11_count_97 ?_
            refine V_aload_n (j := 0) dX11_count_100 rfl rfl ?_
            obtain ⟨t20, et20, hf⟩ := hf
            refine V_getR fl_X11_19 rfl h18.1 h18.2 et20 dX11_count_101 ?_
            obtain ⟨h21, hf⟩ := hf
            refine V_getI fl_X11_311 rfl h21.1 h21.2 dX11_count_104 ?_
            obtain ⟨h24, hf⟩ := hf
            refine V_cVI (ctX7_lightAt hn hf) gc_X11_314 rfl h24.1 ⟨_, h24.2, by decide, rfl⟩ ⟨by decide, by decide, Nat.zero_le _, Nat.zero_le _⟩ (Nat.le_of_ble_eq_true rfl) dX11_count_107 rfl hn (fun r22 z23 hf => ?_)
            exact V_ireturn dX11_count_110 rfl rfl (Nat.le_refl 0) (kI_of hf)
          · have hf := it_f h17 hf
            by_cases h25 : x1 = (5 : Int32)
            · have hf := it_t h25 hf
              refine V_tableIn (off := 110) (tgt := 111) dX11_count_1 (by rw [h25]; decide) (by rw [h25]; decide) (by rw [h25]; decide) (by decide) ?_
              refine V_aload_n (j := 0) dX11_count_111 rfl rfl ?_
              obtain ⟨h26, hf⟩ := hf
              obtain ⟨t27, et27, hf⟩ := hf
              refine V_getR fl_X11_19 rfl h26.1 h26.2 et27 dX11_count_112 ?_
              refine V_aload_n (j := 0) dX11_count_115 rfl rfl ?_
              obtain ⟨t28, et28, hf⟩ := hf
              refine V_getR fl_X11_51 rfl h26.1 h26.2 et28 dX11_count_116 ?_
              obtain ⟨h31, hf⟩ := hf
              refine V_cVI (ctX10_marksHeld hn hf) gc_X11_317 rfl h31.1 ⟨_, h31.2, by decide, rfl⟩ ⟨by decide, by decide, Nat.zero_le _, Nat.zero_le _⟩ (Nat.le_of_ble_eq_true rfl) dX11_count_119 rfl hn (fun r29 z30 hf => ?_)
              exact V_ireturn dX11_count_122 rfl rfl (Nat.le_refl 0) (kI_of hf)
            · have hf := it_f h25 hf
              by_cases h32 : x1 = (6 : Int32)
              · have hf := it_t h32 hf
                refine V_tableIn (off := 122) (tgt := 123) dX11_count_1 (by rw [h32]; decide) (by rw [h32]; decide) (by rw [h32]; decide) (by decide) ?_
                refine V_aload_n (j := 0) dX11_count_123 rfl rfl ?_
                obtain ⟨h33, hf⟩ := hf
                obtain ⟨t34, et34, hf⟩ := hf
                refine V_getR fl_X11_19 rfl h33.1 h33.2 et34 dX11_count_124 ?_
                obtain ⟨h35, hf⟩ := hf
                refine V_getI fl_X11_320 rfl h35.1 h35.2 dX11_count_127 ?_
                exact V_ireturn dX11_count_130 rfl rfl (Nat.le_refl 0) (kI_of hf)
              · have hf := it_f h32 hf
                by_cases h36 : x1 = (7 : Int32)
                · have hf := it_t h36 hf
                  refine V_tableIn (off := 130) (tgt := 131) dX11_count_1 (by rw [h36]; decide) (by rw [h36]; decide) (by rw [h36]; decide) (by decide) ?_
                  refine V_aload_n (j := 0) dX11_count_131 rfl rfl ?_
                  obtain ⟨h37, hf⟩ := hf
                  obtain ⟨t38, et38, hf⟩ := hf
                  refine V_getR fl_X11_19 rfl h37.1 h37.2 et38 dX11_count_132 ?_
                  obtain ⟨h39, hf⟩ := hf
                  refine V_getI fl_X11_323 rfl h39.1 h39.2 dX11_count_135 ?_
                  exact V_ireturn dX11_count_138 rfl rfl (Nat.le_refl 0) (kI_of hf)
                · have hf := it_f h36 hf
                  by_cases h40 : x1 = (8 : Int32)
                  · have hf := it_t h40 hf
                    refine V_tableIn (off := 138) (tgt := 139) dX11_count_1 (by rw [h40]; decide) (by rw [h40]; decide) (by rw [h40]; decide) (by decide) ?_
                    refine V_aload_n (j := 0) dX11_count_139 rfl rfl ?_
                    obtain ⟨h41, hf⟩ := hf
                    obtain ⟨t42, et42, hf⟩ := hf
                    refine V_getR fl_X11_61 rfl h41.1 h41.2 et42 dX11_count_140 ?_
                    obtain ⟨h43, hf⟩ := hf
                    refine V_getI fl_X11_326 rfl h43.1 h43.2 dX11_count_143 ?_
                    exact V_ireturn dX11_count_146 rfl rfl (Nat.le_refl 0) (kI_of hf)
                  · have hf := it_f h40 hf
                    by_cases h44 : x1 = (9 : Int32)
                    · have hf := it_t h44 hf
                      refine V_tableIn (off := 146) (tgt := 147) dX11_count_1 (by rw [h44]; decide) (by rw [h44]; decide) (by rw [h44]; decide) (by decide) ?_
                      refine V_aload_n (j := 0) dX11_count_147 rfl rfl ?_
                      obtain ⟨h45, hf⟩ := hf
                      obtain ⟨t46, et46, hf⟩ := hf
                      refine V_getR fl_X11_19 rfl h45.1 h45.2 et46 dX11_count_148 ?_
                      obtain ⟨h47, hf⟩ := hf
                      refine V_getI fl_X11_329 rfl h47.1 h47.2 dX11_count_151 ?_
                      refine V_cSI (ctJ6_bitCount_0f7a4 hn hf) gc_X11_332 rfl ⟨by decide, by decide, Nat.zero_le _, Nat.zero_le _⟩ (Nat.le_of_ble_eq_true rfl) dX11_count_154 rfl hn (fun r48 z49 hf => ?_)
                      exact V_ireturn dX11_count_157 rfl rfl (Nat.le_refl 0) (kI_of hf)
                    · have hf := it_f h44 hf
                      by_cases h50 : x1 = (10 : Int32)
                      · have hf := it_t h50 hf
                        refine V_tableIn (off := 157) (tgt := 158) dX11_count_1 (by rw [h50]; decide) (by rw [h50]; decide) (by rw [h50]; decide) (by decide) ?_
                        refine V_aload_n (j := 0) dX11_count_158 rfl rfl ?_
                        obtain ⟨h51, hf⟩ := hf
                        obtain ⟨t52, et52, hf⟩ := hf
                        refine V_getR fl_X11_29 rfl h51.1 h51.2 et52 dX11_count_159 ?_
                        obtain ⟨h53, hf⟩ := hf
                        refine V_getI fl_X11_337 rfl h53.1 h53.2 dX11_count_162 ?_
                        exact V_ireturn dX11_count_165 rfl rfl (Nat.le_refl 0) (kI_of hf)
                      · have hf := it_f h50 hf
                        by_cases h54 : x1 = (11 : Int32)
                        · have hf := it_t h54 hf
                          refine V_tableIn (off := 165) (tgt := 166) dX11_count_1 (by rw [h54]; decide) (by rw [h54]; decide) (by rw [h54]; decide) (by decide) ?_
                          refine V_aload_n (j := 0) dX11_count_166 rfl rfl ?_
                          obtain ⟨h55, hf⟩ := hf
                          obtain ⟨t56, et56, hf⟩ := hf
                          refine V_getR fl_X11_10 rfl h55.1 h55.2 et56 dX11_count_167 ?_
                          obtain ⟨h57, hf⟩ := hf
                          refine V_getI fl_X11_72 rfl h57.1 h57.2 dX11_count_170 ?_
                          exact V_ireturn dX11_count_173 rfl rfl (Nat.le_refl 0) (kI_of hf)
                        · have hf := it_f h54 hf
                          refine V_tableOut (tgt := 174) dX11_count_1 (by have qh1 := sw_ne (a := 0) h1 (by decide); have qh5 := sw_ne (a := 1) h5 (by decide); have qh9 := sw_ne (a := 2) h9 (by decide); have qh13 := sw_ne (a := 3) h13 (by decide); have qh17 := sw_ne (a := 4) h17 (by decide); have qh25 := sw_ne (a := 5) h25 (by decide); have qh32 := sw_ne (a := 6) h32 (by decide); have qh36 := sw_ne (a := 7) h36 (by decide); have qh40 := sw_ne (a := 8) h40 (by decide); have qh44 := sw_ne (a := 9) h44 (by decide); have qh50 := sw_ne (a := 10) h50 (by decide); have qh54 := sw_ne (a := 11) h54 (by decide); omega) (by decide) ?_
                          refine V_iconst (v := (-1 : Int32)) dX11_count_174 (by decide) ?_
                          exact V_ireturn dX11_count_175 rfl rfl (Nat.le_refl 0) (kI_of hf)
def wX11_isRent (n : Nat) (sh : Nat → Nat × Nat) (x0 : Int32) (z : gS) (P : Int32 → gS → Prop) : Prop := if x0 < 0 then P (0 : Int32) z else (if (9 : Int32) < x0 then P (0 : Int32) z else P (1 : Int32) z)
set_option maxRecDepth 100000 in
set_option maxHeartbeats 4000000 in
theorem ctX11_isRent {E : gE} {n : Nat} {sh : Nat → Nat × Nat} {x0 : Int32} {z : gS} {P : Int32 → gS → Prop} (hn : gOK E n) (hf : wX11_isRent n sh x0 z P) : VM E 0 0 gyX11_isRent [.int x0] n sh z (kI n sh P) := by
  unfold wX11_isRent at hf
  refine VM.of (by decide +kernel) (Nat.le_of_ble_eq_true rfl) (fun _ _ _ h => h.2.2) ?_
  show V E (gR 0 0) gyX11_isRent 0 0 0 [(0, .int x0)] [] n sh z (kI n sh P)
  refine V_iload_n (j := 0) dX11_isRent_0 rfl rfl ?_
  refine V_if_lt (tgt := 14) dX11_isRent_1 (by decide) (fun h2 => ?_) (fun h2 => ?_)
  · have hf := it_t h2 hf
    refine V_iconst (v := (0 : Int32)) dX11_isRent_14 (by decide) ?_
    exact V_ireturn dX11_isRent_15 rfl (by decide) (Nat.le_refl 0) (kI_of hf)
  · have hf := it_f h2 hf
    refine V_iload_n (j := 0) dX11_isRent_4 rfl rfl ?_
    refine V_bipush (v := (9 : Int32)) dX11_isRent_5 (by decide) ?_
    refine V_icmp_gt (tgt := 14) dX11_isRent_7 (by decide) (fun h1 => ?_) (fun h1 => ?_)
    · have hf := it_t h1 hf
      refine V_iconst (v := (0 : Int32)) dX11_isRent_14 (by decide) ?_
      exact V_ireturn dX11_isRent_15 rfl (by decide) (Nat.le_refl 0) (kI_of hf)
    · have hf := it_f h1 hf
      refine V_iconst (v := (1 : Int32)) dX11_isRent_10 (by decide) ?_
      refine V_goto (tgt := 15) dX11_isRent_11 (by decide) ?_
      exact V_ireturn dX11_isRent_15 rfl (by decide) (Nat.le_refl 0) (kI_of hf)
def wX11_rentOf (n : Nat) (sh : Nat → Nat × Nat) (x0 : Int32) (x1 : Int32) (x2 : Int32) (x3 : Int32) (x4 : Int32) (z : gS) (P : Int32 → gS → Prop) : Prop := if x3 = x4 then (if x3 = (1 : Int32) then P x0 z else P x1 z) else (if x3 = (1 : Int32) then P (0 : Int32) z else P x2 z)
set_option maxRecDepth 100000 in
set_option maxHeartbeats 4000000 in
theorem ctX11_rentOf {E : gE} {n : Nat} {sh : Nat → Nat × Nat} {x0 : Int32} {x1 : Int32} {x2 : Int32} {x3 : Int32} {x4 : Int32} {z : gS} {P : Int32 → gS → Prop} (hn : gOK E n) (hf : wX11_rentOf n sh x0 x1 x2 x3 x4 z P) : VM E 0 0 gyX11_rentOf [.int x0, .int x1, .int x2, .int x3, .int x4] n sh z (kI n sh P) := by
  unfold wX11_rentOf at hf
  refine VM.of (by decide +kernel) (Nat.le_of_ble_eq_true rfl) (fun _ _ _ h => h.2.2) ?_
  show V E (gR 0 0) gyX11_rentOf 0 0 0 [(0, .int x0), (1, .int x1), (2, .int x2), (3, .int x3), (4, .int x4)] [] n sh z (kI n sh P)
  refine V_iload_n (j := 3) dX11_rentOf_0 rfl rfl ?_
  refine V_iload (j := 4) dX11_rentOf_1 rfl ?_
  refine V_icmp_ne (tgt := 17) dX11_rentOf_3 (by decide) (fun h3 => ?_) (fun h3 => ?_)
  · have hf := it_f h3 hf
    refine V_iload_n (j := 3) dX11_rentOf_17 rfl rfl ?_
    refine V_iconst (v := (1 : Int32)) dX11_rentOf_18 (by decide) ?_
    refine V_icmp_ne (tgt := 26) dX11_rentOf_19 (by decide) (fun h1 => ?_) (fun h1 => ?_)
    · have hf := it_f h1 hf
      refine V_iload_n (j := 2) dX11_rentOf_26 rfl rfl ?_
      exact V_ireturn dX11_rentOf_27 rfl rfl (Nat.le_refl 0) (kI_of hf)
    · have hf := it_t (Classical.not_not.mp h1) hf
      refine V_iconst (v := (0 : Int32)) dX11_rentOf_22 (by decide) ?_
      refine V_goto (tgt := 27) dX11_rentOf_23 (by decide) ?_
      exact V_ireturn dX11_rentOf_27 rfl rfl (Nat.le_refl 0) (kI_of hf)
  · have hf := it_t (Classical.not_not.mp h3) hf
    refine V_iload_n (j := 3) dX11_rentOf_6 rfl rfl ?_
    refine V_iconst (v := (1 : Int32)) dX11_rentOf_7 (by decide) ?_
    refine V_icmp_ne (tgt := 15) dX11_rentOf_8 (by decide) (fun h2 => ?_) (fun h2 => ?_)
    · have hf := it_f h2 hf
      refine V_iload_n (j := 1) dX11_rentOf_15 rfl rfl ?_
      exact V_ireturn dX11_rentOf_16 rfl rfl (Nat.le_refl 0) (kI_of hf)
    · have hf := it_t (Classical.not_not.mp h2) hf
      refine V_iload_n (j := 0) dX11_rentOf_11 rfl rfl ?_
      refine V_goto (tgt := 16) dX11_rentOf_12 (by decide) ?_
      exact V_ireturn dX11_rentOf_16 rfl rfl (Nat.le_refl 0) (kI_of hf)
def wX11_isAtRest (n : Nat) (sh : Nat → Nat × Nat) (x0 : Int32) (x1 : Int32) (x2 : Int32) (x3 : Int32) (z : gS) (P : Int32 → gS → Prop) : Prop := ∀ v1 : Int32, v1 = (x3 >>> ((1 : Int32) &&& 31)) → (∀ v2 : Int32, v2 = (x3 &&& (1 : Int32)) → (wX11_rentOf n sh x0 x1 x2 v1 v2 z (fun (r3 : Int32) (z4 : gS) => wX11_rentOf n sh x0 x1 x2 ((1 : Int32) - v1) v2 z4 (fun (r5 : Int32) (z6 : gS) => if r3 < r5 then P (0 : Int32) z6 else (wX11_rentOf n sh x0 x1 x2 v2 v1 z6 (fun (r7 : Int32) (z8 : gS) => wX11_rentOf n sh x0 x1 x2 ((1 : Int32) - v2) v1 z8 (fun (r9 : Int32) (z10 : gS) => if r7 < r9 then P (0 : Int32) z10 else P (1 : Int32) z10)))))))
set_option maxRecDepth 100000 in
set_option maxHeartbeats 4000000 in
theorem ctX11_isAtRest {E : gE} {n : Nat} {sh : Nat → Nat × Nat} {x0 : Int32} {x1 : Int32} {x2 : Int32} {x3 : Int32} {z : gS} {P : Int32 → gS → Prop} (hn : gOK E n) (hf : wX11_isAtRest n sh x0 x1 x2 x3 z P) : VM E 1 0 gyX11_isAtRest [.int x0, .int x1, .int x2, .int x3] n sh z (kI n sh P) := by
  unfold wX11_isAtRest at hf
  refine VM.of (by decide +kernel) (Nat.le_of_ble_eq_true rfl) (fun _ _ _ h => h.2.2) ?_
  show V E (gR 1 0) gyX11_isAtRest 0 0 0 [(0, .int x0), (1, .int x1), (2, .int x2), (3, .int x3)] [] n sh z (kI n sh P)
  refine V_iload_n (j := 3) dX11_isAtRest_0 rfl rfl ?_
  refine V_iconst (v := (1 : Int32)) dX11_isAtRest_1 (by decide) ?_
  refine V_ishr dX11_isAtRest_2 ?_
  refine V_nI (fun v1 ev1 => ?_)
  have hf := hf v1 ev1
  refine V_istore (ls2 := [(4, .int v1), (0, .int x0), (1, .int x1), (2, .int x2), (3, .int x3)]) dX11_isAtRest_3 (by decide) rfl ?_
  refine V_iload_n (j := 4) dX11_isAtRest_5 rfl rfl ?_
  refine V_iconst (v := (1 : Int32)) dX11_isAtRest_6 (by decide) ?_
  refine V_iand dX11_isAtRest_7 ?_
  refine V_nI (fun v2 ev2 => ?_)
  have hf := hf v2 ev2
  refine V_istore (ls2 := [(5, .int v2), (4, .int v1), (0, .int x0), (1, .int x1), (2, .int x2), (3, .int x3)]) dX11_isAtRest_8 (by decide) rfl ?_
  refine V_iload_n (j := 2) dX11_isAtRest_10 rfl rfl ?_
  refine V_iload_n (j := 3) dX11_isAtRest_11 rfl rfl ?_
  refine V_iload_n (j := 4) dX11_isAtRest_12 rfl rfl ?_
  refine V_iload (j := 1) dX11_isAtRest_13 rfl ?_
  refine V_iload (j := 0) dX11_isAtRest_15 rfl ?_
  refine V_cSI (ctX11_rentOf hn hf) gc_X11_338 rfl ⟨by decide, by decide, Nat.zero_le _, Nat.zero_le _⟩ (Nat.le_of_ble_eq_true rfl) dX11_isAtRest_17 rfl hn (fun r3 z4 hf => ?_)
  refine V_iload_n (j := 2) dX11_isAtRest_20 rfl rfl ?_
  refine V_iload_n (j := 3) dX11_isAtRest_21 rfl rfl ?_
  refine V_iload_n (j := 4) dX11_isAtRest_22 rfl rfl ?_
  refine V_iconst (v := (1 : Int32)) dX11_isAtRest_23 (by decide) ?_
  refine V_iload (j := 1) dX11_isAtRest_24 rfl ?_
  refine V_isub dX11_isAtRest_26 ?_
  refine V_iload (j := 0) dX11_isAtRest_27 rfl ?_
  refine V_cSI (ctX11_rentOf hn hf) gc_X11_338 rfl ⟨by decide, by decide, Nat.zero_le _, Nat.zero_le _⟩ (Nat.le_of_ble_eq_true rfl) dX11_isAtRest_29 rfl hn (fun r5 z6 hf => ?_)
  refine V_icmp_lt (tgt := 64) dX11_isAtRest_32 (by decide) (fun h12 => ?_) (fun h12 => ?_)
  · have hf := it_t h12 hf
    refine V_iconst (v := (0 : Int32)) dX11_isAtRest_64 (by decide) ?_
    exact V_ireturn dX11_isAtRest_65 rfl (by decide) (Nat.le_refl 0) (kI_of hf)
  · have hf := it_f h12 hf
    refine V_iload_n (j := 2) dX11_isAtRest_35 rfl rfl ?_
    refine V_iload_n (j := 3) dX11_isAtRest_36 rfl rfl ?_
    refine V_iload_n (j := 4) dX11_isAtRest_37 rfl rfl ?_
    refine V_iload (j := 0) dX11_isAtRest_38 rfl ?_
    refine V_iload (j := 1) dX11_isAtRest_40 rfl ?_
    refine V_cSI (ctX11_rentOf hn hf) gc_X11_338 rfl ⟨by decide, by decide, Nat.zero_le _, Nat.zero_le _⟩ (Nat.le_of_ble_eq_true rfl) dX11_isAtRest_42 rfl hn (fun r7 z8 hf => ?_)
    refine V_iload_n (j := 2) dX11_isAtRest_45 rfl rfl ?_
    refine V_iload_n (j := 3) dX11_isAtRest_46 rfl rfl ?_
    refine V_iload_n (j := 4) dX11_isAtRest_47 rfl rfl ?_
    refine V_iconst (v := (1 : Int32)) dX11_isAtRest_48 (by decide) ?_
    refine V_iload (j := 0) dX11_isAtRest_49 rfl ?_
    refine V_isub dX11_isAtRest_51 ?_
    refine V_iload (j := 1) dX11_isAtRest_52 rfl ?_
    refine V_cSI (ctX11_rentOf hn hf) gc_X11_338 rfl ⟨by decide, by decide, Nat.zero_le _, Nat.zero_le _⟩ (Nat.le_of_ble_eq_true rfl) dX11_isAtRest_54 rfl hn (fun r9 z10 hf => ?_)
    refine V_icmp_lt (tgt := 64) dX11_isAtRest_57 (by decide) (fun h11 => ?_) (fun h11 => ?_)
    · have hf := it_t h11 hf
      refine V_iconst (v := (0 : Int32)) dX11_isAtRest_64 (by decide) ?_
      exact V_ireturn dX11_isAtRest_65 rfl (by decide) (Nat.le_refl 0) (kI_of hf)
    · have hf := it_f h11 hf
      refine V_iconst (v := (1 : Int32)) dX11_isAtRest_60 (by decide) ?_
      refine V_goto (tgt := 65) dX11_isAtRest_61 (by decide) ?_
      exact V_ireturn dX11_isAtRest_65 rfl (by decide) (Nat.le_refl 0) (kI_of hf)
def wX12_thrown (n : Nat) (sh : Nat → Nat × Nat) (a0 : Nat) (z : gS) (P : Int32 → gS → Prop) : Prop := (oO n sh a0 8) ∧ P (gi z a0 0) z
set_option maxRecDepth 100000 in
set_option maxHeartbeats 4000000 in
theorem ctX12_thrown {E : gE} {n : Nat} {sh : Nat → Nat × Nat} {a0 : Nat} {z : gS} {P : Int32 → gS → Prop} (hn : gOK E n) (hf : wX12_thrown n sh a0 z P) : VM E 0 0 gyX12_thrown [.ref a0] n sh z (kI n sh P) := by
  unfold wX12_thrown at hf
  refine VM.of (by decide +kernel) (Nat.le_of_ble_eq_true rfl) (fun _ _ _ h => h.2.2) ?_
  show V E (gR 0 0) gyX12_thrown 0 0 0 [(0, .ref a0)] [] n sh z (kI n sh P)
  refine V_aload_n (j := 0) dX12_thrown_0 rfl rfl ?_
  obtain ⟨h1, hf⟩ := hf
  refine V_getI fl_X12_1 rfl h1.1 h1.2 dX12_thrown_1 ?_
  exact V_ireturn dX12_thrown_4 rfl rfl (Nat.le_refl 0) (kI_of hf)
def wX12_lay_J69 (n : Nat) (sh : Nat → Nat × Nat) (k3 : Nat → Int64 → Int32 → gS → Prop) (P : gS → Prop) (a0 : Nat) (y1 : Int64) (x3 : Int32) (z : gS) : Prop := ∀ v3 : Int32, v3 = x3 + (-8 : Int32) → k3 a0 y1 v3 z
set_option maxRecDepth 100000 in
set_option maxHeartbeats 4000000 in
theorem vX12_lay_J69 {E : gE} {n : Nat} {sh : Nat → Nat × Nat} {P : gS → Prop} {k3 : Nat → Int64 → Int32 → gS → Prop} {a0 : Nat} {y1 : Int64} {x3 : Int32} {z : gS} (hn : gOK E n) (hk3 : ∀ (a0 : Nat) (y1 : Int64) (x3 : Int32) (z : gS), k3 a0 y1 x3 z → V E (gR 0 0) gyX12_lay 0 0 3 [(0, .ref a0), (1, .long y1), (3, .int x3)] [] n sh z (kN n sh P)) (hf : wX12_lay_J69 n sh k3 P a0 y1 x3 z) : V E (gR 0 0) gyX12_lay 0 0 69 [(0, .ref a0), (1, .long y1), (3, .int x3)] [] n sh z (kN n sh P) := by
  unfold wX12_lay_J69 at hf
  obtain ⟨v3, ev3⟩ : ∃ y : Int32, y = x3 + (-8 : Int32) := ⟨_, rfl⟩
  refine V_iinc (j := 2) (v := v3) (ls2 := [(3, .int v3), (0, .ref a0), (1, .long y1)]) dX12_lay_69 rfl (by rw [ev3]; rfl) (by decide) rfl ?_
  have hf := hf v3 ev3
  refine V_goto (tgt := 3) dX12_lay_72 (by decide) ?_
  refine V_to [1, 2, 0] rfl ?_
  exact hk3 _ _ _ _ hf
def wX12_lay_J38 (n : Nat) (sh : Nat → Nat × Nat) (k3 : Nat → Int64 → Int32 → gS → Prop) (P : gS → Prop) (a0 : Nat) (y1 : Int64) (x3 : Int32) (x4 : Int32) (z : gS) : Prop := (oO n sh a0 8) ∧ (if (1000 : Int32) ≤ (gi z a0 2) then wX12_lay_J69 n sh k3 P a0 y1 x3 z else (∃ t4 : Nat, gr z a0 1 = some t4 ∧ ((oA n sh t4 1) ∧ ((vp_in (gi z a0 2) (sh t4).2) ∧ (∀ z7 : gS, z7 = si z t4 (gi z a0 2).toNatClampNeg x4 → (∀ z8 : gS, z8 = si z7 a0 2 ((gi z7 a0 2) + (1 : Int32)) → wX12_lay_J69 n sh k3 P a0 y1 x3 z8))))))
set_option maxRecDepth 100000 in
set_option maxHeartbeats 4000000 in
theorem vX12_lay_J38 {E : gE} {n : Nat} {sh : Nat → Nat × Nat} {P : gS → Prop} {k3 : Nat → Int64 → Int32 → gS → Prop} {a0 : Nat} {y1 : Int64} {x3 : Int32} {x4 : Int32} {z : gS} (hn : gOK E n) (hk3 : ∀ (a0 : Nat) (y1 : Int64) (x3 : Int32) (z : gS), k3 a0 y1 x3 z → V E (gR 0 0) gyX12_lay 0 0 3 [(0, .ref a0), (1, .long y1), (3, .int x3)] [] n sh z (kN n sh P)) (hf : wX12_lay_J38 n sh k3 P a0 y1 x3 x4 z) : V E (gR 0 0) gyX12_lay 0 0 38 [(0, .ref a0), (1, .long y1), (3, .int x3), (4, .int x4)] [] n sh z (kN n sh P) := by
  unfold wX12_lay_J38 at hf
  refine V_aload_n (j := 0) dX12_lay_38 rfl rfl ?_
  obtain ⟨h2, hf⟩ := hf
  refine V_getI fl_X12_11 rfl h2.1 h2.2 dX12_lay_39 ?_
  refine V_sipush (v := (1000 : Int32)) dX12_lay_42 (by decide) ?_
  refine V_icmp_ge (tgt := 69) dX12_lay_45 (by decide) (fun h9 => ?_) (fun h9 => ?_)
  · have hf := it_t h9 hf
    refine V_to [0, 1, 2] rfl ?_
    exact vX12_lay_J69 hn hk3 hf
  · have hf := it_f h9 hf
    refine V_aload_n (j := 0) dX12_lay_48 rfl rfl ?_
    obtain ⟨t4, et4, hf⟩ := hf
    refine V_getR fl_X12_14 rfl h2.1 h2.2 et4 dX12_lay_49 ?_
    refine V_aload_n (j := 0) dX12_lay_52 rfl rfl ?_
    refine V_getI fl_X12_11 rfl h2.1 h2.2 dX12_lay_53 ?_
    refine V_iload (j := 3) dX12_lay_56 rfl ?_
    obtain ⟨h5, hf⟩ := hf
    obtain ⟨h6, hf⟩ := hf
    refine V_iast h5.1 h5.s h6 dX12_lay_58 ?_
    refine V_nz (fun z7 ez7 => ?_)
    have hf := hf z7 ez7
    refine V_aload_n (j := 0) dX12_lay_59 rfl rfl ?_
    refine V_dup dX12_lay_60 rfl ?_
    refine V_getI fl_X12_11 rfl h2.1 h2.2 dX12_lay_61 ?_
    refine V_iconst (v := (1 : Int32)) dX12_lay_64 (by decide) ?_
    refine V_iadd dX12_lay_65 ?_
    refine V_putI fl_X12_11 rfl rfl rfl rfl h2.1 h2.2 dX12_lay_66 ?_
    refine V_nz (fun z8 ez8 => ?_)
    have hf := hf z8 ez8
    refine V_to [0, 1, 2] rfl ?_
    exact vX12_lay_J69 hn hk3 hf
def wX12_lay_B3 (n : Nat) (sh : Nat → Nat × Nat) (k3 : Nat → Int64 → Int32 → gS → Prop) (P : gS → Prop) (a0 : Nat) (y1 : Int64) (x3 : Int32) (z : gS) : Prop := if x3 < 0 then P z else (∀ v1 : Int32, v1 = ((y1 >>> (x3.toInt64 &&& 63)).toInt32 &&& (255 : Int32)) → (if v1 = (10 : Int32) then wX12_lay_J38 n sh k3 P a0 y1 x3 v1 z else (if v1 < (32 : Int32) then wX12_lay_J69 n sh k3 P a0 y1 x3 z else (if (126 : Int32) < v1 then wX12_lay_J69 n sh k3 P a0 y1 x3 z else wX12_lay_J38 n sh k3 P a0 y1 x3 v1 z))))
def wX12_lay_L3 (n : Nat) (sh : Nat → Nat × Nat) (P : gS → Prop) : Nat → Nat → Int64 → Int32 → gS → Prop
  | 0, _, _, _, _ => False
  | N + 1, a0, y1, x3, z => wX12_lay_B3 n sh (wX12_lay_L3 n sh P N) P a0 y1 x3 z
set_option maxRecDepth 100000 in
set_option maxHeartbeats 4000000 in
theorem vX12_lay_B3 {E : gE} {n : Nat} {sh : Nat → Nat × Nat} {P : gS → Prop} {k3 : Nat → Int64 → Int32 → gS → Prop} {a0 : Nat} {y1 : Int64} {x3 : Int32} {z : gS} (hn : gOK E n) (hk3 : ∀ (a0 : Nat) (y1 : Int64) (x3 : Int32) (z : gS), k3 a0 y1 x3 z → V E (gR 0 0) gyX12_lay 0 0 3 [(0, .ref a0), (1, .long y1), (3, .int x3)] [] n sh z (kN n sh P)) (hf : wX12_lay_B3 n sh k3 P a0 y1 x3 z) : V E (gR 0 0) gyX12_lay 0 0 3 [(0, .ref a0), (1, .long y1), (3, .int x3)] [] n sh z (kN n sh P) := by
  unfold wX12_lay_B3 at hf
  refine V_iload_n (j := 2) dX12_lay_3 rfl rfl ?_
  refine V_if_lt (tgt := 75) dX12_lay_4 (by decide) (fun h13 => ?_) (fun h13 => ?_)
  · have hf := it_t h13 hf
    exact V_return dX12_lay_75 rfl (Nat.le_refl 0) (kN_of hf)
  · have hf := it_f h13 hf
    refine V_lload_n (j := 1) dX12_lay_7 rfl rfl ?_
    refine V_iload_n (j := 2) dX12_lay_8 rfl rfl ?_
    refine V_lshr dX12_lay_9 ?_
    refine V_l2i dX12_lay_10 ?_
    refine V_sipush (v := (255 : Int32)) dX12_lay_11 (by decide) ?_
    refine V_iand dX12_lay_14 ?_
    refine V_nI (fun v1 ev1 => ?_)
    have hf := hf v1 ev1
    refine V_istore (ls2 := [(4, .int v1), (0, .ref a0), (1, .long y1), (3, .int x3)]) dX12_lay_15 (by decide) rfl ?_
    refine V_iload (j := 0) dX12_lay_17 rfl ?_
    refine V_bipush (v := (10 : Int32)) dX12_lay_19 (by decide) ?_
    refine V_icmp_eq (tgt := 38) dX12_lay_21 (by decide) (fun h12 => ?_) (fun h12 => ?_)
    · have hf := it_t h12 hf
      refine V_to [1, 2, 3, 0] rfl ?_
      exact vX12_lay_J38 hn hk3 hf
    · have hf := it_f h12 hf
      refine V_iload (j := 0) dX12_lay_24 rfl ?_
      refine V_bipush (v := (32 : Int32)) dX12_lay_26 (by decide) ?_
      refine V_icmp_lt (tgt := 69) dX12_lay_28 (by decide) (fun h11 => ?_) (fun h11 => ?_)
      · have hf := it_t h11 hf
        refine V_to [1, 2, 3] rfl ?_
        exact vX12_lay_J69 hn hk3 hf
      · have hf := it_f h11 hf
        refine V_iload (j := 0) dX12_lay_31 rfl ?_
        refine V_bipush (v := (126 : Int32)) dX12_lay_33 (by decide) ?_
        refine V_icmp_gt (tgt := 69) dX12_lay_35 (by decide) (fun h10 => ?_) (fun h10 => ?_)
        · have hf := it_t h10 hf
          refine V_to [1, 2, 3] rfl ?_
          exact vX12_lay_J69 hn hk3 hf
        · have hf := it_f h10 hf
          refine V_to [1, 2, 3, 0] rfl ?_
          exact vX12_lay_J38 hn hk3 hf
set_option maxRecDepth 100000 in
set_option maxHeartbeats 4000000 in
theorem vX12_lay_L3 {E : gE} {n : Nat} {sh : Nat → Nat × Nat} {P : gS → Prop} (hn : gOK E n) : ∀ (N : Nat) (a0 : Nat) (y1 : Int64) (x3 : Int32) (z : gS), wX12_lay_L3 n sh P N a0 y1 x3 z → V E (gR 0 0) gyX12_lay 0 0 3 [(0, .ref a0), (1, .long y1), (3, .int x3)] [] n sh z (kN n sh P) := by
  intro N
  induction N with
  | zero => intro a0 y1 x3 z hf; exact False.elim hf
  | succ N ih => intro a0 y1 x3 z hf; exact vX12_lay_B3 hn ih hf
def wX12_lay (n : Nat) (sh : Nat → Nat × Nat) (a0 : Nat) (y1 : Int64) (z : gS) (P : gS → Prop) : Prop := (∃ N, wX12_lay_L3 n sh P N a0 y1 (56 : Int32) z)
set_option maxRecDepth 100000 in
set_option maxHeartbeats 4000000 in
theorem ctX12_lay {E : gE} {n : Nat} {sh : Nat → Nat × Nat} {a0 : Nat} {y1 : Int64} {z : gS} {P : gS → Prop} (hn : gOK E n) (hf : wX12_lay n sh a0 y1 z P) : VM E 0 0 gyX12_lay [.ref a0, .long y1] n sh z (kN n sh P) := by
  unfold wX12_lay at hf
  refine VM.of (by decide +kernel) (Nat.le_of_ble_eq_true rfl) (fun _ _ _ h => h.2.2) ?_
  show V E (gR 0 0) gyX12_lay 0 0 0 [(0, .ref a0), (1, .long y1)] [] n sh z (kN n sh P)
  refine V_bipush (v := (56 : Int32)) dX12_lay_0 (by decide) ?_
  refine V_istore_n (ls2 := [(3, .int (56 : Int32)), (0, .ref a0), (1, .long y1)]) dX12_lay_2 rfl (by decide) rfl ?_
  obtain ⟨N, hf⟩ := hf
  refine V_to [1, 2, 0] rfl ?_
  exact vX12_lay_L3 hn N _ _ _ _ hf
def wX12_feed (n : Nat) (sh : Nat → Nat × Nat) (a0 : Nat) (y1 : Int64) (y3 : Int64) (y5 : Int64) (z : gS) (P : Int32 → gS → Prop) : Prop := (oO n sh a0 8) ∧ (∀ z2 : gS, z2 = si z a0 0 (0 : Int32) → (wX12_lay n sh a0 y1 z2 (fun (z4 : gS) => wX12_lay n sh a0 y3 z4 (fun (z6 : gS) => wX12_lay n sh a0 y5 z6 (fun (z8 : gS) => P (gi z8 a0 2) z8)))))
set_option maxRecDepth 100000 in
set_option maxHeartbeats 4000000 in
theorem ctX12_feed {E : gE} {n : Nat} {sh : Nat → Nat × Nat} {a0 : Nat} {y1 : Int64} {y3 : Int64} {y5 : Int64} {z : gS} {P : Int32 → gS → Prop} (hn : gOK E n) (hf : wX12_feed n sh a0 y1 y3 y5 z P) : VM E 1 0 gyX12_feed [.ref a0, .long y1, .long y3, .long y5] n sh z (kI n sh P) := by
  unfold wX12_feed at hf
  refine VM.of (by decide +kernel) (Nat.le_of_ble_eq_true rfl) (fun _ _ _ h => h.2.2) ?_
  show V E (gR 1 0) gyX12_feed 0 0 0 [(0, .ref a0), (1, .long y1), (3, .long y3), (5, .long y5)] [] n sh z (kI n sh P)
  refine V_aload_n (j := 0) dX12_feed_0 rfl rfl ?_
  refine V_iconst (v := (0 : Int32)) dX12_feed_1 (by decide) ?_
  obtain ⟨h1, hf⟩ := hf
  refine V_putI fl_X12_1 rfl rfl rfl rfl h1.1 h1.2 dX12_feed_2 ?_
  refine V_nz (fun z2 ez2 => ?_)
  have hf := hf z2 ez2
  refine V_aload_n (j := 0) dX12_feed_5 rfl rfl ?_
  refine V_lload_n (j := 1) dX12_feed_6 rfl rfl ?_
  refine V_cVN (ctX12_lay hn hf) gc_X12_7 rfl h1.1 ⟨_, h1.2, by decide, rfl⟩ ⟨by decide, by decide, Nat.zero_le _, Nat.zero_le _⟩ (Nat.le_of_ble_eq_true rfl) dX12_feed_7 rfl hn (fun z4 hf => ?_)
  refine V_aload_n (j := 0) dX12_feed_10 rfl rfl ?_
  refine V_lload_n (j := 2) dX12_feed_11 rfl rfl ?_
  refine V_cVN (ctX12_lay hn hf) gc_X12_7 rfl h1.1 ⟨_, h1.2, by decide, rfl⟩ ⟨by decide, by decide, Nat.zero_le _, Nat.zero_le _⟩ (Nat.le_of_ble_eq_true rfl) dX12_feed_12 rfl hn (fun z6 hf => ?_)
  refine V_aload_n (j := 0) dX12_feed_15 rfl rfl ?_
  refine V_lload (j := 3) dX12_feed_16 rfl ?_
  refine V_cVN (ctX12_lay hn hf) gc_X12_7 rfl h1.1 ⟨_, h1.2, by decide, rfl⟩ ⟨by decide, by decide, Nat.zero_le _, Nat.zero_le _⟩ (Nat.le_of_ble_eq_true rfl) dX12_feed_18 rfl hn (fun z8 hf => ?_)
  refine V_aload_n (j := 0) dX12_feed_21 rfl rfl ?_
  refine V_getI fl_X12_11 rfl h1.1 h1.2 dX12_feed_22 ?_
  exact V_ireturn dX12_feed_25 rfl rfl (Nat.le_refl 0) (kI_of hf)
def wX12_isLetter (n : Nat) (sh : Nat → Nat × Nat) (x0 : Int32) (z : gS) (P : Int32 → gS → Prop) : Prop := if x0 < (97 : Int32) then P (0 : Int32) z else (if (122 : Int32) < x0 then P (0 : Int32) z else P (1 : Int32) z)
set_option maxRecDepth 100000 in
set_option maxHeartbeats 4000000 in
theorem ctX12_isLetter {E : gE} {n : Nat} {sh : Nat → Nat × Nat} {x0 : Int32} {z : gS} {P : Int32 → gS → Prop} (hn : gOK E n) (hf : wX12_isLetter n sh x0 z P) : VM E 0 0 gyX12_isLetter [.int x0] n sh z (kI n sh P) := by
  unfold wX12_isLetter at hf
  refine VM.of (by decide +kernel) (Nat.le_of_ble_eq_true rfl) (fun _ _ _ h => h.2.2) ?_
  show V E (gR 0 0) gyX12_isLetter 0 0 0 [(0, .int x0)] [] n sh z (kI n sh P)
  refine V_iload_n (j := 0) dX12_isLetter_0 rfl rfl ?_
  refine V_bipush (v := (97 : Int32)) dX12_isLetter_1 (by decide) ?_
  refine V_icmp_lt (tgt := 16) dX12_isLetter_3 (by decide) (fun h2 => ?_) (fun h2 => ?_)
  · have hf := it_t h2 hf
    refine V_iconst (v := (0 : Int32)) dX12_isLetter_16 (by decide) ?_
    exact V_ireturn dX12_isLetter_17 rfl (by decide) (Nat.le_refl 0) (kI_of hf)
  · have hf := it_f h2 hf
    refine V_iload_n (j := 0) dX12_isLetter_6 rfl rfl ?_
    refine V_bipush (v := (122 : Int32)) dX12_isLetter_7 (by decide) ?_
    refine V_icmp_gt (tgt := 16) dX12_isLetter_9 (by decide) (fun h1 => ?_) (fun h1 => ?_)
    · have hf := it_t h1 hf
      refine V_iconst (v := (0 : Int32)) dX12_isLetter_16 (by decide) ?_
      exact V_ireturn dX12_isLetter_17 rfl (by decide) (Nat.le_refl 0) (kI_of hf)
    · have hf := it_f h1 hf
      refine V_iconst (v := (1 : Int32)) dX12_isLetter_12 (by decide) ?_
      refine V_goto (tgt := 17) dX12_isLetter_13 (by decide) ?_
      exact V_ireturn dX12_isLetter_17 rfl (by decide) (Nat.le_refl 0) (kI_of hf)
def wX12_isDigit (n : Nat) (sh : Nat → Nat × Nat) (x0 : Int32) (z : gS) (P : Int32 → gS → Prop) : Prop := if x0 < (48 : Int32) then P (0 : Int32) z else (if (57 : Int32) < x0 then P (0 : Int32) z else P (1 : Int32) z)
set_option maxRecDepth 100000 in
set_option maxHeartbeats 4000000 in
theorem ctX12_isDigit {E : gE} {n : Nat} {sh : Nat → Nat × Nat} {x0 : Int32} {z : gS} {P : Int32 → gS → Prop} (hn : gOK E n) (hf : wX12_isDigit n sh x0 z P) : VM E 0 0 gyX12_isDigit [.int x0] n sh z (kI n sh P) := by
  unfold wX12_isDigit at hf
  refine VM.of (by decide +kernel) (Nat.le_of_ble_eq_true rfl) (fun _ _ _ h => h.2.2) ?_
  show V E (gR 0 0) gyX12_isDigit 0 0 0 [(0, .int x0)] [] n sh z (kI n sh P)
  refine V_iload_n (j := 0) dX12_isDigit_0 rfl rfl ?_
  refine V_bipush (v := (48 : Int32)) dX12_isDigit_1 (by decide) ?_
  refine V_icmp_lt (tgt := 16) dX12_isDigit_3 (by decide) (fun h2 => ?_) (fun h2 => ?_)
  · have hf := it_t h2 hf
    refine V_iconst (v := (0 : Int32)) dX12_isDigit_16 (by decide) ?_
    exact V_ireturn dX12_isDigit_17 rfl (by decide) (Nat.le_refl 0) (kI_of hf)
  · have hf := it_f h2 hf
    refine V_iload_n (j := 0) dX12_isDigit_6 rfl rfl ?_
    refine V_bipush (v := (57 : Int32)) dX12_isDigit_7 (by decide) ?_
    refine V_icmp_gt (tgt := 16) dX12_isDigit_9 (by decide) (fun h1 => ?_) (fun h1 => ?_)
    · have hf := it_t h1 hf
      refine V_iconst (v := (0 : Int32)) dX12_isDigit_16 (by decide) ?_
      exact V_ireturn dX12_isDigit_17 rfl (by decide) (Nat.le_refl 0) (kI_of hf)
    · have hf := it_f h1 hf
      refine V_iconst (v := (1 : Int32)) dX12_isDigit_12 (by decide) ?_
      refine V_goto (tgt := 17) dX12_isDigit_13 (by decide) ?_
      exact V_ireturn dX12_isDigit_17 rfl (by decide) (Nat.le_refl 0) (kI_of hf)
def wX12_rank (n : Nat) (sh : Nat → Nat × Nat) (x0 : Int32) (z : gS) (P : Int32 → gS → Prop) : Prop := wX12_isLetter n sh x0 z (fun (r1 : Int32) (z2 : gS) => if r1 = 0 then P (x0 - (21 : Int32)) z2 else P (x0 - (96 : Int32)) z2)
set_option maxRecDepth 100000 in
set_option maxHeartbeats 4000000 in
theorem ctX12_rank {E : gE} {n : Nat} {sh : Nat → Nat × Nat} {x0 : Int32} {z : gS} {P : Int32 → gS → Prop} (hn : gOK E n) (hf : wX12_rank n sh x0 z P) : VM E 1 0 gyX12_rank [.int x0] n sh z (kI n sh P) := by
  unfold wX12_rank at hf
  refine VM.of (by decide +kernel) (Nat.le_of_ble_eq_true rfl) (fun _ _ _ h => h.2.2) ?_
  show V E (gR 1 0) gyX12_rank 0 0 0 [(0, .int x0)] [] n sh z (kI n sh P)
  refine V_iload_n (j := 0) dX12_rank_0 rfl rfl ?_
  refine V_cSI (ctX12_isLetter hn hf) gc_X12_133 rfl ⟨by decide, by decide, Nat.zero_le _, Nat.zero_le _⟩ (Nat.le_of_ble_eq_true rfl) dX12_rank_1 rfl hn (fun r1 z2 hf => ?_)
  refine V_if_eq (tgt := 14) dX12_rank_4 (by decide) (fun h3 => ?_) (fun h3 => ?_)
  · have hf := it_t h3 hf
    refine V_iload_n (j := 0) dX12_rank_14 rfl rfl ?_
    refine V_bipush (v := (21 : Int32)) dX12_rank_15 (by decide) ?_
    refine V_isub dX12_rank_17 ?_
    exact V_ireturn dX12_rank_18 rfl rfl (Nat.le_refl 0) (kI_of hf)
  · have hf := it_f h3 hf
    refine V_iload_n (j := 0) dX12_rank_7 rfl rfl ?_
    refine V_bipush (v := (96 : Int32)) dX12_rank_8 (by decide) ?_
    refine V_isub dX12_rank_10 ?_
    refine V_goto (tgt := 18) dX12_rank_11 (by decide) ?_
    exact V_ireturn dX12_rank_18 rfl rfl (Nat.le_refl 0) (kI_of hf)
def wX12_isSignOf_J48 (n : Nat) (sh : Nat → Nat × Nat) (P : Int32 → gS → Prop) (z : gS) : Prop := P (1 : Int32) z
set_option maxRecDepth 100000 in
set_option maxHeartbeats 4000000 in
theorem vX12_isSignOf_J48 {E : gE} {n : Nat} {sh : Nat → Nat × Nat} {P : Int32 → gS → Prop} {z : gS} (hn : gOK E n) (hf : wX12_isSignOf_J48 n sh P z) : V E (gR 0 0) gyX12_isSignOf 0 0 48 [] [] n sh z (kI n sh P) := by
  unfold wX12_isSignOf_J48 at hf
  refine V_iconst (v := (1 : Int32)) dX12_isSignOf_48 (by decide) ?_
  refine V_goto (tgt := 53) dX12_isSignOf_49 (by decide) ?_
  exact V_ireturn dX12_isSignOf_53 rfl (by decide) (Nat.le_refl 0) (kI_of hf)
def wX12_isSignOf (n : Nat) (sh : Nat → Nat × Nat) (x0 : Int32) (z : gS) (P : Int32 → gS → Prop) : Prop := if x0 = (40 : Int32) then wX12_isSignOf_J48 n sh P  z else (if x0 = (41 : Int32) then wX12_isSignOf_J48 n sh P  z else (if x0 = (59 : Int32) then wX12_isSignOf_J48 n sh P  z else (if x0 = (61 : Int32) then wX12_isSignOf_J48 n sh P  z else (if x0 = (60 : Int32) then wX12_isSignOf_J48 n sh P  z else (if x0 = (43 : Int32) then wX12_isSignOf_J48 n sh P  z else (if x0 = (45 : Int32) then wX12_isSignOf_J48 n sh P  z else (if x0 = (42 : Int32) then wX12_isSignOf_J48 n sh P  z else P (0 : Int32) z)))))))
set_option maxRecDepth 100000 in
set_option maxHeartbeats 4000000 in
theorem ctX12_isSignOf {E : gE} {n : Nat} {sh : Nat → Nat × Nat} {x0 : Int32} {z : gS} {P : Int32 → gS → Prop} (hn : gOK E n) (hf : wX12_isSignOf n sh x0 z P) : VM E 0 0 gyX12_isSignOf [.int x0] n sh z (kI n sh P) := by
  unfold wX12_isSignOf at hf
  refine VM.of (by decide +kernel) (Nat.le_of_ble_eq_true rfl) (fun _ _ _ h => h.2.2) ?_
  show V E (gR 0 0) gyX12_isSignOf 0 0 0 [(0, .int x0)] [] n sh z (kI n sh P)
  refine V_iload_n (j := 0) dX12_isSignOf_0 rfl rfl ?_
  refine V_bipush (v := (40 : Int32)) dX12_isSignOf_1 (by decide) ?_
  refine V_icmp_eq (tgt := 48) dX12_isSignOf_3 (by decide) (fun h8 => ?_) (fun h8 => ?_)
  · have hf := it_t h8 hf
    refine V_to [] rfl ?_
    exact vX12_isSignOf_J48 hn hf
  · have hf := it_f h8 hf
    refine V_iload_n (j := 0) dX12_isSignOf_6 rfl rfl ?_
    refine V_bipush (v := (41 : Int32)) dX12_isSignOf_7 (by decide) ?_
    refine V_icmp_eq (tgt := 48) dX12_isSignOf_9 (by decide) (fun h7 => ?_) (fun h7 => ?_)
    · have hf := it_t h7 hf
      refine V_to [] rfl ?_
      exact vX12_isSignOf_J48 hn hf
    · have hf := it_f h7 hf
      refine V_iload_n (j := 0) dX12_isSignOf_12 rfl rfl ?_
      refine V_bipush (v := (59 : Int32)) dX12_isSignOf_13 (by decide) ?_
      refine V_icmp_eq (tgt := 48) dX12_isSignOf_15 (by decide) (fun h6 => ?_) (fun h6 => ?_)
      · have hf := it_t h6 hf
        refine V_to [] rfl ?_
        exact vX12_isSignOf_J48 hn hf
      · have hf := it_f h6 hf
        refine V_iload_n (j := 0) dX12_isSignOf_18 rfl rfl ?_
        refine V_bipush (v := (61 : Int32)) dX12_isSignOf_19 (by decide) ?_
        refine V_icmp_eq (tgt := 48) dX12_isSignOf_21 (by decide) (fun h5 => ?_) (fun h5 => ?_)
        · have hf := it_t h5 hf
          refine V_to [] rfl ?_
          exact vX12_isSignOf_J48 hn hf
        · have hf := it_f h5 hf
          refine V_iload_n (j := 0) dX12_isSignOf_24 rfl rfl ?_
          refine V_bipush (v := (60 : Int32)) dX12_isSignOf_25 (by decide) ?_
          refine V_icmp_eq (tgt := 48) dX12_isSignOf_27 (by decide) (fun h4 => ?_) (fun h4 => ?_)
          · have hf := it_t h4 hf
            refine V_to [] rfl ?_
            exact vX12_isSignOf_J48 hn hf
          · have hf := it_f h4 hf
            refine V_iload_n (j := 0) dX12_isSignOf_30 rfl rfl ?_
            refine V_bipush (v := (43 : Int32)) dX12_isSignOf_31 (by decide) ?_
            refine V_icmp_eq (tgt := 48) dX12_isSignOf_33 (by decide) (fun h3 => ?_) (fun h3 => ?_)
            · have hf := it_t h3 hf
              refine V_to [] rfl ?_
              exact vX12_isSignOf_J48 hn hf
            · have hf := it_f h3 hf
              refine V_iload_n (j := 0) dX12_isSignOf_36 rfl rfl ?_
              refine V_bipush (v := (45 : Int32)) dX12_isSignOf_37 (by decide) ?_
              refine V_icmp_eq (tgt := 48) dX12_isSignOf_39 (by decide) (fun h2 => ?_) (fun h2 => ?_)
              · have hf := it_t h2 hf
                refine V_to [] rfl ?_
                exact vX12_isSignOf_J48 hn hf
              · have hf := it_f h2 hf
                refine V_iload_n (j := 0) dX12_isSignOf_42 rfl rfl ?_
                refine V_bipush (v := (42 : Int32)) dX12_isSignOf_43 (by decide) ?_
                refine V_icmp_ne (tgt := 52) dX12_isSignOf_45 (by decide) (fun h1 => ?_) (fun h1 => ?_)
                · have hf := it_f h1 hf
                  refine V_iconst (v := (0 : Int32)) dX12_isSignOf_52 (by decide) ?_
                  exact V_ireturn dX12_isSignOf_53 rfl (by decide) (Nat.le_refl 0) (kI_of hf)
                · have hf := it_t (Classical.not_not.mp h1) hf
                  refine V_to [] rfl ?_
                  exact vX12_isSignOf_J48 hn hf
