def wX12_curtain (n : Nat) (sh : Nat → Nat × Nat) (a0 : Nat) (x1 : Int32) (z : gS) (P : Int32 → gS → Prop) : Prop := (oO n sh a0 8) ∧ (∀ z2 : gS, z2 = si z a0 0 (0 : Int32) → (wX12_isPane n sh a0 x1 z2 (fun (r3 : Int32) (z4 : gS) => if r3 = 0 then P (0 : Int32) z4 else (wX12_isWhole n sh a0 (0 : Int32) x1 z4 (fun (r5 : Int32) (z6 : gS) => if r5 = 0 then P (0 : Int32) z6 else (wX12_keeps n sh a0 z6 (fun (z8 : gS) => ∃ t9 : Nat, gr z8 a0 24 = some t9 ∧ (∃ t10 : Nat, gr z8 a0 24 = some t10 ∧ ((oA n sh t10 1) ∧ ((vp_in ((6 : Int32) + x1) (sh t10).2) ∧ ((oA n sh t9 1) ∧ ((vp_in ((6 : Int32) + x1) (sh t9).2) ∧ (∀ z15 : gS, z15 = si z8 t9 ((6 : Int32) + x1).toNatClampNeg ((1 : Int32) - (gi z8 t10 ((6 : Int32) + x1).toNatClampNeg)) → P (1 : Int32) z15)))))))))))))
set_option maxRecDepth 100000 in
set_option maxHeartbeats 4000000 in
theorem ctX12_curtain {E : gE} {n : Nat} {sh : Nat → Nat × Nat} {a0 : Nat} {x1 : Int32} {z : gS} {P : Int32 → gS → Prop} (hn : gOK E n) (hf : wX12_curtain n sh a0 x1 z P) : VM E 2 0 gyX12_curtain [.ref a0, .int x1] n sh z (kI n sh P) := by
  unfold wX12_curtain at hf
  refine VM.of (by decide +kernel) (Nat.le_of_ble_eq_true rfl) (fun _ _ _ h => h.2.2) ?_
  show V E (gR 2 0) gyX12_curtain 0 0 0 [(0, .ref a0), (1, .int x1)] [] n sh z (kI n sh P)
  refine V_aload_n (j := 0) dX12_curtain_0 rfl rfl ?_
  refine V_iconst (v := (0 : Int32)) dX12_curtain_1 (by decide) ?_
  obtain ⟨h1, hf⟩ := hf
  refine V_putI fl_X12_1 rfl rfl rfl rfl h1.1 h1.2 dX12_curtain_2 ?_
  refine V_nz (fun z2 ez2 => ?_)
  have hf := hf z2 ez2
  refine V_aload_n (j := 0) dX12_curtain_5 rfl rfl ?_
  refine V_iload_n (j := 1) dX12_curtain_6 rfl rfl ?_
  refine V_cVI (ctX12_isPane hn hf) gc_X12_337 rfl h1.1 ⟨_, h1.2, by decide, rfl⟩ ⟨by decide, by decide, Nat.zero_le _, Nat.zero_le _⟩ (Nat.le_of_ble_eq_true rfl) dX12_curtain_7 rfl hn (fun r3 z4 hf => ?_)
  refine V_if_eq (tgt := 22) dX12_curtain_10 (by decide) (fun h17 => ?_) (fun h17 => ?_)
  · have hf := it_t h17 hf
    refine V_iconst (v := (0 : Int32)) dX12_curtain_22 (by decide) ?_
    exact V_ireturn dX12_curtain_23 rfl (by decide) (Nat.le_refl 0) (kI_of hf)
  · have hf := it_f h17 hf
    refine V_aload_n (j := 0) dX12_curtain_13 rfl rfl ?_
    refine V_iconst (v := (0 : Int32)) dX12_curtain_14 (by decide) ?_
    refine V_iload_n (j := 1) dX12_curtain_15 rfl rfl ?_
    refine V_cVI (ctX12_isWhole hn hf) gc_X12_287 rfl h1.1 ⟨_, h1.2, by decide, rfl⟩ ⟨by decide, by decide, Nat.zero_le _, Nat.zero_le _⟩ (Nat.le_of_ble_eq_true rfl) dX12_curtain_16 rfl hn (fun r5 z6 hf => ?_)
    refine V_if_ne (tgt := 24) dX12_curtain_19 (by decide) (fun h16 => ?_) (fun h16 => ?_)
    · have hf := it_f h16 hf
      refine V_aload_n (j := 0) dX12_curtain_24 rfl rfl ?_
      refine V_cVN (ctX12_keeps hn hf) gc_X12_349 rfl h1.1 ⟨_, h1.2, by decide, rfl⟩ ⟨by decide, by decide, Nat.zero_le _, Nat.zero_le _⟩ (Nat.le_of_ble_eq_true rfl) dX12_curtain_25 rfl hn (fun z8 hf => ?_)
      refine V_aload_n (j := 0) dX12_curtain_28 rfl rfl ?_
      obtain ⟨t9, et9, hf⟩ := hf
      refine V_getR fl_X12_119 rfl h1.1 h1.2 et9 dX12_curtain_29 ?_
      refine V_bipush (v := (6 : Int32)) dX12_curtain_32 (by decide) ?_
      refine V_iload_n (j := 1) dX12_curtain_34 rfl rfl ?_
      refine V_iadd dX12_curtain_35 ?_
      refine V_iconst (v := (1 : Int32)) dX12_curtain_36 (by decide) ?_
      refine V_aload_n (j := 0) dX12_curtain_37 rfl rfl ?_
      obtain ⟨t10, et10, hf⟩ := hf
      refine V_getR fl_X12_119 rfl h1.1 h1.2 et10 dX12_curtain_38 ?_
      refine V_bipush (v := (6 : Int32)) dX12_curtain_41 (by decide) ?_
      refine V_iload_n (j := 1) dX12_curtain_43 rfl rfl ?_
      refine V_iadd dX12_curtain_44 ?_
      obtain ⟨h11, hf⟩ := hf
      obtain ⟨h12, hf⟩ := hf
      refine V_iald h11.1 h11.s h12 dX12_curtain_45 ?_
      refine V_isub dX12_curtain_46 ?_
      obtain ⟨h13, hf⟩ := hf
      obtain ⟨h14, hf⟩ := hf
      refine V_iast h13.1 h13.s h14 dX12_curtain_47 ?_
      refine V_nz (fun z15 ez15 => ?_)
      have hf := hf z15 ez15
      refine V_iconst (v := (1 : Int32)) dX12_curtain_48 (by decide) ?_
      exact V_ireturn dX12_curtain_49 rfl (by decide) (Nat.le_refl 0) (kI_of hf)
    · have hf := it_t (Classical.not_not.mp h16) hf
      refine V_iconst (v := (0 : Int32)) dX12_curtain_22 (by decide) ?_
      exact V_ireturn dX12_curtain_23 rfl (by decide) (Nat.le_refl 0) (kI_of hf)
def wX12_stone (n : Nat) (sh : Nat → Nat × Nat) (a0 : Nat) (x1 : Int32) (z : gS) (P : Int32 → gS → Prop) : Prop := (oO n sh a0 8) ∧ (∀ z2 : gS, z2 = si z a0 0 (0 : Int32) → (wX12_isPane n sh a0 x1 z2 (fun (r3 : Int32) (z4 : gS) => if r3 = 0 then P (0 : Int32) z4 else (wX12_isWhole n sh a0 (0 : Int32) x1 z4 (fun (r5 : Int32) (z6 : gS) => if r5 = 0 then P (0 : Int32) z6 else (wX12_keeps n sh a0 z6 (fun (z8 : gS) => ∃ t9 : Nat, gr z8 a0 24 = some t9 ∧ ((oA n sh t9 1) ∧ ((vp_in ((12 : Int32) + x1) (sh t9).2) ∧ (∀ z12 : gS, z12 = si z8 t9 ((12 : Int32) + x1).toNatClampNeg (1 : Int32) → P (1 : Int32) z12))))))))))
set_option maxRecDepth 100000 in
set_option maxHeartbeats 4000000 in
theorem ctX12_stone {E : gE} {n : Nat} {sh : Nat → Nat × Nat} {a0 : Nat} {x1 : Int32} {z : gS} {P : Int32 → gS → Prop} (hn : gOK E n) (hf : wX12_stone n sh a0 x1 z P) : VM E 2 0 gyX12_stone [.ref a0, .int x1] n sh z (kI n sh P) := by
  unfold wX12_stone at hf
  refine VM.of (by decide +kernel) (Nat.le_of_ble_eq_true rfl) (fun _ _ _ h => h.2.2) ?_
  show V E (gR 2 0) gyX12_stone 0 0 0 [(0, .ref a0), (1, .int x1)] [] n sh z (kI n sh P)
  refine V_aload_n (j := 0) dX12_stone_0 rfl rfl ?_
  refine V_iconst (v := (0 : Int32)) dX12_stone_1 (by decide) ?_
  obtain ⟨h1, hf⟩ := hf
  refine V_putI fl_X12_1 rfl rfl rfl rfl h1.1 h1.2 dX12_stone_2 ?_
  refine V_nz (fun z2 ez2 => ?_)
  have hf := hf z2 ez2
  refine V_aload_n (j := 0) dX12_stone_5 rfl rfl ?_
  refine V_iload_n (j := 1) dX12_stone_6 rfl rfl ?_
  refine V_cVI (ctX12_isPane hn hf) gc_X12_337 rfl h1.1 ⟨_, h1.2, by decide, rfl⟩ ⟨by decide, by decide, Nat.zero_le _, Nat.zero_le _⟩ (Nat.le_of_ble_eq_true rfl) dX12_stone_7 rfl hn (fun r3 z4 hf => ?_)
  refine V_if_eq (tgt := 22) dX12_stone_10 (by decide) (fun h14 => ?_) (fun h14 => ?_)
  · have hf := it_t h14 hf
    refine V_iconst (v := (0 : Int32)) dX12_stone_22 (by decide) ?_
    exact V_ireturn dX12_stone_23 rfl (by decide) (Nat.le_refl 0) (kI_of hf)
  · have hf := it_f h14 hf
    refine V_aload_n (j := 0) dX12_stone_13 rfl rfl ?_
    refine V_iconst (v := (0 : Int32)) dX12_stone_14 (by decide) ?_
    refine V_iload_n (j := 1) dX12_stone_15 rfl rfl ?_
    refine V_cVI (ctX12_isWhole hn hf) gc_X12_287 rfl h1.1 ⟨_, h1.2, by decide, rfl⟩ ⟨by decide, by decide, Nat.zero_le _, Nat.zero_le _⟩ (Nat.le_of_ble_eq_true rfl) dX12_stone_16 rfl hn (fun r5 z6 hf => ?_)
    refine V_if_ne (tgt := 24) dX12_stone_19 (by decide) (fun h13 => ?_) (fun h13 => ?_)
    · have hf := it_f h13 hf
      refine V_aload_n (j := 0) dX12_stone_24 rfl rfl ?_
      refine V_cVN (ctX12_keeps hn hf) gc_X12_349 rfl h1.1 ⟨_, h1.2, by decide, rfl⟩ ⟨by decide, by decide, Nat.zero_le _, Nat.zero_le _⟩ (Nat.le_of_ble_eq_true rfl) dX12_stone_25 rfl hn (fun z8 hf => ?_)
      refine V_aload_n (j := 0) dX12_stone_28 rfl rfl ?_
      obtain ⟨t9, et9, hf⟩ := hf
      refine V_getR fl_X12_119 rfl h1.1 h1.2 et9 dX12_stone_29 ?_
      refine V_bipush (v := (12 : Int32)) dX12_stone_32 (by decide) ?_
      refine V_iload_n (j := 1) dX12_stone_34 rfl rfl ?_
      refine V_iadd dX12_stone_35 ?_
      refine V_iconst (v := (1 : Int32)) dX12_stone_36 (by decide) ?_
      obtain ⟨h10, hf⟩ := hf
      obtain ⟨h11, hf⟩ := hf
      refine V_iast h10.1 h10.s h11 dX12_stone_37 ?_
      refine V_nz (fun z12 ez12 => ?_)
      have hf := hf z12 ez12
      refine V_iconst (v := (1 : Int32)) dX12_stone_38 (by decide) ?_
      exact V_ireturn dX12_stone_39 rfl (by decide) (Nat.le_refl 0) (kI_of hf)
    · have hf := it_t (Classical.not_not.mp h13) hf
      refine V_iconst (v := (0 : Int32)) dX12_stone_22 (by decide) ?_
      exact V_ireturn dX12_stone_23 rfl (by decide) (Nat.le_refl 0) (kI_of hf)
def wX12_hour (n : Nat) (sh : Nat → Nat × Nat) (a0 : Nat) (z : gS) (P : Int32 → gS → Prop) : Prop := (oO n sh a0 8) ∧ (∀ z2 : gS, z2 = si z a0 0 (0 : Int32) → (wX12_keeps n sh a0 z2 (fun (z4 : gS) => wX12_passes n sh a0 (0 : Int32) z4 (fun (r5 : Int32) (z6 : gS) => P r5 z6))))
set_option maxRecDepth 100000 in
set_option maxHeartbeats 4000000 in
theorem ctX12_hour {E : gE} {n : Nat} {sh : Nat → Nat × Nat} {a0 : Nat} {z : gS} {P : Int32 → gS → Prop} (hn : gOK E n) (hf : wX12_hour n sh a0 z P) : VM E 4 0 gyX12_hour [.ref a0] n sh z (kI n sh P) := by
  unfold wX12_hour at hf
  refine VM.of (by decide +kernel) (Nat.le_of_ble_eq_true rfl) (fun _ _ _ h => h.2.2) ?_
  show V E (gR 4 0) gyX12_hour 0 0 0 [(0, .ref a0)] [] n sh z (kI n sh P)
  refine V_aload_n (j := 0) dX12_hour_0 rfl rfl ?_
  refine V_iconst (v := (0 : Int32)) dX12_hour_1 (by decide) ?_
  obtain ⟨h1, hf⟩ := hf
  refine V_putI fl_X12_1 rfl rfl rfl rfl h1.1 h1.2 dX12_hour_2 ?_
  refine V_nz (fun z2 ez2 => ?_)
  have hf := hf z2 ez2
  refine V_aload_n (j := 0) dX12_hour_5 rfl rfl ?_
  refine V_cVN (ctX12_keeps hn hf) gc_X12_349 rfl h1.1 ⟨_, h1.2, by decide, rfl⟩ ⟨by decide, by decide, Nat.zero_le _, Nat.zero_le _⟩ (Nat.le_of_ble_eq_true rfl) dX12_hour_6 rfl hn (fun z4 hf => ?_)
  refine V_aload_n (j := 0) dX12_hour_9 rfl rfl ?_
  refine V_iconst (v := (0 : Int32)) dX12_hour_10 (by decide) ?_
  refine V_cVI (ctX12_passes hn hf) gc_X12_361 rfl h1.1 ⟨_, h1.2, by decide, rfl⟩ ⟨by decide, by decide, Nat.zero_le _, Nat.zero_le _⟩ (Nat.le_of_ble_eq_true rfl) dX12_hour_11 rfl hn (fun r5 z6 hf => ?_)
  exact V_ireturn dX12_hour_14 rfl rfl (Nat.le_refl 0) (kI_of hf)
def wX12_undo (n : Nat) (sh : Nat → Nat × Nat) (a0 : Nat) (z : gS) (P : Int32 → gS → Prop) : Prop := (oO n sh a0 8) ∧ (∀ z2 : gS, z2 = si z a0 0 (0 : Int32) → (if (gi z2 a0 25) = 0 then P (0 : Int32) z2 else (∀ z3 : gS, z3 = si z2 a0 25 ((gi z2 a0 25) - (1 : Int32)) → (wX12_copies n sh a0 ((66 : Int32) * ((5 : Int32) + (gi z3 a0 25))) (0 : Int32) (60 : Int32) z3 (fun (z5 : gS) => P (1 : Int32) z5)))))
set_option maxRecDepth 100000 in
set_option maxHeartbeats 4000000 in
theorem ctX12_undo {E : gE} {n : Nat} {sh : Nat → Nat × Nat} {a0 : Nat} {z : gS} {P : Int32 → gS → Prop} (hn : gOK E n) (hf : wX12_undo n sh a0 z P) : VM E 1 0 gyX12_undo [.ref a0] n sh z (kI n sh P) := by
  unfold wX12_undo at hf
  refine VM.of (by decide +kernel) (Nat.le_of_ble_eq_true rfl) (fun _ _ _ h => h.2.2) ?_
  show V E (gR 1 0) gyX12_undo 0 0 0 [(0, .ref a0)] [] n sh z (kI n sh P)
  refine V_aload_n (j := 0) dX12_undo_0 rfl rfl ?_
  refine V_iconst (v := (0 : Int32)) dX12_undo_1 (by decide) ?_
  obtain ⟨h1, hf⟩ := hf
  refine V_putI fl_X12_1 rfl rfl rfl rfl h1.1 h1.2 dX12_undo_2 ?_
  refine V_nz (fun z2 ez2 => ?_)
  have hf := hf z2 ez2
  refine V_aload_n (j := 0) dX12_undo_5 rfl rfl ?_
  refine V_getI fl_X12_272 rfl h1.1 h1.2 dX12_undo_6 ?_
  refine V_if_ne (tgt := 14) dX12_undo_9 (by decide) (fun h6 => ?_) (fun h6 => ?_)
  · have hf := it_f h6 hf
    refine V_aload_n (j := 0) dX12_undo_14 rfl rfl ?_
    refine V_dup dX12_undo_15 rfl ?_
    refine V_getI fl_X12_272 rfl h1.1 h1.2 dX12_undo_16 ?_
    refine V_iconst (v := (1 : Int32)) dX12_undo_19 (by decide) ?_
    refine V_isub dX12_undo_20 ?_
    refine V_putI fl_X12_272 rfl rfl rfl rfl h1.1 h1.2 dX12_undo_21 ?_
    refine V_nz (fun z3 ez3 => ?_)
    have hf := hf z3 ez3
    refine V_aload_n (j := 0) dX12_undo_24 rfl rfl ?_
    refine V_bipush (v := (66 : Int32)) dX12_undo_25 (by decide) ?_
    refine V_iconst (v := (5 : Int32)) dX12_undo_27 (by decide) ?_
    refine V_aload_n (j := 0) dX12_undo_28 rfl rfl ?_
    refine V_getI fl_X12_272 rfl h1.1 h1.2 dX12_undo_29 ?_
    refine V_iadd dX12_undo_32 ?_
    refine V_imul dX12_undo_33 ?_
    refine V_iconst (v := (0 : Int32)) dX12_undo_34 (by decide) ?_
    refine V_bipush (v := (60 : Int32)) dX12_undo_35 (by decide) ?_
    refine V_cVN (ctX12_copies hn hf) gc_X12_275 rfl h1.1 ⟨_, h1.2, by decide, rfl⟩ ⟨by decide, by decide, Nat.zero_le _, Nat.zero_le _⟩ (Nat.le_of_ble_eq_true rfl) dX12_undo_37 rfl hn (fun z5 hf => ?_)
    refine V_iconst (v := (1 : Int32)) dX12_undo_40 (by decide) ?_
    exact V_ireturn dX12_undo_41 rfl (by decide) (Nat.le_refl 0) (kI_of hf)
  · have hf := it_t (Classical.not_not.mp h6) hf
    refine V_iconst (v := (0 : Int32)) dX12_undo_12 (by decide) ?_
    exact V_ireturn dX12_undo_13 rfl (by decide) (Nat.le_refl 0) (kI_of hf)
def wX12_done_J218 (n : Nat) (sh : Nat → Nat × Nat) (P : Int32 → gS → Prop) (a0 : Nat) (x4 : Int32) (z : gS) : Prop := if x4 = 0 then ((bo x4) ∧ P x4 z) else ((oO n sh a0 8) ∧ (wX12_passes n sh a0 (1386 : Int32) z (fun (r3 : Int32) (z4 : gS) => (bo x4) ∧ P x4 z4)))
set_option maxRecDepth 100000 in
set_option maxHeartbeats 4000000 in
theorem vX12_done_J218 {E : gE} {n : Nat} {sh : Nat → Nat × Nat} {P : Int32 → gS → Prop} {a0 : Nat} {x4 : Int32} {z : gS} (hn : gOK E n) (hf : wX12_done_J218 n sh P a0 x4 z) : V E (gR 5 0) gyX12_done 0 0 218 [(0, .ref a0), (4, .int x4)] [] n sh z (kI n sh P) := by
  unfold wX12_done_J218 at hf
  refine V_iload (j := 1) dX12_done_218 rfl ?_
  refine V_if_eq (tgt := 231) dX12_done_220 (by decide) (fun h6 => ?_) (fun h6 => ?_)
  · have hf := it_t h6 hf
    refine V_iload (j := 1) dX12_done_231 rfl ?_
    exact V_ireturn dX12_done_233 rfl hf.1 (Nat.le_refl 0) (kI_of hf.2)
  · have hf := it_f h6 hf
    refine V_aload_n (j := 0) dX12_done_223 rfl rfl ?_
    refine V_sipush (v := (1386 : Int32)) dX12_done_224 (by decide) ?_
    obtain ⟨h5, hf⟩ := hf
    refine V_cVI (ctX12_passes hn hf) gc_X12_361 rfl h5.1 ⟨_, h5.2, by decide, rfl⟩ ⟨by decide, by decide, Nat.zero_le _, Nat.zero_le _⟩ (Nat.le_of_ble_eq_true rfl) dX12_done_227 rfl hn (fun r3 z4 hf => ?_)
    refine V_pop dX12_done_230 rfl ?_
    refine V_iload (j := 1) dX12_done_231 rfl ?_
    exact V_ireturn dX12_done_233 rfl hf.1 (Nat.le_refl 0) (kI_of hf.2)
def wX12_done_J194 (n : Nat) (sh : Nat → Nat × Nat) (P : Int32 → gS → Prop) (a0 : Nat) (x1 : Int32) (x2 : Int32) (x4 : Int32) (z : gS) : Prop := if x4 = 0 then wX12_done_J218 n sh P a0 x4 z else (if x1 = (4 : Int32) then ((oO n sh a0 8) ∧ (∃ t8 : Nat, gr z a0 24 = some t8 ∧ ((oA n sh t8 1) ∧ ((vp_in ((1398 : Int32) + x2) (sh t8).2) ∧ (∀ z11 : gS, z11 = si z t8 ((1398 : Int32) + x2).toNatClampNeg (1 : Int32) → ((bo x4) ∧ P x4 z11)))))) else wX12_done_J218 n sh P a0 x4 z)
set_option maxRecDepth 100000 in
set_option maxHeartbeats 4000000 in
theorem vX12_done_J194 {E : gE} {n : Nat} {sh : Nat → Nat × Nat} {P : Int32 → gS → Prop} {a0 : Nat} {x1 : Int32} {x2 : Int32} {x4 : Int32} {z : gS} (hn : gOK E n) (hf : wX12_done_J194 n sh P a0 x1 x2 x4 z) : V E (gR 5 0) gyX12_done 0 0 194 [(0, .ref a0), (1, .int x1), (2, .int x2), (4, .int x4)] [] n sh z (kI n sh P) := by
  unfold wX12_done_J194 at hf
  refine V_iload (j := 3) dX12_done_194 rfl ?_
  refine V_if_eq (tgt := 218) dX12_done_196 (by decide) (fun h13 => ?_) (fun h13 => ?_)
  · have hf := it_t h13 hf
    refine V_to [0, 3] rfl ?_
    exact vX12_done_J218 hn hf
  · have hf := it_f h13 hf
    refine V_iload_n (j := 1) dX12_done_199 rfl rfl ?_
    refine V_iconst (v := (4 : Int32)) dX12_done_200 (by decide) ?_
    refine V_icmp_ne (tgt := 218) dX12_done_201 (by decide) (fun h12 => ?_) (fun h12 => ?_)
    · have hf := it_f h12 hf
      refine V_to [0, 3] rfl ?_
      exact vX12_done_J218 hn hf
    · have hf := it_t (Classical.not_not.mp h12) hf
      refine V_aload_n (j := 0) dX12_done_204 rfl rfl ?_
      obtain ⟨h7, hf⟩ := hf
      obtain ⟨t8, et8, hf⟩ := hf
      refine V_getR fl_X12_119 rfl h7.1 h7.2 et8 dX12_done_205 ?_
      refine V_sipush (v := (1398 : Int32)) dX12_done_208 (by decide) ?_
      refine V_iload_n (j := 2) dX12_done_211 rfl rfl ?_
      refine V_iadd dX12_done_212 ?_
      refine V_iconst (v := (1 : Int32)) dX12_done_213 (by decide) ?_
      obtain ⟨h9, hf⟩ := hf
      obtain ⟨h10, hf⟩ := hf
      refine V_iast h9.1 h9.s h10 dX12_done_214 ?_
      refine V_nz (fun z11 ez11 => ?_)
      have hf := hf z11 ez11
      refine V_goto (tgt := 231) dX12_done_215 (by decide) ?_
      refine V_iload (j := 3) dX12_done_231 rfl ?_
      exact V_ireturn dX12_done_233 rfl hf.1 (Nat.le_refl 0) (kI_of hf.2)
def wX12_done_J159 (n : Nat) (sh : Nat → Nat × Nat) (P : Int32 → gS → Prop) (a0 : Nat) (x1 : Int32) (x2 : Int32) (x4 : Int32) (z : gS) : Prop := if x4 = 0 then wX12_done_J194 n sh P a0 x1 x2 x4 z else (if x1 = (3 : Int32) then ((oO n sh a0 8) ∧ (∃ t15 : Nat, gr z a0 24 = some t15 ∧ (∃ t16 : Nat, gr z a0 24 = some t16 ∧ ((oA n sh t16 1) ∧ ((vp_in ((1392 : Int32) + x2) (sh t16).2) ∧ ((oA n sh t15 1) ∧ ((vp_in ((1392 : Int32) + x2) (sh t15).2) ∧ (∀ z21 : gS, z21 = si z t15 ((1392 : Int32) + x2).toNatClampNeg ((1 : Int32) - (gi z t16 ((1392 : Int32) + x2).toNatClampNeg)) → ((bo x4) ∧ P x4 z21))))))))) else wX12_done_J194 n sh P a0 x1 x2 x4 z)
set_option maxRecDepth 100000 in
set_option maxHeartbeats 4000000 in
theorem vX12_done_J159 {E : gE} {n : Nat} {sh : Nat → Nat × Nat} {P : Int32 → gS → Prop} {a0 : Nat} {x1 : Int32} {x2 : Int32} {x4 : Int32} {z : gS} (hn : gOK E n) (hf : wX12_done_J159 n sh P a0 x1 x2 x4 z) : V E (gR 5 0) gyX12_done 0 0 159 [(0, .ref a0), (1, .int x1), (2, .int x2), (4, .int x4)] [] n sh z (kI n sh P) := by
  unfold wX12_done_J159 at hf
  refine V_iload (j := 3) dX12_done_159 rfl ?_
  refine V_if_eq (tgt := 194) dX12_done_161 (by decide) (fun h23 => ?_) (fun h23 => ?_)
  · have hf := it_t h23 hf
    exact vX12_done_J194 hn hf
  · have hf := it_f h23 hf
    refine V_iload_n (j := 1) dX12_done_164 rfl rfl ?_
    refine V_iconst (v := (3 : Int32)) dX12_done_165 (by decide) ?_
    refine V_icmp_ne (tgt := 194) dX12_done_166 (by decide) (fun h22 => ?_) (fun h22 => ?_)
    · have hf := it_f h22 hf
      exact vX12_done_J194 hn hf
    · have hf := it_t (Classical.not_not.mp h22) hf
      refine V_aload_n (j := 0) dX12_done_169 rfl rfl ?_
      obtain ⟨h14, hf⟩ := hf
      obtain ⟨t15, et15, hf⟩ := hf
      refine V_getR fl_X12_119 rfl h14.1 h14.2 et15 dX12_done_170 ?_
      refine V_sipush (v := (1392 : Int32)) dX12_done_173 (by decide) ?_
      refine V_iload_n (j := 2) dX12_done_176 rfl rfl ?_
      refine V_iadd dX12_done_177 ?_
      refine V_iconst (v := (1 : Int32)) dX12_done_178 (by decide) ?_
      refine V_aload_n (j := 0) dX12_done_179 rfl rfl ?_
      obtain ⟨t16, et16, hf⟩ := hf
      refine V_getR fl_X12_119 rfl h14.1 h14.2 et16 dX12_done_180 ?_
      refine V_sipush (v := (1392 : Int32)) dX12_done_183 (by decide) ?_
      refine V_iload_n (j := 2) dX12_done_186 rfl rfl ?_
      refine V_iadd dX12_done_187 ?_
      obtain ⟨h17, hf⟩ := hf
      obtain ⟨h18, hf⟩ := hf
      refine V_iald h17.1 h17.s h18 dX12_done_188 ?_
      refine V_isub dX12_done_189 ?_
      obtain ⟨h19, hf⟩ := hf
      obtain ⟨h20, hf⟩ := hf
      refine V_iast h19.1 h19.s h20 dX12_done_190 ?_
      refine V_nz (fun z21 ez21 => ?_)
      have hf := hf z21 ez21
      refine V_goto (tgt := 231) dX12_done_191 (by decide) ?_
      refine V_iload (j := 3) dX12_done_231 rfl ?_
      exact V_ireturn dX12_done_233 rfl hf.1 (Nat.le_refl 0) (kI_of hf.2)
def wX12_done_J132 (n : Nat) (sh : Nat → Nat × Nat) (P : Int32 → gS → Prop) (a0 : Nat) (x1 : Int32) (x2 : Int32) (x4 : Int32) (z : gS) : Prop := if x4 = 0 then wX12_done_J159 n sh P a0 x1 x2 x4 z else (if x1 = (2 : Int32) then ((oO n sh a0 8) ∧ (∃ t25 : Nat, gr z a0 24 = some t25 ∧ ((oA n sh t25 1) ∧ ((vp_in ((1404 : Int32) + x2) (sh t25).2) ∧ ((vp_in ((1404 : Int32) + x2) (sh t25).2) ∧ (∀ z29 : gS, z29 = si z t25 ((1404 : Int32) + x2).toNatClampNeg ((gi z t25 ((1404 : Int32) + x2).toNatClampNeg) - (1 : Int32)) → ((bo x4) ∧ P x4 z29))))))) else wX12_done_J159 n sh P a0 x1 x2 x4 z)
set_option maxRecDepth 100000 in
set_option maxHeartbeats 4000000 in
theorem vX12_done_J132 {E : gE} {n : Nat} {sh : Nat → Nat × Nat} {P : Int32 → gS → Prop} {a0 : Nat} {x1 : Int32} {x2 : Int32} {x4 : Int32} {z : gS} (hn : gOK E n) (hf : wX12_done_J132 n sh P a0 x1 x2 x4 z) : V E (gR 5 0) gyX12_done 0 0 132 [(0, .ref a0), (1, .int x1), (2, .int x2), (4, .int x4)] [] n sh z (kI n sh P) := by
  unfold wX12_done_J132 at hf
  refine V_iload (j := 3) dX12_done_132 rfl ?_
  refine V_if_eq (tgt := 159) dX12_done_134 (by decide) (fun h31 => ?_) (fun h31 => ?_)
  · have hf := it_t h31 hf
    exact vX12_done_J159 hn hf
  · have hf := it_f h31 hf
    refine V_iload_n (j := 1) dX12_done_137 rfl rfl ?_
    refine V_iconst (v := (2 : Int32)) dX12_done_138 (by decide) ?_
    refine V_icmp_ne (tgt := 159) dX12_done_139 (by decide) (fun h30 => ?_) (fun h30 => ?_)
    · have hf := it_f h30 hf
      exact vX12_done_J159 hn hf
    · have hf := it_t (Classical.not_not.mp h30) hf
      refine V_aload_n (j := 0) dX12_done_142 rfl rfl ?_
      obtain ⟨h24, hf⟩ := hf
      obtain ⟨t25, et25, hf⟩ := hf
      refine V_getR fl_X12_119 rfl h24.1 h24.2 et25 dX12_done_143 ?_
      refine V_sipush (v := (1404 : Int32)) dX12_done_146 (by decide) ?_
      refine V_iload_n (j := 2) dX12_done_149 rfl rfl ?_
      refine V_iadd dX12_done_150 ?_
      refine V_dup2 dX12_done_151 rfl rfl ?_
      obtain ⟨h26, hf⟩ := hf
      obtain ⟨h27, hf⟩ := hf
      refine V_iald h26.1 h26.s h27 dX12_done_152 ?_
      refine V_iconst (v := (1 : Int32)) dX12_done_153 (by decide) ?_
      refine V_isub dX12_done_154 ?_
      obtain ⟨h28, hf⟩ := hf
      refine V_iast h26.1 h26.s h28 dX12_done_155 ?_
      refine V_nz (fun z29 ez29 => ?_)
      have hf := hf z29 ez29
      refine V_goto (tgt := 231) dX12_done_156 (by decide) ?_
      refine V_iload (j := 3) dX12_done_231 rfl ?_
      exact V_ireturn dX12_done_233 rfl hf.1 (Nat.le_refl 0) (kI_of hf.2)
def wX12_done_J126 (n : Nat) (sh : Nat → Nat × Nat) (P : Int32 → gS → Prop) (x4 : Int32) (s0 : Int32) (s1 : Nat) (z : gS) : Prop := (oO n sh s1 8) ∧ ((bz s0) ∧ (∀ z40 : gS, z40 = si z s1 27 s0 → ((bo x4) ∧ P x4 z40)))
set_option maxRecDepth 100000 in
set_option maxHeartbeats 4000000 in
theorem vX12_done_J126 {E : gE} {n : Nat} {sh : Nat → Nat × Nat} {P : Int32 → gS → Prop} {x4 : Int32} {s0 : Int32} {s1 : Nat} {z : gS} (hn : gOK E n) (hf : wX12_done_J126 n sh P x4 s0 s1 z) : V E (gR 5 0) gyX12_done 0 0 126 [(4, .int x4)] [.int s0, .ref s1] n sh z (kI n sh P) := by
  unfold wX12_done_J126 at hf
  obtain ⟨h38, hf⟩ := hf
  obtain ⟨h39, hf⟩ := hf
  refine V_putI fl_X12_364 rfl rfl h39.n h39.f h38.1 h38.2 dX12_done_126 ?_
  refine V_nz (fun z40 ez40 => ?_)
  have hf := hf z40 ez40
  refine V_goto (tgt := 231) dX12_done_129 (by decide) ?_
  refine V_iload (j := 0) dX12_done_231 rfl ?_
  exact V_ireturn dX12_done_233 rfl hf.1 (Nat.le_refl 0) (kI_of hf.2)
def wX12_done_J88 (n : Nat) (sh : Nat → Nat × Nat) (P : Int32 → gS → Prop) (a0 : Nat) (x1 : Int32) (x2 : Int32) (x3 : Int32) (x4 : Int32) (z : gS) : Prop := if x4 = 0 then wX12_done_J132 n sh P a0 x1 x2 x4 z else (if x1 = (1 : Int32) then ((oO n sh a0 8) ∧ (∃ t33 : Nat, gr z a0 24 = some t33 ∧ ((oA n sh t33 1) ∧ ((vp_in ((1387 : Int32) + x2) (sh t33).2) ∧ (wX12_does n sh a0 (1386 : Int32) x2 x3 (gi z t33 ((1387 : Int32) + x2).toNatClampNeg) z (fun (r36 : Int32) (z37 : gS) => if r36 = 0 then wX12_done_J126 n sh P x4 (1 : Int32) a0 z37 else wX12_done_J126 n sh P x4 (0 : Int32) a0 z37)))))) else wX12_done_J132 n sh P a0 x1 x2 x4 z)
set_option maxRecDepth 100000 in
set_option maxHeartbeats 4000000 in
theorem vX12_done_J88 {E : gE} {n : Nat} {sh : Nat → Nat × Nat} {P : Int32 → gS → Prop} {a0 : Nat} {x1 : Int32} {x2 : Int32} {x3 : Int32} {x4 : Int32} {z : gS} (hn : gOK E n) (hf : wX12_done_J88 n sh P a0 x1 x2 x3 x4 z) : V E (gR 5 0) gyX12_done 0 0 88 [(0, .ref a0), (1, .int x1), (2, .int x2), (3, .int x3), (4, .int x4)] [] n sh z (kI n sh P) := by
  unfold wX12_done_J88 at hf
  refine V_iload (j := 4) dX12_done_88 rfl ?_
  refine V_if_eq (tgt := 132) dX12_done_90 (by decide) (fun h43 => ?_) (fun h43 => ?_)
  · have hf := it_t h43 hf
    refine V_to [0, 1, 2, 4] rfl ?_
    exact vX12_done_J132 hn hf
  · have hf := it_f h43 hf
    refine V_iload_n (j := 1) dX12_done_93 rfl rfl ?_
    refine V_iconst (v := (1 : Int32)) dX12_done_94 (by decide) ?_
    refine V_icmp_ne (tgt := 132) dX12_done_95 (by decide) (fun h42 => ?_) (fun h42 => ?_)
    · have hf := it_f h42 hf
      refine V_to [0, 1, 2, 4] rfl ?_
      exact vX12_done_J132 hn hf
    · have hf := it_t (Classical.not_not.mp h42) hf
      refine V_aload_n (j := 0) dX12_done_98 rfl rfl ?_
      refine V_aload_n (j := 0) dX12_done_99 rfl rfl ?_
      refine V_sipush (v := (1386 : Int32)) dX12_done_100 (by decide) ?_
      refine V_iload_n (j := 2) dX12_done_103 rfl rfl ?_
      refine V_iload_n (j := 3) dX12_done_104 rfl rfl ?_
      refine V_aload_n (j := 0) dX12_done_105 rfl rfl ?_
      obtain ⟨h32, hf⟩ := hf
      obtain ⟨t33, et33, hf⟩ := hf
      refine V_getR fl_X12_119 rfl h32.1 h32.2 et33 dX12_done_106 ?_
      refine V_sipush (v := (1387 : Int32)) dX12_done_109 (by decide) ?_
      refine V_iload_n (j := 2) dX12_done_112 rfl rfl ?_
      refine V_iadd dX12_done_113 ?_
      obtain ⟨h34, hf⟩ := hf
      obtain ⟨h35, hf⟩ := hf
      refine V_iald h34.1 h34.s h35 dX12_done_114 ?_
      refine V_cVI (ctX12_does hn hf) gc_X12_355 rfl h32.1 ⟨_, h32.2, by decide, rfl⟩ ⟨by decide, by decide, Nat.zero_le _, Nat.zero_le _⟩ (Nat.le_of_ble_eq_true rfl) dX12_done_115 rfl hn (fun r36 z37 hf => ?_)
      refine V_if_ne (tgt := 125) dX12_done_118 (by decide) (fun h41 => ?_) (fun h41 => ?_)
      · have hf := it_f h41 hf
        refine V_iconst (v := (0 : Int32)) dX12_done_125 (by decide) ?_
        refine V_to [4] rfl ?_
        exact vX12_done_J126 hn hf
      · have hf := it_t (Classical.not_not.mp h41) hf
        refine V_iconst (v := (1 : Int32)) dX12_done_121 (by decide) ?_
        refine V_goto (tgt := 126) dX12_done_122 (by decide) ?_
        refine V_to [4] rfl ?_
        exact vX12_done_J126 hn hf
def wX12_done_J58 (n : Nat) (sh : Nat → Nat × Nat) (P : Int32 → gS → Prop) (a0 : Nat) (x1 : Int32) (x2 : Int32) (x3 : Int32) (s0 : Int32) (z : gS) : Prop := (oO n sh a0 8) ∧ (∀ z2 : gS, z2 = si z a0 27 (0 : Int32) → (if s0 = 0 then wX12_done_J88 n sh P a0 x1 x2 x3 s0 z2 else (if x1 = 0 then (∃ t44 : Nat, gr z2 a0 24 = some t44 ∧ ((oA n sh t44 1) ∧ ((vp_in ((1387 : Int32) + x2) (sh t44).2) ∧ (∀ z47 : gS, z47 = si z2 t44 ((1387 : Int32) + x2).toNatClampNeg x3 → ((bo s0) ∧ P s0 z47))))) else wX12_done_J88 n sh P a0 x1 x2 x3 s0 z2)))
set_option maxRecDepth 100000 in
set_option maxHeartbeats 4000000 in
theorem vX12_done_J58 {E : gE} {n : Nat} {sh : Nat → Nat × Nat} {P : Int32 → gS → Prop} {a0 : Nat} {x1 : Int32} {x2 : Int32} {x3 : Int32} {s0 : Int32} {z : gS} (hn : gOK E n) (hf : wX12_done_J58 n sh P a0 x1 x2 x3 s0 z) : V E (gR 5 0) gyX12_done 0 0 58 [(0, .ref a0), (1, .int x1), (2, .int x2), (3, .int x3)] [.int s0] n sh z (kI n sh P) := by
  unfold wX12_done_J58 at hf
  refine V_istore (ls2 := [(4, .int s0), (0, .ref a0), (1, .int x1), (2, .int x2), (3, .int x3)]) dX12_done_58 (by decide) rfl ?_
  refine V_aload_n (j := 1) dX12_done_60 rfl rfl ?_
  refine V_iconst (v := (0 : Int32)) dX12_done_61 (by decide) ?_
  obtain ⟨h1, hf⟩ := hf
  refine V_putI fl_X12_364 rfl rfl rfl rfl h1.1 h1.2 dX12_done_62 ?_
  refine V_nz (fun z2 ez2 => ?_)
  have hf := hf z2 ez2
  refine V_iload (j := 0) dX12_done_65 rfl ?_
  refine V_if_eq (tgt := 88) dX12_done_67 (by decide) (fun h49 => ?_) (fun h49 => ?_)
  · have hf := it_t h49 hf
    refine V_to [1, 2, 3, 4, 0] rfl ?_
    exact vX12_done_J88 hn hf
  · have hf := it_f h49 hf
    refine V_iload_n (j := 2) dX12_done_70 rfl rfl ?_
    refine V_if_ne (tgt := 88) dX12_done_71 (by decide) (fun h48 => ?_) (fun h48 => ?_)
    · have hf := it_f h48 hf
      refine V_to [1, 2, 3, 4, 0] rfl ?_
      exact vX12_done_J88 hn hf
    · have hf := it_t (Classical.not_not.mp h48) hf
      refine V_aload_n (j := 1) dX12_done_74 rfl rfl ?_
      obtain ⟨t44, et44, hf⟩ := hf
      refine V_getR fl_X12_119 rfl h1.1 h1.2 et44 dX12_done_75 ?_
      refine V_sipush (v := (1387 : Int32)) dX12_done_78 (by decide) ?_
      refine V_iload_n (j := 3) dX12_done_81 rfl rfl ?_
      refine V_iadd dX12_done_82 ?_
      refine V_iload_n (j := 4) dX12_done_83 rfl rfl ?_
      obtain ⟨h45, hf⟩ := hf
      obtain ⟨h46, hf⟩ := hf
      refine V_iast h45.1 h45.s h46 dX12_done_84 ?_
      refine V_nz (fun z47 ez47 => ?_)
      have hf := hf z47 ez47
      refine V_goto (tgt := 231) dX12_done_85 (by decide) ?_
      refine V_iload (j := 0) dX12_done_231 rfl ?_
      exact V_ireturn dX12_done_233 rfl hf.1 (Nat.le_refl 0) (kI_of hf.2)
def wX12_done_J53 (n : Nat) (sh : Nat → Nat × Nat) (P : Int32 → gS → Prop) (a0 : Nat) (x1 : Int32) (x2 : Int32) (x3 : Int32) (z : gS) : Prop := wX12_done_J58 n sh P a0 x1 x2 x3 (1 : Int32) z
set_option maxRecDepth 100000 in
set_option maxHeartbeats 4000000 in
theorem vX12_done_J53 {E : gE} {n : Nat} {sh : Nat → Nat × Nat} {P : Int32 → gS → Prop} {a0 : Nat} {x1 : Int32} {x2 : Int32} {x3 : Int32} {z : gS} (hn : gOK E n) (hf : wX12_done_J53 n sh P a0 x1 x2 x3 z) : V E (gR 5 0) gyX12_done 0 0 53 [(0, .ref a0), (1, .int x1), (2, .int x2), (3, .int x3)] [] n sh z (kI n sh P) := by
  unfold wX12_done_J53 at hf
  refine V_iconst (v := (1 : Int32)) dX12_done_53 (by decide) ?_
  refine V_goto (tgt := 58) dX12_done_54 (by decide) ?_
  exact vX12_done_J58 hn hf
def wX12_done (n : Nat) (sh : Nat → Nat × Nat) (a0 : Nat) (x1 : Int32) (x2 : Int32) (x3 : Int32) (z : gS) (P : Int32 → gS → Prop) : Prop := if x1 = 0 then ((oO n sh a0 8) ∧ (wX12_mayWalk n sh a0 (1386 : Int32) x2 x3 z (fun (r60 : Int32) (z61 : gS) => wX12_done_J58 n sh P a0 x1 x2 x3 r60 z61))) else (if x1 = (2 : Int32) then ((oO n sh a0 8) ∧ (wX12_mayWash n sh a0 (1386 : Int32) x2 z (fun (r56 : Int32) (z57 : gS) => wX12_done_J58 n sh P a0 x1 x2 x3 r56 z57))) else (if x1 = (1 : Int32) then wX12_done_J53 n sh P a0 x1 x2 x3 z else (if x1 = (5 : Int32) then wX12_done_J53 n sh P a0 x1 x2 x3 z else ((oO n sh a0 8) ∧ (wX12_isWhole n sh a0 (1386 : Int32) x2 z (fun (r50 : Int32) (z51 : gS) => if r50 = 0 then wX12_done_J58 n sh P a0 x1 x2 x3 (0 : Int32) z51 else wX12_done_J53 n sh P a0 x1 x2 x3 z51))))))
set_option maxRecDepth 100000 in
set_option maxHeartbeats 4000000 in
theorem ctX12_done {E : gE} {n : Nat} {sh : Nat → Nat × Nat} {a0 : Nat} {x1 : Int32} {x2 : Int32} {x3 : Int32} {z : gS} {P : Int32 → gS → Prop} (hn : gOK E n) (hf : wX12_done n sh a0 x1 x2 x3 z P) : VM E 5 0 gyX12_done [.ref a0, .int x1, .int x2, .int x3] n sh z (kI n sh P) := by
  unfold wX12_done at hf
  refine VM.of (by decide +kernel) (Nat.le_of_ble_eq_true rfl) (fun _ _ _ h => h.2.2) ?_
  show V E (gR 5 0) gyX12_done 0 0 0 [(0, .ref a0), (1, .int x1), (2, .int x2), (3, .int x3)] [] n sh z (kI n sh P)
  refine V_iload_n (j := 1) dX12_done_0 rfl rfl ?_
  refine V_if_ne (tgt := 16) dX12_done_1 (by decide) (fun h63 => ?_) (fun h63 => ?_)
  · have hf := it_f h63 hf
    refine V_iload_n (j := 1) dX12_done_16 rfl rfl ?_
    refine V_iconst (v := (2 : Int32)) dX12_done_17 (by decide) ?_
    refine V_icmp_ne (tgt := 32) dX12_done_18 (by decide) (fun h59 => ?_) (fun h59 => ?_)
    · have hf := it_f h59 hf
      refine V_iload_n (j := 1) dX12_done_32 rfl rfl ?_
      refine V_iconst (v := (1 : Int32)) dX12_done_33 (by decide) ?_
      refine V_icmp_eq (tgt := 53) dX12_done_34 (by decide) (fun h55 => ?_) (fun h55 => ?_)
      · have hf := it_t h55 hf
        exact vX12_done_J53 hn hf
      · have hf := it_f h55 hf
        refine V_iload_n (j := 1) dX12_done_37 rfl rfl ?_
        refine V_iconst (v := (5 : Int32)) dX12_done_38 (by decide) ?_
        refine V_icmp_eq (tgt := 53) dX12_done_39 (by decide) (fun h54 => ?_) (fun h54 => ?_)
        · have hf := it_t h54 hf
          exact vX12_done_J53 hn hf
        · have hf := it_f h54 hf
          refine V_aload_n (j := 0) dX12_done_42 rfl rfl ?_
          refine V_sipush (v := (1386 : Int32)) dX12_done_43 (by decide) ?_
          refine V_iload_n (j := 2) dX12_done_46 rfl rfl ?_
          obtain ⟨h52, hf⟩ := hf
          refine V_cVI (ctX12_isWhole hn hf) gc_X12_287 rfl h52.1 ⟨_, h52.2, by decide, rfl⟩ ⟨by decide, by decide, Nat.zero_le _, Nat.zero_le _⟩ (Nat.le_of_ble_eq_true rfl) dX12_done_47 rfl hn (fun r50 z51 hf => ?_)
          refine V_if_eq (tgt := 57) dX12_done_50 (by decide) (fun h53 => ?_) (fun h53 => ?_)
          · have hf := it_t h53 hf
            refine V_iconst (v := (0 : Int32)) dX12_done_57 (by decide) ?_
            exact vX12_done_J58 hn hf
          · have hf := it_f h53 hf
            exact vX12_done_J53 hn hf
    · have hf := it_t (Classical.not_not.mp h59) hf
      refine V_aload_n (j := 0) dX12_done_21 rfl rfl ?_
      refine V_sipush (v := (1386 : Int32)) dX12_done_22 (by decide) ?_
      refine V_iload_n (j := 2) dX12_done_25 rfl rfl ?_
      obtain ⟨h58, hf⟩ := hf
      refine V_cVI (ctX12_mayWash hn hf) gc_X12_358 rfl h58.1 ⟨_, h58.2, by decide, rfl⟩ ⟨by decide, by decide, Nat.zero_le _, Nat.zero_le _⟩ (Nat.le_of_ble_eq_true rfl) dX12_done_26 rfl hn (fun r56 z57 hf => ?_)
      refine V_goto (tgt := 58) dX12_done_29 (by decide) ?_
      exact vX12_done_J58 hn hf
  · have hf := it_t (Classical.not_not.mp h63) hf
    refine V_aload_n (j := 0) dX12_done_4 rfl rfl ?_
    refine V_sipush (v := (1386 : Int32)) dX12_done_5 (by decide) ?_
    refine V_iload_n (j := 2) dX12_done_8 rfl rfl ?_
    refine V_iload_n (j := 3) dX12_done_9 rfl rfl ?_
    obtain ⟨h62, hf⟩ := hf
    refine V_cVI (ctX12_mayWalk hn hf) gc_X12_346 rfl h62.1 ⟨_, h62.2, by decide, rfl⟩ ⟨by decide, by decide, Nat.zero_le _, Nat.zero_le _⟩ (Nat.le_of_ble_eq_true rfl) dX12_done_10 rfl hn (fun r60 z61 hf => ?_)
    refine V_goto (tgt := 58) dX12_done_13 (by decide) ?_
    exact vX12_done_J58 hn hf
def wX12_judged_J114 (n : Nat) (sh : Nat → Nat × Nat) (k31 : Nat → Int32 → Int32 → Int32 → Int32 → gS → Prop) (P : Int32 → gS → Prop) (a0 : Nat) (x1 : Int32) (x2 : Int32) (x4 : Int32) (s0 : Int32) (z : gS) : Prop := ∀ v27 : Int32, v27 = x4 + (1 : Int32) → k31 a0 x1 x2 s0 v27 z
set_option maxRecDepth 100000 in
set_option maxHeartbeats 4000000 in
theorem vX12_judged_J114 {E : gE} {n : Nat} {sh : Nat → Nat × Nat} {P : Int32 → gS → Prop} {k31 : Nat → Int32 → Int32 → Int32 → Int32 → gS → Prop} {a0 : Nat} {x1 : Int32} {x2 : Int32} {x4 : Int32} {s0 : Int32} {z : gS} (hn : gOK E n) (hk31 : ∀ (a0 : Nat) (x1 : Int32) (x2 : Int32) (x3 : Int32) (x4 : Int32) (z : gS), k31 a0 x1 x2 x3 x4 z → V E (gR 6 0) gyX12_judged 0 0 31 [(0, .ref a0), (1, .int x1), (2, .int x2), (3, .int x3), (4, .int x4)] [] n sh z (kI n sh P)) (hf : wX12_judged_J114 n sh k31 P a0 x1 x2 x4 s0 z) : V E (gR 6 0) gyX12_judged 0 0 114 [(0, .ref a0), (1, .int x1), (2, .int x2), (4, .int x4)] [.int s0] n sh z (kI n sh P) := by
  unfold wX12_judged_J114 at hf
  refine V_istore_n (ls2 := [(3, .int s0), (0, .ref a0), (1, .int x1), (2, .int x2), (4, .int x4)]) dX12_judged_114 rfl (by decide) rfl ?_
  obtain ⟨v27, ev27⟩ : ∃ y : Int32, y = x4 + (1 : Int32) := ⟨_, rfl⟩
  refine V_iinc (j := 4) (v := v27) (ls2 := [(4, .int v27), (3, .int s0), (0, .ref a0), (1, .int x1), (2, .int x2)]) dX12_judged_115 rfl (by rw [ev27]; rfl) (by decide) rfl ?_
  have hf := hf v27 ev27
  refine V_goto (tgt := 31) dX12_judged_118 (by decide) ?_
  refine V_to [2, 3, 4, 1, 0] rfl ?_
  exact hk31 _ _ _ _ _ _ hf
def wX12_judged_J113 (n : Nat) (sh : Nat → Nat × Nat) (k31 : Nat → Int32 → Int32 → Int32 → Int32 → gS → Prop) (P : Int32 → gS → Prop) (a0 : Nat) (x1 : Int32) (x2 : Int32) (x3 : Int32) (x4 : Int32) (z : gS) : Prop := wX12_judged_J114 n sh k31 P a0 x1 x2 x4 x3 z
set_option maxRecDepth 100000 in
set_option maxHeartbeats 4000000 in
theorem vX12_judged_J113 {E : gE} {n : Nat} {sh : Nat → Nat × Nat} {P : Int32 → gS → Prop} {k31 : Nat → Int32 → Int32 → Int32 → Int32 → gS → Prop} {a0 : Nat} {x1 : Int32} {x2 : Int32} {x3 : Int32} {x4 : Int32} {z : gS} (hn : gOK E n) (hk31 : ∀ (a0 : Nat) (x1 : Int32) (x2 : Int32) (x3 : Int32) (x4 : Int32) (z : gS), k31 a0 x1 x2 x3 x4 z → V E (gR 6 0) gyX12_judged 0 0 31 [(0, .ref a0), (1, .int x1), (2, .int x2), (3, .int x3), (4, .int x4)] [] n sh z (kI n sh P)) (hf : wX12_judged_J113 n sh k31 P a0 x1 x2 x3 x4 z) : V E (gR 6 0) gyX12_judged 0 0 113 [(0, .ref a0), (1, .int x1), (2, .int x2), (3, .int x3), (4, .int x4)] [] n sh z (kI n sh P) := by
  unfold wX12_judged_J113 at hf
  refine V_iload_n (j := 3) dX12_judged_113 rfl rfl ?_
  refine V_to [0, 1, 2, 4] rfl ?_
  exact vX12_judged_J114 hn hk31 hf
def wX12_judged_J96 (n : Nat) (sh : Nat → Nat × Nat) (k31 : Nat → Int32 → Int32 → Int32 → Int32 → gS → Prop) (P : Int32 → gS → Prop) (a0 : Nat) (x1 : Int32) (x3 : Int32) (x4 : Int32) (s0 : Int32) (z : gS) : Prop := (oO n sh a0 8) ∧ (if (gi z a0 27) = 0 then wX12_judged_J113 n sh k31 P a0 x1 s0 x3 x4 z else (if 0 ≤ x3 then wX12_judged_J113 n sh k31 P a0 x1 s0 x3 x4 z else wX12_judged_J114 n sh k31 P a0 x1 s0 x4 x4 z))
set_option maxRecDepth 100000 in
set_option maxHeartbeats 4000000 in
theorem vX12_judged_J96 {E : gE} {n : Nat} {sh : Nat → Nat × Nat} {P : Int32 → gS → Prop} {k31 : Nat → Int32 → Int32 → Int32 → Int32 → gS → Prop} {a0 : Nat} {x1 : Int32} {x3 : Int32} {x4 : Int32} {s0 : Int32} {z : gS} (hn : gOK E n) (hk31 : ∀ (a0 : Nat) (x1 : Int32) (x2 : Int32) (x3 : Int32) (x4 : Int32) (z : gS), k31 a0 x1 x2 x3 x4 z → V E (gR 6 0) gyX12_judged 0 0 31 [(0, .ref a0), (1, .int x1), (2, .int x2), (3, .int x3), (4, .int x4)] [] n sh z (kI n sh P)) (hf : wX12_judged_J96 n sh k31 P a0 x1 x3 x4 s0 z) : V E (gR 6 0) gyX12_judged 0 0 96 [(0, .ref a0), (1, .int x1), (3, .int x3), (4, .int x4)] [.int s0] n sh z (kI n sh P) := by
  unfold wX12_judged_J96 at hf
  refine V_istore_n (ls2 := [(2, .int s0), (0, .ref a0), (1, .int x1), (3, .int x3), (4, .int x4)]) dX12_judged_96 rfl (by decide) rfl ?_
  refine V_aload_n (j := 1) dX12_judged_97 rfl rfl ?_
  obtain ⟨h26, hf⟩ := hf
  refine V_getI fl_X12_364 rfl h26.1 h26.2 dX12_judged_98 ?_
  refine V_if_eq (tgt := 113) dX12_judged_101 (by decide) (fun h29 => ?_) (fun h29 => ?_)
  · have hf := it_t h29 hf
    refine V_to [1, 2, 0, 3, 4] rfl ?_
    exact vX12_judged_J113 hn hk31 hf
  · have hf := it_f h29 hf
    refine V_iload_n (j := 3) dX12_judged_104 rfl rfl ?_
    refine V_if_ge (tgt := 113) dX12_judged_105 (by decide) (fun h28 => ?_) (fun h28 => ?_)
    · have hf := it_t h28 hf
      refine V_to [1, 2, 0, 3, 4] rfl ?_
      exact vX12_judged_J113 hn hk31 hf
    · have hf := it_f h28 hf
      refine V_iload (j := 4) dX12_judged_108 rfl ?_
      refine V_goto (tgt := 114) dX12_judged_110 (by decide) ?_
      refine V_to [1, 2, 0, 4] rfl ?_
      exact vX12_judged_J114 hn hk31 hf
def wX12_judged_J95 (n : Nat) (sh : Nat → Nat × Nat) (k31 : Nat → Int32 → Int32 → Int32 → Int32 → gS → Prop) (P : Int32 → gS → Prop) (a0 : Nat) (x1 : Int32) (x2 : Int32) (x3 : Int32) (x4 : Int32) (z : gS) : Prop := wX12_judged_J96 n sh k31 P a0 x1 x3 x4 x2 z
set_option maxRecDepth 100000 in
set_option maxHeartbeats 4000000 in
theorem vX12_judged_J95 {E : gE} {n : Nat} {sh : Nat → Nat × Nat} {P : Int32 → gS → Prop} {k31 : Nat → Int32 → Int32 → Int32 → Int32 → gS → Prop} {a0 : Nat} {x1 : Int32} {x2 : Int32} {x3 : Int32} {x4 : Int32} {z : gS} (hn : gOK E n) (hk31 : ∀ (a0 : Nat) (x1 : Int32) (x2 : Int32) (x3 : Int32) (x4 : Int32) (z : gS), k31 a0 x1 x2 x3 x4 z → V E (gR 6 0) gyX12_judged 0 0 31 [(0, .ref a0), (1, .int x1), (2, .int x2), (3, .int x3), (4, .int x4)] [] n sh z (kI n sh P)) (hf : wX12_judged_J95 n sh k31 P a0 x1 x2 x3 x4 z) : V E (gR 6 0) gyX12_judged 0 0 95 [(0, .ref a0), (1, .int x1), (2, .int x2), (3, .int x3), (4, .int x4)] [] n sh z (kI n sh P) := by
  unfold wX12_judged_J95 at hf
  refine V_iload_n (j := 2) dX12_judged_95 rfl rfl ?_
  refine V_to [0, 1, 3, 4] rfl ?_
  exact vX12_judged_J96 hn hk31 hf
def wX12_judged_B31 (n : Nat) (sh : Nat → Nat × Nat) (k31 : Nat → Int32 → Int32 → Int32 → Int32 → gS → Prop) (P : Int32 → gS → Prop) (a0 : Nat) (x1 : Int32) (x2 : Int32) (x3 : Int32) (x4 : Int32) (z : gS) : Prop := (oO n sh a0 8) ∧ (∃ t8 : Nat, gr z a0 21 = some t8 ∧ ((oA n sh t8 1) ∧ ((vp_in (0 : Int32) (sh t8).2) ∧ (if (gi z t8 (0 : Int32).toNatClampNeg) ≤ x4 then (if x1 = 0 then P x2 z else (if x1 = (1 : Int32) then P x3 z else (wX12_harmShown n sh a0 (1386 : Int32) (-1 : Int32) (6 : Int32) z (fun (r11 : Int32) (z12 : gS) => P r11 z12)))) else (∃ t15 : Nat, gr z a0 21 = some t15 ∧ ((oA n sh t15 1) ∧ ((vp_in ((1 : Int32) + ((3 : Int32) * x4)) (sh t15).2) ∧ (∃ t18 : Nat, gr z a0 21 = some t18 ∧ ((oA n sh t18 1) ∧ ((vp_in ((2 : Int32) + ((3 : Int32) * x4)) (sh t18).2) ∧ (∃ t21 : Nat, gr z a0 21 = some t21 ∧ ((oA n sh t21 1) ∧ ((vp_in ((3 : Int32) + ((3 : Int32) * x4)) (sh t21).2) ∧ (wX12_done n sh a0 (gi z t15 ((1 : Int32) + ((3 : Int32) * x4)).toNatClampNeg) (gi z t18 ((2 : Int32) + ((3 : Int32) * x4)).toNatClampNeg) (gi z t21 ((3 : Int32) + ((3 : Int32) * x4)).toNatClampNeg) z (fun (r24 : Int32) (z25 : gS) => if r24 = 0 then (if 0 ≤ x2 then wX12_judged_J95 n sh k31 P a0 x1 x2 x3 x4 z25 else wX12_judged_J96 n sh k31 P a0 x1 x3 x4 x4 z25) else wX12_judged_J95 n sh k31 P a0 x1 x2 x3 x4 z25)))))))))))))))
def wX12_judged_L31 (n : Nat) (sh : Nat → Nat × Nat) (P : Int32 → gS → Prop) : Nat → Nat → Int32 → Int32 → Int32 → Int32 → gS → Prop
  | 0, _, _, _, _, _, _ => False
  | N + 1, a0, x1, x2, x3, x4, z => wX12_judged_B31 n sh (wX12_judged_L31 n sh P N) P a0 x1 x2 x3 x4 z
set_option maxRecDepth 100000 in
set_option maxHeartbeats 4000000 in
theorem vX12_judged_B31 {E : gE} {n : Nat} {sh : Nat → Nat × Nat} {P : Int32 → gS → Prop} {k31 : Nat → Int32 → Int32 → Int32 → Int32 → gS → Prop} {a0 : Nat} {x1 : Int32} {x2 : Int32} {x3 : Int32} {x4 : Int32} {z : gS} (hn : gOK E n) (hk31 : ∀ (a0 : Nat) (x1 : Int32) (x2 : Int32) (x3 : Int32) (x4 : Int32) (z : gS), k31 a0 x1 x2 x3 x4 z → V E (gR 6 0) gyX12_judged 0 0 31 [(0, .ref a0), (1, .int x1), (2, .int x2), (3, .int x3), (4, .int x4)] [] n sh z (kI n sh P)) (hf : wX12_judged_B31 n sh k31 P a0 x1 x2 x3 x4 z) : V E (gR 6 0) gyX12_judged 0 0 31 [(0, .ref a0), (1, .int x1), (2, .int x2), (3, .int x3), (4, .int x4)] [] n sh z (kI n sh P) := by
  unfold wX12_judged_B31 at hf
  refine V_iload (j := 4) dX12_judged_31 rfl ?_
  refine V_aload_n (j := 0) dX12_judged_33 rfl rfl ?_
  obtain ⟨h7, hf⟩ := hf
  obtain ⟨t8, et8, hf⟩ := hf
  refine V_getR fl_X12_110 rfl h7.1 h7.2 et8 dX12_judged_34 ?_
  refine V_iconst (v := (0 : Int32)) dX12_judged_37 (by decide) ?_
  obtain ⟨h9, hf⟩ := hf
  obtain ⟨h10, hf⟩ := hf
  refine V_iald h9.1 h9.s h10 dX12_judged_38 ?_
  refine V_icmp_ge (tgt := 121) dX12_judged_39 (by decide) (fun h32 => ?_) (fun h32 => ?_)
  · have hf := it_t h32 hf
    refine V_iload_n (j := 1) dX12_judged_121 rfl rfl ?_
    refine V_if_ne (tgt := 129) dX12_judged_122 (by decide) (fun h14 => ?_) (fun h14 => ?_)
    · have hf := it_f h14 hf
      refine V_iload_n (j := 1) dX12_judged_129 rfl rfl ?_
      refine V_iconst (v := (1 : Int32)) dX12_judged_130 (by decide) ?_
      refine V_icmp_ne (tgt := 138) dX12_judged_131 (by decide) (fun h13 => ?_) (fun h13 => ?_)
      · have hf := it_f h13 hf
        refine V_aload_n (j := 0) dX12_judged_138 rfl rfl ?_
        refine V_sipush (v := (1386 : Int32)) dX12_judged_139 (by decide) ?_
        refine V_iconst (v := (-1 : Int32)) dX12_judged_142 (by decide) ?_
        refine V_bipush (v := (6 : Int32)) dX12_judged_143 (by decide) ?_
        refine V_cVI (ctX12_harmShown hn hf) gc_X12_371 rfl h7.1 ⟨_, h7.2, by decide, rfl⟩ ⟨by decide, by decide, Nat.zero_le _, Nat.zero_le _⟩ (Nat.le_of_ble_eq_true rfl) dX12_judged_145 rfl hn (fun r11 z12 hf => ?_)
        exact V_ireturn dX12_judged_148 rfl rfl (Nat.le_refl 0) (kI_of hf)
      · have hf := it_t (Classical.not_not.mp h13) hf
        refine V_iload_n (j := 3) dX12_judged_134 rfl rfl ?_
        refine V_goto (tgt := 148) dX12_judged_135 (by decide) ?_
        exact V_ireturn dX12_judged_148 rfl rfl (Nat.le_refl 0) (kI_of hf)
    · have hf := it_t (Classical.not_not.mp h14) hf
      refine V_iload_n (j := 2) dX12_judged_125 rfl rfl ?_
      refine V_goto (tgt := 148) dX12_judged_126 (by decide) ?_
      exact V_ireturn dX12_judged_148 rfl rfl (Nat.le_refl 0) (kI_of hf)
  · have hf := it_f h32 hf
    refine V_aload_n (j := 0) dX12_judged_42 rfl rfl ?_
    refine V_aload_n (j := 0) dX12_judged_43 rfl rfl ?_
    obtain ⟨t15, et15, hf⟩ := hf
    refine V_getR fl_X12_110 rfl h7.1 h7.2 et15 dX12_judged_44 ?_
    refine V_iconst (v := (1 : Int32)) dX12_judged_47 (by decide) ?_
    refine V_iconst (v := (3 : Int32)) dX12_judged_48 (by decide) ?_
    refine V_iload (j := 4) dX12_judged_49 rfl ?_
    refine V_imul dX12_judged_51 ?_
    refine V_iadd dX12_judged_52 ?_
    obtain ⟨h16, hf⟩ := hf
    obtain ⟨h17, hf⟩ := hf
    refine V_iald h16.1 h16.s h17 dX12_judged_53 ?_
    refine V_aload_n (j := 0) dX12_judged_54 rfl rfl ?_
    obtain ⟨t18, et18, hf⟩ := hf
    refine V_getR fl_X12_110 rfl h7.1 h7.2 et18 dX12_judged_55 ?_
    refine V_iconst (v := (2 : Int32)) dX12_judged_58 (by decide) ?_
    refine V_iconst (v := (3 : Int32)) dX12_judged_59 (by decide) ?_
    refine V_iload (j := 4) dX12_judged_60 rfl ?_
    refine V_imul dX12_judged_62 ?_
    refine V_iadd dX12_judged_63 ?_
    obtain ⟨h19, hf⟩ := hf
    obtain ⟨h20, hf⟩ := hf
    refine V_iald h19.1 h19.s h20 dX12_judged_64 ?_
    refine V_aload_n (j := 0) dX12_judged_65 rfl rfl ?_
    obtain ⟨t21, et21, hf⟩ := hf
    refine V_getR fl_X12_110 rfl h7.1 h7.2 et21 dX12_judged_66 ?_
    refine V_iconst (v := (3 : Int32)) dX12_judged_69 (by decide) ?_
    refine V_iconst (v := (3 : Int32)) dX12_judged_70 (by decide) ?_
    refine V_iload (j := 4) dX12_judged_71 rfl ?_
    refine V_imul dX12_judged_73 ?_
    refine V_iadd dX12_judged_74 ?_
    obtain ⟨h22, hf⟩ := hf
    obtain ⟨h23, hf⟩ := hf
    refine V_iald h22.1 h22.s h23 dX12_judged_75 ?_
    refine V_cVI (ctX12_done hn hf) gc_X12_368 rfl h7.1 ⟨_, h7.2, by decide, rfl⟩ ⟨by decide, by decide, Nat.zero_le _, Nat.zero_le _⟩ (Nat.le_of_ble_eq_true rfl) dX12_judged_76 rfl hn (fun r24 z25 hf => ?_)
    refine V_istore (ls2 := [(5, .int r24), (0, .ref a0), (1, .int x1), (2, .int x2), (3, .int x3), (4, .int x4)]) dX12_judged_79 (by decide) rfl ?_
    refine V_iload (j := 0) dX12_judged_81 rfl ?_
    refine V_if_ne (tgt := 95) dX12_judged_83 (by decide) (fun h31 => ?_) (fun h31 => ?_)
    · have hf := it_f h31 hf
      refine V_to [1, 2, 3, 4, 5] rfl ?_
      exact vX12_judged_J95 hn hk31 hf
    · have hf := it_t (Classical.not_not.mp h31) hf
      refine V_iload_n (j := 3) dX12_judged_86 rfl rfl ?_
      refine V_if_ge (tgt := 95) dX12_judged_87 (by decide) (fun h30 => ?_) (fun h30 => ?_)
      · have hf := it_t h30 hf
        refine V_to [1, 2, 3, 4, 5] rfl ?_
        exact vX12_judged_J95 hn hk31 hf
      · have hf := it_f h30 hf
        refine V_iload (j := 5) dX12_judged_90 rfl ?_
        refine V_goto (tgt := 96) dX12_judged_92 (by decide) ?_
        refine V_to [1, 2, 4, 5] rfl ?_
        exact vX12_judged_J96 hn hk31 hf
set_option maxRecDepth 100000 in
set_option maxHeartbeats 4000000 in
theorem vX12_judged_L31 {E : gE} {n : Nat} {sh : Nat → Nat × Nat} {P : Int32 → gS → Prop} (hn : gOK E n) : ∀ (N : Nat) (a0 : Nat) (x1 : Int32) (x2 : Int32) (x3 : Int32) (x4 : Int32) (z : gS), wX12_judged_L31 n sh P N a0 x1 x2 x3 x4 z → V E (gR 6 0) gyX12_judged 0 0 31 [(0, .ref a0), (1, .int x1), (2, .int x2), (3, .int x3), (4, .int x4)] [] n sh z (kI n sh P) := by
  intro N
  induction N with
  | zero => intro a0 x1 x2 x3 x4 z hf; exact False.elim hf
  | succ N ih => intro a0 x1 x2 x3 x4 z hf; exact vX12_judged_B31 hn ih hf
def wX12_judged (n : Nat) (sh : Nat → Nat × Nat) (a0 : Nat) (x1 : Int32) (z : gS) (P : Int32 → gS → Prop) : Prop := (oO n sh a0 8) ∧ (∀ z2 : gS, z2 = si z a0 0 (0 : Int32) → (wX12_within n sh x1 (0 : Int32) (2 : Int32) z2 (fun (r3 : Int32) (z4 : gS) => if r3 = 0 then P (-2 : Int32) z4 else (wX12_starts n sh a0 (1386 : Int32) z4 (fun (z6 : gS) => (∃ N, wX12_judged_L31 n sh P N a0 x1 (-1 : Int32) (-1 : Int32) (0 : Int32) z6))))))
set_option maxRecDepth 100000 in
set_option maxHeartbeats 4000000 in
theorem ctX12_judged {E : gE} {n : Nat} {sh : Nat → Nat × Nat} {a0 : Nat} {x1 : Int32} {z : gS} {P : Int32 → gS → Prop} (hn : gOK E n) (hf : wX12_judged n sh a0 x1 z P) : VM E 6 0 gyX12_judged [.ref a0, .int x1] n sh z (kI n sh P) := by
  unfold wX12_judged at hf
  refine VM.of (by decide +kernel) (Nat.le_of_ble_eq_true rfl) (fun _ _ _ h => h.2.2) ?_
  show V E (gR 6 0) gyX12_judged 0 0 0 [(0, .ref a0), (1, .int x1)] [] n sh z (kI n sh P)
  refine V_aload_n (j := 0) dX12_judged_0 rfl rfl ?_
  refine V_iconst (v := (0 : Int32)) dX12_judged_1 (by decide) ?_
  obtain ⟨h1, hf⟩ := hf
  refine V_putI fl_X12_1 rfl rfl rfl rfl h1.1 h1.2 dX12_judged_2 ?_
  refine V_nz (fun z2 ez2 => ?_)
  have hf := hf z2 ez2
  refine V_iload_n (j := 1) dX12_judged_5 rfl rfl ?_
  refine V_iconst (v := (0 : Int32)) dX12_judged_6 (by decide) ?_
  refine V_iconst (v := (2 : Int32)) dX12_judged_7 (by decide) ?_
  refine V_cSI (ctX12_within hn hf) gc_X12_198 rfl ⟨by decide, by decide, Nat.zero_le _, Nat.zero_le _⟩ (Nat.le_of_ble_eq_true rfl) dX12_judged_8 rfl hn (fun r3 z4 hf => ?_)
  refine V_if_ne (tgt := 17) dX12_judged_11 (by decide) (fun h33 => ?_) (fun h33 => ?_)
  · have hf := it_f h33 hf
    refine V_aload_n (j := 0) dX12_judged_17 rfl rfl ?_
    refine V_sipush (v := (1386 : Int32)) dX12_judged_18 (by decide) ?_
    refine V_cVN (ctX12_starts hn hf) gc_X12_269 rfl h1.1 ⟨_, h1.2, by decide, rfl⟩ ⟨by decide, by decide, Nat.zero_le _, Nat.zero_le _⟩ (Nat.le_of_ble_eq_true rfl) dX12_judged_21 rfl hn (fun z6 hf => ?_)
    refine V_iconst (v := (-1 : Int32)) dX12_judged_24 (by decide) ?_
    refine V_istore_n (ls2 := [(2, .int (-1 : Int32)), (0, .ref a0), (1, .int x1)]) dX12_judged_25 rfl (by decide) rfl ?_
    refine V_iconst (v := (-1 : Int32)) dX12_judged_26 (by decide) ?_
    refine V_istore_n (ls2 := [(3, .int (-1 : Int32)), (2, .int (-1 : Int32)), (0, .ref a0), (1, .int x1)]) dX12_judged_27 rfl (by decide) rfl ?_
    refine V_iconst (v := (0 : Int32)) dX12_judged_28 (by decide) ?_
    refine V_istore (ls2 := [(4, .int (0 : Int32)), (3, .int (-1 : Int32)), (2, .int (-1 : Int32)), (0, .ref a0), (1, .int x1)]) dX12_judged_29 (by decide) rfl ?_
    obtain ⟨N, hf⟩ := hf
    refine V_to [3, 4, 2, 1, 0] rfl ?_
    exact vX12_judged_L31 hn N _ _ _ _ _ _ hf
  · have hf := it_t (Classical.not_not.mp h33) hf
    refine V_bipush (v := (-2 : Int32)) dX12_judged_14 (by decide) ?_
    exact V_ireturn dX12_judged_16 rfl rfl (Nat.le_refl 0) (kI_of hf)
def wX12_shame (n : Nat) (sh : Nat → Nat × Nat) (a0 : Nat) (x1 : Int32) (z : gS) (P : Int32 → gS → Prop) : Prop := (oO n sh a0 8) ∧ (∀ z2 : gS, z2 = si z a0 0 (0 : Int32) → (wX12_isPerson n sh a0 x1 z2 (fun (r3 : Int32) (z4 : gS) => if r3 = 0 then P (-1 : Int32) z4 else (wX12_harmShown n sh a0 (0 : Int32) x1 (6 : Int32) z4 (fun (r5 : Int32) (z6 : gS) => P r5 z6)))))
set_option maxRecDepth 100000 in
set_option maxHeartbeats 4000000 in
theorem ctX12_shame {E : gE} {n : Nat} {sh : Nat → Nat × Nat} {a0 : Nat} {x1 : Int32} {z : gS} {P : Int32 → gS → Prop} (hn : gOK E n) (hf : wX12_shame n sh a0 x1 z P) : VM E 4 0 gyX12_shame [.ref a0, .int x1] n sh z (kI n sh P) := by
  unfold wX12_shame at hf
  refine VM.of (by decide +kernel) (Nat.le_of_ble_eq_true rfl) (fun _ _ _ h => h.2.2) ?_
  show V E (gR 4 0) gyX12_shame 0 0 0 [(0, .ref a0), (1, .int x1)] [] n sh z (kI n sh P)
  refine V_aload_n (j := 0) dX12_shame_0 rfl rfl ?_
  refine V_iconst (v := (0 : Int32)) dX12_shame_1 (by decide) ?_
  obtain ⟨h1, hf⟩ := hf
  refine V_putI fl_X12_1 rfl rfl rfl rfl h1.1 h1.2 dX12_shame_2 ?_
  refine V_nz (fun z2 ez2 => ?_)
  have hf := hf z2 ez2
  refine V_aload_n (j := 0) dX12_shame_5 rfl rfl ?_
  refine V_iload_n (j := 1) dX12_shame_6 rfl rfl ?_
  refine V_cVI (ctX12_isPerson hn hf) gc_X12_343 rfl h1.1 ⟨_, h1.2, by decide, rfl⟩ ⟨by decide, by decide, Nat.zero_le _, Nat.zero_le _⟩ (Nat.le_of_ble_eq_true rfl) dX12_shame_7 rfl hn (fun r3 z4 hf => ?_)
  refine V_if_eq (tgt := 24) dX12_shame_10 (by decide) (fun h7 => ?_) (fun h7 => ?_)
  · have hf := it_t h7 hf
    refine V_iconst (v := (-1 : Int32)) dX12_shame_24 (by decide) ?_
    exact V_ireturn dX12_shame_25 rfl rfl (Nat.le_refl 0) (kI_of hf)
  · have hf := it_f h7 hf
    refine V_aload_n (j := 0) dX12_shame_13 rfl rfl ?_
    refine V_iconst (v := (0 : Int32)) dX12_shame_14 (by decide) ?_
    refine V_iload_n (j := 1) dX12_shame_15 rfl rfl ?_
    refine V_bipush (v := (6 : Int32)) dX12_shame_16 (by decide) ?_
    refine V_cVI (ctX12_harmShown hn hf) gc_X12_371 rfl h1.1 ⟨_, h1.2, by decide, rfl⟩ ⟨by decide, by decide, Nat.zero_le _, Nat.zero_le _⟩ (Nat.le_of_ble_eq_true rfl) dX12_shame_18 rfl hn (fun r5 z6 hf => ?_)
    refine V_goto (tgt := 25) dX12_shame_21 (by decide) ?_
    exact V_ireturn dX12_shame_25 rfl rfl (Nat.le_refl 0) (kI_of hf)
def wX12_harm (n : Nat) (sh : Nat → Nat × Nat) (a0 : Nat) (z : gS) (P : Int32 → gS → Prop) : Prop := (oO n sh a0 8) ∧ (∀ z2 : gS, z2 = si z a0 0 (0 : Int32) → (wX12_harmShown n sh a0 (0 : Int32) (-1 : Int32) (6 : Int32) z2 (fun (r3 : Int32) (z4 : gS) => P r3 z4)))
set_option maxRecDepth 100000 in
set_option maxHeartbeats 4000000 in
theorem ctX12_harm {E : gE} {n : Nat} {sh : Nat → Nat × Nat} {a0 : Nat} {z : gS} {P : Int32 → gS → Prop} (hn : gOK E n) (hf : wX12_harm n sh a0 z P) : VM E 4 0 gyX12_harm [.ref a0] n sh z (kI n sh P) := by
  unfold wX12_harm at hf
  refine VM.of (by decide +kernel) (Nat.le_of_ble_eq_true rfl) (fun _ _ _ h => h.2.2) ?_
  show V E (gR 4 0) gyX12_harm 0 0 0 [(0, .ref a0)] [] n sh z (kI n sh P)
  refine V_aload_n (j := 0) dX12_harm_0 rfl rfl ?_
  refine V_iconst (v := (0 : Int32)) dX12_harm_1 (by decide) ?_
  obtain ⟨h1, hf⟩ := hf
  refine V_putI fl_X12_1 rfl rfl rfl rfl h1.1 h1.2 dX12_harm_2 ?_
  refine V_nz (fun z2 ez2 => ?_)
  have hf := hf z2 ez2
  refine V_aload_n (j := 0) dX12_harm_5 rfl rfl ?_
  refine V_iconst (v := (0 : Int32)) dX12_harm_6 (by decide) ?_
  refine V_iconst (v := (-1 : Int32)) dX12_harm_7 (by decide) ?_
  refine V_bipush (v := (6 : Int32)) dX12_harm_8 (by decide) ?_
  refine V_cVI (ctX12_harmShown hn hf) gc_X12_371 rfl h1.1 ⟨_, h1.2, by decide, rfl⟩ ⟨by decide, by decide, Nat.zero_le _, Nat.zero_le _⟩ (Nat.le_of_ble_eq_true rfl) dX12_harm_10 rfl hn (fun r3 z4 hf => ?_)
  exact V_ireturn dX12_harm_13 rfl rfl (Nat.le_refl 0) (kI_of hf)
def wX12_memory (n : Nat) (sh : Nat → Nat × Nat) (a0 : Nat) (x1 : Int32) (z : gS) (P : Int32 → gS → Prop) : Prop := (oO n sh a0 8) ∧ (∀ z2 : gS, z2 = si z a0 0 (0 : Int32) → (wX12_within n sh x1 (1 : Int32) (6 : Int32) z2 (fun (r3 : Int32) (z4 : gS) => if r3 = 0 then P (-1 : Int32) z4 else (wX12_harmShown n sh a0 (0 : Int32) (-1 : Int32) x1 z4 (fun (r5 : Int32) (z6 : gS) => P r5 z6)))))
set_option maxRecDepth 100000 in
set_option maxHeartbeats 4000000 in
theorem ctX12_memory {E : gE} {n : Nat} {sh : Nat → Nat × Nat} {a0 : Nat} {x1 : Int32} {z : gS} {P : Int32 → gS → Prop} (hn : gOK E n) (hf : wX12_memory n sh a0 x1 z P) : VM E 4 0 gyX12_memory [.ref a0, .int x1] n sh z (kI n sh P) := by
  unfold wX12_memory at hf
  refine VM.of (by decide +kernel) (Nat.le_of_ble_eq_true rfl) (fun _ _ _ h => h.2.2) ?_
  show V E (gR 4 0) gyX12_memory 0 0 0 [(0, .ref a0), (1, .int x1)] [] n sh z (kI n sh P)
  refine V_aload_n (j := 0) dX12_memory_0 rfl rfl ?_
  refine V_iconst (v := (0 : Int32)) dX12_memory_1 (by decide) ?_
  obtain ⟨h1, hf⟩ := hf
  refine V_putI fl_X12_1 rfl rfl rfl rfl h1.1 h1.2 dX12_memory_2 ?_
  refine V_nz (fun z2 ez2 => ?_)
  have hf := hf z2 ez2
  refine V_iload_n (j := 1) dX12_memory_5 rfl rfl ?_
  refine V_iconst (v := (1 : Int32)) dX12_memory_6 (by decide) ?_
  refine V_bipush (v := (6 : Int32)) dX12_memory_7 (by decide) ?_
  refine V_cSI (ctX12_within hn hf) gc_X12_198 rfl ⟨by decide, by decide, Nat.zero_le _, Nat.zero_le _⟩ (Nat.le_of_ble_eq_true rfl) dX12_memory_9 rfl hn (fun r3 z4 hf => ?_)
  refine V_if_eq (tgt := 25) dX12_memory_12 (by decide) (fun h7 => ?_) (fun h7 => ?_)
  · have hf := it_t h7 hf
    refine V_iconst (v := (-1 : Int32)) dX12_memory_25 (by decide) ?_
    exact V_ireturn dX12_memory_26 rfl rfl (Nat.le_refl 0) (kI_of hf)
  · have hf := it_f h7 hf
    refine V_aload_n (j := 0) dX12_memory_15 rfl rfl ?_
    refine V_iconst (v := (0 : Int32)) dX12_memory_16 (by decide) ?_
    refine V_iconst (v := (-1 : Int32)) dX12_memory_17 (by decide) ?_
    refine V_iload_n (j := 1) dX12_memory_18 rfl rfl ?_
    refine V_cVI (ctX12_harmShown hn hf) gc_X12_371 rfl h1.1 ⟨_, h1.2, by decide, rfl⟩ ⟨by decide, by decide, Nat.zero_le _, Nat.zero_le _⟩ (Nat.le_of_ble_eq_true rfl) dX12_memory_19 rfl hn (fun r5 z6 hf => ?_)
    refine V_goto (tgt := 26) dX12_memory_22 (by decide) ?_
    exact V_ireturn dX12_memory_26 rfl rfl (Nat.le_refl 0) (kI_of hf)
def wX12_trail_J95 (n : Nat) (sh : Nat → Nat × Nat) (k19 : Nat → Int32 → Int32 → Int32 → gS → Prop) (P : Int32 → gS → Prop) (a0 : Nat) (x1 : Int32) (x2 : Int32) (x3 : Int32) (z : gS) : Prop := ∀ v12 : Int32, v12 = x3 + (1 : Int32) → k19 a0 x1 x2 v12 z
set_option maxRecDepth 100000 in
set_option maxHeartbeats 4000000 in
theorem vX12_trail_J95 {E : gE} {n : Nat} {sh : Nat → Nat × Nat} {P : Int32 → gS → Prop} {k19 : Nat → Int32 → Int32 → Int32 → gS → Prop} {a0 : Nat} {x1 : Int32} {x2 : Int32} {x3 : Int32} {z : gS} (hn : gOK E n) (hk19 : ∀ (a0 : Nat) (x1 : Int32) (x2 : Int32) (x3 : Int32) (z : gS), k19 a0 x1 x2 x3 z → V E (gR 2 0) gyX12_trail 0 0 19 [(0, .ref a0), (1, .int x1), (2, .int x2), (3, .int x3)] [] n sh z (kI n sh P)) (hf : wX12_trail_J95 n sh k19 P a0 x1 x2 x3 z) : V E (gR 2 0) gyX12_trail 0 0 95 [(0, .ref a0), (1, .int x1), (2, .int x2), (3, .int x3)] [] n sh z (kI n sh P) := by
  unfold wX12_trail_J95 at hf
  obtain ⟨v12, ev12⟩ : ∃ y : Int32, y = x3 + (1 : Int32) := ⟨_, rfl⟩
  refine V_iinc (j := 3) (v := v12) (ls2 := [(3, .int v12), (0, .ref a0), (1, .int x1), (2, .int x2)]) dX12_trail_95 rfl (by rw [ev12]; rfl) (by decide) rfl ?_
  have hf := hf v12 ev12
  refine V_goto (tgt := 19) dX12_trail_98 (by decide) ?_
  refine V_to [1, 2, 3, 0] rfl ?_
  exact hk19 _ _ _ _ _ hf
def wX12_trail_J87 (n : Nat) (sh : Nat → Nat × Nat) (k19 : Nat → Int32 → Int32 → Int32 → gS → Prop) (k30 : Nat → Int32 → Int32 → Int32 → Int32 → gS → Prop) (P : Int32 → gS → Prop) (a0 : Nat) (x1 : Int32) (x3 : Int32) (x4 : Int32) (s0 : Int32) (s1 : Int32) (z : gS) : Prop := ∀ v19 : Int32, v19 = (s1 ||| s0) → (∀ v20 : Int32, v20 = x4 + (1 : Int32) → k30 a0 x1 v19 x3 v20 z)
set_option maxRecDepth 100000 in
set_option maxHeartbeats 4000000 in
theorem vX12_trail_J87 {E : gE} {n : Nat} {sh : Nat → Nat × Nat} {P : Int32 → gS → Prop} {k19 : Nat → Int32 → Int32 → Int32 → gS → Prop} {k30 : Nat → Int32 → Int32 → Int32 → Int32 → gS → Prop} {a0 : Nat} {x1 : Int32} {x3 : Int32} {x4 : Int32} {s0 : Int32} {s1 : Int32} {z : gS} (hn : gOK E n) (hk19 : ∀ (a0 : Nat) (x1 : Int32) (x2 : Int32) (x3 : Int32) (z : gS), k19 a0 x1 x2 x3 z → V E (gR 2 0) gyX12_trail 0 0 19 [(0, .ref a0), (1, .int x1), (2, .int x2), (3, .int x3)] [] n sh z (kI n sh P)) (hk30 : ∀ (a0 : Nat) (x1 : Int32) (x2 : Int32) (x3 : Int32) (x4 : Int32) (z : gS), k30 a0 x1 x2 x3 x4 z → V E (gR 2 0) gyX12_trail 0 0 30 [(0, .ref a0), (1, .int x1), (2, .int x2), (3, .int x3), (4, .int x4)] [] n sh z (kI n sh P)) (hf : wX12_trail_J87 n sh k19 k30 P a0 x1 x3 x4 s0 s1 z) : V E (gR 2 0) gyX12_trail 0 0 87 [(0, .ref a0), (1, .int x1), (3, .int x3), (4, .int x4)] [.int s0, .int s1] n sh z (kI n sh P) := by
  unfold wX12_trail_J87 at hf
  refine V_ior dX12_trail_87 ?_
  refine V_nI (fun v19 ev19 => ?_)
  have hf := hf v19 ev19
  refine V_istore_n (ls2 := [(2, .int v19), (0, .ref a0), (1, .int x1), (3, .int x3), (4, .int x4)]) dX12_trail_88 rfl (by decide) rfl ?_
  obtain ⟨v20, ev20⟩ : ∃ y : Int32, y = x4 + (1 : Int32) := ⟨_, rfl⟩
  refine V_iinc (j := 4) (v := v20) (ls2 := [(4, .int v20), (2, .int v19), (0, .ref a0), (1, .int x1), (3, .int x3)]) dX12_trail_89 rfl (by rw [ev20]; rfl) (by decide) rfl ?_
  have hf := hf v20 ev20
  refine V_goto (tgt := 30) dX12_trail_92 (by decide) ?_
  refine V_to [2, 3, 1, 4, 0] rfl ?_
  exact hk30 _ _ _ _ _ _ hf
def wX12_trail_B30 (n : Nat) (sh : Nat → Nat × Nat) (k19 : Nat → Int32 → Int32 → Int32 → gS → Prop) (k30 : Nat → Int32 → Int32 → Int32 → Int32 → gS → Prop) (P : Int32 → gS → Prop) (a0 : Nat) (x1 : Int32) (x2 : Int32) (x3 : Int32) (x4 : Int32) (z : gS) : Prop := (oO n sh a0 8) ∧ (∃ t9 : Nat, gr z a0 24 = some t9 ∧ ((oA n sh t9 1) ∧ ((vp_in ((18 : Int32) + x3) (sh t9).2) ∧ (if (gi z t9 ((18 : Int32) + x3).toNatClampNeg) ≤ x4 then wX12_trail_J95 n sh k19 P a0 x1 x2 x3 z else (wX12_isShown n sh a0 (0 : Int32) x3 z (fun (r13 : Int32) (z14 : gS) => if r13 = 0 then wX12_trail_J95 n sh k19 P a0 x1 x2 x3 z14 else (wX12_markOf n sh a0 (0 : Int32) x3 x4 z14 (fun (r15 : Int32) (z16 : gS) => wX12_shownOf n sh a0 (0 : Int32) x3 r15 z16 (fun (r17 : Int32) (z18 : gS) => if r17 = x1 then (wX12_cellOf n sh r15 z18 (fun (r21 : Int32) (z22 : gS) => wX12_trail_J87 n sh k19 k30 P a0 x1 x3 x4 ((1 : Int32) <<< (r21 &&& 31)) x2 z22)) else wX12_trail_J87 n sh k19 k30 P a0 x1 x3 x4 (0 : Int32) x2 z18)))))))))
def wX12_trail_L30 (n : Nat) (sh : Nat → Nat × Nat) (k19 : Nat → Int32 → Int32 → Int32 → gS → Prop) (P : Int32 → gS → Prop) : Nat → Nat → Int32 → Int32 → Int32 → Int32 → gS → Prop
  | 0, _, _, _, _, _, _ => False
  | N + 1, a0, x1, x2, x3, x4, z => wX12_trail_B30 n sh k19 (wX12_trail_L30 n sh k19 P N) P a0 x1 x2 x3 x4 z
set_option maxRecDepth 100000 in
set_option maxHeartbeats 4000000 in
theorem vX12_trail_B30 {E : gE} {n : Nat} {sh : Nat → Nat × Nat} {P : Int32 → gS → Prop} {k19 : Nat → Int32 → Int32 → Int32 → gS → Prop} {k30 : Nat → Int32 → Int32 → Int32 → Int32 → gS → Prop} {a0 : Nat} {x1 : Int32} {x2 : Int32} {x3 : Int32} {x4 : Int32} {z : gS} (hn : gOK E n) (hk19 : ∀ (a0 : Nat) (x1 : Int32) (x2 : Int32) (x3 : Int32) (z : gS), k19 a0 x1 x2 x3 z → V E (gR 2 0) gyX12_trail 0 0 19 [(0, .ref a0), (1, .int x1), (2, .int x2), (3, .int x3)] [] n sh z (kI n sh P)) (hk30 : ∀ (a0 : Nat) (x1 : Int32) (x2 : Int32) (x3 : Int32) (x4 : Int32) (z : gS), k30 a0 x1 x2 x3 x4 z → V E (gR 2 0) gyX12_trail 0 0 30 [(0, .ref a0), (1, .int x1), (2, .int x2), (3, .int x3), (4, .int x4)] [] n sh z (kI n sh P)) (hf : wX12_trail_B30 n sh k19 k30 P a0 x1 x2 x3 x4 z) : V E (gR 2 0) gyX12_trail 0 0 30 [(0, .ref a0), (1, .int x1), (2, .int x2), (3, .int x3), (4, .int x4)] [] n sh z (kI n sh P) := by
  unfold wX12_trail_B30 at hf
  refine V_iload (j := 4) dX12_trail_30 rfl ?_
  refine V_aload_n (j := 0) dX12_trail_32 rfl rfl ?_
  obtain ⟨h8, hf⟩ := hf
  obtain ⟨t9, et9, hf⟩ := hf
  refine V_getR fl_X12_119 rfl h8.1 h8.2 et9 dX12_trail_33 ?_
  refine V_bipush (v := (18 : Int32)) dX12_trail_36 (by decide) ?_
  refine V_iload_n (j := 3) dX12_trail_38 rfl rfl ?_
  refine V_iadd dX12_trail_39 ?_
  obtain ⟨h10, hf⟩ := hf
  obtain ⟨h11, hf⟩ := hf
  refine V_iald h10.1 h10.s h11 dX12_trail_40 ?_
  refine V_icmp_ge (tgt := 95) dX12_trail_41 (by decide) (fun h25 => ?_) (fun h25 => ?_)
  · have hf := it_t h25 hf
    refine V_to [0, 1, 2, 3] rfl ?_
    exact vX12_trail_J95 hn hk19 hf
  · have hf := it_f h25 hf
    refine V_aload_n (j := 0) dX12_trail_44 rfl rfl ?_
    refine V_iconst (v := (0 : Int32)) dX12_trail_45 (by decide) ?_
    refine V_iload_n (j := 3) dX12_trail_46 rfl rfl ?_
    refine V_cVI (ctX12_isShown hn hf) gc_X12_324 rfl h8.1 ⟨_, h8.2, by decide, rfl⟩ ⟨by decide, by decide, Nat.zero_le _, Nat.zero_le _⟩ (Nat.le_of_ble_eq_true rfl) dX12_trail_47 rfl hn (fun r13 z14 hf => ?_)
    refine V_if_eq (tgt := 95) dX12_trail_50 (by decide) (fun h24 => ?_) (fun h24 => ?_)
    · have hf := it_t h24 hf
      refine V_to [0, 1, 2, 3] rfl ?_
      exact vX12_trail_J95 hn hk19 hf
    · have hf := it_f h24 hf
      refine V_aload_n (j := 0) dX12_trail_53 rfl rfl ?_
      refine V_iconst (v := (0 : Int32)) dX12_trail_54 (by decide) ?_
      refine V_iload_n (j := 3) dX12_trail_55 rfl rfl ?_
      refine V_iload (j := 4) dX12_trail_56 rfl ?_
      refine V_cVI (ctX12_markOf hn hf) gc_X12_300 rfl h8.1 ⟨_, h8.2, by decide, rfl⟩ ⟨by decide, by decide, Nat.zero_le _, Nat.zero_le _⟩ (Nat.le_of_ble_eq_true rfl) dX12_trail_58 rfl hn (fun r15 z16 hf => ?_)
      refine V_istore (ls2 := [(5, .int r15), (0, .ref a0), (1, .int x1), (2, .int x2), (3, .int x3), (4, .int x4)]) dX12_trail_61 (by decide) rfl ?_
      refine V_iload_n (j := 3) dX12_trail_63 rfl rfl ?_
      refine V_aload_n (j := 1) dX12_trail_64 rfl rfl ?_
      refine V_iconst (v := (0 : Int32)) dX12_trail_65 (by decide) ?_
      refine V_iload_n (j := 4) dX12_trail_66 rfl rfl ?_
      refine V_iload (j := 0) dX12_trail_67 rfl ?_
      refine V_cVI (ctX12_shownOf hn hf) gc_X12_327 rfl h8.1 ⟨_, h8.2, by decide, rfl⟩ ⟨by decide, by decide, Nat.zero_le _, Nat.zero_le _⟩ (Nat.le_of_ble_eq_true rfl) dX12_trail_69 rfl hn (fun r17 z18 hf => ?_)
      refine V_iload_n (j := 2) dX12_trail_72 rfl rfl ?_
      refine V_icmp_ne (tgt := 86) dX12_trail_73 (by decide) (fun h23 => ?_) (fun h23 => ?_)
      · have hf := it_f h23 hf
        refine V_iconst (v := (0 : Int32)) dX12_trail_86 (by decide) ?_
        refine V_to [1, 2, 4, 5] rfl ?_
        exact vX12_trail_J87 hn hk19 hk30 hf
      · have hf := it_t (Classical.not_not.mp h23) hf
        refine V_iconst (v := (1 : Int32)) dX12_trail_76 (by decide) ?_
        refine V_iload (j := 0) dX12_trail_77 rfl ?_
        refine V_cSI (ctX12_cellOf hn hf) gc_X12_340 rfl ⟨by decide, by decide, Nat.zero_le _, Nat.zero_le _⟩ (Nat.le_of_ble_eq_true rfl) dX12_trail_79 rfl hn (fun r21 z22 hf => ?_)
        refine V_ishl dX12_trail_82 ?_
        refine V_goto (tgt := 87) dX12_trail_83 (by decide) ?_
        refine V_to [1, 2, 4, 5] rfl ?_
        exact vX12_trail_J87 hn hk19 hk30 hf
set_option maxRecDepth 100000 in
set_option maxHeartbeats 4000000 in
theorem vX12_trail_L30 {E : gE} {n : Nat} {sh : Nat → Nat × Nat} {P : Int32 → gS → Prop} {k19 : Nat → Int32 → Int32 → Int32 → gS → Prop} (hn : gOK E n) (hk19 : ∀ (a0 : Nat) (x1 : Int32) (x2 : Int32) (x3 : Int32) (z : gS), k19 a0 x1 x2 x3 z → V E (gR 2 0) gyX12_trail 0 0 19 [(0, .ref a0), (1, .int x1), (2, .int x2), (3, .int x3)] [] n sh z (kI n sh P)) : ∀ (N : Nat) (a0 : Nat) (x1 : Int32) (x2 : Int32) (x3 : Int32) (x4 : Int32) (z : gS), wX12_trail_L30 n sh k19 P N a0 x1 x2 x3 x4 z → V E (gR 2 0) gyX12_trail 0 0 30 [(0, .ref a0), (1, .int x1), (2, .int x2), (3, .int x3), (4, .int x4)] [] n sh z (kI n sh P) := by
  intro N
  induction N with
  | zero => intro a0 x1 x2 x3 x4 z hf; exact False.elim hf
  | succ N ih => intro a0 x1 x2 x3 x4 z hf; exact vX12_trail_B30 hn hk19 ih hf
def wX12_trail_B19 (n : Nat) (sh : Nat → Nat × Nat) (k19 : Nat → Int32 → Int32 → Int32 → gS → Prop) (P : Int32 → gS → Prop) (a0 : Nat) (x1 : Int32) (x2 : Int32) (x3 : Int32) (z : gS) : Prop := (oO n sh a0 8) ∧ (wX12_panes n sh a0 z (fun (r5 : Int32) (z6 : gS) => if r5 ≤ x3 then P x2 z6 else ((∃ N, wX12_trail_L30 n sh k19 P N a0 x1 x2 x3 (0 : Int32) z6))))
def wX12_trail_L19 (n : Nat) (sh : Nat → Nat × Nat) (P : Int32 → gS → Prop) : Nat → Nat → Int32 → Int32 → Int32 → gS → Prop
  | 0, _, _, _, _, _ => False
  | N + 1, a0, x1, x2, x3, z => wX12_trail_B19 n sh (wX12_trail_L19 n sh P N) P a0 x1 x2 x3 z
set_option maxRecDepth 100000 in
set_option maxHeartbeats 4000000 in
theorem vX12_trail_B19 {E : gE} {n : Nat} {sh : Nat → Nat × Nat} {P : Int32 → gS → Prop} {k19 : Nat → Int32 → Int32 → Int32 → gS → Prop} {a0 : Nat} {x1 : Int32} {x2 : Int32} {x3 : Int32} {z : gS} (hn : gOK E n) (hk19 : ∀ (a0 : Nat) (x1 : Int32) (x2 : Int32) (x3 : Int32) (z : gS), k19 a0 x1 x2 x3 z → V E (gR 2 0) gyX12_trail 0 0 19 [(0, .ref a0), (1, .int x1), (2, .int x2), (3, .int x3)] [] n sh z (kI n sh P)) (hf : wX12_trail_B19 n sh k19 P a0 x1 x2 x3 z) : V E (gR 2 0) gyX12_trail 0 0 19 [(0, .ref a0), (1, .int x1), (2, .int x2), (3, .int x3)] [] n sh z (kI n sh P) := by
  unfold wX12_trail_B19 at hf
  refine V_iload_n (j := 3) dX12_trail_19 rfl rfl ?_
  refine V_aload_n (j := 0) dX12_trail_20 rfl rfl ?_
  obtain ⟨h7, hf⟩ := hf
  refine V_cVI (ctX12_panes hn hf) gc_X12_278 rfl h7.1 ⟨_, h7.2, by decide, rfl⟩ ⟨by decide, by decide, Nat.zero_le _, Nat.zero_le _⟩ (Nat.le_of_ble_eq_true rfl) dX12_trail_21 rfl hn (fun r5 z6 hf => ?_)
  refine V_icmp_ge (tgt := 101) dX12_trail_24 (by decide) (fun h26 => ?_) (fun h26 => ?_)
  · have hf := it_t h26 hf
    refine V_iload_n (j := 2) dX12_trail_101 rfl rfl ?_
    exact V_ireturn dX12_trail_102 rfl rfl (Nat.le_refl 0) (kI_of hf)
  · have hf := it_f h26 hf
    refine V_iconst (v := (0 : Int32)) dX12_trail_27 (by decide) ?_
    refine V_istore (ls2 := [(4, .int (0 : Int32)), (0, .ref a0), (1, .int x1), (2, .int x2), (3, .int x3)]) dX12_trail_28 (by decide) rfl ?_
    obtain ⟨N, hf⟩ := hf
    refine V_to [1, 2, 3, 4, 0] rfl ?_
    exact vX12_trail_L30 hn hk19 N _ _ _ _ _ _ hf
set_option maxRecDepth 100000 in
set_option maxHeartbeats 4000000 in
theorem vX12_trail_L19 {E : gE} {n : Nat} {sh : Nat → Nat × Nat} {P : Int32 → gS → Prop} (hn : gOK E n) : ∀ (N : Nat) (a0 : Nat) (x1 : Int32) (x2 : Int32) (x3 : Int32) (z : gS), wX12_trail_L19 n sh P N a0 x1 x2 x3 z → V E (gR 2 0) gyX12_trail 0 0 19 [(0, .ref a0), (1, .int x1), (2, .int x2), (3, .int x3)] [] n sh z (kI n sh P) := by
  intro N
  induction N with
  | zero => intro a0 x1 x2 x3 z hf; exact False.elim hf
  | succ N ih => intro a0 x1 x2 x3 z hf; exact vX12_trail_B19 hn ih hf
def wX12_trail (n : Nat) (sh : Nat → Nat × Nat) (a0 : Nat) (x1 : Int32) (z : gS) (P : Int32 → gS → Prop) : Prop := (oO n sh a0 8) ∧ (∀ z2 : gS, z2 = si z a0 0 (0 : Int32) → (wX12_isPerson n sh a0 x1 z2 (fun (r3 : Int32) (z4 : gS) => if r3 = 0 then P (-1 : Int32) z4 else ((∃ N, wX12_trail_L19 n sh P N a0 x1 (0 : Int32) (0 : Int32) z4)))))
set_option maxRecDepth 100000 in
set_option maxHeartbeats 4000000 in
theorem ctX12_trail {E : gE} {n : Nat} {sh : Nat → Nat × Nat} {a0 : Nat} {x1 : Int32} {z : gS} {P : Int32 → gS → Prop} (hn : gOK E n) (hf : wX12_trail n sh a0 x1 z P) : VM E 2 0 gyX12_trail [.ref a0, .int x1] n sh z (kI n sh P) := by
  unfold wX12_trail at hf
  refine VM.of (by decide +kernel) (Nat.le_of_ble_eq_true rfl) (fun _ _ _ h => h.2.2) ?_
  show V E (gR 2 0) gyX12_trail 0 0 0 [(0, .ref a0), (1, .int x1)] [] n sh z (kI n sh P)
  refine V_aload_n (j := 0) dX12_trail_0 rfl rfl ?_
  refine V_iconst (v := (0 : Int32)) dX12_trail_1 (by decide) ?_
  obtain ⟨h1, hf⟩ := hf
  refine V_putI fl_X12_1 rfl rfl rfl rfl h1.1 h1.2 dX12_trail_2 ?_
  refine V_nz (fun z2 ez2 => ?_)
  have hf := hf z2 ez2
  refine V_aload_n (j := 0) dX12_trail_5 rfl rfl ?_
  refine V_iload_n (j := 1) dX12_trail_6 rfl rfl ?_
  refine V_cVI (ctX12_isPerson hn hf) gc_X12_343 rfl h1.1 ⟨_, h1.2, by decide, rfl⟩ ⟨by decide, by decide, Nat.zero_le _, Nat.zero_le _⟩ (Nat.le_of_ble_eq_true rfl) dX12_trail_7 rfl hn (fun r3 z4 hf => ?_)
  refine V_if_ne (tgt := 15) dX12_trail_10 (by decide) (fun h27 => ?_) (fun h27 => ?_)
  · have hf := it_f h27 hf
    refine V_iconst (v := (0 : Int32)) dX12_trail_15 (by decide) ?_
    refine V_istore_n (ls2 := [(2, .int (0 : Int32)), (0, .ref a0), (1, .int x1)]) dX12_trail_16 rfl (by decide) rfl ?_
    refine V_iconst (v := (0 : Int32)) dX12_trail_17 (by decide) ?_
    refine V_istore_n (ls2 := [(3, .int (0 : Int32)), (2, .int (0 : Int32)), (0, .ref a0), (1, .int x1)]) dX12_trail_18 rfl (by decide) rfl ?_
    obtain ⟨N, hf⟩ := hf
    refine V_to [2, 3, 1, 0] rfl ?_
    exact vX12_trail_L19 hn N _ _ _ _ _ hf
  · have hf := it_t (Classical.not_not.mp h27) hf
    refine V_iconst (v := (-1 : Int32)) dX12_trail_13 (by decide) ?_
    exact V_ireturn dX12_trail_14 rfl rfl (Nat.le_refl 0) (kI_of hf)
def wX12_last_J138 (n : Nat) (sh : Nat → Nat × Nat) (k12 : Nat → Int32 → Int32 → Int32 → Int32 → gS → Prop) (P : Int32 → gS → Prop) (a0 : Nat) (x1 : Int32) (x2 : Int32) (x3 : Int32) (x4 : Int32) (z : gS) : Prop := ∀ v12 : Int32, v12 = x4 + (1 : Int32) → k12 a0 x1 x2 x3 v12 z
set_option maxRecDepth 100000 in
set_option maxHeartbeats 4000000 in
theorem vX12_last_J138 {E : gE} {n : Nat} {sh : Nat → Nat × Nat} {P : Int32 → gS → Prop} {k12 : Nat → Int32 → Int32 → Int32 → Int32 → gS → Prop} {a0 : Nat} {x1 : Int32} {x2 : Int32} {x3 : Int32} {x4 : Int32} {z : gS} (hn : gOK E n) (hk12 : ∀ (a0 : Nat) (x1 : Int32) (x2 : Int32) (x3 : Int32) (x4 : Int32) (z : gS), k12 a0 x1 x2 x3 x4 z → V E (gR 2 0) gyX12_last 0 0 12 [(0, .ref a0), (1, .int x1), (2, .int x2), (3, .int x3), (4, .int x4)] [] n sh z (kI n sh P)) (hf : wX12_last_J138 n sh k12 P a0 x1 x2 x3 x4 z) : V E (gR 2 0) gyX12_last 0 0 138 [(0, .ref a0), (1, .int x1), (2, .int x2), (3, .int x3), (4, .int x4)] [] n sh z (kI n sh P) := by
  unfold wX12_last_J138 at hf
  obtain ⟨v12, ev12⟩ : ∃ y : Int32, y = x4 + (1 : Int32) := ⟨_, rfl⟩
  refine V_iinc (j := 4) (v := v12) (ls2 := [(4, .int v12), (0, .ref a0), (1, .int x1), (2, .int x2), (3, .int x3)]) dX12_last_138 rfl (by rw [ev12]; rfl) (by decide) rfl ?_
  have hf := hf v12 ev12
  refine V_goto (tgt := 12) dX12_last_141 (by decide) ?_
  refine V_to [1, 2, 3, 4, 0] rfl ?_
  exact hk12 _ _ _ _ _ _ hf
def wX12_last_J131 (n : Nat) (sh : Nat → Nat × Nat) (k12 : Nat → Int32 → Int32 → Int32 → Int32 → gS → Prop) (k43 : Nat → Int32 → Int32 → Int32 → Int32 → Int32 → gS → Prop) (P : Int32 → gS → Prop) (a0 : Nat) (x1 : Int32) (x2 : Int32) (x4 : Int32) (x5 : Int32) (s0 : Int32) (z : gS) : Prop := ∀ v20 : Int32, v20 = x5 + (-1 : Int32) → k43 a0 x1 x2 s0 x4 v20 z
set_option maxRecDepth 100000 in
set_option maxHeartbeats 4000000 in
theorem vX12_last_J131 {E : gE} {n : Nat} {sh : Nat → Nat × Nat} {P : Int32 → gS → Prop} {k12 : Nat → Int32 → Int32 → Int32 → Int32 → gS → Prop} {k43 : Nat → Int32 → Int32 → Int32 → Int32 → Int32 → gS → Prop} {a0 : Nat} {x1 : Int32} {x2 : Int32} {x4 : Int32} {x5 : Int32} {s0 : Int32} {z : gS} (hn : gOK E n) (hk12 : ∀ (a0 : Nat) (x1 : Int32) (x2 : Int32) (x3 : Int32) (x4 : Int32) (z : gS), k12 a0 x1 x2 x3 x4 z → V E (gR 2 0) gyX12_last 0 0 12 [(0, .ref a0), (1, .int x1), (2, .int x2), (3, .int x3), (4, .int x4)] [] n sh z (kI n sh P)) (hk43 : ∀ (a0 : Nat) (x1 : Int32) (x2 : Int32) (x3 : Int32) (x4 : Int32) (x5 : Int32) (z : gS), k43 a0 x1 x2 x3 x4 x5 z → V E (gR 2 0) gyX12_last 0 0 43 [(0, .ref a0), (1, .int x1), (2, .int x2), (3, .int x3), (4, .int x4), (5, .int x5)] [] n sh z (kI n sh P)) (hf : wX12_last_J131 n sh k12 k43 P a0 x1 x2 x4 x5 s0 z) : V E (gR 2 0) gyX12_last 0 0 131 [(0, .ref a0), (1, .int x1), (2, .int x2), (4, .int x4), (5, .int x5)] [.int s0] n sh z (kI n sh P) := by
  unfold wX12_last_J131 at hf
  refine V_istore_n (ls2 := [(3, .int s0), (0, .ref a0), (1, .int x1), (2, .int x2), (4, .int x4), (5, .int x5)]) dX12_last_131 rfl (by decide) rfl ?_
  obtain ⟨v20, ev20⟩ : ∃ y : Int32, y = x5 + (-1 : Int32) := ⟨_, rfl⟩
  refine V_iinc (j := 5) (v := v20) (ls2 := [(5, .int v20), (3, .int s0), (0, .ref a0), (1, .int x1), (2, .int x2), (4, .int x4)]) dX12_last_132 rfl (by rw [ev20]; rfl) (by decide) rfl ?_
  have hf := hf v20 ev20
  refine V_goto (tgt := 43) dX12_last_135 (by decide) ?_
  refine V_to [2, 3, 4, 1, 5, 0] rfl ?_
  exact hk43 _ _ _ _ _ _ _ hf
def wX12_last_J116 (n : Nat) (sh : Nat → Nat × Nat) (k12 : Nat → Int32 → Int32 → Int32 → Int32 → gS → Prop) (k43 : Nat → Int32 → Int32 → Int32 → Int32 → Int32 → gS → Prop) (P : Int32 → gS → Prop) (a0 : Nat) (x1 : Int32) (x3 : Int32) (x4 : Int32) (x5 : Int32) (x6 : Int32) (x7 : Int32) (s0 : Int32) (z : gS) : Prop := if x7 = 0 then wX12_last_J131 n sh k12 k43 P a0 x1 s0 x4 x5 x3 z else (wX12_ageOf n sh x6 z (fun (r21 : Int32) (z22 : gS) => wX12_last_J131 n sh k12 k43 P a0 x1 s0 x4 x5 r21 z22))
set_option maxRecDepth 100000 in
set_option maxHeartbeats 4000000 in
theorem vX12_last_J116 {E : gE} {n : Nat} {sh : Nat → Nat × Nat} {P : Int32 → gS → Prop} {k12 : Nat → Int32 → Int32 → Int32 → Int32 → gS → Prop} {k43 : Nat → Int32 → Int32 → Int32 → Int32 → Int32 → gS → Prop} {a0 : Nat} {x1 : Int32} {x3 : Int32} {x4 : Int32} {x5 : Int32} {x6 : Int32} {x7 : Int32} {s0 : Int32} {z : gS} (hn : gOK E n) (hk12 : ∀ (a0 : Nat) (x1 : Int32) (x2 : Int32) (x3 : Int32) (x4 : Int32) (z : gS), k12 a0 x1 x2 x3 x4 z → V E (gR 2 0) gyX12_last 0 0 12 [(0, .ref a0), (1, .int x1), (2, .int x2), (3, .int x3), (4, .int x4)] [] n sh z (kI n sh P)) (hk43 : ∀ (a0 : Nat) (x1 : Int32) (x2 : Int32) (x3 : Int32) (x4 : Int32) (x5 : Int32) (z : gS), k43 a0 x1 x2 x3 x4 x5 z → V E (gR 2 0) gyX12_last 0 0 43 [(0, .ref a0), (1, .int x1), (2, .int x2), (3, .int x3), (4, .int x4), (5, .int x5)] [] n sh z (kI n sh P)) (hf : wX12_last_J116 n sh k12 k43 P a0 x1 x3 x4 x5 x6 x7 s0 z) : V E (gR 2 0) gyX12_last 0 0 116 [(0, .ref a0), (1, .int x1), (3, .int x3), (4, .int x4), (5, .int x5), (6, .int x6), (7, .int x7)] [.int s0] n sh z (kI n sh P) := by
  unfold wX12_last_J116 at hf
  refine V_istore_n (ls2 := [(2, .int s0), (0, .ref a0), (1, .int x1), (3, .int x3), (4, .int x4), (5, .int x5), (6, .int x6), (7, .int x7)]) dX12_last_116 rfl (by decide) rfl ?_
  refine V_iload (j := 7) dX12_last_117 rfl ?_
  refine V_if_eq (tgt := 130) dX12_last_119 (by decide) (fun h23 => ?_) (fun h23 => ?_)
  · have hf := it_t h23 hf
    refine V_iload_n (j := 3) dX12_last_130 rfl rfl ?_
    refine V_to [1, 2, 0, 4, 5] rfl ?_
    exact vX12_last_J131 hn hk12 hk43 hf
  · have hf := it_f h23 hf
    refine V_iload (j := 6) dX12_last_122 rfl ?_
    refine V_cSI (ctX12_ageOf hn hf) gc_X12_309 rfl ⟨by decide, by decide, Nat.zero_le _, Nat.zero_le _⟩ (Nat.le_of_ble_eq_true rfl) dX12_last_124 rfl hn (fun r21 z22 hf => ?_)
    refine V_goto (tgt := 131) dX12_last_127 (by decide) ?_
    refine V_to [1, 2, 0, 4, 5] rfl ?_
    exact vX12_last_J131 hn hk12 hk43 hf
def wX12_last_J100 (n : Nat) (sh : Nat → Nat × Nat) (k12 : Nat → Int32 → Int32 → Int32 → Int32 → gS → Prop) (k43 : Nat → Int32 → Int32 → Int32 → Int32 → Int32 → gS → Prop) (P : Int32 → gS → Prop) (a0 : Nat) (x1 : Int32) (x2 : Int32) (x3 : Int32) (x4 : Int32) (x5 : Int32) (x6 : Int32) (s0 : Int32) (z : gS) : Prop := if s0 = 0 then wX12_last_J116 n sh k12 k43 P a0 x1 x3 x4 x5 x6 s0 x2 z else (wX12_cellOf n sh x6 z (fun (r24 : Int32) (z25 : gS) => wX12_last_J116 n sh k12 k43 P a0 x1 x3 x4 x5 x6 s0 r24 z25))
set_option maxRecDepth 100000 in
set_option maxHeartbeats 4000000 in
theorem vX12_last_J100 {E : gE} {n : Nat} {sh : Nat → Nat × Nat} {P : Int32 → gS → Prop} {k12 : Nat → Int32 → Int32 → Int32 → Int32 → gS → Prop} {k43 : Nat → Int32 → Int32 → Int32 → Int32 → Int32 → gS → Prop} {a0 : Nat} {x1 : Int32} {x2 : Int32} {x3 : Int32} {x4 : Int32} {x5 : Int32} {x6 : Int32} {s0 : Int32} {z : gS} (hn : gOK E n) (hk12 : ∀ (a0 : Nat) (x1 : Int32) (x2 : Int32) (x3 : Int32) (x4 : Int32) (z : gS), k12 a0 x1 x2 x3 x4 z → V E (gR 2 0) gyX12_last 0 0 12 [(0, .ref a0), (1, .int x1), (2, .int x2), (3, .int x3), (4, .int x4)] [] n sh z (kI n sh P)) (hk43 : ∀ (a0 : Nat) (x1 : Int32) (x2 : Int32) (x3 : Int32) (x4 : Int32) (x5 : Int32) (z : gS), k43 a0 x1 x2 x3 x4 x5 z → V E (gR 2 0) gyX12_last 0 0 43 [(0, .ref a0), (1, .int x1), (2, .int x2), (3, .int x3), (4, .int x4), (5, .int x5)] [] n sh z (kI n sh P)) (hf : wX12_last_J100 n sh k12 k43 P a0 x1 x2 x3 x4 x5 x6 s0 z) : V E (gR 2 0) gyX12_last 0 0 100 [(0, .ref a0), (1, .int x1), (2, .int x2), (3, .int x3), (4, .int x4), (5, .int x5), (6, .int x6)] [.int s0] n sh z (kI n sh P) := by
  unfold wX12_last_J100 at hf
  refine V_istore (ls2 := [(7, .int s0), (0, .ref a0), (1, .int x1), (2, .int x2), (3, .int x3), (4, .int x4), (5, .int x5), (6, .int x6)]) dX12_last_100 (by decide) rfl ?_
  refine V_iload (j := 0) dX12_last_102 rfl ?_
  refine V_if_eq (tgt := 115) dX12_last_104 (by decide) (fun h26 => ?_) (fun h26 => ?_)
  · have hf := it_t h26 hf
    refine V_iload_n (j := 3) dX12_last_115 rfl rfl ?_
    refine V_to [1, 2, 4, 5, 6, 7, 0] rfl ?_
    exact vX12_last_J116 hn hk12 hk43 hf
  · have hf := it_f h26 hf
    refine V_iload (j := 7) dX12_last_107 rfl ?_
    refine V_cSI (ctX12_cellOf hn hf) gc_X12_340 rfl ⟨by decide, by decide, Nat.zero_le _, Nat.zero_le _⟩ (Nat.le_of_ble_eq_true rfl) dX12_last_109 rfl hn (fun r24 z25 hf => ?_)
    refine V_goto (tgt := 116) dX12_last_112 (by decide) ?_
    refine V_to [1, 2, 4, 5, 6, 7, 0] rfl ?_
    exact vX12_last_J116 hn hk12 hk43 hf
def wX12_last_J99 (n : Nat) (sh : Nat → Nat × Nat) (k12 : Nat → Int32 → Int32 → Int32 → Int32 → gS → Prop) (k43 : Nat → Int32 → Int32 → Int32 → Int32 → Int32 → gS → Prop) (P : Int32 → gS → Prop) (a0 : Nat) (x1 : Int32) (x2 : Int32) (x3 : Int32) (x4 : Int32) (x5 : Int32) (x6 : Int32) (z : gS) : Prop := wX12_last_J100 n sh k12 k43 P a0 x1 x2 x3 x4 x5 x6 (0 : Int32) z
set_option maxRecDepth 100000 in
set_option maxHeartbeats 4000000 in
theorem vX12_last_J99 {E : gE} {n : Nat} {sh : Nat → Nat × Nat} {P : Int32 → gS → Prop} {k12 : Nat → Int32 → Int32 → Int32 → Int32 → gS → Prop} {k43 : Nat → Int32 → Int32 → Int32 → Int32 → Int32 → gS → Prop} {a0 : Nat} {x1 : Int32} {x2 : Int32} {x3 : Int32} {x4 : Int32} {x5 : Int32} {x6 : Int32} {z : gS} (hn : gOK E n) (hk12 : ∀ (a0 : Nat) (x1 : Int32) (x2 : Int32) (x3 : Int32) (x4 : Int32) (z : gS), k12 a0 x1 x2 x3 x4 z → V E (gR 2 0) gyX12_last 0 0 12 [(0, .ref a0), (1, .int x1), (2, .int x2), (3, .int x3), (4, .int x4)] [] n sh z (kI n sh P)) (hk43 : ∀ (a0 : Nat) (x1 : Int32) (x2 : Int32) (x3 : Int32) (x4 : Int32) (x5 : Int32) (z : gS), k43 a0 x1 x2 x3 x4 x5 z → V E (gR 2 0) gyX12_last 0 0 43 [(0, .ref a0), (1, .int x1), (2, .int x2), (3, .int x3), (4, .int x4), (5, .int x5)] [] n sh z (kI n sh P)) (hf : wX12_last_J99 n sh k12 k43 P a0 x1 x2 x3 x4 x5 x6 z) : V E (gR 2 0) gyX12_last 0 0 99 [(0, .ref a0), (1, .int x1), (2, .int x2), (3, .int x3), (4, .int x4), (5, .int x5), (6, .int x6)] [] n sh z (kI n sh P) := by
  unfold wX12_last_J99 at hf
  refine V_iconst (v := (0 : Int32)) dX12_last_99 (by decide) ?_
  exact vX12_last_J100 hn hk12 hk43 hf
def wX12_last_J95 (n : Nat) (sh : Nat → Nat × Nat) (k12 : Nat → Int32 → Int32 → Int32 → Int32 → gS → Prop) (k43 : Nat → Int32 → Int32 → Int32 → Int32 → Int32 → gS → Prop) (P : Int32 → gS → Prop) (a0 : Nat) (x1 : Int32) (x2 : Int32) (x3 : Int32) (x4 : Int32) (x5 : Int32) (x6 : Int32) (z : gS) : Prop := wX12_last_J100 n sh k12 k43 P a0 x1 x2 x3 x4 x5 x6 (1 : Int32) z
set_option maxRecDepth 100000 in
set_option maxHeartbeats 4000000 in
theorem vX12_last_J95 {E : gE} {n : Nat} {sh : Nat → Nat × Nat} {P : Int32 → gS → Prop} {k12 : Nat → Int32 → Int32 → Int32 → Int32 → gS → Prop} {k43 : Nat → Int32 → Int32 → Int32 → Int32 → Int32 → gS → Prop} {a0 : Nat} {x1 : Int32} {x2 : Int32} {x3 : Int32} {x4 : Int32} {x5 : Int32} {x6 : Int32} {z : gS} (hn : gOK E n) (hk12 : ∀ (a0 : Nat) (x1 : Int32) (x2 : Int32) (x3 : Int32) (x4 : Int32) (z : gS), k12 a0 x1 x2 x3 x4 z → V E (gR 2 0) gyX12_last 0 0 12 [(0, .ref a0), (1, .int x1), (2, .int x2), (3, .int x3), (4, .int x4)] [] n sh z (kI n sh P)) (hk43 : ∀ (a0 : Nat) (x1 : Int32) (x2 : Int32) (x3 : Int32) (x4 : Int32) (x5 : Int32) (z : gS), k43 a0 x1 x2 x3 x4 x5 z → V E (gR 2 0) gyX12_last 0 0 43 [(0, .ref a0), (1, .int x1), (2, .int x2), (3, .int x3), (4, .int x4), (5, .int x5)] [] n sh z (kI n sh P)) (hf : wX12_last_J95 n sh k12 k43 P a0 x1 x2 x3 x4 x5 x6 z) : V E (gR 2 0) gyX12_last 0 0 95 [(0, .ref a0), (1, .int x1), (2, .int x2), (3, .int x3), (4, .int x4), (5, .int x5), (6, .int x6)] [] n sh z (kI n sh P) := by
  unfold wX12_last_J95 at hf
  refine V_iconst (v := (1 : Int32)) dX12_last_95 (by decide) ?_
  refine V_goto (tgt := 100) dX12_last_96 (by decide) ?_
  exact vX12_last_J100 hn hk12 hk43 hf
def wX12_last_B43 (n : Nat) (sh : Nat → Nat × Nat) (k12 : Nat → Int32 → Int32 → Int32 → Int32 → gS → Prop) (k43 : Nat → Int32 → Int32 → Int32 → Int32 → Int32 → gS → Prop) (P : Int32 → gS → Prop) (a0 : Nat) (x1 : Int32) (x2 : Int32) (x3 : Int32) (x4 : Int32) (x5 : Int32) (z : gS) : Prop := if x5 < 0 then wX12_last_J138 n sh k12 P a0 x1 x2 x3 x4 z else ((oO n sh a0 8) ∧ (wX12_isShown n sh a0 (0 : Int32) x4 z (fun (r13 : Int32) (z14 : gS) => if r13 = 0 then wX12_last_J138 n sh k12 P a0 x1 x2 x3 x4 z14 else (wX12_markOf n sh a0 (0 : Int32) x4 x5 z14 (fun (r16 : Int32) (z17 : gS) => wX12_shownOf n sh a0 (0 : Int32) x4 r16 z17 (fun (r18 : Int32) (z19 : gS) => if r18 = x1 then (if x2 < 0 then wX12_last_J95 n sh k12 k43 P a0 x1 x2 x3 x4 x5 r16 z19 else (wX12_ageOf n sh r16 z19 (fun (r27 : Int32) (z28 : gS) => if x3 ≤ r27 then wX12_last_J99 n sh k12 k43 P a0 x1 x2 x3 x4 x5 r16 z28 else wX12_last_J95 n sh k12 k43 P a0 x1 x2 x3 x4 x5 r16 z28))) else wX12_last_J99 n sh k12 k43 P a0 x1 x2 x3 x4 x5 r16 z19))))))
def wX12_last_L43 (n : Nat) (sh : Nat → Nat × Nat) (k12 : Nat → Int32 → Int32 → Int32 → Int32 → gS → Prop) (P : Int32 → gS → Prop) : Nat → Nat → Int32 → Int32 → Int32 → Int32 → Int32 → gS → Prop
  | 0, _, _, _, _, _, _, _ => False
  | N + 1, a0, x1, x2, x3, x4, x5, z => wX12_last_B43 n sh k12 (wX12_last_L43 n sh k12 P N) P a0 x1 x2 x3 x4 x5 z
set_option maxRecDepth 100000 in
set_option maxHeartbeats 4000000 in
theorem vX12_last_B43 {E : gE} {n : Nat} {sh : Nat → Nat × Nat} {P : Int32 → gS → Prop} {k12 : Nat → Int32 → Int32 → Int32 → Int32 → gS → Prop} {k43 : Nat → Int32 → Int32 → Int32 → Int32 → Int32 → gS → Prop} {a0 : Nat} {x1 : Int32} {x2 : Int32} {x3 : Int32} {x4 : Int32} {x5 : Int32} {z : gS} (hn : gOK E n) (hk12 : ∀ (a0 : Nat) (x1 : Int32) (x2 : Int32) (x3 : Int32) (x4 : Int32) (z : gS), k12 a0 x1 x2 x3 x4 z → V E (gR 2 0) gyX12_last 0 0 12 [(0, .ref a0), (1, .int x1), (2, .int x2), (3, .int x3), (4, .int x4)] [] n sh z (kI n sh P)) (hk43 : ∀ (a0 : Nat) (x1 : Int32) (x2 : Int32) (x3 : Int32) (x4 : Int32) (x5 : Int32) (z : gS), k43 a0 x1 x2 x3 x4 x5 z → V E (gR 2 0) gyX12_last 0 0 43 [(0, .ref a0), (1, .int x1), (2, .int x2), (3, .int x3), (4, .int x4), (5, .int x5)] [] n sh z (kI n sh P)) (hf : wX12_last_B43 n sh k12 k43 P a0 x1 x2 x3 x4 x5 z) : V E (gR 2 0) gyX12_last 0 0 43 [(0, .ref a0), (1, .int x1), (2, .int x2), (3, .int x3), (4, .int x4), (5, .int x5)] [] n sh z (kI n sh P) := by
  unfold wX12_last_B43 at hf
  refine V_iload (j := 5) dX12_last_43 rfl ?_
  refine V_if_lt (tgt := 138) dX12_last_45 (by decide) (fun h33 => ?_) (fun h33 => ?_)
  · have hf := it_t h33 hf
    refine V_to [0, 1, 2, 3, 4] rfl ?_
    exact vX12_last_J138 hn hk12 hf
  · have hf := it_f h33 hf
    refine V_aload_n (j := 0) dX12_last_48 rfl rfl ?_
    refine V_iconst (v := (0 : Int32)) dX12_last_49 (by decide) ?_
    refine V_iload (j := 4) dX12_last_50 rfl ?_
    obtain ⟨h15, hf⟩ := hf
    refine V_cVI (ctX12_isShown hn hf) gc_X12_324 rfl h15.1 ⟨_, h15.2, by decide, rfl⟩ ⟨by decide, by decide, Nat.zero_le _, Nat.zero_le _⟩ (Nat.le_of_ble_eq_true rfl) dX12_last_52 rfl hn (fun r13 z14 hf => ?_)
    refine V_if_eq (tgt := 138) dX12_last_55 (by decide) (fun h32 => ?_) (fun h32 => ?_)
    · have hf := it_t h32 hf
      refine V_to [0, 1, 2, 3, 4] rfl ?_
      exact vX12_last_J138 hn hk12 hf
    · have hf := it_f h32 hf
      refine V_aload_n (j := 0) dX12_last_58 rfl rfl ?_
      refine V_iconst (v := (0 : Int32)) dX12_last_59 (by decide) ?_
      refine V_iload (j := 4) dX12_last_60 rfl ?_
      refine V_iload (j := 5) dX12_last_62 rfl ?_
      refine V_cVI (ctX12_markOf hn hf) gc_X12_300 rfl h15.1 ⟨_, h15.2, by decide, rfl⟩ ⟨by decide, by decide, Nat.zero_le _, Nat.zero_le _⟩ (Nat.le_of_ble_eq_true rfl) dX12_last_64 rfl hn (fun r16 z17 hf => ?_)
      refine V_istore (ls2 := [(6, .int r16), (0, .ref a0), (1, .int x1), (2, .int x2), (3, .int x3), (4, .int x4), (5, .int x5)]) dX12_last_67 (by decide) rfl ?_
      refine V_aload_n (j := 1) dX12_last_69 rfl rfl ?_
      refine V_iconst (v := (0 : Int32)) dX12_last_70 (by decide) ?_
      refine V_iload (j := 5) dX12_last_71 rfl ?_
      refine V_iload (j := 0) dX12_last_73 rfl ?_
      refine V_cVI (ctX12_shownOf hn hf) gc_X12_327 rfl h15.1 ⟨_, h15.2, by decide, rfl⟩ ⟨by decide, by decide, Nat.zero_le _, Nat.zero_le _⟩ (Nat.le_of_ble_eq_true rfl) dX12_last_75 rfl hn (fun r18 z19 hf => ?_)
      refine V_iload_n (j := 2) dX12_last_78 rfl rfl ?_
      refine V_icmp_ne (tgt := 99) dX12_last_79 (by decide) (fun h31 => ?_) (fun h31 => ?_)
      · have hf := it_f h31 hf
        refine V_to [1, 2, 3, 4, 5, 6, 0] rfl ?_
        exact vX12_last_J99 hn hk12 hk43 hf
      · have hf := it_t (Classical.not_not.mp h31) hf
        refine V_iload_n (j := 3) dX12_last_82 rfl rfl ?_
        refine V_if_lt (tgt := 95) dX12_last_83 (by decide) (fun h30 => ?_) (fun h30 => ?_)
        · have hf := it_t h30 hf
          refine V_to [1, 2, 3, 4, 5, 6, 0] rfl ?_
          exact vX12_last_J95 hn hk12 hk43 hf
        · have hf := it_f h30 hf
          refine V_iload (j := 0) dX12_last_86 rfl ?_
          refine V_cSI (ctX12_ageOf hn hf) gc_X12_309 rfl ⟨by decide, by decide, Nat.zero_le _, Nat.zero_le _⟩ (Nat.le_of_ble_eq_true rfl) dX12_last_88 rfl hn (fun r27 z28 hf => ?_)
          refine V_iload_n (j := 4) dX12_last_91 rfl rfl ?_
          refine V_icmp_ge (tgt := 99) dX12_last_92 (by decide) (fun h29 => ?_) (fun h29 => ?_)
          · have hf := it_t h29 hf
            refine V_to [1, 2, 3, 4, 5, 6, 0] rfl ?_
            exact vX12_last_J99 hn hk12 hk43 hf
          · have hf := it_f h29 hf
            refine V_to [1, 2, 3, 4, 5, 6, 0] rfl ?_
            exact vX12_last_J95 hn hk12 hk43 hf
set_option maxRecDepth 100000 in
set_option maxHeartbeats 4000000 in
theorem vX12_last_L43 {E : gE} {n : Nat} {sh : Nat → Nat × Nat} {P : Int32 → gS → Prop} {k12 : Nat → Int32 → Int32 → Int32 → Int32 → gS → Prop} (hn : gOK E n) (hk12 : ∀ (a0 : Nat) (x1 : Int32) (x2 : Int32) (x3 : Int32) (x4 : Int32) (z : gS), k12 a0 x1 x2 x3 x4 z → V E (gR 2 0) gyX12_last 0 0 12 [(0, .ref a0), (1, .int x1), (2, .int x2), (3, .int x3), (4, .int x4)] [] n sh z (kI n sh P)) : ∀ (N : Nat) (a0 : Nat) (x1 : Int32) (x2 : Int32) (x3 : Int32) (x4 : Int32) (x5 : Int32) (z : gS), wX12_last_L43 n sh k12 P N a0 x1 x2 x3 x4 x5 z → V E (gR 2 0) gyX12_last 0 0 43 [(0, .ref a0), (1, .int x1), (2, .int x2), (3, .int x3), (4, .int x4), (5, .int x5)] [] n sh z (kI n sh P) := by
  intro N
  induction N with
  | zero => intro a0 x1 x2 x3 x4 x5 z hf; exact False.elim hf
  | succ N ih => intro a0 x1 x2 x3 x4 x5 z hf; exact vX12_last_B43 hn hk12 ih hf
def wX12_last_B12 (n : Nat) (sh : Nat → Nat × Nat) (k12 : Nat → Int32 → Int32 → Int32 → Int32 → gS → Prop) (P : Int32 → gS → Prop) (a0 : Nat) (x1 : Int32) (x2 : Int32) (x3 : Int32) (x4 : Int32) (z : gS) : Prop := (oO n sh a0 8) ∧ (wX12_panes n sh a0 z (fun (r3 : Int32) (z4 : gS) => if r3 ≤ x4 then P x2 z4 else (wX12_isPerson n sh a0 x1 z4 (fun (r6 : Int32) (z7 : gS) => if r6 = 0 then P x2 z7 else (∃ t8 : Nat, gr z7 a0 24 = some t8 ∧ ((oA n sh t8 1) ∧ ((vp_in ((18 : Int32) + x4) (sh t8).2) ∧ (∀ v11 : Int32, v11 = ((gi z7 t8 ((18 : Int32) + x4).toNatClampNeg) - (1 : Int32)) → ((∃ N, wX12_last_L43 n sh k12 P N a0 x1 x2 x3 x4 v11 z7))))))))))
def wX12_last_L12 (n : Nat) (sh : Nat → Nat × Nat) (P : Int32 → gS → Prop) : Nat → Nat → Int32 → Int32 → Int32 → Int32 → gS → Prop
  | 0, _, _, _, _, _, _ => False
  | N + 1, a0, x1, x2, x3, x4, z => wX12_last_B12 n sh (wX12_last_L12 n sh P N) P a0 x1 x2 x3 x4 z
set_option maxRecDepth 100000 in
set_option maxHeartbeats 4000000 in
theorem vX12_last_B12 {E : gE} {n : Nat} {sh : Nat → Nat × Nat} {P : Int32 → gS → Prop} {k12 : Nat → Int32 → Int32 → Int32 → Int32 → gS → Prop} {a0 : Nat} {x1 : Int32} {x2 : Int32} {x3 : Int32} {x4 : Int32} {z : gS} (hn : gOK E n) (hk12 : ∀ (a0 : Nat) (x1 : Int32) (x2 : Int32) (x3 : Int32) (x4 : Int32) (z : gS), k12 a0 x1 x2 x3 x4 z → V E (gR 2 0) gyX12_last 0 0 12 [(0, .ref a0), (1, .int x1), (2, .int x2), (3, .int x3), (4, .int x4)] [] n sh z (kI n sh P)) (hf : wX12_last_B12 n sh k12 P a0 x1 x2 x3 x4 z) : V E (gR 2 0) gyX12_last 0 0 12 [(0, .ref a0), (1, .int x1), (2, .int x2), (3, .int x3), (4, .int x4)] [] n sh z (kI n sh P) := by
  unfold wX12_last_B12 at hf
  refine V_iload (j := 4) dX12_last_12 rfl ?_
  refine V_aload_n (j := 0) dX12_last_14 rfl rfl ?_
  obtain ⟨h5, hf⟩ := hf
  refine V_cVI (ctX12_panes hn hf) gc_X12_278 rfl h5.1 ⟨_, h5.2, by decide, rfl⟩ ⟨by decide, by decide, Nat.zero_le _, Nat.zero_le _⟩ (Nat.le_of_ble_eq_true rfl) dX12_last_15 rfl hn (fun r3 z4 hf => ?_)
  refine V_icmp_ge (tgt := 144) dX12_last_18 (by decide) (fun h35 => ?_) (fun h35 => ?_)
  · have hf := it_t h35 hf
    refine V_iload_n (j := 2) dX12_last_144 rfl rfl ?_
    exact V_ireturn dX12_last_145 rfl rfl (Nat.le_refl 0) (kI_of hf)
  · have hf := it_f h35 hf
    refine V_aload_n (j := 0) dX12_last_21 rfl rfl ?_
    refine V_iload_n (j := 1) dX12_last_22 rfl rfl ?_
    refine V_cVI (ctX12_isPerson hn hf) gc_X12_343 rfl h5.1 ⟨_, h5.2, by decide, rfl⟩ ⟨by decide, by decide, Nat.zero_le _, Nat.zero_le _⟩ (Nat.le_of_ble_eq_true rfl) dX12_last_23 rfl hn (fun r6 z7 hf => ?_)
    refine V_if_eq (tgt := 144) dX12_last_26 (by decide) (fun h34 => ?_) (fun h34 => ?_)
    · have hf := it_t h34 hf
      refine V_iload_n (j := 2) dX12_last_144 rfl rfl ?_
      exact V_ireturn dX12_last_145 rfl rfl (Nat.le_refl 0) (kI_of hf)
    · have hf := it_f h34 hf
      refine V_aload_n (j := 0) dX12_last_29 rfl rfl ?_
      obtain ⟨t8, et8, hf⟩ := hf
      refine V_getR fl_X12_119 rfl h5.1 h5.2 et8 dX12_last_30 ?_
      refine V_bipush (v := (18 : Int32)) dX12_last_33 (by decide) ?_
      refine V_iload (j := 4) dX12_last_35 rfl ?_
      refine V_iadd dX12_last_37 ?_
      obtain ⟨h9, hf⟩ := hf
      obtain ⟨h10, hf⟩ := hf
      refine V_iald h9.1 h9.s h10 dX12_last_38 ?_
      refine V_iconst (v := (1 : Int32)) dX12_last_39 (by decide) ?_
      refine V_isub dX12_last_40 ?_
      refine V_nI (fun v11 ev11 => ?_)
      have hf := hf v11 ev11
      refine V_istore (ls2 := [(5, .int v11), (0, .ref a0), (1, .int x1), (2, .int x2), (3, .int x3), (4, .int x4)]) dX12_last_41 (by decide) rfl ?_
      obtain ⟨N, hf⟩ := hf
      refine V_to [1, 2, 3, 4, 5, 0] rfl ?_
      exact vX12_last_L43 hn hk12 N _ _ _ _ _ _ _ hf
set_option maxRecDepth 100000 in
set_option maxHeartbeats 4000000 in
theorem vX12_last_L12 {E : gE} {n : Nat} {sh : Nat → Nat × Nat} {P : Int32 → gS → Prop} (hn : gOK E n) : ∀ (N : Nat) (a0 : Nat) (x1 : Int32) (x2 : Int32) (x3 : Int32) (x4 : Int32) (z : gS), wX12_last_L12 n sh P N a0 x1 x2 x3 x4 z → V E (gR 2 0) gyX12_last 0 0 12 [(0, .ref a0), (1, .int x1), (2, .int x2), (3, .int x3), (4, .int x4)] [] n sh z (kI n sh P) := by
  intro N
  induction N with
  | zero => intro a0 x1 x2 x3 x4 z hf; exact False.elim hf
  | succ N ih => intro a0 x1 x2 x3 x4 z hf; exact vX12_last_B12 hn ih hf
def wX12_last (n : Nat) (sh : Nat → Nat × Nat) (a0 : Nat) (x1 : Int32) (z : gS) (P : Int32 → gS → Prop) : Prop := (oO n sh a0 8) ∧ (∀ z2 : gS, z2 = si z a0 0 (0 : Int32) → ((∃ N, wX12_last_L12 n sh P N a0 x1 (-1 : Int32) (0 : Int32) (0 : Int32) z2)))
set_option maxRecDepth 100000 in
set_option maxHeartbeats 4000000 in
theorem ctX12_last {E : gE} {n : Nat} {sh : Nat → Nat × Nat} {a0 : Nat} {x1 : Int32} {z : gS} {P : Int32 → gS → Prop} (hn : gOK E n) (hf : wX12_last n sh a0 x1 z P) : VM E 2 0 gyX12_last [.ref a0, .int x1] n sh z (kI n sh P) := by
  unfold wX12_last at hf
  refine VM.of (by decide +kernel) (Nat.le_of_ble_eq_true rfl) (fun _ _ _ h => h.2.2) ?_
  show V E (gR 2 0) gyX12_last 0 0 0 [(0, .ref a0), (1, .int x1)] [] n sh z (kI n sh P)
  refine V_aload_n (j := 0) dX12_last_0 rfl rfl ?_
  refine V_iconst (v := (0 : Int32)) dX12_last_1 (by decide) ?_
  obtain ⟨h1, hf⟩ := hf
  refine V_putI fl_X12_1 rfl rfl rfl rfl h1.1 h1.2 dX12_last_2 ?_
  refine V_nz (fun z2 ez2 => ?_)
  have hf := hf z2 ez2
  refine V_iconst (v := (-1 : Int32)) dX12_last_5 (by decide) ?_
  refine V_istore_n (ls2 := [(2, .int (-1 : Int32)), (0, .ref a0), (1, .int x1)]) dX12_last_6 rfl (by decide) rfl ?_
  refine V_iconst (v := (0 : Int32)) dX12_last_7 (by decide) ?_
  refine V_istore_n (ls2 := [(3, .int (0 : Int32)), (2, .int (-1 : Int32)), (0, .ref a0), (1, .int x1)]) dX12_last_8 rfl (by decide) rfl ?_
  refine V_iconst (v := (0 : Int32)) dX12_last_9 (by decide) ?_
  refine V_istore (ls2 := [(4, .int (0 : Int32)), (3, .int (0 : Int32)), (2, .int (-1 : Int32)), (0, .ref a0), (1, .int x1)]) dX12_last_10 (by decide) rfl ?_
  obtain ⟨N, hf⟩ := hf
  refine V_to [3, 4, 2, 1, 0] rfl ?_
  exact vX12_last_L12 hn N _ _ _ _ _ _ hf
def wX12_worst_J53 (n : Nat) (sh : Nat → Nat × Nat) (k11 : Nat → Int32 → Int32 → Int32 → gS → Prop) (P : Int32 → gS → Prop) (a0 : Nat) (x1 : Int32) (x3 : Int32) (s0 : Int32) (z : gS) : Prop := ∀ v8 : Int32, v8 = x3 + (1 : Int32) → k11 a0 x1 s0 v8 z
set_option maxRecDepth 100000 in
set_option maxHeartbeats 4000000 in
theorem vX12_worst_J53 {E : gE} {n : Nat} {sh : Nat → Nat × Nat} {P : Int32 → gS → Prop} {k11 : Nat → Int32 → Int32 → Int32 → gS → Prop} {a0 : Nat} {x1 : Int32} {x3 : Int32} {s0 : Int32} {z : gS} (hn : gOK E n) (hk11 : ∀ (a0 : Nat) (x1 : Int32) (x2 : Int32) (x3 : Int32) (z : gS), k11 a0 x1 x2 x3 z → V E (gR 4 0) gyX12_worst 0 0 11 [(0, .ref a0), (1, .int x1), (2, .int x2), (3, .int x3)] [] n sh z (kI n sh P)) (hf : wX12_worst_J53 n sh k11 P a0 x1 x3 s0 z) : V E (gR 4 0) gyX12_worst 0 0 53 [(0, .ref a0), (1, .int x1), (3, .int x3)] [.int s0] n sh z (kI n sh P) := by
  unfold wX12_worst_J53 at hf
  refine V_istore_n (ls2 := [(2, .int s0), (0, .ref a0), (1, .int x1), (3, .int x3)]) dX12_worst_53 rfl (by decide) rfl ?_
  obtain ⟨v8, ev8⟩ : ∃ y : Int32, y = x3 + (1 : Int32) := ⟨_, rfl⟩
  refine V_iinc (j := 3) (v := v8) (ls2 := [(3, .int v8), (2, .int s0), (0, .ref a0), (1, .int x1)]) dX12_worst_54 rfl (by rw [ev8]; rfl) (by decide) rfl ?_
  have hf := hf v8 ev8
  refine V_goto (tgt := 11) dX12_worst_57 (by decide) ?_
  refine V_to [2, 3, 1, 0] rfl ?_
  exact hk11 _ _ _ _ _ hf
def wX12_worst_J40 (n : Nat) (sh : Nat → Nat × Nat) (k11 : Nat → Int32 → Int32 → Int32 → gS → Prop) (P : Int32 → gS → Prop) (a0 : Nat) (x2 : Int32) (x3 : Int32) (x4 : Int32) (s0 : Int32) (z : gS) : Prop := if x4 ≤ x2 then wX12_worst_J53 n sh k11 P a0 s0 x3 x2 z else wX12_worst_J53 n sh k11 P a0 s0 x3 x4 z
set_option maxRecDepth 100000 in
set_option maxHeartbeats 4000000 in
theorem vX12_worst_J40 {E : gE} {n : Nat} {sh : Nat → Nat × Nat} {P : Int32 → gS → Prop} {k11 : Nat → Int32 → Int32 → Int32 → gS → Prop} {a0 : Nat} {x2 : Int32} {x3 : Int32} {x4 : Int32} {s0 : Int32} {z : gS} (hn : gOK E n) (hk11 : ∀ (a0 : Nat) (x1 : Int32) (x2 : Int32) (x3 : Int32) (z : gS), k11 a0 x1 x2 x3 z → V E (gR 4 0) gyX12_worst 0 0 11 [(0, .ref a0), (1, .int x1), (2, .int x2), (3, .int x3)] [] n sh z (kI n sh P)) (hf : wX12_worst_J40 n sh k11 P a0 x2 x3 x4 s0 z) : V E (gR 4 0) gyX12_worst 0 0 40 [(0, .ref a0), (2, .int x2), (3, .int x3), (4, .int x4)] [.int s0] n sh z (kI n sh P) := by
  unfold wX12_worst_J40 at hf
  refine V_istore_n (ls2 := [(1, .int s0), (0, .ref a0), (2, .int x2), (3, .int x3), (4, .int x4)]) dX12_worst_40 rfl (by decide) rfl ?_
  refine V_iload (j := 4) dX12_worst_41 rfl ?_
  refine V_iload_n (j := 2) dX12_worst_43 rfl rfl ?_
  refine V_icmp_le (tgt := 52) dX12_worst_44 (by decide) (fun h9 => ?_) (fun h9 => ?_)
  · have hf := it_t h9 hf
    refine V_iload_n (j := 2) dX12_worst_52 rfl rfl ?_
    refine V_to [1, 0, 3] rfl ?_
    exact vX12_worst_J53 hn hk11 hf
  · have hf := it_f h9 hf
    refine V_iload (j := 4) dX12_worst_47 rfl ?_
    refine V_goto (tgt := 53) dX12_worst_49 (by decide) ?_
    refine V_to [1, 0, 3] rfl ?_
    exact vX12_worst_J53 hn hk11 hf
def wX12_worst_B11 (n : Nat) (sh : Nat → Nat × Nat) (k11 : Nat → Int32 → Int32 → Int32 → gS → Prop) (P : Int32 → gS → Prop) (a0 : Nat) (x1 : Int32) (x2 : Int32) (x3 : Int32) (z : gS) : Prop := (oO n sh a0 8) ∧ (wX12_people n sh a0 z (fun (r3 : Int32) (z4 : gS) => if r3 ≤ x3 then P x1 z4 else (wX12_harmShown n sh a0 (0 : Int32) x3 (6 : Int32) z4 (fun (r6 : Int32) (z7 : gS) => if r6 ≤ x2 then wX12_worst_J40 n sh k11 P a0 x2 x3 r6 x1 z7 else wX12_worst_J40 n sh k11 P a0 x2 x3 r6 x3 z7))))
def wX12_worst_L11 (n : Nat) (sh : Nat → Nat × Nat) (P : Int32 → gS → Prop) : Nat → Nat → Int32 → Int32 → Int32 → gS → Prop
  | 0, _, _, _, _, _ => False
  | N + 1, a0, x1, x2, x3, z => wX12_worst_B11 n sh (wX12_worst_L11 n sh P N) P a0 x1 x2 x3 z
set_option maxRecDepth 100000 in
set_option maxHeartbeats 4000000 in
theorem vX12_worst_B11 {E : gE} {n : Nat} {sh : Nat → Nat × Nat} {P : Int32 → gS → Prop} {k11 : Nat → Int32 → Int32 → Int32 → gS → Prop} {a0 : Nat} {x1 : Int32} {x2 : Int32} {x3 : Int32} {z : gS} (hn : gOK E n) (hk11 : ∀ (a0 : Nat) (x1 : Int32) (x2 : Int32) (x3 : Int32) (z : gS), k11 a0 x1 x2 x3 z → V E (gR 4 0) gyX12_worst 0 0 11 [(0, .ref a0), (1, .int x1), (2, .int x2), (3, .int x3)] [] n sh z (kI n sh P)) (hf : wX12_worst_B11 n sh k11 P a0 x1 x2 x3 z) : V E (gR 4 0) gyX12_worst 0 0 11 [(0, .ref a0), (1, .int x1), (2, .int x2), (3, .int x3)] [] n sh z (kI n sh P) := by
  unfold wX12_worst_B11 at hf
  refine V_iload_n (j := 3) dX12_worst_11 rfl rfl ?_
  refine V_aload_n (j := 0) dX12_worst_12 rfl rfl ?_
  obtain ⟨h5, hf⟩ := hf
  refine V_cVI (ctX12_people hn hf) gc_X12_265 rfl h5.1 ⟨_, h5.2, by decide, rfl⟩ ⟨by decide, by decide, Nat.zero_le _, Nat.zero_le _⟩ (Nat.le_of_ble_eq_true rfl) dX12_worst_13 rfl hn (fun r3 z4 hf => ?_)
  refine V_icmp_ge (tgt := 60) dX12_worst_16 (by decide) (fun h11 => ?_) (fun h11 => ?_)
  · have hf := it_t h11 hf
    refine V_iload_n (j := 1) dX12_worst_60 rfl rfl ?_
    exact V_ireturn dX12_worst_61 rfl rfl (Nat.le_refl 0) (kI_of hf)
  · have hf := it_f h11 hf
    refine V_aload_n (j := 0) dX12_worst_19 rfl rfl ?_
    refine V_iconst (v := (0 : Int32)) dX12_worst_20 (by decide) ?_
    refine V_iload_n (j := 3) dX12_worst_21 rfl rfl ?_
    refine V_bipush (v := (6 : Int32)) dX12_worst_22 (by decide) ?_
    refine V_cVI (ctX12_harmShown hn hf) gc_X12_371 rfl h5.1 ⟨_, h5.2, by decide, rfl⟩ ⟨by decide, by decide, Nat.zero_le _, Nat.zero_le _⟩ (Nat.le_of_ble_eq_true rfl) dX12_worst_24 rfl hn (fun r6 z7 hf => ?_)
    refine V_istore (ls2 := [(4, .int r6), (0, .ref a0), (1, .int x1), (2, .int x2), (3, .int x3)]) dX12_worst_27 (by decide) rfl ?_
    refine V_iload (j := 0) dX12_worst_29 rfl ?_
    refine V_iload_n (j := 3) dX12_worst_31 rfl rfl ?_
    refine V_icmp_le (tgt := 39) dX12_worst_32 (by decide) (fun h10 => ?_) (fun h10 => ?_)
    · have hf := it_t h10 hf
      refine V_iload_n (j := 2) dX12_worst_39 rfl rfl ?_
      refine V_to [1, 3, 4, 0] rfl ?_
      exact vX12_worst_J40 hn hk11 hf
    · have hf := it_f h10 hf
      refine V_iload_n (j := 4) dX12_worst_35 rfl rfl ?_
      refine V_goto (tgt := 40) dX12_worst_36 (by decide) ?_
      refine V_to [1, 3, 4, 0] rfl ?_
      exact vX12_worst_J40 hn hk11 hf
set_option maxRecDepth 100000 in
set_option maxHeartbeats 4000000 in
theorem vX12_worst_L11 {E : gE} {n : Nat} {sh : Nat → Nat × Nat} {P : Int32 → gS → Prop} (hn : gOK E n) : ∀ (N : Nat) (a0 : Nat) (x1 : Int32) (x2 : Int32) (x3 : Int32) (z : gS), wX12_worst_L11 n sh P N a0 x1 x2 x3 z → V E (gR 4 0) gyX12_worst 0 0 11 [(0, .ref a0), (1, .int x1), (2, .int x2), (3, .int x3)] [] n sh z (kI n sh P) := by
  intro N
  induction N with
  | zero => intro a0 x1 x2 x3 z hf; exact False.elim hf
  | succ N ih => intro a0 x1 x2 x3 z hf; exact vX12_worst_B11 hn ih hf
def wX12_worst (n : Nat) (sh : Nat → Nat × Nat) (a0 : Nat) (z : gS) (P : Int32 → gS → Prop) : Prop := (oO n sh a0 8) ∧ (∀ z2 : gS, z2 = si z a0 0 (0 : Int32) → ((∃ N, wX12_worst_L11 n sh P N a0 (-1 : Int32) (0 : Int32) (0 : Int32) z2)))
set_option maxRecDepth 100000 in
set_option maxHeartbeats 4000000 in
theorem ctX12_worst {E : gE} {n : Nat} {sh : Nat → Nat × Nat} {a0 : Nat} {z : gS} {P : Int32 → gS → Prop} (hn : gOK E n) (hf : wX12_worst n sh a0 z P) : VM E 4 0 gyX12_worst [.ref a0] n sh z (kI n sh P) := by
  unfold wX12_worst at hf
  refine VM.of (by decide +kernel) (Nat.le_of_ble_eq_true rfl) (fun _ _ _ h => h.2.2) ?_
  show V E (gR 4 0) gyX12_worst 0 0 0 [(0, .ref a0)] [] n sh z (kI n sh P)
  refine V_aload_n (j := 0) dX12_worst_0 rfl rfl ?_
  refine V_iconst (v := (0 : Int32)) dX12_worst_1 (by decide) ?_
  obtain ⟨h1, hf⟩ := hf
  refine V_putI fl_X12_1 rfl rfl rfl rfl h1.1 h1.2 dX12_worst_2 ?_
  refine V_nz (fun z2 ez2 => ?_)
  have hf := hf z2 ez2
  refine V_iconst (v := (-1 : Int32)) dX12_worst_5 (by decide) ?_
  refine V_istore_n (ls2 := [(1, .int (-1 : Int32)), (0, .ref a0)]) dX12_worst_6 rfl (by decide) rfl ?_
  refine V_iconst (v := (0 : Int32)) dX12_worst_7 (by decide) ?_
  refine V_istore_n (ls2 := [(2, .int (0 : Int32)), (1, .int (-1 : Int32)), (0, .ref a0)]) dX12_worst_8 rfl (by decide) rfl ?_
  refine V_iconst (v := (0 : Int32)) dX12_worst_9 (by decide) ?_
  refine V_istore_n (ls2 := [(3, .int (0 : Int32)), (2, .int (0 : Int32)), (1, .int (-1 : Int32)), (0, .ref a0)]) dX12_worst_10 rfl (by decide) rfl ?_
  obtain ⟨N, hf⟩ := hf
  refine V_to [3, 2, 1, 0] rfl ?_
  exact vX12_worst_L11 hn N _ _ _ _ _ hf
def wX12_oldest_J73 (n : Nat) (sh : Nat → Nat × Nat) (k11 : Nat → Int32 → Int32 → Int32 → gS → Prop) (k22 : Nat → Int32 → Int32 → Int32 → Int32 → gS → Prop) (P : Int32 → gS → Prop) (a0 : Nat) (x1 : Int32) (x3 : Int32) (x4 : Int32) (s0 : Int32) (z : gS) : Prop := ∀ v15 : Int32, v15 = x4 + (1 : Int32) → k22 a0 x1 s0 x3 v15 z
set_option maxRecDepth 100000 in
set_option maxHeartbeats 4000000 in
theorem vX12_oldest_J73 {E : gE} {n : Nat} {sh : Nat → Nat × Nat} {P : Int32 → gS → Prop} {k11 : Nat → Int32 → Int32 → Int32 → gS → Prop} {k22 : Nat → Int32 → Int32 → Int32 → Int32 → gS → Prop} {a0 : Nat} {x1 : Int32} {x3 : Int32} {x4 : Int32} {s0 : Int32} {z : gS} (hn : gOK E n) (hk11 : ∀ (a0 : Nat) (x1 : Int32) (x2 : Int32) (x3 : Int32) (z : gS), k11 a0 x1 x2 x3 z → V E (gR 1 0) gyX12_oldest 0 0 11 [(0, .ref a0), (1, .int x1), (2, .int x2), (3, .int x3)] [] n sh z (kI n sh P)) (hk22 : ∀ (a0 : Nat) (x1 : Int32) (x2 : Int32) (x3 : Int32) (x4 : Int32) (z : gS), k22 a0 x1 x2 x3 x4 z → V E (gR 1 0) gyX12_oldest 0 0 22 [(0, .ref a0), (1, .int x1), (2, .int x2), (3, .int x3), (4, .int x4)] [] n sh z (kI n sh P)) (hf : wX12_oldest_J73 n sh k11 k22 P a0 x1 x3 x4 s0 z) : V E (gR 1 0) gyX12_oldest 0 0 73 [(0, .ref a0), (1, .int x1), (3, .int x3), (4, .int x4)] [.int s0] n sh z (kI n sh P) := by
  unfold wX12_oldest_J73 at hf
  refine V_istore_n (ls2 := [(2, .int s0), (0, .ref a0), (1, .int x1), (3, .int x3), (4, .int x4)]) dX12_oldest_73 rfl (by decide) rfl ?_
  obtain ⟨v15, ev15⟩ : ∃ y : Int32, y = x4 + (1 : Int32) := ⟨_, rfl⟩
  refine V_iinc (j := 4) (v := v15) (ls2 := [(4, .int v15), (2, .int s0), (0, .ref a0), (1, .int x1), (3, .int x3)]) dX12_oldest_74 rfl (by rw [ev15]; rfl) (by decide) rfl ?_
  have hf := hf v15 ev15
  refine V_goto (tgt := 22) dX12_oldest_77 (by decide) ?_
  refine V_to [2, 3, 1, 4, 0] rfl ?_
  exact hk22 _ _ _ _ _ _ hf
def wX12_oldest_J60 (n : Nat) (sh : Nat → Nat × Nat) (k11 : Nat → Int32 → Int32 → Int32 → gS → Prop) (k22 : Nat → Int32 → Int32 → Int32 → Int32 → gS → Prop) (P : Int32 → gS → Prop) (a0 : Nat) (x2 : Int32) (x3 : Int32) (x4 : Int32) (x5 : Int32) (s0 : Int32) (z : gS) : Prop := if x5 ≤ x2 then wX12_oldest_J73 n sh k11 k22 P a0 s0 x3 x4 x2 z else wX12_oldest_J73 n sh k11 k22 P a0 s0 x3 x4 x5 z
set_option maxRecDepth 100000 in
set_option maxHeartbeats 4000000 in
theorem vX12_oldest_J60 {E : gE} {n : Nat} {sh : Nat → Nat × Nat} {P : Int32 → gS → Prop} {k11 : Nat → Int32 → Int32 → Int32 → gS → Prop} {k22 : Nat → Int32 → Int32 → Int32 → Int32 → gS → Prop} {a0 : Nat} {x2 : Int32} {x3 : Int32} {x4 : Int32} {x5 : Int32} {s0 : Int32} {z : gS} (hn : gOK E n) (hk11 : ∀ (a0 : Nat) (x1 : Int32) (x2 : Int32) (x3 : Int32) (z : gS), k11 a0 x1 x2 x3 z → V E (gR 1 0) gyX12_oldest 0 0 11 [(0, .ref a0), (1, .int x1), (2, .int x2), (3, .int x3)] [] n sh z (kI n sh P)) (hk22 : ∀ (a0 : Nat) (x1 : Int32) (x2 : Int32) (x3 : Int32) (x4 : Int32) (z : gS), k22 a0 x1 x2 x3 x4 z → V E (gR 1 0) gyX12_oldest 0 0 22 [(0, .ref a0), (1, .int x1), (2, .int x2), (3, .int x3), (4, .int x4)] [] n sh z (kI n sh P)) (hf : wX12_oldest_J60 n sh k11 k22 P a0 x2 x3 x4 x5 s0 z) : V E (gR 1 0) gyX12_oldest 0 0 60 [(0, .ref a0), (2, .int x2), (3, .int x3), (4, .int x4), (5, .int x5)] [.int s0] n sh z (kI n sh P) := by
  unfold wX12_oldest_J60 at hf
  refine V_istore_n (ls2 := [(1, .int s0), (0, .ref a0), (2, .int x2), (3, .int x3), (4, .int x4), (5, .int x5)]) dX12_oldest_60 rfl (by decide) rfl ?_
  refine V_iload (j := 5) dX12_oldest_61 rfl ?_
  refine V_iload_n (j := 2) dX12_oldest_63 rfl rfl ?_
  refine V_icmp_le (tgt := 72) dX12_oldest_64 (by decide) (fun h16 => ?_) (fun h16 => ?_)
  · have hf := it_t h16 hf
    refine V_iload_n (j := 2) dX12_oldest_72 rfl rfl ?_
    refine V_to [1, 0, 3, 4] rfl ?_
    exact vX12_oldest_J73 hn hk11 hk22 hf
  · have hf := it_f h16 hf
    refine V_iload (j := 5) dX12_oldest_67 rfl ?_
    refine V_goto (tgt := 73) dX12_oldest_69 (by decide) ?_
    refine V_to [1, 0, 3, 4] rfl ?_
    exact vX12_oldest_J73 hn hk11 hk22 hf
def wX12_oldest_B22 (n : Nat) (sh : Nat → Nat × Nat) (k11 : Nat → Int32 → Int32 → Int32 → gS → Prop) (k22 : Nat → Int32 → Int32 → Int32 → Int32 → gS → Prop) (P : Int32 → gS → Prop) (a0 : Nat) (x1 : Int32) (x2 : Int32) (x3 : Int32) (x4 : Int32) (z : gS) : Prop := (oO n sh a0 8) ∧ (∃ t7 : Nat, gr z a0 24 = some t7 ∧ ((oA n sh t7 1) ∧ ((vp_in ((18 : Int32) + x3) (sh t7).2) ∧ (if (gi z t7 ((18 : Int32) + x3).toNatClampNeg) ≤ x4 then (∀ v10 : Int32, v10 = x3 + (1 : Int32) → k11 a0 x1 x2 v10 z) else (wX12_markOf n sh a0 (0 : Int32) x3 x4 z (fun (r11 : Int32) (z12 : gS) => wX12_ageOf n sh r11 z12 (fun (r13 : Int32) (z14 : gS) => if r13 ≤ x2 then wX12_oldest_J60 n sh k11 k22 P a0 x2 x3 x4 r13 x1 z14 else wX12_oldest_J60 n sh k11 k22 P a0 x2 x3 x4 r13 x3 z14)))))))
def wX12_oldest_L22 (n : Nat) (sh : Nat → Nat × Nat) (k11 : Nat → Int32 → Int32 → Int32 → gS → Prop) (P : Int32 → gS → Prop) : Nat → Nat → Int32 → Int32 → Int32 → Int32 → gS → Prop
  | 0, _, _, _, _, _, _ => False
  | N + 1, a0, x1, x2, x3, x4, z => wX12_oldest_B22 n sh k11 (wX12_oldest_L22 n sh k11 P N) P a0 x1 x2 x3 x4 z
set_option maxRecDepth 100000 in
set_option maxHeartbeats 4000000 in
theorem vX12_oldest_B22 {E : gE} {n : Nat} {sh : Nat → Nat × Nat} {P : Int32 → gS → Prop} {k11 : Nat → Int32 → Int32 → Int32 → gS → Prop} {k22 : Nat → Int32 → Int32 → Int32 → Int32 → gS → Prop} {a0 : Nat} {x1 : Int32} {x2 : Int32} {x3 : Int32} {x4 : Int32} {z : gS} (hn : gOK E n) (hk11 : ∀ (a0 : Nat) (x1 : Int32) (x2 : Int32) (x3 : Int32) (z : gS), k11 a0 x1 x2 x3 z → V E (gR 1 0) gyX12_oldest 0 0 11 [(0, .ref a0), (1, .int x1), (2, .int x2), (3, .int x3)] [] n sh z (kI n sh P)) (hk22 : ∀ (a0 : Nat) (x1 : Int32) (x2 : Int32) (x3 : Int32) (x4 : Int32) (z : gS), k22 a0 x1 x2 x3 x4 z → V E (gR 1 0) gyX12_oldest 0 0 22 [(0, .ref a0), (1, .int x1), (2, .int x2), (3, .int x3), (4, .int x4)] [] n sh z (kI n sh P)) (hf : wX12_oldest_B22 n sh k11 k22 P a0 x1 x2 x3 x4 z) : V E (gR 1 0) gyX12_oldest 0 0 22 [(0, .ref a0), (1, .int x1), (2, .int x2), (3, .int x3), (4, .int x4)] [] n sh z (kI n sh P) := by
  unfold wX12_oldest_B22 at hf
  refine V_iload (j := 4) dX12_oldest_22 rfl ?_
  refine V_aload_n (j := 0) dX12_oldest_24 rfl rfl ?_
  obtain ⟨h6, hf⟩ := hf
  obtain ⟨t7, et7, hf⟩ := hf
  refine V_getR fl_X12_119 rfl h6.1 h6.2 et7 dX12_oldest_25 ?_
  refine V_bipush (v := (18 : Int32)) dX12_oldest_28 (by decide) ?_
  refine V_iload_n (j := 3) dX12_oldest_30 rfl rfl ?_
  refine V_iadd dX12_oldest_31 ?_
  obtain ⟨h8, hf⟩ := hf
  obtain ⟨h9, hf⟩ := hf
  refine V_iald h8.1 h8.s h9 dX12_oldest_32 ?_
  refine V_icmp_ge (tgt := 80) dX12_oldest_33 (by decide) (fun h18 => ?_) (fun h18 => ?_)
  · have hf := it_t h18 hf
    obtain ⟨v10, ev10⟩ : ∃ y : Int32, y = x3 + (1 : Int32) := ⟨_, rfl⟩
    refine V_iinc (j := 3) (v := v10) (ls2 := [(3, .int v10), (0, .ref a0), (1, .int x1), (2, .int x2), (4, .int x4)]) dX12_oldest_80 rfl (by rw [ev10]; rfl) (by decide) rfl ?_
    have hf := hf v10 ev10
    refine V_goto (tgt := 11) dX12_oldest_83 (by decide) ?_
    refine V_to [1, 2, 3, 0] rfl ?_
    exact hk11 _ _ _ _ _ hf
  · have hf := it_f h18 hf
    refine V_aload_n (j := 0) dX12_oldest_36 rfl rfl ?_
    refine V_iconst (v := (0 : Int32)) dX12_oldest_37 (by decide) ?_
    refine V_iload_n (j := 3) dX12_oldest_38 rfl rfl ?_
    refine V_iload (j := 4) dX12_oldest_39 rfl ?_
    refine V_cVI (ctX12_markOf hn hf) gc_X12_300 rfl h6.1 ⟨_, h6.2, by decide, rfl⟩ ⟨by decide, by decide, Nat.zero_le _, Nat.zero_le _⟩ (Nat.le_of_ble_eq_true rfl) dX12_oldest_41 rfl hn (fun r11 z12 hf => ?_)
    refine V_cSI (ctX12_ageOf hn hf) gc_X12_309 rfl ⟨by decide, by decide, Nat.zero_le _, Nat.zero_le _⟩ (Nat.le_of_ble_eq_true rfl) dX12_oldest_44 rfl hn (fun r13 z14 hf => ?_)
    refine V_istore (ls2 := [(5, .int r13), (0, .ref a0), (1, .int x1), (2, .int x2), (3, .int x3), (4, .int x4)]) dX12_oldest_47 (by decide) rfl ?_
    refine V_iload (j := 0) dX12_oldest_49 rfl ?_
    refine V_iload_n (j := 3) dX12_oldest_51 rfl rfl ?_
    refine V_icmp_le (tgt := 59) dX12_oldest_52 (by decide) (fun h17 => ?_) (fun h17 => ?_)
    · have hf := it_t h17 hf
      refine V_iload_n (j := 2) dX12_oldest_59 rfl rfl ?_
      refine V_to [1, 3, 4, 5, 0] rfl ?_
      exact vX12_oldest_J60 hn hk11 hk22 hf
    · have hf := it_f h17 hf
      refine V_iload_n (j := 4) dX12_oldest_55 rfl rfl ?_
      refine V_goto (tgt := 60) dX12_oldest_56 (by decide) ?_
      refine V_to [1, 3, 4, 5, 0] rfl ?_
      exact vX12_oldest_J60 hn hk11 hk22 hf
set_option maxRecDepth 100000 in
set_option maxHeartbeats 4000000 in
theorem vX12_oldest_L22 {E : gE} {n : Nat} {sh : Nat → Nat × Nat} {P : Int32 → gS → Prop} {k11 : Nat → Int32 → Int32 → Int32 → gS → Prop} (hn : gOK E n) (hk11 : ∀ (a0 : Nat) (x1 : Int32) (x2 : Int32) (x3 : Int32) (z : gS), k11 a0 x1 x2 x3 z → V E (gR 1 0) gyX12_oldest 0 0 11 [(0, .ref a0), (1, .int x1), (2, .int x2), (3, .int x3)] [] n sh z (kI n sh P)) : ∀ (N : Nat) (a0 : Nat) (x1 : Int32) (x2 : Int32) (x3 : Int32) (x4 : Int32) (z : gS), wX12_oldest_L22 n sh k11 P N a0 x1 x2 x3 x4 z → V E (gR 1 0) gyX12_oldest 0 0 22 [(0, .ref a0), (1, .int x1), (2, .int x2), (3, .int x3), (4, .int x4)] [] n sh z (kI n sh P) := by
  intro N
  induction N with
  | zero => intro a0 x1 x2 x3 x4 z hf; exact False.elim hf
  | succ N ih => intro a0 x1 x2 x3 x4 z hf; exact vX12_oldest_B22 hn hk11 ih hf
def wX12_oldest_B11 (n : Nat) (sh : Nat → Nat × Nat) (k11 : Nat → Int32 → Int32 → Int32 → gS → Prop) (P : Int32 → gS → Prop) (a0 : Nat) (x1 : Int32) (x2 : Int32) (x3 : Int32) (z : gS) : Prop := (oO n sh a0 8) ∧ (wX12_panes n sh a0 z (fun (r3 : Int32) (z4 : gS) => if r3 ≤ x3 then P x1 z4 else ((∃ N, wX12_oldest_L22 n sh k11 P N a0 x1 x2 x3 (0 : Int32) z4))))
def wX12_oldest_L11 (n : Nat) (sh : Nat → Nat × Nat) (P : Int32 → gS → Prop) : Nat → Nat → Int32 → Int32 → Int32 → gS → Prop
  | 0, _, _, _, _, _ => False
  | N + 1, a0, x1, x2, x3, z => wX12_oldest_B11 n sh (wX12_oldest_L11 n sh P N) P a0 x1 x2 x3 z
set_option maxRecDepth 100000 in
set_option maxHeartbeats 4000000 in
theorem vX12_oldest_B11 {E : gE} {n : Nat} {sh : Nat → Nat × Nat} {P : Int32 → gS → Prop} {k11 : Nat → Int32 → Int32 → Int32 → gS → Prop} {a0 : Nat} {x1 : Int32} {x2 : Int32} {x3 : Int32} {z : gS} (hn : gOK E n) (hk11 : ∀ (a0 : Nat) (x1 : Int32) (x2 : Int32) (x3 : Int32) (z : gS), k11 a0 x1 x2 x3 z → V E (gR 1 0) gyX12_oldest 0 0 11 [(0, .ref a0), (1, .int x1), (2, .int x2), (3, .int x3)] [] n sh z (kI n sh P)) (hf : wX12_oldest_B11 n sh k11 P a0 x1 x2 x3 z) : V E (gR 1 0) gyX12_oldest 0 0 11 [(0, .ref a0), (1, .int x1), (2, .int x2), (3, .int x3)] [] n sh z (kI n sh P) := by
  unfold wX12_oldest_B11 at hf
  refine V_iload_n (j := 3) dX12_oldest_11 rfl rfl ?_
  refine V_aload_n (j := 0) dX12_oldest_12 rfl rfl ?_
  obtain ⟨h5, hf⟩ := hf
  refine V_cVI (ctX12_panes hn hf) gc_X12_278 rfl h5.1 ⟨_, h5.2, by decide, rfl⟩ ⟨by decide, by decide, Nat.zero_le _, Nat.zero_le _⟩ (Nat.le_of_ble_eq_true rfl) dX12_oldest_13 rfl hn (fun r3 z4 hf => ?_)
  refine V_icmp_ge (tgt := 86) dX12_oldest_16 (by decide) (fun h19 => ?_) (fun h19 => ?_)
  · have hf := it_t h19 hf
    refine V_iload_n (j := 1) dX12_oldest_86 rfl rfl ?_
    exact V_ireturn dX12_oldest_87 rfl rfl (Nat.le_refl 0) (kI_of hf)
  · have hf := it_f h19 hf
    refine V_iconst (v := (0 : Int32)) dX12_oldest_19 (by decide) ?_
    refine V_istore (ls2 := [(4, .int (0 : Int32)), (0, .ref a0), (1, .int x1), (2, .int x2), (3, .int x3)]) dX12_oldest_20 (by decide) rfl ?_
    obtain ⟨N, hf⟩ := hf
    refine V_to [1, 2, 3, 4, 0] rfl ?_
    exact vX12_oldest_L22 hn hk11 N _ _ _ _ _ _ hf
set_option maxRecDepth 100000 in
set_option maxHeartbeats 4000000 in
theorem vX12_oldest_L11 {E : gE} {n : Nat} {sh : Nat → Nat × Nat} {P : Int32 → gS → Prop} (hn : gOK E n) : ∀ (N : Nat) (a0 : Nat) (x1 : Int32) (x2 : Int32) (x3 : Int32) (z : gS), wX12_oldest_L11 n sh P N a0 x1 x2 x3 z → V E (gR 1 0) gyX12_oldest 0 0 11 [(0, .ref a0), (1, .int x1), (2, .int x2), (3, .int x3)] [] n sh z (kI n sh P) := by
  intro N
  induction N with
  | zero => intro a0 x1 x2 x3 z hf; exact False.elim hf
  | succ N ih => intro a0 x1 x2 x3 z hf; exact vX12_oldest_B11 hn ih hf
def wX12_oldest (n : Nat) (sh : Nat → Nat × Nat) (a0 : Nat) (z : gS) (P : Int32 → gS → Prop) : Prop := (oO n sh a0 8) ∧ (∀ z2 : gS, z2 = si z a0 0 (0 : Int32) → ((∃ N, wX12_oldest_L11 n sh P N a0 (-1 : Int32) (-1 : Int32) (0 : Int32) z2)))
set_option maxRecDepth 100000 in
set_option maxHeartbeats 4000000 in
theorem ctX12_oldest {E : gE} {n : Nat} {sh : Nat → Nat × Nat} {a0 : Nat} {z : gS} {P : Int32 → gS → Prop} (hn : gOK E n) (hf : wX12_oldest n sh a0 z P) : VM E 1 0 gyX12_oldest [.ref a0] n sh z (kI n sh P) := by
  unfold wX12_oldest at hf
  refine VM.of (by decide +kernel) (Nat.le_of_ble_eq_true rfl) (fun _ _ _ h => h.2.2) ?_
  show V E (gR 1 0) gyX12_oldest 0 0 0 [(0, .ref a0)] [] n sh z (kI n sh P)
  refine V_aload_n (j := 0) dX12_oldest_0 rfl rfl ?_
  refine V_iconst (v := (0 : Int32)) dX12_oldest_1 (by decide) ?_
  obtain ⟨h1, hf⟩ := hf
  refine V_putI fl_X12_1 rfl rfl rfl rfl h1.1 h1.2 dX12_oldest_2 ?_
  refine V_nz (fun z2 ez2 => ?_)
  have hf := hf z2 ez2
  refine V_iconst (v := (-1 : Int32)) dX12_oldest_5 (by decide) ?_
  refine V_istore_n (ls2 := [(1, .int (-1 : Int32)), (0, .ref a0)]) dX12_oldest_6 rfl (by decide) rfl ?_
  refine V_iconst (v := (-1 : Int32)) dX12_oldest_7 (by decide) ?_
  refine V_istore_n (ls2 := [(2, .int (-1 : Int32)), (1, .int (-1 : Int32)), (0, .ref a0)]) dX12_oldest_8 rfl (by decide) rfl ?_
  refine V_iconst (v := (0 : Int32)) dX12_oldest_9 (by decide) ?_
  refine V_istore_n (ls2 := [(3, .int (0 : Int32)), (2, .int (-1 : Int32)), (1, .int (-1 : Int32)), (0, .ref a0)]) dX12_oldest_10 rfl (by decide) rfl ?_
  obtain ⟨N, hf⟩ := hf
  refine V_to [3, 2, 1, 0] rfl ?_
  exact vX12_oldest_L11 hn N _ _ _ _ _ hf
def wX12_young_J55 (n : Nat) (sh : Nat → Nat × Nat) (k9 : Nat → Int32 → Int32 → Int32 → gS → Prop) (k20 : Nat → Int32 → Int32 → Int32 → Int32 → gS → Prop) (P : Int32 → gS → Prop) (a0 : Nat) (x1 : Int32) (x3 : Int32) (x4 : Int32) (s0 : Int32) (s1 : Int32) (z : gS) : Prop := ∀ v15 : Int32, v15 = (s1 + s0) → (∀ v16 : Int32, v16 = x4 + (1 : Int32) → k20 a0 x1 v15 x3 v16 z)
set_option maxRecDepth 100000 in
set_option maxHeartbeats 4000000 in
theorem vX12_young_J55 {E : gE} {n : Nat} {sh : Nat → Nat × Nat} {P : Int32 → gS → Prop} {k9 : Nat → Int32 → Int32 → Int32 → gS → Prop} {k20 : Nat → Int32 → Int32 → Int32 → Int32 → gS → Prop} {a0 : Nat} {x1 : Int32} {x3 : Int32} {x4 : Int32} {s0 : Int32} {s1 : Int32} {z : gS} (hn : gOK E n) (hk9 : ∀ (a0 : Nat) (x1 : Int32) (x2 : Int32) (x3 : Int32) (z : gS), k9 a0 x1 x2 x3 z → V E (gR 1 0) gyX12_young 0 0 9 [(0, .ref a0), (1, .int x1), (2, .int x2), (3, .int x3)] [] n sh z (kI n sh P)) (hk20 : ∀ (a0 : Nat) (x1 : Int32) (x2 : Int32) (x3 : Int32) (x4 : Int32) (z : gS), k20 a0 x1 x2 x3 x4 z → V E (gR 1 0) gyX12_young 0 0 20 [(0, .ref a0), (1, .int x1), (2, .int x2), (3, .int x3), (4, .int x4)] [] n sh z (kI n sh P)) (hf : wX12_young_J55 n sh k9 k20 P a0 x1 x3 x4 s0 s1 z) : V E (gR 1 0) gyX12_young 0 0 55 [(0, .ref a0), (1, .int x1), (3, .int x3), (4, .int x4)] [.int s0, .int s1] n sh z (kI n sh P) := by
  unfold wX12_young_J55 at hf
  refine V_iadd dX12_young_55 ?_
  refine V_nI (fun v15 ev15 => ?_)
  have hf := hf v15 ev15
  refine V_istore_n (ls2 := [(2, .int v15), (0, .ref a0), (1, .int x1), (3, .int x3), (4, .int x4)]) dX12_young_56 rfl (by decide) rfl ?_
  obtain ⟨v16, ev16⟩ : ∃ y : Int32, y = x4 + (1 : Int32) := ⟨_, rfl⟩
  refine V_iinc (j := 4) (v := v16) (ls2 := [(4, .int v16), (2, .int v15), (0, .ref a0), (1, .int x1), (3, .int x3)]) dX12_young_57 rfl (by rw [ev16]; rfl) (by decide) rfl ?_
  have hf := hf v16 ev16
  refine V_goto (tgt := 20) dX12_young_60 (by decide) ?_
  refine V_to [2, 3, 1, 4, 0] rfl ?_
  exact hk20 _ _ _ _ _ _ hf
def wX12_young_B20 (n : Nat) (sh : Nat → Nat × Nat) (k9 : Nat → Int32 → Int32 → Int32 → gS → Prop) (k20 : Nat → Int32 → Int32 → Int32 → Int32 → gS → Prop) (P : Int32 → gS → Prop) (a0 : Nat) (x1 : Int32) (x2 : Int32) (x3 : Int32) (x4 : Int32) (z : gS) : Prop := (oO n sh a0 8) ∧ (∃ t7 : Nat, gr z a0 24 = some t7 ∧ ((oA n sh t7 1) ∧ ((vp_in ((18 : Int32) + x3) (sh t7).2) ∧ (if (gi z t7 ((18 : Int32) + x3).toNatClampNeg) ≤ x4 then (∀ v10 : Int32, v10 = x3 + (1 : Int32) → k9 a0 x1 x2 v10 z) else (wX12_markOf n sh a0 (0 : Int32) x3 x4 z (fun (r11 : Int32) (z12 : gS) => wX12_ageOf n sh r11 z12 (fun (r13 : Int32) (z14 : gS) => if x1 < r13 then wX12_young_J55 n sh k9 k20 P a0 x1 x3 x4 (0 : Int32) x2 z14 else wX12_young_J55 n sh k9 k20 P a0 x1 x3 x4 (1 : Int32) x2 z14)))))))
def wX12_young_L20 (n : Nat) (sh : Nat → Nat × Nat) (k9 : Nat → Int32 → Int32 → Int32 → gS → Prop) (P : Int32 → gS → Prop) : Nat → Nat → Int32 → Int32 → Int32 → Int32 → gS → Prop
  | 0, _, _, _, _, _, _ => False
  | N + 1, a0, x1, x2, x3, x4, z => wX12_young_B20 n sh k9 (wX12_young_L20 n sh k9 P N) P a0 x1 x2 x3 x4 z
set_option maxRecDepth 100000 in
set_option maxHeartbeats 4000000 in
theorem vX12_young_B20 {E : gE} {n : Nat} {sh : Nat → Nat × Nat} {P : Int32 → gS → Prop} {k9 : Nat → Int32 → Int32 → Int32 → gS → Prop} {k20 : Nat → Int32 → Int32 → Int32 → Int32 → gS → Prop} {a0 : Nat} {x1 : Int32} {x2 : Int32} {x3 : Int32} {x4 : Int32} {z : gS} (hn : gOK E n) (hk9 : ∀ (a0 : Nat) (x1 : Int32) (x2 : Int32) (x3 : Int32) (z : gS), k9 a0 x1 x2 x3 z → V E (gR 1 0) gyX12_young 0 0 9 [(0, .ref a0), (1, .int x1), (2, .int x2), (3, .int x3)] [] n sh z (kI n sh P)) (hk20 : ∀ (a0 : Nat) (x1 : Int32) (x2 : Int32) (x3 : Int32) (x4 : Int32) (z : gS), k20 a0 x1 x2 x3 x4 z → V E (gR 1 0) gyX12_young 0 0 20 [(0, .ref a0), (1, .int x1), (2, .int x2), (3, .int x3), (4, .int x4)] [] n sh z (kI n sh P)) (hf : wX12_young_B20 n sh k9 k20 P a0 x1 x2 x3 x4 z) : V E (gR 1 0) gyX12_young 0 0 20 [(0, .ref a0), (1, .int x1), (2, .int x2), (3, .int x3), (4, .int x4)] [] n sh z (kI n sh P) := by
  unfold wX12_young_B20 at hf
  refine V_iload (j := 4) dX12_young_20 rfl ?_
  refine V_aload_n (j := 0) dX12_young_22 rfl rfl ?_
  obtain ⟨h6, hf⟩ := hf
  obtain ⟨t7, et7, hf⟩ := hf
  refine V_getR fl_X12_119 rfl h6.1 h6.2 et7 dX12_young_23 ?_
  refine V_bipush (v := (18 : Int32)) dX12_young_26 (by decide) ?_
  refine V_iload_n (j := 3) dX12_young_28 rfl rfl ?_
  refine V_iadd dX12_young_29 ?_
  obtain ⟨h8, hf⟩ := hf
  obtain ⟨h9, hf⟩ := hf
  refine V_iald h8.1 h8.s h9 dX12_young_30 ?_
  refine V_icmp_ge (tgt := 63) dX12_young_31 (by decide) (fun h18 => ?_) (fun h18 => ?_)
  · have hf := it_t h18 hf
    obtain ⟨v10, ev10⟩ : ∃ y : Int32, y = x3 + (1 : Int32) := ⟨_, rfl⟩
    refine V_iinc (j := 3) (v := v10) (ls2 := [(3, .int v10), (0, .ref a0), (1, .int x1), (2, .int x2), (4, .int x4)]) dX12_young_63 rfl (by rw [ev10]; rfl) (by decide) rfl ?_
    have hf := hf v10 ev10
    refine V_goto (tgt := 9) dX12_young_66 (by decide) ?_
    refine V_to [1, 2, 3, 0] rfl ?_
    exact hk9 _ _ _ _ _ hf
  · have hf := it_f h18 hf
    refine V_iload_n (j := 2) dX12_young_34 rfl rfl ?_
    refine V_aload_n (j := 0) dX12_young_35 rfl rfl ?_
    refine V_iconst (v := (0 : Int32)) dX12_young_36 (by decide) ?_
    refine V_iload_n (j := 3) dX12_young_37 rfl rfl ?_
    refine V_iload (j := 4) dX12_young_38 rfl ?_
    refine V_cVI (ctX12_markOf hn hf) gc_X12_300 rfl h6.1 ⟨_, h6.2, by decide, rfl⟩ ⟨by decide, by decide, Nat.zero_le _, Nat.zero_le _⟩ (Nat.le_of_ble_eq_true rfl) dX12_young_40 rfl hn (fun r11 z12 hf => ?_)
    refine V_cSI (ctX12_ageOf hn hf) gc_X12_309 rfl ⟨by decide, by decide, Nat.zero_le _, Nat.zero_le _⟩ (Nat.le_of_ble_eq_true rfl) dX12_young_43 rfl hn (fun r13 z14 hf => ?_)
    refine V_iload_n (j := 1) dX12_young_46 rfl rfl ?_
    refine V_icmp_gt (tgt := 54) dX12_young_47 (by decide) (fun h17 => ?_) (fun h17 => ?_)
    · have hf := it_t h17 hf
      refine V_iconst (v := (0 : Int32)) dX12_young_54 (by decide) ?_
      refine V_to [0, 1, 3, 4] rfl ?_
      exact vX12_young_J55 hn hk9 hk20 hf
    · have hf := it_f h17 hf
      refine V_iconst (v := (1 : Int32)) dX12_young_50 (by decide) ?_
      refine V_goto (tgt := 55) dX12_young_51 (by decide) ?_
      refine V_to [0, 1, 3, 4] rfl ?_
      exact vX12_young_J55 hn hk9 hk20 hf
set_option maxRecDepth 100000 in
set_option maxHeartbeats 4000000 in
theorem vX12_young_L20 {E : gE} {n : Nat} {sh : Nat → Nat × Nat} {P : Int32 → gS → Prop} {k9 : Nat → Int32 → Int32 → Int32 → gS → Prop} (hn : gOK E n) (hk9 : ∀ (a0 : Nat) (x1 : Int32) (x2 : Int32) (x3 : Int32) (z : gS), k9 a0 x1 x2 x3 z → V E (gR 1 0) gyX12_young 0 0 9 [(0, .ref a0), (1, .int x1), (2, .int x2), (3, .int x3)] [] n sh z (kI n sh P)) : ∀ (N : Nat) (a0 : Nat) (x1 : Int32) (x2 : Int32) (x3 : Int32) (x4 : Int32) (z : gS), wX12_young_L20 n sh k9 P N a0 x1 x2 x3 x4 z → V E (gR 1 0) gyX12_young 0 0 20 [(0, .ref a0), (1, .int x1), (2, .int x2), (3, .int x3), (4, .int x4)] [] n sh z (kI n sh P) := by
  intro N
  induction N with
  | zero => intro a0 x1 x2 x3 x4 z hf; exact False.elim hf
  | succ N ih => intro a0 x1 x2 x3 x4 z hf; exact vX12_young_B20 hn hk9 ih hf
def wX12_young_B9 (n : Nat) (sh : Nat → Nat × Nat) (k9 : Nat → Int32 → Int32 → Int32 → gS → Prop) (P : Int32 → gS → Prop) (a0 : Nat) (x1 : Int32) (x2 : Int32) (x3 : Int32) (z : gS) : Prop := (oO n sh a0 8) ∧ (wX12_panes n sh a0 z (fun (r3 : Int32) (z4 : gS) => if r3 ≤ x3 then P x2 z4 else ((∃ N, wX12_young_L20 n sh k9 P N a0 x1 x2 x3 (0 : Int32) z4))))
def wX12_young_L9 (n : Nat) (sh : Nat → Nat × Nat) (P : Int32 → gS → Prop) : Nat → Nat → Int32 → Int32 → Int32 → gS → Prop
  | 0, _, _, _, _, _ => False
  | N + 1, a0, x1, x2, x3, z => wX12_young_B9 n sh (wX12_young_L9 n sh P N) P a0 x1 x2 x3 z
set_option maxRecDepth 100000 in
set_option maxHeartbeats 4000000 in
theorem vX12_young_B9 {E : gE} {n : Nat} {sh : Nat → Nat × Nat} {P : Int32 → gS → Prop} {k9 : Nat → Int32 → Int32 → Int32 → gS → Prop} {a0 : Nat} {x1 : Int32} {x2 : Int32} {x3 : Int32} {z : gS} (hn : gOK E n) (hk9 : ∀ (a0 : Nat) (x1 : Int32) (x2 : Int32) (x3 : Int32) (z : gS), k9 a0 x1 x2 x3 z → V E (gR 1 0) gyX12_young 0 0 9 [(0, .ref a0), (1, .int x1), (2, .int x2), (3, .int x3)] [] n sh z (kI n sh P)) (hf : wX12_young_B9 n sh k9 P a0 x1 x2 x3 z) : V E (gR 1 0) gyX12_young 0 0 9 [(0, .ref a0), (1, .int x1), (2, .int x2), (3, .int x3)] [] n sh z (kI n sh P) := by
  unfold wX12_young_B9 at hf
  refine V_iload_n (j := 3) dX12_young_9 rfl rfl ?_
  refine V_aload_n (j := 0) dX12_young_10 rfl rfl ?_
  obtain ⟨h5, hf⟩ := hf
  refine V_cVI (ctX12_panes hn hf) gc_X12_278 rfl h5.1 ⟨_, h5.2, by decide, rfl⟩ ⟨by decide, by decide, Nat.zero_le _, Nat.zero_le _⟩ (Nat.le_of_ble_eq_true rfl) dX12_young_11 rfl hn (fun r3 z4 hf => ?_)
  refine V_icmp_ge (tgt := 69) dX12_young_14 (by decide) (fun h19 => ?_) (fun h19 => ?_)
  · have hf := it_t h19 hf
    refine V_iload_n (j := 2) dX12_young_69 rfl rfl ?_
    exact V_ireturn dX12_young_70 rfl rfl (Nat.le_refl 0) (kI_of hf)
  · have hf := it_f h19 hf
    refine V_iconst (v := (0 : Int32)) dX12_young_17 (by decide) ?_
    refine V_istore (ls2 := [(4, .int (0 : Int32)), (0, .ref a0), (1, .int x1), (2, .int x2), (3, .int x3)]) dX12_young_18 (by decide) rfl ?_
    obtain ⟨N, hf⟩ := hf
    refine V_to [1, 2, 3, 4, 0] rfl ?_
    exact vX12_young_L20 hn hk9 N _ _ _ _ _ _ hf
set_option maxRecDepth 100000 in
set_option maxHeartbeats 4000000 in
theorem vX12_young_L9 {E : gE} {n : Nat} {sh : Nat → Nat × Nat} {P : Int32 → gS → Prop} (hn : gOK E n) : ∀ (N : Nat) (a0 : Nat) (x1 : Int32) (x2 : Int32) (x3 : Int32) (z : gS), wX12_young_L9 n sh P N a0 x1 x2 x3 z → V E (gR 1 0) gyX12_young 0 0 9 [(0, .ref a0), (1, .int x1), (2, .int x2), (3, .int x3)] [] n sh z (kI n sh P) := by
  intro N
  induction N with
  | zero => intro a0 x1 x2 x3 z hf; exact False.elim hf
  | succ N ih => intro a0 x1 x2 x3 z hf; exact vX12_young_B9 hn ih hf
def wX12_young (n : Nat) (sh : Nat → Nat × Nat) (a0 : Nat) (x1 : Int32) (z : gS) (P : Int32 → gS → Prop) : Prop := (oO n sh a0 8) ∧ (∀ z2 : gS, z2 = si z a0 0 (0 : Int32) → ((∃ N, wX12_young_L9 n sh P N a0 x1 (0 : Int32) (0 : Int32) z2)))
set_option maxRecDepth 100000 in
set_option maxHeartbeats 4000000 in
theorem ctX12_young {E : gE} {n : Nat} {sh : Nat → Nat × Nat} {a0 : Nat} {x1 : Int32} {z : gS} {P : Int32 → gS → Prop} (hn : gOK E n) (hf : wX12_young n sh a0 x1 z P) : VM E 1 0 gyX12_young [.ref a0, .int x1] n sh z (kI n sh P) := by
  unfold wX12_young at hf
  refine VM.of (by decide +kernel) (Nat.le_of_ble_eq_true rfl) (fun _ _ _ h => h.2.2) ?_
  show V E (gR 1 0) gyX12_young 0 0 0 [(0, .ref a0), (1, .int x1)] [] n sh z (kI n sh P)
  refine V_aload_n (j := 0) dX12_young_0 rfl rfl ?_
  refine V_iconst (v := (0 : Int32)) dX12_young_1 (by decide) ?_
  obtain ⟨h1, hf⟩ := hf
  refine V_putI fl_X12_1 rfl rfl rfl rfl h1.1 h1.2 dX12_young_2 ?_
  refine V_nz (fun z2 ez2 => ?_)
  have hf := hf z2 ez2
  refine V_iconst (v := (0 : Int32)) dX12_young_5 (by decide) ?_
  refine V_istore_n (ls2 := [(2, .int (0 : Int32)), (0, .ref a0), (1, .int x1)]) dX12_young_6 rfl (by decide) rfl ?_
  refine V_iconst (v := (0 : Int32)) dX12_young_7 (by decide) ?_
  refine V_istore_n (ls2 := [(3, .int (0 : Int32)), (2, .int (0 : Int32)), (0, .ref a0), (1, .int x1)]) dX12_young_8 rfl (by decide) rfl ?_
  obtain ⟨N, hf⟩ := hf
  refine V_to [2, 3, 1, 0] rfl ?_
  exact vX12_young_L9 hn N _ _ _ _ _ hf
def wX12_bits_B4 (n : Nat) (sh : Nat → Nat × Nat) (k4 : Int32 → Int32 → Int32 → gS → Prop) (P : Int32 → gS → Prop) (x0 : Int32) (x1 : Int32) (x2 : Int32) (z : gS) : Prop := if (30 : Int32) ≤ x2 then P x1 z else (∀ v1 : Int32, v1 = (x1 + ((x0 >>> (x2 &&& 31)) &&& (1 : Int32))) → (∀ v2 : Int32, v2 = x2 + (1 : Int32) → k4 x0 v1 v2 z))
def wX12_bits_L4 (n : Nat) (sh : Nat → Nat × Nat) (P : Int32 → gS → Prop) : Nat → Int32 → Int32 → Int32 → gS → Prop
  | 0, _, _, _, _ => False
  | N + 1, x0, x1, x2, z => wX12_bits_B4 n sh (wX12_bits_L4 n sh P N) P x0 x1 x2 z
set_option maxRecDepth 100000 in
set_option maxHeartbeats 4000000 in
theorem vX12_bits_B4 {E : gE} {n : Nat} {sh : Nat → Nat × Nat} {P : Int32 → gS → Prop} {k4 : Int32 → Int32 → Int32 → gS → Prop} {x0 : Int32} {x1 : Int32} {x2 : Int32} {z : gS} (hn : gOK E n) (hk4 : ∀ (x0 : Int32) (x1 : Int32) (x2 : Int32) (z : gS), k4 x0 x1 x2 z → V E (gR 0 0) gyX12_bits 0 0 4 [(0, .int x0), (1, .int x1), (2, .int x2)] [] n sh z (kI n sh P)) (hf : wX12_bits_B4 n sh k4 P x0 x1 x2 z) : V E (gR 0 0) gyX12_bits 0 0 4 [(0, .int x0), (1, .int x1), (2, .int x2)] [] n sh z (kI n sh P) := by
  unfold wX12_bits_B4 at hf
  refine V_iload_n (j := 2) dX12_bits_4 rfl rfl ?_
  refine V_bipush (v := (30 : Int32)) dX12_bits_5 (by decide) ?_
  refine V_icmp_ge (tgt := 24) dX12_bits_7 (by decide) (fun h3 => ?_) (fun h3 => ?_)
  · have hf := it_t h3 hf
    refine V_iload_n (j := 1) dX12_bits_24 rfl rfl ?_
    exact V_ireturn dX12_bits_25 rfl rfl (Nat.le_refl 0) (kI_of hf)
  · have hf := it_f h3 hf
    refine V_iload_n (j := 1) dX12_bits_10 rfl rfl ?_
    refine V_iload_n (j := 0) dX12_bits_11 rfl rfl ?_
    refine V_iload_n (j := 2) dX12_bits_12 rfl rfl ?_
    refine V_ishr dX12_bits_13 ?_
    refine V_iconst (v := (1 : Int32)) dX12_bits_14 (by decide) ?_
    refine V_iand dX12_bits_15 ?_
    refine V_iadd dX12_bits_16 ?_
    refine V_nI (fun v1 ev1 => ?_)
    have hf := hf v1 ev1
    refine V_istore_n (ls2 := [(1, .int v1), (0, .int x0), (2, .int x2)]) dX12_bits_17 rfl (by decide) rfl ?_
    obtain ⟨v2, ev2⟩ : ∃ y : Int32, y = x2 + (1 : Int32) := ⟨_, rfl⟩
    refine V_iinc (j := 2) (v := v2) (ls2 := [(2, .int v2), (1, .int v1), (0, .int x0)]) dX12_bits_18 rfl (by rw [ev2]; rfl) (by decide) rfl ?_
    have hf := hf v2 ev2
    refine V_goto (tgt := 4) dX12_bits_21 (by decide) ?_
    refine V_to [2, 1, 0] rfl ?_
    exact hk4 _ _ _ _ hf
set_option maxRecDepth 100000 in
set_option maxHeartbeats 4000000 in
theorem vX12_bits_L4 {E : gE} {n : Nat} {sh : Nat → Nat × Nat} {P : Int32 → gS → Prop} (hn : gOK E n) : ∀ (N : Nat) (x0 : Int32) (x1 : Int32) (x2 : Int32) (z : gS), wX12_bits_L4 n sh P N x0 x1 x2 z → V E (gR 0 0) gyX12_bits 0 0 4 [(0, .int x0), (1, .int x1), (2, .int x2)] [] n sh z (kI n sh P) := by
  intro N
  induction N with
  | zero => intro x0 x1 x2 z hf; exact False.elim hf
  | succ N ih => intro x0 x1 x2 z hf; exact vX12_bits_B4 hn ih hf
def wX12_bits (n : Nat) (sh : Nat → Nat × Nat) (x0 : Int32) (z : gS) (P : Int32 → gS → Prop) : Prop := (∃ N, wX12_bits_L4 n sh P N x0 (0 : Int32) (0 : Int32) z)
set_option maxRecDepth 100000 in
set_option maxHeartbeats 4000000 in
theorem ctX12_bits {E : gE} {n : Nat} {sh : Nat → Nat × Nat} {x0 : Int32} {z : gS} {P : Int32 → gS → Prop} (hn : gOK E n) (hf : wX12_bits n sh x0 z P) : VM E 0 0 gyX12_bits [.int x0] n sh z (kI n sh P) := by
  unfold wX12_bits at hf
  refine VM.of (by decide +kernel) (Nat.le_of_ble_eq_true rfl) (fun _ _ _ h => h.2.2) ?_
  show V E (gR 0 0) gyX12_bits 0 0 0 [(0, .int x0)] [] n sh z (kI n sh P)
  refine V_iconst (v := (0 : Int32)) dX12_bits_0 (by decide) ?_
  refine V_istore_n (ls2 := [(1, .int (0 : Int32)), (0, .int x0)]) dX12_bits_1 rfl (by decide) rfl ?_
  refine V_iconst (v := (0 : Int32)) dX12_bits_2 (by decide) ?_
  refine V_istore_n (ls2 := [(2, .int (0 : Int32)), (1, .int (0 : Int32)), (0, .int x0)]) dX12_bits_3 rfl (by decide) rfl ?_
  obtain ⟨N, hf⟩ := hf
  refine V_to [2, 1, 0] rfl ?_
  exact vX12_bits_L4 hn N _ _ _ _ hf
def wX12_cloak_J189 (n : Nat) (sh : Nat → Nat × Nat) (k31 : Nat → Int32 → Int32 → Int32 → Int32 → gS → Prop) (P : Int32 → gS → Prop) (a0 : Nat) (x1 : Int32) (x2 : Int32) (x4 : Int32) (s0 : Int32) (z : gS) : Prop := ∀ v13 : Int32, v13 = x4 + (1 : Int32) → k31 a0 x1 x2 s0 v13 z
set_option maxRecDepth 100000 in
set_option maxHeartbeats 4000000 in
theorem vX12_cloak_J189 {E : gE} {n : Nat} {sh : Nat → Nat × Nat} {P : Int32 → gS → Prop} {k31 : Nat → Int32 → Int32 → Int32 → Int32 → gS → Prop} {a0 : Nat} {x1 : Int32} {x2 : Int32} {x4 : Int32} {s0 : Int32} {z : gS} (hn : gOK E n) (hk31 : ∀ (a0 : Nat) (x1 : Int32) (x2 : Int32) (x3 : Int32) (x4 : Int32) (z : gS), k31 a0 x1 x2 x3 x4 z → V E (gR 3 0) gyX12_cloak 0 0 31 [(0, .ref a0), (1, .int x1), (2, .int x2), (3, .int x3), (4, .int x4)] [] n sh z (kI n sh P)) (hf : wX12_cloak_J189 n sh k31 P a0 x1 x2 x4 s0 z) : V E (gR 3 0) gyX12_cloak 0 0 189 [(0, .ref a0), (1, .int x1), (2, .int x2), (4, .int x4)] [.int s0] n sh z (kI n sh P) := by
  unfold wX12_cloak_J189 at hf
  refine V_istore_n (ls2 := [(3, .int s0), (0, .ref a0), (1, .int x1), (2, .int x2), (4, .int x4)]) dX12_cloak_189 rfl (by decide) rfl ?_
  obtain ⟨v13, ev13⟩ : ∃ y : Int32, y = x4 + (1 : Int32) := ⟨_, rfl⟩
  refine V_iinc (j := 4) (v := v13) (ls2 := [(4, .int v13), (3, .int s0), (0, .ref a0), (1, .int x1), (2, .int x2)]) dX12_cloak_190 rfl (by rw [ev13]; rfl) (by decide) rfl ?_
  have hf := hf v13 ev13
  refine V_goto (tgt := 31) dX12_cloak_193 (by decide) ?_
  refine V_to [2, 3, 4, 1, 0] rfl ?_
  exact hk31 _ _ _ _ _ _ hf
def wX12_cloak_J188 (n : Nat) (sh : Nat → Nat × Nat) (k31 : Nat → Int32 → Int32 → Int32 → Int32 → gS → Prop) (P : Int32 → gS → Prop) (a0 : Nat) (x1 : Int32) (x2 : Int32) (x3 : Int32) (x4 : Int32) (z : gS) : Prop := wX12_cloak_J189 n sh k31 P a0 x1 x2 x4 x3 z
set_option maxRecDepth 100000 in
set_option maxHeartbeats 4000000 in
theorem vX12_cloak_J188 {E : gE} {n : Nat} {sh : Nat → Nat × Nat} {P : Int32 → gS → Prop} {k31 : Nat → Int32 → Int32 → Int32 → Int32 → gS → Prop} {a0 : Nat} {x1 : Int32} {x2 : Int32} {x3 : Int32} {x4 : Int32} {z : gS} (hn : gOK E n) (hk31 : ∀ (a0 : Nat) (x1 : Int32) (x2 : Int32) (x3 : Int32) (x4 : Int32) (z : gS), k31 a0 x1 x2 x3 x4 z → V E (gR 3 0) gyX12_cloak 0 0 31 [(0, .ref a0), (1, .int x1), (2, .int x2), (3, .int x3), (4, .int x4)] [] n sh z (kI n sh P)) (hf : wX12_cloak_J188 n sh k31 P a0 x1 x2 x3 x4 z) : V E (gR 3 0) gyX12_cloak 0 0 188 [(0, .ref a0), (1, .int x1), (2, .int x2), (3, .int x3), (4, .int x4)] [] n sh z (kI n sh P) := by
  unfold wX12_cloak_J188 at hf
  refine V_iload_n (j := 3) dX12_cloak_188 rfl rfl ?_
  refine V_to [0, 1, 2, 4] rfl ?_
  exact vX12_cloak_J189 hn hk31 hf
def wX12_cloak_J159 (n : Nat) (sh : Nat → Nat × Nat) (k31 : Nat → Int32 → Int32 → Int32 → Int32 → gS → Prop) (k71 : Nat → Int32 → Int32 → Int32 → Int32 → Int32 → Int32 → Int32 → gS → Prop) (P : Int32 → gS → Prop) (a0 : Nat) (x1 : Int32) (x2 : Int32) (x3 : Int32) (x4 : Int32) (x5 : Int32) (x7 : Int32) (s0 : Int32) (s1 : Int32) (z : gS) : Prop := ∀ v21 : Int32, v21 = (s1 ||| s0) → (∀ v22 : Int32, v22 = x7 + (1 : Int32) → k71 a0 x1 x2 x3 x4 x5 v21 v22 z)
set_option maxRecDepth 100000 in
set_option maxHeartbeats 4000000 in
theorem vX12_cloak_J159 {E : gE} {n : Nat} {sh : Nat → Nat × Nat} {P : Int32 → gS → Prop} {k31 : Nat → Int32 → Int32 → Int32 → Int32 → gS → Prop} {k71 : Nat → Int32 → Int32 → Int32 → Int32 → Int32 → Int32 → Int32 → gS → Prop} {a0 : Nat} {x1 : Int32} {x2 : Int32} {x3 : Int32} {x4 : Int32} {x5 : Int32} {x7 : Int32} {s0 : Int32} {s1 : Int32} {z : gS} (hn : gOK E n) (hk31 : ∀ (a0 : Nat) (x1 : Int32) (x2 : Int32) (x3 : Int32) (x4 : Int32) (z : gS), k31 a0 x1 x2 x3 x4 z → V E (gR 3 0) gyX12_cloak 0 0 31 [(0, .ref a0), (1, .int x1), (2, .int x2), (3, .int x3), (4, .int x4)] [] n sh z (kI n sh P)) (hk71 : ∀ (a0 : Nat) (x1 : Int32) (x2 : Int32) (x3 : Int32) (x4 : Int32) (x5 : Int32) (x6 : Int32) (x7 : Int32) (z : gS), k71 a0 x1 x2 x3 x4 x5 x6 x7 z → V E (gR 3 0) gyX12_cloak 0 0 71 [(0, .ref a0), (1, .int x1), (2, .int x2), (3, .int x3), (4, .int x4), (5, .int x5), (6, .int x6), (7, .int x7)] [] n sh z (kI n sh P)) (hf : wX12_cloak_J159 n sh k31 k71 P a0 x1 x2 x3 x4 x5 x7 s0 s1 z) : V E (gR 3 0) gyX12_cloak 0 0 159 [(0, .ref a0), (1, .int x1), (2, .int x2), (3, .int x3), (4, .int x4), (5, .int x5), (7, .int x7)] [.int s0, .int s1] n sh z (kI n sh P) := by
  unfold wX12_cloak_J159 at hf
  refine V_ior dX12_cloak_159 ?_
  refine V_nI (fun v21 ev21 => ?_)
  have hf := hf v21 ev21
  refine V_istore (ls2 := [(6, .int v21), (0, .ref a0), (1, .int x1), (2, .int x2), (3, .int x3), (4, .int x4), (5, .int x5), (7, .int x7)]) dX12_cloak_160 (by decide) rfl ?_
  obtain ⟨v22, ev22⟩ : ∃ y : Int32, y = x7 + (1 : Int32) := ⟨_, rfl⟩
  refine V_iinc (j := 7) (v := v22) (ls2 := [(7, .int v22), (6, .int v21), (0, .ref a0), (1, .int x1), (2, .int x2), (3, .int x3), (4, .int x4), (5, .int x5)]) dX12_cloak_162 rfl (by rw [ev22]; rfl) (by decide) rfl ?_
  have hf := hf v22 ev22
  refine V_goto (tgt := 71) dX12_cloak_165 (by decide) ?_
  refine V_to [2, 3, 4, 5, 6, 7, 1, 0] rfl ?_
  exact hk71 _ _ _ _ _ _ _ _ _ hf
def wX12_cloak_J136 (n : Nat) (sh : Nat → Nat × Nat) (k31 : Nat → Int32 → Int32 → Int32 → Int32 → gS → Prop) (k71 : Nat → Int32 → Int32 → Int32 → Int32 → Int32 → Int32 → Int32 → gS → Prop) (P : Int32 → gS → Prop) (a0 : Nat) (x1 : Int32) (x2 : Int32) (x3 : Int32) (x4 : Int32) (x6 : Int32) (x7 : Int32) (x8 : Int32) (s0 : Int32) (z : gS) : Prop := if x8 = 0 then ((oO n sh a0 8) ∧ (wX12_deedsBy n sh a0 (0 : Int32) x7 x1 (6 : Int32) z (fun (r18 : Int32) (z19 : gS) => wX12_cloak_J159 n sh k31 k71 P a0 x1 x2 x3 x4 s0 x7 r18 x6 z19))) else wX12_cloak_J159 n sh k31 k71 P a0 x1 x2 x3 x4 s0 x7 (0 : Int32) x6 z
set_option maxRecDepth 100000 in
set_option maxHeartbeats 4000000 in
theorem vX12_cloak_J136 {E : gE} {n : Nat} {sh : Nat → Nat × Nat} {P : Int32 → gS → Prop} {k31 : Nat → Int32 → Int32 → Int32 → Int32 → gS → Prop} {k71 : Nat → Int32 → Int32 → Int32 → Int32 → Int32 → Int32 → Int32 → gS → Prop} {a0 : Nat} {x1 : Int32} {x2 : Int32} {x3 : Int32} {x4 : Int32} {x6 : Int32} {x7 : Int32} {x8 : Int32} {s0 : Int32} {z : gS} (hn : gOK E n) (hk31 : ∀ (a0 : Nat) (x1 : Int32) (x2 : Int32) (x3 : Int32) (x4 : Int32) (z : gS), k31 a0 x1 x2 x3 x4 z → V E (gR 3 0) gyX12_cloak 0 0 31 [(0, .ref a0), (1, .int x1), (2, .int x2), (3, .int x3), (4, .int x4)] [] n sh z (kI n sh P)) (hk71 : ∀ (a0 : Nat) (x1 : Int32) (x2 : Int32) (x3 : Int32) (x4 : Int32) (x5 : Int32) (x6 : Int32) (x7 : Int32) (z : gS), k71 a0 x1 x2 x3 x4 x5 x6 x7 z → V E (gR 3 0) gyX12_cloak 0 0 71 [(0, .ref a0), (1, .int x1), (2, .int x2), (3, .int x3), (4, .int x4), (5, .int x5), (6, .int x6), (7, .int x7)] [] n sh z (kI n sh P)) (hf : wX12_cloak_J136 n sh k31 k71 P a0 x1 x2 x3 x4 x6 x7 x8 s0 z) : V E (gR 3 0) gyX12_cloak 0 0 136 [(0, .ref a0), (1, .int x1), (2, .int x2), (3, .int x3), (4, .int x4), (6, .int x6), (7, .int x7), (8, .int x8)] [.int s0] n sh z (kI n sh P) := by
  unfold wX12_cloak_J136 at hf
  refine V_istore (ls2 := [(5, .int s0), (0, .ref a0), (1, .int x1), (2, .int x2), (3, .int x3), (4, .int x4), (6, .int x6), (7, .int x7), (8, .int x8)]) dX12_cloak_136 (by decide) rfl ?_
  refine V_iload (j := 6) dX12_cloak_138 rfl ?_
  refine V_iload (j := 8) dX12_cloak_140 rfl ?_
  refine V_if_eq (tgt := 149) dX12_cloak_142 (by decide) (fun h23 => ?_) (fun h23 => ?_)
  · have hf := it_t h23 hf
    refine V_aload_n (j := 1) dX12_cloak_149 rfl rfl ?_
    refine V_iconst (v := (0 : Int32)) dX12_cloak_150 (by decide) ?_
    refine V_iload (j := 7) dX12_cloak_151 rfl ?_
    refine V_iload_n (j := 2) dX12_cloak_153 rfl rfl ?_
    refine V_bipush (v := (6 : Int32)) dX12_cloak_154 (by decide) ?_
    obtain ⟨h20, hf⟩ := hf
    refine V_cVI (ctX12_deedsBy hn hf) gc_X12_330 rfl h20.1 ⟨_, h20.2, by decide, rfl⟩ ⟨by decide, by decide, Nat.zero_le _, Nat.zero_le _⟩ (Nat.le_of_ble_eq_true rfl) dX12_cloak_156 rfl hn (fun r18 z19 hf => ?_)
    refine V_to [1, 2, 3, 4, 5, 0, 7] rfl ?_
    exact vX12_cloak_J159 hn hk31 hk71 hf
  · have hf := it_f h23 hf
    refine V_iconst (v := (0 : Int32)) dX12_cloak_145 (by decide) ?_
    refine V_goto (tgt := 159) dX12_cloak_146 (by decide) ?_
    refine V_to [1, 2, 3, 4, 5, 0, 7] rfl ?_
    exact vX12_cloak_J159 hn hk31 hk71 hf
def wX12_cloak_J135 (n : Nat) (sh : Nat → Nat × Nat) (k31 : Nat → Int32 → Int32 → Int32 → Int32 → gS → Prop) (k71 : Nat → Int32 → Int32 → Int32 → Int32 → Int32 → Int32 → Int32 → gS → Prop) (P : Int32 → gS → Prop) (a0 : Nat) (x1 : Int32) (x2 : Int32) (x3 : Int32) (x4 : Int32) (x6 : Int32) (x7 : Int32) (x8 : Int32) (z : gS) : Prop := wX12_cloak_J136 n sh k31 k71 P a0 x1 x2 x3 x4 x6 x7 x8 (0 : Int32) z
set_option maxRecDepth 100000 in
set_option maxHeartbeats 4000000 in
theorem vX12_cloak_J135 {E : gE} {n : Nat} {sh : Nat → Nat × Nat} {P : Int32 → gS → Prop} {k31 : Nat → Int32 → Int32 → Int32 → Int32 → gS → Prop} {k71 : Nat → Int32 → Int32 → Int32 → Int32 → Int32 → Int32 → Int32 → gS → Prop} {a0 : Nat} {x1 : Int32} {x2 : Int32} {x3 : Int32} {x4 : Int32} {x6 : Int32} {x7 : Int32} {x8 : Int32} {z : gS} (hn : gOK E n) (hk31 : ∀ (a0 : Nat) (x1 : Int32) (x2 : Int32) (x3 : Int32) (x4 : Int32) (z : gS), k31 a0 x1 x2 x3 x4 z → V E (gR 3 0) gyX12_cloak 0 0 31 [(0, .ref a0), (1, .int x1), (2, .int x2), (3, .int x3), (4, .int x4)] [] n sh z (kI n sh P)) (hk71 : ∀ (a0 : Nat) (x1 : Int32) (x2 : Int32) (x3 : Int32) (x4 : Int32) (x5 : Int32) (x6 : Int32) (x7 : Int32) (z : gS), k71 a0 x1 x2 x3 x4 x5 x6 x7 z → V E (gR 3 0) gyX12_cloak 0 0 71 [(0, .ref a0), (1, .int x1), (2, .int x2), (3, .int x3), (4, .int x4), (5, .int x5), (6, .int x6), (7, .int x7)] [] n sh z (kI n sh P)) (hf : wX12_cloak_J135 n sh k31 k71 P a0 x1 x2 x3 x4 x6 x7 x8 z) : V E (gR 3 0) gyX12_cloak 0 0 135 [(0, .ref a0), (1, .int x1), (2, .int x2), (3, .int x3), (4, .int x4), (6, .int x6), (7, .int x7), (8, .int x8)] [] n sh z (kI n sh P) := by
  unfold wX12_cloak_J135 at hf
  refine V_iconst (v := (0 : Int32)) dX12_cloak_135 (by decide) ?_
  exact vX12_cloak_J136 hn hk31 hk71 hf
def wX12_cloak_J131 (n : Nat) (sh : Nat → Nat × Nat) (k31 : Nat → Int32 → Int32 → Int32 → Int32 → gS → Prop) (k71 : Nat → Int32 → Int32 → Int32 → Int32 → Int32 → Int32 → Int32 → gS → Prop) (P : Int32 → gS → Prop) (a0 : Nat) (x1 : Int32) (x2 : Int32) (x3 : Int32) (x4 : Int32) (x6 : Int32) (x7 : Int32) (x8 : Int32) (z : gS) : Prop := wX12_cloak_J136 n sh k31 k71 P a0 x1 x2 x3 x4 x6 x7 x8 (1 : Int32) z
set_option maxRecDepth 100000 in
set_option maxHeartbeats 4000000 in
theorem vX12_cloak_J131 {E : gE} {n : Nat} {sh : Nat → Nat × Nat} {P : Int32 → gS → Prop} {k31 : Nat → Int32 → Int32 → Int32 → Int32 → gS → Prop} {k71 : Nat → Int32 → Int32 → Int32 → Int32 → Int32 → Int32 → Int32 → gS → Prop} {a0 : Nat} {x1 : Int32} {x2 : Int32} {x3 : Int32} {x4 : Int32} {x6 : Int32} {x7 : Int32} {x8 : Int32} {z : gS} (hn : gOK E n) (hk31 : ∀ (a0 : Nat) (x1 : Int32) (x2 : Int32) (x3 : Int32) (x4 : Int32) (z : gS), k31 a0 x1 x2 x3 x4 z → V E (gR 3 0) gyX12_cloak 0 0 31 [(0, .ref a0), (1, .int x1), (2, .int x2), (3, .int x3), (4, .int x4)] [] n sh z (kI n sh P)) (hk71 : ∀ (a0 : Nat) (x1 : Int32) (x2 : Int32) (x3 : Int32) (x4 : Int32) (x5 : Int32) (x6 : Int32) (x7 : Int32) (z : gS), k71 a0 x1 x2 x3 x4 x5 x6 x7 z → V E (gR 3 0) gyX12_cloak 0 0 71 [(0, .ref a0), (1, .int x1), (2, .int x2), (3, .int x3), (4, .int x4), (5, .int x5), (6, .int x6), (7, .int x7)] [] n sh z (kI n sh P)) (hf : wX12_cloak_J131 n sh k31 k71 P a0 x1 x2 x3 x4 x6 x7 x8 z) : V E (gR 3 0) gyX12_cloak 0 0 131 [(0, .ref a0), (1, .int x1), (2, .int x2), (3, .int x3), (4, .int x4), (6, .int x6), (7, .int x7), (8, .int x8)] [] n sh z (kI n sh P) := by
  unfold wX12_cloak_J131 at hf
  refine V_iconst (v := (1 : Int32)) dX12_cloak_131 (by decide) ?_
  refine V_goto (tgt := 136) dX12_cloak_132 (by decide) ?_
  exact vX12_cloak_J136 hn hk31 hk71 hf
def wX12_cloak_J96 (n : Nat) (sh : Nat → Nat × Nat) (k31 : Nat → Int32 → Int32 → Int32 → Int32 → gS → Prop) (k71 : Nat → Int32 → Int32 → Int32 → Int32 → Int32 → Int32 → Int32 → gS → Prop) (P : Int32 → gS → Prop) (a0 : Nat) (x1 : Int32) (x2 : Int32) (x3 : Int32) (x4 : Int32) (x5 : Int32) (x6 : Int32) (x7 : Int32) (s0 : Int32) (z : gS) : Prop := if x5 = 0 then wX12_cloak_J135 n sh k31 k71 P a0 x1 x2 x3 x4 x6 x7 s0 z else (if s0 = 0 then wX12_cloak_J131 n sh k31 k71 P a0 x1 x2 x3 x4 x6 x7 s0 z else ((oO n sh a0 8) ∧ (wX12_isWhole n sh a0 (0 : Int32) x7 z (fun (r24 : Int32) (z25 : gS) => if r24 = 0 then wX12_cloak_J135 n sh k31 k71 P a0 x1 x2 x3 x4 x6 x7 s0 z25 else (∃ t27 : Nat, gr z25 a0 24 = some t27 ∧ ((oA n sh t27 1) ∧ ((vp_in ((6 : Int32) + x7) (sh t27).2) ∧ (if (gi z25 t27 ((6 : Int32) + x7).toNatClampNeg) = 0 then wX12_cloak_J131 n sh k31 k71 P a0 x1 x2 x3 x4 x6 x7 s0 z25 else wX12_cloak_J135 n sh k31 k71 P a0 x1 x2 x3 x4 x6 x7 s0 z25))))))))
set_option maxRecDepth 100000 in
set_option maxHeartbeats 4000000 in
theorem vX12_cloak_J96 {E : gE} {n : Nat} {sh : Nat → Nat × Nat} {P : Int32 → gS → Prop} {k31 : Nat → Int32 → Int32 → Int32 → Int32 → gS → Prop} {k71 : Nat → Int32 → Int32 → Int32 → Int32 → Int32 → Int32 → Int32 → gS → Prop} {a0 : Nat} {x1 : Int32} {x2 : Int32} {x3 : Int32} {x4 : Int32} {x5 : Int32} {x6 : Int32} {x7 : Int32} {s0 : Int32} {z : gS} (hn : gOK E n) (hk31 : ∀ (a0 : Nat) (x1 : Int32) (x2 : Int32) (x3 : Int32) (x4 : Int32) (z : gS), k31 a0 x1 x2 x3 x4 z → V E (gR 3 0) gyX12_cloak 0 0 31 [(0, .ref a0), (1, .int x1), (2, .int x2), (3, .int x3), (4, .int x4)] [] n sh z (kI n sh P)) (hk71 : ∀ (a0 : Nat) (x1 : Int32) (x2 : Int32) (x3 : Int32) (x4 : Int32) (x5 : Int32) (x6 : Int32) (x7 : Int32) (z : gS), k71 a0 x1 x2 x3 x4 x5 x6 x7 z → V E (gR 3 0) gyX12_cloak 0 0 71 [(0, .ref a0), (1, .int x1), (2, .int x2), (3, .int x3), (4, .int x4), (5, .int x5), (6, .int x6), (7, .int x7)] [] n sh z (kI n sh P)) (hf : wX12_cloak_J96 n sh k31 k71 P a0 x1 x2 x3 x4 x5 x6 x7 s0 z) : V E (gR 3 0) gyX12_cloak 0 0 96 [(0, .ref a0), (1, .int x1), (2, .int x2), (3, .int x3), (4, .int x4), (5, .int x5), (6, .int x6), (7, .int x7)] [.int s0] n sh z (kI n sh P) := by
  unfold wX12_cloak_J96 at hf
  refine V_istore (ls2 := [(8, .int s0), (0, .ref a0), (1, .int x1), (2, .int x2), (3, .int x3), (4, .int x4), (5, .int x5), (6, .int x6), (7, .int x7)]) dX12_cloak_96 (by decide) rfl ?_
  refine V_iload (j := 6) dX12_cloak_98 rfl ?_
  refine V_if_eq (tgt := 135) dX12_cloak_100 (by decide) (fun h33 => ?_) (fun h33 => ?_)
  · have hf := it_t h33 hf
    refine V_to [1, 2, 3, 4, 5, 7, 8, 0] rfl ?_
    exact vX12_cloak_J135 hn hk31 hk71 hf
  · have hf := it_f h33 hf
    refine V_iload (j := 0) dX12_cloak_103 rfl ?_
    refine V_if_eq (tgt := 131) dX12_cloak_105 (by decide) (fun h32 => ?_) (fun h32 => ?_)
    · have hf := it_t h32 hf
      refine V_to [1, 2, 3, 4, 5, 7, 8, 0] rfl ?_
      exact vX12_cloak_J131 hn hk31 hk71 hf
    · have hf := it_f h32 hf
      refine V_aload_n (j := 1) dX12_cloak_108 rfl rfl ?_
      refine V_iconst (v := (0 : Int32)) dX12_cloak_109 (by decide) ?_
      refine V_iload (j := 8) dX12_cloak_110 rfl ?_
      obtain ⟨h26, hf⟩ := hf
      refine V_cVI (ctX12_isWhole hn hf) gc_X12_287 rfl h26.1 ⟨_, h26.2, by decide, rfl⟩ ⟨by decide, by decide, Nat.zero_le _, Nat.zero_le _⟩ (Nat.le_of_ble_eq_true rfl) dX12_cloak_112 rfl hn (fun r24 z25 hf => ?_)
      refine V_if_eq (tgt := 135) dX12_cloak_115 (by decide) (fun h31 => ?_) (fun h31 => ?_)
      · have hf := it_t h31 hf
        refine V_to [1, 2, 3, 4, 5, 7, 8, 0] rfl ?_
        exact vX12_cloak_J135 hn hk31 hk71 hf
      · have hf := it_f h31 hf
        refine V_aload_n (j := 1) dX12_cloak_118 rfl rfl ?_
        obtain ⟨t27, et27, hf⟩ := hf
        refine V_getR fl_X12_119 rfl h26.1 h26.2 et27 dX12_cloak_119 ?_
        refine V_bipush (v := (6 : Int32)) dX12_cloak_122 (by decide) ?_
        refine V_iload (j := 8) dX12_cloak_124 rfl ?_
        refine V_iadd dX12_cloak_126 ?_
        obtain ⟨h28, hf⟩ := hf
        obtain ⟨h29, hf⟩ := hf
        refine V_iald h28.1 h28.s h29 dX12_cloak_127 ?_
        refine V_if_ne (tgt := 135) dX12_cloak_128 (by decide) (fun h30 => ?_) (fun h30 => ?_)
        · have hf := it_f h30 hf
          refine V_to [1, 2, 3, 4, 5, 7, 8, 0] rfl ?_
          exact vX12_cloak_J135 hn hk31 hk71 hf
        · have hf := it_t (Classical.not_not.mp h30) hf
          refine V_to [1, 2, 3, 4, 5, 7, 8, 0] rfl ?_
          exact vX12_cloak_J131 hn hk31 hk71 hf
def wX12_cloak_B71 (n : Nat) (sh : Nat → Nat × Nat) (k31 : Nat → Int32 → Int32 → Int32 → Int32 → gS → Prop) (k71 : Nat → Int32 → Int32 → Int32 → Int32 → Int32 → Int32 → Int32 → gS → Prop) (P : Int32 → gS → Prop) (a0 : Nat) (x1 : Int32) (x2 : Int32) (x3 : Int32) (x4 : Int32) (x5 : Int32) (x6 : Int32) (x7 : Int32) (z : gS) : Prop := (oO n sh a0 8) ∧ (wX12_panes n sh a0 z (fun (r10 : Int32) (z11 : gS) => if r10 ≤ x7 then (if x5 = 0 then wX12_cloak_J188 n sh k31 P a0 x1 x2 x3 x4 z11 else (wX12_harmOf n sh a0 x6 z11 (fun (r14 : Int32) (z15 : gS) => if x2 < r14 then wX12_cloak_J188 n sh k31 P a0 x1 x2 x3 x4 z15 else wX12_cloak_J189 n sh k31 P a0 x1 x2 x4 x4 z15))) else (if ((x4 >>> (x7 &&& 31)) &&& (1 : Int32)) = (1 : Int32) then wX12_cloak_J96 n sh k31 k71 P a0 x1 x2 x3 x4 x5 x6 x7 (1 : Int32) z11 else wX12_cloak_J96 n sh k31 k71 P a0 x1 x2 x3 x4 x5 x6 x7 (0 : Int32) z11)))
def wX12_cloak_L71 (n : Nat) (sh : Nat → Nat × Nat) (k31 : Nat → Int32 → Int32 → Int32 → Int32 → gS → Prop) (P : Int32 → gS → Prop) : Nat → Nat → Int32 → Int32 → Int32 → Int32 → Int32 → Int32 → Int32 → gS → Prop
  | 0, _, _, _, _, _, _, _, _, _ => False
  | N + 1, a0, x1, x2, x3, x4, x5, x6, x7, z => wX12_cloak_B71 n sh k31 (wX12_cloak_L71 n sh k31 P N) P a0 x1 x2 x3 x4 x5 x6 x7 z
set_option maxRecDepth 100000 in
set_option maxHeartbeats 4000000 in
theorem vX12_cloak_B71 {E : gE} {n : Nat} {sh : Nat → Nat × Nat} {P : Int32 → gS → Prop} {k31 : Nat → Int32 → Int32 → Int32 → Int32 → gS → Prop} {k71 : Nat → Int32 → Int32 → Int32 → Int32 → Int32 → Int32 → Int32 → gS → Prop} {a0 : Nat} {x1 : Int32} {x2 : Int32} {x3 : Int32} {x4 : Int32} {x5 : Int32} {x6 : Int32} {x7 : Int32} {z : gS} (hn : gOK E n) (hk31 : ∀ (a0 : Nat) (x1 : Int32) (x2 : Int32) (x3 : Int32) (x4 : Int32) (z : gS), k31 a0 x1 x2 x3 x4 z → V E (gR 3 0) gyX12_cloak 0 0 31 [(0, .ref a0), (1, .int x1), (2, .int x2), (3, .int x3), (4, .int x4)] [] n sh z (kI n sh P)) (hk71 : ∀ (a0 : Nat) (x1 : Int32) (x2 : Int32) (x3 : Int32) (x4 : Int32) (x5 : Int32) (x6 : Int32) (x7 : Int32) (z : gS), k71 a0 x1 x2 x3 x4 x5 x6 x7 z → V E (gR 3 0) gyX12_cloak 0 0 71 [(0, .ref a0), (1, .int x1), (2, .int x2), (3, .int x3), (4, .int x4), (5, .int x5), (6, .int x6), (7, .int x7)] [] n sh z (kI n sh P)) (hf : wX12_cloak_B71 n sh k31 k71 P a0 x1 x2 x3 x4 x5 x6 x7 z) : V E (gR 3 0) gyX12_cloak 0 0 71 [(0, .ref a0), (1, .int x1), (2, .int x2), (3, .int x3), (4, .int x4), (5, .int x5), (6, .int x6), (7, .int x7)] [] n sh z (kI n sh P) := by
  unfold wX12_cloak_B71 at hf
  refine V_iload (j := 7) dX12_cloak_71 rfl ?_
  refine V_aload_n (j := 0) dX12_cloak_73 rfl rfl ?_
  obtain ⟨h12, hf⟩ := hf
  refine V_cVI (ctX12_panes hn hf) gc_X12_278 rfl h12.1 ⟨_, h12.2, by decide, rfl⟩ ⟨by decide, by decide, Nat.zero_le _, Nat.zero_le _⟩ (Nat.le_of_ble_eq_true rfl) dX12_cloak_74 rfl hn (fun r10 z11 hf => ?_)
  refine V_icmp_ge (tgt := 168) dX12_cloak_77 (by decide) (fun h35 => ?_) (fun h35 => ?_)
  · have hf := it_t h35 hf
    refine V_iload (j := 5) dX12_cloak_168 rfl ?_
    refine V_if_eq (tgt := 188) dX12_cloak_170 (by decide) (fun h17 => ?_) (fun h17 => ?_)
    · have hf := it_t h17 hf
      refine V_to [0, 1, 2, 3, 4] rfl ?_
      exact vX12_cloak_J188 hn hk31 hf
    · have hf := it_f h17 hf
      refine V_aload_n (j := 0) dX12_cloak_173 rfl rfl ?_
      refine V_iload (j := 6) dX12_cloak_174 rfl ?_
      refine V_cVI (ctX12_harmOf hn hf) gc_X12_334 rfl h12.1 ⟨_, h12.2, by decide, rfl⟩ ⟨by decide, by decide, Nat.zero_le _, Nat.zero_le _⟩ (Nat.le_of_ble_eq_true rfl) dX12_cloak_176 rfl hn (fun r14 z15 hf => ?_)
      refine V_iload_n (j := 2) dX12_cloak_179 rfl rfl ?_
      refine V_icmp_gt (tgt := 188) dX12_cloak_180 (by decide) (fun h16 => ?_) (fun h16 => ?_)
      · have hf := it_t h16 hf
        refine V_to [0, 1, 2, 3, 4] rfl ?_
        exact vX12_cloak_J188 hn hk31 hf
      · have hf := it_f h16 hf
        refine V_iload (j := 4) dX12_cloak_183 rfl ?_
        refine V_goto (tgt := 189) dX12_cloak_185 (by decide) ?_
        refine V_to [0, 1, 2, 4] rfl ?_
        exact vX12_cloak_J189 hn hk31 hf
  · have hf := it_f h35 hf
    refine V_iload (j := 4) dX12_cloak_80 rfl ?_
    refine V_iload (j := 7) dX12_cloak_82 rfl ?_
    refine V_ishr dX12_cloak_84 ?_
    refine V_iconst (v := (1 : Int32)) dX12_cloak_85 (by decide) ?_
    refine V_iand dX12_cloak_86 ?_
    refine V_iconst (v := (1 : Int32)) dX12_cloak_87 (by decide) ?_
    refine V_icmp_ne (tgt := 95) dX12_cloak_88 (by decide) (fun h34 => ?_) (fun h34 => ?_)
    · have hf := it_f h34 hf
      refine V_iconst (v := (0 : Int32)) dX12_cloak_95 (by decide) ?_
      exact vX12_cloak_J96 hn hk31 hk71 hf
    · have hf := it_t (Classical.not_not.mp h34) hf
      refine V_iconst (v := (1 : Int32)) dX12_cloak_91 (by decide) ?_
      refine V_goto (tgt := 96) dX12_cloak_92 (by decide) ?_
      exact vX12_cloak_J96 hn hk31 hk71 hf
set_option maxRecDepth 100000 in
set_option maxHeartbeats 4000000 in
theorem vX12_cloak_L71 {E : gE} {n : Nat} {sh : Nat → Nat × Nat} {P : Int32 → gS → Prop} {k31 : Nat → Int32 → Int32 → Int32 → Int32 → gS → Prop} (hn : gOK E n) (hk31 : ∀ (a0 : Nat) (x1 : Int32) (x2 : Int32) (x3 : Int32) (x4 : Int32) (z : gS), k31 a0 x1 x2 x3 x4 z → V E (gR 3 0) gyX12_cloak 0 0 31 [(0, .ref a0), (1, .int x1), (2, .int x2), (3, .int x3), (4, .int x4)] [] n sh z (kI n sh P)) : ∀ (N : Nat) (a0 : Nat) (x1 : Int32) (x2 : Int32) (x3 : Int32) (x4 : Int32) (x5 : Int32) (x6 : Int32) (x7 : Int32) (z : gS), wX12_cloak_L71 n sh k31 P N a0 x1 x2 x3 x4 x5 x6 x7 z → V E (gR 3 0) gyX12_cloak 0 0 71 [(0, .ref a0), (1, .int x1), (2, .int x2), (3, .int x3), (4, .int x4), (5, .int x5), (6, .int x6), (7, .int x7)] [] n sh z (kI n sh P) := by
  intro N
  induction N with
  | zero => intro a0 x1 x2 x3 x4 x5 x6 x7 z hf; exact False.elim hf
  | succ N ih => intro a0 x1 x2 x3 x4 x5 x6 x7 z hf; exact vX12_cloak_B71 hn hk31 ih hf
def wX12_cloak_J63 (n : Nat) (sh : Nat → Nat × Nat) (k31 : Nat → Int32 → Int32 → Int32 → Int32 → gS → Prop) (P : Int32 → gS → Prop) (a0 : Nat) (x1 : Int32) (x2 : Int32) (x3 : Int32) (x4 : Int32) (s0 : Int32) (z : gS) : Prop := (∃ N, wX12_cloak_L71 n sh k31 P N a0 x1 x2 x3 x4 s0 (0 : Int32) (0 : Int32) z)
set_option maxRecDepth 100000 in
set_option maxHeartbeats 4000000 in
theorem vX12_cloak_J63 {E : gE} {n : Nat} {sh : Nat → Nat × Nat} {P : Int32 → gS → Prop} {k31 : Nat → Int32 → Int32 → Int32 → Int32 → gS → Prop} {a0 : Nat} {x1 : Int32} {x2 : Int32} {x3 : Int32} {x4 : Int32} {s0 : Int32} {z : gS} (hn : gOK E n) (hk31 : ∀ (a0 : Nat) (x1 : Int32) (x2 : Int32) (x3 : Int32) (x4 : Int32) (z : gS), k31 a0 x1 x2 x3 x4 z → V E (gR 3 0) gyX12_cloak 0 0 31 [(0, .ref a0), (1, .int x1), (2, .int x2), (3, .int x3), (4, .int x4)] [] n sh z (kI n sh P)) (hf : wX12_cloak_J63 n sh k31 P a0 x1 x2 x3 x4 s0 z) : V E (gR 3 0) gyX12_cloak 0 0 63 [(0, .ref a0), (1, .int x1), (2, .int x2), (3, .int x3), (4, .int x4)] [.int s0] n sh z (kI n sh P) := by
  unfold wX12_cloak_J63 at hf
  refine V_istore (ls2 := [(5, .int s0), (0, .ref a0), (1, .int x1), (2, .int x2), (3, .int x3), (4, .int x4)]) dX12_cloak_63 (by decide) rfl ?_
  refine V_iconst (v := (0 : Int32)) dX12_cloak_65 (by decide) ?_
  refine V_istore (ls2 := [(6, .int (0 : Int32)), (5, .int s0), (0, .ref a0), (1, .int x1), (2, .int x2), (3, .int x3), (4, .int x4)]) dX12_cloak_66 (by decide) rfl ?_
  refine V_iconst (v := (0 : Int32)) dX12_cloak_68 (by decide) ?_
  refine V_istore (ls2 := [(7, .int (0 : Int32)), (6, .int (0 : Int32)), (5, .int s0), (0, .ref a0), (1, .int x1), (2, .int x2), (3, .int x3), (4, .int x4)]) dX12_cloak_69 (by decide) rfl ?_
  obtain ⟨N, hf⟩ := hf
  refine V_to [3, 4, 5, 6, 7, 2, 1, 0] rfl ?_
  exact vX12_cloak_L71 hn hk31 N _ _ _ _ _ _ _ _ _ hf
def wX12_cloak_J58 (n : Nat) (sh : Nat → Nat × Nat) (k31 : Nat → Int32 → Int32 → Int32 → Int32 → gS → Prop) (P : Int32 → gS → Prop) (a0 : Nat) (x1 : Int32) (x2 : Int32) (x3 : Int32) (x4 : Int32) (z : gS) : Prop := wX12_cloak_J63 n sh k31 P a0 x1 x2 x3 x4 (1 : Int32) z
set_option maxRecDepth 100000 in
set_option maxHeartbeats 4000000 in
theorem vX12_cloak_J58 {E : gE} {n : Nat} {sh : Nat → Nat × Nat} {P : Int32 → gS → Prop} {k31 : Nat → Int32 → Int32 → Int32 → Int32 → gS → Prop} {a0 : Nat} {x1 : Int32} {x2 : Int32} {x3 : Int32} {x4 : Int32} {z : gS} (hn : gOK E n) (hk31 : ∀ (a0 : Nat) (x1 : Int32) (x2 : Int32) (x3 : Int32) (x4 : Int32) (z : gS), k31 a0 x1 x2 x3 x4 z → V E (gR 3 0) gyX12_cloak 0 0 31 [(0, .ref a0), (1, .int x1), (2, .int x2), (3, .int x3), (4, .int x4)] [] n sh z (kI n sh P)) (hf : wX12_cloak_J58 n sh k31 P a0 x1 x2 x3 x4 z) : V E (gR 3 0) gyX12_cloak 0 0 58 [(0, .ref a0), (1, .int x1), (2, .int x2), (3, .int x3), (4, .int x4)] [] n sh z (kI n sh P) := by
  unfold wX12_cloak_J58 at hf
  refine V_iconst (v := (1 : Int32)) dX12_cloak_58 (by decide) ?_
  refine V_goto (tgt := 63) dX12_cloak_59 (by decide) ?_
  exact vX12_cloak_J63 hn hk31 hf
def wX12_cloak_B31 (n : Nat) (sh : Nat → Nat × Nat) (k31 : Nat → Int32 → Int32 → Int32 → Int32 → gS → Prop) (P : Int32 → gS → Prop) (a0 : Nat) (x1 : Int32) (x2 : Int32) (x3 : Int32) (x4 : Int32) (z : gS) : Prop := (oO n sh a0 8) ∧ (wX12_panes n sh a0 z (fun (r7 : Int32) (z8 : gS) => if ((1 : Int32) <<< (r7 &&& 31)) ≤ x4 then P x3 z8 else (if x3 < 0 then wX12_cloak_J58 n sh k31 P a0 x1 x2 x3 x4 z8 else (wX12_bits n sh x4 z8 (fun (r36 : Int32) (z37 : gS) => wX12_bits n sh x3 z37 (fun (r38 : Int32) (z39 : gS) => if r38 ≤ r36 then wX12_cloak_J63 n sh k31 P a0 x1 x2 x3 x4 (0 : Int32) z39 else wX12_cloak_J58 n sh k31 P a0 x1 x2 x3 x4 z39))))))
def wX12_cloak_L31 (n : Nat) (sh : Nat → Nat × Nat) (P : Int32 → gS → Prop) : Nat → Nat → Int32 → Int32 → Int32 → Int32 → gS → Prop
  | 0, _, _, _, _, _, _ => False
  | N + 1, a0, x1, x2, x3, x4, z => wX12_cloak_B31 n sh (wX12_cloak_L31 n sh P N) P a0 x1 x2 x3 x4 z
set_option maxRecDepth 100000 in
set_option maxHeartbeats 4000000 in
theorem vX12_cloak_B31 {E : gE} {n : Nat} {sh : Nat → Nat × Nat} {P : Int32 → gS → Prop} {k31 : Nat → Int32 → Int32 → Int32 → Int32 → gS → Prop} {a0 : Nat} {x1 : Int32} {x2 : Int32} {x3 : Int32} {x4 : Int32} {z : gS} (hn : gOK E n) (hk31 : ∀ (a0 : Nat) (x1 : Int32) (x2 : Int32) (x3 : Int32) (x4 : Int32) (z : gS), k31 a0 x1 x2 x3 x4 z → V E (gR 3 0) gyX12_cloak 0 0 31 [(0, .ref a0), (1, .int x1), (2, .int x2), (3, .int x3), (4, .int x4)] [] n sh z (kI n sh P)) (hf : wX12_cloak_B31 n sh k31 P a0 x1 x2 x3 x4 z) : V E (gR 3 0) gyX12_cloak 0 0 31 [(0, .ref a0), (1, .int x1), (2, .int x2), (3, .int x3), (4, .int x4)] [] n sh z (kI n sh P) := by
  unfold wX12_cloak_B31 at hf
  refine V_iload (j := 4) dX12_cloak_31 rfl ?_
  refine V_iconst (v := (1 : Int32)) dX12_cloak_33 (by decide) ?_
  refine V_aload_n (j := 0) dX12_cloak_34 rfl rfl ?_
  obtain ⟨h9, hf⟩ := hf
  refine V_cVI (ctX12_panes hn hf) gc_X12_278 rfl h9.1 ⟨_, h9.2, by decide, rfl⟩ ⟨by decide, by decide, Nat.zero_le _, Nat.zero_le _⟩ (Nat.le_of_ble_eq_true rfl) dX12_cloak_35 rfl hn (fun r7 z8 hf => ?_)
  refine V_ishl dX12_cloak_38 ?_
  refine V_icmp_ge (tgt := 196) dX12_cloak_39 (by decide) (fun h42 => ?_) (fun h42 => ?_)
  · have hf := it_t h42 hf
    refine V_iload_n (j := 3) dX12_cloak_196 rfl rfl ?_
    exact V_ireturn dX12_cloak_197 rfl rfl (Nat.le_refl 0) (kI_of hf)
  · have hf := it_f h42 hf
    refine V_iload_n (j := 3) dX12_cloak_42 rfl rfl ?_
    refine V_if_lt (tgt := 58) dX12_cloak_43 (by decide) (fun h41 => ?_) (fun h41 => ?_)
    · have hf := it_t h41 hf
      exact vX12_cloak_J58 hn hk31 hf
    · have hf := it_f h41 hf
      refine V_iload (j := 4) dX12_cloak_46 rfl ?_
      refine V_cSI (ctX12_bits hn hf) gc_X12_374 rfl ⟨by decide, by decide, Nat.zero_le _, Nat.zero_le _⟩ (Nat.le_of_ble_eq_true rfl) dX12_cloak_48 rfl hn (fun r36 z37 hf => ?_)
      refine V_iload_n (j := 3) dX12_cloak_51 rfl rfl ?_
      refine V_cSI (ctX12_bits hn hf) gc_X12_374 rfl ⟨by decide, by decide, Nat.zero_le _, Nat.zero_le _⟩ (Nat.le_of_ble_eq_true rfl) dX12_cloak_52 rfl hn (fun r38 z39 hf => ?_)
      refine V_icmp_ge (tgt := 62) dX12_cloak_55 (by decide) (fun h40 => ?_) (fun h40 => ?_)
      · have hf := it_t h40 hf
        refine V_iconst (v := (0 : Int32)) dX12_cloak_62 (by decide) ?_
        exact vX12_cloak_J63 hn hk31 hf
      · have hf := it_f h40 hf
        exact vX12_cloak_J58 hn hk31 hf
set_option maxRecDepth 100000 in
set_option maxHeartbeats 4000000 in
theorem vX12_cloak_L31 {E : gE} {n : Nat} {sh : Nat → Nat × Nat} {P : Int32 → gS → Prop} (hn : gOK E n) : ∀ (N : Nat) (a0 : Nat) (x1 : Int32) (x2 : Int32) (x3 : Int32) (x4 : Int32) (z : gS), wX12_cloak_L31 n sh P N a0 x1 x2 x3 x4 z → V E (gR 3 0) gyX12_cloak 0 0 31 [(0, .ref a0), (1, .int x1), (2, .int x2), (3, .int x3), (4, .int x4)] [] n sh z (kI n sh P) := by
  intro N
  induction N with
  | zero => intro a0 x1 x2 x3 x4 z hf; exact False.elim hf
  | succ N ih => intro a0 x1 x2 x3 x4 z hf; exact vX12_cloak_B31 hn ih hf
def wX12_cloak (n : Nat) (sh : Nat → Nat × Nat) (a0 : Nat) (x1 : Int32) (x2 : Int32) (z : gS) (P : Int32 → gS → Prop) : Prop := (oO n sh a0 8) ∧ (∀ z2 : gS, z2 = si z a0 0 (0 : Int32) → (wX12_isPerson n sh a0 x1 z2 (fun (r3 : Int32) (z4 : gS) => if r3 = 0 then P (-1 : Int32) z4 else (wX12_within n sh x2 (0 : Int32) (495 : Int32) z4 (fun (r5 : Int32) (z6 : gS) => if r5 = 0 then P (-1 : Int32) z6 else ((∃ N, wX12_cloak_L31 n sh P N a0 x1 x2 (-1 : Int32) (0 : Int32) z6)))))))
set_option maxRecDepth 100000 in
set_option maxHeartbeats 4000000 in
theorem ctX12_cloak {E : gE} {n : Nat} {sh : Nat → Nat × Nat} {a0 : Nat} {x1 : Int32} {x2 : Int32} {z : gS} {P : Int32 → gS → Prop} (hn : gOK E n) (hf : wX12_cloak n sh a0 x1 x2 z P) : VM E 3 0 gyX12_cloak [.ref a0, .int x1, .int x2] n sh z (kI n sh P) := by
  unfold wX12_cloak at hf
  refine VM.of (by decide +kernel) (Nat.le_of_ble_eq_true rfl) (fun _ _ _ h => h.2.2) ?_
  show V E (gR 3 0) gyX12_cloak 0 0 0 [(0, .ref a0), (1, .int x1), (2, .int x2)] [] n sh z (kI n sh P)
  refine V_aload_n (j := 0) dX12_cloak_0 rfl rfl ?_
  refine V_iconst (v := (0 : Int32)) dX12_cloak_1 (by decide) ?_
  obtain ⟨h1, hf⟩ := hf
  refine V_putI fl_X12_1 rfl rfl rfl rfl h1.1 h1.2 dX12_cloak_2 ?_
  refine V_nz (fun z2 ez2 => ?_)
  have hf := hf z2 ez2
  refine V_aload_n (j := 0) dX12_cloak_5 rfl rfl ?_
  refine V_iload_n (j := 1) dX12_cloak_6 rfl rfl ?_
  refine V_cVI (ctX12_isPerson hn hf) gc_X12_343 rfl h1.1 ⟨_, h1.2, by decide, rfl⟩ ⟨by decide, by decide, Nat.zero_le _, Nat.zero_le _⟩ (Nat.le_of_ble_eq_true rfl) dX12_cloak_7 rfl hn (fun r3 z4 hf => ?_)
  refine V_if_eq (tgt := 24) dX12_cloak_10 (by decide) (fun h44 => ?_) (fun h44 => ?_)
  · have hf := it_t h44 hf
    refine V_iconst (v := (-1 : Int32)) dX12_cloak_24 (by decide) ?_
    exact V_ireturn dX12_cloak_25 rfl rfl (Nat.le_refl 0) (kI_of hf)
  · have hf := it_f h44 hf
    refine V_iload_n (j := 2) dX12_cloak_13 rfl rfl ?_
    refine V_iconst (v := (0 : Int32)) dX12_cloak_14 (by decide) ?_
    refine V_sipush (v := (495 : Int32)) dX12_cloak_15 (by decide) ?_
    refine V_cSI (ctX12_within hn hf) gc_X12_198 rfl ⟨by decide, by decide, Nat.zero_le _, Nat.zero_le _⟩ (Nat.le_of_ble_eq_true rfl) dX12_cloak_18 rfl hn (fun r5 z6 hf => ?_)
    refine V_if_ne (tgt := 26) dX12_cloak_21 (by decide) (fun h43 => ?_) (fun h43 => ?_)
    · have hf := it_f h43 hf
      refine V_iconst (v := (-1 : Int32)) dX12_cloak_26 (by decide) ?_
      refine V_istore_n (ls2 := [(3, .int (-1 : Int32)), (0, .ref a0), (1, .int x1), (2, .int x2)]) dX12_cloak_27 rfl (by decide) rfl ?_
      refine V_iconst (v := (0 : Int32)) dX12_cloak_28 (by decide) ?_
      refine V_istore (ls2 := [(4, .int (0 : Int32)), (3, .int (-1 : Int32)), (0, .ref a0), (1, .int x1), (2, .int x2)]) dX12_cloak_29 (by decide) rfl ?_
      obtain ⟨N, hf⟩ := hf
      refine V_to [2, 3, 4, 1, 0] rfl ?_
      exact vX12_cloak_L31 hn N _ _ _ _ _ _ hf
    · have hf := it_t (Classical.not_not.mp h43) hf
      refine V_iconst (v := (-1 : Int32)) dX12_cloak_24 (by decide) ?_
      exact V_ireturn dX12_cloak_25 rfl rfl (Nat.le_refl 0) (kI_of hf)
def wX12_hide_J133 (n : Nat) (sh : Nat → Nat × Nat) (P : Int32 → gS → Prop) (x3 : Int32) (z : gS) : Prop := P x3 z
set_option maxRecDepth 100000 in
set_option maxHeartbeats 4000000 in
theorem vX12_hide_J133 {E : gE} {n : Nat} {sh : Nat → Nat × Nat} {P : Int32 → gS → Prop} {x3 : Int32} {z : gS} (hn : gOK E n) (hf : wX12_hide_J133 n sh P x3 z) : V E (gR 4 0) gyX12_hide 0 0 133 [(3, .int x3)] [] n sh z (kI n sh P) := by
  unfold wX12_hide_J133 at hf
  refine V_iload_n (j := 0) dX12_hide_133 rfl rfl ?_
  refine V_goto (tgt := 139) dX12_hide_134 (by decide) ?_
  exact V_ireturn dX12_hide_139 rfl rfl (Nat.le_refl 0) (kI_of hf)
def wX12_hide_J116 (n : Nat) (sh : Nat → Nat × Nat) (k33 : Nat → Int32 → Int32 → Int32 → Int32 → Int32 → gS → Prop) (P : Int32 → gS → Prop) (a0 : Nat) (x1 : Int32) (x2 : Int32) (x3 : Int32) (x5 : Int32) (s0 : Int32) (z : gS) : Prop := ∀ v17 : Int32, v17 = x5 + (1 : Int32) → k33 a0 x1 x2 x3 s0 v17 z
set_option maxRecDepth 100000 in
set_option maxHeartbeats 4000000 in
theorem vX12_hide_J116 {E : gE} {n : Nat} {sh : Nat → Nat × Nat} {P : Int32 → gS → Prop} {k33 : Nat → Int32 → Int32 → Int32 → Int32 → Int32 → gS → Prop} {a0 : Nat} {x1 : Int32} {x2 : Int32} {x3 : Int32} {x5 : Int32} {s0 : Int32} {z : gS} (hn : gOK E n) (hk33 : ∀ (a0 : Nat) (x1 : Int32) (x2 : Int32) (x3 : Int32) (x4 : Int32) (x5 : Int32) (z : gS), k33 a0 x1 x2 x3 x4 x5 z → V E (gR 4 0) gyX12_hide 0 0 33 [(0, .ref a0), (1, .int x1), (2, .int x2), (3, .int x3), (4, .int x4), (5, .int x5)] [] n sh z (kI n sh P)) (hf : wX12_hide_J116 n sh k33 P a0 x1 x2 x3 x5 s0 z) : V E (gR 4 0) gyX12_hide 0 0 116 [(0, .ref a0), (1, .int x1), (2, .int x2), (3, .int x3), (5, .int x5)] [.int s0] n sh z (kI n sh P) := by
  unfold wX12_hide_J116 at hf
  refine V_istore (ls2 := [(4, .int s0), (0, .ref a0), (1, .int x1), (2, .int x2), (3, .int x3), (5, .int x5)]) dX12_hide_116 (by decide) rfl ?_
  obtain ⟨v17, ev17⟩ : ∃ y : Int32, y = x5 + (1 : Int32) := ⟨_, rfl⟩
  refine V_iinc (j := 5) (v := v17) (ls2 := [(5, .int v17), (4, .int s0), (0, .ref a0), (1, .int x1), (2, .int x2), (3, .int x3)]) dX12_hide_118 rfl (by rw [ev17]; rfl) (by decide) rfl ?_
  have hf := hf v17 ev17
  refine V_goto (tgt := 33) dX12_hide_121 (by decide) ?_
  refine V_to [2, 3, 4, 5, 1, 0] rfl ?_
  exact hk33 _ _ _ _ _ _ _ hf
def wX12_hide_J103 (n : Nat) (sh : Nat → Nat × Nat) (k33 : Nat → Int32 → Int32 → Int32 → Int32 → Int32 → gS → Prop) (P : Int32 → gS → Prop) (a0 : Nat) (x1 : Int32) (x2 : Int32) (x4 : Int32) (x5 : Int32) (x6 : Int32) (x7 : Int32) (s0 : Int32) (z : gS) : Prop := if x7 = 0 then wX12_hide_J116 n sh k33 P a0 x1 x2 s0 x5 x4 z else wX12_hide_J116 n sh k33 P a0 x1 x2 s0 x5 x6 z
set_option maxRecDepth 100000 in
set_option maxHeartbeats 4000000 in
theorem vX12_hide_J103 {E : gE} {n : Nat} {sh : Nat → Nat × Nat} {P : Int32 → gS → Prop} {k33 : Nat → Int32 → Int32 → Int32 → Int32 → Int32 → gS → Prop} {a0 : Nat} {x1 : Int32} {x2 : Int32} {x4 : Int32} {x5 : Int32} {x6 : Int32} {x7 : Int32} {s0 : Int32} {z : gS} (hn : gOK E n) (hk33 : ∀ (a0 : Nat) (x1 : Int32) (x2 : Int32) (x3 : Int32) (x4 : Int32) (x5 : Int32) (z : gS), k33 a0 x1 x2 x3 x4 x5 z → V E (gR 4 0) gyX12_hide 0 0 33 [(0, .ref a0), (1, .int x1), (2, .int x2), (3, .int x3), (4, .int x4), (5, .int x5)] [] n sh z (kI n sh P)) (hf : wX12_hide_J103 n sh k33 P a0 x1 x2 x4 x5 x6 x7 s0 z) : V E (gR 4 0) gyX12_hide 0 0 103 [(0, .ref a0), (1, .int x1), (2, .int x2), (4, .int x4), (5, .int x5), (6, .int x6), (7, .int x7)] [.int s0] n sh z (kI n sh P) := by
  unfold wX12_hide_J103 at hf
  refine V_istore_n (ls2 := [(3, .int s0), (0, .ref a0), (1, .int x1), (2, .int x2), (4, .int x4), (5, .int x5), (6, .int x6), (7, .int x7)]) dX12_hide_103 rfl (by decide) rfl ?_
  refine V_iload (j := 7) dX12_hide_104 rfl ?_
  refine V_if_eq (tgt := 114) dX12_hide_106 (by decide) (fun h18 => ?_) (fun h18 => ?_)
  · have hf := it_t h18 hf
    refine V_iload (j := 4) dX12_hide_114 rfl ?_
    refine V_to [1, 2, 3, 0, 5] rfl ?_
    exact vX12_hide_J116 hn hk33 hf
  · have hf := it_f h18 hf
    refine V_iload (j := 6) dX12_hide_109 rfl ?_
    refine V_goto (tgt := 116) dX12_hide_111 (by decide) ?_
    refine V_to [1, 2, 3, 0, 5] rfl ?_
    exact vX12_hide_J116 hn hk33 hf
def wX12_hide_J90 (n : Nat) (sh : Nat → Nat × Nat) (k33 : Nat → Int32 → Int32 → Int32 → Int32 → Int32 → gS → Prop) (P : Int32 → gS → Prop) (a0 : Nat) (x1 : Int32) (x2 : Int32) (x3 : Int32) (x4 : Int32) (x5 : Int32) (x6 : Int32) (s0 : Int32) (z : gS) : Prop := if s0 = 0 then wX12_hide_J103 n sh k33 P a0 x1 x2 x4 x5 x6 s0 x3 z else wX12_hide_J103 n sh k33 P a0 x1 x2 x4 x5 x6 s0 x5 z
set_option maxRecDepth 100000 in
set_option maxHeartbeats 4000000 in
theorem vX12_hide_J90 {E : gE} {n : Nat} {sh : Nat → Nat × Nat} {P : Int32 → gS → Prop} {k33 : Nat → Int32 → Int32 → Int32 → Int32 → Int32 → gS → Prop} {a0 : Nat} {x1 : Int32} {x2 : Int32} {x3 : Int32} {x4 : Int32} {x5 : Int32} {x6 : Int32} {s0 : Int32} {z : gS} (hn : gOK E n) (hk33 : ∀ (a0 : Nat) (x1 : Int32) (x2 : Int32) (x3 : Int32) (x4 : Int32) (x5 : Int32) (z : gS), k33 a0 x1 x2 x3 x4 x5 z → V E (gR 4 0) gyX12_hide 0 0 33 [(0, .ref a0), (1, .int x1), (2, .int x2), (3, .int x3), (4, .int x4), (5, .int x5)] [] n sh z (kI n sh P)) (hf : wX12_hide_J90 n sh k33 P a0 x1 x2 x3 x4 x5 x6 s0 z) : V E (gR 4 0) gyX12_hide 0 0 90 [(0, .ref a0), (1, .int x1), (2, .int x2), (3, .int x3), (4, .int x4), (5, .int x5), (6, .int x6)] [.int s0] n sh z (kI n sh P) := by
  unfold wX12_hide_J90 at hf
  refine V_istore (ls2 := [(7, .int s0), (0, .ref a0), (1, .int x1), (2, .int x2), (3, .int x3), (4, .int x4), (5, .int x5), (6, .int x6)]) dX12_hide_90 (by decide) rfl ?_
  refine V_iload (j := 0) dX12_hide_92 rfl ?_
  refine V_if_eq (tgt := 102) dX12_hide_94 (by decide) (fun h19 => ?_) (fun h19 => ?_)
  · have hf := it_t h19 hf
    refine V_iload_n (j := 4) dX12_hide_102 rfl rfl ?_
    refine V_to [1, 2, 3, 5, 6, 7, 0] rfl ?_
    exact vX12_hide_J103 hn hk33 hf
  · have hf := it_f h19 hf
    refine V_iload (j := 6) dX12_hide_97 rfl ?_
    refine V_goto (tgt := 103) dX12_hide_99 (by decide) ?_
    refine V_to [1, 2, 3, 5, 6, 7, 0] rfl ?_
    exact vX12_hide_J103 hn hk33 hf
def wX12_hide_J89 (n : Nat) (sh : Nat → Nat × Nat) (k33 : Nat → Int32 → Int32 → Int32 → Int32 → Int32 → gS → Prop) (P : Int32 → gS → Prop) (a0 : Nat) (x1 : Int32) (x2 : Int32) (x3 : Int32) (x4 : Int32) (x5 : Int32) (x6 : Int32) (z : gS) : Prop := wX12_hide_J90 n sh k33 P a0 x1 x2 x3 x4 x5 x6 (0 : Int32) z
set_option maxRecDepth 100000 in
set_option maxHeartbeats 4000000 in
theorem vX12_hide_J89 {E : gE} {n : Nat} {sh : Nat → Nat × Nat} {P : Int32 → gS → Prop} {k33 : Nat → Int32 → Int32 → Int32 → Int32 → Int32 → gS → Prop} {a0 : Nat} {x1 : Int32} {x2 : Int32} {x3 : Int32} {x4 : Int32} {x5 : Int32} {x6 : Int32} {z : gS} (hn : gOK E n) (hk33 : ∀ (a0 : Nat) (x1 : Int32) (x2 : Int32) (x3 : Int32) (x4 : Int32) (x5 : Int32) (z : gS), k33 a0 x1 x2 x3 x4 x5 z → V E (gR 4 0) gyX12_hide 0 0 33 [(0, .ref a0), (1, .int x1), (2, .int x2), (3, .int x3), (4, .int x4), (5, .int x5)] [] n sh z (kI n sh P)) (hf : wX12_hide_J89 n sh k33 P a0 x1 x2 x3 x4 x5 x6 z) : V E (gR 4 0) gyX12_hide 0 0 89 [(0, .ref a0), (1, .int x1), (2, .int x2), (3, .int x3), (4, .int x4), (5, .int x5), (6, .int x6)] [] n sh z (kI n sh P) := by
  unfold wX12_hide_J89 at hf
  refine V_iconst (v := (0 : Int32)) dX12_hide_89 (by decide) ?_
  exact vX12_hide_J90 hn hk33 hf
def wX12_hide_J66 (n : Nat) (sh : Nat → Nat × Nat) (k33 : Nat → Int32 → Int32 → Int32 → Int32 → Int32 → gS → Prop) (P : Int32 → gS → Prop) (a0 : Nat) (x1 : Int32) (x2 : Int32) (x3 : Int32) (x4 : Int32) (x5 : Int32) (s0 : Int32) (z : gS) : Prop := (oO n sh a0 8) ∧ (wX12_seersOf n sh a0 (0 : Int32) x5 z (fun (r14 : Int32) (z15 : gS) => if r14 = 0 then (if x4 ≤ s0 then wX12_hide_J89 n sh k33 P a0 x1 x2 x3 x4 x5 s0 z15 else wX12_hide_J90 n sh k33 P a0 x1 x2 x3 x4 x5 s0 (1 : Int32) z15) else wX12_hide_J89 n sh k33 P a0 x1 x2 x3 x4 x5 s0 z15))
set_option maxRecDepth 100000 in
set_option maxHeartbeats 4000000 in
theorem vX12_hide_J66 {E : gE} {n : Nat} {sh : Nat → Nat × Nat} {P : Int32 → gS → Prop} {k33 : Nat → Int32 → Int32 → Int32 → Int32 → Int32 → gS → Prop} {a0 : Nat} {x1 : Int32} {x2 : Int32} {x3 : Int32} {x4 : Int32} {x5 : Int32} {s0 : Int32} {z : gS} (hn : gOK E n) (hk33 : ∀ (a0 : Nat) (x1 : Int32) (x2 : Int32) (x3 : Int32) (x4 : Int32) (x5 : Int32) (z : gS), k33 a0 x1 x2 x3 x4 x5 z → V E (gR 4 0) gyX12_hide 0 0 33 [(0, .ref a0), (1, .int x1), (2, .int x2), (3, .int x3), (4, .int x4), (5, .int x5)] [] n sh z (kI n sh P)) (hf : wX12_hide_J66 n sh k33 P a0 x1 x2 x3 x4 x5 s0 z) : V E (gR 4 0) gyX12_hide 0 0 66 [(0, .ref a0), (1, .int x1), (2, .int x2), (3, .int x3), (4, .int x4), (5, .int x5)] [.int s0] n sh z (kI n sh P) := by
  unfold wX12_hide_J66 at hf
  refine V_istore (ls2 := [(6, .int s0), (0, .ref a0), (1, .int x1), (2, .int x2), (3, .int x3), (4, .int x4), (5, .int x5)]) dX12_hide_66 (by decide) rfl ?_
  refine V_aload_n (j := 1) dX12_hide_68 rfl rfl ?_
  refine V_iconst (v := (0 : Int32)) dX12_hide_69 (by decide) ?_
  refine V_iload (j := 6) dX12_hide_70 rfl ?_
  obtain ⟨h16, hf⟩ := hf
  refine V_cVI (ctX12_seersOf hn hf) gc_X12_303 rfl h16.1 ⟨_, h16.2, by decide, rfl⟩ ⟨by decide, by decide, Nat.zero_le _, Nat.zero_le _⟩ (Nat.le_of_ble_eq_true rfl) dX12_hide_72 rfl hn (fun r14 z15 hf => ?_)
  refine V_if_ne (tgt := 89) dX12_hide_75 (by decide) (fun h21 => ?_) (fun h21 => ?_)
  · have hf := it_f h21 hf
    refine V_to [1, 2, 3, 4, 5, 6, 0] rfl ?_
    exact vX12_hide_J89 hn hk33 hf
  · have hf := it_t (Classical.not_not.mp h21) hf
    refine V_iload (j := 0) dX12_hide_78 rfl ?_
    refine V_iload (j := 5) dX12_hide_80 rfl ?_
    refine V_icmp_ge (tgt := 89) dX12_hide_82 (by decide) (fun h20 => ?_) (fun h20 => ?_)
    · have hf := it_t h20 hf
      refine V_to [1, 2, 3, 4, 5, 6, 0] rfl ?_
      exact vX12_hide_J89 hn hk33 hf
    · have hf := it_f h20 hf
      refine V_iconst (v := (1 : Int32)) dX12_hide_85 (by decide) ?_
      refine V_goto (tgt := 90) dX12_hide_86 (by decide) ?_
      refine V_to [1, 2, 3, 4, 5, 6, 0] rfl ?_
      exact vX12_hide_J90 hn hk33 hf
def wX12_hide_B33 (n : Nat) (sh : Nat → Nat × Nat) (k33 : Nat → Int32 → Int32 → Int32 → Int32 → Int32 → gS → Prop) (P : Int32 → gS → Prop) (a0 : Nat) (x1 : Int32) (x2 : Int32) (x3 : Int32) (x4 : Int32) (x5 : Int32) (z : gS) : Prop := if (10 : Int32) ≤ x5 then (if x3 < 0 then wX12_hide_J133 n sh P x3 z else (if x2 = (1 : Int32) then wX12_hide_J133 n sh P x3 z else P x4 z)) else ((oO n sh a0 8) ∧ (∃ t10 : Nat, gr z a0 24 = some t10 ∧ ((oA n sh t10 1) ∧ ((vp_in ((1 : Int32) + x1) (sh t10).2) ∧ (∀ v13 : Int32, v13 = (x5 - (gi z t10 ((1 : Int32) + x1).toNatClampNeg)) → (if 0 ≤ v13 then wX12_hide_J66 n sh k33 P a0 x1 x2 x3 x4 x5 v13 z else wX12_hide_J66 n sh k33 P a0 x1 x2 x3 x4 x5 (-v13) z))))))
def wX12_hide_L33 (n : Nat) (sh : Nat → Nat × Nat) (P : Int32 → gS → Prop) : Nat → Nat → Int32 → Int32 → Int32 → Int32 → Int32 → gS → Prop
  | 0, _, _, _, _, _, _, _ => False
  | N + 1, a0, x1, x2, x3, x4, x5, z => wX12_hide_B33 n sh (wX12_hide_L33 n sh P N) P a0 x1 x2 x3 x4 x5 z
set_option maxRecDepth 100000 in
set_option maxHeartbeats 4000000 in
theorem vX12_hide_B33 {E : gE} {n : Nat} {sh : Nat → Nat × Nat} {P : Int32 → gS → Prop} {k33 : Nat → Int32 → Int32 → Int32 → Int32 → Int32 → gS → Prop} {a0 : Nat} {x1 : Int32} {x2 : Int32} {x3 : Int32} {x4 : Int32} {x5 : Int32} {z : gS} (hn : gOK E n) (hk33 : ∀ (a0 : Nat) (x1 : Int32) (x2 : Int32) (x3 : Int32) (x4 : Int32) (x5 : Int32) (z : gS), k33 a0 x1 x2 x3 x4 x5 z → V E (gR 4 0) gyX12_hide 0 0 33 [(0, .ref a0), (1, .int x1), (2, .int x2), (3, .int x3), (4, .int x4), (5, .int x5)] [] n sh z (kI n sh P)) (hf : wX12_hide_B33 n sh k33 P a0 x1 x2 x3 x4 x5 z) : V E (gR 4 0) gyX12_hide 0 0 33 [(0, .ref a0), (1, .int x1), (2, .int x2), (3, .int x3), (4, .int x4), (5, .int x5)] [] n sh z (kI n sh P) := by
  unfold wX12_hide_B33 at hf
  refine V_iload (j := 5) dX12_hide_33 rfl ?_
  refine V_bipush (v := (10 : Int32)) dX12_hide_35 (by decide) ?_
  refine V_icmp_ge (tgt := 124) dX12_hide_37 (by decide) (fun h23 => ?_) (fun h23 => ?_)
  · have hf := it_t h23 hf
    refine V_iload_n (j := 3) dX12_hide_124 rfl rfl ?_
    refine V_if_lt (tgt := 133) dX12_hide_125 (by decide) (fun h8 => ?_) (fun h8 => ?_)
    · have hf := it_t h8 hf
      refine V_to [3] rfl ?_
      exact vX12_hide_J133 hn hf
    · have hf := it_f h8 hf
      refine V_iload_n (j := 2) dX12_hide_128 rfl rfl ?_
      refine V_iconst (v := (1 : Int32)) dX12_hide_129 (by decide) ?_
      refine V_icmp_ne (tgt := 137) dX12_hide_130 (by decide) (fun h7 => ?_) (fun h7 => ?_)
      · have hf := it_f h7 hf
        refine V_iload (j := 4) dX12_hide_137 rfl ?_
        exact V_ireturn dX12_hide_139 rfl rfl (Nat.le_refl 0) (kI_of hf)
      · have hf := it_t (Classical.not_not.mp h7) hf
        refine V_to [3] rfl ?_
        exact vX12_hide_J133 hn hf
  · have hf := it_f h23 hf
    refine V_iload (j := 5) dX12_hide_40 rfl ?_
    refine V_aload_n (j := 0) dX12_hide_42 rfl rfl ?_
    obtain ⟨h9, hf⟩ := hf
    obtain ⟨t10, et10, hf⟩ := hf
    refine V_getR fl_X12_119 rfl h9.1 h9.2 et10 dX12_hide_43 ?_
    refine V_iconst (v := (1 : Int32)) dX12_hide_46 (by decide) ?_
    refine V_iload_n (j := 1) dX12_hide_47 rfl rfl ?_
    refine V_iadd dX12_hide_48 ?_
    obtain ⟨h11, hf⟩ := hf
    obtain ⟨h12, hf⟩ := hf
    refine V_iald h11.1 h11.s h12 dX12_hide_49 ?_
    refine V_isub dX12_hide_50 ?_
    refine V_nI (fun v13 ev13 => ?_)
    have hf := hf v13 ev13
    refine V_istore (ls2 := [(6, .int v13), (0, .ref a0), (1, .int x1), (2, .int x2), (3, .int x3), (4, .int x4), (5, .int x5)]) dX12_hide_51 (by decide) rfl ?_
    refine V_iload (j := 0) dX12_hide_53 rfl ?_
    refine V_if_ge (tgt := 64) dX12_hide_55 (by decide) (fun h22 => ?_) (fun h22 => ?_)
    · have hf := it_t h22 hf
      refine V_iload (j := 0) dX12_hide_64 rfl ?_
      refine V_to [1, 2, 3, 4, 5, 6] rfl ?_
      exact vX12_hide_J66 hn hk33 hf
    · have hf := it_f h22 hf
      refine V_iload (j := 0) dX12_hide_58 rfl ?_
      refine V_ineg dX12_hide_60 ?_
      refine V_goto (tgt := 66) dX12_hide_61 (by decide) ?_
      refine V_to [1, 2, 3, 4, 5, 6] rfl ?_
      exact vX12_hide_J66 hn hk33 hf
set_option maxRecDepth 100000 in
set_option maxHeartbeats 4000000 in
theorem vX12_hide_L33 {E : gE} {n : Nat} {sh : Nat → Nat × Nat} {P : Int32 → gS → Prop} (hn : gOK E n) : ∀ (N : Nat) (a0 : Nat) (x1 : Int32) (x2 : Int32) (x3 : Int32) (x4 : Int32) (x5 : Int32) (z : gS), wX12_hide_L33 n sh P N a0 x1 x2 x3 x4 x5 z → V E (gR 4 0) gyX12_hide 0 0 33 [(0, .ref a0), (1, .int x1), (2, .int x2), (3, .int x3), (4, .int x4), (5, .int x5)] [] n sh z (kI n sh P) := by
  intro N
  induction N with
  | zero => intro a0 x1 x2 x3 x4 x5 z hf; exact False.elim hf
  | succ N ih => intro a0 x1 x2 x3 x4 x5 z hf; exact vX12_hide_B33 hn ih hf
def wX12_hide (n : Nat) (sh : Nat → Nat × Nat) (a0 : Nat) (x1 : Int32) (x2 : Int32) (z : gS) (P : Int32 → gS → Prop) : Prop := (oO n sh a0 8) ∧ (∀ z2 : gS, z2 = si z a0 0 (0 : Int32) → (wX12_isPerson n sh a0 x1 z2 (fun (r3 : Int32) (z4 : gS) => if r3 = 0 then P (-1 : Int32) z4 else (wX12_within n sh x2 (0 : Int32) (1 : Int32) z4 (fun (r5 : Int32) (z6 : gS) => if r5 = 0 then P (-1 : Int32) z6 else ((∃ N, wX12_hide_L33 n sh P N a0 x1 x2 (-1 : Int32) (10 : Int32) (0 : Int32) z6)))))))
set_option maxRecDepth 100000 in
set_option maxHeartbeats 4000000 in
theorem ctX12_hide {E : gE} {n : Nat} {sh : Nat → Nat × Nat} {a0 : Nat} {x1 : Int32} {x2 : Int32} {z : gS} {P : Int32 → gS → Prop} (hn : gOK E n) (hf : wX12_hide n sh a0 x1 x2 z P) : VM E 4 0 gyX12_hide [.ref a0, .int x1, .int x2] n sh z (kI n sh P) := by
  unfold wX12_hide at hf
  refine VM.of (by decide +kernel) (Nat.le_of_ble_eq_true rfl) (fun _ _ _ h => h.2.2) ?_
  show V E (gR 4 0) gyX12_hide 0 0 0 [(0, .ref a0), (1, .int x1), (2, .int x2)] [] n sh z (kI n sh P)
  refine V_aload_n (j := 0) dX12_hide_0 rfl rfl ?_
  refine V_iconst (v := (0 : Int32)) dX12_hide_1 (by decide) ?_
  obtain ⟨h1, hf⟩ := hf
  refine V_putI fl_X12_1 rfl rfl rfl rfl h1.1 h1.2 dX12_hide_2 ?_
  refine V_nz (fun z2 ez2 => ?_)
  have hf := hf z2 ez2
  refine V_aload_n (j := 0) dX12_hide_5 rfl rfl ?_
  refine V_iload_n (j := 1) dX12_hide_6 rfl rfl ?_
  refine V_cVI (ctX12_isPerson hn hf) gc_X12_343 rfl h1.1 ⟨_, h1.2, by decide, rfl⟩ ⟨by decide, by decide, Nat.zero_le _, Nat.zero_le _⟩ (Nat.le_of_ble_eq_true rfl) dX12_hide_7 rfl hn (fun r3 z4 hf => ?_)
  refine V_if_eq (tgt := 22) dX12_hide_10 (by decide) (fun h25 => ?_) (fun h25 => ?_)
  · have hf := it_t h25 hf
    refine V_iconst (v := (-1 : Int32)) dX12_hide_22 (by decide) ?_
    exact V_ireturn dX12_hide_23 rfl rfl (Nat.le_refl 0) (kI_of hf)
  · have hf := it_f h25 hf
    refine V_iload_n (j := 2) dX12_hide_13 rfl rfl ?_
    refine V_iconst (v := (0 : Int32)) dX12_hide_14 (by decide) ?_
    refine V_iconst (v := (1 : Int32)) dX12_hide_15 (by decide) ?_
    refine V_cSI (ctX12_within hn hf) gc_X12_198 rfl ⟨by decide, by decide, Nat.zero_le _, Nat.zero_le _⟩ (Nat.le_of_ble_eq_true rfl) dX12_hide_16 rfl hn (fun r5 z6 hf => ?_)
    refine V_if_ne (tgt := 24) dX12_hide_19 (by decide) (fun h24 => ?_) (fun h24 => ?_)
    · have hf := it_f h24 hf
      refine V_iconst (v := (-1 : Int32)) dX12_hide_24 (by decide) ?_
      refine V_istore_n (ls2 := [(3, .int (-1 : Int32)), (0, .ref a0), (1, .int x1), (2, .int x2)]) dX12_hide_25 rfl (by decide) rfl ?_
      refine V_bipush (v := (10 : Int32)) dX12_hide_26 (by decide) ?_
      refine V_istore (ls2 := [(4, .int (10 : Int32)), (3, .int (-1 : Int32)), (0, .ref a0), (1, .int x1), (2, .int x2)]) dX12_hide_28 (by decide) rfl ?_
      refine V_iconst (v := (0 : Int32)) dX12_hide_30 (by decide) ?_
      refine V_istore (ls2 := [(5, .int (0 : Int32)), (4, .int (10 : Int32)), (3, .int (-1 : Int32)), (0, .ref a0), (1, .int x1), (2, .int x2)]) dX12_hide_31 (by decide) rfl ?_
      obtain ⟨N, hf⟩ := hf
      refine V_to [3, 4, 5, 2, 1, 0] rfl ?_
      exact vX12_hide_L33 hn N _ _ _ _ _ _ _ hf
    · have hf := it_t (Classical.not_not.mp h24) hf
      refine V_iconst (v := (-1 : Int32)) dX12_hide_22 (by decide) ?_
      exact V_ireturn dX12_hide_23 rfl rfl (Nat.le_refl 0) (kI_of hf)
def wX12_proof_J129 (n : Nat) (sh : Nat → Nat × Nat) (k36 : Nat → Int32 → Int32 → Int32 → Int32 → gS → Prop) (P : Int32 → gS → Prop) (a0 : Nat) (x1 : Int32) (x2 : Int32) (x4 : Int32) (s0 : Int32) (z : gS) : Prop := ∀ v15 : Int32, v15 = x4 + (1 : Int32) → k36 a0 x1 x2 s0 v15 z
set_option maxRecDepth 100000 in
set_option maxHeartbeats 4000000 in
theorem vX12_proof_J129 {E : gE} {n : Nat} {sh : Nat → Nat × Nat} {P : Int32 → gS → Prop} {k36 : Nat → Int32 → Int32 → Int32 → Int32 → gS → Prop} {a0 : Nat} {x1 : Int32} {x2 : Int32} {x4 : Int32} {s0 : Int32} {z : gS} (hn : gOK E n) (hk36 : ∀ (a0 : Nat) (x1 : Int32) (x2 : Int32) (x3 : Int32) (x4 : Int32) (z : gS), k36 a0 x1 x2 x3 x4 z → V E (gR 3 0) gyX12_proof 0 0 36 [(0, .ref a0), (1, .int x1), (2, .int x2), (3, .int x3), (4, .int x4)] [] n sh z (kI n sh P)) (hf : wX12_proof_J129 n sh k36 P a0 x1 x2 x4 s0 z) : V E (gR 3 0) gyX12_proof 0 0 129 [(0, .ref a0), (1, .int x1), (2, .int x2), (4, .int x4)] [.int s0] n sh z (kI n sh P) := by
  unfold wX12_proof_J129 at hf
  refine V_istore_n (ls2 := [(3, .int s0), (0, .ref a0), (1, .int x1), (2, .int x2), (4, .int x4)]) dX12_proof_129 rfl (by decide) rfl ?_
  obtain ⟨v15, ev15⟩ : ∃ y : Int32, y = x4 + (1 : Int32) := ⟨_, rfl⟩
  refine V_iinc (j := 4) (v := v15) (ls2 := [(4, .int v15), (3, .int s0), (0, .ref a0), (1, .int x1), (2, .int x2)]) dX12_proof_130 rfl (by rw [ev15]; rfl) (by decide) rfl ?_
  have hf := hf v15 ev15
  refine V_goto (tgt := 36) dX12_proof_133 (by decide) ?_
  refine V_to [2, 3, 4, 1, 0] rfl ?_
  exact hk36 _ _ _ _ _ _ hf
def wX12_proof_J128 (n : Nat) (sh : Nat → Nat × Nat) (k36 : Nat → Int32 → Int32 → Int32 → Int32 → gS → Prop) (P : Int32 → gS → Prop) (a0 : Nat) (x1 : Int32) (x2 : Int32) (x3 : Int32) (x4 : Int32) (z : gS) : Prop := wX12_proof_J129 n sh k36 P a0 x1 x2 x4 x3 z
set_option maxRecDepth 100000 in
set_option maxHeartbeats 4000000 in
theorem vX12_proof_J128 {E : gE} {n : Nat} {sh : Nat → Nat × Nat} {P : Int32 → gS → Prop} {k36 : Nat → Int32 → Int32 → Int32 → Int32 → gS → Prop} {a0 : Nat} {x1 : Int32} {x2 : Int32} {x3 : Int32} {x4 : Int32} {z : gS} (hn : gOK E n) (hk36 : ∀ (a0 : Nat) (x1 : Int32) (x2 : Int32) (x3 : Int32) (x4 : Int32) (z : gS), k36 a0 x1 x2 x3 x4 z → V E (gR 3 0) gyX12_proof 0 0 36 [(0, .ref a0), (1, .int x1), (2, .int x2), (3, .int x3), (4, .int x4)] [] n sh z (kI n sh P)) (hf : wX12_proof_J128 n sh k36 P a0 x1 x2 x3 x4 z) : V E (gR 3 0) gyX12_proof 0 0 128 [(0, .ref a0), (1, .int x1), (2, .int x2), (3, .int x3), (4, .int x4)] [] n sh z (kI n sh P) := by
  unfold wX12_proof_J128 at hf
  refine V_iload_n (j := 3) dX12_proof_128 rfl rfl ?_
  refine V_to [0, 1, 2, 4] rfl ?_
  exact vX12_proof_J129 hn hk36 hf
def wX12_proof_J123 (n : Nat) (sh : Nat → Nat × Nat) (k36 : Nat → Int32 → Int32 → Int32 → Int32 → gS → Prop) (P : Int32 → gS → Prop) (a0 : Nat) (x1 : Int32) (x2 : Int32) (x4 : Int32) (z : gS) : Prop := wX12_proof_J129 n sh k36 P a0 x1 x2 x4 x4 z
set_option maxRecDepth 100000 in
set_option maxHeartbeats 4000000 in
theorem vX12_proof_J123 {E : gE} {n : Nat} {sh : Nat → Nat × Nat} {P : Int32 → gS → Prop} {k36 : Nat → Int32 → Int32 → Int32 → Int32 → gS → Prop} {a0 : Nat} {x1 : Int32} {x2 : Int32} {x4 : Int32} {z : gS} (hn : gOK E n) (hk36 : ∀ (a0 : Nat) (x1 : Int32) (x2 : Int32) (x3 : Int32) (x4 : Int32) (z : gS), k36 a0 x1 x2 x3 x4 z → V E (gR 3 0) gyX12_proof 0 0 36 [(0, .ref a0), (1, .int x1), (2, .int x2), (3, .int x3), (4, .int x4)] [] n sh z (kI n sh P)) (hf : wX12_proof_J123 n sh k36 P a0 x1 x2 x4 z) : V E (gR 3 0) gyX12_proof 0 0 123 [(0, .ref a0), (1, .int x1), (2, .int x2), (4, .int x4)] [] n sh z (kI n sh P) := by
  unfold wX12_proof_J123 at hf
  refine V_iload (j := 3) dX12_proof_123 rfl ?_
  refine V_goto (tgt := 129) dX12_proof_125 (by decide) ?_
  exact vX12_proof_J129 hn hk36 hf
def wX12_proof_J89 (n : Nat) (sh : Nat → Nat × Nat) (k36 : Nat → Int32 → Int32 → Int32 → Int32 → gS → Prop) (k53 : Nat → Int32 → Int32 → Int32 → Int32 → Int32 → Int32 → gS → Prop) (P : Int32 → gS → Prop) (a0 : Nat) (x1 : Int32) (x2 : Int32) (x3 : Int32) (x4 : Int32) (x6 : Int32) (s0 : Int32) (s1 : Int32) (z : gS) : Prop := ∀ v23 : Int32, v23 = (s1 ||| s0) → (∀ v24 : Int32, v24 = x6 + (1 : Int32) → k53 a0 x1 x2 x3 x4 v23 v24 z)
set_option maxRecDepth 100000 in
set_option maxHeartbeats 4000000 in
theorem vX12_proof_J89 {E : gE} {n : Nat} {sh : Nat → Nat × Nat} {P : Int32 → gS → Prop} {k36 : Nat → Int32 → Int32 → Int32 → Int32 → gS → Prop} {k53 : Nat → Int32 → Int32 → Int32 → Int32 → Int32 → Int32 → gS → Prop} {a0 : Nat} {x1 : Int32} {x2 : Int32} {x3 : Int32} {x4 : Int32} {x6 : Int32} {s0 : Int32} {s1 : Int32} {z : gS} (hn : gOK E n) (hk36 : ∀ (a0 : Nat) (x1 : Int32) (x2 : Int32) (x3 : Int32) (x4 : Int32) (z : gS), k36 a0 x1 x2 x3 x4 z → V E (gR 3 0) gyX12_proof 0 0 36 [(0, .ref a0), (1, .int x1), (2, .int x2), (3, .int x3), (4, .int x4)] [] n sh z (kI n sh P)) (hk53 : ∀ (a0 : Nat) (x1 : Int32) (x2 : Int32) (x3 : Int32) (x4 : Int32) (x5 : Int32) (x6 : Int32) (z : gS), k53 a0 x1 x2 x3 x4 x5 x6 z → V E (gR 3 0) gyX12_proof 0 0 53 [(0, .ref a0), (1, .int x1), (2, .int x2), (3, .int x3), (4, .int x4), (5, .int x5), (6, .int x6)] [] n sh z (kI n sh P)) (hf : wX12_proof_J89 n sh k36 k53 P a0 x1 x2 x3 x4 x6 s0 s1 z) : V E (gR 3 0) gyX12_proof 0 0 89 [(0, .ref a0), (1, .int x1), (2, .int x2), (3, .int x3), (4, .int x4), (6, .int x6)] [.int s0, .int s1] n sh z (kI n sh P) := by
  unfold wX12_proof_J89 at hf
  refine V_ior dX12_proof_89 ?_
  refine V_nI (fun v23 ev23 => ?_)
  have hf := hf v23 ev23
  refine V_istore (ls2 := [(5, .int v23), (0, .ref a0), (1, .int x1), (2, .int x2), (3, .int x3), (4, .int x4), (6, .int x6)]) dX12_proof_90 (by decide) rfl ?_
  obtain ⟨v24, ev24⟩ : ∃ y : Int32, y = x6 + (1 : Int32) := ⟨_, rfl⟩
  refine V_iinc (j := 6) (v := v24) (ls2 := [(6, .int v24), (5, .int v23), (0, .ref a0), (1, .int x1), (2, .int x2), (3, .int x3), (4, .int x4)]) dX12_proof_92 rfl (by rw [ev24]; rfl) (by decide) rfl ?_
  have hf := hf v24 ev24
  refine V_goto (tgt := 53) dX12_proof_95 (by decide) ?_
  refine V_to [2, 3, 4, 5, 6, 1, 0] rfl ?_
  exact hk53 _ _ _ _ _ _ _ _ hf
def wX12_proof_B53 (n : Nat) (sh : Nat → Nat × Nat) (k36 : Nat → Int32 → Int32 → Int32 → Int32 → gS → Prop) (k53 : Nat → Int32 → Int32 → Int32 → Int32 → Int32 → Int32 → gS → Prop) (P : Int32 → gS → Prop) (a0 : Nat) (x1 : Int32) (x2 : Int32) (x3 : Int32) (x4 : Int32) (x5 : Int32) (x6 : Int32) (z : gS) : Prop := (oO n sh a0 8) ∧ (wX12_panes n sh a0 z (fun (r12 : Int32) (z13 : gS) => if r12 ≤ x6 then (if (x2 &&& (x5 ^^^ (-1 : Int32))) = 0 then (if x3 < 0 then wX12_proof_J123 n sh k36 P a0 x1 x2 x4 z13 else (wX12_bits n sh x4 z13 (fun (r16 : Int32) (z17 : gS) => wX12_bits n sh x3 z17 (fun (r18 : Int32) (z19 : gS) => if r18 ≤ r16 then wX12_proof_J128 n sh k36 P a0 x1 x2 x3 x4 z19 else wX12_proof_J123 n sh k36 P a0 x1 x2 x4 z19)))) else wX12_proof_J128 n sh k36 P a0 x1 x2 x3 x4 z13) else (if ((x4 >>> (x6 &&& 31)) &&& (1 : Int32)) = (1 : Int32) then (wX12_deedsBy n sh a0 (0 : Int32) x6 x1 (6 : Int32) z13 (fun (r25 : Int32) (z26 : gS) => wX12_proof_J89 n sh k36 k53 P a0 x1 x2 x3 x4 x6 r25 x5 z26)) else wX12_proof_J89 n sh k36 k53 P a0 x1 x2 x3 x4 x6 (0 : Int32) x5 z13)))
def wX12_proof_L53 (n : Nat) (sh : Nat → Nat × Nat) (k36 : Nat → Int32 → Int32 → Int32 → Int32 → gS → Prop) (P : Int32 → gS → Prop) : Nat → Nat → Int32 → Int32 → Int32 → Int32 → Int32 → Int32 → gS → Prop
  | 0, _, _, _, _, _, _, _, _ => False
  | N + 1, a0, x1, x2, x3, x4, x5, x6, z => wX12_proof_B53 n sh k36 (wX12_proof_L53 n sh k36 P N) P a0 x1 x2 x3 x4 x5 x6 z
set_option maxRecDepth 100000 in
set_option maxHeartbeats 4000000 in
theorem vX12_proof_B53 {E : gE} {n : Nat} {sh : Nat → Nat × Nat} {P : Int32 → gS → Prop} {k36 : Nat → Int32 → Int32 → Int32 → Int32 → gS → Prop} {k53 : Nat → Int32 → Int32 → Int32 → Int32 → Int32 → Int32 → gS → Prop} {a0 : Nat} {x1 : Int32} {x2 : Int32} {x3 : Int32} {x4 : Int32} {x5 : Int32} {x6 : Int32} {z : gS} (hn : gOK E n) (hk36 : ∀ (a0 : Nat) (x1 : Int32) (x2 : Int32) (x3 : Int32) (x4 : Int32) (z : gS), k36 a0 x1 x2 x3 x4 z → V E (gR 3 0) gyX12_proof 0 0 36 [(0, .ref a0), (1, .int x1), (2, .int x2), (3, .int x3), (4, .int x4)] [] n sh z (kI n sh P)) (hk53 : ∀ (a0 : Nat) (x1 : Int32) (x2 : Int32) (x3 : Int32) (x4 : Int32) (x5 : Int32) (x6 : Int32) (z : gS), k53 a0 x1 x2 x3 x4 x5 x6 z → V E (gR 3 0) gyX12_proof 0 0 53 [(0, .ref a0), (1, .int x1), (2, .int x2), (3, .int x3), (4, .int x4), (5, .int x5), (6, .int x6)] [] n sh z (kI n sh P)) (hf : wX12_proof_B53 n sh k36 k53 P a0 x1 x2 x3 x4 x5 x6 z) : V E (gR 3 0) gyX12_proof 0 0 53 [(0, .ref a0), (1, .int x1), (2, .int x2), (3, .int x3), (4, .int x4), (5, .int x5), (6, .int x6)] [] n sh z (kI n sh P) := by
  unfold wX12_proof_B53 at hf
  refine V_iload (j := 6) dX12_proof_53 rfl ?_
  refine V_aload_n (j := 0) dX12_proof_55 rfl rfl ?_
  obtain ⟨h14, hf⟩ := hf
  refine V_cVI (ctX12_panes hn hf) gc_X12_278 rfl h14.1 ⟨_, h14.2, by decide, rfl⟩ ⟨by decide, by decide, Nat.zero_le _, Nat.zero_le _⟩ (Nat.le_of_ble_eq_true rfl) dX12_proof_56 rfl hn (fun r12 z13 hf => ?_)
  refine V_icmp_ge (tgt := 98) dX12_proof_59 (by decide) (fun h28 => ?_) (fun h28 => ?_)
  · have hf := it_t h28 hf
    refine V_iload_n (j := 2) dX12_proof_98 rfl rfl ?_
    refine V_iload (j := 5) dX12_proof_99 rfl ?_
    refine V_iconst (v := (-1 : Int32)) dX12_proof_101 (by decide) ?_
    refine V_ixor dX12_proof_102 ?_
    refine V_iand dX12_proof_103 ?_
    refine V_if_ne (tgt := 128) dX12_proof_104 (by decide) (fun h22 => ?_) (fun h22 => ?_)
    · have hf := it_f h22 hf
      refine V_to [0, 1, 2, 3, 4] rfl ?_
      exact vX12_proof_J128 hn hk36 hf
    · have hf := it_t (Classical.not_not.mp h22) hf
      refine V_iload_n (j := 3) dX12_proof_107 rfl rfl ?_
      refine V_if_lt (tgt := 123) dX12_proof_108 (by decide) (fun h21 => ?_) (fun h21 => ?_)
      · have hf := it_t h21 hf
        refine V_to [0, 1, 2, 4] rfl ?_
        exact vX12_proof_J123 hn hk36 hf
      · have hf := it_f h21 hf
        refine V_iload (j := 4) dX12_proof_111 rfl ?_
        refine V_cSI (ctX12_bits hn hf) gc_X12_374 rfl ⟨by decide, by decide, Nat.zero_le _, Nat.zero_le _⟩ (Nat.le_of_ble_eq_true rfl) dX12_proof_113 rfl hn (fun r16 z17 hf => ?_)
        refine V_iload_n (j := 3) dX12_proof_116 rfl rfl ?_
        refine V_cSI (ctX12_bits hn hf) gc_X12_374 rfl ⟨by decide, by decide, Nat.zero_le _, Nat.zero_le _⟩ (Nat.le_of_ble_eq_true rfl) dX12_proof_117 rfl hn (fun r18 z19 hf => ?_)
        refine V_icmp_ge (tgt := 128) dX12_proof_120 (by decide) (fun h20 => ?_) (fun h20 => ?_)
        · have hf := it_t h20 hf
          refine V_to [0, 1, 2, 3, 4] rfl ?_
          exact vX12_proof_J128 hn hk36 hf
        · have hf := it_f h20 hf
          refine V_to [0, 1, 2, 4] rfl ?_
          exact vX12_proof_J123 hn hk36 hf
  · have hf := it_f h28 hf
    refine V_iload (j := 5) dX12_proof_62 rfl ?_
    refine V_iload (j := 4) dX12_proof_64 rfl ?_
    refine V_iload (j := 6) dX12_proof_66 rfl ?_
    refine V_ishr dX12_proof_68 ?_
    refine V_iconst (v := (1 : Int32)) dX12_proof_69 (by decide) ?_
    refine V_iand dX12_proof_70 ?_
    refine V_iconst (v := (1 : Int32)) dX12_proof_71 (by decide) ?_
    refine V_icmp_ne (tgt := 88) dX12_proof_72 (by decide) (fun h27 => ?_) (fun h27 => ?_)
    · have hf := it_f h27 hf
      refine V_iconst (v := (0 : Int32)) dX12_proof_88 (by decide) ?_
      refine V_to [0, 1, 2, 3, 4, 6] rfl ?_
      exact vX12_proof_J89 hn hk36 hk53 hf
    · have hf := it_t (Classical.not_not.mp h27) hf
      refine V_aload_n (j := 0) dX12_proof_75 rfl rfl ?_
      refine V_iconst (v := (0 : Int32)) dX12_proof_76 (by decide) ?_
      refine V_iload (j := 6) dX12_proof_77 rfl ?_
      refine V_iload_n (j := 1) dX12_proof_79 rfl rfl ?_
      refine V_bipush (v := (6 : Int32)) dX12_proof_80 (by decide) ?_
      refine V_cVI (ctX12_deedsBy hn hf) gc_X12_330 rfl h14.1 ⟨_, h14.2, by decide, rfl⟩ ⟨by decide, by decide, Nat.zero_le _, Nat.zero_le _⟩ (Nat.le_of_ble_eq_true rfl) dX12_proof_82 rfl hn (fun r25 z26 hf => ?_)
      refine V_goto (tgt := 89) dX12_proof_85 (by decide) ?_
      refine V_to [0, 1, 2, 3, 4, 6] rfl ?_
      exact vX12_proof_J89 hn hk36 hk53 hf
set_option maxRecDepth 100000 in
set_option maxHeartbeats 4000000 in
theorem vX12_proof_L53 {E : gE} {n : Nat} {sh : Nat → Nat × Nat} {P : Int32 → gS → Prop} {k36 : Nat → Int32 → Int32 → Int32 → Int32 → gS → Prop} (hn : gOK E n) (hk36 : ∀ (a0 : Nat) (x1 : Int32) (x2 : Int32) (x3 : Int32) (x4 : Int32) (z : gS), k36 a0 x1 x2 x3 x4 z → V E (gR 3 0) gyX12_proof 0 0 36 [(0, .ref a0), (1, .int x1), (2, .int x2), (3, .int x3), (4, .int x4)] [] n sh z (kI n sh P)) : ∀ (N : Nat) (a0 : Nat) (x1 : Int32) (x2 : Int32) (x3 : Int32) (x4 : Int32) (x5 : Int32) (x6 : Int32) (z : gS), wX12_proof_L53 n sh k36 P N a0 x1 x2 x3 x4 x5 x6 z → V E (gR 3 0) gyX12_proof 0 0 53 [(0, .ref a0), (1, .int x1), (2, .int x2), (3, .int x3), (4, .int x4), (5, .int x5), (6, .int x6)] [] n sh z (kI n sh P) := by
  intro N
  induction N with
  | zero => intro a0 x1 x2 x3 x4 x5 x6 z hf; exact False.elim hf
  | succ N ih => intro a0 x1 x2 x3 x4 x5 x6 z hf; exact vX12_proof_B53 hn hk36 ih hf
def wX12_proof_B36 (n : Nat) (sh : Nat → Nat × Nat) (k36 : Nat → Int32 → Int32 → Int32 → Int32 → gS → Prop) (P : Int32 → gS → Prop) (a0 : Nat) (x1 : Int32) (x2 : Int32) (x3 : Int32) (x4 : Int32) (z : gS) : Prop := (oO n sh a0 8) ∧ (wX12_panes n sh a0 z (fun (r9 : Int32) (z10 : gS) => if ((1 : Int32) <<< (r9 &&& 31)) ≤ x4 then P x3 z10 else ((∃ N, wX12_proof_L53 n sh k36 P N a0 x1 x2 x3 x4 (0 : Int32) (0 : Int32) z10))))
def wX12_proof_L36 (n : Nat) (sh : Nat → Nat × Nat) (P : Int32 → gS → Prop) : Nat → Nat → Int32 → Int32 → Int32 → Int32 → gS → Prop
  | 0, _, _, _, _, _, _ => False
  | N + 1, a0, x1, x2, x3, x4, z => wX12_proof_B36 n sh (wX12_proof_L36 n sh P N) P a0 x1 x2 x3 x4 z
set_option maxRecDepth 100000 in
set_option maxHeartbeats 4000000 in
theorem vX12_proof_B36 {E : gE} {n : Nat} {sh : Nat → Nat × Nat} {P : Int32 → gS → Prop} {k36 : Nat → Int32 → Int32 → Int32 → Int32 → gS → Prop} {a0 : Nat} {x1 : Int32} {x2 : Int32} {x3 : Int32} {x4 : Int32} {z : gS} (hn : gOK E n) (hk36 : ∀ (a0 : Nat) (x1 : Int32) (x2 : Int32) (x3 : Int32) (x4 : Int32) (z : gS), k36 a0 x1 x2 x3 x4 z → V E (gR 3 0) gyX12_proof 0 0 36 [(0, .ref a0), (1, .int x1), (2, .int x2), (3, .int x3), (4, .int x4)] [] n sh z (kI n sh P)) (hf : wX12_proof_B36 n sh k36 P a0 x1 x2 x3 x4 z) : V E (gR 3 0) gyX12_proof 0 0 36 [(0, .ref a0), (1, .int x1), (2, .int x2), (3, .int x3), (4, .int x4)] [] n sh z (kI n sh P) := by
  unfold wX12_proof_B36 at hf
  refine V_iload (j := 4) dX12_proof_36 rfl ?_
  refine V_iconst (v := (1 : Int32)) dX12_proof_38 (by decide) ?_
  refine V_aload_n (j := 0) dX12_proof_39 rfl rfl ?_
  obtain ⟨h11, hf⟩ := hf
  refine V_cVI (ctX12_panes hn hf) gc_X12_278 rfl h11.1 ⟨_, h11.2, by decide, rfl⟩ ⟨by decide, by decide, Nat.zero_le _, Nat.zero_le _⟩ (Nat.le_of_ble_eq_true rfl) dX12_proof_40 rfl hn (fun r9 z10 hf => ?_)
  refine V_ishl dX12_proof_43 ?_
  refine V_icmp_ge (tgt := 136) dX12_proof_44 (by decide) (fun h29 => ?_) (fun h29 => ?_)
  · have hf := it_t h29 hf
    refine V_iload_n (j := 3) dX12_proof_136 rfl rfl ?_
    exact V_ireturn dX12_proof_137 rfl rfl (Nat.le_refl 0) (kI_of hf)
  · have hf := it_f h29 hf
    refine V_iconst (v := (0 : Int32)) dX12_proof_47 (by decide) ?_
    refine V_istore (ls2 := [(5, .int (0 : Int32)), (0, .ref a0), (1, .int x1), (2, .int x2), (3, .int x3), (4, .int x4)]) dX12_proof_48 (by decide) rfl ?_
    refine V_iconst (v := (0 : Int32)) dX12_proof_50 (by decide) ?_
    refine V_istore (ls2 := [(6, .int (0 : Int32)), (5, .int (0 : Int32)), (0, .ref a0), (1, .int x1), (2, .int x2), (3, .int x3), (4, .int x4)]) dX12_proof_51 (by decide) rfl ?_
    obtain ⟨N, hf⟩ := hf
    refine V_to [2, 3, 4, 5, 6, 1, 0] rfl ?_
    exact vX12_proof_L53 hn hk36 N _ _ _ _ _ _ _ _ hf
set_option maxRecDepth 100000 in
set_option maxHeartbeats 4000000 in
theorem vX12_proof_L36 {E : gE} {n : Nat} {sh : Nat → Nat × Nat} {P : Int32 → gS → Prop} (hn : gOK E n) : ∀ (N : Nat) (a0 : Nat) (x1 : Int32) (x2 : Int32) (x3 : Int32) (x4 : Int32) (z : gS), wX12_proof_L36 n sh P N a0 x1 x2 x3 x4 z → V E (gR 3 0) gyX12_proof 0 0 36 [(0, .ref a0), (1, .int x1), (2, .int x2), (3, .int x3), (4, .int x4)] [] n sh z (kI n sh P) := by
  intro N
  induction N with
  | zero => intro a0 x1 x2 x3 x4 z hf; exact False.elim hf
  | succ N ih => intro a0 x1 x2 x3 x4 z hf; exact vX12_proof_B36 hn ih hf
def wX12_proof (n : Nat) (sh : Nat → Nat × Nat) (a0 : Nat) (x1 : Int32) (x2 : Int32) (z : gS) (P : Int32 → gS → Prop) : Prop := (oO n sh a0 8) ∧ (∀ z2 : gS, z2 = si z a0 0 (0 : Int32) → (wX12_isPerson n sh a0 x1 z2 (fun (r3 : Int32) (z4 : gS) => if r3 = 0 then P (-1 : Int32) z4 else (wX12_deeds n sh a0 z4 (fun (r5 : Int32) (z6 : gS) => wX12_within n sh x2 (0 : Int32) (((1 : Int32) <<< (r5 &&& 31)) - (1 : Int32)) z6 (fun (r7 : Int32) (z8 : gS) => if r7 = 0 then P (-1 : Int32) z8 else ((∃ N, wX12_proof_L36 n sh P N a0 x1 x2 (-1 : Int32) (0 : Int32) z8))))))))
set_option maxRecDepth 100000 in
set_option maxHeartbeats 4000000 in
theorem ctX12_proof {E : gE} {n : Nat} {sh : Nat → Nat × Nat} {a0 : Nat} {x1 : Int32} {x2 : Int32} {z : gS} {P : Int32 → gS → Prop} (hn : gOK E n) (hf : wX12_proof n sh a0 x1 x2 z P) : VM E 3 0 gyX12_proof [.ref a0, .int x1, .int x2] n sh z (kI n sh P) := by
  unfold wX12_proof at hf
  refine VM.of (by decide +kernel) (Nat.le_of_ble_eq_true rfl) (fun _ _ _ h => h.2.2) ?_
  show V E (gR 3 0) gyX12_proof 0 0 0 [(0, .ref a0), (1, .int x1), (2, .int x2)] [] n sh z (kI n sh P)
  refine V_aload_n (j := 0) dX12_proof_0 rfl rfl ?_
  refine V_iconst (v := (0 : Int32)) dX12_proof_1 (by decide) ?_
  obtain ⟨h1, hf⟩ := hf
  refine V_putI fl_X12_1 rfl rfl rfl rfl h1.1 h1.2 dX12_proof_2 ?_
  refine V_nz (fun z2 ez2 => ?_)
  have hf := hf z2 ez2
  refine V_aload_n (j := 0) dX12_proof_5 rfl rfl ?_
  refine V_iload_n (j := 1) dX12_proof_6 rfl rfl ?_
  refine V_cVI (ctX12_isPerson hn hf) gc_X12_343 rfl h1.1 ⟨_, h1.2, by decide, rfl⟩ ⟨by decide, by decide, Nat.zero_le _, Nat.zero_le _⟩ (Nat.le_of_ble_eq_true rfl) dX12_proof_7 rfl hn (fun r3 z4 hf => ?_)
  refine V_if_eq (tgt := 29) dX12_proof_10 (by decide) (fun h31 => ?_) (fun h31 => ?_)
  · have hf := it_t h31 hf
    refine V_iconst (v := (-1 : Int32)) dX12_proof_29 (by decide) ?_
    exact V_ireturn dX12_proof_30 rfl rfl (Nat.le_refl 0) (kI_of hf)
  · have hf := it_f h31 hf
    refine V_iload_n (j := 2) dX12_proof_13 rfl rfl ?_
    refine V_iconst (v := (0 : Int32)) dX12_proof_14 (by decide) ?_
    refine V_iconst (v := (1 : Int32)) dX12_proof_15 (by decide) ?_
    refine V_aload_n (j := 0) dX12_proof_16 rfl rfl ?_
    refine V_cVI (ctX12_deeds hn hf) gc_X12_281 rfl h1.1 ⟨_, h1.2, by decide, rfl⟩ ⟨by decide, by decide, Nat.zero_le _, Nat.zero_le _⟩ (Nat.le_of_ble_eq_true rfl) dX12_proof_17 rfl hn (fun r5 z6 hf => ?_)
    refine V_ishl dX12_proof_20 ?_
    refine V_iconst (v := (1 : Int32)) dX12_proof_21 (by decide) ?_
    refine V_isub dX12_proof_22 ?_
    refine V_cSI (ctX12_within hn hf) gc_X12_198 rfl ⟨by decide, by decide, Nat.zero_le _, Nat.zero_le _⟩ (Nat.le_of_ble_eq_true rfl) dX12_proof_23 rfl hn (fun r7 z8 hf => ?_)
    refine V_if_ne (tgt := 31) dX12_proof_26 (by decide) (fun h30 => ?_) (fun h30 => ?_)
    · have hf := it_f h30 hf
      refine V_iconst (v := (-1 : Int32)) dX12_proof_31 (by decide) ?_
      refine V_istore_n (ls2 := [(3, .int (-1 : Int32)), (0, .ref a0), (1, .int x1), (2, .int x2)]) dX12_proof_32 rfl (by decide) rfl ?_
      refine V_iconst (v := (0 : Int32)) dX12_proof_33 (by decide) ?_
      refine V_istore (ls2 := [(4, .int (0 : Int32)), (3, .int (-1 : Int32)), (0, .ref a0), (1, .int x1), (2, .int x2)]) dX12_proof_34 (by decide) rfl ?_
      obtain ⟨N, hf⟩ := hf
      refine V_to [2, 3, 4, 1, 0] rfl ?_
      exact vX12_proof_L36 hn N _ _ _ _ _ _ hf
    · have hf := it_t (Classical.not_not.mp h30) hf
      refine V_iconst (v := (-1 : Int32)) dX12_proof_29 (by decide) ?_
      exact V_ireturn dX12_proof_30 rfl rfl (Nat.le_refl 0) (kI_of hf)
