def wX8_readsLight_J36 (n : Nat) (sh : Nat → Nat × Nat) (k19 : Nat → Nat → Int32 → gS → Prop) (P : Int32 → gS → Prop) (a0 : Nat) (a1 : Nat) (x2 : Int32) (z : gS) : Prop := (oO n sh a0 5) ∧ (wX9_hasNumber n sh a0 (0 : Int32) (1 : Int32) z (fun (r5 : Int32) (z6 : gS) => if r5 = 0 then P (0 : Int32) z6 else (if x2 < (12 : Int32) then ((oO n sh a1 4) ∧ (∃ t9 : Nat, gr z6 a1 6 = some t9 ∧ ((oA n sh t9 1) ∧ ((vp_in x2 (sh t9).2) ∧ (∀ z12 : gS, z12 = si z6 t9 x2.toNatClampNeg (gi z6 a0 5) → (∀ z13 : gS, z13 = si z12 a1 13 ((gi z12 a1 13) + (1 : Int32)) → (wX9_advance n sh a0 z13 (fun (z15 : gS) => ∀ v16 : Int32, v16 = x2 + (1 : Int32) → k19 a0 a1 v16 z15)))))))) else (wX9_isWrong n sh a0 (5 : Int32) z6 (fun (r17 : Int32) (z18 : gS) => (bo r17) ∧ P r17 z18)))))
set_option maxRecDepth 100000 in
set_option maxHeartbeats 4000000 in
theorem vX8_readsLight_J36 {E : gE} {n : Nat} {sh : Nat → Nat × Nat} {P : Int32 → gS → Prop} {k19 : Nat → Nat → Int32 → gS → Prop} {a0 : Nat} {a1 : Nat} {x2 : Int32} {z : gS} (hn : gOK E n) (hk19 : ∀ (a0 : Nat) (a1 : Nat) (x2 : Int32) (z : gS), k19 a0 a1 x2 z → V E (gR 6 0) gyX8_readsLight 0 0 19 [(0, .ref a0), (1, .ref a1), (2, .int x2)] [] n sh z (kI n sh P)) (hf : wX8_readsLight_J36 n sh k19 P a0 a1 x2 z) : V E (gR 6 0) gyX8_readsLight 0 0 36 [(0, .ref a0), (1, .ref a1), (2, .int x2)] [] n sh z (kI n sh P) := by
  unfold wX8_readsLight_J36 at hf
  refine V_aload_n (j := 0) dX8_readsLight_36 rfl rfl ?_
  refine V_iconst (v := (0 : Int32)) dX8_readsLight_37 (by decide) ?_
  refine V_iconst (v := (1 : Int32)) dX8_readsLight_38 (by decide) ?_
  obtain ⟨h7, hf⟩ := hf
  refine V_cVI (ctX9_hasNumber hn hf) gc_X8_80 rfl h7.1 ⟨_, h7.2, by decide, rfl⟩ ⟨by decide, by decide, Nat.zero_le _, Nat.zero_le _⟩ (Nat.le_of_ble_eq_true rfl) dX8_readsLight_39 rfl hn (fun r5 z6 hf => ?_)
  refine V_if_ne (tgt := 47) dX8_readsLight_42 (by decide) (fun h20 => ?_) (fun h20 => ?_)
  · have hf := it_f h20 hf
    refine V_iload_n (j := 2) dX8_readsLight_47 rfl rfl ?_
    refine V_bipush (v := (12 : Int32)) dX8_readsLight_48 (by decide) ?_
    refine V_icmp_lt (tgt := 59) dX8_readsLight_50 (by decide) (fun h19 => ?_) (fun h19 => ?_)
    · have hf := it_t h19 hf
      refine V_aload_n (j := 1) dX8_readsLight_59 rfl rfl ?_
      obtain ⟨h8, hf⟩ := hf
      obtain ⟨t9, et9, hf⟩ := hf
      refine V_getR fl_X8_125 rfl h8.1 h8.2 et9 dX8_readsLight_60 ?_
      refine V_iload_n (j := 2) dX8_readsLight_63 rfl rfl ?_
      refine V_aload_n (j := 0) dX8_readsLight_64 rfl rfl ?_
      refine V_getI fl_X8_87 rfl h7.1 h7.2 dX8_readsLight_65 ?_
      obtain ⟨h10, hf⟩ := hf
      obtain ⟨h11, hf⟩ := hf
      refine V_iast h10.1 h10.s h11 dX8_readsLight_68 ?_
      refine V_nz (fun z12 ez12 => ?_)
      have hf := hf z12 ez12
      refine V_aload_n (j := 1) dX8_readsLight_69 rfl rfl ?_
      refine V_dup dX8_readsLight_70 rfl ?_
      refine V_getI fl_X8_122 rfl h8.1 h8.2 dX8_readsLight_71 ?_
      refine V_iconst (v := (1 : Int32)) dX8_readsLight_74 (by decide) ?_
      refine V_iadd dX8_readsLight_75 ?_
      refine V_putI fl_X8_122 rfl rfl rfl rfl h8.1 h8.2 dX8_readsLight_76 ?_
      refine V_nz (fun z13 ez13 => ?_)
      have hf := hf z13 ez13
      refine V_aload_n (j := 0) dX8_readsLight_79 rfl rfl ?_
      refine V_cVN (ctX9_advance hn hf) gc_X8_59 rfl h7.1 ⟨_, h7.2, by decide, rfl⟩ ⟨by decide, by decide, Nat.zero_le _, Nat.zero_le _⟩ (Nat.le_of_ble_eq_true rfl) dX8_readsLight_80 rfl hn (fun z15 hf => ?_)
      obtain ⟨v16, ev16⟩ : ∃ y : Int32, y = x2 + (1 : Int32) := ⟨_, rfl⟩
      refine V_iinc (j := 2) (v := v16) (ls2 := [(2, .int v16), (0, .ref a0), (1, .ref a1)]) dX8_readsLight_83 rfl (by rw [ev16]; rfl) (by decide) rfl ?_
      have hf := hf v16 ev16
      refine V_goto (tgt := 19) dX8_readsLight_86 (by decide) ?_
      refine V_to [1, 2, 0] rfl ?_
      exact hk19 _ _ _ _ hf
    · have hf := it_f h19 hf
      refine V_aload_n (j := 0) dX8_readsLight_53 rfl rfl ?_
      refine V_iconst (v := (5 : Int32)) dX8_readsLight_54 (by decide) ?_
      refine V_cVI (ctX9_isWrong hn hf) gc_X8_52 rfl h7.1 ⟨_, h7.2, by decide, rfl⟩ ⟨by decide, by decide, Nat.zero_le _, Nat.zero_le _⟩ (Nat.le_of_ble_eq_true rfl) dX8_readsLight_55 rfl hn (fun r17 z18 hf => ?_)
      exact V_ireturn dX8_readsLight_58 rfl hf.1 (Nat.le_refl 0) (kI_of hf.2)
  · have hf := it_t (Classical.not_not.mp h20) hf
    refine V_iconst (v := (0 : Int32)) dX8_readsLight_45 (by decide) ?_
    exact V_ireturn dX8_readsLight_46 rfl (by decide) (Nat.le_refl 0) (kI_of hf)
def wX8_readsLight_B19 (n : Nat) (sh : Nat → Nat × Nat) (k19 : Nat → Nat → Int32 → gS → Prop) (P : Int32 → gS → Prop) (a0 : Nat) (a1 : Nat) (x2 : Int32) (z : gS) : Prop := if (12 : Int32) < x2 then P (1 : Int32) z else (if x2 = 0 then wX8_readsLight_J36 n sh k19 P a0 a1 x2 z else ((oO n sh a0 5) ∧ (wX9_isNumber n sh a0 z (fun (r21 : Int32) (z22 : gS) => if r21 = 0 then P (1 : Int32) z22 else wX8_readsLight_J36 n sh k19 P a0 a1 x2 z22))))
def wX8_readsLight_L19 (n : Nat) (sh : Nat → Nat × Nat) (P : Int32 → gS → Prop) : Nat → Nat → Nat → Int32 → gS → Prop
  | 0, _, _, _, _ => False
  | N + 1, a0, a1, x2, z => wX8_readsLight_B19 n sh (wX8_readsLight_L19 n sh P N) P a0 a1 x2 z
set_option maxRecDepth 100000 in
set_option maxHeartbeats 4000000 in
theorem vX8_readsLight_B19 {E : gE} {n : Nat} {sh : Nat → Nat × Nat} {P : Int32 → gS → Prop} {k19 : Nat → Nat → Int32 → gS → Prop} {a0 : Nat} {a1 : Nat} {x2 : Int32} {z : gS} (hn : gOK E n) (hk19 : ∀ (a0 : Nat) (a1 : Nat) (x2 : Int32) (z : gS), k19 a0 a1 x2 z → V E (gR 6 0) gyX8_readsLight 0 0 19 [(0, .ref a0), (1, .ref a1), (2, .int x2)] [] n sh z (kI n sh P)) (hf : wX8_readsLight_B19 n sh k19 P a0 a1 x2 z) : V E (gR 6 0) gyX8_readsLight 0 0 19 [(0, .ref a0), (1, .ref a1), (2, .int x2)] [] n sh z (kI n sh P) := by
  unfold wX8_readsLight_B19 at hf
  refine V_iload_n (j := 2) dX8_readsLight_19 rfl rfl ?_
  refine V_bipush (v := (12 : Int32)) dX8_readsLight_20 (by decide) ?_
  refine V_icmp_gt (tgt := 89) dX8_readsLight_22 (by decide) (fun h26 => ?_) (fun h26 => ?_)
  · have hf := it_t h26 hf
    refine V_iconst (v := (1 : Int32)) dX8_readsLight_89 (by decide) ?_
    exact V_ireturn dX8_readsLight_90 rfl (by decide) (Nat.le_refl 0) (kI_of hf)
  · have hf := it_f h26 hf
    refine V_iload_n (j := 2) dX8_readsLight_25 rfl rfl ?_
    refine V_if_eq (tgt := 36) dX8_readsLight_26 (by decide) (fun h25 => ?_) (fun h25 => ?_)
    · have hf := it_t h25 hf
      exact vX8_readsLight_J36 hn hk19 hf
    · have hf := it_f h25 hf
      refine V_aload_n (j := 0) dX8_readsLight_29 rfl rfl ?_
      obtain ⟨h23, hf⟩ := hf
      refine V_cVI (ctX9_isNumber hn hf) gc_X8_94 rfl h23.1 ⟨_, h23.2, by decide, rfl⟩ ⟨by decide, by decide, Nat.zero_le _, Nat.zero_le _⟩ (Nat.le_of_ble_eq_true rfl) dX8_readsLight_30 rfl hn (fun r21 z22 hf => ?_)
      refine V_if_eq (tgt := 89) dX8_readsLight_33 (by decide) (fun h24 => ?_) (fun h24 => ?_)
      · have hf := it_t h24 hf
        refine V_iconst (v := (1 : Int32)) dX8_readsLight_89 (by decide) ?_
        exact V_ireturn dX8_readsLight_90 rfl (by decide) (Nat.le_refl 0) (kI_of hf)
      · have hf := it_f h24 hf
        exact vX8_readsLight_J36 hn hk19 hf
set_option maxRecDepth 100000 in
set_option maxHeartbeats 4000000 in
theorem vX8_readsLight_L19 {E : gE} {n : Nat} {sh : Nat → Nat × Nat} {P : Int32 → gS → Prop} (hn : gOK E n) : ∀ (N : Nat) (a0 : Nat) (a1 : Nat) (x2 : Int32) (z : gS), wX8_readsLight_L19 n sh P N a0 a1 x2 z → V E (gR 6 0) gyX8_readsLight 0 0 19 [(0, .ref a0), (1, .ref a1), (2, .int x2)] [] n sh z (kI n sh P) := by
  intro N
  induction N with
  | zero => intro a0 a1 x2 z hf; exact False.elim hf
  | succ N ih => intro a0 a1 x2 z hf; exact vX8_readsLight_B19 hn ih hf
def wX8_readsLight (n : Nat) (sh : Nat → Nat × Nat) (a0 : Nat) (a1 : Nat) (z : gS) (P : Int32 → gS → Prop) : Prop := (oO n sh a1 4) ∧ (if (gi z a1 13) ≤ 0 then ((oO n sh a0 5) ∧ (wX9_advance n sh a0 z (fun (z3 : gS) => (∃ N, wX8_readsLight_L19 n sh P N a0 a1 (0 : Int32) z3)))) else ((oO n sh a0 5) ∧ (wX9_isWrong n sh a0 (3 : Int32) z (fun (r27 : Int32) (z28 : gS) => (bo r27) ∧ P r27 z28))))
set_option maxRecDepth 100000 in
set_option maxHeartbeats 4000000 in
theorem ctX8_readsLight {E : gE} {n : Nat} {sh : Nat → Nat × Nat} {a0 : Nat} {a1 : Nat} {z : gS} {P : Int32 → gS → Prop} (hn : gOK E n) (hf : wX8_readsLight n sh a0 a1 z P) : VM E 6 0 gyX8_readsLight [.ref a0, .ref a1] n sh z (kI n sh P) := by
  unfold wX8_readsLight at hf
  refine VM.of (by decide +kernel) (Nat.le_of_ble_eq_true rfl) (fun _ _ _ h => h.2.2) ?_
  show V E (gR 6 0) gyX8_readsLight 0 0 0 [(0, .ref a0), (1, .ref a1)] [] n sh z (kI n sh P)
  refine V_aload_n (j := 1) dX8_readsLight_0 rfl rfl ?_
  obtain ⟨h1, hf⟩ := hf
  refine V_getI fl_X8_122 rfl h1.1 h1.2 dX8_readsLight_1 ?_
  refine V_if_le (tgt := 13) dX8_readsLight_4 (by decide) (fun h30 => ?_) (fun h30 => ?_)
  · have hf := it_t h30 hf
    refine V_aload_n (j := 0) dX8_readsLight_13 rfl rfl ?_
    obtain ⟨h4, hf⟩ := hf
    refine V_cVN (ctX9_advance hn hf) gc_X8_59 rfl h4.1 ⟨_, h4.2, by decide, rfl⟩ ⟨by decide, by decide, Nat.zero_le _, Nat.zero_le _⟩ (Nat.le_of_ble_eq_true rfl) dX8_readsLight_14 rfl hn (fun z3 hf => ?_)
    refine V_iconst (v := (0 : Int32)) dX8_readsLight_17 (by decide) ?_
    refine V_istore_n (ls2 := [(2, .int (0 : Int32)), (0, .ref a0), (1, .ref a1)]) dX8_readsLight_18 rfl (by decide) rfl ?_
    obtain ⟨N, hf⟩ := hf
    refine V_to [1, 2, 0] rfl ?_
    exact vX8_readsLight_L19 hn N _ _ _ _ hf
  · have hf := it_f h30 hf
    refine V_aload_n (j := 0) dX8_readsLight_7 rfl rfl ?_
    refine V_iconst (v := (3 : Int32)) dX8_readsLight_8 (by decide) ?_
    obtain ⟨h29, hf⟩ := hf
    refine V_cVI (ctX9_isWrong hn hf) gc_X8_52 rfl h29.1 ⟨_, h29.2, by decide, rfl⟩ ⟨by decide, by decide, Nat.zero_le _, Nat.zero_le _⟩ (Nat.le_of_ble_eq_true rfl) dX8_readsLight_9 rfl hn (fun r27 z28 hf => ?_)
    exact V_ireturn dX8_readsLight_12 rfl hf.1 (Nat.le_refl 0) (kI_of hf.2)
def wX9_isSign (n : Nat) (sh : Nat → Nat × Nat) (a0 : Nat) (x1 : Int32) (z : gS) (P : Int32 → gS → Prop) : Prop := (oO n sh a0 5) ∧ (if (gi z a0 2) = (4 : Int32) then (∃ t2 : Nat, gr z a0 0 = some t2 ∧ ((oA n sh t2 3) ∧ ((vp_in (gi z a0 3) (sh t2).2) ∧ (if (gi z t2 (gi z a0 3).toNatClampNeg) = x1 then P (1 : Int32) z else P (0 : Int32) z)))) else P (0 : Int32) z)
set_option maxRecDepth 100000 in
set_option maxHeartbeats 4000000 in
theorem ctX9_isSign {E : gE} {n : Nat} {sh : Nat → Nat × Nat} {a0 : Nat} {x1 : Int32} {z : gS} {P : Int32 → gS → Prop} (hn : gOK E n) (hf : wX9_isSign n sh a0 x1 z P) : VM E 0 0 gyX9_isSign [.ref a0, .int x1] n sh z (kI n sh P) := by
  unfold wX9_isSign at hf
  refine VM.of (by decide +kernel) (Nat.le_of_ble_eq_true rfl) (fun _ _ _ h => h.2.2) ?_
  show V E (gR 0 0) gyX9_isSign 0 0 0 [(0, .ref a0), (1, .int x1)] [] n sh z (kI n sh P)
  refine V_aload_n (j := 0) dX9_isSign_0 rfl rfl ?_
  obtain ⟨h1, hf⟩ := hf
  refine V_getI fl_X9_19 rfl h1.1 h1.2 dX9_isSign_1 ?_
  refine V_iconst (v := (4 : Int32)) dX9_isSign_4 (by decide) ?_
  refine V_icmp_ne (tgt := 25) dX9_isSign_5 (by decide) (fun h6 => ?_) (fun h6 => ?_)
  · have hf := it_f h6 hf
    refine V_iconst (v := (0 : Int32)) dX9_isSign_25 (by decide) ?_
    exact V_ireturn dX9_isSign_26 rfl (by decide) (Nat.le_refl 0) (kI_of hf)
  · have hf := it_t (Classical.not_not.mp h6) hf
    refine V_aload_n (j := 0) dX9_isSign_8 rfl rfl ?_
    obtain ⟨t2, et2, hf⟩ := hf
    refine V_getR fl_X9_11 rfl h1.1 h1.2 et2 dX9_isSign_9 ?_
    refine V_aload_n (j := 0) dX9_isSign_12 rfl rfl ?_
    refine V_getI fl_X9_22 rfl h1.1 h1.2 dX9_isSign_13 ?_
    obtain ⟨h3, hf⟩ := hf
    obtain ⟨h4, hf⟩ := hf
    refine V_cald h3.1 h3.s h4 dX9_isSign_16 ?_
    refine V_iload_n (j := 1) dX9_isSign_17 rfl rfl ?_
    refine V_icmp_ne (tgt := 25) dX9_isSign_18 (by decide) (fun h5 => ?_) (fun h5 => ?_)
    · have hf := it_f h5 hf
      refine V_iconst (v := (0 : Int32)) dX9_isSign_25 (by decide) ?_
      exact V_ireturn dX9_isSign_26 rfl (by decide) (Nat.le_refl 0) (kI_of hf)
    · have hf := it_t (Classical.not_not.mp h5) hf
      refine V_iconst (v := (1 : Int32)) dX9_isSign_21 (by decide) ?_
      refine V_goto (tgt := 26) dX9_isSign_22 (by decide) ?_
      exact V_ireturn dX9_isSign_26 rfl (by decide) (Nat.le_refl 0) (kI_of hf)
def wX5_add (n : Nat) (sh : Nat → Nat × Nat) (a0 : Nat) (x1 : Int32) (z : gS) (P : gS → Prop) : Prop := (oO n sh a0 3) ∧ (∃ t2 : Nat, gr z a0 0 = some t2 ∧ ((oA n sh t2 1) ∧ (if (Int32.ofNat (sh t2).2) ≤ (gi z a0 2) then P z else (∃ t4 : Nat, gr z a0 0 = some t4 ∧ ((oA n sh t4 1) ∧ ((vp_in (gi z a0 2) (sh t4).2) ∧ (∀ z7 : gS, z7 = si z t4 (gi z a0 2).toNatClampNeg x1 → (∀ z8 : gS, z8 = si z7 a0 2 ((gi z7 a0 2) + (1 : Int32)) → P z8))))))))
set_option maxRecDepth 100000 in
set_option maxHeartbeats 4000000 in
theorem ctX5_add {E : gE} {n : Nat} {sh : Nat → Nat × Nat} {a0 : Nat} {x1 : Int32} {z : gS} {P : gS → Prop} (hn : gOK E n) (hf : wX5_add n sh a0 x1 z P) : VM E 0 0 gyX5_add [.ref a0, .int x1] n sh z (kN n sh P) := by
  unfold wX5_add at hf
  refine VM.of (by decide +kernel) (Nat.le_of_ble_eq_true rfl) (fun _ _ _ h => h.2.2) ?_
  show V E (gR 0 0) gyX5_add 0 0 0 [(0, .ref a0), (1, .int x1)] [] n sh z (kN n sh P)
  refine V_aload_n (j := 0) dX5_add_0 rfl rfl ?_
  obtain ⟨h1, hf⟩ := hf
  refine V_getI fl_X5_20 rfl h1.1 h1.2 dX5_add_1 ?_
  refine V_aload_n (j := 0) dX5_add_4 rfl rfl ?_
  obtain ⟨t2, et2, hf⟩ := hf
  refine V_getR fl_X5_11 rfl h1.1 h1.2 et2 dX5_add_5 ?_
  obtain ⟨h3, hf⟩ := hf
  refine V_alen1 h3.1 h3.s dX5_add_8 ?_
  refine V_icmp_ge (tgt := 32) dX5_add_9 (by decide) (fun h9 => ?_) (fun h9 => ?_)
  · have hf := it_t h9 hf
    exact V_return dX5_add_32 rfl (Nat.le_refl 0) (kN_of hf)
  · have hf := it_f h9 hf
    refine V_aload_n (j := 0) dX5_add_12 rfl rfl ?_
    obtain ⟨t4, et4, hf⟩ := hf
    refine V_getR fl_X5_11 rfl h1.1 h1.2 et4 dX5_add_13 ?_
    refine V_aload_n (j := 0) dX5_add_16 rfl rfl ?_
    refine V_getI fl_X5_20 rfl h1.1 h1.2 dX5_add_17 ?_
    refine V_iload_n (j := 1) dX5_add_20 rfl rfl ?_
    obtain ⟨h5, hf⟩ := hf
    obtain ⟨h6, hf⟩ := hf
    refine V_iast h5.1 h5.s h6 dX5_add_21 ?_
    refine V_nz (fun z7 ez7 => ?_)
    have hf := hf z7 ez7
    refine V_aload_n (j := 0) dX5_add_22 rfl rfl ?_
    refine V_dup dX5_add_23 rfl ?_
    refine V_getI fl_X5_20 rfl h1.1 h1.2 dX5_add_24 ?_
    refine V_iconst (v := (1 : Int32)) dX5_add_27 (by decide) ?_
    refine V_iadd dX5_add_28 ?_
    refine V_putI fl_X5_20 rfl rfl rfl rfl h1.1 h1.2 dX5_add_29 ?_
    refine V_nz (fun z8 ez8 => ?_)
    have hf := hf z8 ez8
    exact V_return dX5_add_32 rfl (Nat.le_refl 0) (kN_of hf)
def wX5_readsPart_J158 (n : Nat) (sh : Nat → Nat × Nat) (rcX5_readsLevel : Nat → Nat → Int32 → Int32 → gS → (Int32 → gS → Prop) → Prop) (rcX5_readsPart : Nat → Nat → Int32 → gS → (Int32 → gS → Prop) → Prop) (P : Int32 → gS → Prop) (a1 : Nat) (s0 : Int32) (s1 : Nat) (z : gS) : Prop := (oO n sh s1 3) ∧ (wX5_add n sh s1 s0 z (fun (z10 : gS) => (oO n sh a1 5) ∧ (wX9_advance n sh a1 z10 (fun (z13 : gS) => P (1 : Int32) z13))))
set_option maxRecDepth 100000 in
set_option maxHeartbeats 4000000 in
theorem vX5_readsPart_J158 {E : gE} {n : Nat} {sh : Nat → Nat × Nat} {P : Int32 → gS → Prop} {rcX5_readsLevel : Nat → Nat → Int32 → Int32 → gS → (Int32 → gS → Prop) → Prop} {rcX5_readsPart : Nat → Nat → Int32 → gS → (Int32 → gS → Prop) → Prop} {a1 : Nat} {s0 : Int32} {s1 : Nat} {z : gS} (hn : gOK E n) {dd : Nat} (hrcX5_readsLevel : ∀ (b0 : Nat) (b1 : Nat) (b2 : Int32) (b3 : Int32) (z : gS) (P : Int32 → gS → Prop), rcX5_readsLevel b0 b1 b2 b3 z P → VM E dd 0 gyX5_readsLevel [.ref b0, .ref b1, .int b2, .int b3] n sh z (kI n sh P)) (hrcX5_readsPart : ∀ (b0 : Nat) (b1 : Nat) (b2 : Int32) (z : gS) (P : Int32 → gS → Prop), rcX5_readsPart b0 b1 b2 z P → VM E dd 0 gyX5_readsPart [.ref b0, .ref b1, .int b2] n sh z (kI n sh P)) (hdd : 9 ≤ dd) (hf : wX5_readsPart_J158 n sh rcX5_readsLevel rcX5_readsPart P a1 s0 s1 z) : V E (gR (dd + 1) 0) gyX5_readsPart 0 0 158 [(1, .ref a1)] [.int s0, .ref s1] n sh z (kI n sh P) := by
  unfold wX5_readsPart_J158 at hf
  obtain ⟨h11, hf⟩ := hf
  refine V_cVN (ctX5_add hn hf) gc_X5_39 rfl h11.1 ⟨_, h11.2, by decide, rfl⟩ ⟨(by show 0 + 1 ≤ dd + 1; omega), (by show 64 * 0 + 19 + 2 ≤ 64 * (dd + 1); omega), Nat.zero_le _, Nat.zero_le _⟩ (Nat.le_of_ble_eq_true rfl) dX5_readsPart_158 rfl hn (fun z10 hf => ?_)
  refine V_aload_n (j := 0) dX5_readsPart_161 rfl rfl ?_
  obtain ⟨h14, hf⟩ := hf
  refine V_cVN (ctX9_advance hn hf) gc_X5_36 rfl h14.1 ⟨_, h14.2, by decide, rfl⟩ ⟨(by show 5 + 1 ≤ dd + 1; omega), (by show 64 * 5 + 19 + 3 ≤ 64 * (dd + 1); omega), Nat.zero_le _, Nat.zero_le _⟩ (Nat.le_of_ble_eq_true rfl) dX5_readsPart_162 rfl hn (fun z13 hf => ?_)
  refine V_iconst (v := (1 : Int32)) dX5_readsPart_165 (by decide) ?_
  exact V_ireturn dX5_readsPart_166 rfl (by decide) (Nat.le_refl 0) (kI_of hf)
def wX5_readsPart_J59 (n : Nat) (sh : Nat → Nat × Nat) (rcX5_readsLevel : Nat → Nat → Int32 → Int32 → gS → (Int32 → gS → Prop) → Prop) (rcX5_readsPart : Nat → Nat → Int32 → gS → (Int32 → gS → Prop) → Prop) (P : Int32 → gS → Prop) (a0 : Nat) (a1 : Nat) (x2 : Int32) (x3 : Int32) (x4 : Int32) (x5 : Int32) (z : gS) : Prop := if x2 < (5 : Int32) then (if x5 = 0 then (if x4 = 0 then (if x3 = (-1 : Int32) then ((oO n sh a1 5) ∧ wX5_readsPart_J158 n sh rcX5_readsLevel rcX5_readsPart P a1 (gi z a1 5) a0 z) else wX5_readsPart_J158 n sh rcX5_readsLevel rcX5_readsPart P a1 ((-1 : Int32) - x3) a0 z) else ((oO n sh a1 5) ∧ (wX9_advance n sh a1 z (fun (z18 : gS) => (oO n sh a0 3) ∧ (rcX5_readsPart a0 a1 (x2 + (1 : Int32)) z18 (fun (r20 : Int32) (z21 : gS) => wX5_add n sh a0 (-5 : Int32) z21 (fun (z24 : gS) => (bo r20) ∧ P r20 z24))))))) else ((oO n sh a1 5) ∧ (wX9_advance n sh a1 z (fun (z27 : gS) => (oO n sh a0 3) ∧ (rcX5_readsLevel a0 a1 (0 : Int32) (x2 + (1 : Int32)) z27 (fun (r29 : Int32) (z30 : gS) => if r29 = 0 then P (0 : Int32) z30 else (wX9_isSign n sh a1 (41 : Int32) z30 (fun (r32 : Int32) (z33 : gS) => if r32 = 0 then (wX9_isWrong n sh a1 (1 : Int32) z33 (fun (r36 : Int32) (z37 : gS) => (bo r36) ∧ P r36 z37)) else (wX9_advance n sh a1 z33 (fun (z35 : gS) => P (1 : Int32) z35)))))))))) else ((oO n sh a1 5) ∧ (wX9_isWrong n sh a1 (5 : Int32) z (fun (r41 : Int32) (z42 : gS) => (bo r41) ∧ P r41 z42)))
set_option maxRecDepth 100000 in
set_option maxHeartbeats 4000000 in
theorem vX5_readsPart_J59 {E : gE} {n : Nat} {sh : Nat → Nat × Nat} {P : Int32 → gS → Prop} {rcX5_readsLevel : Nat → Nat → Int32 → Int32 → gS → (Int32 → gS → Prop) → Prop} {rcX5_readsPart : Nat → Nat → Int32 → gS → (Int32 → gS → Prop) → Prop} {a0 : Nat} {a1 : Nat} {x2 : Int32} {x3 : Int32} {x4 : Int32} {x5 : Int32} {z : gS} (hn : gOK E n) {dd : Nat} (hrcX5_readsLevel : ∀ (b0 : Nat) (b1 : Nat) (b2 : Int32) (b3 : Int32) (z : gS) (P : Int32 → gS → Prop), rcX5_readsLevel b0 b1 b2 b3 z P → VM E dd 0 gyX5_readsLevel [.ref b0, .ref b1, .int b2, .int b3] n sh z (kI n sh P)) (hrcX5_readsPart : ∀ (b0 : Nat) (b1 : Nat) (b2 : Int32) (z : gS) (P : Int32 → gS → Prop), rcX5_readsPart b0 b1 b2 z P → VM E dd 0 gyX5_readsPart [.ref b0, .ref b1, .int b2] n sh z (kI n sh P)) (hdd : 9 ≤ dd) (hf : wX5_readsPart_J59 n sh rcX5_readsLevel rcX5_readsPart P a0 a1 x2 x3 x4 x5 z) : V E (gR (dd + 1) 0) gyX5_readsPart 0 0 59 [(0, .ref a0), (1, .ref a1), (2, .int x2), (3, .int x3), (4, .int x4), (5, .int x5)] [] n sh z (kI n sh P) := by
  unfold wX5_readsPart_J59 at hf
  refine V_iload_n (j := 2) dX5_readsPart_59 rfl rfl ?_
  refine V_iconst (v := (5 : Int32)) dX5_readsPart_60 (by decide) ?_
  refine V_icmp_lt (tgt := 70) dX5_readsPart_61 (by decide) (fun h44 => ?_) (fun h44 => ?_)
  · have hf := it_t h44 hf
    refine V_iload (j := 5) dX5_readsPart_70 rfl ?_
    refine V_if_eq (tgt := 114) dX5_readsPart_72 (by decide) (fun h40 => ?_) (fun h40 => ?_)
    · have hf := it_t h40 hf
      refine V_iload (j := 4) dX5_readsPart_114 rfl ?_
      refine V_if_eq (tgt := 142) dX5_readsPart_116 (by decide) (fun h25 => ?_) (fun h25 => ?_)
      · have hf := it_t h25 hf
        refine V_aload_n (j := 0) dX5_readsPart_142 rfl rfl ?_
        refine V_iload_n (j := 3) dX5_readsPart_143 rfl rfl ?_
        refine V_iconst (v := (-1 : Int32)) dX5_readsPart_144 (by decide) ?_
        refine V_icmp_ne (tgt := 155) dX5_readsPart_145 (by decide) (fun h16 => ?_) (fun h16 => ?_)
        · have hf := it_f h16 hf
          refine V_iconst (v := (-1 : Int32)) dX5_readsPart_155 (by decide) ?_
          refine V_iload_n (j := 3) dX5_readsPart_156 rfl rfl ?_
          refine V_isub dX5_readsPart_157 ?_
          refine V_to [1] rfl ?_
          exact vX5_readsPart_J158 hn hrcX5_readsLevel hrcX5_readsPart hdd hf
        · have hf := it_t (Classical.not_not.mp h16) hf
          refine V_aload_n (j := 1) dX5_readsPart_148 rfl rfl ?_
          obtain ⟨h15, hf⟩ := hf
          refine V_getI fl_X5_64 rfl h15.1 h15.2 dX5_readsPart_149 ?_
          refine V_goto (tgt := 158) dX5_readsPart_152 (by decide) ?_
          refine V_to [1] rfl ?_
          exact vX5_readsPart_J158 hn hrcX5_readsLevel hrcX5_readsPart hdd hf
      · have hf := it_f h25 hf
        refine V_aload_n (j := 1) dX5_readsPart_119 rfl rfl ?_
        obtain ⟨h19, hf⟩ := hf
        refine V_cVN (ctX9_advance hn hf) gc_X5_36 rfl h19.1 ⟨_, h19.2, by decide, rfl⟩ ⟨(by show 5 + 1 ≤ dd + 1; omega), (by show 64 * 5 + 19 + 3 ≤ 64 * (dd + 1); omega), Nat.zero_le _, Nat.zero_le _⟩ (Nat.le_of_ble_eq_true rfl) dX5_readsPart_120 rfl hn (fun z18 hf => ?_)
        refine V_aload_n (j := 0) dX5_readsPart_123 rfl rfl ?_
        refine V_aload_n (j := 1) dX5_readsPart_124 rfl rfl ?_
        refine V_iload_n (j := 2) dX5_readsPart_125 rfl rfl ?_
        refine V_iconst (v := (1 : Int32)) dX5_readsPart_126 (by decide) ?_
        refine V_iadd dX5_readsPart_127 ?_
        obtain ⟨h22, hf⟩ := hf
        refine V_cVI (hrcX5_readsPart _ _ _ _ _ hf) gc_X5_24 rfl h22.1 ⟨_, h22.2, by decide, rfl⟩ ⟨Nat.le_refl _, (by show 64 * dd + 19 + 7 ≤ 64 * (dd + 1); omega), Nat.zero_le _, Nat.zero_le _⟩ (Nat.le_of_ble_eq_true rfl) dX5_readsPart_128 rfl hn (fun r20 z21 hf => ?_)
        refine V_istore (ls2 := [(6, .int r20), (0, .ref a0), (1, .ref a1), (2, .int x2), (3, .int x3), (4, .int x4), (5, .int x5)]) dX5_readsPart_131 (by decide) rfl ?_
        refine V_aload_n (j := 1) dX5_readsPart_133 rfl rfl ?_
        refine V_bipush (v := (-5 : Int32)) dX5_readsPart_134 (by decide) ?_
        refine V_cVN (ctX5_add hn hf) gc_X5_39 rfl h22.1 ⟨_, h22.2, by decide, rfl⟩ ⟨(by show 0 + 1 ≤ dd + 1; omega), (by show 64 * 0 + 19 + 2 ≤ 64 * (dd + 1); omega), Nat.zero_le _, Nat.zero_le _⟩ (Nat.le_of_ble_eq_true rfl) dX5_readsPart_136 rfl hn (fun z24 hf => ?_)
        refine V_iload (j := 0) dX5_readsPart_139 rfl ?_
        exact V_ireturn dX5_readsPart_141 rfl hf.1 (Nat.le_refl 0) (kI_of hf.2)
    · have hf := it_f h40 hf
      refine V_aload_n (j := 1) dX5_readsPart_75 rfl rfl ?_
      obtain ⟨h28, hf⟩ := hf
      refine V_cVN (ctX9_advance hn hf) gc_X5_36 rfl h28.1 ⟨_, h28.2, by decide, rfl⟩ ⟨(by show 5 + 1 ≤ dd + 1; omega), (by show 64 * 5 + 19 + 3 ≤ 64 * (dd + 1); omega), Nat.zero_le _, Nat.zero_le _⟩ (Nat.le_of_ble_eq_true rfl) dX5_readsPart_76 rfl hn (fun z27 hf => ?_)
      refine V_aload_n (j := 0) dX5_readsPart_79 rfl rfl ?_
      refine V_aload_n (j := 1) dX5_readsPart_80 rfl rfl ?_
      refine V_iconst (v := (0 : Int32)) dX5_readsPart_81 (by decide) ?_
      refine V_iload_n (j := 2) dX5_readsPart_82 rfl rfl ?_
      refine V_iconst (v := (1 : Int32)) dX5_readsPart_83 (by decide) ?_
      refine V_iadd dX5_readsPart_84 ?_
      obtain ⟨h31, hf⟩ := hf
      refine V_cVI (hrcX5_readsLevel _ _ _ _ _ _ hf) gc_X5_28 rfl h31.1 ⟨_, h31.2, by decide, rfl⟩ ⟨Nat.le_refl _, (by show 64 * dd + 19 + 7 ≤ 64 * (dd + 1); omega), Nat.zero_le _, Nat.zero_le _⟩ (Nat.le_of_ble_eq_true rfl) dX5_readsPart_85 rfl hn (fun r29 z30 hf => ?_)
      refine V_if_ne (tgt := 93) dX5_readsPart_88 (by decide) (fun h39 => ?_) (fun h39 => ?_)
      · have hf := it_f h39 hf
        refine V_aload_n (j := 1) dX5_readsPart_93 rfl rfl ?_
        refine V_bipush (v := (41 : Int32)) dX5_readsPart_94 (by decide) ?_
        refine V_cVI (ctX9_isSign hn hf) gc_X5_46 rfl h28.1 ⟨_, h28.2, by decide, rfl⟩ ⟨(by show 0 + 1 ≤ dd + 1; omega), (by show 64 * 0 + 19 + 2 ≤ 64 * (dd + 1); omega), Nat.zero_le _, Nat.zero_le _⟩ (Nat.le_of_ble_eq_true rfl) dX5_readsPart_96 rfl hn (fun r32 z33 hf => ?_)
        refine V_if_ne (tgt := 108) dX5_readsPart_99 (by decide) (fun h38 => ?_) (fun h38 => ?_)
        · have hf := it_f h38 hf
          refine V_aload_n (j := 1) dX5_readsPart_108 rfl rfl ?_
          refine V_cVN (ctX9_advance hn hf) gc_X5_36 rfl h28.1 ⟨_, h28.2, by decide, rfl⟩ ⟨(by show 5 + 1 ≤ dd + 1; omega), (by show 64 * 5 + 19 + 3 ≤ 64 * (dd + 1); omega), Nat.zero_le _, Nat.zero_le _⟩ (Nat.le_of_ble_eq_true rfl) dX5_readsPart_109 rfl hn (fun z35 hf => ?_)
          refine V_iconst (v := (1 : Int32)) dX5_readsPart_112 (by decide) ?_
          exact V_ireturn dX5_readsPart_113 rfl (by decide) (Nat.le_refl 0) (kI_of hf)
        · have hf := it_t (Classical.not_not.mp h38) hf
          refine V_aload_n (j := 1) dX5_readsPart_102 rfl rfl ?_
          refine V_iconst (v := (1 : Int32)) dX5_readsPart_103 (by decide) ?_
          refine V_cVI (ctX9_isWrong hn hf) gc_X5_60 rfl h28.1 ⟨_, h28.2, by decide, rfl⟩ ⟨(by show 0 + 1 ≤ dd + 1; omega), (by show 64 * 0 + 19 + 2 ≤ 64 * (dd + 1); omega), Nat.zero_le _, Nat.zero_le _⟩ (Nat.le_of_ble_eq_true rfl) dX5_readsPart_104 rfl hn (fun r36 z37 hf => ?_)
          exact V_ireturn dX5_readsPart_107 rfl hf.1 (Nat.le_refl 0) (kI_of hf.2)
      · have hf := it_t (Classical.not_not.mp h39) hf
        refine V_iconst (v := (0 : Int32)) dX5_readsPart_91 (by decide) ?_
        exact V_ireturn dX5_readsPart_92 rfl (by decide) (Nat.le_refl 0) (kI_of hf)
  · have hf := it_f h44 hf
    refine V_aload_n (j := 1) dX5_readsPart_64 rfl rfl ?_
    refine V_iconst (v := (5 : Int32)) dX5_readsPart_65 (by decide) ?_
    obtain ⟨h43, hf⟩ := hf
    refine V_cVI (ctX9_isWrong hn hf) gc_X5_60 rfl h43.1 ⟨_, h43.2, by decide, rfl⟩ ⟨(by show 0 + 1 ≤ dd + 1; omega), (by show 64 * 0 + 19 + 2 ≤ 64 * (dd + 1); omega), Nat.zero_le _, Nat.zero_le _⟩ (Nat.le_of_ble_eq_true rfl) dX5_readsPart_66 rfl hn (fun r41 z42 hf => ?_)
    exact V_ireturn dX5_readsPart_69 rfl hf.1 (Nat.le_refl 0) (kI_of hf.2)
def wX5_readsPart_J21 (n : Nat) (sh : Nat → Nat × Nat) (rcX5_readsLevel : Nat → Nat → Int32 → Int32 → gS → (Int32 → gS → Prop) → Prop) (rcX5_readsPart : Nat → Nat → Int32 → gS → (Int32 → gS → Prop) → Prop) (P : Int32 → gS → Prop) (a0 : Nat) (a1 : Nat) (x2 : Int32) (x3 : Int32) (s0 : Int32) (z : gS) : Prop := (oO n sh a1 5) ∧ (wX9_isSign n sh a1 (40 : Int32) z (fun (r4 : Int32) (z5 : gS) => wX9_isNumber n sh a1 z5 (fun (r7 : Int32) (z8 : gS) => if r7 = 0 then (if x3 = (-1 : Int32) then (if s0 = 0 then (if r4 = 0 then (wX9_isWrong n sh a1 (1 : Int32) z8 (fun (r45 : Int32) (z46 : gS) => (bo r45) ∧ P r45 z46)) else wX5_readsPart_J59 n sh rcX5_readsLevel rcX5_readsPart P a0 a1 x2 x3 s0 r4 z8) else wX5_readsPart_J59 n sh rcX5_readsLevel rcX5_readsPart P a0 a1 x2 x3 s0 r4 z8) else wX5_readsPart_J59 n sh rcX5_readsLevel rcX5_readsPart P a0 a1 x2 x3 s0 r4 z8) else wX5_readsPart_J59 n sh rcX5_readsLevel rcX5_readsPart P a0 a1 x2 x3 s0 r4 z8)))
set_option maxRecDepth 100000 in
set_option maxHeartbeats 4000000 in
theorem vX5_readsPart_J21 {E : gE} {n : Nat} {sh : Nat → Nat × Nat} {P : Int32 → gS → Prop} {rcX5_readsLevel : Nat → Nat → Int32 → Int32 → gS → (Int32 → gS → Prop) → Prop} {rcX5_readsPart : Nat → Nat → Int32 → gS → (Int32 → gS → Prop) → Prop} {a0 : Nat} {a1 : Nat} {x2 : Int32} {x3 : Int32} {s0 : Int32} {z : gS} (hn : gOK E n) {dd : Nat} (hrcX5_readsLevel : ∀ (b0 : Nat) (b1 : Nat) (b2 : Int32) (b3 : Int32) (z : gS) (P : Int32 → gS → Prop), rcX5_readsLevel b0 b1 b2 b3 z P → VM E dd 0 gyX5_readsLevel [.ref b0, .ref b1, .int b2, .int b3] n sh z (kI n sh P)) (hrcX5_readsPart : ∀ (b0 : Nat) (b1 : Nat) (b2 : Int32) (z : gS) (P : Int32 → gS → Prop), rcX5_readsPart b0 b1 b2 z P → VM E dd 0 gyX5_readsPart [.ref b0, .ref b1, .int b2] n sh z (kI n sh P)) (hdd : 9 ≤ dd) (hf : wX5_readsPart_J21 n sh rcX5_readsLevel rcX5_readsPart P a0 a1 x2 x3 s0 z) : V E (gR (dd + 1) 0) gyX5_readsPart 0 0 21 [(0, .ref a0), (1, .ref a1), (2, .int x2), (3, .int x3)] [.int s0] n sh z (kI n sh P) := by
  unfold wX5_readsPart_J21 at hf
  refine V_istore (ls2 := [(4, .int s0), (0, .ref a0), (1, .ref a1), (2, .int x2), (3, .int x3)]) dX5_readsPart_21 (by decide) rfl ?_
  refine V_aload_n (j := 2) dX5_readsPart_23 rfl rfl ?_
  refine V_bipush (v := (40 : Int32)) dX5_readsPart_24 (by decide) ?_
  obtain ⟨h6, hf⟩ := hf
  refine V_cVI (ctX9_isSign hn hf) gc_X5_46 rfl h6.1 ⟨_, h6.2, by decide, rfl⟩ ⟨(by show 0 + 1 ≤ dd + 1; omega), (by show 64 * 0 + 19 + 2 ≤ 64 * (dd + 1); omega), Nat.zero_le _, Nat.zero_le _⟩ (Nat.le_of_ble_eq_true rfl) dX5_readsPart_26 rfl hn (fun r4 z5 hf => ?_)
  refine V_istore (ls2 := [(5, .int r4), (4, .int s0), (0, .ref a0), (1, .ref a1), (2, .int x2), (3, .int x3)]) dX5_readsPart_29 (by decide) rfl ?_
  refine V_aload_n (j := 3) dX5_readsPart_31 rfl rfl ?_
  refine V_cVI (ctX9_isNumber hn hf) gc_X5_56 rfl h6.1 ⟨_, h6.2, by decide, rfl⟩ ⟨(by show 0 + 1 ≤ dd + 1; omega), (by show 64 * 0 + 19 + 1 ≤ 64 * (dd + 1); omega), Nat.zero_le _, Nat.zero_le _⟩ (Nat.le_of_ble_eq_true rfl) dX5_readsPart_32 rfl hn (fun r7 z8 hf => ?_)
  refine V_if_ne (tgt := 59) dX5_readsPart_35 (by decide) (fun h50 => ?_) (fun h50 => ?_)
  · have hf := it_f h50 hf
    refine V_to [2, 3, 4, 5, 1, 0] rfl ?_
    exact vX5_readsPart_J59 hn hrcX5_readsLevel hrcX5_readsPart hdd hf
  · have hf := it_t (Classical.not_not.mp h50) hf
    refine V_iload_n (j := 5) dX5_readsPart_38 rfl rfl ?_
    refine V_iconst (v := (-1 : Int32)) dX5_readsPart_39 (by decide) ?_
    refine V_icmp_ne (tgt := 59) dX5_readsPart_40 (by decide) (fun h49 => ?_) (fun h49 => ?_)
    · have hf := it_f h49 hf
      refine V_to [2, 3, 4, 5, 1, 0] rfl ?_
      exact vX5_readsPart_J59 hn hrcX5_readsLevel hrcX5_readsPart hdd hf
    · have hf := it_t (Classical.not_not.mp h49) hf
      refine V_iload (j := 1) dX5_readsPart_43 rfl ?_
      refine V_if_ne (tgt := 59) dX5_readsPart_45 (by decide) (fun h48 => ?_) (fun h48 => ?_)
      · have hf := it_f h48 hf
        refine V_to [2, 3, 4, 5, 1, 0] rfl ?_
        exact vX5_readsPart_J59 hn hrcX5_readsLevel hrcX5_readsPart hdd hf
      · have hf := it_t (Classical.not_not.mp h48) hf
        refine V_iload (j := 0) dX5_readsPart_48 rfl ?_
        refine V_if_ne (tgt := 59) dX5_readsPart_50 (by decide) (fun h47 => ?_) (fun h47 => ?_)
        · have hf := it_f h47 hf
          refine V_to [2, 3, 4, 5, 1, 0] rfl ?_
          exact vX5_readsPart_J59 hn hrcX5_readsLevel hrcX5_readsPart hdd hf
        · have hf := it_t (Classical.not_not.mp h47) hf
          refine V_aload_n (j := 3) dX5_readsPart_53 rfl rfl ?_
          refine V_iconst (v := (1 : Int32)) dX5_readsPart_54 (by decide) ?_
          refine V_cVI (ctX9_isWrong hn hf) gc_X5_60 rfl h6.1 ⟨_, h6.2, by decide, rfl⟩ ⟨(by show 0 + 1 ≤ dd + 1; omega), (by show 64 * 0 + 19 + 2 ≤ 64 * (dd + 1); omega), Nat.zero_le _, Nat.zero_le _⟩ (Nat.le_of_ble_eq_true rfl) dX5_readsPart_55 rfl hn (fun r45 z46 hf => ?_)
          exact V_ireturn dX5_readsPart_58 rfl hf.1 (Nat.le_refl 0) (kI_of hf.2)
def wX5_readsPart (n : Nat) (sh : Nat → Nat × Nat) (rcX5_readsLevel : Nat → Nat → Int32 → Int32 → gS → (Int32 → gS → Prop) → Prop) (rcX5_readsPart : Nat → Nat → Int32 → gS → (Int32 → gS → Prop) → Prop) (a0 : Nat) (a1 : Nat) (x2 : Int32) (z : gS) (P : Int32 → gS → Prop) : Prop := (oO n sh a1 5) ∧ (wX9_placeIn n sh a1 1000002 z (fun (r1 : Int32) (z2 : gS) => if (gi z2 a1 7) = (19 : Int32) then wX5_readsPart_J21 n sh rcX5_readsLevel rcX5_readsPart P a0 a1 x2 r1 (1 : Int32) z2 else wX5_readsPart_J21 n sh rcX5_readsLevel rcX5_readsPart P a0 a1 x2 r1 (0 : Int32) z2))
set_option maxRecDepth 100000 in
set_option maxHeartbeats 4000000 in
theorem ctX5_readsPart {E : gE} {n : Nat} {sh : Nat → Nat × Nat} {rcX5_readsLevel : Nat → Nat → Int32 → Int32 → gS → (Int32 → gS → Prop) → Prop} {rcX5_readsPart : Nat → Nat → Int32 → gS → (Int32 → gS → Prop) → Prop} {a0 : Nat} {a1 : Nat} {x2 : Int32} {z : gS} {P : Int32 → gS → Prop} (hn : gOK E n) {dd : Nat} (hrcX5_readsLevel : ∀ (b0 : Nat) (b1 : Nat) (b2 : Int32) (b3 : Int32) (z : gS) (P : Int32 → gS → Prop), rcX5_readsLevel b0 b1 b2 b3 z P → VM E dd 0 gyX5_readsLevel [.ref b0, .ref b1, .int b2, .int b3] n sh z (kI n sh P)) (hrcX5_readsPart : ∀ (b0 : Nat) (b1 : Nat) (b2 : Int32) (z : gS) (P : Int32 → gS → Prop), rcX5_readsPart b0 b1 b2 z P → VM E dd 0 gyX5_readsPart [.ref b0, .ref b1, .int b2] n sh z (kI n sh P)) (hdd : 9 ≤ dd) (hf : wX5_readsPart n sh rcX5_readsLevel rcX5_readsPart a0 a1 x2 z P) : VM E (dd + 1) 0 gyX5_readsPart [.ref a0, .ref a1, .int x2] n sh z (kI n sh P) := by
  unfold wX5_readsPart at hf
  refine VM.of (by decide +kernel) (Nat.le_of_ble_eq_true rfl) (fun _ _ _ h => h.2.2) ?_
  show V E (gR (dd + 1) 0) gyX5_readsPart 0 0 0 [(0, .ref a0), (1, .ref a1), (2, .int x2)] [] n sh z (kI n sh P)
  refine V_aload_n (j := 1) dX5_readsPart_0 rfl rfl ?_
  refine V_ldcs2 hn dX5_readsPart_1 rfl ?_
  obtain ⟨h3, hf⟩ := hf
  refine V_cVI (ctX9_placeIn hn hf) gc_X5_52 rfl h3.1 ⟨_, h3.2, by decide, rfl⟩ ⟨(by show 4 + 1 ≤ dd + 1; omega), (by show 64 * 4 + 19 + 7 ≤ 64 * (dd + 1); omega), Nat.zero_le _, Nat.zero_le _⟩ (Nat.le_of_ble_eq_true rfl) dX5_readsPart_3 rfl hn (fun r1 z2 hf => ?_)
  refine V_istore_n (ls2 := [(3, .int r1), (0, .ref a0), (1, .ref a1), (2, .int x2)]) dX5_readsPart_6 rfl (by decide) rfl ?_
  refine V_aload_n (j := 2) dX5_readsPart_7 rfl rfl ?_
  refine V_getI fl_X5_43 rfl h3.1 h3.2 dX5_readsPart_8 ?_
  refine V_bipush (v := (19 : Int32)) dX5_readsPart_11 (by decide) ?_
  refine V_icmp_ne (tgt := 20) dX5_readsPart_13 (by decide) (fun h51 => ?_) (fun h51 => ?_)
  · have hf := it_f h51 hf
    refine V_iconst (v := (0 : Int32)) dX5_readsPart_20 (by decide) ?_
    refine V_to [1, 2, 3, 0] rfl ?_
    exact vX5_readsPart_J21 hn hrcX5_readsLevel hrcX5_readsPart hdd hf
  · have hf := it_t (Classical.not_not.mp h51) hf
    refine V_iconst (v := (1 : Int32)) dX5_readsPart_16 (by decide) ?_
    refine V_goto (tgt := 21) dX5_readsPart_17 (by decide) ?_
    refine V_to [1, 2, 3, 0] rfl ?_
    exact vX5_readsPart_J21 hn hrcX5_readsLevel hrcX5_readsPart hdd hf
def wX5_joinAt (n : Nat) (sh : Nat → Nat × Nat) (a0 : Nat) (x1 : Int32) (z : gS) (P : Int32 → gS → Prop) : Prop := if x1 = (0 : Int32) then ((oO n sh a0 5) ∧ (if (gi z a0 7) = (20 : Int32) then P (-6 : Int32) z else (if (gi z a0 7) = (21 : Int32) then P (-7 : Int32) z else P (0 : Int32) z))) else (if x1 = (1 : Int32) then ((oO n sh a0 5) ∧ (wX9_isSign n sh a0 (60 : Int32) z (fun (r6 : Int32) (z7 : gS) => if r6 = 0 then (wX9_isSign n sh a0 (61 : Int32) z7 (fun (r9 : Int32) (z10 : gS) => if r9 = 0 then P (0 : Int32) z10 else P (-9 : Int32) z10)) else P (-8 : Int32) z7))) else (if x1 = (2 : Int32) then ((oO n sh a0 5) ∧ (wX9_isSign n sh a0 (43 : Int32) z (fun (r14 : Int32) (z15 : gS) => if r14 = 0 then (wX9_isSign n sh a0 (45 : Int32) z15 (fun (r17 : Int32) (z18 : gS) => if r17 = 0 then P (0 : Int32) z18 else P (-11 : Int32) z18)) else P (-10 : Int32) z15))) else (if x1 = (3 : Int32) then ((oO n sh a0 5) ∧ (wX9_isSign n sh a0 (42 : Int32) z (fun (r22 : Int32) (z23 : gS) => if r22 = 0 then P (0 : Int32) z23 else P (-12 : Int32) z23))) else P (0 : Int32) z)))
set_option maxRecDepth 100000 in
set_option maxHeartbeats 4000000 in
theorem ctX5_joinAt {E : gE} {n : Nat} {sh : Nat → Nat × Nat} {a0 : Nat} {x1 : Int32} {z : gS} {P : Int32 → gS → Prop} (hn : gOK E n) (hf : wX5_joinAt n sh a0 x1 z P) : VM E 1 0 gyX5_joinAt [.ref a0, .int x1] n sh z (kI n sh P) := by
  unfold wX5_joinAt at hf
  refine VM.of (by decide +kernel) (Nat.le_of_ble_eq_true rfl) (fun _ _ _ h => h.2.2) ?_
  show V E (gR 1 0) gyX5_joinAt 0 0 0 [(0, .ref a0), (1, .int x1)] [] n sh z (kI n sh P)
  refine V_iload_n (j := 1) dX5_joinAt_0 rfl rfl ?_
  by_cases h1 : x1 = (0 : Int32)
  · have hf := it_t h1 hf
    refine V_tableIn (off := 31) (tgt := 32) dX5_joinAt_1 (by rw [h1]; decide) (by rw [h1]; decide) (by rw [h1]; decide) (by decide) ?_
    refine V_aload_n (j := 0) dX5_joinAt_32 rfl rfl ?_
    obtain ⟨h2, hf⟩ := hf
    refine V_getI fl_X5_43 rfl h2.1 h2.2 dX5_joinAt_33 ?_
    refine V_bipush (v := (20 : Int32)) dX5_joinAt_36 (by decide) ?_
    refine V_icmp_ne (tgt := 46) dX5_joinAt_38 (by decide) (fun h4 => ?_) (fun h4 => ?_)
    · have hf := it_f h4 hf
      refine V_aload_n (j := 0) dX5_joinAt_46 rfl rfl ?_
      refine V_getI fl_X5_43 rfl h2.1 h2.2 dX5_joinAt_47 ?_
      refine V_bipush (v := (21 : Int32)) dX5_joinAt_50 (by decide) ?_
      refine V_icmp_ne (tgt := 60) dX5_joinAt_52 (by decide) (fun h3 => ?_) (fun h3 => ?_)
      · have hf := it_f h3 hf
        refine V_iconst (v := (0 : Int32)) dX5_joinAt_60 (by decide) ?_
        exact V_ireturn dX5_joinAt_61 rfl rfl (Nat.le_refl 0) (kI_of hf)
      · have hf := it_t (Classical.not_not.mp h3) hf
        refine V_bipush (v := (-7 : Int32)) dX5_joinAt_55 (by decide) ?_
        refine V_goto (tgt := 61) dX5_joinAt_57 (by decide) ?_
        exact V_ireturn dX5_joinAt_61 rfl rfl (Nat.le_refl 0) (kI_of hf)
    · have hf := it_t (Classical.not_not.mp h4) hf
      refine V_bipush (v := (-6 : Int32)) dX5_joinAt_41 (by decide) ?_
      refine V_goto (tgt := 61) dX5_joinAt_43 (by decide) ?_
      exact V_ireturn dX5_joinAt_61 rfl rfl (Nat.le_refl 0) (kI_of hf)
  · have hf := it_f h1 hf
    by_cases h5 : x1 = (1 : Int32)
    · have hf := it_t h5 hf
      refine V_tableIn (off := 61) (tgt := 62) dX5_joinAt_1 (by rw [h5]; decide) (by rw [h5]; decide) (by rw [h5]; decide) (by decide) ?_
      refine V_aload_n (j := 0) dX5_joinAt_62 rfl rfl ?_
      refine V_bipush (v := (60 : Int32)) dX5_joinAt_63 (by decide) ?_
      obtain ⟨h8, hf⟩ := hf
      refine V_cVI (ctX9_isSign hn hf) gc_X5_46 rfl h8.1 ⟨_, h8.2, by decide, rfl⟩ ⟨by decide, by decide, Nat.zero_le _, Nat.zero_le _⟩ (Nat.le_of_ble_eq_true rfl) dX5_joinAt_65 rfl hn (fun r6 z7 hf => ?_)
      refine V_if_eq (tgt := 76) dX5_joinAt_68 (by decide) (fun h12 => ?_) (fun h12 => ?_)
      · have hf := it_t h12 hf
        refine V_aload_n (j := 0) dX5_joinAt_76 rfl rfl ?_
        refine V_bipush (v := (61 : Int32)) dX5_joinAt_77 (by decide) ?_
        refine V_cVI (ctX9_isSign hn hf) gc_X5_46 rfl h8.1 ⟨_, h8.2, by decide, rfl⟩ ⟨by decide, by decide, Nat.zero_le _, Nat.zero_le _⟩ (Nat.le_of_ble_eq_true rfl) dX5_joinAt_79 rfl hn (fun r9 z10 hf => ?_)
        refine V_if_eq (tgt := 90) dX5_joinAt_82 (by decide) (fun h11 => ?_) (fun h11 => ?_)
        · have hf := it_t h11 hf
          refine V_iconst (v := (0 : Int32)) dX5_joinAt_90 (by decide) ?_
          exact V_ireturn dX5_joinAt_91 rfl rfl (Nat.le_refl 0) (kI_of hf)
        · have hf := it_f h11 hf
          refine V_bipush (v := (-9 : Int32)) dX5_joinAt_85 (by decide) ?_
          refine V_goto (tgt := 91) dX5_joinAt_87 (by decide) ?_
          exact V_ireturn dX5_joinAt_91 rfl rfl (Nat.le_refl 0) (kI_of hf)
      · have hf := it_f h12 hf
        refine V_bipush (v := (-8 : Int32)) dX5_joinAt_71 (by decide) ?_
        refine V_goto (tgt := 91) dX5_joinAt_73 (by decide) ?_
        exact V_ireturn dX5_joinAt_91 rfl rfl (Nat.le_refl 0) (kI_of hf)
    · have hf := it_f h5 hf
      by_cases h13 : x1 = (2 : Int32)
      · have hf := it_t h13 hf
        refine V_tableIn (off := 91) (tgt := 92) dX5_joinAt_1 (by rw [h13]; decide) (by rw [h13]; decide) (by rw [h13]; decide) (by decide) ?_
        refine V_aload_n (j := 0) dX5_joinAt_92 rfl rfl ?_
        refine V_bipush (v := (43 : Int32)) dX5_joinAt_93 (by decide) ?_
        obtain ⟨h16, hf⟩ := hf
        refine V_cVI (ctX9_isSign hn hf) gc_X5_46 rfl h16.1 ⟨_, h16.2, by decide, rfl⟩ ⟨by decide, by decide, Nat.zero_le _, Nat.zero_le _⟩ (Nat.le_of_ble_eq_true rfl) dX5_joinAt_95 rfl hn (fun r14 z15 hf => ?_)
        refine V_if_eq (tgt := 106) dX5_joinAt_98 (by decide) (fun h20 => ?_) (fun h20 => ?_)
        · have hf := it_t h20 hf
          refine V_aload_n (j := 0) dX5_joinAt_106 rfl rfl ?_
          refine V_bipush (v := (45 : Int32)) dX5_joinAt_107 (by decide) ?_
          refine V_cVI (ctX9_isSign hn hf) gc_X5_46 rfl h16.1 ⟨_, h16.2, by decide, rfl⟩ ⟨by decide, by decide, Nat.zero_le _, Nat.zero_le _⟩ (Nat.le_of_ble_eq_true rfl) dX5_joinAt_109 rfl hn (fun r17 z18 hf => ?_)
          refine V_if_eq (tgt := 120) dX5_joinAt_112 (by decide) (fun h19 => ?_) (fun h19 => ?_)
          · have hf := it_t h19 hf
            refine V_iconst (v := (0 : Int32)) dX5_joinAt_120 (by decide) ?_
            exact V_ireturn dX5_joinAt_121 rfl rfl (Nat.le_refl 0) (kI_of hf)
          · have hf := it_f h19 hf
            refine V_bipush (v := (-11 : Int32)) dX5_joinAt_115 (by decide) ?_
            refine V_goto (tgt := 121) dX5_joinAt_117 (by decide) ?_
            exact V_ireturn dX5_joinAt_121 rfl rfl (Nat.le_refl 0) (kI_of hf)
        · have hf := it_f h20 hf
          refine V_bipush (v := (-10 : Int32)) dX5_joinAt_101 (by decide) ?_
          refine V_goto (tgt := 121) dX5_joinAt_103 (by decide) ?_
          exact V_ireturn dX5_joinAt_121 rfl rfl (Nat.le_refl 0) (kI_of hf)
      · have hf := it_f h13 hf
        by_cases h21 : x1 = (3 : Int32)
        · have hf := it_t h21 hf
          refine V_tableIn (off := 121) (tgt := 122) dX5_joinAt_1 (by rw [h21]; decide) (by rw [h21]; decide) (by rw [h21]; decide) (by decide) ?_
          refine V_aload_n (j := 0) dX5_joinAt_122 rfl rfl ?_
          refine V_bipush (v := (42 : Int32)) dX5_joinAt_123 (by decide) ?_
          obtain ⟨h24, hf⟩ := hf
          refine V_cVI (ctX9_isSign hn hf) gc_X5_46 rfl h24.1 ⟨_, h24.2, by decide, rfl⟩ ⟨by decide, by decide, Nat.zero_le _, Nat.zero_le _⟩ (Nat.le_of_ble_eq_true rfl) dX5_joinAt_125 rfl hn (fun r22 z23 hf => ?_)
          refine V_if_eq (tgt := 136) dX5_joinAt_128 (by decide) (fun h25 => ?_) (fun h25 => ?_)
          · have hf := it_t h25 hf
            refine V_iconst (v := (0 : Int32)) dX5_joinAt_136 (by decide) ?_
            exact V_ireturn dX5_joinAt_137 rfl rfl (Nat.le_refl 0) (kI_of hf)
          · have hf := it_f h25 hf
            refine V_bipush (v := (-12 : Int32)) dX5_joinAt_131 (by decide) ?_
            refine V_goto (tgt := 137) dX5_joinAt_133 (by decide) ?_
            exact V_ireturn dX5_joinAt_137 rfl rfl (Nat.le_refl 0) (kI_of hf)
        · have hf := it_f h21 hf
          refine V_tableOut (tgt := 138) dX5_joinAt_1 (by have qh1 := sw_ne (a := 0) h1 (by decide); have qh5 := sw_ne (a := 1) h5 (by decide); have qh13 := sw_ne (a := 2) h13 (by decide); have qh21 := sw_ne (a := 3) h21 (by decide); omega) (by decide) ?_
          refine V_iconst (v := (0 : Int32)) dX5_joinAt_138 (by decide) ?_
          exact V_ireturn dX5_joinAt_139 rfl rfl (Nat.le_refl 0) (kI_of hf)
def wX5_readsLevel_B43 (n : Nat) (sh : Nat → Nat × Nat) (rcX5_readsLevel : Nat → Nat → Int32 → Int32 → gS → (Int32 → gS → Prop) → Prop) (rcX5_readsPart : Nat → Nat → Int32 → gS → (Int32 → gS → Prop) → Prop) (k43 : Nat → Nat → Int32 → Int32 → Int32 → Int32 → gS → Prop) (P : Int32 → gS → Prop) (a0 : Nat) (a1 : Nat) (x2 : Int32) (x3 : Int32) (x4 : Int32) (x5 : Int32) (z : gS) : Prop := if x4 ≤ x5 then P (1 : Int32) z else (wX5_joinAt n sh a1 x2 z (fun (r4 : Int32) (z5 : gS) => if r4 = 0 then P (1 : Int32) z5 else ((oO n sh a1 5) ∧ (wX9_advance n sh a1 z5 (fun (z7 : gS) => (oO n sh a0 3) ∧ (rcX5_readsLevel a0 a1 (x2 + (1 : Int32)) x3 z7 (fun (r9 : Int32) (z10 : gS) => if r9 = 0 then P (0 : Int32) z10 else (wX5_add n sh a0 r4 z10 (fun (z13 : gS) => ∀ v14 : Int32, v14 = x5 + (1 : Int32) → k43 a0 a1 x2 x3 x4 v14 z13)))))))))
def wX5_readsLevel_L43 (n : Nat) (sh : Nat → Nat × Nat) (rcX5_readsLevel : Nat → Nat → Int32 → Int32 → gS → (Int32 → gS → Prop) → Prop) (rcX5_readsPart : Nat → Nat → Int32 → gS → (Int32 → gS → Prop) → Prop) (P : Int32 → gS → Prop) : Nat → Nat → Nat → Int32 → Int32 → Int32 → Int32 → gS → Prop
  | 0, _, _, _, _, _, _, _ => False
  | N + 1, a0, a1, x2, x3, x4, x5, z => wX5_readsLevel_B43 n sh rcX5_readsLevel rcX5_readsPart (wX5_readsLevel_L43 n sh rcX5_readsLevel rcX5_readsPart P N) P a0 a1 x2 x3 x4 x5 z
set_option maxRecDepth 100000 in
set_option maxHeartbeats 4000000 in
theorem vX5_readsLevel_B43 {E : gE} {n : Nat} {sh : Nat → Nat × Nat} {P : Int32 → gS → Prop} {rcX5_readsLevel : Nat → Nat → Int32 → Int32 → gS → (Int32 → gS → Prop) → Prop} {rcX5_readsPart : Nat → Nat → Int32 → gS → (Int32 → gS → Prop) → Prop} {k43 : Nat → Nat → Int32 → Int32 → Int32 → Int32 → gS → Prop} {a0 : Nat} {a1 : Nat} {x2 : Int32} {x3 : Int32} {x4 : Int32} {x5 : Int32} {z : gS} (hn : gOK E n) {dd : Nat} (hrcX5_readsLevel : ∀ (b0 : Nat) (b1 : Nat) (b2 : Int32) (b3 : Int32) (z : gS) (P : Int32 → gS → Prop), rcX5_readsLevel b0 b1 b2 b3 z P → VM E dd 0 gyX5_readsLevel [.ref b0, .ref b1, .int b2, .int b3] n sh z (kI n sh P)) (hrcX5_readsPart : ∀ (b0 : Nat) (b1 : Nat) (b2 : Int32) (z : gS) (P : Int32 → gS → Prop), rcX5_readsPart b0 b1 b2 z P → VM E dd 0 gyX5_readsPart [.ref b0, .ref b1, .int b2] n sh z (kI n sh P)) (hdd : 9 ≤ dd) (hk43 : ∀ (a0 : Nat) (a1 : Nat) (x2 : Int32) (x3 : Int32) (x4 : Int32) (x5 : Int32) (z : gS), k43 a0 a1 x2 x3 x4 x5 z → V E (gR (dd + 1) 0) gyX5_readsLevel 0 0 43 [(0, .ref a0), (1, .ref a1), (2, .int x2), (3, .int x3), (4, .int x4), (5, .int x5)] [] n sh z (kI n sh P)) (hf : wX5_readsLevel_B43 n sh rcX5_readsLevel rcX5_readsPart k43 P a0 a1 x2 x3 x4 x5 z) : V E (gR (dd + 1) 0) gyX5_readsLevel 0 0 43 [(0, .ref a0), (1, .ref a1), (2, .int x2), (3, .int x3), (4, .int x4), (5, .int x5)] [] n sh z (kI n sh P) := by
  unfold wX5_readsLevel_B43 at hf
  refine V_iload (j := 5) dX5_readsLevel_43 rfl ?_
  refine V_iload (j := 4) dX5_readsLevel_45 rfl ?_
  refine V_icmp_ge (tgt := 94) dX5_readsLevel_47 (by decide) (fun h17 => ?_) (fun h17 => ?_)
  · have hf := it_t h17 hf
    refine V_iconst (v := (1 : Int32)) dX5_readsLevel_94 (by decide) ?_
    exact V_ireturn dX5_readsLevel_95 rfl (by decide) (Nat.le_refl 0) (kI_of hf)
  · have hf := it_f h17 hf
    refine V_aload_n (j := 1) dX5_readsLevel_50 rfl rfl ?_
    refine V_iload_n (j := 2) dX5_readsLevel_51 rfl rfl ?_
    refine V_cSI (ctX5_joinAt hn hf) gc_X5_32 rfl ⟨(by show 1 + 1 ≤ dd + 1; omega), (by show 64 * 1 + 19 + 2 ≤ 64 * (dd + 1); omega), Nat.zero_le _, Nat.zero_le _⟩ (Nat.le_of_ble_eq_true rfl) dX5_readsLevel_52 rfl hn (fun r4 z5 hf => ?_)
    refine V_istore (ls2 := [(6, .int r4), (0, .ref a0), (1, .ref a1), (2, .int x2), (3, .int x3), (4, .int x4), (5, .int x5)]) dX5_readsLevel_55 (by decide) rfl ?_
    refine V_iload (j := 0) dX5_readsLevel_57 rfl ?_
    refine V_if_ne (tgt := 64) dX5_readsLevel_59 (by decide) (fun h16 => ?_) (fun h16 => ?_)
    · have hf := it_f h16 hf
      refine V_aload_n (j := 2) dX5_readsLevel_64 rfl rfl ?_
      obtain ⟨h8, hf⟩ := hf
      refine V_cVN (ctX9_advance hn hf) gc_X5_36 rfl h8.1 ⟨_, h8.2, by decide, rfl⟩ ⟨(by show 5 + 1 ≤ dd + 1; omega), (by show 64 * 5 + 19 + 3 ≤ 64 * (dd + 1); omega), Nat.zero_le _, Nat.zero_le _⟩ (Nat.le_of_ble_eq_true rfl) dX5_readsLevel_65 rfl hn (fun z7 hf => ?_)
      refine V_aload_n (j := 1) dX5_readsLevel_68 rfl rfl ?_
      refine V_aload_n (j := 2) dX5_readsLevel_69 rfl rfl ?_
      refine V_iload_n (j := 3) dX5_readsLevel_70 rfl rfl ?_
      refine V_iconst (v := (1 : Int32)) dX5_readsLevel_71 (by decide) ?_
      refine V_iadd dX5_readsLevel_72 ?_
      refine V_iload_n (j := 4) dX5_readsLevel_73 rfl rfl ?_
      obtain ⟨h11, hf⟩ := hf
      refine V_cVI (hrcX5_readsLevel _ _ _ _ _ _ hf) gc_X5_28 rfl h11.1 ⟨_, h11.2, by decide, rfl⟩ ⟨Nat.le_refl _, (by show 64 * dd + 19 + 7 ≤ 64 * (dd + 1); omega), Nat.zero_le _, Nat.zero_le _⟩ (Nat.le_of_ble_eq_true rfl) dX5_readsLevel_74 rfl hn (fun r9 z10 hf => ?_)
      refine V_if_ne (tgt := 82) dX5_readsLevel_77 (by decide) (fun h15 => ?_) (fun h15 => ?_)
      · have hf := it_f h15 hf
        refine V_aload_n (j := 1) dX5_readsLevel_82 rfl rfl ?_
        refine V_iload (j := 0) dX5_readsLevel_83 rfl ?_
        refine V_cVN (ctX5_add hn hf) gc_X5_39 rfl h11.1 ⟨_, h11.2, by decide, rfl⟩ ⟨(by show 0 + 1 ≤ dd + 1; omega), (by show 64 * 0 + 19 + 2 ≤ 64 * (dd + 1); omega), Nat.zero_le _, Nat.zero_le _⟩ (Nat.le_of_ble_eq_true rfl) dX5_readsLevel_85 rfl hn (fun z13 hf => ?_)
        obtain ⟨v14, ev14⟩ : ∃ y : Int32, y = x5 + (1 : Int32) := ⟨_, rfl⟩
        refine V_iinc (j := 6) (v := v14) (ls2 := [(5, .int v14), (6, .int r4), (0, .ref a0), (1, .ref a1), (2, .int x2), (3, .int x3), (4, .int x4)]) dX5_readsLevel_88 rfl (by rw [ev14]; rfl) (by decide) rfl ?_
        have hf := hf v14 ev14
        refine V_goto (tgt := 43) dX5_readsLevel_91 (by decide) ?_
        refine V_to [2, 3, 4, 5, 6, 0] rfl ?_
        exact hk43 _ _ _ _ _ _ _ hf
      · have hf := it_t (Classical.not_not.mp h15) hf
        refine V_iconst (v := (0 : Int32)) dX5_readsLevel_80 (by decide) ?_
        exact V_ireturn dX5_readsLevel_81 rfl (by decide) (Nat.le_refl 0) (kI_of hf)
    · have hf := it_t (Classical.not_not.mp h16) hf
      refine V_iconst (v := (1 : Int32)) dX5_readsLevel_62 (by decide) ?_
      exact V_ireturn dX5_readsLevel_63 rfl (by decide) (Nat.le_refl 0) (kI_of hf)
set_option maxRecDepth 100000 in
set_option maxHeartbeats 4000000 in
theorem vX5_readsLevel_L43 {E : gE} {n : Nat} {sh : Nat → Nat × Nat} {P : Int32 → gS → Prop} {rcX5_readsLevel : Nat → Nat → Int32 → Int32 → gS → (Int32 → gS → Prop) → Prop} {rcX5_readsPart : Nat → Nat → Int32 → gS → (Int32 → gS → Prop) → Prop} (hn : gOK E n) {dd : Nat} (hrcX5_readsLevel : ∀ (b0 : Nat) (b1 : Nat) (b2 : Int32) (b3 : Int32) (z : gS) (P : Int32 → gS → Prop), rcX5_readsLevel b0 b1 b2 b3 z P → VM E dd 0 gyX5_readsLevel [.ref b0, .ref b1, .int b2, .int b3] n sh z (kI n sh P)) (hrcX5_readsPart : ∀ (b0 : Nat) (b1 : Nat) (b2 : Int32) (z : gS) (P : Int32 → gS → Prop), rcX5_readsPart b0 b1 b2 z P → VM E dd 0 gyX5_readsPart [.ref b0, .ref b1, .int b2] n sh z (kI n sh P)) (hdd : 9 ≤ dd) : ∀ (N : Nat) (a0 : Nat) (a1 : Nat) (x2 : Int32) (x3 : Int32) (x4 : Int32) (x5 : Int32) (z : gS), wX5_readsLevel_L43 n sh rcX5_readsLevel rcX5_readsPart P N a0 a1 x2 x3 x4 x5 z → V E (gR (dd + 1) 0) gyX5_readsLevel 0 0 43 [(0, .ref a0), (1, .ref a1), (2, .int x2), (3, .int x3), (4, .int x4), (5, .int x5)] [] n sh z (kI n sh P) := by
  intro N
  induction N with
  | zero => intro a0 a1 x2 x3 x4 x5 z hf; exact False.elim hf
  | succ N ih => intro a0 a1 x2 x3 x4 x5 z hf; exact vX5_readsLevel_B43 hn hrcX5_readsLevel hrcX5_readsPart hdd ih hf
def wX5_readsLevel_J38 (n : Nat) (sh : Nat → Nat × Nat) (rcX5_readsLevel : Nat → Nat → Int32 → Int32 → gS → (Int32 → gS → Prop) → Prop) (rcX5_readsPart : Nat → Nat → Int32 → gS → (Int32 → gS → Prop) → Prop) (P : Int32 → gS → Prop) (a0 : Nat) (a1 : Nat) (x2 : Int32) (x3 : Int32) (s0 : Int32) (z : gS) : Prop := (∃ N, wX5_readsLevel_L43 n sh rcX5_readsLevel rcX5_readsPart P N a0 a1 x2 x3 s0 (0 : Int32) z)
set_option maxRecDepth 100000 in
set_option maxHeartbeats 4000000 in
theorem vX5_readsLevel_J38 {E : gE} {n : Nat} {sh : Nat → Nat × Nat} {P : Int32 → gS → Prop} {rcX5_readsLevel : Nat → Nat → Int32 → Int32 → gS → (Int32 → gS → Prop) → Prop} {rcX5_readsPart : Nat → Nat → Int32 → gS → (Int32 → gS → Prop) → Prop} {a0 : Nat} {a1 : Nat} {x2 : Int32} {x3 : Int32} {s0 : Int32} {z : gS} (hn : gOK E n) {dd : Nat} (hrcX5_readsLevel : ∀ (b0 : Nat) (b1 : Nat) (b2 : Int32) (b3 : Int32) (z : gS) (P : Int32 → gS → Prop), rcX5_readsLevel b0 b1 b2 b3 z P → VM E dd 0 gyX5_readsLevel [.ref b0, .ref b1, .int b2, .int b3] n sh z (kI n sh P)) (hrcX5_readsPart : ∀ (b0 : Nat) (b1 : Nat) (b2 : Int32) (z : gS) (P : Int32 → gS → Prop), rcX5_readsPart b0 b1 b2 z P → VM E dd 0 gyX5_readsPart [.ref b0, .ref b1, .int b2] n sh z (kI n sh P)) (hdd : 9 ≤ dd) (hf : wX5_readsLevel_J38 n sh rcX5_readsLevel rcX5_readsPart P a0 a1 x2 x3 s0 z) : V E (gR (dd + 1) 0) gyX5_readsLevel 0 0 38 [(0, .ref a0), (1, .ref a1), (2, .int x2), (3, .int x3)] [.int s0] n sh z (kI n sh P) := by
  unfold wX5_readsLevel_J38 at hf
  refine V_istore (ls2 := [(4, .int s0), (0, .ref a0), (1, .ref a1), (2, .int x2), (3, .int x3)]) dX5_readsLevel_38 (by decide) rfl ?_
  refine V_iconst (v := (0 : Int32)) dX5_readsLevel_40 (by decide) ?_
  refine V_istore (ls2 := [(5, .int (0 : Int32)), (4, .int s0), (0, .ref a0), (1, .ref a1), (2, .int x2), (3, .int x3)]) dX5_readsLevel_41 (by decide) rfl ?_
  obtain ⟨N, hf⟩ := hf
  refine V_to [2, 3, 4, 5, 1, 0] rfl ?_
  exact vX5_readsLevel_L43 hn hrcX5_readsLevel hrcX5_readsPart hdd N _ _ _ _ _ _ _ hf
def wX5_readsLevel (n : Nat) (sh : Nat → Nat × Nat) (rcX5_readsLevel : Nat → Nat → Int32 → Int32 → gS → (Int32 → gS → Prop) → Prop) (rcX5_readsPart : Nat → Nat → Int32 → gS → (Int32 → gS → Prop) → Prop) (a0 : Nat) (a1 : Nat) (x2 : Int32) (x3 : Int32) (z : gS) (P : Int32 → gS → Prop) : Prop := if x2 < (4 : Int32) then ((oO n sh a0 3) ∧ (rcX5_readsLevel a0 a1 (x2 + (1 : Int32)) x3 z (fun (r1 : Int32) (z2 : gS) => if r1 = 0 then P (0 : Int32) z2 else (if x2 = (1 : Int32) then wX5_readsLevel_J38 n sh rcX5_readsLevel rcX5_readsPart P a0 a1 x2 x3 (1 : Int32) z2 else wX5_readsLevel_J38 n sh rcX5_readsLevel rcX5_readsPart P a0 a1 x2 x3 (1000 : Int32) z2)))) else ((oO n sh a0 3) ∧ (rcX5_readsPart a0 a1 x3 z (fun (r20 : Int32) (z21 : gS) => (bo r20) ∧ P r20 z21)))
set_option maxRecDepth 100000 in
set_option maxHeartbeats 4000000 in
theorem ctX5_readsLevel {E : gE} {n : Nat} {sh : Nat → Nat × Nat} {rcX5_readsLevel : Nat → Nat → Int32 → Int32 → gS → (Int32 → gS → Prop) → Prop} {rcX5_readsPart : Nat → Nat → Int32 → gS → (Int32 → gS → Prop) → Prop} {a0 : Nat} {a1 : Nat} {x2 : Int32} {x3 : Int32} {z : gS} {P : Int32 → gS → Prop} (hn : gOK E n) {dd : Nat} (hrcX5_readsLevel : ∀ (b0 : Nat) (b1 : Nat) (b2 : Int32) (b3 : Int32) (z : gS) (P : Int32 → gS → Prop), rcX5_readsLevel b0 b1 b2 b3 z P → VM E dd 0 gyX5_readsLevel [.ref b0, .ref b1, .int b2, .int b3] n sh z (kI n sh P)) (hrcX5_readsPart : ∀ (b0 : Nat) (b1 : Nat) (b2 : Int32) (z : gS) (P : Int32 → gS → Prop), rcX5_readsPart b0 b1 b2 z P → VM E dd 0 gyX5_readsPart [.ref b0, .ref b1, .int b2] n sh z (kI n sh P)) (hdd : 9 ≤ dd) (hf : wX5_readsLevel n sh rcX5_readsLevel rcX5_readsPart a0 a1 x2 x3 z P) : VM E (dd + 1) 0 gyX5_readsLevel [.ref a0, .ref a1, .int x2, .int x3] n sh z (kI n sh P) := by
  unfold wX5_readsLevel at hf
  refine VM.of (by decide +kernel) (Nat.le_of_ble_eq_true rfl) (fun _ _ _ h => h.2.2) ?_
  show V E (gR (dd + 1) 0) gyX5_readsLevel 0 0 0 [(0, .ref a0), (1, .ref a1), (2, .int x2), (3, .int x3)] [] n sh z (kI n sh P)
  refine V_iload_n (j := 2) dX5_readsLevel_0 rfl rfl ?_
  refine V_iconst (v := (4 : Int32)) dX5_readsLevel_1 (by decide) ?_
  refine V_icmp_lt (tgt := 12) dX5_readsLevel_2 (by decide) (fun h23 => ?_) (fun h23 => ?_)
  · have hf := it_t h23 hf
    refine V_aload_n (j := 0) dX5_readsLevel_12 rfl rfl ?_
    refine V_aload_n (j := 1) dX5_readsLevel_13 rfl rfl ?_
    refine V_iload_n (j := 2) dX5_readsLevel_14 rfl rfl ?_
    refine V_iconst (v := (1 : Int32)) dX5_readsLevel_15 (by decide) ?_
    refine V_iadd dX5_readsLevel_16 ?_
    refine V_iload_n (j := 3) dX5_readsLevel_17 rfl rfl ?_
    obtain ⟨h3, hf⟩ := hf
    refine V_cVI (hrcX5_readsLevel _ _ _ _ _ _ hf) gc_X5_28 rfl h3.1 ⟨_, h3.2, by decide, rfl⟩ ⟨Nat.le_refl _, (by show 64 * dd + 19 + 7 ≤ 64 * (dd + 1); omega), Nat.zero_le _, Nat.zero_le _⟩ (Nat.le_of_ble_eq_true rfl) dX5_readsLevel_18 rfl hn (fun r1 z2 hf => ?_)
    refine V_if_ne (tgt := 26) dX5_readsLevel_21 (by decide) (fun h19 => ?_) (fun h19 => ?_)
    · have hf := it_f h19 hf
      refine V_iload_n (j := 2) dX5_readsLevel_26 rfl rfl ?_
      refine V_iconst (v := (1 : Int32)) dX5_readsLevel_27 (by decide) ?_
      refine V_icmp_ne (tgt := 35) dX5_readsLevel_28 (by decide) (fun h18 => ?_) (fun h18 => ?_)
      · have hf := it_f h18 hf
        refine V_sipush (v := (1000 : Int32)) dX5_readsLevel_35 (by decide) ?_
        exact vX5_readsLevel_J38 hn hrcX5_readsLevel hrcX5_readsPart hdd hf
      · have hf := it_t (Classical.not_not.mp h18) hf
        refine V_iconst (v := (1 : Int32)) dX5_readsLevel_31 (by decide) ?_
        refine V_goto (tgt := 38) dX5_readsLevel_32 (by decide) ?_
        exact vX5_readsLevel_J38 hn hrcX5_readsLevel hrcX5_readsPart hdd hf
    · have hf := it_t (Classical.not_not.mp h19) hf
      refine V_iconst (v := (0 : Int32)) dX5_readsLevel_24 (by decide) ?_
      exact V_ireturn dX5_readsLevel_25 rfl (by decide) (Nat.le_refl 0) (kI_of hf)
  · have hf := it_f h23 hf
    refine V_aload_n (j := 0) dX5_readsLevel_5 rfl rfl ?_
    refine V_aload_n (j := 1) dX5_readsLevel_6 rfl rfl ?_
    refine V_iload_n (j := 3) dX5_readsLevel_7 rfl rfl ?_
    obtain ⟨h22, hf⟩ := hf
    refine V_cVI (hrcX5_readsPart _ _ _ _ _ hf) gc_X5_24 rfl h22.1 ⟨_, h22.2, by decide, rfl⟩ ⟨Nat.le_refl _, (by show 64 * dd + 19 + 7 ≤ 64 * (dd + 1); omega), Nat.zero_le _, Nat.zero_le _⟩ (Nat.le_of_ble_eq_true rfl) dX5_readsLevel_8 rfl hn (fun r20 z21 hf => ?_)
    exact V_ireturn dX5_readsLevel_11 rfl hf.1 (Nat.le_refl 0) (kI_of hf.2)
/-! the knot of the class's rule reader -/
def gRd (n : Nat) (sh : Nat → Nat × Nat) : Nat → Nat → Nat → Nat → Int32 → Int32 → gS → (Int32 → gS → Prop) → Prop
  | 0, _, _, _, _, _, _, _ => False
  | D + 1, t, a, b, lv, dp, z, P => if t = 0 then wX5_readsLevel n sh (gRd n sh D 0) (fun a b dp z P => gRd n sh D 1 a b 0 dp z P) a b lv dp z P else wX5_readsPart n sh (gRd n sh D 0) (fun a b dp z P => gRd n sh D 1 a b 0 dp z P) a b dp z P
def wgX5_readsLevel (n : Nat) (sh : Nat → Nat × Nat) (a b : Nat) (lv dp : Int32) (z : gS) (P : Int32 → gS → Prop) : Prop := gRd n sh 60 0 a b lv dp z P
theorem gRd_ok {E : gE} {n : Nat} {sh : Nat → Nat × Nat} (hn : gOK E n) : ∀ (D dd : Nat), 9 + D ≤ dd → (∀ (a b : Nat) (lv dp : Int32) (z : gS) (P : Int32 → gS → Prop), gRd n sh D 0 a b lv dp z P → VM E dd 0 gyX5_readsLevel [.ref a, .ref b, .int lv, .int dp] n sh z (kI n sh P)) ∧ (∀ (a b : Nat) (dp : Int32) (z : gS) (P : Int32 → gS → Prop), gRd n sh D 1 a b 0 dp z P → VM E dd 0 gyX5_readsPart [.ref a, .ref b, .int dp] n sh z (kI n sh P)) := by
  intro D
  induction D with
  | zero => intro dd _; exact ⟨fun _ _ _ _ _ _ hf => False.elim hf, fun _ _ _ _ _ hf => False.elim hf⟩
  | succ D ih =>
    intro dd hdd
    obtain ⟨e, rfl⟩ : ∃ e, dd = e + 1 := ⟨dd - 1, by omega⟩
    obtain ⟨i1, i2⟩ := ih e (by omega)
    refine ⟨fun a b lv dp z P hf => ?_, fun a b dp z P hf => ?_⟩
    · exact ctX5_readsLevel (dd := e) hn i1 i2 (by omega) (it_t (c := (0 : Nat) = 0) rfl hf)
    · exact ctX5_readsPart (dd := e) hn i1 i2 (by omega) (it_f (c := (1 : Nat) = 0) (by decide) hf)
theorem ctgX5_readsLevel {E : gE} {n : Nat} {sh : Nat → Nat × Nat} {a0 a1 : Nat} {x2 x3 : Int32} {z : gS} {P : Int32 → gS → Prop} (hn : gOK E n) (hf : wgX5_readsLevel n sh a0 a1 x2 x3 z P) : VM E 80 0 gyX5_readsLevel [.ref a0, .ref a1, .int x2, .int x3] n sh z (kI n sh P) := (gRd_ok hn 60 80 (by omega)).1 _ _ _ _ _ _ hf

def wX8_readsFades (n : Nat) (sh : Nat → Nat × Nat) (a0 : Nat) (a1 : Nat) (z : gS) (P : Int32 → gS → Prop) : Prop := (oO n sh a1 4) ∧ (∃ t2 : Nat, gr z a1 0 = some t2 ∧ ((oO n sh t2 3) ∧ (if (gi z t2 2) ≤ 0 then ((oO n sh a0 5) ∧ (wX9_advance n sh a0 z (fun (z5 : gS) => ∃ t7 : Nat, gr z5 a1 0 = some t7 ∧ ((oO n sh t7 3) ∧ (wgX5_readsLevel n sh t7 a0 (0 : Int32) (0 : Int32) z5 (fun (r8 : Int32) (z9 : gS) => (bo r8) ∧ P r8 z9)))))) else ((oO n sh a0 5) ∧ (wX9_isWrong n sh a0 (3 : Int32) z (fun (r11 : Int32) (z12 : gS) => (bo r11) ∧ P r11 z12))))))
set_option maxRecDepth 100000 in
set_option maxHeartbeats 4000000 in
theorem ctX8_readsFades {E : gE} {n : Nat} {sh : Nat → Nat × Nat} {a0 : Nat} {a1 : Nat} {z : gS} {P : Int32 → gS → Prop} (hn : gOK E n) (hf : wX8_readsFades n sh a0 a1 z P) : VM E 81 0 gyX8_readsFades [.ref a0, .ref a1] n sh z (kI n sh P) := by
  unfold wX8_readsFades at hf
  refine VM.of (by decide +kernel) (Nat.le_of_ble_eq_true rfl) (fun _ _ _ h => h.2.2) ?_
  show V E (gR 81 0) gyX8_readsFades 0 0 0 [(0, .ref a0), (1, .ref a1)] [] n sh z (kI n sh P)
  refine V_aload_n (j := 1) dX8_readsFades_0 rfl rfl ?_
  obtain ⟨h1, hf⟩ := hf
  obtain ⟨t2, et2, hf⟩ := hf
  refine V_getR fl_X8_128 rfl h1.1 h1.2 et2 dX8_readsFades_1 ?_
  obtain ⟨h3, hf⟩ := hf
  refine V_getI fl_X8_132 rfl h3.1 h3.2 dX8_readsFades_4 ?_
  refine V_if_le (tgt := 16) dX8_readsFades_7 (by decide) (fun h14 => ?_) (fun h14 => ?_)
  · have hf := it_t h14 hf
    refine V_aload_n (j := 0) dX8_readsFades_16 rfl rfl ?_
    obtain ⟨h6, hf⟩ := hf
    refine V_cVN (ctX9_advance hn hf) gc_X8_59 rfl h6.1 ⟨_, h6.2, by decide, rfl⟩ ⟨by decide, by decide, Nat.zero_le _, Nat.zero_le _⟩ (Nat.le_of_ble_eq_true rfl) dX8_readsFades_17 rfl hn (fun z5 hf => ?_)
    refine V_aload_n (j := 1) dX8_readsFades_20 rfl rfl ?_
    obtain ⟨t7, et7, hf⟩ := hf
    refine V_getR fl_X8_128 rfl h1.1 h1.2 et7 dX8_readsFades_21 ?_
    refine V_aload_n (j := 0) dX8_readsFades_24 rfl rfl ?_
    refine V_iconst (v := (0 : Int32)) dX8_readsFades_25 (by decide) ?_
    refine V_iconst (v := (0 : Int32)) dX8_readsFades_26 (by decide) ?_
    obtain ⟨h10, hf⟩ := hf
    refine V_cVI (ctgX5_readsLevel hn hf) gc_X8_137 rfl h10.1 ⟨_, h10.2, by decide, rfl⟩ ⟨by decide, by decide, Nat.zero_le _, Nat.zero_le _⟩ (Nat.le_of_ble_eq_true rfl) dX8_readsFades_27 rfl hn (fun r8 z9 hf => ?_)
    exact V_ireturn dX8_readsFades_30 rfl hf.1 (Nat.le_refl 0) (kI_of hf.2)
  · have hf := it_f h14 hf
    refine V_aload_n (j := 0) dX8_readsFades_10 rfl rfl ?_
    refine V_iconst (v := (3 : Int32)) dX8_readsFades_11 (by decide) ?_
    obtain ⟨h13, hf⟩ := hf
    refine V_cVI (ctX9_isWrong hn hf) gc_X8_52 rfl h13.1 ⟨_, h13.2, by decide, rfl⟩ ⟨by decide, by decide, Nat.zero_le _, Nat.zero_le _⟩ (Nat.le_of_ble_eq_true rfl) dX8_readsFades_12 rfl hn (fun r11 z12 hf => ?_)
    exact V_ireturn dX8_readsFades_15 rfl hf.1 (Nat.le_refl 0) (kI_of hf.2)
def wX8_readsLine (n : Nat) (sh : Nat → Nat × Nat) (a0 : Nat) (a1 : Nat) (z : gS) (P : Int32 → gS → Prop) : Prop := (oO n sh a0 5) ∧ (∀ v2 : Int32, v2 = (gi z a0 7) → (if v2 = (0 : Int32) then (wX8_readsPane n sh a0 a1 z (fun (r4 : Int32) (z5 : gS) => (bo r4) ∧ P r4 z5)) else (if v2 = (1 : Int32) then (wX8_readsPerson n sh a0 a1 z (fun (r7 : Int32) (z8 : gS) => (bo r7) ∧ P r7 z8)) else (if v2 = (2 : Int32) then (wX8_readsDeed n sh a0 a1 z (fun (r10 : Int32) (z11 : gS) => (bo r10) ∧ P r10 z11)) else (if v2 = (3 : Int32) then (wX8_readsLight n sh a0 a1 z (fun (r13 : Int32) (z14 : gS) => (bo r13) ∧ P r13 z14)) else (if v2 = (4 : Int32) then (wX8_readsFades n sh a0 a1 z (fun (r16 : Int32) (z17 : gS) => (bo r16) ∧ P r16 z17)) else (wX9_isWrong n sh a0 (1 : Int32) z (fun (r18 : Int32) (z19 : gS) => (bo r18) ∧ P r18 z19))))))))
set_option maxRecDepth 100000 in
set_option maxHeartbeats 4000000 in
theorem ctX8_readsLine {E : gE} {n : Nat} {sh : Nat → Nat × Nat} {a0 : Nat} {a1 : Nat} {z : gS} {P : Int32 → gS → Prop} (hn : gOK E n) (hf : wX8_readsLine n sh a0 a1 z P) : VM E 82 0 gyX8_readsLine [.ref a0, .ref a1] n sh z (kI n sh P) := by
  unfold wX8_readsLine at hf
  refine VM.of (by decide +kernel) (Nat.le_of_ble_eq_true rfl) (fun _ _ _ h => h.2.2) ?_
  show V E (gR 82 0) gyX8_readsLine 0 0 0 [(0, .ref a0), (1, .ref a1)] [] n sh z (kI n sh P)
  refine V_aload_n (j := 0) dX8_readsLine_0 rfl rfl ?_
  obtain ⟨h1, hf⟩ := hf
  refine V_getI fl_X8_33 rfl h1.1 h1.2 dX8_readsLine_1 ?_
  refine V_nI (fun v2 ev2 => ?_)
  have hf := hf v2 ev2
  by_cases h3 : v2 = (0 : Int32)
  · have hf := it_t h3 hf
    refine V_tableIn (off := 36) (tgt := 40) dX8_readsLine_4 (by rw [h3]; decide) (by rw [h3]; decide) (by rw [h3]; decide) (by decide) ?_
    refine V_aload_n (j := 0) dX8_readsLine_40 rfl rfl ?_
    refine V_aload_n (j := 1) dX8_readsLine_41 rfl rfl ?_
    refine V_cSI (ctX8_readsPane hn hf) gc_X8_37 rfl ⟨by decide, by decide, Nat.zero_le _, Nat.zero_le _⟩ (Nat.le_of_ble_eq_true rfl) dX8_readsLine_42 rfl hn (fun r4 z5 hf => ?_)
    exact V_ireturn dX8_readsLine_45 rfl hf.1 (Nat.le_refl 0) (kI_of hf.2)
  · have hf := it_f h3 hf
    by_cases h6 : v2 = (1 : Int32)
    · have hf := it_t h6 hf
      refine V_tableIn (off := 42) (tgt := 46) dX8_readsLine_4 (by rw [h6]; decide) (by rw [h6]; decide) (by rw [h6]; decide) (by decide) ?_
      refine V_aload_n (j := 0) dX8_readsLine_46 rfl rfl ?_
      refine V_aload_n (j := 1) dX8_readsLine_47 rfl rfl ?_
      refine V_cSI (ctX8_readsPerson hn hf) gc_X8_40 rfl ⟨by decide, by decide, Nat.zero_le _, Nat.zero_le _⟩ (Nat.le_of_ble_eq_true rfl) dX8_readsLine_48 rfl hn (fun r7 z8 hf => ?_)
      exact V_ireturn dX8_readsLine_51 rfl hf.1 (Nat.le_refl 0) (kI_of hf.2)
    · have hf := it_f h6 hf
      by_cases h9 : v2 = (2 : Int32)
      · have hf := it_t h9 hf
        refine V_tableIn (off := 48) (tgt := 52) dX8_readsLine_4 (by rw [h9]; decide) (by rw [h9]; decide) (by rw [h9]; decide) (by decide) ?_
        refine V_aload_n (j := 0) dX8_readsLine_52 rfl rfl ?_
        refine V_aload_n (j := 1) dX8_readsLine_53 rfl rfl ?_
        refine V_cSI (ctX8_readsDeed hn hf) gc_X8_43 rfl ⟨by decide, by decide, Nat.zero_le _, Nat.zero_le _⟩ (Nat.le_of_ble_eq_true rfl) dX8_readsLine_54 rfl hn (fun r10 z11 hf => ?_)
        exact V_ireturn dX8_readsLine_57 rfl hf.1 (Nat.le_refl 0) (kI_of hf.2)
      · have hf := it_f h9 hf
        by_cases h12 : v2 = (3 : Int32)
        · have hf := it_t h12 hf
          refine V_tableIn (off := 54) (tgt := 58) dX8_readsLine_4 (by rw [h12]; decide) (by rw [h12]; decide) (by rw [h12]; decide) (by decide) ?_
          refine V_aload_n (j := 0) dX8_readsLine_58 rfl rfl ?_
          refine V_aload_n (j := 1) dX8_readsLine_59 rfl rfl ?_
          refine V_cSI (ctX8_readsLight hn hf) gc_X8_46 rfl ⟨by decide, by decide, Nat.zero_le _, Nat.zero_le _⟩ (Nat.le_of_ble_eq_true rfl) dX8_readsLine_60 rfl hn (fun r13 z14 hf => ?_)
          exact V_ireturn dX8_readsLine_63 rfl hf.1 (Nat.le_refl 0) (kI_of hf.2)
        · have hf := it_f h12 hf
          by_cases h15 : v2 = (4 : Int32)
          · have hf := it_t h15 hf
            refine V_tableIn (off := 60) (tgt := 64) dX8_readsLine_4 (by rw [h15]; decide) (by rw [h15]; decide) (by rw [h15]; decide) (by decide) ?_
            refine V_aload_n (j := 0) dX8_readsLine_64 rfl rfl ?_
            refine V_aload_n (j := 1) dX8_readsLine_65 rfl rfl ?_
            refine V_cSI (ctX8_readsFades hn hf) gc_X8_49 rfl ⟨by decide, by decide, Nat.zero_le _, Nat.zero_le _⟩ (Nat.le_of_ble_eq_true rfl) dX8_readsLine_66 rfl hn (fun r16 z17 hf => ?_)
            exact V_ireturn dX8_readsLine_69 rfl hf.1 (Nat.le_refl 0) (kI_of hf.2)
          · have hf := it_f h15 hf
            refine V_tableOut (tgt := 70) dX8_readsLine_4 (by have qh3 := sw_ne (a := 0) h3 (by decide); have qh6 := sw_ne (a := 1) h6 (by decide); have qh9 := sw_ne (a := 2) h9 (by decide); have qh12 := sw_ne (a := 3) h12 (by decide); have qh15 := sw_ne (a := 4) h15 (by decide); omega) (by decide) ?_
            refine V_aload_n (j := 0) dX8_readsLine_70 rfl rfl ?_
            refine V_iconst (v := (1 : Int32)) dX8_readsLine_71 (by decide) ?_
            refine V_cVI (ctX9_isWrong hn hf) gc_X8_52 rfl h1.1 ⟨_, h1.2, by decide, rfl⟩ ⟨by decide, by decide, Nat.zero_le _, Nat.zero_le _⟩ (Nat.le_of_ble_eq_true rfl) dX8_readsLine_72 rfl hn (fun r18 z19 hf => ?_)
            exact V_ireturn dX8_readsLine_75 rfl hf.1 (Nat.le_refl 0) (kI_of hf.2)
def wX9_takesSign (n : Nat) (sh : Nat → Nat × Nat) (a0 : Nat) (x1 : Int32) (z : gS) (P : Int32 → gS → Prop) : Prop := (oO n sh a0 5) ∧ (wX9_isSign n sh a0 x1 z (fun (r1 : Int32) (z2 : gS) => if r1 = 0 then (wX9_isWrong n sh a0 (1 : Int32) z2 (fun (r6 : Int32) (z7 : gS) => (bo r6) ∧ P r6 z7)) else (wX9_advance n sh a0 z2 (fun (z5 : gS) => P (1 : Int32) z5))))
set_option maxRecDepth 100000 in
set_option maxHeartbeats 4000000 in
theorem ctX9_takesSign {E : gE} {n : Nat} {sh : Nat → Nat × Nat} {a0 : Nat} {x1 : Int32} {z : gS} {P : Int32 → gS → Prop} (hn : gOK E n) (hf : wX9_takesSign n sh a0 x1 z P) : VM E 6 0 gyX9_takesSign [.ref a0, .int x1] n sh z (kI n sh P) := by
  unfold wX9_takesSign at hf
  refine VM.of (by decide +kernel) (Nat.le_of_ble_eq_true rfl) (fun _ _ _ h => h.2.2) ?_
  show V E (gR 6 0) gyX9_takesSign 0 0 0 [(0, .ref a0), (1, .int x1)] [] n sh z (kI n sh P)
  refine V_aload_n (j := 0) dX9_takesSign_0 rfl rfl ?_
  refine V_iload_n (j := 1) dX9_takesSign_1 rfl rfl ?_
  obtain ⟨h3, hf⟩ := hf
  refine V_cVI (ctX9_isSign hn hf) gc_X9_77 rfl h3.1 ⟨_, h3.2, by decide, rfl⟩ ⟨by decide, by decide, Nat.zero_le _, Nat.zero_le _⟩ (Nat.le_of_ble_eq_true rfl) dX9_takesSign_2 rfl hn (fun r1 z2 hf => ?_)
  refine V_if_ne (tgt := 14) dX9_takesSign_5 (by decide) (fun h8 => ?_) (fun h8 => ?_)
  · have hf := it_f h8 hf
    refine V_aload_n (j := 0) dX9_takesSign_14 rfl rfl ?_
    refine V_cVN (ctX9_advance hn hf) gc_X9_41 rfl h3.1 ⟨_, h3.2, by decide, rfl⟩ ⟨by decide, by decide, Nat.zero_le _, Nat.zero_le _⟩ (Nat.le_of_ble_eq_true rfl) dX9_takesSign_15 rfl hn (fun z5 hf => ?_)
    refine V_iconst (v := (1 : Int32)) dX9_takesSign_18 (by decide) ?_
    exact V_ireturn dX9_takesSign_19 rfl (by decide) (Nat.le_refl 0) (kI_of hf)
  · have hf := it_t (Classical.not_not.mp h8) hf
    refine V_aload_n (j := 0) dX9_takesSign_8 rfl rfl ?_
    refine V_iconst (v := (1 : Int32)) dX9_takesSign_9 (by decide) ?_
    refine V_cVI (ctX9_isWrong hn hf) gc_X9_73 rfl h3.1 ⟨_, h3.2, by decide, rfl⟩ ⟨by decide, by decide, Nat.zero_le _, Nat.zero_le _⟩ (Nat.le_of_ble_eq_true rfl) dX9_takesSign_10 rfl hn (fun r6 z7 hf => ?_)
    exact V_ireturn dX9_takesSign_13 rfl hf.1 (Nat.le_refl 0) (kI_of hf.2)
def wX8_reads_B10 (n : Nat) (sh : Nat → Nat × Nat) (k10 : Nat → Nat → Int32 → gS → Prop) (P : Int32 → gS → Prop) (a0 : Nat) (a1 : Nat) (x2 : Int32) (z : gS) : Prop := if (1000 : Int32) ≤ x2 then P (1 : Int32) z else ((oO n sh a0 5) ∧ (wX9_isAtEnd n sh a0 z (fun (r7 : Int32) (z8 : gS) => if r7 = 0 then (wX8_readsLine n sh a0 a1 z8 (fun (r10 : Int32) (z11 : gS) => if r10 = 0 then P (0 : Int32) z11 else (wX9_takesSign n sh a0 (59 : Int32) z11 (fun (r12 : Int32) (z13 : gS) => if r12 = 0 then P (0 : Int32) z13 else (∀ v14 : Int32, v14 = x2 + (1 : Int32) → k10 a0 a1 v14 z13))))) else P (1 : Int32) z8)))
def wX8_reads_L10 (n : Nat) (sh : Nat → Nat × Nat) (P : Int32 → gS → Prop) : Nat → Nat → Nat → Int32 → gS → Prop
  | 0, _, _, _, _ => False
  | N + 1, a0, a1, x2, z => wX8_reads_B10 n sh (wX8_reads_L10 n sh P N) P a0 a1 x2 z
set_option maxRecDepth 100000 in
set_option maxHeartbeats 4000000 in
theorem vX8_reads_B10 {E : gE} {n : Nat} {sh : Nat → Nat × Nat} {P : Int32 → gS → Prop} {k10 : Nat → Nat → Int32 → gS → Prop} {a0 : Nat} {a1 : Nat} {x2 : Int32} {z : gS} (hn : gOK E n) (hk10 : ∀ (a0 : Nat) (a1 : Nat) (x2 : Int32) (z : gS), k10 a0 a1 x2 z → V E (gR 83 0) gyX8_reads 0 0 10 [(0, .ref a0), (1, .ref a1), (2, .int x2)] [] n sh z (kI n sh P)) (hf : wX8_reads_B10 n sh k10 P a0 a1 x2 z) : V E (gR 83 0) gyX8_reads 0 0 10 [(0, .ref a0), (1, .ref a1), (2, .int x2)] [] n sh z (kI n sh P) := by
  unfold wX8_reads_B10 at hf
  refine V_iload_n (j := 2) dX8_reads_10 rfl rfl ?_
  refine V_sipush (v := (1000 : Int32)) dX8_reads_11 (by decide) ?_
  refine V_icmp_ge (tgt := 49) dX8_reads_14 (by decide) (fun h18 => ?_) (fun h18 => ?_)
  · have hf := it_t h18 hf
    refine V_iconst (v := (1 : Int32)) dX8_reads_49 (by decide) ?_
    exact V_ireturn dX8_reads_50 rfl (by decide) (Nat.le_refl 0) (kI_of hf)
  · have hf := it_f h18 hf
    refine V_aload_n (j := 0) dX8_reads_17 rfl rfl ?_
    obtain ⟨h9, hf⟩ := hf
    refine V_cVI (ctX9_isAtEnd hn hf) gc_X8_19 rfl h9.1 ⟨_, h9.2, by decide, rfl⟩ ⟨by decide, by decide, Nat.zero_le _, Nat.zero_le _⟩ (Nat.le_of_ble_eq_true rfl) dX8_reads_18 rfl hn (fun r7 z8 hf => ?_)
    refine V_if_ne (tgt := 49) dX8_reads_21 (by decide) (fun h17 => ?_) (fun h17 => ?_)
    · have hf := it_f h17 hf
      refine V_iconst (v := (1 : Int32)) dX8_reads_49 (by decide) ?_
      exact V_ireturn dX8_reads_50 rfl (by decide) (Nat.le_refl 0) (kI_of hf)
    · have hf := it_t (Classical.not_not.mp h17) hf
      refine V_aload_n (j := 0) dX8_reads_24 rfl rfl ?_
      refine V_aload_n (j := 1) dX8_reads_25 rfl rfl ?_
      refine V_cSI (ctX8_readsLine hn hf) gc_X8_23 rfl ⟨by decide, by decide, Nat.zero_le _, Nat.zero_le _⟩ (Nat.le_of_ble_eq_true rfl) dX8_reads_26 rfl hn (fun r10 z11 hf => ?_)
      refine V_if_eq (tgt := 41) dX8_reads_29 (by decide) (fun h16 => ?_) (fun h16 => ?_)
      · have hf := it_t h16 hf
        refine V_iconst (v := (0 : Int32)) dX8_reads_41 (by decide) ?_
        exact V_ireturn dX8_reads_42 rfl (by decide) (Nat.le_refl 0) (kI_of hf)
      · have hf := it_f h16 hf
        refine V_aload_n (j := 0) dX8_reads_32 rfl rfl ?_
        refine V_bipush (v := (59 : Int32)) dX8_reads_33 (by decide) ?_
        refine V_cVI (ctX9_takesSign hn hf) gc_X8_29 rfl h9.1 ⟨_, h9.2, by decide, rfl⟩ ⟨by decide, by decide, Nat.zero_le _, Nat.zero_le _⟩ (Nat.le_of_ble_eq_true rfl) dX8_reads_35 rfl hn (fun r12 z13 hf => ?_)
        refine V_if_ne (tgt := 43) dX8_reads_38 (by decide) (fun h15 => ?_) (fun h15 => ?_)
        · have hf := it_f h15 hf
          obtain ⟨v14, ev14⟩ : ∃ y : Int32, y = x2 + (1 : Int32) := ⟨_, rfl⟩
          refine V_iinc (j := 2) (v := v14) (ls2 := [(2, .int v14), (0, .ref a0), (1, .ref a1)]) dX8_reads_43 rfl (by rw [ev14]; rfl) (by decide) rfl ?_
          have hf := hf v14 ev14
          refine V_goto (tgt := 10) dX8_reads_46 (by decide) ?_
          refine V_to [1, 2, 0] rfl ?_
          exact hk10 _ _ _ _ hf
        · have hf := it_t (Classical.not_not.mp h15) hf
          refine V_iconst (v := (0 : Int32)) dX8_reads_41 (by decide) ?_
          exact V_ireturn dX8_reads_42 rfl (by decide) (Nat.le_refl 0) (kI_of hf)
set_option maxRecDepth 100000 in
set_option maxHeartbeats 4000000 in
theorem vX8_reads_L10 {E : gE} {n : Nat} {sh : Nat → Nat × Nat} {P : Int32 → gS → Prop} (hn : gOK E n) : ∀ (N : Nat) (a0 : Nat) (a1 : Nat) (x2 : Int32) (z : gS), wX8_reads_L10 n sh P N a0 a1 x2 z → V E (gR 83 0) gyX8_reads 0 0 10 [(0, .ref a0), (1, .ref a1), (2, .int x2)] [] n sh z (kI n sh P) := by
  intro N
  induction N with
  | zero => intro a0 a1 x2 z hf; exact False.elim hf
  | succ N ih => intro a0 a1 x2 z hf; exact vX8_reads_B10 hn ih hf
def wX8_reads (n : Nat) (sh : Nat → Nat × Nat) (a0 : Nat) (a1 : Nat) (z : gS) (P : Int32 → gS → Prop) : Prop := (oO n sh a1 4) ∧ (wX7_clear n sh a1 z (fun (z2 : gS) => (oO n sh a0 5) ∧ (wX9_rewind n sh a0 z2 (fun (z5 : gS) => (∃ N, wX8_reads_L10 n sh P N a0 a1 (0 : Int32) z5)))))
set_option maxRecDepth 100000 in
set_option maxHeartbeats 4000000 in
theorem ctX8_reads {E : gE} {n : Nat} {sh : Nat → Nat × Nat} {a0 : Nat} {a1 : Nat} {z : gS} {P : Int32 → gS → Prop} (hn : gOK E n) (hf : wX8_reads n sh a0 a1 z P) : VM E 83 0 gyX8_reads [.ref a0, .ref a1] n sh z (kI n sh P) := by
  unfold wX8_reads at hf
  refine VM.of (by decide +kernel) (Nat.le_of_ble_eq_true rfl) (fun _ _ _ h => h.2.2) ?_
  show V E (gR 83 0) gyX8_reads 0 0 0 [(0, .ref a0), (1, .ref a1)] [] n sh z (kI n sh P)
  refine V_aload_n (j := 1) dX8_reads_0 rfl rfl ?_
  obtain ⟨h3, hf⟩ := hf
  refine V_cVN (ctX7_clear hn hf) gc_X8_9 rfl h3.1 ⟨_, h3.2, by decide, rfl⟩ ⟨by decide, by decide, Nat.zero_le _, Nat.zero_le _⟩ (Nat.le_of_ble_eq_true rfl) dX8_reads_1 rfl hn (fun z2 hf => ?_)
  refine V_aload_n (j := 0) dX8_reads_4 rfl rfl ?_
  obtain ⟨h6, hf⟩ := hf
  refine V_cVN (ctX9_rewind hn hf) gc_X8_14 rfl h6.1 ⟨_, h6.2, by decide, rfl⟩ ⟨by decide, by decide, Nat.zero_le _, Nat.zero_le _⟩ (Nat.le_of_ble_eq_true rfl) dX8_reads_5 rfl hn (fun z5 hf => ?_)
  refine V_iconst (v := (0 : Int32)) dX8_reads_8 (by decide) ?_
  refine V_istore_n (ls2 := [(2, .int (0 : Int32)), (0, .ref a0), (1, .ref a1)]) dX8_reads_9 rfl (by decide) rfl ?_
  obtain ⟨N, hf⟩ := hf
  refine V_to [1, 2, 0] rfl ?_
  exact vX8_reads_L10 hn N _ _ _ _ hf
def wX9_clear (n : Nat) (sh : Nat → Nat × Nat) (a0 : Nat) (z : gS) (P : gS → Prop) : Prop := (oO n sh a0 5) ∧ (∀ z2 : gS, z2 = si z a0 1 (0 : Int32) → P z2)
set_option maxRecDepth 100000 in
set_option maxHeartbeats 4000000 in
theorem ctX9_clear {E : gE} {n : Nat} {sh : Nat → Nat × Nat} {a0 : Nat} {z : gS} {P : gS → Prop} (hn : gOK E n) (hf : wX9_clear n sh a0 z P) : VM E 0 0 gyX9_clear [.ref a0] n sh z (kN n sh P) := by
  unfold wX9_clear at hf
  refine VM.of (by decide +kernel) (Nat.le_of_ble_eq_true rfl) (fun _ _ _ h => h.2.2) ?_
  show V E (gR 0 0) gyX9_clear 0 0 0 [(0, .ref a0)] [] n sh z (kN n sh P)
  refine V_aload_n (j := 0) dX9_clear_0 rfl rfl ?_
  refine V_iconst (v := (0 : Int32)) dX9_clear_1 (by decide) ?_
  obtain ⟨h1, hf⟩ := hf
  refine V_putI fl_X9_15 rfl rfl rfl rfl h1.1 h1.2 dX9_clear_2 ?_
  refine V_nz (fun z2 ez2 => ?_)
  have hf := hf z2 ez2
  exact V_return dX9_clear_5 rfl (Nat.le_refl 0) (kN_of hf)
def wX10_begin_B42 (n : Nat) (sh : Nat → Nat × Nat) (k42 : Nat → Int32 → gS → Prop) (P : gS → Prop) (a0 : Nat) (x2 : Int32) (z : gS) : Prop := if (6 : Int32) ≤ x2 then P z else ((oO n sh a0 6) ∧ (∃ t6 : Nat, gr z a0 6 = some t6 ∧ ((oA n sh t6 1) ∧ ((vp_in x2 (sh t6).2) ∧ (∀ z9 : gS, z9 = si z t6 x2.toNatClampNeg (0 : Int32) → (∀ v10 : Int32, v10 = x2 + (1 : Int32) → k42 a0 v10 z9))))))
def wX10_begin_L42 (n : Nat) (sh : Nat → Nat × Nat) (P : gS → Prop) : Nat → Nat → Int32 → gS → Prop
  | 0, _, _, _ => False
  | N + 1, a0, x2, z => wX10_begin_B42 n sh (wX10_begin_L42 n sh P N) P a0 x2 z
set_option maxRecDepth 100000 in
set_option maxHeartbeats 4000000 in
theorem vX10_begin_B42 {E : gE} {n : Nat} {sh : Nat → Nat × Nat} {P : gS → Prop} {k42 : Nat → Int32 → gS → Prop} {a0 : Nat} {x2 : Int32} {z : gS} (hn : gOK E n) (hk42 : ∀ (a0 : Nat) (x2 : Int32) (z : gS), k42 a0 x2 z → V E (gR 0 0) gyX10_begin 0 0 42 [(0, .ref a0), (2, .int x2)] [] n sh z (kN n sh P)) (hf : wX10_begin_B42 n sh k42 P a0 x2 z) : V E (gR 0 0) gyX10_begin 0 0 42 [(0, .ref a0), (2, .int x2)] [] n sh z (kN n sh P) := by
  unfold wX10_begin_B42 at hf
  refine V_iload_n (j := 1) dX10_begin_42 rfl rfl ?_
  refine V_bipush (v := (6 : Int32)) dX10_begin_43 (by decide) ?_
  refine V_icmp_ge (tgt := 61) dX10_begin_45 (by decide) (fun h11 => ?_) (fun h11 => ?_)
  · have hf := it_t h11 hf
    exact V_return dX10_begin_61 rfl (Nat.le_refl 0) (kN_of hf)
  · have hf := it_f h11 hf
    refine V_aload_n (j := 0) dX10_begin_48 rfl rfl ?_
    obtain ⟨h5, hf⟩ := hf
    obtain ⟨t6, et6, hf⟩ := hf
    refine V_getR fl_X10_31 rfl h5.1 h5.2 et6 dX10_begin_49 ?_
    refine V_iload_n (j := 1) dX10_begin_52 rfl rfl ?_
    refine V_iconst (v := (0 : Int32)) dX10_begin_53 (by decide) ?_
    obtain ⟨h7, hf⟩ := hf
    obtain ⟨h8, hf⟩ := hf
    refine V_iast h7.1 h7.s h8 dX10_begin_54 ?_
    refine V_nz (fun z9 ez9 => ?_)
    have hf := hf z9 ez9
    obtain ⟨v10, ev10⟩ : ∃ y : Int32, y = x2 + (1 : Int32) := ⟨_, rfl⟩
    refine V_iinc (j := 1) (v := v10) (ls2 := [(2, .int v10), (0, .ref a0)]) dX10_begin_55 rfl (by rw [ev10]; rfl) (by decide) rfl ?_
    have hf := hf v10 ev10
    refine V_goto (tgt := 42) dX10_begin_58 (by decide) ?_
    refine V_to [1, 0] rfl ?_
    exact hk42 _ _ _ hf
set_option maxRecDepth 100000 in
set_option maxHeartbeats 4000000 in
theorem vX10_begin_L42 {E : gE} {n : Nat} {sh : Nat → Nat × Nat} {P : gS → Prop} (hn : gOK E n) : ∀ (N : Nat) (a0 : Nat) (x2 : Int32) (z : gS), wX10_begin_L42 n sh P N a0 x2 z → V E (gR 0 0) gyX10_begin 0 0 42 [(0, .ref a0), (2, .int x2)] [] n sh z (kN n sh P) := by
  intro N
  induction N with
  | zero => intro a0 x2 z hf; exact False.elim hf
  | succ N ih => intro a0 x2 z hf; exact vX10_begin_B42 hn ih hf
def wX10_begin_B17 (n : Nat) (sh : Nat → Nat × Nat) (k17 : Nat → Nat → Int32 → gS → Prop) (P : gS → Prop) (a0 : Nat) (a1 : Nat) (x2 : Int32) (z : gS) : Prop := if (5 : Int32) ≤ x2 then ((∃ N, wX10_begin_L42 n sh P N a0 (0 : Int32) z)) else ((oO n sh a0 6) ∧ (∃ t13 : Nat, gr z a0 5 = some t13 ∧ ((oO n sh a1 4) ∧ (∃ t15 : Nat, gr z a1 4 = some t15 ∧ ((oA n sh t15 1) ∧ ((vp_in x2 (sh t15).2) ∧ ((oA n sh t13 1) ∧ ((vp_in x2 (sh t13).2) ∧ (∀ z20 : gS, z20 = si z t13 x2.toNatClampNeg (gi z t15 x2.toNatClampNeg) → (∀ v21 : Int32, v21 = x2 + (1 : Int32) → k17 a0 a1 v21 z20))))))))))
def wX10_begin_L17 (n : Nat) (sh : Nat → Nat × Nat) (P : gS → Prop) : Nat → Nat → Nat → Int32 → gS → Prop
  | 0, _, _, _, _ => False
  | N + 1, a0, a1, x2, z => wX10_begin_B17 n sh (wX10_begin_L17 n sh P N) P a0 a1 x2 z
set_option maxRecDepth 100000 in
set_option maxHeartbeats 4000000 in
theorem vX10_begin_B17 {E : gE} {n : Nat} {sh : Nat → Nat × Nat} {P : gS → Prop} {k17 : Nat → Nat → Int32 → gS → Prop} {a0 : Nat} {a1 : Nat} {x2 : Int32} {z : gS} (hn : gOK E n) (hk17 : ∀ (a0 : Nat) (a1 : Nat) (x2 : Int32) (z : gS), k17 a0 a1 x2 z → V E (gR 0 0) gyX10_begin 0 0 17 [(0, .ref a0), (1, .ref a1), (2, .int x2)] [] n sh z (kN n sh P)) (hf : wX10_begin_B17 n sh k17 P a0 a1 x2 z) : V E (gR 0 0) gyX10_begin 0 0 17 [(0, .ref a0), (1, .ref a1), (2, .int x2)] [] n sh z (kN n sh P) := by
  unfold wX10_begin_B17 at hf
  refine V_iload_n (j := 2) dX10_begin_17 rfl rfl ?_
  refine V_iconst (v := (5 : Int32)) dX10_begin_18 (by decide) ?_
  refine V_icmp_ge (tgt := 40) dX10_begin_19 (by decide) (fun h22 => ?_) (fun h22 => ?_)
  · have hf := it_t h22 hf
    refine V_iconst (v := (0 : Int32)) dX10_begin_40 (by decide) ?_
    refine V_istore_n (ls2 := [(2, .int (0 : Int32)), (0, .ref a0), (1, .ref a1)]) dX10_begin_41 rfl (by decide) rfl ?_
    obtain ⟨N, hf⟩ := hf
    refine V_to [1, 0] rfl ?_
    exact vX10_begin_L42 hn N _ _ _ hf
  · have hf := it_f h22 hf
    refine V_aload_n (j := 0) dX10_begin_22 rfl rfl ?_
    obtain ⟨h12, hf⟩ := hf
    obtain ⟨t13, et13, hf⟩ := hf
    refine V_getR fl_X10_27 rfl h12.1 h12.2 et13 dX10_begin_23 ?_
    refine V_iload_n (j := 2) dX10_begin_26 rfl rfl ?_
    refine V_aload_n (j := 1) dX10_begin_27 rfl rfl ?_
    obtain ⟨h14, hf⟩ := hf
    obtain ⟨t15, et15, hf⟩ := hf
    refine V_getR fl_X10_37 rfl h14.1 h14.2 et15 dX10_begin_28 ?_
    refine V_iload_n (j := 2) dX10_begin_31 rfl rfl ?_
    obtain ⟨h16, hf⟩ := hf
    obtain ⟨h17, hf⟩ := hf
    refine V_iald h16.1 h16.s h17 dX10_begin_32 ?_
    obtain ⟨h18, hf⟩ := hf
    obtain ⟨h19, hf⟩ := hf
    refine V_iast h18.1 h18.s h19 dX10_begin_33 ?_
    refine V_nz (fun z20 ez20 => ?_)
    have hf := hf z20 ez20
    obtain ⟨v21, ev21⟩ : ∃ y : Int32, y = x2 + (1 : Int32) := ⟨_, rfl⟩
    refine V_iinc (j := 2) (v := v21) (ls2 := [(2, .int v21), (0, .ref a0), (1, .ref a1)]) dX10_begin_34 rfl (by rw [ev21]; rfl) (by decide) rfl ?_
    have hf := hf v21 ev21
    refine V_goto (tgt := 17) dX10_begin_37 (by decide) ?_
    refine V_to [1, 2, 0] rfl ?_
    exact hk17 _ _ _ _ hf
set_option maxRecDepth 100000 in
set_option maxHeartbeats 4000000 in
theorem vX10_begin_L17 {E : gE} {n : Nat} {sh : Nat → Nat × Nat} {P : gS → Prop} (hn : gOK E n) : ∀ (N : Nat) (a0 : Nat) (a1 : Nat) (x2 : Int32) (z : gS), wX10_begin_L17 n sh P N a0 a1 x2 z → V E (gR 0 0) gyX10_begin 0 0 17 [(0, .ref a0), (1, .ref a1), (2, .int x2)] [] n sh z (kN n sh P) := by
  intro N
  induction N with
  | zero => intro a0 a1 x2 z hf; exact False.elim hf
  | succ N ih => intro a0 a1 x2 z hf; exact vX10_begin_B17 hn ih hf
def wX10_begin (n : Nat) (sh : Nat → Nat × Nat) (a0 : Nat) (a1 : Nat) (z : gS) (P : gS → Prop) : Prop := (oO n sh a0 6) ∧ (∀ z2 : gS, z2 = si z a0 0 (0 : Int32) → (∀ z3 : gS, z3 = si z2 a0 1 (0 : Int32) → (∀ z4 : gS, z4 = si z3 a0 2 (0 : Int32) → ((∃ N, wX10_begin_L17 n sh P N a0 a1 (0 : Int32) z4)))))
set_option maxRecDepth 100000 in
set_option maxHeartbeats 4000000 in
theorem ctX10_begin {E : gE} {n : Nat} {sh : Nat → Nat × Nat} {a0 : Nat} {a1 : Nat} {z : gS} {P : gS → Prop} (hn : gOK E n) (hf : wX10_begin n sh a0 a1 z P) : VM E 0 0 gyX10_begin [.ref a0, .ref a1] n sh z (kN n sh P) := by
  unfold wX10_begin at hf
  refine VM.of (by decide +kernel) (Nat.le_of_ble_eq_true rfl) (fun _ _ _ h => h.2.2) ?_
  show V E (gR 0 0) gyX10_begin 0 0 0 [(0, .ref a0), (1, .ref a1)] [] n sh z (kN n sh P)
  refine V_aload_n (j := 0) dX10_begin_0 rfl rfl ?_
  refine V_iconst (v := (0 : Int32)) dX10_begin_1 (by decide) ?_
  obtain ⟨h1, hf⟩ := hf
  refine V_putI fl_X10_11 rfl rfl rfl rfl h1.1 h1.2 dX10_begin_2 ?_
  refine V_nz (fun z2 ez2 => ?_)
  have hf := hf z2 ez2
  refine V_aload_n (j := 0) dX10_begin_5 rfl rfl ?_
  refine V_iconst (v := (0 : Int32)) dX10_begin_6 (by decide) ?_
  refine V_putI fl_X10_15 rfl rfl rfl rfl h1.1 h1.2 dX10_begin_7 ?_
  refine V_nz (fun z3 ez3 => ?_)
  have hf := hf z3 ez3
  refine V_aload_n (j := 0) dX10_begin_10 rfl rfl ?_
  refine V_iconst (v := (0 : Int32)) dX10_begin_11 (by decide) ?_
  refine V_putI fl_X10_18 rfl rfl rfl rfl h1.1 h1.2 dX10_begin_12 ?_
  refine V_nz (fun z4 ez4 => ?_)
  have hf := hf z4 ez4
  refine V_iconst (v := (0 : Int32)) dX10_begin_15 (by decide) ?_
  refine V_istore_n (ls2 := [(2, .int (0 : Int32)), (0, .ref a0), (1, .ref a1)]) dX10_begin_16 rfl (by decide) rfl ?_
  obtain ⟨N, hf⟩ := hf
  refine V_to [1, 2, 0] rfl ?_
  exact vX10_begin_L17 hn N _ _ _ _ hf
def wX10_forgetSaid (n : Nat) (sh : Nat → Nat × Nat) (a0 : Nat) (z : gS) (P : gS → Prop) : Prop := (oO n sh a0 6) ∧ (∀ z2 : gS, z2 = si z a0 3 (0 : Int32) → (∀ z3 : gS, z3 = si z2 a0 4 (0 : Int32) → P z3))
set_option maxRecDepth 100000 in
set_option maxHeartbeats 4000000 in
theorem ctX10_forgetSaid {E : gE} {n : Nat} {sh : Nat → Nat × Nat} {a0 : Nat} {z : gS} {P : gS → Prop} (hn : gOK E n) (hf : wX10_forgetSaid n sh a0 z P) : VM E 0 0 gyX10_forgetSaid [.ref a0] n sh z (kN n sh P) := by
  unfold wX10_forgetSaid at hf
  refine VM.of (by decide +kernel) (Nat.le_of_ble_eq_true rfl) (fun _ _ _ h => h.2.2) ?_
  show V E (gR 0 0) gyX10_forgetSaid 0 0 0 [(0, .ref a0)] [] n sh z (kN n sh P)
  refine V_aload_n (j := 0) dX10_forgetSaid_0 rfl rfl ?_
  refine V_iconst (v := (0 : Int32)) dX10_forgetSaid_1 (by decide) ?_
  obtain ⟨h1, hf⟩ := hf
  refine V_putI fl_X10_21 rfl rfl rfl rfl h1.1 h1.2 dX10_forgetSaid_2 ?_
  refine V_nz (fun z2 ez2 => ?_)
  have hf := hf z2 ez2
  refine V_aload_n (j := 0) dX10_forgetSaid_5 rfl rfl ?_
  refine V_iconst (v := (0 : Int32)) dX10_forgetSaid_6 (by decide) ?_
  refine V_putI fl_X10_24 rfl rfl rfl rfl h1.1 h1.2 dX10_forgetSaid_7 ?_
  refine V_nz (fun z3 ez3 => ?_)
  have hf := hf z3 ez3
  exact V_return dX10_forgetSaid_10 rfl (Nat.le_refl 0) (kN_of hf)
def wX4_clear (n : Nat) (sh : Nat → Nat × Nat) (a0 : Nat) (z : gS) (P : gS → Prop) : Prop := (oO n sh a0 2) ∧ (∀ z2 : gS, z2 = si z a0 1 (0 : Int32) → P z2)
set_option maxRecDepth 100000 in
set_option maxHeartbeats 4000000 in
theorem ctX4_clear {E : gE} {n : Nat} {sh : Nat → Nat × Nat} {a0 : Nat} {z : gS} {P : gS → Prop} (hn : gOK E n) (hf : wX4_clear n sh a0 z P) : VM E 0 0 gyX4_clear [.ref a0] n sh z (kN n sh P) := by
  unfold wX4_clear at hf
  refine VM.of (by decide +kernel) (Nat.le_of_ble_eq_true rfl) (fun _ _ _ h => h.2.2) ?_
  show V E (gR 0 0) gyX4_clear 0 0 0 [(0, .ref a0)] [] n sh z (kN n sh P)
  refine V_aload_n (j := 0) dX4_clear_0 rfl rfl ?_
  refine V_iconst (v := (0 : Int32)) dX4_clear_1 (by decide) ?_
  obtain ⟨h1, hf⟩ := hf
  refine V_putI fl_X4_15 rfl rfl rfl rfl h1.1 h1.2 dX4_clear_2 ?_
  refine V_nz (fun z2 ez2 => ?_)
  have hf := hf z2 ez2
  exact V_return dX4_clear_5 rfl (Nat.le_refl 0) (kN_of hf)
def wX0_clear (n : Nat) (sh : Nat → Nat × Nat) (a0 : Nat) (z : gS) (P : gS → Prop) : Prop := (oO n sh a0 0) ∧ (∀ z2 : gS, z2 = si z a0 3 (0 : Int32) → P z2)
set_option maxRecDepth 100000 in
set_option maxHeartbeats 4000000 in
theorem ctX0_clear {E : gE} {n : Nat} {sh : Nat → Nat × Nat} {a0 : Nat} {z : gS} {P : gS → Prop} (hn : gOK E n) (hf : wX0_clear n sh a0 z P) : VM E 0 0 gyX0_clear [.ref a0] n sh z (kN n sh P) := by
  unfold wX0_clear at hf
  refine VM.of (by decide +kernel) (Nat.le_of_ble_eq_true rfl) (fun _ _ _ h => h.2.2) ?_
  show V E (gR 0 0) gyX0_clear 0 0 0 [(0, .ref a0)] [] n sh z (kN n sh P)
  refine V_aload_n (j := 0) dX0_clear_0 rfl rfl ?_
  refine V_iconst (v := (0 : Int32)) dX0_clear_1 (by decide) ?_
  obtain ⟨h1, hf⟩ := hf
  refine V_putI fl_X0_21 rfl rfl rfl rfl h1.1 h1.2 dX0_clear_2 ?_
  refine V_nz (fun z2 ez2 => ?_)
  have hf := hf z2 ez2
  exact V_return dX0_clear_5 rfl (Nat.le_refl 0) (kN_of hf)
def wX11_street (n : Nat) (sh : Nat → Nat × Nat) (a0 : Nat) (z : gS) (P : Int32 → gS → Prop) : Prop := (oO n sh a0 7) ∧ (∃ t2 : Nat, gr z a0 0 = some t2 ∧ (∃ t3 : Nat, gr z a0 8 = some t3 ∧ (wX8_reads n sh t2 t3 z (fun (r4 : Int32) (z5 : gS) => ∃ t6 : Nat, gr z5 a0 0 = some t6 ∧ ((oO n sh t6 5) ∧ (wX9_clear n sh t6 z5 (fun (z8 : gS) => if r4 = 0 then (∃ t32 : Nat, gr z8 a0 0 = some t32 ∧ ((oO n sh t32 5) ∧ P (gi z8 t32 8) z8)) else (∃ t10 : Nat, gr z8 a0 7 = some t10 ∧ (∃ t11 : Nat, gr z8 a0 8 = some t11 ∧ (∀ z12 : gS, z12 = sr z8 a0 7 (some t11) → (∀ z13 : gS, z13 = sr z12 a0 8 (some t10) → (∃ t14 : Nat, gr z13 a0 1 = some t14 ∧ (∃ t15 : Nat, gr z13 a0 7 = some t15 ∧ ((oO n sh t14 6) ∧ (wX10_begin n sh t14 t15 z13 (fun (z17 : gS) => ∃ t19 : Nat, gr z17 a0 1 = some t19 ∧ ((oO n sh t19 6) ∧ (wX10_forgetSaid n sh t19 z17 (fun (z21 : gS) => ∃ t23 : Nat, gr z21 a0 3 = some t23 ∧ ((oO n sh t23 2) ∧ (wX4_clear n sh t23 z21 (fun (z25 : gS) => ∃ t27 : Nat, gr z25 a0 9 = some t27 ∧ ((oO n sh t27 0) ∧ (wX0_clear n sh t27 z25 (fun (z29 : gS) => ∀ z31 : gS, z31 = si z29 a0 6 (0 : Int32) → P (0 : Int32) z31)))))))))))))))))))))))))
set_option maxRecDepth 100000 in
set_option maxHeartbeats 4000000 in
theorem ctX11_street {E : gE} {n : Nat} {sh : Nat → Nat × Nat} {a0 : Nat} {z : gS} {P : Int32 → gS → Prop} (hn : gOK E n) (hf : wX11_street n sh a0 z P) : VM E 84 0 gyX11_street [.ref a0] n sh z (kI n sh P) := by
  unfold wX11_street at hf
  refine VM.of (by decide +kernel) (Nat.le_of_ble_eq_true rfl) (fun _ _ _ h => h.2.2) ?_
  show V E (gR 84 0) gyX11_street 0 0 0 [(0, .ref a0)] [] n sh z (kI n sh P)
  refine V_aload_n (j := 0) dX11_street_0 rfl rfl ?_
  obtain ⟨h1, hf⟩ := hf
  obtain ⟨t2, et2, hf⟩ := hf
  refine V_getR fl_X11_10 rfl h1.1 h1.2 et2 dX11_street_1 ?_
  refine V_aload_n (j := 0) dX11_street_4 rfl rfl ?_
  obtain ⟨t3, et3, hf⟩ := hf
  refine V_getR fl_X11_55 rfl h1.1 h1.2 et3 dX11_street_5 ?_
  refine V_cSI (ctX8_reads hn hf) gc_X11_75 rfl ⟨by decide, by decide, Nat.zero_le _, Nat.zero_le _⟩ (Nat.le_of_ble_eq_true rfl) dX11_street_8 rfl hn (fun r4 z5 hf => ?_)
  refine V_istore_n (ls2 := [(1, .int r4), (0, .ref a0)]) dX11_street_11 rfl (by decide) rfl ?_
  refine V_aload_n (j := 1) dX11_street_12 rfl rfl ?_
  obtain ⟨t6, et6, hf⟩ := hf
  refine V_getR fl_X11_10 rfl h1.1 h1.2 et6 dX11_street_13 ?_
  obtain ⟨h9, hf⟩ := hf
  refine V_cVN (ctX9_clear hn hf) gc_X11_81 rfl h9.1 ⟨_, h9.2, by decide, rfl⟩ ⟨by decide, by decide, Nat.zero_le _, Nat.zero_le _⟩ (Nat.le_of_ble_eq_true rfl) dX11_street_16 rfl hn (fun z8 hf => ?_)
  refine V_iload_n (j := 0) dX11_street_19 rfl rfl ?_
  refine V_if_ne (tgt := 31) dX11_street_20 (by decide) (fun h34 => ?_) (fun h34 => ?_)
  · have hf := it_f h34 hf
    refine V_aload_n (j := 1) dX11_street_31 rfl rfl ?_
    obtain ⟨t10, et10, hf⟩ := hf
    refine V_getR fl_X11_51 rfl h1.1 h1.2 et10 dX11_street_32 ?_
    refine V_astore_n (ls2 := [(2, .ref t10), (1, .int r4), (0, .ref a0)]) dX11_street_35 rfl (by decide) rfl ?_
    refine V_aload_n (j := 2) dX11_street_36 rfl rfl ?_
    refine V_aload_n (j := 2) dX11_street_37 rfl rfl ?_
    obtain ⟨t11, et11, hf⟩ := hf
    refine V_getR fl_X11_55 rfl h1.1 h1.2 et11 dX11_street_38 ?_
    refine V_putR fl_X11_51 rfl rfl (fun _ => rfl) (fun _ => rfl) h1.1 h1.2 dX11_street_41 ?_
    refine V_nz (fun z12 ez12 => ?_)
    have hf := hf z12 ez12
    refine V_aload_n (j := 2) dX11_street_44 rfl rfl ?_
    refine V_aload_n (j := 0) dX11_street_45 rfl rfl ?_
    refine V_putR fl_X11_55 rfl rfl (fun _ => rfl) (fun _ => rfl) h1.1 h1.2 dX11_street_46 ?_
    refine V_nz (fun z13 ez13 => ?_)
    have hf := hf z13 ez13
    refine V_aload_n (j := 2) dX11_street_49 rfl rfl ?_
    obtain ⟨t14, et14, hf⟩ := hf
    refine V_getR fl_X11_19 rfl h1.1 h1.2 et14 dX11_street_50 ?_
    refine V_aload_n (j := 2) dX11_street_53 rfl rfl ?_
    obtain ⟨t15, et15, hf⟩ := hf
    refine V_getR fl_X11_51 rfl h1.1 h1.2 et15 dX11_street_54 ?_
    obtain ⟨h18, hf⟩ := hf
    refine V_cVN (ctX10_begin hn hf) gc_X11_87 rfl h18.1 ⟨_, h18.2, by decide, rfl⟩ ⟨by decide, by decide, Nat.zero_le _, Nat.zero_le _⟩ (Nat.le_of_ble_eq_true rfl) dX11_street_57 rfl hn (fun z17 hf => ?_)
    refine V_aload_n (j := 2) dX11_street_60 rfl rfl ?_
    obtain ⟨t19, et19, hf⟩ := hf
    refine V_getR fl_X11_19 rfl h1.1 h1.2 et19 dX11_street_61 ?_
    obtain ⟨h22, hf⟩ := hf
    refine V_cVN (ctX10_forgetSaid hn hf) gc_X11_91 rfl h22.1 ⟨_, h22.2, by decide, rfl⟩ ⟨by decide, by decide, Nat.zero_le _, Nat.zero_le _⟩ (Nat.le_of_ble_eq_true rfl) dX11_street_64 rfl hn (fun z21 hf => ?_)
    refine V_aload_n (j := 2) dX11_street_67 rfl rfl ?_
    obtain ⟨t23, et23, hf⟩ := hf
    refine V_getR fl_X11_29 rfl h1.1 h1.2 et23 dX11_street_68 ?_
    obtain ⟨h26, hf⟩ := hf
    refine V_cVN (ctX4_clear hn hf) gc_X11_94 rfl h26.1 ⟨_, h26.2, by decide, rfl⟩ ⟨by decide, by decide, Nat.zero_le _, Nat.zero_le _⟩ (Nat.le_of_ble_eq_true rfl) dX11_street_71 rfl hn (fun z25 hf => ?_)
    refine V_aload_n (j := 2) dX11_street_74 rfl rfl ?_
    obtain ⟨t27, et27, hf⟩ := hf
    refine V_getR fl_X11_61 rfl h1.1 h1.2 et27 dX11_street_75 ?_
    obtain ⟨h30, hf⟩ := hf
    refine V_cVN (ctX0_clear hn hf) gc_X11_95 rfl h30.1 ⟨_, h30.2, by decide, rfl⟩ ⟨by decide, by decide, Nat.zero_le _, Nat.zero_le _⟩ (Nat.le_of_ble_eq_true rfl) dX11_street_78 rfl hn (fun z29 hf => ?_)
    refine V_aload_n (j := 2) dX11_street_81 rfl rfl ?_
    refine V_iconst (v := (0 : Int32)) dX11_street_82 (by decide) ?_
    refine V_putI fl_X11_44 rfl rfl rfl rfl h1.1 h1.2 dX11_street_83 ?_
    refine V_nz (fun z31 ez31 => ?_)
    have hf := hf z31 ez31
    refine V_iconst (v := (0 : Int32)) dX11_street_86 (by decide) ?_
    exact V_ireturn dX11_street_87 rfl rfl (Nat.le_refl 0) (kI_of hf)
  · have hf := it_t (Classical.not_not.mp h34) hf
    refine V_aload_n (j := 1) dX11_street_23 rfl rfl ?_
    obtain ⟨t32, et32, hf⟩ := hf
    refine V_getR fl_X11_10 rfl h1.1 h1.2 et32 dX11_street_24 ?_
    obtain ⟨h33, hf⟩ := hf
    refine V_getI fl_X11_84 rfl h33.1 h33.2 dX11_street_27 ?_
    exact V_ireturn dX11_street_30 rfl rfl (Nat.le_refl 0) (kI_of hf)
def wX1_readsNames (n : Nat) (sh : Nat → Nat × Nat) (a0 : Nat) (a1 : Nat) (x2 : Int32) (a3 : Nat) (x4 : Int32) (z : gS) (P : Int32 → gS → Prop) : Prop := (oO n sh a0 5) ∧ (wX9_isName n sh a0 z (fun (r1 : Int32) (z2 : gS) => if r1 = 0 then (wX9_isWrong n sh a0 (1 : Int32) z2 (fun (r14 : Int32) (z15 : gS) => (bo r14) ∧ P r14 z15)) else (wX7_placeOf n sh a1 x2 (gl z2 a0 6) z2 (fun (r4 : Int32) (z5 : gS) => if r4 = (-1 : Int32) then (wX9_isWrong n sh a0 (2 : Int32) z5 (fun (r11 : Int32) (z12 : gS) => (bo r11) ∧ P r11 z12)) else ((oA n sh a3 1) ∧ ((vp_in x4 (sh a3).2) ∧ (∀ z8 : gS, z8 = si z5 a3 x4.toNatClampNeg r4 → (wX9_advance n sh a0 z8 (fun (z10 : gS) => P (1 : Int32) z10)))))))))
set_option maxRecDepth 100000 in
set_option maxHeartbeats 4000000 in
theorem ctX1_readsNames {E : gE} {n : Nat} {sh : Nat → Nat × Nat} {a0 : Nat} {a1 : Nat} {x2 : Int32} {a3 : Nat} {x4 : Int32} {z : gS} {P : Int32 → gS → Prop} (hn : gOK E n) (hf : wX1_readsNames n sh a0 a1 x2 a3 x4 z P) : VM E 6 0 gyX1_readsNames [.ref a0, .ref a1, .int x2, .ref a3, .int x4] n sh z (kI n sh P) := by
  unfold wX1_readsNames at hf
  refine VM.of (by decide +kernel) (Nat.le_of_ble_eq_true rfl) (fun _ _ _ h => h.2.2) ?_
  show V E (gR 6 0) gyX1_readsNames 0 0 0 [(0, .ref a0), (1, .ref a1), (2, .int x2), (3, .ref a3), (4, .int x4)] [] n sh z (kI n sh P)
  refine V_aload_n (j := 0) dX1_readsNames_0 rfl rfl ?_
  obtain ⟨h3, hf⟩ := hf
  refine V_cVI (ctX9_isName hn hf) gc_X1_86 rfl h3.1 ⟨_, h3.2, by decide, rfl⟩ ⟨by decide, by decide, Nat.zero_le _, Nat.zero_le _⟩ (Nat.le_of_ble_eq_true rfl) dX1_readsNames_1 rfl hn (fun r1 z2 hf => ?_)
  refine V_if_ne (tgt := 13) dX1_readsNames_4 (by decide) (fun h16 => ?_) (fun h16 => ?_)
  · have hf := it_f h16 hf
    refine V_aload_n (j := 1) dX1_readsNames_13 rfl rfl ?_
    refine V_iload_n (j := 2) dX1_readsNames_14 rfl rfl ?_
    refine V_aload_n (j := 0) dX1_readsNames_15 rfl rfl ?_
    refine V_getL fl_X1_89 rfl h3.1 h3.2 dX1_readsNames_16 ?_
    refine V_cSI (ctX7_placeOf hn hf) gc_X1_93 rfl ⟨by decide, by decide, Nat.zero_le _, Nat.zero_le _⟩ (Nat.le_of_ble_eq_true rfl) dX1_readsNames_19 rfl hn (fun r4 z5 hf => ?_)
    refine V_istore (ls2 := [(5, .int r4), (0, .ref a0), (1, .ref a1), (2, .int x2), (3, .ref a3), (4, .int x4)]) dX1_readsNames_22 (by decide) rfl ?_
    refine V_iload (j := 0) dX1_readsNames_24 rfl ?_
    refine V_iconst (v := (-1 : Int32)) dX1_readsNames_26 (by decide) ?_
    refine V_icmp_ne (tgt := 36) dX1_readsNames_27 (by decide) (fun h13 => ?_) (fun h13 => ?_)
    · have hf := it_f h13 hf
      refine V_aload_n (j := 4) dX1_readsNames_36 rfl rfl ?_
      refine V_iload (j := 5) dX1_readsNames_37 rfl ?_
      refine V_iload (j := 0) dX1_readsNames_39 rfl ?_
      obtain ⟨h6, hf⟩ := hf
      obtain ⟨h7, hf⟩ := hf
      refine V_iast h6.1 h6.s h7 dX1_readsNames_41 ?_
      refine V_nz (fun z8 ez8 => ?_)
      have hf := hf z8 ez8
      refine V_aload_n (j := 1) dX1_readsNames_42 rfl rfl ?_
      refine V_cVN (ctX9_advance hn hf) gc_X1_44 rfl h3.1 ⟨_, h3.2, by decide, rfl⟩ ⟨by decide, by decide, Nat.zero_le _, Nat.zero_le _⟩ (Nat.le_of_ble_eq_true rfl) dX1_readsNames_43 rfl hn (fun z10 hf => ?_)
      refine V_iconst (v := (1 : Int32)) dX1_readsNames_46 (by decide) ?_
      exact V_ireturn dX1_readsNames_47 rfl (by decide) (Nat.le_refl 0) (kI_of hf)
    · have hf := it_t (Classical.not_not.mp h13) hf
      refine V_aload_n (j := 1) dX1_readsNames_30 rfl rfl ?_
      refine V_iconst (v := (2 : Int32)) dX1_readsNames_31 (by decide) ?_
      refine V_cVI (ctX9_isWrong hn hf) gc_X1_37 rfl h3.1 ⟨_, h3.2, by decide, rfl⟩ ⟨by decide, by decide, Nat.zero_le _, Nat.zero_le _⟩ (Nat.le_of_ble_eq_true rfl) dX1_readsNames_32 rfl hn (fun r11 z12 hf => ?_)
      exact V_ireturn dX1_readsNames_35 rfl hf.1 (Nat.le_refl 0) (kI_of hf.2)
  · have hf := it_t (Classical.not_not.mp h16) hf
    refine V_aload_n (j := 0) dX1_readsNames_7 rfl rfl ?_
    refine V_iconst (v := (1 : Int32)) dX1_readsNames_8 (by decide) ?_
    refine V_cVI (ctX9_isWrong hn hf) gc_X1_37 rfl h3.1 ⟨_, h3.2, by decide, rfl⟩ ⟨by decide, by decide, Nat.zero_le _, Nat.zero_le _⟩ (Nat.le_of_ble_eq_true rfl) dX1_readsNames_9 rfl hn (fun r14 z15 hf => ?_)
    exact V_ireturn dX1_readsNames_12 rfl hf.1 (Nat.le_refl 0) (kI_of hf.2)
def wX1_readsCell (n : Nat) (sh : Nat → Nat × Nat) (a0 : Nat) (a1 : Nat) (x2 : Int32) (z : gS) (P : Int32 → gS → Prop) : Prop := (oO n sh a0 5) ∧ (wX9_hasNumber n sh a0 (0 : Int32) (9 : Int32) z (fun (r1 : Int32) (z2 : gS) => if r1 = 0 then P (0 : Int32) z2 else ((oO n sh a1 0) ∧ (∃ t5 : Nat, gr z2 a1 2 = some t5 ∧ ((oA n sh t5 1) ∧ ((vp_in x2 (sh t5).2) ∧ (∀ z8 : gS, z8 = si z2 t5 x2.toNatClampNeg (gi z2 a0 5) → (wX9_advance n sh a0 z8 (fun (z10 : gS) => P (1 : Int32) z10)))))))))
set_option maxRecDepth 100000 in
set_option maxHeartbeats 4000000 in
theorem ctX1_readsCell {E : gE} {n : Nat} {sh : Nat → Nat × Nat} {a0 : Nat} {a1 : Nat} {x2 : Int32} {z : gS} {P : Int32 → gS → Prop} (hn : gOK E n) (hf : wX1_readsCell n sh a0 a1 x2 z P) : VM E 6 0 gyX1_readsCell [.ref a0, .ref a1, .int x2] n sh z (kI n sh P) := by
  unfold wX1_readsCell at hf
  refine VM.of (by decide +kernel) (Nat.le_of_ble_eq_true rfl) (fun _ _ _ h => h.2.2) ?_
  show V E (gR 6 0) gyX1_readsCell 0 0 0 [(0, .ref a0), (1, .ref a1), (2, .int x2)] [] n sh z (kI n sh P)
  refine V_aload_n (j := 0) dX1_readsCell_0 rfl rfl ?_
  refine V_iconst (v := (0 : Int32)) dX1_readsCell_1 (by decide) ?_
  refine V_bipush (v := (9 : Int32)) dX1_readsCell_2 (by decide) ?_
  obtain ⟨h3, hf⟩ := hf
  refine V_cVI (ctX9_hasNumber hn hf) gc_X1_97 rfl h3.1 ⟨_, h3.2, by decide, rfl⟩ ⟨by decide, by decide, Nat.zero_le _, Nat.zero_le _⟩ (Nat.le_of_ble_eq_true rfl) dX1_readsCell_4 rfl hn (fun r1 z2 hf => ?_)
  refine V_if_ne (tgt := 12) dX1_readsCell_7 (by decide) (fun h11 => ?_) (fun h11 => ?_)
  · have hf := it_f h11 hf
    refine V_aload_n (j := 1) dX1_readsCell_12 rfl rfl ?_
    obtain ⟨h4, hf⟩ := hf
    obtain ⟨t5, et5, hf⟩ := hf
    refine V_getR fl_X1_77 rfl h4.1 h4.2 et5 dX1_readsCell_13 ?_
    refine V_iload_n (j := 2) dX1_readsCell_16 rfl rfl ?_
    refine V_aload_n (j := 0) dX1_readsCell_17 rfl rfl ?_
    refine V_getI fl_X1_101 rfl h3.1 h3.2 dX1_readsCell_18 ?_
    obtain ⟨h6, hf⟩ := hf
    obtain ⟨h7, hf⟩ := hf
    refine V_iast h6.1 h6.s h7 dX1_readsCell_21 ?_
    refine V_nz (fun z8 ez8 => ?_)
    have hf := hf z8 ez8
    refine V_aload_n (j := 0) dX1_readsCell_22 rfl rfl ?_
    refine V_cVN (ctX9_advance hn hf) gc_X1_44 rfl h3.1 ⟨_, h3.2, by decide, rfl⟩ ⟨by decide, by decide, Nat.zero_le _, Nat.zero_le _⟩ (Nat.le_of_ble_eq_true rfl) dX1_readsCell_23 rfl hn (fun z10 hf => ?_)
    refine V_iconst (v := (1 : Int32)) dX1_readsCell_26 (by decide) ?_
    exact V_ireturn dX1_readsCell_27 rfl (by decide) (Nat.le_refl 0) (kI_of hf)
  · have hf := it_t (Classical.not_not.mp h11) hf
    refine V_iconst (v := (0 : Int32)) dX1_readsCell_10 (by decide) ?_
    exact V_ireturn dX1_readsCell_11 rfl (by decide) (Nat.le_refl 0) (kI_of hf)
def wX1_readsLine_J16 (n : Nat) (sh : Nat → Nat × Nat) (P : Int32 → gS → Prop) (a0 : Nat) (z : gS) : Prop := (oO n sh a0 5) ∧ (wX9_isWrong n sh a0 (1 : Int32) z (fun (r3 : Int32) (z4 : gS) => (bo r3) ∧ P r3 z4))
set_option maxRecDepth 100000 in
set_option maxHeartbeats 4000000 in
theorem vX1_readsLine_J16 {E : gE} {n : Nat} {sh : Nat → Nat × Nat} {P : Int32 → gS → Prop} {a0 : Nat} {z : gS} (hn : gOK E n) (hf : wX1_readsLine_J16 n sh P a0 z) : V E (gR 7 0) gyX1_readsLine 0 0 16 [(0, .ref a0)] [] n sh z (kI n sh P) := by
  unfold wX1_readsLine_J16 at hf
  refine V_aload_n (j := 0) dX1_readsLine_16 rfl rfl ?_
  refine V_iconst (v := (1 : Int32)) dX1_readsLine_17 (by decide) ?_
  obtain ⟨h5, hf⟩ := hf
  refine V_cVI (ctX9_isWrong hn hf) gc_X1_37 rfl h5.1 ⟨_, h5.2, by decide, rfl⟩ ⟨by decide, by decide, Nat.zero_le _, Nat.zero_le _⟩ (Nat.le_of_ble_eq_true rfl) dX1_readsLine_18 rfl hn (fun r3 z4 hf => ?_)
  exact V_ireturn dX1_readsLine_21 rfl hf.1 (Nat.le_refl 0) (kI_of hf.2)
def wX1_readsLine (n : Nat) (sh : Nat → Nat × Nat) (a0 : Nat) (a1 : Nat) (a2 : Nat) (z : gS) (P : Int32 → gS → Prop) : Prop := (oO n sh a0 5) ∧ (∀ v2 : Int32, v2 = (gi z a0 7) → (if v2 < (5 : Int32) then wX1_readsLine_J16 n sh P a0 z else (if v2 ≤ (10 : Int32) then ((oO n sh a2 0) ∧ (∀ v7 : Int32, v7 = (gi z a2 3) → (if v7 < (40 : Int32) then (wX9_advance n sh a0 z (fun (z9 : gS) => ∃ t10 : Nat, gr z9 a2 0 = some t10 ∧ ((oA n sh t10 1) ∧ ((vp_in v7 (sh t10).2) ∧ (∀ z13 : gS, z13 = si z9 t10 v7.toNatClampNeg v2 → (∀ z14 : gS, z14 = si z13 a2 3 ((gi z13 a2 3) + (1 : Int32)) → (if v2 = (5 : Int32) then ((oO n sh a1 4) ∧ (∃ t17 : Nat, gr z14 a1 8 = some t17 ∧ (∃ t18 : Nat, gr z14 a2 1 = some t18 ∧ (wX1_readsNames n sh a0 t17 (gi z14 a1 11) t18 v7 z14 (fun (r19 : Int32) (z20 : gS) => if r19 = 0 then P (0 : Int32) z20 else (wX1_readsCell n sh a0 a2 v7 z20 (fun (r21 : Int32) (z22 : gS) => if r21 = 0 then P (0 : Int32) z22 else P (1 : Int32) z22))))))) else (if v2 = (6 : Int32) then ((oO n sh a1 4) ∧ (∃ t27 : Nat, gr z14 a1 8 = some t27 ∧ (∃ t28 : Nat, gr z14 a2 1 = some t28 ∧ (wX1_readsNames n sh a0 t27 (gi z14 a1 11) t28 v7 z14 (fun (r29 : Int32) (z30 : gS) => if r29 = 0 then P (0 : Int32) z30 else (∃ t31 : Nat, gr z30 a1 9 = some t31 ∧ (∃ t32 : Nat, gr z30 a2 2 = some t32 ∧ (wX1_readsNames n sh a0 t31 (gi z30 a1 12) t32 v7 z30 (fun (r33 : Int32) (z34 : gS) => if r33 = 0 then P (0 : Int32) z34 else P (1 : Int32) z34))))))))) else (if v2 = (10 : Int32) then P (1 : Int32) z14 else ((oO n sh a1 4) ∧ (∃ t39 : Nat, gr z14 a1 7 = some t39 ∧ (∃ t40 : Nat, gr z14 a2 1 = some t40 ∧ (wX1_readsNames n sh a0 t39 (gi z14 a1 10) t40 v7 z14 (fun (r41 : Int32) (z42 : gS) => (bo r41) ∧ P r41 z42)))))))))))))) else (wX9_isWrong n sh a0 (5 : Int32) z (fun (r43 : Int32) (z44 : gS) => (bo r43) ∧ P r43 z44))))) else wX1_readsLine_J16 n sh P a0 z)))
set_option maxRecDepth 100000 in
set_option maxHeartbeats 4000000 in
theorem ctX1_readsLine {E : gE} {n : Nat} {sh : Nat → Nat × Nat} {a0 : Nat} {a1 : Nat} {a2 : Nat} {z : gS} {P : Int32 → gS → Prop} (hn : gOK E n) (hf : wX1_readsLine n sh a0 a1 a2 z P) : VM E 7 0 gyX1_readsLine [.ref a0, .ref a1, .ref a2] n sh z (kI n sh P) := by
  unfold wX1_readsLine at hf
  refine VM.of (by decide +kernel) (Nat.le_of_ble_eq_true rfl) (fun _ _ _ h => h.2.2) ?_
  show V E (gR 7 0) gyX1_readsLine 0 0 0 [(0, .ref a0), (1, .ref a1), (2, .ref a2)] [] n sh z (kI n sh P)
  refine V_aload_n (j := 0) dX1_readsLine_0 rfl rfl ?_
  obtain ⟨h1, hf⟩ := hf
  refine V_getI fl_X1_33 rfl h1.1 h1.2 dX1_readsLine_1 ?_
  refine V_nI (fun v2 ev2 => ?_)
  have hf := hf v2 ev2
  refine V_istore_n (ls2 := [(3, .int v2), (0, .ref a0), (1, .ref a1), (2, .ref a2)]) dX1_readsLine_4 rfl (by decide) rfl ?_
  refine V_iload_n (j := 0) dX1_readsLine_5 rfl rfl ?_
  refine V_iconst (v := (5 : Int32)) dX1_readsLine_6 (by decide) ?_
  refine V_icmp_lt (tgt := 16) dX1_readsLine_7 (by decide) (fun h47 => ?_) (fun h47 => ?_)
  · have hf := it_t h47 hf
    refine V_to [1] rfl ?_
    exact vX1_readsLine_J16 hn hf
  · have hf := it_f h47 hf
    refine V_iload_n (j := 0) dX1_readsLine_10 rfl rfl ?_
    refine V_bipush (v := (10 : Int32)) dX1_readsLine_11 (by decide) ?_
    refine V_icmp_le (tgt := 22) dX1_readsLine_13 (by decide) (fun h46 => ?_) (fun h46 => ?_)
    · have hf := it_t h46 hf
      refine V_aload_n (j := 3) dX1_readsLine_22 rfl rfl ?_
      obtain ⟨h6, hf⟩ := hf
      refine V_getI fl_X1_41 rfl h6.1 h6.2 dX1_readsLine_23 ?_
      refine V_nI (fun v7 ev7 => ?_)
      have hf := hf v7 ev7
      refine V_istore (ls2 := [(4, .int v7), (3, .int v2), (0, .ref a0), (1, .ref a1), (2, .ref a2)]) dX1_readsLine_26 (by decide) rfl ?_
      refine V_iload (j := 0) dX1_readsLine_28 rfl ?_
      refine V_bipush (v := (40 : Int32)) dX1_readsLine_30 (by decide) ?_
      refine V_icmp_lt (tgt := 41) dX1_readsLine_32 (by decide) (fun h45 => ?_) (fun h45 => ?_)
      · have hf := it_t h45 hf
        refine V_aload_n (j := 2) dX1_readsLine_41 rfl rfl ?_
        refine V_cVN (ctX9_advance hn hf) gc_X1_44 rfl h1.1 ⟨_, h1.2, by decide, rfl⟩ ⟨by decide, by decide, Nat.zero_le _, Nat.zero_le _⟩ (Nat.le_of_ble_eq_true rfl) dX1_readsLine_42 rfl hn (fun z9 hf => ?_)
        refine V_aload_n (j := 4) dX1_readsLine_45 rfl rfl ?_
        obtain ⟨t10, et10, hf⟩ := hf
        refine V_getR fl_X1_47 rfl h6.1 h6.2 et10 dX1_readsLine_46 ?_
        refine V_iload (j := 0) dX1_readsLine_49 rfl ?_
        refine V_iload_n (j := 1) dX1_readsLine_51 rfl rfl ?_
        obtain ⟨h11, hf⟩ := hf
        obtain ⟨h12, hf⟩ := hf
        refine V_iast h11.1 h11.s h12 dX1_readsLine_52 ?_
        refine V_nz (fun z13 ez13 => ?_)
        have hf := hf z13 ez13
        refine V_aload_n (j := 4) dX1_readsLine_53 rfl rfl ?_
        refine V_dup dX1_readsLine_54 rfl ?_
        refine V_getI fl_X1_41 rfl h6.1 h6.2 dX1_readsLine_55 ?_
        refine V_iconst (v := (1 : Int32)) dX1_readsLine_58 (by decide) ?_
        refine V_iadd dX1_readsLine_59 ?_
        refine V_putI fl_X1_41 rfl rfl rfl rfl h6.1 h6.2 dX1_readsLine_60 ?_
        refine V_nz (fun z14 ez14 => ?_)
        have hf := hf z14 ez14
        refine V_iload_n (j := 1) dX1_readsLine_63 rfl rfl ?_
        by_cases h15 : v2 = (5 : Int32)
        · have hf := it_t h15 hf
          refine V_lookup (off := 36) (tgt := 100) dX1_readsLine_64 (by decide) (by rw [h15]; decide) (by decide) ?_
          refine V_aload_n (j := 2) dX1_readsLine_100 rfl rfl ?_
          refine V_aload_n (j := 3) dX1_readsLine_101 rfl rfl ?_
          obtain ⟨h16, hf⟩ := hf
          obtain ⟨t17, et17, hf⟩ := hf
          refine V_getR fl_X1_51 rfl h16.1 h16.2 et17 dX1_readsLine_102 ?_
          refine V_aload_n (j := 3) dX1_readsLine_105 rfl rfl ?_
          refine V_getI fl_X1_57 rfl h16.1 h16.2 dX1_readsLine_106 ?_
          refine V_aload_n (j := 4) dX1_readsLine_109 rfl rfl ?_
          obtain ⟨t18, et18, hf⟩ := hf
          refine V_getR fl_X1_60 rfl h6.1 h6.2 et18 dX1_readsLine_110 ?_
          refine V_iload (j := 0) dX1_readsLine_113 rfl ?_
          refine V_cSI (ctX1_readsNames hn hf) gc_X1_63 rfl ⟨by decide, by decide, Nat.zero_le _, Nat.zero_le _⟩ (Nat.le_of_ble_eq_true rfl) dX1_readsLine_115 rfl hn (fun r19 z20 hf => ?_)
          refine V_if_eq (tgt := 135) dX1_readsLine_118 (by decide) (fun h24 => ?_) (fun h24 => ?_)
          · have hf := it_t h24 hf
            refine V_iconst (v := (0 : Int32)) dX1_readsLine_135 (by decide) ?_
            exact V_ireturn dX1_readsLine_136 rfl (by decide) (Nat.le_refl 0) (kI_of hf)
          · have hf := it_f h24 hf
            refine V_aload_n (j := 2) dX1_readsLine_121 rfl rfl ?_
            refine V_aload_n (j := 4) dX1_readsLine_122 rfl rfl ?_
            refine V_iload (j := 0) dX1_readsLine_123 rfl ?_
            refine V_cSI (ctX1_readsCell hn hf) gc_X1_67 rfl ⟨by decide, by decide, Nat.zero_le _, Nat.zero_le _⟩ (Nat.le_of_ble_eq_true rfl) dX1_readsLine_125 rfl hn (fun r21 z22 hf => ?_)
            refine V_if_eq (tgt := 135) dX1_readsLine_128 (by decide) (fun h23 => ?_) (fun h23 => ?_)
            · have hf := it_t h23 hf
              refine V_iconst (v := (0 : Int32)) dX1_readsLine_135 (by decide) ?_
              exact V_ireturn dX1_readsLine_136 rfl (by decide) (Nat.le_refl 0) (kI_of hf)
            · have hf := it_f h23 hf
              refine V_iconst (v := (1 : Int32)) dX1_readsLine_131 (by decide) ?_
              refine V_goto (tgt := 136) dX1_readsLine_132 (by decide) ?_
              exact V_ireturn dX1_readsLine_136 rfl (by decide) (Nat.le_refl 0) (kI_of hf)
        · have hf := it_f h15 hf
          by_cases h25 : v2 = (6 : Int32)
          · have hf := it_t h25 hf
            refine V_lookup (off := 73) (tgt := 137) dX1_readsLine_64 (by decide) (by rw [h25]; decide) (by decide) ?_
            refine V_aload_n (j := 2) dX1_readsLine_137 rfl rfl ?_
            refine V_aload_n (j := 3) dX1_readsLine_138 rfl rfl ?_
            obtain ⟨h26, hf⟩ := hf
            obtain ⟨t27, et27, hf⟩ := hf
            refine V_getR fl_X1_51 rfl h26.1 h26.2 et27 dX1_readsLine_139 ?_
            refine V_aload_n (j := 3) dX1_readsLine_142 rfl rfl ?_
            refine V_getI fl_X1_57 rfl h26.1 h26.2 dX1_readsLine_143 ?_
            refine V_aload_n (j := 4) dX1_readsLine_146 rfl rfl ?_
            obtain ⟨t28, et28, hf⟩ := hf
            refine V_getR fl_X1_60 rfl h6.1 h6.2 et28 dX1_readsLine_147 ?_
            refine V_iload (j := 0) dX1_readsLine_150 rfl ?_
            refine V_cSI (ctX1_readsNames hn hf) gc_X1_63 rfl ⟨by decide, by decide, Nat.zero_le _, Nat.zero_le _⟩ (Nat.le_of_ble_eq_true rfl) dX1_readsLine_152 rfl hn (fun r29 z30 hf => ?_)
            refine V_if_eq (tgt := 183) dX1_readsLine_155 (by decide) (fun h36 => ?_) (fun h36 => ?_)
            · have hf := it_t h36 hf
              refine V_iconst (v := (0 : Int32)) dX1_readsLine_183 (by decide) ?_
              exact V_ireturn dX1_readsLine_184 rfl (by decide) (Nat.le_refl 0) (kI_of hf)
            · have hf := it_f h36 hf
              refine V_aload_n (j := 2) dX1_readsLine_158 rfl rfl ?_
              refine V_aload_n (j := 3) dX1_readsLine_159 rfl rfl ?_
              obtain ⟨t31, et31, hf⟩ := hf
              refine V_getR fl_X1_71 rfl h26.1 h26.2 et31 dX1_readsLine_160 ?_
              refine V_aload_n (j := 3) dX1_readsLine_163 rfl rfl ?_
              refine V_getI fl_X1_74 rfl h26.1 h26.2 dX1_readsLine_164 ?_
              refine V_aload_n (j := 4) dX1_readsLine_167 rfl rfl ?_
              obtain ⟨t32, et32, hf⟩ := hf
              refine V_getR fl_X1_77 rfl h6.1 h6.2 et32 dX1_readsLine_168 ?_
              refine V_iload (j := 0) dX1_readsLine_171 rfl ?_
              refine V_cSI (ctX1_readsNames hn hf) gc_X1_63 rfl ⟨by decide, by decide, Nat.zero_le _, Nat.zero_le _⟩ (Nat.le_of_ble_eq_true rfl) dX1_readsLine_173 rfl hn (fun r33 z34 hf => ?_)
              refine V_if_eq (tgt := 183) dX1_readsLine_176 (by decide) (fun h35 => ?_) (fun h35 => ?_)
              · have hf := it_t h35 hf
                refine V_iconst (v := (0 : Int32)) dX1_readsLine_183 (by decide) ?_
                exact V_ireturn dX1_readsLine_184 rfl (by decide) (Nat.le_refl 0) (kI_of hf)
              · have hf := it_f h35 hf
                refine V_iconst (v := (1 : Int32)) dX1_readsLine_179 (by decide) ?_
                refine V_goto (tgt := 184) dX1_readsLine_180 (by decide) ?_
                exact V_ireturn dX1_readsLine_184 rfl (by decide) (Nat.le_refl 0) (kI_of hf)
          · have hf := it_f h25 hf
            by_cases h37 : v2 = (10 : Int32)
            · have hf := it_t h37 hf
              refine V_lookup (off := 121) (tgt := 185) dX1_readsLine_64 (by decide) (by rw [h37]; decide) (by decide) ?_
              refine V_iconst (v := (1 : Int32)) dX1_readsLine_185 (by decide) ?_
              exact V_ireturn dX1_readsLine_186 rfl (by decide) (Nat.le_refl 0) (kI_of hf)
            · have hf := it_f h37 hf
              refine V_lookup (off := 123) (tgt := 187) dX1_readsLine_64 (by decide) (by show Op.lookupswitch.offset [(5, 36), (6, 73), (10, 121)] 123 _ = _; rw [lv_osw (k := (5 : Int32)) h15 (by decide), lv_osw (k := (6 : Int32)) h25 (by decide), lv_osw (k := (10 : Int32)) h37 (by decide)]; rfl) (by decide) ?_
              refine V_aload_n (j := 2) dX1_readsLine_187 rfl rfl ?_
              refine V_aload_n (j := 3) dX1_readsLine_188 rfl rfl ?_
              obtain ⟨h38, hf⟩ := hf
              obtain ⟨t39, et39, hf⟩ := hf
              refine V_getR fl_X1_80 rfl h38.1 h38.2 et39 dX1_readsLine_189 ?_
              refine V_aload_n (j := 3) dX1_readsLine_192 rfl rfl ?_
              refine V_getI fl_X1_83 rfl h38.1 h38.2 dX1_readsLine_193 ?_
              refine V_aload_n (j := 4) dX1_readsLine_196 rfl rfl ?_
              obtain ⟨t40, et40, hf⟩ := hf
              refine V_getR fl_X1_60 rfl h6.1 h6.2 et40 dX1_readsLine_197 ?_
              refine V_iload (j := 0) dX1_readsLine_200 rfl ?_
              refine V_cSI (ctX1_readsNames hn hf) gc_X1_63 rfl ⟨by decide, by decide, Nat.zero_le _, Nat.zero_le _⟩ (Nat.le_of_ble_eq_true rfl) dX1_readsLine_202 rfl hn (fun r41 z42 hf => ?_)
              exact V_ireturn dX1_readsLine_205 rfl hf.1 (Nat.le_refl 0) (kI_of hf.2)
      · have hf := it_f h45 hf
        refine V_aload_n (j := 2) dX1_readsLine_35 rfl rfl ?_
        refine V_iconst (v := (5 : Int32)) dX1_readsLine_36 (by decide) ?_
        refine V_cVI (ctX9_isWrong hn hf) gc_X1_37 rfl h1.1 ⟨_, h1.2, by decide, rfl⟩ ⟨by decide, by decide, Nat.zero_le _, Nat.zero_le _⟩ (Nat.le_of_ble_eq_true rfl) dX1_readsLine_37 rfl hn (fun r43 z44 hf => ?_)
        exact V_ireturn dX1_readsLine_40 rfl hf.1 (Nat.le_refl 0) (kI_of hf.2)
    · have hf := it_f h46 hf
      refine V_to [1] rfl ?_
      exact vX1_readsLine_J16 hn hf
def wX1_reads_B10 (n : Nat) (sh : Nat → Nat × Nat) (k10 : Nat → Nat → Nat → Int32 → gS → Prop) (P : Int32 → gS → Prop) (a0 : Nat) (a1 : Nat) (a2 : Nat) (x3 : Int32) (z : gS) : Prop := if (1000 : Int32) ≤ x3 then P (1 : Int32) z else ((oO n sh a0 5) ∧ (wX9_isAtEnd n sh a0 z (fun (r7 : Int32) (z8 : gS) => if r7 = 0 then (wX1_readsLine n sh a0 a1 a2 z8 (fun (r10 : Int32) (z11 : gS) => if r10 = 0 then P (0 : Int32) z11 else (wX9_takesSign n sh a0 (59 : Int32) z11 (fun (r12 : Int32) (z13 : gS) => if r12 = 0 then P (0 : Int32) z13 else (∀ v14 : Int32, v14 = x3 + (1 : Int32) → k10 a0 a1 a2 v14 z13))))) else P (1 : Int32) z8)))
def wX1_reads_L10 (n : Nat) (sh : Nat → Nat × Nat) (P : Int32 → gS → Prop) : Nat → Nat → Nat → Nat → Int32 → gS → Prop
  | 0, _, _, _, _, _ => False
  | N + 1, a0, a1, a2, x3, z => wX1_reads_B10 n sh (wX1_reads_L10 n sh P N) P a0 a1 a2 x3 z
set_option maxRecDepth 100000 in
set_option maxHeartbeats 4000000 in
theorem vX1_reads_B10 {E : gE} {n : Nat} {sh : Nat → Nat × Nat} {P : Int32 → gS → Prop} {k10 : Nat → Nat → Nat → Int32 → gS → Prop} {a0 : Nat} {a1 : Nat} {a2 : Nat} {x3 : Int32} {z : gS} (hn : gOK E n) (hk10 : ∀ (a0 : Nat) (a1 : Nat) (a2 : Nat) (x3 : Int32) (z : gS), k10 a0 a1 a2 x3 z → V E (gR 8 0) gyX1_reads 0 0 10 [(0, .ref a0), (1, .ref a1), (2, .ref a2), (3, .int x3)] [] n sh z (kI n sh P)) (hf : wX1_reads_B10 n sh k10 P a0 a1 a2 x3 z) : V E (gR 8 0) gyX1_reads 0 0 10 [(0, .ref a0), (1, .ref a1), (2, .ref a2), (3, .int x3)] [] n sh z (kI n sh P) := by
  unfold wX1_reads_B10 at hf
  refine V_iload_n (j := 3) dX1_reads_10 rfl rfl ?_
  refine V_sipush (v := (1000 : Int32)) dX1_reads_11 (by decide) ?_
  refine V_icmp_ge (tgt := 50) dX1_reads_14 (by decide) (fun h18 => ?_) (fun h18 => ?_)
  · have hf := it_t h18 hf
    refine V_iconst (v := (1 : Int32)) dX1_reads_50 (by decide) ?_
    exact V_ireturn dX1_reads_51 rfl (by decide) (Nat.le_refl 0) (kI_of hf)
  · have hf := it_f h18 hf
    refine V_aload_n (j := 0) dX1_reads_17 rfl rfl ?_
    obtain ⟨h9, hf⟩ := hf
    refine V_cVI (ctX9_isAtEnd hn hf) gc_X1_19 rfl h9.1 ⟨_, h9.2, by decide, rfl⟩ ⟨by decide, by decide, Nat.zero_le _, Nat.zero_le _⟩ (Nat.le_of_ble_eq_true rfl) dX1_reads_18 rfl hn (fun r7 z8 hf => ?_)
    refine V_if_ne (tgt := 50) dX1_reads_21 (by decide) (fun h17 => ?_) (fun h17 => ?_)
    · have hf := it_f h17 hf
      refine V_iconst (v := (1 : Int32)) dX1_reads_50 (by decide) ?_
      exact V_ireturn dX1_reads_51 rfl (by decide) (Nat.le_refl 0) (kI_of hf)
    · have hf := it_t (Classical.not_not.mp h17) hf
      refine V_aload_n (j := 0) dX1_reads_24 rfl rfl ?_
      refine V_aload_n (j := 1) dX1_reads_25 rfl rfl ?_
      refine V_aload_n (j := 2) dX1_reads_26 rfl rfl ?_
      refine V_cSI (ctX1_readsLine hn hf) gc_X1_23 rfl ⟨by decide, by decide, Nat.zero_le _, Nat.zero_le _⟩ (Nat.le_of_ble_eq_true rfl) dX1_reads_27 rfl hn (fun r10 z11 hf => ?_)
      refine V_if_eq (tgt := 42) dX1_reads_30 (by decide) (fun h16 => ?_) (fun h16 => ?_)
      · have hf := it_t h16 hf
        refine V_iconst (v := (0 : Int32)) dX1_reads_42 (by decide) ?_
        exact V_ireturn dX1_reads_43 rfl (by decide) (Nat.le_refl 0) (kI_of hf)
      · have hf := it_f h16 hf
        refine V_aload_n (j := 0) dX1_reads_33 rfl rfl ?_
        refine V_bipush (v := (59 : Int32)) dX1_reads_34 (by decide) ?_
        refine V_cVI (ctX9_takesSign hn hf) gc_X1_29 rfl h9.1 ⟨_, h9.2, by decide, rfl⟩ ⟨by decide, by decide, Nat.zero_le _, Nat.zero_le _⟩ (Nat.le_of_ble_eq_true rfl) dX1_reads_36 rfl hn (fun r12 z13 hf => ?_)
        refine V_if_ne (tgt := 44) dX1_reads_39 (by decide) (fun h15 => ?_) (fun h15 => ?_)
        · have hf := it_f h15 hf
          obtain ⟨v14, ev14⟩ : ∃ y : Int32, y = x3 + (1 : Int32) := ⟨_, rfl⟩
          refine V_iinc (j := 3) (v := v14) (ls2 := [(3, .int v14), (0, .ref a0), (1, .ref a1), (2, .ref a2)]) dX1_reads_44 rfl (by rw [ev14]; rfl) (by decide) rfl ?_
          have hf := hf v14 ev14
          refine V_goto (tgt := 10) dX1_reads_47 (by decide) ?_
          refine V_to [1, 2, 3, 0] rfl ?_
          exact hk10 _ _ _ _ _ hf
        · have hf := it_t (Classical.not_not.mp h15) hf
          refine V_iconst (v := (0 : Int32)) dX1_reads_42 (by decide) ?_
          exact V_ireturn dX1_reads_43 rfl (by decide) (Nat.le_refl 0) (kI_of hf)
set_option maxRecDepth 100000 in
set_option maxHeartbeats 4000000 in
theorem vX1_reads_L10 {E : gE} {n : Nat} {sh : Nat → Nat × Nat} {P : Int32 → gS → Prop} (hn : gOK E n) : ∀ (N : Nat) (a0 : Nat) (a1 : Nat) (a2 : Nat) (x3 : Int32) (z : gS), wX1_reads_L10 n sh P N a0 a1 a2 x3 z → V E (gR 8 0) gyX1_reads 0 0 10 [(0, .ref a0), (1, .ref a1), (2, .ref a2), (3, .int x3)] [] n sh z (kI n sh P) := by
  intro N
  induction N with
  | zero => intro a0 a1 a2 x3 z hf; exact False.elim hf
  | succ N ih => intro a0 a1 a2 x3 z hf; exact vX1_reads_B10 hn ih hf
def wX1_reads (n : Nat) (sh : Nat → Nat × Nat) (a0 : Nat) (a1 : Nat) (a2 : Nat) (z : gS) (P : Int32 → gS → Prop) : Prop := (oO n sh a2 0) ∧ (wX0_clear n sh a2 z (fun (z2 : gS) => (oO n sh a0 5) ∧ (wX9_rewind n sh a0 z2 (fun (z5 : gS) => (∃ N, wX1_reads_L10 n sh P N a0 a1 a2 (0 : Int32) z5)))))
set_option maxRecDepth 100000 in
set_option maxHeartbeats 4000000 in
theorem ctX1_reads {E : gE} {n : Nat} {sh : Nat → Nat × Nat} {a0 : Nat} {a1 : Nat} {a2 : Nat} {z : gS} {P : Int32 → gS → Prop} (hn : gOK E n) (hf : wX1_reads n sh a0 a1 a2 z P) : VM E 8 0 gyX1_reads [.ref a0, .ref a1, .ref a2] n sh z (kI n sh P) := by
  unfold wX1_reads at hf
  refine VM.of (by decide +kernel) (Nat.le_of_ble_eq_true rfl) (fun _ _ _ h => h.2.2) ?_
  show V E (gR 8 0) gyX1_reads 0 0 0 [(0, .ref a0), (1, .ref a1), (2, .ref a2)] [] n sh z (kI n sh P)
  refine V_aload_n (j := 2) dX1_reads_0 rfl rfl ?_
  obtain ⟨h3, hf⟩ := hf
  refine V_cVN (ctX0_clear hn hf) gc_X1_9 rfl h3.1 ⟨_, h3.2, by decide, rfl⟩ ⟨by decide, by decide, Nat.zero_le _, Nat.zero_le _⟩ (Nat.le_of_ble_eq_true rfl) dX1_reads_1 rfl hn (fun z2 hf => ?_)
  refine V_aload_n (j := 0) dX1_reads_4 rfl rfl ?_
  obtain ⟨h6, hf⟩ := hf
  refine V_cVN (ctX9_rewind hn hf) gc_X1_14 rfl h6.1 ⟨_, h6.2, by decide, rfl⟩ ⟨by decide, by decide, Nat.zero_le _, Nat.zero_le _⟩ (Nat.le_of_ble_eq_true rfl) dX1_reads_5 rfl hn (fun z5 hf => ?_)
  refine V_iconst (v := (0 : Int32)) dX1_reads_8 (by decide) ?_
  refine V_istore_n (ls2 := [(3, .int (0 : Int32)), (0, .ref a0), (1, .ref a1), (2, .ref a2)]) dX1_reads_9 rfl (by decide) rfl ?_
  obtain ⟨N, hf⟩ := hf
  refine V_to [1, 2, 3, 0] rfl ?_
  exact vX1_reads_L10 hn N _ _ _ _ _ hf
def wX11_day (n : Nat) (sh : Nat → Nat × Nat) (a0 : Nat) (z : gS) (P : Int32 → gS → Prop) : Prop := (oO n sh a0 7) ∧ (∃ t2 : Nat, gr z a0 0 = some t2 ∧ (∃ t3 : Nat, gr z a0 7 = some t3 ∧ (∃ t4 : Nat, gr z a0 10 = some t4 ∧ (wX1_reads n sh t2 t3 t4 z (fun (r5 : Int32) (z6 : gS) => ∃ t7 : Nat, gr z6 a0 0 = some t7 ∧ ((oO n sh t7 5) ∧ (wX9_clear n sh t7 z6 (fun (z9 : gS) => if r5 = 0 then (∃ t15 : Nat, gr z9 a0 0 = some t15 ∧ ((oO n sh t15 5) ∧ P (gi z9 t15 8) z9)) else (∃ t11 : Nat, gr z9 a0 9 = some t11 ∧ (∃ t12 : Nat, gr z9 a0 10 = some t12 ∧ (∀ z13 : gS, z13 = sr z9 a0 9 (some t12) → (∀ z14 : gS, z14 = sr z13 a0 10 (some t11) → P (0 : Int32) z14))))))))))))
set_option maxRecDepth 100000 in
set_option maxHeartbeats 4000000 in
theorem ctX11_day {E : gE} {n : Nat} {sh : Nat → Nat × Nat} {a0 : Nat} {z : gS} {P : Int32 → gS → Prop} (hn : gOK E n) (hf : wX11_day n sh a0 z P) : VM E 9 0 gyX11_day [.ref a0] n sh z (kI n sh P) := by
  unfold wX11_day at hf
  refine VM.of (by decide +kernel) (Nat.le_of_ble_eq_true rfl) (fun _ _ _ h => h.2.2) ?_
  show V E (gR 9 0) gyX11_day 0 0 0 [(0, .ref a0)] [] n sh z (kI n sh P)
  refine V_aload_n (j := 0) dX11_day_0 rfl rfl ?_
  obtain ⟨h1, hf⟩ := hf
  obtain ⟨t2, et2, hf⟩ := hf
  refine V_getR fl_X11_10 rfl h1.1 h1.2 et2 dX11_day_1 ?_
  refine V_aload_n (j := 0) dX11_day_4 rfl rfl ?_
  obtain ⟨t3, et3, hf⟩ := hf
  refine V_getR fl_X11_51 rfl h1.1 h1.2 et3 dX11_day_5 ?_
  refine V_aload_n (j := 0) dX11_day_8 rfl rfl ?_
  obtain ⟨t4, et4, hf⟩ := hf
  refine V_getR fl_X11_65 rfl h1.1 h1.2 et4 dX11_day_9 ?_
  refine V_cSI (ctX1_reads hn hf) gc_X11_96 rfl ⟨by decide, by decide, Nat.zero_le _, Nat.zero_le _⟩ (Nat.le_of_ble_eq_true rfl) dX11_day_12 rfl hn (fun r5 z6 hf => ?_)
  refine V_istore_n (ls2 := [(1, .int r5), (0, .ref a0)]) dX11_day_15 rfl (by decide) rfl ?_
  refine V_aload_n (j := 1) dX11_day_16 rfl rfl ?_
  obtain ⟨t7, et7, hf⟩ := hf
  refine V_getR fl_X11_10 rfl h1.1 h1.2 et7 dX11_day_17 ?_
  obtain ⟨h10, hf⟩ := hf
  refine V_cVN (ctX9_clear hn hf) gc_X11_81 rfl h10.1 ⟨_, h10.2, by decide, rfl⟩ ⟨by decide, by decide, Nat.zero_le _, Nat.zero_le _⟩ (Nat.le_of_ble_eq_true rfl) dX11_day_20 rfl hn (fun z9 hf => ?_)
  refine V_iload_n (j := 0) dX11_day_23 rfl rfl ?_
  refine V_if_ne (tgt := 35) dX11_day_24 (by decide) (fun h17 => ?_) (fun h17 => ?_)
  · have hf := it_f h17 hf
    refine V_aload_n (j := 1) dX11_day_35 rfl rfl ?_
    obtain ⟨t11, et11, hf⟩ := hf
    refine V_getR fl_X11_61 rfl h1.1 h1.2 et11 dX11_day_36 ?_
    refine V_astore_n (ls2 := [(2, .ref t11), (1, .int r5), (0, .ref a0)]) dX11_day_39 rfl (by decide) rfl ?_
    refine V_aload_n (j := 2) dX11_day_40 rfl rfl ?_
    refine V_aload_n (j := 2) dX11_day_41 rfl rfl ?_
    obtain ⟨t12, et12, hf⟩ := hf
    refine V_getR fl_X11_65 rfl h1.1 h1.2 et12 dX11_day_42 ?_
    refine V_putR fl_X11_61 rfl rfl (fun _ => rfl) (fun _ => rfl) h1.1 h1.2 dX11_day_45 ?_
    refine V_nz (fun z13 ez13 => ?_)
    have hf := hf z13 ez13
    refine V_aload_n (j := 2) dX11_day_48 rfl rfl ?_
    refine V_aload_n (j := 0) dX11_day_49 rfl rfl ?_
    refine V_putR fl_X11_65 rfl rfl (fun _ => rfl) (fun _ => rfl) h1.1 h1.2 dX11_day_50 ?_
    refine V_nz (fun z14 ez14 => ?_)
    have hf := hf z14 ez14
    refine V_iconst (v := (0 : Int32)) dX11_day_53 (by decide) ?_
    exact V_ireturn dX11_day_54 rfl rfl (Nat.le_refl 0) (kI_of hf)
  · have hf := it_t (Classical.not_not.mp h17) hf
    refine V_aload_n (j := 1) dX11_day_27 rfl rfl ?_
    obtain ⟨t15, et15, hf⟩ := hf
    refine V_getR fl_X11_10 rfl h1.1 h1.2 et15 dX11_day_28 ?_
    obtain ⟨h16, hf⟩ := hf
    refine V_getI fl_X11_84 rfl h16.1 h16.2 dX11_day_31 ?_
    exact V_ireturn dX11_day_34 rfl rfl (Nat.le_refl 0) (kI_of hf)
def wX7_hasPane (n : Nat) (sh : Nat → Nat × Nat) (a0 : Nat) (x1 : Int32) (z : gS) (P : Int32 → gS → Prop) : Prop := if x1 < 0 then P (0 : Int32) z else ((oO n sh a0 4) ∧ (if (gi z a0 10) ≤ x1 then P (0 : Int32) z else P (1 : Int32) z))
set_option maxRecDepth 100000 in
set_option maxHeartbeats 4000000 in
theorem ctX7_hasPane {E : gE} {n : Nat} {sh : Nat → Nat × Nat} {a0 : Nat} {x1 : Int32} {z : gS} {P : Int32 → gS → Prop} (hn : gOK E n) (hf : wX7_hasPane n sh a0 x1 z P) : VM E 0 0 gyX7_hasPane [.ref a0, .int x1] n sh z (kI n sh P) := by
  unfold wX7_hasPane at hf
  refine VM.of (by decide +kernel) (Nat.le_of_ble_eq_true rfl) (fun _ _ _ h => h.2.2) ?_
  show V E (gR 0 0) gyX7_hasPane 0 0 0 [(0, .ref a0), (1, .int x1)] [] n sh z (kI n sh P)
  refine V_iload_n (j := 1) dX7_hasPane_0 rfl rfl ?_
  refine V_if_lt (tgt := 16) dX7_hasPane_1 (by decide) (fun h3 => ?_) (fun h3 => ?_)
  · have hf := it_t h3 hf
    refine V_iconst (v := (0 : Int32)) dX7_hasPane_16 (by decide) ?_
    exact V_ireturn dX7_hasPane_17 rfl (by decide) (Nat.le_refl 0) (kI_of hf)
  · have hf := it_f h3 hf
    refine V_iload_n (j := 1) dX7_hasPane_4 rfl rfl ?_
    refine V_aload_n (j := 0) dX7_hasPane_5 rfl rfl ?_
    obtain ⟨h1, hf⟩ := hf
    refine V_getI fl_X7_47 rfl h1.1 h1.2 dX7_hasPane_6 ?_
    refine V_icmp_ge (tgt := 16) dX7_hasPane_9 (by decide) (fun h2 => ?_) (fun h2 => ?_)
    · have hf := it_t h2 hf
      refine V_iconst (v := (0 : Int32)) dX7_hasPane_16 (by decide) ?_
      exact V_ireturn dX7_hasPane_17 rfl (by decide) (Nat.le_refl 0) (kI_of hf)
    · have hf := it_f h2 hf
      refine V_iconst (v := (1 : Int32)) dX7_hasPane_12 (by decide) ?_
      refine V_goto (tgt := 17) dX7_hasPane_13 (by decide) ?_
      exact V_ireturn dX7_hasPane_17 rfl (by decide) (Nat.le_refl 0) (kI_of hf)
def wX10_isDrawn (n : Nat) (sh : Nat → Nat × Nat) (a0 : Nat) (x1 : Int32) (z : gS) (P : Int32 → gS → Prop) : Prop := (oO n sh a0 6) ∧ (if (((gi z a0 1) >>> (x1 &&& 31)) &&& (1 : Int32)) = 0 then P (0 : Int32) z else P (1 : Int32) z)
set_option maxRecDepth 100000 in
set_option maxHeartbeats 4000000 in
theorem ctX10_isDrawn {E : gE} {n : Nat} {sh : Nat → Nat × Nat} {a0 : Nat} {x1 : Int32} {z : gS} {P : Int32 → gS → Prop} (hn : gOK E n) (hf : wX10_isDrawn n sh a0 x1 z P) : VM E 0 0 gyX10_isDrawn [.ref a0, .int x1] n sh z (kI n sh P) := by
  unfold wX10_isDrawn at hf
  refine VM.of (by decide +kernel) (Nat.le_of_ble_eq_true rfl) (fun _ _ _ h => h.2.2) ?_
  show V E (gR 0 0) gyX10_isDrawn 0 0 0 [(0, .ref a0), (1, .int x1)] [] n sh z (kI n sh P)
  refine V_aload_n (j := 0) dX10_isDrawn_0 rfl rfl ?_
  obtain ⟨h1, hf⟩ := hf
  refine V_getI fl_X10_15 rfl h1.1 h1.2 dX10_isDrawn_1 ?_
  refine V_iload_n (j := 1) dX10_isDrawn_4 rfl rfl ?_
  refine V_ishr dX10_isDrawn_5 ?_
  refine V_iconst (v := (1 : Int32)) dX10_isDrawn_6 (by decide) ?_
  refine V_iand dX10_isDrawn_7 ?_
  refine V_if_eq (tgt := 15) dX10_isDrawn_8 (by decide) (fun h2 => ?_) (fun h2 => ?_)
  · have hf := it_t h2 hf
    refine V_iconst (v := (0 : Int32)) dX10_isDrawn_15 (by decide) ?_
    exact V_ireturn dX10_isDrawn_16 rfl (by decide) (Nat.le_refl 0) (kI_of hf)
  · have hf := it_f h2 hf
    refine V_iconst (v := (1 : Int32)) dX10_isDrawn_11 (by decide) ?_
    refine V_goto (tgt := 16) dX10_isDrawn_12 (by decide) ?_
    exact V_ireturn dX10_isDrawn_16 rfl (by decide) (Nat.le_refl 0) (kI_of hf)
def wX10_isBroken (n : Nat) (sh : Nat → Nat × Nat) (a0 : Nat) (x1 : Int32) (z : gS) (P : Int32 → gS → Prop) : Prop := (oO n sh a0 6) ∧ (if (((gi z a0 2) >>> (x1 &&& 31)) &&& (1 : Int32)) = 0 then P (0 : Int32) z else P (1 : Int32) z)
set_option maxRecDepth 100000 in
set_option maxHeartbeats 4000000 in
theorem ctX10_isBroken {E : gE} {n : Nat} {sh : Nat → Nat × Nat} {a0 : Nat} {x1 : Int32} {z : gS} {P : Int32 → gS → Prop} (hn : gOK E n) (hf : wX10_isBroken n sh a0 x1 z P) : VM E 0 0 gyX10_isBroken [.ref a0, .int x1] n sh z (kI n sh P) := by
  unfold wX10_isBroken at hf
  refine VM.of (by decide +kernel) (Nat.le_of_ble_eq_true rfl) (fun _ _ _ h => h.2.2) ?_
  show V E (gR 0 0) gyX10_isBroken 0 0 0 [(0, .ref a0), (1, .int x1)] [] n sh z (kI n sh P)
  refine V_aload_n (j := 0) dX10_isBroken_0 rfl rfl ?_
  obtain ⟨h1, hf⟩ := hf
  refine V_getI fl_X10_18 rfl h1.1 h1.2 dX10_isBroken_1 ?_
  refine V_iload_n (j := 1) dX10_isBroken_4 rfl rfl ?_
  refine V_ishr dX10_isBroken_5 ?_
  refine V_iconst (v := (1 : Int32)) dX10_isBroken_6 (by decide) ?_
  refine V_iand dX10_isBroken_7 ?_
  refine V_if_eq (tgt := 15) dX10_isBroken_8 (by decide) (fun h2 => ?_) (fun h2 => ?_)
  · have hf := it_t h2 hf
    refine V_iconst (v := (0 : Int32)) dX10_isBroken_15 (by decide) ?_
    exact V_ireturn dX10_isBroken_16 rfl (by decide) (Nat.le_refl 0) (kI_of hf)
  · have hf := it_f h2 hf
    refine V_iconst (v := (1 : Int32)) dX10_isBroken_11 (by decide) ?_
    refine V_goto (tgt := 16) dX10_isBroken_12 (by decide) ?_
    exact V_ireturn dX10_isBroken_16 rfl (by decide) (Nat.le_refl 0) (kI_of hf)
def wJ9_floorMod_7cf53 (n : Nat) (sh : Nat → Nat × Nat) (x0 : Int32) (x1 : Int32) (z : gS) (P : Int32 → gS → Prop) : Prop := (¬ x1 = 0) ∧ (∀ v1 : Int32, v1 = (x0 - x0 / x1 * x1) → (if 0 ≤ (x0 ^^^ x1) then P v1 z else (if v1 = 0 then P v1 z else P (v1 + x1) z)))
set_option maxRecDepth 100000 in
set_option maxHeartbeats 4000000 in
theorem ctJ9_floorMod_7cf53 {E : gE} {n : Nat} {sh : Nat → Nat × Nat} {x0 : Int32} {x1 : Int32} {z : gS} {P : Int32 → gS → Prop} (hn : gOK E n) (hf : wJ9_floorMod_7cf53 n sh x0 x1 z P) : VM E 0 0 gyJ9_floorMod_7cf53 [.int x0, .int x1] n sh z (kI n sh P) := by
  unfold wJ9_floorMod_7cf53 at hf
  refine VM.of (by decide +kernel) (Nat.le_of_ble_eq_true rfl) (fun _ _ _ h => h.2.2) ?_
  show V E (gR 0 0) gyJ9_floorMod_7cf53 0 0 0 [(0, .int x0), (1, .int x1)] [] n sh z (kI n sh P)
  refine V_iload_n (j := 0) dJ9_floorMod_7cf53_0 rfl rfl ?_
  refine V_iload_n (j := 1) dJ9_floorMod_7cf53_1 rfl rfl ?_
  obtain ⟨h4, hf⟩ := hf
  refine V_irem dJ9_floorMod_7cf53_2 h4 ?_
  refine V_nI (fun v1 ev1 => ?_)
  have hf := hf v1 ev1
  refine V_istore_n (ls2 := [(2, .int v1), (0, .int x0), (1, .int x1)]) dJ9_floorMod_7cf53_3 rfl (by decide) rfl ?_
  refine V_iload_n (j := 1) dJ9_floorMod_7cf53_4 rfl rfl ?_
  refine V_iload_n (j := 2) dJ9_floorMod_7cf53_5 rfl rfl ?_
  refine V_ixor dJ9_floorMod_7cf53_6 ?_
  refine V_if_ge (tgt := 18) dJ9_floorMod_7cf53_7 (by decide) (fun h3 => ?_) (fun h3 => ?_)
  · have hf := it_t h3 hf
    refine V_iload_n (j := 0) dJ9_floorMod_7cf53_18 rfl rfl ?_
    exact V_ireturn dJ9_floorMod_7cf53_19 rfl rfl (Nat.le_refl 0) (kI_of hf)
  · have hf := it_f h3 hf
    refine V_iload_n (j := 0) dJ9_floorMod_7cf53_10 rfl rfl ?_
    refine V_if_eq (tgt := 18) dJ9_floorMod_7cf53_11 (by decide) (fun h2 => ?_) (fun h2 => ?_)
    · have hf := it_t h2 hf
      refine V_iload_n (j := 0) dJ9_floorMod_7cf53_18 rfl rfl ?_
      exact V_ireturn dJ9_floorMod_7cf53_19 rfl rfl (Nat.le_refl 0) (kI_of hf)
    · have hf := it_f h2 hf
      refine V_iload_n (j := 0) dJ9_floorMod_7cf53_14 rfl rfl ?_
      refine V_iload_n (j := 2) dJ9_floorMod_7cf53_15 rfl rfl ?_
      refine V_iadd dJ9_floorMod_7cf53_16 ?_
      exact V_ireturn dJ9_floorMod_7cf53_17 rfl rfl (Nat.le_refl 0) (kI_of hf)
def wX7_lightAt (n : Nat) (sh : Nat → Nat × Nat) (a0 : Nat) (x1 : Int32) (z : gS) (P : Int32 → gS → Prop) : Prop := (oO n sh a0 4) ∧ (if 0 < (gi z a0 13) then (∃ t2 : Nat, gr z a0 6 = some t2 ∧ (wJ9_floorMod_7cf53 n sh x1 (gi z a0 13) z (fun (r3 : Int32) (z4 : gS) => (oA n sh t2 1) ∧ ((vp_in r3 (sh t2).2) ∧ P (gi z4 t2 r3.toNatClampNeg) z4)))) else P (1 : Int32) z)
set_option maxRecDepth 100000 in
set_option maxHeartbeats 4000000 in
theorem ctX7_lightAt {E : gE} {n : Nat} {sh : Nat → Nat × Nat} {a0 : Nat} {x1 : Int32} {z : gS} {P : Int32 → gS → Prop} (hn : gOK E n) (hf : wX7_lightAt n sh a0 x1 z P) : VM E 1 0 gyX7_lightAt [.ref a0, .int x1] n sh z (kI n sh P) := by
  unfold wX7_lightAt at hf
  refine VM.of (by decide +kernel) (Nat.le_of_ble_eq_true rfl) (fun _ _ _ h => h.2.2) ?_
  show V E (gR 1 0) gyX7_lightAt 0 0 0 [(0, .ref a0), (1, .int x1)] [] n sh z (kI n sh P)
  refine V_aload_n (j := 0) dX7_lightAt_0 rfl rfl ?_
  obtain ⟨h1, hf⟩ := hf
  refine V_getI fl_X7_57 rfl h1.1 h1.2 dX7_lightAt_1 ?_
  refine V_if_gt (tgt := 11) dX7_lightAt_4 (by decide) (fun h7 => ?_) (fun h7 => ?_)
  · have hf := it_t h7 hf
    refine V_aload_n (j := 0) dX7_lightAt_11 rfl rfl ?_
    obtain ⟨t2, et2, hf⟩ := hf
    refine V_getR fl_X7_34 rfl h1.1 h1.2 et2 dX7_lightAt_12 ?_
    refine V_iload_n (j := 1) dX7_lightAt_15 rfl rfl ?_
    refine V_aload_n (j := 0) dX7_lightAt_16 rfl rfl ?_
    refine V_getI fl_X7_57 rfl h1.1 h1.2 dX7_lightAt_17 ?_
    refine V_cSI (ctJ9_floorMod_7cf53 hn hf) gc_X7_67 rfl ⟨by decide, by decide, Nat.zero_le _, Nat.zero_le _⟩ (Nat.le_of_ble_eq_true rfl) dX7_lightAt_20 rfl hn (fun r3 z4 hf => ?_)
    obtain ⟨h5, hf⟩ := hf
    obtain ⟨h6, hf⟩ := hf
    refine V_iald h5.1 h5.s h6 dX7_lightAt_23 ?_
    exact V_ireturn dX7_lightAt_24 rfl rfl (Nat.le_refl 0) (kI_of hf)
  · have hf := it_f h7 hf
    refine V_iconst (v := (1 : Int32)) dX7_lightAt_7 (by decide) ?_
    refine V_goto (tgt := 24) dX7_lightAt_8 (by decide) ?_
    exact V_ireturn dX7_lightAt_24 rfl rfl (Nat.le_refl 0) (kI_of hf)
def wX10_sightOf_J41 (n : Nat) (sh : Nat → Nat × Nat) (P : Int32 → gS → Prop) (a1 : Nat) (x2 : Int32) (z : gS) : Prop := (oO n sh a1 4) ∧ (∃ t11 : Nat, gr z a1 3 = some t11 ∧ ((oA n sh t11 1) ∧ ((vp_in x2 (sh t11).2) ∧ P (gi z t11 x2.toNatClampNeg) z)))
set_option maxRecDepth 100000 in
set_option maxHeartbeats 4000000 in
theorem vX10_sightOf_J41 {E : gE} {n : Nat} {sh : Nat → Nat × Nat} {P : Int32 → gS → Prop} {a1 : Nat} {x2 : Int32} {z : gS} (hn : gOK E n) (hf : wX10_sightOf_J41 n sh P a1 x2 z) : V E (gR 2 0) gyX10_sightOf 0 0 41 [(1, .ref a1), (2, .int x2)] [] n sh z (kI n sh P) := by
  unfold wX10_sightOf_J41 at hf
  refine V_aload_n (j := 0) dX10_sightOf_41 rfl rfl ?_
  obtain ⟨h10, hf⟩ := hf
  obtain ⟨t11, et11, hf⟩ := hf
  refine V_getR fl_X10_65 rfl h10.1 h10.2 et11 dX10_sightOf_42 ?_
  refine V_iload_n (j := 1) dX10_sightOf_45 rfl rfl ?_
  obtain ⟨h12, hf⟩ := hf
  obtain ⟨h13, hf⟩ := hf
  refine V_iald h12.1 h12.s h13 dX10_sightOf_46 ?_
  exact V_ireturn dX10_sightOf_47 rfl rfl (Nat.le_refl 0) (kI_of hf)
def wX10_sightOf (n : Nat) (sh : Nat → Nat × Nat) (a0 : Nat) (a1 : Nat) (x2 : Int32) (z : gS) (P : Int32 → gS → Prop) : Prop := (oO n sh a0 6) ∧ (wX10_isBroken n sh a0 x2 z (fun (r1 : Int32) (z2 : gS) => if r1 = 0 then (wX10_isDrawn n sh a0 x2 z2 (fun (r4 : Int32) (z5 : gS) => if r4 = 0 then ((oO n sh a1 4) ∧ (∃ t7 : Nat, gr z5 a1 1 = some t7 ∧ ((oA n sh t7 1) ∧ ((vp_in x2 (sh t7).2) ∧ (if (gi z5 t7 x2.toNatClampNeg) = (2 : Int32) then (wX7_lightAt n sh a1 (gi z5 a0 0) z5 (fun (r14 : Int32) (z15 : gS) => if r14 = 0 then P (0 : Int32) z15 else wX10_sightOf_J41 n sh P a1 x2 z15)) else wX10_sightOf_J41 n sh P a1 x2 z5))))) else P (0 : Int32) z5)) else P (0 : Int32) z2))
set_option maxRecDepth 100000 in
set_option maxHeartbeats 4000000 in
theorem ctX10_sightOf {E : gE} {n : Nat} {sh : Nat → Nat × Nat} {a0 : Nat} {a1 : Nat} {x2 : Int32} {z : gS} {P : Int32 → gS → Prop} (hn : gOK E n) (hf : wX10_sightOf n sh a0 a1 x2 z P) : VM E 2 0 gyX10_sightOf [.ref a0, .ref a1, .int x2] n sh z (kI n sh P) := by
  unfold wX10_sightOf at hf
  refine VM.of (by decide +kernel) (Nat.le_of_ble_eq_true rfl) (fun _ _ _ h => h.2.2) ?_
  show V E (gR 2 0) gyX10_sightOf 0 0 0 [(0, .ref a0), (1, .ref a1), (2, .int x2)] [] n sh z (kI n sh P)
  refine V_aload_n (j := 0) dX10_sightOf_0 rfl rfl ?_
  refine V_iload_n (j := 2) dX10_sightOf_1 rfl rfl ?_
  obtain ⟨h3, hf⟩ := hf
  refine V_cVI (ctX10_isBroken hn hf) gc_X10_48 rfl h3.1 ⟨_, h3.2, by decide, rfl⟩ ⟨by decide, by decide, Nat.zero_le _, Nat.zero_le _⟩ (Nat.le_of_ble_eq_true rfl) dX10_sightOf_2 rfl hn (fun r1 z2 hf => ?_)
  refine V_if_ne (tgt := 16) dX10_sightOf_5 (by decide) (fun h19 => ?_) (fun h19 => ?_)
  · have hf := it_f h19 hf
    refine V_iconst (v := (0 : Int32)) dX10_sightOf_16 (by decide) ?_
    exact V_ireturn dX10_sightOf_17 rfl rfl (Nat.le_refl 0) (kI_of hf)
  · have hf := it_t (Classical.not_not.mp h19) hf
    refine V_aload_n (j := 0) dX10_sightOf_8 rfl rfl ?_
    refine V_iload_n (j := 2) dX10_sightOf_9 rfl rfl ?_
    refine V_cVI (ctX10_isDrawn hn hf) gc_X10_52 rfl h3.1 ⟨_, h3.2, by decide, rfl⟩ ⟨by decide, by decide, Nat.zero_le _, Nat.zero_le _⟩ (Nat.le_of_ble_eq_true rfl) dX10_sightOf_10 rfl hn (fun r4 z5 hf => ?_)
    refine V_if_eq (tgt := 18) dX10_sightOf_13 (by decide) (fun h18 => ?_) (fun h18 => ?_)
    · have hf := it_t h18 hf
      refine V_aload_n (j := 1) dX10_sightOf_18 rfl rfl ?_
      obtain ⟨h6, hf⟩ := hf
      obtain ⟨t7, et7, hf⟩ := hf
      refine V_getR fl_X10_55 rfl h6.1 h6.2 et7 dX10_sightOf_19 ?_
      refine V_iload_n (j := 2) dX10_sightOf_22 rfl rfl ?_
      obtain ⟨h8, hf⟩ := hf
      obtain ⟨h9, hf⟩ := hf
      refine V_iald h8.1 h8.s h9 dX10_sightOf_23 ?_
      refine V_iconst (v := (2 : Int32)) dX10_sightOf_24 (by decide) ?_
      refine V_icmp_ne (tgt := 41) dX10_sightOf_25 (by decide) (fun h17 => ?_) (fun h17 => ?_)
      · have hf := it_f h17 hf
        refine V_to [1, 2] rfl ?_
        exact vX10_sightOf_J41 hn hf
      · have hf := it_t (Classical.not_not.mp h17) hf
        refine V_aload_n (j := 1) dX10_sightOf_28 rfl rfl ?_
        refine V_aload_n (j := 0) dX10_sightOf_29 rfl rfl ?_
        refine V_getI fl_X10_11 rfl h3.1 h3.2 dX10_sightOf_30 ?_
        refine V_cVI (ctX7_lightAt hn hf) gc_X10_61 rfl h6.1 ⟨_, h6.2, by decide, rfl⟩ ⟨by decide, by decide, Nat.zero_le _, Nat.zero_le _⟩ (Nat.le_of_ble_eq_true rfl) dX10_sightOf_33 rfl hn (fun r14 z15 hf => ?_)
        refine V_if_ne (tgt := 41) dX10_sightOf_36 (by decide) (fun h16 => ?_) (fun h16 => ?_)
        · have hf := it_f h16 hf
          refine V_to [1, 2] rfl ?_
          exact vX10_sightOf_J41 hn hf
        · have hf := it_t (Classical.not_not.mp h16) hf
          refine V_iconst (v := (0 : Int32)) dX10_sightOf_39 (by decide) ?_
          exact V_ireturn dX10_sightOf_40 rfl rfl (Nat.le_refl 0) (kI_of hf)
    · have hf := it_f h18 hf
      refine V_iconst (v := (0 : Int32)) dX10_sightOf_16 (by decide) ?_
      exact V_ireturn dX10_sightOf_17 rfl rfl (Nat.le_refl 0) (kI_of hf)
def wX11_pane (n : Nat) (sh : Nat → Nat × Nat) (a0 : Nat) (x1 : Int32) (x2 : Int32) (z : gS) (P : Int32 → gS → Prop) : Prop := (oO n sh a0 7) ∧ (∃ t2 : Nat, gr z a0 7 = some t2 ∧ ((oO n sh t2 4) ∧ (wX7_hasPane n sh t2 x1 z (fun (r3 : Int32) (z4 : gS) => if r3 = 0 then P (-2 : Int32) z4 else (if x2 = (0 : Int32) then (∃ t7 : Nat, gr z4 a0 7 = some t7 ∧ ((oO n sh t7 4) ∧ (∃ t9 : Nat, gr z4 t7 1 = some t9 ∧ ((oA n sh t9 1) ∧ ((vp_in x1 (sh t9).2) ∧ P (gi z4 t9 x1.toNatClampNeg) z4))))) else (if x2 = (1 : Int32) then (∃ t13 : Nat, gr z4 a0 7 = some t13 ∧ ((oO n sh t13 4) ∧ (∃ t15 : Nat, gr z4 t13 2 = some t15 ∧ ((oA n sh t15 1) ∧ ((vp_in x1 (sh t15).2) ∧ P (gi z4 t15 x1.toNatClampNeg) z4))))) else (if x2 = (2 : Int32) then (∃ t19 : Nat, gr z4 a0 1 = some t19 ∧ ((oO n sh t19 6) ∧ (∃ t21 : Nat, gr z4 t19 6 = some t21 ∧ ((oA n sh t21 1) ∧ ((vp_in x1 (sh t21).2) ∧ P (gi z4 t21 x1.toNatClampNeg) z4))))) else (if x2 = (3 : Int32) then (∃ t25 : Nat, gr z4 a0 1 = some t25 ∧ ((oO n sh t25 6) ∧ (wX10_isDrawn n sh t25 x1 z4 (fun (r26 : Int32) (z27 : gS) => if r26 = 0 then P (0 : Int32) z27 else P (1 : Int32) z27)))) else (if x2 = (4 : Int32) then (∃ t31 : Nat, gr z4 a0 1 = some t31 ∧ ((oO n sh t31 6) ∧ (wX10_isBroken n sh t31 x1 z4 (fun (r32 : Int32) (z33 : gS) => if r32 = 0 then P (0 : Int32) z33 else P (1 : Int32) z33)))) else (if x2 = (5 : Int32) then (∃ t37 : Nat, gr z4 a0 1 = some t37 ∧ (∃ t38 : Nat, gr z4 a0 7 = some t38 ∧ ((oO n sh t37 6) ∧ (wX10_sightOf n sh t37 t38 x1 z4 (fun (r39 : Int32) (z40 : gS) => P r39 z40))))) else P (-2 : Int32) z4))))))))))
set_option maxRecDepth 100000 in
set_option maxHeartbeats 4000000 in
theorem ctX11_pane {E : gE} {n : Nat} {sh : Nat → Nat × Nat} {a0 : Nat} {x1 : Int32} {x2 : Int32} {z : gS} {P : Int32 → gS → Prop} (hn : gOK E n) (hf : wX11_pane n sh a0 x1 x2 z P) : VM E 3 0 gyX11_pane [.ref a0, .int x1, .int x2] n sh z (kI n sh P) := by
  unfold wX11_pane at hf
  refine VM.of (by decide +kernel) (Nat.le_of_ble_eq_true rfl) (fun _ _ _ h => h.2.2) ?_
  show V E (gR 3 0) gyX11_pane 0 0 0 [(0, .ref a0), (1, .int x1), (2, .int x2)] [] n sh z (kI n sh P)
  refine V_aload_n (j := 0) dX11_pane_0 rfl rfl ?_
  obtain ⟨h1, hf⟩ := hf
  obtain ⟨t2, et2, hf⟩ := hf
  refine V_getR fl_X11_51 rfl h1.1 h1.2 et2 dX11_pane_1 ?_
  refine V_iload_n (j := 1) dX11_pane_4 rfl rfl ?_
  obtain ⟨h5, hf⟩ := hf
  refine V_cVI (ctX7_hasPane hn hf) gc_X11_101 rfl h5.1 ⟨_, h5.2, by decide, rfl⟩ ⟨by decide, by decide, Nat.zero_le _, Nat.zero_le _⟩ (Nat.le_of_ble_eq_true rfl) dX11_pane_5 rfl hn (fun r3 z4 hf => ?_)
  refine V_if_ne (tgt := 14) dX11_pane_8 (by decide) (fun h42 => ?_) (fun h42 => ?_)
  · have hf := it_f h42 hf
    refine V_iload_n (j := 2) dX11_pane_14 rfl rfl ?_
    by_cases h6 : x2 = (0 : Int32)
    · have hf := it_t h6 hf
      refine V_tableIn (off := 37) (tgt := 52) dX11_pane_15 (by rw [h6]; decide) (by rw [h6]; decide) (by rw [h6]; decide) (by decide) ?_
      refine V_aload_n (j := 0) dX11_pane_52 rfl rfl ?_
      obtain ⟨t7, et7, hf⟩ := hf
      refine V_getR fl_X11_51 rfl h1.1 h1.2 et7 dX11_pane_53 ?_
      obtain ⟨h8, hf⟩ := hf
      obtain ⟨t9, et9, hf⟩ := hf
      refine V_getR fl_X11_105 rfl h8.1 h8.2 et9 dX11_pane_56 ?_
      refine V_iload_n (j := 1) dX11_pane_59 rfl rfl ?_
      obtain ⟨h10, hf⟩ := hf
      obtain ⟨h11, hf⟩ := hf
      refine V_iald h10.1 h10.s h11 dX11_pane_60 ?_
      exact V_ireturn dX11_pane_61 rfl rfl (Nat.le_refl 0) (kI_of hf)
    · have hf := it_f h6 hf
      by_cases h12 : x2 = (1 : Int32)
      · have hf := it_t h12 hf
        refine V_tableIn (off := 47) (tgt := 62) dX11_pane_15 (by rw [h12]; decide) (by rw [h12]; decide) (by rw [h12]; decide) (by decide) ?_
        refine V_aload_n (j := 0) dX11_pane_62 rfl rfl ?_
        obtain ⟨t13, et13, hf⟩ := hf
        refine V_getR fl_X11_51 rfl h1.1 h1.2 et13 dX11_pane_63 ?_
        obtain ⟨h14, hf⟩ := hf
        obtain ⟨t15, et15, hf⟩ := hf
        refine V_getR fl_X11_109 rfl h14.1 h14.2 et15 dX11_pane_66 ?_
        refine V_iload_n (j := 1) dX11_pane_69 rfl rfl ?_
        obtain ⟨h16, hf⟩ := hf
        obtain ⟨h17, hf⟩ := hf
        refine V_iald h16.1 h16.s h17 dX11_pane_70 ?_
        exact V_ireturn dX11_pane_71 rfl rfl (Nat.le_refl 0) (kI_of hf)
      · have hf := it_f h12 hf
        by_cases h18 : x2 = (2 : Int32)
        · have hf := it_t h18 hf
          refine V_tableIn (off := 57) (tgt := 72) dX11_pane_15 (by rw [h18]; decide) (by rw [h18]; decide) (by rw [h18]; decide) (by decide) ?_
          refine V_aload_n (j := 0) dX11_pane_72 rfl rfl ?_
          obtain ⟨t19, et19, hf⟩ := hf
          refine V_getR fl_X11_19 rfl h1.1 h1.2 et19 dX11_pane_73 ?_
          obtain ⟨h20, hf⟩ := hf
          obtain ⟨t21, et21, hf⟩ := hf
          refine V_getR fl_X11_112 rfl h20.1 h20.2 et21 dX11_pane_76 ?_
          refine V_iload_n (j := 1) dX11_pane_79 rfl rfl ?_
          obtain ⟨h22, hf⟩ := hf
          obtain ⟨h23, hf⟩ := hf
          refine V_iald h22.1 h22.s h23 dX11_pane_80 ?_
          exact V_ireturn dX11_pane_81 rfl rfl (Nat.le_refl 0) (kI_of hf)
        · have hf := it_f h18 hf
          by_cases h24 : x2 = (3 : Int32)
          · have hf := it_t h24 hf
            refine V_tableIn (off := 67) (tgt := 82) dX11_pane_15 (by rw [h24]; decide) (by rw [h24]; decide) (by rw [h24]; decide) (by decide) ?_
            refine V_aload_n (j := 0) dX11_pane_82 rfl rfl ?_
            obtain ⟨t25, et25, hf⟩ := hf
            refine V_getR fl_X11_19 rfl h1.1 h1.2 et25 dX11_pane_83 ?_
            refine V_iload_n (j := 1) dX11_pane_86 rfl rfl ?_
            obtain ⟨h28, hf⟩ := hf
            refine V_cVI (ctX10_isDrawn hn hf) gc_X11_115 rfl h28.1 ⟨_, h28.2, by decide, rfl⟩ ⟨by decide, by decide, Nat.zero_le _, Nat.zero_le _⟩ (Nat.le_of_ble_eq_true rfl) dX11_pane_87 rfl hn (fun r26 z27 hf => ?_)
            refine V_if_eq (tgt := 97) dX11_pane_90 (by decide) (fun h29 => ?_) (fun h29 => ?_)
            · have hf := it_t h29 hf
              refine V_iconst (v := (0 : Int32)) dX11_pane_97 (by decide) ?_
              exact V_ireturn dX11_pane_98 rfl rfl (Nat.le_refl 0) (kI_of hf)
            · have hf := it_f h29 hf
              refine V_iconst (v := (1 : Int32)) dX11_pane_93 (by decide) ?_
              refine V_goto (tgt := 98) dX11_pane_94 (by decide) ?_
              exact V_ireturn dX11_pane_98 rfl rfl (Nat.le_refl 0) (kI_of hf)
          · have hf := it_f h24 hf
            by_cases h30 : x2 = (4 : Int32)
            · have hf := it_t h30 hf
              refine V_tableIn (off := 84) (tgt := 99) dX11_pane_15 (by rw [h30]; decide) (by rw [h30]; decide) (by rw [h30]; decide) (by decide) ?_
              refine V_aload_n (j := 0) dX11_pane_99 rfl rfl ?_
              obtain ⟨t31, et31, hf⟩ := hf
              refine V_getR fl_X11_19 rfl h1.1 h1.2 et31 dX11_pane_100 ?_
              refine V_iload_n (j := 1) dX11_pane_103 rfl rfl ?_
              obtain ⟨h34, hf⟩ := hf
              refine V_cVI (ctX10_isBroken hn hf) gc_X11_118 rfl h34.1 ⟨_, h34.2, by decide, rfl⟩ ⟨by decide, by decide, Nat.zero_le _, Nat.zero_le _⟩ (Nat.le_of_ble_eq_true rfl) dX11_pane_104 rfl hn (fun r32 z33 hf => ?_)
              refine V_if_eq (tgt := 114) dX11_pane_107 (by decide) (fun h35 => ?_) (fun h35 => ?_)
              · have hf := it_t h35 hf
                refine V_iconst (v := (0 : Int32)) dX11_pane_114 (by decide) ?_
                exact V_ireturn dX11_pane_115 rfl rfl (Nat.le_refl 0) (kI_of hf)
              · have hf := it_f h35 hf
                refine V_iconst (v := (1 : Int32)) dX11_pane_110 (by decide) ?_
                refine V_goto (tgt := 115) dX11_pane_111 (by decide) ?_
                exact V_ireturn dX11_pane_115 rfl rfl (Nat.le_refl 0) (kI_of hf)
            · have hf := it_f h30 hf
              by_cases h36 : x2 = (5 : Int32)
              · have hf := it_t h36 hf
                refine V_tableIn (off := 101) (tgt := 116) dX11_pane_15 (by rw [h36]; decide) (by rw [h36]; decide) (by rw [h36]; decide) (by decide) ?_
                refine V_aload_n (j := 0) dX11_pane_116 rfl rfl ?_
                obtain ⟨t37, et37, hf⟩ := hf
                refine V_getR fl_X11_19 rfl h1.1 h1.2 et37 dX11_pane_117 ?_
                refine V_aload_n (j := 0) dX11_pane_120 rfl rfl ?_
                obtain ⟨t38, et38, hf⟩ := hf
                refine V_getR fl_X11_51 rfl h1.1 h1.2 et38 dX11_pane_121 ?_
                refine V_iload_n (j := 1) dX11_pane_124 rfl rfl ?_
                obtain ⟨h41, hf⟩ := hf
                refine V_cVI (ctX10_sightOf hn hf) gc_X11_121 rfl h41.1 ⟨_, h41.2, by decide, rfl⟩ ⟨by decide, by decide, Nat.zero_le _, Nat.zero_le _⟩ (Nat.le_of_ble_eq_true rfl) dX11_pane_125 rfl hn (fun r39 z40 hf => ?_)
                exact V_ireturn dX11_pane_128 rfl rfl (Nat.le_refl 0) (kI_of hf)
              · have hf := it_f h36 hf
                refine V_tableOut (tgt := 129) dX11_pane_15 (by have qh6 := sw_ne (a := 0) h6 (by decide); have qh12 := sw_ne (a := 1) h12 (by decide); have qh18 := sw_ne (a := 2) h18 (by decide); have qh24 := sw_ne (a := 3) h24 (by decide); have qh30 := sw_ne (a := 4) h30 (by decide); have qh36 := sw_ne (a := 5) h36 (by decide); omega) (by decide) ?_
                refine V_bipush (v := (-2 : Int32)) dX11_pane_129 (by decide) ?_
                exact V_ireturn dX11_pane_131 rfl rfl (Nat.le_refl 0) (kI_of hf)
  · have hf := it_t (Classical.not_not.mp h42) hf
    refine V_bipush (v := (-2 : Int32)) dX11_pane_11 (by decide) ?_
    exact V_ireturn dX11_pane_13 rfl rfl (Nat.le_refl 0) (kI_of hf)
def wX10_isOpenToAll_J16 (n : Nat) (sh : Nat → Nat × Nat) (P : Int32 → gS → Prop) (z : gS) : Prop := P (1 : Int32) z
set_option maxRecDepth 100000 in
set_option maxHeartbeats 4000000 in
theorem vX10_isOpenToAll_J16 {E : gE} {n : Nat} {sh : Nat → Nat × Nat} {P : Int32 → gS → Prop} {z : gS} (hn : gOK E n) (hf : wX10_isOpenToAll_J16 n sh P z) : V E (gR 1 0) gyX10_isOpenToAll 0 0 16 [] [] n sh z (kI n sh P) := by
  unfold wX10_isOpenToAll_J16 at hf
  refine V_iconst (v := (1 : Int32)) dX10_isOpenToAll_16 (by decide) ?_
  refine V_goto (tgt := 21) dX10_isOpenToAll_17 (by decide) ?_
  exact V_ireturn dX10_isOpenToAll_21 rfl (by decide) (Nat.le_refl 0) (kI_of hf)
def wX10_isOpenToAll (n : Nat) (sh : Nat → Nat × Nat) (a0 : Nat) (x1 : Int32) (z : gS) (P : Int32 → gS → Prop) : Prop := (oO n sh a0 6) ∧ (wX10_isBroken n sh a0 x1 z (fun (r1 : Int32) (z2 : gS) => if r1 = 0 then (wX10_isDrawn n sh a0 x1 z2 (fun (r4 : Int32) (z5 : gS) => if r4 = 0 then wX10_isOpenToAll_J16 n sh P  z5 else P (0 : Int32) z5)) else wX10_isOpenToAll_J16 n sh P  z2))
set_option maxRecDepth 100000 in
set_option maxHeartbeats 4000000 in
theorem ctX10_isOpenToAll {E : gE} {n : Nat} {sh : Nat → Nat × Nat} {a0 : Nat} {x1 : Int32} {z : gS} {P : Int32 → gS → Prop} (hn : gOK E n) (hf : wX10_isOpenToAll n sh a0 x1 z P) : VM E 1 0 gyX10_isOpenToAll [.ref a0, .int x1] n sh z (kI n sh P) := by
  unfold wX10_isOpenToAll at hf
  refine VM.of (by decide +kernel) (Nat.le_of_ble_eq_true rfl) (fun _ _ _ h => h.2.2) ?_
  show V E (gR 1 0) gyX10_isOpenToAll 0 0 0 [(0, .ref a0), (1, .int x1)] [] n sh z (kI n sh P)
  refine V_aload_n (j := 0) dX10_isOpenToAll_0 rfl rfl ?_
  refine V_iload_n (j := 1) dX10_isOpenToAll_1 rfl rfl ?_
  obtain ⟨h3, hf⟩ := hf
  refine V_cVI (ctX10_isBroken hn hf) gc_X10_48 rfl h3.1 ⟨_, h3.2, by decide, rfl⟩ ⟨by decide, by decide, Nat.zero_le _, Nat.zero_le _⟩ (Nat.le_of_ble_eq_true rfl) dX10_isOpenToAll_2 rfl hn (fun r1 z2 hf => ?_)
  refine V_if_ne (tgt := 16) dX10_isOpenToAll_5 (by decide) (fun h7 => ?_) (fun h7 => ?_)
  · have hf := it_f h7 hf
    refine V_to [] rfl ?_
    exact vX10_isOpenToAll_J16 hn hf
  · have hf := it_t (Classical.not_not.mp h7) hf
    refine V_aload_n (j := 0) dX10_isOpenToAll_8 rfl rfl ?_
    refine V_iload_n (j := 1) dX10_isOpenToAll_9 rfl rfl ?_
    refine V_cVI (ctX10_isDrawn hn hf) gc_X10_52 rfl h3.1 ⟨_, h3.2, by decide, rfl⟩ ⟨by decide, by decide, Nat.zero_le _, Nat.zero_le _⟩ (Nat.le_of_ble_eq_true rfl) dX10_isOpenToAll_10 rfl hn (fun r4 z5 hf => ?_)
    refine V_if_ne (tgt := 20) dX10_isOpenToAll_13 (by decide) (fun h6 => ?_) (fun h6 => ?_)
    · have hf := it_f h6 hf
      refine V_iconst (v := (0 : Int32)) dX10_isOpenToAll_20 (by decide) ?_
      exact V_ireturn dX10_isOpenToAll_21 rfl (by decide) (Nat.le_refl 0) (kI_of hf)
    · have hf := it_t (Classical.not_not.mp h6) hf
      refine V_to [] rfl ?_
      exact vX10_isOpenToAll_J16 hn hf
def wX10_markAt (n : Nat) (sh : Nat → Nat × Nat) (a0 : Nat) (x1 : Int32) (x2 : Int32) (z : gS) (P : Int32 → gS → Prop) : Prop := (oO n sh a0 6) ∧ (∃ t2 : Nat, gr z a0 7 = some t2 ∧ ((oA n sh t2 1) ∧ ((vp_in ((x1 * (6 : Int32)) + x2) (sh t2).2) ∧ P (gi z t2 ((x1 * (6 : Int32)) + x2).toNatClampNeg) z)))
set_option maxRecDepth 100000 in
set_option maxHeartbeats 4000000 in
theorem ctX10_markAt {E : gE} {n : Nat} {sh : Nat → Nat × Nat} {a0 : Nat} {x1 : Int32} {x2 : Int32} {z : gS} {P : Int32 → gS → Prop} (hn : gOK E n) (hf : wX10_markAt n sh a0 x1 x2 z P) : VM E 0 0 gyX10_markAt [.ref a0, .int x1, .int x2] n sh z (kI n sh P) := by
  unfold wX10_markAt at hf
  refine VM.of (by decide +kernel) (Nat.le_of_ble_eq_true rfl) (fun _ _ _ h => h.2.2) ?_
  show V E (gR 0 0) gyX10_markAt 0 0 0 [(0, .ref a0), (1, .int x1), (2, .int x2)] [] n sh z (kI n sh P)
  refine V_aload_n (j := 0) dX10_markAt_0 rfl rfl ?_
  obtain ⟨h1, hf⟩ := hf
  obtain ⟨t2, et2, hf⟩ := hf
  refine V_getR fl_X10_34 rfl h1.1 h1.2 et2 dX10_markAt_1 ?_
  refine V_iload_n (j := 1) dX10_markAt_4 rfl rfl ?_
  refine V_bipush (v := (6 : Int32)) dX10_markAt_5 (by decide) ?_
  refine V_imul dX10_markAt_7 ?_
  refine V_iload_n (j := 2) dX10_markAt_8 rfl rfl ?_
  refine V_iadd dX10_markAt_9 ?_
  obtain ⟨h3, hf⟩ := hf
  obtain ⟨h4, hf⟩ := hf
  refine V_iald h3.1 h3.s h4 dX10_markAt_10 ?_
  exact V_ireturn dX10_markAt_11 rfl rfl (Nat.le_refl 0) (kI_of hf)
def wX10_tellsWho_J18 (n : Nat) (sh : Nat → Nat × Nat) (P : Int32 → gS → Prop) (z : gS) : Prop := P (1 : Int32) z
set_option maxRecDepth 100000 in
set_option maxHeartbeats 4000000 in
theorem vX10_tellsWho_J18 {E : gE} {n : Nat} {sh : Nat → Nat × Nat} {P : Int32 → gS → Prop} {z : gS} (hn : gOK E n) (hf : wX10_tellsWho_J18 n sh P z) : V E (gR 1 0) gyX10_tellsWho 0 0 18 [] [] n sh z (kI n sh P) := by
  unfold wX10_tellsWho_J18 at hf
  refine V_iconst (v := (1 : Int32)) dX10_tellsWho_18 (by decide) ?_
  refine V_goto (tgt := 23) dX10_tellsWho_19 (by decide) ?_
  exact V_ireturn dX10_tellsWho_23 rfl (by decide) (Nat.le_refl 0) (kI_of hf)
def wX10_tellsWho (n : Nat) (sh : Nat → Nat × Nat) (a0 : Nat) (a1 : Nat) (x2 : Int32) (z : gS) (P : Int32 → gS → Prop) : Prop := (oO n sh a0 6) ∧ (wX10_isBroken n sh a0 x2 z (fun (r1 : Int32) (z2 : gS) => if r1 = 0 then ((oO n sh a1 4) ∧ (∃ t5 : Nat, gr z2 a1 1 = some t5 ∧ ((oA n sh t5 1) ∧ ((vp_in x2 (sh t5).2) ∧ (if (gi z2 t5 x2.toNatClampNeg) = (1 : Int32) then P (0 : Int32) z2 else wX10_tellsWho_J18 n sh P  z2))))) else wX10_tellsWho_J18 n sh P  z2))
set_option maxRecDepth 100000 in
set_option maxHeartbeats 4000000 in
theorem ctX10_tellsWho {E : gE} {n : Nat} {sh : Nat → Nat × Nat} {a0 : Nat} {a1 : Nat} {x2 : Int32} {z : gS} {P : Int32 → gS → Prop} (hn : gOK E n) (hf : wX10_tellsWho n sh a0 a1 x2 z P) : VM E 1 0 gyX10_tellsWho [.ref a0, .ref a1, .int x2] n sh z (kI n sh P) := by
  unfold wX10_tellsWho at hf
  refine VM.of (by decide +kernel) (Nat.le_of_ble_eq_true rfl) (fun _ _ _ h => h.2.2) ?_
  show V E (gR 1 0) gyX10_tellsWho 0 0 0 [(0, .ref a0), (1, .ref a1), (2, .int x2)] [] n sh z (kI n sh P)
  refine V_aload_n (j := 0) dX10_tellsWho_0 rfl rfl ?_
  refine V_iload_n (j := 2) dX10_tellsWho_1 rfl rfl ?_
  obtain ⟨h3, hf⟩ := hf
  refine V_cVI (ctX10_isBroken hn hf) gc_X10_48 rfl h3.1 ⟨_, h3.2, by decide, rfl⟩ ⟨by decide, by decide, Nat.zero_le _, Nat.zero_le _⟩ (Nat.le_of_ble_eq_true rfl) dX10_tellsWho_2 rfl hn (fun r1 z2 hf => ?_)
  refine V_if_ne (tgt := 18) dX10_tellsWho_5 (by decide) (fun h9 => ?_) (fun h9 => ?_)
  · have hf := it_f h9 hf
    refine V_to [] rfl ?_
    exact vX10_tellsWho_J18 hn hf
  · have hf := it_t (Classical.not_not.mp h9) hf
    refine V_aload_n (j := 1) dX10_tellsWho_8 rfl rfl ?_
    obtain ⟨h4, hf⟩ := hf
    obtain ⟨t5, et5, hf⟩ := hf
    refine V_getR fl_X10_55 rfl h4.1 h4.2 et5 dX10_tellsWho_9 ?_
    refine V_iload_n (j := 2) dX10_tellsWho_12 rfl rfl ?_
    obtain ⟨h6, hf⟩ := hf
    obtain ⟨h7, hf⟩ := hf
    refine V_iald h6.1 h6.s h7 dX10_tellsWho_13 ?_
    refine V_iconst (v := (1 : Int32)) dX10_tellsWho_14 (by decide) ?_
    refine V_icmp_eq (tgt := 22) dX10_tellsWho_15 (by decide) (fun h8 => ?_) (fun h8 => ?_)
    · have hf := it_t h8 hf
      refine V_iconst (v := (0 : Int32)) dX10_tellsWho_22 (by decide) ?_
      exact V_ireturn dX10_tellsWho_23 rfl (by decide) (Nat.le_refl 0) (kI_of hf)
    · have hf := it_f h8 hf
      refine V_to [] rfl ?_
      exact vX10_tellsWho_J18 hn hf
def wX10_whoOf (n : Nat) (sh : Nat → Nat × Nat) (x0 : Int32) (z : gS) (P : Int32 → gS → Prop) : Prop := P ((x0 >>> ((7 : Int32) &&& 31)) &&& (7 : Int32)) z
set_option maxRecDepth 100000 in
set_option maxHeartbeats 4000000 in
theorem ctX10_whoOf {E : gE} {n : Nat} {sh : Nat → Nat × Nat} {x0 : Int32} {z : gS} {P : Int32 → gS → Prop} (hn : gOK E n) (hf : wX10_whoOf n sh x0 z P) : VM E 0 0 gyX10_whoOf [.int x0] n sh z (kI n sh P) := by
  unfold wX10_whoOf at hf
  refine VM.of (by decide +kernel) (Nat.le_of_ble_eq_true rfl) (fun _ _ _ h => h.2.2) ?_
  show V E (gR 0 0) gyX10_whoOf 0 0 0 [(0, .int x0)] [] n sh z (kI n sh P)
  refine V_iload_n (j := 0) dX10_whoOf_0 rfl rfl ?_
  refine V_bipush (v := (7 : Int32)) dX10_whoOf_1 (by decide) ?_
  refine V_ishr dX10_whoOf_3 ?_
  refine V_bipush (v := (7 : Int32)) dX10_whoOf_4 (by decide) ?_
  refine V_iand dX10_whoOf_6 ?_
  exact V_ireturn dX10_whoOf_7 rfl rfl (Nat.le_refl 0) (kI_of hf)
def wX10_deedOf (n : Nat) (sh : Nat → Nat × Nat) (x0 : Int32) (z : gS) (P : Int32 → gS → Prop) : Prop := P ((x0 >>> ((4 : Int32) &&& 31)) &&& (7 : Int32)) z
set_option maxRecDepth 100000 in
set_option maxHeartbeats 4000000 in
theorem ctX10_deedOf {E : gE} {n : Nat} {sh : Nat → Nat × Nat} {x0 : Int32} {z : gS} {P : Int32 → gS → Prop} (hn : gOK E n) (hf : wX10_deedOf n sh x0 z P) : VM E 0 0 gyX10_deedOf [.int x0] n sh z (kI n sh P) := by
  unfold wX10_deedOf at hf
  refine VM.of (by decide +kernel) (Nat.le_of_ble_eq_true rfl) (fun _ _ _ h => h.2.2) ?_
  show V E (gR 0 0) gyX10_deedOf 0 0 0 [(0, .int x0)] [] n sh z (kI n sh P)
  refine V_iload_n (j := 0) dX10_deedOf_0 rfl rfl ?_
  refine V_iconst (v := (4 : Int32)) dX10_deedOf_1 (by decide) ?_
  refine V_ishr dX10_deedOf_2 ?_
  refine V_bipush (v := (7 : Int32)) dX10_deedOf_3 (by decide) ?_
  refine V_iand dX10_deedOf_5 ?_
  exact V_ireturn dX10_deedOf_6 rfl rfl (Nat.le_refl 0) (kI_of hf)
def wX10_cellOf (n : Nat) (sh : Nat → Nat × Nat) (x0 : Int32) (z : gS) (P : Int32 → gS → Prop) : Prop := P (x0 &&& (15 : Int32)) z
set_option maxRecDepth 100000 in
set_option maxHeartbeats 4000000 in
theorem ctX10_cellOf {E : gE} {n : Nat} {sh : Nat → Nat × Nat} {x0 : Int32} {z : gS} {P : Int32 → gS → Prop} (hn : gOK E n) (hf : wX10_cellOf n sh x0 z P) : VM E 0 0 gyX10_cellOf [.int x0] n sh z (kI n sh P) := by
  unfold wX10_cellOf at hf
  refine VM.of (by decide +kernel) (Nat.le_of_ble_eq_true rfl) (fun _ _ _ h => h.2.2) ?_
  show V E (gR 0 0) gyX10_cellOf 0 0 0 [(0, .int x0)] [] n sh z (kI n sh P)
  refine V_iload_n (j := 0) dX10_cellOf_0 rfl rfl ?_
  refine V_bipush (v := (15 : Int32)) dX10_cellOf_1 (by decide) ?_
  refine V_iand dX10_cellOf_3 ?_
  exact V_ireturn dX10_cellOf_4 rfl rfl (Nat.le_refl 0) (kI_of hf)
def wX10_ageOf (n : Nat) (sh : Nat → Nat × Nat) (x0 : Int32) (z : gS) (P : Int32 → gS → Prop) : Prop := P (x0 >>> ((10 : Int32) &&& 31)) z
set_option maxRecDepth 100000 in
set_option maxHeartbeats 4000000 in
theorem ctX10_ageOf {E : gE} {n : Nat} {sh : Nat → Nat × Nat} {x0 : Int32} {z : gS} {P : Int32 → gS → Prop} (hn : gOK E n) (hf : wX10_ageOf n sh x0 z P) : VM E 0 0 gyX10_ageOf [.int x0] n sh z (kI n sh P) := by
  unfold wX10_ageOf at hf
  refine VM.of (by decide +kernel) (Nat.le_of_ble_eq_true rfl) (fun _ _ _ h => h.2.2) ?_
  show V E (gR 0 0) gyX10_ageOf 0 0 0 [(0, .int x0)] [] n sh z (kI n sh P)
  refine V_iload_n (j := 0) dX10_ageOf_0 rfl rfl ?_
  refine V_bipush (v := (10 : Int32)) dX10_ageOf_1 (by decide) ?_
  refine V_ishr dX10_ageOf_3 ?_
  exact V_ireturn dX10_ageOf_4 rfl rfl (Nat.le_refl 0) (kI_of hf)
