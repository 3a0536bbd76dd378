def wX9_append_J70 (n : Nat) (sh : Nat → Nat × Nat) (k3 : Nat → Int64 → Int32 → gS → Prop) (P : gS → Prop) (a0 : Nat) (y1 : Int64) (x3 : Int32) (z : gS) : Prop := ∀ v3 : Int32, v3 = x3 + (-8 : Int32) → k3 a0 y1 v3 z
set_option maxRecDepth 100000 in
set_option maxHeartbeats 4000000 in
theorem vX9_append_J70 {E : gE} {n : Nat} {sh : Nat → Nat × Nat} {P : gS → Prop} {k3 : Nat → Int64 → Int32 → gS → Prop} {a0 : Nat} {y1 : Int64} {x3 : Int32} {z : gS} (hn : n ≤ 1000000) (hk3 : ∀ (a0 : Nat) (y1 : Int64) (x3 : Int32) (z : gS), k3 a0 y1 x3 z → V E (gR 0 0) gyX9_append 0 0 3 [(0, .ref a0), (1, .long y1), (3, .int x3)] [] n sh z (kN n sh P)) (hf : wX9_append_J70 n sh k3 P a0 y1 x3 z) : V E (gR 0 0) gyX9_append 0 0 70 [(0, .ref a0), (1, .long y1), (3, .int x3)] [] n sh z (kN n sh P) := by
  unfold wX9_append_J70 at hf
  obtain ⟨v3, ev3⟩ : ∃ y : Int32, y = x3 + (-8 : Int32) := ⟨_, rfl⟩
  refine V_iinc (j := 2) (v := v3) (ls2 := [(3, .int v3), (0, .ref a0), (1, .long y1)]) dX9_append_70 rfl (by rw [ev3]; rfl) (by decide) rfl ?_
  have hf := hf v3 ev3
  refine V_goto (tgt := 3) dX9_append_73 (by decide) ?_
  refine V_to [1, 2, 0] rfl ?_
  exact hk3 _ _ _ _ hf
def wX9_append_J48 (n : Nat) (sh : Nat → Nat × Nat) (k3 : Nat → Int64 → Int32 → gS → Prop) (P : gS → Prop) (a0 : Nat) (y1 : Int64) (x3 : Int32) (x4 : Int32) (z : gS) : Prop := (oO n sh a0 5) ∧ (∃ t5 : Nat, gr z a0 0 = some t5 ∧ ((oA n sh t5 3) ∧ ((vp_in (gi z a0 1) (sh t5).2) ∧ (∀ z8 : gS, z8 = si z t5 (gi z a0 1).toNatClampNeg (vp_nar .char ((x4.toUInt32 % 65536).toInt32)) → (∀ z9 : gS, z9 = si z8 a0 1 ((gi z8 a0 1) + (1 : Int32)) → wX9_append_J70 n sh k3 P a0 y1 x3 z9)))))
set_option maxRecDepth 100000 in
set_option maxHeartbeats 4000000 in
theorem vX9_append_J48 {E : gE} {n : Nat} {sh : Nat → Nat × Nat} {P : gS → Prop} {k3 : Nat → Int64 → Int32 → gS → Prop} {a0 : Nat} {y1 : Int64} {x3 : Int32} {x4 : Int32} {z : gS} (hn : n ≤ 1000000) (hk3 : ∀ (a0 : Nat) (y1 : Int64) (x3 : Int32) (z : gS), k3 a0 y1 x3 z → V E (gR 0 0) gyX9_append 0 0 3 [(0, .ref a0), (1, .long y1), (3, .int x3)] [] n sh z (kN n sh P)) (hf : wX9_append_J48 n sh k3 P a0 y1 x3 x4 z) : V E (gR 0 0) gyX9_append 0 0 48 [(0, .ref a0), (1, .long y1), (3, .int x3), (4, .int x4)] [] n sh z (kN n sh P) := by
  unfold wX9_append_J48 at hf
  refine V_aload_n (j := 0) dX9_append_48 rfl rfl ?_
  obtain ⟨h4, hf⟩ := hf
  obtain ⟨t5, et5, hf⟩ := hf
  refine V_getR fl_X9_11 rfl h4.1 h4.2 et5 dX9_append_49 ?_
  refine V_aload_n (j := 0) dX9_append_52 rfl rfl ?_
  refine V_getI fl_X9_15 rfl h4.1 h4.2 dX9_append_53 ?_
  refine V_iload (j := 3) dX9_append_56 rfl ?_
  refine V_i2c dX9_append_58 ?_
  obtain ⟨h6, hf⟩ := hf
  obtain ⟨h7, hf⟩ := hf
  refine V_cast h6.1 h6.s h7 dX9_append_59 ?_
  refine V_nz (fun z8 ez8 => ?_)
  have hf := hf z8 ez8
  refine V_aload_n (j := 0) dX9_append_60 rfl rfl ?_
  refine V_dup dX9_append_61 rfl ?_
  refine V_getI fl_X9_15 rfl h4.1 h4.2 dX9_append_62 ?_
  refine V_iconst (v := (1 : Int32)) dX9_append_65 (by decide) ?_
  refine V_iadd dX9_append_66 ?_
  refine V_putI fl_X9_15 rfl rfl rfl rfl h4.1 h4.2 dX9_append_67 ?_
  refine V_nz (fun z9 ez9 => ?_)
  have hf := hf z9 ez9
  refine V_to [0, 1, 2] rfl ?_
  exact vX9_append_J70 hn hk3 hf
def wX9_append_B3 (n : Nat) (sh : Nat → Nat × Nat) (k3 : Nat → Int64 → Int32 → gS → Prop) (P : gS → Prop) (a0 : Nat) (y1 : Int64) (x3 : Int32) (z : gS) : Prop := if x3 < 0 then P z else (∀ v1 : Int32, v1 = (((y1.toUInt64 >>> (x3.toInt64.toUInt64 &&& Int64.toUInt64 63)).toInt64).toInt32 &&& (255 : Int32)) → ((oO n sh a0 5) ∧ (if (1000 : Int32) ≤ (gi z a0 1) then wX9_append_J70 n sh k3 P a0 y1 x3 z else (if v1 = (10 : Int32) then wX9_append_J48 n sh k3 P a0 y1 x3 v1 z else (if v1 < (32 : Int32) then wX9_append_J70 n sh k3 P a0 y1 x3 z else (if (126 : Int32) < v1 then wX9_append_J70 n sh k3 P a0 y1 x3 z else wX9_append_J48 n sh k3 P a0 y1 x3 v1 z))))))
def wX9_append_L3 (n : Nat) (sh : Nat → Nat × Nat) (P : gS → Prop) : Nat → Nat → Int64 → Int32 → gS → Prop
  | 0, _, _, _, _ => False
  | N + 1, a0, y1, x3, z => wX9_append_B3 n sh (wX9_append_L3 n sh P N) P a0 y1 x3 z
set_option maxRecDepth 100000 in
set_option maxHeartbeats 4000000 in
theorem vX9_append_B3 {E : gE} {n : Nat} {sh : Nat → Nat × Nat} {P : gS → Prop} {k3 : Nat → Int64 → Int32 → gS → Prop} {a0 : Nat} {y1 : Int64} {x3 : Int32} {z : gS} (hn : n ≤ 1000000) (hk3 : ∀ (a0 : Nat) (y1 : Int64) (x3 : Int32) (z : gS), k3 a0 y1 x3 z → V E (gR 0 0) gyX9_append 0 0 3 [(0, .ref a0), (1, .long y1), (3, .int x3)] [] n sh z (kN n sh P)) (hf : wX9_append_B3 n sh k3 P a0 y1 x3 z) : V E (gR 0 0) gyX9_append 0 0 3 [(0, .ref a0), (1, .long y1), (3, .int x3)] [] n sh z (kN n sh P) := by
  unfold wX9_append_B3 at hf
  refine V_iload_n (j := 2) dX9_append_3 rfl rfl ?_
  refine V_if_lt (tgt := 76) dX9_append_4 (by decide) (fun h14 => ?_) (fun h14 => ?_)
  · have hf := it_t h14 hf
    exact V_return dX9_append_76 rfl (Nat.le_refl 0) (kN_of hf)
  · have hf := it_f h14 hf
    refine V_lload_n (j := 1) dX9_append_7 rfl rfl ?_
    refine V_iload_n (j := 2) dX9_append_8 rfl rfl ?_
    refine V_lushr dX9_append_9 ?_
    refine V_l2i dX9_append_10 ?_
    refine V_sipush (v := (255 : Int32)) dX9_append_11 (by decide) ?_
    refine V_iand dX9_append_14 ?_
    refine V_nI (fun v1 ev1 => ?_)
    have hf := hf v1 ev1
    refine V_istore (ls2 := [(4, .int v1), (0, .ref a0), (1, .long y1), (3, .int x3)]) dX9_append_15 (by decide) rfl ?_
    refine V_aload_n (j := 1) dX9_append_17 rfl rfl ?_
    obtain ⟨h2, hf⟩ := hf
    refine V_getI fl_X9_15 rfl h2.1 h2.2 dX9_append_18 ?_
    refine V_sipush (v := (1000 : Int32)) dX9_append_21 (by decide) ?_
    refine V_icmp_ge (tgt := 70) dX9_append_24 (by decide) (fun h13 => ?_) (fun h13 => ?_)
    · have hf := it_t h13 hf
      refine V_to [1, 2, 3] rfl ?_
      exact vX9_append_J70 hn hk3 hf
    · have hf := it_f h13 hf
      refine V_iload (j := 0) dX9_append_27 rfl ?_
      refine V_bipush (v := (10 : Int32)) dX9_append_29 (by decide) ?_
      refine V_icmp_eq (tgt := 48) dX9_append_31 (by decide) (fun h12 => ?_) (fun h12 => ?_)
      · have hf := it_t h12 hf
        refine V_to [1, 2, 3, 0] rfl ?_
        exact vX9_append_J48 hn hk3 hf
      · have hf := it_f h12 hf
        refine V_iload (j := 0) dX9_append_34 rfl ?_
        refine V_bipush (v := (32 : Int32)) dX9_append_36 (by decide) ?_
        refine V_icmp_lt (tgt := 70) dX9_append_38 (by decide) (fun h11 => ?_) (fun h11 => ?_)
        · have hf := it_t h11 hf
          refine V_to [1, 2, 3] rfl ?_
          exact vX9_append_J70 hn hk3 hf
        · have hf := it_f h11 hf
          refine V_iload (j := 0) dX9_append_41 rfl ?_
          refine V_bipush (v := (126 : Int32)) dX9_append_43 (by decide) ?_
          refine V_icmp_gt (tgt := 70) dX9_append_45 (by decide) (fun h10 => ?_) (fun h10 => ?_)
          · have hf := it_t h10 hf
            refine V_to [1, 2, 3] rfl ?_
            exact vX9_append_J70 hn hk3 hf
          · have hf := it_f h10 hf
            refine V_to [1, 2, 3, 0] rfl ?_
            exact vX9_append_J48 hn hk3 hf
set_option maxRecDepth 100000 in
set_option maxHeartbeats 4000000 in
theorem vX9_append_L3 {E : gE} {n : Nat} {sh : Nat → Nat × Nat} {P : gS → Prop} (hn : n ≤ 1000000) : ∀ (N : Nat) (a0 : Nat) (y1 : Int64) (x3 : Int32) (z : gS), wX9_append_L3 n sh P N a0 y1 x3 z → V E (gR 0 0) gyX9_append 0 0 3 [(0, .ref a0), (1, .long y1), (3, .int x3)] [] n sh z (kN n sh P) := by
  intro N
  induction N with
  | zero => intro a0 y1 x3 z hf; exact False.elim hf
  | succ N ih => intro a0 y1 x3 z hf; exact vX9_append_B3 hn ih hf
def wX9_append (n : Nat) (sh : Nat → Nat × Nat) (a0 : Nat) (y1 : Int64) (z : gS) (P : gS → Prop) : Prop := (∃ N, wX9_append_L3 n sh P N a0 y1 (56 : Int32) z)
set_option maxRecDepth 100000 in
set_option maxHeartbeats 4000000 in
theorem ctX9_append {E : gE} {n : Nat} {sh : Nat → Nat × Nat} {a0 : Nat} {y1 : Int64} {z : gS} {P : gS → Prop} (hn : n ≤ 1000000) (hf : wX9_append n sh a0 y1 z P) : VM E 0 0 gyX9_append [.ref a0, .long y1] n sh z (kN n sh P) := by
  unfold wX9_append at hf
  refine VM.of (by decide +kernel) (Nat.le_of_ble_eq_true rfl) ?_
  show V E (gR 0 0) gyX9_append 0 0 0 [(0, .ref a0), (1, .long y1)] [] n sh z (kN n sh P)
  refine V_bipush (v := (56 : Int32)) dX9_append_0 (by decide) ?_
  refine V_istore_n (ls2 := [(3, .int (56 : Int32)), (0, .ref a0), (1, .long y1)]) dX9_append_2 rfl (by decide) rfl ?_
  obtain ⟨N, hf⟩ := hf
  refine V_to [1, 2, 0] rfl ?_
  exact vX9_append_L3 hn N _ _ _ _ hf
def wX11_feed (n : Nat) (sh : Nat → Nat × Nat) (a0 : Nat) (y1 : Int64) (y3 : Int64) (y5 : Int64) (z : gS) (P : Int32 → gS → Prop) : Prop := (oO n sh a0 7) ∧ (∃ t2 : Nat, gr z a0 0 = some t2 ∧ ((oO n sh t2 5) ∧ (wX9_append n sh t2 y1 z (fun (z4 : gS) => ∃ t6 : Nat, gr z4 a0 0 = some t6 ∧ ((oO n sh t6 5) ∧ (wX9_append n sh t6 y3 z4 (fun (z8 : gS) => ∃ t10 : Nat, gr z8 a0 0 = some t10 ∧ ((oO n sh t10 5) ∧ (wX9_append n sh t10 y5 z8 (fun (z12 : gS) => ∃ t14 : Nat, gr z12 a0 0 = some t14 ∧ ((oO n sh t14 5) ∧ P (gi z12 t14 1) z12)))))))))))
set_option maxRecDepth 100000 in
set_option maxHeartbeats 4000000 in
theorem ctX11_feed {E : gE} {n : Nat} {sh : Nat → Nat × Nat} {a0 : Nat} {y1 : Int64} {y3 : Int64} {y5 : Int64} {z : gS} {P : Int32 → gS → Prop} (hn : n ≤ 1000000) (hf : wX11_feed n sh a0 y1 y3 y5 z P) : VM E 1 0 gyX11_feed [.ref a0, .long y1, .long y3, .long y5] n sh z (kI n sh P) := by
  unfold wX11_feed at hf
  refine VM.of (by decide +kernel) (Nat.le_of_ble_eq_true rfl) ?_
  show V E (gR 1 0) gyX11_feed 0 0 0 [(0, .ref a0), (1, .long y1), (3, .long y3), (5, .long y5)] [] n sh z (kI n sh P)
  refine V_aload_n (j := 0) dX11_feed_0 rfl rfl ?_
  obtain ⟨h1, hf⟩ := hf
  obtain ⟨t2, et2, hf⟩ := hf
  refine V_getR fl_X11_10 rfl h1.1 h1.2 et2 dX11_feed_1 ?_
  refine V_lload_n (j := 1) dX11_feed_4 rfl rfl ?_
  obtain ⟨h5, hf⟩ := hf
  refine V_cVN (ctX9_append hn hf) gc_X11_68 rfl h5.1 ⟨_, h5.2, by decide, rfl⟩ ⟨by decide, by decide, Nat.zero_le _, Nat.zero_le _⟩ (Nat.le_of_ble_eq_true rfl) dX11_feed_5 rfl hn (fun z4 hf => ?_)
  refine V_aload_n (j := 0) dX11_feed_8 rfl rfl ?_
  obtain ⟨t6, et6, hf⟩ := hf
  refine V_getR fl_X11_10 rfl h1.1 h1.2 et6 dX11_feed_9 ?_
  refine V_lload_n (j := 2) dX11_feed_12 rfl rfl ?_
  obtain ⟨h9, hf⟩ := hf
  refine V_cVN (ctX9_append hn hf) gc_X11_68 rfl h9.1 ⟨_, h9.2, by decide, rfl⟩ ⟨by decide, by decide, Nat.zero_le _, Nat.zero_le _⟩ (Nat.le_of_ble_eq_true rfl) dX11_feed_13 rfl hn (fun z8 hf => ?_)
  refine V_aload_n (j := 0) dX11_feed_16 rfl rfl ?_
  obtain ⟨t10, et10, hf⟩ := hf
  refine V_getR fl_X11_10 rfl h1.1 h1.2 et10 dX11_feed_17 ?_
  refine V_lload (j := 3) dX11_feed_20 rfl ?_
  obtain ⟨h13, hf⟩ := hf
  refine V_cVN (ctX9_append hn hf) gc_X11_68 rfl h13.1 ⟨_, h13.2, by decide, rfl⟩ ⟨by decide, by decide, Nat.zero_le _, Nat.zero_le _⟩ (Nat.le_of_ble_eq_true rfl) dX11_feed_22 rfl hn (fun z12 hf => ?_)
  refine V_aload_n (j := 0) dX11_feed_25 rfl rfl ?_
  obtain ⟨t14, et14, hf⟩ := hf
  refine V_getR fl_X11_10 rfl h1.1 h1.2 et14 dX11_feed_26 ?_
  obtain ⟨h15, hf⟩ := hf
  refine V_getI fl_X11_72 rfl h15.1 h15.2 dX11_feed_29 ?_
  exact V_ireturn dX11_feed_32 rfl rfl (Nat.le_refl 0) (kI_of hf)
def wX5_clear (n : Nat) (sh : Nat → Nat × Nat) (a0 : Nat) (z : gS) (P : gS → Prop) : Prop := (oO n sh a0 3) ∧ (∀ z2 : gS, z2 = si z a0 2 (0 : Int32) → P z2)
set_option maxRecDepth 100000 in
set_option maxHeartbeats 4000000 in
theorem ctX5_clear {E : gE} {n : Nat} {sh : Nat → Nat × Nat} {a0 : Nat} {z : gS} {P : gS → Prop} (hn : n ≤ 1000000) (hf : wX5_clear n sh a0 z P) : VM E 0 0 gyX5_clear [.ref a0] n sh z (kN n sh P) := by
  unfold wX5_clear at hf
  refine VM.of (by decide +kernel) (Nat.le_of_ble_eq_true rfl) ?_
  show V E (gR 0 0) gyX5_clear 0 0 0 [(0, .ref a0)] [] n sh z (kN n sh P)
  refine V_aload_n (j := 0) dX5_clear_0 rfl rfl ?_
  refine V_iconst (v := (0 : Int32)) dX5_clear_1 (by decide) ?_
  obtain ⟨h1, hf⟩ := hf
  refine V_putI fl_X5_20 rfl rfl rfl rfl h1.1 h1.2 dX5_clear_2 ?_
  refine V_nz (fun z2 ez2 => ?_)
  have hf := hf z2 ez2
  exact V_return dX5_clear_5 rfl (Nat.le_refl 0) (kN_of hf)
def wX7_clear (n : Nat) (sh : Nat → Nat × Nat) (a0 : Nat) (z : gS) (P : gS → Prop) : Prop := (oO n sh a0 4) ∧ (∃ t2 : Nat, gr z a0 0 = some t2 ∧ ((oO n sh t2 3) ∧ (wX5_clear n sh t2 z (fun (z4 : gS) => ∀ z6 : gS, z6 = si z4 a0 10 (0 : Int32) → (∀ z7 : gS, z7 = si z6 a0 11 (0 : Int32) → (∀ z8 : gS, z8 = si z7 a0 12 (0 : Int32) → (∀ z9 : gS, z9 = si z8 a0 13 (0 : Int32) → P z9)))))))
set_option maxRecDepth 100000 in
set_option maxHeartbeats 4000000 in
theorem ctX7_clear {E : gE} {n : Nat} {sh : Nat → Nat × Nat} {a0 : Nat} {z : gS} {P : gS → Prop} (hn : n ≤ 1000000) (hf : wX7_clear n sh a0 z P) : VM E 1 0 gyX7_clear [.ref a0] n sh z (kN n sh P) := by
  unfold wX7_clear at hf
  refine VM.of (by decide +kernel) (Nat.le_of_ble_eq_true rfl) ?_
  show V E (gR 1 0) gyX7_clear 0 0 0 [(0, .ref a0)] [] n sh z (kN n sh P)
  refine V_aload_n (j := 0) dX7_clear_0 rfl rfl ?_
  obtain ⟨h1, hf⟩ := hf
  obtain ⟨t2, et2, hf⟩ := hf
  refine V_getR fl_X7_12 rfl h1.1 h1.2 et2 dX7_clear_1 ?_
  obtain ⟨h5, hf⟩ := hf
  refine V_cVN (ctX5_clear hn hf) gc_X7_60 rfl h5.1 ⟨_, h5.2, by decide, rfl⟩ ⟨by decide, by decide, Nat.zero_le _, Nat.zero_le _⟩ (Nat.le_of_ble_eq_true rfl) dX7_clear_4 rfl hn (fun z4 hf => ?_)
  refine V_aload_n (j := 0) dX7_clear_7 rfl rfl ?_
  refine V_iconst (v := (0 : Int32)) dX7_clear_8 (by decide) ?_
  refine V_putI fl_X7_47 rfl rfl rfl rfl h1.1 h1.2 dX7_clear_9 ?_
  refine V_nz (fun z6 ez6 => ?_)
  have hf := hf z6 ez6
  refine V_aload_n (j := 0) dX7_clear_12 rfl rfl ?_
  refine V_iconst (v := (0 : Int32)) dX7_clear_13 (by decide) ?_
  refine V_putI fl_X7_51 rfl rfl rfl rfl h1.1 h1.2 dX7_clear_14 ?_
  refine V_nz (fun z7 ez7 => ?_)
  have hf := hf z7 ez7
  refine V_aload_n (j := 0) dX7_clear_17 rfl rfl ?_
  refine V_iconst (v := (0 : Int32)) dX7_clear_18 (by decide) ?_
  refine V_putI fl_X7_54 rfl rfl rfl rfl h1.1 h1.2 dX7_clear_19 ?_
  refine V_nz (fun z8 ez8 => ?_)
  have hf := hf z8 ez8
  refine V_aload_n (j := 0) dX7_clear_22 rfl rfl ?_
  refine V_iconst (v := (0 : Int32)) dX7_clear_23 (by decide) ?_
  refine V_putI fl_X7_57 rfl rfl rfl rfl h1.1 h1.2 dX7_clear_24 ?_
  refine V_nz (fun z9 ez9 => ?_)
  have hf := hf z9 ez9
  exact V_return dX7_clear_27 rfl (Nat.le_refl 0) (kN_of hf)
def wX9_scanWord_J93 (n : Nat) (sh : Nat → Nat × Nat) (P : gS → Prop) (s0 : Int32) (s1 : Nat) (z : gS) : Prop := (oO n sh s1 5) ∧ (∀ z8 : gS, z8 = si z s1 2 s0 → P z8)
set_option maxRecDepth 100000 in
set_option maxHeartbeats 4000000 in
theorem vX9_scanWord_J93 {E : gE} {n : Nat} {sh : Nat → Nat × Nat} {P : gS → Prop} {s0 : Int32} {s1 : Nat} {z : gS} (hn : n ≤ 1000000) (hf : wX9_scanWord_J93 n sh P s0 s1 z) : V E (gR 0 0) gyX9_scanWord 0 0 93 [] [.int s0, .ref s1] n sh z (kN n sh P) := by
  unfold wX9_scanWord_J93 at hf
  obtain ⟨h7, hf⟩ := hf
  refine V_putI fl_X9_19 rfl rfl rfl rfl h7.1 h7.2 dX9_scanWord_93 ?_
  refine V_nz (fun z8 ez8 => ?_)
  have hf := hf z8 ez8
  exact V_return dX9_scanWord_96 rfl (Nat.le_refl 0) (kN_of hf)
def wX9_scanWord_J71 (n : Nat) (sh : Nat → Nat × Nat) (P : gS → Prop) (a0 : Nat) (x1 : Int32) (z : gS) : Prop := (oO n sh a0 5) ∧ (∀ z6 : gS, z6 = si z a0 4 x1 → (if (x1 - (gi z6 a0 3)) ≤ (8 : Int32) then wX9_scanWord_J93 n sh P (2 : Int32) a0 z6 else wX9_scanWord_J93 n sh P (1 : Int32) a0 z6))
set_option maxRecDepth 100000 in
set_option maxHeartbeats 4000000 in
theorem vX9_scanWord_J71 {E : gE} {n : Nat} {sh : Nat → Nat × Nat} {P : gS → Prop} {a0 : Nat} {x1 : Int32} {z : gS} (hn : n ≤ 1000000) (hf : wX9_scanWord_J71 n sh P a0 x1 z) : V E (gR 0 0) gyX9_scanWord 0 0 71 [(0, .ref a0), (1, .int x1)] [] n sh z (kN n sh P) := by
  unfold wX9_scanWord_J71 at hf
  refine V_aload_n (j := 0) dX9_scanWord_71 rfl rfl ?_
  refine V_iload_n (j := 1) dX9_scanWord_72 rfl rfl ?_
  obtain ⟨h5, hf⟩ := hf
  refine V_putI fl_X9_25 rfl rfl rfl rfl h5.1 h5.2 dX9_scanWord_73 ?_
  refine V_nz (fun z6 ez6 => ?_)
  have hf := hf z6 ez6
  refine V_aload_n (j := 0) dX9_scanWord_76 rfl rfl ?_
  refine V_iload_n (j := 1) dX9_scanWord_77 rfl rfl ?_
  refine V_aload_n (j := 0) dX9_scanWord_78 rfl rfl ?_
  refine V_getI fl_X9_22 rfl h5.1 h5.2 dX9_scanWord_79 ?_
  refine V_isub dX9_scanWord_82 ?_
  refine V_bipush (v := (8 : Int32)) dX9_scanWord_83 (by decide) ?_
  refine V_icmp_le (tgt := 92) dX9_scanWord_85 (by decide) (fun h9 => ?_) (fun h9 => ?_)
  · have hf := it_t h9 hf
    refine V_iconst (v := (2 : Int32)) dX9_scanWord_92 (by decide) ?_
    refine V_to [] rfl ?_
    exact vX9_scanWord_J93 hn hf
  · have hf := it_f h9 hf
    refine V_iconst (v := (1 : Int32)) dX9_scanWord_88 (by decide) ?_
    refine V_goto (tgt := 93) dX9_scanWord_89 (by decide) ?_
    refine V_to [] rfl ?_
    exact vX9_scanWord_J93 hn hf
def wX9_scanWord_B10 (n : Nat) (sh : Nat → Nat × Nat) (k10 : Nat → Int32 → gS → Prop) (P : gS → Prop) (a0 : Nat) (x1 : Int32) (z : gS) : Prop := (oO n sh a0 5) ∧ (if (gi z a0 1) ≤ x1 then wX9_scanWord_J71 n sh P a0 x1 z else (∃ t10 : Nat, gr z a0 0 = some t10 ∧ ((oA n sh t10 3) ∧ ((vp_in x1 (sh t10).2) ∧ (if (gi z t10 x1.toNatClampNeg) < (97 : Int32) then wX9_scanWord_J71 n sh P a0 x1 z else (∃ t13 : Nat, gr z a0 0 = some t13 ∧ ((oA n sh t13 3) ∧ ((vp_in x1 (sh t13).2) ∧ (if (122 : Int32) < (gi z t13 x1.toNatClampNeg) then wX9_scanWord_J71 n sh P a0 x1 z else (∃ t16 : Nat, gr z a0 0 = some t16 ∧ ((oA n sh t16 3) ∧ ((vp_in x1 (sh t16).2) ∧ (∀ z19 : gS, z19 = sl z a0 6 (((gl z a0 6) * (27 : Int64)) + (((gi z t16 x1.toNatClampNeg) - (97 : Int32)) + (1 : Int32)).toInt64) → (∀ v20 : Int32, v20 = x1 + (1 : Int32) → k10 a0 v20 z19))))))))))))))
def wX9_scanWord_L10 (n : Nat) (sh : Nat → Nat × Nat) (P : gS → Prop) : Nat → Nat → Int32 → gS → Prop
  | 0, _, _, _ => False
  | N + 1, a0, x1, z => wX9_scanWord_B10 n sh (wX9_scanWord_L10 n sh P N) P a0 x1 z
set_option maxRecDepth 100000 in
set_option maxHeartbeats 4000000 in
theorem vX9_scanWord_B10 {E : gE} {n : Nat} {sh : Nat → Nat × Nat} {P : gS → Prop} {k10 : Nat → Int32 → gS → Prop} {a0 : Nat} {x1 : Int32} {z : gS} (hn : n ≤ 1000000) (hk10 : ∀ (a0 : Nat) (x1 : Int32) (z : gS), k10 a0 x1 z → V E (gR 0 0) gyX9_scanWord 0 0 10 [(0, .ref a0), (1, .int x1)] [] n sh z (kN n sh P)) (hf : wX9_scanWord_B10 n sh k10 P a0 x1 z) : V E (gR 0 0) gyX9_scanWord 0 0 10 [(0, .ref a0), (1, .int x1)] [] n sh z (kN n sh P) := by
  unfold wX9_scanWord_B10 at hf
  refine V_iload_n (j := 1) dX9_scanWord_10 rfl rfl ?_
  refine V_aload_n (j := 0) dX9_scanWord_11 rfl rfl ?_
  obtain ⟨h4, hf⟩ := hf
  refine V_getI fl_X9_15 rfl h4.1 h4.2 dX9_scanWord_12 ?_
  refine V_icmp_ge (tgt := 71) dX9_scanWord_15 (by decide) (fun h23 => ?_) (fun h23 => ?_)
  · have hf := it_t h23 hf
    exact vX9_scanWord_J71 hn hf
  · have hf := it_f h23 hf
    refine V_aload_n (j := 0) dX9_scanWord_18 rfl rfl ?_
    obtain ⟨t10, et10, hf⟩ := hf
    refine V_getR fl_X9_11 rfl h4.1 h4.2 et10 dX9_scanWord_19 ?_
    refine V_iload_n (j := 1) dX9_scanWord_22 rfl rfl ?_
    obtain ⟨h11, hf⟩ := hf
    obtain ⟨h12, hf⟩ := hf
    refine V_cald h11.1 h11.s h12 dX9_scanWord_23 ?_
    refine V_bipush (v := (97 : Int32)) dX9_scanWord_24 (by decide) ?_
    refine V_icmp_lt (tgt := 71) dX9_scanWord_26 (by decide) (fun h22 => ?_) (fun h22 => ?_)
    · have hf := it_t h22 hf
      exact vX9_scanWord_J71 hn hf
    · have hf := it_f h22 hf
      refine V_aload_n (j := 0) dX9_scanWord_29 rfl rfl ?_
      obtain ⟨t13, et13, hf⟩ := hf
      refine V_getR fl_X9_11 rfl h4.1 h4.2 et13 dX9_scanWord_30 ?_
      refine V_iload_n (j := 1) dX9_scanWord_33 rfl rfl ?_
      obtain ⟨h14, hf⟩ := hf
      obtain ⟨h15, hf⟩ := hf
      refine V_cald h14.1 h14.s h15 dX9_scanWord_34 ?_
      refine V_bipush (v := (122 : Int32)) dX9_scanWord_35 (by decide) ?_
      refine V_icmp_gt (tgt := 71) dX9_scanWord_37 (by decide) (fun h21 => ?_) (fun h21 => ?_)
      · have hf := it_t h21 hf
        exact vX9_scanWord_J71 hn hf
      · have hf := it_f h21 hf
        refine V_aload_n (j := 0) dX9_scanWord_40 rfl rfl ?_
        refine V_aload_n (j := 0) dX9_scanWord_41 rfl rfl ?_
        refine V_getL fl_X9_31 rfl h4.1 h4.2 dX9_scanWord_42 ?_
        refine V_ldc2 dX9_scanWord_45 rfl kj_X9_64 ?_
        refine V_lmul dX9_scanWord_48 ?_
        refine V_aload_n (j := 0) dX9_scanWord_49 rfl rfl ?_
        obtain ⟨t16, et16, hf⟩ := hf
        refine V_getR fl_X9_11 rfl h4.1 h4.2 et16 dX9_scanWord_50 ?_
        refine V_iload_n (j := 1) dX9_scanWord_53 rfl rfl ?_
        obtain ⟨h17, hf⟩ := hf
        obtain ⟨h18, hf⟩ := hf
        refine V_cald h17.1 h17.s h18 dX9_scanWord_54 ?_
        refine V_bipush (v := (97 : Int32)) dX9_scanWord_55 (by decide) ?_
        refine V_isub dX9_scanWord_57 ?_
        refine V_iconst (v := (1 : Int32)) dX9_scanWord_58 (by decide) ?_
        refine V_iadd dX9_scanWord_59 ?_
        refine V_i2l dX9_scanWord_60 ?_
        refine V_ladd dX9_scanWord_61 ?_
        refine V_putL fl_X9_31 rfl rfl rfl rfl h4.1 h4.2 dX9_scanWord_62 ?_
        refine V_nz (fun z19 ez19 => ?_)
        have hf := hf z19 ez19
        obtain ⟨v20, ev20⟩ : ∃ y : Int32, y = x1 + (1 : Int32) := ⟨_, rfl⟩
        refine V_iinc (j := 1) (v := v20) (ls2 := [(1, .int v20), (0, .ref a0)]) dX9_scanWord_65 rfl (by rw [ev20]; rfl) (by decide) rfl ?_
        have hf := hf v20 ev20
        refine V_goto (tgt := 10) dX9_scanWord_68 (by decide) ?_
        refine V_to [1, 0] rfl ?_
        exact hk10 _ _ _ hf
set_option maxRecDepth 100000 in
set_option maxHeartbeats 4000000 in
theorem vX9_scanWord_L10 {E : gE} {n : Nat} {sh : Nat → Nat × Nat} {P : gS → Prop} (hn : n ≤ 1000000) : ∀ (N : Nat) (a0 : Nat) (x1 : Int32) (z : gS), wX9_scanWord_L10 n sh P N a0 x1 z → V E (gR 0 0) gyX9_scanWord 0 0 10 [(0, .ref a0), (1, .int x1)] [] n sh z (kN n sh P) := by
  intro N
  induction N with
  | zero => intro a0 x1 z hf; exact False.elim hf
  | succ N ih => intro a0 x1 z hf; exact vX9_scanWord_B10 hn ih hf
def wX9_scanWord (n : Nat) (sh : Nat → Nat × Nat) (a0 : Nat) (z : gS) (P : gS → Prop) : Prop := (oO n sh a0 5) ∧ (∀ v2 : Int32, v2 = (gi z a0 3) → (∀ z3 : gS, z3 = sl z a0 6 (0 : Int64) → ((∃ N, wX9_scanWord_L10 n sh P N a0 v2 z3))))
set_option maxRecDepth 100000 in
set_option maxHeartbeats 4000000 in
theorem ctX9_scanWord {E : gE} {n : Nat} {sh : Nat → Nat × Nat} {a0 : Nat} {z : gS} {P : gS → Prop} (hn : n ≤ 1000000) (hf : wX9_scanWord n sh a0 z P) : VM E 0 0 gyX9_scanWord [.ref a0] n sh z (kN n sh P) := by
  unfold wX9_scanWord at hf
  refine VM.of (by decide +kernel) (Nat.le_of_ble_eq_true rfl) ?_
  show V E (gR 0 0) gyX9_scanWord 0 0 0 [(0, .ref a0)] [] n sh z (kN n sh P)
  refine V_aload_n (j := 0) dX9_scanWord_0 rfl rfl ?_
  obtain ⟨h1, hf⟩ := hf
  refine V_getI fl_X9_22 rfl h1.1 h1.2 dX9_scanWord_1 ?_
  refine V_nI (fun v2 ev2 => ?_)
  have hf := hf v2 ev2
  refine V_istore_n (ls2 := [(1, .int v2), (0, .ref a0)]) dX9_scanWord_4 rfl (by decide) rfl ?_
  refine V_aload_n (j := 1) dX9_scanWord_5 rfl rfl ?_
  refine V_lconst (v := (0 : Int64)) dX9_scanWord_6 (by decide) ?_
  refine V_putL fl_X9_31 rfl rfl rfl rfl h1.1 h1.2 dX9_scanWord_7 ?_
  refine V_nz (fun z3 ez3 => ?_)
  have hf := hf z3 ez3
  obtain ⟨N, hf⟩ := hf
  refine V_to [1, 0] rfl ?_
  exact vX9_scanWord_L10 hn N _ _ _ hf
def wX9_scanNumber_J88 (n : Nat) (sh : Nat → Nat × Nat) (P : gS → Prop) (s0 : Int32) (s1 : Nat) (z : gS) : Prop := (oO n sh s1 5) ∧ (∀ z8 : gS, z8 = si z s1 2 s0 → P z8)
set_option maxRecDepth 100000 in
set_option maxHeartbeats 4000000 in
theorem vX9_scanNumber_J88 {E : gE} {n : Nat} {sh : Nat → Nat × Nat} {P : gS → Prop} {s0 : Int32} {s1 : Nat} {z : gS} (hn : n ≤ 1000000) (hf : wX9_scanNumber_J88 n sh P s0 s1 z) : V E (gR 0 0) gyX9_scanNumber 0 0 88 [] [.int s0, .ref s1] n sh z (kN n sh P) := by
  unfold wX9_scanNumber_J88 at hf
  obtain ⟨h7, hf⟩ := hf
  refine V_putI fl_X9_19 rfl rfl rfl rfl h7.1 h7.2 dX9_scanNumber_88 ?_
  refine V_nz (fun z8 ez8 => ?_)
  have hf := hf z8 ez8
  exact V_return dX9_scanNumber_91 rfl (Nat.le_refl 0) (kN_of hf)
def wX9_scanNumber_J67 (n : Nat) (sh : Nat → Nat × Nat) (P : gS → Prop) (a0 : Nat) (x1 : Int32) (z : gS) : Prop := (oO n sh a0 5) ∧ (∀ z6 : gS, z6 = si z a0 4 x1 → (if (x1 - (gi z6 a0 3)) ≤ (4 : Int32) then wX9_scanNumber_J88 n sh P (3 : Int32) a0 z6 else wX9_scanNumber_J88 n sh P (1 : Int32) a0 z6))
set_option maxRecDepth 100000 in
set_option maxHeartbeats 4000000 in
theorem vX9_scanNumber_J67 {E : gE} {n : Nat} {sh : Nat → Nat × Nat} {P : gS → Prop} {a0 : Nat} {x1 : Int32} {z : gS} (hn : n ≤ 1000000) (hf : wX9_scanNumber_J67 n sh P a0 x1 z) : V E (gR 0 0) gyX9_scanNumber 0 0 67 [(0, .ref a0), (1, .int x1)] [] n sh z (kN n sh P) := by
  unfold wX9_scanNumber_J67 at hf
  refine V_aload_n (j := 0) dX9_scanNumber_67 rfl rfl ?_
  refine V_iload_n (j := 1) dX9_scanNumber_68 rfl rfl ?_
  obtain ⟨h5, hf⟩ := hf
  refine V_putI fl_X9_25 rfl rfl rfl rfl h5.1 h5.2 dX9_scanNumber_69 ?_
  refine V_nz (fun z6 ez6 => ?_)
  have hf := hf z6 ez6
  refine V_aload_n (j := 0) dX9_scanNumber_72 rfl rfl ?_
  refine V_iload_n (j := 1) dX9_scanNumber_73 rfl rfl ?_
  refine V_aload_n (j := 0) dX9_scanNumber_74 rfl rfl ?_
  refine V_getI fl_X9_22 rfl h5.1 h5.2 dX9_scanNumber_75 ?_
  refine V_isub dX9_scanNumber_78 ?_
  refine V_iconst (v := (4 : Int32)) dX9_scanNumber_79 (by decide) ?_
  refine V_icmp_le (tgt := 87) dX9_scanNumber_80 (by decide) (fun h9 => ?_) (fun h9 => ?_)
  · have hf := it_t h9 hf
    refine V_iconst (v := (3 : Int32)) dX9_scanNumber_87 (by decide) ?_
    refine V_to [] rfl ?_
    exact vX9_scanNumber_J88 hn hf
  · have hf := it_f h9 hf
    refine V_iconst (v := (1 : Int32)) dX9_scanNumber_83 (by decide) ?_
    refine V_goto (tgt := 88) dX9_scanNumber_84 (by decide) ?_
    refine V_to [] rfl ?_
    exact vX9_scanNumber_J88 hn hf
def wX9_scanNumber_B10 (n : Nat) (sh : Nat → Nat × Nat) (k10 : Nat → Int32 → gS → Prop) (P : gS → Prop) (a0 : Nat) (x1 : Int32) (z : gS) : Prop := (oO n sh a0 5) ∧ (if (gi z a0 1) ≤ x1 then wX9_scanNumber_J67 n sh P a0 x1 z else (∃ t10 : Nat, gr z a0 0 = some t10 ∧ ((oA n sh t10 3) ∧ ((vp_in x1 (sh t10).2) ∧ (if (gi z t10 x1.toNatClampNeg) < (48 : Int32) then wX9_scanNumber_J67 n sh P a0 x1 z else (∃ t13 : Nat, gr z a0 0 = some t13 ∧ ((oA n sh t13 3) ∧ ((vp_in x1 (sh t13).2) ∧ (if (57 : Int32) < (gi z t13 x1.toNatClampNeg) then wX9_scanNumber_J67 n sh P a0 x1 z else (∃ t16 : Nat, gr z a0 0 = some t16 ∧ ((oA n sh t16 3) ∧ ((vp_in x1 (sh t16).2) ∧ (∀ z19 : gS, z19 = si z a0 5 (((gi z a0 5) * (10 : Int32)) + ((gi z t16 x1.toNatClampNeg) - (48 : Int32))) → (∀ v20 : Int32, v20 = x1 + (1 : Int32) → k10 a0 v20 z19))))))))))))))
def wX9_scanNumber_L10 (n : Nat) (sh : Nat → Nat × Nat) (P : gS → Prop) : Nat → Nat → Int32 → gS → Prop
  | 0, _, _, _ => False
  | N + 1, a0, x1, z => wX9_scanNumber_B10 n sh (wX9_scanNumber_L10 n sh P N) P a0 x1 z
set_option maxRecDepth 100000 in
set_option maxHeartbeats 4000000 in
theorem vX9_scanNumber_B10 {E : gE} {n : Nat} {sh : Nat → Nat × Nat} {P : gS → Prop} {k10 : Nat → Int32 → gS → Prop} {a0 : Nat} {x1 : Int32} {z : gS} (hn : n ≤ 1000000) (hk10 : ∀ (a0 : Nat) (x1 : Int32) (z : gS), k10 a0 x1 z → V E (gR 0 0) gyX9_scanNumber 0 0 10 [(0, .ref a0), (1, .int x1)] [] n sh z (kN n sh P)) (hf : wX9_scanNumber_B10 n sh k10 P a0 x1 z) : V E (gR 0 0) gyX9_scanNumber 0 0 10 [(0, .ref a0), (1, .int x1)] [] n sh z (kN n sh P) := by
  unfold wX9_scanNumber_B10 at hf
  refine V_iload_n (j := 1) dX9_scanNumber_10 rfl rfl ?_
  refine V_aload_n (j := 0) dX9_scanNumber_11 rfl rfl ?_
  obtain ⟨h4, hf⟩ := hf
  refine V_getI fl_X9_15 rfl h4.1 h4.2 dX9_scanNumber_12 ?_
  refine V_icmp_ge (tgt := 67) dX9_scanNumber_15 (by decide) (fun h23 => ?_) (fun h23 => ?_)
  · have hf := it_t h23 hf
    exact vX9_scanNumber_J67 hn hf
  · have hf := it_f h23 hf
    refine V_aload_n (j := 0) dX9_scanNumber_18 rfl rfl ?_
    obtain ⟨t10, et10, hf⟩ := hf
    refine V_getR fl_X9_11 rfl h4.1 h4.2 et10 dX9_scanNumber_19 ?_
    refine V_iload_n (j := 1) dX9_scanNumber_22 rfl rfl ?_
    obtain ⟨h11, hf⟩ := hf
    obtain ⟨h12, hf⟩ := hf
    refine V_cald h11.1 h11.s h12 dX9_scanNumber_23 ?_
    refine V_bipush (v := (48 : Int32)) dX9_scanNumber_24 (by decide) ?_
    refine V_icmp_lt (tgt := 67) dX9_scanNumber_26 (by decide) (fun h22 => ?_) (fun h22 => ?_)
    · have hf := it_t h22 hf
      exact vX9_scanNumber_J67 hn hf
    · have hf := it_f h22 hf
      refine V_aload_n (j := 0) dX9_scanNumber_29 rfl rfl ?_
      obtain ⟨t13, et13, hf⟩ := hf
      refine V_getR fl_X9_11 rfl h4.1 h4.2 et13 dX9_scanNumber_30 ?_
      refine V_iload_n (j := 1) dX9_scanNumber_33 rfl rfl ?_
      obtain ⟨h14, hf⟩ := hf
      obtain ⟨h15, hf⟩ := hf
      refine V_cald h14.1 h14.s h15 dX9_scanNumber_34 ?_
      refine V_bipush (v := (57 : Int32)) dX9_scanNumber_35 (by decide) ?_
      refine V_icmp_gt (tgt := 67) dX9_scanNumber_37 (by decide) (fun h21 => ?_) (fun h21 => ?_)
      · have hf := it_t h21 hf
        exact vX9_scanNumber_J67 hn hf
      · have hf := it_f h21 hf
        refine V_aload_n (j := 0) dX9_scanNumber_40 rfl rfl ?_
        refine V_aload_n (j := 0) dX9_scanNumber_41 rfl rfl ?_
        refine V_getI fl_X9_28 rfl h4.1 h4.2 dX9_scanNumber_42 ?_
        refine V_bipush (v := (10 : Int32)) dX9_scanNumber_45 (by decide) ?_
        refine V_imul dX9_scanNumber_47 ?_
        refine V_aload_n (j := 0) dX9_scanNumber_48 rfl rfl ?_
        obtain ⟨t16, et16, hf⟩ := hf
        refine V_getR fl_X9_11 rfl h4.1 h4.2 et16 dX9_scanNumber_49 ?_
        refine V_iload_n (j := 1) dX9_scanNumber_52 rfl rfl ?_
        obtain ⟨h17, hf⟩ := hf
        obtain ⟨h18, hf⟩ := hf
        refine V_cald h17.1 h17.s h18 dX9_scanNumber_53 ?_
        refine V_bipush (v := (48 : Int32)) dX9_scanNumber_54 (by decide) ?_
        refine V_isub dX9_scanNumber_56 ?_
        refine V_iadd dX9_scanNumber_57 ?_
        refine V_putI fl_X9_28 rfl rfl rfl rfl h4.1 h4.2 dX9_scanNumber_58 ?_
        refine V_nz (fun z19 ez19 => ?_)
        have hf := hf z19 ez19
        obtain ⟨v20, ev20⟩ : ∃ y : Int32, y = x1 + (1 : Int32) := ⟨_, rfl⟩
        refine V_iinc (j := 1) (v := v20) (ls2 := [(1, .int v20), (0, .ref a0)]) dX9_scanNumber_61 rfl (by rw [ev20]; rfl) (by decide) rfl ?_
        have hf := hf v20 ev20
        refine V_goto (tgt := 10) dX9_scanNumber_64 (by decide) ?_
        refine V_to [1, 0] rfl ?_
        exact hk10 _ _ _ hf
set_option maxRecDepth 100000 in
set_option maxHeartbeats 4000000 in
theorem vX9_scanNumber_L10 {E : gE} {n : Nat} {sh : Nat → Nat × Nat} {P : gS → Prop} (hn : n ≤ 1000000) : ∀ (N : Nat) (a0 : Nat) (x1 : Int32) (z : gS), wX9_scanNumber_L10 n sh P N a0 x1 z → V E (gR 0 0) gyX9_scanNumber 0 0 10 [(0, .ref a0), (1, .int x1)] [] n sh z (kN n sh P) := by
  intro N
  induction N with
  | zero => intro a0 x1 z hf; exact False.elim hf
  | succ N ih => intro a0 x1 z hf; exact vX9_scanNumber_B10 hn ih hf
def wX9_scanNumber (n : Nat) (sh : Nat → Nat × Nat) (a0 : Nat) (z : gS) (P : gS → Prop) : Prop := (oO n sh a0 5) ∧ (∀ v2 : Int32, v2 = (gi z a0 3) → (∀ z3 : gS, z3 = si z a0 5 (0 : Int32) → ((∃ N, wX9_scanNumber_L10 n sh P N a0 v2 z3))))
set_option maxRecDepth 100000 in
set_option maxHeartbeats 4000000 in
theorem ctX9_scanNumber {E : gE} {n : Nat} {sh : Nat → Nat × Nat} {a0 : Nat} {z : gS} {P : gS → Prop} (hn : n ≤ 1000000) (hf : wX9_scanNumber n sh a0 z P) : VM E 0 0 gyX9_scanNumber [.ref a0] n sh z (kN n sh P) := by
  unfold wX9_scanNumber at hf
  refine VM.of (by decide +kernel) (Nat.le_of_ble_eq_true rfl) ?_
  show V E (gR 0 0) gyX9_scanNumber 0 0 0 [(0, .ref a0)] [] n sh z (kN n sh P)
  refine V_aload_n (j := 0) dX9_scanNumber_0 rfl rfl ?_
  obtain ⟨h1, hf⟩ := hf
  refine V_getI fl_X9_22 rfl h1.1 h1.2 dX9_scanNumber_1 ?_
  refine V_nI (fun v2 ev2 => ?_)
  have hf := hf v2 ev2
  refine V_istore_n (ls2 := [(1, .int v2), (0, .ref a0)]) dX9_scanNumber_4 rfl (by decide) rfl ?_
  refine V_aload_n (j := 1) dX9_scanNumber_5 rfl rfl ?_
  refine V_iconst (v := (0 : Int32)) dX9_scanNumber_6 (by decide) ?_
  refine V_putI fl_X9_28 rfl rfl rfl rfl h1.1 h1.2 dX9_scanNumber_7 ?_
  refine V_nz (fun z3 ez3 => ?_)
  have hf := hf z3 ez3
  obtain ⟨N, hf⟩ := hf
  refine V_to [1, 0] rfl ?_
  exact vX9_scanNumber_L10 hn N _ _ _ hf
def wX9_isAtEnd (n : Nat) (sh : Nat → Nat × Nat) (a0 : Nat) (z : gS) (P : Int32 → gS → Prop) : Prop := (oO n sh a0 5) ∧ (if (gi z a0 2) = 0 then P (1 : Int32) z else P (0 : Int32) z)
set_option maxRecDepth 100000 in
set_option maxHeartbeats 4000000 in
theorem ctX9_isAtEnd {E : gE} {n : Nat} {sh : Nat → Nat × Nat} {a0 : Nat} {z : gS} {P : Int32 → gS → Prop} (hn : n ≤ 1000000) (hf : wX9_isAtEnd n sh a0 z P) : VM E 0 0 gyX9_isAtEnd [.ref a0] n sh z (kI n sh P) := by
  unfold wX9_isAtEnd at hf
  refine VM.of (by decide +kernel) (Nat.le_of_ble_eq_true rfl) ?_
  show V E (gR 0 0) gyX9_isAtEnd 0 0 0 [(0, .ref a0)] [] n sh z (kI n sh P)
  refine V_aload_n (j := 0) dX9_isAtEnd_0 rfl rfl ?_
  obtain ⟨h1, hf⟩ := hf
  refine V_getI fl_X9_19 rfl h1.1 h1.2 dX9_isAtEnd_1 ?_
  refine V_if_ne (tgt := 11) dX9_isAtEnd_4 (by decide) (fun h2 => ?_) (fun h2 => ?_)
  · have hf := it_f h2 hf
    refine V_iconst (v := (0 : Int32)) dX9_isAtEnd_11 (by decide) ?_
    exact V_ireturn dX9_isAtEnd_12 rfl (by decide) (Nat.le_refl 0) (kI_of hf)
  · have hf := it_t (Classical.not_not.mp h2) hf
    refine V_iconst (v := (1 : Int32)) dX9_isAtEnd_7 (by decide) ?_
    refine V_goto (tgt := 12) dX9_isAtEnd_8 (by decide) ?_
    exact V_ireturn dX9_isAtEnd_12 rfl (by decide) (Nat.le_refl 0) (kI_of hf)
def wX9_isWrong (n : Nat) (sh : Nat → Nat × Nat) (a0 : Nat) (x1 : Int32) (z : gS) (P : Int32 → gS → Prop) : Prop := (oO n sh a0 5) ∧ (∀ z2 : gS, z2 = si z a0 8 (x1 + ((16 : Int32) * (gi z a0 3))) → P (0 : Int32) z2)
set_option maxRecDepth 100000 in
set_option maxHeartbeats 4000000 in
theorem ctX9_isWrong {E : gE} {n : Nat} {sh : Nat → Nat × Nat} {a0 : Nat} {x1 : Int32} {z : gS} {P : Int32 → gS → Prop} (hn : n ≤ 1000000) (hf : wX9_isWrong n sh a0 x1 z P) : VM E 0 0 gyX9_isWrong [.ref a0, .int x1] n sh z (kI n sh P) := by
  unfold wX9_isWrong at hf
  refine VM.of (by decide +kernel) (Nat.le_of_ble_eq_true rfl) ?_
  show V E (gR 0 0) gyX9_isWrong 0 0 0 [(0, .ref a0), (1, .int x1)] [] n sh z (kI n sh P)
  refine V_aload_n (j := 0) dX9_isWrong_0 rfl rfl ?_
  refine V_iload_n (j := 1) dX9_isWrong_1 rfl rfl ?_
  refine V_bipush (v := (16 : Int32)) dX9_isWrong_2 (by decide) ?_
  refine V_aload_n (j := 0) dX9_isWrong_4 rfl rfl ?_
  obtain ⟨h1, hf⟩ := hf
  refine V_getI fl_X9_22 rfl h1.1 h1.2 dX9_isWrong_5 ?_
  refine V_imul dX9_isWrong_8 ?_
  refine V_iadd dX9_isWrong_9 ?_
  refine V_putI fl_X9_38 rfl rfl rfl rfl h1.1 h1.2 dX9_isWrong_10 ?_
  refine V_nz (fun z2 ez2 => ?_)
  have hf := hf z2 ez2
  refine V_iconst (v := (0 : Int32)) dX9_isWrong_13 (by decide) ?_
  exact V_ireturn dX9_isWrong_14 rfl (by decide) (Nat.le_refl 0) (kI_of hf)
def wX9_isName (n : Nat) (sh : Nat → Nat × Nat) (a0 : Nat) (z : gS) (P : Int32 → gS → Prop) : Prop := (oO n sh a0 5) ∧ (if (gi z a0 2) = (2 : Int32) then (if (gi z a0 7) = (-1 : Int32) then P (1 : Int32) z else P (0 : Int32) z) else P (0 : Int32) z)
set_option maxRecDepth 100000 in
set_option maxHeartbeats 4000000 in
theorem ctX9_isName {E : gE} {n : Nat} {sh : Nat → Nat × Nat} {a0 : Nat} {z : gS} {P : Int32 → gS → Prop} (hn : n ≤ 1000000) (hf : wX9_isName n sh a0 z P) : VM E 0 0 gyX9_isName [.ref a0] n sh z (kI n sh P) := by
  unfold wX9_isName at hf
  refine VM.of (by decide +kernel) (Nat.le_of_ble_eq_true rfl) ?_
  show V E (gR 0 0) gyX9_isName 0 0 0 [(0, .ref a0)] [] n sh z (kI n sh P)
  refine V_aload_n (j := 0) dX9_isName_0 rfl rfl ?_
  obtain ⟨h1, hf⟩ := hf
  refine V_getI fl_X9_19 rfl h1.1 h1.2 dX9_isName_1 ?_
  refine V_iconst (v := (2 : Int32)) dX9_isName_4 (by decide) ?_
  refine V_icmp_ne (tgt := 20) dX9_isName_5 (by decide) (fun h3 => ?_) (fun h3 => ?_)
  · have hf := it_f h3 hf
    refine V_iconst (v := (0 : Int32)) dX9_isName_20 (by decide) ?_
    exact V_ireturn dX9_isName_21 rfl (by decide) (Nat.le_refl 0) (kI_of hf)
  · have hf := it_t (Classical.not_not.mp h3) hf
    refine V_aload_n (j := 0) dX9_isName_8 rfl rfl ?_
    refine V_getI fl_X9_35 rfl h1.1 h1.2 dX9_isName_9 ?_
    refine V_iconst (v := (-1 : Int32)) dX9_isName_12 (by decide) ?_
    refine V_icmp_ne (tgt := 20) dX9_isName_13 (by decide) (fun h2 => ?_) (fun h2 => ?_)
    · have hf := it_f h2 hf
      refine V_iconst (v := (0 : Int32)) dX9_isName_20 (by decide) ?_
      exact V_ireturn dX9_isName_21 rfl (by decide) (Nat.le_refl 0) (kI_of hf)
    · have hf := it_t (Classical.not_not.mp h2) hf
      refine V_iconst (v := (1 : Int32)) dX9_isName_16 (by decide) ?_
      refine V_goto (tgt := 21) dX9_isName_17 (by decide) ?_
      exact V_ireturn dX9_isName_21 rfl (by decide) (Nat.le_refl 0) (kI_of hf)
def wX7_placeOf_B3 (n : Nat) (sh : Nat → Nat × Nat) (k3 : Nat → Int32 → Int64 → Int32 → gS → Prop) (P : Int32 → gS → Prop) (a0 : Nat) (x1 : Int32) (y2 : Int64) (x4 : Int32) (z : gS) : Prop := if x1 ≤ x4 then P (-1 : Int32) z else ((oA n sh a0 2) ∧ (if (Int32.ofNat (sh a0).2) ≤ x4 then P (-1 : Int32) z else ((vp_in x4 (sh a0).2) ∧ (if (lg_cmp (gl z a0 x4.toNatClampNeg) y2) = 0 then P x4 z else (∀ v3 : Int32, v3 = x4 + (1 : Int32) → k3 a0 x1 y2 v3 z)))))
def wX7_placeOf_L3 (n : Nat) (sh : Nat → Nat × Nat) (P : Int32 → gS → Prop) : Nat → Nat → Int32 → Int64 → Int32 → gS → Prop
  | 0, _, _, _, _, _ => False
  | N + 1, a0, x1, y2, x4, z => wX7_placeOf_B3 n sh (wX7_placeOf_L3 n sh P N) P a0 x1 y2 x4 z
set_option maxRecDepth 100000 in
set_option maxHeartbeats 4000000 in
theorem vX7_placeOf_B3 {E : gE} {n : Nat} {sh : Nat → Nat × Nat} {P : Int32 → gS → Prop} {k3 : Nat → Int32 → Int64 → Int32 → gS → Prop} {a0 : Nat} {x1 : Int32} {y2 : Int64} {x4 : Int32} {z : gS} (hn : n ≤ 1000000) (hk3 : ∀ (a0 : Nat) (x1 : Int32) (y2 : Int64) (x4 : Int32) (z : gS), k3 a0 x1 y2 x4 z → V E (gR 0 0) gyX7_placeOf 0 0 3 [(0, .ref a0), (1, .int x1), (2, .long y2), (4, .int x4)] [] n sh z (kI n sh P)) (hf : wX7_placeOf_B3 n sh k3 P a0 x1 y2 x4 z) : V E (gR 0 0) gyX7_placeOf 0 0 3 [(0, .ref a0), (1, .int x1), (2, .long y2), (4, .int x4)] [] n sh z (kI n sh P) := by
  unfold wX7_placeOf_B3 at hf
  refine V_iload (j := 3) dX7_placeOf_3 rfl ?_
  refine V_iload_n (j := 1) dX7_placeOf_5 rfl rfl ?_
  refine V_icmp_ge (tgt := 34) dX7_placeOf_6 (by decide) (fun h6 => ?_) (fun h6 => ?_)
  · have hf := it_t h6 hf
    refine V_iconst (v := (-1 : Int32)) dX7_placeOf_34 (by decide) ?_
    exact V_ireturn dX7_placeOf_35 rfl rfl (Nat.le_refl 0) (kI_of hf)
  · have hf := it_f h6 hf
    refine V_iload (j := 3) dX7_placeOf_9 rfl ?_
    refine V_aload_n (j := 0) dX7_placeOf_11 rfl rfl ?_
    obtain ⟨h1, hf⟩ := hf
    refine V_alen2 h1.1 h1.s dX7_placeOf_12 ?_
    refine V_icmp_ge (tgt := 34) dX7_placeOf_13 (by decide) (fun h5 => ?_) (fun h5 => ?_)
    · have hf := it_t h5 hf
      refine V_iconst (v := (-1 : Int32)) dX7_placeOf_34 (by decide) ?_
      exact V_ireturn dX7_placeOf_35 rfl rfl (Nat.le_refl 0) (kI_of hf)
    · have hf := it_f h5 hf
      refine V_aload_n (j := 0) dX7_placeOf_16 rfl rfl ?_
      refine V_iload (j := 3) dX7_placeOf_17 rfl ?_
      obtain ⟨h2, hf⟩ := hf
      refine V_lald h1.1 h1.s h2 dX7_placeOf_19 ?_
      refine V_lload_n (j := 2) dX7_placeOf_20 rfl rfl ?_
      refine V_lcmp dX7_placeOf_21 ?_
      refine V_if_ne (tgt := 28) dX7_placeOf_22 (by decide) (fun h4 => ?_) (fun h4 => ?_)
      · have hf := it_f h4 hf
        obtain ⟨v3, ev3⟩ : ∃ y : Int32, y = x4 + (1 : Int32) := ⟨_, rfl⟩
        refine V_iinc (j := 3) (v := v3) (ls2 := [(4, .int v3), (0, .ref a0), (1, .int x1), (2, .long y2)]) dX7_placeOf_28 rfl (by rw [ev3]; rfl) (by decide) rfl ?_
        have hf := hf v3 ev3
        refine V_goto (tgt := 3) dX7_placeOf_31 (by decide) ?_
        refine V_to [1, 2, 3, 0] rfl ?_
        exact hk3 _ _ _ _ _ hf
      · have hf := it_t (Classical.not_not.mp h4) hf
        refine V_iload (j := 3) dX7_placeOf_25 rfl ?_
        exact V_ireturn dX7_placeOf_27 rfl rfl (Nat.le_refl 0) (kI_of hf)
set_option maxRecDepth 100000 in
set_option maxHeartbeats 4000000 in
theorem vX7_placeOf_L3 {E : gE} {n : Nat} {sh : Nat → Nat × Nat} {P : Int32 → gS → Prop} (hn : n ≤ 1000000) : ∀ (N : Nat) (a0 : Nat) (x1 : Int32) (y2 : Int64) (x4 : Int32) (z : gS), wX7_placeOf_L3 n sh P N a0 x1 y2 x4 z → V E (gR 0 0) gyX7_placeOf 0 0 3 [(0, .ref a0), (1, .int x1), (2, .long y2), (4, .int x4)] [] n sh z (kI n sh P) := by
  intro N
  induction N with
  | zero => intro a0 x1 y2 x4 z hf; exact False.elim hf
  | succ N ih => intro a0 x1 y2 x4 z hf; exact vX7_placeOf_B3 hn ih hf
def wX7_placeOf (n : Nat) (sh : Nat → Nat × Nat) (a0 : Nat) (x1 : Int32) (y2 : Int64) (z : gS) (P : Int32 → gS → Prop) : Prop := (∃ N, wX7_placeOf_L3 n sh P N a0 x1 y2 (0 : Int32) z)
set_option maxRecDepth 100000 in
set_option maxHeartbeats 4000000 in
theorem ctX7_placeOf {E : gE} {n : Nat} {sh : Nat → Nat × Nat} {a0 : Nat} {x1 : Int32} {y2 : Int64} {z : gS} {P : Int32 → gS → Prop} (hn : n ≤ 1000000) (hf : wX7_placeOf n sh a0 x1 y2 z P) : VM E 0 0 gyX7_placeOf [.ref a0, .int x1, .long y2] n sh z (kI n sh P) := by
  unfold wX7_placeOf at hf
  refine VM.of (by decide +kernel) (Nat.le_of_ble_eq_true rfl) ?_
  show V E (gR 0 0) gyX7_placeOf 0 0 0 [(0, .ref a0), (1, .int x1), (2, .long y2)] [] n sh z (kI n sh P)
  refine V_iconst (v := (0 : Int32)) dX7_placeOf_0 (by decide) ?_
  refine V_istore (ls2 := [(4, .int (0 : Int32)), (0, .ref a0), (1, .int x1), (2, .long y2)]) dX7_placeOf_1 (by decide) rfl ?_
  obtain ⟨N, hf⟩ := hf
  refine V_to [1, 2, 3, 0] rfl ?_
  exact vX7_placeOf_L3 hn N _ _ _ _ _ hf
def wX7_isTold_J48 (n : Nat) (sh : Nat → Nat × Nat) (P : Int32 → gS → Prop) (z : gS) : Prop := P (1 : Int32) z
set_option maxRecDepth 100000 in
set_option maxHeartbeats 4000000 in
theorem vX7_isTold_J48 {E : gE} {n : Nat} {sh : Nat → Nat × Nat} {P : Int32 → gS → Prop} {z : gS} (hn : n ≤ 1000000) (hf : wX7_isTold_J48 n sh P z) : V E (gR 1 0) gyX7_isTold 0 0 48 [] [] n sh z (kI n sh P) := by
  unfold wX7_isTold_J48 at hf
  refine V_iconst (v := (1 : Int32)) dX7_isTold_48 (by decide) ?_
  refine V_goto (tgt := 53) dX7_isTold_49 (by decide) ?_
  exact V_ireturn dX7_isTold_53 rfl (by decide) (Nat.le_refl 0) (kI_of hf)
def wX7_isTold (n : Nat) (sh : Nat → Nat × Nat) (a0 : Nat) (y1 : Int64) (z : gS) (P : Int32 → gS → Prop) : Prop := (oO n sh a0 4) ∧ (∃ t2 : Nat, gr z a0 7 = some t2 ∧ (wX7_placeOf n sh t2 (gi z a0 10) y1 z (fun (r3 : Int32) (z4 : gS) => if r3 = (-1 : Int32) then (∃ t5 : Nat, gr z4 a0 8 = some t5 ∧ (wX7_placeOf n sh t5 (gi z4 a0 11) y1 z4 (fun (r6 : Int32) (z7 : gS) => if r6 = (-1 : Int32) then (∃ t8 : Nat, gr z7 a0 9 = some t8 ∧ (wX7_placeOf n sh t8 (gi z7 a0 12) y1 z7 (fun (r9 : Int32) (z10 : gS) => if r9 = (-1 : Int32) then P (0 : Int32) z10 else wX7_isTold_J48 n sh P  z10))) else wX7_isTold_J48 n sh P  z7))) else wX7_isTold_J48 n sh P  z4)))
set_option maxRecDepth 100000 in
set_option maxHeartbeats 4000000 in
theorem ctX7_isTold {E : gE} {n : Nat} {sh : Nat → Nat × Nat} {a0 : Nat} {y1 : Int64} {z : gS} {P : Int32 → gS → Prop} (hn : n ≤ 1000000) (hf : wX7_isTold n sh a0 y1 z P) : VM E 1 0 gyX7_isTold [.ref a0, .long y1] n sh z (kI n sh P) := by
  unfold wX7_isTold at hf
  refine VM.of (by decide +kernel) (Nat.le_of_ble_eq_true rfl) ?_
  show V E (gR 1 0) gyX7_isTold 0 0 0 [(0, .ref a0), (1, .long y1)] [] n sh z (kI n sh P)
  refine V_aload_n (j := 0) dX7_isTold_0 rfl rfl ?_
  obtain ⟨h1, hf⟩ := hf
  obtain ⟨t2, et2, hf⟩ := hf
  refine V_getR fl_X7_37 rfl h1.1 h1.2 et2 dX7_isTold_1 ?_
  refine V_aload_n (j := 0) dX7_isTold_4 rfl rfl ?_
  refine V_getI fl_X7_47 rfl h1.1 h1.2 dX7_isTold_5 ?_
  refine V_lload_n (j := 1) dX7_isTold_8 rfl rfl ?_
  refine V_cSI (ctX7_placeOf hn hf) gc_X7_63 rfl ⟨by decide, by decide, Nat.zero_le _, Nat.zero_le _⟩ (Nat.le_of_ble_eq_true rfl) dX7_isTold_9 rfl hn (fun r3 z4 hf => ?_)
  refine V_iconst (v := (-1 : Int32)) dX7_isTold_12 (by decide) ?_
  refine V_icmp_ne (tgt := 48) dX7_isTold_13 (by decide) (fun h13 => ?_) (fun h13 => ?_)
  · have hf := it_f h13 hf
    refine V_to [] rfl ?_
    exact vX7_isTold_J48 hn hf
  · have hf := it_t (Classical.not_not.mp h13) hf
    refine V_aload_n (j := 0) dX7_isTold_16 rfl rfl ?_
    obtain ⟨t5, et5, hf⟩ := hf
    refine V_getR fl_X7_41 rfl h1.1 h1.2 et5 dX7_isTold_17 ?_
    refine V_aload_n (j := 0) dX7_isTold_20 rfl rfl ?_
    refine V_getI fl_X7_51 rfl h1.1 h1.2 dX7_isTold_21 ?_
    refine V_lload_n (j := 1) dX7_isTold_24 rfl rfl ?_
    refine V_cSI (ctX7_placeOf hn hf) gc_X7_63 rfl ⟨by decide, by decide, Nat.zero_le _, Nat.zero_le _⟩ (Nat.le_of_ble_eq_true rfl) dX7_isTold_25 rfl hn (fun r6 z7 hf => ?_)
    refine V_iconst (v := (-1 : Int32)) dX7_isTold_28 (by decide) ?_
    refine V_icmp_ne (tgt := 48) dX7_isTold_29 (by decide) (fun h12 => ?_) (fun h12 => ?_)
    · have hf := it_f h12 hf
      refine V_to [] rfl ?_
      exact vX7_isTold_J48 hn hf
    · have hf := it_t (Classical.not_not.mp h12) hf
      refine V_aload_n (j := 0) dX7_isTold_32 rfl rfl ?_
      obtain ⟨t8, et8, hf⟩ := hf
      refine V_getR fl_X7_44 rfl h1.1 h1.2 et8 dX7_isTold_33 ?_
      refine V_aload_n (j := 0) dX7_isTold_36 rfl rfl ?_
      refine V_getI fl_X7_54 rfl h1.1 h1.2 dX7_isTold_37 ?_
      refine V_lload_n (j := 1) dX7_isTold_40 rfl rfl ?_
      refine V_cSI (ctX7_placeOf hn hf) gc_X7_63 rfl ⟨by decide, by decide, Nat.zero_le _, Nat.zero_le _⟩ (Nat.le_of_ble_eq_true rfl) dX7_isTold_41 rfl hn (fun r9 z10 hf => ?_)
      refine V_iconst (v := (-1 : Int32)) dX7_isTold_44 (by decide) ?_
      refine V_icmp_eq (tgt := 52) dX7_isTold_45 (by decide) (fun h11 => ?_) (fun h11 => ?_)
      · have hf := it_t h11 hf
        refine V_iconst (v := (0 : Int32)) dX7_isTold_52 (by decide) ?_
        exact V_ireturn dX7_isTold_53 rfl (by decide) (Nat.le_refl 0) (kI_of hf)
      · have hf := it_f h11 hf
        refine V_to [] rfl ?_
        exact vX7_isTold_J48 hn hf
def wX8_hasNewName_J32 (n : Nat) (sh : Nat → Nat × Nat) (P : Int32 → gS → Prop) (z : gS) : Prop := P (1 : Int32) z
set_option maxRecDepth 100000 in
set_option maxHeartbeats 4000000 in
theorem vX8_hasNewName_J32 {E : gE} {n : Nat} {sh : Nat → Nat × Nat} {P : Int32 → gS → Prop} {z : gS} (hn : n ≤ 1000000) (hf : wX8_hasNewName_J32 n sh P z) : V E (gR 2 0) gyX8_hasNewName 0 0 32 [] [] n sh z (kI n sh P) := by
  unfold wX8_hasNewName_J32 at hf
  refine V_iconst (v := (1 : Int32)) dX8_hasNewName_32 (by decide) ?_
  refine V_goto (tgt := 37) dX8_hasNewName_33 (by decide) ?_
  exact V_ireturn dX8_hasNewName_37 rfl (by decide) (Nat.le_refl 0) (kI_of hf)
def wX8_hasNewName (n : Nat) (sh : Nat → Nat × Nat) (a0 : Nat) (a1 : Nat) (z : gS) (P : Int32 → gS → Prop) : Prop := (oO n sh a0 5) ∧ (wX9_isName n sh a0 z (fun (r1 : Int32) (z2 : gS) => if r1 = 0 then (wX9_isWrong n sh a0 (1 : Int32) z2 (fun (r11 : Int32) (z12 : gS) => (bo r11) ∧ P r11 z12)) else ((oO n sh a1 4) ∧ (wX7_isTold n sh a1 (gl z2 a0 6) z2 (fun (r4 : Int32) (z5 : gS) => if r4 = 0 then wX8_hasNewName_J32 n sh P  z5 else (wX9_isWrong n sh a0 (3 : Int32) z5 (fun (r7 : Int32) (z8 : gS) => if r7 = 0 then P (0 : Int32) z8 else wX8_hasNewName_J32 n sh P  z8)))))))
set_option maxRecDepth 100000 in
set_option maxHeartbeats 4000000 in
theorem ctX8_hasNewName {E : gE} {n : Nat} {sh : Nat → Nat × Nat} {a0 : Nat} {a1 : Nat} {z : gS} {P : Int32 → gS → Prop} (hn : n ≤ 1000000) (hf : wX8_hasNewName n sh a0 a1 z P) : VM E 2 0 gyX8_hasNewName [.ref a0, .ref a1] n sh z (kI n sh P) := by
  unfold wX8_hasNewName at hf
  refine VM.of (by decide +kernel) (Nat.le_of_ble_eq_true rfl) ?_
  show V E (gR 2 0) gyX8_hasNewName 0 0 0 [(0, .ref a0), (1, .ref a1)] [] n sh z (kI n sh P)
  refine V_aload_n (j := 0) dX8_hasNewName_0 rfl rfl ?_
  obtain ⟨h3, hf⟩ := hf
  refine V_cVI (ctX9_isName hn hf) gc_X8_141 rfl h3.1 ⟨_, h3.2, by decide, rfl⟩ ⟨by decide, by decide, Nat.zero_le _, Nat.zero_le _⟩ (Nat.le_of_ble_eq_true rfl) dX8_hasNewName_1 rfl hn (fun r1 z2 hf => ?_)
  refine V_if_ne (tgt := 13) dX8_hasNewName_4 (by decide) (fun h13 => ?_) (fun h13 => ?_)
  · have hf := it_f h13 hf
    refine V_aload_n (j := 1) dX8_hasNewName_13 rfl rfl ?_
    refine V_aload_n (j := 0) dX8_hasNewName_14 rfl rfl ?_
    refine V_getL fl_X8_69 rfl h3.1 h3.2 dX8_hasNewName_15 ?_
    obtain ⟨h6, hf⟩ := hf
    refine V_cVI (ctX7_isTold hn hf) gc_X8_144 rfl h6.1 ⟨_, h6.2, by decide, rfl⟩ ⟨by decide, by decide, Nat.zero_le _, Nat.zero_le _⟩ (Nat.le_of_ble_eq_true rfl) dX8_hasNewName_18 rfl hn (fun r4 z5 hf => ?_)
    refine V_if_eq (tgt := 32) dX8_hasNewName_21 (by decide) (fun h10 => ?_) (fun h10 => ?_)
    · have hf := it_t h10 hf
      refine V_to [] rfl ?_
      exact vX8_hasNewName_J32 hn hf
    · have hf := it_f h10 hf
      refine V_aload_n (j := 0) dX8_hasNewName_24 rfl rfl ?_
      refine V_iconst (v := (3 : Int32)) dX8_hasNewName_25 (by decide) ?_
      refine V_cVI (ctX9_isWrong hn hf) gc_X8_52 rfl h3.1 ⟨_, h3.2, by decide, rfl⟩ ⟨by decide, by decide, Nat.zero_le _, Nat.zero_le _⟩ (Nat.le_of_ble_eq_true rfl) dX8_hasNewName_26 rfl hn (fun r7 z8 hf => ?_)
      refine V_if_eq (tgt := 36) dX8_hasNewName_29 (by decide) (fun h9 => ?_) (fun h9 => ?_)
      · have hf := it_t h9 hf
        refine V_iconst (v := (0 : Int32)) dX8_hasNewName_36 (by decide) ?_
        exact V_ireturn dX8_hasNewName_37 rfl (by decide) (Nat.le_refl 0) (kI_of hf)
      · have hf := it_f h9 hf
        refine V_to [] rfl ?_
        exact vX8_hasNewName_J32 hn hf
  · have hf := it_t (Classical.not_not.mp h13) hf
    refine V_aload_n (j := 0) dX8_hasNewName_7 rfl rfl ?_
    refine V_iconst (v := (1 : Int32)) dX8_hasNewName_8 (by decide) ?_
    refine V_cVI (ctX9_isWrong hn hf) gc_X8_52 rfl h3.1 ⟨_, h3.2, by decide, rfl⟩ ⟨by decide, by decide, Nat.zero_le _, Nat.zero_le _⟩ (Nat.le_of_ble_eq_true rfl) dX8_hasNewName_9 rfl hn (fun r11 z12 hf => ?_)
    exact V_ireturn dX8_hasNewName_12 rfl hf.1 (Nat.le_refl 0) (kI_of hf.2)
def wX9_hasNumber_J38 (n : Nat) (sh : Nat → Nat × Nat) (P : Int32 → gS → Prop) (z : gS) : Prop := P (1 : Int32) z
set_option maxRecDepth 100000 in
set_option maxHeartbeats 4000000 in
theorem vX9_hasNumber_J38 {E : gE} {n : Nat} {sh : Nat → Nat × Nat} {P : Int32 → gS → Prop} {z : gS} (hn : n ≤ 1000000) (hf : wX9_hasNumber_J38 n sh P z) : V E (gR 1 0) gyX9_hasNumber 0 0 38 [] [] n sh z (kI n sh P) := by
  unfold wX9_hasNumber_J38 at hf
  refine V_iconst (v := (1 : Int32)) dX9_hasNumber_38 (by decide) ?_
  refine V_goto (tgt := 43) dX9_hasNumber_39 (by decide) ?_
  exact V_ireturn dX9_hasNumber_43 rfl (by decide) (Nat.le_refl 0) (kI_of hf)
def wX9_hasNumber_J30 (n : Nat) (sh : Nat → Nat × Nat) (P : Int32 → gS → Prop) (a0 : Nat) (z : gS) : Prop := (oO n sh a0 5) ∧ (wX9_isWrong n sh a0 (4 : Int32) z (fun (r2 : Int32) (z3 : gS) => if r2 = 0 then P (0 : Int32) z3 else wX9_hasNumber_J38 n sh P  z3))
set_option maxRecDepth 100000 in
set_option maxHeartbeats 4000000 in
theorem vX9_hasNumber_J30 {E : gE} {n : Nat} {sh : Nat → Nat × Nat} {P : Int32 → gS → Prop} {a0 : Nat} {z : gS} (hn : n ≤ 1000000) (hf : wX9_hasNumber_J30 n sh P a0 z) : V E (gR 1 0) gyX9_hasNumber 0 0 30 [(0, .ref a0)] [] n sh z (kI n sh P) := by
  unfold wX9_hasNumber_J30 at hf
  refine V_aload_n (j := 0) dX9_hasNumber_30 rfl rfl ?_
  refine V_iconst (v := (4 : Int32)) dX9_hasNumber_31 (by decide) ?_
  obtain ⟨h4, hf⟩ := hf
  refine V_cVI (ctX9_isWrong hn hf) gc_X9_73 rfl h4.1 ⟨_, h4.2, by decide, rfl⟩ ⟨by decide, by decide, Nat.zero_le _, Nat.zero_le _⟩ (Nat.le_of_ble_eq_true rfl) dX9_hasNumber_32 rfl hn (fun r2 z3 hf => ?_)
  refine V_if_eq (tgt := 42) dX9_hasNumber_35 (by decide) (fun h5 => ?_) (fun h5 => ?_)
  · have hf := it_t h5 hf
    refine V_iconst (v := (0 : Int32)) dX9_hasNumber_42 (by decide) ?_
    exact V_ireturn dX9_hasNumber_43 rfl (by decide) (Nat.le_refl 0) (kI_of hf)
  · have hf := it_f h5 hf
    refine V_to [] rfl ?_
    exact vX9_hasNumber_J38 hn hf
def wX9_hasNumber (n : Nat) (sh : Nat → Nat × Nat) (a0 : Nat) (x1 : Int32) (x2 : Int32) (z : gS) (P : Int32 → gS → Prop) : Prop := (oO n sh a0 5) ∧ (if (gi z a0 2) = (3 : Int32) then (if (gi z a0 5) < x1 then wX9_hasNumber_J30 n sh P a0 z else (if (gi z a0 5) ≤ x2 then wX9_hasNumber_J38 n sh P  z else wX9_hasNumber_J30 n sh P a0 z)) else (wX9_isWrong n sh a0 (1 : Int32) z (fun (r8 : Int32) (z9 : gS) => (bo r8) ∧ P r8 z9)))
set_option maxRecDepth 100000 in
set_option maxHeartbeats 4000000 in
theorem ctX9_hasNumber {E : gE} {n : Nat} {sh : Nat → Nat × Nat} {a0 : Nat} {x1 : Int32} {x2 : Int32} {z : gS} {P : Int32 → gS → Prop} (hn : n ≤ 1000000) (hf : wX9_hasNumber n sh a0 x1 x2 z P) : VM E 1 0 gyX9_hasNumber [.ref a0, .int x1, .int x2] n sh z (kI n sh P) := by
  unfold wX9_hasNumber at hf
  refine VM.of (by decide +kernel) (Nat.le_of_ble_eq_true rfl) ?_
  show V E (gR 1 0) gyX9_hasNumber 0 0 0 [(0, .ref a0), (1, .int x1), (2, .int x2)] [] n sh z (kI n sh P)
  refine V_aload_n (j := 0) dX9_hasNumber_0 rfl rfl ?_
  obtain ⟨h1, hf⟩ := hf
  refine V_getI fl_X9_19 rfl h1.1 h1.2 dX9_hasNumber_1 ?_
  refine V_iconst (v := (3 : Int32)) dX9_hasNumber_4 (by decide) ?_
  refine V_icmp_eq (tgt := 14) dX9_hasNumber_5 (by decide) (fun h10 => ?_) (fun h10 => ?_)
  · have hf := it_t h10 hf
    refine V_aload_n (j := 0) dX9_hasNumber_14 rfl rfl ?_
    refine V_getI fl_X9_28 rfl h1.1 h1.2 dX9_hasNumber_15 ?_
    refine V_iload_n (j := 1) dX9_hasNumber_18 rfl rfl ?_
    refine V_icmp_lt (tgt := 30) dX9_hasNumber_19 (by decide) (fun h7 => ?_) (fun h7 => ?_)
    · have hf := it_t h7 hf
      refine V_to [0] rfl ?_
      exact vX9_hasNumber_J30 hn hf
    · have hf := it_f h7 hf
      refine V_aload_n (j := 0) dX9_hasNumber_22 rfl rfl ?_
      refine V_getI fl_X9_28 rfl h1.1 h1.2 dX9_hasNumber_23 ?_
      refine V_iload_n (j := 2) dX9_hasNumber_26 rfl rfl ?_
      refine V_icmp_le (tgt := 38) dX9_hasNumber_27 (by decide) (fun h6 => ?_) (fun h6 => ?_)
      · have hf := it_t h6 hf
        refine V_to [] rfl ?_
        exact vX9_hasNumber_J38 hn hf
      · have hf := it_f h6 hf
        refine V_to [0] rfl ?_
        exact vX9_hasNumber_J30 hn hf
  · have hf := it_f h10 hf
    refine V_aload_n (j := 0) dX9_hasNumber_8 rfl rfl ?_
    refine V_iconst (v := (1 : Int32)) dX9_hasNumber_9 (by decide) ?_
    refine V_cVI (ctX9_isWrong hn hf) gc_X9_73 rfl h1.1 ⟨_, h1.2, by decide, rfl⟩ ⟨by decide, by decide, Nat.zero_le _, Nat.zero_le _⟩ (Nat.le_of_ble_eq_true rfl) dX9_hasNumber_10 rfl hn (fun r8 z9 hf => ?_)
    exact V_ireturn dX9_hasNumber_13 rfl hf.1 (Nat.le_refl 0) (kI_of hf.2)
def wX9_isNumber (n : Nat) (sh : Nat → Nat × Nat) (a0 : Nat) (z : gS) (P : Int32 → gS → Prop) : Prop := (oO n sh a0 5) ∧ (if (gi z a0 2) = (3 : Int32) then P (1 : Int32) z else P (0 : Int32) z)
set_option maxRecDepth 100000 in
set_option maxHeartbeats 4000000 in
theorem ctX9_isNumber {E : gE} {n : Nat} {sh : Nat → Nat × Nat} {a0 : Nat} {z : gS} {P : Int32 → gS → Prop} (hn : n ≤ 1000000) (hf : wX9_isNumber n sh a0 z P) : VM E 0 0 gyX9_isNumber [.ref a0] n sh z (kI n sh P) := by
  unfold wX9_isNumber at hf
  refine VM.of (by decide +kernel) (Nat.le_of_ble_eq_true rfl) ?_
  show V E (gR 0 0) gyX9_isNumber 0 0 0 [(0, .ref a0)] [] n sh z (kI n sh P)
  refine V_aload_n (j := 0) dX9_isNumber_0 rfl rfl ?_
  obtain ⟨h1, hf⟩ := hf
  refine V_getI fl_X9_19 rfl h1.1 h1.2 dX9_isNumber_1 ?_
  refine V_iconst (v := (3 : Int32)) dX9_isNumber_4 (by decide) ?_
  refine V_icmp_ne (tgt := 12) dX9_isNumber_5 (by decide) (fun h2 => ?_) (fun h2 => ?_)
  · have hf := it_f h2 hf
    refine V_iconst (v := (0 : Int32)) dX9_isNumber_12 (by decide) ?_
    exact V_ireturn dX9_isNumber_13 rfl (by decide) (Nat.le_refl 0) (kI_of hf)
  · have hf := it_t (Classical.not_not.mp h2) hf
    refine V_iconst (v := (1 : Int32)) dX9_isNumber_8 (by decide) ?_
    refine V_goto (tgt := 13) dX9_isNumber_9 (by decide) ?_
    exact V_ireturn dX9_isNumber_13 rfl (by decide) (Nat.le_refl 0) (kI_of hf)
def wX7_bothWays_J27 (n : Nat) (sh : Nat → Nat × Nat) (k4 : Int32 → Int32 → Int32 → gS → Prop) (P : Int32 → gS → Prop) (x0 : Int32) (x1 : Int32) (x2 : Int32) (z : gS) : Prop := ∀ v1 : Int32, v1 = x2 + (1 : Int32) → k4 x0 x1 v1 z
set_option maxRecDepth 100000 in
set_option maxHeartbeats 4000000 in
theorem vX7_bothWays_J27 {E : gE} {n : Nat} {sh : Nat → Nat × Nat} {P : Int32 → gS → Prop} {k4 : Int32 → Int32 → Int32 → gS → Prop} {x0 : Int32} {x1 : Int32} {x2 : Int32} {z : gS} (hn : n ≤ 1000000) (hk4 : ∀ (x0 : Int32) (x1 : Int32) (x2 : Int32) (z : gS), k4 x0 x1 x2 z → V E (gR 0 0) gyX7_bothWays 0 0 4 [(0, .int x0), (1, .int x1), (2, .int x2)] [] n sh z (kI n sh P)) (hf : wX7_bothWays_J27 n sh k4 P x0 x1 x2 z) : V E (gR 0 0) gyX7_bothWays 0 0 27 [(0, .int x0), (1, .int x1), (2, .int x2)] [] n sh z (kI n sh P) := by
  unfold wX7_bothWays_J27 at hf
  obtain ⟨v1, ev1⟩ : ∃ y : Int32, y = x2 + (1 : Int32) := ⟨_, rfl⟩
  refine V_iinc (j := 2) (v := v1) (ls2 := [(2, .int v1), (0, .int x0), (1, .int x1)]) dX7_bothWays_27 rfl (by rw [ev1]; rfl) (by decide) rfl ?_
  have hf := hf v1 ev1
  refine V_goto (tgt := 4) dX7_bothWays_30 (by decide) ?_
  refine V_to [1, 2, 0] rfl ?_
  exact hk4 _ _ _ _ hf
def wX7_bothWays_B4 (n : Nat) (sh : Nat → Nat × Nat) (k4 : Int32 → Int32 → Int32 → gS → Prop) (P : Int32 → gS → Prop) (x0 : Int32) (x1 : Int32) (x2 : Int32) (z : gS) : Prop := if (10 : Int32) ≤ x2 then P x1 z else (if ((x0 >>> (x2 &&& 31)) &&& (1 : Int32)) = 0 then wX7_bothWays_J27 n sh k4 P x0 x1 x2 z else (∀ v2 : Int32, v2 = (x1 ||| ((1 : Int32) <<< (((9 : Int32) - x2) &&& 31))) → wX7_bothWays_J27 n sh k4 P x0 v2 x2 z))
def wX7_bothWays_L4 (n : Nat) (sh : Nat → Nat × Nat) (P : Int32 → gS → Prop) : Nat → Int32 → Int32 → Int32 → gS → Prop
  | 0, _, _, _, _ => False
  | N + 1, x0, x1, x2, z => wX7_bothWays_B4 n sh (wX7_bothWays_L4 n sh P N) P x0 x1 x2 z
set_option maxRecDepth 100000 in
set_option maxHeartbeats 4000000 in
theorem vX7_bothWays_B4 {E : gE} {n : Nat} {sh : Nat → Nat × Nat} {P : Int32 → gS → Prop} {k4 : Int32 → Int32 → Int32 → gS → Prop} {x0 : Int32} {x1 : Int32} {x2 : Int32} {z : gS} (hn : n ≤ 1000000) (hk4 : ∀ (x0 : Int32) (x1 : Int32) (x2 : Int32) (z : gS), k4 x0 x1 x2 z → V E (gR 0 0) gyX7_bothWays 0 0 4 [(0, .int x0), (1, .int x1), (2, .int x2)] [] n sh z (kI n sh P)) (hf : wX7_bothWays_B4 n sh k4 P x0 x1 x2 z) : V E (gR 0 0) gyX7_bothWays 0 0 4 [(0, .int x0), (1, .int x1), (2, .int x2)] [] n sh z (kI n sh P) := by
  unfold wX7_bothWays_B4 at hf
  refine V_iload_n (j := 2) dX7_bothWays_4 rfl rfl ?_
  refine V_bipush (v := (10 : Int32)) dX7_bothWays_5 (by decide) ?_
  refine V_icmp_ge (tgt := 33) dX7_bothWays_7 (by decide) (fun h4 => ?_) (fun h4 => ?_)
  · have hf := it_t h4 hf
    refine V_iload_n (j := 1) dX7_bothWays_33 rfl rfl ?_
    exact V_ireturn dX7_bothWays_34 rfl rfl (Nat.le_refl 0) (kI_of hf)
  · have hf := it_f h4 hf
    refine V_iload_n (j := 0) dX7_bothWays_10 rfl rfl ?_
    refine V_iload_n (j := 2) dX7_bothWays_11 rfl rfl ?_
    refine V_ishr dX7_bothWays_12 ?_
    refine V_iconst (v := (1 : Int32)) dX7_bothWays_13 (by decide) ?_
    refine V_iand dX7_bothWays_14 ?_
    refine V_if_eq (tgt := 27) dX7_bothWays_15 (by decide) (fun h3 => ?_) (fun h3 => ?_)
    · have hf := it_t h3 hf
      exact vX7_bothWays_J27 hn hk4 hf
    · have hf := it_f h3 hf
      refine V_iload_n (j := 1) dX7_bothWays_18 rfl rfl ?_
      refine V_iconst (v := (1 : Int32)) dX7_bothWays_19 (by decide) ?_
      refine V_bipush (v := (9 : Int32)) dX7_bothWays_20 (by decide) ?_
      refine V_iload_n (j := 2) dX7_bothWays_22 rfl rfl ?_
      refine V_isub dX7_bothWays_23 ?_
      refine V_ishl dX7_bothWays_24 ?_
      refine V_ior dX7_bothWays_25 ?_
      refine V_nI (fun v2 ev2 => ?_)
      have hf := hf v2 ev2
      refine V_istore_n (ls2 := [(1, .int v2), (0, .int x0), (2, .int x2)]) dX7_bothWays_26 rfl (by decide) rfl ?_
      refine V_to [1, 0, 2] rfl ?_
      exact vX7_bothWays_J27 hn hk4 hf
set_option maxRecDepth 100000 in
set_option maxHeartbeats 4000000 in
theorem vX7_bothWays_L4 {E : gE} {n : Nat} {sh : Nat → Nat × Nat} {P : Int32 → gS → Prop} (hn : n ≤ 1000000) : ∀ (N : Nat) (x0 : Int32) (x1 : Int32) (x2 : Int32) (z : gS), wX7_bothWays_L4 n sh P N x0 x1 x2 z → V E (gR 0 0) gyX7_bothWays 0 0 4 [(0, .int x0), (1, .int x1), (2, .int x2)] [] n sh z (kI n sh P) := by
  intro N
  induction N with
  | zero => intro x0 x1 x2 z hf; exact False.elim hf
  | succ N ih => intro x0 x1 x2 z hf; exact vX7_bothWays_B4 hn ih hf
def wX7_bothWays (n : Nat) (sh : Nat → Nat × Nat) (x0 : Int32) (z : gS) (P : Int32 → gS → Prop) : Prop := (∃ N, wX7_bothWays_L4 n sh P N x0 x0 (0 : Int32) z)
set_option maxRecDepth 100000 in
set_option maxHeartbeats 4000000 in
theorem ctX7_bothWays {E : gE} {n : Nat} {sh : Nat → Nat × Nat} {x0 : Int32} {z : gS} {P : Int32 → gS → Prop} (hn : n ≤ 1000000) (hf : wX7_bothWays n sh x0 z P) : VM E 0 0 gyX7_bothWays [.int x0] n sh z (kI n sh P) := by
  unfold wX7_bothWays at hf
  refine VM.of (by decide +kernel) (Nat.le_of_ble_eq_true rfl) ?_
  show V E (gR 0 0) gyX7_bothWays 0 0 0 [(0, .int x0)] [] n sh z (kI n sh P)
  refine V_iload_n (j := 0) dX7_bothWays_0 rfl rfl ?_
  refine V_istore_n (ls2 := [(1, .int x0), (0, .int x0)]) dX7_bothWays_1 rfl (by decide) rfl ?_
  refine V_iconst (v := (0 : Int32)) dX7_bothWays_2 (by decide) ?_
  refine V_istore_n (ls2 := [(2, .int (0 : Int32)), (1, .int x0), (0, .int x0)]) dX7_bothWays_3 rfl (by decide) rfl ?_
  obtain ⟨N, hf⟩ := hf
  refine V_to [2, 1, 0] rfl ?_
  exact vX7_bothWays_L4 hn N _ _ _ _ hf
def wX9_isSign (n : Nat) (sh : Nat → Nat × Nat) (a0 : Nat) (x1 : Int32) (z : gS) (P : Int32 → gS → Prop) : Prop := (oO n sh a0 5) ∧ (if (gi z a0 2) = (4 : Int32) then (∃ t2 : Nat, gr z a0 0 = some t2 ∧ ((oA n sh t2 3) ∧ ((vp_in (gi z a0 3) (sh t2).2) ∧ (if (gi z t2 (gi z a0 3).toNatClampNeg) = x1 then P (1 : Int32) z else P (0 : Int32) z)))) else P (0 : Int32) z)
set_option maxRecDepth 100000 in
set_option maxHeartbeats 4000000 in
theorem ctX9_isSign {E : gE} {n : Nat} {sh : Nat → Nat × Nat} {a0 : Nat} {x1 : Int32} {z : gS} {P : Int32 → gS → Prop} (hn : n ≤ 1000000) (hf : wX9_isSign n sh a0 x1 z P) : VM E 0 0 gyX9_isSign [.ref a0, .int x1] n sh z (kI n sh P) := by
  unfold wX9_isSign at hf
  refine VM.of (by decide +kernel) (Nat.le_of_ble_eq_true rfl) ?_
  show V E (gR 0 0) gyX9_isSign 0 0 0 [(0, .ref a0), (1, .int x1)] [] n sh z (kI n sh P)
  refine V_aload_n (j := 0) dX9_isSign_0 rfl rfl ?_
  obtain ⟨h1, hf⟩ := hf
  refine V_getI fl_X9_19 rfl h1.1 h1.2 dX9_isSign_1 ?_
  refine V_iconst (v := (4 : Int32)) dX9_isSign_4 (by decide) ?_
  refine V_icmp_ne (tgt := 25) dX9_isSign_5 (by decide) (fun h6 => ?_) (fun h6 => ?_)
  · have hf := it_f h6 hf
    refine V_iconst (v := (0 : Int32)) dX9_isSign_25 (by decide) ?_
    exact V_ireturn dX9_isSign_26 rfl (by decide) (Nat.le_refl 0) (kI_of hf)
  · have hf := it_t (Classical.not_not.mp h6) hf
    refine V_aload_n (j := 0) dX9_isSign_8 rfl rfl ?_
    obtain ⟨t2, et2, hf⟩ := hf
    refine V_getR fl_X9_11 rfl h1.1 h1.2 et2 dX9_isSign_9 ?_
    refine V_aload_n (j := 0) dX9_isSign_12 rfl rfl ?_
    refine V_getI fl_X9_22 rfl h1.1 h1.2 dX9_isSign_13 ?_
    obtain ⟨h3, hf⟩ := hf
    obtain ⟨h4, hf⟩ := hf
    refine V_cald h3.1 h3.s h4 dX9_isSign_16 ?_
    refine V_iload_n (j := 1) dX9_isSign_17 rfl rfl ?_
    refine V_icmp_ne (tgt := 25) dX9_isSign_18 (by decide) (fun h5 => ?_) (fun h5 => ?_)
    · have hf := it_f h5 hf
      refine V_iconst (v := (0 : Int32)) dX9_isSign_25 (by decide) ?_
      exact V_ireturn dX9_isSign_26 rfl (by decide) (Nat.le_refl 0) (kI_of hf)
    · have hf := it_t (Classical.not_not.mp h5) hf
      refine V_iconst (v := (1 : Int32)) dX9_isSign_21 (by decide) ?_
      refine V_goto (tgt := 26) dX9_isSign_22 (by decide) ?_
      exact V_ireturn dX9_isSign_26 rfl (by decide) (Nat.le_refl 0) (kI_of hf)
def wX5_add (n : Nat) (sh : Nat → Nat × Nat) (a0 : Nat) (x1 : Int32) (z : gS) (P : gS → Prop) : Prop := (oO n sh a0 3) ∧ (∃ t2 : Nat, gr z a0 0 = some t2 ∧ ((oA n sh t2 1) ∧ (if (Int32.ofNat (sh t2).2) ≤ (gi z a0 2) then P z else (∃ t4 : Nat, gr z a0 0 = some t4 ∧ ((oA n sh t4 1) ∧ ((vp_in (gi z a0 2) (sh t4).2) ∧ (∀ z7 : gS, z7 = si z t4 (gi z a0 2).toNatClampNeg x1 → (∀ z8 : gS, z8 = si z7 a0 2 ((gi z7 a0 2) + (1 : Int32)) → P z8))))))))
set_option maxRecDepth 100000 in
set_option maxHeartbeats 4000000 in
theorem ctX5_add {E : gE} {n : Nat} {sh : Nat → Nat × Nat} {a0 : Nat} {x1 : Int32} {z : gS} {P : gS → Prop} (hn : n ≤ 1000000) (hf : wX5_add n sh a0 x1 z P) : VM E 0 0 gyX5_add [.ref a0, .int x1] n sh z (kN n sh P) := by
  unfold wX5_add at hf
  refine VM.of (by decide +kernel) (Nat.le_of_ble_eq_true rfl) ?_
  show V E (gR 0 0) gyX5_add 0 0 0 [(0, .ref a0), (1, .int x1)] [] n sh z (kN n sh P)
  refine V_aload_n (j := 0) dX5_add_0 rfl rfl ?_
  obtain ⟨h1, hf⟩ := hf
  refine V_getI fl_X5_20 rfl h1.1 h1.2 dX5_add_1 ?_
  refine V_aload_n (j := 0) dX5_add_4 rfl rfl ?_
  obtain ⟨t2, et2, hf⟩ := hf
  refine V_getR fl_X5_11 rfl h1.1 h1.2 et2 dX5_add_5 ?_
  obtain ⟨h3, hf⟩ := hf
  refine V_alen1 h3.1 h3.s dX5_add_8 ?_
  refine V_icmp_ge (tgt := 32) dX5_add_9 (by decide) (fun h9 => ?_) (fun h9 => ?_)
  · have hf := it_t h9 hf
    exact V_return dX5_add_32 rfl (Nat.le_refl 0) (kN_of hf)
  · have hf := it_f h9 hf
    refine V_aload_n (j := 0) dX5_add_12 rfl rfl ?_
    obtain ⟨t4, et4, hf⟩ := hf
    refine V_getR fl_X5_11 rfl h1.1 h1.2 et4 dX5_add_13 ?_
    refine V_aload_n (j := 0) dX5_add_16 rfl rfl ?_
    refine V_getI fl_X5_20 rfl h1.1 h1.2 dX5_add_17 ?_
    refine V_iload_n (j := 1) dX5_add_20 rfl rfl ?_
    obtain ⟨h5, hf⟩ := hf
    obtain ⟨h6, hf⟩ := hf
    refine V_iast h5.1 h5.s h6 dX5_add_21 ?_
    refine V_nz (fun z7 ez7 => ?_)
    have hf := hf z7 ez7
    refine V_aload_n (j := 0) dX5_add_22 rfl rfl ?_
    refine V_dup dX5_add_23 rfl ?_
    refine V_getI fl_X5_20 rfl h1.1 h1.2 dX5_add_24 ?_
    refine V_iconst (v := (1 : Int32)) dX5_add_27 (by decide) ?_
    refine V_iadd dX5_add_28 ?_
    refine V_putI fl_X5_20 rfl rfl rfl rfl h1.1 h1.2 dX5_add_29 ?_
    refine V_nz (fun z8 ez8 => ?_)
    have hf := hf z8 ez8
    exact V_return dX5_add_32 rfl (Nat.le_refl 0) (kN_of hf)
def wX5_joinAt (n : Nat) (sh : Nat → Nat × Nat) (a0 : Nat) (x1 : Int32) (z : gS) (P : Int32 → gS → Prop) : Prop := if x1 = (0 : Int32) then ((oO n sh a0 5) ∧ (if (gi z a0 7) = (20 : Int32) then P (-6 : Int32) z else (if (gi z a0 7) = (21 : Int32) then P (-7 : Int32) z else P (0 : Int32) z))) else (if x1 = (1 : Int32) then ((oO n sh a0 5) ∧ (wX9_isSign n sh a0 (60 : Int32) z (fun (r6 : Int32) (z7 : gS) => if r6 = 0 then (wX9_isSign n sh a0 (61 : Int32) z7 (fun (r9 : Int32) (z10 : gS) => if r9 = 0 then P (0 : Int32) z10 else P (-9 : Int32) z10)) else P (-8 : Int32) z7))) else (if x1 = (2 : Int32) then ((oO n sh a0 5) ∧ (wX9_isSign n sh a0 (43 : Int32) z (fun (r14 : Int32) (z15 : gS) => if r14 = 0 then (wX9_isSign n sh a0 (45 : Int32) z15 (fun (r17 : Int32) (z18 : gS) => if r17 = 0 then P (0 : Int32) z18 else P (-11 : Int32) z18)) else P (-10 : Int32) z15))) else (if x1 = (3 : Int32) then ((oO n sh a0 5) ∧ (wX9_isSign n sh a0 (42 : Int32) z (fun (r22 : Int32) (z23 : gS) => if r22 = 0 then P (0 : Int32) z23 else P (-12 : Int32) z23))) else P (0 : Int32) z)))
set_option maxRecDepth 100000 in
set_option maxHeartbeats 4000000 in
theorem ctX5_joinAt {E : gE} {n : Nat} {sh : Nat → Nat × Nat} {a0 : Nat} {x1 : Int32} {z : gS} {P : Int32 → gS → Prop} (hn : n ≤ 1000000) (hf : wX5_joinAt n sh a0 x1 z P) : VM E 1 0 gyX5_joinAt [.ref a0, .int x1] n sh z (kI n sh P) := by
  unfold wX5_joinAt at hf
  refine VM.of (by decide +kernel) (Nat.le_of_ble_eq_true rfl) ?_
  show V E (gR 1 0) gyX5_joinAt 0 0 0 [(0, .ref a0), (1, .int x1)] [] n sh z (kI n sh P)
  refine V_iload_n (j := 1) dX5_joinAt_0 rfl rfl ?_
  by_cases h1 : x1 = (0 : Int32)
  · have hf := it_t h1 hf
    refine V_tableIn (off := 31) (tgt := 32) dX5_joinAt_1 (by rw [h1]; decide) (by rw [h1]; decide) (by rw [h1]; decide) (by decide) ?_
    refine V_aload_n (j := 0) dX5_joinAt_32 rfl rfl ?_
    obtain ⟨h2, hf⟩ := hf
    refine V_getI fl_X5_43 rfl h2.1 h2.2 dX5_joinAt_33 ?_
    refine V_bipush (v := (20 : Int32)) dX5_joinAt_36 (by decide) ?_
    refine V_icmp_ne (tgt := 46) dX5_joinAt_38 (by decide) (fun h4 => ?_) (fun h4 => ?_)
    · have hf := it_f h4 hf
      refine V_aload_n (j := 0) dX5_joinAt_46 rfl rfl ?_
      refine V_getI fl_X5_43 rfl h2.1 h2.2 dX5_joinAt_47 ?_
      refine V_bipush (v := (21 : Int32)) dX5_joinAt_50 (by decide) ?_
      refine V_icmp_ne (tgt := 60) dX5_joinAt_52 (by decide) (fun h3 => ?_) (fun h3 => ?_)
      · have hf := it_f h3 hf
        refine V_iconst (v := (0 : Int32)) dX5_joinAt_60 (by decide) ?_
        exact V_ireturn dX5_joinAt_61 rfl rfl (Nat.le_refl 0) (kI_of hf)
      · have hf := it_t (Classical.not_not.mp h3) hf
        refine V_bipush (v := (-7 : Int32)) dX5_joinAt_55 (by decide) ?_
        refine V_goto (tgt := 61) dX5_joinAt_57 (by decide) ?_
        exact V_ireturn dX5_joinAt_61 rfl rfl (Nat.le_refl 0) (kI_of hf)
    · have hf := it_t (Classical.not_not.mp h4) hf
      refine V_bipush (v := (-6 : Int32)) dX5_joinAt_41 (by decide) ?_
      refine V_goto (tgt := 61) dX5_joinAt_43 (by decide) ?_
      exact V_ireturn dX5_joinAt_61 rfl rfl (Nat.le_refl 0) (kI_of hf)
  · have hf := it_f h1 hf
    by_cases h5 : x1 = (1 : Int32)
    · have hf := it_t h5 hf
      refine V_tableIn (off := 61) (tgt := 62) dX5_joinAt_1 (by rw [h5]; decide) (by rw [h5]; decide) (by rw [h5]; decide) (by decide) ?_
      refine V_aload_n (j := 0) dX5_joinAt_62 rfl rfl ?_
      refine V_bipush (v := (60 : Int32)) dX5_joinAt_63 (by decide) ?_
      obtain ⟨h8, hf⟩ := hf
      refine V_cVI (ctX9_isSign hn hf) gc_X5_46 rfl h8.1 ⟨_, h8.2, by decide, rfl⟩ ⟨by decide, by decide, Nat.zero_le _, Nat.zero_le _⟩ (Nat.le_of_ble_eq_true rfl) dX5_joinAt_65 rfl hn (fun r6 z7 hf => ?_)
      refine V_if_eq (tgt := 76) dX5_joinAt_68 (by decide) (fun h12 => ?_) (fun h12 => ?_)
      · have hf := it_t h12 hf
        refine V_aload_n (j := 0) dX5_joinAt_76 rfl rfl ?_
        refine V_bipush (v := (61 : Int32)) dX5_joinAt_77 (by decide) ?_
        refine V_cVI (ctX9_isSign hn hf) gc_X5_46 rfl h8.1 ⟨_, h8.2, by decide, rfl⟩ ⟨by decide, by decide, Nat.zero_le _, Nat.zero_le _⟩ (Nat.le_of_ble_eq_true rfl) dX5_joinAt_79 rfl hn (fun r9 z10 hf => ?_)
        refine V_if_eq (tgt := 90) dX5_joinAt_82 (by decide) (fun h11 => ?_) (fun h11 => ?_)
        · have hf := it_t h11 hf
          refine V_iconst (v := (0 : Int32)) dX5_joinAt_90 (by decide) ?_
          exact V_ireturn dX5_joinAt_91 rfl rfl (Nat.le_refl 0) (kI_of hf)
        · have hf := it_f h11 hf
          refine V_bipush (v := (-9 : Int32)) dX5_joinAt_85 (by decide) ?_
          refine V_goto (tgt := 91) dX5_joinAt_87 (by decide) ?_
          exact V_ireturn dX5_joinAt_91 rfl rfl (Nat.le_refl 0) (kI_of hf)
      · have hf := it_f h12 hf
        refine V_bipush (v := (-8 : Int32)) dX5_joinAt_71 (by decide) ?_
        refine V_goto (tgt := 91) dX5_joinAt_73 (by decide) ?_
        exact V_ireturn dX5_joinAt_91 rfl rfl (Nat.le_refl 0) (kI_of hf)
    · have hf := it_f h5 hf
      by_cases h13 : x1 = (2 : Int32)
      · have hf := it_t h13 hf
        refine V_tableIn (off := 91) (tgt := 92) dX5_joinAt_1 (by rw [h13]; decide) (by rw [h13]; decide) (by rw [h13]; decide) (by decide) ?_
        refine V_aload_n (j := 0) dX5_joinAt_92 rfl rfl ?_
        refine V_bipush (v := (43 : Int32)) dX5_joinAt_93 (by decide) ?_
        obtain ⟨h16, hf⟩ := hf
        refine V_cVI (ctX9_isSign hn hf) gc_X5_46 rfl h16.1 ⟨_, h16.2, by decide, rfl⟩ ⟨by decide, by decide, Nat.zero_le _, Nat.zero_le _⟩ (Nat.le_of_ble_eq_true rfl) dX5_joinAt_95 rfl hn (fun r14 z15 hf => ?_)
        refine V_if_eq (tgt := 106) dX5_joinAt_98 (by decide) (fun h20 => ?_) (fun h20 => ?_)
        · have hf := it_t h20 hf
          refine V_aload_n (j := 0) dX5_joinAt_106 rfl rfl ?_
          refine V_bipush (v := (45 : Int32)) dX5_joinAt_107 (by decide) ?_
          refine V_cVI (ctX9_isSign hn hf) gc_X5_46 rfl h16.1 ⟨_, h16.2, by decide, rfl⟩ ⟨by decide, by decide, Nat.zero_le _, Nat.zero_le _⟩ (Nat.le_of_ble_eq_true rfl) dX5_joinAt_109 rfl hn (fun r17 z18 hf => ?_)
          refine V_if_eq (tgt := 120) dX5_joinAt_112 (by decide) (fun h19 => ?_) (fun h19 => ?_)
          · have hf := it_t h19 hf
            refine V_iconst (v := (0 : Int32)) dX5_joinAt_120 (by decide) ?_
            exact V_ireturn dX5_joinAt_121 rfl rfl (Nat.le_refl 0) (kI_of hf)
          · have hf := it_f h19 hf
            refine V_bipush (v := (-11 : Int32)) dX5_joinAt_115 (by decide) ?_
            refine V_goto (tgt := 121) dX5_joinAt_117 (by decide) ?_
            exact V_ireturn dX5_joinAt_121 rfl rfl (Nat.le_refl 0) (kI_of hf)
        · have hf := it_f h20 hf
          refine V_bipush (v := (-10 : Int32)) dX5_joinAt_101 (by decide) ?_
          refine V_goto (tgt := 121) dX5_joinAt_103 (by decide) ?_
          exact V_ireturn dX5_joinAt_121 rfl rfl (Nat.le_refl 0) (kI_of hf)
      · have hf := it_f h13 hf
        by_cases h21 : x1 = (3 : Int32)
        · have hf := it_t h21 hf
          refine V_tableIn (off := 121) (tgt := 122) dX5_joinAt_1 (by rw [h21]; decide) (by rw [h21]; decide) (by rw [h21]; decide) (by decide) ?_
          refine V_aload_n (j := 0) dX5_joinAt_122 rfl rfl ?_
          refine V_bipush (v := (42 : Int32)) dX5_joinAt_123 (by decide) ?_
          obtain ⟨h24, hf⟩ := hf
          refine V_cVI (ctX9_isSign hn hf) gc_X5_46 rfl h24.1 ⟨_, h24.2, by decide, rfl⟩ ⟨by decide, by decide, Nat.zero_le _, Nat.zero_le _⟩ (Nat.le_of_ble_eq_true rfl) dX5_joinAt_125 rfl hn (fun r22 z23 hf => ?_)
          refine V_if_eq (tgt := 136) dX5_joinAt_128 (by decide) (fun h25 => ?_) (fun h25 => ?_)
          · have hf := it_t h25 hf
            refine V_iconst (v := (0 : Int32)) dX5_joinAt_136 (by decide) ?_
            exact V_ireturn dX5_joinAt_137 rfl rfl (Nat.le_refl 0) (kI_of hf)
          · have hf := it_f h25 hf
            refine V_bipush (v := (-12 : Int32)) dX5_joinAt_131 (by decide) ?_
            refine V_goto (tgt := 137) dX5_joinAt_133 (by decide) ?_
            exact V_ireturn dX5_joinAt_137 rfl rfl (Nat.le_refl 0) (kI_of hf)
        · have hf := it_f h21 hf
          refine V_tableOut (tgt := 138) dX5_joinAt_1 (by have qh1 := sw_ne (a := 0) h1 (by decide); have qh5 := sw_ne (a := 1) h5 (by decide); have qh13 := sw_ne (a := 2) h13 (by decide); have qh21 := sw_ne (a := 3) h21 (by decide); omega) (by decide) ?_
          refine V_iconst (v := (0 : Int32)) dX5_joinAt_138 (by decide) ?_
          exact V_ireturn dX5_joinAt_139 rfl rfl (Nat.le_refl 0) (kI_of hf)
def wX9_clear (n : Nat) (sh : Nat → Nat × Nat) (a0 : Nat) (z : gS) (P : gS → Prop) : Prop := (oO n sh a0 5) ∧ (∀ z2 : gS, z2 = si z a0 1 (0 : Int32) → P z2)
set_option maxRecDepth 100000 in
set_option maxHeartbeats 4000000 in
theorem ctX9_clear {E : gE} {n : Nat} {sh : Nat → Nat × Nat} {a0 : Nat} {z : gS} {P : gS → Prop} (hn : n ≤ 1000000) (hf : wX9_clear n sh a0 z P) : VM E 0 0 gyX9_clear [.ref a0] n sh z (kN n sh P) := by
  unfold wX9_clear at hf
  refine VM.of (by decide +kernel) (Nat.le_of_ble_eq_true rfl) ?_
  show V E (gR 0 0) gyX9_clear 0 0 0 [(0, .ref a0)] [] n sh z (kN n sh P)
  refine V_aload_n (j := 0) dX9_clear_0 rfl rfl ?_
  refine V_iconst (v := (0 : Int32)) dX9_clear_1 (by decide) ?_
  obtain ⟨h1, hf⟩ := hf
  refine V_putI fl_X9_15 rfl rfl rfl rfl h1.1 h1.2 dX9_clear_2 ?_
  refine V_nz (fun z2 ez2 => ?_)
  have hf := hf z2 ez2
  exact V_return dX9_clear_5 rfl (Nat.le_refl 0) (kN_of hf)
def wX10_begin_B42 (n : Nat) (sh : Nat → Nat × Nat) (k42 : Nat → Int32 → gS → Prop) (P : gS → Prop) (a0 : Nat) (x2 : Int32) (z : gS) : Prop := if (6 : Int32) ≤ x2 then P z else ((oO n sh a0 6) ∧ (∃ t6 : Nat, gr z a0 6 = some t6 ∧ ((oA n sh t6 1) ∧ ((vp_in x2 (sh t6).2) ∧ (∀ z9 : gS, z9 = si z t6 x2.toNatClampNeg (0 : Int32) → (∀ v10 : Int32, v10 = x2 + (1 : Int32) → k42 a0 v10 z9))))))
def wX10_begin_L42 (n : Nat) (sh : Nat → Nat × Nat) (P : gS → Prop) : Nat → Nat → Int32 → gS → Prop
  | 0, _, _, _ => False
  | N + 1, a0, x2, z => wX10_begin_B42 n sh (wX10_begin_L42 n sh P N) P a0 x2 z
set_option maxRecDepth 100000 in
set_option maxHeartbeats 4000000 in
theorem vX10_begin_B42 {E : gE} {n : Nat} {sh : Nat → Nat × Nat} {P : gS → Prop} {k42 : Nat → Int32 → gS → Prop} {a0 : Nat} {x2 : Int32} {z : gS} (hn : n ≤ 1000000) (hk42 : ∀ (a0 : Nat) (x2 : Int32) (z : gS), k42 a0 x2 z → V E (gR 0 0) gyX10_begin 0 0 42 [(0, .ref a0), (2, .int x2)] [] n sh z (kN n sh P)) (hf : wX10_begin_B42 n sh k42 P a0 x2 z) : V E (gR 0 0) gyX10_begin 0 0 42 [(0, .ref a0), (2, .int x2)] [] n sh z (kN n sh P) := by
  unfold wX10_begin_B42 at hf
  refine V_iload_n (j := 1) dX10_begin_42 rfl rfl ?_
  refine V_bipush (v := (6 : Int32)) dX10_begin_43 (by decide) ?_
  refine V_icmp_ge (tgt := 61) dX10_begin_45 (by decide) (fun h11 => ?_) (fun h11 => ?_)
  · have hf := it_t h11 hf
    exact V_return dX10_begin_61 rfl (Nat.le_refl 0) (kN_of hf)
  · have hf := it_f h11 hf
    refine V_aload_n (j := 0) dX10_begin_48 rfl rfl ?_
    obtain ⟨h5, hf⟩ := hf
    obtain ⟨t6, et6, hf⟩ := hf
    refine V_getR fl_X10_31 rfl h5.1 h5.2 et6 dX10_begin_49 ?_
    refine V_iload_n (j := 1) dX10_begin_52 rfl rfl ?_
    refine V_iconst (v := (0 : Int32)) dX10_begin_53 (by decide) ?_
    obtain ⟨h7, hf⟩ := hf
    obtain ⟨h8, hf⟩ := hf
    refine V_iast h7.1 h7.s h8 dX10_begin_54 ?_
    refine V_nz (fun z9 ez9 => ?_)
    have hf := hf z9 ez9
    obtain ⟨v10, ev10⟩ : ∃ y : Int32, y = x2 + (1 : Int32) := ⟨_, rfl⟩
    refine V_iinc (j := 1) (v := v10) (ls2 := [(2, .int v10), (0, .ref a0)]) dX10_begin_55 rfl (by rw [ev10]; rfl) (by decide) rfl ?_
    have hf := hf v10 ev10
    refine V_goto (tgt := 42) dX10_begin_58 (by decide) ?_
    refine V_to [1, 0] rfl ?_
    exact hk42 _ _ _ hf
set_option maxRecDepth 100000 in
set_option maxHeartbeats 4000000 in
theorem vX10_begin_L42 {E : gE} {n : Nat} {sh : Nat → Nat × Nat} {P : gS → Prop} (hn : n ≤ 1000000) : ∀ (N : Nat) (a0 : Nat) (x2 : Int32) (z : gS), wX10_begin_L42 n sh P N a0 x2 z → V E (gR 0 0) gyX10_begin 0 0 42 [(0, .ref a0), (2, .int x2)] [] n sh z (kN n sh P) := by
  intro N
  induction N with
  | zero => intro a0 x2 z hf; exact False.elim hf
  | succ N ih => intro a0 x2 z hf; exact vX10_begin_B42 hn ih hf
def wX10_begin_B17 (n : Nat) (sh : Nat → Nat × Nat) (k17 : Nat → Nat → Int32 → gS → Prop) (P : gS → Prop) (a0 : Nat) (a1 : Nat) (x2 : Int32) (z : gS) : Prop := if (5 : Int32) ≤ x2 then ((∃ N, wX10_begin_L42 n sh P N a0 (0 : Int32) z)) else ((oO n sh a0 6) ∧ (∃ t13 : Nat, gr z a0 5 = some t13 ∧ ((oO n sh a1 4) ∧ (∃ t15 : Nat, gr z a1 4 = some t15 ∧ ((oA n sh t15 1) ∧ ((vp_in x2 (sh t15).2) ∧ ((oA n sh t13 1) ∧ ((vp_in x2 (sh t13).2) ∧ (∀ z20 : gS, z20 = si z t13 x2.toNatClampNeg (gi z t15 x2.toNatClampNeg) → (∀ v21 : Int32, v21 = x2 + (1 : Int32) → k17 a0 a1 v21 z20))))))))))
def wX10_begin_L17 (n : Nat) (sh : Nat → Nat × Nat) (P : gS → Prop) : Nat → Nat → Nat → Int32 → gS → Prop
  | 0, _, _, _, _ => False
  | N + 1, a0, a1, x2, z => wX10_begin_B17 n sh (wX10_begin_L17 n sh P N) P a0 a1 x2 z
set_option maxRecDepth 100000 in
set_option maxHeartbeats 4000000 in
theorem vX10_begin_B17 {E : gE} {n : Nat} {sh : Nat → Nat × Nat} {P : gS → Prop} {k17 : Nat → Nat → Int32 → gS → Prop} {a0 : Nat} {a1 : Nat} {x2 : Int32} {z : gS} (hn : n ≤ 1000000) (hk17 : ∀ (a0 : Nat) (a1 : Nat) (x2 : Int32) (z : gS), k17 a0 a1 x2 z → V E (gR 0 0) gyX10_begin 0 0 17 [(0, .ref a0), (1, .ref a1), (2, .int x2)] [] n sh z (kN n sh P)) (hf : wX10_begin_B17 n sh k17 P a0 a1 x2 z) : V E (gR 0 0) gyX10_begin 0 0 17 [(0, .ref a0), (1, .ref a1), (2, .int x2)] [] n sh z (kN n sh P) := by
  unfold wX10_begin_B17 at hf
  refine V_iload_n (j := 2) dX10_begin_17 rfl rfl ?_
  refine V_iconst (v := (5 : Int32)) dX10_begin_18 (by decide) ?_
  refine V_icmp_ge (tgt := 40) dX10_begin_19 (by decide) (fun h22 => ?_) (fun h22 => ?_)
  · have hf := it_t h22 hf
    refine V_iconst (v := (0 : Int32)) dX10_begin_40 (by decide) ?_
    refine V_istore_n (ls2 := [(2, .int (0 : Int32)), (0, .ref a0), (1, .ref a1)]) dX10_begin_41 rfl (by decide) rfl ?_
    obtain ⟨N, hf⟩ := hf
    refine V_to [1, 0] rfl ?_
    exact vX10_begin_L42 hn N _ _ _ hf
  · have hf := it_f h22 hf
    refine V_aload_n (j := 0) dX10_begin_22 rfl rfl ?_
    obtain ⟨h12, hf⟩ := hf
    obtain ⟨t13, et13, hf⟩ := hf
    refine V_getR fl_X10_27 rfl h12.1 h12.2 et13 dX10_begin_23 ?_
    refine V_iload_n (j := 2) dX10_begin_26 rfl rfl ?_
    refine V_aload_n (j := 1) dX10_begin_27 rfl rfl ?_
    obtain ⟨h14, hf⟩ := hf
    obtain ⟨t15, et15, hf⟩ := hf
    refine V_getR fl_X10_37 rfl h14.1 h14.2 et15 dX10_begin_28 ?_
    refine V_iload_n (j := 2) dX10_begin_31 rfl rfl ?_
    obtain ⟨h16, hf⟩ := hf
    obtain ⟨h17, hf⟩ := hf
    refine V_iald h16.1 h16.s h17 dX10_begin_32 ?_
    obtain ⟨h18, hf⟩ := hf
    obtain ⟨h19, hf⟩ := hf
    refine V_iast h18.1 h18.s h19 dX10_begin_33 ?_
    refine V_nz (fun z20 ez20 => ?_)
    have hf := hf z20 ez20
    obtain ⟨v21, ev21⟩ : ∃ y : Int32, y = x2 + (1 : Int32) := ⟨_, rfl⟩
    refine V_iinc (j := 2) (v := v21) (ls2 := [(2, .int v21), (0, .ref a0), (1, .ref a1)]) dX10_begin_34 rfl (by rw [ev21]; rfl) (by decide) rfl ?_
    have hf := hf v21 ev21
    refine V_goto (tgt := 17) dX10_begin_37 (by decide) ?_
    refine V_to [1, 2, 0] rfl ?_
    exact hk17 _ _ _ _ hf
set_option maxRecDepth 100000 in
set_option maxHeartbeats 4000000 in
theorem vX10_begin_L17 {E : gE} {n : Nat} {sh : Nat → Nat × Nat} {P : gS → Prop} (hn : n ≤ 1000000) : ∀ (N : Nat) (a0 : Nat) (a1 : Nat) (x2 : Int32) (z : gS), wX10_begin_L17 n sh P N a0 a1 x2 z → V E (gR 0 0) gyX10_begin 0 0 17 [(0, .ref a0), (1, .ref a1), (2, .int x2)] [] n sh z (kN n sh P) := by
  intro N
  induction N with
  | zero => intro a0 a1 x2 z hf; exact False.elim hf
  | succ N ih => intro a0 a1 x2 z hf; exact vX10_begin_B17 hn ih hf
def wX10_begin (n : Nat) (sh : Nat → Nat × Nat) (a0 : Nat) (a1 : Nat) (z : gS) (P : gS → Prop) : Prop := (oO n sh a0 6) ∧ (∀ z2 : gS, z2 = si z a0 0 (0 : Int32) → (∀ z3 : gS, z3 = si z2 a0 1 (0 : Int32) → (∀ z4 : gS, z4 = si z3 a0 2 (0 : Int32) → ((∃ N, wX10_begin_L17 n sh P N a0 a1 (0 : Int32) z4)))))
set_option maxRecDepth 100000 in
set_option maxHeartbeats 4000000 in
theorem ctX10_begin {E : gE} {n : Nat} {sh : Nat → Nat × Nat} {a0 : Nat} {a1 : Nat} {z : gS} {P : gS → Prop} (hn : n ≤ 1000000) (hf : wX10_begin n sh a0 a1 z P) : VM E 0 0 gyX10_begin [.ref a0, .ref a1] n sh z (kN n sh P) := by
  unfold wX10_begin at hf
  refine VM.of (by decide +kernel) (Nat.le_of_ble_eq_true rfl) ?_
  show V E (gR 0 0) gyX10_begin 0 0 0 [(0, .ref a0), (1, .ref a1)] [] n sh z (kN n sh P)
  refine V_aload_n (j := 0) dX10_begin_0 rfl rfl ?_
  refine V_iconst (v := (0 : Int32)) dX10_begin_1 (by decide) ?_
  obtain ⟨h1, hf⟩ := hf
  refine V_putI fl_X10_11 rfl rfl rfl rfl h1.1 h1.2 dX10_begin_2 ?_
  refine V_nz (fun z2 ez2 => ?_)
  have hf := hf z2 ez2
  refine V_aload_n (j := 0) dX10_begin_5 rfl rfl ?_
  refine V_iconst (v := (0 : Int32)) dX10_begin_6 (by decide) ?_
  refine V_putI fl_X10_15 rfl rfl rfl rfl h1.1 h1.2 dX10_begin_7 ?_
  refine V_nz (fun z3 ez3 => ?_)
  have hf := hf z3 ez3
  refine V_aload_n (j := 0) dX10_begin_10 rfl rfl ?_
  refine V_iconst (v := (0 : Int32)) dX10_begin_11 (by decide) ?_
  refine V_putI fl_X10_18 rfl rfl rfl rfl h1.1 h1.2 dX10_begin_12 ?_
  refine V_nz (fun z4 ez4 => ?_)
  have hf := hf z4 ez4
  refine V_iconst (v := (0 : Int32)) dX10_begin_15 (by decide) ?_
  refine V_istore_n (ls2 := [(2, .int (0 : Int32)), (0, .ref a0), (1, .ref a1)]) dX10_begin_16 rfl (by decide) rfl ?_
  obtain ⟨N, hf⟩ := hf
  refine V_to [1, 2, 0] rfl ?_
  exact vX10_begin_L17 hn N _ _ _ _ hf
def wX10_forgetSaid (n : Nat) (sh : Nat → Nat × Nat) (a0 : Nat) (z : gS) (P : gS → Prop) : Prop := (oO n sh a0 6) ∧ (∀ z2 : gS, z2 = si z a0 3 (0 : Int32) → (∀ z3 : gS, z3 = si z2 a0 4 (0 : Int32) → P z3))
set_option maxRecDepth 100000 in
set_option maxHeartbeats 4000000 in
theorem ctX10_forgetSaid {E : gE} {n : Nat} {sh : Nat → Nat × Nat} {a0 : Nat} {z : gS} {P : gS → Prop} (hn : n ≤ 1000000) (hf : wX10_forgetSaid n sh a0 z P) : VM E 0 0 gyX10_forgetSaid [.ref a0] n sh z (kN n sh P) := by
  unfold wX10_forgetSaid at hf
  refine VM.of (by decide +kernel) (Nat.le_of_ble_eq_true rfl) ?_
  show V E (gR 0 0) gyX10_forgetSaid 0 0 0 [(0, .ref a0)] [] n sh z (kN n sh P)
  refine V_aload_n (j := 0) dX10_forgetSaid_0 rfl rfl ?_
  refine V_iconst (v := (0 : Int32)) dX10_forgetSaid_1 (by decide) ?_
  obtain ⟨h1, hf⟩ := hf
  refine V_putI fl_X10_21 rfl rfl rfl rfl h1.1 h1.2 dX10_forgetSaid_2 ?_
  refine V_nz (fun z2 ez2 => ?_)
  have hf := hf z2 ez2
  refine V_aload_n (j := 0) dX10_forgetSaid_5 rfl rfl ?_
  refine V_iconst (v := (0 : Int32)) dX10_forgetSaid_6 (by decide) ?_
  refine V_putI fl_X10_24 rfl rfl rfl rfl h1.1 h1.2 dX10_forgetSaid_7 ?_
  refine V_nz (fun z3 ez3 => ?_)
  have hf := hf z3 ez3
  exact V_return dX10_forgetSaid_10 rfl (Nat.le_refl 0) (kN_of hf)
def wX4_clear (n : Nat) (sh : Nat → Nat × Nat) (a0 : Nat) (z : gS) (P : gS → Prop) : Prop := (oO n sh a0 2) ∧ (∀ z2 : gS, z2 = si z a0 1 (0 : Int32) → P z2)
set_option maxRecDepth 100000 in
set_option maxHeartbeats 4000000 in
theorem ctX4_clear {E : gE} {n : Nat} {sh : Nat → Nat × Nat} {a0 : Nat} {z : gS} {P : gS → Prop} (hn : n ≤ 1000000) (hf : wX4_clear n sh a0 z P) : VM E 0 0 gyX4_clear [.ref a0] n sh z (kN n sh P) := by
  unfold wX4_clear at hf
  refine VM.of (by decide +kernel) (Nat.le_of_ble_eq_true rfl) ?_
  show V E (gR 0 0) gyX4_clear 0 0 0 [(0, .ref a0)] [] n sh z (kN n sh P)
  refine V_aload_n (j := 0) dX4_clear_0 rfl rfl ?_
  refine V_iconst (v := (0 : Int32)) dX4_clear_1 (by decide) ?_
  obtain ⟨h1, hf⟩ := hf
  refine V_putI fl_X4_15 rfl rfl rfl rfl h1.1 h1.2 dX4_clear_2 ?_
  refine V_nz (fun z2 ez2 => ?_)
  have hf := hf z2 ez2
  exact V_return dX4_clear_5 rfl (Nat.le_refl 0) (kN_of hf)
def wX0_clear (n : Nat) (sh : Nat → Nat × Nat) (a0 : Nat) (z : gS) (P : gS → Prop) : Prop := (oO n sh a0 0) ∧ (∀ z2 : gS, z2 = si z a0 3 (0 : Int32) → P z2)
set_option maxRecDepth 100000 in
set_option maxHeartbeats 4000000 in
theorem ctX0_clear {E : gE} {n : Nat} {sh : Nat → Nat × Nat} {a0 : Nat} {z : gS} {P : gS → Prop} (hn : n ≤ 1000000) (hf : wX0_clear n sh a0 z P) : VM E 0 0 gyX0_clear [.ref a0] n sh z (kN n sh P) := by
  unfold wX0_clear at hf
  refine VM.of (by decide +kernel) (Nat.le_of_ble_eq_true rfl) ?_
  show V E (gR 0 0) gyX0_clear 0 0 0 [(0, .ref a0)] [] n sh z (kN n sh P)
  refine V_aload_n (j := 0) dX0_clear_0 rfl rfl ?_
  refine V_iconst (v := (0 : Int32)) dX0_clear_1 (by decide) ?_
  obtain ⟨h1, hf⟩ := hf
  refine V_putI fl_X0_21 rfl rfl rfl rfl h1.1 h1.2 dX0_clear_2 ?_
  refine V_nz (fun z2 ez2 => ?_)
  have hf := hf z2 ez2
  exact V_return dX0_clear_5 rfl (Nat.le_refl 0) (kN_of hf)
def wX7_hasPane (n : Nat) (sh : Nat → Nat × Nat) (a0 : Nat) (x1 : Int32) (z : gS) (P : Int32 → gS → Prop) : Prop := if x1 < 0 then P (0 : Int32) z else ((oO n sh a0 4) ∧ (if (gi z a0 10) ≤ x1 then P (0 : Int32) z else P (1 : Int32) z))
set_option maxRecDepth 100000 in
set_option maxHeartbeats 4000000 in
theorem ctX7_hasPane {E : gE} {n : Nat} {sh : Nat → Nat × Nat} {a0 : Nat} {x1 : Int32} {z : gS} {P : Int32 → gS → Prop} (hn : n ≤ 1000000) (hf : wX7_hasPane n sh a0 x1 z P) : VM E 0 0 gyX7_hasPane [.ref a0, .int x1] n sh z (kI n sh P) := by
  unfold wX7_hasPane at hf
  refine VM.of (by decide +kernel) (Nat.le_of_ble_eq_true rfl) ?_
  show V E (gR 0 0) gyX7_hasPane 0 0 0 [(0, .ref a0), (1, .int x1)] [] n sh z (kI n sh P)
  refine V_iload_n (j := 1) dX7_hasPane_0 rfl rfl ?_
  refine V_if_lt (tgt := 16) dX7_hasPane_1 (by decide) (fun h3 => ?_) (fun h3 => ?_)
  · have hf := it_t h3 hf
    refine V_iconst (v := (0 : Int32)) dX7_hasPane_16 (by decide) ?_
    exact V_ireturn dX7_hasPane_17 rfl (by decide) (Nat.le_refl 0) (kI_of hf)
  · have hf := it_f h3 hf
    refine V_iload_n (j := 1) dX7_hasPane_4 rfl rfl ?_
    refine V_aload_n (j := 0) dX7_hasPane_5 rfl rfl ?_
    obtain ⟨h1, hf⟩ := hf
    refine V_getI fl_X7_47 rfl h1.1 h1.2 dX7_hasPane_6 ?_
    refine V_icmp_ge (tgt := 16) dX7_hasPane_9 (by decide) (fun h2 => ?_) (fun h2 => ?_)
    · have hf := it_t h2 hf
      refine V_iconst (v := (0 : Int32)) dX7_hasPane_16 (by decide) ?_
      exact V_ireturn dX7_hasPane_17 rfl (by decide) (Nat.le_refl 0) (kI_of hf)
    · have hf := it_f h2 hf
      refine V_iconst (v := (1 : Int32)) dX7_hasPane_12 (by decide) ?_
      refine V_goto (tgt := 17) dX7_hasPane_13 (by decide) ?_
      exact V_ireturn dX7_hasPane_17 rfl (by decide) (Nat.le_refl 0) (kI_of hf)
def wX10_isDrawn (n : Nat) (sh : Nat → Nat × Nat) (a0 : Nat) (x1 : Int32) (z : gS) (P : Int32 → gS → Prop) : Prop := (oO n sh a0 6) ∧ (if (((gi z a0 1) >>> (x1 &&& 31)) &&& (1 : Int32)) = 0 then P (0 : Int32) z else P (1 : Int32) z)
set_option maxRecDepth 100000 in
set_option maxHeartbeats 4000000 in
theorem ctX10_isDrawn {E : gE} {n : Nat} {sh : Nat → Nat × Nat} {a0 : Nat} {x1 : Int32} {z : gS} {P : Int32 → gS → Prop} (hn : n ≤ 1000000) (hf : wX10_isDrawn n sh a0 x1 z P) : VM E 0 0 gyX10_isDrawn [.ref a0, .int x1] n sh z (kI n sh P) := by
  unfold wX10_isDrawn at hf
  refine VM.of (by decide +kernel) (Nat.le_of_ble_eq_true rfl) ?_
  show V E (gR 0 0) gyX10_isDrawn 0 0 0 [(0, .ref a0), (1, .int x1)] [] n sh z (kI n sh P)
  refine V_aload_n (j := 0) dX10_isDrawn_0 rfl rfl ?_
  obtain ⟨h1, hf⟩ := hf
  refine V_getI fl_X10_15 rfl h1.1 h1.2 dX10_isDrawn_1 ?_
  refine V_iload_n (j := 1) dX10_isDrawn_4 rfl rfl ?_
  refine V_ishr dX10_isDrawn_5 ?_
  refine V_iconst (v := (1 : Int32)) dX10_isDrawn_6 (by decide) ?_
  refine V_iand dX10_isDrawn_7 ?_
  refine V_if_eq (tgt := 15) dX10_isDrawn_8 (by decide) (fun h2 => ?_) (fun h2 => ?_)
  · have hf := it_t h2 hf
    refine V_iconst (v := (0 : Int32)) dX10_isDrawn_15 (by decide) ?_
    exact V_ireturn dX10_isDrawn_16 rfl (by decide) (Nat.le_refl 0) (kI_of hf)
  · have hf := it_f h2 hf
    refine V_iconst (v := (1 : Int32)) dX10_isDrawn_11 (by decide) ?_
    refine V_goto (tgt := 16) dX10_isDrawn_12 (by decide) ?_
    exact V_ireturn dX10_isDrawn_16 rfl (by decide) (Nat.le_refl 0) (kI_of hf)
def wX10_isBroken (n : Nat) (sh : Nat → Nat × Nat) (a0 : Nat) (x1 : Int32) (z : gS) (P : Int32 → gS → Prop) : Prop := (oO n sh a0 6) ∧ (if (((gi z a0 2) >>> (x1 &&& 31)) &&& (1 : Int32)) = 0 then P (0 : Int32) z else P (1 : Int32) z)
set_option maxRecDepth 100000 in
set_option maxHeartbeats 4000000 in
theorem ctX10_isBroken {E : gE} {n : Nat} {sh : Nat → Nat × Nat} {a0 : Nat} {x1 : Int32} {z : gS} {P : Int32 → gS → Prop} (hn : n ≤ 1000000) (hf : wX10_isBroken n sh a0 x1 z P) : VM E 0 0 gyX10_isBroken [.ref a0, .int x1] n sh z (kI n sh P) := by
  unfold wX10_isBroken at hf
  refine VM.of (by decide +kernel) (Nat.le_of_ble_eq_true rfl) ?_
  show V E (gR 0 0) gyX10_isBroken 0 0 0 [(0, .ref a0), (1, .int x1)] [] n sh z (kI n sh P)
  refine V_aload_n (j := 0) dX10_isBroken_0 rfl rfl ?_
  obtain ⟨h1, hf⟩ := hf
  refine V_getI fl_X10_18 rfl h1.1 h1.2 dX10_isBroken_1 ?_
  refine V_iload_n (j := 1) dX10_isBroken_4 rfl rfl ?_
  refine V_ishr dX10_isBroken_5 ?_
  refine V_iconst (v := (1 : Int32)) dX10_isBroken_6 (by decide) ?_
  refine V_iand dX10_isBroken_7 ?_
  refine V_if_eq (tgt := 15) dX10_isBroken_8 (by decide) (fun h2 => ?_) (fun h2 => ?_)
  · have hf := it_t h2 hf
    refine V_iconst (v := (0 : Int32)) dX10_isBroken_15 (by decide) ?_
    exact V_ireturn dX10_isBroken_16 rfl (by decide) (Nat.le_refl 0) (kI_of hf)
  · have hf := it_f h2 hf
    refine V_iconst (v := (1 : Int32)) dX10_isBroken_11 (by decide) ?_
    refine V_goto (tgt := 16) dX10_isBroken_12 (by decide) ?_
    exact V_ireturn dX10_isBroken_16 rfl (by decide) (Nat.le_refl 0) (kI_of hf)
def wJ9_floorMod_7cf53 (n : Nat) (sh : Nat → Nat × Nat) (x0 : Int32) (x1 : Int32) (z : gS) (P : Int32 → gS → Prop) : Prop := (¬ x1 = 0) ∧ (∀ v1 : Int32, v1 = (x0 - x0 / x1 * x1) → (if 0 ≤ (x0 ^^^ x1) then P v1 z else (if v1 = 0 then P v1 z else P (v1 + x1) z)))
set_option maxRecDepth 100000 in
set_option maxHeartbeats 4000000 in
theorem ctJ9_floorMod_7cf53 {E : gE} {n : Nat} {sh : Nat → Nat × Nat} {x0 : Int32} {x1 : Int32} {z : gS} {P : Int32 → gS → Prop} (hn : n ≤ 1000000) (hf : wJ9_floorMod_7cf53 n sh x0 x1 z P) : VM E 0 0 gyJ9_floorMod_7cf53 [.int x0, .int x1] n sh z (kI n sh P) := by
  unfold wJ9_floorMod_7cf53 at hf
  refine VM.of (by decide +kernel) (Nat.le_of_ble_eq_true rfl) ?_
  show V E (gR 0 0) gyJ9_floorMod_7cf53 0 0 0 [(0, .int x0), (1, .int x1)] [] n sh z (kI n sh P)
  refine V_iload_n (j := 0) dJ9_floorMod_7cf53_0 rfl rfl ?_
  refine V_iload_n (j := 1) dJ9_floorMod_7cf53_1 rfl rfl ?_
  obtain ⟨h4, hf⟩ := hf
  refine V_irem dJ9_floorMod_7cf53_2 h4 ?_
  refine V_nI (fun v1 ev1 => ?_)
  have hf := hf v1 ev1
  refine V_istore_n (ls2 := [(2, .int v1), (0, .int x0), (1, .int x1)]) dJ9_floorMod_7cf53_3 rfl (by decide) rfl ?_
  refine V_iload_n (j := 1) dJ9_floorMod_7cf53_4 rfl rfl ?_
  refine V_iload_n (j := 2) dJ9_floorMod_7cf53_5 rfl rfl ?_
  refine V_ixor dJ9_floorMod_7cf53_6 ?_
  refine V_if_ge (tgt := 18) dJ9_floorMod_7cf53_7 (by decide) (fun h3 => ?_) (fun h3 => ?_)
  · have hf := it_t h3 hf
    refine V_iload_n (j := 0) dJ9_floorMod_7cf53_18 rfl rfl ?_
    exact V_ireturn dJ9_floorMod_7cf53_19 rfl rfl (Nat.le_refl 0) (kI_of hf)
  · have hf := it_f h3 hf
    refine V_iload_n (j := 0) dJ9_floorMod_7cf53_10 rfl rfl ?_
    refine V_if_eq (tgt := 18) dJ9_floorMod_7cf53_11 (by decide) (fun h2 => ?_) (fun h2 => ?_)
    · have hf := it_t h2 hf
      refine V_iload_n (j := 0) dJ9_floorMod_7cf53_18 rfl rfl ?_
      exact V_ireturn dJ9_floorMod_7cf53_19 rfl rfl (Nat.le_refl 0) (kI_of hf)
    · have hf := it_f h2 hf
      refine V_iload_n (j := 0) dJ9_floorMod_7cf53_14 rfl rfl ?_
      refine V_iload_n (j := 2) dJ9_floorMod_7cf53_15 rfl rfl ?_
      refine V_iadd dJ9_floorMod_7cf53_16 ?_
      exact V_ireturn dJ9_floorMod_7cf53_17 rfl rfl (Nat.le_refl 0) (kI_of hf)
def wX7_lightAt (n : Nat) (sh : Nat → Nat × Nat) (a0 : Nat) (x1 : Int32) (z : gS) (P : Int32 → gS → Prop) : Prop := (oO n sh a0 4) ∧ (if 0 < (gi z a0 13) then (∃ t2 : Nat, gr z a0 6 = some t2 ∧ (wJ9_floorMod_7cf53 n sh x1 (gi z a0 13) z (fun (r3 : Int32) (z4 : gS) => (oA n sh t2 1) ∧ ((vp_in r3 (sh t2).2) ∧ P (gi z4 t2 r3.toNatClampNeg) z4)))) else P (1 : Int32) z)
set_option maxRecDepth 100000 in
set_option maxHeartbeats 4000000 in
theorem ctX7_lightAt {E : gE} {n : Nat} {sh : Nat → Nat × Nat} {a0 : Nat} {x1 : Int32} {z : gS} {P : Int32 → gS → Prop} (hn : n ≤ 1000000) (hf : wX7_lightAt n sh a0 x1 z P) : VM E 1 0 gyX7_lightAt [.ref a0, .int x1] n sh z (kI n sh P) := by
  unfold wX7_lightAt at hf
  refine VM.of (by decide +kernel) (Nat.le_of_ble_eq_true rfl) ?_
  show V E (gR 1 0) gyX7_lightAt 0 0 0 [(0, .ref a0), (1, .int x1)] [] n sh z (kI n sh P)
  refine V_aload_n (j := 0) dX7_lightAt_0 rfl rfl ?_
  obtain ⟨h1, hf⟩ := hf
  refine V_getI fl_X7_57 rfl h1.1 h1.2 dX7_lightAt_1 ?_
  refine V_if_gt (tgt := 11) dX7_lightAt_4 (by decide) (fun h7 => ?_) (fun h7 => ?_)
  · have hf := it_t h7 hf
    refine V_aload_n (j := 0) dX7_lightAt_11 rfl rfl ?_
    obtain ⟨t2, et2, hf⟩ := hf
    refine V_getR fl_X7_34 rfl h1.1 h1.2 et2 dX7_lightAt_12 ?_
    refine V_iload_n (j := 1) dX7_lightAt_15 rfl rfl ?_
    refine V_aload_n (j := 0) dX7_lightAt_16 rfl rfl ?_
    refine V_getI fl_X7_57 rfl h1.1 h1.2 dX7_lightAt_17 ?_
    refine V_cSI (ctJ9_floorMod_7cf53 hn hf) gc_X7_67 rfl ⟨by decide, by decide, Nat.zero_le _, Nat.zero_le _⟩ (Nat.le_of_ble_eq_true rfl) dX7_lightAt_20 rfl hn (fun r3 z4 hf => ?_)
    obtain ⟨h5, hf⟩ := hf
    obtain ⟨h6, hf⟩ := hf
    refine V_iald h5.1 h5.s h6 dX7_lightAt_23 ?_
    exact V_ireturn dX7_lightAt_24 rfl rfl (Nat.le_refl 0) (kI_of hf)
  · have hf := it_f h7 hf
    refine V_iconst (v := (1 : Int32)) dX7_lightAt_7 (by decide) ?_
    refine V_goto (tgt := 24) dX7_lightAt_8 (by decide) ?_
    exact V_ireturn dX7_lightAt_24 rfl rfl (Nat.le_refl 0) (kI_of hf)
def wX10_sightOf_J41 (n : Nat) (sh : Nat → Nat × Nat) (P : Int32 → gS → Prop) (a1 : Nat) (x2 : Int32) (z : gS) : Prop := (oO n sh a1 4) ∧ (∃ t11 : Nat, gr z a1 3 = some t11 ∧ ((oA n sh t11 1) ∧ ((vp_in x2 (sh t11).2) ∧ P (gi z t11 x2.toNatClampNeg) z)))
set_option maxRecDepth 100000 in
set_option maxHeartbeats 4000000 in
theorem vX10_sightOf_J41 {E : gE} {n : Nat} {sh : Nat → Nat × Nat} {P : Int32 → gS → Prop} {a1 : Nat} {x2 : Int32} {z : gS} (hn : n ≤ 1000000) (hf : wX10_sightOf_J41 n sh P a1 x2 z) : V E (gR 2 0) gyX10_sightOf 0 0 41 [(1, .ref a1), (2, .int x2)] [] n sh z (kI n sh P) := by
  unfold wX10_sightOf_J41 at hf
  refine V_aload_n (j := 0) dX10_sightOf_41 rfl rfl ?_
  obtain ⟨h10, hf⟩ := hf
  obtain ⟨t11, et11, hf⟩ := hf
  refine V_getR fl_X10_65 rfl h10.1 h10.2 et11 dX10_sightOf_42 ?_
  refine V_iload_n (j := 1) dX10_sightOf_45 rfl rfl ?_
  obtain ⟨h12, hf⟩ := hf
  obtain ⟨h13, hf⟩ := hf
  refine V_iald h12.1 h12.s h13 dX10_sightOf_46 ?_
  exact V_ireturn dX10_sightOf_47 rfl rfl (Nat.le_refl 0) (kI_of hf)
def wX10_sightOf (n : Nat) (sh : Nat → Nat × Nat) (a0 : Nat) (a1 : Nat) (x2 : Int32) (z : gS) (P : Int32 → gS → Prop) : Prop := (oO n sh a0 6) ∧ (wX10_isBroken n sh a0 x2 z (fun (r1 : Int32) (z2 : gS) => if r1 = 0 then (wX10_isDrawn n sh a0 x2 z2 (fun (r4 : Int32) (z5 : gS) => if r4 = 0 then ((oO n sh a1 4) ∧ (∃ t7 : Nat, gr z5 a1 1 = some t7 ∧ ((oA n sh t7 1) ∧ ((vp_in x2 (sh t7).2) ∧ (if (gi z5 t7 x2.toNatClampNeg) = (2 : Int32) then (wX7_lightAt n sh a1 (gi z5 a0 0) z5 (fun (r14 : Int32) (z15 : gS) => if r14 = 0 then P (0 : Int32) z15 else wX10_sightOf_J41 n sh P a1 x2 z15)) else wX10_sightOf_J41 n sh P a1 x2 z5))))) else P (0 : Int32) z5)) else P (0 : Int32) z2))
set_option maxRecDepth 100000 in
set_option maxHeartbeats 4000000 in
theorem ctX10_sightOf {E : gE} {n : Nat} {sh : Nat → Nat × Nat} {a0 : Nat} {a1 : Nat} {x2 : Int32} {z : gS} {P : Int32 → gS → Prop} (hn : n ≤ 1000000) (hf : wX10_sightOf n sh a0 a1 x2 z P) : VM E 2 0 gyX10_sightOf [.ref a0, .ref a1, .int x2] n sh z (kI n sh P) := by
  unfold wX10_sightOf at hf
  refine VM.of (by decide +kernel) (Nat.le_of_ble_eq_true rfl) ?_
  show V E (gR 2 0) gyX10_sightOf 0 0 0 [(0, .ref a0), (1, .ref a1), (2, .int x2)] [] n sh z (kI n sh P)
  refine V_aload_n (j := 0) dX10_sightOf_0 rfl rfl ?_
  refine V_iload_n (j := 2) dX10_sightOf_1 rfl rfl ?_
  obtain ⟨h3, hf⟩ := hf
  refine V_cVI (ctX10_isBroken hn hf) gc_X10_48 rfl h3.1 ⟨_, h3.2, by decide, rfl⟩ ⟨by decide, by decide, Nat.zero_le _, Nat.zero_le _⟩ (Nat.le_of_ble_eq_true rfl) dX10_sightOf_2 rfl hn (fun r1 z2 hf => ?_)
  refine V_if_ne (tgt := 16) dX10_sightOf_5 (by decide) (fun h19 => ?_) (fun h19 => ?_)
  · have hf := it_f h19 hf
    refine V_iconst (v := (0 : Int32)) dX10_sightOf_16 (by decide) ?_
    exact V_ireturn dX10_sightOf_17 rfl rfl (Nat.le_refl 0) (kI_of hf)
  · have hf := it_t (Classical.not_not.mp h19) hf
    refine V_aload_n (j := 0) dX10_sightOf_8 rfl rfl ?_
    refine V_iload_n (j := 2) dX10_sightOf_9 rfl rfl ?_
    refine V_cVI (ctX10_isDrawn hn hf) gc_X10_52 rfl h3.1 ⟨_, h3.2, by decide, rfl⟩ ⟨by decide, by decide, Nat.zero_le _, Nat.zero_le _⟩ (Nat.le_of_ble_eq_true rfl) dX10_sightOf_10 rfl hn (fun r4 z5 hf => ?_)
    refine V_if_eq (tgt := 18) dX10_sightOf_13 (by decide) (fun h18 => ?_) (fun h18 => ?_)
    · have hf := it_t h18 hf
      refine V_aload_n (j := 1) dX10_sightOf_18 rfl rfl ?_
      obtain ⟨h6, hf⟩ := hf
      obtain ⟨t7, et7, hf⟩ := hf
      refine V_getR fl_X10_55 rfl h6.1 h6.2 et7 dX10_sightOf_19 ?_
      refine V_iload_n (j := 2) dX10_sightOf_22 rfl rfl ?_
      obtain ⟨h8, hf⟩ := hf
      obtain ⟨h9, hf⟩ := hf
      refine V_iald h8.1 h8.s h9 dX10_sightOf_23 ?_
      refine V_iconst (v := (2 : Int32)) dX10_sightOf_24 (by decide) ?_
      refine V_icmp_ne (tgt := 41) dX10_sightOf_25 (by decide) (fun h17 => ?_) (fun h17 => ?_)
      · have hf := it_f h17 hf
        refine V_to [1, 2] rfl ?_
        exact vX10_sightOf_J41 hn hf
      · have hf := it_t (Classical.not_not.mp h17) hf
        refine V_aload_n (j := 1) dX10_sightOf_28 rfl rfl ?_
        refine V_aload_n (j := 0) dX10_sightOf_29 rfl rfl ?_
        refine V_getI fl_X10_11 rfl h3.1 h3.2 dX10_sightOf_30 ?_
        refine V_cVI (ctX7_lightAt hn hf) gc_X10_61 rfl h6.1 ⟨_, h6.2, by decide, rfl⟩ ⟨by decide, by decide, Nat.zero_le _, Nat.zero_le _⟩ (Nat.le_of_ble_eq_true rfl) dX10_sightOf_33 rfl hn (fun r14 z15 hf => ?_)
        refine V_if_ne (tgt := 41) dX10_sightOf_36 (by decide) (fun h16 => ?_) (fun h16 => ?_)
        · have hf := it_f h16 hf
          refine V_to [1, 2] rfl ?_
          exact vX10_sightOf_J41 hn hf
        · have hf := it_t (Classical.not_not.mp h16) hf
          refine V_iconst (v := (0 : Int32)) dX10_sightOf_39 (by decide) ?_
          exact V_ireturn dX10_sightOf_40 rfl rfl (Nat.le_refl 0) (kI_of hf)
    · have hf := it_f h18 hf
      refine V_iconst (v := (0 : Int32)) dX10_sightOf_16 (by decide) ?_
      exact V_ireturn dX10_sightOf_17 rfl rfl (Nat.le_refl 0) (kI_of hf)
def wX11_pane (n : Nat) (sh : Nat → Nat × Nat) (a0 : Nat) (x1 : Int32) (x2 : Int32) (z : gS) (P : Int32 → gS → Prop) : Prop := (oO n sh a0 7) ∧ (∃ t2 : Nat, gr z a0 7 = some t2 ∧ ((oO n sh t2 4) ∧ (wX7_hasPane n sh t2 x1 z (fun (r3 : Int32) (z4 : gS) => if r3 = 0 then P (-2 : Int32) z4 else (if x2 = (0 : Int32) then (∃ t7 : Nat, gr z4 a0 7 = some t7 ∧ ((oO n sh t7 4) ∧ (∃ t9 : Nat, gr z4 t7 1 = some t9 ∧ ((oA n sh t9 1) ∧ ((vp_in x1 (sh t9).2) ∧ P (gi z4 t9 x1.toNatClampNeg) z4))))) else (if x2 = (1 : Int32) then (∃ t13 : Nat, gr z4 a0 7 = some t13 ∧ ((oO n sh t13 4) ∧ (∃ t15 : Nat, gr z4 t13 2 = some t15 ∧ ((oA n sh t15 1) ∧ ((vp_in x1 (sh t15).2) ∧ P (gi z4 t15 x1.toNatClampNeg) z4))))) else (if x2 = (2 : Int32) then (∃ t19 : Nat, gr z4 a0 1 = some t19 ∧ ((oO n sh t19 6) ∧ (∃ t21 : Nat, gr z4 t19 6 = some t21 ∧ ((oA n sh t21 1) ∧ ((vp_in x1 (sh t21).2) ∧ P (gi z4 t21 x1.toNatClampNeg) z4))))) else (if x2 = (3 : Int32) then (∃ t25 : Nat, gr z4 a0 1 = some t25 ∧ ((oO n sh t25 6) ∧ (wX10_isDrawn n sh t25 x1 z4 (fun (r26 : Int32) (z27 : gS) => if r26 = 0 then P (0 : Int32) z27 else P (1 : Int32) z27)))) else (if x2 = (4 : Int32) then (∃ t31 : Nat, gr z4 a0 1 = some t31 ∧ ((oO n sh t31 6) ∧ (wX10_isBroken n sh t31 x1 z4 (fun (r32 : Int32) (z33 : gS) => if r32 = 0 then P (0 : Int32) z33 else P (1 : Int32) z33)))) else (if x2 = (5 : Int32) then (∃ t37 : Nat, gr z4 a0 1 = some t37 ∧ (∃ t38 : Nat, gr z4 a0 7 = some t38 ∧ ((oO n sh t37 6) ∧ (wX10_sightOf n sh t37 t38 x1 z4 (fun (r39 : Int32) (z40 : gS) => P r39 z40))))) else P (-2 : Int32) z4))))))))))
set_option maxRecDepth 100000 in
set_option maxHeartbeats 4000000 in
theorem ctX11_pane {E : gE} {n : Nat} {sh : Nat → Nat × Nat} {a0 : Nat} {x1 : Int32} {x2 : Int32} {z : gS} {P : Int32 → gS → Prop} (hn : n ≤ 1000000) (hf : wX11_pane n sh a0 x1 x2 z P) : VM E 3 0 gyX11_pane [.ref a0, .int x1, .int x2] n sh z (kI n sh P) := by
  unfold wX11_pane at hf
  refine VM.of (by decide +kernel) (Nat.le_of_ble_eq_true rfl) ?_
  show V E (gR 3 0) gyX11_pane 0 0 0 [(0, .ref a0), (1, .int x1), (2, .int x2)] [] n sh z (kI n sh P)
  refine V_aload_n (j := 0) dX11_pane_0 rfl rfl ?_
  obtain ⟨h1, hf⟩ := hf
  obtain ⟨t2, et2, hf⟩ := hf
  refine V_getR fl_X11_51 rfl h1.1 h1.2 et2 dX11_pane_1 ?_
  refine V_iload_n (j := 1) dX11_pane_4 rfl rfl ?_
  obtain ⟨h5, hf⟩ := hf
  refine V_cVI (ctX7_hasPane hn hf) gc_X11_101 rfl h5.1 ⟨_, h5.2, by decide, rfl⟩ ⟨by decide, by decide, Nat.zero_le _, Nat.zero_le _⟩ (Nat.le_of_ble_eq_true rfl) dX11_pane_5 rfl hn (fun r3 z4 hf => ?_)
  refine V_if_ne (tgt := 14) dX11_pane_8 (by decide) (fun h42 => ?_) (fun h42 => ?_)
  · have hf := it_f h42 hf
    refine V_iload_n (j := 2) dX11_pane_14 rfl rfl ?_
    by_cases h6 : x2 = (0 : Int32)
    · have hf := it_t h6 hf
      refine V_tableIn (off := 37) (tgt := 52) dX11_pane_15 (by rw [h6]; decide) (by rw [h6]; decide) (by rw [h6]; decide) (by decide) ?_
      refine V_aload_n (j := 0) dX11_pane_52 rfl rfl ?_
      obtain ⟨t7, et7, hf⟩ := hf
      refine V_getR fl_X11_51 rfl h1.1 h1.2 et7 dX11_pane_53 ?_
      obtain ⟨h8, hf⟩ := hf
      obtain ⟨t9, et9, hf⟩ := hf
      refine V_getR fl_X11_105 rfl h8.1 h8.2 et9 dX11_pane_56 ?_
      refine V_iload_n (j := 1) dX11_pane_59 rfl rfl ?_
      obtain ⟨h10, hf⟩ := hf
      obtain ⟨h11, hf⟩ := hf
      refine V_iald h10.1 h10.s h11 dX11_pane_60 ?_
      exact V_ireturn dX11_pane_61 rfl rfl (Nat.le_refl 0) (kI_of hf)
    · have hf := it_f h6 hf
      by_cases h12 : x2 = (1 : Int32)
      · have hf := it_t h12 hf
        refine V_tableIn (off := 47) (tgt := 62) dX11_pane_15 (by rw [h12]; decide) (by rw [h12]; decide) (by rw [h12]; decide) (by decide) ?_
        refine V_aload_n (j := 0) dX11_pane_62 rfl rfl ?_
        obtain ⟨t13, et13, hf⟩ := hf
        refine V_getR fl_X11_51 rfl h1.1 h1.2 et13 dX11_pane_63 ?_
        obtain ⟨h14, hf⟩ := hf
        obtain ⟨t15, et15, hf⟩ := hf
        refine V_getR fl_X11_109 rfl h14.1 h14.2 et15 dX11_pane_66 ?_
        refine V_iload_n (j := 1) dX11_pane_69 rfl rfl ?_
        obtain ⟨h16, hf⟩ := hf
        obtain ⟨h17, hf⟩ := hf
        refine V_iald h16.1 h16.s h17 dX11_pane_70 ?_
        exact V_ireturn dX11_pane_71 rfl rfl (Nat.le_refl 0) (kI_of hf)
      · have hf := it_f h12 hf
        by_cases h18 : x2 = (2 : Int32)
        · have hf := it_t h18 hf
          refine V_tableIn (off := 57) (tgt := 72) dX11_pane_15 (by rw [h18]; decide) (by rw [h18]; decide) (by rw [h18]; decide) (by decide) ?_
          refine V_aload_n (j := 0) dX11_pane_72 rfl rfl ?_
          obtain ⟨t19, et19, hf⟩ := hf
          refine V_getR fl_X11_19 rfl h1.1 h1.2 et19 dX11_pane_73 ?_
          obtain ⟨h20, hf⟩ := hf
          obtain ⟨t21, et21, hf⟩ := hf
          refine V_getR fl_X11_112 rfl h20.1 h20.2 et21 dX11_pane_76 ?_
          refine V_iload_n (j := 1) dX11_pane_79 rfl rfl ?_
          obtain ⟨h22, hf⟩ := hf
          obtain ⟨h23, hf⟩ := hf
          refine V_iald h22.1 h22.s h23 dX11_pane_80 ?_
          exact V_ireturn dX11_pane_81 rfl rfl (Nat.le_refl 0) (kI_of hf)
        · have hf := it_f h18 hf
          by_cases h24 : x2 = (3 : Int32)
          · have hf := it_t h24 hf
            refine V_tableIn (off := 67) (tgt := 82) dX11_pane_15 (by rw [h24]; decide) (by rw [h24]; decide) (by rw [h24]; decide) (by decide) ?_
            refine V_aload_n (j := 0) dX11_pane_82 rfl rfl ?_
            obtain ⟨t25, et25, hf⟩ := hf
            refine V_getR fl_X11_19 rfl h1.1 h1.2 et25 dX11_pane_83 ?_
            refine V_iload_n (j := 1) dX11_pane_86 rfl rfl ?_
            obtain ⟨h28, hf⟩ := hf
            refine V_cVI (ctX10_isDrawn hn hf) gc_X11_115 rfl h28.1 ⟨_, h28.2, by decide, rfl⟩ ⟨by decide, by decide, Nat.zero_le _, Nat.zero_le _⟩ (Nat.le_of_ble_eq_true rfl) dX11_pane_87 rfl hn (fun r26 z27 hf => ?_)
            refine V_if_eq (tgt := 97) dX11_pane_90 (by decide) (fun h29 => ?_) (fun h29 => ?_)
            · have hf := it_t h29 hf
              refine V_iconst (v := (0 : Int32)) dX11_pane_97 (by decide) ?_
              exact V_ireturn dX11_pane_98 rfl rfl (Nat.le_refl 0) (kI_of hf)
            · have hf := it_f h29 hf
              refine V_iconst (v := (1 : Int32)) dX11_pane_93 (by decide) ?_
              refine V_goto (tgt := 98) dX11_pane_94 (by decide) ?_
              exact V_ireturn dX11_pane_98 rfl rfl (Nat.le_refl 0) (kI_of hf)
          · have hf := it_f h24 hf
            by_cases h30 : x2 = (4 : Int32)
            · have hf := it_t h30 hf
              refine V_tableIn (off := 84) (tgt := 99) dX11_pane_15 (by rw [h30]; decide) (by rw [h30]; decide) (by rw [h30]; decide) (by decide) ?_
              refine V_aload_n (j := 0) dX11_pane_99 rfl rfl ?_
              obtain ⟨t31, et31, hf⟩ := hf
              refine V_getR fl_X11_19 rfl h1.1 h1.2 et31 dX11_pane_100 ?_
              refine V_iload_n (j := 1) dX11_pane_103 rfl rfl ?_
              obtain ⟨h34, hf⟩ := hf
              refine V_cVI (ctX10_isBroken hn hf) gc_X11_118 rfl h34.1 ⟨_, h34.2, by decide, rfl⟩ ⟨by decide, by decide, Nat.zero_le _, Nat.zero_le _⟩ (Nat.le_of_ble_eq_true rfl) dX11_pane_104 rfl hn (fun r32 z33 hf => ?_)
              refine V_if_eq (tgt := 114) dX11_pane_107 (by decide) (fun h35 => ?_) (fun h35 => ?_)
              · have hf := it_t h35 hf
                refine V_iconst (v := (0 : Int32)) dX11_pane_114 (by decide) ?_
                exact V_ireturn dX11_pane_115 rfl rfl (Nat.le_refl 0) (kI_of hf)
              · have hf := it_f h35 hf
                refine V_iconst (v := (1 : Int32)) dX11_pane_110 (by decide) ?_
                refine V_goto (tgt := 115) dX11_pane_111 (by decide) ?_
                exact V_ireturn dX11_pane_115 rfl rfl (Nat.le_refl 0) (kI_of hf)
            · have hf := it_f h30 hf
              by_cases h36 : x2 = (5 : Int32)
              · have hf := it_t h36 hf
                refine V_tableIn (off := 101) (tgt := 116) dX11_pane_15 (by rw [h36]; decide) (by rw [h36]; decide) (by rw [h36]; decide) (by decide) ?_
                refine V_aload_n (j := 0) dX11_pane_116 rfl rfl ?_
                obtain ⟨t37, et37, hf⟩ := hf
                refine V_getR fl_X11_19 rfl h1.1 h1.2 et37 dX11_pane_117 ?_
                refine V_aload_n (j := 0) dX11_pane_120 rfl rfl ?_
                obtain ⟨t38, et38, hf⟩ := hf
                refine V_getR fl_X11_51 rfl h1.1 h1.2 et38 dX11_pane_121 ?_
                refine V_iload_n (j := 1) dX11_pane_124 rfl rfl ?_
                obtain ⟨h41, hf⟩ := hf
                refine V_cVI (ctX10_sightOf hn hf) gc_X11_121 rfl h41.1 ⟨_, h41.2, by decide, rfl⟩ ⟨by decide, by decide, Nat.zero_le _, Nat.zero_le _⟩ (Nat.le_of_ble_eq_true rfl) dX11_pane_125 rfl hn (fun r39 z40 hf => ?_)
                exact V_ireturn dX11_pane_128 rfl rfl (Nat.le_refl 0) (kI_of hf)
              · have hf := it_f h36 hf
                refine V_tableOut (tgt := 129) dX11_pane_15 (by have qh6 := sw_ne (a := 0) h6 (by decide); have qh12 := sw_ne (a := 1) h12 (by decide); have qh18 := sw_ne (a := 2) h18 (by decide); have qh24 := sw_ne (a := 3) h24 (by decide); have qh30 := sw_ne (a := 4) h30 (by decide); have qh36 := sw_ne (a := 5) h36 (by decide); omega) (by decide) ?_
                refine V_bipush (v := (-2 : Int32)) dX11_pane_129 (by decide) ?_
                exact V_ireturn dX11_pane_131 rfl rfl (Nat.le_refl 0) (kI_of hf)
  · have hf := it_t (Classical.not_not.mp h42) hf
    refine V_bipush (v := (-2 : Int32)) dX11_pane_11 (by decide) ?_
    exact V_ireturn dX11_pane_13 rfl rfl (Nat.le_refl 0) (kI_of hf)
def wX10_isOpenToAll_J16 (n : Nat) (sh : Nat → Nat × Nat) (P : Int32 → gS → Prop) (z : gS) : Prop := P (1 : Int32) z
set_option maxRecDepth 100000 in
set_option maxHeartbeats 4000000 in
theorem vX10_isOpenToAll_J16 {E : gE} {n : Nat} {sh : Nat → Nat × Nat} {P : Int32 → gS → Prop} {z : gS} (hn : n ≤ 1000000) (hf : wX10_isOpenToAll_J16 n sh P z) : V E (gR 1 0) gyX10_isOpenToAll 0 0 16 [] [] n sh z (kI n sh P) := by
  unfold wX10_isOpenToAll_J16 at hf
  refine V_iconst (v := (1 : Int32)) dX10_isOpenToAll_16 (by decide) ?_
  refine V_goto (tgt := 21) dX10_isOpenToAll_17 (by decide) ?_
  exact V_ireturn dX10_isOpenToAll_21 rfl (by decide) (Nat.le_refl 0) (kI_of hf)
def wX10_isOpenToAll (n : Nat) (sh : Nat → Nat × Nat) (a0 : Nat) (x1 : Int32) (z : gS) (P : Int32 → gS → Prop) : Prop := (oO n sh a0 6) ∧ (wX10_isBroken n sh a0 x1 z (fun (r1 : Int32) (z2 : gS) => if r1 = 0 then (wX10_isDrawn n sh a0 x1 z2 (fun (r4 : Int32) (z5 : gS) => if r4 = 0 then wX10_isOpenToAll_J16 n sh P  z5 else P (0 : Int32) z5)) else wX10_isOpenToAll_J16 n sh P  z2))
set_option maxRecDepth 100000 in
set_option maxHeartbeats 4000000 in
theorem ctX10_isOpenToAll {E : gE} {n : Nat} {sh : Nat → Nat × Nat} {a0 : Nat} {x1 : Int32} {z : gS} {P : Int32 → gS → Prop} (hn : n ≤ 1000000) (hf : wX10_isOpenToAll n sh a0 x1 z P) : VM E 1 0 gyX10_isOpenToAll [.ref a0, .int x1] n sh z (kI n sh P) := by
  unfold wX10_isOpenToAll at hf
  refine VM.of (by decide +kernel) (Nat.le_of_ble_eq_true rfl) ?_
  show V E (gR 1 0) gyX10_isOpenToAll 0 0 0 [(0, .ref a0), (1, .int x1)] [] n sh z (kI n sh P)
  refine V_aload_n (j := 0) dX10_isOpenToAll_0 rfl rfl ?_
  refine V_iload_n (j := 1) dX10_isOpenToAll_1 rfl rfl ?_
  obtain ⟨h3, hf⟩ := hf
  refine V_cVI (ctX10_isBroken hn hf) gc_X10_48 rfl h3.1 ⟨_, h3.2, by decide, rfl⟩ ⟨by decide, by decide, Nat.zero_le _, Nat.zero_le _⟩ (Nat.le_of_ble_eq_true rfl) dX10_isOpenToAll_2 rfl hn (fun r1 z2 hf => ?_)
  refine V_if_ne (tgt := 16) dX10_isOpenToAll_5 (by decide) (fun h7 => ?_) (fun h7 => ?_)
  · have hf := it_f h7 hf
    refine V_to [] rfl ?_
    exact vX10_isOpenToAll_J16 hn hf
  · have hf := it_t (Classical.not_not.mp h7) hf
    refine V_aload_n (j := 0) dX10_isOpenToAll_8 rfl rfl ?_
    refine V_iload_n (j := 1) dX10_isOpenToAll_9 rfl rfl ?_
    refine V_cVI (ctX10_isDrawn hn hf) gc_X10_52 rfl h3.1 ⟨_, h3.2, by decide, rfl⟩ ⟨by decide, by decide, Nat.zero_le _, Nat.zero_le _⟩ (Nat.le_of_ble_eq_true rfl) dX10_isOpenToAll_10 rfl hn (fun r4 z5 hf => ?_)
    refine V_if_ne (tgt := 20) dX10_isOpenToAll_13 (by decide) (fun h6 => ?_) (fun h6 => ?_)
    · have hf := it_f h6 hf
      refine V_iconst (v := (0 : Int32)) dX10_isOpenToAll_20 (by decide) ?_
      exact V_ireturn dX10_isOpenToAll_21 rfl (by decide) (Nat.le_refl 0) (kI_of hf)
    · have hf := it_t (Classical.not_not.mp h6) hf
      refine V_to [] rfl ?_
      exact vX10_isOpenToAll_J16 hn hf
def wX10_markAt (n : Nat) (sh : Nat → Nat × Nat) (a0 : Nat) (x1 : Int32) (x2 : Int32) (z : gS) (P : Int32 → gS → Prop) : Prop := (oO n sh a0 6) ∧ (∃ t2 : Nat, gr z a0 7 = some t2 ∧ ((oA n sh t2 1) ∧ ((vp_in ((x1 * (6 : Int32)) + x2) (sh t2).2) ∧ P (gi z t2 ((x1 * (6 : Int32)) + x2).toNatClampNeg) z)))
set_option maxRecDepth 100000 in
set_option maxHeartbeats 4000000 in
theorem ctX10_markAt {E : gE} {n : Nat} {sh : Nat → Nat × Nat} {a0 : Nat} {x1 : Int32} {x2 : Int32} {z : gS} {P : Int32 → gS → Prop} (hn : n ≤ 1000000) (hf : wX10_markAt n sh a0 x1 x2 z P) : VM E 0 0 gyX10_markAt [.ref a0, .int x1, .int x2] n sh z (kI n sh P) := by
  unfold wX10_markAt at hf
  refine VM.of (by decide +kernel) (Nat.le_of_ble_eq_true rfl) ?_
  show V E (gR 0 0) gyX10_markAt 0 0 0 [(0, .ref a0), (1, .int x1), (2, .int x2)] [] n sh z (kI n sh P)
  refine V_aload_n (j := 0) dX10_markAt_0 rfl rfl ?_
  obtain ⟨h1, hf⟩ := hf
  obtain ⟨t2, et2, hf⟩ := hf
  refine V_getR fl_X10_34 rfl h1.1 h1.2 et2 dX10_markAt_1 ?_
  refine V_iload_n (j := 1) dX10_markAt_4 rfl rfl ?_
  refine V_bipush (v := (6 : Int32)) dX10_markAt_5 (by decide) ?_
  refine V_imul dX10_markAt_7 ?_
  refine V_iload_n (j := 2) dX10_markAt_8 rfl rfl ?_
  refine V_iadd dX10_markAt_9 ?_
  obtain ⟨h3, hf⟩ := hf
  obtain ⟨h4, hf⟩ := hf
  refine V_iald h3.1 h3.s h4 dX10_markAt_10 ?_
  exact V_ireturn dX10_markAt_11 rfl rfl (Nat.le_refl 0) (kI_of hf)
def wX10_tellsWho_J18 (n : Nat) (sh : Nat → Nat × Nat) (P : Int32 → gS → Prop) (z : gS) : Prop := P (1 : Int32) z
set_option maxRecDepth 100000 in
set_option maxHeartbeats 4000000 in
theorem vX10_tellsWho_J18 {E : gE} {n : Nat} {sh : Nat → Nat × Nat} {P : Int32 → gS → Prop} {z : gS} (hn : n ≤ 1000000) (hf : wX10_tellsWho_J18 n sh P z) : V E (gR 1 0) gyX10_tellsWho 0 0 18 [] [] n sh z (kI n sh P) := by
  unfold wX10_tellsWho_J18 at hf
  refine V_iconst (v := (1 : Int32)) dX10_tellsWho_18 (by decide) ?_
  refine V_goto (tgt := 23) dX10_tellsWho_19 (by decide) ?_
  exact V_ireturn dX10_tellsWho_23 rfl (by decide) (Nat.le_refl 0) (kI_of hf)
def wX10_tellsWho (n : Nat) (sh : Nat → Nat × Nat) (a0 : Nat) (a1 : Nat) (x2 : Int32) (z : gS) (P : Int32 → gS → Prop) : Prop := (oO n sh a0 6) ∧ (wX10_isBroken n sh a0 x2 z (fun (r1 : Int32) (z2 : gS) => if r1 = 0 then ((oO n sh a1 4) ∧ (∃ t5 : Nat, gr z2 a1 1 = some t5 ∧ ((oA n sh t5 1) ∧ ((vp_in x2 (sh t5).2) ∧ (if (gi z2 t5 x2.toNatClampNeg) = (1 : Int32) then P (0 : Int32) z2 else wX10_tellsWho_J18 n sh P  z2))))) else wX10_tellsWho_J18 n sh P  z2))
set_option maxRecDepth 100000 in
set_option maxHeartbeats 4000000 in
theorem ctX10_tellsWho {E : gE} {n : Nat} {sh : Nat → Nat × Nat} {a0 : Nat} {a1 : Nat} {x2 : Int32} {z : gS} {P : Int32 → gS → Prop} (hn : n ≤ 1000000) (hf : wX10_tellsWho n sh a0 a1 x2 z P) : VM E 1 0 gyX10_tellsWho [.ref a0, .ref a1, .int x2] n sh z (kI n sh P) := by
  unfold wX10_tellsWho at hf
  refine VM.of (by decide +kernel) (Nat.le_of_ble_eq_true rfl) ?_
  show V E (gR 1 0) gyX10_tellsWho 0 0 0 [(0, .ref a0), (1, .ref a1), (2, .int x2)] [] n sh z (kI n sh P)
  refine V_aload_n (j := 0) dX10_tellsWho_0 rfl rfl ?_
  refine V_iload_n (j := 2) dX10_tellsWho_1 rfl rfl ?_
  obtain ⟨h3, hf⟩ := hf
  refine V_cVI (ctX10_isBroken hn hf) gc_X10_48 rfl h3.1 ⟨_, h3.2, by decide, rfl⟩ ⟨by decide, by decide, Nat.zero_le _, Nat.zero_le _⟩ (Nat.le_of_ble_eq_true rfl) dX10_tellsWho_2 rfl hn (fun r1 z2 hf => ?_)
  refine V_if_ne (tgt := 18) dX10_tellsWho_5 (by decide) (fun h9 => ?_) (fun h9 => ?_)
  · have hf := it_f h9 hf
    refine V_to [] rfl ?_
    exact vX10_tellsWho_J18 hn hf
  · have hf := it_t (Classical.not_not.mp h9) hf
    refine V_aload_n (j := 1) dX10_tellsWho_8 rfl rfl ?_
    obtain ⟨h4, hf⟩ := hf
    obtain ⟨t5, et5, hf⟩ := hf
    refine V_getR fl_X10_55 rfl h4.1 h4.2 et5 dX10_tellsWho_9 ?_
    refine V_iload_n (j := 2) dX10_tellsWho_12 rfl rfl ?_
    obtain ⟨h6, hf⟩ := hf
    obtain ⟨h7, hf⟩ := hf
    refine V_iald h6.1 h6.s h7 dX10_tellsWho_13 ?_
    refine V_iconst (v := (1 : Int32)) dX10_tellsWho_14 (by decide) ?_
    refine V_icmp_eq (tgt := 22) dX10_tellsWho_15 (by decide) (fun h8 => ?_) (fun h8 => ?_)
    · have hf := it_t h8 hf
      refine V_iconst (v := (0 : Int32)) dX10_tellsWho_22 (by decide) ?_
      exact V_ireturn dX10_tellsWho_23 rfl (by decide) (Nat.le_refl 0) (kI_of hf)
    · have hf := it_f h8 hf
      refine V_to [] rfl ?_
      exact vX10_tellsWho_J18 hn hf
def wX10_whoOf (n : Nat) (sh : Nat → Nat × Nat) (x0 : Int32) (z : gS) (P : Int32 → gS → Prop) : Prop := P ((x0 >>> ((7 : Int32) &&& 31)) &&& (7 : Int32)) z
set_option maxRecDepth 100000 in
set_option maxHeartbeats 4000000 in
theorem ctX10_whoOf {E : gE} {n : Nat} {sh : Nat → Nat × Nat} {x0 : Int32} {z : gS} {P : Int32 → gS → Prop} (hn : n ≤ 1000000) (hf : wX10_whoOf n sh x0 z P) : VM E 0 0 gyX10_whoOf [.int x0] n sh z (kI n sh P) := by
  unfold wX10_whoOf at hf
  refine VM.of (by decide +kernel) (Nat.le_of_ble_eq_true rfl) ?_
  show V E (gR 0 0) gyX10_whoOf 0 0 0 [(0, .int x0)] [] n sh z (kI n sh P)
  refine V_iload_n (j := 0) dX10_whoOf_0 rfl rfl ?_
  refine V_bipush (v := (7 : Int32)) dX10_whoOf_1 (by decide) ?_
  refine V_ishr dX10_whoOf_3 ?_
  refine V_bipush (v := (7 : Int32)) dX10_whoOf_4 (by decide) ?_
  refine V_iand dX10_whoOf_6 ?_
  exact V_ireturn dX10_whoOf_7 rfl rfl (Nat.le_refl 0) (kI_of hf)
def wX10_deedOf (n : Nat) (sh : Nat → Nat × Nat) (x0 : Int32) (z : gS) (P : Int32 → gS → Prop) : Prop := P ((x0 >>> ((4 : Int32) &&& 31)) &&& (7 : Int32)) z
set_option maxRecDepth 100000 in
set_option maxHeartbeats 4000000 in
theorem ctX10_deedOf {E : gE} {n : Nat} {sh : Nat → Nat × Nat} {x0 : Int32} {z : gS} {P : Int32 → gS → Prop} (hn : n ≤ 1000000) (hf : wX10_deedOf n sh x0 z P) : VM E 0 0 gyX10_deedOf [.int x0] n sh z (kI n sh P) := by
  unfold wX10_deedOf at hf
  refine VM.of (by decide +kernel) (Nat.le_of_ble_eq_true rfl) ?_
  show V E (gR 0 0) gyX10_deedOf 0 0 0 [(0, .int x0)] [] n sh z (kI n sh P)
  refine V_iload_n (j := 0) dX10_deedOf_0 rfl rfl ?_
  refine V_iconst (v := (4 : Int32)) dX10_deedOf_1 (by decide) ?_
  refine V_ishr dX10_deedOf_2 ?_
  refine V_bipush (v := (7 : Int32)) dX10_deedOf_3 (by decide) ?_
  refine V_iand dX10_deedOf_5 ?_
  exact V_ireturn dX10_deedOf_6 rfl rfl (Nat.le_refl 0) (kI_of hf)
def wX10_cellOf (n : Nat) (sh : Nat → Nat × Nat) (x0 : Int32) (z : gS) (P : Int32 → gS → Prop) : Prop := P (x0 &&& (15 : Int32)) z
set_option maxRecDepth 100000 in
set_option maxHeartbeats 4000000 in
theorem ctX10_cellOf {E : gE} {n : Nat} {sh : Nat → Nat × Nat} {x0 : Int32} {z : gS} {P : Int32 → gS → Prop} (hn : n ≤ 1000000) (hf : wX10_cellOf n sh x0 z P) : VM E 0 0 gyX10_cellOf [.int x0] n sh z (kI n sh P) := by
  unfold wX10_cellOf at hf
  refine VM.of (by decide +kernel) (Nat.le_of_ble_eq_true rfl) ?_
  show V E (gR 0 0) gyX10_cellOf 0 0 0 [(0, .int x0)] [] n sh z (kI n sh P)
  refine V_iload_n (j := 0) dX10_cellOf_0 rfl rfl ?_
  refine V_bipush (v := (15 : Int32)) dX10_cellOf_1 (by decide) ?_
  refine V_iand dX10_cellOf_3 ?_
  exact V_ireturn dX10_cellOf_4 rfl rfl (Nat.le_refl 0) (kI_of hf)
def wX10_ageOf (n : Nat) (sh : Nat → Nat × Nat) (x0 : Int32) (z : gS) (P : Int32 → gS → Prop) : Prop := P (x0 >>> ((10 : Int32) &&& 31)) z
set_option maxRecDepth 100000 in
set_option maxHeartbeats 4000000 in
theorem ctX10_ageOf {E : gE} {n : Nat} {sh : Nat → Nat × Nat} {x0 : Int32} {z : gS} {P : Int32 → gS → Prop} (hn : n ≤ 1000000) (hf : wX10_ageOf n sh x0 z P) : VM E 0 0 gyX10_ageOf [.int x0] n sh z (kI n sh P) := by
  unfold wX10_ageOf at hf
  refine VM.of (by decide +kernel) (Nat.le_of_ble_eq_true rfl) ?_
  show V E (gR 0 0) gyX10_ageOf 0 0 0 [(0, .int x0)] [] n sh z (kI n sh P)
  refine V_iload_n (j := 0) dX10_ageOf_0 rfl rfl ?_
  refine V_bipush (v := (10 : Int32)) dX10_ageOf_1 (by decide) ?_
  refine V_ishr dX10_ageOf_3 ?_
  exact V_ireturn dX10_ageOf_4 rfl rfl (Nat.le_refl 0) (kI_of hf)
def wX11_shown (n : Nat) (sh : Nat → Nat × Nat) (a0 : Nat) (x1 : Int32) (x2 : Int32) (x3 : Int32) (z : gS) (P : Int32 → gS → Prop) : Prop := (oO n sh a0 7) ∧ (∃ t2 : Nat, gr z a0 7 = some t2 ∧ ((oO n sh t2 4) ∧ (wX7_hasPane n sh t2 x1 z (fun (r3 : Int32) (z4 : gS) => if r3 = 0 then P (-2 : Int32) z4 else (∃ t6 : Nat, gr z4 a0 1 = some t6 ∧ ((oO n sh t6 6) ∧ (wX10_isOpenToAll n sh t6 x1 z4 (fun (r7 : Int32) (z8 : gS) => if r7 = 0 then P (-2 : Int32) z8 else (if x2 < 0 then P (-2 : Int32) z8 else (∃ t10 : Nat, gr z8 a0 1 = some t10 ∧ ((oO n sh t10 6) ∧ (∃ t12 : Nat, gr z8 t10 6 = some t12 ∧ ((oA n sh t12 1) ∧ ((vp_in x1 (sh t12).2) ∧ (if x2 < (gi z8 t12 x1.toNatClampNeg) then (∃ t15 : Nat, gr z8 a0 1 = some t15 ∧ ((oO n sh t15 6) ∧ (wX10_markAt n sh t15 x1 x2 z8 (fun (r16 : Int32) (z17 : gS) => if x3 = (0 : Int32) then (∃ t20 : Nat, gr z17 a0 1 = some t20 ∧ (∃ t21 : Nat, gr z17 a0 7 = some t21 ∧ ((oO n sh t20 6) ∧ (wX10_tellsWho n sh t20 t21 x1 z17 (fun (r22 : Int32) (z23 : gS) => if r22 = 0 then P (-1 : Int32) z23 else (wX10_whoOf n sh r16 z23 (fun (r25 : Int32) (z26 : gS) => P r25 z26))))))) else (if x3 = (1 : Int32) then (wX10_deedOf n sh r16 z17 (fun (r29 : Int32) (z30 : gS) => P r29 z30)) else (if x3 = (2 : Int32) then (wX10_cellOf n sh r16 z17 (fun (r32 : Int32) (z33 : gS) => P r32 z33)) else (if x3 = (3 : Int32) then (wX10_ageOf n sh r16 z17 (fun (r35 : Int32) (z36 : gS) => P r35 z36)) else P (-2 : Int32) z17))))))) else P (-2 : Int32) z8)))))))))))))))
set_option maxRecDepth 100000 in
set_option maxHeartbeats 4000000 in
theorem ctX11_shown {E : gE} {n : Nat} {sh : Nat → Nat × Nat} {a0 : Nat} {x1 : Int32} {x2 : Int32} {x3 : Int32} {z : gS} {P : Int32 → gS → Prop} (hn : n ≤ 1000000) (hf : wX11_shown n sh a0 x1 x2 x3 z P) : VM E 2 0 gyX11_shown [.ref a0, .int x1, .int x2, .int x3] n sh z (kI n sh P) := by
  unfold wX11_shown at hf
  refine VM.of (by decide +kernel) (Nat.le_of_ble_eq_true rfl) ?_
  show V E (gR 2 0) gyX11_shown 0 0 0 [(0, .ref a0), (1, .int x1), (2, .int x2), (3, .int x3)] [] n sh z (kI n sh P)
  refine V_aload_n (j := 0) dX11_shown_0 rfl rfl ?_
  obtain ⟨h1, hf⟩ := hf
  obtain ⟨t2, et2, hf⟩ := hf
  refine V_getR fl_X11_51 rfl h1.1 h1.2 et2 dX11_shown_1 ?_
  refine V_iload_n (j := 1) dX11_shown_4 rfl rfl ?_
  obtain ⟨h5, hf⟩ := hf
  refine V_cVI (ctX7_hasPane hn hf) gc_X11_101 rfl h5.1 ⟨_, h5.2, by decide, rfl⟩ ⟨by decide, by decide, Nat.zero_le _, Nat.zero_le _⟩ (Nat.le_of_ble_eq_true rfl) dX11_shown_5 rfl hn (fun r3 z4 hf => ?_)
  refine V_if_eq (tgt := 39) dX11_shown_8 (by decide) (fun h40 => ?_) (fun h40 => ?_)
  · have hf := it_t h40 hf
    refine V_bipush (v := (-2 : Int32)) dX11_shown_39 (by decide) ?_
    exact V_ireturn dX11_shown_41 rfl rfl (Nat.le_refl 0) (kI_of hf)
  · have hf := it_f h40 hf
    refine V_aload_n (j := 0) dX11_shown_11 rfl rfl ?_
    obtain ⟨t6, et6, hf⟩ := hf
    refine V_getR fl_X11_19 rfl h1.1 h1.2 et6 dX11_shown_12 ?_
    refine V_iload_n (j := 1) dX11_shown_15 rfl rfl ?_
    obtain ⟨h9, hf⟩ := hf
    refine V_cVI (ctX10_isOpenToAll hn hf) gc_X11_125 rfl h9.1 ⟨_, h9.2, by decide, rfl⟩ ⟨by decide, by decide, Nat.zero_le _, Nat.zero_le _⟩ (Nat.le_of_ble_eq_true rfl) dX11_shown_16 rfl hn (fun r7 z8 hf => ?_)
    refine V_if_eq (tgt := 39) dX11_shown_19 (by decide) (fun h39 => ?_) (fun h39 => ?_)
    · have hf := it_t h39 hf
      refine V_bipush (v := (-2 : Int32)) dX11_shown_39 (by decide) ?_
      exact V_ireturn dX11_shown_41 rfl rfl (Nat.le_refl 0) (kI_of hf)
    · have hf := it_f h39 hf
      refine V_iload_n (j := 2) dX11_shown_22 rfl rfl ?_
      refine V_if_lt (tgt := 39) dX11_shown_23 (by decide) (fun h38 => ?_) (fun h38 => ?_)
      · have hf := it_t h38 hf
        refine V_bipush (v := (-2 : Int32)) dX11_shown_39 (by decide) ?_
        exact V_ireturn dX11_shown_41 rfl rfl (Nat.le_refl 0) (kI_of hf)
      · have hf := it_f h38 hf
        refine V_iload_n (j := 2) dX11_shown_26 rfl rfl ?_
        refine V_aload_n (j := 0) dX11_shown_27 rfl rfl ?_
        obtain ⟨t10, et10, hf⟩ := hf
        refine V_getR fl_X11_19 rfl h1.1 h1.2 et10 dX11_shown_28 ?_
        obtain ⟨h11, hf⟩ := hf
        obtain ⟨t12, et12, hf⟩ := hf
        refine V_getR fl_X11_112 rfl h11.1 h11.2 et12 dX11_shown_31 ?_
        refine V_iload_n (j := 1) dX11_shown_34 rfl rfl ?_
        obtain ⟨h13, hf⟩ := hf
        obtain ⟨h14, hf⟩ := hf
        refine V_iald h13.1 h13.s h14 dX11_shown_35 ?_
        refine V_icmp_lt (tgt := 42) dX11_shown_36 (by decide) (fun h37 => ?_) (fun h37 => ?_)
        · have hf := it_t h37 hf
          refine V_aload_n (j := 0) dX11_shown_42 rfl rfl ?_
          obtain ⟨t15, et15, hf⟩ := hf
          refine V_getR fl_X11_19 rfl h1.1 h1.2 et15 dX11_shown_43 ?_
          refine V_iload_n (j := 1) dX11_shown_46 rfl rfl ?_
          refine V_iload_n (j := 2) dX11_shown_47 rfl rfl ?_
          obtain ⟨h18, hf⟩ := hf
          refine V_cVI (ctX10_markAt hn hf) gc_X11_128 rfl h18.1 ⟨_, h18.2, by decide, rfl⟩ ⟨by decide, by decide, Nat.zero_le _, Nat.zero_le _⟩ (Nat.le_of_ble_eq_true rfl) dX11_shown_48 rfl hn (fun r16 z17 hf => ?_)
          refine V_istore (ls2 := [(4, .int r16), (0, .ref a0), (1, .int x1), (2, .int x2), (3, .int x3)]) dX11_shown_51 (by decide) rfl ?_
          refine V_iload_n (j := 4) dX11_shown_53 rfl rfl ?_
          by_cases h19 : x3 = (0 : Int32)
          · have hf := it_t h19 hf
            refine V_tableIn (off := 30) (tgt := 84) dX11_shown_54 (by rw [h19]; decide) (by rw [h19]; decide) (by rw [h19]; decide) (by decide) ?_
            refine V_aload_n (j := 1) dX11_shown_84 rfl rfl ?_
            obtain ⟨t20, et20, hf⟩ := hf
            refine V_getR fl_X11_19 rfl h1.1 h1.2 et20 dX11_shown_85 ?_
            refine V_aload_n (j := 1) dX11_shown_88 rfl rfl ?_
            obtain ⟨t21, et21, hf⟩ := hf
            refine V_getR fl_X11_51 rfl h1.1 h1.2 et21 dX11_shown_89 ?_
            refine V_iload_n (j := 2) dX11_shown_92 rfl rfl ?_
            obtain ⟨h24, hf⟩ := hf
            refine V_cVI (ctX10_tellsWho hn hf) gc_X11_132 rfl h24.1 ⟨_, h24.2, by decide, rfl⟩ ⟨by decide, by decide, Nat.zero_le _, Nat.zero_le _⟩ (Nat.le_of_ble_eq_true rfl) dX11_shown_93 rfl hn (fun r22 z23 hf => ?_)
            refine V_if_eq (tgt := 107) dX11_shown_96 (by decide) (fun h27 => ?_) (fun h27 => ?_)
            · have hf := it_t h27 hf
              refine V_iconst (v := (-1 : Int32)) dX11_shown_107 (by decide) ?_
              exact V_ireturn dX11_shown_108 rfl rfl (Nat.le_refl 0) (kI_of hf)
            · have hf := it_f h27 hf
              refine V_iload (j := 0) dX11_shown_99 rfl ?_
              refine V_cSI (ctX10_whoOf hn hf) gc_X11_136 rfl ⟨by decide, by decide, Nat.zero_le _, Nat.zero_le _⟩ (Nat.le_of_ble_eq_true rfl) dX11_shown_101 rfl hn (fun r25 z26 hf => ?_)
              refine V_goto (tgt := 108) dX11_shown_104 (by decide) ?_
              exact V_ireturn dX11_shown_108 rfl rfl (Nat.le_refl 0) (kI_of hf)
          · have hf := it_f h19 hf
            by_cases h28 : x3 = (1 : Int32)
            · have hf := it_t h28 hf
              refine V_tableIn (off := 55) (tgt := 109) dX11_shown_54 (by rw [h28]; decide) (by rw [h28]; decide) (by rw [h28]; decide) (by decide) ?_
              refine V_iload (j := 0) dX11_shown_109 rfl ?_
              refine V_cSI (ctX10_deedOf hn hf) gc_X11_140 rfl ⟨by decide, by decide, Nat.zero_le _, Nat.zero_le _⟩ (Nat.le_of_ble_eq_true rfl) dX11_shown_111 rfl hn (fun r29 z30 hf => ?_)
              exact V_ireturn dX11_shown_114 rfl rfl (Nat.le_refl 0) (kI_of hf)
            · have hf := it_f h28 hf
              by_cases h31 : x3 = (2 : Int32)
              · have hf := it_t h31 hf
                refine V_tableIn (off := 61) (tgt := 115) dX11_shown_54 (by rw [h31]; decide) (by rw [h31]; decide) (by rw [h31]; decide) (by decide) ?_
                refine V_iload (j := 0) dX11_shown_115 rfl ?_
                refine V_cSI (ctX10_cellOf hn hf) gc_X11_143 rfl ⟨by decide, by decide, Nat.zero_le _, Nat.zero_le _⟩ (Nat.le_of_ble_eq_true rfl) dX11_shown_117 rfl hn (fun r32 z33 hf => ?_)
                exact V_ireturn dX11_shown_120 rfl rfl (Nat.le_refl 0) (kI_of hf)
              · have hf := it_f h31 hf
                by_cases h34 : x3 = (3 : Int32)
                · have hf := it_t h34 hf
                  refine V_tableIn (off := 67) (tgt := 121) dX11_shown_54 (by rw [h34]; decide) (by rw [h34]; decide) (by rw [h34]; decide) (by decide) ?_
                  refine V_iload (j := 0) dX11_shown_121 rfl ?_
                  refine V_cSI (ctX10_ageOf hn hf) gc_X11_146 rfl ⟨by decide, by decide, Nat.zero_le _, Nat.zero_le _⟩ (Nat.le_of_ble_eq_true rfl) dX11_shown_123 rfl hn (fun r35 z36 hf => ?_)
                  exact V_ireturn dX11_shown_126 rfl rfl (Nat.le_refl 0) (kI_of hf)
                · have hf := it_f h34 hf
                  refine V_tableOut (tgt := 127) dX11_shown_54 (by have qh19 := sw_ne (a := 0) h19 (by decide); have qh28 := sw_ne (a := 1) h28 (by decide); have qh31 := sw_ne (a := 2) h31 (by decide); have qh34 := sw_ne (a := 3) h34 (by decide); omega) (by decide) ?_
                  refine V_bipush (v := (-2 : Int32)) dX11_shown_127 (by decide) ?_
                  exact V_ireturn dX11_shown_129 rfl rfl (Nat.le_refl 0) (kI_of hf)
        · have hf := it_f h37 hf
          refine V_bipush (v := (-2 : Int32)) dX11_shown_39 (by decide) ?_
          exact V_ireturn dX11_shown_41 rfl rfl (Nat.le_refl 0) (kI_of hf)
def wX7_hasPerson (n : Nat) (sh : Nat → Nat × Nat) (a0 : Nat) (x1 : Int32) (z : gS) (P : Int32 → gS → Prop) : Prop := if x1 < 0 then P (0 : Int32) z else ((oO n sh a0 4) ∧ (if (gi z a0 11) ≤ x1 then P (0 : Int32) z else P (1 : Int32) z))
set_option maxRecDepth 100000 in
set_option maxHeartbeats 4000000 in
theorem ctX7_hasPerson {E : gE} {n : Nat} {sh : Nat → Nat × Nat} {a0 : Nat} {x1 : Int32} {z : gS} {P : Int32 → gS → Prop} (hn : n ≤ 1000000) (hf : wX7_hasPerson n sh a0 x1 z P) : VM E 0 0 gyX7_hasPerson [.ref a0, .int x1] n sh z (kI n sh P) := by
  unfold wX7_hasPerson at hf
  refine VM.of (by decide +kernel) (Nat.le_of_ble_eq_true rfl) ?_
  show V E (gR 0 0) gyX7_hasPerson 0 0 0 [(0, .ref a0), (1, .int x1)] [] n sh z (kI n sh P)
  refine V_iload_n (j := 1) dX7_hasPerson_0 rfl rfl ?_
  refine V_if_lt (tgt := 16) dX7_hasPerson_1 (by decide) (fun h3 => ?_) (fun h3 => ?_)
  · have hf := it_t h3 hf
    refine V_iconst (v := (0 : Int32)) dX7_hasPerson_16 (by decide) ?_
    exact V_ireturn dX7_hasPerson_17 rfl (by decide) (Nat.le_refl 0) (kI_of hf)
  · have hf := it_f h3 hf
    refine V_iload_n (j := 1) dX7_hasPerson_4 rfl rfl ?_
    refine V_aload_n (j := 0) dX7_hasPerson_5 rfl rfl ?_
    obtain ⟨h1, hf⟩ := hf
    refine V_getI fl_X7_51 rfl h1.1 h1.2 dX7_hasPerson_6 ?_
    refine V_icmp_ge (tgt := 16) dX7_hasPerson_9 (by decide) (fun h2 => ?_) (fun h2 => ?_)
    · have hf := it_t h2 hf
      refine V_iconst (v := (0 : Int32)) dX7_hasPerson_16 (by decide) ?_
      exact V_ireturn dX7_hasPerson_17 rfl (by decide) (Nat.le_refl 0) (kI_of hf)
    · have hf := it_f h2 hf
      refine V_iconst (v := (1 : Int32)) dX7_hasPerson_12 (by decide) ?_
      refine V_goto (tgt := 17) dX7_hasPerson_13 (by decide) ?_
      exact V_ireturn dX7_hasPerson_17 rfl (by decide) (Nat.le_refl 0) (kI_of hf)
def wX11_person (n : Nat) (sh : Nat → Nat × Nat) (a0 : Nat) (x1 : Int32) (z : gS) (P : Int32 → gS → Prop) : Prop := (oO n sh a0 7) ∧ (∃ t2 : Nat, gr z a0 7 = some t2 ∧ ((oO n sh t2 4) ∧ (wX7_hasPerson n sh t2 x1 z (fun (r3 : Int32) (z4 : gS) => if r3 = 0 then P (-1 : Int32) z4 else (∃ t6 : Nat, gr z4 a0 1 = some t6 ∧ ((oO n sh t6 6) ∧ (∃ t8 : Nat, gr z4 t6 5 = some t8 ∧ ((oA n sh t8 1) ∧ ((vp_in x1 (sh t8).2) ∧ P (gi z4 t8 x1.toNatClampNeg) z4)))))))))
set_option maxRecDepth 100000 in
set_option maxHeartbeats 4000000 in
theorem ctX11_person {E : gE} {n : Nat} {sh : Nat → Nat × Nat} {a0 : Nat} {x1 : Int32} {z : gS} {P : Int32 → gS → Prop} (hn : n ≤ 1000000) (hf : wX11_person n sh a0 x1 z P) : VM E 1 0 gyX11_person [.ref a0, .int x1] n sh z (kI n sh P) := by
  unfold wX11_person at hf
  refine VM.of (by decide +kernel) (Nat.le_of_ble_eq_true rfl) ?_
  show V E (gR 1 0) gyX11_person 0 0 0 [(0, .ref a0), (1, .int x1)] [] n sh z (kI n sh P)
  refine V_aload_n (j := 0) dX11_person_0 rfl rfl ?_
  obtain ⟨h1, hf⟩ := hf
  obtain ⟨t2, et2, hf⟩ := hf
  refine V_getR fl_X11_51 rfl h1.1 h1.2 et2 dX11_person_1 ?_
  refine V_iload_n (j := 1) dX11_person_4 rfl rfl ?_
  obtain ⟨h5, hf⟩ := hf
  refine V_cVI (ctX7_hasPerson hn hf) gc_X11_149 rfl h5.1 ⟨_, h5.2, by decide, rfl⟩ ⟨by decide, by decide, Nat.zero_le _, Nat.zero_le _⟩ (Nat.le_of_ble_eq_true rfl) dX11_person_5 rfl hn (fun r3 z4 hf => ?_)
  refine V_if_eq (tgt := 23) dX11_person_8 (by decide) (fun h11 => ?_) (fun h11 => ?_)
  · have hf := it_t h11 hf
    refine V_iconst (v := (-1 : Int32)) dX11_person_23 (by decide) ?_
    exact V_ireturn dX11_person_24 rfl rfl (Nat.le_refl 0) (kI_of hf)
  · have hf := it_f h11 hf
    refine V_aload_n (j := 0) dX11_person_11 rfl rfl ?_
    obtain ⟨t6, et6, hf⟩ := hf
    refine V_getR fl_X11_19 rfl h1.1 h1.2 et6 dX11_person_12 ?_
    obtain ⟨h7, hf⟩ := hf
    obtain ⟨t8, et8, hf⟩ := hf
    refine V_getR fl_X11_152 rfl h7.1 h7.2 et8 dX11_person_15 ?_
    refine V_iload_n (j := 1) dX11_person_18 rfl rfl ?_
    obtain ⟨h9, hf⟩ := hf
    obtain ⟨h10, hf⟩ := hf
    refine V_iald h9.1 h9.s h10 dX11_person_19 ?_
    refine V_goto (tgt := 24) dX11_person_20 (by decide) ?_
    exact V_ireturn dX11_person_24 rfl rfl (Nat.le_refl 0) (kI_of hf)
def wX10_canStep (n : Nat) (sh : Nat → Nat × Nat) (a0 : Nat) (x1 : Int32) (x2 : Int32) (z : gS) (P : Int32 → gS → Prop) : Prop := if x2 < 0 then P (0 : Int32) z else (if (10 : Int32) ≤ x2 then P (0 : Int32) z else ((oO n sh a0 6) ∧ (∃ t2 : Nat, gr z a0 5 = some t2 ∧ ((oA n sh t2 1) ∧ ((vp_in x1 (sh t2).2) ∧ (if (if 0 ≤ (x2 - (gi z t2 x1.toNatClampNeg)) then (x2 - (gi z t2 x1.toNatClampNeg)) else 0 - (x2 - (gi z t2 x1.toNatClampNeg))) = (1 : Int32) then P (1 : Int32) z else P (0 : Int32) z))))))
set_option maxRecDepth 100000 in
set_option maxHeartbeats 4000000 in
theorem ctX10_canStep {E : gE} {n : Nat} {sh : Nat → Nat × Nat} {a0 : Nat} {x1 : Int32} {x2 : Int32} {z : gS} {P : Int32 → gS → Prop} (hn : n ≤ 1000000) (hf : wX10_canStep n sh a0 x1 x2 z P) : VM E 1 0 gyX10_canStep [.ref a0, .int x1, .int x2] n sh z (kI n sh P) := by
  unfold wX10_canStep at hf
  refine VM.of (by decide +kernel) (Nat.le_of_ble_eq_true rfl) ?_
  show V E (gR 1 0) gyX10_canStep 0 0 0 [(0, .ref a0), (1, .int x1), (2, .int x2)] [] n sh z (kI n sh P)
  refine V_iload_n (j := 2) dX10_canStep_0 rfl rfl ?_
  refine V_if_lt (tgt := 29) dX10_canStep_1 (by decide) (fun h7 => ?_) (fun h7 => ?_)
  · have hf := it_t h7 hf
    refine V_iconst (v := (0 : Int32)) dX10_canStep_29 (by decide) ?_
    exact V_ireturn dX10_canStep_30 rfl (by decide) (Nat.le_refl 0) (kI_of hf)
  · have hf := it_f h7 hf
    refine V_iload_n (j := 2) dX10_canStep_4 rfl rfl ?_
    refine V_bipush (v := (10 : Int32)) dX10_canStep_5 (by decide) ?_
    refine V_icmp_ge (tgt := 29) dX10_canStep_7 (by decide) (fun h6 => ?_) (fun h6 => ?_)
    · have hf := it_t h6 hf
      refine V_iconst (v := (0 : Int32)) dX10_canStep_29 (by decide) ?_
      exact V_ireturn dX10_canStep_30 rfl (by decide) (Nat.le_refl 0) (kI_of hf)
    · have hf := it_f h6 hf
      refine V_iload_n (j := 2) dX10_canStep_10 rfl rfl ?_
      refine V_aload_n (j := 0) dX10_canStep_11 rfl rfl ?_
      obtain ⟨h1, hf⟩ := hf
      obtain ⟨t2, et2, hf⟩ := hf
      refine V_getR fl_X10_27 rfl h1.1 h1.2 et2 dX10_canStep_12 ?_
      refine V_iload_n (j := 1) dX10_canStep_15 rfl rfl ?_
      obtain ⟨h3, hf⟩ := hf
      obtain ⟨h4, hf⟩ := hf
      refine V_iald h3.1 h3.s h4 dX10_canStep_16 ?_
      refine V_isub dX10_canStep_17 ?_
      refine V_abs ma_X10_72 mas_abs mai mac_abs ⟨by decide, by decide, Nat.zero_le _, Nat.zero_le _⟩ (Nat.le_of_ble_eq_true rfl) dX10_canStep_18 ?_
      refine V_iconst (v := (1 : Int32)) dX10_canStep_21 (by decide) ?_
      refine V_icmp_ne (tgt := 29) dX10_canStep_22 (by decide) (fun h5 => ?_) (fun h5 => ?_)
      · have hf := it_f h5 hf
        refine V_iconst (v := (0 : Int32)) dX10_canStep_29 (by decide) ?_
        exact V_ireturn dX10_canStep_30 rfl (by decide) (Nat.le_refl 0) (kI_of hf)
      · have hf := it_t (Classical.not_not.mp h5) hf
        refine V_iconst (v := (1 : Int32)) dX10_canStep_25 (by decide) ?_
        refine V_goto (tgt := 30) dX10_canStep_26 (by decide) ?_
        exact V_ireturn dX10_canStep_30 rfl (by decide) (Nat.le_refl 0) (kI_of hf)
def wX10_copy (n : Nat) (sh : Nat → Nat × Nat) (a0 : Nat) (a1 : Nat) (z : gS) (P : gS → Prop) : Prop := (oO n sh a1 6) ∧ ((oO n sh a0 6) ∧ (∀ z3 : gS, z3 = si z a0 0 (gi z a1 0) → (∀ z4 : gS, z4 = si z3 a0 1 (gi z3 a1 1) → (∀ z5 : gS, z5 = si z4 a0 2 (gi z4 a1 2) → (∃ t6 : Nat, gr z5 a1 5 = some t6 ∧ (∃ t7 : Nat, gr z5 a0 5 = some t7 ∧ ((oA n sh t6 1) ∧ ((oA n sh t7 1) ∧ (((0 : Int32).toNatClampNeg + (5 : Int32).toNatClampNeg ≤ (sh t6).2) ∧ ((0 : Int32).toNatClampNeg + (5 : Int32).toNatClampNeg ≤ (sh t7).2) ∧ (∀ z12 : gS, z12 = sA z5 t7 (va_cpy (gi z5 t6) (gi z5 t7) (0 : Int32).toNatClampNeg (0 : Int32).toNatClampNeg (5 : Int32).toNatClampNeg) → (∃ t13 : Nat, gr z12 a1 6 = some t13 ∧ (∃ t14 : Nat, gr z12 a0 6 = some t14 ∧ ((oA n sh t13 1) ∧ ((oA n sh t14 1) ∧ (((0 : Int32).toNatClampNeg + (6 : Int32).toNatClampNeg ≤ (sh t13).2) ∧ ((0 : Int32).toNatClampNeg + (6 : Int32).toNatClampNeg ≤ (sh t14).2) ∧ (∀ z19 : gS, z19 = sA z12 t14 (va_cpy (gi z12 t13) (gi z12 t14) (0 : Int32).toNatClampNeg (0 : Int32).toNatClampNeg (6 : Int32).toNatClampNeg) → (∃ t20 : Nat, gr z19 a1 7 = some t20 ∧ (∃ t21 : Nat, gr z19 a0 7 = some t21 ∧ ((oA n sh t20 1) ∧ ((oA n sh t21 1) ∧ (((0 : Int32).toNatClampNeg + (36 : Int32).toNatClampNeg ≤ (sh t20).2) ∧ ((0 : Int32).toNatClampNeg + (36 : Int32).toNatClampNeg ≤ (sh t21).2) ∧ (∀ z26 : gS, z26 = sA z19 t21 (va_cpy (gi z19 t20) (gi z19 t21) (0 : Int32).toNatClampNeg (0 : Int32).toNatClampNeg (36 : Int32).toNatClampNeg) → P z26))))))))))))))))))))))
set_option maxRecDepth 100000 in
set_option maxHeartbeats 4000000 in
theorem ctX10_copy {E : gE} {n : Nat} {sh : Nat → Nat × Nat} {a0 : Nat} {a1 : Nat} {z : gS} {P : gS → Prop} (hn : n ≤ 1000000) (hf : wX10_copy n sh a0 a1 z P) : VM E 1 0 gyX10_copy [.ref a0, .ref a1] n sh z (kN n sh P) := by
  unfold wX10_copy at hf
  refine VM.of (by decide +kernel) (Nat.le_of_ble_eq_true rfl) ?_
  show V E (gR 1 0) gyX10_copy 0 0 0 [(0, .ref a0), (1, .ref a1)] [] n sh z (kN n sh P)
  refine V_aload_n (j := 0) dX10_copy_0 rfl rfl ?_
  refine V_aload_n (j := 1) dX10_copy_1 rfl rfl ?_
  obtain ⟨h1, hf⟩ := hf
  refine V_getI fl_X10_11 rfl h1.1 h1.2 dX10_copy_2 ?_
  obtain ⟨h2, hf⟩ := hf
  refine V_putI fl_X10_11 rfl rfl rfl rfl h2.1 h2.2 dX10_copy_5 ?_
  refine V_nz (fun z3 ez3 => ?_)
  have hf := hf z3 ez3
  refine V_aload_n (j := 0) dX10_copy_8 rfl rfl ?_
  refine V_aload_n (j := 1) dX10_copy_9 rfl rfl ?_
  refine V_getI fl_X10_15 rfl h1.1 h1.2 dX10_copy_10 ?_
  refine V_putI fl_X10_15 rfl rfl rfl rfl h2.1 h2.2 dX10_copy_13 ?_
  refine V_nz (fun z4 ez4 => ?_)
  have hf := hf z4 ez4
  refine V_aload_n (j := 0) dX10_copy_16 rfl rfl ?_
  refine V_aload_n (j := 1) dX10_copy_17 rfl rfl ?_
  refine V_getI fl_X10_18 rfl h1.1 h1.2 dX10_copy_18 ?_
  refine V_putI fl_X10_18 rfl rfl rfl rfl h2.1 h2.2 dX10_copy_21 ?_
  refine V_nz (fun z5 ez5 => ?_)
  have hf := hf z5 ez5
  refine V_aload_n (j := 1) dX10_copy_24 rfl rfl ?_
  obtain ⟨t6, et6, hf⟩ := hf
  refine V_getR fl_X10_27 rfl h1.1 h1.2 et6 dX10_copy_25 ?_
  refine V_iconst (v := (0 : Int32)) dX10_copy_28 (by decide) ?_
  refine V_aload_n (j := 0) dX10_copy_29 rfl rfl ?_
  obtain ⟨t7, et7, hf⟩ := hf
  refine V_getR fl_X10_27 rfl h2.1 h2.2 et7 dX10_copy_30 ?_
  refine V_iconst (v := (0 : Int32)) dX10_copy_33 (by decide) ?_
  refine V_iconst (v := (5 : Int32)) dX10_copy_34 (by decide) ?_
  obtain ⟨h8, hf⟩ := hf
  obtain ⟨h9, hf⟩ := hf
  obtain ⟨h10, h11, hf⟩ := hf
  refine V_copy ac_X10_42 acn acs aci h8.1 h8.s h9.1 h9.s (by decide) (by decide) (by decide) h10 h11 ⟨by decide, by decide⟩ (Nat.le_of_ble_eq_true rfl) dX10_copy_35 ?_
  refine V_nz (fun z12 ez12 => ?_)
  have hf := hf z12 ez12
  refine V_aload_n (j := 1) dX10_copy_38 rfl rfl ?_
  obtain ⟨t13, et13, hf⟩ := hf
  refine V_getR fl_X10_31 rfl h1.1 h1.2 et13 dX10_copy_39 ?_
  refine V_iconst (v := (0 : Int32)) dX10_copy_42 (by decide) ?_
  refine V_aload_n (j := 0) dX10_copy_43 rfl rfl ?_
  obtain ⟨t14, et14, hf⟩ := hf
  refine V_getR fl_X10_31 rfl h2.1 h2.2 et14 dX10_copy_44 ?_
  refine V_iconst (v := (0 : Int32)) dX10_copy_47 (by decide) ?_
  refine V_bipush (v := (6 : Int32)) dX10_copy_48 (by decide) ?_
  obtain ⟨h15, hf⟩ := hf
  obtain ⟨h16, hf⟩ := hf
  obtain ⟨h17, h18, hf⟩ := hf
  refine V_copy ac_X10_42 acn acs aci h15.1 h15.s h16.1 h16.s (by decide) (by decide) (by decide) h17 h18 ⟨by decide, by decide⟩ (Nat.le_of_ble_eq_true rfl) dX10_copy_50 ?_
  refine V_nz (fun z19 ez19 => ?_)
  have hf := hf z19 ez19
  refine V_aload_n (j := 1) dX10_copy_53 rfl rfl ?_
  obtain ⟨t20, et20, hf⟩ := hf
  refine V_getR fl_X10_34 rfl h1.1 h1.2 et20 dX10_copy_54 ?_
  refine V_iconst (v := (0 : Int32)) dX10_copy_57 (by decide) ?_
  refine V_aload_n (j := 0) dX10_copy_58 rfl rfl ?_
  obtain ⟨t21, et21, hf⟩ := hf
  refine V_getR fl_X10_34 rfl h2.1 h2.2 et21 dX10_copy_59 ?_
  refine V_iconst (v := (0 : Int32)) dX10_copy_62 (by decide) ?_
  refine V_bipush (v := (36 : Int32)) dX10_copy_63 (by decide) ?_
  obtain ⟨h22, hf⟩ := hf
  obtain ⟨h23, hf⟩ := hf
  obtain ⟨h24, h25, hf⟩ := hf
  refine V_copy ac_X10_42 acn acs aci h22.1 h22.s h23.1 h23.s (by decide) (by decide) (by decide) h24 h25 ⟨by decide, by decide⟩ (Nat.le_of_ble_eq_true rfl) dX10_copy_65 ?_
  refine V_nz (fun z26 ez26 => ?_)
  have hf := hf z26 ez26
  exact V_return dX10_copy_68 rfl (Nat.le_refl 0) (kN_of hf)
def wX4_keep (n : Nat) (sh : Nat → Nat × Nat) (a0 : Nat) (a1 : Nat) (z : gS) (P : gS → Prop) : Prop := (oO n sh a0 2) ∧ (∃ t2 : Nat, gr z a0 0 = some t2 ∧ ((oA n sh t2 5) ∧ ((vp_in (gi z a0 2) (sh t2).2) ∧ ∃ t5 : Nat, gr z t2 (gi z a0 2).toNatClampNeg = some t5 ∧ ((oO n sh t5 6) ∧ (wX10_copy n sh t5 a1 z (fun (z7 : gS) => ∀ z9 : gS, z9 = si z7 a0 2 (((gi z7 a0 2) + (1 : Int32)) - ((gi z7 a0 2) + (1 : Int32)) / (16 : Int32) * (16 : Int32)) → (∀ z10 : gS, z10 = si z9 a0 1 (if (16 : Int32) < ((gi z9 a0 1) + (1 : Int32)) then (16 : Int32) else ((gi z9 a0 1) + (1 : Int32))) → P z10)))))))
set_option maxRecDepth 100000 in
set_option maxHeartbeats 4000000 in
theorem ctX4_keep {E : gE} {n : Nat} {sh : Nat → Nat × Nat} {a0 : Nat} {a1 : Nat} {z : gS} {P : gS → Prop} (hn : n ≤ 1000000) (hf : wX4_keep n sh a0 a1 z P) : VM E 2 0 gyX4_keep [.ref a0, .ref a1] n sh z (kN n sh P) := by
  unfold wX4_keep at hf
  refine VM.of (by decide +kernel) (Nat.le_of_ble_eq_true rfl) ?_
  show V E (gR 2 0) gyX4_keep 0 0 0 [(0, .ref a0), (1, .ref a1)] [] n sh z (kN n sh P)
  refine V_aload_n (j := 0) dX4_keep_0 rfl rfl ?_
  obtain ⟨h1, hf⟩ := hf
  obtain ⟨t2, et2, hf⟩ := hf
  refine V_getR fl_X4_11 rfl h1.1 h1.2 et2 dX4_keep_1 ?_
  refine V_aload_n (j := 0) dX4_keep_4 rfl rfl ?_
  refine V_getI fl_X4_19 rfl h1.1 h1.2 dX4_keep_5 ?_
  obtain ⟨h3, hf⟩ := hf
  obtain ⟨h4, t5, et5, hf⟩ := hf
  refine V_aald h3.1 h3.s h4 et5 dX4_keep_8 ?_
  refine V_aload_n (j := 1) dX4_keep_9 rfl rfl ?_
  obtain ⟨h8, hf⟩ := hf
  refine V_cVN (ctX10_copy hn hf) gc_X4_23 rfl h8.1 ⟨_, h8.2, by decide, rfl⟩ ⟨by decide, by decide, Nat.zero_le _, Nat.zero_le _⟩ (Nat.le_of_ble_eq_true rfl) dX4_keep_10 rfl hn (fun z7 hf => ?_)
  refine V_aload_n (j := 0) dX4_keep_13 rfl rfl ?_
  refine V_aload_n (j := 0) dX4_keep_14 rfl rfl ?_
  refine V_getI fl_X4_19 rfl h1.1 h1.2 dX4_keep_15 ?_
  refine V_iconst (v := (1 : Int32)) dX4_keep_18 (by decide) ?_
  refine V_iadd dX4_keep_19 ?_
  refine V_bipush (v := (16 : Int32)) dX4_keep_20 (by decide) ?_
  refine V_irem dX4_keep_22 (by decide) ?_
  refine V_putI fl_X4_19 rfl rfl rfl rfl h1.1 h1.2 dX4_keep_23 ?_
  refine V_nz (fun z9 ez9 => ?_)
  have hf := hf z9 ez9
  refine V_aload_n (j := 0) dX4_keep_26 rfl rfl ?_
  refine V_aload_n (j := 0) dX4_keep_27 rfl rfl ?_
  refine V_getI fl_X4_15 rfl h1.1 h1.2 dX4_keep_28 ?_
  refine V_iconst (v := (1 : Int32)) dX4_keep_31 (by decide) ?_
  refine V_iadd dX4_keep_32 ?_
  refine V_bipush (v := (16 : Int32)) dX4_keep_33 (by decide) ?_
  refine V_min ma_X4_27 mas_min mai mac_min ⟨by decide, by decide, Nat.zero_le _, Nat.zero_le _⟩ (Nat.le_of_ble_eq_true rfl) dX4_keep_35 ?_
  refine V_putI fl_X4_15 rfl rfl rfl rfl h1.1 h1.2 dX4_keep_38 ?_
  refine V_nz (fun z10 ez10 => ?_)
  have hf := hf z10 ez10
  exact V_return dX4_keep_41 rfl (Nat.le_refl 0) (kN_of hf)
def wX10_steps (n : Nat) (sh : Nat → Nat × Nat) (a0 : Nat) (x1 : Int32) (x2 : Int32) (z : gS) (P : Int32 → gS → Prop) : Prop := (oO n sh a0 6) ∧ (wX10_canStep n sh a0 x1 x2 z (fun (r1 : Int32) (z2 : gS) => if r1 = 0 then P (0 : Int32) z2 else (∃ t4 : Nat, gr z2 a0 5 = some t4 ∧ ((oA n sh t4 1) ∧ ((vp_in x1 (sh t4).2) ∧ (∀ z7 : gS, z7 = si z2 t4 x1.toNatClampNeg x2 → P (1 : Int32) z7))))))
set_option maxRecDepth 100000 in
set_option maxHeartbeats 4000000 in
theorem ctX10_steps {E : gE} {n : Nat} {sh : Nat → Nat × Nat} {a0 : Nat} {x1 : Int32} {x2 : Int32} {z : gS} {P : Int32 → gS → Prop} (hn : n ≤ 1000000) (hf : wX10_steps n sh a0 x1 x2 z P) : VM E 2 0 gyX10_steps [.ref a0, .int x1, .int x2] n sh z (kI n sh P) := by
  unfold wX10_steps at hf
  refine VM.of (by decide +kernel) (Nat.le_of_ble_eq_true rfl) ?_
  show V E (gR 2 0) gyX10_steps 0 0 0 [(0, .ref a0), (1, .int x1), (2, .int x2)] [] n sh z (kI n sh P)
  refine V_aload_n (j := 0) dX10_steps_0 rfl rfl ?_
  refine V_iload_n (j := 1) dX10_steps_1 rfl rfl ?_
  refine V_iload_n (j := 2) dX10_steps_2 rfl rfl ?_
  obtain ⟨h3, hf⟩ := hf
  refine V_cVI (ctX10_canStep hn hf) gc_X10_77 rfl h3.1 ⟨_, h3.2, by decide, rfl⟩ ⟨by decide, by decide, Nat.zero_le _, Nat.zero_le _⟩ (Nat.le_of_ble_eq_true rfl) dX10_steps_3 rfl hn (fun r1 z2 hf => ?_)
  refine V_if_ne (tgt := 11) dX10_steps_6 (by decide) (fun h8 => ?_) (fun h8 => ?_)
  · have hf := it_f h8 hf
    refine V_aload_n (j := 0) dX10_steps_11 rfl rfl ?_
    obtain ⟨t4, et4, hf⟩ := hf
    refine V_getR fl_X10_27 rfl h3.1 h3.2 et4 dX10_steps_12 ?_
    refine V_iload_n (j := 1) dX10_steps_15 rfl rfl ?_
    refine V_iload_n (j := 2) dX10_steps_16 rfl rfl ?_
    obtain ⟨h5, hf⟩ := hf
    obtain ⟨h6, hf⟩ := hf
    refine V_iast h5.1 h5.s h6 dX10_steps_17 ?_
    refine V_nz (fun z7 ez7 => ?_)
    have hf := hf z7 ez7
    refine V_iconst (v := (1 : Int32)) dX10_steps_18 (by decide) ?_
    exact V_ireturn dX10_steps_19 rfl (by decide) (Nat.le_refl 0) (kI_of hf)
  · have hf := it_t (Classical.not_not.mp h8) hf
    refine V_iconst (v := (0 : Int32)) dX10_steps_9 (by decide) ?_
    exact V_ireturn dX10_steps_10 rfl (by decide) (Nat.le_refl 0) (kI_of hf)
def wX11_walk (n : Nat) (sh : Nat → Nat × Nat) (a0 : Nat) (x1 : Int32) (x2 : Int32) (z : gS) (P : Int32 → gS → Prop) : Prop := (oO n sh a0 7) ∧ (∃ t2 : Nat, gr z a0 7 = some t2 ∧ ((oO n sh t2 4) ∧ (wX7_hasPerson n sh t2 x1 z (fun (r3 : Int32) (z4 : gS) => if r3 = 0 then P (0 : Int32) z4 else (∃ t6 : Nat, gr z4 a0 1 = some t6 ∧ ((oO n sh t6 6) ∧ (wX10_canStep n sh t6 x1 x2 z4 (fun (r7 : Int32) (z8 : gS) => if r7 = 0 then P (0 : Int32) z8 else (∃ t10 : Nat, gr z8 a0 3 = some t10 ∧ (∃ t11 : Nat, gr z8 a0 1 = some t11 ∧ ((oO n sh t10 2) ∧ (wX4_keep n sh t10 t11 z8 (fun (z13 : gS) => ∃ t15 : Nat, gr z13 a0 1 = some t15 ∧ ((oO n sh t15 6) ∧ (wX10_steps n sh t15 x1 x2 z13 (fun (r16 : Int32) (z17 : gS) => (bo r16) ∧ P r16 z17))))))))))))))))
set_option maxRecDepth 100000 in
set_option maxHeartbeats 4000000 in
theorem ctX11_walk {E : gE} {n : Nat} {sh : Nat → Nat × Nat} {a0 : Nat} {x1 : Int32} {x2 : Int32} {z : gS} {P : Int32 → gS → Prop} (hn : n ≤ 1000000) (hf : wX11_walk n sh a0 x1 x2 z P) : VM E 3 0 gyX11_walk [.ref a0, .int x1, .int x2] n sh z (kI n sh P) := by
  unfold wX11_walk at hf
  refine VM.of (by decide +kernel) (Nat.le_of_ble_eq_true rfl) ?_
  show V E (gR 3 0) gyX11_walk 0 0 0 [(0, .ref a0), (1, .int x1), (2, .int x2)] [] n sh z (kI n sh P)
  refine V_aload_n (j := 0) dX11_walk_0 rfl rfl ?_
  obtain ⟨h1, hf⟩ := hf
  obtain ⟨t2, et2, hf⟩ := hf
  refine V_getR fl_X11_51 rfl h1.1 h1.2 et2 dX11_walk_1 ?_
  refine V_iload_n (j := 1) dX11_walk_4 rfl rfl ?_
  obtain ⟨h5, hf⟩ := hf
  refine V_cVI (ctX7_hasPerson hn hf) gc_X11_149 rfl h5.1 ⟨_, h5.2, by decide, rfl⟩ ⟨by decide, by decide, Nat.zero_le _, Nat.zero_le _⟩ (Nat.le_of_ble_eq_true rfl) dX11_walk_5 rfl hn (fun r3 z4 hf => ?_)
  refine V_if_eq (tgt := 23) dX11_walk_8 (by decide) (fun h20 => ?_) (fun h20 => ?_)
  · have hf := it_t h20 hf
    refine V_iconst (v := (0 : Int32)) dX11_walk_23 (by decide) ?_
    exact V_ireturn dX11_walk_24 rfl (by decide) (Nat.le_refl 0) (kI_of hf)
  · have hf := it_f h20 hf
    refine V_aload_n (j := 0) dX11_walk_11 rfl rfl ?_
    obtain ⟨t6, et6, hf⟩ := hf
    refine V_getR fl_X11_19 rfl h1.1 h1.2 et6 dX11_walk_12 ?_
    refine V_iload_n (j := 1) dX11_walk_15 rfl rfl ?_
    refine V_iload_n (j := 2) dX11_walk_16 rfl rfl ?_
    obtain ⟨h9, hf⟩ := hf
    refine V_cVI (ctX10_canStep hn hf) gc_X11_155 rfl h9.1 ⟨_, h9.2, by decide, rfl⟩ ⟨by decide, by decide, Nat.zero_le _, Nat.zero_le _⟩ (Nat.le_of_ble_eq_true rfl) dX11_walk_17 rfl hn (fun r7 z8 hf => ?_)
    refine V_if_ne (tgt := 25) dX11_walk_20 (by decide) (fun h19 => ?_) (fun h19 => ?_)
    · have hf := it_f h19 hf
      refine V_aload_n (j := 0) dX11_walk_25 rfl rfl ?_
      obtain ⟨t10, et10, hf⟩ := hf
      refine V_getR fl_X11_29 rfl h1.1 h1.2 et10 dX11_walk_26 ?_
      refine V_aload_n (j := 0) dX11_walk_29 rfl rfl ?_
      obtain ⟨t11, et11, hf⟩ := hf
      refine V_getR fl_X11_19 rfl h1.1 h1.2 et11 dX11_walk_30 ?_
      obtain ⟨h14, hf⟩ := hf
      refine V_cVN (ctX4_keep hn hf) gc_X11_159 rfl h14.1 ⟨_, h14.2, by decide, rfl⟩ ⟨by decide, by decide, Nat.zero_le _, Nat.zero_le _⟩ (Nat.le_of_ble_eq_true rfl) dX11_walk_33 rfl hn (fun z13 hf => ?_)
      refine V_aload_n (j := 0) dX11_walk_36 rfl rfl ?_
      obtain ⟨t15, et15, hf⟩ := hf
      refine V_getR fl_X11_19 rfl h1.1 h1.2 et15 dX11_walk_37 ?_
      refine V_iload_n (j := 1) dX11_walk_40 rfl rfl ?_
      refine V_iload_n (j := 2) dX11_walk_41 rfl rfl ?_
      obtain ⟨h18, hf⟩ := hf
      refine V_cVI (ctX10_steps hn hf) gc_X11_163 rfl h18.1 ⟨_, h18.2, by decide, rfl⟩ ⟨by decide, by decide, Nat.zero_le _, Nat.zero_le _⟩ (Nat.le_of_ble_eq_true rfl) dX11_walk_42 rfl hn (fun r16 z17 hf => ?_)
      exact V_ireturn dX11_walk_45 rfl hf.1 (Nat.le_refl 0) (kI_of hf.2)
    · have hf := it_t (Classical.not_not.mp h19) hf
      refine V_iconst (v := (0 : Int32)) dX11_walk_23 (by decide) ?_
      exact V_ireturn dX11_walk_24 rfl (by decide) (Nat.le_refl 0) (kI_of hf)
def wX7_hasDeed (n : Nat) (sh : Nat → Nat × Nat) (a0 : Nat) (x1 : Int32) (z : gS) (P : Int32 → gS → Prop) : Prop := if x1 < 0 then P (0 : Int32) z else ((oO n sh a0 4) ∧ (if (gi z a0 12) ≤ x1 then P (0 : Int32) z else P (1 : Int32) z))
set_option maxRecDepth 100000 in
set_option maxHeartbeats 4000000 in
theorem ctX7_hasDeed {E : gE} {n : Nat} {sh : Nat → Nat × Nat} {a0 : Nat} {x1 : Int32} {z : gS} {P : Int32 → gS → Prop} (hn : n ≤ 1000000) (hf : wX7_hasDeed n sh a0 x1 z P) : VM E 0 0 gyX7_hasDeed [.ref a0, .int x1] n sh z (kI n sh P) := by
  unfold wX7_hasDeed at hf
  refine VM.of (by decide +kernel) (Nat.le_of_ble_eq_true rfl) ?_
  show V E (gR 0 0) gyX7_hasDeed 0 0 0 [(0, .ref a0), (1, .int x1)] [] n sh z (kI n sh P)
  refine V_iload_n (j := 1) dX7_hasDeed_0 rfl rfl ?_
  refine V_if_lt (tgt := 16) dX7_hasDeed_1 (by decide) (fun h3 => ?_) (fun h3 => ?_)
  · have hf := it_t h3 hf
    refine V_iconst (v := (0 : Int32)) dX7_hasDeed_16 (by decide) ?_
    exact V_ireturn dX7_hasDeed_17 rfl (by decide) (Nat.le_refl 0) (kI_of hf)
  · have hf := it_f h3 hf
    refine V_iload_n (j := 1) dX7_hasDeed_4 rfl rfl ?_
    refine V_aload_n (j := 0) dX7_hasDeed_5 rfl rfl ?_
    obtain ⟨h1, hf⟩ := hf
    refine V_getI fl_X7_54 rfl h1.1 h1.2 dX7_hasDeed_6 ?_
    refine V_icmp_ge (tgt := 16) dX7_hasDeed_9 (by decide) (fun h2 => ?_) (fun h2 => ?_)
    · have hf := it_t h2 hf
      refine V_iconst (v := (0 : Int32)) dX7_hasDeed_16 (by decide) ?_
      exact V_ireturn dX7_hasDeed_17 rfl (by decide) (Nat.le_refl 0) (kI_of hf)
    · have hf := it_f h2 hf
      refine V_iconst (v := (1 : Int32)) dX7_hasDeed_12 (by decide) ?_
      refine V_goto (tgt := 17) dX7_hasDeed_13 (by decide) ?_
      exact V_ireturn dX7_hasDeed_17 rfl (by decide) (Nat.le_refl 0) (kI_of hf)
