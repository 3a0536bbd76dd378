def wX9_append_J70 (n : Nat) (sh : Nat → Nat × Nat) (k3 : Nat → Int64 → Int32 → gS → Prop) (P : gS → Prop) (a0 : Nat) (y1 : Int64) (x3 : Int32) (z : gS) : Prop := ∀ v3 : Int32, v3 = x3 + (-8 : Int32) → k3 a0 y1 v3 z
set_option maxRecDepth 100000 in
set_option maxHeartbeats 4000000 in
theorem vX9_append_J70 {E : gE} {n : Nat} {sh : Nat → Nat × Nat} {P : gS → Prop} {k3 : Nat → Int64 → Int32 → gS → Prop} {a0 : Nat} {y1 : Int64} {x3 : Int32} {z : gS} (hn : gOK E n) (hk3 : ∀ (a0 : Nat) (y1 : Int64) (x3 : Int32) (z : gS), k3 a0 y1 x3 z → V E (gR 0 0) gyX9_append 0 0 3 [(0, .ref a0), (1, .long y1), (3, .int x3)] [] n sh z (kN n sh P)) (hf : wX9_append_J70 n sh k3 P a0 y1 x3 z) : V E (gR 0 0) gyX9_append 0 0 70 [(0, .ref a0), (1, .long y1), (3, .int x3)] [] n sh z (kN n sh P) := by
  unfold wX9_append_J70 at hf
  obtain ⟨v3, ev3⟩ : ∃ y : Int32, y = x3 + (-8 : Int32) := ⟨_, rfl⟩
  refine V_iinc (j := 2) (v := v3) (ls2 := [(3, .int v3), (0, .ref a0), (1, .long y1)]) dX9_append_70 rfl (by rw [ev3]; rfl) (by decide) rfl ?_
  have hf := hf v3 ev3
  refine V_goto (tgt := 3) dX9_append_73 (by decide) ?_
  refine V_to [1, 2, 0] rfl ?_
  exact hk3 _ _ _ _ hf
def wX9_append_J48 (n : Nat) (sh : Nat → Nat × Nat) (k3 : Nat → Int64 → Int32 → gS → Prop) (P : gS → Prop) (a0 : Nat) (y1 : Int64) (x3 : Int32) (x4 : Int32) (z : gS) : Prop := (oO n sh a0 5) ∧ (∃ t5 : Nat, gr z a0 0 = some t5 ∧ ((oA n sh t5 3) ∧ ((vp_in (gi z a0 1) (sh t5).2) ∧ (∀ z8 : gS, z8 = si z t5 (gi z a0 1).toNatClampNeg (vp_nar .char ((x4.toUInt32 % 65536).toInt32)) → (∀ z9 : gS, z9 = si z8 a0 1 ((gi z8 a0 1) + (1 : Int32)) → wX9_append_J70 n sh k3 P a0 y1 x3 z9)))))
set_option maxRecDepth 100000 in
set_option maxHeartbeats 4000000 in
theorem vX9_append_J48 {E : gE} {n : Nat} {sh : Nat → Nat × Nat} {P : gS → Prop} {k3 : Nat → Int64 → Int32 → gS → Prop} {a0 : Nat} {y1 : Int64} {x3 : Int32} {x4 : Int32} {z : gS} (hn : gOK E n) (hk3 : ∀ (a0 : Nat) (y1 : Int64) (x3 : Int32) (z : gS), k3 a0 y1 x3 z → V E (gR 0 0) gyX9_append 0 0 3 [(0, .ref a0), (1, .long y1), (3, .int x3)] [] n sh z (kN n sh P)) (hf : wX9_append_J48 n sh k3 P a0 y1 x3 x4 z) : V E (gR 0 0) gyX9_append 0 0 48 [(0, .ref a0), (1, .long y1), (3, .int x3), (4, .int x4)] [] n sh z (kN n sh P) := by
  unfold wX9_append_J48 at hf
  refine V_aload_n (j := 0) dX9_append_48 rfl rfl ?_
  obtain ⟨h4, hf⟩ := hf
  obtain ⟨t5, et5, hf⟩ := hf
  refine V_getR fl_X9_11 rfl h4.1 h4.2 et5 dX9_append_49 ?_
  refine V_aload_n (j := 0) dX9_append_52 rfl rfl ?_
  refine V_getI fl_X9_15 rfl h4.1 h4.2 dX9_append_53 ?_
  refine V_iload (j := 3) dX9_append_56 rfl ?_
  refine V_i2c dX9_append_58 ?_
  obtain ⟨h6, hf⟩ := hf
  obtain ⟨h7, hf⟩ := hf
  refine V_cast h6.1 h6.s h7 dX9_append_59 ?_
  refine V_nz (fun z8 ez8 => ?_)
  have hf := hf z8 ez8
  refine V_aload_n (j := 0) dX9_append_60 rfl rfl ?_
  refine V_dup dX9_append_61 rfl ?_
  refine V_getI fl_X9_15 rfl h4.1 h4.2 dX9_append_62 ?_
  refine V_iconst (v := (1 : Int32)) dX9_append_65 (by decide) ?_
  refine V_iadd dX9_append_66 ?_
  refine V_putI fl_X9_15 rfl rfl rfl rfl h4.1 h4.2 dX9_append_67 ?_
  refine V_nz (fun z9 ez9 => ?_)
  have hf := hf z9 ez9
  refine V_to [0, 1, 2] rfl ?_
  exact vX9_append_J70 hn hk3 hf
def wX9_append_B3 (n : Nat) (sh : Nat → Nat × Nat) (k3 : Nat → Int64 → Int32 → gS → Prop) (P : gS → Prop) (a0 : Nat) (y1 : Int64) (x3 : Int32) (z : gS) : Prop := if x3 < 0 then P z else (∀ v1 : Int32, v1 = (((y1.toUInt64 >>> (x3.toInt64.toUInt64 &&& Int64.toUInt64 63)).toInt64).toInt32 &&& (255 : Int32)) → ((oO n sh a0 5) ∧ (if (1000 : Int32) ≤ (gi z a0 1) then wX9_append_J70 n sh k3 P a0 y1 x3 z else (if v1 = (10 : Int32) then wX9_append_J48 n sh k3 P a0 y1 x3 v1 z else (if v1 < (32 : Int32) then wX9_append_J70 n sh k3 P a0 y1 x3 z else (if (126 : Int32) < v1 then wX9_append_J70 n sh k3 P a0 y1 x3 z else wX9_append_J48 n sh k3 P a0 y1 x3 v1 z))))))
def wX9_append_L3 (n : Nat) (sh : Nat → Nat × Nat) (P : gS → Prop) : Nat → Nat → Int64 → Int32 → gS → Prop
  | 0, _, _, _, _ => False
  | N + 1, a0, y1, x3, z => wX9_append_B3 n sh (wX9_append_L3 n sh P N) P a0 y1 x3 z
set_option maxRecDepth 100000 in
set_option maxHeartbeats 4000000 in
theorem vX9_append_B3 {E : gE} {n : Nat} {sh : Nat → Nat × Nat} {P : gS → Prop} {k3 : Nat → Int64 → Int32 → gS → Prop} {a0 : Nat} {y1 : Int64} {x3 : Int32} {z : gS} (hn : gOK E n) (hk3 : ∀ (a0 : Nat) (y1 : Int64) (x3 : Int32) (z : gS), k3 a0 y1 x3 z → V E (gR 0 0) gyX9_append 0 0 3 [(0, .ref a0), (1, .long y1), (3, .int x3)] [] n sh z (kN n sh P)) (hf : wX9_append_B3 n sh k3 P a0 y1 x3 z) : V E (gR 0 0) gyX9_append 0 0 3 [(0, .ref a0), (1, .long y1), (3, .int x3)] [] n sh z (kN n sh P) := by
  unfold wX9_append_B3 at hf
  refine V_iload_n (j := 2) dX9_append_3 rfl rfl ?_
  refine V_if_lt (tgt := 76) dX9_append_4 (by decide) (fun h14 => ?_) (fun h14 => ?_)
  · have hf := it_t h14 hf
    exact V_return dX9_append_76 rfl (Nat.le_refl 0) (kN_of hf)
  · have hf := it_f h14 hf
    refine V_lload_n (j := 1) dX9_append_7 rfl rfl ?_
    refine V_iload_n (j := 2) dX9_append_8 rfl rfl ?_
    refine V_lushr dX9_append_9 ?_
    refine V_l2i dX9_append_10 ?_
    refine V_sipush (v := (255 : Int32)) dX9_append_11 (by decide) ?_
    refine V_iand dX9_append_14 ?_
    refine V_nI (fun v1 ev1 => ?_)
    have hf := hf v1 ev1
    refine V_istore (ls2 := [(4, .int v1), (0, .ref a0), (1, .long y1), (3, .int x3)]) dX9_append_15 (by decide) rfl ?_
    refine V_aload_n (j := 1) dX9_append_17 rfl rfl ?_
    obtain ⟨h2, hf⟩ := hf
    refine V_getI fl_X9_15 rfl h2.1 h2.2 dX9_append_18 ?_
    refine V_sipush (v := (1000 : Int32)) dX9_append_21 (by decide) ?_
    refine V_icmp_ge (tgt := 70) dX9_append_24 (by decide) (fun h13 => ?_) (fun h13 => ?_)
    · have hf := it_t h13 hf
      refine V_to [1, 2, 3] rfl ?_
      exact vX9_append_J70 hn hk3 hf
    · have hf := it_f h13 hf
      refine V_iload (j := 0) dX9_append_27 rfl ?_
      refine V_bipush (v := (10 : Int32)) dX9_append_29 (by decide) ?_
      refine V_icmp_eq (tgt := 48) dX9_append_31 (by decide) (fun h12 => ?_) (fun h12 => ?_)
      · have hf := it_t h12 hf
        refine V_to [1, 2, 3, 0] rfl ?_
        exact vX9_append_J48 hn hk3 hf
      · have hf := it_f h12 hf
        refine V_iload (j := 0) dX9_append_34 rfl ?_
        refine V_bipush (v := (32 : Int32)) dX9_append_36 (by decide) ?_
        refine V_icmp_lt (tgt := 70) dX9_append_38 (by decide) (fun h11 => ?_) (fun h11 => ?_)
        · have hf := it_t h11 hf
          refine V_to [1, 2, 3] rfl ?_
          exact vX9_append_J70 hn hk3 hf
        · have hf := it_f h11 hf
          refine V_iload (j := 0) dX9_append_41 rfl ?_
          refine V_bipush (v := (126 : Int32)) dX9_append_43 (by decide) ?_
          refine V_icmp_gt (tgt := 70) dX9_append_45 (by decide) (fun h10 => ?_) (fun h10 => ?_)
          · have hf := it_t h10 hf
            refine V_to [1, 2, 3] rfl ?_
            exact vX9_append_J70 hn hk3 hf
          · have hf := it_f h10 hf
            refine V_to [1, 2, 3, 0] rfl ?_
            exact vX9_append_J48 hn hk3 hf
set_option maxRecDepth 100000 in
set_option maxHeartbeats 4000000 in
theorem vX9_append_L3 {E : gE} {n : Nat} {sh : Nat → Nat × Nat} {P : gS → Prop} (hn : gOK E n) : ∀ (N : Nat) (a0 : Nat) (y1 : Int64) (x3 : Int32) (z : gS), wX9_append_L3 n sh P N a0 y1 x3 z → V E (gR 0 0) gyX9_append 0 0 3 [(0, .ref a0), (1, .long y1), (3, .int x3)] [] n sh z (kN n sh P) := by
  intro N
  induction N with
  | zero => intro a0 y1 x3 z hf; exact False.elim hf
  | succ N ih => intro a0 y1 x3 z hf; exact vX9_append_B3 hn ih hf
def wX9_append (n : Nat) (sh : Nat → Nat × Nat) (a0 : Nat) (y1 : Int64) (z : gS) (P : gS → Prop) : Prop := (∃ N, wX9_append_L3 n sh P N a0 y1 (56 : Int32) z)
set_option maxRecDepth 100000 in
set_option maxHeartbeats 4000000 in
theorem ctX9_append {E : gE} {n : Nat} {sh : Nat → Nat × Nat} {a0 : Nat} {y1 : Int64} {z : gS} {P : gS → Prop} (hn : gOK E n) (hf : wX9_append n sh a0 y1 z P) : VM E 0 0 gyX9_append [.ref a0, .long y1] n sh z (kN n sh P) := by
  unfold wX9_append at hf
  refine VM.of (by decide +kernel) (Nat.le_of_ble_eq_true rfl) (fun _ _ _ h => h.2.2) ?_
  show V E (gR 0 0) gyX9_append 0 0 0 [(0, .ref a0), (1, .long y1)] [] n sh z (kN n sh P)
  refine V_bipush (v := (56 : Int32)) dX9_append_0 (by decide) ?_
  refine V_istore_n (ls2 := [(3, .int (56 : Int32)), (0, .ref a0), (1, .long y1)]) dX9_append_2 rfl (by decide) rfl ?_
  obtain ⟨N, hf⟩ := hf
  refine V_to [1, 2, 0] rfl ?_
  exact vX9_append_L3 hn N _ _ _ _ hf
def wX11_feed (n : Nat) (sh : Nat → Nat × Nat) (a0 : Nat) (y1 : Int64) (y3 : Int64) (y5 : Int64) (z : gS) (P : Int32 → gS → Prop) : Prop := (oO n sh a0 7) ∧ (∃ t2 : Nat, gr z a0 0 = some t2 ∧ ((oO n sh t2 5) ∧ (wX9_append n sh t2 y1 z (fun (z4 : gS) => ∃ t6 : Nat, gr z4 a0 0 = some t6 ∧ ((oO n sh t6 5) ∧ (wX9_append n sh t6 y3 z4 (fun (z8 : gS) => ∃ t10 : Nat, gr z8 a0 0 = some t10 ∧ ((oO n sh t10 5) ∧ (wX9_append n sh t10 y5 z8 (fun (z12 : gS) => ∃ t14 : Nat, gr z12 a0 0 = some t14 ∧ ((oO n sh t14 5) ∧ P (gi z12 t14 1) z12)))))))))))
set_option maxRecDepth 100000 in
set_option maxHeartbeats 4000000 in
theorem ctX11_feed {E : gE} {n : Nat} {sh : Nat → Nat × Nat} {a0 : Nat} {y1 : Int64} {y3 : Int64} {y5 : Int64} {z : gS} {P : Int32 → gS → Prop} (hn : gOK E n) (hf : wX11_feed n sh a0 y1 y3 y5 z P) : VM E 1 0 gyX11_feed [.ref a0, .long y1, .long y3, .long y5] n sh z (kI n sh P) := by
  unfold wX11_feed at hf
  refine VM.of (by decide +kernel) (Nat.le_of_ble_eq_true rfl) (fun _ _ _ h => h.2.2) ?_
  show V E (gR 1 0) gyX11_feed 0 0 0 [(0, .ref a0), (1, .long y1), (3, .long y3), (5, .long y5)] [] n sh z (kI n sh P)
  refine V_aload_n (j := 0) dX11_feed_0 rfl rfl ?_
  obtain ⟨h1, hf⟩ := hf
  obtain ⟨t2, et2, hf⟩ := hf
  refine V_getR fl_X11_10 rfl h1.1 h1.2 et2 dX11_feed_1 ?_
  refine V_lload_n (j := 1) dX11_feed_4 rfl rfl ?_
  obtain ⟨h5, hf⟩ := hf
  refine V_cVN (ctX9_append hn hf) gc_X11_68 rfl h5.1 ⟨_, h5.2, by decide, rfl⟩ ⟨by decide, by decide, Nat.zero_le _, Nat.zero_le _⟩ (Nat.le_of_ble_eq_true rfl) dX11_feed_5 rfl hn (fun z4 hf => ?_)
  refine V_aload_n (j := 0) dX11_feed_8 rfl rfl ?_
  obtain ⟨t6, et6, hf⟩ := hf
  refine V_getR fl_X11_10 rfl h1.1 h1.2 et6 dX11_feed_9 ?_
  refine V_lload_n (j := 2) dX11_feed_12 rfl rfl ?_
  obtain ⟨h9, hf⟩ := hf
  refine V_cVN (ctX9_append hn hf) gc_X11_68 rfl h9.1 ⟨_, h9.2, by decide, rfl⟩ ⟨by decide, by decide, Nat.zero_le _, Nat.zero_le _⟩ (Nat.le_of_ble_eq_true rfl) dX11_feed_13 rfl hn (fun z8 hf => ?_)
  refine V_aload_n (j := 0) dX11_feed_16 rfl rfl ?_
  obtain ⟨t10, et10, hf⟩ := hf
  refine V_getR fl_X11_10 rfl h1.1 h1.2 et10 dX11_feed_17 ?_
  refine V_lload (j := 3) dX11_feed_20 rfl ?_
  obtain ⟨h13, hf⟩ := hf
  refine V_cVN (ctX9_append hn hf) gc_X11_68 rfl h13.1 ⟨_, h13.2, by decide, rfl⟩ ⟨by decide, by decide, Nat.zero_le _, Nat.zero_le _⟩ (Nat.le_of_ble_eq_true rfl) dX11_feed_22 rfl hn (fun z12 hf => ?_)
  refine V_aload_n (j := 0) dX11_feed_25 rfl rfl ?_
  obtain ⟨t14, et14, hf⟩ := hf
  refine V_getR fl_X11_10 rfl h1.1 h1.2 et14 dX11_feed_26 ?_
  obtain ⟨h15, hf⟩ := hf
  refine V_getI fl_X11_72 rfl h15.1 h15.2 dX11_feed_29 ?_
  exact V_ireturn dX11_feed_32 rfl rfl (Nat.le_refl 0) (kI_of hf)
def wX5_clear (n : Nat) (sh : Nat → Nat × Nat) (a0 : Nat) (z : gS) (P : gS → Prop) : Prop := (oO n sh a0 3) ∧ (∀ z2 : gS, z2 = si z a0 2 (0 : Int32) → P z2)
set_option maxRecDepth 100000 in
set_option maxHeartbeats 4000000 in
theorem ctX5_clear {E : gE} {n : Nat} {sh : Nat → Nat × Nat} {a0 : Nat} {z : gS} {P : gS → Prop} (hn : gOK E n) (hf : wX5_clear n sh a0 z P) : VM E 0 0 gyX5_clear [.ref a0] n sh z (kN n sh P) := by
  unfold wX5_clear at hf
  refine VM.of (by decide +kernel) (Nat.le_of_ble_eq_true rfl) (fun _ _ _ h => h.2.2) ?_
  show V E (gR 0 0) gyX5_clear 0 0 0 [(0, .ref a0)] [] n sh z (kN n sh P)
  refine V_aload_n (j := 0) dX5_clear_0 rfl rfl ?_
  refine V_iconst (v := (0 : Int32)) dX5_clear_1 (by decide) ?_
  obtain ⟨h1, hf⟩ := hf
  refine V_putI fl_X5_20 rfl rfl rfl rfl h1.1 h1.2 dX5_clear_2 ?_
  refine V_nz (fun z2 ez2 => ?_)
  have hf := hf z2 ez2
  exact V_return dX5_clear_5 rfl (Nat.le_refl 0) (kN_of hf)
def wX7_clear (n : Nat) (sh : Nat → Nat × Nat) (a0 : Nat) (z : gS) (P : gS → Prop) : Prop := (oO n sh a0 4) ∧ (∃ t2 : Nat, gr z a0 0 = some t2 ∧ ((oO n sh t2 3) ∧ (wX5_clear n sh t2 z (fun (z4 : gS) => ∀ z6 : gS, z6 = si z4 a0 10 (0 : Int32) → (∀ z7 : gS, z7 = si z6 a0 11 (0 : Int32) → (∀ z8 : gS, z8 = si z7 a0 12 (0 : Int32) → (∀ z9 : gS, z9 = si z8 a0 13 (0 : Int32) → P z9)))))))
set_option maxRecDepth 100000 in
set_option maxHeartbeats 4000000 in
theorem ctX7_clear {E : gE} {n : Nat} {sh : Nat → Nat × Nat} {a0 : Nat} {z : gS} {P : gS → Prop} (hn : gOK E n) (hf : wX7_clear n sh a0 z P) : VM E 1 0 gyX7_clear [.ref a0] n sh z (kN n sh P) := by
  unfold wX7_clear at hf
  refine VM.of (by decide +kernel) (Nat.le_of_ble_eq_true rfl) (fun _ _ _ h => h.2.2) ?_
  show V E (gR 1 0) gyX7_clear 0 0 0 [(0, .ref a0)] [] n sh z (kN n sh P)
  refine V_aload_n (j := 0) dX7_clear_0 rfl rfl ?_
  obtain ⟨h1, hf⟩ := hf
  obtain ⟨t2, et2, hf⟩ := hf
  refine V_getR fl_X7_12 rfl h1.1 h1.2 et2 dX7_clear_1 ?_
  obtain ⟨h5, hf⟩ := hf
  refine V_cVN (ctX5_clear hn hf) gc_X7_60 rfl h5.1 ⟨_, h5.2, by decide, rfl⟩ ⟨by decide, by decide, Nat.zero_le _, Nat.zero_le _⟩ (Nat.le_of_ble_eq_true rfl) dX7_clear_4 rfl hn (fun z4 hf => ?_)
  refine V_aload_n (j := 0) dX7_clear_7 rfl rfl ?_
  refine V_iconst (v := (0 : Int32)) dX7_clear_8 (by decide) ?_
  refine V_putI fl_X7_47 rfl rfl rfl rfl h1.1 h1.2 dX7_clear_9 ?_
  refine V_nz (fun z6 ez6 => ?_)
  have hf := hf z6 ez6
  refine V_aload_n (j := 0) dX7_clear_12 rfl rfl ?_
  refine V_iconst (v := (0 : Int32)) dX7_clear_13 (by decide) ?_
  refine V_putI fl_X7_51 rfl rfl rfl rfl h1.1 h1.2 dX7_clear_14 ?_
  refine V_nz (fun z7 ez7 => ?_)
  have hf := hf z7 ez7
  refine V_aload_n (j := 0) dX7_clear_17 rfl rfl ?_
  refine V_iconst (v := (0 : Int32)) dX7_clear_18 (by decide) ?_
  refine V_putI fl_X7_54 rfl rfl rfl rfl h1.1 h1.2 dX7_clear_19 ?_
  refine V_nz (fun z8 ez8 => ?_)
  have hf := hf z8 ez8
  refine V_aload_n (j := 0) dX7_clear_22 rfl rfl ?_
  refine V_iconst (v := (0 : Int32)) dX7_clear_23 (by decide) ?_
  refine V_putI fl_X7_57 rfl rfl rfl rfl h1.1 h1.2 dX7_clear_24 ?_
  refine V_nz (fun z9 ez9 => ?_)
  have hf := hf z9 ez9
  exact V_return dX7_clear_27 rfl (Nat.le_refl 0) (kN_of hf)
def wX9_scanWord_J93 (n : Nat) (sh : Nat → Nat × Nat) (P : gS → Prop) (s0 : Int32) (s1 : Nat) (z : gS) : Prop := (oO n sh s1 5) ∧ (∀ z8 : gS, z8 = si z s1 2 s0 → P z8)
set_option maxRecDepth 100000 in
set_option maxHeartbeats 4000000 in
theorem vX9_scanWord_J93 {E : gE} {n : Nat} {sh : Nat → Nat × Nat} {P : gS → Prop} {s0 : Int32} {s1 : Nat} {z : gS} (hn : gOK E n) (hf : wX9_scanWord_J93 n sh P s0 s1 z) : V E (gR 0 0) gyX9_scanWord 0 0 93 [] [.int s0, .ref s1] n sh z (kN n sh P) := by
  unfold wX9_scanWord_J93 at hf
  obtain ⟨h7, hf⟩ := hf
  refine V_putI fl_X9_19 rfl rfl rfl rfl h7.1 h7.2 dX9_scanWord_93 ?_
  refine V_nz (fun z8 ez8 => ?_)
  have hf := hf z8 ez8
  exact V_return dX9_scanWord_96 rfl (Nat.le_refl 0) (kN_of hf)
def wX9_scanWord_J71 (n : Nat) (sh : Nat → Nat × Nat) (P : gS → Prop) (a0 : Nat) (x1 : Int32) (z : gS) : Prop := (oO n sh a0 5) ∧ (∀ z6 : gS, z6 = si z a0 4 x1 → (if (x1 - (gi z6 a0 3)) ≤ (8 : Int32) then wX9_scanWord_J93 n sh P (2 : Int32) a0 z6 else wX9_scanWord_J93 n sh P (1 : Int32) a0 z6))
set_option maxRecDepth 100000 in
set_option maxHeartbeats 4000000 in
theorem vX9_scanWord_J71 {E : gE} {n : Nat} {sh : Nat → Nat × Nat} {P : gS → Prop} {a0 : Nat} {x1 : Int32} {z : gS} (hn : gOK E n) (hf : wX9_scanWord_J71 n sh P a0 x1 z) : V E (gR 0 0) gyX9_scanWord 0 0 71 [(0, .ref a0), (1, .int x1)] [] n sh z (kN n sh P) := by
  unfold wX9_scanWord_J71 at hf
  refine V_aload_n (j := 0) dX9_scanWord_71 rfl rfl ?_
  refine V_iload_n (j := 1) dX9_scanWord_72 rfl rfl ?_
  obtain ⟨h5, hf⟩ := hf
  refine V_putI fl_X9_25 rfl rfl rfl rfl h5.1 h5.2 dX9_scanWord_73 ?_
  refine V_nz (fun z6 ez6 => ?_)
  have hf := hf z6 ez6
  refine V_aload_n (j := 0) dX9_scanWord_76 rfl rfl ?_
  refine V_iload_n (j := 1) dX9_scanWord_77 rfl rfl ?_
  refine V_aload_n (j := 0) dX9_scanWord_78 rfl rfl ?_
  refine V_getI fl_X9_22 rfl h5.1 h5.2 dX9_scanWord_79 ?_
  refine V_isub dX9_scanWord_82 ?_
  refine V_bipush (v := (8 : Int32)) dX9_scanWord_83 (by decide) ?_
  refine V_icmp_le (tgt := 92) dX9_scanWord_85 (by decide) (fun h9 => ?_) (fun h9 => ?_)
  · have hf := it_t h9 hf
    refine V_iconst (v := (2 : Int32)) dX9_scanWord_92 (by decide) ?_
    refine V_to [] rfl ?_
    exact vX9_scanWord_J93 hn hf
  · have hf := it_f h9 hf
    refine V_iconst (v := (1 : Int32)) dX9_scanWord_88 (by decide) ?_
    refine V_goto (tgt := 93) dX9_scanWord_89 (by decide) ?_
    refine V_to [] rfl ?_
    exact vX9_scanWord_J93 hn hf
def wX9_scanWord_B10 (n : Nat) (sh : Nat → Nat × Nat) (k10 : Nat → Int32 → gS → Prop) (P : gS → Prop) (a0 : Nat) (x1 : Int32) (z : gS) : Prop := (oO n sh a0 5) ∧ (if (gi z a0 1) ≤ x1 then wX9_scanWord_J71 n sh P a0 x1 z else (∃ t10 : Nat, gr z a0 0 = some t10 ∧ ((oA n sh t10 3) ∧ ((vp_in x1 (sh t10).2) ∧ (if (gi z t10 x1.toNatClampNeg) < (97 : Int32) then wX9_scanWord_J71 n sh P a0 x1 z else (∃ t13 : Nat, gr z a0 0 = some t13 ∧ ((oA n sh t13 3) ∧ ((vp_in x1 (sh t13).2) ∧ (if (122 : Int32) < (gi z t13 x1.toNatClampNeg) then wX9_scanWord_J71 n sh P a0 x1 z else (∃ t16 : Nat, gr z a0 0 = some t16 ∧ ((oA n sh t16 3) ∧ ((vp_in x1 (sh t16).2) ∧ (∀ z19 : gS, z19 = sl z a0 6 (((gl z a0 6) * (27 : Int64)) + (((gi z t16 x1.toNatClampNeg) - (97 : Int32)) + (1 : Int32)).toInt64) → (∀ v20 : Int32, v20 = x1 + (1 : Int32) → k10 a0 v20 z19))))))))))))))
def wX9_scanWord_L10 (n : Nat) (sh : Nat → Nat × Nat) (P : gS → Prop) : Nat → Nat → Int32 → gS → Prop
  | 0, _, _, _ => False
  | N + 1, a0, x1, z => wX9_scanWord_B10 n sh (wX9_scanWord_L10 n sh P N) P a0 x1 z
set_option maxRecDepth 100000 in
set_option maxHeartbeats 4000000 in
theorem vX9_scanWord_B10 {E : gE} {n : Nat} {sh : Nat → Nat × Nat} {P : gS → Prop} {k10 : Nat → Int32 → gS → Prop} {a0 : Nat} {x1 : Int32} {z : gS} (hn : gOK E n) (hk10 : ∀ (a0 : Nat) (x1 : Int32) (z : gS), k10 a0 x1 z → V E (gR 0 0) gyX9_scanWord 0 0 10 [(0, .ref a0), (1, .int x1)] [] n sh z (kN n sh P)) (hf : wX9_scanWord_B10 n sh k10 P a0 x1 z) : V E (gR 0 0) gyX9_scanWord 0 0 10 [(0, .ref a0), (1, .int x1)] [] n sh z (kN n sh P) := by
  unfold wX9_scanWord_B10 at hf
  refine V_iload_n (j := 1) dX9_scanWord_10 rfl rfl ?_
  refine V_aload_n (j := 0) dX9_scanWord_11 rfl rfl ?_
  obtain ⟨h4, hf⟩ := hf
  refine V_getI fl_X9_15 rfl h4.1 h4.2 dX9_scanWord_12 ?_
  refine V_icmp_ge (tgt := 71) dX9_scanWord_15 (by decide) (fun h23 => ?_) (fun h23 => ?_)
  · have hf := it_t h23 hf
    exact vX9_scanWord_J71 hn hf
  · have hf := it_f h23 hf
    refine V_aload_n (j := 0) dX9_scanWord_18 rfl rfl ?_
    obtain ⟨t10, et10, hf⟩ := hf
    refine V_getR fl_X9_11 rfl h4.1 h4.2 et10 dX9_scanWord_19 ?_
    refine V_iload_n (j := 1) dX9_scanWord_22 rfl rfl ?_
    obtain ⟨h11, hf⟩ := hf
    obtain ⟨h12, hf⟩ := hf
    refine V_cald h11.1 h11.s h12 dX9_scanWord_23 ?_
    refine V_bipush (v := (97 : Int32)) dX9_scanWord_24 (by decide) ?_
    refine V_icmp_lt (tgt := 71) dX9_scanWord_26 (by decide) (fun h22 => ?_) (fun h22 => ?_)
    · have hf := it_t h22 hf
      exact vX9_scanWord_J71 hn hf
    · have hf := it_f h22 hf
      refine V_aload_n (j := 0) dX9_scanWord_29 rfl rfl ?_
      obtain ⟨t13, et13, hf⟩ := hf
      refine V_getR fl_X9_11 rfl h4.1 h4.2 et13 dX9_scanWord_30 ?_
      refine V_iload_n (j := 1) dX9_scanWord_33 rfl rfl ?_
      obtain ⟨h14, hf⟩ := hf
      obtain ⟨h15, hf⟩ := hf
      refine V_cald h14.1 h14.s h15 dX9_scanWord_34 ?_
      refine V_bipush (v := (122 : Int32)) dX9_scanWord_35 (by decide) ?_
      refine V_icmp_gt (tgt := 71) dX9_scanWord_37 (by decide) (fun h21 => ?_) (fun h21 => ?_)
      · have hf := it_t h21 hf
        exact vX9_scanWord_J71 hn hf
      · have hf := it_f h21 hf
        refine V_aload_n (j := 0) dX9_scanWord_40 rfl rfl ?_
        refine V_aload_n (j := 0) dX9_scanWord_41 rfl rfl ?_
        refine V_getL fl_X9_31 rfl h4.1 h4.2 dX9_scanWord_42 ?_
        refine V_ldc2 dX9_scanWord_45 rfl kj_X9_64 ?_
        refine V_lmul dX9_scanWord_48 ?_
        refine V_aload_n (j := 0) dX9_scanWord_49 rfl rfl ?_
        obtain ⟨t16, et16, hf⟩ := hf
        refine V_getR fl_X9_11 rfl h4.1 h4.2 et16 dX9_scanWord_50 ?_
        refine V_iload_n (j := 1) dX9_scanWord_53 rfl rfl ?_
        obtain ⟨h17, hf⟩ := hf
        obtain ⟨h18, hf⟩ := hf
        refine V_cald h17.1 h17.s h18 dX9_scanWord_54 ?_
        refine V_bipush (v := (97 : Int32)) dX9_scanWord_55 (by decide) ?_
        refine V_isub dX9_scanWord_57 ?_
        refine V_iconst (v := (1 : Int32)) dX9_scanWord_58 (by decide) ?_
        refine V_iadd dX9_scanWord_59 ?_
        refine V_i2l dX9_scanWord_60 ?_
        refine V_ladd dX9_scanWord_61 ?_
        refine V_putL fl_X9_31 rfl rfl rfl rfl h4.1 h4.2 dX9_scanWord_62 ?_
        refine V_nz (fun z19 ez19 => ?_)
        have hf := hf z19 ez19
        obtain ⟨v20, ev20⟩ : ∃ y : Int32, y = x1 + (1 : Int32) := ⟨_, rfl⟩
        refine V_iinc (j := 1) (v := v20) (ls2 := [(1, .int v20), (0, .ref a0)]) dX9_scanWord_65 rfl (by rw [ev20]; rfl) (by decide) rfl ?_
        have hf := hf v20 ev20
        refine V_goto (tgt := 10) dX9_scanWord_68 (by decide) ?_
        refine V_to [1, 0] rfl ?_
        exact hk10 _ _ _ hf
set_option maxRecDepth 100000 in
set_option maxHeartbeats 4000000 in
theorem vX9_scanWord_L10 {E : gE} {n : Nat} {sh : Nat → Nat × Nat} {P : gS → Prop} (hn : gOK E n) : ∀ (N : Nat) (a0 : Nat) (x1 : Int32) (z : gS), wX9_scanWord_L10 n sh P N a0 x1 z → V E (gR 0 0) gyX9_scanWord 0 0 10 [(0, .ref a0), (1, .int x1)] [] n sh z (kN n sh P) := by
  intro N
  induction N with
  | zero => intro a0 x1 z hf; exact False.elim hf
  | succ N ih => intro a0 x1 z hf; exact vX9_scanWord_B10 hn ih hf
def wX9_scanWord (n : Nat) (sh : Nat → Nat × Nat) (a0 : Nat) (z : gS) (P : gS → Prop) : Prop := (oO n sh a0 5) ∧ (∀ v2 : Int32, v2 = (gi z a0 3) → (∀ z3 : gS, z3 = sl z a0 6 (0 : Int64) → ((∃ N, wX9_scanWord_L10 n sh P N a0 v2 z3))))
set_option maxRecDepth 100000 in
set_option maxHeartbeats 4000000 in
theorem ctX9_scanWord {E : gE} {n : Nat} {sh : Nat → Nat × Nat} {a0 : Nat} {z : gS} {P : gS → Prop} (hn : gOK E n) (hf : wX9_scanWord n sh a0 z P) : VM E 0 0 gyX9_scanWord [.ref a0] n sh z (kN n sh P) := by
  unfold wX9_scanWord at hf
  refine VM.of (by decide +kernel) (Nat.le_of_ble_eq_true rfl) (fun _ _ _ h => h.2.2) ?_
  show V E (gR 0 0) gyX9_scanWord 0 0 0 [(0, .ref a0)] [] n sh z (kN n sh P)
  refine V_aload_n (j := 0) dX9_scanWord_0 rfl rfl ?_
  obtain ⟨h1, hf⟩ := hf
  refine V_getI fl_X9_22 rfl h1.1 h1.2 dX9_scanWord_1 ?_
  refine V_nI (fun v2 ev2 => ?_)
  have hf := hf v2 ev2
  refine V_istore_n (ls2 := [(1, .int v2), (0, .ref a0)]) dX9_scanWord_4 rfl (by decide) rfl ?_
  refine V_aload_n (j := 1) dX9_scanWord_5 rfl rfl ?_
  refine V_lconst (v := (0 : Int64)) dX9_scanWord_6 (by decide) ?_
  refine V_putL fl_X9_31 rfl rfl rfl rfl h1.1 h1.2 dX9_scanWord_7 ?_
  refine V_nz (fun z3 ez3 => ?_)
  have hf := hf z3 ez3
  obtain ⟨N, hf⟩ := hf
  refine V_to [1, 0] rfl ?_
  exact vX9_scanWord_L10 hn N _ _ _ hf
def wJ0_coder_7d493 (n : Nat) (sh : Nat → Nat × Nat) (a0 : Nat) (z : gS) (P : Int32 → gS → Prop) : Prop := if (1 : Int32) = 0 then P (1 : Int32) z else ((fS a0) ∧ P (0 : Int32) z)
set_option maxRecDepth 100000 in
set_option maxHeartbeats 4000000 in
theorem ctJ0_coder_7d493 {E : gE} {n : Nat} {sh : Nat → Nat × Nat} {a0 : Nat} {z : gS} {P : Int32 → gS → Prop} (hn : gOK E n) (hf : wJ0_coder_7d493 n sh a0 z P) : VM E 0 0 gyJ0_coder_7d493 [.ref a0] n sh z (kI n sh P) := by
  unfold wJ0_coder_7d493 at hf
  refine VM.of (by decide +kernel) (Nat.le_of_ble_eq_true rfl) (fun _ _ _ h => h.2.2) ?_
  show V E (gR 0 0) gyJ0_coder_7d493 0 0 0 [(0, .ref a0)] [] n sh z (kI n sh P)
  refine V_gsC hn sf_J0_38 dJ0_coder_7d493_0 ?_
  refine V_if_eq (tgt := 13) dJ0_coder_7d493_3 (by decide) (fun h2 => ?_) (fun h2 => ?_)
  · have hf := it_t h2 hf
    refine V_iconst (v := (1 : Int32)) dJ0_coder_7d493_13 (by decide) ?_
    exact V_ireturn dJ0_coder_7d493_14 rfl (by decide) (Nat.le_refl 0) (kI_of hf)
  · have hf := it_f h2 hf
    refine V_aload_n (j := 0) dJ0_coder_7d493_6 rfl rfl ?_
    obtain ⟨h1, hf⟩ := hf
    refine V_fcod hn h1 sf_J0_15 dJ0_coder_7d493_7 ?_
    refine V_goto (tgt := 14) dJ0_coder_7d493_10 (by decide) ?_
    exact V_ireturn dJ0_coder_7d493_14 rfl (by decide) (Nat.le_refl 0) (kI_of hf)
def wJ0_length_8abf5 (n : Nat) (sh : Nat → Nat × Nat) (a0 : Nat) (z : gS) (P : Int32 → gS → Prop) : Prop := (fS a0) ∧ ((fB (a0 + 10)) ∧ (wJ0_coder_7d493 n sh a0 z (fun (r3 : Int32) (z4 : gS) => P ((Int32.ofNat (gBl (a0 + 10))) >>> (r3 &&& 31)) z4)))
set_option maxRecDepth 100000 in
set_option maxHeartbeats 4000000 in
theorem ctJ0_length_8abf5 {E : gE} {n : Nat} {sh : Nat → Nat × Nat} {a0 : Nat} {z : gS} {P : Int32 → gS → Prop} (hn : gOK E n) (hf : wJ0_length_8abf5 n sh a0 z P) : VM E 1 0 gyJ0_length_8abf5 [.ref a0] n sh z (kI n sh P) := by
  unfold wJ0_length_8abf5 at hf
  refine VM.of (by decide +kernel) (Nat.le_of_ble_eq_true rfl) (fun _ _ _ h => h.2.2) ?_
  show V E (gR 1 0) gyJ0_length_8abf5 0 0 0 [(0, .ref a0)] [] n sh z (kI n sh P)
  refine V_aload_n (j := 0) dJ0_length_8abf5_0 rfl rfl ?_
  obtain ⟨h1, hf⟩ := hf
  refine V_fval hn h1 sf_J0_9 dJ0_length_8abf5_1 ?_
  obtain ⟨h2, hf⟩ := hf
  refine V_balen hn h2 dJ0_length_8abf5_4 ?_
  refine V_aload_n (j := 0) dJ0_length_8abf5_5 rfl rfl ?_
  refine V_cVIF (ctJ0_coder_7d493 hn hf) gc_J0_335 rfl (gRv.far hn h1) ⟨by decide, by decide, Nat.zero_le _, Nat.zero_le _⟩ (Nat.le_of_ble_eq_true rfl) dJ0_length_8abf5_6 rfl hn (fun r3 z4 hf => ?_)
  refine V_ishr dJ0_length_8abf5_9 ?_
  exact V_ireturn dJ0_length_8abf5_10 rfl rfl (Nat.le_refl 0) (kI_of hf)
def wJ0_isLatin1_aae02 (n : Nat) (sh : Nat → Nat × Nat) (a0 : Nat) (z : gS) (P : Int32 → gS → Prop) : Prop := if (1 : Int32) = 0 then P (0 : Int32) z else ((fS a0) ∧ (if (0 : Int32) = 0 then P (1 : Int32) z else P (0 : Int32) z))
set_option maxRecDepth 100000 in
set_option maxHeartbeats 4000000 in
theorem ctJ0_isLatin1_aae02 {E : gE} {n : Nat} {sh : Nat → Nat × Nat} {a0 : Nat} {z : gS} {P : Int32 → gS → Prop} (hn : gOK E n) (hf : wJ0_isLatin1_aae02 n sh a0 z P) : VM E 0 0 gyJ0_isLatin1_aae02 [.ref a0] n sh z (kI n sh P) := by
  unfold wJ0_isLatin1_aae02 at hf
  refine VM.of (by decide +kernel) (Nat.le_of_ble_eq_true rfl) (fun _ _ _ h => h.2.2) ?_
  show V E (gR 0 0) gyJ0_isLatin1_aae02 0 0 0 [(0, .ref a0)] [] n sh z (kI n sh P)
  refine V_gsC hn sf_J0_38 dJ0_isLatin1_aae02_0 ?_
  refine V_if_eq (tgt := 17) dJ0_isLatin1_aae02_3 (by decide) (fun h3 => ?_) (fun h3 => ?_)
  · have hf := it_t h3 hf
    refine V_iconst (v := (0 : Int32)) dJ0_isLatin1_aae02_17 (by decide) ?_
    exact V_ireturn dJ0_isLatin1_aae02_18 rfl (by decide) (Nat.le_refl 0) (kI_of hf)
  · have hf := it_f h3 hf
    refine V_aload_n (j := 0) dJ0_isLatin1_aae02_6 rfl rfl ?_
    obtain ⟨h1, hf⟩ := hf
    refine V_fcod hn h1 sf_J0_15 dJ0_isLatin1_aae02_7 ?_
    refine V_if_ne (tgt := 17) dJ0_isLatin1_aae02_10 (by decide) (fun h2 => ?_) (fun h2 => ?_)
    · have hf := it_f h2 hf
      refine V_iconst (v := (0 : Int32)) dJ0_isLatin1_aae02_17 (by decide) ?_
      exact V_ireturn dJ0_isLatin1_aae02_18 rfl (by decide) (Nat.le_refl 0) (kI_of hf)
    · have hf := it_t (Classical.not_not.mp h2) hf
      refine V_iconst (v := (1 : Int32)) dJ0_isLatin1_aae02_13 (by decide) ?_
      refine V_goto (tgt := 18) dJ0_isLatin1_aae02_14 (by decide) ?_
      exact V_ireturn dJ0_isLatin1_aae02_18 rfl (by decide) (Nat.le_refl 0) (kI_of hf)
def wJ1_charAt_3b067 (n : Nat) (sh : Nat → Nat × Nat) (a0 : Nat) (x1 : Int32) (z : gS) (P : Int32 → gS → Prop) : Prop := (fB a0) ∧ (wJ0_checkIndex_df160 n sh x1 (Int32.ofNat (gBl a0)) z (fun (z3 : gS) => (vp_in x1 (gBl a0)) ∧ ((narrow .char (.int ((((gBv a0 x1.toNatClampNeg) &&& (255 : Int32)).toUInt32 % 65536).toInt32)) = .int ((((gBv a0 x1.toNatClampNeg) &&& (255 : Int32)).toUInt32 % 65536).toInt32)) ∧ P ((((gBv a0 x1.toNatClampNeg) &&& (255 : Int32)).toUInt32 % 65536).toInt32) z3)))
set_option maxRecDepth 100000 in
set_option maxHeartbeats 4000000 in
theorem ctJ1_charAt_3b067 {E : gE} {n : Nat} {sh : Nat → Nat × Nat} {a0 : Nat} {x1 : Int32} {z : gS} {P : Int32 → gS → Prop} (hn : gOK E n) (hf : wJ1_charAt_3b067 n sh a0 x1 z P) : VM E 2 0 gyJ1_charAt_3b067 [.ref a0, .int x1] n sh z (kI n sh P) := by
  unfold wJ1_charAt_3b067 at hf
  refine VM.of (by decide +kernel) (Nat.le_of_ble_eq_true rfl) (fun _ _ _ h => h.2.2) ?_
  show V E (gR 2 0) gyJ1_charAt_3b067 0 0 0 [(0, .ref a0), (1, .int x1)] [] n sh z (kI n sh P)
  refine V_iload_n (j := 1) dJ1_charAt_3b067_0 rfl rfl ?_
  refine V_aload_n (j := 0) dJ1_charAt_3b067_1 rfl rfl ?_
  obtain ⟨h1, hf⟩ := hf
  refine V_balen hn h1 dJ1_charAt_3b067_2 ?_
  refine V_cSN (ctJ0_checkIndex_df160 hn hf) gc_J1_9 rfl ⟨by decide, by decide, Nat.zero_le _, Nat.zero_le _⟩ (Nat.le_of_ble_eq_true rfl) dJ1_charAt_3b067_3 rfl hn (fun z3 hf => ?_)
  refine V_aload_n (j := 0) dJ1_charAt_3b067_6 rfl rfl ?_
  refine V_iload_n (j := 1) dJ1_charAt_3b067_7 rfl rfl ?_
  obtain ⟨h4, hf⟩ := hf
  refine V_bald hn h1 h4 dJ1_charAt_3b067_8 ?_
  refine V_sipush (v := (255 : Int32)) dJ1_charAt_3b067_9 (by decide) ?_
  refine V_iand dJ1_charAt_3b067_12 ?_
  refine V_i2c dJ1_charAt_3b067_13 ?_
  exact V_ireturn dJ1_charAt_3b067_14 rfl hf.1 (Nat.le_refl 0) (kI_of hf.2)
def wJ0_charAt_5068e (n : Nat) (sh : Nat → Nat × Nat) (a0 : Nat) (x1 : Int32) (z : gS) (P : Int32 → gS → Prop) : Prop := (fS a0) ∧ (wJ0_isLatin1_aae02 n sh a0 z (fun (r1 : Int32) (z2 : gS) => if r1 = 0 then (False) else (wJ1_charAt_3b067 n sh (a0 + 10) x1 z2 (fun (r4 : Int32) (z5 : gS) => (narrow .char (.int r4) = .int r4) ∧ P r4 z5))))
set_option maxRecDepth 100000 in
set_option maxHeartbeats 4000000 in
theorem ctJ0_charAt_5068e {E : gE} {n : Nat} {sh : Nat → Nat × Nat} {a0 : Nat} {x1 : Int32} {z : gS} {P : Int32 → gS → Prop} (hn : gOK E n) (hf : wJ0_charAt_5068e n sh a0 x1 z P) : VM E 3 0 gyJ0_charAt_5068e [.ref a0, .int x1] n sh z (kI n sh P) := by
  unfold wJ0_charAt_5068e at hf
  refine VM.of (by decide +kernel) (Nat.le_of_ble_eq_true rfl) (fun _ _ _ h => h.2.2) ?_
  show V E (gR 3 0) gyJ0_charAt_5068e 0 0 0 [(0, .ref a0), (1, .int x1)] [] n sh z (kI n sh P)
  refine V_aload_n (j := 0) dJ0_charAt_5068e_0 rfl rfl ?_
  obtain ⟨h3, hf⟩ := hf
  refine V_cVIF (ctJ0_isLatin1_aae02 hn hf) gc_J0_492 rfl (gRv.far hn h3) ⟨by decide, by decide, Nat.zero_le _, Nat.zero_le _⟩ (Nat.le_of_ble_eq_true rfl) dJ0_charAt_5068e_1 rfl hn (fun r1 z2 hf => ?_)
  refine V_if_eq (tgt := 16) dJ0_charAt_5068e_4 (by decide) (fun h6 => ?_) (fun h6 => ?_)
  · have hf := it_t h6 hf
    refine V_aload_n (j := 0) dJ0_charAt_5068e_16 rfl rfl ?_
    refine V_fval hn h3 sf_J0_9 dJ0_charAt_5068e_17 ?_
    refine V_iload_n (j := 1) dJ0_charAt_5068e_20 rfl rfl ?_
    exact False.elim hf
  · have hf := it_f h6 hf
    refine V_aload_n (j := 0) dJ0_charAt_5068e_7 rfl rfl ?_
    refine V_fval hn h3 sf_J0_9 dJ0_charAt_5068e_8 ?_
    refine V_iload_n (j := 1) dJ0_charAt_5068e_11 rfl rfl ?_
    refine V_cSI (ctJ1_charAt_3b067 hn hf) gc_J0_495 rfl ⟨by decide, by decide, Nat.zero_le _, Nat.zero_le _⟩ (Nat.le_of_ble_eq_true rfl) dJ0_charAt_5068e_12 rfl hn (fun r4 z5 hf => ?_)
    exact V_ireturn dJ0_charAt_5068e_15 rfl hf.1 (Nat.le_refl 0) (kI_of hf.2)
def wX9_placeIn_J75 (n : Nat) (sh : Nat → Nat × Nat) (k17 : Nat → Nat → Int32 → Int64 → Int32 → gS → Prop) (P : Int32 → gS → Prop) (a0 : Nat) (a1 : Nat) (x2 : Int32) (y3 : Int64) (x5 : Int32) (z : gS) : Prop := ∀ v9 : Int32, v9 = x5 + (1 : Int32) → k17 a0 a1 x2 y3 v9 z
set_option maxRecDepth 100000 in
set_option maxHeartbeats 4000000 in
theorem vX9_placeIn_J75 {E : gE} {n : Nat} {sh : Nat → Nat × Nat} {P : Int32 → gS → Prop} {k17 : Nat → Nat → Int32 → Int64 → Int32 → gS → Prop} {a0 : Nat} {a1 : Nat} {x2 : Int32} {y3 : Int64} {x5 : Int32} {z : gS} (hn : gOK E n) (hk17 : ∀ (a0 : Nat) (a1 : Nat) (x2 : Int32) (y3 : Int64) (x5 : Int32) (z : gS), k17 a0 a1 x2 y3 x5 z → V E (gR 4 0) gyX9_placeIn 0 0 17 [(0, .ref a0), (1, .ref a1), (2, .int x2), (3, .long y3), (5, .int x5)] [] n sh z (kI n sh P)) (hf : wX9_placeIn_J75 n sh k17 P a0 a1 x2 y3 x5 z) : V E (gR 4 0) gyX9_placeIn 0 0 75 [(0, .ref a0), (1, .ref a1), (2, .int x2), (3, .long y3), (5, .int x5)] [] n sh z (kI n sh P) := by
  unfold wX9_placeIn_J75 at hf
  obtain ⟨v9, ev9⟩ : ∃ y : Int32, y = x5 + (1 : Int32) := ⟨_, rfl⟩
  refine V_iinc (j := 4) (v := v9) (ls2 := [(5, .int v9), (0, .ref a0), (1, .ref a1), (2, .int x2), (3, .long y3)]) dX9_placeIn_75 rfl (by rw [ev9]; rfl) (by decide) rfl ?_
  have hf := hf v9 ev9
  refine V_goto (tgt := 17) dX9_placeIn_78 (by decide) ?_
  refine V_to [1, 2, 3, 4, 0] rfl ?_
  exact hk17 _ _ _ _ _ _ hf
def wX9_placeIn_B17 (n : Nat) (sh : Nat → Nat × Nat) (k17 : Nat → Nat → Int32 → Int64 → Int32 → gS → Prop) (P : Int32 → gS → Prop) (a0 : Nat) (a1 : Nat) (x2 : Int32) (y3 : Int64) (x5 : Int32) (z : gS) : Prop := (fS a1) ∧ (wJ0_length_8abf5 n sh a1 z (fun (r2 : Int32) (z3 : gS) => if r2 ≤ x5 then P (-1 : Int32) z3 else (wJ0_charAt_5068e n sh a1 x5 z3 (fun (r5 : Int32) (z6 : gS) => if r5 = (32 : Int32) then ((oO n sh a0 5) ∧ (if (lg_cmp y3 (gl z6 a0 6)) = 0 then P x2 z6 else (∀ v8 : Int32, v8 = x2 + (1 : Int32) → wX9_placeIn_J75 n sh k17 P a0 a1 v8 (0 : Int64) x5 z6))) else (∀ v11 : Int64, v11 = ((y3 * (27 : Int64)) + ((r5 - (97 : Int32)) + (1 : Int32)).toInt64) → wX9_placeIn_J75 n sh k17 P a0 a1 x2 v11 x5 z6)))))
def wX9_placeIn_L17 (n : Nat) (sh : Nat → Nat × Nat) (P : Int32 → gS → Prop) : Nat → Nat → Nat → Int32 → Int64 → Int32 → gS → Prop
  | 0, _, _, _, _, _, _ => False
  | N + 1, a0, a1, x2, y3, x5, z => wX9_placeIn_B17 n sh (wX9_placeIn_L17 n sh P N) P a0 a1 x2 y3 x5 z
set_option maxRecDepth 100000 in
set_option maxHeartbeats 4000000 in
theorem vX9_placeIn_B17 {E : gE} {n : Nat} {sh : Nat → Nat × Nat} {P : Int32 → gS → Prop} {k17 : Nat → Nat → Int32 → Int64 → Int32 → gS → Prop} {a0 : Nat} {a1 : Nat} {x2 : Int32} {y3 : Int64} {x5 : Int32} {z : gS} (hn : gOK E n) (hk17 : ∀ (a0 : Nat) (a1 : Nat) (x2 : Int32) (y3 : Int64) (x5 : Int32) (z : gS), k17 a0 a1 x2 y3 x5 z → V E (gR 4 0) gyX9_placeIn 0 0 17 [(0, .ref a0), (1, .ref a1), (2, .int x2), (3, .long y3), (5, .int x5)] [] n sh z (kI n sh P)) (hf : wX9_placeIn_B17 n sh k17 P a0 a1 x2 y3 x5 z) : V E (gR 4 0) gyX9_placeIn 0 0 17 [(0, .ref a0), (1, .ref a1), (2, .int x2), (3, .long y3), (5, .int x5)] [] n sh z (kI n sh P) := by
  unfold wX9_placeIn_B17 at hf
  refine V_iload (j := 4) dX9_placeIn_17 rfl ?_
  refine V_aload_n (j := 1) dX9_placeIn_19 rfl rfl ?_
  obtain ⟨h4, hf⟩ := hf
  refine V_cVIF (ctJ0_length_8abf5 hn hf) gc_X9_66 rfl (gRv.far hn h4) ⟨by decide, by decide, Nat.zero_le _, Nat.zero_le _⟩ (Nat.le_of_ble_eq_true rfl) dX9_placeIn_20 rfl hn (fun r2 z3 hf => ?_)
  refine V_icmp_ge (tgt := 81) dX9_placeIn_23 (by decide) (fun h13 => ?_) (fun h13 => ?_)
  · have hf := it_t h13 hf
    refine V_iconst (v := (-1 : Int32)) dX9_placeIn_81 (by decide) ?_
    exact V_ireturn dX9_placeIn_82 rfl rfl (Nat.le_refl 0) (kI_of hf)
  · have hf := it_f h13 hf
    refine V_aload_n (j := 1) dX9_placeIn_26 rfl rfl ?_
    refine V_iload (j := 4) dX9_placeIn_27 rfl ?_
    refine V_cVIF (ctJ0_charAt_5068e hn hf) gc_X9_69 rfl (gRv.far hn h4) ⟨by decide, by decide, Nat.zero_le _, Nat.zero_le _⟩ (Nat.le_of_ble_eq_true rfl) dX9_placeIn_29 rfl hn (fun r5 z6 hf => ?_)
    refine V_istore (ls2 := [(6, .int r5), (0, .ref a0), (1, .ref a1), (2, .int x2), (3, .long y3), (5, .int x5)]) dX9_placeIn_32 (by decide) rfl ?_
    refine V_iload (j := 0) dX9_placeIn_34 rfl ?_
    refine V_bipush (v := (32 : Int32)) dX9_placeIn_36 (by decide) ?_
    refine V_icmp_eq (tgt := 59) dX9_placeIn_38 (by decide) (fun h12 => ?_) (fun h12 => ?_)
    · have hf := it_t h12 hf
      refine V_lload_n (j := 4) dX9_placeIn_59 rfl rfl ?_
      refine V_aload_n (j := 1) dX9_placeIn_60 rfl rfl ?_
      obtain ⟨h7, hf⟩ := hf
      refine V_getL fl_X9_31 rfl h7.1 h7.2 dX9_placeIn_61 ?_
      refine V_lcmp dX9_placeIn_64 ?_
      refine V_if_ne (tgt := 70) dX9_placeIn_65 (by decide) (fun h10 => ?_) (fun h10 => ?_)
      · have hf := it_f h10 hf
        obtain ⟨v8, ev8⟩ : ∃ y : Int32, y = x2 + (1 : Int32) := ⟨_, rfl⟩
        refine V_iinc (j := 3) (v := v8) (ls2 := [(2, .int v8), (6, .int r5), (0, .ref a0), (1, .ref a1), (3, .long y3), (5, .int x5)]) dX9_placeIn_70 rfl (by rw [ev8]; rfl) (by decide) rfl ?_
        have hf := hf v8 ev8
        refine V_lconst (v := (0 : Int64)) dX9_placeIn_73 (by decide) ?_
        refine V_lstore_n (ls2 := [(3, .long (0 : Int64)), (2, .int v8), (6, .int r5), (0, .ref a0), (1, .ref a1), (5, .int x5)]) dX9_placeIn_74 rfl (by decide) rfl ?_
        refine V_to [3, 4, 1, 0, 5] rfl ?_
        exact vX9_placeIn_J75 hn hk17 hf
      · have hf := it_t (Classical.not_not.mp h10) hf
        refine V_iload_n (j := 3) dX9_placeIn_68 rfl rfl ?_
        exact V_ireturn dX9_placeIn_69 rfl rfl (Nat.le_refl 0) (kI_of hf)
    · have hf := it_f h12 hf
      refine V_lload_n (j := 4) dX9_placeIn_41 rfl rfl ?_
      refine V_ldc2 dX9_placeIn_42 rfl kj_X9_64 ?_
      refine V_lmul dX9_placeIn_45 ?_
      refine V_iload (j := 0) dX9_placeIn_46 rfl ?_
      refine V_bipush (v := (97 : Int32)) dX9_placeIn_48 (by decide) ?_
      refine V_isub dX9_placeIn_50 ?_
      refine V_iconst (v := (1 : Int32)) dX9_placeIn_51 (by decide) ?_
      refine V_iadd dX9_placeIn_52 ?_
      refine V_i2l dX9_placeIn_53 ?_
      refine V_ladd dX9_placeIn_54 ?_
      refine V_nL (fun v11 ev11 => ?_)
      have hf := hf v11 ev11
      refine V_lstore_n (ls2 := [(3, .long v11), (6, .int r5), (0, .ref a0), (1, .ref a1), (2, .int x2), (5, .int x5)]) dX9_placeIn_55 rfl (by decide) rfl ?_
      refine V_goto (tgt := 75) dX9_placeIn_56 (by decide) ?_
      refine V_to [2, 3, 4, 0, 5] rfl ?_
      exact vX9_placeIn_J75 hn hk17 hf
set_option maxRecDepth 100000 in
set_option maxHeartbeats 4000000 in
theorem vX9_placeIn_L17 {E : gE} {n : Nat} {sh : Nat → Nat × Nat} {P : Int32 → gS → Prop} (hn : gOK E n) : ∀ (N : Nat) (a0 : Nat) (a1 : Nat) (x2 : Int32) (y3 : Int64) (x5 : Int32) (z : gS), wX9_placeIn_L17 n sh P N a0 a1 x2 y3 x5 z → V E (gR 4 0) gyX9_placeIn 0 0 17 [(0, .ref a0), (1, .ref a1), (2, .int x2), (3, .long y3), (5, .int x5)] [] n sh z (kI n sh P) := by
  intro N
  induction N with
  | zero => intro a0 a1 x2 y3 x5 z hf; exact False.elim hf
  | succ N ih => intro a0 a1 x2 y3 x5 z hf; exact vX9_placeIn_B17 hn ih hf
def wX9_placeIn (n : Nat) (sh : Nat → Nat × Nat) (a0 : Nat) (a1 : Nat) (z : gS) (P : Int32 → gS → Prop) : Prop := (oO n sh a0 5) ∧ (if (gi z a0 2) = (2 : Int32) then ((∃ N, wX9_placeIn_L17 n sh P N a0 a1 (0 : Int32) (0 : Int64) (0 : Int32) z)) else P (-1 : Int32) z)
set_option maxRecDepth 100000 in
set_option maxHeartbeats 4000000 in
theorem ctX9_placeIn {E : gE} {n : Nat} {sh : Nat → Nat × Nat} {a0 : Nat} {a1 : Nat} {z : gS} {P : Int32 → gS → Prop} (hn : gOK E n) (hf : wX9_placeIn n sh a0 a1 z P) : VM E 4 0 gyX9_placeIn [.ref a0, .ref a1] n sh z (kI n sh P) := by
  unfold wX9_placeIn at hf
  refine VM.of (by decide +kernel) (Nat.le_of_ble_eq_true rfl) (fun _ _ _ h => h.2.2) ?_
  show V E (gR 4 0) gyX9_placeIn 0 0 0 [(0, .ref a0), (1, .ref a1)] [] n sh z (kI n sh P)
  refine V_aload_n (j := 0) dX9_placeIn_0 rfl rfl ?_
  obtain ⟨h1, hf⟩ := hf
  refine V_getI fl_X9_19 rfl h1.1 h1.2 dX9_placeIn_1 ?_
  refine V_iconst (v := (2 : Int32)) dX9_placeIn_4 (by decide) ?_
  refine V_icmp_eq (tgt := 10) dX9_placeIn_5 (by decide) (fun h14 => ?_) (fun h14 => ?_)
  · have hf := it_t h14 hf
    refine V_iconst (v := (0 : Int32)) dX9_placeIn_10 (by decide) ?_
    refine V_istore_n (ls2 := [(2, .int (0 : Int32)), (0, .ref a0), (1, .ref a1)]) dX9_placeIn_11 rfl (by decide) rfl ?_
    refine V_lconst (v := (0 : Int64)) dX9_placeIn_12 (by decide) ?_
    refine V_lstore_n (ls2 := [(3, .long (0 : Int64)), (2, .int (0 : Int32)), (0, .ref a0), (1, .ref a1)]) dX9_placeIn_13 rfl (by decide) rfl ?_
    refine V_iconst (v := (0 : Int32)) dX9_placeIn_14 (by decide) ?_
    refine V_istore (ls2 := [(5, .int (0 : Int32)), (3, .long (0 : Int64)), (2, .int (0 : Int32)), (0, .ref a0), (1, .ref a1)]) dX9_placeIn_15 (by decide) rfl ?_
    obtain ⟨N, hf⟩ := hf
    refine V_to [3, 4, 2, 1, 0] rfl ?_
    exact vX9_placeIn_L17 hn N _ _ _ _ _ _ hf
  · have hf := it_f h14 hf
    refine V_iconst (v := (-1 : Int32)) dX9_placeIn_8 (by decide) ?_
    exact V_ireturn dX9_placeIn_9 rfl rfl (Nat.le_refl 0) (kI_of hf)
def wX9_scanNumber_J88 (n : Nat) (sh : Nat → Nat × Nat) (P : gS → Prop) (s0 : Int32) (s1 : Nat) (z : gS) : Prop := (oO n sh s1 5) ∧ (∀ z8 : gS, z8 = si z s1 2 s0 → P z8)
set_option maxRecDepth 100000 in
set_option maxHeartbeats 4000000 in
theorem vX9_scanNumber_J88 {E : gE} {n : Nat} {sh : Nat → Nat × Nat} {P : gS → Prop} {s0 : Int32} {s1 : Nat} {z : gS} (hn : gOK E n) (hf : wX9_scanNumber_J88 n sh P s0 s1 z) : V E (gR 0 0) gyX9_scanNumber 0 0 88 [] [.int s0, .ref s1] n sh z (kN n sh P) := by
  unfold wX9_scanNumber_J88 at hf
  obtain ⟨h7, hf⟩ := hf
  refine V_putI fl_X9_19 rfl rfl rfl rfl h7.1 h7.2 dX9_scanNumber_88 ?_
  refine V_nz (fun z8 ez8 => ?_)
  have hf := hf z8 ez8
  exact V_return dX9_scanNumber_91 rfl (Nat.le_refl 0) (kN_of hf)
def wX9_scanNumber_J67 (n : Nat) (sh : Nat → Nat × Nat) (P : gS → Prop) (a0 : Nat) (x1 : Int32) (z : gS) : Prop := (oO n sh a0 5) ∧ (∀ z6 : gS, z6 = si z a0 4 x1 → (if (x1 - (gi z6 a0 3)) ≤ (4 : Int32) then wX9_scanNumber_J88 n sh P (3 : Int32) a0 z6 else wX9_scanNumber_J88 n sh P (1 : Int32) a0 z6))
set_option maxRecDepth 100000 in
set_option maxHeartbeats 4000000 in
theorem vX9_scanNumber_J67 {E : gE} {n : Nat} {sh : Nat → Nat × Nat} {P : gS → Prop} {a0 : Nat} {x1 : Int32} {z : gS} (hn : gOK E n) (hf : wX9_scanNumber_J67 n sh P a0 x1 z) : V E (gR 0 0) gyX9_scanNumber 0 0 67 [(0, .ref a0), (1, .int x1)] [] n sh z (kN n sh P) := by
  unfold wX9_scanNumber_J67 at hf
  refine V_aload_n (j := 0) dX9_scanNumber_67 rfl rfl ?_
  refine V_iload_n (j := 1) dX9_scanNumber_68 rfl rfl ?_
  obtain ⟨h5, hf⟩ := hf
  refine V_putI fl_X9_25 rfl rfl rfl rfl h5.1 h5.2 dX9_scanNumber_69 ?_
  refine V_nz (fun z6 ez6 => ?_)
  have hf := hf z6 ez6
  refine V_aload_n (j := 0) dX9_scanNumber_72 rfl rfl ?_
  refine V_iload_n (j := 1) dX9_scanNumber_73 rfl rfl ?_
  refine V_aload_n (j := 0) dX9_scanNumber_74 rfl rfl ?_
  refine V_getI fl_X9_22 rfl h5.1 h5.2 dX9_scanNumber_75 ?_
  refine V_isub dX9_scanNumber_78 ?_
  refine V_iconst (v := (4 : Int32)) dX9_scanNumber_79 (by decide) ?_
  refine V_icmp_le (tgt := 87) dX9_scanNumber_80 (by decide) (fun h9 => ?_) (fun h9 => ?_)
  · have hf := it_t h9 hf
    refine V_iconst (v := (3 : Int32)) dX9_scanNumber_87 (by decide) ?_
    refine V_to [] rfl ?_
    exact vX9_scanNumber_J88 hn hf
  · have hf := it_f h9 hf
    refine V_iconst (v := (1 : Int32)) dX9_scanNumber_83 (by decide) ?_
    refine V_goto (tgt := 88) dX9_scanNumber_84 (by decide) ?_
    refine V_to [] rfl ?_
    exact vX9_scanNumber_J88 hn hf
def wX9_scanNumber_B10 (n : Nat) (sh : Nat → Nat × Nat) (k10 : Nat → Int32 → gS → Prop) (P : gS → Prop) (a0 : Nat) (x1 : Int32) (z : gS) : Prop := (oO n sh a0 5) ∧ (if (gi z a0 1) ≤ x1 then wX9_scanNumber_J67 n sh P a0 x1 z else (∃ t10 : Nat, gr z a0 0 = some t10 ∧ ((oA n sh t10 3) ∧ ((vp_in x1 (sh t10).2) ∧ (if (gi z t10 x1.toNatClampNeg) < (48 : Int32) then wX9_scanNumber_J67 n sh P a0 x1 z else (∃ t13 : Nat, gr z a0 0 = some t13 ∧ ((oA n sh t13 3) ∧ ((vp_in x1 (sh t13).2) ∧ (if (57 : Int32) < (gi z t13 x1.toNatClampNeg) then wX9_scanNumber_J67 n sh P a0 x1 z else (∃ t16 : Nat, gr z a0 0 = some t16 ∧ ((oA n sh t16 3) ∧ ((vp_in x1 (sh t16).2) ∧ (∀ z19 : gS, z19 = si z a0 5 (((gi z a0 5) * (10 : Int32)) + ((gi z t16 x1.toNatClampNeg) - (48 : Int32))) → (∀ v20 : Int32, v20 = x1 + (1 : Int32) → k10 a0 v20 z19))))))))))))))
def wX9_scanNumber_L10 (n : Nat) (sh : Nat → Nat × Nat) (P : gS → Prop) : Nat → Nat → Int32 → gS → Prop
  | 0, _, _, _ => False
  | N + 1, a0, x1, z => wX9_scanNumber_B10 n sh (wX9_scanNumber_L10 n sh P N) P a0 x1 z
set_option maxRecDepth 100000 in
set_option maxHeartbeats 4000000 in
theorem vX9_scanNumber_B10 {E : gE} {n : Nat} {sh : Nat → Nat × Nat} {P : gS → Prop} {k10 : Nat → Int32 → gS → Prop} {a0 : Nat} {x1 : Int32} {z : gS} (hn : gOK E n) (hk10 : ∀ (a0 : Nat) (x1 : Int32) (z : gS), k10 a0 x1 z → V E (gR 0 0) gyX9_scanNumber 0 0 10 [(0, .ref a0), (1, .int x1)] [] n sh z (kN n sh P)) (hf : wX9_scanNumber_B10 n sh k10 P a0 x1 z) : V E (gR 0 0) gyX9_scanNumber 0 0 10 [(0, .ref a0), (1, .int x1)] [] n sh z (kN n sh P) := by
  unfold wX9_scanNumber_B10 at hf
  refine V_iload_n (j := 1) dX9_scanNumber_10 rfl rfl ?_
  refine V_aload_n (j := 0) dX9_scanNumber_11 rfl rfl ?_
  obtain ⟨h4, hf⟩ := hf
  refine V_getI fl_X9_15 rfl h4.1 h4.2 dX9_scanNumber_12 ?_
  refine V_icmp_ge (tgt := 67) dX9_scanNumber_15 (by decide) (fun h23 => ?_) (fun h23 => ?_)
  · have hf := it_t h23 hf
    exact vX9_scanNumber_J67 hn hf
  · have hf := it_f h23 hf
    refine V_aload_n (j := 0) dX9_scanNumber_18 rfl rfl ?_
    obtain ⟨t10, et10, hf⟩ := hf
    refine V_getR fl_X9_11 rfl h4.1 h4.2 et10 dX9_scanNumber_19 ?_
    refine V_iload_n (j := 1) dX9_scanNumber_22 rfl rfl ?_
    obtain ⟨h11, hf⟩ := hf
    obtain ⟨h12, hf⟩ := hf
    refine V_cald h11.1 h11.s h12 dX9_scanNumber_23 ?_
    refine V_bipush (v := (48 : Int32)) dX9_scanNumber_24 (by decide) ?_
    refine V_icmp_lt (tgt := 67) dX9_scanNumber_26 (by decide) (fun h22 => ?_) (fun h22 => ?_)
    · have hf := it_t h22 hf
      exact vX9_scanNumber_J67 hn hf
    · have hf := it_f h22 hf
      refine V_aload_n (j := 0) dX9_scanNumber_29 rfl rfl ?_
      obtain ⟨t13, et13, hf⟩ := hf
      refine V_getR fl_X9_11 rfl h4.1 h4.2 et13 dX9_scanNumber_30 ?_
      refine V_iload_n (j := 1) dX9_scanNumber_33 rfl rfl ?_
      obtain ⟨h14, hf⟩ := hf
      obtain ⟨h15, hf⟩ := hf
      refine V_cald h14.1 h14.s h15 dX9_scanNumber_34 ?_
      refine V_bipush (v := (57 : Int32)) dX9_scanNumber_35 (by decide) ?_
      refine V_icmp_gt (tgt := 67) dX9_scanNumber_37 (by decide) (fun h21 => ?_) (fun h21 => ?_)
      · have hf := it_t h21 hf
        exact vX9_scanNumber_J67 hn hf
      · have hf := it_f h21 hf
        refine V_aload_n (j := 0) dX9_scanNumber_40 rfl rfl ?_
        refine V_aload_n (j := 0) dX9_scanNumber_41 rfl rfl ?_
        refine V_getI fl_X9_28 rfl h4.1 h4.2 dX9_scanNumber_42 ?_
        refine V_bipush (v := (10 : Int32)) dX9_scanNumber_45 (by decide) ?_
        refine V_imul dX9_scanNumber_47 ?_
        refine V_aload_n (j := 0) dX9_scanNumber_48 rfl rfl ?_
        obtain ⟨t16, et16, hf⟩ := hf
        refine V_getR fl_X9_11 rfl h4.1 h4.2 et16 dX9_scanNumber_49 ?_
        refine V_iload_n (j := 1) dX9_scanNumber_52 rfl rfl ?_
        obtain ⟨h17, hf⟩ := hf
        obtain ⟨h18, hf⟩ := hf
        refine V_cald h17.1 h17.s h18 dX9_scanNumber_53 ?_
        refine V_bipush (v := (48 : Int32)) dX9_scanNumber_54 (by decide) ?_
        refine V_isub dX9_scanNumber_56 ?_
        refine V_iadd dX9_scanNumber_57 ?_
        refine V_putI fl_X9_28 rfl rfl rfl rfl h4.1 h4.2 dX9_scanNumber_58 ?_
        refine V_nz (fun z19 ez19 => ?_)
        have hf := hf z19 ez19
        obtain ⟨v20, ev20⟩ : ∃ y : Int32, y = x1 + (1 : Int32) := ⟨_, rfl⟩
        refine V_iinc (j := 1) (v := v20) (ls2 := [(1, .int v20), (0, .ref a0)]) dX9_scanNumber_61 rfl (by rw [ev20]; rfl) (by decide) rfl ?_
        have hf := hf v20 ev20
        refine V_goto (tgt := 10) dX9_scanNumber_64 (by decide) ?_
        refine V_to [1, 0] rfl ?_
        exact hk10 _ _ _ hf
set_option maxRecDepth 100000 in
set_option maxHeartbeats 4000000 in
theorem vX9_scanNumber_L10 {E : gE} {n : Nat} {sh : Nat → Nat × Nat} {P : gS → Prop} (hn : gOK E n) : ∀ (N : Nat) (a0 : Nat) (x1 : Int32) (z : gS), wX9_scanNumber_L10 n sh P N a0 x1 z → V E (gR 0 0) gyX9_scanNumber 0 0 10 [(0, .ref a0), (1, .int x1)] [] n sh z (kN n sh P) := by
  intro N
  induction N with
  | zero => intro a0 x1 z hf; exact False.elim hf
  | succ N ih => intro a0 x1 z hf; exact vX9_scanNumber_B10 hn ih hf
def wX9_scanNumber (n : Nat) (sh : Nat → Nat × Nat) (a0 : Nat) (z : gS) (P : gS → Prop) : Prop := (oO n sh a0 5) ∧ (∀ v2 : Int32, v2 = (gi z a0 3) → (∀ z3 : gS, z3 = si z a0 5 (0 : Int32) → ((∃ N, wX9_scanNumber_L10 n sh P N a0 v2 z3))))
set_option maxRecDepth 100000 in
set_option maxHeartbeats 4000000 in
theorem ctX9_scanNumber {E : gE} {n : Nat} {sh : Nat → Nat × Nat} {a0 : Nat} {z : gS} {P : gS → Prop} (hn : gOK E n) (hf : wX9_scanNumber n sh a0 z P) : VM E 0 0 gyX9_scanNumber [.ref a0] n sh z (kN n sh P) := by
  unfold wX9_scanNumber at hf
  refine VM.of (by decide +kernel) (Nat.le_of_ble_eq_true rfl) (fun _ _ _ h => h.2.2) ?_
  show V E (gR 0 0) gyX9_scanNumber 0 0 0 [(0, .ref a0)] [] n sh z (kN n sh P)
  refine V_aload_n (j := 0) dX9_scanNumber_0 rfl rfl ?_
  obtain ⟨h1, hf⟩ := hf
  refine V_getI fl_X9_22 rfl h1.1 h1.2 dX9_scanNumber_1 ?_
  refine V_nI (fun v2 ev2 => ?_)
  have hf := hf v2 ev2
  refine V_istore_n (ls2 := [(1, .int v2), (0, .ref a0)]) dX9_scanNumber_4 rfl (by decide) rfl ?_
  refine V_aload_n (j := 1) dX9_scanNumber_5 rfl rfl ?_
  refine V_iconst (v := (0 : Int32)) dX9_scanNumber_6 (by decide) ?_
  refine V_putI fl_X9_28 rfl rfl rfl rfl h1.1 h1.2 dX9_scanNumber_7 ?_
  refine V_nz (fun z3 ez3 => ?_)
  have hf := hf z3 ez3
  obtain ⟨N, hf⟩ := hf
  refine V_to [1, 0] rfl ?_
  exact vX9_scanNumber_L10 hn N _ _ _ hf
def wJ1_canEncode_9a6ad (n : Nat) (sh : Nat → Nat × Nat) (x0 : Int32) (z : gS) (P : Int32 → gS → Prop) : Prop := if x0 < 0 then P (0 : Int32) z else (if (255 : Int32) < x0 then P (0 : Int32) z else P (1 : Int32) z)
set_option maxRecDepth 100000 in
set_option maxHeartbeats 4000000 in
theorem ctJ1_canEncode_9a6ad {E : gE} {n : Nat} {sh : Nat → Nat × Nat} {x0 : Int32} {z : gS} {P : Int32 → gS → Prop} (hn : gOK E n) (hf : wJ1_canEncode_9a6ad n sh x0 z P) : VM E 0 0 gyJ1_canEncode_9a6ad [.int x0] n sh z (kI n sh P) := by
  unfold wJ1_canEncode_9a6ad at hf
  refine VM.of (by decide +kernel) (Nat.le_of_ble_eq_true rfl) (fun _ _ _ h => h.2.2) ?_
  show V E (gR 0 0) gyJ1_canEncode_9a6ad 0 0 0 [(0, .int x0)] [] n sh z (kI n sh P)
  refine V_iload_n (j := 0) dJ1_canEncode_9a6ad_0 rfl rfl ?_
  refine V_if_lt (tgt := 15) dJ1_canEncode_9a6ad_1 (by decide) (fun h2 => ?_) (fun h2 => ?_)
  · have hf := it_t h2 hf
    refine V_iconst (v := (0 : Int32)) dJ1_canEncode_9a6ad_15 (by decide) ?_
    exact V_ireturn dJ1_canEncode_9a6ad_16 rfl (by decide) (Nat.le_refl 0) (kI_of hf)
  · have hf := it_f h2 hf
    refine V_iload_n (j := 0) dJ1_canEncode_9a6ad_4 rfl rfl ?_
    refine V_sipush (v := (255 : Int32)) dJ1_canEncode_9a6ad_5 (by decide) ?_
    refine V_icmp_gt (tgt := 15) dJ1_canEncode_9a6ad_8 (by decide) (fun h1 => ?_) (fun h1 => ?_)
    · have hf := it_t h1 hf
      refine V_iconst (v := (0 : Int32)) dJ1_canEncode_9a6ad_15 (by decide) ?_
      exact V_ireturn dJ1_canEncode_9a6ad_16 rfl (by decide) (Nat.le_refl 0) (kI_of hf)
    · have hf := it_f h1 hf
      refine V_iconst (v := (1 : Int32)) dJ1_canEncode_9a6ad_11 (by decide) ?_
      refine V_goto (tgt := 16) dJ1_canEncode_9a6ad_12 (by decide) ?_
      exact V_ireturn dJ1_canEncode_9a6ad_16 rfl (by decide) (Nat.le_refl 0) (kI_of hf)
def wJ1_indexOfChar_4cfef_B7 (n : Nat) (sh : Nat → Nat × Nat) (k7 : Nat → Int32 → Int32 → Int32 → gS → Prop) (P : Int32 → gS → Prop) (a0 : Nat) (x3 : Int32) (x4 : Int32) (x5 : Int32) (z : gS) : Prop := if x3 ≤ x5 then P (-1 : Int32) z else ((fB a0) ∧ ((vp_in x5 (gBl a0)) ∧ (if (gBv a0 x5.toNatClampNeg) = x4 then P x5 z else (∀ v4 : Int32, v4 = x5 + (1 : Int32) → k7 a0 x3 x4 v4 z))))
def wJ1_indexOfChar_4cfef_L7 (n : Nat) (sh : Nat → Nat × Nat) (P : Int32 → gS → Prop) : Nat → Nat → Int32 → Int32 → Int32 → gS → Prop
  | 0, _, _, _, _, _ => False
  | N + 1, a0, x3, x4, x5, z => wJ1_indexOfChar_4cfef_B7 n sh (wJ1_indexOfChar_4cfef_L7 n sh P N) P a0 x3 x4 x5 z
set_option maxRecDepth 100000 in
set_option maxHeartbeats 4000000 in
theorem vJ1_indexOfChar_4cfef_B7 {E : gE} {n : Nat} {sh : Nat → Nat × Nat} {P : Int32 → gS → Prop} {k7 : Nat → Int32 → Int32 → Int32 → gS → Prop} {a0 : Nat} {x3 : Int32} {x4 : Int32} {x5 : Int32} {z : gS} (hn : gOK E n) (hk7 : ∀ (a0 : Nat) (x3 : Int32) (x4 : Int32) (x5 : Int32) (z : gS), k7 a0 x3 x4 x5 z → V E (gR 0 0) gyJ1_indexOfChar_4cfef 0 0 7 [(0, .ref a0), (3, .int x3), (4, .int x4), (5, .int x5)] [] n sh z (kI n sh P)) (hf : wJ1_indexOfChar_4cfef_B7 n sh k7 P a0 x3 x4 x5 z) : V E (gR 0 0) gyJ1_indexOfChar_4cfef 0 0 7 [(0, .ref a0), (3, .int x3), (4, .int x4), (5, .int x5)] [] n sh z (kI n sh P) := by
  unfold wJ1_indexOfChar_4cfef_B7 at hf
  refine V_iload (j := 3) dJ1_indexOfChar_4cfef_7 rfl ?_
  refine V_iload_n (j := 1) dJ1_indexOfChar_4cfef_9 rfl rfl ?_
  refine V_icmp_ge (tgt := 31) dJ1_indexOfChar_4cfef_10 (by decide) (fun h6 => ?_) (fun h6 => ?_)
  · have hf := it_t h6 hf
    refine V_iconst (v := (-1 : Int32)) dJ1_indexOfChar_4cfef_31 (by decide) ?_
    exact V_ireturn dJ1_indexOfChar_4cfef_32 rfl rfl (Nat.le_refl 0) (kI_of hf)
  · have hf := it_f h6 hf
    refine V_aload_n (j := 0) dJ1_indexOfChar_4cfef_13 rfl rfl ?_
    refine V_iload (j := 3) dJ1_indexOfChar_4cfef_14 rfl ?_
    obtain ⟨h2, hf⟩ := hf
    obtain ⟨h3, hf⟩ := hf
    refine V_bald hn h2 h3 dJ1_indexOfChar_4cfef_16 ?_
    refine V_iload (j := 2) dJ1_indexOfChar_4cfef_17 rfl ?_
    refine V_icmp_ne (tgt := 25) dJ1_indexOfChar_4cfef_19 (by decide) (fun h5 => ?_) (fun h5 => ?_)
    · have hf := it_f h5 hf
      obtain ⟨v4, ev4⟩ : ∃ y : Int32, y = x5 + (1 : Int32) := ⟨_, rfl⟩
      refine V_iinc (j := 3) (v := v4) (ls2 := [(5, .int v4), (0, .ref a0), (3, .int x3), (4, .int x4)]) dJ1_indexOfChar_4cfef_25 rfl (by rw [ev4]; rfl) (by decide) rfl ?_
      have hf := hf v4 ev4
      refine V_goto (tgt := 7) dJ1_indexOfChar_4cfef_28 (by decide) ?_
      refine V_to [1, 2, 3, 0] rfl ?_
      exact hk7 _ _ _ _ _ hf
    · have hf := it_t (Classical.not_not.mp h5) hf
      refine V_iload (j := 3) dJ1_indexOfChar_4cfef_22 rfl ?_
      exact V_ireturn dJ1_indexOfChar_4cfef_24 rfl rfl (Nat.le_refl 0) (kI_of hf)
set_option maxRecDepth 100000 in
set_option maxHeartbeats 4000000 in
theorem vJ1_indexOfChar_4cfef_L7 {E : gE} {n : Nat} {sh : Nat → Nat × Nat} {P : Int32 → gS → Prop} (hn : gOK E n) : ∀ (N : Nat) (a0 : Nat) (x3 : Int32) (x4 : Int32) (x5 : Int32) (z : gS), wJ1_indexOfChar_4cfef_L7 n sh P N a0 x3 x4 x5 z → V E (gR 0 0) gyJ1_indexOfChar_4cfef 0 0 7 [(0, .ref a0), (3, .int x3), (4, .int x4), (5, .int x5)] [] n sh z (kI n sh P) := by
  intro N
  induction N with
  | zero => intro a0 x3 x4 x5 z hf; exact False.elim hf
  | succ N ih => intro a0 x3 x4 x5 z hf; exact vJ1_indexOfChar_4cfef_B7 hn ih hf
def wJ1_indexOfChar_4cfef (n : Nat) (sh : Nat → Nat × Nat) (a0 : Nat) (x1 : Int32) (x2 : Int32) (x3 : Int32) (z : gS) (P : Int32 → gS → Prop) : Prop := ∀ v1 : Int32, v1 = (x1.toInt8.toInt32) → ((∃ N, wJ1_indexOfChar_4cfef_L7 n sh P N a0 x3 v1 x2 z))
set_option maxRecDepth 100000 in
set_option maxHeartbeats 4000000 in
theorem ctJ1_indexOfChar_4cfef {E : gE} {n : Nat} {sh : Nat → Nat × Nat} {a0 : Nat} {x1 : Int32} {x2 : Int32} {x3 : Int32} {z : gS} {P : Int32 → gS → Prop} (hn : gOK E n) (hf : wJ1_indexOfChar_4cfef n sh a0 x1 x2 x3 z P) : VM E 0 0 gyJ1_indexOfChar_4cfef [.ref a0, .int x1, .int x2, .int x3] n sh z (kI n sh P) := by
  unfold wJ1_indexOfChar_4cfef at hf
  refine VM.of (by decide +kernel) (Nat.le_of_ble_eq_true rfl) (fun _ _ _ h => h.2.2) ?_
  show V E (gR 0 0) gyJ1_indexOfChar_4cfef 0 0 0 [(0, .ref a0), (1, .int x1), (2, .int x2), (3, .int x3)] [] n sh z (kI n sh P)
  refine V_iload_n (j := 1) dJ1_indexOfChar_4cfef_0 rfl rfl ?_
  refine V_i2b dJ1_indexOfChar_4cfef_1 ?_
  refine V_nI (fun v1 ev1 => ?_)
  have hf := hf v1 ev1
  refine V_istore (ls2 := [(4, .int v1), (0, .ref a0), (1, .int x1), (2, .int x2), (3, .int x3)]) dJ1_indexOfChar_4cfef_2 (by decide) rfl ?_
  refine V_iload_n (j := 3) dJ1_indexOfChar_4cfef_4 rfl rfl ?_
  refine V_istore (ls2 := [(5, .int x2), (4, .int v1), (0, .ref a0), (1, .int x1), (2, .int x2), (3, .int x3)]) dJ1_indexOfChar_4cfef_5 (by decide) rfl ?_
  obtain ⟨N, hf⟩ := hf
  refine V_to [2, 5, 1, 0] rfl ?_
  exact vJ1_indexOfChar_4cfef_L7 hn N _ _ _ _ _ hf
def wJ1_indexOf_4cfef (n : Nat) (sh : Nat → Nat × Nat) (a0 : Nat) (x1 : Int32) (x2 : Int32) (x3 : Int32) (z : gS) (P : Int32 → gS → Prop) : Prop := wJ1_canEncode_9a6ad n sh x1 z (fun (r1 : Int32) (z2 : gS) => if r1 = 0 then P (-1 : Int32) z2 else (∀ v3 : Int32, v3 = (if x2 < (0 : Int32) then (0 : Int32) else x2) → ((fB a0) ∧ (∀ v5 : Int32, v5 = (if (Int32.ofNat (gBl a0)) < x3 then (Int32.ofNat (gBl a0)) else x3) → (if v3 < v5 then (wJ1_indexOfChar_4cfef n sh a0 x1 v3 v5 z2 (fun (r6 : Int32) (z7 : gS) => P r6 z7)) else P (-1 : Int32) z2)))))
set_option maxRecDepth 100000 in
set_option maxHeartbeats 4000000 in
theorem ctJ1_indexOf_4cfef {E : gE} {n : Nat} {sh : Nat → Nat × Nat} {a0 : Nat} {x1 : Int32} {x2 : Int32} {x3 : Int32} {z : gS} {P : Int32 → gS → Prop} (hn : gOK E n) (hf : wJ1_indexOf_4cfef n sh a0 x1 x2 x3 z P) : VM E 1 0 gyJ1_indexOf_4cfef [.ref a0, .int x1, .int x2, .int x3] n sh z (kI n sh P) := by
  unfold wJ1_indexOf_4cfef at hf
  refine VM.of (by decide +kernel) (Nat.le_of_ble_eq_true rfl) (fun _ _ _ h => h.2.2) ?_
  show V E (gR 1 0) gyJ1_indexOf_4cfef 0 0 0 [(0, .ref a0), (1, .int x1), (2, .int x2), (3, .int x3)] [] n sh z (kI n sh P)
  refine V_iload_n (j := 1) dJ1_indexOf_4cfef_0 rfl rfl ?_
  refine V_cSI (ctJ1_canEncode_9a6ad hn hf) gc_J1_88 rfl ⟨by decide, by decide, Nat.zero_le _, Nat.zero_le _⟩ (Nat.le_of_ble_eq_true rfl) dJ1_indexOf_4cfef_1 rfl hn (fun r1 z2 hf => ?_)
  refine V_if_ne (tgt := 9) dJ1_indexOf_4cfef_4 (by decide) (fun h9 => ?_) (fun h9 => ?_)
  · have hf := it_f h9 hf
    refine V_iload_n (j := 2) dJ1_indexOf_4cfef_9 rfl rfl ?_
    refine V_iconst (v := (0 : Int32)) dJ1_indexOf_4cfef_10 (by decide) ?_
    refine V_max ma_J1_92 mas_max mai mac_max ⟨by decide, by decide, Nat.zero_le _, Nat.zero_le _⟩ (Nat.le_of_ble_eq_true rfl) dJ1_indexOf_4cfef_11 ?_
    refine V_nI (fun v3 ev3 => ?_)
    have hf := hf v3 ev3
    refine V_istore_n (ls2 := [(2, .int v3), (0, .ref a0), (1, .int x1), (3, .int x3)]) dJ1_indexOf_4cfef_14 rfl (by decide) rfl ?_
    refine V_iload_n (j := 3) dJ1_indexOf_4cfef_15 rfl rfl ?_
    refine V_aload_n (j := 1) dJ1_indexOf_4cfef_16 rfl rfl ?_
    obtain ⟨h4, hf⟩ := hf
    refine V_balen hn h4 dJ1_indexOf_4cfef_17 ?_
    refine V_min ma_J1_38 mas_min mai mac_min ⟨by decide, by decide, Nat.zero_le _, Nat.zero_le _⟩ (Nat.le_of_ble_eq_true rfl) dJ1_indexOf_4cfef_18 ?_
    refine V_nI (fun v5 ev5 => ?_)
    have hf := hf v5 ev5
    refine V_istore_n (ls2 := [(3, .int v5), (2, .int v3), (0, .ref a0), (1, .int x1)]) dJ1_indexOf_4cfef_21 rfl (by decide) rfl ?_
    refine V_iload_n (j := 1) dJ1_indexOf_4cfef_22 rfl rfl ?_
    refine V_iload_n (j := 0) dJ1_indexOf_4cfef_23 rfl rfl ?_
    refine V_icmp_lt (tgt := 29) dJ1_indexOf_4cfef_24 (by decide) (fun h8 => ?_) (fun h8 => ?_)
    · have hf := it_t h8 hf
      refine V_aload_n (j := 2) dJ1_indexOf_4cfef_29 rfl rfl ?_
      refine V_iload_n (j := 3) dJ1_indexOf_4cfef_30 rfl rfl ?_
      refine V_iload_n (j := 1) dJ1_indexOf_4cfef_31 rfl rfl ?_
      refine V_iload_n (j := 0) dJ1_indexOf_4cfef_32 rfl rfl ?_
      refine V_cSI (ctJ1_indexOfChar_4cfef hn hf) gc_J1_95 rfl ⟨by decide, by decide, Nat.zero_le _, Nat.zero_le _⟩ (Nat.le_of_ble_eq_true rfl) dJ1_indexOf_4cfef_33 rfl hn (fun r6 z7 hf => ?_)
      exact V_ireturn dJ1_indexOf_4cfef_36 rfl rfl (Nat.le_refl 0) (kI_of hf)
    · have hf := it_f h8 hf
      refine V_iconst (v := (-1 : Int32)) dJ1_indexOf_4cfef_27 (by decide) ?_
      exact V_ireturn dJ1_indexOf_4cfef_28 rfl rfl (Nat.le_refl 0) (kI_of hf)
  · have hf := it_t (Classical.not_not.mp h9) hf
    refine V_iconst (v := (-1 : Int32)) dJ1_indexOf_4cfef_7 (by decide) ?_
    exact V_ireturn dJ1_indexOf_4cfef_8 rfl rfl (Nat.le_refl 0) (kI_of hf)
def wJ0_indexOf_7cf53 (n : Nat) (sh : Nat → Nat × Nat) (a0 : Nat) (x1 : Int32) (x2 : Int32) (z : gS) (P : Int32 → gS → Prop) : Prop := (fS a0) ∧ (wJ0_isLatin1_aae02 n sh a0 z (fun (r1 : Int32) (z2 : gS) => if r1 = 0 then (wJ0_length_8abf5 n sh a0 z2 (fun (r4 : Int32) (z5 : gS) => False)) else (wJ0_length_8abf5 n sh a0 z2 (fun (r6 : Int32) (z7 : gS) => wJ1_indexOf_4cfef n sh (a0 + 10) x1 x2 r6 z7 (fun (r8 : Int32) (z9 : gS) => P r8 z9)))))
set_option maxRecDepth 100000 in
set_option maxHeartbeats 4000000 in
theorem ctJ0_indexOf_7cf53 {E : gE} {n : Nat} {sh : Nat → Nat × Nat} {a0 : Nat} {x1 : Int32} {x2 : Int32} {z : gS} {P : Int32 → gS → Prop} (hn : gOK E n) (hf : wJ0_indexOf_7cf53 n sh a0 x1 x2 z P) : VM E 2 0 gyJ0_indexOf_7cf53 [.ref a0, .int x1, .int x2] n sh z (kI n sh P) := by
  unfold wJ0_indexOf_7cf53 at hf
  refine VM.of (by decide +kernel) (Nat.le_of_ble_eq_true rfl) (fun _ _ _ h => h.2.2) ?_
  show V E (gR 2 0) gyJ0_indexOf_7cf53 0 0 0 [(0, .ref a0), (1, .int x1), (2, .int x2)] [] n sh z (kI n sh P)
  refine V_aload_n (j := 0) dJ0_indexOf_7cf53_0 rfl rfl ?_
  obtain ⟨h3, hf⟩ := hf
  refine V_cVIF (ctJ0_isLatin1_aae02 hn hf) gc_J0_492 rfl (gRv.far hn h3) ⟨by decide, by decide, Nat.zero_le _, Nat.zero_le _⟩ (Nat.le_of_ble_eq_true rfl) dJ0_indexOf_7cf53_1 rfl hn (fun r1 z2 hf => ?_)
  refine V_if_eq (tgt := 23) dJ0_indexOf_7cf53_4 (by decide) (fun h10 => ?_) (fun h10 => ?_)
  · have hf := it_t h10 hf
    refine V_aload_n (j := 0) dJ0_indexOf_7cf53_23 rfl rfl ?_
    refine V_fval hn h3 sf_J0_9 dJ0_indexOf_7cf53_24 ?_
    refine V_iload_n (j := 1) dJ0_indexOf_7cf53_27 rfl rfl ?_
    refine V_iload_n (j := 2) dJ0_indexOf_7cf53_28 rfl rfl ?_
    refine V_aload_n (j := 0) dJ0_indexOf_7cf53_29 rfl rfl ?_
    refine V_cVIF (ctJ0_length_8abf5 hn hf) gc_J0_505 rfl (gRv.far hn h3) ⟨by decide, by decide, Nat.zero_le _, Nat.zero_le _⟩ (Nat.le_of_ble_eq_true rfl) dJ0_indexOf_7cf53_30 rfl hn (fun r4 z5 hf => ?_)
    exact False.elim hf
  · have hf := it_f h10 hf
    refine V_aload_n (j := 0) dJ0_indexOf_7cf53_7 rfl rfl ?_
    refine V_fval hn h3 sf_J0_9 dJ0_indexOf_7cf53_8 ?_
    refine V_iload_n (j := 1) dJ0_indexOf_7cf53_11 rfl rfl ?_
    refine V_iload_n (j := 2) dJ0_indexOf_7cf53_12 rfl rfl ?_
    refine V_aload_n (j := 0) dJ0_indexOf_7cf53_13 rfl rfl ?_
    refine V_cVIF (ctJ0_length_8abf5 hn hf) gc_J0_505 rfl (gRv.far hn h3) ⟨by decide, by decide, Nat.zero_le _, Nat.zero_le _⟩ (Nat.le_of_ble_eq_true rfl) dJ0_indexOf_7cf53_14 rfl hn (fun r6 z7 hf => ?_)
    refine V_cSI (ctJ1_indexOf_4cfef hn hf) gc_J0_637 rfl ⟨by decide, by decide, Nat.zero_le _, Nat.zero_le _⟩ (Nat.le_of_ble_eq_true rfl) dJ0_indexOf_7cf53_17 rfl hn (fun r8 z9 hf => ?_)
    refine V_goto (tgt := 36) dJ0_indexOf_7cf53_20 (by decide) ?_
    exact V_ireturn dJ0_indexOf_7cf53_36 rfl rfl (Nat.le_refl 0) (kI_of hf)
def wJ0_indexOf_0f7a4 (n : Nat) (sh : Nat → Nat × Nat) (a0 : Nat) (x1 : Int32) (z : gS) (P : Int32 → gS → Prop) : Prop := (fS a0) ∧ (wJ0_indexOf_7cf53 n sh a0 x1 (0 : Int32) z (fun (r1 : Int32) (z2 : gS) => P r1 z2))
set_option maxRecDepth 100000 in
set_option maxHeartbeats 4000000 in
theorem ctJ0_indexOf_0f7a4 {E : gE} {n : Nat} {sh : Nat → Nat × Nat} {a0 : Nat} {x1 : Int32} {z : gS} {P : Int32 → gS → Prop} (hn : gOK E n) (hf : wJ0_indexOf_0f7a4 n sh a0 x1 z P) : VM E 3 0 gyJ0_indexOf_0f7a4 [.ref a0, .int x1] n sh z (kI n sh P) := by
  unfold wJ0_indexOf_0f7a4 at hf
  refine VM.of (by decide +kernel) (Nat.le_of_ble_eq_true rfl) (fun _ _ _ h => h.2.2) ?_
  show V E (gR 3 0) gyJ0_indexOf_0f7a4 0 0 0 [(0, .ref a0), (1, .int x1)] [] n sh z (kI n sh P)
  refine V_aload_n (j := 0) dJ0_indexOf_0f7a4_0 rfl rfl ?_
  refine V_iload_n (j := 1) dJ0_indexOf_0f7a4_1 rfl rfl ?_
  refine V_iconst (v := (0 : Int32)) dJ0_indexOf_0f7a4_2 (by decide) ?_
  obtain ⟨h3, hf⟩ := hf
  refine V_cVIF (ctJ0_indexOf_7cf53 hn hf) gc_J0_633 rfl (gRv.far hn h3) ⟨by decide, by decide, Nat.zero_le _, Nat.zero_le _⟩ (Nat.le_of_ble_eq_true rfl) dJ0_indexOf_0f7a4_3 rfl hn (fun r1 z2 hf => ?_)
  exact V_ireturn dJ0_indexOf_0f7a4_6 rfl rfl (Nat.le_refl 0) (kI_of hf)
def wX9_advance_J143 (n : Nat) (sh : Nat → Nat × Nat) (P : gS → Prop) (a0 : Nat) (x1 : Int32) (s0 : Int32) (s1 : Nat) (z : gS) : Prop := (oO n sh s1 5) ∧ (∀ z15 : gS, z15 = si z s1 2 s0 → ((oO n sh a0 5) ∧ (∀ z17 : gS, z17 = si z15 a0 4 (x1 + (1 : Int32)) → P z17)))
set_option maxRecDepth 100000 in
set_option maxHeartbeats 4000000 in
theorem vX9_advance_J143 {E : gE} {n : Nat} {sh : Nat → Nat × Nat} {P : gS → Prop} {a0 : Nat} {x1 : Int32} {s0 : Int32} {s1 : Nat} {z : gS} (hn : gOK E n) (hf : wX9_advance_J143 n sh P a0 x1 s0 s1 z) : V E (gR 5 0) gyX9_advance 0 0 143 [(0, .ref a0), (1, .int x1)] [.int s0, .ref s1] n sh z (kN n sh P) := by
  unfold wX9_advance_J143 at hf
  obtain ⟨h14, hf⟩ := hf
  refine V_putI fl_X9_19 rfl rfl rfl rfl h14.1 h14.2 dX9_advance_143 ?_
  refine V_nz (fun z15 ez15 => ?_)
  have hf := hf z15 ez15
  refine V_aload_n (j := 0) dX9_advance_146 rfl rfl ?_
  refine V_iload_n (j := 1) dX9_advance_147 rfl rfl ?_
  refine V_iconst (v := (1 : Int32)) dX9_advance_148 (by decide) ?_
  refine V_iadd dX9_advance_149 ?_
  obtain ⟨h16, hf⟩ := hf
  refine V_putI fl_X9_25 rfl rfl rfl rfl h16.1 h16.2 dX9_advance_150 ?_
  refine V_nz (fun z17 ez17 => ?_)
  have hf := hf z17 ez17
  exact V_return dX9_advance_153 rfl (Nat.le_refl 0) (kN_of hf)
def wX9_advance_J128 (n : Nat) (sh : Nat → Nat × Nat) (P : gS → Prop) (a0 : Nat) (x1 : Int32) (x2 : Int32) (z : gS) : Prop := (fS 1000001) ∧ (wJ0_indexOf_0f7a4 n sh 1000001 x2 z (fun (r11 : Int32) (z12 : gS) => if r11 < 0 then wX9_advance_J143 n sh P a0 x1 (1 : Int32) a0 z12 else wX9_advance_J143 n sh P a0 x1 (4 : Int32) a0 z12))
set_option maxRecDepth 100000 in
set_option maxHeartbeats 4000000 in
theorem vX9_advance_J128 {E : gE} {n : Nat} {sh : Nat → Nat × Nat} {P : gS → Prop} {a0 : Nat} {x1 : Int32} {x2 : Int32} {z : gS} (hn : gOK E n) (hf : wX9_advance_J128 n sh P a0 x1 x2 z) : V E (gR 5 0) gyX9_advance 0 0 128 [(0, .ref a0), (1, .int x1), (2, .int x2)] [] n sh z (kN n sh P) := by
  unfold wX9_advance_J128 at hf
  refine V_aload_n (j := 0) dX9_advance_128 rfl rfl ?_
  refine V_ldcs1 hn dX9_advance_129 rfl ?_
  refine V_iload_n (j := 2) dX9_advance_131 rfl rfl ?_
  obtain ⟨h13, hf⟩ := hf
  refine V_cVIF (ctJ0_indexOf_0f7a4 hn hf) gc_X9_58 rfl (gRv.far hn h13) ⟨by decide, by decide, Nat.zero_le _, Nat.zero_le _⟩ (Nat.le_of_ble_eq_true rfl) dX9_advance_132 rfl hn (fun r11 z12 hf => ?_)
  refine V_if_lt (tgt := 142) dX9_advance_135 (by decide) (fun h18 => ?_) (fun h18 => ?_)
  · have hf := it_t h18 hf
    refine V_iconst (v := (1 : Int32)) dX9_advance_142 (by decide) ?_
    refine V_to [0, 1] rfl ?_
    exact vX9_advance_J143 hn hf
  · have hf := it_f h18 hf
    refine V_iconst (v := (4 : Int32)) dX9_advance_138 (by decide) ?_
    refine V_goto (tgt := 143) dX9_advance_139 (by decide) ?_
    refine V_to [0, 1] rfl ?_
    exact vX9_advance_J143 hn hf
def wX9_advance_J109 (n : Nat) (sh : Nat → Nat × Nat) (P : gS → Prop) (a0 : Nat) (x1 : Int32) (x2 : Int32) (z : gS) : Prop := if x2 < (48 : Int32) then wX9_advance_J128 n sh P a0 x1 x2 z else (if (57 : Int32) < x2 then wX9_advance_J128 n sh P a0 x1 x2 z else ((oO n sh a0 5) ∧ (wX9_scanNumber n sh a0 z (fun (z20 : gS) => P z20))))
set_option maxRecDepth 100000 in
set_option maxHeartbeats 4000000 in
theorem vX9_advance_J109 {E : gE} {n : Nat} {sh : Nat → Nat × Nat} {P : gS → Prop} {a0 : Nat} {x1 : Int32} {x2 : Int32} {z : gS} (hn : gOK E n) (hf : wX9_advance_J109 n sh P a0 x1 x2 z) : V E (gR 5 0) gyX9_advance 0 0 109 [(0, .ref a0), (1, .int x1), (2, .int x2)] [] n sh z (kN n sh P) := by
  unfold wX9_advance_J109 at hf
  refine V_iload_n (j := 2) dX9_advance_109 rfl rfl ?_
  refine V_bipush (v := (48 : Int32)) dX9_advance_110 (by decide) ?_
  refine V_icmp_lt (tgt := 128) dX9_advance_112 (by decide) (fun h23 => ?_) (fun h23 => ?_)
  · have hf := it_t h23 hf
    exact vX9_advance_J128 hn hf
  · have hf := it_f h23 hf
    refine V_iload_n (j := 2) dX9_advance_115 rfl rfl ?_
    refine V_bipush (v := (57 : Int32)) dX9_advance_116 (by decide) ?_
    refine V_icmp_gt (tgt := 128) dX9_advance_118 (by decide) (fun h22 => ?_) (fun h22 => ?_)
    · have hf := it_t h22 hf
      exact vX9_advance_J128 hn hf
    · have hf := it_f h22 hf
      refine V_aload_n (j := 0) dX9_advance_121 rfl rfl ?_
      obtain ⟨h21, hf⟩ := hf
      refine V_cVN (ctX9_scanNumber hn hf) gc_X9_53 rfl h21.1 ⟨_, h21.2, by decide, rfl⟩ ⟨by decide, by decide, Nat.zero_le _, Nat.zero_le _⟩ (Nat.le_of_ble_eq_true rfl) dX9_advance_122 rfl hn (fun z20 hf => ?_)
      refine V_goto (tgt := 153) dX9_advance_125 (by decide) ?_
      exact V_return dX9_advance_153 rfl (Nat.le_refl 0) (kN_of hf)
def wX9_advance_J41 (n : Nat) (sh : Nat → Nat × Nat) (P : gS → Prop) (a0 : Nat) (x1 : Int32) (z : gS) : Prop := (oO n sh a0 5) ∧ (∀ z5 : gS, z5 = si z a0 3 x1 → (∀ z6 : gS, z6 = si z5 a0 7 (-1 : Int32) → (if x1 < (gi z6 a0 1) then (∃ t7 : Nat, gr z6 a0 0 = some t7 ∧ ((oA n sh t7 3) ∧ ((vp_in x1 (sh t7).2) ∧ (∀ v10 : Int32, v10 = (gi z6 t7 x1.toNatClampNeg) → (if v10 < (97 : Int32) then wX9_advance_J109 n sh P a0 x1 v10 z6 else (if (122 : Int32) < v10 then wX9_advance_J109 n sh P a0 x1 v10 z6 else (wX9_scanWord n sh a0 z6 (fun (z25 : gS) => wX9_placeIn n sh a0 1000000 z25 (fun (r26 : Int32) (z27 : gS) => ∀ z28 : gS, z28 = si z27 a0 7 r26 → P z28))))))))) else (∀ z31 : gS, z31 = si z6 a0 2 (0 : Int32) → (∀ z32 : gS, z32 = si z31 a0 4 (gi z31 a0 1) → P z32)))))
set_option maxRecDepth 100000 in
set_option maxHeartbeats 4000000 in
theorem vX9_advance_J41 {E : gE} {n : Nat} {sh : Nat → Nat × Nat} {P : gS → Prop} {a0 : Nat} {x1 : Int32} {z : gS} (hn : gOK E n) (hf : wX9_advance_J41 n sh P a0 x1 z) : V E (gR 5 0) gyX9_advance 0 0 41 [(0, .ref a0), (1, .int x1)] [] n sh z (kN n sh P) := by
  unfold wX9_advance_J41 at hf
  refine V_aload_n (j := 0) dX9_advance_41 rfl rfl ?_
  refine V_iload_n (j := 1) dX9_advance_42 rfl rfl ?_
  obtain ⟨h4, hf⟩ := hf
  refine V_putI fl_X9_22 rfl rfl rfl rfl h4.1 h4.2 dX9_advance_43 ?_
  refine V_nz (fun z5 ez5 => ?_)
  have hf := hf z5 ez5
  refine V_aload_n (j := 0) dX9_advance_46 rfl rfl ?_
  refine V_iconst (v := (-1 : Int32)) dX9_advance_47 (by decide) ?_
  refine V_putI fl_X9_35 rfl rfl rfl rfl h4.1 h4.2 dX9_advance_48 ?_
  refine V_nz (fun z6 ez6 => ?_)
  have hf := hf z6 ez6
  refine V_iload_n (j := 1) dX9_advance_51 rfl rfl ?_
  refine V_aload_n (j := 0) dX9_advance_52 rfl rfl ?_
  refine V_getI fl_X9_15 rfl h4.1 h4.2 dX9_advance_53 ?_
  refine V_icmp_lt (tgt := 73) dX9_advance_56 (by decide) (fun h33 => ?_) (fun h33 => ?_)
  · have hf := it_t h33 hf
    refine V_aload_n (j := 0) dX9_advance_73 rfl rfl ?_
    obtain ⟨t7, et7, hf⟩ := hf
    refine V_getR fl_X9_11 rfl h4.1 h4.2 et7 dX9_advance_74 ?_
    refine V_iload_n (j := 1) dX9_advance_77 rfl rfl ?_
    obtain ⟨h8, hf⟩ := hf
    obtain ⟨h9, hf⟩ := hf
    refine V_cald h8.1 h8.s h9 dX9_advance_78 ?_
    refine V_nI (fun v10 ev10 => ?_)
    have hf := hf v10 ev10
    refine V_istore_n (ls2 := [(2, .int v10), (0, .ref a0), (1, .int x1)]) dX9_advance_79 rfl (by decide) rfl ?_
    refine V_iload_n (j := 0) dX9_advance_80 rfl rfl ?_
    refine V_bipush (v := (97 : Int32)) dX9_advance_81 (by decide) ?_
    refine V_icmp_lt (tgt := 109) dX9_advance_83 (by decide) (fun h30 => ?_) (fun h30 => ?_)
    · have hf := it_t h30 hf
      refine V_to [1, 2, 0] rfl ?_
      exact vX9_advance_J109 hn hf
    · have hf := it_f h30 hf
      refine V_iload_n (j := 0) dX9_advance_86 rfl rfl ?_
      refine V_bipush (v := (122 : Int32)) dX9_advance_87 (by decide) ?_
      refine V_icmp_gt (tgt := 109) dX9_advance_89 (by decide) (fun h29 => ?_) (fun h29 => ?_)
      · have hf := it_t h29 hf
        refine V_to [1, 2, 0] rfl ?_
        exact vX9_advance_J109 hn hf
      · have hf := it_f h29 hf
        refine V_aload_n (j := 1) dX9_advance_92 rfl rfl ?_
        refine V_cVN (ctX9_scanWord hn hf) gc_X9_44 rfl h4.1 ⟨_, h4.2, by decide, rfl⟩ ⟨by decide, by decide, Nat.zero_le _, Nat.zero_le _⟩ (Nat.le_of_ble_eq_true rfl) dX9_advance_93 rfl hn (fun z25 hf => ?_)
        refine V_aload_n (j := 1) dX9_advance_96 rfl rfl ?_
        refine V_aload_n (j := 1) dX9_advance_97 rfl rfl ?_
        refine V_ldcs0 hn dX9_advance_98 rfl ?_
        refine V_cVI (ctX9_placeIn hn hf) gc_X9_49 rfl h4.1 ⟨_, h4.2, by decide, rfl⟩ ⟨by decide, by decide, Nat.zero_le _, Nat.zero_le _⟩ (Nat.le_of_ble_eq_true rfl) dX9_advance_100 rfl hn (fun r26 z27 hf => ?_)
        refine V_putI fl_X9_35 rfl rfl rfl rfl h4.1 h4.2 dX9_advance_103 ?_
        refine V_nz (fun z28 ez28 => ?_)
        have hf := hf z28 ez28
        refine V_goto (tgt := 153) dX9_advance_106 (by decide) ?_
        exact V_return dX9_advance_153 rfl (Nat.le_refl 0) (kN_of hf)
  · have hf := it_f h33 hf
    refine V_aload_n (j := 0) dX9_advance_59 rfl rfl ?_
    refine V_iconst (v := (0 : Int32)) dX9_advance_60 (by decide) ?_
    refine V_putI fl_X9_19 rfl rfl rfl rfl h4.1 h4.2 dX9_advance_61 ?_
    refine V_nz (fun z31 ez31 => ?_)
    have hf := hf z31 ez31
    refine V_aload_n (j := 0) dX9_advance_64 rfl rfl ?_
    refine V_aload_n (j := 0) dX9_advance_65 rfl rfl ?_
    refine V_getI fl_X9_15 rfl h4.1 h4.2 dX9_advance_66 ?_
    refine V_putI fl_X9_25 rfl rfl rfl rfl h4.1 h4.2 dX9_advance_69 ?_
    refine V_nz (fun z32 ez32 => ?_)
    have hf := hf z32 ez32
    exact V_return dX9_advance_72 rfl (Nat.le_refl 0) (kN_of hf)
def wX9_advance_J35 (n : Nat) (sh : Nat → Nat × Nat) (k5 : Nat → Int32 → gS → Prop) (P : gS → Prop) (a0 : Nat) (x1 : Int32) (z : gS) : Prop := ∀ v37 : Int32, v37 = x1 + (1 : Int32) → k5 a0 v37 z
set_option maxRecDepth 100000 in
set_option maxHeartbeats 4000000 in
theorem vX9_advance_J35 {E : gE} {n : Nat} {sh : Nat → Nat × Nat} {P : gS → Prop} {k5 : Nat → Int32 → gS → Prop} {a0 : Nat} {x1 : Int32} {z : gS} (hn : gOK E n) (hk5 : ∀ (a0 : Nat) (x1 : Int32) (z : gS), k5 a0 x1 z → V E (gR 5 0) gyX9_advance 0 0 5 [(0, .ref a0), (1, .int x1)] [] n sh z (kN n sh P)) (hf : wX9_advance_J35 n sh k5 P a0 x1 z) : V E (gR 5 0) gyX9_advance 0 0 35 [(0, .ref a0), (1, .int x1)] [] n sh z (kN n sh P) := by
  unfold wX9_advance_J35 at hf
  obtain ⟨v37, ev37⟩ : ∃ y : Int32, y = x1 + (1 : Int32) := ⟨_, rfl⟩
  refine V_iinc (j := 1) (v := v37) (ls2 := [(1, .int v37), (0, .ref a0)]) dX9_advance_35 rfl (by rw [ev37]; rfl) (by decide) rfl ?_
  have hf := hf v37 ev37
  refine V_goto (tgt := 5) dX9_advance_38 (by decide) ?_
  refine V_to [1, 0] rfl ?_
  exact hk5 _ _ _ hf
def wX9_advance_B5 (n : Nat) (sh : Nat → Nat × Nat) (k5 : Nat → Int32 → gS → Prop) (P : gS → Prop) (a0 : Nat) (x1 : Int32) (z : gS) : Prop := (oO n sh a0 5) ∧ (if (gi z a0 1) ≤ x1 then wX9_advance_J41 n sh P a0 x1 z else (∃ t34 : Nat, gr z a0 0 = some t34 ∧ ((oA n sh t34 3) ∧ ((vp_in x1 (sh t34).2) ∧ (if (gi z t34 x1.toNatClampNeg) = (32 : Int32) then wX9_advance_J35 n sh k5 P a0 x1 z else (∃ t38 : Nat, gr z a0 0 = some t38 ∧ ((oA n sh t38 3) ∧ ((vp_in x1 (sh t38).2) ∧ (if (gi z t38 x1.toNatClampNeg) = (10 : Int32) then wX9_advance_J35 n sh k5 P a0 x1 z else wX9_advance_J41 n sh P a0 x1 z)))))))))
def wX9_advance_L5 (n : Nat) (sh : Nat → Nat × Nat) (P : gS → Prop) : Nat → Nat → Int32 → gS → Prop
  | 0, _, _, _ => False
  | N + 1, a0, x1, z => wX9_advance_B5 n sh (wX9_advance_L5 n sh P N) P a0 x1 z
set_option maxRecDepth 100000 in
set_option maxHeartbeats 4000000 in
theorem vX9_advance_B5 {E : gE} {n : Nat} {sh : Nat → Nat × Nat} {P : gS → Prop} {k5 : Nat → Int32 → gS → Prop} {a0 : Nat} {x1 : Int32} {z : gS} (hn : gOK E n) (hk5 : ∀ (a0 : Nat) (x1 : Int32) (z : gS), k5 a0 x1 z → V E (gR 5 0) gyX9_advance 0 0 5 [(0, .ref a0), (1, .int x1)] [] n sh z (kN n sh P)) (hf : wX9_advance_B5 n sh k5 P a0 x1 z) : V E (gR 5 0) gyX9_advance 0 0 5 [(0, .ref a0), (1, .int x1)] [] n sh z (kN n sh P) := by
  unfold wX9_advance_B5 at hf
  refine V_iload_n (j := 1) dX9_advance_5 rfl rfl ?_
  refine V_aload_n (j := 0) dX9_advance_6 rfl rfl ?_
  obtain ⟨h3, hf⟩ := hf
  refine V_getI fl_X9_15 rfl h3.1 h3.2 dX9_advance_7 ?_
  refine V_icmp_ge (tgt := 41) dX9_advance_10 (by decide) (fun h43 => ?_) (fun h43 => ?_)
  · have hf := it_t h43 hf
    exact vX9_advance_J41 hn hf
  · have hf := it_f h43 hf
    refine V_aload_n (j := 0) dX9_advance_13 rfl rfl ?_
    obtain ⟨t34, et34, hf⟩ := hf
    refine V_getR fl_X9_11 rfl h3.1 h3.2 et34 dX9_advance_14 ?_
    refine V_iload_n (j := 1) dX9_advance_17 rfl rfl ?_
    obtain ⟨h35, hf⟩ := hf
    obtain ⟨h36, hf⟩ := hf
    refine V_cald h35.1 h35.s h36 dX9_advance_18 ?_
    refine V_bipush (v := (32 : Int32)) dX9_advance_19 (by decide) ?_
    refine V_icmp_eq (tgt := 35) dX9_advance_21 (by decide) (fun h42 => ?_) (fun h42 => ?_)
    · have hf := it_t h42 hf
      exact vX9_advance_J35 hn hk5 hf
    · have hf := it_f h42 hf
      refine V_aload_n (j := 0) dX9_advance_24 rfl rfl ?_
      obtain ⟨t38, et38, hf⟩ := hf
      refine V_getR fl_X9_11 rfl h3.1 h3.2 et38 dX9_advance_25 ?_
      refine V_iload_n (j := 1) dX9_advance_28 rfl rfl ?_
      obtain ⟨h39, hf⟩ := hf
      obtain ⟨h40, hf⟩ := hf
      refine V_cald h39.1 h39.s h40 dX9_advance_29 ?_
      refine V_bipush (v := (10 : Int32)) dX9_advance_30 (by decide) ?_
      refine V_icmp_ne (tgt := 41) dX9_advance_32 (by decide) (fun h41 => ?_) (fun h41 => ?_)
      · have hf := it_f h41 hf
        exact vX9_advance_J41 hn hf
      · have hf := it_t (Classical.not_not.mp h41) hf
        exact vX9_advance_J35 hn hk5 hf
set_option maxRecDepth 100000 in
set_option maxHeartbeats 4000000 in
theorem vX9_advance_L5 {E : gE} {n : Nat} {sh : Nat → Nat × Nat} {P : gS → Prop} (hn : gOK E n) : ∀ (N : Nat) (a0 : Nat) (x1 : Int32) (z : gS), wX9_advance_L5 n sh P N a0 x1 z → V E (gR 5 0) gyX9_advance 0 0 5 [(0, .ref a0), (1, .int x1)] [] n sh z (kN n sh P) := by
  intro N
  induction N with
  | zero => intro a0 x1 z hf; exact False.elim hf
  | succ N ih => intro a0 x1 z hf; exact vX9_advance_B5 hn ih hf
def wX9_advance (n : Nat) (sh : Nat → Nat × Nat) (a0 : Nat) (z : gS) (P : gS → Prop) : Prop := (oO n sh a0 5) ∧ (∀ v2 : Int32, v2 = (gi z a0 4) → ((∃ N, wX9_advance_L5 n sh P N a0 v2 z)))
set_option maxRecDepth 100000 in
set_option maxHeartbeats 4000000 in
theorem ctX9_advance {E : gE} {n : Nat} {sh : Nat → Nat × Nat} {a0 : Nat} {z : gS} {P : gS → Prop} (hn : gOK E n) (hf : wX9_advance n sh a0 z P) : VM E 5 0 gyX9_advance [.ref a0] n sh z (kN n sh P) := by
  unfold wX9_advance at hf
  refine VM.of (by decide +kernel) (Nat.le_of_ble_eq_true rfl) (fun _ _ _ h => h.2.2) ?_
  show V E (gR 5 0) gyX9_advance 0 0 0 [(0, .ref a0)] [] n sh z (kN n sh P)
  refine V_aload_n (j := 0) dX9_advance_0 rfl rfl ?_
  obtain ⟨h1, hf⟩ := hf
  refine V_getI fl_X9_25 rfl h1.1 h1.2 dX9_advance_1 ?_
  refine V_nI (fun v2 ev2 => ?_)
  have hf := hf v2 ev2
  refine V_istore_n (ls2 := [(1, .int v2), (0, .ref a0)]) dX9_advance_4 rfl (by decide) rfl ?_
  obtain ⟨N, hf⟩ := hf
  refine V_to [1, 0] rfl ?_
  exact vX9_advance_L5 hn N _ _ _ hf
def wX9_rewind (n : Nat) (sh : Nat → Nat × Nat) (a0 : Nat) (z : gS) (P : gS → Prop) : Prop := (oO n sh a0 5) ∧ (∀ z2 : gS, z2 = si z a0 4 (0 : Int32) → (∀ z3 : gS, z3 = si z2 a0 8 (0 : Int32) → (wX9_advance n sh a0 z3 (fun (z5 : gS) => P z5))))
set_option maxRecDepth 100000 in
set_option maxHeartbeats 4000000 in
theorem ctX9_rewind {E : gE} {n : Nat} {sh : Nat → Nat × Nat} {a0 : Nat} {z : gS} {P : gS → Prop} (hn : gOK E n) (hf : wX9_rewind n sh a0 z P) : VM E 6 0 gyX9_rewind [.ref a0] n sh z (kN n sh P) := by
  unfold wX9_rewind at hf
  refine VM.of (by decide +kernel) (Nat.le_of_ble_eq_true rfl) (fun _ _ _ h => h.2.2) ?_
  show V E (gR 6 0) gyX9_rewind 0 0 0 [(0, .ref a0)] [] n sh z (kN n sh P)
  refine V_aload_n (j := 0) dX9_rewind_0 rfl rfl ?_
  refine V_iconst (v := (0 : Int32)) dX9_rewind_1 (by decide) ?_
  obtain ⟨h1, hf⟩ := hf
  refine V_putI fl_X9_25 rfl rfl rfl rfl h1.1 h1.2 dX9_rewind_2 ?_
  refine V_nz (fun z2 ez2 => ?_)
  have hf := hf z2 ez2
  refine V_aload_n (j := 0) dX9_rewind_5 rfl rfl ?_
  refine V_iconst (v := (0 : Int32)) dX9_rewind_6 (by decide) ?_
  refine V_putI fl_X9_38 rfl rfl rfl rfl h1.1 h1.2 dX9_rewind_7 ?_
  refine V_nz (fun z3 ez3 => ?_)
  have hf := hf z3 ez3
  refine V_aload_n (j := 0) dX9_rewind_10 rfl rfl ?_
  refine V_cVN (ctX9_advance hn hf) gc_X9_41 rfl h1.1 ⟨_, h1.2, by decide, rfl⟩ ⟨by decide, by decide, Nat.zero_le _, Nat.zero_le _⟩ (Nat.le_of_ble_eq_true rfl) dX9_rewind_11 rfl hn (fun z5 hf => ?_)
  exact V_return dX9_rewind_14 rfl (Nat.le_refl 0) (kN_of hf)
def wX9_isAtEnd (n : Nat) (sh : Nat → Nat × Nat) (a0 : Nat) (z : gS) (P : Int32 → gS → Prop) : Prop := (oO n sh a0 5) ∧ (if (gi z a0 2) = 0 then P (1 : Int32) z else P (0 : Int32) z)
set_option maxRecDepth 100000 in
set_option maxHeartbeats 4000000 in
theorem ctX9_isAtEnd {E : gE} {n : Nat} {sh : Nat → Nat × Nat} {a0 : Nat} {z : gS} {P : Int32 → gS → Prop} (hn : gOK E n) (hf : wX9_isAtEnd n sh a0 z P) : VM E 0 0 gyX9_isAtEnd [.ref a0] n sh z (kI n sh P) := by
  unfold wX9_isAtEnd at hf
  refine VM.of (by decide +kernel) (Nat.le_of_ble_eq_true rfl) (fun _ _ _ h => h.2.2) ?_
  show V E (gR 0 0) gyX9_isAtEnd 0 0 0 [(0, .ref a0)] [] n sh z (kI n sh P)
  refine V_aload_n (j := 0) dX9_isAtEnd_0 rfl rfl ?_
  obtain ⟨h1, hf⟩ := hf
  refine V_getI fl_X9_19 rfl h1.1 h1.2 dX9_isAtEnd_1 ?_
  refine V_if_ne (tgt := 11) dX9_isAtEnd_4 (by decide) (fun h2 => ?_) (fun h2 => ?_)
  · have hf := it_f h2 hf
    refine V_iconst (v := (0 : Int32)) dX9_isAtEnd_11 (by decide) ?_
    exact V_ireturn dX9_isAtEnd_12 rfl (by decide) (Nat.le_refl 0) (kI_of hf)
  · have hf := it_t (Classical.not_not.mp h2) hf
    refine V_iconst (v := (1 : Int32)) dX9_isAtEnd_7 (by decide) ?_
    refine V_goto (tgt := 12) dX9_isAtEnd_8 (by decide) ?_
    exact V_ireturn dX9_isAtEnd_12 rfl (by decide) (Nat.le_refl 0) (kI_of hf)
def wX9_isWrong (n : Nat) (sh : Nat → Nat × Nat) (a0 : Nat) (x1 : Int32) (z : gS) (P : Int32 → gS → Prop) : Prop := (oO n sh a0 5) ∧ (∀ z2 : gS, z2 = si z a0 8 (x1 + ((16 : Int32) * (gi z a0 3))) → P (0 : Int32) z2)
set_option maxRecDepth 100000 in
set_option maxHeartbeats 4000000 in
theorem ctX9_isWrong {E : gE} {n : Nat} {sh : Nat → Nat × Nat} {a0 : Nat} {x1 : Int32} {z : gS} {P : Int32 → gS → Prop} (hn : gOK E n) (hf : wX9_isWrong n sh a0 x1 z P) : VM E 0 0 gyX9_isWrong [.ref a0, .int x1] n sh z (kI n sh P) := by
  unfold wX9_isWrong at hf
  refine VM.of (by decide +kernel) (Nat.le_of_ble_eq_true rfl) (fun _ _ _ h => h.2.2) ?_
  show V E (gR 0 0) gyX9_isWrong 0 0 0 [(0, .ref a0), (1, .int x1)] [] n sh z (kI n sh P)
  refine V_aload_n (j := 0) dX9_isWrong_0 rfl rfl ?_
  refine V_iload_n (j := 1) dX9_isWrong_1 rfl rfl ?_
  refine V_bipush (v := (16 : Int32)) dX9_isWrong_2 (by decide) ?_
  refine V_aload_n (j := 0) dX9_isWrong_4 rfl rfl ?_
  obtain ⟨h1, hf⟩ := hf
  refine V_getI fl_X9_22 rfl h1.1 h1.2 dX9_isWrong_5 ?_
  refine V_imul dX9_isWrong_8 ?_
  refine V_iadd dX9_isWrong_9 ?_
  refine V_putI fl_X9_38 rfl rfl rfl rfl h1.1 h1.2 dX9_isWrong_10 ?_
  refine V_nz (fun z2 ez2 => ?_)
  have hf := hf z2 ez2
  refine V_iconst (v := (0 : Int32)) dX9_isWrong_13 (by decide) ?_
  exact V_ireturn dX9_isWrong_14 rfl (by decide) (Nat.le_refl 0) (kI_of hf)
def wX9_isName (n : Nat) (sh : Nat → Nat × Nat) (a0 : Nat) (z : gS) (P : Int32 → gS → Prop) : Prop := (oO n sh a0 5) ∧ (if (gi z a0 2) = (2 : Int32) then (if (gi z a0 7) = (-1 : Int32) then P (1 : Int32) z else P (0 : Int32) z) else P (0 : Int32) z)
set_option maxRecDepth 100000 in
set_option maxHeartbeats 4000000 in
theorem ctX9_isName {E : gE} {n : Nat} {sh : Nat → Nat × Nat} {a0 : Nat} {z : gS} {P : Int32 → gS → Prop} (hn : gOK E n) (hf : wX9_isName n sh a0 z P) : VM E 0 0 gyX9_isName [.ref a0] n sh z (kI n sh P) := by
  unfold wX9_isName at hf
  refine VM.of (by decide +kernel) (Nat.le_of_ble_eq_true rfl) (fun _ _ _ h => h.2.2) ?_
  show V E (gR 0 0) gyX9_isName 0 0 0 [(0, .ref a0)] [] n sh z (kI n sh P)
  refine V_aload_n (j := 0) dX9_isName_0 rfl rfl ?_
  obtain ⟨h1, hf⟩ := hf
  refine V_getI fl_X9_19 rfl h1.1 h1.2 dX9_isName_1 ?_
  refine V_iconst (v := (2 : Int32)) dX9_isName_4 (by decide) ?_
  refine V_icmp_ne (tgt := 20) dX9_isName_5 (by decide) (fun h3 => ?_) (fun h3 => ?_)
  · have hf := it_f h3 hf
    refine V_iconst (v := (0 : Int32)) dX9_isName_20 (by decide) ?_
    exact V_ireturn dX9_isName_21 rfl (by decide) (Nat.le_refl 0) (kI_of hf)
  · have hf := it_t (Classical.not_not.mp h3) hf
    refine V_aload_n (j := 0) dX9_isName_8 rfl rfl ?_
    refine V_getI fl_X9_35 rfl h1.1 h1.2 dX9_isName_9 ?_
    refine V_iconst (v := (-1 : Int32)) dX9_isName_12 (by decide) ?_
    refine V_icmp_ne (tgt := 20) dX9_isName_13 (by decide) (fun h2 => ?_) (fun h2 => ?_)
    · have hf := it_f h2 hf
      refine V_iconst (v := (0 : Int32)) dX9_isName_20 (by decide) ?_
      exact V_ireturn dX9_isName_21 rfl (by decide) (Nat.le_refl 0) (kI_of hf)
    · have hf := it_t (Classical.not_not.mp h2) hf
      refine V_iconst (v := (1 : Int32)) dX9_isName_16 (by decide) ?_
      refine V_goto (tgt := 21) dX9_isName_17 (by decide) ?_
      exact V_ireturn dX9_isName_21 rfl (by decide) (Nat.le_refl 0) (kI_of hf)
def wX7_placeOf_B3 (n : Nat) (sh : Nat → Nat × Nat) (k3 : Nat → Int32 → Int64 → Int32 → gS → Prop) (P : Int32 → gS → Prop) (a0 : Nat) (x1 : Int32) (y2 : Int64) (x4 : Int32) (z : gS) : Prop := if x1 ≤ x4 then P (-1 : Int32) z else ((oA n sh a0 2) ∧ (if (Int32.ofNat (sh a0).2) ≤ x4 then P (-1 : Int32) z else ((vp_in x4 (sh a0).2) ∧ (if (lg_cmp (gl z a0 x4.toNatClampNeg) y2) = 0 then P x4 z else (∀ v3 : Int32, v3 = x4 + (1 : Int32) → k3 a0 x1 y2 v3 z)))))
def wX7_placeOf_L3 (n : Nat) (sh : Nat → Nat × Nat) (P : Int32 → gS → Prop) : Nat → Nat → Int32 → Int64 → Int32 → gS → Prop
  | 0, _, _, _, _, _ => False
  | N + 1, a0, x1, y2, x4, z => wX7_placeOf_B3 n sh (wX7_placeOf_L3 n sh P N) P a0 x1 y2 x4 z
set_option maxRecDepth 100000 in
set_option maxHeartbeats 4000000 in
theorem vX7_placeOf_B3 {E : gE} {n : Nat} {sh : Nat → Nat × Nat} {P : Int32 → gS → Prop} {k3 : Nat → Int32 → Int64 → Int32 → gS → Prop} {a0 : Nat} {x1 : Int32} {y2 : Int64} {x4 : Int32} {z : gS} (hn : gOK E n) (hk3 : ∀ (a0 : Nat) (x1 : Int32) (y2 : Int64) (x4 : Int32) (z : gS), k3 a0 x1 y2 x4 z → V E (gR 0 0) gyX7_placeOf 0 0 3 [(0, .ref a0), (1, .int x1), (2, .long y2), (4, .int x4)] [] n sh z (kI n sh P)) (hf : wX7_placeOf_B3 n sh k3 P a0 x1 y2 x4 z) : V E (gR 0 0) gyX7_placeOf 0 0 3 [(0, .ref a0), (1, .int x1), (2, .long y2), (4, .int x4)] [] n sh z (kI n sh P) := by
  unfold wX7_placeOf_B3 at hf
  refine V_iload (j := 3) dX7_placeOf_3 rfl ?_
  refine V_iload_n (j := 1) dX7_placeOf_5 rfl rfl ?_
  refine V_icmp_ge (tgt := 34) dX7_placeOf_6 (by decide) (fun h6 => ?_) (fun h6 => ?_)
  · have hf := it_t h6 hf
    refine V_iconst (v := (-1 : Int32)) dX7_placeOf_34 (by decide) ?_
    exact V_ireturn dX7_placeOf_35 rfl rfl (Nat.le_refl 0) (kI_of hf)
  · have hf := it_f h6 hf
    refine V_iload (j := 3) dX7_placeOf_9 rfl ?_
    refine V_aload_n (j := 0) dX7_placeOf_11 rfl rfl ?_
    obtain ⟨h1, hf⟩ := hf
    refine V_alen2 h1.1 h1.s dX7_placeOf_12 ?_
    refine V_icmp_ge (tgt := 34) dX7_placeOf_13 (by decide) (fun h5 => ?_) (fun h5 => ?_)
    · have hf := it_t h5 hf
      refine V_iconst (v := (-1 : Int32)) dX7_placeOf_34 (by decide) ?_
      exact V_ireturn dX7_placeOf_35 rfl rfl (Nat.le_refl 0) (kI_of hf)
    · have hf := it_f h5 hf
      refine V_aload_n (j := 0) dX7_placeOf_16 rfl rfl ?_
      refine V_iload (j := 3) dX7_placeOf_17 rfl ?_
      obtain ⟨h2, hf⟩ := hf
      refine V_lald h1.1 h1.s h2 dX7_placeOf_19 ?_
      refine V_lload_n (j := 2) dX7_placeOf_20 rfl rfl ?_
      refine V_lcmp dX7_placeOf_21 ?_
      refine V_if_ne (tgt := 28) dX7_placeOf_22 (by decide) (fun h4 => ?_) (fun h4 => ?_)
      · have hf := it_f h4 hf
        obtain ⟨v3, ev3⟩ : ∃ y : Int32, y = x4 + (1 : Int32) := ⟨_, rfl⟩
        refine V_iinc (j := 3) (v := v3) (ls2 := [(4, .int v3), (0, .ref a0), (1, .int x1), (2, .long y2)]) dX7_placeOf_28 rfl (by rw [ev3]; rfl) (by decide) rfl ?_
        have hf := hf v3 ev3
        refine V_goto (tgt := 3) dX7_placeOf_31 (by decide) ?_
        refine V_to [1, 2, 3, 0] rfl ?_
        exact hk3 _ _ _ _ _ hf
      · have hf := it_t (Classical.not_not.mp h4) hf
        refine V_iload (j := 3) dX7_placeOf_25 rfl ?_
        exact V_ireturn dX7_placeOf_27 rfl rfl (Nat.le_refl 0) (kI_of hf)
set_option maxRecDepth 100000 in
set_option maxHeartbeats 4000000 in
theorem vX7_placeOf_L3 {E : gE} {n : Nat} {sh : Nat → Nat × Nat} {P : Int32 → gS → Prop} (hn : gOK E n) : ∀ (N : Nat) (a0 : Nat) (x1 : Int32) (y2 : Int64) (x4 : Int32) (z : gS), wX7_placeOf_L3 n sh P N a0 x1 y2 x4 z → V E (gR 0 0) gyX7_placeOf 0 0 3 [(0, .ref a0), (1, .int x1), (2, .long y2), (4, .int x4)] [] n sh z (kI n sh P) := by
  intro N
  induction N with
  | zero => intro a0 x1 y2 x4 z hf; exact False.elim hf
  | succ N ih => intro a0 x1 y2 x4 z hf; exact vX7_placeOf_B3 hn ih hf
def wX7_placeOf (n : Nat) (sh : Nat → Nat × Nat) (a0 : Nat) (x1 : Int32) (y2 : Int64) (z : gS) (P : Int32 → gS → Prop) : Prop := (∃ N, wX7_placeOf_L3 n sh P N a0 x1 y2 (0 : Int32) z)
set_option maxRecDepth 100000 in
set_option maxHeartbeats 4000000 in
theorem ctX7_placeOf {E : gE} {n : Nat} {sh : Nat → Nat × Nat} {a0 : Nat} {x1 : Int32} {y2 : Int64} {z : gS} {P : Int32 → gS → Prop} (hn : gOK E n) (hf : wX7_placeOf n sh a0 x1 y2 z P) : VM E 0 0 gyX7_placeOf [.ref a0, .int x1, .long y2] n sh z (kI n sh P) := by
  unfold wX7_placeOf at hf
  refine VM.of (by decide +kernel) (Nat.le_of_ble_eq_true rfl) (fun _ _ _ h => h.2.2) ?_
  show V E (gR 0 0) gyX7_placeOf 0 0 0 [(0, .ref a0), (1, .int x1), (2, .long y2)] [] n sh z (kI n sh P)
  refine V_iconst (v := (0 : Int32)) dX7_placeOf_0 (by decide) ?_
  refine V_istore (ls2 := [(4, .int (0 : Int32)), (0, .ref a0), (1, .int x1), (2, .long y2)]) dX7_placeOf_1 (by decide) rfl ?_
  obtain ⟨N, hf⟩ := hf
  refine V_to [1, 2, 3, 0] rfl ?_
  exact vX7_placeOf_L3 hn N _ _ _ _ _ hf
def wX7_isTold_J48 (n : Nat) (sh : Nat → Nat × Nat) (P : Int32 → gS → Prop) (z : gS) : Prop := P (1 : Int32) z
set_option maxRecDepth 100000 in
set_option maxHeartbeats 4000000 in
theorem vX7_isTold_J48 {E : gE} {n : Nat} {sh : Nat → Nat × Nat} {P : Int32 → gS → Prop} {z : gS} (hn : gOK E n) (hf : wX7_isTold_J48 n sh P z) : V E (gR 1 0) gyX7_isTold 0 0 48 [] [] n sh z (kI n sh P) := by
  unfold wX7_isTold_J48 at hf
  refine V_iconst (v := (1 : Int32)) dX7_isTold_48 (by decide) ?_
  refine V_goto (tgt := 53) dX7_isTold_49 (by decide) ?_
  exact V_ireturn dX7_isTold_53 rfl (by decide) (Nat.le_refl 0) (kI_of hf)
def wX7_isTold (n : Nat) (sh : Nat → Nat × Nat) (a0 : Nat) (y1 : Int64) (z : gS) (P : Int32 → gS → Prop) : Prop := (oO n sh a0 4) ∧ (∃ t2 : Nat, gr z a0 7 = some t2 ∧ (wX7_placeOf n sh t2 (gi z a0 10) y1 z (fun (r3 : Int32) (z4 : gS) => if r3 = (-1 : Int32) then (∃ t5 : Nat, gr z4 a0 8 = some t5 ∧ (wX7_placeOf n sh t5 (gi z4 a0 11) y1 z4 (fun (r6 : Int32) (z7 : gS) => if r6 = (-1 : Int32) then (∃ t8 : Nat, gr z7 a0 9 = some t8 ∧ (wX7_placeOf n sh t8 (gi z7 a0 12) y1 z7 (fun (r9 : Int32) (z10 : gS) => if r9 = (-1 : Int32) then P (0 : Int32) z10 else wX7_isTold_J48 n sh P  z10))) else wX7_isTold_J48 n sh P  z7))) else wX7_isTold_J48 n sh P  z4)))
set_option maxRecDepth 100000 in
set_option maxHeartbeats 4000000 in
theorem ctX7_isTold {E : gE} {n : Nat} {sh : Nat → Nat × Nat} {a0 : Nat} {y1 : Int64} {z : gS} {P : Int32 → gS → Prop} (hn : gOK E n) (hf : wX7_isTold n sh a0 y1 z P) : VM E 1 0 gyX7_isTold [.ref a0, .long y1] n sh z (kI n sh P) := by
  unfold wX7_isTold at hf
  refine VM.of (by decide +kernel) (Nat.le_of_ble_eq_true rfl) (fun _ _ _ h => h.2.2) ?_
  show V E (gR 1 0) gyX7_isTold 0 0 0 [(0, .ref a0), (1, .long y1)] [] n sh z (kI n sh P)
  refine V_aload_n (j := 0) dX7_isTold_0 rfl rfl ?_
  obtain ⟨h1, hf⟩ := hf
  obtain ⟨t2, et2, hf⟩ := hf
  refine V_getR fl_X7_37 rfl h1.1 h1.2 et2 dX7_isTold_1 ?_
  refine V_aload_n (j := 0) dX7_isTold_4 rfl rfl ?_
  refine V_getI fl_X7_47 rfl h1.1 h1.2 dX7_isTold_5 ?_
  refine V_lload_n (j := 1) dX7_isTold_8 rfl rfl ?_
  refine V_cSI (ctX7_placeOf hn hf) gc_X7_63 rfl ⟨by decide, by decide, Nat.zero_le _, Nat.zero_le _⟩ (Nat.le_of_ble_eq_true rfl) dX7_isTold_9 rfl hn (fun r3 z4 hf => ?_)
  refine V_iconst (v := (-1 : Int32)) dX7_isTold_12 (by decide) ?_
  refine V_icmp_ne (tgt := 48) dX7_isTold_13 (by decide) (fun h13 => ?_) (fun h13 => ?_)
  · have hf := it_f h13 hf
    refine V_to [] rfl ?_
    exact vX7_isTold_J48 hn hf
  · have hf := it_t (Classical.not_not.mp h13) hf
    refine V_aload_n (j := 0) dX7_isTold_16 rfl rfl ?_
    obtain ⟨t5, et5, hf⟩ := hf
    refine V_getR fl_X7_41 rfl h1.1 h1.2 et5 dX7_isTold_17 ?_
    refine V_aload_n (j := 0) dX7_isTold_20 rfl rfl ?_
    refine V_getI fl_X7_51 rfl h1.1 h1.2 dX7_isTold_21 ?_
    refine V_lload_n (j := 1) dX7_isTold_24 rfl rfl ?_
    refine V_cSI (ctX7_placeOf hn hf) gc_X7_63 rfl ⟨by decide, by decide, Nat.zero_le _, Nat.zero_le _⟩ (Nat.le_of_ble_eq_true rfl) dX7_isTold_25 rfl hn (fun r6 z7 hf => ?_)
    refine V_iconst (v := (-1 : Int32)) dX7_isTold_28 (by decide) ?_
    refine V_icmp_ne (tgt := 48) dX7_isTold_29 (by decide) (fun h12 => ?_) (fun h12 => ?_)
    · have hf := it_f h12 hf
      refine V_to [] rfl ?_
      exact vX7_isTold_J48 hn hf
    · have hf := it_t (Classical.not_not.mp h12) hf
      refine V_aload_n (j := 0) dX7_isTold_32 rfl rfl ?_
      obtain ⟨t8, et8, hf⟩ := hf
      refine V_getR fl_X7_44 rfl h1.1 h1.2 et8 dX7_isTold_33 ?_
      refine V_aload_n (j := 0) dX7_isTold_36 rfl rfl ?_
      refine V_getI fl_X7_54 rfl h1.1 h1.2 dX7_isTold_37 ?_
      refine V_lload_n (j := 1) dX7_isTold_40 rfl rfl ?_
      refine V_cSI (ctX7_placeOf hn hf) gc_X7_63 rfl ⟨by decide, by decide, Nat.zero_le _, Nat.zero_le _⟩ (Nat.le_of_ble_eq_true rfl) dX7_isTold_41 rfl hn (fun r9 z10 hf => ?_)
      refine V_iconst (v := (-1 : Int32)) dX7_isTold_44 (by decide) ?_
      refine V_icmp_eq (tgt := 52) dX7_isTold_45 (by decide) (fun h11 => ?_) (fun h11 => ?_)
      · have hf := it_t h11 hf
        refine V_iconst (v := (0 : Int32)) dX7_isTold_52 (by decide) ?_
        exact V_ireturn dX7_isTold_53 rfl (by decide) (Nat.le_refl 0) (kI_of hf)
      · have hf := it_f h11 hf
        refine V_to [] rfl ?_
        exact vX7_isTold_J48 hn hf
def wX8_hasNewName_J32 (n : Nat) (sh : Nat → Nat × Nat) (P : Int32 → gS → Prop) (z : gS) : Prop := P (1 : Int32) z
set_option maxRecDepth 100000 in
set_option maxHeartbeats 4000000 in
theorem vX8_hasNewName_J32 {E : gE} {n : Nat} {sh : Nat → Nat × Nat} {P : Int32 → gS → Prop} {z : gS} (hn : gOK E n) (hf : wX8_hasNewName_J32 n sh P z) : V E (gR 2 0) gyX8_hasNewName 0 0 32 [] [] n sh z (kI n sh P) := by
  unfold wX8_hasNewName_J32 at hf
  refine V_iconst (v := (1 : Int32)) dX8_hasNewName_32 (by decide) ?_
  refine V_goto (tgt := 37) dX8_hasNewName_33 (by decide) ?_
  exact V_ireturn dX8_hasNewName_37 rfl (by decide) (Nat.le_refl 0) (kI_of hf)
def wX8_hasNewName (n : Nat) (sh : Nat → Nat × Nat) (a0 : Nat) (a1 : Nat) (z : gS) (P : Int32 → gS → Prop) : Prop := (oO n sh a0 5) ∧ (wX9_isName n sh a0 z (fun (r1 : Int32) (z2 : gS) => if r1 = 0 then (wX9_isWrong n sh a0 (1 : Int32) z2 (fun (r11 : Int32) (z12 : gS) => (bo r11) ∧ P r11 z12)) else ((oO n sh a1 4) ∧ (wX7_isTold n sh a1 (gl z2 a0 6) z2 (fun (r4 : Int32) (z5 : gS) => if r4 = 0 then wX8_hasNewName_J32 n sh P  z5 else (wX9_isWrong n sh a0 (3 : Int32) z5 (fun (r7 : Int32) (z8 : gS) => if r7 = 0 then P (0 : Int32) z8 else wX8_hasNewName_J32 n sh P  z8)))))))
set_option maxRecDepth 100000 in
set_option maxHeartbeats 4000000 in
theorem ctX8_hasNewName {E : gE} {n : Nat} {sh : Nat → Nat × Nat} {a0 : Nat} {a1 : Nat} {z : gS} {P : Int32 → gS → Prop} (hn : gOK E n) (hf : wX8_hasNewName n sh a0 a1 z P) : VM E 2 0 gyX8_hasNewName [.ref a0, .ref a1] n sh z (kI n sh P) := by
  unfold wX8_hasNewName at hf
  refine VM.of (by decide +kernel) (Nat.le_of_ble_eq_true rfl) (fun _ _ _ h => h.2.2) ?_
  show V E (gR 2 0) gyX8_hasNewName 0 0 0 [(0, .ref a0), (1, .ref a1)] [] n sh z (kI n sh P)
  refine V_aload_n (j := 0) dX8_hasNewName_0 rfl rfl ?_
  obtain ⟨h3, hf⟩ := hf
  refine V_cVI (ctX9_isName hn hf) gc_X8_141 rfl h3.1 ⟨_, h3.2, by decide, rfl⟩ ⟨by decide, by decide, Nat.zero_le _, Nat.zero_le _⟩ (Nat.le_of_ble_eq_true rfl) dX8_hasNewName_1 rfl hn (fun r1 z2 hf => ?_)
  refine V_if_ne (tgt := 13) dX8_hasNewName_4 (by decide) (fun h13 => ?_) (fun h13 => ?_)
  · have hf := it_f h13 hf
    refine V_aload_n (j := 1) dX8_hasNewName_13 rfl rfl ?_
    refine V_aload_n (j := 0) dX8_hasNewName_14 rfl rfl ?_
    refine V_getL fl_X8_69 rfl h3.1 h3.2 dX8_hasNewName_15 ?_
    obtain ⟨h6, hf⟩ := hf
    refine V_cVI (ctX7_isTold hn hf) gc_X8_144 rfl h6.1 ⟨_, h6.2, by decide, rfl⟩ ⟨by decide, by decide, Nat.zero_le _, Nat.zero_le _⟩ (Nat.le_of_ble_eq_true rfl) dX8_hasNewName_18 rfl hn (fun r4 z5 hf => ?_)
    refine V_if_eq (tgt := 32) dX8_hasNewName_21 (by decide) (fun h10 => ?_) (fun h10 => ?_)
    · have hf := it_t h10 hf
      refine V_to [] rfl ?_
      exact vX8_hasNewName_J32 hn hf
    · have hf := it_f h10 hf
      refine V_aload_n (j := 0) dX8_hasNewName_24 rfl rfl ?_
      refine V_iconst (v := (3 : Int32)) dX8_hasNewName_25 (by decide) ?_
      refine V_cVI (ctX9_isWrong hn hf) gc_X8_52 rfl h3.1 ⟨_, h3.2, by decide, rfl⟩ ⟨by decide, by decide, Nat.zero_le _, Nat.zero_le _⟩ (Nat.le_of_ble_eq_true rfl) dX8_hasNewName_26 rfl hn (fun r7 z8 hf => ?_)
      refine V_if_eq (tgt := 36) dX8_hasNewName_29 (by decide) (fun h9 => ?_) (fun h9 => ?_)
      · have hf := it_t h9 hf
        refine V_iconst (v := (0 : Int32)) dX8_hasNewName_36 (by decide) ?_
        exact V_ireturn dX8_hasNewName_37 rfl (by decide) (Nat.le_refl 0) (kI_of hf)
      · have hf := it_f h9 hf
        refine V_to [] rfl ?_
        exact vX8_hasNewName_J32 hn hf
  · have hf := it_t (Classical.not_not.mp h13) hf
    refine V_aload_n (j := 0) dX8_hasNewName_7 rfl rfl ?_
    refine V_iconst (v := (1 : Int32)) dX8_hasNewName_8 (by decide) ?_
    refine V_cVI (ctX9_isWrong hn hf) gc_X8_52 rfl h3.1 ⟨_, h3.2, by decide, rfl⟩ ⟨by decide, by decide, Nat.zero_le _, Nat.zero_le _⟩ (Nat.le_of_ble_eq_true rfl) dX8_hasNewName_9 rfl hn (fun r11 z12 hf => ?_)
    exact V_ireturn dX8_hasNewName_12 rfl hf.1 (Nat.le_refl 0) (kI_of hf.2)
def wX9_takesWord (n : Nat) (sh : Nat → Nat × Nat) (a0 : Nat) (x1 : Int32) (z : gS) (P : Int32 → gS → Prop) : Prop := (oO n sh a0 5) ∧ (if (gi z a0 7) = x1 then (wX9_advance n sh a0 z (fun (z3 : gS) => P (1 : Int32) z3)) else (wX9_isWrong n sh a0 (1 : Int32) z (fun (r4 : Int32) (z5 : gS) => (bo r4) ∧ P r4 z5)))
set_option maxRecDepth 100000 in
set_option maxHeartbeats 4000000 in
theorem ctX9_takesWord {E : gE} {n : Nat} {sh : Nat → Nat × Nat} {a0 : Nat} {x1 : Int32} {z : gS} {P : Int32 → gS → Prop} (hn : gOK E n) (hf : wX9_takesWord n sh a0 x1 z P) : VM E 6 0 gyX9_takesWord [.ref a0, .int x1] n sh z (kI n sh P) := by
  unfold wX9_takesWord at hf
  refine VM.of (by decide +kernel) (Nat.le_of_ble_eq_true rfl) (fun _ _ _ h => h.2.2) ?_
  show V E (gR 6 0) gyX9_takesWord 0 0 0 [(0, .ref a0), (1, .int x1)] [] n sh z (kI n sh P)
  refine V_aload_n (j := 0) dX9_takesWord_0 rfl rfl ?_
  obtain ⟨h1, hf⟩ := hf
  refine V_getI fl_X9_35 rfl h1.1 h1.2 dX9_takesWord_1 ?_
  refine V_iload_n (j := 1) dX9_takesWord_4 rfl rfl ?_
  refine V_icmp_eq (tgt := 14) dX9_takesWord_5 (by decide) (fun h6 => ?_) (fun h6 => ?_)
  · have hf := it_t h6 hf
    refine V_aload_n (j := 0) dX9_takesWord_14 rfl rfl ?_
    refine V_cVN (ctX9_advance hn hf) gc_X9_41 rfl h1.1 ⟨_, h1.2, by decide, rfl⟩ ⟨by decide, by decide, Nat.zero_le _, Nat.zero_le _⟩ (Nat.le_of_ble_eq_true rfl) dX9_takesWord_15 rfl hn (fun z3 hf => ?_)
    refine V_iconst (v := (1 : Int32)) dX9_takesWord_18 (by decide) ?_
    exact V_ireturn dX9_takesWord_19 rfl (by decide) (Nat.le_refl 0) (kI_of hf)
  · have hf := it_f h6 hf
    refine V_aload_n (j := 0) dX9_takesWord_8 rfl rfl ?_
    refine V_iconst (v := (1 : Int32)) dX9_takesWord_9 (by decide) ?_
    refine V_cVI (ctX9_isWrong hn hf) gc_X9_73 rfl h1.1 ⟨_, h1.2, by decide, rfl⟩ ⟨by decide, by decide, Nat.zero_le _, Nat.zero_le _⟩ (Nat.le_of_ble_eq_true rfl) dX9_takesWord_10 rfl hn (fun r4 z5 hf => ?_)
    exact V_ireturn dX9_takesWord_13 rfl hf.1 (Nat.le_refl 0) (kI_of hf.2)
def wX9_hasNumber_J38 (n : Nat) (sh : Nat → Nat × Nat) (P : Int32 → gS → Prop) (z : gS) : Prop := P (1 : Int32) z
set_option maxRecDepth 100000 in
set_option maxHeartbeats 4000000 in
theorem vX9_hasNumber_J38 {E : gE} {n : Nat} {sh : Nat → Nat × Nat} {P : Int32 → gS → Prop} {z : gS} (hn : gOK E n) (hf : wX9_hasNumber_J38 n sh P z) : V E (gR 1 0) gyX9_hasNumber 0 0 38 [] [] n sh z (kI n sh P) := by
  unfold wX9_hasNumber_J38 at hf
  refine V_iconst (v := (1 : Int32)) dX9_hasNumber_38 (by decide) ?_
  refine V_goto (tgt := 43) dX9_hasNumber_39 (by decide) ?_
  exact V_ireturn dX9_hasNumber_43 rfl (by decide) (Nat.le_refl 0) (kI_of hf)
def wX9_hasNumber_J30 (n : Nat) (sh : Nat → Nat × Nat) (P : Int32 → gS → Prop) (a0 : Nat) (z : gS) : Prop := (oO n sh a0 5) ∧ (wX9_isWrong n sh a0 (4 : Int32) z (fun (r2 : Int32) (z3 : gS) => if r2 = 0 then P (0 : Int32) z3 else wX9_hasNumber_J38 n sh P  z3))
set_option maxRecDepth 100000 in
set_option maxHeartbeats 4000000 in
theorem vX9_hasNumber_J30 {E : gE} {n : Nat} {sh : Nat → Nat × Nat} {P : Int32 → gS → Prop} {a0 : Nat} {z : gS} (hn : gOK E n) (hf : wX9_hasNumber_J30 n sh P a0 z) : V E (gR 1 0) gyX9_hasNumber 0 0 30 [(0, .ref a0)] [] n sh z (kI n sh P) := by
  unfold wX9_hasNumber_J30 at hf
  refine V_aload_n (j := 0) dX9_hasNumber_30 rfl rfl ?_
  refine V_iconst (v := (4 : Int32)) dX9_hasNumber_31 (by decide) ?_
  obtain ⟨h4, hf⟩ := hf
  refine V_cVI (ctX9_isWrong hn hf) gc_X9_73 rfl h4.1 ⟨_, h4.2, by decide, rfl⟩ ⟨by decide, by decide, Nat.zero_le _, Nat.zero_le _⟩ (Nat.le_of_ble_eq_true rfl) dX9_hasNumber_32 rfl hn (fun r2 z3 hf => ?_)
  refine V_if_eq (tgt := 42) dX9_hasNumber_35 (by decide) (fun h5 => ?_) (fun h5 => ?_)
  · have hf := it_t h5 hf
    refine V_iconst (v := (0 : Int32)) dX9_hasNumber_42 (by decide) ?_
    exact V_ireturn dX9_hasNumber_43 rfl (by decide) (Nat.le_refl 0) (kI_of hf)
  · have hf := it_f h5 hf
    refine V_to [] rfl ?_
    exact vX9_hasNumber_J38 hn hf
def wX9_hasNumber (n : Nat) (sh : Nat → Nat × Nat) (a0 : Nat) (x1 : Int32) (x2 : Int32) (z : gS) (P : Int32 → gS → Prop) : Prop := (oO n sh a0 5) ∧ (if (gi z a0 2) = (3 : Int32) then (if (gi z a0 5) < x1 then wX9_hasNumber_J30 n sh P a0 z else (if (gi z a0 5) ≤ x2 then wX9_hasNumber_J38 n sh P  z else wX9_hasNumber_J30 n sh P a0 z)) else (wX9_isWrong n sh a0 (1 : Int32) z (fun (r8 : Int32) (z9 : gS) => (bo r8) ∧ P r8 z9)))
set_option maxRecDepth 100000 in
set_option maxHeartbeats 4000000 in
theorem ctX9_hasNumber {E : gE} {n : Nat} {sh : Nat → Nat × Nat} {a0 : Nat} {x1 : Int32} {x2 : Int32} {z : gS} {P : Int32 → gS → Prop} (hn : gOK E n) (hf : wX9_hasNumber n sh a0 x1 x2 z P) : VM E 1 0 gyX9_hasNumber [.ref a0, .int x1, .int x2] n sh z (kI n sh P) := by
  unfold wX9_hasNumber at hf
  refine VM.of (by decide +kernel) (Nat.le_of_ble_eq_true rfl) (fun _ _ _ h => h.2.2) ?_
  show V E (gR 1 0) gyX9_hasNumber 0 0 0 [(0, .ref a0), (1, .int x1), (2, .int x2)] [] n sh z (kI n sh P)
  refine V_aload_n (j := 0) dX9_hasNumber_0 rfl rfl ?_
  obtain ⟨h1, hf⟩ := hf
  refine V_getI fl_X9_19 rfl h1.1 h1.2 dX9_hasNumber_1 ?_
  refine V_iconst (v := (3 : Int32)) dX9_hasNumber_4 (by decide) ?_
  refine V_icmp_eq (tgt := 14) dX9_hasNumber_5 (by decide) (fun h10 => ?_) (fun h10 => ?_)
  · have hf := it_t h10 hf
    refine V_aload_n (j := 0) dX9_hasNumber_14 rfl rfl ?_
    refine V_getI fl_X9_28 rfl h1.1 h1.2 dX9_hasNumber_15 ?_
    refine V_iload_n (j := 1) dX9_hasNumber_18 rfl rfl ?_
    refine V_icmp_lt (tgt := 30) dX9_hasNumber_19 (by decide) (fun h7 => ?_) (fun h7 => ?_)
    · have hf := it_t h7 hf
      refine V_to [0] rfl ?_
      exact vX9_hasNumber_J30 hn hf
    · have hf := it_f h7 hf
      refine V_aload_n (j := 0) dX9_hasNumber_22 rfl rfl ?_
      refine V_getI fl_X9_28 rfl h1.1 h1.2 dX9_hasNumber_23 ?_
      refine V_iload_n (j := 2) dX9_hasNumber_26 rfl rfl ?_
      refine V_icmp_le (tgt := 38) dX9_hasNumber_27 (by decide) (fun h6 => ?_) (fun h6 => ?_)
      · have hf := it_t h6 hf
        refine V_to [] rfl ?_
        exact vX9_hasNumber_J38 hn hf
      · have hf := it_f h6 hf
        refine V_to [0] rfl ?_
        exact vX9_hasNumber_J30 hn hf
  · have hf := it_f h10 hf
    refine V_aload_n (j := 0) dX9_hasNumber_8 rfl rfl ?_
    refine V_iconst (v := (1 : Int32)) dX9_hasNumber_9 (by decide) ?_
    refine V_cVI (ctX9_isWrong hn hf) gc_X9_73 rfl h1.1 ⟨_, h1.2, by decide, rfl⟩ ⟨by decide, by decide, Nat.zero_le _, Nat.zero_le _⟩ (Nat.le_of_ble_eq_true rfl) dX9_hasNumber_10 rfl hn (fun r8 z9 hf => ?_)
    exact V_ireturn dX9_hasNumber_13 rfl hf.1 (Nat.le_refl 0) (kI_of hf.2)
def wX9_isNumber (n : Nat) (sh : Nat → Nat × Nat) (a0 : Nat) (z : gS) (P : Int32 → gS → Prop) : Prop := (oO n sh a0 5) ∧ (if (gi z a0 2) = (3 : Int32) then P (1 : Int32) z else P (0 : Int32) z)
set_option maxRecDepth 100000 in
set_option maxHeartbeats 4000000 in
theorem ctX9_isNumber {E : gE} {n : Nat} {sh : Nat → Nat × Nat} {a0 : Nat} {z : gS} {P : Int32 → gS → Prop} (hn : gOK E n) (hf : wX9_isNumber n sh a0 z P) : VM E 0 0 gyX9_isNumber [.ref a0] n sh z (kI n sh P) := by
  unfold wX9_isNumber at hf
  refine VM.of (by decide +kernel) (Nat.le_of_ble_eq_true rfl) (fun _ _ _ h => h.2.2) ?_
  show V E (gR 0 0) gyX9_isNumber 0 0 0 [(0, .ref a0)] [] n sh z (kI n sh P)
  refine V_aload_n (j := 0) dX9_isNumber_0 rfl rfl ?_
  obtain ⟨h1, hf⟩ := hf
  refine V_getI fl_X9_19 rfl h1.1 h1.2 dX9_isNumber_1 ?_
  refine V_iconst (v := (3 : Int32)) dX9_isNumber_4 (by decide) ?_
  refine V_icmp_ne (tgt := 12) dX9_isNumber_5 (by decide) (fun h2 => ?_) (fun h2 => ?_)
  · have hf := it_f h2 hf
    refine V_iconst (v := (0 : Int32)) dX9_isNumber_12 (by decide) ?_
    exact V_ireturn dX9_isNumber_13 rfl (by decide) (Nat.le_refl 0) (kI_of hf)
  · have hf := it_t (Classical.not_not.mp h2) hf
    refine V_iconst (v := (1 : Int32)) dX9_isNumber_8 (by decide) ?_
    refine V_goto (tgt := 13) dX9_isNumber_9 (by decide) ?_
    exact V_ireturn dX9_isNumber_13 rfl (by decide) (Nat.le_refl 0) (kI_of hf)
def wX7_bothWays_J27 (n : Nat) (sh : Nat → Nat × Nat) (k4 : Int32 → Int32 → Int32 → gS → Prop) (P : Int32 → gS → Prop) (x0 : Int32) (x1 : Int32) (x2 : Int32) (z : gS) : Prop := ∀ v1 : Int32, v1 = x2 + (1 : Int32) → k4 x0 x1 v1 z
set_option maxRecDepth 100000 in
set_option maxHeartbeats 4000000 in
theorem vX7_bothWays_J27 {E : gE} {n : Nat} {sh : Nat → Nat × Nat} {P : Int32 → gS → Prop} {k4 : Int32 → Int32 → Int32 → gS → Prop} {x0 : Int32} {x1 : Int32} {x2 : Int32} {z : gS} (hn : gOK E n) (hk4 : ∀ (x0 : Int32) (x1 : Int32) (x2 : Int32) (z : gS), k4 x0 x1 x2 z → V E (gR 0 0) gyX7_bothWays 0 0 4 [(0, .int x0), (1, .int x1), (2, .int x2)] [] n sh z (kI n sh P)) (hf : wX7_bothWays_J27 n sh k4 P x0 x1 x2 z) : V E (gR 0 0) gyX7_bothWays 0 0 27 [(0, .int x0), (1, .int x1), (2, .int x2)] [] n sh z (kI n sh P) := by
  unfold wX7_bothWays_J27 at hf
  obtain ⟨v1, ev1⟩ : ∃ y : Int32, y = x2 + (1 : Int32) := ⟨_, rfl⟩
  refine V_iinc (j := 2) (v := v1) (ls2 := [(2, .int v1), (0, .int x0), (1, .int x1)]) dX7_bothWays_27 rfl (by rw [ev1]; rfl) (by decide) rfl ?_
  have hf := hf v1 ev1
  refine V_goto (tgt := 4) dX7_bothWays_30 (by decide) ?_
  refine V_to [1, 2, 0] rfl ?_
  exact hk4 _ _ _ _ hf
def wX7_bothWays_B4 (n : Nat) (sh : Nat → Nat × Nat) (k4 : Int32 → Int32 → Int32 → gS → Prop) (P : Int32 → gS → Prop) (x0 : Int32) (x1 : Int32) (x2 : Int32) (z : gS) : Prop := if (10 : Int32) ≤ x2 then P x1 z else (if ((x0 >>> (x2 &&& 31)) &&& (1 : Int32)) = 0 then wX7_bothWays_J27 n sh k4 P x0 x1 x2 z else (∀ v2 : Int32, v2 = (x1 ||| ((1 : Int32) <<< (((9 : Int32) - x2) &&& 31))) → wX7_bothWays_J27 n sh k4 P x0 v2 x2 z))
def wX7_bothWays_L4 (n : Nat) (sh : Nat → Nat × Nat) (P : Int32 → gS → Prop) : Nat → Int32 → Int32 → Int32 → gS → Prop
  | 0, _, _, _, _ => False
  | N + 1, x0, x1, x2, z => wX7_bothWays_B4 n sh (wX7_bothWays_L4 n sh P N) P x0 x1 x2 z
set_option maxRecDepth 100000 in
set_option maxHeartbeats 4000000 in
theorem vX7_bothWays_B4 {E : gE} {n : Nat} {sh : Nat → Nat × Nat} {P : Int32 → gS → Prop} {k4 : Int32 → Int32 → Int32 → gS → Prop} {x0 : Int32} {x1 : Int32} {x2 : Int32} {z : gS} (hn : gOK E n) (hk4 : ∀ (x0 : Int32) (x1 : Int32) (x2 : Int32) (z : gS), k4 x0 x1 x2 z → V E (gR 0 0) gyX7_bothWays 0 0 4 [(0, .int x0), (1, .int x1), (2, .int x2)] [] n sh z (kI n sh P)) (hf : wX7_bothWays_B4 n sh k4 P x0 x1 x2 z) : V E (gR 0 0) gyX7_bothWays 0 0 4 [(0, .int x0), (1, .int x1), (2, .int x2)] [] n sh z (kI n sh P) := by
  unfold wX7_bothWays_B4 at hf
  refine V_iload_n (j := 2) dX7_bothWays_4 rfl rfl ?_
  refine V_bipush (v := (10 : Int32)) dX7_bothWays_5 (by decide) ?_
  refine V_icmp_ge (tgt := 33) dX7_bothWays_7 (by decide) (fun h4 => ?_) (fun h4 => ?_)
  · have hf := it_t h4 hf
    refine V_iload_n (j := 1) dX7_bothWays_33 rfl rfl ?_
    exact V_ireturn dX7_bothWays_34 rfl rfl (Nat.le_refl 0) (kI_of hf)
  · have hf := it_f h4 hf
    refine V_iload_n (j := 0) dX7_bothWays_10 rfl rfl ?_
    refine V_iload_n (j := 2) dX7_bothWays_11 rfl rfl ?_
    refine V_ishr dX7_bothWays_12 ?_
    refine V_iconst (v := (1 : Int32)) dX7_bothWays_13 (by decide) ?_
    refine V_iand dX7_bothWays_14 ?_
    refine V_if_eq (tgt := 27) dX7_bothWays_15 (by decide) (fun h3 => ?_) (fun h3 => ?_)
    · have hf := it_t h3 hf
      exact vX7_bothWays_J27 hn hk4 hf
    · have hf := it_f h3 hf
      refine V_iload_n (j := 1) dX7_bothWays_18 rfl rfl ?_
      refine V_iconst (v := (1 : Int32)) dX7_bothWays_19 (by decide) ?_
      refine V_bipush (v := (9 : Int32)) dX7_bothWays_20 (by decide) ?_
      refine V_iload_n (j := 2) dX7_bothWays_22 rfl rfl ?_
      refine V_isub dX7_bothWays_23 ?_
      refine V_ishl dX7_bothWays_24 ?_
      refine V_ior dX7_bothWays_25 ?_
      refine V_nI (fun v2 ev2 => ?_)
      have hf := hf v2 ev2
      refine V_istore_n (ls2 := [(1, .int v2), (0, .int x0), (2, .int x2)]) dX7_bothWays_26 rfl (by decide) rfl ?_
      refine V_to [1, 0, 2] rfl ?_
      exact vX7_bothWays_J27 hn hk4 hf
set_option maxRecDepth 100000 in
set_option maxHeartbeats 4000000 in
theorem vX7_bothWays_L4 {E : gE} {n : Nat} {sh : Nat → Nat × Nat} {P : Int32 → gS → Prop} (hn : gOK E n) : ∀ (N : Nat) (x0 : Int32) (x1 : Int32) (x2 : Int32) (z : gS), wX7_bothWays_L4 n sh P N x0 x1 x2 z → V E (gR 0 0) gyX7_bothWays 0 0 4 [(0, .int x0), (1, .int x1), (2, .int x2)] [] n sh z (kI n sh P) := by
  intro N
  induction N with
  | zero => intro x0 x1 x2 z hf; exact False.elim hf
  | succ N ih => intro x0 x1 x2 z hf; exact vX7_bothWays_B4 hn ih hf
def wX7_bothWays (n : Nat) (sh : Nat → Nat × Nat) (x0 : Int32) (z : gS) (P : Int32 → gS → Prop) : Prop := (∃ N, wX7_bothWays_L4 n sh P N x0 x0 (0 : Int32) z)
set_option maxRecDepth 100000 in
set_option maxHeartbeats 4000000 in
theorem ctX7_bothWays {E : gE} {n : Nat} {sh : Nat → Nat × Nat} {x0 : Int32} {z : gS} {P : Int32 → gS → Prop} (hn : gOK E n) (hf : wX7_bothWays n sh x0 z P) : VM E 0 0 gyX7_bothWays [.int x0] n sh z (kI n sh P) := by
  unfold wX7_bothWays at hf
  refine VM.of (by decide +kernel) (Nat.le_of_ble_eq_true rfl) (fun _ _ _ h => h.2.2) ?_
  show V E (gR 0 0) gyX7_bothWays 0 0 0 [(0, .int x0)] [] n sh z (kI n sh P)
  refine V_iload_n (j := 0) dX7_bothWays_0 rfl rfl ?_
  refine V_istore_n (ls2 := [(1, .int x0), (0, .int x0)]) dX7_bothWays_1 rfl (by decide) rfl ?_
  refine V_iconst (v := (0 : Int32)) dX7_bothWays_2 (by decide) ?_
  refine V_istore_n (ls2 := [(2, .int (0 : Int32)), (1, .int x0), (0, .int x0)]) dX7_bothWays_3 rfl (by decide) rfl ?_
  obtain ⟨N, hf⟩ := hf
  refine V_to [2, 1, 0] rfl ?_
  exact vX7_bothWays_L4 hn N _ _ _ _ hf
def wX8_readsView_J95 (n : Nat) (sh : Nat → Nat × Nat) (P : Int32 → gS → Prop) (s0 : Int32) (s1 : Int32) (s2 : Nat) (z : gS) : Prop := (oA n sh s2 1) ∧ ((vp_in s1 (sh s2).2) ∧ (∀ z8 : gS, z8 = si z s2 s1.toNatClampNeg s0 → P (1 : Int32) z8))
set_option maxRecDepth 100000 in
set_option maxHeartbeats 4000000 in
theorem vX8_readsView_J95 {E : gE} {n : Nat} {sh : Nat → Nat × Nat} {P : Int32 → gS → Prop} {s0 : Int32} {s1 : Int32} {s2 : Nat} {z : gS} (hn : gOK E n) (hf : wX8_readsView_J95 n sh P s0 s1 s2 z) : V E (gR 6 0) gyX8_readsView 0 0 95 [] [.int s0, .int s1, .ref s2] n sh z (kI n sh P) := by
  unfold wX8_readsView_J95 at hf
  obtain ⟨h6, hf⟩ := hf
  obtain ⟨h7, hf⟩ := hf
  refine V_iast h6.1 h6.s h7 dX8_readsView_95 ?_
  refine V_nz (fun z8 ez8 => ?_)
  have hf := hf z8 ez8
  refine V_iconst (v := (1 : Int32)) dX8_readsView_96 (by decide) ?_
  exact V_ireturn dX8_readsView_97 rfl (by decide) (Nat.le_refl 0) (kI_of hf)
def wX8_readsView_J72 (n : Nat) (sh : Nat → Nat × Nat) (P : Int32 → gS → Prop) (a1 : Nat) (x2 : Int32) (x3 : Int32) (z : gS) : Prop := (oO n sh a1 4) ∧ (∃ t2 : Nat, gr z a1 3 = some t2 ∧ (∃ t3 : Nat, gr z a1 1 = some t3 ∧ ((oA n sh t3 1) ∧ ((vp_in x2 (sh t3).2) ∧ (if (gi z t3 x2.toNatClampNeg) = (3 : Int32) then (wX7_bothWays n sh x3 z (fun (r9 : Int32) (z10 : gS) => wX8_readsView_J95 n sh P r9 x2 t2 z10)) else wX8_readsView_J95 n sh P x3 x2 t2 z)))))
set_option maxRecDepth 100000 in
set_option maxHeartbeats 4000000 in
theorem vX8_readsView_J72 {E : gE} {n : Nat} {sh : Nat → Nat × Nat} {P : Int32 → gS → Prop} {a1 : Nat} {x2 : Int32} {x3 : Int32} {z : gS} (hn : gOK E n) (hf : wX8_readsView_J72 n sh P a1 x2 x3 z) : V E (gR 6 0) gyX8_readsView 0 0 72 [(1, .ref a1), (2, .int x2), (3, .int x3)] [] n sh z (kI n sh P) := by
  unfold wX8_readsView_J72 at hf
  refine V_aload_n (j := 0) dX8_readsView_72 rfl rfl ?_
  obtain ⟨h1, hf⟩ := hf
  obtain ⟨t2, et2, hf⟩ := hf
  refine V_getR fl_X8_97 rfl h1.1 h1.2 et2 dX8_readsView_73 ?_
  refine V_iload_n (j := 1) dX8_readsView_76 rfl rfl ?_
  refine V_aload_n (j := 0) dX8_readsView_77 rfl rfl ?_
  obtain ⟨t3, et3, hf⟩ := hf
  refine V_getR fl_X8_73 rfl h1.1 h1.2 et3 dX8_readsView_78 ?_
  refine V_iload_n (j := 1) dX8_readsView_81 rfl rfl ?_
  obtain ⟨h4, hf⟩ := hf
  obtain ⟨h5, hf⟩ := hf
  refine V_iald h4.1 h4.s h5 dX8_readsView_82 ?_
  refine V_iconst (v := (3 : Int32)) dX8_readsView_83 (by decide) ?_
  refine V_icmp_ne (tgt := 94) dX8_readsView_84 (by decide) (fun h11 => ?_) (fun h11 => ?_)
  · have hf := it_f h11 hf
    refine V_iload_n (j := 2) dX8_readsView_94 rfl rfl ?_
    refine V_to [] rfl ?_
    exact vX8_readsView_J95 hn hf
  · have hf := it_t (Classical.not_not.mp h11) hf
    refine V_iload_n (j := 2) dX8_readsView_87 rfl rfl ?_
    refine V_cSI (ctX7_bothWays hn hf) gc_X8_100 rfl ⟨by decide, by decide, Nat.zero_le _, Nat.zero_le _⟩ (Nat.le_of_ble_eq_true rfl) dX8_readsView_88 rfl hn (fun r9 z10 hf => ?_)
    refine V_goto (tgt := 95) dX8_readsView_91 (by decide) ?_
    refine V_to [] rfl ?_
    exact vX8_readsView_J95 hn hf
def wX8_readsView_J24 (n : Nat) (sh : Nat → Nat × Nat) (k5 : Nat → Nat → Int32 → Int32 → Int32 → gS → Prop) (P : Int32 → gS → Prop) (a0 : Nat) (a1 : Nat) (x2 : Int32) (x3 : Int32) (x4 : Int32) (z : gS) : Prop := (oO n sh a0 5) ∧ (wX9_hasNumber n sh a0 (0 : Int32) (9 : Int32) z (fun (r12 : Int32) (z13 : gS) => if r12 = 0 then P (0 : Int32) z13 else (if ((x3 >>> ((gi z13 a0 5) &&& 31)) &&& (1 : Int32)) = 0 then (∀ v15 : Int32, v15 = (x3 ||| ((1 : Int32) <<< ((gi z13 a0 5) &&& 31))) → (wX9_advance n sh a0 z13 (fun (z17 : gS) => ∀ v18 : Int32, v18 = x4 + (1 : Int32) → k5 a0 a1 x2 v15 v18 z17))) else (wX9_isWrong n sh a0 (3 : Int32) z13 (fun (r19 : Int32) (z20 : gS) => (bo r19) ∧ P r19 z20)))))
set_option maxRecDepth 100000 in
set_option maxHeartbeats 4000000 in
theorem vX8_readsView_J24 {E : gE} {n : Nat} {sh : Nat → Nat × Nat} {P : Int32 → gS → Prop} {k5 : Nat → Nat → Int32 → Int32 → Int32 → gS → Prop} {a0 : Nat} {a1 : Nat} {x2 : Int32} {x3 : Int32} {x4 : Int32} {z : gS} (hn : gOK E n) (hk5 : ∀ (a0 : Nat) (a1 : Nat) (x2 : Int32) (x3 : Int32) (x4 : Int32) (z : gS), k5 a0 a1 x2 x3 x4 z → V E (gR 6 0) gyX8_readsView 0 0 5 [(0, .ref a0), (1, .ref a1), (2, .int x2), (3, .int x3), (4, .int x4)] [] n sh z (kI n sh P)) (hf : wX8_readsView_J24 n sh k5 P a0 a1 x2 x3 x4 z) : V E (gR 6 0) gyX8_readsView 0 0 24 [(0, .ref a0), (1, .ref a1), (2, .int x2), (3, .int x3), (4, .int x4)] [] n sh z (kI n sh P) := by
  unfold wX8_readsView_J24 at hf
  refine V_aload_n (j := 0) dX8_readsView_24 rfl rfl ?_
  refine V_iconst (v := (0 : Int32)) dX8_readsView_25 (by decide) ?_
  refine V_bipush (v := (9 : Int32)) dX8_readsView_26 (by decide) ?_
  obtain ⟨h14, hf⟩ := hf
  refine V_cVI (ctX9_hasNumber hn hf) gc_X8_80 rfl h14.1 ⟨_, h14.2, by decide, rfl⟩ ⟨by decide, by decide, Nat.zero_le _, Nat.zero_le _⟩ (Nat.le_of_ble_eq_true rfl) dX8_readsView_28 rfl hn (fun r12 z13 hf => ?_)
  refine V_if_ne (tgt := 36) dX8_readsView_31 (by decide) (fun h22 => ?_) (fun h22 => ?_)
  · have hf := it_f h22 hf
    refine V_iload_n (j := 3) dX8_readsView_36 rfl rfl ?_
    refine V_aload_n (j := 0) dX8_readsView_37 rfl rfl ?_
    refine V_getI fl_X8_87 rfl h14.1 h14.2 dX8_readsView_38 ?_
    refine V_ishr dX8_readsView_41 ?_
    refine V_iconst (v := (1 : Int32)) dX8_readsView_42 (by decide) ?_
    refine V_iand dX8_readsView_43 ?_
    refine V_if_eq (tgt := 53) dX8_readsView_44 (by decide) (fun h21 => ?_) (fun h21 => ?_)
    · have hf := it_t h21 hf
      refine V_iload_n (j := 3) dX8_readsView_53 rfl rfl ?_
      refine V_iconst (v := (1 : Int32)) dX8_readsView_54 (by decide) ?_
      refine V_aload_n (j := 0) dX8_readsView_55 rfl rfl ?_
      refine V_getI fl_X8_87 rfl h14.1 h14.2 dX8_readsView_56 ?_
      refine V_ishl dX8_readsView_59 ?_
      refine V_ior dX8_readsView_60 ?_
      refine V_nI (fun v15 ev15 => ?_)
      have hf := hf v15 ev15
      refine V_istore_n (ls2 := [(3, .int v15), (0, .ref a0), (1, .ref a1), (2, .int x2), (4, .int x4)]) dX8_readsView_61 rfl (by decide) rfl ?_
      refine V_aload_n (j := 1) dX8_readsView_62 rfl rfl ?_
      refine V_cVN (ctX9_advance hn hf) gc_X8_59 rfl h14.1 ⟨_, h14.2, by decide, rfl⟩ ⟨by decide, by decide, Nat.zero_le _, Nat.zero_le _⟩ (Nat.le_of_ble_eq_true rfl) dX8_readsView_63 rfl hn (fun z17 hf => ?_)
      obtain ⟨v18, ev18⟩ : ∃ y : Int32, y = x4 + (1 : Int32) := ⟨_, rfl⟩
      refine V_iinc (j := 4) (v := v18) (ls2 := [(4, .int v18), (3, .int v15), (0, .ref a0), (1, .ref a1), (2, .int x2)]) dX8_readsView_66 rfl (by rw [ev18]; rfl) (by decide) rfl ?_
      have hf := hf v18 ev18
      refine V_goto (tgt := 5) dX8_readsView_69 (by decide) ?_
      refine V_to [2, 3, 4, 1, 0] rfl ?_
      exact hk5 _ _ _ _ _ _ hf
    · have hf := it_f h21 hf
      refine V_aload_n (j := 0) dX8_readsView_47 rfl rfl ?_
      refine V_iconst (v := (3 : Int32)) dX8_readsView_48 (by decide) ?_
      refine V_cVI (ctX9_isWrong hn hf) gc_X8_52 rfl h14.1 ⟨_, h14.2, by decide, rfl⟩ ⟨by decide, by decide, Nat.zero_le _, Nat.zero_le _⟩ (Nat.le_of_ble_eq_true rfl) dX8_readsView_49 rfl hn (fun r19 z20 hf => ?_)
      exact V_ireturn dX8_readsView_52 rfl hf.1 (Nat.le_refl 0) (kI_of hf.2)
  · have hf := it_t (Classical.not_not.mp h22) hf
    refine V_iconst (v := (0 : Int32)) dX8_readsView_34 (by decide) ?_
    exact V_ireturn dX8_readsView_35 rfl (by decide) (Nat.le_refl 0) (kI_of hf)
def wX8_readsView_B5 (n : Nat) (sh : Nat → Nat × Nat) (k5 : Nat → Nat → Int32 → Int32 → Int32 → gS → Prop) (P : Int32 → gS → Prop) (a0 : Nat) (a1 : Nat) (x2 : Int32) (x3 : Int32) (x4 : Int32) (z : gS) : Prop := if (10 : Int32) < x4 then wX8_readsView_J72 n sh P a1 x2 x3 z else (if x4 = 0 then wX8_readsView_J24 n sh k5 P a0 a1 x2 x3 x4 z else ((oO n sh a0 5) ∧ (wX9_isNumber n sh a0 z (fun (r23 : Int32) (z24 : gS) => if r23 = 0 then wX8_readsView_J72 n sh P a1 x2 x3 z24 else wX8_readsView_J24 n sh k5 P a0 a1 x2 x3 x4 z24))))
def wX8_readsView_L5 (n : Nat) (sh : Nat → Nat × Nat) (P : Int32 → gS → Prop) : Nat → Nat → Nat → Int32 → Int32 → Int32 → gS → Prop
  | 0, _, _, _, _, _, _ => False
  | N + 1, a0, a1, x2, x3, x4, z => wX8_readsView_B5 n sh (wX8_readsView_L5 n sh P N) P a0 a1 x2 x3 x4 z
set_option maxRecDepth 100000 in
set_option maxHeartbeats 4000000 in
theorem vX8_readsView_B5 {E : gE} {n : Nat} {sh : Nat → Nat × Nat} {P : Int32 → gS → Prop} {k5 : Nat → Nat → Int32 → Int32 → Int32 → gS → Prop} {a0 : Nat} {a1 : Nat} {x2 : Int32} {x3 : Int32} {x4 : Int32} {z : gS} (hn : gOK E n) (hk5 : ∀ (a0 : Nat) (a1 : Nat) (x2 : Int32) (x3 : Int32) (x4 : Int32) (z : gS), k5 a0 a1 x2 x3 x4 z → V E (gR 6 0) gyX8_readsView 0 0 5 [(0, .ref a0), (1, .ref a1), (2, .int x2), (3, .int x3), (4, .int x4)] [] n sh z (kI n sh P)) (hf : wX8_readsView_B5 n sh k5 P a0 a1 x2 x3 x4 z) : V E (gR 6 0) gyX8_readsView 0 0 5 [(0, .ref a0), (1, .ref a1), (2, .int x2), (3, .int x3), (4, .int x4)] [] n sh z (kI n sh P) := by
  unfold wX8_readsView_B5 at hf
  refine V_iload (j := 4) dX8_readsView_5 rfl ?_
  refine V_bipush (v := (10 : Int32)) dX8_readsView_7 (by decide) ?_
  refine V_icmp_gt (tgt := 72) dX8_readsView_9 (by decide) (fun h28 => ?_) (fun h28 => ?_)
  · have hf := it_t h28 hf
    refine V_to [1, 2, 3] rfl ?_
    exact vX8_readsView_J72 hn hf
  · have hf := it_f h28 hf
    refine V_iload (j := 4) dX8_readsView_12 rfl ?_
    refine V_if_eq (tgt := 24) dX8_readsView_14 (by decide) (fun h27 => ?_) (fun h27 => ?_)
    · have hf := it_t h27 hf
      exact vX8_readsView_J24 hn hk5 hf
    · have hf := it_f h27 hf
      refine V_aload_n (j := 0) dX8_readsView_17 rfl rfl ?_
      obtain ⟨h25, hf⟩ := hf
      refine V_cVI (ctX9_isNumber hn hf) gc_X8_94 rfl h25.1 ⟨_, h25.2, by decide, rfl⟩ ⟨by decide, by decide, Nat.zero_le _, Nat.zero_le _⟩ (Nat.le_of_ble_eq_true rfl) dX8_readsView_18 rfl hn (fun r23 z24 hf => ?_)
      refine V_if_eq (tgt := 72) dX8_readsView_21 (by decide) (fun h26 => ?_) (fun h26 => ?_)
      · have hf := it_t h26 hf
        refine V_to [1, 2, 3] rfl ?_
        exact vX8_readsView_J72 hn hf
      · have hf := it_f h26 hf
        exact vX8_readsView_J24 hn hk5 hf
set_option maxRecDepth 100000 in
set_option maxHeartbeats 4000000 in
theorem vX8_readsView_L5 {E : gE} {n : Nat} {sh : Nat → Nat × Nat} {P : Int32 → gS → Prop} (hn : gOK E n) : ∀ (N : Nat) (a0 : Nat) (a1 : Nat) (x2 : Int32) (x3 : Int32) (x4 : Int32) (z : gS), wX8_readsView_L5 n sh P N a0 a1 x2 x3 x4 z → V E (gR 6 0) gyX8_readsView 0 0 5 [(0, .ref a0), (1, .ref a1), (2, .int x2), (3, .int x3), (4, .int x4)] [] n sh z (kI n sh P) := by
  intro N
  induction N with
  | zero => intro a0 a1 x2 x3 x4 z hf; exact False.elim hf
  | succ N ih => intro a0 a1 x2 x3 x4 z hf; exact vX8_readsView_B5 hn ih hf
def wX8_readsView (n : Nat) (sh : Nat → Nat × Nat) (a0 : Nat) (a1 : Nat) (x2 : Int32) (z : gS) (P : Int32 → gS → Prop) : Prop := (∃ N, wX8_readsView_L5 n sh P N a0 a1 x2 (0 : Int32) (0 : Int32) z)
set_option maxRecDepth 100000 in
set_option maxHeartbeats 4000000 in
theorem ctX8_readsView {E : gE} {n : Nat} {sh : Nat → Nat × Nat} {a0 : Nat} {a1 : Nat} {x2 : Int32} {z : gS} {P : Int32 → gS → Prop} (hn : gOK E n) (hf : wX8_readsView n sh a0 a1 x2 z P) : VM E 6 0 gyX8_readsView [.ref a0, .ref a1, .int x2] n sh z (kI n sh P) := by
  unfold wX8_readsView at hf
  refine VM.of (by decide +kernel) (Nat.le_of_ble_eq_true rfl) (fun _ _ _ h => h.2.2) ?_
  show V E (gR 6 0) gyX8_readsView 0 0 0 [(0, .ref a0), (1, .ref a1), (2, .int x2)] [] n sh z (kI n sh P)
  refine V_iconst (v := (0 : Int32)) dX8_readsView_0 (by decide) ?_
  refine V_istore_n (ls2 := [(3, .int (0 : Int32)), (0, .ref a0), (1, .ref a1), (2, .int x2)]) dX8_readsView_1 rfl (by decide) rfl ?_
  refine V_iconst (v := (0 : Int32)) dX8_readsView_2 (by decide) ?_
  refine V_istore (ls2 := [(4, .int (0 : Int32)), (3, .int (0 : Int32)), (0, .ref a0), (1, .ref a1), (2, .int x2)]) dX8_readsView_3 (by decide) rfl ?_
  obtain ⟨N, hf⟩ := hf
  refine V_to [2, 3, 4, 1, 0] rfl ?_
  exact vX8_readsView_L5 hn N _ _ _ _ _ _ hf
def wX8_readsPane_J63 (n : Nat) (sh : Nat → Nat × Nat) (P : Int32 → gS → Prop) (a0 : Nat) (z : gS) : Prop := (oO n sh a0 5) ∧ (wX9_isWrong n sh a0 (1 : Int32) z (fun (r14 : Int32) (z15 : gS) => (bo r14) ∧ P r14 z15))
set_option maxRecDepth 100000 in
set_option maxHeartbeats 4000000 in
theorem vX8_readsPane_J63 {E : gE} {n : Nat} {sh : Nat → Nat × Nat} {P : Int32 → gS → Prop} {a0 : Nat} {z : gS} (hn : gOK E n) (hf : wX8_readsPane_J63 n sh P a0 z) : V E (gR 7 0) gyX8_readsPane 0 0 63 [(0, .ref a0)] [] n sh z (kI n sh P) := by
  unfold wX8_readsPane_J63 at hf
  refine V_aload_n (j := 0) dX8_readsPane_63 rfl rfl ?_
  refine V_iconst (v := (1 : Int32)) dX8_readsPane_64 (by decide) ?_
  obtain ⟨h16, hf⟩ := hf
  refine V_cVI (ctX9_isWrong hn hf) gc_X8_52 rfl h16.1 ⟨_, h16.2, by decide, rfl⟩ ⟨by decide, by decide, Nat.zero_le _, Nat.zero_le _⟩ (Nat.le_of_ble_eq_true rfl) dX8_readsPane_65 rfl hn (fun r14 z15 hf => ?_)
  exact V_ireturn dX8_readsPane_68 rfl hf.1 (Nat.le_refl 0) (kI_of hf.2)
def wX8_readsPane (n : Nat) (sh : Nat → Nat × Nat) (a0 : Nat) (a1 : Nat) (z : gS) (P : Int32 → gS → Prop) : Prop := (oO n sh a1 4) ∧ (∀ v2 : Int32, v2 = (gi z a1 10) → (if v2 < (6 : Int32) then ((oO n sh a0 5) ∧ (wX9_advance n sh a0 z (fun (z4 : gS) => wX8_hasNewName n sh a0 a1 z4 (fun (r6 : Int32) (z7 : gS) => if r6 = 0 then P (0 : Int32) z7 else (∃ t8 : Nat, gr z7 a1 7 = some t8 ∧ ((oA n sh t8 2) ∧ ((vp_in v2 (sh t8).2) ∧ (∀ z11 : gS, z11 = sl z7 t8 v2.toNatClampNeg (gl z7 a0 6) → (wX9_advance n sh a0 z11 (fun (z13 : gS) => if (gi z13 a0 7) < (15 : Int32) then wX8_readsPane_J63 n sh P a0 z13 else (if (gi z13 a0 7) ≤ (18 : Int32) then (∃ t17 : Nat, gr z13 a1 1 = some t17 ∧ ((oA n sh t17 1) ∧ ((vp_in v2 (sh t17).2) ∧ (∀ z20 : gS, z20 = si z13 t17 v2.toNatClampNeg ((gi z13 a0 7) - (15 : Int32)) → (wX9_advance n sh a0 z20 (fun (z22 : gS) => wX9_takesWord n sh a0 (11 : Int32) z22 (fun (r23 : Int32) (z24 : gS) => if r23 = 0 then P (0 : Int32) z24 else (wX9_hasNumber n sh a0 (1 : Int32) (6 : Int32) z24 (fun (r25 : Int32) (z26 : gS) => if r25 = 0 then P (0 : Int32) z26 else (∃ t27 : Nat, gr z26 a1 2 = some t27 ∧ ((oA n sh t27 1) ∧ ((vp_in v2 (sh t27).2) ∧ (∀ z30 : gS, z30 = si z26 t27 v2.toNatClampNeg (gi z26 a0 5) → (wX9_advance n sh a0 z30 (fun (z32 : gS) => wX9_takesWord n sh a0 (12 : Int32) z32 (fun (r33 : Int32) (z34 : gS) => if r33 = 0 then P (0 : Int32) z34 else (wX8_readsView n sh a0 a1 v2 z34 (fun (r35 : Int32) (z36 : gS) => if r35 = 0 then P (0 : Int32) z36 else (∀ z37 : gS, z37 = si z36 a1 10 ((gi z36 a1 10) + (1 : Int32)) → P (1 : Int32) z37))))))))))))))))))) else wX8_readsPane_J63 n sh P a0 z13))))))))))) else ((oO n sh a0 5) ∧ (wX9_isWrong n sh a0 (5 : Int32) z (fun (r45 : Int32) (z46 : gS) => (bo r45) ∧ P r45 z46)))))
set_option maxRecDepth 100000 in
set_option maxHeartbeats 4000000 in
theorem ctX8_readsPane {E : gE} {n : Nat} {sh : Nat → Nat × Nat} {a0 : Nat} {a1 : Nat} {z : gS} {P : Int32 → gS → Prop} (hn : gOK E n) (hf : wX8_readsPane n sh a0 a1 z P) : VM E 7 0 gyX8_readsPane [.ref a0, .ref a1] n sh z (kI n sh P) := by
  unfold wX8_readsPane at hf
  refine VM.of (by decide +kernel) (Nat.le_of_ble_eq_true rfl) (fun _ _ _ h => h.2.2) ?_
  show V E (gR 7 0) gyX8_readsPane 0 0 0 [(0, .ref a0), (1, .ref a1)] [] n sh z (kI n sh P)
  refine V_aload_n (j := 1) dX8_readsPane_0 rfl rfl ?_
  obtain ⟨h1, hf⟩ := hf
  refine V_getI fl_X8_56 rfl h1.1 h1.2 dX8_readsPane_1 ?_
  refine V_nI (fun v2 ev2 => ?_)
  have hf := hf v2 ev2
  refine V_istore_n (ls2 := [(2, .int v2), (0, .ref a0), (1, .ref a1)]) dX8_readsPane_4 rfl (by decide) rfl ?_
  refine V_iload_n (j := 0) dX8_readsPane_5 rfl rfl ?_
  refine V_bipush (v := (6 : Int32)) dX8_readsPane_6 (by decide) ?_
  refine V_icmp_lt (tgt := 17) dX8_readsPane_8 (by decide) (fun h48 => ?_) (fun h48 => ?_)
  · have hf := it_t h48 hf
    refine V_aload_n (j := 1) dX8_readsPane_17 rfl rfl ?_
    obtain ⟨h5, hf⟩ := hf
    refine V_cVN (ctX9_advance hn hf) gc_X8_59 rfl h5.1 ⟨_, h5.2, by decide, rfl⟩ ⟨by decide, by decide, Nat.zero_le _, Nat.zero_le _⟩ (Nat.le_of_ble_eq_true rfl) dX8_readsPane_18 rfl hn (fun z4 hf => ?_)
    refine V_aload_n (j := 1) dX8_readsPane_21 rfl rfl ?_
    refine V_aload_n (j := 2) dX8_readsPane_22 rfl rfl ?_
    refine V_cSI (ctX8_hasNewName hn hf) gc_X8_62 rfl ⟨by decide, by decide, Nat.zero_le _, Nat.zero_le _⟩ (Nat.le_of_ble_eq_true rfl) dX8_readsPane_23 rfl hn (fun r6 z7 hf => ?_)
    refine V_if_ne (tgt := 31) dX8_readsPane_26 (by decide) (fun h44 => ?_) (fun h44 => ?_)
    · have hf := it_f h44 hf
      refine V_aload_n (j := 2) dX8_readsPane_31 rfl rfl ?_
      obtain ⟨t8, et8, hf⟩ := hf
      refine V_getR fl_X8_65 rfl h1.1 h1.2 et8 dX8_readsPane_32 ?_
      refine V_iload_n (j := 0) dX8_readsPane_35 rfl rfl ?_
      refine V_aload_n (j := 1) dX8_readsPane_36 rfl rfl ?_
      refine V_getL fl_X8_69 rfl h5.1 h5.2 dX8_readsPane_37 ?_
      obtain ⟨h9, hf⟩ := hf
      obtain ⟨h10, hf⟩ := hf
      refine V_last h9.1 h9.s h10 dX8_readsPane_40 ?_
      refine V_nz (fun z11 ez11 => ?_)
      have hf := hf z11 ez11
      refine V_aload_n (j := 1) dX8_readsPane_41 rfl rfl ?_
      refine V_cVN (ctX9_advance hn hf) gc_X8_59 rfl h5.1 ⟨_, h5.2, by decide, rfl⟩ ⟨by decide, by decide, Nat.zero_le _, Nat.zero_le _⟩ (Nat.le_of_ble_eq_true rfl) dX8_readsPane_42 rfl hn (fun z13 hf => ?_)
      refine V_aload_n (j := 1) dX8_readsPane_45 rfl rfl ?_
      refine V_getI fl_X8_33 rfl h5.1 h5.2 dX8_readsPane_46 ?_
      refine V_bipush (v := (15 : Int32)) dX8_readsPane_49 (by decide) ?_
      refine V_icmp_lt (tgt := 63) dX8_readsPane_51 (by decide) (fun h43 => ?_) (fun h43 => ?_)
      · have hf := it_t h43 hf
        refine V_to [1] rfl ?_
        exact vX8_readsPane_J63 hn hf
      · have hf := it_f h43 hf
        refine V_aload_n (j := 1) dX8_readsPane_54 rfl rfl ?_
        refine V_getI fl_X8_33 rfl h5.1 h5.2 dX8_readsPane_55 ?_
        refine V_bipush (v := (18 : Int32)) dX8_readsPane_58 (by decide) ?_
        refine V_icmp_le (tgt := 69) dX8_readsPane_60 (by decide) (fun h42 => ?_) (fun h42 => ?_)
        · have hf := it_t h42 hf
          refine V_aload_n (j := 2) dX8_readsPane_69 rfl rfl ?_
          obtain ⟨t17, et17, hf⟩ := hf
          refine V_getR fl_X8_73 rfl h1.1 h1.2 et17 dX8_readsPane_70 ?_
          refine V_iload_n (j := 0) dX8_readsPane_73 rfl rfl ?_
          refine V_aload_n (j := 1) dX8_readsPane_74 rfl rfl ?_
          refine V_getI fl_X8_33 rfl h5.1 h5.2 dX8_readsPane_75 ?_
          refine V_bipush (v := (15 : Int32)) dX8_readsPane_78 (by decide) ?_
          refine V_isub dX8_readsPane_80 ?_
          obtain ⟨h18, hf⟩ := hf
          obtain ⟨h19, hf⟩ := hf
          refine V_iast h18.1 h18.s h19 dX8_readsPane_81 ?_
          refine V_nz (fun z20 ez20 => ?_)
          have hf := hf z20 ez20
          refine V_aload_n (j := 1) dX8_readsPane_82 rfl rfl ?_
          refine V_cVN (ctX9_advance hn hf) gc_X8_59 rfl h5.1 ⟨_, h5.2, by decide, rfl⟩ ⟨by decide, by decide, Nat.zero_le _, Nat.zero_le _⟩ (Nat.le_of_ble_eq_true rfl) dX8_readsPane_83 rfl hn (fun z22 hf => ?_)
          refine V_aload_n (j := 1) dX8_readsPane_86 rfl rfl ?_
          refine V_bipush (v := (11 : Int32)) dX8_readsPane_87 (by decide) ?_
          refine V_cVI (ctX9_takesWord hn hf) gc_X8_77 rfl h5.1 ⟨_, h5.2, by decide, rfl⟩ ⟨by decide, by decide, Nat.zero_le _, Nat.zero_le _⟩ (Nat.le_of_ble_eq_true rfl) dX8_readsPane_89 rfl hn (fun r23 z24 hf => ?_)
          refine V_if_eq (tgt := 105) dX8_readsPane_92 (by decide) (fun h41 => ?_) (fun h41 => ?_)
          · have hf := it_t h41 hf
            refine V_iconst (v := (0 : Int32)) dX8_readsPane_105 (by decide) ?_
            exact V_ireturn dX8_readsPane_106 rfl (by decide) (Nat.le_refl 0) (kI_of hf)
          · have hf := it_f h41 hf
            refine V_aload_n (j := 1) dX8_readsPane_95 rfl rfl ?_
            refine V_iconst (v := (1 : Int32)) dX8_readsPane_96 (by decide) ?_
            refine V_bipush (v := (6 : Int32)) dX8_readsPane_97 (by decide) ?_
            refine V_cVI (ctX9_hasNumber hn hf) gc_X8_80 rfl h5.1 ⟨_, h5.2, by decide, rfl⟩ ⟨by decide, by decide, Nat.zero_le _, Nat.zero_le _⟩ (Nat.le_of_ble_eq_true rfl) dX8_readsPane_99 rfl hn (fun r25 z26 hf => ?_)
            refine V_if_ne (tgt := 107) dX8_readsPane_102 (by decide) (fun h40 => ?_) (fun h40 => ?_)
            · have hf := it_f h40 hf
              refine V_aload_n (j := 2) dX8_readsPane_107 rfl rfl ?_
              obtain ⟨t27, et27, hf⟩ := hf
              refine V_getR fl_X8_84 rfl h1.1 h1.2 et27 dX8_readsPane_108 ?_
              refine V_iload_n (j := 0) dX8_readsPane_111 rfl rfl ?_
              refine V_aload_n (j := 1) dX8_readsPane_112 rfl rfl ?_
              refine V_getI fl_X8_87 rfl h5.1 h5.2 dX8_readsPane_113 ?_
              obtain ⟨h28, hf⟩ := hf
              obtain ⟨h29, hf⟩ := hf
              refine V_iast h28.1 h28.s h29 dX8_readsPane_116 ?_
              refine V_nz (fun z30 ez30 => ?_)
              have hf := hf z30 ez30
              refine V_aload_n (j := 1) dX8_readsPane_117 rfl rfl ?_
              refine V_cVN (ctX9_advance hn hf) gc_X8_59 rfl h5.1 ⟨_, h5.2, by decide, rfl⟩ ⟨by decide, by decide, Nat.zero_le _, Nat.zero_le _⟩ (Nat.le_of_ble_eq_true rfl) dX8_readsPane_118 rfl hn (fun z32 hf => ?_)
              refine V_aload_n (j := 1) dX8_readsPane_121 rfl rfl ?_
              refine V_bipush (v := (12 : Int32)) dX8_readsPane_122 (by decide) ?_
              refine V_cVI (ctX9_takesWord hn hf) gc_X8_77 rfl h5.1 ⟨_, h5.2, by decide, rfl⟩ ⟨by decide, by decide, Nat.zero_le _, Nat.zero_le _⟩ (Nat.le_of_ble_eq_true rfl) dX8_readsPane_124 rfl hn (fun r33 z34 hf => ?_)
              refine V_if_eq (tgt := 139) dX8_readsPane_127 (by decide) (fun h39 => ?_) (fun h39 => ?_)
              · have hf := it_t h39 hf
                refine V_iconst (v := (0 : Int32)) dX8_readsPane_139 (by decide) ?_
                exact V_ireturn dX8_readsPane_140 rfl (by decide) (Nat.le_refl 0) (kI_of hf)
              · have hf := it_f h39 hf
                refine V_aload_n (j := 1) dX8_readsPane_130 rfl rfl ?_
                refine V_aload_n (j := 2) dX8_readsPane_131 rfl rfl ?_
                refine V_iload_n (j := 0) dX8_readsPane_132 rfl rfl ?_
                refine V_cSI (ctX8_readsView hn hf) gc_X8_90 rfl ⟨by decide, by decide, Nat.zero_le _, Nat.zero_le _⟩ (Nat.le_of_ble_eq_true rfl) dX8_readsPane_133 rfl hn (fun r35 z36 hf => ?_)
                refine V_if_ne (tgt := 141) dX8_readsPane_136 (by decide) (fun h38 => ?_) (fun h38 => ?_)
                · have hf := it_f h38 hf
                  refine V_aload_n (j := 2) dX8_readsPane_141 rfl rfl ?_
                  refine V_dup dX8_readsPane_142 rfl ?_
                  refine V_getI fl_X8_56 rfl h1.1 h1.2 dX8_readsPane_143 ?_
                  refine V_iconst (v := (1 : Int32)) dX8_readsPane_146 (by decide) ?_
                  refine V_iadd dX8_readsPane_147 ?_
                  refine V_putI fl_X8_56 rfl rfl rfl rfl h1.1 h1.2 dX8_readsPane_148 ?_
                  refine V_nz (fun z37 ez37 => ?_)
                  have hf := hf z37 ez37
                  refine V_iconst (v := (1 : Int32)) dX8_readsPane_151 (by decide) ?_
                  exact V_ireturn dX8_readsPane_152 rfl (by decide) (Nat.le_refl 0) (kI_of hf)
                · have hf := it_t (Classical.not_not.mp h38) hf
                  refine V_iconst (v := (0 : Int32)) dX8_readsPane_139 (by decide) ?_
                  exact V_ireturn dX8_readsPane_140 rfl (by decide) (Nat.le_refl 0) (kI_of hf)
            · have hf := it_t (Classical.not_not.mp h40) hf
              refine V_iconst (v := (0 : Int32)) dX8_readsPane_105 (by decide) ?_
              exact V_ireturn dX8_readsPane_106 rfl (by decide) (Nat.le_refl 0) (kI_of hf)
        · have hf := it_f h42 hf
          refine V_to [1] rfl ?_
          exact vX8_readsPane_J63 hn hf
    · have hf := it_t (Classical.not_not.mp h44) hf
      refine V_iconst (v := (0 : Int32)) dX8_readsPane_29 (by decide) ?_
      exact V_ireturn dX8_readsPane_30 rfl (by decide) (Nat.le_refl 0) (kI_of hf)
  · have hf := it_f h48 hf
    refine V_aload_n (j := 1) dX8_readsPane_11 rfl rfl ?_
    refine V_iconst (v := (5 : Int32)) dX8_readsPane_12 (by decide) ?_
    obtain ⟨h47, hf⟩ := hf
    refine V_cVI (ctX9_isWrong hn hf) gc_X8_52 rfl h47.1 ⟨_, h47.2, by decide, rfl⟩ ⟨by decide, by decide, Nat.zero_le _, Nat.zero_le _⟩ (Nat.le_of_ble_eq_true rfl) dX8_readsPane_13 rfl hn (fun r45 z46 hf => ?_)
    exact V_ireturn dX8_readsPane_16 rfl hf.1 (Nat.le_refl 0) (kI_of hf.2)
def wX8_readsPerson (n : Nat) (sh : Nat → Nat × Nat) (a0 : Nat) (a1 : Nat) (z : gS) (P : Int32 → gS → Prop) : Prop := (oO n sh a1 4) ∧ (∀ v2 : Int32, v2 = (gi z a1 11) → (if v2 < (5 : Int32) then ((oO n sh a0 5) ∧ (wX9_advance n sh a0 z (fun (z4 : gS) => wX8_hasNewName n sh a0 a1 z4 (fun (r6 : Int32) (z7 : gS) => if r6 = 0 then P (0 : Int32) z7 else (∃ t8 : Nat, gr z7 a1 8 = some t8 ∧ ((oA n sh t8 2) ∧ ((vp_in v2 (sh t8).2) ∧ (∀ z11 : gS, z11 = sl z7 t8 v2.toNatClampNeg (gl z7 a0 6) → (wX9_advance n sh a0 z11 (fun (z13 : gS) => wX9_takesWord n sh a0 (13 : Int32) z13 (fun (r14 : Int32) (z15 : gS) => if r14 = 0 then P (0 : Int32) z15 else (wX9_hasNumber n sh a0 (0 : Int32) (9 : Int32) z15 (fun (r16 : Int32) (z17 : gS) => if r16 = 0 then P (0 : Int32) z17 else (∃ t18 : Nat, gr z17 a1 4 = some t18 ∧ ((oA n sh t18 1) ∧ ((vp_in v2 (sh t18).2) ∧ (∀ z21 : gS, z21 = si z17 t18 v2.toNatClampNeg (gi z17 a0 5) → (wX9_advance n sh a0 z21 (fun (z23 : gS) => ∀ z24 : gS, z24 = si z23 a1 11 ((gi z23 a1 11) + (1 : Int32)) → P (1 : Int32) z24))))))))))))))))))) else ((oO n sh a0 5) ∧ (wX9_isWrong n sh a0 (5 : Int32) z (fun (r28 : Int32) (z29 : gS) => (bo r28) ∧ P r28 z29)))))
set_option maxRecDepth 100000 in
set_option maxHeartbeats 4000000 in
theorem ctX8_readsPerson {E : gE} {n : Nat} {sh : Nat → Nat × Nat} {a0 : Nat} {a1 : Nat} {z : gS} {P : Int32 → gS → Prop} (hn : gOK E n) (hf : wX8_readsPerson n sh a0 a1 z P) : VM E 7 0 gyX8_readsPerson [.ref a0, .ref a1] n sh z (kI n sh P) := by
  unfold wX8_readsPerson at hf
  refine VM.of (by decide +kernel) (Nat.le_of_ble_eq_true rfl) (fun _ _ _ h => h.2.2) ?_
  show V E (gR 7 0) gyX8_readsPerson 0 0 0 [(0, .ref a0), (1, .ref a1)] [] n sh z (kI n sh P)
  refine V_aload_n (j := 1) dX8_readsPerson_0 rfl rfl ?_
  obtain ⟨h1, hf⟩ := hf
  refine V_getI fl_X8_104 rfl h1.1 h1.2 dX8_readsPerson_1 ?_
  refine V_nI (fun v2 ev2 => ?_)
  have hf := hf v2 ev2
  refine V_istore_n (ls2 := [(2, .int v2), (0, .ref a0), (1, .ref a1)]) dX8_readsPerson_4 rfl (by decide) rfl ?_
  refine V_iload_n (j := 0) dX8_readsPerson_5 rfl rfl ?_
  refine V_iconst (v := (5 : Int32)) dX8_readsPerson_6 (by decide) ?_
  refine V_icmp_lt (tgt := 16) dX8_readsPerson_7 (by decide) (fun h31 => ?_) (fun h31 => ?_)
  · have hf := it_t h31 hf
    refine V_aload_n (j := 1) dX8_readsPerson_16 rfl rfl ?_
    obtain ⟨h5, hf⟩ := hf
    refine V_cVN (ctX9_advance hn hf) gc_X8_59 rfl h5.1 ⟨_, h5.2, by decide, rfl⟩ ⟨by decide, by decide, Nat.zero_le _, Nat.zero_le _⟩ (Nat.le_of_ble_eq_true rfl) dX8_readsPerson_17 rfl hn (fun z4 hf => ?_)
    refine V_aload_n (j := 1) dX8_readsPerson_20 rfl rfl ?_
    refine V_aload_n (j := 2) dX8_readsPerson_21 rfl rfl ?_
    refine V_cSI (ctX8_hasNewName hn hf) gc_X8_62 rfl ⟨by decide, by decide, Nat.zero_le _, Nat.zero_le _⟩ (Nat.le_of_ble_eq_true rfl) dX8_readsPerson_22 rfl hn (fun r6 z7 hf => ?_)
    refine V_if_ne (tgt := 30) dX8_readsPerson_25 (by decide) (fun h27 => ?_) (fun h27 => ?_)
    · have hf := it_f h27 hf
      refine V_aload_n (j := 2) dX8_readsPerson_30 rfl rfl ?_
      obtain ⟨t8, et8, hf⟩ := hf
      refine V_getR fl_X8_107 rfl h1.1 h1.2 et8 dX8_readsPerson_31 ?_
      refine V_iload_n (j := 0) dX8_readsPerson_34 rfl rfl ?_
      refine V_aload_n (j := 1) dX8_readsPerson_35 rfl rfl ?_
      refine V_getL fl_X8_69 rfl h5.1 h5.2 dX8_readsPerson_36 ?_
      obtain ⟨h9, hf⟩ := hf
      obtain ⟨h10, hf⟩ := hf
      refine V_last h9.1 h9.s h10 dX8_readsPerson_39 ?_
      refine V_nz (fun z11 ez11 => ?_)
      have hf := hf z11 ez11
      refine V_aload_n (j := 1) dX8_readsPerson_40 rfl rfl ?_
      refine V_cVN (ctX9_advance hn hf) gc_X8_59 rfl h5.1 ⟨_, h5.2, by decide, rfl⟩ ⟨by decide, by decide, Nat.zero_le _, Nat.zero_le _⟩ (Nat.le_of_ble_eq_true rfl) dX8_readsPerson_41 rfl hn (fun z13 hf => ?_)
      refine V_aload_n (j := 1) dX8_readsPerson_44 rfl rfl ?_
      refine V_bipush (v := (13 : Int32)) dX8_readsPerson_45 (by decide) ?_
      refine V_cVI (ctX9_takesWord hn hf) gc_X8_77 rfl h5.1 ⟨_, h5.2, by decide, rfl⟩ ⟨by decide, by decide, Nat.zero_le _, Nat.zero_le _⟩ (Nat.le_of_ble_eq_true rfl) dX8_readsPerson_47 rfl hn (fun r14 z15 hf => ?_)
      refine V_if_eq (tgt := 63) dX8_readsPerson_50 (by decide) (fun h26 => ?_) (fun h26 => ?_)
      · have hf := it_t h26 hf
        refine V_iconst (v := (0 : Int32)) dX8_readsPerson_63 (by decide) ?_
        exact V_ireturn dX8_readsPerson_64 rfl (by decide) (Nat.le_refl 0) (kI_of hf)
      · have hf := it_f h26 hf
        refine V_aload_n (j := 1) dX8_readsPerson_53 rfl rfl ?_
        refine V_iconst (v := (0 : Int32)) dX8_readsPerson_54 (by decide) ?_
        refine V_bipush (v := (9 : Int32)) dX8_readsPerson_55 (by decide) ?_
        refine V_cVI (ctX9_hasNumber hn hf) gc_X8_80 rfl h5.1 ⟨_, h5.2, by decide, rfl⟩ ⟨by decide, by decide, Nat.zero_le _, Nat.zero_le _⟩ (Nat.le_of_ble_eq_true rfl) dX8_readsPerson_57 rfl hn (fun r16 z17 hf => ?_)
        refine V_if_ne (tgt := 65) dX8_readsPerson_60 (by decide) (fun h25 => ?_) (fun h25 => ?_)
        · have hf := it_f h25 hf
          refine V_aload_n (j := 2) dX8_readsPerson_65 rfl rfl ?_
          obtain ⟨t18, et18, hf⟩ := hf
          refine V_getR fl_X8_110 rfl h1.1 h1.2 et18 dX8_readsPerson_66 ?_
          refine V_iload_n (j := 0) dX8_readsPerson_69 rfl rfl ?_
          refine V_aload_n (j := 1) dX8_readsPerson_70 rfl rfl ?_
          refine V_getI fl_X8_87 rfl h5.1 h5.2 dX8_readsPerson_71 ?_
          obtain ⟨h19, hf⟩ := hf
          obtain ⟨h20, hf⟩ := hf
          refine V_iast h19.1 h19.s h20 dX8_readsPerson_74 ?_
          refine V_nz (fun z21 ez21 => ?_)
          have hf := hf z21 ez21
          refine V_aload_n (j := 1) dX8_readsPerson_75 rfl rfl ?_
          refine V_cVN (ctX9_advance hn hf) gc_X8_59 rfl h5.1 ⟨_, h5.2, by decide, rfl⟩ ⟨by decide, by decide, Nat.zero_le _, Nat.zero_le _⟩ (Nat.le_of_ble_eq_true rfl) dX8_readsPerson_76 rfl hn (fun z23 hf => ?_)
          refine V_aload_n (j := 2) dX8_readsPerson_79 rfl rfl ?_
          refine V_dup dX8_readsPerson_80 rfl ?_
          refine V_getI fl_X8_104 rfl h1.1 h1.2 dX8_readsPerson_81 ?_
          refine V_iconst (v := (1 : Int32)) dX8_readsPerson_84 (by decide) ?_
          refine V_iadd dX8_readsPerson_85 ?_
          refine V_putI fl_X8_104 rfl rfl rfl rfl h1.1 h1.2 dX8_readsPerson_86 ?_
          refine V_nz (fun z24 ez24 => ?_)
          have hf := hf z24 ez24
          refine V_iconst (v := (1 : Int32)) dX8_readsPerson_89 (by decide) ?_
          exact V_ireturn dX8_readsPerson_90 rfl (by decide) (Nat.le_refl 0) (kI_of hf)
        · have hf := it_t (Classical.not_not.mp h25) hf
          refine V_iconst (v := (0 : Int32)) dX8_readsPerson_63 (by decide) ?_
          exact V_ireturn dX8_readsPerson_64 rfl (by decide) (Nat.le_refl 0) (kI_of hf)
    · have hf := it_t (Classical.not_not.mp h27) hf
      refine V_iconst (v := (0 : Int32)) dX8_readsPerson_28 (by decide) ?_
      exact V_ireturn dX8_readsPerson_29 rfl (by decide) (Nat.le_refl 0) (kI_of hf)
  · have hf := it_f h31 hf
    refine V_aload_n (j := 1) dX8_readsPerson_10 rfl rfl ?_
    refine V_iconst (v := (5 : Int32)) dX8_readsPerson_11 (by decide) ?_
    obtain ⟨h30, hf⟩ := hf
    refine V_cVI (ctX9_isWrong hn hf) gc_X8_52 rfl h30.1 ⟨_, h30.2, by decide, rfl⟩ ⟨by decide, by decide, Nat.zero_le _, Nat.zero_le _⟩ (Nat.le_of_ble_eq_true rfl) dX8_readsPerson_12 rfl hn (fun r28 z29 hf => ?_)
    exact V_ireturn dX8_readsPerson_15 rfl hf.1 (Nat.le_refl 0) (kI_of hf.2)
def wX8_readsDeed (n : Nat) (sh : Nat → Nat × Nat) (a0 : Nat) (a1 : Nat) (z : gS) (P : Int32 → gS → Prop) : Prop := (oO n sh a1 4) ∧ (∀ v2 : Int32, v2 = (gi z a1 12) → (if v2 < (5 : Int32) then ((oO n sh a0 5) ∧ (wX9_advance n sh a0 z (fun (z4 : gS) => wX8_hasNewName n sh a0 a1 z4 (fun (r6 : Int32) (z7 : gS) => if r6 = 0 then P (0 : Int32) z7 else (∃ t8 : Nat, gr z7 a1 9 = some t8 ∧ ((oA n sh t8 2) ∧ ((vp_in v2 (sh t8).2) ∧ (∀ z11 : gS, z11 = sl z7 t8 v2.toNatClampNeg (gl z7 a0 6) → (wX9_advance n sh a0 z11 (fun (z13 : gS) => wX9_takesWord n sh a0 (14 : Int32) z13 (fun (r14 : Int32) (z15 : gS) => if r14 = 0 then P (0 : Int32) z15 else (wX9_hasNumber n sh a0 (0 : Int32) (99 : Int32) z15 (fun (r16 : Int32) (z17 : gS) => if r16 = 0 then P (0 : Int32) z17 else (∃ t18 : Nat, gr z17 a1 5 = some t18 ∧ ((oA n sh t18 1) ∧ ((vp_in v2 (sh t18).2) ∧ (∀ z21 : gS, z21 = si z17 t18 v2.toNatClampNeg (gi z17 a0 5) → (wX9_advance n sh a0 z21 (fun (z23 : gS) => ∀ z24 : gS, z24 = si z23 a1 12 ((gi z23 a1 12) + (1 : Int32)) → P (1 : Int32) z24))))))))))))))))))) else ((oO n sh a0 5) ∧ (wX9_isWrong n sh a0 (5 : Int32) z (fun (r28 : Int32) (z29 : gS) => (bo r28) ∧ P r28 z29)))))
set_option maxRecDepth 100000 in
set_option maxHeartbeats 4000000 in
theorem ctX8_readsDeed {E : gE} {n : Nat} {sh : Nat → Nat × Nat} {a0 : Nat} {a1 : Nat} {z : gS} {P : Int32 → gS → Prop} (hn : gOK E n) (hf : wX8_readsDeed n sh a0 a1 z P) : VM E 7 0 gyX8_readsDeed [.ref a0, .ref a1] n sh z (kI n sh P) := by
  unfold wX8_readsDeed at hf
  refine VM.of (by decide +kernel) (Nat.le_of_ble_eq_true rfl) (fun _ _ _ h => h.2.2) ?_
  show V E (gR 7 0) gyX8_readsDeed 0 0 0 [(0, .ref a0), (1, .ref a1)] [] n sh z (kI n sh P)
  refine V_aload_n (j := 1) dX8_readsDeed_0 rfl rfl ?_
  obtain ⟨h1, hf⟩ := hf
  refine V_getI fl_X8_113 rfl h1.1 h1.2 dX8_readsDeed_1 ?_
  refine V_nI (fun v2 ev2 => ?_)
  have hf := hf v2 ev2
  refine V_istore_n (ls2 := [(2, .int v2), (0, .ref a0), (1, .ref a1)]) dX8_readsDeed_4 rfl (by decide) rfl ?_
  refine V_iload_n (j := 0) dX8_readsDeed_5 rfl rfl ?_
  refine V_iconst (v := (5 : Int32)) dX8_readsDeed_6 (by decide) ?_
  refine V_icmp_lt (tgt := 16) dX8_readsDeed_7 (by decide) (fun h31 => ?_) (fun h31 => ?_)
  · have hf := it_t h31 hf
    refine V_aload_n (j := 1) dX8_readsDeed_16 rfl rfl ?_
    obtain ⟨h5, hf⟩ := hf
    refine V_cVN (ctX9_advance hn hf) gc_X8_59 rfl h5.1 ⟨_, h5.2, by decide, rfl⟩ ⟨by decide, by decide, Nat.zero_le _, Nat.zero_le _⟩ (Nat.le_of_ble_eq_true rfl) dX8_readsDeed_17 rfl hn (fun z4 hf => ?_)
    refine V_aload_n (j := 1) dX8_readsDeed_20 rfl rfl ?_
    refine V_aload_n (j := 2) dX8_readsDeed_21 rfl rfl ?_
    refine V_cSI (ctX8_hasNewName hn hf) gc_X8_62 rfl ⟨by decide, by decide, Nat.zero_le _, Nat.zero_le _⟩ (Nat.le_of_ble_eq_true rfl) dX8_readsDeed_22 rfl hn (fun r6 z7 hf => ?_)
    refine V_if_ne (tgt := 30) dX8_readsDeed_25 (by decide) (fun h27 => ?_) (fun h27 => ?_)
    · have hf := it_f h27 hf
      refine V_aload_n (j := 2) dX8_readsDeed_30 rfl rfl ?_
      obtain ⟨t8, et8, hf⟩ := hf
      refine V_getR fl_X8_116 rfl h1.1 h1.2 et8 dX8_readsDeed_31 ?_
      refine V_iload_n (j := 0) dX8_readsDeed_34 rfl rfl ?_
      refine V_aload_n (j := 1) dX8_readsDeed_35 rfl rfl ?_
      refine V_getL fl_X8_69 rfl h5.1 h5.2 dX8_readsDeed_36 ?_
      obtain ⟨h9, hf⟩ := hf
      obtain ⟨h10, hf⟩ := hf
      refine V_last h9.1 h9.s h10 dX8_readsDeed_39 ?_
      refine V_nz (fun z11 ez11 => ?_)
      have hf := hf z11 ez11
      refine V_aload_n (j := 1) dX8_readsDeed_40 rfl rfl ?_
      refine V_cVN (ctX9_advance hn hf) gc_X8_59 rfl h5.1 ⟨_, h5.2, by decide, rfl⟩ ⟨by decide, by decide, Nat.zero_le _, Nat.zero_le _⟩ (Nat.le_of_ble_eq_true rfl) dX8_readsDeed_41 rfl hn (fun z13 hf => ?_)
      refine V_aload_n (j := 1) dX8_readsDeed_44 rfl rfl ?_
      refine V_bipush (v := (14 : Int32)) dX8_readsDeed_45 (by decide) ?_
      refine V_cVI (ctX9_takesWord hn hf) gc_X8_77 rfl h5.1 ⟨_, h5.2, by decide, rfl⟩ ⟨by decide, by decide, Nat.zero_le _, Nat.zero_le _⟩ (Nat.le_of_ble_eq_true rfl) dX8_readsDeed_47 rfl hn (fun r14 z15 hf => ?_)
      refine V_if_eq (tgt := 63) dX8_readsDeed_50 (by decide) (fun h26 => ?_) (fun h26 => ?_)
      · have hf := it_t h26 hf
        refine V_iconst (v := (0 : Int32)) dX8_readsDeed_63 (by decide) ?_
        exact V_ireturn dX8_readsDeed_64 rfl (by decide) (Nat.le_refl 0) (kI_of hf)
      · have hf := it_f h26 hf
        refine V_aload_n (j := 1) dX8_readsDeed_53 rfl rfl ?_
        refine V_iconst (v := (0 : Int32)) dX8_readsDeed_54 (by decide) ?_
        refine V_bipush (v := (99 : Int32)) dX8_readsDeed_55 (by decide) ?_
        refine V_cVI (ctX9_hasNumber hn hf) gc_X8_80 rfl h5.1 ⟨_, h5.2, by decide, rfl⟩ ⟨by decide, by decide, Nat.zero_le _, Nat.zero_le _⟩ (Nat.le_of_ble_eq_true rfl) dX8_readsDeed_57 rfl hn (fun r16 z17 hf => ?_)
        refine V_if_ne (tgt := 65) dX8_readsDeed_60 (by decide) (fun h25 => ?_) (fun h25 => ?_)
        · have hf := it_f h25 hf
          refine V_aload_n (j := 2) dX8_readsDeed_65 rfl rfl ?_
          obtain ⟨t18, et18, hf⟩ := hf
          refine V_getR fl_X8_119 rfl h1.1 h1.2 et18 dX8_readsDeed_66 ?_
          refine V_iload_n (j := 0) dX8_readsDeed_69 rfl rfl ?_
          refine V_aload_n (j := 1) dX8_readsDeed_70 rfl rfl ?_
          refine V_getI fl_X8_87 rfl h5.1 h5.2 dX8_readsDeed_71 ?_
          obtain ⟨h19, hf⟩ := hf
          obtain ⟨h20, hf⟩ := hf
          refine V_iast h19.1 h19.s h20 dX8_readsDeed_74 ?_
          refine V_nz (fun z21 ez21 => ?_)
          have hf := hf z21 ez21
          refine V_aload_n (j := 1) dX8_readsDeed_75 rfl rfl ?_
          refine V_cVN (ctX9_advance hn hf) gc_X8_59 rfl h5.1 ⟨_, h5.2, by decide, rfl⟩ ⟨by decide, by decide, Nat.zero_le _, Nat.zero_le _⟩ (Nat.le_of_ble_eq_true rfl) dX8_readsDeed_76 rfl hn (fun z23 hf => ?_)
          refine V_aload_n (j := 2) dX8_readsDeed_79 rfl rfl ?_
          refine V_dup dX8_readsDeed_80 rfl ?_
          refine V_getI fl_X8_113 rfl h1.1 h1.2 dX8_readsDeed_81 ?_
          refine V_iconst (v := (1 : Int32)) dX8_readsDeed_84 (by decide) ?_
          refine V_iadd dX8_readsDeed_85 ?_
          refine V_putI fl_X8_113 rfl rfl rfl rfl h1.1 h1.2 dX8_readsDeed_86 ?_
          refine V_nz (fun z24 ez24 => ?_)
          have hf := hf z24 ez24
          refine V_iconst (v := (1 : Int32)) dX8_readsDeed_89 (by decide) ?_
          exact V_ireturn dX8_readsDeed_90 rfl (by decide) (Nat.le_refl 0) (kI_of hf)
        · have hf := it_t (Classical.not_not.mp h25) hf
          refine V_iconst (v := (0 : Int32)) dX8_readsDeed_63 (by decide) ?_
          exact V_ireturn dX8_readsDeed_64 rfl (by decide) (Nat.le_refl 0) (kI_of hf)
    · have hf := it_t (Classical.not_not.mp h27) hf
      refine V_iconst (v := (0 : Int32)) dX8_readsDeed_28 (by decide) ?_
      exact V_ireturn dX8_readsDeed_29 rfl (by decide) (Nat.le_refl 0) (kI_of hf)
  · have hf := it_f h31 hf
    refine V_aload_n (j := 1) dX8_readsDeed_10 rfl rfl ?_
    refine V_iconst (v := (5 : Int32)) dX8_readsDeed_11 (by decide) ?_
    obtain ⟨h30, hf⟩ := hf
    refine V_cVI (ctX9_isWrong hn hf) gc_X8_52 rfl h30.1 ⟨_, h30.2, by decide, rfl⟩ ⟨by decide, by decide, Nat.zero_le _, Nat.zero_le _⟩ (Nat.le_of_ble_eq_true rfl) dX8_readsDeed_12 rfl hn (fun r28 z29 hf => ?_)
    exact V_ireturn dX8_readsDeed_15 rfl hf.1 (Nat.le_refl 0) (kI_of hf.2)
