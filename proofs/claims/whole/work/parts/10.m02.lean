def wX11_shown (n : Nat) (sh : Nat → Nat × Nat) (a0 : Nat) (x1 : Int32) (x2 : Int32) (x3 : Int32) (z : gS) (P : Int32 → gS → Prop) : Prop := (oO n sh a0 7) ∧ (∃ t2 : Nat, gr z a0 7 = some t2 ∧ ((oO n sh t2 4) ∧ (wX7_hasPane n sh t2 x1 z (fun (r3 : Int32) (z4 : gS) => if r3 = 0 then P (-2 : Int32) z4 else (∃ t6 : Nat, gr z4 a0 1 = some t6 ∧ ((oO n sh t6 6) ∧ (wX10_isOpenToAll n sh t6 x1 z4 (fun (r7 : Int32) (z8 : gS) => if r7 = 0 then P (-2 : Int32) z8 else (if x2 < 0 then P (-2 : Int32) z8 else (∃ t10 : Nat, gr z8 a0 1 = some t10 ∧ ((oO n sh t10 6) ∧ (∃ t12 : Nat, gr z8 t10 6 = some t12 ∧ ((oA n sh t12 1) ∧ ((vp_in x1 (sh t12).2) ∧ (if x2 < (gi z8 t12 x1.toNatClampNeg) then (∃ t15 : Nat, gr z8 a0 1 = some t15 ∧ ((oO n sh t15 6) ∧ (wX10_markAt n sh t15 x1 x2 z8 (fun (r16 : Int32) (z17 : gS) => if x3 = (0 : Int32) then (∃ t20 : Nat, gr z17 a0 1 = some t20 ∧ (∃ t21 : Nat, gr z17 a0 7 = some t21 ∧ ((oO n sh t20 6) ∧ (wX10_tellsWho n sh t20 t21 x1 z17 (fun (r22 : Int32) (z23 : gS) => if r22 = 0 then P (-1 : Int32) z23 else (wX10_whoOf n sh r16 z23 (fun (r25 : Int32) (z26 : gS) => P r25 z26))))))) else (if x3 = (1 : Int32) then (wX10_deedOf n sh r16 z17 (fun (r29 : Int32) (z30 : gS) => P r29 z30)) else (if x3 = (2 : Int32) then (wX10_cellOf n sh r16 z17 (fun (r32 : Int32) (z33 : gS) => P r32 z33)) else (if x3 = (3 : Int32) then (wX10_ageOf n sh r16 z17 (fun (r35 : Int32) (z36 : gS) => P r35 z36)) else P (-2 : Int32) z17))))))) else P (-2 : Int32) z8)))))))))))))))
set_option maxRecDepth 100000 in
set_option maxHeartbeats 4000000 in
theorem ctX11_shown {E : gE} {n : Nat} {sh : Nat → Nat × Nat} {a0 : Nat} {x1 : Int32} {x2 : Int32} {x3 : Int32} {z : gS} {P : Int32 → gS → Prop} (hn : gOK E n) (hf : wX11_shown n sh a0 x1 x2 x3 z P) : VM E 2 0 gyX11_shown [.ref a0, .int x1, .int x2, .int x3] n sh z (kI n sh P) := by
  unfold wX11_shown at hf
  refine VM.of (by decide +kernel) (Nat.le_of_ble_eq_true rfl) (fun _ _ _ h => h.2.2) ?_
  show V E (gR 2 0) gyX11_shown 0 0 0 [(0, .ref a0), (1, .int x1), (2, .int x2), (3, .int x3)] [] n sh z (kI n sh P)
  refine V_aload_n (j := 0) dX11_shown_0 rfl rfl ?_
  obtain ⟨h1, hf⟩ := hf
  obtain ⟨t2, et2, hf⟩ := hf
  refine V_getR fl_X11_51 rfl h1.1 h1.2 et2 dX11_shown_1 ?_
  refine V_iload_n (j := 1) dX11_shown_4 rfl rfl ?_
  obtain ⟨h5, hf⟩ := hf
  refine V_cVI (ctX7_hasPane hn hf) gc_X11_101 rfl h5.1 ⟨_, h5.2, by decide, rfl⟩ ⟨by decide, by decide, Nat.zero_le _, Nat.zero_le _⟩ (Nat.le_of_ble_eq_true rfl) dX11_shown_5 rfl hn (fun r3 z4 hf => ?_)
  refine V_if_eq (tgt := 39) dX11_shown_8 (by decide) (fun h40 => ?_) (fun h40 => ?_)
  · have hf := it_t h40 hf
    refine V_bipush (v := (-2 : Int32)) dX11_shown_39 (by decide) ?_
    exact V_ireturn dX11_shown_41 rfl rfl (Nat.le_refl 0) (kI_of hf)
  · have hf := it_f h40 hf
    refine V_aload_n (j := 0) dX11_shown_11 rfl rfl ?_
    obtain ⟨t6, et6, hf⟩ := hf
    refine V_getR fl_X11_19 rfl h1.1 h1.2 et6 dX11_shown_12 ?_
    refine V_iload_n (j := 1) dX11_shown_15 rfl rfl ?_
    obtain ⟨h9, hf⟩ := hf
    refine V_cVI (ctX10_isOpenToAll hn hf) gc_X11_125 rfl h9.1 ⟨_, h9.2, by decide, rfl⟩ ⟨by decide, by decide, Nat.zero_le _, Nat.zero_le _⟩ (Nat.le_of_ble_eq_true rfl) dX11_shown_16 rfl hn (fun r7 z8 hf => ?_)
    refine V_if_eq (tgt := 39) dX11_shown_19 (by decide) (fun h39 => ?_) (fun h39 => ?_)
    · have hf := it_t h39 hf
      refine V_bipush (v := (-2 : Int32)) dX11_shown_39 (by decide) ?_
      exact V_ireturn dX11_shown_41 rfl rfl (Nat.le_refl 0) (kI_of hf)
    · have hf := it_f h39 hf
      refine V_iload_n (j := 2) dX11_shown_22 rfl rfl ?_
      refine V_if_lt (tgt := 39) dX11_shown_23 (by decide) (fun h38 => ?_) (fun h38 => ?_)
      · have hf := it_t h38 hf
        refine V_bipush (v := (-2 : Int32)) dX11_shown_39 (by decide) ?_
        exact V_ireturn dX11_shown_41 rfl rfl (Nat.le_refl 0) (kI_of hf)
      · have hf := it_f h38 hf
        refine V_iload_n (j := 2) dX11_shown_26 rfl rfl ?_
        refine V_aload_n (j := 0) dX11_shown_27 rfl rfl ?_
        obtain ⟨t10, et10, hf⟩ := hf
        refine V_getR fl_X11_19 rfl h1.1 h1.2 et10 dX11_shown_28 ?_
        obtain ⟨h11, hf⟩ := hf
        obtain ⟨t12, et12, hf⟩ := hf
        refine V_getR fl_X11_112 rfl h11.1 h11.2 et12 dX11_shown_31 ?_
        refine V_iload_n (j := 1) dX11_shown_34 rfl rfl ?_
        obtain ⟨h13, hf⟩ := hf
        obtain ⟨h14, hf⟩ := hf
        refine V_iald h13.1 h13.s h14 dX11_shown_35 ?_
        refine V_icmp_lt (tgt := 42) dX11_shown_36 (by decide) (fun h37 => ?_) (fun h37 => ?_)
        · have hf := it_t h37 hf
          refine V_aload_n (j := 0) dX11_shown_42 rfl rfl ?_
          obtain ⟨t15, et15, hf⟩ := hf
          refine V_getR fl_X11_19 rfl h1.1 h1.2 et15 dX11_shown_43 ?_
          refine V_iload_n (j := 1) dX11_shown_46 rfl rfl ?_
          refine V_iload_n (j := 2) dX11_shown_47 rfl rfl ?_
          obtain ⟨h18, hf⟩ := hf
          refine V_cVI (ctX10_markAt hn hf) gc_X11_128 rfl h18.1 ⟨_, h18.2, by decide, rfl⟩ ⟨by decide, by decide, Nat.zero_le _, Nat.zero_le _⟩ (Nat.le_of_ble_eq_true rfl) dX11_shown_48 rfl hn (fun r16 z17 hf => ?_)
          refine V_istore (ls2 := [(4, .int r16), (0, .ref a0), (1, .int x1), (2, .int x2), (3, .int x3)]) dX11_shown_51 (by decide) rfl ?_
          refine V_iload_n (j := 4) dX11_shown_53 rfl rfl ?_
          by_cases h19 : x3 = (0 : Int32)
          · have hf := it_t h19 hf
            refine V_tableIn (off := 30) (tgt := 84) dX11_shown_54 (by rw [h19]; decide) (by rw [h19]; decide) (by rw [h19]; decide) (by decide) ?_
            refine V_aload_n (j := 1) dX11_shown_84 rfl rfl ?_
            obtain ⟨t20, et20, hf⟩ := hf
            refine V_getR fl_X11_19 rfl h1.1 h1.2 et20 dX11_shown_85 ?_
            refine V_aload_n (j := 1) dX11_shown_88 rfl rfl ?_
            obtain ⟨t21, et21, hf⟩ := hf
            refine V_getR fl_X11_51 rfl h1.1 h1.2 et21 dX11_shown_89 ?_
            refine V_iload_n (j := 2) dX11_shown_92 rfl rfl ?_
            obtain ⟨h24, hf⟩ := hf
            refine V_cVI (ctX10_tellsWho hn hf) gc_X11_132 rfl h24.1 ⟨_, h24.2, by decide, rfl⟩ ⟨by decide, by decide, Nat.zero_le _, Nat.zero_le _⟩ (Nat.le_of_ble_eq_true rfl) dX11_shown_93 rfl hn (fun r22 z23 hf => ?_)
            refine V_if_eq (tgt := 107) dX11_shown_96 (by decide) (fun h27 => ?_) (fun h27 => ?_)
            · have hf := it_t h27 hf
              refine V_iconst (v := (-1 : Int32)) dX11_shown_107 (by decide) ?_
              exact V_ireturn dX11_shown_108 rfl rfl (Nat.le_refl 0) (kI_of hf)
            · have hf := it_f h27 hf
              refine V_iload (j := 0) dX11_shown_99 rfl ?_
              refine V_cSI (ctX10_whoOf hn hf) gc_X11_136 rfl ⟨by decide, by decide, Nat.zero_le _, Nat.zero_le _⟩ (Nat.le_of_ble_eq_true rfl) dX11_shown_101 rfl hn (fun r25 z26 hf => ?_)
              refine V_goto (tgt := 108) dX11_shown_104 (by decide) ?_
              exact V_ireturn dX11_shown_108 rfl rfl (Nat.le_refl 0) (kI_of hf)
          · have hf := it_f h19 hf
            by_cases h28 : x3 = (1 : Int32)
            · have hf := it_t h28 hf
              refine V_tableIn (off := 55) (tgt := 109) dX11_shown_54 (by rw [h28]; decide) (by rw [h28]; decide) (by rw [h28]; decide) (by decide) ?_
              refine V_iload (j := 0) dX11_shown_109 rfl ?_
              refine V_cSI (ctX10_deedOf hn hf) gc_X11_140 rfl ⟨by decide, by decide, Nat.zero_le _, Nat.zero_le _⟩ (Nat.le_of_ble_eq_true rfl) dX11_shown_111 rfl hn (fun r29 z30 hf => ?_)
              exact V_ireturn dX11_shown_114 rfl rfl (Nat.le_refl 0) (kI_of hf)
            · have hf := it_f h28 hf
              by_cases h31 : x3 = (2 : Int32)
              · have hf := it_t h31 hf
                refine V_tableIn (off := 61) (tgt := 115) dX11_shown_54 (by rw [h31]; decide) (by rw [h31]; decide) (by rw [h31]; decide) (by decide) ?_
                refine V_iload (j := 0) dX11_shown_115 rfl ?_
                refine V_cSI (ctX10_cellOf hn hf) gc_X11_143 rfl ⟨by decide, by decide, Nat.zero_le _, Nat.zero_le _⟩ (Nat.le_of_ble_eq_true rfl) dX11_shown_117 rfl hn (fun r32 z33 hf => ?_)
                exact V_ireturn dX11_shown_120 rfl rfl (Nat.le_refl 0) (kI_of hf)
              · have hf := it_f h31 hf
                by_cases h34 : x3 = (3 : Int32)
                · have hf := it_t h34 hf
                  refine V_tableIn (off := 67) (tgt := 121) dX11_shown_54 (by rw [h34]; decide) (by rw [h34]; decide) (by rw [h34]; decide) (by decide) ?_
                  refine V_iload (j := 0) dX11_shown_121 rfl ?_
                  refine V_cSI (ctX10_ageOf hn hf) gc_X11_146 rfl ⟨by decide, by decide, Nat.zero_le _, Nat.zero_le _⟩ (Nat.le_of_ble_eq_true rfl) dX11_shown_123 rfl hn (fun r35 z36 hf => ?_)
                  exact V_ireturn dX11_shown_126 rfl rfl (Nat.le_refl 0) (kI_of hf)
                · have hf := it_f h34 hf
                  refine V_tableOut (tgt := 127) dX11_shown_54 (by have qh19 := sw_ne (a := 0) h19 (by decide); have qh28 := sw_ne (a := 1) h28 (by decide); have qh31 := sw_ne (a := 2) h31 (by decide); have qh34 := sw_ne (a := 3) h34 (by decide); omega) (by decide) ?_
                  refine V_bipush (v := (-2 : Int32)) dX11_shown_127 (by decide) ?_
                  exact V_ireturn dX11_shown_129 rfl rfl (Nat.le_refl 0) (kI_of hf)
        · have hf := it_f h37 hf
          refine V_bipush (v := (-2 : Int32)) dX11_shown_39 (by decide) ?_
          exact V_ireturn dX11_shown_41 rfl rfl (Nat.le_refl 0) (kI_of hf)
def wX7_hasPerson (n : Nat) (sh : Nat → Nat × Nat) (a0 : Nat) (x1 : Int32) (z : gS) (P : Int32 → gS → Prop) : Prop := if x1 < 0 then P (0 : Int32) z else ((oO n sh a0 4) ∧ (if (gi z a0 11) ≤ x1 then P (0 : Int32) z else P (1 : Int32) z))
set_option maxRecDepth 100000 in
set_option maxHeartbeats 4000000 in
theorem ctX7_hasPerson {E : gE} {n : Nat} {sh : Nat → Nat × Nat} {a0 : Nat} {x1 : Int32} {z : gS} {P : Int32 → gS → Prop} (hn : gOK E n) (hf : wX7_hasPerson n sh a0 x1 z P) : VM E 0 0 gyX7_hasPerson [.ref a0, .int x1] n sh z (kI n sh P) := by
  unfold wX7_hasPerson at hf
  refine VM.of (by decide +kernel) (Nat.le_of_ble_eq_true rfl) (fun _ _ _ h => h.2.2) ?_
  show V E (gR 0 0) gyX7_hasPerson 0 0 0 [(0, .ref a0), (1, .int x1)] [] n sh z (kI n sh P)
  refine V_iload_n (j := 1) dX7_hasPerson_0 rfl rfl ?_
  refine V_if_lt (tgt := 16) dX7_hasPerson_1 (by decide) (fun h3 => ?_) (fun h3 => ?_)
  · have hf := it_t h3 hf
    refine V_iconst (v := (0 : Int32)) dX7_hasPerson_16 (by decide) ?_
    exact V_ireturn dX7_hasPerson_17 rfl (by decide) (Nat.le_refl 0) (kI_of hf)
  · have hf := it_f h3 hf
    refine V_iload_n (j := 1) dX7_hasPerson_4 rfl rfl ?_
    refine V_aload_n (j := 0) dX7_hasPerson_5 rfl rfl ?_
    obtain ⟨h1, hf⟩ := hf
    refine V_getI fl_X7_51 rfl h1.1 h1.2 dX7_hasPerson_6 ?_
    refine V_icmp_ge (tgt := 16) dX7_hasPerson_9 (by decide) (fun h2 => ?_) (fun h2 => ?_)
    · have hf := it_t h2 hf
      refine V_iconst (v := (0 : Int32)) dX7_hasPerson_16 (by decide) ?_
      exact V_ireturn dX7_hasPerson_17 rfl (by decide) (Nat.le_refl 0) (kI_of hf)
    · have hf := it_f h2 hf
      refine V_iconst (v := (1 : Int32)) dX7_hasPerson_12 (by decide) ?_
      refine V_goto (tgt := 17) dX7_hasPerson_13 (by decide) ?_
      exact V_ireturn dX7_hasPerson_17 rfl (by decide) (Nat.le_refl 0) (kI_of hf)
def wX11_person (n : Nat) (sh : Nat → Nat × Nat) (a0 : Nat) (x1 : Int32) (z : gS) (P : Int32 → gS → Prop) : Prop := (oO n sh a0 7) ∧ (∃ t2 : Nat, gr z a0 7 = some t2 ∧ ((oO n sh t2 4) ∧ (wX7_hasPerson n sh t2 x1 z (fun (r3 : Int32) (z4 : gS) => if r3 = 0 then P (-1 : Int32) z4 else (∃ t6 : Nat, gr z4 a0 1 = some t6 ∧ ((oO n sh t6 6) ∧ (∃ t8 : Nat, gr z4 t6 5 = some t8 ∧ ((oA n sh t8 1) ∧ ((vp_in x1 (sh t8).2) ∧ P (gi z4 t8 x1.toNatClampNeg) z4)))))))))
set_option maxRecDepth 100000 in
set_option maxHeartbeats 4000000 in
theorem ctX11_person {E : gE} {n : Nat} {sh : Nat → Nat × Nat} {a0 : Nat} {x1 : Int32} {z : gS} {P : Int32 → gS → Prop} (hn : gOK E n) (hf : wX11_person n sh a0 x1 z P) : VM E 1 0 gyX11_person [.ref a0, .int x1] n sh z (kI n sh P) := by
  unfold wX11_person at hf
  refine VM.of (by decide +kernel) (Nat.le_of_ble_eq_true rfl) (fun _ _ _ h => h.2.2) ?_
  show V E (gR 1 0) gyX11_person 0 0 0 [(0, .ref a0), (1, .int x1)] [] n sh z (kI n sh P)
  refine V_aload_n (j := 0) dX11_person_0 rfl rfl ?_
  obtain ⟨h1, hf⟩ := hf
  obtain ⟨t2, et2, hf⟩ := hf
  refine V_getR fl_X11_51 rfl h1.1 h1.2 et2 dX11_person_1 ?_
  refine V_iload_n (j := 1) dX11_person_4 rfl rfl ?_
  obtain ⟨h5, hf⟩ := hf
  refine V_cVI (ctX7_hasPerson hn hf) gc_X11_149 rfl h5.1 ⟨_, h5.2, by decide, rfl⟩ ⟨by decide, by decide, Nat.zero_le _, Nat.zero_le _⟩ (Nat.le_of_ble_eq_true rfl) dX11_person_5 rfl hn (fun r3 z4 hf => ?_)
  refine V_if_eq (tgt := 23) dX11_person_8 (by decide) (fun h11 => ?_) (fun h11 => ?_)
  · have hf := it_t h11 hf
    refine V_iconst (v := (-1 : Int32)) dX11_person_23 (by decide) ?_
    exact V_ireturn dX11_person_24 rfl rfl (Nat.le_refl 0) (kI_of hf)
  · have hf := it_f h11 hf
    refine V_aload_n (j := 0) dX11_person_11 rfl rfl ?_
    obtain ⟨t6, et6, hf⟩ := hf
    refine V_getR fl_X11_19 rfl h1.1 h1.2 et6 dX11_person_12 ?_
    obtain ⟨h7, hf⟩ := hf
    obtain ⟨t8, et8, hf⟩ := hf
    refine V_getR fl_X11_152 rfl h7.1 h7.2 et8 dX11_person_15 ?_
    refine V_iload_n (j := 1) dX11_person_18 rfl rfl ?_
    obtain ⟨h9, hf⟩ := hf
    obtain ⟨h10, hf⟩ := hf
    refine V_iald h9.1 h9.s h10 dX11_person_19 ?_
    refine V_goto (tgt := 24) dX11_person_20 (by decide) ?_
    exact V_ireturn dX11_person_24 rfl rfl (Nat.le_refl 0) (kI_of hf)
def wX10_canStep (n : Nat) (sh : Nat → Nat × Nat) (a0 : Nat) (x1 : Int32) (x2 : Int32) (z : gS) (P : Int32 → gS → Prop) : Prop := if x2 < 0 then P (0 : Int32) z else (if (10 : Int32) ≤ x2 then P (0 : Int32) z else ((oO n sh a0 6) ∧ (∃ t2 : Nat, gr z a0 5 = some t2 ∧ ((oA n sh t2 1) ∧ ((vp_in x1 (sh t2).2) ∧ (if (if 0 ≤ (x2 - (gi z t2 x1.toNatClampNeg)) then (x2 - (gi z t2 x1.toNatClampNeg)) else 0 - (x2 - (gi z t2 x1.toNatClampNeg))) = (1 : Int32) then P (1 : Int32) z else P (0 : Int32) z))))))
set_option maxRecDepth 100000 in
set_option maxHeartbeats 4000000 in
theorem ctX10_canStep {E : gE} {n : Nat} {sh : Nat → Nat × Nat} {a0 : Nat} {x1 : Int32} {x2 : Int32} {z : gS} {P : Int32 → gS → Prop} (hn : gOK E n) (hf : wX10_canStep n sh a0 x1 x2 z P) : VM E 1 0 gyX10_canStep [.ref a0, .int x1, .int x2] n sh z (kI n sh P) := by
  unfold wX10_canStep at hf
  refine VM.of (by decide +kernel) (Nat.le_of_ble_eq_true rfl) (fun _ _ _ h => h.2.2) ?_
  show V E (gR 1 0) gyX10_canStep 0 0 0 [(0, .ref a0), (1, .int x1), (2, .int x2)] [] n sh z (kI n sh P)
  refine V_iload_n (j := 2) dX10_canStep_0 rfl rfl ?_
  refine V_if_lt (tgt := 29) dX10_canStep_1 (by decide) (fun h7 => ?_) (fun h7 => ?_)
  · have hf := it_t h7 hf
    refine V_iconst (v := (0 : Int32)) dX10_canStep_29 (by decide) ?_
    exact V_ireturn dX10_canStep_30 rfl (by decide) (Nat.le_refl 0) (kI_of hf)
  · have hf := it_f h7 hf
    refine V_iload_n (j := 2) dX10_canStep_4 rfl rfl ?_
    refine V_bipush (v := (10 : Int32)) dX10_canStep_5 (by decide) ?_
    refine V_icmp_ge (tgt := 29) dX10_canStep_7 (by decide) (fun h6 => ?_) (fun h6 => ?_)
    · have hf := it_t h6 hf
      refine V_iconst (v := (0 : Int32)) dX10_canStep_29 (by decide) ?_
      exact V_ireturn dX10_canStep_30 rfl (by decide) (Nat.le_refl 0) (kI_of hf)
    · have hf := it_f h6 hf
      refine V_iload_n (j := 2) dX10_canStep_10 rfl rfl ?_
      refine V_aload_n (j := 0) dX10_canStep_11 rfl rfl ?_
      obtain ⟨h1, hf⟩ := hf
      obtain ⟨t2, et2, hf⟩ := hf
      refine V_getR fl_X10_27 rfl h1.1 h1.2 et2 dX10_canStep_12 ?_
      refine V_iload_n (j := 1) dX10_canStep_15 rfl rfl ?_
      obtain ⟨h3, hf⟩ := hf
      obtain ⟨h4, hf⟩ := hf
      refine V_iald h3.1 h3.s h4 dX10_canStep_16 ?_
      refine V_isub dX10_canStep_17 ?_
      refine V_abs ma_X10_72 mas_abs mai mac_abs ⟨by decide, by decide, Nat.zero_le _, Nat.zero_le _⟩ (Nat.le_of_ble_eq_true rfl) dX10_canStep_18 ?_
      refine V_iconst (v := (1 : Int32)) dX10_canStep_21 (by decide) ?_
      refine V_icmp_ne (tgt := 29) dX10_canStep_22 (by decide) (fun h5 => ?_) (fun h5 => ?_)
      · have hf := it_f h5 hf
        refine V_iconst (v := (0 : Int32)) dX10_canStep_29 (by decide) ?_
        exact V_ireturn dX10_canStep_30 rfl (by decide) (Nat.le_refl 0) (kI_of hf)
      · have hf := it_t (Classical.not_not.mp h5) hf
        refine V_iconst (v := (1 : Int32)) dX10_canStep_25 (by decide) ?_
        refine V_goto (tgt := 30) dX10_canStep_26 (by decide) ?_
        exact V_ireturn dX10_canStep_30 rfl (by decide) (Nat.le_refl 0) (kI_of hf)
def wX10_copy (n : Nat) (sh : Nat → Nat × Nat) (a0 : Nat) (a1 : Nat) (z : gS) (P : gS → Prop) : Prop := (oO n sh a1 6) ∧ ((oO n sh a0 6) ∧ (∀ z3 : gS, z3 = si z a0 0 (gi z a1 0) → (∀ z4 : gS, z4 = si z3 a0 1 (gi z3 a1 1) → (∀ z5 : gS, z5 = si z4 a0 2 (gi z4 a1 2) → (∃ t6 : Nat, gr z5 a1 5 = some t6 ∧ (∃ t7 : Nat, gr z5 a0 5 = some t7 ∧ ((oA n sh t6 1) ∧ ((oA n sh t7 1) ∧ (((0 : Int32).toNatClampNeg + (5 : Int32).toNatClampNeg ≤ (sh t6).2) ∧ ((0 : Int32).toNatClampNeg + (5 : Int32).toNatClampNeg ≤ (sh t7).2) ∧ (∀ z12 : gS, z12 = sA z5 t7 (va_cpy (gi z5 t6) (gi z5 t7) (0 : Int32).toNatClampNeg (0 : Int32).toNatClampNeg (5 : Int32).toNatClampNeg) → (∃ t13 : Nat, gr z12 a1 6 = some t13 ∧ (∃ t14 : Nat, gr z12 a0 6 = some t14 ∧ ((oA n sh t13 1) ∧ ((oA n sh t14 1) ∧ (((0 : Int32).toNatClampNeg + (6 : Int32).toNatClampNeg ≤ (sh t13).2) ∧ ((0 : Int32).toNatClampNeg + (6 : Int32).toNatClampNeg ≤ (sh t14).2) ∧ (∀ z19 : gS, z19 = sA z12 t14 (va_cpy (gi z12 t13) (gi z12 t14) (0 : Int32).toNatClampNeg (0 : Int32).toNatClampNeg (6 : Int32).toNatClampNeg) → (∃ t20 : Nat, gr z19 a1 7 = some t20 ∧ (∃ t21 : Nat, gr z19 a0 7 = some t21 ∧ ((oA n sh t20 1) ∧ ((oA n sh t21 1) ∧ (((0 : Int32).toNatClampNeg + (36 : Int32).toNatClampNeg ≤ (sh t20).2) ∧ ((0 : Int32).toNatClampNeg + (36 : Int32).toNatClampNeg ≤ (sh t21).2) ∧ (∀ z26 : gS, z26 = sA z19 t21 (va_cpy (gi z19 t20) (gi z19 t21) (0 : Int32).toNatClampNeg (0 : Int32).toNatClampNeg (36 : Int32).toNatClampNeg) → P z26))))))))))))))))))))))
set_option maxRecDepth 100000 in
set_option maxHeartbeats 4000000 in
theorem ctX10_copy {E : gE} {n : Nat} {sh : Nat → Nat × Nat} {a0 : Nat} {a1 : Nat} {z : gS} {P : gS → Prop} (hn : gOK E n) (hf : wX10_copy n sh a0 a1 z P) : VM E 1 0 gyX10_copy [.ref a0, .ref a1] n sh z (kN n sh P) := by
  unfold wX10_copy at hf
  refine VM.of (by decide +kernel) (Nat.le_of_ble_eq_true rfl) (fun _ _ _ h => h.2.2) ?_
  show V E (gR 1 0) gyX10_copy 0 0 0 [(0, .ref a0), (1, .ref a1)] [] n sh z (kN n sh P)
  refine V_aload_n (j := 0) dX10_copy_0 rfl rfl ?_
  refine V_aload_n (j := 1) dX10_copy_1 rfl rfl ?_
  obtain ⟨h1, hf⟩ := hf
  refine V_getI fl_X10_11 rfl h1.1 h1.2 dX10_copy_2 ?_
  obtain ⟨h2, hf⟩ := hf
  refine V_putI fl_X10_11 rfl rfl rfl rfl h2.1 h2.2 dX10_copy_5 ?_
  refine V_nz (fun z3 ez3 => ?_)
  have hf := hf z3 ez3
  refine V_aload_n (j := 0) dX10_copy_8 rfl rfl ?_
  refine V_aload_n (j := 1) dX10_copy_9 rfl rfl ?_
  refine V_getI fl_X10_15 rfl h1.1 h1.2 dX10_copy_10 ?_
  refine V_putI fl_X10_15 rfl rfl rfl rfl h2.1 h2.2 dX10_copy_13 ?_
  refine V_nz (fun z4 ez4 => ?_)
  have hf := hf z4 ez4
  refine V_aload_n (j := 0) dX10_copy_16 rfl rfl ?_
  refine V_aload_n (j := 1) dX10_copy_17 rfl rfl ?_
  refine V_getI fl_X10_18 rfl h1.1 h1.2 dX10_copy_18 ?_
  refine V_putI fl_X10_18 rfl rfl rfl rfl h2.1 h2.2 dX10_copy_21 ?_
  refine V_nz (fun z5 ez5 => ?_)
  have hf := hf z5 ez5
  refine V_aload_n (j := 1) dX10_copy_24 rfl rfl ?_
  obtain ⟨t6, et6, hf⟩ := hf
  refine V_getR fl_X10_27 rfl h1.1 h1.2 et6 dX10_copy_25 ?_
  refine V_iconst (v := (0 : Int32)) dX10_copy_28 (by decide) ?_
  refine V_aload_n (j := 0) dX10_copy_29 rfl rfl ?_
  obtain ⟨t7, et7, hf⟩ := hf
  refine V_getR fl_X10_27 rfl h2.1 h2.2 et7 dX10_copy_30 ?_
  refine V_iconst (v := (0 : Int32)) dX10_copy_33 (by decide) ?_
  refine V_iconst (v := (5 : Int32)) dX10_copy_34 (by decide) ?_
  obtain ⟨h8, hf⟩ := hf
  obtain ⟨h9, hf⟩ := hf
  obtain ⟨h10, h11, hf⟩ := hf
  refine V_copy ac_X10_42 acn acs aci h8.1 h8.s h9.1 h9.s (by decide) (by decide) (by decide) h10 h11 ⟨by decide, by decide⟩ (Nat.le_of_ble_eq_true rfl) dX10_copy_35 ?_
  refine V_nz (fun z12 ez12 => ?_)
  have hf := hf z12 ez12
  refine V_aload_n (j := 1) dX10_copy_38 rfl rfl ?_
  obtain ⟨t13, et13, hf⟩ := hf
  refine V_getR fl_X10_31 rfl h1.1 h1.2 et13 dX10_copy_39 ?_
  refine V_iconst (v := (0 : Int32)) dX10_copy_42 (by decide) ?_
  refine V_aload_n (j := 0) dX10_copy_43 rfl rfl ?_
  obtain ⟨t14, et14, hf⟩ := hf
  refine V_getR fl_X10_31 rfl h2.1 h2.2 et14 dX10_copy_44 ?_
  refine V_iconst (v := (0 : Int32)) dX10_copy_47 (by decide) ?_
  refine V_bipush (v := (6 : Int32)) dX10_copy_48 (by decide) ?_
  obtain ⟨h15, hf⟩ := hf
  obtain ⟨h16, hf⟩ := hf
  obtain ⟨h17, h18, hf⟩ := hf
  refine V_copy ac_X10_42 acn acs aci h15.1 h15.s h16.1 h16.s (by decide) (by decide) (by decide) h17 h18 ⟨by decide, by decide⟩ (Nat.le_of_ble_eq_true rfl) dX10_copy_50 ?_
  refine V_nz (fun z19 ez19 => ?_)
  have hf := hf z19 ez19
  refine V_aload_n (j := 1) dX10_copy_53 rfl rfl ?_
  obtain ⟨t20, et20, hf⟩ := hf
  refine V_getR fl_X10_34 rfl h1.1 h1.2 et20 dX10_copy_54 ?_
  refine V_iconst (v := (0 : Int32)) dX10_copy_57 (by decide) ?_
  refine V_aload_n (j := 0) dX10_copy_58 rfl rfl ?_
  obtain ⟨t21, et21, hf⟩ := hf
  refine V_getR fl_X10_34 rfl h2.1 h2.2 et21 dX10_copy_59 ?_
  refine V_iconst (v := (0 : Int32)) dX10_copy_62 (by decide) ?_
  refine V_bipush (v := (36 : Int32)) dX10_copy_63 (by decide) ?_
  obtain ⟨h22, hf⟩ := hf
  obtain ⟨h23, hf⟩ := hf
  obtain ⟨h24, h25, hf⟩ := hf
  refine V_copy ac_X10_42 acn acs aci h22.1 h22.s h23.1 h23.s (by decide) (by decide) (by decide) h24 h25 ⟨by decide, by decide⟩ (Nat.le_of_ble_eq_true rfl) dX10_copy_65 ?_
  refine V_nz (fun z26 ez26 => ?_)
  have hf := hf z26 ez26
  exact V_return dX10_copy_68 rfl (Nat.le_refl 0) (kN_of hf)
def wX4_keep (n : Nat) (sh : Nat → Nat × Nat) (a0 : Nat) (a1 : Nat) (z : gS) (P : gS → Prop) : Prop := (oO n sh a0 2) ∧ (∃ t2 : Nat, gr z a0 0 = some t2 ∧ ((oA n sh t2 5) ∧ ((vp_in (gi z a0 2) (sh t2).2) ∧ ∃ t5 : Nat, gr z t2 (gi z a0 2).toNatClampNeg = some t5 ∧ ((oO n sh t5 6) ∧ (wX10_copy n sh t5 a1 z (fun (z7 : gS) => ∀ z9 : gS, z9 = si z7 a0 2 (((gi z7 a0 2) + (1 : Int32)) - ((gi z7 a0 2) + (1 : Int32)) / (16 : Int32) * (16 : Int32)) → (∀ z10 : gS, z10 = si z9 a0 1 (if (16 : Int32) < ((gi z9 a0 1) + (1 : Int32)) then (16 : Int32) else ((gi z9 a0 1) + (1 : Int32))) → P z10)))))))
set_option maxRecDepth 100000 in
set_option maxHeartbeats 4000000 in
theorem ctX4_keep {E : gE} {n : Nat} {sh : Nat → Nat × Nat} {a0 : Nat} {a1 : Nat} {z : gS} {P : gS → Prop} (hn : gOK E n) (hf : wX4_keep n sh a0 a1 z P) : VM E 2 0 gyX4_keep [.ref a0, .ref a1] n sh z (kN n sh P) := by
  unfold wX4_keep at hf
  refine VM.of (by decide +kernel) (Nat.le_of_ble_eq_true rfl) (fun _ _ _ h => h.2.2) ?_
  show V E (gR 2 0) gyX4_keep 0 0 0 [(0, .ref a0), (1, .ref a1)] [] n sh z (kN n sh P)
  refine V_aload_n (j := 0) dX4_keep_0 rfl rfl ?_
  obtain ⟨h1, hf⟩ := hf
  obtain ⟨t2, et2, hf⟩ := hf
  refine V_getR fl_X4_11 rfl h1.1 h1.2 et2 dX4_keep_1 ?_
  refine V_aload_n (j := 0) dX4_keep_4 rfl rfl ?_
  refine V_getI fl_X4_19 rfl h1.1 h1.2 dX4_keep_5 ?_
  obtain ⟨h3, hf⟩ := hf
  obtain ⟨h4, t5, et5, hf⟩ := hf
  refine V_aald h3.1 h3.s h4 et5 dX4_keep_8 ?_
  refine V_aload_n (j := 1) dX4_keep_9 rfl rfl ?_
  obtain ⟨h8, hf⟩ := hf
  refine V_cVN (ctX10_copy hn hf) gc_X4_23 rfl h8.1 ⟨_, h8.2, by decide, rfl⟩ ⟨by decide, by decide, Nat.zero_le _, Nat.zero_le _⟩ (Nat.le_of_ble_eq_true rfl) dX4_keep_10 rfl hn (fun z7 hf => ?_)
  refine V_aload_n (j := 0) dX4_keep_13 rfl rfl ?_
  refine V_aload_n (j := 0) dX4_keep_14 rfl rfl ?_
  refine V_getI fl_X4_19 rfl h1.1 h1.2 dX4_keep_15 ?_
  refine V_iconst (v := (1 : Int32)) dX4_keep_18 (by decide) ?_
  refine V_iadd dX4_keep_19 ?_
  refine V_bipush (v := (16 : Int32)) dX4_keep_20 (by decide) ?_
  refine V_irem dX4_keep_22 (by decide) ?_
  refine V_putI fl_X4_19 rfl rfl rfl rfl h1.1 h1.2 dX4_keep_23 ?_
  refine V_nz (fun z9 ez9 => ?_)
  have hf := hf z9 ez9
  refine V_aload_n (j := 0) dX4_keep_26 rfl rfl ?_
  refine V_aload_n (j := 0) dX4_keep_27 rfl rfl ?_
  refine V_getI fl_X4_15 rfl h1.1 h1.2 dX4_keep_28 ?_
  refine V_iconst (v := (1 : Int32)) dX4_keep_31 (by decide) ?_
  refine V_iadd dX4_keep_32 ?_
  refine V_bipush (v := (16 : Int32)) dX4_keep_33 (by decide) ?_
  refine V_min ma_X4_27 mas_min mai mac_min ⟨by decide, by decide, Nat.zero_le _, Nat.zero_le _⟩ (Nat.le_of_ble_eq_true rfl) dX4_keep_35 ?_
  refine V_putI fl_X4_15 rfl rfl rfl rfl h1.1 h1.2 dX4_keep_38 ?_
  refine V_nz (fun z10 ez10 => ?_)
  have hf := hf z10 ez10
  exact V_return dX4_keep_41 rfl (Nat.le_refl 0) (kN_of hf)
def wX10_steps (n : Nat) (sh : Nat → Nat × Nat) (a0 : Nat) (x1 : Int32) (x2 : Int32) (z : gS) (P : Int32 → gS → Prop) : Prop := (oO n sh a0 6) ∧ (wX10_canStep n sh a0 x1 x2 z (fun (r1 : Int32) (z2 : gS) => if r1 = 0 then P (0 : Int32) z2 else (∃ t4 : Nat, gr z2 a0 5 = some t4 ∧ ((oA n sh t4 1) ∧ ((vp_in x1 (sh t4).2) ∧ (∀ z7 : gS, z7 = si z2 t4 x1.toNatClampNeg x2 → P (1 : Int32) z7))))))
set_option maxRecDepth 100000 in
set_option maxHeartbeats 4000000 in
theorem ctX10_steps {E : gE} {n : Nat} {sh : Nat → Nat × Nat} {a0 : Nat} {x1 : Int32} {x2 : Int32} {z : gS} {P : Int32 → gS → Prop} (hn : gOK E n) (hf : wX10_steps n sh a0 x1 x2 z P) : VM E 2 0 gyX10_steps [.ref a0, .int x1, .int x2] n sh z (kI n sh P) := by
  unfold wX10_steps at hf
  refine VM.of (by decide +kernel) (Nat.le_of_ble_eq_true rfl) (fun _ _ _ h => h.2.2) ?_
  show V E (gR 2 0) gyX10_steps 0 0 0 [(0, .ref a0), (1, .int x1), (2, .int x2)] [] n sh z (kI n sh P)
  refine V_aload_n (j := 0) dX10_steps_0 rfl rfl ?_
  refine V_iload_n (j := 1) dX10_steps_1 rfl rfl ?_
  refine V_iload_n (j := 2) dX10_steps_2 rfl rfl ?_
  obtain ⟨h3, hf⟩ := hf
  refine V_cVI (ctX10_canStep hn hf) gc_X10_77 rfl h3.1 ⟨_, h3.2, by decide, rfl⟩ ⟨by decide, by decide, Nat.zero_le _, Nat.zero_le _⟩ (Nat.le_of_ble_eq_true rfl) dX10_steps_3 rfl hn (fun r1 z2 hf => ?_)
  refine V_if_ne (tgt := 11) dX10_steps_6 (by decide) (fun h8 => ?_) (fun h8 => ?_)
  · have hf := it_f h8 hf
    refine V_aload_n (j := 0) dX10_steps_11 rfl rfl ?_
    obtain ⟨t4, et4, hf⟩ := hf
    refine V_getR fl_X10_27 rfl h3.1 h3.2 et4 dX10_steps_12 ?_
    refine V_iload_n (j := 1) dX10_steps_15 rfl rfl ?_
    refine V_iload_n (j := 2) dX10_steps_16 rfl rfl ?_
    obtain ⟨h5, hf⟩ := hf
    obtain ⟨h6, hf⟩ := hf
    refine V_iast h5.1 h5.s h6 dX10_steps_17 ?_
    refine V_nz (fun z7 ez7 => ?_)
    have hf := hf z7 ez7
    refine V_iconst (v := (1 : Int32)) dX10_steps_18 (by decide) ?_
    exact V_ireturn dX10_steps_19 rfl (by decide) (Nat.le_refl 0) (kI_of hf)
  · have hf := it_t (Classical.not_not.mp h8) hf
    refine V_iconst (v := (0 : Int32)) dX10_steps_9 (by decide) ?_
    exact V_ireturn dX10_steps_10 rfl (by decide) (Nat.le_refl 0) (kI_of hf)
def wX11_walk (n : Nat) (sh : Nat → Nat × Nat) (a0 : Nat) (x1 : Int32) (x2 : Int32) (z : gS) (P : Int32 → gS → Prop) : Prop := (oO n sh a0 7) ∧ (∃ t2 : Nat, gr z a0 7 = some t2 ∧ ((oO n sh t2 4) ∧ (wX7_hasPerson n sh t2 x1 z (fun (r3 : Int32) (z4 : gS) => if r3 = 0 then P (0 : Int32) z4 else (∃ t6 : Nat, gr z4 a0 1 = some t6 ∧ ((oO n sh t6 6) ∧ (wX10_canStep n sh t6 x1 x2 z4 (fun (r7 : Int32) (z8 : gS) => if r7 = 0 then P (0 : Int32) z8 else (∃ t10 : Nat, gr z8 a0 3 = some t10 ∧ (∃ t11 : Nat, gr z8 a0 1 = some t11 ∧ ((oO n sh t10 2) ∧ (wX4_keep n sh t10 t11 z8 (fun (z13 : gS) => ∃ t15 : Nat, gr z13 a0 1 = some t15 ∧ ((oO n sh t15 6) ∧ (wX10_steps n sh t15 x1 x2 z13 (fun (r16 : Int32) (z17 : gS) => (bo r16) ∧ P r16 z17))))))))))))))))
set_option maxRecDepth 100000 in
set_option maxHeartbeats 4000000 in
theorem ctX11_walk {E : gE} {n : Nat} {sh : Nat → Nat × Nat} {a0 : Nat} {x1 : Int32} {x2 : Int32} {z : gS} {P : Int32 → gS → Prop} (hn : gOK E n) (hf : wX11_walk n sh a0 x1 x2 z P) : VM E 3 0 gyX11_walk [.ref a0, .int x1, .int x2] n sh z (kI n sh P) := by
  unfold wX11_walk at hf
  refine VM.of (by decide +kernel) (Nat.le_of_ble_eq_true rfl) (fun _ _ _ h => h.2.2) ?_
  show V E (gR 3 0) gyX11_walk 0 0 0 [(0, .ref a0), (1, .int x1), (2, .int x2)] [] n sh z (kI n sh P)
  refine V_aload_n (j := 0) dX11_walk_0 rfl rfl ?_
  obtain ⟨h1, hf⟩ := hf
  obtain ⟨t2, et2, hf⟩ := hf
  refine V_getR fl_X11_51 rfl h1.1 h1.2 et2 dX11_walk_1 ?_
  refine V_iload_n (j := 1) dX11_walk_4 rfl rfl ?_
  obtain ⟨h5, hf⟩ := hf
  refine V_cVI (ctX7_hasPerson hn hf) gc_X11_149 rfl h5.1 ⟨_, h5.2, by decide, rfl⟩ ⟨by decide, by decide, Nat.zero_le _, Nat.zero_le _⟩ (Nat.le_of_ble_eq_true rfl) dX11_walk_5 rfl hn (fun r3 z4 hf => ?_)
  refine V_if_eq (tgt := 23) dX11_walk_8 (by decide) (fun h20 => ?_) (fun h20 => ?_)
  · have hf := it_t h20 hf
    refine V_iconst (v := (0 : Int32)) dX11_walk_23 (by decide) ?_
    exact V_ireturn dX11_walk_24 rfl (by decide) (Nat.le_refl 0) (kI_of hf)
  · have hf := it_f h20 hf
    refine V_aload_n (j := 0) dX11_walk_11 rfl rfl ?_
    obtain ⟨t6, et6, hf⟩ := hf
    refine V_getR fl_X11_19 rfl h1.1 h1.2 et6 dX11_walk_12 ?_
    refine V_iload_n (j := 1) dX11_walk_15 rfl rfl ?_
    refine V_iload_n (j := 2) dX11_walk_16 rfl rfl ?_
    obtain ⟨h9, hf⟩ := hf
    refine V_cVI (ctX10_canStep hn hf) gc_X11_155 rfl h9.1 ⟨_, h9.2, by decide, rfl⟩ ⟨by decide, by decide, Nat.zero_le _, Nat.zero_le _⟩ (Nat.le_of_ble_eq_true rfl) dX11_walk_17 rfl hn (fun r7 z8 hf => ?_)
    refine V_if_ne (tgt := 25) dX11_walk_20 (by decide) (fun h19 => ?_) (fun h19 => ?_)
    · have hf := it_f h19 hf
      refine V_aload_n (j := 0) dX11_walk_25 rfl rfl ?_
      obtain ⟨t10, et10, hf⟩ := hf
      refine V_getR fl_X11_29 rfl h1.1 h1.2 et10 dX11_walk_26 ?_
      refine V_aload_n (j := 0) dX11_walk_29 rfl rfl ?_
      obtain ⟨t11, et11, hf⟩ := hf
      refine V_getR fl_X11_19 rfl h1.1 h1.2 et11 dX11_walk_30 ?_
      obtain ⟨h14, hf⟩ := hf
      refine V_cVN (ctX4_keep hn hf) gc_X11_159 rfl h14.1 ⟨_, h14.2, by decide, rfl⟩ ⟨by decide, by decide, Nat.zero_le _, Nat.zero_le _⟩ (Nat.le_of_ble_eq_true rfl) dX11_walk_33 rfl hn (fun z13 hf => ?_)
      refine V_aload_n (j := 0) dX11_walk_36 rfl rfl ?_
      obtain ⟨t15, et15, hf⟩ := hf
      refine V_getR fl_X11_19 rfl h1.1 h1.2 et15 dX11_walk_37 ?_
      refine V_iload_n (j := 1) dX11_walk_40 rfl rfl ?_
      refine V_iload_n (j := 2) dX11_walk_41 rfl rfl ?_
      obtain ⟨h18, hf⟩ := hf
      refine V_cVI (ctX10_steps hn hf) gc_X11_163 rfl h18.1 ⟨_, h18.2, by decide, rfl⟩ ⟨by decide, by decide, Nat.zero_le _, Nat.zero_le _⟩ (Nat.le_of_ble_eq_true rfl) dX11_walk_42 rfl hn (fun r16 z17 hf => ?_)
      exact V_ireturn dX11_walk_45 rfl hf.1 (Nat.le_refl 0) (kI_of hf.2)
    · have hf := it_t (Classical.not_not.mp h19) hf
      refine V_iconst (v := (0 : Int32)) dX11_walk_23 (by decide) ?_
      exact V_ireturn dX11_walk_24 rfl (by decide) (Nat.le_refl 0) (kI_of hf)
def wX7_hasDeed (n : Nat) (sh : Nat → Nat × Nat) (a0 : Nat) (x1 : Int32) (z : gS) (P : Int32 → gS → Prop) : Prop := if x1 < 0 then P (0 : Int32) z else ((oO n sh a0 4) ∧ (if (gi z a0 12) ≤ x1 then P (0 : Int32) z else P (1 : Int32) z))
set_option maxRecDepth 100000 in
set_option maxHeartbeats 4000000 in
theorem ctX7_hasDeed {E : gE} {n : Nat} {sh : Nat → Nat × Nat} {a0 : Nat} {x1 : Int32} {z : gS} {P : Int32 → gS → Prop} (hn : gOK E n) (hf : wX7_hasDeed n sh a0 x1 z P) : VM E 0 0 gyX7_hasDeed [.ref a0, .int x1] n sh z (kI n sh P) := by
  unfold wX7_hasDeed at hf
  refine VM.of (by decide +kernel) (Nat.le_of_ble_eq_true rfl) (fun _ _ _ h => h.2.2) ?_
  show V E (gR 0 0) gyX7_hasDeed 0 0 0 [(0, .ref a0), (1, .int x1)] [] n sh z (kI n sh P)
  refine V_iload_n (j := 1) dX7_hasDeed_0 rfl rfl ?_
  refine V_if_lt (tgt := 16) dX7_hasDeed_1 (by decide) (fun h3 => ?_) (fun h3 => ?_)
  · have hf := it_t h3 hf
    refine V_iconst (v := (0 : Int32)) dX7_hasDeed_16 (by decide) ?_
    exact V_ireturn dX7_hasDeed_17 rfl (by decide) (Nat.le_refl 0) (kI_of hf)
  · have hf := it_f h3 hf
    refine V_iload_n (j := 1) dX7_hasDeed_4 rfl rfl ?_
    refine V_aload_n (j := 0) dX7_hasDeed_5 rfl rfl ?_
    obtain ⟨h1, hf⟩ := hf
    refine V_getI fl_X7_54 rfl h1.1 h1.2 dX7_hasDeed_6 ?_
    refine V_icmp_ge (tgt := 16) dX7_hasDeed_9 (by decide) (fun h2 => ?_) (fun h2 => ?_)
    · have hf := it_t h2 hf
      refine V_iconst (v := (0 : Int32)) dX7_hasDeed_16 (by decide) ?_
      exact V_ireturn dX7_hasDeed_17 rfl (by decide) (Nat.le_refl 0) (kI_of hf)
    · have hf := it_f h2 hf
      refine V_iconst (v := (1 : Int32)) dX7_hasDeed_12 (by decide) ?_
      refine V_goto (tgt := 17) dX7_hasDeed_13 (by decide) ?_
      exact V_ireturn dX7_hasDeed_17 rfl (by decide) (Nat.le_refl 0) (kI_of hf)
def wX10_watchersOf_B5 (n : Nat) (sh : Nat → Nat × Nat) (k5 : Nat → Nat → Int32 → Int32 → Int32 → gS → Prop) (P : Int32 → gS → Prop) (a0 : Nat) (a1 : Nat) (x2 : Int32) (x3 : Int32) (x4 : Int32) (z : gS) : Prop := (oO n sh a1 4) ∧ (if (gi z a1 10) ≤ x4 then P x3 z else ((oO n sh a0 6) ∧ (wX10_sightOf n sh a0 a1 x4 z (fun (r2 : Int32) (z3 : gS) => ∀ v5 : Int32, v5 = (x3 ||| (((r2 >>> (x2 &&& 31)) &&& (1 : Int32)) <<< (x4 &&& 31))) → (∀ v6 : Int32, v6 = x4 + (1 : Int32) → k5 a0 a1 x2 v5 v6 z3)))))
def wX10_watchersOf_L5 (n : Nat) (sh : Nat → Nat × Nat) (P : Int32 → gS → Prop) : Nat → Nat → Nat → Int32 → Int32 → Int32 → gS → Prop
  | 0, _, _, _, _, _, _ => False
  | N + 1, a0, a1, x2, x3, x4, z => wX10_watchersOf_B5 n sh (wX10_watchersOf_L5 n sh P N) P a0 a1 x2 x3 x4 z
set_option maxRecDepth 100000 in
set_option maxHeartbeats 4000000 in
theorem vX10_watchersOf_B5 {E : gE} {n : Nat} {sh : Nat → Nat × Nat} {P : Int32 → gS → Prop} {k5 : Nat → Nat → Int32 → Int32 → Int32 → gS → Prop} {a0 : Nat} {a1 : Nat} {x2 : Int32} {x3 : Int32} {x4 : Int32} {z : gS} (hn : gOK E n) (hk5 : ∀ (a0 : Nat) (a1 : Nat) (x2 : Int32) (x3 : Int32) (x4 : Int32) (z : gS), k5 a0 a1 x2 x3 x4 z → V E (gR 3 0) gyX10_watchersOf 0 0 5 [(0, .ref a0), (1, .ref a1), (2, .int x2), (3, .int x3), (4, .int x4)] [] n sh z (kI n sh P)) (hf : wX10_watchersOf_B5 n sh k5 P a0 a1 x2 x3 x4 z) : V E (gR 3 0) gyX10_watchersOf 0 0 5 [(0, .ref a0), (1, .ref a1), (2, .int x2), (3, .int x3), (4, .int x4)] [] n sh z (kI n sh P) := by
  unfold wX10_watchersOf_B5 at hf
  refine V_iload (j := 4) dX10_watchersOf_5 rfl ?_
  refine V_aload_n (j := 1) dX10_watchersOf_7 rfl rfl ?_
  obtain ⟨h1, hf⟩ := hf
  refine V_getI fl_X10_58 rfl h1.1 h1.2 dX10_watchersOf_8 ?_
  refine V_icmp_ge (tgt := 37) dX10_watchersOf_11 (by decide) (fun h7 => ?_) (fun h7 => ?_)
  · have hf := it_t h7 hf
    refine V_iload_n (j := 3) dX10_watchersOf_37 rfl rfl ?_
    exact V_ireturn dX10_watchersOf_38 rfl rfl (Nat.le_refl 0) (kI_of hf)
  · have hf := it_f h7 hf
    refine V_iload_n (j := 3) dX10_watchersOf_14 rfl rfl ?_
    refine V_aload_n (j := 0) dX10_watchersOf_15 rfl rfl ?_
    refine V_aload_n (j := 1) dX10_watchersOf_16 rfl rfl ?_
    refine V_iload (j := 4) dX10_watchersOf_17 rfl ?_
    obtain ⟨h4, hf⟩ := hf
    refine V_cVI (ctX10_sightOf hn hf) gc_X10_68 rfl h4.1 ⟨_, h4.2, by decide, rfl⟩ ⟨by decide, by decide, Nat.zero_le _, Nat.zero_le _⟩ (Nat.le_of_ble_eq_true rfl) dX10_watchersOf_19 rfl hn (fun r2 z3 hf => ?_)
    refine V_iload_n (j := 2) dX10_watchersOf_22 rfl rfl ?_
    refine V_ishr dX10_watchersOf_23 ?_
    refine V_iconst (v := (1 : Int32)) dX10_watchersOf_24 (by decide) ?_
    refine V_iand dX10_watchersOf_25 ?_
    refine V_iload (j := 4) dX10_watchersOf_26 rfl ?_
    refine V_ishl dX10_watchersOf_28 ?_
    refine V_ior dX10_watchersOf_29 ?_
    refine V_nI (fun v5 ev5 => ?_)
    have hf := hf v5 ev5
    refine V_istore_n (ls2 := [(3, .int v5), (0, .ref a0), (1, .ref a1), (2, .int x2), (4, .int x4)]) dX10_watchersOf_30 rfl (by decide) rfl ?_
    obtain ⟨v6, ev6⟩ : ∃ y : Int32, y = x4 + (1 : Int32) := ⟨_, rfl⟩
    refine V_iinc (j := 4) (v := v6) (ls2 := [(4, .int v6), (3, .int v5), (0, .ref a0), (1, .ref a1), (2, .int x2)]) dX10_watchersOf_31 rfl (by rw [ev6]; rfl) (by decide) rfl ?_
    have hf := hf v6 ev6
    refine V_goto (tgt := 5) dX10_watchersOf_34 (by decide) ?_
    refine V_to [2, 3, 4, 1, 0] rfl ?_
    exact hk5 _ _ _ _ _ _ hf
set_option maxRecDepth 100000 in
set_option maxHeartbeats 4000000 in
theorem vX10_watchersOf_L5 {E : gE} {n : Nat} {sh : Nat → Nat × Nat} {P : Int32 → gS → Prop} (hn : gOK E n) : ∀ (N : Nat) (a0 : Nat) (a1 : Nat) (x2 : Int32) (x3 : Int32) (x4 : Int32) (z : gS), wX10_watchersOf_L5 n sh P N a0 a1 x2 x3 x4 z → V E (gR 3 0) gyX10_watchersOf 0 0 5 [(0, .ref a0), (1, .ref a1), (2, .int x2), (3, .int x3), (4, .int x4)] [] n sh z (kI n sh P) := by
  intro N
  induction N with
  | zero => intro a0 a1 x2 x3 x4 z hf; exact False.elim hf
  | succ N ih => intro a0 a1 x2 x3 x4 z hf; exact vX10_watchersOf_B5 hn ih hf
def wX10_watchersOf (n : Nat) (sh : Nat → Nat × Nat) (a0 : Nat) (a1 : Nat) (x2 : Int32) (z : gS) (P : Int32 → gS → Prop) : Prop := (∃ N, wX10_watchersOf_L5 n sh P N a0 a1 x2 (0 : Int32) (0 : Int32) z)
set_option maxRecDepth 100000 in
set_option maxHeartbeats 4000000 in
theorem ctX10_watchersOf {E : gE} {n : Nat} {sh : Nat → Nat × Nat} {a0 : Nat} {a1 : Nat} {x2 : Int32} {z : gS} {P : Int32 → gS → Prop} (hn : gOK E n) (hf : wX10_watchersOf n sh a0 a1 x2 z P) : VM E 3 0 gyX10_watchersOf [.ref a0, .ref a1, .int x2] n sh z (kI n sh P) := by
  unfold wX10_watchersOf at hf
  refine VM.of (by decide +kernel) (Nat.le_of_ble_eq_true rfl) (fun _ _ _ h => h.2.2) ?_
  show V E (gR 3 0) gyX10_watchersOf 0 0 0 [(0, .ref a0), (1, .ref a1), (2, .int x2)] [] n sh z (kI n sh P)
  refine V_iconst (v := (0 : Int32)) dX10_watchersOf_0 (by decide) ?_
  refine V_istore_n (ls2 := [(3, .int (0 : Int32)), (0, .ref a0), (1, .ref a1), (2, .int x2)]) dX10_watchersOf_1 rfl (by decide) rfl ?_
  refine V_iconst (v := (0 : Int32)) dX10_watchersOf_2 (by decide) ?_
  refine V_istore (ls2 := [(4, .int (0 : Int32)), (3, .int (0 : Int32)), (0, .ref a0), (1, .ref a1), (2, .int x2)]) dX10_watchersOf_3 (by decide) rfl ?_
  obtain ⟨N, hf⟩ := hf
  refine V_to [2, 3, 4, 1, 0] rfl ?_
  exact vX10_watchersOf_L5 hn N _ _ _ _ _ _ hf
def wX10_dropMark_B20 (n : Nat) (sh : Nat → Nat × Nat) (k20 : Nat → Int32 → Int32 → Int32 → gS → Prop) (P : gS → Prop) (a0 : Nat) (x1 : Int32) (x3 : Int32) (x4 : Int32) (z : gS) : Prop := (oO n sh a0 6) ∧ (∃ t10 : Nat, gr z a0 6 = some t10 ∧ ((oA n sh t10 1) ∧ ((vp_in x1 (sh t10).2) ∧ (if (x3 + (gi z t10 x1.toNatClampNeg)) ≤ x4 then P z else (∃ t13 : Nat, gr z a0 7 = some t13 ∧ (∃ t14 : Nat, gr z a0 7 = some t14 ∧ ((oA n sh t14 1) ∧ ((vp_in (x4 + (1 : Int32)) (sh t14).2) ∧ ((oA n sh t13 1) ∧ ((vp_in x4 (sh t13).2) ∧ (∀ z19 : gS, z19 = si z t13 x4.toNatClampNeg (gi z t14 (x4 + (1 : Int32)).toNatClampNeg) → (∀ v20 : Int32, v20 = x4 + (1 : Int32) → k20 a0 x1 x3 v20 z19))))))))))))
def wX10_dropMark_L20 (n : Nat) (sh : Nat → Nat × Nat) (P : gS → Prop) : Nat → Nat → Int32 → Int32 → Int32 → gS → Prop
  | 0, _, _, _, _, _ => False
  | N + 1, a0, x1, x3, x4, z => wX10_dropMark_B20 n sh (wX10_dropMark_L20 n sh P N) P a0 x1 x3 x4 z
set_option maxRecDepth 100000 in
set_option maxHeartbeats 4000000 in
theorem vX10_dropMark_B20 {E : gE} {n : Nat} {sh : Nat → Nat × Nat} {P : gS → Prop} {k20 : Nat → Int32 → Int32 → Int32 → gS → Prop} {a0 : Nat} {x1 : Int32} {x3 : Int32} {x4 : Int32} {z : gS} (hn : gOK E n) (hk20 : ∀ (a0 : Nat) (x1 : Int32) (x3 : Int32) (x4 : Int32) (z : gS), k20 a0 x1 x3 x4 z → V E (gR 0 0) gyX10_dropMark 0 0 20 [(0, .ref a0), (1, .int x1), (3, .int x3), (4, .int x4)] [] n sh z (kN n sh P)) (hf : wX10_dropMark_B20 n sh k20 P a0 x1 x3 x4 z) : V E (gR 0 0) gyX10_dropMark 0 0 20 [(0, .ref a0), (1, .int x1), (3, .int x3), (4, .int x4)] [] n sh z (kN n sh P) := by
  unfold wX10_dropMark_B20 at hf
  refine V_iload (j := 3) dX10_dropMark_20 rfl ?_
  refine V_iload_n (j := 2) dX10_dropMark_22 rfl rfl ?_
  refine V_aload_n (j := 0) dX10_dropMark_23 rfl rfl ?_
  obtain ⟨h9, hf⟩ := hf
  obtain ⟨t10, et10, hf⟩ := hf
  refine V_getR fl_X10_31 rfl h9.1 h9.2 et10 dX10_dropMark_24 ?_
  refine V_iload_n (j := 1) dX10_dropMark_27 rfl rfl ?_
  obtain ⟨h11, hf⟩ := hf
  obtain ⟨h12, hf⟩ := hf
  refine V_iald h11.1 h11.s h12 dX10_dropMark_28 ?_
  refine V_iadd dX10_dropMark_29 ?_
  refine V_icmp_ge (tgt := 55) dX10_dropMark_30 (by decide) (fun h21 => ?_) (fun h21 => ?_)
  · have hf := it_t h21 hf
    exact V_return dX10_dropMark_55 rfl (Nat.le_refl 0) (kN_of hf)
  · have hf := it_f h21 hf
    refine V_aload_n (j := 0) dX10_dropMark_33 rfl rfl ?_
    obtain ⟨t13, et13, hf⟩ := hf
    refine V_getR fl_X10_34 rfl h9.1 h9.2 et13 dX10_dropMark_34 ?_
    refine V_iload (j := 3) dX10_dropMark_37 rfl ?_
    refine V_aload_n (j := 0) dX10_dropMark_39 rfl rfl ?_
    obtain ⟨t14, et14, hf⟩ := hf
    refine V_getR fl_X10_34 rfl h9.1 h9.2 et14 dX10_dropMark_40 ?_
    refine V_iload (j := 3) dX10_dropMark_43 rfl ?_
    refine V_iconst (v := (1 : Int32)) dX10_dropMark_45 (by decide) ?_
    refine V_iadd dX10_dropMark_46 ?_
    obtain ⟨h15, hf⟩ := hf
    obtain ⟨h16, hf⟩ := hf
    refine V_iald h15.1 h15.s h16 dX10_dropMark_47 ?_
    obtain ⟨h17, hf⟩ := hf
    obtain ⟨h18, hf⟩ := hf
    refine V_iast h17.1 h17.s h18 dX10_dropMark_48 ?_
    refine V_nz (fun z19 ez19 => ?_)
    have hf := hf z19 ez19
    obtain ⟨v20, ev20⟩ : ∃ y : Int32, y = x4 + (1 : Int32) := ⟨_, rfl⟩
    refine V_iinc (j := 3) (v := v20) (ls2 := [(4, .int v20), (0, .ref a0), (1, .int x1), (3, .int x3)]) dX10_dropMark_49 rfl (by rw [ev20]; rfl) (by decide) rfl ?_
    have hf := hf v20 ev20
    refine V_goto (tgt := 20) dX10_dropMark_52 (by decide) ?_
    refine V_to [1, 2, 3, 0] rfl ?_
    exact hk20 _ _ _ _ _ hf
set_option maxRecDepth 100000 in
set_option maxHeartbeats 4000000 in
theorem vX10_dropMark_L20 {E : gE} {n : Nat} {sh : Nat → Nat × Nat} {P : gS → Prop} (hn : gOK E n) : ∀ (N : Nat) (a0 : Nat) (x1 : Int32) (x3 : Int32) (x4 : Int32) (z : gS), wX10_dropMark_L20 n sh P N a0 x1 x3 x4 z → V E (gR 0 0) gyX10_dropMark 0 0 20 [(0, .ref a0), (1, .int x1), (3, .int x3), (4, .int x4)] [] n sh z (kN n sh P) := by
  intro N
  induction N with
  | zero => intro a0 x1 x3 x4 z hf; exact False.elim hf
  | succ N ih => intro a0 x1 x3 x4 z hf; exact vX10_dropMark_B20 hn ih hf
def wX10_dropMark (n : Nat) (sh : Nat → Nat × Nat) (a0 : Nat) (x1 : Int32) (x2 : Int32) (z : gS) (P : gS → Prop) : Prop := (oO n sh a0 6) ∧ (∃ t2 : Nat, gr z a0 6 = some t2 ∧ ((oA n sh t2 1) ∧ ((vp_in x1 (sh t2).2) ∧ ((vp_in x1 (sh t2).2) ∧ (∀ z6 : gS, z6 = si z t2 x1.toNatClampNeg ((gi z t2 x1.toNatClampNeg) - (1 : Int32)) → (∀ v7 : Int32, v7 = (x1 * (6 : Int32)) → (∀ v8 : Int32, v8 = (v7 + x2) → ((∃ N, wX10_dropMark_L20 n sh P N a0 x1 v7 v8 z6)))))))))
set_option maxRecDepth 100000 in
set_option maxHeartbeats 4000000 in
theorem ctX10_dropMark {E : gE} {n : Nat} {sh : Nat → Nat × Nat} {a0 : Nat} {x1 : Int32} {x2 : Int32} {z : gS} {P : gS → Prop} (hn : gOK E n) (hf : wX10_dropMark n sh a0 x1 x2 z P) : VM E 0 0 gyX10_dropMark [.ref a0, .int x1, .int x2] n sh z (kN n sh P) := by
  unfold wX10_dropMark at hf
  refine VM.of (by decide +kernel) (Nat.le_of_ble_eq_true rfl) (fun _ _ _ h => h.2.2) ?_
  show V E (gR 0 0) gyX10_dropMark 0 0 0 [(0, .ref a0), (1, .int x1), (2, .int x2)] [] n sh z (kN n sh P)
  refine V_aload_n (j := 0) dX10_dropMark_0 rfl rfl ?_
  obtain ⟨h1, hf⟩ := hf
  obtain ⟨t2, et2, hf⟩ := hf
  refine V_getR fl_X10_31 rfl h1.1 h1.2 et2 dX10_dropMark_1 ?_
  refine V_iload_n (j := 1) dX10_dropMark_4 rfl rfl ?_
  refine V_dup2 dX10_dropMark_5 rfl rfl ?_
  obtain ⟨h3, hf⟩ := hf
  obtain ⟨h4, hf⟩ := hf
  refine V_iald h3.1 h3.s h4 dX10_dropMark_6 ?_
  refine V_iconst (v := (1 : Int32)) dX10_dropMark_7 (by decide) ?_
  refine V_isub dX10_dropMark_8 ?_
  obtain ⟨h5, hf⟩ := hf
  refine V_iast h3.1 h3.s h5 dX10_dropMark_9 ?_
  refine V_nz (fun z6 ez6 => ?_)
  have hf := hf z6 ez6
  refine V_iload_n (j := 1) dX10_dropMark_10 rfl rfl ?_
  refine V_bipush (v := (6 : Int32)) dX10_dropMark_11 (by decide) ?_
  refine V_imul dX10_dropMark_13 ?_
  refine V_nI (fun v7 ev7 => ?_)
  have hf := hf v7 ev7
  refine V_istore_n (ls2 := [(3, .int v7), (0, .ref a0), (1, .int x1), (2, .int x2)]) dX10_dropMark_14 rfl (by decide) rfl ?_
  refine V_iload_n (j := 0) dX10_dropMark_15 rfl rfl ?_
  refine V_iload_n (j := 3) dX10_dropMark_16 rfl rfl ?_
  refine V_iadd dX10_dropMark_17 ?_
  refine V_nI (fun v8 ev8 => ?_)
  have hf := hf v8 ev8
  refine V_istore (ls2 := [(4, .int v8), (3, .int v7), (0, .ref a0), (1, .int x1), (2, .int x2)]) dX10_dropMark_18 (by decide) rfl ?_
  obtain ⟨N, hf⟩ := hf
  refine V_to [2, 3, 1, 0] rfl ?_
  exact vX10_dropMark_L20 hn N _ _ _ _ _ hf
def wX10_addMark_J16 (n : Nat) (sh : Nat → Nat × Nat) (P : gS → Prop) (a0 : Nat) (x1 : Int32) (x3 : Int32) (z : gS) : Prop := (oO n sh a0 6) ∧ (∃ t6 : Nat, gr z a0 7 = some t6 ∧ (∃ t7 : Nat, gr z a0 6 = some t7 ∧ ((oA n sh t7 1) ∧ ((vp_in x1 (sh t7).2) ∧ ((oA n sh t6 1) ∧ ((vp_in ((x1 * (6 : Int32)) + (gi z t7 x1.toNatClampNeg)) (sh t6).2) ∧ (∀ z12 : gS, z12 = si z t6 ((x1 * (6 : Int32)) + (gi z t7 x1.toNatClampNeg)).toNatClampNeg x3 → (∃ t13 : Nat, gr z12 a0 6 = some t13 ∧ ((oA n sh t13 1) ∧ ((vp_in x1 (sh t13).2) ∧ ((vp_in x1 (sh t13).2) ∧ (∀ z17 : gS, z17 = si z12 t13 x1.toNatClampNeg ((gi z12 t13 x1.toNatClampNeg) + (1 : Int32)) → P z17))))))))))))
set_option maxRecDepth 100000 in
set_option maxHeartbeats 4000000 in
theorem vX10_addMark_J16 {E : gE} {n : Nat} {sh : Nat → Nat × Nat} {P : gS → Prop} {a0 : Nat} {x1 : Int32} {x3 : Int32} {z : gS} (hn : gOK E n) (hf : wX10_addMark_J16 n sh P a0 x1 x3 z) : V E (gR 1 0) gyX10_addMark 0 0 16 [(0, .ref a0), (1, .int x1), (3, .int x3)] [] n sh z (kN n sh P) := by
  unfold wX10_addMark_J16 at hf
  refine V_aload_n (j := 0) dX10_addMark_16 rfl rfl ?_
  obtain ⟨h5, hf⟩ := hf
  obtain ⟨t6, et6, hf⟩ := hf
  refine V_getR fl_X10_34 rfl h5.1 h5.2 et6 dX10_addMark_17 ?_
  refine V_iload_n (j := 1) dX10_addMark_20 rfl rfl ?_
  refine V_bipush (v := (6 : Int32)) dX10_addMark_21 (by decide) ?_
  refine V_imul dX10_addMark_23 ?_
  refine V_aload_n (j := 0) dX10_addMark_24 rfl rfl ?_
  obtain ⟨t7, et7, hf⟩ := hf
  refine V_getR fl_X10_31 rfl h5.1 h5.2 et7 dX10_addMark_25 ?_
  refine V_iload_n (j := 1) dX10_addMark_28 rfl rfl ?_
  obtain ⟨h8, hf⟩ := hf
  obtain ⟨h9, hf⟩ := hf
  refine V_iald h8.1 h8.s h9 dX10_addMark_29 ?_
  refine V_iadd dX10_addMark_30 ?_
  refine V_iload_n (j := 2) dX10_addMark_31 rfl rfl ?_
  obtain ⟨h10, hf⟩ := hf
  obtain ⟨h11, hf⟩ := hf
  refine V_iast h10.1 h10.s h11 dX10_addMark_32 ?_
  refine V_nz (fun z12 ez12 => ?_)
  have hf := hf z12 ez12
  refine V_aload_n (j := 0) dX10_addMark_33 rfl rfl ?_
  obtain ⟨t13, et13, hf⟩ := hf
  refine V_getR fl_X10_31 rfl h5.1 h5.2 et13 dX10_addMark_34 ?_
  refine V_iload_n (j := 1) dX10_addMark_37 rfl rfl ?_
  refine V_dup2 dX10_addMark_38 rfl rfl ?_
  obtain ⟨h14, hf⟩ := hf
  obtain ⟨h15, hf⟩ := hf
  refine V_iald h14.1 h14.s h15 dX10_addMark_39 ?_
  refine V_iconst (v := (1 : Int32)) dX10_addMark_40 (by decide) ?_
  refine V_iadd dX10_addMark_41 ?_
  obtain ⟨h16, hf⟩ := hf
  refine V_iast h14.1 h14.s h16 dX10_addMark_42 ?_
  refine V_nz (fun z17 ez17 => ?_)
  have hf := hf z17 ez17
  exact V_return dX10_addMark_43 rfl (Nat.le_refl 0) (kN_of hf)
def wX10_addMark (n : Nat) (sh : Nat → Nat × Nat) (a0 : Nat) (x1 : Int32) (x2 : Int32) (x3 : Int32) (z : gS) (P : gS → Prop) : Prop := (oO n sh a0 6) ∧ (∃ t2 : Nat, gr z a0 6 = some t2 ∧ ((oA n sh t2 1) ∧ ((vp_in x1 (sh t2).2) ∧ (if (gi z t2 x1.toNatClampNeg) < x2 then wX10_addMark_J16 n sh P a0 x1 x3 z else (wX10_dropMark n sh a0 x1 (0 : Int32) z (fun (z19 : gS) => wX10_addMark_J16 n sh P a0 x1 x3 z19))))))
set_option maxRecDepth 100000 in
set_option maxHeartbeats 4000000 in
theorem ctX10_addMark {E : gE} {n : Nat} {sh : Nat → Nat × Nat} {a0 : Nat} {x1 : Int32} {x2 : Int32} {x3 : Int32} {z : gS} {P : gS → Prop} (hn : gOK E n) (hf : wX10_addMark n sh a0 x1 x2 x3 z P) : VM E 1 0 gyX10_addMark [.ref a0, .int x1, .int x2, .int x3] n sh z (kN n sh P) := by
  unfold wX10_addMark at hf
  refine VM.of (by decide +kernel) (Nat.le_of_ble_eq_true rfl) (fun _ _ _ h => h.2.2) ?_
  show V E (gR 1 0) gyX10_addMark 0 0 0 [(0, .ref a0), (1, .int x1), (2, .int x2), (3, .int x3)] [] n sh z (kN n sh P)
  refine V_aload_n (j := 0) dX10_addMark_0 rfl rfl ?_
  obtain ⟨h1, hf⟩ := hf
  obtain ⟨t2, et2, hf⟩ := hf
  refine V_getR fl_X10_31 rfl h1.1 h1.2 et2 dX10_addMark_1 ?_
  refine V_iload_n (j := 1) dX10_addMark_4 rfl rfl ?_
  obtain ⟨h3, hf⟩ := hf
  obtain ⟨h4, hf⟩ := hf
  refine V_iald h3.1 h3.s h4 dX10_addMark_5 ?_
  refine V_iload_n (j := 2) dX10_addMark_6 rfl rfl ?_
  refine V_icmp_lt (tgt := 16) dX10_addMark_7 (by decide) (fun h20 => ?_) (fun h20 => ?_)
  · have hf := it_t h20 hf
    refine V_to [0, 1, 3] rfl ?_
    exact vX10_addMark_J16 hn hf
  · have hf := it_f h20 hf
    refine V_aload_n (j := 0) dX10_addMark_10 rfl rfl ?_
    refine V_iload_n (j := 1) dX10_addMark_11 rfl rfl ?_
    refine V_iconst (v := (0 : Int32)) dX10_addMark_12 (by decide) ?_
    refine V_cVN (ctX10_dropMark hn hf) gc_X10_91 rfl h1.1 ⟨_, h1.2, by decide, rfl⟩ ⟨by decide, by decide, Nat.zero_le _, Nat.zero_le _⟩ (Nat.le_of_ble_eq_true rfl) dX10_addMark_13 rfl hn (fun z19 hf => ?_)
    refine V_to [0, 1, 3] rfl ?_
    exact vX10_addMark_J16 hn hf
def wX10_act_J63 (n : Nat) (sh : Nat → Nat × Nat) (k20 : Nat → Nat → Int32 → Int32 → Int32 → Int32 → Int32 → gS → Prop) (P : Int32 → gS → Prop) (a0 : Nat) (a1 : Nat) (x2 : Int32) (x3 : Int32) (x4 : Int32) (x5 : Int32) (x6 : Int32) (z : gS) : Prop := ∀ v9 : Int32, v9 = x6 + (1 : Int32) → k20 a0 a1 x2 x3 x4 x5 v9 z
set_option maxRecDepth 100000 in
set_option maxHeartbeats 4000000 in
theorem vX10_act_J63 {E : gE} {n : Nat} {sh : Nat → Nat × Nat} {P : Int32 → gS → Prop} {k20 : Nat → Nat → Int32 → Int32 → Int32 → Int32 → Int32 → gS → Prop} {a0 : Nat} {a1 : Nat} {x2 : Int32} {x3 : Int32} {x4 : Int32} {x5 : Int32} {x6 : Int32} {z : gS} (hn : gOK E n) (hk20 : ∀ (a0 : Nat) (a1 : Nat) (x2 : Int32) (x3 : Int32) (x4 : Int32) (x5 : Int32) (x6 : Int32) (z : gS), k20 a0 a1 x2 x3 x4 x5 x6 z → V E (gR 4 0) gyX10_act 0 0 20 [(0, .ref a0), (1, .ref a1), (2, .int x2), (3, .int x3), (4, .int x4), (5, .int x5), (6, .int x6)] [] n sh z (kI n sh P)) (hf : wX10_act_J63 n sh k20 P a0 a1 x2 x3 x4 x5 x6 z) : V E (gR 4 0) gyX10_act 0 0 63 [(0, .ref a0), (1, .ref a1), (2, .int x2), (3, .int x3), (4, .int x4), (5, .int x5), (6, .int x6)] [] n sh z (kI n sh P) := by
  unfold wX10_act_J63 at hf
  obtain ⟨v9, ev9⟩ : ∃ y : Int32, y = x6 + (1 : Int32) := ⟨_, rfl⟩
  refine V_iinc (j := 6) (v := v9) (ls2 := [(6, .int v9), (0, .ref a0), (1, .ref a1), (2, .int x2), (3, .int x3), (4, .int x4), (5, .int x5)]) dX10_act_63 rfl (by rw [ev9]; rfl) (by decide) rfl ?_
  have hf := hf v9 ev9
  refine V_goto (tgt := 20) dX10_act_66 (by decide) ?_
  refine V_to [1, 2, 3, 4, 5, 6, 0] rfl ?_
  exact hk20 _ _ _ _ _ _ _ _ hf
def wX10_act_B20 (n : Nat) (sh : Nat → Nat × Nat) (k20 : Nat → Nat → Int32 → Int32 → Int32 → Int32 → Int32 → gS → Prop) (P : Int32 → gS → Prop) (a0 : Nat) (a1 : Nat) (x2 : Int32) (x3 : Int32) (x4 : Int32) (x5 : Int32) (x6 : Int32) (z : gS) : Prop := (oO n sh a1 4) ∧ (if (gi z a1 10) ≤ x6 then P x5 z else (if ((x5 >>> (x6 &&& 31)) &&& (1 : Int32)) = 0 then wX10_act_J63 n sh k20 P a0 a1 x2 x3 x4 x5 x6 z else (∃ t10 : Nat, gr z a1 2 = some t10 ∧ ((oA n sh t10 1) ∧ ((vp_in x6 (sh t10).2) ∧ ((oO n sh a0 6) ∧ (wX10_addMark n sh a0 x6 (gi z t10 x6.toNatClampNeg) (((x2 <<< ((7 : Int32) &&& 31)) ||| (x3 <<< ((4 : Int32) &&& 31))) ||| x4) z (fun (z14 : gS) => wX10_act_J63 n sh k20 P a0 a1 x2 x3 x4 x5 x6 z14))))))))
def wX10_act_L20 (n : Nat) (sh : Nat → Nat × Nat) (P : Int32 → gS → Prop) : Nat → Nat → Nat → Int32 → Int32 → Int32 → Int32 → Int32 → gS → Prop
  | 0, _, _, _, _, _, _, _, _ => False
  | N + 1, a0, a1, x2, x3, x4, x5, x6, z => wX10_act_B20 n sh (wX10_act_L20 n sh P N) P a0 a1 x2 x3 x4 x5 x6 z
set_option maxRecDepth 100000 in
set_option maxHeartbeats 4000000 in
theorem vX10_act_B20 {E : gE} {n : Nat} {sh : Nat → Nat × Nat} {P : Int32 → gS → Prop} {k20 : Nat → Nat → Int32 → Int32 → Int32 → Int32 → Int32 → gS → Prop} {a0 : Nat} {a1 : Nat} {x2 : Int32} {x3 : Int32} {x4 : Int32} {x5 : Int32} {x6 : Int32} {z : gS} (hn : gOK E n) (hk20 : ∀ (a0 : Nat) (a1 : Nat) (x2 : Int32) (x3 : Int32) (x4 : Int32) (x5 : Int32) (x6 : Int32) (z : gS), k20 a0 a1 x2 x3 x4 x5 x6 z → V E (gR 4 0) gyX10_act 0 0 20 [(0, .ref a0), (1, .ref a1), (2, .int x2), (3, .int x3), (4, .int x4), (5, .int x5), (6, .int x6)] [] n sh z (kI n sh P)) (hf : wX10_act_B20 n sh k20 P a0 a1 x2 x3 x4 x5 x6 z) : V E (gR 4 0) gyX10_act 0 0 20 [(0, .ref a0), (1, .ref a1), (2, .int x2), (3, .int x3), (4, .int x4), (5, .int x5), (6, .int x6)] [] n sh z (kI n sh P) := by
  unfold wX10_act_B20 at hf
  refine V_iload (j := 6) dX10_act_20 rfl ?_
  refine V_aload_n (j := 1) dX10_act_22 rfl rfl ?_
  obtain ⟨h8, hf⟩ := hf
  refine V_getI fl_X10_58 rfl h8.1 h8.2 dX10_act_23 ?_
  refine V_icmp_ge (tgt := 69) dX10_act_26 (by decide) (fun h17 => ?_) (fun h17 => ?_)
  · have hf := it_t h17 hf
    refine V_iload (j := 5) dX10_act_69 rfl ?_
    exact V_ireturn dX10_act_71 rfl rfl (Nat.le_refl 0) (kI_of hf)
  · have hf := it_f h17 hf
    refine V_iload (j := 5) dX10_act_29 rfl ?_
    refine V_iload (j := 6) dX10_act_31 rfl ?_
    refine V_ishr dX10_act_33 ?_
    refine V_iconst (v := (1 : Int32)) dX10_act_34 (by decide) ?_
    refine V_iand dX10_act_35 ?_
    refine V_if_eq (tgt := 63) dX10_act_36 (by decide) (fun h16 => ?_) (fun h16 => ?_)
    · have hf := it_t h16 hf
      exact vX10_act_J63 hn hk20 hf
    · have hf := it_f h16 hf
      refine V_aload_n (j := 0) dX10_act_39 rfl rfl ?_
      refine V_iload (j := 6) dX10_act_40 rfl ?_
      refine V_aload_n (j := 1) dX10_act_42 rfl rfl ?_
      obtain ⟨t10, et10, hf⟩ := hf
      refine V_getR fl_X10_84 rfl h8.1 h8.2 et10 dX10_act_43 ?_
      refine V_iload (j := 6) dX10_act_46 rfl ?_
      obtain ⟨h11, hf⟩ := hf
      obtain ⟨h12, hf⟩ := hf
      refine V_iald h11.1 h11.s h12 dX10_act_48 ?_
      refine V_iload_n (j := 2) dX10_act_49 rfl rfl ?_
      refine V_bipush (v := (7 : Int32)) dX10_act_50 (by decide) ?_
      refine V_ishl dX10_act_52 ?_
      refine V_iload_n (j := 3) dX10_act_53 rfl rfl ?_
      refine V_iconst (v := (4 : Int32)) dX10_act_54 (by decide) ?_
      refine V_ishl dX10_act_55 ?_
      refine V_ior dX10_act_56 ?_
      refine V_iload (j := 4) dX10_act_57 rfl ?_
      refine V_ior dX10_act_59 ?_
      obtain ⟨h15, hf⟩ := hf
      refine V_cVN (ctX10_addMark hn hf) gc_X10_87 rfl h15.1 ⟨_, h15.2, by decide, rfl⟩ ⟨by decide, by decide, Nat.zero_le _, Nat.zero_le _⟩ (Nat.le_of_ble_eq_true rfl) dX10_act_60 rfl hn (fun z14 hf => ?_)
      exact vX10_act_J63 hn hk20 hf
set_option maxRecDepth 100000 in
set_option maxHeartbeats 4000000 in
theorem vX10_act_L20 {E : gE} {n : Nat} {sh : Nat → Nat × Nat} {P : Int32 → gS → Prop} (hn : gOK E n) : ∀ (N : Nat) (a0 : Nat) (a1 : Nat) (x2 : Int32) (x3 : Int32) (x4 : Int32) (x5 : Int32) (x6 : Int32) (z : gS), wX10_act_L20 n sh P N a0 a1 x2 x3 x4 x5 x6 z → V E (gR 4 0) gyX10_act 0 0 20 [(0, .ref a0), (1, .ref a1), (2, .int x2), (3, .int x3), (4, .int x4), (5, .int x5), (6, .int x6)] [] n sh z (kI n sh P) := by
  intro N
  induction N with
  | zero => intro a0 a1 x2 x3 x4 x5 x6 z hf; exact False.elim hf
  | succ N ih => intro a0 a1 x2 x3 x4 x5 x6 z hf; exact vX10_act_B20 hn ih hf
def wX10_act (n : Nat) (sh : Nat → Nat × Nat) (a0 : Nat) (a1 : Nat) (x2 : Int32) (x3 : Int32) (z : gS) (P : Int32 → gS → Prop) : Prop := (oO n sh a0 6) ∧ (∃ t2 : Nat, gr z a0 5 = some t2 ∧ ((oA n sh t2 1) ∧ ((vp_in x2 (sh t2).2) ∧ (∀ v5 : Int32, v5 = (gi z t2 x2.toNatClampNeg) → (wX10_watchersOf n sh a0 a1 v5 z (fun (r6 : Int32) (z7 : gS) => (∃ N, wX10_act_L20 n sh P N a0 a1 x2 x3 v5 r6 (0 : Int32) z7)))))))
set_option maxRecDepth 100000 in
set_option maxHeartbeats 4000000 in
theorem ctX10_act {E : gE} {n : Nat} {sh : Nat → Nat × Nat} {a0 : Nat} {a1 : Nat} {x2 : Int32} {x3 : Int32} {z : gS} {P : Int32 → gS → Prop} (hn : gOK E n) (hf : wX10_act n sh a0 a1 x2 x3 z P) : VM E 4 0 gyX10_act [.ref a0, .ref a1, .int x2, .int x3] n sh z (kI n sh P) := by
  unfold wX10_act at hf
  refine VM.of (by decide +kernel) (Nat.le_of_ble_eq_true rfl) (fun _ _ _ h => h.2.2) ?_
  show V E (gR 4 0) gyX10_act 0 0 0 [(0, .ref a0), (1, .ref a1), (2, .int x2), (3, .int x3)] [] n sh z (kI n sh P)
  refine V_aload_n (j := 0) dX10_act_0 rfl rfl ?_
  obtain ⟨h1, hf⟩ := hf
  obtain ⟨t2, et2, hf⟩ := hf
  refine V_getR fl_X10_27 rfl h1.1 h1.2 et2 dX10_act_1 ?_
  refine V_iload_n (j := 2) dX10_act_4 rfl rfl ?_
  obtain ⟨h3, hf⟩ := hf
  obtain ⟨h4, hf⟩ := hf
  refine V_iald h3.1 h3.s h4 dX10_act_5 ?_
  refine V_nI (fun v5 ev5 => ?_)
  have hf := hf v5 ev5
  refine V_istore (ls2 := [(4, .int v5), (0, .ref a0), (1, .ref a1), (2, .int x2), (3, .int x3)]) dX10_act_6 (by decide) rfl ?_
  refine V_aload_n (j := 1) dX10_act_8 rfl rfl ?_
  refine V_aload_n (j := 2) dX10_act_9 rfl rfl ?_
  refine V_iload (j := 0) dX10_act_10 rfl ?_
  refine V_cVI (ctX10_watchersOf hn hf) gc_X10_81 rfl h1.1 ⟨_, h1.2, by decide, rfl⟩ ⟨by decide, by decide, Nat.zero_le _, Nat.zero_le _⟩ (Nat.le_of_ble_eq_true rfl) dX10_act_12 rfl hn (fun r6 z7 hf => ?_)
  refine V_istore (ls2 := [(5, .int r6), (4, .int v5), (0, .ref a0), (1, .ref a1), (2, .int x2), (3, .int x3)]) dX10_act_15 (by decide) rfl ?_
  refine V_iconst (v := (0 : Int32)) dX10_act_17 (by decide) ?_
  refine V_istore (ls2 := [(6, .int (0 : Int32)), (5, .int r6), (4, .int v5), (0, .ref a0), (1, .ref a1), (2, .int x2), (3, .int x3)]) dX10_act_18 (by decide) rfl ?_
  obtain ⟨N, hf⟩ := hf
  refine V_to [3, 4, 5, 6, 2, 1, 0] rfl ?_
  exact vX10_act_L20 hn N _ _ _ _ _ _ _ _ hf
def wX11_does (n : Nat) (sh : Nat → Nat × Nat) (a0 : Nat) (x1 : Int32) (x2 : Int32) (z : gS) (P : Int32 → gS → Prop) : Prop := (oO n sh a0 7) ∧ (∃ t2 : Nat, gr z a0 7 = some t2 ∧ ((oO n sh t2 4) ∧ (wX7_hasPerson n sh t2 x1 z (fun (r3 : Int32) (z4 : gS) => if r3 = 0 then P (-1 : Int32) z4 else (∃ t6 : Nat, gr z4 a0 7 = some t6 ∧ ((oO n sh t6 4) ∧ (wX7_hasDeed n sh t6 x2 z4 (fun (r7 : Int32) (z8 : gS) => if r7 = 0 then P (-1 : Int32) z8 else (∃ t10 : Nat, gr z8 a0 3 = some t10 ∧ (∃ t11 : Nat, gr z8 a0 1 = some t11 ∧ ((oO n sh t10 2) ∧ (wX4_keep n sh t10 t11 z8 (fun (z13 : gS) => ∃ t15 : Nat, gr z13 a0 1 = some t15 ∧ (∃ t16 : Nat, gr z13 a0 7 = some t16 ∧ ((oO n sh t15 6) ∧ (wX10_act n sh t15 t16 x1 x2 z13 (fun (r17 : Int32) (z18 : gS) => P r17 z18)))))))))))))))))
set_option maxRecDepth 100000 in
set_option maxHeartbeats 4000000 in
theorem ctX11_does {E : gE} {n : Nat} {sh : Nat → Nat × Nat} {a0 : Nat} {x1 : Int32} {x2 : Int32} {z : gS} {P : Int32 → gS → Prop} (hn : gOK E n) (hf : wX11_does n sh a0 x1 x2 z P) : VM E 5 0 gyX11_does [.ref a0, .int x1, .int x2] n sh z (kI n sh P) := by
  unfold wX11_does at hf
  refine VM.of (by decide +kernel) (Nat.le_of_ble_eq_true rfl) (fun _ _ _ h => h.2.2) ?_
  show V E (gR 5 0) gyX11_does 0 0 0 [(0, .ref a0), (1, .int x1), (2, .int x2)] [] n sh z (kI n sh P)
  refine V_aload_n (j := 0) dX11_does_0 rfl rfl ?_
  obtain ⟨h1, hf⟩ := hf
  obtain ⟨t2, et2, hf⟩ := hf
  refine V_getR fl_X11_51 rfl h1.1 h1.2 et2 dX11_does_1 ?_
  refine V_iload_n (j := 1) dX11_does_4 rfl rfl ?_
  obtain ⟨h5, hf⟩ := hf
  refine V_cVI (ctX7_hasPerson hn hf) gc_X11_149 rfl h5.1 ⟨_, h5.2, by decide, rfl⟩ ⟨by decide, by decide, Nat.zero_le _, Nat.zero_le _⟩ (Nat.le_of_ble_eq_true rfl) dX11_does_5 rfl hn (fun r3 z4 hf => ?_)
  refine V_if_eq (tgt := 22) dX11_does_8 (by decide) (fun h21 => ?_) (fun h21 => ?_)
  · have hf := it_t h21 hf
    refine V_iconst (v := (-1 : Int32)) dX11_does_22 (by decide) ?_
    exact V_ireturn dX11_does_23 rfl rfl (Nat.le_refl 0) (kI_of hf)
  · have hf := it_f h21 hf
    refine V_aload_n (j := 0) dX11_does_11 rfl rfl ?_
    obtain ⟨t6, et6, hf⟩ := hf
    refine V_getR fl_X11_51 rfl h1.1 h1.2 et6 dX11_does_12 ?_
    refine V_iload_n (j := 2) dX11_does_15 rfl rfl ?_
    obtain ⟨h9, hf⟩ := hf
    refine V_cVI (ctX7_hasDeed hn hf) gc_X11_166 rfl h9.1 ⟨_, h9.2, by decide, rfl⟩ ⟨by decide, by decide, Nat.zero_le _, Nat.zero_le _⟩ (Nat.le_of_ble_eq_true rfl) dX11_does_16 rfl hn (fun r7 z8 hf => ?_)
    refine V_if_ne (tgt := 24) dX11_does_19 (by decide) (fun h20 => ?_) (fun h20 => ?_)
    · have hf := it_f h20 hf
      refine V_aload_n (j := 0) dX11_does_24 rfl rfl ?_
      obtain ⟨t10, et10, hf⟩ := hf
      refine V_getR fl_X11_29 rfl h1.1 h1.2 et10 dX11_does_25 ?_
      refine V_aload_n (j := 0) dX11_does_28 rfl rfl ?_
      obtain ⟨t11, et11, hf⟩ := hf
      refine V_getR fl_X11_19 rfl h1.1 h1.2 et11 dX11_does_29 ?_
      obtain ⟨h14, hf⟩ := hf
      refine V_cVN (ctX4_keep hn hf) gc_X11_159 rfl h14.1 ⟨_, h14.2, by decide, rfl⟩ ⟨by decide, by decide, Nat.zero_le _, Nat.zero_le _⟩ (Nat.le_of_ble_eq_true rfl) dX11_does_32 rfl hn (fun z13 hf => ?_)
      refine V_aload_n (j := 0) dX11_does_35 rfl rfl ?_
      obtain ⟨t15, et15, hf⟩ := hf
      refine V_getR fl_X11_19 rfl h1.1 h1.2 et15 dX11_does_36 ?_
      refine V_aload_n (j := 0) dX11_does_39 rfl rfl ?_
      obtain ⟨t16, et16, hf⟩ := hf
      refine V_getR fl_X11_51 rfl h1.1 h1.2 et16 dX11_does_40 ?_
      refine V_iload_n (j := 1) dX11_does_43 rfl rfl ?_
      refine V_iload_n (j := 2) dX11_does_44 rfl rfl ?_
      obtain ⟨h19, hf⟩ := hf
      refine V_cVI (ctX10_act hn hf) gc_X11_169 rfl h19.1 ⟨_, h19.2, by decide, rfl⟩ ⟨by decide, by decide, Nat.zero_le _, Nat.zero_le _⟩ (Nat.le_of_ble_eq_true rfl) dX11_does_45 rfl hn (fun r17 z18 hf => ?_)
      exact V_ireturn dX11_does_48 rfl rfl (Nat.le_refl 0) (kI_of hf)
    · have hf := it_t (Classical.not_not.mp h20) hf
      refine V_iconst (v := (-1 : Int32)) dX11_does_22 (by decide) ?_
      exact V_ireturn dX11_does_23 rfl rfl (Nat.le_refl 0) (kI_of hf)
def wX10_canRinse (n : Nat) (sh : Nat → Nat × Nat) (a0 : Nat) (x1 : Int32) (z : gS) (P : Int32 → gS → Prop) : Prop := (oO n sh a0 6) ∧ (wX10_isBroken n sh a0 x1 z (fun (r1 : Int32) (z2 : gS) => if r1 = 0 then (∃ t4 : Nat, gr z2 a0 6 = some t4 ∧ ((oA n sh t4 1) ∧ ((vp_in x1 (sh t4).2) ∧ (if (gi z2 t4 x1.toNatClampNeg) ≤ 0 then P (0 : Int32) z2 else P (1 : Int32) z2)))) else P (0 : Int32) z2))
set_option maxRecDepth 100000 in
set_option maxHeartbeats 4000000 in
theorem ctX10_canRinse {E : gE} {n : Nat} {sh : Nat → Nat × Nat} {a0 : Nat} {x1 : Int32} {z : gS} {P : Int32 → gS → Prop} (hn : gOK E n) (hf : wX10_canRinse n sh a0 x1 z P) : VM E 1 0 gyX10_canRinse [.ref a0, .int x1] n sh z (kI n sh P) := by
  unfold wX10_canRinse at hf
  refine VM.of (by decide +kernel) (Nat.le_of_ble_eq_true rfl) (fun _ _ _ h => h.2.2) ?_
  show V E (gR 1 0) gyX10_canRinse 0 0 0 [(0, .ref a0), (1, .int x1)] [] n sh z (kI n sh P)
  refine V_aload_n (j := 0) dX10_canRinse_0 rfl rfl ?_
  refine V_iload_n (j := 1) dX10_canRinse_1 rfl rfl ?_
  obtain ⟨h3, hf⟩ := hf
  refine V_cVI (ctX10_isBroken hn hf) gc_X10_48 rfl h3.1 ⟨_, h3.2, by decide, rfl⟩ ⟨by decide, by decide, Nat.zero_le _, Nat.zero_le _⟩ (Nat.le_of_ble_eq_true rfl) dX10_canRinse_2 rfl hn (fun r1 z2 hf => ?_)
  refine V_if_ne (tgt := 21) dX10_canRinse_5 (by decide) (fun h8 => ?_) (fun h8 => ?_)
  · have hf := it_f h8 hf
    refine V_iconst (v := (0 : Int32)) dX10_canRinse_21 (by decide) ?_
    exact V_ireturn dX10_canRinse_22 rfl (by decide) (Nat.le_refl 0) (kI_of hf)
  · have hf := it_t (Classical.not_not.mp h8) hf
    refine V_aload_n (j := 0) dX10_canRinse_8 rfl rfl ?_
    obtain ⟨t4, et4, hf⟩ := hf
    refine V_getR fl_X10_31 rfl h3.1 h3.2 et4 dX10_canRinse_9 ?_
    refine V_iload_n (j := 1) dX10_canRinse_12 rfl rfl ?_
    obtain ⟨h5, hf⟩ := hf
    obtain ⟨h6, hf⟩ := hf
    refine V_iald h5.1 h5.s h6 dX10_canRinse_13 ?_
    refine V_if_le (tgt := 21) dX10_canRinse_14 (by decide) (fun h7 => ?_) (fun h7 => ?_)
    · have hf := it_t h7 hf
      refine V_iconst (v := (0 : Int32)) dX10_canRinse_21 (by decide) ?_
      exact V_ireturn dX10_canRinse_22 rfl (by decide) (Nat.le_refl 0) (kI_of hf)
    · have hf := it_f h7 hf
      refine V_iconst (v := (1 : Int32)) dX10_canRinse_17 (by decide) ?_
      refine V_goto (tgt := 22) dX10_canRinse_18 (by decide) ?_
      exact V_ireturn dX10_canRinse_22 rfl (by decide) (Nat.le_refl 0) (kI_of hf)
def wX10_rinses (n : Nat) (sh : Nat → Nat × Nat) (a0 : Nat) (x1 : Int32) (z : gS) (P : Int32 → gS → Prop) : Prop := (oO n sh a0 6) ∧ (wX10_canRinse n sh a0 x1 z (fun (r1 : Int32) (z2 : gS) => if r1 = 0 then P (0 : Int32) z2 else (∃ t4 : Nat, gr z2 a0 6 = some t4 ∧ ((oA n sh t4 1) ∧ ((vp_in x1 (sh t4).2) ∧ ((vp_in x1 (sh t4).2) ∧ (∀ z8 : gS, z8 = si z2 t4 x1.toNatClampNeg ((gi z2 t4 x1.toNatClampNeg) - (1 : Int32)) → P (1 : Int32) z8)))))))
set_option maxRecDepth 100000 in
set_option maxHeartbeats 4000000 in
theorem ctX10_rinses {E : gE} {n : Nat} {sh : Nat → Nat × Nat} {a0 : Nat} {x1 : Int32} {z : gS} {P : Int32 → gS → Prop} (hn : gOK E n) (hf : wX10_rinses n sh a0 x1 z P) : VM E 2 0 gyX10_rinses [.ref a0, .int x1] n sh z (kI n sh P) := by
  unfold wX10_rinses at hf
  refine VM.of (by decide +kernel) (Nat.le_of_ble_eq_true rfl) (fun _ _ _ h => h.2.2) ?_
  show V E (gR 2 0) gyX10_rinses 0 0 0 [(0, .ref a0), (1, .int x1)] [] n sh z (kI n sh P)
  refine V_aload_n (j := 0) dX10_rinses_0 rfl rfl ?_
  refine V_iload_n (j := 1) dX10_rinses_1 rfl rfl ?_
  obtain ⟨h3, hf⟩ := hf
  refine V_cVI (ctX10_canRinse hn hf) gc_X10_95 rfl h3.1 ⟨_, h3.2, by decide, rfl⟩ ⟨by decide, by decide, Nat.zero_le _, Nat.zero_le _⟩ (Nat.le_of_ble_eq_true rfl) dX10_rinses_2 rfl hn (fun r1 z2 hf => ?_)
  refine V_if_ne (tgt := 10) dX10_rinses_5 (by decide) (fun h9 => ?_) (fun h9 => ?_)
  · have hf := it_f h9 hf
    refine V_aload_n (j := 0) dX10_rinses_10 rfl rfl ?_
    obtain ⟨t4, et4, hf⟩ := hf
    refine V_getR fl_X10_31 rfl h3.1 h3.2 et4 dX10_rinses_11 ?_
    refine V_iload_n (j := 1) dX10_rinses_14 rfl rfl ?_
    refine V_dup2 dX10_rinses_15 rfl rfl ?_
    obtain ⟨h5, hf⟩ := hf
    obtain ⟨h6, hf⟩ := hf
    refine V_iald h5.1 h5.s h6 dX10_rinses_16 ?_
    refine V_iconst (v := (1 : Int32)) dX10_rinses_17 (by decide) ?_
    refine V_isub dX10_rinses_18 ?_
    obtain ⟨h7, hf⟩ := hf
    refine V_iast h5.1 h5.s h7 dX10_rinses_19 ?_
    refine V_nz (fun z8 ez8 => ?_)
    have hf := hf z8 ez8
    refine V_iconst (v := (1 : Int32)) dX10_rinses_20 (by decide) ?_
    exact V_ireturn dX10_rinses_21 rfl (by decide) (Nat.le_refl 0) (kI_of hf)
  · have hf := it_t (Classical.not_not.mp h9) hf
    refine V_iconst (v := (0 : Int32)) dX10_rinses_8 (by decide) ?_
    exact V_ireturn dX10_rinses_9 rfl (by decide) (Nat.le_refl 0) (kI_of hf)
def wX11_wash (n : Nat) (sh : Nat → Nat × Nat) (a0 : Nat) (x1 : Int32) (z : gS) (P : Int32 → gS → Prop) : Prop := (oO n sh a0 7) ∧ (∃ t2 : Nat, gr z a0 7 = some t2 ∧ ((oO n sh t2 4) ∧ (wX7_hasPane n sh t2 x1 z (fun (r3 : Int32) (z4 : gS) => if r3 = 0 then P (-1 : Int32) z4 else (∃ t6 : Nat, gr z4 a0 1 = some t6 ∧ ((oO n sh t6 6) ∧ (wX10_canRinse n sh t6 x1 z4 (fun (r7 : Int32) (z8 : gS) => if r7 = 0 then P (-1 : Int32) z8 else (∃ t10 : Nat, gr z8 a0 3 = some t10 ∧ (∃ t11 : Nat, gr z8 a0 1 = some t11 ∧ ((oO n sh t10 2) ∧ (wX4_keep n sh t10 t11 z8 (fun (z13 : gS) => ∃ t15 : Nat, gr z13 a0 1 = some t15 ∧ ((oO n sh t15 6) ∧ (wX10_rinses n sh t15 x1 z13 (fun (r16 : Int32) (z17 : gS) => ∃ t19 : Nat, gr z17 a0 1 = some t19 ∧ ((oO n sh t19 6) ∧ (∃ t21 : Nat, gr z17 t19 6 = some t21 ∧ ((oA n sh t21 1) ∧ ((vp_in x1 (sh t21).2) ∧ P (gi z17 t21 x1.toNatClampNeg) z17))))))))))))))))))))
set_option maxRecDepth 100000 in
set_option maxHeartbeats 4000000 in
theorem ctX11_wash {E : gE} {n : Nat} {sh : Nat → Nat × Nat} {a0 : Nat} {x1 : Int32} {z : gS} {P : Int32 → gS → Prop} (hn : gOK E n) (hf : wX11_wash n sh a0 x1 z P) : VM E 3 0 gyX11_wash [.ref a0, .int x1] n sh z (kI n sh P) := by
  unfold wX11_wash at hf
  refine VM.of (by decide +kernel) (Nat.le_of_ble_eq_true rfl) (fun _ _ _ h => h.2.2) ?_
  show V E (gR 3 0) gyX11_wash 0 0 0 [(0, .ref a0), (1, .int x1)] [] n sh z (kI n sh P)
  refine V_aload_n (j := 0) dX11_wash_0 rfl rfl ?_
  obtain ⟨h1, hf⟩ := hf
  obtain ⟨t2, et2, hf⟩ := hf
  refine V_getR fl_X11_51 rfl h1.1 h1.2 et2 dX11_wash_1 ?_
  refine V_iload_n (j := 1) dX11_wash_4 rfl rfl ?_
  obtain ⟨h5, hf⟩ := hf
  refine V_cVI (ctX7_hasPane hn hf) gc_X11_101 rfl h5.1 ⟨_, h5.2, by decide, rfl⟩ ⟨by decide, by decide, Nat.zero_le _, Nat.zero_le _⟩ (Nat.le_of_ble_eq_true rfl) dX11_wash_5 rfl hn (fun r3 z4 hf => ?_)
  refine V_if_eq (tgt := 22) dX11_wash_8 (by decide) (fun h25 => ?_) (fun h25 => ?_)
  · have hf := it_t h25 hf
    refine V_iconst (v := (-1 : Int32)) dX11_wash_22 (by decide) ?_
    exact V_ireturn dX11_wash_23 rfl rfl (Nat.le_refl 0) (kI_of hf)
  · have hf := it_f h25 hf
    refine V_aload_n (j := 0) dX11_wash_11 rfl rfl ?_
    obtain ⟨t6, et6, hf⟩ := hf
    refine V_getR fl_X11_19 rfl h1.1 h1.2 et6 dX11_wash_12 ?_
    refine V_iload_n (j := 1) dX11_wash_15 rfl rfl ?_
    obtain ⟨h9, hf⟩ := hf
    refine V_cVI (ctX10_canRinse hn hf) gc_X11_173 rfl h9.1 ⟨_, h9.2, by decide, rfl⟩ ⟨by decide, by decide, Nat.zero_le _, Nat.zero_le _⟩ (Nat.le_of_ble_eq_true rfl) dX11_wash_16 rfl hn (fun r7 z8 hf => ?_)
    refine V_if_ne (tgt := 24) dX11_wash_19 (by decide) (fun h24 => ?_) (fun h24 => ?_)
    · have hf := it_f h24 hf
      refine V_aload_n (j := 0) dX11_wash_24 rfl rfl ?_
      obtain ⟨t10, et10, hf⟩ := hf
      refine V_getR fl_X11_29 rfl h1.1 h1.2 et10 dX11_wash_25 ?_
      refine V_aload_n (j := 0) dX11_wash_28 rfl rfl ?_
      obtain ⟨t11, et11, hf⟩ := hf
      refine V_getR fl_X11_19 rfl h1.1 h1.2 et11 dX11_wash_29 ?_
      obtain ⟨h14, hf⟩ := hf
      refine V_cVN (ctX4_keep hn hf) gc_X11_159 rfl h14.1 ⟨_, h14.2, by decide, rfl⟩ ⟨by decide, by decide, Nat.zero_le _, Nat.zero_le _⟩ (Nat.le_of_ble_eq_true rfl) dX11_wash_32 rfl hn (fun z13 hf => ?_)
      refine V_aload_n (j := 0) dX11_wash_35 rfl rfl ?_
      obtain ⟨t15, et15, hf⟩ := hf
      refine V_getR fl_X11_19 rfl h1.1 h1.2 et15 dX11_wash_36 ?_
      refine V_iload_n (j := 1) dX11_wash_39 rfl rfl ?_
      obtain ⟨h18, hf⟩ := hf
      refine V_cVI (ctX10_rinses hn hf) gc_X11_176 rfl h18.1 ⟨_, h18.2, by decide, rfl⟩ ⟨by decide, by decide, Nat.zero_le _, Nat.zero_le _⟩ (Nat.le_of_ble_eq_true rfl) dX11_wash_40 rfl hn (fun r16 z17 hf => ?_)
      refine V_pop dX11_wash_43 rfl ?_
      refine V_aload_n (j := 0) dX11_wash_44 rfl rfl ?_
      obtain ⟨t19, et19, hf⟩ := hf
      refine V_getR fl_X11_19 rfl h1.1 h1.2 et19 dX11_wash_45 ?_
      obtain ⟨h20, hf⟩ := hf
      obtain ⟨t21, et21, hf⟩ := hf
      refine V_getR fl_X11_112 rfl h20.1 h20.2 et21 dX11_wash_48 ?_
      refine V_iload_n (j := 1) dX11_wash_51 rfl rfl ?_
      obtain ⟨h22, hf⟩ := hf
      obtain ⟨h23, hf⟩ := hf
      refine V_iald h22.1 h22.s h23 dX11_wash_52 ?_
      exact V_ireturn dX11_wash_53 rfl rfl (Nat.le_refl 0) (kI_of hf)
    · have hf := it_t (Classical.not_not.mp h24) hf
      refine V_iconst (v := (-1 : Int32)) dX11_wash_22 (by decide) ?_
      exact V_ireturn dX11_wash_23 rfl rfl (Nat.le_refl 0) (kI_of hf)
def wX10_pulls (n : Nat) (sh : Nat → Nat × Nat) (a0 : Nat) (x1 : Int32) (z : gS) (P : Int32 → gS → Prop) : Prop := (oO n sh a0 6) ∧ (wX10_isBroken n sh a0 x1 z (fun (r1 : Int32) (z2 : gS) => if r1 = 0 then (∀ z4 : gS, z4 = si z2 a0 1 ((gi z2 a0 1) ^^^ ((1 : Int32) <<< (x1 &&& 31))) → P (1 : Int32) z4) else P (0 : Int32) z2))
set_option maxRecDepth 100000 in
set_option maxHeartbeats 4000000 in
theorem ctX10_pulls {E : gE} {n : Nat} {sh : Nat → Nat × Nat} {a0 : Nat} {x1 : Int32} {z : gS} {P : Int32 → gS → Prop} (hn : gOK E n) (hf : wX10_pulls n sh a0 x1 z P) : VM E 1 0 gyX10_pulls [.ref a0, .int x1] n sh z (kI n sh P) := by
  unfold wX10_pulls at hf
  refine VM.of (by decide +kernel) (Nat.le_of_ble_eq_true rfl) (fun _ _ _ h => h.2.2) ?_
  show V E (gR 1 0) gyX10_pulls 0 0 0 [(0, .ref a0), (1, .int x1)] [] n sh z (kI n sh P)
  refine V_aload_n (j := 0) dX10_pulls_0 rfl rfl ?_
  refine V_iload_n (j := 1) dX10_pulls_1 rfl rfl ?_
  obtain ⟨h3, hf⟩ := hf
  refine V_cVI (ctX10_isBroken hn hf) gc_X10_48 rfl h3.1 ⟨_, h3.2, by decide, rfl⟩ ⟨by decide, by decide, Nat.zero_le _, Nat.zero_le _⟩ (Nat.le_of_ble_eq_true rfl) dX10_pulls_2 rfl hn (fun r1 z2 hf => ?_)
  refine V_if_eq (tgt := 10) dX10_pulls_5 (by decide) (fun h5 => ?_) (fun h5 => ?_)
  · have hf := it_t h5 hf
    refine V_aload_n (j := 0) dX10_pulls_10 rfl rfl ?_
    refine V_dup dX10_pulls_11 rfl ?_
    refine V_getI fl_X10_15 rfl h3.1 h3.2 dX10_pulls_12 ?_
    refine V_iconst (v := (1 : Int32)) dX10_pulls_15 (by decide) ?_
    refine V_iload_n (j := 1) dX10_pulls_16 rfl rfl ?_
    refine V_ishl dX10_pulls_17 ?_
    refine V_ixor dX10_pulls_18 ?_
    refine V_putI fl_X10_15 rfl rfl rfl rfl h3.1 h3.2 dX10_pulls_19 ?_
    refine V_nz (fun z4 ez4 => ?_)
    have hf := hf z4 ez4
    refine V_iconst (v := (1 : Int32)) dX10_pulls_22 (by decide) ?_
    exact V_ireturn dX10_pulls_23 rfl (by decide) (Nat.le_refl 0) (kI_of hf)
  · have hf := it_f h5 hf
    refine V_iconst (v := (0 : Int32)) dX10_pulls_8 (by decide) ?_
    exact V_ireturn dX10_pulls_9 rfl (by decide) (Nat.le_refl 0) (kI_of hf)
def wX11_curtain (n : Nat) (sh : Nat → Nat × Nat) (a0 : Nat) (x1 : Int32) (z : gS) (P : Int32 → gS → Prop) : Prop := (oO n sh a0 7) ∧ (∃ t2 : Nat, gr z a0 7 = some t2 ∧ ((oO n sh t2 4) ∧ (wX7_hasPane n sh t2 x1 z (fun (r3 : Int32) (z4 : gS) => if r3 = 0 then P (0 : Int32) z4 else (∃ t6 : Nat, gr z4 a0 1 = some t6 ∧ ((oO n sh t6 6) ∧ (wX10_isBroken n sh t6 x1 z4 (fun (r7 : Int32) (z8 : gS) => if r7 = 0 then (∃ t10 : Nat, gr z8 a0 3 = some t10 ∧ (∃ t11 : Nat, gr z8 a0 1 = some t11 ∧ ((oO n sh t10 2) ∧ (wX4_keep n sh t10 t11 z8 (fun (z13 : gS) => ∃ t15 : Nat, gr z13 a0 1 = some t15 ∧ ((oO n sh t15 6) ∧ (wX10_pulls n sh t15 x1 z13 (fun (r16 : Int32) (z17 : gS) => (bo r16) ∧ P r16 z17)))))))) else P (0 : Int32) z8))))))))
set_option maxRecDepth 100000 in
set_option maxHeartbeats 4000000 in
theorem ctX11_curtain {E : gE} {n : Nat} {sh : Nat → Nat × Nat} {a0 : Nat} {x1 : Int32} {z : gS} {P : Int32 → gS → Prop} (hn : gOK E n) (hf : wX11_curtain n sh a0 x1 z P) : VM E 3 0 gyX11_curtain [.ref a0, .int x1] n sh z (kI n sh P) := by
  unfold wX11_curtain at hf
  refine VM.of (by decide +kernel) (Nat.le_of_ble_eq_true rfl) (fun _ _ _ h => h.2.2) ?_
  show V E (gR 3 0) gyX11_curtain 0 0 0 [(0, .ref a0), (1, .int x1)] [] n sh z (kI n sh P)
  refine V_aload_n (j := 0) dX11_curtain_0 rfl rfl ?_
  obtain ⟨h1, hf⟩ := hf
  obtain ⟨t2, et2, hf⟩ := hf
  refine V_getR fl_X11_51 rfl h1.1 h1.2 et2 dX11_curtain_1 ?_
  refine V_iload_n (j := 1) dX11_curtain_4 rfl rfl ?_
  obtain ⟨h5, hf⟩ := hf
  refine V_cVI (ctX7_hasPane hn hf) gc_X11_101 rfl h5.1 ⟨_, h5.2, by decide, rfl⟩ ⟨by decide, by decide, Nat.zero_le _, Nat.zero_le _⟩ (Nat.le_of_ble_eq_true rfl) dX11_curtain_5 rfl hn (fun r3 z4 hf => ?_)
  refine V_if_eq (tgt := 22) dX11_curtain_8 (by decide) (fun h20 => ?_) (fun h20 => ?_)
  · have hf := it_t h20 hf
    refine V_iconst (v := (0 : Int32)) dX11_curtain_22 (by decide) ?_
    exact V_ireturn dX11_curtain_23 rfl (by decide) (Nat.le_refl 0) (kI_of hf)
  · have hf := it_f h20 hf
    refine V_aload_n (j := 0) dX11_curtain_11 rfl rfl ?_
    obtain ⟨t6, et6, hf⟩ := hf
    refine V_getR fl_X11_19 rfl h1.1 h1.2 et6 dX11_curtain_12 ?_
    refine V_iload_n (j := 1) dX11_curtain_15 rfl rfl ?_
    obtain ⟨h9, hf⟩ := hf
    refine V_cVI (ctX10_isBroken hn hf) gc_X11_118 rfl h9.1 ⟨_, h9.2, by decide, rfl⟩ ⟨by decide, by decide, Nat.zero_le _, Nat.zero_le _⟩ (Nat.le_of_ble_eq_true rfl) dX11_curtain_16 rfl hn (fun r7 z8 hf => ?_)
    refine V_if_eq (tgt := 24) dX11_curtain_19 (by decide) (fun h19 => ?_) (fun h19 => ?_)
    · have hf := it_t h19 hf
      refine V_aload_n (j := 0) dX11_curtain_24 rfl rfl ?_
      obtain ⟨t10, et10, hf⟩ := hf
      refine V_getR fl_X11_29 rfl h1.1 h1.2 et10 dX11_curtain_25 ?_
      refine V_aload_n (j := 0) dX11_curtain_28 rfl rfl ?_
      obtain ⟨t11, et11, hf⟩ := hf
      refine V_getR fl_X11_19 rfl h1.1 h1.2 et11 dX11_curtain_29 ?_
      obtain ⟨h14, hf⟩ := hf
      refine V_cVN (ctX4_keep hn hf) gc_X11_159 rfl h14.1 ⟨_, h14.2, by decide, rfl⟩ ⟨by decide, by decide, Nat.zero_le _, Nat.zero_le _⟩ (Nat.le_of_ble_eq_true rfl) dX11_curtain_32 rfl hn (fun z13 hf => ?_)
      refine V_aload_n (j := 0) dX11_curtain_35 rfl rfl ?_
      obtain ⟨t15, et15, hf⟩ := hf
      refine V_getR fl_X11_19 rfl h1.1 h1.2 et15 dX11_curtain_36 ?_
      refine V_iload_n (j := 1) dX11_curtain_39 rfl rfl ?_
      obtain ⟨h18, hf⟩ := hf
      refine V_cVI (ctX10_pulls hn hf) gc_X11_179 rfl h18.1 ⟨_, h18.2, by decide, rfl⟩ ⟨by decide, by decide, Nat.zero_le _, Nat.zero_le _⟩ (Nat.le_of_ble_eq_true rfl) dX11_curtain_40 rfl hn (fun r16 z17 hf => ?_)
      exact V_ireturn dX11_curtain_43 rfl hf.1 (Nat.le_refl 0) (kI_of hf.2)
    · have hf := it_f h19 hf
      refine V_iconst (v := (0 : Int32)) dX11_curtain_22 (by decide) ?_
      exact V_ireturn dX11_curtain_23 rfl (by decide) (Nat.le_refl 0) (kI_of hf)
def wX10_smashes (n : Nat) (sh : Nat → Nat × Nat) (a0 : Nat) (x1 : Int32) (z : gS) (P : Int32 → gS → Prop) : Prop := (oO n sh a0 6) ∧ (wX10_isBroken n sh a0 x1 z (fun (r1 : Int32) (z2 : gS) => if r1 = 0 then (∀ z4 : gS, z4 = si z2 a0 2 ((gi z2 a0 2) ||| ((1 : Int32) <<< (x1 &&& 31))) → P (1 : Int32) z4) else P (0 : Int32) z2))
set_option maxRecDepth 100000 in
set_option maxHeartbeats 4000000 in
theorem ctX10_smashes {E : gE} {n : Nat} {sh : Nat → Nat × Nat} {a0 : Nat} {x1 : Int32} {z : gS} {P : Int32 → gS → Prop} (hn : gOK E n) (hf : wX10_smashes n sh a0 x1 z P) : VM E 1 0 gyX10_smashes [.ref a0, .int x1] n sh z (kI n sh P) := by
  unfold wX10_smashes at hf
  refine VM.of (by decide +kernel) (Nat.le_of_ble_eq_true rfl) (fun _ _ _ h => h.2.2) ?_
  show V E (gR 1 0) gyX10_smashes 0 0 0 [(0, .ref a0), (1, .int x1)] [] n sh z (kI n sh P)
  refine V_aload_n (j := 0) dX10_smashes_0 rfl rfl ?_
  refine V_iload_n (j := 1) dX10_smashes_1 rfl rfl ?_
  obtain ⟨h3, hf⟩ := hf
  refine V_cVI (ctX10_isBroken hn hf) gc_X10_48 rfl h3.1 ⟨_, h3.2, by decide, rfl⟩ ⟨by decide, by decide, Nat.zero_le _, Nat.zero_le _⟩ (Nat.le_of_ble_eq_true rfl) dX10_smashes_2 rfl hn (fun r1 z2 hf => ?_)
  refine V_if_eq (tgt := 10) dX10_smashes_5 (by decide) (fun h5 => ?_) (fun h5 => ?_)
  · have hf := it_t h5 hf
    refine V_aload_n (j := 0) dX10_smashes_10 rfl rfl ?_
    refine V_dup dX10_smashes_11 rfl ?_
    refine V_getI fl_X10_18 rfl h3.1 h3.2 dX10_smashes_12 ?_
    refine V_iconst (v := (1 : Int32)) dX10_smashes_15 (by decide) ?_
    refine V_iload_n (j := 1) dX10_smashes_16 rfl rfl ?_
    refine V_ishl dX10_smashes_17 ?_
    refine V_ior dX10_smashes_18 ?_
    refine V_putI fl_X10_18 rfl rfl rfl rfl h3.1 h3.2 dX10_smashes_19 ?_
    refine V_nz (fun z4 ez4 => ?_)
    have hf := hf z4 ez4
    refine V_iconst (v := (1 : Int32)) dX10_smashes_22 (by decide) ?_
    exact V_ireturn dX10_smashes_23 rfl (by decide) (Nat.le_refl 0) (kI_of hf)
  · have hf := it_f h5 hf
    refine V_iconst (v := (0 : Int32)) dX10_smashes_8 (by decide) ?_
    exact V_ireturn dX10_smashes_9 rfl (by decide) (Nat.le_refl 0) (kI_of hf)
def wX11_stone (n : Nat) (sh : Nat → Nat × Nat) (a0 : Nat) (x1 : Int32) (z : gS) (P : Int32 → gS → Prop) : Prop := (oO n sh a0 7) ∧ (∃ t2 : Nat, gr z a0 7 = some t2 ∧ ((oO n sh t2 4) ∧ (wX7_hasPane n sh t2 x1 z (fun (r3 : Int32) (z4 : gS) => if r3 = 0 then P (0 : Int32) z4 else (∃ t6 : Nat, gr z4 a0 1 = some t6 ∧ ((oO n sh t6 6) ∧ (wX10_isBroken n sh t6 x1 z4 (fun (r7 : Int32) (z8 : gS) => if r7 = 0 then (∃ t10 : Nat, gr z8 a0 3 = some t10 ∧ (∃ t11 : Nat, gr z8 a0 1 = some t11 ∧ ((oO n sh t10 2) ∧ (wX4_keep n sh t10 t11 z8 (fun (z13 : gS) => ∃ t15 : Nat, gr z13 a0 1 = some t15 ∧ ((oO n sh t15 6) ∧ (wX10_smashes n sh t15 x1 z13 (fun (r16 : Int32) (z17 : gS) => (bo r16) ∧ P r16 z17)))))))) else P (0 : Int32) z8))))))))
set_option maxRecDepth 100000 in
set_option maxHeartbeats 4000000 in
theorem ctX11_stone {E : gE} {n : Nat} {sh : Nat → Nat × Nat} {a0 : Nat} {x1 : Int32} {z : gS} {P : Int32 → gS → Prop} (hn : gOK E n) (hf : wX11_stone n sh a0 x1 z P) : VM E 3 0 gyX11_stone [.ref a0, .int x1] n sh z (kI n sh P) := by
  unfold wX11_stone at hf
  refine VM.of (by decide +kernel) (Nat.le_of_ble_eq_true rfl) (fun _ _ _ h => h.2.2) ?_
  show V E (gR 3 0) gyX11_stone 0 0 0 [(0, .ref a0), (1, .int x1)] [] n sh z (kI n sh P)
  refine V_aload_n (j := 0) dX11_stone_0 rfl rfl ?_
  obtain ⟨h1, hf⟩ := hf
  obtain ⟨t2, et2, hf⟩ := hf
  refine V_getR fl_X11_51 rfl h1.1 h1.2 et2 dX11_stone_1 ?_
  refine V_iload_n (j := 1) dX11_stone_4 rfl rfl ?_
  obtain ⟨h5, hf⟩ := hf
  refine V_cVI (ctX7_hasPane hn hf) gc_X11_101 rfl h5.1 ⟨_, h5.2, by decide, rfl⟩ ⟨by decide, by decide, Nat.zero_le _, Nat.zero_le _⟩ (Nat.le_of_ble_eq_true rfl) dX11_stone_5 rfl hn (fun r3 z4 hf => ?_)
  refine V_if_eq (tgt := 22) dX11_stone_8 (by decide) (fun h20 => ?_) (fun h20 => ?_)
  · have hf := it_t h20 hf
    refine V_iconst (v := (0 : Int32)) dX11_stone_22 (by decide) ?_
    exact V_ireturn dX11_stone_23 rfl (by decide) (Nat.le_refl 0) (kI_of hf)
  · have hf := it_f h20 hf
    refine V_aload_n (j := 0) dX11_stone_11 rfl rfl ?_
    obtain ⟨t6, et6, hf⟩ := hf
    refine V_getR fl_X11_19 rfl h1.1 h1.2 et6 dX11_stone_12 ?_
    refine V_iload_n (j := 1) dX11_stone_15 rfl rfl ?_
    obtain ⟨h9, hf⟩ := hf
    refine V_cVI (ctX10_isBroken hn hf) gc_X11_118 rfl h9.1 ⟨_, h9.2, by decide, rfl⟩ ⟨by decide, by decide, Nat.zero_le _, Nat.zero_le _⟩ (Nat.le_of_ble_eq_true rfl) dX11_stone_16 rfl hn (fun r7 z8 hf => ?_)
    refine V_if_eq (tgt := 24) dX11_stone_19 (by decide) (fun h19 => ?_) (fun h19 => ?_)
    · have hf := it_t h19 hf
      refine V_aload_n (j := 0) dX11_stone_24 rfl rfl ?_
      obtain ⟨t10, et10, hf⟩ := hf
      refine V_getR fl_X11_29 rfl h1.1 h1.2 et10 dX11_stone_25 ?_
      refine V_aload_n (j := 0) dX11_stone_28 rfl rfl ?_
      obtain ⟨t11, et11, hf⟩ := hf
      refine V_getR fl_X11_19 rfl h1.1 h1.2 et11 dX11_stone_29 ?_
      obtain ⟨h14, hf⟩ := hf
      refine V_cVN (ctX4_keep hn hf) gc_X11_159 rfl h14.1 ⟨_, h14.2, by decide, rfl⟩ ⟨by decide, by decide, Nat.zero_le _, Nat.zero_le _⟩ (Nat.le_of_ble_eq_true rfl) dX11_stone_32 rfl hn (fun z13 hf => ?_)
      refine V_aload_n (j := 0) dX11_stone_35 rfl rfl ?_
      obtain ⟨t15, et15, hf⟩ := hf
      refine V_getR fl_X11_19 rfl h1.1 h1.2 et15 dX11_stone_36 ?_
      refine V_iload_n (j := 1) dX11_stone_39 rfl rfl ?_
      obtain ⟨h18, hf⟩ := hf
      refine V_cVI (ctX10_smashes hn hf) gc_X11_182 rfl h18.1 ⟨_, h18.2, by decide, rfl⟩ ⟨by decide, by decide, Nat.zero_le _, Nat.zero_le _⟩ (Nat.le_of_ble_eq_true rfl) dX11_stone_40 rfl hn (fun r16 z17 hf => ?_)
      exact V_ireturn dX11_stone_43 rfl hf.1 (Nat.le_refl 0) (kI_of hf.2)
    · have hf := it_f h19 hf
      refine V_iconst (v := (0 : Int32)) dX11_stone_22 (by decide) ?_
      exact V_ireturn dX11_stone_23 rfl (by decide) (Nat.le_refl 0) (kI_of hf)
def wX5_partOf (n : Nat) (sh : Nat → Nat × Nat) (x0 : Int32) (x1 : Int32) (x2 : Int32) (x3 : Int32) (x4 : Int32) (z : gS) (P : Int32 → gS → Prop) : Prop := if x0 = (-4 : Int32) then P x4 z else (if x0 = (-3 : Int32) then P x3 z else (if x0 = (-2 : Int32) then P x2 z else (if x0 = (-1 : Int32) then P x1 z else P x0 z)))
set_option maxRecDepth 100000 in
set_option maxHeartbeats 4000000 in
theorem ctX5_partOf {E : gE} {n : Nat} {sh : Nat → Nat × Nat} {x0 : Int32} {x1 : Int32} {x2 : Int32} {x3 : Int32} {x4 : Int32} {z : gS} {P : Int32 → gS → Prop} (hn : gOK E n) (hf : wX5_partOf n sh x0 x1 x2 x3 x4 z P) : VM E 0 0 gyX5_partOf [.int x0, .int x1, .int x2, .int x3, .int x4] n sh z (kI n sh P) := by
  unfold wX5_partOf at hf
  refine VM.of (by decide +kernel) (Nat.le_of_ble_eq_true rfl) (fun _ _ _ h => h.2.2) ?_
  show V E (gR 0 0) gyX5_partOf 0 0 0 [(0, .int x0), (1, .int x1), (2, .int x2), (3, .int x3), (4, .int x4)] [] n sh z (kI n sh P)
  refine V_iload_n (j := 0) dX5_partOf_0 rfl rfl ?_
  by_cases h1 : x0 = (-4 : Int32)
  · have hf := it_t h1 hf
    refine V_tableIn (off := 37) (tgt := 38) dX5_partOf_1 (by rw [h1]; decide) (by rw [h1]; decide) (by rw [h1]; decide) (by decide) ?_
    refine V_iload (j := 4) dX5_partOf_38 rfl ?_
    exact V_ireturn dX5_partOf_40 rfl rfl (Nat.le_refl 0) (kI_of hf)
  · have hf := it_f h1 hf
    by_cases h2 : x0 = (-3 : Int32)
    · have hf := it_t h2 hf
      refine V_tableIn (off := 35) (tgt := 36) dX5_partOf_1 (by rw [h2]; decide) (by rw [h2]; decide) (by rw [h2]; decide) (by decide) ?_
      refine V_iload_n (j := 3) dX5_partOf_36 rfl rfl ?_
      exact V_ireturn dX5_partOf_37 rfl rfl (Nat.le_refl 0) (kI_of hf)
    · have hf := it_f h2 hf
      by_cases h3 : x0 = (-2 : Int32)
      · have hf := it_t h3 hf
        refine V_tableIn (off := 33) (tgt := 34) dX5_partOf_1 (by rw [h3]; decide) (by rw [h3]; decide) (by rw [h3]; decide) (by decide) ?_
        refine V_iload_n (j := 2) dX5_partOf_34 rfl rfl ?_
        exact V_ireturn dX5_partOf_35 rfl rfl (Nat.le_refl 0) (kI_of hf)
      · have hf := it_f h3 hf
        by_cases h4 : x0 = (-1 : Int32)
        · have hf := it_t h4 hf
          refine V_tableIn (off := 31) (tgt := 32) dX5_partOf_1 (by rw [h4]; decide) (by rw [h4]; decide) (by rw [h4]; decide) (by decide) ?_
          refine V_iload_n (j := 1) dX5_partOf_32 rfl rfl ?_
          exact V_ireturn dX5_partOf_33 rfl rfl (Nat.le_refl 0) (kI_of hf)
        · have hf := it_f h4 hf
          refine V_tableOut (tgt := 41) dX5_partOf_1 (by have qh1 := sw_ne (a := -4) h1 (by decide); have qh2 := sw_ne (a := -3) h2 (by decide); have qh3 := sw_ne (a := -2) h3 (by decide); have qh4 := sw_ne (a := -1) h4 (by decide); omega) (by decide) ?_
          refine V_iload_n (j := 0) dX5_partOf_41 rfl rfl ?_
          exact V_ireturn dX5_partOf_42 rfl rfl (Nat.le_refl 0) (kI_of hf)
def wX5_joined_J62 (n : Nat) (sh : Nat → Nat × Nat) (P : Int32 → gS → Prop) (z : gS) : Prop := P (1 : Int32) z
set_option maxRecDepth 100000 in
set_option maxHeartbeats 4000000 in
theorem vX5_joined_J62 {E : gE} {n : Nat} {sh : Nat → Nat × Nat} {P : Int32 → gS → Prop} {z : gS} (hn : gOK E n) (hf : wX5_joined_J62 n sh P z) : V E (gR 0 0) gyX5_joined 0 0 62 [] [] n sh z (kI n sh P) := by
  unfold wX5_joined_J62 at hf
  refine V_iconst (v := (1 : Int32)) dX5_joined_62 (by decide) ?_
  refine V_goto (tgt := 67) dX5_joined_63 (by decide) ?_
  exact V_ireturn dX5_joined_67 rfl rfl (Nat.le_refl 0) (kI_of hf)
def wX5_joined (n : Nat) (sh : Nat → Nat × Nat) (x0 : Int32) (x1 : Int32) (x2 : Int32) (z : gS) (P : Int32 → gS → Prop) : Prop := if x0 = (-11 : Int32) then P (x1 - x2) z else (if x0 = (-10 : Int32) then P (x1 + x2) z else (if x0 = (-9 : Int32) then (if x1 = x2 then P (1 : Int32) z else P (0 : Int32) z) else (if x0 = (-8 : Int32) then (if x2 ≤ x1 then P (0 : Int32) z else P (1 : Int32) z) else (if x0 = (-7 : Int32) then (if x1 = 0 then (if x2 = 0 then P (0 : Int32) z else wX5_joined_J62 n sh P  z) else wX5_joined_J62 n sh P  z) else (if x0 = (-6 : Int32) then (if x1 = 0 then P (0 : Int32) z else (if x2 = 0 then P (0 : Int32) z else P (1 : Int32) z)) else P (x1 * x2) z)))))
set_option maxRecDepth 100000 in
set_option maxHeartbeats 4000000 in
theorem ctX5_joined {E : gE} {n : Nat} {sh : Nat → Nat × Nat} {x0 : Int32} {x1 : Int32} {x2 : Int32} {z : gS} {P : Int32 → gS → Prop} (hn : gOK E n) (hf : wX5_joined n sh x0 x1 x2 z P) : VM E 0 0 gyX5_joined [.int x0, .int x1, .int x2] n sh z (kI n sh P) := by
  unfold wX5_joined at hf
  refine VM.of (by decide +kernel) (Nat.le_of_ble_eq_true rfl) (fun _ _ _ h => h.2.2) ?_
  show V E (gR 0 0) gyX5_joined 0 0 0 [(0, .int x0), (1, .int x1), (2, .int x2)] [] n sh z (kI n sh P)
  refine V_iload_n (j := 0) dX5_joined_0 rfl rfl ?_
  by_cases h1 : x0 = (-11 : Int32)
  · have hf := it_t h1 hf
    refine V_tableIn (off := 93) (tgt := 94) dX5_joined_1 (by rw [h1]; decide) (by rw [h1]; decide) (by rw [h1]; decide) (by decide) ?_
    refine V_iload_n (j := 1) dX5_joined_94 rfl rfl ?_
    refine V_iload_n (j := 2) dX5_joined_95 rfl rfl ?_
    refine V_isub dX5_joined_96 ?_
    exact V_ireturn dX5_joined_97 rfl rfl (Nat.le_refl 0) (kI_of hf)
  · have hf := it_f h1 hf
    by_cases h2 : x0 = (-10 : Int32)
    · have hf := it_t h2 hf
      refine V_tableIn (off := 89) (tgt := 90) dX5_joined_1 (by rw [h2]; decide) (by rw [h2]; decide) (by rw [h2]; decide) (by decide) ?_
      refine V_iload_n (j := 1) dX5_joined_90 rfl rfl ?_
      refine V_iload_n (j := 2) dX5_joined_91 rfl rfl ?_
      refine V_iadd dX5_joined_92 ?_
      exact V_ireturn dX5_joined_93 rfl rfl (Nat.le_refl 0) (kI_of hf)
    · have hf := it_f h2 hf
      by_cases h3 : x0 = (-9 : Int32)
      · have hf := it_t h3 hf
        refine V_tableIn (off := 78) (tgt := 79) dX5_joined_1 (by rw [h3]; decide) (by rw [h3]; decide) (by rw [h3]; decide) (by decide) ?_
        refine V_iload_n (j := 1) dX5_joined_79 rfl rfl ?_
        refine V_iload_n (j := 2) dX5_joined_80 rfl rfl ?_
        refine V_icmp_ne (tgt := 88) dX5_joined_81 (by decide) (fun h4 => ?_) (fun h4 => ?_)
        · have hf := it_f h4 hf
          refine V_iconst (v := (0 : Int32)) dX5_joined_88 (by decide) ?_
          exact V_ireturn dX5_joined_89 rfl rfl (Nat.le_refl 0) (kI_of hf)
        · have hf := it_t (Classical.not_not.mp h4) hf
          refine V_iconst (v := (1 : Int32)) dX5_joined_84 (by decide) ?_
          refine V_goto (tgt := 89) dX5_joined_85 (by decide) ?_
          exact V_ireturn dX5_joined_89 rfl rfl (Nat.le_refl 0) (kI_of hf)
      · have hf := it_f h3 hf
        by_cases h5 : x0 = (-8 : Int32)
        · have hf := it_t h5 hf
          refine V_tableIn (off := 67) (tgt := 68) dX5_joined_1 (by rw [h5]; decide) (by rw [h5]; decide) (by rw [h5]; decide) (by decide) ?_
          refine V_iload_n (j := 1) dX5_joined_68 rfl rfl ?_
          refine V_iload_n (j := 2) dX5_joined_69 rfl rfl ?_
          refine V_icmp_ge (tgt := 77) dX5_joined_70 (by decide) (fun h6 => ?_) (fun h6 => ?_)
          · have hf := it_t h6 hf
            refine V_iconst (v := (0 : Int32)) dX5_joined_77 (by decide) ?_
            exact V_ireturn dX5_joined_78 rfl rfl (Nat.le_refl 0) (kI_of hf)
          · have hf := it_f h6 hf
            refine V_iconst (v := (1 : Int32)) dX5_joined_73 (by decide) ?_
            refine V_goto (tgt := 78) dX5_joined_74 (by decide) ?_
            exact V_ireturn dX5_joined_78 rfl rfl (Nat.le_refl 0) (kI_of hf)
        · have hf := it_f h5 hf
          by_cases h7 : x0 = (-7 : Int32)
          · have hf := it_t h7 hf
            refine V_tableIn (off := 53) (tgt := 54) dX5_joined_1 (by rw [h7]; decide) (by rw [h7]; decide) (by rw [h7]; decide) (by decide) ?_
            refine V_iload_n (j := 1) dX5_joined_54 rfl rfl ?_
            refine V_if_ne (tgt := 62) dX5_joined_55 (by decide) (fun h9 => ?_) (fun h9 => ?_)
            · have hf := it_f h9 hf
              refine V_to [] rfl ?_
              exact vX5_joined_J62 hn hf
            · have hf := it_t (Classical.not_not.mp h9) hf
              refine V_iload_n (j := 2) dX5_joined_58 rfl rfl ?_
              refine V_if_eq (tgt := 66) dX5_joined_59 (by decide) (fun h8 => ?_) (fun h8 => ?_)
              · have hf := it_t h8 hf
                refine V_iconst (v := (0 : Int32)) dX5_joined_66 (by decide) ?_
                exact V_ireturn dX5_joined_67 rfl rfl (Nat.le_refl 0) (kI_of hf)
              · have hf := it_f h8 hf
                refine V_to [] rfl ?_
                exact vX5_joined_J62 hn hf
          · have hf := it_f h7 hf
            by_cases h10 : x0 = (-6 : Int32)
            · have hf := it_t h10 hf
              refine V_tableIn (off := 39) (tgt := 40) dX5_joined_1 (by rw [h10]; decide) (by rw [h10]; decide) (by rw [h10]; decide) (by decide) ?_
              refine V_iload_n (j := 1) dX5_joined_40 rfl rfl ?_
              refine V_if_eq (tgt := 52) dX5_joined_41 (by decide) (fun h12 => ?_) (fun h12 => ?_)
              · have hf := it_t h12 hf
                refine V_iconst (v := (0 : Int32)) dX5_joined_52 (by decide) ?_
                exact V_ireturn dX5_joined_53 rfl rfl (Nat.le_refl 0) (kI_of hf)
              · have hf := it_f h12 hf
                refine V_iload_n (j := 2) dX5_joined_44 rfl rfl ?_
                refine V_if_eq (tgt := 52) dX5_joined_45 (by decide) (fun h11 => ?_) (fun h11 => ?_)
                · have hf := it_t h11 hf
                  refine V_iconst (v := (0 : Int32)) dX5_joined_52 (by decide) ?_
                  exact V_ireturn dX5_joined_53 rfl rfl (Nat.le_refl 0) (kI_of hf)
                · have hf := it_f h11 hf
                  refine V_iconst (v := (1 : Int32)) dX5_joined_48 (by decide) ?_
                  refine V_goto (tgt := 53) dX5_joined_49 (by decide) ?_
                  exact V_ireturn dX5_joined_53 rfl rfl (Nat.le_refl 0) (kI_of hf)
            · have hf := it_f h10 hf
              refine V_tableOut (tgt := 98) dX5_joined_1 (by have qh1 := sw_ne (a := -11) h1 (by decide); have qh2 := sw_ne (a := -10) h2 (by decide); have qh3 := sw_ne (a := -9) h3 (by decide); have qh5 := sw_ne (a := -8) h5 (by decide); have qh7 := sw_ne (a := -7) h7 (by decide); have qh10 := sw_ne (a := -6) h10 (by decide); omega) (by decide) ?_
              refine V_iload_n (j := 1) dX5_joined_98 rfl rfl ?_
              refine V_iload_n (j := 2) dX5_joined_99 rfl rfl ?_
              refine V_imul dX5_joined_100 ?_
              exact V_ireturn dX5_joined_101 rfl rfl (Nat.le_refl 0) (kI_of hf)
def wX5_isFading_J160 (n : Nat) (sh : Nat → Nat × Nat) (k25 : Nat → Int32 → Int32 → Int32 → Int32 → Int32 → Int32 → gS → Prop) (P : Int32 → gS → Prop) (a0 : Nat) (x1 : Int32) (x2 : Int32) (x3 : Int32) (x4 : Int32) (x5 : Int32) (x6 : Int32) (z : gS) : Prop := ∀ v11 : Int32, v11 = x6 + (1 : Int32) → k25 a0 x1 x2 x3 x4 x5 v11 z
set_option maxRecDepth 100000 in
set_option maxHeartbeats 4000000 in
theorem vX5_isFading_J160 {E : gE} {n : Nat} {sh : Nat → Nat × Nat} {P : Int32 → gS → Prop} {k25 : Nat → Int32 → Int32 → Int32 → Int32 → Int32 → Int32 → gS → Prop} {a0 : Nat} {x1 : Int32} {x2 : Int32} {x3 : Int32} {x4 : Int32} {x5 : Int32} {x6 : Int32} {z : gS} (hn : gOK E n) (hk25 : ∀ (a0 : Nat) (x1 : Int32) (x2 : Int32) (x3 : Int32) (x4 : Int32) (x5 : Int32) (x6 : Int32) (z : gS), k25 a0 x1 x2 x3 x4 x5 x6 z → V E (gR 1 0) gyX5_isFading 0 0 25 [(0, .ref a0), (1, .int x1), (2, .int x2), (3, .int x3), (4, .int x4), (5, .int x5), (6, .int x6)] [] n sh z (kI n sh P)) (hf : wX5_isFading_J160 n sh k25 P a0 x1 x2 x3 x4 x5 x6 z) : V E (gR 1 0) gyX5_isFading 0 0 160 [(0, .ref a0), (1, .int x1), (2, .int x2), (3, .int x3), (4, .int x4), (5, .int x5), (6, .int x6)] [] n sh z (kI n sh P) := by
  unfold wX5_isFading_J160 at hf
  obtain ⟨v11, ev11⟩ : ∃ y : Int32, y = x6 + (1 : Int32) := ⟨_, rfl⟩
  refine V_iinc (j := 6) (v := v11) (ls2 := [(6, .int v11), (0, .ref a0), (1, .int x1), (2, .int x2), (3, .int x3), (4, .int x4), (5, .int x5)]) dX5_isFading_160 rfl (by rw [ev11]; rfl) (by decide) rfl ?_
  have hf := hf v11 ev11
  refine V_goto (tgt := 25) dX5_isFading_163 (by decide) ?_
  refine V_to [1, 2, 3, 4, 5, 6, 0] rfl ?_
  exact hk25 _ _ _ _ _ _ _ _ hf
def wX5_isFading_J121 (n : Nat) (sh : Nat → Nat × Nat) (k25 : Nat → Int32 → Int32 → Int32 → Int32 → Int32 → Int32 → gS → Prop) (P : Int32 → gS → Prop) (a0 : Nat) (x1 : Int32) (x2 : Int32) (x3 : Int32) (x4 : Int32) (x5 : Int32) (x6 : Int32) (x7 : Int32) (z : gS) : Prop := if x5 ≤ (1 : Int32) then wX5_isFading_J160 n sh k25 P a0 x1 x2 x3 x4 x5 x6 z else (∀ v12 : Int32, v12 = x5 + (-1 : Int32) → ((oO n sh a0 3) ∧ (∃ t14 : Nat, gr z a0 1 = some t14 ∧ (∃ t15 : Nat, gr z a0 1 = some t15 ∧ ((oA n sh t15 1) ∧ ((vp_in (v12 - (1 : Int32)) (sh t15).2) ∧ (∃ t18 : Nat, gr z a0 1 = some t18 ∧ ((oA n sh t18 1) ∧ ((vp_in v12 (sh t18).2) ∧ (wX5_joined n sh x7 (gi z t15 (v12 - (1 : Int32)).toNatClampNeg) (gi z t18 v12.toNatClampNeg) z (fun (r21 : Int32) (z22 : gS) => (oA n sh t14 1) ∧ ((vp_in (v12 - (1 : Int32)) (sh t14).2) ∧ (∀ z25 : gS, z25 = si z22 t14 (v12 - (1 : Int32)).toNatClampNeg r21 → wX5_isFading_J160 n sh k25 P a0 x1 x2 x3 x4 v12 x6 z25)))))))))))))
set_option maxRecDepth 100000 in
set_option maxHeartbeats 4000000 in
theorem vX5_isFading_J121 {E : gE} {n : Nat} {sh : Nat → Nat × Nat} {P : Int32 → gS → Prop} {k25 : Nat → Int32 → Int32 → Int32 → Int32 → Int32 → Int32 → gS → Prop} {a0 : Nat} {x1 : Int32} {x2 : Int32} {x3 : Int32} {x4 : Int32} {x5 : Int32} {x6 : Int32} {x7 : Int32} {z : gS} (hn : gOK E n) (hk25 : ∀ (a0 : Nat) (x1 : Int32) (x2 : Int32) (x3 : Int32) (x4 : Int32) (x5 : Int32) (x6 : Int32) (z : gS), k25 a0 x1 x2 x3 x4 x5 x6 z → V E (gR 1 0) gyX5_isFading 0 0 25 [(0, .ref a0), (1, .int x1), (2, .int x2), (3, .int x3), (4, .int x4), (5, .int x5), (6, .int x6)] [] n sh z (kI n sh P)) (hf : wX5_isFading_J121 n sh k25 P a0 x1 x2 x3 x4 x5 x6 x7 z) : V E (gR 1 0) gyX5_isFading 0 0 121 [(0, .ref a0), (1, .int x1), (2, .int x2), (3, .int x3), (4, .int x4), (5, .int x5), (6, .int x6), (7, .int x7)] [] n sh z (kI n sh P) := by
  unfold wX5_isFading_J121 at hf
  refine V_iload (j := 5) dX5_isFading_121 rfl ?_
  refine V_iconst (v := (1 : Int32)) dX5_isFading_123 (by decide) ?_
  refine V_icmp_le (tgt := 160) dX5_isFading_124 (by decide) (fun h26 => ?_) (fun h26 => ?_)
  · have hf := it_t h26 hf
    refine V_to [0, 1, 2, 3, 4, 5, 6] rfl ?_
    exact vX5_isFading_J160 hn hk25 hf
  · have hf := it_f h26 hf
    obtain ⟨v12, ev12⟩ : ∃ y : Int32, y = x5 + (-1 : Int32) := ⟨_, rfl⟩
    refine V_iinc (j := 5) (v := v12) (ls2 := [(5, .int v12), (0, .ref a0), (1, .int x1), (2, .int x2), (3, .int x3), (4, .int x4), (6, .int x6), (7, .int x7)]) dX5_isFading_127 rfl (by rw [ev12]; rfl) (by decide) rfl ?_
    have hf := hf v12 ev12
    refine V_aload_n (j := 1) dX5_isFading_130 rfl rfl ?_
    obtain ⟨h13, hf⟩ := hf
    obtain ⟨t14, et14, hf⟩ := hf
    refine V_getR fl_X5_17 rfl h13.1 h13.2 et14 dX5_isFading_131 ?_
    refine V_iload (j := 0) dX5_isFading_134 rfl ?_
    refine V_iconst (v := (1 : Int32)) dX5_isFading_136 (by decide) ?_
    refine V_isub dX5_isFading_137 ?_
    refine V_iload (j := 7) dX5_isFading_138 rfl ?_
    refine V_aload_n (j := 1) dX5_isFading_140 rfl rfl ?_
    obtain ⟨t15, et15, hf⟩ := hf
    refine V_getR fl_X5_17 rfl h13.1 h13.2 et15 dX5_isFading_141 ?_
    refine V_iload (j := 0) dX5_isFading_144 rfl ?_
    refine V_iconst (v := (1 : Int32)) dX5_isFading_146 (by decide) ?_
    refine V_isub dX5_isFading_147 ?_
    obtain ⟨h16, hf⟩ := hf
    obtain ⟨h17, hf⟩ := hf
    refine V_iald h16.1 h16.s h17 dX5_isFading_148 ?_
    refine V_aload_n (j := 1) dX5_isFading_149 rfl rfl ?_
    obtain ⟨t18, et18, hf⟩ := hf
    refine V_getR fl_X5_17 rfl h13.1 h13.2 et18 dX5_isFading_150 ?_
    refine V_iload (j := 0) dX5_isFading_153 rfl ?_
    obtain ⟨h19, hf⟩ := hf
    obtain ⟨h20, hf⟩ := hf
    refine V_iald h19.1 h19.s h20 dX5_isFading_155 ?_
    refine V_cSI (ctX5_joined hn hf) gc_X5_71 rfl ⟨by decide, by decide, Nat.zero_le _, Nat.zero_le _⟩ (Nat.le_of_ble_eq_true rfl) dX5_isFading_156 rfl hn (fun r21 z22 hf => ?_)
    obtain ⟨h23, hf⟩ := hf
    obtain ⟨h24, hf⟩ := hf
    refine V_iast h23.1 h23.s h24 dX5_isFading_159 ?_
    refine V_nz (fun z25 ez25 => ?_)
    have hf := hf z25 ez25
    refine V_to [1, 2, 3, 4, 5, 0, 6] rfl ?_
    exact vX5_isFading_J160 hn hk25 hf
def wX5_isFading_J117 (n : Nat) (sh : Nat → Nat × Nat) (k25 : Nat → Int32 → Int32 → Int32 → Int32 → Int32 → Int32 → gS → Prop) (P : Int32 → gS → Prop) (a0 : Nat) (x1 : Int32) (x2 : Int32) (x3 : Int32) (x4 : Int32) (x5 : Int32) (x6 : Int32) (s0 : Int32) (s1 : Int32) (s2 : Nat) (z : gS) : Prop := (oA n sh s2 1) ∧ ((vp_in s1 (sh s2).2) ∧ (∀ z34 : gS, z34 = si z s2 s1.toNatClampNeg s0 → wX5_isFading_J160 n sh k25 P a0 x1 x2 x3 x4 x5 x6 z34))
set_option maxRecDepth 100000 in
set_option maxHeartbeats 4000000 in
theorem vX5_isFading_J117 {E : gE} {n : Nat} {sh : Nat → Nat × Nat} {P : Int32 → gS → Prop} {k25 : Nat → Int32 → Int32 → Int32 → Int32 → Int32 → Int32 → gS → Prop} {a0 : Nat} {x1 : Int32} {x2 : Int32} {x3 : Int32} {x4 : Int32} {x5 : Int32} {x6 : Int32} {s0 : Int32} {s1 : Int32} {s2 : Nat} {z : gS} (hn : gOK E n) (hk25 : ∀ (a0 : Nat) (x1 : Int32) (x2 : Int32) (x3 : Int32) (x4 : Int32) (x5 : Int32) (x6 : Int32) (z : gS), k25 a0 x1 x2 x3 x4 x5 x6 z → V E (gR 1 0) gyX5_isFading 0 0 25 [(0, .ref a0), (1, .int x1), (2, .int x2), (3, .int x3), (4, .int x4), (5, .int x5), (6, .int x6)] [] n sh z (kI n sh P)) (hf : wX5_isFading_J117 n sh k25 P a0 x1 x2 x3 x4 x5 x6 s0 s1 s2 z) : V E (gR 1 0) gyX5_isFading 0 0 117 [(0, .ref a0), (1, .int x1), (2, .int x2), (3, .int x3), (4, .int x4), (5, .int x5), (6, .int x6)] [.int s0, .int s1, .ref s2] n sh z (kI n sh P) := by
  unfold wX5_isFading_J117 at hf
  obtain ⟨h32, hf⟩ := hf
  obtain ⟨h33, hf⟩ := hf
  refine V_iast h32.1 h32.s h33 dX5_isFading_117 ?_
  refine V_nz (fun z34 ez34 => ?_)
  have hf := hf z34 ez34
  refine V_goto (tgt := 160) dX5_isFading_118 (by decide) ?_
  exact vX5_isFading_J160 hn hk25 hf
def wX5_isFading_J80 (n : Nat) (sh : Nat → Nat × Nat) (k25 : Nat → Int32 → Int32 → Int32 → Int32 → Int32 → Int32 → gS → Prop) (P : Int32 → gS → Prop) (a0 : Nat) (x1 : Int32) (x2 : Int32) (x3 : Int32) (x4 : Int32) (x5 : Int32) (x6 : Int32) (x7 : Int32) (z : gS) : Prop := if x7 = (-5 : Int32) then (if x5 ≤ 0 then wX5_isFading_J121 n sh k25 P a0 x1 x2 x3 x4 x5 x6 x7 z else ((oO n sh a0 3) ∧ (∃ t28 : Nat, gr z a0 1 = some t28 ∧ (∃ t29 : Nat, gr z a0 1 = some t29 ∧ ((oA n sh t29 1) ∧ ((vp_in (x5 - (1 : Int32)) (sh t29).2) ∧ (if (gi z t29 (x5 - (1 : Int32)).toNatClampNeg) = 0 then wX5_isFading_J117 n sh k25 P a0 x1 x2 x3 x4 x5 x6 (1 : Int32) (x5 - (1 : Int32)) t28 z else wX5_isFading_J117 n sh k25 P a0 x1 x2 x3 x4 x5 x6 (0 : Int32) (x5 - (1 : Int32)) t28 z))))))) else wX5_isFading_J121 n sh k25 P a0 x1 x2 x3 x4 x5 x6 x7 z
set_option maxRecDepth 100000 in
set_option maxHeartbeats 4000000 in
theorem vX5_isFading_J80 {E : gE} {n : Nat} {sh : Nat → Nat × Nat} {P : Int32 → gS → Prop} {k25 : Nat → Int32 → Int32 → Int32 → Int32 → Int32 → Int32 → gS → Prop} {a0 : Nat} {x1 : Int32} {x2 : Int32} {x3 : Int32} {x4 : Int32} {x5 : Int32} {x6 : Int32} {x7 : Int32} {z : gS} (hn : gOK E n) (hk25 : ∀ (a0 : Nat) (x1 : Int32) (x2 : Int32) (x3 : Int32) (x4 : Int32) (x5 : Int32) (x6 : Int32) (z : gS), k25 a0 x1 x2 x3 x4 x5 x6 z → V E (gR 1 0) gyX5_isFading 0 0 25 [(0, .ref a0), (1, .int x1), (2, .int x2), (3, .int x3), (4, .int x4), (5, .int x5), (6, .int x6)] [] n sh z (kI n sh P)) (hf : wX5_isFading_J80 n sh k25 P a0 x1 x2 x3 x4 x5 x6 x7 z) : V E (gR 1 0) gyX5_isFading 0 0 80 [(0, .ref a0), (1, .int x1), (2, .int x2), (3, .int x3), (4, .int x4), (5, .int x5), (6, .int x6), (7, .int x7)] [] n sh z (kI n sh P) := by
  unfold wX5_isFading_J80 at hf
  refine V_iload (j := 7) dX5_isFading_80 rfl ?_
  refine V_bipush (v := (-5 : Int32)) dX5_isFading_82 (by decide) ?_
  refine V_icmp_ne (tgt := 121) dX5_isFading_84 (by decide) (fun h37 => ?_) (fun h37 => ?_)
  · have hf := it_f h37 hf
    exact vX5_isFading_J121 hn hk25 hf
  · have hf := it_t (Classical.not_not.mp h37) hf
    refine V_iload (j := 5) dX5_isFading_87 rfl ?_
    refine V_if_le (tgt := 121) dX5_isFading_89 (by decide) (fun h36 => ?_) (fun h36 => ?_)
    · have hf := it_t h36 hf
      exact vX5_isFading_J121 hn hk25 hf
    · have hf := it_f h36 hf
      refine V_aload_n (j := 0) dX5_isFading_92 rfl rfl ?_
      obtain ⟨h27, hf⟩ := hf
      obtain ⟨t28, et28, hf⟩ := hf
      refine V_getR fl_X5_17 rfl h27.1 h27.2 et28 dX5_isFading_93 ?_
      refine V_iload (j := 5) dX5_isFading_96 rfl ?_
      refine V_iconst (v := (1 : Int32)) dX5_isFading_98 (by decide) ?_
      refine V_isub dX5_isFading_99 ?_
      refine V_aload_n (j := 0) dX5_isFading_100 rfl rfl ?_
      obtain ⟨t29, et29, hf⟩ := hf
      refine V_getR fl_X5_17 rfl h27.1 h27.2 et29 dX5_isFading_101 ?_
      refine V_iload (j := 5) dX5_isFading_104 rfl ?_
      refine V_iconst (v := (1 : Int32)) dX5_isFading_106 (by decide) ?_
      refine V_isub dX5_isFading_107 ?_
      obtain ⟨h30, hf⟩ := hf
      obtain ⟨h31, hf⟩ := hf
      refine V_iald h30.1 h30.s h31 dX5_isFading_108 ?_
      refine V_if_ne (tgt := 116) dX5_isFading_109 (by decide) (fun h35 => ?_) (fun h35 => ?_)
      · have hf := it_f h35 hf
        refine V_iconst (v := (0 : Int32)) dX5_isFading_116 (by decide) ?_
        refine V_to [0, 1, 2, 3, 4, 5, 6] rfl ?_
        exact vX5_isFading_J117 hn hk25 hf
      · have hf := it_t (Classical.not_not.mp h35) hf
        refine V_iconst (v := (1 : Int32)) dX5_isFading_112 (by decide) ?_
        refine V_goto (tgt := 117) dX5_isFading_113 (by decide) ?_
        refine V_to [0, 1, 2, 3, 4, 5, 6] rfl ?_
        exact vX5_isFading_J117 hn hk25 hf
def wX5_isFading_B25 (n : Nat) (sh : Nat → Nat × Nat) (k25 : Nat → Int32 → Int32 → Int32 → Int32 → Int32 → Int32 → gS → Prop) (P : Int32 → gS → Prop) (a0 : Nat) (x1 : Int32) (x2 : Int32) (x3 : Int32) (x4 : Int32) (x5 : Int32) (x6 : Int32) (z : gS) : Prop := (oO n sh a0 3) ∧ (if (gi z a0 2) ≤ x6 then (∃ t3 : Nat, gr z a0 1 = some t3 ∧ ((oA n sh t3 1) ∧ ((vp_in (0 : Int32) (sh t3).2) ∧ (if (gi z t3 (0 : Int32).toNatClampNeg) = 0 then P (0 : Int32) z else P (1 : Int32) z)))) else (∃ t7 : Nat, gr z a0 0 = some t7 ∧ ((oA n sh t7 1) ∧ ((vp_in x6 (sh t7).2) ∧ (∀ v10 : Int32, v10 = (gi z t7 x6.toNatClampNeg) → (if v10 < (-4 : Int32) then wX5_isFading_J80 n sh k25 P a0 x1 x2 x3 x4 x5 x6 v10 z else (if (32 : Int32) ≤ x5 then wX5_isFading_J80 n sh k25 P a0 x1 x2 x3 x4 x5 x6 v10 z else (∃ t38 : Nat, gr z a0 1 = some t38 ∧ (wX5_partOf n sh v10 x1 x2 x3 x4 z (fun (r39 : Int32) (z40 : gS) => (oA n sh t38 1) ∧ ((vp_in x5 (sh t38).2) ∧ (∀ z43 : gS, z43 = si z40 t38 x5.toNatClampNeg r39 → (∀ v44 : Int32, v44 = x5 + (1 : Int32) → wX5_isFading_J160 n sh k25 P a0 x1 x2 x3 x4 v44 x6 z43)))))))))))))
def wX5_isFading_L25 (n : Nat) (sh : Nat → Nat × Nat) (P : Int32 → gS → Prop) : Nat → Nat → Int32 → Int32 → Int32 → Int32 → Int32 → Int32 → gS → Prop
  | 0, _, _, _, _, _, _, _, _ => False
  | N + 1, a0, x1, x2, x3, x4, x5, x6, z => wX5_isFading_B25 n sh (wX5_isFading_L25 n sh P N) P a0 x1 x2 x3 x4 x5 x6 z
set_option maxRecDepth 100000 in
set_option maxHeartbeats 4000000 in
theorem vX5_isFading_B25 {E : gE} {n : Nat} {sh : Nat → Nat × Nat} {P : Int32 → gS → Prop} {k25 : Nat → Int32 → Int32 → Int32 → Int32 → Int32 → Int32 → gS → Prop} {a0 : Nat} {x1 : Int32} {x2 : Int32} {x3 : Int32} {x4 : Int32} {x5 : Int32} {x6 : Int32} {z : gS} (hn : gOK E n) (hk25 : ∀ (a0 : Nat) (x1 : Int32) (x2 : Int32) (x3 : Int32) (x4 : Int32) (x5 : Int32) (x6 : Int32) (z : gS), k25 a0 x1 x2 x3 x4 x5 x6 z → V E (gR 1 0) gyX5_isFading 0 0 25 [(0, .ref a0), (1, .int x1), (2, .int x2), (3, .int x3), (4, .int x4), (5, .int x5), (6, .int x6)] [] n sh z (kI n sh P)) (hf : wX5_isFading_B25 n sh k25 P a0 x1 x2 x3 x4 x5 x6 z) : V E (gR 1 0) gyX5_isFading 0 0 25 [(0, .ref a0), (1, .int x1), (2, .int x2), (3, .int x3), (4, .int x4), (5, .int x5), (6, .int x6)] [] n sh z (kI n sh P) := by
  unfold wX5_isFading_B25 at hf
  refine V_iload (j := 6) dX5_isFading_25 rfl ?_
  refine V_aload_n (j := 0) dX5_isFading_27 rfl rfl ?_
  obtain ⟨h2, hf⟩ := hf
  refine V_getI fl_X5_20 rfl h2.1 h2.2 dX5_isFading_28 ?_
  refine V_icmp_ge (tgt := 166) dX5_isFading_31 (by decide) (fun h47 => ?_) (fun h47 => ?_)
  · have hf := it_t h47 hf
    refine V_aload_n (j := 0) dX5_isFading_166 rfl rfl ?_
    obtain ⟨t3, et3, hf⟩ := hf
    refine V_getR fl_X5_17 rfl h2.1 h2.2 et3 dX5_isFading_167 ?_
    refine V_iconst (v := (0 : Int32)) dX5_isFading_170 (by decide) ?_
    obtain ⟨h4, hf⟩ := hf
    obtain ⟨h5, hf⟩ := hf
    refine V_iald h4.1 h4.s h5 dX5_isFading_171 ?_
    refine V_if_eq (tgt := 179) dX5_isFading_172 (by decide) (fun h6 => ?_) (fun h6 => ?_)
    · have hf := it_t h6 hf
      refine V_iconst (v := (0 : Int32)) dX5_isFading_179 (by decide) ?_
      exact V_ireturn dX5_isFading_180 rfl (by decide) (Nat.le_refl 0) (kI_of hf)
    · have hf := it_f h6 hf
      refine V_iconst (v := (1 : Int32)) dX5_isFading_175 (by decide) ?_
      refine V_goto (tgt := 180) dX5_isFading_176 (by decide) ?_
      exact V_ireturn dX5_isFading_180 rfl (by decide) (Nat.le_refl 0) (kI_of hf)
  · have hf := it_f h47 hf
    refine V_aload_n (j := 0) dX5_isFading_34 rfl rfl ?_
    obtain ⟨t7, et7, hf⟩ := hf
    refine V_getR fl_X5_11 rfl h2.1 h2.2 et7 dX5_isFading_35 ?_
    refine V_iload (j := 6) dX5_isFading_38 rfl ?_
    obtain ⟨h8, hf⟩ := hf
    obtain ⟨h9, hf⟩ := hf
    refine V_iald h8.1 h8.s h9 dX5_isFading_40 ?_
    refine V_nI (fun v10 ev10 => ?_)
    have hf := hf v10 ev10
    refine V_istore (ls2 := [(7, .int v10), (0, .ref a0), (1, .int x1), (2, .int x2), (3, .int x3), (4, .int x4), (5, .int x5), (6, .int x6)]) dX5_isFading_41 (by decide) rfl ?_
    refine V_iload (j := 0) dX5_isFading_43 rfl ?_
    refine V_bipush (v := (-4 : Int32)) dX5_isFading_45 (by decide) ?_
    refine V_icmp_lt (tgt := 80) dX5_isFading_47 (by decide) (fun h46 => ?_) (fun h46 => ?_)
    · have hf := it_t h46 hf
      refine V_to [1, 2, 3, 4, 5, 6, 7, 0] rfl ?_
      exact vX5_isFading_J80 hn hk25 hf
    · have hf := it_f h46 hf
      refine V_iload (j := 6) dX5_isFading_50 rfl ?_
      refine V_bipush (v := (32 : Int32)) dX5_isFading_52 (by decide) ?_
      refine V_icmp_ge (tgt := 80) dX5_isFading_54 (by decide) (fun h45 => ?_) (fun h45 => ?_)
      · have hf := it_t h45 hf
        refine V_to [1, 2, 3, 4, 5, 6, 7, 0] rfl ?_
        exact vX5_isFading_J80 hn hk25 hf
      · have hf := it_f h45 hf
        refine V_aload_n (j := 1) dX5_isFading_57 rfl rfl ?_
        obtain ⟨t38, et38, hf⟩ := hf
        refine V_getR fl_X5_17 rfl h2.1 h2.2 et38 dX5_isFading_58 ?_
        refine V_iload (j := 6) dX5_isFading_61 rfl ?_
        refine V_iload (j := 0) dX5_isFading_63 rfl ?_
        refine V_iload_n (j := 2) dX5_isFading_65 rfl rfl ?_
        refine V_iload_n (j := 3) dX5_isFading_66 rfl rfl ?_
        refine V_iload_n (j := 4) dX5_isFading_67 rfl rfl ?_
        refine V_iload (j := 5) dX5_isFading_68 rfl ?_
        refine V_cSI (ctX5_partOf hn hf) gc_X5_67 rfl ⟨by decide, by decide, Nat.zero_le _, Nat.zero_le _⟩ (Nat.le_of_ble_eq_true rfl) dX5_isFading_70 rfl hn (fun r39 z40 hf => ?_)
        obtain ⟨h41, hf⟩ := hf
        obtain ⟨h42, hf⟩ := hf
        refine V_iast h41.1 h41.s h42 dX5_isFading_73 ?_
        refine V_nz (fun z43 ez43 => ?_)
        have hf := hf z43 ez43
        obtain ⟨v44, ev44⟩ : ∃ y : Int32, y = x5 + (1 : Int32) := ⟨_, rfl⟩
        refine V_iinc (j := 6) (v := v44) (ls2 := [(5, .int v44), (7, .int v10), (0, .ref a0), (1, .int x1), (2, .int x2), (3, .int x3), (4, .int x4), (6, .int x6)]) dX5_isFading_74 rfl (by rw [ev44]; rfl) (by decide) rfl ?_
        have hf := hf v44 ev44
        refine V_goto (tgt := 160) dX5_isFading_77 (by decide) ?_
        refine V_to [2, 3, 4, 5, 6, 0, 7] rfl ?_
        exact vX5_isFading_J160 hn hk25 hf
set_option maxRecDepth 100000 in
set_option maxHeartbeats 4000000 in
theorem vX5_isFading_L25 {E : gE} {n : Nat} {sh : Nat → Nat × Nat} {P : Int32 → gS → Prop} (hn : gOK E n) : ∀ (N : Nat) (a0 : Nat) (x1 : Int32) (x2 : Int32) (x3 : Int32) (x4 : Int32) (x5 : Int32) (x6 : Int32) (z : gS), wX5_isFading_L25 n sh P N a0 x1 x2 x3 x4 x5 x6 z → V E (gR 1 0) gyX5_isFading 0 0 25 [(0, .ref a0), (1, .int x1), (2, .int x2), (3, .int x3), (4, .int x4), (5, .int x5), (6, .int x6)] [] n sh z (kI n sh P) := by
  intro N
  induction N with
  | zero => intro a0 x1 x2 x3 x4 x5 x6 z hf; exact False.elim hf
  | succ N ih => intro a0 x1 x2 x3 x4 x5 x6 z hf; exact vX5_isFading_B25 hn ih hf
def wX5_isFading (n : Nat) (sh : Nat → Nat × Nat) (a0 : Nat) (x1 : Int32) (x2 : Int32) (x3 : Int32) (x4 : Int32) (z : gS) (P : Int32 → gS → Prop) : Prop := (oO n sh a0 3) ∧ (if (gi z a0 2) = 0 then (if x1 ≤ (8 : Int32) then P (0 : Int32) z else P (1 : Int32) z) else ((∃ N, wX5_isFading_L25 n sh P N a0 x1 x2 x3 x4 (0 : Int32) (0 : Int32) z)))
set_option maxRecDepth 100000 in
set_option maxHeartbeats 4000000 in
theorem ctX5_isFading {E : gE} {n : Nat} {sh : Nat → Nat × Nat} {a0 : Nat} {x1 : Int32} {x2 : Int32} {x3 : Int32} {x4 : Int32} {z : gS} {P : Int32 → gS → Prop} (hn : gOK E n) (hf : wX5_isFading n sh a0 x1 x2 x3 x4 z P) : VM E 1 0 gyX5_isFading [.ref a0, .int x1, .int x2, .int x3, .int x4] n sh z (kI n sh P) := by
  unfold wX5_isFading at hf
  refine VM.of (by decide +kernel) (Nat.le_of_ble_eq_true rfl) (fun _ _ _ h => h.2.2) ?_
  show V E (gR 1 0) gyX5_isFading 0 0 0 [(0, .ref a0), (1, .int x1), (2, .int x2), (3, .int x3), (4, .int x4)] [] n sh z (kI n sh P)
  refine V_aload_n (j := 0) dX5_isFading_0 rfl rfl ?_
  obtain ⟨h1, hf⟩ := hf
  refine V_getI fl_X5_20 rfl h1.1 h1.2 dX5_isFading_1 ?_
  refine V_if_ne (tgt := 19) dX5_isFading_4 (by decide) (fun h49 => ?_) (fun h49 => ?_)
  · have hf := it_f h49 hf
    refine V_iconst (v := (0 : Int32)) dX5_isFading_19 (by decide) ?_
    refine V_istore (ls2 := [(5, .int (0 : Int32)), (0, .ref a0), (1, .int x1), (2, .int x2), (3, .int x3), (4, .int x4)]) dX5_isFading_20 (by decide) rfl ?_
    refine V_iconst (v := (0 : Int32)) dX5_isFading_22 (by decide) ?_
    refine V_istore (ls2 := [(6, .int (0 : Int32)), (5, .int (0 : Int32)), (0, .ref a0), (1, .int x1), (2, .int x2), (3, .int x3), (4, .int x4)]) dX5_isFading_23 (by decide) rfl ?_
    obtain ⟨N, hf⟩ := hf
    refine V_to [2, 3, 4, 5, 6, 1, 0] rfl ?_
    exact vX5_isFading_L25 hn N _ _ _ _ _ _ _ _ hf
  · have hf := it_t (Classical.not_not.mp h49) hf
    refine V_bipush (v := (8 : Int32)) dX5_isFading_7 (by decide) ?_
    refine V_iload_n (j := 1) dX5_isFading_9 rfl rfl ?_
    refine V_icmp_ge (tgt := 17) dX5_isFading_10 (by decide) (fun h48 => ?_) (fun h48 => ?_)
    · have hf := it_t h48 hf
      refine V_iconst (v := (0 : Int32)) dX5_isFading_17 (by decide) ?_
      exact V_ireturn dX5_isFading_18 rfl (by decide) (Nat.le_refl 0) (kI_of hf)
    · have hf := it_f h48 hf
      refine V_iconst (v := (1 : Int32)) dX5_isFading_13 (by decide) ?_
      refine V_goto (tgt := 18) dX5_isFading_14 (by decide) ?_
      exact V_ireturn dX5_isFading_18 rfl (by decide) (Nat.le_refl 0) (kI_of hf)
def wX10_fade_J102 (n : Nat) (sh : Nat → Nat × Nat) (k14 : Nat → Nat → Int32 → Int32 → Int32 → Int32 → Int32 → gS → Prop) (P : Int32 → gS → Prop) (a0 : Nat) (a1 : Nat) (x2 : Int32) (x3 : Int32) (x4 : Int32) (x5 : Int32) (x6 : Int32) (z : gS) : Prop := ∀ v31 : Int32, v31 = x6 + (1 : Int32) → k14 a0 a1 x2 x3 x4 x5 v31 z
set_option maxRecDepth 100000 in
set_option maxHeartbeats 4000000 in
theorem vX10_fade_J102 {E : gE} {n : Nat} {sh : Nat → Nat × Nat} {P : Int32 → gS → Prop} {k14 : Nat → Nat → Int32 → Int32 → Int32 → Int32 → Int32 → gS → Prop} {a0 : Nat} {a1 : Nat} {x2 : Int32} {x3 : Int32} {x4 : Int32} {x5 : Int32} {x6 : Int32} {z : gS} (hn : gOK E n) (hk14 : ∀ (a0 : Nat) (a1 : Nat) (x2 : Int32) (x3 : Int32) (x4 : Int32) (x5 : Int32) (x6 : Int32) (z : gS), k14 a0 a1 x2 x3 x4 x5 x6 z → V E (gR 2 0) gyX10_fade 0 0 14 [(0, .ref a0), (1, .ref a1), (2, .int x2), (3, .int x3), (4, .int x4), (5, .int x5), (6, .int x6)] [] n sh z (kI n sh P)) (hf : wX10_fade_J102 n sh k14 P a0 a1 x2 x3 x4 x5 x6 z) : V E (gR 2 0) gyX10_fade 0 0 102 [(0, .ref a0), (1, .ref a1), (2, .int x2), (3, .int x3), (4, .int x4), (5, .int x5), (6, .int x6)] [] n sh z (kI n sh P) := by
  unfold wX10_fade_J102 at hf
  obtain ⟨v31, ev31⟩ : ∃ y : Int32, y = x6 + (1 : Int32) := ⟨_, rfl⟩
  refine V_iinc (j := 6) (v := v31) (ls2 := [(6, .int v31), (0, .ref a0), (1, .ref a1), (2, .int x2), (3, .int x3), (4, .int x4), (5, .int x5)]) dX10_fade_102 rfl (by rw [ev31]; rfl) (by decide) rfl ?_
  have hf := hf v31 ev31
  refine V_goto (tgt := 14) dX10_fade_105 (by decide) ?_
  refine V_to [1, 2, 3, 4, 5, 6, 0] rfl ?_
  exact hk14 _ _ _ _ _ _ _ _ hf
def wX10_fade_B14 (n : Nat) (sh : Nat → Nat × Nat) (k14 : Nat → Nat → Int32 → Int32 → Int32 → Int32 → Int32 → gS → Prop) (P : Int32 → gS → Prop) (a0 : Nat) (a1 : Nat) (x2 : Int32) (x3 : Int32) (x4 : Int32) (x5 : Int32) (x6 : Int32) (z : gS) : Prop := if x4 ≤ x6 then P (x4 - x5) z else ((oO n sh a0 6) ∧ (wX10_markAt n sh a0 x2 x5 z (fun (r6 : Int32) (z7 : gS) => ∀ v9 : Int32, v9 = (r6 + (1024 : Int32)) → ((oO n sh a1 4) ∧ (∃ t11 : Nat, gr z7 a1 5 = some t11 ∧ (wX10_deedOf n sh v9 z7 (fun (r12 : Int32) (z13 : gS) => (oA n sh t11 1) ∧ ((vp_in r12 (sh t11).2) ∧ (∀ v16 : Int32, v16 = (gi z13 t11 r12.toNatClampNeg) → (∃ t17 : Nat, gr z13 a1 0 = some t17 ∧ (wX10_ageOf n sh v9 z13 (fun (r18 : Int32) (z19 : gS) => ∃ t20 : Nat, gr z19 a0 6 = some t20 ∧ ((oA n sh t20 1) ∧ ((vp_in x2 (sh t20).2) ∧ ((oO n sh t17 3) ∧ (wX5_isFading n sh t17 r18 v16 x3 (((gi z19 t20 x2.toNatClampNeg) - (1 : Int32)) - x5) z19 (fun (r23 : Int32) (z24 : gS) => if r23 = 0 then (∃ t26 : Nat, gr z24 a0 7 = some t26 ∧ ((oA n sh t26 1) ∧ ((vp_in ((x2 * (6 : Int32)) + x5) (sh t26).2) ∧ (∀ z29 : gS, z29 = si z24 t26 ((x2 * (6 : Int32)) + x5).toNatClampNeg v9 → (∀ v30 : Int32, v30 = x5 + (1 : Int32) → wX10_fade_J102 n sh k14 P a0 a1 x2 x3 x4 v30 x6 z29))))) else (wX10_dropMark n sh a0 x2 x5 z24 (fun (z33 : gS) => wX10_fade_J102 n sh k14 P a0 a1 x2 x3 x4 x5 x6 z33)))))))))))))))))))
def wX10_fade_L14 (n : Nat) (sh : Nat → Nat × Nat) (P : Int32 → gS → Prop) : Nat → Nat → Nat → Int32 → Int32 → Int32 → Int32 → Int32 → gS → Prop
  | 0, _, _, _, _, _, _, _, _ => False
  | N + 1, a0, a1, x2, x3, x4, x5, x6, z => wX10_fade_B14 n sh (wX10_fade_L14 n sh P N) P a0 a1 x2 x3 x4 x5 x6 z
set_option maxRecDepth 100000 in
set_option maxHeartbeats 4000000 in
theorem vX10_fade_B14 {E : gE} {n : Nat} {sh : Nat → Nat × Nat} {P : Int32 → gS → Prop} {k14 : Nat → Nat → Int32 → Int32 → Int32 → Int32 → Int32 → gS → Prop} {a0 : Nat} {a1 : Nat} {x2 : Int32} {x3 : Int32} {x4 : Int32} {x5 : Int32} {x6 : Int32} {z : gS} (hn : gOK E n) (hk14 : ∀ (a0 : Nat) (a1 : Nat) (x2 : Int32) (x3 : Int32) (x4 : Int32) (x5 : Int32) (x6 : Int32) (z : gS), k14 a0 a1 x2 x3 x4 x5 x6 z → V E (gR 2 0) gyX10_fade 0 0 14 [(0, .ref a0), (1, .ref a1), (2, .int x2), (3, .int x3), (4, .int x4), (5, .int x5), (6, .int x6)] [] n sh z (kI n sh P)) (hf : wX10_fade_B14 n sh k14 P a0 a1 x2 x3 x4 x5 x6 z) : V E (gR 2 0) gyX10_fade 0 0 14 [(0, .ref a0), (1, .ref a1), (2, .int x2), (3, .int x3), (4, .int x4), (5, .int x5), (6, .int x6)] [] n sh z (kI n sh P) := by
  unfold wX10_fade_B14 at hf
  refine V_iload (j := 6) dX10_fade_14 rfl ?_
  refine V_iload (j := 4) dX10_fade_16 rfl ?_
  refine V_icmp_ge (tgt := 108) dX10_fade_18 (by decide) (fun h35 => ?_) (fun h35 => ?_)
  · have hf := it_t h35 hf
    refine V_iload (j := 4) dX10_fade_108 rfl ?_
    refine V_iload (j := 5) dX10_fade_110 rfl ?_
    refine V_isub dX10_fade_112 ?_
    exact V_ireturn dX10_fade_113 rfl rfl (Nat.le_refl 0) (kI_of hf)
  · have hf := it_f h35 hf
    refine V_aload_n (j := 0) dX10_fade_21 rfl rfl ?_
    refine V_iload_n (j := 2) dX10_fade_22 rfl rfl ?_
    refine V_iload (j := 5) dX10_fade_23 rfl ?_
    obtain ⟨h8, hf⟩ := hf
    refine V_cVI (ctX10_markAt hn hf) gc_X10_102 rfl h8.1 ⟨_, h8.2, by decide, rfl⟩ ⟨by decide, by decide, Nat.zero_le _, Nat.zero_le _⟩ (Nat.le_of_ble_eq_true rfl) dX10_fade_25 rfl hn (fun r6 z7 hf => ?_)
    refine V_sipush (v := (1024 : Int32)) dX10_fade_28 (by decide) ?_
    refine V_iadd dX10_fade_31 ?_
    refine V_nI (fun v9 ev9 => ?_)
    have hf := hf v9 ev9
    refine V_istore (ls2 := [(7, .int v9), (0, .ref a0), (1, .ref a1), (2, .int x2), (3, .int x3), (4, .int x4), (5, .int x5), (6, .int x6)]) dX10_fade_32 (by decide) rfl ?_
    refine V_aload_n (j := 2) dX10_fade_34 rfl rfl ?_
    obtain ⟨h10, hf⟩ := hf
    obtain ⟨t11, et11, hf⟩ := hf
    refine V_getR fl_X10_106 rfl h10.1 h10.2 et11 dX10_fade_35 ?_
    refine V_iload (j := 0) dX10_fade_38 rfl ?_
    refine V_cSI (ctX10_deedOf hn hf) gc_X10_109 rfl ⟨by decide, by decide, Nat.zero_le _, Nat.zero_le _⟩ (Nat.le_of_ble_eq_true rfl) dX10_fade_40 rfl hn (fun r12 z13 hf => ?_)
    obtain ⟨h14, hf⟩ := hf
    obtain ⟨h15, hf⟩ := hf
    refine V_iald h14.1 h14.s h15 dX10_fade_43 ?_
    refine V_nI (fun v16 ev16 => ?_)
    have hf := hf v16 ev16
    refine V_istore (ls2 := [(8, .int v16), (7, .int v9), (0, .ref a0), (1, .ref a1), (2, .int x2), (3, .int x3), (4, .int x4), (5, .int x5), (6, .int x6)]) dX10_fade_44 (by decide) rfl ?_
    refine V_aload_n (j := 3) dX10_fade_46 rfl rfl ?_
    obtain ⟨t17, et17, hf⟩ := hf
    refine V_getR fl_X10_112 rfl h10.1 h10.2 et17 dX10_fade_47 ?_
    refine V_iload (j := 1) dX10_fade_50 rfl ?_
    refine V_cSI (ctX10_ageOf hn hf) gc_X10_116 rfl ⟨by decide, by decide, Nat.zero_le _, Nat.zero_le _⟩ (Nat.le_of_ble_eq_true rfl) dX10_fade_52 rfl hn (fun r18 z19 hf => ?_)
    refine V_iload (j := 0) dX10_fade_55 rfl ?_
    refine V_iload_n (j := 5) dX10_fade_57 rfl rfl ?_
    refine V_aload_n (j := 2) dX10_fade_58 rfl rfl ?_
    obtain ⟨t20, et20, hf⟩ := hf
    refine V_getR fl_X10_31 rfl h8.1 h8.2 et20 dX10_fade_59 ?_
    refine V_iload_n (j := 4) dX10_fade_62 rfl rfl ?_
    obtain ⟨h21, hf⟩ := hf
    obtain ⟨h22, hf⟩ := hf
    refine V_iald h21.1 h21.s h22 dX10_fade_63 ?_
    refine V_iconst (v := (1 : Int32)) dX10_fade_64 (by decide) ?_
    refine V_isub dX10_fade_65 ?_
    refine V_iload (j := 7) dX10_fade_66 rfl ?_
    refine V_isub dX10_fade_68 ?_
    obtain ⟨h25, hf⟩ := hf
    refine V_cVI (ctX5_isFading hn hf) gc_X10_119 rfl h25.1 ⟨_, h25.2, by decide, rfl⟩ ⟨by decide, by decide, Nat.zero_le _, Nat.zero_le _⟩ (Nat.le_of_ble_eq_true rfl) dX10_fade_69 rfl hn (fun r23 z24 hf => ?_)
    refine V_if_eq (tgt := 85) dX10_fade_72 (by decide) (fun h34 => ?_) (fun h34 => ?_)
    · have hf := it_t h34 hf
      refine V_aload_n (j := 2) dX10_fade_85 rfl rfl ?_
      obtain ⟨t26, et26, hf⟩ := hf
      refine V_getR fl_X10_34 rfl h8.1 h8.2 et26 dX10_fade_86 ?_
      refine V_iload_n (j := 4) dX10_fade_89 rfl rfl ?_
      refine V_bipush (v := (6 : Int32)) dX10_fade_90 (by decide) ?_
      refine V_imul dX10_fade_92 ?_
      refine V_iload (j := 7) dX10_fade_93 rfl ?_
      refine V_iadd dX10_fade_95 ?_
      refine V_iload (j := 1) dX10_fade_96 rfl ?_
      obtain ⟨h27, hf⟩ := hf
      obtain ⟨h28, hf⟩ := hf
      refine V_iast h27.1 h27.s h28 dX10_fade_98 ?_
      refine V_nz (fun z29 ez29 => ?_)
      have hf := hf z29 ez29
      obtain ⟨v30, ev30⟩ : ∃ y : Int32, y = x5 + (1 : Int32) := ⟨_, rfl⟩
      refine V_iinc (j := 7) (v := v30) (ls2 := [(5, .int v30), (8, .int v16), (7, .int v9), (0, .ref a0), (1, .ref a1), (2, .int x2), (3, .int x3), (4, .int x4), (6, .int x6)]) dX10_fade_99 rfl (by rw [ev30]; rfl) (by decide) rfl ?_
      have hf := hf v30 ev30
      refine V_to [3, 4, 5, 6, 7, 0, 8] rfl ?_
      exact vX10_fade_J102 hn hk14 hf
    · have hf := it_f h34 hf
      refine V_aload_n (j := 2) dX10_fade_75 rfl rfl ?_
      refine V_iload_n (j := 4) dX10_fade_76 rfl rfl ?_
      refine V_iload (j := 7) dX10_fade_77 rfl ?_
      refine V_cVN (ctX10_dropMark hn hf) gc_X10_91 rfl h8.1 ⟨_, h8.2, by decide, rfl⟩ ⟨by decide, by decide, Nat.zero_le _, Nat.zero_le _⟩ (Nat.le_of_ble_eq_true rfl) dX10_fade_79 rfl hn (fun z33 hf => ?_)
      refine V_goto (tgt := 102) dX10_fade_82 (by decide) ?_
      refine V_to [2, 3, 4, 5, 6, 7, 8] rfl ?_
      exact vX10_fade_J102 hn hk14 hf
set_option maxRecDepth 100000 in
set_option maxHeartbeats 4000000 in
theorem vX10_fade_L14 {E : gE} {n : Nat} {sh : Nat → Nat × Nat} {P : Int32 → gS → Prop} (hn : gOK E n) : ∀ (N : Nat) (a0 : Nat) (a1 : Nat) (x2 : Int32) (x3 : Int32) (x4 : Int32) (x5 : Int32) (x6 : Int32) (z : gS), wX10_fade_L14 n sh P N a0 a1 x2 x3 x4 x5 x6 z → V E (gR 2 0) gyX10_fade 0 0 14 [(0, .ref a0), (1, .ref a1), (2, .int x2), (3, .int x3), (4, .int x4), (5, .int x5), (6, .int x6)] [] n sh z (kI n sh P) := by
  intro N
  induction N with
  | zero => intro a0 a1 x2 x3 x4 x5 x6 z hf; exact False.elim hf
  | succ N ih => intro a0 a1 x2 x3 x4 x5 x6 z hf; exact vX10_fade_B14 hn ih hf
def wX10_fade (n : Nat) (sh : Nat → Nat × Nat) (a0 : Nat) (a1 : Nat) (x2 : Int32) (x3 : Int32) (z : gS) (P : Int32 → gS → Prop) : Prop := (oO n sh a0 6) ∧ (∃ t2 : Nat, gr z a0 6 = some t2 ∧ ((oA n sh t2 1) ∧ ((vp_in x2 (sh t2).2) ∧ (∀ v5 : Int32, v5 = (gi z t2 x2.toNatClampNeg) → ((∃ N, wX10_fade_L14 n sh P N a0 a1 x2 x3 v5 (0 : Int32) (0 : Int32) z))))))
set_option maxRecDepth 100000 in
set_option maxHeartbeats 4000000 in
theorem ctX10_fade {E : gE} {n : Nat} {sh : Nat → Nat × Nat} {a0 : Nat} {a1 : Nat} {x2 : Int32} {x3 : Int32} {z : gS} {P : Int32 → gS → Prop} (hn : gOK E n) (hf : wX10_fade n sh a0 a1 x2 x3 z P) : VM E 2 0 gyX10_fade [.ref a0, .ref a1, .int x2, .int x3] n sh z (kI n sh P) := by
  unfold wX10_fade at hf
  refine VM.of (by decide +kernel) (Nat.le_of_ble_eq_true rfl) (fun _ _ _ h => h.2.2) ?_
  show V E (gR 2 0) gyX10_fade 0 0 0 [(0, .ref a0), (1, .ref a1), (2, .int x2), (3, .int x3)] [] n sh z (kI n sh P)
  refine V_aload_n (j := 0) dX10_fade_0 rfl rfl ?_
  obtain ⟨h1, hf⟩ := hf
  obtain ⟨t2, et2, hf⟩ := hf
  refine V_getR fl_X10_31 rfl h1.1 h1.2 et2 dX10_fade_1 ?_
  refine V_iload_n (j := 2) dX10_fade_4 rfl rfl ?_
  obtain ⟨h3, hf⟩ := hf
  obtain ⟨h4, hf⟩ := hf
  refine V_iald h3.1 h3.s h4 dX10_fade_5 ?_
  refine V_nI (fun v5 ev5 => ?_)
  have hf := hf v5 ev5
  refine V_istore (ls2 := [(4, .int v5), (0, .ref a0), (1, .ref a1), (2, .int x2), (3, .int x3)]) dX10_fade_6 (by decide) rfl ?_
  refine V_iconst (v := (0 : Int32)) dX10_fade_8 (by decide) ?_
  refine V_istore (ls2 := [(5, .int (0 : Int32)), (4, .int v5), (0, .ref a0), (1, .ref a1), (2, .int x2), (3, .int x3)]) dX10_fade_9 (by decide) rfl ?_
  refine V_iconst (v := (0 : Int32)) dX10_fade_11 (by decide) ?_
  refine V_istore (ls2 := [(6, .int (0 : Int32)), (5, .int (0 : Int32)), (4, .int v5), (0, .ref a0), (1, .ref a1), (2, .int x2), (3, .int x3)]) dX10_fade_12 (by decide) rfl ?_
  obtain ⟨N, hf⟩ := hf
  refine V_to [3, 4, 5, 6, 2, 1, 0] rfl ?_
  exact vX10_fade_L14 hn N _ _ _ _ _ _ _ _ hf
def wX10_pass_J43 (n : Nat) (sh : Nat → Nat × Nat) (k14 : Nat → Nat → Int32 → Int32 → Int32 → gS → Prop) (P : Int32 → gS → Prop) (a0 : Nat) (a1 : Nat) (x2 : Int32) (x3 : Int32) (x4 : Int32) (z : gS) : Prop := ∀ v11 : Int32, v11 = x4 + (1 : Int32) → k14 a0 a1 x2 x3 v11 z
set_option maxRecDepth 100000 in
set_option maxHeartbeats 4000000 in
theorem vX10_pass_J43 {E : gE} {n : Nat} {sh : Nat → Nat × Nat} {P : Int32 → gS → Prop} {k14 : Nat → Nat → Int32 → Int32 → Int32 → gS → Prop} {a0 : Nat} {a1 : Nat} {x2 : Int32} {x3 : Int32} {x4 : Int32} {z : gS} (hn : gOK E n) (hk14 : ∀ (a0 : Nat) (a1 : Nat) (x2 : Int32) (x3 : Int32) (x4 : Int32) (z : gS), k14 a0 a1 x2 x3 x4 z → V E (gR 3 0) gyX10_pass 0 0 14 [(0, .ref a0), (1, .ref a1), (2, .int x2), (3, .int x3), (4, .int x4)] [] n sh z (kI n sh P)) (hf : wX10_pass_J43 n sh k14 P a0 a1 x2 x3 x4 z) : V E (gR 3 0) gyX10_pass 0 0 43 [(0, .ref a0), (1, .ref a1), (2, .int x2), (3, .int x3), (4, .int x4)] [] n sh z (kI n sh P) := by
  unfold wX10_pass_J43 at hf
  obtain ⟨v11, ev11⟩ : ∃ y : Int32, y = x4 + (1 : Int32) := ⟨_, rfl⟩
  refine V_iinc (j := 4) (v := v11) (ls2 := [(4, .int v11), (0, .ref a0), (1, .ref a1), (2, .int x2), (3, .int x3)]) dX10_pass_43 rfl (by rw [ev11]; rfl) (by decide) rfl ?_
  have hf := hf v11 ev11
  refine V_goto (tgt := 14) dX10_pass_46 (by decide) ?_
  refine V_to [1, 2, 3, 4, 0] rfl ?_
  exact hk14 _ _ _ _ _ _ hf
def wX10_pass_B14 (n : Nat) (sh : Nat → Nat × Nat) (k14 : Nat → Nat → Int32 → Int32 → Int32 → gS → Prop) (P : Int32 → gS → Prop) (a0 : Nat) (a1 : Nat) (x2 : Int32) (x3 : Int32) (x4 : Int32) (z : gS) : Prop := (oO n sh a1 4) ∧ (if (gi z a1 10) ≤ x4 then ((oO n sh a0 6) ∧ (∀ z7 : gS, z7 = si z a0 0 ((gi z a0 0) + (1 : Int32)) → P x2 z7)) else ((oO n sh a0 6) ∧ (wX10_isBroken n sh a0 x4 z (fun (r8 : Int32) (z9 : gS) => if r8 = 0 then (wX10_fade n sh a0 a1 x4 x3 z9 (fun (r12 : Int32) (z13 : gS) => ∀ v14 : Int32, v14 = (x2 + r12) → wX10_pass_J43 n sh k14 P a0 a1 v14 x3 x4 z13)) else wX10_pass_J43 n sh k14 P a0 a1 x2 x3 x4 z9))))
def wX10_pass_L14 (n : Nat) (sh : Nat → Nat × Nat) (P : Int32 → gS → Prop) : Nat → Nat → Nat → Int32 → Int32 → Int32 → gS → Prop
  | 0, _, _, _, _, _, _ => False
  | N + 1, a0, a1, x2, x3, x4, z => wX10_pass_B14 n sh (wX10_pass_L14 n sh P N) P a0 a1 x2 x3 x4 z
set_option maxRecDepth 100000 in
set_option maxHeartbeats 4000000 in
theorem vX10_pass_B14 {E : gE} {n : Nat} {sh : Nat → Nat × Nat} {P : Int32 → gS → Prop} {k14 : Nat → Nat → Int32 → Int32 → Int32 → gS → Prop} {a0 : Nat} {a1 : Nat} {x2 : Int32} {x3 : Int32} {x4 : Int32} {z : gS} (hn : gOK E n) (hk14 : ∀ (a0 : Nat) (a1 : Nat) (x2 : Int32) (x3 : Int32) (x4 : Int32) (z : gS), k14 a0 a1 x2 x3 x4 z → V E (gR 3 0) gyX10_pass 0 0 14 [(0, .ref a0), (1, .ref a1), (2, .int x2), (3, .int x3), (4, .int x4)] [] n sh z (kI n sh P)) (hf : wX10_pass_B14 n sh k14 P a0 a1 x2 x3 x4 z) : V E (gR 3 0) gyX10_pass 0 0 14 [(0, .ref a0), (1, .ref a1), (2, .int x2), (3, .int x3), (4, .int x4)] [] n sh z (kI n sh P) := by
  unfold wX10_pass_B14 at hf
  refine V_iload (j := 4) dX10_pass_14 rfl ?_
  refine V_aload_n (j := 1) dX10_pass_16 rfl rfl ?_
  obtain ⟨h5, hf⟩ := hf
  refine V_getI fl_X10_58 rfl h5.1 h5.2 dX10_pass_17 ?_
  refine V_icmp_ge (tgt := 49) dX10_pass_20 (by decide) (fun h16 => ?_) (fun h16 => ?_)
  · have hf := it_t h16 hf
    refine V_aload_n (j := 0) dX10_pass_49 rfl rfl ?_
    refine V_dup dX10_pass_50 rfl ?_
    obtain ⟨h6, hf⟩ := hf
    refine V_getI fl_X10_11 rfl h6.1 h6.2 dX10_pass_51 ?_
    refine V_iconst (v := (1 : Int32)) dX10_pass_54 (by decide) ?_
    refine V_iadd dX10_pass_55 ?_
    refine V_putI fl_X10_11 rfl rfl rfl rfl h6.1 h6.2 dX10_pass_56 ?_
    refine V_nz (fun z7 ez7 => ?_)
    have hf := hf z7 ez7
    refine V_iload_n (j := 2) dX10_pass_59 rfl rfl ?_
    exact V_ireturn dX10_pass_60 rfl rfl (Nat.le_refl 0) (kI_of hf)
  · have hf := it_f h16 hf
    refine V_aload_n (j := 0) dX10_pass_23 rfl rfl ?_
    refine V_iload (j := 4) dX10_pass_24 rfl ?_
    obtain ⟨h10, hf⟩ := hf
    refine V_cVI (ctX10_isBroken hn hf) gc_X10_48 rfl h10.1 ⟨_, h10.2, by decide, rfl⟩ ⟨by decide, by decide, Nat.zero_le _, Nat.zero_le _⟩ (Nat.le_of_ble_eq_true rfl) dX10_pass_26 rfl hn (fun r8 z9 hf => ?_)
    refine V_if_ne (tgt := 43) dX10_pass_29 (by decide) (fun h15 => ?_) (fun h15 => ?_)
    · have hf := it_f h15 hf
      exact vX10_pass_J43 hn hk14 hf
    · have hf := it_t (Classical.not_not.mp h15) hf
      refine V_iload_n (j := 2) dX10_pass_32 rfl rfl ?_
      refine V_aload_n (j := 0) dX10_pass_33 rfl rfl ?_
      refine V_aload_n (j := 1) dX10_pass_34 rfl rfl ?_
      refine V_iload (j := 4) dX10_pass_35 rfl ?_
      refine V_iload_n (j := 3) dX10_pass_37 rfl rfl ?_
      refine V_cVI (ctX10_fade hn hf) gc_X10_98 rfl h10.1 ⟨_, h10.2, by decide, rfl⟩ ⟨by decide, by decide, Nat.zero_le _, Nat.zero_le _⟩ (Nat.le_of_ble_eq_true rfl) dX10_pass_38 rfl hn (fun r12 z13 hf => ?_)
      refine V_iadd dX10_pass_41 ?_
      refine V_nI (fun v14 ev14 => ?_)
      have hf := hf v14 ev14
      refine V_istore_n (ls2 := [(2, .int v14), (0, .ref a0), (1, .ref a1), (3, .int x3), (4, .int x4)]) dX10_pass_42 rfl (by decide) rfl ?_
      refine V_to [1, 2, 0, 3, 4] rfl ?_
      exact vX10_pass_J43 hn hk14 hf
set_option maxRecDepth 100000 in
set_option maxHeartbeats 4000000 in
theorem vX10_pass_L14 {E : gE} {n : Nat} {sh : Nat → Nat × Nat} {P : Int32 → gS → Prop} (hn : gOK E n) : ∀ (N : Nat) (a0 : Nat) (a1 : Nat) (x2 : Int32) (x3 : Int32) (x4 : Int32) (z : gS), wX10_pass_L14 n sh P N a0 a1 x2 x3 x4 z → V E (gR 3 0) gyX10_pass 0 0 14 [(0, .ref a0), (1, .ref a1), (2, .int x2), (3, .int x3), (4, .int x4)] [] n sh z (kI n sh P) := by
  intro N
  induction N with
  | zero => intro a0 a1 x2 x3 x4 z hf; exact False.elim hf
  | succ N ih => intro a0 a1 x2 x3 x4 z hf; exact vX10_pass_B14 hn ih hf
def wX10_pass (n : Nat) (sh : Nat → Nat × Nat) (a0 : Nat) (a1 : Nat) (z : gS) (P : Int32 → gS → Prop) : Prop := (oO n sh a0 6) ∧ ((oO n sh a1 4) ∧ (wX7_lightAt n sh a1 (gi z a0 0) z (fun (r2 : Int32) (z3 : gS) => (∃ N, wX10_pass_L14 n sh P N a0 a1 (0 : Int32) r2 (0 : Int32) z3))))
set_option maxRecDepth 100000 in
set_option maxHeartbeats 4000000 in
theorem ctX10_pass {E : gE} {n : Nat} {sh : Nat → Nat × Nat} {a0 : Nat} {a1 : Nat} {z : gS} {P : Int32 → gS → Prop} (hn : gOK E n) (hf : wX10_pass n sh a0 a1 z P) : VM E 3 0 gyX10_pass [.ref a0, .ref a1] n sh z (kI n sh P) := by
  unfold wX10_pass at hf
  refine VM.of (by decide +kernel) (Nat.le_of_ble_eq_true rfl) (fun _ _ _ h => h.2.2) ?_
  show V E (gR 3 0) gyX10_pass 0 0 0 [(0, .ref a0), (1, .ref a1)] [] n sh z (kI n sh P)
  refine V_iconst (v := (0 : Int32)) dX10_pass_0 (by decide) ?_
  refine V_istore_n (ls2 := [(2, .int (0 : Int32)), (0, .ref a0), (1, .ref a1)]) dX10_pass_1 rfl (by decide) rfl ?_
  refine V_aload_n (j := 2) dX10_pass_2 rfl rfl ?_
  refine V_aload_n (j := 1) dX10_pass_3 rfl rfl ?_
  obtain ⟨h1, hf⟩ := hf
  refine V_getI fl_X10_11 rfl h1.1 h1.2 dX10_pass_4 ?_
  obtain ⟨h4, hf⟩ := hf
  refine V_cVI (ctX7_lightAt hn hf) gc_X10_61 rfl h4.1 ⟨_, h4.2, by decide, rfl⟩ ⟨by decide, by decide, Nat.zero_le _, Nat.zero_le _⟩ (Nat.le_of_ble_eq_true rfl) dX10_pass_7 rfl hn (fun r2 z3 hf => ?_)
  refine V_istore_n (ls2 := [(3, .int r2), (2, .int (0 : Int32)), (0, .ref a0), (1, .ref a1)]) dX10_pass_10 rfl (by decide) rfl ?_
  refine V_iconst (v := (0 : Int32)) dX10_pass_11 (by decide) ?_
  refine V_istore (ls2 := [(4, .int (0 : Int32)), (3, .int r2), (2, .int (0 : Int32)), (0, .ref a0), (1, .ref a1)]) dX10_pass_12 (by decide) rfl ?_
  obtain ⟨N, hf⟩ := hf
  refine V_to [3, 4, 2, 1, 0] rfl ?_
  exact vX10_pass_L14 hn N _ _ _ _ _ _ hf
def wX11_hour (n : Nat) (sh : Nat → Nat × Nat) (a0 : Nat) (z : gS) (P : Int32 → gS → Prop) : Prop := (oO n sh a0 7) ∧ (∃ t2 : Nat, gr z a0 3 = some t2 ∧ (∃ t3 : Nat, gr z a0 1 = some t3 ∧ ((oO n sh t2 2) ∧ (wX4_keep n sh t2 t3 z (fun (z5 : gS) => ∃ t7 : Nat, gr z5 a0 1 = some t7 ∧ (∃ t8 : Nat, gr z5 a0 7 = some t8 ∧ ((oO n sh t7 6) ∧ (wX10_pass n sh t7 t8 z5 (fun (r9 : Int32) (z10 : gS) => P r9 z10)))))))))
set_option maxRecDepth 100000 in
set_option maxHeartbeats 4000000 in
theorem ctX11_hour {E : gE} {n : Nat} {sh : Nat → Nat × Nat} {a0 : Nat} {z : gS} {P : Int32 → gS → Prop} (hn : gOK E n) (hf : wX11_hour n sh a0 z P) : VM E 4 0 gyX11_hour [.ref a0] n sh z (kI n sh P) := by
  unfold wX11_hour at hf
  refine VM.of (by decide +kernel) (Nat.le_of_ble_eq_true rfl) (fun _ _ _ h => h.2.2) ?_
  show V E (gR 4 0) gyX11_hour 0 0 0 [(0, .ref a0)] [] n sh z (kI n sh P)
  refine V_aload_n (j := 0) dX11_hour_0 rfl rfl ?_
  obtain ⟨h1, hf⟩ := hf
  obtain ⟨t2, et2, hf⟩ := hf
  refine V_getR fl_X11_29 rfl h1.1 h1.2 et2 dX11_hour_1 ?_
  refine V_aload_n (j := 0) dX11_hour_4 rfl rfl ?_
  obtain ⟨t3, et3, hf⟩ := hf
  refine V_getR fl_X11_19 rfl h1.1 h1.2 et3 dX11_hour_5 ?_
  obtain ⟨h6, hf⟩ := hf
  refine V_cVN (ctX4_keep hn hf) gc_X11_159 rfl h6.1 ⟨_, h6.2, by decide, rfl⟩ ⟨by decide, by decide, Nat.zero_le _, Nat.zero_le _⟩ (Nat.le_of_ble_eq_true rfl) dX11_hour_8 rfl hn (fun z5 hf => ?_)
  refine V_aload_n (j := 0) dX11_hour_11 rfl rfl ?_
  obtain ⟨t7, et7, hf⟩ := hf
  refine V_getR fl_X11_19 rfl h1.1 h1.2 et7 dX11_hour_12 ?_
  refine V_aload_n (j := 0) dX11_hour_15 rfl rfl ?_
  obtain ⟨t8, et8, hf⟩ := hf
  refine V_getR fl_X11_51 rfl h1.1 h1.2 et8 dX11_hour_16 ?_
  obtain ⟨h11, hf⟩ := hf
  refine V_cVI (ctX10_pass hn hf) gc_X11_185 rfl h11.1 ⟨_, h11.2, by decide, rfl⟩ ⟨by decide, by decide, Nat.zero_le _, Nat.zero_le _⟩ (Nat.le_of_ble_eq_true rfl) dX11_hour_19 rfl hn (fun r9 z10 hf => ?_)
  exact V_ireturn dX11_hour_22 rfl rfl (Nat.le_refl 0) (kI_of hf)
def wX4_takeBack (n : Nat) (sh : Nat → Nat × Nat) (a0 : Nat) (a1 : Nat) (z : gS) (P : Int32 → gS → Prop) : Prop := (oO n sh a0 2) ∧ (if (gi z a0 1) = 0 then P (0 : Int32) z else (∀ z2 : gS, z2 = si z a0 2 ((((gi z a0 2) + (16 : Int32)) - (1 : Int32)) - (((gi z a0 2) + (16 : Int32)) - (1 : Int32)) / (16 : Int32) * (16 : Int32)) → (∀ z3 : gS, z3 = si z2 a0 1 ((gi z2 a0 1) - (1 : Int32)) → (∃ t4 : Nat, gr z3 a0 0 = some t4 ∧ ((oA n sh t4 5) ∧ ((vp_in (gi z3 a0 2) (sh t4).2) ∧ ∃ t7 : Nat, gr z3 t4 (gi z3 a0 2).toNatClampNeg = some t7 ∧ ((oO n sh a1 6) ∧ (wX10_copy n sh a1 t7 z3 (fun (z9 : gS) => P (1 : Int32) z9)))))))))
set_option maxRecDepth 100000 in
set_option maxHeartbeats 4000000 in
theorem ctX4_takeBack {E : gE} {n : Nat} {sh : Nat → Nat × Nat} {a0 : Nat} {a1 : Nat} {z : gS} {P : Int32 → gS → Prop} (hn : gOK E n) (hf : wX4_takeBack n sh a0 a1 z P) : VM E 2 0 gyX4_takeBack [.ref a0, .ref a1] n sh z (kI n sh P) := by
  unfold wX4_takeBack at hf
  refine VM.of (by decide +kernel) (Nat.le_of_ble_eq_true rfl) (fun _ _ _ h => h.2.2) ?_
  show V E (gR 2 0) gyX4_takeBack 0 0 0 [(0, .ref a0), (1, .ref a1)] [] n sh z (kI n sh P)
  refine V_aload_n (j := 0) dX4_takeBack_0 rfl rfl ?_
  obtain ⟨h1, hf⟩ := hf
  refine V_getI fl_X4_15 rfl h1.1 h1.2 dX4_takeBack_1 ?_
  refine V_if_ne (tgt := 9) dX4_takeBack_4 (by decide) (fun h11 => ?_) (fun h11 => ?_)
  · have hf := it_f h11 hf
    refine V_aload_n (j := 0) dX4_takeBack_9 rfl rfl ?_
    refine V_aload_n (j := 0) dX4_takeBack_10 rfl rfl ?_
    refine V_getI fl_X4_19 rfl h1.1 h1.2 dX4_takeBack_11 ?_
    refine V_bipush (v := (16 : Int32)) dX4_takeBack_14 (by decide) ?_
    refine V_iadd dX4_takeBack_16 ?_
    refine V_iconst (v := (1 : Int32)) dX4_takeBack_17 (by decide) ?_
    refine V_isub dX4_takeBack_18 ?_
    refine V_bipush (v := (16 : Int32)) dX4_takeBack_19 (by decide) ?_
    refine V_irem dX4_takeBack_21 (by decide) ?_
    refine V_putI fl_X4_19 rfl rfl rfl rfl h1.1 h1.2 dX4_takeBack_22 ?_
    refine V_nz (fun z2 ez2 => ?_)
    have hf := hf z2 ez2
    refine V_aload_n (j := 0) dX4_takeBack_25 rfl rfl ?_
    refine V_dup dX4_takeBack_26 rfl ?_
    refine V_getI fl_X4_15 rfl h1.1 h1.2 dX4_takeBack_27 ?_
    refine V_iconst (v := (1 : Int32)) dX4_takeBack_30 (by decide) ?_
    refine V_isub dX4_takeBack_31 ?_
    refine V_putI fl_X4_15 rfl rfl rfl rfl h1.1 h1.2 dX4_takeBack_32 ?_
    refine V_nz (fun z3 ez3 => ?_)
    have hf := hf z3 ez3
    refine V_aload_n (j := 1) dX4_takeBack_35 rfl rfl ?_
    refine V_aload_n (j := 0) dX4_takeBack_36 rfl rfl ?_
    obtain ⟨t4, et4, hf⟩ := hf
    refine V_getR fl_X4_11 rfl h1.1 h1.2 et4 dX4_takeBack_37 ?_
    refine V_aload_n (j := 0) dX4_takeBack_40 rfl rfl ?_
    refine V_getI fl_X4_19 rfl h1.1 h1.2 dX4_takeBack_41 ?_
    obtain ⟨h5, hf⟩ := hf
    obtain ⟨h6, t7, et7, hf⟩ := hf
    refine V_aald h5.1 h5.s h6 et7 dX4_takeBack_44 ?_
    obtain ⟨h10, hf⟩ := hf
    refine V_cVN (ctX10_copy hn hf) gc_X4_23 rfl h10.1 ⟨_, h10.2, by decide, rfl⟩ ⟨by decide, by decide, Nat.zero_le _, Nat.zero_le _⟩ (Nat.le_of_ble_eq_true rfl) dX4_takeBack_45 rfl hn (fun z9 hf => ?_)
    refine V_iconst (v := (1 : Int32)) dX4_takeBack_48 (by decide) ?_
    exact V_ireturn dX4_takeBack_49 rfl (by decide) (Nat.le_refl 0) (kI_of hf)
  · have hf := it_t (Classical.not_not.mp h11) hf
    refine V_iconst (v := (0 : Int32)) dX4_takeBack_7 (by decide) ?_
    exact V_ireturn dX4_takeBack_8 rfl (by decide) (Nat.le_refl 0) (kI_of hf)
def wX11_undo (n : Nat) (sh : Nat → Nat × Nat) (a0 : Nat) (z : gS) (P : Int32 → gS → Prop) : Prop := (oO n sh a0 7) ∧ (∃ t2 : Nat, gr z a0 3 = some t2 ∧ (∃ t3 : Nat, gr z a0 1 = some t3 ∧ ((oO n sh t2 2) ∧ (wX4_takeBack n sh t2 t3 z (fun (r4 : Int32) (z5 : gS) => (bo r4) ∧ P r4 z5)))))
set_option maxRecDepth 100000 in
set_option maxHeartbeats 4000000 in
theorem ctX11_undo {E : gE} {n : Nat} {sh : Nat → Nat × Nat} {a0 : Nat} {z : gS} {P : Int32 → gS → Prop} (hn : gOK E n) (hf : wX11_undo n sh a0 z P) : VM E 3 0 gyX11_undo [.ref a0] n sh z (kI n sh P) := by
  unfold wX11_undo at hf
  refine VM.of (by decide +kernel) (Nat.le_of_ble_eq_true rfl) (fun _ _ _ h => h.2.2) ?_
  show V E (gR 3 0) gyX11_undo 0 0 0 [(0, .ref a0)] [] n sh z (kI n sh P)
  refine V_aload_n (j := 0) dX11_undo_0 rfl rfl ?_
  obtain ⟨h1, hf⟩ := hf
  obtain ⟨t2, et2, hf⟩ := hf
  refine V_getR fl_X11_29 rfl h1.1 h1.2 et2 dX11_undo_1 ?_
  refine V_aload_n (j := 0) dX11_undo_4 rfl rfl ?_
  obtain ⟨t3, et3, hf⟩ := hf
  refine V_getR fl_X11_19 rfl h1.1 h1.2 et3 dX11_undo_5 ?_
  obtain ⟨h6, hf⟩ := hf
  refine V_cVI (ctX4_takeBack hn hf) gc_X11_189 rfl h6.1 ⟨_, h6.2, by decide, rfl⟩ ⟨by decide, by decide, Nat.zero_le _, Nat.zero_le _⟩ (Nat.le_of_ble_eq_true rfl) dX11_undo_8 rfl hn (fun r4 z5 hf => ?_)
  exact V_ireturn dX11_undo_11 rfl hf.1 (Nat.le_refl 0) (kI_of hf.2)
def wX0_isPlayed (n : Nat) (sh : Nat → Nat × Nat) (a0 : Nat) (a1 : Nat) (a2 : Nat) (x3 : Int32) (z : gS) (P : Int32 → gS → Prop) : Prop := (oO n sh a0 0) ∧ (∃ t2 : Nat, gr z a0 1 = some t2 ∧ ((oA n sh t2 1) ∧ ((vp_in x3 (sh t2).2) ∧ (∀ v5 : Int32, v5 = (gi z t2 x3.toNatClampNeg) → (∃ t6 : Nat, gr z a0 0 = some t6 ∧ ((oA n sh t6 1) ∧ ((vp_in x3 (sh t6).2) ∧ (∀ v9 : Int32, v9 = (gi z t6 x3.toNatClampNeg) → (if v9 = (5 : Int32) then (∃ t11 : Nat, gr z a0 2 = some t11 ∧ ((oA n sh t11 1) ∧ ((vp_in x3 (sh t11).2) ∧ ((oO n sh a2 6) ∧ (wX10_steps n sh a2 v5 (gi z t11 x3.toNatClampNeg) z (fun (r14 : Int32) (z15 : gS) => (bo r14) ∧ P r14 z15)))))) else (if v9 = (6 : Int32) then ((oO n sh a2 6) ∧ (wX10_pass n sh a2 a1 z (fun (r18 : Int32) (z19 : gS) => P (1 : Int32) z19))) else (if v9 = (7 : Int32) then ((oO n sh a2 6) ∧ (wX10_rinses n sh a2 v5 z (fun (r22 : Int32) (z23 : gS) => (bo r22) ∧ P r22 z23))) else (if v9 = (8 : Int32) then ((oO n sh a2 6) ∧ (wX10_pulls n sh a2 v5 z (fun (r26 : Int32) (z27 : gS) => (bo r26) ∧ P r26 z27))) else (if v9 = (9 : Int32) then ((oO n sh a2 6) ∧ (wX10_smashes n sh a2 v5 z (fun (r30 : Int32) (z31 : gS) => (bo r30) ∧ P r30 z31))) else ((oO n sh a2 6) ∧ (wX10_pass n sh a2 a1 z (fun (r33 : Int32) (z34 : gS) => P (1 : Int32) z34))))))))))))))))
set_option maxRecDepth 100000 in
set_option maxHeartbeats 4000000 in
theorem ctX0_isPlayed {E : gE} {n : Nat} {sh : Nat → Nat × Nat} {a0 : Nat} {a1 : Nat} {a2 : Nat} {x3 : Int32} {z : gS} {P : Int32 → gS → Prop} (hn : gOK E n) (hf : wX0_isPlayed n sh a0 a1 a2 x3 z P) : VM E 4 0 gyX0_isPlayed [.ref a0, .ref a1, .ref a2, .int x3] n sh z (kI n sh P) := by
  unfold wX0_isPlayed at hf
  refine VM.of (by decide +kernel) (Nat.le_of_ble_eq_true rfl) (fun _ _ _ h => h.2.2) ?_
  show V E (gR 4 0) gyX0_isPlayed 0 0 0 [(0, .ref a0), (1, .ref a1), (2, .ref a2), (3, .int x3)] [] n sh z (kI n sh P)
  refine V_aload_n (j := 0) dX0_isPlayed_0 rfl rfl ?_
  obtain ⟨h1, hf⟩ := hf
  obtain ⟨t2, et2, hf⟩ := hf
  refine V_getR fl_X0_15 rfl h1.1 h1.2 et2 dX0_isPlayed_1 ?_
  refine V_iload_n (j := 3) dX0_isPlayed_4 rfl rfl ?_
  obtain ⟨h3, hf⟩ := hf
  obtain ⟨h4, hf⟩ := hf
  refine V_iald h3.1 h3.s h4 dX0_isPlayed_5 ?_
  refine V_nI (fun v5 ev5 => ?_)
  have hf := hf v5 ev5
  refine V_istore (ls2 := [(4, .int v5), (0, .ref a0), (1, .ref a1), (2, .ref a2), (3, .int x3)]) dX0_isPlayed_6 (by decide) rfl ?_
  refine V_aload_n (j := 1) dX0_isPlayed_8 rfl rfl ?_
  obtain ⟨t6, et6, hf⟩ := hf
  refine V_getR fl_X0_9 rfl h1.1 h1.2 et6 dX0_isPlayed_9 ?_
  refine V_iload_n (j := 4) dX0_isPlayed_12 rfl rfl ?_
  obtain ⟨h7, hf⟩ := hf
  obtain ⟨h8, hf⟩ := hf
  refine V_iald h7.1 h7.s h8 dX0_isPlayed_13 ?_
  refine V_nI (fun v9 ev9 => ?_)
  have hf := hf v9 ev9
  by_cases h10 : v9 = (5 : Int32)
  · have hf := it_t h10 hf
    refine V_tableIn (off := 34) (tgt := 48) dX0_isPlayed_14 (by rw [h10]; decide) (by rw [h10]; decide) (by rw [h10]; decide) (by decide) ?_
    refine V_aload_n (j := 3) dX0_isPlayed_48 rfl rfl ?_
    refine V_iload (j := 0) dX0_isPlayed_49 rfl ?_
    refine V_aload_n (j := 1) dX0_isPlayed_51 rfl rfl ?_
    obtain ⟨t11, et11, hf⟩ := hf
    refine V_getR fl_X0_18 rfl h1.1 h1.2 et11 dX0_isPlayed_52 ?_
    refine V_iload_n (j := 4) dX0_isPlayed_55 rfl rfl ?_
    obtain ⟨h12, hf⟩ := hf
    obtain ⟨h13, hf⟩ := hf
    refine V_iald h12.1 h12.s h13 dX0_isPlayed_56 ?_
    obtain ⟨h16, hf⟩ := hf
    refine V_cVI (ctX10_steps hn hf) gc_X0_47 rfl h16.1 ⟨_, h16.2, by decide, rfl⟩ ⟨by decide, by decide, Nat.zero_le _, Nat.zero_le _⟩ (Nat.le_of_ble_eq_true rfl) dX0_isPlayed_57 rfl hn (fun r14 z15 hf => ?_)
    exact V_ireturn dX0_isPlayed_60 rfl hf.1 (Nat.le_refl 0) (kI_of hf.2)
  · have hf := it_f h10 hf
    by_cases h17 : v9 = (6 : Int32)
    · have hf := it_t h17 hf
      refine V_tableIn (off := 68) (tgt := 82) dX0_isPlayed_14 (by rw [h17]; decide) (by rw [h17]; decide) (by rw [h17]; decide) (by decide) ?_
      refine V_aload_n (j := 3) dX0_isPlayed_82 rfl rfl ?_
      refine V_aload_n (j := 2) dX0_isPlayed_83 rfl rfl ?_
      obtain ⟨h20, hf⟩ := hf
      refine V_cVI (ctX10_pass hn hf) gc_X0_61 rfl h20.1 ⟨_, h20.2, by decide, rfl⟩ ⟨by decide, by decide, Nat.zero_le _, Nat.zero_le _⟩ (Nat.le_of_ble_eq_true rfl) dX0_isPlayed_84 rfl hn (fun r18 z19 hf => ?_)
      refine V_pop dX0_isPlayed_87 rfl ?_
      refine V_iconst (v := (1 : Int32)) dX0_isPlayed_88 (by decide) ?_
      exact V_ireturn dX0_isPlayed_89 rfl (by decide) (Nat.le_refl 0) (kI_of hf)
    · have hf := it_f h17 hf
      by_cases h21 : v9 = (7 : Int32)
      · have hf := it_t h21 hf
        refine V_tableIn (off := 47) (tgt := 61) dX0_isPlayed_14 (by rw [h21]; decide) (by rw [h21]; decide) (by rw [h21]; decide) (by decide) ?_
        refine V_aload_n (j := 3) dX0_isPlayed_61 rfl rfl ?_
        refine V_iload (j := 0) dX0_isPlayed_62 rfl ?_
        obtain ⟨h24, hf⟩ := hf
        refine V_cVI (ctX10_rinses hn hf) gc_X0_51 rfl h24.1 ⟨_, h24.2, by decide, rfl⟩ ⟨by decide, by decide, Nat.zero_le _, Nat.zero_le _⟩ (Nat.le_of_ble_eq_true rfl) dX0_isPlayed_64 rfl hn (fun r22 z23 hf => ?_)
        exact V_ireturn dX0_isPlayed_67 rfl hf.1 (Nat.le_refl 0) (kI_of hf.2)
      · have hf := it_f h21 hf
        by_cases h25 : v9 = (8 : Int32)
        · have hf := it_t h25 hf
          refine V_tableIn (off := 54) (tgt := 68) dX0_isPlayed_14 (by rw [h25]; decide) (by rw [h25]; decide) (by rw [h25]; decide) (by decide) ?_
          refine V_aload_n (j := 3) dX0_isPlayed_68 rfl rfl ?_
          refine V_iload (j := 0) dX0_isPlayed_69 rfl ?_
          obtain ⟨h28, hf⟩ := hf
          refine V_cVI (ctX10_pulls hn hf) gc_X0_55 rfl h28.1 ⟨_, h28.2, by decide, rfl⟩ ⟨by decide, by decide, Nat.zero_le _, Nat.zero_le _⟩ (Nat.le_of_ble_eq_true rfl) dX0_isPlayed_71 rfl hn (fun r26 z27 hf => ?_)
          exact V_ireturn dX0_isPlayed_74 rfl hf.1 (Nat.le_refl 0) (kI_of hf.2)
        · have hf := it_f h25 hf
          by_cases h29 : v9 = (9 : Int32)
          · have hf := it_t h29 hf
            refine V_tableIn (off := 61) (tgt := 75) dX0_isPlayed_14 (by rw [h29]; decide) (by rw [h29]; decide) (by rw [h29]; decide) (by decide) ?_
            refine V_aload_n (j := 3) dX0_isPlayed_75 rfl rfl ?_
            refine V_iload (j := 0) dX0_isPlayed_76 rfl ?_
            obtain ⟨h32, hf⟩ := hf
            refine V_cVI (ctX10_smashes hn hf) gc_X0_58 rfl h32.1 ⟨_, h32.2, by decide, rfl⟩ ⟨by decide, by decide, Nat.zero_le _, Nat.zero_le _⟩ (Nat.le_of_ble_eq_true rfl) dX0_isPlayed_78 rfl hn (fun r30 z31 hf => ?_)
            exact V_ireturn dX0_isPlayed_81 rfl hf.1 (Nat.le_refl 0) (kI_of hf.2)
          · have hf := it_f h29 hf
            refine V_tableOut (tgt := 82) dX0_isPlayed_14 (by have qh10 := sw_ne (a := 5) h10 (by decide); have qh17 := sw_ne (a := 6) h17 (by decide); have qh21 := sw_ne (a := 7) h21 (by decide); have qh25 := sw_ne (a := 8) h25 (by decide); have qh29 := sw_ne (a := 9) h29 (by decide); omega) (by decide) ?_
            refine V_aload_n (j := 3) dX0_isPlayed_82 rfl rfl ?_
            refine V_aload_n (j := 2) dX0_isPlayed_83 rfl rfl ?_
            obtain ⟨h35, hf⟩ := hf
            refine V_cVI (ctX10_pass hn hf) gc_X0_61 rfl h35.1 ⟨_, h35.2, by decide, rfl⟩ ⟨by decide, by decide, Nat.zero_le _, Nat.zero_le _⟩ (Nat.le_of_ble_eq_true rfl) dX0_isPlayed_84 rfl hn (fun r33 z34 hf => ?_)
            refine V_pop dX0_isPlayed_87 rfl ?_
            refine V_iconst (v := (1 : Int32)) dX0_isPlayed_88 (by decide) ?_
            exact V_ireturn dX0_isPlayed_89 rfl (by decide) (Nat.le_refl 0) (kI_of hf)
def wX0_play_J99 (n : Nat) (sh : Nat → Nat × Nat) (k17 : Nat → Nat → Nat → Int32 → gS → Prop) (P : gS → Prop) (a0 : Nat) (a1 : Nat) (a2 : Nat) (x3 : Int32) (z : gS) : Prop := ∀ v13 : Int32, v13 = x3 + (1 : Int32) → k17 a0 a1 a2 v13 z
set_option maxRecDepth 100000 in
set_option maxHeartbeats 4000000 in
theorem vX0_play_J99 {E : gE} {n : Nat} {sh : Nat → Nat × Nat} {P : gS → Prop} {k17 : Nat → Nat → Nat → Int32 → gS → Prop} {a0 : Nat} {a1 : Nat} {a2 : Nat} {x3 : Int32} {z : gS} (hn : gOK E n) (hk17 : ∀ (a0 : Nat) (a1 : Nat) (a2 : Nat) (x3 : Int32) (z : gS), k17 a0 a1 a2 x3 z → V E (gR 5 0) gyX0_play 0 0 17 [(0, .ref a0), (1, .ref a1), (2, .ref a2), (3, .int x3)] [] n sh z (kN n sh P)) (hf : wX0_play_J99 n sh k17 P a0 a1 a2 x3 z) : V E (gR 5 0) gyX0_play 0 0 99 [(0, .ref a0), (1, .ref a1), (2, .ref a2), (3, .int x3)] [] n sh z (kN n sh P) := by
  unfold wX0_play_J99 at hf
  obtain ⟨v13, ev13⟩ : ∃ y : Int32, y = x3 + (1 : Int32) := ⟨_, rfl⟩
  refine V_iinc (j := 3) (v := v13) (ls2 := [(3, .int v13), (0, .ref a0), (1, .ref a1), (2, .ref a2)]) dX0_play_99 rfl (by rw [ev13]; rfl) (by decide) rfl ?_
  have hf := hf v13 ev13
  refine V_goto (tgt := 17) dX0_play_102 (by decide) ?_
  refine V_to [1, 2, 3, 0] rfl ?_
  exact hk17 _ _ _ _ _ hf
def wX0_play_J73 (n : Nat) (sh : Nat → Nat × Nat) (k17 : Nat → Nat → Nat → Int32 → gS → Prop) (P : gS → Prop) (a0 : Nat) (a1 : Nat) (a2 : Nat) (x3 : Int32) (z : gS) : Prop := wX0_play_J99 n sh k17 P a0 a1 a2 x3 z
set_option maxRecDepth 100000 in
set_option maxHeartbeats 4000000 in
theorem vX0_play_J73 {E : gE} {n : Nat} {sh : Nat → Nat × Nat} {P : gS → Prop} {k17 : Nat → Nat → Nat → Int32 → gS → Prop} {a0 : Nat} {a1 : Nat} {a2 : Nat} {x3 : Int32} {z : gS} (hn : gOK E n) (hk17 : ∀ (a0 : Nat) (a1 : Nat) (a2 : Nat) (x3 : Int32) (z : gS), k17 a0 a1 a2 x3 z → V E (gR 5 0) gyX0_play 0 0 17 [(0, .ref a0), (1, .ref a1), (2, .ref a2), (3, .int x3)] [] n sh z (kN n sh P)) (hf : wX0_play_J73 n sh k17 P a0 a1 a2 x3 z) : V E (gR 5 0) gyX0_play 0 0 73 [(0, .ref a0), (1, .ref a1), (2, .ref a2), (3, .int x3)] [] n sh z (kN n sh P) := by
  unfold wX0_play_J73 at hf
  refine V_goto (tgt := 99) dX0_play_73 (by decide) ?_
  exact vX0_play_J99 hn hk17 hf
def wX0_play_B17 (n : Nat) (sh : Nat → Nat × Nat) (k17 : Nat → Nat → Nat → Int32 → gS → Prop) (P : gS → Prop) (a0 : Nat) (a1 : Nat) (a2 : Nat) (x3 : Int32) (z : gS) : Prop := (oO n sh a0 0) ∧ (if (gi z a0 3) ≤ x3 then P z else (∃ t8 : Nat, gr z a0 0 = some t8 ∧ ((oA n sh t8 1) ∧ ((vp_in x3 (sh t8).2) ∧ (if (gi z t8 x3.toNatClampNeg) = (6 : Int32) then (∃ t17 : Nat, gr z a0 1 = some t17 ∧ ((oA n sh t17 1) ∧ ((vp_in x3 (sh t17).2) ∧ (∃ t20 : Nat, gr z a0 2 = some t20 ∧ ((oA n sh t20 1) ∧ ((vp_in x3 (sh t20).2) ∧ ((oO n sh a2 6) ∧ (wX10_act n sh a2 a1 (gi z t17 x3.toNatClampNeg) (gi z t20 x3.toNatClampNeg) z (fun (r23 : Int32) (z24 : gS) => if r23 = 0 then (if (gi z24 a0 5) = (-1 : Int32) then (∀ z26 : gS, z26 = si z24 a0 5 x3 → wX0_play_J73 n sh k17 P a0 a1 a2 x3 z26) else wX0_play_J73 n sh k17 P a0 a1 a2 x3 z24) else wX0_play_J73 n sh k17 P a0 a1 a2 x3 z24))))))))) else (wX0_isPlayed n sh a0 a1 a2 x3 z (fun (r11 : Int32) (z12 : gS) => if r11 = 0 then (if (gi z12 a0 4) = (-1 : Int32) then (∀ z14 : gS, z14 = si z12 a0 4 x3 → wX0_play_J99 n sh k17 P a0 a1 a2 x3 z14) else wX0_play_J99 n sh k17 P a0 a1 a2 x3 z12) else wX0_play_J99 n sh k17 P a0 a1 a2 x3 z12)))))))
def wX0_play_L17 (n : Nat) (sh : Nat → Nat × Nat) (P : gS → Prop) : Nat → Nat → Nat → Nat → Int32 → gS → Prop
  | 0, _, _, _, _, _ => False
  | N + 1, a0, a1, a2, x3, z => wX0_play_B17 n sh (wX0_play_L17 n sh P N) P a0 a1 a2 x3 z
set_option maxRecDepth 100000 in
set_option maxHeartbeats 4000000 in
theorem vX0_play_B17 {E : gE} {n : Nat} {sh : Nat → Nat × Nat} {P : gS → Prop} {k17 : Nat → Nat → Nat → Int32 → gS → Prop} {a0 : Nat} {a1 : Nat} {a2 : Nat} {x3 : Int32} {z : gS} (hn : gOK E n) (hk17 : ∀ (a0 : Nat) (a1 : Nat) (a2 : Nat) (x3 : Int32) (z : gS), k17 a0 a1 a2 x3 z → V E (gR 5 0) gyX0_play 0 0 17 [(0, .ref a0), (1, .ref a1), (2, .ref a2), (3, .int x3)] [] n sh z (kN n sh P)) (hf : wX0_play_B17 n sh k17 P a0 a1 a2 x3 z) : V E (gR 5 0) gyX0_play 0 0 17 [(0, .ref a0), (1, .ref a1), (2, .ref a2), (3, .int x3)] [] n sh z (kN n sh P) := by
  unfold wX0_play_B17 at hf
  refine V_iload_n (j := 3) dX0_play_17 rfl rfl ?_
  refine V_aload_n (j := 0) dX0_play_18 rfl rfl ?_
  obtain ⟨h7, hf⟩ := hf
  refine V_getI fl_X0_21 rfl h7.1 h7.2 dX0_play_19 ?_
  refine V_icmp_ge (tgt := 105) dX0_play_22 (by decide) (fun h30 => ?_) (fun h30 => ?_)
  · have hf := it_t h30 hf
    exact V_return dX0_play_105 rfl (Nat.le_refl 0) (kN_of hf)
  · have hf := it_f h30 hf
    refine V_aload_n (j := 0) dX0_play_25 rfl rfl ?_
    obtain ⟨t8, et8, hf⟩ := hf
    refine V_getR fl_X0_9 rfl h7.1 h7.2 et8 dX0_play_26 ?_
    refine V_iload_n (j := 3) dX0_play_29 rfl rfl ?_
    obtain ⟨h9, hf⟩ := hf
    obtain ⟨h10, hf⟩ := hf
    refine V_iald h9.1 h9.s h10 dX0_play_30 ?_
    refine V_bipush (v := (6 : Int32)) dX0_play_31 (by decide) ?_
    refine V_icmp_ne (tgt := 76) dX0_play_33 (by decide) (fun h29 => ?_) (fun h29 => ?_)
    · have hf := it_f h29 hf
      refine V_aload_n (j := 0) dX0_play_76 rfl rfl ?_
      refine V_aload_n (j := 1) dX0_play_77 rfl rfl ?_
      refine V_aload_n (j := 2) dX0_play_78 rfl rfl ?_
      refine V_iload_n (j := 3) dX0_play_79 rfl rfl ?_
      refine V_cVI (ctX0_isPlayed hn hf) gc_X0_43 rfl h7.1 ⟨_, h7.2, by decide, rfl⟩ ⟨by decide, by decide, Nat.zero_le _, Nat.zero_le _⟩ (Nat.le_of_ble_eq_true rfl) dX0_play_80 rfl hn (fun r11 z12 hf => ?_)
      refine V_if_ne (tgt := 99) dX0_play_83 (by decide) (fun h16 => ?_) (fun h16 => ?_)
      · have hf := it_f h16 hf
        exact vX0_play_J99 hn hk17 hf
      · have hf := it_t (Classical.not_not.mp h16) hf
        refine V_aload_n (j := 0) dX0_play_86 rfl rfl ?_
        refine V_getI fl_X0_25 rfl h7.1 h7.2 dX0_play_87 ?_
        refine V_iconst (v := (-1 : Int32)) dX0_play_90 (by decide) ?_
        refine V_icmp_ne (tgt := 99) dX0_play_91 (by decide) (fun h15 => ?_) (fun h15 => ?_)
        · have hf := it_f h15 hf
          exact vX0_play_J99 hn hk17 hf
        · have hf := it_t (Classical.not_not.mp h15) hf
          refine V_aload_n (j := 0) dX0_play_94 rfl rfl ?_
          refine V_iload_n (j := 3) dX0_play_95 rfl rfl ?_
          refine V_putI fl_X0_25 rfl rfl rfl rfl h7.1 h7.2 dX0_play_96 ?_
          refine V_nz (fun z14 ez14 => ?_)
          have hf := hf z14 ez14
          exact vX0_play_J99 hn hk17 hf
    · have hf := it_t (Classical.not_not.mp h29) hf
      refine V_aload_n (j := 2) dX0_play_36 rfl rfl ?_
      refine V_aload_n (j := 1) dX0_play_37 rfl rfl ?_
      refine V_aload_n (j := 0) dX0_play_38 rfl rfl ?_
      obtain ⟨t17, et17, hf⟩ := hf
      refine V_getR fl_X0_15 rfl h7.1 h7.2 et17 dX0_play_39 ?_
      refine V_iload_n (j := 3) dX0_play_42 rfl rfl ?_
      obtain ⟨h18, hf⟩ := hf
      obtain ⟨h19, hf⟩ := hf
      refine V_iald h18.1 h18.s h19 dX0_play_43 ?_
      refine V_aload_n (j := 0) dX0_play_44 rfl rfl ?_
      obtain ⟨t20, et20, hf⟩ := hf
      refine V_getR fl_X0_18 rfl h7.1 h7.2 et20 dX0_play_45 ?_
      refine V_iload_n (j := 3) dX0_play_48 rfl rfl ?_
      obtain ⟨h21, hf⟩ := hf
      obtain ⟨h22, hf⟩ := hf
      refine V_iald h21.1 h21.s h22 dX0_play_49 ?_
      obtain ⟨h25, hf⟩ := hf
      refine V_cVI (ctX10_act hn hf) gc_X0_39 rfl h25.1 ⟨_, h25.2, by decide, rfl⟩ ⟨by decide, by decide, Nat.zero_le _, Nat.zero_le _⟩ (Nat.le_of_ble_eq_true rfl) dX0_play_50 rfl hn (fun r23 z24 hf => ?_)
      refine V_istore (ls2 := [(4, .int r23), (0, .ref a0), (1, .ref a1), (2, .ref a2), (3, .int x3)]) dX0_play_53 (by decide) rfl ?_
      refine V_iload (j := 0) dX0_play_55 rfl ?_
      refine V_if_ne (tgt := 73) dX0_play_57 (by decide) (fun h28 => ?_) (fun h28 => ?_)
      · have hf := it_f h28 hf
        refine V_to [1, 2, 3, 4] rfl ?_
        exact vX0_play_J73 hn hk17 hf
      · have hf := it_t (Classical.not_not.mp h28) hf
        refine V_aload_n (j := 1) dX0_play_60 rfl rfl ?_
        refine V_getI fl_X0_28 rfl h7.1 h7.2 dX0_play_61 ?_
        refine V_iconst (v := (-1 : Int32)) dX0_play_64 (by decide) ?_
        refine V_icmp_ne (tgt := 73) dX0_play_65 (by decide) (fun h27 => ?_) (fun h27 => ?_)
        · have hf := it_f h27 hf
          refine V_to [1, 2, 3, 4] rfl ?_
          exact vX0_play_J73 hn hk17 hf
        · have hf := it_t (Classical.not_not.mp h27) hf
          refine V_aload_n (j := 1) dX0_play_68 rfl rfl ?_
          refine V_iload_n (j := 4) dX0_play_69 rfl rfl ?_
          refine V_putI fl_X0_28 rfl rfl rfl rfl h7.1 h7.2 dX0_play_70 ?_
          refine V_nz (fun z26 ez26 => ?_)
          have hf := hf z26 ez26
          refine V_to [1, 2, 3, 4] rfl ?_
          exact vX0_play_J73 hn hk17 hf
set_option maxRecDepth 100000 in
set_option maxHeartbeats 4000000 in
theorem vX0_play_L17 {E : gE} {n : Nat} {sh : Nat → Nat × Nat} {P : gS → Prop} (hn : gOK E n) : ∀ (N : Nat) (a0 : Nat) (a1 : Nat) (a2 : Nat) (x3 : Int32) (z : gS), wX0_play_L17 n sh P N a0 a1 a2 x3 z → V E (gR 5 0) gyX0_play 0 0 17 [(0, .ref a0), (1, .ref a1), (2, .ref a2), (3, .int x3)] [] n sh z (kN n sh P) := by
  intro N
  induction N with
  | zero => intro a0 a1 a2 x3 z hf; exact False.elim hf
  | succ N ih => intro a0 a1 a2 x3 z hf; exact vX0_play_B17 hn ih hf
def wX0_play (n : Nat) (sh : Nat → Nat × Nat) (a0 : Nat) (a1 : Nat) (a2 : Nat) (z : gS) (P : gS → Prop) : Prop := (oO n sh a2 6) ∧ (wX10_begin n sh a2 a1 z (fun (z2 : gS) => (oO n sh a0 0) ∧ (∀ z5 : gS, z5 = si z2 a0 4 (-1 : Int32) → (∀ z6 : gS, z6 = si z5 a0 5 (-1 : Int32) → ((∃ N, wX0_play_L17 n sh P N a0 a1 a2 (0 : Int32) z6))))))
set_option maxRecDepth 100000 in
set_option maxHeartbeats 4000000 in
theorem ctX0_play {E : gE} {n : Nat} {sh : Nat → Nat × Nat} {a0 : Nat} {a1 : Nat} {a2 : Nat} {z : gS} {P : gS → Prop} (hn : gOK E n) (hf : wX0_play n sh a0 a1 a2 z P) : VM E 5 0 gyX0_play [.ref a0, .ref a1, .ref a2] n sh z (kN n sh P) := by
  unfold wX0_play at hf
  refine VM.of (by decide +kernel) (Nat.le_of_ble_eq_true rfl) (fun _ _ _ h => h.2.2) ?_
  show V E (gR 5 0) gyX0_play 0 0 0 [(0, .ref a0), (1, .ref a1), (2, .ref a2)] [] n sh z (kN n sh P)
  refine V_aload_n (j := 2) dX0_play_0 rfl rfl ?_
  refine V_aload_n (j := 1) dX0_play_1 rfl rfl ?_
  obtain ⟨h3, hf⟩ := hf
  refine V_cVN (ctX10_begin hn hf) gc_X0_31 rfl h3.1 ⟨_, h3.2, by decide, rfl⟩ ⟨by decide, by decide, Nat.zero_le _, Nat.zero_le _⟩ (Nat.le_of_ble_eq_true rfl) dX0_play_2 rfl hn (fun z2 hf => ?_)
  refine V_aload_n (j := 0) dX0_play_5 rfl rfl ?_
  refine V_iconst (v := (-1 : Int32)) dX0_play_6 (by decide) ?_
  obtain ⟨h4, hf⟩ := hf
  refine V_putI fl_X0_25 rfl rfl rfl rfl h4.1 h4.2 dX0_play_7 ?_
  refine V_nz (fun z5 ez5 => ?_)
  have hf := hf z5 ez5
  refine V_aload_n (j := 0) dX0_play_10 rfl rfl ?_
  refine V_iconst (v := (-1 : Int32)) dX0_play_11 (by decide) ?_
  refine V_putI fl_X0_28 rfl rfl rfl rfl h4.1 h4.2 dX0_play_12 ?_
  refine V_nz (fun z6 ez6 => ?_)
  have hf := hf z6 ez6
  refine V_iconst (v := (0 : Int32)) dX0_play_15 (by decide) ?_
  refine V_istore_n (ls2 := [(3, .int (0 : Int32)), (0, .ref a0), (1, .ref a1), (2, .ref a2)]) dX0_play_16 rfl (by decide) rfl ?_
  obtain ⟨N, hf⟩ := hf
  refine V_to [1, 2, 3, 0] rfl ?_
  exact vX0_play_L17 hn N _ _ _ _ _ hf
