set_option maxRecDepth 100000 in
def wX9_init (n : Nat) (sh : Nat → Nat × Nat) (a0 : Nat) (z : gS) (P : Nat → (Nat → Nat × Nat) → gS → Prop) : Prop := ∀ q1 : Nat → Nat × Nat, q1 = va_up sh n (3, 1000) → (∀ z2 : gS, z2 = z0 z n → ((oO (n + 1) q1 a0 5) ∧ (∀ z4 : gS, z4 = sr z2 a0 0 (some n) → ((oO (n + 1) q1 a0 5) ∧ (∀ z6 : gS, z6 = si z4 a0 1 (0 : Int32) → ((oO (n + 1) q1 a0 5) ∧ (∀ z8 : gS, z8 = si z6 a0 2 (0 : Int32) → ((oO (n + 1) q1 a0 5) ∧ (∀ z10 : gS, z10 = si z8 a0 3 (0 : Int32) → ((oO (n + 1) q1 a0 5) ∧ (∀ z12 : gS, z12 = si z10 a0 4 (0 : Int32) → ((oO (n + 1) q1 a0 5) ∧ (∀ z14 : gS, z14 = si z12 a0 5 (0 : Int32) → ((oO (n + 1) q1 a0 5) ∧ (∀ z16 : gS, z16 = sl z14 a0 6 (0 : Int64) → ((oO (n + 1) q1 a0 5) ∧ (∀ z18 : gS, z18 = si z16 a0 7 (-1 : Int32) → ((oO (n + 1) q1 a0 5) ∧ (∀ z20 : gS, z20 = si z18 a0 8 (0 : Int32) → (P (n + 1) q1 z20))))))))))))))))))))
set_option maxRecDepth 100000 in
set_option maxHeartbeats 4000000 in
theorem ctX9_init {E : gE} {n : Nat} {sh : Nat → Nat × Nat} {a0 : Nat} {z : gS} {P : Nat → (Nat → Nat × Nat) → gS → Prop} (hn : gOK E n) (hao : gAO E) (hnb : n + 300 * 1 ≤ 1000000) (hf : wX9_init n sh a0 z P) : VM E 1 1 gyX9_init [.ref a0] n sh z (kA P) := by
  unfold wX9_init at hf
  refine VM.of (by decide +kernel) (Nat.le_of_ble_eq_true rfl) (fun _ _ _ h => by cases h.1) ?_
  show V E (gR 1 1) gyX9_init 1 0 0 [(0, .ref a0)] [] n sh z (kA P)
  refine V_aload_n (j := 0) dX9_init_0 rfl rfl ?_
  refine V_objInit ob_X9 obi obc ⟨by decide, by decide⟩ (Nat.le_of_ble_eq_true rfl) dX9_init_1 ?_
  refine V_aload_n (j := 0) dX9_init_4 rfl rfl ?_
  refine V_sipush (v := (1000 : Int32)) dX9_init_5 (by decide) ?_
  refine V_newa3 (N := 1000) (by decide) ar_3 (by decide) (by decide) (by decide) ⟨by decide, by decide⟩ (by omega) dX9_init_8 ?_
  refine V_nsh (fun q1 eq1 => ?_)
  have hf := hf q1 eq1
  refine V_nz (fun z2 ez2 => ?_)
  have hf := hf z2 ez2
  obtain ⟨h3, hf⟩ := hf
  refine V_putRF (ci := 5) (k := 0) (by decide) (by decide) fk_X9_11 rfl rfl rfl rfl (fun _ => rfl) (fun _ => rfl) h3.1 h3.2 dX9_init_10 ?_
  refine V_nz (fun z4 ez4 => ?_)
  have hf := hf z4 ez4
  refine V_aload_n (j := 0) dX9_init_13 rfl rfl ?_
  refine V_iconst (v := (0 : Int32)) dX9_init_14 (by decide) ?_
  obtain ⟨h5, hf⟩ := hf
  refine V_putI fl_X9_15 rfl rfl rfl rfl h5.1 h5.2 dX9_init_15 ?_
  refine V_nz (fun z6 ez6 => ?_)
  have hf := hf z6 ez6
  refine V_aload_n (j := 0) dX9_init_18 rfl rfl ?_
  refine V_iconst (v := (0 : Int32)) dX9_init_19 (by decide) ?_
  obtain ⟨h7, hf⟩ := hf
  refine V_putI fl_X9_19 rfl rfl rfl rfl h7.1 h7.2 dX9_init_20 ?_
  refine V_nz (fun z8 ez8 => ?_)
  have hf := hf z8 ez8
  refine V_aload_n (j := 0) dX9_init_23 rfl rfl ?_
  refine V_iconst (v := (0 : Int32)) dX9_init_24 (by decide) ?_
  obtain ⟨h9, hf⟩ := hf
  refine V_putI fl_X9_22 rfl rfl rfl rfl h9.1 h9.2 dX9_init_25 ?_
  refine V_nz (fun z10 ez10 => ?_)
  have hf := hf z10 ez10
  refine V_aload_n (j := 0) dX9_init_28 rfl rfl ?_
  refine V_iconst (v := (0 : Int32)) dX9_init_29 (by decide) ?_
  obtain ⟨h11, hf⟩ := hf
  refine V_putI fl_X9_25 rfl rfl rfl rfl h11.1 h11.2 dX9_init_30 ?_
  refine V_nz (fun z12 ez12 => ?_)
  have hf := hf z12 ez12
  refine V_aload_n (j := 0) dX9_init_33 rfl rfl ?_
  refine V_iconst (v := (0 : Int32)) dX9_init_34 (by decide) ?_
  obtain ⟨h13, hf⟩ := hf
  refine V_putI fl_X9_28 rfl rfl rfl rfl h13.1 h13.2 dX9_init_35 ?_
  refine V_nz (fun z14 ez14 => ?_)
  have hf := hf z14 ez14
  refine V_aload_n (j := 0) dX9_init_38 rfl rfl ?_
  refine V_lconst (v := (0 : Int64)) dX9_init_39 (by decide) ?_
  obtain ⟨h15, hf⟩ := hf
  refine V_putL fl_X9_31 rfl rfl rfl rfl h15.1 h15.2 dX9_init_40 ?_
  refine V_nz (fun z16 ez16 => ?_)
  have hf := hf z16 ez16
  refine V_aload_n (j := 0) dX9_init_43 rfl rfl ?_
  refine V_iconst (v := (-1 : Int32)) dX9_init_44 (by decide) ?_
  obtain ⟨h17, hf⟩ := hf
  refine V_putI fl_X9_35 rfl rfl rfl rfl h17.1 h17.2 dX9_init_45 ?_
  refine V_nz (fun z18 ez18 => ?_)
  have hf := hf z18 ez18
  refine V_aload_n (j := 0) dX9_init_48 rfl rfl ?_
  refine V_iconst (v := (0 : Int32)) dX9_init_49 (by decide) ?_
  obtain ⟨h19, hf⟩ := hf
  refine V_putI fl_X9_38 rfl rfl rfl rfl h19.1 h19.2 dX9_init_50 ?_
  refine V_nz (fun z20 ez20 => ?_)
  have hf := hf z20 ez20
  exact V_return dX9_init_53 rfl (by decide) ⟨rfl, hf⟩
set_option maxRecDepth 100000 in
def wX10_init (n : Nat) (sh : Nat → Nat × Nat) (a0 : Nat) (z : gS) (P : Nat → (Nat → Nat × Nat) → gS → Prop) : Prop := (oO n sh a0 6) ∧ (∀ z2 : gS, z2 = si z a0 0 (0 : Int32) → ((oO n sh a0 6) ∧ (∀ z4 : gS, z4 = si z2 a0 1 (0 : Int32) → ((oO n sh a0 6) ∧ (∀ z6 : gS, z6 = si z4 a0 2 (0 : Int32) → ((oO n sh a0 6) ∧ (∀ z8 : gS, z8 = si z6 a0 3 (0 : Int32) → ((oO n sh a0 6) ∧ (∀ z10 : gS, z10 = si z8 a0 4 (0 : Int32) → (∀ q11 : Nat → Nat × Nat, q11 = va_up sh n (1, 5) → (∀ z12 : gS, z12 = z0 z10 n → ((oO (n + 1) q11 a0 6) ∧ (∀ z14 : gS, z14 = sr z12 a0 5 (some n) → (∀ q15 : Nat → Nat × Nat, q15 = va_up q11 (n + 1) (1, 6) → (∀ z16 : gS, z16 = z0 z14 (n + 1) → ((oO (n + 2) q15 a0 6) ∧ (∀ z18 : gS, z18 = sr z16 a0 6 (some (n + 1)) → (∀ q19 : Nat → Nat × Nat, q19 = va_up q15 (n + 2) (1, 36) → (∀ z20 : gS, z20 = z0 z18 (n + 2) → ((oO (n + 3) q19 a0 6) ∧ (∀ z22 : gS, z22 = sr z20 a0 7 (some (n + 2)) → (P (n + 3) q19 z22))))))))))))))))))))))
set_option maxRecDepth 100000 in
set_option maxHeartbeats 4000000 in
theorem ctX10_init {E : gE} {n : Nat} {sh : Nat → Nat × Nat} {a0 : Nat} {z : gS} {P : Nat → (Nat → Nat × Nat) → gS → Prop} (hn : gOK E n) (hao : gAO E) (hnb : n + 300 * 1 ≤ 1000000) (hf : wX10_init n sh a0 z P) : VM E 1 3 gyX10_init [.ref a0] n sh z (kA P) := by
  unfold wX10_init at hf
  refine VM.of (by decide +kernel) (Nat.le_of_ble_eq_true rfl) (fun _ _ _ h => by cases h.1) ?_
  show V E (gR 1 3) gyX10_init 3 0 0 [(0, .ref a0)] [] n sh z (kA P)
  refine V_aload_n (j := 0) dX10_init_0 rfl rfl ?_
  refine V_objInit ob_X10 obi obc ⟨by decide, by decide⟩ (Nat.le_of_ble_eq_true rfl) dX10_init_1 ?_
  refine V_aload_n (j := 0) dX10_init_4 rfl rfl ?_
  refine V_iconst (v := (0 : Int32)) dX10_init_5 (by decide) ?_
  obtain ⟨h1, hf⟩ := hf
  refine V_putI fl_X10_11 rfl rfl rfl rfl h1.1 h1.2 dX10_init_6 ?_
  refine V_nz (fun z2 ez2 => ?_)
  have hf := hf z2 ez2
  refine V_aload_n (j := 0) dX10_init_9 rfl rfl ?_
  refine V_iconst (v := (0 : Int32)) dX10_init_10 (by decide) ?_
  obtain ⟨h3, hf⟩ := hf
  refine V_putI fl_X10_15 rfl rfl rfl rfl h3.1 h3.2 dX10_init_11 ?_
  refine V_nz (fun z4 ez4 => ?_)
  have hf := hf z4 ez4
  refine V_aload_n (j := 0) dX10_init_14 rfl rfl ?_
  refine V_iconst (v := (0 : Int32)) dX10_init_15 (by decide) ?_
  obtain ⟨h5, hf⟩ := hf
  refine V_putI fl_X10_18 rfl rfl rfl rfl h5.1 h5.2 dX10_init_16 ?_
  refine V_nz (fun z6 ez6 => ?_)
  have hf := hf z6 ez6
  refine V_aload_n (j := 0) dX10_init_19 rfl rfl ?_
  refine V_iconst (v := (0 : Int32)) dX10_init_20 (by decide) ?_
  obtain ⟨h7, hf⟩ := hf
  refine V_putI fl_X10_21 rfl rfl rfl rfl h7.1 h7.2 dX10_init_21 ?_
  refine V_nz (fun z8 ez8 => ?_)
  have hf := hf z8 ez8
  refine V_aload_n (j := 0) dX10_init_24 rfl rfl ?_
  refine V_iconst (v := (0 : Int32)) dX10_init_25 (by decide) ?_
  obtain ⟨h9, hf⟩ := hf
  refine V_putI fl_X10_24 rfl rfl rfl rfl h9.1 h9.2 dX10_init_26 ?_
  refine V_nz (fun z10 ez10 => ?_)
  have hf := hf z10 ez10
  refine V_aload_n (j := 0) dX10_init_29 rfl rfl ?_
  refine V_iconst (v := (5 : Int32)) dX10_init_30 (by decide) ?_
  refine V_newa1 (N := 5) (by decide) ar_1 (by decide) (by decide) (by decide) ⟨by decide, by decide⟩ (by omega) dX10_init_31 ?_
  refine V_nsh (fun q11 eq11 => ?_)
  have hf := hf q11 eq11
  refine V_nz (fun z12 ez12 => ?_)
  have hf := hf z12 ez12
  obtain ⟨h13, hf⟩ := hf
  refine V_putRF (ci := 6) (k := 5) (by decide) (by decide) fk_X10_27 rfl rfl rfl rfl (fun _ => rfl) (fun _ => rfl) h13.1 h13.2 dX10_init_33 ?_
  refine V_nz (fun z14 ez14 => ?_)
  have hf := hf z14 ez14
  refine V_aload_n (j := 0) dX10_init_36 rfl rfl ?_
  refine V_bipush (v := (6 : Int32)) dX10_init_37 (by decide) ?_
  refine V_newa1 (N := 6) (by decide) ar_1 (by decide) (by decide) (by decide) ⟨by decide, by decide⟩ (by omega) dX10_init_39 ?_
  refine V_nsh (fun q15 eq15 => ?_)
  have hf := hf q15 eq15
  refine V_nz (fun z16 ez16 => ?_)
  have hf := hf z16 ez16
  obtain ⟨h17, hf⟩ := hf
  refine V_putRF (ci := 6) (k := 6) (by decide) (by decide) fk_X10_31 rfl rfl rfl rfl (fun _ => rfl) (fun _ => rfl) h17.1 h17.2 dX10_init_41 ?_
  refine V_nz (fun z18 ez18 => ?_)
  have hf := hf z18 ez18
  refine V_aload_n (j := 0) dX10_init_44 rfl rfl ?_
  refine V_bipush (v := (36 : Int32)) dX10_init_45 (by decide) ?_
  refine V_newa1 (N := 36) (by decide) ar_1 (by decide) (by decide) (by decide) ⟨by decide, by decide⟩ (by omega) dX10_init_47 ?_
  refine V_nsh (fun q19 eq19 => ?_)
  have hf := hf q19 eq19
  refine V_nz (fun z20 ez20 => ?_)
  have hf := hf z20 ez20
  obtain ⟨h21, hf⟩ := hf
  refine V_putRF (ci := 6) (k := 7) (by decide) (by decide) fk_X10_34 rfl rfl rfl rfl (fun _ => rfl) (fun _ => rfl) h21.1 h21.2 dX10_init_49 ?_
  refine V_nz (fun z22 ez22 => ?_)
  have hf := hf z22 ez22
  exact V_return dX10_init_52 rfl (by decide) ⟨rfl, hf⟩
set_option maxRecDepth 100000 in
def wX4_init (n : Nat) (sh : Nat → Nat × Nat) (a0 : Nat) (z : gS) (P : Nat → (Nat → Nat × Nat) → gS → Prop) : Prop := ∀ q1 : Nat → Nat × Nat, q1 = va_up sh n (5, 16) → (∀ z2 : gS, z2 = z0 z n → ((oO (n + 1) q1 a0 2) ∧ (∀ z4 : gS, z4 = sr z2 a0 0 (some n) → ((oO (n + 1) q1 a0 2) ∧ (∀ z6 : gS, z6 = si z4 a0 1 (0 : Int32) → ((oO (n + 1) q1 a0 2) ∧ (∀ z8 : gS, z8 = si z6 a0 2 (0 : Int32) → ((oO (n + 1) q1 a0 2) ∧ (∃ t10 : Nat, gr z8 a0 0 = some t10 ∧ (∀ q11 : Nat → Nat × Nat, q11 = va_up q1 (n + 1) (0, 6) → (∀ z12 : gS, z12 = z0 z8 (n + 1) → (wX10_init (n + 2) q11 (n + 1) z12 (fun (n13 : Nat) (q14 : Nat → Nat × Nat) (z15 : gS) => (n13 = (n + 2) + 3) ∧ ((oA (n + 5) q14 t10 5) ∧ ((vp_in (0 : Int32) (q14 t10).2) ∧ ((oO (n + 5) q14 (n + 1) 6) ∧ (∀ z19 : gS, z19 = sr z15 t10 (0 : Int32).toNatClampNeg (some (n + 1)) → ((oO (n + 5) q14 a0 2) ∧ (∃ t21 : Nat, gr z19 a0 0 = some t21 ∧ (∀ q22 : Nat → Nat × Nat, q22 = va_up q14 (n + 5) (0, 6) → (∀ z23 : gS, z23 = z0 z19 (n + 5) → (wX10_init (n + 6) q22 (n + 5) z23 (fun (n24 : Nat) (q25 : Nat → Nat × Nat) (z26 : gS) => (n24 = (n + 6) + 3) ∧ ((oA (n + 9) q25 t21 5) ∧ ((vp_in (1 : Int32) (q25 t21).2) ∧ ((oO (n + 9) q25 (n + 5) 6) ∧ (∀ z30 : gS, z30 = sr z26 t21 (1 : Int32).toNatClampNeg (some (n + 5)) → ((oO (n + 9) q25 a0 2) ∧ (∃ t32 : Nat, gr z30 a0 0 = some t32 ∧ (∀ q33 : Nat → Nat × Nat, q33 = va_up q25 (n + 9) (0, 6) → (∀ z34 : gS, z34 = z0 z30 (n + 9) → (wX10_init (n + 10) q33 (n + 9) z34 (fun (n35 : Nat) (q36 : Nat → Nat × Nat) (z37 : gS) => (n35 = (n + 10) + 3) ∧ ((oA (n + 13) q36 t32 5) ∧ ((vp_in (2 : Int32) (q36 t32).2) ∧ ((oO (n + 13) q36 (n + 9) 6) ∧ (∀ z41 : gS, z41 = sr z37 t32 (2 : Int32).toNatClampNeg (some (n + 9)) → ((oO (n + 13) q36 a0 2) ∧ (∃ t43 : Nat, gr z41 a0 0 = some t43 ∧ (∀ q44 : Nat → Nat × Nat, q44 = va_up q36 (n + 13) (0, 6) → (∀ z45 : gS, z45 = z0 z41 (n + 13) → (wX10_init (n + 14) q44 (n + 13) z45 (fun (n46 : Nat) (q47 : Nat → Nat × Nat) (z48 : gS) => (n46 = (n + 14) + 3) ∧ ((oA (n + 17) q47 t43 5) ∧ ((vp_in (3 : Int32) (q47 t43).2) ∧ ((oO (n + 17) q47 (n + 13) 6) ∧ (∀ z52 : gS, z52 = sr z48 t43 (3 : Int32).toNatClampNeg (some (n + 13)) → ((oO (n + 17) q47 a0 2) ∧ (∃ t54 : Nat, gr z52 a0 0 = some t54 ∧ (∀ q55 : Nat → Nat × Nat, q55 = va_up q47 (n + 17) (0, 6) → (∀ z56 : gS, z56 = z0 z52 (n + 17) → (wX10_init (n + 18) q55 (n + 17) z56 (fun (n57 : Nat) (q58 : Nat → Nat × Nat) (z59 : gS) => (n57 = (n + 18) + 3) ∧ ((oA (n + 21) q58 t54 5) ∧ ((vp_in (4 : Int32) (q58 t54).2) ∧ ((oO (n + 21) q58 (n + 17) 6) ∧ (∀ z63 : gS, z63 = sr z59 t54 (4 : Int32).toNatClampNeg (some (n + 17)) → ((oO (n + 21) q58 a0 2) ∧ (∃ t65 : Nat, gr z63 a0 0 = some t65 ∧ (∀ q66 : Nat → Nat × Nat, q66 = va_up q58 (n + 21) (0, 6) → (∀ z67 : gS, z67 = z0 z63 (n + 21) → (wX10_init (n + 22) q66 (n + 21) z67 (fun (n68 : Nat) (q69 : Nat → Nat × Nat) (z70 : gS) => (n68 = (n + 22) + 3) ∧ ((oA (n + 25) q69 t65 5) ∧ ((vp_in (5 : Int32) (q69 t65).2) ∧ ((oO (n + 25) q69 (n + 21) 6) ∧ (∀ z74 : gS, z74 = sr z70 t65 (5 : Int32).toNatClampNeg (some (n + 21)) → ((oO (n + 25) q69 a0 2) ∧ (∃ t76 : Nat, gr z74 a0 0 = some t76 ∧ (∀ q77 : Nat → Nat × Nat, q77 = va_up q69 (n + 25) (0, 6) → (∀ z78 : gS, z78 = z0 z74 (n + 25) → (wX10_init (n + 26) q77 (n + 25) z78 (fun (n79 : Nat) (q80 : Nat → Nat × Nat) (z81 : gS) => (n79 = (n + 26) + 3) ∧ ((oA (n + 29) q80 t76 5) ∧ ((vp_in (6 : Int32) (q80 t76).2) ∧ ((oO (n + 29) q80 (n + 25) 6) ∧ (∀ z85 : gS, z85 = sr z81 t76 (6 : Int32).toNatClampNeg (some (n + 25)) → ((oO (n + 29) q80 a0 2) ∧ (∃ t87 : Nat, gr z85 a0 0 = some t87 ∧ (∀ q88 : Nat → Nat × Nat, q88 = va_up q80 (n + 29) (0, 6) → (∀ z89 : gS, z89 = z0 z85 (n + 29) → (wX10_init (n + 30) q88 (n + 29) z89 (fun (n90 : Nat) (q91 : Nat → Nat × Nat) (z92 : gS) => (n90 = (n + 30) + 3) ∧ ((oA (n + 33) q91 t87 5) ∧ ((vp_in (7 : Int32) (q91 t87).2) ∧ ((oO (n + 33) q91 (n + 29) 6) ∧ (∀ z96 : gS, z96 = sr z92 t87 (7 : Int32).toNatClampNeg (some (n + 29)) → ((oO (n + 33) q91 a0 2) ∧ (∃ t98 : Nat, gr z96 a0 0 = some t98 ∧ (∀ q99 : Nat → Nat × Nat, q99 = va_up q91 (n + 33) (0, 6) → (∀ z100 : gS, z100 = z0 z96 (n + 33) → (wX10_init (n + 34) q99 (n + 33) z100 (fun (n101 : Nat) (q102 : Nat → Nat × Nat) (z103 : gS) => (n101 = (n + 34) + 3) ∧ ((oA (n + 37) q102 t98 5) ∧ ((vp_in (8 : Int32) (q102 t98).2) ∧ ((oO (n + 37) q102 (n + 33) 6) ∧ (∀ z107 : gS, z107 = sr z103 t98 (8 : Int32).toNatClampNeg (some (n + 33)) → ((oO (n + 37) q102 a0 2) ∧ (∃ t109 : Nat, gr z107 a0 0 = some t109 ∧ (∀ q110 : Nat → Nat × Nat, q110 = va_up q102 (n + 37) (0, 6) → (∀ z111 : gS, z111 = z0 z107 (n + 37) → (wX10_init (n + 38) q110 (n + 37) z111 (fun (n112 : Nat) (q113 : Nat → Nat × Nat) (z114 : gS) => (n112 = (n + 38) + 3) ∧ ((oA (n + 41) q113 t109 5) ∧ ((vp_in (9 : Int32) (q113 t109).2) ∧ ((oO (n + 41) q113 (n + 37) 6) ∧ (∀ z118 : gS, z118 = sr z114 t109 (9 : Int32).toNatClampNeg (some (n + 37)) → ((oO (n + 41) q113 a0 2) ∧ (∃ t120 : Nat, gr z118 a0 0 = some t120 ∧ (∀ q121 : Nat → Nat × Nat, q121 = va_up q113 (n + 41) (0, 6) → (∀ z122 : gS, z122 = z0 z118 (n + 41) → (wX10_init (n + 42) q121 (n + 41) z122 (fun (n123 : Nat) (q124 : Nat → Nat × Nat) (z125 : gS) => (n123 = (n + 42) + 3) ∧ ((oA (n + 45) q124 t120 5) ∧ ((vp_in (10 : Int32) (q124 t120).2) ∧ ((oO (n + 45) q124 (n + 41) 6) ∧ (∀ z129 : gS, z129 = sr z125 t120 (10 : Int32).toNatClampNeg (some (n + 41)) → ((oO (n + 45) q124 a0 2) ∧ (∃ t131 : Nat, gr z129 a0 0 = some t131 ∧ (∀ q132 : Nat → Nat × Nat, q132 = va_up q124 (n + 45) (0, 6) → (∀ z133 : gS, z133 = z0 z129 (n + 45) → (wX10_init (n + 46) q132 (n + 45) z133 (fun (n134 : Nat) (q135 : Nat → Nat × Nat) (z136 : gS) => (n134 = (n + 46) + 3) ∧ ((oA (n + 49) q135 t131 5) ∧ ((vp_in (11 : Int32) (q135 t131).2) ∧ ((oO (n + 49) q135 (n + 45) 6) ∧ (∀ z140 : gS, z140 = sr z136 t131 (11 : Int32).toNatClampNeg (some (n + 45)) → ((oO (n + 49) q135 a0 2) ∧ (∃ t142 : Nat, gr z140 a0 0 = some t142 ∧ (∀ q143 : Nat → Nat × Nat, q143 = va_up q135 (n + 49) (0, 6) → (∀ z144 : gS, z144 = z0 z140 (n + 49) → (wX10_init (n + 50) q143 (n + 49) z144 (fun (n145 : Nat) (q146 : Nat → Nat × Nat) (z147 : gS) => (n145 = (n + 50) + 3) ∧ ((oA (n + 53) q146 t142 5) ∧ ((vp_in (12 : Int32) (q146 t142).2) ∧ ((oO (n + 53) q146 (n + 49) 6) ∧ (∀ z151 : gS, z151 = sr z147 t142 (12 : Int32).toNatClampNeg (some (n + 49)) → ((oO (n + 53) q146 a0 2) ∧ (∃ t153 : Nat, gr z151 a0 0 = some t153 ∧ (∀ q154 : Nat → Nat × Nat, q154 = va_up q146 (n + 53) (0, 6) → (∀ z155 : gS, z155 = z0 z151 (n + 53) → (wX10_init (n + 54) q154 (n + 53) z155 (fun (n156 : Nat) (q157 : Nat → Nat × Nat) (z158 : gS) => (n156 = (n + 54) + 3) ∧ ((oA (n + 57) q157 t153 5) ∧ ((vp_in (13 : Int32) (q157 t153).2) ∧ ((oO (n + 57) q157 (n + 53) 6) ∧ (∀ z162 : gS, z162 = sr z158 t153 (13 : Int32).toNatClampNeg (some (n + 53)) → ((oO (n + 57) q157 a0 2) ∧ (∃ t164 : Nat, gr z162 a0 0 = some t164 ∧ (∀ q165 : Nat → Nat × Nat, q165 = va_up q157 (n + 57) (0, 6) → (∀ z166 : gS, z166 = z0 z162 (n + 57) → (wX10_init (n + 58) q165 (n + 57) z166 (fun (n167 : Nat) (q168 : Nat → Nat × Nat) (z169 : gS) => (n167 = (n + 58) + 3) ∧ ((oA (n + 61) q168 t164 5) ∧ ((vp_in (14 : Int32) (q168 t164).2) ∧ ((oO (n + 61) q168 (n + 57) 6) ∧ (∀ z173 : gS, z173 = sr z169 t164 (14 : Int32).toNatClampNeg (some (n + 57)) → ((oO (n + 61) q168 a0 2) ∧ (∃ t175 : Nat, gr z173 a0 0 = some t175 ∧ (∀ q176 : Nat → Nat × Nat, q176 = va_up q168 (n + 61) (0, 6) → (∀ z177 : gS, z177 = z0 z173 (n + 61) → (wX10_init (n + 62) q176 (n + 61) z177 (fun (n178 : Nat) (q179 : Nat → Nat × Nat) (z180 : gS) => (n178 = (n + 62) + 3) ∧ ((oA (n + 65) q179 t175 5) ∧ ((vp_in (15 : Int32) (q179 t175).2) ∧ ((oO (n + 65) q179 (n + 61) 6) ∧ (∀ z184 : gS, z184 = sr z180 t175 (15 : Int32).toNatClampNeg (some (n + 61)) → (P (n + 65) q179 z184))))))))))))))))))))))))))))))))))))))))))))))))))))))))))))))))))))))))))))))))))))))))))))))))))))))))))))))))))))))))))))))))))))))))))))))))))))))))))))))))))))))))
set_option maxRecDepth 100000 in
set_option maxHeartbeats 4000000 in
theorem ctX4_init {E : gE} {n : Nat} {sh : Nat → Nat × Nat} {a0 : Nat} {z : gS} {P : Nat → (Nat → Nat × Nat) → gS → Prop} (hn : gOK E n) (hao : gAO E) (hnb : n + 300 * 2 ≤ 1000000) (hf : wX4_init n sh a0 z P) : VM E 2 65 gyX4_init [.ref a0] n sh z (kA P) := by
  unfold wX4_init at hf
  refine VM.of (by decide +kernel) (Nat.le_of_ble_eq_true rfl) (fun _ _ _ h => by cases h.1) ?_
  show V E (gR 2 65) gyX4_init 65 0 0 [(0, .ref a0)] [] n sh z (kA P)
  refine V_aload_n (j := 0) dX4_init_0 rfl rfl ?_
  refine V_objInit ob_X4 obi obc ⟨by decide, by decide⟩ (Nat.le_of_ble_eq_true rfl) dX4_init_1 ?_
  refine V_aload_n (j := 0) dX4_init_4 rfl rfl ?_
  refine V_bipush (v := (16 : Int32)) dX4_init_5 (by decide) ?_
  refine V_newaW (N := 16) hao (by decide) cl_X4_9 (by decide) (by decide) (by decide) ⟨by decide, by decide⟩ (by omega) dX4_init_7 ?_
  refine V_nsh (fun q1 eq1 => ?_)
  have hf := hf q1 eq1
  refine V_nz (fun z2 ez2 => ?_)
  have hf := hf z2 ez2
  obtain ⟨h3, hf⟩ := hf
  refine V_putRF (ci := 2) (k := 0) (by decide) (by decide) fk_X4_11 rfl rfl rfl rfl (fun _ => rfl) (fun _ => rfl) h3.1 h3.2 dX4_init_10 ?_
  refine V_nz (fun z4 ez4 => ?_)
  have hf := hf z4 ez4
  refine V_aload_n (j := 0) dX4_init_13 rfl rfl ?_
  refine V_iconst (v := (0 : Int32)) dX4_init_14 (by decide) ?_
  obtain ⟨h5, hf⟩ := hf
  refine V_putI fl_X4_15 rfl rfl rfl rfl h5.1 h5.2 dX4_init_15 ?_
  refine V_nz (fun z6 ez6 => ?_)
  have hf := hf z6 ez6
  refine V_aload_n (j := 0) dX4_init_18 rfl rfl ?_
  refine V_iconst (v := (0 : Int32)) dX4_init_19 (by decide) ?_
  obtain ⟨h7, hf⟩ := hf
  refine V_putI fl_X4_19 rfl rfl rfl rfl h7.1 h7.2 dX4_init_20 ?_
  refine V_nz (fun z8 ez8 => ?_)
  have hf := hf z8 ez8
  refine V_iconst (v := (0 : Int32)) dX4_init_23 (by decide) ?_
  refine V_istore_n (ls2 := [(1, .int (0 : Int32)), (0, .ref a0)]) dX4_init_24 rfl (by decide) rfl ?_
  refine V_iload_n (j := 0) dX4_init_25 rfl rfl ?_
  refine V_bipush (v := (16 : Int32)) dX4_init_26 (by decide) ?_
  refine V_icmp_ge (tgt := 50) dX4_init_28 (by decide) (fun h => absurd h (by decide)) (fun _ => ?_)
  refine V_aload_n (j := 1) dX4_init_31 rfl rfl ?_
  obtain ⟨h9, hf⟩ := hf
  obtain ⟨t10, et10, hf⟩ := hf
  refine V_getR fl_X4_11 rfl h9.1 h9.2 et10 dX4_init_32 ?_
  refine V_iload_n (j := 0) dX4_init_35 rfl rfl ?_
  refine V_new (ci := 6) (by decide) (by decide) cl_X4_9 in_6 iz_6 df_6 (by decide) ⟨by decide, by decide⟩ (by omega) dX4_init_36 ?_
  refine V_nsh (fun q11 eq11 => ?_)
  have hf := hf q11 eq11
  refine V_nz (fun z12 ez12 => ?_)
  have hf := hf z12 ez12
  refine V_dup dX4_init_39 rfl ?_
  refine V_callI (mc1 := 3) (av := []) (ctX10_init (n := (n + 2)) ⟨by omega, hn.2⟩ hao (by omega) hf) gk_X4_22 rfl ⟨by decide, by decide, by decide, by decide⟩ (Nat.le_of_ble_eq_true rfl) (by decide) dX4_init_40 (fun r n13 q14 z15 hf => ?_)
  obtain ⟨hr, en13, hf⟩ := hf
  subst hr
  refine ⟨by omega, fun _ => en13, ?_⟩
  subst en13
  show V E (gR 2 65) gyX4_init 65 5 43 [(1, .int (0 : Int32)), (0, .ref a0)] [.ref (n + 1), .int (0 : Int32), .ref t10] (n + 5) q14 z15 (kA P)
  obtain ⟨h16, hf⟩ := hf
  obtain ⟨h17, hf⟩ := hf
  obtain ⟨h18, hf⟩ := hf
  refine V_aast h16.1 h16.s h17 h18.1 h18.2 dX4_init_43 ?_
  refine V_nz (fun z19 ez19 => ?_)
  have hf := hf z19 ez19
  refine V_iinc (j := 0) (v := (1 : Int32)) (ls2 := [(1, .int (1 : Int32)), (0, .ref a0)]) dX4_init_44 rfl (by decide) (by decide) rfl ?_
  refine V_goto (tgt := 25) dX4_init_47 (by decide) ?_
  refine V_iload_n (j := 0) dX4_init_25 rfl rfl ?_
  refine V_bipush (v := (16 : Int32)) dX4_init_26 (by decide) ?_
  refine V_icmp_ge (tgt := 50) dX4_init_28 (by decide) (fun h => absurd h (by decide)) (fun _ => ?_)
  refine V_aload_n (j := 1) dX4_init_31 rfl rfl ?_
  obtain ⟨h20, hf⟩ := hf
  obtain ⟨t21, et21, hf⟩ := hf
  refine V_getR fl_X4_11 rfl h20.1 h20.2 et21 dX4_init_32 ?_
  refine V_iload_n (j := 0) dX4_init_35 rfl rfl ?_
  refine V_new (ci := 6) (by decide) (by decide) cl_X4_9 in_6 iz_6 df_6 (by decide) ⟨by decide, by decide⟩ (by omega) dX4_init_36 ?_
  refine V_nsh (fun q22 eq22 => ?_)
  have hf := hf q22 eq22
  refine V_nz (fun z23 ez23 => ?_)
  have hf := hf z23 ez23
  refine V_dup dX4_init_39 rfl ?_
  refine V_callI (mc1 := 3) (av := []) (ctX10_init (n := (n + 6)) ⟨by omega, hn.2⟩ hao (by omega) hf) gk_X4_22 rfl ⟨by decide, by decide, by decide, by decide⟩ (Nat.le_of_ble_eq_true rfl) (by decide) dX4_init_40 (fun r n24 q25 z26 hf => ?_)
  obtain ⟨hr, en24, hf⟩ := hf
  subst hr
  refine ⟨by omega, fun _ => en24, ?_⟩
  subst en24
  show V E (gR 2 65) gyX4_init 65 9 43 [(1, .int (1 : Int32)), (0, .ref a0)] [.ref (n + 5), .int (1 : Int32), .ref t21] (n + 9) q25 z26 (kA P)
  obtain ⟨h27, hf⟩ := hf
  obtain ⟨h28, hf⟩ := hf
  obtain ⟨h29, hf⟩ := hf
  refine V_aast h27.1 h27.s h28 h29.1 h29.2 dX4_init_43 ?_
  refine V_nz (fun z30 ez30 => ?_)
  have hf := hf z30 ez30
  refine V_iinc (j := 0) (v := (2 : Int32)) (ls2 := [(1, .int (2 : Int32)), (0, .ref a0)]) dX4_init_44 rfl (by decide) (by decide) rfl ?_
  refine V_goto (tgt := 25) dX4_init_47 (by decide) ?_
  refine V_iload_n (j := 0) dX4_init_25 rfl rfl ?_
  refine V_bipush (v := (16 : Int32)) dX4_init_26 (by decide) ?_
  refine V_icmp_ge (tgt := 50) dX4_init_28 (by decide) (fun h => absurd h (by decide)) (fun _ => ?_)
  refine V_aload_n (j := 1) dX4_init_31 rfl rfl ?_
  obtain ⟨h31, hf⟩ := hf
  obtain ⟨t32, et32, hf⟩ := hf
  refine V_getR fl_X4_11 rfl h31.1 h31.2 et32 dX4_init_32 ?_
  refine V_iload_n (j := 0) dX4_init_35 rfl rfl ?_
  refine V_new (ci := 6) (by decide) (by decide) cl_X4_9 in_6 iz_6 df_6 (by decide) ⟨by decide, by decide⟩ (by omega) dX4_init_36 ?_
  refine V_nsh (fun q33 eq33 => ?_)
  have hf := hf q33 eq33
  refine V_nz (fun z34 ez34 => ?_)
  have hf := hf z34 ez34
  refine V_dup dX4_init_39 rfl ?_
  refine V_callI (mc1 := 3) (av := []) (ctX10_init (n := (n + 10)) ⟨by omega, hn.2⟩ hao (by omega) hf) gk_X4_22 rfl ⟨by decide, by decide, by decide, by decide⟩ (Nat.le_of_ble_eq_true rfl) (by decide) dX4_init_40 (fun r n35 q36 z37 hf => ?_)
  obtain ⟨hr, en35, hf⟩ := hf
  subst hr
  refine ⟨by omega, fun _ => en35, ?_⟩
  subst en35
  show V E (gR 2 65) gyX4_init 65 13 43 [(1, .int (2 : Int32)), (0, .ref a0)] [.ref (n + 9), .int (2 : Int32), .ref t32] (n + 13) q36 z37 (kA P)
  obtain ⟨h38, hf⟩ := hf
  obtain ⟨h39, hf⟩ := hf
  obtain ⟨h40, hf⟩ := hf
  refine V_aast h38.1 h38.s h39 h40.1 h40.2 dX4_init_43 ?_
  refine V_nz (fun z41 ez41 => ?_)
  have hf := hf z41 ez41
  refine V_iinc (j := 0) (v := (3 : Int32)) (ls2 := [(1, .int (3 : Int32)), (0, .ref a0)]) dX4_init_44 rfl (by decide) (by decide) rfl ?_
  refine V_goto (tgt := 25) dX4_init_47 (by decide) ?_
  refine V_iload_n (j := 0) dX4_init_25 rfl rfl ?_
  refine V_bipush (v := (16 : Int32)) dX4_init_26 (by decide) ?_
  refine V_icmp_ge (tgt := 50) dX4_init_28 (by decide) (fun h => absurd h (by decide)) (fun _ => ?_)
  refine V_aload_n (j := 1) dX4_init_31 rfl rfl ?_
  obtain ⟨h42, hf⟩ := hf
  obtain ⟨t43, et43, hf⟩ := hf
  refine V_getR fl_X4_11 rfl h42.1 h42.2 et43 dX4_init_32 ?_
  refine V_iload_n (j := 0) dX4_init_35 rfl rfl ?_
  refine V_new (ci := 6) (by decide) (by decide) cl_X4_9 in_6 iz_6 df_6 (by decide) ⟨by decide, by decide⟩ (by omega) dX4_init_36 ?_
  refine V_nsh (fun q44 eq44 => ?_)
  have hf := hf q44 eq44
  refine V_nz (fun z45 ez45 => ?_)
  have hf := hf z45 ez45
  refine V_dup dX4_init_39 rfl ?_
  refine V_callI (mc1 := 3) (av := []) (ctX10_init (n := (n + 14)) ⟨by omega, hn.2⟩ hao (by omega) hf) gk_X4_22 rfl ⟨by decide, by decide, by decide, by decide⟩ (Nat.le_of_ble_eq_true rfl) (by decide) dX4_init_40 (fun r n46 q47 z48 hf => ?_)
  obtain ⟨hr, en46, hf⟩ := hf
  subst hr
  refine ⟨by omega, fun _ => en46, ?_⟩
  subst en46
  show V E (gR 2 65) gyX4_init 65 17 43 [(1, .int (3 : Int32)), (0, .ref a0)] [.ref (n + 13), .int (3 : Int32), .ref t43] (n + 17) q47 z48 (kA P)
  obtain ⟨h49, hf⟩ := hf
  obtain ⟨h50, hf⟩ := hf
  obtain ⟨h51, hf⟩ := hf
  refine V_aast h49.1 h49.s h50 h51.1 h51.2 dX4_init_43 ?_
  refine V_nz (fun z52 ez52 => ?_)
  have hf := hf z52 ez52
  refine V_iinc (j := 0) (v := (4 : Int32)) (ls2 := [(1, .int (4 : Int32)), (0, .ref a0)]) dX4_init_44 rfl (by decide) (by decide) rfl ?_
  refine V_goto (tgt := 25) dX4_init_47 (by decide) ?_
  refine V_iload_n (j := 0) dX4_init_25 rfl rfl ?_
  refine V_bipush (v := (16 : Int32)) dX4_init_26 (by decide) ?_
  refine V_icmp_ge (tgt := 50) dX4_init_28 (by decide) (fun h => absurd h (by decide)) (fun _ => ?_)
  refine V_aload_n (j := 1) dX4_init_31 rfl rfl ?_
  obtain ⟨h53, hf⟩ := hf
  obtain ⟨t54, et54, hf⟩ := hf
  refine V_getR fl_X4_11 rfl h53.1 h53.2 et54 dX4_init_32 ?_
  refine V_iload_n (j := 0) dX4_init_35 rfl rfl ?_
  refine V_new (ci := 6) (by decide) (by decide) cl_X4_9 in_6 iz_6 df_6 (by decide) ⟨by decide, by decide⟩ (by omega) dX4_init_36 ?_
  refine V_nsh (fun q55 eq55 => ?_)
  have hf := hf q55 eq55
  refine V_nz (fun z56 ez56 => ?_)
  have hf := hf z56 ez56
  refine V_dup dX4_init_39 rfl ?_
  refine V_callI (mc1 := 3) (av := []) (ctX10_init (n := (n + 18)) ⟨by omega, hn.2⟩ hao (by omega) hf) gk_X4_22 rfl ⟨by decide, by decide, by decide, by decide⟩ (Nat.le_of_ble_eq_true rfl) (by decide) dX4_init_40 (fun r n57 q58 z59 hf => ?_)
  obtain ⟨hr, en57, hf⟩ := hf
  subst hr
  refine ⟨by omega, fun _ => en57, ?_⟩
  subst en57
  show V E (gR 2 65) gyX4_init 65 21 43 [(1, .int (4 : Int32)), (0, .ref a0)] [.ref (n + 17), .int (4 : Int32), .ref t54] (n + 21) q58 z59 (kA P)
  obtain ⟨h60, hf⟩ := hf
  obtain ⟨h61, hf⟩ := hf
  obtain ⟨h62, hf⟩ := hf
  refine V_aast h60.1 h60.s h61 h62.1 h62.2 dX4_init_43 ?_
  refine V_nz (fun z63 ez63 => ?_)
  have hf := hf z63 ez63
  refine V_iinc (j := 0) (v := (5 : Int32)) (ls2 := [(1, .int (5 : Int32)), (0, .ref a0)]) dX4_init_44 rfl (by decide) (by decide) rfl ?_
  refine V_goto (tgt := 25) dX4_init_47 (by decide) ?_
  refine V_iload_n (j := 0) dX4_init_25 rfl rfl ?_
  refine V_bipush (v := (16 : Int32)) dX4_init_26 (by decide) ?_
  refine V_icmp_ge (tgt := 50) dX4_init_28 (by decide) (fun h => absurd h (by decide)) (fun _ => ?_)
  refine V_aload_n (j := 1) dX4_init_31 rfl rfl ?_
  obtain ⟨h64, hf⟩ := hf
  obtain ⟨t65, et65, hf⟩ := hf
  refine V_getR fl_X4_11 rfl h64.1 h64.2 et65 dX4_init_32 ?_
  refine V_iload_n (j := 0) dX4_init_35 rfl rfl ?_
  refine V_new (ci := 6) (by decide) (by decide) cl_X4_9 in_6 iz_6 df_6 (by decide) ⟨by decide, by decide⟩ (by omega) dX4_init_36 ?_
  refine V_nsh (fun q66 eq66 => ?_)
  have hf := hf q66 eq66
  refine V_nz (fun z67 ez67 => ?_)
  have hf := hf z67 ez67
  refine V_dup dX4_init_39 rfl ?_
  refine V_callI (mc1 := 3) (av := []) (ctX10_init (n := (n + 22)) ⟨by omega, hn.2⟩ hao (by omega) hf) gk_X4_22 rfl ⟨by decide, by decide, by decide, by decide⟩ (Nat.le_of_ble_eq_true rfl) (by decide) dX4_init_40 (fun r n68 q69 z70 hf => ?_)
  obtain ⟨hr, en68, hf⟩ := hf
  subst hr
  refine ⟨by omega, fun _ => en68, ?_⟩
  subst en68
  show V E (gR 2 65) gyX4_init 65 25 43 [(1, .int (5 : Int32)), (0, .ref a0)] [.ref (n + 21), .int (5 : Int32), .ref t65] (n + 25) q69 z70 (kA P)
  obtain ⟨h71, hf⟩ := hf
  obtain ⟨h72, hf⟩ := hf
  obtain ⟨h73, hf⟩ := hf
  refine V_aast h71.1 h71.s h72 h73.1 h73.2 dX4_init_43 ?_
  refine V_nz (fun z74 ez74 => ?_)
  have hf := hf z74 ez74
  refine V_iinc (j := 0) (v := (6 : Int32)) (ls2 := [(1, .int (6 : Int32)), (0, .ref a0)]) dX4_init_44 rfl (by decide) (by decide) rfl ?_
  refine V_goto (tgt := 25) dX4_init_47 (by decide) ?_
  refine V_iload_n (j := 0) dX4_init_25 rfl rfl ?_
  refine V_bipush (v := (16 : Int32)) dX4_init_26 (by decide) ?_
  refine V_icmp_ge (tgt := 50) dX4_init_28 (by decide) (fun h => absurd h (by decide)) (fun _ => ?_)
  refine V_aload_n (j := 1) dX4_init_31 rfl rfl ?_
  obtain ⟨h75, hf⟩ := hf
  obtain ⟨t76, et76, hf⟩ := hf
  refine V_getR fl_X4_11 rfl h75.1 h75.2 et76 dX4_init_32 ?_
  refine V_iload_n (j := 0) dX4_init_35 rfl rfl ?_
  refine V_new (ci := 6) (by decide) (by decide) cl_X4_9 in_6 iz_6 df_6 (by decide) ⟨by decide, by decide⟩ (by omega) dX4_init_36 ?_
  refine V_nsh (fun q77 eq77 => ?_)
  have hf := hf q77 eq77
  refine V_nz (fun z78 ez78 => ?_)
  have hf := hf z78 ez78
  refine V_dup dX4_init_39 rfl ?_
  refine V_callI (mc1 := 3) (av := []) (ctX10_init (n := (n + 26)) ⟨by omega, hn.2⟩ hao (by omega) hf) gk_X4_22 rfl ⟨by decide, by decide, by decide, by decide⟩ (Nat.le_of_ble_eq_true rfl) (by decide) dX4_init_40 (fun r n79 q80 z81 hf => ?_)
  obtain ⟨hr, en79, hf⟩ := hf
  subst hr
  refine ⟨by omega, fun _ => en79, ?_⟩
  subst en79
  show V E (gR 2 65) gyX4_init 65 29 43 [(1, .int (6 : Int32)), (0, .ref a0)] [.ref (n + 25), .int (6 : Int32), .ref t76] (n + 29) q80 z81 (kA P)
  obtain ⟨h82, hf⟩ := hf
  obtain ⟨h83, hf⟩ := hf
  obtain ⟨h84, hf⟩ := hf
  refine V_aast h82.1 h82.s h83 h84.1 h84.2 dX4_init_43 ?_
  refine V_nz (fun z85 ez85 => ?_)
  have hf := hf z85 ez85
  refine V_iinc (j := 0) (v := (7 : Int32)) (ls2 := [(1, .int (7 : Int32)), (0, .ref a0)]) dX4_init_44 rfl (by decide) (by decide) rfl ?_
  refine V_goto (tgt := 25) dX4_init_47 (by decide) ?_
  refine V_iload_n (j := 0) dX4_init_25 rfl rfl ?_
  refine V_bipush (v := (16 : Int32)) dX4_init_26 (by decide) ?_
  refine V_icmp_ge (tgt := 50) dX4_init_28 (by decide) (fun h => absurd h (by decide)) (fun _ => ?_)
  refine V_aload_n (j := 1) dX4_init_31 rfl rfl ?_
  obtain ⟨h86, hf⟩ := hf
  obtain ⟨t87, et87, hf⟩ := hf
  refine V_getR fl_X4_11 rfl h86.1 h86.2 et87 dX4_init_32 ?_
  refine V_iload_n (j := 0) dX4_init_35 rfl rfl ?_
  refine V_new (ci := 6) (by decide) (by decide) cl_X4_9 in_6 iz_6 df_6 (by decide) ⟨by decide, by decide⟩ (by omega) dX4_init_36 ?_
  refine V_nsh (fun q88 eq88 => ?_)
  have hf := hf q88 eq88
  refine V_nz (fun z89 ez89 => ?_)
  have hf := hf z89 ez89
  refine V_dup dX4_init_39 rfl ?_
  refine V_callI (mc1 := 3) (av := []) (ctX10_init (n := (n + 30)) ⟨by omega, hn.2⟩ hao (by omega) hf) gk_X4_22 rfl ⟨by decide, by decide, by decide, by decide⟩ (Nat.le_of_ble_eq_true rfl) (by decide) dX4_init_40 (fun r n90 q91 z92 hf => ?_)
  obtain ⟨hr, en90, hf⟩ := hf
  subst hr
  refine ⟨by omega, fun _ => en90, ?_⟩
  subst en90
  show V E (gR 2 65) gyX4_init 65 33 43 [(1, .int (7 : Int32)), (0, .ref a0)] [.ref (n + 29), .int (7 : Int32), .ref t87] (n + 33) q91 z92 (kA P)
  obtain ⟨h93, hf⟩ := hf
  obtain ⟨h94, hf⟩ := hf
  obtain ⟨h95, hf⟩ := hf
  refine V_aast h93.1 h93.s h94 h95.1 h95.2 dX4_init_43 ?_
  refine V_nz (fun z96 ez96 => ?_)
  have hf := hf z96 ez96
  refine V_iinc (j := 0) (v := (8 : Int32)) (ls2 := [(1, .int (8 : Int32)), (0, .ref a0)]) dX4_init_44 rfl (by decide) (by decide) rfl ?_
  refine V_goto (tgt := 25) dX4_init_47 (by decide) ?_
  refine V_iload_n (j := 0) dX4_init_25 rfl rfl ?_
  refine V_bipush (v := (16 : Int32)) dX4_init_26 (by decide) ?_
  refine V_icmp_ge (tgt := 50) dX4_init_28 (by decide) (fun h => absurd h (by decide)) (fun _ => ?_)
  refine V_aload_n (j := 1) dX4_init_31 rfl rfl ?_
  obtain ⟨h97, hf⟩ := hf
  obtain ⟨t98, et98, hf⟩ := hf
  refine V_getR fl_X4_11 rfl h97.1 h97.2 et98 dX4_init_32 ?_
  refine V_iload_n (j := 0) dX4_init_35 rfl rfl ?_
  refine V_new (ci := 6) (by decide) (by decide) cl_X4_9 in_6 iz_6 df_6 (by decide) ⟨by decide, by decide⟩ (by omega) dX4_init_36 ?_
  refine V_nsh (fun q99 eq99 => ?_)
  have hf := hf q99 eq99
  refine V_nz (fun z100 ez100 => ?_)
  have hf := hf z100 ez100
  refine V_dup dX4_init_39 rfl ?_
  refine V_callI (mc1 := 3) (av := []) (ctX10_init (n := (n + 34)) ⟨by omega, hn.2⟩ hao (by omega) hf) gk_X4_22 rfl ⟨by decide, by decide, by decide, by decide⟩ (Nat.le_of_ble_eq_true rfl) (by decide) dX4_init_40 (fun r n101 q102 z103 hf => ?_)
  obtain ⟨hr, en101, hf⟩ := hf
  subst hr
  refine ⟨by omega, fun _ => en101, ?_⟩
  subst en101
  show V E (gR 2 65) gyX4_init 65 37 43 [(1, .int (8 : Int32)), (0, .ref a0)] [.ref (n + 33), .int (8 : Int32), .ref t98] (n + 37) q102 z103 (kA P)
  obtain ⟨h104, hf⟩ := hf
  obtain ⟨h105, hf⟩ := hf
  obtain ⟨h106, hf⟩ := hf
  refine V_aast h104.1 h104.s h105 h106.1 h106.2 dX4_init_43 ?_
  refine V_nz (fun z107 ez107 => ?_)
  have hf := hf z107 ez107
  refine V_iinc (j := 0) (v := (9 : Int32)) (ls2 := [(1, .int (9 : Int32)), (0, .ref a0)]) dX4_init_44 rfl (by decide) (by decide) rfl ?_
  refine V_goto (tgt := 25) dX4_init_47 (by decide) ?_
  refine V_iload_n (j := 0) dX4_init_25 rfl rfl ?_
  refine V_bipush (v := (16 : Int32)) dX4_init_26 (by decide) ?_
  refine V_icmp_ge (tgt := 50) dX4_init_28 (by decide) (fun h => absurd h (by decide)) (fun _ => ?_)
  refine V_aload_n (j := 1) dX4_init_31 rfl rfl ?_
  obtain ⟨h108, hf⟩ := hf
  obtain ⟨t109, et109, hf⟩ := hf
  refine V_getR fl_X4_11 rfl h108.1 h108.2 et109 dX4_init_32 ?_
  refine V_iload_n (j := 0) dX4_init_35 rfl rfl ?_
  refine V_new (ci := 6) (by decide) (by decide) cl_X4_9 in_6 iz_6 df_6 (by decide) ⟨by decide, by decide⟩ (by omega) dX4_init_36 ?_
  refine V_nsh (fun q110 eq110 => ?_)
  have hf := hf q110 eq110
  refine V_nz (fun z111 ez111 => ?_)
  have hf := hf z111 ez111
  refine V_dup dX4_init_39 rfl ?_
  refine V_callI (mc1 := 3) (av := []) (ctX10_init (n := (n + 38)) ⟨by omega, hn.2⟩ hao (by omega) hf) gk_X4_22 rfl ⟨by decide, by decide, by decide, by decide⟩ (Nat.le_of_ble_eq_true rfl) (by decide) dX4_init_40 (fun r n112 q113 z114 hf => ?_)
  obtain ⟨hr, en112, hf⟩ := hf
  subst hr
  refine ⟨by omega, fun _ => en112, ?_⟩
  subst en112
  show V E (gR 2 65) gyX4_init 65 41 43 [(1, .int (9 : Int32)), (0, .ref a0)] [.ref (n + 37), .int (9 : Int32), .ref t109] (n + 41) q113 z114 (kA P)
  obtain ⟨h115, hf⟩ := hf
  obtain ⟨h116, hf⟩ := hf
  obtain ⟨h117, hf⟩ := hf
  refine V_aast h115.1 h115.s h116 h117.1 h117.2 dX4_init_43 ?_
  refine V_nz (fun z118 ez118 => ?_)
  have hf := hf z118 ez118
  refine V_iinc (j := 0) (v := (10 : Int32)) (ls2 := [(1, .int (10 : Int32)), (0, .ref a0)]) dX4_init_44 rfl (by decide) (by decide) rfl ?_
  refine V_goto (tgt := 25) dX4_init_47 (by decide) ?_
  refine V_iload_n (j := 0) dX4_init_25 rfl rfl ?_
  refine V_bipush (v := (16 : Int32)) dX4_init_26 (by decide) ?_
  refine V_icmp_ge (tgt := 50) dX4_init_28 (by decide) (fun h => absurd h (by decide)) (fun _ => ?_)
  refine V_aload_n (j := 1) dX4_init_31 rfl rfl ?_
  obtain ⟨h119, hf⟩ := hf
  obtain ⟨t120, et120, hf⟩ := hf
  refine V_getR fl_X4_11 rfl h119.1 h119.2 et120 dX4_init_32 ?_
  refine V_iload_n (j := 0) dX4_init_35 rfl rfl ?_
  refine V_new (ci := 6) (by decide) (by decide) cl_X4_9 in_6 iz_6 df_6 (by decide) ⟨by decide, by decide⟩ (by omega) dX4_init_36 ?_
  refine V_nsh (fun q121 eq121 => ?_)
  have hf := hf q121 eq121
  refine V_nz (fun z122 ez122 => ?_)
  have hf := hf z122 ez122
  refine V_dup dX4_init_39 rfl ?_
  refine V_callI (mc1 := 3) (av := []) (ctX10_init (n := (n + 42)) ⟨by omega, hn.2⟩ hao (by omega) hf) gk_X4_22 rfl ⟨by decide, by decide, by decide, by decide⟩ (Nat.le_of_ble_eq_true rfl) (by decide) dX4_init_40 (fun r n123 q124 z125 hf => ?_)
  obtain ⟨hr, en123, hf⟩ := hf
  subst hr
  refine ⟨by omega, fun _ => en123, ?_⟩
  subst en123
  show V E (gR 2 65) gyX4_init 65 45 43 [(1, .int (10 : Int32)), (0, .ref a0)] [.ref (n + 41), .int (10 : Int32), .ref t120] (n + 45) q124 z125 (kA P)
  obtain ⟨h126, hf⟩ := hf
  obtain ⟨h127, hf⟩ := hf
  obtain ⟨h128, hf⟩ := hf
  refine V_aast h126.1 h126.s h127 h128.1 h128.2 dX4_init_43 ?_
  refine V_nz (fun z129 ez129 => ?_)
  have hf := hf z129 ez129
  refine V_iinc (j := 0) (v := (11 : Int32)) (ls2 := [(1, .int (11 : Int32)), (0, .ref a0)]) dX4_init_44 rfl (by decide) (by decide) rfl ?_
  refine V_goto (tgt := 25) dX4_init_47 (by decide) ?_
  refine V_iload_n (j := 0) dX4_init_25 rfl rfl ?_
  refine V_bipush (v := (16 : Int32)) dX4_init_26 (by decide) ?_
  refine V_icmp_ge (tgt := 50) dX4_init_28 (by decide) (fun h => absurd h (by decide)) (fun _ => ?_)
  refine V_aload_n (j := 1) dX4_init_31 rfl rfl ?_
  obtain ⟨h130, hf⟩ := hf
  obtain ⟨t131, et131, hf⟩ := hf
  refine V_getR fl_X4_11 rfl h130.1 h130.2 et131 dX4_init_32 ?_
  refine V_iload_n (j := 0) dX4_init_35 rfl rfl ?_
  refine V_new (ci := 6) (by decide) (by decide) cl_X4_9 in_6 iz_6 df_6 (by decide) ⟨by decide, by decide⟩ (by omega) dX4_init_36 ?_
  refine V_nsh (fun q132 eq132 => ?_)
  have hf := hf q132 eq132
  refine V_nz (fun z133 ez133 => ?_)
  have hf := hf z133 ez133
  refine V_dup dX4_init_39 rfl ?_
  refine V_callI (mc1 := 3) (av := []) (ctX10_init (n := (n + 46)) ⟨by omega, hn.2⟩ hao (by omega) hf) gk_X4_22 rfl ⟨by decide, by decide, by decide, by decide⟩ (Nat.le_of_ble_eq_true rfl) (by decide) dX4_init_40 (fun r n134 q135 z136 hf => ?_)
  obtain ⟨hr, en134, hf⟩ := hf
  subst hr
  refine ⟨by omega, fun _ => en134, ?_⟩
  subst en134
  show V E (gR 2 65) gyX4_init 65 49 43 [(1, .int (11 : Int32)), (0, .ref a0)] [.ref (n + 45), .int (11 : Int32), .ref t131] (n + 49) q135 z136 (kA P)
  obtain ⟨h137, hf⟩ := hf
  obtain ⟨h138, hf⟩ := hf
  obtain ⟨h139, hf⟩ := hf
  refine V_aast h137.1 h137.s h138 h139.1 h139.2 dX4_init_43 ?_
  refine V_nz (fun z140 ez140 => ?_)
  have hf := hf z140 ez140
  refine V_iinc (j := 0) (v := (12 : Int32)) (ls2 := [(1, .int (12 : Int32)), (0, .ref a0)]) dX4_init_44 rfl (by decide) (by decide) rfl ?_
  refine V_goto (tgt := 25) dX4_init_47 (by decide) ?_
  refine V_iload_n (j := 0) dX4_init_25 rfl rfl ?_
  refine V_bipush (v := (16 : Int32)) dX4_init_26 (by decide) ?_
  refine V_icmp_ge (tgt := 50) dX4_init_28 (by decide) (fun h => absurd h (by decide)) (fun _ => ?_)
  refine V_aload_n (j := 1) dX4_init_31 rfl rfl ?_
  obtain ⟨h141, hf⟩ := hf
  obtain ⟨t142, et142, hf⟩ := hf
  refine V_getR fl_X4_11 rfl h141.1 h141.2 et142 dX4_init_32 ?_
  refine V_iload_n (j := 0) dX4_init_35 rfl rfl ?_
  refine V_new (ci := 6) (by decide) (by decide) cl_X4_9 in_6 iz_6 df_6 (by decide) ⟨by decide, by decide⟩ (by omega) dX4_init_36 ?_
  refine V_nsh (fun q143 eq143 => ?_)
  have hf := hf q143 eq143
  refine V_nz (fun z144 ez144 => ?_)
  have hf := hf z144 ez144
  refine V_dup dX4_init_39 rfl ?_
  refine V_callI (mc1 := 3) (av := []) (ctX10_init (n := (n + 50)) ⟨by omega, hn.2⟩ hao (by omega) hf) gk_X4_22 rfl ⟨by decide, by decide, by decide, by decide⟩ (Nat.le_of_ble_eq_true rfl) (by decide) dX4_init_40 (fun r n145 q146 z147 hf => ?_)
  obtain ⟨hr, en145, hf⟩ := hf
  subst hr
  refine ⟨by omega, fun _ => en145, ?_⟩
  subst en145
  show V E (gR 2 65) gyX4_init 65 53 43 [(1, .int (12 : Int32)), (0, .ref a0)] [.ref (n + 49), .int (12 : Int32), .ref t142] (n + 53) q146 z147 (kA P)
  obtain ⟨h148, hf⟩ := hf
  obtain ⟨h149, hf⟩ := hf
  obtain ⟨h150, hf⟩ := hf
  refine V_aast h148.1 h148.s h149 h150.1 h150.2 dX4_init_43 ?_
  refine V_nz (fun z151 ez151 => ?_)
  have hf := hf z151 ez151
  refine V_iinc (j := 0) (v := (13 : Int32)) (ls2 := [(1, .int (13 : Int32)), (0, .ref a0)]) dX4_init_44 rfl (by decide) (by decide) rfl ?_
  refine V_goto (tgt := 25) dX4_init_47 (by decide) ?_
  refine V_iload_n (j := 0) dX4_init_25 rfl rfl ?_
  refine V_bipush (v := (16 : Int32)) dX4_init_26 (by decide) ?_
  refine V_icmp_ge (tgt := 50) dX4_init_28 (by decide) (fun h => absurd h (by decide)) (fun _ => ?_)
  refine V_aload_n (j := 1) dX4_init_31 rfl rfl ?_
  obtain ⟨h152, hf⟩ := hf
  obtain ⟨t153, et153, hf⟩ := hf
  refine V_getR fl_X4_11 rfl h152.1 h152.2 et153 dX4_init_32 ?_
  refine V_iload_n (j := 0) dX4_init_35 rfl rfl ?_
  refine V_new (ci := 6) (by decide) (by decide) cl_X4_9 in_6 iz_6 df_6 (by decide) ⟨by decide, by decide⟩ (by omega) dX4_init_36 ?_
  refine V_nsh (fun q154 eq154 => ?_)
  have hf := hf q154 eq154
  refine V_nz (fun z155 ez155 => ?_)
  have hf := hf z155 ez155
  refine V_dup dX4_init_39 rfl ?_
  refine V_callI (mc1 := 3) (av := []) (ctX10_init (n := (n + 54)) ⟨by omega, hn.2⟩ hao (by omega) hf) gk_X4_22 rfl ⟨by decide, by decide, by decide, by decide⟩ (Nat.le_of_ble_eq_true rfl) (by decide) dX4_init_40 (fun r n156 q157 z158 hf => ?_)
  obtain ⟨hr, en156, hf⟩ := hf
  subst hr
  refine ⟨by omega, fun _ => en156, ?_⟩
  subst en156
  show V E (gR 2 65) gyX4_init 65 57 43 [(1, .int (13 : Int32)), (0, .ref a0)] [.ref (n + 53), .int (13 : Int32), .ref t153] (n + 57) q157 z158 (kA P)
  obtain ⟨h159, hf⟩ := hf
  obtain ⟨h160, hf⟩ := hf
  obtain ⟨h161, hf⟩ := hf
  refine V_aast h159.1 h159.s h160 h161.1 h161.2 dX4_init_43 ?_
  refine V_nz (fun z162 ez162 => ?_)
  have hf := hf z162 ez162
  refine V_iinc (j := 0) (v := (14 : Int32)) (ls2 := [(1, .int (14 : Int32)), (0, .ref a0)]) dX4_init_44 rfl (by decide) (by decide) rfl ?_
  refine V_goto (tgt := 25) dX4_init_47 (by decide) ?_
  refine V_iload_n (j := 0) dX4_init_25 rfl rfl ?_
  refine V_bipush (v := (16 : Int32)) dX4_init_26 (by decide) ?_
  refine V_icmp_ge (tgt := 50) dX4_init_28 (by decide) (fun h => absurd h (by decide)) (fun _ => ?_)
  refine V_aload_n (j := 1) dX4_init_31 rfl rfl ?_
  obtain ⟨h163, hf⟩ := hf
  obtain ⟨t164, et164, hf⟩ := hf
  refine V_getR fl_X4_11 rfl h163.1 h163.2 et164 dX4_init_32 ?_
  refine V_iload_n (j := 0) dX4_init_35 rfl rfl ?_
  refine V_new (ci := 6) (by decide) (by decide) cl_X4_9 in_6 iz_6 df_6 (by decide) ⟨by decide, by decide⟩ (by omega) dX4_init_36 ?_
  refine V_nsh (fun q165 eq165 => ?_)
  have hf := hf q165 eq165
  refine V_nz (fun z166 ez166 => ?_)
  have hf := hf z166 ez166
  refine V_dup dX4_init_39 rfl ?_
  refine V_callI (mc1 := 3) (av := []) (ctX10_init (n := (n + 58)) ⟨by omega, hn.2⟩ hao (by omega) hf) gk_X4_22 rfl ⟨by decide, by decide, by decide, by decide⟩ (Nat.le_of_ble_eq_true rfl) (by decide) dX4_init_40 (fun r n167 q168 z169 hf => ?_)
  obtain ⟨hr, en167, hf⟩ := hf
  subst hr
  refine ⟨by omega, fun _ => en167, ?_⟩
  subst en167
  show V E (gR 2 65) gyX4_init 65 61 43 [(1, .int (14 : Int32)), (0, .ref a0)] [.ref (n + 57), .int (14 : Int32), .ref t164] (n + 61) q168 z169 (kA P)
  obtain ⟨h170, hf⟩ := hf
  obtain ⟨h171, hf⟩ := hf
  obtain ⟨h172, hf⟩ := hf
  refine V_aast h170.1 h170.s h171 h172.1 h172.2 dX4_init_43 ?_
  refine V_nz (fun z173 ez173 => ?_)
  have hf := hf z173 ez173
  refine V_iinc (j := 0) (v := (15 : Int32)) (ls2 := [(1, .int (15 : Int32)), (0, .ref a0)]) dX4_init_44 rfl (by decide) (by decide) rfl ?_
  refine V_goto (tgt := 25) dX4_init_47 (by decide) ?_
  refine V_iload_n (j := 0) dX4_init_25 rfl rfl ?_
  refine V_bipush (v := (16 : Int32)) dX4_init_26 (by decide) ?_
  refine V_icmp_ge (tgt := 50) dX4_init_28 (by decide) (fun h => absurd h (by decide)) (fun _ => ?_)
  refine V_aload_n (j := 1) dX4_init_31 rfl rfl ?_
  obtain ⟨h174, hf⟩ := hf
  obtain ⟨t175, et175, hf⟩ := hf
  refine V_getR fl_X4_11 rfl h174.1 h174.2 et175 dX4_init_32 ?_
  refine V_iload_n (j := 0) dX4_init_35 rfl rfl ?_
  refine V_new (ci := 6) (by decide) (by decide) cl_X4_9 in_6 iz_6 df_6 (by decide) ⟨by decide, by decide⟩ (by omega) dX4_init_36 ?_
  refine V_nsh (fun q176 eq176 => ?_)
  have hf := hf q176 eq176
  refine V_nz (fun z177 ez177 => ?_)
  have hf := hf z177 ez177
  refine V_dup dX4_init_39 rfl ?_
  refine V_callI (mc1 := 3) (av := []) (ctX10_init (n := (n + 62)) ⟨by omega, hn.2⟩ hao (by omega) hf) gk_X4_22 rfl ⟨by decide, by decide, by decide, by decide⟩ (Nat.le_of_ble_eq_true rfl) (by decide) dX4_init_40 (fun r n178 q179 z180 hf => ?_)
  obtain ⟨hr, en178, hf⟩ := hf
  subst hr
  refine ⟨by omega, fun _ => en178, ?_⟩
  subst en178
  show V E (gR 2 65) gyX4_init 65 65 43 [(1, .int (15 : Int32)), (0, .ref a0)] [.ref (n + 61), .int (15 : Int32), .ref t175] (n + 65) q179 z180 (kA P)
  obtain ⟨h181, hf⟩ := hf
  obtain ⟨h182, hf⟩ := hf
  obtain ⟨h183, hf⟩ := hf
  refine V_aast h181.1 h181.s h182 h183.1 h183.2 dX4_init_43 ?_
  refine V_nz (fun z184 ez184 => ?_)
  have hf := hf z184 ez184
  refine V_iinc (j := 0) (v := (16 : Int32)) (ls2 := [(1, .int (16 : Int32)), (0, .ref a0)]) dX4_init_44 rfl (by decide) (by decide) rfl ?_
  refine V_goto (tgt := 25) dX4_init_47 (by decide) ?_
  refine V_iload_n (j := 0) dX4_init_25 rfl rfl ?_
  refine V_bipush (v := (16 : Int32)) dX4_init_26 (by decide) ?_
  refine V_icmp_ge (tgt := 50) dX4_init_28 (by decide) (fun _ => ?_) (fun h => absurd (by decide) h)
  exact V_return dX4_init_50 rfl (by decide) ⟨rfl, hf⟩
set_option maxRecDepth 100000 in
def wX2_init (n : Nat) (sh : Nat → Nat × Nat) (a0 : Nat) (z : gS) (P : Nat → (Nat → Nat × Nat) → gS → Prop) : Prop := (oO n sh a0 1) ∧ (∀ z2 : gS, z2 = sl z a0 0 (0 : Int64) → ((oO n sh a0 1) ∧ (∀ z4 : gS, z4 = si z2 a0 1 (0 : Int32) → ((oO n sh a0 1) ∧ (∀ z6 : gS, z6 = si z4 a0 2 (0 : Int32) → (P n sh z6))))))
set_option maxRecDepth 100000 in
set_option maxHeartbeats 4000000 in
theorem ctX2_init {E : gE} {n : Nat} {sh : Nat → Nat × Nat} {a0 : Nat} {z : gS} {P : Nat → (Nat → Nat × Nat) → gS → Prop} (hn : gOK E n) (hao : gAO E) (hnb : n + 300 * 1 ≤ 1000000) (hf : wX2_init n sh a0 z P) : VM E 1 0 gyX2_init [.ref a0] n sh z (kA P) := by
  unfold wX2_init at hf
  refine VM.of (by decide +kernel) (Nat.le_of_ble_eq_true rfl) (fun _ _ _ h => by cases h.1) ?_
  show V E (gR 1 0) gyX2_init 0 0 0 [(0, .ref a0)] [] n sh z (kA P)
  refine V_aload_n (j := 0) dX2_init_0 rfl rfl ?_
  refine V_objInit ob_X2 obi obc ⟨by decide, by decide⟩ (Nat.le_of_ble_eq_true rfl) dX2_init_1 ?_
  refine V_aload_n (j := 0) dX2_init_4 rfl rfl ?_
  refine V_lconst (v := (0 : Int64)) dX2_init_5 (by decide) ?_
  obtain ⟨h1, hf⟩ := hf
  refine V_putL fl_X2_7 rfl rfl rfl rfl h1.1 h1.2 dX2_init_6 ?_
  refine V_nz (fun z2 ez2 => ?_)
  have hf := hf z2 ez2
  refine V_aload_n (j := 0) dX2_init_9 rfl rfl ?_
  refine V_iconst (v := (0 : Int32)) dX2_init_10 (by decide) ?_
  obtain ⟨h3, hf⟩ := hf
  refine V_putI fl_X2_13 rfl rfl rfl rfl h3.1 h3.2 dX2_init_11 ?_
  refine V_nz (fun z4 ez4 => ?_)
  have hf := hf z4 ez4
  refine V_aload_n (j := 0) dX2_init_14 rfl rfl ?_
  refine V_iconst (v := (0 : Int32)) dX2_init_15 (by decide) ?_
  obtain ⟨h5, hf⟩ := hf
  refine V_putI fl_X2_17 rfl rfl rfl rfl h5.1 h5.2 dX2_init_16 ?_
  refine V_nz (fun z6 ez6 => ?_)
  have hf := hf z6 ez6
  exact V_return dX2_init_19 rfl (by decide) ⟨rfl, hf⟩
set_option maxRecDepth 100000 in
def wX5_init (n : Nat) (sh : Nat → Nat × Nat) (a0 : Nat) (z : gS) (P : Nat → (Nat → Nat × Nat) → gS → Prop) : Prop := ∀ q1 : Nat → Nat × Nat, q1 = va_up sh n (1, 1000) → (∀ z2 : gS, z2 = z0 z n → ((oO (n + 1) q1 a0 3) ∧ (∀ z4 : gS, z4 = sr z2 a0 0 (some n) → (∀ q5 : Nat → Nat × Nat, q5 = va_up q1 (n + 1) (1, 32) → (∀ z6 : gS, z6 = z0 z4 (n + 1) → ((oO (n + 2) q5 a0 3) ∧ (∀ z8 : gS, z8 = sr z6 a0 1 (some (n + 1)) → ((oO (n + 2) q5 a0 3) ∧ (∀ z10 : gS, z10 = si z8 a0 2 (0 : Int32) → (P (n + 2) q5 z10))))))))))
set_option maxRecDepth 100000 in
set_option maxHeartbeats 4000000 in
theorem ctX5_init {E : gE} {n : Nat} {sh : Nat → Nat × Nat} {a0 : Nat} {z : gS} {P : Nat → (Nat → Nat × Nat) → gS → Prop} (hn : gOK E n) (hao : gAO E) (hnb : n + 300 * 1 ≤ 1000000) (hf : wX5_init n sh a0 z P) : VM E 1 2 gyX5_init [.ref a0] n sh z (kA P) := by
  unfold wX5_init at hf
  refine VM.of (by decide +kernel) (Nat.le_of_ble_eq_true rfl) (fun _ _ _ h => by cases h.1) ?_
  show V E (gR 1 2) gyX5_init 2 0 0 [(0, .ref a0)] [] n sh z (kA P)
  refine V_aload_n (j := 0) dX5_init_0 rfl rfl ?_
  refine V_objInit ob_X5 obi obc ⟨by decide, by decide⟩ (Nat.le_of_ble_eq_true rfl) dX5_init_1 ?_
  refine V_aload_n (j := 0) dX5_init_4 rfl rfl ?_
  refine V_sipush (v := (1000 : Int32)) dX5_init_5 (by decide) ?_
  refine V_newa1 (N := 1000) (by decide) ar_1 (by decide) (by decide) (by decide) ⟨by decide, by decide⟩ (by omega) dX5_init_8 ?_
  refine V_nsh (fun q1 eq1 => ?_)
  have hf := hf q1 eq1
  refine V_nz (fun z2 ez2 => ?_)
  have hf := hf z2 ez2
  obtain ⟨h3, hf⟩ := hf
  refine V_putRF (ci := 3) (k := 0) (by decide) (by decide) fk_X5_11 rfl rfl rfl rfl (fun _ => rfl) (fun _ => rfl) h3.1 h3.2 dX5_init_10 ?_
  refine V_nz (fun z4 ez4 => ?_)
  have hf := hf z4 ez4
  refine V_aload_n (j := 0) dX5_init_13 rfl rfl ?_
  refine V_bipush (v := (32 : Int32)) dX5_init_14 (by decide) ?_
  refine V_newa1 (N := 32) (by decide) ar_1 (by decide) (by decide) (by decide) ⟨by decide, by decide⟩ (by omega) dX5_init_16 ?_
  refine V_nsh (fun q5 eq5 => ?_)
  have hf := hf q5 eq5
  refine V_nz (fun z6 ez6 => ?_)
  have hf := hf z6 ez6
  obtain ⟨h7, hf⟩ := hf
  refine V_putRF (ci := 3) (k := 1) (by decide) (by decide) fk_X5_17 rfl rfl rfl rfl (fun _ => rfl) (fun _ => rfl) h7.1 h7.2 dX5_init_18 ?_
  refine V_nz (fun z8 ez8 => ?_)
  have hf := hf z8 ez8
  refine V_aload_n (j := 0) dX5_init_21 rfl rfl ?_
  refine V_iconst (v := (0 : Int32)) dX5_init_22 (by decide) ?_
  obtain ⟨h9, hf⟩ := hf
  refine V_putI fl_X5_20 rfl rfl rfl rfl h9.1 h9.2 dX5_init_23 ?_
  refine V_nz (fun z10 ez10 => ?_)
  have hf := hf z10 ez10
  exact V_return dX5_init_26 rfl (by decide) ⟨rfl, hf⟩
set_option maxRecDepth 100000 in
def wX7_init (n : Nat) (sh : Nat → Nat × Nat) (a0 : Nat) (z : gS) (P : Nat → (Nat → Nat × Nat) → gS → Prop) : Prop := ∀ q1 : Nat → Nat × Nat, q1 = va_up sh n (0, 3) → (∀ z2 : gS, z2 = z0 z n → (wX5_init (n + 1) q1 n z2 (fun (n3 : Nat) (q4 : Nat → Nat × Nat) (z5 : gS) => (n3 = (n + 1) + 2) ∧ ((oO (n + 3) q4 a0 4) ∧ (∀ z7 : gS, z7 = sr z5 a0 0 (some n) → (∀ q8 : Nat → Nat × Nat, q8 = va_up q4 (n + 3) (1, 6) → (∀ z9 : gS, z9 = z0 z7 (n + 3) → ((oO (n + 4) q8 a0 4) ∧ (∀ z11 : gS, z11 = sr z9 a0 1 (some (n + 3)) → (∀ q12 : Nat → Nat × Nat, q12 = va_up q8 (n + 4) (1, 6) → (∀ z13 : gS, z13 = z0 z11 (n + 4) → ((oO (n + 5) q12 a0 4) ∧ (∀ z15 : gS, z15 = sr z13 a0 2 (some (n + 4)) → (∀ q16 : Nat → Nat × Nat, q16 = va_up q12 (n + 5) (1, 6) → (∀ z17 : gS, z17 = z0 z15 (n + 5) → ((oO (n + 6) q16 a0 4) ∧ (∀ z19 : gS, z19 = sr z17 a0 3 (some (n + 5)) → (∀ q20 : Nat → Nat × Nat, q20 = va_up q16 (n + 6) (1, 5) → (∀ z21 : gS, z21 = z0 z19 (n + 6) → ((oO (n + 7) q20 a0 4) ∧ (∀ z23 : gS, z23 = sr z21 a0 4 (some (n + 6)) → (∀ q24 : Nat → Nat × Nat, q24 = va_up q20 (n + 7) (1, 5) → (∀ z25 : gS, z25 = z0 z23 (n + 7) → ((oO (n + 8) q24 a0 4) ∧ (∀ z27 : gS, z27 = sr z25 a0 5 (some (n + 7)) → (∀ q28 : Nat → Nat × Nat, q28 = va_up q24 (n + 8) (1, 12) → (∀ z29 : gS, z29 = z0 z27 (n + 8) → ((oO (n + 9) q28 a0 4) ∧ (∀ z31 : gS, z31 = sr z29 a0 6 (some (n + 8)) → (∀ q32 : Nat → Nat × Nat, q32 = va_up q28 (n + 9) (2, 6) → (∀ z33 : gS, z33 = z0 z31 (n + 9) → ((oO (n + 10) q32 a0 4) ∧ (∀ z35 : gS, z35 = sr z33 a0 7 (some (n + 9)) → (∀ q36 : Nat → Nat × Nat, q36 = va_up q32 (n + 10) (2, 5) → (∀ z37 : gS, z37 = z0 z35 (n + 10) → ((oO (n + 11) q36 a0 4) ∧ (∀ z39 : gS, z39 = sr z37 a0 8 (some (n + 10)) → (∀ q40 : Nat → Nat × Nat, q40 = va_up q36 (n + 11) (2, 5) → (∀ z41 : gS, z41 = z0 z39 (n + 11) → ((oO (n + 12) q40 a0 4) ∧ (∀ z43 : gS, z43 = sr z41 a0 9 (some (n + 11)) → ((oO (n + 12) q40 a0 4) ∧ (∀ z45 : gS, z45 = si z43 a0 10 (0 : Int32) → ((oO (n + 12) q40 a0 4) ∧ (∀ z47 : gS, z47 = si z45 a0 11 (0 : Int32) → ((oO (n + 12) q40 a0 4) ∧ (∀ z49 : gS, z49 = si z47 a0 12 (0 : Int32) → ((oO (n + 12) q40 a0 4) ∧ (∀ z51 : gS, z51 = si z49 a0 13 (0 : Int32) → (P (n + 12) q40 z51))))))))))))))))))))))))))))))))))))))))))))))))))
set_option maxRecDepth 100000 in
set_option maxHeartbeats 4000000 in
theorem ctX7_init {E : gE} {n : Nat} {sh : Nat → Nat × Nat} {a0 : Nat} {z : gS} {P : Nat → (Nat → Nat × Nat) → gS → Prop} (hn : gOK E n) (hao : gAO E) (hnb : n + 300 * 2 ≤ 1000000) (hf : wX7_init n sh a0 z P) : VM E 2 12 gyX7_init [.ref a0] n sh z (kA P) := by
  unfold wX7_init at hf
  refine VM.of (by decide +kernel) (Nat.le_of_ble_eq_true rfl) (fun _ _ _ h => by cases h.1) ?_
  show V E (gR 2 12) gyX7_init 12 0 0 [(0, .ref a0)] [] n sh z (kA P)
  refine V_aload_n (j := 0) dX7_init_0 rfl rfl ?_
  refine V_objInit ob_X7 obi obc ⟨by decide, by decide⟩ (Nat.le_of_ble_eq_true rfl) dX7_init_1 ?_
  refine V_aload_n (j := 0) dX7_init_4 rfl rfl ?_
  refine V_new (ci := 3) (by decide) (by decide) cl_X7_9 in_3 iz_3 df_3 (by decide) ⟨by decide, by decide⟩ (by omega) dX7_init_5 ?_
  refine V_nsh (fun q1 eq1 => ?_)
  have hf := hf q1 eq1
  refine V_nz (fun z2 ez2 => ?_)
  have hf := hf z2 ez2
  refine V_dup dX7_init_8 rfl ?_
  refine V_callI (mc1 := 2) (av := []) (ctX5_init (n := (n + 1)) ⟨by omega, hn.2⟩ hao (by omega) hf) gk_X7_11 rfl ⟨by decide, by decide, by decide, by decide⟩ (Nat.le_of_ble_eq_true rfl) (by decide) dX7_init_9 (fun r n3 q4 z5 hf => ?_)
  obtain ⟨hr, en3, hf⟩ := hf
  subst hr
  refine ⟨by omega, fun _ => en3, ?_⟩
  subst en3
  show V E (gR 2 12) gyX7_init 12 3 12 [(0, .ref a0)] [.ref n, .ref a0] (n + 3) q4 z5 (kA P)
  obtain ⟨h6, hf⟩ := hf
  refine V_putRF (ci := 4) (k := 0) (by decide) (by decide) fk_X7_12 rfl rfl rfl rfl (fun _ => rfl) (fun _ => rfl) h6.1 h6.2 dX7_init_12 ?_
  refine V_nz (fun z7 ez7 => ?_)
  have hf := hf z7 ez7
  refine V_aload_n (j := 0) dX7_init_15 rfl rfl ?_
  refine V_bipush (v := (6 : Int32)) dX7_init_16 (by decide) ?_
  refine V_newa1 (N := 6) (by decide) ar_1 (by decide) (by decide) (by decide) ⟨by decide, by decide⟩ (by omega) dX7_init_18 ?_
  refine V_nsh (fun q8 eq8 => ?_)
  have hf := hf q8 eq8
  refine V_nz (fun z9 ez9 => ?_)
  have hf := hf z9 ez9
  obtain ⟨h10, hf⟩ := hf
  refine V_putRF (ci := 4) (k := 1) (by decide) (by decide) fk_X7_18 rfl rfl rfl rfl (fun _ => rfl) (fun _ => rfl) h10.1 h10.2 dX7_init_20 ?_
  refine V_nz (fun z11 ez11 => ?_)
  have hf := hf z11 ez11
  refine V_aload_n (j := 0) dX7_init_23 rfl rfl ?_
  refine V_bipush (v := (6 : Int32)) dX7_init_24 (by decide) ?_
  refine V_newa1 (N := 6) (by decide) ar_1 (by decide) (by decide) (by decide) ⟨by decide, by decide⟩ (by omega) dX7_init_26 ?_
  refine V_nsh (fun q12 eq12 => ?_)
  have hf := hf q12 eq12
  refine V_nz (fun z13 ez13 => ?_)
  have hf := hf z13 ez13
  obtain ⟨h14, hf⟩ := hf
  refine V_putRF (ci := 4) (k := 2) (by decide) (by decide) fk_X7_22 rfl rfl rfl rfl (fun _ => rfl) (fun _ => rfl) h14.1 h14.2 dX7_init_28 ?_
  refine V_nz (fun z15 ez15 => ?_)
  have hf := hf z15 ez15
  refine V_aload_n (j := 0) dX7_init_31 rfl rfl ?_
  refine V_bipush (v := (6 : Int32)) dX7_init_32 (by decide) ?_
  refine V_newa1 (N := 6) (by decide) ar_1 (by decide) (by decide) (by decide) ⟨by decide, by decide⟩ (by omega) dX7_init_34 ?_
  refine V_nsh (fun q16 eq16 => ?_)
  have hf := hf q16 eq16
  refine V_nz (fun z17 ez17 => ?_)
  have hf := hf z17 ez17
  obtain ⟨h18, hf⟩ := hf
  refine V_putRF (ci := 4) (k := 3) (by decide) (by decide) fk_X7_25 rfl rfl rfl rfl (fun _ => rfl) (fun _ => rfl) h18.1 h18.2 dX7_init_36 ?_
  refine V_nz (fun z19 ez19 => ?_)
  have hf := hf z19 ez19
  refine V_aload_n (j := 0) dX7_init_39 rfl rfl ?_
  refine V_iconst (v := (5 : Int32)) dX7_init_40 (by decide) ?_
  refine V_newa1 (N := 5) (by decide) ar_1 (by decide) (by decide) (by decide) ⟨by decide, by decide⟩ (by omega) dX7_init_41 ?_
  refine V_nsh (fun q20 eq20 => ?_)
  have hf := hf q20 eq20
  refine V_nz (fun z21 ez21 => ?_)
  have hf := hf z21 ez21
  obtain ⟨h22, hf⟩ := hf
  refine V_putRF (ci := 4) (k := 4) (by decide) (by decide) fk_X7_28 rfl rfl rfl rfl (fun _ => rfl) (fun _ => rfl) h22.1 h22.2 dX7_init_43 ?_
  refine V_nz (fun z23 ez23 => ?_)
  have hf := hf z23 ez23
  refine V_aload_n (j := 0) dX7_init_46 rfl rfl ?_
  refine V_iconst (v := (5 : Int32)) dX7_init_47 (by decide) ?_
  refine V_newa1 (N := 5) (by decide) ar_1 (by decide) (by decide) (by decide) ⟨by decide, by decide⟩ (by omega) dX7_init_48 ?_
  refine V_nsh (fun q24 eq24 => ?_)
  have hf := hf q24 eq24
  refine V_nz (fun z25 ez25 => ?_)
  have hf := hf z25 ez25
  obtain ⟨h26, hf⟩ := hf
  refine V_putRF (ci := 4) (k := 5) (by decide) (by decide) fk_X7_31 rfl rfl rfl rfl (fun _ => rfl) (fun _ => rfl) h26.1 h26.2 dX7_init_50 ?_
  refine V_nz (fun z27 ez27 => ?_)
  have hf := hf z27 ez27
  refine V_aload_n (j := 0) dX7_init_53 rfl rfl ?_
  refine V_bipush (v := (12 : Int32)) dX7_init_54 (by decide) ?_
  refine V_newa1 (N := 12) (by decide) ar_1 (by decide) (by decide) (by decide) ⟨by decide, by decide⟩ (by omega) dX7_init_56 ?_
  refine V_nsh (fun q28 eq28 => ?_)
  have hf := hf q28 eq28
  refine V_nz (fun z29 ez29 => ?_)
  have hf := hf z29 ez29
  obtain ⟨h30, hf⟩ := hf
  refine V_putRF (ci := 4) (k := 6) (by decide) (by decide) fk_X7_34 rfl rfl rfl rfl (fun _ => rfl) (fun _ => rfl) h30.1 h30.2 dX7_init_58 ?_
  refine V_nz (fun z31 ez31 => ?_)
  have hf := hf z31 ez31
  refine V_aload_n (j := 0) dX7_init_61 rfl rfl ?_
  refine V_bipush (v := (6 : Int32)) dX7_init_62 (by decide) ?_
  refine V_newa2 (N := 6) (by decide) ar_2 (by decide) (by decide) (by decide) ⟨by decide, by decide⟩ (by omega) dX7_init_64 ?_
  refine V_nsh (fun q32 eq32 => ?_)
  have hf := hf q32 eq32
  refine V_nz (fun z33 ez33 => ?_)
  have hf := hf z33 ez33
  obtain ⟨h34, hf⟩ := hf
  refine V_putRF (ci := 4) (k := 7) (by decide) (by decide) fk_X7_37 rfl rfl rfl rfl (fun _ => rfl) (fun _ => rfl) h34.1 h34.2 dX7_init_66 ?_
  refine V_nz (fun z35 ez35 => ?_)
  have hf := hf z35 ez35
  refine V_aload_n (j := 0) dX7_init_69 rfl rfl ?_
  refine V_iconst (v := (5 : Int32)) dX7_init_70 (by decide) ?_
  refine V_newa2 (N := 5) (by decide) ar_2 (by decide) (by decide) (by decide) ⟨by decide, by decide⟩ (by omega) dX7_init_71 ?_
  refine V_nsh (fun q36 eq36 => ?_)
  have hf := hf q36 eq36
  refine V_nz (fun z37 ez37 => ?_)
  have hf := hf z37 ez37
  obtain ⟨h38, hf⟩ := hf
  refine V_putRF (ci := 4) (k := 8) (by decide) (by decide) fk_X7_41 rfl rfl rfl rfl (fun _ => rfl) (fun _ => rfl) h38.1 h38.2 dX7_init_73 ?_
  refine V_nz (fun z39 ez39 => ?_)
  have hf := hf z39 ez39
  refine V_aload_n (j := 0) dX7_init_76 rfl rfl ?_
  refine V_iconst (v := (5 : Int32)) dX7_init_77 (by decide) ?_
  refine V_newa2 (N := 5) (by decide) ar_2 (by decide) (by decide) (by decide) ⟨by decide, by decide⟩ (by omega) dX7_init_78 ?_
  refine V_nsh (fun q40 eq40 => ?_)
  have hf := hf q40 eq40
  refine V_nz (fun z41 ez41 => ?_)
  have hf := hf z41 ez41
  obtain ⟨h42, hf⟩ := hf
  refine V_putRF (ci := 4) (k := 9) (by decide) (by decide) fk_X7_44 rfl rfl rfl rfl (fun _ => rfl) (fun _ => rfl) h42.1 h42.2 dX7_init_80 ?_
  refine V_nz (fun z43 ez43 => ?_)
  have hf := hf z43 ez43
  refine V_aload_n (j := 0) dX7_init_83 rfl rfl ?_
  refine V_iconst (v := (0 : Int32)) dX7_init_84 (by decide) ?_
  obtain ⟨h44, hf⟩ := hf
  refine V_putI fl_X7_47 rfl rfl rfl rfl h44.1 h44.2 dX7_init_85 ?_
  refine V_nz (fun z45 ez45 => ?_)
  have hf := hf z45 ez45
  refine V_aload_n (j := 0) dX7_init_88 rfl rfl ?_
  refine V_iconst (v := (0 : Int32)) dX7_init_89 (by decide) ?_
  obtain ⟨h46, hf⟩ := hf
  refine V_putI fl_X7_51 rfl rfl rfl rfl h46.1 h46.2 dX7_init_90 ?_
  refine V_nz (fun z47 ez47 => ?_)
  have hf := hf z47 ez47
  refine V_aload_n (j := 0) dX7_init_93 rfl rfl ?_
  refine V_iconst (v := (0 : Int32)) dX7_init_94 (by decide) ?_
  obtain ⟨h48, hf⟩ := hf
  refine V_putI fl_X7_54 rfl rfl rfl rfl h48.1 h48.2 dX7_init_95 ?_
  refine V_nz (fun z49 ez49 => ?_)
  have hf := hf z49 ez49
  refine V_aload_n (j := 0) dX7_init_98 rfl rfl ?_
  refine V_iconst (v := (0 : Int32)) dX7_init_99 (by decide) ?_
  obtain ⟨h50, hf⟩ := hf
  refine V_putI fl_X7_57 rfl rfl rfl rfl h50.1 h50.2 dX7_init_100 ?_
  refine V_nz (fun z51 ez51 => ?_)
  have hf := hf z51 ez51
  exact V_return dX7_init_103 rfl (by decide) ⟨rfl, hf⟩
set_option maxRecDepth 100000 in
def wX0_init (n : Nat) (sh : Nat → Nat × Nat) (a0 : Nat) (z : gS) (P : Nat → (Nat → Nat × Nat) → gS → Prop) : Prop := ∀ q1 : Nat → Nat × Nat, q1 = va_up sh n (1, 40) → (∀ z2 : gS, z2 = z0 z n → ((oO (n + 1) q1 a0 0) ∧ (∀ z4 : gS, z4 = sr z2 a0 0 (some n) → (∀ q5 : Nat → Nat × Nat, q5 = va_up q1 (n + 1) (1, 40) → (∀ z6 : gS, z6 = z0 z4 (n + 1) → ((oO (n + 2) q5 a0 0) ∧ (∀ z8 : gS, z8 = sr z6 a0 1 (some (n + 1)) → (∀ q9 : Nat → Nat × Nat, q9 = va_up q5 (n + 2) (1, 40) → (∀ z10 : gS, z10 = z0 z8 (n + 2) → ((oO (n + 3) q9 a0 0) ∧ (∀ z12 : gS, z12 = sr z10 a0 2 (some (n + 2)) → ((oO (n + 3) q9 a0 0) ∧ (∀ z14 : gS, z14 = si z12 a0 3 (0 : Int32) → ((oO (n + 3) q9 a0 0) ∧ (∀ z16 : gS, z16 = si z14 a0 4 (-1 : Int32) → ((oO (n + 3) q9 a0 0) ∧ (∀ z18 : gS, z18 = si z16 a0 5 (-1 : Int32) → (P (n + 3) q9 z18))))))))))))))))))
set_option maxRecDepth 100000 in
set_option maxHeartbeats 4000000 in
theorem ctX0_init {E : gE} {n : Nat} {sh : Nat → Nat × Nat} {a0 : Nat} {z : gS} {P : Nat → (Nat → Nat × Nat) → gS → Prop} (hn : gOK E n) (hao : gAO E) (hnb : n + 300 * 1 ≤ 1000000) (hf : wX0_init n sh a0 z P) : VM E 1 3 gyX0_init [.ref a0] n sh z (kA P) := by
  unfold wX0_init at hf
  refine VM.of (by decide +kernel) (Nat.le_of_ble_eq_true rfl) (fun _ _ _ h => by cases h.1) ?_
  show V E (gR 1 3) gyX0_init 3 0 0 [(0, .ref a0)] [] n sh z (kA P)
  refine V_aload_n (j := 0) dX0_init_0 rfl rfl ?_
  refine V_objInit ob_X0 obi obc ⟨by decide, by decide⟩ (Nat.le_of_ble_eq_true rfl) dX0_init_1 ?_
  refine V_aload_n (j := 0) dX0_init_4 rfl rfl ?_
  refine V_bipush (v := (40 : Int32)) dX0_init_5 (by decide) ?_
  refine V_newa1 (N := 40) (by decide) ar_1 (by decide) (by decide) (by decide) ⟨by decide, by decide⟩ (by omega) dX0_init_7 ?_
  refine V_nsh (fun q1 eq1 => ?_)
  have hf := hf q1 eq1
  refine V_nz (fun z2 ez2 => ?_)
  have hf := hf z2 ez2
  obtain ⟨h3, hf⟩ := hf
  refine V_putRF (ci := 0) (k := 0) (by decide) (by decide) fk_X0_9 rfl rfl rfl rfl (fun _ => rfl) (fun _ => rfl) h3.1 h3.2 dX0_init_9 ?_
  refine V_nz (fun z4 ez4 => ?_)
  have hf := hf z4 ez4
  refine V_aload_n (j := 0) dX0_init_12 rfl rfl ?_
  refine V_bipush (v := (40 : Int32)) dX0_init_13 (by decide) ?_
  refine V_newa1 (N := 40) (by decide) ar_1 (by decide) (by decide) (by decide) ⟨by decide, by decide⟩ (by omega) dX0_init_15 ?_
  refine V_nsh (fun q5 eq5 => ?_)
  have hf := hf q5 eq5
  refine V_nz (fun z6 ez6 => ?_)
  have hf := hf z6 ez6
  obtain ⟨h7, hf⟩ := hf
  refine V_putRF (ci := 0) (k := 1) (by decide) (by decide) fk_X0_15 rfl rfl rfl rfl (fun _ => rfl) (fun _ => rfl) h7.1 h7.2 dX0_init_17 ?_
  refine V_nz (fun z8 ez8 => ?_)
  have hf := hf z8 ez8
  refine V_aload_n (j := 0) dX0_init_20 rfl rfl ?_
  refine V_bipush (v := (40 : Int32)) dX0_init_21 (by decide) ?_
  refine V_newa1 (N := 40) (by decide) ar_1 (by decide) (by decide) (by decide) ⟨by decide, by decide⟩ (by omega) dX0_init_23 ?_
  refine V_nsh (fun q9 eq9 => ?_)
  have hf := hf q9 eq9
  refine V_nz (fun z10 ez10 => ?_)
  have hf := hf z10 ez10
  obtain ⟨h11, hf⟩ := hf
  refine V_putRF (ci := 0) (k := 2) (by decide) (by decide) fk_X0_18 rfl rfl rfl rfl (fun _ => rfl) (fun _ => rfl) h11.1 h11.2 dX0_init_25 ?_
  refine V_nz (fun z12 ez12 => ?_)
  have hf := hf z12 ez12
  refine V_aload_n (j := 0) dX0_init_28 rfl rfl ?_
  refine V_iconst (v := (0 : Int32)) dX0_init_29 (by decide) ?_
  obtain ⟨h13, hf⟩ := hf
  refine V_putI fl_X0_21 rfl rfl rfl rfl h13.1 h13.2 dX0_init_30 ?_
  refine V_nz (fun z14 ez14 => ?_)
  have hf := hf z14 ez14
  refine V_aload_n (j := 0) dX0_init_33 rfl rfl ?_
  refine V_iconst (v := (-1 : Int32)) dX0_init_34 (by decide) ?_
  obtain ⟨h15, hf⟩ := hf
  refine V_putI fl_X0_25 rfl rfl rfl rfl h15.1 h15.2 dX0_init_35 ?_
  refine V_nz (fun z16 ez16 => ?_)
  have hf := hf z16 ez16
  refine V_aload_n (j := 0) dX0_init_38 rfl rfl ?_
  refine V_iconst (v := (-1 : Int32)) dX0_init_39 (by decide) ?_
  obtain ⟨h17, hf⟩ := hf
  refine V_putI fl_X0_28 rfl rfl rfl rfl h17.1 h17.2 dX0_init_40 ?_
  refine V_nz (fun z18 ez18 => ?_)
  have hf := hf z18 ez18
  exact V_return dX0_init_43 rfl (by decide) ⟨rfl, hf⟩
set_option maxRecDepth 100000 in
def wX11_init (n : Nat) (sh : Nat → Nat × Nat) (a0 : Nat) (z : gS) (P : Nat → (Nat → Nat × Nat) → gS → Prop) : Prop := ∀ q1 : Nat → Nat × Nat, q1 = va_up sh n (0, 5) → (∀ z2 : gS, z2 = z0 z n → (wX9_init (n + 1) q1 n z2 (fun (n3 : Nat) (q4 : Nat → Nat × Nat) (z5 : gS) => (n3 = (n + 1) + 1) ∧ ((oO (n + 2) q4 a0 7) ∧ (∀ z7 : gS, z7 = sr z5 a0 0 (some n) → (∀ q8 : Nat → Nat × Nat, q8 = va_up q4 (n + 2) (0, 6) → (∀ z9 : gS, z9 = z0 z7 (n + 2) → (wX10_init (n + 3) q8 (n + 2) z9 (fun (n10 : Nat) (q11 : Nat → Nat × Nat) (z12 : gS) => (n10 = (n + 3) + 3) ∧ ((oO (n + 6) q11 a0 7) ∧ (∀ z14 : gS, z14 = sr z12 a0 1 (some (n + 2)) → (∀ q15 : Nat → Nat × Nat, q15 = va_up q11 (n + 6) (0, 6) → (∀ z16 : gS, z16 = z0 z14 (n + 6) → (wX10_init (n + 7) q15 (n + 6) z16 (fun (n17 : Nat) (q18 : Nat → Nat × Nat) (z19 : gS) => (n17 = (n + 7) + 3) ∧ ((oO (n + 10) q18 a0 7) ∧ (∀ z21 : gS, z21 = sr z19 a0 2 (some (n + 6)) → (∀ q22 : Nat → Nat × Nat, q22 = va_up q18 (n + 10) (0, 2) → (∀ z23 : gS, z23 = z0 z21 (n + 10) → (wX4_init (n + 11) q22 (n + 10) z23 (fun (n24 : Nat) (q25 : Nat → Nat × Nat) (z26 : gS) => (n24 = (n + 11) + 65) ∧ ((oO (n + 76) q25 a0 7) ∧ (∀ z28 : gS, z28 = sr z26 a0 3 (some (n + 10)) → (∀ q29 : Nat → Nat × Nat, q29 = va_up q25 (n + 76) (5, 4) → (∀ z30 : gS, z30 = z0 z28 (n + 76) → ((oO (n + 77) q29 a0 7) ∧ (∀ z32 : gS, z32 = sr z30 a0 4 (some (n + 76)) → (∀ q33 : Nat → Nat × Nat, q33 = va_up q29 (n + 77) (0, 1) → (∀ z34 : gS, z34 = z0 z32 (n + 77) → (wX2_init (n + 78) q33 (n + 77) z34 (fun (n35 : Nat) (q36 : Nat → Nat × Nat) (z37 : gS) => (n35 = (n + 78) + 0) ∧ ((oO (n + 78) q36 a0 7) ∧ (∀ z39 : gS, z39 = sr z37 a0 5 (some (n + 77)) → ((oO (n + 78) q36 a0 7) ∧ (∀ z41 : gS, z41 = si z39 a0 6 (0 : Int32) → (∀ q42 : Nat → Nat × Nat, q42 = va_up q36 (n + 78) (0, 4) → (∀ z43 : gS, z43 = z0 z41 (n + 78) → (wX7_init (n + 79) q42 (n + 78) z43 (fun (n44 : Nat) (q45 : Nat → Nat × Nat) (z46 : gS) => (n44 = (n + 79) + 12) ∧ ((oO (n + 91) q45 a0 7) ∧ (∀ z48 : gS, z48 = sr z46 a0 7 (some (n + 78)) → (∀ q49 : Nat → Nat × Nat, q49 = va_up q45 (n + 91) (0, 4) → (∀ z50 : gS, z50 = z0 z48 (n + 91) → (wX7_init (n + 92) q49 (n + 91) z50 (fun (n51 : Nat) (q52 : Nat → Nat × Nat) (z53 : gS) => (n51 = (n + 92) + 12) ∧ ((oO (n + 104) q52 a0 7) ∧ (∀ z55 : gS, z55 = sr z53 a0 8 (some (n + 91)) → (∀ q56 : Nat → Nat × Nat, q56 = va_up q52 (n + 104) (0, 0) → (∀ z57 : gS, z57 = z0 z55 (n + 104) → (wX0_init (n + 105) q56 (n + 104) z57 (fun (n58 : Nat) (q59 : Nat → Nat × Nat) (z60 : gS) => (n58 = (n + 105) + 3) ∧ ((oO (n + 108) q59 a0 7) ∧ (∀ z62 : gS, z62 = sr z60 a0 9 (some (n + 104)) → (∀ q63 : Nat → Nat × Nat, q63 = va_up q59 (n + 108) (0, 0) → (∀ z64 : gS, z64 = z0 z62 (n + 108) → (wX0_init (n + 109) q63 (n + 108) z64 (fun (n65 : Nat) (q66 : Nat → Nat × Nat) (z67 : gS) => (n65 = (n + 109) + 3) ∧ ((oO (n + 112) q66 a0 7) ∧ (∀ z69 : gS, z69 = sr z67 a0 10 (some (n + 108)) → ((oO (n + 112) q66 a0 7) ∧ (∃ t71 : Nat, gr z69 a0 4 = some t71 ∧ (∀ q72 : Nat → Nat × Nat, q72 = va_up q66 (n + 112) (0, 6) → (∀ z73 : gS, z73 = z0 z69 (n + 112) → (wX10_init (n + 113) q72 (n + 112) z73 (fun (n74 : Nat) (q75 : Nat → Nat × Nat) (z76 : gS) => (n74 = (n + 113) + 3) ∧ ((oA (n + 116) q75 t71 5) ∧ ((vp_in (0 : Int32) (q75 t71).2) ∧ ((oO (n + 116) q75 (n + 112) 6) ∧ (∀ z80 : gS, z80 = sr z76 t71 (0 : Int32).toNatClampNeg (some (n + 112)) → ((oO (n + 116) q75 a0 7) ∧ (∃ t82 : Nat, gr z80 a0 4 = some t82 ∧ (∀ q83 : Nat → Nat × Nat, q83 = va_up q75 (n + 116) (0, 6) → (∀ z84 : gS, z84 = z0 z80 (n + 116) → (wX10_init (n + 117) q83 (n + 116) z84 (fun (n85 : Nat) (q86 : Nat → Nat × Nat) (z87 : gS) => (n85 = (n + 117) + 3) ∧ ((oA (n + 120) q86 t82 5) ∧ ((vp_in (1 : Int32) (q86 t82).2) ∧ ((oO (n + 120) q86 (n + 116) 6) ∧ (∀ z91 : gS, z91 = sr z87 t82 (1 : Int32).toNatClampNeg (some (n + 116)) → ((oO (n + 120) q86 a0 7) ∧ (∃ t93 : Nat, gr z91 a0 4 = some t93 ∧ (∀ q94 : Nat → Nat × Nat, q94 = va_up q86 (n + 120) (0, 6) → (∀ z95 : gS, z95 = z0 z91 (n + 120) → (wX10_init (n + 121) q94 (n + 120) z95 (fun (n96 : Nat) (q97 : Nat → Nat × Nat) (z98 : gS) => (n96 = (n + 121) + 3) ∧ ((oA (n + 124) q97 t93 5) ∧ ((vp_in (2 : Int32) (q97 t93).2) ∧ ((oO (n + 124) q97 (n + 120) 6) ∧ (∀ z102 : gS, z102 = sr z98 t93 (2 : Int32).toNatClampNeg (some (n + 120)) → ((oO (n + 124) q97 a0 7) ∧ (∃ t104 : Nat, gr z102 a0 4 = some t104 ∧ (∀ q105 : Nat → Nat × Nat, q105 = va_up q97 (n + 124) (0, 6) → (∀ z106 : gS, z106 = z0 z102 (n + 124) → (wX10_init (n + 125) q105 (n + 124) z106 (fun (n107 : Nat) (q108 : Nat → Nat × Nat) (z109 : gS) => (n107 = (n + 125) + 3) ∧ ((oA (n + 128) q108 t104 5) ∧ ((vp_in (3 : Int32) (q108 t104).2) ∧ ((oO (n + 128) q108 (n + 124) 6) ∧ (∀ z113 : gS, z113 = sr z109 t104 (3 : Int32).toNatClampNeg (some (n + 124)) → (P (n + 128) q108 z113))))))))))))))))))))))))))))))))))))))))))))))))))))))))))))))))))))))))))))))))))))))))))))))))))))
set_option maxRecDepth 100000 in
set_option maxHeartbeats 4000000 in
theorem ctX11_init {E : gE} {n : Nat} {sh : Nat → Nat × Nat} {a0 : Nat} {z : gS} {P : Nat → (Nat → Nat × Nat) → gS → Prop} (hn : gOK E n) (hao : gAO E) (hnb : n + 300 * 3 ≤ 1000000) (hf : wX11_init n sh a0 z P) : VM E 3 128 gyX11_init [.ref a0] n sh z (kA P) := by
  unfold wX11_init at hf
  refine VM.of (by decide +kernel) (Nat.le_of_ble_eq_true rfl) (fun _ _ _ h => by cases h.1) ?_
  show V E (gR 3 128) gyX11_init 128 0 0 [(0, .ref a0)] [] n sh z (kA P)
  refine V_aload_n (j := 0) dX11_init_0 rfl rfl ?_
  refine V_objInit ob_X11 obi obc ⟨by decide, by decide⟩ (Nat.le_of_ble_eq_true rfl) dX11_init_1 ?_
  refine V_aload_n (j := 0) dX11_init_4 rfl rfl ?_
  refine V_new (ci := 5) (by decide) (by decide) cl_X11_7 in_5 iz_5 df_5 (by decide) ⟨by decide, by decide⟩ (by omega) dX11_init_5 ?_
  refine V_nsh (fun q1 eq1 => ?_)
  have hf := hf q1 eq1
  refine V_nz (fun z2 ez2 => ?_)
  have hf := hf z2 ez2
  refine V_dup dX11_init_8 rfl ?_
  refine V_callI (mc1 := 1) (av := []) (ctX9_init (n := (n + 1)) ⟨by omega, hn.2⟩ hao (by omega) hf) gk_X11_9 rfl ⟨by decide, by decide, by decide, by decide⟩ (Nat.le_of_ble_eq_true rfl) (by decide) dX11_init_9 (fun r n3 q4 z5 hf => ?_)
  obtain ⟨hr, en3, hf⟩ := hf
  subst hr
  refine ⟨by omega, fun _ => en3, ?_⟩
  subst en3
  show V E (gR 3 128) gyX11_init 128 2 12 [(0, .ref a0)] [.ref n, .ref a0] (n + 2) q4 z5 (kA P)
  obtain ⟨h6, hf⟩ := hf
  refine V_putRF (ci := 7) (k := 0) (by decide) (by decide) fk_X11_10 rfl rfl rfl rfl (fun _ => rfl) (fun _ => rfl) h6.1 h6.2 dX11_init_12 ?_
  refine V_nz (fun z7 ez7 => ?_)
  have hf := hf z7 ez7
  refine V_aload_n (j := 0) dX11_init_15 rfl rfl ?_
  refine V_new (ci := 6) (by decide) (by decide) cl_X11_16 in_6 iz_6 df_6 (by decide) ⟨by decide, by decide⟩ (by omega) dX11_init_16 ?_
  refine V_nsh (fun q8 eq8 => ?_)
  have hf := hf q8 eq8
  refine V_nz (fun z9 ez9 => ?_)
  have hf := hf z9 ez9
  refine V_dup dX11_init_19 rfl ?_
  refine V_callI (mc1 := 3) (av := []) (ctX10_init (n := (n + 3)) ⟨by omega, hn.2⟩ hao (by omega) hf) gk_X11_18 rfl ⟨by decide, by decide, by decide, by decide⟩ (Nat.le_of_ble_eq_true rfl) (by decide) dX11_init_20 (fun r n10 q11 z12 hf => ?_)
  obtain ⟨hr, en10, hf⟩ := hf
  subst hr
  refine ⟨by omega, fun _ => en10, ?_⟩
  subst en10
  show V E (gR 3 128) gyX11_init 128 6 23 [(0, .ref a0)] [.ref (n + 2), .ref a0] (n + 6) q11 z12 (kA P)
  obtain ⟨h13, hf⟩ := hf
  refine V_putRF (ci := 7) (k := 1) (by decide) (by decide) fk_X11_19 rfl rfl rfl rfl (fun _ => rfl) (fun _ => rfl) h13.1 h13.2 dX11_init_23 ?_
  refine V_nz (fun z14 ez14 => ?_)
  have hf := hf z14 ez14
  refine V_aload_n (j := 0) dX11_init_26 rfl rfl ?_
  refine V_new (ci := 6) (by decide) (by decide) cl_X11_16 in_6 iz_6 df_6 (by decide) ⟨by decide, by decide⟩ (by omega) dX11_init_27 ?_
  refine V_nsh (fun q15 eq15 => ?_)
  have hf := hf q15 eq15
  refine V_nz (fun z16 ez16 => ?_)
  have hf := hf z16 ez16
  refine V_dup dX11_init_30 rfl ?_
  refine V_callI (mc1 := 3) (av := []) (ctX10_init (n := (n + 7)) ⟨by omega, hn.2⟩ hao (by omega) hf) gk_X11_18 rfl ⟨by decide, by decide, by decide, by decide⟩ (Nat.le_of_ble_eq_true rfl) (by decide) dX11_init_31 (fun r n17 q18 z19 hf => ?_)
  obtain ⟨hr, en17, hf⟩ := hf
  subst hr
  refine ⟨by omega, fun _ => en17, ?_⟩
  subst en17
  show V E (gR 3 128) gyX11_init 128 10 34 [(0, .ref a0)] [.ref (n + 6), .ref a0] (n + 10) q18 z19 (kA P)
  obtain ⟨h20, hf⟩ := hf
  refine V_putRF (ci := 7) (k := 2) (by decide) (by decide) fk_X11_23 rfl rfl rfl rfl (fun _ => rfl) (fun _ => rfl) h20.1 h20.2 dX11_init_34 ?_
  refine V_nz (fun z21 ez21 => ?_)
  have hf := hf z21 ez21
  refine V_aload_n (j := 0) dX11_init_37 rfl rfl ?_
  refine V_new (ci := 2) (by decide) (by decide) cl_X11_26 in_2 iz_2 df_2 (by decide) ⟨by decide, by decide⟩ (by omega) dX11_init_38 ?_
  refine V_nsh (fun q22 eq22 => ?_)
  have hf := hf q22 eq22
  refine V_nz (fun z23 ez23 => ?_)
  have hf := hf z23 ez23
  refine V_dup dX11_init_41 rfl ?_
  refine V_callI (mc1 := 65) (av := []) (ctX4_init (n := (n + 11)) ⟨by omega, hn.2⟩ hao (by omega) hf) gk_X11_28 rfl ⟨by decide, by decide, by decide, by decide⟩ (Nat.le_of_ble_eq_true rfl) (by decide) dX11_init_42 (fun r n24 q25 z26 hf => ?_)
  obtain ⟨hr, en24, hf⟩ := hf
  subst hr
  refine ⟨by omega, fun _ => en24, ?_⟩
  subst en24
  show V E (gR 3 128) gyX11_init 128 76 45 [(0, .ref a0)] [.ref (n + 10), .ref a0] (n + 76) q25 z26 (kA P)
  obtain ⟨h27, hf⟩ := hf
  refine V_putRF (ci := 7) (k := 3) (by decide) (by decide) fk_X11_29 rfl rfl rfl rfl (fun _ => rfl) (fun _ => rfl) h27.1 h27.2 dX11_init_45 ?_
  refine V_nz (fun z28 ez28 => ?_)
  have hf := hf z28 ez28
  refine V_aload_n (j := 0) dX11_init_48 rfl rfl ?_
  refine V_iconst (v := (4 : Int32)) dX11_init_49 (by decide) ?_
  refine V_newaW (N := 4) hao (by decide) cl_X11_16 (by decide) (by decide) (by decide) ⟨by decide, by decide⟩ (by omega) dX11_init_50 ?_
  refine V_nsh (fun q29 eq29 => ?_)
  have hf := hf q29 eq29
  refine V_nz (fun z30 ez30 => ?_)
  have hf := hf z30 ez30
  obtain ⟨h31, hf⟩ := hf
  refine V_putRF (ci := 7) (k := 4) (by decide) (by decide) fk_X11_33 rfl rfl rfl rfl (fun _ => rfl) (fun _ => rfl) h31.1 h31.2 dX11_init_53 ?_
  refine V_nz (fun z32 ez32 => ?_)
  have hf := hf z32 ez32
  refine V_aload_n (j := 0) dX11_init_56 rfl rfl ?_
  refine V_new (ci := 1) (by decide) (by decide) cl_X11_37 in_1 iz_1 df_1 (by decide) ⟨by decide, by decide⟩ (by omega) dX11_init_57 ?_
  refine V_nsh (fun q33 eq33 => ?_)
  have hf := hf q33 eq33
  refine V_nz (fun z34 ez34 => ?_)
  have hf := hf z34 ez34
  refine V_dup dX11_init_60 rfl ?_
  refine V_callI (mc1 := 0) (av := []) (ctX2_init (n := (n + 78)) ⟨by omega, hn.2⟩ hao (by omega) hf) gk_X11_39 rfl ⟨by decide, by decide, by decide, by decide⟩ (Nat.le_of_ble_eq_true rfl) (by decide) dX11_init_61 (fun r n35 q36 z37 hf => ?_)
  obtain ⟨hr, en35, hf⟩ := hf
  subst hr
  refine ⟨by omega, fun _ => en35, ?_⟩
  subst en35
  show V E (gR 3 128) gyX11_init 128 78 64 [(0, .ref a0)] [.ref (n + 77), .ref a0] (n + 78) q36 z37 (kA P)
  obtain ⟨h38, hf⟩ := hf
  refine V_putRF (ci := 7) (k := 5) (by decide) (by decide) fk_X11_40 rfl rfl rfl rfl (fun _ => rfl) (fun _ => rfl) h38.1 h38.2 dX11_init_64 ?_
  refine V_nz (fun z39 ez39 => ?_)
  have hf := hf z39 ez39
  refine V_aload_n (j := 0) dX11_init_67 rfl rfl ?_
  refine V_iconst (v := (0 : Int32)) dX11_init_68 (by decide) ?_
  obtain ⟨h40, hf⟩ := hf
  refine V_putI fl_X11_44 rfl rfl rfl rfl h40.1 h40.2 dX11_init_69 ?_
  refine V_nz (fun z41 ez41 => ?_)
  have hf := hf z41 ez41
  refine V_aload_n (j := 0) dX11_init_72 rfl rfl ?_
  refine V_new (ci := 4) (by decide) (by decide) cl_X11_48 in_4 iz_4 df_4 (by decide) ⟨by decide, by decide⟩ (by omega) dX11_init_73 ?_
  refine V_nsh (fun q42 eq42 => ?_)
  have hf := hf q42 eq42
  refine V_nz (fun z43 ez43 => ?_)
  have hf := hf z43 ez43
  refine V_dup dX11_init_76 rfl ?_
  refine V_callI (mc1 := 12) (av := []) (ctX7_init (n := (n + 79)) ⟨by omega, hn.2⟩ hao (by omega) hf) gk_X11_50 rfl ⟨by decide, by decide, by decide, by decide⟩ (Nat.le_of_ble_eq_true rfl) (by decide) dX11_init_77 (fun r n44 q45 z46 hf => ?_)
  obtain ⟨hr, en44, hf⟩ := hf
  subst hr
  refine ⟨by omega, fun _ => en44, ?_⟩
  subst en44
  show V E (gR 3 128) gyX11_init 128 91 80 [(0, .ref a0)] [.ref (n + 78), .ref a0] (n + 91) q45 z46 (kA P)
  obtain ⟨h47, hf⟩ := hf
  refine V_putR fl_X11_51 rfl rfl (fun _ => rfl) (fun _ => rfl) h47.1 h47.2 dX11_init_80 ?_
  refine V_nz (fun z48 ez48 => ?_)
  have hf := hf z48 ez48
  refine V_aload_n (j := 0) dX11_init_83 rfl rfl ?_
  refine V_new (ci := 4) (by decide) (by decide) cl_X11_48 in_4 iz_4 df_4 (by decide) ⟨by decide, by decide⟩ (by omega) dX11_init_84 ?_
  refine V_nsh (fun q49 eq49 => ?_)
  have hf := hf q49 eq49
  refine V_nz (fun z50 ez50 => ?_)
  have hf := hf z50 ez50
  refine V_dup dX11_init_87 rfl ?_
  refine V_callI (mc1 := 12) (av := []) (ctX7_init (n := (n + 92)) ⟨by omega, hn.2⟩ hao (by omega) hf) gk_X11_50 rfl ⟨by decide, by decide, by decide, by decide⟩ (Nat.le_of_ble_eq_true rfl) (by decide) dX11_init_88 (fun r n51 q52 z53 hf => ?_)
  obtain ⟨hr, en51, hf⟩ := hf
  subst hr
  refine ⟨by omega, fun _ => en51, ?_⟩
  subst en51
  show V E (gR 3 128) gyX11_init 128 104 91 [(0, .ref a0)] [.ref (n + 91), .ref a0] (n + 104) q52 z53 (kA P)
  obtain ⟨h54, hf⟩ := hf
  refine V_putR fl_X11_55 rfl rfl (fun _ => rfl) (fun _ => rfl) h54.1 h54.2 dX11_init_91 ?_
  refine V_nz (fun z55 ez55 => ?_)
  have hf := hf z55 ez55
  refine V_aload_n (j := 0) dX11_init_94 rfl rfl ?_
  refine V_new (ci := 0) (by decide) (by decide) cl_X11_58 in_0 iz_0 df_0 (by decide) ⟨by decide, by decide⟩ (by omega) dX11_init_95 ?_
  refine V_nsh (fun q56 eq56 => ?_)
  have hf := hf q56 eq56
  refine V_nz (fun z57 ez57 => ?_)
  have hf := hf z57 ez57
  refine V_dup dX11_init_98 rfl ?_
  refine V_callI (mc1 := 3) (av := []) (ctX0_init (n := (n + 105)) ⟨by omega, hn.2⟩ hao (by omega) hf) gk_X11_60 rfl ⟨by decide, by decide, by decide, by decide⟩ (Nat.le_of_ble_eq_true rfl) (by decide) dX11_init_99 (fun r n58 q59 z60 hf => ?_)
  obtain ⟨hr, en58, hf⟩ := hf
  subst hr
  refine ⟨by omega, fun _ => en58, ?_⟩
  subst en58
  show V E (gR 3 128) gyX11_init 128 108 102 [(0, .ref a0)] [.ref (n + 104), .ref a0] (n + 108) q59 z60 (kA P)
  obtain ⟨h61, hf⟩ := hf
  refine V_putR fl_X11_61 rfl rfl (fun _ => rfl) (fun _ => rfl) h61.1 h61.2 dX11_init_102 ?_
  refine V_nz (fun z62 ez62 => ?_)
  have hf := hf z62 ez62
  refine V_aload_n (j := 0) dX11_init_105 rfl rfl ?_
  refine V_new (ci := 0) (by decide) (by decide) cl_X11_58 in_0 iz_0 df_0 (by decide) ⟨by decide, by decide⟩ (by omega) dX11_init_106 ?_
  refine V_nsh (fun q63 eq63 => ?_)
  have hf := hf q63 eq63
  refine V_nz (fun z64 ez64 => ?_)
  have hf := hf z64 ez64
  refine V_dup dX11_init_109 rfl ?_
  refine V_callI (mc1 := 3) (av := []) (ctX0_init (n := (n + 109)) ⟨by omega, hn.2⟩ hao (by omega) hf) gk_X11_60 rfl ⟨by decide, by decide, by decide, by decide⟩ (Nat.le_of_ble_eq_true rfl) (by decide) dX11_init_110 (fun r n65 q66 z67 hf => ?_)
  obtain ⟨hr, en65, hf⟩ := hf
  subst hr
  refine ⟨by omega, fun _ => en65, ?_⟩
  subst en65
  show V E (gR 3 128) gyX11_init 128 112 113 [(0, .ref a0)] [.ref (n + 108), .ref a0] (n + 112) q66 z67 (kA P)
  obtain ⟨h68, hf⟩ := hf
  refine V_putR fl_X11_65 rfl rfl (fun _ => rfl) (fun _ => rfl) h68.1 h68.2 dX11_init_113 ?_
  refine V_nz (fun z69 ez69 => ?_)
  have hf := hf z69 ez69
  refine V_iconst (v := (0 : Int32)) dX11_init_116 (by decide) ?_
  refine V_istore_n (ls2 := [(1, .int (0 : Int32)), (0, .ref a0)]) dX11_init_117 rfl (by decide) rfl ?_
  refine V_iload_n (j := 0) dX11_init_118 rfl rfl ?_
  refine V_iconst (v := (4 : Int32)) dX11_init_119 (by decide) ?_
  refine V_icmp_ge (tgt := 142) dX11_init_120 (by decide) (fun h => absurd h (by decide)) (fun _ => ?_)
  refine V_aload_n (j := 1) dX11_init_123 rfl rfl ?_
  obtain ⟨h70, hf⟩ := hf
  obtain ⟨t71, et71, hf⟩ := hf
  refine V_getR fl_X11_33 rfl h70.1 h70.2 et71 dX11_init_124 ?_
  refine V_iload_n (j := 0) dX11_init_127 rfl rfl ?_
  refine V_new (ci := 6) (by decide) (by decide) cl_X11_16 in_6 iz_6 df_6 (by decide) ⟨by decide, by decide⟩ (by omega) dX11_init_128 ?_
  refine V_nsh (fun q72 eq72 => ?_)
  have hf := hf q72 eq72
  refine V_nz (fun z73 ez73 => ?_)
  have hf := hf z73 ez73
  refine V_dup dX11_init_131 rfl ?_
  refine V_callI (mc1 := 3) (av := []) (ctX10_init (n := (n + 113)) ⟨by omega, hn.2⟩ hao (by omega) hf) gk_X11_18 rfl ⟨by decide, by decide, by decide, by decide⟩ (Nat.le_of_ble_eq_true rfl) (by decide) dX11_init_132 (fun r n74 q75 z76 hf => ?_)
  obtain ⟨hr, en74, hf⟩ := hf
  subst hr
  refine ⟨by omega, fun _ => en74, ?_⟩
  subst en74
  show V E (gR 3 128) gyX11_init 128 116 135 [(1, .int (0 : Int32)), (0, .ref a0)] [.ref (n + 112), .int (0 : Int32), .ref t71] (n + 116) q75 z76 (kA P)
  obtain ⟨h77, hf⟩ := hf
  obtain ⟨h78, hf⟩ := hf
  obtain ⟨h79, hf⟩ := hf
  refine V_aast h77.1 h77.s h78 h79.1 h79.2 dX11_init_135 ?_
  refine V_nz (fun z80 ez80 => ?_)
  have hf := hf z80 ez80
  refine V_iinc (j := 0) (v := (1 : Int32)) (ls2 := [(1, .int (1 : Int32)), (0, .ref a0)]) dX11_init_136 rfl (by decide) (by decide) rfl ?_
  refine V_goto (tgt := 118) dX11_init_139 (by decide) ?_
  refine V_iload_n (j := 0) dX11_init_118 rfl rfl ?_
  refine V_iconst (v := (4 : Int32)) dX11_init_119 (by decide) ?_
  refine V_icmp_ge (tgt := 142) dX11_init_120 (by decide) (fun h => absurd h (by decide)) (fun _ => ?_)
  refine V_aload_n (j := 1) dX11_init_123 rfl rfl ?_
  obtain ⟨h81, hf⟩ := hf
  obtain ⟨t82, et82, hf⟩ := hf
  refine V_getR fl_X11_33 rfl h81.1 h81.2 et82 dX11_init_124 ?_
  refine V_iload_n (j := 0) dX11_init_127 rfl rfl ?_
  refine V_new (ci := 6) (by decide) (by decide) cl_X11_16 in_6 iz_6 df_6 (by decide) ⟨by decide, by decide⟩ (by omega) dX11_init_128 ?_
  refine V_nsh (fun q83 eq83 => ?_)
  have hf := hf q83 eq83
  refine V_nz (fun z84 ez84 => ?_)
  have hf := hf z84 ez84
  refine V_dup dX11_init_131 rfl ?_
  refine V_callI (mc1 := 3) (av := []) (ctX10_init (n := (n + 117)) ⟨by omega, hn.2⟩ hao (by omega) hf) gk_X11_18 rfl ⟨by decide, by decide, by decide, by decide⟩ (Nat.le_of_ble_eq_true rfl) (by decide) dX11_init_132 (fun r n85 q86 z87 hf => ?_)
  obtain ⟨hr, en85, hf⟩ := hf
  subst hr
  refine ⟨by omega, fun _ => en85, ?_⟩
  subst en85
  show V E (gR 3 128) gyX11_init 128 120 135 [(1, .int (1 : Int32)), (0, .ref a0)] [.ref (n + 116), .int (1 : Int32), .ref t82] (n + 120) q86 z87 (kA P)
  obtain ⟨h88, hf⟩ := hf
  obtain ⟨h89, hf⟩ := hf
  obtain ⟨h90, hf⟩ := hf
  refine V_aast h88.1 h88.s h89 h90.1 h90.2 dX11_init_135 ?_
  refine V_nz (fun z91 ez91 => ?_)
  have hf := hf z91 ez91
  refine V_iinc (j := 0) (v := (2 : Int32)) (ls2 := [(1, .int (2 : Int32)), (0, .ref a0)]) dX11_init_136 rfl (by decide) (by decide) rfl ?_
  refine V_goto (tgt := 118) dX11_init_139 (by decide) ?_
  refine V_iload_n (j := 0) dX11_init_118 rfl rfl ?_
  refine V_iconst (v := (4 : Int32)) dX11_init_119 (by decide) ?_
  refine V_icmp_ge (tgt := 142) dX11_init_120 (by decide) (fun h => absurd h (by decide)) (fun _ => ?_)
  refine V_aload_n (j := 1) dX11_init_123 rfl rfl ?_
  obtain ⟨h92, hf⟩ := hf
  obtain ⟨t93, et93, hf⟩ := hf
  refine V_getR fl_X11_33 rfl h92.1 h92.2 et93 dX11_init_124 ?_
  refine V_iload_n (j := 0) dX11_init_127 rfl rfl ?_
  refine V_new (ci := 6) (by decide) (by decide) cl_X11_16 in_6 iz_6 df_6 (by decide) ⟨by decide, by decide⟩ (by omega) dX11_init_128 ?_
  refine V_nsh (fun q94 eq94 => ?_)
  have hf := hf q94 eq94
  refine V_nz (fun z95 ez95 => ?_)
  have hf := hf z95 ez95
  refine V_dup dX11_init_131 rfl ?_
  refine V_callI (mc1 := 3) (av := []) (ctX10_init (n := (n + 121)) ⟨by omega, hn.2⟩ hao (by omega) hf) gk_X11_18 rfl ⟨by decide, by decide, by decide, by decide⟩ (Nat.le_of_ble_eq_true rfl) (by decide) dX11_init_132 (fun r n96 q97 z98 hf => ?_)
  obtain ⟨hr, en96, hf⟩ := hf
  subst hr
  refine ⟨by omega, fun _ => en96, ?_⟩
  subst en96
  show V E (gR 3 128) gyX11_init 128 124 135 [(1, .int (2 : Int32)), (0, .ref a0)] [.ref (n + 120), .int (2 : Int32), .ref t93] (n + 124) q97 z98 (kA P)
  obtain ⟨h99, hf⟩ := hf
  obtain ⟨h100, hf⟩ := hf
  obtain ⟨h101, hf⟩ := hf
  refine V_aast h99.1 h99.s h100 h101.1 h101.2 dX11_init_135 ?_
  refine V_nz (fun z102 ez102 => ?_)
  have hf := hf z102 ez102
  refine V_iinc (j := 0) (v := (3 : Int32)) (ls2 := [(1, .int (3 : Int32)), (0, .ref a0)]) dX11_init_136 rfl (by decide) (by decide) rfl ?_
  refine V_goto (tgt := 118) dX11_init_139 (by decide) ?_
  refine V_iload_n (j := 0) dX11_init_118 rfl rfl ?_
  refine V_iconst (v := (4 : Int32)) dX11_init_119 (by decide) ?_
  refine V_icmp_ge (tgt := 142) dX11_init_120 (by decide) (fun h => absurd h (by decide)) (fun _ => ?_)
  refine V_aload_n (j := 1) dX11_init_123 rfl rfl ?_
  obtain ⟨h103, hf⟩ := hf
  obtain ⟨t104, et104, hf⟩ := hf
  refine V_getR fl_X11_33 rfl h103.1 h103.2 et104 dX11_init_124 ?_
  refine V_iload_n (j := 0) dX11_init_127 rfl rfl ?_
  refine V_new (ci := 6) (by decide) (by decide) cl_X11_16 in_6 iz_6 df_6 (by decide) ⟨by decide, by decide⟩ (by omega) dX11_init_128 ?_
  refine V_nsh (fun q105 eq105 => ?_)
  have hf := hf q105 eq105
  refine V_nz (fun z106 ez106 => ?_)
  have hf := hf z106 ez106
  refine V_dup dX11_init_131 rfl ?_
  refine V_callI (mc1 := 3) (av := []) (ctX10_init (n := (n + 125)) ⟨by omega, hn.2⟩ hao (by omega) hf) gk_X11_18 rfl ⟨by decide, by decide, by decide, by decide⟩ (Nat.le_of_ble_eq_true rfl) (by decide) dX11_init_132 (fun r n107 q108 z109 hf => ?_)
  obtain ⟨hr, en107, hf⟩ := hf
  subst hr
  refine ⟨by omega, fun _ => en107, ?_⟩
  subst en107
  show V E (gR 3 128) gyX11_init 128 128 135 [(1, .int (3 : Int32)), (0, .ref a0)] [.ref (n + 124), .int (3 : Int32), .ref t104] (n + 128) q108 z109 (kA P)
  obtain ⟨h110, hf⟩ := hf
  obtain ⟨h111, hf⟩ := hf
  obtain ⟨h112, hf⟩ := hf
  refine V_aast h110.1 h110.s h111 h112.1 h112.2 dX11_init_135 ?_
  refine V_nz (fun z113 ez113 => ?_)
  have hf := hf z113 ez113
  refine V_iinc (j := 0) (v := (4 : Int32)) (ls2 := [(1, .int (4 : Int32)), (0, .ref a0)]) dX11_init_136 rfl (by decide) (by decide) rfl ?_
  refine V_goto (tgt := 118) dX11_init_139 (by decide) ?_
  refine V_iload_n (j := 0) dX11_init_118 rfl rfl ?_
  refine V_iconst (v := (4 : Int32)) dX11_init_119 (by decide) ?_
  refine V_icmp_ge (tgt := 142) dX11_init_120 (by decide) (fun _ => ?_) (fun h => absurd (by decide) h)
  exact V_return dX11_init_142 rfl (by decide) ⟨rfl, hf⟩
set_option maxRecDepth 100000 in
def wX12_init (n : Nat) (sh : Nat → Nat × Nat) (a0 : Nat) (z : gS) (P : Nat → (Nat → Nat × Nat) → gS → Prop) : Prop := ∀ q1 : Nat → Nat × Nat, q1 = va_up sh n (1, 1000) → (∀ z2 : gS, z2 = z0 z n → ((oO (n + 1) q1 a0 8) ∧ (∀ z4 : gS, z4 = sr z2 a0 1 (some n) → (∀ q5 : Nat → Nat × Nat, q5 = va_up q1 (n + 1) (1, 1002) → (∀ z6 : gS, z6 = z0 z4 (n + 1) → ((oO (n + 2) q5 a0 8) ∧ (∀ z8 : gS, z8 = sr z6 a0 4 (some (n + 1)) → (∀ q9 : Nat → Nat × Nat, q9 = va_up q5 (n + 2) (1, 1002) → (∀ z10 : gS, z10 = z0 z8 (n + 2) → ((oO (n + 3) q9 a0 8) ∧ (∀ z12 : gS, z12 = sr z10 a0 5 (some (n + 2)) → (∀ q13 : Nat → Nat × Nat, q13 = va_up q9 (n + 3) (2, 1002) → (∀ z14 : gS, z14 = z0 z12 (n + 3) → ((oO (n + 4) q13 a0 8) ∧ (∀ z16 : gS, z16 = sr z14 a0 6 (some (n + 3)) → (∀ q17 : Nat → Nat × Nat, q17 = va_up q13 (n + 4) (2, 26) → (∀ z18 : gS, z18 = z0 z16 (n + 4) → ((oA (n + 5) q17 (n + 4) 2) ∧ ((vp_in (0 : Int32) (q17 (n + 4)).2) ∧ (∀ z21 : gS, z21 = sl z18 (n + 4) (0 : Int32).toNatClampNeg (812340 : Int64) → ((oA (n + 5) q17 (n + 4) 2) ∧ ((vp_in (1 : Int32) (q17 (n + 4)).2) ∧ (∀ z24 : gS, z24 = sl z21 (n + 4) (1 : Int32).toNatClampNeg (20876492 : Int64) → ((oA (n + 5) q17 (n + 4) 2) ∧ ((vp_in (2 : Int32) (q17 (n + 4)).2) ∧ (∀ z27 : gS, z27 = sl z24 (n + 4) (2 : Int32).toNatClampNeg (969456 : Int64) → ((oA (n + 5) q17 (n + 4) 2) ∧ ((vp_in (3 : Int32) (q17 (n + 4)).2) ∧ (∀ z30 : gS, z30 = sl z27 (n + 4) (3 : Int32).toNatClampNeg (1119812451 : Int64) → ((oA (n + 5) q17 (n + 4) 2) ∧ ((vp_in (4 : Int32) (q17 (n + 4)).2) ∧ (∀ z33 : gS, z33 = sl z30 (n + 4) (4 : Int32).toNatClampNeg (57 : Int64) → ((oA (n + 5) q17 (n + 4) 2) ∧ ((vp_in (5 : Int32) (q17 (n + 4)).2) ∧ (∀ z36 : gS, z36 = sl z33 (n + 4) (5 : Int32).toNatClampNeg (209646 : Int64) → ((oA (n + 5) q17 (n + 4) 2) ∧ ((vp_in (6 : Int32) (q17 (n + 4)).2) ∧ (∀ z39 : gS, z39 = sl z36 (n + 4) (6 : Int32).toNatClampNeg (407272 : Int64) → ((oA (n + 5) q17 (n + 4) 2) ∧ ((vp_in (7 : Int32) (q17 (n + 4)).2) ∧ (∀ z42 : gS, z42 = sl z39 (n + 4) (7 : Int32).toNatClampNeg (22955708 : Int64) → ((oA (n + 5) q17 (n + 4) 2) ∧ ((vp_in (8 : Int32) (q17 (n + 4)).2) ∧ (∀ z45 : gS, z45 = sl z42 (n + 4) (8 : Int32).toNatClampNeg (11301299 : Int64) → ((oA (n + 5) q17 (n + 4) 2) ∧ ((vp_in (9 : Int32) (q17 (n + 4)).2) ∧ (∀ z48 : gS, z48 = sl z45 (n + 4) (9 : Int32).toNatClampNeg (1166843 : Int64) → ((oA (n + 5) q17 (n + 4) 2) ∧ ((vp_in (10 : Int32) (q17 (n + 4)).2) ∧ (∀ z51 : gS, z51 = sl z48 (n + 4) (10 : Int32).toNatClampNeg (223351 : Int64) → ((oA (n + 5) q17 (n + 4) 2) ∧ ((vp_in (11 : Int32) (q17 (n + 4)).2) ∧ (∀ z54 : gS, z54 = sl z51 (n + 4) (11 : Int32).toNatClampNeg (1167099 : Int64) → ((oA (n + 5) q17 (n + 4) 2) ∧ ((vp_in (12 : Int32) (q17 (n + 4)).2) ∧ (∀ z57 : gS, z57 = sl z54 (n + 4) (12 : Int32).toNatClampNeg (9188151998 : Int64) → ((oA (n + 5) q17 (n + 4) 2) ∧ ((vp_in (13 : Int32) (q17 (n + 4)).2) ∧ (∀ z60 : gS, z60 = sl z57 (n + 4) (13 : Int32).toNatClampNeg (36643177 : Int64) → ((oA (n + 5) q17 (n + 4) 2) ∧ ((vp_in (14 : Int32) (q17 (n + 4)).2) ∧ (∀ z63 : gS, z63 = sl z60 (n + 4) (14 : Int32).toNatClampNeg (426554 : Int64) → ((oA (n + 5) q17 (n + 4) 2) ∧ ((vp_in (15 : Int32) (q17 (n + 4)).2) ∧ (∀ z66 : gS, z66 = sl z63 (n + 4) (15 : Int32).toNatClampNeg (30596128 : Int64) → ((oA (n + 5) q17 (n + 4) 2) ∧ ((vp_in (16 : Int32) (q17 (n + 4)).2) ∧ (∀ z69 : gS, z69 = sl z66 (n + 4) (16 : Int32).toNatClampNeg (16671652071 : Int64) → ((oA (n + 5) q17 (n + 4) 2) ∧ ((vp_in (17 : Int32) (q17 (n + 4)).2) ∧ (∀ z72 : gS, z72 = sl z69 (n + 4) (17 : Int32).toNatClampNeg (37900887 : Int64) → ((oA (n + 5) q17 (n + 4) 2) ∧ ((vp_in (18 : Int32) (q17 (n + 4)).2) ∧ (∀ z75 : gS, z75 = sl z72 (n + 4) (18 : Int32).toNatClampNeg (919275859 : Int64) → ((oA (n + 5) q17 (n + 4) 2) ∧ ((vp_in (19 : Int32) (q17 (n + 4)).2) ∧ (∀ z78 : gS, z78 = sl z75 (n + 4) (19 : Int32).toNatClampNeg (19741 : Int64) → ((oA (n + 5) q17 (n + 4) 2) ∧ ((vp_in (20 : Int32) (q17 (n + 4)).2) ∧ (∀ z81 : gS, z81 = sl z78 (n + 4) (20 : Int32).toNatClampNeg (1891 : Int64) → ((oA (n + 5) q17 (n + 4) 2) ∧ ((vp_in (21 : Int32) (q17 (n + 4)).2) ∧ (∀ z84 : gS, z84 = sl z81 (n + 4) (21 : Int32).toNatClampNeg (573 : Int64) → ((oA (n + 5) q17 (n + 4) 2) ∧ ((vp_in (22 : Int32) (q17 (n + 4)).2) ∧ (∀ z87 : gS, z87 = sl z84 (n + 4) (22 : Int32).toNatClampNeg (1633 : Int64) → ((oA (n + 5) q17 (n + 4) 2) ∧ ((vp_in (23 : Int32) (q17 (n + 4)).2) ∧ (∀ z90 : gS, z90 = sl z87 (n + 4) (23 : Int32).toNatClampNeg (2779 : Int64) → ((oA (n + 5) q17 (n + 4) 2) ∧ ((vp_in (24 : Int32) (q17 (n + 4)).2) ∧ (∀ z93 : gS, z93 = sl z90 (n + 4) (24 : Int32).toNatClampNeg (16781 : Int64) → ((oA (n + 5) q17 (n + 4) 2) ∧ ((vp_in (25 : Int32) (q17 (n + 4)).2) ∧ (∀ z96 : gS, z96 = sl z93 (n + 4) (25 : Int32).toNatClampNeg (26523209 : Int64) → ((oO (n + 5) q17 a0 8) ∧ (∀ z98 : gS, z98 = sr z96 a0 9 (some (n + 4)) → (∀ q99 : Nat → Nat × Nat, q99 = va_up q17 (n + 5) (1, 120) → (∀ z100 : gS, z100 = z0 z98 (n + 5) → ((oO (n + 6) q99 a0 8) ∧ (∀ z102 : gS, z102 = sr z100 a0 10 (some (n + 5)) → (∀ q103 : Nat → Nat × Nat, q103 = va_up q99 (n + 6) (1, 2200) → (∀ z104 : gS, z104 = z0 z102 (n + 6) → ((oO (n + 7) q103 a0 8) ∧ (∀ z106 : gS, z106 = sr z104 a0 11 (some (n + 6)) → (∀ q107 : Nat → Nat × Nat, q107 = va_up q103 (n + 7) (1, 2200) → (∀ z108 : gS, z108 = z0 z106 (n + 7) → ((oO (n + 8) q107 a0 8) ∧ (∀ z110 : gS, z110 = sr z108 a0 12 (some (n + 7)) → (∀ q111 : Nat → Nat × Nat, q111 = va_up q107 (n + 8) (2, 16) → (∀ z112 : gS, z112 = z0 z110 (n + 8) → ((oO (n + 9) q111 a0 8) ∧ (∀ z114 : gS, z114 = sr z112 a0 14 (some (n + 8)) → (∀ q115 : Nat → Nat × Nat, q115 = va_up q111 (n + 9) (2, 16) → (∀ z116 : gS, z116 = z0 z114 (n + 9) → ((oO (n + 10) q115 a0 8) ∧ (∀ z118 : gS, z118 = sr z116 a0 15 (some (n + 9)) → (∀ q119 : Nat → Nat × Nat, q119 = va_up q115 (n + 10) (1, 16) → (∀ z120 : gS, z120 = z0 z118 (n + 10) → ((oO (n + 11) q119 a0 8) ∧ (∀ z122 : gS, z122 = sr z120 a0 16 (some (n + 10)) → (∀ q123 : Nat → Nat × Nat, q123 = va_up q119 (n + 11) (1, 16) → (∀ z124 : gS, z124 = z0 z122 (n + 11) → ((oO (n + 12) q123 a0 8) ∧ (∀ z126 : gS, z126 = sr z124 a0 17 (some (n + 11)) → (∀ q127 : Nat → Nat × Nat, q127 = va_up q123 (n + 12) (1, 250) → (∀ z128 : gS, z128 = z0 z126 (n + 12) → ((oO (n + 13) q127 a0 8) ∧ (∀ z130 : gS, z130 = sr z128 a0 21 (some (n + 12)) → (∀ q131 : Nat → Nat × Nat, q131 = va_up q127 (n + 13) (1, 4) → (∀ z132 : gS, z132 = z0 z130 (n + 13) → ((oO (n + 14) q131 a0 8) ∧ (∀ z134 : gS, z134 = sr z132 a0 22 (some (n + 13)) → (∀ q135 : Nat → Nat × Nat, q135 = va_up q131 (n + 14) (1, 1100) → (∀ z136 : gS, z136 = z0 z134 (n + 14) → ((oO (n + 15) q135 a0 8) ∧ (∀ z138 : gS, z138 = sr z136 a0 23 (some (n + 14)) → (∀ q139 : Nat → Nat × Nat, q139 = va_up q135 (n + 15) (1, 1518) → (∀ z140 : gS, z140 = z0 z138 (n + 15) → ((oO (n + 16) q139 a0 8) ∧ (∀ z142 : gS, z142 = sr z140 a0 24 (some (n + 15)) → (∀ q143 : Nat → Nat × Nat, q143 = va_up q139 (n + 16) (4, 4) → (∀ z144 : gS, z144 = z0 z142 (n + 16) → ((oO (n + 17) q143 a0 8) ∧ (∀ z146 : gS, z146 = sr z144 a0 26 (some (n + 16)) → ((oO (n + 17) q143 a0 8) ∧ (wX12_standsAsAlways (n + 17) q143 a0 (0 : Int32) z146 (fun (z147 : gS) => (oO (n + 17) q143 a0 8) ∧ (wX12_begins (n + 17) q143 a0 z147 (fun (z149 : gS) => P (n + 17) q143 z149))))))))))))))))))))))))))))))))))))))))))))))))))))))))))))))))))))))))))))))))))))))))))))))))))))))))))))))))))))))))))))))))))))))))))))))))))))))
set_option maxRecDepth 100000 in
set_option maxHeartbeats 4000000 in
theorem ctX12_init {E : gE} {n : Nat} {sh : Nat → Nat × Nat} {a0 : Nat} {z : gS} {P : Nat → (Nat → Nat × Nat) → gS → Prop} (hn : gOK E n) (hao : gAO E) (hnb : n + 300 * 3 ≤ 1000000) (hf : wX12_init n sh a0 z P) : VM E 3 17 gyX12_init [.ref a0] n sh z (kA P) := by
  unfold wX12_init at hf
  refine VM.of (by decide +kernel) (Nat.le_of_ble_eq_true rfl) (fun _ _ _ h => by cases h.1) ?_
  show V E (gR 3 17) gyX12_init 17 0 0 [(0, .ref a0)] [] n sh z (kA P)
  refine V_aload_n (j := 0) dX12_init_0 rfl rfl ?_
  refine V_objInit ob_X12 obi obc ⟨by decide, by decide⟩ (Nat.le_of_ble_eq_true rfl) dX12_init_1 ?_
  refine V_aload_n (j := 0) dX12_init_4 rfl rfl ?_
  refine V_sipush (v := (1000 : Int32)) dX12_init_5 (by decide) ?_
  refine V_newa1 (N := 1000) (by decide) ar_1 (by decide) (by decide) (by decide) ⟨by decide, by decide⟩ (by omega) dX12_init_8 ?_
  refine V_nsh (fun q1 eq1 => ?_)
  have hf := hf q1 eq1
  refine V_nz (fun z2 ez2 => ?_)
  have hf := hf z2 ez2
  obtain ⟨h3, hf⟩ := hf
  refine V_putRF (ci := 8) (k := 1) (by decide) (by decide) fk_X12_14 rfl rfl rfl rfl (fun _ => rfl) (fun _ => rfl) h3.1 h3.2 dX12_init_10 ?_
  refine V_nz (fun z4 ez4 => ?_)
  have hf := hf z4 ez4
  refine V_aload_n (j := 0) dX12_init_13 rfl rfl ?_
  refine V_sipush (v := (1002 : Int32)) dX12_init_14 (by decide) ?_
  refine V_newa1 (N := 1002) (by decide) ar_1 (by decide) (by decide) (by decide) ⟨by decide, by decide⟩ (by omega) dX12_init_17 ?_
  refine V_nsh (fun q5 eq5 => ?_)
  have hf := hf q5 eq5
  refine V_nz (fun z6 ez6 => ?_)
  have hf := hf z6 ez6
  obtain ⟨h7, hf⟩ := hf
  refine V_putRF (ci := 8) (k := 4) (by decide) (by decide) fk_X12_24 rfl rfl rfl rfl (fun _ => rfl) (fun _ => rfl) h7.1 h7.2 dX12_init_19 ?_
  refine V_nz (fun z8 ez8 => ?_)
  have hf := hf z8 ez8
  refine V_aload_n (j := 0) dX12_init_22 rfl rfl ?_
  refine V_sipush (v := (1002 : Int32)) dX12_init_23 (by decide) ?_
  refine V_newa1 (N := 1002) (by decide) ar_1 (by decide) (by decide) (by decide) ⟨by decide, by decide⟩ (by omega) dX12_init_26 ?_
  refine V_nsh (fun q9 eq9 => ?_)
  have hf := hf q9 eq9
  refine V_nz (fun z10 ez10 => ?_)
  have hf := hf z10 ez10
  obtain ⟨h11, hf⟩ := hf
  refine V_putRF (ci := 8) (k := 5) (by decide) (by decide) fk_X12_27 rfl rfl rfl rfl (fun _ => rfl) (fun _ => rfl) h11.1 h11.2 dX12_init_28 ?_
  refine V_nz (fun z12 ez12 => ?_)
  have hf := hf z12 ez12
  refine V_aload_n (j := 0) dX12_init_31 rfl rfl ?_
  refine V_sipush (v := (1002 : Int32)) dX12_init_32 (by decide) ?_
  refine V_newa2 (N := 1002) (by decide) ar_2 (by decide) (by decide) (by decide) ⟨by decide, by decide⟩ (by omega) dX12_init_35 ?_
  refine V_nsh (fun q13 eq13 => ?_)
  have hf := hf q13 eq13
  refine V_nz (fun z14 ez14 => ?_)
  have hf := hf z14 ez14
  obtain ⟨h15, hf⟩ := hf
  refine V_putRF (ci := 8) (k := 6) (by decide) (by decide) fk_X12_30 rfl rfl rfl rfl (fun _ => rfl) (fun _ => rfl) h15.1 h15.2 dX12_init_37 ?_
  refine V_nz (fun z16 ez16 => ?_)
  have hf := hf z16 ez16
  refine V_aload_n (j := 0) dX12_init_40 rfl rfl ?_
  refine V_bipush (v := (26 : Int32)) dX12_init_41 (by decide) ?_
  refine V_newa2 (N := 26) (by decide) ar_2 (by decide) (by decide) (by decide) ⟨by decide, by decide⟩ (by omega) dX12_init_43 ?_
  refine V_nsh (fun q17 eq17 => ?_)
  have hf := hf q17 eq17
  refine V_nz (fun z18 ez18 => ?_)
  have hf := hf z18 ez18
  refine V_dup dX12_init_45 rfl ?_
  refine V_iconst (v := (0 : Int32)) dX12_init_46 (by decide) ?_
  refine V_ldc2 dX12_init_47 rfl kj_X12_34 ?_
  obtain ⟨h19, hf⟩ := hf
  obtain ⟨h20, hf⟩ := hf
  refine V_last h19.1 h19.s h20 dX12_init_50 ?_
  refine V_nz (fun z21 ez21 => ?_)
  have hf := hf z21 ez21
  refine V_dup dX12_init_51 rfl ?_
  refine V_iconst (v := (1 : Int32)) dX12_init_52 (by decide) ?_
  refine V_ldc2 dX12_init_53 rfl kj_X12_36 ?_
  obtain ⟨h22, hf⟩ := hf
  obtain ⟨h23, hf⟩ := hf
  refine V_last h22.1 h22.s h23 dX12_init_56 ?_
  refine V_nz (fun z24 ez24 => ?_)
  have hf := hf z24 ez24
  refine V_dup dX12_init_57 rfl ?_
  refine V_iconst (v := (2 : Int32)) dX12_init_58 (by decide) ?_
  refine V_ldc2 dX12_init_59 rfl kj_X12_38 ?_
  obtain ⟨h25, hf⟩ := hf
  obtain ⟨h26, hf⟩ := hf
  refine V_last h25.1 h25.s h26 dX12_init_62 ?_
  refine V_nz (fun z27 ez27 => ?_)
  have hf := hf z27 ez27
  refine V_dup dX12_init_63 rfl ?_
  refine V_iconst (v := (3 : Int32)) dX12_init_64 (by decide) ?_
  refine V_ldc2 dX12_init_65 rfl kj_X12_40 ?_
  obtain ⟨h28, hf⟩ := hf
  obtain ⟨h29, hf⟩ := hf
  refine V_last h28.1 h28.s h29 dX12_init_68 ?_
  refine V_nz (fun z30 ez30 => ?_)
  have hf := hf z30 ez30
  refine V_dup dX12_init_69 rfl ?_
  refine V_iconst (v := (4 : Int32)) dX12_init_70 (by decide) ?_
  refine V_ldc2 dX12_init_71 rfl kj_X12_42 ?_
  obtain ⟨h31, hf⟩ := hf
  obtain ⟨h32, hf⟩ := hf
  refine V_last h31.1 h31.s h32 dX12_init_74 ?_
  refine V_nz (fun z33 ez33 => ?_)
  have hf := hf z33 ez33
  refine V_dup dX12_init_75 rfl ?_
  refine V_iconst (v := (5 : Int32)) dX12_init_76 (by decide) ?_
  refine V_ldc2 dX12_init_77 rfl kj_X12_44 ?_
  obtain ⟨h34, hf⟩ := hf
  obtain ⟨h35, hf⟩ := hf
  refine V_last h34.1 h34.s h35 dX12_init_80 ?_
  refine V_nz (fun z36 ez36 => ?_)
  have hf := hf z36 ez36
  refine V_dup dX12_init_81 rfl ?_
  refine V_bipush (v := (6 : Int32)) dX12_init_82 (by decide) ?_
  refine V_ldc2 dX12_init_84 rfl kj_X12_46 ?_
  obtain ⟨h37, hf⟩ := hf
  obtain ⟨h38, hf⟩ := hf
  refine V_last h37.1 h37.s h38 dX12_init_87 ?_
  refine V_nz (fun z39 ez39 => ?_)
  have hf := hf z39 ez39
  refine V_dup dX12_init_88 rfl ?_
  refine V_bipush (v := (7 : Int32)) dX12_init_89 (by decide) ?_
  refine V_ldc2 dX12_init_91 rfl kj_X12_48 ?_
  obtain ⟨h40, hf⟩ := hf
  obtain ⟨h41, hf⟩ := hf
  refine V_last h40.1 h40.s h41 dX12_init_94 ?_
  refine V_nz (fun z42 ez42 => ?_)
  have hf := hf z42 ez42
  refine V_dup dX12_init_95 rfl ?_
  refine V_bipush (v := (8 : Int32)) dX12_init_96 (by decide) ?_
  refine V_ldc2 dX12_init_98 rfl kj_X12_50 ?_
  obtain ⟨h43, hf⟩ := hf
  obtain ⟨h44, hf⟩ := hf
  refine V_last h43.1 h43.s h44 dX12_init_101 ?_
  refine V_nz (fun z45 ez45 => ?_)
  have hf := hf z45 ez45
  refine V_dup dX12_init_102 rfl ?_
  refine V_bipush (v := (9 : Int32)) dX12_init_103 (by decide) ?_
  refine V_ldc2 dX12_init_105 rfl kj_X12_52 ?_
  obtain ⟨h46, hf⟩ := hf
  obtain ⟨h47, hf⟩ := hf
  refine V_last h46.1 h46.s h47 dX12_init_108 ?_
  refine V_nz (fun z48 ez48 => ?_)
  have hf := hf z48 ez48
  refine V_dup dX12_init_109 rfl ?_
  refine V_bipush (v := (10 : Int32)) dX12_init_110 (by decide) ?_
  refine V_ldc2 dX12_init_112 rfl kj_X12_54 ?_
  obtain ⟨h49, hf⟩ := hf
  obtain ⟨h50, hf⟩ := hf
  refine V_last h49.1 h49.s h50 dX12_init_115 ?_
  refine V_nz (fun z51 ez51 => ?_)
  have hf := hf z51 ez51
  refine V_dup dX12_init_116 rfl ?_
  refine V_bipush (v := (11 : Int32)) dX12_init_117 (by decide) ?_
  refine V_ldc2 dX12_init_119 rfl kj_X12_56 ?_
  obtain ⟨h52, hf⟩ := hf
  obtain ⟨h53, hf⟩ := hf
  refine V_last h52.1 h52.s h53 dX12_init_122 ?_
  refine V_nz (fun z54 ez54 => ?_)
  have hf := hf z54 ez54
  refine V_dup dX12_init_123 rfl ?_
  refine V_bipush (v := (12 : Int32)) dX12_init_124 (by decide) ?_
  refine V_ldc2 dX12_init_126 rfl kj_X12_58 ?_
  obtain ⟨h55, hf⟩ := hf
  obtain ⟨h56, hf⟩ := hf
  refine V_last h55.1 h55.s h56 dX12_init_129 ?_
  refine V_nz (fun z57 ez57 => ?_)
  have hf := hf z57 ez57
  refine V_dup dX12_init_130 rfl ?_
  refine V_bipush (v := (13 : Int32)) dX12_init_131 (by decide) ?_
  refine V_ldc2 dX12_init_133 rfl kj_X12_60 ?_
  obtain ⟨h58, hf⟩ := hf
  obtain ⟨h59, hf⟩ := hf
  refine V_last h58.1 h58.s h59 dX12_init_136 ?_
  refine V_nz (fun z60 ez60 => ?_)
  have hf := hf z60 ez60
  refine V_dup dX12_init_137 rfl ?_
  refine V_bipush (v := (14 : Int32)) dX12_init_138 (by decide) ?_
  refine V_ldc2 dX12_init_140 rfl kj_X12_62 ?_
  obtain ⟨h61, hf⟩ := hf
  obtain ⟨h62, hf⟩ := hf
  refine V_last h61.1 h61.s h62 dX12_init_143 ?_
  refine V_nz (fun z63 ez63 => ?_)
  have hf := hf z63 ez63
  refine V_dup dX12_init_144 rfl ?_
  refine V_bipush (v := (15 : Int32)) dX12_init_145 (by decide) ?_
  refine V_ldc2 dX12_init_147 rfl kj_X12_64 ?_
  obtain ⟨h64, hf⟩ := hf
  obtain ⟨h65, hf⟩ := hf
  refine V_last h64.1 h64.s h65 dX12_init_150 ?_
  refine V_nz (fun z66 ez66 => ?_)
  have hf := hf z66 ez66
  refine V_dup dX12_init_151 rfl ?_
  refine V_bipush (v := (16 : Int32)) dX12_init_152 (by decide) ?_
  refine V_ldc2 dX12_init_154 rfl kj_X12_66 ?_
  obtain ⟨h67, hf⟩ := hf
  obtain ⟨h68, hf⟩ := hf
  refine V_last h67.1 h67.s h68 dX12_init_157 ?_
  refine V_nz (fun z69 ez69 => ?_)
  have hf := hf z69 ez69
  refine V_dup dX12_init_158 rfl ?_
  refine V_bipush (v := (17 : Int32)) dX12_init_159 (by decide) ?_
  refine V_ldc2 dX12_init_161 rfl kj_X12_68 ?_
  obtain ⟨h70, hf⟩ := hf
  obtain ⟨h71, hf⟩ := hf
  refine V_last h70.1 h70.s h71 dX12_init_164 ?_
  refine V_nz (fun z72 ez72 => ?_)
  have hf := hf z72 ez72
  refine V_dup dX12_init_165 rfl ?_
  refine V_bipush (v := (18 : Int32)) dX12_init_166 (by decide) ?_
  refine V_ldc2 dX12_init_168 rfl kj_X12_70 ?_
  obtain ⟨h73, hf⟩ := hf
  obtain ⟨h74, hf⟩ := hf
  refine V_last h73.1 h73.s h74 dX12_init_171 ?_
  refine V_nz (fun z75 ez75 => ?_)
  have hf := hf z75 ez75
  refine V_dup dX12_init_172 rfl ?_
  refine V_bipush (v := (19 : Int32)) dX12_init_173 (by decide) ?_
  refine V_ldc2 dX12_init_175 rfl kj_X12_72 ?_
  obtain ⟨h76, hf⟩ := hf
  obtain ⟨h77, hf⟩ := hf
  refine V_last h76.1 h76.s h77 dX12_init_178 ?_
  refine V_nz (fun z78 ez78 => ?_)
  have hf := hf z78 ez78
  refine V_dup dX12_init_179 rfl ?_
  refine V_bipush (v := (20 : Int32)) dX12_init_180 (by decide) ?_
  refine V_ldc2 dX12_init_182 rfl kj_X12_74 ?_
  obtain ⟨h79, hf⟩ := hf
  obtain ⟨h80, hf⟩ := hf
  refine V_last h79.1 h79.s h80 dX12_init_185 ?_
  refine V_nz (fun z81 ez81 => ?_)
  have hf := hf z81 ez81
  refine V_dup dX12_init_186 rfl ?_
  refine V_bipush (v := (21 : Int32)) dX12_init_187 (by decide) ?_
  refine V_ldc2 dX12_init_189 rfl kj_X12_76 ?_
  obtain ⟨h82, hf⟩ := hf
  obtain ⟨h83, hf⟩ := hf
  refine V_last h82.1 h82.s h83 dX12_init_192 ?_
  refine V_nz (fun z84 ez84 => ?_)
  have hf := hf z84 ez84
  refine V_dup dX12_init_193 rfl ?_
  refine V_bipush (v := (22 : Int32)) dX12_init_194 (by decide) ?_
  refine V_ldc2 dX12_init_196 rfl kj_X12_78 ?_
  obtain ⟨h85, hf⟩ := hf
  obtain ⟨h86, hf⟩ := hf
  refine V_last h85.1 h85.s h86 dX12_init_199 ?_
  refine V_nz (fun z87 ez87 => ?_)
  have hf := hf z87 ez87
  refine V_dup dX12_init_200 rfl ?_
  refine V_bipush (v := (23 : Int32)) dX12_init_201 (by decide) ?_
  refine V_ldc2 dX12_init_203 rfl kj_X12_80 ?_
  obtain ⟨h88, hf⟩ := hf
  obtain ⟨h89, hf⟩ := hf
  refine V_last h88.1 h88.s h89 dX12_init_206 ?_
  refine V_nz (fun z90 ez90 => ?_)
  have hf := hf z90 ez90
  refine V_dup dX12_init_207 rfl ?_
  refine V_bipush (v := (24 : Int32)) dX12_init_208 (by decide) ?_
  refine V_ldc2 dX12_init_210 rfl kj_X12_82 ?_
  obtain ⟨h91, hf⟩ := hf
  obtain ⟨h92, hf⟩ := hf
  refine V_last h91.1 h91.s h92 dX12_init_213 ?_
  refine V_nz (fun z93 ez93 => ?_)
  have hf := hf z93 ez93
  refine V_dup dX12_init_214 rfl ?_
  refine V_bipush (v := (25 : Int32)) dX12_init_215 (by decide) ?_
  refine V_ldc2 dX12_init_217 rfl kj_X12_84 ?_
  obtain ⟨h94, hf⟩ := hf
  obtain ⟨h95, hf⟩ := hf
  refine V_last h94.1 h94.s h95 dX12_init_220 ?_
  refine V_nz (fun z96 ez96 => ?_)
  have hf := hf z96 ez96
  obtain ⟨h97, hf⟩ := hf
  refine V_putRF (ci := 8) (k := 9) (by decide) (by decide) fk_X12_86 rfl rfl rfl rfl (fun _ => rfl) (fun _ => rfl) h97.1 h97.2 dX12_init_221 ?_
  refine V_nz (fun z98 ez98 => ?_)
  have hf := hf z98 ez98
  refine V_aload_n (j := 0) dX12_init_224 rfl rfl ?_
  refine V_bipush (v := (120 : Int32)) dX12_init_225 (by decide) ?_
  refine V_newa1 (N := 120) (by decide) ar_1 (by decide) (by decide) (by decide) ⟨by decide, by decide⟩ (by omega) dX12_init_227 ?_
  refine V_nsh (fun q99 eq99 => ?_)
  have hf := hf q99 eq99
  refine V_nz (fun z100 ez100 => ?_)
  have hf := hf z100 ez100
  obtain ⟨h101, hf⟩ := hf
  refine V_putRF (ci := 8) (k := 10) (by decide) (by decide) fk_X12_89 rfl rfl rfl rfl (fun _ => rfl) (fun _ => rfl) h101.1 h101.2 dX12_init_229 ?_
  refine V_nz (fun z102 ez102 => ?_)
  have hf := hf z102 ez102
  refine V_aload_n (j := 0) dX12_init_232 rfl rfl ?_
  refine V_sipush (v := (2200 : Int32)) dX12_init_233 (by decide) ?_
  refine V_newa1 (N := 2200) (by decide) ar_1 (by decide) (by decide) (by decide) ⟨by decide, by decide⟩ (by omega) dX12_init_236 ?_
  refine V_nsh (fun q103 eq103 => ?_)
  have hf := hf q103 eq103
  refine V_nz (fun z104 ez104 => ?_)
  have hf := hf z104 ez104
  obtain ⟨h105, hf⟩ := hf
  refine V_putRF (ci := 8) (k := 11) (by decide) (by decide) fk_X12_92 rfl rfl rfl rfl (fun _ => rfl) (fun _ => rfl) h105.1 h105.2 dX12_init_238 ?_
  refine V_nz (fun z106 ez106 => ?_)
  have hf := hf z106 ez106
  refine V_aload_n (j := 0) dX12_init_241 rfl rfl ?_
  refine V_sipush (v := (2200 : Int32)) dX12_init_242 (by decide) ?_
  refine V_newa1 (N := 2200) (by decide) ar_1 (by decide) (by decide) (by decide) ⟨by decide, by decide⟩ (by omega) dX12_init_245 ?_
  refine V_nsh (fun q107 eq107 => ?_)
  have hf := hf q107 eq107
  refine V_nz (fun z108 ez108 => ?_)
  have hf := hf z108 ez108
  obtain ⟨h109, hf⟩ := hf
  refine V_putRF (ci := 8) (k := 12) (by decide) (by decide) fk_X12_95 rfl rfl rfl rfl (fun _ => rfl) (fun _ => rfl) h109.1 h109.2 dX12_init_247 ?_
  refine V_nz (fun z110 ez110 => ?_)
  have hf := hf z110 ez110
  refine V_aload_n (j := 0) dX12_init_250 rfl rfl ?_
  refine V_bipush (v := (16 : Int32)) dX12_init_251 (by decide) ?_
  refine V_newa2 (N := 16) (by decide) ar_2 (by decide) (by decide) (by decide) ⟨by decide, by decide⟩ (by omega) dX12_init_253 ?_
  refine V_nsh (fun q111 eq111 => ?_)
  have hf := hf q111 eq111
  refine V_nz (fun z112 ez112 => ?_)
  have hf := hf z112 ez112
  obtain ⟨h113, hf⟩ := hf
  refine V_putRF (ci := 8) (k := 14) (by decide) (by decide) fk_X12_98 rfl rfl rfl rfl (fun _ => rfl) (fun _ => rfl) h113.1 h113.2 dX12_init_255 ?_
  refine V_nz (fun z114 ez114 => ?_)
  have hf := hf z114 ez114
  refine V_aload_n (j := 0) dX12_init_258 rfl rfl ?_
  refine V_bipush (v := (16 : Int32)) dX12_init_259 (by decide) ?_
  refine V_newa2 (N := 16) (by decide) ar_2 (by decide) (by decide) (by decide) ⟨by decide, by decide⟩ (by omega) dX12_init_261 ?_
  refine V_nsh (fun q115 eq115 => ?_)
  have hf := hf q115 eq115
  refine V_nz (fun z116 ez116 => ?_)
  have hf := hf z116 ez116
  obtain ⟨h117, hf⟩ := hf
  refine V_putRF (ci := 8) (k := 15) (by decide) (by decide) fk_X12_101 rfl rfl rfl rfl (fun _ => rfl) (fun _ => rfl) h117.1 h117.2 dX12_init_263 ?_
  refine V_nz (fun z118 ez118 => ?_)
  have hf := hf z118 ez118
  refine V_aload_n (j := 0) dX12_init_266 rfl rfl ?_
  refine V_bipush (v := (16 : Int32)) dX12_init_267 (by decide) ?_
  refine V_newa1 (N := 16) (by decide) ar_1 (by decide) (by decide) (by decide) ⟨by decide, by decide⟩ (by omega) dX12_init_269 ?_
  refine V_nsh (fun q119 eq119 => ?_)
  have hf := hf q119 eq119
  refine V_nz (fun z120 ez120 => ?_)
  have hf := hf z120 ez120
  obtain ⟨h121, hf⟩ := hf
  refine V_putRF (ci := 8) (k := 16) (by decide) (by decide) fk_X12_104 rfl rfl rfl rfl (fun _ => rfl) (fun _ => rfl) h121.1 h121.2 dX12_init_271 ?_
  refine V_nz (fun z122 ez122 => ?_)
  have hf := hf z122 ez122
  refine V_aload_n (j := 0) dX12_init_274 rfl rfl ?_
  refine V_bipush (v := (16 : Int32)) dX12_init_275 (by decide) ?_
  refine V_newa1 (N := 16) (by decide) ar_1 (by decide) (by decide) (by decide) ⟨by decide, by decide⟩ (by omega) dX12_init_277 ?_
  refine V_nsh (fun q123 eq123 => ?_)
  have hf := hf q123 eq123
  refine V_nz (fun z124 ez124 => ?_)
  have hf := hf z124 ez124
  obtain ⟨h125, hf⟩ := hf
  refine V_putRF (ci := 8) (k := 17) (by decide) (by decide) fk_X12_107 rfl rfl rfl rfl (fun _ => rfl) (fun _ => rfl) h125.1 h125.2 dX12_init_279 ?_
  refine V_nz (fun z126 ez126 => ?_)
  have hf := hf z126 ez126
  refine V_aload_n (j := 0) dX12_init_282 rfl rfl ?_
  refine V_sipush (v := (250 : Int32)) dX12_init_283 (by decide) ?_
  refine V_newa1 (N := 250) (by decide) ar_1 (by decide) (by decide) (by decide) ⟨by decide, by decide⟩ (by omega) dX12_init_286 ?_
  refine V_nsh (fun q127 eq127 => ?_)
  have hf := hf q127 eq127
  refine V_nz (fun z128 ez128 => ?_)
  have hf := hf z128 ez128
  obtain ⟨h129, hf⟩ := hf
  refine V_putRF (ci := 8) (k := 21) (by decide) (by decide) fk_X12_110 rfl rfl rfl rfl (fun _ => rfl) (fun _ => rfl) h129.1 h129.2 dX12_init_288 ?_
  refine V_nz (fun z130 ez130 => ?_)
  have hf := hf z130 ez130
  refine V_aload_n (j := 0) dX12_init_291 rfl rfl ?_
  refine V_iconst (v := (4 : Int32)) dX12_init_292 (by decide) ?_
  refine V_newa1 (N := 4) (by decide) ar_1 (by decide) (by decide) (by decide) ⟨by decide, by decide⟩ (by omega) dX12_init_293 ?_
  refine V_nsh (fun q131 eq131 => ?_)
  have hf := hf q131 eq131
  refine V_nz (fun z132 ez132 => ?_)
  have hf := hf z132 ez132
  obtain ⟨h133, hf⟩ := hf
  refine V_putRF (ci := 8) (k := 22) (by decide) (by decide) fk_X12_113 rfl rfl rfl rfl (fun _ => rfl) (fun _ => rfl) h133.1 h133.2 dX12_init_295 ?_
  refine V_nz (fun z134 ez134 => ?_)
  have hf := hf z134 ez134
  refine V_aload_n (j := 0) dX12_init_298 rfl rfl ?_
  refine V_sipush (v := (1100 : Int32)) dX12_init_299 (by decide) ?_
  refine V_newa1 (N := 1100) (by decide) ar_1 (by decide) (by decide) (by decide) ⟨by decide, by decide⟩ (by omega) dX12_init_302 ?_
  refine V_nsh (fun q135 eq135 => ?_)
  have hf := hf q135 eq135
  refine V_nz (fun z136 ez136 => ?_)
  have hf := hf z136 ez136
  obtain ⟨h137, hf⟩ := hf
  refine V_putRF (ci := 8) (k := 23) (by decide) (by decide) fk_X12_116 rfl rfl rfl rfl (fun _ => rfl) (fun _ => rfl) h137.1 h137.2 dX12_init_304 ?_
  refine V_nz (fun z138 ez138 => ?_)
  have hf := hf z138 ez138
  refine V_aload_n (j := 0) dX12_init_307 rfl rfl ?_
  refine V_sipush (v := (1518 : Int32)) dX12_init_308 (by decide) ?_
  refine V_newa1 (N := 1518) (by decide) ar_1 (by decide) (by decide) (by decide) ⟨by decide, by decide⟩ (by omega) dX12_init_311 ?_
  refine V_nsh (fun q139 eq139 => ?_)
  have hf := hf q139 eq139
  refine V_nz (fun z140 ez140 => ?_)
  have hf := hf z140 ez140
  obtain ⟨h141, hf⟩ := hf
  refine V_putRF (ci := 8) (k := 24) (by decide) (by decide) fk_X12_119 rfl rfl rfl rfl (fun _ => rfl) (fun _ => rfl) h141.1 h141.2 dX12_init_313 ?_
  refine V_nz (fun z142 ez142 => ?_)
  have hf := hf z142 ez142
  refine V_aload_n (j := 0) dX12_init_316 rfl rfl ?_
  refine V_iconst (v := (4 : Int32)) dX12_init_317 (by decide) ?_
  refine V_newa4 (N := 4) (by decide) ar_4 (by decide) (by decide) (by decide) ⟨by decide, by decide⟩ (by omega) dX12_init_318 ?_
  refine V_nsh (fun q143 eq143 => ?_)
  have hf := hf q143 eq143
  refine V_nz (fun z144 ez144 => ?_)
  have hf := hf z144 ez144
  obtain ⟨h145, hf⟩ := hf
  refine V_putRF (ci := 8) (k := 26) (by decide) (by decide) fk_X12_122 rfl rfl rfl rfl (fun _ => rfl) (fun _ => rfl) h145.1 h145.2 dX12_init_320 ?_
  refine V_nz (fun z146 ez146 => ?_)
  have hf := hf z146 ez146
  refine V_aload_n (j := 0) dX12_init_323 rfl rfl ?_
  refine V_iconst (v := (0 : Int32)) dX12_init_324 (by decide) ?_
  obtain ⟨h148, hf⟩ := hf
  refine V_cVNa (ctX12_standsAsAlways (n := (n + 17)) ⟨by omega, hn.2⟩ hf) gc_X12_126 rfl h148.1 ⟨_, h148.2, by decide, rfl⟩ ⟨by decide, by decide, by decide, by decide⟩ (Nat.le_of_ble_eq_true rfl) dX12_init_325 rfl (by omega) (fun z147 hf => ?_)
  refine V_aload_n (j := 0) dX12_init_328 rfl rfl ?_
  obtain ⟨h150, hf⟩ := hf
  refine V_cVNa (ctX12_begins (n := (n + 17)) ⟨by omega, hn.2⟩ hf) gc_X12_130 rfl h150.1 ⟨_, h150.2, by decide, rfl⟩ ⟨by decide, by decide, by decide, by decide⟩ (Nat.le_of_ble_eq_true rfl) dX12_init_329 rfl (by omega) (fun z149 hf => ?_)
  exact V_return dX12_init_332 rfl (by decide) ⟨rfl, hf⟩
