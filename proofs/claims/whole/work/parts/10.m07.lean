def wX12_isPerson (n : Nat) (sh : Nat → Nat × Nat) (a0 : Nat) (x1 : Int32) (z : gS) (P : Int32 → gS → Prop) : Prop := if x1 < 0 then P (0 : Int32) z else ((oO n sh a0 8) ∧ (wX12_people n sh a0 z (fun (r1 : Int32) (z2 : gS) => if r1 ≤ x1 then P (0 : Int32) z2 else P (1 : Int32) z2)))
set_option maxRecDepth 100000 in
set_option maxHeartbeats 4000000 in
theorem ctX12_isPerson {E : gE} {n : Nat} {sh : Nat → Nat × Nat} {a0 : Nat} {x1 : Int32} {z : gS} {P : Int32 → gS → Prop} (hn : gOK E n) (hf : wX12_isPerson n sh a0 x1 z P) : VM E 1 0 gyX12_isPerson [.ref a0, .int x1] n sh z (kI n sh P) := by
  unfold wX12_isPerson at hf
  refine VM.of (by decide +kernel) (Nat.le_of_ble_eq_true rfl) (fun _ _ _ h => h.2.2) ?_
  show V E (gR 1 0) gyX12_isPerson 0 0 0 [(0, .ref a0), (1, .int x1)] [] n sh z (kI n sh P)
  refine V_iload_n (j := 1) dX12_isPerson_0 rfl rfl ?_
  refine V_if_lt (tgt := 16) dX12_isPerson_1 (by decide) (fun h5 => ?_) (fun h5 => ?_)
  · have hf := it_t h5 hf
    refine V_iconst (v := (0 : Int32)) dX12_isPerson_16 (by decide) ?_
    exact V_ireturn dX12_isPerson_17 rfl (by decide) (Nat.le_refl 0) (kI_of hf)
  · have hf := it_f h5 hf
    refine V_iload_n (j := 1) dX12_isPerson_4 rfl rfl ?_
    refine V_aload_n (j := 0) dX12_isPerson_5 rfl rfl ?_
    obtain ⟨h3, hf⟩ := hf
    refine V_cVI (ctX12_people hn hf) gc_X12_265 rfl h3.1 ⟨_, h3.2, by decide, rfl⟩ ⟨by decide, by decide, Nat.zero_le _, Nat.zero_le _⟩ (Nat.le_of_ble_eq_true rfl) dX12_isPerson_6 rfl hn (fun r1 z2 hf => ?_)
    refine V_icmp_ge (tgt := 16) dX12_isPerson_9 (by decide) (fun h4 => ?_) (fun h4 => ?_)
    · have hf := it_t h4 hf
      refine V_iconst (v := (0 : Int32)) dX12_isPerson_16 (by decide) ?_
      exact V_ireturn dX12_isPerson_17 rfl (by decide) (Nat.le_refl 0) (kI_of hf)
    · have hf := it_f h4 hf
      refine V_iconst (v := (1 : Int32)) dX12_isPerson_12 (by decide) ?_
      refine V_goto (tgt := 17) dX12_isPerson_13 (by decide) ?_
      exact V_ireturn dX12_isPerson_17 rfl (by decide) (Nat.le_refl 0) (kI_of hf)
def wX12_isDeed (n : Nat) (sh : Nat → Nat × Nat) (a0 : Nat) (x1 : Int32) (z : gS) (P : Int32 → gS → Prop) : Prop := if x1 < 0 then P (0 : Int32) z else ((oO n sh a0 8) ∧ (wX12_deeds n sh a0 z (fun (r1 : Int32) (z2 : gS) => if r1 ≤ x1 then P (0 : Int32) z2 else P (1 : Int32) z2)))
set_option maxRecDepth 100000 in
set_option maxHeartbeats 4000000 in
theorem ctX12_isDeed {E : gE} {n : Nat} {sh : Nat → Nat × Nat} {a0 : Nat} {x1 : Int32} {z : gS} {P : Int32 → gS → Prop} (hn : gOK E n) (hf : wX12_isDeed n sh a0 x1 z P) : VM E 1 0 gyX12_isDeed [.ref a0, .int x1] n sh z (kI n sh P) := by
  unfold wX12_isDeed at hf
  refine VM.of (by decide +kernel) (Nat.le_of_ble_eq_true rfl) (fun _ _ _ h => h.2.2) ?_
  show V E (gR 1 0) gyX12_isDeed 0 0 0 [(0, .ref a0), (1, .int x1)] [] n sh z (kI n sh P)
  refine V_iload_n (j := 1) dX12_isDeed_0 rfl rfl ?_
  refine V_if_lt (tgt := 16) dX12_isDeed_1 (by decide) (fun h5 => ?_) (fun h5 => ?_)
  · have hf := it_t h5 hf
    refine V_iconst (v := (0 : Int32)) dX12_isDeed_16 (by decide) ?_
    exact V_ireturn dX12_isDeed_17 rfl (by decide) (Nat.le_refl 0) (kI_of hf)
  · have hf := it_f h5 hf
    refine V_iload_n (j := 1) dX12_isDeed_4 rfl rfl ?_
    refine V_aload_n (j := 0) dX12_isDeed_5 rfl rfl ?_
    obtain ⟨h3, hf⟩ := hf
    refine V_cVI (ctX12_deeds hn hf) gc_X12_281 rfl h3.1 ⟨_, h3.2, by decide, rfl⟩ ⟨by decide, by decide, Nat.zero_le _, Nat.zero_le _⟩ (Nat.le_of_ble_eq_true rfl) dX12_isDeed_6 rfl hn (fun r1 z2 hf => ?_)
    refine V_icmp_ge (tgt := 16) dX12_isDeed_9 (by decide) (fun h4 => ?_) (fun h4 => ?_)
    · have hf := it_t h4 hf
      refine V_iconst (v := (0 : Int32)) dX12_isDeed_16 (by decide) ?_
      exact V_ireturn dX12_isDeed_17 rfl (by decide) (Nat.le_refl 0) (kI_of hf)
    · have hf := it_f h4 hf
      refine V_iconst (v := (1 : Int32)) dX12_isDeed_12 (by decide) ?_
      refine V_goto (tgt := 17) dX12_isDeed_13 (by decide) ?_
      exact V_ireturn dX12_isDeed_17 rfl (by decide) (Nat.le_refl 0) (kI_of hf)
def wX12_lightOf (n : Nat) (sh : Nat → Nat × Nat) (a0 : Nat) (x1 : Int32) (z : gS) (P : Int32 → gS → Prop) : Prop := (oO n sh a0 8) ∧ (∃ t2 : Nat, gr z a0 10 = some t2 ∧ (∃ t3 : Nat, gr z a0 10 = some t3 ∧ ((oA n sh t3 1) ∧ ((vp_in (3 : Int32) (sh t3).2) ∧ ((¬ (gi z t3 (3 : Int32).toNatClampNeg) = 0) ∧ ((oA n sh t2 1) ∧ ((vp_in ((33 : Int32) + (x1 - x1 / (gi z t3 (3 : Int32).toNatClampNeg) * (gi z t3 (3 : Int32).toNatClampNeg))) (sh t2).2) ∧ P (gi z t2 ((33 : Int32) + (x1 - x1 / (gi z t3 (3 : Int32).toNatClampNeg) * (gi z t3 (3 : Int32).toNatClampNeg))).toNatClampNeg) z)))))))
set_option maxRecDepth 100000 in
set_option maxHeartbeats 4000000 in
theorem ctX12_lightOf {E : gE} {n : Nat} {sh : Nat → Nat × Nat} {a0 : Nat} {x1 : Int32} {z : gS} {P : Int32 → gS → Prop} (hn : gOK E n) (hf : wX12_lightOf n sh a0 x1 z P) : VM E 0 0 gyX12_lightOf [.ref a0, .int x1] n sh z (kI n sh P) := by
  unfold wX12_lightOf at hf
  refine VM.of (by decide +kernel) (Nat.le_of_ble_eq_true rfl) (fun _ _ _ h => h.2.2) ?_
  show V E (gR 0 0) gyX12_lightOf 0 0 0 [(0, .ref a0), (1, .int x1)] [] n sh z (kI n sh P)
  refine V_aload_n (j := 0) dX12_lightOf_0 rfl rfl ?_
  obtain ⟨h1, hf⟩ := hf
  obtain ⟨t2, et2, hf⟩ := hf
  refine V_getR fl_X12_89 rfl h1.1 h1.2 et2 dX12_lightOf_1 ?_
  refine V_bipush (v := (33 : Int32)) dX12_lightOf_4 (by decide) ?_
  refine V_iload_n (j := 1) dX12_lightOf_6 rfl rfl ?_
  refine V_aload_n (j := 0) dX12_lightOf_7 rfl rfl ?_
  obtain ⟨t3, et3, hf⟩ := hf
  refine V_getR fl_X12_89 rfl h1.1 h1.2 et3 dX12_lightOf_8 ?_
  refine V_iconst (v := (3 : Int32)) dX12_lightOf_11 (by decide) ?_
  obtain ⟨h4, hf⟩ := hf
  obtain ⟨h5, hf⟩ := hf
  refine V_iald h4.1 h4.s h5 dX12_lightOf_12 ?_
  obtain ⟨h8, hf⟩ := hf
  refine V_irem dX12_lightOf_13 h8 ?_
  refine V_iadd dX12_lightOf_14 ?_
  obtain ⟨h6, hf⟩ := hf
  obtain ⟨h7, hf⟩ := hf
  refine V_iald h6.1 h6.s h7 dX12_lightOf_15 ?_
  exact V_ireturn dX12_lightOf_16 rfl rfl (Nat.le_refl 0) (kI_of hf)
def wX12_isWhole (n : Nat) (sh : Nat → Nat × Nat) (a0 : Nat) (x1 : Int32) (x2 : Int32) (z : gS) (P : Int32 → gS → Prop) : Prop := (oO n sh a0 8) ∧ (∃ t2 : Nat, gr z a0 24 = some t2 ∧ ((oA n sh t2 1) ∧ ((vp_in ((x1 + (12 : Int32)) + x2) (sh t2).2) ∧ (if (gi z t2 ((x1 + (12 : Int32)) + x2).toNatClampNeg) = 0 then P (1 : Int32) z else P (0 : Int32) z))))
set_option maxRecDepth 100000 in
set_option maxHeartbeats 4000000 in
theorem ctX12_isWhole {E : gE} {n : Nat} {sh : Nat → Nat × Nat} {a0 : Nat} {x1 : Int32} {x2 : Int32} {z : gS} {P : Int32 → gS → Prop} (hn : gOK E n) (hf : wX12_isWhole n sh a0 x1 x2 z P) : VM E 0 0 gyX12_isWhole [.ref a0, .int x1, .int x2] n sh z (kI n sh P) := by
  unfold wX12_isWhole at hf
  refine VM.of (by decide +kernel) (Nat.le_of_ble_eq_true rfl) (fun _ _ _ h => h.2.2) ?_
  show V E (gR 0 0) gyX12_isWhole 0 0 0 [(0, .ref a0), (1, .int x1), (2, .int x2)] [] n sh z (kI n sh P)
  refine V_aload_n (j := 0) dX12_isWhole_0 rfl rfl ?_
  obtain ⟨h1, hf⟩ := hf
  obtain ⟨t2, et2, hf⟩ := hf
  refine V_getR fl_X12_119 rfl h1.1 h1.2 et2 dX12_isWhole_1 ?_
  refine V_iload_n (j := 1) dX12_isWhole_4 rfl rfl ?_
  refine V_bipush (v := (12 : Int32)) dX12_isWhole_5 (by decide) ?_
  refine V_iadd dX12_isWhole_7 ?_
  refine V_iload_n (j := 2) dX12_isWhole_8 rfl rfl ?_
  refine V_iadd dX12_isWhole_9 ?_
  obtain ⟨h3, hf⟩ := hf
  obtain ⟨h4, hf⟩ := hf
  refine V_iald h3.1 h3.s h4 dX12_isWhole_10 ?_
  refine V_if_ne (tgt := 18) dX12_isWhole_11 (by decide) (fun h5 => ?_) (fun h5 => ?_)
  · have hf := it_f h5 hf
    refine V_iconst (v := (0 : Int32)) dX12_isWhole_18 (by decide) ?_
    exact V_ireturn dX12_isWhole_19 rfl (by decide) (Nat.le_refl 0) (kI_of hf)
  · have hf := it_t (Classical.not_not.mp h5) hf
    refine V_iconst (v := (1 : Int32)) dX12_isWhole_14 (by decide) ?_
    refine V_goto (tgt := 19) dX12_isWhole_15 (by decide) ?_
    exact V_ireturn dX12_isWhole_19 rfl (by decide) (Nat.le_refl 0) (kI_of hf)
def wX12_sightOf_J116 (n : Nat) (sh : Nat → Nat × Nat) (P : Int32 → gS → Prop) (x3 : Int32) (s0 : Int32) (z : gS) : Prop := if s0 = 0 then P (0 : Int32) z else P x3 z
set_option maxRecDepth 100000 in
set_option maxHeartbeats 4000000 in
theorem vX12_sightOf_J116 {E : gE} {n : Nat} {sh : Nat → Nat × Nat} {P : Int32 → gS → Prop} {x3 : Int32} {s0 : Int32} {z : gS} (hn : gOK E n) (hf : wX12_sightOf_J116 n sh P x3 s0 z) : V E (gR 1 0) gyX12_sightOf 0 0 116 [(3, .int x3)] [.int s0] n sh z (kI n sh P) := by
  unfold wX12_sightOf_J116 at hf
  refine V_istore (ls2 := [(5, .int s0), (3, .int x3)]) dX12_sightOf_116 (by decide) rfl ?_
  refine V_iload (j := 0) dX12_sightOf_118 rfl ?_
  refine V_if_eq (tgt := 127) dX12_sightOf_120 (by decide) (fun h11 => ?_) (fun h11 => ?_)
  · have hf := it_t h11 hf
    refine V_iconst (v := (0 : Int32)) dX12_sightOf_127 (by decide) ?_
    exact V_ireturn dX12_sightOf_128 rfl rfl (Nat.le_refl 0) (kI_of hf)
  · have hf := it_f h11 hf
    refine V_iload_n (j := 1) dX12_sightOf_123 rfl rfl ?_
    refine V_goto (tgt := 128) dX12_sightOf_124 (by decide) ?_
    exact V_ireturn dX12_sightOf_128 rfl rfl (Nat.le_refl 0) (kI_of hf)
def wX12_sightOf_J115 (n : Nat) (sh : Nat → Nat × Nat) (P : Int32 → gS → Prop) (x3 : Int32) (z : gS) : Prop := wX12_sightOf_J116 n sh P x3 (0 : Int32) z
set_option maxRecDepth 100000 in
set_option maxHeartbeats 4000000 in
theorem vX12_sightOf_J115 {E : gE} {n : Nat} {sh : Nat → Nat × Nat} {P : Int32 → gS → Prop} {x3 : Int32} {z : gS} (hn : gOK E n) (hf : wX12_sightOf_J115 n sh P x3 z) : V E (gR 1 0) gyX12_sightOf 0 0 115 [(3, .int x3)] [] n sh z (kI n sh P) := by
  unfold wX12_sightOf_J115 at hf
  refine V_iconst (v := (0 : Int32)) dX12_sightOf_115 (by decide) ?_
  exact vX12_sightOf_J116 hn hf
def wX12_sightOf_J111 (n : Nat) (sh : Nat → Nat × Nat) (P : Int32 → gS → Prop) (x3 : Int32) (z : gS) : Prop := wX12_sightOf_J116 n sh P x3 (1 : Int32) z
set_option maxRecDepth 100000 in
set_option maxHeartbeats 4000000 in
theorem vX12_sightOf_J111 {E : gE} {n : Nat} {sh : Nat → Nat × Nat} {P : Int32 → gS → Prop} {x3 : Int32} {z : gS} (hn : gOK E n) (hf : wX12_sightOf_J111 n sh P x3 z) : V E (gR 1 0) gyX12_sightOf 0 0 111 [(3, .int x3)] [] n sh z (kI n sh P) := by
  unfold wX12_sightOf_J111 at hf
  refine V_iconst (v := (1 : Int32)) dX12_sightOf_111 (by decide) ?_
  refine V_goto (tgt := 116) dX12_sightOf_112 (by decide) ?_
  exact vX12_sightOf_J116 hn hf
def wX12_sightOf_J60 (n : Nat) (sh : Nat → Nat × Nat) (P : Int32 → gS → Prop) (a0 : Nat) (x1 : Int32) (x2 : Int32) (s0 : Int32) (s1 : Int32) (z : gS) : Prop := ∀ v7 : Int32, v7 = (s1 ||| s0) → ((oO n sh a0 8) ∧ (wX12_isWhole n sh a0 x1 x2 z (fun (r8 : Int32) (z9 : gS) => if r8 = 0 then wX12_sightOf_J115 n sh P v7 z9 else (∃ t12 : Nat, gr z9 a0 24 = some t12 ∧ ((oA n sh t12 1) ∧ ((vp_in ((x1 + (6 : Int32)) + x2) (sh t12).2) ∧ (if (gi z9 t12 ((x1 + (6 : Int32)) + x2).toNatClampNeg) = 0 then (wX12_paneOf n sh a0 x2 (0 : Int32) z9 (fun (r15 : Int32) (z16 : gS) => if r15 = (2 : Int32) then (∃ t17 : Nat, gr z16 a0 24 = some t17 ∧ ((oA n sh t17 1) ∧ ((vp_in (x1 + (0 : Int32)) (sh t17).2) ∧ (wX12_lightOf n sh a0 (gi z16 t17 (x1 + (0 : Int32)).toNatClampNeg) z16 (fun (r20 : Int32) (z21 : gS) => if r20 = (1 : Int32) then wX12_sightOf_J111 n sh P v7 z21 else wX12_sightOf_J115 n sh P v7 z21))))) else wX12_sightOf_J111 n sh P v7 z16)) else wX12_sightOf_J115 n sh P v7 z9)))))))
set_option maxRecDepth 100000 in
set_option maxHeartbeats 4000000 in
theorem vX12_sightOf_J60 {E : gE} {n : Nat} {sh : Nat → Nat × Nat} {P : Int32 → gS → Prop} {a0 : Nat} {x1 : Int32} {x2 : Int32} {s0 : Int32} {s1 : Int32} {z : gS} (hn : gOK E n) (hf : wX12_sightOf_J60 n sh P a0 x1 x2 s0 s1 z) : V E (gR 1 0) gyX12_sightOf 0 0 60 [(0, .ref a0), (1, .int x1), (2, .int x2)] [.int s0, .int s1] n sh z (kI n sh P) := by
  unfold wX12_sightOf_J60 at hf
  refine V_ior dX12_sightOf_60 ?_
  refine V_nI (fun v7 ev7 => ?_)
  have hf := hf v7 ev7
  refine V_istore_n (ls2 := [(3, .int v7), (0, .ref a0), (1, .int x1), (2, .int x2)]) dX12_sightOf_61 rfl (by decide) rfl ?_
  refine V_aload_n (j := 1) dX12_sightOf_62 rfl rfl ?_
  refine V_iload_n (j := 2) dX12_sightOf_63 rfl rfl ?_
  refine V_iload_n (j := 3) dX12_sightOf_64 rfl rfl ?_
  obtain ⟨h10, hf⟩ := hf
  refine V_cVI (ctX12_isWhole hn hf) gc_X12_287 rfl h10.1 ⟨_, h10.2, by decide, rfl⟩ ⟨by decide, by decide, Nat.zero_le _, Nat.zero_le _⟩ (Nat.le_of_ble_eq_true rfl) dX12_sightOf_65 rfl hn (fun r8 z9 hf => ?_)
  refine V_if_eq (tgt := 115) dX12_sightOf_68 (by decide) (fun h25 => ?_) (fun h25 => ?_)
  · have hf := it_t h25 hf
    refine V_to [0] rfl ?_
    exact vX12_sightOf_J115 hn hf
  · have hf := it_f h25 hf
    refine V_aload_n (j := 1) dX12_sightOf_71 rfl rfl ?_
    obtain ⟨t12, et12, hf⟩ := hf
    refine V_getR fl_X12_119 rfl h10.1 h10.2 et12 dX12_sightOf_72 ?_
    refine V_iload_n (j := 2) dX12_sightOf_75 rfl rfl ?_
    refine V_bipush (v := (6 : Int32)) dX12_sightOf_76 (by decide) ?_
    refine V_iadd dX12_sightOf_78 ?_
    refine V_iload_n (j := 3) dX12_sightOf_79 rfl rfl ?_
    refine V_iadd dX12_sightOf_80 ?_
    obtain ⟨h13, hf⟩ := hf
    obtain ⟨h14, hf⟩ := hf
    refine V_iald h13.1 h13.s h14 dX12_sightOf_81 ?_
    refine V_if_ne (tgt := 115) dX12_sightOf_82 (by decide) (fun h24 => ?_) (fun h24 => ?_)
    · have hf := it_f h24 hf
      refine V_to [0] rfl ?_
      exact vX12_sightOf_J115 hn hf
    · have hf := it_t (Classical.not_not.mp h24) hf
      refine V_aload_n (j := 1) dX12_sightOf_85 rfl rfl ?_
      refine V_iload_n (j := 3) dX12_sightOf_86 rfl rfl ?_
      refine V_iconst (v := (0 : Int32)) dX12_sightOf_87 (by decide) ?_
      refine V_cVI (ctX12_paneOf hn hf) gc_X12_284 rfl h10.1 ⟨_, h10.2, by decide, rfl⟩ ⟨by decide, by decide, Nat.zero_le _, Nat.zero_le _⟩ (Nat.le_of_ble_eq_true rfl) dX12_sightOf_88 rfl hn (fun r15 z16 hf => ?_)
      refine V_iconst (v := (2 : Int32)) dX12_sightOf_91 (by decide) ?_
      refine V_icmp_ne (tgt := 111) dX12_sightOf_92 (by decide) (fun h23 => ?_) (fun h23 => ?_)
      · have hf := it_f h23 hf
        refine V_to [0] rfl ?_
        exact vX12_sightOf_J111 hn hf
      · have hf := it_t (Classical.not_not.mp h23) hf
        refine V_aload_n (j := 1) dX12_sightOf_95 rfl rfl ?_
        refine V_aload_n (j := 1) dX12_sightOf_96 rfl rfl ?_
        obtain ⟨t17, et17, hf⟩ := hf
        refine V_getR fl_X12_119 rfl h10.1 h10.2 et17 dX12_sightOf_97 ?_
        refine V_iload_n (j := 2) dX12_sightOf_100 rfl rfl ?_
        refine V_iconst (v := (0 : Int32)) dX12_sightOf_101 (by decide) ?_
        refine V_iadd dX12_sightOf_102 ?_
        obtain ⟨h18, hf⟩ := hf
        obtain ⟨h19, hf⟩ := hf
        refine V_iald h18.1 h18.s h19 dX12_sightOf_103 ?_
        refine V_cVI (ctX12_lightOf hn hf) gc_X12_291 rfl h10.1 ⟨_, h10.2, by decide, rfl⟩ ⟨by decide, by decide, Nat.zero_le _, Nat.zero_le _⟩ (Nat.le_of_ble_eq_true rfl) dX12_sightOf_104 rfl hn (fun r20 z21 hf => ?_)
        refine V_iconst (v := (1 : Int32)) dX12_sightOf_107 (by decide) ?_
        refine V_icmp_ne (tgt := 115) dX12_sightOf_108 (by decide) (fun h22 => ?_) (fun h22 => ?_)
        · have hf := it_f h22 hf
          refine V_to [0] rfl ?_
          exact vX12_sightOf_J115 hn hf
        · have hf := it_t (Classical.not_not.mp h22) hf
          refine V_to [0] rfl ?_
          exact vX12_sightOf_J111 hn hf
def wX12_sightOf_B13 (n : Nat) (sh : Nat → Nat × Nat) (k13 : Nat → Int32 → Int32 → Int32 → Int32 → Int32 → gS → Prop) (P : Int32 → gS → Prop) (a0 : Nat) (x1 : Int32) (x2 : Int32) (x3 : Int32) (x4 : Int32) (x5 : Int32) (z : gS) : Prop := if (10 : Int32) ≤ x5 then ((oO n sh a0 8) ∧ (wX12_paneOf n sh a0 x2 (0 : Int32) z (fun (r4 : Int32) (z5 : gS) => if r4 = (3 : Int32) then wX12_sightOf_J60 n sh P a0 x1 x2 x4 x3 z5 else wX12_sightOf_J60 n sh P a0 x1 x2 (0 : Int32) x3 z5))) else (∀ v27 : Int32, v27 = (x4 ||| (((x3 >>> (x5 &&& 31)) &&& (1 : Int32)) <<< (((9 : Int32) - x5) &&& 31))) → (∀ v28 : Int32, v28 = x5 + (1 : Int32) → k13 a0 x1 x2 x3 v27 v28 z))
def wX12_sightOf_L13 (n : Nat) (sh : Nat → Nat × Nat) (P : Int32 → gS → Prop) : Nat → Nat → Int32 → Int32 → Int32 → Int32 → Int32 → gS → Prop
  | 0, _, _, _, _, _, _, _ => False
  | N + 1, a0, x1, x2, x3, x4, x5, z => wX12_sightOf_B13 n sh (wX12_sightOf_L13 n sh P N) P a0 x1 x2 x3 x4 x5 z
set_option maxRecDepth 100000 in
set_option maxHeartbeats 4000000 in
theorem vX12_sightOf_B13 {E : gE} {n : Nat} {sh : Nat → Nat × Nat} {P : Int32 → gS → Prop} {k13 : Nat → Int32 → Int32 → Int32 → Int32 → Int32 → gS → Prop} {a0 : Nat} {x1 : Int32} {x2 : Int32} {x3 : Int32} {x4 : Int32} {x5 : Int32} {z : gS} (hn : gOK E n) (hk13 : ∀ (a0 : Nat) (x1 : Int32) (x2 : Int32) (x3 : Int32) (x4 : Int32) (x5 : Int32) (z : gS), k13 a0 x1 x2 x3 x4 x5 z → V E (gR 1 0) gyX12_sightOf 0 0 13 [(0, .ref a0), (1, .int x1), (2, .int x2), (3, .int x3), (4, .int x4), (5, .int x5)] [] n sh z (kI n sh P)) (hf : wX12_sightOf_B13 n sh k13 P a0 x1 x2 x3 x4 x5 z) : V E (gR 1 0) gyX12_sightOf 0 0 13 [(0, .ref a0), (1, .int x1), (2, .int x2), (3, .int x3), (4, .int x4), (5, .int x5)] [] n sh z (kI n sh P) := by
  unfold wX12_sightOf_B13 at hf
  refine V_iload (j := 5) dX12_sightOf_13 rfl ?_
  refine V_bipush (v := (10 : Int32)) dX12_sightOf_15 (by decide) ?_
  refine V_icmp_ge (tgt := 43) dX12_sightOf_17 (by decide) (fun h29 => ?_) (fun h29 => ?_)
  · have hf := it_t h29 hf
    refine V_iload_n (j := 3) dX12_sightOf_43 rfl rfl ?_
    refine V_aload_n (j := 0) dX12_sightOf_44 rfl rfl ?_
    refine V_iload_n (j := 2) dX12_sightOf_45 rfl rfl ?_
    refine V_iconst (v := (0 : Int32)) dX12_sightOf_46 (by decide) ?_
    obtain ⟨h6, hf⟩ := hf
    refine V_cVI (ctX12_paneOf hn hf) gc_X12_284 rfl h6.1 ⟨_, h6.2, by decide, rfl⟩ ⟨by decide, by decide, Nat.zero_le _, Nat.zero_le _⟩ (Nat.le_of_ble_eq_true rfl) dX12_sightOf_47 rfl hn (fun r4 z5 hf => ?_)
    refine V_iconst (v := (3 : Int32)) dX12_sightOf_50 (by decide) ?_
    refine V_icmp_ne (tgt := 59) dX12_sightOf_51 (by decide) (fun h26 => ?_) (fun h26 => ?_)
    · have hf := it_f h26 hf
      refine V_iconst (v := (0 : Int32)) dX12_sightOf_59 (by decide) ?_
      refine V_to [0, 1, 2] rfl ?_
      exact vX12_sightOf_J60 hn hf
    · have hf := it_t (Classical.not_not.mp h26) hf
      refine V_iload (j := 4) dX12_sightOf_54 rfl ?_
      refine V_goto (tgt := 60) dX12_sightOf_56 (by decide) ?_
      refine V_to [0, 1, 2] rfl ?_
      exact vX12_sightOf_J60 hn hf
  · have hf := it_f h29 hf
    refine V_iload (j := 4) dX12_sightOf_20 rfl ?_
    refine V_iload_n (j := 3) dX12_sightOf_22 rfl rfl ?_
    refine V_iload (j := 5) dX12_sightOf_23 rfl ?_
    refine V_ishr dX12_sightOf_25 ?_
    refine V_iconst (v := (1 : Int32)) dX12_sightOf_26 (by decide) ?_
    refine V_iand dX12_sightOf_27 ?_
    refine V_bipush (v := (9 : Int32)) dX12_sightOf_28 (by decide) ?_
    refine V_iload (j := 5) dX12_sightOf_30 rfl ?_
    refine V_isub dX12_sightOf_32 ?_
    refine V_ishl dX12_sightOf_33 ?_
    refine V_ior dX12_sightOf_34 ?_
    refine V_nI (fun v27 ev27 => ?_)
    have hf := hf v27 ev27
    refine V_istore (ls2 := [(4, .int v27), (0, .ref a0), (1, .int x1), (2, .int x2), (3, .int x3), (5, .int x5)]) dX12_sightOf_35 (by decide) rfl ?_
    obtain ⟨v28, ev28⟩ : ∃ y : Int32, y = x5 + (1 : Int32) := ⟨_, rfl⟩
    refine V_iinc (j := 5) (v := v28) (ls2 := [(5, .int v28), (4, .int v27), (0, .ref a0), (1, .int x1), (2, .int x2), (3, .int x3)]) dX12_sightOf_37 rfl (by rw [ev28]; rfl) (by decide) rfl ?_
    have hf := hf v28 ev28
    refine V_goto (tgt := 13) dX12_sightOf_40 (by decide) ?_
    refine V_to [2, 3, 4, 5, 1, 0] rfl ?_
    exact hk13 _ _ _ _ _ _ _ hf
set_option maxRecDepth 100000 in
set_option maxHeartbeats 4000000 in
theorem vX12_sightOf_L13 {E : gE} {n : Nat} {sh : Nat → Nat × Nat} {P : Int32 → gS → Prop} (hn : gOK E n) : ∀ (N : Nat) (a0 : Nat) (x1 : Int32) (x2 : Int32) (x3 : Int32) (x4 : Int32) (x5 : Int32) (z : gS), wX12_sightOf_L13 n sh P N a0 x1 x2 x3 x4 x5 z → V E (gR 1 0) gyX12_sightOf 0 0 13 [(0, .ref a0), (1, .int x1), (2, .int x2), (3, .int x3), (4, .int x4), (5, .int x5)] [] n sh z (kI n sh P) := by
  intro N
  induction N with
  | zero => intro a0 x1 x2 x3 x4 x5 z hf; exact False.elim hf
  | succ N ih => intro a0 x1 x2 x3 x4 x5 z hf; exact vX12_sightOf_B13 hn ih hf
def wX12_sightOf (n : Nat) (sh : Nat → Nat × Nat) (a0 : Nat) (x1 : Int32) (x2 : Int32) (z : gS) (P : Int32 → gS → Prop) : Prop := (oO n sh a0 8) ∧ (wX12_paneOf n sh a0 x2 (2 : Int32) z (fun (r1 : Int32) (z2 : gS) => (∃ N, wX12_sightOf_L13 n sh P N a0 x1 x2 r1 (0 : Int32) (0 : Int32) z2)))
set_option maxRecDepth 100000 in
set_option maxHeartbeats 4000000 in
theorem ctX12_sightOf {E : gE} {n : Nat} {sh : Nat → Nat × Nat} {a0 : Nat} {x1 : Int32} {x2 : Int32} {z : gS} {P : Int32 → gS → Prop} (hn : gOK E n) (hf : wX12_sightOf n sh a0 x1 x2 z P) : VM E 1 0 gyX12_sightOf [.ref a0, .int x1, .int x2] n sh z (kI n sh P) := by
  unfold wX12_sightOf at hf
  refine VM.of (by decide +kernel) (Nat.le_of_ble_eq_true rfl) (fun _ _ _ h => h.2.2) ?_
  show V E (gR 1 0) gyX12_sightOf 0 0 0 [(0, .ref a0), (1, .int x1), (2, .int x2)] [] n sh z (kI n sh P)
  refine V_aload_n (j := 0) dX12_sightOf_0 rfl rfl ?_
  refine V_iload_n (j := 2) dX12_sightOf_1 rfl rfl ?_
  refine V_iconst (v := (2 : Int32)) dX12_sightOf_2 (by decide) ?_
  obtain ⟨h3, hf⟩ := hf
  refine V_cVI (ctX12_paneOf hn hf) gc_X12_284 rfl h3.1 ⟨_, h3.2, by decide, rfl⟩ ⟨by decide, by decide, Nat.zero_le _, Nat.zero_le _⟩ (Nat.le_of_ble_eq_true rfl) dX12_sightOf_3 rfl hn (fun r1 z2 hf => ?_)
  refine V_istore_n (ls2 := [(3, .int r1), (0, .ref a0), (1, .int x1), (2, .int x2)]) dX12_sightOf_6 rfl (by decide) rfl ?_
  refine V_iconst (v := (0 : Int32)) dX12_sightOf_7 (by decide) ?_
  refine V_istore (ls2 := [(4, .int (0 : Int32)), (3, .int r1), (0, .ref a0), (1, .int x1), (2, .int x2)]) dX12_sightOf_8 (by decide) rfl ?_
  refine V_iconst (v := (0 : Int32)) dX12_sightOf_10 (by decide) ?_
  refine V_istore (ls2 := [(5, .int (0 : Int32)), (4, .int (0 : Int32)), (3, .int r1), (0, .ref a0), (1, .int x1), (2, .int x2)]) dX12_sightOf_11 (by decide) rfl ?_
  obtain ⟨N, hf⟩ := hf
  refine V_to [3, 4, 5, 2, 1, 0] rfl ?_
  exact vX12_sightOf_L13 hn N _ _ _ _ _ _ _ hf
def wX12_doesSee (n : Nat) (sh : Nat → Nat × Nat) (a0 : Nat) (x1 : Int32) (x2 : Int32) (x3 : Int32) (z : gS) (P : Int32 → gS → Prop) : Prop := (oO n sh a0 8) ∧ (wX12_sightOf n sh a0 x1 x2 z (fun (r1 : Int32) (z2 : gS) => if ((r1 >>> (x3 &&& 31)) &&& (1 : Int32)) = (1 : Int32) then P (1 : Int32) z2 else P (0 : Int32) z2))
set_option maxRecDepth 100000 in
set_option maxHeartbeats 4000000 in
theorem ctX12_doesSee {E : gE} {n : Nat} {sh : Nat → Nat × Nat} {a0 : Nat} {x1 : Int32} {x2 : Int32} {x3 : Int32} {z : gS} {P : Int32 → gS → Prop} (hn : gOK E n) (hf : wX12_doesSee n sh a0 x1 x2 x3 z P) : VM E 2 0 gyX12_doesSee [.ref a0, .int x1, .int x2, .int x3] n sh z (kI n sh P) := by
  unfold wX12_doesSee at hf
  refine VM.of (by decide +kernel) (Nat.le_of_ble_eq_true rfl) (fun _ _ _ h => h.2.2) ?_
  show V E (gR 2 0) gyX12_doesSee 0 0 0 [(0, .ref a0), (1, .int x1), (2, .int x2), (3, .int x3)] [] n sh z (kI n sh P)
  refine V_aload_n (j := 0) dX12_doesSee_0 rfl rfl ?_
  refine V_iload_n (j := 1) dX12_doesSee_1 rfl rfl ?_
  refine V_iload_n (j := 2) dX12_doesSee_2 rfl rfl ?_
  obtain ⟨h3, hf⟩ := hf
  refine V_cVI (ctX12_sightOf hn hf) gc_X12_294 rfl h3.1 ⟨_, h3.2, by decide, rfl⟩ ⟨by decide, by decide, Nat.zero_le _, Nat.zero_le _⟩ (Nat.le_of_ble_eq_true rfl) dX12_doesSee_3 rfl hn (fun r1 z2 hf => ?_)
  refine V_iload_n (j := 3) dX12_doesSee_6 rfl rfl ?_
  refine V_ishr dX12_doesSee_7 ?_
  refine V_iconst (v := (1 : Int32)) dX12_doesSee_8 (by decide) ?_
  refine V_iand dX12_doesSee_9 ?_
  refine V_iconst (v := (1 : Int32)) dX12_doesSee_10 (by decide) ?_
  refine V_icmp_ne (tgt := 18) dX12_doesSee_11 (by decide) (fun h4 => ?_) (fun h4 => ?_)
  · have hf := it_f h4 hf
    refine V_iconst (v := (0 : Int32)) dX12_doesSee_18 (by decide) ?_
    exact V_ireturn dX12_doesSee_19 rfl (by decide) (Nat.le_refl 0) (kI_of hf)
  · have hf := it_t (Classical.not_not.mp h4) hf
    refine V_iconst (v := (1 : Int32)) dX12_doesSee_14 (by decide) ?_
    refine V_goto (tgt := 19) dX12_doesSee_15 (by decide) ?_
    exact V_ireturn dX12_doesSee_19 rfl (by decide) (Nat.le_refl 0) (kI_of hf)
def wX12_seersOf_J34 (n : Nat) (sh : Nat → Nat × Nat) (k5 : Nat → Int32 → Int32 → Int32 → Int32 → gS → Prop) (P : Int32 → gS → Prop) (a0 : Nat) (x1 : Int32) (x2 : Int32) (x4 : Int32) (s0 : Int32) (s1 : Int32) (z : gS) : Prop := ∀ v6 : Int32, v6 = (s1 ||| s0) → (∀ v7 : Int32, v7 = x4 + (1 : Int32) → k5 a0 x1 x2 v6 v7 z)
set_option maxRecDepth 100000 in
set_option maxHeartbeats 4000000 in
theorem vX12_seersOf_J34 {E : gE} {n : Nat} {sh : Nat → Nat × Nat} {P : Int32 → gS → Prop} {k5 : Nat → Int32 → Int32 → Int32 → Int32 → gS → Prop} {a0 : Nat} {x1 : Int32} {x2 : Int32} {x4 : Int32} {s0 : Int32} {s1 : Int32} {z : gS} (hn : gOK E n) (hk5 : ∀ (a0 : Nat) (x1 : Int32) (x2 : Int32) (x3 : Int32) (x4 : Int32) (z : gS), k5 a0 x1 x2 x3 x4 z → V E (gR 3 0) gyX12_seersOf 0 0 5 [(0, .ref a0), (1, .int x1), (2, .int x2), (3, .int x3), (4, .int x4)] [] n sh z (kI n sh P)) (hf : wX12_seersOf_J34 n sh k5 P a0 x1 x2 x4 s0 s1 z) : V E (gR 3 0) gyX12_seersOf 0 0 34 [(0, .ref a0), (1, .int x1), (2, .int x2), (4, .int x4)] [.int s0, .int s1] n sh z (kI n sh P) := by
  unfold wX12_seersOf_J34 at hf
  refine V_ior dX12_seersOf_34 ?_
  refine V_nI (fun v6 ev6 => ?_)
  have hf := hf v6 ev6
  refine V_istore_n (ls2 := [(3, .int v6), (0, .ref a0), (1, .int x1), (2, .int x2), (4, .int x4)]) dX12_seersOf_35 rfl (by decide) rfl ?_
  obtain ⟨v7, ev7⟩ : ∃ y : Int32, y = x4 + (1 : Int32) := ⟨_, rfl⟩
  refine V_iinc (j := 4) (v := v7) (ls2 := [(4, .int v7), (3, .int v6), (0, .ref a0), (1, .int x1), (2, .int x2)]) dX12_seersOf_36 rfl (by rw [ev7]; rfl) (by decide) rfl ?_
  have hf := hf v7 ev7
  refine V_goto (tgt := 5) dX12_seersOf_39 (by decide) ?_
  refine V_to [2, 3, 4, 1, 0] rfl ?_
  exact hk5 _ _ _ _ _ _ hf
def wX12_seersOf_B5 (n : Nat) (sh : Nat → Nat × Nat) (k5 : Nat → Int32 → Int32 → Int32 → Int32 → gS → Prop) (P : Int32 → gS → Prop) (a0 : Nat) (x1 : Int32) (x2 : Int32) (x3 : Int32) (x4 : Int32) (z : gS) : Prop := (oO n sh a0 8) ∧ (wX12_panes n sh a0 z (fun (r1 : Int32) (z2 : gS) => if r1 ≤ x4 then P x3 z2 else (wX12_doesSee n sh a0 x1 x4 x2 z2 (fun (r4 : Int32) (z5 : gS) => if r4 = 0 then wX12_seersOf_J34 n sh k5 P a0 x1 x2 x4 (0 : Int32) x3 z5 else wX12_seersOf_J34 n sh k5 P a0 x1 x2 x4 ((1 : Int32) <<< (x4 &&& 31)) x3 z5))))
def wX12_seersOf_L5 (n : Nat) (sh : Nat → Nat × Nat) (P : Int32 → gS → Prop) : Nat → Nat → Int32 → Int32 → Int32 → Int32 → gS → Prop
  | 0, _, _, _, _, _, _ => False
  | N + 1, a0, x1, x2, x3, x4, z => wX12_seersOf_B5 n sh (wX12_seersOf_L5 n sh P N) P a0 x1 x2 x3 x4 z
set_option maxRecDepth 100000 in
set_option maxHeartbeats 4000000 in
theorem vX12_seersOf_B5 {E : gE} {n : Nat} {sh : Nat → Nat × Nat} {P : Int32 → gS → Prop} {k5 : Nat → Int32 → Int32 → Int32 → Int32 → gS → Prop} {a0 : Nat} {x1 : Int32} {x2 : Int32} {x3 : Int32} {x4 : Int32} {z : gS} (hn : gOK E n) (hk5 : ∀ (a0 : Nat) (x1 : Int32) (x2 : Int32) (x3 : Int32) (x4 : Int32) (z : gS), k5 a0 x1 x2 x3 x4 z → V E (gR 3 0) gyX12_seersOf 0 0 5 [(0, .ref a0), (1, .int x1), (2, .int x2), (3, .int x3), (4, .int x4)] [] n sh z (kI n sh P)) (hf : wX12_seersOf_B5 n sh k5 P a0 x1 x2 x3 x4 z) : V E (gR 3 0) gyX12_seersOf 0 0 5 [(0, .ref a0), (1, .int x1), (2, .int x2), (3, .int x3), (4, .int x4)] [] n sh z (kI n sh P) := by
  unfold wX12_seersOf_B5 at hf
  refine V_iload (j := 4) dX12_seersOf_5 rfl ?_
  refine V_aload_n (j := 0) dX12_seersOf_7 rfl rfl ?_
  obtain ⟨h3, hf⟩ := hf
  refine V_cVI (ctX12_panes hn hf) gc_X12_278 rfl h3.1 ⟨_, h3.2, by decide, rfl⟩ ⟨by decide, by decide, Nat.zero_le _, Nat.zero_le _⟩ (Nat.le_of_ble_eq_true rfl) dX12_seersOf_8 rfl hn (fun r1 z2 hf => ?_)
  refine V_icmp_ge (tgt := 42) dX12_seersOf_11 (by decide) (fun h9 => ?_) (fun h9 => ?_)
  · have hf := it_t h9 hf
    refine V_iload_n (j := 3) dX12_seersOf_42 rfl rfl ?_
    exact V_ireturn dX12_seersOf_43 rfl rfl (Nat.le_refl 0) (kI_of hf)
  · have hf := it_f h9 hf
    refine V_iload_n (j := 3) dX12_seersOf_14 rfl rfl ?_
    refine V_aload_n (j := 0) dX12_seersOf_15 rfl rfl ?_
    refine V_iload_n (j := 1) dX12_seersOf_16 rfl rfl ?_
    refine V_iload (j := 4) dX12_seersOf_17 rfl ?_
    refine V_iload_n (j := 2) dX12_seersOf_19 rfl rfl ?_
    refine V_cVI (ctX12_doesSee hn hf) gc_X12_297 rfl h3.1 ⟨_, h3.2, by decide, rfl⟩ ⟨by decide, by decide, Nat.zero_le _, Nat.zero_le _⟩ (Nat.le_of_ble_eq_true rfl) dX12_seersOf_20 rfl hn (fun r4 z5 hf => ?_)
    refine V_if_eq (tgt := 33) dX12_seersOf_23 (by decide) (fun h8 => ?_) (fun h8 => ?_)
    · have hf := it_t h8 hf
      refine V_iconst (v := (0 : Int32)) dX12_seersOf_33 (by decide) ?_
      refine V_to [0, 1, 2, 4] rfl ?_
      exact vX12_seersOf_J34 hn hk5 hf
    · have hf := it_f h8 hf
      refine V_iconst (v := (1 : Int32)) dX12_seersOf_26 (by decide) ?_
      refine V_iload (j := 4) dX12_seersOf_27 rfl ?_
      refine V_ishl dX12_seersOf_29 ?_
      refine V_goto (tgt := 34) dX12_seersOf_30 (by decide) ?_
      refine V_to [0, 1, 2, 4] rfl ?_
      exact vX12_seersOf_J34 hn hk5 hf
set_option maxRecDepth 100000 in
set_option maxHeartbeats 4000000 in
theorem vX12_seersOf_L5 {E : gE} {n : Nat} {sh : Nat → Nat × Nat} {P : Int32 → gS → Prop} (hn : gOK E n) : ∀ (N : Nat) (a0 : Nat) (x1 : Int32) (x2 : Int32) (x3 : Int32) (x4 : Int32) (z : gS), wX12_seersOf_L5 n sh P N a0 x1 x2 x3 x4 z → V E (gR 3 0) gyX12_seersOf 0 0 5 [(0, .ref a0), (1, .int x1), (2, .int x2), (3, .int x3), (4, .int x4)] [] n sh z (kI n sh P) := by
  intro N
  induction N with
  | zero => intro a0 x1 x2 x3 x4 z hf; exact False.elim hf
  | succ N ih => intro a0 x1 x2 x3 x4 z hf; exact vX12_seersOf_B5 hn ih hf
def wX12_seersOf (n : Nat) (sh : Nat → Nat × Nat) (a0 : Nat) (x1 : Int32) (x2 : Int32) (z : gS) (P : Int32 → gS → Prop) : Prop := (∃ N, wX12_seersOf_L5 n sh P N a0 x1 x2 (0 : Int32) (0 : Int32) z)
set_option maxRecDepth 100000 in
set_option maxHeartbeats 4000000 in
theorem ctX12_seersOf {E : gE} {n : Nat} {sh : Nat → Nat × Nat} {a0 : Nat} {x1 : Int32} {x2 : Int32} {z : gS} {P : Int32 → gS → Prop} (hn : gOK E n) (hf : wX12_seersOf n sh a0 x1 x2 z P) : VM E 3 0 gyX12_seersOf [.ref a0, .int x1, .int x2] n sh z (kI n sh P) := by
  unfold wX12_seersOf at hf
  refine VM.of (by decide +kernel) (Nat.le_of_ble_eq_true rfl) (fun _ _ _ h => h.2.2) ?_
  show V E (gR 3 0) gyX12_seersOf 0 0 0 [(0, .ref a0), (1, .int x1), (2, .int x2)] [] n sh z (kI n sh P)
  refine V_iconst (v := (0 : Int32)) dX12_seersOf_0 (by decide) ?_
  refine V_istore_n (ls2 := [(3, .int (0 : Int32)), (0, .ref a0), (1, .int x1), (2, .int x2)]) dX12_seersOf_1 rfl (by decide) rfl ?_
  refine V_iconst (v := (0 : Int32)) dX12_seersOf_2 (by decide) ?_
  refine V_istore (ls2 := [(4, .int (0 : Int32)), (3, .int (0 : Int32)), (0, .ref a0), (1, .int x1), (2, .int x2)]) dX12_seersOf_3 (by decide) rfl ?_
  obtain ⟨N, hf⟩ := hf
  refine V_to [2, 3, 4, 1, 0] rfl ?_
  exact vX12_seersOf_L5 hn N _ _ _ _ _ _ hf
def wX12_markOf (n : Nat) (sh : Nat → Nat × Nat) (a0 : Nat) (x1 : Int32) (x2 : Int32) (x3 : Int32) (z : gS) (P : Int32 → gS → Prop) : Prop := (oO n sh a0 8) ∧ (∃ t2 : Nat, gr z a0 24 = some t2 ∧ ((oA n sh t2 1) ∧ ((vp_in (((x1 + (24 : Int32)) + ((6 : Int32) * x2)) + x3) (sh t2).2) ∧ P (gi z t2 (((x1 + (24 : Int32)) + ((6 : Int32) * x2)) + x3).toNatClampNeg) z)))
set_option maxRecDepth 100000 in
set_option maxHeartbeats 4000000 in
theorem ctX12_markOf {E : gE} {n : Nat} {sh : Nat → Nat × Nat} {a0 : Nat} {x1 : Int32} {x2 : Int32} {x3 : Int32} {z : gS} {P : Int32 → gS → Prop} (hn : gOK E n) (hf : wX12_markOf n sh a0 x1 x2 x3 z P) : VM E 0 0 gyX12_markOf [.ref a0, .int x1, .int x2, .int x3] n sh z (kI n sh P) := by
  unfold wX12_markOf at hf
  refine VM.of (by decide +kernel) (Nat.le_of_ble_eq_true rfl) (fun _ _ _ h => h.2.2) ?_
  show V E (gR 0 0) gyX12_markOf 0 0 0 [(0, .ref a0), (1, .int x1), (2, .int x2), (3, .int x3)] [] n sh z (kI n sh P)
  refine V_aload_n (j := 0) dX12_markOf_0 rfl rfl ?_
  obtain ⟨h1, hf⟩ := hf
  obtain ⟨t2, et2, hf⟩ := hf
  refine V_getR fl_X12_119 rfl h1.1 h1.2 et2 dX12_markOf_1 ?_
  refine V_iload_n (j := 1) dX12_markOf_4 rfl rfl ?_
  refine V_bipush (v := (24 : Int32)) dX12_markOf_5 (by decide) ?_
  refine V_iadd dX12_markOf_7 ?_
  refine V_bipush (v := (6 : Int32)) dX12_markOf_8 (by decide) ?_
  refine V_iload_n (j := 2) dX12_markOf_10 rfl rfl ?_
  refine V_imul dX12_markOf_11 ?_
  refine V_iadd dX12_markOf_12 ?_
  refine V_iload_n (j := 3) dX12_markOf_13 rfl rfl ?_
  refine V_iadd dX12_markOf_14 ?_
  obtain ⟨h3, hf⟩ := hf
  obtain ⟨h4, hf⟩ := hf
  refine V_iald h3.1 h3.s h4 dX12_markOf_15 ?_
  exact V_ireturn dX12_markOf_16 rfl rfl (Nat.le_refl 0) (kI_of hf)
def wX12_whoOf (n : Nat) (sh : Nat → Nat × Nat) (x0 : Int32) (z : gS) (P : Int32 → gS → Prop) : Prop := P (x0 &&& (7 : Int32)) z
set_option maxRecDepth 100000 in
set_option maxHeartbeats 4000000 in
theorem ctX12_whoOf {E : gE} {n : Nat} {sh : Nat → Nat × Nat} {x0 : Int32} {z : gS} {P : Int32 → gS → Prop} (hn : gOK E n) (hf : wX12_whoOf n sh x0 z P) : VM E 0 0 gyX12_whoOf [.int x0] n sh z (kI n sh P) := by
  unfold wX12_whoOf at hf
  refine VM.of (by decide +kernel) (Nat.le_of_ble_eq_true rfl) (fun _ _ _ h => h.2.2) ?_
  show V E (gR 0 0) gyX12_whoOf 0 0 0 [(0, .int x0)] [] n sh z (kI n sh P)
  refine V_iload_n (j := 0) dX12_whoOf_0 rfl rfl ?_
  refine V_bipush (v := (7 : Int32)) dX12_whoOf_1 (by decide) ?_
  refine V_iand dX12_whoOf_3 ?_
  exact V_ireturn dX12_whoOf_4 rfl rfl (Nat.le_refl 0) (kI_of hf)
def wX12_deedOf (n : Nat) (sh : Nat → Nat × Nat) (x0 : Int32) (z : gS) (P : Int32 → gS → Prop) : Prop := P ((x0 >>> ((3 : Int32) &&& 31)) &&& (7 : Int32)) z
set_option maxRecDepth 100000 in
set_option maxHeartbeats 4000000 in
theorem ctX12_deedOf {E : gE} {n : Nat} {sh : Nat → Nat × Nat} {x0 : Int32} {z : gS} {P : Int32 → gS → Prop} (hn : gOK E n) (hf : wX12_deedOf n sh x0 z P) : VM E 0 0 gyX12_deedOf [.int x0] n sh z (kI n sh P) := by
  unfold wX12_deedOf at hf
  refine VM.of (by decide +kernel) (Nat.le_of_ble_eq_true rfl) (fun _ _ _ h => h.2.2) ?_
  show V E (gR 0 0) gyX12_deedOf 0 0 0 [(0, .int x0)] [] n sh z (kI n sh P)
  refine V_iload_n (j := 0) dX12_deedOf_0 rfl rfl ?_
  refine V_iconst (v := (3 : Int32)) dX12_deedOf_1 (by decide) ?_
  refine V_ishr dX12_deedOf_2 ?_
  refine V_bipush (v := (7 : Int32)) dX12_deedOf_3 (by decide) ?_
  refine V_iand dX12_deedOf_5 ?_
  exact V_ireturn dX12_deedOf_6 rfl rfl (Nat.le_refl 0) (kI_of hf)
def wX12_cellOf (n : Nat) (sh : Nat → Nat × Nat) (x0 : Int32) (z : gS) (P : Int32 → gS → Prop) : Prop := P ((x0 >>> ((6 : Int32) &&& 31)) &&& (15 : Int32)) z
set_option maxRecDepth 100000 in
set_option maxHeartbeats 4000000 in
theorem ctX12_cellOf {E : gE} {n : Nat} {sh : Nat → Nat × Nat} {x0 : Int32} {z : gS} {P : Int32 → gS → Prop} (hn : gOK E n) (hf : wX12_cellOf n sh x0 z P) : VM E 0 0 gyX12_cellOf [.int x0] n sh z (kI n sh P) := by
  unfold wX12_cellOf at hf
  refine VM.of (by decide +kernel) (Nat.le_of_ble_eq_true rfl) (fun _ _ _ h => h.2.2) ?_
  show V E (gR 0 0) gyX12_cellOf 0 0 0 [(0, .int x0)] [] n sh z (kI n sh P)
  refine V_iload_n (j := 0) dX12_cellOf_0 rfl rfl ?_
  refine V_bipush (v := (6 : Int32)) dX12_cellOf_1 (by decide) ?_
  refine V_ishr dX12_cellOf_3 ?_
  refine V_bipush (v := (15 : Int32)) dX12_cellOf_4 (by decide) ?_
  refine V_iand dX12_cellOf_6 ?_
  exact V_ireturn dX12_cellOf_7 rfl rfl (Nat.le_refl 0) (kI_of hf)
def wX12_ageOf (n : Nat) (sh : Nat → Nat × Nat) (x0 : Int32) (z : gS) (P : Int32 → gS → Prop) : Prop := P (x0 >>> ((10 : Int32) &&& 31)) z
set_option maxRecDepth 100000 in
set_option maxHeartbeats 4000000 in
theorem ctX12_ageOf {E : gE} {n : Nat} {sh : Nat → Nat × Nat} {x0 : Int32} {z : gS} {P : Int32 → gS → Prop} (hn : gOK E n) (hf : wX12_ageOf n sh x0 z P) : VM E 0 0 gyX12_ageOf [.int x0] n sh z (kI n sh P) := by
  unfold wX12_ageOf at hf
  refine VM.of (by decide +kernel) (Nat.le_of_ble_eq_true rfl) (fun _ _ _ h => h.2.2) ?_
  show V E (gR 0 0) gyX12_ageOf 0 0 0 [(0, .int x0)] [] n sh z (kI n sh P)
  refine V_iload_n (j := 0) dX12_ageOf_0 rfl rfl ?_
  refine V_bipush (v := (10 : Int32)) dX12_ageOf_1 (by decide) ?_
  refine V_ishr dX12_ageOf_3 ?_
  exact V_ireturn dX12_ageOf_4 rfl rfl (Nat.le_refl 0) (kI_of hf)
def wX12_forgets_B18 (n : Nat) (sh : Nat → Nat × Nat) (k18 : Nat → Int32 → Int32 → Int32 → gS → Prop) (P : gS → Prop) (a0 : Nat) (x1 : Int32) (x2 : Int32) (x4 : Int32) (z : gS) : Prop := (oO n sh a0 8) ∧ (∃ t8 : Nat, gr z a0 24 = some t8 ∧ ((oA n sh t8 1) ∧ ((vp_in ((x1 + (18 : Int32)) + x2) (sh t8).2) ∧ (if (gi z t8 ((x1 + (18 : Int32)) + x2).toNatClampNeg) ≤ x4 then P z else (∃ t11 : Nat, gr z a0 24 = some t11 ∧ (wX12_markOf n sh a0 x1 x2 (x4 + (1 : Int32)) z (fun (r12 : Int32) (z13 : gS) => (oA n sh t11 1) ∧ ((vp_in (((x1 + (24 : Int32)) + ((6 : Int32) * x2)) + x4) (sh t11).2) ∧ (∀ z16 : gS, z16 = si z13 t11 (((x1 + (24 : Int32)) + ((6 : Int32) * x2)) + x4).toNatClampNeg r12 → (∀ v17 : Int32, v17 = x4 + (1 : Int32) → k18 a0 x1 x2 v17 z16))))))))))
def wX12_forgets_L18 (n : Nat) (sh : Nat → Nat × Nat) (P : gS → Prop) : Nat → Nat → Int32 → Int32 → Int32 → gS → Prop
  | 0, _, _, _, _, _ => False
  | N + 1, a0, x1, x2, x4, z => wX12_forgets_B18 n sh (wX12_forgets_L18 n sh P N) P a0 x1 x2 x4 z
set_option maxRecDepth 100000 in
set_option maxHeartbeats 4000000 in
theorem vX12_forgets_B18 {E : gE} {n : Nat} {sh : Nat → Nat × Nat} {P : gS → Prop} {k18 : Nat → Int32 → Int32 → Int32 → gS → Prop} {a0 : Nat} {x1 : Int32} {x2 : Int32} {x4 : Int32} {z : gS} (hn : gOK E n) (hk18 : ∀ (a0 : Nat) (x1 : Int32) (x2 : Int32) (x4 : Int32) (z : gS), k18 a0 x1 x2 x4 z → V E (gR 1 0) gyX12_forgets 0 0 18 [(0, .ref a0), (1, .int x1), (2, .int x2), (4, .int x4)] [] n sh z (kN n sh P)) (hf : wX12_forgets_B18 n sh k18 P a0 x1 x2 x4 z) : V E (gR 1 0) gyX12_forgets 0 0 18 [(0, .ref a0), (1, .int x1), (2, .int x2), (4, .int x4)] [] n sh z (kN n sh P) := by
  unfold wX12_forgets_B18 at hf
  refine V_iload (j := 3) dX12_forgets_18 rfl ?_
  refine V_aload_n (j := 0) dX12_forgets_20 rfl rfl ?_
  obtain ⟨h7, hf⟩ := hf
  obtain ⟨t8, et8, hf⟩ := hf
  refine V_getR fl_X12_119 rfl h7.1 h7.2 et8 dX12_forgets_21 ?_
  refine V_iload_n (j := 1) dX12_forgets_24 rfl rfl ?_
  refine V_bipush (v := (18 : Int32)) dX12_forgets_25 (by decide) ?_
  refine V_iadd dX12_forgets_27 ?_
  refine V_iload_n (j := 2) dX12_forgets_28 rfl rfl ?_
  refine V_iadd dX12_forgets_29 ?_
  obtain ⟨h9, hf⟩ := hf
  obtain ⟨h10, hf⟩ := hf
  refine V_iald h9.1 h9.s h10 dX12_forgets_30 ?_
  refine V_icmp_ge (tgt := 67) dX12_forgets_31 (by decide) (fun h18 => ?_) (fun h18 => ?_)
  · have hf := it_t h18 hf
    exact V_return dX12_forgets_67 rfl (Nat.le_refl 0) (kN_of hf)
  · have hf := it_f h18 hf
    refine V_aload_n (j := 0) dX12_forgets_34 rfl rfl ?_
    obtain ⟨t11, et11, hf⟩ := hf
    refine V_getR fl_X12_119 rfl h7.1 h7.2 et11 dX12_forgets_35 ?_
    refine V_iload_n (j := 1) dX12_forgets_38 rfl rfl ?_
    refine V_bipush (v := (24 : Int32)) dX12_forgets_39 (by decide) ?_
    refine V_iadd dX12_forgets_41 ?_
    refine V_bipush (v := (6 : Int32)) dX12_forgets_42 (by decide) ?_
    refine V_iload_n (j := 2) dX12_forgets_44 rfl rfl ?_
    refine V_imul dX12_forgets_45 ?_
    refine V_iadd dX12_forgets_46 ?_
    refine V_iload (j := 3) dX12_forgets_47 rfl ?_
    refine V_iadd dX12_forgets_49 ?_
    refine V_aload_n (j := 0) dX12_forgets_50 rfl rfl ?_
    refine V_iload_n (j := 1) dX12_forgets_51 rfl rfl ?_
    refine V_iload_n (j := 2) dX12_forgets_52 rfl rfl ?_
    refine V_iload (j := 3) dX12_forgets_53 rfl ?_
    refine V_iconst (v := (1 : Int32)) dX12_forgets_55 (by decide) ?_
    refine V_iadd dX12_forgets_56 ?_
    refine V_cVI (ctX12_markOf hn hf) gc_X12_300 rfl h7.1 ⟨_, h7.2, by decide, rfl⟩ ⟨by decide, by decide, Nat.zero_le _, Nat.zero_le _⟩ (Nat.le_of_ble_eq_true rfl) dX12_forgets_57 rfl hn (fun r12 z13 hf => ?_)
    obtain ⟨h14, hf⟩ := hf
    obtain ⟨h15, hf⟩ := hf
    refine V_iast h14.1 h14.s h15 dX12_forgets_60 ?_
    refine V_nz (fun z16 ez16 => ?_)
    have hf := hf z16 ez16
    obtain ⟨v17, ev17⟩ : ∃ y : Int32, y = x4 + (1 : Int32) := ⟨_, rfl⟩
    refine V_iinc (j := 3) (v := v17) (ls2 := [(4, .int v17), (0, .ref a0), (1, .int x1), (2, .int x2)]) dX12_forgets_61 rfl (by rw [ev17]; rfl) (by decide) rfl ?_
    have hf := hf v17 ev17
    refine V_goto (tgt := 18) dX12_forgets_64 (by decide) ?_
    refine V_to [1, 2, 3, 0] rfl ?_
    exact hk18 _ _ _ _ _ hf
set_option maxRecDepth 100000 in
set_option maxHeartbeats 4000000 in
theorem vX12_forgets_L18 {E : gE} {n : Nat} {sh : Nat → Nat × Nat} {P : gS → Prop} (hn : gOK E n) : ∀ (N : Nat) (a0 : Nat) (x1 : Int32) (x2 : Int32) (x4 : Int32) (z : gS), wX12_forgets_L18 n sh P N a0 x1 x2 x4 z → V E (gR 1 0) gyX12_forgets 0 0 18 [(0, .ref a0), (1, .int x1), (2, .int x2), (4, .int x4)] [] n sh z (kN n sh P) := by
  intro N
  induction N with
  | zero => intro a0 x1 x2 x4 z hf; exact False.elim hf
  | succ N ih => intro a0 x1 x2 x4 z hf; exact vX12_forgets_B18 hn ih hf
def wX12_forgets (n : Nat) (sh : Nat → Nat × Nat) (a0 : Nat) (x1 : Int32) (x2 : Int32) (x3 : Int32) (z : gS) (P : gS → Prop) : Prop := (oO n sh a0 8) ∧ (∃ t2 : Nat, gr z a0 24 = some t2 ∧ ((oA n sh t2 1) ∧ ((vp_in ((x1 + (18 : Int32)) + x2) (sh t2).2) ∧ ((vp_in ((x1 + (18 : Int32)) + x2) (sh t2).2) ∧ (∀ z6 : gS, z6 = si z t2 ((x1 + (18 : Int32)) + x2).toNatClampNeg ((gi z t2 ((x1 + (18 : Int32)) + x2).toNatClampNeg) - (1 : Int32)) → ((∃ N, wX12_forgets_L18 n sh P N a0 x1 x2 x3 z6)))))))
set_option maxRecDepth 100000 in
set_option maxHeartbeats 4000000 in
theorem ctX12_forgets {E : gE} {n : Nat} {sh : Nat → Nat × Nat} {a0 : Nat} {x1 : Int32} {x2 : Int32} {x3 : Int32} {z : gS} {P : gS → Prop} (hn : gOK E n) (hf : wX12_forgets n sh a0 x1 x2 x3 z P) : VM E 1 0 gyX12_forgets [.ref a0, .int x1, .int x2, .int x3] n sh z (kN n sh P) := by
  unfold wX12_forgets at hf
  refine VM.of (by decide +kernel) (Nat.le_of_ble_eq_true rfl) (fun _ _ _ h => h.2.2) ?_
  show V E (gR 1 0) gyX12_forgets 0 0 0 [(0, .ref a0), (1, .int x1), (2, .int x2), (3, .int x3)] [] n sh z (kN n sh P)
  refine V_aload_n (j := 0) dX12_forgets_0 rfl rfl ?_
  obtain ⟨h1, hf⟩ := hf
  obtain ⟨t2, et2, hf⟩ := hf
  refine V_getR fl_X12_119 rfl h1.1 h1.2 et2 dX12_forgets_1 ?_
  refine V_iload_n (j := 1) dX12_forgets_4 rfl rfl ?_
  refine V_bipush (v := (18 : Int32)) dX12_forgets_5 (by decide) ?_
  refine V_iadd dX12_forgets_7 ?_
  refine V_iload_n (j := 2) dX12_forgets_8 rfl rfl ?_
  refine V_iadd dX12_forgets_9 ?_
  refine V_dup2 dX12_forgets_10 rfl rfl ?_
  obtain ⟨h3, hf⟩ := hf
  obtain ⟨h4, hf⟩ := hf
  refine V_iald h3.1 h3.s h4 dX12_forgets_11 ?_
  refine V_iconst (v := (1 : Int32)) dX12_forgets_12 (by decide) ?_
  refine V_isub dX12_forgets_13 ?_
  obtain ⟨h5, hf⟩ := hf
  refine V_iast h3.1 h3.s h5 dX12_forgets_14 ?_
  refine V_nz (fun z6 ez6 => ?_)
  have hf := hf z6 ez6
  refine V_iload_n (j := 3) dX12_forgets_15 rfl rfl ?_
  refine V_istore (ls2 := [(4, .int x3), (0, .ref a0), (1, .int x1), (2, .int x2), (3, .int x3)]) dX12_forgets_16 (by decide) rfl ?_
  obtain ⟨N, hf⟩ := hf
  refine V_to [1, 2, 3, 0] rfl ?_
  exact vX12_forgets_L18 hn N _ _ _ _ _ hf
def wX12_does_J117 (n : Nat) (sh : Nat → Nat × Nat) (k12 : Nat → Int32 → Int32 → Int32 → Int32 → Int32 → Int32 → gS → Prop) (P : Int32 → gS → Prop) (a0 : Nat) (x1 : Int32) (x2 : Int32) (x3 : Int32) (x4 : Int32) (x5 : Int32) (x6 : Int32) (z : gS) : Prop := ∀ v7 : Int32, v7 = x6 + (1 : Int32) → k12 a0 x1 x2 x3 x4 x5 v7 z
set_option maxRecDepth 100000 in
set_option maxHeartbeats 4000000 in
theorem vX12_does_J117 {E : gE} {n : Nat} {sh : Nat → Nat × Nat} {P : Int32 → gS → Prop} {k12 : Nat → Int32 → Int32 → Int32 → Int32 → Int32 → Int32 → gS → Prop} {a0 : Nat} {x1 : Int32} {x2 : Int32} {x3 : Int32} {x4 : Int32} {x5 : Int32} {x6 : Int32} {z : gS} (hn : gOK E n) (hk12 : ∀ (a0 : Nat) (x1 : Int32) (x2 : Int32) (x3 : Int32) (x4 : Int32) (x5 : Int32) (x6 : Int32) (z : gS), k12 a0 x1 x2 x3 x4 x5 x6 z → V E (gR 4 0) gyX12_does 0 0 12 [(0, .ref a0), (1, .int x1), (2, .int x2), (3, .int x3), (4, .int x4), (5, .int x5), (6, .int x6)] [] n sh z (kI n sh P)) (hf : wX12_does_J117 n sh k12 P a0 x1 x2 x3 x4 x5 x6 z) : V E (gR 4 0) gyX12_does 0 0 117 [(0, .ref a0), (1, .int x1), (2, .int x2), (3, .int x3), (4, .int x4), (5, .int x5), (6, .int x6)] [] n sh z (kI n sh P) := by
  unfold wX12_does_J117 at hf
  obtain ⟨v7, ev7⟩ : ∃ y : Int32, y = x6 + (1 : Int32) := ⟨_, rfl⟩
  refine V_iinc (j := 6) (v := v7) (ls2 := [(6, .int v7), (0, .ref a0), (1, .int x1), (2, .int x2), (3, .int x3), (4, .int x4), (5, .int x5)]) dX12_does_117 rfl (by rw [ev7]; rfl) (by decide) rfl ?_
  have hf := hf v7 ev7
  refine V_goto (tgt := 12) dX12_does_120 (by decide) ?_
  refine V_to [1, 2, 3, 4, 5, 6, 0] rfl ?_
  exact hk12 _ _ _ _ _ _ _ _ hf
def wX12_does_J62 (n : Nat) (sh : Nat → Nat × Nat) (k12 : Nat → Int32 → Int32 → Int32 → Int32 → Int32 → Int32 → gS → Prop) (P : Int32 → gS → Prop) (a0 : Nat) (x1 : Int32) (x2 : Int32) (x3 : Int32) (x4 : Int32) (x5 : Int32) (x6 : Int32) (z : gS) : Prop := (oO n sh a0 8) ∧ (∃ t14 : Nat, gr z a0 24 = some t14 ∧ (∃ t15 : Nat, gr z a0 24 = some t15 ∧ ((oA n sh t15 1) ∧ ((vp_in ((x1 + (18 : Int32)) + x6) (sh t15).2) ∧ ((oA n sh t14 1) ∧ ((vp_in (((x1 + (24 : Int32)) + ((6 : Int32) * x6)) + (gi z t15 ((x1 + (18 : Int32)) + x6).toNatClampNeg)) (sh t14).2) ∧ (∀ z20 : gS, z20 = si z t14 (((x1 + (24 : Int32)) + ((6 : Int32) * x6)) + (gi z t15 ((x1 + (18 : Int32)) + x6).toNatClampNeg)).toNatClampNeg (((x4 <<< ((6 : Int32) &&& 31)) ||| (x3 <<< ((3 : Int32) &&& 31))) ||| x2) → (∃ t21 : Nat, gr z20 a0 24 = some t21 ∧ ((oA n sh t21 1) ∧ ((vp_in ((x1 + (18 : Int32)) + x6) (sh t21).2) ∧ ((vp_in ((x1 + (18 : Int32)) + x6) (sh t21).2) ∧ (∀ z25 : gS, z25 = si z20 t21 ((x1 + (18 : Int32)) + x6).toNatClampNeg ((gi z20 t21 ((x1 + (18 : Int32)) + x6).toNatClampNeg) + (1 : Int32)) → wX12_does_J117 n sh k12 P a0 x1 x2 x3 x4 x5 x6 z25))))))))))))
set_option maxRecDepth 100000 in
set_option maxHeartbeats 4000000 in
theorem vX12_does_J62 {E : gE} {n : Nat} {sh : Nat → Nat × Nat} {P : Int32 → gS → Prop} {k12 : Nat → Int32 → Int32 → Int32 → Int32 → Int32 → Int32 → gS → Prop} {a0 : Nat} {x1 : Int32} {x2 : Int32} {x3 : Int32} {x4 : Int32} {x5 : Int32} {x6 : Int32} {z : gS} (hn : gOK E n) (hk12 : ∀ (a0 : Nat) (x1 : Int32) (x2 : Int32) (x3 : Int32) (x4 : Int32) (x5 : Int32) (x6 : Int32) (z : gS), k12 a0 x1 x2 x3 x4 x5 x6 z → V E (gR 4 0) gyX12_does 0 0 12 [(0, .ref a0), (1, .int x1), (2, .int x2), (3, .int x3), (4, .int x4), (5, .int x5), (6, .int x6)] [] n sh z (kI n sh P)) (hf : wX12_does_J62 n sh k12 P a0 x1 x2 x3 x4 x5 x6 z) : V E (gR 4 0) gyX12_does 0 0 62 [(0, .ref a0), (1, .int x1), (2, .int x2), (3, .int x3), (4, .int x4), (5, .int x5), (6, .int x6)] [] n sh z (kI n sh P) := by
  unfold wX12_does_J62 at hf
  refine V_aload_n (j := 0) dX12_does_62 rfl rfl ?_
  obtain ⟨h13, hf⟩ := hf
  obtain ⟨t14, et14, hf⟩ := hf
  refine V_getR fl_X12_119 rfl h13.1 h13.2 et14 dX12_does_63 ?_
  refine V_iload_n (j := 1) dX12_does_66 rfl rfl ?_
  refine V_bipush (v := (24 : Int32)) dX12_does_67 (by decide) ?_
  refine V_iadd dX12_does_69 ?_
  refine V_bipush (v := (6 : Int32)) dX12_does_70 (by decide) ?_
  refine V_iload (j := 6) dX12_does_72 rfl ?_
  refine V_imul dX12_does_74 ?_
  refine V_iadd dX12_does_75 ?_
  refine V_aload_n (j := 0) dX12_does_76 rfl rfl ?_
  obtain ⟨t15, et15, hf⟩ := hf
  refine V_getR fl_X12_119 rfl h13.1 h13.2 et15 dX12_does_77 ?_
  refine V_iload_n (j := 1) dX12_does_80 rfl rfl ?_
  refine V_bipush (v := (18 : Int32)) dX12_does_81 (by decide) ?_
  refine V_iadd dX12_does_83 ?_
  refine V_iload (j := 6) dX12_does_84 rfl ?_
  refine V_iadd dX12_does_86 ?_
  obtain ⟨h16, hf⟩ := hf
  obtain ⟨h17, hf⟩ := hf
  refine V_iald h16.1 h16.s h17 dX12_does_87 ?_
  refine V_iadd dX12_does_88 ?_
  refine V_iload (j := 4) dX12_does_89 rfl ?_
  refine V_bipush (v := (6 : Int32)) dX12_does_91 (by decide) ?_
  refine V_ishl dX12_does_93 ?_
  refine V_iload_n (j := 3) dX12_does_94 rfl rfl ?_
  refine V_iconst (v := (3 : Int32)) dX12_does_95 (by decide) ?_
  refine V_ishl dX12_does_96 ?_
  refine V_ior dX12_does_97 ?_
  refine V_iload_n (j := 2) dX12_does_98 rfl rfl ?_
  refine V_ior dX12_does_99 ?_
  obtain ⟨h18, hf⟩ := hf
  obtain ⟨h19, hf⟩ := hf
  refine V_iast h18.1 h18.s h19 dX12_does_100 ?_
  refine V_nz (fun z20 ez20 => ?_)
  have hf := hf z20 ez20
  refine V_aload_n (j := 0) dX12_does_101 rfl rfl ?_
  obtain ⟨t21, et21, hf⟩ := hf
  refine V_getR fl_X12_119 rfl h13.1 h13.2 et21 dX12_does_102 ?_
  refine V_iload_n (j := 1) dX12_does_105 rfl rfl ?_
  refine V_bipush (v := (18 : Int32)) dX12_does_106 (by decide) ?_
  refine V_iadd dX12_does_108 ?_
  refine V_iload (j := 6) dX12_does_109 rfl ?_
  refine V_iadd dX12_does_111 ?_
  refine V_dup2 dX12_does_112 rfl rfl ?_
  obtain ⟨h22, hf⟩ := hf
  obtain ⟨h23, hf⟩ := hf
  refine V_iald h22.1 h22.s h23 dX12_does_113 ?_
  refine V_iconst (v := (1 : Int32)) dX12_does_114 (by decide) ?_
  refine V_iadd dX12_does_115 ?_
  obtain ⟨h24, hf⟩ := hf
  refine V_iast h22.1 h22.s h24 dX12_does_116 ?_
  refine V_nz (fun z25 ez25 => ?_)
  have hf := hf z25 ez25
  exact vX12_does_J117 hn hk12 hf
def wX12_does_B12 (n : Nat) (sh : Nat → Nat × Nat) (k12 : Nat → Int32 → Int32 → Int32 → Int32 → Int32 → Int32 → gS → Prop) (P : Int32 → gS → Prop) (a0 : Nat) (x1 : Int32) (x2 : Int32) (x3 : Int32) (x4 : Int32) (x5 : Int32) (x6 : Int32) (z : gS) : Prop := (oO n sh a0 8) ∧ (wX12_panes n sh a0 z (fun (r4 : Int32) (z5 : gS) => if r4 ≤ x6 then P x5 z5 else (if ((x5 >>> (x6 &&& 31)) &&& (1 : Int32)) = (1 : Int32) then (∃ t8 : Nat, gr z5 a0 24 = some t8 ∧ ((oA n sh t8 1) ∧ ((vp_in ((x1 + (18 : Int32)) + x6) (sh t8).2) ∧ (wX12_paneOf n sh a0 x6 (1 : Int32) z5 (fun (r11 : Int32) (z12 : gS) => if (gi z5 t8 ((x1 + (18 : Int32)) + x6).toNatClampNeg) = r11 then (wX12_forgets n sh a0 x1 x6 (0 : Int32) z12 (fun (z27 : gS) => wX12_does_J62 n sh k12 P a0 x1 x2 x3 x4 x5 x6 z27)) else wX12_does_J62 n sh k12 P a0 x1 x2 x3 x4 x5 x6 z12))))) else wX12_does_J117 n sh k12 P a0 x1 x2 x3 x4 x5 x6 z5)))
def wX12_does_L12 (n : Nat) (sh : Nat → Nat × Nat) (P : Int32 → gS → Prop) : Nat → Nat → Int32 → Int32 → Int32 → Int32 → Int32 → Int32 → gS → Prop
  | 0, _, _, _, _, _, _, _, _ => False
  | N + 1, a0, x1, x2, x3, x4, x5, x6, z => wX12_does_B12 n sh (wX12_does_L12 n sh P N) P a0 x1 x2 x3 x4 x5 x6 z
set_option maxRecDepth 100000 in
set_option maxHeartbeats 4000000 in
theorem vX12_does_B12 {E : gE} {n : Nat} {sh : Nat → Nat × Nat} {P : Int32 → gS → Prop} {k12 : Nat → Int32 → Int32 → Int32 → Int32 → Int32 → Int32 → gS → Prop} {a0 : Nat} {x1 : Int32} {x2 : Int32} {x3 : Int32} {x4 : Int32} {x5 : Int32} {x6 : Int32} {z : gS} (hn : gOK E n) (hk12 : ∀ (a0 : Nat) (x1 : Int32) (x2 : Int32) (x3 : Int32) (x4 : Int32) (x5 : Int32) (x6 : Int32) (z : gS), k12 a0 x1 x2 x3 x4 x5 x6 z → V E (gR 4 0) gyX12_does 0 0 12 [(0, .ref a0), (1, .int x1), (2, .int x2), (3, .int x3), (4, .int x4), (5, .int x5), (6, .int x6)] [] n sh z (kI n sh P)) (hf : wX12_does_B12 n sh k12 P a0 x1 x2 x3 x4 x5 x6 z) : V E (gR 4 0) gyX12_does 0 0 12 [(0, .ref a0), (1, .int x1), (2, .int x2), (3, .int x3), (4, .int x4), (5, .int x5), (6, .int x6)] [] n sh z (kI n sh P) := by
  unfold wX12_does_B12 at hf
  refine V_iload (j := 6) dX12_does_12 rfl ?_
  refine V_aload_n (j := 0) dX12_does_14 rfl rfl ?_
  obtain ⟨h6, hf⟩ := hf
  refine V_cVI (ctX12_panes hn hf) gc_X12_278 rfl h6.1 ⟨_, h6.2, by decide, rfl⟩ ⟨by decide, by decide, Nat.zero_le _, Nat.zero_le _⟩ (Nat.le_of_ble_eq_true rfl) dX12_does_15 rfl hn (fun r4 z5 hf => ?_)
  refine V_icmp_ge (tgt := 123) dX12_does_18 (by decide) (fun h30 => ?_) (fun h30 => ?_)
  · have hf := it_t h30 hf
    refine V_iload (j := 5) dX12_does_123 rfl ?_
    exact V_ireturn dX12_does_125 rfl rfl (Nat.le_refl 0) (kI_of hf)
  · have hf := it_f h30 hf
    refine V_iload (j := 5) dX12_does_21 rfl ?_
    refine V_iload (j := 6) dX12_does_23 rfl ?_
    refine V_ishr dX12_does_25 ?_
    refine V_iconst (v := (1 : Int32)) dX12_does_26 (by decide) ?_
    refine V_iand dX12_does_27 ?_
    refine V_iconst (v := (1 : Int32)) dX12_does_28 (by decide) ?_
    refine V_icmp_ne (tgt := 117) dX12_does_29 (by decide) (fun h29 => ?_) (fun h29 => ?_)
    · have hf := it_f h29 hf
      exact vX12_does_J117 hn hk12 hf
    · have hf := it_t (Classical.not_not.mp h29) hf
      refine V_aload_n (j := 0) dX12_does_32 rfl rfl ?_
      obtain ⟨t8, et8, hf⟩ := hf
      refine V_getR fl_X12_119 rfl h6.1 h6.2 et8 dX12_does_33 ?_
      refine V_iload_n (j := 1) dX12_does_36 rfl rfl ?_
      refine V_bipush (v := (18 : Int32)) dX12_does_37 (by decide) ?_
      refine V_iadd dX12_does_39 ?_
      refine V_iload (j := 6) dX12_does_40 rfl ?_
      refine V_iadd dX12_does_42 ?_
      obtain ⟨h9, hf⟩ := hf
      obtain ⟨h10, hf⟩ := hf
      refine V_iald h9.1 h9.s h10 dX12_does_43 ?_
      refine V_aload_n (j := 0) dX12_does_44 rfl rfl ?_
      refine V_iload (j := 6) dX12_does_45 rfl ?_
      refine V_iconst (v := (1 : Int32)) dX12_does_47 (by decide) ?_
      refine V_cVI (ctX12_paneOf hn hf) gc_X12_284 rfl h6.1 ⟨_, h6.2, by decide, rfl⟩ ⟨by decide, by decide, Nat.zero_le _, Nat.zero_le _⟩ (Nat.le_of_ble_eq_true rfl) dX12_does_48 rfl hn (fun r11 z12 hf => ?_)
      refine V_icmp_ne (tgt := 62) dX12_does_51 (by decide) (fun h28 => ?_) (fun h28 => ?_)
      · have hf := it_f h28 hf
        exact vX12_does_J62 hn hk12 hf
      · have hf := it_t (Classical.not_not.mp h28) hf
        refine V_aload_n (j := 0) dX12_does_54 rfl rfl ?_
        refine V_iload_n (j := 1) dX12_does_55 rfl rfl ?_
        refine V_iload (j := 6) dX12_does_56 rfl ?_
        refine V_iconst (v := (0 : Int32)) dX12_does_58 (by decide) ?_
        refine V_cVN (ctX12_forgets hn hf) gc_X12_306 rfl h6.1 ⟨_, h6.2, by decide, rfl⟩ ⟨by decide, by decide, Nat.zero_le _, Nat.zero_le _⟩ (Nat.le_of_ble_eq_true rfl) dX12_does_59 rfl hn (fun z27 hf => ?_)
        exact vX12_does_J62 hn hk12 hf
set_option maxRecDepth 100000 in
set_option maxHeartbeats 4000000 in
theorem vX12_does_L12 {E : gE} {n : Nat} {sh : Nat → Nat × Nat} {P : Int32 → gS → Prop} (hn : gOK E n) : ∀ (N : Nat) (a0 : Nat) (x1 : Int32) (x2 : Int32) (x3 : Int32) (x4 : Int32) (x5 : Int32) (x6 : Int32) (z : gS), wX12_does_L12 n sh P N a0 x1 x2 x3 x4 x5 x6 z → V E (gR 4 0) gyX12_does 0 0 12 [(0, .ref a0), (1, .int x1), (2, .int x2), (3, .int x3), (4, .int x4), (5, .int x5), (6, .int x6)] [] n sh z (kI n sh P) := by
  intro N
  induction N with
  | zero => intro a0 x1 x2 x3 x4 x5 x6 z hf; exact False.elim hf
  | succ N ih => intro a0 x1 x2 x3 x4 x5 x6 z hf; exact vX12_does_B12 hn ih hf
def wX12_does (n : Nat) (sh : Nat → Nat × Nat) (a0 : Nat) (x1 : Int32) (x2 : Int32) (x3 : Int32) (x4 : Int32) (z : gS) (P : Int32 → gS → Prop) : Prop := (oO n sh a0 8) ∧ (wX12_seersOf n sh a0 x1 x4 z (fun (r1 : Int32) (z2 : gS) => (∃ N, wX12_does_L12 n sh P N a0 x1 x2 x3 x4 r1 (0 : Int32) z2)))
set_option maxRecDepth 100000 in
set_option maxHeartbeats 4000000 in
theorem ctX12_does {E : gE} {n : Nat} {sh : Nat → Nat × Nat} {a0 : Nat} {x1 : Int32} {x2 : Int32} {x3 : Int32} {x4 : Int32} {z : gS} {P : Int32 → gS → Prop} (hn : gOK E n) (hf : wX12_does n sh a0 x1 x2 x3 x4 z P) : VM E 4 0 gyX12_does [.ref a0, .int x1, .int x2, .int x3, .int x4] n sh z (kI n sh P) := by
  unfold wX12_does at hf
  refine VM.of (by decide +kernel) (Nat.le_of_ble_eq_true rfl) (fun _ _ _ h => h.2.2) ?_
  show V E (gR 4 0) gyX12_does 0 0 0 [(0, .ref a0), (1, .int x1), (2, .int x2), (3, .int x3), (4, .int x4)] [] n sh z (kI n sh P)
  refine V_aload_n (j := 0) dX12_does_0 rfl rfl ?_
  refine V_iload_n (j := 1) dX12_does_1 rfl rfl ?_
  refine V_iload (j := 4) dX12_does_2 rfl ?_
  obtain ⟨h3, hf⟩ := hf
  refine V_cVI (ctX12_seersOf hn hf) gc_X12_303 rfl h3.1 ⟨_, h3.2, by decide, rfl⟩ ⟨by decide, by decide, Nat.zero_le _, Nat.zero_le _⟩ (Nat.le_of_ble_eq_true rfl) dX12_does_4 rfl hn (fun r1 z2 hf => ?_)
  refine V_istore (ls2 := [(5, .int r1), (0, .ref a0), (1, .int x1), (2, .int x2), (3, .int x3), (4, .int x4)]) dX12_does_7 (by decide) rfl ?_
  refine V_iconst (v := (0 : Int32)) dX12_does_9 (by decide) ?_
  refine V_istore (ls2 := [(6, .int (0 : Int32)), (5, .int r1), (0, .ref a0), (1, .int x1), (2, .int x2), (3, .int x3), (4, .int x4)]) dX12_does_10 (by decide) rfl ?_
  obtain ⟨N, hf⟩ := hf
  refine V_to [2, 3, 4, 5, 6, 1, 0] rfl ?_
  exact vX12_does_L12 hn N _ _ _ _ _ _ _ _ hf
def wX12_isFaded (n : Nat) (sh : Nat → Nat × Nat) (a0 : Nat) (x1 : Int32) (x2 : Int32) (x3 : Int32) (z : gS) (P : Int32 → gS → Prop) : Prop := (oO n sh a0 8) ∧ (wX12_markOf n sh a0 x1 x2 x3 z (fun (r1 : Int32) (z2 : gS) => ∃ t4 : Nat, gr z2 a0 10 = some t4 ∧ ((oA n sh t4 1) ∧ ((vp_in (4 : Int32) (sh t4).2) ∧ (if 0 ≤ (gi z2 t4 (4 : Int32).toNatClampNeg) then (∃ t7 : Nat, gr z2 a0 22 = some t7 ∧ (wX12_ageOf n sh r1 z2 (fun (r8 : Int32) (z9 : gS) => (oA n sh t7 1) ∧ ((vp_in (0 : Int32) (sh t7).2) ∧ (∀ z12 : gS, z12 = si z9 t7 (0 : Int32).toNatClampNeg r8 → (∃ t13 : Nat, gr z12 a0 22 = some t13 ∧ (∃ t14 : Nat, gr z12 a0 10 = some t14 ∧ (wX12_deedOf n sh r1 z12 (fun (r15 : Int32) (z16 : gS) => (oA n sh t14 1) ∧ ((vp_in ((28 : Int32) + r15) (sh t14).2) ∧ ((oA n sh t13 1) ∧ ((vp_in (1 : Int32) (sh t13).2) ∧ (∀ z21 : gS, z21 = si z16 t13 (1 : Int32).toNatClampNeg (gi z16 t14 ((28 : Int32) + r15).toNatClampNeg) → (∃ t22 : Nat, gr z21 a0 22 = some t22 ∧ (∃ t23 : Nat, gr z21 a0 24 = some t23 ∧ ((oA n sh t23 1) ∧ ((vp_in (x1 + (0 : Int32)) (sh t23).2) ∧ (wX12_lightOf n sh a0 (gi z21 t23 (x1 + (0 : Int32)).toNatClampNeg) z21 (fun (r26 : Int32) (z27 : gS) => (oA n sh t22 1) ∧ ((vp_in (2 : Int32) (sh t22).2) ∧ (∀ z30 : gS, z30 = si z27 t22 (2 : Int32).toNatClampNeg r26 → (∃ t31 : Nat, gr z30 a0 22 = some t31 ∧ (∃ t32 : Nat, gr z30 a0 24 = some t32 ∧ ((oA n sh t32 1) ∧ ((vp_in ((x1 + (18 : Int32)) + x2) (sh t32).2) ∧ ((oA n sh t31 1) ∧ ((vp_in (3 : Int32) (sh t31).2) ∧ (∀ z37 : gS, z37 = si z30 t31 (3 : Int32).toNatClampNeg (((gi z30 t32 ((x1 + (18 : Int32)) + x2).toNatClampNeg) - (1 : Int32)) - x3) → (∃ t38 : Nat, gr z37 a0 10 = some t38 ∧ ((oA n sh t38 1) ∧ ((vp_in (4 : Int32) (sh t38).2) ∧ (wX12_worthAt n sh a0 (gi z37 t38 (4 : Int32).toNatClampNeg) z37 (fun (r41 : Int32) (z42 : gS) => if r41 = 0 then P (0 : Int32) z42 else P (1 : Int32) z42))))))))))))))))))))))))))))))))) else (wX12_ageOf n sh r1 z2 (fun (r44 : Int32) (z45 : gS) => if r44 ≤ (8 : Int32) then P (0 : Int32) z45 else P (1 : Int32) z45)))))))
set_option maxRecDepth 100000 in
set_option maxHeartbeats 4000000 in
theorem ctX12_isFaded {E : gE} {n : Nat} {sh : Nat → Nat × Nat} {a0 : Nat} {x1 : Int32} {x2 : Int32} {x3 : Int32} {z : gS} {P : Int32 → gS → Prop} (hn : gOK E n) (hf : wX12_isFaded n sh a0 x1 x2 x3 z P) : VM E 2 0 gyX12_isFaded [.ref a0, .int x1, .int x2, .int x3] n sh z (kI n sh P) := by
  unfold wX12_isFaded at hf
  refine VM.of (by decide +kernel) (Nat.le_of_ble_eq_true rfl) (fun _ _ _ h => h.2.2) ?_
  show V E (gR 2 0) gyX12_isFaded 0 0 0 [(0, .ref a0), (1, .int x1), (2, .int x2), (3, .int x3)] [] n sh z (kI n sh P)
  refine V_aload_n (j := 0) dX12_isFaded_0 rfl rfl ?_
  refine V_iload_n (j := 1) dX12_isFaded_1 rfl rfl ?_
  refine V_iload_n (j := 2) dX12_isFaded_2 rfl rfl ?_
  refine V_iload_n (j := 3) dX12_isFaded_3 rfl rfl ?_
  obtain ⟨h3, hf⟩ := hf
  refine V_cVI (ctX12_markOf hn hf) gc_X12_300 rfl h3.1 ⟨_, h3.2, by decide, rfl⟩ ⟨by decide, by decide, Nat.zero_le _, Nat.zero_le _⟩ (Nat.le_of_ble_eq_true rfl) dX12_isFaded_4 rfl hn (fun r1 z2 hf => ?_)
  refine V_istore (ls2 := [(4, .int r1), (0, .ref a0), (1, .int x1), (2, .int x2), (3, .int x3)]) dX12_isFaded_7 (by decide) rfl ?_
  refine V_aload_n (j := 1) dX12_isFaded_9 rfl rfl ?_
  obtain ⟨t4, et4, hf⟩ := hf
  refine V_getR fl_X12_89 rfl h3.1 h3.2 et4 dX12_isFaded_10 ?_
  refine V_iconst (v := (4 : Int32)) dX12_isFaded_13 (by decide) ?_
  obtain ⟨h5, hf⟩ := hf
  obtain ⟨h6, hf⟩ := hf
  refine V_iald h5.1 h5.s h6 dX12_isFaded_14 ?_
  refine V_if_ge (tgt := 34) dX12_isFaded_15 (by decide) (fun h47 => ?_) (fun h47 => ?_)
  · have hf := it_t h47 hf
    refine V_aload_n (j := 1) dX12_isFaded_34 rfl rfl ?_
    obtain ⟨t7, et7, hf⟩ := hf
    refine V_getR fl_X12_113 rfl h3.1 h3.2 et7 dX12_isFaded_35 ?_
    refine V_iconst (v := (0 : Int32)) dX12_isFaded_38 (by decide) ?_
    refine V_iload (j := 0) dX12_isFaded_39 rfl ?_
    refine V_cSI (ctX12_ageOf hn hf) gc_X12_309 rfl ⟨by decide, by decide, Nat.zero_le _, Nat.zero_le _⟩ (Nat.le_of_ble_eq_true rfl) dX12_isFaded_41 rfl hn (fun r8 z9 hf => ?_)
    obtain ⟨h10, hf⟩ := hf
    obtain ⟨h11, hf⟩ := hf
    refine V_iast h10.1 h10.s h11 dX12_isFaded_44 ?_
    refine V_nz (fun z12 ez12 => ?_)
    have hf := hf z12 ez12
    refine V_aload_n (j := 1) dX12_isFaded_45 rfl rfl ?_
    obtain ⟨t13, et13, hf⟩ := hf
    refine V_getR fl_X12_113 rfl h3.1 h3.2 et13 dX12_isFaded_46 ?_
    refine V_iconst (v := (1 : Int32)) dX12_isFaded_49 (by decide) ?_
    refine V_aload_n (j := 1) dX12_isFaded_50 rfl rfl ?_
    obtain ⟨t14, et14, hf⟩ := hf
    refine V_getR fl_X12_89 rfl h3.1 h3.2 et14 dX12_isFaded_51 ?_
    refine V_bipush (v := (28 : Int32)) dX12_isFaded_54 (by decide) ?_
    refine V_iload (j := 0) dX12_isFaded_56 rfl ?_
    refine V_cSI (ctX12_deedOf hn hf) gc_X12_312 rfl ⟨by decide, by decide, Nat.zero_le _, Nat.zero_le _⟩ (Nat.le_of_ble_eq_true rfl) dX12_isFaded_58 rfl hn (fun r15 z16 hf => ?_)
    refine V_iadd dX12_isFaded_61 ?_
    obtain ⟨h17, hf⟩ := hf
    obtain ⟨h18, hf⟩ := hf
    refine V_iald h17.1 h17.s h18 dX12_isFaded_62 ?_
    obtain ⟨h19, hf⟩ := hf
    obtain ⟨h20, hf⟩ := hf
    refine V_iast h19.1 h19.s h20 dX12_isFaded_63 ?_
    refine V_nz (fun z21 ez21 => ?_)
    have hf := hf z21 ez21
    refine V_aload_n (j := 1) dX12_isFaded_64 rfl rfl ?_
    obtain ⟨t22, et22, hf⟩ := hf
    refine V_getR fl_X12_113 rfl h3.1 h3.2 et22 dX12_isFaded_65 ?_
    refine V_iconst (v := (2 : Int32)) dX12_isFaded_68 (by decide) ?_
    refine V_aload_n (j := 1) dX12_isFaded_69 rfl rfl ?_
    refine V_aload_n (j := 1) dX12_isFaded_70 rfl rfl ?_
    obtain ⟨t23, et23, hf⟩ := hf
    refine V_getR fl_X12_119 rfl h3.1 h3.2 et23 dX12_isFaded_71 ?_
    refine V_iload_n (j := 2) dX12_isFaded_74 rfl rfl ?_
    refine V_iconst (v := (0 : Int32)) dX12_isFaded_75 (by decide) ?_
    refine V_iadd dX12_isFaded_76 ?_
    obtain ⟨h24, hf⟩ := hf
    obtain ⟨h25, hf⟩ := hf
    refine V_iald h24.1 h24.s h25 dX12_isFaded_77 ?_
    refine V_cVI (ctX12_lightOf hn hf) gc_X12_291 rfl h3.1 ⟨_, h3.2, by decide, rfl⟩ ⟨by decide, by decide, Nat.zero_le _, Nat.zero_le _⟩ (Nat.le_of_ble_eq_true rfl) dX12_isFaded_78 rfl hn (fun r26 z27 hf => ?_)
    obtain ⟨h28, hf⟩ := hf
    obtain ⟨h29, hf⟩ := hf
    refine V_iast h28.1 h28.s h29 dX12_isFaded_81 ?_
    refine V_nz (fun z30 ez30 => ?_)
    have hf := hf z30 ez30
    refine V_aload_n (j := 1) dX12_isFaded_82 rfl rfl ?_
    obtain ⟨t31, et31, hf⟩ := hf
    refine V_getR fl_X12_113 rfl h3.1 h3.2 et31 dX12_isFaded_83 ?_
    refine V_iconst (v := (3 : Int32)) dX12_isFaded_86 (by decide) ?_
    refine V_aload_n (j := 1) dX12_isFaded_87 rfl rfl ?_
    obtain ⟨t32, et32, hf⟩ := hf
    refine V_getR fl_X12_119 rfl h3.1 h3.2 et32 dX12_isFaded_88 ?_
    refine V_iload_n (j := 2) dX12_isFaded_91 rfl rfl ?_
    refine V_bipush (v := (18 : Int32)) dX12_isFaded_92 (by decide) ?_
    refine V_iadd dX12_isFaded_94 ?_
    refine V_iload_n (j := 3) dX12_isFaded_95 rfl rfl ?_
    refine V_iadd dX12_isFaded_96 ?_
    obtain ⟨h33, hf⟩ := hf
    obtain ⟨h34, hf⟩ := hf
    refine V_iald h33.1 h33.s h34 dX12_isFaded_97 ?_
    refine V_iconst (v := (1 : Int32)) dX12_isFaded_98 (by decide) ?_
    refine V_isub dX12_isFaded_99 ?_
    refine V_iload_n (j := 4) dX12_isFaded_100 rfl rfl ?_
    refine V_isub dX12_isFaded_101 ?_
    obtain ⟨h35, hf⟩ := hf
    obtain ⟨h36, hf⟩ := hf
    refine V_iast h35.1 h35.s h36 dX12_isFaded_102 ?_
    refine V_nz (fun z37 ez37 => ?_)
    have hf := hf z37 ez37
    refine V_aload_n (j := 1) dX12_isFaded_103 rfl rfl ?_
    refine V_aload_n (j := 1) dX12_isFaded_104 rfl rfl ?_
    obtain ⟨t38, et38, hf⟩ := hf
    refine V_getR fl_X12_89 rfl h3.1 h3.2 et38 dX12_isFaded_105 ?_
    refine V_iconst (v := (4 : Int32)) dX12_isFaded_108 (by decide) ?_
    obtain ⟨h39, hf⟩ := hf
    obtain ⟨h40, hf⟩ := hf
    refine V_iald h39.1 h39.s h40 dX12_isFaded_109 ?_
    refine V_cVI (ctX12_worthAt hn hf) gc_X12_315 rfl h3.1 ⟨_, h3.2, by decide, rfl⟩ ⟨by decide, by decide, Nat.zero_le _, Nat.zero_le _⟩ (Nat.le_of_ble_eq_true rfl) dX12_isFaded_110 rfl hn (fun r41 z42 hf => ?_)
    refine V_if_eq (tgt := 120) dX12_isFaded_113 (by decide) (fun h43 => ?_) (fun h43 => ?_)
    · have hf := it_t h43 hf
      refine V_iconst (v := (0 : Int32)) dX12_isFaded_120 (by decide) ?_
      exact V_ireturn dX12_isFaded_121 rfl (by decide) (Nat.le_refl 0) (kI_of hf)
    · have hf := it_f h43 hf
      refine V_iconst (v := (1 : Int32)) dX12_isFaded_116 (by decide) ?_
      refine V_goto (tgt := 121) dX12_isFaded_117 (by decide) ?_
      exact V_ireturn dX12_isFaded_121 rfl (by decide) (Nat.le_refl 0) (kI_of hf)
  · have hf := it_f h47 hf
    refine V_iload (j := 0) dX12_isFaded_18 rfl ?_
    refine V_cSI (ctX12_ageOf hn hf) gc_X12_309 rfl ⟨by decide, by decide, Nat.zero_le _, Nat.zero_le _⟩ (Nat.le_of_ble_eq_true rfl) dX12_isFaded_20 rfl hn (fun r44 z45 hf => ?_)
    refine V_bipush (v := (8 : Int32)) dX12_isFaded_23 (by decide) ?_
    refine V_icmp_le (tgt := 32) dX12_isFaded_25 (by decide) (fun h46 => ?_) (fun h46 => ?_)
    · have hf := it_t h46 hf
      refine V_iconst (v := (0 : Int32)) dX12_isFaded_32 (by decide) ?_
      exact V_ireturn dX12_isFaded_33 rfl (by decide) (Nat.le_refl 0) (kI_of hf)
    · have hf := it_f h46 hf
      refine V_iconst (v := (1 : Int32)) dX12_isFaded_28 (by decide) ?_
      refine V_goto (tgt := 33) dX12_isFaded_29 (by decide) ?_
      exact V_ireturn dX12_isFaded_33 rfl (by decide) (Nat.le_refl 0) (kI_of hf)
def wX12_passes_J144 (n : Nat) (sh : Nat → Nat × Nat) (k77 : Nat → Int32 → Int32 → Int32 → gS → Prop) (P : Int32 → gS → Prop) (a0 : Nat) (x1 : Int32) (x2 : Int32) (x3 : Int32) (z : gS) : Prop := ∀ v15 : Int32, v15 = x3 + (1 : Int32) → k77 a0 x1 x2 v15 z
set_option maxRecDepth 100000 in
set_option maxHeartbeats 4000000 in
theorem vX12_passes_J144 {E : gE} {n : Nat} {sh : Nat → Nat × Nat} {P : Int32 → gS → Prop} {k77 : Nat → Int32 → Int32 → Int32 → gS → Prop} {a0 : Nat} {x1 : Int32} {x2 : Int32} {x3 : Int32} {z : gS} (hn : gOK E n) (hk77 : ∀ (a0 : Nat) (x1 : Int32) (x2 : Int32) (x3 : Int32) (z : gS), k77 a0 x1 x2 x3 z → V E (gR 3 0) gyX12_passes 0 0 77 [(0, .ref a0), (1, .int x1), (2, .int x2), (3, .int x3)] [] n sh z (kI n sh P)) (hf : wX12_passes_J144 n sh k77 P a0 x1 x2 x3 z) : V E (gR 3 0) gyX12_passes 0 0 144 [(0, .ref a0), (1, .int x1), (2, .int x2), (3, .int x3)] [] n sh z (kI n sh P) := by
  unfold wX12_passes_J144 at hf
  obtain ⟨v15, ev15⟩ : ∃ y : Int32, y = x3 + (1 : Int32) := ⟨_, rfl⟩
  refine V_iinc (j := 3) (v := v15) (ls2 := [(3, .int v15), (0, .ref a0), (1, .int x1), (2, .int x2)]) dX12_passes_144 rfl (by rw [ev15]; rfl) (by decide) rfl ?_
  have hf := hf v15 ev15
  refine V_goto (tgt := 77) dX12_passes_147 (by decide) ?_
  refine V_to [1, 2, 3, 0] rfl ?_
  exact hk77 _ _ _ _ _ hf
def wX12_passes_B88 (n : Nat) (sh : Nat → Nat × Nat) (k77 : Nat → Int32 → Int32 → Int32 → gS → Prop) (k88 : Nat → Int32 → Int32 → Int32 → Int32 → gS → Prop) (P : Int32 → gS → Prop) (a0 : Nat) (x1 : Int32) (x2 : Int32) (x3 : Int32) (x4 : Int32) (z : gS) : Prop := (oO n sh a0 8) ∧ (wX12_isWhole n sh a0 x1 x3 z (fun (r12 : Int32) (z13 : gS) => if r12 = 0 then wX12_passes_J144 n sh k77 P a0 x1 x2 x3 z13 else (∃ t16 : Nat, gr z13 a0 24 = some t16 ∧ ((oA n sh t16 1) ∧ ((vp_in ((x1 + (18 : Int32)) + x3) (sh t16).2) ∧ (if (gi z13 t16 ((x1 + (18 : Int32)) + x3).toNatClampNeg) ≤ x4 then wX12_passes_J144 n sh k77 P a0 x1 x2 x3 z13 else (wX12_isFaded n sh a0 x1 x3 x4 z13 (fun (r19 : Int32) (z20 : gS) => if r19 = 0 then (∀ v21 : Int32, v21 = x4 + (1 : Int32) → k88 a0 x1 x2 x3 v21 z20) else (wX12_forgets n sh a0 x1 x3 x4 z20 (fun (z23 : gS) => ∀ v24 : Int32, v24 = x2 + (1 : Int32) → k88 a0 x1 v24 x3 x4 z23))))))))))
def wX12_passes_L88 (n : Nat) (sh : Nat → Nat × Nat) (k77 : Nat → Int32 → Int32 → Int32 → gS → Prop) (P : Int32 → gS → Prop) : Nat → Nat → Int32 → Int32 → Int32 → Int32 → gS → Prop
  | 0, _, _, _, _, _, _ => False
  | N + 1, a0, x1, x2, x3, x4, z => wX12_passes_B88 n sh k77 (wX12_passes_L88 n sh k77 P N) P a0 x1 x2 x3 x4 z
set_option maxRecDepth 100000 in
set_option maxHeartbeats 4000000 in
theorem vX12_passes_B88 {E : gE} {n : Nat} {sh : Nat → Nat × Nat} {P : Int32 → gS → Prop} {k77 : Nat → Int32 → Int32 → Int32 → gS → Prop} {k88 : Nat → Int32 → Int32 → Int32 → Int32 → gS → Prop} {a0 : Nat} {x1 : Int32} {x2 : Int32} {x3 : Int32} {x4 : Int32} {z : gS} (hn : gOK E n) (hk77 : ∀ (a0 : Nat) (x1 : Int32) (x2 : Int32) (x3 : Int32) (z : gS), k77 a0 x1 x2 x3 z → V E (gR 3 0) gyX12_passes 0 0 77 [(0, .ref a0), (1, .int x1), (2, .int x2), (3, .int x3)] [] n sh z (kI n sh P)) (hk88 : ∀ (a0 : Nat) (x1 : Int32) (x2 : Int32) (x3 : Int32) (x4 : Int32) (z : gS), k88 a0 x1 x2 x3 x4 z → V E (gR 3 0) gyX12_passes 0 0 88 [(0, .ref a0), (1, .int x1), (2, .int x2), (3, .int x3), (4, .int x4)] [] n sh z (kI n sh P)) (hf : wX12_passes_B88 n sh k77 k88 P a0 x1 x2 x3 x4 z) : V E (gR 3 0) gyX12_passes 0 0 88 [(0, .ref a0), (1, .int x1), (2, .int x2), (3, .int x3), (4, .int x4)] [] n sh z (kI n sh P) := by
  unfold wX12_passes_B88 at hf
  refine V_aload_n (j := 0) dX12_passes_88 rfl rfl ?_
  refine V_iload_n (j := 1) dX12_passes_89 rfl rfl ?_
  refine V_iload_n (j := 3) dX12_passes_90 rfl rfl ?_
  obtain ⟨h14, hf⟩ := hf
  refine V_cVI (ctX12_isWhole hn hf) gc_X12_287 rfl h14.1 ⟨_, h14.2, by decide, rfl⟩ ⟨by decide, by decide, Nat.zero_le _, Nat.zero_le _⟩ (Nat.le_of_ble_eq_true rfl) dX12_passes_91 rfl hn (fun r12 z13 hf => ?_)
  refine V_if_eq (tgt := 144) dX12_passes_94 (by decide) (fun h27 => ?_) (fun h27 => ?_)
  · have hf := it_t h27 hf
    refine V_to [0, 1, 2, 3] rfl ?_
    exact vX12_passes_J144 hn hk77 hf
  · have hf := it_f h27 hf
    refine V_iload (j := 4) dX12_passes_97 rfl ?_
    refine V_aload_n (j := 0) dX12_passes_99 rfl rfl ?_
    obtain ⟨t16, et16, hf⟩ := hf
    refine V_getR fl_X12_119 rfl h14.1 h14.2 et16 dX12_passes_100 ?_
    refine V_iload_n (j := 1) dX12_passes_103 rfl rfl ?_
    refine V_bipush (v := (18 : Int32)) dX12_passes_104 (by decide) ?_
    refine V_iadd dX12_passes_106 ?_
    refine V_iload_n (j := 3) dX12_passes_107 rfl rfl ?_
    refine V_iadd dX12_passes_108 ?_
    obtain ⟨h17, hf⟩ := hf
    obtain ⟨h18, hf⟩ := hf
    refine V_iald h17.1 h17.s h18 dX12_passes_109 ?_
    refine V_icmp_ge (tgt := 144) dX12_passes_110 (by decide) (fun h26 => ?_) (fun h26 => ?_)
    · have hf := it_t h26 hf
      refine V_to [0, 1, 2, 3] rfl ?_
      exact vX12_passes_J144 hn hk77 hf
    · have hf := it_f h26 hf
      refine V_aload_n (j := 0) dX12_passes_113 rfl rfl ?_
      refine V_iload_n (j := 1) dX12_passes_114 rfl rfl ?_
      refine V_iload_n (j := 3) dX12_passes_115 rfl rfl ?_
      refine V_iload (j := 4) dX12_passes_116 rfl ?_
      refine V_cVI (ctX12_isFaded hn hf) gc_X12_318 rfl h14.1 ⟨_, h14.2, by decide, rfl⟩ ⟨by decide, by decide, Nat.zero_le _, Nat.zero_le _⟩ (Nat.le_of_ble_eq_true rfl) dX12_passes_118 rfl hn (fun r19 z20 hf => ?_)
      refine V_if_eq (tgt := 138) dX12_passes_121 (by decide) (fun h25 => ?_) (fun h25 => ?_)
      · have hf := it_t h25 hf
        obtain ⟨v21, ev21⟩ : ∃ y : Int32, y = x4 + (1 : Int32) := ⟨_, rfl⟩
        refine V_iinc (j := 4) (v := v21) (ls2 := [(4, .int v21), (0, .ref a0), (1, .int x1), (2, .int x2), (3, .int x3)]) dX12_passes_138 rfl (by rw [ev21]; rfl) (by decide) rfl ?_
        have hf := hf v21 ev21
        refine V_goto (tgt := 88) dX12_passes_141 (by decide) ?_
        refine V_to [1, 2, 3, 4, 0] rfl ?_
        exact hk88 _ _ _ _ _ _ hf
      · have hf := it_f h25 hf
        refine V_aload_n (j := 0) dX12_passes_124 rfl rfl ?_
        refine V_iload_n (j := 1) dX12_passes_125 rfl rfl ?_
        refine V_iload_n (j := 3) dX12_passes_126 rfl rfl ?_
        refine V_iload (j := 4) dX12_passes_127 rfl ?_
        refine V_cVN (ctX12_forgets hn hf) gc_X12_306 rfl h14.1 ⟨_, h14.2, by decide, rfl⟩ ⟨by decide, by decide, Nat.zero_le _, Nat.zero_le _⟩ (Nat.le_of_ble_eq_true rfl) dX12_passes_129 rfl hn (fun z23 hf => ?_)
        obtain ⟨v24, ev24⟩ : ∃ y : Int32, y = x2 + (1 : Int32) := ⟨_, rfl⟩
        refine V_iinc (j := 2) (v := v24) (ls2 := [(2, .int v24), (0, .ref a0), (1, .int x1), (3, .int x3), (4, .int x4)]) dX12_passes_132 rfl (by rw [ev24]; rfl) (by decide) rfl ?_
        have hf := hf v24 ev24
        refine V_goto (tgt := 88) dX12_passes_135 (by decide) ?_
        refine V_to [1, 2, 0, 3, 4] rfl ?_
        exact hk88 _ _ _ _ _ _ hf
set_option maxRecDepth 100000 in
set_option maxHeartbeats 4000000 in
theorem vX12_passes_L88 {E : gE} {n : Nat} {sh : Nat → Nat × Nat} {P : Int32 → gS → Prop} {k77 : Nat → Int32 → Int32 → Int32 → gS → Prop} (hn : gOK E n) (hk77 : ∀ (a0 : Nat) (x1 : Int32) (x2 : Int32) (x3 : Int32) (z : gS), k77 a0 x1 x2 x3 z → V E (gR 3 0) gyX12_passes 0 0 77 [(0, .ref a0), (1, .int x1), (2, .int x2), (3, .int x3)] [] n sh z (kI n sh P)) : ∀ (N : Nat) (a0 : Nat) (x1 : Int32) (x2 : Int32) (x3 : Int32) (x4 : Int32) (z : gS), wX12_passes_L88 n sh k77 P N a0 x1 x2 x3 x4 z → V E (gR 3 0) gyX12_passes 0 0 88 [(0, .ref a0), (1, .int x1), (2, .int x2), (3, .int x3), (4, .int x4)] [] n sh z (kI n sh P) := by
  intro N
  induction N with
  | zero => intro a0 x1 x2 x3 x4 z hf; exact False.elim hf
  | succ N ih => intro a0 x1 x2 x3 x4 z hf; exact vX12_passes_B88 hn hk77 ih hf
def wX12_passes_B77 (n : Nat) (sh : Nat → Nat × Nat) (k77 : Nat → Int32 → Int32 → Int32 → gS → Prop) (P : Int32 → gS → Prop) (a0 : Nat) (x1 : Int32) (x2 : Int32) (x3 : Int32) (z : gS) : Prop := (oO n sh a0 8) ∧ (wX12_panes n sh a0 z (fun (r4 : Int32) (z5 : gS) => if r4 ≤ x3 then (∃ t7 : Nat, gr z5 a0 24 = some t7 ∧ ((oA n sh t7 1) ∧ ((vp_in (x1 + (0 : Int32)) (sh t7).2) ∧ ((vp_in (x1 + (0 : Int32)) (sh t7).2) ∧ (∀ z11 : gS, z11 = si z5 t7 (x1 + (0 : Int32)).toNatClampNeg ((gi z5 t7 (x1 + (0 : Int32)).toNatClampNeg) + (1 : Int32)) → P x2 z11))))) else ((∃ N, wX12_passes_L88 n sh k77 P N a0 x1 x2 x3 (0 : Int32) z5))))
def wX12_passes_L77 (n : Nat) (sh : Nat → Nat × Nat) (P : Int32 → gS → Prop) : Nat → Nat → Int32 → Int32 → Int32 → gS → Prop
  | 0, _, _, _, _, _ => False
  | N + 1, a0, x1, x2, x3, z => wX12_passes_B77 n sh (wX12_passes_L77 n sh P N) P a0 x1 x2 x3 z
set_option maxRecDepth 100000 in
set_option maxHeartbeats 4000000 in
theorem vX12_passes_B77 {E : gE} {n : Nat} {sh : Nat → Nat × Nat} {P : Int32 → gS → Prop} {k77 : Nat → Int32 → Int32 → Int32 → gS → Prop} {a0 : Nat} {x1 : Int32} {x2 : Int32} {x3 : Int32} {z : gS} (hn : gOK E n) (hk77 : ∀ (a0 : Nat) (x1 : Int32) (x2 : Int32) (x3 : Int32) (z : gS), k77 a0 x1 x2 x3 z → V E (gR 3 0) gyX12_passes 0 0 77 [(0, .ref a0), (1, .int x1), (2, .int x2), (3, .int x3)] [] n sh z (kI n sh P)) (hf : wX12_passes_B77 n sh k77 P a0 x1 x2 x3 z) : V E (gR 3 0) gyX12_passes 0 0 77 [(0, .ref a0), (1, .int x1), (2, .int x2), (3, .int x3)] [] n sh z (kI n sh P) := by
  unfold wX12_passes_B77 at hf
  refine V_iload_n (j := 3) dX12_passes_77 rfl rfl ?_
  refine V_aload_n (j := 0) dX12_passes_78 rfl rfl ?_
  obtain ⟨h6, hf⟩ := hf
  refine V_cVI (ctX12_panes hn hf) gc_X12_278 rfl h6.1 ⟨_, h6.2, by decide, rfl⟩ ⟨by decide, by decide, Nat.zero_le _, Nat.zero_le _⟩ (Nat.le_of_ble_eq_true rfl) dX12_passes_79 rfl hn (fun r4 z5 hf => ?_)
  refine V_icmp_ge (tgt := 150) dX12_passes_82 (by decide) (fun h28 => ?_) (fun h28 => ?_)
  · have hf := it_t h28 hf
    refine V_aload_n (j := 0) dX12_passes_150 rfl rfl ?_
    obtain ⟨t7, et7, hf⟩ := hf
    refine V_getR fl_X12_119 rfl h6.1 h6.2 et7 dX12_passes_151 ?_
    refine V_iload_n (j := 1) dX12_passes_154 rfl rfl ?_
    refine V_iconst (v := (0 : Int32)) dX12_passes_155 (by decide) ?_
    refine V_iadd dX12_passes_156 ?_
    refine V_dup2 dX12_passes_157 rfl rfl ?_
    obtain ⟨h8, hf⟩ := hf
    obtain ⟨h9, hf⟩ := hf
    refine V_iald h8.1 h8.s h9 dX12_passes_158 ?_
    refine V_iconst (v := (1 : Int32)) dX12_passes_159 (by decide) ?_
    refine V_iadd dX12_passes_160 ?_
    obtain ⟨h10, hf⟩ := hf
    refine V_iast h8.1 h8.s h10 dX12_passes_161 ?_
    refine V_nz (fun z11 ez11 => ?_)
    have hf := hf z11 ez11
    refine V_iload_n (j := 2) dX12_passes_162 rfl rfl ?_
    exact V_ireturn dX12_passes_163 rfl rfl (Nat.le_refl 0) (kI_of hf)
  · have hf := it_f h28 hf
    refine V_iconst (v := (0 : Int32)) dX12_passes_85 (by decide) ?_
    refine V_istore (ls2 := [(4, .int (0 : Int32)), (0, .ref a0), (1, .int x1), (2, .int x2), (3, .int x3)]) dX12_passes_86 (by decide) rfl ?_
    obtain ⟨N, hf⟩ := hf
    refine V_to [1, 2, 3, 4, 0] rfl ?_
    exact vX12_passes_L88 hn hk77 N _ _ _ _ _ _ hf
set_option maxRecDepth 100000 in
set_option maxHeartbeats 4000000 in
theorem vX12_passes_L77 {E : gE} {n : Nat} {sh : Nat → Nat × Nat} {P : Int32 → gS → Prop} (hn : gOK E n) : ∀ (N : Nat) (a0 : Nat) (x1 : Int32) (x2 : Int32) (x3 : Int32) (z : gS), wX12_passes_L77 n sh P N a0 x1 x2 x3 z → V E (gR 3 0) gyX12_passes 0 0 77 [(0, .ref a0), (1, .int x1), (2, .int x2), (3, .int x3)] [] n sh z (kI n sh P) := by
  intro N
  induction N with
  | zero => intro a0 x1 x2 x3 z hf; exact False.elim hf
  | succ N ih => intro a0 x1 x2 x3 z hf; exact vX12_passes_B77 hn ih hf
def wX12_passes_J69 (n : Nat) (sh : Nat → Nat × Nat) (k4 : Nat → Int32 → Int32 → Int32 → gS → Prop) (P : Int32 → gS → Prop) (a0 : Nat) (x1 : Int32) (x2 : Int32) (x3 : Int32) (z : gS) : Prop := ∀ v33 : Int32, v33 = x3 + (1 : Int32) → k4 a0 x1 x2 v33 z
set_option maxRecDepth 100000 in
set_option maxHeartbeats 4000000 in
theorem vX12_passes_J69 {E : gE} {n : Nat} {sh : Nat → Nat × Nat} {P : Int32 → gS → Prop} {k4 : Nat → Int32 → Int32 → Int32 → gS → Prop} {a0 : Nat} {x1 : Int32} {x2 : Int32} {x3 : Int32} {z : gS} (hn : gOK E n) (hk4 : ∀ (a0 : Nat) (x1 : Int32) (x2 : Int32) (x3 : Int32) (z : gS), k4 a0 x1 x2 x3 z → V E (gR 3 0) gyX12_passes 0 0 4 [(0, .ref a0), (1, .int x1), (2, .int x2), (3, .int x3)] [] n sh z (kI n sh P)) (hf : wX12_passes_J69 n sh k4 P a0 x1 x2 x3 z) : V E (gR 3 0) gyX12_passes 0 0 69 [(0, .ref a0), (1, .int x1), (2, .int x2), (3, .int x3)] [] n sh z (kI n sh P) := by
  unfold wX12_passes_J69 at hf
  obtain ⟨v33, ev33⟩ : ∃ y : Int32, y = x3 + (1 : Int32) := ⟨_, rfl⟩
  refine V_iinc (j := 3) (v := v33) (ls2 := [(3, .int v33), (0, .ref a0), (1, .int x1), (2, .int x2)]) dX12_passes_69 rfl (by rw [ev33]; rfl) (by decide) rfl ?_
  have hf := hf v33 ev33
  refine V_goto (tgt := 4) dX12_passes_72 (by decide) ?_
  refine V_to [1, 2, 3, 0] rfl ?_
  exact hk4 _ _ _ _ _ hf
def wX12_passes_B15 (n : Nat) (sh : Nat → Nat × Nat) (k4 : Nat → Int32 → Int32 → Int32 → gS → Prop) (k15 : Nat → Int32 → Int32 → Int32 → Int32 → gS → Prop) (P : Int32 → gS → Prop) (a0 : Nat) (x1 : Int32) (x2 : Int32) (x3 : Int32) (x4 : Int32) (z : gS) : Prop := (oO n sh a0 8) ∧ (∃ t30 : Nat, gr z a0 24 = some t30 ∧ ((oA n sh t30 1) ∧ ((vp_in ((x1 + (18 : Int32)) + x3) (sh t30).2) ∧ (if (gi z t30 ((x1 + (18 : Int32)) + x3).toNatClampNeg) ≤ x4 then wX12_passes_J69 n sh k4 P a0 x1 x2 x3 z else (wX12_isWhole n sh a0 x1 x3 z (fun (r34 : Int32) (z35 : gS) => if r34 = 0 then wX12_passes_J69 n sh k4 P a0 x1 x2 x3 z35 else (∃ t36 : Nat, gr z35 a0 24 = some t36 ∧ ((oA n sh t36 1) ∧ ((vp_in (((x1 + (24 : Int32)) + ((6 : Int32) * x3)) + x4) (sh t36).2) ∧ ((vp_in (((x1 + (24 : Int32)) + ((6 : Int32) * x3)) + x4) (sh t36).2) ∧ (∀ z40 : gS, z40 = si z35 t36 (((x1 + (24 : Int32)) + ((6 : Int32) * x3)) + x4).toNatClampNeg ((gi z35 t36 (((x1 + (24 : Int32)) + ((6 : Int32) * x3)) + x4).toNatClampNeg) + (1024 : Int32)) → (∀ v41 : Int32, v41 = x4 + (1 : Int32) → k15 a0 x1 x2 x3 v41 z40))))))))))))
def wX12_passes_L15 (n : Nat) (sh : Nat → Nat × Nat) (k4 : Nat → Int32 → Int32 → Int32 → gS → Prop) (P : Int32 → gS → Prop) : Nat → Nat → Int32 → Int32 → Int32 → Int32 → gS → Prop
  | 0, _, _, _, _, _, _ => False
  | N + 1, a0, x1, x2, x3, x4, z => wX12_passes_B15 n sh k4 (wX12_passes_L15 n sh k4 P N) P a0 x1 x2 x3 x4 z
set_option maxRecDepth 100000 in
set_option maxHeartbeats 4000000 in
theorem vX12_passes_B15 {E : gE} {n : Nat} {sh : Nat → Nat × Nat} {P : Int32 → gS → Prop} {k4 : Nat → Int32 → Int32 → Int32 → gS → Prop} {k15 : Nat → Int32 → Int32 → Int32 → Int32 → gS → Prop} {a0 : Nat} {x1 : Int32} {x2 : Int32} {x3 : Int32} {x4 : Int32} {z : gS} (hn : gOK E n) (hk4 : ∀ (a0 : Nat) (x1 : Int32) (x2 : Int32) (x3 : Int32) (z : gS), k4 a0 x1 x2 x3 z → V E (gR 3 0) gyX12_passes 0 0 4 [(0, .ref a0), (1, .int x1), (2, .int x2), (3, .int x3)] [] n sh z (kI n sh P)) (hk15 : ∀ (a0 : Nat) (x1 : Int32) (x2 : Int32) (x3 : Int32) (x4 : Int32) (z : gS), k15 a0 x1 x2 x3 x4 z → V E (gR 3 0) gyX12_passes 0 0 15 [(0, .ref a0), (1, .int x1), (2, .int x2), (3, .int x3), (4, .int x4)] [] n sh z (kI n sh P)) (hf : wX12_passes_B15 n sh k4 k15 P a0 x1 x2 x3 x4 z) : V E (gR 3 0) gyX12_passes 0 0 15 [(0, .ref a0), (1, .int x1), (2, .int x2), (3, .int x3), (4, .int x4)] [] n sh z (kI n sh P) := by
  unfold wX12_passes_B15 at hf
  refine V_iload (j := 4) dX12_passes_15 rfl ?_
  refine V_aload_n (j := 0) dX12_passes_17 rfl rfl ?_
  obtain ⟨h29, hf⟩ := hf
  obtain ⟨t30, et30, hf⟩ := hf
  refine V_getR fl_X12_119 rfl h29.1 h29.2 et30 dX12_passes_18 ?_
  refine V_iload_n (j := 1) dX12_passes_21 rfl rfl ?_
  refine V_bipush (v := (18 : Int32)) dX12_passes_22 (by decide) ?_
  refine V_iadd dX12_passes_24 ?_
  refine V_iload_n (j := 3) dX12_passes_25 rfl rfl ?_
  refine V_iadd dX12_passes_26 ?_
  obtain ⟨h31, hf⟩ := hf
  obtain ⟨h32, hf⟩ := hf
  refine V_iald h31.1 h31.s h32 dX12_passes_27 ?_
  refine V_icmp_ge (tgt := 69) dX12_passes_28 (by decide) (fun h43 => ?_) (fun h43 => ?_)
  · have hf := it_t h43 hf
    refine V_to [0, 1, 2, 3] rfl ?_
    exact vX12_passes_J69 hn hk4 hf
  · have hf := it_f h43 hf
    refine V_aload_n (j := 0) dX12_passes_31 rfl rfl ?_
    refine V_iload_n (j := 1) dX12_passes_32 rfl rfl ?_
    refine V_iload_n (j := 3) dX12_passes_33 rfl rfl ?_
    refine V_cVI (ctX12_isWhole hn hf) gc_X12_287 rfl h29.1 ⟨_, h29.2, by decide, rfl⟩ ⟨by decide, by decide, Nat.zero_le _, Nat.zero_le _⟩ (Nat.le_of_ble_eq_true rfl) dX12_passes_34 rfl hn (fun r34 z35 hf => ?_)
    refine V_if_eq (tgt := 69) dX12_passes_37 (by decide) (fun h42 => ?_) (fun h42 => ?_)
    · have hf := it_t h42 hf
      refine V_to [0, 1, 2, 3] rfl ?_
      exact vX12_passes_J69 hn hk4 hf
    · have hf := it_f h42 hf
      refine V_aload_n (j := 0) dX12_passes_40 rfl rfl ?_
      obtain ⟨t36, et36, hf⟩ := hf
      refine V_getR fl_X12_119 rfl h29.1 h29.2 et36 dX12_passes_41 ?_
      refine V_iload_n (j := 1) dX12_passes_44 rfl rfl ?_
      refine V_bipush (v := (24 : Int32)) dX12_passes_45 (by decide) ?_
      refine V_iadd dX12_passes_47 ?_
      refine V_bipush (v := (6 : Int32)) dX12_passes_48 (by decide) ?_
      refine V_iload_n (j := 3) dX12_passes_50 rfl rfl ?_
      refine V_imul dX12_passes_51 ?_
      refine V_iadd dX12_passes_52 ?_
      refine V_iload (j := 4) dX12_passes_53 rfl ?_
      refine V_iadd dX12_passes_55 ?_
      refine V_dup2 dX12_passes_56 rfl rfl ?_
      obtain ⟨h37, hf⟩ := hf
      obtain ⟨h38, hf⟩ := hf
      refine V_iald h37.1 h37.s h38 dX12_passes_57 ?_
      refine V_sipush (v := (1024 : Int32)) dX12_passes_58 (by decide) ?_
      refine V_iadd dX12_passes_61 ?_
      obtain ⟨h39, hf⟩ := hf
      refine V_iast h37.1 h37.s h39 dX12_passes_62 ?_
      refine V_nz (fun z40 ez40 => ?_)
      have hf := hf z40 ez40
      obtain ⟨v41, ev41⟩ : ∃ y : Int32, y = x4 + (1 : Int32) := ⟨_, rfl⟩
      refine V_iinc (j := 4) (v := v41) (ls2 := [(4, .int v41), (0, .ref a0), (1, .int x1), (2, .int x2), (3, .int x3)]) dX12_passes_63 rfl (by rw [ev41]; rfl) (by decide) rfl ?_
      have hf := hf v41 ev41
      refine V_goto (tgt := 15) dX12_passes_66 (by decide) ?_
      refine V_to [1, 2, 3, 4, 0] rfl ?_
      exact hk15 _ _ _ _ _ _ hf
set_option maxRecDepth 100000 in
set_option maxHeartbeats 4000000 in
theorem vX12_passes_L15 {E : gE} {n : Nat} {sh : Nat → Nat × Nat} {P : Int32 → gS → Prop} {k4 : Nat → Int32 → Int32 → Int32 → gS → Prop} (hn : gOK E n) (hk4 : ∀ (a0 : Nat) (x1 : Int32) (x2 : Int32) (x3 : Int32) (z : gS), k4 a0 x1 x2 x3 z → V E (gR 3 0) gyX12_passes 0 0 4 [(0, .ref a0), (1, .int x1), (2, .int x2), (3, .int x3)] [] n sh z (kI n sh P)) : ∀ (N : Nat) (a0 : Nat) (x1 : Int32) (x2 : Int32) (x3 : Int32) (x4 : Int32) (z : gS), wX12_passes_L15 n sh k4 P N a0 x1 x2 x3 x4 z → V E (gR 3 0) gyX12_passes 0 0 15 [(0, .ref a0), (1, .int x1), (2, .int x2), (3, .int x3), (4, .int x4)] [] n sh z (kI n sh P) := by
  intro N
  induction N with
  | zero => intro a0 x1 x2 x3 x4 z hf; exact False.elim hf
  | succ N ih => intro a0 x1 x2 x3 x4 z hf; exact vX12_passes_B15 hn hk4 ih hf
def wX12_passes_B4 (n : Nat) (sh : Nat → Nat × Nat) (k4 : Nat → Int32 → Int32 → Int32 → gS → Prop) (P : Int32 → gS → Prop) (a0 : Nat) (x1 : Int32) (x2 : Int32) (x3 : Int32) (z : gS) : Prop := (oO n sh a0 8) ∧ (wX12_panes n sh a0 z (fun (r1 : Int32) (z2 : gS) => if r1 ≤ x3 then ((∃ N, wX12_passes_L77 n sh P N a0 x1 x2 (0 : Int32) z2)) else ((∃ N, wX12_passes_L15 n sh k4 P N a0 x1 x2 x3 (0 : Int32) z2))))
def wX12_passes_L4 (n : Nat) (sh : Nat → Nat × Nat) (P : Int32 → gS → Prop) : Nat → Nat → Int32 → Int32 → Int32 → gS → Prop
  | 0, _, _, _, _, _ => False
  | N + 1, a0, x1, x2, x3, z => wX12_passes_B4 n sh (wX12_passes_L4 n sh P N) P a0 x1 x2 x3 z
set_option maxRecDepth 100000 in
set_option maxHeartbeats 4000000 in
theorem vX12_passes_B4 {E : gE} {n : Nat} {sh : Nat → Nat × Nat} {P : Int32 → gS → Prop} {k4 : Nat → Int32 → Int32 → Int32 → gS → Prop} {a0 : Nat} {x1 : Int32} {x2 : Int32} {x3 : Int32} {z : gS} (hn : gOK E n) (hk4 : ∀ (a0 : Nat) (x1 : Int32) (x2 : Int32) (x3 : Int32) (z : gS), k4 a0 x1 x2 x3 z → V E (gR 3 0) gyX12_passes 0 0 4 [(0, .ref a0), (1, .int x1), (2, .int x2), (3, .int x3)] [] n sh z (kI n sh P)) (hf : wX12_passes_B4 n sh k4 P a0 x1 x2 x3 z) : V E (gR 3 0) gyX12_passes 0 0 4 [(0, .ref a0), (1, .int x1), (2, .int x2), (3, .int x3)] [] n sh z (kI n sh P) := by
  unfold wX12_passes_B4 at hf
  refine V_iload_n (j := 3) dX12_passes_4 rfl rfl ?_
  refine V_aload_n (j := 0) dX12_passes_5 rfl rfl ?_
  obtain ⟨h3, hf⟩ := hf
  refine V_cVI (ctX12_panes hn hf) gc_X12_278 rfl h3.1 ⟨_, h3.2, by decide, rfl⟩ ⟨by decide, by decide, Nat.zero_le _, Nat.zero_le _⟩ (Nat.le_of_ble_eq_true rfl) dX12_passes_6 rfl hn (fun r1 z2 hf => ?_)
  refine V_icmp_ge (tgt := 75) dX12_passes_9 (by decide) (fun h44 => ?_) (fun h44 => ?_)
  · have hf := it_t h44 hf
    refine V_iconst (v := (0 : Int32)) dX12_passes_75 (by decide) ?_
    refine V_istore_n (ls2 := [(3, .int (0 : Int32)), (0, .ref a0), (1, .int x1), (2, .int x2)]) dX12_passes_76 rfl (by decide) rfl ?_
    obtain ⟨N, hf⟩ := hf
    refine V_to [1, 2, 3, 0] rfl ?_
    exact vX12_passes_L77 hn N _ _ _ _ _ hf
  · have hf := it_f h44 hf
    refine V_iconst (v := (0 : Int32)) dX12_passes_12 (by decide) ?_
    refine V_istore (ls2 := [(4, .int (0 : Int32)), (0, .ref a0), (1, .int x1), (2, .int x2), (3, .int x3)]) dX12_passes_13 (by decide) rfl ?_
    obtain ⟨N, hf⟩ := hf
    refine V_to [1, 2, 3, 4, 0] rfl ?_
    exact vX12_passes_L15 hn hk4 N _ _ _ _ _ _ hf
set_option maxRecDepth 100000 in
set_option maxHeartbeats 4000000 in
theorem vX12_passes_L4 {E : gE} {n : Nat} {sh : Nat → Nat × Nat} {P : Int32 → gS → Prop} (hn : gOK E n) : ∀ (N : Nat) (a0 : Nat) (x1 : Int32) (x2 : Int32) (x3 : Int32) (z : gS), wX12_passes_L4 n sh P N a0 x1 x2 x3 z → V E (gR 3 0) gyX12_passes 0 0 4 [(0, .ref a0), (1, .int x1), (2, .int x2), (3, .int x3)] [] n sh z (kI n sh P) := by
  intro N
  induction N with
  | zero => intro a0 x1 x2 x3 z hf; exact False.elim hf
  | succ N ih => intro a0 x1 x2 x3 z hf; exact vX12_passes_B4 hn ih hf
def wX12_passes (n : Nat) (sh : Nat → Nat × Nat) (a0 : Nat) (x1 : Int32) (z : gS) (P : Int32 → gS → Prop) : Prop := (∃ N, wX12_passes_L4 n sh P N a0 x1 (0 : Int32) (0 : Int32) z)
set_option maxRecDepth 100000 in
set_option maxHeartbeats 4000000 in
theorem ctX12_passes {E : gE} {n : Nat} {sh : Nat → Nat × Nat} {a0 : Nat} {x1 : Int32} {z : gS} {P : Int32 → gS → Prop} (hn : gOK E n) (hf : wX12_passes n sh a0 x1 z P) : VM E 3 0 gyX12_passes [.ref a0, .int x1] n sh z (kI n sh P) := by
  unfold wX12_passes at hf
  refine VM.of (by decide +kernel) (Nat.le_of_ble_eq_true rfl) (fun _ _ _ h => h.2.2) ?_
  show V E (gR 3 0) gyX12_passes 0 0 0 [(0, .ref a0), (1, .int x1)] [] n sh z (kI n sh P)
  refine V_iconst (v := (0 : Int32)) dX12_passes_0 (by decide) ?_
  refine V_istore_n (ls2 := [(2, .int (0 : Int32)), (0, .ref a0), (1, .int x1)]) dX12_passes_1 rfl (by decide) rfl ?_
  refine V_iconst (v := (0 : Int32)) dX12_passes_2 (by decide) ?_
  refine V_istore_n (ls2 := [(3, .int (0 : Int32)), (2, .int (0 : Int32)), (0, .ref a0), (1, .int x1)]) dX12_passes_3 rfl (by decide) rfl ?_
  obtain ⟨N, hf⟩ := hf
  refine V_to [2, 3, 1, 0] rfl ?_
  exact vX12_passes_L4 hn N _ _ _ _ _ hf
def wX12_isShown_J23 (n : Nat) (sh : Nat → Nat × Nat) (P : Int32 → gS → Prop) (z : gS) : Prop := P (1 : Int32) z
set_option maxRecDepth 100000 in
set_option maxHeartbeats 4000000 in
theorem vX12_isShown_J23 {E : gE} {n : Nat} {sh : Nat → Nat × Nat} {P : Int32 → gS → Prop} {z : gS} (hn : gOK E n) (hf : wX12_isShown_J23 n sh P z) : V E (gR 1 0) gyX12_isShown 0 0 23 [] [] n sh z (kI n sh P) := by
  unfold wX12_isShown_J23 at hf
  refine V_iconst (v := (1 : Int32)) dX12_isShown_23 (by decide) ?_
  refine V_goto (tgt := 28) dX12_isShown_24 (by decide) ?_
  exact V_ireturn dX12_isShown_28 rfl (by decide) (Nat.le_refl 0) (kI_of hf)
def wX12_isShown (n : Nat) (sh : Nat → Nat × Nat) (a0 : Nat) (x1 : Int32) (x2 : Int32) (z : gS) (P : Int32 → gS → Prop) : Prop := (oO n sh a0 8) ∧ (wX12_isWhole n sh a0 x1 x2 z (fun (r1 : Int32) (z2 : gS) => if r1 = 0 then wX12_isShown_J23 n sh P  z2 else (∃ t4 : Nat, gr z2 a0 24 = some t4 ∧ ((oA n sh t4 1) ∧ ((vp_in ((x1 + (6 : Int32)) + x2) (sh t4).2) ∧ (if (gi z2 t4 ((x1 + (6 : Int32)) + x2).toNatClampNeg) = 0 then wX12_isShown_J23 n sh P  z2 else P (0 : Int32) z2))))))
set_option maxRecDepth 100000 in
set_option maxHeartbeats 4000000 in
theorem ctX12_isShown {E : gE} {n : Nat} {sh : Nat → Nat × Nat} {a0 : Nat} {x1 : Int32} {x2 : Int32} {z : gS} {P : Int32 → gS → Prop} (hn : gOK E n) (hf : wX12_isShown n sh a0 x1 x2 z P) : VM E 1 0 gyX12_isShown [.ref a0, .int x1, .int x2] n sh z (kI n sh P) := by
  unfold wX12_isShown at hf
  refine VM.of (by decide +kernel) (Nat.le_of_ble_eq_true rfl) (fun _ _ _ h => h.2.2) ?_
  show V E (gR 1 0) gyX12_isShown 0 0 0 [(0, .ref a0), (1, .int x1), (2, .int x2)] [] n sh z (kI n sh P)
  refine V_aload_n (j := 0) dX12_isShown_0 rfl rfl ?_
  refine V_iload_n (j := 1) dX12_isShown_1 rfl rfl ?_
  refine V_iload_n (j := 2) dX12_isShown_2 rfl rfl ?_
  obtain ⟨h3, hf⟩ := hf
  refine V_cVI (ctX12_isWhole hn hf) gc_X12_287 rfl h3.1 ⟨_, h3.2, by decide, rfl⟩ ⟨by decide, by decide, Nat.zero_le _, Nat.zero_le _⟩ (Nat.le_of_ble_eq_true rfl) dX12_isShown_3 rfl hn (fun r1 z2 hf => ?_)
  refine V_if_eq (tgt := 23) dX12_isShown_6 (by decide) (fun h8 => ?_) (fun h8 => ?_)
  · have hf := it_t h8 hf
    refine V_to [] rfl ?_
    exact vX12_isShown_J23 hn hf
  · have hf := it_f h8 hf
    refine V_aload_n (j := 0) dX12_isShown_9 rfl rfl ?_
    obtain ⟨t4, et4, hf⟩ := hf
    refine V_getR fl_X12_119 rfl h3.1 h3.2 et4 dX12_isShown_10 ?_
    refine V_iload_n (j := 1) dX12_isShown_13 rfl rfl ?_
    refine V_bipush (v := (6 : Int32)) dX12_isShown_14 (by decide) ?_
    refine V_iadd dX12_isShown_16 ?_
    refine V_iload_n (j := 2) dX12_isShown_17 rfl rfl ?_
    refine V_iadd dX12_isShown_18 ?_
    obtain ⟨h5, hf⟩ := hf
    obtain ⟨h6, hf⟩ := hf
    refine V_iald h5.1 h5.s h6 dX12_isShown_19 ?_
    refine V_if_ne (tgt := 27) dX12_isShown_20 (by decide) (fun h7 => ?_) (fun h7 => ?_)
    · have hf := it_f h7 hf
      refine V_iconst (v := (0 : Int32)) dX12_isShown_27 (by decide) ?_
      exact V_ireturn dX12_isShown_28 rfl (by decide) (Nat.le_refl 0) (kI_of hf)
    · have hf := it_t (Classical.not_not.mp h7) hf
      refine V_to [] rfl ?_
      exact vX12_isShown_J23 hn hf
def wX12_shownOf_J23 (n : Nat) (sh : Nat → Nat × Nat) (P : Int32 → gS → Prop) (x3 : Int32) (z : gS) : Prop := wX12_whoOf n sh x3 z (fun (r4 : Int32) (z5 : gS) => P r4 z5)
set_option maxRecDepth 100000 in
set_option maxHeartbeats 4000000 in
theorem vX12_shownOf_J23 {E : gE} {n : Nat} {sh : Nat → Nat × Nat} {P : Int32 → gS → Prop} {x3 : Int32} {z : gS} (hn : gOK E n) (hf : wX12_shownOf_J23 n sh P x3 z) : V E (gR 1 0) gyX12_shownOf 0 0 23 [(3, .int x3)] [] n sh z (kI n sh P) := by
  unfold wX12_shownOf_J23 at hf
  refine V_iload_n (j := 0) dX12_shownOf_23 rfl rfl ?_
  refine V_cSI (ctX12_whoOf hn hf) gc_X12_321 rfl ⟨by decide, by decide, Nat.zero_le _, Nat.zero_le _⟩ (Nat.le_of_ble_eq_true rfl) dX12_shownOf_24 rfl hn (fun r4 z5 hf => ?_)
  exact V_ireturn dX12_shownOf_27 rfl rfl (Nat.le_refl 0) (kI_of hf)
def wX12_shownOf (n : Nat) (sh : Nat → Nat × Nat) (a0 : Nat) (x1 : Int32) (x2 : Int32) (x3 : Int32) (z : gS) (P : Int32 → gS → Prop) : Prop := (oO n sh a0 8) ∧ (wX12_isWhole n sh a0 x1 x2 z (fun (r1 : Int32) (z2 : gS) => if r1 = 0 then wX12_shownOf_J23 n sh P x3 z2 else (wX12_paneOf n sh a0 x2 (0 : Int32) z2 (fun (r6 : Int32) (z7 : gS) => if r6 = (1 : Int32) then P (-1 : Int32) z7 else wX12_shownOf_J23 n sh P x3 z7))))
set_option maxRecDepth 100000 in
set_option maxHeartbeats 4000000 in
theorem ctX12_shownOf {E : gE} {n : Nat} {sh : Nat → Nat × Nat} {a0 : Nat} {x1 : Int32} {x2 : Int32} {x3 : Int32} {z : gS} {P : Int32 → gS → Prop} (hn : gOK E n) (hf : wX12_shownOf n sh a0 x1 x2 x3 z P) : VM E 1 0 gyX12_shownOf [.ref a0, .int x1, .int x2, .int x3] n sh z (kI n sh P) := by
  unfold wX12_shownOf at hf
  refine VM.of (by decide +kernel) (Nat.le_of_ble_eq_true rfl) (fun _ _ _ h => h.2.2) ?_
  show V E (gR 1 0) gyX12_shownOf 0 0 0 [(0, .ref a0), (1, .int x1), (2, .int x2), (3, .int x3)] [] n sh z (kI n sh P)
  refine V_aload_n (j := 0) dX12_shownOf_0 rfl rfl ?_
  refine V_iload_n (j := 1) dX12_shownOf_1 rfl rfl ?_
  refine V_iload_n (j := 2) dX12_shownOf_2 rfl rfl ?_
  obtain ⟨h3, hf⟩ := hf
  refine V_cVI (ctX12_isWhole hn hf) gc_X12_287 rfl h3.1 ⟨_, h3.2, by decide, rfl⟩ ⟨by decide, by decide, Nat.zero_le _, Nat.zero_le _⟩ (Nat.le_of_ble_eq_true rfl) dX12_shownOf_3 rfl hn (fun r1 z2 hf => ?_)
  refine V_if_eq (tgt := 23) dX12_shownOf_6 (by decide) (fun h9 => ?_) (fun h9 => ?_)
  · have hf := it_t h9 hf
    refine V_to [3] rfl ?_
    exact vX12_shownOf_J23 hn hf
  · have hf := it_f h9 hf
    refine V_aload_n (j := 0) dX12_shownOf_9 rfl rfl ?_
    refine V_iload_n (j := 2) dX12_shownOf_10 rfl rfl ?_
    refine V_iconst (v := (0 : Int32)) dX12_shownOf_11 (by decide) ?_
    refine V_cVI (ctX12_paneOf hn hf) gc_X12_284 rfl h3.1 ⟨_, h3.2, by decide, rfl⟩ ⟨by decide, by decide, Nat.zero_le _, Nat.zero_le _⟩ (Nat.le_of_ble_eq_true rfl) dX12_shownOf_12 rfl hn (fun r6 z7 hf => ?_)
    refine V_iconst (v := (1 : Int32)) dX12_shownOf_15 (by decide) ?_
    refine V_icmp_ne (tgt := 23) dX12_shownOf_16 (by decide) (fun h8 => ?_) (fun h8 => ?_)
    · have hf := it_f h8 hf
      refine V_to [3] rfl ?_
      exact vX12_shownOf_J23 hn hf
    · have hf := it_t (Classical.not_not.mp h8) hf
      refine V_iconst (v := (-1 : Int32)) dX12_shownOf_19 (by decide) ?_
      refine V_goto (tgt := 27) dX12_shownOf_20 (by decide) ?_
      exact V_ireturn dX12_shownOf_27 rfl rfl (Nat.le_refl 0) (kI_of hf)
def wX12_deedsBy_J89 (n : Nat) (sh : Nat → Nat × Nat) (k34 : Nat → Int32 → Int32 → Int32 → Int32 → Int32 → Int32 → gS → Prop) (P : Int32 → gS → Prop) (a0 : Nat) (x1 : Int32) (x2 : Int32) (x3 : Int32) (x6 : Int32) (x7 : Int32) (s0 : Int32) (s1 : Int32) (z : gS) : Prop := ∀ v13 : Int32, v13 = (s1 ||| s0) → (∀ v14 : Int32, v14 = x7 + (1 : Int32) → k34 a0 x1 x2 x3 v13 x6 v14 z)
set_option maxRecDepth 100000 in
set_option maxHeartbeats 4000000 in
theorem vX12_deedsBy_J89 {E : gE} {n : Nat} {sh : Nat → Nat × Nat} {P : Int32 → gS → Prop} {k34 : Nat → Int32 → Int32 → Int32 → Int32 → Int32 → Int32 → gS → Prop} {a0 : Nat} {x1 : Int32} {x2 : Int32} {x3 : Int32} {x6 : Int32} {x7 : Int32} {s0 : Int32} {s1 : Int32} {z : gS} (hn : gOK E n) (hk34 : ∀ (a0 : Nat) (x1 : Int32) (x2 : Int32) (x3 : Int32) (x5 : Int32) (x6 : Int32) (x7 : Int32) (z : gS), k34 a0 x1 x2 x3 x5 x6 x7 z → V E (gR 2 0) gyX12_deedsBy 0 0 34 [(0, .ref a0), (1, .int x1), (2, .int x2), (3, .int x3), (5, .int x5), (6, .int x6), (7, .int x7)] [] n sh z (kI n sh P)) (hf : wX12_deedsBy_J89 n sh k34 P a0 x1 x2 x3 x6 x7 s0 s1 z) : V E (gR 2 0) gyX12_deedsBy 0 0 89 [(0, .ref a0), (1, .int x1), (2, .int x2), (3, .int x3), (6, .int x6), (7, .int x7)] [.int s0, .int s1] n sh z (kI n sh P) := by
  unfold wX12_deedsBy_J89 at hf
  refine V_ior dX12_deedsBy_89 ?_
  refine V_nI (fun v13 ev13 => ?_)
  have hf := hf v13 ev13
  refine V_istore (ls2 := [(5, .int v13), (0, .ref a0), (1, .int x1), (2, .int x2), (3, .int x3), (6, .int x6), (7, .int x7)]) dX12_deedsBy_90 (by decide) rfl ?_
  obtain ⟨v14, ev14⟩ : ∃ y : Int32, y = x7 + (1 : Int32) := ⟨_, rfl⟩
  refine V_iinc (j := 6) (v := v14) (ls2 := [(7, .int v14), (5, .int v13), (0, .ref a0), (1, .int x1), (2, .int x2), (3, .int x3), (6, .int x6)]) dX12_deedsBy_92 rfl (by rw [ev14]; rfl) (by decide) rfl ?_
  have hf := hf v14 ev14
  refine V_goto (tgt := 34) dX12_deedsBy_95 (by decide) ?_
  refine V_to [2, 3, 4, 5, 1, 6, 0] rfl ?_
  exact hk34 _ _ _ _ _ _ _ _ hf
def wX12_deedsBy_J78 (n : Nat) (sh : Nat → Nat × Nat) (k34 : Nat → Int32 → Int32 → Int32 → Int32 → Int32 → Int32 → gS → Prop) (P : Int32 → gS → Prop) (a0 : Nat) (x1 : Int32) (x2 : Int32) (x3 : Int32) (x6 : Int32) (x7 : Int32) (x8 : Int32) (s0 : Int32) (z : gS) : Prop := wX12_deedOf n sh x8 z (fun (r11 : Int32) (z12 : gS) => wX12_deedsBy_J89 n sh k34 P a0 x1 x2 x3 x6 x7 ((1 : Int32) <<< (r11 &&& 31)) s0 z12)
set_option maxRecDepth 100000 in
set_option maxHeartbeats 4000000 in
theorem vX12_deedsBy_J78 {E : gE} {n : Nat} {sh : Nat → Nat × Nat} {P : Int32 → gS → Prop} {k34 : Nat → Int32 → Int32 → Int32 → Int32 → Int32 → Int32 → gS → Prop} {a0 : Nat} {x1 : Int32} {x2 : Int32} {x3 : Int32} {x6 : Int32} {x7 : Int32} {x8 : Int32} {s0 : Int32} {z : gS} (hn : gOK E n) (hk34 : ∀ (a0 : Nat) (x1 : Int32) (x2 : Int32) (x3 : Int32) (x5 : Int32) (x6 : Int32) (x7 : Int32) (z : gS), k34 a0 x1 x2 x3 x5 x6 x7 z → V E (gR 2 0) gyX12_deedsBy 0 0 34 [(0, .ref a0), (1, .int x1), (2, .int x2), (3, .int x3), (5, .int x5), (6, .int x6), (7, .int x7)] [] n sh z (kI n sh P)) (hf : wX12_deedsBy_J78 n sh k34 P a0 x1 x2 x3 x6 x7 x8 s0 z) : V E (gR 2 0) gyX12_deedsBy 0 0 78 [(0, .ref a0), (1, .int x1), (2, .int x2), (3, .int x3), (6, .int x6), (7, .int x7), (8, .int x8)] [.int s0] n sh z (kI n sh P) := by
  unfold wX12_deedsBy_J78 at hf
  refine V_iconst (v := (1 : Int32)) dX12_deedsBy_78 (by decide) ?_
  refine V_iload (j := 6) dX12_deedsBy_79 rfl ?_
  refine V_cSI (ctX12_deedOf hn hf) gc_X12_312 rfl ⟨by decide, by decide, Nat.zero_le _, Nat.zero_le _⟩ (Nat.le_of_ble_eq_true rfl) dX12_deedsBy_81 rfl hn (fun r11 z12 hf => ?_)
  refine V_ishl dX12_deedsBy_84 ?_
  refine V_goto (tgt := 89) dX12_deedsBy_85 (by decide) ?_
  refine V_to [0, 1, 2, 3, 4, 5] rfl ?_
  exact vX12_deedsBy_J89 hn hk34 hf
def wX12_deedsBy_B34 (n : Nat) (sh : Nat → Nat × Nat) (k34 : Nat → Int32 → Int32 → Int32 → Int32 → Int32 → Int32 → gS → Prop) (P : Int32 → gS → Prop) (a0 : Nat) (x1 : Int32) (x2 : Int32) (x3 : Int32) (x5 : Int32) (x6 : Int32) (x7 : Int32) (z : gS) : Prop := if x6 ≤ x7 then P x5 z else ((oO n sh a0 8) ∧ (wX12_isShown n sh a0 x1 x2 z (fun (r6 : Int32) (z7 : gS) => if r6 = 0 then P x5 z7 else (wX12_markOf n sh a0 x1 x2 x7 z7 (fun (r9 : Int32) (z10 : gS) => if x3 < 0 then wX12_deedsBy_J78 n sh k34 P a0 x1 x2 x3 x6 x7 r9 x5 z10 else (wX12_shownOf n sh a0 x1 x2 r9 z10 (fun (r15 : Int32) (z16 : gS) => if r15 = x3 then wX12_deedsBy_J78 n sh k34 P a0 x1 x2 x3 x6 x7 r9 x5 z16 else wX12_deedsBy_J89 n sh k34 P a0 x1 x2 x3 x6 x7 (0 : Int32) x5 z16)))))))
def wX12_deedsBy_L34 (n : Nat) (sh : Nat → Nat × Nat) (P : Int32 → gS → Prop) : Nat → Nat → Int32 → Int32 → Int32 → Int32 → Int32 → Int32 → gS → Prop
  | 0, _, _, _, _, _, _, _, _ => False
  | N + 1, a0, x1, x2, x3, x5, x6, x7, z => wX12_deedsBy_B34 n sh (wX12_deedsBy_L34 n sh P N) P a0 x1 x2 x3 x5 x6 x7 z
set_option maxRecDepth 100000 in
set_option maxHeartbeats 4000000 in
theorem vX12_deedsBy_B34 {E : gE} {n : Nat} {sh : Nat → Nat × Nat} {P : Int32 → gS → Prop} {k34 : Nat → Int32 → Int32 → Int32 → Int32 → Int32 → Int32 → gS → Prop} {a0 : Nat} {x1 : Int32} {x2 : Int32} {x3 : Int32} {x5 : Int32} {x6 : Int32} {x7 : Int32} {z : gS} (hn : gOK E n) (hk34 : ∀ (a0 : Nat) (x1 : Int32) (x2 : Int32) (x3 : Int32) (x5 : Int32) (x6 : Int32) (x7 : Int32) (z : gS), k34 a0 x1 x2 x3 x5 x6 x7 z → V E (gR 2 0) gyX12_deedsBy 0 0 34 [(0, .ref a0), (1, .int x1), (2, .int x2), (3, .int x3), (5, .int x5), (6, .int x6), (7, .int x7)] [] n sh z (kI n sh P)) (hf : wX12_deedsBy_B34 n sh k34 P a0 x1 x2 x3 x5 x6 x7 z) : V E (gR 2 0) gyX12_deedsBy 0 0 34 [(0, .ref a0), (1, .int x1), (2, .int x2), (3, .int x3), (5, .int x5), (6, .int x6), (7, .int x7)] [] n sh z (kI n sh P) := by
  unfold wX12_deedsBy_B34 at hf
  refine V_iload (j := 6) dX12_deedsBy_34 rfl ?_
  refine V_iload (j := 5) dX12_deedsBy_36 rfl ?_
  refine V_icmp_ge (tgt := 98) dX12_deedsBy_38 (by decide) (fun h20 => ?_) (fun h20 => ?_)
  · have hf := it_t h20 hf
    refine V_iload (j := 4) dX12_deedsBy_98 rfl ?_
    exact V_ireturn dX12_deedsBy_100 rfl rfl (Nat.le_refl 0) (kI_of hf)
  · have hf := it_f h20 hf
    refine V_aload_n (j := 0) dX12_deedsBy_41 rfl rfl ?_
    refine V_iload_n (j := 1) dX12_deedsBy_42 rfl rfl ?_
    refine V_iload_n (j := 2) dX12_deedsBy_43 rfl rfl ?_
    obtain ⟨h8, hf⟩ := hf
    refine V_cVI (ctX12_isShown hn hf) gc_X12_324 rfl h8.1 ⟨_, h8.2, by decide, rfl⟩ ⟨by decide, by decide, Nat.zero_le _, Nat.zero_le _⟩ (Nat.le_of_ble_eq_true rfl) dX12_deedsBy_44 rfl hn (fun r6 z7 hf => ?_)
    refine V_if_eq (tgt := 98) dX12_deedsBy_47 (by decide) (fun h19 => ?_) (fun h19 => ?_)
    · have hf := it_t h19 hf
      refine V_iload (j := 4) dX12_deedsBy_98 rfl ?_
      exact V_ireturn dX12_deedsBy_100 rfl rfl (Nat.le_refl 0) (kI_of hf)
    · have hf := it_f h19 hf
      refine V_aload_n (j := 0) dX12_deedsBy_50 rfl rfl ?_
      refine V_iload_n (j := 1) dX12_deedsBy_51 rfl rfl ?_
      refine V_iload_n (j := 2) dX12_deedsBy_52 rfl rfl ?_
      refine V_iload (j := 6) dX12_deedsBy_53 rfl ?_
      refine V_cVI (ctX12_markOf hn hf) gc_X12_300 rfl h8.1 ⟨_, h8.2, by decide, rfl⟩ ⟨by decide, by decide, Nat.zero_le _, Nat.zero_le _⟩ (Nat.le_of_ble_eq_true rfl) dX12_deedsBy_55 rfl hn (fun r9 z10 hf => ?_)
      refine V_istore (ls2 := [(8, .int r9), (0, .ref a0), (1, .int x1), (2, .int x2), (3, .int x3), (5, .int x5), (6, .int x6), (7, .int x7)]) dX12_deedsBy_58 (by decide) rfl ?_
      refine V_iload (j := 5) dX12_deedsBy_60 rfl ?_
      refine V_iload_n (j := 4) dX12_deedsBy_62 rfl rfl ?_
      refine V_if_lt (tgt := 78) dX12_deedsBy_63 (by decide) (fun h18 => ?_) (fun h18 => ?_)
      · have hf := it_t h18 hf
        refine V_to [1, 2, 3, 4, 6, 7, 0] rfl ?_
        exact vX12_deedsBy_J78 hn hk34 hf
      · have hf := it_f h18 hf
        refine V_aload_n (j := 1) dX12_deedsBy_66 rfl rfl ?_
        refine V_iload_n (j := 2) dX12_deedsBy_67 rfl rfl ?_
        refine V_iload_n (j := 3) dX12_deedsBy_68 rfl rfl ?_
        refine V_iload (j := 0) dX12_deedsBy_69 rfl ?_
        refine V_cVI (ctX12_shownOf hn hf) gc_X12_327 rfl h8.1 ⟨_, h8.2, by decide, rfl⟩ ⟨by decide, by decide, Nat.zero_le _, Nat.zero_le _⟩ (Nat.le_of_ble_eq_true rfl) dX12_deedsBy_71 rfl hn (fun r15 z16 hf => ?_)
        refine V_iload_n (j := 4) dX12_deedsBy_74 rfl rfl ?_
        refine V_icmp_ne (tgt := 88) dX12_deedsBy_75 (by decide) (fun h17 => ?_) (fun h17 => ?_)
        · have hf := it_f h17 hf
          refine V_iconst (v := (0 : Int32)) dX12_deedsBy_88 (by decide) ?_
          refine V_to [1, 2, 3, 4, 6, 7] rfl ?_
          exact vX12_deedsBy_J89 hn hk34 hf
        · have hf := it_t (Classical.not_not.mp h17) hf
          refine V_to [1, 2, 3, 4, 6, 7, 0] rfl ?_
          exact vX12_deedsBy_J78 hn hk34 hf
set_option maxRecDepth 100000 in
set_option maxHeartbeats 4000000 in
theorem vX12_deedsBy_L34 {E : gE} {n : Nat} {sh : Nat → Nat × Nat} {P : Int32 → gS → Prop} (hn : gOK E n) : ∀ (N : Nat) (a0 : Nat) (x1 : Int32) (x2 : Int32) (x3 : Int32) (x5 : Int32) (x6 : Int32) (x7 : Int32) (z : gS), wX12_deedsBy_L34 n sh P N a0 x1 x2 x3 x5 x6 x7 z → V E (gR 2 0) gyX12_deedsBy 0 0 34 [(0, .ref a0), (1, .int x1), (2, .int x2), (3, .int x3), (5, .int x5), (6, .int x6), (7, .int x7)] [] n sh z (kI n sh P) := by
  intro N
  induction N with
  | zero => intro a0 x1 x2 x3 x5 x6 x7 z hf; exact False.elim hf
  | succ N ih => intro a0 x1 x2 x3 x5 x6 x7 z hf; exact vX12_deedsBy_B34 hn ih hf
def wX12_deedsBy_J32 (n : Nat) (sh : Nat → Nat × Nat) (P : Int32 → gS → Prop) (a0 : Nat) (x1 : Int32) (x2 : Int32) (x3 : Int32) (x5 : Int32) (x6 : Int32) (s0 : Int32) (z : gS) : Prop := (∃ N, wX12_deedsBy_L34 n sh P N a0 x1 x2 x3 x5 x6 s0 z)
set_option maxRecDepth 100000 in
set_option maxHeartbeats 4000000 in
theorem vX12_deedsBy_J32 {E : gE} {n : Nat} {sh : Nat → Nat × Nat} {P : Int32 → gS → Prop} {a0 : Nat} {x1 : Int32} {x2 : Int32} {x3 : Int32} {x5 : Int32} {x6 : Int32} {s0 : Int32} {z : gS} (hn : gOK E n) (hf : wX12_deedsBy_J32 n sh P a0 x1 x2 x3 x5 x6 s0 z) : V E (gR 2 0) gyX12_deedsBy 0 0 32 [(0, .ref a0), (1, .int x1), (2, .int x2), (3, .int x3), (5, .int x5), (6, .int x6)] [.int s0] n sh z (kI n sh P) := by
  unfold wX12_deedsBy_J32 at hf
  refine V_istore (ls2 := [(7, .int s0), (0, .ref a0), (1, .int x1), (2, .int x2), (3, .int x3), (5, .int x5), (6, .int x6)]) dX12_deedsBy_32 (by decide) rfl ?_
  obtain ⟨N, hf⟩ := hf
  refine V_to [1, 2, 3, 4, 5, 6, 0] rfl ?_
  exact vX12_deedsBy_L34 hn N _ _ _ _ _ _ _ _ hf
def wX12_deedsBy (n : Nat) (sh : Nat → Nat × Nat) (a0 : Nat) (x1 : Int32) (x2 : Int32) (x3 : Int32) (x4 : Int32) (z : gS) (P : Int32 → gS → Prop) : Prop := (oO n sh a0 8) ∧ (∃ t2 : Nat, gr z a0 24 = some t2 ∧ ((oA n sh t2 1) ∧ ((vp_in ((x1 + (18 : Int32)) + x2) (sh t2).2) ∧ (∀ v5 : Int32, v5 = (gi z t2 ((x1 + (18 : Int32)) + x2).toNatClampNeg) → (if v5 ≤ x4 then wX12_deedsBy_J32 n sh P a0 x1 x2 x3 (0 : Int32) v5 (0 : Int32) z else wX12_deedsBy_J32 n sh P a0 x1 x2 x3 (0 : Int32) v5 (v5 - x4) z)))))
set_option maxRecDepth 100000 in
set_option maxHeartbeats 4000000 in
theorem ctX12_deedsBy {E : gE} {n : Nat} {sh : Nat → Nat × Nat} {a0 : Nat} {x1 : Int32} {x2 : Int32} {x3 : Int32} {x4 : Int32} {z : gS} {P : Int32 → gS → Prop} (hn : gOK E n) (hf : wX12_deedsBy n sh a0 x1 x2 x3 x4 z P) : VM E 2 0 gyX12_deedsBy [.ref a0, .int x1, .int x2, .int x3, .int x4] n sh z (kI n sh P) := by
  unfold wX12_deedsBy at hf
  refine VM.of (by decide +kernel) (Nat.le_of_ble_eq_true rfl) (fun _ _ _ h => h.2.2) ?_
  show V E (gR 2 0) gyX12_deedsBy 0 0 0 [(0, .ref a0), (1, .int x1), (2, .int x2), (3, .int x3), (4, .int x4)] [] n sh z (kI n sh P)
  refine V_iconst (v := (0 : Int32)) dX12_deedsBy_0 (by decide) ?_
  refine V_istore (ls2 := [(5, .int (0 : Int32)), (0, .ref a0), (1, .int x1), (2, .int x2), (3, .int x3), (4, .int x4)]) dX12_deedsBy_1 (by decide) rfl ?_
  refine V_aload_n (j := 1) dX12_deedsBy_3 rfl rfl ?_
  obtain ⟨h1, hf⟩ := hf
  obtain ⟨t2, et2, hf⟩ := hf
  refine V_getR fl_X12_119 rfl h1.1 h1.2 et2 dX12_deedsBy_4 ?_
  refine V_iload_n (j := 2) dX12_deedsBy_7 rfl rfl ?_
  refine V_bipush (v := (18 : Int32)) dX12_deedsBy_8 (by decide) ?_
  refine V_iadd dX12_deedsBy_10 ?_
  refine V_iload_n (j := 3) dX12_deedsBy_11 rfl rfl ?_
  refine V_iadd dX12_deedsBy_12 ?_
  obtain ⟨h3, hf⟩ := hf
  obtain ⟨h4, hf⟩ := hf
  refine V_iald h3.1 h3.s h4 dX12_deedsBy_13 ?_
  refine V_nI (fun v5 ev5 => ?_)
  have hf := hf v5 ev5
  refine V_istore (ls2 := [(6, .int v5), (5, .int (0 : Int32)), (0, .ref a0), (1, .int x1), (2, .int x2), (3, .int x3), (4, .int x4)]) dX12_deedsBy_14 (by decide) rfl ?_
  refine V_iload (j := 0) dX12_deedsBy_16 rfl ?_
  refine V_iload (j := 6) dX12_deedsBy_18 rfl ?_
  refine V_icmp_le (tgt := 31) dX12_deedsBy_20 (by decide) (fun h21 => ?_) (fun h21 => ?_)
  · have hf := it_t h21 hf
    refine V_iconst (v := (0 : Int32)) dX12_deedsBy_31 (by decide) ?_
    refine V_to [2, 3, 4, 5, 1, 0] rfl ?_
    exact vX12_deedsBy_J32 hn hf
  · have hf := it_f h21 hf
    refine V_iload (j := 0) dX12_deedsBy_23 rfl ?_
    refine V_iload (j := 6) dX12_deedsBy_25 rfl ?_
    refine V_isub dX12_deedsBy_27 ?_
    refine V_goto (tgt := 32) dX12_deedsBy_28 (by decide) ?_
    refine V_to [2, 3, 4, 5, 1, 0] rfl ?_
    exact vX12_deedsBy_J32 hn hf
def wX12_harmOf_J35 (n : Nat) (sh : Nat → Nat × Nat) (k4 : Nat → Int32 → Int32 → Int32 → gS → Prop) (P : Int32 → gS → Prop) (a0 : Nat) (x1 : Int32) (x3 : Int32) (s0 : Int32) (s1 : Int32) (z : gS) : Prop := ∀ v4 : Int32, v4 = (s1 + s0) → (∀ v5 : Int32, v5 = x3 + (1 : Int32) → k4 a0 x1 v4 v5 z)
set_option maxRecDepth 100000 in
set_option maxHeartbeats 4000000 in
theorem vX12_harmOf_J35 {E : gE} {n : Nat} {sh : Nat → Nat × Nat} {P : Int32 → gS → Prop} {k4 : Nat → Int32 → Int32 → Int32 → gS → Prop} {a0 : Nat} {x1 : Int32} {x3 : Int32} {s0 : Int32} {s1 : Int32} {z : gS} (hn : gOK E n) (hk4 : ∀ (a0 : Nat) (x1 : Int32) (x2 : Int32) (x3 : Int32) (z : gS), k4 a0 x1 x2 x3 z → V E (gR 1 0) gyX12_harmOf 0 0 4 [(0, .ref a0), (1, .int x1), (2, .int x2), (3, .int x3)] [] n sh z (kI n sh P)) (hf : wX12_harmOf_J35 n sh k4 P a0 x1 x3 s0 s1 z) : V E (gR 1 0) gyX12_harmOf 0 0 35 [(0, .ref a0), (1, .int x1), (3, .int x3)] [.int s0, .int s1] n sh z (kI n sh P) := by
  unfold wX12_harmOf_J35 at hf
  refine V_iadd dX12_harmOf_35 ?_
  refine V_nI (fun v4 ev4 => ?_)
  have hf := hf v4 ev4
  refine V_istore_n (ls2 := [(2, .int v4), (0, .ref a0), (1, .int x1), (3, .int x3)]) dX12_harmOf_36 rfl (by decide) rfl ?_
  obtain ⟨v5, ev5⟩ : ∃ y : Int32, y = x3 + (1 : Int32) := ⟨_, rfl⟩
  refine V_iinc (j := 3) (v := v5) (ls2 := [(3, .int v5), (2, .int v4), (0, .ref a0), (1, .int x1)]) dX12_harmOf_37 rfl (by rw [ev5]; rfl) (by decide) rfl ?_
  have hf := hf v5 ev5
  refine V_goto (tgt := 4) dX12_harmOf_40 (by decide) ?_
  refine V_to [2, 3, 1, 0] rfl ?_
  exact hk4 _ _ _ _ _ hf
def wX12_harmOf_B4 (n : Nat) (sh : Nat → Nat × Nat) (k4 : Nat → Int32 → Int32 → Int32 → gS → Prop) (P : Int32 → gS → Prop) (a0 : Nat) (x1 : Int32) (x2 : Int32) (x3 : Int32) (z : gS) : Prop := (oO n sh a0 8) ∧ (wX12_deeds n sh a0 z (fun (r1 : Int32) (z2 : gS) => if r1 ≤ x3 then P x2 z2 else (if ((x1 >>> (x3 &&& 31)) &&& (1 : Int32)) = (1 : Int32) then (∃ t6 : Nat, gr z2 a0 10 = some t6 ∧ ((oA n sh t6 1) ∧ ((vp_in ((28 : Int32) + x3) (sh t6).2) ∧ wX12_harmOf_J35 n sh k4 P a0 x1 x3 (gi z2 t6 ((28 : Int32) + x3).toNatClampNeg) x2 z2))) else wX12_harmOf_J35 n sh k4 P a0 x1 x3 (0 : Int32) x2 z2)))
def wX12_harmOf_L4 (n : Nat) (sh : Nat → Nat × Nat) (P : Int32 → gS → Prop) : Nat → Nat → Int32 → Int32 → Int32 → gS → Prop
  | 0, _, _, _, _, _ => False
  | N + 1, a0, x1, x2, x3, z => wX12_harmOf_B4 n sh (wX12_harmOf_L4 n sh P N) P a0 x1 x2 x3 z
set_option maxRecDepth 100000 in
set_option maxHeartbeats 4000000 in
theorem vX12_harmOf_B4 {E : gE} {n : Nat} {sh : Nat → Nat × Nat} {P : Int32 → gS → Prop} {k4 : Nat → Int32 → Int32 → Int32 → gS → Prop} {a0 : Nat} {x1 : Int32} {x2 : Int32} {x3 : Int32} {z : gS} (hn : gOK E n) (hk4 : ∀ (a0 : Nat) (x1 : Int32) (x2 : Int32) (x3 : Int32) (z : gS), k4 a0 x1 x2 x3 z → V E (gR 1 0) gyX12_harmOf 0 0 4 [(0, .ref a0), (1, .int x1), (2, .int x2), (3, .int x3)] [] n sh z (kI n sh P)) (hf : wX12_harmOf_B4 n sh k4 P a0 x1 x2 x3 z) : V E (gR 1 0) gyX12_harmOf 0 0 4 [(0, .ref a0), (1, .int x1), (2, .int x2), (3, .int x3)] [] n sh z (kI n sh P) := by
  unfold wX12_harmOf_B4 at hf
  refine V_iload_n (j := 3) dX12_harmOf_4 rfl rfl ?_
  refine V_aload_n (j := 0) dX12_harmOf_5 rfl rfl ?_
  obtain ⟨h3, hf⟩ := hf
  refine V_cVI (ctX12_deeds hn hf) gc_X12_281 rfl h3.1 ⟨_, h3.2, by decide, rfl⟩ ⟨by decide, by decide, Nat.zero_le _, Nat.zero_le _⟩ (Nat.le_of_ble_eq_true rfl) dX12_harmOf_6 rfl hn (fun r1 z2 hf => ?_)
  refine V_icmp_ge (tgt := 43) dX12_harmOf_9 (by decide) (fun h10 => ?_) (fun h10 => ?_)
  · have hf := it_t h10 hf
    refine V_iload_n (j := 2) dX12_harmOf_43 rfl rfl ?_
    exact V_ireturn dX12_harmOf_44 rfl rfl (Nat.le_refl 0) (kI_of hf)
  · have hf := it_f h10 hf
    refine V_iload_n (j := 2) dX12_harmOf_12 rfl rfl ?_
    refine V_iload_n (j := 1) dX12_harmOf_13 rfl rfl ?_
    refine V_iload_n (j := 3) dX12_harmOf_14 rfl rfl ?_
    refine V_ishr dX12_harmOf_15 ?_
    refine V_iconst (v := (1 : Int32)) dX12_harmOf_16 (by decide) ?_
    refine V_iand dX12_harmOf_17 ?_
    refine V_iconst (v := (1 : Int32)) dX12_harmOf_18 (by decide) ?_
    refine V_icmp_ne (tgt := 34) dX12_harmOf_19 (by decide) (fun h9 => ?_) (fun h9 => ?_)
    · have hf := it_f h9 hf
      refine V_iconst (v := (0 : Int32)) dX12_harmOf_34 (by decide) ?_
      refine V_to [0, 1, 3] rfl ?_
      exact vX12_harmOf_J35 hn hk4 hf
    · have hf := it_t (Classical.not_not.mp h9) hf
      refine V_aload_n (j := 0) dX12_harmOf_22 rfl rfl ?_
      obtain ⟨t6, et6, hf⟩ := hf
      refine V_getR fl_X12_89 rfl h3.1 h3.2 et6 dX12_harmOf_23 ?_
      refine V_bipush (v := (28 : Int32)) dX12_harmOf_26 (by decide) ?_
      refine V_iload_n (j := 3) dX12_harmOf_28 rfl rfl ?_
      refine V_iadd dX12_harmOf_29 ?_
      obtain ⟨h7, hf⟩ := hf
      obtain ⟨h8, hf⟩ := hf
      refine V_iald h7.1 h7.s h8 dX12_harmOf_30 ?_
      refine V_goto (tgt := 35) dX12_harmOf_31 (by decide) ?_
      refine V_to [0, 1, 3] rfl ?_
      exact vX12_harmOf_J35 hn hk4 hf
set_option maxRecDepth 100000 in
set_option maxHeartbeats 4000000 in
theorem vX12_harmOf_L4 {E : gE} {n : Nat} {sh : Nat → Nat × Nat} {P : Int32 → gS → Prop} (hn : gOK E n) : ∀ (N : Nat) (a0 : Nat) (x1 : Int32) (x2 : Int32) (x3 : Int32) (z : gS), wX12_harmOf_L4 n sh P N a0 x1 x2 x3 z → V E (gR 1 0) gyX12_harmOf 0 0 4 [(0, .ref a0), (1, .int x1), (2, .int x2), (3, .int x3)] [] n sh z (kI n sh P) := by
  intro N
  induction N with
  | zero => intro a0 x1 x2 x3 z hf; exact False.elim hf
  | succ N ih => intro a0 x1 x2 x3 z hf; exact vX12_harmOf_B4 hn ih hf
def wX12_harmOf (n : Nat) (sh : Nat → Nat × Nat) (a0 : Nat) (x1 : Int32) (z : gS) (P : Int32 → gS → Prop) : Prop := (∃ N, wX12_harmOf_L4 n sh P N a0 x1 (0 : Int32) (0 : Int32) z)
set_option maxRecDepth 100000 in
set_option maxHeartbeats 4000000 in
theorem ctX12_harmOf {E : gE} {n : Nat} {sh : Nat → Nat × Nat} {a0 : Nat} {x1 : Int32} {z : gS} {P : Int32 → gS → Prop} (hn : gOK E n) (hf : wX12_harmOf n sh a0 x1 z P) : VM E 1 0 gyX12_harmOf [.ref a0, .int x1] n sh z (kI n sh P) := by
  unfold wX12_harmOf at hf
  refine VM.of (by decide +kernel) (Nat.le_of_ble_eq_true rfl) (fun _ _ _ h => h.2.2) ?_
  show V E (gR 1 0) gyX12_harmOf 0 0 0 [(0, .ref a0), (1, .int x1)] [] n sh z (kI n sh P)
  refine V_iconst (v := (0 : Int32)) dX12_harmOf_0 (by decide) ?_
  refine V_istore_n (ls2 := [(2, .int (0 : Int32)), (0, .ref a0), (1, .int x1)]) dX12_harmOf_1 rfl (by decide) rfl ?_
  refine V_iconst (v := (0 : Int32)) dX12_harmOf_2 (by decide) ?_
  refine V_istore_n (ls2 := [(3, .int (0 : Int32)), (2, .int (0 : Int32)), (0, .ref a0), (1, .int x1)]) dX12_harmOf_3 rfl (by decide) rfl ?_
  obtain ⟨N, hf⟩ := hf
  refine V_to [2, 3, 1, 0] rfl ?_
  exact vX12_harmOf_L4 hn N _ _ _ _ _ hf
def wX12_harmShown_B6 (n : Nat) (sh : Nat → Nat × Nat) (k6 : Nat → Int32 → Int32 → Int32 → Int32 → Int32 → gS → Prop) (P : Int32 → gS → Prop) (a0 : Nat) (x1 : Int32) (x2 : Int32) (x3 : Int32) (x4 : Int32) (x5 : Int32) (z : gS) : Prop := (oO n sh a0 8) ∧ (wX12_panes n sh a0 z (fun (r1 : Int32) (z2 : gS) => if r1 ≤ x5 then (wX12_harmOf n sh a0 x4 z2 (fun (r4 : Int32) (z5 : gS) => P r4 z5)) else (wX12_deedsBy n sh a0 x1 x5 x2 x3 z2 (fun (r6 : Int32) (z7 : gS) => ∀ v8 : Int32, v8 = (x4 ||| r6) → (∀ v9 : Int32, v9 = x5 + (1 : Int32) → k6 a0 x1 x2 x3 v8 v9 z7)))))
def wX12_harmShown_L6 (n : Nat) (sh : Nat → Nat × Nat) (P : Int32 → gS → Prop) : Nat → Nat → Int32 → Int32 → Int32 → Int32 → Int32 → gS → Prop
  | 0, _, _, _, _, _, _, _ => False
  | N + 1, a0, x1, x2, x3, x4, x5, z => wX12_harmShown_B6 n sh (wX12_harmShown_L6 n sh P N) P a0 x1 x2 x3 x4 x5 z
set_option maxRecDepth 100000 in
set_option maxHeartbeats 4000000 in
theorem vX12_harmShown_B6 {E : gE} {n : Nat} {sh : Nat → Nat × Nat} {P : Int32 → gS → Prop} {k6 : Nat → Int32 → Int32 → Int32 → Int32 → Int32 → gS → Prop} {a0 : Nat} {x1 : Int32} {x2 : Int32} {x3 : Int32} {x4 : Int32} {x5 : Int32} {z : gS} (hn : gOK E n) (hk6 : ∀ (a0 : Nat) (x1 : Int32) (x2 : Int32) (x3 : Int32) (x4 : Int32) (x5 : Int32) (z : gS), k6 a0 x1 x2 x3 x4 x5 z → V E (gR 3 0) gyX12_harmShown 0 0 6 [(0, .ref a0), (1, .int x1), (2, .int x2), (3, .int x3), (4, .int x4), (5, .int x5)] [] n sh z (kI n sh P)) (hf : wX12_harmShown_B6 n sh k6 P a0 x1 x2 x3 x4 x5 z) : V E (gR 3 0) gyX12_harmShown 0 0 6 [(0, .ref a0), (1, .int x1), (2, .int x2), (3, .int x3), (4, .int x4), (5, .int x5)] [] n sh z (kI n sh P) := by
  unfold wX12_harmShown_B6 at hf
  refine V_iload (j := 5) dX12_harmShown_6 rfl ?_
  refine V_aload_n (j := 0) dX12_harmShown_8 rfl rfl ?_
  obtain ⟨h3, hf⟩ := hf
  refine V_cVI (ctX12_panes hn hf) gc_X12_278 rfl h3.1 ⟨_, h3.2, by decide, rfl⟩ ⟨by decide, by decide, Nat.zero_le _, Nat.zero_le _⟩ (Nat.le_of_ble_eq_true rfl) dX12_harmShown_9 rfl hn (fun r1 z2 hf => ?_)
  refine V_icmp_ge (tgt := 35) dX12_harmShown_12 (by decide) (fun h10 => ?_) (fun h10 => ?_)
  · have hf := it_t h10 hf
    refine V_aload_n (j := 0) dX12_harmShown_35 rfl rfl ?_
    refine V_iload (j := 4) dX12_harmShown_36 rfl ?_
    refine V_cVI (ctX12_harmOf hn hf) gc_X12_334 rfl h3.1 ⟨_, h3.2, by decide, rfl⟩ ⟨by decide, by decide, Nat.zero_le _, Nat.zero_le _⟩ (Nat.le_of_ble_eq_true rfl) dX12_harmShown_38 rfl hn (fun r4 z5 hf => ?_)
    exact V_ireturn dX12_harmShown_41 rfl rfl (Nat.le_refl 0) (kI_of hf)
  · have hf := it_f h10 hf
    refine V_iload (j := 4) dX12_harmShown_15 rfl ?_
    refine V_aload_n (j := 0) dX12_harmShown_17 rfl rfl ?_
    refine V_iload_n (j := 1) dX12_harmShown_18 rfl rfl ?_
    refine V_iload (j := 5) dX12_harmShown_19 rfl ?_
    refine V_iload_n (j := 2) dX12_harmShown_21 rfl rfl ?_
    refine V_iload_n (j := 3) dX12_harmShown_22 rfl rfl ?_
    refine V_cVI (ctX12_deedsBy hn hf) gc_X12_330 rfl h3.1 ⟨_, h3.2, by decide, rfl⟩ ⟨by decide, by decide, Nat.zero_le _, Nat.zero_le _⟩ (Nat.le_of_ble_eq_true rfl) dX12_harmShown_23 rfl hn (fun r6 z7 hf => ?_)
    refine V_ior dX12_harmShown_26 ?_
    refine V_nI (fun v8 ev8 => ?_)
    have hf := hf v8 ev8
    refine V_istore (ls2 := [(4, .int v8), (0, .ref a0), (1, .int x1), (2, .int x2), (3, .int x3), (5, .int x5)]) dX12_harmShown_27 (by decide) rfl ?_
    obtain ⟨v9, ev9⟩ : ∃ y : Int32, y = x5 + (1 : Int32) := ⟨_, rfl⟩
    refine V_iinc (j := 5) (v := v9) (ls2 := [(5, .int v9), (4, .int v8), (0, .ref a0), (1, .int x1), (2, .int x2), (3, .int x3)]) dX12_harmShown_29 rfl (by rw [ev9]; rfl) (by decide) rfl ?_
    have hf := hf v9 ev9
    refine V_goto (tgt := 6) dX12_harmShown_32 (by decide) ?_
    refine V_to [2, 3, 4, 5, 1, 0] rfl ?_
    exact hk6 _ _ _ _ _ _ _ hf
set_option maxRecDepth 100000 in
set_option maxHeartbeats 4000000 in
theorem vX12_harmShown_L6 {E : gE} {n : Nat} {sh : Nat → Nat × Nat} {P : Int32 → gS → Prop} (hn : gOK E n) : ∀ (N : Nat) (a0 : Nat) (x1 : Int32) (x2 : Int32) (x3 : Int32) (x4 : Int32) (x5 : Int32) (z : gS), wX12_harmShown_L6 n sh P N a0 x1 x2 x3 x4 x5 z → V E (gR 3 0) gyX12_harmShown 0 0 6 [(0, .ref a0), (1, .int x1), (2, .int x2), (3, .int x3), (4, .int x4), (5, .int x5)] [] n sh z (kI n sh P) := by
  intro N
  induction N with
  | zero => intro a0 x1 x2 x3 x4 x5 z hf; exact False.elim hf
  | succ N ih => intro a0 x1 x2 x3 x4 x5 z hf; exact vX12_harmShown_B6 hn ih hf
def wX12_harmShown (n : Nat) (sh : Nat → Nat × Nat) (a0 : Nat) (x1 : Int32) (x2 : Int32) (x3 : Int32) (z : gS) (P : Int32 → gS → Prop) : Prop := (∃ N, wX12_harmShown_L6 n sh P N a0 x1 x2 x3 (0 : Int32) (0 : Int32) z)
set_option maxRecDepth 100000 in
set_option maxHeartbeats 4000000 in
theorem ctX12_harmShown {E : gE} {n : Nat} {sh : Nat → Nat × Nat} {a0 : Nat} {x1 : Int32} {x2 : Int32} {x3 : Int32} {z : gS} {P : Int32 → gS → Prop} (hn : gOK E n) (hf : wX12_harmShown n sh a0 x1 x2 x3 z P) : VM E 3 0 gyX12_harmShown [.ref a0, .int x1, .int x2, .int x3] n sh z (kI n sh P) := by
  unfold wX12_harmShown at hf
  refine VM.of (by decide +kernel) (Nat.le_of_ble_eq_true rfl) (fun _ _ _ h => h.2.2) ?_
  show V E (gR 3 0) gyX12_harmShown 0 0 0 [(0, .ref a0), (1, .int x1), (2, .int x2), (3, .int x3)] [] n sh z (kI n sh P)
  refine V_iconst (v := (0 : Int32)) dX12_harmShown_0 (by decide) ?_
  refine V_istore (ls2 := [(4, .int (0 : Int32)), (0, .ref a0), (1, .int x1), (2, .int x2), (3, .int x3)]) dX12_harmShown_1 (by decide) rfl ?_
  refine V_iconst (v := (0 : Int32)) dX12_harmShown_3 (by decide) ?_
  refine V_istore (ls2 := [(5, .int (0 : Int32)), (4, .int (0 : Int32)), (0, .ref a0), (1, .int x1), (2, .int x2), (3, .int x3)]) dX12_harmShown_4 (by decide) rfl ?_
  obtain ⟨N, hf⟩ := hf
  refine V_to [2, 3, 4, 5, 1, 0] rfl ?_
  exact vX12_harmShown_L6 hn N _ _ _ _ _ _ _ hf
def wX12_pane (n : Nat) (sh : Nat → Nat × Nat) (a0 : Nat) (x1 : Int32) (x2 : Int32) (z : gS) (P : Int32 → gS → Prop) : Prop := (oO n sh a0 8) ∧ (∀ z2 : gS, z2 = si z a0 0 (0 : Int32) → (wX12_isPane n sh a0 x1 z2 (fun (r3 : Int32) (z4 : gS) => if r3 = 0 then P (-2 : Int32) z4 else (wX12_within n sh x2 (0 : Int32) (5 : Int32) z4 (fun (r5 : Int32) (z6 : gS) => if r5 = 0 then P (-2 : Int32) z6 else (if x2 = (0 : Int32) then (wX12_paneOf n sh a0 x1 x2 z6 (fun (r8 : Int32) (z9 : gS) => P r8 z9)) else (if x2 = (1 : Int32) then (wX12_paneOf n sh a0 x1 x2 z6 (fun (r11 : Int32) (z12 : gS) => P r11 z12)) else (if x2 = (2 : Int32) then (∃ t14 : Nat, gr z6 a0 24 = some t14 ∧ ((oA n sh t14 1) ∧ ((vp_in ((18 : Int32) + x1) (sh t14).2) ∧ P (gi z6 t14 ((18 : Int32) + x1).toNatClampNeg) z6))) else (if x2 = (3 : Int32) then (∃ t18 : Nat, gr z6 a0 24 = some t18 ∧ ((oA n sh t18 1) ∧ ((vp_in ((6 : Int32) + x1) (sh t18).2) ∧ P (gi z6 t18 ((6 : Int32) + x1).toNatClampNeg) z6))) else (if x2 = (4 : Int32) then (∃ t22 : Nat, gr z6 a0 24 = some t22 ∧ ((oA n sh t22 1) ∧ ((vp_in ((12 : Int32) + x1) (sh t22).2) ∧ P (gi z6 t22 ((12 : Int32) + x1).toNatClampNeg) z6))) else (wX12_sightOf n sh a0 (0 : Int32) x1 z6 (fun (r25 : Int32) (z26 : gS) => P r25 z26))))))))))))
set_option maxRecDepth 100000 in
set_option maxHeartbeats 4000000 in
theorem ctX12_pane {E : gE} {n : Nat} {sh : Nat → Nat × Nat} {a0 : Nat} {x1 : Int32} {x2 : Int32} {z : gS} {P : Int32 → gS → Prop} (hn : gOK E n) (hf : wX12_pane n sh a0 x1 x2 z P) : VM E 2 0 gyX12_pane [.ref a0, .int x1, .int x2] n sh z (kI n sh P) := by
  unfold wX12_pane at hf
  refine VM.of (by decide +kernel) (Nat.le_of_ble_eq_true rfl) (fun _ _ _ h => h.2.2) ?_
  show V E (gR 2 0) gyX12_pane 0 0 0 [(0, .ref a0), (1, .int x1), (2, .int x2)] [] n sh z (kI n sh P)
  refine V_aload_n (j := 0) dX12_pane_0 rfl rfl ?_
  refine V_iconst (v := (0 : Int32)) dX12_pane_1 (by decide) ?_
  obtain ⟨h1, hf⟩ := hf
  refine V_putI fl_X12_1 rfl rfl rfl rfl h1.1 h1.2 dX12_pane_2 ?_
  refine V_nz (fun z2 ez2 => ?_)
  have hf := hf z2 ez2
  refine V_aload_n (j := 0) dX12_pane_5 rfl rfl ?_
  refine V_iload_n (j := 1) dX12_pane_6 rfl rfl ?_
  refine V_cVI (ctX12_isPane hn hf) gc_X12_337 rfl h1.1 ⟨_, h1.2, by decide, rfl⟩ ⟨by decide, by decide, Nat.zero_le _, Nat.zero_le _⟩ (Nat.le_of_ble_eq_true rfl) dX12_pane_7 rfl hn (fun r3 z4 hf => ?_)
  refine V_if_eq (tgt := 22) dX12_pane_10 (by decide) (fun h28 => ?_) (fun h28 => ?_)
  · have hf := it_t h28 hf
    refine V_bipush (v := (-2 : Int32)) dX12_pane_22 (by decide) ?_
    exact V_ireturn dX12_pane_24 rfl rfl (Nat.le_refl 0) (kI_of hf)
  · have hf := it_f h28 hf
    refine V_iload_n (j := 2) dX12_pane_13 rfl rfl ?_
    refine V_iconst (v := (0 : Int32)) dX12_pane_14 (by decide) ?_
    refine V_iconst (v := (5 : Int32)) dX12_pane_15 (by decide) ?_
    refine V_cSI (ctX12_within hn hf) gc_X12_198 rfl ⟨by decide, by decide, Nat.zero_le _, Nat.zero_le _⟩ (Nat.le_of_ble_eq_true rfl) dX12_pane_16 rfl hn (fun r5 z6 hf => ?_)
    refine V_if_ne (tgt := 25) dX12_pane_19 (by decide) (fun h27 => ?_) (fun h27 => ?_)
    · have hf := it_f h27 hf
      refine V_iload_n (j := 2) dX12_pane_25 rfl rfl ?_
      by_cases h7 : x2 = (0 : Int32)
      · have hf := it_t h7 hf
        refine V_tableIn (off := 34) (tgt := 60) dX12_pane_26 (by rw [h7]; decide) (by rw [h7]; decide) (by rw [h7]; decide) (by decide) ?_
        refine V_aload_n (j := 0) dX12_pane_60 rfl rfl ?_
        refine V_iload_n (j := 1) dX12_pane_61 rfl rfl ?_
        refine V_iload_n (j := 2) dX12_pane_62 rfl rfl ?_
        refine V_cVI (ctX12_paneOf hn hf) gc_X12_284 rfl h1.1 ⟨_, h1.2, by decide, rfl⟩ ⟨by decide, by decide, Nat.zero_le _, Nat.zero_le _⟩ (Nat.le_of_ble_eq_true rfl) dX12_pane_63 rfl hn (fun r8 z9 hf => ?_)
        exact V_ireturn dX12_pane_66 rfl rfl (Nat.le_refl 0) (kI_of hf)
      · have hf := it_f h7 hf
        by_cases h10 : x2 = (1 : Int32)
        · have hf := it_t h10 hf
          refine V_tableIn (off := 34) (tgt := 60) dX12_pane_26 (by rw [h10]; decide) (by rw [h10]; decide) (by rw [h10]; decide) (by decide) ?_
          refine V_aload_n (j := 0) dX12_pane_60 rfl rfl ?_
          refine V_iload_n (j := 1) dX12_pane_61 rfl rfl ?_
          refine V_iload_n (j := 2) dX12_pane_62 rfl rfl ?_
          refine V_cVI (ctX12_paneOf hn hf) gc_X12_284 rfl h1.1 ⟨_, h1.2, by decide, rfl⟩ ⟨by decide, by decide, Nat.zero_le _, Nat.zero_le _⟩ (Nat.le_of_ble_eq_true rfl) dX12_pane_63 rfl hn (fun r11 z12 hf => ?_)
          exact V_ireturn dX12_pane_66 rfl rfl (Nat.le_refl 0) (kI_of hf)
        · have hf := it_f h10 hf
          by_cases h13 : x2 = (2 : Int32)
          · have hf := it_t h13 hf
            refine V_tableIn (off := 41) (tgt := 67) dX12_pane_26 (by rw [h13]; decide) (by rw [h13]; decide) (by rw [h13]; decide) (by decide) ?_
            refine V_aload_n (j := 0) dX12_pane_67 rfl rfl ?_
            obtain ⟨t14, et14, hf⟩ := hf
            refine V_getR fl_X12_119 rfl h1.1 h1.2 et14 dX12_pane_68 ?_
            refine V_bipush (v := (18 : Int32)) dX12_pane_71 (by decide) ?_
            refine V_iload_n (j := 1) dX12_pane_73 rfl rfl ?_
            refine V_iadd dX12_pane_74 ?_
            obtain ⟨h15, hf⟩ := hf
            obtain ⟨h16, hf⟩ := hf
            refine V_iald h15.1 h15.s h16 dX12_pane_75 ?_
            exact V_ireturn dX12_pane_76 rfl rfl (Nat.le_refl 0) (kI_of hf)
          · have hf := it_f h13 hf
            by_cases h17 : x2 = (3 : Int32)
            · have hf := it_t h17 hf
              refine V_tableIn (off := 51) (tgt := 77) dX12_pane_26 (by rw [h17]; decide) (by rw [h17]; decide) (by rw [h17]; decide) (by decide) ?_
              refine V_aload_n (j := 0) dX12_pane_77 rfl rfl ?_
              obtain ⟨t18, et18, hf⟩ := hf
              refine V_getR fl_X12_119 rfl h1.1 h1.2 et18 dX12_pane_78 ?_
              refine V_bipush (v := (6 : Int32)) dX12_pane_81 (by decide) ?_
              refine V_iload_n (j := 1) dX12_pane_83 rfl rfl ?_
              refine V_iadd dX12_pane_84 ?_
              obtain ⟨h19, hf⟩ := hf
              obtain ⟨h20, hf⟩ := hf
              refine V_iald h19.1 h19.s h20 dX12_pane_85 ?_
              exact V_ireturn dX12_pane_86 rfl rfl (Nat.le_refl 0) (kI_of hf)
            · have hf := it_f h17 hf
              by_cases h21 : x2 = (4 : Int32)
              · have hf := it_t h21 hf
                refine V_tableIn (off := 61) (tgt := 87) dX12_pane_26 (by rw [h21]; decide) (by rw [h21]; decide) (by rw [h21]; decide) (by decide) ?_
                refine V_aload_n (j := 0) dX12_pane_87 rfl rfl ?_
                obtain ⟨t22, et22, hf⟩ := hf
                refine V_getR fl_X12_119 rfl h1.1 h1.2 et22 dX12_pane_88 ?_
                refine V_bipush (v := (12 : Int32)) dX12_pane_91 (by decide) ?_
                refine V_iload_n (j := 1) dX12_pane_93 rfl rfl ?_
                refine V_iadd dX12_pane_94 ?_
                obtain ⟨h23, hf⟩ := hf
                obtain ⟨h24, hf⟩ := hf
                refine V_iald h23.1 h23.s h24 dX12_pane_95 ?_
                exact V_ireturn dX12_pane_96 rfl rfl (Nat.le_refl 0) (kI_of hf)
              · have hf := it_f h21 hf
                refine V_tableOut (tgt := 97) dX12_pane_26 (by have qh7 := sw_ne (a := 0) h7 (by decide); have qh10 := sw_ne (a := 1) h10 (by decide); have qh13 := sw_ne (a := 2) h13 (by decide); have qh17 := sw_ne (a := 3) h17 (by decide); have qh21 := sw_ne (a := 4) h21 (by decide); omega) (by decide) ?_
                refine V_aload_n (j := 0) dX12_pane_97 rfl rfl ?_
                refine V_iconst (v := (0 : Int32)) dX12_pane_98 (by decide) ?_
                refine V_iload_n (j := 1) dX12_pane_99 rfl rfl ?_
                refine V_cVI (ctX12_sightOf hn hf) gc_X12_294 rfl h1.1 ⟨_, h1.2, by decide, rfl⟩ ⟨by decide, by decide, Nat.zero_le _, Nat.zero_le _⟩ (Nat.le_of_ble_eq_true rfl) dX12_pane_100 rfl hn (fun r25 z26 hf => ?_)
                exact V_ireturn dX12_pane_103 rfl rfl (Nat.le_refl 0) (kI_of hf)
    · have hf := it_t (Classical.not_not.mp h27) hf
      refine V_bipush (v := (-2 : Int32)) dX12_pane_22 (by decide) ?_
      exact V_ireturn dX12_pane_24 rfl rfl (Nat.le_refl 0) (kI_of hf)
def wX12_shown (n : Nat) (sh : Nat → Nat × Nat) (a0 : Nat) (x1 : Int32) (x2 : Int32) (x3 : Int32) (z : gS) (P : Int32 → gS → Prop) : Prop := (oO n sh a0 8) ∧ (∀ z2 : gS, z2 = si z a0 0 (0 : Int32) → (wX12_isPane n sh a0 x1 z2 (fun (r3 : Int32) (z4 : gS) => if r3 = 0 then P (-2 : Int32) z4 else (wX12_isShown n sh a0 (0 : Int32) x1 z4 (fun (r5 : Int32) (z6 : gS) => if r5 = 0 then P (-2 : Int32) z6 else (∃ t7 : Nat, gr z6 a0 24 = some t7 ∧ ((oA n sh t7 1) ∧ ((vp_in ((18 : Int32) + x1) (sh t7).2) ∧ (wX12_within n sh x2 (0 : Int32) ((gi z6 t7 ((18 : Int32) + x1).toNatClampNeg) - (1 : Int32)) z6 (fun (r10 : Int32) (z11 : gS) => if r10 = 0 then P (-2 : Int32) z11 else (wX12_within n sh x3 (0 : Int32) (3 : Int32) z11 (fun (r12 : Int32) (z13 : gS) => if r12 = 0 then P (-2 : Int32) z13 else (wX12_markOf n sh a0 (0 : Int32) x1 x2 z13 (fun (r14 : Int32) (z15 : gS) => if x3 = 0 then (wX12_shownOf n sh a0 (0 : Int32) x1 r14 z15 (fun (r24 : Int32) (z25 : gS) => P r24 z25)) else (if x3 = (1 : Int32) then (wX12_deedOf n sh r14 z15 (fun (r21 : Int32) (z22 : gS) => P r21 z22)) else (if x3 = (2 : Int32) then (wX12_cellOf n sh r14 z15 (fun (r18 : Int32) (z19 : gS) => P r18 z19)) else (wX12_ageOf n sh r14 z15 (fun (r16 : Int32) (z17 : gS) => P r16 z17))))))))))))))))))
set_option maxRecDepth 100000 in
set_option maxHeartbeats 4000000 in
theorem ctX12_shown {E : gE} {n : Nat} {sh : Nat → Nat × Nat} {a0 : Nat} {x1 : Int32} {x2 : Int32} {x3 : Int32} {z : gS} {P : Int32 → gS → Prop} (hn : gOK E n) (hf : wX12_shown n sh a0 x1 x2 x3 z P) : VM E 2 0 gyX12_shown [.ref a0, .int x1, .int x2, .int x3] n sh z (kI n sh P) := by
  unfold wX12_shown at hf
  refine VM.of (by decide +kernel) (Nat.le_of_ble_eq_true rfl) (fun _ _ _ h => h.2.2) ?_
  show V E (gR 2 0) gyX12_shown 0 0 0 [(0, .ref a0), (1, .int x1), (2, .int x2), (3, .int x3)] [] n sh z (kI n sh P)
  refine V_aload_n (j := 0) dX12_shown_0 rfl rfl ?_
  refine V_iconst (v := (0 : Int32)) dX12_shown_1 (by decide) ?_
  obtain ⟨h1, hf⟩ := hf
  refine V_putI fl_X12_1 rfl rfl rfl rfl h1.1 h1.2 dX12_shown_2 ?_
  refine V_nz (fun z2 ez2 => ?_)
  have hf := hf z2 ez2
  refine V_aload_n (j := 0) dX12_shown_5 rfl rfl ?_
  refine V_iload_n (j := 1) dX12_shown_6 rfl rfl ?_
  refine V_cVI (ctX12_isPane hn hf) gc_X12_337 rfl h1.1 ⟨_, h1.2, by decide, rfl⟩ ⟨by decide, by decide, Nat.zero_le _, Nat.zero_le _⟩ (Nat.le_of_ble_eq_true rfl) dX12_shown_7 rfl hn (fun r3 z4 hf => ?_)
  refine V_if_eq (tgt := 50) dX12_shown_10 (by decide) (fun h30 => ?_) (fun h30 => ?_)
  · have hf := it_t h30 hf
    refine V_bipush (v := (-2 : Int32)) dX12_shown_50 (by decide) ?_
    exact V_ireturn dX12_shown_52 rfl rfl (Nat.le_refl 0) (kI_of hf)
  · have hf := it_f h30 hf
    refine V_aload_n (j := 0) dX12_shown_13 rfl rfl ?_
    refine V_iconst (v := (0 : Int32)) dX12_shown_14 (by decide) ?_
    refine V_iload_n (j := 1) dX12_shown_15 rfl rfl ?_
    refine V_cVI (ctX12_isShown hn hf) gc_X12_324 rfl h1.1 ⟨_, h1.2, by decide, rfl⟩ ⟨by decide, by decide, Nat.zero_le _, Nat.zero_le _⟩ (Nat.le_of_ble_eq_true rfl) dX12_shown_16 rfl hn (fun r5 z6 hf => ?_)
    refine V_if_eq (tgt := 50) dX12_shown_19 (by decide) (fun h29 => ?_) (fun h29 => ?_)
    · have hf := it_t h29 hf
      refine V_bipush (v := (-2 : Int32)) dX12_shown_50 (by decide) ?_
      exact V_ireturn dX12_shown_52 rfl rfl (Nat.le_refl 0) (kI_of hf)
    · have hf := it_f h29 hf
      refine V_iload_n (j := 2) dX12_shown_22 rfl rfl ?_
      refine V_iconst (v := (0 : Int32)) dX12_shown_23 (by decide) ?_
      refine V_aload_n (j := 0) dX12_shown_24 rfl rfl ?_
      obtain ⟨t7, et7, hf⟩ := hf
      refine V_getR fl_X12_119 rfl h1.1 h1.2 et7 dX12_shown_25 ?_
      refine V_bipush (v := (18 : Int32)) dX12_shown_28 (by decide) ?_
      refine V_iload_n (j := 1) dX12_shown_30 rfl rfl ?_
      refine V_iadd dX12_shown_31 ?_
      obtain ⟨h8, hf⟩ := hf
      obtain ⟨h9, hf⟩ := hf
      refine V_iald h8.1 h8.s h9 dX12_shown_32 ?_
      refine V_iconst (v := (1 : Int32)) dX12_shown_33 (by decide) ?_
      refine V_isub dX12_shown_34 ?_
      refine V_cSI (ctX12_within hn hf) gc_X12_198 rfl ⟨by decide, by decide, Nat.zero_le _, Nat.zero_le _⟩ (Nat.le_of_ble_eq_true rfl) dX12_shown_35 rfl hn (fun r10 z11 hf => ?_)
      refine V_if_eq (tgt := 50) dX12_shown_38 (by decide) (fun h28 => ?_) (fun h28 => ?_)
      · have hf := it_t h28 hf
        refine V_bipush (v := (-2 : Int32)) dX12_shown_50 (by decide) ?_
        exact V_ireturn dX12_shown_52 rfl rfl (Nat.le_refl 0) (kI_of hf)
      · have hf := it_f h28 hf
        refine V_iload_n (j := 3) dX12_shown_41 rfl rfl ?_
        refine V_iconst (v := (0 : Int32)) dX12_shown_42 (by decide) ?_
        refine V_iconst (v := (3 : Int32)) dX12_shown_43 (by decide) ?_
        refine V_cSI (ctX12_within hn hf) gc_X12_198 rfl ⟨by decide, by decide, Nat.zero_le _, Nat.zero_le _⟩ (Nat.le_of_ble_eq_true rfl) dX12_shown_44 rfl hn (fun r12 z13 hf => ?_)
        refine V_if_ne (tgt := 53) dX12_shown_47 (by decide) (fun h27 => ?_) (fun h27 => ?_)
        · have hf := it_f h27 hf
          refine V_aload_n (j := 0) dX12_shown_53 rfl rfl ?_
          refine V_iconst (v := (0 : Int32)) dX12_shown_54 (by decide) ?_
          refine V_iload_n (j := 1) dX12_shown_55 rfl rfl ?_
          refine V_iload_n (j := 2) dX12_shown_56 rfl rfl ?_
          refine V_cVI (ctX12_markOf hn hf) gc_X12_300 rfl h1.1 ⟨_, h1.2, by decide, rfl⟩ ⟨by decide, by decide, Nat.zero_le _, Nat.zero_le _⟩ (Nat.le_of_ble_eq_true rfl) dX12_shown_57 rfl hn (fun r14 z15 hf => ?_)
          refine V_istore (ls2 := [(4, .int r14), (0, .ref a0), (1, .int x1), (2, .int x2), (3, .int x3)]) dX12_shown_60 (by decide) rfl ?_
          refine V_iload_n (j := 4) dX12_shown_62 rfl rfl ?_
          refine V_if_ne (tgt := 77) dX12_shown_63 (by decide) (fun h26 => ?_) (fun h26 => ?_)
          · have hf := it_f h26 hf
            refine V_iload_n (j := 4) dX12_shown_77 rfl rfl ?_
            refine V_iconst (v := (1 : Int32)) dX12_shown_78 (by decide) ?_
            refine V_icmp_ne (tgt := 90) dX12_shown_79 (by decide) (fun h23 => ?_) (fun h23 => ?_)
            · have hf := it_f h23 hf
              refine V_iload_n (j := 4) dX12_shown_90 rfl rfl ?_
              refine V_iconst (v := (2 : Int32)) dX12_shown_91 (by decide) ?_
              refine V_icmp_ne (tgt := 103) dX12_shown_92 (by decide) (fun h20 => ?_) (fun h20 => ?_)
              · have hf := it_f h20 hf
                refine V_iload (j := 0) dX12_shown_103 rfl ?_
                refine V_cSI (ctX12_ageOf hn hf) gc_X12_309 rfl ⟨by decide, by decide, Nat.zero_le _, Nat.zero_le _⟩ (Nat.le_of_ble_eq_true rfl) dX12_shown_105 rfl hn (fun r16 z17 hf => ?_)
                exact V_ireturn dX12_shown_108 rfl rfl (Nat.le_refl 0) (kI_of hf)
              · have hf := it_t (Classical.not_not.mp h20) hf
                refine V_iload (j := 0) dX12_shown_95 rfl ?_
                refine V_cSI (ctX12_cellOf hn hf) gc_X12_340 rfl ⟨by decide, by decide, Nat.zero_le _, Nat.zero_le _⟩ (Nat.le_of_ble_eq_true rfl) dX12_shown_97 rfl hn (fun r18 z19 hf => ?_)
                refine V_goto (tgt := 108) dX12_shown_100 (by decide) ?_
                exact V_ireturn dX12_shown_108 rfl rfl (Nat.le_refl 0) (kI_of hf)
            · have hf := it_t (Classical.not_not.mp h23) hf
              refine V_iload (j := 0) dX12_shown_82 rfl ?_
              refine V_cSI (ctX12_deedOf hn hf) gc_X12_312 rfl ⟨by decide, by decide, Nat.zero_le _, Nat.zero_le _⟩ (Nat.le_of_ble_eq_true rfl) dX12_shown_84 rfl hn (fun r21 z22 hf => ?_)
              refine V_goto (tgt := 108) dX12_shown_87 (by decide) ?_
              exact V_ireturn dX12_shown_108 rfl rfl (Nat.le_refl 0) (kI_of hf)
          · have hf := it_t (Classical.not_not.mp h26) hf
            refine V_aload_n (j := 1) dX12_shown_66 rfl rfl ?_
            refine V_iconst (v := (0 : Int32)) dX12_shown_67 (by decide) ?_
            refine V_iload_n (j := 2) dX12_shown_68 rfl rfl ?_
            refine V_iload (j := 0) dX12_shown_69 rfl ?_
            refine V_cVI (ctX12_shownOf hn hf) gc_X12_327 rfl h1.1 ⟨_, h1.2, by decide, rfl⟩ ⟨by decide, by decide, Nat.zero_le _, Nat.zero_le _⟩ (Nat.le_of_ble_eq_true rfl) dX12_shown_71 rfl hn (fun r24 z25 hf => ?_)
            refine V_goto (tgt := 108) dX12_shown_74 (by decide) ?_
            exact V_ireturn dX12_shown_108 rfl rfl (Nat.le_refl 0) (kI_of hf)
        · have hf := it_t (Classical.not_not.mp h27) hf
          refine V_bipush (v := (-2 : Int32)) dX12_shown_50 (by decide) ?_
          exact V_ireturn dX12_shown_52 rfl rfl (Nat.le_refl 0) (kI_of hf)
def wX12_person (n : Nat) (sh : Nat → Nat × Nat) (a0 : Nat) (x1 : Int32) (z : gS) (P : Int32 → gS → Prop) : Prop := (oO n sh a0 8) ∧ (∀ z2 : gS, z2 = si z a0 0 (0 : Int32) → (wX12_isPerson n sh a0 x1 z2 (fun (r3 : Int32) (z4 : gS) => if r3 = 0 then P (-1 : Int32) z4 else (∃ t5 : Nat, gr z4 a0 24 = some t5 ∧ ((oA n sh t5 1) ∧ ((vp_in ((1 : Int32) + x1) (sh t5).2) ∧ P (gi z4 t5 ((1 : Int32) + x1).toNatClampNeg) z4))))))
set_option maxRecDepth 100000 in
set_option maxHeartbeats 4000000 in
theorem ctX12_person {E : gE} {n : Nat} {sh : Nat → Nat × Nat} {a0 : Nat} {x1 : Int32} {z : gS} {P : Int32 → gS → Prop} (hn : gOK E n) (hf : wX12_person n sh a0 x1 z P) : VM E 2 0 gyX12_person [.ref a0, .int x1] n sh z (kI n sh P) := by
  unfold wX12_person at hf
  refine VM.of (by decide +kernel) (Nat.le_of_ble_eq_true rfl) (fun _ _ _ h => h.2.2) ?_
  show V E (gR 2 0) gyX12_person 0 0 0 [(0, .ref a0), (1, .int x1)] [] n sh z (kI n sh P)
  refine V_aload_n (j := 0) dX12_person_0 rfl rfl ?_
  refine V_iconst (v := (0 : Int32)) dX12_person_1 (by decide) ?_
  obtain ⟨h1, hf⟩ := hf
  refine V_putI fl_X12_1 rfl rfl rfl rfl h1.1 h1.2 dX12_person_2 ?_
  refine V_nz (fun z2 ez2 => ?_)
  have hf := hf z2 ez2
  refine V_aload_n (j := 0) dX12_person_5 rfl rfl ?_
  refine V_iload_n (j := 1) dX12_person_6 rfl rfl ?_
  refine V_cVI (ctX12_isPerson hn hf) gc_X12_343 rfl h1.1 ⟨_, h1.2, by decide, rfl⟩ ⟨by decide, by decide, Nat.zero_le _, Nat.zero_le _⟩ (Nat.le_of_ble_eq_true rfl) dX12_person_7 rfl hn (fun r3 z4 hf => ?_)
  refine V_if_eq (tgt := 24) dX12_person_10 (by decide) (fun h8 => ?_) (fun h8 => ?_)
  · have hf := it_t h8 hf
    refine V_iconst (v := (-1 : Int32)) dX12_person_24 (by decide) ?_
    exact V_ireturn dX12_person_25 rfl rfl (Nat.le_refl 0) (kI_of hf)
  · have hf := it_f h8 hf
    refine V_aload_n (j := 0) dX12_person_13 rfl rfl ?_
    obtain ⟨t5, et5, hf⟩ := hf
    refine V_getR fl_X12_119 rfl h1.1 h1.2 et5 dX12_person_14 ?_
    refine V_iconst (v := (1 : Int32)) dX12_person_17 (by decide) ?_
    refine V_iload_n (j := 1) dX12_person_18 rfl rfl ?_
    refine V_iadd dX12_person_19 ?_
    obtain ⟨h6, hf⟩ := hf
    obtain ⟨h7, hf⟩ := hf
    refine V_iald h6.1 h6.s h7 dX12_person_20 ?_
    refine V_goto (tgt := 25) dX12_person_21 (by decide) ?_
    exact V_ireturn dX12_person_25 rfl rfl (Nat.le_refl 0) (kI_of hf)
def wX12_mayWalk_J36 (n : Nat) (sh : Nat → Nat × Nat) (P : Int32 → gS → Prop) (z : gS) : Prop := P (1 : Int32) z
set_option maxRecDepth 100000 in
set_option maxHeartbeats 4000000 in
theorem vX12_mayWalk_J36 {E : gE} {n : Nat} {sh : Nat → Nat × Nat} {P : Int32 → gS → Prop} {z : gS} (hn : gOK E n) (hf : wX12_mayWalk_J36 n sh P z) : V E (gR 1 0) gyX12_mayWalk 0 0 36 [] [] n sh z (kI n sh P) := by
  unfold wX12_mayWalk_J36 at hf
  refine V_iconst (v := (1 : Int32)) dX12_mayWalk_36 (by decide) ?_
  refine V_goto (tgt := 41) dX12_mayWalk_37 (by decide) ?_
  exact V_ireturn dX12_mayWalk_41 rfl (by decide) (Nat.le_refl 0) (kI_of hf)
def wX12_mayWalk (n : Nat) (sh : Nat → Nat × Nat) (a0 : Nat) (x1 : Int32) (x2 : Int32) (x3 : Int32) (z : gS) (P : Int32 → gS → Prop) : Prop := (oO n sh a0 8) ∧ (∃ t2 : Nat, gr z a0 24 = some t2 ∧ ((oA n sh t2 1) ∧ ((vp_in ((x1 + (1 : Int32)) + x2) (sh t2).2) ∧ (∀ v5 : Int32, v5 = (x3 - (gi z t2 ((x1 + (1 : Int32)) + x2).toNatClampNeg)) → (wX12_within n sh x3 (0 : Int32) (9 : Int32) z (fun (r6 : Int32) (z7 : gS) => if r6 = 0 then P (0 : Int32) z7 else (if v5 = (1 : Int32) then wX12_mayWalk_J36 n sh P  z7 else (if v5 = (-1 : Int32) then wX12_mayWalk_J36 n sh P  z7 else P (0 : Int32) z7))))))))
set_option maxRecDepth 100000 in
set_option maxHeartbeats 4000000 in
theorem ctX12_mayWalk {E : gE} {n : Nat} {sh : Nat → Nat × Nat} {a0 : Nat} {x1 : Int32} {x2 : Int32} {x3 : Int32} {z : gS} {P : Int32 → gS → Prop} (hn : gOK E n) (hf : wX12_mayWalk n sh a0 x1 x2 x3 z P) : VM E 1 0 gyX12_mayWalk [.ref a0, .int x1, .int x2, .int x3] n sh z (kI n sh P) := by
  unfold wX12_mayWalk at hf
  refine VM.of (by decide +kernel) (Nat.le_of_ble_eq_true rfl) (fun _ _ _ h => h.2.2) ?_
  show V E (gR 1 0) gyX12_mayWalk 0 0 0 [(0, .ref a0), (1, .int x1), (2, .int x2), (3, .int x3)] [] n sh z (kI n sh P)
  refine V_iload_n (j := 3) dX12_mayWalk_0 rfl rfl ?_
  refine V_aload_n (j := 0) dX12_mayWalk_1 rfl rfl ?_
  obtain ⟨h1, hf⟩ := hf
  obtain ⟨t2, et2, hf⟩ := hf
  refine V_getR fl_X12_119 rfl h1.1 h1.2 et2 dX12_mayWalk_2 ?_
  refine V_iload_n (j := 1) dX12_mayWalk_5 rfl rfl ?_
  refine V_iconst (v := (1 : Int32)) dX12_mayWalk_6 (by decide) ?_
  refine V_iadd dX12_mayWalk_7 ?_
  refine V_iload_n (j := 2) dX12_mayWalk_8 rfl rfl ?_
  refine V_iadd dX12_mayWalk_9 ?_
  obtain ⟨h3, hf⟩ := hf
  obtain ⟨h4, hf⟩ := hf
  refine V_iald h3.1 h3.s h4 dX12_mayWalk_10 ?_
  refine V_isub dX12_mayWalk_11 ?_
  refine V_nI (fun v5 ev5 => ?_)
  have hf := hf v5 ev5
  refine V_istore (ls2 := [(4, .int v5), (0, .ref a0), (1, .int x1), (2, .int x2), (3, .int x3)]) dX12_mayWalk_12 (by decide) rfl ?_
  refine V_iload_n (j := 4) dX12_mayWalk_14 rfl rfl ?_
  refine V_iconst (v := (0 : Int32)) dX12_mayWalk_15 (by decide) ?_
  refine V_bipush (v := (9 : Int32)) dX12_mayWalk_16 (by decide) ?_
  refine V_cSI (ctX12_within hn hf) gc_X12_198 rfl ⟨by decide, by decide, Nat.zero_le _, Nat.zero_le _⟩ (Nat.le_of_ble_eq_true rfl) dX12_mayWalk_18 rfl hn (fun r6 z7 hf => ?_)
  refine V_if_eq (tgt := 40) dX12_mayWalk_21 (by decide) (fun h10 => ?_) (fun h10 => ?_)
  · have hf := it_t h10 hf
    refine V_iconst (v := (0 : Int32)) dX12_mayWalk_40 (by decide) ?_
    exact V_ireturn dX12_mayWalk_41 rfl (by decide) (Nat.le_refl 0) (kI_of hf)
  · have hf := it_f h10 hf
    refine V_iload (j := 0) dX12_mayWalk_24 rfl ?_
    refine V_iconst (v := (1 : Int32)) dX12_mayWalk_26 (by decide) ?_
    refine V_icmp_eq (tgt := 36) dX12_mayWalk_27 (by decide) (fun h9 => ?_) (fun h9 => ?_)
    · have hf := it_t h9 hf
      refine V_to [] rfl ?_
      exact vX12_mayWalk_J36 hn hf
    · have hf := it_f h9 hf
      refine V_iload (j := 0) dX12_mayWalk_30 rfl ?_
      refine V_iconst (v := (-1 : Int32)) dX12_mayWalk_32 (by decide) ?_
      refine V_icmp_ne (tgt := 40) dX12_mayWalk_33 (by decide) (fun h8 => ?_) (fun h8 => ?_)
      · have hf := it_f h8 hf
        refine V_iconst (v := (0 : Int32)) dX12_mayWalk_40 (by decide) ?_
        exact V_ireturn dX12_mayWalk_41 rfl (by decide) (Nat.le_refl 0) (kI_of hf)
      · have hf := it_t (Classical.not_not.mp h8) hf
        refine V_to [] rfl ?_
        exact vX12_mayWalk_J36 hn hf
def wX12_walk (n : Nat) (sh : Nat → Nat × Nat) (a0 : Nat) (x1 : Int32) (x2 : Int32) (z : gS) (P : Int32 → gS → Prop) : Prop := (oO n sh a0 8) ∧ (∀ z2 : gS, z2 = si z a0 0 (0 : Int32) → (wX12_isPerson n sh a0 x1 z2 (fun (r3 : Int32) (z4 : gS) => if r3 = 0 then P (0 : Int32) z4 else (wX12_mayWalk n sh a0 (0 : Int32) x1 x2 z4 (fun (r5 : Int32) (z6 : gS) => if r5 = 0 then P (0 : Int32) z6 else (wX12_keeps n sh a0 z6 (fun (z8 : gS) => ∃ t9 : Nat, gr z8 a0 24 = some t9 ∧ ((oA n sh t9 1) ∧ ((vp_in ((1 : Int32) + x1) (sh t9).2) ∧ (∀ z12 : gS, z12 = si z8 t9 ((1 : Int32) + x1).toNatClampNeg x2 → P (1 : Int32) z12))))))))))
set_option maxRecDepth 100000 in
set_option maxHeartbeats 4000000 in
theorem ctX12_walk {E : gE} {n : Nat} {sh : Nat → Nat × Nat} {a0 : Nat} {x1 : Int32} {x2 : Int32} {z : gS} {P : Int32 → gS → Prop} (hn : gOK E n) (hf : wX12_walk n sh a0 x1 x2 z P) : VM E 2 0 gyX12_walk [.ref a0, .int x1, .int x2] n sh z (kI n sh P) := by
  unfold wX12_walk at hf
  refine VM.of (by decide +kernel) (Nat.le_of_ble_eq_true rfl) (fun _ _ _ h => h.2.2) ?_
  show V E (gR 2 0) gyX12_walk 0 0 0 [(0, .ref a0), (1, .int x1), (2, .int x2)] [] n sh z (kI n sh P)
  refine V_aload_n (j := 0) dX12_walk_0 rfl rfl ?_
  refine V_iconst (v := (0 : Int32)) dX12_walk_1 (by decide) ?_
  obtain ⟨h1, hf⟩ := hf
  refine V_putI fl_X12_1 rfl rfl rfl rfl h1.1 h1.2 dX12_walk_2 ?_
  refine V_nz (fun z2 ez2 => ?_)
  have hf := hf z2 ez2
  refine V_aload_n (j := 0) dX12_walk_5 rfl rfl ?_
  refine V_iload_n (j := 1) dX12_walk_6 rfl rfl ?_
  refine V_cVI (ctX12_isPerson hn hf) gc_X12_343 rfl h1.1 ⟨_, h1.2, by decide, rfl⟩ ⟨by decide, by decide, Nat.zero_le _, Nat.zero_le _⟩ (Nat.le_of_ble_eq_true rfl) dX12_walk_7 rfl hn (fun r3 z4 hf => ?_)
  refine V_if_eq (tgt := 23) dX12_walk_10 (by decide) (fun h14 => ?_) (fun h14 => ?_)
  · have hf := it_t h14 hf
    refine V_iconst (v := (0 : Int32)) dX12_walk_23 (by decide) ?_
    exact V_ireturn dX12_walk_24 rfl (by decide) (Nat.le_refl 0) (kI_of hf)
  · have hf := it_f h14 hf
    refine V_aload_n (j := 0) dX12_walk_13 rfl rfl ?_
    refine V_iconst (v := (0 : Int32)) dX12_walk_14 (by decide) ?_
    refine V_iload_n (j := 1) dX12_walk_15 rfl rfl ?_
    refine V_iload_n (j := 2) dX12_walk_16 rfl rfl ?_
    refine V_cVI (ctX12_mayWalk hn hf) gc_X12_346 rfl h1.1 ⟨_, h1.2, by decide, rfl⟩ ⟨by decide, by decide, Nat.zero_le _, Nat.zero_le _⟩ (Nat.le_of_ble_eq_true rfl) dX12_walk_17 rfl hn (fun r5 z6 hf => ?_)
    refine V_if_ne (tgt := 25) dX12_walk_20 (by decide) (fun h13 => ?_) (fun h13 => ?_)
    · have hf := it_f h13 hf
      refine V_aload_n (j := 0) dX12_walk_25 rfl rfl ?_
      refine V_cVN (ctX12_keeps hn hf) gc_X12_349 rfl h1.1 ⟨_, h1.2, by decide, rfl⟩ ⟨by decide, by decide, Nat.zero_le _, Nat.zero_le _⟩ (Nat.le_of_ble_eq_true rfl) dX12_walk_26 rfl hn (fun z8 hf => ?_)
      refine V_aload_n (j := 0) dX12_walk_29 rfl rfl ?_
      obtain ⟨t9, et9, hf⟩ := hf
      refine V_getR fl_X12_119 rfl h1.1 h1.2 et9 dX12_walk_30 ?_
      refine V_iconst (v := (1 : Int32)) dX12_walk_33 (by decide) ?_
      refine V_iload_n (j := 1) dX12_walk_34 rfl rfl ?_
      refine V_iadd dX12_walk_35 ?_
      refine V_iload_n (j := 2) dX12_walk_36 rfl rfl ?_
      obtain ⟨h10, hf⟩ := hf
      obtain ⟨h11, hf⟩ := hf
      refine V_iast h10.1 h10.s h11 dX12_walk_37 ?_
      refine V_nz (fun z12 ez12 => ?_)
      have hf := hf z12 ez12
      refine V_iconst (v := (1 : Int32)) dX12_walk_38 (by decide) ?_
      exact V_ireturn dX12_walk_39 rfl (by decide) (Nat.le_refl 0) (kI_of hf)
    · have hf := it_t (Classical.not_not.mp h13) hf
      refine V_iconst (v := (0 : Int32)) dX12_walk_23 (by decide) ?_
      exact V_ireturn dX12_walk_24 rfl (by decide) (Nat.le_refl 0) (kI_of hf)
def wX12_does_ (n : Nat) (sh : Nat → Nat × Nat) (a0 : Nat) (x1 : Int32) (x2 : Int32) (z : gS) (P : Int32 → gS → Prop) : Prop := (oO n sh a0 8) ∧ (∀ z2 : gS, z2 = si z a0 0 (0 : Int32) → (wX12_isPerson n sh a0 x1 z2 (fun (r3 : Int32) (z4 : gS) => if r3 = 0 then P (-1 : Int32) z4 else (wX12_isDeed n sh a0 x2 z4 (fun (r5 : Int32) (z6 : gS) => if r5 = 0 then P (-1 : Int32) z6 else (wX12_keeps n sh a0 z6 (fun (z8 : gS) => ∃ t9 : Nat, gr z8 a0 24 = some t9 ∧ ((oA n sh t9 1) ∧ ((vp_in ((1 : Int32) + x1) (sh t9).2) ∧ (wX12_does n sh a0 (0 : Int32) x1 x2 (gi z8 t9 ((1 : Int32) + x1).toNatClampNeg) z8 (fun (r12 : Int32) (z13 : gS) => P r12 z13)))))))))))
set_option maxRecDepth 100000 in
set_option maxHeartbeats 4000000 in
theorem ctX12_does_ {E : gE} {n : Nat} {sh : Nat → Nat × Nat} {a0 : Nat} {x1 : Int32} {x2 : Int32} {z : gS} {P : Int32 → gS → Prop} (hn : gOK E n) (hf : wX12_does_ n sh a0 x1 x2 z P) : VM E 5 0 gyX12_does_ [.ref a0, .int x1, .int x2] n sh z (kI n sh P) := by
  unfold wX12_does_ at hf
  refine VM.of (by decide +kernel) (Nat.le_of_ble_eq_true rfl) (fun _ _ _ h => h.2.2) ?_
  show V E (gR 5 0) gyX12_does_ 0 0 0 [(0, .ref a0), (1, .int x1), (2, .int x2)] [] n sh z (kI n sh P)
  refine V_aload_n (j := 0) dX12_does__0 rfl rfl ?_
  refine V_iconst (v := (0 : Int32)) dX12_does__1 (by decide) ?_
  obtain ⟨h1, hf⟩ := hf
  refine V_putI fl_X12_1 rfl rfl rfl rfl h1.1 h1.2 dX12_does__2 ?_
  refine V_nz (fun z2 ez2 => ?_)
  have hf := hf z2 ez2
  refine V_aload_n (j := 0) dX12_does__5 rfl rfl ?_
  refine V_iload_n (j := 1) dX12_does__6 rfl rfl ?_
  refine V_cVI (ctX12_isPerson hn hf) gc_X12_343 rfl h1.1 ⟨_, h1.2, by decide, rfl⟩ ⟨by decide, by decide, Nat.zero_le _, Nat.zero_le _⟩ (Nat.le_of_ble_eq_true rfl) dX12_does__7 rfl hn (fun r3 z4 hf => ?_)
  refine V_if_eq (tgt := 21) dX12_does__10 (by decide) (fun h15 => ?_) (fun h15 => ?_)
  · have hf := it_t h15 hf
    refine V_iconst (v := (-1 : Int32)) dX12_does__21 (by decide) ?_
    exact V_ireturn dX12_does__22 rfl rfl (Nat.le_refl 0) (kI_of hf)
  · have hf := it_f h15 hf
    refine V_aload_n (j := 0) dX12_does__13 rfl rfl ?_
    refine V_iload_n (j := 2) dX12_does__14 rfl rfl ?_
    refine V_cVI (ctX12_isDeed hn hf) gc_X12_352 rfl h1.1 ⟨_, h1.2, by decide, rfl⟩ ⟨by decide, by decide, Nat.zero_le _, Nat.zero_le _⟩ (Nat.le_of_ble_eq_true rfl) dX12_does__15 rfl hn (fun r5 z6 hf => ?_)
    refine V_if_ne (tgt := 23) dX12_does__18 (by decide) (fun h14 => ?_) (fun h14 => ?_)
    · have hf := it_f h14 hf
      refine V_aload_n (j := 0) dX12_does__23 rfl rfl ?_
      refine V_cVN (ctX12_keeps hn hf) gc_X12_349 rfl h1.1 ⟨_, h1.2, by decide, rfl⟩ ⟨by decide, by decide, Nat.zero_le _, Nat.zero_le _⟩ (Nat.le_of_ble_eq_true rfl) dX12_does__24 rfl hn (fun z8 hf => ?_)
      refine V_aload_n (j := 0) dX12_does__27 rfl rfl ?_
      refine V_iconst (v := (0 : Int32)) dX12_does__28 (by decide) ?_
      refine V_iload_n (j := 1) dX12_does__29 rfl rfl ?_
      refine V_iload_n (j := 2) dX12_does__30 rfl rfl ?_
      refine V_aload_n (j := 0) dX12_does__31 rfl rfl ?_
      obtain ⟨t9, et9, hf⟩ := hf
      refine V_getR fl_X12_119 rfl h1.1 h1.2 et9 dX12_does__32 ?_
      refine V_iconst (v := (1 : Int32)) dX12_does__35 (by decide) ?_
      refine V_iload_n (j := 1) dX12_does__36 rfl rfl ?_
      refine V_iadd dX12_does__37 ?_
      obtain ⟨h10, hf⟩ := hf
      obtain ⟨h11, hf⟩ := hf
      refine V_iald h10.1 h10.s h11 dX12_does__38 ?_
      refine V_cVI (ctX12_does hn hf) gc_X12_355 rfl h1.1 ⟨_, h1.2, by decide, rfl⟩ ⟨by decide, by decide, Nat.zero_le _, Nat.zero_le _⟩ (Nat.le_of_ble_eq_true rfl) dX12_does__39 rfl hn (fun r12 z13 hf => ?_)
      exact V_ireturn dX12_does__42 rfl rfl (Nat.le_refl 0) (kI_of hf)
    · have hf := it_t (Classical.not_not.mp h14) hf
      refine V_iconst (v := (-1 : Int32)) dX12_does__21 (by decide) ?_
      exact V_ireturn dX12_does__22 rfl rfl (Nat.le_refl 0) (kI_of hf)
def wX12_mayWash (n : Nat) (sh : Nat → Nat × Nat) (a0 : Nat) (x1 : Int32) (x2 : Int32) (z : gS) (P : Int32 → gS → Prop) : Prop := (oO n sh a0 8) ∧ (wX12_isWhole n sh a0 x1 x2 z (fun (r1 : Int32) (z2 : gS) => if r1 = 0 then P (0 : Int32) z2 else (∃ t4 : Nat, gr z2 a0 24 = some t4 ∧ ((oA n sh t4 1) ∧ ((vp_in ((x1 + (18 : Int32)) + x2) (sh t4).2) ∧ (if (gi z2 t4 ((x1 + (18 : Int32)) + x2).toNatClampNeg) ≤ 0 then P (0 : Int32) z2 else P (1 : Int32) z2))))))
set_option maxRecDepth 100000 in
set_option maxHeartbeats 4000000 in
theorem ctX12_mayWash {E : gE} {n : Nat} {sh : Nat → Nat × Nat} {a0 : Nat} {x1 : Int32} {x2 : Int32} {z : gS} {P : Int32 → gS → Prop} (hn : gOK E n) (hf : wX12_mayWash n sh a0 x1 x2 z P) : VM E 1 0 gyX12_mayWash [.ref a0, .int x1, .int x2] n sh z (kI n sh P) := by
  unfold wX12_mayWash at hf
  refine VM.of (by decide +kernel) (Nat.le_of_ble_eq_true rfl) (fun _ _ _ h => h.2.2) ?_
  show V E (gR 1 0) gyX12_mayWash 0 0 0 [(0, .ref a0), (1, .int x1), (2, .int x2)] [] n sh z (kI n sh P)
  refine V_aload_n (j := 0) dX12_mayWash_0 rfl rfl ?_
  refine V_iload_n (j := 1) dX12_mayWash_1 rfl rfl ?_
  refine V_iload_n (j := 2) dX12_mayWash_2 rfl rfl ?_
  obtain ⟨h3, hf⟩ := hf
  refine V_cVI (ctX12_isWhole hn hf) gc_X12_287 rfl h3.1 ⟨_, h3.2, by decide, rfl⟩ ⟨by decide, by decide, Nat.zero_le _, Nat.zero_le _⟩ (Nat.le_of_ble_eq_true rfl) dX12_mayWash_3 rfl hn (fun r1 z2 hf => ?_)
  refine V_if_eq (tgt := 27) dX12_mayWash_6 (by decide) (fun h8 => ?_) (fun h8 => ?_)
  · have hf := it_t h8 hf
    refine V_iconst (v := (0 : Int32)) dX12_mayWash_27 (by decide) ?_
    exact V_ireturn dX12_mayWash_28 rfl (by decide) (Nat.le_refl 0) (kI_of hf)
  · have hf := it_f h8 hf
    refine V_aload_n (j := 0) dX12_mayWash_9 rfl rfl ?_
    obtain ⟨t4, et4, hf⟩ := hf
    refine V_getR fl_X12_119 rfl h3.1 h3.2 et4 dX12_mayWash_10 ?_
    refine V_iload_n (j := 1) dX12_mayWash_13 rfl rfl ?_
    refine V_bipush (v := (18 : Int32)) dX12_mayWash_14 (by decide) ?_
    refine V_iadd dX12_mayWash_16 ?_
    refine V_iload_n (j := 2) dX12_mayWash_17 rfl rfl ?_
    refine V_iadd dX12_mayWash_18 ?_
    obtain ⟨h5, hf⟩ := hf
    obtain ⟨h6, hf⟩ := hf
    refine V_iald h5.1 h5.s h6 dX12_mayWash_19 ?_
    refine V_if_le (tgt := 27) dX12_mayWash_20 (by decide) (fun h7 => ?_) (fun h7 => ?_)
    · have hf := it_t h7 hf
      refine V_iconst (v := (0 : Int32)) dX12_mayWash_27 (by decide) ?_
      exact V_ireturn dX12_mayWash_28 rfl (by decide) (Nat.le_refl 0) (kI_of hf)
    · have hf := it_f h7 hf
      refine V_iconst (v := (1 : Int32)) dX12_mayWash_23 (by decide) ?_
      refine V_goto (tgt := 28) dX12_mayWash_24 (by decide) ?_
      exact V_ireturn dX12_mayWash_28 rfl (by decide) (Nat.le_refl 0) (kI_of hf)
def wX12_wash (n : Nat) (sh : Nat → Nat × Nat) (a0 : Nat) (x1 : Int32) (z : gS) (P : Int32 → gS → Prop) : Prop := (oO n sh a0 8) ∧ (∀ z2 : gS, z2 = si z a0 0 (0 : Int32) → (wX12_isPane n sh a0 x1 z2 (fun (r3 : Int32) (z4 : gS) => if r3 = 0 then P (-1 : Int32) z4 else (wX12_mayWash n sh a0 (0 : Int32) x1 z4 (fun (r5 : Int32) (z6 : gS) => if r5 = 0 then P (-1 : Int32) z6 else (wX12_keeps n sh a0 z6 (fun (z8 : gS) => ∃ t9 : Nat, gr z8 a0 24 = some t9 ∧ ((oA n sh t9 1) ∧ ((vp_in ((18 : Int32) + x1) (sh t9).2) ∧ ((vp_in ((18 : Int32) + x1) (sh t9).2) ∧ (∀ z13 : gS, z13 = si z8 t9 ((18 : Int32) + x1).toNatClampNeg ((gi z8 t9 ((18 : Int32) + x1).toNatClampNeg) - (1 : Int32)) → (∃ t14 : Nat, gr z13 a0 24 = some t14 ∧ ((oA n sh t14 1) ∧ ((vp_in ((18 : Int32) + x1) (sh t14).2) ∧ P (gi z13 t14 ((18 : Int32) + x1).toNatClampNeg) z13))))))))))))))
set_option maxRecDepth 100000 in
set_option maxHeartbeats 4000000 in
theorem ctX12_wash {E : gE} {n : Nat} {sh : Nat → Nat × Nat} {a0 : Nat} {x1 : Int32} {z : gS} {P : Int32 → gS → Prop} (hn : gOK E n) (hf : wX12_wash n sh a0 x1 z P) : VM E 2 0 gyX12_wash [.ref a0, .int x1] n sh z (kI n sh P) := by
  unfold wX12_wash at hf
  refine VM.of (by decide +kernel) (Nat.le_of_ble_eq_true rfl) (fun _ _ _ h => h.2.2) ?_
  show V E (gR 2 0) gyX12_wash 0 0 0 [(0, .ref a0), (1, .int x1)] [] n sh z (kI n sh P)
  refine V_aload_n (j := 0) dX12_wash_0 rfl rfl ?_
  refine V_iconst (v := (0 : Int32)) dX12_wash_1 (by decide) ?_
  obtain ⟨h1, hf⟩ := hf
  refine V_putI fl_X12_1 rfl rfl rfl rfl h1.1 h1.2 dX12_wash_2 ?_
  refine V_nz (fun z2 ez2 => ?_)
  have hf := hf z2 ez2
  refine V_aload_n (j := 0) dX12_wash_5 rfl rfl ?_
  refine V_iload_n (j := 1) dX12_wash_6 rfl rfl ?_
  refine V_cVI (ctX12_isPane hn hf) gc_X12_337 rfl h1.1 ⟨_, h1.2, by decide, rfl⟩ ⟨by decide, by decide, Nat.zero_le _, Nat.zero_le _⟩ (Nat.le_of_ble_eq_true rfl) dX12_wash_7 rfl hn (fun r3 z4 hf => ?_)
  refine V_if_eq (tgt := 22) dX12_wash_10 (by decide) (fun h18 => ?_) (fun h18 => ?_)
  · have hf := it_t h18 hf
    refine V_iconst (v := (-1 : Int32)) dX12_wash_22 (by decide) ?_
    exact V_ireturn dX12_wash_23 rfl rfl (Nat.le_refl 0) (kI_of hf)
  · have hf := it_f h18 hf
    refine V_aload_n (j := 0) dX12_wash_13 rfl rfl ?_
    refine V_iconst (v := (0 : Int32)) dX12_wash_14 (by decide) ?_
    refine V_iload_n (j := 1) dX12_wash_15 rfl rfl ?_
    refine V_cVI (ctX12_mayWash hn hf) gc_X12_358 rfl h1.1 ⟨_, h1.2, by decide, rfl⟩ ⟨by decide, by decide, Nat.zero_le _, Nat.zero_le _⟩ (Nat.le_of_ble_eq_true rfl) dX12_wash_16 rfl hn (fun r5 z6 hf => ?_)
    refine V_if_ne (tgt := 24) dX12_wash_19 (by decide) (fun h17 => ?_) (fun h17 => ?_)
    · have hf := it_f h17 hf
      refine V_aload_n (j := 0) dX12_wash_24 rfl rfl ?_
      refine V_cVN (ctX12_keeps hn hf) gc_X12_349 rfl h1.1 ⟨_, h1.2, by decide, rfl⟩ ⟨by decide, by decide, Nat.zero_le _, Nat.zero_le _⟩ (Nat.le_of_ble_eq_true rfl) dX12_wash_25 rfl hn (fun z8 hf => ?_)
      refine V_aload_n (j := 0) dX12_wash_28 rfl rfl ?_
      obtain ⟨t9, et9, hf⟩ := hf
      refine V_getR fl_X12_119 rfl h1.1 h1.2 et9 dX12_wash_29 ?_
      refine V_bipush (v := (18 : Int32)) dX12_wash_32 (by decide) ?_
      refine V_iload_n (j := 1) dX12_wash_34 rfl rfl ?_
      refine V_iadd dX12_wash_35 ?_
      refine V_dup2 dX12_wash_36 rfl rfl ?_
      obtain ⟨h10, hf⟩ := hf
      obtain ⟨h11, hf⟩ := hf
      refine V_iald h10.1 h10.s h11 dX12_wash_37 ?_
      refine V_iconst (v := (1 : Int32)) dX12_wash_38 (by decide) ?_
      refine V_isub dX12_wash_39 ?_
      obtain ⟨h12, hf⟩ := hf
      refine V_iast h10.1 h10.s h12 dX12_wash_40 ?_
      refine V_nz (fun z13 ez13 => ?_)
      have hf := hf z13 ez13
      refine V_aload_n (j := 0) dX12_wash_41 rfl rfl ?_
      obtain ⟨t14, et14, hf⟩ := hf
      refine V_getR fl_X12_119 rfl h1.1 h1.2 et14 dX12_wash_42 ?_
      refine V_bipush (v := (18 : Int32)) dX12_wash_45 (by decide) ?_
      refine V_iload_n (j := 1) dX12_wash_47 rfl rfl ?_
      refine V_iadd dX12_wash_48 ?_
      obtain ⟨h15, hf⟩ := hf
      obtain ⟨h16, hf⟩ := hf
      refine V_iald h15.1 h15.s h16 dX12_wash_49 ?_
      exact V_ireturn dX12_wash_50 rfl rfl (Nat.le_refl 0) (kI_of hf)
    · have hf := it_t (Classical.not_not.mp h17) hf
      refine V_iconst (v := (-1 : Int32)) dX12_wash_22 (by decide) ?_
      exact V_ireturn dX12_wash_23 rfl rfl (Nat.le_refl 0) (kI_of hf)
