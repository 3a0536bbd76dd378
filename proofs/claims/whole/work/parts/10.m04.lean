def wX12_hasSign_J20 (n : Nat) (sh : Nat → Nat × Nat) (P : Int32 → gS → Prop) (x2 : Int32) (s0 : Int32) (s1 : Int32) (s2 : Nat) (z : gS) : Prop := (oO n sh s2 8) ∧ (∀ z5 : gS, z5 = si z s2 7 (s1 + s0) → ((bo x2) ∧ P x2 z5))
set_option maxRecDepth 100000 in
set_option maxHeartbeats 4000000 in
theorem vX12_hasSign_J20 {E : gE} {n : Nat} {sh : Nat → Nat × Nat} {P : Int32 → gS → Prop} {x2 : Int32} {s0 : Int32} {s1 : Int32} {s2 : Nat} {z : gS} (hn : n ≤ 1000000) (hf : wX12_hasSign_J20 n sh P x2 s0 s1 s2 z) : V E (gR 1 0) gyX12_hasSign 0 0 20 [(2, .int x2)] [.int s0, .int s1, .ref s2] n sh z (kI n sh P) := by
  unfold wX12_hasSign_J20 at hf
  refine V_iadd dX12_hasSign_20 ?_
  obtain ⟨h4, hf⟩ := hf
  refine V_putI fl_X12_156 rfl rfl rfl rfl h4.1 h4.2 dX12_hasSign_21 ?_
  refine V_nz (fun z5 ez5 => ?_)
  have hf := hf z5 ez5
  refine V_iload_n (j := 0) dX12_hasSign_24 rfl rfl ?_
  exact V_ireturn dX12_hasSign_25 rfl hf.1 (Nat.le_refl 0) (kI_of hf.2)
def wX12_hasSign (n : Nat) (sh : Nat → Nat × Nat) (a0 : Nat) (x1 : Int32) (z : gS) (P : Int32 → gS → Prop) : Prop := (oO n sh a0 8) ∧ (wX12_isSign n sh a0 x1 z (fun (r1 : Int32) (z2 : gS) => if r1 = 0 then wX12_hasSign_J20 n sh P r1 (0 : Int32) (gi z2 a0 7) a0 z2 else wX12_hasSign_J20 n sh P r1 (1 : Int32) (gi z2 a0 7) a0 z2))
set_option maxRecDepth 100000 in
set_option maxHeartbeats 4000000 in
theorem ctX12_hasSign {E : gE} {n : Nat} {sh : Nat → Nat × Nat} {a0 : Nat} {x1 : Int32} {z : gS} {P : Int32 → gS → Prop} (hn : n ≤ 1000000) (hf : wX12_hasSign n sh a0 x1 z P) : VM E 1 0 gyX12_hasSign [.ref a0, .int x1] n sh z (kI n sh P) := by
  unfold wX12_hasSign at hf
  refine VM.of (by decide +kernel) (Nat.le_of_ble_eq_true rfl) ?_
  show V E (gR 1 0) gyX12_hasSign 0 0 0 [(0, .ref a0), (1, .int x1)] [] n sh z (kI n sh P)
  refine V_aload_n (j := 0) dX12_hasSign_0 rfl rfl ?_
  refine V_iload_n (j := 1) dX12_hasSign_1 rfl rfl ?_
  obtain ⟨h3, hf⟩ := hf
  refine V_cVI (ctX12_isSign hn hf) gc_X12_162 rfl h3.1 ⟨_, h3.2, by decide, rfl⟩ ⟨by decide, by decide, Nat.zero_le _, Nat.zero_le _⟩ (Nat.le_of_ble_eq_true rfl) dX12_hasSign_2 rfl hn (fun r1 z2 hf => ?_)
  refine V_istore_n (ls2 := [(2, .int r1), (0, .ref a0), (1, .int x1)]) dX12_hasSign_5 rfl (by decide) rfl ?_
  refine V_aload_n (j := 1) dX12_hasSign_6 rfl rfl ?_
  refine V_dup dX12_hasSign_7 rfl ?_
  refine V_getI fl_X12_156 rfl h3.1 h3.2 dX12_hasSign_8 ?_
  refine V_iload_n (j := 0) dX12_hasSign_11 rfl rfl ?_
  refine V_if_eq (tgt := 19) dX12_hasSign_12 (by decide) (fun h6 => ?_) (fun h6 => ?_)
  · have hf := it_t h6 hf
    refine V_iconst (v := (0 : Int32)) dX12_hasSign_19 (by decide) ?_
    refine V_to [0] rfl ?_
    exact vX12_hasSign_J20 hn hf
  · have hf := it_f h6 hf
    refine V_iconst (v := (1 : Int32)) dX12_hasSign_15 (by decide) ?_
    refine V_goto (tgt := 20) dX12_hasSign_16 (by decide) ?_
    refine V_to [0] rfl ?_
    exact vX12_hasSign_J20 hn hf
def wX12_hasWord_J20 (n : Nat) (sh : Nat → Nat × Nat) (P : Int32 → gS → Prop) (x2 : Int32) (s0 : Int32) (s1 : Int32) (s2 : Nat) (z : gS) : Prop := (oO n sh s2 8) ∧ (∀ z5 : gS, z5 = si z s2 7 (s1 + s0) → ((bo x2) ∧ P x2 z5))
set_option maxRecDepth 100000 in
set_option maxHeartbeats 4000000 in
theorem vX12_hasWord_J20 {E : gE} {n : Nat} {sh : Nat → Nat × Nat} {P : Int32 → gS → Prop} {x2 : Int32} {s0 : Int32} {s1 : Int32} {s2 : Nat} {z : gS} (hn : n ≤ 1000000) (hf : wX12_hasWord_J20 n sh P x2 s0 s1 s2 z) : V E (gR 1 0) gyX12_hasWord 0 0 20 [(2, .int x2)] [.int s0, .int s1, .ref s2] n sh z (kI n sh P) := by
  unfold wX12_hasWord_J20 at hf
  refine V_iadd dX12_hasWord_20 ?_
  obtain ⟨h4, hf⟩ := hf
  refine V_putI fl_X12_156 rfl rfl rfl rfl h4.1 h4.2 dX12_hasWord_21 ?_
  refine V_nz (fun z5 ez5 => ?_)
  have hf := hf z5 ez5
  refine V_iload_n (j := 0) dX12_hasWord_24 rfl rfl ?_
  exact V_ireturn dX12_hasWord_25 rfl hf.1 (Nat.le_refl 0) (kI_of hf.2)
def wX12_hasWord (n : Nat) (sh : Nat → Nat × Nat) (a0 : Nat) (x1 : Int32) (z : gS) (P : Int32 → gS → Prop) : Prop := (oO n sh a0 8) ∧ (wX12_isWord n sh a0 x1 z (fun (r1 : Int32) (z2 : gS) => if r1 = 0 then wX12_hasWord_J20 n sh P r1 (0 : Int32) (gi z2 a0 7) a0 z2 else wX12_hasWord_J20 n sh P r1 (1 : Int32) (gi z2 a0 7) a0 z2))
set_option maxRecDepth 100000 in
set_option maxHeartbeats 4000000 in
theorem ctX12_hasWord {E : gE} {n : Nat} {sh : Nat → Nat × Nat} {a0 : Nat} {x1 : Int32} {z : gS} {P : Int32 → gS → Prop} (hn : n ≤ 1000000) (hf : wX12_hasWord n sh a0 x1 z P) : VM E 1 0 gyX12_hasWord [.ref a0, .int x1] n sh z (kI n sh P) := by
  unfold wX12_hasWord at hf
  refine VM.of (by decide +kernel) (Nat.le_of_ble_eq_true rfl) ?_
  show V E (gR 1 0) gyX12_hasWord 0 0 0 [(0, .ref a0), (1, .int x1)] [] n sh z (kI n sh P)
  refine V_aload_n (j := 0) dX12_hasWord_0 rfl rfl ?_
  refine V_iload_n (j := 1) dX12_hasWord_1 rfl rfl ?_
  obtain ⟨h3, hf⟩ := hf
  refine V_cVI (ctX12_isWord hn hf) gc_X12_168 rfl h3.1 ⟨_, h3.2, by decide, rfl⟩ ⟨by decide, by decide, Nat.zero_le _, Nat.zero_le _⟩ (Nat.le_of_ble_eq_true rfl) dX12_hasWord_2 rfl hn (fun r1 z2 hf => ?_)
  refine V_istore_n (ls2 := [(2, .int r1), (0, .ref a0), (1, .int x1)]) dX12_hasWord_5 rfl (by decide) rfl ?_
  refine V_aload_n (j := 1) dX12_hasWord_6 rfl rfl ?_
  refine V_dup dX12_hasWord_7 rfl ?_
  refine V_getI fl_X12_156 rfl h3.1 h3.2 dX12_hasWord_8 ?_
  refine V_iload_n (j := 0) dX12_hasWord_11 rfl rfl ?_
  refine V_if_eq (tgt := 19) dX12_hasWord_12 (by decide) (fun h6 => ?_) (fun h6 => ?_)
  · have hf := it_t h6 hf
    refine V_iconst (v := (0 : Int32)) dX12_hasWord_19 (by decide) ?_
    refine V_to [0] rfl ?_
    exact vX12_hasWord_J20 hn hf
  · have hf := it_f h6 hf
    refine V_iconst (v := (1 : Int32)) dX12_hasWord_15 (by decide) ?_
    refine V_goto (tgt := 20) dX12_hasWord_16 (by decide) ?_
    refine V_to [0] rfl ?_
    exact vX12_hasWord_J20 hn hf
def wX12_takeWord (n : Nat) (sh : Nat → Nat × Nat) (a0 : Nat) (x1 : Int32) (z : gS) (P : gS → Prop) : Prop := (oO n sh a0 8) ∧ (wX12_hasWord n sh a0 x1 z (fun (r1 : Int32) (z2 : gS) => if r1 = 0 then (wX12_wrong n sh a0 (1 : Int32) z2 (fun (z5 : gS) => P z5)) else P z2))
set_option maxRecDepth 100000 in
set_option maxHeartbeats 4000000 in
theorem ctX12_takeWord {E : gE} {n : Nat} {sh : Nat → Nat × Nat} {a0 : Nat} {x1 : Int32} {z : gS} {P : gS → Prop} (hn : n ≤ 1000000) (hf : wX12_takeWord n sh a0 x1 z P) : VM E 2 0 gyX12_takeWord [.ref a0, .int x1] n sh z (kN n sh P) := by
  unfold wX12_takeWord at hf
  refine VM.of (by decide +kernel) (Nat.le_of_ble_eq_true rfl) ?_
  show V E (gR 2 0) gyX12_takeWord 0 0 0 [(0, .ref a0), (1, .int x1)] [] n sh z (kN n sh P)
  refine V_aload_n (j := 0) dX12_takeWord_0 rfl rfl ?_
  refine V_iload_n (j := 1) dX12_takeWord_1 rfl rfl ?_
  obtain ⟨h3, hf⟩ := hf
  refine V_cVI (ctX12_hasWord hn hf) gc_X12_171 rfl h3.1 ⟨_, h3.2, by decide, rfl⟩ ⟨by decide, by decide, Nat.zero_le _, Nat.zero_le _⟩ (Nat.le_of_ble_eq_true rfl) dX12_takeWord_2 rfl hn (fun r1 z2 hf => ?_)
  refine V_if_ne (tgt := 13) dX12_takeWord_5 (by decide) (fun h6 => ?_) (fun h6 => ?_)
  · have hf := it_f h6 hf
    exact V_return dX12_takeWord_13 rfl (Nat.le_refl 0) (kN_of hf)
  · have hf := it_t (Classical.not_not.mp h6) hf
    refine V_aload_n (j := 0) dX12_takeWord_8 rfl rfl ?_
    refine V_iconst (v := (1 : Int32)) dX12_takeWord_9 (by decide) ?_
    refine V_cVN (ctX12_wrong hn hf) gc_X12_165 rfl h3.1 ⟨_, h3.2, by decide, rfl⟩ ⟨by decide, by decide, Nat.zero_le _, Nat.zero_le _⟩ (Nat.le_of_ble_eq_true rfl) dX12_takeWord_10 rfl hn (fun z5 hf => ?_)
    exact V_return dX12_takeWord_13 rfl (Nat.le_refl 0) (kN_of hf)
def wX12_within (n : Nat) (sh : Nat → Nat × Nat) (x0 : Int32) (x1 : Int32) (x2 : Int32) (z : gS) (P : Int32 → gS → Prop) : Prop := if x0 < x1 then P (0 : Int32) z else (if x2 < x0 then P (0 : Int32) z else P (1 : Int32) z)
set_option maxRecDepth 100000 in
set_option maxHeartbeats 4000000 in
theorem ctX12_within {E : gE} {n : Nat} {sh : Nat → Nat × Nat} {x0 : Int32} {x1 : Int32} {x2 : Int32} {z : gS} {P : Int32 → gS → Prop} (hn : n ≤ 1000000) (hf : wX12_within n sh x0 x1 x2 z P) : VM E 0 0 gyX12_within [.int x0, .int x1, .int x2] n sh z (kI n sh P) := by
  unfold wX12_within at hf
  refine VM.of (by decide +kernel) (Nat.le_of_ble_eq_true rfl) ?_
  show V E (gR 0 0) gyX12_within 0 0 0 [(0, .int x0), (1, .int x1), (2, .int x2)] [] n sh z (kI n sh P)
  refine V_iload_n (j := 0) dX12_within_0 rfl rfl ?_
  refine V_iload_n (j := 1) dX12_within_1 rfl rfl ?_
  refine V_icmp_lt (tgt := 14) dX12_within_2 (by decide) (fun h2 => ?_) (fun h2 => ?_)
  · have hf := it_t h2 hf
    refine V_iconst (v := (0 : Int32)) dX12_within_14 (by decide) ?_
    exact V_ireturn dX12_within_15 rfl (by decide) (Nat.le_refl 0) (kI_of hf)
  · have hf := it_f h2 hf
    refine V_iload_n (j := 0) dX12_within_5 rfl rfl ?_
    refine V_iload_n (j := 2) dX12_within_6 rfl rfl ?_
    refine V_icmp_gt (tgt := 14) dX12_within_7 (by decide) (fun h1 => ?_) (fun h1 => ?_)
    · have hf := it_t h1 hf
      refine V_iconst (v := (0 : Int32)) dX12_within_14 (by decide) ?_
      exact V_ireturn dX12_within_15 rfl (by decide) (Nat.le_refl 0) (kI_of hf)
    · have hf := it_f h1 hf
      refine V_iconst (v := (1 : Int32)) dX12_within_10 (by decide) ?_
      refine V_goto (tgt := 15) dX12_within_11 (by decide) ?_
      exact V_ireturn dX12_within_15 rfl (by decide) (Nat.le_refl 0) (kI_of hf)
def wX12_standsAsAlways_B2 (n : Nat) (sh : Nat → Nat × Nat) (k2 : Nat → Int32 → Int32 → gS → Prop) (P : gS → Prop) (a0 : Nat) (x1 : Int32) (x2 : Int32) (z : gS) : Prop := if (60 : Int32) ≤ x2 then ((oO n sh a0 8) ∧ (∃ t2 : Nat, gr z a0 10 = some t2 ∧ ((oA n sh t2 1) ∧ ((vp_in (x1 + (3 : Int32)) (sh t2).2) ∧ (∀ z5 : gS, z5 = si z t2 (x1 + (3 : Int32)).toNatClampNeg (1 : Int32) → (∃ t6 : Nat, gr z5 a0 10 = some t6 ∧ ((oA n sh t6 1) ∧ ((vp_in (x1 + (33 : Int32)) (sh t6).2) ∧ (∀ z9 : gS, z9 = si z5 t6 (x1 + (33 : Int32)).toNatClampNeg (1 : Int32) → (∃ t10 : Nat, gr z9 a0 10 = some t10 ∧ ((oA n sh t10 1) ∧ ((vp_in (x1 + (4 : Int32)) (sh t10).2) ∧ (∀ z13 : gS, z13 = si z9 t10 (x1 + (4 : Int32)).toNatClampNeg (-1 : Int32) → P z13))))))))))))) else ((oO n sh a0 8) ∧ (∃ t15 : Nat, gr z a0 10 = some t15 ∧ ((oA n sh t15 1) ∧ ((vp_in (x1 + x2) (sh t15).2) ∧ (∀ z18 : gS, z18 = si z t15 (x1 + x2).toNatClampNeg (0 : Int32) → (∀ v19 : Int32, v19 = x2 + (1 : Int32) → k2 a0 x1 v19 z18))))))
def wX12_standsAsAlways_L2 (n : Nat) (sh : Nat → Nat × Nat) (P : gS → Prop) : Nat → Nat → Int32 → Int32 → gS → Prop
  | 0, _, _, _, _ => False
  | N + 1, a0, x1, x2, z => wX12_standsAsAlways_B2 n sh (wX12_standsAsAlways_L2 n sh P N) P a0 x1 x2 z
set_option maxRecDepth 100000 in
set_option maxHeartbeats 4000000 in
theorem vX12_standsAsAlways_B2 {E : gE} {n : Nat} {sh : Nat → Nat × Nat} {P : gS → Prop} {k2 : Nat → Int32 → Int32 → gS → Prop} {a0 : Nat} {x1 : Int32} {x2 : Int32} {z : gS} (hn : n ≤ 1000000) (hk2 : ∀ (a0 : Nat) (x1 : Int32) (x2 : Int32) (z : gS), k2 a0 x1 x2 z → V E (gR 0 0) gyX12_standsAsAlways 0 0 2 [(0, .ref a0), (1, .int x1), (2, .int x2)] [] n sh z (kN n sh P)) (hf : wX12_standsAsAlways_B2 n sh k2 P a0 x1 x2 z) : V E (gR 0 0) gyX12_standsAsAlways 0 0 2 [(0, .ref a0), (1, .int x1), (2, .int x2)] [] n sh z (kN n sh P) := by
  unfold wX12_standsAsAlways_B2 at hf
  refine V_iload_n (j := 2) dX12_standsAsAlways_2 rfl rfl ?_
  refine V_bipush (v := (60 : Int32)) dX12_standsAsAlways_3 (by decide) ?_
  refine V_icmp_ge (tgt := 23) dX12_standsAsAlways_5 (by decide) (fun h20 => ?_) (fun h20 => ?_)
  · have hf := it_t h20 hf
    refine V_aload_n (j := 0) dX12_standsAsAlways_23 rfl rfl ?_
    obtain ⟨h1, hf⟩ := hf
    obtain ⟨t2, et2, hf⟩ := hf
    refine V_getR fl_X12_89 rfl h1.1 h1.2 et2 dX12_standsAsAlways_24 ?_
    refine V_iload_n (j := 1) dX12_standsAsAlways_27 rfl rfl ?_
    refine V_iconst (v := (3 : Int32)) dX12_standsAsAlways_28 (by decide) ?_
    refine V_iadd dX12_standsAsAlways_29 ?_
    refine V_iconst (v := (1 : Int32)) dX12_standsAsAlways_30 (by decide) ?_
    obtain ⟨h3, hf⟩ := hf
    obtain ⟨h4, hf⟩ := hf
    refine V_iast h3.1 h3.s h4 dX12_standsAsAlways_31 ?_
    refine V_nz (fun z5 ez5 => ?_)
    have hf := hf z5 ez5
    refine V_aload_n (j := 0) dX12_standsAsAlways_32 rfl rfl ?_
    obtain ⟨t6, et6, hf⟩ := hf
    refine V_getR fl_X12_89 rfl h1.1 h1.2 et6 dX12_standsAsAlways_33 ?_
    refine V_iload_n (j := 1) dX12_standsAsAlways_36 rfl rfl ?_
    refine V_bipush (v := (33 : Int32)) dX12_standsAsAlways_37 (by decide) ?_
    refine V_iadd dX12_standsAsAlways_39 ?_
    refine V_iconst (v := (1 : Int32)) dX12_standsAsAlways_40 (by decide) ?_
    obtain ⟨h7, hf⟩ := hf
    obtain ⟨h8, hf⟩ := hf
    refine V_iast h7.1 h7.s h8 dX12_standsAsAlways_41 ?_
    refine V_nz (fun z9 ez9 => ?_)
    have hf := hf z9 ez9
    refine V_aload_n (j := 0) dX12_standsAsAlways_42 rfl rfl ?_
    obtain ⟨t10, et10, hf⟩ := hf
    refine V_getR fl_X12_89 rfl h1.1 h1.2 et10 dX12_standsAsAlways_43 ?_
    refine V_iload_n (j := 1) dX12_standsAsAlways_46 rfl rfl ?_
    refine V_iconst (v := (4 : Int32)) dX12_standsAsAlways_47 (by decide) ?_
    refine V_iadd dX12_standsAsAlways_48 ?_
    refine V_iconst (v := (-1 : Int32)) dX12_standsAsAlways_49 (by decide) ?_
    obtain ⟨h11, hf⟩ := hf
    obtain ⟨h12, hf⟩ := hf
    refine V_iast h11.1 h11.s h12 dX12_standsAsAlways_50 ?_
    refine V_nz (fun z13 ez13 => ?_)
    have hf := hf z13 ez13
    exact V_return dX12_standsAsAlways_51 rfl (Nat.le_refl 0) (kN_of hf)
  · have hf := it_f h20 hf
    refine V_aload_n (j := 0) dX12_standsAsAlways_8 rfl rfl ?_
    obtain ⟨h14, hf⟩ := hf
    obtain ⟨t15, et15, hf⟩ := hf
    refine V_getR fl_X12_89 rfl h14.1 h14.2 et15 dX12_standsAsAlways_9 ?_
    refine V_iload_n (j := 1) dX12_standsAsAlways_12 rfl rfl ?_
    refine V_iload_n (j := 2) dX12_standsAsAlways_13 rfl rfl ?_
    refine V_iadd dX12_standsAsAlways_14 ?_
    refine V_iconst (v := (0 : Int32)) dX12_standsAsAlways_15 (by decide) ?_
    obtain ⟨h16, hf⟩ := hf
    obtain ⟨h17, hf⟩ := hf
    refine V_iast h16.1 h16.s h17 dX12_standsAsAlways_16 ?_
    refine V_nz (fun z18 ez18 => ?_)
    have hf := hf z18 ez18
    obtain ⟨v19, ev19⟩ : ∃ y : Int32, y = x2 + (1 : Int32) := ⟨_, rfl⟩
    refine V_iinc (j := 2) (v := v19) (ls2 := [(2, .int v19), (0, .ref a0), (1, .int x1)]) dX12_standsAsAlways_17 rfl (by rw [ev19]; rfl) (by decide) rfl ?_
    have hf := hf v19 ev19
    refine V_goto (tgt := 2) dX12_standsAsAlways_20 (by decide) ?_
    refine V_to [1, 2, 0] rfl ?_
    exact hk2 _ _ _ _ hf
set_option maxRecDepth 100000 in
set_option maxHeartbeats 4000000 in
theorem vX12_standsAsAlways_L2 {E : gE} {n : Nat} {sh : Nat → Nat × Nat} {P : gS → Prop} (hn : n ≤ 1000000) : ∀ (N : Nat) (a0 : Nat) (x1 : Int32) (x2 : Int32) (z : gS), wX12_standsAsAlways_L2 n sh P N a0 x1 x2 z → V E (gR 0 0) gyX12_standsAsAlways 0 0 2 [(0, .ref a0), (1, .int x1), (2, .int x2)] [] n sh z (kN n sh P) := by
  intro N
  induction N with
  | zero => intro a0 x1 x2 z hf; exact False.elim hf
  | succ N ih => intro a0 x1 x2 z hf; exact vX12_standsAsAlways_B2 hn ih hf
def wX12_standsAsAlways (n : Nat) (sh : Nat → Nat × Nat) (a0 : Nat) (x1 : Int32) (z : gS) (P : gS → Prop) : Prop := (∃ N, wX12_standsAsAlways_L2 n sh P N a0 x1 (0 : Int32) z)
set_option maxRecDepth 100000 in
set_option maxHeartbeats 4000000 in
theorem ctX12_standsAsAlways {E : gE} {n : Nat} {sh : Nat → Nat × Nat} {a0 : Nat} {x1 : Int32} {z : gS} {P : gS → Prop} (hn : n ≤ 1000000) (hf : wX12_standsAsAlways n sh a0 x1 z P) : VM E 0 0 gyX12_standsAsAlways [.ref a0, .int x1] n sh z (kN n sh P) := by
  unfold wX12_standsAsAlways at hf
  refine VM.of (by decide +kernel) (Nat.le_of_ble_eq_true rfl) ?_
  show V E (gR 0 0) gyX12_standsAsAlways 0 0 0 [(0, .ref a0), (1, .int x1)] [] n sh z (kN n sh P)
  refine V_iconst (v := (0 : Int32)) dX12_standsAsAlways_0 (by decide) ?_
  refine V_istore_n (ls2 := [(2, .int (0 : Int32)), (0, .ref a0), (1, .int x1)]) dX12_standsAsAlways_1 rfl (by decide) rfl ?_
  obtain ⟨N, hf⟩ := hf
  refine V_to [1, 2, 0] rfl ?_
  exact vX12_standsAsAlways_L2 hn N _ _ _ _ hf
def wX12_takeNumber_J70 (n : Nat) (sh : Nat → Nat × Nat) (P : Int32 → gS → Prop) (a0 : Nat) (z : gS) : Prop := (oO n sh a0 8) ∧ (if (gi z a0 8) ≤ 0 then (∀ z4 : gS, z4 = si z a0 7 ((gi z a0 7) + (1 : Int32)) → (∃ t5 : Nat, gr z4 a0 6 = some t5 ∧ ((oA n sh t5 2) ∧ ((vp_in ((gi z4 a0 7) - (1 : Int32)) (sh t5).2) ∧ P (gl z4 t5 ((gi z4 a0 7) - (1 : Int32)).toNatClampNeg).toInt32 z4)))) else P (0 : Int32) z)
set_option maxRecDepth 100000 in
set_option maxHeartbeats 4000000 in
theorem vX12_takeNumber_J70 {E : gE} {n : Nat} {sh : Nat → Nat × Nat} {P : Int32 → gS → Prop} {a0 : Nat} {z : gS} (hn : n ≤ 1000000) (hf : wX12_takeNumber_J70 n sh P a0 z) : V E (gR 1 0) gyX12_takeNumber 0 0 70 [(0, .ref a0)] [] n sh z (kI n sh P) := by
  unfold wX12_takeNumber_J70 at hf
  refine V_aload_n (j := 0) dX12_takeNumber_70 rfl rfl ?_
  obtain ⟨h3, hf⟩ := hf
  refine V_getI fl_X12_159 rfl h3.1 h3.2 dX12_takeNumber_71 ?_
  refine V_if_le (tgt := 79) dX12_takeNumber_74 (by decide) (fun h8 => ?_) (fun h8 => ?_)
  · have hf := it_t h8 hf
    refine V_aload_n (j := 0) dX12_takeNumber_79 rfl rfl ?_
    refine V_dup dX12_takeNumber_80 rfl ?_
    refine V_getI fl_X12_156 rfl h3.1 h3.2 dX12_takeNumber_81 ?_
    refine V_iconst (v := (1 : Int32)) dX12_takeNumber_84 (by decide) ?_
    refine V_iadd dX12_takeNumber_85 ?_
    refine V_putI fl_X12_156 rfl rfl rfl rfl h3.1 h3.2 dX12_takeNumber_86 ?_
    refine V_nz (fun z4 ez4 => ?_)
    have hf := hf z4 ez4
    refine V_aload_n (j := 0) dX12_takeNumber_89 rfl rfl ?_
    obtain ⟨t5, et5, hf⟩ := hf
    refine V_getR fl_X12_30 rfl h3.1 h3.2 et5 dX12_takeNumber_90 ?_
    refine V_aload_n (j := 0) dX12_takeNumber_93 rfl rfl ?_
    refine V_getI fl_X12_156 rfl h3.1 h3.2 dX12_takeNumber_94 ?_
    refine V_iconst (v := (1 : Int32)) dX12_takeNumber_97 (by decide) ?_
    refine V_isub dX12_takeNumber_98 ?_
    obtain ⟨h6, hf⟩ := hf
    obtain ⟨h7, hf⟩ := hf
    refine V_lald h6.1 h6.s h7 dX12_takeNumber_99 ?_
    refine V_l2i dX12_takeNumber_100 ?_
    exact V_ireturn dX12_takeNumber_101 rfl rfl (Nat.le_refl 0) (kI_of hf)
  · have hf := it_f h8 hf
    refine V_iconst (v := (0 : Int32)) dX12_takeNumber_77 (by decide) ?_
    exact V_ireturn dX12_takeNumber_78 rfl rfl (Nat.le_refl 0) (kI_of hf)
def wX12_takeNumber_J65 (n : Nat) (sh : Nat → Nat × Nat) (P : Int32 → gS → Prop) (a0 : Nat) (z : gS) : Prop := (oO n sh a0 8) ∧ (wX12_wrong n sh a0 (4 : Int32) z (fun (z13 : gS) => wX12_takeNumber_J70 n sh P a0 z13))
set_option maxRecDepth 100000 in
set_option maxHeartbeats 4000000 in
theorem vX12_takeNumber_J65 {E : gE} {n : Nat} {sh : Nat → Nat × Nat} {P : Int32 → gS → Prop} {a0 : Nat} {z : gS} (hn : n ≤ 1000000) (hf : wX12_takeNumber_J65 n sh P a0 z) : V E (gR 1 0) gyX12_takeNumber 0 0 65 [(0, .ref a0)] [] n sh z (kI n sh P) := by
  unfold wX12_takeNumber_J65 at hf
  refine V_aload_n (j := 0) dX12_takeNumber_65 rfl rfl ?_
  refine V_iconst (v := (4 : Int32)) dX12_takeNumber_66 (by decide) ?_
  obtain ⟨h14, hf⟩ := hf
  refine V_cVN (ctX12_wrong hn hf) gc_X12_165 rfl h14.1 ⟨_, h14.2, by decide, rfl⟩ ⟨by decide, by decide, Nat.zero_le _, Nat.zero_le _⟩ (Nat.le_of_ble_eq_true rfl) dX12_takeNumber_67 rfl hn (fun z13 hf => ?_)
  exact vX12_takeNumber_J70 hn hf
def wX12_takeNumber_J28 (n : Nat) (sh : Nat → Nat × Nat) (P : Int32 → gS → Prop) (a0 : Nat) (x1 : Int32) (x2 : Int32) (z : gS) : Prop := (oO n sh a0 8) ∧ (if (gi z a0 8) = 0 then (∃ t9 : Nat, gr z a0 6 = some t9 ∧ ((oA n sh t9 2) ∧ ((vp_in (gi z a0 7) (sh t9).2) ∧ (if (lg_cmp (gl z t9 (gi z a0 7).toNatClampNeg) x1.toInt64) < 0 then wX12_takeNumber_J65 n sh P a0 z else (∃ t15 : Nat, gr z a0 6 = some t15 ∧ ((oA n sh t15 2) ∧ ((vp_in (gi z a0 7) (sh t15).2) ∧ (if (lg_cmp (gl z t15 (gi z a0 7).toNatClampNeg) x2.toInt64) ≤ 0 then wX12_takeNumber_J70 n sh P a0 z else wX12_takeNumber_J65 n sh P a0 z)))))))) else wX12_takeNumber_J70 n sh P a0 z)
set_option maxRecDepth 100000 in
set_option maxHeartbeats 4000000 in
theorem vX12_takeNumber_J28 {E : gE} {n : Nat} {sh : Nat → Nat × Nat} {P : Int32 → gS → Prop} {a0 : Nat} {x1 : Int32} {x2 : Int32} {z : gS} (hn : n ≤ 1000000) (hf : wX12_takeNumber_J28 n sh P a0 x1 x2 z) : V E (gR 1 0) gyX12_takeNumber 0 0 28 [(0, .ref a0), (1, .int x1), (2, .int x2)] [] n sh z (kI n sh P) := by
  unfold wX12_takeNumber_J28 at hf
  refine V_aload_n (j := 0) dX12_takeNumber_28 rfl rfl ?_
  obtain ⟨h2, hf⟩ := hf
  refine V_getI fl_X12_159 rfl h2.1 h2.2 dX12_takeNumber_29 ?_
  refine V_if_ne (tgt := 70) dX12_takeNumber_32 (by decide) (fun h20 => ?_) (fun h20 => ?_)
  · have hf := it_f h20 hf
    refine V_to [0] rfl ?_
    exact vX12_takeNumber_J70 hn hf
  · have hf := it_t (Classical.not_not.mp h20) hf
    refine V_aload_n (j := 0) dX12_takeNumber_35 rfl rfl ?_
    obtain ⟨t9, et9, hf⟩ := hf
    refine V_getR fl_X12_30 rfl h2.1 h2.2 et9 dX12_takeNumber_36 ?_
    refine V_aload_n (j := 0) dX12_takeNumber_39 rfl rfl ?_
    refine V_getI fl_X12_156 rfl h2.1 h2.2 dX12_takeNumber_40 ?_
    obtain ⟨h10, hf⟩ := hf
    obtain ⟨h11, hf⟩ := hf
    refine V_lald h10.1 h10.s h11 dX12_takeNumber_43 ?_
    refine V_iload_n (j := 1) dX12_takeNumber_44 rfl rfl ?_
    refine V_i2l dX12_takeNumber_45 ?_
    refine V_lcmp dX12_takeNumber_46 ?_
    refine V_if_lt (tgt := 65) dX12_takeNumber_47 (by decide) (fun h19 => ?_) (fun h19 => ?_)
    · have hf := it_t h19 hf
      refine V_to [0] rfl ?_
      exact vX12_takeNumber_J65 hn hf
    · have hf := it_f h19 hf
      refine V_aload_n (j := 0) dX12_takeNumber_50 rfl rfl ?_
      obtain ⟨t15, et15, hf⟩ := hf
      refine V_getR fl_X12_30 rfl h2.1 h2.2 et15 dX12_takeNumber_51 ?_
      refine V_aload_n (j := 0) dX12_takeNumber_54 rfl rfl ?_
      refine V_getI fl_X12_156 rfl h2.1 h2.2 dX12_takeNumber_55 ?_
      obtain ⟨h16, hf⟩ := hf
      obtain ⟨h17, hf⟩ := hf
      refine V_lald h16.1 h16.s h17 dX12_takeNumber_58 ?_
      refine V_iload_n (j := 2) dX12_takeNumber_59 rfl rfl ?_
      refine V_i2l dX12_takeNumber_60 ?_
      refine V_lcmp dX12_takeNumber_61 ?_
      refine V_if_le (tgt := 70) dX12_takeNumber_62 (by decide) (fun h18 => ?_) (fun h18 => ?_)
      · have hf := it_t h18 hf
        refine V_to [0] rfl ?_
        exact vX12_takeNumber_J70 hn hf
      · have hf := it_f h18 hf
        refine V_to [0] rfl ?_
        exact vX12_takeNumber_J65 hn hf
def wX12_takeNumber (n : Nat) (sh : Nat → Nat × Nat) (a0 : Nat) (x1 : Int32) (x2 : Int32) (z : gS) (P : Int32 → gS → Prop) : Prop := (oO n sh a0 8) ∧ (if (gi z a0 8) = 0 then (∃ t21 : Nat, gr z a0 4 = some t21 ∧ ((oA n sh t21 1) ∧ ((vp_in (gi z a0 7) (sh t21).2) ∧ (if (gi z t21 (gi z a0 7).toNatClampNeg) = (2 : Int32) then wX12_takeNumber_J28 n sh P a0 x1 x2 z else (wX12_wrong n sh a0 (1 : Int32) z (fun (z25 : gS) => wX12_takeNumber_J70 n sh P a0 z25)))))) else wX12_takeNumber_J28 n sh P a0 x1 x2 z)
set_option maxRecDepth 100000 in
set_option maxHeartbeats 4000000 in
theorem ctX12_takeNumber {E : gE} {n : Nat} {sh : Nat → Nat × Nat} {a0 : Nat} {x1 : Int32} {x2 : Int32} {z : gS} {P : Int32 → gS → Prop} (hn : n ≤ 1000000) (hf : wX12_takeNumber n sh a0 x1 x2 z P) : VM E 1 0 gyX12_takeNumber [.ref a0, .int x1, .int x2] n sh z (kI n sh P) := by
  unfold wX12_takeNumber at hf
  refine VM.of (by decide +kernel) (Nat.le_of_ble_eq_true rfl) ?_
  show V E (gR 1 0) gyX12_takeNumber 0 0 0 [(0, .ref a0), (1, .int x1), (2, .int x2)] [] n sh z (kI n sh P)
  refine V_aload_n (j := 0) dX12_takeNumber_0 rfl rfl ?_
  obtain ⟨h1, hf⟩ := hf
  refine V_getI fl_X12_159 rfl h1.1 h1.2 dX12_takeNumber_1 ?_
  refine V_if_ne (tgt := 28) dX12_takeNumber_4 (by decide) (fun h27 => ?_) (fun h27 => ?_)
  · have hf := it_f h27 hf
    exact vX12_takeNumber_J28 hn hf
  · have hf := it_t (Classical.not_not.mp h27) hf
    refine V_aload_n (j := 0) dX12_takeNumber_7 rfl rfl ?_
    obtain ⟨t21, et21, hf⟩ := hf
    refine V_getR fl_X12_24 rfl h1.1 h1.2 et21 dX12_takeNumber_8 ?_
    refine V_aload_n (j := 0) dX12_takeNumber_11 rfl rfl ?_
    refine V_getI fl_X12_156 rfl h1.1 h1.2 dX12_takeNumber_12 ?_
    obtain ⟨h22, hf⟩ := hf
    obtain ⟨h23, hf⟩ := hf
    refine V_iald h22.1 h22.s h23 dX12_takeNumber_15 ?_
    refine V_iconst (v := (2 : Int32)) dX12_takeNumber_16 (by decide) ?_
    refine V_icmp_eq (tgt := 28) dX12_takeNumber_17 (by decide) (fun h26 => ?_) (fun h26 => ?_)
    · have hf := it_t h26 hf
      exact vX12_takeNumber_J28 hn hf
    · have hf := it_f h26 hf
      refine V_aload_n (j := 0) dX12_takeNumber_20 rfl rfl ?_
      refine V_iconst (v := (1 : Int32)) dX12_takeNumber_21 (by decide) ?_
      refine V_cVN (ctX12_wrong hn hf) gc_X12_165 rfl h1.1 ⟨_, h1.2, by decide, rfl⟩ ⟨by decide, by decide, Nat.zero_le _, Nat.zero_le _⟩ (Nat.le_of_ble_eq_true rfl) dX12_takeNumber_22 rfl hn (fun z25 hf => ?_)
      refine V_goto (tgt := 70) dX12_takeNumber_25 (by decide) ?_
      refine V_to [0] rfl ?_
      exact vX12_takeNumber_J70 hn hf
def wX12_takeAfter (n : Nat) (sh : Nat → Nat × Nat) (a0 : Nat) (x1 : Int32) (x2 : Int32) (x3 : Int32) (z : gS) (P : Int32 → gS → Prop) : Prop := (oO n sh a0 8) ∧ (wX12_takeWord n sh a0 x1 z (fun (z2 : gS) => wX12_takeNumber n sh a0 x2 x3 z2 (fun (r4 : Int32) (z5 : gS) => P r4 z5)))
set_option maxRecDepth 100000 in
set_option maxHeartbeats 4000000 in
theorem ctX12_takeAfter {E : gE} {n : Nat} {sh : Nat → Nat × Nat} {a0 : Nat} {x1 : Int32} {x2 : Int32} {x3 : Int32} {z : gS} {P : Int32 → gS → Prop} (hn : n ≤ 1000000) (hf : wX12_takeAfter n sh a0 x1 x2 x3 z P) : VM E 3 0 gyX12_takeAfter [.ref a0, .int x1, .int x2, .int x3] n sh z (kI n sh P) := by
  unfold wX12_takeAfter at hf
  refine VM.of (by decide +kernel) (Nat.le_of_ble_eq_true rfl) ?_
  show V E (gR 3 0) gyX12_takeAfter 0 0 0 [(0, .ref a0), (1, .int x1), (2, .int x2), (3, .int x3)] [] n sh z (kI n sh P)
  refine V_aload_n (j := 0) dX12_takeAfter_0 rfl rfl ?_
  refine V_iload_n (j := 1) dX12_takeAfter_1 rfl rfl ?_
  obtain ⟨h3, hf⟩ := hf
  refine V_cVN (ctX12_takeWord hn hf) gc_X12_174 rfl h3.1 ⟨_, h3.2, by decide, rfl⟩ ⟨by decide, by decide, Nat.zero_le _, Nat.zero_le _⟩ (Nat.le_of_ble_eq_true rfl) dX12_takeAfter_2 rfl hn (fun z2 hf => ?_)
  refine V_aload_n (j := 0) dX12_takeAfter_5 rfl rfl ?_
  refine V_iload_n (j := 2) dX12_takeAfter_6 rfl rfl ?_
  refine V_iload_n (j := 3) dX12_takeAfter_7 rfl rfl ?_
  refine V_cVI (ctX12_takeNumber hn hf) gc_X12_177 rfl h3.1 ⟨_, h3.2, by decide, rfl⟩ ⟨by decide, by decide, Nat.zero_le _, Nat.zero_le _⟩ (Nat.le_of_ble_eq_true rfl) dX12_takeAfter_8 rfl hn (fun r4 z5 hf => ?_)
  exact V_ireturn dX12_takeAfter_11 rfl rfl (Nat.le_refl 0) (kI_of hf)
def wX12_wordHere_J28 (n : Nat) (sh : Nat → Nat × Nat) (k5 : Nat → Int32 → Int32 → Int32 → Int32 → gS → Prop) (P : Int32 → gS → Prop) (a0 : Nat) (x1 : Int32) (x2 : Int32) (x4 : Int32) (s0 : Int32) (z : gS) : Prop := ∀ v4 : Int32, v4 = x4 + (1 : Int32) → k5 a0 x1 x2 s0 v4 z
set_option maxRecDepth 100000 in
set_option maxHeartbeats 4000000 in
theorem vX12_wordHere_J28 {E : gE} {n : Nat} {sh : Nat → Nat × Nat} {P : Int32 → gS → Prop} {k5 : Nat → Int32 → Int32 → Int32 → Int32 → gS → Prop} {a0 : Nat} {x1 : Int32} {x2 : Int32} {x4 : Int32} {s0 : Int32} {z : gS} (hn : n ≤ 1000000) (hk5 : ∀ (a0 : Nat) (x1 : Int32) (x2 : Int32) (x3 : Int32) (x4 : Int32) (z : gS), k5 a0 x1 x2 x3 x4 z → V E (gR 1 0) gyX12_wordHere 0 0 5 [(0, .ref a0), (1, .int x1), (2, .int x2), (3, .int x3), (4, .int x4)] [] n sh z (kI n sh P)) (hf : wX12_wordHere_J28 n sh k5 P a0 x1 x2 x4 s0 z) : V E (gR 1 0) gyX12_wordHere 0 0 28 [(0, .ref a0), (1, .int x1), (2, .int x2), (4, .int x4)] [.int s0] n sh z (kI n sh P) := by
  unfold wX12_wordHere_J28 at hf
  refine V_istore_n (ls2 := [(3, .int s0), (0, .ref a0), (1, .int x1), (2, .int x2), (4, .int x4)]) dX12_wordHere_28 rfl (by decide) rfl ?_
  obtain ⟨v4, ev4⟩ : ∃ y : Int32, y = x4 + (1 : Int32) := ⟨_, rfl⟩
  refine V_iinc (j := 4) (v := v4) (ls2 := [(4, .int v4), (3, .int s0), (0, .ref a0), (1, .int x1), (2, .int x2)]) dX12_wordHere_29 rfl (by rw [ev4]; rfl) (by decide) rfl ?_
  have hf := hf v4 ev4
  refine V_goto (tgt := 5) dX12_wordHere_32 (by decide) ?_
  refine V_to [2, 3, 4, 1, 0] rfl ?_
  exact hk5 _ _ _ _ _ _ hf
def wX12_wordHere_B5 (n : Nat) (sh : Nat → Nat × Nat) (k5 : Nat → Int32 → Int32 → Int32 → Int32 → gS → Prop) (P : Int32 → gS → Prop) (a0 : Nat) (x1 : Int32) (x2 : Int32) (x3 : Int32) (x4 : Int32) (z : gS) : Prop := if x2 ≤ x4 then P x3 z else ((oO n sh a0 8) ∧ (wX12_isWord n sh a0 (x1 + x4) z (fun (r1 : Int32) (z2 : gS) => if r1 = 0 then wX12_wordHere_J28 n sh k5 P a0 x1 x2 x4 x3 z2 else wX12_wordHere_J28 n sh k5 P a0 x1 x2 x4 x4 z2)))
def wX12_wordHere_L5 (n : Nat) (sh : Nat → Nat × Nat) (P : Int32 → gS → Prop) : Nat → Nat → Int32 → Int32 → Int32 → Int32 → gS → Prop
  | 0, _, _, _, _, _, _ => False
  | N + 1, a0, x1, x2, x3, x4, z => wX12_wordHere_B5 n sh (wX12_wordHere_L5 n sh P N) P a0 x1 x2 x3 x4 z
set_option maxRecDepth 100000 in
set_option maxHeartbeats 4000000 in
theorem vX12_wordHere_B5 {E : gE} {n : Nat} {sh : Nat → Nat × Nat} {P : Int32 → gS → Prop} {k5 : Nat → Int32 → Int32 → Int32 → Int32 → gS → Prop} {a0 : Nat} {x1 : Int32} {x2 : Int32} {x3 : Int32} {x4 : Int32} {z : gS} (hn : n ≤ 1000000) (hk5 : ∀ (a0 : Nat) (x1 : Int32) (x2 : Int32) (x3 : Int32) (x4 : Int32) (z : gS), k5 a0 x1 x2 x3 x4 z → V E (gR 1 0) gyX12_wordHere 0 0 5 [(0, .ref a0), (1, .int x1), (2, .int x2), (3, .int x3), (4, .int x4)] [] n sh z (kI n sh P)) (hf : wX12_wordHere_B5 n sh k5 P a0 x1 x2 x3 x4 z) : V E (gR 1 0) gyX12_wordHere 0 0 5 [(0, .ref a0), (1, .int x1), (2, .int x2), (3, .int x3), (4, .int x4)] [] n sh z (kI n sh P) := by
  unfold wX12_wordHere_B5 at hf
  refine V_iload (j := 4) dX12_wordHere_5 rfl ?_
  refine V_iload_n (j := 2) dX12_wordHere_7 rfl rfl ?_
  refine V_icmp_ge (tgt := 35) dX12_wordHere_8 (by decide) (fun h6 => ?_) (fun h6 => ?_)
  · have hf := it_t h6 hf
    refine V_iload_n (j := 3) dX12_wordHere_35 rfl rfl ?_
    exact V_ireturn dX12_wordHere_36 rfl rfl (Nat.le_refl 0) (kI_of hf)
  · have hf := it_f h6 hf
    refine V_aload_n (j := 0) dX12_wordHere_11 rfl rfl ?_
    refine V_iload_n (j := 1) dX12_wordHere_12 rfl rfl ?_
    refine V_iload (j := 4) dX12_wordHere_13 rfl ?_
    refine V_iadd dX12_wordHere_15 ?_
    obtain ⟨h3, hf⟩ := hf
    refine V_cVI (ctX12_isWord hn hf) gc_X12_168 rfl h3.1 ⟨_, h3.2, by decide, rfl⟩ ⟨by decide, by decide, Nat.zero_le _, Nat.zero_le _⟩ (Nat.le_of_ble_eq_true rfl) dX12_wordHere_16 rfl hn (fun r1 z2 hf => ?_)
    refine V_if_eq (tgt := 27) dX12_wordHere_19 (by decide) (fun h5 => ?_) (fun h5 => ?_)
    · have hf := it_t h5 hf
      refine V_iload_n (j := 3) dX12_wordHere_27 rfl rfl ?_
      refine V_to [0, 1, 2, 4] rfl ?_
      exact vX12_wordHere_J28 hn hk5 hf
    · have hf := it_f h5 hf
      refine V_iload (j := 4) dX12_wordHere_22 rfl ?_
      refine V_goto (tgt := 28) dX12_wordHere_24 (by decide) ?_
      refine V_to [0, 1, 2, 4] rfl ?_
      exact vX12_wordHere_J28 hn hk5 hf
set_option maxRecDepth 100000 in
set_option maxHeartbeats 4000000 in
theorem vX12_wordHere_L5 {E : gE} {n : Nat} {sh : Nat → Nat × Nat} {P : Int32 → gS → Prop} (hn : n ≤ 1000000) : ∀ (N : Nat) (a0 : Nat) (x1 : Int32) (x2 : Int32) (x3 : Int32) (x4 : Int32) (z : gS), wX12_wordHere_L5 n sh P N a0 x1 x2 x3 x4 z → V E (gR 1 0) gyX12_wordHere 0 0 5 [(0, .ref a0), (1, .int x1), (2, .int x2), (3, .int x3), (4, .int x4)] [] n sh z (kI n sh P) := by
  intro N
  induction N with
  | zero => intro a0 x1 x2 x3 x4 z hf; exact False.elim hf
  | succ N ih => intro a0 x1 x2 x3 x4 z hf; exact vX12_wordHere_B5 hn ih hf
def wX12_wordHere (n : Nat) (sh : Nat → Nat × Nat) (a0 : Nat) (x1 : Int32) (x2 : Int32) (z : gS) (P : Int32 → gS → Prop) : Prop := (∃ N, wX12_wordHere_L5 n sh P N a0 x1 x2 (-1 : Int32) (0 : Int32) z)
set_option maxRecDepth 100000 in
set_option maxHeartbeats 4000000 in
theorem ctX12_wordHere {E : gE} {n : Nat} {sh : Nat → Nat × Nat} {a0 : Nat} {x1 : Int32} {x2 : Int32} {z : gS} {P : Int32 → gS → Prop} (hn : n ≤ 1000000) (hf : wX12_wordHere n sh a0 x1 x2 z P) : VM E 1 0 gyX12_wordHere [.ref a0, .int x1, .int x2] n sh z (kI n sh P) := by
  unfold wX12_wordHere at hf
  refine VM.of (by decide +kernel) (Nat.le_of_ble_eq_true rfl) ?_
  show V E (gR 1 0) gyX12_wordHere 0 0 0 [(0, .ref a0), (1, .int x1), (2, .int x2)] [] n sh z (kI n sh P)
  refine V_iconst (v := (-1 : Int32)) dX12_wordHere_0 (by decide) ?_
  refine V_istore_n (ls2 := [(3, .int (-1 : Int32)), (0, .ref a0), (1, .int x1), (2, .int x2)]) dX12_wordHere_1 rfl (by decide) rfl ?_
  refine V_iconst (v := (0 : Int32)) dX12_wordHere_2 (by decide) ?_
  refine V_istore (ls2 := [(4, .int (0 : Int32)), (3, .int (-1 : Int32)), (0, .ref a0), (1, .int x1), (2, .int x2)]) dX12_wordHere_3 (by decide) rfl ?_
  obtain ⟨N, hf⟩ := hf
  refine V_to [2, 3, 4, 1, 0] rfl ?_
  exact vX12_wordHere_L5 hn N _ _ _ _ _ _ hf
def wX12_takeOne_J51 (n : Nat) (sh : Nat → Nat × Nat) (P : Int32 → gS → Prop) (a0 : Nat) (x3 : Int32) (s0 : Int32) (s1 : Int32) (s2 : Nat) (z : gS) : Prop := (oO n sh s2 8) ∧ (∀ z7 : gS, z7 = si z s2 7 (s1 + s0) → ((oO n sh a0 8) ∧ (if (gi z7 a0 8) ≤ 0 then P x3 z7 else P (0 : Int32) z7)))
set_option maxRecDepth 100000 in
set_option maxHeartbeats 4000000 in
theorem vX12_takeOne_J51 {E : gE} {n : Nat} {sh : Nat → Nat × Nat} {P : Int32 → gS → Prop} {a0 : Nat} {x3 : Int32} {s0 : Int32} {s1 : Int32} {s2 : Nat} {z : gS} (hn : n ≤ 1000000) (hf : wX12_takeOne_J51 n sh P a0 x3 s0 s1 s2 z) : V E (gR 2 0) gyX12_takeOne 0 0 51 [(0, .ref a0), (3, .int x3)] [.int s0, .int s1, .ref s2] n sh z (kI n sh P) := by
  unfold wX12_takeOne_J51 at hf
  refine V_iadd dX12_takeOne_51 ?_
  obtain ⟨h6, hf⟩ := hf
  refine V_putI fl_X12_156 rfl rfl rfl rfl h6.1 h6.2 dX12_takeOne_52 ?_
  refine V_nz (fun z7 ez7 => ?_)
  have hf := hf z7 ez7
  refine V_aload_n (j := 0) dX12_takeOne_55 rfl rfl ?_
  obtain ⟨h8, hf⟩ := hf
  refine V_getI fl_X12_159 rfl h8.1 h8.2 dX12_takeOne_56 ?_
  refine V_if_le (tgt := 66) dX12_takeOne_59 (by decide) (fun h9 => ?_) (fun h9 => ?_)
  · have hf := it_t h9 hf
    refine V_iload_n (j := 1) dX12_takeOne_66 rfl rfl ?_
    exact V_ireturn dX12_takeOne_67 rfl rfl (Nat.le_refl 0) (kI_of hf)
  · have hf := it_f h9 hf
    refine V_iconst (v := (0 : Int32)) dX12_takeOne_62 (by decide) ?_
    refine V_goto (tgt := 67) dX12_takeOne_63 (by decide) ?_
    exact V_ireturn dX12_takeOne_67 rfl rfl (Nat.le_refl 0) (kI_of hf)
def wX12_takeOne_J34 (n : Nat) (sh : Nat → Nat × Nat) (P : Int32 → gS → Prop) (a0 : Nat) (x3 : Int32) (z : gS) : Prop := (oO n sh a0 8) ∧ (if (gi z a0 8) ≤ 0 then wX12_takeOne_J51 n sh P a0 x3 (1 : Int32) (gi z a0 7) a0 z else wX12_takeOne_J51 n sh P a0 x3 (0 : Int32) (gi z a0 7) a0 z)
set_option maxRecDepth 100000 in
set_option maxHeartbeats 4000000 in
theorem vX12_takeOne_J34 {E : gE} {n : Nat} {sh : Nat → Nat × Nat} {P : Int32 → gS → Prop} {a0 : Nat} {x3 : Int32} {z : gS} (hn : n ≤ 1000000) (hf : wX12_takeOne_J34 n sh P a0 x3 z) : V E (gR 2 0) gyX12_takeOne 0 0 34 [(0, .ref a0), (3, .int x3)] [] n sh z (kI n sh P) := by
  unfold wX12_takeOne_J34 at hf
  refine V_aload_n (j := 0) dX12_takeOne_34 rfl rfl ?_
  refine V_dup dX12_takeOne_35 rfl ?_
  obtain ⟨h5, hf⟩ := hf
  refine V_getI fl_X12_156 rfl h5.1 h5.2 dX12_takeOne_36 ?_
  refine V_aload_n (j := 0) dX12_takeOne_39 rfl rfl ?_
  refine V_getI fl_X12_159 rfl h5.1 h5.2 dX12_takeOne_40 ?_
  refine V_if_le (tgt := 50) dX12_takeOne_43 (by decide) (fun h10 => ?_) (fun h10 => ?_)
  · have hf := it_t h10 hf
    refine V_iconst (v := (1 : Int32)) dX12_takeOne_50 (by decide) ?_
    exact vX12_takeOne_J51 hn hf
  · have hf := it_f h10 hf
    refine V_iconst (v := (0 : Int32)) dX12_takeOne_46 (by decide) ?_
    refine V_goto (tgt := 51) dX12_takeOne_47 (by decide) ?_
    exact vX12_takeOne_J51 hn hf
def wX12_takeOne_J17 (n : Nat) (sh : Nat → Nat × Nat) (P : Int32 → gS → Prop) (a0 : Nat) (s0 : Int32) (z : gS) : Prop := (oO n sh a0 8) ∧ (if (gi z a0 8) = 0 then (if 0 ≤ s0 then wX12_takeOne_J34 n sh P a0 s0 z else (wX12_wrong n sh a0 (1 : Int32) z (fun (z12 : gS) => wX12_takeOne_J34 n sh P a0 s0 z12))) else wX12_takeOne_J34 n sh P a0 s0 z)
set_option maxRecDepth 100000 in
set_option maxHeartbeats 4000000 in
theorem vX12_takeOne_J17 {E : gE} {n : Nat} {sh : Nat → Nat × Nat} {P : Int32 → gS → Prop} {a0 : Nat} {s0 : Int32} {z : gS} (hn : n ≤ 1000000) (hf : wX12_takeOne_J17 n sh P a0 s0 z) : V E (gR 2 0) gyX12_takeOne 0 0 17 [(0, .ref a0)] [.int s0] n sh z (kI n sh P) := by
  unfold wX12_takeOne_J17 at hf
  refine V_istore_n (ls2 := [(3, .int s0), (0, .ref a0)]) dX12_takeOne_17 rfl (by decide) rfl ?_
  refine V_aload_n (j := 1) dX12_takeOne_18 rfl rfl ?_
  obtain ⟨h4, hf⟩ := hf
  refine V_getI fl_X12_159 rfl h4.1 h4.2 dX12_takeOne_19 ?_
  refine V_if_ne (tgt := 34) dX12_takeOne_22 (by decide) (fun h14 => ?_) (fun h14 => ?_)
  · have hf := it_f h14 hf
    refine V_to [1, 0] rfl ?_
    exact vX12_takeOne_J34 hn hf
  · have hf := it_t (Classical.not_not.mp h14) hf
    refine V_iload_n (j := 0) dX12_takeOne_25 rfl rfl ?_
    refine V_if_ge (tgt := 34) dX12_takeOne_26 (by decide) (fun h13 => ?_) (fun h13 => ?_)
    · have hf := it_t h13 hf
      refine V_to [1, 0] rfl ?_
      exact vX12_takeOne_J34 hn hf
    · have hf := it_f h13 hf
      refine V_aload_n (j := 1) dX12_takeOne_29 rfl rfl ?_
      refine V_iconst (v := (1 : Int32)) dX12_takeOne_30 (by decide) ?_
      refine V_cVN (ctX12_wrong hn hf) gc_X12_165 rfl h4.1 ⟨_, h4.2, by decide, rfl⟩ ⟨by decide, by decide, Nat.zero_le _, Nat.zero_le _⟩ (Nat.le_of_ble_eq_true rfl) dX12_takeOne_31 rfl hn (fun z12 hf => ?_)
      refine V_to [1, 0] rfl ?_
      exact vX12_takeOne_J34 hn hf
def wX12_takeOne (n : Nat) (sh : Nat → Nat × Nat) (a0 : Nat) (x1 : Int32) (x2 : Int32) (z : gS) (P : Int32 → gS → Prop) : Prop := (oO n sh a0 8) ∧ (if (gi z a0 8) ≤ 0 then (wX12_wordHere n sh a0 x1 x2 z (fun (r2 : Int32) (z3 : gS) => wX12_takeOne_J17 n sh P a0 r2 z3)) else wX12_takeOne_J17 n sh P a0 (-1 : Int32) z)
set_option maxRecDepth 100000 in
set_option maxHeartbeats 4000000 in
theorem ctX12_takeOne {E : gE} {n : Nat} {sh : Nat → Nat × Nat} {a0 : Nat} {x1 : Int32} {x2 : Int32} {z : gS} {P : Int32 → gS → Prop} (hn : n ≤ 1000000) (hf : wX12_takeOne n sh a0 x1 x2 z P) : VM E 2 0 gyX12_takeOne [.ref a0, .int x1, .int x2] n sh z (kI n sh P) := by
  unfold wX12_takeOne at hf
  refine VM.of (by decide +kernel) (Nat.le_of_ble_eq_true rfl) ?_
  show V E (gR 2 0) gyX12_takeOne 0 0 0 [(0, .ref a0), (1, .int x1), (2, .int x2)] [] n sh z (kI n sh P)
  refine V_aload_n (j := 0) dX12_takeOne_0 rfl rfl ?_
  obtain ⟨h1, hf⟩ := hf
  refine V_getI fl_X12_159 rfl h1.1 h1.2 dX12_takeOne_1 ?_
  refine V_if_le (tgt := 11) dX12_takeOne_4 (by decide) (fun h15 => ?_) (fun h15 => ?_)
  · have hf := it_t h15 hf
    refine V_aload_n (j := 0) dX12_takeOne_11 rfl rfl ?_
    refine V_iload_n (j := 1) dX12_takeOne_12 rfl rfl ?_
    refine V_iload_n (j := 2) dX12_takeOne_13 rfl rfl ?_
    refine V_cVI (ctX12_wordHere hn hf) gc_X12_181 rfl h1.1 ⟨_, h1.2, by decide, rfl⟩ ⟨by decide, by decide, Nat.zero_le _, Nat.zero_le _⟩ (Nat.le_of_ble_eq_true rfl) dX12_takeOne_14 rfl hn (fun r2 z3 hf => ?_)
    refine V_to [0] rfl ?_
    exact vX12_takeOne_J17 hn hf
  · have hf := it_f h15 hf
    refine V_iconst (v := (-1 : Int32)) dX12_takeOne_7 (by decide) ?_
    refine V_goto (tgt := 17) dX12_takeOne_8 (by decide) ?_
    refine V_to [0] rfl ?_
    exact vX12_takeOne_J17 hn hf
def wX12_isName (n : Nat) (sh : Nat → Nat × Nat) (a0 : Nat) (z : gS) (P : Int32 → gS → Prop) : Prop := (oO n sh a0 8) ∧ (if (gi z a0 8) = 0 then (∃ t2 : Nat, gr z a0 4 = some t2 ∧ ((oA n sh t2 1) ∧ ((vp_in (gi z a0 7) (sh t2).2) ∧ (if (gi z t2 (gi z a0 7).toNatClampNeg) = (1 : Int32) then (wX12_wordHere n sh a0 (0 : Int32) (22 : Int32) z (fun (r5 : Int32) (z6 : gS) => if 0 ≤ r5 then P (0 : Int32) z6 else P (1 : Int32) z6)) else P (0 : Int32) z)))) else P (0 : Int32) z)
set_option maxRecDepth 100000 in
set_option maxHeartbeats 4000000 in
theorem ctX12_isName {E : gE} {n : Nat} {sh : Nat → Nat × Nat} {a0 : Nat} {z : gS} {P : Int32 → gS → Prop} (hn : n ≤ 1000000) (hf : wX12_isName n sh a0 z P) : VM E 2 0 gyX12_isName [.ref a0] n sh z (kI n sh P) := by
  unfold wX12_isName at hf
  refine VM.of (by decide +kernel) (Nat.le_of_ble_eq_true rfl) ?_
  show V E (gR 2 0) gyX12_isName 0 0 0 [(0, .ref a0)] [] n sh z (kI n sh P)
  refine V_aload_n (j := 0) dX12_isName_0 rfl rfl ?_
  obtain ⟨h1, hf⟩ := hf
  refine V_getI fl_X12_159 rfl h1.1 h1.2 dX12_isName_1 ?_
  refine V_if_ne (tgt := 34) dX12_isName_4 (by decide) (fun h9 => ?_) (fun h9 => ?_)
  · have hf := it_f h9 hf
    refine V_iconst (v := (0 : Int32)) dX12_isName_34 (by decide) ?_
    exact V_ireturn dX12_isName_35 rfl (by decide) (Nat.le_refl 0) (kI_of hf)
  · have hf := it_t (Classical.not_not.mp h9) hf
    refine V_aload_n (j := 0) dX12_isName_7 rfl rfl ?_
    obtain ⟨t2, et2, hf⟩ := hf
    refine V_getR fl_X12_24 rfl h1.1 h1.2 et2 dX12_isName_8 ?_
    refine V_aload_n (j := 0) dX12_isName_11 rfl rfl ?_
    refine V_getI fl_X12_156 rfl h1.1 h1.2 dX12_isName_12 ?_
    obtain ⟨h3, hf⟩ := hf
    obtain ⟨h4, hf⟩ := hf
    refine V_iald h3.1 h3.s h4 dX12_isName_15 ?_
    refine V_iconst (v := (1 : Int32)) dX12_isName_16 (by decide) ?_
    refine V_icmp_ne (tgt := 34) dX12_isName_17 (by decide) (fun h8 => ?_) (fun h8 => ?_)
    · have hf := it_f h8 hf
      refine V_iconst (v := (0 : Int32)) dX12_isName_34 (by decide) ?_
      exact V_ireturn dX12_isName_35 rfl (by decide) (Nat.le_refl 0) (kI_of hf)
    · have hf := it_t (Classical.not_not.mp h8) hf
      refine V_aload_n (j := 0) dX12_isName_20 rfl rfl ?_
      refine V_iconst (v := (0 : Int32)) dX12_isName_21 (by decide) ?_
      refine V_bipush (v := (22 : Int32)) dX12_isName_22 (by decide) ?_
      refine V_cVI (ctX12_wordHere hn hf) gc_X12_181 rfl h1.1 ⟨_, h1.2, by decide, rfl⟩ ⟨by decide, by decide, Nat.zero_le _, Nat.zero_le _⟩ (Nat.le_of_ble_eq_true rfl) dX12_isName_24 rfl hn (fun r5 z6 hf => ?_)
      refine V_if_ge (tgt := 34) dX12_isName_27 (by decide) (fun h7 => ?_) (fun h7 => ?_)
      · have hf := it_t h7 hf
        refine V_iconst (v := (0 : Int32)) dX12_isName_34 (by decide) ?_
        exact V_ireturn dX12_isName_35 rfl (by decide) (Nat.le_refl 0) (kI_of hf)
      · have hf := it_f h7 hf
        refine V_iconst (v := (1 : Int32)) dX12_isName_30 (by decide) ?_
        refine V_goto (tgt := 35) dX12_isName_31 (by decide) ?_
        exact V_ireturn dX12_isName_35 rfl (by decide) (Nat.le_refl 0) (kI_of hf)
def wX12_nameAt_J40 (n : Nat) (sh : Nat → Nat × Nat) (k2 : Nat → Int32 → Int32 → gS → Prop) (P : Int32 → gS → Prop) (a0 : Nat) (x1 : Int32) (x2 : Int32) (s0 : Int64) (z : gS) : Prop := (oO n sh a0 8) ∧ (∃ t7 : Nat, gr z a0 6 = some t7 ∧ ((oA n sh t7 2) ∧ ((vp_in (gi z a0 7) (sh t7).2) ∧ (if (lg_cmp s0 (gl z t7 (gi z a0 7).toNatClampNeg)) = 0 then (if x1 = 0 then (∃ t11 : Nat, gr z a0 16 = some t11 ∧ ((oA n sh t11 1) ∧ ((vp_in x2 (sh t11).2) ∧ P (gi z t11 x2.toNatClampNeg) z))) else (∃ t14 : Nat, gr z a0 17 = some t14 ∧ ((oA n sh t14 1) ∧ ((vp_in x2 (sh t14).2) ∧ P (gi z t14 x2.toNatClampNeg) z)))) else (∀ v10 : Int32, v10 = x2 + (1 : Int32) → k2 a0 x1 v10 z)))))
set_option maxRecDepth 100000 in
set_option maxHeartbeats 4000000 in
theorem vX12_nameAt_J40 {E : gE} {n : Nat} {sh : Nat → Nat × Nat} {P : Int32 → gS → Prop} {k2 : Nat → Int32 → Int32 → gS → Prop} {a0 : Nat} {x1 : Int32} {x2 : Int32} {s0 : Int64} {z : gS} (hn : n ≤ 1000000) (hk2 : ∀ (a0 : Nat) (x1 : Int32) (x2 : Int32) (z : gS), k2 a0 x1 x2 z → V E (gR 0 0) gyX12_nameAt 0 0 2 [(0, .ref a0), (1, .int x1), (2, .int x2)] [] n sh z (kI n sh P)) (hf : wX12_nameAt_J40 n sh k2 P a0 x1 x2 s0 z) : V E (gR 0 0) gyX12_nameAt 0 0 40 [(0, .ref a0), (1, .int x1), (2, .int x2)] [.long s0] n sh z (kI n sh P) := by
  unfold wX12_nameAt_J40 at hf
  refine V_aload_n (j := 0) dX12_nameAt_40 rfl rfl ?_
  obtain ⟨h6, hf⟩ := hf
  obtain ⟨t7, et7, hf⟩ := hf
  refine V_getR fl_X12_30 rfl h6.1 h6.2 et7 dX12_nameAt_41 ?_
  refine V_aload_n (j := 0) dX12_nameAt_44 rfl rfl ?_
  refine V_getI fl_X12_156 rfl h6.1 h6.2 dX12_nameAt_45 ?_
  obtain ⟨h8, hf⟩ := hf
  obtain ⟨h9, hf⟩ := hf
  refine V_lald h8.1 h8.s h9 dX12_nameAt_48 ?_
  refine V_lcmp dX12_nameAt_49 ?_
  refine V_if_ne (tgt := 73) dX12_nameAt_50 (by decide) (fun h18 => ?_) (fun h18 => ?_)
  · have hf := it_f h18 hf
    obtain ⟨v10, ev10⟩ : ∃ y : Int32, y = x2 + (1 : Int32) := ⟨_, rfl⟩
    refine V_iinc (j := 2) (v := v10) (ls2 := [(2, .int v10), (0, .ref a0), (1, .int x1)]) dX12_nameAt_73 rfl (by rw [ev10]; rfl) (by decide) rfl ?_
    have hf := hf v10 ev10
    refine V_goto (tgt := 2) dX12_nameAt_76 (by decide) ?_
    refine V_to [1, 2, 0] rfl ?_
    exact hk2 _ _ _ _ hf
  · have hf := it_t (Classical.not_not.mp h18) hf
    refine V_iload_n (j := 1) dX12_nameAt_53 rfl rfl ?_
    refine V_if_eq (tgt := 66) dX12_nameAt_54 (by decide) (fun h17 => ?_) (fun h17 => ?_)
    · have hf := it_t h17 hf
      refine V_aload_n (j := 0) dX12_nameAt_66 rfl rfl ?_
      obtain ⟨t11, et11, hf⟩ := hf
      refine V_getR fl_X12_104 rfl h6.1 h6.2 et11 dX12_nameAt_67 ?_
      refine V_iload_n (j := 2) dX12_nameAt_70 rfl rfl ?_
      obtain ⟨h12, hf⟩ := hf
      obtain ⟨h13, hf⟩ := hf
      refine V_iald h12.1 h12.s h13 dX12_nameAt_71 ?_
      exact V_ireturn dX12_nameAt_72 rfl rfl (Nat.le_refl 0) (kI_of hf)
    · have hf := it_f h17 hf
      refine V_aload_n (j := 0) dX12_nameAt_57 rfl rfl ?_
      obtain ⟨t14, et14, hf⟩ := hf
      refine V_getR fl_X12_107 rfl h6.1 h6.2 et14 dX12_nameAt_58 ?_
      refine V_iload_n (j := 2) dX12_nameAt_61 rfl rfl ?_
      obtain ⟨h15, hf⟩ := hf
      obtain ⟨h16, hf⟩ := hf
      refine V_iald h15.1 h15.s h16 dX12_nameAt_62 ?_
      refine V_goto (tgt := 72) dX12_nameAt_63 (by decide) ?_
      exact V_ireturn dX12_nameAt_72 rfl rfl (Nat.le_refl 0) (kI_of hf)
def wX12_nameAt_J18 (n : Nat) (sh : Nat → Nat × Nat) (k2 : Nat → Int32 → Int32 → gS → Prop) (P : Int32 → gS → Prop) (a0 : Nat) (x1 : Int32) (x2 : Int32) (s0 : Int32) (s1 : Int32) (z : gS) : Prop := if s0 ≤ s1 then P (-1 : Int32) z else (if x1 = 0 then ((oO n sh a0 8) ∧ (∃ t3 : Nat, gr z a0 14 = some t3 ∧ ((oA n sh t3 2) ∧ ((vp_in x2 (sh t3).2) ∧ wX12_nameAt_J40 n sh k2 P a0 x1 x2 (gl z t3 x2.toNatClampNeg) z)))) else ((oO n sh a0 8) ∧ (∃ t20 : Nat, gr z a0 15 = some t20 ∧ ((oA n sh t20 2) ∧ ((vp_in x2 (sh t20).2) ∧ wX12_nameAt_J40 n sh k2 P a0 x1 x2 (gl z t20 x2.toNatClampNeg) z)))))
set_option maxRecDepth 100000 in
set_option maxHeartbeats 4000000 in
theorem vX12_nameAt_J18 {E : gE} {n : Nat} {sh : Nat → Nat × Nat} {P : Int32 → gS → Prop} {k2 : Nat → Int32 → Int32 → gS → Prop} {a0 : Nat} {x1 : Int32} {x2 : Int32} {s0 : Int32} {s1 : Int32} {z : gS} (hn : n ≤ 1000000) (hk2 : ∀ (a0 : Nat) (x1 : Int32) (x2 : Int32) (z : gS), k2 a0 x1 x2 z → V E (gR 0 0) gyX12_nameAt 0 0 2 [(0, .ref a0), (1, .int x1), (2, .int x2)] [] n sh z (kI n sh P)) (hf : wX12_nameAt_J18 n sh k2 P a0 x1 x2 s0 s1 z) : V E (gR 0 0) gyX12_nameAt 0 0 18 [(0, .ref a0), (1, .int x1), (2, .int x2)] [.int s0, .int s1] n sh z (kI n sh P) := by
  unfold wX12_nameAt_J18 at hf
  refine V_icmp_ge (tgt := 79) dX12_nameAt_18 (by decide) (fun h24 => ?_) (fun h24 => ?_)
  · have hf := it_t h24 hf
    refine V_iconst (v := (-1 : Int32)) dX12_nameAt_79 (by decide) ?_
    exact V_ireturn dX12_nameAt_80 rfl rfl (Nat.le_refl 0) (kI_of hf)
  · have hf := it_f h24 hf
    refine V_iload_n (j := 1) dX12_nameAt_21 rfl rfl ?_
    refine V_if_eq (tgt := 34) dX12_nameAt_22 (by decide) (fun h23 => ?_) (fun h23 => ?_)
    · have hf := it_t h23 hf
      refine V_aload_n (j := 0) dX12_nameAt_34 rfl rfl ?_
      obtain ⟨h2, hf⟩ := hf
      obtain ⟨t3, et3, hf⟩ := hf
      refine V_getR fl_X12_98 rfl h2.1 h2.2 et3 dX12_nameAt_35 ?_
      refine V_iload_n (j := 2) dX12_nameAt_38 rfl rfl ?_
      obtain ⟨h4, hf⟩ := hf
      obtain ⟨h5, hf⟩ := hf
      refine V_lald h4.1 h4.s h5 dX12_nameAt_39 ?_
      exact vX12_nameAt_J40 hn hk2 hf
    · have hf := it_f h23 hf
      refine V_aload_n (j := 0) dX12_nameAt_25 rfl rfl ?_
      obtain ⟨h19, hf⟩ := hf
      obtain ⟨t20, et20, hf⟩ := hf
      refine V_getR fl_X12_101 rfl h19.1 h19.2 et20 dX12_nameAt_26 ?_
      refine V_iload_n (j := 2) dX12_nameAt_29 rfl rfl ?_
      obtain ⟨h21, hf⟩ := hf
      obtain ⟨h22, hf⟩ := hf
      refine V_lald h21.1 h21.s h22 dX12_nameAt_30 ?_
      refine V_goto (tgt := 40) dX12_nameAt_31 (by decide) ?_
      exact vX12_nameAt_J40 hn hk2 hf
def wX12_nameAt_B2 (n : Nat) (sh : Nat → Nat × Nat) (k2 : Nat → Int32 → Int32 → gS → Prop) (P : Int32 → gS → Prop) (a0 : Nat) (x1 : Int32) (x2 : Int32) (z : gS) : Prop := if x1 = 0 then ((oO n sh a0 8) ∧ wX12_nameAt_J18 n sh k2 P a0 x1 x2 (gi z a0 18) x2 z) else ((oO n sh a0 8) ∧ wX12_nameAt_J18 n sh k2 P a0 x1 x2 (gi z a0 19) x2 z)
def wX12_nameAt_L2 (n : Nat) (sh : Nat → Nat × Nat) (P : Int32 → gS → Prop) : Nat → Nat → Int32 → Int32 → gS → Prop
  | 0, _, _, _, _ => False
  | N + 1, a0, x1, x2, z => wX12_nameAt_B2 n sh (wX12_nameAt_L2 n sh P N) P a0 x1 x2 z
set_option maxRecDepth 100000 in
set_option maxHeartbeats 4000000 in
theorem vX12_nameAt_B2 {E : gE} {n : Nat} {sh : Nat → Nat × Nat} {P : Int32 → gS → Prop} {k2 : Nat → Int32 → Int32 → gS → Prop} {a0 : Nat} {x1 : Int32} {x2 : Int32} {z : gS} (hn : n ≤ 1000000) (hk2 : ∀ (a0 : Nat) (x1 : Int32) (x2 : Int32) (z : gS), k2 a0 x1 x2 z → V E (gR 0 0) gyX12_nameAt 0 0 2 [(0, .ref a0), (1, .int x1), (2, .int x2)] [] n sh z (kI n sh P)) (hf : wX12_nameAt_B2 n sh k2 P a0 x1 x2 z) : V E (gR 0 0) gyX12_nameAt 0 0 2 [(0, .ref a0), (1, .int x1), (2, .int x2)] [] n sh z (kI n sh P) := by
  unfold wX12_nameAt_B2 at hf
  refine V_iload_n (j := 2) dX12_nameAt_2 rfl rfl ?_
  refine V_iload_n (j := 1) dX12_nameAt_3 rfl rfl ?_
  refine V_if_eq (tgt := 14) dX12_nameAt_4 (by decide) (fun h26 => ?_) (fun h26 => ?_)
  · have hf := it_t h26 hf
    refine V_aload_n (j := 0) dX12_nameAt_14 rfl rfl ?_
    obtain ⟨h1, hf⟩ := hf
    refine V_getI fl_X12_187 rfl h1.1 h1.2 dX12_nameAt_15 ?_
    exact vX12_nameAt_J18 hn hk2 hf
  · have hf := it_f h26 hf
    refine V_aload_n (j := 0) dX12_nameAt_7 rfl rfl ?_
    obtain ⟨h25, hf⟩ := hf
    refine V_getI fl_X12_184 rfl h25.1 h25.2 dX12_nameAt_8 ?_
    refine V_goto (tgt := 18) dX12_nameAt_11 (by decide) ?_
    exact vX12_nameAt_J18 hn hk2 hf
set_option maxRecDepth 100000 in
set_option maxHeartbeats 4000000 in
theorem vX12_nameAt_L2 {E : gE} {n : Nat} {sh : Nat → Nat × Nat} {P : Int32 → gS → Prop} (hn : n ≤ 1000000) : ∀ (N : Nat) (a0 : Nat) (x1 : Int32) (x2 : Int32) (z : gS), wX12_nameAt_L2 n sh P N a0 x1 x2 z → V E (gR 0 0) gyX12_nameAt 0 0 2 [(0, .ref a0), (1, .int x1), (2, .int x2)] [] n sh z (kI n sh P) := by
  intro N
  induction N with
  | zero => intro a0 x1 x2 z hf; exact False.elim hf
  | succ N ih => intro a0 x1 x2 z hf; exact vX12_nameAt_B2 hn ih hf
def wX12_nameAt (n : Nat) (sh : Nat → Nat × Nat) (a0 : Nat) (x1 : Int32) (z : gS) (P : Int32 → gS → Prop) : Prop := (∃ N, wX12_nameAt_L2 n sh P N a0 x1 (0 : Int32) z)
set_option maxRecDepth 100000 in
set_option maxHeartbeats 4000000 in
theorem ctX12_nameAt {E : gE} {n : Nat} {sh : Nat → Nat × Nat} {a0 : Nat} {x1 : Int32} {z : gS} {P : Int32 → gS → Prop} (hn : n ≤ 1000000) (hf : wX12_nameAt n sh a0 x1 z P) : VM E 0 0 gyX12_nameAt [.ref a0, .int x1] n sh z (kI n sh P) := by
  unfold wX12_nameAt at hf
  refine VM.of (by decide +kernel) (Nat.le_of_ble_eq_true rfl) ?_
  show V E (gR 0 0) gyX12_nameAt 0 0 0 [(0, .ref a0), (1, .int x1)] [] n sh z (kI n sh P)
  refine V_iconst (v := (0 : Int32)) dX12_nameAt_0 (by decide) ?_
  refine V_istore_n (ls2 := [(2, .int (0 : Int32)), (0, .ref a0), (1, .int x1)]) dX12_nameAt_1 rfl (by decide) rfl ?_
  obtain ⟨N, hf⟩ := hf
  refine V_to [1, 2, 0] rfl ?_
  exact vX12_nameAt_L2 hn N _ _ _ _ hf
def wX12_takeTold_J76 (n : Nat) (sh : Nat → Nat × Nat) (P : Int32 → gS → Prop) (a0 : Nat) (x2 : Int32) (s0 : Int32) (s1 : Int32) (s2 : Nat) (z : gS) : Prop := (oO n sh s2 8) ∧ (∀ z8 : gS, z8 = si z s2 7 (s1 + s0) → ((oO n sh a0 8) ∧ (if (gi z8 a0 8) ≤ 0 then P x2 z8 else P (0 : Int32) z8)))
set_option maxRecDepth 100000 in
set_option maxHeartbeats 4000000 in
theorem vX12_takeTold_J76 {E : gE} {n : Nat} {sh : Nat → Nat × Nat} {P : Int32 → gS → Prop} {a0 : Nat} {x2 : Int32} {s0 : Int32} {s1 : Int32} {s2 : Nat} {z : gS} (hn : n ≤ 1000000) (hf : wX12_takeTold_J76 n sh P a0 x2 s0 s1 s2 z) : V E (gR 3 0) gyX12_takeTold 0 0 76 [(0, .ref a0), (2, .int x2)] [.int s0, .int s1, .ref s2] n sh z (kI n sh P) := by
  unfold wX12_takeTold_J76 at hf
  refine V_iadd dX12_takeTold_76 ?_
  obtain ⟨h7, hf⟩ := hf
  refine V_putI fl_X12_156 rfl rfl rfl rfl h7.1 h7.2 dX12_takeTold_77 ?_
  refine V_nz (fun z8 ez8 => ?_)
  have hf := hf z8 ez8
  refine V_aload_n (j := 0) dX12_takeTold_80 rfl rfl ?_
  obtain ⟨h9, hf⟩ := hf
  refine V_getI fl_X12_159 rfl h9.1 h9.2 dX12_takeTold_81 ?_
  refine V_if_le (tgt := 91) dX12_takeTold_84 (by decide) (fun h10 => ?_) (fun h10 => ?_)
  · have hf := it_t h10 hf
    refine V_iload_n (j := 1) dX12_takeTold_91 rfl rfl ?_
    exact V_ireturn dX12_takeTold_92 rfl rfl (Nat.le_refl 0) (kI_of hf)
  · have hf := it_f h10 hf
    refine V_iconst (v := (0 : Int32)) dX12_takeTold_87 (by decide) ?_
    refine V_goto (tgt := 92) dX12_takeTold_88 (by decide) ?_
    exact V_ireturn dX12_takeTold_92 rfl rfl (Nat.le_refl 0) (kI_of hf)
def wX12_takeTold_J59 (n : Nat) (sh : Nat → Nat × Nat) (P : Int32 → gS → Prop) (a0 : Nat) (x2 : Int32) (z : gS) : Prop := (oO n sh a0 8) ∧ (if (gi z a0 8) ≤ 0 then wX12_takeTold_J76 n sh P a0 x2 (1 : Int32) (gi z a0 7) a0 z else wX12_takeTold_J76 n sh P a0 x2 (0 : Int32) (gi z a0 7) a0 z)
set_option maxRecDepth 100000 in
set_option maxHeartbeats 4000000 in
theorem vX12_takeTold_J59 {E : gE} {n : Nat} {sh : Nat → Nat × Nat} {P : Int32 → gS → Prop} {a0 : Nat} {x2 : Int32} {z : gS} (hn : n ≤ 1000000) (hf : wX12_takeTold_J59 n sh P a0 x2 z) : V E (gR 3 0) gyX12_takeTold 0 0 59 [(0, .ref a0), (2, .int x2)] [] n sh z (kI n sh P) := by
  unfold wX12_takeTold_J59 at hf
  refine V_aload_n (j := 0) dX12_takeTold_59 rfl rfl ?_
  refine V_dup dX12_takeTold_60 rfl ?_
  obtain ⟨h6, hf⟩ := hf
  refine V_getI fl_X12_156 rfl h6.1 h6.2 dX12_takeTold_61 ?_
  refine V_aload_n (j := 0) dX12_takeTold_64 rfl rfl ?_
  refine V_getI fl_X12_159 rfl h6.1 h6.2 dX12_takeTold_65 ?_
  refine V_if_le (tgt := 75) dX12_takeTold_68 (by decide) (fun h11 => ?_) (fun h11 => ?_)
  · have hf := it_t h11 hf
    refine V_iconst (v := (1 : Int32)) dX12_takeTold_75 (by decide) ?_
    exact vX12_takeTold_J76 hn hf
  · have hf := it_f h11 hf
    refine V_iconst (v := (0 : Int32)) dX12_takeTold_71 (by decide) ?_
    refine V_goto (tgt := 76) dX12_takeTold_72 (by decide) ?_
    exact vX12_takeTold_J76 hn hf
def wX12_takeTold_J37 (n : Nat) (sh : Nat → Nat × Nat) (P : Int32 → gS → Prop) (a0 : Nat) (s0 : Int32) (z : gS) : Prop := (oO n sh a0 8) ∧ (if (gi z a0 8) = 0 then (wX12_within n sh s0 (0 : Int32) (5 : Int32) z (fun (r12 : Int32) (z13 : gS) => if r12 = 0 then (wX12_wrong n sh a0 (2 : Int32) z13 (fun (z15 : gS) => wX12_takeTold_J59 n sh P a0 s0 z15)) else wX12_takeTold_J59 n sh P a0 s0 z13)) else wX12_takeTold_J59 n sh P a0 s0 z)
set_option maxRecDepth 100000 in
set_option maxHeartbeats 4000000 in
theorem vX12_takeTold_J37 {E : gE} {n : Nat} {sh : Nat → Nat × Nat} {P : Int32 → gS → Prop} {a0 : Nat} {s0 : Int32} {z : gS} (hn : n ≤ 1000000) (hf : wX12_takeTold_J37 n sh P a0 s0 z) : V E (gR 3 0) gyX12_takeTold 0 0 37 [(0, .ref a0)] [.int s0] n sh z (kI n sh P) := by
  unfold wX12_takeTold_J37 at hf
  refine V_istore_n (ls2 := [(2, .int s0), (0, .ref a0)]) dX12_takeTold_37 rfl (by decide) rfl ?_
  refine V_aload_n (j := 1) dX12_takeTold_38 rfl rfl ?_
  obtain ⟨h5, hf⟩ := hf
  refine V_getI fl_X12_159 rfl h5.1 h5.2 dX12_takeTold_39 ?_
  refine V_if_ne (tgt := 59) dX12_takeTold_42 (by decide) (fun h17 => ?_) (fun h17 => ?_)
  · have hf := it_f h17 hf
    refine V_to [1, 0] rfl ?_
    exact vX12_takeTold_J59 hn hf
  · have hf := it_t (Classical.not_not.mp h17) hf
    refine V_iload_n (j := 0) dX12_takeTold_45 rfl rfl ?_
    refine V_iconst (v := (0 : Int32)) dX12_takeTold_46 (by decide) ?_
    refine V_iconst (v := (5 : Int32)) dX12_takeTold_47 (by decide) ?_
    refine V_cSI (ctX12_within hn hf) gc_X12_198 rfl ⟨by decide, by decide, Nat.zero_le _, Nat.zero_le _⟩ (Nat.le_of_ble_eq_true rfl) dX12_takeTold_48 rfl hn (fun r12 z13 hf => ?_)
    refine V_if_ne (tgt := 59) dX12_takeTold_51 (by decide) (fun h16 => ?_) (fun h16 => ?_)
    · have hf := it_f h16 hf
      refine V_to [1, 0] rfl ?_
      exact vX12_takeTold_J59 hn hf
    · have hf := it_t (Classical.not_not.mp h16) hf
      refine V_aload_n (j := 1) dX12_takeTold_54 rfl rfl ?_
      refine V_iconst (v := (2 : Int32)) dX12_takeTold_55 (by decide) ?_
      refine V_cVN (ctX12_wrong hn hf) gc_X12_165 rfl h5.1 ⟨_, h5.2, by decide, rfl⟩ ⟨by decide, by decide, Nat.zero_le _, Nat.zero_le _⟩ (Nat.le_of_ble_eq_true rfl) dX12_takeTold_56 rfl hn (fun z15 hf => ?_)
      refine V_to [1, 0] rfl ?_
      exact vX12_takeTold_J59 hn hf
def wX12_takeTold_J19 (n : Nat) (sh : Nat → Nat × Nat) (P : Int32 → gS → Prop) (a0 : Nat) (x1 : Int32) (z : gS) : Prop := (oO n sh a0 8) ∧ (if (gi z a0 8) ≤ 0 then (wX12_nameAt n sh a0 (0 : Int32) z (fun (r3 : Int32) (z4 : gS) => wX12_takeTold_J37 n sh P a0 (r3 - x1) z4)) else wX12_takeTold_J37 n sh P a0 (-1 : Int32) z)
set_option maxRecDepth 100000 in
set_option maxHeartbeats 4000000 in
theorem vX12_takeTold_J19 {E : gE} {n : Nat} {sh : Nat → Nat × Nat} {P : Int32 → gS → Prop} {a0 : Nat} {x1 : Int32} {z : gS} (hn : n ≤ 1000000) (hf : wX12_takeTold_J19 n sh P a0 x1 z) : V E (gR 3 0) gyX12_takeTold 0 0 19 [(0, .ref a0), (1, .int x1)] [] n sh z (kI n sh P) := by
  unfold wX12_takeTold_J19 at hf
  refine V_aload_n (j := 0) dX12_takeTold_19 rfl rfl ?_
  obtain ⟨h2, hf⟩ := hf
  refine V_getI fl_X12_159 rfl h2.1 h2.2 dX12_takeTold_20 ?_
  refine V_if_le (tgt := 30) dX12_takeTold_23 (by decide) (fun h18 => ?_) (fun h18 => ?_)
  · have hf := it_t h18 hf
    refine V_aload_n (j := 0) dX12_takeTold_30 rfl rfl ?_
    refine V_iconst (v := (0 : Int32)) dX12_takeTold_31 (by decide) ?_
    refine V_cVI (ctX12_nameAt hn hf) gc_X12_194 rfl h2.1 ⟨_, h2.2, by decide, rfl⟩ ⟨by decide, by decide, Nat.zero_le _, Nat.zero_le _⟩ (Nat.le_of_ble_eq_true rfl) dX12_takeTold_32 rfl hn (fun r3 z4 hf => ?_)
    refine V_iload_n (j := 1) dX12_takeTold_35 rfl rfl ?_
    refine V_isub dX12_takeTold_36 ?_
    refine V_to [0] rfl ?_
    exact vX12_takeTold_J37 hn hf
  · have hf := it_f h18 hf
    refine V_iconst (v := (-1 : Int32)) dX12_takeTold_26 (by decide) ?_
    refine V_goto (tgt := 37) dX12_takeTold_27 (by decide) ?_
    refine V_to [0] rfl ?_
    exact vX12_takeTold_J37 hn hf
def wX12_takeTold (n : Nat) (sh : Nat → Nat × Nat) (a0 : Nat) (x1 : Int32) (z : gS) (P : Int32 → gS → Prop) : Prop := (oO n sh a0 8) ∧ (if (gi z a0 8) = 0 then (wX12_isName n sh a0 z (fun (r19 : Int32) (z20 : gS) => if r19 = 0 then (wX12_wrong n sh a0 (1 : Int32) z20 (fun (z22 : gS) => wX12_takeTold_J19 n sh P a0 x1 z22)) else wX12_takeTold_J19 n sh P a0 x1 z20)) else wX12_takeTold_J19 n sh P a0 x1 z)
set_option maxRecDepth 100000 in
set_option maxHeartbeats 4000000 in
theorem ctX12_takeTold {E : gE} {n : Nat} {sh : Nat → Nat × Nat} {a0 : Nat} {x1 : Int32} {z : gS} {P : Int32 → gS → Prop} (hn : n ≤ 1000000) (hf : wX12_takeTold n sh a0 x1 z P) : VM E 3 0 gyX12_takeTold [.ref a0, .int x1] n sh z (kI n sh P) := by
  unfold wX12_takeTold at hf
  refine VM.of (by decide +kernel) (Nat.le_of_ble_eq_true rfl) ?_
  show V E (gR 3 0) gyX12_takeTold 0 0 0 [(0, .ref a0), (1, .int x1)] [] n sh z (kI n sh P)
  refine V_aload_n (j := 0) dX12_takeTold_0 rfl rfl ?_
  obtain ⟨h1, hf⟩ := hf
  refine V_getI fl_X12_159 rfl h1.1 h1.2 dX12_takeTold_1 ?_
  refine V_if_ne (tgt := 19) dX12_takeTold_4 (by decide) (fun h24 => ?_) (fun h24 => ?_)
  · have hf := it_f h24 hf
    exact vX12_takeTold_J19 hn hf
  · have hf := it_t (Classical.not_not.mp h24) hf
    refine V_aload_n (j := 0) dX12_takeTold_7 rfl rfl ?_
    refine V_cVI (ctX12_isName hn hf) gc_X12_190 rfl h1.1 ⟨_, h1.2, by decide, rfl⟩ ⟨by decide, by decide, Nat.zero_le _, Nat.zero_le _⟩ (Nat.le_of_ble_eq_true rfl) dX12_takeTold_8 rfl hn (fun r19 z20 hf => ?_)
    refine V_if_ne (tgt := 19) dX12_takeTold_11 (by decide) (fun h23 => ?_) (fun h23 => ?_)
    · have hf := it_f h23 hf
      exact vX12_takeTold_J19 hn hf
    · have hf := it_t (Classical.not_not.mp h23) hf
      refine V_aload_n (j := 0) dX12_takeTold_14 rfl rfl ?_
      refine V_iconst (v := (1 : Int32)) dX12_takeTold_15 (by decide) ?_
      refine V_cVN (ctX12_wrong hn hf) gc_X12_165 rfl h1.1 ⟨_, h1.2, by decide, rfl⟩ ⟨by decide, by decide, Nat.zero_le _, Nat.zero_le _⟩ (Nat.le_of_ble_eq_true rfl) dX12_takeTold_16 rfl hn (fun z22 hf => ?_)
      exact vX12_takeTold_J19 hn hf
def wX12_readName_J61 (n : Nat) (sh : Nat → Nat × Nat) (P : gS → Prop) (a0 : Nat) (x1 : Int32) (x3 : Int32) (x4 : Int32) (z : gS) : Prop := (oO n sh a0 8) ∧ (if (gi z a0 8) = 0 then (∃ t12 : Nat, gr z a0 15 = some t12 ∧ (∃ t13 : Nat, gr z a0 6 = some t13 ∧ ((oA n sh t13 2) ∧ ((vp_in (gi z a0 7) (sh t13).2) ∧ ((oA n sh t12 2) ∧ ((vp_in (gi z a0 19) (sh t12).2) ∧ (∀ z18 : gS, z18 = sl z t12 (gi z a0 19).toNatClampNeg (gl z t13 (gi z a0 7).toNatClampNeg) → (∃ t19 : Nat, gr z18 a0 17 = some t19 ∧ ((oA n sh t19 1) ∧ ((vp_in (gi z18 a0 19) (sh t19).2) ∧ (∀ z22 : gS, z22 = si z18 t19 (gi z18 a0 19).toNatClampNeg (x3 + x4) → (∀ z23 : gS, z23 = si z22 a0 19 ((gi z22 a0 19) + (1 : Int32)) → (∀ z24 : gS, z24 = si z23 a0 7 ((gi z23 a0 7) + (1 : Int32)) → (∃ t25 : Nat, gr z24 a0 10 = some t25 ∧ ((oA n sh t25 1) ∧ ((vp_in ((60 : Int32) + x1) (sh t25).2) ∧ ((vp_in ((60 : Int32) + x1) (sh t25).2) ∧ (∀ z29 : gS, z29 = si z24 t25 ((60 : Int32) + x1).toNatClampNeg ((gi z24 t25 ((60 : Int32) + x1).toNatClampNeg) + (1 : Int32)) → P z29)))))))))))))))))) else P z)
set_option maxRecDepth 100000 in
set_option maxHeartbeats 4000000 in
theorem vX12_readName_J61 {E : gE} {n : Nat} {sh : Nat → Nat × Nat} {P : gS → Prop} {a0 : Nat} {x1 : Int32} {x3 : Int32} {x4 : Int32} {z : gS} (hn : n ≤ 1000000) (hf : wX12_readName_J61 n sh P a0 x1 x3 x4 z) : V E (gR 3 0) gyX12_readName 0 0 61 [(0, .ref a0), (1, .int x1), (3, .int x3), (4, .int x4)] [] n sh z (kN n sh P) := by
  unfold wX12_readName_J61 at hf
  refine V_aload_n (j := 0) dX12_readName_61 rfl rfl ?_
  obtain ⟨h11, hf⟩ := hf
  refine V_getI fl_X12_159 rfl h11.1 h11.2 dX12_readName_62 ?_
  refine V_if_ne (tgt := 132) dX12_readName_65 (by decide) (fun h30 => ?_) (fun h30 => ?_)
  · have hf := it_f h30 hf
    exact V_return dX12_readName_132 rfl (Nat.le_refl 0) (kN_of hf)
  · have hf := it_t (Classical.not_not.mp h30) hf
    refine V_aload_n (j := 0) dX12_readName_68 rfl rfl ?_
    obtain ⟨t12, et12, hf⟩ := hf
    refine V_getR fl_X12_101 rfl h11.1 h11.2 et12 dX12_readName_69 ?_
    refine V_aload_n (j := 0) dX12_readName_72 rfl rfl ?_
    refine V_getI fl_X12_184 rfl h11.1 h11.2 dX12_readName_73 ?_
    refine V_aload_n (j := 0) dX12_readName_76 rfl rfl ?_
    obtain ⟨t13, et13, hf⟩ := hf
    refine V_getR fl_X12_30 rfl h11.1 h11.2 et13 dX12_readName_77 ?_
    refine V_aload_n (j := 0) dX12_readName_80 rfl rfl ?_
    refine V_getI fl_X12_156 rfl h11.1 h11.2 dX12_readName_81 ?_
    obtain ⟨h14, hf⟩ := hf
    obtain ⟨h15, hf⟩ := hf
    refine V_lald h14.1 h14.s h15 dX12_readName_84 ?_
    obtain ⟨h16, hf⟩ := hf
    obtain ⟨h17, hf⟩ := hf
    refine V_last h16.1 h16.s h17 dX12_readName_85 ?_
    refine V_nz (fun z18 ez18 => ?_)
    have hf := hf z18 ez18
    refine V_aload_n (j := 0) dX12_readName_86 rfl rfl ?_
    obtain ⟨t19, et19, hf⟩ := hf
    refine V_getR fl_X12_107 rfl h11.1 h11.2 et19 dX12_readName_87 ?_
    refine V_aload_n (j := 0) dX12_readName_90 rfl rfl ?_
    refine V_getI fl_X12_184 rfl h11.1 h11.2 dX12_readName_91 ?_
    refine V_iload_n (j := 2) dX12_readName_94 rfl rfl ?_
    refine V_iload (j := 3) dX12_readName_95 rfl ?_
    refine V_iadd dX12_readName_97 ?_
    obtain ⟨h20, hf⟩ := hf
    obtain ⟨h21, hf⟩ := hf
    refine V_iast h20.1 h20.s h21 dX12_readName_98 ?_
    refine V_nz (fun z22 ez22 => ?_)
    have hf := hf z22 ez22
    refine V_aload_n (j := 0) dX12_readName_99 rfl rfl ?_
    refine V_dup dX12_readName_100 rfl ?_
    refine V_getI fl_X12_184 rfl h11.1 h11.2 dX12_readName_101 ?_
    refine V_iconst (v := (1 : Int32)) dX12_readName_104 (by decide) ?_
    refine V_iadd dX12_readName_105 ?_
    refine V_putI fl_X12_184 rfl rfl rfl rfl h11.1 h11.2 dX12_readName_106 ?_
    refine V_nz (fun z23 ez23 => ?_)
    have hf := hf z23 ez23
    refine V_aload_n (j := 0) dX12_readName_109 rfl rfl ?_
    refine V_dup dX12_readName_110 rfl ?_
    refine V_getI fl_X12_156 rfl h11.1 h11.2 dX12_readName_111 ?_
    refine V_iconst (v := (1 : Int32)) dX12_readName_114 (by decide) ?_
    refine V_iadd dX12_readName_115 ?_
    refine V_putI fl_X12_156 rfl rfl rfl rfl h11.1 h11.2 dX12_readName_116 ?_
    refine V_nz (fun z24 ez24 => ?_)
    have hf := hf z24 ez24
    refine V_aload_n (j := 0) dX12_readName_119 rfl rfl ?_
    obtain ⟨t25, et25, hf⟩ := hf
    refine V_getR fl_X12_89 rfl h11.1 h11.2 et25 dX12_readName_120 ?_
    refine V_bipush (v := (60 : Int32)) dX12_readName_123 (by decide) ?_
    refine V_iload_n (j := 1) dX12_readName_125 rfl rfl ?_
    refine V_iadd dX12_readName_126 ?_
    refine V_dup2 dX12_readName_127 rfl rfl ?_
    obtain ⟨h26, hf⟩ := hf
    obtain ⟨h27, hf⟩ := hf
    refine V_iald h26.1 h26.s h27 dX12_readName_128 ?_
    refine V_iconst (v := (1 : Int32)) dX12_readName_129 (by decide) ?_
    refine V_iadd dX12_readName_130 ?_
    obtain ⟨h28, hf⟩ := hf
    refine V_iast h26.1 h26.s h28 dX12_readName_131 ?_
    refine V_nz (fun z29 ez29 => ?_)
    have hf := hf z29 ez29
    exact V_return dX12_readName_132 rfl (Nat.le_refl 0) (kN_of hf)
def wX12_readName (n : Nat) (sh : Nat → Nat × Nat) (a0 : Nat) (x1 : Int32) (x2 : Int32) (x3 : Int32) (z : gS) (P : gS → Prop) : Prop := (oO n sh a0 8) ∧ (∃ t2 : Nat, gr z a0 10 = some t2 ∧ ((oA n sh t2 1) ∧ ((vp_in ((60 : Int32) + x1) (sh t2).2) ∧ (∀ v5 : Int32, v5 = (gi z t2 ((60 : Int32) + x1).toNatClampNeg) → (if v5 = x2 then (wX12_wrong n sh a0 (5 : Int32) z (fun (z38 : gS) => P z38)) else (∀ z6 : gS, z6 = si z a0 7 ((gi z a0 7) + (1 : Int32)) → (wX12_isName n sh a0 z6 (fun (r7 : Int32) (z8 : gS) => if r7 = 0 then (wX12_wrong n sh a0 (1 : Int32) z8 (fun (z35 : gS) => wX12_readName_J61 n sh P a0 x1 x3 v5 z35)) else (wX12_nameAt n sh a0 (1 : Int32) z8 (fun (r9 : Int32) (z10 : gS) => if r9 < 0 then wX12_readName_J61 n sh P a0 x1 x3 v5 z10 else (wX12_wrong n sh a0 (3 : Int32) z10 (fun (z32 : gS) => wX12_readName_J61 n sh P a0 x1 x3 v5 z32))))))))))))
set_option maxRecDepth 100000 in
set_option maxHeartbeats 4000000 in
theorem ctX12_readName {E : gE} {n : Nat} {sh : Nat → Nat × Nat} {a0 : Nat} {x1 : Int32} {x2 : Int32} {x3 : Int32} {z : gS} {P : gS → Prop} (hn : n ≤ 1000000) (hf : wX12_readName n sh a0 x1 x2 x3 z P) : VM E 3 0 gyX12_readName [.ref a0, .int x1, .int x2, .int x3] n sh z (kN n sh P) := by
  unfold wX12_readName at hf
  refine VM.of (by decide +kernel) (Nat.le_of_ble_eq_true rfl) ?_
  show V E (gR 3 0) gyX12_readName 0 0 0 [(0, .ref a0), (1, .int x1), (2, .int x2), (3, .int x3)] [] n sh z (kN n sh P)
  refine V_aload_n (j := 0) dX12_readName_0 rfl rfl ?_
  obtain ⟨h1, hf⟩ := hf
  obtain ⟨t2, et2, hf⟩ := hf
  refine V_getR fl_X12_89 rfl h1.1 h1.2 et2 dX12_readName_1 ?_
  refine V_bipush (v := (60 : Int32)) dX12_readName_4 (by decide) ?_
  refine V_iload_n (j := 1) dX12_readName_6 rfl rfl ?_
  refine V_iadd dX12_readName_7 ?_
  obtain ⟨h3, hf⟩ := hf
  obtain ⟨h4, hf⟩ := hf
  refine V_iald h3.1 h3.s h4 dX12_readName_8 ?_
  refine V_nI (fun v5 ev5 => ?_)
  have hf := hf v5 ev5
  refine V_istore (ls2 := [(4, .int v5), (0, .ref a0), (1, .int x1), (2, .int x2), (3, .int x3)]) dX12_readName_9 (by decide) rfl ?_
  refine V_iload (j := 0) dX12_readName_11 rfl ?_
  refine V_iload_n (j := 3) dX12_readName_13 rfl rfl ?_
  refine V_icmp_ne (tgt := 23) dX12_readName_14 (by decide) (fun h39 => ?_) (fun h39 => ?_)
  · have hf := it_f h39 hf
    refine V_aload_n (j := 1) dX12_readName_23 rfl rfl ?_
    refine V_dup dX12_readName_24 rfl ?_
    refine V_getI fl_X12_156 rfl h1.1 h1.2 dX12_readName_25 ?_
    refine V_iconst (v := (1 : Int32)) dX12_readName_28 (by decide) ?_
    refine V_iadd dX12_readName_29 ?_
    refine V_putI fl_X12_156 rfl rfl rfl rfl h1.1 h1.2 dX12_readName_30 ?_
    refine V_nz (fun z6 ez6 => ?_)
    have hf := hf z6 ez6
    refine V_aload_n (j := 1) dX12_readName_33 rfl rfl ?_
    refine V_cVI (ctX12_isName hn hf) gc_X12_190 rfl h1.1 ⟨_, h1.2, by decide, rfl⟩ ⟨by decide, by decide, Nat.zero_le _, Nat.zero_le _⟩ (Nat.le_of_ble_eq_true rfl) dX12_readName_34 rfl hn (fun r7 z8 hf => ?_)
    refine V_if_ne (tgt := 48) dX12_readName_37 (by decide) (fun h36 => ?_) (fun h36 => ?_)
    · have hf := it_f h36 hf
      refine V_aload_n (j := 1) dX12_readName_48 rfl rfl ?_
      refine V_iconst (v := (1 : Int32)) dX12_readName_49 (by decide) ?_
      refine V_cVI (ctX12_nameAt hn hf) gc_X12_194 rfl h1.1 ⟨_, h1.2, by decide, rfl⟩ ⟨by decide, by decide, Nat.zero_le _, Nat.zero_le _⟩ (Nat.le_of_ble_eq_true rfl) dX12_readName_50 rfl hn (fun r9 z10 hf => ?_)
      refine V_if_lt (tgt := 61) dX12_readName_53 (by decide) (fun h33 => ?_) (fun h33 => ?_)
      · have hf := it_t h33 hf
        refine V_to [1, 2, 4, 0] rfl ?_
        exact vX12_readName_J61 hn hf
      · have hf := it_f h33 hf
        refine V_aload_n (j := 1) dX12_readName_56 rfl rfl ?_
        refine V_iconst (v := (3 : Int32)) dX12_readName_57 (by decide) ?_
        refine V_cVN (ctX12_wrong hn hf) gc_X12_165 rfl h1.1 ⟨_, h1.2, by decide, rfl⟩ ⟨by decide, by decide, Nat.zero_le _, Nat.zero_le _⟩ (Nat.le_of_ble_eq_true rfl) dX12_readName_58 rfl hn (fun z32 hf => ?_)
        refine V_to [1, 2, 4, 0] rfl ?_
        exact vX12_readName_J61 hn hf
    · have hf := it_t (Classical.not_not.mp h36) hf
      refine V_aload_n (j := 1) dX12_readName_40 rfl rfl ?_
      refine V_iconst (v := (1 : Int32)) dX12_readName_41 (by decide) ?_
      refine V_cVN (ctX12_wrong hn hf) gc_X12_165 rfl h1.1 ⟨_, h1.2, by decide, rfl⟩ ⟨by decide, by decide, Nat.zero_le _, Nat.zero_le _⟩ (Nat.le_of_ble_eq_true rfl) dX12_readName_42 rfl hn (fun z35 hf => ?_)
      refine V_goto (tgt := 61) dX12_readName_45 (by decide) ?_
      refine V_to [1, 2, 4, 0] rfl ?_
      exact vX12_readName_J61 hn hf
  · have hf := it_t (Classical.not_not.mp h39) hf
    refine V_aload_n (j := 1) dX12_readName_17 rfl rfl ?_
    refine V_iconst (v := (5 : Int32)) dX12_readName_18 (by decide) ?_
    refine V_cVN (ctX12_wrong hn hf) gc_X12_165 rfl h1.1 ⟨_, h1.2, by decide, rfl⟩ ⟨by decide, by decide, Nat.zero_le _, Nat.zero_le _⟩ (Nat.le_of_ble_eq_true rfl) dX12_readName_19 rfl hn (fun z38 hf => ?_)
    exact V_return dX12_readName_22 rfl (Nat.le_refl 0) (kN_of hf)
def wX12_readPane_J125 (n : Nat) (sh : Nat → Nat × Nat) (P : gS → Prop) (a0 : Nat) (x1 : Int32) (x2 : Int32) (x3 : Int32) (x4 : Int32) (z : gS) : Prop := (oO n sh a0 8) ∧ (if (gi z a0 8) = 0 then (∃ t16 : Nat, gr z a0 10 = some t16 ∧ ((oA n sh t16 1) ∧ ((vp_in x1 (sh t16).2) ∧ (∀ z19 : gS, z19 = si z t16 x1.toNatClampNeg x2 → (∃ t20 : Nat, gr z19 a0 10 = some t20 ∧ ((oA n sh t20 1) ∧ ((vp_in (x1 + (1 : Int32)) (sh t20).2) ∧ (∀ z23 : gS, z23 = si z19 t20 (x1 + (1 : Int32)).toNatClampNeg x3 → (∃ t24 : Nat, gr z23 a0 10 = some t24 ∧ ((oA n sh t24 1) ∧ ((vp_in (x1 + (2 : Int32)) (sh t24).2) ∧ (∀ z27 : gS, z27 = si z23 t24 (x1 + (2 : Int32)).toNatClampNeg x4 → P z27)))))))))))) else P z)
set_option maxRecDepth 100000 in
set_option maxHeartbeats 4000000 in
theorem vX12_readPane_J125 {E : gE} {n : Nat} {sh : Nat → Nat × Nat} {P : gS → Prop} {a0 : Nat} {x1 : Int32} {x2 : Int32} {x3 : Int32} {x4 : Int32} {z : gS} (hn : n ≤ 1000000) (hf : wX12_readPane_J125 n sh P a0 x1 x2 x3 x4 z) : V E (gR 4 0) gyX12_readPane 0 0 125 [(0, .ref a0), (1, .int x1), (2, .int x2), (3, .int x3), (4, .int x4)] [] n sh z (kN n sh P) := by
  unfold wX12_readPane_J125 at hf
  refine V_aload_n (j := 0) dX12_readPane_125 rfl rfl ?_
  obtain ⟨h15, hf⟩ := hf
  refine V_getI fl_X12_159 rfl h15.1 h15.2 dX12_readPane_126 ?_
  refine V_if_ne (tgt := 158) dX12_readPane_129 (by decide) (fun h28 => ?_) (fun h28 => ?_)
  · have hf := it_f h28 hf
    exact V_return dX12_readPane_158 rfl (Nat.le_refl 0) (kN_of hf)
  · have hf := it_t (Classical.not_not.mp h28) hf
    refine V_aload_n (j := 0) dX12_readPane_132 rfl rfl ?_
    obtain ⟨t16, et16, hf⟩ := hf
    refine V_getR fl_X12_89 rfl h15.1 h15.2 et16 dX12_readPane_133 ?_
    refine V_iload_n (j := 1) dX12_readPane_136 rfl rfl ?_
    refine V_iload_n (j := 2) dX12_readPane_137 rfl rfl ?_
    obtain ⟨h17, hf⟩ := hf
    obtain ⟨h18, hf⟩ := hf
    refine V_iast h17.1 h17.s h18 dX12_readPane_138 ?_
    refine V_nz (fun z19 ez19 => ?_)
    have hf := hf z19 ez19
    refine V_aload_n (j := 0) dX12_readPane_139 rfl rfl ?_
    obtain ⟨t20, et20, hf⟩ := hf
    refine V_getR fl_X12_89 rfl h15.1 h15.2 et20 dX12_readPane_140 ?_
    refine V_iload_n (j := 1) dX12_readPane_143 rfl rfl ?_
    refine V_iconst (v := (1 : Int32)) dX12_readPane_144 (by decide) ?_
    refine V_iadd dX12_readPane_145 ?_
    refine V_iload_n (j := 3) dX12_readPane_146 rfl rfl ?_
    obtain ⟨h21, hf⟩ := hf
    obtain ⟨h22, hf⟩ := hf
    refine V_iast h21.1 h21.s h22 dX12_readPane_147 ?_
    refine V_nz (fun z23 ez23 => ?_)
    have hf := hf z23 ez23
    refine V_aload_n (j := 0) dX12_readPane_148 rfl rfl ?_
    obtain ⟨t24, et24, hf⟩ := hf
    refine V_getR fl_X12_89 rfl h15.1 h15.2 et24 dX12_readPane_149 ?_
    refine V_iload_n (j := 1) dX12_readPane_152 rfl rfl ?_
    refine V_iconst (v := (2 : Int32)) dX12_readPane_153 (by decide) ?_
    refine V_iadd dX12_readPane_154 ?_
    refine V_iload (j := 4) dX12_readPane_155 rfl ?_
    obtain ⟨h25, hf⟩ := hf
    obtain ⟨h26, hf⟩ := hf
    refine V_iast h25.1 h25.s h26 dX12_readPane_157 ?_
    refine V_nz (fun z27 ez27 => ?_)
    have hf := hf z27 ez27
    exact V_return dX12_readPane_158 rfl (Nat.le_refl 0) (kN_of hf)
def wX12_readPane_J113 (n : Nat) (sh : Nat → Nat × Nat) (k46 : Nat → Int32 → Int32 → Int32 → Int32 → gS → Prop) (P : gS → Prop) (a0 : Nat) (x1 : Int32) (x2 : Int32) (x3 : Int32) (x4 : Int32) (x5 : Int32) (z : gS) : Prop := ∀ v32 : Int32, v32 = (x4 ||| ((1 : Int32) <<< (x5 &&& 31))) → k46 a0 x1 x2 x3 v32 z
set_option maxRecDepth 100000 in
set_option maxHeartbeats 4000000 in
theorem vX12_readPane_J113 {E : gE} {n : Nat} {sh : Nat → Nat × Nat} {P : gS → Prop} {k46 : Nat → Int32 → Int32 → Int32 → Int32 → gS → Prop} {a0 : Nat} {x1 : Int32} {x2 : Int32} {x3 : Int32} {x4 : Int32} {x5 : Int32} {z : gS} (hn : n ≤ 1000000) (hk46 : ∀ (a0 : Nat) (x1 : Int32) (x2 : Int32) (x3 : Int32) (x4 : Int32) (z : gS), k46 a0 x1 x2 x3 x4 z → V E (gR 4 0) gyX12_readPane 0 0 46 [(0, .ref a0), (1, .int x1), (2, .int x2), (3, .int x3), (4, .int x4)] [] n sh z (kN n sh P)) (hf : wX12_readPane_J113 n sh k46 P a0 x1 x2 x3 x4 x5 z) : V E (gR 4 0) gyX12_readPane 0 0 113 [(0, .ref a0), (1, .int x1), (2, .int x2), (3, .int x3), (4, .int x4), (5, .int x5)] [] n sh z (kN n sh P) := by
  unfold wX12_readPane_J113 at hf
  refine V_iload (j := 4) dX12_readPane_113 rfl ?_
  refine V_iconst (v := (1 : Int32)) dX12_readPane_115 (by decide) ?_
  refine V_iload (j := 5) dX12_readPane_116 rfl ?_
  refine V_ishl dX12_readPane_118 ?_
  refine V_ior dX12_readPane_119 ?_
  refine V_nI (fun v32 ev32 => ?_)
  have hf := hf v32 ev32
  refine V_istore (ls2 := [(4, .int v32), (0, .ref a0), (1, .int x1), (2, .int x2), (3, .int x3), (5, .int x5)]) dX12_readPane_120 (by decide) rfl ?_
  refine V_goto (tgt := 46) dX12_readPane_122 (by decide) ?_
  refine V_to [1, 2, 3, 4, 0] rfl ?_
  exact hk46 _ _ _ _ _ _ hf
def wX12_readPane_J71 (n : Nat) (sh : Nat → Nat × Nat) (k46 : Nat → Int32 → Int32 → Int32 → Int32 → gS → Prop) (P : gS → Prop) (a0 : Nat) (x1 : Int32) (x2 : Int32) (x3 : Int32) (x4 : Int32) (z : gS) : Prop := (oO n sh a0 8) ∧ (wX12_takeNumber n sh a0 (0 : Int32) (9 : Int32) z (fun (r29 : Int32) (z30 : gS) => if (gi z30 a0 8) = 0 then (if ((x4 >>> (r29 &&& 31)) &&& (1 : Int32)) = (1 : Int32) then (∀ z33 : gS, z33 = si z30 a0 7 ((gi z30 a0 7) - (1 : Int32)) → (wX12_wrong n sh a0 (3 : Int32) z33 (fun (z35 : gS) => wX12_readPane_J113 n sh k46 P a0 x1 x2 x3 x4 r29 z35))) else wX12_readPane_J113 n sh k46 P a0 x1 x2 x3 x4 r29 z30) else wX12_readPane_J113 n sh k46 P a0 x1 x2 x3 x4 r29 z30))
set_option maxRecDepth 100000 in
set_option maxHeartbeats 4000000 in
theorem vX12_readPane_J71 {E : gE} {n : Nat} {sh : Nat → Nat × Nat} {P : gS → Prop} {k46 : Nat → Int32 → Int32 → Int32 → Int32 → gS → Prop} {a0 : Nat} {x1 : Int32} {x2 : Int32} {x3 : Int32} {x4 : Int32} {z : gS} (hn : n ≤ 1000000) (hk46 : ∀ (a0 : Nat) (x1 : Int32) (x2 : Int32) (x3 : Int32) (x4 : Int32) (z : gS), k46 a0 x1 x2 x3 x4 z → V E (gR 4 0) gyX12_readPane 0 0 46 [(0, .ref a0), (1, .int x1), (2, .int x2), (3, .int x3), (4, .int x4)] [] n sh z (kN n sh P)) (hf : wX12_readPane_J71 n sh k46 P a0 x1 x2 x3 x4 z) : V E (gR 4 0) gyX12_readPane 0 0 71 [(0, .ref a0), (1, .int x1), (2, .int x2), (3, .int x3), (4, .int x4)] [] n sh z (kN n sh P) := by
  unfold wX12_readPane_J71 at hf
  refine V_aload_n (j := 0) dX12_readPane_71 rfl rfl ?_
  refine V_iconst (v := (0 : Int32)) dX12_readPane_72 (by decide) ?_
  refine V_bipush (v := (9 : Int32)) dX12_readPane_73 (by decide) ?_
  obtain ⟨h31, hf⟩ := hf
  refine V_cVI (ctX12_takeNumber hn hf) gc_X12_177 rfl h31.1 ⟨_, h31.2, by decide, rfl⟩ ⟨by decide, by decide, Nat.zero_le _, Nat.zero_le _⟩ (Nat.le_of_ble_eq_true rfl) dX12_readPane_75 rfl hn (fun r29 z30 hf => ?_)
  refine V_istore (ls2 := [(5, .int r29), (0, .ref a0), (1, .int x1), (2, .int x2), (3, .int x3), (4, .int x4)]) dX12_readPane_78 (by decide) rfl ?_
  refine V_aload_n (j := 1) dX12_readPane_80 rfl rfl ?_
  refine V_getI fl_X12_159 rfl h31.1 h31.2 dX12_readPane_81 ?_
  refine V_if_ne (tgt := 113) dX12_readPane_84 (by decide) (fun h37 => ?_) (fun h37 => ?_)
  · have hf := it_f h37 hf
    refine V_to [1, 2, 3, 4, 5, 0] rfl ?_
    exact vX12_readPane_J113 hn hk46 hf
  · have hf := it_t (Classical.not_not.mp h37) hf
    refine V_iload (j := 5) dX12_readPane_87 rfl ?_
    refine V_iload (j := 0) dX12_readPane_89 rfl ?_
    refine V_ishr dX12_readPane_91 ?_
    refine V_iconst (v := (1 : Int32)) dX12_readPane_92 (by decide) ?_
    refine V_iand dX12_readPane_93 ?_
    refine V_iconst (v := (1 : Int32)) dX12_readPane_94 (by decide) ?_
    refine V_icmp_ne (tgt := 113) dX12_readPane_95 (by decide) (fun h36 => ?_) (fun h36 => ?_)
    · have hf := it_f h36 hf
      refine V_to [1, 2, 3, 4, 5, 0] rfl ?_
      exact vX12_readPane_J113 hn hk46 hf
    · have hf := it_t (Classical.not_not.mp h36) hf
      refine V_aload_n (j := 1) dX12_readPane_98 rfl rfl ?_
      refine V_dup dX12_readPane_99 rfl ?_
      refine V_getI fl_X12_156 rfl h31.1 h31.2 dX12_readPane_100 ?_
      refine V_iconst (v := (1 : Int32)) dX12_readPane_103 (by decide) ?_
      refine V_isub dX12_readPane_104 ?_
      refine V_putI fl_X12_156 rfl rfl rfl rfl h31.1 h31.2 dX12_readPane_105 ?_
      refine V_nz (fun z33 ez33 => ?_)
      have hf := hf z33 ez33
      refine V_aload_n (j := 1) dX12_readPane_108 rfl rfl ?_
      refine V_iconst (v := (3 : Int32)) dX12_readPane_109 (by decide) ?_
      refine V_cVN (ctX12_wrong hn hf) gc_X12_165 rfl h31.1 ⟨_, h31.2, by decide, rfl⟩ ⟨by decide, by decide, Nat.zero_le _, Nat.zero_le _⟩ (Nat.le_of_ble_eq_true rfl) dX12_readPane_110 rfl hn (fun z35 hf => ?_)
      refine V_to [1, 2, 3, 4, 5, 0] rfl ?_
      exact vX12_readPane_J113 hn hk46 hf
def wX12_readPane_B46 (n : Nat) (sh : Nat → Nat × Nat) (k46 : Nat → Int32 → Int32 → Int32 → Int32 → gS → Prop) (P : gS → Prop) (a0 : Nat) (x1 : Int32) (x2 : Int32) (x3 : Int32) (x4 : Int32) (z : gS) : Prop := (oO n sh a0 8) ∧ (if (gi z a0 8) = 0 then (if x4 = 0 then wX12_readPane_J71 n sh k46 P a0 x1 x2 x3 x4 z else (∃ t38 : Nat, gr z a0 4 = some t38 ∧ ((oA n sh t38 1) ∧ ((vp_in (gi z a0 7) (sh t38).2) ∧ (if (gi z t38 (gi z a0 7).toNatClampNeg) = (2 : Int32) then wX12_readPane_J71 n sh k46 P a0 x1 x2 x3 x4 z else wX12_readPane_J125 n sh P a0 x1 x2 x3 x4 z))))) else wX12_readPane_J125 n sh P a0 x1 x2 x3 x4 z)
def wX12_readPane_L46 (n : Nat) (sh : Nat → Nat × Nat) (P : gS → Prop) : Nat → Nat → Int32 → Int32 → Int32 → Int32 → gS → Prop
  | 0, _, _, _, _, _, _ => False
  | N + 1, a0, x1, x2, x3, x4, z => wX12_readPane_B46 n sh (wX12_readPane_L46 n sh P N) P a0 x1 x2 x3 x4 z
set_option maxRecDepth 100000 in
set_option maxHeartbeats 4000000 in
theorem vX12_readPane_B46 {E : gE} {n : Nat} {sh : Nat → Nat × Nat} {P : gS → Prop} {k46 : Nat → Int32 → Int32 → Int32 → Int32 → gS → Prop} {a0 : Nat} {x1 : Int32} {x2 : Int32} {x3 : Int32} {x4 : Int32} {z : gS} (hn : n ≤ 1000000) (hk46 : ∀ (a0 : Nat) (x1 : Int32) (x2 : Int32) (x3 : Int32) (x4 : Int32) (z : gS), k46 a0 x1 x2 x3 x4 z → V E (gR 4 0) gyX12_readPane 0 0 46 [(0, .ref a0), (1, .int x1), (2, .int x2), (3, .int x3), (4, .int x4)] [] n sh z (kN n sh P)) (hf : wX12_readPane_B46 n sh k46 P a0 x1 x2 x3 x4 z) : V E (gR 4 0) gyX12_readPane 0 0 46 [(0, .ref a0), (1, .int x1), (2, .int x2), (3, .int x3), (4, .int x4)] [] n sh z (kN n sh P) := by
  unfold wX12_readPane_B46 at hf
  refine V_aload_n (j := 0) dX12_readPane_46 rfl rfl ?_
  obtain ⟨h14, hf⟩ := hf
  refine V_getI fl_X12_159 rfl h14.1 h14.2 dX12_readPane_47 ?_
  refine V_if_ne (tgt := 125) dX12_readPane_50 (by decide) (fun h43 => ?_) (fun h43 => ?_)
  · have hf := it_f h43 hf
    exact vX12_readPane_J125 hn hf
  · have hf := it_t (Classical.not_not.mp h43) hf
    refine V_iload (j := 4) dX12_readPane_53 rfl ?_
    refine V_if_eq (tgt := 71) dX12_readPane_55 (by decide) (fun h42 => ?_) (fun h42 => ?_)
    · have hf := it_t h42 hf
      exact vX12_readPane_J71 hn hk46 hf
    · have hf := it_f h42 hf
      refine V_aload_n (j := 0) dX12_readPane_58 rfl rfl ?_
      obtain ⟨t38, et38, hf⟩ := hf
      refine V_getR fl_X12_24 rfl h14.1 h14.2 et38 dX12_readPane_59 ?_
      refine V_aload_n (j := 0) dX12_readPane_62 rfl rfl ?_
      refine V_getI fl_X12_156 rfl h14.1 h14.2 dX12_readPane_63 ?_
      obtain ⟨h39, hf⟩ := hf
      obtain ⟨h40, hf⟩ := hf
      refine V_iald h39.1 h39.s h40 dX12_readPane_66 ?_
      refine V_iconst (v := (2 : Int32)) dX12_readPane_67 (by decide) ?_
      refine V_icmp_ne (tgt := 125) dX12_readPane_68 (by decide) (fun h41 => ?_) (fun h41 => ?_)
      · have hf := it_f h41 hf
        exact vX12_readPane_J125 hn hf
      · have hf := it_t (Classical.not_not.mp h41) hf
        exact vX12_readPane_J71 hn hk46 hf
set_option maxRecDepth 100000 in
set_option maxHeartbeats 4000000 in
theorem vX12_readPane_L46 {E : gE} {n : Nat} {sh : Nat → Nat × Nat} {P : gS → Prop} (hn : n ≤ 1000000) : ∀ (N : Nat) (a0 : Nat) (x1 : Int32) (x2 : Int32) (x3 : Int32) (x4 : Int32) (z : gS), wX12_readPane_L46 n sh P N a0 x1 x2 x3 x4 z → V E (gR 4 0) gyX12_readPane 0 0 46 [(0, .ref a0), (1, .int x1), (2, .int x2), (3, .int x3), (4, .int x4)] [] n sh z (kN n sh P) := by
  intro N
  induction N with
  | zero => intro a0 x1 x2 x3 x4 z hf; exact False.elim hf
  | succ N ih => intro a0 x1 x2 x3 x4 z hf; exact vX12_readPane_B46 hn ih hf
def wX12_readPane (n : Nat) (sh : Nat → Nat × Nat) (a0 : Nat) (z : gS) (P : gS → Prop) : Prop := (oO n sh a0 8) ∧ (∃ t2 : Nat, gr z a0 10 = some t2 ∧ ((oA n sh t2 1) ∧ ((vp_in (60 : Int32) (sh t2).2) ∧ (∀ v5 : Int32, v5 = ((65 : Int32) + ((3 : Int32) * (gi z t2 (60 : Int32).toNatClampNeg))) → (wX12_readName n sh a0 (0 : Int32) (6 : Int32) (0 : Int32) z (fun (z7 : gS) => wX12_takeOne n sh a0 (15 : Int32) (4 : Int32) z7 (fun (r8 : Int32) (z9 : gS) => wX12_takeAfter n sh a0 (1 : Int32) (1 : Int32) (6 : Int32) z9 (fun (r10 : Int32) (z11 : gS) => wX12_takeWord n sh a0 (2 : Int32) z11 (fun (z13 : gS) => (∃ N, wX12_readPane_L46 n sh P N a0 v5 r8 r10 (0 : Int32) z13))))))))))
set_option maxRecDepth 100000 in
set_option maxHeartbeats 4000000 in
theorem ctX12_readPane {E : gE} {n : Nat} {sh : Nat → Nat × Nat} {a0 : Nat} {z : gS} {P : gS → Prop} (hn : n ≤ 1000000) (hf : wX12_readPane n sh a0 z P) : VM E 4 0 gyX12_readPane [.ref a0] n sh z (kN n sh P) := by
  unfold wX12_readPane at hf
  refine VM.of (by decide +kernel) (Nat.le_of_ble_eq_true rfl) ?_
  show V E (gR 4 0) gyX12_readPane 0 0 0 [(0, .ref a0)] [] n sh z (kN n sh P)
  refine V_bipush (v := (65 : Int32)) dX12_readPane_0 (by decide) ?_
  refine V_iconst (v := (3 : Int32)) dX12_readPane_2 (by decide) ?_
  refine V_aload_n (j := 0) dX12_readPane_3 rfl rfl ?_
  obtain ⟨h1, hf⟩ := hf
  obtain ⟨t2, et2, hf⟩ := hf
  refine V_getR fl_X12_89 rfl h1.1 h1.2 et2 dX12_readPane_4 ?_
  refine V_bipush (v := (60 : Int32)) dX12_readPane_7 (by decide) ?_
  obtain ⟨h3, hf⟩ := hf
  obtain ⟨h4, hf⟩ := hf
  refine V_iald h3.1 h3.s h4 dX12_readPane_9 ?_
  refine V_imul dX12_readPane_10 ?_
  refine V_iadd dX12_readPane_11 ?_
  refine V_nI (fun v5 ev5 => ?_)
  have hf := hf v5 ev5
  refine V_istore_n (ls2 := [(1, .int v5), (0, .ref a0)]) dX12_readPane_12 rfl (by decide) rfl ?_
  refine V_aload_n (j := 1) dX12_readPane_13 rfl rfl ?_
  refine V_iconst (v := (0 : Int32)) dX12_readPane_14 (by decide) ?_
  refine V_bipush (v := (6 : Int32)) dX12_readPane_15 (by decide) ?_
  refine V_iconst (v := (0 : Int32)) dX12_readPane_17 (by decide) ?_
  refine V_cVN (ctX12_readName hn hf) gc_X12_220 rfl h1.1 ⟨_, h1.2, by decide, rfl⟩ ⟨by decide, by decide, Nat.zero_le _, Nat.zero_le _⟩ (Nat.le_of_ble_eq_true rfl) dX12_readPane_18 rfl hn (fun z7 hf => ?_)
  refine V_aload_n (j := 1) dX12_readPane_21 rfl rfl ?_
  refine V_bipush (v := (15 : Int32)) dX12_readPane_22 (by decide) ?_
  refine V_iconst (v := (4 : Int32)) dX12_readPane_24 (by decide) ?_
  refine V_cVI (ctX12_takeOne hn hf) gc_X12_231 rfl h1.1 ⟨_, h1.2, by decide, rfl⟩ ⟨by decide, by decide, Nat.zero_le _, Nat.zero_le _⟩ (Nat.le_of_ble_eq_true rfl) dX12_readPane_25 rfl hn (fun r8 z9 hf => ?_)
  refine V_istore_n (ls2 := [(2, .int r8), (1, .int v5), (0, .ref a0)]) dX12_readPane_28 rfl (by decide) rfl ?_
  refine V_aload_n (j := 2) dX12_readPane_29 rfl rfl ?_
  refine V_iconst (v := (1 : Int32)) dX12_readPane_30 (by decide) ?_
  refine V_iconst (v := (1 : Int32)) dX12_readPane_31 (by decide) ?_
  refine V_bipush (v := (6 : Int32)) dX12_readPane_32 (by decide) ?_
  refine V_cVI (ctX12_takeAfter hn hf) gc_X12_224 rfl h1.1 ⟨_, h1.2, by decide, rfl⟩ ⟨by decide, by decide, Nat.zero_le _, Nat.zero_le _⟩ (Nat.le_of_ble_eq_true rfl) dX12_readPane_34 rfl hn (fun r10 z11 hf => ?_)
  refine V_istore_n (ls2 := [(3, .int r10), (2, .int r8), (1, .int v5), (0, .ref a0)]) dX12_readPane_37 rfl (by decide) rfl ?_
  refine V_aload_n (j := 3) dX12_readPane_38 rfl rfl ?_
  refine V_iconst (v := (2 : Int32)) dX12_readPane_39 (by decide) ?_
  refine V_cVN (ctX12_takeWord hn hf) gc_X12_174 rfl h1.1 ⟨_, h1.2, by decide, rfl⟩ ⟨by decide, by decide, Nat.zero_le _, Nat.zero_le _⟩ (Nat.le_of_ble_eq_true rfl) dX12_readPane_40 rfl hn (fun z13 hf => ?_)
  refine V_iconst (v := (0 : Int32)) dX12_readPane_43 (by decide) ?_
  refine V_istore (ls2 := [(4, .int (0 : Int32)), (3, .int r10), (2, .int r8), (1, .int v5), (0, .ref a0)]) dX12_readPane_44 (by decide) rfl ?_
  obtain ⟨N, hf⟩ := hf
  refine V_to [4, 3, 2, 1, 0] rfl ?_
  exact vX12_readPane_L46 hn N _ _ _ _ _ _ hf
def wX12_readLight_J87 (n : Nat) (sh : Nat → Nat × Nat) (P : gS → Prop) (a0 : Nat) (x1 : Int32) (z : gS) : Prop := (oO n sh a0 8) ∧ (∃ t3 : Nat, gr z a0 10 = some t3 ∧ ((oA n sh t3 1) ∧ ((vp_in (63 : Int32) (sh t3).2) ∧ (∀ z6 : gS, z6 = si z t3 (63 : Int32).toNatClampNeg x1 → P z6))))
set_option maxRecDepth 100000 in
set_option maxHeartbeats 4000000 in
theorem vX12_readLight_J87 {E : gE} {n : Nat} {sh : Nat → Nat × Nat} {P : gS → Prop} {a0 : Nat} {x1 : Int32} {z : gS} (hn : n ≤ 1000000) (hf : wX12_readLight_J87 n sh P a0 x1 z) : V E (gR 2 0) gyX12_readLight 0 0 87 [(0, .ref a0), (1, .int x1)] [] n sh z (kN n sh P) := by
  unfold wX12_readLight_J87 at hf
  refine V_aload_n (j := 0) dX12_readLight_87 rfl rfl ?_
  obtain ⟨h2, hf⟩ := hf
  obtain ⟨t3, et3, hf⟩ := hf
  refine V_getR fl_X12_89 rfl h2.1 h2.2 et3 dX12_readLight_88 ?_
  refine V_bipush (v := (63 : Int32)) dX12_readLight_91 (by decide) ?_
  refine V_iload_n (j := 1) dX12_readLight_93 rfl rfl ?_
  obtain ⟨h4, hf⟩ := hf
  obtain ⟨h5, hf⟩ := hf
  refine V_iast h4.1 h4.s h5 dX12_readLight_94 ?_
  refine V_nz (fun z6 ez6 => ?_)
  have hf := hf z6 ez6
  exact V_return dX12_readLight_95 rfl (Nat.le_refl 0) (kN_of hf)
def wX12_readLight_J84 (n : Nat) (sh : Nat → Nat × Nat) (k2 : Nat → Int32 → gS → Prop) (P : gS → Prop) (a0 : Nat) (x1 : Int32) (z : gS) : Prop := k2 a0 x1 z
set_option maxRecDepth 100000 in
set_option maxHeartbeats 4000000 in
theorem vX12_readLight_J84 {E : gE} {n : Nat} {sh : Nat → Nat × Nat} {P : gS → Prop} {k2 : Nat → Int32 → gS → Prop} {a0 : Nat} {x1 : Int32} {z : gS} (hn : n ≤ 1000000) (hk2 : ∀ (a0 : Nat) (x1 : Int32) (z : gS), k2 a0 x1 z → V E (gR 2 0) gyX12_readLight 0 0 2 [(0, .ref a0), (1, .int x1)] [] n sh z (kN n sh P)) (hf : wX12_readLight_J84 n sh k2 P a0 x1 z) : V E (gR 2 0) gyX12_readLight 0 0 84 [(0, .ref a0), (1, .int x1)] [] n sh z (kN n sh P) := by
  unfold wX12_readLight_J84 at hf
  refine V_goto (tgt := 2) dX12_readLight_84 (by decide) ?_
  exact hk2 _ _ _ hf
def wX12_readLight_J64 (n : Nat) (sh : Nat → Nat × Nat) (k2 : Nat → Int32 → gS → Prop) (P : gS → Prop) (a0 : Nat) (x1 : Int32) (x2 : Int32) (z : gS) : Prop := (oO n sh a0 8) ∧ (if (gi z a0 8) = 0 then (∃ t11 : Nat, gr z a0 10 = some t11 ∧ ((oA n sh t11 1) ∧ ((vp_in ((93 : Int32) + x1) (sh t11).2) ∧ (∀ z14 : gS, z14 = si z t11 ((93 : Int32) + x1).toNatClampNeg x2 → (∀ v15 : Int32, v15 = x1 + (1 : Int32) → wX12_readLight_J84 n sh k2 P a0 v15 z14))))) else wX12_readLight_J84 n sh k2 P a0 x1 z)
set_option maxRecDepth 100000 in
set_option maxHeartbeats 4000000 in
theorem vX12_readLight_J64 {E : gE} {n : Nat} {sh : Nat → Nat × Nat} {P : gS → Prop} {k2 : Nat → Int32 → gS → Prop} {a0 : Nat} {x1 : Int32} {x2 : Int32} {z : gS} (hn : n ≤ 1000000) (hk2 : ∀ (a0 : Nat) (x1 : Int32) (z : gS), k2 a0 x1 z → V E (gR 2 0) gyX12_readLight 0 0 2 [(0, .ref a0), (1, .int x1)] [] n sh z (kN n sh P)) (hf : wX12_readLight_J64 n sh k2 P a0 x1 x2 z) : V E (gR 2 0) gyX12_readLight 0 0 64 [(0, .ref a0), (1, .int x1), (2, .int x2)] [] n sh z (kN n sh P) := by
  unfold wX12_readLight_J64 at hf
  refine V_aload_n (j := 0) dX12_readLight_64 rfl rfl ?_
  obtain ⟨h10, hf⟩ := hf
  refine V_getI fl_X12_159 rfl h10.1 h10.2 dX12_readLight_65 ?_
  refine V_if_ne (tgt := 84) dX12_readLight_68 (by decide) (fun h16 => ?_) (fun h16 => ?_)
  · have hf := it_f h16 hf
    refine V_to [0, 1] rfl ?_
    exact vX12_readLight_J84 hn hk2 hf
  · have hf := it_t (Classical.not_not.mp h16) hf
    refine V_aload_n (j := 0) dX12_readLight_71 rfl rfl ?_
    obtain ⟨t11, et11, hf⟩ := hf
    refine V_getR fl_X12_89 rfl h10.1 h10.2 et11 dX12_readLight_72 ?_
    refine V_bipush (v := (93 : Int32)) dX12_readLight_75 (by decide) ?_
    refine V_iload_n (j := 1) dX12_readLight_77 rfl rfl ?_
    refine V_iadd dX12_readLight_78 ?_
    refine V_iload_n (j := 2) dX12_readLight_79 rfl rfl ?_
    obtain ⟨h12, hf⟩ := hf
    obtain ⟨h13, hf⟩ := hf
    refine V_iast h12.1 h12.s h13 dX12_readLight_80 ?_
    refine V_nz (fun z14 ez14 => ?_)
    have hf := hf z14 ez14
    obtain ⟨v15, ev15⟩ : ∃ y : Int32, y = x1 + (1 : Int32) := ⟨_, rfl⟩
    refine V_iinc (j := 1) (v := v15) (ls2 := [(1, .int v15), (0, .ref a0), (2, .int x2)]) dX12_readLight_81 rfl (by rw [ev15]; rfl) (by decide) rfl ?_
    have hf := hf v15 ev15
    refine V_to [1, 0] rfl ?_
    exact vX12_readLight_J84 hn hk2 hf
def wX12_readLight_J26 (n : Nat) (sh : Nat → Nat × Nat) (k2 : Nat → Int32 → gS → Prop) (P : gS → Prop) (a0 : Nat) (x1 : Int32) (z : gS) : Prop := (oO n sh a0 8) ∧ (wX12_takeNumber n sh a0 (0 : Int32) (1 : Int32) z (fun (r7 : Int32) (z8 : gS) => if (gi z8 a0 8) = 0 then (if x1 = (12 : Int32) then (∀ z17 : gS, z17 = si z8 a0 7 ((gi z8 a0 7) - (1 : Int32)) → (wX12_wrong n sh a0 (5 : Int32) z17 (fun (z19 : gS) => wX12_readLight_J84 n sh k2 P a0 x1 z19))) else wX12_readLight_J64 n sh k2 P a0 x1 r7 z8) else wX12_readLight_J64 n sh k2 P a0 x1 r7 z8))
set_option maxRecDepth 100000 in
set_option maxHeartbeats 4000000 in
theorem vX12_readLight_J26 {E : gE} {n : Nat} {sh : Nat → Nat × Nat} {P : gS → Prop} {k2 : Nat → Int32 → gS → Prop} {a0 : Nat} {x1 : Int32} {z : gS} (hn : n ≤ 1000000) (hk2 : ∀ (a0 : Nat) (x1 : Int32) (z : gS), k2 a0 x1 z → V E (gR 2 0) gyX12_readLight 0 0 2 [(0, .ref a0), (1, .int x1)] [] n sh z (kN n sh P)) (hf : wX12_readLight_J26 n sh k2 P a0 x1 z) : V E (gR 2 0) gyX12_readLight 0 0 26 [(0, .ref a0), (1, .int x1)] [] n sh z (kN n sh P) := by
  unfold wX12_readLight_J26 at hf
  refine V_aload_n (j := 0) dX12_readLight_26 rfl rfl ?_
  refine V_iconst (v := (0 : Int32)) dX12_readLight_27 (by decide) ?_
  refine V_iconst (v := (1 : Int32)) dX12_readLight_28 (by decide) ?_
  obtain ⟨h9, hf⟩ := hf
  refine V_cVI (ctX12_takeNumber hn hf) gc_X12_177 rfl h9.1 ⟨_, h9.2, by decide, rfl⟩ ⟨by decide, by decide, Nat.zero_le _, Nat.zero_le _⟩ (Nat.le_of_ble_eq_true rfl) dX12_readLight_29 rfl hn (fun r7 z8 hf => ?_)
  refine V_istore_n (ls2 := [(2, .int r7), (0, .ref a0), (1, .int x1)]) dX12_readLight_32 rfl (by decide) rfl ?_
  refine V_aload_n (j := 1) dX12_readLight_33 rfl rfl ?_
  refine V_getI fl_X12_159 rfl h9.1 h9.2 dX12_readLight_34 ?_
  refine V_if_ne (tgt := 64) dX12_readLight_37 (by decide) (fun h21 => ?_) (fun h21 => ?_)
  · have hf := it_f h21 hf
    refine V_to [1, 2, 0] rfl ?_
    exact vX12_readLight_J64 hn hk2 hf
  · have hf := it_t (Classical.not_not.mp h21) hf
    refine V_iload_n (j := 2) dX12_readLight_40 rfl rfl ?_
    refine V_bipush (v := (12 : Int32)) dX12_readLight_41 (by decide) ?_
    refine V_icmp_ne (tgt := 64) dX12_readLight_43 (by decide) (fun h20 => ?_) (fun h20 => ?_)
    · have hf := it_f h20 hf
      refine V_to [1, 2, 0] rfl ?_
      exact vX12_readLight_J64 hn hk2 hf
    · have hf := it_t (Classical.not_not.mp h20) hf
      refine V_aload_n (j := 1) dX12_readLight_46 rfl rfl ?_
      refine V_dup dX12_readLight_47 rfl ?_
      refine V_getI fl_X12_156 rfl h9.1 h9.2 dX12_readLight_48 ?_
      refine V_iconst (v := (1 : Int32)) dX12_readLight_51 (by decide) ?_
      refine V_isub dX12_readLight_52 ?_
      refine V_putI fl_X12_156 rfl rfl rfl rfl h9.1 h9.2 dX12_readLight_53 ?_
      refine V_nz (fun z17 ez17 => ?_)
      have hf := hf z17 ez17
      refine V_aload_n (j := 1) dX12_readLight_56 rfl rfl ?_
      refine V_iconst (v := (5 : Int32)) dX12_readLight_57 (by decide) ?_
      refine V_cVN (ctX12_wrong hn hf) gc_X12_165 rfl h9.1 ⟨_, h9.2, by decide, rfl⟩ ⟨by decide, by decide, Nat.zero_le _, Nat.zero_le _⟩ (Nat.le_of_ble_eq_true rfl) dX12_readLight_58 rfl hn (fun z19 hf => ?_)
      refine V_goto (tgt := 84) dX12_readLight_61 (by decide) ?_
      refine V_to [1, 2] rfl ?_
      exact vX12_readLight_J84 hn hk2 hf
def wX12_readLight_B2 (n : Nat) (sh : Nat → Nat × Nat) (k2 : Nat → Int32 → gS → Prop) (P : gS → Prop) (a0 : Nat) (x1 : Int32) (z : gS) : Prop := (oO n sh a0 8) ∧ (if (gi z a0 8) = 0 then (if x1 = 0 then wX12_readLight_J26 n sh k2 P a0 x1 z else (∃ t22 : Nat, gr z a0 4 = some t22 ∧ ((oA n sh t22 1) ∧ ((vp_in (gi z a0 7) (sh t22).2) ∧ (if (gi z t22 (gi z a0 7).toNatClampNeg) = (2 : Int32) then wX12_readLight_J26 n sh k2 P a0 x1 z else wX12_readLight_J87 n sh P a0 x1 z))))) else wX12_readLight_J87 n sh P a0 x1 z)
def wX12_readLight_L2 (n : Nat) (sh : Nat → Nat × Nat) (P : gS → Prop) : Nat → Nat → Int32 → gS → Prop
  | 0, _, _, _ => False
  | N + 1, a0, x1, z => wX12_readLight_B2 n sh (wX12_readLight_L2 n sh P N) P a0 x1 z
set_option maxRecDepth 100000 in
set_option maxHeartbeats 4000000 in
theorem vX12_readLight_B2 {E : gE} {n : Nat} {sh : Nat → Nat × Nat} {P : gS → Prop} {k2 : Nat → Int32 → gS → Prop} {a0 : Nat} {x1 : Int32} {z : gS} (hn : n ≤ 1000000) (hk2 : ∀ (a0 : Nat) (x1 : Int32) (z : gS), k2 a0 x1 z → V E (gR 2 0) gyX12_readLight 0 0 2 [(0, .ref a0), (1, .int x1)] [] n sh z (kN n sh P)) (hf : wX12_readLight_B2 n sh k2 P a0 x1 z) : V E (gR 2 0) gyX12_readLight 0 0 2 [(0, .ref a0), (1, .int x1)] [] n sh z (kN n sh P) := by
  unfold wX12_readLight_B2 at hf
  refine V_aload_n (j := 0) dX12_readLight_2 rfl rfl ?_
  obtain ⟨h1, hf⟩ := hf
  refine V_getI fl_X12_159 rfl h1.1 h1.2 dX12_readLight_3 ?_
  refine V_if_ne (tgt := 87) dX12_readLight_6 (by decide) (fun h27 => ?_) (fun h27 => ?_)
  · have hf := it_f h27 hf
    exact vX12_readLight_J87 hn hf
  · have hf := it_t (Classical.not_not.mp h27) hf
    refine V_iload_n (j := 1) dX12_readLight_9 rfl rfl ?_
    refine V_if_eq (tgt := 26) dX12_readLight_10 (by decide) (fun h26 => ?_) (fun h26 => ?_)
    · have hf := it_t h26 hf
      exact vX12_readLight_J26 hn hk2 hf
    · have hf := it_f h26 hf
      refine V_aload_n (j := 0) dX12_readLight_13 rfl rfl ?_
      obtain ⟨t22, et22, hf⟩ := hf
      refine V_getR fl_X12_24 rfl h1.1 h1.2 et22 dX12_readLight_14 ?_
      refine V_aload_n (j := 0) dX12_readLight_17 rfl rfl ?_
      refine V_getI fl_X12_156 rfl h1.1 h1.2 dX12_readLight_18 ?_
      obtain ⟨h23, hf⟩ := hf
      obtain ⟨h24, hf⟩ := hf
      refine V_iald h23.1 h23.s h24 dX12_readLight_21 ?_
      refine V_iconst (v := (2 : Int32)) dX12_readLight_22 (by decide) ?_
      refine V_icmp_ne (tgt := 87) dX12_readLight_23 (by decide) (fun h25 => ?_) (fun h25 => ?_)
      · have hf := it_f h25 hf
        exact vX12_readLight_J87 hn hf
      · have hf := it_t (Classical.not_not.mp h25) hf
        exact vX12_readLight_J26 hn hk2 hf
set_option maxRecDepth 100000 in
set_option maxHeartbeats 4000000 in
theorem vX12_readLight_L2 {E : gE} {n : Nat} {sh : Nat → Nat × Nat} {P : gS → Prop} (hn : n ≤ 1000000) : ∀ (N : Nat) (a0 : Nat) (x1 : Int32) (z : gS), wX12_readLight_L2 n sh P N a0 x1 z → V E (gR 2 0) gyX12_readLight 0 0 2 [(0, .ref a0), (1, .int x1)] [] n sh z (kN n sh P) := by
  intro N
  induction N with
  | zero => intro a0 x1 z hf; exact False.elim hf
  | succ N ih => intro a0 x1 z hf; exact vX12_readLight_B2 hn ih hf
def wX12_readLight (n : Nat) (sh : Nat → Nat × Nat) (a0 : Nat) (z : gS) (P : gS → Prop) : Prop := (∃ N, wX12_readLight_L2 n sh P N a0 (0 : Int32) z)
set_option maxRecDepth 100000 in
set_option maxHeartbeats 4000000 in
theorem ctX12_readLight {E : gE} {n : Nat} {sh : Nat → Nat × Nat} {a0 : Nat} {z : gS} {P : gS → Prop} (hn : n ≤ 1000000) (hf : wX12_readLight n sh a0 z P) : VM E 2 0 gyX12_readLight [.ref a0] n sh z (kN n sh P) := by
  unfold wX12_readLight at hf
  refine VM.of (by decide +kernel) (Nat.le_of_ble_eq_true rfl) ?_
  show V E (gR 2 0) gyX12_readLight 0 0 0 [(0, .ref a0)] [] n sh z (kN n sh P)
  refine V_iconst (v := (0 : Int32)) dX12_readLight_0 (by decide) ?_
  refine V_istore_n (ls2 := [(1, .int (0 : Int32)), (0, .ref a0)]) dX12_readLight_1 rfl (by decide) rfl ?_
  obtain ⟨N, hf⟩ := hf
  refine V_to [1, 0] rfl ?_
  exact vX12_readLight_L2 hn N _ _ _ hf
def wX12_emit (n : Nat) (sh : Nat → Nat × Nat) (a0 : Nat) (x1 : Int32) (x2 : Int32) (z : gS) (P : gS → Prop) : Prop := (oO n sh a0 8) ∧ (∃ t2 : Nat, gr z a0 11 = some t2 ∧ ((oA n sh t2 1) ∧ ((vp_in ((1100 : Int32) + (gi z a0 13)) (sh t2).2) ∧ (∀ z5 : gS, z5 = si z t2 ((1100 : Int32) + (gi z a0 13)).toNatClampNeg x1 → (∃ t6 : Nat, gr z5 a0 12 = some t6 ∧ ((oA n sh t6 1) ∧ ((vp_in ((1100 : Int32) + (gi z5 a0 13)) (sh t6).2) ∧ (∀ z9 : gS, z9 = si z5 t6 ((1100 : Int32) + (gi z5 a0 13)).toNatClampNeg x2 → (∀ z10 : gS, z10 = si z9 a0 13 ((gi z9 a0 13) + (1 : Int32)) → P z10)))))))))
set_option maxRecDepth 100000 in
set_option maxHeartbeats 4000000 in
theorem ctX12_emit {E : gE} {n : Nat} {sh : Nat → Nat × Nat} {a0 : Nat} {x1 : Int32} {x2 : Int32} {z : gS} {P : gS → Prop} (hn : n ≤ 1000000) (hf : wX12_emit n sh a0 x1 x2 z P) : VM E 0 0 gyX12_emit [.ref a0, .int x1, .int x2] n sh z (kN n sh P) := by
  unfold wX12_emit at hf
  refine VM.of (by decide +kernel) (Nat.le_of_ble_eq_true rfl) ?_
  show V E (gR 0 0) gyX12_emit 0 0 0 [(0, .ref a0), (1, .int x1), (2, .int x2)] [] n sh z (kN n sh P)
  refine V_aload_n (j := 0) dX12_emit_0 rfl rfl ?_
  obtain ⟨h1, hf⟩ := hf
  obtain ⟨t2, et2, hf⟩ := hf
  refine V_getR fl_X12_92 rfl h1.1 h1.2 et2 dX12_emit_1 ?_
  refine V_sipush (v := (1100 : Int32)) dX12_emit_4 (by decide) ?_
  refine V_aload_n (j := 0) dX12_emit_7 rfl rfl ?_
  refine V_getI fl_X12_205 rfl h1.1 h1.2 dX12_emit_8 ?_
  refine V_iadd dX12_emit_11 ?_
  refine V_iload_n (j := 1) dX12_emit_12 rfl rfl ?_
  obtain ⟨h3, hf⟩ := hf
  obtain ⟨h4, hf⟩ := hf
  refine V_iast h3.1 h3.s h4 dX12_emit_13 ?_
  refine V_nz (fun z5 ez5 => ?_)
  have hf := hf z5 ez5
  refine V_aload_n (j := 0) dX12_emit_14 rfl rfl ?_
  obtain ⟨t6, et6, hf⟩ := hf
  refine V_getR fl_X12_95 rfl h1.1 h1.2 et6 dX12_emit_15 ?_
  refine V_sipush (v := (1100 : Int32)) dX12_emit_18 (by decide) ?_
  refine V_aload_n (j := 0) dX12_emit_21 rfl rfl ?_
  refine V_getI fl_X12_205 rfl h1.1 h1.2 dX12_emit_22 ?_
  refine V_iadd dX12_emit_25 ?_
  refine V_iload_n (j := 2) dX12_emit_26 rfl rfl ?_
  obtain ⟨h7, hf⟩ := hf
  obtain ⟨h8, hf⟩ := hf
  refine V_iast h7.1 h7.s h8 dX12_emit_27 ?_
  refine V_nz (fun z9 ez9 => ?_)
  have hf := hf z9 ez9
  refine V_aload_n (j := 0) dX12_emit_28 rfl rfl ?_
  refine V_dup dX12_emit_29 rfl ?_
  refine V_getI fl_X12_205 rfl h1.1 h1.2 dX12_emit_30 ?_
  refine V_iconst (v := (1 : Int32)) dX12_emit_33 (by decide) ?_
  refine V_iadd dX12_emit_34 ?_
  refine V_putI fl_X12_205 rfl rfl rfl rfl h1.1 h1.2 dX12_emit_35 ?_
  refine V_nz (fun z10 ez10 => ?_)
  have hf := hf z10 ez10
  exact V_return dX12_emit_38 rfl (Nat.le_refl 0) (kN_of hf)
def wX12_takePart_J165 (n : Nat) (sh : Nat → Nat × Nat) (rcX12_whole : Nat → Int32 → gS → (gS → Prop) → Prop) (rcX12_takePart : Nat → Int32 → gS → (gS → Prop) → Prop) (P : gS → Prop) (a0 : Nat) (s0 : Int32) (s1 : Int32) (s2 : Nat) (z : gS) : Prop := (oO n sh s2 8) ∧ (wX12_emit n sh s2 s1 s0 z (fun (z14 : gS) => (oO n sh a0 8) ∧ (∀ z17 : gS, z17 = si z14 a0 7 ((gi z14 a0 7) + (1 : Int32)) → P z17)))
set_option maxRecDepth 100000 in
set_option maxHeartbeats 4000000 in
theorem vX12_takePart_J165 {E : gE} {n : Nat} {sh : Nat → Nat × Nat} {P : gS → Prop} {rcX12_whole : Nat → Int32 → gS → (gS → Prop) → Prop} {rcX12_takePart : Nat → Int32 → gS → (gS → Prop) → Prop} {a0 : Nat} {s0 : Int32} {s1 : Int32} {s2 : Nat} {z : gS} (hn : n ≤ 1000000) {dd : Nat} (hrcX12_whole : ∀ (b0 : Nat) (b1 : Int32) (z : gS) (P : gS → Prop), rcX12_whole b0 b1 z P → VM E dd 0 gyX12_whole [.ref b0, .int b1] n sh z (kN n sh P)) (hrcX12_takePart : ∀ (b0 : Nat) (b1 : Int32) (z : gS) (P : gS → Prop), rcX12_takePart b0 b1 z P → VM E dd 0 gyX12_takePart [.ref b0, .int b1] n sh z (kN n sh P)) (hdd : 9 ≤ dd) (hf : wX12_takePart_J165 n sh rcX12_whole rcX12_takePart P a0 s0 s1 s2 z) : V E (gR (dd + 1) 0) gyX12_takePart 0 0 165 [(0, .ref a0)] [.int s0, .int s1, .ref s2] n sh z (kN n sh P) := by
  unfold wX12_takePart_J165 at hf
  obtain ⟨h15, hf⟩ := hf
  refine V_cVN (ctX12_emit hn hf) gc_X12_240 rfl h15.1 ⟨_, h15.2, by decide, rfl⟩ ⟨(by show 0 + 1 ≤ dd + 1; omega), (by show 64 * 0 + 19 + 3 ≤ 64 * (dd + 1); omega), Nat.zero_le _, Nat.zero_le _⟩ (Nat.le_of_ble_eq_true rfl) dX12_takePart_165 rfl hn (fun z14 hf => ?_)
  refine V_aload_n (j := 0) dX12_takePart_168 rfl rfl ?_
  refine V_dup dX12_takePart_169 rfl ?_
  obtain ⟨h16, hf⟩ := hf
  refine V_getI fl_X12_156 rfl h16.1 h16.2 dX12_takePart_170 ?_
  refine V_iconst (v := (1 : Int32)) dX12_takePart_173 (by decide) ?_
  refine V_iadd dX12_takePart_174 ?_
  refine V_putI fl_X12_156 rfl rfl rfl rfl h16.1 h16.2 dX12_takePart_175 ?_
  refine V_nz (fun z17 ez17 => ?_)
  have hf := hf z17 ez17
  exact V_return dX12_takePart_178 rfl (Nat.le_refl 0) (kN_of hf)
def wX12_takePart_J147 (n : Nat) (sh : Nat → Nat × Nat) (rcX12_whole : Nat → Int32 → gS → (gS → Prop) → Prop) (rcX12_takePart : Nat → Int32 → gS → (gS → Prop) → Prop) (P : gS → Prop) (a0 : Nat) (x2 : Int32) (x3 : Int32) (s0 : Int32) (s1 : Nat) (z : gS) : Prop := if x2 = 0 then wX12_takePart_J165 n sh rcX12_whole rcX12_takePart P a0 x3 s0 s1 z else ((oO n sh a0 8) ∧ (∃ t19 : Nat, gr z a0 6 = some t19 ∧ ((oA n sh t19 2) ∧ ((vp_in (gi z a0 7) (sh t19).2) ∧ wX12_takePart_J165 n sh rcX12_whole rcX12_takePart P a0 (gl z t19 (gi z a0 7).toNatClampNeg).toInt32 s0 s1 z))))
set_option maxRecDepth 100000 in
set_option maxHeartbeats 4000000 in
theorem vX12_takePart_J147 {E : gE} {n : Nat} {sh : Nat → Nat × Nat} {P : gS → Prop} {rcX12_whole : Nat → Int32 → gS → (gS → Prop) → Prop} {rcX12_takePart : Nat → Int32 → gS → (gS → Prop) → Prop} {a0 : Nat} {x2 : Int32} {x3 : Int32} {s0 : Int32} {s1 : Nat} {z : gS} (hn : n ≤ 1000000) {dd : Nat} (hrcX12_whole : ∀ (b0 : Nat) (b1 : Int32) (z : gS) (P : gS → Prop), rcX12_whole b0 b1 z P → VM E dd 0 gyX12_whole [.ref b0, .int b1] n sh z (kN n sh P)) (hrcX12_takePart : ∀ (b0 : Nat) (b1 : Int32) (z : gS) (P : gS → Prop), rcX12_takePart b0 b1 z P → VM E dd 0 gyX12_takePart [.ref b0, .int b1] n sh z (kN n sh P)) (hdd : 9 ≤ dd) (hf : wX12_takePart_J147 n sh rcX12_whole rcX12_takePart P a0 x2 x3 s0 s1 z) : V E (gR (dd + 1) 0) gyX12_takePart 0 0 147 [(0, .ref a0), (2, .int x2), (3, .int x3)] [.int s0, .ref s1] n sh z (kN n sh P) := by
  unfold wX12_takePart_J147 at hf
  refine V_iload_n (j := 1) dX12_takePart_147 rfl rfl ?_
  refine V_if_eq (tgt := 164) dX12_takePart_148 (by decide) (fun h22 => ?_) (fun h22 => ?_)
  · have hf := it_t h22 hf
    refine V_iload_n (j := 2) dX12_takePart_164 rfl rfl ?_
    refine V_to [0] rfl ?_
    exact vX12_takePart_J165 hn hrcX12_whole hrcX12_takePart hdd hf
  · have hf := it_f h22 hf
    refine V_aload_n (j := 0) dX12_takePart_151 rfl rfl ?_
    obtain ⟨h18, hf⟩ := hf
    obtain ⟨t19, et19, hf⟩ := hf
    refine V_getR fl_X12_30 rfl h18.1 h18.2 et19 dX12_takePart_152 ?_
    refine V_aload_n (j := 0) dX12_takePart_155 rfl rfl ?_
    refine V_getI fl_X12_156 rfl h18.1 h18.2 dX12_takePart_156 ?_
    obtain ⟨h20, hf⟩ := hf
    obtain ⟨h21, hf⟩ := hf
    refine V_lald h20.1 h20.s h21 dX12_takePart_159 ?_
    refine V_l2i dX12_takePart_160 ?_
    refine V_goto (tgt := 165) dX12_takePart_161 (by decide) ?_
    refine V_to [0] rfl ?_
    exact vX12_takePart_J165 hn hrcX12_whole hrcX12_takePart hdd hf
def wX12_takePart_J79 (n : Nat) (sh : Nat → Nat × Nat) (rcX12_whole : Nat → Int32 → gS → (gS → Prop) → Prop) (rcX12_takePart : Nat → Int32 → gS → (gS → Prop) → Prop) (P : gS → Prop) (a0 : Nat) (x1 : Int32) (x2 : Int32) (x3 : Int32) (z : gS) : Prop := (oO n sh a0 8) ∧ (if (gi z a0 8) ≤ 0 then (wX12_hasWord n sh a0 (19 : Int32) z (fun (r9 : Int32) (z10 : gS) => if r9 = 0 then (wX12_hasSign n sh a0 (40 : Int32) z10 (fun (r11 : Int32) (z12 : gS) => if r11 = 0 then (if x2 = 0 then wX12_takePart_J147 n sh rcX12_whole rcX12_takePart P a0 x2 x3 (2 : Int32) a0 z12 else wX12_takePart_J147 n sh rcX12_whole rcX12_takePart P a0 x2 x3 (1 : Int32) a0 z12) else (rcX12_whole a0 (x1 + (1 : Int32)) z12 (fun (z25 : gS) => wX12_takeSign n sh a0 (41 : Int32) z25 (fun (z27 : gS) => P z27))))) else (rcX12_takePart a0 (x1 + (1 : Int32)) z10 (fun (z30 : gS) => wX12_emit n sh a0 (3 : Int32) (0 : Int32) z30 (fun (z32 : gS) => P z32))))) else P z)
set_option maxRecDepth 100000 in
set_option maxHeartbeats 4000000 in
theorem vX12_takePart_J79 {E : gE} {n : Nat} {sh : Nat → Nat × Nat} {P : gS → Prop} {rcX12_whole : Nat → Int32 → gS → (gS → Prop) → Prop} {rcX12_takePart : Nat → Int32 → gS → (gS → Prop) → Prop} {a0 : Nat} {x1 : Int32} {x2 : Int32} {x3 : Int32} {z : gS} (hn : n ≤ 1000000) {dd : Nat} (hrcX12_whole : ∀ (b0 : Nat) (b1 : Int32) (z : gS) (P : gS → Prop), rcX12_whole b0 b1 z P → VM E dd 0 gyX12_whole [.ref b0, .int b1] n sh z (kN n sh P)) (hrcX12_takePart : ∀ (b0 : Nat) (b1 : Int32) (z : gS) (P : gS → Prop), rcX12_takePart b0 b1 z P → VM E dd 0 gyX12_takePart [.ref b0, .int b1] n sh z (kN n sh P)) (hdd : 9 ≤ dd) (hf : wX12_takePart_J79 n sh rcX12_whole rcX12_takePart P a0 x1 x2 x3 z) : V E (gR (dd + 1) 0) gyX12_takePart 0 0 79 [(0, .ref a0), (1, .int x1), (2, .int x2), (3, .int x3)] [] n sh z (kN n sh P) := by
  unfold wX12_takePart_J79 at hf
  refine V_aload_n (j := 0) dX12_takePart_79 rfl rfl ?_
  obtain ⟨h8, hf⟩ := hf
  refine V_getI fl_X12_159 rfl h8.1 h8.2 dX12_takePart_80 ?_
  refine V_if_le (tgt := 87) dX12_takePart_83 (by decide) (fun h34 => ?_) (fun h34 => ?_)
  · have hf := it_t h34 hf
    refine V_aload_n (j := 0) dX12_takePart_87 rfl rfl ?_
    refine V_bipush (v := (19 : Int32)) dX12_takePart_88 (by decide) ?_
    refine V_cVI (ctX12_hasWord hn hf) gc_X12_171 rfl h8.1 ⟨_, h8.2, by decide, rfl⟩ ⟨(by show 1 + 1 ≤ dd + 1; omega), (by show 64 * 1 + 19 + 3 ≤ 64 * (dd + 1); omega), Nat.zero_le _, Nat.zero_le _⟩ (Nat.le_of_ble_eq_true rfl) dX12_takePart_90 rfl hn (fun r9 z10 hf => ?_)
    refine V_if_eq (tgt := 112) dX12_takePart_93 (by decide) (fun h33 => ?_) (fun h33 => ?_)
    · have hf := it_t h33 hf
      refine V_aload_n (j := 0) dX12_takePart_112 rfl rfl ?_
      refine V_bipush (v := (40 : Int32)) dX12_takePart_113 (by decide) ?_
      refine V_cVI (ctX12_hasSign hn hf) gc_X12_253 rfl h8.1 ⟨_, h8.2, by decide, rfl⟩ ⟨(by show 1 + 1 ≤ dd + 1; omega), (by show 64 * 1 + 19 + 3 ≤ 64 * (dd + 1); omega), Nat.zero_le _, Nat.zero_le _⟩ (Nat.le_of_ble_eq_true rfl) dX12_takePart_115 rfl hn (fun r11 z12 hf => ?_)
      refine V_if_eq (tgt := 137) dX12_takePart_118 (by decide) (fun h28 => ?_) (fun h28 => ?_)
      · have hf := it_t h28 hf
        refine V_aload_n (j := 0) dX12_takePart_137 rfl rfl ?_
        refine V_iload_n (j := 2) dX12_takePart_138 rfl rfl ?_
        refine V_if_eq (tgt := 146) dX12_takePart_139 (by decide) (fun h23 => ?_) (fun h23 => ?_)
        · have hf := it_t h23 hf
          refine V_iconst (v := (2 : Int32)) dX12_takePart_146 (by decide) ?_
          refine V_to [0, 2, 3] rfl ?_
          exact vX12_takePart_J147 hn hrcX12_whole hrcX12_takePart hdd hf
        · have hf := it_f h23 hf
          refine V_iconst (v := (1 : Int32)) dX12_takePart_142 (by decide) ?_
          refine V_goto (tgt := 147) dX12_takePart_143 (by decide) ?_
          refine V_to [0, 2, 3] rfl ?_
          exact vX12_takePart_J147 hn hrcX12_whole hrcX12_takePart hdd hf
      · have hf := it_f h28 hf
        refine V_aload_n (j := 0) dX12_takePart_121 rfl rfl ?_
        refine V_iload_n (j := 1) dX12_takePart_122 rfl rfl ?_
        refine V_iconst (v := (1 : Int32)) dX12_takePart_123 (by decide) ?_
        refine V_iadd dX12_takePart_124 ?_
        refine V_cVN (hrcX12_whole _ _ _ _ hf) gc_X12_237 rfl h8.1 ⟨_, h8.2, by decide, rfl⟩ ⟨Nat.le_refl _, (by show 64 * dd + 19 + 3 ≤ 64 * (dd + 1); omega), Nat.zero_le _, Nat.zero_le _⟩ (Nat.le_of_ble_eq_true rfl) dX12_takePart_125 rfl hn (fun z25 hf => ?_)
        refine V_aload_n (j := 0) dX12_takePart_128 rfl rfl ?_
        refine V_bipush (v := (41 : Int32)) dX12_takePart_129 (by decide) ?_
        refine V_cVN (ctX12_takeSign hn hf) gc_X12_214 rfl h8.1 ⟨_, h8.2, by decide, rfl⟩ ⟨(by show 1 + 1 ≤ dd + 1; omega), (by show 64 * 1 + 19 + 2 ≤ 64 * (dd + 1); omega), Nat.zero_le _, Nat.zero_le _⟩ (Nat.le_of_ble_eq_true rfl) dX12_takePart_131 rfl hn (fun z27 hf => ?_)
        refine V_goto (tgt := 178) dX12_takePart_134 (by decide) ?_
        exact V_return dX12_takePart_178 rfl (Nat.le_refl 0) (kN_of hf)
    · have hf := it_f h33 hf
      refine V_aload_n (j := 0) dX12_takePart_96 rfl rfl ?_
      refine V_iload_n (j := 1) dX12_takePart_97 rfl rfl ?_
      refine V_iconst (v := (1 : Int32)) dX12_takePart_98 (by decide) ?_
      refine V_iadd dX12_takePart_99 ?_
      refine V_cVN (hrcX12_takePart _ _ _ _ hf) gc_X12_259 rfl h8.1 ⟨_, h8.2, by decide, rfl⟩ ⟨Nat.le_refl _, (by show 64 * dd + 19 + 4 ≤ 64 * (dd + 1); omega), Nat.zero_le _, Nat.zero_le _⟩ (Nat.le_of_ble_eq_true rfl) dX12_takePart_100 rfl hn (fun z30 hf => ?_)
      refine V_aload_n (j := 0) dX12_takePart_103 rfl rfl ?_
      refine V_iconst (v := (3 : Int32)) dX12_takePart_104 (by decide) ?_
      refine V_iconst (v := (0 : Int32)) dX12_takePart_105 (by decide) ?_
      refine V_cVN (ctX12_emit hn hf) gc_X12_240 rfl h8.1 ⟨_, h8.2, by decide, rfl⟩ ⟨(by show 0 + 1 ≤ dd + 1; omega), (by show 64 * 0 + 19 + 3 ≤ 64 * (dd + 1); omega), Nat.zero_le _, Nat.zero_le _⟩ (Nat.le_of_ble_eq_true rfl) dX12_takePart_106 rfl hn (fun z32 hf => ?_)
      refine V_goto (tgt := 178) dX12_takePart_109 (by decide) ?_
      exact V_return dX12_takePart_178 rfl (Nat.le_refl 0) (kN_of hf)
  · have hf := it_f h34 hf
    exact V_return dX12_takePart_86 rfl (Nat.le_refl 0) (kN_of hf)
def wX12_takePart_J69 (n : Nat) (sh : Nat → Nat × Nat) (rcX12_whole : Nat → Int32 → gS → (gS → Prop) → Prop) (rcX12_takePart : Nat → Int32 → gS → (gS → Prop) → Prop) (P : gS → Prop) (a0 : Nat) (x1 : Int32) (x2 : Int32) (x3 : Int32) (z : gS) : Prop := if x1 = (5 : Int32) then ((oO n sh a0 8) ∧ (wX12_wrong n sh a0 (5 : Int32) z (fun (z36 : gS) => wX12_takePart_J79 n sh rcX12_whole rcX12_takePart P a0 x1 x2 x3 z36))) else wX12_takePart_J79 n sh rcX12_whole rcX12_takePart P a0 x1 x2 x3 z
set_option maxRecDepth 100000 in
set_option maxHeartbeats 4000000 in
theorem vX12_takePart_J69 {E : gE} {n : Nat} {sh : Nat → Nat × Nat} {P : gS → Prop} {rcX12_whole : Nat → Int32 → gS → (gS → Prop) → Prop} {rcX12_takePart : Nat → Int32 → gS → (gS → Prop) → Prop} {a0 : Nat} {x1 : Int32} {x2 : Int32} {x3 : Int32} {z : gS} (hn : n ≤ 1000000) {dd : Nat} (hrcX12_whole : ∀ (b0 : Nat) (b1 : Int32) (z : gS) (P : gS → Prop), rcX12_whole b0 b1 z P → VM E dd 0 gyX12_whole [.ref b0, .int b1] n sh z (kN n sh P)) (hrcX12_takePart : ∀ (b0 : Nat) (b1 : Int32) (z : gS) (P : gS → Prop), rcX12_takePart b0 b1 z P → VM E dd 0 gyX12_takePart [.ref b0, .int b1] n sh z (kN n sh P)) (hdd : 9 ≤ dd) (hf : wX12_takePart_J69 n sh rcX12_whole rcX12_takePart P a0 x1 x2 x3 z) : V E (gR (dd + 1) 0) gyX12_takePart 0 0 69 [(0, .ref a0), (1, .int x1), (2, .int x2), (3, .int x3)] [] n sh z (kN n sh P) := by
  unfold wX12_takePart_J69 at hf
  refine V_iload_n (j := 1) dX12_takePart_69 rfl rfl ?_
  refine V_iconst (v := (5 : Int32)) dX12_takePart_70 (by decide) ?_
  refine V_icmp_ne (tgt := 79) dX12_takePart_71 (by decide) (fun h38 => ?_) (fun h38 => ?_)
  · have hf := it_f h38 hf
    exact vX12_takePart_J79 hn hrcX12_whole hrcX12_takePart hdd hf
  · have hf := it_t (Classical.not_not.mp h38) hf
    refine V_aload_n (j := 0) dX12_takePart_74 rfl rfl ?_
    refine V_iconst (v := (5 : Int32)) dX12_takePart_75 (by decide) ?_
    obtain ⟨h37, hf⟩ := hf
    refine V_cVN (ctX12_wrong hn hf) gc_X12_165 rfl h37.1 ⟨_, h37.2, by decide, rfl⟩ ⟨(by show 0 + 1 ≤ dd + 1; omega), (by show 64 * 0 + 19 + 2 ≤ 64 * (dd + 1); omega), Nat.zero_le _, Nat.zero_le _⟩ (Nat.le_of_ble_eq_true rfl) dX12_takePart_76 rfl hn (fun z36 hf => ?_)
    exact vX12_takePart_J79 hn hrcX12_whole hrcX12_takePart hdd hf
def wX12_takePart_J26 (n : Nat) (sh : Nat → Nat × Nat) (rcX12_whole : Nat → Int32 → gS → (gS → Prop) → Prop) (rcX12_takePart : Nat → Int32 → gS → (gS → Prop) → Prop) (P : gS → Prop) (a0 : Nat) (x1 : Int32) (s0 : Int32) (z : gS) : Prop := (oO n sh a0 8) ∧ (wX12_wordHere n sh a0 (22 : Int32) (4 : Int32) z (fun (r5 : Int32) (z6 : gS) => if 0 ≤ r5 then wX12_takePart_J69 n sh rcX12_whole rcX12_takePart P a0 x1 s0 r5 z6 else (if s0 = 0 then (wX12_isSign n sh a0 (40 : Int32) z6 (fun (r39 : Int32) (z40 : gS) => if r39 = 0 then (wX12_isWord n sh a0 (19 : Int32) z40 (fun (r41 : Int32) (z42 : gS) => if r41 = 0 then (wX12_wrong n sh a0 (1 : Int32) z42 (fun (z44 : gS) => wX12_takePart_J79 n sh rcX12_whole rcX12_takePart P a0 x1 s0 r5 z44)) else wX12_takePart_J69 n sh rcX12_whole rcX12_takePart P a0 x1 s0 r5 z42)) else wX12_takePart_J69 n sh rcX12_whole rcX12_takePart P a0 x1 s0 r5 z40)) else wX12_takePart_J69 n sh rcX12_whole rcX12_takePart P a0 x1 s0 r5 z6)))
set_option maxRecDepth 100000 in
set_option maxHeartbeats 4000000 in
theorem vX12_takePart_J26 {E : gE} {n : Nat} {sh : Nat → Nat × Nat} {P : gS → Prop} {rcX12_whole : Nat → Int32 → gS → (gS → Prop) → Prop} {rcX12_takePart : Nat → Int32 → gS → (gS → Prop) → Prop} {a0 : Nat} {x1 : Int32} {s0 : Int32} {z : gS} (hn : n ≤ 1000000) {dd : Nat} (hrcX12_whole : ∀ (b0 : Nat) (b1 : Int32) (z : gS) (P : gS → Prop), rcX12_whole b0 b1 z P → VM E dd 0 gyX12_whole [.ref b0, .int b1] n sh z (kN n sh P)) (hrcX12_takePart : ∀ (b0 : Nat) (b1 : Int32) (z : gS) (P : gS → Prop), rcX12_takePart b0 b1 z P → VM E dd 0 gyX12_takePart [.ref b0, .int b1] n sh z (kN n sh P)) (hdd : 9 ≤ dd) (hf : wX12_takePart_J26 n sh rcX12_whole rcX12_takePart P a0 x1 s0 z) : V E (gR (dd + 1) 0) gyX12_takePart 0 0 26 [(0, .ref a0), (1, .int x1)] [.int s0] n sh z (kN n sh P) := by
  unfold wX12_takePart_J26 at hf
  refine V_istore_n (ls2 := [(2, .int s0), (0, .ref a0), (1, .int x1)]) dX12_takePart_26 rfl (by decide) rfl ?_
  refine V_aload_n (j := 1) dX12_takePart_27 rfl rfl ?_
  refine V_bipush (v := (22 : Int32)) dX12_takePart_28 (by decide) ?_
  refine V_iconst (v := (4 : Int32)) dX12_takePart_30 (by decide) ?_
  obtain ⟨h7, hf⟩ := hf
  refine V_cVI (ctX12_wordHere hn hf) gc_X12_181 rfl h7.1 ⟨_, h7.2, by decide, rfl⟩ ⟨(by show 1 + 1 ≤ dd + 1; omega), (by show 64 * 1 + 19 + 5 ≤ 64 * (dd + 1); omega), Nat.zero_le _, Nat.zero_le _⟩ (Nat.le_of_ble_eq_true rfl) dX12_takePart_31 rfl hn (fun r5 z6 hf => ?_)
  refine V_istore_n (ls2 := [(3, .int r5), (2, .int s0), (0, .ref a0), (1, .int x1)]) dX12_takePart_34 rfl (by decide) rfl ?_
  refine V_iload_n (j := 0) dX12_takePart_35 rfl rfl ?_
  refine V_if_ge (tgt := 69) dX12_takePart_36 (by decide) (fun h48 => ?_) (fun h48 => ?_)
  · have hf := it_t h48 hf
    refine V_to [2, 3, 1, 0] rfl ?_
    exact vX12_takePart_J69 hn hrcX12_whole hrcX12_takePart hdd hf
  · have hf := it_f h48 hf
    refine V_iload_n (j := 1) dX12_takePart_39 rfl rfl ?_
    refine V_if_ne (tgt := 69) dX12_takePart_40 (by decide) (fun h47 => ?_) (fun h47 => ?_)
    · have hf := it_f h47 hf
      refine V_to [2, 3, 1, 0] rfl ?_
      exact vX12_takePart_J69 hn hrcX12_whole hrcX12_takePart hdd hf
    · have hf := it_t (Classical.not_not.mp h47) hf
      refine V_aload_n (j := 2) dX12_takePart_43 rfl rfl ?_
      refine V_bipush (v := (40 : Int32)) dX12_takePart_44 (by decide) ?_
      refine V_cVI (ctX12_isSign hn hf) gc_X12_162 rfl h7.1 ⟨_, h7.2, by decide, rfl⟩ ⟨(by show 0 + 1 ≤ dd + 1; omega), (by show 64 * 0 + 19 + 2 ≤ 64 * (dd + 1); omega), Nat.zero_le _, Nat.zero_le _⟩ (Nat.le_of_ble_eq_true rfl) dX12_takePart_46 rfl hn (fun r39 z40 hf => ?_)
      refine V_if_ne (tgt := 69) dX12_takePart_49 (by decide) (fun h46 => ?_) (fun h46 => ?_)
      · have hf := it_f h46 hf
        refine V_to [2, 3, 1, 0] rfl ?_
        exact vX12_takePart_J69 hn hrcX12_whole hrcX12_takePart hdd hf
      · have hf := it_t (Classical.not_not.mp h46) hf
        refine V_aload_n (j := 2) dX12_takePart_52 rfl rfl ?_
        refine V_bipush (v := (19 : Int32)) dX12_takePart_53 (by decide) ?_
        refine V_cVI (ctX12_isWord hn hf) gc_X12_168 rfl h7.1 ⟨_, h7.2, by decide, rfl⟩ ⟨(by show 0 + 1 ≤ dd + 1; omega), (by show 64 * 0 + 19 + 2 ≤ 64 * (dd + 1); omega), Nat.zero_le _, Nat.zero_le _⟩ (Nat.le_of_ble_eq_true rfl) dX12_takePart_55 rfl hn (fun r41 z42 hf => ?_)
        refine V_if_ne (tgt := 69) dX12_takePart_58 (by decide) (fun h45 => ?_) (fun h45 => ?_)
        · have hf := it_f h45 hf
          refine V_to [2, 3, 1, 0] rfl ?_
          exact vX12_takePart_J69 hn hrcX12_whole hrcX12_takePart hdd hf
        · have hf := it_t (Classical.not_not.mp h45) hf
          refine V_aload_n (j := 2) dX12_takePart_61 rfl rfl ?_
          refine V_iconst (v := (1 : Int32)) dX12_takePart_62 (by decide) ?_
          refine V_cVN (ctX12_wrong hn hf) gc_X12_165 rfl h7.1 ⟨_, h7.2, by decide, rfl⟩ ⟨(by show 0 + 1 ≤ dd + 1; omega), (by show 64 * 0 + 19 + 2 ≤ 64 * (dd + 1); omega), Nat.zero_le _, Nat.zero_le _⟩ (Nat.le_of_ble_eq_true rfl) dX12_takePart_63 rfl hn (fun z44 hf => ?_)
          refine V_goto (tgt := 79) dX12_takePart_66 (by decide) ?_
          refine V_to [2, 3, 1, 0] rfl ?_
          exact vX12_takePart_J79 hn hrcX12_whole hrcX12_takePart hdd hf
def wX12_takePart (n : Nat) (sh : Nat → Nat × Nat) (rcX12_whole : Nat → Int32 → gS → (gS → Prop) → Prop) (rcX12_takePart : Nat → Int32 → gS → (gS → Prop) → Prop) (a0 : Nat) (x1 : Int32) (z : gS) (P : gS → Prop) : Prop := (oO n sh a0 8) ∧ (if (gi z a0 8) ≤ 0 then (∃ t2 : Nat, gr z a0 4 = some t2 ∧ ((oA n sh t2 1) ∧ ((vp_in (gi z a0 7) (sh t2).2) ∧ (if (gi z t2 (gi z a0 7).toNatClampNeg) = (2 : Int32) then wX12_takePart_J26 n sh rcX12_whole rcX12_takePart P a0 x1 (1 : Int32) z else wX12_takePart_J26 n sh rcX12_whole rcX12_takePart P a0 x1 (0 : Int32) z)))) else P z)
set_option maxRecDepth 100000 in
set_option maxHeartbeats 4000000 in
theorem ctX12_takePart {E : gE} {n : Nat} {sh : Nat → Nat × Nat} {rcX12_whole : Nat → Int32 → gS → (gS → Prop) → Prop} {rcX12_takePart : Nat → Int32 → gS → (gS → Prop) → Prop} {a0 : Nat} {x1 : Int32} {z : gS} {P : gS → Prop} (hn : n ≤ 1000000) {dd : Nat} (hrcX12_whole : ∀ (b0 : Nat) (b1 : Int32) (z : gS) (P : gS → Prop), rcX12_whole b0 b1 z P → VM E dd 0 gyX12_whole [.ref b0, .int b1] n sh z (kN n sh P)) (hrcX12_takePart : ∀ (b0 : Nat) (b1 : Int32) (z : gS) (P : gS → Prop), rcX12_takePart b0 b1 z P → VM E dd 0 gyX12_takePart [.ref b0, .int b1] n sh z (kN n sh P)) (hdd : 9 ≤ dd) (hf : wX12_takePart n sh rcX12_whole rcX12_takePart a0 x1 z P) : VM E (dd + 1) 0 gyX12_takePart [.ref a0, .int x1] n sh z (kN n sh P) := by
  unfold wX12_takePart at hf
  refine VM.of (by decide +kernel) (Nat.le_of_ble_eq_true rfl) ?_
  show V E (gR (dd + 1) 0) gyX12_takePart 0 0 0 [(0, .ref a0), (1, .int x1)] [] n sh z (kN n sh P)
  refine V_aload_n (j := 0) dX12_takePart_0 rfl rfl ?_
  obtain ⟨h1, hf⟩ := hf
  refine V_getI fl_X12_159 rfl h1.1 h1.2 dX12_takePart_1 ?_
  refine V_if_le (tgt := 8) dX12_takePart_4 (by decide) (fun h50 => ?_) (fun h50 => ?_)
  · have hf := it_t h50 hf
    refine V_aload_n (j := 0) dX12_takePart_8 rfl rfl ?_
    obtain ⟨t2, et2, hf⟩ := hf
    refine V_getR fl_X12_24 rfl h1.1 h1.2 et2 dX12_takePart_9 ?_
    refine V_aload_n (j := 0) dX12_takePart_12 rfl rfl ?_
    refine V_getI fl_X12_156 rfl h1.1 h1.2 dX12_takePart_13 ?_
    obtain ⟨h3, hf⟩ := hf
    obtain ⟨h4, hf⟩ := hf
    refine V_iald h3.1 h3.s h4 dX12_takePart_16 ?_
    refine V_iconst (v := (2 : Int32)) dX12_takePart_17 (by decide) ?_
    refine V_icmp_ne (tgt := 25) dX12_takePart_18 (by decide) (fun h49 => ?_) (fun h49 => ?_)
    · have hf := it_f h49 hf
      refine V_iconst (v := (0 : Int32)) dX12_takePart_25 (by decide) ?_
      exact vX12_takePart_J26 hn hrcX12_whole hrcX12_takePart hdd hf
    · have hf := it_t (Classical.not_not.mp h49) hf
      refine V_iconst (v := (1 : Int32)) dX12_takePart_21 (by decide) ?_
      refine V_goto (tgt := 26) dX12_takePart_22 (by decide) ?_
      exact vX12_takePart_J26 hn hrcX12_whole hrcX12_takePart hdd hf
  · have hf := it_f h50 hf
    exact V_return dX12_takePart_7 rfl (Nat.le_refl 0) (kN_of hf)
def wX12_products_B5 (n : Nat) (sh : Nat → Nat × Nat) (rcX12_takePart : Nat → Int32 → gS → (gS → Prop) → Prop) (k5 : Nat → Int32 → gS → Prop) (P : gS → Prop) (a0 : Nat) (x1 : Int32) (z : gS) : Prop := (oO n sh a0 8) ∧ (wX12_hasSign n sh a0 (42 : Int32) z (fun (r4 : Int32) (z5 : gS) => if r4 = 0 then P z5 else (rcX12_takePart a0 x1 z5 (fun (z8 : gS) => wX12_emit n sh a0 (6 : Int32) (0 : Int32) z8 (fun (z10 : gS) => k5 a0 x1 z10)))))
def wX12_products_L5 (n : Nat) (sh : Nat → Nat × Nat) (rcX12_takePart : Nat → Int32 → gS → (gS → Prop) → Prop) (P : gS → Prop) : Nat → Nat → Int32 → gS → Prop
  | 0, _, _, _ => False
  | N + 1, a0, x1, z => wX12_products_B5 n sh rcX12_takePart (wX12_products_L5 n sh rcX12_takePart P N) P a0 x1 z
set_option maxRecDepth 100000 in
set_option maxHeartbeats 4000000 in
theorem vX12_products_B5 {E : gE} {n : Nat} {sh : Nat → Nat × Nat} {P : gS → Prop} {rcX12_takePart : Nat → Int32 → gS → (gS → Prop) → Prop} {k5 : Nat → Int32 → gS → Prop} {a0 : Nat} {x1 : Int32} {z : gS} (hn : n ≤ 1000000) {dd : Nat} (hrcX12_takePart : ∀ (b0 : Nat) (b1 : Int32) (z : gS) (P : gS → Prop), rcX12_takePart b0 b1 z P → VM E dd 0 gyX12_takePart [.ref b0, .int b1] n sh z (kN n sh P)) (hdd : 9 ≤ dd) (hk5 : ∀ (a0 : Nat) (x1 : Int32) (z : gS), k5 a0 x1 z → V E (gR (dd + 1) 0) gyX12_products 0 0 5 [(0, .ref a0), (1, .int x1)] [] n sh z (kN n sh P)) (hf : wX12_products_B5 n sh rcX12_takePart k5 P a0 x1 z) : V E (gR (dd + 1) 0) gyX12_products 0 0 5 [(0, .ref a0), (1, .int x1)] [] n sh z (kN n sh P) := by
  unfold wX12_products_B5 at hf
  refine V_aload_n (j := 0) dX12_products_5 rfl rfl ?_
  refine V_bipush (v := (42 : Int32)) dX12_products_6 (by decide) ?_
  obtain ⟨h6, hf⟩ := hf
  refine V_cVI (ctX12_hasSign hn hf) gc_X12_253 rfl h6.1 ⟨_, h6.2, by decide, rfl⟩ ⟨(by show 1 + 1 ≤ dd + 1; omega), (by show 64 * 1 + 19 + 3 ≤ 64 * (dd + 1); omega), Nat.zero_le _, Nat.zero_le _⟩ (Nat.le_of_ble_eq_true rfl) dX12_products_8 rfl hn (fun r4 z5 hf => ?_)
  refine V_if_eq (tgt := 29) dX12_products_11 (by decide) (fun h11 => ?_) (fun h11 => ?_)
  · have hf := it_t h11 hf
    exact V_return dX12_products_29 rfl (Nat.le_refl 0) (kN_of hf)
  · have hf := it_f h11 hf
    refine V_aload_n (j := 0) dX12_products_14 rfl rfl ?_
    refine V_iload_n (j := 1) dX12_products_15 rfl rfl ?_
    refine V_cVN (hrcX12_takePart _ _ _ _ hf) gc_X12_259 rfl h6.1 ⟨_, h6.2, by decide, rfl⟩ ⟨Nat.le_refl _, (by show 64 * dd + 19 + 4 ≤ 64 * (dd + 1); omega), Nat.zero_le _, Nat.zero_le _⟩ (Nat.le_of_ble_eq_true rfl) dX12_products_16 rfl hn (fun z8 hf => ?_)
    refine V_aload_n (j := 0) dX12_products_19 rfl rfl ?_
    refine V_bipush (v := (6 : Int32)) dX12_products_20 (by decide) ?_
    refine V_iconst (v := (0 : Int32)) dX12_products_22 (by decide) ?_
    refine V_cVN (ctX12_emit hn hf) gc_X12_240 rfl h6.1 ⟨_, h6.2, by decide, rfl⟩ ⟨(by show 0 + 1 ≤ dd + 1; omega), (by show 64 * 0 + 19 + 3 ≤ 64 * (dd + 1); omega), Nat.zero_le _, Nat.zero_le _⟩ (Nat.le_of_ble_eq_true rfl) dX12_products_23 rfl hn (fun z10 hf => ?_)
    refine V_goto (tgt := 5) dX12_products_26 (by decide) ?_
    exact hk5 _ _ _ hf
set_option maxRecDepth 100000 in
set_option maxHeartbeats 4000000 in
theorem vX12_products_L5 {E : gE} {n : Nat} {sh : Nat → Nat × Nat} {P : gS → Prop} {rcX12_takePart : Nat → Int32 → gS → (gS → Prop) → Prop} (hn : n ≤ 1000000) {dd : Nat} (hrcX12_takePart : ∀ (b0 : Nat) (b1 : Int32) (z : gS) (P : gS → Prop), rcX12_takePart b0 b1 z P → VM E dd 0 gyX12_takePart [.ref b0, .int b1] n sh z (kN n sh P)) (hdd : 9 ≤ dd) : ∀ (N : Nat) (a0 : Nat) (x1 : Int32) (z : gS), wX12_products_L5 n sh rcX12_takePart P N a0 x1 z → V E (gR (dd + 1) 0) gyX12_products 0 0 5 [(0, .ref a0), (1, .int x1)] [] n sh z (kN n sh P) := by
  intro N
  induction N with
  | zero => intro a0 x1 z hf; exact False.elim hf
  | succ N ih => intro a0 x1 z hf; exact vX12_products_B5 hn hrcX12_takePart hdd ih hf
def wX12_products (n : Nat) (sh : Nat → Nat × Nat) (rcX12_takePart : Nat → Int32 → gS → (gS → Prop) → Prop) (a0 : Nat) (x1 : Int32) (z : gS) (P : gS → Prop) : Prop := (oO n sh a0 8) ∧ (rcX12_takePart a0 x1 z (fun (z2 : gS) => (∃ N, wX12_products_L5 n sh rcX12_takePart P N a0 x1 z2)))
set_option maxRecDepth 100000 in
set_option maxHeartbeats 4000000 in
theorem ctX12_products {E : gE} {n : Nat} {sh : Nat → Nat × Nat} {rcX12_takePart : Nat → Int32 → gS → (gS → Prop) → Prop} {a0 : Nat} {x1 : Int32} {z : gS} {P : gS → Prop} (hn : n ≤ 1000000) {dd : Nat} (hrcX12_takePart : ∀ (b0 : Nat) (b1 : Int32) (z : gS) (P : gS → Prop), rcX12_takePart b0 b1 z P → VM E dd 0 gyX12_takePart [.ref b0, .int b1] n sh z (kN n sh P)) (hdd : 9 ≤ dd) (hf : wX12_products n sh rcX12_takePart a0 x1 z P) : VM E (dd + 1) 0 gyX12_products [.ref a0, .int x1] n sh z (kN n sh P) := by
  unfold wX12_products at hf
  refine VM.of (by decide +kernel) (Nat.le_of_ble_eq_true rfl) ?_
  show V E (gR (dd + 1) 0) gyX12_products 0 0 0 [(0, .ref a0), (1, .int x1)] [] n sh z (kN n sh P)
  refine V_aload_n (j := 0) dX12_products_0 rfl rfl ?_
  refine V_iload_n (j := 1) dX12_products_1 rfl rfl ?_
  obtain ⟨h3, hf⟩ := hf
  refine V_cVN (hrcX12_takePart _ _ _ _ hf) gc_X12_259 rfl h3.1 ⟨_, h3.2, by decide, rfl⟩ ⟨Nat.le_refl _, (by show 64 * dd + 19 + 4 ≤ 64 * (dd + 1); omega), Nat.zero_le _, Nat.zero_le _⟩ (Nat.le_of_ble_eq_true rfl) dX12_products_2 rfl hn (fun z2 hf => ?_)
  obtain ⟨N, hf⟩ := hf
  exact vX12_products_L5 hn hrcX12_takePart hdd N _ _ _ hf
def wX12_sums_J55 (n : Nat) (sh : Nat → Nat × Nat) (rcX12_products : Nat → Int32 → gS → (gS → Prop) → Prop) (k5 : Nat → Int32 → gS → Prop) (P : gS → Prop) (a0 : Nat) (x1 : Int32) (s0 : Int32) (s1 : Nat) (z : gS) : Prop := (oO n sh s1 8) ∧ (wX12_emit n sh s1 s0 (0 : Int32) z (fun (z14 : gS) => k5 a0 x1 z14))
set_option maxRecDepth 100000 in
set_option maxHeartbeats 4000000 in
theorem vX12_sums_J55 {E : gE} {n : Nat} {sh : Nat → Nat × Nat} {P : gS → Prop} {rcX12_products : Nat → Int32 → gS → (gS → Prop) → Prop} {k5 : Nat → Int32 → gS → Prop} {a0 : Nat} {x1 : Int32} {s0 : Int32} {s1 : Nat} {z : gS} (hn : n ≤ 1000000) {dd : Nat} (hrcX12_products : ∀ (b0 : Nat) (b1 : Int32) (z : gS) (P : gS → Prop), rcX12_products b0 b1 z P → VM E dd 0 gyX12_products [.ref b0, .int b1] n sh z (kN n sh P)) (hdd : 9 ≤ dd) (hk5 : ∀ (a0 : Nat) (x1 : Int32) (z : gS), k5 a0 x1 z → V E (gR (dd + 1) 0) gyX12_sums 0 0 5 [(0, .ref a0), (1, .int x1)] [] n sh z (kN n sh P)) (hf : wX12_sums_J55 n sh rcX12_products k5 P a0 x1 s0 s1 z) : V E (gR (dd + 1) 0) gyX12_sums 0 0 55 [(0, .ref a0), (1, .int x1)] [.int s0, .ref s1] n sh z (kN n sh P) := by
  unfold wX12_sums_J55 at hf
  refine V_iconst (v := (0 : Int32)) dX12_sums_55 (by decide) ?_
  obtain ⟨h15, hf⟩ := hf
  refine V_cVN (ctX12_emit hn hf) gc_X12_240 rfl h15.1 ⟨_, h15.2, by decide, rfl⟩ ⟨(by show 0 + 1 ≤ dd + 1; omega), (by show 64 * 0 + 19 + 3 ≤ 64 * (dd + 1); omega), Nat.zero_le _, Nat.zero_le _⟩ (Nat.le_of_ble_eq_true rfl) dX12_sums_56 rfl hn (fun z14 hf => ?_)
  refine V_goto (tgt := 5) dX12_sums_59 (by decide) ?_
  exact hk5 _ _ _ hf
def wX12_sums_J23 (n : Nat) (sh : Nat → Nat × Nat) (rcX12_products : Nat → Int32 → gS → (gS → Prop) → Prop) (k5 : Nat → Int32 → gS → Prop) (P : gS → Prop) (a0 : Nat) (x1 : Int32) (z : gS) : Prop := (oO n sh a0 8) ∧ (wX12_isSign n sh a0 (43 : Int32) z (fun (r7 : Int32) (z8 : gS) => ∀ z10 : gS, z10 = si z8 a0 7 ((gi z8 a0 7) + (1 : Int32)) → (rcX12_products a0 x1 z10 (fun (z12 : gS) => if r7 = 0 then wX12_sums_J55 n sh rcX12_products k5 P a0 x1 (5 : Int32) a0 z12 else wX12_sums_J55 n sh rcX12_products k5 P a0 x1 (4 : Int32) a0 z12))))
set_option maxRecDepth 100000 in
set_option maxHeartbeats 4000000 in
theorem vX12_sums_J23 {E : gE} {n : Nat} {sh : Nat → Nat × Nat} {P : gS → Prop} {rcX12_products : Nat → Int32 → gS → (gS → Prop) → Prop} {k5 : Nat → Int32 → gS → Prop} {a0 : Nat} {x1 : Int32} {z : gS} (hn : n ≤ 1000000) {dd : Nat} (hrcX12_products : ∀ (b0 : Nat) (b1 : Int32) (z : gS) (P : gS → Prop), rcX12_products b0 b1 z P → VM E dd 0 gyX12_products [.ref b0, .int b1] n sh z (kN n sh P)) (hdd : 9 ≤ dd) (hk5 : ∀ (a0 : Nat) (x1 : Int32) (z : gS), k5 a0 x1 z → V E (gR (dd + 1) 0) gyX12_sums 0 0 5 [(0, .ref a0), (1, .int x1)] [] n sh z (kN n sh P)) (hf : wX12_sums_J23 n sh rcX12_products k5 P a0 x1 z) : V E (gR (dd + 1) 0) gyX12_sums 0 0 23 [(0, .ref a0), (1, .int x1)] [] n sh z (kN n sh P) := by
  unfold wX12_sums_J23 at hf
  refine V_aload_n (j := 0) dX12_sums_23 rfl rfl ?_
  refine V_bipush (v := (43 : Int32)) dX12_sums_24 (by decide) ?_
  obtain ⟨h9, hf⟩ := hf
  refine V_cVI (ctX12_isSign hn hf) gc_X12_162 rfl h9.1 ⟨_, h9.2, by decide, rfl⟩ ⟨(by show 0 + 1 ≤ dd + 1; omega), (by show 64 * 0 + 19 + 2 ≤ 64 * (dd + 1); omega), Nat.zero_le _, Nat.zero_le _⟩ (Nat.le_of_ble_eq_true rfl) dX12_sums_26 rfl hn (fun r7 z8 hf => ?_)
  refine V_istore_n (ls2 := [(2, .int r7), (0, .ref a0), (1, .int x1)]) dX12_sums_29 rfl (by decide) rfl ?_
  refine V_aload_n (j := 1) dX12_sums_30 rfl rfl ?_
  refine V_dup dX12_sums_31 rfl ?_
  refine V_getI fl_X12_156 rfl h9.1 h9.2 dX12_sums_32 ?_
  refine V_iconst (v := (1 : Int32)) dX12_sums_35 (by decide) ?_
  refine V_iadd dX12_sums_36 ?_
  refine V_putI fl_X12_156 rfl rfl rfl rfl h9.1 h9.2 dX12_sums_37 ?_
  refine V_nz (fun z10 ez10 => ?_)
  have hf := hf z10 ez10
  refine V_aload_n (j := 1) dX12_sums_40 rfl rfl ?_
  refine V_iload_n (j := 2) dX12_sums_41 rfl rfl ?_
  refine V_cVN (hrcX12_products _ _ _ _ hf) gc_X12_256 rfl h9.1 ⟨_, h9.2, by decide, rfl⟩ ⟨Nat.le_refl _, (by show 64 * dd + 19 + 2 ≤ 64 * (dd + 1); omega), Nat.zero_le _, Nat.zero_le _⟩ (Nat.le_of_ble_eq_true rfl) dX12_sums_42 rfl hn (fun z12 hf => ?_)
  refine V_aload_n (j := 1) dX12_sums_45 rfl rfl ?_
  refine V_iload_n (j := 0) dX12_sums_46 rfl rfl ?_
  refine V_if_eq (tgt := 54) dX12_sums_47 (by decide) (fun h16 => ?_) (fun h16 => ?_)
  · have hf := it_t h16 hf
    refine V_iconst (v := (5 : Int32)) dX12_sums_54 (by decide) ?_
    refine V_to [1, 2] rfl ?_
    exact vX12_sums_J55 hn hrcX12_products hdd hk5 hf
  · have hf := it_f h16 hf
    refine V_iconst (v := (4 : Int32)) dX12_sums_50 (by decide) ?_
    refine V_goto (tgt := 55) dX12_sums_51 (by decide) ?_
    refine V_to [1, 2] rfl ?_
    exact vX12_sums_J55 hn hrcX12_products hdd hk5 hf
def wX12_sums_B5 (n : Nat) (sh : Nat → Nat × Nat) (rcX12_products : Nat → Int32 → gS → (gS → Prop) → Prop) (k5 : Nat → Int32 → gS → Prop) (P : gS → Prop) (a0 : Nat) (x1 : Int32) (z : gS) : Prop := (oO n sh a0 8) ∧ (wX12_isSign n sh a0 (43 : Int32) z (fun (r4 : Int32) (z5 : gS) => if r4 = 0 then (wX12_isSign n sh a0 (45 : Int32) z5 (fun (r17 : Int32) (z18 : gS) => if r17 = 0 then P z18 else wX12_sums_J23 n sh rcX12_products k5 P a0 x1 z18)) else wX12_sums_J23 n sh rcX12_products k5 P a0 x1 z5))
def wX12_sums_L5 (n : Nat) (sh : Nat → Nat × Nat) (rcX12_products : Nat → Int32 → gS → (gS → Prop) → Prop) (P : gS → Prop) : Nat → Nat → Int32 → gS → Prop
  | 0, _, _, _ => False
  | N + 1, a0, x1, z => wX12_sums_B5 n sh rcX12_products (wX12_sums_L5 n sh rcX12_products P N) P a0 x1 z
set_option maxRecDepth 100000 in
set_option maxHeartbeats 4000000 in
theorem vX12_sums_B5 {E : gE} {n : Nat} {sh : Nat → Nat × Nat} {P : gS → Prop} {rcX12_products : Nat → Int32 → gS → (gS → Prop) → Prop} {k5 : Nat → Int32 → gS → Prop} {a0 : Nat} {x1 : Int32} {z : gS} (hn : n ≤ 1000000) {dd : Nat} (hrcX12_products : ∀ (b0 : Nat) (b1 : Int32) (z : gS) (P : gS → Prop), rcX12_products b0 b1 z P → VM E dd 0 gyX12_products [.ref b0, .int b1] n sh z (kN n sh P)) (hdd : 9 ≤ dd) (hk5 : ∀ (a0 : Nat) (x1 : Int32) (z : gS), k5 a0 x1 z → V E (gR (dd + 1) 0) gyX12_sums 0 0 5 [(0, .ref a0), (1, .int x1)] [] n sh z (kN n sh P)) (hf : wX12_sums_B5 n sh rcX12_products k5 P a0 x1 z) : V E (gR (dd + 1) 0) gyX12_sums 0 0 5 [(0, .ref a0), (1, .int x1)] [] n sh z (kN n sh P) := by
  unfold wX12_sums_B5 at hf
  refine V_aload_n (j := 0) dX12_sums_5 rfl rfl ?_
  refine V_bipush (v := (43 : Int32)) dX12_sums_6 (by decide) ?_
  obtain ⟨h6, hf⟩ := hf
  refine V_cVI (ctX12_isSign hn hf) gc_X12_162 rfl h6.1 ⟨_, h6.2, by decide, rfl⟩ ⟨(by show 0 + 1 ≤ dd + 1; omega), (by show 64 * 0 + 19 + 2 ≤ 64 * (dd + 1); omega), Nat.zero_le _, Nat.zero_le _⟩ (Nat.le_of_ble_eq_true rfl) dX12_sums_8 rfl hn (fun r4 z5 hf => ?_)
  refine V_if_ne (tgt := 23) dX12_sums_11 (by decide) (fun h20 => ?_) (fun h20 => ?_)
  · have hf := it_f h20 hf
    exact vX12_sums_J23 hn hrcX12_products hdd hk5 hf
  · have hf := it_t (Classical.not_not.mp h20) hf
    refine V_aload_n (j := 0) dX12_sums_14 rfl rfl ?_
    refine V_bipush (v := (45 : Int32)) dX12_sums_15 (by decide) ?_
    refine V_cVI (ctX12_isSign hn hf) gc_X12_162 rfl h6.1 ⟨_, h6.2, by decide, rfl⟩ ⟨(by show 0 + 1 ≤ dd + 1; omega), (by show 64 * 0 + 19 + 2 ≤ 64 * (dd + 1); omega), Nat.zero_le _, Nat.zero_le _⟩ (Nat.le_of_ble_eq_true rfl) dX12_sums_17 rfl hn (fun r17 z18 hf => ?_)
    refine V_if_eq (tgt := 62) dX12_sums_20 (by decide) (fun h19 => ?_) (fun h19 => ?_)
    · have hf := it_t h19 hf
      exact V_return dX12_sums_62 rfl (Nat.le_refl 0) (kN_of hf)
    · have hf := it_f h19 hf
      exact vX12_sums_J23 hn hrcX12_products hdd hk5 hf
set_option maxRecDepth 100000 in
set_option maxHeartbeats 4000000 in
theorem vX12_sums_L5 {E : gE} {n : Nat} {sh : Nat → Nat × Nat} {P : gS → Prop} {rcX12_products : Nat → Int32 → gS → (gS → Prop) → Prop} (hn : n ≤ 1000000) {dd : Nat} (hrcX12_products : ∀ (b0 : Nat) (b1 : Int32) (z : gS) (P : gS → Prop), rcX12_products b0 b1 z P → VM E dd 0 gyX12_products [.ref b0, .int b1] n sh z (kN n sh P)) (hdd : 9 ≤ dd) : ∀ (N : Nat) (a0 : Nat) (x1 : Int32) (z : gS), wX12_sums_L5 n sh rcX12_products P N a0 x1 z → V E (gR (dd + 1) 0) gyX12_sums 0 0 5 [(0, .ref a0), (1, .int x1)] [] n sh z (kN n sh P) := by
  intro N
  induction N with
  | zero => intro a0 x1 z hf; exact False.elim hf
  | succ N ih => intro a0 x1 z hf; exact vX12_sums_B5 hn hrcX12_products hdd ih hf
def wX12_sums (n : Nat) (sh : Nat → Nat × Nat) (rcX12_products : Nat → Int32 → gS → (gS → Prop) → Prop) (a0 : Nat) (x1 : Int32) (z : gS) (P : gS → Prop) : Prop := (oO n sh a0 8) ∧ (rcX12_products a0 x1 z (fun (z2 : gS) => (∃ N, wX12_sums_L5 n sh rcX12_products P N a0 x1 z2)))
set_option maxRecDepth 100000 in
set_option maxHeartbeats 4000000 in
theorem ctX12_sums {E : gE} {n : Nat} {sh : Nat → Nat × Nat} {rcX12_products : Nat → Int32 → gS → (gS → Prop) → Prop} {a0 : Nat} {x1 : Int32} {z : gS} {P : gS → Prop} (hn : n ≤ 1000000) {dd : Nat} (hrcX12_products : ∀ (b0 : Nat) (b1 : Int32) (z : gS) (P : gS → Prop), rcX12_products b0 b1 z P → VM E dd 0 gyX12_products [.ref b0, .int b1] n sh z (kN n sh P)) (hdd : 9 ≤ dd) (hf : wX12_sums n sh rcX12_products a0 x1 z P) : VM E (dd + 1) 0 gyX12_sums [.ref a0, .int x1] n sh z (kN n sh P) := by
  unfold wX12_sums at hf
  refine VM.of (by decide +kernel) (Nat.le_of_ble_eq_true rfl) ?_
  show V E (gR (dd + 1) 0) gyX12_sums 0 0 0 [(0, .ref a0), (1, .int x1)] [] n sh z (kN n sh P)
  refine V_aload_n (j := 0) dX12_sums_0 rfl rfl ?_
  refine V_iload_n (j := 1) dX12_sums_1 rfl rfl ?_
  obtain ⟨h3, hf⟩ := hf
  refine V_cVN (hrcX12_products _ _ _ _ hf) gc_X12_256 rfl h3.1 ⟨_, h3.2, by decide, rfl⟩ ⟨Nat.le_refl _, (by show 64 * dd + 19 + 2 ≤ 64 * (dd + 1); omega), Nat.zero_le _, Nat.zero_le _⟩ (Nat.le_of_ble_eq_true rfl) dX12_sums_2 rfl hn (fun z2 hf => ?_)
  obtain ⟨N, hf⟩ := hf
  exact vX12_sums_L5 hn hrcX12_products hdd N _ _ _ hf
def wX12_test_J47 (n : Nat) (sh : Nat → Nat × Nat) (rcX12_sums : Nat → Int32 → gS → (gS → Prop) → Prop) (P : gS → Prop) (s0 : Int32) (s1 : Nat) (z : gS) : Prop := (oO n sh s1 8) ∧ (wX12_emit n sh s1 s0 (0 : Int32) z (fun (z12 : gS) => P z12))
set_option maxRecDepth 100000 in
set_option maxHeartbeats 4000000 in
theorem vX12_test_J47 {E : gE} {n : Nat} {sh : Nat → Nat × Nat} {P : gS → Prop} {rcX12_sums : Nat → Int32 → gS → (gS → Prop) → Prop} {s0 : Int32} {s1 : Nat} {z : gS} (hn : n ≤ 1000000) {dd : Nat} (hrcX12_sums : ∀ (b0 : Nat) (b1 : Int32) (z : gS) (P : gS → Prop), rcX12_sums b0 b1 z P → VM E dd 0 gyX12_sums [.ref b0, .int b1] n sh z (kN n sh P)) (hdd : 9 ≤ dd) (hf : wX12_test_J47 n sh rcX12_sums P s0 s1 z) : V E (gR (dd + 1) 0) gyX12_test 0 0 47 [] [.int s0, .ref s1] n sh z (kN n sh P) := by
  unfold wX12_test_J47 at hf
  refine V_iconst (v := (0 : Int32)) dX12_test_47 (by decide) ?_
  obtain ⟨h13, hf⟩ := hf
  refine V_cVN (ctX12_emit hn hf) gc_X12_240 rfl h13.1 ⟨_, h13.2, by decide, rfl⟩ ⟨(by show 0 + 1 ≤ dd + 1; omega), (by show 64 * 0 + 19 + 3 ≤ 64 * (dd + 1); omega), Nat.zero_le _, Nat.zero_le _⟩ (Nat.le_of_ble_eq_true rfl) dX12_test_48 rfl hn (fun z12 hf => ?_)
  exact V_return dX12_test_51 rfl (Nat.le_refl 0) (kN_of hf)
def wX12_test_J30 (n : Nat) (sh : Nat → Nat × Nat) (rcX12_sums : Nat → Int32 → gS → (gS → Prop) → Prop) (P : gS → Prop) (a0 : Nat) (x1 : Int32) (x2 : Int32) (z : gS) : Prop := (oO n sh a0 8) ∧ (rcX12_sums a0 x1 z (fun (z9 : gS) => if x2 = 0 then wX12_test_J47 n sh rcX12_sums P (8 : Int32) a0 z9 else wX12_test_J47 n sh rcX12_sums P (7 : Int32) a0 z9))
set_option maxRecDepth 100000 in
set_option maxHeartbeats 4000000 in
theorem vX12_test_J30 {E : gE} {n : Nat} {sh : Nat → Nat × Nat} {P : gS → Prop} {rcX12_sums : Nat → Int32 → gS → (gS → Prop) → Prop} {a0 : Nat} {x1 : Int32} {x2 : Int32} {z : gS} (hn : n ≤ 1000000) {dd : Nat} (hrcX12_sums : ∀ (b0 : Nat) (b1 : Int32) (z : gS) (P : gS → Prop), rcX12_sums b0 b1 z P → VM E dd 0 gyX12_sums [.ref b0, .int b1] n sh z (kN n sh P)) (hdd : 9 ≤ dd) (hf : wX12_test_J30 n sh rcX12_sums P a0 x1 x2 z) : V E (gR (dd + 1) 0) gyX12_test 0 0 30 [(0, .ref a0), (1, .int x1), (2, .int x2)] [] n sh z (kN n sh P) := by
  unfold wX12_test_J30 at hf
  refine V_aload_n (j := 0) dX12_test_30 rfl rfl ?_
  refine V_iload_n (j := 1) dX12_test_31 rfl rfl ?_
  obtain ⟨h10, hf⟩ := hf
  refine V_cVN (hrcX12_sums _ _ _ _ hf) gc_X12_250 rfl h10.1 ⟨_, h10.2, by decide, rfl⟩ ⟨Nat.le_refl _, (by show 64 * dd + 19 + 3 ≤ 64 * (dd + 1); omega), Nat.zero_le _, Nat.zero_le _⟩ (Nat.le_of_ble_eq_true rfl) dX12_test_32 rfl hn (fun z9 hf => ?_)
  refine V_aload_n (j := 0) dX12_test_35 rfl rfl ?_
  refine V_iload_n (j := 2) dX12_test_36 rfl rfl ?_
  refine V_if_eq (tgt := 45) dX12_test_37 (by decide) (fun h14 => ?_) (fun h14 => ?_)
  · have hf := it_t h14 hf
    refine V_bipush (v := (8 : Int32)) dX12_test_45 (by decide) ?_
    refine V_to [] rfl ?_
    exact vX12_test_J47 hn hrcX12_sums hdd hf
  · have hf := it_f h14 hf
    refine V_bipush (v := (7 : Int32)) dX12_test_40 (by decide) ?_
    refine V_goto (tgt := 47) dX12_test_42 (by decide) ?_
    refine V_to [] rfl ?_
    exact vX12_test_J47 hn hrcX12_sums hdd hf
def wX12_test (n : Nat) (sh : Nat → Nat × Nat) (rcX12_sums : Nat → Int32 → gS → (gS → Prop) → Prop) (a0 : Nat) (x1 : Int32) (z : gS) (P : gS → Prop) : Prop := (oO n sh a0 8) ∧ (rcX12_sums a0 x1 z (fun (z2 : gS) => wX12_isSign n sh a0 (60 : Int32) z2 (fun (r4 : Int32) (z5 : gS) => wX12_hasSign n sh a0 (60 : Int32) z5 (fun (r6 : Int32) (z7 : gS) => if r6 = 0 then (wX12_hasSign n sh a0 (61 : Int32) z7 (fun (r15 : Int32) (z16 : gS) => if r15 = 0 then P z16 else wX12_test_J30 n sh rcX12_sums P a0 x1 r4 z16)) else wX12_test_J30 n sh rcX12_sums P a0 x1 r4 z7))))
set_option maxRecDepth 100000 in
set_option maxHeartbeats 4000000 in
theorem ctX12_test {E : gE} {n : Nat} {sh : Nat → Nat × Nat} {rcX12_sums : Nat → Int32 → gS → (gS → Prop) → Prop} {a0 : Nat} {x1 : Int32} {z : gS} {P : gS → Prop} (hn : n ≤ 1000000) {dd : Nat} (hrcX12_sums : ∀ (b0 : Nat) (b1 : Int32) (z : gS) (P : gS → Prop), rcX12_sums b0 b1 z P → VM E dd 0 gyX12_sums [.ref b0, .int b1] n sh z (kN n sh P)) (hdd : 9 ≤ dd) (hf : wX12_test n sh rcX12_sums a0 x1 z P) : VM E (dd + 1) 0 gyX12_test [.ref a0, .int x1] n sh z (kN n sh P) := by
  unfold wX12_test at hf
  refine VM.of (by decide +kernel) (Nat.le_of_ble_eq_true rfl) ?_
  show V E (gR (dd + 1) 0) gyX12_test 0 0 0 [(0, .ref a0), (1, .int x1)] [] n sh z (kN n sh P)
  refine V_aload_n (j := 0) dX12_test_0 rfl rfl ?_
  refine V_iload_n (j := 1) dX12_test_1 rfl rfl ?_
  obtain ⟨h3, hf⟩ := hf
  refine V_cVN (hrcX12_sums _ _ _ _ hf) gc_X12_250 rfl h3.1 ⟨_, h3.2, by decide, rfl⟩ ⟨Nat.le_refl _, (by show 64 * dd + 19 + 3 ≤ 64 * (dd + 1); omega), Nat.zero_le _, Nat.zero_le _⟩ (Nat.le_of_ble_eq_true rfl) dX12_test_2 rfl hn (fun z2 hf => ?_)
  refine V_aload_n (j := 0) dX12_test_5 rfl rfl ?_
  refine V_bipush (v := (60 : Int32)) dX12_test_6 (by decide) ?_
  refine V_cVI (ctX12_isSign hn hf) gc_X12_162 rfl h3.1 ⟨_, h3.2, by decide, rfl⟩ ⟨(by show 0 + 1 ≤ dd + 1; omega), (by show 64 * 0 + 19 + 2 ≤ 64 * (dd + 1); omega), Nat.zero_le _, Nat.zero_le _⟩ (Nat.le_of_ble_eq_true rfl) dX12_test_8 rfl hn (fun r4 z5 hf => ?_)
  refine V_istore_n (ls2 := [(2, .int r4), (0, .ref a0), (1, .int x1)]) dX12_test_11 rfl (by decide) rfl ?_
  refine V_aload_n (j := 1) dX12_test_12 rfl rfl ?_
  refine V_bipush (v := (60 : Int32)) dX12_test_13 (by decide) ?_
  refine V_cVI (ctX12_hasSign hn hf) gc_X12_253 rfl h3.1 ⟨_, h3.2, by decide, rfl⟩ ⟨(by show 1 + 1 ≤ dd + 1; omega), (by show 64 * 1 + 19 + 3 ≤ 64 * (dd + 1); omega), Nat.zero_le _, Nat.zero_le _⟩ (Nat.le_of_ble_eq_true rfl) dX12_test_15 rfl hn (fun r6 z7 hf => ?_)
  refine V_if_ne (tgt := 30) dX12_test_18 (by decide) (fun h18 => ?_) (fun h18 => ?_)
  · have hf := it_f h18 hf
    refine V_to [1, 2, 0] rfl ?_
    exact vX12_test_J30 hn hrcX12_sums hdd hf
  · have hf := it_t (Classical.not_not.mp h18) hf
    refine V_aload_n (j := 1) dX12_test_21 rfl rfl ?_
    refine V_bipush (v := (61 : Int32)) dX12_test_22 (by decide) ?_
    refine V_cVI (ctX12_hasSign hn hf) gc_X12_253 rfl h3.1 ⟨_, h3.2, by decide, rfl⟩ ⟨(by show 1 + 1 ≤ dd + 1; omega), (by show 64 * 1 + 19 + 3 ≤ 64 * (dd + 1); omega), Nat.zero_le _, Nat.zero_le _⟩ (Nat.le_of_ble_eq_true rfl) dX12_test_24 rfl hn (fun r15 z16 hf => ?_)
    refine V_if_eq (tgt := 51) dX12_test_27 (by decide) (fun h17 => ?_) (fun h17 => ?_)
    · have hf := it_t h17 hf
      exact V_return dX12_test_51 rfl (Nat.le_refl 0) (kN_of hf)
    · have hf := it_f h17 hf
      refine V_to [1, 2, 0] rfl ?_
      exact vX12_test_J30 hn hrcX12_sums hdd hf
def wX12_whole_J57 (n : Nat) (sh : Nat → Nat × Nat) (rcX12_test : Nat → Int32 → gS → (gS → Prop) → Prop) (k5 : Nat → Int32 → gS → Prop) (P : gS → Prop) (a0 : Nat) (x1 : Int32) (s0 : Int32) (s1 : Nat) (z : gS) : Prop := (oO n sh s1 8) ∧ (wX12_emit n sh s1 s0 (0 : Int32) z (fun (z14 : gS) => k5 a0 x1 z14))
set_option maxRecDepth 100000 in
set_option maxHeartbeats 4000000 in
theorem vX12_whole_J57 {E : gE} {n : Nat} {sh : Nat → Nat × Nat} {P : gS → Prop} {rcX12_test : Nat → Int32 → gS → (gS → Prop) → Prop} {k5 : Nat → Int32 → gS → Prop} {a0 : Nat} {x1 : Int32} {s0 : Int32} {s1 : Nat} {z : gS} (hn : n ≤ 1000000) {dd : Nat} (hrcX12_test : ∀ (b0 : Nat) (b1 : Int32) (z : gS) (P : gS → Prop), rcX12_test b0 b1 z P → VM E dd 0 gyX12_test [.ref b0, .int b1] n sh z (kN n sh P)) (hdd : 9 ≤ dd) (hk5 : ∀ (a0 : Nat) (x1 : Int32) (z : gS), k5 a0 x1 z → V E (gR (dd + 1) 0) gyX12_whole 0 0 5 [(0, .ref a0), (1, .int x1)] [] n sh z (kN n sh P)) (hf : wX12_whole_J57 n sh rcX12_test k5 P a0 x1 s0 s1 z) : V E (gR (dd + 1) 0) gyX12_whole 0 0 57 [(0, .ref a0), (1, .int x1)] [.int s0, .ref s1] n sh z (kN n sh P) := by
  unfold wX12_whole_J57 at hf
  refine V_iconst (v := (0 : Int32)) dX12_whole_57 (by decide) ?_
  obtain ⟨h15, hf⟩ := hf
  refine V_cVN (ctX12_emit hn hf) gc_X12_240 rfl h15.1 ⟨_, h15.2, by decide, rfl⟩ ⟨(by show 0 + 1 ≤ dd + 1; omega), (by show 64 * 0 + 19 + 3 ≤ 64 * (dd + 1); omega), Nat.zero_le _, Nat.zero_le _⟩ (Nat.le_of_ble_eq_true rfl) dX12_whole_58 rfl hn (fun z14 hf => ?_)
  refine V_goto (tgt := 5) dX12_whole_61 (by decide) ?_
  exact hk5 _ _ _ hf
def wX12_whole_J23 (n : Nat) (sh : Nat → Nat × Nat) (rcX12_test : Nat → Int32 → gS → (gS → Prop) → Prop) (k5 : Nat → Int32 → gS → Prop) (P : gS → Prop) (a0 : Nat) (x1 : Int32) (z : gS) : Prop := (oO n sh a0 8) ∧ (wX12_isWord n sh a0 (20 : Int32) z (fun (r7 : Int32) (z8 : gS) => ∀ z10 : gS, z10 = si z8 a0 7 ((gi z8 a0 7) + (1 : Int32)) → (rcX12_test a0 x1 z10 (fun (z12 : gS) => if r7 = 0 then wX12_whole_J57 n sh rcX12_test k5 P a0 x1 (10 : Int32) a0 z12 else wX12_whole_J57 n sh rcX12_test k5 P a0 x1 (9 : Int32) a0 z12))))
set_option maxRecDepth 100000 in
set_option maxHeartbeats 4000000 in
theorem vX12_whole_J23 {E : gE} {n : Nat} {sh : Nat → Nat × Nat} {P : gS → Prop} {rcX12_test : Nat → Int32 → gS → (gS → Prop) → Prop} {k5 : Nat → Int32 → gS → Prop} {a0 : Nat} {x1 : Int32} {z : gS} (hn : n ≤ 1000000) {dd : Nat} (hrcX12_test : ∀ (b0 : Nat) (b1 : Int32) (z : gS) (P : gS → Prop), rcX12_test b0 b1 z P → VM E dd 0 gyX12_test [.ref b0, .int b1] n sh z (kN n sh P)) (hdd : 9 ≤ dd) (hk5 : ∀ (a0 : Nat) (x1 : Int32) (z : gS), k5 a0 x1 z → V E (gR (dd + 1) 0) gyX12_whole 0 0 5 [(0, .ref a0), (1, .int x1)] [] n sh z (kN n sh P)) (hf : wX12_whole_J23 n sh rcX12_test k5 P a0 x1 z) : V E (gR (dd + 1) 0) gyX12_whole 0 0 23 [(0, .ref a0), (1, .int x1)] [] n sh z (kN n sh P) := by
  unfold wX12_whole_J23 at hf
  refine V_aload_n (j := 0) dX12_whole_23 rfl rfl ?_
  refine V_bipush (v := (20 : Int32)) dX12_whole_24 (by decide) ?_
  obtain ⟨h9, hf⟩ := hf
  refine V_cVI (ctX12_isWord hn hf) gc_X12_168 rfl h9.1 ⟨_, h9.2, by decide, rfl⟩ ⟨(by show 0 + 1 ≤ dd + 1; omega), (by show 64 * 0 + 19 + 2 ≤ 64 * (dd + 1); omega), Nat.zero_le _, Nat.zero_le _⟩ (Nat.le_of_ble_eq_true rfl) dX12_whole_26 rfl hn (fun r7 z8 hf => ?_)
  refine V_istore_n (ls2 := [(2, .int r7), (0, .ref a0), (1, .int x1)]) dX12_whole_29 rfl (by decide) rfl ?_
  refine V_aload_n (j := 1) dX12_whole_30 rfl rfl ?_
  refine V_dup dX12_whole_31 rfl ?_
  refine V_getI fl_X12_156 rfl h9.1 h9.2 dX12_whole_32 ?_
  refine V_iconst (v := (1 : Int32)) dX12_whole_35 (by decide) ?_
  refine V_iadd dX12_whole_36 ?_
  refine V_putI fl_X12_156 rfl rfl rfl rfl h9.1 h9.2 dX12_whole_37 ?_
  refine V_nz (fun z10 ez10 => ?_)
  have hf := hf z10 ez10
  refine V_aload_n (j := 1) dX12_whole_40 rfl rfl ?_
  refine V_iload_n (j := 2) dX12_whole_41 rfl rfl ?_
  refine V_cVN (hrcX12_test _ _ _ _ hf) gc_X12_247 rfl h9.1 ⟨_, h9.2, by decide, rfl⟩ ⟨Nat.le_refl _, (by show 64 * dd + 19 + 3 ≤ 64 * (dd + 1); omega), Nat.zero_le _, Nat.zero_le _⟩ (Nat.le_of_ble_eq_true rfl) dX12_whole_42 rfl hn (fun z12 hf => ?_)
  refine V_aload_n (j := 1) dX12_whole_45 rfl rfl ?_
  refine V_iload_n (j := 0) dX12_whole_46 rfl rfl ?_
  refine V_if_eq (tgt := 55) dX12_whole_47 (by decide) (fun h16 => ?_) (fun h16 => ?_)
  · have hf := it_t h16 hf
    refine V_bipush (v := (10 : Int32)) dX12_whole_55 (by decide) ?_
    refine V_to [1, 2] rfl ?_
    exact vX12_whole_J57 hn hrcX12_test hdd hk5 hf
  · have hf := it_f h16 hf
    refine V_bipush (v := (9 : Int32)) dX12_whole_50 (by decide) ?_
    refine V_goto (tgt := 57) dX12_whole_52 (by decide) ?_
    refine V_to [1, 2] rfl ?_
    exact vX12_whole_J57 hn hrcX12_test hdd hk5 hf
def wX12_whole_B5 (n : Nat) (sh : Nat → Nat × Nat) (rcX12_test : Nat → Int32 → gS → (gS → Prop) → Prop) (k5 : Nat → Int32 → gS → Prop) (P : gS → Prop) (a0 : Nat) (x1 : Int32) (z : gS) : Prop := (oO n sh a0 8) ∧ (wX12_isWord n sh a0 (20 : Int32) z (fun (r4 : Int32) (z5 : gS) => if r4 = 0 then (wX12_isWord n sh a0 (21 : Int32) z5 (fun (r17 : Int32) (z18 : gS) => if r17 = 0 then P z18 else wX12_whole_J23 n sh rcX12_test k5 P a0 x1 z18)) else wX12_whole_J23 n sh rcX12_test k5 P a0 x1 z5))
def wX12_whole_L5 (n : Nat) (sh : Nat → Nat × Nat) (rcX12_test : Nat → Int32 → gS → (gS → Prop) → Prop) (P : gS → Prop) : Nat → Nat → Int32 → gS → Prop
  | 0, _, _, _ => False
  | N + 1, a0, x1, z => wX12_whole_B5 n sh rcX12_test (wX12_whole_L5 n sh rcX12_test P N) P a0 x1 z
set_option maxRecDepth 100000 in
set_option maxHeartbeats 4000000 in
theorem vX12_whole_B5 {E : gE} {n : Nat} {sh : Nat → Nat × Nat} {P : gS → Prop} {rcX12_test : Nat → Int32 → gS → (gS → Prop) → Prop} {k5 : Nat → Int32 → gS → Prop} {a0 : Nat} {x1 : Int32} {z : gS} (hn : n ≤ 1000000) {dd : Nat} (hrcX12_test : ∀ (b0 : Nat) (b1 : Int32) (z : gS) (P : gS → Prop), rcX12_test b0 b1 z P → VM E dd 0 gyX12_test [.ref b0, .int b1] n sh z (kN n sh P)) (hdd : 9 ≤ dd) (hk5 : ∀ (a0 : Nat) (x1 : Int32) (z : gS), k5 a0 x1 z → V E (gR (dd + 1) 0) gyX12_whole 0 0 5 [(0, .ref a0), (1, .int x1)] [] n sh z (kN n sh P)) (hf : wX12_whole_B5 n sh rcX12_test k5 P a0 x1 z) : V E (gR (dd + 1) 0) gyX12_whole 0 0 5 [(0, .ref a0), (1, .int x1)] [] n sh z (kN n sh P) := by
  unfold wX12_whole_B5 at hf
  refine V_aload_n (j := 0) dX12_whole_5 rfl rfl ?_
  refine V_bipush (v := (20 : Int32)) dX12_whole_6 (by decide) ?_
  obtain ⟨h6, hf⟩ := hf
  refine V_cVI (ctX12_isWord hn hf) gc_X12_168 rfl h6.1 ⟨_, h6.2, by decide, rfl⟩ ⟨(by show 0 + 1 ≤ dd + 1; omega), (by show 64 * 0 + 19 + 2 ≤ 64 * (dd + 1); omega), Nat.zero_le _, Nat.zero_le _⟩ (Nat.le_of_ble_eq_true rfl) dX12_whole_8 rfl hn (fun r4 z5 hf => ?_)
  refine V_if_ne (tgt := 23) dX12_whole_11 (by decide) (fun h20 => ?_) (fun h20 => ?_)
  · have hf := it_f h20 hf
    exact vX12_whole_J23 hn hrcX12_test hdd hk5 hf
  · have hf := it_t (Classical.not_not.mp h20) hf
    refine V_aload_n (j := 0) dX12_whole_14 rfl rfl ?_
    refine V_bipush (v := (21 : Int32)) dX12_whole_15 (by decide) ?_
    refine V_cVI (ctX12_isWord hn hf) gc_X12_168 rfl h6.1 ⟨_, h6.2, by decide, rfl⟩ ⟨(by show 0 + 1 ≤ dd + 1; omega), (by show 64 * 0 + 19 + 2 ≤ 64 * (dd + 1); omega), Nat.zero_le _, Nat.zero_le _⟩ (Nat.le_of_ble_eq_true rfl) dX12_whole_17 rfl hn (fun r17 z18 hf => ?_)
    refine V_if_eq (tgt := 64) dX12_whole_20 (by decide) (fun h19 => ?_) (fun h19 => ?_)
    · have hf := it_t h19 hf
      exact V_return dX12_whole_64 rfl (Nat.le_refl 0) (kN_of hf)
    · have hf := it_f h19 hf
      exact vX12_whole_J23 hn hrcX12_test hdd hk5 hf
set_option maxRecDepth 100000 in
set_option maxHeartbeats 4000000 in
theorem vX12_whole_L5 {E : gE} {n : Nat} {sh : Nat → Nat × Nat} {P : gS → Prop} {rcX12_test : Nat → Int32 → gS → (gS → Prop) → Prop} (hn : n ≤ 1000000) {dd : Nat} (hrcX12_test : ∀ (b0 : Nat) (b1 : Int32) (z : gS) (P : gS → Prop), rcX12_test b0 b1 z P → VM E dd 0 gyX12_test [.ref b0, .int b1] n sh z (kN n sh P)) (hdd : 9 ≤ dd) : ∀ (N : Nat) (a0 : Nat) (x1 : Int32) (z : gS), wX12_whole_L5 n sh rcX12_test P N a0 x1 z → V E (gR (dd + 1) 0) gyX12_whole 0 0 5 [(0, .ref a0), (1, .int x1)] [] n sh z (kN n sh P) := by
  intro N
  induction N with
  | zero => intro a0 x1 z hf; exact False.elim hf
  | succ N ih => intro a0 x1 z hf; exact vX12_whole_B5 hn hrcX12_test hdd ih hf
def wX12_whole (n : Nat) (sh : Nat → Nat × Nat) (rcX12_test : Nat → Int32 → gS → (gS → Prop) → Prop) (a0 : Nat) (x1 : Int32) (z : gS) (P : gS → Prop) : Prop := (oO n sh a0 8) ∧ (rcX12_test a0 x1 z (fun (z2 : gS) => (∃ N, wX12_whole_L5 n sh rcX12_test P N a0 x1 z2)))
set_option maxRecDepth 100000 in
set_option maxHeartbeats 4000000 in
theorem ctX12_whole {E : gE} {n : Nat} {sh : Nat → Nat × Nat} {rcX12_test : Nat → Int32 → gS → (gS → Prop) → Prop} {a0 : Nat} {x1 : Int32} {z : gS} {P : gS → Prop} (hn : n ≤ 1000000) {dd : Nat} (hrcX12_test : ∀ (b0 : Nat) (b1 : Int32) (z : gS) (P : gS → Prop), rcX12_test b0 b1 z P → VM E dd 0 gyX12_test [.ref b0, .int b1] n sh z (kN n sh P)) (hdd : 9 ≤ dd) (hf : wX12_whole n sh rcX12_test a0 x1 z P) : VM E (dd + 1) 0 gyX12_whole [.ref a0, .int x1] n sh z (kN n sh P) := by
  unfold wX12_whole at hf
  refine VM.of (by decide +kernel) (Nat.le_of_ble_eq_true rfl) ?_
  show V E (gR (dd + 1) 0) gyX12_whole 0 0 0 [(0, .ref a0), (1, .int x1)] [] n sh z (kN n sh P)
  refine V_aload_n (j := 0) dX12_whole_0 rfl rfl ?_
  refine V_iload_n (j := 1) dX12_whole_1 rfl rfl ?_
  obtain ⟨h3, hf⟩ := hf
  refine V_cVN (hrcX12_test _ _ _ _ hf) gc_X12_247 rfl h3.1 ⟨_, h3.2, by decide, rfl⟩ ⟨Nat.le_refl _, (by show 64 * dd + 19 + 3 ≤ 64 * (dd + 1); omega), Nat.zero_le _, Nat.zero_le _⟩ (Nat.le_of_ble_eq_true rfl) dX12_whole_2 rfl hn (fun z2 hf => ?_)
  obtain ⟨N, hf⟩ := hf
  exact vX12_whole_L5 hn hrcX12_test hdd N _ _ _ hf
/-! the knot of the model's rule reader -/
def gTake (n : Nat) (sh : Nat → Nat × Nat) : Nat → Nat → Int32 → gS → (gS → Prop) → Prop
  | 0, _, _, _, _ => False
  | D + 1, a, x, z, P => wX12_takePart n sh (wX12_whole n sh (wX12_test n sh (wX12_sums n sh (wX12_products n sh (gTake n sh D))))) (gTake n sh D) a x z P
def wgX12_whole (n : Nat) (sh : Nat → Nat × Nat) (a : Nat) (x : Int32) (z : gS) (P : gS → Prop) : Prop := wX12_whole n sh (wX12_test n sh (wX12_sums n sh (wX12_products n sh (gTake n sh 7)))) a x z P
theorem gTake_up {E : gE} {n : Nat} {sh : Nat → Nat × Nat} (hn : n ≤ 1000000) {D e : Nat} (he : 13 ≤ e) (h : ∀ (a : Nat) (x : Int32) (z : gS) (P : gS → Prop), gTake n sh D a x z P → VM E (e - 4) 0 gyX12_takePart [.ref a, .int x] n sh z (kN n sh P)) : ∀ (a : Nat) (x : Int32) (z : gS) (P : gS → Prop), wX12_whole n sh (wX12_test n sh (wX12_sums n sh (wX12_products n sh (gTake n sh D)))) a x z P → VM E e 0 gyX12_whole [.ref a, .int x] n sh z (kN n sh P) := by
  obtain ⟨f, rfl⟩ : ∃ f, e = f + 4 := ⟨e - 4, by omega⟩
  rw [show f + 4 - 4 = f by omega] at h
  intro a x z P hf
  refine ctX12_whole (dd := f + 3) hn (fun a x z P hf => ?_) (by omega) hf
  refine ctX12_test (dd := f + 2) hn (fun a x z P hf => ?_) (by omega) hf
  refine ctX12_sums (dd := f + 1) hn (fun a x z P hf => ?_) (by omega) hf
  exact ctX12_products (dd := f) hn h (by omega) hf
theorem gTake_ok {E : gE} {n : Nat} {sh : Nat → Nat × Nat} (hn : n ≤ 1000000) : ∀ (D dd : Nat), 9 + 5 * D ≤ dd → ∀ (a : Nat) (x : Int32) (z : gS) (P : gS → Prop), gTake n sh D a x z P → VM E dd 0 gyX12_takePart [.ref a, .int x] n sh z (kN n sh P) := by
  intro D
  induction D with
  | zero => intro dd _ a x z P hf; exact False.elim hf
  | succ D ih =>
    intro dd hdd a x z P hf
    obtain ⟨e, rfl⟩ : ∃ e, dd = e + 1 := ⟨dd - 1, by omega⟩
    exact ctX12_takePart (dd := e) hn (gTake_up hn (by omega) (ih (e - 4) (by omega))) (ih e (by omega)) (by omega) hf
theorem ctgX12_whole {E : gE} {n : Nat} {sh : Nat → Nat × Nat} {a0 : Nat} {x1 : Int32} {z : gS} {P : gS → Prop} (hn : n ≤ 1000000) (hf : wgX12_whole n sh a0 x1 z P) : VM E 60 0 gyX12_whole [.ref a0, .int x1] n sh z (kN n sh P) := gTake_up hn (D := 7) (by omega) (gTake_ok hn 7 _ (by omega)) _ _ _ _ hf

def wX12_readOnce_J37 (n : Nat) (sh : Nat → Nat × Nat) (P : gS → Prop) (a0 : Nat) (x1 : Int32) (z : gS) : Prop := (oO n sh a0 8) ∧ (if (gi z a0 8) ≤ 0 then (∀ z5 : gS, z5 = si z a0 20 ((gi z a0 20) ||| ((1 : Int32) <<< (x1 &&& 31))) → (∀ z6 : gS, z6 = si z5 a0 7 ((gi z5 a0 7) + (1 : Int32)) → (if x1 = 0 then (wX12_readLight n sh a0 z6 (fun (z16 : gS) => P z16)) else (∃ t7 : Nat, gr z6 a0 10 = some t7 ∧ ((oA n sh t7 1) ∧ ((vp_in (64 : Int32) (sh t7).2) ∧ (∀ z10 : gS, z10 = si z6 t7 (64 : Int32).toNatClampNeg (gi z6 a0 13) → (wgX12_whole n sh a0 (0 : Int32) z10 (fun (z12 : gS) => wX12_emit n sh a0 (0 : Int32) (0 : Int32) z12 (fun (z14 : gS) => P z14)))))))))) else P z)
set_option maxRecDepth 100000 in
set_option maxHeartbeats 4000000 in
theorem vX12_readOnce_J37 {E : gE} {n : Nat} {sh : Nat → Nat × Nat} {P : gS → Prop} {a0 : Nat} {x1 : Int32} {z : gS} (hn : n ≤ 1000000) (hf : wX12_readOnce_J37 n sh P a0 x1 z) : V E (gR 61 0) gyX12_readOnce 0 0 37 [(0, .ref a0), (1, .int x1)] [] n sh z (kN n sh P) := by
  unfold wX12_readOnce_J37 at hf
  refine V_aload_n (j := 0) dX12_readOnce_37 rfl rfl ?_
  obtain ⟨h4, hf⟩ := hf
  refine V_getI fl_X12_159 rfl h4.1 h4.2 dX12_readOnce_38 ?_
  refine V_if_le (tgt := 45) dX12_readOnce_41 (by decide) (fun h18 => ?_) (fun h18 => ?_)
  · have hf := it_t h18 hf
    refine V_aload_n (j := 0) dX12_readOnce_45 rfl rfl ?_
    refine V_dup dX12_readOnce_46 rfl ?_
    refine V_getI fl_X12_208 rfl h4.1 h4.2 dX12_readOnce_47 ?_
    refine V_iconst (v := (1 : Int32)) dX12_readOnce_50 (by decide) ?_
    refine V_iload_n (j := 1) dX12_readOnce_51 rfl rfl ?_
    refine V_ishl dX12_readOnce_52 ?_
    refine V_ior dX12_readOnce_53 ?_
    refine V_putI fl_X12_208 rfl rfl rfl rfl h4.1 h4.2 dX12_readOnce_54 ?_
    refine V_nz (fun z5 ez5 => ?_)
    have hf := hf z5 ez5
    refine V_aload_n (j := 0) dX12_readOnce_57 rfl rfl ?_
    refine V_dup dX12_readOnce_58 rfl ?_
    refine V_getI fl_X12_156 rfl h4.1 h4.2 dX12_readOnce_59 ?_
    refine V_iconst (v := (1 : Int32)) dX12_readOnce_62 (by decide) ?_
    refine V_iadd dX12_readOnce_63 ?_
    refine V_putI fl_X12_156 rfl rfl rfl rfl h4.1 h4.2 dX12_readOnce_64 ?_
    refine V_nz (fun z6 ez6 => ?_)
    have hf := hf z6 ez6
    refine V_iload_n (j := 1) dX12_readOnce_67 rfl rfl ?_
    refine V_if_ne (tgt := 78) dX12_readOnce_68 (by decide) (fun h17 => ?_) (fun h17 => ?_)
    · have hf := it_f h17 hf
      refine V_aload_n (j := 0) dX12_readOnce_78 rfl rfl ?_
      obtain ⟨t7, et7, hf⟩ := hf
      refine V_getR fl_X12_89 rfl h4.1 h4.2 et7 dX12_readOnce_79 ?_
      refine V_bipush (v := (64 : Int32)) dX12_readOnce_82 (by decide) ?_
      refine V_aload_n (j := 0) dX12_readOnce_84 rfl rfl ?_
      refine V_getI fl_X12_205 rfl h4.1 h4.2 dX12_readOnce_85 ?_
      obtain ⟨h8, hf⟩ := hf
      obtain ⟨h9, hf⟩ := hf
      refine V_iast h8.1 h8.s h9 dX12_readOnce_88 ?_
      refine V_nz (fun z10 ez10 => ?_)
      have hf := hf z10 ez10
      refine V_aload_n (j := 0) dX12_readOnce_89 rfl rfl ?_
      refine V_iconst (v := (0 : Int32)) dX12_readOnce_90 (by decide) ?_
      refine V_cVN (ctgX12_whole hn hf) gc_X12_237 rfl h4.1 ⟨_, h4.2, by decide, rfl⟩ ⟨by decide, by decide, Nat.zero_le _, Nat.zero_le _⟩ (Nat.le_of_ble_eq_true rfl) dX12_readOnce_91 rfl hn (fun z12 hf => ?_)
      refine V_aload_n (j := 0) dX12_readOnce_94 rfl rfl ?_
      refine V_iconst (v := (0 : Int32)) dX12_readOnce_95 (by decide) ?_
      refine V_iconst (v := (0 : Int32)) dX12_readOnce_96 (by decide) ?_
      refine V_cVN (ctX12_emit hn hf) gc_X12_240 rfl h4.1 ⟨_, h4.2, by decide, rfl⟩ ⟨by decide, by decide, Nat.zero_le _, Nat.zero_le _⟩ (Nat.le_of_ble_eq_true rfl) dX12_readOnce_97 rfl hn (fun z14 hf => ?_)
      exact V_return dX12_readOnce_100 rfl (Nat.le_refl 0) (kN_of hf)
    · have hf := it_t (Classical.not_not.mp h17) hf
      refine V_aload_n (j := 0) dX12_readOnce_71 rfl rfl ?_
      refine V_cVN (ctX12_readLight hn hf) gc_X12_234 rfl h4.1 ⟨_, h4.2, by decide, rfl⟩ ⟨by decide, by decide, Nat.zero_le _, Nat.zero_le _⟩ (Nat.le_of_ble_eq_true rfl) dX12_readOnce_72 rfl hn (fun z16 hf => ?_)
      refine V_goto (tgt := 100) dX12_readOnce_75 (by decide) ?_
      exact V_return dX12_readOnce_100 rfl (Nat.le_refl 0) (kN_of hf)
  · have hf := it_f h18 hf
    exact V_return dX12_readOnce_44 rfl (Nat.le_refl 0) (kN_of hf)
def wX12_readOnce (n : Nat) (sh : Nat → Nat × Nat) (a0 : Nat) (z : gS) (P : gS → Prop) : Prop := (oO n sh a0 8) ∧ (wX12_wordHere n sh a0 (7 : Int32) (2 : Int32) z (fun (r1 : Int32) (z2 : gS) => if 0 ≤ r1 then (if (((gi z2 a0 20) >>> (r1 &&& 31)) &&& (1 : Int32)) = (1 : Int32) then (wX12_wrong n sh a0 (3 : Int32) z2 (fun (z20 : gS) => wX12_readOnce_J37 n sh P a0 r1 z20)) else wX12_readOnce_J37 n sh P a0 r1 z2) else (wX12_wrong n sh a0 (1 : Int32) z2 (fun (z23 : gS) => wX12_readOnce_J37 n sh P a0 r1 z23))))
set_option maxRecDepth 100000 in
set_option maxHeartbeats 4000000 in
theorem ctX12_readOnce {E : gE} {n : Nat} {sh : Nat → Nat × Nat} {a0 : Nat} {z : gS} {P : gS → Prop} (hn : n ≤ 1000000) (hf : wX12_readOnce n sh a0 z P) : VM E 61 0 gyX12_readOnce [.ref a0] n sh z (kN n sh P) := by
  unfold wX12_readOnce at hf
  refine VM.of (by decide +kernel) (Nat.le_of_ble_eq_true rfl) ?_
  show V E (gR 61 0) gyX12_readOnce 0 0 0 [(0, .ref a0)] [] n sh z (kN n sh P)
  refine V_aload_n (j := 0) dX12_readOnce_0 rfl rfl ?_
  refine V_bipush (v := (7 : Int32)) dX12_readOnce_1 (by decide) ?_
  refine V_iconst (v := (2 : Int32)) dX12_readOnce_3 (by decide) ?_
  obtain ⟨h3, hf⟩ := hf
  refine V_cVI (ctX12_wordHere hn hf) gc_X12_181 rfl h3.1 ⟨_, h3.2, by decide, rfl⟩ ⟨by decide, by decide, Nat.zero_le _, Nat.zero_le _⟩ (Nat.le_of_ble_eq_true rfl) dX12_readOnce_4 rfl hn (fun r1 z2 hf => ?_)
  refine V_istore_n (ls2 := [(1, .int r1), (0, .ref a0)]) dX12_readOnce_7 rfl (by decide) rfl ?_
  refine V_iload_n (j := 0) dX12_readOnce_8 rfl rfl ?_
  refine V_if_ge (tgt := 20) dX12_readOnce_9 (by decide) (fun h24 => ?_) (fun h24 => ?_)
  · have hf := it_t h24 hf
    refine V_aload_n (j := 1) dX12_readOnce_20 rfl rfl ?_
    refine V_getI fl_X12_208 rfl h3.1 h3.2 dX12_readOnce_21 ?_
    refine V_iload_n (j := 0) dX12_readOnce_24 rfl rfl ?_
    refine V_ishr dX12_readOnce_25 ?_
    refine V_iconst (v := (1 : Int32)) dX12_readOnce_26 (by decide) ?_
    refine V_iand dX12_readOnce_27 ?_
    refine V_iconst (v := (1 : Int32)) dX12_readOnce_28 (by decide) ?_
    refine V_icmp_ne (tgt := 37) dX12_readOnce_29 (by decide) (fun h21 => ?_) (fun h21 => ?_)
    · have hf := it_f h21 hf
      refine V_to [1, 0] rfl ?_
      exact vX12_readOnce_J37 hn hf
    · have hf := it_t (Classical.not_not.mp h21) hf
      refine V_aload_n (j := 1) dX12_readOnce_32 rfl rfl ?_
      refine V_iconst (v := (3 : Int32)) dX12_readOnce_33 (by decide) ?_
      refine V_cVN (ctX12_wrong hn hf) gc_X12_165 rfl h3.1 ⟨_, h3.2, by decide, rfl⟩ ⟨by decide, by decide, Nat.zero_le _, Nat.zero_le _⟩ (Nat.le_of_ble_eq_true rfl) dX12_readOnce_34 rfl hn (fun z20 hf => ?_)
      refine V_to [1, 0] rfl ?_
      exact vX12_readOnce_J37 hn hf
  · have hf := it_f h24 hf
    refine V_aload_n (j := 1) dX12_readOnce_12 rfl rfl ?_
    refine V_iconst (v := (1 : Int32)) dX12_readOnce_13 (by decide) ?_
    refine V_cVN (ctX12_wrong hn hf) gc_X12_165 rfl h3.1 ⟨_, h3.2, by decide, rfl⟩ ⟨by decide, by decide, Nat.zero_le _, Nat.zero_le _⟩ (Nat.le_of_ble_eq_true rfl) dX12_readOnce_14 rfl hn (fun z23 hf => ?_)
    refine V_goto (tgt := 37) dX12_readOnce_17 (by decide) ?_
    refine V_to [1, 0] rfl ?_
    exact vX12_readOnce_J37 hn hf
