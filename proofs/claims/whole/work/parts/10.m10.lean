def wX12_years_J153 (n : Nat) (sh : Nat → Nat × Nat) (k66 : Nat → Int32 → Int32 → Int32 → gS → Prop) (P : Int32 → gS → Prop) (a0 : Nat) (x2 : Int32) (x3 : Int32) (x4 : Int32) (z : gS) : Prop := (oO n sh a0 8) ∧ (wX12_passes n sh a0 (1452 : Int32) z (fun (r26 : Int32) (z27 : gS) => ∀ v29 : Int32, v29 = x4 + (1 : Int32) → k66 a0 x2 x3 v29 z27))
set_option maxRecDepth 100000 in
set_option maxHeartbeats 4000000 in
theorem vX12_years_J153 {E : gE} {n : Nat} {sh : Nat → Nat × Nat} {P : Int32 → gS → Prop} {k66 : Nat → Int32 → Int32 → Int32 → gS → Prop} {a0 : Nat} {x2 : Int32} {x3 : Int32} {x4 : Int32} {z : gS} (hn : gOK E n) (hk66 : ∀ (a0 : Nat) (x2 : Int32) (x3 : Int32) (x4 : Int32) (z : gS), k66 a0 x2 x3 x4 z → V E (gR 6 0) gyX12_years 0 0 66 [(0, .ref a0), (2, .int x2), (3, .int x3), (4, .int x4)] [] n sh z (kI n sh P)) (hf : wX12_years_J153 n sh k66 P a0 x2 x3 x4 z) : V E (gR 6 0) gyX12_years 0 0 153 [(0, .ref a0), (2, .int x2), (3, .int x3), (4, .int x4)] [] n sh z (kI n sh P) := by
  unfold wX12_years_J153 at hf
  refine V_aload_n (j := 0) dX12_years_153 rfl rfl ?_
  refine V_sipush (v := (1452 : Int32)) dX12_years_154 (by decide) ?_
  obtain ⟨h28, hf⟩ := hf
  refine V_cVI (ctX12_passes hn hf) gc_X12_361 rfl h28.1 ⟨_, h28.2, by decide, rfl⟩ ⟨by decide, by decide, Nat.zero_le _, Nat.zero_le _⟩ (Nat.le_of_ble_eq_true rfl) dX12_years_157 rfl hn (fun r26 z27 hf => ?_)
  refine V_pop dX12_years_160 rfl ?_
  obtain ⟨v29, ev29⟩ : ∃ y : Int32, y = x4 + (1 : Int32) := ⟨_, rfl⟩
  refine V_iinc (j := 3) (v := v29) (ls2 := [(4, .int v29), (0, .ref a0), (2, .int x2), (3, .int x3)]) dX12_years_161 rfl (by rw [ev29]; rfl) (by decide) rfl ?_
  have hf := hf v29 ev29
  refine V_goto (tgt := 66) dX12_years_164 (by decide) ?_
  refine V_to [1, 2, 3, 0] rfl ?_
  exact hk66 _ _ _ _ _ hf
def wX12_years_J151 (n : Nat) (sh : Nat → Nat × Nat) (k66 : Nat → Int32 → Int32 → Int32 → gS → Prop) (P : Int32 → gS → Prop) (a0 : Nat) (x2 : Int32) (x3 : Int32) (x4 : Int32) (s0 : Int32) (s1 : Int32) (s2 : Int32) (s3 : Nat) (z : gS) : Prop := (oA n sh s3 1) ∧ ((vp_in s2 (sh s3).2) ∧ (∀ z43 : gS, z43 = si z s3 s2.toNatClampNeg (s1 - s0) → wX12_years_J153 n sh k66 P a0 x2 x3 x4 z43))
set_option maxRecDepth 100000 in
set_option maxHeartbeats 4000000 in
theorem vX12_years_J151 {E : gE} {n : Nat} {sh : Nat → Nat × Nat} {P : Int32 → gS → Prop} {k66 : Nat → Int32 → Int32 → Int32 → gS → Prop} {a0 : Nat} {x2 : Int32} {x3 : Int32} {x4 : Int32} {s0 : Int32} {s1 : Int32} {s2 : Int32} {s3 : Nat} {z : gS} (hn : gOK E n) (hk66 : ∀ (a0 : Nat) (x2 : Int32) (x3 : Int32) (x4 : Int32) (z : gS), k66 a0 x2 x3 x4 z → V E (gR 6 0) gyX12_years 0 0 66 [(0, .ref a0), (2, .int x2), (3, .int x3), (4, .int x4)] [] n sh z (kI n sh P)) (hf : wX12_years_J151 n sh k66 P a0 x2 x3 x4 s0 s1 s2 s3 z) : V E (gR 6 0) gyX12_years 0 0 151 [(0, .ref a0), (2, .int x2), (3, .int x3), (4, .int x4)] [.int s0, .int s1, .int s2, .ref s3] n sh z (kI n sh P) := by
  unfold wX12_years_J151 at hf
  refine V_isub dX12_years_151 ?_
  obtain ⟨h41, hf⟩ := hf
  obtain ⟨h42, hf⟩ := hf
  refine V_iast h41.1 h41.s h42 dX12_years_152 ?_
  refine V_nz (fun z43 ez43 => ?_)
  have hf := hf z43 ez43
  exact vX12_years_J153 hn hk66 hf
def wX12_years_B75 (n : Nat) (sh : Nat → Nat × Nat) (k66 : Nat → Int32 → Int32 → Int32 → gS → Prop) (k75 : Nat → Int32 → Int32 → Int32 → Int32 → gS → Prop) (P : Int32 → gS → Prop) (a0 : Nat) (x2 : Int32) (x3 : Int32) (x4 : Int32) (x5 : Int32) (z : gS) : Prop := (oO n sh a0 8) ∧ (wX12_people n sh a0 z (fun (r21 : Int32) (z22 : gS) => if r21 ≤ x5 then (wX12_panes n sh a0 z22 (fun (r24 : Int32) (z25 : gS) => if r24 ≤ 0 then wX12_years_J153 n sh k66 P a0 x2 x3 x4 z25 else (wX12_draw n sh a0 (9 : Int32) z25 (fun (r30 : Int32) (z31 : gS) => if r30 = 0 then (wX12_panes n sh a0 z31 (fun (r32 : Int32) (z33 : gS) => wX12_draw n sh a0 r32 z33 (fun (r34 : Int32) (z35 : gS) => ∃ t36 : Nat, gr z35 a0 24 = some t36 ∧ ((oA n sh t36 1) ∧ ((vp_in ((1470 : Int32) + r34) (sh t36).2) ∧ (wX12_mayWash n sh a0 (1452 : Int32) r34 z35 (fun (r39 : Int32) (z40 : gS) => if r39 = 0 then wX12_years_J151 n sh k66 P a0 x2 x3 x4 (0 : Int32) (gi z35 t36 ((1470 : Int32) + r34).toNatClampNeg) ((1470 : Int32) + r34) t36 z40 else wX12_years_J151 n sh k66 P a0 x2 x3 x4 (1 : Int32) (gi z35 t36 ((1470 : Int32) + r34).toNatClampNeg) ((1470 : Int32) + r34) t36 z40))))))) else wX12_years_J153 n sh k66 P a0 x2 x3 x4 z31)))) else (wX12_drawsPerson n sh a0 x5 z22 (fun (z48 : gS) => ∀ v49 : Int32, v49 = x5 + (1 : Int32) → k75 a0 x2 x3 x4 v49 z48))))
def wX12_years_L75 (n : Nat) (sh : Nat → Nat × Nat) (k66 : Nat → Int32 → Int32 → Int32 → gS → Prop) (P : Int32 → gS → Prop) : Nat → Nat → Int32 → Int32 → Int32 → Int32 → gS → Prop
  | 0, _, _, _, _, _, _ => False
  | N + 1, a0, x2, x3, x4, x5, z => wX12_years_B75 n sh k66 (wX12_years_L75 n sh k66 P N) P a0 x2 x3 x4 x5 z
set_option maxRecDepth 100000 in
set_option maxHeartbeats 4000000 in
theorem vX12_years_B75 {E : gE} {n : Nat} {sh : Nat → Nat × Nat} {P : Int32 → gS → Prop} {k66 : Nat → Int32 → Int32 → Int32 → gS → Prop} {k75 : Nat → Int32 → Int32 → Int32 → Int32 → gS → Prop} {a0 : Nat} {x2 : Int32} {x3 : Int32} {x4 : Int32} {x5 : Int32} {z : gS} (hn : gOK E n) (hk66 : ∀ (a0 : Nat) (x2 : Int32) (x3 : Int32) (x4 : Int32) (z : gS), k66 a0 x2 x3 x4 z → V E (gR 6 0) gyX12_years 0 0 66 [(0, .ref a0), (2, .int x2), (3, .int x3), (4, .int x4)] [] n sh z (kI n sh P)) (hk75 : ∀ (a0 : Nat) (x2 : Int32) (x3 : Int32) (x4 : Int32) (x5 : Int32) (z : gS), k75 a0 x2 x3 x4 x5 z → V E (gR 6 0) gyX12_years 0 0 75 [(0, .ref a0), (2, .int x2), (3, .int x3), (4, .int x4), (5, .int x5)] [] n sh z (kI n sh P)) (hf : wX12_years_B75 n sh k66 k75 P a0 x2 x3 x4 x5 z) : V E (gR 6 0) gyX12_years 0 0 75 [(0, .ref a0), (2, .int x2), (3, .int x3), (4, .int x4), (5, .int x5)] [] n sh z (kI n sh P) := by
  unfold wX12_years_B75 at hf
  refine V_iload (j := 4) dX12_years_75 rfl ?_
  refine V_aload_n (j := 0) dX12_years_77 rfl rfl ?_
  obtain ⟨h23, hf⟩ := hf
  refine V_cVI (ctX12_people hn hf) gc_X12_265 rfl h23.1 ⟨_, h23.2, by decide, rfl⟩ ⟨by decide, by decide, Nat.zero_le _, Nat.zero_le _⟩ (Nat.le_of_ble_eq_true rfl) dX12_years_78 rfl hn (fun r21 z22 hf => ?_)
  refine V_icmp_ge (tgt := 96) dX12_years_81 (by decide) (fun h50 => ?_) (fun h50 => ?_)
  · have hf := it_t h50 hf
    refine V_aload_n (j := 0) dX12_years_96 rfl rfl ?_
    refine V_cVI (ctX12_panes hn hf) gc_X12_278 rfl h23.1 ⟨_, h23.2, by decide, rfl⟩ ⟨by decide, by decide, Nat.zero_le _, Nat.zero_le _⟩ (Nat.le_of_ble_eq_true rfl) dX12_years_97 rfl hn (fun r24 z25 hf => ?_)
    refine V_if_le (tgt := 153) dX12_years_100 (by decide) (fun h46 => ?_) (fun h46 => ?_)
    · have hf := it_t h46 hf
      refine V_to [0, 1, 2, 3] rfl ?_
      exact vX12_years_J153 hn hk66 hf
    · have hf := it_f h46 hf
      refine V_aload_n (j := 0) dX12_years_103 rfl rfl ?_
      refine V_bipush (v := (9 : Int32)) dX12_years_104 (by decide) ?_
      refine V_cVI (ctX12_draw hn hf) gc_X12_402 rfl h23.1 ⟨_, h23.2, by decide, rfl⟩ ⟨by decide, by decide, Nat.zero_le _, Nat.zero_le _⟩ (Nat.le_of_ble_eq_true rfl) dX12_years_106 rfl hn (fun r30 z31 hf => ?_)
      refine V_if_ne (tgt := 153) dX12_years_109 (by decide) (fun h45 => ?_) (fun h45 => ?_)
      · have hf := it_f h45 hf
        refine V_to [0, 1, 2, 3] rfl ?_
        exact vX12_years_J153 hn hk66 hf
      · have hf := it_t (Classical.not_not.mp h45) hf
        refine V_aload_n (j := 0) dX12_years_112 rfl rfl ?_
        refine V_aload_n (j := 0) dX12_years_113 rfl rfl ?_
        refine V_cVI (ctX12_panes hn hf) gc_X12_278 rfl h23.1 ⟨_, h23.2, by decide, rfl⟩ ⟨by decide, by decide, Nat.zero_le _, Nat.zero_le _⟩ (Nat.le_of_ble_eq_true rfl) dX12_years_114 rfl hn (fun r32 z33 hf => ?_)
        refine V_cVI (ctX12_draw hn hf) gc_X12_402 rfl h23.1 ⟨_, h23.2, by decide, rfl⟩ ⟨by decide, by decide, Nat.zero_le _, Nat.zero_le _⟩ (Nat.le_of_ble_eq_true rfl) dX12_years_117 rfl hn (fun r34 z35 hf => ?_)
        refine V_istore (ls2 := [(5, .int r34), (0, .ref a0), (2, .int x2), (3, .int x3), (4, .int x4)]) dX12_years_120 (by decide) rfl ?_
        refine V_aload_n (j := 1) dX12_years_122 rfl rfl ?_
        obtain ⟨t36, et36, hf⟩ := hf
        refine V_getR fl_X12_119 rfl h23.1 h23.2 et36 dX12_years_123 ?_
        refine V_sipush (v := (1470 : Int32)) dX12_years_126 (by decide) ?_
        refine V_iload (j := 0) dX12_years_129 rfl ?_
        refine V_iadd dX12_years_131 ?_
        refine V_dup2 dX12_years_132 rfl rfl ?_
        obtain ⟨h37, hf⟩ := hf
        obtain ⟨h38, hf⟩ := hf
        refine V_iald h37.1 h37.s h38 dX12_years_133 ?_
        refine V_aload_n (j := 1) dX12_years_134 rfl rfl ?_
        refine V_sipush (v := (1452 : Int32)) dX12_years_135 (by decide) ?_
        refine V_iload (j := 0) dX12_years_138 rfl ?_
        refine V_cVI (ctX12_mayWash hn hf) gc_X12_358 rfl h23.1 ⟨_, h23.2, by decide, rfl⟩ ⟨by decide, by decide, Nat.zero_le _, Nat.zero_le _⟩ (Nat.le_of_ble_eq_true rfl) dX12_years_140 rfl hn (fun r39 z40 hf => ?_)
        refine V_if_eq (tgt := 150) dX12_years_143 (by decide) (fun h44 => ?_) (fun h44 => ?_)
        · have hf := it_t h44 hf
          refine V_iconst (v := (0 : Int32)) dX12_years_150 (by decide) ?_
          refine V_to [1, 2, 3, 4] rfl ?_
          exact vX12_years_J151 hn hk66 hf
        · have hf := it_f h44 hf
          refine V_iconst (v := (1 : Int32)) dX12_years_146 (by decide) ?_
          refine V_goto (tgt := 151) dX12_years_147 (by decide) ?_
          refine V_to [1, 2, 3, 4] rfl ?_
          exact vX12_years_J151 hn hk66 hf
  · have hf := it_f h50 hf
    refine V_aload_n (j := 0) dX12_years_84 rfl rfl ?_
    refine V_iload (j := 4) dX12_years_85 rfl ?_
    refine V_cVN (ctX12_drawsPerson hn hf) gc_X12_411 rfl h23.1 ⟨_, h23.2, by decide, rfl⟩ ⟨by decide, by decide, Nat.zero_le _, Nat.zero_le _⟩ (Nat.le_of_ble_eq_true rfl) dX12_years_87 rfl hn (fun z48 hf => ?_)
    obtain ⟨v49, ev49⟩ : ∃ y : Int32, y = x5 + (1 : Int32) := ⟨_, rfl⟩
    refine V_iinc (j := 4) (v := v49) (ls2 := [(5, .int v49), (0, .ref a0), (2, .int x2), (3, .int x3), (4, .int x4)]) dX12_years_90 rfl (by rw [ev49]; rfl) (by decide) rfl ?_
    have hf := hf v49 ev49
    refine V_goto (tgt := 75) dX12_years_93 (by decide) ?_
    refine V_to [1, 2, 3, 4, 0] rfl ?_
    exact hk75 _ _ _ _ _ _ hf
set_option maxRecDepth 100000 in
set_option maxHeartbeats 4000000 in
theorem vX12_years_L75 {E : gE} {n : Nat} {sh : Nat → Nat × Nat} {P : Int32 → gS → Prop} {k66 : Nat → Int32 → Int32 → Int32 → gS → Prop} (hn : gOK E n) (hk66 : ∀ (a0 : Nat) (x2 : Int32) (x3 : Int32) (x4 : Int32) (z : gS), k66 a0 x2 x3 x4 z → V E (gR 6 0) gyX12_years 0 0 66 [(0, .ref a0), (2, .int x2), (3, .int x3), (4, .int x4)] [] n sh z (kI n sh P)) : ∀ (N : Nat) (a0 : Nat) (x2 : Int32) (x3 : Int32) (x4 : Int32) (x5 : Int32) (z : gS), wX12_years_L75 n sh k66 P N a0 x2 x3 x4 x5 z → V E (gR 6 0) gyX12_years 0 0 75 [(0, .ref a0), (2, .int x2), (3, .int x3), (4, .int x4), (5, .int x5)] [] n sh z (kI n sh P) := by
  intro N
  induction N with
  | zero => intro a0 x2 x3 x4 x5 z hf; exact False.elim hf
  | succ N ih => intro a0 x2 x3 x4 x5 z hf; exact vX12_years_B75 hn hk66 ih hf
def wX12_years_B66 (n : Nat) (sh : Nat → Nat × Nat) (k66 : Nat → Int32 → Int32 → Int32 → gS → Prop) (P : Int32 → gS → Prop) (a0 : Nat) (x2 : Int32) (x3 : Int32) (x4 : Int32) (z : gS) : Prop := if x2 ≤ x4 then (if x3 = 0 then ((oO n sh a0 8) ∧ P (gi z a0 29) z) else (if x3 = (1 : Int32) then ((oO n sh a0 8) ∧ P (gi z a0 30) z) else ((oO n sh a0 8) ∧ (wX12_harmShown n sh a0 (1452 : Int32) (-1 : Int32) (6 : Int32) z (fun (r14 : Int32) (z15 : gS) => P r14 z15))))) else ((∃ N, wX12_years_L75 n sh k66 P N a0 x2 x3 x4 (0 : Int32) z))
def wX12_years_L66 (n : Nat) (sh : Nat → Nat × Nat) (P : Int32 → gS → Prop) : Nat → Nat → Int32 → Int32 → Int32 → gS → Prop
  | 0, _, _, _, _, _ => False
  | N + 1, a0, x2, x3, x4, z => wX12_years_B66 n sh (wX12_years_L66 n sh P N) P a0 x2 x3 x4 z
set_option maxRecDepth 100000 in
set_option maxHeartbeats 4000000 in
theorem vX12_years_B66 {E : gE} {n : Nat} {sh : Nat → Nat × Nat} {P : Int32 → gS → Prop} {k66 : Nat → Int32 → Int32 → Int32 → gS → Prop} {a0 : Nat} {x2 : Int32} {x3 : Int32} {x4 : Int32} {z : gS} (hn : gOK E n) (hk66 : ∀ (a0 : Nat) (x2 : Int32) (x3 : Int32) (x4 : Int32) (z : gS), k66 a0 x2 x3 x4 z → V E (gR 6 0) gyX12_years 0 0 66 [(0, .ref a0), (2, .int x2), (3, .int x3), (4, .int x4)] [] n sh z (kI n sh P)) (hf : wX12_years_B66 n sh k66 P a0 x2 x3 x4 z) : V E (gR 6 0) gyX12_years 0 0 66 [(0, .ref a0), (2, .int x2), (3, .int x3), (4, .int x4)] [] n sh z (kI n sh P) := by
  unfold wX12_years_B66 at hf
  refine V_iload (j := 3) dX12_years_66 rfl ?_
  refine V_iload_n (j := 1) dX12_years_68 rfl rfl ?_
  refine V_icmp_ge (tgt := 167) dX12_years_69 (by decide) (fun h51 => ?_) (fun h51 => ?_)
  · have hf := it_t h51 hf
    refine V_iload_n (j := 2) dX12_years_167 rfl rfl ?_
    refine V_if_ne (tgt := 178) dX12_years_168 (by decide) (fun h20 => ?_) (fun h20 => ?_)
    · have hf := it_f h20 hf
      refine V_iload_n (j := 2) dX12_years_178 rfl rfl ?_
      refine V_iconst (v := (1 : Int32)) dX12_years_179 (by decide) ?_
      refine V_icmp_ne (tgt := 190) dX12_years_180 (by decide) (fun h18 => ?_) (fun h18 => ?_)
      · have hf := it_f h18 hf
        refine V_aload_n (j := 0) dX12_years_190 rfl rfl ?_
        refine V_sipush (v := (1452 : Int32)) dX12_years_191 (by decide) ?_
        refine V_iconst (v := (-1 : Int32)) dX12_years_194 (by decide) ?_
        refine V_bipush (v := (6 : Int32)) dX12_years_195 (by decide) ?_
        obtain ⟨h16, hf⟩ := hf
        refine V_cVI (ctX12_harmShown hn hf) gc_X12_371 rfl h16.1 ⟨_, h16.2, by decide, rfl⟩ ⟨by decide, by decide, Nat.zero_le _, Nat.zero_le _⟩ (Nat.le_of_ble_eq_true rfl) dX12_years_197 rfl hn (fun r14 z15 hf => ?_)
        exact V_ireturn dX12_years_200 rfl rfl (Nat.le_refl 0) (kI_of hf)
      · have hf := it_t (Classical.not_not.mp h18) hf
        refine V_aload_n (j := 0) dX12_years_183 rfl rfl ?_
        obtain ⟨h17, hf⟩ := hf
        refine V_getI fl_X12_408 rfl h17.1 h17.2 dX12_years_184 ?_
        refine V_goto (tgt := 200) dX12_years_187 (by decide) ?_
        exact V_ireturn dX12_years_200 rfl rfl (Nat.le_refl 0) (kI_of hf)
    · have hf := it_t (Classical.not_not.mp h20) hf
      refine V_aload_n (j := 0) dX12_years_171 rfl rfl ?_
      obtain ⟨h19, hf⟩ := hf
      refine V_getI fl_X12_405 rfl h19.1 h19.2 dX12_years_172 ?_
      refine V_goto (tgt := 200) dX12_years_175 (by decide) ?_
      exact V_ireturn dX12_years_200 rfl rfl (Nat.le_refl 0) (kI_of hf)
  · have hf := it_f h51 hf
    refine V_iconst (v := (0 : Int32)) dX12_years_72 (by decide) ?_
    refine V_istore (ls2 := [(5, .int (0 : Int32)), (0, .ref a0), (2, .int x2), (3, .int x3), (4, .int x4)]) dX12_years_73 (by decide) rfl ?_
    obtain ⟨N, hf⟩ := hf
    refine V_to [1, 2, 3, 4, 0] rfl ?_
    exact vX12_years_L75 hn hk66 N _ _ _ _ _ _ hf
set_option maxRecDepth 100000 in
set_option maxHeartbeats 4000000 in
theorem vX12_years_L66 {E : gE} {n : Nat} {sh : Nat → Nat × Nat} {P : Int32 → gS → Prop} (hn : gOK E n) : ∀ (N : Nat) (a0 : Nat) (x2 : Int32) (x3 : Int32) (x4 : Int32) (z : gS), wX12_years_L66 n sh P N a0 x2 x3 x4 z → V E (gR 6 0) gyX12_years 0 0 66 [(0, .ref a0), (2, .int x2), (3, .int x3), (4, .int x4)] [] n sh z (kI n sh P) := by
  intro N
  induction N with
  | zero => intro a0 x2 x3 x4 z hf; exact False.elim hf
  | succ N ih => intro a0 x2 x3 x4 z hf; exact vX12_years_B66 hn ih hf
def wX12_years (n : Nat) (sh : Nat → Nat × Nat) (a0 : Nat) (x1 : Int32) (x2 : Int32) (x3 : Int32) (z : gS) (P : Int32 → gS → Prop) : Prop := (oO n sh a0 8) ∧ (∀ z2 : gS, z2 = si z a0 0 (0 : Int32) → (wX12_within n sh x1 (0 : Int32) (9999 : Int32) z2 (fun (r3 : Int32) (z4 : gS) => if r3 = 0 then P (-1 : Int32) z4 else (wX12_within n sh x2 (1 : Int32) (99 : Int32) z4 (fun (r5 : Int32) (z6 : gS) => if r5 = 0 then P (-1 : Int32) z6 else (wX12_within n sh x3 (0 : Int32) (2 : Int32) z6 (fun (r7 : Int32) (z8 : gS) => if r7 = 0 then P (-1 : Int32) z8 else (wX12_copies n sh a0 (0 : Int32) (1452 : Int32) (60 : Int32) z8 (fun (z10 : gS) => ∀ z11 : gS, z11 = sl z10 a0 28 x1.toInt64 → (∀ z12 : gS, z12 = si z11 a0 29 (0 : Int32) → (∀ z13 : gS, z13 = si z12 a0 30 (0 : Int32) → ((∃ N, wX12_years_L66 n sh P N a0 x2 x3 (0 : Int32) z13)))))))))))))
set_option maxRecDepth 100000 in
set_option maxHeartbeats 4000000 in
theorem ctX12_years {E : gE} {n : Nat} {sh : Nat → Nat × Nat} {a0 : Nat} {x1 : Int32} {x2 : Int32} {x3 : Int32} {z : gS} {P : Int32 → gS → Prop} (hn : gOK E n) (hf : wX12_years n sh a0 x1 x2 x3 z P) : VM E 6 0 gyX12_years [.ref a0, .int x1, .int x2, .int x3] n sh z (kI n sh P) := by
  unfold wX12_years at hf
  refine VM.of (by decide +kernel) (Nat.le_of_ble_eq_true rfl) (fun _ _ _ h => h.2.2) ?_
  show V E (gR 6 0) gyX12_years 0 0 0 [(0, .ref a0), (1, .int x1), (2, .int x2), (3, .int x3)] [] n sh z (kI n sh P)
  refine V_aload_n (j := 0) dX12_years_0 rfl rfl ?_
  refine V_iconst (v := (0 : Int32)) dX12_years_1 (by decide) ?_
  obtain ⟨h1, hf⟩ := hf
  refine V_putI fl_X12_1 rfl rfl rfl rfl h1.1 h1.2 dX12_years_2 ?_
  refine V_nz (fun z2 ez2 => ?_)
  have hf := hf z2 ez2
  refine V_iload_n (j := 1) dX12_years_5 rfl rfl ?_
  refine V_iconst (v := (0 : Int32)) dX12_years_6 (by decide) ?_
  refine V_sipush (v := (9999 : Int32)) dX12_years_7 (by decide) ?_
  refine V_cSI (ctX12_within hn hf) gc_X12_198 rfl ⟨by decide, by decide, Nat.zero_le _, Nat.zero_le _⟩ (Nat.le_of_ble_eq_true rfl) dX12_years_10 rfl hn (fun r3 z4 hf => ?_)
  refine V_if_eq (tgt := 35) dX12_years_13 (by decide) (fun h54 => ?_) (fun h54 => ?_)
  · have hf := it_t h54 hf
    refine V_iconst (v := (-1 : Int32)) dX12_years_35 (by decide) ?_
    exact V_ireturn dX12_years_36 rfl rfl (Nat.le_refl 0) (kI_of hf)
  · have hf := it_f h54 hf
    refine V_iload_n (j := 2) dX12_years_16 rfl rfl ?_
    refine V_iconst (v := (1 : Int32)) dX12_years_17 (by decide) ?_
    refine V_bipush (v := (99 : Int32)) dX12_years_18 (by decide) ?_
    refine V_cSI (ctX12_within hn hf) gc_X12_198 rfl ⟨by decide, by decide, Nat.zero_le _, Nat.zero_le _⟩ (Nat.le_of_ble_eq_true rfl) dX12_years_20 rfl hn (fun r5 z6 hf => ?_)
    refine V_if_eq (tgt := 35) dX12_years_23 (by decide) (fun h53 => ?_) (fun h53 => ?_)
    · have hf := it_t h53 hf
      refine V_iconst (v := (-1 : Int32)) dX12_years_35 (by decide) ?_
      exact V_ireturn dX12_years_36 rfl rfl (Nat.le_refl 0) (kI_of hf)
    · have hf := it_f h53 hf
      refine V_iload_n (j := 3) dX12_years_26 rfl rfl ?_
      refine V_iconst (v := (0 : Int32)) dX12_years_27 (by decide) ?_
      refine V_iconst (v := (2 : Int32)) dX12_years_28 (by decide) ?_
      refine V_cSI (ctX12_within hn hf) gc_X12_198 rfl ⟨by decide, by decide, Nat.zero_le _, Nat.zero_le _⟩ (Nat.le_of_ble_eq_true rfl) dX12_years_29 rfl hn (fun r7 z8 hf => ?_)
      refine V_if_ne (tgt := 37) dX12_years_32 (by decide) (fun h52 => ?_) (fun h52 => ?_)
      · have hf := it_f h52 hf
        refine V_aload_n (j := 0) dX12_years_37 rfl rfl ?_
        refine V_iconst (v := (0 : Int32)) dX12_years_38 (by decide) ?_
        refine V_sipush (v := (1452 : Int32)) dX12_years_39 (by decide) ?_
        refine V_bipush (v := (60 : Int32)) dX12_years_42 (by decide) ?_
        refine V_cVN (ctX12_copies hn hf) gc_X12_275 rfl h1.1 ⟨_, h1.2, by decide, rfl⟩ ⟨by decide, by decide, Nat.zero_le _, Nat.zero_le _⟩ (Nat.le_of_ble_eq_true rfl) dX12_years_44 rfl hn (fun z10 hf => ?_)
        refine V_aload_n (j := 0) dX12_years_47 rfl rfl ?_
        refine V_iload_n (j := 1) dX12_years_48 rfl rfl ?_
        refine V_i2l dX12_years_49 ?_
        refine V_putL fl_X12_390 rfl rfl rfl rfl h1.1 h1.2 dX12_years_50 ?_
        refine V_nz (fun z11 ez11 => ?_)
        have hf := hf z11 ez11
        refine V_aload_n (j := 0) dX12_years_53 rfl rfl ?_
        refine V_iconst (v := (0 : Int32)) dX12_years_54 (by decide) ?_
        refine V_putI fl_X12_405 rfl rfl rfl rfl h1.1 h1.2 dX12_years_55 ?_
        refine V_nz (fun z12 ez12 => ?_)
        have hf := hf z12 ez12
        refine V_aload_n (j := 0) dX12_years_58 rfl rfl ?_
        refine V_iconst (v := (0 : Int32)) dX12_years_59 (by decide) ?_
        refine V_putI fl_X12_408 rfl rfl rfl rfl h1.1 h1.2 dX12_years_60 ?_
        refine V_nz (fun z13 ez13 => ?_)
        have hf := hf z13 ez13
        refine V_iconst (v := (0 : Int32)) dX12_years_63 (by decide) ?_
        refine V_istore (ls2 := [(4, .int (0 : Int32)), (0, .ref a0), (1, .int x1), (2, .int x2), (3, .int x3)]) dX12_years_64 (by decide) rfl ?_
        obtain ⟨N, hf⟩ := hf
        refine V_to [1, 3, 4, 0] rfl ?_
        exact vX12_years_L66 hn N _ _ _ _ _ hf
      · have hf := it_t (Classical.not_not.mp h52) hf
        refine V_iconst (v := (-1 : Int32)) dX12_years_35 (by decide) ?_
        exact V_ireturn dX12_years_36 rfl rfl (Nat.le_refl 0) (kI_of hf)
def wX12_notch_J83 (n : Nat) (sh : Nat → Nat × Nat) (P : Int32 → gS → Prop) (s0 : Int32) (s1 : Nat) (z : gS) : Prop := (oO n sh s1 8) ∧ (∀ z15 : gS, z15 = si z s1 25 s0 → P (1 : Int32) z15)
set_option maxRecDepth 100000 in
set_option maxHeartbeats 4000000 in
theorem vX12_notch_J83 {E : gE} {n : Nat} {sh : Nat → Nat × Nat} {P : Int32 → gS → Prop} {s0 : Int32} {s1 : Nat} {z : gS} (hn : gOK E n) (hf : wX12_notch_J83 n sh P s0 s1 z) : V E (gR 1 0) gyX12_notch 0 0 83 [] [.int s0, .ref s1] n sh z (kI n sh P) := by
  unfold wX12_notch_J83 at hf
  obtain ⟨h14, hf⟩ := hf
  refine V_putI fl_X12_272 rfl rfl rfl rfl h14.1 h14.2 dX12_notch_83 ?_
  refine V_nz (fun z15 ez15 => ?_)
  have hf := hf z15 ez15
  refine V_iconst (v := (1 : Int32)) dX12_notch_86 (by decide) ?_
  exact V_ireturn dX12_notch_87 rfl (by decide) (Nat.le_refl 0) (kI_of hf)
def wX12_notch_J65 (n : Nat) (sh : Nat → Nat × Nat) (P : Int32 → gS → Prop) (a0 : Nat) (x2 : Int32) (s0 : Int32) (s1 : Int32) (s2 : Nat) (z : gS) : Prop := (oO n sh s2 8) ∧ (wX12_copies n sh s2 s1 s0 (66 : Int32) z (fun (z11 : gS) => if x2 = 0 then ((oO n sh a0 8) ∧ wX12_notch_J83 n sh P (gi z11 a0 25) a0 z11) else wX12_notch_J83 n sh P (0 : Int32) a0 z11))
set_option maxRecDepth 100000 in
set_option maxHeartbeats 4000000 in
theorem vX12_notch_J65 {E : gE} {n : Nat} {sh : Nat → Nat × Nat} {P : Int32 → gS → Prop} {a0 : Nat} {x2 : Int32} {s0 : Int32} {s1 : Int32} {s2 : Nat} {z : gS} (hn : gOK E n) (hf : wX12_notch_J65 n sh P a0 x2 s0 s1 s2 z) : V E (gR 1 0) gyX12_notch 0 0 65 [(0, .ref a0), (2, .int x2)] [.int s0, .int s1, .ref s2] n sh z (kI n sh P) := by
  unfold wX12_notch_J65 at hf
  refine V_bipush (v := (66 : Int32)) dX12_notch_65 (by decide) ?_
  obtain ⟨h12, hf⟩ := hf
  refine V_cVN (ctX12_copies hn hf) gc_X12_275 rfl h12.1 ⟨_, h12.2, by decide, rfl⟩ ⟨by decide, by decide, Nat.zero_le _, Nat.zero_le _⟩ (Nat.le_of_ble_eq_true rfl) dX12_notch_67 rfl hn (fun z11 hf => ?_)
  refine V_aload_n (j := 0) dX12_notch_70 rfl rfl ?_
  refine V_iload_n (j := 1) dX12_notch_71 rfl rfl ?_
  refine V_if_eq (tgt := 79) dX12_notch_72 (by decide) (fun h16 => ?_) (fun h16 => ?_)
  · have hf := it_t h16 hf
    refine V_aload_n (j := 0) dX12_notch_79 rfl rfl ?_
    obtain ⟨h13, hf⟩ := hf
    refine V_getI fl_X12_272 rfl h13.1 h13.2 dX12_notch_80 ?_
    refine V_to [] rfl ?_
    exact vX12_notch_J83 hn hf
  · have hf := it_f h16 hf
    refine V_iconst (v := (0 : Int32)) dX12_notch_75 (by decide) ?_
    refine V_goto (tgt := 83) dX12_notch_76 (by decide) ?_
    refine V_to [] rfl ?_
    exact vX12_notch_J83 hn hf
def wX12_notch_J51 (n : Nat) (sh : Nat → Nat × Nat) (P : Int32 → gS → Prop) (a0 : Nat) (x1 : Int32) (x2 : Int32) (s0 : Int32) (s1 : Nat) (z : gS) : Prop := if x2 = 0 then wX12_notch_J65 n sh P a0 x2 ((66 : Int32) * ((1 : Int32) + x1)) s0 s1 z else wX12_notch_J65 n sh P a0 x2 (0 : Int32) s0 s1 z
set_option maxRecDepth 100000 in
set_option maxHeartbeats 4000000 in
theorem vX12_notch_J51 {E : gE} {n : Nat} {sh : Nat → Nat × Nat} {P : Int32 → gS → Prop} {a0 : Nat} {x1 : Int32} {x2 : Int32} {s0 : Int32} {s1 : Nat} {z : gS} (hn : gOK E n) (hf : wX12_notch_J51 n sh P a0 x1 x2 s0 s1 z) : V E (gR 1 0) gyX12_notch 0 0 51 [(0, .ref a0), (1, .int x1), (2, .int x2)] [.int s0, .ref s1] n sh z (kI n sh P) := by
  unfold wX12_notch_J51 at hf
  refine V_iload_n (j := 2) dX12_notch_51 rfl rfl ?_
  refine V_if_eq (tgt := 59) dX12_notch_52 (by decide) (fun h17 => ?_) (fun h17 => ?_)
  · have hf := it_t h17 hf
    refine V_bipush (v := (66 : Int32)) dX12_notch_59 (by decide) ?_
    refine V_iconst (v := (1 : Int32)) dX12_notch_61 (by decide) ?_
    refine V_iload_n (j := 1) dX12_notch_62 rfl rfl ?_
    refine V_iadd dX12_notch_63 ?_
    refine V_imul dX12_notch_64 ?_
    refine V_to [0, 2] rfl ?_
    exact vX12_notch_J65 hn hf
  · have hf := it_f h17 hf
    refine V_iconst (v := (0 : Int32)) dX12_notch_55 (by decide) ?_
    refine V_goto (tgt := 65) dX12_notch_56 (by decide) ?_
    refine V_to [0, 2] rfl ?_
    exact vX12_notch_J65 hn hf
def wX12_notch_J29 (n : Nat) (sh : Nat → Nat × Nat) (P : Int32 → gS → Prop) (a0 : Nat) (x1 : Int32) (x2 : Int32) (z : gS) : Prop := (oO n sh a0 8) ∧ (∃ t6 : Nat, gr z a0 26 = some t6 ∧ ((oA n sh t6 4) ∧ ((vp_in x1 (sh t6).2) ∧ (∀ z9 : gS, z9 = si z t6 x1.toNatClampNeg (vp_nar .boolean (1 : Int32)) → (if x2 = 0 then wX12_notch_J51 n sh P a0 x1 x2 (0 : Int32) a0 z9 else wX12_notch_J51 n sh P a0 x1 x2 ((66 : Int32) * ((1 : Int32) + x1)) a0 z9)))))
set_option maxRecDepth 100000 in
set_option maxHeartbeats 4000000 in
theorem vX12_notch_J29 {E : gE} {n : Nat} {sh : Nat → Nat × Nat} {P : Int32 → gS → Prop} {a0 : Nat} {x1 : Int32} {x2 : Int32} {z : gS} (hn : gOK E n) (hf : wX12_notch_J29 n sh P a0 x1 x2 z) : V E (gR 1 0) gyX12_notch 0 0 29 [(0, .ref a0), (1, .int x1), (2, .int x2)] [] n sh z (kI n sh P) := by
  unfold wX12_notch_J29 at hf
  refine V_aload_n (j := 0) dX12_notch_29 rfl rfl ?_
  obtain ⟨h5, hf⟩ := hf
  obtain ⟨t6, et6, hf⟩ := hf
  refine V_getR fl_X12_122 rfl h5.1 h5.2 et6 dX12_notch_30 ?_
  refine V_iload_n (j := 1) dX12_notch_33 rfl rfl ?_
  refine V_iconst (v := (1 : Int32)) dX12_notch_34 (by decide) ?_
  obtain ⟨h7, hf⟩ := hf
  obtain ⟨h8, hf⟩ := hf
  refine V_zast h7.1 h7.s h8 dX12_notch_35 ?_
  refine V_nz (fun z9 ez9 => ?_)
  have hf := hf z9 ez9
  refine V_aload_n (j := 0) dX12_notch_36 rfl rfl ?_
  refine V_iload_n (j := 2) dX12_notch_37 rfl rfl ?_
  refine V_if_eq (tgt := 50) dX12_notch_38 (by decide) (fun h18 => ?_) (fun h18 => ?_)
  · have hf := it_t h18 hf
    refine V_iconst (v := (0 : Int32)) dX12_notch_50 (by decide) ?_
    exact vX12_notch_J51 hn hf
  · have hf := it_f h18 hf
    refine V_bipush (v := (66 : Int32)) dX12_notch_41 (by decide) ?_
    refine V_iconst (v := (1 : Int32)) dX12_notch_43 (by decide) ?_
    refine V_iload_n (j := 1) dX12_notch_44 rfl rfl ?_
    refine V_iadd dX12_notch_45 ?_
    refine V_imul dX12_notch_46 ?_
    refine V_goto (tgt := 51) dX12_notch_47 (by decide) ?_
    exact vX12_notch_J51 hn hf
def wX12_notch (n : Nat) (sh : Nat → Nat × Nat) (a0 : Nat) (x1 : Int32) (x2 : Int32) (z : gS) (P : Int32 → gS → Prop) : Prop := (oO n sh a0 8) ∧ (∀ z2 : gS, z2 = si z a0 0 (0 : Int32) → (wX12_within n sh x1 (0 : Int32) (3 : Int32) z2 (fun (r3 : Int32) (z4 : gS) => if r3 = 0 then P (0 : Int32) z4 else (if x2 = 0 then wX12_notch_J29 n sh P a0 x1 x2 z4 else (∃ t19 : Nat, gr z4 a0 26 = some t19 ∧ ((oA n sh t19 4) ∧ ((vp_in x1 (sh t19).2) ∧ (if (gi z4 t19 x1.toNatClampNeg) = 0 then P (0 : Int32) z4 else wX12_notch_J29 n sh P a0 x1 x2 z4))))))))
set_option maxRecDepth 100000 in
set_option maxHeartbeats 4000000 in
theorem ctX12_notch {E : gE} {n : Nat} {sh : Nat → Nat × Nat} {a0 : Nat} {x1 : Int32} {x2 : Int32} {z : gS} {P : Int32 → gS → Prop} (hn : gOK E n) (hf : wX12_notch n sh a0 x1 x2 z P) : VM E 1 0 gyX12_notch [.ref a0, .int x1, .int x2] n sh z (kI n sh P) := by
  unfold wX12_notch at hf
  refine VM.of (by decide +kernel) (Nat.le_of_ble_eq_true rfl) (fun _ _ _ h => h.2.2) ?_
  show V E (gR 1 0) gyX12_notch 0 0 0 [(0, .ref a0), (1, .int x1), (2, .int x2)] [] n sh z (kI n sh P)
  refine V_aload_n (j := 0) dX12_notch_0 rfl rfl ?_
  refine V_iconst (v := (0 : Int32)) dX12_notch_1 (by decide) ?_
  obtain ⟨h1, hf⟩ := hf
  refine V_putI fl_X12_1 rfl rfl rfl rfl h1.1 h1.2 dX12_notch_2 ?_
  refine V_nz (fun z2 ez2 => ?_)
  have hf := hf z2 ez2
  refine V_iload_n (j := 1) dX12_notch_5 rfl rfl ?_
  refine V_iconst (v := (0 : Int32)) dX12_notch_6 (by decide) ?_
  refine V_iconst (v := (3 : Int32)) dX12_notch_7 (by decide) ?_
  refine V_cSI (ctX12_within hn hf) gc_X12_198 rfl ⟨by decide, by decide, Nat.zero_le _, Nat.zero_le _⟩ (Nat.le_of_ble_eq_true rfl) dX12_notch_8 rfl hn (fun r3 z4 hf => ?_)
  refine V_if_eq (tgt := 27) dX12_notch_11 (by decide) (fun h24 => ?_) (fun h24 => ?_)
  · have hf := it_t h24 hf
    refine V_iconst (v := (0 : Int32)) dX12_notch_27 (by decide) ?_
    exact V_ireturn dX12_notch_28 rfl (by decide) (Nat.le_refl 0) (kI_of hf)
  · have hf := it_f h24 hf
    refine V_iload_n (j := 2) dX12_notch_14 rfl rfl ?_
    refine V_if_eq (tgt := 29) dX12_notch_15 (by decide) (fun h23 => ?_) (fun h23 => ?_)
    · have hf := it_t h23 hf
      exact vX12_notch_J29 hn hf
    · have hf := it_f h23 hf
      refine V_aload_n (j := 0) dX12_notch_18 rfl rfl ?_
      obtain ⟨t19, et19, hf⟩ := hf
      refine V_getR fl_X12_122 rfl h1.1 h1.2 et19 dX12_notch_19 ?_
      refine V_iload_n (j := 1) dX12_notch_22 rfl rfl ?_
      obtain ⟨h20, hf⟩ := hf
      obtain ⟨h21, hf⟩ := hf
      refine V_zald h20.1 h20.s h21 dX12_notch_23 ?_
      refine V_if_ne (tgt := 29) dX12_notch_24 (by decide) (fun h22 => ?_) (fun h22 => ?_)
      · have hf := it_f h22 hf
        exact vX12_notch_J29 hn hf
      · have hf := it_t (Classical.not_not.mp h22) hf
        refine V_iconst (v := (0 : Int32)) dX12_notch_27 (by decide) ?_
        exact V_ireturn dX12_notch_28 rfl (by decide) (Nat.le_refl 0) (kI_of hf)
def wX12_bitsOf_J36 (n : Nat) (sh : Nat → Nat × Nat) (k5 : Nat → Int32 → Int32 → Int32 → Int32 → gS → Prop) (P : Int32 → gS → Prop) (a0 : Nat) (x1 : Int32) (x2 : Int32) (x4 : Int32) (s0 : Int32) (s1 : Int32) (z : gS) : Prop := ∀ v7 : Int32, v7 = (s1 ||| s0) → (∀ v8 : Int32, v8 = x4 + (1 : Int32) → k5 a0 x1 x2 v7 v8 z)
set_option maxRecDepth 100000 in
set_option maxHeartbeats 4000000 in
theorem vX12_bitsOf_J36 {E : gE} {n : Nat} {sh : Nat → Nat × Nat} {P : Int32 → gS → Prop} {k5 : Nat → Int32 → Int32 → Int32 → Int32 → gS → Prop} {a0 : Nat} {x1 : Int32} {x2 : Int32} {x4 : Int32} {s0 : Int32} {s1 : Int32} {z : gS} (hn : gOK E n) (hk5 : ∀ (a0 : Nat) (x1 : Int32) (x2 : Int32) (x3 : Int32) (x4 : Int32) (z : gS), k5 a0 x1 x2 x3 x4 z → V E (gR 1 0) gyX12_bitsOf 0 0 5 [(0, .ref a0), (1, .int x1), (2, .int x2), (3, .int x3), (4, .int x4)] [] n sh z (kI n sh P)) (hf : wX12_bitsOf_J36 n sh k5 P a0 x1 x2 x4 s0 s1 z) : V E (gR 1 0) gyX12_bitsOf 0 0 36 [(0, .ref a0), (1, .int x1), (2, .int x2), (4, .int x4)] [.int s0, .int s1] n sh z (kI n sh P) := by
  unfold wX12_bitsOf_J36 at hf
  refine V_ior dX12_bitsOf_36 ?_
  refine V_nI (fun v7 ev7 => ?_)
  have hf := hf v7 ev7
  refine V_istore_n (ls2 := [(3, .int v7), (0, .ref a0), (1, .int x1), (2, .int x2), (4, .int x4)]) dX12_bitsOf_37 rfl (by decide) rfl ?_
  obtain ⟨v8, ev8⟩ : ∃ y : Int32, y = x4 + (1 : Int32) := ⟨_, rfl⟩
  refine V_iinc (j := 4) (v := v8) (ls2 := [(4, .int v8), (3, .int v7), (0, .ref a0), (1, .int x1), (2, .int x2)]) dX12_bitsOf_38 rfl (by rw [ev8]; rfl) (by decide) rfl ?_
  have hf := hf v8 ev8
  refine V_goto (tgt := 5) dX12_bitsOf_41 (by decide) ?_
  refine V_to [2, 3, 4, 1, 0] rfl ?_
  exact hk5 _ _ _ _ _ _ hf
def wX12_bitsOf_B5 (n : Nat) (sh : Nat → Nat × Nat) (k5 : Nat → Int32 → Int32 → Int32 → Int32 → gS → Prop) (P : Int32 → gS → Prop) (a0 : Nat) (x1 : Int32) (x2 : Int32) (x3 : Int32) (x4 : Int32) (z : gS) : Prop := (oO n sh a0 8) ∧ (wX12_panes n sh a0 z (fun (r1 : Int32) (z2 : gS) => if r1 ≤ x4 then P x3 z2 else (∃ t4 : Nat, gr z2 a0 24 = some t4 ∧ ((oA n sh t4 1) ∧ ((vp_in (x1 + x4) (sh t4).2) ∧ (if (gi z2 t4 (x1 + x4).toNatClampNeg) = x2 then wX12_bitsOf_J36 n sh k5 P a0 x1 x2 x4 ((1 : Int32) <<< (x4 &&& 31)) x3 z2 else wX12_bitsOf_J36 n sh k5 P a0 x1 x2 x4 (0 : Int32) x3 z2))))))
def wX12_bitsOf_L5 (n : Nat) (sh : Nat → Nat × Nat) (P : Int32 → gS → Prop) : Nat → Nat → Int32 → Int32 → Int32 → Int32 → gS → Prop
  | 0, _, _, _, _, _, _ => False
  | N + 1, a0, x1, x2, x3, x4, z => wX12_bitsOf_B5 n sh (wX12_bitsOf_L5 n sh P N) P a0 x1 x2 x3 x4 z
set_option maxRecDepth 100000 in
set_option maxHeartbeats 4000000 in
theorem vX12_bitsOf_B5 {E : gE} {n : Nat} {sh : Nat → Nat × Nat} {P : Int32 → gS → Prop} {k5 : Nat → Int32 → Int32 → Int32 → Int32 → gS → Prop} {a0 : Nat} {x1 : Int32} {x2 : Int32} {x3 : Int32} {x4 : Int32} {z : gS} (hn : gOK E n) (hk5 : ∀ (a0 : Nat) (x1 : Int32) (x2 : Int32) (x3 : Int32) (x4 : Int32) (z : gS), k5 a0 x1 x2 x3 x4 z → V E (gR 1 0) gyX12_bitsOf 0 0 5 [(0, .ref a0), (1, .int x1), (2, .int x2), (3, .int x3), (4, .int x4)] [] n sh z (kI n sh P)) (hf : wX12_bitsOf_B5 n sh k5 P a0 x1 x2 x3 x4 z) : V E (gR 1 0) gyX12_bitsOf 0 0 5 [(0, .ref a0), (1, .int x1), (2, .int x2), (3, .int x3), (4, .int x4)] [] n sh z (kI n sh P) := by
  unfold wX12_bitsOf_B5 at hf
  refine V_iload (j := 4) dX12_bitsOf_5 rfl ?_
  refine V_aload_n (j := 0) dX12_bitsOf_7 rfl rfl ?_
  obtain ⟨h3, hf⟩ := hf
  refine V_cVI (ctX12_panes hn hf) gc_X12_278 rfl h3.1 ⟨_, h3.2, by decide, rfl⟩ ⟨by decide, by decide, Nat.zero_le _, Nat.zero_le _⟩ (Nat.le_of_ble_eq_true rfl) dX12_bitsOf_8 rfl hn (fun r1 z2 hf => ?_)
  refine V_icmp_ge (tgt := 44) dX12_bitsOf_11 (by decide) (fun h10 => ?_) (fun h10 => ?_)
  · have hf := it_t h10 hf
    refine V_iload_n (j := 3) dX12_bitsOf_44 rfl rfl ?_
    exact V_ireturn dX12_bitsOf_45 rfl rfl (Nat.le_refl 0) (kI_of hf)
  · have hf := it_f h10 hf
    refine V_iload_n (j := 3) dX12_bitsOf_14 rfl rfl ?_
    refine V_aload_n (j := 0) dX12_bitsOf_15 rfl rfl ?_
    obtain ⟨t4, et4, hf⟩ := hf
    refine V_getR fl_X12_119 rfl h3.1 h3.2 et4 dX12_bitsOf_16 ?_
    refine V_iload_n (j := 1) dX12_bitsOf_19 rfl rfl ?_
    refine V_iload (j := 4) dX12_bitsOf_20 rfl ?_
    refine V_iadd dX12_bitsOf_22 ?_
    obtain ⟨h5, hf⟩ := hf
    obtain ⟨h6, hf⟩ := hf
    refine V_iald h5.1 h5.s h6 dX12_bitsOf_23 ?_
    refine V_iload_n (j := 2) dX12_bitsOf_24 rfl rfl ?_
    refine V_icmp_ne (tgt := 35) dX12_bitsOf_25 (by decide) (fun h9 => ?_) (fun h9 => ?_)
    · have hf := it_f h9 hf
      refine V_iconst (v := (0 : Int32)) dX12_bitsOf_35 (by decide) ?_
      refine V_to [0, 1, 2, 4] rfl ?_
      exact vX12_bitsOf_J36 hn hk5 hf
    · have hf := it_t (Classical.not_not.mp h9) hf
      refine V_iconst (v := (1 : Int32)) dX12_bitsOf_28 (by decide) ?_
      refine V_iload (j := 4) dX12_bitsOf_29 rfl ?_
      refine V_ishl dX12_bitsOf_31 ?_
      refine V_goto (tgt := 36) dX12_bitsOf_32 (by decide) ?_
      refine V_to [0, 1, 2, 4] rfl ?_
      exact vX12_bitsOf_J36 hn hk5 hf
set_option maxRecDepth 100000 in
set_option maxHeartbeats 4000000 in
theorem vX12_bitsOf_L5 {E : gE} {n : Nat} {sh : Nat → Nat × Nat} {P : Int32 → gS → Prop} (hn : gOK E n) : ∀ (N : Nat) (a0 : Nat) (x1 : Int32) (x2 : Int32) (x3 : Int32) (x4 : Int32) (z : gS), wX12_bitsOf_L5 n sh P N a0 x1 x2 x3 x4 z → V E (gR 1 0) gyX12_bitsOf 0 0 5 [(0, .ref a0), (1, .int x1), (2, .int x2), (3, .int x3), (4, .int x4)] [] n sh z (kI n sh P) := by
  intro N
  induction N with
  | zero => intro a0 x1 x2 x3 x4 z hf; exact False.elim hf
  | succ N ih => intro a0 x1 x2 x3 x4 z hf; exact vX12_bitsOf_B5 hn ih hf
def wX12_bitsOf (n : Nat) (sh : Nat → Nat × Nat) (a0 : Nat) (x1 : Int32) (x2 : Int32) (z : gS) (P : Int32 → gS → Prop) : Prop := (∃ N, wX12_bitsOf_L5 n sh P N a0 x1 x2 (0 : Int32) (0 : Int32) z)
set_option maxRecDepth 100000 in
set_option maxHeartbeats 4000000 in
theorem ctX12_bitsOf {E : gE} {n : Nat} {sh : Nat → Nat × Nat} {a0 : Nat} {x1 : Int32} {x2 : Int32} {z : gS} {P : Int32 → gS → Prop} (hn : gOK E n) (hf : wX12_bitsOf n sh a0 x1 x2 z P) : VM E 1 0 gyX12_bitsOf [.ref a0, .int x1, .int x2] n sh z (kI n sh P) := by
  unfold wX12_bitsOf at hf
  refine VM.of (by decide +kernel) (Nat.le_of_ble_eq_true rfl) (fun _ _ _ h => h.2.2) ?_
  show V E (gR 1 0) gyX12_bitsOf 0 0 0 [(0, .ref a0), (1, .int x1), (2, .int x2)] [] n sh z (kI n sh P)
  refine V_iconst (v := (0 : Int32)) dX12_bitsOf_0 (by decide) ?_
  refine V_istore_n (ls2 := [(3, .int (0 : Int32)), (0, .ref a0), (1, .int x1), (2, .int x2)]) dX12_bitsOf_1 rfl (by decide) rfl ?_
  refine V_iconst (v := (0 : Int32)) dX12_bitsOf_2 (by decide) ?_
  refine V_istore (ls2 := [(4, .int (0 : Int32)), (3, .int (0 : Int32)), (0, .ref a0), (1, .int x1), (2, .int x2)]) dX12_bitsOf_3 (by decide) rfl ?_
  obtain ⟨N, hf⟩ := hf
  refine V_to [2, 3, 4, 1, 0] rfl ?_
  exact vX12_bitsOf_L5 hn N _ _ _ _ _ _ hf
def wX12_marksMany_B4 (n : Nat) (sh : Nat → Nat × Nat) (k4 : Nat → Int32 → Int32 → gS → Prop) (P : Int32 → gS → Prop) (a0 : Nat) (x1 : Int32) (x2 : Int32) (z : gS) : Prop := (oO n sh a0 8) ∧ (wX12_panes n sh a0 z (fun (r1 : Int32) (z2 : gS) => if r1 ≤ x2 then P x1 z2 else (∃ t4 : Nat, gr z2 a0 24 = some t4 ∧ ((oA n sh t4 1) ∧ ((vp_in ((18 : Int32) + x2) (sh t4).2) ∧ (∀ v7 : Int32, v7 = (x1 + (gi z2 t4 ((18 : Int32) + x2).toNatClampNeg)) → (∀ v8 : Int32, v8 = x2 + (1 : Int32) → k4 a0 v7 v8 z2)))))))
def wX12_marksMany_L4 (n : Nat) (sh : Nat → Nat × Nat) (P : Int32 → gS → Prop) : Nat → Nat → Int32 → Int32 → gS → Prop
  | 0, _, _, _, _ => False
  | N + 1, a0, x1, x2, z => wX12_marksMany_B4 n sh (wX12_marksMany_L4 n sh P N) P a0 x1 x2 z
set_option maxRecDepth 100000 in
set_option maxHeartbeats 4000000 in
theorem vX12_marksMany_B4 {E : gE} {n : Nat} {sh : Nat → Nat × Nat} {P : Int32 → gS → Prop} {k4 : Nat → Int32 → Int32 → gS → Prop} {a0 : Nat} {x1 : Int32} {x2 : Int32} {z : gS} (hn : gOK E n) (hk4 : ∀ (a0 : Nat) (x1 : Int32) (x2 : Int32) (z : gS), k4 a0 x1 x2 z → V E (gR 1 0) gyX12_marksMany 0 0 4 [(0, .ref a0), (1, .int x1), (2, .int x2)] [] n sh z (kI n sh P)) (hf : wX12_marksMany_B4 n sh k4 P a0 x1 x2 z) : V E (gR 1 0) gyX12_marksMany 0 0 4 [(0, .ref a0), (1, .int x1), (2, .int x2)] [] n sh z (kI n sh P) := by
  unfold wX12_marksMany_B4 at hf
  refine V_iload_n (j := 2) dX12_marksMany_4 rfl rfl ?_
  refine V_aload_n (j := 0) dX12_marksMany_5 rfl rfl ?_
  obtain ⟨h3, hf⟩ := hf
  refine V_cVI (ctX12_panes hn hf) gc_X12_278 rfl h3.1 ⟨_, h3.2, by decide, rfl⟩ ⟨by decide, by decide, Nat.zero_le _, Nat.zero_le _⟩ (Nat.le_of_ble_eq_true rfl) dX12_marksMany_6 rfl hn (fun r1 z2 hf => ?_)
  refine V_icmp_ge (tgt := 30) dX12_marksMany_9 (by decide) (fun h9 => ?_) (fun h9 => ?_)
  · have hf := it_t h9 hf
    refine V_iload_n (j := 1) dX12_marksMany_30 rfl rfl ?_
    exact V_ireturn dX12_marksMany_31 rfl rfl (Nat.le_refl 0) (kI_of hf)
  · have hf := it_f h9 hf
    refine V_iload_n (j := 1) dX12_marksMany_12 rfl rfl ?_
    refine V_aload_n (j := 0) dX12_marksMany_13 rfl rfl ?_
    obtain ⟨t4, et4, hf⟩ := hf
    refine V_getR fl_X12_119 rfl h3.1 h3.2 et4 dX12_marksMany_14 ?_
    refine V_bipush (v := (18 : Int32)) dX12_marksMany_17 (by decide) ?_
    refine V_iload_n (j := 2) dX12_marksMany_19 rfl rfl ?_
    refine V_iadd dX12_marksMany_20 ?_
    obtain ⟨h5, hf⟩ := hf
    obtain ⟨h6, hf⟩ := hf
    refine V_iald h5.1 h5.s h6 dX12_marksMany_21 ?_
    refine V_iadd dX12_marksMany_22 ?_
    refine V_nI (fun v7 ev7 => ?_)
    have hf := hf v7 ev7
    refine V_istore_n (ls2 := [(1, .int v7), (0, .ref a0), (2, .int x2)]) dX12_marksMany_23 rfl (by decide) rfl ?_
    obtain ⟨v8, ev8⟩ : ∃ y : Int32, y = x2 + (1 : Int32) := ⟨_, rfl⟩
    refine V_iinc (j := 2) (v := v8) (ls2 := [(2, .int v8), (1, .int v7), (0, .ref a0)]) dX12_marksMany_24 rfl (by rw [ev8]; rfl) (by decide) rfl ?_
    have hf := hf v8 ev8
    refine V_goto (tgt := 4) dX12_marksMany_27 (by decide) ?_
    refine V_to [2, 1, 0] rfl ?_
    exact hk4 _ _ _ _ hf
set_option maxRecDepth 100000 in
set_option maxHeartbeats 4000000 in
theorem vX12_marksMany_L4 {E : gE} {n : Nat} {sh : Nat → Nat × Nat} {P : Int32 → gS → Prop} (hn : gOK E n) : ∀ (N : Nat) (a0 : Nat) (x1 : Int32) (x2 : Int32) (z : gS), wX12_marksMany_L4 n sh P N a0 x1 x2 z → V E (gR 1 0) gyX12_marksMany 0 0 4 [(0, .ref a0), (1, .int x1), (2, .int x2)] [] n sh z (kI n sh P) := by
  intro N
  induction N with
  | zero => intro a0 x1 x2 z hf; exact False.elim hf
  | succ N ih => intro a0 x1 x2 z hf; exact vX12_marksMany_B4 hn ih hf
def wX12_marksMany (n : Nat) (sh : Nat → Nat × Nat) (a0 : Nat) (z : gS) (P : Int32 → gS → Prop) : Prop := (∃ N, wX12_marksMany_L4 n sh P N a0 (0 : Int32) (0 : Int32) z)
set_option maxRecDepth 100000 in
set_option maxHeartbeats 4000000 in
theorem ctX12_marksMany {E : gE} {n : Nat} {sh : Nat → Nat × Nat} {a0 : Nat} {z : gS} {P : Int32 → gS → Prop} (hn : gOK E n) (hf : wX12_marksMany n sh a0 z P) : VM E 1 0 gyX12_marksMany [.ref a0] n sh z (kI n sh P) := by
  unfold wX12_marksMany at hf
  refine VM.of (by decide +kernel) (Nat.le_of_ble_eq_true rfl) (fun _ _ _ h => h.2.2) ?_
  show V E (gR 1 0) gyX12_marksMany 0 0 0 [(0, .ref a0)] [] n sh z (kI n sh P)
  refine V_iconst (v := (0 : Int32)) dX12_marksMany_0 (by decide) ?_
  refine V_istore_n (ls2 := [(1, .int (0 : Int32)), (0, .ref a0)]) dX12_marksMany_1 rfl (by decide) rfl ?_
  refine V_iconst (v := (0 : Int32)) dX12_marksMany_2 (by decide) ?_
  refine V_istore_n (ls2 := [(2, .int (0 : Int32)), (1, .int (0 : Int32)), (0, .ref a0)]) dX12_marksMany_3 rfl (by decide) rfl ?_
  obtain ⟨N, hf⟩ := hf
  refine V_to [2, 1, 0] rfl ?_
  exact vX12_marksMany_L4 hn N _ _ _ _ hf
def wX12_count (n : Nat) (sh : Nat → Nat × Nat) (a0 : Nat) (x1 : Int32) (z : gS) (P : Int32 → gS → Prop) : Prop := (oO n sh a0 8) ∧ (∀ z2 : gS, z2 = si z a0 0 (0 : Int32) → (if x1 = (0 : Int32) then (∃ t4 : Nat, gr z2 a0 10 = some t4 ∧ ((oA n sh t4 1) ∧ ((vp_in x1 (sh t4).2) ∧ P (gi z2 t4 x1.toNatClampNeg) z2))) else (if x1 = (1 : Int32) then (∃ t8 : Nat, gr z2 a0 10 = some t8 ∧ ((oA n sh t8 1) ∧ ((vp_in x1 (sh t8).2) ∧ P (gi z2 t8 x1.toNatClampNeg) z2))) else (if x1 = (2 : Int32) then (∃ t12 : Nat, gr z2 a0 10 = some t12 ∧ ((oA n sh t12 1) ∧ ((vp_in x1 (sh t12).2) ∧ P (gi z2 t12 x1.toNatClampNeg) z2))) else (if x1 = (3 : Int32) then (∃ t16 : Nat, gr z2 a0 24 = some t16 ∧ ((oA n sh t16 1) ∧ ((vp_in (0 : Int32) (sh t16).2) ∧ P (gi z2 t16 (0 : Int32).toNatClampNeg) z2))) else (if x1 = (4 : Int32) then (∃ t20 : Nat, gr z2 a0 24 = some t20 ∧ ((oA n sh t20 1) ∧ ((vp_in (0 : Int32) (sh t20).2) ∧ (wX12_lightOf n sh a0 (gi z2 t20 (0 : Int32).toNatClampNeg) z2 (fun (r23 : Int32) (z24 : gS) => P r23 z24))))) else (if x1 = (5 : Int32) then (wX12_marksMany n sh a0 z2 (fun (r26 : Int32) (z27 : gS) => P r26 z27)) else (if x1 = (6 : Int32) then (wX12_bitsOf n sh a0 (6 : Int32) (1 : Int32) z2 (fun (r29 : Int32) (z30 : gS) => P r29 z30)) else (if x1 = (7 : Int32) then (wX12_bitsOf n sh a0 (12 : Int32) (1 : Int32) z2 (fun (r32 : Int32) (z33 : gS) => P r32 z33)) else (if x1 = (8 : Int32) then (∃ t35 : Nat, gr z2 a0 21 = some t35 ∧ ((oA n sh t35 1) ∧ ((vp_in (0 : Int32) (sh t35).2) ∧ P (gi z2 t35 (0 : Int32).toNatClampNeg) z2))) else (if x1 = (9 : Int32) then (wX12_bitsOf n sh a0 (60 : Int32) (0 : Int32) z2 (fun (r39 : Int32) (z40 : gS) => wX12_bitsOf n sh a0 (60 : Int32) (1 : Int32) z40 (fun (r41 : Int32) (z42 : gS) => wX12_bits n sh (r39 ||| r41) z42 (fun (r43 : Int32) (z44 : gS) => P r43 z44)))) else (if x1 = (10 : Int32) then P (gi z2 a0 25) z2 else (if x1 = (11 : Int32) then P (gi z2 a0 2) z2 else P (-1 : Int32) z2)))))))))))))
set_option maxRecDepth 100000 in
set_option maxHeartbeats 4000000 in
theorem ctX12_count {E : gE} {n : Nat} {sh : Nat → Nat × Nat} {a0 : Nat} {x1 : Int32} {z : gS} {P : Int32 → gS → Prop} (hn : gOK E n) (hf : wX12_count n sh a0 x1 z P) : VM E 2 0 gyX12_count [.ref a0, .int x1] n sh z (kI n sh P) := by
  unfold wX12_count at hf
  refine VM.of (by decide +kernel) (Nat.le_of_ble_eq_true rfl) (fun _ _ _ h => h.2.2) ?_
  show V E (gR 2 0) gyX12_count 0 0 0 [(0, .ref a0), (1, .int x1)] [] n sh z (kI n sh P)
  refine V_aload_n (j := 0) dX12_count_0 rfl rfl ?_
  refine V_iconst (v := (0 : Int32)) dX12_count_1 (by decide) ?_
  obtain ⟨h1, hf⟩ := hf
  refine V_putI fl_X12_1 rfl rfl rfl rfl h1.1 h1.2 dX12_count_2 ?_
  refine V_nz (fun z2 ez2 => ?_)
  have hf := hf z2 ez2
  refine V_iload_n (j := 1) dX12_count_5 rfl rfl ?_
  by_cases h3 : x1 = (0 : Int32)
  · have hf := it_t h3 hf
    refine V_tableIn (off := 62) (tgt := 68) dX12_count_6 (by rw [h3]; decide) (by rw [h3]; decide) (by rw [h3]; decide) (by decide) ?_
    refine V_aload_n (j := 0) dX12_count_68 rfl rfl ?_
    obtain ⟨t4, et4, hf⟩ := hf
    refine V_getR fl_X12_89 rfl h1.1 h1.2 et4 dX12_count_69 ?_
    refine V_iload_n (j := 1) dX12_count_72 rfl rfl ?_
    obtain ⟨h5, hf⟩ := hf
    obtain ⟨h6, hf⟩ := hf
    refine V_iald h5.1 h5.s h6 dX12_count_73 ?_
    exact V_ireturn dX12_count_74 rfl rfl (Nat.le_refl 0) (kI_of hf)
  · have hf := it_f h3 hf
    by_cases h7 : x1 = (1 : Int32)
    · have hf := it_t h7 hf
      refine V_tableIn (off := 62) (tgt := 68) dX12_count_6 (by rw [h7]; decide) (by rw [h7]; decide) (by rw [h7]; decide) (by decide) ?_
      refine V_aload_n (j := 0) dX12_count_68 rfl rfl ?_
      obtain ⟨t8, et8, hf⟩ := hf
      refine V_getR fl_X12_89 rfl h1.1 h1.2 et8 dX12_count_69 ?_
      refine V_iload_n (j := 1) dX12_count_72 rfl rfl ?_
      obtain ⟨h9, hf⟩ := hf
      obtain ⟨h10, hf⟩ := hf
      refine V_iald h9.1 h9.s h10 dX12_count_73 ?_
      exact V_ireturn dX12_count_74 rfl rfl (Nat.le_refl 0) (kI_of hf)
    · have hf := it_f h7 hf
      by_cases h11 : x1 = (2 : Int32)
      · have hf := it_t h11 hf
        refine V_tableIn (off := 62) (tgt := 68) dX12_count_6 (by rw [h11]; decide) (by rw [h11]; decide) (by rw [h11]; decide) (by decide) ?_
        refine V_aload_n (j := 0) dX12_count_68 rfl rfl ?_
        obtain ⟨t12, et12, hf⟩ := hf
        refine V_getR fl_X12_89 rfl h1.1 h1.2 et12 dX12_count_69 ?_
        refine V_iload_n (j := 1) dX12_count_72 rfl rfl ?_
        obtain ⟨h13, hf⟩ := hf
        obtain ⟨h14, hf⟩ := hf
        refine V_iald h13.1 h13.s h14 dX12_count_73 ?_
        exact V_ireturn dX12_count_74 rfl rfl (Nat.le_refl 0) (kI_of hf)
      · have hf := it_f h11 hf
        by_cases h15 : x1 = (3 : Int32)
        · have hf := it_t h15 hf
          refine V_tableIn (off := 69) (tgt := 75) dX12_count_6 (by rw [h15]; decide) (by rw [h15]; decide) (by rw [h15]; decide) (by decide) ?_
          refine V_aload_n (j := 0) dX12_count_75 rfl rfl ?_
          obtain ⟨t16, et16, hf⟩ := hf
          refine V_getR fl_X12_119 rfl h1.1 h1.2 et16 dX12_count_76 ?_
          refine V_iconst (v := (0 : Int32)) dX12_count_79 (by decide) ?_
          obtain ⟨h17, hf⟩ := hf
          obtain ⟨h18, hf⟩ := hf
          refine V_iald h17.1 h17.s h18 dX12_count_80 ?_
          exact V_ireturn dX12_count_81 rfl rfl (Nat.le_refl 0) (kI_of hf)
        · have hf := it_f h15 hf
          by_cases h19 : x1 = (4 : Int32)
          · have hf := it_t h19 hf
            refine V_tableIn (off := 76) (tgt := 82) dX12_count_6 (by rw [h19]; decide) (by rw [h19]; decide) (by rw [h19]; decide) (by decide) ?_
            refine V_aload_n (j := 0) dX12_count_82 rfl rfl ?_
            refine V_aload_n (j := 0) dX12_count_83 rfl rfl ?_
            obtain ⟨t20, et20, hf⟩ := hf
            refine V_getR fl_X12_119 rfl h1.1 h1.2 et20 dX12_count_84 ?_
            refine V_iconst (v := (0 : Int32)) dX12_count_87 (by decide) ?_
            obtain ⟨h21, hf⟩ := hf
            obtain ⟨h22, hf⟩ := hf
            refine V_iald h21.1 h21.s h22 dX12_count_88 ?_
            refine V_cVI (ctX12_lightOf hn hf) gc_X12_291 rfl h1.1 ⟨_, h1.2, by decide, rfl⟩ ⟨by decide, by decide, Nat.zero_le _, Nat.zero_le _⟩ (Nat.le_of_ble_eq_true rfl) dX12_count_89 rfl hn (fun r23 z24 hf => ?_)
            exact V_ireturn dX12_count_92 rfl rfl (Nat.le_refl 0) (kI_of hf)
          · have hf := it_f h19 hf
            by_cases h25 : x1 = (5 : Int32)
            · have hf := it_t h25 hf
              refine V_tableIn (off := 87) (tgt := 93) dX12_count_6 (by rw [h25]; decide) (by rw [h25]; decide) (by rw [h25]; decide) (by decide) ?_
              refine V_aload_n (j := 0) dX12_count_93 rfl rfl ?_
              refine V_cVI (ctX12_marksMany hn hf) gc_X12_414 rfl h1.1 ⟨_, h1.2, by decide, rfl⟩ ⟨by decide, by decide, Nat.zero_le _, Nat.zero_le _⟩ (Nat.le_of_ble_eq_true rfl) dX12_count_94 rfl hn (fun r26 z27 hf => ?_)
              exact V_ireturn dX12_count_97 rfl rfl (Nat.le_refl 0) (kI_of hf)
            · have hf := it_f h25 hf
              by_cases h28 : x1 = (6 : Int32)
              · have hf := it_t h28 hf
                refine V_tableIn (off := 92) (tgt := 98) dX12_count_6 (by rw [h28]; decide) (by rw [h28]; decide) (by rw [h28]; decide) (by decide) ?_
                refine V_aload_n (j := 0) dX12_count_98 rfl rfl ?_
                refine V_bipush (v := (6 : Int32)) dX12_count_99 (by decide) ?_
                refine V_iconst (v := (1 : Int32)) dX12_count_101 (by decide) ?_
                refine V_cVI (ctX12_bitsOf hn hf) gc_X12_417 rfl h1.1 ⟨_, h1.2, by decide, rfl⟩ ⟨by decide, by decide, Nat.zero_le _, Nat.zero_le _⟩ (Nat.le_of_ble_eq_true rfl) dX12_count_102 rfl hn (fun r29 z30 hf => ?_)
                exact V_ireturn dX12_count_105 rfl rfl (Nat.le_refl 0) (kI_of hf)
              · have hf := it_f h28 hf
                by_cases h31 : x1 = (7 : Int32)
                · have hf := it_t h31 hf
                  refine V_tableIn (off := 100) (tgt := 106) dX12_count_6 (by rw [h31]; decide) (by rw [h31]; decide) (by rw [h31]; decide) (by decide) ?_
                  refine V_aload_n (j := 0) dX12_count_106 rfl rfl ?_
                  refine V_bipush (v := (12 : Int32)) dX12_count_107 (by decide) ?_
                  refine V_iconst (v := (1 : Int32)) dX12_count_109 (by decide) ?_
                  refine V_cVI (ctX12_bitsOf hn hf) gc_X12_417 rfl h1.1 ⟨_, h1.2, by decide, rfl⟩ ⟨by decide, by decide, Nat.zero_le _, Nat.zero_le _⟩ (Nat.le_of_ble_eq_true rfl) dX12_count_110 rfl hn (fun r32 z33 hf => ?_)
                  exact V_ireturn dX12_count_113 rfl rfl (Nat.le_refl 0) (kI_of hf)
                · have hf := it_f h31 hf
                  by_cases h34 : x1 = (8 : Int32)
                  · have hf := it_t h34 hf
                    refine V_tableIn (off := 108) (tgt := 114) dX12_count_6 (by rw [h34]; decide) (by rw [h34]; decide) (by rw [h34]; decide) (by decide) ?_
                    refine V_aload_n (j := 0) dX12_count_114 rfl rfl ?_
                    obtain ⟨t35, et35, hf⟩ := hf
                    refine V_getR fl_X12_110 rfl h1.1 h1.2 et35 dX12_count_115 ?_
                    refine V_iconst (v := (0 : Int32)) dX12_count_118 (by decide) ?_
                    obtain ⟨h36, hf⟩ := hf
                    obtain ⟨h37, hf⟩ := hf
                    refine V_iald h36.1 h36.s h37 dX12_count_119 ?_
                    exact V_ireturn dX12_count_120 rfl rfl (Nat.le_refl 0) (kI_of hf)
                  · have hf := it_f h34 hf
                    by_cases h38 : x1 = (9 : Int32)
                    · have hf := it_t h38 hf
                      refine V_tableIn (off := 115) (tgt := 121) dX12_count_6 (by rw [h38]; decide) (by rw [h38]; decide) (by rw [h38]; decide) (by decide) ?_
                      refine V_aload_n (j := 0) dX12_count_121 rfl rfl ?_
                      refine V_bipush (v := (60 : Int32)) dX12_count_122 (by decide) ?_
                      refine V_iconst (v := (0 : Int32)) dX12_count_124 (by decide) ?_
                      refine V_cVI (ctX12_bitsOf hn hf) gc_X12_417 rfl h1.1 ⟨_, h1.2, by decide, rfl⟩ ⟨by decide, by decide, Nat.zero_le _, Nat.zero_le _⟩ (Nat.le_of_ble_eq_true rfl) dX12_count_125 rfl hn (fun r39 z40 hf => ?_)
                      refine V_aload_n (j := 0) dX12_count_128 rfl rfl ?_
                      refine V_bipush (v := (60 : Int32)) dX12_count_129 (by decide) ?_
                      refine V_iconst (v := (1 : Int32)) dX12_count_131 (by decide) ?_
                      refine V_cVI (ctX12_bitsOf hn hf) gc_X12_417 rfl h1.1 ⟨_, h1.2, by decide, rfl⟩ ⟨by decide, by decide, Nat.zero_le _, Nat.zero_le _⟩ (Nat.le_of_ble_eq_true rfl) dX12_count_132 rfl hn (fun r41 z42 hf => ?_)
                      refine V_ior dX12_count_135 ?_
                      refine V_cSI (ctX12_bits hn hf) gc_X12_374 rfl ⟨by decide, by decide, Nat.zero_le _, Nat.zero_le _⟩ (Nat.le_of_ble_eq_true rfl) dX12_count_136 rfl hn (fun r43 z44 hf => ?_)
                      exact V_ireturn dX12_count_139 rfl rfl (Nat.le_refl 0) (kI_of hf)
                    · have hf := it_f h38 hf
                      by_cases h45 : x1 = (10 : Int32)
                      · have hf := it_t h45 hf
                        refine V_tableIn (off := 134) (tgt := 140) dX12_count_6 (by rw [h45]; decide) (by rw [h45]; decide) (by rw [h45]; decide) (by decide) ?_
                        refine V_aload_n (j := 0) dX12_count_140 rfl rfl ?_
                        refine V_getI fl_X12_272 rfl h1.1 h1.2 dX12_count_141 ?_
                        exact V_ireturn dX12_count_144 rfl rfl (Nat.le_refl 0) (kI_of hf)
                      · have hf := it_f h45 hf
                        by_cases h46 : x1 = (11 : Int32)
                        · have hf := it_t h46 hf
                          refine V_tableIn (off := 139) (tgt := 145) dX12_count_6 (by rw [h46]; decide) (by rw [h46]; decide) (by rw [h46]; decide) (by decide) ?_
                          refine V_aload_n (j := 0) dX12_count_145 rfl rfl ?_
                          refine V_getI fl_X12_11 rfl h1.1 h1.2 dX12_count_146 ?_
                          exact V_ireturn dX12_count_149 rfl rfl (Nat.le_refl 0) (kI_of hf)
                        · have hf := it_f h46 hf
                          refine V_tableOut (tgt := 150) dX12_count_6 (by have qh3 := sw_ne (a := 0) h3 (by decide); have qh7 := sw_ne (a := 1) h7 (by decide); have qh11 := sw_ne (a := 2) h11 (by decide); have qh15 := sw_ne (a := 3) h15 (by decide); have qh19 := sw_ne (a := 4) h19 (by decide); have qh25 := sw_ne (a := 5) h25 (by decide); have qh28 := sw_ne (a := 6) h28 (by decide); have qh31 := sw_ne (a := 7) h31 (by decide); have qh34 := sw_ne (a := 8) h34 (by decide); have qh38 := sw_ne (a := 9) h38 (by decide); have qh45 := sw_ne (a := 10) h45 (by decide); have qh46 := sw_ne (a := 11) h46 (by decide); omega) (by decide) ?_
                          refine V_iconst (v := (-1 : Int32)) dX12_count_150 (by decide) ?_
                          exact V_ireturn dX12_count_151 rfl rfl (Nat.le_refl 0) (kI_of hf)
