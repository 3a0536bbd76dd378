def wX12_takePart_J165 (n : Nat) (sh : Nat → Nat × Nat) (rcX12_whole : Nat → Int32 → gS → (gS → Prop) → Prop) (rcX12_takePart : Nat → Int32 → gS → (gS → Prop) → Prop) (P : gS → Prop) (a0 : Nat) (s0 : Int32) (s1 : Int32) (s2 : Nat) (z : gS) : Prop := (oO n sh s2 8) ∧ (wX12_emit n sh s2 s1 s0 z (fun (z14 : gS) => (oO n sh a0 8) ∧ (∀ z17 : gS, z17 = si z14 a0 7 ((gi z14 a0 7) + (1 : Int32)) → P z17)))
set_option maxRecDepth 100000 in
set_option maxHeartbeats 4000000 in
theorem vX12_takePart_J165 {E : gE} {n : Nat} {sh : Nat → Nat × Nat} {P : gS → Prop} {rcX12_whole : Nat → Int32 → gS → (gS → Prop) → Prop} {rcX12_takePart : Nat → Int32 → gS → (gS → Prop) → Prop} {a0 : Nat} {s0 : Int32} {s1 : Int32} {s2 : Nat} {z : gS} (hn : gOK E n) {dd : Nat} (hrcX12_whole : ∀ (b0 : Nat) (b1 : Int32) (z : gS) (P : gS → Prop), rcX12_whole b0 b1 z P → VM E dd 0 gyX12_whole [.ref b0, .int b1] n sh z (kN n sh P)) (hrcX12_takePart : ∀ (b0 : Nat) (b1 : Int32) (z : gS) (P : gS → Prop), rcX12_takePart b0 b1 z P → VM E dd 0 gyX12_takePart [.ref b0, .int b1] n sh z (kN n sh P)) (hdd : 9 ≤ dd) (hf : wX12_takePart_J165 n sh rcX12_whole rcX12_takePart P a0 s0 s1 s2 z) : V E (gR (dd + 1) 0) gyX12_takePart 0 0 165 [(0, .ref a0)] [.int s0, .int s1, .ref s2] n sh z (kN n sh P) := by
  unfold wX12_takePart_J165 at hf
  obtain ⟨h15, hf⟩ := hf
  refine V_cVN (ctX12_emit hn hf) gc_X12_240 rfl h15.1 ⟨_, h15.2, by decide, rfl⟩ ⟨(by show 0 + 1 ≤ dd + 1; omega), (by show 64 * 0 + 19 + 3 ≤ 64 * (dd + 1); omega), Nat.zero_le _, Nat.zero_le _⟩ (Nat.le_of_ble_eq_true rfl) dX12_takePart_165 rfl hn (fun z14 hf => ?_)
  refine V_aload_n (j := 0) dX12_takePart_168 rfl rfl ?_
  refine V_dup dX12_takePart_169 rfl ?_
  obtain ⟨h16, hf⟩ := hf
  refine V_getI fl_X12_156 rfl h16.1 h16.2 dX12_takePart_170 ?_
  refine V_iconst (v := (1 : Int32)) dX12_takePart_173 (by decide) ?_
  refine V_iadd dX12_takePart_174 ?_
  refine V_putI fl_X12_156 rfl rfl rfl rfl h16.1 h16.2 dX12_takePart_175 ?_
  refine V_nz (fun z17 ez17 => ?_)
  have hf := hf z17 ez17
  exact V_return dX12_takePart_178 rfl (Nat.le_refl 0) (kN_of hf)
def wX12_takePart_J147 (n : Nat) (sh : Nat → Nat × Nat) (rcX12_whole : Nat → Int32 → gS → (gS → Prop) → Prop) (rcX12_takePart : Nat → Int32 → gS → (gS → Prop) → Prop) (P : gS → Prop) (a0 : Nat) (x2 : Int32) (x3 : Int32) (s0 : Int32) (s1 : Nat) (z : gS) : Prop := if x2 = 0 then wX12_takePart_J165 n sh rcX12_whole rcX12_takePart P a0 x3 s0 s1 z else ((oO n sh a0 8) ∧ (∃ t19 : Nat, gr z a0 6 = some t19 ∧ ((oA n sh t19 2) ∧ ((vp_in (gi z a0 7) (sh t19).2) ∧ wX12_takePart_J165 n sh rcX12_whole rcX12_takePart P a0 (gl z t19 (gi z a0 7).toNatClampNeg).toInt32 s0 s1 z))))
set_option maxRecDepth 100000 in
set_option maxHeartbeats 4000000 in
theorem vX12_takePart_J147 {E : gE} {n : Nat} {sh : Nat → Nat × Nat} {P : gS → Prop} {rcX12_whole : Nat → Int32 → gS → (gS → Prop) → Prop} {rcX12_takePart : Nat → Int32 → gS → (gS → Prop) → Prop} {a0 : Nat} {x2 : Int32} {x3 : Int32} {s0 : Int32} {s1 : Nat} {z : gS} (hn : gOK E n) {dd : Nat} (hrcX12_whole : ∀ (b0 : Nat) (b1 : Int32) (z : gS) (P : gS → Prop), rcX12_whole b0 b1 z P → VM E dd 0 gyX12_whole [.ref b0, .int b1] n sh z (kN n sh P)) (hrcX12_takePart : ∀ (b0 : Nat) (b1 : Int32) (z : gS) (P : gS → Prop), rcX12_takePart b0 b1 z P → VM E dd 0 gyX12_takePart [.ref b0, .int b1] n sh z (kN n sh P)) (hdd : 9 ≤ dd) (hf : wX12_takePart_J147 n sh rcX12_whole rcX12_takePart P a0 x2 x3 s0 s1 z) : V E (gR (dd + 1) 0) gyX12_takePart 0 0 147 [(0, .ref a0), (2, .int x2), (3, .int x3)] [.int s0, .ref s1] n sh z (kN n sh P) := by
  unfold wX12_takePart_J147 at hf
  refine V_iload_n (j := 1) dX12_takePart_147 rfl rfl ?_
  refine V_if_eq (tgt := 164) dX12_takePart_148 (by decide) (fun h22 => ?_) (fun h22 => ?_)
  · have hf := it_t h22 hf
    refine V_iload_n (j := 2) dX12_takePart_164 rfl rfl ?_
    refine V_to [0] rfl ?_
    exact vX12_takePart_J165 hn hrcX12_whole hrcX12_takePart hdd hf
  · have hf := it_f h22 hf
    refine V_aload_n (j := 0) dX12_takePart_151 rfl rfl ?_
    obtain ⟨h18, hf⟩ := hf
    obtain ⟨t19, et19, hf⟩ := hf
    refine V_getR fl_X12_30 rfl h18.1 h18.2 et19 dX12_takePart_152 ?_
    refine V_aload_n (j := 0) dX12_takePart_155 rfl rfl ?_
    refine V_getI fl_X12_156 rfl h18.1 h18.2 dX12_takePart_156 ?_
    obtain ⟨h20, hf⟩ := hf
    obtain ⟨h21, hf⟩ := hf
    refine V_lald h20.1 h20.s h21 dX12_takePart_159 ?_
    refine V_l2i dX12_takePart_160 ?_
    refine V_goto (tgt := 165) dX12_takePart_161 (by decide) ?_
    refine V_to [0] rfl ?_
    exact vX12_takePart_J165 hn hrcX12_whole hrcX12_takePart hdd hf
def wX12_takePart_J79 (n : Nat) (sh : Nat → Nat × Nat) (rcX12_whole : Nat → Int32 → gS → (gS → Prop) → Prop) (rcX12_takePart : Nat → Int32 → gS → (gS → Prop) → Prop) (P : gS → Prop) (a0 : Nat) (x1 : Int32) (x2 : Int32) (x3 : Int32) (z : gS) : Prop := (oO n sh a0 8) ∧ (if (gi z a0 8) ≤ 0 then (wX12_hasWord n sh a0 (19 : Int32) z (fun (r9 : Int32) (z10 : gS) => if r9 = 0 then (wX12_hasSign n sh a0 (40 : Int32) z10 (fun (r11 : Int32) (z12 : gS) => if r11 = 0 then (if x2 = 0 then wX12_takePart_J147 n sh rcX12_whole rcX12_takePart P a0 x2 x3 (2 : Int32) a0 z12 else wX12_takePart_J147 n sh rcX12_whole rcX12_takePart P a0 x2 x3 (1 : Int32) a0 z12) else (rcX12_whole a0 (x1 + (1 : Int32)) z12 (fun (z25 : gS) => wX12_takeSign n sh a0 (41 : Int32) z25 (fun (z27 : gS) => P z27))))) else (rcX12_takePart a0 (x1 + (1 : Int32)) z10 (fun (z30 : gS) => wX12_emit n sh a0 (3 : Int32) (0 : Int32) z30 (fun (z32 : gS) => P z32))))) else P z)
set_option maxRecDepth 100000 in
set_option maxHeartbeats 4000000 in
theorem vX12_takePart_J79 {E : gE} {n : Nat} {sh : Nat → Nat × Nat} {P : gS → Prop} {rcX12_whole : Nat → Int32 → gS → (gS → Prop) → Prop} {rcX12_takePart : Nat → Int32 → gS → (gS → Prop) → Prop} {a0 : Nat} {x1 : Int32} {x2 : Int32} {x3 : Int32} {z : gS} (hn : gOK E n) {dd : Nat} (hrcX12_whole : ∀ (b0 : Nat) (b1 : Int32) (z : gS) (P : gS → Prop), rcX12_whole b0 b1 z P → VM E dd 0 gyX12_whole [.ref b0, .int b1] n sh z (kN n sh P)) (hrcX12_takePart : ∀ (b0 : Nat) (b1 : Int32) (z : gS) (P : gS → Prop), rcX12_takePart b0 b1 z P → VM E dd 0 gyX12_takePart [.ref b0, .int b1] n sh z (kN n sh P)) (hdd : 9 ≤ dd) (hf : wX12_takePart_J79 n sh rcX12_whole rcX12_takePart P a0 x1 x2 x3 z) : V E (gR (dd + 1) 0) gyX12_takePart 0 0 79 [(0, .ref a0), (1, .int x1), (2, .int x2), (3, .int x3)] [] n sh z (kN n sh P) := by
  unfold wX12_takePart_J79 at hf
  refine V_aload_n (j := 0) dX12_takePart_79 rfl rfl ?_
  obtain ⟨h8, hf⟩ := hf
  refine V_getI fl_X12_159 rfl h8.1 h8.2 dX12_takePart_80 ?_
  refine V_if_le (tgt := 87) dX12_takePart_83 (by decide) (fun h34 => ?_) (fun h34 => ?_)
  · have hf := it_t h34 hf
    refine V_aload_n (j := 0) dX12_takePart_87 rfl rfl ?_
    refine V_bipush (v := (19 : Int32)) dX12_takePart_88 (by decide) ?_
    refine V_cVI (ctX12_hasWord hn hf) gc_X12_171 rfl h8.1 ⟨_, h8.2, by decide, rfl⟩ ⟨(by show 1 + 1 ≤ dd + 1; omega), (by show 64 * 1 + 19 + 3 ≤ 64 * (dd + 1); omega), Nat.zero_le _, Nat.zero_le _⟩ (Nat.le_of_ble_eq_true rfl) dX12_takePart_90 rfl hn (fun r9 z10 hf => ?_)
    refine V_if_eq (tgt := 112) dX12_takePart_93 (by decide) (fun h33 => ?_) (fun h33 => ?_)
    · have hf := it_t h33 hf
      refine V_aload_n (j := 0) dX12_takePart_112 rfl rfl ?_
      refine V_bipush (v := (40 : Int32)) dX12_takePart_113 (by decide) ?_
      refine V_cVI (ctX12_hasSign hn hf) gc_X12_253 rfl h8.1 ⟨_, h8.2, by decide, rfl⟩ ⟨(by show 1 + 1 ≤ dd + 1; omega), (by show 64 * 1 + 19 + 3 ≤ 64 * (dd + 1); omega), Nat.zero_le _, Nat.zero_le _⟩ (Nat.le_of_ble_eq_true rfl) dX12_takePart_115 rfl hn (fun r11 z12 hf => ?_)
      refine V_if_eq (tgt := 137) dX12_takePart_118 (by decide) (fun h28 => ?_) (fun h28 => ?_)
      · have hf := it_t h28 hf
        refine V_aload_n (j := 0) dX12_takePart_137 rfl rfl ?_
        refine V_iload_n (j := 2) dX12_takePart_138 rfl rfl ?_
        refine V_if_eq (tgt := 146) dX12_takePart_139 (by decide) (fun h23 => ?_) (fun h23 => ?_)
        · have hf := it_t h23 hf
          refine V_iconst (v := (2 : Int32)) dX12_takePart_146 (by decide) ?_
          refine V_to [0, 2, 3] rfl ?_
          exact vX12_takePart_J147 hn hrcX12_whole hrcX12_takePart hdd hf
        · have hf := it_f h23 hf
          refine V_iconst (v := (1 : Int32)) dX12_takePart_142 (by decide) ?_
          refine V_goto (tgt := 147) dX12_takePart_143 (by decide) ?_
          refine V_to [0, 2, 3] rfl ?_
          exact vX12_takePart_J147 hn hrcX12_whole hrcX12_takePart hdd hf
      · have hf := it_f h28 hf
        refine V_aload_n (j := 0) dX12_takePart_121 rfl rfl ?_
        refine V_iload_n (j := 1) dX12_takePart_122 rfl rfl ?_
        refine V_iconst (v := (1 : Int32)) dX12_takePart_123 (by decide) ?_
        refine V_iadd dX12_takePart_124 ?_
        refine V_cVN (hrcX12_whole _ _ _ _ hf) gc_X12_237 rfl h8.1 ⟨_, h8.2, by decide, rfl⟩ ⟨Nat.le_refl _, (by show 64 * dd + 19 + 3 ≤ 64 * (dd + 1); omega), Nat.zero_le _, Nat.zero_le _⟩ (Nat.le_of_ble_eq_true rfl) dX12_takePart_125 rfl hn (fun z25 hf => ?_)
        refine V_aload_n (j := 0) dX12_takePart_128 rfl rfl ?_
        refine V_bipush (v := (41 : Int32)) dX12_takePart_129 (by decide) ?_
        refine V_cVN (ctX12_takeSign hn hf) gc_X12_214 rfl h8.1 ⟨_, h8.2, by decide, rfl⟩ ⟨(by show 1 + 1 ≤ dd + 1; omega), (by show 64 * 1 + 19 + 2 ≤ 64 * (dd + 1); omega), Nat.zero_le _, Nat.zero_le _⟩ (Nat.le_of_ble_eq_true rfl) dX12_takePart_131 rfl hn (fun z27 hf => ?_)
        refine V_goto (tgt := 178) dX12_takePart_134 (by decide) ?_
        exact V_return dX12_takePart_178 rfl (Nat.le_refl 0) (kN_of hf)
    · have hf := it_f h33 hf
      refine V_aload_n (j := 0) dX12_takePart_96 rfl rfl ?_
      refine V_iload_n (j := 1) dX12_takePart_97 rfl rfl ?_
      refine V_iconst (v := (1 : Int32)) dX12_takePart_98 (by decide) ?_
      refine V_iadd dX12_takePart_99 ?_
      refine V_cVN (hrcX12_takePart _ _ _ _ hf) gc_X12_259 rfl h8.1 ⟨_, h8.2, by decide, rfl⟩ ⟨Nat.le_refl _, (by show 64 * dd + 19 + 4 ≤ 64 * (dd + 1); omega), Nat.zero_le _, Nat.zero_le _⟩ (Nat.le_of_ble_eq_true rfl) dX12_takePart_100 rfl hn (fun z30 hf => ?_)
      refine V_aload_n (j := 0) dX12_takePart_103 rfl rfl ?_
      refine V_iconst (v := (3 : Int32)) dX12_takePart_104 (by decide) ?_
      refine V_iconst (v := (0 : Int32)) dX12_takePart_105 (by decide) ?_
      refine V_cVN (ctX12_emit hn hf) gc_X12_240 rfl h8.1 ⟨_, h8.2, by decide, rfl⟩ ⟨(by show 0 + 1 ≤ dd + 1; omega), (by show 64 * 0 + 19 + 3 ≤ 64 * (dd + 1); omega), Nat.zero_le _, Nat.zero_le _⟩ (Nat.le_of_ble_eq_true rfl) dX12_takePart_106 rfl hn (fun z32 hf => ?_)
      refine V_goto (tgt := 178) dX12_takePart_109 (by decide) ?_
      exact V_return dX12_takePart_178 rfl (Nat.le_refl 0) (kN_of hf)
  · have hf := it_f h34 hf
    exact V_return dX12_takePart_86 rfl (Nat.le_refl 0) (kN_of hf)
def wX12_takePart_J69 (n : Nat) (sh : Nat → Nat × Nat) (rcX12_whole : Nat → Int32 → gS → (gS → Prop) → Prop) (rcX12_takePart : Nat → Int32 → gS → (gS → Prop) → Prop) (P : gS → Prop) (a0 : Nat) (x1 : Int32) (x2 : Int32) (x3 : Int32) (z : gS) : Prop := if x1 = (5 : Int32) then ((oO n sh a0 8) ∧ (wX12_wrong n sh a0 (5 : Int32) z (fun (z36 : gS) => wX12_takePart_J79 n sh rcX12_whole rcX12_takePart P a0 x1 x2 x3 z36))) else wX12_takePart_J79 n sh rcX12_whole rcX12_takePart P a0 x1 x2 x3 z
set_option maxRecDepth 100000 in
set_option maxHeartbeats 4000000 in
theorem vX12_takePart_J69 {E : gE} {n : Nat} {sh : Nat → Nat × Nat} {P : gS → Prop} {rcX12_whole : Nat → Int32 → gS → (gS → Prop) → Prop} {rcX12_takePart : Nat → Int32 → gS → (gS → Prop) → Prop} {a0 : Nat} {x1 : Int32} {x2 : Int32} {x3 : Int32} {z : gS} (hn : gOK E n) {dd : Nat} (hrcX12_whole : ∀ (b0 : Nat) (b1 : Int32) (z : gS) (P : gS → Prop), rcX12_whole b0 b1 z P → VM E dd 0 gyX12_whole [.ref b0, .int b1] n sh z (kN n sh P)) (hrcX12_takePart : ∀ (b0 : Nat) (b1 : Int32) (z : gS) (P : gS → Prop), rcX12_takePart b0 b1 z P → VM E dd 0 gyX12_takePart [.ref b0, .int b1] n sh z (kN n sh P)) (hdd : 9 ≤ dd) (hf : wX12_takePart_J69 n sh rcX12_whole rcX12_takePart P a0 x1 x2 x3 z) : V E (gR (dd + 1) 0) gyX12_takePart 0 0 69 [(0, .ref a0), (1, .int x1), (2, .int x2), (3, .int x3)] [] n sh z (kN n sh P) := by
  unfold wX12_takePart_J69 at hf
  refine V_iload_n (j := 1) dX12_takePart_69 rfl rfl ?_
  refine V_iconst (v := (5 : Int32)) dX12_takePart_70 (by decide) ?_
  refine V_icmp_ne (tgt := 79) dX12_takePart_71 (by decide) (fun h38 => ?_) (fun h38 => ?_)
  · have hf := it_f h38 hf
    exact vX12_takePart_J79 hn hrcX12_whole hrcX12_takePart hdd hf
  · have hf := it_t (Classical.not_not.mp h38) hf
    refine V_aload_n (j := 0) dX12_takePart_74 rfl rfl ?_
    refine V_iconst (v := (5 : Int32)) dX12_takePart_75 (by decide) ?_
    obtain ⟨h37, hf⟩ := hf
    refine V_cVN (ctX12_wrong hn hf) gc_X12_165 rfl h37.1 ⟨_, h37.2, by decide, rfl⟩ ⟨(by show 0 + 1 ≤ dd + 1; omega), (by show 64 * 0 + 19 + 2 ≤ 64 * (dd + 1); omega), Nat.zero_le _, Nat.zero_le _⟩ (Nat.le_of_ble_eq_true rfl) dX12_takePart_76 rfl hn (fun z36 hf => ?_)
    exact vX12_takePart_J79 hn hrcX12_whole hrcX12_takePart hdd hf
def wX12_takePart_J26 (n : Nat) (sh : Nat → Nat × Nat) (rcX12_whole : Nat → Int32 → gS → (gS → Prop) → Prop) (rcX12_takePart : Nat → Int32 → gS → (gS → Prop) → Prop) (P : gS → Prop) (a0 : Nat) (x1 : Int32) (s0 : Int32) (z : gS) : Prop := (oO n sh a0 8) ∧ (wX12_wordHere n sh a0 (22 : Int32) (4 : Int32) z (fun (r5 : Int32) (z6 : gS) => if 0 ≤ r5 then wX12_takePart_J69 n sh rcX12_whole rcX12_takePart P a0 x1 s0 r5 z6 else (if s0 = 0 then (wX12_isSign n sh a0 (40 : Int32) z6 (fun (r39 : Int32) (z40 : gS) => if r39 = 0 then (wX12_isWord n sh a0 (19 : Int32) z40 (fun (r41 : Int32) (z42 : gS) => if r41 = 0 then (wX12_wrong n sh a0 (1 : Int32) z42 (fun (z44 : gS) => wX12_takePart_J79 n sh rcX12_whole rcX12_takePart P a0 x1 s0 r5 z44)) else wX12_takePart_J69 n sh rcX12_whole rcX12_takePart P a0 x1 s0 r5 z42)) else wX12_takePart_J69 n sh rcX12_whole rcX12_takePart P a0 x1 s0 r5 z40)) else wX12_takePart_J69 n sh rcX12_whole rcX12_takePart P a0 x1 s0 r5 z6)))
set_option maxRecDepth 100000 in
set_option maxHeartbeats 4000000 in
theorem vX12_takePart_J26 {E : gE} {n : Nat} {sh : Nat → Nat × Nat} {P : gS → Prop} {rcX12_whole : Nat → Int32 → gS → (gS → Prop) → Prop} {rcX12_takePart : Nat → Int32 → gS → (gS → Prop) → Prop} {a0 : Nat} {x1 : Int32} {s0 : Int32} {z : gS} (hn : gOK E n) {dd : Nat} (hrcX12_whole : ∀ (b0 : Nat) (b1 : Int32) (z : gS) (P : gS → Prop), rcX12_whole b0 b1 z P → VM E dd 0 gyX12_whole [.ref b0, .int b1] n sh z (kN n sh P)) (hrcX12_takePart : ∀ (b0 : Nat) (b1 : Int32) (z : gS) (P : gS → Prop), rcX12_takePart b0 b1 z P → VM E dd 0 gyX12_takePart [.ref b0, .int b1] n sh z (kN n sh P)) (hdd : 9 ≤ dd) (hf : wX12_takePart_J26 n sh rcX12_whole rcX12_takePart P a0 x1 s0 z) : V E (gR (dd + 1) 0) gyX12_takePart 0 0 26 [(0, .ref a0), (1, .int x1)] [.int s0] n sh z (kN n sh P) := by
  unfold wX12_takePart_J26 at hf
  refine V_istore_n (ls2 := [(2, .int s0), (0, .ref a0), (1, .int x1)]) dX12_takePart_26 rfl (by decide) rfl ?_
  refine V_aload_n (j := 1) dX12_takePart_27 rfl rfl ?_
  refine V_bipush (v := (22 : Int32)) dX12_takePart_28 (by decide) ?_
  refine V_iconst (v := (4 : Int32)) dX12_takePart_30 (by decide) ?_
  obtain ⟨h7, hf⟩ := hf
  refine V_cVI (ctX12_wordHere hn hf) gc_X12_181 rfl h7.1 ⟨_, h7.2, by decide, rfl⟩ ⟨(by show 1 + 1 ≤ dd + 1; omega), (by show 64 * 1 + 19 + 5 ≤ 64 * (dd + 1); omega), Nat.zero_le _, Nat.zero_le _⟩ (Nat.le_of_ble_eq_true rfl) dX12_takePart_31 rfl hn (fun r5 z6 hf => ?_)
  refine V_istore_n (ls2 := [(3, .int r5), (2, .int s0), (0, .ref a0), (1, .int x1)]) dX12_takePart_34 rfl (by decide) rfl ?_
  refine V_iload_n (j := 0) dX12_takePart_35 rfl rfl ?_
  refine V_if_ge (tgt := 69) dX12_takePart_36 (by decide) (fun h48 => ?_) (fun h48 => ?_)
  · have hf := it_t h48 hf
    refine V_to [2, 3, 1, 0] rfl ?_
    exact vX12_takePart_J69 hn hrcX12_whole hrcX12_takePart hdd hf
  · have hf := it_f h48 hf
    refine V_iload_n (j := 1) dX12_takePart_39 rfl rfl ?_
    refine V_if_ne (tgt := 69) dX12_takePart_40 (by decide) (fun h47 => ?_) (fun h47 => ?_)
    · have hf := it_f h47 hf
      refine V_to [2, 3, 1, 0] rfl ?_
      exact vX12_takePart_J69 hn hrcX12_whole hrcX12_takePart hdd hf
    · have hf := it_t (Classical.not_not.mp h47) hf
      refine V_aload_n (j := 2) dX12_takePart_43 rfl rfl ?_
      refine V_bipush (v := (40 : Int32)) dX12_takePart_44 (by decide) ?_
      refine V_cVI (ctX12_isSign hn hf) gc_X12_162 rfl h7.1 ⟨_, h7.2, by decide, rfl⟩ ⟨(by show 0 + 1 ≤ dd + 1; omega), (by show 64 * 0 + 19 + 2 ≤ 64 * (dd + 1); omega), Nat.zero_le _, Nat.zero_le _⟩ (Nat.le_of_ble_eq_true rfl) dX12_takePart_46 rfl hn (fun r39 z40 hf => ?_)
      refine V_if_ne (tgt := 69) dX12_takePart_49 (by decide) (fun h46 => ?_) (fun h46 => ?_)
      · have hf := it_f h46 hf
        refine V_to [2, 3, 1, 0] rfl ?_
        exact vX12_takePart_J69 hn hrcX12_whole hrcX12_takePart hdd hf
      · have hf := it_t (Classical.not_not.mp h46) hf
        refine V_aload_n (j := 2) dX12_takePart_52 rfl rfl ?_
        refine V_bipush (v := (19 : Int32)) dX12_takePart_53 (by decide) ?_
        refine V_cVI (ctX12_isWord hn hf) gc_X12_168 rfl h7.1 ⟨_, h7.2, by decide, rfl⟩ ⟨(by show 0 + 1 ≤ dd + 1; omega), (by show 64 * 0 + 19 + 2 ≤ 64 * (dd + 1); omega), Nat.zero_le _, Nat.zero_le _⟩ (Nat.le_of_ble_eq_true rfl) dX12_takePart_55 rfl hn (fun r41 z42 hf => ?_)
        refine V_if_ne (tgt := 69) dX12_takePart_58 (by decide) (fun h45 => ?_) (fun h45 => ?_)
        · have hf := it_f h45 hf
          refine V_to [2, 3, 1, 0] rfl ?_
          exact vX12_takePart_J69 hn hrcX12_whole hrcX12_takePart hdd hf
        · have hf := it_t (Classical.not_not.mp h45) hf
          refine V_aload_n (j := 2) dX12_takePart_61 rfl rfl ?_
          refine V_iconst (v := (1 : Int32)) dX12_takePart_62 (by decide) ?_
          refine V_cVN (ctX12_wrong hn hf) gc_X12_165 rfl h7.1 ⟨_, h7.2, by decide, rfl⟩ ⟨(by show 0 + 1 ≤ dd + 1; omega), (by show 64 * 0 + 19 + 2 ≤ 64 * (dd + 1); omega), Nat.zero_le _, Nat.zero_le _⟩ (Nat.le_of_ble_eq_true rfl) dX12_takePart_63 rfl hn (fun z44 hf => ?_)
          refine V_goto (tgt := 79) dX12_takePart_66 (by decide) ?_
          refine V_to [2, 3, 1, 0] rfl ?_
          exact vX12_takePart_J79 hn hrcX12_whole hrcX12_takePart hdd hf
def wX12_takePart (n : Nat) (sh : Nat → Nat × Nat) (rcX12_whole : Nat → Int32 → gS → (gS → Prop) → Prop) (rcX12_takePart : Nat → Int32 → gS → (gS → Prop) → Prop) (a0 : Nat) (x1 : Int32) (z : gS) (P : gS → Prop) : Prop := (oO n sh a0 8) ∧ (if (gi z a0 8) ≤ 0 then (∃ t2 : Nat, gr z a0 4 = some t2 ∧ ((oA n sh t2 1) ∧ ((vp_in (gi z a0 7) (sh t2).2) ∧ (if (gi z t2 (gi z a0 7).toNatClampNeg) = (2 : Int32) then wX12_takePart_J26 n sh rcX12_whole rcX12_takePart P a0 x1 (1 : Int32) z else wX12_takePart_J26 n sh rcX12_whole rcX12_takePart P a0 x1 (0 : Int32) z)))) else P z)
set_option maxRecDepth 100000 in
set_option maxHeartbeats 4000000 in
theorem ctX12_takePart {E : gE} {n : Nat} {sh : Nat → Nat × Nat} {rcX12_whole : Nat → Int32 → gS → (gS → Prop) → Prop} {rcX12_takePart : Nat → Int32 → gS → (gS → Prop) → Prop} {a0 : Nat} {x1 : Int32} {z : gS} {P : gS → Prop} (hn : gOK E n) {dd : Nat} (hrcX12_whole : ∀ (b0 : Nat) (b1 : Int32) (z : gS) (P : gS → Prop), rcX12_whole b0 b1 z P → VM E dd 0 gyX12_whole [.ref b0, .int b1] n sh z (kN n sh P)) (hrcX12_takePart : ∀ (b0 : Nat) (b1 : Int32) (z : gS) (P : gS → Prop), rcX12_takePart b0 b1 z P → VM E dd 0 gyX12_takePart [.ref b0, .int b1] n sh z (kN n sh P)) (hdd : 9 ≤ dd) (hf : wX12_takePart n sh rcX12_whole rcX12_takePart a0 x1 z P) : VM E (dd + 1) 0 gyX12_takePart [.ref a0, .int x1] n sh z (kN n sh P) := by
  unfold wX12_takePart at hf
  refine VM.of (by decide +kernel) (Nat.le_of_ble_eq_true rfl) (fun _ _ _ h => h.2.2) ?_
  show V E (gR (dd + 1) 0) gyX12_takePart 0 0 0 [(0, .ref a0), (1, .int x1)] [] n sh z (kN n sh P)
  refine V_aload_n (j := 0) dX12_takePart_0 rfl rfl ?_
  obtain ⟨h1, hf⟩ := hf
  refine V_getI fl_X12_159 rfl h1.1 h1.2 dX12_takePart_1 ?_
  refine V_if_le (tgt := 8) dX12_takePart_4 (by decide) (fun h50 => ?_) (fun h50 => ?_)
  · have hf := it_t h50 hf
    refine V_aload_n (j := 0) dX12_takePart_8 rfl rfl ?_
    obtain ⟨t2, et2, hf⟩ := hf
    refine V_getR fl_X12_24 rfl h1.1 h1.2 et2 dX12_takePart_9 ?_
    refine V_aload_n (j := 0) dX12_takePart_12 rfl rfl ?_
    refine V_getI fl_X12_156 rfl h1.1 h1.2 dX12_takePart_13 ?_
    obtain ⟨h3, hf⟩ := hf
    obtain ⟨h4, hf⟩ := hf
    refine V_iald h3.1 h3.s h4 dX12_takePart_16 ?_
    refine V_iconst (v := (2 : Int32)) dX12_takePart_17 (by decide) ?_
    refine V_icmp_ne (tgt := 25) dX12_takePart_18 (by decide) (fun h49 => ?_) (fun h49 => ?_)
    · have hf := it_f h49 hf
      refine V_iconst (v := (0 : Int32)) dX12_takePart_25 (by decide) ?_
      exact vX12_takePart_J26 hn hrcX12_whole hrcX12_takePart hdd hf
    · have hf := it_t (Classical.not_not.mp h49) hf
      refine V_iconst (v := (1 : Int32)) dX12_takePart_21 (by decide) ?_
      refine V_goto (tgt := 26) dX12_takePart_22 (by decide) ?_
      exact vX12_takePart_J26 hn hrcX12_whole hrcX12_takePart hdd hf
  · have hf := it_f h50 hf
    exact V_return dX12_takePart_7 rfl (Nat.le_refl 0) (kN_of hf)
def wX12_products_B5 (n : Nat) (sh : Nat → Nat × Nat) (rcX12_takePart : Nat → Int32 → gS → (gS → Prop) → Prop) (k5 : Nat → Int32 → gS → Prop) (P : gS → Prop) (a0 : Nat) (x1 : Int32) (z : gS) : Prop := (oO n sh a0 8) ∧ (wX12_hasSign n sh a0 (42 : Int32) z (fun (r4 : Int32) (z5 : gS) => if r4 = 0 then P z5 else (rcX12_takePart a0 x1 z5 (fun (z8 : gS) => wX12_emit n sh a0 (6 : Int32) (0 : Int32) z8 (fun (z10 : gS) => k5 a0 x1 z10)))))
def wX12_products_L5 (n : Nat) (sh : Nat → Nat × Nat) (rcX12_takePart : Nat → Int32 → gS → (gS → Prop) → Prop) (P : gS → Prop) : Nat → Nat → Int32 → gS → Prop
  | 0, _, _, _ => False
  | N + 1, a0, x1, z => wX12_products_B5 n sh rcX12_takePart (wX12_products_L5 n sh rcX12_takePart P N) P a0 x1 z
set_option maxRecDepth 100000 in
set_option maxHeartbeats 4000000 in
theorem vX12_products_B5 {E : gE} {n : Nat} {sh : Nat → Nat × Nat} {P : gS → Prop} {rcX12_takePart : Nat → Int32 → gS → (gS → Prop) → Prop} {k5 : Nat → Int32 → gS → Prop} {a0 : Nat} {x1 : Int32} {z : gS} (hn : gOK E n) {dd : Nat} (hrcX12_takePart : ∀ (b0 : Nat) (b1 : Int32) (z : gS) (P : gS → Prop), rcX12_takePart b0 b1 z P → VM E dd 0 gyX12_takePart [.ref b0, .int b1] n sh z (kN n sh P)) (hdd : 9 ≤ dd) (hk5 : ∀ (a0 : Nat) (x1 : Int32) (z : gS), k5 a0 x1 z → V E (gR (dd + 1) 0) gyX12_products 0 0 5 [(0, .ref a0), (1, .int x1)] [] n sh z (kN n sh P)) (hf : wX12_products_B5 n sh rcX12_takePart k5 P a0 x1 z) : V E (gR (dd + 1) 0) gyX12_products 0 0 5 [(0, .ref a0), (1, .int x1)] [] n sh z (kN n sh P) := by
  unfold wX12_products_B5 at hf
  refine V_aload_n (j := 0) dX12_products_5 rfl rfl ?_
  refine V_bipush (v := (42 : Int32)) dX12_products_6 (by decide) ?_
  obtain ⟨h6, hf⟩ := hf
  refine V_cVI (ctX12_hasSign hn hf) gc_X12_253 rfl h6.1 ⟨_, h6.2, by decide, rfl⟩ ⟨(by show 1 + 1 ≤ dd + 1; omega), (by show 64 * 1 + 19 + 3 ≤ 64 * (dd + 1); omega), Nat.zero_le _, Nat.zero_le _⟩ (Nat.le_of_ble_eq_true rfl) dX12_products_8 rfl hn (fun r4 z5 hf => ?_)
  refine V_if_eq (tgt := 29) dX12_products_11 (by decide) (fun h11 => ?_) (fun h11 => ?_)
  · have hf := it_t h11 hf
    exact V_return dX12_products_29 rfl (Nat.le_refl 0) (kN_of hf)
  · have hf := it_f h11 hf
    refine V_aload_n (j := 0) dX12_products_14 rfl rfl ?_
    refine V_iload_n (j := 1) dX12_products_15 rfl rfl ?_
    refine V_cVN (hrcX12_takePart _ _ _ _ hf) gc_X12_259 rfl h6.1 ⟨_, h6.2, by decide, rfl⟩ ⟨Nat.le_refl _, (by show 64 * dd + 19 + 4 ≤ 64 * (dd + 1); omega), Nat.zero_le _, Nat.zero_le _⟩ (Nat.le_of_ble_eq_true rfl) dX12_products_16 rfl hn (fun z8 hf => ?_)
    refine V_aload_n (j := 0) dX12_products_19 rfl rfl ?_
    refine V_bipush (v := (6 : Int32)) dX12_products_20 (by decide) ?_
    refine V_iconst (v := (0 : Int32)) dX12_products_22 (by decide) ?_
    refine V_cVN (ctX12_emit hn hf) gc_X12_240 rfl h6.1 ⟨_, h6.2, by decide, rfl⟩ ⟨(by show 0 + 1 ≤ dd + 1; omega), (by show 64 * 0 + 19 + 3 ≤ 64 * (dd + 1); omega), Nat.zero_le _, Nat.zero_le _⟩ (Nat.le_of_ble_eq_true rfl) dX12_products_23 rfl hn (fun z10 hf => ?_)
    refine V_goto (tgt := 5) dX12_products_26 (by decide) ?_
    exact hk5 _ _ _ hf
set_option maxRecDepth 100000 in
set_option maxHeartbeats 4000000 in
theorem vX12_products_L5 {E : gE} {n : Nat} {sh : Nat → Nat × Nat} {P : gS → Prop} {rcX12_takePart : Nat → Int32 → gS → (gS → Prop) → Prop} (hn : gOK E n) {dd : Nat} (hrcX12_takePart : ∀ (b0 : Nat) (b1 : Int32) (z : gS) (P : gS → Prop), rcX12_takePart b0 b1 z P → VM E dd 0 gyX12_takePart [.ref b0, .int b1] n sh z (kN n sh P)) (hdd : 9 ≤ dd) : ∀ (N : Nat) (a0 : Nat) (x1 : Int32) (z : gS), wX12_products_L5 n sh rcX12_takePart P N a0 x1 z → V E (gR (dd + 1) 0) gyX12_products 0 0 5 [(0, .ref a0), (1, .int x1)] [] n sh z (kN n sh P) := by
  intro N
  induction N with
  | zero => intro a0 x1 z hf; exact False.elim hf
  | succ N ih => intro a0 x1 z hf; exact vX12_products_B5 hn hrcX12_takePart hdd ih hf
def wX12_products (n : Nat) (sh : Nat → Nat × Nat) (rcX12_takePart : Nat → Int32 → gS → (gS → Prop) → Prop) (a0 : Nat) (x1 : Int32) (z : gS) (P : gS → Prop) : Prop := (oO n sh a0 8) ∧ (rcX12_takePart a0 x1 z (fun (z2 : gS) => (∃ N, wX12_products_L5 n sh rcX12_takePart P N a0 x1 z2)))
set_option maxRecDepth 100000 in
set_option maxHeartbeats 4000000 in
theorem ctX12_products {E : gE} {n : Nat} {sh : Nat → Nat × Nat} {rcX12_takePart : Nat → Int32 → gS → (gS → Prop) → Prop} {a0 : Nat} {x1 : Int32} {z : gS} {P : gS → Prop} (hn : gOK E n) {dd : Nat} (hrcX12_takePart : ∀ (b0 : Nat) (b1 : Int32) (z : gS) (P : gS → Prop), rcX12_takePart b0 b1 z P → VM E dd 0 gyX12_takePart [.ref b0, .int b1] n sh z (kN n sh P)) (hdd : 9 ≤ dd) (hf : wX12_products n sh rcX12_takePart a0 x1 z P) : VM E (dd + 1) 0 gyX12_products [.ref a0, .int x1] n sh z (kN n sh P) := by
  unfold wX12_products at hf
  refine VM.of (by decide +kernel) (Nat.le_of_ble_eq_true rfl) (fun _ _ _ h => h.2.2) ?_
  show V E (gR (dd + 1) 0) gyX12_products 0 0 0 [(0, .ref a0), (1, .int x1)] [] n sh z (kN n sh P)
  refine V_aload_n (j := 0) dX12_products_0 rfl rfl ?_
  refine V_iload_n (j := 1) dX12_products_1 rfl rfl ?_
  obtain ⟨h3, hf⟩ := hf
  refine V_cVN (hrcX12_takePart _ _ _ _ hf) gc_X12_259 rfl h3.1 ⟨_, h3.2, by decide, rfl⟩ ⟨Nat.le_refl _, (by show 64 * dd + 19 + 4 ≤ 64 * (dd + 1); omega), Nat.zero_le _, Nat.zero_le _⟩ (Nat.le_of_ble_eq_true rfl) dX12_products_2 rfl hn (fun z2 hf => ?_)
  obtain ⟨N, hf⟩ := hf
  exact vX12_products_L5 hn hrcX12_takePart hdd N _ _ _ hf
def wX12_sums_J55 (n : Nat) (sh : Nat → Nat × Nat) (rcX12_products : Nat → Int32 → gS → (gS → Prop) → Prop) (k5 : Nat → Int32 → gS → Prop) (P : gS → Prop) (a0 : Nat) (x1 : Int32) (s0 : Int32) (s1 : Nat) (z : gS) : Prop := (oO n sh s1 8) ∧ (wX12_emit n sh s1 s0 (0 : Int32) z (fun (z14 : gS) => k5 a0 x1 z14))
set_option maxRecDepth 100000 in
set_option maxHeartbeats 4000000 in
theorem vX12_sums_J55 {E : gE} {n : Nat} {sh : Nat → Nat × Nat} {P : gS → Prop} {rcX12_products : Nat → Int32 → gS → (gS → Prop) → Prop} {k5 : Nat → Int32 → gS → Prop} {a0 : Nat} {x1 : Int32} {s0 : Int32} {s1 : Nat} {z : gS} (hn : gOK E n) {dd : Nat} (hrcX12_products : ∀ (b0 : Nat) (b1 : Int32) (z : gS) (P : gS → Prop), rcX12_products b0 b1 z P → VM E dd 0 gyX12_products [.ref b0, .int b1] n sh z (kN n sh P)) (hdd : 9 ≤ dd) (hk5 : ∀ (a0 : Nat) (x1 : Int32) (z : gS), k5 a0 x1 z → V E (gR (dd + 1) 0) gyX12_sums 0 0 5 [(0, .ref a0), (1, .int x1)] [] n sh z (kN n sh P)) (hf : wX12_sums_J55 n sh rcX12_products k5 P a0 x1 s0 s1 z) : V E (gR (dd + 1) 0) gyX12_sums 0 0 55 [(0, .ref a0), (1, .int x1)] [.int s0, .ref s1] n sh z (kN n sh P) := by
  unfold wX12_sums_J55 at hf
  refine V_iconst (v := (0 : Int32)) dX12_sums_55 (by decide) ?_
  obtain ⟨h15, hf⟩ := hf
  refine V_cVN (ctX12_emit hn hf) gc_X12_240 rfl h15.1 ⟨_, h15.2, by decide, rfl⟩ ⟨(by show 0 + 1 ≤ dd + 1; omega), (by show 64 * 0 + 19 + 3 ≤ 64 * (dd + 1); omega), Nat.zero_le _, Nat.zero_le _⟩ (Nat.le_of_ble_eq_true rfl) dX12_sums_56 rfl hn (fun z14 hf => ?_)
  refine V_goto (tgt := 5) dX12_sums_59 (by decide) ?_
  exact hk5 _ _ _ hf
def wX12_sums_J23 (n : Nat) (sh : Nat → Nat × Nat) (rcX12_products : Nat → Int32 → gS → (gS → Prop) → Prop) (k5 : Nat → Int32 → gS → Prop) (P : gS → Prop) (a0 : Nat) (x1 : Int32) (z : gS) : Prop := (oO n sh a0 8) ∧ (wX12_isSign n sh a0 (43 : Int32) z (fun (r7 : Int32) (z8 : gS) => ∀ z10 : gS, z10 = si z8 a0 7 ((gi z8 a0 7) + (1 : Int32)) → (rcX12_products a0 x1 z10 (fun (z12 : gS) => if r7 = 0 then wX12_sums_J55 n sh rcX12_products k5 P a0 x1 (5 : Int32) a0 z12 else wX12_sums_J55 n sh rcX12_products k5 P a0 x1 (4 : Int32) a0 z12))))
set_option maxRecDepth 100000 in
set_option maxHeartbeats 4000000 in
theorem vX12_sums_J23 {E : gE} {n : Nat} {sh : Nat → Nat × Nat} {P : gS → Prop} {rcX12_products : Nat → Int32 → gS → (gS → Prop) → Prop} {k5 : Nat → Int32 → gS → Prop} {a0 : Nat} {x1 : Int32} {z : gS} (hn : gOK E n) {dd : Nat} (hrcX12_products : ∀ (b0 : Nat) (b1 : Int32) (z : gS) (P : gS → Prop), rcX12_products b0 b1 z P → VM E dd 0 gyX12_products [.ref b0, .int b1] n sh z (kN n sh P)) (hdd : 9 ≤ dd) (hk5 : ∀ (a0 : Nat) (x1 : Int32) (z : gS), k5 a0 x1 z → V E (gR (dd + 1) 0) gyX12_sums 0 0 5 [(0, .ref a0), (1, .int x1)] [] n sh z (kN n sh P)) (hf : wX12_sums_J23 n sh rcX12_products k5 P a0 x1 z) : V E (gR (dd + 1) 0) gyX12_sums 0 0 23 [(0, .ref a0), (1, .int x1)] [] n sh z (kN n sh P) := by
  unfold wX12_sums_J23 at hf
  refine V_aload_n (j := 0) dX12_sums_23 rfl rfl ?_
  refine V_bipush (v := (43 : Int32)) dX12_sums_24 (by decide) ?_
  obtain ⟨h9, hf⟩ := hf
  refine V_cVI (ctX12_isSign hn hf) gc_X12_162 rfl h9.1 ⟨_, h9.2, by decide, rfl⟩ ⟨(by show 0 + 1 ≤ dd + 1; omega), (by show 64 * 0 + 19 + 2 ≤ 64 * (dd + 1); omega), Nat.zero_le _, Nat.zero_le _⟩ (Nat.le_of_ble_eq_true rfl) dX12_sums_26 rfl hn (fun r7 z8 hf => ?_)
  refine V_istore_n (ls2 := [(2, .int r7), (0, .ref a0), (1, .int x1)]) dX12_sums_29 rfl (by decide) rfl ?_
  refine V_aload_n (j := 1) dX12_sums_30 rfl rfl ?_
  refine V_dup dX12_sums_31 rfl ?_
  refine V_getI fl_X12_156 rfl h9.1 h9.2 dX12_sums_32 ?_
  refine V_iconst (v := (1 : Int32)) dX12_sums_35 (by decide) ?_
  refine V_iadd dX12_sums_36 ?_
  refine V_putI fl_X12_156 rfl rfl rfl rfl h9.1 h9.2 dX12_sums_37 ?_
  refine V_nz (fun z10 ez10 => ?_)
  have hf := hf z10 ez10
  refine V_aload_n (j := 1) dX12_sums_40 rfl rfl ?_
  refine V_iload_n (j := 2) dX12_sums_41 rfl rfl ?_
  refine V_cVN (hrcX12_products _ _ _ _ hf) gc_X12_256 rfl h9.1 ⟨_, h9.2, by decide, rfl⟩ ⟨Nat.le_refl _, (by show 64 * dd + 19 + 2 ≤ 64 * (dd + 1); omega), Nat.zero_le _, Nat.zero_le _⟩ (Nat.le_of_ble_eq_true rfl) dX12_sums_42 rfl hn (fun z12 hf => ?_)
  refine V_aload_n (j := 1) dX12_sums_45 rfl rfl ?_
  refine V_iload_n (j := 0) dX12_sums_46 rfl rfl ?_
  refine V_if_eq (tgt := 54) dX12_sums_47 (by decide) (fun h16 => ?_) (fun h16 => ?_)
  · have hf := it_t h16 hf
    refine V_iconst (v := (5 : Int32)) dX12_sums_54 (by decide) ?_
    refine V_to [1, 2] rfl ?_
    exact vX12_sums_J55 hn hrcX12_products hdd hk5 hf
  · have hf := it_f h16 hf
    refine V_iconst (v := (4 : Int32)) dX12_sums_50 (by decide) ?_
    refine V_goto (tgt := 55) dX12_sums_51 (by decide) ?_
    refine V_to [1, 2] rfl ?_
    exact vX12_sums_J55 hn hrcX12_products hdd hk5 hf
def wX12_sums_B5 (n : Nat) (sh : Nat → Nat × Nat) (rcX12_products : Nat → Int32 → gS → (gS → Prop) → Prop) (k5 : Nat → Int32 → gS → Prop) (P : gS → Prop) (a0 : Nat) (x1 : Int32) (z : gS) : Prop := (oO n sh a0 8) ∧ (wX12_isSign n sh a0 (43 : Int32) z (fun (r4 : Int32) (z5 : gS) => if r4 = 0 then (wX12_isSign n sh a0 (45 : Int32) z5 (fun (r17 : Int32) (z18 : gS) => if r17 = 0 then P z18 else wX12_sums_J23 n sh rcX12_products k5 P a0 x1 z18)) else wX12_sums_J23 n sh rcX12_products k5 P a0 x1 z5))
def wX12_sums_L5 (n : Nat) (sh : Nat → Nat × Nat) (rcX12_products : Nat → Int32 → gS → (gS → Prop) → Prop) (P : gS → Prop) : Nat → Nat → Int32 → gS → Prop
  | 0, _, _, _ => False
  | N + 1, a0, x1, z => wX12_sums_B5 n sh rcX12_products (wX12_sums_L5 n sh rcX12_products P N) P a0 x1 z
set_option maxRecDepth 100000 in
set_option maxHeartbeats 4000000 in
theorem vX12_sums_B5 {E : gE} {n : Nat} {sh : Nat → Nat × Nat} {P : gS → Prop} {rcX12_products : Nat → Int32 → gS → (gS → Prop) → Prop} {k5 : Nat → Int32 → gS → Prop} {a0 : Nat} {x1 : Int32} {z : gS} (hn : gOK E n) {dd : Nat} (hrcX12_products : ∀ (b0 : Nat) (b1 : Int32) (z : gS) (P : gS → Prop), rcX12_products b0 b1 z P → VM E dd 0 gyX12_products [.ref b0, .int b1] n sh z (kN n sh P)) (hdd : 9 ≤ dd) (hk5 : ∀ (a0 : Nat) (x1 : Int32) (z : gS), k5 a0 x1 z → V E (gR (dd + 1) 0) gyX12_sums 0 0 5 [(0, .ref a0), (1, .int x1)] [] n sh z (kN n sh P)) (hf : wX12_sums_B5 n sh rcX12_products k5 P a0 x1 z) : V E (gR (dd + 1) 0) gyX12_sums 0 0 5 [(0, .ref a0), (1, .int x1)] [] n sh z (kN n sh P) := by
  unfold wX12_sums_B5 at hf
  refine V_aload_n (j := 0) dX12_sums_5 rfl rfl ?_
  refine V_bipush (v := (43 : Int32)) dX12_sums_6 (by decide) ?_
  obtain ⟨h6, hf⟩ := hf
  refine V_cVI (ctX12_isSign hn hf) gc_X12_162 rfl h6.1 ⟨_, h6.2, by decide, rfl⟩ ⟨(by show 0 + 1 ≤ dd + 1; omega), (by show 64 * 0 + 19 + 2 ≤ 64 * (dd + 1); omega), Nat.zero_le _, Nat.zero_le _⟩ (Nat.le_of_ble_eq_true rfl) dX12_sums_8 rfl hn (fun r4 z5 hf => ?_)
  refine V_if_ne (tgt := 23) dX12_sums_11 (by decide) (fun h20 => ?_) (fun h20 => ?_)
  · have hf := it_f h20 hf
    exact vX12_sums_J23 hn hrcX12_products hdd hk5 hf
  · have hf := it_t (Classical.not_not.mp h20) hf
    refine V_aload_n (j := 0) dX12_sums_14 rfl rfl ?_
    refine V_bipush (v := (45 : Int32)) dX12_sums_15 (by decide) ?_
    refine V_cVI (ctX12_isSign hn hf) gc_X12_162 rfl h6.1 ⟨_, h6.2, by decide, rfl⟩ ⟨(by show 0 + 1 ≤ dd + 1; omega), (by show 64 * 0 + 19 + 2 ≤ 64 * (dd + 1); omega), Nat.zero_le _, Nat.zero_le _⟩ (Nat.le_of_ble_eq_true rfl) dX12_sums_17 rfl hn (fun r17 z18 hf => ?_)
    refine V_if_eq (tgt := 62) dX12_sums_20 (by decide) (fun h19 => ?_) (fun h19 => ?_)
    · have hf := it_t h19 hf
      exact V_return dX12_sums_62 rfl (Nat.le_refl 0) (kN_of hf)
    · have hf := it_f h19 hf
      exact vX12_sums_J23 hn hrcX12_products hdd hk5 hf
set_option maxRecDepth 100000 in
set_option maxHeartbeats 4000000 in
theorem vX12_sums_L5 {E : gE} {n : Nat} {sh : Nat → Nat × Nat} {P : gS → Prop} {rcX12_products : Nat → Int32 → gS → (gS → Prop) → Prop} (hn : gOK E n) {dd : Nat} (hrcX12_products : ∀ (b0 : Nat) (b1 : Int32) (z : gS) (P : gS → Prop), rcX12_products b0 b1 z P → VM E dd 0 gyX12_products [.ref b0, .int b1] n sh z (kN n sh P)) (hdd : 9 ≤ dd) : ∀ (N : Nat) (a0 : Nat) (x1 : Int32) (z : gS), wX12_sums_L5 n sh rcX12_products P N a0 x1 z → V E (gR (dd + 1) 0) gyX12_sums 0 0 5 [(0, .ref a0), (1, .int x1)] [] n sh z (kN n sh P) := by
  intro N
  induction N with
  | zero => intro a0 x1 z hf; exact False.elim hf
  | succ N ih => intro a0 x1 z hf; exact vX12_sums_B5 hn hrcX12_products hdd ih hf
def wX12_sums (n : Nat) (sh : Nat → Nat × Nat) (rcX12_products : Nat → Int32 → gS → (gS → Prop) → Prop) (a0 : Nat) (x1 : Int32) (z : gS) (P : gS → Prop) : Prop := (oO n sh a0 8) ∧ (rcX12_products a0 x1 z (fun (z2 : gS) => (∃ N, wX12_sums_L5 n sh rcX12_products P N a0 x1 z2)))
set_option maxRecDepth 100000 in
set_option maxHeartbeats 4000000 in
theorem ctX12_sums {E : gE} {n : Nat} {sh : Nat → Nat × Nat} {rcX12_products : Nat → Int32 → gS → (gS → Prop) → Prop} {a0 : Nat} {x1 : Int32} {z : gS} {P : gS → Prop} (hn : gOK E n) {dd : Nat} (hrcX12_products : ∀ (b0 : Nat) (b1 : Int32) (z : gS) (P : gS → Prop), rcX12_products b0 b1 z P → VM E dd 0 gyX12_products [.ref b0, .int b1] n sh z (kN n sh P)) (hdd : 9 ≤ dd) (hf : wX12_sums n sh rcX12_products a0 x1 z P) : VM E (dd + 1) 0 gyX12_sums [.ref a0, .int x1] n sh z (kN n sh P) := by
  unfold wX12_sums at hf
  refine VM.of (by decide +kernel) (Nat.le_of_ble_eq_true rfl) (fun _ _ _ h => h.2.2) ?_
  show V E (gR (dd + 1) 0) gyX12_sums 0 0 0 [(0, .ref a0), (1, .int x1)] [] n sh z (kN n sh P)
  refine V_aload_n (j := 0) dX12_sums_0 rfl rfl ?_
  refine V_iload_n (j := 1) dX12_sums_1 rfl rfl ?_
  obtain ⟨h3, hf⟩ := hf
  refine V_cVN (hrcX12_products _ _ _ _ hf) gc_X12_256 rfl h3.1 ⟨_, h3.2, by decide, rfl⟩ ⟨Nat.le_refl _, (by show 64 * dd + 19 + 2 ≤ 64 * (dd + 1); omega), Nat.zero_le _, Nat.zero_le _⟩ (Nat.le_of_ble_eq_true rfl) dX12_sums_2 rfl hn (fun z2 hf => ?_)
  obtain ⟨N, hf⟩ := hf
  exact vX12_sums_L5 hn hrcX12_products hdd N _ _ _ hf
def wX12_test_J47 (n : Nat) (sh : Nat → Nat × Nat) (rcX12_sums : Nat → Int32 → gS → (gS → Prop) → Prop) (P : gS → Prop) (s0 : Int32) (s1 : Nat) (z : gS) : Prop := (oO n sh s1 8) ∧ (wX12_emit n sh s1 s0 (0 : Int32) z (fun (z12 : gS) => P z12))
set_option maxRecDepth 100000 in
set_option maxHeartbeats 4000000 in
theorem vX12_test_J47 {E : gE} {n : Nat} {sh : Nat → Nat × Nat} {P : gS → Prop} {rcX12_sums : Nat → Int32 → gS → (gS → Prop) → Prop} {s0 : Int32} {s1 : Nat} {z : gS} (hn : gOK E n) {dd : Nat} (hrcX12_sums : ∀ (b0 : Nat) (b1 : Int32) (z : gS) (P : gS → Prop), rcX12_sums b0 b1 z P → VM E dd 0 gyX12_sums [.ref b0, .int b1] n sh z (kN n sh P)) (hdd : 9 ≤ dd) (hf : wX12_test_J47 n sh rcX12_sums P s0 s1 z) : V E (gR (dd + 1) 0) gyX12_test 0 0 47 [] [.int s0, .ref s1] n sh z (kN n sh P) := by
  unfold wX12_test_J47 at hf
  refine V_iconst (v := (0 : Int32)) dX12_test_47 (by decide) ?_
  obtain ⟨h13, hf⟩ := hf
  refine V_cVN (ctX12_emit hn hf) gc_X12_240 rfl h13.1 ⟨_, h13.2, by decide, rfl⟩ ⟨(by show 0 + 1 ≤ dd + 1; omega), (by show 64 * 0 + 19 + 3 ≤ 64 * (dd + 1); omega), Nat.zero_le _, Nat.zero_le _⟩ (Nat.le_of_ble_eq_true rfl) dX12_test_48 rfl hn (fun z12 hf => ?_)
  exact V_return dX12_test_51 rfl (Nat.le_refl 0) (kN_of hf)
def wX12_test_J30 (n : Nat) (sh : Nat → Nat × Nat) (rcX12_sums : Nat → Int32 → gS → (gS → Prop) → Prop) (P : gS → Prop) (a0 : Nat) (x1 : Int32) (x2 : Int32) (z : gS) : Prop := (oO n sh a0 8) ∧ (rcX12_sums a0 x1 z (fun (z9 : gS) => if x2 = 0 then wX12_test_J47 n sh rcX12_sums P (8 : Int32) a0 z9 else wX12_test_J47 n sh rcX12_sums P (7 : Int32) a0 z9))
set_option maxRecDepth 100000 in
set_option maxHeartbeats 4000000 in
theorem vX12_test_J30 {E : gE} {n : Nat} {sh : Nat → Nat × Nat} {P : gS → Prop} {rcX12_sums : Nat → Int32 → gS → (gS → Prop) → Prop} {a0 : Nat} {x1 : Int32} {x2 : Int32} {z : gS} (hn : gOK E n) {dd : Nat} (hrcX12_sums : ∀ (b0 : Nat) (b1 : Int32) (z : gS) (P : gS → Prop), rcX12_sums b0 b1 z P → VM E dd 0 gyX12_sums [.ref b0, .int b1] n sh z (kN n sh P)) (hdd : 9 ≤ dd) (hf : wX12_test_J30 n sh rcX12_sums P a0 x1 x2 z) : V E (gR (dd + 1) 0) gyX12_test 0 0 30 [(0, .ref a0), (1, .int x1), (2, .int x2)] [] n sh z (kN n sh P) := by
  unfold wX12_test_J30 at hf
  refine V_aload_n (j := 0) dX12_test_30 rfl rfl ?_
  refine V_iload_n (j := 1) dX12_test_31 rfl rfl ?_
  obtain ⟨h10, hf⟩ := hf
  refine V_cVN (hrcX12_sums _ _ _ _ hf) gc_X12_250 rfl h10.1 ⟨_, h10.2, by decide, rfl⟩ ⟨Nat.le_refl _, (by show 64 * dd + 19 + 3 ≤ 64 * (dd + 1); omega), Nat.zero_le _, Nat.zero_le _⟩ (Nat.le_of_ble_eq_true rfl) dX12_test_32 rfl hn (fun z9 hf => ?_)
  refine V_aload_n (j := 0) dX12_test_35 rfl rfl ?_
  refine V_iload_n (j := 2) dX12_test_36 rfl rfl ?_
  refine V_if_eq (tgt := 45) dX12_test_37 (by decide) (fun h14 => ?_) (fun h14 => ?_)
  · have hf := it_t h14 hf
    refine V_bipush (v := (8 : Int32)) dX12_test_45 (by decide) ?_
    refine V_to [] rfl ?_
    exact vX12_test_J47 hn hrcX12_sums hdd hf
  · have hf := it_f h14 hf
    refine V_bipush (v := (7 : Int32)) dX12_test_40 (by decide) ?_
    refine V_goto (tgt := 47) dX12_test_42 (by decide) ?_
    refine V_to [] rfl ?_
    exact vX12_test_J47 hn hrcX12_sums hdd hf
def wX12_test (n : Nat) (sh : Nat → Nat × Nat) (rcX12_sums : Nat → Int32 → gS → (gS → Prop) → Prop) (a0 : Nat) (x1 : Int32) (z : gS) (P : gS → Prop) : Prop := (oO n sh a0 8) ∧ (rcX12_sums a0 x1 z (fun (z2 : gS) => wX12_isSign n sh a0 (60 : Int32) z2 (fun (r4 : Int32) (z5 : gS) => wX12_hasSign n sh a0 (60 : Int32) z5 (fun (r6 : Int32) (z7 : gS) => if r6 = 0 then (wX12_hasSign n sh a0 (61 : Int32) z7 (fun (r15 : Int32) (z16 : gS) => if r15 = 0 then P z16 else wX12_test_J30 n sh rcX12_sums P a0 x1 r4 z16)) else wX12_test_J30 n sh rcX12_sums P a0 x1 r4 z7))))
set_option maxRecDepth 100000 in
set_option maxHeartbeats 4000000 in
theorem ctX12_test {E : gE} {n : Nat} {sh : Nat → Nat × Nat} {rcX12_sums : Nat → Int32 → gS → (gS → Prop) → Prop} {a0 : Nat} {x1 : Int32} {z : gS} {P : gS → Prop} (hn : gOK E n) {dd : Nat} (hrcX12_sums : ∀ (b0 : Nat) (b1 : Int32) (z : gS) (P : gS → Prop), rcX12_sums b0 b1 z P → VM E dd 0 gyX12_sums [.ref b0, .int b1] n sh z (kN n sh P)) (hdd : 9 ≤ dd) (hf : wX12_test n sh rcX12_sums a0 x1 z P) : VM E (dd + 1) 0 gyX12_test [.ref a0, .int x1] n sh z (kN n sh P) := by
  unfold wX12_test at hf
  refine VM.of (by decide +kernel) (Nat.le_of_ble_eq_true rfl) (fun _ _ _ h => h.2.2) ?_
  show V E (gR (dd + 1) 0) gyX12_test 0 0 0 [(0, .ref a0), (1, .int x1)] [] n sh z (kN n sh P)
  refine V_aload_n (j := 0) dX12_test_0 rfl rfl ?_
  refine V_iload_n (j := 1) dX12_test_1 rfl rfl ?_
  obtain ⟨h3, hf⟩ := hf
  refine V_cVN (hrcX12_sums _ _ _ _ hf) gc_X12_250 rfl h3.1 ⟨_, h3.2, by decide, rfl⟩ ⟨Nat.le_refl _, (by show 64 * dd + 19 + 3 ≤ 64 * (dd + 1); omega), Nat.zero_le _, Nat.zero_le _⟩ (Nat.le_of_ble_eq_true rfl) dX12_test_2 rfl hn (fun z2 hf => ?_)
  refine V_aload_n (j := 0) dX12_test_5 rfl rfl ?_
  refine V_bipush (v := (60 : Int32)) dX12_test_6 (by decide) ?_
  refine V_cVI (ctX12_isSign hn hf) gc_X12_162 rfl h3.1 ⟨_, h3.2, by decide, rfl⟩ ⟨(by show 0 + 1 ≤ dd + 1; omega), (by show 64 * 0 + 19 + 2 ≤ 64 * (dd + 1); omega), Nat.zero_le _, Nat.zero_le _⟩ (Nat.le_of_ble_eq_true rfl) dX12_test_8 rfl hn (fun r4 z5 hf => ?_)
  refine V_istore_n (ls2 := [(2, .int r4), (0, .ref a0), (1, .int x1)]) dX12_test_11 rfl (by decide) rfl ?_
  refine V_aload_n (j := 1) dX12_test_12 rfl rfl ?_
  refine V_bipush (v := (60 : Int32)) dX12_test_13 (by decide) ?_
  refine V_cVI (ctX12_hasSign hn hf) gc_X12_253 rfl h3.1 ⟨_, h3.2, by decide, rfl⟩ ⟨(by show 1 + 1 ≤ dd + 1; omega), (by show 64 * 1 + 19 + 3 ≤ 64 * (dd + 1); omega), Nat.zero_le _, Nat.zero_le _⟩ (Nat.le_of_ble_eq_true rfl) dX12_test_15 rfl hn (fun r6 z7 hf => ?_)
  refine V_if_ne (tgt := 30) dX12_test_18 (by decide) (fun h18 => ?_) (fun h18 => ?_)
  · have hf := it_f h18 hf
    refine V_to [1, 2, 0] rfl ?_
    exact vX12_test_J30 hn hrcX12_sums hdd hf
  · have hf := it_t (Classical.not_not.mp h18) hf
    refine V_aload_n (j := 1) dX12_test_21 rfl rfl ?_
    refine V_bipush (v := (61 : Int32)) dX12_test_22 (by decide) ?_
    refine V_cVI (ctX12_hasSign hn hf) gc_X12_253 rfl h3.1 ⟨_, h3.2, by decide, rfl⟩ ⟨(by show 1 + 1 ≤ dd + 1; omega), (by show 64 * 1 + 19 + 3 ≤ 64 * (dd + 1); omega), Nat.zero_le _, Nat.zero_le _⟩ (Nat.le_of_ble_eq_true rfl) dX12_test_24 rfl hn (fun r15 z16 hf => ?_)
    refine V_if_eq (tgt := 51) dX12_test_27 (by decide) (fun h17 => ?_) (fun h17 => ?_)
    · have hf := it_t h17 hf
      exact V_return dX12_test_51 rfl (Nat.le_refl 0) (kN_of hf)
    · have hf := it_f h17 hf
      refine V_to [1, 2, 0] rfl ?_
      exact vX12_test_J30 hn hrcX12_sums hdd hf
def wX12_whole_J57 (n : Nat) (sh : Nat → Nat × Nat) (rcX12_test : Nat → Int32 → gS → (gS → Prop) → Prop) (k5 : Nat → Int32 → gS → Prop) (P : gS → Prop) (a0 : Nat) (x1 : Int32) (s0 : Int32) (s1 : Nat) (z : gS) : Prop := (oO n sh s1 8) ∧ (wX12_emit n sh s1 s0 (0 : Int32) z (fun (z14 : gS) => k5 a0 x1 z14))
set_option maxRecDepth 100000 in
set_option maxHeartbeats 4000000 in
theorem vX12_whole_J57 {E : gE} {n : Nat} {sh : Nat → Nat × Nat} {P : gS → Prop} {rcX12_test : Nat → Int32 → gS → (gS → Prop) → Prop} {k5 : Nat → Int32 → gS → Prop} {a0 : Nat} {x1 : Int32} {s0 : Int32} {s1 : Nat} {z : gS} (hn : gOK E n) {dd : Nat} (hrcX12_test : ∀ (b0 : Nat) (b1 : Int32) (z : gS) (P : gS → Prop), rcX12_test b0 b1 z P → VM E dd 0 gyX12_test [.ref b0, .int b1] n sh z (kN n sh P)) (hdd : 9 ≤ dd) (hk5 : ∀ (a0 : Nat) (x1 : Int32) (z : gS), k5 a0 x1 z → V E (gR (dd + 1) 0) gyX12_whole 0 0 5 [(0, .ref a0), (1, .int x1)] [] n sh z (kN n sh P)) (hf : wX12_whole_J57 n sh rcX12_test k5 P a0 x1 s0 s1 z) : V E (gR (dd + 1) 0) gyX12_whole 0 0 57 [(0, .ref a0), (1, .int x1)] [.int s0, .ref s1] n sh z (kN n sh P) := by
  unfold wX12_whole_J57 at hf
  refine V_iconst (v := (0 : Int32)) dX12_whole_57 (by decide) ?_
  obtain ⟨h15, hf⟩ := hf
  refine V_cVN (ctX12_emit hn hf) gc_X12_240 rfl h15.1 ⟨_, h15.2, by decide, rfl⟩ ⟨(by show 0 + 1 ≤ dd + 1; omega), (by show 64 * 0 + 19 + 3 ≤ 64 * (dd + 1); omega), Nat.zero_le _, Nat.zero_le _⟩ (Nat.le_of_ble_eq_true rfl) dX12_whole_58 rfl hn (fun z14 hf => ?_)
  refine V_goto (tgt := 5) dX12_whole_61 (by decide) ?_
  exact hk5 _ _ _ hf
def wX12_whole_J23 (n : Nat) (sh : Nat → Nat × Nat) (rcX12_test : Nat → Int32 → gS → (gS → Prop) → Prop) (k5 : Nat → Int32 → gS → Prop) (P : gS → Prop) (a0 : Nat) (x1 : Int32) (z : gS) : Prop := (oO n sh a0 8) ∧ (wX12_isWord n sh a0 (20 : Int32) z (fun (r7 : Int32) (z8 : gS) => ∀ z10 : gS, z10 = si z8 a0 7 ((gi z8 a0 7) + (1 : Int32)) → (rcX12_test a0 x1 z10 (fun (z12 : gS) => if r7 = 0 then wX12_whole_J57 n sh rcX12_test k5 P a0 x1 (10 : Int32) a0 z12 else wX12_whole_J57 n sh rcX12_test k5 P a0 x1 (9 : Int32) a0 z12))))
set_option maxRecDepth 100000 in
set_option maxHeartbeats 4000000 in
theorem vX12_whole_J23 {E : gE} {n : Nat} {sh : Nat → Nat × Nat} {P : gS → Prop} {rcX12_test : Nat → Int32 → gS → (gS → Prop) → Prop} {k5 : Nat → Int32 → gS → Prop} {a0 : Nat} {x1 : Int32} {z : gS} (hn : gOK E n) {dd : Nat} (hrcX12_test : ∀ (b0 : Nat) (b1 : Int32) (z : gS) (P : gS → Prop), rcX12_test b0 b1 z P → VM E dd 0 gyX12_test [.ref b0, .int b1] n sh z (kN n sh P)) (hdd : 9 ≤ dd) (hk5 : ∀ (a0 : Nat) (x1 : Int32) (z : gS), k5 a0 x1 z → V E (gR (dd + 1) 0) gyX12_whole 0 0 5 [(0, .ref a0), (1, .int x1)] [] n sh z (kN n sh P)) (hf : wX12_whole_J23 n sh rcX12_test k5 P a0 x1 z) : V E (gR (dd + 1) 0) gyX12_whole 0 0 23 [(0, .ref a0), (1, .int x1)] [] n sh z (kN n sh P) := by
  unfold wX12_whole_J23 at hf
  refine V_aload_n (j := 0) dX12_whole_23 rfl rfl ?_
  refine V_bipush (v := (20 : Int32)) dX12_whole_24 (by decide) ?_
  obtain ⟨h9, hf⟩ := hf
  refine V_cVI (ctX12_isWord hn hf) gc_X12_168 rfl h9.1 ⟨_, h9.2, by decide, rfl⟩ ⟨(by show 0 + 1 ≤ dd + 1; omega), (by show 64 * 0 + 19 + 2 ≤ 64 * (dd + 1); omega), Nat.zero_le _, Nat.zero_le _⟩ (Nat.le_of_ble_eq_true rfl) dX12_whole_26 rfl hn (fun r7 z8 hf => ?_)
  refine V_istore_n (ls2 := [(2, .int r7), (0, .ref a0), (1, .int x1)]) dX12_whole_29 rfl (by decide) rfl ?_
  refine V_aload_n (j := 1) dX12_whole_30 rfl rfl ?_
  refine V_dup dX12_whole_31 rfl ?_
  refine V_getI fl_X12_156 rfl h9.1 h9.2 dX12_whole_32 ?_
  refine V_iconst (v := (1 : Int32)) dX12_whole_35 (by decide) ?_
  refine V_iadd dX12_whole_36 ?_
  refine V_putI fl_X12_156 rfl rfl rfl rfl h9.1 h9.2 dX12_whole_37 ?_
  refine V_nz (fun z10 ez10 => ?_)
  have hf := hf z10 ez10
  refine V_aload_n (j := 1) dX12_whole_40 rfl rfl ?_
  refine V_iload_n (j := 2) dX12_whole_41 rfl rfl ?_
  refine V_cVN (hrcX12_test _ _ _ _ hf) gc_X12_247 rfl h9.1 ⟨_, h9.2, by decide, rfl⟩ ⟨Nat.le_refl _, (by show 64 * dd + 19 + 3 ≤ 64 * (dd + 1); omega), Nat.zero_le _, Nat.zero_le _⟩ (Nat.le_of_ble_eq_true rfl) dX12_whole_42 rfl hn (fun z12 hf => ?_)
  refine V_aload_n (j := 1) dX12_whole_45 rfl rfl ?_
  refine V_iload_n (j := 0) dX12_whole_46 rfl rfl ?_
  refine V_if_eq (tgt := 55) dX12_whole_47 (by decide) (fun h16 => ?_) (fun h16 => ?_)
  · have hf := it_t h16 hf
    refine V_bipush (v := (10 : Int32)) dX12_whole_55 (by decide) ?_
    refine V_to [1, 2] rfl ?_
    exact vX12_whole_J57 hn hrcX12_test hdd hk5 hf
  · have hf := it_f h16 hf
    refine V_bipush (v := (9 : Int32)) dX12_whole_50 (by decide) ?_
    refine V_goto (tgt := 57) dX12_whole_52 (by decide) ?_
    refine V_to [1, 2] rfl ?_
    exact vX12_whole_J57 hn hrcX12_test hdd hk5 hf
def wX12_whole_B5 (n : Nat) (sh : Nat → Nat × Nat) (rcX12_test : Nat → Int32 → gS → (gS → Prop) → Prop) (k5 : Nat → Int32 → gS → Prop) (P : gS → Prop) (a0 : Nat) (x1 : Int32) (z : gS) : Prop := (oO n sh a0 8) ∧ (wX12_isWord n sh a0 (20 : Int32) z (fun (r4 : Int32) (z5 : gS) => if r4 = 0 then (wX12_isWord n sh a0 (21 : Int32) z5 (fun (r17 : Int32) (z18 : gS) => if r17 = 0 then P z18 else wX12_whole_J23 n sh rcX12_test k5 P a0 x1 z18)) else wX12_whole_J23 n sh rcX12_test k5 P a0 x1 z5))
def wX12_whole_L5 (n : Nat) (sh : Nat → Nat × Nat) (rcX12_test : Nat → Int32 → gS → (gS → Prop) → Prop) (P : gS → Prop) : Nat → Nat → Int32 → gS → Prop
  | 0, _, _, _ => False
  | N + 1, a0, x1, z => wX12_whole_B5 n sh rcX12_test (wX12_whole_L5 n sh rcX12_test P N) P a0 x1 z
set_option maxRecDepth 100000 in
set_option maxHeartbeats 4000000 in
theorem vX12_whole_B5 {E : gE} {n : Nat} {sh : Nat → Nat × Nat} {P : gS → Prop} {rcX12_test : Nat → Int32 → gS → (gS → Prop) → Prop} {k5 : Nat → Int32 → gS → Prop} {a0 : Nat} {x1 : Int32} {z : gS} (hn : gOK E n) {dd : Nat} (hrcX12_test : ∀ (b0 : Nat) (b1 : Int32) (z : gS) (P : gS → Prop), rcX12_test b0 b1 z P → VM E dd 0 gyX12_test [.ref b0, .int b1] n sh z (kN n sh P)) (hdd : 9 ≤ dd) (hk5 : ∀ (a0 : Nat) (x1 : Int32) (z : gS), k5 a0 x1 z → V E (gR (dd + 1) 0) gyX12_whole 0 0 5 [(0, .ref a0), (1, .int x1)] [] n sh z (kN n sh P)) (hf : wX12_whole_B5 n sh rcX12_test k5 P a0 x1 z) : V E (gR (dd + 1) 0) gyX12_whole 0 0 5 [(0, .ref a0), (1, .int x1)] [] n sh z (kN n sh P) := by
  unfold wX12_whole_B5 at hf
  refine V_aload_n (j := 0) dX12_whole_5 rfl rfl ?_
  refine V_bipush (v := (20 : Int32)) dX12_whole_6 (by decide) ?_
  obtain ⟨h6, hf⟩ := hf
  refine V_cVI (ctX12_isWord hn hf) gc_X12_168 rfl h6.1 ⟨_, h6.2, by decide, rfl⟩ ⟨(by show 0 + 1 ≤ dd + 1; omega), (by show 64 * 0 + 19 + 2 ≤ 64 * (dd + 1); omega), Nat.zero_le _, Nat.zero_le _⟩ (Nat.le_of_ble_eq_true rfl) dX12_whole_8 rfl hn (fun r4 z5 hf => ?_)
  refine V_if_ne (tgt := 23) dX12_whole_11 (by decide) (fun h20 => ?_) (fun h20 => ?_)
  · have hf := it_f h20 hf
    exact vX12_whole_J23 hn hrcX12_test hdd hk5 hf
  · have hf := it_t (Classical.not_not.mp h20) hf
    refine V_aload_n (j := 0) dX12_whole_14 rfl rfl ?_
    refine V_bipush (v := (21 : Int32)) dX12_whole_15 (by decide) ?_
    refine V_cVI (ctX12_isWord hn hf) gc_X12_168 rfl h6.1 ⟨_, h6.2, by decide, rfl⟩ ⟨(by show 0 + 1 ≤ dd + 1; omega), (by show 64 * 0 + 19 + 2 ≤ 64 * (dd + 1); omega), Nat.zero_le _, Nat.zero_le _⟩ (Nat.le_of_ble_eq_true rfl) dX12_whole_17 rfl hn (fun r17 z18 hf => ?_)
    refine V_if_eq (tgt := 64) dX12_whole_20 (by decide) (fun h19 => ?_) (fun h19 => ?_)
    · have hf := it_t h19 hf
      exact V_return dX12_whole_64 rfl (Nat.le_refl 0) (kN_of hf)
    · have hf := it_f h19 hf
      exact vX12_whole_J23 hn hrcX12_test hdd hk5 hf
set_option maxRecDepth 100000 in
set_option maxHeartbeats 4000000 in
theorem vX12_whole_L5 {E : gE} {n : Nat} {sh : Nat → Nat × Nat} {P : gS → Prop} {rcX12_test : Nat → Int32 → gS → (gS → Prop) → Prop} (hn : gOK E n) {dd : Nat} (hrcX12_test : ∀ (b0 : Nat) (b1 : Int32) (z : gS) (P : gS → Prop), rcX12_test b0 b1 z P → VM E dd 0 gyX12_test [.ref b0, .int b1] n sh z (kN n sh P)) (hdd : 9 ≤ dd) : ∀ (N : Nat) (a0 : Nat) (x1 : Int32) (z : gS), wX12_whole_L5 n sh rcX12_test P N a0 x1 z → V E (gR (dd + 1) 0) gyX12_whole 0 0 5 [(0, .ref a0), (1, .int x1)] [] n sh z (kN n sh P) := by
  intro N
  induction N with
  | zero => intro a0 x1 z hf; exact False.elim hf
  | succ N ih => intro a0 x1 z hf; exact vX12_whole_B5 hn hrcX12_test hdd ih hf
def wX12_whole (n : Nat) (sh : Nat → Nat × Nat) (rcX12_test : Nat → Int32 → gS → (gS → Prop) → Prop) (a0 : Nat) (x1 : Int32) (z : gS) (P : gS → Prop) : Prop := (oO n sh a0 8) ∧ (rcX12_test a0 x1 z (fun (z2 : gS) => (∃ N, wX12_whole_L5 n sh rcX12_test P N a0 x1 z2)))
set_option maxRecDepth 100000 in
set_option maxHeartbeats 4000000 in
theorem ctX12_whole {E : gE} {n : Nat} {sh : Nat → Nat × Nat} {rcX12_test : Nat → Int32 → gS → (gS → Prop) → Prop} {a0 : Nat} {x1 : Int32} {z : gS} {P : gS → Prop} (hn : gOK E n) {dd : Nat} (hrcX12_test : ∀ (b0 : Nat) (b1 : Int32) (z : gS) (P : gS → Prop), rcX12_test b0 b1 z P → VM E dd 0 gyX12_test [.ref b0, .int b1] n sh z (kN n sh P)) (hdd : 9 ≤ dd) (hf : wX12_whole n sh rcX12_test a0 x1 z P) : VM E (dd + 1) 0 gyX12_whole [.ref a0, .int x1] n sh z (kN n sh P) := by
  unfold wX12_whole at hf
  refine VM.of (by decide +kernel) (Nat.le_of_ble_eq_true rfl) (fun _ _ _ h => h.2.2) ?_
  show V E (gR (dd + 1) 0) gyX12_whole 0 0 0 [(0, .ref a0), (1, .int x1)] [] n sh z (kN n sh P)
  refine V_aload_n (j := 0) dX12_whole_0 rfl rfl ?_
  refine V_iload_n (j := 1) dX12_whole_1 rfl rfl ?_
  obtain ⟨h3, hf⟩ := hf
  refine V_cVN (hrcX12_test _ _ _ _ hf) gc_X12_247 rfl h3.1 ⟨_, h3.2, by decide, rfl⟩ ⟨Nat.le_refl _, (by show 64 * dd + 19 + 3 ≤ 64 * (dd + 1); omega), Nat.zero_le _, Nat.zero_le _⟩ (Nat.le_of_ble_eq_true rfl) dX12_whole_2 rfl hn (fun z2 hf => ?_)
  obtain ⟨N, hf⟩ := hf
  exact vX12_whole_L5 hn hrcX12_test hdd N _ _ _ hf
/-! the knot of the model's rule reader -/
def gTake (n : Nat) (sh : Nat → Nat × Nat) : Nat → Nat → Int32 → gS → (gS → Prop) → Prop
  | 0, _, _, _, _ => False
  | D + 1, a, x, z, P => wX12_takePart n sh (wX12_whole n sh (wX12_test n sh (wX12_sums n sh (wX12_products n sh (gTake n sh D))))) (gTake n sh D) a x z P
def wgX12_whole (n : Nat) (sh : Nat → Nat × Nat) (a : Nat) (x : Int32) (z : gS) (P : gS → Prop) : Prop := wX12_whole n sh (wX12_test n sh (wX12_sums n sh (wX12_products n sh (gTake n sh 7)))) a x z P
theorem gTake_up {E : gE} {n : Nat} {sh : Nat → Nat × Nat} (hn : gOK E n) {D e : Nat} (he : 13 ≤ e) (h : ∀ (a : Nat) (x : Int32) (z : gS) (P : gS → Prop), gTake n sh D a x z P → VM E (e - 4) 0 gyX12_takePart [.ref a, .int x] n sh z (kN n sh P)) : ∀ (a : Nat) (x : Int32) (z : gS) (P : gS → Prop), wX12_whole n sh (wX12_test n sh (wX12_sums n sh (wX12_products n sh (gTake n sh D)))) a x z P → VM E e 0 gyX12_whole [.ref a, .int x] n sh z (kN n sh P) := by
  obtain ⟨f, rfl⟩ : ∃ f, e = f + 4 := ⟨e - 4, by omega⟩
  rw [show f + 4 - 4 = f by omega] at h
  intro a x z P hf
  refine ctX12_whole (dd := f + 3) hn (fun a x z P hf => ?_) (by omega) hf
  refine ctX12_test (dd := f + 2) hn (fun a x z P hf => ?_) (by omega) hf
  refine ctX12_sums (dd := f + 1) hn (fun a x z P hf => ?_) (by omega) hf
  exact ctX12_products (dd := f) hn h (by omega) hf
theorem gTake_ok {E : gE} {n : Nat} {sh : Nat → Nat × Nat} (hn : gOK E n) : ∀ (D dd : Nat), 9 + 5 * D ≤ dd → ∀ (a : Nat) (x : Int32) (z : gS) (P : gS → Prop), gTake n sh D a x z P → VM E dd 0 gyX12_takePart [.ref a, .int x] n sh z (kN n sh P) := by
  intro D
  induction D with
  | zero => intro dd _ a x z P hf; exact False.elim hf
  | succ D ih =>
    intro dd hdd a x z P hf
    obtain ⟨e, rfl⟩ : ∃ e, dd = e + 1 := ⟨dd - 1, by omega⟩
    exact ctX12_takePart (dd := e) hn (gTake_up hn (by omega) (ih (e - 4) (by omega))) (ih e (by omega)) (by omega) hf
theorem ctgX12_whole {E : gE} {n : Nat} {sh : Nat → Nat × Nat} {a0 : Nat} {x1 : Int32} {z : gS} {P : gS → Prop} (hn : gOK E n) (hf : wgX12_whole n sh a0 x1 z P) : VM E 60 0 gyX12_whole [.ref a0, .int x1] n sh z (kN n sh P) := gTake_up hn (D := 7) (by omega) (gTake_ok hn 7 _ (by omega)) _ _ _ _ hf

def wX12_readOnce_J37 (n : Nat) (sh : Nat → Nat × Nat) (P : gS → Prop) (a0 : Nat) (x1 : Int32) (z : gS) : Prop := (oO n sh a0 8) ∧ (if (gi z a0 8) ≤ 0 then (∀ z5 : gS, z5 = si z a0 20 ((gi z a0 20) ||| ((1 : Int32) <<< (x1 &&& 31))) → (∀ z6 : gS, z6 = si z5 a0 7 ((gi z5 a0 7) + (1 : Int32)) → (if x1 = 0 then (wX12_readLight n sh a0 z6 (fun (z16 : gS) => P z16)) else (∃ t7 : Nat, gr z6 a0 10 = some t7 ∧ ((oA n sh t7 1) ∧ ((vp_in (64 : Int32) (sh t7).2) ∧ (∀ z10 : gS, z10 = si z6 t7 (64 : Int32).toNatClampNeg (gi z6 a0 13) → (wgX12_whole n sh a0 (0 : Int32) z10 (fun (z12 : gS) => wX12_emit n sh a0 (0 : Int32) (0 : Int32) z12 (fun (z14 : gS) => P z14)))))))))) else P z)
set_option maxRecDepth 100000 in
set_option maxHeartbeats 4000000 in
theorem vX12_readOnce_J37 {E : gE} {n : Nat} {sh : Nat → Nat × Nat} {P : gS → Prop} {a0 : Nat} {x1 : Int32} {z : gS} (hn : gOK E n) (hf : wX12_readOnce_J37 n sh P a0 x1 z) : V E (gR 61 0) gyX12_readOnce 0 0 37 [(0, .ref a0), (1, .int x1)] [] n sh z (kN n sh P) := by
  unfold wX12_readOnce_J37 at hf
  refine V_aload_n (j := 0) dX12_readOnce_37 rfl rfl ?_
  obtain ⟨h4, hf⟩ := hf
  refine V_getI fl_X12_159 rfl h4.1 h4.2 dX12_readOnce_38 ?_
  refine V_if_le (tgt := 45) dX12_readOnce_41 (by decide) (fun h18 => ?_) (fun h18 => ?_)
  · have hf := it_t h18 hf
    refine V_aload_n (j := 0) dX12_readOnce_45 rfl rfl ?_
    refine V_dup dX12_readOnce_46 rfl ?_
    refine V_getI fl_X12_208 rfl h4.1 h4.2 dX12_readOnce_47 ?_
    refine V_iconst (v := (1 : Int32)) dX12_readOnce_50 (by decide) ?_
    refine V_iload_n (j := 1) dX12_readOnce_51 rfl rfl ?_
    refine V_ishl dX12_readOnce_52 ?_
    refine V_ior dX12_readOnce_53 ?_
    refine V_putI fl_X12_208 rfl rfl rfl rfl h4.1 h4.2 dX12_readOnce_54 ?_
    refine V_nz (fun z5 ez5 => ?_)
    have hf := hf z5 ez5
    refine V_aload_n (j := 0) dX12_readOnce_57 rfl rfl ?_
    refine V_dup dX12_readOnce_58 rfl ?_
    refine V_getI fl_X12_156 rfl h4.1 h4.2 dX12_readOnce_59 ?_
    refine V_iconst (v := (1 : Int32)) dX12_readOnce_62 (by decide) ?_
    refine V_iadd dX12_readOnce_63 ?_
    refine V_putI fl_X12_156 rfl rfl rfl rfl h4.1 h4.2 dX12_readOnce_64 ?_
    refine V_nz (fun z6 ez6 => ?_)
    have hf := hf z6 ez6
    refine V_iload_n (j := 1) dX12_readOnce_67 rfl rfl ?_
    refine V_if_ne (tgt := 78) dX12_readOnce_68 (by decide) (fun h17 => ?_) (fun h17 => ?_)
    · have hf := it_f h17 hf
      refine V_aload_n (j := 0) dX12_readOnce_78 rfl rfl ?_
      obtain ⟨t7, et7, hf⟩ := hf
      refine V_getR fl_X12_89 rfl h4.1 h4.2 et7 dX12_readOnce_79 ?_
      refine V_bipush (v := (64 : Int32)) dX12_readOnce_82 (by decide) ?_
      refine V_aload_n (j := 0) dX12_readOnce_84 rfl rfl ?_
      refine V_getI fl_X12_205 rfl h4.1 h4.2 dX12_readOnce_85 ?_
      obtain ⟨h8, hf⟩ := hf
      obtain ⟨h9, hf⟩ := hf
      refine V_iast h8.1 h8.s h9 dX12_readOnce_88 ?_
      refine V_nz (fun z10 ez10 => ?_)
      have hf := hf z10 ez10
      refine V_aload_n (j := 0) dX12_readOnce_89 rfl rfl ?_
      refine V_iconst (v := (0 : Int32)) dX12_readOnce_90 (by decide) ?_
      refine V_cVN (ctgX12_whole hn hf) gc_X12_237 rfl h4.1 ⟨_, h4.2, by decide, rfl⟩ ⟨by decide, by decide, Nat.zero_le _, Nat.zero_le _⟩ (Nat.le_of_ble_eq_true rfl) dX12_readOnce_91 rfl hn (fun z12 hf => ?_)
      refine V_aload_n (j := 0) dX12_readOnce_94 rfl rfl ?_
      refine V_iconst (v := (0 : Int32)) dX12_readOnce_95 (by decide) ?_
      refine V_iconst (v := (0 : Int32)) dX12_readOnce_96 (by decide) ?_
      refine V_cVN (ctX12_emit hn hf) gc_X12_240 rfl h4.1 ⟨_, h4.2, by decide, rfl⟩ ⟨by decide, by decide, Nat.zero_le _, Nat.zero_le _⟩ (Nat.le_of_ble_eq_true rfl) dX12_readOnce_97 rfl hn (fun z14 hf => ?_)
      exact V_return dX12_readOnce_100 rfl (Nat.le_refl 0) (kN_of hf)
    · have hf := it_t (Classical.not_not.mp h17) hf
      refine V_aload_n (j := 0) dX12_readOnce_71 rfl rfl ?_
      refine V_cVN (ctX12_readLight hn hf) gc_X12_234 rfl h4.1 ⟨_, h4.2, by decide, rfl⟩ ⟨by decide, by decide, Nat.zero_le _, Nat.zero_le _⟩ (Nat.le_of_ble_eq_true rfl) dX12_readOnce_72 rfl hn (fun z16 hf => ?_)
      refine V_goto (tgt := 100) dX12_readOnce_75 (by decide) ?_
      exact V_return dX12_readOnce_100 rfl (Nat.le_refl 0) (kN_of hf)
  · have hf := it_f h18 hf
    exact V_return dX12_readOnce_44 rfl (Nat.le_refl 0) (kN_of hf)
def wX12_readOnce (n : Nat) (sh : Nat → Nat × Nat) (a0 : Nat) (z : gS) (P : gS → Prop) : Prop := (oO n sh a0 8) ∧ (wX12_wordHere n sh a0 (7 : Int32) (2 : Int32) z (fun (r1 : Int32) (z2 : gS) => if 0 ≤ r1 then (if (((gi z2 a0 20) >>> (r1 &&& 31)) &&& (1 : Int32)) = (1 : Int32) then (wX12_wrong n sh a0 (3 : Int32) z2 (fun (z20 : gS) => wX12_readOnce_J37 n sh P a0 r1 z20)) else wX12_readOnce_J37 n sh P a0 r1 z2) else (wX12_wrong n sh a0 (1 : Int32) z2 (fun (z23 : gS) => wX12_readOnce_J37 n sh P a0 r1 z23))))
set_option maxRecDepth 100000 in
set_option maxHeartbeats 4000000 in
theorem ctX12_readOnce {E : gE} {n : Nat} {sh : Nat → Nat × Nat} {a0 : Nat} {z : gS} {P : gS → Prop} (hn : gOK E n) (hf : wX12_readOnce n sh a0 z P) : VM E 61 0 gyX12_readOnce [.ref a0] n sh z (kN n sh P) := by
  unfold wX12_readOnce at hf
  refine VM.of (by decide +kernel) (Nat.le_of_ble_eq_true rfl) (fun _ _ _ h => h.2.2) ?_
  show V E (gR 61 0) gyX12_readOnce 0 0 0 [(0, .ref a0)] [] n sh z (kN n sh P)
  refine V_aload_n (j := 0) dX12_readOnce_0 rfl rfl ?_
  refine V_bipush (v := (7 : Int32)) dX12_readOnce_1 (by decide) ?_
  refine V_iconst (v := (2 : Int32)) dX12_readOnce_3 (by decide) ?_
  obtain ⟨h3, hf⟩ := hf
  refine V_cVI (ctX12_wordHere hn hf) gc_X12_181 rfl h3.1 ⟨_, h3.2, by decide, rfl⟩ ⟨by decide, by decide, Nat.zero_le _, Nat.zero_le _⟩ (Nat.le_of_ble_eq_true rfl) dX12_readOnce_4 rfl hn (fun r1 z2 hf => ?_)
  refine V_istore_n (ls2 := [(1, .int r1), (0, .ref a0)]) dX12_readOnce_7 rfl (by decide) rfl ?_
  refine V_iload_n (j := 0) dX12_readOnce_8 rfl rfl ?_
  refine V_if_ge (tgt := 20) dX12_readOnce_9 (by decide) (fun h24 => ?_) (fun h24 => ?_)
  · have hf := it_t h24 hf
    refine V_aload_n (j := 1) dX12_readOnce_20 rfl rfl ?_
    refine V_getI fl_X12_208 rfl h3.1 h3.2 dX12_readOnce_21 ?_
    refine V_iload_n (j := 0) dX12_readOnce_24 rfl rfl ?_
    refine V_ishr dX12_readOnce_25 ?_
    refine V_iconst (v := (1 : Int32)) dX12_readOnce_26 (by decide) ?_
    refine V_iand dX12_readOnce_27 ?_
    refine V_iconst (v := (1 : Int32)) dX12_readOnce_28 (by decide) ?_
    refine V_icmp_ne (tgt := 37) dX12_readOnce_29 (by decide) (fun h21 => ?_) (fun h21 => ?_)
    · have hf := it_f h21 hf
      refine V_to [1, 0] rfl ?_
      exact vX12_readOnce_J37 hn hf
    · have hf := it_t (Classical.not_not.mp h21) hf
      refine V_aload_n (j := 1) dX12_readOnce_32 rfl rfl ?_
      refine V_iconst (v := (3 : Int32)) dX12_readOnce_33 (by decide) ?_
      refine V_cVN (ctX12_wrong hn hf) gc_X12_165 rfl h3.1 ⟨_, h3.2, by decide, rfl⟩ ⟨by decide, by decide, Nat.zero_le _, Nat.zero_le _⟩ (Nat.le_of_ble_eq_true rfl) dX12_readOnce_34 rfl hn (fun z20 hf => ?_)
      refine V_to [1, 0] rfl ?_
      exact vX12_readOnce_J37 hn hf
  · have hf := it_f h24 hf
    refine V_aload_n (j := 1) dX12_readOnce_12 rfl rfl ?_
    refine V_iconst (v := (1 : Int32)) dX12_readOnce_13 (by decide) ?_
    refine V_cVN (ctX12_wrong hn hf) gc_X12_165 rfl h3.1 ⟨_, h3.2, by decide, rfl⟩ ⟨by decide, by decide, Nat.zero_le _, Nat.zero_le _⟩ (Nat.le_of_ble_eq_true rfl) dX12_readOnce_14 rfl hn (fun z23 hf => ?_)
    refine V_goto (tgt := 37) dX12_readOnce_17 (by decide) ?_
    refine V_to [1, 0] rfl ?_
    exact vX12_readOnce_J37 hn hf
def wX12_readLine_J119 (n : Nat) (sh : Nat → Nat × Nat) (P : gS → Prop) (z : gS) : Prop := P z
set_option maxRecDepth 100000 in
set_option maxHeartbeats 4000000 in
theorem vX12_readLine_J119 {E : gE} {n : Nat} {sh : Nat → Nat × Nat} {P : gS → Prop} {z : gS} (hn : gOK E n) (hf : wX12_readLine_J119 n sh P z) : V E (gR 62 0) gyX12_readLine 0 0 119 [] [] n sh z (kN n sh P) := by
  unfold wX12_readLine_J119 at hf
  refine V_goto (tgt := 126) dX12_readLine_119 (by decide) ?_
  exact V_return dX12_readLine_126 rfl (Nat.le_refl 0) (kN_of hf)
def wX12_readLine_J65 (n : Nat) (sh : Nat → Nat × Nat) (P : gS → Prop) (z : gS) : Prop := P z
set_option maxRecDepth 100000 in
set_option maxHeartbeats 4000000 in
theorem vX12_readLine_J65 {E : gE} {n : Nat} {sh : Nat → Nat × Nat} {P : gS → Prop} {z : gS} (hn : gOK E n) (hf : wX12_readLine_J65 n sh P z) : V E (gR 62 0) gyX12_readLine 0 0 65 [] [] n sh z (kN n sh P) := by
  unfold wX12_readLine_J65 at hf
  refine V_goto (tgt := 126) dX12_readLine_65 (by decide) ?_
  exact V_return dX12_readLine_126 rfl (Nat.le_refl 0) (kN_of hf)
def wX12_readLine (n : Nat) (sh : Nat → Nat × Nat) (a0 : Nat) (z : gS) (P : gS → Prop) : Prop := (oO n sh a0 8) ∧ (wX12_isWord n sh a0 (0 : Int32) z (fun (r1 : Int32) (z2 : gS) => if r1 = 0 then (wX12_isWord n sh a0 (3 : Int32) z2 (fun (r4 : Int32) (z5 : gS) => if r4 = 0 then (wX12_isWord n sh a0 (5 : Int32) z5 (fun (r6 : Int32) (z7 : gS) => if r6 = 0 then (wX12_readOnce n sh a0 z7 (fun (z9 : gS) => P z9)) else (∃ t10 : Nat, gr z7 a0 10 = some t10 ∧ ((oA n sh t10 1) ∧ ((vp_in (62 : Int32) (sh t10).2) ∧ (∀ v13 : Int32, v13 = ((88 : Int32) + (gi z7 t10 (62 : Int32).toNatClampNeg)) → (wX12_readName n sh a0 (2 : Int32) (5 : Int32) (40 : Int32) z7 (fun (z15 : gS) => wX12_takeAfter n sh a0 (6 : Int32) (0 : Int32) (99 : Int32) z15 (fun (r16 : Int32) (z17 : gS) => if (gi z17 a0 8) = 0 then (∃ t18 : Nat, gr z17 a0 10 = some t18 ∧ ((oA n sh t18 1) ∧ ((vp_in v13 (sh t18).2) ∧ (∀ z21 : gS, z21 = si z17 t18 v13.toNatClampNeg r16 → wX12_readLine_J119 n sh P  z21)))) else wX12_readLine_J119 n sh P  z17))))))))) else (∃ t24 : Nat, gr z5 a0 10 = some t24 ∧ ((oA n sh t24 1) ∧ ((vp_in (61 : Int32) (sh t24).2) ∧ (∀ v27 : Int32, v27 = ((83 : Int32) + (gi z5 t24 (61 : Int32).toNatClampNeg)) → (wX12_readName n sh a0 (1 : Int32) (5 : Int32) (20 : Int32) z5 (fun (z29 : gS) => wX12_takeAfter n sh a0 (4 : Int32) (0 : Int32) (9 : Int32) z29 (fun (r30 : Int32) (z31 : gS) => if (gi z31 a0 8) = 0 then (∃ t32 : Nat, gr z31 a0 10 = some t32 ∧ ((oA n sh t32 1) ∧ ((vp_in v27 (sh t32).2) ∧ (∀ z35 : gS, z35 = si z31 t32 v27.toNatClampNeg r30 → wX12_readLine_J65 n sh P  z35)))) else wX12_readLine_J65 n sh P  z31))))))))) else (wX12_readPane n sh a0 z2 (fun (z39 : gS) => P z39))))
set_option maxRecDepth 100000 in
set_option maxHeartbeats 4000000 in
theorem ctX12_readLine {E : gE} {n : Nat} {sh : Nat → Nat × Nat} {a0 : Nat} {z : gS} {P : gS → Prop} (hn : gOK E n) (hf : wX12_readLine n sh a0 z P) : VM E 62 0 gyX12_readLine [.ref a0] n sh z (kN n sh P) := by
  unfold wX12_readLine at hf
  refine VM.of (by decide +kernel) (Nat.le_of_ble_eq_true rfl) (fun _ _ _ h => h.2.2) ?_
  show V E (gR 62 0) gyX12_readLine 0 0 0 [(0, .ref a0)] [] n sh z (kN n sh P)
  refine V_aload_n (j := 0) dX12_readLine_0 rfl rfl ?_
  refine V_iconst (v := (0 : Int32)) dX12_readLine_1 (by decide) ?_
  obtain ⟨h3, hf⟩ := hf
  refine V_cVI (ctX12_isWord hn hf) gc_X12_168 rfl h3.1 ⟨_, h3.2, by decide, rfl⟩ ⟨by decide, by decide, Nat.zero_le _, Nat.zero_le _⟩ (Nat.le_of_ble_eq_true rfl) dX12_readLine_2 rfl hn (fun r1 z2 hf => ?_)
  refine V_if_eq (tgt := 15) dX12_readLine_5 (by decide) (fun h40 => ?_) (fun h40 => ?_)
  · have hf := it_t h40 hf
    refine V_aload_n (j := 0) dX12_readLine_15 rfl rfl ?_
    refine V_iconst (v := (3 : Int32)) dX12_readLine_16 (by decide) ?_
    refine V_cVI (ctX12_isWord hn hf) gc_X12_168 rfl h3.1 ⟨_, h3.2, by decide, rfl⟩ ⟨by decide, by decide, Nat.zero_le _, Nat.zero_le _⟩ (Nat.le_of_ble_eq_true rfl) dX12_readLine_17 rfl hn (fun r4 z5 hf => ?_)
    refine V_if_eq (tgt := 68) dX12_readLine_20 (by decide) (fun h37 => ?_) (fun h37 => ?_)
    · have hf := it_t h37 hf
      refine V_aload_n (j := 0) dX12_readLine_68 rfl rfl ?_
      refine V_iconst (v := (5 : Int32)) dX12_readLine_69 (by decide) ?_
      refine V_cVI (ctX12_isWord hn hf) gc_X12_168 rfl h3.1 ⟨_, h3.2, by decide, rfl⟩ ⟨by decide, by decide, Nat.zero_le _, Nat.zero_le _⟩ (Nat.le_of_ble_eq_true rfl) dX12_readLine_70 rfl hn (fun r6 z7 hf => ?_)
      refine V_if_eq (tgt := 122) dX12_readLine_73 (by decide) (fun h23 => ?_) (fun h23 => ?_)
      · have hf := it_t h23 hf
        refine V_aload_n (j := 0) dX12_readLine_122 rfl rfl ?_
        refine V_cVN (ctX12_readOnce hn hf) gc_X12_228 rfl h3.1 ⟨_, h3.2, by decide, rfl⟩ ⟨by decide, by decide, Nat.zero_le _, Nat.zero_le _⟩ (Nat.le_of_ble_eq_true rfl) dX12_readLine_123 rfl hn (fun z9 hf => ?_)
        exact V_return dX12_readLine_126 rfl (Nat.le_refl 0) (kN_of hf)
      · have hf := it_f h23 hf
        refine V_bipush (v := (88 : Int32)) dX12_readLine_76 (by decide) ?_
        refine V_aload_n (j := 0) dX12_readLine_78 rfl rfl ?_
        obtain ⟨t10, et10, hf⟩ := hf
        refine V_getR fl_X12_89 rfl h3.1 h3.2 et10 dX12_readLine_79 ?_
        refine V_bipush (v := (62 : Int32)) dX12_readLine_82 (by decide) ?_
        obtain ⟨h11, hf⟩ := hf
        obtain ⟨h12, hf⟩ := hf
        refine V_iald h11.1 h11.s h12 dX12_readLine_84 ?_
        refine V_iadd dX12_readLine_85 ?_
        refine V_nI (fun v13 ev13 => ?_)
        have hf := hf v13 ev13
        refine V_istore_n (ls2 := [(1, .int v13), (0, .ref a0)]) dX12_readLine_86 rfl (by decide) rfl ?_
        refine V_aload_n (j := 1) dX12_readLine_87 rfl rfl ?_
        refine V_iconst (v := (2 : Int32)) dX12_readLine_88 (by decide) ?_
        refine V_iconst (v := (5 : Int32)) dX12_readLine_89 (by decide) ?_
        refine V_bipush (v := (40 : Int32)) dX12_readLine_90 (by decide) ?_
        refine V_cVN (ctX12_readName hn hf) gc_X12_220 rfl h3.1 ⟨_, h3.2, by decide, rfl⟩ ⟨by decide, by decide, Nat.zero_le _, Nat.zero_le _⟩ (Nat.le_of_ble_eq_true rfl) dX12_readLine_92 rfl hn (fun z15 hf => ?_)
        refine V_aload_n (j := 1) dX12_readLine_95 rfl rfl ?_
        refine V_bipush (v := (6 : Int32)) dX12_readLine_96 (by decide) ?_
        refine V_iconst (v := (0 : Int32)) dX12_readLine_98 (by decide) ?_
        refine V_bipush (v := (99 : Int32)) dX12_readLine_99 (by decide) ?_
        refine V_cVI (ctX12_takeAfter hn hf) gc_X12_224 rfl h3.1 ⟨_, h3.2, by decide, rfl⟩ ⟨by decide, by decide, Nat.zero_le _, Nat.zero_le _⟩ (Nat.le_of_ble_eq_true rfl) dX12_readLine_101 rfl hn (fun r16 z17 hf => ?_)
        refine V_istore_n (ls2 := [(2, .int r16), (1, .int v13), (0, .ref a0)]) dX12_readLine_104 rfl (by decide) rfl ?_
        refine V_aload_n (j := 2) dX12_readLine_105 rfl rfl ?_
        refine V_getI fl_X12_159 rfl h3.1 h3.2 dX12_readLine_106 ?_
        refine V_if_ne (tgt := 119) dX12_readLine_109 (by decide) (fun h22 => ?_) (fun h22 => ?_)
        · have hf := it_f h22 hf
          refine V_to [] rfl ?_
          exact vX12_readLine_J119 hn hf
        · have hf := it_t (Classical.not_not.mp h22) hf
          refine V_aload_n (j := 2) dX12_readLine_112 rfl rfl ?_
          obtain ⟨t18, et18, hf⟩ := hf
          refine V_getR fl_X12_89 rfl h3.1 h3.2 et18 dX12_readLine_113 ?_
          refine V_iload_n (j := 1) dX12_readLine_116 rfl rfl ?_
          refine V_iload_n (j := 0) dX12_readLine_117 rfl rfl ?_
          obtain ⟨h19, hf⟩ := hf
          obtain ⟨h20, hf⟩ := hf
          refine V_iast h19.1 h19.s h20 dX12_readLine_118 ?_
          refine V_nz (fun z21 ez21 => ?_)
          have hf := hf z21 ez21
          refine V_to [] rfl ?_
          exact vX12_readLine_J119 hn hf
    · have hf := it_f h37 hf
      refine V_bipush (v := (83 : Int32)) dX12_readLine_23 (by decide) ?_
      refine V_aload_n (j := 0) dX12_readLine_25 rfl rfl ?_
      obtain ⟨t24, et24, hf⟩ := hf
      refine V_getR fl_X12_89 rfl h3.1 h3.2 et24 dX12_readLine_26 ?_
      refine V_bipush (v := (61 : Int32)) dX12_readLine_29 (by decide) ?_
      obtain ⟨h25, hf⟩ := hf
      obtain ⟨h26, hf⟩ := hf
      refine V_iald h25.1 h25.s h26 dX12_readLine_31 ?_
      refine V_iadd dX12_readLine_32 ?_
      refine V_nI (fun v27 ev27 => ?_)
      have hf := hf v27 ev27
      refine V_istore_n (ls2 := [(1, .int v27), (0, .ref a0)]) dX12_readLine_33 rfl (by decide) rfl ?_
      refine V_aload_n (j := 1) dX12_readLine_34 rfl rfl ?_
      refine V_iconst (v := (1 : Int32)) dX12_readLine_35 (by decide) ?_
      refine V_iconst (v := (5 : Int32)) dX12_readLine_36 (by decide) ?_
      refine V_bipush (v := (20 : Int32)) dX12_readLine_37 (by decide) ?_
      refine V_cVN (ctX12_readName hn hf) gc_X12_220 rfl h3.1 ⟨_, h3.2, by decide, rfl⟩ ⟨by decide, by decide, Nat.zero_le _, Nat.zero_le _⟩ (Nat.le_of_ble_eq_true rfl) dX12_readLine_39 rfl hn (fun z29 hf => ?_)
      refine V_aload_n (j := 1) dX12_readLine_42 rfl rfl ?_
      refine V_iconst (v := (4 : Int32)) dX12_readLine_43 (by decide) ?_
      refine V_iconst (v := (0 : Int32)) dX12_readLine_44 (by decide) ?_
      refine V_bipush (v := (9 : Int32)) dX12_readLine_45 (by decide) ?_
      refine V_cVI (ctX12_takeAfter hn hf) gc_X12_224 rfl h3.1 ⟨_, h3.2, by decide, rfl⟩ ⟨by decide, by decide, Nat.zero_le _, Nat.zero_le _⟩ (Nat.le_of_ble_eq_true rfl) dX12_readLine_47 rfl hn (fun r30 z31 hf => ?_)
      refine V_istore_n (ls2 := [(2, .int r30), (1, .int v27), (0, .ref a0)]) dX12_readLine_50 rfl (by decide) rfl ?_
      refine V_aload_n (j := 2) dX12_readLine_51 rfl rfl ?_
      refine V_getI fl_X12_159 rfl h3.1 h3.2 dX12_readLine_52 ?_
      refine V_if_ne (tgt := 65) dX12_readLine_55 (by decide) (fun h36 => ?_) (fun h36 => ?_)
      · have hf := it_f h36 hf
        refine V_to [] rfl ?_
        exact vX12_readLine_J65 hn hf
      · have hf := it_t (Classical.not_not.mp h36) hf
        refine V_aload_n (j := 2) dX12_readLine_58 rfl rfl ?_
        obtain ⟨t32, et32, hf⟩ := hf
        refine V_getR fl_X12_89 rfl h3.1 h3.2 et32 dX12_readLine_59 ?_
        refine V_iload_n (j := 1) dX12_readLine_62 rfl rfl ?_
        refine V_iload_n (j := 0) dX12_readLine_63 rfl rfl ?_
        obtain ⟨h33, hf⟩ := hf
        obtain ⟨h34, hf⟩ := hf
        refine V_iast h33.1 h33.s h34 dX12_readLine_64 ?_
        refine V_nz (fun z35 ez35 => ?_)
        have hf := hf z35 ez35
        refine V_to [] rfl ?_
        exact vX12_readLine_J65 hn hf
  · have hf := it_f h40 hf
    refine V_aload_n (j := 0) dX12_readLine_8 rfl rfl ?_
    refine V_cVN (ctX12_readPane hn hf) gc_X12_217 rfl h3.1 ⟨_, h3.2, by decide, rfl⟩ ⟨by decide, by decide, Nat.zero_le _, Nat.zero_le _⟩ (Nat.le_of_ble_eq_true rfl) dX12_readLine_9 rfl hn (fun z39 hf => ?_)
    refine V_goto (tgt := 126) dX12_readLine_12 (by decide) ?_
    exact V_return dX12_readLine_126 rfl (Nat.le_refl 0) (kN_of hf)
def wX12_people (n : Nat) (sh : Nat → Nat × Nat) (a0 : Nat) (z : gS) (P : Int32 → gS → Prop) : Prop := (oO n sh a0 8) ∧ (∃ t2 : Nat, gr z a0 10 = some t2 ∧ ((oA n sh t2 1) ∧ ((vp_in (1 : Int32) (sh t2).2) ∧ P (gi z t2 (1 : Int32).toNatClampNeg) z)))
set_option maxRecDepth 100000 in
set_option maxHeartbeats 4000000 in
theorem ctX12_people {E : gE} {n : Nat} {sh : Nat → Nat × Nat} {a0 : Nat} {z : gS} {P : Int32 → gS → Prop} (hn : gOK E n) (hf : wX12_people n sh a0 z P) : VM E 0 0 gyX12_people [.ref a0] n sh z (kI n sh P) := by
  unfold wX12_people at hf
  refine VM.of (by decide +kernel) (Nat.le_of_ble_eq_true rfl) (fun _ _ _ h => h.2.2) ?_
  show V E (gR 0 0) gyX12_people 0 0 0 [(0, .ref a0)] [] n sh z (kI n sh P)
  refine V_aload_n (j := 0) dX12_people_0 rfl rfl ?_
  obtain ⟨h1, hf⟩ := hf
  obtain ⟨t2, et2, hf⟩ := hf
  refine V_getR fl_X12_89 rfl h1.1 h1.2 et2 dX12_people_1 ?_
  refine V_iconst (v := (1 : Int32)) dX12_people_4 (by decide) ?_
  obtain ⟨h3, hf⟩ := hf
  obtain ⟨h4, hf⟩ := hf
  refine V_iald h3.1 h3.s h4 dX12_people_5 ?_
  exact V_ireturn dX12_people_6 rfl rfl (Nat.le_refl 0) (kI_of hf)
def wX12_starts_B25 (n : Nat) (sh : Nat → Nat × Nat) (k25 : Nat → Int32 → Int32 → gS → Prop) (P : gS → Prop) (a0 : Nat) (x1 : Int32) (x2 : Int32) (z : gS) : Prop := (oO n sh a0 8) ∧ (wX12_people n sh a0 z (fun (r1 : Int32) (z2 : gS) => if r1 ≤ x2 then P z2 else (∃ t4 : Nat, gr z2 a0 24 = some t4 ∧ (∃ t5 : Nat, gr z2 a0 10 = some t5 ∧ ((oA n sh t5 1) ∧ ((vp_in ((23 : Int32) + x2) (sh t5).2) ∧ ((oA n sh t4 1) ∧ ((vp_in ((x1 + (1 : Int32)) + x2) (sh t4).2) ∧ (∀ z10 : gS, z10 = si z2 t4 ((x1 + (1 : Int32)) + x2).toNatClampNeg (gi z2 t5 ((23 : Int32) + x2).toNatClampNeg) → (∀ v11 : Int32, v11 = x2 + (1 : Int32) → k25 a0 x1 v11 z10))))))))))
def wX12_starts_L25 (n : Nat) (sh : Nat → Nat × Nat) (P : gS → Prop) : Nat → Nat → Int32 → Int32 → gS → Prop
  | 0, _, _, _, _ => False
  | N + 1, a0, x1, x2, z => wX12_starts_B25 n sh (wX12_starts_L25 n sh P N) P a0 x1 x2 z
set_option maxRecDepth 100000 in
set_option maxHeartbeats 4000000 in
theorem vX12_starts_B25 {E : gE} {n : Nat} {sh : Nat → Nat × Nat} {P : gS → Prop} {k25 : Nat → Int32 → Int32 → gS → Prop} {a0 : Nat} {x1 : Int32} {x2 : Int32} {z : gS} (hn : gOK E n) (hk25 : ∀ (a0 : Nat) (x1 : Int32) (x2 : Int32) (z : gS), k25 a0 x1 x2 z → V E (gR 1 0) gyX12_starts 0 0 25 [(0, .ref a0), (1, .int x1), (2, .int x2)] [] n sh z (kN n sh P)) (hf : wX12_starts_B25 n sh k25 P a0 x1 x2 z) : V E (gR 1 0) gyX12_starts 0 0 25 [(0, .ref a0), (1, .int x1), (2, .int x2)] [] n sh z (kN n sh P) := by
  unfold wX12_starts_B25 at hf
  refine V_iload_n (j := 2) dX12_starts_25 rfl rfl ?_
  refine V_aload_n (j := 0) dX12_starts_26 rfl rfl ?_
  obtain ⟨h3, hf⟩ := hf
  refine V_cVI (ctX12_people hn hf) gc_X12_265 rfl h3.1 ⟨_, h3.2, by decide, rfl⟩ ⟨by decide, by decide, Nat.zero_le _, Nat.zero_le _⟩ (Nat.le_of_ble_eq_true rfl) dX12_starts_27 rfl hn (fun r1 z2 hf => ?_)
  refine V_icmp_ge (tgt := 58) dX12_starts_30 (by decide) (fun h12 => ?_) (fun h12 => ?_)
  · have hf := it_t h12 hf
    exact V_return dX12_starts_58 rfl (Nat.le_refl 0) (kN_of hf)
  · have hf := it_f h12 hf
    refine V_aload_n (j := 0) dX12_starts_33 rfl rfl ?_
    obtain ⟨t4, et4, hf⟩ := hf
    refine V_getR fl_X12_119 rfl h3.1 h3.2 et4 dX12_starts_34 ?_
    refine V_iload_n (j := 1) dX12_starts_37 rfl rfl ?_
    refine V_iconst (v := (1 : Int32)) dX12_starts_38 (by decide) ?_
    refine V_iadd dX12_starts_39 ?_
    refine V_iload_n (j := 2) dX12_starts_40 rfl rfl ?_
    refine V_iadd dX12_starts_41 ?_
    refine V_aload_n (j := 0) dX12_starts_42 rfl rfl ?_
    obtain ⟨t5, et5, hf⟩ := hf
    refine V_getR fl_X12_89 rfl h3.1 h3.2 et5 dX12_starts_43 ?_
    refine V_bipush (v := (23 : Int32)) dX12_starts_46 (by decide) ?_
    refine V_iload_n (j := 2) dX12_starts_48 rfl rfl ?_
    refine V_iadd dX12_starts_49 ?_
    obtain ⟨h6, hf⟩ := hf
    obtain ⟨h7, hf⟩ := hf
    refine V_iald h6.1 h6.s h7 dX12_starts_50 ?_
    obtain ⟨h8, hf⟩ := hf
    obtain ⟨h9, hf⟩ := hf
    refine V_iast h8.1 h8.s h9 dX12_starts_51 ?_
    refine V_nz (fun z10 ez10 => ?_)
    have hf := hf z10 ez10
    obtain ⟨v11, ev11⟩ : ∃ y : Int32, y = x2 + (1 : Int32) := ⟨_, rfl⟩
    refine V_iinc (j := 2) (v := v11) (ls2 := [(2, .int v11), (0, .ref a0), (1, .int x1)]) dX12_starts_52 rfl (by rw [ev11]; rfl) (by decide) rfl ?_
    have hf := hf v11 ev11
    refine V_goto (tgt := 25) dX12_starts_55 (by decide) ?_
    refine V_to [1, 2, 0] rfl ?_
    exact hk25 _ _ _ _ hf
set_option maxRecDepth 100000 in
set_option maxHeartbeats 4000000 in
theorem vX12_starts_L25 {E : gE} {n : Nat} {sh : Nat → Nat × Nat} {P : gS → Prop} (hn : gOK E n) : ∀ (N : Nat) (a0 : Nat) (x1 : Int32) (x2 : Int32) (z : gS), wX12_starts_L25 n sh P N a0 x1 x2 z → V E (gR 1 0) gyX12_starts 0 0 25 [(0, .ref a0), (1, .int x1), (2, .int x2)] [] n sh z (kN n sh P) := by
  intro N
  induction N with
  | zero => intro a0 x1 x2 z hf; exact False.elim hf
  | succ N ih => intro a0 x1 x2 z hf; exact vX12_starts_B25 hn ih hf
def wX12_starts_B2 (n : Nat) (sh : Nat → Nat × Nat) (k2 : Nat → Int32 → Int32 → gS → Prop) (P : gS → Prop) (a0 : Nat) (x1 : Int32) (x2 : Int32) (z : gS) : Prop := if (60 : Int32) ≤ x2 then ((∃ N, wX12_starts_L25 n sh P N a0 x1 (0 : Int32) z)) else ((oO n sh a0 8) ∧ (∃ t14 : Nat, gr z a0 24 = some t14 ∧ ((oA n sh t14 1) ∧ ((vp_in (x1 + x2) (sh t14).2) ∧ (∀ z17 : gS, z17 = si z t14 (x1 + x2).toNatClampNeg (0 : Int32) → (∀ v18 : Int32, v18 = x2 + (1 : Int32) → k2 a0 x1 v18 z17))))))
def wX12_starts_L2 (n : Nat) (sh : Nat → Nat × Nat) (P : gS → Prop) : Nat → Nat → Int32 → Int32 → gS → Prop
  | 0, _, _, _, _ => False
  | N + 1, a0, x1, x2, z => wX12_starts_B2 n sh (wX12_starts_L2 n sh P N) P a0 x1 x2 z
set_option maxRecDepth 100000 in
set_option maxHeartbeats 4000000 in
theorem vX12_starts_B2 {E : gE} {n : Nat} {sh : Nat → Nat × Nat} {P : gS → Prop} {k2 : Nat → Int32 → Int32 → gS → Prop} {a0 : Nat} {x1 : Int32} {x2 : Int32} {z : gS} (hn : gOK E n) (hk2 : ∀ (a0 : Nat) (x1 : Int32) (x2 : Int32) (z : gS), k2 a0 x1 x2 z → V E (gR 1 0) gyX12_starts 0 0 2 [(0, .ref a0), (1, .int x1), (2, .int x2)] [] n sh z (kN n sh P)) (hf : wX12_starts_B2 n sh k2 P a0 x1 x2 z) : V E (gR 1 0) gyX12_starts 0 0 2 [(0, .ref a0), (1, .int x1), (2, .int x2)] [] n sh z (kN n sh P) := by
  unfold wX12_starts_B2 at hf
  refine V_iload_n (j := 2) dX12_starts_2 rfl rfl ?_
  refine V_bipush (v := (60 : Int32)) dX12_starts_3 (by decide) ?_
  refine V_icmp_ge (tgt := 23) dX12_starts_5 (by decide) (fun h19 => ?_) (fun h19 => ?_)
  · have hf := it_t h19 hf
    refine V_iconst (v := (0 : Int32)) dX12_starts_23 (by decide) ?_
    refine V_istore_n (ls2 := [(2, .int (0 : Int32)), (0, .ref a0), (1, .int x1)]) dX12_starts_24 rfl (by decide) rfl ?_
    obtain ⟨N, hf⟩ := hf
    refine V_to [1, 2, 0] rfl ?_
    exact vX12_starts_L25 hn N _ _ _ _ hf
  · have hf := it_f h19 hf
    refine V_aload_n (j := 0) dX12_starts_8 rfl rfl ?_
    obtain ⟨h13, hf⟩ := hf
    obtain ⟨t14, et14, hf⟩ := hf
    refine V_getR fl_X12_119 rfl h13.1 h13.2 et14 dX12_starts_9 ?_
    refine V_iload_n (j := 1) dX12_starts_12 rfl rfl ?_
    refine V_iload_n (j := 2) dX12_starts_13 rfl rfl ?_
    refine V_iadd dX12_starts_14 ?_
    refine V_iconst (v := (0 : Int32)) dX12_starts_15 (by decide) ?_
    obtain ⟨h15, hf⟩ := hf
    obtain ⟨h16, hf⟩ := hf
    refine V_iast h15.1 h15.s h16 dX12_starts_16 ?_
    refine V_nz (fun z17 ez17 => ?_)
    have hf := hf z17 ez17
    obtain ⟨v18, ev18⟩ : ∃ y : Int32, y = x2 + (1 : Int32) := ⟨_, rfl⟩
    refine V_iinc (j := 2) (v := v18) (ls2 := [(2, .int v18), (0, .ref a0), (1, .int x1)]) dX12_starts_17 rfl (by rw [ev18]; rfl) (by decide) rfl ?_
    have hf := hf v18 ev18
    refine V_goto (tgt := 2) dX12_starts_20 (by decide) ?_
    refine V_to [1, 2, 0] rfl ?_
    exact hk2 _ _ _ _ hf
set_option maxRecDepth 100000 in
set_option maxHeartbeats 4000000 in
theorem vX12_starts_L2 {E : gE} {n : Nat} {sh : Nat → Nat × Nat} {P : gS → Prop} (hn : gOK E n) : ∀ (N : Nat) (a0 : Nat) (x1 : Int32) (x2 : Int32) (z : gS), wX12_starts_L2 n sh P N a0 x1 x2 z → V E (gR 1 0) gyX12_starts 0 0 2 [(0, .ref a0), (1, .int x1), (2, .int x2)] [] n sh z (kN n sh P) := by
  intro N
  induction N with
  | zero => intro a0 x1 x2 z hf; exact False.elim hf
  | succ N ih => intro a0 x1 x2 z hf; exact vX12_starts_B2 hn ih hf
def wX12_starts (n : Nat) (sh : Nat → Nat × Nat) (a0 : Nat) (x1 : Int32) (z : gS) (P : gS → Prop) : Prop := (∃ N, wX12_starts_L2 n sh P N a0 x1 (0 : Int32) z)
set_option maxRecDepth 100000 in
set_option maxHeartbeats 4000000 in
theorem ctX12_starts {E : gE} {n : Nat} {sh : Nat → Nat × Nat} {a0 : Nat} {x1 : Int32} {z : gS} {P : gS → Prop} (hn : gOK E n) (hf : wX12_starts n sh a0 x1 z P) : VM E 1 0 gyX12_starts [.ref a0, .int x1] n sh z (kN n sh P) := by
  unfold wX12_starts at hf
  refine VM.of (by decide +kernel) (Nat.le_of_ble_eq_true rfl) (fun _ _ _ h => h.2.2) ?_
  show V E (gR 1 0) gyX12_starts 0 0 0 [(0, .ref a0), (1, .int x1)] [] n sh z (kN n sh P)
  refine V_iconst (v := (0 : Int32)) dX12_starts_0 (by decide) ?_
  refine V_istore_n (ls2 := [(2, .int (0 : Int32)), (0, .ref a0), (1, .int x1)]) dX12_starts_1 rfl (by decide) rfl ?_
  obtain ⟨N, hf⟩ := hf
  refine V_to [1, 2, 0] rfl ?_
  exact vX12_starts_L2 hn N _ _ _ _ hf
def wX12_begins_B43 (n : Nat) (sh : Nat → Nat × Nat) (k43 : Nat → Int32 → gS → Prop) (P : gS → Prop) (a0 : Nat) (x1 : Int32) (z : gS) : Prop := if (4 : Int32) ≤ x1 then P z else ((oO n sh a0 8) ∧ (∃ t11 : Nat, gr z a0 26 = some t11 ∧ ((oA n sh t11 4) ∧ ((vp_in x1 (sh t11).2) ∧ (∀ z14 : gS, z14 = si z t11 x1.toNatClampNeg (vp_nar .boolean (0 : Int32)) → (∀ v15 : Int32, v15 = x1 + (1 : Int32) → k43 a0 v15 z14))))))
def wX12_begins_L43 (n : Nat) (sh : Nat → Nat × Nat) (P : gS → Prop) : Nat → Nat → Int32 → gS → Prop
  | 0, _, _, _ => False
  | N + 1, a0, x1, z => wX12_begins_B43 n sh (wX12_begins_L43 n sh P N) P a0 x1 z
set_option maxRecDepth 100000 in
set_option maxHeartbeats 4000000 in
theorem vX12_begins_B43 {E : gE} {n : Nat} {sh : Nat → Nat × Nat} {P : gS → Prop} {k43 : Nat → Int32 → gS → Prop} {a0 : Nat} {x1 : Int32} {z : gS} (hn : gOK E n) (hk43 : ∀ (a0 : Nat) (x1 : Int32) (z : gS), k43 a0 x1 z → V E (gR 2 0) gyX12_begins 0 0 43 [(0, .ref a0), (1, .int x1)] [] n sh z (kN n sh P)) (hf : wX12_begins_B43 n sh k43 P a0 x1 z) : V E (gR 2 0) gyX12_begins 0 0 43 [(0, .ref a0), (1, .int x1)] [] n sh z (kN n sh P) := by
  unfold wX12_begins_B43 at hf
  refine V_iload_n (j := 1) dX12_begins_43 rfl rfl ?_
  refine V_iconst (v := (4 : Int32)) dX12_begins_44 (by decide) ?_
  refine V_icmp_ge (tgt := 61) dX12_begins_45 (by decide) (fun h16 => ?_) (fun h16 => ?_)
  · have hf := it_t h16 hf
    exact V_return dX12_begins_61 rfl (Nat.le_refl 0) (kN_of hf)
  · have hf := it_f h16 hf
    refine V_aload_n (j := 0) dX12_begins_48 rfl rfl ?_
    obtain ⟨h10, hf⟩ := hf
    obtain ⟨t11, et11, hf⟩ := hf
    refine V_getR fl_X12_122 rfl h10.1 h10.2 et11 dX12_begins_49 ?_
    refine V_iload_n (j := 1) dX12_begins_52 rfl rfl ?_
    refine V_iconst (v := (0 : Int32)) dX12_begins_53 (by decide) ?_
    obtain ⟨h12, hf⟩ := hf
    obtain ⟨h13, hf⟩ := hf
    refine V_zast h12.1 h12.s h13 dX12_begins_54 ?_
    refine V_nz (fun z14 ez14 => ?_)
    have hf := hf z14 ez14
    obtain ⟨v15, ev15⟩ : ∃ y : Int32, y = x1 + (1 : Int32) := ⟨_, rfl⟩
    refine V_iinc (j := 1) (v := v15) (ls2 := [(1, .int v15), (0, .ref a0)]) dX12_begins_55 rfl (by rw [ev15]; rfl) (by decide) rfl ?_
    have hf := hf v15 ev15
    refine V_goto (tgt := 43) dX12_begins_58 (by decide) ?_
    refine V_to [1, 0] rfl ?_
    exact hk43 _ _ _ hf
set_option maxRecDepth 100000 in
set_option maxHeartbeats 4000000 in
theorem vX12_begins_L43 {E : gE} {n : Nat} {sh : Nat → Nat × Nat} {P : gS → Prop} (hn : gOK E n) : ∀ (N : Nat) (a0 : Nat) (x1 : Int32) (z : gS), wX12_begins_L43 n sh P N a0 x1 z → V E (gR 2 0) gyX12_begins 0 0 43 [(0, .ref a0), (1, .int x1)] [] n sh z (kN n sh P) := by
  intro N
  induction N with
  | zero => intro a0 x1 z hf; exact False.elim hf
  | succ N ih => intro a0 x1 z hf; exact vX12_begins_B43 hn ih hf
def wX12_begins_B7 (n : Nat) (sh : Nat → Nat × Nat) (k7 : Nat → Int32 → gS → Prop) (P : gS → Prop) (a0 : Nat) (x1 : Int32) (z : gS) : Prop := if (6 : Int32) ≤ x1 then ((oO n sh a0 8) ∧ (∃ t5 : Nat, gr z a0 21 = some t5 ∧ ((oA n sh t5 1) ∧ ((vp_in (0 : Int32) (sh t5).2) ∧ (∀ z8 : gS, z8 = si z t5 (0 : Int32).toNatClampNeg (0 : Int32) → (∀ z9 : gS, z9 = si z8 a0 25 (0 : Int32) → ((∃ N, wX12_begins_L43 n sh P N a0 (0 : Int32) z9)))))))) else ((oO n sh a0 8) ∧ (∃ t18 : Nat, gr z a0 24 = some t18 ∧ ((oA n sh t18 1) ∧ ((vp_in ((60 : Int32) + x1) (sh t18).2) ∧ (∀ z21 : gS, z21 = si z t18 ((60 : Int32) + x1).toNatClampNeg (-1 : Int32) → (∀ v22 : Int32, v22 = x1 + (1 : Int32) → k7 a0 v22 z21))))))
def wX12_begins_L7 (n : Nat) (sh : Nat → Nat × Nat) (P : gS → Prop) : Nat → Nat → Int32 → gS → Prop
  | 0, _, _, _ => False
  | N + 1, a0, x1, z => wX12_begins_B7 n sh (wX12_begins_L7 n sh P N) P a0 x1 z
set_option maxRecDepth 100000 in
set_option maxHeartbeats 4000000 in
theorem vX12_begins_B7 {E : gE} {n : Nat} {sh : Nat → Nat × Nat} {P : gS → Prop} {k7 : Nat → Int32 → gS → Prop} {a0 : Nat} {x1 : Int32} {z : gS} (hn : gOK E n) (hk7 : ∀ (a0 : Nat) (x1 : Int32) (z : gS), k7 a0 x1 z → V E (gR 2 0) gyX12_begins 0 0 7 [(0, .ref a0), (1, .int x1)] [] n sh z (kN n sh P)) (hf : wX12_begins_B7 n sh k7 P a0 x1 z) : V E (gR 2 0) gyX12_begins 0 0 7 [(0, .ref a0), (1, .int x1)] [] n sh z (kN n sh P) := by
  unfold wX12_begins_B7 at hf
  refine V_iload_n (j := 1) dX12_begins_7 rfl rfl ?_
  refine V_bipush (v := (6 : Int32)) dX12_begins_8 (by decide) ?_
  refine V_icmp_ge (tgt := 29) dX12_begins_10 (by decide) (fun h23 => ?_) (fun h23 => ?_)
  · have hf := it_t h23 hf
    refine V_aload_n (j := 0) dX12_begins_29 rfl rfl ?_
    obtain ⟨h4, hf⟩ := hf
    obtain ⟨t5, et5, hf⟩ := hf
    refine V_getR fl_X12_110 rfl h4.1 h4.2 et5 dX12_begins_30 ?_
    refine V_iconst (v := (0 : Int32)) dX12_begins_33 (by decide) ?_
    refine V_iconst (v := (0 : Int32)) dX12_begins_34 (by decide) ?_
    obtain ⟨h6, hf⟩ := hf
    obtain ⟨h7, hf⟩ := hf
    refine V_iast h6.1 h6.s h7 dX12_begins_35 ?_
    refine V_nz (fun z8 ez8 => ?_)
    have hf := hf z8 ez8
    refine V_aload_n (j := 0) dX12_begins_36 rfl rfl ?_
    refine V_iconst (v := (0 : Int32)) dX12_begins_37 (by decide) ?_
    refine V_putI fl_X12_272 rfl rfl rfl rfl h4.1 h4.2 dX12_begins_38 ?_
    refine V_nz (fun z9 ez9 => ?_)
    have hf := hf z9 ez9
    refine V_iconst (v := (0 : Int32)) dX12_begins_41 (by decide) ?_
    refine V_istore_n (ls2 := [(1, .int (0 : Int32)), (0, .ref a0)]) dX12_begins_42 rfl (by decide) rfl ?_
    obtain ⟨N, hf⟩ := hf
    refine V_to [1, 0] rfl ?_
    exact vX12_begins_L43 hn N _ _ _ hf
  · have hf := it_f h23 hf
    refine V_aload_n (j := 0) dX12_begins_13 rfl rfl ?_
    obtain ⟨h17, hf⟩ := hf
    obtain ⟨t18, et18, hf⟩ := hf
    refine V_getR fl_X12_119 rfl h17.1 h17.2 et18 dX12_begins_14 ?_
    refine V_bipush (v := (60 : Int32)) dX12_begins_17 (by decide) ?_
    refine V_iload_n (j := 1) dX12_begins_19 rfl rfl ?_
    refine V_iadd dX12_begins_20 ?_
    refine V_iconst (v := (-1 : Int32)) dX12_begins_21 (by decide) ?_
    obtain ⟨h19, hf⟩ := hf
    obtain ⟨h20, hf⟩ := hf
    refine V_iast h19.1 h19.s h20 dX12_begins_22 ?_
    refine V_nz (fun z21 ez21 => ?_)
    have hf := hf z21 ez21
    obtain ⟨v22, ev22⟩ : ∃ y : Int32, y = x1 + (1 : Int32) := ⟨_, rfl⟩
    refine V_iinc (j := 1) (v := v22) (ls2 := [(1, .int v22), (0, .ref a0)]) dX12_begins_23 rfl (by rw [ev22]; rfl) (by decide) rfl ?_
    have hf := hf v22 ev22
    refine V_goto (tgt := 7) dX12_begins_26 (by decide) ?_
    refine V_to [1, 0] rfl ?_
    exact hk7 _ _ _ hf
set_option maxRecDepth 100000 in
set_option maxHeartbeats 4000000 in
theorem vX12_begins_L7 {E : gE} {n : Nat} {sh : Nat → Nat × Nat} {P : gS → Prop} (hn : gOK E n) : ∀ (N : Nat) (a0 : Nat) (x1 : Int32) (z : gS), wX12_begins_L7 n sh P N a0 x1 z → V E (gR 2 0) gyX12_begins 0 0 7 [(0, .ref a0), (1, .int x1)] [] n sh z (kN n sh P) := by
  intro N
  induction N with
  | zero => intro a0 x1 z hf; exact False.elim hf
  | succ N ih => intro a0 x1 z hf; exact vX12_begins_B7 hn ih hf
def wX12_begins (n : Nat) (sh : Nat → Nat × Nat) (a0 : Nat) (z : gS) (P : gS → Prop) : Prop := (oO n sh a0 8) ∧ (wX12_starts n sh a0 (0 : Int32) z (fun (z2 : gS) => (∃ N, wX12_begins_L7 n sh P N a0 (0 : Int32) z2)))
set_option maxRecDepth 100000 in
set_option maxHeartbeats 4000000 in
theorem ctX12_begins {E : gE} {n : Nat} {sh : Nat → Nat × Nat} {a0 : Nat} {z : gS} {P : gS → Prop} (hn : gOK E n) (hf : wX12_begins n sh a0 z P) : VM E 2 0 gyX12_begins [.ref a0] n sh z (kN n sh P) := by
  unfold wX12_begins at hf
  refine VM.of (by decide +kernel) (Nat.le_of_ble_eq_true rfl) (fun _ _ _ h => h.2.2) ?_
  show V E (gR 2 0) gyX12_begins 0 0 0 [(0, .ref a0)] [] n sh z (kN n sh P)
  refine V_aload_n (j := 0) dX12_begins_0 rfl rfl ?_
  refine V_iconst (v := (0 : Int32)) dX12_begins_1 (by decide) ?_
  obtain ⟨h3, hf⟩ := hf
  refine V_cVN (ctX12_starts hn hf) gc_X12_269 rfl h3.1 ⟨_, h3.2, by decide, rfl⟩ ⟨by decide, by decide, Nat.zero_le _, Nat.zero_le _⟩ (Nat.le_of_ble_eq_true rfl) dX12_begins_2 rfl hn (fun z2 hf => ?_)
  refine V_iconst (v := (0 : Int32)) dX12_begins_5 (by decide) ?_
  refine V_istore_n (ls2 := [(1, .int (0 : Int32)), (0, .ref a0)]) dX12_begins_6 rfl (by decide) rfl ?_
  obtain ⟨N, hf⟩ := hf
  refine V_to [1, 0] rfl ?_
  exact vX12_begins_L7 hn N _ _ _ hf
def wX12_street_B153 (n : Nat) (sh : Nat → Nat × Nat) (k153 : Nat → Int32 → gS → Prop) (P : Int32 → gS → Prop) (a0 : Nat) (x1 : Int32) (z : gS) : Prop := (oO n sh a0 8) ∧ (if (gi z a0 19) ≤ x1 then (∀ z14 : gS, z14 = si z a0 18 (gi z a0 19) → (wX12_begins n sh a0 z14 (fun (z16 : gS) => P (0 : Int32) z16))) else (∃ t17 : Nat, gr z a0 14 = some t17 ∧ (∃ t18 : Nat, gr z a0 15 = some t18 ∧ ((oA n sh t18 2) ∧ ((vp_in x1 (sh t18).2) ∧ ((oA n sh t17 2) ∧ ((vp_in x1 (sh t17).2) ∧ (∀ z23 : gS, z23 = sl z t17 x1.toNatClampNeg (gl z t18 x1.toNatClampNeg) → (∃ t24 : Nat, gr z23 a0 16 = some t24 ∧ (∃ t25 : Nat, gr z23 a0 17 = some t25 ∧ ((oA n sh t25 1) ∧ ((vp_in x1 (sh t25).2) ∧ ((oA n sh t24 1) ∧ ((vp_in x1 (sh t24).2) ∧ (∀ z30 : gS, z30 = si z23 t24 x1.toNatClampNeg (gi z23 t25 x1.toNatClampNeg) → (∀ v31 : Int32, v31 = x1 + (1 : Int32) → k153 a0 v31 z30))))))))))))))))
def wX12_street_L153 (n : Nat) (sh : Nat → Nat × Nat) (P : Int32 → gS → Prop) : Nat → Nat → Int32 → gS → Prop
  | 0, _, _, _ => False
  | N + 1, a0, x1, z => wX12_street_B153 n sh (wX12_street_L153 n sh P N) P a0 x1 z
set_option maxRecDepth 100000 in
set_option maxHeartbeats 4000000 in
theorem vX12_street_B153 {E : gE} {n : Nat} {sh : Nat → Nat × Nat} {P : Int32 → gS → Prop} {k153 : Nat → Int32 → gS → Prop} {a0 : Nat} {x1 : Int32} {z : gS} (hn : gOK E n) (hk153 : ∀ (a0 : Nat) (x1 : Int32) (z : gS), k153 a0 x1 z → V E (gR 63 0) gyX12_street 0 0 153 [(0, .ref a0), (1, .int x1)] [] n sh z (kI n sh P)) (hf : wX12_street_B153 n sh k153 P a0 x1 z) : V E (gR 63 0) gyX12_street 0 0 153 [(0, .ref a0), (1, .int x1)] [] n sh z (kI n sh P) := by
  unfold wX12_street_B153 at hf
  refine V_iload_n (j := 1) dX12_street_153 rfl rfl ?_
  refine V_aload_n (j := 0) dX12_street_154 rfl rfl ?_
  obtain ⟨h13, hf⟩ := hf
  refine V_getI fl_X12_184 rfl h13.1 h13.2 dX12_street_155 ?_
  refine V_icmp_ge (tgt := 191) dX12_street_158 (by decide) (fun h32 => ?_) (fun h32 => ?_)
  · have hf := it_t h32 hf
    refine V_aload_n (j := 0) dX12_street_191 rfl rfl ?_
    refine V_aload_n (j := 0) dX12_street_192 rfl rfl ?_
    refine V_getI fl_X12_184 rfl h13.1 h13.2 dX12_street_193 ?_
    refine V_putI fl_X12_187 rfl rfl rfl rfl h13.1 h13.2 dX12_street_196 ?_
    refine V_nz (fun z14 ez14 => ?_)
    have hf := hf z14 ez14
    refine V_aload_n (j := 0) dX12_street_199 rfl rfl ?_
    refine V_cVN (ctX12_begins hn hf) gc_X12_130 rfl h13.1 ⟨_, h13.2, by decide, rfl⟩ ⟨by decide, by decide, Nat.zero_le _, Nat.zero_le _⟩ (Nat.le_of_ble_eq_true rfl) dX12_street_200 rfl hn (fun z16 hf => ?_)
    refine V_iconst (v := (0 : Int32)) dX12_street_203 (by decide) ?_
    exact V_ireturn dX12_street_204 rfl rfl (Nat.le_refl 0) (kI_of hf)
  · have hf := it_f h32 hf
    refine V_aload_n (j := 0) dX12_street_161 rfl rfl ?_
    obtain ⟨t17, et17, hf⟩ := hf
    refine V_getR fl_X12_98 rfl h13.1 h13.2 et17 dX12_street_162 ?_
    refine V_iload_n (j := 1) dX12_street_165 rfl rfl ?_
    refine V_aload_n (j := 0) dX12_street_166 rfl rfl ?_
    obtain ⟨t18, et18, hf⟩ := hf
    refine V_getR fl_X12_101 rfl h13.1 h13.2 et18 dX12_street_167 ?_
    refine V_iload_n (j := 1) dX12_street_170 rfl rfl ?_
    obtain ⟨h19, hf⟩ := hf
    obtain ⟨h20, hf⟩ := hf
    refine V_lald h19.1 h19.s h20 dX12_street_171 ?_
    obtain ⟨h21, hf⟩ := hf
    obtain ⟨h22, hf⟩ := hf
    refine V_last h21.1 h21.s h22 dX12_street_172 ?_
    refine V_nz (fun z23 ez23 => ?_)
    have hf := hf z23 ez23
    refine V_aload_n (j := 0) dX12_street_173 rfl rfl ?_
    obtain ⟨t24, et24, hf⟩ := hf
    refine V_getR fl_X12_104 rfl h13.1 h13.2 et24 dX12_street_174 ?_
    refine V_iload_n (j := 1) dX12_street_177 rfl rfl ?_
    refine V_aload_n (j := 0) dX12_street_178 rfl rfl ?_
    obtain ⟨t25, et25, hf⟩ := hf
    refine V_getR fl_X12_107 rfl h13.1 h13.2 et25 dX12_street_179 ?_
    refine V_iload_n (j := 1) dX12_street_182 rfl rfl ?_
    obtain ⟨h26, hf⟩ := hf
    obtain ⟨h27, hf⟩ := hf
    refine V_iald h26.1 h26.s h27 dX12_street_183 ?_
    obtain ⟨h28, hf⟩ := hf
    obtain ⟨h29, hf⟩ := hf
    refine V_iast h28.1 h28.s h29 dX12_street_184 ?_
    refine V_nz (fun z30 ez30 => ?_)
    have hf := hf z30 ez30
    obtain ⟨v31, ev31⟩ : ∃ y : Int32, y = x1 + (1 : Int32) := ⟨_, rfl⟩
    refine V_iinc (j := 1) (v := v31) (ls2 := [(1, .int v31), (0, .ref a0)]) dX12_street_185 rfl (by rw [ev31]; rfl) (by decide) rfl ?_
    have hf := hf v31 ev31
    refine V_goto (tgt := 153) dX12_street_188 (by decide) ?_
    refine V_to [1, 0] rfl ?_
    exact hk153 _ _ _ hf
set_option maxRecDepth 100000 in
set_option maxHeartbeats 4000000 in
theorem vX12_street_L153 {E : gE} {n : Nat} {sh : Nat → Nat × Nat} {P : Int32 → gS → Prop} (hn : gOK E n) : ∀ (N : Nat) (a0 : Nat) (x1 : Int32) (z : gS), wX12_street_L153 n sh P N a0 x1 z → V E (gR 63 0) gyX12_street 0 0 153 [(0, .ref a0), (1, .int x1)] [] n sh z (kI n sh P) := by
  intro N
  induction N with
  | zero => intro a0 x1 z hf; exact False.elim hf
  | succ N ih => intro a0 x1 z hf; exact vX12_street_B153 hn ih hf
def wX12_street_B105 (n : Nat) (sh : Nat → Nat × Nat) (k105 : Nat → Int32 → gS → Prop) (P : Int32 → gS → Prop) (a0 : Nat) (x1 : Int32) (z : gS) : Prop := (oO n sh a0 8) ∧ (if (gi z a0 13) ≤ x1 then ((∃ N, wX12_street_L153 n sh P N a0 (0 : Int32) z)) else (∃ t33 : Nat, gr z a0 11 = some t33 ∧ (∃ t34 : Nat, gr z a0 11 = some t34 ∧ ((oA n sh t34 1) ∧ ((vp_in ((1100 : Int32) + x1) (sh t34).2) ∧ ((oA n sh t33 1) ∧ ((vp_in x1 (sh t33).2) ∧ (∀ z39 : gS, z39 = si z t33 x1.toNatClampNeg (gi z t34 ((1100 : Int32) + x1).toNatClampNeg) → (∃ t40 : Nat, gr z39 a0 12 = some t40 ∧ (∃ t41 : Nat, gr z39 a0 12 = some t41 ∧ ((oA n sh t41 1) ∧ ((vp_in ((1100 : Int32) + x1) (sh t41).2) ∧ ((oA n sh t40 1) ∧ ((vp_in x1 (sh t40).2) ∧ (∀ z46 : gS, z46 = si z39 t40 x1.toNatClampNeg (gi z39 t41 ((1100 : Int32) + x1).toNatClampNeg) → (∀ v47 : Int32, v47 = x1 + (1 : Int32) → k105 a0 v47 z46))))))))))))))))
def wX12_street_L105 (n : Nat) (sh : Nat → Nat × Nat) (P : Int32 → gS → Prop) : Nat → Nat → Int32 → gS → Prop
  | 0, _, _, _ => False
  | N + 1, a0, x1, z => wX12_street_B105 n sh (wX12_street_L105 n sh P N) P a0 x1 z
set_option maxRecDepth 100000 in
set_option maxHeartbeats 4000000 in
theorem vX12_street_B105 {E : gE} {n : Nat} {sh : Nat → Nat × Nat} {P : Int32 → gS → Prop} {k105 : Nat → Int32 → gS → Prop} {a0 : Nat} {x1 : Int32} {z : gS} (hn : gOK E n) (hk105 : ∀ (a0 : Nat) (x1 : Int32) (z : gS), k105 a0 x1 z → V E (gR 63 0) gyX12_street 0 0 105 [(0, .ref a0), (1, .int x1)] [] n sh z (kI n sh P)) (hf : wX12_street_B105 n sh k105 P a0 x1 z) : V E (gR 63 0) gyX12_street 0 0 105 [(0, .ref a0), (1, .int x1)] [] n sh z (kI n sh P) := by
  unfold wX12_street_B105 at hf
  refine V_iload_n (j := 1) dX12_street_105 rfl rfl ?_
  refine V_aload_n (j := 0) dX12_street_106 rfl rfl ?_
  obtain ⟨h12, hf⟩ := hf
  refine V_getI fl_X12_205 rfl h12.1 h12.2 dX12_street_107 ?_
  refine V_icmp_ge (tgt := 151) dX12_street_110 (by decide) (fun h48 => ?_) (fun h48 => ?_)
  · have hf := it_t h48 hf
    refine V_iconst (v := (0 : Int32)) dX12_street_151 (by decide) ?_
    refine V_istore_n (ls2 := [(1, .int (0 : Int32)), (0, .ref a0)]) dX12_street_152 rfl (by decide) rfl ?_
    obtain ⟨N, hf⟩ := hf
    refine V_to [1, 0] rfl ?_
    exact vX12_street_L153 hn N _ _ _ hf
  · have hf := it_f h48 hf
    refine V_aload_n (j := 0) dX12_street_113 rfl rfl ?_
    obtain ⟨t33, et33, hf⟩ := hf
    refine V_getR fl_X12_92 rfl h12.1 h12.2 et33 dX12_street_114 ?_
    refine V_iload_n (j := 1) dX12_street_117 rfl rfl ?_
    refine V_aload_n (j := 0) dX12_street_118 rfl rfl ?_
    obtain ⟨t34, et34, hf⟩ := hf
    refine V_getR fl_X12_92 rfl h12.1 h12.2 et34 dX12_street_119 ?_
    refine V_sipush (v := (1100 : Int32)) dX12_street_122 (by decide) ?_
    refine V_iload_n (j := 1) dX12_street_125 rfl rfl ?_
    refine V_iadd dX12_street_126 ?_
    obtain ⟨h35, hf⟩ := hf
    obtain ⟨h36, hf⟩ := hf
    refine V_iald h35.1 h35.s h36 dX12_street_127 ?_
    obtain ⟨h37, hf⟩ := hf
    obtain ⟨h38, hf⟩ := hf
    refine V_iast h37.1 h37.s h38 dX12_street_128 ?_
    refine V_nz (fun z39 ez39 => ?_)
    have hf := hf z39 ez39
    refine V_aload_n (j := 0) dX12_street_129 rfl rfl ?_
    obtain ⟨t40, et40, hf⟩ := hf
    refine V_getR fl_X12_95 rfl h12.1 h12.2 et40 dX12_street_130 ?_
    refine V_iload_n (j := 1) dX12_street_133 rfl rfl ?_
    refine V_aload_n (j := 0) dX12_street_134 rfl rfl ?_
    obtain ⟨t41, et41, hf⟩ := hf
    refine V_getR fl_X12_95 rfl h12.1 h12.2 et41 dX12_street_135 ?_
    refine V_sipush (v := (1100 : Int32)) dX12_street_138 (by decide) ?_
    refine V_iload_n (j := 1) dX12_street_141 rfl rfl ?_
    refine V_iadd dX12_street_142 ?_
    obtain ⟨h42, hf⟩ := hf
    obtain ⟨h43, hf⟩ := hf
    refine V_iald h42.1 h42.s h43 dX12_street_143 ?_
    obtain ⟨h44, hf⟩ := hf
    obtain ⟨h45, hf⟩ := hf
    refine V_iast h44.1 h44.s h45 dX12_street_144 ?_
    refine V_nz (fun z46 ez46 => ?_)
    have hf := hf z46 ez46
    obtain ⟨v47, ev47⟩ : ∃ y : Int32, y = x1 + (1 : Int32) := ⟨_, rfl⟩
    refine V_iinc (j := 1) (v := v47) (ls2 := [(1, .int v47), (0, .ref a0)]) dX12_street_145 rfl (by rw [ev47]; rfl) (by decide) rfl ?_
    have hf := hf v47 ev47
    refine V_goto (tgt := 105) dX12_street_148 (by decide) ?_
    refine V_to [1, 0] rfl ?_
    exact hk105 _ _ _ hf
set_option maxRecDepth 100000 in
set_option maxHeartbeats 4000000 in
theorem vX12_street_L105 {E : gE} {n : Nat} {sh : Nat → Nat × Nat} {P : Int32 → gS → Prop} (hn : gOK E n) : ∀ (N : Nat) (a0 : Nat) (x1 : Int32) (z : gS), wX12_street_L105 n sh P N a0 x1 z → V E (gR 63 0) gyX12_street 0 0 105 [(0, .ref a0), (1, .int x1)] [] n sh z (kI n sh P) := by
  intro N
  induction N with
  | zero => intro a0 x1 z hf; exact False.elim hf
  | succ N ih => intro a0 x1 z hf; exact vX12_street_B105 hn ih hf
def wX12_street_B76 (n : Nat) (sh : Nat → Nat × Nat) (k76 : Nat → Int32 → gS → Prop) (P : Int32 → gS → Prop) (a0 : Nat) (x1 : Int32) (z : gS) : Prop := if (60 : Int32) ≤ x1 then ((∃ N, wX12_street_L105 n sh P N a0 (0 : Int32) z)) else ((oO n sh a0 8) ∧ (∃ t50 : Nat, gr z a0 10 = some t50 ∧ (∃ t51 : Nat, gr z a0 10 = some t51 ∧ ((oA n sh t51 1) ∧ ((vp_in ((60 : Int32) + x1) (sh t51).2) ∧ ((oA n sh t50 1) ∧ ((vp_in x1 (sh t50).2) ∧ (∀ z56 : gS, z56 = si z t50 x1.toNatClampNeg (gi z t51 ((60 : Int32) + x1).toNatClampNeg) → (∀ v57 : Int32, v57 = x1 + (1 : Int32) → k76 a0 v57 z56)))))))))
def wX12_street_L76 (n : Nat) (sh : Nat → Nat × Nat) (P : Int32 → gS → Prop) : Nat → Nat → Int32 → gS → Prop
  | 0, _, _, _ => False
  | N + 1, a0, x1, z => wX12_street_B76 n sh (wX12_street_L76 n sh P N) P a0 x1 z
set_option maxRecDepth 100000 in
set_option maxHeartbeats 4000000 in
theorem vX12_street_B76 {E : gE} {n : Nat} {sh : Nat → Nat × Nat} {P : Int32 → gS → Prop} {k76 : Nat → Int32 → gS → Prop} {a0 : Nat} {x1 : Int32} {z : gS} (hn : gOK E n) (hk76 : ∀ (a0 : Nat) (x1 : Int32) (z : gS), k76 a0 x1 z → V E (gR 63 0) gyX12_street 0 0 76 [(0, .ref a0), (1, .int x1)] [] n sh z (kI n sh P)) (hf : wX12_street_B76 n sh k76 P a0 x1 z) : V E (gR 63 0) gyX12_street 0 0 76 [(0, .ref a0), (1, .int x1)] [] n sh z (kI n sh P) := by
  unfold wX12_street_B76 at hf
  refine V_iload_n (j := 1) dX12_street_76 rfl rfl ?_
  refine V_bipush (v := (60 : Int32)) dX12_street_77 (by decide) ?_
  refine V_icmp_ge (tgt := 103) dX12_street_79 (by decide) (fun h58 => ?_) (fun h58 => ?_)
  · have hf := it_t h58 hf
    refine V_iconst (v := (0 : Int32)) dX12_street_103 (by decide) ?_
    refine V_istore_n (ls2 := [(1, .int (0 : Int32)), (0, .ref a0)]) dX12_street_104 rfl (by decide) rfl ?_
    obtain ⟨N, hf⟩ := hf
    refine V_to [1, 0] rfl ?_
    exact vX12_street_L105 hn N _ _ _ hf
  · have hf := it_f h58 hf
    refine V_aload_n (j := 0) dX12_street_82 rfl rfl ?_
    obtain ⟨h49, hf⟩ := hf
    obtain ⟨t50, et50, hf⟩ := hf
    refine V_getR fl_X12_89 rfl h49.1 h49.2 et50 dX12_street_83 ?_
    refine V_iload_n (j := 1) dX12_street_86 rfl rfl ?_
    refine V_aload_n (j := 0) dX12_street_87 rfl rfl ?_
    obtain ⟨t51, et51, hf⟩ := hf
    refine V_getR fl_X12_89 rfl h49.1 h49.2 et51 dX12_street_88 ?_
    refine V_bipush (v := (60 : Int32)) dX12_street_91 (by decide) ?_
    refine V_iload_n (j := 1) dX12_street_93 rfl rfl ?_
    refine V_iadd dX12_street_94 ?_
    obtain ⟨h52, hf⟩ := hf
    obtain ⟨h53, hf⟩ := hf
    refine V_iald h52.1 h52.s h53 dX12_street_95 ?_
    obtain ⟨h54, hf⟩ := hf
    obtain ⟨h55, hf⟩ := hf
    refine V_iast h54.1 h54.s h55 dX12_street_96 ?_
    refine V_nz (fun z56 ez56 => ?_)
    have hf := hf z56 ez56
    obtain ⟨v57, ev57⟩ : ∃ y : Int32, y = x1 + (1 : Int32) := ⟨_, rfl⟩
    refine V_iinc (j := 1) (v := v57) (ls2 := [(1, .int v57), (0, .ref a0)]) dX12_street_97 rfl (by rw [ev57]; rfl) (by decide) rfl ?_
    have hf := hf v57 ev57
    refine V_goto (tgt := 76) dX12_street_100 (by decide) ?_
    refine V_to [1, 0] rfl ?_
    exact hk76 _ _ _ hf
set_option maxRecDepth 100000 in
set_option maxHeartbeats 4000000 in
theorem vX12_street_L76 {E : gE} {n : Nat} {sh : Nat → Nat × Nat} {P : Int32 → gS → Prop} (hn : gOK E n) : ∀ (N : Nat) (a0 : Nat) (x1 : Int32) (z : gS), wX12_street_L76 n sh P N a0 x1 z → V E (gR 63 0) gyX12_street 0 0 76 [(0, .ref a0), (1, .int x1)] [] n sh z (kI n sh P) := by
  intro N
  induction N with
  | zero => intro a0 x1 z hf; exact False.elim hf
  | succ N ih => intro a0 x1 z hf; exact vX12_street_B76 hn ih hf
def wX12_street_J62 (n : Nat) (sh : Nat → Nat × Nat) (P : Int32 → gS → Prop) (a0 : Nat) (z : gS) : Prop := (oO n sh a0 8) ∧ (if (gi z a0 8) ≤ 0 then ((∃ N, wX12_street_L76 n sh P N a0 (0 : Int32) z)) else P (gi z a0 8) z)
set_option maxRecDepth 100000 in
set_option maxHeartbeats 4000000 in
theorem vX12_street_J62 {E : gE} {n : Nat} {sh : Nat → Nat × Nat} {P : Int32 → gS → Prop} {a0 : Nat} {z : gS} (hn : gOK E n) (hf : wX12_street_J62 n sh P a0 z) : V E (gR 63 0) gyX12_street 0 0 62 [(0, .ref a0)] [] n sh z (kI n sh P) := by
  unfold wX12_street_J62 at hf
  refine V_aload_n (j := 0) dX12_street_62 rfl rfl ?_
  obtain ⟨h11, hf⟩ := hf
  refine V_getI fl_X12_159 rfl h11.1 h11.2 dX12_street_63 ?_
  refine V_if_le (tgt := 74) dX12_street_66 (by decide) (fun h59 => ?_) (fun h59 => ?_)
  · have hf := it_t h59 hf
    refine V_iconst (v := (0 : Int32)) dX12_street_74 (by decide) ?_
    refine V_istore_n (ls2 := [(1, .int (0 : Int32)), (0, .ref a0)]) dX12_street_75 rfl (by decide) rfl ?_
    obtain ⟨N, hf⟩ := hf
    refine V_to [1, 0] rfl ?_
    exact vX12_street_L76 hn N _ _ _ hf
  · have hf := it_f h59 hf
    refine V_aload_n (j := 0) dX12_street_69 rfl rfl ?_
    refine V_getI fl_X12_159 rfl h11.1 h11.2 dX12_street_70 ?_
    exact V_ireturn dX12_street_73 rfl rfl (Nat.le_refl 0) (kI_of hf)
def wX12_street_B30 (n : Nat) (sh : Nat → Nat × Nat) (k30 : Nat → gS → Prop) (P : Int32 → gS → Prop) (a0 : Nat) (z : gS) : Prop := (oO n sh a0 8) ∧ (if (gi z a0 8) = 0 then (∃ t60 : Nat, gr z a0 4 = some t60 ∧ ((oA n sh t60 1) ∧ ((vp_in (gi z a0 7) (sh t60).2) ∧ (if (gi z t60 (gi z a0 7).toNatClampNeg) = 0 then wX12_street_J62 n sh P a0 z else (wX12_readLine n sh a0 z (fun (z64 : gS) => wX12_takeSign n sh a0 (59 : Int32) z64 (fun (z66 : gS) => k30 a0 z66))))))) else wX12_street_J62 n sh P a0 z)
def wX12_street_L30 (n : Nat) (sh : Nat → Nat × Nat) (P : Int32 → gS → Prop) : Nat → Nat → gS → Prop
  | 0, _, _ => False
  | N + 1, a0, z => wX12_street_B30 n sh (wX12_street_L30 n sh P N) P a0 z
set_option maxRecDepth 100000 in
set_option maxHeartbeats 4000000 in
theorem vX12_street_B30 {E : gE} {n : Nat} {sh : Nat → Nat × Nat} {P : Int32 → gS → Prop} {k30 : Nat → gS → Prop} {a0 : Nat} {z : gS} (hn : gOK E n) (hk30 : ∀ (a0 : Nat) (z : gS), k30 a0 z → V E (gR 63 0) gyX12_street 0 0 30 [(0, .ref a0)] [] n sh z (kI n sh P)) (hf : wX12_street_B30 n sh k30 P a0 z) : V E (gR 63 0) gyX12_street 0 0 30 [(0, .ref a0)] [] n sh z (kI n sh P) := by
  unfold wX12_street_B30 at hf
  refine V_aload_n (j := 0) dX12_street_30 rfl rfl ?_
  obtain ⟨h10, hf⟩ := hf
  refine V_getI fl_X12_159 rfl h10.1 h10.2 dX12_street_31 ?_
  refine V_if_ne (tgt := 62) dX12_street_34 (by decide) (fun h68 => ?_) (fun h68 => ?_)
  · have hf := it_f h68 hf
    exact vX12_street_J62 hn hf
  · have hf := it_t (Classical.not_not.mp h68) hf
    refine V_aload_n (j := 0) dX12_street_37 rfl rfl ?_
    obtain ⟨t60, et60, hf⟩ := hf
    refine V_getR fl_X12_24 rfl h10.1 h10.2 et60 dX12_street_38 ?_
    refine V_aload_n (j := 0) dX12_street_41 rfl rfl ?_
    refine V_getI fl_X12_156 rfl h10.1 h10.2 dX12_street_42 ?_
    obtain ⟨h61, hf⟩ := hf
    obtain ⟨h62, hf⟩ := hf
    refine V_iald h61.1 h61.s h62 dX12_street_45 ?_
    refine V_if_eq (tgt := 62) dX12_street_46 (by decide) (fun h67 => ?_) (fun h67 => ?_)
    · have hf := it_t h67 hf
      exact vX12_street_J62 hn hf
    · have hf := it_f h67 hf
      refine V_aload_n (j := 0) dX12_street_49 rfl rfl ?_
      refine V_cVN (ctX12_readLine hn hf) gc_X12_211 rfl h10.1 ⟨_, h10.2, by decide, rfl⟩ ⟨by decide, by decide, Nat.zero_le _, Nat.zero_le _⟩ (Nat.le_of_ble_eq_true rfl) dX12_street_50 rfl hn (fun z64 hf => ?_)
      refine V_aload_n (j := 0) dX12_street_53 rfl rfl ?_
      refine V_bipush (v := (59 : Int32)) dX12_street_54 (by decide) ?_
      refine V_cVN (ctX12_takeSign hn hf) gc_X12_214 rfl h10.1 ⟨_, h10.2, by decide, rfl⟩ ⟨by decide, by decide, Nat.zero_le _, Nat.zero_le _⟩ (Nat.le_of_ble_eq_true rfl) dX12_street_56 rfl hn (fun z66 hf => ?_)
      refine V_goto (tgt := 30) dX12_street_59 (by decide) ?_
      exact hk30 _ _ hf
set_option maxRecDepth 100000 in
set_option maxHeartbeats 4000000 in
theorem vX12_street_L30 {E : gE} {n : Nat} {sh : Nat → Nat × Nat} {P : Int32 → gS → Prop} (hn : gOK E n) : ∀ (N : Nat) (a0 : Nat) (z : gS), wX12_street_L30 n sh P N a0 z → V E (gR 63 0) gyX12_street 0 0 30 [(0, .ref a0)] [] n sh z (kI n sh P) := by
  intro N
  induction N with
  | zero => intro a0 z hf; exact False.elim hf
  | succ N ih => intro a0 z hf; exact vX12_street_B30 hn ih hf
def wX12_street (n : Nat) (sh : Nat → Nat × Nat) (a0 : Nat) (z : gS) (P : Int32 → gS → Prop) : Prop := (oO n sh a0 8) ∧ (∀ z2 : gS, z2 = si z a0 0 (0 : Int32) → (wX12_cutAll n sh a0 z2 (fun (z4 : gS) => ∀ z5 : gS, z5 = si z4 a0 13 (0 : Int32) → (∀ z6 : gS, z6 = si z5 a0 19 (0 : Int32) → (∀ z7 : gS, z7 = si z6 a0 20 (0 : Int32) → (wX12_standsAsAlways n sh a0 (60 : Int32) z7 (fun (z9 : gS) => (∃ N, wX12_street_L30 n sh P N a0 z9))))))))
set_option maxRecDepth 100000 in
set_option maxHeartbeats 4000000 in
theorem ctX12_street {E : gE} {n : Nat} {sh : Nat → Nat × Nat} {a0 : Nat} {z : gS} {P : Int32 → gS → Prop} (hn : gOK E n) (hf : wX12_street n sh a0 z P) : VM E 63 0 gyX12_street [.ref a0] n sh z (kI n sh P) := by
  unfold wX12_street at hf
  refine VM.of (by decide +kernel) (Nat.le_of_ble_eq_true rfl) (fun _ _ _ h => h.2.2) ?_
  show V E (gR 63 0) gyX12_street 0 0 0 [(0, .ref a0)] [] n sh z (kI n sh P)
  refine V_aload_n (j := 0) dX12_street_0 rfl rfl ?_
  refine V_iconst (v := (0 : Int32)) dX12_street_1 (by decide) ?_
  obtain ⟨h1, hf⟩ := hf
  refine V_putI fl_X12_1 rfl rfl rfl rfl h1.1 h1.2 dX12_street_2 ?_
  refine V_nz (fun z2 ez2 => ?_)
  have hf := hf z2 ez2
  refine V_aload_n (j := 0) dX12_street_5 rfl rfl ?_
  refine V_cVN (ctX12_cutAll hn hf) gc_X12_202 rfl h1.1 ⟨_, h1.2, by decide, rfl⟩ ⟨by decide, by decide, Nat.zero_le _, Nat.zero_le _⟩ (Nat.le_of_ble_eq_true rfl) dX12_street_6 rfl hn (fun z4 hf => ?_)
  refine V_aload_n (j := 0) dX12_street_9 rfl rfl ?_
  refine V_iconst (v := (0 : Int32)) dX12_street_10 (by decide) ?_
  refine V_putI fl_X12_205 rfl rfl rfl rfl h1.1 h1.2 dX12_street_11 ?_
  refine V_nz (fun z5 ez5 => ?_)
  have hf := hf z5 ez5
  refine V_aload_n (j := 0) dX12_street_14 rfl rfl ?_
  refine V_iconst (v := (0 : Int32)) dX12_street_15 (by decide) ?_
  refine V_putI fl_X12_184 rfl rfl rfl rfl h1.1 h1.2 dX12_street_16 ?_
  refine V_nz (fun z6 ez6 => ?_)
  have hf := hf z6 ez6
  refine V_aload_n (j := 0) dX12_street_19 rfl rfl ?_
  refine V_iconst (v := (0 : Int32)) dX12_street_20 (by decide) ?_
  refine V_putI fl_X12_208 rfl rfl rfl rfl h1.1 h1.2 dX12_street_21 ?_
  refine V_nz (fun z7 ez7 => ?_)
  have hf := hf z7 ez7
  refine V_aload_n (j := 0) dX12_street_24 rfl rfl ?_
  refine V_bipush (v := (60 : Int32)) dX12_street_25 (by decide) ?_
  refine V_cVN (ctX12_standsAsAlways hn hf) gc_X12_126 rfl h1.1 ⟨_, h1.2, by decide, rfl⟩ ⟨by decide, by decide, Nat.zero_le _, Nat.zero_le _⟩ (Nat.le_of_ble_eq_true rfl) dX12_street_27 rfl hn (fun z9 hf => ?_)
  obtain ⟨N, hf⟩ := hf
  exact vX12_street_L30 hn N _ _ hf
def wX12_day_B195 (n : Nat) (sh : Nat → Nat × Nat) (k195 : Nat → Int32 → Int32 → gS → Prop) (P : Int32 → gS → Prop) (a0 : Nat) (x1 : Int32) (x2 : Int32) (z : gS) : Prop := if ((3 : Int32) * x1) ≤ x2 then P (0 : Int32) z else ((oO n sh a0 8) ∧ (∃ t12 : Nat, gr z a0 21 = some t12 ∧ (∃ t13 : Nat, gr z a0 21 = some t13 ∧ ((oA n sh t13 1) ∧ ((vp_in ((125 : Int32) + x2) (sh t13).2) ∧ ((oA n sh t12 1) ∧ ((vp_in ((1 : Int32) + x2) (sh t12).2) ∧ (∀ z18 : gS, z18 = si z t12 ((1 : Int32) + x2).toNatClampNeg (gi z t13 ((125 : Int32) + x2).toNatClampNeg) → (∀ v19 : Int32, v19 = x2 + (1 : Int32) → k195 a0 x1 v19 z18)))))))))
def wX12_day_L195 (n : Nat) (sh : Nat → Nat × Nat) (P : Int32 → gS → Prop) : Nat → Nat → Int32 → Int32 → gS → Prop
  | 0, _, _, _, _ => False
  | N + 1, a0, x1, x2, z => wX12_day_B195 n sh (wX12_day_L195 n sh P N) P a0 x1 x2 z
set_option maxRecDepth 100000 in
set_option maxHeartbeats 4000000 in
theorem vX12_day_B195 {E : gE} {n : Nat} {sh : Nat → Nat × Nat} {P : Int32 → gS → Prop} {k195 : Nat → Int32 → Int32 → gS → Prop} {a0 : Nat} {x1 : Int32} {x2 : Int32} {z : gS} (hn : gOK E n) (hk195 : ∀ (a0 : Nat) (x1 : Int32) (x2 : Int32) (z : gS), k195 a0 x1 x2 z → V E (gR 4 0) gyX12_day 0 0 195 [(0, .ref a0), (1, .int x1), (2, .int x2)] [] n sh z (kI n sh P)) (hf : wX12_day_B195 n sh k195 P a0 x1 x2 z) : V E (gR 4 0) gyX12_day 0 0 195 [(0, .ref a0), (1, .int x1), (2, .int x2)] [] n sh z (kI n sh P) := by
  unfold wX12_day_B195 at hf
  refine V_iload_n (j := 2) dX12_day_195 rfl rfl ?_
  refine V_iconst (v := (3 : Int32)) dX12_day_196 (by decide) ?_
  refine V_iload_n (j := 1) dX12_day_197 rfl rfl ?_
  refine V_imul dX12_day_198 ?_
  refine V_icmp_ge (tgt := 225) dX12_day_199 (by decide) (fun h20 => ?_) (fun h20 => ?_)
  · have hf := it_t h20 hf
    refine V_iconst (v := (0 : Int32)) dX12_day_225 (by decide) ?_
    exact V_ireturn dX12_day_226 rfl rfl (Nat.le_refl 0) (kI_of hf)
  · have hf := it_f h20 hf
    refine V_aload_n (j := 0) dX12_day_202 rfl rfl ?_
    obtain ⟨h11, hf⟩ := hf
    obtain ⟨t12, et12, hf⟩ := hf
    refine V_getR fl_X12_110 rfl h11.1 h11.2 et12 dX12_day_203 ?_
    refine V_iconst (v := (1 : Int32)) dX12_day_206 (by decide) ?_
    refine V_iload_n (j := 2) dX12_day_207 rfl rfl ?_
    refine V_iadd dX12_day_208 ?_
    refine V_aload_n (j := 0) dX12_day_209 rfl rfl ?_
    obtain ⟨t13, et13, hf⟩ := hf
    refine V_getR fl_X12_110 rfl h11.1 h11.2 et13 dX12_day_210 ?_
    refine V_bipush (v := (125 : Int32)) dX12_day_213 (by decide) ?_
    refine V_iload_n (j := 2) dX12_day_215 rfl rfl ?_
    refine V_iadd dX12_day_216 ?_
    obtain ⟨h14, hf⟩ := hf
    obtain ⟨h15, hf⟩ := hf
    refine V_iald h14.1 h14.s h15 dX12_day_217 ?_
    obtain ⟨h16, hf⟩ := hf
    obtain ⟨h17, hf⟩ := hf
    refine V_iast h16.1 h16.s h17 dX12_day_218 ?_
    refine V_nz (fun z18 ez18 => ?_)
    have hf := hf z18 ez18
    obtain ⟨v19, ev19⟩ : ∃ y : Int32, y = x2 + (1 : Int32) := ⟨_, rfl⟩
    refine V_iinc (j := 2) (v := v19) (ls2 := [(2, .int v19), (0, .ref a0), (1, .int x1)]) dX12_day_219 rfl (by rw [ev19]; rfl) (by decide) rfl ?_
    have hf := hf v19 ev19
    refine V_goto (tgt := 195) dX12_day_222 (by decide) ?_
    refine V_to [1, 2, 0] rfl ?_
    exact hk195 _ _ _ _ hf
set_option maxRecDepth 100000 in
set_option maxHeartbeats 4000000 in
theorem vX12_day_L195 {E : gE} {n : Nat} {sh : Nat → Nat × Nat} {P : Int32 → gS → Prop} (hn : gOK E n) : ∀ (N : Nat) (a0 : Nat) (x1 : Int32) (x2 : Int32) (z : gS), wX12_day_L195 n sh P N a0 x1 x2 z → V E (gR 4 0) gyX12_day 0 0 195 [(0, .ref a0), (1, .int x1), (2, .int x2)] [] n sh z (kI n sh P) := by
  intro N
  induction N with
  | zero => intro a0 x1 x2 z hf; exact False.elim hf
  | succ N ih => intro a0 x1 x2 z hf; exact vX12_day_B195 hn ih hf
def wX12_day_J174 (n : Nat) (sh : Nat → Nat × Nat) (P : Int32 → gS → Prop) (a0 : Nat) (x1 : Int32) (z : gS) : Prop := (oO n sh a0 8) ∧ (if (gi z a0 8) ≤ 0 then (∃ t7 : Nat, gr z a0 21 = some t7 ∧ ((oA n sh t7 1) ∧ ((vp_in (0 : Int32) (sh t7).2) ∧ (∀ z10 : gS, z10 = si z t7 (0 : Int32).toNatClampNeg x1 → ((∃ N, wX12_day_L195 n sh P N a0 x1 (0 : Int32) z10)))))) else P (gi z a0 8) z)
set_option maxRecDepth 100000 in
set_option maxHeartbeats 4000000 in
theorem vX12_day_J174 {E : gE} {n : Nat} {sh : Nat → Nat × Nat} {P : Int32 → gS → Prop} {a0 : Nat} {x1 : Int32} {z : gS} (hn : gOK E n) (hf : wX12_day_J174 n sh P a0 x1 z) : V E (gR 4 0) gyX12_day 0 0 174 [(0, .ref a0), (1, .int x1)] [] n sh z (kI n sh P) := by
  unfold wX12_day_J174 at hf
  refine V_aload_n (j := 0) dX12_day_174 rfl rfl ?_
  obtain ⟨h6, hf⟩ := hf
  refine V_getI fl_X12_159 rfl h6.1 h6.2 dX12_day_175 ?_
  refine V_if_le (tgt := 186) dX12_day_178 (by decide) (fun h21 => ?_) (fun h21 => ?_)
  · have hf := it_t h21 hf
    refine V_aload_n (j := 0) dX12_day_186 rfl rfl ?_
    obtain ⟨t7, et7, hf⟩ := hf
    refine V_getR fl_X12_110 rfl h6.1 h6.2 et7 dX12_day_187 ?_
    refine V_iconst (v := (0 : Int32)) dX12_day_190 (by decide) ?_
    refine V_iload_n (j := 1) dX12_day_191 rfl rfl ?_
    obtain ⟨h8, hf⟩ := hf
    obtain ⟨h9, hf⟩ := hf
    refine V_iast h8.1 h8.s h9 dX12_day_192 ?_
    refine V_nz (fun z10 ez10 => ?_)
    have hf := hf z10 ez10
    refine V_iconst (v := (0 : Int32)) dX12_day_193 (by decide) ?_
    refine V_istore_n (ls2 := [(2, .int (0 : Int32)), (0, .ref a0), (1, .int x1)]) dX12_day_194 rfl (by decide) rfl ?_
    obtain ⟨N, hf⟩ := hf
    refine V_to [1, 2, 0] rfl ?_
    exact vX12_day_L195 hn N _ _ _ _ hf
  · have hf := it_f h21 hf
    refine V_aload_n (j := 0) dX12_day_181 rfl rfl ?_
    refine V_getI fl_X12_159 rfl h6.1 h6.2 dX12_day_182 ?_
    exact V_ireturn dX12_day_185 rfl rfl (Nat.le_refl 0) (kI_of hf)
def wX12_day_J165 (n : Nat) (sh : Nat → Nat × Nat) (k11 : Nat → Int32 → gS → Prop) (P : Int32 → gS → Prop) (a0 : Nat) (x1 : Int32) (z : gS) : Prop := (oO n sh a0 8) ∧ (wX12_takeSign n sh a0 (59 : Int32) z (fun (z46 : gS) => k11 a0 x1 z46))
set_option maxRecDepth 100000 in
set_option maxHeartbeats 4000000 in
theorem vX12_day_J165 {E : gE} {n : Nat} {sh : Nat → Nat × Nat} {P : Int32 → gS → Prop} {k11 : Nat → Int32 → gS → Prop} {a0 : Nat} {x1 : Int32} {z : gS} (hn : gOK E n) (hk11 : ∀ (a0 : Nat) (x1 : Int32) (z : gS), k11 a0 x1 z → V E (gR 4 0) gyX12_day 0 0 11 [(0, .ref a0), (1, .int x1)] [] n sh z (kI n sh P)) (hf : wX12_day_J165 n sh k11 P a0 x1 z) : V E (gR 4 0) gyX12_day 0 0 165 [(0, .ref a0), (1, .int x1)] [] n sh z (kI n sh P) := by
  unfold wX12_day_J165 at hf
  refine V_aload_n (j := 0) dX12_day_165 rfl rfl ?_
  refine V_bipush (v := (59 : Int32)) dX12_day_166 (by decide) ?_
  obtain ⟨h47, hf⟩ := hf
  refine V_cVN (ctX12_takeSign hn hf) gc_X12_214 rfl h47.1 ⟨_, h47.2, by decide, rfl⟩ ⟨by decide, by decide, Nat.zero_le _, Nat.zero_le _⟩ (Nat.le_of_ble_eq_true rfl) dX12_day_168 rfl hn (fun z46 hf => ?_)
  refine V_goto (tgt := 11) dX12_day_171 (by decide) ?_
  exact hk11 _ _ _ hf
def wX12_day_J161 (n : Nat) (sh : Nat → Nat × Nat) (k11 : Nat → Int32 → gS → Prop) (P : Int32 → gS → Prop) (a0 : Nat) (x1 : Int32) (s0 : Int32) (s1 : Int32) (s2 : Nat) (z : gS) : Prop := (oA n sh s2 1) ∧ ((vp_in s1 (sh s2).2) ∧ (∀ z43 : gS, z43 = si z s2 s1.toNatClampNeg s0 → (∀ v44 : Int32, v44 = x1 + (1 : Int32) → wX12_day_J165 n sh k11 P a0 v44 z43)))
set_option maxRecDepth 100000 in
set_option maxHeartbeats 4000000 in
theorem vX12_day_J161 {E : gE} {n : Nat} {sh : Nat → Nat × Nat} {P : Int32 → gS → Prop} {k11 : Nat → Int32 → gS → Prop} {a0 : Nat} {x1 : Int32} {s0 : Int32} {s1 : Int32} {s2 : Nat} {z : gS} (hn : gOK E n) (hk11 : ∀ (a0 : Nat) (x1 : Int32) (z : gS), k11 a0 x1 z → V E (gR 4 0) gyX12_day 0 0 11 [(0, .ref a0), (1, .int x1)] [] n sh z (kI n sh P)) (hf : wX12_day_J161 n sh k11 P a0 x1 s0 s1 s2 z) : V E (gR 4 0) gyX12_day 0 0 161 [(0, .ref a0), (1, .int x1)] [.int s0, .int s1, .ref s2] n sh z (kI n sh P) := by
  unfold wX12_day_J161 at hf
  obtain ⟨h41, hf⟩ := hf
  obtain ⟨h42, hf⟩ := hf
  refine V_iast h41.1 h41.s h42 dX12_day_161 ?_
  refine V_nz (fun z43 ez43 => ?_)
  have hf := hf z43 ez43
  obtain ⟨v44, ev44⟩ : ∃ y : Int32, y = x1 + (1 : Int32) := ⟨_, rfl⟩
  refine V_iinc (j := 1) (v := v44) (ls2 := [(1, .int v44), (0, .ref a0)]) dX12_day_162 rfl (by rw [ev44]; rfl) (by decide) rfl ?_
  have hf := hf v44 ev44
  refine V_to [1, 0] rfl ?_
  exact vX12_day_J165 hn hk11 hf
def wX12_day_J121 (n : Nat) (sh : Nat → Nat × Nat) (k11 : Nat → Int32 → gS → Prop) (P : Int32 → gS → Prop) (a0 : Nat) (x1 : Int32) (x2 : Int32) (s0 : Int32) (s1 : Int32) (s2 : Nat) (z : gS) : Prop := (oA n sh s2 1) ∧ ((vp_in s1 (sh s2).2) ∧ (∀ z38 : gS, z38 = si z s2 s1.toNatClampNeg s0 → ((oO n sh a0 8) ∧ (∃ t40 : Nat, gr z38 a0 21 = some t40 ∧ (if x2 = 0 then (wX12_takeNumber n sh a0 (0 : Int32) (9 : Int32) z38 (fun (r51 : Int32) (z52 : gS) => wX12_day_J161 n sh k11 P a0 x1 r51 ((127 : Int32) + ((3 : Int32) * x1)) t40 z52)) else (if x2 = (1 : Int32) then (wX12_takeTold n sh a0 (40 : Int32) z38 (fun (r48 : Int32) (z49 : gS) => wX12_day_J161 n sh k11 P a0 x1 r48 ((127 : Int32) + ((3 : Int32) * x1)) t40 z49)) else wX12_day_J161 n sh k11 P a0 x1 (0 : Int32) ((127 : Int32) + ((3 : Int32) * x1)) t40 z38))))))
set_option maxRecDepth 100000 in
set_option maxHeartbeats 4000000 in
theorem vX12_day_J121 {E : gE} {n : Nat} {sh : Nat → Nat × Nat} {P : Int32 → gS → Prop} {k11 : Nat → Int32 → gS → Prop} {a0 : Nat} {x1 : Int32} {x2 : Int32} {s0 : Int32} {s1 : Int32} {s2 : Nat} {z : gS} (hn : gOK E n) (hk11 : ∀ (a0 : Nat) (x1 : Int32) (z : gS), k11 a0 x1 z → V E (gR 4 0) gyX12_day 0 0 11 [(0, .ref a0), (1, .int x1)] [] n sh z (kI n sh P)) (hf : wX12_day_J121 n sh k11 P a0 x1 x2 s0 s1 s2 z) : V E (gR 4 0) gyX12_day 0 0 121 [(0, .ref a0), (1, .int x1), (2, .int x2)] [.int s0, .int s1, .ref s2] n sh z (kI n sh P) := by
  unfold wX12_day_J121 at hf
  obtain ⟨h36, hf⟩ := hf
  obtain ⟨h37, hf⟩ := hf
  refine V_iast h36.1 h36.s h37 dX12_day_121 ?_
  refine V_nz (fun z38 ez38 => ?_)
  have hf := hf z38 ez38
  refine V_aload_n (j := 0) dX12_day_122 rfl rfl ?_
  obtain ⟨h39, hf⟩ := hf
  obtain ⟨t40, et40, hf⟩ := hf
  refine V_getR fl_X12_110 rfl h39.1 h39.2 et40 dX12_day_123 ?_
  refine V_bipush (v := (127 : Int32)) dX12_day_126 (by decide) ?_
  refine V_iconst (v := (3 : Int32)) dX12_day_128 (by decide) ?_
  refine V_iload_n (j := 1) dX12_day_129 rfl rfl ?_
  refine V_imul dX12_day_130 ?_
  refine V_iadd dX12_day_131 ?_
  refine V_iload_n (j := 2) dX12_day_132 rfl rfl ?_
  refine V_if_ne (tgt := 146) dX12_day_133 (by decide) (fun h53 => ?_) (fun h53 => ?_)
  · have hf := it_f h53 hf
    refine V_iload_n (j := 2) dX12_day_146 rfl rfl ?_
    refine V_iconst (v := (1 : Int32)) dX12_day_147 (by decide) ?_
    refine V_icmp_ne (tgt := 160) dX12_day_148 (by decide) (fun h50 => ?_) (fun h50 => ?_)
    · have hf := it_f h50 hf
      refine V_iconst (v := (0 : Int32)) dX12_day_160 (by decide) ?_
      refine V_to [0, 1] rfl ?_
      exact vX12_day_J161 hn hk11 hf
    · have hf := it_t (Classical.not_not.mp h50) hf
      refine V_aload_n (j := 0) dX12_day_151 rfl rfl ?_
      refine V_bipush (v := (40 : Int32)) dX12_day_152 (by decide) ?_
      refine V_cVI (ctX12_takeTold hn hf) gc_X12_244 rfl h39.1 ⟨_, h39.2, by decide, rfl⟩ ⟨by decide, by decide, Nat.zero_le _, Nat.zero_le _⟩ (Nat.le_of_ble_eq_true rfl) dX12_day_154 rfl hn (fun r48 z49 hf => ?_)
      refine V_goto (tgt := 161) dX12_day_157 (by decide) ?_
      refine V_to [0, 1] rfl ?_
      exact vX12_day_J161 hn hk11 hf
  · have hf := it_t (Classical.not_not.mp h53) hf
    refine V_aload_n (j := 0) dX12_day_136 rfl rfl ?_
    refine V_iconst (v := (0 : Int32)) dX12_day_137 (by decide) ?_
    refine V_bipush (v := (9 : Int32)) dX12_day_138 (by decide) ?_
    refine V_cVI (ctX12_takeNumber hn hf) gc_X12_177 rfl h39.1 ⟨_, h39.2, by decide, rfl⟩ ⟨by decide, by decide, Nat.zero_le _, Nat.zero_le _⟩ (Nat.le_of_ble_eq_true rfl) dX12_day_140 rfl hn (fun r51 z52 hf => ?_)
    refine V_goto (tgt := 161) dX12_day_143 (by decide) ?_
    refine V_to [0, 1] rfl ?_
    exact vX12_day_J161 hn hk11 hf
def wX12_day_J118 (n : Nat) (sh : Nat → Nat × Nat) (k11 : Nat → Int32 → gS → Prop) (P : Int32 → gS → Prop) (a0 : Nat) (x1 : Int32) (x2 : Int32) (s0 : Int32) (s1 : Nat) (s2 : Int32) (s3 : Nat) (z : gS) : Prop := (oO n sh s1 8) ∧ (wX12_takeTold n sh s1 s0 z (fun (r33 : Int32) (z34 : gS) => wX12_day_J121 n sh k11 P a0 x1 x2 r33 s2 s3 z34))
set_option maxRecDepth 100000 in
set_option maxHeartbeats 4000000 in
theorem vX12_day_J118 {E : gE} {n : Nat} {sh : Nat → Nat × Nat} {P : Int32 → gS → Prop} {k11 : Nat → Int32 → gS → Prop} {a0 : Nat} {x1 : Int32} {x2 : Int32} {s0 : Int32} {s1 : Nat} {s2 : Int32} {s3 : Nat} {z : gS} (hn : gOK E n) (hk11 : ∀ (a0 : Nat) (x1 : Int32) (z : gS), k11 a0 x1 z → V E (gR 4 0) gyX12_day 0 0 11 [(0, .ref a0), (1, .int x1)] [] n sh z (kI n sh P)) (hf : wX12_day_J118 n sh k11 P a0 x1 x2 s0 s1 s2 s3 z) : V E (gR 4 0) gyX12_day 0 0 118 [(0, .ref a0), (1, .int x1), (2, .int x2)] [.int s0, .ref s1, .int s2, .ref s3] n sh z (kI n sh P) := by
  unfold wX12_day_J118 at hf
  obtain ⟨h35, hf⟩ := hf
  refine V_cVI (ctX12_takeTold hn hf) gc_X12_244 rfl h35.1 ⟨_, h35.2, by decide, rfl⟩ ⟨by decide, by decide, Nat.zero_le _, Nat.zero_le _⟩ (Nat.le_of_ble_eq_true rfl) dX12_day_118 rfl hn (fun r33 z34 hf => ?_)
  exact vX12_day_J121 hn hk11 hf
def wX12_day_B11 (n : Nat) (sh : Nat → Nat × Nat) (k11 : Nat → Int32 → gS → Prop) (P : Int32 → gS → Prop) (a0 : Nat) (x1 : Int32) (z : gS) : Prop := (oO n sh a0 8) ∧ (if (gi z a0 8) = 0 then (∃ t22 : Nat, gr z a0 4 = some t22 ∧ ((oA n sh t22 1) ∧ ((vp_in (gi z a0 7) (sh t22).2) ∧ (if (gi z t22 (gi z a0 7).toNatClampNeg) = 0 then wX12_day_J174 n sh P a0 x1 z else (wX12_wordHere n sh a0 (9 : Int32) (6 : Int32) z (fun (r25 : Int32) (z26 : gS) => if 0 ≤ r25 then (if x1 = (40 : Int32) then (wX12_wrong n sh a0 (5 : Int32) z26 (fun (z57 : gS) => wX12_day_J165 n sh k11 P a0 x1 z57)) else (∀ z27 : gS, z27 = si z26 a0 7 ((gi z26 a0 7) + (1 : Int32)) → (∃ t28 : Nat, gr z27 a0 21 = some t28 ∧ ((oA n sh t28 1) ∧ ((vp_in ((125 : Int32) + ((3 : Int32) * x1)) (sh t28).2) ∧ (∀ z31 : gS, z31 = si z27 t28 ((125 : Int32) + ((3 : Int32) * x1)).toNatClampNeg r25 → (∃ t32 : Nat, gr z31 a0 21 = some t32 ∧ (if r25 = (5 : Int32) then wX12_day_J121 n sh k11 P a0 x1 r25 (0 : Int32) ((126 : Int32) + ((3 : Int32) * x1)) t32 z31 else (if (2 : Int32) ≤ r25 then wX12_day_J118 n sh k11 P a0 x1 r25 (0 : Int32) a0 ((126 : Int32) + ((3 : Int32) * x1)) t32 z31 else wX12_day_J118 n sh k11 P a0 x1 r25 (20 : Int32) a0 ((126 : Int32) + ((3 : Int32) * x1)) t32 z31))))))))) else (wX12_wrong n sh a0 (1 : Int32) z26 (fun (z60 : gS) => wX12_day_J165 n sh k11 P a0 x1 z60)))))))) else wX12_day_J174 n sh P a0 x1 z)
def wX12_day_L11 (n : Nat) (sh : Nat → Nat × Nat) (P : Int32 → gS → Prop) : Nat → Nat → Int32 → gS → Prop
  | 0, _, _, _ => False
  | N + 1, a0, x1, z => wX12_day_B11 n sh (wX12_day_L11 n sh P N) P a0 x1 z
set_option maxRecDepth 100000 in
set_option maxHeartbeats 4000000 in
theorem vX12_day_B11 {E : gE} {n : Nat} {sh : Nat → Nat × Nat} {P : Int32 → gS → Prop} {k11 : Nat → Int32 → gS → Prop} {a0 : Nat} {x1 : Int32} {z : gS} (hn : gOK E n) (hk11 : ∀ (a0 : Nat) (x1 : Int32) (z : gS), k11 a0 x1 z → V E (gR 4 0) gyX12_day 0 0 11 [(0, .ref a0), (1, .int x1)] [] n sh z (kI n sh P)) (hf : wX12_day_B11 n sh k11 P a0 x1 z) : V E (gR 4 0) gyX12_day 0 0 11 [(0, .ref a0), (1, .int x1)] [] n sh z (kI n sh P) := by
  unfold wX12_day_B11 at hf
  refine V_aload_n (j := 0) dX12_day_11 rfl rfl ?_
  obtain ⟨h5, hf⟩ := hf
  refine V_getI fl_X12_159 rfl h5.1 h5.2 dX12_day_12 ?_
  refine V_if_ne (tgt := 174) dX12_day_15 (by decide) (fun h63 => ?_) (fun h63 => ?_)
  · have hf := it_f h63 hf
    exact vX12_day_J174 hn hf
  · have hf := it_t (Classical.not_not.mp h63) hf
    refine V_aload_n (j := 0) dX12_day_18 rfl rfl ?_
    obtain ⟨t22, et22, hf⟩ := hf
    refine V_getR fl_X12_24 rfl h5.1 h5.2 et22 dX12_day_19 ?_
    refine V_aload_n (j := 0) dX12_day_22 rfl rfl ?_
    refine V_getI fl_X12_156 rfl h5.1 h5.2 dX12_day_23 ?_
    obtain ⟨h23, hf⟩ := hf
    obtain ⟨h24, hf⟩ := hf
    refine V_iald h23.1 h23.s h24 dX12_day_26 ?_
    refine V_if_eq (tgt := 174) dX12_day_27 (by decide) (fun h62 => ?_) (fun h62 => ?_)
    · have hf := it_t h62 hf
      exact vX12_day_J174 hn hf
    · have hf := it_f h62 hf
      refine V_aload_n (j := 0) dX12_day_30 rfl rfl ?_
      refine V_bipush (v := (9 : Int32)) dX12_day_31 (by decide) ?_
      refine V_bipush (v := (6 : Int32)) dX12_day_33 (by decide) ?_
      refine V_cVI (ctX12_wordHere hn hf) gc_X12_181 rfl h5.1 ⟨_, h5.2, by decide, rfl⟩ ⟨by decide, by decide, Nat.zero_le _, Nat.zero_le _⟩ (Nat.le_of_ble_eq_true rfl) dX12_day_35 rfl hn (fun r25 z26 hf => ?_)
      refine V_istore_n (ls2 := [(2, .int r25), (0, .ref a0), (1, .int x1)]) dX12_day_38 rfl (by decide) rfl ?_
      refine V_iload_n (j := 0) dX12_day_39 rfl rfl ?_
      refine V_if_ge (tgt := 51) dX12_day_40 (by decide) (fun h61 => ?_) (fun h61 => ?_)
      · have hf := it_t h61 hf
        refine V_iload_n (j := 2) dX12_day_51 rfl rfl ?_
        refine V_bipush (v := (40 : Int32)) dX12_day_52 (by decide) ?_
        refine V_icmp_ne (tgt := 65) dX12_day_54 (by decide) (fun h58 => ?_) (fun h58 => ?_)
        · have hf := it_f h58 hf
          refine V_aload_n (j := 1) dX12_day_65 rfl rfl ?_
          refine V_dup dX12_day_66 rfl ?_
          refine V_getI fl_X12_156 rfl h5.1 h5.2 dX12_day_67 ?_
          refine V_iconst (v := (1 : Int32)) dX12_day_70 (by decide) ?_
          refine V_iadd dX12_day_71 ?_
          refine V_putI fl_X12_156 rfl rfl rfl rfl h5.1 h5.2 dX12_day_72 ?_
          refine V_nz (fun z27 ez27 => ?_)
          have hf := hf z27 ez27
          refine V_aload_n (j := 1) dX12_day_75 rfl rfl ?_
          obtain ⟨t28, et28, hf⟩ := hf
          refine V_getR fl_X12_110 rfl h5.1 h5.2 et28 dX12_day_76 ?_
          refine V_bipush (v := (125 : Int32)) dX12_day_79 (by decide) ?_
          refine V_iconst (v := (3 : Int32)) dX12_day_81 (by decide) ?_
          refine V_iload_n (j := 2) dX12_day_82 rfl rfl ?_
          refine V_imul dX12_day_83 ?_
          refine V_iadd dX12_day_84 ?_
          refine V_iload_n (j := 0) dX12_day_85 rfl rfl ?_
          obtain ⟨h29, hf⟩ := hf
          obtain ⟨h30, hf⟩ := hf
          refine V_iast h29.1 h29.s h30 dX12_day_86 ?_
          refine V_nz (fun z31 ez31 => ?_)
          have hf := hf z31 ez31
          refine V_aload_n (j := 1) dX12_day_87 rfl rfl ?_
          obtain ⟨t32, et32, hf⟩ := hf
          refine V_getR fl_X12_110 rfl h5.1 h5.2 et32 dX12_day_88 ?_
          refine V_bipush (v := (126 : Int32)) dX12_day_91 (by decide) ?_
          refine V_iconst (v := (3 : Int32)) dX12_day_93 (by decide) ?_
          refine V_iload_n (j := 2) dX12_day_94 rfl rfl ?_
          refine V_imul dX12_day_95 ?_
          refine V_iadd dX12_day_96 ?_
          refine V_iload_n (j := 0) dX12_day_97 rfl rfl ?_
          refine V_iconst (v := (5 : Int32)) dX12_day_98 (by decide) ?_
          refine V_icmp_ne (tgt := 106) dX12_day_99 (by decide) (fun h55 => ?_) (fun h55 => ?_)
          · have hf := it_f h55 hf
            refine V_aload_n (j := 1) dX12_day_106 rfl rfl ?_
            refine V_iload_n (j := 0) dX12_day_107 rfl rfl ?_
            refine V_iconst (v := (2 : Int32)) dX12_day_108 (by decide) ?_
            refine V_icmp_ge (tgt := 117) dX12_day_109 (by decide) (fun h54 => ?_) (fun h54 => ?_)
            · have hf := it_t h54 hf
              refine V_iconst (v := (0 : Int32)) dX12_day_117 (by decide) ?_
              refine V_to [1, 2, 0] rfl ?_
              exact vX12_day_J118 hn hk11 hf
            · have hf := it_f h54 hf
              refine V_bipush (v := (20 : Int32)) dX12_day_112 (by decide) ?_
              refine V_goto (tgt := 118) dX12_day_114 (by decide) ?_
              refine V_to [1, 2, 0] rfl ?_
              exact vX12_day_J118 hn hk11 hf
          · have hf := it_t (Classical.not_not.mp h55) hf
            refine V_iconst (v := (0 : Int32)) dX12_day_102 (by decide) ?_
            refine V_goto (tgt := 121) dX12_day_103 (by decide) ?_
            refine V_to [1, 2, 0] rfl ?_
            exact vX12_day_J121 hn hk11 hf
        · have hf := it_t (Classical.not_not.mp h58) hf
          refine V_aload_n (j := 1) dX12_day_57 rfl rfl ?_
          refine V_iconst (v := (5 : Int32)) dX12_day_58 (by decide) ?_
          refine V_cVN (ctX12_wrong hn hf) gc_X12_165 rfl h5.1 ⟨_, h5.2, by decide, rfl⟩ ⟨by decide, by decide, Nat.zero_le _, Nat.zero_le _⟩ (Nat.le_of_ble_eq_true rfl) dX12_day_59 rfl hn (fun z57 hf => ?_)
          refine V_goto (tgt := 165) dX12_day_62 (by decide) ?_
          refine V_to [1, 2] rfl ?_
          exact vX12_day_J165 hn hk11 hf
      · have hf := it_f h61 hf
        refine V_aload_n (j := 1) dX12_day_43 rfl rfl ?_
        refine V_iconst (v := (1 : Int32)) dX12_day_44 (by decide) ?_
        refine V_cVN (ctX12_wrong hn hf) gc_X12_165 rfl h5.1 ⟨_, h5.2, by decide, rfl⟩ ⟨by decide, by decide, Nat.zero_le _, Nat.zero_le _⟩ (Nat.le_of_ble_eq_true rfl) dX12_day_45 rfl hn (fun z60 hf => ?_)
        refine V_goto (tgt := 165) dX12_day_48 (by decide) ?_
        refine V_to [1, 2] rfl ?_
        exact vX12_day_J165 hn hk11 hf
set_option maxRecDepth 100000 in
set_option maxHeartbeats 4000000 in
theorem vX12_day_L11 {E : gE} {n : Nat} {sh : Nat → Nat × Nat} {P : Int32 → gS → Prop} (hn : gOK E n) : ∀ (N : Nat) (a0 : Nat) (x1 : Int32) (z : gS), wX12_day_L11 n sh P N a0 x1 z → V E (gR 4 0) gyX12_day 0 0 11 [(0, .ref a0), (1, .int x1)] [] n sh z (kI n sh P) := by
  intro N
  induction N with
  | zero => intro a0 x1 z hf; exact False.elim hf
  | succ N ih => intro a0 x1 z hf; exact vX12_day_B11 hn ih hf
def wX12_day (n : Nat) (sh : Nat → Nat × Nat) (a0 : Nat) (z : gS) (P : Int32 → gS → Prop) : Prop := (oO n sh a0 8) ∧ (∀ z2 : gS, z2 = si z a0 0 (0 : Int32) → (wX12_cutAll n sh a0 z2 (fun (z4 : gS) => (∃ N, wX12_day_L11 n sh P N a0 (0 : Int32) z4))))
set_option maxRecDepth 100000 in
set_option maxHeartbeats 4000000 in
theorem ctX12_day {E : gE} {n : Nat} {sh : Nat → Nat × Nat} {a0 : Nat} {z : gS} {P : Int32 → gS → Prop} (hn : gOK E n) (hf : wX12_day n sh a0 z P) : VM E 4 0 gyX12_day [.ref a0] n sh z (kI n sh P) := by
  unfold wX12_day at hf
  refine VM.of (by decide +kernel) (Nat.le_of_ble_eq_true rfl) (fun _ _ _ h => h.2.2) ?_
  show V E (gR 4 0) gyX12_day 0 0 0 [(0, .ref a0)] [] n sh z (kI n sh P)
  refine V_aload_n (j := 0) dX12_day_0 rfl rfl ?_
  refine V_iconst (v := (0 : Int32)) dX12_day_1 (by decide) ?_
  obtain ⟨h1, hf⟩ := hf
  refine V_putI fl_X12_1 rfl rfl rfl rfl h1.1 h1.2 dX12_day_2 ?_
  refine V_nz (fun z2 ez2 => ?_)
  have hf := hf z2 ez2
  refine V_aload_n (j := 0) dX12_day_5 rfl rfl ?_
  refine V_cVN (ctX12_cutAll hn hf) gc_X12_202 rfl h1.1 ⟨_, h1.2, by decide, rfl⟩ ⟨by decide, by decide, Nat.zero_le _, Nat.zero_le _⟩ (Nat.le_of_ble_eq_true rfl) dX12_day_6 rfl hn (fun z4 hf => ?_)
  refine V_iconst (v := (0 : Int32)) dX12_day_9 (by decide) ?_
  refine V_istore_n (ls2 := [(1, .int (0 : Int32)), (0, .ref a0)]) dX12_day_10 rfl (by decide) rfl ?_
  obtain ⟨N, hf⟩ := hf
  refine V_to [1, 0] rfl ?_
  exact vX12_day_L11 hn N _ _ _ hf
def wX12_both_J96 (n : Nat) (sh : Nat → Nat × Nat) (P : Int32 → gS → Prop) (z : gS) : Prop := P (1 : Int32) z
set_option maxRecDepth 100000 in
set_option maxHeartbeats 4000000 in
theorem vX12_both_J96 {E : gE} {n : Nat} {sh : Nat → Nat × Nat} {P : Int32 → gS → Prop} {z : gS} (hn : gOK E n) (hf : wX12_both_J96 n sh P z) : V E (gR 0 0) gyX12_both 0 0 96 [] [] n sh z (kI n sh P) := by
  unfold wX12_both_J96 at hf
  refine V_iconst (v := (1 : Int32)) dX12_both_96 (by decide) ?_
  refine V_goto (tgt := 101) dX12_both_97 (by decide) ?_
  exact V_ireturn dX12_both_101 rfl rfl (Nat.le_refl 0) (kI_of hf)
def wX12_both (n : Nat) (sh : Nat → Nat × Nat) (x0 : Int32) (x1 : Int32) (x2 : Int32) (z : gS) (P : Int32 → gS → Prop) : Prop := if x0 = (4 : Int32) then P (x1 + x2) z else (if x0 = (5 : Int32) then P (x1 - x2) z else (if x0 = (6 : Int32) then P (x1 * x2) z else (if x0 = (7 : Int32) then (if x2 ≤ x1 then P (0 : Int32) z else P (1 : Int32) z) else (if x0 = (8 : Int32) then (if x1 = x2 then P (1 : Int32) z else P (0 : Int32) z) else (if x0 = (9 : Int32) then (if x1 = 0 then P (0 : Int32) z else (if x2 = 0 then P (0 : Int32) z else P (1 : Int32) z)) else (if x1 = 0 then (if x2 = 0 then P (0 : Int32) z else wX12_both_J96 n sh P  z) else wX12_both_J96 n sh P  z))))))
set_option maxRecDepth 100000 in
set_option maxHeartbeats 4000000 in
theorem ctX12_both {E : gE} {n : Nat} {sh : Nat → Nat × Nat} {x0 : Int32} {x1 : Int32} {x2 : Int32} {z : gS} {P : Int32 → gS → Prop} (hn : gOK E n) (hf : wX12_both n sh x0 x1 x2 z P) : VM E 0 0 gyX12_both [.int x0, .int x1, .int x2] n sh z (kI n sh P) := by
  unfold wX12_both at hf
  refine VM.of (by decide +kernel) (Nat.le_of_ble_eq_true rfl) (fun _ _ _ h => h.2.2) ?_
  show V E (gR 0 0) gyX12_both 0 0 0 [(0, .int x0), (1, .int x1), (2, .int x2)] [] n sh z (kI n sh P)
  refine V_iload_n (j := 0) dX12_both_0 rfl rfl ?_
  by_cases h1 : x0 = (4 : Int32)
  · have hf := it_t h1 hf
    refine V_tableIn (off := 39) (tgt := 40) dX12_both_1 (by rw [h1]; decide) (by rw [h1]; decide) (by rw [h1]; decide) (by decide) ?_
    refine V_iload_n (j := 1) dX12_both_40 rfl rfl ?_
    refine V_iload_n (j := 2) dX12_both_41 rfl rfl ?_
    refine V_iadd dX12_both_42 ?_
    exact V_ireturn dX12_both_43 rfl rfl (Nat.le_refl 0) (kI_of hf)
  · have hf := it_f h1 hf
    by_cases h2 : x0 = (5 : Int32)
    · have hf := it_t h2 hf
      refine V_tableIn (off := 43) (tgt := 44) dX12_both_1 (by rw [h2]; decide) (by rw [h2]; decide) (by rw [h2]; decide) (by decide) ?_
      refine V_iload_n (j := 1) dX12_both_44 rfl rfl ?_
      refine V_iload_n (j := 2) dX12_both_45 rfl rfl ?_
      refine V_isub dX12_both_46 ?_
      exact V_ireturn dX12_both_47 rfl rfl (Nat.le_refl 0) (kI_of hf)
    · have hf := it_f h2 hf
      by_cases h3 : x0 = (6 : Int32)
      · have hf := it_t h3 hf
        refine V_tableIn (off := 47) (tgt := 48) dX12_both_1 (by rw [h3]; decide) (by rw [h3]; decide) (by rw [h3]; decide) (by decide) ?_
        refine V_iload_n (j := 1) dX12_both_48 rfl rfl ?_
        refine V_iload_n (j := 2) dX12_both_49 rfl rfl ?_
        refine V_imul dX12_both_50 ?_
        exact V_ireturn dX12_both_51 rfl rfl (Nat.le_refl 0) (kI_of hf)
      · have hf := it_f h3 hf
        by_cases h4 : x0 = (7 : Int32)
        · have hf := it_t h4 hf
          refine V_tableIn (off := 51) (tgt := 52) dX12_both_1 (by rw [h4]; decide) (by rw [h4]; decide) (by rw [h4]; decide) (by decide) ?_
          refine V_iload_n (j := 1) dX12_both_52 rfl rfl ?_
          refine V_iload_n (j := 2) dX12_both_53 rfl rfl ?_
          refine V_icmp_ge (tgt := 61) dX12_both_54 (by decide) (fun h5 => ?_) (fun h5 => ?_)
          · have hf := it_t h5 hf
            refine V_iconst (v := (0 : Int32)) dX12_both_61 (by decide) ?_
            exact V_ireturn dX12_both_62 rfl rfl (Nat.le_refl 0) (kI_of hf)
          · have hf := it_f h5 hf
            refine V_iconst (v := (1 : Int32)) dX12_both_57 (by decide) ?_
            refine V_goto (tgt := 62) dX12_both_58 (by decide) ?_
            exact V_ireturn dX12_both_62 rfl rfl (Nat.le_refl 0) (kI_of hf)
        · have hf := it_f h4 hf
          by_cases h6 : x0 = (8 : Int32)
          · have hf := it_t h6 hf
            refine V_tableIn (off := 62) (tgt := 63) dX12_both_1 (by rw [h6]; decide) (by rw [h6]; decide) (by rw [h6]; decide) (by decide) ?_
            refine V_iload_n (j := 1) dX12_both_63 rfl rfl ?_
            refine V_iload_n (j := 2) dX12_both_64 rfl rfl ?_
            refine V_icmp_ne (tgt := 72) dX12_both_65 (by decide) (fun h7 => ?_) (fun h7 => ?_)
            · have hf := it_f h7 hf
              refine V_iconst (v := (0 : Int32)) dX12_both_72 (by decide) ?_
              exact V_ireturn dX12_both_73 rfl rfl (Nat.le_refl 0) (kI_of hf)
            · have hf := it_t (Classical.not_not.mp h7) hf
              refine V_iconst (v := (1 : Int32)) dX12_both_68 (by decide) ?_
              refine V_goto (tgt := 73) dX12_both_69 (by decide) ?_
              exact V_ireturn dX12_both_73 rfl rfl (Nat.le_refl 0) (kI_of hf)
          · have hf := it_f h6 hf
            by_cases h8 : x0 = (9 : Int32)
            · have hf := it_t h8 hf
              refine V_tableIn (off := 73) (tgt := 74) dX12_both_1 (by rw [h8]; decide) (by rw [h8]; decide) (by rw [h8]; decide) (by decide) ?_
              refine V_iload_n (j := 1) dX12_both_74 rfl rfl ?_
              refine V_if_eq (tgt := 86) dX12_both_75 (by decide) (fun h10 => ?_) (fun h10 => ?_)
              · have hf := it_t h10 hf
                refine V_iconst (v := (0 : Int32)) dX12_both_86 (by decide) ?_
                exact V_ireturn dX12_both_87 rfl rfl (Nat.le_refl 0) (kI_of hf)
              · have hf := it_f h10 hf
                refine V_iload_n (j := 2) dX12_both_78 rfl rfl ?_
                refine V_if_eq (tgt := 86) dX12_both_79 (by decide) (fun h9 => ?_) (fun h9 => ?_)
                · have hf := it_t h9 hf
                  refine V_iconst (v := (0 : Int32)) dX12_both_86 (by decide) ?_
                  exact V_ireturn dX12_both_87 rfl rfl (Nat.le_refl 0) (kI_of hf)
                · have hf := it_f h9 hf
                  refine V_iconst (v := (1 : Int32)) dX12_both_82 (by decide) ?_
                  refine V_goto (tgt := 87) dX12_both_83 (by decide) ?_
                  exact V_ireturn dX12_both_87 rfl rfl (Nat.le_refl 0) (kI_of hf)
            · have hf := it_f h8 hf
              refine V_tableOut (tgt := 88) dX12_both_1 (by have qh1 := sw_ne (a := 4) h1 (by decide); have qh2 := sw_ne (a := 5) h2 (by decide); have qh3 := sw_ne (a := 6) h3 (by decide); have qh4 := sw_ne (a := 7) h4 (by decide); have qh6 := sw_ne (a := 8) h6 (by decide); have qh8 := sw_ne (a := 9) h8 (by decide); omega) (by decide) ?_
              refine V_iload_n (j := 1) dX12_both_88 rfl rfl ?_
              refine V_if_ne (tgt := 96) dX12_both_89 (by decide) (fun h12 => ?_) (fun h12 => ?_)
              · have hf := it_f h12 hf
                refine V_to [] rfl ?_
                exact vX12_both_J96 hn hf
              · have hf := it_t (Classical.not_not.mp h12) hf
                refine V_iload_n (j := 2) dX12_both_92 rfl rfl ?_
                refine V_if_eq (tgt := 100) dX12_both_93 (by decide) (fun h11 => ?_) (fun h11 => ?_)
                · have hf := it_t h11 hf
                  refine V_iconst (v := (0 : Int32)) dX12_both_100 (by decide) ?_
                  exact V_ireturn dX12_both_101 rfl rfl (Nat.le_refl 0) (kI_of hf)
                · have hf := it_f h11 hf
                  refine V_to [] rfl ?_
                  exact vX12_both_J96 hn hf
def wX12_worthAt_J134 (n : Nat) (sh : Nat → Nat × Nat) (k4 : Nat → Int32 → Int32 → gS → Prop) (P : Int32 → gS → Prop) (a0 : Nat) (x2 : Int32) (x3 : Int32) (z : gS) : Prop := ∀ v24 : Int32, v24 = x3 + (1 : Int32) → k4 a0 x2 v24 z
set_option maxRecDepth 100000 in
set_option maxHeartbeats 4000000 in
theorem vX12_worthAt_J134 {E : gE} {n : Nat} {sh : Nat → Nat × Nat} {P : Int32 → gS → Prop} {k4 : Nat → Int32 → Int32 → gS → Prop} {a0 : Nat} {x2 : Int32} {x3 : Int32} {z : gS} (hn : gOK E n) (hk4 : ∀ (a0 : Nat) (x2 : Int32) (x3 : Int32) (z : gS), k4 a0 x2 x3 z → V E (gR 1 0) gyX12_worthAt 0 0 4 [(0, .ref a0), (2, .int x2), (3, .int x3)] [] n sh z (kI n sh P)) (hf : wX12_worthAt_J134 n sh k4 P a0 x2 x3 z) : V E (gR 1 0) gyX12_worthAt 0 0 134 [(0, .ref a0), (2, .int x2), (3, .int x3)] [] n sh z (kI n sh P) := by
  unfold wX12_worthAt_J134 at hf
  obtain ⟨v24, ev24⟩ : ∃ y : Int32, y = x3 + (1 : Int32) := ⟨_, rfl⟩
  refine V_iinc (j := 2) (v := v24) (ls2 := [(3, .int v24), (0, .ref a0), (2, .int x2)]) dX12_worthAt_134 rfl (by rw [ev24]; rfl) (by decide) rfl ?_
  have hf := hf v24 ev24
  refine V_goto (tgt := 4) dX12_worthAt_137 (by decide) ?_
  refine V_to [1, 2, 0] rfl ?_
  exact hk4 _ _ _ _ hf
def wX12_worthAt_J64 (n : Nat) (sh : Nat → Nat × Nat) (k4 : Nat → Int32 → Int32 → gS → Prop) (P : Int32 → gS → Prop) (a0 : Nat) (x2 : Int32) (x3 : Int32) (s0 : Int32) (s1 : Int32) (s2 : Nat) (z : gS) : Prop := (oA n sh s2 1) ∧ ((vp_in s1 (sh s2).2) ∧ (∀ z22 : gS, z22 = si z s2 s1.toNatClampNeg s0 → (∀ v23 : Int32, v23 = x2 + (1 : Int32) → wX12_worthAt_J134 n sh k4 P a0 v23 x3 z22)))
set_option maxRecDepth 100000 in
set_option maxHeartbeats 4000000 in
theorem vX12_worthAt_J64 {E : gE} {n : Nat} {sh : Nat → Nat × Nat} {P : Int32 → gS → Prop} {k4 : Nat → Int32 → Int32 → gS → Prop} {a0 : Nat} {x2 : Int32} {x3 : Int32} {s0 : Int32} {s1 : Int32} {s2 : Nat} {z : gS} (hn : gOK E n) (hk4 : ∀ (a0 : Nat) (x2 : Int32) (x3 : Int32) (z : gS), k4 a0 x2 x3 z → V E (gR 1 0) gyX12_worthAt 0 0 4 [(0, .ref a0), (2, .int x2), (3, .int x3)] [] n sh z (kI n sh P)) (hf : wX12_worthAt_J64 n sh k4 P a0 x2 x3 s0 s1 s2 z) : V E (gR 1 0) gyX12_worthAt 0 0 64 [(0, .ref a0), (2, .int x2), (3, .int x3)] [.int s0, .int s1, .ref s2] n sh z (kI n sh P) := by
  unfold wX12_worthAt_J64 at hf
  obtain ⟨h20, hf⟩ := hf
  obtain ⟨h21, hf⟩ := hf
  refine V_iast h20.1 h20.s h21 dX12_worthAt_64 ?_
  refine V_nz (fun z22 ez22 => ?_)
  have hf := hf z22 ez22
  obtain ⟨v23, ev23⟩ : ∃ y : Int32, y = x2 + (1 : Int32) := ⟨_, rfl⟩
  refine V_iinc (j := 1) (v := v23) (ls2 := [(2, .int v23), (0, .ref a0), (3, .int x3)]) dX12_worthAt_65 rfl (by rw [ev23]; rfl) (by decide) rfl ?_
  have hf := hf v23 ev23
  refine V_goto (tgt := 134) dX12_worthAt_68 (by decide) ?_
  refine V_to [1, 0, 2] rfl ?_
  exact vX12_worthAt_J134 hn hk4 hf
def wX12_worthAt_J33 (n : Nat) (sh : Nat → Nat × Nat) (k4 : Nat → Int32 → Int32 → gS → Prop) (P : Int32 → gS → Prop) (a0 : Nat) (x2 : Int32) (x3 : Int32) (x4 : Int32) (z : gS) : Prop := (oO n sh a0 8) ∧ (∃ t13 : Nat, gr z a0 23 = some t13 ∧ (if x4 = (1 : Int32) then (∃ t25 : Nat, gr z a0 12 = some t25 ∧ ((oA n sh t25 1) ∧ ((vp_in x3 (sh t25).2) ∧ wX12_worthAt_J64 n sh k4 P a0 x2 x3 (gi z t25 x3.toNatClampNeg) x2 t13 z))) else (∃ t14 : Nat, gr z a0 22 = some t14 ∧ (∃ t15 : Nat, gr z a0 12 = some t15 ∧ ((oA n sh t15 1) ∧ ((vp_in x3 (sh t15).2) ∧ ((oA n sh t14 1) ∧ ((vp_in (gi z t15 x3.toNatClampNeg) (sh t14).2) ∧ wX12_worthAt_J64 n sh k4 P a0 x2 x3 (gi z t14 (gi z t15 x3.toNatClampNeg).toNatClampNeg) x2 t13 z))))))))
set_option maxRecDepth 100000 in
set_option maxHeartbeats 4000000 in
theorem vX12_worthAt_J33 {E : gE} {n : Nat} {sh : Nat → Nat × Nat} {P : Int32 → gS → Prop} {k4 : Nat → Int32 → Int32 → gS → Prop} {a0 : Nat} {x2 : Int32} {x3 : Int32} {x4 : Int32} {z : gS} (hn : gOK E n) (hk4 : ∀ (a0 : Nat) (x2 : Int32) (x3 : Int32) (z : gS), k4 a0 x2 x3 z → V E (gR 1 0) gyX12_worthAt 0 0 4 [(0, .ref a0), (2, .int x2), (3, .int x3)] [] n sh z (kI n sh P)) (hf : wX12_worthAt_J33 n sh k4 P a0 x2 x3 x4 z) : V E (gR 1 0) gyX12_worthAt 0 0 33 [(0, .ref a0), (2, .int x2), (3, .int x3), (4, .int x4)] [] n sh z (kI n sh P) := by
  unfold wX12_worthAt_J33 at hf
  refine V_aload_n (j := 0) dX12_worthAt_33 rfl rfl ?_
  obtain ⟨h12, hf⟩ := hf
  obtain ⟨t13, et13, hf⟩ := hf
  refine V_getR fl_X12_116 rfl h12.1 h12.2 et13 dX12_worthAt_34 ?_
  refine V_iload_n (j := 1) dX12_worthAt_37 rfl rfl ?_
  refine V_iload (j := 3) dX12_worthAt_38 rfl ?_
  refine V_iconst (v := (1 : Int32)) dX12_worthAt_40 (by decide) ?_
  refine V_icmp_ne (tgt := 53) dX12_worthAt_41 (by decide) (fun h28 => ?_) (fun h28 => ?_)
  · have hf := it_f h28 hf
    refine V_aload_n (j := 0) dX12_worthAt_53 rfl rfl ?_
    obtain ⟨t14, et14, hf⟩ := hf
    refine V_getR fl_X12_113 rfl h12.1 h12.2 et14 dX12_worthAt_54 ?_
    refine V_aload_n (j := 0) dX12_worthAt_57 rfl rfl ?_
    obtain ⟨t15, et15, hf⟩ := hf
    refine V_getR fl_X12_95 rfl h12.1 h12.2 et15 dX12_worthAt_58 ?_
    refine V_iload_n (j := 2) dX12_worthAt_61 rfl rfl ?_
    obtain ⟨h16, hf⟩ := hf
    obtain ⟨h17, hf⟩ := hf
    refine V_iald h16.1 h16.s h17 dX12_worthAt_62 ?_
    obtain ⟨h18, hf⟩ := hf
    obtain ⟨h19, hf⟩ := hf
    refine V_iald h18.1 h18.s h19 dX12_worthAt_63 ?_
    refine V_to [0, 1, 2] rfl ?_
    exact vX12_worthAt_J64 hn hk4 hf
  · have hf := it_t (Classical.not_not.mp h28) hf
    refine V_aload_n (j := 0) dX12_worthAt_44 rfl rfl ?_
    obtain ⟨t25, et25, hf⟩ := hf
    refine V_getR fl_X12_95 rfl h12.1 h12.2 et25 dX12_worthAt_45 ?_
    refine V_iload_n (j := 2) dX12_worthAt_48 rfl rfl ?_
    obtain ⟨h26, hf⟩ := hf
    obtain ⟨h27, hf⟩ := hf
    refine V_iald h26.1 h26.s h27 dX12_worthAt_49 ?_
    refine V_goto (tgt := 64) dX12_worthAt_50 (by decide) ?_
    refine V_to [0, 1, 2] rfl ?_
    exact vX12_worthAt_J64 hn hk4 hf
def wX12_worthAt_J100 (n : Nat) (sh : Nat → Nat × Nat) (k4 : Nat → Int32 → Int32 → gS → Prop) (P : Int32 → gS → Prop) (a0 : Nat) (x2 : Int32) (x3 : Int32) (s0 : Int32) (s1 : Int32) (s2 : Nat) (z : gS) : Prop := (oA n sh s2 1) ∧ ((vp_in s1 (sh s2).2) ∧ (∀ z48 : gS, z48 = si z s2 s1.toNatClampNeg s0 → wX12_worthAt_J134 n sh k4 P a0 x2 x3 z48))
set_option maxRecDepth 100000 in
set_option maxHeartbeats 4000000 in
theorem vX12_worthAt_J100 {E : gE} {n : Nat} {sh : Nat → Nat × Nat} {P : Int32 → gS → Prop} {k4 : Nat → Int32 → Int32 → gS → Prop} {a0 : Nat} {x2 : Int32} {x3 : Int32} {s0 : Int32} {s1 : Int32} {s2 : Nat} {z : gS} (hn : gOK E n) (hk4 : ∀ (a0 : Nat) (x2 : Int32) (x3 : Int32) (z : gS), k4 a0 x2 x3 z → V E (gR 1 0) gyX12_worthAt 0 0 4 [(0, .ref a0), (2, .int x2), (3, .int x3)] [] n sh z (kI n sh P)) (hf : wX12_worthAt_J100 n sh k4 P a0 x2 x3 s0 s1 s2 z) : V E (gR 1 0) gyX12_worthAt 0 0 100 [(0, .ref a0), (2, .int x2), (3, .int x3)] [.int s0, .int s1, .ref s2] n sh z (kI n sh P) := by
  unfold wX12_worthAt_J100 at hf
  obtain ⟨h46, hf⟩ := hf
  obtain ⟨h47, hf⟩ := hf
  refine V_iast h46.1 h46.s h47 dX12_worthAt_100 ?_
  refine V_nz (fun z48 ez48 => ?_)
  have hf := hf z48 ez48
  refine V_goto (tgt := 134) dX12_worthAt_101 (by decide) ?_
  exact vX12_worthAt_J134 hn hk4 hf
def wX12_worthAt_B4 (n : Nat) (sh : Nat → Nat × Nat) (k4 : Nat → Int32 → Int32 → gS → Prop) (P : Int32 → gS → Prop) (a0 : Nat) (x2 : Int32) (x3 : Int32) (z : gS) : Prop := (oO n sh a0 8) ∧ (∃ t2 : Nat, gr z a0 11 = some t2 ∧ ((oA n sh t2 1) ∧ ((vp_in x3 (sh t2).2) ∧ (if (gi z t2 x3.toNatClampNeg) = 0 then (∃ t5 : Nat, gr z a0 23 = some t5 ∧ ((oA n sh t5 1) ∧ ((vp_in (0 : Int32) (sh t5).2) ∧ P (gi z t5 (0 : Int32).toNatClampNeg) z))) else (∃ t8 : Nat, gr z a0 11 = some t8 ∧ ((oA n sh t8 1) ∧ ((vp_in x3 (sh t8).2) ∧ (∀ v11 : Int32, v11 = (gi z t8 x3.toNatClampNeg) → (if v11 = (1 : Int32) then wX12_worthAt_J33 n sh k4 P a0 x2 x3 v11 z else (if v11 = (2 : Int32) then wX12_worthAt_J33 n sh k4 P a0 x2 x3 v11 z else (if v11 = (3 : Int32) then (∃ t42 : Nat, gr z a0 23 = some t42 ∧ (∃ t43 : Nat, gr z a0 23 = some t43 ∧ ((oA n sh t43 1) ∧ ((vp_in (x2 - (1 : Int32)) (sh t43).2) ∧ (if (gi z t43 (x2 - (1 : Int32)).toNatClampNeg) = 0 then wX12_worthAt_J100 n sh k4 P a0 x2 x3 (1 : Int32) (x2 - (1 : Int32)) t42 z else wX12_worthAt_J100 n sh k4 P a0 x2 x3 (0 : Int32) (x2 - (1 : Int32)) t42 z))))) else (∀ v29 : Int32, v29 = x2 + (-1 : Int32) → (∃ t30 : Nat, gr z a0 23 = some t30 ∧ (∃ t31 : Nat, gr z a0 23 = some t31 ∧ ((oA n sh t31 1) ∧ ((vp_in (v29 - (1 : Int32)) (sh t31).2) ∧ (∃ t34 : Nat, gr z a0 23 = some t34 ∧ ((oA n sh t34 1) ∧ ((vp_in v29 (sh t34).2) ∧ (wX12_both n sh v11 (gi z t31 (v29 - (1 : Int32)).toNatClampNeg) (gi z t34 v29.toNatClampNeg) z (fun (r37 : Int32) (z38 : gS) => (oA n sh t30 1) ∧ ((vp_in (v29 - (1 : Int32)) (sh t30).2) ∧ (∀ z41 : gS, z41 = si z38 t30 (v29 - (1 : Int32)).toNatClampNeg r37 → wX12_worthAt_J134 n sh k4 P a0 v29 x3 z41)))))))))))))))))))))))
def wX12_worthAt_L4 (n : Nat) (sh : Nat → Nat × Nat) (P : Int32 → gS → Prop) : Nat → Nat → Int32 → Int32 → gS → Prop
  | 0, _, _, _, _ => False
  | N + 1, a0, x2, x3, z => wX12_worthAt_B4 n sh (wX12_worthAt_L4 n sh P N) P a0 x2 x3 z
set_option maxRecDepth 100000 in
set_option maxHeartbeats 4000000 in
theorem vX12_worthAt_B4 {E : gE} {n : Nat} {sh : Nat → Nat × Nat} {P : Int32 → gS → Prop} {k4 : Nat → Int32 → Int32 → gS → Prop} {a0 : Nat} {x2 : Int32} {x3 : Int32} {z : gS} (hn : gOK E n) (hk4 : ∀ (a0 : Nat) (x2 : Int32) (x3 : Int32) (z : gS), k4 a0 x2 x3 z → V E (gR 1 0) gyX12_worthAt 0 0 4 [(0, .ref a0), (2, .int x2), (3, .int x3)] [] n sh z (kI n sh P)) (hf : wX12_worthAt_B4 n sh k4 P a0 x2 x3 z) : V E (gR 1 0) gyX12_worthAt 0 0 4 [(0, .ref a0), (2, .int x2), (3, .int x3)] [] n sh z (kI n sh P) := by
  unfold wX12_worthAt_B4 at hf
  refine V_aload_n (j := 0) dX12_worthAt_4 rfl rfl ?_
  obtain ⟨h1, hf⟩ := hf
  obtain ⟨t2, et2, hf⟩ := hf
  refine V_getR fl_X12_92 rfl h1.1 h1.2 et2 dX12_worthAt_5 ?_
  refine V_iload_n (j := 2) dX12_worthAt_8 rfl rfl ?_
  obtain ⟨h3, hf⟩ := hf
  obtain ⟨h4, hf⟩ := hf
  refine V_iald h3.1 h3.s h4 dX12_worthAt_9 ?_
  refine V_if_eq (tgt := 140) dX12_worthAt_10 (by decide) (fun h53 => ?_) (fun h53 => ?_)
  · have hf := it_t h53 hf
    refine V_aload_n (j := 0) dX12_worthAt_140 rfl rfl ?_
    obtain ⟨t5, et5, hf⟩ := hf
    refine V_getR fl_X12_116 rfl h1.1 h1.2 et5 dX12_worthAt_141 ?_
    refine V_iconst (v := (0 : Int32)) dX12_worthAt_144 (by decide) ?_
    obtain ⟨h6, hf⟩ := hf
    obtain ⟨h7, hf⟩ := hf
    refine V_iald h6.1 h6.s h7 dX12_worthAt_145 ?_
    exact V_ireturn dX12_worthAt_146 rfl rfl (Nat.le_refl 0) (kI_of hf)
  · have hf := it_f h53 hf
    refine V_aload_n (j := 0) dX12_worthAt_13 rfl rfl ?_
    obtain ⟨t8, et8, hf⟩ := hf
    refine V_getR fl_X12_92 rfl h1.1 h1.2 et8 dX12_worthAt_14 ?_
    refine V_iload_n (j := 2) dX12_worthAt_17 rfl rfl ?_
    obtain ⟨h9, hf⟩ := hf
    obtain ⟨h10, hf⟩ := hf
    refine V_iald h9.1 h9.s h10 dX12_worthAt_18 ?_
    refine V_nI (fun v11 ev11 => ?_)
    have hf := hf v11 ev11
    refine V_istore (ls2 := [(4, .int v11), (0, .ref a0), (2, .int x2), (3, .int x3)]) dX12_worthAt_19 (by decide) rfl ?_
    refine V_iload (j := 0) dX12_worthAt_21 rfl ?_
    refine V_iconst (v := (1 : Int32)) dX12_worthAt_23 (by decide) ?_
    refine V_icmp_eq (tgt := 33) dX12_worthAt_24 (by decide) (fun h52 => ?_) (fun h52 => ?_)
    · have hf := it_t h52 hf
      refine V_to [1, 2, 3, 0] rfl ?_
      exact vX12_worthAt_J33 hn hk4 hf
    · have hf := it_f h52 hf
      refine V_iload (j := 0) dX12_worthAt_27 rfl ?_
      refine V_iconst (v := (2 : Int32)) dX12_worthAt_29 (by decide) ?_
      refine V_icmp_ne (tgt := 71) dX12_worthAt_30 (by decide) (fun h51 => ?_) (fun h51 => ?_)
      · have hf := it_f h51 hf
        refine V_iload (j := 0) dX12_worthAt_71 rfl ?_
        refine V_iconst (v := (3 : Int32)) dX12_worthAt_73 (by decide) ?_
        refine V_icmp_ne (tgt := 104) dX12_worthAt_74 (by decide) (fun h50 => ?_) (fun h50 => ?_)
        · have hf := it_f h50 hf
          obtain ⟨v29, ev29⟩ : ∃ y : Int32, y = x2 + (-1 : Int32) := ⟨_, rfl⟩
          refine V_iinc (j := 2) (v := v29) (ls2 := [(2, .int v29), (4, .int v11), (0, .ref a0), (3, .int x3)]) dX12_worthAt_104 rfl (by rw [ev29]; rfl) (by decide) rfl ?_
          have hf := hf v29 ev29
          refine V_aload_n (j := 2) dX12_worthAt_107 rfl rfl ?_
          obtain ⟨t30, et30, hf⟩ := hf
          refine V_getR fl_X12_116 rfl h1.1 h1.2 et30 dX12_worthAt_108 ?_
          refine V_iload_n (j := 0) dX12_worthAt_111 rfl rfl ?_
          refine V_iconst (v := (1 : Int32)) dX12_worthAt_112 (by decide) ?_
          refine V_isub dX12_worthAt_113 ?_
          refine V_iload (j := 1) dX12_worthAt_114 rfl ?_
          refine V_aload_n (j := 2) dX12_worthAt_116 rfl rfl ?_
          obtain ⟨t31, et31, hf⟩ := hf
          refine V_getR fl_X12_116 rfl h1.1 h1.2 et31 dX12_worthAt_117 ?_
          refine V_iload_n (j := 0) dX12_worthAt_120 rfl rfl ?_
          refine V_iconst (v := (1 : Int32)) dX12_worthAt_121 (by decide) ?_
          refine V_isub dX12_worthAt_122 ?_
          obtain ⟨h32, hf⟩ := hf
          obtain ⟨h33, hf⟩ := hf
          refine V_iald h32.1 h32.s h33 dX12_worthAt_123 ?_
          refine V_aload_n (j := 2) dX12_worthAt_124 rfl rfl ?_
          obtain ⟨t34, et34, hf⟩ := hf
          refine V_getR fl_X12_116 rfl h1.1 h1.2 et34 dX12_worthAt_125 ?_
          refine V_iload_n (j := 0) dX12_worthAt_128 rfl rfl ?_
          obtain ⟨h35, hf⟩ := hf
          obtain ⟨h36, hf⟩ := hf
          refine V_iald h35.1 h35.s h36 dX12_worthAt_129 ?_
          refine V_cSI (ctX12_both hn hf) gc_X12_262 rfl ⟨by decide, by decide, Nat.zero_le _, Nat.zero_le _⟩ (Nat.le_of_ble_eq_true rfl) dX12_worthAt_130 rfl hn (fun r37 z38 hf => ?_)
          obtain ⟨h39, hf⟩ := hf
          obtain ⟨h40, hf⟩ := hf
          refine V_iast h39.1 h39.s h40 dX12_worthAt_133 ?_
          refine V_nz (fun z41 ez41 => ?_)
          have hf := hf z41 ez41
          refine V_to [2, 0, 3] rfl ?_
          exact vX12_worthAt_J134 hn hk4 hf
        · have hf := it_t (Classical.not_not.mp h50) hf
          refine V_aload_n (j := 1) dX12_worthAt_77 rfl rfl ?_
          obtain ⟨t42, et42, hf⟩ := hf
          refine V_getR fl_X12_116 rfl h1.1 h1.2 et42 dX12_worthAt_78 ?_
          refine V_iload_n (j := 2) dX12_worthAt_81 rfl rfl ?_
          refine V_iconst (v := (1 : Int32)) dX12_worthAt_82 (by decide) ?_
          refine V_isub dX12_worthAt_83 ?_
          refine V_aload_n (j := 1) dX12_worthAt_84 rfl rfl ?_
          obtain ⟨t43, et43, hf⟩ := hf
          refine V_getR fl_X12_116 rfl h1.1 h1.2 et43 dX12_worthAt_85 ?_
          refine V_iload_n (j := 2) dX12_worthAt_88 rfl rfl ?_
          refine V_iconst (v := (1 : Int32)) dX12_worthAt_89 (by decide) ?_
          refine V_isub dX12_worthAt_90 ?_
          obtain ⟨h44, hf⟩ := hf
          obtain ⟨h45, hf⟩ := hf
          refine V_iald h44.1 h44.s h45 dX12_worthAt_91 ?_
          refine V_if_ne (tgt := 99) dX12_worthAt_92 (by decide) (fun h49 => ?_) (fun h49 => ?_)
          · have hf := it_f h49 hf
            refine V_iconst (v := (0 : Int32)) dX12_worthAt_99 (by decide) ?_
            refine V_to [1, 2, 3] rfl ?_
            exact vX12_worthAt_J100 hn hk4 hf
          · have hf := it_t (Classical.not_not.mp h49) hf
            refine V_iconst (v := (1 : Int32)) dX12_worthAt_95 (by decide) ?_
            refine V_goto (tgt := 100) dX12_worthAt_96 (by decide) ?_
            refine V_to [1, 2, 3] rfl ?_
            exact vX12_worthAt_J100 hn hk4 hf
      · have hf := it_t (Classical.not_not.mp h51) hf
        refine V_to [1, 2, 3, 0] rfl ?_
        exact vX12_worthAt_J33 hn hk4 hf
set_option maxRecDepth 100000 in
set_option maxHeartbeats 4000000 in
theorem vX12_worthAt_L4 {E : gE} {n : Nat} {sh : Nat → Nat × Nat} {P : Int32 → gS → Prop} (hn : gOK E n) : ∀ (N : Nat) (a0 : Nat) (x2 : Int32) (x3 : Int32) (z : gS), wX12_worthAt_L4 n sh P N a0 x2 x3 z → V E (gR 1 0) gyX12_worthAt 0 0 4 [(0, .ref a0), (2, .int x2), (3, .int x3)] [] n sh z (kI n sh P) := by
  intro N
  induction N with
  | zero => intro a0 x2 x3 z hf; exact False.elim hf
  | succ N ih => intro a0 x2 x3 z hf; exact vX12_worthAt_B4 hn ih hf
def wX12_worthAt (n : Nat) (sh : Nat → Nat × Nat) (a0 : Nat) (x1 : Int32) (z : gS) (P : Int32 → gS → Prop) : Prop := (∃ N, wX12_worthAt_L4 n sh P N a0 (0 : Int32) x1 z)
set_option maxRecDepth 100000 in
set_option maxHeartbeats 4000000 in
theorem ctX12_worthAt {E : gE} {n : Nat} {sh : Nat → Nat × Nat} {a0 : Nat} {x1 : Int32} {z : gS} {P : Int32 → gS → Prop} (hn : gOK E n) (hf : wX12_worthAt n sh a0 x1 z P) : VM E 1 0 gyX12_worthAt [.ref a0, .int x1] n sh z (kI n sh P) := by
  unfold wX12_worthAt at hf
  refine VM.of (by decide +kernel) (Nat.le_of_ble_eq_true rfl) (fun _ _ _ h => h.2.2) ?_
  show V E (gR 1 0) gyX12_worthAt 0 0 0 [(0, .ref a0), (1, .int x1)] [] n sh z (kI n sh P)
  refine V_iconst (v := (0 : Int32)) dX12_worthAt_0 (by decide) ?_
  refine V_istore_n (ls2 := [(2, .int (0 : Int32)), (0, .ref a0), (1, .int x1)]) dX12_worthAt_1 rfl (by decide) rfl ?_
  refine V_iload_n (j := 2) dX12_worthAt_2 rfl rfl ?_
  refine V_istore_n (ls2 := [(3, .int x1), (2, .int (0 : Int32)), (0, .ref a0), (1, .int x1)]) dX12_worthAt_3 rfl (by decide) rfl ?_
  obtain ⟨N, hf⟩ := hf
  refine V_to [2, 1, 0] rfl ?_
  exact vX12_worthAt_L4 hn N _ _ _ _ hf
def wX12_copies_B3 (n : Nat) (sh : Nat → Nat × Nat) (k3 : Nat → Int32 → Int32 → Int32 → Int32 → gS → Prop) (P : gS → Prop) (a0 : Nat) (x1 : Int32) (x2 : Int32) (x3 : Int32) (x4 : Int32) (z : gS) : Prop := if x3 ≤ x4 then P z else ((oO n sh a0 8) ∧ (∃ t2 : Nat, gr z a0 24 = some t2 ∧ (∃ t3 : Nat, gr z a0 24 = some t3 ∧ ((oA n sh t3 1) ∧ ((vp_in (x1 + x4) (sh t3).2) ∧ ((oA n sh t2 1) ∧ ((vp_in (x2 + x4) (sh t2).2) ∧ (∀ z8 : gS, z8 = si z t2 (x2 + x4).toNatClampNeg (gi z t3 (x1 + x4).toNatClampNeg) → (∀ v9 : Int32, v9 = x4 + (1 : Int32) → k3 a0 x1 x2 x3 v9 z8)))))))))
def wX12_copies_L3 (n : Nat) (sh : Nat → Nat × Nat) (P : gS → Prop) : Nat → Nat → Int32 → Int32 → Int32 → Int32 → gS → Prop
  | 0, _, _, _, _, _, _ => False
  | N + 1, a0, x1, x2, x3, x4, z => wX12_copies_B3 n sh (wX12_copies_L3 n sh P N) P a0 x1 x2 x3 x4 z
set_option maxRecDepth 100000 in
set_option maxHeartbeats 4000000 in
theorem vX12_copies_B3 {E : gE} {n : Nat} {sh : Nat → Nat × Nat} {P : gS → Prop} {k3 : Nat → Int32 → Int32 → Int32 → Int32 → gS → Prop} {a0 : Nat} {x1 : Int32} {x2 : Int32} {x3 : Int32} {x4 : Int32} {z : gS} (hn : gOK E n) (hk3 : ∀ (a0 : Nat) (x1 : Int32) (x2 : Int32) (x3 : Int32) (x4 : Int32) (z : gS), k3 a0 x1 x2 x3 x4 z → V E (gR 0 0) gyX12_copies 0 0 3 [(0, .ref a0), (1, .int x1), (2, .int x2), (3, .int x3), (4, .int x4)] [] n sh z (kN n sh P)) (hf : wX12_copies_B3 n sh k3 P a0 x1 x2 x3 x4 z) : V E (gR 0 0) gyX12_copies 0 0 3 [(0, .ref a0), (1, .int x1), (2, .int x2), (3, .int x3), (4, .int x4)] [] n sh z (kN n sh P) := by
  unfold wX12_copies_B3 at hf
  refine V_iload (j := 4) dX12_copies_3 rfl ?_
  refine V_iload_n (j := 3) dX12_copies_5 rfl rfl ?_
  refine V_icmp_ge (tgt := 33) dX12_copies_6 (by decide) (fun h10 => ?_) (fun h10 => ?_)
  · have hf := it_t h10 hf
    exact V_return dX12_copies_33 rfl (Nat.le_refl 0) (kN_of hf)
  · have hf := it_f h10 hf
    refine V_aload_n (j := 0) dX12_copies_9 rfl rfl ?_
    obtain ⟨h1, hf⟩ := hf
    obtain ⟨t2, et2, hf⟩ := hf
    refine V_getR fl_X12_119 rfl h1.1 h1.2 et2 dX12_copies_10 ?_
    refine V_iload_n (j := 2) dX12_copies_13 rfl rfl ?_
    refine V_iload (j := 4) dX12_copies_14 rfl ?_
    refine V_iadd dX12_copies_16 ?_
    refine V_aload_n (j := 0) dX12_copies_17 rfl rfl ?_
    obtain ⟨t3, et3, hf⟩ := hf
    refine V_getR fl_X12_119 rfl h1.1 h1.2 et3 dX12_copies_18 ?_
    refine V_iload_n (j := 1) dX12_copies_21 rfl rfl ?_
    refine V_iload (j := 4) dX12_copies_22 rfl ?_
    refine V_iadd dX12_copies_24 ?_
    obtain ⟨h4, hf⟩ := hf
    obtain ⟨h5, hf⟩ := hf
    refine V_iald h4.1 h4.s h5 dX12_copies_25 ?_
    obtain ⟨h6, hf⟩ := hf
    obtain ⟨h7, hf⟩ := hf
    refine V_iast h6.1 h6.s h7 dX12_copies_26 ?_
    refine V_nz (fun z8 ez8 => ?_)
    have hf := hf z8 ez8
    obtain ⟨v9, ev9⟩ : ∃ y : Int32, y = x4 + (1 : Int32) := ⟨_, rfl⟩
    refine V_iinc (j := 4) (v := v9) (ls2 := [(4, .int v9), (0, .ref a0), (1, .int x1), (2, .int x2), (3, .int x3)]) dX12_copies_27 rfl (by rw [ev9]; rfl) (by decide) rfl ?_
    have hf := hf v9 ev9
    refine V_goto (tgt := 3) dX12_copies_30 (by decide) ?_
    refine V_to [1, 2, 3, 4, 0] rfl ?_
    exact hk3 _ _ _ _ _ _ hf
set_option maxRecDepth 100000 in
set_option maxHeartbeats 4000000 in
theorem vX12_copies_L3 {E : gE} {n : Nat} {sh : Nat → Nat × Nat} {P : gS → Prop} (hn : gOK E n) : ∀ (N : Nat) (a0 : Nat) (x1 : Int32) (x2 : Int32) (x3 : Int32) (x4 : Int32) (z : gS), wX12_copies_L3 n sh P N a0 x1 x2 x3 x4 z → V E (gR 0 0) gyX12_copies 0 0 3 [(0, .ref a0), (1, .int x1), (2, .int x2), (3, .int x3), (4, .int x4)] [] n sh z (kN n sh P) := by
  intro N
  induction N with
  | zero => intro a0 x1 x2 x3 x4 z hf; exact False.elim hf
  | succ N ih => intro a0 x1 x2 x3 x4 z hf; exact vX12_copies_B3 hn ih hf
def wX12_copies (n : Nat) (sh : Nat → Nat × Nat) (a0 : Nat) (x1 : Int32) (x2 : Int32) (x3 : Int32) (z : gS) (P : gS → Prop) : Prop := (∃ N, wX12_copies_L3 n sh P N a0 x1 x2 x3 (0 : Int32) z)
set_option maxRecDepth 100000 in
set_option maxHeartbeats 4000000 in
theorem ctX12_copies {E : gE} {n : Nat} {sh : Nat → Nat × Nat} {a0 : Nat} {x1 : Int32} {x2 : Int32} {x3 : Int32} {z : gS} {P : gS → Prop} (hn : gOK E n) (hf : wX12_copies n sh a0 x1 x2 x3 z P) : VM E 0 0 gyX12_copies [.ref a0, .int x1, .int x2, .int x3] n sh z (kN n sh P) := by
  unfold wX12_copies at hf
  refine VM.of (by decide +kernel) (Nat.le_of_ble_eq_true rfl) (fun _ _ _ h => h.2.2) ?_
  show V E (gR 0 0) gyX12_copies 0 0 0 [(0, .ref a0), (1, .int x1), (2, .int x2), (3, .int x3)] [] n sh z (kN n sh P)
  refine V_iconst (v := (0 : Int32)) dX12_copies_0 (by decide) ?_
  refine V_istore (ls2 := [(4, .int (0 : Int32)), (0, .ref a0), (1, .int x1), (2, .int x2), (3, .int x3)]) dX12_copies_1 (by decide) rfl ?_
  obtain ⟨N, hf⟩ := hf
  refine V_to [1, 2, 3, 4, 0] rfl ?_
  exact vX12_copies_L3 hn N _ _ _ _ _ _ hf
def wX12_keeps_J53 (n : Nat) (sh : Nat → Nat × Nat) (P : gS → Prop) (a0 : Nat) (z : gS) : Prop := (oO n sh a0 8) ∧ (wX12_copies n sh a0 (0 : Int32) ((66 : Int32) * ((5 : Int32) + (gi z a0 25))) (60 : Int32) z (fun (z4 : gS) => ∀ z5 : gS, z5 = si z4 a0 25 ((gi z4 a0 25) + (1 : Int32)) → P z5))
set_option maxRecDepth 100000 in
set_option maxHeartbeats 4000000 in
theorem vX12_keeps_J53 {E : gE} {n : Nat} {sh : Nat → Nat × Nat} {P : gS → Prop} {a0 : Nat} {z : gS} (hn : gOK E n) (hf : wX12_keeps_J53 n sh P a0 z) : V E (gR 1 0) gyX12_keeps 0 0 53 [(0, .ref a0)] [] n sh z (kN n sh P) := by
  unfold wX12_keeps_J53 at hf
  refine V_aload_n (j := 0) dX12_keeps_53 rfl rfl ?_
  refine V_iconst (v := (0 : Int32)) dX12_keeps_54 (by decide) ?_
  refine V_bipush (v := (66 : Int32)) dX12_keeps_55 (by decide) ?_
  refine V_iconst (v := (5 : Int32)) dX12_keeps_57 (by decide) ?_
  refine V_aload_n (j := 0) dX12_keeps_58 rfl rfl ?_
  obtain ⟨h2, hf⟩ := hf
  refine V_getI fl_X12_272 rfl h2.1 h2.2 dX12_keeps_59 ?_
  refine V_iadd dX12_keeps_62 ?_
  refine V_imul dX12_keeps_63 ?_
  refine V_bipush (v := (60 : Int32)) dX12_keeps_64 (by decide) ?_
  refine V_cVN (ctX12_copies hn hf) gc_X12_275 rfl h2.1 ⟨_, h2.2, by decide, rfl⟩ ⟨by decide, by decide, Nat.zero_le _, Nat.zero_le _⟩ (Nat.le_of_ble_eq_true rfl) dX12_keeps_66 rfl hn (fun z4 hf => ?_)
  refine V_aload_n (j := 0) dX12_keeps_69 rfl rfl ?_
  refine V_dup dX12_keeps_70 rfl ?_
  refine V_getI fl_X12_272 rfl h2.1 h2.2 dX12_keeps_71 ?_
  refine V_iconst (v := (1 : Int32)) dX12_keeps_74 (by decide) ?_
  refine V_iadd dX12_keeps_75 ?_
  refine V_putI fl_X12_272 rfl rfl rfl rfl h2.1 h2.2 dX12_keeps_76 ?_
  refine V_nz (fun z5 ez5 => ?_)
  have hf := hf z5 ez5
  exact V_return dX12_keeps_79 rfl (Nat.le_refl 0) (kN_of hf)
def wX12_keeps_B11 (n : Nat) (sh : Nat → Nat × Nat) (k11 : Nat → Int32 → gS → Prop) (P : gS → Prop) (a0 : Nat) (x1 : Int32) (z : gS) : Prop := if (16 : Int32) ≤ x1 then ((oO n sh a0 8) ∧ (∀ z7 : gS, z7 = si z a0 25 ((gi z a0 25) - (1 : Int32)) → wX12_keeps_J53 n sh P a0 z7)) else ((oO n sh a0 8) ∧ (wX12_copies n sh a0 ((66 : Int32) * ((5 : Int32) + x1)) ((66 : Int32) * (((5 : Int32) + x1) - (1 : Int32))) (60 : Int32) z (fun (z9 : gS) => ∀ v11 : Int32, v11 = x1 + (1 : Int32) → k11 a0 v11 z9)))
def wX12_keeps_L11 (n : Nat) (sh : Nat → Nat × Nat) (P : gS → Prop) : Nat → Nat → Int32 → gS → Prop
  | 0, _, _, _ => False
  | N + 1, a0, x1, z => wX12_keeps_B11 n sh (wX12_keeps_L11 n sh P N) P a0 x1 z
set_option maxRecDepth 100000 in
set_option maxHeartbeats 4000000 in
theorem vX12_keeps_B11 {E : gE} {n : Nat} {sh : Nat → Nat × Nat} {P : gS → Prop} {k11 : Nat → Int32 → gS → Prop} {a0 : Nat} {x1 : Int32} {z : gS} (hn : gOK E n) (hk11 : ∀ (a0 : Nat) (x1 : Int32) (z : gS), k11 a0 x1 z → V E (gR 1 0) gyX12_keeps 0 0 11 [(0, .ref a0), (1, .int x1)] [] n sh z (kN n sh P)) (hf : wX12_keeps_B11 n sh k11 P a0 x1 z) : V E (gR 1 0) gyX12_keeps 0 0 11 [(0, .ref a0), (1, .int x1)] [] n sh z (kN n sh P) := by
  unfold wX12_keeps_B11 at hf
  refine V_iload_n (j := 1) dX12_keeps_11 rfl rfl ?_
  refine V_bipush (v := (16 : Int32)) dX12_keeps_12 (by decide) ?_
  refine V_icmp_ge (tgt := 43) dX12_keeps_14 (by decide) (fun h12 => ?_) (fun h12 => ?_)
  · have hf := it_t h12 hf
    refine V_aload_n (j := 0) dX12_keeps_43 rfl rfl ?_
    refine V_dup dX12_keeps_44 rfl ?_
    obtain ⟨h6, hf⟩ := hf
    refine V_getI fl_X12_272 rfl h6.1 h6.2 dX12_keeps_45 ?_
    refine V_iconst (v := (1 : Int32)) dX12_keeps_48 (by decide) ?_
    refine V_isub dX12_keeps_49 ?_
    refine V_putI fl_X12_272 rfl rfl rfl rfl h6.1 h6.2 dX12_keeps_50 ?_
    refine V_nz (fun z7 ez7 => ?_)
    have hf := hf z7 ez7
    refine V_to [0] rfl ?_
    exact vX12_keeps_J53 hn hf
  · have hf := it_f h12 hf
    refine V_aload_n (j := 0) dX12_keeps_17 rfl rfl ?_
    refine V_bipush (v := (66 : Int32)) dX12_keeps_18 (by decide) ?_
    refine V_iconst (v := (5 : Int32)) dX12_keeps_20 (by decide) ?_
    refine V_iload_n (j := 1) dX12_keeps_21 rfl rfl ?_
    refine V_iadd dX12_keeps_22 ?_
    refine V_imul dX12_keeps_23 ?_
    refine V_bipush (v := (66 : Int32)) dX12_keeps_24 (by decide) ?_
    refine V_iconst (v := (5 : Int32)) dX12_keeps_26 (by decide) ?_
    refine V_iload_n (j := 1) dX12_keeps_27 rfl rfl ?_
    refine V_iadd dX12_keeps_28 ?_
    refine V_iconst (v := (1 : Int32)) dX12_keeps_29 (by decide) ?_
    refine V_isub dX12_keeps_30 ?_
    refine V_imul dX12_keeps_31 ?_
    refine V_bipush (v := (60 : Int32)) dX12_keeps_32 (by decide) ?_
    obtain ⟨h10, hf⟩ := hf
    refine V_cVN (ctX12_copies hn hf) gc_X12_275 rfl h10.1 ⟨_, h10.2, by decide, rfl⟩ ⟨by decide, by decide, Nat.zero_le _, Nat.zero_le _⟩ (Nat.le_of_ble_eq_true rfl) dX12_keeps_34 rfl hn (fun z9 hf => ?_)
    obtain ⟨v11, ev11⟩ : ∃ y : Int32, y = x1 + (1 : Int32) := ⟨_, rfl⟩
    refine V_iinc (j := 1) (v := v11) (ls2 := [(1, .int v11), (0, .ref a0)]) dX12_keeps_37 rfl (by rw [ev11]; rfl) (by decide) rfl ?_
    have hf := hf v11 ev11
    refine V_goto (tgt := 11) dX12_keeps_40 (by decide) ?_
    refine V_to [1, 0] rfl ?_
    exact hk11 _ _ _ hf
set_option maxRecDepth 100000 in
set_option maxHeartbeats 4000000 in
theorem vX12_keeps_L11 {E : gE} {n : Nat} {sh : Nat → Nat × Nat} {P : gS → Prop} (hn : gOK E n) : ∀ (N : Nat) (a0 : Nat) (x1 : Int32) (z : gS), wX12_keeps_L11 n sh P N a0 x1 z → V E (gR 1 0) gyX12_keeps 0 0 11 [(0, .ref a0), (1, .int x1)] [] n sh z (kN n sh P) := by
  intro N
  induction N with
  | zero => intro a0 x1 z hf; exact False.elim hf
  | succ N ih => intro a0 x1 z hf; exact vX12_keeps_B11 hn ih hf
def wX12_keeps (n : Nat) (sh : Nat → Nat × Nat) (a0 : Nat) (z : gS) (P : gS → Prop) : Prop := (oO n sh a0 8) ∧ (if (gi z a0 25) = (16 : Int32) then ((∃ N, wX12_keeps_L11 n sh P N a0 (1 : Int32) z)) else wX12_keeps_J53 n sh P a0 z)
set_option maxRecDepth 100000 in
set_option maxHeartbeats 4000000 in
theorem ctX12_keeps {E : gE} {n : Nat} {sh : Nat → Nat × Nat} {a0 : Nat} {z : gS} {P : gS → Prop} (hn : gOK E n) (hf : wX12_keeps n sh a0 z P) : VM E 1 0 gyX12_keeps [.ref a0] n sh z (kN n sh P) := by
  unfold wX12_keeps at hf
  refine VM.of (by decide +kernel) (Nat.le_of_ble_eq_true rfl) (fun _ _ _ h => h.2.2) ?_
  show V E (gR 1 0) gyX12_keeps 0 0 0 [(0, .ref a0)] [] n sh z (kN n sh P)
  refine V_aload_n (j := 0) dX12_keeps_0 rfl rfl ?_
  obtain ⟨h1, hf⟩ := hf
  refine V_getI fl_X12_272 rfl h1.1 h1.2 dX12_keeps_1 ?_
  refine V_bipush (v := (16 : Int32)) dX12_keeps_4 (by decide) ?_
  refine V_icmp_ne (tgt := 53) dX12_keeps_6 (by decide) (fun h13 => ?_) (fun h13 => ?_)
  · have hf := it_f h13 hf
    exact vX12_keeps_J53 hn hf
  · have hf := it_t (Classical.not_not.mp h13) hf
    refine V_iconst (v := (1 : Int32)) dX12_keeps_9 (by decide) ?_
    refine V_istore_n (ls2 := [(1, .int (1 : Int32)), (0, .ref a0)]) dX12_keeps_10 rfl (by decide) rfl ?_
    obtain ⟨N, hf⟩ := hf
    refine V_to [1, 0] rfl ?_
    exact vX12_keeps_L11 hn N _ _ _ hf
def wX12_panes (n : Nat) (sh : Nat → Nat × Nat) (a0 : Nat) (z : gS) (P : Int32 → gS → Prop) : Prop := (oO n sh a0 8) ∧ (∃ t2 : Nat, gr z a0 10 = some t2 ∧ ((oA n sh t2 1) ∧ ((vp_in (0 : Int32) (sh t2).2) ∧ P (gi z t2 (0 : Int32).toNatClampNeg) z)))
set_option maxRecDepth 100000 in
set_option maxHeartbeats 4000000 in
theorem ctX12_panes {E : gE} {n : Nat} {sh : Nat → Nat × Nat} {a0 : Nat} {z : gS} {P : Int32 → gS → Prop} (hn : gOK E n) (hf : wX12_panes n sh a0 z P) : VM E 0 0 gyX12_panes [.ref a0] n sh z (kI n sh P) := by
  unfold wX12_panes at hf
  refine VM.of (by decide +kernel) (Nat.le_of_ble_eq_true rfl) (fun _ _ _ h => h.2.2) ?_
  show V E (gR 0 0) gyX12_panes 0 0 0 [(0, .ref a0)] [] n sh z (kI n sh P)
  refine V_aload_n (j := 0) dX12_panes_0 rfl rfl ?_
  obtain ⟨h1, hf⟩ := hf
  obtain ⟨t2, et2, hf⟩ := hf
  refine V_getR fl_X12_89 rfl h1.1 h1.2 et2 dX12_panes_1 ?_
  refine V_iconst (v := (0 : Int32)) dX12_panes_4 (by decide) ?_
  obtain ⟨h3, hf⟩ := hf
  obtain ⟨h4, hf⟩ := hf
  refine V_iald h3.1 h3.s h4 dX12_panes_5 ?_
  exact V_ireturn dX12_panes_6 rfl rfl (Nat.le_refl 0) (kI_of hf)
def wX12_deeds (n : Nat) (sh : Nat → Nat × Nat) (a0 : Nat) (z : gS) (P : Int32 → gS → Prop) : Prop := (oO n sh a0 8) ∧ (∃ t2 : Nat, gr z a0 10 = some t2 ∧ ((oA n sh t2 1) ∧ ((vp_in (2 : Int32) (sh t2).2) ∧ P (gi z t2 (2 : Int32).toNatClampNeg) z)))
set_option maxRecDepth 100000 in
set_option maxHeartbeats 4000000 in
theorem ctX12_deeds {E : gE} {n : Nat} {sh : Nat → Nat × Nat} {a0 : Nat} {z : gS} {P : Int32 → gS → Prop} (hn : gOK E n) (hf : wX12_deeds n sh a0 z P) : VM E 0 0 gyX12_deeds [.ref a0] n sh z (kI n sh P) := by
  unfold wX12_deeds at hf
  refine VM.of (by decide +kernel) (Nat.le_of_ble_eq_true rfl) (fun _ _ _ h => h.2.2) ?_
  show V E (gR 0 0) gyX12_deeds 0 0 0 [(0, .ref a0)] [] n sh z (kI n sh P)
  refine V_aload_n (j := 0) dX12_deeds_0 rfl rfl ?_
  obtain ⟨h1, hf⟩ := hf
  obtain ⟨t2, et2, hf⟩ := hf
  refine V_getR fl_X12_89 rfl h1.1 h1.2 et2 dX12_deeds_1 ?_
  refine V_iconst (v := (2 : Int32)) dX12_deeds_4 (by decide) ?_
  obtain ⟨h3, hf⟩ := hf
  obtain ⟨h4, hf⟩ := hf
  refine V_iald h3.1 h3.s h4 dX12_deeds_5 ?_
  exact V_ireturn dX12_deeds_6 rfl rfl (Nat.le_refl 0) (kI_of hf)
def wX12_paneOf (n : Nat) (sh : Nat → Nat × Nat) (a0 : Nat) (x1 : Int32) (x2 : Int32) (z : gS) (P : Int32 → gS → Prop) : Prop := (oO n sh a0 8) ∧ (∃ t2 : Nat, gr z a0 10 = some t2 ∧ ((oA n sh t2 1) ∧ ((vp_in (((5 : Int32) + ((3 : Int32) * x1)) + x2) (sh t2).2) ∧ P (gi z t2 (((5 : Int32) + ((3 : Int32) * x1)) + x2).toNatClampNeg) z)))
set_option maxRecDepth 100000 in
set_option maxHeartbeats 4000000 in
theorem ctX12_paneOf {E : gE} {n : Nat} {sh : Nat → Nat × Nat} {a0 : Nat} {x1 : Int32} {x2 : Int32} {z : gS} {P : Int32 → gS → Prop} (hn : gOK E n) (hf : wX12_paneOf n sh a0 x1 x2 z P) : VM E 0 0 gyX12_paneOf [.ref a0, .int x1, .int x2] n sh z (kI n sh P) := by
  unfold wX12_paneOf at hf
  refine VM.of (by decide +kernel) (Nat.le_of_ble_eq_true rfl) (fun _ _ _ h => h.2.2) ?_
  show V E (gR 0 0) gyX12_paneOf 0 0 0 [(0, .ref a0), (1, .int x1), (2, .int x2)] [] n sh z (kI n sh P)
  refine V_aload_n (j := 0) dX12_paneOf_0 rfl rfl ?_
  obtain ⟨h1, hf⟩ := hf
  obtain ⟨t2, et2, hf⟩ := hf
  refine V_getR fl_X12_89 rfl h1.1 h1.2 et2 dX12_paneOf_1 ?_
  refine V_iconst (v := (5 : Int32)) dX12_paneOf_4 (by decide) ?_
  refine V_iconst (v := (3 : Int32)) dX12_paneOf_5 (by decide) ?_
  refine V_iload_n (j := 1) dX12_paneOf_6 rfl rfl ?_
  refine V_imul dX12_paneOf_7 ?_
  refine V_iadd dX12_paneOf_8 ?_
  refine V_iload_n (j := 2) dX12_paneOf_9 rfl rfl ?_
  refine V_iadd dX12_paneOf_10 ?_
  obtain ⟨h3, hf⟩ := hf
  obtain ⟨h4, hf⟩ := hf
  refine V_iald h3.1 h3.s h4 dX12_paneOf_11 ?_
  exact V_ireturn dX12_paneOf_12 rfl rfl (Nat.le_refl 0) (kI_of hf)
def wX12_isPane (n : Nat) (sh : Nat → Nat × Nat) (a0 : Nat) (x1 : Int32) (z : gS) (P : Int32 → gS → Prop) : Prop := if x1 < 0 then P (0 : Int32) z else ((oO n sh a0 8) ∧ (wX12_panes n sh a0 z (fun (r1 : Int32) (z2 : gS) => if r1 ≤ x1 then P (0 : Int32) z2 else P (1 : Int32) z2)))
set_option maxRecDepth 100000 in
set_option maxHeartbeats 4000000 in
theorem ctX12_isPane {E : gE} {n : Nat} {sh : Nat → Nat × Nat} {a0 : Nat} {x1 : Int32} {z : gS} {P : Int32 → gS → Prop} (hn : gOK E n) (hf : wX12_isPane n sh a0 x1 z P) : VM E 1 0 gyX12_isPane [.ref a0, .int x1] n sh z (kI n sh P) := by
  unfold wX12_isPane at hf
  refine VM.of (by decide +kernel) (Nat.le_of_ble_eq_true rfl) (fun _ _ _ h => h.2.2) ?_
  show V E (gR 1 0) gyX12_isPane 0 0 0 [(0, .ref a0), (1, .int x1)] [] n sh z (kI n sh P)
  refine V_iload_n (j := 1) dX12_isPane_0 rfl rfl ?_
  refine V_if_lt (tgt := 16) dX12_isPane_1 (by decide) (fun h5 => ?_) (fun h5 => ?_)
  · have hf := it_t h5 hf
    refine V_iconst (v := (0 : Int32)) dX12_isPane_16 (by decide) ?_
    exact V_ireturn dX12_isPane_17 rfl (by decide) (Nat.le_refl 0) (kI_of hf)
  · have hf := it_f h5 hf
    refine V_iload_n (j := 1) dX12_isPane_4 rfl rfl ?_
    refine V_aload_n (j := 0) dX12_isPane_5 rfl rfl ?_
    obtain ⟨h3, hf⟩ := hf
    refine V_cVI (ctX12_panes hn hf) gc_X12_278 rfl h3.1 ⟨_, h3.2, by decide, rfl⟩ ⟨by decide, by decide, Nat.zero_le _, Nat.zero_le _⟩ (Nat.le_of_ble_eq_true rfl) dX12_isPane_6 rfl hn (fun r1 z2 hf => ?_)
    refine V_icmp_ge (tgt := 16) dX12_isPane_9 (by decide) (fun h4 => ?_) (fun h4 => ?_)
    · have hf := it_t h4 hf
      refine V_iconst (v := (0 : Int32)) dX12_isPane_16 (by decide) ?_
      exact V_ireturn dX12_isPane_17 rfl (by decide) (Nat.le_refl 0) (kI_of hf)
    · have hf := it_f h4 hf
      refine V_iconst (v := (1 : Int32)) dX12_isPane_12 (by decide) ?_
      refine V_goto (tgt := 17) dX12_isPane_13 (by decide) ?_
      exact V_ireturn dX12_isPane_17 rfl (by decide) (Nat.le_refl 0) (kI_of hf)
