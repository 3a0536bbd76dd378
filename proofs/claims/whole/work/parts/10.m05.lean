def wX12_cutAll_J44 (n : Nat) (sh : Nat → Nat × Nat) (k17 : Nat → Int32 → Int32 → gS → Prop) (P : gS → Prop) (a0 : Nat) (x1 : Int32) (x2 : Int32) (z : gS) : Prop := ∀ v19 : Int32, v19 = x2 + (1 : Int32) → k17 a0 x1 v19 z
set_option maxRecDepth 100000 in
set_option maxHeartbeats 4000000 in
theorem vX12_cutAll_J44 {E : gE} {n : Nat} {sh : Nat → Nat × Nat} {P : gS → Prop} {k17 : Nat → Int32 → Int32 → gS → Prop} {a0 : Nat} {x1 : Int32} {x2 : Int32} {z : gS} (hn : gOK E n) (hk17 : ∀ (a0 : Nat) (x1 : Int32) (x2 : Int32) (z : gS), k17 a0 x1 x2 z → V E (gR 2 0) gyX12_cutAll 0 0 17 [(0, .ref a0), (1, .int x1), (2, .int x2)] [] n sh z (kN n sh P)) (hf : wX12_cutAll_J44 n sh k17 P a0 x1 x2 z) : V E (gR 2 0) gyX12_cutAll 0 0 44 [(0, .ref a0), (1, .int x1), (2, .int x2)] [] n sh z (kN n sh P) := by
  unfold wX12_cutAll_J44 at hf
  obtain ⟨v19, ev19⟩ : ∃ y : Int32, y = x2 + (1 : Int32) := ⟨_, rfl⟩
  refine V_iinc (j := 2) (v := v19) (ls2 := [(2, .int v19), (0, .ref a0), (1, .int x1)]) dX12_cutAll_44 rfl (by rw [ev19]; rfl) (by decide) rfl ?_
  have hf := hf v19 ev19
  refine V_goto (tgt := 17) dX12_cutAll_47 (by decide) ?_
  refine V_to [1, 2, 0] rfl ?_
  exact hk17 _ _ _ _ hf
def wX12_cutAll_J265 (n : Nat) (sh : Nat → Nat × Nat) (k17 : Nat → Int32 → Int32 → gS → Prop) (P : gS → Prop) (a0 : Nat) (x1 : Int32) (x2 : Int32) (y5 : Int64) (z : gS) : Prop := (oO n sh a0 8) ∧ (∃ t37 : Nat, gr z a0 6 = some t37 ∧ ((oA n sh t37 2) ∧ ((vp_in x1 (sh t37).2) ∧ (∀ z40 : gS, z40 = sl z t37 x1.toNatClampNeg y5 → (∀ v41 : Int32, v41 = x1 + (1 : Int32) → k17 a0 v41 x2 z40)))))
set_option maxRecDepth 100000 in
set_option maxHeartbeats 4000000 in
theorem vX12_cutAll_J265 {E : gE} {n : Nat} {sh : Nat → Nat × Nat} {P : gS → Prop} {k17 : Nat → Int32 → Int32 → gS → Prop} {a0 : Nat} {x1 : Int32} {x2 : Int32} {y5 : Int64} {z : gS} (hn : gOK E n) (hk17 : ∀ (a0 : Nat) (x1 : Int32) (x2 : Int32) (z : gS), k17 a0 x1 x2 z → V E (gR 2 0) gyX12_cutAll 0 0 17 [(0, .ref a0), (1, .int x1), (2, .int x2)] [] n sh z (kN n sh P)) (hf : wX12_cutAll_J265 n sh k17 P a0 x1 x2 y5 z) : V E (gR 2 0) gyX12_cutAll 0 0 265 [(0, .ref a0), (1, .int x1), (2, .int x2), (5, .long y5)] [] n sh z (kN n sh P) := by
  unfold wX12_cutAll_J265 at hf
  refine V_aload_n (j := 0) dX12_cutAll_265 rfl rfl ?_
  obtain ⟨h36, hf⟩ := hf
  obtain ⟨t37, et37, hf⟩ := hf
  refine V_getR fl_X12_30 rfl h36.1 h36.2 et37 dX12_cutAll_266 ?_
  refine V_iload_n (j := 1) dX12_cutAll_269 rfl rfl ?_
  refine V_lload (j := 3) dX12_cutAll_270 rfl ?_
  obtain ⟨h38, hf⟩ := hf
  obtain ⟨h39, hf⟩ := hf
  refine V_last h38.1 h38.s h39 dX12_cutAll_272 ?_
  refine V_nz (fun z40 ez40 => ?_)
  have hf := hf z40 ez40
  obtain ⟨v41, ev41⟩ : ∃ y : Int32, y = x1 + (1 : Int32) := ⟨_, rfl⟩
  refine V_iinc (j := 1) (v := v41) (ls2 := [(1, .int v41), (0, .ref a0), (2, .int x2), (5, .long y5)]) dX12_cutAll_273 rfl (by rw [ev41]; rfl) (by decide) rfl ?_
  have hf := hf v41 ev41
  refine V_goto (tgt := 17) dX12_cutAll_276 (by decide) ?_
  refine V_to [1, 0, 2] rfl ?_
  exact hk17 _ _ _ _ hf
def wX12_cutAll_J261 (n : Nat) (sh : Nat → Nat × Nat) (k17 : Nat → Int32 → Int32 → gS → Prop) (P : gS → Prop) (a0 : Nat) (x1 : Int32) (x2 : Int32) (y5 : Int64) (s0 : Int32) (s1 : Int32) (s2 : Nat) (z : gS) : Prop := (oA n sh s2 1) ∧ ((vp_in s1 (sh s2).2) ∧ (∀ z34 : gS, z34 = si z s2 s1.toNatClampNeg s0 → (∀ v35 : Int32, v35 = x2 + (1 : Int32) → wX12_cutAll_J265 n sh k17 P a0 x1 v35 y5 z34)))
set_option maxRecDepth 100000 in
set_option maxHeartbeats 4000000 in
theorem vX12_cutAll_J261 {E : gE} {n : Nat} {sh : Nat → Nat × Nat} {P : gS → Prop} {k17 : Nat → Int32 → Int32 → gS → Prop} {a0 : Nat} {x1 : Int32} {x2 : Int32} {y5 : Int64} {s0 : Int32} {s1 : Int32} {s2 : Nat} {z : gS} (hn : gOK E n) (hk17 : ∀ (a0 : Nat) (x1 : Int32) (x2 : Int32) (z : gS), k17 a0 x1 x2 z → V E (gR 2 0) gyX12_cutAll 0 0 17 [(0, .ref a0), (1, .int x1), (2, .int x2)] [] n sh z (kN n sh P)) (hf : wX12_cutAll_J261 n sh k17 P a0 x1 x2 y5 s0 s1 s2 z) : V E (gR 2 0) gyX12_cutAll 0 0 261 [(0, .ref a0), (1, .int x1), (2, .int x2), (5, .long y5)] [.int s0, .int s1, .ref s2] n sh z (kN n sh P) := by
  unfold wX12_cutAll_J261 at hf
  obtain ⟨h32, hf⟩ := hf
  obtain ⟨h33, hf⟩ := hf
  refine V_iast h32.1 h32.s h33 dX12_cutAll_261 ?_
  refine V_nz (fun z34 ez34 => ?_)
  have hf := hf z34 ez34
  obtain ⟨v35, ev35⟩ : ∃ y : Int32, y = x2 + (1 : Int32) := ⟨_, rfl⟩
  refine V_iinc (j := 2) (v := v35) (ls2 := [(2, .int v35), (0, .ref a0), (1, .int x1), (5, .long y5)]) dX12_cutAll_262 rfl (by rw [ev35]; rfl) (by decide) rfl ?_
  have hf := hf v35 ev35
  refine V_to [1, 2, 0, 3] rfl ?_
  exact vX12_cutAll_J265 hn hk17 hf
def wX12_cutAll_J236 (n : Nat) (sh : Nat → Nat × Nat) (k17 : Nat → Int32 → Int32 → gS → Prop) (P : gS → Prop) (a0 : Nat) (x1 : Int32) (x2 : Int32) (y5 : Int64) (s0 : Int32) (s1 : Int32) (s2 : Nat) (z : gS) : Prop := (oA n sh s2 1) ∧ ((vp_in s1 (sh s2).2) ∧ (∀ z48 : gS, z48 = si z s2 s1.toNatClampNeg s0 → wX12_cutAll_J265 n sh k17 P a0 x1 x2 y5 z48))
set_option maxRecDepth 100000 in
set_option maxHeartbeats 4000000 in
theorem vX12_cutAll_J236 {E : gE} {n : Nat} {sh : Nat → Nat × Nat} {P : gS → Prop} {k17 : Nat → Int32 → Int32 → gS → Prop} {a0 : Nat} {x1 : Int32} {x2 : Int32} {y5 : Int64} {s0 : Int32} {s1 : Int32} {s2 : Nat} {z : gS} (hn : gOK E n) (hk17 : ∀ (a0 : Nat) (x1 : Int32) (x2 : Int32) (z : gS), k17 a0 x1 x2 z → V E (gR 2 0) gyX12_cutAll 0 0 17 [(0, .ref a0), (1, .int x1), (2, .int x2)] [] n sh z (kN n sh P)) (hf : wX12_cutAll_J236 n sh k17 P a0 x1 x2 y5 s0 s1 s2 z) : V E (gR 2 0) gyX12_cutAll 0 0 236 [(0, .ref a0), (1, .int x1), (2, .int x2), (5, .long y5)] [.int s0, .int s1, .ref s2] n sh z (kN n sh P) := by
  unfold wX12_cutAll_J236 at hf
  obtain ⟨h46, hf⟩ := hf
  obtain ⟨h47, hf⟩ := hf
  refine V_iast h46.1 h46.s h47 dX12_cutAll_236 ?_
  refine V_nz (fun z48 ez48 => ?_)
  have hf := hf z48 ez48
  refine V_goto (tgt := 265) dX12_cutAll_237 (by decide) ?_
  exact vX12_cutAll_J265 hn hk17 hf
def wX12_cutAll_J218 (n : Nat) (sh : Nat → Nat × Nat) (k17 : Nat → Int32 → Int32 → gS → Prop) (P : gS → Prop) (a0 : Nat) (x1 : Int32) (x2 : Int32) (x4 : Int32) (y5 : Int64) (z : gS) : Prop := (oO n sh a0 8) ∧ (∃ t45 : Nat, gr z a0 4 = some t45 ∧ (if (x2 - x4) ≤ (4 : Int32) then wX12_cutAll_J236 n sh k17 P a0 x1 x2 y5 (2 : Int32) x1 t45 z else wX12_cutAll_J236 n sh k17 P a0 x1 x2 y5 (4 : Int32) x1 t45 z))
set_option maxRecDepth 100000 in
set_option maxHeartbeats 4000000 in
theorem vX12_cutAll_J218 {E : gE} {n : Nat} {sh : Nat → Nat × Nat} {P : gS → Prop} {k17 : Nat → Int32 → Int32 → gS → Prop} {a0 : Nat} {x1 : Int32} {x2 : Int32} {x4 : Int32} {y5 : Int64} {z : gS} (hn : gOK E n) (hk17 : ∀ (a0 : Nat) (x1 : Int32) (x2 : Int32) (z : gS), k17 a0 x1 x2 z → V E (gR 2 0) gyX12_cutAll 0 0 17 [(0, .ref a0), (1, .int x1), (2, .int x2)] [] n sh z (kN n sh P)) (hf : wX12_cutAll_J218 n sh k17 P a0 x1 x2 x4 y5 z) : V E (gR 2 0) gyX12_cutAll 0 0 218 [(0, .ref a0), (1, .int x1), (2, .int x2), (4, .int x4), (5, .long y5)] [] n sh z (kN n sh P) := by
  unfold wX12_cutAll_J218 at hf
  refine V_aload_n (j := 0) dX12_cutAll_218 rfl rfl ?_
  obtain ⟨h44, hf⟩ := hf
  obtain ⟨t45, et45, hf⟩ := hf
  refine V_getR fl_X12_24 rfl h44.1 h44.2 et45 dX12_cutAll_219 ?_
  refine V_iload_n (j := 1) dX12_cutAll_222 rfl rfl ?_
  refine V_iload_n (j := 2) dX12_cutAll_223 rfl rfl ?_
  refine V_iload (j := 3) dX12_cutAll_224 rfl ?_
  refine V_isub dX12_cutAll_226 ?_
  refine V_iconst (v := (4 : Int32)) dX12_cutAll_227 (by decide) ?_
  refine V_icmp_le (tgt := 235) dX12_cutAll_228 (by decide) (fun h49 => ?_) (fun h49 => ?_)
  · have hf := it_t h49 hf
    refine V_iconst (v := (2 : Int32)) dX12_cutAll_235 (by decide) ?_
    refine V_to [0, 1, 2, 4] rfl ?_
    exact vX12_cutAll_J236 hn hk17 hf
  · have hf := it_f h49 hf
    refine V_iconst (v := (4 : Int32)) dX12_cutAll_231 (by decide) ?_
    refine V_goto (tgt := 236) dX12_cutAll_232 (by decide) ?_
    refine V_to [0, 1, 2, 4] rfl ?_
    exact vX12_cutAll_J236 hn hk17 hf
def wX12_cutAll_J210 (n : Nat) (sh : Nat → Nat × Nat) (k17 : Nat → Int32 → Int32 → gS → Prop) (k159 : Nat → Int32 → Int32 → Int32 → Int64 → gS → Prop) (P : gS → Prop) (a0 : Nat) (x1 : Int32) (x2 : Int32) (x4 : Int32) (s0 : Int64) (z : gS) : Prop := ∀ v55 : Int32, v55 = x2 + (1 : Int32) → k159 a0 x1 v55 x4 s0 z
set_option maxRecDepth 100000 in
set_option maxHeartbeats 4000000 in
theorem vX12_cutAll_J210 {E : gE} {n : Nat} {sh : Nat → Nat × Nat} {P : gS → Prop} {k17 : Nat → Int32 → Int32 → gS → Prop} {k159 : Nat → Int32 → Int32 → Int32 → Int64 → gS → Prop} {a0 : Nat} {x1 : Int32} {x2 : Int32} {x4 : Int32} {s0 : Int64} {z : gS} (hn : gOK E n) (hk17 : ∀ (a0 : Nat) (x1 : Int32) (x2 : Int32) (z : gS), k17 a0 x1 x2 z → V E (gR 2 0) gyX12_cutAll 0 0 17 [(0, .ref a0), (1, .int x1), (2, .int x2)] [] n sh z (kN n sh P)) (hk159 : ∀ (a0 : Nat) (x1 : Int32) (x2 : Int32) (x4 : Int32) (y5 : Int64) (z : gS), k159 a0 x1 x2 x4 y5 z → V E (gR 2 0) gyX12_cutAll 0 0 159 [(0, .ref a0), (1, .int x1), (2, .int x2), (4, .int x4), (5, .long y5)] [] n sh z (kN n sh P)) (hf : wX12_cutAll_J210 n sh k17 k159 P a0 x1 x2 x4 s0 z) : V E (gR 2 0) gyX12_cutAll 0 0 210 [(0, .ref a0), (1, .int x1), (2, .int x2), (4, .int x4)] [.long s0] n sh z (kN n sh P) := by
  unfold wX12_cutAll_J210 at hf
  refine V_lstore (ls2 := [(5, .long s0), (0, .ref a0), (1, .int x1), (2, .int x2), (4, .int x4)]) dX12_cutAll_210 (by decide) rfl ?_
  obtain ⟨v55, ev55⟩ : ∃ y : Int32, y = x2 + (1 : Int32) := ⟨_, rfl⟩
  refine V_iinc (j := 3) (v := v55) (ls2 := [(2, .int v55), (5, .long s0), (0, .ref a0), (1, .int x1), (4, .int x4)]) dX12_cutAll_212 rfl (by rw [ev55]; rfl) (by decide) rfl ?_
  have hf := hf v55 ev55
  refine V_goto (tgt := 159) dX12_cutAll_215 (by decide) ?_
  refine V_to [2, 3, 0, 4, 1] rfl ?_
  exact hk159 _ _ _ _ _ _ hf
def wX12_cutAll_B159 (n : Nat) (sh : Nat → Nat × Nat) (k17 : Nat → Int32 → Int32 → gS → Prop) (k159 : Nat → Int32 → Int32 → Int32 → Int64 → gS → Prop) (P : gS → Prop) (a0 : Nat) (x1 : Int32) (x2 : Int32) (x4 : Int32) (y5 : Int64) (z : gS) : Prop := (oO n sh a0 8) ∧ (if (gi z a0 3) ≤ x2 then wX12_cutAll_J218 n sh k17 P a0 x1 x2 x4 y5 z else (∃ t50 : Nat, gr z a0 1 = some t50 ∧ ((oA n sh t50 1) ∧ ((vp_in x2 (sh t50).2) ∧ (wX12_isDigit n sh (gi z t50 x2.toNatClampNeg) z (fun (r53 : Int32) (z54 : gS) => if r53 = 0 then wX12_cutAll_J218 n sh k17 P a0 x1 x2 x4 y5 z54 else (if (4 : Int32) ≤ (x2 - x4) then wX12_cutAll_J210 n sh k17 k159 P a0 x1 x2 x4 y5 z54 else (∃ t56 : Nat, gr z54 a0 1 = some t56 ∧ ((oA n sh t56 1) ∧ ((vp_in x2 (sh t56).2) ∧ wX12_cutAll_J210 n sh k17 k159 P a0 x1 x2 x4 ((((10 : Int64) * y5) + (gi z54 t56 x2.toNatClampNeg).toInt64) - (48 : Int64)) z54))))))))))
def wX12_cutAll_L159 (n : Nat) (sh : Nat → Nat × Nat) (k17 : Nat → Int32 → Int32 → gS → Prop) (P : gS → Prop) : Nat → Nat → Int32 → Int32 → Int32 → Int64 → gS → Prop
  | 0, _, _, _, _, _, _ => False
  | N + 1, a0, x1, x2, x4, y5, z => wX12_cutAll_B159 n sh k17 (wX12_cutAll_L159 n sh k17 P N) P a0 x1 x2 x4 y5 z
set_option maxRecDepth 100000 in
set_option maxHeartbeats 4000000 in
theorem vX12_cutAll_B159 {E : gE} {n : Nat} {sh : Nat → Nat × Nat} {P : gS → Prop} {k17 : Nat → Int32 → Int32 → gS → Prop} {k159 : Nat → Int32 → Int32 → Int32 → Int64 → gS → Prop} {a0 : Nat} {x1 : Int32} {x2 : Int32} {x4 : Int32} {y5 : Int64} {z : gS} (hn : gOK E n) (hk17 : ∀ (a0 : Nat) (x1 : Int32) (x2 : Int32) (z : gS), k17 a0 x1 x2 z → V E (gR 2 0) gyX12_cutAll 0 0 17 [(0, .ref a0), (1, .int x1), (2, .int x2)] [] n sh z (kN n sh P)) (hk159 : ∀ (a0 : Nat) (x1 : Int32) (x2 : Int32) (x4 : Int32) (y5 : Int64) (z : gS), k159 a0 x1 x2 x4 y5 z → V E (gR 2 0) gyX12_cutAll 0 0 159 [(0, .ref a0), (1, .int x1), (2, .int x2), (4, .int x4), (5, .long y5)] [] n sh z (kN n sh P)) (hf : wX12_cutAll_B159 n sh k17 k159 P a0 x1 x2 x4 y5 z) : V E (gR 2 0) gyX12_cutAll 0 0 159 [(0, .ref a0), (1, .int x1), (2, .int x2), (4, .int x4), (5, .long y5)] [] n sh z (kN n sh P) := by
  unfold wX12_cutAll_B159 at hf
  refine V_iload_n (j := 2) dX12_cutAll_159 rfl rfl ?_
  refine V_aload_n (j := 0) dX12_cutAll_160 rfl rfl ?_
  obtain ⟨h43, hf⟩ := hf
  refine V_getI fl_X12_137 rfl h43.1 h43.2 dX12_cutAll_161 ?_
  refine V_icmp_ge (tgt := 218) dX12_cutAll_164 (by decide) (fun h61 => ?_) (fun h61 => ?_)
  · have hf := it_t h61 hf
    exact vX12_cutAll_J218 hn hk17 hf
  · have hf := it_f h61 hf
    refine V_aload_n (j := 0) dX12_cutAll_167 rfl rfl ?_
    obtain ⟨t50, et50, hf⟩ := hf
    refine V_getR fl_X12_14 rfl h43.1 h43.2 et50 dX12_cutAll_168 ?_
    refine V_iload_n (j := 2) dX12_cutAll_171 rfl rfl ?_
    obtain ⟨h51, hf⟩ := hf
    obtain ⟨h52, hf⟩ := hf
    refine V_iald h51.1 h51.s h52 dX12_cutAll_172 ?_
    refine V_cSI (ctX12_isDigit hn hf) gc_X12_146 rfl ⟨by decide, by decide, Nat.zero_le _, Nat.zero_le _⟩ (Nat.le_of_ble_eq_true rfl) dX12_cutAll_173 rfl hn (fun r53 z54 hf => ?_)
    refine V_if_eq (tgt := 218) dX12_cutAll_176 (by decide) (fun h60 => ?_) (fun h60 => ?_)
    · have hf := it_t h60 hf
      exact vX12_cutAll_J218 hn hk17 hf
    · have hf := it_f h60 hf
      refine V_iload_n (j := 2) dX12_cutAll_179 rfl rfl ?_
      refine V_iload (j := 3) dX12_cutAll_180 rfl ?_
      refine V_isub dX12_cutAll_182 ?_
      refine V_iconst (v := (4 : Int32)) dX12_cutAll_183 (by decide) ?_
      refine V_icmp_ge (tgt := 208) dX12_cutAll_184 (by decide) (fun h59 => ?_) (fun h59 => ?_)
      · have hf := it_t h59 hf
        refine V_lload (j := 4) dX12_cutAll_208 rfl ?_
        refine V_to [0, 1, 2, 3] rfl ?_
        exact vX12_cutAll_J210 hn hk17 hk159 hf
      · have hf := it_f h59 hf
        refine V_ldc2 dX12_cutAll_187 rfl kj_X12_149 ?_
        refine V_lload (j := 4) dX12_cutAll_190 rfl ?_
        refine V_lmul dX12_cutAll_192 ?_
        refine V_aload_n (j := 0) dX12_cutAll_193 rfl rfl ?_
        obtain ⟨t56, et56, hf⟩ := hf
        refine V_getR fl_X12_14 rfl h43.1 h43.2 et56 dX12_cutAll_194 ?_
        refine V_iload_n (j := 2) dX12_cutAll_197 rfl rfl ?_
        obtain ⟨h57, hf⟩ := hf
        obtain ⟨h58, hf⟩ := hf
        refine V_iald h57.1 h57.s h58 dX12_cutAll_198 ?_
        refine V_i2l dX12_cutAll_199 ?_
        refine V_ladd dX12_cutAll_200 ?_
        refine V_ldc2 dX12_cutAll_201 rfl kj_X12_151 ?_
        refine V_lsub dX12_cutAll_204 ?_
        refine V_goto (tgt := 210) dX12_cutAll_205 (by decide) ?_
        refine V_to [0, 1, 2, 3] rfl ?_
        exact vX12_cutAll_J210 hn hk17 hk159 hf
set_option maxRecDepth 100000 in
set_option maxHeartbeats 4000000 in
theorem vX12_cutAll_L159 {E : gE} {n : Nat} {sh : Nat → Nat × Nat} {P : gS → Prop} {k17 : Nat → Int32 → Int32 → gS → Prop} (hn : gOK E n) (hk17 : ∀ (a0 : Nat) (x1 : Int32) (x2 : Int32) (z : gS), k17 a0 x1 x2 z → V E (gR 2 0) gyX12_cutAll 0 0 17 [(0, .ref a0), (1, .int x1), (2, .int x2)] [] n sh z (kN n sh P)) : ∀ (N : Nat) (a0 : Nat) (x1 : Int32) (x2 : Int32) (x4 : Int32) (y5 : Int64) (z : gS), wX12_cutAll_L159 n sh k17 P N a0 x1 x2 x4 y5 z → V E (gR 2 0) gyX12_cutAll 0 0 159 [(0, .ref a0), (1, .int x1), (2, .int x2), (4, .int x4), (5, .long y5)] [] n sh z (kN n sh P) := by
  intro N
  induction N with
  | zero => intro a0 x1 x2 x4 y5 z hf; exact False.elim hf
  | succ N ih => intro a0 x1 x2 x4 y5 z hf; exact vX12_cutAll_B159 hn hk17 ih hf
def wX12_cutAll_J148 (n : Nat) (sh : Nat → Nat × Nat) (k17 : Nat → Int32 → Int32 → gS → Prop) (P : gS → Prop) (a0 : Nat) (x1 : Int32) (x2 : Int32) (y5 : Int64) (s0 : Int32) (s1 : Int32) (s2 : Nat) (z : gS) : Prop := (oA n sh s2 1) ∧ ((vp_in s1 (sh s2).2) ∧ (∀ z68 : gS, z68 = si z s2 s1.toNatClampNeg s0 → wX12_cutAll_J265 n sh k17 P a0 x1 x2 y5 z68))
set_option maxRecDepth 100000 in
set_option maxHeartbeats 4000000 in
theorem vX12_cutAll_J148 {E : gE} {n : Nat} {sh : Nat → Nat × Nat} {P : gS → Prop} {k17 : Nat → Int32 → Int32 → gS → Prop} {a0 : Nat} {x1 : Int32} {x2 : Int32} {y5 : Int64} {s0 : Int32} {s1 : Int32} {s2 : Nat} {z : gS} (hn : gOK E n) (hk17 : ∀ (a0 : Nat) (x1 : Int32) (x2 : Int32) (z : gS), k17 a0 x1 x2 z → V E (gR 2 0) gyX12_cutAll 0 0 17 [(0, .ref a0), (1, .int x1), (2, .int x2)] [] n sh z (kN n sh P)) (hf : wX12_cutAll_J148 n sh k17 P a0 x1 x2 y5 s0 s1 s2 z) : V E (gR 2 0) gyX12_cutAll 0 0 148 [(0, .ref a0), (1, .int x1), (2, .int x2), (5, .long y5)] [.int s0, .int s1, .ref s2] n sh z (kN n sh P) := by
  unfold wX12_cutAll_J148 at hf
  obtain ⟨h66, hf⟩ := hf
  obtain ⟨h67, hf⟩ := hf
  refine V_iast h66.1 h66.s h67 dX12_cutAll_148 ?_
  refine V_nz (fun z68 ez68 => ?_)
  have hf := hf z68 ez68
  refine V_goto (tgt := 265) dX12_cutAll_149 (by decide) ?_
  exact vX12_cutAll_J265 hn hk17 hf
def wX12_cutAll_J129 (n : Nat) (sh : Nat → Nat × Nat) (k17 : Nat → Int32 → Int32 → gS → Prop) (P : gS → Prop) (a0 : Nat) (x1 : Int32) (x2 : Int32) (x4 : Int32) (y5 : Int64) (z : gS) : Prop := (oO n sh a0 8) ∧ (∃ t65 : Nat, gr z a0 4 = some t65 ∧ (if (x2 - x4) ≤ (8 : Int32) then wX12_cutAll_J148 n sh k17 P a0 x1 x2 y5 (1 : Int32) x1 t65 z else wX12_cutAll_J148 n sh k17 P a0 x1 x2 y5 (4 : Int32) x1 t65 z))
set_option maxRecDepth 100000 in
set_option maxHeartbeats 4000000 in
theorem vX12_cutAll_J129 {E : gE} {n : Nat} {sh : Nat → Nat × Nat} {P : gS → Prop} {k17 : Nat → Int32 → Int32 → gS → Prop} {a0 : Nat} {x1 : Int32} {x2 : Int32} {x4 : Int32} {y5 : Int64} {z : gS} (hn : gOK E n) (hk17 : ∀ (a0 : Nat) (x1 : Int32) (x2 : Int32) (z : gS), k17 a0 x1 x2 z → V E (gR 2 0) gyX12_cutAll 0 0 17 [(0, .ref a0), (1, .int x1), (2, .int x2)] [] n sh z (kN n sh P)) (hf : wX12_cutAll_J129 n sh k17 P a0 x1 x2 x4 y5 z) : V E (gR 2 0) gyX12_cutAll 0 0 129 [(0, .ref a0), (1, .int x1), (2, .int x2), (4, .int x4), (5, .long y5)] [] n sh z (kN n sh P) := by
  unfold wX12_cutAll_J129 at hf
  refine V_aload_n (j := 0) dX12_cutAll_129 rfl rfl ?_
  obtain ⟨h64, hf⟩ := hf
  obtain ⟨t65, et65, hf⟩ := hf
  refine V_getR fl_X12_24 rfl h64.1 h64.2 et65 dX12_cutAll_130 ?_
  refine V_iload_n (j := 1) dX12_cutAll_133 rfl rfl ?_
  refine V_iload_n (j := 2) dX12_cutAll_134 rfl rfl ?_
  refine V_iload (j := 3) dX12_cutAll_135 rfl ?_
  refine V_isub dX12_cutAll_137 ?_
  refine V_bipush (v := (8 : Int32)) dX12_cutAll_138 (by decide) ?_
  refine V_icmp_le (tgt := 147) dX12_cutAll_140 (by decide) (fun h69 => ?_) (fun h69 => ?_)
  · have hf := it_t h69 hf
    refine V_iconst (v := (1 : Int32)) dX12_cutAll_147 (by decide) ?_
    refine V_to [0, 1, 2, 4] rfl ?_
    exact vX12_cutAll_J148 hn hk17 hf
  · have hf := it_f h69 hf
    refine V_iconst (v := (4 : Int32)) dX12_cutAll_143 (by decide) ?_
    refine V_goto (tgt := 148) dX12_cutAll_144 (by decide) ?_
    refine V_to [0, 1, 2, 4] rfl ?_
    exact vX12_cutAll_J148 hn hk17 hf
def wX12_cutAll_J121 (n : Nat) (sh : Nat → Nat × Nat) (k17 : Nat → Int32 → Int32 → gS → Prop) (k70 : Nat → Int32 → Int32 → Int32 → Int64 → gS → Prop) (P : gS → Prop) (a0 : Nat) (x1 : Int32) (x2 : Int32) (x4 : Int32) (s0 : Int64) (z : gS) : Prop := ∀ v75 : Int32, v75 = x2 + (1 : Int32) → k70 a0 x1 v75 x4 s0 z
set_option maxRecDepth 100000 in
set_option maxHeartbeats 4000000 in
theorem vX12_cutAll_J121 {E : gE} {n : Nat} {sh : Nat → Nat × Nat} {P : gS → Prop} {k17 : Nat → Int32 → Int32 → gS → Prop} {k70 : Nat → Int32 → Int32 → Int32 → Int64 → gS → Prop} {a0 : Nat} {x1 : Int32} {x2 : Int32} {x4 : Int32} {s0 : Int64} {z : gS} (hn : gOK E n) (hk17 : ∀ (a0 : Nat) (x1 : Int32) (x2 : Int32) (z : gS), k17 a0 x1 x2 z → V E (gR 2 0) gyX12_cutAll 0 0 17 [(0, .ref a0), (1, .int x1), (2, .int x2)] [] n sh z (kN n sh P)) (hk70 : ∀ (a0 : Nat) (x1 : Int32) (x2 : Int32) (x4 : Int32) (y5 : Int64) (z : gS), k70 a0 x1 x2 x4 y5 z → V E (gR 2 0) gyX12_cutAll 0 0 70 [(0, .ref a0), (1, .int x1), (2, .int x2), (4, .int x4), (5, .long y5)] [] n sh z (kN n sh P)) (hf : wX12_cutAll_J121 n sh k17 k70 P a0 x1 x2 x4 s0 z) : V E (gR 2 0) gyX12_cutAll 0 0 121 [(0, .ref a0), (1, .int x1), (2, .int x2), (4, .int x4)] [.long s0] n sh z (kN n sh P) := by
  unfold wX12_cutAll_J121 at hf
  refine V_lstore (ls2 := [(5, .long s0), (0, .ref a0), (1, .int x1), (2, .int x2), (4, .int x4)]) dX12_cutAll_121 (by decide) rfl ?_
  obtain ⟨v75, ev75⟩ : ∃ y : Int32, y = x2 + (1 : Int32) := ⟨_, rfl⟩
  refine V_iinc (j := 3) (v := v75) (ls2 := [(2, .int v75), (5, .long s0), (0, .ref a0), (1, .int x1), (4, .int x4)]) dX12_cutAll_123 rfl (by rw [ev75]; rfl) (by decide) rfl ?_
  have hf := hf v75 ev75
  refine V_goto (tgt := 70) dX12_cutAll_126 (by decide) ?_
  refine V_to [2, 3, 0, 4, 1] rfl ?_
  exact hk70 _ _ _ _ _ _ hf
def wX12_cutAll_B70 (n : Nat) (sh : Nat → Nat × Nat) (k17 : Nat → Int32 → Int32 → gS → Prop) (k70 : Nat → Int32 → Int32 → Int32 → Int64 → gS → Prop) (P : gS → Prop) (a0 : Nat) (x1 : Int32) (x2 : Int32) (x4 : Int32) (y5 : Int64) (z : gS) : Prop := (oO n sh a0 8) ∧ (if (gi z a0 3) ≤ x2 then wX12_cutAll_J129 n sh k17 P a0 x1 x2 x4 y5 z else (∃ t70 : Nat, gr z a0 1 = some t70 ∧ ((oA n sh t70 1) ∧ ((vp_in x2 (sh t70).2) ∧ (wX12_isLetter n sh (gi z t70 x2.toNatClampNeg) z (fun (r73 : Int32) (z74 : gS) => if r73 = 0 then wX12_cutAll_J129 n sh k17 P a0 x1 x2 x4 y5 z74 else (if (8 : Int32) ≤ (x2 - x4) then wX12_cutAll_J121 n sh k17 k70 P a0 x1 x2 x4 y5 z74 else (∃ t76 : Nat, gr z74 a0 1 = some t76 ∧ ((oA n sh t76 1) ∧ ((vp_in x2 (sh t76).2) ∧ (wX12_rank n sh (gi z74 t76 x2.toNatClampNeg) z74 (fun (r79 : Int32) (z80 : gS) => wX12_cutAll_J121 n sh k17 k70 P a0 x1 x2 x4 (((37 : Int64) * y5) + r79.toInt64) z80))))))))))))
def wX12_cutAll_L70 (n : Nat) (sh : Nat → Nat × Nat) (k17 : Nat → Int32 → Int32 → gS → Prop) (P : gS → Prop) : Nat → Nat → Int32 → Int32 → Int32 → Int64 → gS → Prop
  | 0, _, _, _, _, _, _ => False
  | N + 1, a0, x1, x2, x4, y5, z => wX12_cutAll_B70 n sh k17 (wX12_cutAll_L70 n sh k17 P N) P a0 x1 x2 x4 y5 z
set_option maxRecDepth 100000 in
set_option maxHeartbeats 4000000 in
theorem vX12_cutAll_B70 {E : gE} {n : Nat} {sh : Nat → Nat × Nat} {P : gS → Prop} {k17 : Nat → Int32 → Int32 → gS → Prop} {k70 : Nat → Int32 → Int32 → Int32 → Int64 → gS → Prop} {a0 : Nat} {x1 : Int32} {x2 : Int32} {x4 : Int32} {y5 : Int64} {z : gS} (hn : gOK E n) (hk17 : ∀ (a0 : Nat) (x1 : Int32) (x2 : Int32) (z : gS), k17 a0 x1 x2 z → V E (gR 2 0) gyX12_cutAll 0 0 17 [(0, .ref a0), (1, .int x1), (2, .int x2)] [] n sh z (kN n sh P)) (hk70 : ∀ (a0 : Nat) (x1 : Int32) (x2 : Int32) (x4 : Int32) (y5 : Int64) (z : gS), k70 a0 x1 x2 x4 y5 z → V E (gR 2 0) gyX12_cutAll 0 0 70 [(0, .ref a0), (1, .int x1), (2, .int x2), (4, .int x4), (5, .long y5)] [] n sh z (kN n sh P)) (hf : wX12_cutAll_B70 n sh k17 k70 P a0 x1 x2 x4 y5 z) : V E (gR 2 0) gyX12_cutAll 0 0 70 [(0, .ref a0), (1, .int x1), (2, .int x2), (4, .int x4), (5, .long y5)] [] n sh z (kN n sh P) := by
  unfold wX12_cutAll_B70 at hf
  refine V_iload_n (j := 2) dX12_cutAll_70 rfl rfl ?_
  refine V_aload_n (j := 0) dX12_cutAll_71 rfl rfl ?_
  obtain ⟨h63, hf⟩ := hf
  refine V_getI fl_X12_137 rfl h63.1 h63.2 dX12_cutAll_72 ?_
  refine V_icmp_ge (tgt := 129) dX12_cutAll_75 (by decide) (fun h83 => ?_) (fun h83 => ?_)
  · have hf := it_t h83 hf
    exact vX12_cutAll_J129 hn hk17 hf
  · have hf := it_f h83 hf
    refine V_aload_n (j := 0) dX12_cutAll_78 rfl rfl ?_
    obtain ⟨t70, et70, hf⟩ := hf
    refine V_getR fl_X12_14 rfl h63.1 h63.2 et70 dX12_cutAll_79 ?_
    refine V_iload_n (j := 2) dX12_cutAll_82 rfl rfl ?_
    obtain ⟨h71, hf⟩ := hf
    obtain ⟨h72, hf⟩ := hf
    refine V_iald h71.1 h71.s h72 dX12_cutAll_83 ?_
    refine V_cSI (ctX12_isLetter hn hf) gc_X12_133 rfl ⟨by decide, by decide, Nat.zero_le _, Nat.zero_le _⟩ (Nat.le_of_ble_eq_true rfl) dX12_cutAll_84 rfl hn (fun r73 z74 hf => ?_)
    refine V_if_eq (tgt := 129) dX12_cutAll_87 (by decide) (fun h82 => ?_) (fun h82 => ?_)
    · have hf := it_t h82 hf
      exact vX12_cutAll_J129 hn hk17 hf
    · have hf := it_f h82 hf
      refine V_iload_n (j := 2) dX12_cutAll_90 rfl rfl ?_
      refine V_iload (j := 3) dX12_cutAll_91 rfl ?_
      refine V_isub dX12_cutAll_93 ?_
      refine V_bipush (v := (8 : Int32)) dX12_cutAll_94 (by decide) ?_
      refine V_icmp_ge (tgt := 119) dX12_cutAll_96 (by decide) (fun h81 => ?_) (fun h81 => ?_)
      · have hf := it_t h81 hf
        refine V_lload (j := 4) dX12_cutAll_119 rfl ?_
        refine V_to [0, 1, 2, 3] rfl ?_
        exact vX12_cutAll_J121 hn hk17 hk70 hf
      · have hf := it_f h81 hf
        refine V_ldc2 dX12_cutAll_99 rfl kj_X12_140 ?_
        refine V_lload (j := 4) dX12_cutAll_102 rfl ?_
        refine V_lmul dX12_cutAll_104 ?_
        refine V_aload_n (j := 0) dX12_cutAll_105 rfl rfl ?_
        obtain ⟨t76, et76, hf⟩ := hf
        refine V_getR fl_X12_14 rfl h63.1 h63.2 et76 dX12_cutAll_106 ?_
        refine V_iload_n (j := 2) dX12_cutAll_109 rfl rfl ?_
        obtain ⟨h77, hf⟩ := hf
        obtain ⟨h78, hf⟩ := hf
        refine V_iald h77.1 h77.s h78 dX12_cutAll_110 ?_
        refine V_cSI (ctX12_rank hn hf) gc_X12_142 rfl ⟨by decide, by decide, Nat.zero_le _, Nat.zero_le _⟩ (Nat.le_of_ble_eq_true rfl) dX12_cutAll_111 rfl hn (fun r79 z80 hf => ?_)
        refine V_i2l dX12_cutAll_114 ?_
        refine V_ladd dX12_cutAll_115 ?_
        refine V_goto (tgt := 121) dX12_cutAll_116 (by decide) ?_
        refine V_to [0, 1, 2, 3] rfl ?_
        exact vX12_cutAll_J121 hn hk17 hk70 hf
set_option maxRecDepth 100000 in
set_option maxHeartbeats 4000000 in
theorem vX12_cutAll_L70 {E : gE} {n : Nat} {sh : Nat → Nat × Nat} {P : gS → Prop} {k17 : Nat → Int32 → Int32 → gS → Prop} (hn : gOK E n) (hk17 : ∀ (a0 : Nat) (x1 : Int32) (x2 : Int32) (z : gS), k17 a0 x1 x2 z → V E (gR 2 0) gyX12_cutAll 0 0 17 [(0, .ref a0), (1, .int x1), (2, .int x2)] [] n sh z (kN n sh P)) : ∀ (N : Nat) (a0 : Nat) (x1 : Int32) (x2 : Int32) (x4 : Int32) (y5 : Int64) (z : gS), wX12_cutAll_L70 n sh k17 P N a0 x1 x2 x4 y5 z → V E (gR 2 0) gyX12_cutAll 0 0 70 [(0, .ref a0), (1, .int x1), (2, .int x2), (4, .int x4), (5, .long y5)] [] n sh z (kN n sh P) := by
  intro N
  induction N with
  | zero => intro a0 x1 x2 x4 y5 z hf; exact False.elim hf
  | succ N ih => intro a0 x1 x2 x4 y5 z hf; exact vX12_cutAll_B70 hn hk17 ih hf
def wX12_cutAll_B17 (n : Nat) (sh : Nat → Nat × Nat) (k17 : Nat → Int32 → Int32 → gS → Prop) (P : gS → Prop) (a0 : Nat) (x1 : Int32) (x2 : Int32) (z : gS) : Prop := (oO n sh a0 8) ∧ (if (gi z a0 3) ≤ x2 then (∃ t5 : Nat, gr z a0 4 = some t5 ∧ ((oA n sh t5 1) ∧ ((vp_in x1 (sh t5).2) ∧ (∀ z8 : gS, z8 = si z t5 x1.toNatClampNeg (0 : Int32) → (∃ t9 : Nat, gr z8 a0 5 = some t9 ∧ ((oA n sh t9 1) ∧ ((vp_in x1 (sh t9).2) ∧ (∀ z12 : gS, z12 = si z8 t9 x1.toNatClampNeg (gi z8 a0 3) → (∀ z13 : gS, z13 = si z12 a0 7 (0 : Int32) → (∀ z14 : gS, z14 = si z13 a0 8 (0 : Int32) → P z14)))))))))) else (∃ t15 : Nat, gr z a0 1 = some t15 ∧ ((oA n sh t15 1) ∧ ((vp_in x2 (sh t15).2) ∧ (∀ v18 : Int32, v18 = (gi z t15 x2.toNatClampNeg) → (if v18 = (10 : Int32) then wX12_cutAll_J44 n sh k17 P a0 x1 x2 z else (if v18 = (32 : Int32) then wX12_cutAll_J44 n sh k17 P a0 x1 x2 z else (∃ t20 : Nat, gr z a0 5 = some t20 ∧ ((oA n sh t20 1) ∧ ((vp_in x1 (sh t20).2) ∧ (∀ z23 : gS, z23 = si z t20 x1.toNatClampNeg x2 → (wX12_isLetter n sh v18 z23 (fun (r24 : Int32) (z25 : gS) => if r24 = 0 then (wX12_isDigit n sh v18 z25 (fun (r26 : Int32) (z27 : gS) => if r26 = 0 then (∀ v28 : Int64, v28 = v18.toInt64 → (∃ t29 : Nat, gr z27 a0 4 = some t29 ∧ (wX12_isSignOf n sh v18 z27 (fun (r30 : Int32) (z31 : gS) => if r30 = 0 then wX12_cutAll_J261 n sh k17 P a0 x1 x2 v28 (4 : Int32) x1 t29 z31 else wX12_cutAll_J261 n sh k17 P a0 x1 x2 v28 (3 : Int32) x1 t29 z31)))) else ((∃ N, wX12_cutAll_L159 n sh k17 P N a0 x1 x2 x2 (0 : Int64) z27)))) else ((∃ N, wX12_cutAll_L70 n sh k17 P N a0 x1 x2 x2 (0 : Int64) z25)))))))))))))))
def wX12_cutAll_L17 (n : Nat) (sh : Nat → Nat × Nat) (P : gS → Prop) : Nat → Nat → Int32 → Int32 → gS → Prop
  | 0, _, _, _, _ => False
  | N + 1, a0, x1, x2, z => wX12_cutAll_B17 n sh (wX12_cutAll_L17 n sh P N) P a0 x1 x2 z
set_option maxRecDepth 100000 in
set_option maxHeartbeats 4000000 in
theorem vX12_cutAll_B17 {E : gE} {n : Nat} {sh : Nat → Nat × Nat} {P : gS → Prop} {k17 : Nat → Int32 → Int32 → gS → Prop} {a0 : Nat} {x1 : Int32} {x2 : Int32} {z : gS} (hn : gOK E n) (hk17 : ∀ (a0 : Nat) (x1 : Int32) (x2 : Int32) (z : gS), k17 a0 x1 x2 z → V E (gR 2 0) gyX12_cutAll 0 0 17 [(0, .ref a0), (1, .int x1), (2, .int x2)] [] n sh z (kN n sh P)) (hf : wX12_cutAll_B17 n sh k17 P a0 x1 x2 z) : V E (gR 2 0) gyX12_cutAll 0 0 17 [(0, .ref a0), (1, .int x1), (2, .int x2)] [] n sh z (kN n sh P) := by
  unfold wX12_cutAll_B17 at hf
  refine V_iload_n (j := 2) dX12_cutAll_17 rfl rfl ?_
  refine V_aload_n (j := 0) dX12_cutAll_18 rfl rfl ?_
  obtain ⟨h4, hf⟩ := hf
  refine V_getI fl_X12_137 rfl h4.1 h4.2 dX12_cutAll_19 ?_
  refine V_icmp_ge (tgt := 279) dX12_cutAll_22 (by decide) (fun h87 => ?_) (fun h87 => ?_)
  · have hf := it_t h87 hf
    refine V_aload_n (j := 0) dX12_cutAll_279 rfl rfl ?_
    obtain ⟨t5, et5, hf⟩ := hf
    refine V_getR fl_X12_24 rfl h4.1 h4.2 et5 dX12_cutAll_280 ?_
    refine V_iload_n (j := 1) dX12_cutAll_283 rfl rfl ?_
    refine V_iconst (v := (0 : Int32)) dX12_cutAll_284 (by decide) ?_
    obtain ⟨h6, hf⟩ := hf
    obtain ⟨h7, hf⟩ := hf
    refine V_iast h6.1 h6.s h7 dX12_cutAll_285 ?_
    refine V_nz (fun z8 ez8 => ?_)
    have hf := hf z8 ez8
    refine V_aload_n (j := 0) dX12_cutAll_286 rfl rfl ?_
    obtain ⟨t9, et9, hf⟩ := hf
    refine V_getR fl_X12_27 rfl h4.1 h4.2 et9 dX12_cutAll_287 ?_
    refine V_iload_n (j := 1) dX12_cutAll_290 rfl rfl ?_
    refine V_aload_n (j := 0) dX12_cutAll_291 rfl rfl ?_
    refine V_getI fl_X12_137 rfl h4.1 h4.2 dX12_cutAll_292 ?_
    obtain ⟨h10, hf⟩ := hf
    obtain ⟨h11, hf⟩ := hf
    refine V_iast h10.1 h10.s h11 dX12_cutAll_295 ?_
    refine V_nz (fun z12 ez12 => ?_)
    have hf := hf z12 ez12
    refine V_aload_n (j := 0) dX12_cutAll_296 rfl rfl ?_
    refine V_iconst (v := (0 : Int32)) dX12_cutAll_297 (by decide) ?_
    refine V_putI fl_X12_156 rfl rfl rfl rfl h4.1 h4.2 dX12_cutAll_298 ?_
    refine V_nz (fun z13 ez13 => ?_)
    have hf := hf z13 ez13
    refine V_aload_n (j := 0) dX12_cutAll_301 rfl rfl ?_
    refine V_iconst (v := (0 : Int32)) dX12_cutAll_302 (by decide) ?_
    refine V_putI fl_X12_159 rfl rfl rfl rfl h4.1 h4.2 dX12_cutAll_303 ?_
    refine V_nz (fun z14 ez14 => ?_)
    have hf := hf z14 ez14
    exact V_return dX12_cutAll_306 rfl (Nat.le_refl 0) (kN_of hf)
  · have hf := it_f h87 hf
    refine V_aload_n (j := 0) dX12_cutAll_25 rfl rfl ?_
    obtain ⟨t15, et15, hf⟩ := hf
    refine V_getR fl_X12_14 rfl h4.1 h4.2 et15 dX12_cutAll_26 ?_
    refine V_iload_n (j := 2) dX12_cutAll_29 rfl rfl ?_
    obtain ⟨h16, hf⟩ := hf
    obtain ⟨h17, hf⟩ := hf
    refine V_iald h16.1 h16.s h17 dX12_cutAll_30 ?_
    refine V_nI (fun v18 ev18 => ?_)
    have hf := hf v18 ev18
    refine V_istore_n (ls2 := [(3, .int v18), (0, .ref a0), (1, .int x1), (2, .int x2)]) dX12_cutAll_31 rfl (by decide) rfl ?_
    refine V_iload_n (j := 0) dX12_cutAll_32 rfl rfl ?_
    refine V_bipush (v := (10 : Int32)) dX12_cutAll_33 (by decide) ?_
    refine V_icmp_eq (tgt := 44) dX12_cutAll_35 (by decide) (fun h86 => ?_) (fun h86 => ?_)
    · have hf := it_t h86 hf
      refine V_to [1, 2, 3] rfl ?_
      exact vX12_cutAll_J44 hn hk17 hf
    · have hf := it_f h86 hf
      refine V_iload_n (j := 0) dX12_cutAll_38 rfl rfl ?_
      refine V_bipush (v := (32 : Int32)) dX12_cutAll_39 (by decide) ?_
      refine V_icmp_ne (tgt := 50) dX12_cutAll_41 (by decide) (fun h85 => ?_) (fun h85 => ?_)
      · have hf := it_f h85 hf
        refine V_iload_n (j := 3) dX12_cutAll_50 rfl rfl ?_
        refine V_istore (ls2 := [(4, .int x2), (3, .int v18), (0, .ref a0), (1, .int x1), (2, .int x2)]) dX12_cutAll_51 (by decide) rfl ?_
        refine V_lconst (v := (0 : Int64)) dX12_cutAll_53 (by decide) ?_
        refine V_lstore (ls2 := [(5, .long (0 : Int64)), (4, .int x2), (3, .int v18), (0, .ref a0), (1, .int x1), (2, .int x2)]) dX12_cutAll_54 (by decide) rfl ?_
        refine V_aload_n (j := 3) dX12_cutAll_56 rfl rfl ?_
        obtain ⟨t20, et20, hf⟩ := hf
        refine V_getR fl_X12_27 rfl h4.1 h4.2 et20 dX12_cutAll_57 ?_
        refine V_iload_n (j := 4) dX12_cutAll_60 rfl rfl ?_
        refine V_iload_n (j := 5) dX12_cutAll_61 rfl rfl ?_
        obtain ⟨h21, hf⟩ := hf
        obtain ⟨h22, hf⟩ := hf
        refine V_iast h21.1 h21.s h22 dX12_cutAll_62 ?_
        refine V_nz (fun z23 ez23 => ?_)
        have hf := hf z23 ez23
        refine V_iload_n (j := 2) dX12_cutAll_63 rfl rfl ?_
        refine V_cSI (ctX12_isLetter hn hf) gc_X12_133 rfl ⟨by decide, by decide, Nat.zero_le _, Nat.zero_le _⟩ (Nat.le_of_ble_eq_true rfl) dX12_cutAll_64 rfl hn (fun r24 z25 hf => ?_)
        refine V_if_eq (tgt := 152) dX12_cutAll_67 (by decide) (fun h84 => ?_) (fun h84 => ?_)
        · have hf := it_t h84 hf
          refine V_iload_n (j := 2) dX12_cutAll_152 rfl rfl ?_
          refine V_cSI (ctX12_isDigit hn hf) gc_X12_146 rfl ⟨by decide, by decide, Nat.zero_le _, Nat.zero_le _⟩ (Nat.le_of_ble_eq_true rfl) dX12_cutAll_153 rfl hn (fun r26 z27 hf => ?_)
          refine V_if_eq (tgt := 240) dX12_cutAll_156 (by decide) (fun h62 => ?_) (fun h62 => ?_)
          · have hf := it_t h62 hf
            refine V_iload_n (j := 2) dX12_cutAll_240 rfl rfl ?_
            refine V_i2l dX12_cutAll_241 ?_
            refine V_nL (fun v28 ev28 => ?_)
            have hf := hf v28 ev28
            refine V_lstore (ls2 := [(5, .long v28), (4, .int x2), (3, .int v18), (0, .ref a0), (1, .int x1), (2, .int x2)]) dX12_cutAll_242 (by decide) rfl ?_
            refine V_aload_n (j := 3) dX12_cutAll_244 rfl rfl ?_
            obtain ⟨t29, et29, hf⟩ := hf
            refine V_getR fl_X12_24 rfl h4.1 h4.2 et29 dX12_cutAll_245 ?_
            refine V_iload_n (j := 4) dX12_cutAll_248 rfl rfl ?_
            refine V_iload_n (j := 2) dX12_cutAll_249 rfl rfl ?_
            refine V_cSI (ctX12_isSignOf hn hf) gc_X12_153 rfl ⟨by decide, by decide, Nat.zero_le _, Nat.zero_le _⟩ (Nat.le_of_ble_eq_true rfl) dX12_cutAll_250 rfl hn (fun r30 z31 hf => ?_)
            refine V_if_eq (tgt := 260) dX12_cutAll_253 (by decide) (fun h42 => ?_) (fun h42 => ?_)
            · have hf := it_t h42 hf
              refine V_iconst (v := (4 : Int32)) dX12_cutAll_260 (by decide) ?_
              refine V_to [3, 4, 5, 0] rfl ?_
              exact vX12_cutAll_J261 hn hk17 hf
            · have hf := it_f h42 hf
              refine V_iconst (v := (3 : Int32)) dX12_cutAll_256 (by decide) ?_
              refine V_goto (tgt := 261) dX12_cutAll_257 (by decide) ?_
              refine V_to [3, 4, 5, 0] rfl ?_
              exact vX12_cutAll_J261 hn hk17 hf
          · have hf := it_f h62 hf
            obtain ⟨N, hf⟩ := hf
            refine V_to [3, 4, 5, 1, 0] rfl ?_
            exact vX12_cutAll_L159 hn hk17 N _ _ _ _ _ _ hf
        · have hf := it_f h84 hf
          obtain ⟨N, hf⟩ := hf
          refine V_to [3, 4, 5, 1, 0] rfl ?_
          exact vX12_cutAll_L70 hn hk17 N _ _ _ _ _ _ hf
      · have hf := it_t (Classical.not_not.mp h85) hf
        refine V_to [1, 2, 3] rfl ?_
        exact vX12_cutAll_J44 hn hk17 hf
set_option maxRecDepth 100000 in
set_option maxHeartbeats 4000000 in
theorem vX12_cutAll_L17 {E : gE} {n : Nat} {sh : Nat → Nat × Nat} {P : gS → Prop} (hn : gOK E n) : ∀ (N : Nat) (a0 : Nat) (x1 : Int32) (x2 : Int32) (z : gS), wX12_cutAll_L17 n sh P N a0 x1 x2 z → V E (gR 2 0) gyX12_cutAll 0 0 17 [(0, .ref a0), (1, .int x1), (2, .int x2)] [] n sh z (kN n sh P) := by
  intro N
  induction N with
  | zero => intro a0 x1 x2 z hf; exact False.elim hf
  | succ N ih => intro a0 x1 x2 z hf; exact vX12_cutAll_B17 hn ih hf
def wX12_cutAll (n : Nat) (sh : Nat → Nat × Nat) (a0 : Nat) (z : gS) (P : gS → Prop) : Prop := (oO n sh a0 8) ∧ (∀ z2 : gS, z2 = si z a0 3 (gi z a0 2) → (∀ z3 : gS, z3 = si z2 a0 2 (0 : Int32) → ((∃ N, wX12_cutAll_L17 n sh P N a0 (0 : Int32) (0 : Int32) z3))))
set_option maxRecDepth 100000 in
set_option maxHeartbeats 4000000 in
theorem ctX12_cutAll {E : gE} {n : Nat} {sh : Nat → Nat × Nat} {a0 : Nat} {z : gS} {P : gS → Prop} (hn : gOK E n) (hf : wX12_cutAll n sh a0 z P) : VM E 2 0 gyX12_cutAll [.ref a0] n sh z (kN n sh P) := by
  unfold wX12_cutAll at hf
  refine VM.of (by decide +kernel) (Nat.le_of_ble_eq_true rfl) (fun _ _ _ h => h.2.2) ?_
  show V E (gR 2 0) gyX12_cutAll 0 0 0 [(0, .ref a0)] [] n sh z (kN n sh P)
  refine V_aload_n (j := 0) dX12_cutAll_0 rfl rfl ?_
  refine V_aload_n (j := 0) dX12_cutAll_1 rfl rfl ?_
  obtain ⟨h1, hf⟩ := hf
  refine V_getI fl_X12_11 rfl h1.1 h1.2 dX12_cutAll_2 ?_
  refine V_putI fl_X12_137 rfl rfl rfl rfl h1.1 h1.2 dX12_cutAll_5 ?_
  refine V_nz (fun z2 ez2 => ?_)
  have hf := hf z2 ez2
  refine V_aload_n (j := 0) dX12_cutAll_8 rfl rfl ?_
  refine V_iconst (v := (0 : Int32)) dX12_cutAll_9 (by decide) ?_
  refine V_putI fl_X12_11 rfl rfl rfl rfl h1.1 h1.2 dX12_cutAll_10 ?_
  refine V_nz (fun z3 ez3 => ?_)
  have hf := hf z3 ez3
  refine V_iconst (v := (0 : Int32)) dX12_cutAll_13 (by decide) ?_
  refine V_istore_n (ls2 := [(1, .int (0 : Int32)), (0, .ref a0)]) dX12_cutAll_14 rfl (by decide) rfl ?_
  refine V_iconst (v := (0 : Int32)) dX12_cutAll_15 (by decide) ?_
  refine V_istore_n (ls2 := [(2, .int (0 : Int32)), (1, .int (0 : Int32)), (0, .ref a0)]) dX12_cutAll_16 rfl (by decide) rfl ?_
  obtain ⟨N, hf⟩ := hf
  refine V_to [2, 1, 0] rfl ?_
  exact vX12_cutAll_L17 hn N _ _ _ _ hf
def wX12_wrong (n : Nat) (sh : Nat → Nat × Nat) (a0 : Nat) (x1 : Int32) (z : gS) (P : gS → Prop) : Prop := (oO n sh a0 8) ∧ (if (gi z a0 8) = 0 then (∃ t2 : Nat, gr z a0 5 = some t2 ∧ ((oA n sh t2 1) ∧ ((vp_in (gi z a0 7) (sh t2).2) ∧ (∀ z5 : gS, z5 = si z a0 8 (x1 + ((16 : Int32) * (gi z t2 (gi z a0 7).toNatClampNeg))) → P z5)))) else P z)
set_option maxRecDepth 100000 in
set_option maxHeartbeats 4000000 in
theorem ctX12_wrong {E : gE} {n : Nat} {sh : Nat → Nat × Nat} {a0 : Nat} {x1 : Int32} {z : gS} {P : gS → Prop} (hn : gOK E n) (hf : wX12_wrong n sh a0 x1 z P) : VM E 0 0 gyX12_wrong [.ref a0, .int x1] n sh z (kN n sh P) := by
  unfold wX12_wrong at hf
  refine VM.of (by decide +kernel) (Nat.le_of_ble_eq_true rfl) (fun _ _ _ h => h.2.2) ?_
  show V E (gR 0 0) gyX12_wrong 0 0 0 [(0, .ref a0), (1, .int x1)] [] n sh z (kN n sh P)
  refine V_aload_n (j := 0) dX12_wrong_0 rfl rfl ?_
  obtain ⟨h1, hf⟩ := hf
  refine V_getI fl_X12_159 rfl h1.1 h1.2 dX12_wrong_1 ?_
  refine V_if_ne (tgt := 25) dX12_wrong_4 (by decide) (fun h6 => ?_) (fun h6 => ?_)
  · have hf := it_f h6 hf
    exact V_return dX12_wrong_25 rfl (Nat.le_refl 0) (kN_of hf)
  · have hf := it_t (Classical.not_not.mp h6) hf
    refine V_aload_n (j := 0) dX12_wrong_7 rfl rfl ?_
    refine V_iload_n (j := 1) dX12_wrong_8 rfl rfl ?_
    refine V_bipush (v := (16 : Int32)) dX12_wrong_9 (by decide) ?_
    refine V_aload_n (j := 0) dX12_wrong_11 rfl rfl ?_
    obtain ⟨t2, et2, hf⟩ := hf
    refine V_getR fl_X12_27 rfl h1.1 h1.2 et2 dX12_wrong_12 ?_
    refine V_aload_n (j := 0) dX12_wrong_15 rfl rfl ?_
    refine V_getI fl_X12_156 rfl h1.1 h1.2 dX12_wrong_16 ?_
    obtain ⟨h3, hf⟩ := hf
    obtain ⟨h4, hf⟩ := hf
    refine V_iald h3.1 h3.s h4 dX12_wrong_19 ?_
    refine V_imul dX12_wrong_20 ?_
    refine V_iadd dX12_wrong_21 ?_
    refine V_putI fl_X12_159 rfl rfl rfl rfl h1.1 h1.2 dX12_wrong_22 ?_
    refine V_nz (fun z5 ez5 => ?_)
    have hf := hf z5 ez5
    exact V_return dX12_wrong_25 rfl (Nat.le_refl 0) (kN_of hf)
def wX12_isSign (n : Nat) (sh : Nat → Nat × Nat) (a0 : Nat) (x1 : Int32) (z : gS) (P : Int32 → gS → Prop) : Prop := (oO n sh a0 8) ∧ (if (gi z a0 8) = 0 then (∃ t2 : Nat, gr z a0 4 = some t2 ∧ ((oA n sh t2 1) ∧ ((vp_in (gi z a0 7) (sh t2).2) ∧ (if (gi z t2 (gi z a0 7).toNatClampNeg) = (3 : Int32) then (∃ t5 : Nat, gr z a0 6 = some t5 ∧ ((oA n sh t5 2) ∧ ((vp_in (gi z a0 7) (sh t5).2) ∧ (if (lg_cmp (gl z t5 (gi z a0 7).toNatClampNeg) x1.toInt64) = 0 then P (1 : Int32) z else P (0 : Int32) z)))) else P (0 : Int32) z)))) else P (0 : Int32) z)
set_option maxRecDepth 100000 in
set_option maxHeartbeats 4000000 in
theorem ctX12_isSign {E : gE} {n : Nat} {sh : Nat → Nat × Nat} {a0 : Nat} {x1 : Int32} {z : gS} {P : Int32 → gS → Prop} (hn : gOK E n) (hf : wX12_isSign n sh a0 x1 z P) : VM E 0 0 gyX12_isSign [.ref a0, .int x1] n sh z (kI n sh P) := by
  unfold wX12_isSign at hf
  refine VM.of (by decide +kernel) (Nat.le_of_ble_eq_true rfl) (fun _ _ _ h => h.2.2) ?_
  show V E (gR 0 0) gyX12_isSign 0 0 0 [(0, .ref a0), (1, .int x1)] [] n sh z (kI n sh P)
  refine V_aload_n (j := 0) dX12_isSign_0 rfl rfl ?_
  obtain ⟨h1, hf⟩ := hf
  refine V_getI fl_X12_159 rfl h1.1 h1.2 dX12_isSign_1 ?_
  refine V_if_ne (tgt := 39) dX12_isSign_4 (by decide) (fun h10 => ?_) (fun h10 => ?_)
  · have hf := it_f h10 hf
    refine V_iconst (v := (0 : Int32)) dX12_isSign_39 (by decide) ?_
    exact V_ireturn dX12_isSign_40 rfl (by decide) (Nat.le_refl 0) (kI_of hf)
  · have hf := it_t (Classical.not_not.mp h10) hf
    refine V_aload_n (j := 0) dX12_isSign_7 rfl rfl ?_
    obtain ⟨t2, et2, hf⟩ := hf
    refine V_getR fl_X12_24 rfl h1.1 h1.2 et2 dX12_isSign_8 ?_
    refine V_aload_n (j := 0) dX12_isSign_11 rfl rfl ?_
    refine V_getI fl_X12_156 rfl h1.1 h1.2 dX12_isSign_12 ?_
    obtain ⟨h3, hf⟩ := hf
    obtain ⟨h4, hf⟩ := hf
    refine V_iald h3.1 h3.s h4 dX12_isSign_15 ?_
    refine V_iconst (v := (3 : Int32)) dX12_isSign_16 (by decide) ?_
    refine V_icmp_ne (tgt := 39) dX12_isSign_17 (by decide) (fun h9 => ?_) (fun h9 => ?_)
    · have hf := it_f h9 hf
      refine V_iconst (v := (0 : Int32)) dX12_isSign_39 (by decide) ?_
      exact V_ireturn dX12_isSign_40 rfl (by decide) (Nat.le_refl 0) (kI_of hf)
    · have hf := it_t (Classical.not_not.mp h9) hf
      refine V_aload_n (j := 0) dX12_isSign_20 rfl rfl ?_
      obtain ⟨t5, et5, hf⟩ := hf
      refine V_getR fl_X12_30 rfl h1.1 h1.2 et5 dX12_isSign_21 ?_
      refine V_aload_n (j := 0) dX12_isSign_24 rfl rfl ?_
      refine V_getI fl_X12_156 rfl h1.1 h1.2 dX12_isSign_25 ?_
      obtain ⟨h6, hf⟩ := hf
      obtain ⟨h7, hf⟩ := hf
      refine V_lald h6.1 h6.s h7 dX12_isSign_28 ?_
      refine V_iload_n (j := 1) dX12_isSign_29 rfl rfl ?_
      refine V_i2l dX12_isSign_30 ?_
      refine V_lcmp dX12_isSign_31 ?_
      refine V_if_ne (tgt := 39) dX12_isSign_32 (by decide) (fun h8 => ?_) (fun h8 => ?_)
      · have hf := it_f h8 hf
        refine V_iconst (v := (0 : Int32)) dX12_isSign_39 (by decide) ?_
        exact V_ireturn dX12_isSign_40 rfl (by decide) (Nat.le_refl 0) (kI_of hf)
      · have hf := it_t (Classical.not_not.mp h8) hf
        refine V_iconst (v := (1 : Int32)) dX12_isSign_35 (by decide) ?_
        refine V_goto (tgt := 40) dX12_isSign_36 (by decide) ?_
        exact V_ireturn dX12_isSign_40 rfl (by decide) (Nat.le_refl 0) (kI_of hf)
def wX12_isWord (n : Nat) (sh : Nat → Nat × Nat) (a0 : Nat) (x1 : Int32) (z : gS) (P : Int32 → gS → Prop) : Prop := (oO n sh a0 8) ∧ (if (gi z a0 8) = 0 then (∃ t2 : Nat, gr z a0 4 = some t2 ∧ ((oA n sh t2 1) ∧ ((vp_in (gi z a0 7) (sh t2).2) ∧ (if (gi z t2 (gi z a0 7).toNatClampNeg) = (1 : Int32) then (∃ t5 : Nat, gr z a0 6 = some t5 ∧ ((oA n sh t5 2) ∧ ((vp_in (gi z a0 7) (sh t5).2) ∧ (∃ t8 : Nat, gr z a0 9 = some t8 ∧ ((oA n sh t8 2) ∧ ((vp_in x1 (sh t8).2) ∧ (if (lg_cmp (gl z t5 (gi z a0 7).toNatClampNeg) (gl z t8 x1.toNatClampNeg)) = 0 then P (1 : Int32) z else P (0 : Int32) z))))))) else P (0 : Int32) z)))) else P (0 : Int32) z)
set_option maxRecDepth 100000 in
set_option maxHeartbeats 4000000 in
theorem ctX12_isWord {E : gE} {n : Nat} {sh : Nat → Nat × Nat} {a0 : Nat} {x1 : Int32} {z : gS} {P : Int32 → gS → Prop} (hn : gOK E n) (hf : wX12_isWord n sh a0 x1 z P) : VM E 0 0 gyX12_isWord [.ref a0, .int x1] n sh z (kI n sh P) := by
  unfold wX12_isWord at hf
  refine VM.of (by decide +kernel) (Nat.le_of_ble_eq_true rfl) (fun _ _ _ h => h.2.2) ?_
  show V E (gR 0 0) gyX12_isWord 0 0 0 [(0, .ref a0), (1, .int x1)] [] n sh z (kI n sh P)
  refine V_aload_n (j := 0) dX12_isWord_0 rfl rfl ?_
  obtain ⟨h1, hf⟩ := hf
  refine V_getI fl_X12_159 rfl h1.1 h1.2 dX12_isWord_1 ?_
  refine V_if_ne (tgt := 43) dX12_isWord_4 (by decide) (fun h13 => ?_) (fun h13 => ?_)
  · have hf := it_f h13 hf
    refine V_iconst (v := (0 : Int32)) dX12_isWord_43 (by decide) ?_
    exact V_ireturn dX12_isWord_44 rfl (by decide) (Nat.le_refl 0) (kI_of hf)
  · have hf := it_t (Classical.not_not.mp h13) hf
    refine V_aload_n (j := 0) dX12_isWord_7 rfl rfl ?_
    obtain ⟨t2, et2, hf⟩ := hf
    refine V_getR fl_X12_24 rfl h1.1 h1.2 et2 dX12_isWord_8 ?_
    refine V_aload_n (j := 0) dX12_isWord_11 rfl rfl ?_
    refine V_getI fl_X12_156 rfl h1.1 h1.2 dX12_isWord_12 ?_
    obtain ⟨h3, hf⟩ := hf
    obtain ⟨h4, hf⟩ := hf
    refine V_iald h3.1 h3.s h4 dX12_isWord_15 ?_
    refine V_iconst (v := (1 : Int32)) dX12_isWord_16 (by decide) ?_
    refine V_icmp_ne (tgt := 43) dX12_isWord_17 (by decide) (fun h12 => ?_) (fun h12 => ?_)
    · have hf := it_f h12 hf
      refine V_iconst (v := (0 : Int32)) dX12_isWord_43 (by decide) ?_
      exact V_ireturn dX12_isWord_44 rfl (by decide) (Nat.le_refl 0) (kI_of hf)
    · have hf := it_t (Classical.not_not.mp h12) hf
      refine V_aload_n (j := 0) dX12_isWord_20 rfl rfl ?_
      obtain ⟨t5, et5, hf⟩ := hf
      refine V_getR fl_X12_30 rfl h1.1 h1.2 et5 dX12_isWord_21 ?_
      refine V_aload_n (j := 0) dX12_isWord_24 rfl rfl ?_
      refine V_getI fl_X12_156 rfl h1.1 h1.2 dX12_isWord_25 ?_
      obtain ⟨h6, hf⟩ := hf
      obtain ⟨h7, hf⟩ := hf
      refine V_lald h6.1 h6.s h7 dX12_isWord_28 ?_
      refine V_aload_n (j := 0) dX12_isWord_29 rfl rfl ?_
      obtain ⟨t8, et8, hf⟩ := hf
      refine V_getR fl_X12_86 rfl h1.1 h1.2 et8 dX12_isWord_30 ?_
      refine V_iload_n (j := 1) dX12_isWord_33 rfl rfl ?_
      obtain ⟨h9, hf⟩ := hf
      obtain ⟨h10, hf⟩ := hf
      refine V_lald h9.1 h9.s h10 dX12_isWord_34 ?_
      refine V_lcmp dX12_isWord_35 ?_
      refine V_if_ne (tgt := 43) dX12_isWord_36 (by decide) (fun h11 => ?_) (fun h11 => ?_)
      · have hf := it_f h11 hf
        refine V_iconst (v := (0 : Int32)) dX12_isWord_43 (by decide) ?_
        exact V_ireturn dX12_isWord_44 rfl (by decide) (Nat.le_refl 0) (kI_of hf)
      · have hf := it_t (Classical.not_not.mp h11) hf
        refine V_iconst (v := (1 : Int32)) dX12_isWord_39 (by decide) ?_
        refine V_goto (tgt := 44) dX12_isWord_40 (by decide) ?_
        exact V_ireturn dX12_isWord_44 rfl (by decide) (Nat.le_refl 0) (kI_of hf)
def wX12_takeSign (n : Nat) (sh : Nat → Nat × Nat) (a0 : Nat) (x1 : Int32) (z : gS) (P : gS → Prop) : Prop := (oO n sh a0 8) ∧ (wX12_isSign n sh a0 x1 z (fun (r1 : Int32) (z2 : gS) => if r1 = 0 then (wX12_wrong n sh a0 (1 : Int32) z2 (fun (z5 : gS) => P z5)) else (∀ z6 : gS, z6 = si z2 a0 7 ((gi z2 a0 7) + (1 : Int32)) → P z6)))
set_option maxRecDepth 100000 in
set_option maxHeartbeats 4000000 in
theorem ctX12_takeSign {E : gE} {n : Nat} {sh : Nat → Nat × Nat} {a0 : Nat} {x1 : Int32} {z : gS} {P : gS → Prop} (hn : gOK E n) (hf : wX12_takeSign n sh a0 x1 z P) : VM E 1 0 gyX12_takeSign [.ref a0, .int x1] n sh z (kN n sh P) := by
  unfold wX12_takeSign at hf
  refine VM.of (by decide +kernel) (Nat.le_of_ble_eq_true rfl) (fun _ _ _ h => h.2.2) ?_
  show V E (gR 1 0) gyX12_takeSign 0 0 0 [(0, .ref a0), (1, .int x1)] [] n sh z (kN n sh P)
  refine V_aload_n (j := 0) dX12_takeSign_0 rfl rfl ?_
  refine V_iload_n (j := 1) dX12_takeSign_1 rfl rfl ?_
  obtain ⟨h3, hf⟩ := hf
  refine V_cVI (ctX12_isSign hn hf) gc_X12_162 rfl h3.1 ⟨_, h3.2, by decide, rfl⟩ ⟨by decide, by decide, Nat.zero_le _, Nat.zero_le _⟩ (Nat.le_of_ble_eq_true rfl) dX12_takeSign_2 rfl hn (fun r1 z2 hf => ?_)
  refine V_if_eq (tgt := 21) dX12_takeSign_5 (by decide) (fun h7 => ?_) (fun h7 => ?_)
  · have hf := it_t h7 hf
    refine V_aload_n (j := 0) dX12_takeSign_21 rfl rfl ?_
    refine V_iconst (v := (1 : Int32)) dX12_takeSign_22 (by decide) ?_
    refine V_cVN (ctX12_wrong hn hf) gc_X12_165 rfl h3.1 ⟨_, h3.2, by decide, rfl⟩ ⟨by decide, by decide, Nat.zero_le _, Nat.zero_le _⟩ (Nat.le_of_ble_eq_true rfl) dX12_takeSign_23 rfl hn (fun z5 hf => ?_)
    exact V_return dX12_takeSign_26 rfl (Nat.le_refl 0) (kN_of hf)
  · have hf := it_f h7 hf
    refine V_aload_n (j := 0) dX12_takeSign_8 rfl rfl ?_
    refine V_dup dX12_takeSign_9 rfl ?_
    refine V_getI fl_X12_156 rfl h3.1 h3.2 dX12_takeSign_10 ?_
    refine V_iconst (v := (1 : Int32)) dX12_takeSign_13 (by decide) ?_
    refine V_iadd dX12_takeSign_14 ?_
    refine V_putI fl_X12_156 rfl rfl rfl rfl h3.1 h3.2 dX12_takeSign_15 ?_
    refine V_nz (fun z6 ez6 => ?_)
    have hf := hf z6 ez6
    refine V_goto (tgt := 26) dX12_takeSign_18 (by decide) ?_
    exact V_return dX12_takeSign_26 rfl (Nat.le_refl 0) (kN_of hf)
def wX12_hasSign_J20 (n : Nat) (sh : Nat → Nat × Nat) (P : Int32 → gS → Prop) (x2 : Int32) (s0 : Int32) (s1 : Int32) (s2 : Nat) (z : gS) : Prop := (oO n sh s2 8) ∧ (∀ z5 : gS, z5 = si z s2 7 (s1 + s0) → ((bo x2) ∧ P x2 z5))
set_option maxRecDepth 100000 in
set_option maxHeartbeats 4000000 in
theorem vX12_hasSign_J20 {E : gE} {n : Nat} {sh : Nat → Nat × Nat} {P : Int32 → gS → Prop} {x2 : Int32} {s0 : Int32} {s1 : Int32} {s2 : Nat} {z : gS} (hn : gOK E n) (hf : wX12_hasSign_J20 n sh P x2 s0 s1 s2 z) : V E (gR 1 0) gyX12_hasSign 0 0 20 [(2, .int x2)] [.int s0, .int s1, .ref s2] n sh z (kI n sh P) := by
  unfold wX12_hasSign_J20 at hf
  refine V_iadd dX12_hasSign_20 ?_
  obtain ⟨h4, hf⟩ := hf
  refine V_putI fl_X12_156 rfl rfl rfl rfl h4.1 h4.2 dX12_hasSign_21 ?_
  refine V_nz (fun z5 ez5 => ?_)
  have hf := hf z5 ez5
  refine V_iload_n (j := 0) dX12_hasSign_24 rfl rfl ?_
  exact V_ireturn dX12_hasSign_25 rfl hf.1 (Nat.le_refl 0) (kI_of hf.2)
def wX12_hasSign (n : Nat) (sh : Nat → Nat × Nat) (a0 : Nat) (x1 : Int32) (z : gS) (P : Int32 → gS → Prop) : Prop := (oO n sh a0 8) ∧ (wX12_isSign n sh a0 x1 z (fun (r1 : Int32) (z2 : gS) => if r1 = 0 then wX12_hasSign_J20 n sh P r1 (0 : Int32) (gi z2 a0 7) a0 z2 else wX12_hasSign_J20 n sh P r1 (1 : Int32) (gi z2 a0 7) a0 z2))
set_option maxRecDepth 100000 in
set_option maxHeartbeats 4000000 in
theorem ctX12_hasSign {E : gE} {n : Nat} {sh : Nat → Nat × Nat} {a0 : Nat} {x1 : Int32} {z : gS} {P : Int32 → gS → Prop} (hn : gOK E n) (hf : wX12_hasSign n sh a0 x1 z P) : VM E 1 0 gyX12_hasSign [.ref a0, .int x1] n sh z (kI n sh P) := by
  unfold wX12_hasSign at hf
  refine VM.of (by decide +kernel) (Nat.le_of_ble_eq_true rfl) (fun _ _ _ h => h.2.2) ?_
  show V E (gR 1 0) gyX12_hasSign 0 0 0 [(0, .ref a0), (1, .int x1)] [] n sh z (kI n sh P)
  refine V_aload_n (j := 0) dX12_hasSign_0 rfl rfl ?_
  refine V_iload_n (j := 1) dX12_hasSign_1 rfl rfl ?_
  obtain ⟨h3, hf⟩ := hf
  refine V_cVI (ctX12_isSign hn hf) gc_X12_162 rfl h3.1 ⟨_, h3.2, by decide, rfl⟩ ⟨by decide, by decide, Nat.zero_le _, Nat.zero_le _⟩ (Nat.le_of_ble_eq_true rfl) dX12_hasSign_2 rfl hn (fun r1 z2 hf => ?_)
  refine V_istore_n (ls2 := [(2, .int r1), (0, .ref a0), (1, .int x1)]) dX12_hasSign_5 rfl (by decide) rfl ?_
  refine V_aload_n (j := 1) dX12_hasSign_6 rfl rfl ?_
  refine V_dup dX12_hasSign_7 rfl ?_
  refine V_getI fl_X12_156 rfl h3.1 h3.2 dX12_hasSign_8 ?_
  refine V_iload_n (j := 0) dX12_hasSign_11 rfl rfl ?_
  refine V_if_eq (tgt := 19) dX12_hasSign_12 (by decide) (fun h6 => ?_) (fun h6 => ?_)
  · have hf := it_t h6 hf
    refine V_iconst (v := (0 : Int32)) dX12_hasSign_19 (by decide) ?_
    refine V_to [0] rfl ?_
    exact vX12_hasSign_J20 hn hf
  · have hf := it_f h6 hf
    refine V_iconst (v := (1 : Int32)) dX12_hasSign_15 (by decide) ?_
    refine V_goto (tgt := 20) dX12_hasSign_16 (by decide) ?_
    refine V_to [0] rfl ?_
    exact vX12_hasSign_J20 hn hf
def wX12_hasWord_J20 (n : Nat) (sh : Nat → Nat × Nat) (P : Int32 → gS → Prop) (x2 : Int32) (s0 : Int32) (s1 : Int32) (s2 : Nat) (z : gS) : Prop := (oO n sh s2 8) ∧ (∀ z5 : gS, z5 = si z s2 7 (s1 + s0) → ((bo x2) ∧ P x2 z5))
set_option maxRecDepth 100000 in
set_option maxHeartbeats 4000000 in
theorem vX12_hasWord_J20 {E : gE} {n : Nat} {sh : Nat → Nat × Nat} {P : Int32 → gS → Prop} {x2 : Int32} {s0 : Int32} {s1 : Int32} {s2 : Nat} {z : gS} (hn : gOK E n) (hf : wX12_hasWord_J20 n sh P x2 s0 s1 s2 z) : V E (gR 1 0) gyX12_hasWord 0 0 20 [(2, .int x2)] [.int s0, .int s1, .ref s2] n sh z (kI n sh P) := by
  unfold wX12_hasWord_J20 at hf
  refine V_iadd dX12_hasWord_20 ?_
  obtain ⟨h4, hf⟩ := hf
  refine V_putI fl_X12_156 rfl rfl rfl rfl h4.1 h4.2 dX12_hasWord_21 ?_
  refine V_nz (fun z5 ez5 => ?_)
  have hf := hf z5 ez5
  refine V_iload_n (j := 0) dX12_hasWord_24 rfl rfl ?_
  exact V_ireturn dX12_hasWord_25 rfl hf.1 (Nat.le_refl 0) (kI_of hf.2)
def wX12_hasWord (n : Nat) (sh : Nat → Nat × Nat) (a0 : Nat) (x1 : Int32) (z : gS) (P : Int32 → gS → Prop) : Prop := (oO n sh a0 8) ∧ (wX12_isWord n sh a0 x1 z (fun (r1 : Int32) (z2 : gS) => if r1 = 0 then wX12_hasWord_J20 n sh P r1 (0 : Int32) (gi z2 a0 7) a0 z2 else wX12_hasWord_J20 n sh P r1 (1 : Int32) (gi z2 a0 7) a0 z2))
set_option maxRecDepth 100000 in
set_option maxHeartbeats 4000000 in
theorem ctX12_hasWord {E : gE} {n : Nat} {sh : Nat → Nat × Nat} {a0 : Nat} {x1 : Int32} {z : gS} {P : Int32 → gS → Prop} (hn : gOK E n) (hf : wX12_hasWord n sh a0 x1 z P) : VM E 1 0 gyX12_hasWord [.ref a0, .int x1] n sh z (kI n sh P) := by
  unfold wX12_hasWord at hf
  refine VM.of (by decide +kernel) (Nat.le_of_ble_eq_true rfl) (fun _ _ _ h => h.2.2) ?_
  show V E (gR 1 0) gyX12_hasWord 0 0 0 [(0, .ref a0), (1, .int x1)] [] n sh z (kI n sh P)
  refine V_aload_n (j := 0) dX12_hasWord_0 rfl rfl ?_
  refine V_iload_n (j := 1) dX12_hasWord_1 rfl rfl ?_
  obtain ⟨h3, hf⟩ := hf
  refine V_cVI (ctX12_isWord hn hf) gc_X12_168 rfl h3.1 ⟨_, h3.2, by decide, rfl⟩ ⟨by decide, by decide, Nat.zero_le _, Nat.zero_le _⟩ (Nat.le_of_ble_eq_true rfl) dX12_hasWord_2 rfl hn (fun r1 z2 hf => ?_)
  refine V_istore_n (ls2 := [(2, .int r1), (0, .ref a0), (1, .int x1)]) dX12_hasWord_5 rfl (by decide) rfl ?_
  refine V_aload_n (j := 1) dX12_hasWord_6 rfl rfl ?_
  refine V_dup dX12_hasWord_7 rfl ?_
  refine V_getI fl_X12_156 rfl h3.1 h3.2 dX12_hasWord_8 ?_
  refine V_iload_n (j := 0) dX12_hasWord_11 rfl rfl ?_
  refine V_if_eq (tgt := 19) dX12_hasWord_12 (by decide) (fun h6 => ?_) (fun h6 => ?_)
  · have hf := it_t h6 hf
    refine V_iconst (v := (0 : Int32)) dX12_hasWord_19 (by decide) ?_
    refine V_to [0] rfl ?_
    exact vX12_hasWord_J20 hn hf
  · have hf := it_f h6 hf
    refine V_iconst (v := (1 : Int32)) dX12_hasWord_15 (by decide) ?_
    refine V_goto (tgt := 20) dX12_hasWord_16 (by decide) ?_
    refine V_to [0] rfl ?_
    exact vX12_hasWord_J20 hn hf
def wX12_takeWord (n : Nat) (sh : Nat → Nat × Nat) (a0 : Nat) (x1 : Int32) (z : gS) (P : gS → Prop) : Prop := (oO n sh a0 8) ∧ (wX12_hasWord n sh a0 x1 z (fun (r1 : Int32) (z2 : gS) => if r1 = 0 then (wX12_wrong n sh a0 (1 : Int32) z2 (fun (z5 : gS) => P z5)) else P z2))
set_option maxRecDepth 100000 in
set_option maxHeartbeats 4000000 in
theorem ctX12_takeWord {E : gE} {n : Nat} {sh : Nat → Nat × Nat} {a0 : Nat} {x1 : Int32} {z : gS} {P : gS → Prop} (hn : gOK E n) (hf : wX12_takeWord n sh a0 x1 z P) : VM E 2 0 gyX12_takeWord [.ref a0, .int x1] n sh z (kN n sh P) := by
  unfold wX12_takeWord at hf
  refine VM.of (by decide +kernel) (Nat.le_of_ble_eq_true rfl) (fun _ _ _ h => h.2.2) ?_
  show V E (gR 2 0) gyX12_takeWord 0 0 0 [(0, .ref a0), (1, .int x1)] [] n sh z (kN n sh P)
  refine V_aload_n (j := 0) dX12_takeWord_0 rfl rfl ?_
  refine V_iload_n (j := 1) dX12_takeWord_1 rfl rfl ?_
  obtain ⟨h3, hf⟩ := hf
  refine V_cVI (ctX12_hasWord hn hf) gc_X12_171 rfl h3.1 ⟨_, h3.2, by decide, rfl⟩ ⟨by decide, by decide, Nat.zero_le _, Nat.zero_le _⟩ (Nat.le_of_ble_eq_true rfl) dX12_takeWord_2 rfl hn (fun r1 z2 hf => ?_)
  refine V_if_ne (tgt := 13) dX12_takeWord_5 (by decide) (fun h6 => ?_) (fun h6 => ?_)
  · have hf := it_f h6 hf
    exact V_return dX12_takeWord_13 rfl (Nat.le_refl 0) (kN_of hf)
  · have hf := it_t (Classical.not_not.mp h6) hf
    refine V_aload_n (j := 0) dX12_takeWord_8 rfl rfl ?_
    refine V_iconst (v := (1 : Int32)) dX12_takeWord_9 (by decide) ?_
    refine V_cVN (ctX12_wrong hn hf) gc_X12_165 rfl h3.1 ⟨_, h3.2, by decide, rfl⟩ ⟨by decide, by decide, Nat.zero_le _, Nat.zero_le _⟩ (Nat.le_of_ble_eq_true rfl) dX12_takeWord_10 rfl hn (fun z5 hf => ?_)
    exact V_return dX12_takeWord_13 rfl (Nat.le_refl 0) (kN_of hf)
def wX12_within (n : Nat) (sh : Nat → Nat × Nat) (x0 : Int32) (x1 : Int32) (x2 : Int32) (z : gS) (P : Int32 → gS → Prop) : Prop := if x0 < x1 then P (0 : Int32) z else (if x2 < x0 then P (0 : Int32) z else P (1 : Int32) z)
set_option maxRecDepth 100000 in
set_option maxHeartbeats 4000000 in
theorem ctX12_within {E : gE} {n : Nat} {sh : Nat → Nat × Nat} {x0 : Int32} {x1 : Int32} {x2 : Int32} {z : gS} {P : Int32 → gS → Prop} (hn : gOK E n) (hf : wX12_within n sh x0 x1 x2 z P) : VM E 0 0 gyX12_within [.int x0, .int x1, .int x2] n sh z (kI n sh P) := by
  unfold wX12_within at hf
  refine VM.of (by decide +kernel) (Nat.le_of_ble_eq_true rfl) (fun _ _ _ h => h.2.2) ?_
  show V E (gR 0 0) gyX12_within 0 0 0 [(0, .int x0), (1, .int x1), (2, .int x2)] [] n sh z (kI n sh P)
  refine V_iload_n (j := 0) dX12_within_0 rfl rfl ?_
  refine V_iload_n (j := 1) dX12_within_1 rfl rfl ?_
  refine V_icmp_lt (tgt := 14) dX12_within_2 (by decide) (fun h2 => ?_) (fun h2 => ?_)
  · have hf := it_t h2 hf
    refine V_iconst (v := (0 : Int32)) dX12_within_14 (by decide) ?_
    exact V_ireturn dX12_within_15 rfl (by decide) (Nat.le_refl 0) (kI_of hf)
  · have hf := it_f h2 hf
    refine V_iload_n (j := 0) dX12_within_5 rfl rfl ?_
    refine V_iload_n (j := 2) dX12_within_6 rfl rfl ?_
    refine V_icmp_gt (tgt := 14) dX12_within_7 (by decide) (fun h1 => ?_) (fun h1 => ?_)
    · have hf := it_t h1 hf
      refine V_iconst (v := (0 : Int32)) dX12_within_14 (by decide) ?_
      exact V_ireturn dX12_within_15 rfl (by decide) (Nat.le_refl 0) (kI_of hf)
    · have hf := it_f h1 hf
      refine V_iconst (v := (1 : Int32)) dX12_within_10 (by decide) ?_
      refine V_goto (tgt := 15) dX12_within_11 (by decide) ?_
      exact V_ireturn dX12_within_15 rfl (by decide) (Nat.le_refl 0) (kI_of hf)
def wX12_standsAsAlways_B2 (n : Nat) (sh : Nat → Nat × Nat) (k2 : Nat → Int32 → Int32 → gS → Prop) (P : gS → Prop) (a0 : Nat) (x1 : Int32) (x2 : Int32) (z : gS) : Prop := if (60 : Int32) ≤ x2 then ((oO n sh a0 8) ∧ (∃ t2 : Nat, gr z a0 10 = some t2 ∧ ((oA n sh t2 1) ∧ ((vp_in (x1 + (3 : Int32)) (sh t2).2) ∧ (∀ z5 : gS, z5 = si z t2 (x1 + (3 : Int32)).toNatClampNeg (1 : Int32) → (∃ t6 : Nat, gr z5 a0 10 = some t6 ∧ ((oA n sh t6 1) ∧ ((vp_in (x1 + (33 : Int32)) (sh t6).2) ∧ (∀ z9 : gS, z9 = si z5 t6 (x1 + (33 : Int32)).toNatClampNeg (1 : Int32) → (∃ t10 : Nat, gr z9 a0 10 = some t10 ∧ ((oA n sh t10 1) ∧ ((vp_in (x1 + (4 : Int32)) (sh t10).2) ∧ (∀ z13 : gS, z13 = si z9 t10 (x1 + (4 : Int32)).toNatClampNeg (-1 : Int32) → P z13))))))))))))) else ((oO n sh a0 8) ∧ (∃ t15 : Nat, gr z a0 10 = some t15 ∧ ((oA n sh t15 1) ∧ ((vp_in (x1 + x2) (sh t15).2) ∧ (∀ z18 : gS, z18 = si z t15 (x1 + x2).toNatClampNeg (0 : Int32) → (∀ v19 : Int32, v19 = x2 + (1 : Int32) → k2 a0 x1 v19 z18))))))
def wX12_standsAsAlways_L2 (n : Nat) (sh : Nat → Nat × Nat) (P : gS → Prop) : Nat → Nat → Int32 → Int32 → gS → Prop
  | 0, _, _, _, _ => False
  | N + 1, a0, x1, x2, z => wX12_standsAsAlways_B2 n sh (wX12_standsAsAlways_L2 n sh P N) P a0 x1 x2 z
set_option maxRecDepth 100000 in
set_option maxHeartbeats 4000000 in
theorem vX12_standsAsAlways_B2 {E : gE} {n : Nat} {sh : Nat → Nat × Nat} {P : gS → Prop} {k2 : Nat → Int32 → Int32 → gS → Prop} {a0 : Nat} {x1 : Int32} {x2 : Int32} {z : gS} (hn : gOK E n) (hk2 : ∀ (a0 : Nat) (x1 : Int32) (x2 : Int32) (z : gS), k2 a0 x1 x2 z → V E (gR 0 0) gyX12_standsAsAlways 0 0 2 [(0, .ref a0), (1, .int x1), (2, .int x2)] [] n sh z (kN n sh P)) (hf : wX12_standsAsAlways_B2 n sh k2 P a0 x1 x2 z) : V E (gR 0 0) gyX12_standsAsAlways 0 0 2 [(0, .ref a0), (1, .int x1), (2, .int x2)] [] n sh z (kN n sh P) := by
  unfold wX12_standsAsAlways_B2 at hf
  refine V_iload_n (j := 2) dX12_standsAsAlways_2 rfl rfl ?_
  refine V_bipush (v := (60 : Int32)) dX12_standsAsAlways_3 (by decide) ?_
  refine V_icmp_ge (tgt := 23) dX12_standsAsAlways_5 (by decide) (fun h20 => ?_) (fun h20 => ?_)
  · have hf := it_t h20 hf
    refine V_aload_n (j := 0) dX12_standsAsAlways_23 rfl rfl ?_
    obtain ⟨h1, hf⟩ := hf
    obtain ⟨t2, et2, hf⟩ := hf
    refine V_getR fl_X12_89 rfl h1.1 h1.2 et2 dX12_standsAsAlways_24 ?_
    refine V_iload_n (j := 1) dX12_standsAsAlways_27 rfl rfl ?_
    refine V_iconst (v := (3 : Int32)) dX12_standsAsAlways_28 (by decide) ?_
    refine V_iadd dX12_standsAsAlways_29 ?_
    refine V_iconst (v := (1 : Int32)) dX12_standsAsAlways_30 (by decide) ?_
    obtain ⟨h3, hf⟩ := hf
    obtain ⟨h4, hf⟩ := hf
    refine V_iast h3.1 h3.s h4 dX12_standsAsAlways_31 ?_
    refine V_nz (fun z5 ez5 => ?_)
    have hf := hf z5 ez5
    refine V_aload_n (j := 0) dX12_standsAsAlways_32 rfl rfl ?_
    obtain ⟨t6, et6, hf⟩ := hf
    refine V_getR fl_X12_89 rfl h1.1 h1.2 et6 dX12_standsAsAlways_33 ?_
    refine V_iload_n (j := 1) dX12_standsAsAlways_36 rfl rfl ?_
    refine V_bipush (v := (33 : Int32)) dX12_standsAsAlways_37 (by decide) ?_
    refine V_iadd dX12_standsAsAlways_39 ?_
    refine V_iconst (v := (1 : Int32)) dX12_standsAsAlways_40 (by decide) ?_
    obtain ⟨h7, hf⟩ := hf
    obtain ⟨h8, hf⟩ := hf
    refine V_iast h7.1 h7.s h8 dX12_standsAsAlways_41 ?_
    refine V_nz (fun z9 ez9 => ?_)
    have hf := hf z9 ez9
    refine V_aload_n (j := 0) dX12_standsAsAlways_42 rfl rfl ?_
    obtain ⟨t10, et10, hf⟩ := hf
    refine V_getR fl_X12_89 rfl h1.1 h1.2 et10 dX12_standsAsAlways_43 ?_
    refine V_iload_n (j := 1) dX12_standsAsAlways_46 rfl rfl ?_
    refine V_iconst (v := (4 : Int32)) dX12_standsAsAlways_47 (by decide) ?_
    refine V_iadd dX12_standsAsAlways_48 ?_
    refine V_iconst (v := (-1 : Int32)) dX12_standsAsAlways_49 (by decide) ?_
    obtain ⟨h11, hf⟩ := hf
    obtain ⟨h12, hf⟩ := hf
    refine V_iast h11.1 h11.s h12 dX12_standsAsAlways_50 ?_
    refine V_nz (fun z13 ez13 => ?_)
    have hf := hf z13 ez13
    exact V_return dX12_standsAsAlways_51 rfl (Nat.le_refl 0) (kN_of hf)
  · have hf := it_f h20 hf
    refine V_aload_n (j := 0) dX12_standsAsAlways_8 rfl rfl ?_
    obtain ⟨h14, hf⟩ := hf
    obtain ⟨t15, et15, hf⟩ := hf
    refine V_getR fl_X12_89 rfl h14.1 h14.2 et15 dX12_standsAsAlways_9 ?_
    refine V_iload_n (j := 1) dX12_standsAsAlways_12 rfl rfl ?_
    refine V_iload_n (j := 2) dX12_standsAsAlways_13 rfl rfl ?_
    refine V_iadd dX12_standsAsAlways_14 ?_
    refine V_iconst (v := (0 : Int32)) dX12_standsAsAlways_15 (by decide) ?_
    obtain ⟨h16, hf⟩ := hf
    obtain ⟨h17, hf⟩ := hf
    refine V_iast h16.1 h16.s h17 dX12_standsAsAlways_16 ?_
    refine V_nz (fun z18 ez18 => ?_)
    have hf := hf z18 ez18
    obtain ⟨v19, ev19⟩ : ∃ y : Int32, y = x2 + (1 : Int32) := ⟨_, rfl⟩
    refine V_iinc (j := 2) (v := v19) (ls2 := [(2, .int v19), (0, .ref a0), (1, .int x1)]) dX12_standsAsAlways_17 rfl (by rw [ev19]; rfl) (by decide) rfl ?_
    have hf := hf v19 ev19
    refine V_goto (tgt := 2) dX12_standsAsAlways_20 (by decide) ?_
    refine V_to [1, 2, 0] rfl ?_
    exact hk2 _ _ _ _ hf
set_option maxRecDepth 100000 in
set_option maxHeartbeats 4000000 in
theorem vX12_standsAsAlways_L2 {E : gE} {n : Nat} {sh : Nat → Nat × Nat} {P : gS → Prop} (hn : gOK E n) : ∀ (N : Nat) (a0 : Nat) (x1 : Int32) (x2 : Int32) (z : gS), wX12_standsAsAlways_L2 n sh P N a0 x1 x2 z → V E (gR 0 0) gyX12_standsAsAlways 0 0 2 [(0, .ref a0), (1, .int x1), (2, .int x2)] [] n sh z (kN n sh P) := by
  intro N
  induction N with
  | zero => intro a0 x1 x2 z hf; exact False.elim hf
  | succ N ih => intro a0 x1 x2 z hf; exact vX12_standsAsAlways_B2 hn ih hf
def wX12_standsAsAlways (n : Nat) (sh : Nat → Nat × Nat) (a0 : Nat) (x1 : Int32) (z : gS) (P : gS → Prop) : Prop := (∃ N, wX12_standsAsAlways_L2 n sh P N a0 x1 (0 : Int32) z)
set_option maxRecDepth 100000 in
set_option maxHeartbeats 4000000 in
theorem ctX12_standsAsAlways {E : gE} {n : Nat} {sh : Nat → Nat × Nat} {a0 : Nat} {x1 : Int32} {z : gS} {P : gS → Prop} (hn : gOK E n) (hf : wX12_standsAsAlways n sh a0 x1 z P) : VM E 0 0 gyX12_standsAsAlways [.ref a0, .int x1] n sh z (kN n sh P) := by
  unfold wX12_standsAsAlways at hf
  refine VM.of (by decide +kernel) (Nat.le_of_ble_eq_true rfl) (fun _ _ _ h => h.2.2) ?_
  show V E (gR 0 0) gyX12_standsAsAlways 0 0 0 [(0, .ref a0), (1, .int x1)] [] n sh z (kN n sh P)
  refine V_iconst (v := (0 : Int32)) dX12_standsAsAlways_0 (by decide) ?_
  refine V_istore_n (ls2 := [(2, .int (0 : Int32)), (0, .ref a0), (1, .int x1)]) dX12_standsAsAlways_1 rfl (by decide) rfl ?_
  obtain ⟨N, hf⟩ := hf
  refine V_to [1, 2, 0] rfl ?_
  exact vX12_standsAsAlways_L2 hn N _ _ _ _ hf
def wX12_takeNumber_J70 (n : Nat) (sh : Nat → Nat × Nat) (P : Int32 → gS → Prop) (a0 : Nat) (z : gS) : Prop := (oO n sh a0 8) ∧ (if (gi z a0 8) ≤ 0 then (∀ z4 : gS, z4 = si z a0 7 ((gi z a0 7) + (1 : Int32)) → (∃ t5 : Nat, gr z4 a0 6 = some t5 ∧ ((oA n sh t5 2) ∧ ((vp_in ((gi z4 a0 7) - (1 : Int32)) (sh t5).2) ∧ P (gl z4 t5 ((gi z4 a0 7) - (1 : Int32)).toNatClampNeg).toInt32 z4)))) else P (0 : Int32) z)
set_option maxRecDepth 100000 in
set_option maxHeartbeats 4000000 in
theorem vX12_takeNumber_J70 {E : gE} {n : Nat} {sh : Nat → Nat × Nat} {P : Int32 → gS → Prop} {a0 : Nat} {z : gS} (hn : gOK E n) (hf : wX12_takeNumber_J70 n sh P a0 z) : V E (gR 1 0) gyX12_takeNumber 0 0 70 [(0, .ref a0)] [] n sh z (kI n sh P) := by
  unfold wX12_takeNumber_J70 at hf
  refine V_aload_n (j := 0) dX12_takeNumber_70 rfl rfl ?_
  obtain ⟨h3, hf⟩ := hf
  refine V_getI fl_X12_159 rfl h3.1 h3.2 dX12_takeNumber_71 ?_
  refine V_if_le (tgt := 79) dX12_takeNumber_74 (by decide) (fun h8 => ?_) (fun h8 => ?_)
  · have hf := it_t h8 hf
    refine V_aload_n (j := 0) dX12_takeNumber_79 rfl rfl ?_
    refine V_dup dX12_takeNumber_80 rfl ?_
    refine V_getI fl_X12_156 rfl h3.1 h3.2 dX12_takeNumber_81 ?_
    refine V_iconst (v := (1 : Int32)) dX12_takeNumber_84 (by decide) ?_
    refine V_iadd dX12_takeNumber_85 ?_
    refine V_putI fl_X12_156 rfl rfl rfl rfl h3.1 h3.2 dX12_takeNumber_86 ?_
    refine V_nz (fun z4 ez4 => ?_)
    have hf := hf z4 ez4
    refine V_aload_n (j := 0) dX12_takeNumber_89 rfl rfl ?_
    obtain ⟨t5, et5, hf⟩ := hf
    refine V_getR fl_X12_30 rfl h3.1 h3.2 et5 dX12_takeNumber_90 ?_
    refine V_aload_n (j := 0) dX12_takeNumber_93 rfl rfl ?_
    refine V_getI fl_X12_156 rfl h3.1 h3.2 dX12_takeNumber_94 ?_
    refine V_iconst (v := (1 : Int32)) dX12_takeNumber_97 (by decide) ?_
    refine V_isub dX12_takeNumber_98 ?_
    obtain ⟨h6, hf⟩ := hf
    obtain ⟨h7, hf⟩ := hf
    refine V_lald h6.1 h6.s h7 dX12_takeNumber_99 ?_
    refine V_l2i dX12_takeNumber_100 ?_
    exact V_ireturn dX12_takeNumber_101 rfl rfl (Nat.le_refl 0) (kI_of hf)
  · have hf := it_f h8 hf
    refine V_iconst (v := (0 : Int32)) dX12_takeNumber_77 (by decide) ?_
    exact V_ireturn dX12_takeNumber_78 rfl rfl (Nat.le_refl 0) (kI_of hf)
def wX12_takeNumber_J65 (n : Nat) (sh : Nat → Nat × Nat) (P : Int32 → gS → Prop) (a0 : Nat) (z : gS) : Prop := (oO n sh a0 8) ∧ (wX12_wrong n sh a0 (4 : Int32) z (fun (z13 : gS) => wX12_takeNumber_J70 n sh P a0 z13))
set_option maxRecDepth 100000 in
set_option maxHeartbeats 4000000 in
theorem vX12_takeNumber_J65 {E : gE} {n : Nat} {sh : Nat → Nat × Nat} {P : Int32 → gS → Prop} {a0 : Nat} {z : gS} (hn : gOK E n) (hf : wX12_takeNumber_J65 n sh P a0 z) : V E (gR 1 0) gyX12_takeNumber 0 0 65 [(0, .ref a0)] [] n sh z (kI n sh P) := by
  unfold wX12_takeNumber_J65 at hf
  refine V_aload_n (j := 0) dX12_takeNumber_65 rfl rfl ?_
  refine V_iconst (v := (4 : Int32)) dX12_takeNumber_66 (by decide) ?_
  obtain ⟨h14, hf⟩ := hf
  refine V_cVN (ctX12_wrong hn hf) gc_X12_165 rfl h14.1 ⟨_, h14.2, by decide, rfl⟩ ⟨by decide, by decide, Nat.zero_le _, Nat.zero_le _⟩ (Nat.le_of_ble_eq_true rfl) dX12_takeNumber_67 rfl hn (fun z13 hf => ?_)
  exact vX12_takeNumber_J70 hn hf
def wX12_takeNumber_J28 (n : Nat) (sh : Nat → Nat × Nat) (P : Int32 → gS → Prop) (a0 : Nat) (x1 : Int32) (x2 : Int32) (z : gS) : Prop := (oO n sh a0 8) ∧ (if (gi z a0 8) = 0 then (∃ t9 : Nat, gr z a0 6 = some t9 ∧ ((oA n sh t9 2) ∧ ((vp_in (gi z a0 7) (sh t9).2) ∧ (if (lg_cmp (gl z t9 (gi z a0 7).toNatClampNeg) x1.toInt64) < 0 then wX12_takeNumber_J65 n sh P a0 z else (∃ t15 : Nat, gr z a0 6 = some t15 ∧ ((oA n sh t15 2) ∧ ((vp_in (gi z a0 7) (sh t15).2) ∧ (if (lg_cmp (gl z t15 (gi z a0 7).toNatClampNeg) x2.toInt64) ≤ 0 then wX12_takeNumber_J70 n sh P a0 z else wX12_takeNumber_J65 n sh P a0 z)))))))) else wX12_takeNumber_J70 n sh P a0 z)
set_option maxRecDepth 100000 in
set_option maxHeartbeats 4000000 in
theorem vX12_takeNumber_J28 {E : gE} {n : Nat} {sh : Nat → Nat × Nat} {P : Int32 → gS → Prop} {a0 : Nat} {x1 : Int32} {x2 : Int32} {z : gS} (hn : gOK E n) (hf : wX12_takeNumber_J28 n sh P a0 x1 x2 z) : V E (gR 1 0) gyX12_takeNumber 0 0 28 [(0, .ref a0), (1, .int x1), (2, .int x2)] [] n sh z (kI n sh P) := by
  unfold wX12_takeNumber_J28 at hf
  refine V_aload_n (j := 0) dX12_takeNumber_28 rfl rfl ?_
  obtain ⟨h2, hf⟩ := hf
  refine V_getI fl_X12_159 rfl h2.1 h2.2 dX12_takeNumber_29 ?_
  refine V_if_ne (tgt := 70) dX12_takeNumber_32 (by decide) (fun h20 => ?_) (fun h20 => ?_)
  · have hf := it_f h20 hf
    refine V_to [0] rfl ?_
    exact vX12_takeNumber_J70 hn hf
  · have hf := it_t (Classical.not_not.mp h20) hf
    refine V_aload_n (j := 0) dX12_takeNumber_35 rfl rfl ?_
    obtain ⟨t9, et9, hf⟩ := hf
    refine V_getR fl_X12_30 rfl h2.1 h2.2 et9 dX12_takeNumber_36 ?_
    refine V_aload_n (j := 0) dX12_takeNumber_39 rfl rfl ?_
    refine V_getI fl_X12_156 rfl h2.1 h2.2 dX12_takeNumber_40 ?_
    obtain ⟨h10, hf⟩ := hf
    obtain ⟨h11, hf⟩ := hf
    refine V_lald h10.1 h10.s h11 dX12_takeNumber_43 ?_
    refine V_iload_n (j := 1) dX12_takeNumber_44 rfl rfl ?_
    refine V_i2l dX12_takeNumber_45 ?_
    refine V_lcmp dX12_takeNumber_46 ?_
    refine V_if_lt (tgt := 65) dX12_takeNumber_47 (by decide) (fun h19 => ?_) (fun h19 => ?_)
    · have hf := it_t h19 hf
      refine V_to [0] rfl ?_
      exact vX12_takeNumber_J65 hn hf
    · have hf := it_f h19 hf
      refine V_aload_n (j := 0) dX12_takeNumber_50 rfl rfl ?_
      obtain ⟨t15, et15, hf⟩ := hf
      refine V_getR fl_X12_30 rfl h2.1 h2.2 et15 dX12_takeNumber_51 ?_
      refine V_aload_n (j := 0) dX12_takeNumber_54 rfl rfl ?_
      refine V_getI fl_X12_156 rfl h2.1 h2.2 dX12_takeNumber_55 ?_
      obtain ⟨h16, hf⟩ := hf
      obtain ⟨h17, hf⟩ := hf
      refine V_lald h16.1 h16.s h17 dX12_takeNumber_58 ?_
      refine V_iload_n (j := 2) dX12_takeNumber_59 rfl rfl ?_
      refine V_i2l dX12_takeNumber_60 ?_
      refine V_lcmp dX12_takeNumber_61 ?_
      refine V_if_le (tgt := 70) dX12_takeNumber_62 (by decide) (fun h18 => ?_) (fun h18 => ?_)
      · have hf := it_t h18 hf
        refine V_to [0] rfl ?_
        exact vX12_takeNumber_J70 hn hf
      · have hf := it_f h18 hf
        refine V_to [0] rfl ?_
        exact vX12_takeNumber_J65 hn hf
def wX12_takeNumber (n : Nat) (sh : Nat → Nat × Nat) (a0 : Nat) (x1 : Int32) (x2 : Int32) (z : gS) (P : Int32 → gS → Prop) : Prop := (oO n sh a0 8) ∧ (if (gi z a0 8) = 0 then (∃ t21 : Nat, gr z a0 4 = some t21 ∧ ((oA n sh t21 1) ∧ ((vp_in (gi z a0 7) (sh t21).2) ∧ (if (gi z t21 (gi z a0 7).toNatClampNeg) = (2 : Int32) then wX12_takeNumber_J28 n sh P a0 x1 x2 z else (wX12_wrong n sh a0 (1 : Int32) z (fun (z25 : gS) => wX12_takeNumber_J70 n sh P a0 z25)))))) else wX12_takeNumber_J28 n sh P a0 x1 x2 z)
set_option maxRecDepth 100000 in
set_option maxHeartbeats 4000000 in
theorem ctX12_takeNumber {E : gE} {n : Nat} {sh : Nat → Nat × Nat} {a0 : Nat} {x1 : Int32} {x2 : Int32} {z : gS} {P : Int32 → gS → Prop} (hn : gOK E n) (hf : wX12_takeNumber n sh a0 x1 x2 z P) : VM E 1 0 gyX12_takeNumber [.ref a0, .int x1, .int x2] n sh z (kI n sh P) := by
  unfold wX12_takeNumber at hf
  refine VM.of (by decide +kernel) (Nat.le_of_ble_eq_true rfl) (fun _ _ _ h => h.2.2) ?_
  show V E (gR 1 0) gyX12_takeNumber 0 0 0 [(0, .ref a0), (1, .int x1), (2, .int x2)] [] n sh z (kI n sh P)
  refine V_aload_n (j := 0) dX12_takeNumber_0 rfl rfl ?_
  obtain ⟨h1, hf⟩ := hf
  refine V_getI fl_X12_159 rfl h1.1 h1.2 dX12_takeNumber_1 ?_
  refine V_if_ne (tgt := 28) dX12_takeNumber_4 (by decide) (fun h27 => ?_) (fun h27 => ?_)
  · have hf := it_f h27 hf
    exact vX12_takeNumber_J28 hn hf
  · have hf := it_t (Classical.not_not.mp h27) hf
    refine V_aload_n (j := 0) dX12_takeNumber_7 rfl rfl ?_
    obtain ⟨t21, et21, hf⟩ := hf
    refine V_getR fl_X12_24 rfl h1.1 h1.2 et21 dX12_takeNumber_8 ?_
    refine V_aload_n (j := 0) dX12_takeNumber_11 rfl rfl ?_
    refine V_getI fl_X12_156 rfl h1.1 h1.2 dX12_takeNumber_12 ?_
    obtain ⟨h22, hf⟩ := hf
    obtain ⟨h23, hf⟩ := hf
    refine V_iald h22.1 h22.s h23 dX12_takeNumber_15 ?_
    refine V_iconst (v := (2 : Int32)) dX12_takeNumber_16 (by decide) ?_
    refine V_icmp_eq (tgt := 28) dX12_takeNumber_17 (by decide) (fun h26 => ?_) (fun h26 => ?_)
    · have hf := it_t h26 hf
      exact vX12_takeNumber_J28 hn hf
    · have hf := it_f h26 hf
      refine V_aload_n (j := 0) dX12_takeNumber_20 rfl rfl ?_
      refine V_iconst (v := (1 : Int32)) dX12_takeNumber_21 (by decide) ?_
      refine V_cVN (ctX12_wrong hn hf) gc_X12_165 rfl h1.1 ⟨_, h1.2, by decide, rfl⟩ ⟨by decide, by decide, Nat.zero_le _, Nat.zero_le _⟩ (Nat.le_of_ble_eq_true rfl) dX12_takeNumber_22 rfl hn (fun z25 hf => ?_)
      refine V_goto (tgt := 70) dX12_takeNumber_25 (by decide) ?_
      refine V_to [0] rfl ?_
      exact vX12_takeNumber_J70 hn hf
def wX12_takeAfter (n : Nat) (sh : Nat → Nat × Nat) (a0 : Nat) (x1 : Int32) (x2 : Int32) (x3 : Int32) (z : gS) (P : Int32 → gS → Prop) : Prop := (oO n sh a0 8) ∧ (wX12_takeWord n sh a0 x1 z (fun (z2 : gS) => wX12_takeNumber n sh a0 x2 x3 z2 (fun (r4 : Int32) (z5 : gS) => P r4 z5)))
set_option maxRecDepth 100000 in
set_option maxHeartbeats 4000000 in
theorem ctX12_takeAfter {E : gE} {n : Nat} {sh : Nat → Nat × Nat} {a0 : Nat} {x1 : Int32} {x2 : Int32} {x3 : Int32} {z : gS} {P : Int32 → gS → Prop} (hn : gOK E n) (hf : wX12_takeAfter n sh a0 x1 x2 x3 z P) : VM E 3 0 gyX12_takeAfter [.ref a0, .int x1, .int x2, .int x3] n sh z (kI n sh P) := by
  unfold wX12_takeAfter at hf
  refine VM.of (by decide +kernel) (Nat.le_of_ble_eq_true rfl) (fun _ _ _ h => h.2.2) ?_
  show V E (gR 3 0) gyX12_takeAfter 0 0 0 [(0, .ref a0), (1, .int x1), (2, .int x2), (3, .int x3)] [] n sh z (kI n sh P)
  refine V_aload_n (j := 0) dX12_takeAfter_0 rfl rfl ?_
  refine V_iload_n (j := 1) dX12_takeAfter_1 rfl rfl ?_
  obtain ⟨h3, hf⟩ := hf
  refine V_cVN (ctX12_takeWord hn hf) gc_X12_174 rfl h3.1 ⟨_, h3.2, by decide, rfl⟩ ⟨by decide, by decide, Nat.zero_le _, Nat.zero_le _⟩ (Nat.le_of_ble_eq_true rfl) dX12_takeAfter_2 rfl hn (fun z2 hf => ?_)
  refine V_aload_n (j := 0) dX12_takeAfter_5 rfl rfl ?_
  refine V_iload_n (j := 2) dX12_takeAfter_6 rfl rfl ?_
  refine V_iload_n (j := 3) dX12_takeAfter_7 rfl rfl ?_
  refine V_cVI (ctX12_takeNumber hn hf) gc_X12_177 rfl h3.1 ⟨_, h3.2, by decide, rfl⟩ ⟨by decide, by decide, Nat.zero_le _, Nat.zero_le _⟩ (Nat.le_of_ble_eq_true rfl) dX12_takeAfter_8 rfl hn (fun r4 z5 hf => ?_)
  exact V_ireturn dX12_takeAfter_11 rfl rfl (Nat.le_refl 0) (kI_of hf)
def wX12_wordHere_J28 (n : Nat) (sh : Nat → Nat × Nat) (k5 : Nat → Int32 → Int32 → Int32 → Int32 → gS → Prop) (P : Int32 → gS → Prop) (a0 : Nat) (x1 : Int32) (x2 : Int32) (x4 : Int32) (s0 : Int32) (z : gS) : Prop := ∀ v4 : Int32, v4 = x4 + (1 : Int32) → k5 a0 x1 x2 s0 v4 z
set_option maxRecDepth 100000 in
set_option maxHeartbeats 4000000 in
theorem vX12_wordHere_J28 {E : gE} {n : Nat} {sh : Nat → Nat × Nat} {P : Int32 → gS → Prop} {k5 : Nat → Int32 → Int32 → Int32 → Int32 → gS → Prop} {a0 : Nat} {x1 : Int32} {x2 : Int32} {x4 : Int32} {s0 : Int32} {z : gS} (hn : gOK E n) (hk5 : ∀ (a0 : Nat) (x1 : Int32) (x2 : Int32) (x3 : Int32) (x4 : Int32) (z : gS), k5 a0 x1 x2 x3 x4 z → V E (gR 1 0) gyX12_wordHere 0 0 5 [(0, .ref a0), (1, .int x1), (2, .int x2), (3, .int x3), (4, .int x4)] [] n sh z (kI n sh P)) (hf : wX12_wordHere_J28 n sh k5 P a0 x1 x2 x4 s0 z) : V E (gR 1 0) gyX12_wordHere 0 0 28 [(0, .ref a0), (1, .int x1), (2, .int x2), (4, .int x4)] [.int s0] n sh z (kI n sh P) := by
  unfold wX12_wordHere_J28 at hf
  refine V_istore_n (ls2 := [(3, .int s0), (0, .ref a0), (1, .int x1), (2, .int x2), (4, .int x4)]) dX12_wordHere_28 rfl (by decide) rfl ?_
  obtain ⟨v4, ev4⟩ : ∃ y : Int32, y = x4 + (1 : Int32) := ⟨_, rfl⟩
  refine V_iinc (j := 4) (v := v4) (ls2 := [(4, .int v4), (3, .int s0), (0, .ref a0), (1, .int x1), (2, .int x2)]) dX12_wordHere_29 rfl (by rw [ev4]; rfl) (by decide) rfl ?_
  have hf := hf v4 ev4
  refine V_goto (tgt := 5) dX12_wordHere_32 (by decide) ?_
  refine V_to [2, 3, 4, 1, 0] rfl ?_
  exact hk5 _ _ _ _ _ _ hf
def wX12_wordHere_B5 (n : Nat) (sh : Nat → Nat × Nat) (k5 : Nat → Int32 → Int32 → Int32 → Int32 → gS → Prop) (P : Int32 → gS → Prop) (a0 : Nat) (x1 : Int32) (x2 : Int32) (x3 : Int32) (x4 : Int32) (z : gS) : Prop := if x2 ≤ x4 then P x3 z else ((oO n sh a0 8) ∧ (wX12_isWord n sh a0 (x1 + x4) z (fun (r1 : Int32) (z2 : gS) => if r1 = 0 then wX12_wordHere_J28 n sh k5 P a0 x1 x2 x4 x3 z2 else wX12_wordHere_J28 n sh k5 P a0 x1 x2 x4 x4 z2)))
def wX12_wordHere_L5 (n : Nat) (sh : Nat → Nat × Nat) (P : Int32 → gS → Prop) : Nat → Nat → Int32 → Int32 → Int32 → Int32 → gS → Prop
  | 0, _, _, _, _, _, _ => False
  | N + 1, a0, x1, x2, x3, x4, z => wX12_wordHere_B5 n sh (wX12_wordHere_L5 n sh P N) P a0 x1 x2 x3 x4 z
set_option maxRecDepth 100000 in
set_option maxHeartbeats 4000000 in
theorem vX12_wordHere_B5 {E : gE} {n : Nat} {sh : Nat → Nat × Nat} {P : Int32 → gS → Prop} {k5 : Nat → Int32 → Int32 → Int32 → Int32 → gS → Prop} {a0 : Nat} {x1 : Int32} {x2 : Int32} {x3 : Int32} {x4 : Int32} {z : gS} (hn : gOK E n) (hk5 : ∀ (a0 : Nat) (x1 : Int32) (x2 : Int32) (x3 : Int32) (x4 : Int32) (z : gS), k5 a0 x1 x2 x3 x4 z → V E (gR 1 0) gyX12_wordHere 0 0 5 [(0, .ref a0), (1, .int x1), (2, .int x2), (3, .int x3), (4, .int x4)] [] n sh z (kI n sh P)) (hf : wX12_wordHere_B5 n sh k5 P a0 x1 x2 x3 x4 z) : V E (gR 1 0) gyX12_wordHere 0 0 5 [(0, .ref a0), (1, .int x1), (2, .int x2), (3, .int x3), (4, .int x4)] [] n sh z (kI n sh P) := by
  unfold wX12_wordHere_B5 at hf
  refine V_iload (j := 4) dX12_wordHere_5 rfl ?_
  refine V_iload_n (j := 2) dX12_wordHere_7 rfl rfl ?_
  refine V_icmp_ge (tgt := 35) dX12_wordHere_8 (by decide) (fun h6 => ?_) (fun h6 => ?_)
  · have hf := it_t h6 hf
    refine V_iload_n (j := 3) dX12_wordHere_35 rfl rfl ?_
    exact V_ireturn dX12_wordHere_36 rfl rfl (Nat.le_refl 0) (kI_of hf)
  · have hf := it_f h6 hf
    refine V_aload_n (j := 0) dX12_wordHere_11 rfl rfl ?_
    refine V_iload_n (j := 1) dX12_wordHere_12 rfl rfl ?_
    refine V_iload (j := 4) dX12_wordHere_13 rfl ?_
    refine V_iadd dX12_wordHere_15 ?_
    obtain ⟨h3, hf⟩ := hf
    refine V_cVI (ctX12_isWord hn hf) gc_X12_168 rfl h3.1 ⟨_, h3.2, by decide, rfl⟩ ⟨by decide, by decide, Nat.zero_le _, Nat.zero_le _⟩ (Nat.le_of_ble_eq_true rfl) dX12_wordHere_16 rfl hn (fun r1 z2 hf => ?_)
    refine V_if_eq (tgt := 27) dX12_wordHere_19 (by decide) (fun h5 => ?_) (fun h5 => ?_)
    · have hf := it_t h5 hf
      refine V_iload_n (j := 3) dX12_wordHere_27 rfl rfl ?_
      refine V_to [0, 1, 2, 4] rfl ?_
      exact vX12_wordHere_J28 hn hk5 hf
    · have hf := it_f h5 hf
      refine V_iload (j := 4) dX12_wordHere_22 rfl ?_
      refine V_goto (tgt := 28) dX12_wordHere_24 (by decide) ?_
      refine V_to [0, 1, 2, 4] rfl ?_
      exact vX12_wordHere_J28 hn hk5 hf
set_option maxRecDepth 100000 in
set_option maxHeartbeats 4000000 in
theorem vX12_wordHere_L5 {E : gE} {n : Nat} {sh : Nat → Nat × Nat} {P : Int32 → gS → Prop} (hn : gOK E n) : ∀ (N : Nat) (a0 : Nat) (x1 : Int32) (x2 : Int32) (x3 : Int32) (x4 : Int32) (z : gS), wX12_wordHere_L5 n sh P N a0 x1 x2 x3 x4 z → V E (gR 1 0) gyX12_wordHere 0 0 5 [(0, .ref a0), (1, .int x1), (2, .int x2), (3, .int x3), (4, .int x4)] [] n sh z (kI n sh P) := by
  intro N
  induction N with
  | zero => intro a0 x1 x2 x3 x4 z hf; exact False.elim hf
  | succ N ih => intro a0 x1 x2 x3 x4 z hf; exact vX12_wordHere_B5 hn ih hf
def wX12_wordHere (n : Nat) (sh : Nat → Nat × Nat) (a0 : Nat) (x1 : Int32) (x2 : Int32) (z : gS) (P : Int32 → gS → Prop) : Prop := (∃ N, wX12_wordHere_L5 n sh P N a0 x1 x2 (-1 : Int32) (0 : Int32) z)
set_option maxRecDepth 100000 in
set_option maxHeartbeats 4000000 in
theorem ctX12_wordHere {E : gE} {n : Nat} {sh : Nat → Nat × Nat} {a0 : Nat} {x1 : Int32} {x2 : Int32} {z : gS} {P : Int32 → gS → Prop} (hn : gOK E n) (hf : wX12_wordHere n sh a0 x1 x2 z P) : VM E 1 0 gyX12_wordHere [.ref a0, .int x1, .int x2] n sh z (kI n sh P) := by
  unfold wX12_wordHere at hf
  refine VM.of (by decide +kernel) (Nat.le_of_ble_eq_true rfl) (fun _ _ _ h => h.2.2) ?_
  show V E (gR 1 0) gyX12_wordHere 0 0 0 [(0, .ref a0), (1, .int x1), (2, .int x2)] [] n sh z (kI n sh P)
  refine V_iconst (v := (-1 : Int32)) dX12_wordHere_0 (by decide) ?_
  refine V_istore_n (ls2 := [(3, .int (-1 : Int32)), (0, .ref a0), (1, .int x1), (2, .int x2)]) dX12_wordHere_1 rfl (by decide) rfl ?_
  refine V_iconst (v := (0 : Int32)) dX12_wordHere_2 (by decide) ?_
  refine V_istore (ls2 := [(4, .int (0 : Int32)), (3, .int (-1 : Int32)), (0, .ref a0), (1, .int x1), (2, .int x2)]) dX12_wordHere_3 (by decide) rfl ?_
  obtain ⟨N, hf⟩ := hf
  refine V_to [2, 3, 4, 1, 0] rfl ?_
  exact vX12_wordHere_L5 hn N _ _ _ _ _ _ hf
def wX12_takeOne_J51 (n : Nat) (sh : Nat → Nat × Nat) (P : Int32 → gS → Prop) (a0 : Nat) (x3 : Int32) (s0 : Int32) (s1 : Int32) (s2 : Nat) (z : gS) : Prop := (oO n sh s2 8) ∧ (∀ z7 : gS, z7 = si z s2 7 (s1 + s0) → ((oO n sh a0 8) ∧ (if (gi z7 a0 8) ≤ 0 then P x3 z7 else P (0 : Int32) z7)))
set_option maxRecDepth 100000 in
set_option maxHeartbeats 4000000 in
theorem vX12_takeOne_J51 {E : gE} {n : Nat} {sh : Nat → Nat × Nat} {P : Int32 → gS → Prop} {a0 : Nat} {x3 : Int32} {s0 : Int32} {s1 : Int32} {s2 : Nat} {z : gS} (hn : gOK E n) (hf : wX12_takeOne_J51 n sh P a0 x3 s0 s1 s2 z) : V E (gR 2 0) gyX12_takeOne 0 0 51 [(0, .ref a0), (3, .int x3)] [.int s0, .int s1, .ref s2] n sh z (kI n sh P) := by
  unfold wX12_takeOne_J51 at hf
  refine V_iadd dX12_takeOne_51 ?_
  obtain ⟨h6, hf⟩ := hf
  refine V_putI fl_X12_156 rfl rfl rfl rfl h6.1 h6.2 dX12_takeOne_52 ?_
  refine V_nz (fun z7 ez7 => ?_)
  have hf := hf z7 ez7
  refine V_aload_n (j := 0) dX12_takeOne_55 rfl rfl ?_
  obtain ⟨h8, hf⟩ := hf
  refine V_getI fl_X12_159 rfl h8.1 h8.2 dX12_takeOne_56 ?_
  refine V_if_le (tgt := 66) dX12_takeOne_59 (by decide) (fun h9 => ?_) (fun h9 => ?_)
  · have hf := it_t h9 hf
    refine V_iload_n (j := 1) dX12_takeOne_66 rfl rfl ?_
    exact V_ireturn dX12_takeOne_67 rfl rfl (Nat.le_refl 0) (kI_of hf)
  · have hf := it_f h9 hf
    refine V_iconst (v := (0 : Int32)) dX12_takeOne_62 (by decide) ?_
    refine V_goto (tgt := 67) dX12_takeOne_63 (by decide) ?_
    exact V_ireturn dX12_takeOne_67 rfl rfl (Nat.le_refl 0) (kI_of hf)
def wX12_takeOne_J34 (n : Nat) (sh : Nat → Nat × Nat) (P : Int32 → gS → Prop) (a0 : Nat) (x3 : Int32) (z : gS) : Prop := (oO n sh a0 8) ∧ (if (gi z a0 8) ≤ 0 then wX12_takeOne_J51 n sh P a0 x3 (1 : Int32) (gi z a0 7) a0 z else wX12_takeOne_J51 n sh P a0 x3 (0 : Int32) (gi z a0 7) a0 z)
set_option maxRecDepth 100000 in
set_option maxHeartbeats 4000000 in
theorem vX12_takeOne_J34 {E : gE} {n : Nat} {sh : Nat → Nat × Nat} {P : Int32 → gS → Prop} {a0 : Nat} {x3 : Int32} {z : gS} (hn : gOK E n) (hf : wX12_takeOne_J34 n sh P a0 x3 z) : V E (gR 2 0) gyX12_takeOne 0 0 34 [(0, .ref a0), (3, .int x3)] [] n sh z (kI n sh P) := by
  unfold wX12_takeOne_J34 at hf
  refine V_aload_n (j := 0) dX12_takeOne_34 rfl rfl ?_
  refine V_dup dX12_takeOne_35 rfl ?_
  obtain ⟨h5, hf⟩ := hf
  refine V_getI fl_X12_156 rfl h5.1 h5.2 dX12_takeOne_36 ?_
  refine V_aload_n (j := 0) dX12_takeOne_39 rfl rfl ?_
  refine V_getI fl_X12_159 rfl h5.1 h5.2 dX12_takeOne_40 ?_
  refine V_if_le (tgt := 50) dX12_takeOne_43 (by decide) (fun h10 => ?_) (fun h10 => ?_)
  · have hf := it_t h10 hf
    refine V_iconst (v := (1 : Int32)) dX12_takeOne_50 (by decide) ?_
    exact vX12_takeOne_J51 hn hf
  · have hf := it_f h10 hf
    refine V_iconst (v := (0 : Int32)) dX12_takeOne_46 (by decide) ?_
    refine V_goto (tgt := 51) dX12_takeOne_47 (by decide) ?_
    exact vX12_takeOne_J51 hn hf
def wX12_takeOne_J17 (n : Nat) (sh : Nat → Nat × Nat) (P : Int32 → gS → Prop) (a0 : Nat) (s0 : Int32) (z : gS) : Prop := (oO n sh a0 8) ∧ (if (gi z a0 8) = 0 then (if 0 ≤ s0 then wX12_takeOne_J34 n sh P a0 s0 z else (wX12_wrong n sh a0 (1 : Int32) z (fun (z12 : gS) => wX12_takeOne_J34 n sh P a0 s0 z12))) else wX12_takeOne_J34 n sh P a0 s0 z)
set_option maxRecDepth 100000 in
set_option maxHeartbeats 4000000 in
theorem vX12_takeOne_J17 {E : gE} {n : Nat} {sh : Nat → Nat × Nat} {P : Int32 → gS → Prop} {a0 : Nat} {s0 : Int32} {z : gS} (hn : gOK E n) (hf : wX12_takeOne_J17 n sh P a0 s0 z) : V E (gR 2 0) gyX12_takeOne 0 0 17 [(0, .ref a0)] [.int s0] n sh z (kI n sh P) := by
  unfold wX12_takeOne_J17 at hf
  refine V_istore_n (ls2 := [(3, .int s0), (0, .ref a0)]) dX12_takeOne_17 rfl (by decide) rfl ?_
  refine V_aload_n (j := 1) dX12_takeOne_18 rfl rfl ?_
  obtain ⟨h4, hf⟩ := hf
  refine V_getI fl_X12_159 rfl h4.1 h4.2 dX12_takeOne_19 ?_
  refine V_if_ne (tgt := 34) dX12_takeOne_22 (by decide) (fun h14 => ?_) (fun h14 => ?_)
  · have hf := it_f h14 hf
    refine V_to [1, 0] rfl ?_
    exact vX12_takeOne_J34 hn hf
  · have hf := it_t (Classical.not_not.mp h14) hf
    refine V_iload_n (j := 0) dX12_takeOne_25 rfl rfl ?_
    refine V_if_ge (tgt := 34) dX12_takeOne_26 (by decide) (fun h13 => ?_) (fun h13 => ?_)
    · have hf := it_t h13 hf
      refine V_to [1, 0] rfl ?_
      exact vX12_takeOne_J34 hn hf
    · have hf := it_f h13 hf
      refine V_aload_n (j := 1) dX12_takeOne_29 rfl rfl ?_
      refine V_iconst (v := (1 : Int32)) dX12_takeOne_30 (by decide) ?_
      refine V_cVN (ctX12_wrong hn hf) gc_X12_165 rfl h4.1 ⟨_, h4.2, by decide, rfl⟩ ⟨by decide, by decide, Nat.zero_le _, Nat.zero_le _⟩ (Nat.le_of_ble_eq_true rfl) dX12_takeOne_31 rfl hn (fun z12 hf => ?_)
      refine V_to [1, 0] rfl ?_
      exact vX12_takeOne_J34 hn hf
def wX12_takeOne (n : Nat) (sh : Nat → Nat × Nat) (a0 : Nat) (x1 : Int32) (x2 : Int32) (z : gS) (P : Int32 → gS → Prop) : Prop := (oO n sh a0 8) ∧ (if (gi z a0 8) ≤ 0 then (wX12_wordHere n sh a0 x1 x2 z (fun (r2 : Int32) (z3 : gS) => wX12_takeOne_J17 n sh P a0 r2 z3)) else wX12_takeOne_J17 n sh P a0 (-1 : Int32) z)
set_option maxRecDepth 100000 in
set_option maxHeartbeats 4000000 in
theorem ctX12_takeOne {E : gE} {n : Nat} {sh : Nat → Nat × Nat} {a0 : Nat} {x1 : Int32} {x2 : Int32} {z : gS} {P : Int32 → gS → Prop} (hn : gOK E n) (hf : wX12_takeOne n sh a0 x1 x2 z P) : VM E 2 0 gyX12_takeOne [.ref a0, .int x1, .int x2] n sh z (kI n sh P) := by
  unfold wX12_takeOne at hf
  refine VM.of (by decide +kernel) (Nat.le_of_ble_eq_true rfl) (fun _ _ _ h => h.2.2) ?_
  show V E (gR 2 0) gyX12_takeOne 0 0 0 [(0, .ref a0), (1, .int x1), (2, .int x2)] [] n sh z (kI n sh P)
  refine V_aload_n (j := 0) dX12_takeOne_0 rfl rfl ?_
  obtain ⟨h1, hf⟩ := hf
  refine V_getI fl_X12_159 rfl h1.1 h1.2 dX12_takeOne_1 ?_
  refine V_if_le (tgt := 11) dX12_takeOne_4 (by decide) (fun h15 => ?_) (fun h15 => ?_)
  · have hf := it_t h15 hf
    refine V_aload_n (j := 0) dX12_takeOne_11 rfl rfl ?_
    refine V_iload_n (j := 1) dX12_takeOne_12 rfl rfl ?_
    refine V_iload_n (j := 2) dX12_takeOne_13 rfl rfl ?_
    refine V_cVI (ctX12_wordHere hn hf) gc_X12_181 rfl h1.1 ⟨_, h1.2, by decide, rfl⟩ ⟨by decide, by decide, Nat.zero_le _, Nat.zero_le _⟩ (Nat.le_of_ble_eq_true rfl) dX12_takeOne_14 rfl hn (fun r2 z3 hf => ?_)
    refine V_to [0] rfl ?_
    exact vX12_takeOne_J17 hn hf
  · have hf := it_f h15 hf
    refine V_iconst (v := (-1 : Int32)) dX12_takeOne_7 (by decide) ?_
    refine V_goto (tgt := 17) dX12_takeOne_8 (by decide) ?_
    refine V_to [0] rfl ?_
    exact vX12_takeOne_J17 hn hf
def wX12_isName (n : Nat) (sh : Nat → Nat × Nat) (a0 : Nat) (z : gS) (P : Int32 → gS → Prop) : Prop := (oO n sh a0 8) ∧ (if (gi z a0 8) = 0 then (∃ t2 : Nat, gr z a0 4 = some t2 ∧ ((oA n sh t2 1) ∧ ((vp_in (gi z a0 7) (sh t2).2) ∧ (if (gi z t2 (gi z a0 7).toNatClampNeg) = (1 : Int32) then (wX12_wordHere n sh a0 (0 : Int32) (22 : Int32) z (fun (r5 : Int32) (z6 : gS) => if 0 ≤ r5 then P (0 : Int32) z6 else P (1 : Int32) z6)) else P (0 : Int32) z)))) else P (0 : Int32) z)
set_option maxRecDepth 100000 in
set_option maxHeartbeats 4000000 in
theorem ctX12_isName {E : gE} {n : Nat} {sh : Nat → Nat × Nat} {a0 : Nat} {z : gS} {P : Int32 → gS → Prop} (hn : gOK E n) (hf : wX12_isName n sh a0 z P) : VM E 2 0 gyX12_isName [.ref a0] n sh z (kI n sh P) := by
  unfold wX12_isName at hf
  refine VM.of (by decide +kernel) (Nat.le_of_ble_eq_true rfl) (fun _ _ _ h => h.2.2) ?_
  show V E (gR 2 0) gyX12_isName 0 0 0 [(0, .ref a0)] [] n sh z (kI n sh P)
  refine V_aload_n (j := 0) dX12_isName_0 rfl rfl ?_
  obtain ⟨h1, hf⟩ := hf
  refine V_getI fl_X12_159 rfl h1.1 h1.2 dX12_isName_1 ?_
  refine V_if_ne (tgt := 34) dX12_isName_4 (by decide) (fun h9 => ?_) (fun h9 => ?_)
  · have hf := it_f h9 hf
    refine V_iconst (v := (0 : Int32)) dX12_isName_34 (by decide) ?_
    exact V_ireturn dX12_isName_35 rfl (by decide) (Nat.le_refl 0) (kI_of hf)
  · have hf := it_t (Classical.not_not.mp h9) hf
    refine V_aload_n (j := 0) dX12_isName_7 rfl rfl ?_
    obtain ⟨t2, et2, hf⟩ := hf
    refine V_getR fl_X12_24 rfl h1.1 h1.2 et2 dX12_isName_8 ?_
    refine V_aload_n (j := 0) dX12_isName_11 rfl rfl ?_
    refine V_getI fl_X12_156 rfl h1.1 h1.2 dX12_isName_12 ?_
    obtain ⟨h3, hf⟩ := hf
    obtain ⟨h4, hf⟩ := hf
    refine V_iald h3.1 h3.s h4 dX12_isName_15 ?_
    refine V_iconst (v := (1 : Int32)) dX12_isName_16 (by decide) ?_
    refine V_icmp_ne (tgt := 34) dX12_isName_17 (by decide) (fun h8 => ?_) (fun h8 => ?_)
    · have hf := it_f h8 hf
      refine V_iconst (v := (0 : Int32)) dX12_isName_34 (by decide) ?_
      exact V_ireturn dX12_isName_35 rfl (by decide) (Nat.le_refl 0) (kI_of hf)
    · have hf := it_t (Classical.not_not.mp h8) hf
      refine V_aload_n (j := 0) dX12_isName_20 rfl rfl ?_
      refine V_iconst (v := (0 : Int32)) dX12_isName_21 (by decide) ?_
      refine V_bipush (v := (22 : Int32)) dX12_isName_22 (by decide) ?_
      refine V_cVI (ctX12_wordHere hn hf) gc_X12_181 rfl h1.1 ⟨_, h1.2, by decide, rfl⟩ ⟨by decide, by decide, Nat.zero_le _, Nat.zero_le _⟩ (Nat.le_of_ble_eq_true rfl) dX12_isName_24 rfl hn (fun r5 z6 hf => ?_)
      refine V_if_ge (tgt := 34) dX12_isName_27 (by decide) (fun h7 => ?_) (fun h7 => ?_)
      · have hf := it_t h7 hf
        refine V_iconst (v := (0 : Int32)) dX12_isName_34 (by decide) ?_
        exact V_ireturn dX12_isName_35 rfl (by decide) (Nat.le_refl 0) (kI_of hf)
      · have hf := it_f h7 hf
        refine V_iconst (v := (1 : Int32)) dX12_isName_30 (by decide) ?_
        refine V_goto (tgt := 35) dX12_isName_31 (by decide) ?_
        exact V_ireturn dX12_isName_35 rfl (by decide) (Nat.le_refl 0) (kI_of hf)
def wX12_nameAt_J40 (n : Nat) (sh : Nat → Nat × Nat) (k2 : Nat → Int32 → Int32 → gS → Prop) (P : Int32 → gS → Prop) (a0 : Nat) (x1 : Int32) (x2 : Int32) (s0 : Int64) (z : gS) : Prop := (oO n sh a0 8) ∧ (∃ t7 : Nat, gr z a0 6 = some t7 ∧ ((oA n sh t7 2) ∧ ((vp_in (gi z a0 7) (sh t7).2) ∧ (if (lg_cmp s0 (gl z t7 (gi z a0 7).toNatClampNeg)) = 0 then (if x1 = 0 then (∃ t11 : Nat, gr z a0 16 = some t11 ∧ ((oA n sh t11 1) ∧ ((vp_in x2 (sh t11).2) ∧ P (gi z t11 x2.toNatClampNeg) z))) else (∃ t14 : Nat, gr z a0 17 = some t14 ∧ ((oA n sh t14 1) ∧ ((vp_in x2 (sh t14).2) ∧ P (gi z t14 x2.toNatClampNeg) z)))) else (∀ v10 : Int32, v10 = x2 + (1 : Int32) → k2 a0 x1 v10 z)))))
set_option maxRecDepth 100000 in
set_option maxHeartbeats 4000000 in
theorem vX12_nameAt_J40 {E : gE} {n : Nat} {sh : Nat → Nat × Nat} {P : Int32 → gS → Prop} {k2 : Nat → Int32 → Int32 → gS → Prop} {a0 : Nat} {x1 : Int32} {x2 : Int32} {s0 : Int64} {z : gS} (hn : gOK E n) (hk2 : ∀ (a0 : Nat) (x1 : Int32) (x2 : Int32) (z : gS), k2 a0 x1 x2 z → V E (gR 0 0) gyX12_nameAt 0 0 2 [(0, .ref a0), (1, .int x1), (2, .int x2)] [] n sh z (kI n sh P)) (hf : wX12_nameAt_J40 n sh k2 P a0 x1 x2 s0 z) : V E (gR 0 0) gyX12_nameAt 0 0 40 [(0, .ref a0), (1, .int x1), (2, .int x2)] [.long s0] n sh z (kI n sh P) := by
  unfold wX12_nameAt_J40 at hf
  refine V_aload_n (j := 0) dX12_nameAt_40 rfl rfl ?_
  obtain ⟨h6, hf⟩ := hf
  obtain ⟨t7, et7, hf⟩ := hf
  refine V_getR fl_X12_30 rfl h6.1 h6.2 et7 dX12_nameAt_41 ?_
  refine V_aload_n (j := 0) dX12_nameAt_44 rfl rfl ?_
  refine V_getI fl_X12_156 rfl h6.1 h6.2 dX12_nameAt_45 ?_
  obtain ⟨h8, hf⟩ := hf
  obtain ⟨h9, hf⟩ := hf
  refine V_lald h8.1 h8.s h9 dX12_nameAt_48 ?_
  refine V_lcmp dX12_nameAt_49 ?_
  refine V_if_ne (tgt := 73) dX12_nameAt_50 (by decide) (fun h18 => ?_) (fun h18 => ?_)
  · have hf := it_f h18 hf
    obtain ⟨v10, ev10⟩ : ∃ y : Int32, y = x2 + (1 : Int32) := ⟨_, rfl⟩
    refine V_iinc (j := 2) (v := v10) (ls2 := [(2, .int v10), (0, .ref a0), (1, .int x1)]) dX12_nameAt_73 rfl (by rw [ev10]; rfl) (by decide) rfl ?_
    have hf := hf v10 ev10
    refine V_goto (tgt := 2) dX12_nameAt_76 (by decide) ?_
    refine V_to [1, 2, 0] rfl ?_
    exact hk2 _ _ _ _ hf
  · have hf := it_t (Classical.not_not.mp h18) hf
    refine V_iload_n (j := 1) dX12_nameAt_53 rfl rfl ?_
    refine V_if_eq (tgt := 66) dX12_nameAt_54 (by decide) (fun h17 => ?_) (fun h17 => ?_)
    · have hf := it_t h17 hf
      refine V_aload_n (j := 0) dX12_nameAt_66 rfl rfl ?_
      obtain ⟨t11, et11, hf⟩ := hf
      refine V_getR fl_X12_104 rfl h6.1 h6.2 et11 dX12_nameAt_67 ?_
      refine V_iload_n (j := 2) dX12_nameAt_70 rfl rfl ?_
      obtain ⟨h12, hf⟩ := hf
      obtain ⟨h13, hf⟩ := hf
      refine V_iald h12.1 h12.s h13 dX12_nameAt_71 ?_
      exact V_ireturn dX12_nameAt_72 rfl rfl (Nat.le_refl 0) (kI_of hf)
    · have hf := it_f h17 hf
      refine V_aload_n (j := 0) dX12_nameAt_57 rfl rfl ?_
      obtain ⟨t14, et14, hf⟩ := hf
      refine V_getR fl_X12_107 rfl h6.1 h6.2 et14 dX12_nameAt_58 ?_
      refine V_iload_n (j := 2) dX12_nameAt_61 rfl rfl ?_
      obtain ⟨h15, hf⟩ := hf
      obtain ⟨h16, hf⟩ := hf
      refine V_iald h15.1 h15.s h16 dX12_nameAt_62 ?_
      refine V_goto (tgt := 72) dX12_nameAt_63 (by decide) ?_
      exact V_ireturn dX12_nameAt_72 rfl rfl (Nat.le_refl 0) (kI_of hf)
def wX12_nameAt_J18 (n : Nat) (sh : Nat → Nat × Nat) (k2 : Nat → Int32 → Int32 → gS → Prop) (P : Int32 → gS → Prop) (a0 : Nat) (x1 : Int32) (x2 : Int32) (s0 : Int32) (s1 : Int32) (z : gS) : Prop := if s0 ≤ s1 then P (-1 : Int32) z else (if x1 = 0 then ((oO n sh a0 8) ∧ (∃ t3 : Nat, gr z a0 14 = some t3 ∧ ((oA n sh t3 2) ∧ ((vp_in x2 (sh t3).2) ∧ wX12_nameAt_J40 n sh k2 P a0 x1 x2 (gl z t3 x2.toNatClampNeg) z)))) else ((oO n sh a0 8) ∧ (∃ t20 : Nat, gr z a0 15 = some t20 ∧ ((oA n sh t20 2) ∧ ((vp_in x2 (sh t20).2) ∧ wX12_nameAt_J40 n sh k2 P a0 x1 x2 (gl z t20 x2.toNatClampNeg) z)))))
set_option maxRecDepth 100000 in
set_option maxHeartbeats 4000000 in
theorem vX12_nameAt_J18 {E : gE} {n : Nat} {sh : Nat → Nat × Nat} {P : Int32 → gS → Prop} {k2 : Nat → Int32 → Int32 → gS → Prop} {a0 : Nat} {x1 : Int32} {x2 : Int32} {s0 : Int32} {s1 : Int32} {z : gS} (hn : gOK E n) (hk2 : ∀ (a0 : Nat) (x1 : Int32) (x2 : Int32) (z : gS), k2 a0 x1 x2 z → V E (gR 0 0) gyX12_nameAt 0 0 2 [(0, .ref a0), (1, .int x1), (2, .int x2)] [] n sh z (kI n sh P)) (hf : wX12_nameAt_J18 n sh k2 P a0 x1 x2 s0 s1 z) : V E (gR 0 0) gyX12_nameAt 0 0 18 [(0, .ref a0), (1, .int x1), (2, .int x2)] [.int s0, .int s1] n sh z (kI n sh P) := by
  unfold wX12_nameAt_J18 at hf
  refine V_icmp_ge (tgt := 79) dX12_nameAt_18 (by decide) (fun h24 => ?_) (fun h24 => ?_)
  · have hf := it_t h24 hf
    refine V_iconst (v := (-1 : Int32)) dX12_nameAt_79 (by decide) ?_
    exact V_ireturn dX12_nameAt_80 rfl rfl (Nat.le_refl 0) (kI_of hf)
  · have hf := it_f h24 hf
    refine V_iload_n (j := 1) dX12_nameAt_21 rfl rfl ?_
    refine V_if_eq (tgt := 34) dX12_nameAt_22 (by decide) (fun h23 => ?_) (fun h23 => ?_)
    · have hf := it_t h23 hf
      refine V_aload_n (j := 0) dX12_nameAt_34 rfl rfl ?_
      obtain ⟨h2, hf⟩ := hf
      obtain ⟨t3, et3, hf⟩ := hf
      refine V_getR fl_X12_98 rfl h2.1 h2.2 et3 dX12_nameAt_35 ?_
      refine V_iload_n (j := 2) dX12_nameAt_38 rfl rfl ?_
      obtain ⟨h4, hf⟩ := hf
      obtain ⟨h5, hf⟩ := hf
      refine V_lald h4.1 h4.s h5 dX12_nameAt_39 ?_
      exact vX12_nameAt_J40 hn hk2 hf
    · have hf := it_f h23 hf
      refine V_aload_n (j := 0) dX12_nameAt_25 rfl rfl ?_
      obtain ⟨h19, hf⟩ := hf
      obtain ⟨t20, et20, hf⟩ := hf
      refine V_getR fl_X12_101 rfl h19.1 h19.2 et20 dX12_nameAt_26 ?_
      refine V_iload_n (j := 2) dX12_nameAt_29 rfl rfl ?_
      obtain ⟨h21, hf⟩ := hf
      obtain ⟨h22, hf⟩ := hf
      refine V_lald h21.1 h21.s h22 dX12_nameAt_30 ?_
      refine V_goto (tgt := 40) dX12_nameAt_31 (by decide) ?_
      exact vX12_nameAt_J40 hn hk2 hf
def wX12_nameAt_B2 (n : Nat) (sh : Nat → Nat × Nat) (k2 : Nat → Int32 → Int32 → gS → Prop) (P : Int32 → gS → Prop) (a0 : Nat) (x1 : Int32) (x2 : Int32) (z : gS) : Prop := if x1 = 0 then ((oO n sh a0 8) ∧ wX12_nameAt_J18 n sh k2 P a0 x1 x2 (gi z a0 18) x2 z) else ((oO n sh a0 8) ∧ wX12_nameAt_J18 n sh k2 P a0 x1 x2 (gi z a0 19) x2 z)
def wX12_nameAt_L2 (n : Nat) (sh : Nat → Nat × Nat) (P : Int32 → gS → Prop) : Nat → Nat → Int32 → Int32 → gS → Prop
  | 0, _, _, _, _ => False
  | N + 1, a0, x1, x2, z => wX12_nameAt_B2 n sh (wX12_nameAt_L2 n sh P N) P a0 x1 x2 z
set_option maxRecDepth 100000 in
set_option maxHeartbeats 4000000 in
theorem vX12_nameAt_B2 {E : gE} {n : Nat} {sh : Nat → Nat × Nat} {P : Int32 → gS → Prop} {k2 : Nat → Int32 → Int32 → gS → Prop} {a0 : Nat} {x1 : Int32} {x2 : Int32} {z : gS} (hn : gOK E n) (hk2 : ∀ (a0 : Nat) (x1 : Int32) (x2 : Int32) (z : gS), k2 a0 x1 x2 z → V E (gR 0 0) gyX12_nameAt 0 0 2 [(0, .ref a0), (1, .int x1), (2, .int x2)] [] n sh z (kI n sh P)) (hf : wX12_nameAt_B2 n sh k2 P a0 x1 x2 z) : V E (gR 0 0) gyX12_nameAt 0 0 2 [(0, .ref a0), (1, .int x1), (2, .int x2)] [] n sh z (kI n sh P) := by
  unfold wX12_nameAt_B2 at hf
  refine V_iload_n (j := 2) dX12_nameAt_2 rfl rfl ?_
  refine V_iload_n (j := 1) dX12_nameAt_3 rfl rfl ?_
  refine V_if_eq (tgt := 14) dX12_nameAt_4 (by decide) (fun h26 => ?_) (fun h26 => ?_)
  · have hf := it_t h26 hf
    refine V_aload_n (j := 0) dX12_nameAt_14 rfl rfl ?_
    obtain ⟨h1, hf⟩ := hf
    refine V_getI fl_X12_187 rfl h1.1 h1.2 dX12_nameAt_15 ?_
    exact vX12_nameAt_J18 hn hk2 hf
  · have hf := it_f h26 hf
    refine V_aload_n (j := 0) dX12_nameAt_7 rfl rfl ?_
    obtain ⟨h25, hf⟩ := hf
    refine V_getI fl_X12_184 rfl h25.1 h25.2 dX12_nameAt_8 ?_
    refine V_goto (tgt := 18) dX12_nameAt_11 (by decide) ?_
    exact vX12_nameAt_J18 hn hk2 hf
set_option maxRecDepth 100000 in
set_option maxHeartbeats 4000000 in
theorem vX12_nameAt_L2 {E : gE} {n : Nat} {sh : Nat → Nat × Nat} {P : Int32 → gS → Prop} (hn : gOK E n) : ∀ (N : Nat) (a0 : Nat) (x1 : Int32) (x2 : Int32) (z : gS), wX12_nameAt_L2 n sh P N a0 x1 x2 z → V E (gR 0 0) gyX12_nameAt 0 0 2 [(0, .ref a0), (1, .int x1), (2, .int x2)] [] n sh z (kI n sh P) := by
  intro N
  induction N with
  | zero => intro a0 x1 x2 z hf; exact False.elim hf
  | succ N ih => intro a0 x1 x2 z hf; exact vX12_nameAt_B2 hn ih hf
def wX12_nameAt (n : Nat) (sh : Nat → Nat × Nat) (a0 : Nat) (x1 : Int32) (z : gS) (P : Int32 → gS → Prop) : Prop := (∃ N, wX12_nameAt_L2 n sh P N a0 x1 (0 : Int32) z)
set_option maxRecDepth 100000 in
set_option maxHeartbeats 4000000 in
theorem ctX12_nameAt {E : gE} {n : Nat} {sh : Nat → Nat × Nat} {a0 : Nat} {x1 : Int32} {z : gS} {P : Int32 → gS → Prop} (hn : gOK E n) (hf : wX12_nameAt n sh a0 x1 z P) : VM E 0 0 gyX12_nameAt [.ref a0, .int x1] n sh z (kI n sh P) := by
  unfold wX12_nameAt at hf
  refine VM.of (by decide +kernel) (Nat.le_of_ble_eq_true rfl) (fun _ _ _ h => h.2.2) ?_
  show V E (gR 0 0) gyX12_nameAt 0 0 0 [(0, .ref a0), (1, .int x1)] [] n sh z (kI n sh P)
  refine V_iconst (v := (0 : Int32)) dX12_nameAt_0 (by decide) ?_
  refine V_istore_n (ls2 := [(2, .int (0 : Int32)), (0, .ref a0), (1, .int x1)]) dX12_nameAt_1 rfl (by decide) rfl ?_
  obtain ⟨N, hf⟩ := hf
  refine V_to [1, 2, 0] rfl ?_
  exact vX12_nameAt_L2 hn N _ _ _ _ hf
def wX12_takeTold_J76 (n : Nat) (sh : Nat → Nat × Nat) (P : Int32 → gS → Prop) (a0 : Nat) (x2 : Int32) (s0 : Int32) (s1 : Int32) (s2 : Nat) (z : gS) : Prop := (oO n sh s2 8) ∧ (∀ z8 : gS, z8 = si z s2 7 (s1 + s0) → ((oO n sh a0 8) ∧ (if (gi z8 a0 8) ≤ 0 then P x2 z8 else P (0 : Int32) z8)))
set_option maxRecDepth 100000 in
set_option maxHeartbeats 4000000 in
theorem vX12_takeTold_J76 {E : gE} {n : Nat} {sh : Nat → Nat × Nat} {P : Int32 → gS → Prop} {a0 : Nat} {x2 : Int32} {s0 : Int32} {s1 : Int32} {s2 : Nat} {z : gS} (hn : gOK E n) (hf : wX12_takeTold_J76 n sh P a0 x2 s0 s1 s2 z) : V E (gR 3 0) gyX12_takeTold 0 0 76 [(0, .ref a0), (2, .int x2)] [.int s0, .int s1, .ref s2] n sh z (kI n sh P) := by
  unfold wX12_takeTold_J76 at hf
  refine V_iadd dX12_takeTold_76 ?_
  obtain ⟨h7, hf⟩ := hf
  refine V_putI fl_X12_156 rfl rfl rfl rfl h7.1 h7.2 dX12_takeTold_77 ?_
  refine V_nz (fun z8 ez8 => ?_)
  have hf := hf z8 ez8
  refine V_aload_n (j := 0) dX12_takeTold_80 rfl rfl ?_
  obtain ⟨h9, hf⟩ := hf
  refine V_getI fl_X12_159 rfl h9.1 h9.2 dX12_takeTold_81 ?_
  refine V_if_le (tgt := 91) dX12_takeTold_84 (by decide) (fun h10 => ?_) (fun h10 => ?_)
  · have hf := it_t h10 hf
    refine V_iload_n (j := 1) dX12_takeTold_91 rfl rfl ?_
    exact V_ireturn dX12_takeTold_92 rfl rfl (Nat.le_refl 0) (kI_of hf)
  · have hf := it_f h10 hf
    refine V_iconst (v := (0 : Int32)) dX12_takeTold_87 (by decide) ?_
    refine V_goto (tgt := 92) dX12_takeTold_88 (by decide) ?_
    exact V_ireturn dX12_takeTold_92 rfl rfl (Nat.le_refl 0) (kI_of hf)
def wX12_takeTold_J59 (n : Nat) (sh : Nat → Nat × Nat) (P : Int32 → gS → Prop) (a0 : Nat) (x2 : Int32) (z : gS) : Prop := (oO n sh a0 8) ∧ (if (gi z a0 8) ≤ 0 then wX12_takeTold_J76 n sh P a0 x2 (1 : Int32) (gi z a0 7) a0 z else wX12_takeTold_J76 n sh P a0 x2 (0 : Int32) (gi z a0 7) a0 z)
set_option maxRecDepth 100000 in
set_option maxHeartbeats 4000000 in
theorem vX12_takeTold_J59 {E : gE} {n : Nat} {sh : Nat → Nat × Nat} {P : Int32 → gS → Prop} {a0 : Nat} {x2 : Int32} {z : gS} (hn : gOK E n) (hf : wX12_takeTold_J59 n sh P a0 x2 z) : V E (gR 3 0) gyX12_takeTold 0 0 59 [(0, .ref a0), (2, .int x2)] [] n sh z (kI n sh P) := by
  unfold wX12_takeTold_J59 at hf
  refine V_aload_n (j := 0) dX12_takeTold_59 rfl rfl ?_
  refine V_dup dX12_takeTold_60 rfl ?_
  obtain ⟨h6, hf⟩ := hf
  refine V_getI fl_X12_156 rfl h6.1 h6.2 dX12_takeTold_61 ?_
  refine V_aload_n (j := 0) dX12_takeTold_64 rfl rfl ?_
  refine V_getI fl_X12_159 rfl h6.1 h6.2 dX12_takeTold_65 ?_
  refine V_if_le (tgt := 75) dX12_takeTold_68 (by decide) (fun h11 => ?_) (fun h11 => ?_)
  · have hf := it_t h11 hf
    refine V_iconst (v := (1 : Int32)) dX12_takeTold_75 (by decide) ?_
    exact vX12_takeTold_J76 hn hf
  · have hf := it_f h11 hf
    refine V_iconst (v := (0 : Int32)) dX12_takeTold_71 (by decide) ?_
    refine V_goto (tgt := 76) dX12_takeTold_72 (by decide) ?_
    exact vX12_takeTold_J76 hn hf
def wX12_takeTold_J37 (n : Nat) (sh : Nat → Nat × Nat) (P : Int32 → gS → Prop) (a0 : Nat) (s0 : Int32) (z : gS) : Prop := (oO n sh a0 8) ∧ (if (gi z a0 8) = 0 then (wX12_within n sh s0 (0 : Int32) (5 : Int32) z (fun (r12 : Int32) (z13 : gS) => if r12 = 0 then (wX12_wrong n sh a0 (2 : Int32) z13 (fun (z15 : gS) => wX12_takeTold_J59 n sh P a0 s0 z15)) else wX12_takeTold_J59 n sh P a0 s0 z13)) else wX12_takeTold_J59 n sh P a0 s0 z)
set_option maxRecDepth 100000 in
set_option maxHeartbeats 4000000 in
theorem vX12_takeTold_J37 {E : gE} {n : Nat} {sh : Nat → Nat × Nat} {P : Int32 → gS → Prop} {a0 : Nat} {s0 : Int32} {z : gS} (hn : gOK E n) (hf : wX12_takeTold_J37 n sh P a0 s0 z) : V E (gR 3 0) gyX12_takeTold 0 0 37 [(0, .ref a0)] [.int s0] n sh z (kI n sh P) := by
  unfold wX12_takeTold_J37 at hf
  refine V_istore_n (ls2 := [(2, .int s0), (0, .ref a0)]) dX12_takeTold_37 rfl (by decide) rfl ?_
  refine V_aload_n (j := 1) dX12_takeTold_38 rfl rfl ?_
  obtain ⟨h5, hf⟩ := hf
  refine V_getI fl_X12_159 rfl h5.1 h5.2 dX12_takeTold_39 ?_
  refine V_if_ne (tgt := 59) dX12_takeTold_42 (by decide) (fun h17 => ?_) (fun h17 => ?_)
  · have hf := it_f h17 hf
    refine V_to [1, 0] rfl ?_
    exact vX12_takeTold_J59 hn hf
  · have hf := it_t (Classical.not_not.mp h17) hf
    refine V_iload_n (j := 0) dX12_takeTold_45 rfl rfl ?_
    refine V_iconst (v := (0 : Int32)) dX12_takeTold_46 (by decide) ?_
    refine V_iconst (v := (5 : Int32)) dX12_takeTold_47 (by decide) ?_
    refine V_cSI (ctX12_within hn hf) gc_X12_198 rfl ⟨by decide, by decide, Nat.zero_le _, Nat.zero_le _⟩ (Nat.le_of_ble_eq_true rfl) dX12_takeTold_48 rfl hn (fun r12 z13 hf => ?_)
    refine V_if_ne (tgt := 59) dX12_takeTold_51 (by decide) (fun h16 => ?_) (fun h16 => ?_)
    · have hf := it_f h16 hf
      refine V_to [1, 0] rfl ?_
      exact vX12_takeTold_J59 hn hf
    · have hf := it_t (Classical.not_not.mp h16) hf
      refine V_aload_n (j := 1) dX12_takeTold_54 rfl rfl ?_
      refine V_iconst (v := (2 : Int32)) dX12_takeTold_55 (by decide) ?_
      refine V_cVN (ctX12_wrong hn hf) gc_X12_165 rfl h5.1 ⟨_, h5.2, by decide, rfl⟩ ⟨by decide, by decide, Nat.zero_le _, Nat.zero_le _⟩ (Nat.le_of_ble_eq_true rfl) dX12_takeTold_56 rfl hn (fun z15 hf => ?_)
      refine V_to [1, 0] rfl ?_
      exact vX12_takeTold_J59 hn hf
def wX12_takeTold_J19 (n : Nat) (sh : Nat → Nat × Nat) (P : Int32 → gS → Prop) (a0 : Nat) (x1 : Int32) (z : gS) : Prop := (oO n sh a0 8) ∧ (if (gi z a0 8) ≤ 0 then (wX12_nameAt n sh a0 (0 : Int32) z (fun (r3 : Int32) (z4 : gS) => wX12_takeTold_J37 n sh P a0 (r3 - x1) z4)) else wX12_takeTold_J37 n sh P a0 (-1 : Int32) z)
set_option maxRecDepth 100000 in
set_option maxHeartbeats 4000000 in
theorem vX12_takeTold_J19 {E : gE} {n : Nat} {sh : Nat → Nat × Nat} {P : Int32 → gS → Prop} {a0 : Nat} {x1 : Int32} {z : gS} (hn : gOK E n) (hf : wX12_takeTold_J19 n sh P a0 x1 z) : V E (gR 3 0) gyX12_takeTold 0 0 19 [(0, .ref a0), (1, .int x1)] [] n sh z (kI n sh P) := by
  unfold wX12_takeTold_J19 at hf
  refine V_aload_n (j := 0) dX12_takeTold_19 rfl rfl ?_
  obtain ⟨h2, hf⟩ := hf
  refine V_getI fl_X12_159 rfl h2.1 h2.2 dX12_takeTold_20 ?_
  refine V_if_le (tgt := 30) dX12_takeTold_23 (by decide) (fun h18 => ?_) (fun h18 => ?_)
  · have hf := it_t h18 hf
    refine V_aload_n (j := 0) dX12_takeTold_30 rfl rfl ?_
    refine V_iconst (v := (0 : Int32)) dX12_takeTold_31 (by decide) ?_
    refine V_cVI (ctX12_nameAt hn hf) gc_X12_194 rfl h2.1 ⟨_, h2.2, by decide, rfl⟩ ⟨by decide, by decide, Nat.zero_le _, Nat.zero_le _⟩ (Nat.le_of_ble_eq_true rfl) dX12_takeTold_32 rfl hn (fun r3 z4 hf => ?_)
    refine V_iload_n (j := 1) dX12_takeTold_35 rfl rfl ?_
    refine V_isub dX12_takeTold_36 ?_
    refine V_to [0] rfl ?_
    exact vX12_takeTold_J37 hn hf
  · have hf := it_f h18 hf
    refine V_iconst (v := (-1 : Int32)) dX12_takeTold_26 (by decide) ?_
    refine V_goto (tgt := 37) dX12_takeTold_27 (by decide) ?_
    refine V_to [0] rfl ?_
    exact vX12_takeTold_J37 hn hf
def wX12_takeTold (n : Nat) (sh : Nat → Nat × Nat) (a0 : Nat) (x1 : Int32) (z : gS) (P : Int32 → gS → Prop) : Prop := (oO n sh a0 8) ∧ (if (gi z a0 8) = 0 then (wX12_isName n sh a0 z (fun (r19 : Int32) (z20 : gS) => if r19 = 0 then (wX12_wrong n sh a0 (1 : Int32) z20 (fun (z22 : gS) => wX12_takeTold_J19 n sh P a0 x1 z22)) else wX12_takeTold_J19 n sh P a0 x1 z20)) else wX12_takeTold_J19 n sh P a0 x1 z)
set_option maxRecDepth 100000 in
set_option maxHeartbeats 4000000 in
theorem ctX12_takeTold {E : gE} {n : Nat} {sh : Nat → Nat × Nat} {a0 : Nat} {x1 : Int32} {z : gS} {P : Int32 → gS → Prop} (hn : gOK E n) (hf : wX12_takeTold n sh a0 x1 z P) : VM E 3 0 gyX12_takeTold [.ref a0, .int x1] n sh z (kI n sh P) := by
  unfold wX12_takeTold at hf
  refine VM.of (by decide +kernel) (Nat.le_of_ble_eq_true rfl) (fun _ _ _ h => h.2.2) ?_
  show V E (gR 3 0) gyX12_takeTold 0 0 0 [(0, .ref a0), (1, .int x1)] [] n sh z (kI n sh P)
  refine V_aload_n (j := 0) dX12_takeTold_0 rfl rfl ?_
  obtain ⟨h1, hf⟩ := hf
  refine V_getI fl_X12_159 rfl h1.1 h1.2 dX12_takeTold_1 ?_
  refine V_if_ne (tgt := 19) dX12_takeTold_4 (by decide) (fun h24 => ?_) (fun h24 => ?_)
  · have hf := it_f h24 hf
    exact vX12_takeTold_J19 hn hf
  · have hf := it_t (Classical.not_not.mp h24) hf
    refine V_aload_n (j := 0) dX12_takeTold_7 rfl rfl ?_
    refine V_cVI (ctX12_isName hn hf) gc_X12_190 rfl h1.1 ⟨_, h1.2, by decide, rfl⟩ ⟨by decide, by decide, Nat.zero_le _, Nat.zero_le _⟩ (Nat.le_of_ble_eq_true rfl) dX12_takeTold_8 rfl hn (fun r19 z20 hf => ?_)
    refine V_if_ne (tgt := 19) dX12_takeTold_11 (by decide) (fun h23 => ?_) (fun h23 => ?_)
    · have hf := it_f h23 hf
      exact vX12_takeTold_J19 hn hf
    · have hf := it_t (Classical.not_not.mp h23) hf
      refine V_aload_n (j := 0) dX12_takeTold_14 rfl rfl ?_
      refine V_iconst (v := (1 : Int32)) dX12_takeTold_15 (by decide) ?_
      refine V_cVN (ctX12_wrong hn hf) gc_X12_165 rfl h1.1 ⟨_, h1.2, by decide, rfl⟩ ⟨by decide, by decide, Nat.zero_le _, Nat.zero_le _⟩ (Nat.le_of_ble_eq_true rfl) dX12_takeTold_16 rfl hn (fun z22 hf => ?_)
      exact vX12_takeTold_J19 hn hf
def wX12_readName_J61 (n : Nat) (sh : Nat → Nat × Nat) (P : gS → Prop) (a0 : Nat) (x1 : Int32) (x3 : Int32) (x4 : Int32) (z : gS) : Prop := (oO n sh a0 8) ∧ (if (gi z a0 8) = 0 then (∃ t12 : Nat, gr z a0 15 = some t12 ∧ (∃ t13 : Nat, gr z a0 6 = some t13 ∧ ((oA n sh t13 2) ∧ ((vp_in (gi z a0 7) (sh t13).2) ∧ ((oA n sh t12 2) ∧ ((vp_in (gi z a0 19) (sh t12).2) ∧ (∀ z18 : gS, z18 = sl z t12 (gi z a0 19).toNatClampNeg (gl z t13 (gi z a0 7).toNatClampNeg) → (∃ t19 : Nat, gr z18 a0 17 = some t19 ∧ ((oA n sh t19 1) ∧ ((vp_in (gi z18 a0 19) (sh t19).2) ∧ (∀ z22 : gS, z22 = si z18 t19 (gi z18 a0 19).toNatClampNeg (x3 + x4) → (∀ z23 : gS, z23 = si z22 a0 19 ((gi z22 a0 19) + (1 : Int32)) → (∀ z24 : gS, z24 = si z23 a0 7 ((gi z23 a0 7) + (1 : Int32)) → (∃ t25 : Nat, gr z24 a0 10 = some t25 ∧ ((oA n sh t25 1) ∧ ((vp_in ((60 : Int32) + x1) (sh t25).2) ∧ ((vp_in ((60 : Int32) + x1) (sh t25).2) ∧ (∀ z29 : gS, z29 = si z24 t25 ((60 : Int32) + x1).toNatClampNeg ((gi z24 t25 ((60 : Int32) + x1).toNatClampNeg) + (1 : Int32)) → P z29)))))))))))))))))) else P z)
set_option maxRecDepth 100000 in
set_option maxHeartbeats 4000000 in
theorem vX12_readName_J61 {E : gE} {n : Nat} {sh : Nat → Nat × Nat} {P : gS → Prop} {a0 : Nat} {x1 : Int32} {x3 : Int32} {x4 : Int32} {z : gS} (hn : gOK E n) (hf : wX12_readName_J61 n sh P a0 x1 x3 x4 z) : V E (gR 3 0) gyX12_readName 0 0 61 [(0, .ref a0), (1, .int x1), (3, .int x3), (4, .int x4)] [] n sh z (kN n sh P) := by
  unfold wX12_readName_J61 at hf
  refine V_aload_n (j := 0) dX12_readName_61 rfl rfl ?_
  obtain ⟨h11, hf⟩ := hf
  refine V_getI fl_X12_159 rfl h11.1 h11.2 dX12_readName_62 ?_
  refine V_if_ne (tgt := 132) dX12_readName_65 (by decide) (fun h30 => ?_) (fun h30 => ?_)
  · have hf := it_f h30 hf
    exact V_return dX12_readName_132 rfl (Nat.le_refl 0) (kN_of hf)
  · have hf := it_t (Classical.not_not.mp h30) hf
    refine V_aload_n (j := 0) dX12_readName_68 rfl rfl ?_
    obtain ⟨t12, et12, hf⟩ := hf
    refine V_getR fl_X12_101 rfl h11.1 h11.2 et12 dX12_readName_69 ?_
    refine V_aload_n (j := 0) dX12_readName_72 rfl rfl ?_
    refine V_getI fl_X12_184 rfl h11.1 h11.2 dX12_readName_73 ?_
    refine V_aload_n (j := 0) dX12_readName_76 rfl rfl ?_
    obtain ⟨t13, et13, hf⟩ := hf
    refine V_getR fl_X12_30 rfl h11.1 h11.2 et13 dX12_readName_77 ?_
    refine V_aload_n (j := 0) dX12_readName_80 rfl rfl ?_
    refine V_getI fl_X12_156 rfl h11.1 h11.2 dX12_readName_81 ?_
    obtain ⟨h14, hf⟩ := hf
    obtain ⟨h15, hf⟩ := hf
    refine V_lald h14.1 h14.s h15 dX12_readName_84 ?_
    obtain ⟨h16, hf⟩ := hf
    obtain ⟨h17, hf⟩ := hf
    refine V_last h16.1 h16.s h17 dX12_readName_85 ?_
    refine V_nz (fun z18 ez18 => ?_)
    have hf := hf z18 ez18
    refine V_aload_n (j := 0) dX12_readName_86 rfl rfl ?_
    obtain ⟨t19, et19, hf⟩ := hf
    refine V_getR fl_X12_107 rfl h11.1 h11.2 et19 dX12_readName_87 ?_
    refine V_aload_n (j := 0) dX12_readName_90 rfl rfl ?_
    refine V_getI fl_X12_184 rfl h11.1 h11.2 dX12_readName_91 ?_
    refine V_iload_n (j := 2) dX12_readName_94 rfl rfl ?_
    refine V_iload (j := 3) dX12_readName_95 rfl ?_
    refine V_iadd dX12_readName_97 ?_
    obtain ⟨h20, hf⟩ := hf
    obtain ⟨h21, hf⟩ := hf
    refine V_iast h20.1 h20.s h21 dX12_readName_98 ?_
    refine V_nz (fun z22 ez22 => ?_)
    have hf := hf z22 ez22
    refine V_aload_n (j := 0) dX12_readName_99 rfl rfl ?_
    refine V_dup dX12_readName_100 rfl ?_
    refine V_getI fl_X12_184 rfl h11.1 h11.2 dX12_readName_101 ?_
    refine V_iconst (v := (1 : Int32)) dX12_readName_104 (by decide) ?_
    refine V_iadd dX12_readName_105 ?_
    refine V_putI fl_X12_184 rfl rfl rfl rfl h11.1 h11.2 dX12_readName_106 ?_
    refine V_nz (fun z23 ez23 => ?_)
    have hf := hf z23 ez23
    refine V_aload_n (j := 0) dX12_readName_109 rfl rfl ?_
    refine V_dup dX12_readName_110 rfl ?_
    refine V_getI fl_X12_156 rfl h11.1 h11.2 dX12_readName_111 ?_
    refine V_iconst (v := (1 : Int32)) dX12_readName_114 (by decide) ?_
    refine V_iadd dX12_readName_115 ?_
    refine V_putI fl_X12_156 rfl rfl rfl rfl h11.1 h11.2 dX12_readName_116 ?_
    refine V_nz (fun z24 ez24 => ?_)
    have hf := hf z24 ez24
    refine V_aload_n (j := 0) dX12_readName_119 rfl rfl ?_
    obtain ⟨t25, et25, hf⟩ := hf
    refine V_getR fl_X12_89 rfl h11.1 h11.2 et25 dX12_readName_120 ?_
    refine V_bipush (v := (60 : Int32)) dX12_readName_123 (by decide) ?_
    refine V_iload_n (j := 1) dX12_readName_125 rfl rfl ?_
    refine V_iadd dX12_readName_126 ?_
    refine V_dup2 dX12_readName_127 rfl rfl ?_
    obtain ⟨h26, hf⟩ := hf
    obtain ⟨h27, hf⟩ := hf
    refine V_iald h26.1 h26.s h27 dX12_readName_128 ?_
    refine V_iconst (v := (1 : Int32)) dX12_readName_129 (by decide) ?_
    refine V_iadd dX12_readName_130 ?_
    obtain ⟨h28, hf⟩ := hf
    refine V_iast h26.1 h26.s h28 dX12_readName_131 ?_
    refine V_nz (fun z29 ez29 => ?_)
    have hf := hf z29 ez29
    exact V_return dX12_readName_132 rfl (Nat.le_refl 0) (kN_of hf)
def wX12_readName (n : Nat) (sh : Nat → Nat × Nat) (a0 : Nat) (x1 : Int32) (x2 : Int32) (x3 : Int32) (z : gS) (P : gS → Prop) : Prop := (oO n sh a0 8) ∧ (∃ t2 : Nat, gr z a0 10 = some t2 ∧ ((oA n sh t2 1) ∧ ((vp_in ((60 : Int32) + x1) (sh t2).2) ∧ (∀ v5 : Int32, v5 = (gi z t2 ((60 : Int32) + x1).toNatClampNeg) → (if v5 = x2 then (wX12_wrong n sh a0 (5 : Int32) z (fun (z38 : gS) => P z38)) else (∀ z6 : gS, z6 = si z a0 7 ((gi z a0 7) + (1 : Int32)) → (wX12_isName n sh a0 z6 (fun (r7 : Int32) (z8 : gS) => if r7 = 0 then (wX12_wrong n sh a0 (1 : Int32) z8 (fun (z35 : gS) => wX12_readName_J61 n sh P a0 x1 x3 v5 z35)) else (wX12_nameAt n sh a0 (1 : Int32) z8 (fun (r9 : Int32) (z10 : gS) => if r9 < 0 then wX12_readName_J61 n sh P a0 x1 x3 v5 z10 else (wX12_wrong n sh a0 (3 : Int32) z10 (fun (z32 : gS) => wX12_readName_J61 n sh P a0 x1 x3 v5 z32))))))))))))
set_option maxRecDepth 100000 in
set_option maxHeartbeats 4000000 in
theorem ctX12_readName {E : gE} {n : Nat} {sh : Nat → Nat × Nat} {a0 : Nat} {x1 : Int32} {x2 : Int32} {x3 : Int32} {z : gS} {P : gS → Prop} (hn : gOK E n) (hf : wX12_readName n sh a0 x1 x2 x3 z P) : VM E 3 0 gyX12_readName [.ref a0, .int x1, .int x2, .int x3] n sh z (kN n sh P) := by
  unfold wX12_readName at hf
  refine VM.of (by decide +kernel) (Nat.le_of_ble_eq_true rfl) (fun _ _ _ h => h.2.2) ?_
  show V E (gR 3 0) gyX12_readName 0 0 0 [(0, .ref a0), (1, .int x1), (2, .int x2), (3, .int x3)] [] n sh z (kN n sh P)
  refine V_aload_n (j := 0) dX12_readName_0 rfl rfl ?_
  obtain ⟨h1, hf⟩ := hf
  obtain ⟨t2, et2, hf⟩ := hf
  refine V_getR fl_X12_89 rfl h1.1 h1.2 et2 dX12_readName_1 ?_
  refine V_bipush (v := (60 : Int32)) dX12_readName_4 (by decide) ?_
  refine V_iload_n (j := 1) dX12_readName_6 rfl rfl ?_
  refine V_iadd dX12_readName_7 ?_
  obtain ⟨h3, hf⟩ := hf
  obtain ⟨h4, hf⟩ := hf
  refine V_iald h3.1 h3.s h4 dX12_readName_8 ?_
  refine V_nI (fun v5 ev5 => ?_)
  have hf := hf v5 ev5
  refine V_istore (ls2 := [(4, .int v5), (0, .ref a0), (1, .int x1), (2, .int x2), (3, .int x3)]) dX12_readName_9 (by decide) rfl ?_
  refine V_iload (j := 0) dX12_readName_11 rfl ?_
  refine V_iload_n (j := 3) dX12_readName_13 rfl rfl ?_
  refine V_icmp_ne (tgt := 23) dX12_readName_14 (by decide) (fun h39 => ?_) (fun h39 => ?_)
  · have hf := it_f h39 hf
    refine V_aload_n (j := 1) dX12_readName_23 rfl rfl ?_
    refine V_dup dX12_readName_24 rfl ?_
    refine V_getI fl_X12_156 rfl h1.1 h1.2 dX12_readName_25 ?_
    refine V_iconst (v := (1 : Int32)) dX12_readName_28 (by decide) ?_
    refine V_iadd dX12_readName_29 ?_
    refine V_putI fl_X12_156 rfl rfl rfl rfl h1.1 h1.2 dX12_readName_30 ?_
    refine V_nz (fun z6 ez6 => ?_)
    have hf := hf z6 ez6
    refine V_aload_n (j := 1) dX12_readName_33 rfl rfl ?_
    refine V_cVI (ctX12_isName hn hf) gc_X12_190 rfl h1.1 ⟨_, h1.2, by decide, rfl⟩ ⟨by decide, by decide, Nat.zero_le _, Nat.zero_le _⟩ (Nat.le_of_ble_eq_true rfl) dX12_readName_34 rfl hn (fun r7 z8 hf => ?_)
    refine V_if_ne (tgt := 48) dX12_readName_37 (by decide) (fun h36 => ?_) (fun h36 => ?_)
    · have hf := it_f h36 hf
      refine V_aload_n (j := 1) dX12_readName_48 rfl rfl ?_
      refine V_iconst (v := (1 : Int32)) dX12_readName_49 (by decide) ?_
      refine V_cVI (ctX12_nameAt hn hf) gc_X12_194 rfl h1.1 ⟨_, h1.2, by decide, rfl⟩ ⟨by decide, by decide, Nat.zero_le _, Nat.zero_le _⟩ (Nat.le_of_ble_eq_true rfl) dX12_readName_50 rfl hn (fun r9 z10 hf => ?_)
      refine V_if_lt (tgt := 61) dX12_readName_53 (by decide) (fun h33 => ?_) (fun h33 => ?_)
      · have hf := it_t h33 hf
        refine V_to [1, 2, 4, 0] rfl ?_
        exact vX12_readName_J61 hn hf
      · have hf := it_f h33 hf
        refine V_aload_n (j := 1) dX12_readName_56 rfl rfl ?_
        refine V_iconst (v := (3 : Int32)) dX12_readName_57 (by decide) ?_
        refine V_cVN (ctX12_wrong hn hf) gc_X12_165 rfl h1.1 ⟨_, h1.2, by decide, rfl⟩ ⟨by decide, by decide, Nat.zero_le _, Nat.zero_le _⟩ (Nat.le_of_ble_eq_true rfl) dX12_readName_58 rfl hn (fun z32 hf => ?_)
        refine V_to [1, 2, 4, 0] rfl ?_
        exact vX12_readName_J61 hn hf
    · have hf := it_t (Classical.not_not.mp h36) hf
      refine V_aload_n (j := 1) dX12_readName_40 rfl rfl ?_
      refine V_iconst (v := (1 : Int32)) dX12_readName_41 (by decide) ?_
      refine V_cVN (ctX12_wrong hn hf) gc_X12_165 rfl h1.1 ⟨_, h1.2, by decide, rfl⟩ ⟨by decide, by decide, Nat.zero_le _, Nat.zero_le _⟩ (Nat.le_of_ble_eq_true rfl) dX12_readName_42 rfl hn (fun z35 hf => ?_)
      refine V_goto (tgt := 61) dX12_readName_45 (by decide) ?_
      refine V_to [1, 2, 4, 0] rfl ?_
      exact vX12_readName_J61 hn hf
  · have hf := it_t (Classical.not_not.mp h39) hf
    refine V_aload_n (j := 1) dX12_readName_17 rfl rfl ?_
    refine V_iconst (v := (5 : Int32)) dX12_readName_18 (by decide) ?_
    refine V_cVN (ctX12_wrong hn hf) gc_X12_165 rfl h1.1 ⟨_, h1.2, by decide, rfl⟩ ⟨by decide, by decide, Nat.zero_le _, Nat.zero_le _⟩ (Nat.le_of_ble_eq_true rfl) dX12_readName_19 rfl hn (fun z38 hf => ?_)
    exact V_return dX12_readName_22 rfl (Nat.le_refl 0) (kN_of hf)
def wX12_readPane_J125 (n : Nat) (sh : Nat → Nat × Nat) (P : gS → Prop) (a0 : Nat) (x1 : Int32) (x2 : Int32) (x3 : Int32) (x4 : Int32) (z : gS) : Prop := (oO n sh a0 8) ∧ (if (gi z a0 8) = 0 then (∃ t16 : Nat, gr z a0 10 = some t16 ∧ ((oA n sh t16 1) ∧ ((vp_in x1 (sh t16).2) ∧ (∀ z19 : gS, z19 = si z t16 x1.toNatClampNeg x2 → (∃ t20 : Nat, gr z19 a0 10 = some t20 ∧ ((oA n sh t20 1) ∧ ((vp_in (x1 + (1 : Int32)) (sh t20).2) ∧ (∀ z23 : gS, z23 = si z19 t20 (x1 + (1 : Int32)).toNatClampNeg x3 → (∃ t24 : Nat, gr z23 a0 10 = some t24 ∧ ((oA n sh t24 1) ∧ ((vp_in (x1 + (2 : Int32)) (sh t24).2) ∧ (∀ z27 : gS, z27 = si z23 t24 (x1 + (2 : Int32)).toNatClampNeg x4 → P z27)))))))))))) else P z)
set_option maxRecDepth 100000 in
set_option maxHeartbeats 4000000 in
theorem vX12_readPane_J125 {E : gE} {n : Nat} {sh : Nat → Nat × Nat} {P : gS → Prop} {a0 : Nat} {x1 : Int32} {x2 : Int32} {x3 : Int32} {x4 : Int32} {z : gS} (hn : gOK E n) (hf : wX12_readPane_J125 n sh P a0 x1 x2 x3 x4 z) : V E (gR 4 0) gyX12_readPane 0 0 125 [(0, .ref a0), (1, .int x1), (2, .int x2), (3, .int x3), (4, .int x4)] [] n sh z (kN n sh P) := by
  unfold wX12_readPane_J125 at hf
  refine V_aload_n (j := 0) dX12_readPane_125 rfl rfl ?_
  obtain ⟨h15, hf⟩ := hf
  refine V_getI fl_X12_159 rfl h15.1 h15.2 dX12_readPane_126 ?_
  refine V_if_ne (tgt := 158) dX12_readPane_129 (by decide) (fun h28 => ?_) (fun h28 => ?_)
  · have hf := it_f h28 hf
    exact V_return dX12_readPane_158 rfl (Nat.le_refl 0) (kN_of hf)
  · have hf := it_t (Classical.not_not.mp h28) hf
    refine V_aload_n (j := 0) dX12_readPane_132 rfl rfl ?_
    obtain ⟨t16, et16, hf⟩ := hf
    refine V_getR fl_X12_89 rfl h15.1 h15.2 et16 dX12_readPane_133 ?_
    refine V_iload_n (j := 1) dX12_readPane_136 rfl rfl ?_
    refine V_iload_n (j := 2) dX12_readPane_137 rfl rfl ?_
    obtain ⟨h17, hf⟩ := hf
    obtain ⟨h18, hf⟩ := hf
    refine V_iast h17.1 h17.s h18 dX12_readPane_138 ?_
    refine V_nz (fun z19 ez19 => ?_)
    have hf := hf z19 ez19
    refine V_aload_n (j := 0) dX12_readPane_139 rfl rfl ?_
    obtain ⟨t20, et20, hf⟩ := hf
    refine V_getR fl_X12_89 rfl h15.1 h15.2 et20 dX12_readPane_140 ?_
    refine V_iload_n (j := 1) dX12_readPane_143 rfl rfl ?_
    refine V_iconst (v := (1 : Int32)) dX12_readPane_144 (by decide) ?_
    refine V_iadd dX12_readPane_145 ?_
    refine V_iload_n (j := 3) dX12_readPane_146 rfl rfl ?_
    obtain ⟨h21, hf⟩ := hf
    obtain ⟨h22, hf⟩ := hf
    refine V_iast h21.1 h21.s h22 dX12_readPane_147 ?_
    refine V_nz (fun z23 ez23 => ?_)
    have hf := hf z23 ez23
    refine V_aload_n (j := 0) dX12_readPane_148 rfl rfl ?_
    obtain ⟨t24, et24, hf⟩ := hf
    refine V_getR fl_X12_89 rfl h15.1 h15.2 et24 dX12_readPane_149 ?_
    refine V_iload_n (j := 1) dX12_readPane_152 rfl rfl ?_
    refine V_iconst (v := (2 : Int32)) dX12_readPane_153 (by decide) ?_
    refine V_iadd dX12_readPane_154 ?_
    refine V_iload (j := 4) dX12_readPane_155 rfl ?_
    obtain ⟨h25, hf⟩ := hf
    obtain ⟨h26, hf⟩ := hf
    refine V_iast h25.1 h25.s h26 dX12_readPane_157 ?_
    refine V_nz (fun z27 ez27 => ?_)
    have hf := hf z27 ez27
    exact V_return dX12_readPane_158 rfl (Nat.le_refl 0) (kN_of hf)
def wX12_readPane_J113 (n : Nat) (sh : Nat → Nat × Nat) (k46 : Nat → Int32 → Int32 → Int32 → Int32 → gS → Prop) (P : gS → Prop) (a0 : Nat) (x1 : Int32) (x2 : Int32) (x3 : Int32) (x4 : Int32) (x5 : Int32) (z : gS) : Prop := ∀ v32 : Int32, v32 = (x4 ||| ((1 : Int32) <<< (x5 &&& 31))) → k46 a0 x1 x2 x3 v32 z
set_option maxRecDepth 100000 in
set_option maxHeartbeats 4000000 in
theorem vX12_readPane_J113 {E : gE} {n : Nat} {sh : Nat → Nat × Nat} {P : gS → Prop} {k46 : Nat → Int32 → Int32 → Int32 → Int32 → gS → Prop} {a0 : Nat} {x1 : Int32} {x2 : Int32} {x3 : Int32} {x4 : Int32} {x5 : Int32} {z : gS} (hn : gOK E n) (hk46 : ∀ (a0 : Nat) (x1 : Int32) (x2 : Int32) (x3 : Int32) (x4 : Int32) (z : gS), k46 a0 x1 x2 x3 x4 z → V E (gR 4 0) gyX12_readPane 0 0 46 [(0, .ref a0), (1, .int x1), (2, .int x2), (3, .int x3), (4, .int x4)] [] n sh z (kN n sh P)) (hf : wX12_readPane_J113 n sh k46 P a0 x1 x2 x3 x4 x5 z) : V E (gR 4 0) gyX12_readPane 0 0 113 [(0, .ref a0), (1, .int x1), (2, .int x2), (3, .int x3), (4, .int x4), (5, .int x5)] [] n sh z (kN n sh P) := by
  unfold wX12_readPane_J113 at hf
  refine V_iload (j := 4) dX12_readPane_113 rfl ?_
  refine V_iconst (v := (1 : Int32)) dX12_readPane_115 (by decide) ?_
  refine V_iload (j := 5) dX12_readPane_116 rfl ?_
  refine V_ishl dX12_readPane_118 ?_
  refine V_ior dX12_readPane_119 ?_
  refine V_nI (fun v32 ev32 => ?_)
  have hf := hf v32 ev32
  refine V_istore (ls2 := [(4, .int v32), (0, .ref a0), (1, .int x1), (2, .int x2), (3, .int x3), (5, .int x5)]) dX12_readPane_120 (by decide) rfl ?_
  refine V_goto (tgt := 46) dX12_readPane_122 (by decide) ?_
  refine V_to [1, 2, 3, 4, 0] rfl ?_
  exact hk46 _ _ _ _ _ _ hf
def wX12_readPane_J71 (n : Nat) (sh : Nat → Nat × Nat) (k46 : Nat → Int32 → Int32 → Int32 → Int32 → gS → Prop) (P : gS → Prop) (a0 : Nat) (x1 : Int32) (x2 : Int32) (x3 : Int32) (x4 : Int32) (z : gS) : Prop := (oO n sh a0 8) ∧ (wX12_takeNumber n sh a0 (0 : Int32) (9 : Int32) z (fun (r29 : Int32) (z30 : gS) => if (gi z30 a0 8) = 0 then (if ((x4 >>> (r29 &&& 31)) &&& (1 : Int32)) = (1 : Int32) then (∀ z33 : gS, z33 = si z30 a0 7 ((gi z30 a0 7) - (1 : Int32)) → (wX12_wrong n sh a0 (3 : Int32) z33 (fun (z35 : gS) => wX12_readPane_J113 n sh k46 P a0 x1 x2 x3 x4 r29 z35))) else wX12_readPane_J113 n sh k46 P a0 x1 x2 x3 x4 r29 z30) else wX12_readPane_J113 n sh k46 P a0 x1 x2 x3 x4 r29 z30))
set_option maxRecDepth 100000 in
set_option maxHeartbeats 4000000 in
theorem vX12_readPane_J71 {E : gE} {n : Nat} {sh : Nat → Nat × Nat} {P : gS → Prop} {k46 : Nat → Int32 → Int32 → Int32 → Int32 → gS → Prop} {a0 : Nat} {x1 : Int32} {x2 : Int32} {x3 : Int32} {x4 : Int32} {z : gS} (hn : gOK E n) (hk46 : ∀ (a0 : Nat) (x1 : Int32) (x2 : Int32) (x3 : Int32) (x4 : Int32) (z : gS), k46 a0 x1 x2 x3 x4 z → V E (gR 4 0) gyX12_readPane 0 0 46 [(0, .ref a0), (1, .int x1), (2, .int x2), (3, .int x3), (4, .int x4)] [] n sh z (kN n sh P)) (hf : wX12_readPane_J71 n sh k46 P a0 x1 x2 x3 x4 z) : V E (gR 4 0) gyX12_readPane 0 0 71 [(0, .ref a0), (1, .int x1), (2, .int x2), (3, .int x3), (4, .int x4)] [] n sh z (kN n sh P) := by
  unfold wX12_readPane_J71 at hf
  refine V_aload_n (j := 0) dX12_readPane_71 rfl rfl ?_
  refine V_iconst (v := (0 : Int32)) dX12_readPane_72 (by decide) ?_
  refine V_bipush (v := (9 : Int32)) dX12_readPane_73 (by decide) ?_
  obtain ⟨h31, hf⟩ := hf
  refine V_cVI (ctX12_takeNumber hn hf) gc_X12_177 rfl h31.1 ⟨_, h31.2, by decide, rfl⟩ ⟨by decide, by decide, Nat.zero_le _, Nat.zero_le _⟩ (Nat.le_of_ble_eq_true rfl) dX12_readPane_75 rfl hn (fun r29 z30 hf => ?_)
  refine V_istore (ls2 := [(5, .int r29), (0, .ref a0), (1, .int x1), (2, .int x2), (3, .int x3), (4, .int x4)]) dX12_readPane_78 (by decide) rfl ?_
  refine V_aload_n (j := 1) dX12_readPane_80 rfl rfl ?_
  refine V_getI fl_X12_159 rfl h31.1 h31.2 dX12_readPane_81 ?_
  refine V_if_ne (tgt := 113) dX12_readPane_84 (by decide) (fun h37 => ?_) (fun h37 => ?_)
  · have hf := it_f h37 hf
    refine V_to [1, 2, 3, 4, 5, 0] rfl ?_
    exact vX12_readPane_J113 hn hk46 hf
  · have hf := it_t (Classical.not_not.mp h37) hf
    refine V_iload (j := 5) dX12_readPane_87 rfl ?_
    refine V_iload (j := 0) dX12_readPane_89 rfl ?_
    refine V_ishr dX12_readPane_91 ?_
    refine V_iconst (v := (1 : Int32)) dX12_readPane_92 (by decide) ?_
    refine V_iand dX12_readPane_93 ?_
    refine V_iconst (v := (1 : Int32)) dX12_readPane_94 (by decide) ?_
    refine V_icmp_ne (tgt := 113) dX12_readPane_95 (by decide) (fun h36 => ?_) (fun h36 => ?_)
    · have hf := it_f h36 hf
      refine V_to [1, 2, 3, 4, 5, 0] rfl ?_
      exact vX12_readPane_J113 hn hk46 hf
    · have hf := it_t (Classical.not_not.mp h36) hf
      refine V_aload_n (j := 1) dX12_readPane_98 rfl rfl ?_
      refine V_dup dX12_readPane_99 rfl ?_
      refine V_getI fl_X12_156 rfl h31.1 h31.2 dX12_readPane_100 ?_
      refine V_iconst (v := (1 : Int32)) dX12_readPane_103 (by decide) ?_
      refine V_isub dX12_readPane_104 ?_
      refine V_putI fl_X12_156 rfl rfl rfl rfl h31.1 h31.2 dX12_readPane_105 ?_
      refine V_nz (fun z33 ez33 => ?_)
      have hf := hf z33 ez33
      refine V_aload_n (j := 1) dX12_readPane_108 rfl rfl ?_
      refine V_iconst (v := (3 : Int32)) dX12_readPane_109 (by decide) ?_
      refine V_cVN (ctX12_wrong hn hf) gc_X12_165 rfl h31.1 ⟨_, h31.2, by decide, rfl⟩ ⟨by decide, by decide, Nat.zero_le _, Nat.zero_le _⟩ (Nat.le_of_ble_eq_true rfl) dX12_readPane_110 rfl hn (fun z35 hf => ?_)
      refine V_to [1, 2, 3, 4, 5, 0] rfl ?_
      exact vX12_readPane_J113 hn hk46 hf
def wX12_readPane_B46 (n : Nat) (sh : Nat → Nat × Nat) (k46 : Nat → Int32 → Int32 → Int32 → Int32 → gS → Prop) (P : gS → Prop) (a0 : Nat) (x1 : Int32) (x2 : Int32) (x3 : Int32) (x4 : Int32) (z : gS) : Prop := (oO n sh a0 8) ∧ (if (gi z a0 8) = 0 then (if x4 = 0 then wX12_readPane_J71 n sh k46 P a0 x1 x2 x3 x4 z else (∃ t38 : Nat, gr z a0 4 = some t38 ∧ ((oA n sh t38 1) ∧ ((vp_in (gi z a0 7) (sh t38).2) ∧ (if (gi z t38 (gi z a0 7).toNatClampNeg) = (2 : Int32) then wX12_readPane_J71 n sh k46 P a0 x1 x2 x3 x4 z else wX12_readPane_J125 n sh P a0 x1 x2 x3 x4 z))))) else wX12_readPane_J125 n sh P a0 x1 x2 x3 x4 z)
def wX12_readPane_L46 (n : Nat) (sh : Nat → Nat × Nat) (P : gS → Prop) : Nat → Nat → Int32 → Int32 → Int32 → Int32 → gS → Prop
  | 0, _, _, _, _, _, _ => False
  | N + 1, a0, x1, x2, x3, x4, z => wX12_readPane_B46 n sh (wX12_readPane_L46 n sh P N) P a0 x1 x2 x3 x4 z
set_option maxRecDepth 100000 in
set_option maxHeartbeats 4000000 in
theorem vX12_readPane_B46 {E : gE} {n : Nat} {sh : Nat → Nat × Nat} {P : gS → Prop} {k46 : Nat → Int32 → Int32 → Int32 → Int32 → gS → Prop} {a0 : Nat} {x1 : Int32} {x2 : Int32} {x3 : Int32} {x4 : Int32} {z : gS} (hn : gOK E n) (hk46 : ∀ (a0 : Nat) (x1 : Int32) (x2 : Int32) (x3 : Int32) (x4 : Int32) (z : gS), k46 a0 x1 x2 x3 x4 z → V E (gR 4 0) gyX12_readPane 0 0 46 [(0, .ref a0), (1, .int x1), (2, .int x2), (3, .int x3), (4, .int x4)] [] n sh z (kN n sh P)) (hf : wX12_readPane_B46 n sh k46 P a0 x1 x2 x3 x4 z) : V E (gR 4 0) gyX12_readPane 0 0 46 [(0, .ref a0), (1, .int x1), (2, .int x2), (3, .int x3), (4, .int x4)] [] n sh z (kN n sh P) := by
  unfold wX12_readPane_B46 at hf
  refine V_aload_n (j := 0) dX12_readPane_46 rfl rfl ?_
  obtain ⟨h14, hf⟩ := hf
  refine V_getI fl_X12_159 rfl h14.1 h14.2 dX12_readPane_47 ?_
  refine V_if_ne (tgt := 125) dX12_readPane_50 (by decide) (fun h43 => ?_) (fun h43 => ?_)
  · have hf := it_f h43 hf
    exact vX12_readPane_J125 hn hf
  · have hf := it_t (Classical.not_not.mp h43) hf
    refine V_iload (j := 4) dX12_readPane_53 rfl ?_
    refine V_if_eq (tgt := 71) dX12_readPane_55 (by decide) (fun h42 => ?_) (fun h42 => ?_)
    · have hf := it_t h42 hf
      exact vX12_readPane_J71 hn hk46 hf
    · have hf := it_f h42 hf
      refine V_aload_n (j := 0) dX12_readPane_58 rfl rfl ?_
      obtain ⟨t38, et38, hf⟩ := hf
      refine V_getR fl_X12_24 rfl h14.1 h14.2 et38 dX12_readPane_59 ?_
      refine V_aload_n (j := 0) dX12_readPane_62 rfl rfl ?_
      refine V_getI fl_X12_156 rfl h14.1 h14.2 dX12_readPane_63 ?_
      obtain ⟨h39, hf⟩ := hf
      obtain ⟨h40, hf⟩ := hf
      refine V_iald h39.1 h39.s h40 dX12_readPane_66 ?_
      refine V_iconst (v := (2 : Int32)) dX12_readPane_67 (by decide) ?_
      refine V_icmp_ne (tgt := 125) dX12_readPane_68 (by decide) (fun h41 => ?_) (fun h41 => ?_)
      · have hf := it_f h41 hf
        exact vX12_readPane_J125 hn hf
      · have hf := it_t (Classical.not_not.mp h41) hf
        exact vX12_readPane_J71 hn hk46 hf
set_option maxRecDepth 100000 in
set_option maxHeartbeats 4000000 in
theorem vX12_readPane_L46 {E : gE} {n : Nat} {sh : Nat → Nat × Nat} {P : gS → Prop} (hn : gOK E n) : ∀ (N : Nat) (a0 : Nat) (x1 : Int32) (x2 : Int32) (x3 : Int32) (x4 : Int32) (z : gS), wX12_readPane_L46 n sh P N a0 x1 x2 x3 x4 z → V E (gR 4 0) gyX12_readPane 0 0 46 [(0, .ref a0), (1, .int x1), (2, .int x2), (3, .int x3), (4, .int x4)] [] n sh z (kN n sh P) := by
  intro N
  induction N with
  | zero => intro a0 x1 x2 x3 x4 z hf; exact False.elim hf
  | succ N ih => intro a0 x1 x2 x3 x4 z hf; exact vX12_readPane_B46 hn ih hf
def wX12_readPane (n : Nat) (sh : Nat → Nat × Nat) (a0 : Nat) (z : gS) (P : gS → Prop) : Prop := (oO n sh a0 8) ∧ (∃ t2 : Nat, gr z a0 10 = some t2 ∧ ((oA n sh t2 1) ∧ ((vp_in (60 : Int32) (sh t2).2) ∧ (∀ v5 : Int32, v5 = ((65 : Int32) + ((3 : Int32) * (gi z t2 (60 : Int32).toNatClampNeg))) → (wX12_readName n sh a0 (0 : Int32) (6 : Int32) (0 : Int32) z (fun (z7 : gS) => wX12_takeOne n sh a0 (15 : Int32) (4 : Int32) z7 (fun (r8 : Int32) (z9 : gS) => wX12_takeAfter n sh a0 (1 : Int32) (1 : Int32) (6 : Int32) z9 (fun (r10 : Int32) (z11 : gS) => wX12_takeWord n sh a0 (2 : Int32) z11 (fun (z13 : gS) => (∃ N, wX12_readPane_L46 n sh P N a0 v5 r8 r10 (0 : Int32) z13))))))))))
set_option maxRecDepth 100000 in
set_option maxHeartbeats 4000000 in
theorem ctX12_readPane {E : gE} {n : Nat} {sh : Nat → Nat × Nat} {a0 : Nat} {z : gS} {P : gS → Prop} (hn : gOK E n) (hf : wX12_readPane n sh a0 z P) : VM E 4 0 gyX12_readPane [.ref a0] n sh z (kN n sh P) := by
  unfold wX12_readPane at hf
  refine VM.of (by decide +kernel) (Nat.le_of_ble_eq_true rfl) (fun _ _ _ h => h.2.2) ?_
  show V E (gR 4 0) gyX12_readPane 0 0 0 [(0, .ref a0)] [] n sh z (kN n sh P)
  refine V_bipush (v := (65 : Int32)) dX12_readPane_0 (by decide) ?_
  refine V_iconst (v := (3 : Int32)) dX12_readPane_2 (by decide) ?_
  refine V_aload_n (j := 0) dX12_readPane_3 rfl rfl ?_
  obtain ⟨h1, hf⟩ := hf
  obtain ⟨t2, et2, hf⟩ := hf
  refine V_getR fl_X12_89 rfl h1.1 h1.2 et2 dX12_readPane_4 ?_
  refine V_bipush (v := (60 : Int32)) dX12_readPane_7 (by decide) ?_
  obtain ⟨h3, hf⟩ := hf
  obtain ⟨h4, hf⟩ := hf
  refine V_iald h3.1 h3.s h4 dX12_readPane_9 ?_
  refine V_imul dX12_readPane_10 ?_
  refine V_iadd dX12_readPane_11 ?_
  refine V_nI (fun v5 ev5 => ?_)
  have hf := hf v5 ev5
  refine V_istore_n (ls2 := [(1, .int v5), (0, .ref a0)]) dX12_readPane_12 rfl (by decide) rfl ?_
  refine V_aload_n (j := 1) dX12_readPane_13 rfl rfl ?_
  refine V_iconst (v := (0 : Int32)) dX12_readPane_14 (by decide) ?_
  refine V_bipush (v := (6 : Int32)) dX12_readPane_15 (by decide) ?_
  refine V_iconst (v := (0 : Int32)) dX12_readPane_17 (by decide) ?_
  refine V_cVN (ctX12_readName hn hf) gc_X12_220 rfl h1.1 ⟨_, h1.2, by decide, rfl⟩ ⟨by decide, by decide, Nat.zero_le _, Nat.zero_le _⟩ (Nat.le_of_ble_eq_true rfl) dX12_readPane_18 rfl hn (fun z7 hf => ?_)
  refine V_aload_n (j := 1) dX12_readPane_21 rfl rfl ?_
  refine V_bipush (v := (15 : Int32)) dX12_readPane_22 (by decide) ?_
  refine V_iconst (v := (4 : Int32)) dX12_readPane_24 (by decide) ?_
  refine V_cVI (ctX12_takeOne hn hf) gc_X12_231 rfl h1.1 ⟨_, h1.2, by decide, rfl⟩ ⟨by decide, by decide, Nat.zero_le _, Nat.zero_le _⟩ (Nat.le_of_ble_eq_true rfl) dX12_readPane_25 rfl hn (fun r8 z9 hf => ?_)
  refine V_istore_n (ls2 := [(2, .int r8), (1, .int v5), (0, .ref a0)]) dX12_readPane_28 rfl (by decide) rfl ?_
  refine V_aload_n (j := 2) dX12_readPane_29 rfl rfl ?_
  refine V_iconst (v := (1 : Int32)) dX12_readPane_30 (by decide) ?_
  refine V_iconst (v := (1 : Int32)) dX12_readPane_31 (by decide) ?_
  refine V_bipush (v := (6 : Int32)) dX12_readPane_32 (by decide) ?_
  refine V_cVI (ctX12_takeAfter hn hf) gc_X12_224 rfl h1.1 ⟨_, h1.2, by decide, rfl⟩ ⟨by decide, by decide, Nat.zero_le _, Nat.zero_le _⟩ (Nat.le_of_ble_eq_true rfl) dX12_readPane_34 rfl hn (fun r10 z11 hf => ?_)
  refine V_istore_n (ls2 := [(3, .int r10), (2, .int r8), (1, .int v5), (0, .ref a0)]) dX12_readPane_37 rfl (by decide) rfl ?_
  refine V_aload_n (j := 3) dX12_readPane_38 rfl rfl ?_
  refine V_iconst (v := (2 : Int32)) dX12_readPane_39 (by decide) ?_
  refine V_cVN (ctX12_takeWord hn hf) gc_X12_174 rfl h1.1 ⟨_, h1.2, by decide, rfl⟩ ⟨by decide, by decide, Nat.zero_le _, Nat.zero_le _⟩ (Nat.le_of_ble_eq_true rfl) dX12_readPane_40 rfl hn (fun z13 hf => ?_)
  refine V_iconst (v := (0 : Int32)) dX12_readPane_43 (by decide) ?_
  refine V_istore (ls2 := [(4, .int (0 : Int32)), (3, .int r10), (2, .int r8), (1, .int v5), (0, .ref a0)]) dX12_readPane_44 (by decide) rfl ?_
  obtain ⟨N, hf⟩ := hf
  refine V_to [4, 3, 2, 1, 0] rfl ?_
  exact vX12_readPane_L46 hn N _ _ _ _ _ _ hf
def wX12_readLight_J87 (n : Nat) (sh : Nat → Nat × Nat) (P : gS → Prop) (a0 : Nat) (x1 : Int32) (z : gS) : Prop := (oO n sh a0 8) ∧ (∃ t3 : Nat, gr z a0 10 = some t3 ∧ ((oA n sh t3 1) ∧ ((vp_in (63 : Int32) (sh t3).2) ∧ (∀ z6 : gS, z6 = si z t3 (63 : Int32).toNatClampNeg x1 → P z6))))
set_option maxRecDepth 100000 in
set_option maxHeartbeats 4000000 in
theorem vX12_readLight_J87 {E : gE} {n : Nat} {sh : Nat → Nat × Nat} {P : gS → Prop} {a0 : Nat} {x1 : Int32} {z : gS} (hn : gOK E n) (hf : wX12_readLight_J87 n sh P a0 x1 z) : V E (gR 2 0) gyX12_readLight 0 0 87 [(0, .ref a0), (1, .int x1)] [] n sh z (kN n sh P) := by
  unfold wX12_readLight_J87 at hf
  refine V_aload_n (j := 0) dX12_readLight_87 rfl rfl ?_
  obtain ⟨h2, hf⟩ := hf
  obtain ⟨t3, et3, hf⟩ := hf
  refine V_getR fl_X12_89 rfl h2.1 h2.2 et3 dX12_readLight_88 ?_
  refine V_bipush (v := (63 : Int32)) dX12_readLight_91 (by decide) ?_
  refine V_iload_n (j := 1) dX12_readLight_93 rfl rfl ?_
  obtain ⟨h4, hf⟩ := hf
  obtain ⟨h5, hf⟩ := hf
  refine V_iast h4.1 h4.s h5 dX12_readLight_94 ?_
  refine V_nz (fun z6 ez6 => ?_)
  have hf := hf z6 ez6
  exact V_return dX12_readLight_95 rfl (Nat.le_refl 0) (kN_of hf)
def wX12_readLight_J84 (n : Nat) (sh : Nat → Nat × Nat) (k2 : Nat → Int32 → gS → Prop) (P : gS → Prop) (a0 : Nat) (x1 : Int32) (z : gS) : Prop := k2 a0 x1 z
set_option maxRecDepth 100000 in
set_option maxHeartbeats 4000000 in
theorem vX12_readLight_J84 {E : gE} {n : Nat} {sh : Nat → Nat × Nat} {P : gS → Prop} {k2 : Nat → Int32 → gS → Prop} {a0 : Nat} {x1 : Int32} {z : gS} (hn : gOK E n) (hk2 : ∀ (a0 : Nat) (x1 : Int32) (z : gS), k2 a0 x1 z → V E (gR 2 0) gyX12_readLight 0 0 2 [(0, .ref a0), (1, .int x1)] [] n sh z (kN n sh P)) (hf : wX12_readLight_J84 n sh k2 P a0 x1 z) : V E (gR 2 0) gyX12_readLight 0 0 84 [(0, .ref a0), (1, .int x1)] [] n sh z (kN n sh P) := by
  unfold wX12_readLight_J84 at hf
  refine V_goto (tgt := 2) dX12_readLight_84 (by decide) ?_
  exact hk2 _ _ _ hf
def wX12_readLight_J64 (n : Nat) (sh : Nat → Nat × Nat) (k2 : Nat → Int32 → gS → Prop) (P : gS → Prop) (a0 : Nat) (x1 : Int32) (x2 : Int32) (z : gS) : Prop := (oO n sh a0 8) ∧ (if (gi z a0 8) = 0 then (∃ t11 : Nat, gr z a0 10 = some t11 ∧ ((oA n sh t11 1) ∧ ((vp_in ((93 : Int32) + x1) (sh t11).2) ∧ (∀ z14 : gS, z14 = si z t11 ((93 : Int32) + x1).toNatClampNeg x2 → (∀ v15 : Int32, v15 = x1 + (1 : Int32) → wX12_readLight_J84 n sh k2 P a0 v15 z14))))) else wX12_readLight_J84 n sh k2 P a0 x1 z)
set_option maxRecDepth 100000 in
set_option maxHeartbeats 4000000 in
theorem vX12_readLight_J64 {E : gE} {n : Nat} {sh : Nat → Nat × Nat} {P : gS → Prop} {k2 : Nat → Int32 → gS → Prop} {a0 : Nat} {x1 : Int32} {x2 : Int32} {z : gS} (hn : gOK E n) (hk2 : ∀ (a0 : Nat) (x1 : Int32) (z : gS), k2 a0 x1 z → V E (gR 2 0) gyX12_readLight 0 0 2 [(0, .ref a0), (1, .int x1)] [] n sh z (kN n sh P)) (hf : wX12_readLight_J64 n sh k2 P a0 x1 x2 z) : V E (gR 2 0) gyX12_readLight 0 0 64 [(0, .ref a0), (1, .int x1), (2, .int x2)] [] n sh z (kN n sh P) := by
  unfold wX12_readLight_J64 at hf
  refine V_aload_n (j := 0) dX12_readLight_64 rfl rfl ?_
  obtain ⟨h10, hf⟩ := hf
  refine V_getI fl_X12_159 rfl h10.1 h10.2 dX12_readLight_65 ?_
  refine V_if_ne (tgt := 84) dX12_readLight_68 (by decide) (fun h16 => ?_) (fun h16 => ?_)
  · have hf := it_f h16 hf
    refine V_to [0, 1] rfl ?_
    exact vX12_readLight_J84 hn hk2 hf
  · have hf := it_t (Classical.not_not.mp h16) hf
    refine V_aload_n (j := 0) dX12_readLight_71 rfl rfl ?_
    obtain ⟨t11, et11, hf⟩ := hf
    refine V_getR fl_X12_89 rfl h10.1 h10.2 et11 dX12_readLight_72 ?_
    refine V_bipush (v := (93 : Int32)) dX12_readLight_75 (by decide) ?_
    refine V_iload_n (j := 1) dX12_readLight_77 rfl rfl ?_
    refine V_iadd dX12_readLight_78 ?_
    refine V_iload_n (j := 2) dX12_readLight_79 rfl rfl ?_
    obtain ⟨h12, hf⟩ := hf
    obtain ⟨h13, hf⟩ := hf
    refine V_iast h12.1 h12.s h13 dX12_readLight_80 ?_
    refine V_nz (fun z14 ez14 => ?_)
    have hf := hf z14 ez14
    obtain ⟨v15, ev15⟩ : ∃ y : Int32, y = x1 + (1 : Int32) := ⟨_, rfl⟩
    refine V_iinc (j := 1) (v := v15) (ls2 := [(1, .int v15), (0, .ref a0), (2, .int x2)]) dX12_readLight_81 rfl (by rw [ev15]; rfl) (by decide) rfl ?_
    have hf := hf v15 ev15
    refine V_to [1, 0] rfl ?_
    exact vX12_readLight_J84 hn hk2 hf
def wX12_readLight_J26 (n : Nat) (sh : Nat → Nat × Nat) (k2 : Nat → Int32 → gS → Prop) (P : gS → Prop) (a0 : Nat) (x1 : Int32) (z : gS) : Prop := (oO n sh a0 8) ∧ (wX12_takeNumber n sh a0 (0 : Int32) (1 : Int32) z (fun (r7 : Int32) (z8 : gS) => if (gi z8 a0 8) = 0 then (if x1 = (12 : Int32) then (∀ z17 : gS, z17 = si z8 a0 7 ((gi z8 a0 7) - (1 : Int32)) → (wX12_wrong n sh a0 (5 : Int32) z17 (fun (z19 : gS) => wX12_readLight_J84 n sh k2 P a0 x1 z19))) else wX12_readLight_J64 n sh k2 P a0 x1 r7 z8) else wX12_readLight_J64 n sh k2 P a0 x1 r7 z8))
set_option maxRecDepth 100000 in
set_option maxHeartbeats 4000000 in
theorem vX12_readLight_J26 {E : gE} {n : Nat} {sh : Nat → Nat × Nat} {P : gS → Prop} {k2 : Nat → Int32 → gS → Prop} {a0 : Nat} {x1 : Int32} {z : gS} (hn : gOK E n) (hk2 : ∀ (a0 : Nat) (x1 : Int32) (z : gS), k2 a0 x1 z → V E (gR 2 0) gyX12_readLight 0 0 2 [(0, .ref a0), (1, .int x1)] [] n sh z (kN n sh P)) (hf : wX12_readLight_J26 n sh k2 P a0 x1 z) : V E (gR 2 0) gyX12_readLight 0 0 26 [(0, .ref a0), (1, .int x1)] [] n sh z (kN n sh P) := by
  unfold wX12_readLight_J26 at hf
  refine V_aload_n (j := 0) dX12_readLight_26 rfl rfl ?_
  refine V_iconst (v := (0 : Int32)) dX12_readLight_27 (by decide) ?_
  refine V_iconst (v := (1 : Int32)) dX12_readLight_28 (by decide) ?_
  obtain ⟨h9, hf⟩ := hf
  refine V_cVI (ctX12_takeNumber hn hf) gc_X12_177 rfl h9.1 ⟨_, h9.2, by decide, rfl⟩ ⟨by decide, by decide, Nat.zero_le _, Nat.zero_le _⟩ (Nat.le_of_ble_eq_true rfl) dX12_readLight_29 rfl hn (fun r7 z8 hf => ?_)
  refine V_istore_n (ls2 := [(2, .int r7), (0, .ref a0), (1, .int x1)]) dX12_readLight_32 rfl (by decide) rfl ?_
  refine V_aload_n (j := 1) dX12_readLight_33 rfl rfl ?_
  refine V_getI fl_X12_159 rfl h9.1 h9.2 dX12_readLight_34 ?_
  refine V_if_ne (tgt := 64) dX12_readLight_37 (by decide) (fun h21 => ?_) (fun h21 => ?_)
  · have hf := it_f h21 hf
    refine V_to [1, 2, 0] rfl ?_
    exact vX12_readLight_J64 hn hk2 hf
  · have hf := it_t (Classical.not_not.mp h21) hf
    refine V_iload_n (j := 2) dX12_readLight_40 rfl rfl ?_
    refine V_bipush (v := (12 : Int32)) dX12_readLight_41 (by decide) ?_
    refine V_icmp_ne (tgt := 64) dX12_readLight_43 (by decide) (fun h20 => ?_) (fun h20 => ?_)
    · have hf := it_f h20 hf
      refine V_to [1, 2, 0] rfl ?_
      exact vX12_readLight_J64 hn hk2 hf
    · have hf := it_t (Classical.not_not.mp h20) hf
      refine V_aload_n (j := 1) dX12_readLight_46 rfl rfl ?_
      refine V_dup dX12_readLight_47 rfl ?_
      refine V_getI fl_X12_156 rfl h9.1 h9.2 dX12_readLight_48 ?_
      refine V_iconst (v := (1 : Int32)) dX12_readLight_51 (by decide) ?_
      refine V_isub dX12_readLight_52 ?_
      refine V_putI fl_X12_156 rfl rfl rfl rfl h9.1 h9.2 dX12_readLight_53 ?_
      refine V_nz (fun z17 ez17 => ?_)
      have hf := hf z17 ez17
      refine V_aload_n (j := 1) dX12_readLight_56 rfl rfl ?_
      refine V_iconst (v := (5 : Int32)) dX12_readLight_57 (by decide) ?_
      refine V_cVN (ctX12_wrong hn hf) gc_X12_165 rfl h9.1 ⟨_, h9.2, by decide, rfl⟩ ⟨by decide, by decide, Nat.zero_le _, Nat.zero_le _⟩ (Nat.le_of_ble_eq_true rfl) dX12_readLight_58 rfl hn (fun z19 hf => ?_)
      refine V_goto (tgt := 84) dX12_readLight_61 (by decide) ?_
      refine V_to [1, 2] rfl ?_
      exact vX12_readLight_J84 hn hk2 hf
def wX12_readLight_B2 (n : Nat) (sh : Nat → Nat × Nat) (k2 : Nat → Int32 → gS → Prop) (P : gS → Prop) (a0 : Nat) (x1 : Int32) (z : gS) : Prop := (oO n sh a0 8) ∧ (if (gi z a0 8) = 0 then (if x1 = 0 then wX12_readLight_J26 n sh k2 P a0 x1 z else (∃ t22 : Nat, gr z a0 4 = some t22 ∧ ((oA n sh t22 1) ∧ ((vp_in (gi z a0 7) (sh t22).2) ∧ (if (gi z t22 (gi z a0 7).toNatClampNeg) = (2 : Int32) then wX12_readLight_J26 n sh k2 P a0 x1 z else wX12_readLight_J87 n sh P a0 x1 z))))) else wX12_readLight_J87 n sh P a0 x1 z)
def wX12_readLight_L2 (n : Nat) (sh : Nat → Nat × Nat) (P : gS → Prop) : Nat → Nat → Int32 → gS → Prop
  | 0, _, _, _ => False
  | N + 1, a0, x1, z => wX12_readLight_B2 n sh (wX12_readLight_L2 n sh P N) P a0 x1 z
set_option maxRecDepth 100000 in
set_option maxHeartbeats 4000000 in
theorem vX12_readLight_B2 {E : gE} {n : Nat} {sh : Nat → Nat × Nat} {P : gS → Prop} {k2 : Nat → Int32 → gS → Prop} {a0 : Nat} {x1 : Int32} {z : gS} (hn : gOK E n) (hk2 : ∀ (a0 : Nat) (x1 : Int32) (z : gS), k2 a0 x1 z → V E (gR 2 0) gyX12_readLight 0 0 2 [(0, .ref a0), (1, .int x1)] [] n sh z (kN n sh P)) (hf : wX12_readLight_B2 n sh k2 P a0 x1 z) : V E (gR 2 0) gyX12_readLight 0 0 2 [(0, .ref a0), (1, .int x1)] [] n sh z (kN n sh P) := by
  unfold wX12_readLight_B2 at hf
  refine V_aload_n (j := 0) dX12_readLight_2 rfl rfl ?_
  obtain ⟨h1, hf⟩ := hf
  refine V_getI fl_X12_159 rfl h1.1 h1.2 dX12_readLight_3 ?_
  refine V_if_ne (tgt := 87) dX12_readLight_6 (by decide) (fun h27 => ?_) (fun h27 => ?_)
  · have hf := it_f h27 hf
    exact vX12_readLight_J87 hn hf
  · have hf := it_t (Classical.not_not.mp h27) hf
    refine V_iload_n (j := 1) dX12_readLight_9 rfl rfl ?_
    refine V_if_eq (tgt := 26) dX12_readLight_10 (by decide) (fun h26 => ?_) (fun h26 => ?_)
    · have hf := it_t h26 hf
      exact vX12_readLight_J26 hn hk2 hf
    · have hf := it_f h26 hf
      refine V_aload_n (j := 0) dX12_readLight_13 rfl rfl ?_
      obtain ⟨t22, et22, hf⟩ := hf
      refine V_getR fl_X12_24 rfl h1.1 h1.2 et22 dX12_readLight_14 ?_
      refine V_aload_n (j := 0) dX12_readLight_17 rfl rfl ?_
      refine V_getI fl_X12_156 rfl h1.1 h1.2 dX12_readLight_18 ?_
      obtain ⟨h23, hf⟩ := hf
      obtain ⟨h24, hf⟩ := hf
      refine V_iald h23.1 h23.s h24 dX12_readLight_21 ?_
      refine V_iconst (v := (2 : Int32)) dX12_readLight_22 (by decide) ?_
      refine V_icmp_ne (tgt := 87) dX12_readLight_23 (by decide) (fun h25 => ?_) (fun h25 => ?_)
      · have hf := it_f h25 hf
        exact vX12_readLight_J87 hn hf
      · have hf := it_t (Classical.not_not.mp h25) hf
        exact vX12_readLight_J26 hn hk2 hf
set_option maxRecDepth 100000 in
set_option maxHeartbeats 4000000 in
theorem vX12_readLight_L2 {E : gE} {n : Nat} {sh : Nat → Nat × Nat} {P : gS → Prop} (hn : gOK E n) : ∀ (N : Nat) (a0 : Nat) (x1 : Int32) (z : gS), wX12_readLight_L2 n sh P N a0 x1 z → V E (gR 2 0) gyX12_readLight 0 0 2 [(0, .ref a0), (1, .int x1)] [] n sh z (kN n sh P) := by
  intro N
  induction N with
  | zero => intro a0 x1 z hf; exact False.elim hf
  | succ N ih => intro a0 x1 z hf; exact vX12_readLight_B2 hn ih hf
def wX12_readLight (n : Nat) (sh : Nat → Nat × Nat) (a0 : Nat) (z : gS) (P : gS → Prop) : Prop := (∃ N, wX12_readLight_L2 n sh P N a0 (0 : Int32) z)
set_option maxRecDepth 100000 in
set_option maxHeartbeats 4000000 in
theorem ctX12_readLight {E : gE} {n : Nat} {sh : Nat → Nat × Nat} {a0 : Nat} {z : gS} {P : gS → Prop} (hn : gOK E n) (hf : wX12_readLight n sh a0 z P) : VM E 2 0 gyX12_readLight [.ref a0] n sh z (kN n sh P) := by
  unfold wX12_readLight at hf
  refine VM.of (by decide +kernel) (Nat.le_of_ble_eq_true rfl) (fun _ _ _ h => h.2.2) ?_
  show V E (gR 2 0) gyX12_readLight 0 0 0 [(0, .ref a0)] [] n sh z (kN n sh P)
  refine V_iconst (v := (0 : Int32)) dX12_readLight_0 (by decide) ?_
  refine V_istore_n (ls2 := [(1, .int (0 : Int32)), (0, .ref a0)]) dX12_readLight_1 rfl (by decide) rfl ?_
  obtain ⟨N, hf⟩ := hf
  refine V_to [1, 0] rfl ?_
  exact vX12_readLight_L2 hn N _ _ _ hf
def wX12_emit (n : Nat) (sh : Nat → Nat × Nat) (a0 : Nat) (x1 : Int32) (x2 : Int32) (z : gS) (P : gS → Prop) : Prop := (oO n sh a0 8) ∧ (∃ t2 : Nat, gr z a0 11 = some t2 ∧ ((oA n sh t2 1) ∧ ((vp_in ((1100 : Int32) + (gi z a0 13)) (sh t2).2) ∧ (∀ z5 : gS, z5 = si z t2 ((1100 : Int32) + (gi z a0 13)).toNatClampNeg x1 → (∃ t6 : Nat, gr z5 a0 12 = some t6 ∧ ((oA n sh t6 1) ∧ ((vp_in ((1100 : Int32) + (gi z5 a0 13)) (sh t6).2) ∧ (∀ z9 : gS, z9 = si z5 t6 ((1100 : Int32) + (gi z5 a0 13)).toNatClampNeg x2 → (∀ z10 : gS, z10 = si z9 a0 13 ((gi z9 a0 13) + (1 : Int32)) → P z10)))))))))
set_option maxRecDepth 100000 in
set_option maxHeartbeats 4000000 in
theorem ctX12_emit {E : gE} {n : Nat} {sh : Nat → Nat × Nat} {a0 : Nat} {x1 : Int32} {x2 : Int32} {z : gS} {P : gS → Prop} (hn : gOK E n) (hf : wX12_emit n sh a0 x1 x2 z P) : VM E 0 0 gyX12_emit [.ref a0, .int x1, .int x2] n sh z (kN n sh P) := by
  unfold wX12_emit at hf
  refine VM.of (by decide +kernel) (Nat.le_of_ble_eq_true rfl) (fun _ _ _ h => h.2.2) ?_
  show V E (gR 0 0) gyX12_emit 0 0 0 [(0, .ref a0), (1, .int x1), (2, .int x2)] [] n sh z (kN n sh P)
  refine V_aload_n (j := 0) dX12_emit_0 rfl rfl ?_
  obtain ⟨h1, hf⟩ := hf
  obtain ⟨t2, et2, hf⟩ := hf
  refine V_getR fl_X12_92 rfl h1.1 h1.2 et2 dX12_emit_1 ?_
  refine V_sipush (v := (1100 : Int32)) dX12_emit_4 (by decide) ?_
  refine V_aload_n (j := 0) dX12_emit_7 rfl rfl ?_
  refine V_getI fl_X12_205 rfl h1.1 h1.2 dX12_emit_8 ?_
  refine V_iadd dX12_emit_11 ?_
  refine V_iload_n (j := 1) dX12_emit_12 rfl rfl ?_
  obtain ⟨h3, hf⟩ := hf
  obtain ⟨h4, hf⟩ := hf
  refine V_iast h3.1 h3.s h4 dX12_emit_13 ?_
  refine V_nz (fun z5 ez5 => ?_)
  have hf := hf z5 ez5
  refine V_aload_n (j := 0) dX12_emit_14 rfl rfl ?_
  obtain ⟨t6, et6, hf⟩ := hf
  refine V_getR fl_X12_95 rfl h1.1 h1.2 et6 dX12_emit_15 ?_
  refine V_sipush (v := (1100 : Int32)) dX12_emit_18 (by decide) ?_
  refine V_aload_n (j := 0) dX12_emit_21 rfl rfl ?_
  refine V_getI fl_X12_205 rfl h1.1 h1.2 dX12_emit_22 ?_
  refine V_iadd dX12_emit_25 ?_
  refine V_iload_n (j := 2) dX12_emit_26 rfl rfl ?_
  obtain ⟨h7, hf⟩ := hf
  obtain ⟨h8, hf⟩ := hf
  refine V_iast h7.1 h7.s h8 dX12_emit_27 ?_
  refine V_nz (fun z9 ez9 => ?_)
  have hf := hf z9 ez9
  refine V_aload_n (j := 0) dX12_emit_28 rfl rfl ?_
  refine V_dup dX12_emit_29 rfl ?_
  refine V_getI fl_X12_205 rfl h1.1 h1.2 dX12_emit_30 ?_
  refine V_iconst (v := (1 : Int32)) dX12_emit_33 (by decide) ?_
  refine V_iadd dX12_emit_34 ?_
  refine V_putI fl_X12_205 rfl rfl rfl rfl h1.1 h1.2 dX12_emit_35 ?_
  refine V_nz (fun z10 ez10 => ?_)
  have hf := hf z10 ez10
  exact V_return dX12_emit_38 rfl (Nat.le_refl 0) (kN_of hf)
