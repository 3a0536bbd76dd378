section GV2
variable {E : gE} {R : Room} {Y : gY} {mc u pc : Nat} {ls : List (Nat × Value)} {st : List Value} {n : Nat} {sh : Nat → Nat × Nat} {z : gS} {K : gK}
theorem V_ldcw {own : String} {idx : Nat} {v : Int32} (hd : decode Y.2.1 pc = .ok (.ldc_w idx, 3)) (ho : Y.1.cls = own) (hw : Cond.constant own idx v ∈ lw_g) (k : V E R Y mc u (pc + 3) ls (.int v :: st) n sh z K) : V E R Y mc u pc ls st n sh z K := fun p e s m args below meth c H locs la Q C hQ hP hS hl hn hu => lv_ldcw C.1 C.2.1 C.2.2.2.2.2.1 (C.2.2.2.2.2.2.1 _ (ho ▸ hw)) hd (k p e s m args below meth c H locs la Q C hQ hP hS hl hn hu)
theorem V_i2b {x : Int32} (hd : decode Y.2.1 pc = .ok (.i2b, 1)) (k : V E R Y mc u (pc + 1) ls (.int (x.toInt8.toInt32) :: st) n sh z K) : V E R Y mc u pc ls (.int x :: st) n sh z K := fun p e s m args below meth c H locs la Q C hQ hP hS hl hn hu => lv_i2b C.1 C.2.1 hd rfl (k p e s m args below meth c H locs la Q C hQ hP hS hl hn hu)
def fS (a : Nat) : Prop := 1000000 ≤ a ∧ a < 1000003
def fB (a : Nat) : Prop := 1000010 ≤ a ∧ a < 1000013
def gBl (a : Nat) : Nat := if a = 1000010 then gLn.getD 0 0 else if a = 1000011 then gLn.getD 1 0 else gLn.getD 2 0
def gBv (a i : Nat) : Int32 := (if a = 1000010 then gBy.getD 0 [] else if a = 1000011 then gBy.getD 1 [] else gBy.getD 2 []).getD i 0
theorem gBl_at {i : Nat} (h : i < 3) : gBl (1000010 + i) = gLn.getD i 0 := by rcases (show i = 0 ∨ i = 1 ∨ i = 2 by omega) with rfl | rfl | rfl <;> simp [gBl]
theorem gBv_at {i : Nat} (h : i < 3) (j : Nat) : gBv (1000010 + i) j = (gBy.getD i []).getD j 0 := by rcases (show i = 0 ∨ i = 1 ∨ i = 2 by omega) with rfl | rfl | rfl <;> simp [gBv]
theorem rA_far {G : gG} {a : Nat} (h : 1000000 ≤ a) : rA G a = G.2.1 a := by simp [rA, Nat.not_lt.mpr h]
theorem V_ldcs0 (hE : gOK E n) (hd : decode Y.2.1 pc = .ok (.ldc 47, 2)) (ho : Y.1.cls = "GlassStreet$Tape") (k : V E R Y mc u (pc + 2) ls (.ref 1000000 :: st) n sh z K) : V E R Y mc u pc ls st n sh z K := fun p e s m args below meth c H locs la Q C hQ hP hS hl hn hu => va_ldcS C.1 C.2.1 C.2.2.2.2.2.1 (ho ▸ (hE.2 s s.heap C.2.2.2.2.2.2.2.2.2.1).2.2.2.1) hd (k p e s m args below meth c H locs la Q C hQ hP hS hl hn hu)
theorem V_ldcs1 (hE : gOK E n) (hd : decode Y.2.1 pc = .ok (.ldc 56, 2)) (ho : Y.1.cls = "GlassStreet$Tape") (k : V E R Y mc u (pc + 2) ls (.ref 1000001 :: st) n sh z K) : V E R Y mc u pc ls st n sh z K := fun p e s m args below meth c H locs la Q C hQ hP hS hl hn hu => va_ldcS C.1 C.2.1 C.2.2.2.2.2.1 (ho ▸ (hE.2 s s.heap C.2.2.2.2.2.2.2.2.2.1).2.2.2.2.1) hd (k p e s m args below meth c H locs la Q C hQ hP hS hl hn hu)
theorem V_ldcs2 (hE : gOK E n) (hd : decode Y.2.1 pc = .ok (.ldc 50, 2)) (ho : Y.1.cls = "GlassStreet$Law") (k : V E R Y mc u (pc + 2) ls (.ref 1000002 :: st) n sh z K) : V E R Y mc u pc ls st n sh z K := fun p e s m args below meth c H locs la Q C hQ hP hS hl hn hu => va_ldcS C.1 C.2.1 C.2.2.2.2.2.1 (ho ▸ (hE.2 s s.heap C.2.2.2.2.2.2.2.2.2.1).2.2.2.2.2) hd (k p e s m args below meth c H locs la Q C hQ hP hS hl hn hu)
theorem V_fval {a idx : Nat} (hE : gOK E n) (ha : fS a) (hl0 : Cond.fieldLink Y.1.cls idx "java/lang/String" "value" "[B" ∈ lw_g) (hd : decode Y.2.1 pc = .ok (.getfield idx, 3)) (k : V E R Y mc u (pc + 3) ls (.ref (a + 10) :: st) n sh z K) : V E R Y mc u pc ls (.ref a :: st) n sh z K := by
  intro p e s m args below meth c H locs la Q C hQ hP hS hl hn hu
  have h1 := k p e s m args below meth c H locs la Q C hQ hP hS hl hn hu
  obtain ⟨i, rfl, hi⟩ : ∃ i, a = 1000000 + i ∧ i < 3 := ⟨a - 1000000, by have := ha.1; omega, by have := ha.2; omega⟩
  have hs := (hE.2 s s.heap C.2.2.2.2.2.2.2.2.2.1).1
  have e1 : ev E.2.1 (.ref (1000000 + i)) = .ref (E.2.1.2.1 (1000000 + i)) := by show Value.ref _ = _; rw [rA_far (by omega)]
  have e2 : ev E.2.1 (.ref (1000000 + i + 10)) = .ref (E.2.1.2.1 (1000010 + i)) := by show Value.ref _ = _; rw [rA_far (by omega), show 1000000 + i + 10 = 1000010 + i by omega]
  rw [List.map_cons, e2] at h1
  rw [List.map_cons, e1]
  exact vk_getf C.1 C.2.1 (hs.1 i hi).2.2.1 hS C.2.2.2.2.2.1 (C.2.2.2.2.2.2.1 _ hl0) (fun x hx => hx) hd h1
theorem V_fcod {a idx : Nat} (hE : gOK E n) (ha : fS a) (hl0 : Cond.fieldLink Y.1.cls idx "java/lang/String" "coder" "B" ∈ lw_g) (hd : decode Y.2.1 pc = .ok (.getfield idx, 3)) (k : V E R Y mc u (pc + 3) ls (.int 0 :: st) n sh z K) : V E R Y mc u pc ls (.ref a :: st) n sh z K := by
  intro p e s m args below meth c H locs la Q C hQ hP hS hl hn hu
  have h1 := k p e s m args below meth c H locs la Q C hQ hP hS hl hn hu
  obtain ⟨i, rfl, hi⟩ : ∃ i, a = 1000000 + i ∧ i < 3 := ⟨a - 1000000, by have := ha.1; omega, by have := ha.2; omega⟩
  have hs := (hE.2 s s.heap C.2.2.2.2.2.2.2.2.2.1).1
  have e1 : ev E.2.1 (.ref (1000000 + i)) = .ref (E.2.1.2.1 (1000000 + i)) := by show Value.ref _ = _; rw [rA_far (by omega)]
  rw [List.map_cons, e1]
  exact vk_getf C.1 C.2.1 (hs.1 i hi).2.1 hS C.2.2.2.2.2.1 (C.2.2.2.2.2.2.1 _ hl0) (fun x hx => hx) hd h1
theorem V_gsC {idx : Nat} (hE : gOK E n) (hl0 : Cond.fieldLink Y.1.cls idx "java/lang/String" "COMPACT_STRINGS" "Z" ∈ lw_g) (hd : decode Y.2.1 pc = .ok (.getstatic idx, 3)) (k : V E R Y mc u (pc + 3) ls (.int 1 :: st) n sh z K) : V E R Y mc u pc ls st n sh z K := fun p e s m args below meth c H locs la Q C hQ hP hS hl hn hu => va_gets C.1 C.2.1 (hE.2 s s.heap C.2.2.2.2.2.2.2.2.2.1).2.1 hS C.2.2.2.2.2.1 (C.2.2.2.2.2.2.1 _ hl0) (fun x hx => hx) hd (k p e s m args below meth c H locs la Q C hQ hP hS hl hn hu)
theorem V_gsF {idx : Nat} (hE : gOK E n) (hl0 : Cond.fieldLink Y.1.cls idx "jdk/internal/util/Preconditions" "SIOOBE_FORMATTER" "Ljava/util/function/BiFunction;" ∈ lw_g) (hd : decode Y.2.1 pc = .ok (.getstatic idx, 3)) (k : ∀ v : Value, v = .null ∨ v = .ref 1000020 → V E R Y mc u (pc + 3) ls (v :: st) n sh z K) : V E R Y mc u pc ls st n sh z K := by
  intro p e s m args below meth c H locs la Q C hQ hP hS hl hn hu
  rcases (hE.2 s s.heap C.2.2.2.2.2.2.2.2.2.1).2.2.1 with h | h
  · exact va_gets C.1 C.2.1 h hS C.2.2.2.2.2.1 (C.2.2.2.2.2.2.1 _ hl0) (fun x hx => hx) hd (k .null (Or.inl rfl) p e s m args below meth c H locs la Q C hQ hP hS hl hn hu)
  · exact va_gets C.1 C.2.1 h hS C.2.2.2.2.2.1 (C.2.2.2.2.2.2.1 _ hl0) (fun x hx => hx) hd (k (.ref 1000020) (Or.inr rfl) p e s m args below meth c H locs la Q C hQ hP hS hl hn hu)
theorem V_balen {a : Nat} (hE : gOK E n) (ha : fB a) (hd : decode Y.2.1 pc = .ok (.arraylength, 1)) (k : V E R Y mc u (pc + 1) ls (.int (Int32.ofNat (gBl a)) :: st) n sh z K) : V E R Y mc u pc ls (.ref a :: st) n sh z K := by
  intro p e s m args below meth c H locs la Q C hQ hP hS hl hn hu
  have h1 := k p e s m args below meth c H locs la Q C hQ hP hS hl hn hu
  obtain ⟨i, rfl, hi⟩ : ∃ i, a = 1000010 + i ∧ i < 3 := ⟨a - 1000010, by have := ha.1; omega, by have := ha.2; omega⟩
  have hs := (hE.2 s s.heap C.2.2.2.2.2.2.2.2.2.1).1
  have e1 : ev E.2.1 (.ref (1000010 + i)) = .ref (E.2.1.2.1 (1000010 + i)) := by show Value.ref _ = _; rw [rA_far (by omega)]
  rw [List.map_cons, e1]
  exact va_tlen C.1 C.2.1 (hs.1 i hi).2.2.2 hS (by rw [gBl_at hi]) hd h1
theorem V_bald {a : Nat} {i : Int32} (hE : gOK E n) (ha : fB a) (hi : vp_in i (gBl a)) (hd : decode Y.2.1 pc = .ok (.baload, 1)) (k : V E R Y mc u (pc + 1) ls (.int (gBv a i.toNatClampNeg) :: st) n sh z K) : V E R Y mc u pc ls (.int i :: .ref a :: st) n sh z K := by
  intro p e s m args below meth c H locs la Q C hQ hP hS hl hn hu
  have h1 := k p e s m args below meth c H locs la Q C hQ hP hS hl hn hu
  obtain ⟨j, rfl, hj⟩ : ∃ i, a = 1000010 + i ∧ i < 3 := ⟨a - 1000010, by have := ha.1; omega, by have := ha.2; omega⟩
  have hs := (hE.2 s s.heap C.2.2.2.2.2.2.2.2.2.1).1
  have e1 : ev E.2.1 (.ref (1000010 + j)) = .ref (E.2.1.2.1 (1000010 + j)) := by show Value.ref _ = _; rw [rA_far (by omega)]
  show W p E.1 e R s m args below meth c H locs u (2200 * u) Q (F0 m pc la (.int i :: ev E.2.1 (.ref (1000010 + j)) :: st.map (ev E.2.1)))
  rw [e1]
  rw [gBl_at hj] at hi
  rw [gBv_at hj] at h1
  exact va_tb C.1 C.2.1 (hs.1 j hj).2.2.2 hS hi rfl hd h1
theorem gRv.far {a : Nat} (hE : gOK E n) (ha : fS a) : gRv E n sh z a "java/lang/String" := by
  intro s H locs hF _ _ hS _
  obtain ⟨i, rfl, hi⟩ : ∃ i, a = 1000000 + i ∧ i < 3 := ⟨a - 1000000, by have := ha.1; omega, by have := ha.2; omega⟩
  rw [rA_far (by omega)]
  exact vk_recv (adK := fun i => E.2.1.2.1 (1000000 + i)) (hE.2 s s.heap hF).1 hi hS
end GV2
def bz (v : Int32) : Prop := v = 0 ∨ v = 1
theorem bz.n {v : Int32} (h : bz v) : narrow .boolean (.int v) = .int v := by rcases h with rfl | rfl <;> decide
theorem bz.f {v : Int32} (h : bz v) : fits .boolean (.int v) = true := by rcases h with rfl | rfl <;> decide
set_option maxRecDepth 100000 in
set_option maxHeartbeats 4000000 in
theorem ctJ3_checkIndex {E : gE} {n : Nat} {sh : Nat → Nat × Nat} {x0 x1 : Int32} {vv : Value} {z : gS} {P : Int32 → gS → Prop} (hv : vv.category = 1) (h1 : ¬ x0 < 0) (h2 : x0 < x1) (hf : P x0 z) : VM E 0 0 gyJ3_checkIndex_8e157 [.int x0, .int x1, vv] n sh z (kI n sh P) := by
  refine VM.of (by decide +kernel) (by show (lg_sl [.int x0, .int x1, vv]).length ≤ 3; unfold lg_sl; rw [List.flatMap_cons, List.flatMap_cons, List.flatMap_cons, hv]; exact Nat.le_of_ble_eq_true rfl) ?_
  show V E (gR 0 0) gyJ3_checkIndex_8e157 0 0 0 [(0, .int x0), (1, .int x1), (2, vv)] [] n sh z (kI n sh P)
  refine V_iload_n (j := 0) dJ3_checkIndex_8e157_0 rfl rfl ?_
  refine V_if_lt (tgt := 9) dJ3_checkIndex_8e157_1 (by decide) (fun h => absurd h h1) (fun _ => ?_)
  refine V_iload_n (j := 0) dJ3_checkIndex_8e157_4 rfl rfl ?_
  refine V_iload_n (j := 1) dJ3_checkIndex_8e157_5 rfl rfl ?_
  refine V_icmp_lt (tgt := 16) dJ3_checkIndex_8e157_6 (by decide) (fun _ => ?_) (fun h => absurd h2 h)
  refine V_iload_n (j := 0) dJ3_checkIndex_8e157_16 rfl rfl ?_
  exact V_ireturn dJ3_checkIndex_8e157_17 rfl rfl (Nat.le_refl 0) (kI_of hf)
def wJ0_checkIndex_df160 (n : Nat) (sh : Nat → Nat × Nat) (x0 x1 : Int32) (z : gS) (P : gS → Prop) : Prop := (¬ x0 < 0) ∧ (x0 < x1) ∧ P z
set_option maxRecDepth 100000 in
set_option maxHeartbeats 4000000 in
theorem ctJ0_checkIndex_df160 {E : gE} {n : Nat} {sh : Nat → Nat × Nat} {x0 x1 : Int32} {z : gS} {P : gS → Prop} (hn : gOK E n) (hf : wJ0_checkIndex_df160 n sh x0 x1 z P) : VM E 1 0 gyJ0_checkIndex_df160 [.int x0, .int x1] n sh z (kN n sh P) := by
  obtain ⟨h1, h2, hf⟩ := hf
  refine VM.of (by decide +kernel) (Nat.le_of_ble_eq_true rfl) ?_
  show V E (gR 1 0) gyJ0_checkIndex_df160 0 0 0 [(0, .int x0), (1, .int x1)] [] n sh z (kN n sh P)
  refine V_iload_n (j := 0) dJ0_checkIndex_df160_0 rfl rfl ?_
  refine V_iload_n (j := 1) dJ0_checkIndex_df160_1 rfl rfl ?_
  refine V_gsF hn sf_J0_1053 dJ0_checkIndex_df160_2 (fun vv hvv => ?_)
  have hc : vv.category = 1 := by rcases hvv with rfl | rfl <;> rfl
  refine V_cSI (av := [.int x0, .int x1, vv]) (P := fun _ z1 => P z1) (ctJ3_checkIndex hc h1 h2 hf) gc_J0_1059 rfl ⟨by decide, by decide, Nat.zero_le _, Nat.zero_le _⟩ (Nat.le_of_ble_eq_true rfl) dJ0_checkIndex_df160_5 rfl hn (fun r z1 hf => ?_)
  refine V_pop dJ0_checkIndex_df160_8 rfl ?_
  exact V_return dJ0_checkIndex_df160_9 rfl (Nat.le_refl 0) (kN_of hf)
