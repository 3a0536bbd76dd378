section GV2
variable {E : gE} {R : Room} {Y : gY} {mc u pc : Nat} {ls : List (Nat × Value)} {st : List Value} {n : Nat} {sh : Nat → Nat × Nat} {z : gS} {K : gK}
theorem V_ldcw {own : String} {idx : Nat} {v : Int32} (hd : decode Y.2.1 pc = .ok (.ldc_w idx, 3)) (ho : Y.1.cls = own) (hw : Cond.constant own idx v ∈ lw_g) (k : V E R Y mc u (pc + 3) ls (.int v :: st) n sh z K) : V E R Y mc u pc ls st n sh z K := fun p e s m args below meth c H locs la Q C hQ hP hS hl hn hu => lv_ldcw C.1 C.2.1 C.2.2.2.2.2.1 (C.2.2.2.2.2.2.1 _ (ho ▸ hw)) hd (k p e s m args below meth c H locs la Q C hQ hP hS hl hn hu)
theorem V_i2b {x : Int32} (hd : decode Y.2.1 pc = .ok (.i2b, 1)) (k : V E R Y mc u (pc + 1) ls (.int (x.toInt8.toInt32) :: st) n sh z K) : V E R Y mc u pc ls (.int x :: st) n sh z K := fun p e s m args below meth c H locs la Q C hQ hP hS hl hn hu => lv_i2b C.1 C.2.1 hd rfl (k p e s m args below meth c H locs la Q C hQ hP hS hl hn hu)
def fS (a : Nat) : Prop := 1000000 ≤ a ∧ a < 1000003
def fB (a : Nat) : Prop := 1000010 ≤ a ∧ a < 1000013
def gBl (a : Nat) : Nat := if a = 1000010 then gLn.getD 0 0 else if a = 1000011 then gLn.getD 1 0 else gLn.getD 2 0
def gBv (a i : Nat) : Int32 := (if a = 1000010 then gBy.getD 0 [] else if a = 1000011 then gBy.getD 1 [] else gBy.getD 2 []).getD i 0
theorem gBl_at {i : Nat} (h : i < 3) : gBl (1000010 + i) = gLn.getD i 0 := by rcases (show i = 0 ∨ i = 1 ∨ i = 2 by omega) with rfl | rfl | rfl <;> simp [gBl]
theorem gBv_at {i : Nat} (h : i < 3) (j : Nat) : gBv (1000010 + i) j = (gBy.getD i []).getD j 0 := by rcases (show i = 0 ∨ i = 1 ∨ i = 2 by omega) with rfl | rfl | rfl <;> simp [gBv]
theorem rA_far {G : gG} {a : Nat} (h : 1000000 ≤ a) : rA G a = G.2.1 a := by simp [rA, Nat.not_lt.mpr h]
theorem V_ldcs0 (hE : gOK E n) (hd : decode Y.2.1 pc = .ok (.ldc 47, 2)) (ho : Y.1.cls = "GlassStreet$Tape") (k : V E R Y mc u (pc + 2) ls (.ref 1000000 :: st) n sh z K) : V E R Y mc u pc ls st n sh z K := fun p e s m args below meth c H locs la Q C hQ hP hS hl hn hu => va_ldcS C.1 C.2.1 C.2.2.2.2.2.1 (ho ▸ (hE.2 s s.heap C.2.2.2.2.2.2.2.2.2.1).2.2.2.1) hd (k p e s m args below meth c H locs la Q C hQ hP hS hl hn hu)
theorem V_ldcs1 (hE : gOK E n) (hd : decode Y.2.1 pc = .ok (.ldc 56, 2)) (ho : Y.1.cls = "GlassStreet$Tape") (k : V E R Y mc u (pc + 2) ls (.ref 1000001 :: st) n sh z K) : V E R Y mc u pc ls st n sh z K := fun p e s m args below meth c H locs la Q C hQ hP hS hl hn hu => va_ldcS C.1 C.2.1 C.2.2.2.2.2.1 (ho ▸ (hE.2 s s.heap C.2.2.2.2.2.2.2.2.2.1).2.2.2.2.1) hd (k p e s m args below meth c H locs la Q C hQ hP hS hl hn hu)
theorem V_ldcs2 (hE : gOK E n) (hd : decode Y.2.1 pc = .ok (.ldc 50, 2)) (ho : Y.1.cls = "GlassStreet$Law") (k : V E R Y mc u (pc + 2) ls (.ref 1000002 :: st) n sh z K) : V E R Y mc u pc ls st n sh z K := fun p e s m args below meth c H locs la Q C hQ hP hS hl hn hu => va_ldcS C.1 C.2.1 C.2.2.2.2.2.1 (ho ▸ (hE.2 s s.heap C.2.2.2.2.2.2.2.2.2.1).2.2.2.2.2) hd (k p e s m args below meth c H locs la Q C hQ hP hS hl hn hu)
theorem V_fval {a idx : Nat} (hE : gOK E n) (ha : fS a) (hl0 : Cond.fieldLink Y.1.cls idx "java/lang/String" "value" "[B" ∈ lw_g) (hd : decode Y.2.1 pc = .ok (.getfield idx, 3)) (k : V E R Y mc u (pc + 3) ls (.ref (a + 10) :: st) n sh z K) : V E R Y mc u pc ls (.ref a :: st) n sh z K := by
  intro p e s m args below meth c H locs la Q C hQ hP hS hl hn hu
  have h1 := k p e s m args below meth c H locs la Q C hQ hP hS hl hn hu
  obtain ⟨i, rfl, hi⟩ : ∃ i, a = 1000000 + i ∧ i < 3 := ⟨a - 1000000, by have := ha.1; omega, by have := ha.2; omega⟩
  have hs := (hE.2 s s.heap C.2.2.2.2.2.2.2.2.2.1).1
  have e1 : ev E.2.1 (.ref (1000000 + i)) = .ref (E.2.1.2.1 (1000000 + i)) := by show Value.ref _ = _; rw [rA_far (by omega)]
  have e2 : ev E.2.1 (.ref (1000000 + i + 10)) = .ref (E.2.1.2.1 (1000010 + i)) := by show Value.ref _ = _; rw [rA_far (by omega), show 1000000 + i + 10 = 1000010 + i by omega]
  rw [List.map_cons, e2] at h1
  rw [List.map_cons, e1]
  exact vk_getf C.1 C.2.1 (hs.1 i hi).2.2.1 hS C.2.2.2.2.2.1 (C.2.2.2.2.2.2.1 _ hl0) (fun x hx => hx) hd h1
theorem V_fcod {a idx : Nat} (hE : gOK E n) (ha : fS a) (hl0 : Cond.fieldLink Y.1.cls idx "java/lang/String" "coder" "B" ∈ lw_g) (hd : decode Y.2.1 pc = .ok (.getfield idx, 3)) (k : V E R Y mc u (pc + 3) ls (.int 0 :: st) n sh z K) : V E R Y mc u pc ls (.ref a :: st) n sh z K := by
  intro p e s m args below meth c H locs la Q C hQ hP hS hl hn hu
  have h1 := k p e s m args below meth c H locs la Q C hQ hP hS hl hn hu
  obtain ⟨i, rfl, hi⟩ : ∃ i, a = 1000000 + i ∧ i < 3 := ⟨a - 1000000, by have := ha.1; omega, by have := ha.2; omega⟩
  have hs := (hE.2 s s.heap C.2.2.2.2.2.2.2.2.2.1).1
  have e1 : ev E.2.1 (.ref (1000000 + i)) = .ref (E.2.1.2.1 (1000000 + i)) := by show Value.ref _ = _; rw [rA_far (by omega)]
  rw [List.map_cons, e1]
  exact vk_getf C.1 C.2.1 (hs.1 i hi).2.1 hS C.2.2.2.2.2.1 (C.2.2.2.2.2.2.1 _ hl0) (fun x hx => hx) hd h1
theorem V_gsC {idx : Nat} (hE : gOK E n) (hl0 : Cond.fieldLink Y.1.cls idx "java/lang/String" "COMPACT_STRINGS" "Z" ∈ lw_g) (hd : decode Y.2.1 pc = .ok (.getstatic idx, 3)) (k : V E R Y mc u (pc + 3) ls (.int 1 :: st) n sh z K) : V E R Y mc u pc ls st n sh z K := fun p e s m args below meth c H locs la Q C hQ hP hS hl hn hu => va_gets C.1 C.2.1 (hE.2 s s.heap C.2.2.2.2.2.2.2.2.2.1).2.1 hS C.2.2.2.2.2.1 (C.2.2.2.2.2.2.1 _ hl0) (fun x hx => hx) hd (k p e s m args below meth c H locs la Q C hQ hP hS hl hn hu)
theorem V_gsF {idx : Nat} (hE : gOK E n) (hl0 : Cond.fieldLink Y.1.cls idx "jdk/internal/util/Preconditions" "SIOOBE_FORMATTER" "Ljava/util/function/BiFunction;" ∈ lw_g) (hd : decode Y.2.1 pc = .ok (.getstatic idx, 3)) (k : ∀ v : Value, v = .null ∨ v = .ref 1000020 → V E R Y mc u (pc + 3) ls (v :: st) n sh z K) : V E R Y mc u pc ls st n sh z K := by
  intro p e s m args below meth c H locs la Q C hQ hP hS hl hn hu
  rcases (hE.2 s s.heap C.2.2.2.2.2.2.2.2.2.1).2.2.1 with h | h
  · exact va_gets C.1 C.2.1 h hS C.2.2.2.2.2.1 (C.2.2.2.2.2.2.1 _ hl0) (fun x hx => hx) hd (k .null (Or.inl rfl) p e s m args below meth c H locs la Q C hQ hP hS hl hn hu)
  · exact va_gets C.1 C.2.1 h hS C.2.2.2.2.2.1 (C.2.2.2.2.2.2.1 _ hl0) (fun x hx => hx) hd (k (.ref 1000020) (Or.inr rfl) p e s m args below meth c H locs la Q C hQ hP hS hl hn hu)
theorem V_balen {a : Nat} (hE : gOK E n) (ha : fB a) (hd : decode Y.2.1 pc = .ok (.arraylength, 1)) (k : V E R Y mc u (pc + 1) ls (.int (Int32.ofNat (gBl a)) :: st) n sh z K) : V E R Y mc u pc ls (.ref a :: st) n sh z K := by
  intro p e s m args below meth c H locs la Q C hQ hP hS hl hn hu
  have h1 := k p e s m args below meth c H locs la Q C hQ hP hS hl hn hu
  obtain ⟨i, rfl, hi⟩ : ∃ i, a = 1000010 + i ∧ i < 3 := ⟨a - 1000010, by have := ha.1; omega, by have := ha.2; omega⟩
  have hs := (hE.2 s s.heap C.2.2.2.2.2.2.2.2.2.1).1
  have e1 : ev E.2.1 (.ref (1000010 + i)) = .ref (E.2.1.2.1 (1000010 + i)) := by show Value.ref _ = _; rw [rA_far (by omega)]
  rw [List.map_cons, e1]
  exact va_tlen C.1 C.2.1 (hs.1 i hi).2.2.2 hS (by rw [gBl_at hi]) hd h1
theorem V_bald {a : Nat} {i : Int32} (hE : gOK E n) (ha : fB a) (hi : vp_in i (gBl a)) (hd : decode Y.2.1 pc = .ok (.baload, 1)) (k : V E R Y mc u (pc + 1) ls (.int (gBv a i.toNatClampNeg) :: st) n sh z K) : V E R Y mc u pc ls (.int i :: .ref a :: st) n sh z K := by
  intro p e s m args below meth c H locs la Q C hQ hP hS hl hn hu
  have h1 := k p e s m args below meth c H locs la Q C hQ hP hS hl hn hu
  obtain ⟨j, rfl, hj⟩ : ∃ i, a = 1000010 + i ∧ i < 3 := ⟨a - 1000010, by have := ha.1; omega, by have := ha.2; omega⟩
  have hs := (hE.2 s s.heap C.2.2.2.2.2.2.2.2.2.1).1
  have e1 : ev E.2.1 (.ref (1000010 + j)) = .ref (E.2.1.2.1 (1000010 + j)) := by show Value.ref _ = _; rw [rA_far (by omega)]
  show W p E.1 e R s m args below meth c H locs u (2200 * u) Q (F0 m pc la (.int i :: ev E.2.1 (.ref (1000010 + j)) :: st.map (ev E.2.1)))
  rw [e1]
  rw [gBl_at hj] at hi
  rw [gBv_at hj] at h1
  exact va_tb C.1 C.2.1 (hs.1 j hj).2.2.2 hS hi rfl hd h1
theorem gRv.far {a : Nat} (hE : gOK E n) (ha : fS a) : gRv E n sh z a "java/lang/String" := by
  intro s H locs hF _ _ hS _
  obtain ⟨i, rfl, hi⟩ : ∃ i, a = 1000000 + i ∧ i < 3 := ⟨a - 1000000, by have := ha.1; omega, by have := ha.2; omega⟩
  rw [rA_far (by omega)]
  exact vk_recv (adK := fun i => E.2.1.2.1 (1000000 + i)) (hE.2 s s.heap hF).1 hi hS
end GV2
def bz (v : Int32) : Prop := v = 0 ∨ v = 1
theorem bz.n {v : Int32} (h : bz v) : narrow .boolean (.int v) = .int v := by rcases h with rfl | rfl <;> decide
theorem bz.f {v : Int32} (h : bz v) : fits .boolean (.int v) = true := by rcases h with rfl | rfl <;> decide
set_option maxRecDepth 100000 in
set_option maxHeartbeats 4000000 in
theorem ctJ3_checkIndex {E : gE} {n : Nat} {sh : Nat → Nat × Nat} {x0 x1 : Int32} {vv : Value} {z : gS} {P : Int32 → gS → Prop} (hv : vv.category = 1) (h1 : ¬ x0 < 0) (h2 : x0 < x1) (hf : P x0 z) : VM E 0 0 gyJ3_checkIndex_8e157 [.int x0, .int x1, vv] n sh z (kI n sh P) := by
  refine VM.of (by decide +kernel) (by show (lg_sl [.int x0, .int x1, vv]).length ≤ 3; unfold lg_sl; rw [List.flatMap_cons, List.flatMap_cons, List.flatMap_cons, hv]; exact Nat.le_of_ble_eq_true rfl) (fun _ _ _ h => h.2.2) ?_
  show V E (gR 0 0) gyJ3_checkIndex_8e157 0 0 0 [(0, .int x0), (1, .int x1), (2, vv)] [] n sh z (kI n sh P)
  refine V_iload_n (j := 0) dJ3_checkIndex_8e157_0 rfl rfl ?_
  refine V_if_lt (tgt := 9) dJ3_checkIndex_8e157_1 (by decide) (fun h => absurd h h1) (fun _ => ?_)
  refine V_iload_n (j := 0) dJ3_checkIndex_8e157_4 rfl rfl ?_
  refine V_iload_n (j := 1) dJ3_checkIndex_8e157_5 rfl rfl ?_
  refine V_icmp_lt (tgt := 16) dJ3_checkIndex_8e157_6 (by decide) (fun _ => ?_) (fun h => absurd h2 h)
  refine V_iload_n (j := 0) dJ3_checkIndex_8e157_16 rfl rfl ?_
  exact V_ireturn dJ3_checkIndex_8e157_17 rfl rfl (Nat.le_refl 0) (kI_of hf)
def wJ0_checkIndex_df160 (n : Nat) (sh : Nat → Nat × Nat) (x0 x1 : Int32) (z : gS) (P : gS → Prop) : Prop := (¬ x0 < 0) ∧ (x0 < x1) ∧ P z
set_option maxRecDepth 100000 in
set_option maxHeartbeats 4000000 in
theorem ctJ0_checkIndex_df160 {E : gE} {n : Nat} {sh : Nat → Nat × Nat} {x0 x1 : Int32} {z : gS} {P : gS → Prop} (hn : gOK E n) (hf : wJ0_checkIndex_df160 n sh x0 x1 z P) : VM E 1 0 gyJ0_checkIndex_df160 [.int x0, .int x1] n sh z (kN n sh P) := by
  obtain ⟨h1, h2, hf⟩ := hf
  refine VM.of (by decide +kernel) (Nat.le_of_ble_eq_true rfl) (fun _ _ _ h => h.2.2) ?_
  show V E (gR 1 0) gyJ0_checkIndex_df160 0 0 0 [(0, .int x0), (1, .int x1)] [] n sh z (kN n sh P)
  refine V_iload_n (j := 0) dJ0_checkIndex_df160_0 rfl rfl ?_
  refine V_iload_n (j := 1) dJ0_checkIndex_df160_1 rfl rfl ?_
  refine V_gsF hn sf_J0_1053 dJ0_checkIndex_df160_2 (fun vv hvv => ?_)
  have hc : vv.category = 1 := by rcases hvv with rfl | rfl <;> rfl
  refine V_cSI (av := [.int x0, .int x1, vv]) (P := fun _ z1 => P z1) (ctJ3_checkIndex hc h1 h2 hf) gc_J0_1059 rfl ⟨by decide, by decide, Nat.zero_le _, Nat.zero_le _⟩ (Nat.le_of_ble_eq_true rfl) dJ0_checkIndex_df160_5 rfl hn (fun r z1 hf => ?_)
  refine V_pop dJ0_checkIndex_df160_8 rfl ?_
  exact V_return dJ0_checkIndex_df160_9 rfl (Nat.le_refl 0) (kN_of hf)
/-! ===== making cells ===== -/
def z0 (z : gS) (a : Nat) : gS := (fun b j => if b = a then 0 else z.1 b j, fun b j => if b = a then 0 else z.2.1 b j, fun b j => if b = a then none else z.2.2 b j)
theorem gi_z0 (z : gS) (a b j : Nat) : gi (z0 z a) b j = if b = a then 0 else gi z b j := rfl
theorem gl_z0 (z : gS) (a b j : Nat) : gl (z0 z a) b j = if b = a then 0 else gl z b j := rfl
theorem gr_z0 (z : gS) (a b j : Nat) : gr (z0 z a) b j = if b = a then none else gr z b j := rfl
theorem ent_ne_z0 {G : gG} {sh : Nat → Nat × Nat} {z : gS} {a : Nat} {v : Nat × Nat} : ∀ b, b ≠ a → ent G (va_up sh a v) (z0 z a) b = ent G sh z b := by
  intro b hb
  have e1 : gi (z0 z a) b = gi z b := by funext j; simp [gi_z0, hb]
  have e2 : gl (z0 z a) b = gl z b := by funext j; simp [gl_z0, hb]
  have e4 : gr (z0 z a) b = gr z b := by funext j; simp [gr_z0, hb]
  have e3 : ∀ j kd, fv G (z0 z a) b j kd = fv G z b j kd := by intro j kd; simp only [fv]; rw [e1, e2, e4]
  have e5 : va_up sh a v b = sh b := va_up_ne _ _ hb
  unfold ent
  simp only [e1, e2, e3, e4, e5]
theorem wd_push {G : gG} {n : Nat} {sh : Nat → Nat × Nat} {z : gS} {v : Nat × Nat} {e : va_E} (h : ent G (va_up sh n v) (z0 z n) n = e) : wd G n sh z ++ [(G.1 + n, e)] = wd G (n + 1) (va_up sh n v) (z0 z n) := by
  unfold wd
  rw [List.range_succ, List.map_append, List.map_cons, List.map_nil, h]
  congr 1
  apply List.map_congr_left
  intro k hk
  rw [ent_ne_z0 k (Nat.ne_of_lt (List.mem_range.mp hk))]
theorem gFresh {G : gG} {n q : Nat} {sh : Nat → Nat × Nat} {z : gS} {e : va_E} {H1 : Heap} (hP : va_P (gD G) vwCl (wd G n sh z ++ [(q, e)]) H1) (hD : va_D (gA G) (wd G n sh z ++ [(q, e)])) (hz : H1.size ≤ G.1 + n + 1) : q = G.1 + n := by
  have hl : (wd G n sh z).length = n := by simp [wd]
  have hat : (wd G n sh z ++ [(q, e)])[n]? = some (q, e) := by rw [List.getElem?_append_right (by omega), hl, Nat.sub_self]; rfl
  have h1 : G.1 ≤ q := hD.2 n _ hat
  have h2 : q < H1.size := (hP n _ hat).lt
  rcases Nat.lt_or_ge q (G.1 + n) with h | h
  · exfalso
    have hk : (wd G n sh z ++ [(q, e)])[q - G.1]? = some (G.1 + (q - G.1), ent G sh z (q - G.1)) := by rw [List.getElem?_append_left (by omega)]; exact wd_at (by omega)
    have := hD.1 n (q - G.1) _ _ hat hk (by dsimp only; omega)
    omega
  · omega
section GN
variable {E : gE} {R : Room} {Y : gY} {mc u pc : Nat} {ls : List (Nat × Value)} {st : List Value} {n : Nat} {sh : Nat → Nat × Nat} {z : gS} {K : gK}
theorem V_new {idx ci : Nat} (hm : mc ≠ 0) (hci : ci < 9) (hcl : Cond.classLink Y.1.cls idx (gC ci).1 ∈ lw_g) (hinst : Cond.instantiable (gC ci).1 (gC ci).2.2 ∈ lw_g) (hini : Cond.initialized (gC ci).1 ∈ lw_g) (hfs : ∀ j, j < (gC ci).2.2 → defaultValue (gT ci j) = vp_V ((gFk ci).map (fun kd => if kd = 0 then Value.int 0 else if kd = 1 then .long 0 else .null)) j) (hN : (gC ci).2.2 ≤ 2200) (hR : u + 1 ≤ R.cells ∧ 2200 * u + 2200 ≤ R.slots) (hn1 : n + 1 ≤ 1000000) (hd : decode Y.2.1 pc = .ok (.new idx, 3))
    (k : V E R Y mc (u + 1) (pc + 3) ls (.ref n :: st) (n + 1) (va_up sh n (0, ci)) (z0 z n) K) : V E R Y mc u pc ls st n sh z K := by
  intro p e s m args below meth c H locs la Q C hQ hP hS hl hn hu
  have ht := C.2.2.2.2.2.2.1
  refine va_new C.1 C.2.1 (ci := ci) ht (gin ci hci) (gT ci) (gtyok ci hci) C.2.2.2.2.2.1 (ht _ hcl) (ht _ hinst) (ht _ hini) C.2.2.2.2.2.2.2.1 hP wd_D hS (fun q hq => Nat.le_trans C.2.2.2.2.2.2.2.2.2.2.2.1 hq) (gcl ci hci) hfs hR.1 (Nat.le_trans (Nat.add_le_add_left hN _) hR.2) hd (fun q H1 hP1 hD1 hS1 => ?_)
  refine W.widen (k := u + 1) (n := 2200 * (u + 1)) (Nat.le_refl _) (by rw [Nat.mul_add]; omega) ?_
  intro T hT X
  have hz : H1.size ≤ E.2.1.1 + n + 1 := by have h1 := X.heapSize; have h2 := hu hm; rw [← hT]; omega
  have hq := gFresh hP1 hD1 hz
  subst hq
  have he : ent E.2.1 (va_up sh n (0, ci)) (z0 z n) n = .inr (ci, (gFk ci).map (fun kd => if kd = 0 then Value.int 0 else if kd = 1 then .long 0 else .null)) := by
    rw [ent_o (ci := ci) (va_up_self _ _ _)]
    congr 2
    apply List.ext_getElem?
    intro j
    rw [List.getElem?_mapIdx, List.getElem?_map]
    cases (gFk ci)[j]? with
    | none => rfl
    | some kd => simp [fv, gi_z0, gl_z0, gr_z0, va_rf]
  rw [wd_push he] at hP1
  have h1 := k p e s m args below meth c H1 locs la Q C hQ hP1 hS1 hl hn1 (fun q => by have := hu q; omega)
  rw [List.map_cons, ev_ref (Nat.lt_of_lt_of_le (Nat.lt_succ_self n) hn1)] at h1
  exact h1 T hT X
theorem V_newa1 {len : Int32} {N : Nat} (hm : mc ≠ 0) (harr : Cond.arrayClass .int ∈ lw_g) (h0 : ¬ len < 0) (hl0 : len.toNatClampNeg = N) (hN : N ≤ 2200) (hR : u + 1 ≤ R.cells ∧ 2200 * u + 2200 ≤ R.slots) (hn1 : n + 1 ≤ 1000000) (hd : decode Y.2.1 pc = .ok (.newarray .int, 2))
    (k : V E R Y mc (u + 1) (pc + 2) ls (.ref n :: st) (n + 1) (va_up sh n (1, N)) (z0 z n) K) : V E R Y mc u pc ls (.int len :: st) n sh z K := by
  intro p e s m args below meth c H locs la Q C hQ hP hS hl hn hu
  have ht := C.2.2.2.2.2.2.1
  refine va_newa (atype := .int) (ty := .int) (a0 := (N, .inl (fun _ => 0))) C.1 C.2.1 (ht _ harr) rfl C.2.2.2.2.2.2.2.1 hP wd_D hS (fun q hq => Nat.le_trans C.2.2.2.2.2.2.2.2.2.2.2.1 hq) (fun cA => rfl) h0 hl0 (Nat.le_trans (Nat.mul_le_mul_right _ hN) (by decide)) hR.1 (Nat.le_trans (Nat.add_le_add_left hN _) hR.2) hd (fun q cA H1 hK1 hP1 hD1 hS1 => ?_)
  have hcA : cA = E.2.1.2.2.1 1 := by
    have h1 := (hK1.2 6 _ rfl).2
    have h2 := (C.2.2.2.2.2.2.2.1.2 1 _ rfl).2
    exact Option.some.inj (Eq.trans (Eq.symm h1) h2)
  subst hcA
  refine W.widen (k := u + 1) (n := 2200 * (u + 1)) (Nat.le_refl _) (by rw [Nat.mul_add]; omega) ?_
  intro T hT X
  have hz : H1.size ≤ E.2.1.1 + n + 1 := by have h1 := X.heapSize; have h2 := hu hm; rw [← hT]; omega
  have hq := gFresh hP1 hD1 hz
  subst hq
  have he : ent E.2.1 (va_up sh n (1, N)) (z0 z n) n = .inl (E.2.1.2.2.1 1, N, .inl (fun _ => 0)) := by
    rw [ent_1 (n := N) (va_up_self _ _ _)]
    congr 4
    funext j
    simp [gi_z0, gl_z0]
  rw [wd_push he] at hP1
  have h1 := k p e s m args below meth c H1 locs la Q C hQ hP1 hS1 hl hn1 (fun q => by have := hu q; omega)
  rw [List.map_cons, ev_ref (Nat.lt_of_lt_of_le (Nat.lt_succ_self n) hn1)] at h1
  exact h1 T hT X
theorem V_newa2 {len : Int32} {N : Nat} (hm : mc ≠ 0) (harr : Cond.arrayClass .long ∈ lw_g) (h0 : ¬ len < 0) (hl0 : len.toNatClampNeg = N) (hN : N ≤ 2200) (hR : u + 1 ≤ R.cells ∧ 2200 * u + 2200 ≤ R.slots) (hn1 : n + 1 ≤ 1000000) (hd : decode Y.2.1 pc = .ok (.newarray .long, 2))
    (k : V E R Y mc (u + 1) (pc + 2) ls (.ref n :: st) (n + 1) (va_up sh n (2, N)) (z0 z n) K) : V E R Y mc u pc ls (.int len :: st) n sh z K := by
  intro p e s m args below meth c H locs la Q C hQ hP hS hl hn hu
  have ht := C.2.2.2.2.2.2.1
  refine va_newa (atype := .long) (ty := .long) (a0 := (N, .inr (.inl (fun _ => 0)))) C.1 C.2.1 (ht _ harr) rfl C.2.2.2.2.2.2.2.1 hP wd_D hS (fun q hq => Nat.le_trans C.2.2.2.2.2.2.2.2.2.2.2.1 hq) (fun cA => rfl) h0 hl0 (Nat.le_trans (Nat.mul_le_mul_right _ hN) (by decide)) hR.1 (Nat.le_trans (Nat.add_le_add_left hN _) hR.2) hd (fun q cA H1 hK1 hP1 hD1 hS1 => ?_)
  have hcA : cA = E.2.1.2.2.1 2 := by
    have h1 := (hK1.2 6 _ rfl).2
    have h2 := (C.2.2.2.2.2.2.2.1.2 2 _ rfl).2
    exact Option.some.inj (Eq.trans (Eq.symm h1) h2)
  subst hcA
  refine W.widen (k := u + 1) (n := 2200 * (u + 1)) (Nat.le_refl _) (by rw [Nat.mul_add]; omega) ?_
  intro T hT X
  have hz : H1.size ≤ E.2.1.1 + n + 1 := by have h1 := X.heapSize; have h2 := hu hm; rw [← hT]; omega
  have hq := gFresh hP1 hD1 hz
  subst hq
  have he : ent E.2.1 (va_up sh n (2, N)) (z0 z n) n = .inl (E.2.1.2.2.1 2, N, .inr (.inl (fun _ => 0))) := by
    rw [ent_2 (n := N) (va_up_self _ _ _)]
    congr 5
    funext j
    simp [gi_z0, gl_z0]
  rw [wd_push he] at hP1
  have h1 := k p e s m args below meth c H1 locs la Q C hQ hP1 hS1 hl hn1 (fun q => by have := hu q; omega)
  rw [List.map_cons, ev_ref (Nat.lt_of_lt_of_le (Nat.lt_succ_self n) hn1)] at h1
  exact h1 T hT X
theorem V_newa3 {len : Int32} {N : Nat} (hm : mc ≠ 0) (harr : Cond.arrayClass .char ∈ lw_g) (h0 : ¬ len < 0) (hl0 : len.toNatClampNeg = N) (hN : N ≤ 2200) (hR : u + 1 ≤ R.cells ∧ 2200 * u + 2200 ≤ R.slots) (hn1 : n + 1 ≤ 1000000) (hd : decode Y.2.1 pc = .ok (.newarray .char, 2))
    (k : V E R Y mc (u + 1) (pc + 2) ls (.ref n :: st) (n + 1) (va_up sh n (3, N)) (z0 z n) K) : V E R Y mc u pc ls (.int len :: st) n sh z K := by
  intro p e s m args below meth c H locs la Q C hQ hP hS hl hn hu
  have ht := C.2.2.2.2.2.2.1
  refine va_newa (atype := .char) (ty := .char) (a0 := (N, .inl (fun _ => 0))) C.1 C.2.1 (ht _ harr) rfl C.2.2.2.2.2.2.2.1 hP wd_D hS (fun q hq => Nat.le_trans C.2.2.2.2.2.2.2.2.2.2.2.1 hq) (fun cA => rfl) h0 hl0 (Nat.le_trans (Nat.mul_le_mul_right _ hN) (by decide)) hR.1 (Nat.le_trans (Nat.add_le_add_left hN _) hR.2) hd (fun q cA H1 hK1 hP1 hD1 hS1 => ?_)
  have hcA : cA = E.2.1.2.2.1 3 := by
    have h1 := (hK1.2 6 _ rfl).2
    have h2 := (C.2.2.2.2.2.2.2.1.2 3 _ rfl).2
    exact Option.some.inj (Eq.trans (Eq.symm h1) h2)
  subst hcA
  refine W.widen (k := u + 1) (n := 2200 * (u + 1)) (Nat.le_refl _) (by rw [Nat.mul_add]; omega) ?_
  intro T hT X
  have hz : H1.size ≤ E.2.1.1 + n + 1 := by have h1 := X.heapSize; have h2 := hu hm; rw [← hT]; omega
  have hq := gFresh hP1 hD1 hz
  subst hq
  have he : ent E.2.1 (va_up sh n (3, N)) (z0 z n) n = .inl (E.2.1.2.2.1 3, N, .inl (fun _ => 0)) := by
    rw [ent_3 (n := N) (va_up_self _ _ _)]
    congr 4
    funext j
    simp [gi_z0, gl_z0]
  rw [wd_push he] at hP1
  have h1 := k p e s m args below meth c H1 locs la Q C hQ hP1 hS1 hl hn1 (fun q => by have := hu q; omega)
  rw [List.map_cons, ev_ref (Nat.lt_of_lt_of_le (Nat.lt_succ_self n) hn1)] at h1
  exact h1 T hT X
theorem V_newa4 {len : Int32} {N : Nat} (hm : mc ≠ 0) (harr : Cond.arrayClass .boolean ∈ lw_g) (h0 : ¬ len < 0) (hl0 : len.toNatClampNeg = N) (hN : N ≤ 2200) (hR : u + 1 ≤ R.cells ∧ 2200 * u + 2200 ≤ R.slots) (hn1 : n + 1 ≤ 1000000) (hd : decode Y.2.1 pc = .ok (.newarray .boolean, 2))
    (k : V E R Y mc (u + 1) (pc + 2) ls (.ref n :: st) (n + 1) (va_up sh n (4, N)) (z0 z n) K) : V E R Y mc u pc ls (.int len :: st) n sh z K := by
  intro p e s m args below meth c H locs la Q C hQ hP hS hl hn hu
  have ht := C.2.2.2.2.2.2.1
  refine va_newa (atype := .boolean) (ty := .boolean) (a0 := (N, .inl (fun _ => 0))) C.1 C.2.1 (ht _ harr) rfl C.2.2.2.2.2.2.2.1 hP wd_D hS (fun q hq => Nat.le_trans C.2.2.2.2.2.2.2.2.2.2.2.1 hq) (fun cA => rfl) h0 hl0 (Nat.le_trans (Nat.mul_le_mul_right _ hN) (by decide)) hR.1 (Nat.le_trans (Nat.add_le_add_left hN _) hR.2) hd (fun q cA H1 hK1 hP1 hD1 hS1 => ?_)
  have hcA : cA = E.2.1.2.2.1 4 := by
    have h1 := (hK1.2 6 _ rfl).2
    have h2 := (C.2.2.2.2.2.2.2.1.2 4 _ rfl).2
    exact Option.some.inj (Eq.trans (Eq.symm h1) h2)
  subst hcA
  refine W.widen (k := u + 1) (n := 2200 * (u + 1)) (Nat.le_refl _) (by rw [Nat.mul_add]; omega) ?_
  intro T hT X
  have hz : H1.size ≤ E.2.1.1 + n + 1 := by have h1 := X.heapSize; have h2 := hu hm; rw [← hT]; omega
  have hq := gFresh hP1 hD1 hz
  subst hq
  have he : ent E.2.1 (va_up sh n (4, N)) (z0 z n) n = .inl (E.2.1.2.2.1 4, N, .inl (fun _ => 0)) := by
    rw [ent_4 (n := N) (va_up_self _ _ _)]
    congr 4
    funext j
    simp [gi_z0, gl_z0]
  rw [wd_push he] at hP1
  have h1 := k p e s m args below meth c H1 locs la Q C hQ hP1 hS1 hl hn1 (fun q => by have := hu q; omega)
  rw [List.map_cons, ev_ref (Nat.lt_of_lt_of_le (Nat.lt_succ_self n) hn1)] at h1
  exact h1 T hT X
theorem V_objInit {idx b : Nat} (hl0 : Cond.methodLink Y.1.cls idx Lib.objectInit ∈ lw_g) (hin : Cond.instanceMethod Lib.objectInit ∈ lw_g) (hco : Cond.code Lib.objectInit ⟨#[0xb1]⟩ 1 none ∈ lw_g) (hR : 1 ≤ R.frames ∧ 20 ≤ R.locals) (hcat : (st.map fun v => v.category).sum ≤ 8) (hd : decode Y.2.1 pc = .ok (.invokespecial idx, 3)) (k : V E R Y mc u (pc + 3) ls st n sh z K) : V E R Y mc u pc ls (.ref b :: st) n sh z K := by
  intro p e s m args below meth c H locs la Q C hQ hP hS hl hn hu
  have ht := C.2.2.2.2.2.2.1
  have h1 := k p e s m args below meth c H locs la Q C hQ hP hS hl hn hu
  have hcc : ((st.map (ev E.2.1)).map fun v => v.category).sum ≤ 8 := by rw [List.map_map]; simpa [Function.comp_def, ev_cat] using hcat
  have hr := lv_room (m := m) (pc := pc) (ls := la) (rest := (.ref (rA E.2.1 b) :: st.map (ev E.2.1) : List Value)) hcc
  exact W.objInit C.1 C.2.1 C.2.2.2.2.2.1 (ht _ hl0) (ht _ hin) (ht _ hco) (g := F0 m pc la (.ref (rA E.2.1 b) :: st.map (ev E.2.1))) rfl (hl.1.trans C.2.2.1.symm) rfl hd hR.1 (Nat.le_trans (Nat.add_le_add_right hr 12) hR.2) h1
end GN
