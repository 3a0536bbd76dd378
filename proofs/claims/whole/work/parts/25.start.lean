/-! ===== the start ===== -/
def gDc : Cond → Bool
  | .declares _ => true
  | .castable _ _ => true
  | _ => false
theorem gXn_dc : gXn.all gDc = true := by decide +kernel
theorem gXn_in : gXn.all (fun w => decide (w ∈ lw_tbl)) = true := by decide +kernel
def gFn (fa : Nat → Nat) (B Ls : Nat) (xs : Nat → Int32) : State → Heap → Prop := fun U H => (vk_S 3 gLn gBy (fun i => fa (1000000 + i)) (fun i => fa (1000010 + i)) (fun q => B ≤ q) U H ∧ va_Z "java/lang/String" "COMPACT_STRINGS" "Z" (.int 1) (fun q => B ≤ q) U H ∧ (va_Z "jdk/internal/util/Preconditions" "SIOOBE_FORMATTER" "Ljava/util/function/BiFunction;" .null (fun q => B ≤ q) U H ∨ va_Z "jdk/internal/util/Preconditions" "SIOOBE_FORMATTER" "Ljava/util/function/BiFunction;" (.ref (fa 1000020)) (fun q => B ≤ q) U H) ∧ vk_R "GlassStreet$Tape" 47 gTx0 (fa 1000000) U ∧ vk_R "GlassStreet$Tape" 56 gTx1 (fa 1000001) U ∧ vk_R "GlassStreet$Law" 50 gTx2 (fa 1000002) U) ∧ va_X (fa 1000030) Ls xs U H ∧ va_AO "GlassStreet$World" U ∧ vx_Zq Bundle.tN "UNASSIGNED_STACK" Bundle.steD (fun q => B ≤ q) U H ∧ vx_Zq Bundle.tN "SUPPRESSED_SENTINEL" Bundle.listD (fun q => B ≤ q) U H ∧ ∀ w ∈ gXn, va_Nw w U
theorem gFn_ok {l : Launch} {fa : Nat → Nat} {B Ls : Nat} {xs : Nat → Int32} {cid dC : Nat → ClassId} {dI : Nat → Nat → Nat} (hb : fa 1000030 < B) : gFok (l, (B, fa, cid, dC, dI), gFn fa B Ls xs) := by
  intro u U H H' h hW hq
  obtain ⟨⟨h1, h2, h3, h4, h5, h6⟩, h7, h8, h9, h10, h11⟩ := h
  have hk : ∀ a : Nat, a < H.size → ¬ (fun q => B ≤ q) a → H'[a]? = H[a]? := fun a _ q => hq a (Nat.not_le.mp q)
  refine ⟨⟨(vk_S.moved hW.alike h1).kept hk, (va_Z.moved hW.alike h2).kept hk, ?_, vk_R.warm hW h4, vk_R.warm hW h5, vk_R.warm hW h6⟩, (va_X.moved hW.alike h7).kept (hq _ hb), va_AO.moved hW.alike h8, (vx_Zq.moved hW.alike h9).kept hk, (vx_Zq.moved hW.alike h10).kept hk, fun w hw => ?_⟩
  · rcases h3 with h | h
    · exact Or.inl ((va_Z.moved hW.alike h).kept hk)
    · exact Or.inr ((va_Z.moved hW.alike h).kept hk)
  · have h1 := h11 w hw
    have h2 := List.all_eq_true.mp gXn_dc w hw
    cases w <;> first | exact va_Nw.warmD hW h1 | exact va_Nw.warmC hW h1 | (simp [gDc] at h2; done)
theorem gArrI {args : Array Value} {s : State} {ty : FieldType} (h : (Cond.arrayClass ty).before args s = true) : ∃ cA : ClassId, ArrOfT s cA ty ∧ s.vm.findClass ("[" ++ ty.toString) = some cA := by
  obtain ⟨cA, kA, comp, h1, h2, h3⟩ := Cond.arrayClass_spec h
  exact ⟨cA, fun n z => ⟨fun k h => (by cases h), kA, h2, comp, h3⟩, h1⟩
theorem gArrW {args : Array Value} {s : State} (h : (Cond.arrayOver (.object "GlassStreet$World")).before args s = true) : ∃ cA : ClassId, ArrOfT s cA (.object "GlassStreet$World") ∧ va_RA s cA (.object "GlassStreet$World") := by
  obtain ⟨comp, cA, kA, h1, h2, h3, h4, h5⟩ := Cond.arrayOver_spec h
  exact ⟨cA, fun n z => ⟨fun k h => (by cases h), kA, h3, comp, h4⟩, kA, comp, h3, h4, h1, h5⟩
def gTm (i : Nat) : Term := if i = 0 then .string "GlassStreet$Tape" 47 else if i = 1 then .string "GlassStreet$Tape" 56 else .string "GlassStreet$Law" 50

set_option maxRecDepth 100000 in
theorem gEl0 : ∀ j : Nat, j < gLn.getD 0 0 → Cond.eq (.elem (.field (gTm 0) "java/lang/String" "value" "[B") (.int (Int32.ofNat j))) (.int ((gBy.getD 0 []).getD j 0)) ∈ flatC (Jvm.Cond.and given_1 narrow_1) := by decide +kernel
set_option maxRecDepth 100000 in
theorem gEl1 : ∀ j : Nat, j < gLn.getD 1 0 → Cond.eq (.elem (.field (gTm 1) "java/lang/String" "value" "[B") (.int (Int32.ofNat j))) (.int ((gBy.getD 1 []).getD j 0)) ∈ flatC (Jvm.Cond.and given_1 narrow_1) := by decide +kernel
set_option maxRecDepth 100000 in
theorem gEl2 : ∀ j : Nat, j < gLn.getD 2 0 → Cond.eq (.elem (.field (gTm 2) "java/lang/String" "value" "[B") (.int (Int32.ofNat j))) (.int ((gBy.getD 2 []).getD j 0)) ∈ flatC (Jvm.Cond.and given_1 narrow_1) := by decide +kernel
set_option maxRecDepth 100000 in
set_option maxHeartbeats 4000000 in
theorem gStr_of {s : State} {b : Nat} (hgv : (Jvm.Cond.and given_1 narrow_1).before #[Value.ref b] s = true) (hA : ∀ a : Nat, a < s.heap.size → ¬ (fun q => s.heap.size ≤ q) a) : ∃ adK adV : Nat → Nat, vk_S 3 gLn gBy adK adV (fun q => s.heap.size ≤ q) s s.heap ∧ ∀ i : Nat, i < 3 → (gTm i).eval #[Value.ref b] s none [] s = some (.ref (adK i)) := by
  have hs := flat_of_before _ hgv
  refine vk_Sof (tm := gTm) ?_ ?_ ?_ ?_ ?_ ?_ ?_ hA
  · intro i hi
    rcases (show i = 0 ∨ i = 1 ∨ i = 2 by omega) with rfl | rfl | rfl <;> decide
  · intro i hi
    rcases (show i = 0 ∨ i = 1 ∨ i = 2 by omega) with rfl | rfl | rfl <;> exact hs _ (by decide +kernel)
  · intro i hi
    rcases (show i = 0 ∨ i = 1 ∨ i = 2 by omega) with rfl | rfl | rfl <;> exact hs _ (by decide +kernel)
  · intro i hi
    rcases (show i = 0 ∨ i = 1 ∨ i = 2 by omega) with rfl | rfl | rfl <;> exact hs _ (by decide +kernel)
  · intro i hi
    rcases (show i = 0 ∨ i = 1 ∨ i = 2 by omega) with rfl | rfl | rfl <;> exact hs _ (by decide +kernel)
  · intro i hi
    rcases (show i = 0 ∨ i = 1 ∨ i = 2 by omega) with rfl | rfl | rfl
    · exact fun j hj => hs _ (gEl0 j hj)
    · exact fun j hj => hs _ (gEl1 j hj)
    · exact fun j hj => hs _ (gEl2 j hj)
  · intro i j hi hj hij
    rcases (show i = 0 ∨ i = 1 ∨ i = 2 by omega) with rfl | rfl | rfl <;> rcases (show j = 0 ∨ j = 1 ∨ j = 2 by omega) with rfl | rfl | rfl <;> first | exact absurd rfl hij | exact Or.inl (hs _ (by decide +kernel)) | exact Or.inr (hs _ (by decide +kernel))
/-- what holds at the law's entry -/
def lw_At (p : Program) (s : State) (m : MethodId) (meth : Method) (c : Code) (b L : Nat) (xs : Nat → Int32) : Prop :=
  p.tables.exec = Jvm.exec ∧ c.code = code ∧ meth.sig.returnType = ret ∧ c.maxLocals = 7 ∧ s.vm.findClass RL = some m.cls ∧ (∀ w ∈ lw_tbl, w.before #[Value.ref b] s = true) ∧ va_X b L xs s s.heap ∧ b < s.heap.size ∧ meth.locks = false ∧ (Jvm.Cond.and given_1 narrow_1).before #[Value.ref b] s = true ∧ meth.name = "law"
set_option maxRecDepth 100000 in
set_option maxHeartbeats 4000000 in
theorem gStart {p : Program} {s : State} {m : MethodId} {meth : Method} {c : Code} (l : Launch) (hflags : l.flags = flags0) {b L : Nat} {xs : Nat → Int32} (C0 : lw_At p s m meth c b L xs) : ∃ E : gE, E.1 = l ∧ E.2.1.1 = s.heap.size ∧ gStr E ∧ gAO E ∧ gThr E ∧ gScr E L xs ∧ gCtx E gyL_law p s m #[Value.ref b] meth c ∧ ev E.2.1 (.ref 1000030) = .ref b := by
  obtain ⟨hx, hb, hr, hml, hown, hts, hX, hbl, hlocks, hgv, hnm⟩ := C0
  have hA : ∀ a : Nat, a < s.heap.size → ¬ (fun q => s.heap.size ≤ q) a := fun a h => Nat.not_le.mpr h
  have hg : ∀ w ∈ lw_g, w.before #[Value.ref b] s = true := fun w h => hts w (List.mem_filter.mp h).1
  have hs := flat_of_before _ hgv
  obtain ⟨adK, adV, hS, hK⟩ := gStr_of hgv hA
  obtain ⟨c0, i0, k0⟩ := u_known (C := RX0) (T := TX0) (N := 6) (n := 6) hg gin_0 (hts (.instantiable RX0 6) (List.mem_of_getElem? (i := 348) (by decide +kernel)))
  obtain ⟨c1, i1, k1⟩ := u_known (C := RX2) (T := TX2) (N := 3) (n := 3) hg gin_1 (hts (.instantiable RX2 3) (List.mem_of_getElem? (i := 222) (by decide +kernel)))
  obtain ⟨c2, i2, k2⟩ := u_known (C := RX4) (T := TX4) (N := 3) (n := 3) hg gin_2 (hts (.instantiable RX4 3) (List.mem_of_getElem? (i := 202) (by decide +kernel)))
  obtain ⟨c3, i3, k3⟩ := u_known (C := RX5) (T := TX5) (N := 3) (n := 3) hg gin_3 (hts (.instantiable RX5 3) (List.mem_of_getElem? (i := 246) (by decide +kernel)))
  obtain ⟨c4, i4, k4⟩ := u_known (C := RX7) (T := TX7) (N := 14) (n := 14) hg gin_4 (hts (.instantiable RX7 14) (List.mem_of_getElem? (i := 240) (by decide +kernel)))
  obtain ⟨c5, i5, k5⟩ := u_known (C := RX9) (T := TX9) (N := 9) (n := 9) hg gin_5 (hts (.instantiable RX9 9) (List.mem_of_getElem? (i := 112) (by decide +kernel)))
  obtain ⟨c6, i6, k6⟩ := u_known (C := RX10) (T := TX10) (N := 8) (n := 8) hg gin_6 (hts (.instantiable RX10 8) (List.mem_of_getElem? (i := 157) (by decide +kernel)))
  obtain ⟨c7, i7, k7⟩ := u_known (C := RX11) (T := TX11) (N := 11) (n := 11) hg gin_7 (hts (.instantiable RX11 11) (List.mem_of_getElem? (i := 104) (by decide +kernel)))
  obtain ⟨c8, i8, k8⟩ := u_known (C := RX12) (T := TX12) (N := 31) (n := 31) hg gin_8 (hts (.instantiable RX12 31) (List.mem_of_getElem? (i := 1223) (by decide +kernel)))
  obtain ⟨q0, qa0, qb0⟩ := gArrI (hts (.arrayClass .byte) (List.mem_of_getElem? (i := 676) (by decide +kernel)))
  obtain ⟨q1, qa1, qb1⟩ := gArrI (hts (.arrayClass .int) (List.mem_of_getElem? (i := 200) (by decide +kernel)))
  obtain ⟨q2, qa2, qb2⟩ := gArrI (hts (.arrayClass .long) (List.mem_of_getElem? (i := 346) (by decide +kernel)))
  obtain ⟨q3, qa3, qb3⟩ := gArrI (hts (.arrayClass .char) (List.mem_of_getElem? (i := 155) (by decide +kernel)))
  obtain ⟨q4, qa4, qb4⟩ := gArrI (hts (.arrayClass .boolean) (List.mem_of_getElem? (i := 1366) (by decide +kernel)))
  have hao : (Cond.arrayOver (.object "GlassStreet$World")).before #[Value.ref b] s = true := hts _ (List.mem_of_getElem? (i := 208) (by decide +kernel))
  obtain ⟨q5, qa5, qb5⟩ := gArrW hao
  have zU : vx_Zq Bundle.tN "UNASSIGNED_STACK" Bundle.steD (fun q => s.heap.size ≤ q) s s.heap := vx_Zqof (hts _ (List.mem_of_getElem? (i := 1172) (by decide +kernel))) (hts _ (List.mem_of_getElem? (i := 99) (by decide +kernel))) (hs _ (by decide +kernel)) hA
  have zS : vx_Zq Bundle.tN "SUPPRESSED_SENTINEL" Bundle.listD (fun q => s.heap.size ≤ q) s s.heap := vx_Zqof (hts _ (List.mem_of_getElem? (i := 1174) (by decide +kernel))) (hts _ (List.mem_of_getElem? (i := 99) (by decide +kernel))) (hs _ (by decide +kernel)) hA
  have zF : vx_Zq "jdk/internal/util/Preconditions" "SIOOBE_FORMATTER" "Ljava/util/function/BiFunction;" (fun q => s.heap.size ≤ q) s s.heap := vx_Zqof (hts _ (List.mem_of_getElem? (i := 479) (by decide +kernel))) (hts _ (List.mem_of_getElem? (i := 90) (by decide +kernel))) (hs _ (by decide +kernel)) hA
  have zC : va_Z "java/lang/String" "COMPACT_STRINGS" "Z" (.int 1) (fun q => s.heap.size ≤ q) s s.heap := va_Zof (hts _ (List.mem_of_getElem? (i := 463) (by decide +kernel))) (hts _ (List.mem_of_getElem? (i := 88) (by decide +kernel))) (va_eqi (hs _ (by decide +kernel))) hA
  obtain ⟨tf, htf⟩ : ∃ tf : Nat, va_Z "jdk/internal/util/Preconditions" "SIOOBE_FORMATTER" "Ljava/util/function/BiFunction;" .null (fun q => s.heap.size ≤ q) s s.heap ∨ va_Z "jdk/internal/util/Preconditions" "SIOOBE_FORMATTER" "Ljava/util/function/BiFunction;" (.ref tf) (fun q => s.heap.size ≤ q) s s.heap := by
    rcases zF.1 with h | ⟨t, h⟩
    · exact ⟨0, Or.inl h⟩
    · exact ⟨t, Or.inr h⟩
  obtain ⟨fa, hfa⟩ : ∃ fa : Nat → Nat, fa = fun k => if k = 1000000 then adK 0 else if k = 1000001 then adK 1 else if k = 1000002 then adK 2 else if k = 1000010 then adV 0 else if k = 1000011 then adV 1 else if k = 1000012 then adV 2 else if k = 1000020 then tf else b := ⟨_, rfl⟩
  have f0 : ∀ i, i < 3 → fa (1000000 + i) = adK i := by
    intro i hi
    rw [hfa]
    rcases (show i = 0 ∨ i = 1 ∨ i = 2 by omega) with rfl | rfl | rfl <;> simp
  have f1 : ∀ i, i < 3 → fa (1000010 + i) = adV i := by
    intro i hi
    rw [hfa]
    rcases (show i = 0 ∨ i = 1 ∨ i = 2 by omega) with rfl | rfl | rfl <;> simp
  have f2 : fa 1000020 = tf := by rw [hfa]; simp
  have f3 : fa 1000030 = b := by rw [hfa]; simp
  have hS' : vk_S 3 gLn gBy (fun i => fa (1000000 + i)) (fun i => fa (1000010 + i)) (fun q => s.heap.size ≤ q) s s.heap := by
    refine ⟨fun i hi => ?_, fun i j hi hj h => hS.2 i j hi hj (by rw [← f0 i hi, ← f0 j hj]; exact h)⟩
    dsimp only
    rw [f0 i hi, f1 i hi]
    exact hS.1 i hi
  have hFn : gFn fa s.heap.size L xs s s.heap := by
    refine ⟨⟨hS', zC, by rw [f2]; exact htf, ?_, ?_, ?_⟩, by rw [f3]; exact hX, hao, zU, zS, fun w hw => ?_⟩
    · exact vk_R.of (hts _ (List.mem_of_getElem? (i := 449) (by decide +kernel))) (by rw [show fa 1000000 = adK 0 from f0 0 (by decide)]; exact hK 0 (by decide))
    · exact vk_R.of (hts _ (List.mem_of_getElem? (i := 506) (by decide +kernel))) (by rw [show fa 1000001 = adK 1 from f0 1 (by decide)]; exact hK 1 (by decide))
    · exact vk_R.of (hts _ (List.mem_of_getElem? (i := 634) (by decide +kernel))) (by rw [show fa 1000002 = adK 2 from f0 2 (by decide)]; exact hK 2 (by decide))
    · exact va_Nw.of (gXn_ot w hw) (hts w (of_decide_eq_true (List.all_eq_true.mp gXn_in w hw)))
  obtain ⟨dC, dI, hKc⟩ : ∃ (dC : Nat → ClassId) (dI : Nat → Nat → Nat), ∀ (k : Nat) (q : vw_C), vwCl[k]? = some q → u_Kn s q.1 q.2.1 q.2.2 (dC k) (dI k) := by
    refine ⟨fun k => [c0, c1, c2, c3, c4, c5, c6, c7, c8].getD k c0, fun k => [i0, i1, i2, i3, i4, i5, i6, i7, i8].getD k i0, ?_⟩
    intro k q hq
    match k, hq with
    | 0, hq => cases hq; exact k0
    | 1, hq => cases hq; exact k1
    | 2, hq => cases hq; exact k2
    | 3, hq => cases hq; exact k3
    | 4, hq => cases hq; exact k4
    | 5, hq => cases hq; exact k5
    | 6, hq => cases hq; exact k6
    | 7, hq => cases hq; exact k7
    | 8, hq => cases hq; exact k8
    | k + 9, hq => simp [vwCl] at hq
  obtain ⟨cid, hcid⟩ : ∃ cid : Nat → ClassId, cid = fun k => [q0, q1, q2, q3, q4, q5].getD k q0 := ⟨_, rfl⟩
  have hKK : va_K (dC, dI) vwCl (gty (s.heap.size, fa, cid, dC, dI)) s := by
    refine ⟨hKc, fun k q hq => ?_⟩
    subst hcid
    match k, hq with
    | 0, hq => cases hq; exact ⟨qa0, qb0⟩
    | 1, hq => cases hq; exact ⟨qa1, qb1⟩
    | 2, hq => cases hq; exact ⟨qa2, qb2⟩
    | 3, hq => cases hq; exact ⟨qa3, qb3⟩
    | 4, hq => cases hq; exact ⟨qa4, qb4⟩
    | 5, hq => cases hq; exact ⟨qa5, qb5⟩
    | k + 6, hq => simp [gty] at hq
  have hb30 : fa 1000030 < s.heap.size := by rw [f3]; exact hbl
  refine ⟨(l, (s.heap.size, fa, cid, dC, dI), gFn fa s.heap.size L xs), rfl, rfl, fun U H h => h.1, fun U H h => h.2.2.1, ⟨?_, fun U H h => ⟨h.2.2.2.1, h.2.2.2.2.1, h.2.2.2.2.2⟩⟩, ⟨fun U H h => h.2.1, hb30⟩, ⟨hx, hb, hml, hr, hlocks, hown, hg, hKK, ?_, hFn, gFn_ok hb30, Nat.le_refl _, hnm⟩, ?_⟩
  · show l.stackTraces = false
    unfold Launch.stackTraces
    rw [hflags]
    decide +kernel
  · intro w hw
    have h1 := List.mem_filter.mp hw
    have h2 := h1.2
    have h3 := hts w h1.1
    cases w <;> first | exact va_Nw.of rfl h3 | (simp [gNest] at h2; done)
  · show Value.ref _ = _
    rw [rA_far (by decide)]
    show Value.ref (fa 1000030) = _
    rw [f3]
theorem lk_8 : Cond.classLink RL 8 (gC 7).1 ∈ lw_g := lw_g_in (List.mem_of_getElem? (i := 103) (by decide +kernel)) (by decide +kernel)
theorem lk_16 : Cond.classLink RL 16 (gC 8).1 ∈ lw_g := lw_g_in (List.mem_of_getElem? (i := 1225) (by decide +kernel)) (by decide +kernel)
theorem gk_L_15 : gCI RL 15 gyX11_init 0 := ⟨⟨lw_g_in (List.mem_of_getElem? (i := 107) (by decide +kernel)) (by decide +kernel), lw_g_in (List.mem_of_getElem? (i := 78) (by decide +kernel)) (by decide +kernel), ⟨by decide, by decide, by decide +kernel⟩, Or.inl (lw_g_in (List.mem_of_getElem? (i := 105) (by decide +kernel)) (by decide +kernel))⟩, lw_g_in (List.mem_of_getElem? (i := 106) (by decide +kernel)) (by decide +kernel), rfl, rfl⟩
theorem gk_L_18 : gCI RL 18 gyX12_init 0 := ⟨⟨lw_g_in (List.mem_of_getElem? (i := 1228) (by decide +kernel)) (by decide +kernel), lw_g_in (List.mem_of_getElem? (i := 86) (by decide +kernel)) (by decide +kernel), ⟨by decide, by decide, by decide +kernel⟩, Or.inl (lw_g_in (List.mem_of_getElem? (i := 1226) (by decide +kernel)) (by decide +kernel))⟩, lw_g_in (List.mem_of_getElem? (i := 1227) (by decide +kernel)) (by decide +kernel), rfl, rfl⟩
theorem in_7 : Cond.instantiable (gC 7).1 (gC 7).2.2 ∈ lw_g := lw_g_in (List.mem_of_getElem? (i := 104) (by decide +kernel)) (by decide +kernel)
theorem iz_7 : Cond.initialized (gC 7).1 ∈ lw_g := lw_g_in (List.mem_of_getElem? (i := 78) (by decide +kernel)) (by decide +kernel)
theorem in_8 : Cond.instantiable (gC 8).1 (gC 8).2.2 ∈ lw_g := lw_g_in (List.mem_of_getElem? (i := 1223) (by decide +kernel)) (by decide +kernel)
theorem iz_8 : Cond.initialized (gC 8).1 ∈ lw_g := lw_g_in (List.mem_of_getElem? (i := 86) (by decide +kernel)) (by decide +kernel)
def gSHl : List (Nat × Nat) := [(0, 7), (0, 5), (3, 1000), (0, 6), (1, 5), (1, 6), (1, 36), (0, 6), (1, 5), (1, 6), (1, 36), (0, 2), (5, 16), (0, 6), (1, 5), (1, 6), (1, 36), (0, 6), (1, 5), (1, 6), (1, 36), (0, 6), (1, 5), (1, 6), (1, 36), (0, 6), (1, 5), (1, 6), (1, 36), (0, 6), (1, 5), (1, 6), (1, 36), (0, 6), (1, 5), (1, 6), (1, 36), (0, 6), (1, 5), (1, 6), (1, 36), (0, 6), (1, 5), (1, 6), (1, 36), (0, 6), (1, 5), (1, 6), (1, 36), (0, 6), (1, 5), (1, 6), (1, 36), (0, 6), (1, 5), (1, 6), (1, 36), (0, 6), (1, 5), (1, 6), (1, 36), (0, 6), (1, 5), (1, 6), (1, 36), (0, 6), (1, 5), (1, 6), (1, 36), (0, 6), (1, 5), (1, 6), (1, 36), (0, 6), (1, 5), (1, 6), (1, 36), (5, 4), (0, 1), (0, 4), (0, 3), (1, 1000), (1, 32), (1, 6), (1, 6), (1, 6), (1, 5), (1, 5), (1, 12), (2, 6), (2, 5), (2, 5), (0, 4), (0, 3), (1, 1000), (1, 32), (1, 6), (1, 6), (1, 6), (1, 5), (1, 5), (1, 12), (2, 6), (2, 5), (2, 5), (0, 0), (1, 40), (1, 40), (1, 40), (0, 0), (1, 40), (1, 40), (1, 40), (0, 6), (1, 5), (1, 6), (1, 36), (0, 6), (1, 5), (1, 6), (1, 36), (0, 6), (1, 5), (1, 6), (1, 36), (0, 6), (1, 5), (1, 6), (1, 36), (0, 8), (1, 1000), (1, 1002), (1, 1002), (2, 1002), (2, 26), (1, 120), (1, 2200), (1, 2200), (2, 16), (2, 16), (1, 16), (1, 16), (1, 250), (1, 4), (1, 1100), (1, 1518), (4, 4), (2, 1)]
def gSH (a : Nat) : Nat × Nat := gSHl.getD a (9, 0)
def wL_pre (sh : Nat → Nat × Nat) (z : gS) (Ls : Nat) (xs : Nat → Int32) (P : Int32 → gS → Prop) : Prop :=
  wX11_init 1 (va_up sh 0 (0, 7)) 0 (z0 z 0) (fun n1 sh1 z1 => n1 = 129 ∧ wX12_init 130 (va_up sh1 129 (0, 8)) 129 (z0 z1 129) (fun n2 sh2 z2 => n2 = 147 ∧ va_up sh2 147 (2, 1) = gSH ∧ ∃ N, N ≤ 2000 ∧ wL_law_L23 148 gSH Ls xs P N 0 129 147 0 (z0 z2 147)))
set_option maxRecDepth 100000 in
set_option maxHeartbeats 4000000 in
theorem vL_law_0 {E : gE} {sh : Nat → Nat × Nat} {z : gS} {Ls : Nat} {xs : Nat → Int32} {P : Int32 → gS → Prop} (hs : gStr E) (hao : gAO E) (hth : gThr E) (hsc : gScr E Ls xs) (hf : wL_pre sh z Ls xs P) : V E gRm gyL_law 1 0 0 [(0, .ref 1000030)] [] 0 sh z (kI 148 gSH P) := by
  unfold wL_pre at hf
  refine V_new (ci := 7) (by decide) (by decide) lk_8 in_7 iz_7 df_7 (by decide) ⟨by decide, by decide⟩ (by decide) dL_law_0 ?_
  refine V_dup dL_law_3 rfl ?_
  refine V_callI (mc1 := 128) (av := []) (ctX11_init (n := 1) ⟨by decide, hs⟩ hao (by decide) hf) gk_L_15 rfl ⟨by decide, by decide, by decide, by decide⟩ (Nat.le_of_ble_eq_true rfl) (by decide) dL_law_4 (fun r n1 sh1 z1 hf => ?_)
  obtain ⟨hr, hn1, hf⟩ := hf
  subst hr
  subst hn1
  refine ⟨by decide, fun _ => rfl, ?_⟩
  show V E gRm gyL_law 1 129 7 [(0, .ref 1000030)] [.ref 0] 129 sh1 z1 (kI 148 gSH P)
  refine V_astore_n (ls2 := [(1, .ref 0), (0, .ref 1000030)]) dL_law_7 rfl (by decide) rfl ?_
  refine V_new (ci := 8) (by decide) (by decide) lk_16 in_8 iz_8 df_8 (by decide) ⟨by decide, by decide⟩ (by decide) dL_law_8 ?_
  refine V_dup dL_law_11 rfl ?_
  refine V_callI (mc1 := 17) (av := []) (ctX12_init (n := 130) ⟨by decide, hs⟩ hao (by decide) hf) gk_L_18 rfl ⟨by decide, by decide, by decide, by decide⟩ (Nat.le_of_ble_eq_true rfl) (by decide) dL_law_12 (fun r n2 sh2 z2 hf => ?_)
  obtain ⟨hr, hn2, hf⟩ := hf
  subst hr
  subst hn2
  refine ⟨by decide, fun _ => rfl, ?_⟩
  show V E gRm gyL_law 1 147 15 [(1, .ref 0), (0, .ref 1000030)] [.ref 129] 147 sh2 z2 (kI 148 gSH P)
  refine V_astore_n (ls2 := [(2, .ref 129), (1, .ref 0), (0, .ref 1000030)]) dL_law_15 rfl (by decide) rfl ?_
  refine V_iconst (v := (1 : Int32)) dL_law_16 (by decide) ?_
  refine V_newa2 (N := 1) (by decide) ar_2 (by decide) (by decide) (by decide) ⟨by decide, by decide⟩ (by decide) dL_law_17 ?_
  refine V_astore_n (ls2 := [(3, .ref 147), (2, .ref 129), (1, .ref 0), (0, .ref 1000030)]) dL_law_19 rfl (by decide) rfl ?_
  refine V_iconst (v := (0 : Int32)) dL_law_20 (by decide) ?_
  refine V_istore (ls2 := [(4, .int 0), (3, .ref 147), (2, .ref 129), (1, .ref 0), (0, .ref 1000030)]) dL_law_21 (by decide) rfl ?_
  obtain ⟨hsh, N, hN, hf⟩ := hf
  rw [hsh]
  refine V_mc ?_
  refine V_to [4, 3, 2, 1, 0] rfl ?_
  exact vL_law_L23 ⟨by decide, hs⟩ hth hsc N 148 (by omega) 0 129 147 0 _ hf
