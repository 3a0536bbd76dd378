/-! ===== contracts ===== -/
def gQK (E : gE) (K : gK) : Array Value → State → Outcome → State → Prop := fun _ st oc t => (∃ (r : Option Value) (n : Nat) (sh : Nat → Nat × Nat) (z : gS), oc = .returned (r.map (ev E.2.1)) ∧ K r n sh z ∧ va_P (gD E.2.1) vwCl (wd E.2.1 n sh z) t.heap) ∧ va_F (gA E.2.1) st t
def gCx (E : gE) (mc n : Nat) (sh : Nat → Nat × Nat) (z : gS) (U : State) : Prop := va_P (gD E.2.1) vwCl (wd E.2.1 n sh z) U.heap ∧ va_K (gD E.2.1) vwCl (gty E.2.1) U ∧ gNW U ∧ E.2.2 U U.heap ∧ gFok E ∧ E.2.1.1 ≤ U.heap.size ∧ n ≤ 1000000 ∧ (mc ≠ 0 → U.heap.size = E.2.1.1 + n)
abbrev gR (d mc : Nat) : Room := { frames := d, cells := mc, slots := 2200 * mc, locals := 64 * d }
def VM (E : gE) (d mc : Nat) (Y : gY) (av : List Value) (n : Nat) (sh : Nat → Nat × Nat) (z : gS) (K : gK) : Prop :=
  Met E.1 Y.1 (Cond.code Y.1 Y.2.1 Y.2.2.1 Y.2.2.2 :: lw_g) (gR d mc) (va_Pc (av.map (ev E.2.1)) (gCx E mc n sh z)) (gQK E K) mc (2200 * mc) (gA E.2.1)
theorem gsl_len (G : gG) (vs : List Value) : (lg_sl (vs.map (ev G))).length = (lg_sl vs).length := by
  induction vs with
  | nil => rfl
  | cons v vs ih =>
    simp only [lg_sl, List.map_cons, List.flatMap_cons, List.length_append, ev_cat] at ih ⊢
    rw [ih]
    by_cases h : v.category = 2 <;> simp [h]
theorem gargs (G : gG) (vs : List Value) : ∀ i, lv_args i (vs.map (ev G)) = (lv_args i vs).map (evl G) := by
  induction vs with
  | nil => intro i; rfl
  | cons v vs ih =>
    intro i
    simp only [List.map_cons, lv_args, ev_cat]
    rw [ih]
    rfl
theorem gOfW {l : Launch} {y : MethodName} {ws ws' : List Cond} {rm : Room} {Pc : Array Value → State → Prop} {Qc : Array Value → State → Outcome → State → Prop} {mc ms : Nat} {free : Addr → Prop} {cc : ByteArray} {maxL : Nat} {ret : Option FieldType}
    (hy : plainFor y = true) (hw : ws = Cond.code y cc maxL ret :: ws')
    (body : ∀ p e s m args below meth c s₁, BodyLoose p l y (headSpec ws rm) cc maxL ret e s m args below meth c s₁ → c.maxLocals = maxL → Pc args s →
      W p l e (headSpec ws rm).room s m args below meth c s.heap [] 0 0 (MQ below Qc args s mc ms free) (entryFrame m args maxL)) : Met l y ws rm Pc Qc mc ms free := by
  refine MetFree.of_bodySF (code := cc) (maxLocals := maxL) (ret := ret) hy ?_ ?_
  · intro args s m h hn
    obtain ⟨meth, c, h1, h2, h3, h4, h5, h6, -, -⟩ := Cond.code_spec hn (atoms_spec (ws := ws) h _ (by rw [hw]; exact List.mem_cons_self))
    exact ⟨meth, c, h1, h2, h3, h4, h5, h6⟩
  · intro p e s m args below meth c s₁ B hml hP _
    have hh0 : s₁.heap = s.heap := by rw [B.state]; rfl
    obtain ⟨t, a1, o, b1, b2, b3⟩ := body p e s m args below meth c s₁ B hml hP s₁ hh0 (Stand.of_body B)
    exact ⟨t, o, a1, b1, b2, ⟨b3.1, b3.2⟩⟩
theorem VM.of {E : gE} {d mc : Nat} {Y : gY} {av : List Value} {n : Nat} {sh : Nat → Nat × Nat} {z : gS} {K : gK} (hy : plainFor Y.1 = true) (hl : (lg_sl av).length ≤ Y.2.2.1) (hnt : ∀ n sh z, ¬ K (some .null) n sh z) (h : V E (gR d mc) Y mc 0 0 (lv_args 0 av) [] n sh z K) : VM E d mc Y av n sh z K := by
  refine gOfW (cc := Y.2.1) (maxL := Y.2.2.1) (ret := Y.2.2.2) hy rfl ?_
  intro p e s m args below meth c s₁ B hml hv
  obtain ⟨rfl, hP, hK, hN, hF, hFok, hB, hn, hu⟩ := hv
  have hts := atoms_spec (ws := Cond.code Y.1 Y.2.1 Y.2.2.1 Y.2.2.2 :: lw_g) B.pre
  have hlo := B.notSynchronized
  have hret : meth.sig.returnType = Y.2.2.2 := B.returns
  rw [lg_entry_eq]
  have C : gCtx E Y p s m (av.map (ev E.2.1)).toArray meth c := ⟨B.exec, B.bytes, hml, hret, hlo, findClass_of_methodNamed B.named, fun w hw => hts w (List.mem_cons_of_mem _ hw), hK, hN, hF, hFok, hB, (name_of_methodNamed B.named B.method).1⟩
  have hl1 := lv_entry (av.map (ev E.2.1)) (n := Y.2.2.1) (by rw [gsl_len]; exact hl)
  rw [gargs] at hl1
  refine h p e s m _ below meth c s.heap [] _ _ C ?_ hP va_S.rf hl1 hn (fun q => by rw [hu q]; rfl)
  intro r n1 sh1 z1 H1 l1 u1 hk hP1 hS1 hu1
  refine ⟨fun v rt pc la hr1 hr2 hnw hd => ?_, fun pc la hr1 hr2 hd => ?_, fun pc la hr1 _ _ _ => absurd (hr1 ▸ hk) (hnt n1 sh1 z1)⟩
  · refine W.widen (k := mc) (n := 2200 * mc) hu1 (Nat.mul_le_mul_left _ hu1) ?_
    refine W.zret C.1 C.2.1 (hret.trans hr2) hnw (fun t ht _ => ⟨⟨r, n1, sh1, z1, ?_, hk, by rw [ht]; exact hP1⟩, hS1.F ht⟩) hS1.2.2 hd
    rw [hr1]
    rfl
  · refine W.widen (k := mc) (n := 2200 * mc) hu1 (Nat.mul_le_mul_left _ hu1) ?_
    refine W.vret C.1 C.2.1 (hret.trans hr2) (fun t ht _ => ⟨⟨r, n1, sh1, z1, ?_, hk, by rw [ht]; exact hP1⟩, hS1.F ht⟩) hS1.2.2 hd
    rw [hr1]
    rfl
theorem VM.mono {E : gE} {d mc : Nat} {Y : gY} {av : List Value} {n : Nat} {sh : Nat → Nat × Nat} {z : gS} {K K2 : gK} (h : VM E d mc Y av n sh z K) (hK : K = K2) : VM E d mc Y av n sh z K2 := hK ▸ h
section GC
variable {E : gE} {R : Room} {Y : gY} {mc u pc : Nat} {ls : List (Nat × Value)} {st : List Value} {n : Nat} {sh : Nat → Nat × Nat} {z : gS} {K : gK}
theorem gRun {p : Program} {e : Env} {s : State} {m : MethodId} {args : Array Value} {below : List Frame} {meth : Method} {c : Code} {H : Heap} {locs : List Loc} {la : Array Slot} {Q : State → Prop} {cells slots mc1 ms1 : Nat} {rest st0 : List Value} {K1 : gK} {a : Array Value} (hr : va_Run p E.1 e R s m args below meth c H locs cells slots mc1 ms1 (F0 m pc la st0) rest (gQK E K1 a) (gA E.2.1)) (hS : va_S (gA E.2.1) s.heap H locs)
    (kk : ∀ (r : Option Value) (n1 : Nat) (sh1 : Nat → Nat × Nat) (z1 : gS) (H1 : Heap) (l1 : List Loc), K1 r n1 sh1 z1 → va_P (gD E.2.1) vwCl (wd E.2.1 n1 sh1 z1) H1 → va_S (gA E.2.1) s.heap H1 l1 → W p E.1 e R s m args below meth c H1 l1 (cells + mc1) (slots + ms1) Q (F0 m (pc + 3) la ((r.map (ev E.2.1)).toList ++ rest))) : W p E.1 e R s m args below meth c H locs cells slots Q (F0 m pc la st0) := by
  intro T hT X
  obtain ⟨v, st₀, t, T', L, h0, X', hL, e1, e2, ⟨⟨r, n1, sh1, z1, hv, hk, hp⟩, hz, hkk⟩, stp⟩ := hr T hT X
  cases hv
  rw [h0] at hz hkk
  obtain ⟨t2, a1, b1⟩ := kk r n1 sh1 z1 T'.heap (locs ++ L) hk (by rw [e1]; exact hp) ⟨Nat.le_trans hS.1 (by rw [e1]; exact hz), fun q h1 h2 => by rw [e1, hkk q (Nat.lt_of_lt_of_le h1 hS.1) h2]; exact hS.2.1 q h1 h2, fun q hq => by
      rcases List.mem_append.mp hq with h | h
      · exact hS.2.2 q h
      · exact hL q h⟩ T' rfl X'
  exact ⟨t2, stp t2 a1, b1⟩
theorem gBlind {av : List Value} {mc1 : Nat} : FrameBlind (va_Pc (av.map (ev E.2.1)) (gCx E mc1 n sh z)) := by
  intro a U g mk h
  obtain ⟨h0, hP, hK, hN, hF, hFok, hB, hn, hu⟩ := h
  exact ⟨h0, hP, va_K.moved (u := U) (U := U.calling g mk a) (Vm.Alike.refl U.vm) hK, gNW.same (u := U) (U := U.calling g mk a) rfl hN, hFok U (U.calling g mk a) U.heap _ hF (State.WarmedH.refl U) (fun _ _ => rfl), hFok, hB, hn, hu⟩
/-- the words of a call -/
def gCL (own : String) (idx : Nat) (Y : gY) (np : Nat) : Prop := Cond.code Y.1 Y.2.1 Y.2.2.1 Y.2.2.2 ∈ lw_g ∧ Cond.initialized Y.1.cls ∈ lw_g ∧ (Y.1.cls ≠ "java/lang/invoke/MethodHandle" ∧ Y.1.cls ≠ "java/lang/invoke/VarHandle" ∧ (parseMethodDescriptor Y.1.desc).map (fun d => d.parameters.length) = some np) ∧ ((Cond.methodLink own idx Y.1 ∈ lw_g) ∨ ∃ host, Cond.methodLinkNest own idx Y.1 host ∈ lw_n)
def gCS (own : String) (idx : Nat) (Y : gY) (np : Nat) : Prop := gCL own idx Y np ∧ Cond.static Y.1 ∈ lw_g
def gCV (own : String) (idx : Nat) (Y : gY) (np : Nat) : Prop := gCL own idx Y np ∧ Cond.instanceMethod Y.1 ∈ lw_g ∧ Cond.selects Y.1.cls Y.1 Y.1 ∈ lw_g
def gCI (own : String) (idx : Nat) (Y : gY) (np : Nat) : Prop := gCL own idx Y np ∧ Cond.instanceMethod Y.1 ∈ lw_g ∧ Y.1.name = "<init>" ∧ Y.2.2.2 = none
theorem gGood {Y1 : gY} (h : Cond.code Y1.1 Y1.2.1 Y1.2.2.1 Y1.2.2.2 ∈ lw_g) : GoodIn lw_g (Cond.code Y1.1 Y1.2.1 Y1.2.2.1 Y1.2.2.2 :: lw_g) := fun w hw => (List.mem_cons.mp hw).elim (fun q => q ▸ lw_g_good _ h) (lw_g_good w)
/-- a heap's size where cells were made one behind another -/
theorem gSize {p : Program} {e : Env} {s : State} {m : MethodId} {args : Array Value} {below : List Frame} {meth : Method} {c : Code} {T : State} {locs : List Loc} {slots : Nat} (X : Stand p E.1 e R s m args below meth c T locs u slots) (hP : va_P (gD E.2.1) vwCl (wd E.2.1 n sh z) T.heap) (hB : E.2.1.1 ≤ s.heap.size) (hS : s.heap.size ≤ T.heap.size) (hu : s.heap.size + u = E.2.1.1 + n) : T.heap.size = E.2.1.1 + n := by
  have h1 := X.heapSize
  rcases Nat.eq_zero_or_pos n with h | h
  · omega
  · have h2 := (hP (n - 1) _ (wd_at (by omega))).lt
    dsimp only at h2
    omega
theorem gPre {p : Program} {s : State} {m : MethodId} {args : Array Value} {meth : Method} {c : Code} {H : Heap} {locs : List Loc} {av : List Value} {mc1 : Nat} (C : gCtx E Y p s m args meth c) (hP : va_P (gD E.2.1) vwCl (wd E.2.1 n sh z) H) (hS : va_S (gA E.2.1) s.heap H locs) (hn : n ≤ 1000000) (hz : mc1 ≠ 0 → H.size = E.2.1.1 + n) : ∀ U : State, U.heap = H → s.WarmedH U.vm → va_Pc (av.map (ev E.2.1)) (gCx E mc1 n sh z) (av.map (ev E.2.1)).toArray U := by
  intro U hU hW
  subst hU
  exact ⟨rfl, hP, va_K.moved hW.alike C.2.2.2.2.2.2.2.1, gNW.warm hW C.2.2.2.2.2.2.2.2.1, C.2.2.2.2.2.2.2.2.2.2.1 s U s.heap _ C.2.2.2.2.2.2.2.2.2.1 hW (fun q hq => hS.2.1 q (Nat.lt_of_lt_of_le hq C.2.2.2.2.2.2.2.2.2.2.2.1) (Nat.not_le.mpr hq)), C.2.2.2.2.2.2.2.2.2.2.1, Nat.le_trans C.2.2.2.2.2.2.2.2.2.2.2.1 hS.1, hn, hz⟩

def gRv (E : gE) (n : Nat) (sh : Nat → Nat × Nat) (z : gS) (b : Nat) (CN : String) : Prop := ∀ (s : State) (H : Heap) (locs : List Loc), E.2.2 s s.heap → va_K (gD E.2.1) vwCl (gty E.2.1) s → va_P (gD E.2.1) vwCl (wd E.2.1 n sh z) H → va_S (gA E.2.1) s.heap H locs → n ≤ 1000000 → ∃ cell : Cell, H[rA E.2.1 b]? = some cell ∧ cell.vm.isStatics = false ∧ s.vm.findClass CN = some cell.cls
theorem gRv.of {b : Nat} {CN : String} (hb : b < n) (hbs : ∃ ci, sh b = (0, ci) ∧ ci < 9 ∧ (gC ci).1 = CN) : gRv E n sh z b CN := by
  intro s H locs _ hK hP _ hn
  obtain ⟨ci, hs1, hci, hcn⟩ := hbs
  have hrA : rA E.2.1 b = E.2.1.1 + b := by simp [rA, Nat.lt_of_lt_of_le hb hn]
  rw [hrA, ← hcn]
  exact va_recv hK hP (gcl ci hci) ((wd_at hb).trans (by rw [ent_o hs1]))

theorem V_callS {Y1 : gY} {d1 mc1 idx np : Nat} {av : List Value} {K1 : gK} (hM : VM E d1 mc1 Y1 (av) n sh z K1) (hc : gCS Y.1.cls idx Y1 np) (ha : av.length = np) (hR : d1 + 1 ≤ R.frames ∧ 64 * d1 + 19 + Y1.2.2.1 ≤ R.locals ∧ u + mc1 ≤ R.cells ∧ 2200 * u + 2200 * mc1 ≤ R.slots) (hcat : (st.map fun v => v.category).sum ≤ 8) (hm : mc1 ≠ 0 → mc ≠ 0) (hd : decode Y.2.1 pc = .ok (.invokestatic idx, 3)) (k : ∀ (r : Option Value) (n1 : Nat) (sh1 : Nat → Nat × Nat) (z1 : gS), K1 r n1 sh1 z1 → n1 ≤ 1000000 ∧ (mc ≠ 0 → n1 = n + mc1) ∧ V E R Y mc (u + mc1) (pc + 3) ls (r.toList ++ st) n1 sh1 z1 K) : V E R Y mc u pc ls (av.reverse ++ st) n sh z K := by
  intro p e s m args below meth c H locs la Q C hQ hP hS hl hn hu
  have hst : (av.reverse ++ st).map (ev E.2.1) = (av.map (ev E.2.1)).reverse ++ st.map (ev E.2.1) := by simp
  rw [hst]
  intro T hT X
  have hz : mc1 ≠ 0 → H.size = E.2.1.1 + n := fun q => by rw [← hT]; exact gSize X (by rw [hT]; exact hP) C.2.2.2.2.2.2.2.2.2.2.2.1 (by rw [hT]; exact hS.1) (hu (hm q))
  revert T hT X
  have hpre := gPre (av := av) (mc1 := mc1) C hP hS hn hz
  obtain ⟨⟨hcode, hini, hdd, hlink⟩, hrest⟩ := hc
  have ht := C.2.2.2.2.2.2.1
  have hRR : (gR d1 mc1).frames + 1 ≤ R.frames ∧ 8 + (Y1.2.2.1 + 11) + (gR d1 mc1).locals ≤ R.locals := ⟨hR.1, by have := hR.2.1; show 8 + (Y1.2.2.1 + 11) + 64 * d1 ≤ _; (try dsimp only at this); omega⟩
  refine gRun (mc1 := mc1) (ms1 := 2200 * mc1) (K1 := K1) (a := ((av).map (ev E.2.1)).toArray) (rest := st.map (ev E.2.1)) ?_ hS ?_
  · rcases hlink with h | ⟨host, h⟩
    · exact va_runS (As := av.map (ev E.2.1)) ⟨C.1, C.2.1, C.2.2.1, C.2.2.2.2.2.1, ht⟩ hM ⟨callB_of np ht (gGood hcode) rfl rfl rfl (ht _ hini) (ht _ h) hdd hRR, ht _ hrest⟩ ⟨gBlind, hpre⟩ rfl (by simpa using ha) (hl.1.trans rfl) rfl (lv_room (by rw [List.map_map]; simpa [Function.comp_def, ev_cat] using hcat)) hd ⟨hR.2.2.1, hR.2.2.2⟩
    · exact va_runSN (As := av.map (ev E.2.1)) ⟨C.1, C.2.1, C.2.2.1, C.2.2.2.2.2.1, ht⟩ hM ⟨va_cnB np ht (gGood hcode) rfl rfl rfl (C.2.2.2.2.2.2.2.2.1 _ h) (ht _ hini) hdd hRR, ht _ hrest, trivial⟩ ⟨gBlind, hpre⟩ rfl (by simpa using ha) (hl.1.trans rfl) rfl (lv_room (by rw [List.map_map]; simpa [Function.comp_def, ev_cat] using hcat)) hd ⟨hR.2.2.1, hR.2.2.2⟩
  · intro r n1 sh1 z1 H1 l1 hk hP1 hS1
    obtain ⟨g1, g2, g3⟩ := k r n1 sh1 z1 hk
    have g4 := g3 p e s m args below meth c H1 l1 la Q C hQ hP1 hS1 hl g1 (fun q => by have := hu q; have := g2 q; omega)
    rw [Nat.mul_add] at g4
    rw [show (r.toList ++ st).map (ev E.2.1) = (r.map (ev E.2.1)).toList ++ st.map (ev E.2.1) by cases r <;> simp] at g4
    exact g4
theorem V_callV {Y1 : gY} {d1 mc1 idx np b : Nat} {av : List Value} {K1 : gK} (hM : VM E d1 mc1 Y1 (.ref b :: av) n sh z K1) (hc : gCV Y.1.cls idx Y1 np) (ha : av.length = np) (hrv : gRv E n sh z b Y1.1.cls) (hR : d1 + 1 ≤ R.frames ∧ 64 * d1 + 19 + Y1.2.2.1 ≤ R.locals ∧ u + mc1 ≤ R.cells ∧ 2200 * u + 2200 * mc1 ≤ R.slots) (hcat : (st.map fun v => v.category).sum ≤ 8) (hm : mc1 ≠ 0 → mc ≠ 0) (hd : decode Y.2.1 pc = .ok (.invokevirtual idx, 3)) (k : ∀ (r : Option Value) (n1 : Nat) (sh1 : Nat → Nat × Nat) (z1 : gS), K1 r n1 sh1 z1 → n1 ≤ 1000000 ∧ (mc ≠ 0 → n1 = n + mc1) ∧ V E R Y mc (u + mc1) (pc + 3) ls (r.toList ++ st) n1 sh1 z1 K) : V E R Y mc u pc ls (av.reverse ++ .ref b :: st) n sh z K := by
  intro p e s m args below meth c H locs la Q C hQ hP hS hl hn hu
  have hst : (av.reverse ++ Value.ref b :: st).map (ev E.2.1) = (av.map (ev E.2.1)).reverse ++ Value.ref (rA E.2.1 b) :: st.map (ev E.2.1) := by simp [ev]
  rw [hst]
  intro T hT X
  have hz : mc1 ≠ 0 → H.size = E.2.1.1 + n := fun q => by rw [← hT]; exact gSize X (by rw [hT]; exact hP) C.2.2.2.2.2.2.2.2.2.2.2.1 (by rw [hT]; exact hS.1) (hu (hm q))
  revert T hT X
  have hpre := gPre (av := .ref b :: av) (mc1 := mc1) C hP hS hn hz
  obtain ⟨⟨hcode, hini, hdd, hlink⟩, hrest⟩ := hc
  have ht := C.2.2.2.2.2.2.1
  have hRR : (gR d1 mc1).frames + 1 ≤ R.frames ∧ 8 + (Y1.2.2.1 + 11) + (gR d1 mc1).locals ≤ R.locals := ⟨hR.1, by have := hR.2.1; show 8 + (Y1.2.2.1 + 11) + 64 * d1 ≤ _; (try dsimp only at this); omega⟩
  have hrecv := hrv s H locs C.2.2.2.2.2.2.2.2.2.1 C.2.2.2.2.2.2.2.1 hP hS hn
  refine gRun (mc1 := mc1) (ms1 := 2200 * mc1) (K1 := K1) (a := ((.ref b :: av).map (ev E.2.1)).toArray) (rest := st.map (ev E.2.1)) ?_ hS ?_
  · rcases hlink with h | ⟨host, h⟩
    · exact va_runV (As := av.map (ev E.2.1)) (b := rA E.2.1 b) (C := Y1.1.cls) ⟨C.1, C.2.1, C.2.2.1, C.2.2.2.2.2.1, ht⟩ hM ⟨callB_of np ht (gGood hcode) rfl rfl rfl (ht _ hini) (ht _ h) hdd hRR, ht _ hrest.1, ht _ hrest.2⟩ ⟨gBlind (av := .ref b :: av), hrecv, hpre⟩ rfl (by simpa using ha) (hl.1.trans rfl) rfl (lv_room (by rw [List.map_map]; simpa [Function.comp_def, ev_cat] using hcat)) hd ⟨hR.2.2.1, hR.2.2.2⟩
    · exact va_runVN (As := av.map (ev E.2.1)) (b := rA E.2.1 b) (C := Y1.1.cls) ⟨C.1, C.2.1, C.2.2.1, C.2.2.2.2.2.1, ht⟩ hM ⟨va_cnB np ht (gGood hcode) rfl rfl rfl (C.2.2.2.2.2.2.2.2.1 _ h) (ht _ hini) hdd hRR, ht _ hrest.1, ht _ hrest.2⟩ ⟨gBlind (av := .ref b :: av), hrecv, hpre⟩ rfl (by simpa using ha) (hl.1.trans rfl) rfl (lv_room (by rw [List.map_map]; simpa [Function.comp_def, ev_cat] using hcat)) hd ⟨hR.2.2.1, hR.2.2.2⟩
  · intro r n1 sh1 z1 H1 l1 hk hP1 hS1
    obtain ⟨g1, g2, g3⟩ := k r n1 sh1 z1 hk
    have g4 := g3 p e s m args below meth c H1 l1 la Q C hQ hP1 hS1 hl g1 (fun q => by have := hu q; have := g2 q; omega)
    rw [Nat.mul_add] at g4
    rw [show (r.toList ++ st).map (ev E.2.1) = (r.map (ev E.2.1)).toList ++ st.map (ev E.2.1) by cases r <;> simp] at g4
    exact g4
theorem V_callI {Y1 : gY} {d1 mc1 idx np b : Nat} {av : List Value} {K1 : gK} (hM : VM E d1 mc1 Y1 (.ref b :: av) n sh z K1) (hc : gCI Y.1.cls idx Y1 np) (ha : av.length = np) (hR : d1 + 1 ≤ R.frames ∧ 64 * d1 + 19 + Y1.2.2.1 ≤ R.locals ∧ u + mc1 ≤ R.cells ∧ 2200 * u + 2200 * mc1 ≤ R.slots) (hcat : (st.map fun v => v.category).sum ≤ 8) (hm : mc1 ≠ 0 → mc ≠ 0) (hd : decode Y.2.1 pc = .ok (.invokespecial idx, 3)) (k : ∀ (r : Option Value) (n1 : Nat) (sh1 : Nat → Nat × Nat) (z1 : gS), K1 r n1 sh1 z1 → n1 ≤ 1000000 ∧ (mc ≠ 0 → n1 = n + mc1) ∧ V E R Y mc (u + mc1) (pc + 3) ls (r.toList ++ st) n1 sh1 z1 K) : V E R Y mc u pc ls (av.reverse ++ .ref b :: st) n sh z K := by
  obtain ⟨y1, b1, m1, rt1⟩ := Y1
  have hrt : rt1 = none := hc.2.2.2
  subst hrt
  intro p e s m args below meth c H locs la Q C hQ hP hS hl hn hu
  have hst : (av.reverse ++ Value.ref b :: st).map (ev E.2.1) = (av.map (ev E.2.1)).reverse ++ Value.ref (rA E.2.1 b) :: st.map (ev E.2.1) := by simp [ev]
  rw [hst]
  intro T hT X
  have hz : mc1 ≠ 0 → H.size = E.2.1.1 + n := fun q => by rw [← hT]; exact gSize X (by rw [hT]; exact hP) C.2.2.2.2.2.2.2.2.2.2.2.1 (by rw [hT]; exact hS.1) (hu (hm q))
  revert T hT X
  have hpre := gPre (av := .ref b :: av) (mc1 := mc1) C hP hS hn hz
  obtain ⟨⟨hcode, hini, hdd, hlink⟩, hrest⟩ := hc
  have ht := C.2.2.2.2.2.2.1
  have hRR : (gR d1 mc1).frames + 1 ≤ R.frames ∧ 8 + (m1 + 11) + (gR d1 mc1).locals ≤ R.locals := ⟨hR.1, by have := hR.2.1; show 8 + (m1 + 11) + 64 * d1 ≤ _; (try dsimp only at this); omega⟩
  refine gRun (mc1 := mc1) (ms1 := 2200 * mc1) (K1 := K1) (a := ((.ref b :: av).map (ev E.2.1)).toArray) (rest := st.map (ev E.2.1)) ?_ hS ?_
  · rcases hlink with h | ⟨host, h⟩
    · exact va_runI (As := av.map (ev E.2.1)) (b := rA E.2.1 b) ⟨C.1, C.2.1, C.2.2.1, C.2.2.2.2.2.1, ht⟩ hM ⟨callB_of np ht (gGood (Y1 := (y1, b1, m1, none)) hcode) rfl rfl rfl (ht _ hini) (ht _ h) hdd hRR, hrest.2.1, ht _ hrest.1⟩ ⟨gBlind (av := .ref b :: av), hpre⟩ rfl (by simpa using ha) (hl.1.trans rfl) rfl (lv_room (by rw [List.map_map]; simpa [Function.comp_def, ev_cat] using hcat)) hd ⟨hR.2.2.1, hR.2.2.2⟩
    · exact va_runIN (As := av.map (ev E.2.1)) (b := rA E.2.1 b) ⟨C.1, C.2.1, C.2.2.1, C.2.2.2.2.2.1, ht⟩ hM ⟨va_cnB np ht (gGood (Y1 := (y1, b1, m1, none)) hcode) rfl rfl rfl (C.2.2.2.2.2.2.2.2.1 _ h) (ht _ hini) hdd hRR, hrest.2.1, ht _ hrest.1⟩ ⟨gBlind (av := .ref b :: av), hpre⟩ rfl (by simpa using ha) (hl.1.trans rfl) rfl (lv_room (by rw [List.map_map]; simpa [Function.comp_def, ev_cat] using hcat)) hd ⟨hR.2.2.1, hR.2.2.2⟩
  · intro r n1 sh1 z1 H1 l1 hk hP1 hS1
    obtain ⟨g1, g2, g3⟩ := k r n1 sh1 z1 hk
    have g4 := g3 p e s m args below meth c H1 l1 la Q C hQ hP1 hS1 hl g1 (fun q => by have := hu q; have := g2 q; omega)
    rw [Nat.mul_add] at g4
    rw [show (r.toList ++ st).map (ev E.2.1) = (r.map (ev E.2.1)).toList ++ st.map (ev E.2.1) by cases r <;> simp] at g4
    exact g4
end GC
/-! answers: a number, nothing -/
def kI (n : Nat) (sh : Nat → Nat × Nat) (P : Int32 → gS → Prop) : gK := fun r n1 sh1 z1 => n1 = n ∧ sh1 = sh ∧ (match r with | some (.int v) => P v z1 | _ => False)
def kN (n : Nat) (sh : Nat → Nat × Nat) (P : gS → Prop) : gK := fun r n1 sh1 z1 => n1 = n ∧ sh1 = sh ∧ (match r with | none => P z1 | _ => False)
theorem kI_of {n : Nat} {sh : Nat → Nat × Nat} {P : Int32 → gS → Prop} {v : Int32} {z : gS} (h : P v z) : kI n sh P (some (.int v)) n sh z := ⟨rfl, rfl, h⟩
theorem kN_of {n : Nat} {sh : Nat → Nat × Nat} {P : gS → Prop} {z : gS} (h : P z) : kN n sh P none n sh z := ⟨rfl, rfl, h⟩
section GD
variable {E : gE} {R : Room} {Y : gY} {u pc : Nat} {ls : List (Nat × Value)} {st : List Value} {n : Nat} {sh : Nat → Nat × Nat} {z : gS} {K : gK}

theorem V_cSI {Y1 : gY} {d1 idx np : Nat} {av st0 : List Value} {P : Int32 → gS → Prop} (hM : VM E d1 0 Y1 (av) n sh z (kI n sh P)) (hc : gCS Y.1.cls idx Y1 np) (ha : av.length = np) (hR : d1 + 1 ≤ R.frames ∧ 64 * d1 + 19 + Y1.2.2.1 ≤ R.locals ∧ u ≤ R.cells ∧ 2200 * u ≤ R.slots) (hcat : (st.map fun v => v.category).sum ≤ 8) (hd : decode Y.2.1 pc = .ok (.invokestatic idx, 3)) (he : st0 = av.reverse ++ st) (hn : gOK E n) (k : ∀ (r : Int32) (z1 : gS), P r z1 → V E R Y 0 u (pc + 3) ls (.int r :: st) n sh z1 K) : V E R Y 0 u pc ls st0 n sh z K := by
  subst he
  refine V_callS hM hc ha ⟨hR.1, hR.2.1, hR.2.2.1, hR.2.2.2⟩ hcat (fun q => q) hd (fun r n1 sh1 z1 h => ?_)
  obtain ⟨rfl, rfl, h⟩ := h
  match r, h with
  | some (.int v), h => exact ⟨hn.1, fun q => absurd rfl q, k v z1 h⟩
theorem V_cSN {Y1 : gY} {d1 idx np : Nat} {av st0 : List Value} {P : gS → Prop} (hM : VM E d1 0 Y1 (av) n sh z (kN n sh P)) (hc : gCS Y.1.cls idx Y1 np) (ha : av.length = np) (hR : d1 + 1 ≤ R.frames ∧ 64 * d1 + 19 + Y1.2.2.1 ≤ R.locals ∧ u ≤ R.cells ∧ 2200 * u ≤ R.slots) (hcat : (st.map fun v => v.category).sum ≤ 8) (hd : decode Y.2.1 pc = .ok (.invokestatic idx, 3)) (he : st0 = av.reverse ++ st) (hn : gOK E n) (k : ∀ (z1 : gS), P z1 → V E R Y 0 u (pc + 3) ls st n sh z1 K) : V E R Y 0 u pc ls st0 n sh z K := by
  subst he
  refine V_callS hM hc ha ⟨hR.1, hR.2.1, hR.2.2.1, hR.2.2.2⟩ hcat (fun q => q) hd (fun r n1 sh1 z1 h => ?_)
  obtain ⟨rfl, rfl, h⟩ := h
  match r, h with
  | none, h => exact ⟨hn.1, fun q => absurd rfl q, k z1 h⟩
theorem V_cVI {Y1 : gY} {d1 idx np b : Nat} {av st0 : List Value} {P : Int32 → gS → Prop} (hM : VM E d1 0 Y1 (.ref b :: av) n sh z (kI n sh P)) (hc : gCV Y.1.cls idx Y1 np) (ha : av.length = np) (hb : b < n) (hbs : ∃ ci, sh b = (0, ci) ∧ ci < 9 ∧ (gC ci).1 = Y1.1.cls) (hR : d1 + 1 ≤ R.frames ∧ 64 * d1 + 19 + Y1.2.2.1 ≤ R.locals ∧ u ≤ R.cells ∧ 2200 * u ≤ R.slots) (hcat : (st.map fun v => v.category).sum ≤ 8) (hd : decode Y.2.1 pc = .ok (.invokevirtual idx, 3)) (he : st0 = av.reverse ++ .ref b :: st) (hn : gOK E n) (k : ∀ (r : Int32) (z1 : gS), P r z1 → V E R Y 0 u (pc + 3) ls (.int r :: st) n sh z1 K) : V E R Y 0 u pc ls st0 n sh z K := by
  subst he
  refine V_callV hM hc ha (gRv.of hb hbs) ⟨hR.1, hR.2.1, hR.2.2.1, hR.2.2.2⟩ hcat (fun q => q) hd (fun r n1 sh1 z1 h => ?_)
  obtain ⟨rfl, rfl, h⟩ := h
  match r, h with
  | some (.int v), h => exact ⟨hn.1, fun q => absurd rfl q, k v z1 h⟩
theorem V_cVN {Y1 : gY} {d1 idx np b : Nat} {av st0 : List Value} {P : gS → Prop} (hM : VM E d1 0 Y1 (.ref b :: av) n sh z (kN n sh P)) (hc : gCV Y.1.cls idx Y1 np) (ha : av.length = np) (hb : b < n) (hbs : ∃ ci, sh b = (0, ci) ∧ ci < 9 ∧ (gC ci).1 = Y1.1.cls) (hR : d1 + 1 ≤ R.frames ∧ 64 * d1 + 19 + Y1.2.2.1 ≤ R.locals ∧ u ≤ R.cells ∧ 2200 * u ≤ R.slots) (hcat : (st.map fun v => v.category).sum ≤ 8) (hd : decode Y.2.1 pc = .ok (.invokevirtual idx, 3)) (he : st0 = av.reverse ++ .ref b :: st) (hn : gOK E n) (k : ∀ (z1 : gS), P z1 → V E R Y 0 u (pc + 3) ls st n sh z1 K) : V E R Y 0 u pc ls st0 n sh z K := by
  subst he
  refine V_callV hM hc ha (gRv.of hb hbs) ⟨hR.1, hR.2.1, hR.2.2.1, hR.2.2.2⟩ hcat (fun q => q) hd (fun r n1 sh1 z1 h => ?_)
  obtain ⟨rfl, rfl, h⟩ := h
  match r, h with
  | none, h => exact ⟨hn.1, fun q => absurd rfl q, k z1 h⟩
theorem V_cVIF {Y1 : gY} {d1 idx np b : Nat} {av st0 : List Value} {P : Int32 → gS → Prop} (hM : VM E d1 0 Y1 (.ref b :: av) n sh z (kI n sh P)) (hc : gCV Y.1.cls idx Y1 np) (ha : av.length = np) (hrv : gRv E n sh z b Y1.1.cls) (hR : d1 + 1 ≤ R.frames ∧ 64 * d1 + 19 + Y1.2.2.1 ≤ R.locals ∧ u ≤ R.cells ∧ 2200 * u ≤ R.slots) (hcat : (st.map fun v => v.category).sum ≤ 8) (hd : decode Y.2.1 pc = .ok (.invokevirtual idx, 3)) (he : st0 = av.reverse ++ .ref b :: st) (hn : gOK E n) (k : ∀ (r : Int32) (z1 : gS), P r z1 → V E R Y 0 u (pc + 3) ls (.int r :: st) n sh z1 K) : V E R Y 0 u pc ls st0 n sh z K := by
  subst he
  refine V_callV hM hc ha hrv ⟨hR.1, hR.2.1, hR.2.2.1, hR.2.2.2⟩ hcat (fun q => q) hd (fun r n1 sh1 z1 h => ?_)
  obtain ⟨rfl, rfl, h⟩ := h
  match r, h with
  | some (.int v), h => exact ⟨hn.1, fun q => absurd rfl q, k v z1 h⟩
theorem V_cVNF {Y1 : gY} {d1 idx np b : Nat} {av st0 : List Value} {P : gS → Prop} (hM : VM E d1 0 Y1 (.ref b :: av) n sh z (kN n sh P)) (hc : gCV Y.1.cls idx Y1 np) (ha : av.length = np) (hrv : gRv E n sh z b Y1.1.cls) (hR : d1 + 1 ≤ R.frames ∧ 64 * d1 + 19 + Y1.2.2.1 ≤ R.locals ∧ u ≤ R.cells ∧ 2200 * u ≤ R.slots) (hcat : (st.map fun v => v.category).sum ≤ 8) (hd : decode Y.2.1 pc = .ok (.invokevirtual idx, 3)) (he : st0 = av.reverse ++ .ref b :: st) (hn : gOK E n) (k : ∀ (z1 : gS), P z1 → V E R Y 0 u (pc + 3) ls st n sh z1 K) : V E R Y 0 u pc ls st0 n sh z K := by
  subst he
  refine V_callV hM hc ha hrv ⟨hR.1, hR.2.1, hR.2.2.1, hR.2.2.2⟩ hcat (fun q => q) hd (fun r n1 sh1 z1 h => ?_)
  obtain ⟨rfl, rfl, h⟩ := h
  match r, h with
  | none, h => exact ⟨hn.1, fun q => absurd rfl q, k z1 h⟩
theorem V_abs {idx : Nat} {x : Int32} (hlink : Cond.methodLink Y.1.cls idx Lib.Math.abs.name ∈ lw_g) (hstat : Cond.static Lib.Math.abs.name ∈ lw_g) (hini : Cond.initialized "java/lang/Math" ∈ lw_g) (hcode : Cond.code Lib.Math.abs.name Lib.Math.abs.code 1 (some .int) ∈ lw_g) (hR : 1 ≤ R.frames ∧ 21 ≤ R.locals ∧ u ≤ R.cells ∧ 2200 * u ≤ R.slots) (hcat : (st.map fun v => v.category).sum ≤ 8) (hd : decode Y.2.1 pc = .ok (.invokestatic idx, 3)) (k : V E R Y 0 u (pc + 3) ls (.int (if 0 ≤ x then x else 0 - x) :: st) n sh z K) : V E R Y 0 u pc ls (.int x :: st) n sh z K := by
  intro p e s m args below meth c H locs la Q C hQ hP hS hl hn hu
  have ht := C.2.2.2.2.2.2.1
  have h1 := k p e s m args below meth c H locs la Q C hQ hP hS hl hn hu
  have hcc : ((st.map (ev E.2.1)).map fun v => v.category).sum ≤ 8 := by rw [List.map_map]; simpa [Function.comp_def, ev_cat] using hcat
  exact va_mabs C.1 C.2.1 (C.2.2.1.trans hl.1.symm) C.2.2.2.2.2.1 (ht _ hlink) (ht _ hstat) (ht _ hini) (ht _ hcode) hR.1 (by have := hR.2.1; omega) hR.2.2.1 hR.2.2.2 hd h1
theorem V_max {idx : Nat} {x y : Int32} (hlink : Cond.methodLink Y.1.cls idx Lib.Math.max.name ∈ lw_g) (hstat : Cond.static Lib.Math.max.name ∈ lw_g) (hini : Cond.initialized "java/lang/Math" ∈ lw_g) (hcode : Cond.code Lib.Math.max.name Lib.Math.max.code 2 (some .int) ∈ lw_g) (hR : 1 ≤ R.frames ∧ 21 ≤ R.locals ∧ u ≤ R.cells ∧ 2200 * u ≤ R.slots) (hcat : (st.map fun v => v.category).sum ≤ 8) (hd : decode Y.2.1 pc = .ok (.invokestatic idx, 3)) (k : V E R Y 0 u (pc + 3) ls (.int (if x < y then y else x) :: st) n sh z K) : V E R Y 0 u pc ls (.int y :: .int x :: st) n sh z K := by
  intro p e s m args below meth c H locs la Q C hQ hP hS hl hn hu
  have ht := C.2.2.2.2.2.2.1
  have h1 := k p e s m args below meth c H locs la Q C hQ hP hS hl hn hu
  have hcc : ((st.map (ev E.2.1)).map fun v => v.category).sum ≤ 8 := by rw [List.map_map]; simpa [Function.comp_def, ev_cat] using hcat
  exact va_mmax C.1 C.2.1 (C.2.2.1.trans hl.1.symm) C.2.2.2.2.2.1 (ht _ hlink) (ht _ hstat) (ht _ hini) (ht _ hcode) hR.1 (by have := hR.2.1; omega) hR.2.2.1 hR.2.2.2 hd h1
theorem V_min {idx : Nat} {x y : Int32} (hlink : Cond.methodLink Y.1.cls idx Lib.Math.min.name ∈ lw_g) (hstat : Cond.static Lib.Math.min.name ∈ lw_g) (hini : Cond.initialized "java/lang/Math" ∈ lw_g) (hcode : Cond.code Lib.Math.min.name Lib.Math.min.code 2 (some .int) ∈ lw_g) (hR : 1 ≤ R.frames ∧ 21 ≤ R.locals ∧ u ≤ R.cells ∧ 2200 * u ≤ R.slots) (hcat : (st.map fun v => v.category).sum ≤ 8) (hd : decode Y.2.1 pc = .ok (.invokestatic idx, 3)) (k : V E R Y 0 u (pc + 3) ls (.int (if y < x then y else x) :: st) n sh z K) : V E R Y 0 u pc ls (.int y :: .int x :: st) n sh z K := by
  intro p e s m args below meth c H locs la Q C hQ hP hS hl hn hu
  have ht := C.2.2.2.2.2.2.1
  have h1 := k p e s m args below meth c H locs la Q C hQ hP hS hl hn hu
  have hcc : ((st.map (ev E.2.1)).map fun v => v.category).sum ≤ 8 := by rw [List.map_map]; simpa [Function.comp_def, ev_cat] using hcat
  exact va_mmin C.1 C.2.1 (C.2.2.1.trans hl.1.symm) C.2.2.2.2.2.1 (ht _ hlink) (ht _ hstat) (ht _ hini) (ht _ hcode) hR.1 (by have := hR.2.1; omega) hR.2.2.1 hR.2.2.2 hd h1
theorem V_copy {idx a b la0 lb0 : Nat} {sp dp len : Int32} (hlink : Cond.methodLink Y.1.cls idx arraycopyName ∈ lw_g) (hnat : Cond.native arraycopyName ∈ lw_g) (hstat : Cond.static arraycopyName ∈ lw_g) (hini : Cond.initialized "java/lang/System" ∈ lw_g) (ha : a < n) (hsa : sh a = (1, la0)) (hb : b < n) (hsb : sh b = (1, lb0)) (h1 : ¬ sp < 0) (h2 : ¬ dp < 0) (h3 : ¬ len < 0) (h4 : sp.toNatClampNeg + len.toNatClampNeg ≤ la0) (h5 : dp.toNatClampNeg + len.toNatClampNeg ≤ lb0)
    (hR : 1 ≤ R.frames ∧ 40 ≤ R.locals) (hcat : (st.map fun v => v.category).sum ≤ 8) (hd : decode Y.2.1 pc = .ok (.invokestatic idx, 3)) (k : V E R Y 0 u (pc + 3) ls st n sh (sA z b (va_cpy (gi z a) (gi z b) sp.toNatClampNeg dp.toNatClampNeg len.toNatClampNeg)) K) : V E R Y 0 u pc ls (.int len :: .int dp :: .ref b :: .int sp :: .ref a :: st) n sh z K := by
  intro p e s m args below meth c H locs la Q C hQ hP hS hl hn hu
  have ht := C.2.2.2.2.2.2.1
  have hcc : ((st.map (ev E.2.1)).map fun v => v.category).sum ≤ 8 := by rw [List.map_map]; simpa [Function.comp_def, ev_cat] using hcat
  have e1 : nativeFrameWords "java/lang/System" "arraycopy" 5 ≤ 20 := by decide +kernel
  show W p E.1 e R s m args below meth c H locs u (2200 * u) Q (F0 m pc la (.int len :: .int dp :: ev E.2.1 (.ref b) :: .int sp :: ev E.2.1 (.ref a) :: st.map (ev E.2.1)))
  rw [ev_ref (Nat.lt_of_lt_of_le ha hn), ev_ref (Nat.lt_of_lt_of_le hb hn)]
  refine va_copyi C.1 C.2.1 (C.2.2.1.trans hl.1.symm) C.2.2.2.2.2.1 (ht _ hlink) (ht _ hnat) (ht _ hstat) (ht _ hini) C.2.2.2.2.2.2.2.1 hP wd_D hS a b 1 1 ((wd_at ha).trans (by rw [ent_1 hsa])) ((wd_at hb).trans (by rw [ent_1 hsb])) rfl rfl rfl h1 h2 h3 h4 h5 (fun _ _ => rfl) hR.1 (by have := hR.2; omega) hd (fun H1 l1 hP1 _ hS1 => ?_)
  rw [wd_set (z' := sA z b (va_cpy (gi z a) (gi z b) sp.toNatClampNeg dp.toNatClampNeg len.toNatClampNeg)) hb (by rw [ent_1 hsb]; congr 4; funext j; simp [gi_sA]) ent_ne_sA] at hP1
  exact k p e s m args below meth c H1 l1 la Q C hQ hP1 hS1 hl hn hu
end GD
