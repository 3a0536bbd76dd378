abbrev gyX11_rests : gY := (yX11_rests, cX11_rests, 7, some .int)
theorem gc_X11_283 : gCS RX11 283 gyX11_isRent 1 := ⟨⟨lw_g_in (List.mem_of_getElem? (i := 1144) (by decide +kernel)) (by decide +kernel), lw_g_in (List.mem_of_getElem? (i := 78) (by decide +kernel)) (by decide +kernel), ⟨by decide, by decide, by decide +kernel⟩, Or.inl (lw_g_in (List.mem_of_getElem? (i := 1142) (by decide +kernel)) (by decide +kernel))⟩, lw_g_in (List.mem_of_getElem? (i := 1143) (by decide +kernel)) (by decide +kernel)⟩
theorem gc_X11_289 : gCS RX11 289 gyX11_isAtRest 4 := ⟨⟨lw_g_in (List.mem_of_getElem? (i := 1208) (by decide +kernel)) (by decide +kernel), lw_g_in (List.mem_of_getElem? (i := 78) (by decide +kernel)) (by decide +kernel), ⟨by decide, by decide, by decide +kernel⟩, Or.inl (lw_g_in (List.mem_of_getElem? (i := 1206) (by decide +kernel)) (by decide +kernel))⟩, lw_g_in (List.mem_of_getElem? (i := 1207) (by decide +kernel)) (by decide +kernel)⟩
theorem xk_1 : Cond.classLink RX11 286 "java/util/NoSuchElementException" ∈ lw_g := lw_g_in (List.mem_of_getElem? (i := 1145) (by decide +kernel)) (by decide +kernel)
theorem xk_2 : Cond.initialized "java/util/NoSuchElementException" ∈ lw_g := lw_g_in (List.mem_of_getElem? (i := 102) (by decide +kernel)) (by decide +kernel)
theorem xl_7 : Cond.methodLink RL 7 yX11_rests ∈ lw_g := lw_g_in (List.mem_of_getElem? (i := 1138) (by decide +kernel)) (by decide +kernel)
theorem xl_13 : Cond.classLink RL 13 "java/util/NoSuchElementException" ∈ lw_g := lw_g_in (List.mem_of_getElem? (i := 1137) (by decide +kernel)) (by decide +kernel)
theorem gc_L_7 : gCV RL 7 gyX11_rests 4 := ⟨⟨lw_g_in (List.mem_of_getElem? (i := 1141) (by decide +kernel)) (by decide +kernel), lw_g_in (List.mem_of_getElem? (i := 78) (by decide +kernel)) (by decide +kernel), ⟨by decide, by decide, by decide +kernel⟩, Or.inl (lw_g_in (List.mem_of_getElem? (i := 1138) (by decide +kernel)) (by decide +kernel))⟩, lw_g_in (List.mem_of_getElem? (i := 1139) (by decide +kernel)) (by decide +kernel), lw_g_in (List.mem_of_getElem? (i := 1140) (by decide +kernel)) (by decide +kernel)⟩
/-! ===== rests: a method that throws, and the one that catches ===== -/
def gXw : List Cond := vx_at0 RX11 288 "java/util/NoSuchElementException" ["java/lang/RuntimeException", "java/lang/Exception"]
def gXn : List Cond := gXw.filter (fun w => !goodWord w)
def gThr (E : gE) : Prop := E.1.stackTraces = false ∧ ∀ (U : State) (H : Heap), E.2.2 U H → vx_Zq Bundle.tN "UNASSIGNED_STACK" Bundle.steD (gA E.2.1) U H ∧ vx_Zq Bundle.tN "SUPPRESSED_SENTINEL" Bundle.listD (gA E.2.1) U H ∧ ∀ w ∈ gXn, va_Nw w U
theorem gXw_all : (gXw.filter goodWord).all (fun w => decide (w ∈ lw_tbl)) = true := by decide +kernel
theorem gXw_in : ∀ w ∈ gXw.filter goodWord, w ∈ lw_g := fun w h => lw_g_in (of_decide_eq_true (List.all_eq_true.mp gXw_all w h)) (List.mem_filter.mp h).2
theorem gXn_ot : ∀ w ∈ gXn, w.onTables = true := by decide +kernel
theorem gXw_ot : ∀ w ∈ Cond.classLink RX11 286 "java/util/NoSuchElementException" :: Cond.initialized "java/util/NoSuchElementException" :: gXw, vx_ot w = true := by decide +kernel
def kX (n : Nat) (sh : Nat → Nat × Nat) (P : Option Int32 → gS → Prop) : gK := fun r n1 sh1 z1 => n1 = n ∧ sh1 = sh ∧ (match r with | some (.int v) => P (some v) z1 | some .null => P none z1 | _ => False)
theorem kX_of {n : Nat} {sh : Nat → Nat × Nat} {P : Option Int32 → gS → Prop} {v : Int32} {z : gS} (h : P (some v) z) : kX n sh P (some (.int v)) n sh z := ⟨rfl, rfl, h⟩
theorem kX_no {n : Nat} {sh : Nat → Nat × Nat} {P : Option Int32 → gS → Prop} {z : gS} (h : P none z) : kX n sh P (some .null) n sh z := ⟨rfl, rfl, h⟩
def gXC (E : gE) (K : gK) : String → State → State → Prop := fun X st t => X = "java/util/NoSuchElementException" ∧ (∃ (n : Nat) (sh : Nat → Nat × Nat) (z : gS), K (some .null) n sh z ∧ va_P (gD E.2.1) vwCl (wd E.2.1 n sh z) t.heap) ∧ va_F (gA E.2.1) st t
def VMX (E : gE) (d : Nat) (Y : gY) (av : List Value) (n : Nat) (sh : Nat → Nat × Nat) (z : gS) (K : gK) : Prop :=
  vx_Met E.1 Y.1 (Cond.code Y.1 Y.2.1 Y.2.2.1 Y.2.2.2 :: lw_g) (gR d 1) (va_Pc (av.map (ev E.2.1)) (gCx E 0 n sh z)) (gQK E (fun r n sh z => K r n sh z ∧ r ≠ some .null)) (gXC E K) 1 2200 (gA E.2.1)
theorem VMX_of {E : gE} {d : Nat} {Y : gY} {av : List Value} {n : Nat} {sh : Nat → Nat × Nat} {z : gS} {K : gK} (hth : gThr E) (hy : plainName Y.1.cls = true) (hd6 : 6 ≤ d) (hcl : Y.1.cls = RX11) (hl : (lg_sl av).length ≤ Y.2.2.1) (h : V E (gR d 1) Y 0 0 0 (lv_args 0 av) [] n sh z K) : VMX E d Y av n sh z K := by
  refine vx_ofW (cc := Y.2.1) (maxL := Y.2.2.1) (ret := Y.2.2.2) hy rfl ?_
  intro p e s m args below meth c s₁ B hml htab hv
  obtain ⟨rfl, hP, hK, hN, hF, hFok, hB, hn, hu⟩ := hv
  have hts := atoms_spec (ws := Cond.code Y.1 Y.2.1 Y.2.2.1 Y.2.2.2 :: lw_g) B.pre
  have hlo := B.notSynchronized
  have hret : meth.sig.returnType = Y.2.2.2 := B.returns
  rw [lg_entry_eq]
  have C : gCtx E Y p s m (av.map (ev E.2.1)).toArray meth c := ⟨B.exec, B.bytes, hml, hret, hlo, findClass_of_methodNamed B.named, fun w hw => hts w (List.mem_cons_of_mem _ hw), hK, hN, hF, hFok, hB, (name_of_methodNamed B.named B.method).1⟩
  have hl1 := lv_entry (av.map (ev E.2.1)) (n := Y.2.2.1) (by rw [gsl_len]; exact hl)
  rw [gargs] at hl1
  refine h p e s m _ below meth c s.heap [] _ _ C ?_ hP va_S.rf hl1 hn (fun q => absurd rfl q)
  intro r n1 sh1 z1 H1 l1 u1 hk hP1 hS1 hu1
  have hu1 : u1 ≤ 1 := hu1
  refine ⟨fun v rt pc la hr1 hr2 hnw hd => ?_, fun pc la hr1 hr2 hd => ?_, fun pc la hr1 hu2 hth2 hsz => ?_⟩
  · refine vx_ret (W.widen (k := 1) (n := 2200) hu1 (by omega) ?_)
    refine W.zret C.1 C.2.1 (hret.trans hr2) hnw (fun t ht _ => ⟨⟨r, n1, sh1, z1, ?_, ⟨hk, ?_⟩, by rw [ht]; exact hP1⟩, hS1.F ht⟩) hS1.2.2 hd
    · rw [hr1]; rfl
    · rw [hr1]; exact fun q => by cases q
  · refine vx_ret (W.widen (k := 1) (n := 2200) hu1 (by omega) ?_)
    refine W.vret C.1 C.2.1 (hret.trans hr2) (fun t ht _ => ⟨⟨r, n1, sh1, z1, ?_, ⟨hk, ?_⟩, by rw [ht]; exact hP1⟩, hS1.F ht⟩) hS1.2.2 hd
    · rw [hr1]; rfl
    · rw [hr1]; exact fun q => by cases q
  · have hu3 : u1 + 1 ≤ 1 := hu2
    have hu0 : u1 = 0 := by omega
    subst hu0
    obtain ⟨d0, d3, d4, d7⟩ := hth2
    obtain ⟨t1, t2, t3⟩ := hth.2 s s.heap hF
    have ht := C.2.2.2.2.2.2.1
    have hown := C.2.2.2.2.2.1
    rw [hcl] at hown
    refine vx_throw0 (cls := "java/util/NoSuchElementException") (names := ["java/lang/RuntimeException", "java/lang/Exception"]) C.1 C.2.1 hth.1 hown (by decide) (by decide) (ht _ xk_1) (ht _ xk_2) ?_ gXw_ot t1 t2 hS1 (hsz.trans C.2.2.1.symm) d0 d3 d4 d7 (fun x hx => (htab x hx).elim) ?_ ?_ ?_ ?_ hlo ?_ hS1.2.2 ?_ ?_
    · exact vx_hat (fun w hw => ht _ (gXw_in w hw)) (B := gXn) (fun w hw => hw) (fun w hw => va_Nw.use (gXn_ot w hw) (t3 w hw))
    · show 5 < d; omega
    · show 0 + (13 * 3 + 42) ≤ 64 * d; omega
    · exact Nat.le_refl 1
    · show 2200 * 0 + 6 ≤ 2200 * 1; omega
    · intro t hvm hsz2 hold
      refine ⟨rfl, ⟨n1, sh1, z1, hr1 ▸ hk, hP1.kept (fun k q hq => hold q.1 (hP1 k q hq).lt)⟩, Nat.le_trans hS1.1 hsz2, fun q h1 h2 => ?_⟩
      rw [hold q (Nat.lt_of_lt_of_le h1 hS1.1)]
      exact hS1.2.1 q h1 h2
    · exact Nat.le_refl 1
    · show 2200 * 0 + 6 ≤ 2200; omega
/-- the contract of a method with a table -/
def VMW (E : gE) (d mc : Nat) (Y : gY) (hh : List (Nat × Nat × Nat × Nat)) (av : List Value) (n : Nat) (sh : Nat → Nat × Nat) (z : gS) (K : gK) : Prop :=
  Met E.1 Y.1 (Cond.codeWith Y.1 Y.2.1 Y.2.2.1 Y.2.2.2 hh :: lw_g) (gR d mc) (va_Pc (av.map (ev E.2.1)) (gCx E 0 n sh z)) (gQK E K) mc (2200 * mc) (gA E.2.1)
def wX11_rests_J27 (n : Nat) (sh : Nat → Nat × Nat) (P : Option Int32 → gS → Prop) (z : gS) : Prop := P none z
set_option maxRecDepth 100000 in
set_option maxHeartbeats 4000000 in
theorem vX11_rests_J27 {E : gE} {n : Nat} {sh : Nat → Nat × Nat} {P : Option Int32 → gS → Prop} {z : gS} (hn : gOK E n) (hf : wX11_rests_J27 n sh P z) : V E (gR 6 1) gyX11_rests 0 0 27 [] [] n sh z (kX n sh P) := by
  unfold wX11_rests_J27 at hf
  exact V_throw ⟨dX11_rests_27, dX11_rests_30, dX11_rests_31, dX11_rests_34⟩ (Nat.le_refl 1) (kX_no hf)
def wX11_rests_J71 (n : Nat) (sh : Nat → Nat × Nat) (k41 : Int32 → Int32 → Int32 → Int32 → Int32 → Int32 → gS → Prop) (P : Option Int32 → gS → Prop) (x1 : Int32) (x2 : Int32) (x3 : Int32) (x4 : Int32) (x5 : Int32) (x6 : Int32) (z : gS) : Prop := ∀ v10 : Int32, v10 = x6 + (1 : Int32) → k41 x1 x2 x3 x4 x5 v10 z
set_option maxRecDepth 100000 in
set_option maxHeartbeats 4000000 in
theorem vX11_rests_J71 {E : gE} {n : Nat} {sh : Nat → Nat × Nat} {P : Option Int32 → gS → Prop} {k41 : Int32 → Int32 → Int32 → Int32 → Int32 → Int32 → gS → Prop} {x1 : Int32} {x2 : Int32} {x3 : Int32} {x4 : Int32} {x5 : Int32} {x6 : Int32} {z : gS} (hn : gOK E n) (hk41 : ∀ (x1 : Int32) (x2 : Int32) (x3 : Int32) (x4 : Int32) (x5 : Int32) (x6 : Int32) (z : gS), k41 x1 x2 x3 x4 x5 x6 z → V E (gR 6 1) gyX11_rests 0 0 41 [(1, .int x1), (2, .int x2), (3, .int x3), (4, .int x4), (5, .int x5), (6, .int x6)] [] n sh z (kX n sh P)) (hf : wX11_rests_J71 n sh k41 P x1 x2 x3 x4 x5 x6 z) : V E (gR 6 1) gyX11_rests 0 0 71 [(1, .int x1), (2, .int x2), (3, .int x3), (4, .int x4), (5, .int x5), (6, .int x6)] [] n sh z (kX n sh P) := by
  unfold wX11_rests_J71 at hf
  obtain ⟨v10, ev10⟩ : ∃ y : Int32, y = x6 + (1 : Int32) := ⟨_, rfl⟩
  refine V_iinc (j := 5) (v := v10) (ls2 := [(6, .int v10), (1, .int x1), (2, .int x2), (3, .int x3), (4, .int x4), (5, .int x5)]) dX11_rests_71 rfl (by rw [ev10]; rfl) (by decide) rfl ?_
  have hf := hf v10 ev10
  refine V_goto (tgt := 41) dX11_rests_74 (by decide) ?_
  refine V_to [1, 2, 3, 4, 5, 0] rfl ?_
  exact hk41 _ _ _ _ _ _ _ hf
def wX11_rests_B41 (n : Nat) (sh : Nat → Nat × Nat) (k41 : Int32 → Int32 → Int32 → Int32 → Int32 → Int32 → gS → Prop) (P : Option Int32 → gS → Prop) (x1 : Int32) (x2 : Int32) (x3 : Int32) (x4 : Int32) (x5 : Int32) (x6 : Int32) (z : gS) : Prop := if (4 : Int32) ≤ x6 then (if x4 = (-1 : Int32) then P (some x5) z else P none z) else (wX11_isAtRest n sh x1 x2 x3 x6 z (fun (r8 : Int32) (z9 : gS) => if r8 = 0 then wX11_rests_J71 n sh k41 P x1 x2 x3 x4 x5 x6 z9 else (if x5 = x4 then P (some x6) z9 else (∀ v11 : Int32, v11 = x5 + (1 : Int32) → wX11_rests_J71 n sh k41 P x1 x2 x3 x4 v11 x6 z9))))
def wX11_rests_L41 (n : Nat) (sh : Nat → Nat × Nat) (P : Option Int32 → gS → Prop) : Nat → Int32 → Int32 → Int32 → Int32 → Int32 → Int32 → gS → Prop
  | 0, _, _, _, _, _, _, _ => False
  | N + 1, x1, x2, x3, x4, x5, x6, z => wX11_rests_B41 n sh (wX11_rests_L41 n sh P N) P x1 x2 x3 x4 x5 x6 z
set_option maxRecDepth 100000 in
set_option maxHeartbeats 4000000 in
theorem vX11_rests_B41 {E : gE} {n : Nat} {sh : Nat → Nat × Nat} {P : Option Int32 → gS → Prop} {k41 : Int32 → Int32 → Int32 → Int32 → Int32 → Int32 → gS → Prop} {x1 : Int32} {x2 : Int32} {x3 : Int32} {x4 : Int32} {x5 : Int32} {x6 : Int32} {z : gS} (hn : gOK E n) (hk41 : ∀ (x1 : Int32) (x2 : Int32) (x3 : Int32) (x4 : Int32) (x5 : Int32) (x6 : Int32) (z : gS), k41 x1 x2 x3 x4 x5 x6 z → V E (gR 6 1) gyX11_rests 0 0 41 [(1, .int x1), (2, .int x2), (3, .int x3), (4, .int x4), (5, .int x5), (6, .int x6)] [] n sh z (kX n sh P)) (hf : wX11_rests_B41 n sh k41 P x1 x2 x3 x4 x5 x6 z) : V E (gR 6 1) gyX11_rests 0 0 41 [(1, .int x1), (2, .int x2), (3, .int x3), (4, .int x4), (5, .int x5), (6, .int x6)] [] n sh z (kX n sh P) := by
  unfold wX11_rests_B41 at hf
  refine V_iload (j := 5) dX11_rests_41 rfl ?_
  refine V_iconst (v := (4 : Int32)) dX11_rests_43 (by decide) ?_
  refine V_icmp_ge (tgt := 77) dX11_rests_44 (by decide) (fun h14 => ?_) (fun h14 => ?_)
  · have hf := it_t h14 hf
    refine V_iload (j := 3) dX11_rests_77 rfl ?_
    refine V_iconst (v := (-1 : Int32)) dX11_rests_79 (by decide) ?_
    refine V_icmp_eq (tgt := 91) dX11_rests_80 (by decide) (fun h7 => ?_) (fun h7 => ?_)
    · have hf := it_t h7 hf
      refine V_iload (j := 4) dX11_rests_91 rfl ?_
      exact V_ireturn dX11_rests_93 rfl rfl (Nat.zero_le _) (kX_of hf)
    · have hf := it_f h7 hf
      exact V_throw ⟨dX11_rests_83, dX11_rests_86, dX11_rests_87, dX11_rests_90⟩ (Nat.le_refl 1) (kX_no hf)
  · have hf := it_f h14 hf
    refine V_iload_n (j := 0) dX11_rests_47 rfl rfl ?_
    refine V_iload_n (j := 1) dX11_rests_48 rfl rfl ?_
    refine V_iload_n (j := 2) dX11_rests_49 rfl rfl ?_
    refine V_iload (j := 5) dX11_rests_50 rfl ?_
    refine V_cSI (ctX11_isAtRest hn hf) gc_X11_289 rfl ⟨by decide, by decide, Nat.zero_le _, Nat.zero_le _⟩ (Nat.le_of_ble_eq_true rfl) dX11_rests_52 rfl hn (fun r8 z9 hf => ?_)
    refine V_if_eq (tgt := 71) dX11_rests_55 (by decide) (fun h13 => ?_) (fun h13 => ?_)
    · have hf := it_t h13 hf
      exact vX11_rests_J71 hn hk41 hf
    · have hf := it_f h13 hf
      refine V_iload (j := 4) dX11_rests_58 rfl ?_
      refine V_iload (j := 3) dX11_rests_60 rfl ?_
      refine V_icmp_ne (tgt := 68) dX11_rests_62 (by decide) (fun h12 => ?_) (fun h12 => ?_)
      · have hf := it_f h12 hf
        obtain ⟨v11, ev11⟩ : ∃ y : Int32, y = x5 + (1 : Int32) := ⟨_, rfl⟩
        refine V_iinc (j := 4) (v := v11) (ls2 := [(5, .int v11), (1, .int x1), (2, .int x2), (3, .int x3), (4, .int x4), (6, .int x6)]) dX11_rests_68 rfl (by rw [ev11]; rfl) (by decide) rfl ?_
        have hf := hf v11 ev11
        refine V_to [1, 2, 3, 4, 0, 5] rfl ?_
        exact vX11_rests_J71 hn hk41 hf
      · have hf := it_t (Classical.not_not.mp h12) hf
        refine V_iload (j := 5) dX11_rests_65 rfl ?_
        exact V_ireturn dX11_rests_67 rfl rfl (Nat.zero_le _) (kX_of hf)
set_option maxRecDepth 100000 in
set_option maxHeartbeats 4000000 in
theorem vX11_rests_L41 {E : gE} {n : Nat} {sh : Nat → Nat × Nat} {P : Option Int32 → gS → Prop} (hn : gOK E n) : ∀ (N : Nat) (x1 : Int32) (x2 : Int32) (x3 : Int32) (x4 : Int32) (x5 : Int32) (x6 : Int32) (z : gS), wX11_rests_L41 n sh P N x1 x2 x3 x4 x5 x6 z → V E (gR 6 1) gyX11_rests 0 0 41 [(1, .int x1), (2, .int x2), (3, .int x3), (4, .int x4), (5, .int x5), (6, .int x6)] [] n sh z (kX n sh P) := by
  intro N
  induction N with
  | zero => intro x1 x2 x3 x4 x5 x6 z hf; exact False.elim hf
  | succ N ih => intro x1 x2 x3 x4 x5 x6 z hf; exact vX11_rests_B41 hn ih hf
def wX11_rests (n : Nat) (sh : Nat → Nat × Nat) (a0 : Nat) (x1 : Int32) (x2 : Int32) (x3 : Int32) (x4 : Int32) (z : gS) (P : Option Int32 → gS → Prop) : Prop := wX11_isRent n sh x1 z (fun (r1 : Int32) (z2 : gS) => if r1 = 0 then wX11_rests_J27 n sh P  z2 else (wX11_isRent n sh x2 z2 (fun (r3 : Int32) (z4 : gS) => if r3 = 0 then wX11_rests_J27 n sh P  z4 else (wX11_isRent n sh x3 z4 (fun (r5 : Int32) (z6 : gS) => if r5 = 0 then wX11_rests_J27 n sh P  z6 else (if (-1 : Int32) ≤ x4 then ((∃ N, wX11_rests_L41 n sh P N x1 x2 x3 x4 (0 : Int32) (0 : Int32) z6)) else wX11_rests_J27 n sh P  z6))))))
set_option maxRecDepth 100000 in
set_option maxHeartbeats 4000000 in
theorem ctX11_rests {E : gE} {n : Nat} {sh : Nat → Nat × Nat} {a0 : Nat} {x1 : Int32} {x2 : Int32} {x3 : Int32} {x4 : Int32} {z : gS} {P : Option Int32 → gS → Prop} (hn : gOK E n) (hth : gThr E) (hf : wX11_rests n sh a0 x1 x2 x3 x4 z P) : VMX E 6 gyX11_rests [.ref a0, .int x1, .int x2, .int x3, .int x4] n sh z (kX n sh P) := by
  unfold wX11_rests at hf
  refine VMX_of hth (by decide) (by decide) rfl (Nat.le_of_ble_eq_true rfl) ?_
  show V E (gR 6 1) gyX11_rests 0 0 0 [(0, .ref a0), (1, .int x1), (2, .int x2), (3, .int x3), (4, .int x4)] [] n sh z (kX n sh P)
  refine V_iload_n (j := 1) dX11_rests_0 rfl rfl ?_
  refine V_cSI (ctX11_isRent hn hf) gc_X11_283 rfl ⟨by decide, by decide, Nat.zero_le _, Nat.zero_le _⟩ (Nat.le_of_ble_eq_true rfl) dX11_rests_1 rfl hn (fun r1 z2 hf => ?_)
  refine V_if_eq (tgt := 27) dX11_rests_4 (by decide) (fun h18 => ?_) (fun h18 => ?_)
  · have hf := it_t h18 hf
    refine V_to [] rfl ?_
    exact vX11_rests_J27 hn hf
  · have hf := it_f h18 hf
    refine V_iload_n (j := 2) dX11_rests_7 rfl rfl ?_
    refine V_cSI (ctX11_isRent hn hf) gc_X11_283 rfl ⟨by decide, by decide, Nat.zero_le _, Nat.zero_le _⟩ (Nat.le_of_ble_eq_true rfl) dX11_rests_8 rfl hn (fun r3 z4 hf => ?_)
    refine V_if_eq (tgt := 27) dX11_rests_11 (by decide) (fun h17 => ?_) (fun h17 => ?_)
    · have hf := it_t h17 hf
      refine V_to [] rfl ?_
      exact vX11_rests_J27 hn hf
    · have hf := it_f h17 hf
      refine V_iload_n (j := 3) dX11_rests_14 rfl rfl ?_
      refine V_cSI (ctX11_isRent hn hf) gc_X11_283 rfl ⟨by decide, by decide, Nat.zero_le _, Nat.zero_le _⟩ (Nat.le_of_ble_eq_true rfl) dX11_rests_15 rfl hn (fun r5 z6 hf => ?_)
      refine V_if_eq (tgt := 27) dX11_rests_18 (by decide) (fun h16 => ?_) (fun h16 => ?_)
      · have hf := it_t h16 hf
        refine V_to [] rfl ?_
        exact vX11_rests_J27 hn hf
      · have hf := it_f h16 hf
        refine V_iload (j := 4) dX11_rests_21 rfl ?_
        refine V_iconst (v := (-1 : Int32)) dX11_rests_23 (by decide) ?_
        refine V_icmp_ge (tgt := 35) dX11_rests_24 (by decide) (fun h15 => ?_) (fun h15 => ?_)
        · have hf := it_t h15 hf
          refine V_iconst (v := (0 : Int32)) dX11_rests_35 (by decide) ?_
          refine V_istore (ls2 := [(5, .int (0 : Int32)), (0, .ref a0), (1, .int x1), (2, .int x2), (3, .int x3), (4, .int x4)]) dX11_rests_36 (by decide) rfl ?_
          refine V_iconst (v := (0 : Int32)) dX11_rests_38 (by decide) ?_
          refine V_istore (ls2 := [(6, .int (0 : Int32)), (5, .int (0 : Int32)), (0, .ref a0), (1, .int x1), (2, .int x2), (3, .int x3), (4, .int x4)]) dX11_rests_39 (by decide) rfl ?_
          obtain ⟨N, hf⟩ := hf
          refine V_to [3, 4, 5, 6, 1, 0] rfl ?_
          exact vX11_rests_L41 hn N _ _ _ _ _ _ _ hf
        · have hf := it_f h15 hf
          refine V_to [] rfl ?_
          exact vX11_rests_J27 hn hf
abbrev gyL_rests : gY := (yL_rests, cL_rests, 7, some .int)
def wL_rests (n : Nat) (sh : Nat → Nat × Nat) (a0 : Nat) (x1 x2 x3 x4 : Int32) (a5 : Nat) (z : gS) (P : Int32 → gS → Prop) : Prop := oO n sh a0 7 ∧ oA n sh a5 2 ∧ vp_in 0 (sh a5).2 ∧ wX11_rests n sh a0 x1 x2 x3 x4 z (fun ro z1 => match ro with | some r => P 0 (sl z1 a5 (0 : Int32).toNatClampNeg r.toInt64) | none => P 1 z1)
set_option maxRecDepth 100000 in
set_option maxHeartbeats 4000000 in
theorem ctL_rests {E : gE} {n : Nat} {sh : Nat → Nat × Nat} {a0 : Nat} {x1 x2 x3 x4 : Int32} {a5 : Nat} {z : gS} {P : Int32 → gS → Prop} (hn : gOK E n) (hth : gThr E) (hf : wL_rests n sh a0 x1 x2 x3 x4 a5 z P) : VMW E 20 1 gyL_rests [(0, 14, 17, 13)] [.ref a0, .int x1, .int x2, .int x3, .int x4, .ref a5] n sh z (kI n sh P) := by
  obtain ⟨h0, h5, hi, hf⟩ := hf
  refine va_MetW (cc := cL_rests) (maxL := 7) (ret := some .int) (by decide) rfl ?_
  intro p e s m args below meth c s₁ B hml hv
  obtain ⟨rfl, hP, hK, hN, hF, hFok, hB, hnn, hu⟩ := hv
  have hts := atoms_spec (ws := Cond.codeWith yL_rests cL_rests 7 (some .int) [(0, 14, 17, 13)] :: lw_g) B.pre
  have htab := vx_table (x := yL_rests) B (hts _ List.mem_cons_self)
  have hlo := B.notSynchronized
  have hret : meth.sig.returnType = some .int := B.returns
  have C : gCtx E gyL_rests p s m (([.ref a0, .int x1, .int x2, .int x3, .int x4, .ref a5] : List Value).map (ev E.2.1)).toArray meth c := ⟨B.exec, B.bytes, hml, hret, hlo, findClass_of_methodNamed B.named, fun w hw => hts w (List.mem_cons_of_mem _ hw), hK, hN, hF, hFok, hB, (name_of_methodNamed B.named B.method).1⟩
  have ht := C.2.2.2.2.2.2.1
  have hQ : gRet E (gR 20 1) gyL_rests p e s m (([.ref a0, .int x1, .int x2, .int x3, .int x4, .ref a5] : List Value).map (ev E.2.1)).toArray below meth c (kI n sh P) (MQ below (gQK E (kI n sh P)) (([.ref a0, .int x1, .int x2, .int x3, .int x4, .ref a5] : List Value).map (ev E.2.1)).toArray s 1 (2200 * 1) (gA E.2.1)) := by
    intro r n1 sh1 z1 H1 l1 u1 hk hP1 hS1 hu1
    have hu1 : u1 ≤ 1 := hu1
    refine ⟨fun v rt pc la hr1 hr2 hnw hd => ?_, fun pc la hr1 hr2 hd => (by cases hr2), fun pc la hr1 _ _ _ => absurd (hr1 ▸ hk) (fun h => h.2.2)⟩
    refine W.widen (k := 1) (n := 2200 * 1) hu1 (by omega) ?_
    refine W.zret C.1 C.2.1 (hret.trans hr2) hnw (fun t ht _ => ⟨⟨r, n1, sh1, z1, ?_, hk, by rw [ht]; exact hP1⟩, hS1.F ht⟩) hS1.2.2 hd
    rw [hr1]
    rfl
  rw [lg_entry_eq]
  have hl := lv_entry (([.ref a0, .int x1, .int x2, .int x3, .int x4, .ref a5] : List Value).map (ev E.2.1)) (n := 7) (by rw [gsl_len]; exact Nat.le_of_ble_eq_true rfl)
  rw [gargs] at hl
  generalize (lg_sl (([.ref a0, .int x1, .int x2, .int x3, .int x4, .ref a5] : List Value).map (ev E.2.1)) ++ List.replicate (7 - (lg_sl (([.ref a0, .int x1, .int x2, .int x3, .int x4, .ref a5] : List Value).map (ev E.2.1))).length) Slot.unset).toArray = la at hl ⊢
  refine lv_aload (x := rA E.2.1 a5) C.1 C.2.1 dL_rests_0 (lv_at hl 5 rfl) ?_
  refine lv_iconst (v := 0) C.1 C.2.1 dL_rests_2 (by decide) ?_
  refine lv_aload_n (x := rA E.2.1 a0) C.1 C.2.1 dL_rests_3 rfl (lv_at hl 0 rfl) ?_
  refine lv_iload_n (x := x1) C.1 C.2.1 dL_rests_4 rfl (lv_at hl 1 rfl) ?_
  refine lv_iload_n (x := x2) C.1 C.2.1 dL_rests_5 rfl (lv_at hl 2 rfl) ?_
  refine lv_iload_n (x := x3) C.1 C.2.1 dL_rests_6 rfl (lv_at hl 3 rfl) ?_
  refine lv_iload (x := x4) C.1 C.2.1 dL_rests_7 (lv_at hl 4 rfl) ?_
  obtain ⟨⟨wcode, wini, wdd, wlink⟩, winst, wsel⟩ := gc_L_7
  have wl : Cond.methodLink RL 7 yX11_rests ∈ lw_g := xl_7
  have hrun := vx_runV (e := e) (below := below) (meth := meth) (As := [.int x1, .int x2, .int x3, .int x4]) (b := rA E.2.1 a0) (C := RX11) (rest := [.int 0, .ref (rA E.2.1 a5)]) (g := F0 m 9 la [.int x4, .int x3, .int x2, .int x1, .ref (rA E.2.1 a0), .int 0, .ref (rA E.2.1 a5)]) (H := s.heap) (locs := []) (cells := 0) (slots := 0) (R := gR 20 1) ⟨C.1, C.2.1, C.2.2.1, C.2.2.2.2.2.1, ht⟩ (ctX11_rests hn hth hf) ⟨callB_of 4 ht (gGood wcode) rfl rfl rfl (ht _ wini) (ht _ wl) wdd ⟨by decide, by decide⟩, ht _ winst, ht _ wsel⟩ ⟨gBlind (av := [.ref a0, .int x1, .int x2, .int x3, .int x4]), gRv.of h0.1 ⟨7, h0.2, by decide, rfl⟩ s s.heap [] hF hK hP va_S.rf hn.1, gPre (av := [.ref a0, .int x1, .int x2, .int x3, .int x4]) (mc1 := 0) C hP va_S.rf hn.1 (fun q => absurd rfl q)⟩ rfl rfl hl.1 rfl (lv_room (Nat.le_of_ble_eq_true rfl)) dL_rests_9 ⟨by decide, by decide⟩
  intro T hT X
  rcases hrun T hT X with ⟨v, st₀, t, T', L, e0, X', hL, e1, e2, ⟨⟨r, n1, sh1, z1, hv, ⟨hk, hne⟩, hp⟩, hz, hkk⟩, stp⟩ | ⟨q, st₀, t, T', L, Ex, ce, e0, X', hL, e1, e2, ⟨rfl, ⟨n1, sh1, z1, hk, hp⟩, hz, hkk⟩, hce, hcv, hcls, stp⟩
  · cases hv
    obtain ⟨rfl, rfl, hk⟩ := hk
    rw [e0] at hz hkk
    have hS' : va_S (gA E.2.1) s.heap T'.heap ([] ++ L) := ⟨by rw [e1]; exact hz, fun q h1 h2 => by rw [e1]; exact hkk q h1 h2, fun q hq => hL q hq⟩
    match r, hk, stp, hne with
    | some (.int rv), hk, stp, _ =>
      have VV : V E (gR 20 1) gyL_rests 0 1 12 [(0, .ref a0), (1, .int x1), (2, .int x2), (3, .int x3), (4, .int x4), (5, .ref a5)] [.int rv, .int 0, .ref a5] n1 sh1 z1 (kI n1 sh1 P) := by
        refine V_i2l dL_rests_12 ?_
        refine V_last h5.1 h5.s hi dL_rests_13 ?_
        refine V_goto (tgt := 21) dL_rests_14 (by decide) ?_
        refine V_iconst (v := (0 : Int32)) dL_rests_21 (by decide) ?_
        exact V_ireturn dL_rests_22 rfl rfl (Nat.le_refl 1) (kI_of hk)
      obtain ⟨t2, a1, b1⟩ := VV p e s m _ below meth c T'.heap ([] ++ L) la _ C hQ (by rw [e1]; exact hp) hS' hl hn.1 (fun q => absurd rfl q) T' rfl X'
      exact ⟨t2, stp t2 a1, b1⟩
    | some .null, _, _, hne => exact absurd rfl hne
  · obtain ⟨rfl, rfl, hk⟩ := hk
    rw [e0] at hz hkk
    have hS' : va_S (gA E.2.1) s.heap T'.heap ([] ++ L) := ⟨by rw [e1]; exact hz, fun q h1 h2 => by rw [e1]; exact hkk q h1 h2, fun q hq => hL q hq⟩
    have WH : W p E.1 e (gR 20 1) s m (([.ref a0, .int x1, .int x2, .int x3, .int x4, .ref a5] : List Value).map (ev E.2.1)).toArray below meth c T'.heap ([] ++ L) (0 + 1) (0 + 2200) (MQ below (gQK E (kI n1 sh1 P)) (([.ref a0, .int x1, .int x2, .int x3, .int x4, .ref a5] : List Value).map (ev E.2.1)).toArray s 1 (2200 * 1) (gA E.2.1)) (F0 m 17 la [.ref q]) := by
      refine lv_astore C.1 C.2.1 dL_rests_17 hl (by decide) rfl (fun la2 hl2 => ?_)
      refine lv_iconst (v := 1) C.1 C.2.1 dL_rests_19 (by decide) ?_
      exact (hQ (some (.int 1)) n1 sh1 z1 T'.heap ([] ++ L) 1 (kI_of hk) (by rw [e1]; exact hp) hS' (Nat.le_refl 1)).1 1 .int 20 la2 rfl rfl rfl dL_rests_20
    have hown := C.2.2.2.2.2.1
    have hsp : c.exceptionTable.toList = [] ++ (tableOf [(0, 14, 17, 13)]).head (by decide) :: [] := htab
    have WX := vx_catch (pc := 9) (ls := la) (rest := [.int 0, .ref (rA E.2.1 a5)]) (own := RL) (name := "java/util/NoSuchElementException") (E := "java/util/NoSuchElementException") (q := q) (ce := ce) hown [] _ [] hsp (fun z hz => nomatch hz) (by decide) (by decide) (ht _ xl_13) (va_Nw.use rfl ((hth.2 s s.heap hF).2.2 _ (by decide +kernel))) (by rw [e1]; exact hce) hcv hcls WH
    obtain ⟨t2, a1, b1⟩ := WX T' rfl X'
    exact ⟨t2, stp.trans a1, b1⟩
