/-! ===== making cells: names, rows of references ===== -/
def gAO (E : gE) : Prop := ∀ (U : State) (H : Heap), E.2.2 U H → va_AO "GlassStreet$World" U
def kA (P : Nat → (Nat → Nat × Nat) → gS → Prop) : gK := fun r n1 sh1 z1 => r = none ∧ P n1 sh1 z1
section GN2
variable {E : gE} {R : Room} {Y : gY} {mc u pc : Nat} {ls : List (Nat × Value)} {st : List Value} {n : Nat} {sh : Nat → Nat × Nat} {z : gS} {K : gK}
theorem V_nsh (k : ∀ y : Nat → Nat × Nat, y = sh → V E R Y mc u pc ls st n y z K) : V E R Y mc u pc ls st n sh z K := k sh rfl
theorem V_newaW {idx : Nat} {len : Int32} {N : Nat} (hao : gAO E) (hm : mc ≠ 0) (hcl : Cond.classLink Y.1.cls idx (gC 6).1 ∈ lw_g) (h0 : ¬ len < 0) (hl0 : len.toNatClampNeg = N) (hN : N ≤ 2200) (hR : u + 1 ≤ R.cells ∧ 2200 * u + 2200 ≤ R.slots) (hn1 : n + 1 ≤ 1000000) (hd : decode Y.2.1 pc = .ok (.anewarray idx, 3))
    (k : V E R Y mc (u + 1) (pc + 3) ls (.ref n :: st) (n + 1) (va_up sh n (5, N)) (z0 z n) K) : V E R Y mc u pc ls (.int len :: st) n sh z K := by
  intro p e s m args below meth c H locs la Q C hQ hP hS hl hn hu
  have ht := C.2.2.2.2.2.2.1
  refine va_newq (C := "GlassStreet$World") C.1 C.2.1 C.2.2.2.2.2.1 (ht _ hcl) (hao s s.heap C.2.2.2.2.2.2.2.2.2.1) C.2.2.2.2.2.2.2.1 hP wd_D hS (fun q hq => Nat.le_trans C.2.2.2.2.2.2.2.2.2.2.2.1 hq) h0 hl0 (Nat.le_trans (Nat.mul_le_mul_right _ hN) (by decide)) hR.1 (Nat.le_trans (Nat.add_le_add_left hN _) hR.2) hd (fun q cA H1 hK1 hP1 hD1 hS1 => ?_)
  have hcA : cA = E.2.1.2.2.1 5 := by
    obtain ⟨_, _, _, _, _, h1⟩ := (hK1.2 6 _ rfl).2
    obtain ⟨_, _, _, _, _, h2⟩ := (C.2.2.2.2.2.2.2.1.2 5 _ rfl).2
    exact Option.some.inj (Eq.trans (Eq.symm h1) h2)
  subst hcA
  refine W.widen (k := u + 1) (n := 2200 * (u + 1)) (Nat.le_refl _) (by rw [Nat.mul_add]; omega) ?_
  intro T hT X
  have hz : H1.size ≤ E.2.1.1 + n + 1 := by have h1 := X.heapSize; have h2 := hu hm; rw [← hT]; omega
  have hq := gFresh hP1 hD1 hz
  subst hq
  have he : ent E.2.1 (va_up sh n (5, N)) (z0 z n) n = .inl (E.2.1.2.2.1 5, N, .inr (.inr (.inr (.inr (fun _ => none))))) := by
    rw [ent_5 (n := N) (va_up_self _ _ _)]
    congr 7
    funext j
    simp [gr_z0]
  rw [wd_push he] at hP1
  have h1 := k p e s m args below meth c H1 locs la Q C hQ hP1 hS1 hl hn1 (fun q => by have := hu q; omega)
  rw [List.map_cons, ev_ref (Nat.lt_of_lt_of_le (Nat.lt_succ_self n) hn1)] at h1
  exact h1 T hT X
theorem V_aast {a len v : Nat} {i : Int32} (ha : a < n) (hs : sh a = (5, len)) (hi : vp_in i len) (hv : v < n) (hsv : sh v = (0, 6)) (hd : decode Y.2.1 pc = .ok (.aastore, 1)) (kk : V E R Y mc u (pc + 1) ls st n sh (sr z a i.toNatClampNeg (some v)) K) : V E R Y mc u pc ls (.ref v :: .int i :: .ref a :: st) n sh z K := by
  intro p e s m args below meth c H locs la Q C hQ hP hS hl hn hu
  show W p E.1 e R s m args below meth c H locs u (2200 * u) Q (F0 m pc la (ev E.2.1 (.ref v) :: .int i :: ev E.2.1 (.ref a) :: st.map (ev E.2.1)))
  rw [ev_ref (Nat.lt_of_lt_of_le ha hn), ev_ref (Nat.lt_of_lt_of_le hv hn)]
  refine va_astq C.1 C.2.1 C.2.2.2.2.2.2.2.1 hP wd_D hS a 5 v 6 (r := (RX10, TX10, 8)) ((wd_at ha).trans (by rw [ent_5 hs])) rfl ((wd_at hv).trans (by rw [ent_o hsv])) rfl hi hd (fun H1 l1 hP1 _ hS1 => ?_)
  rw [wd_set (z' := sr z a i.toNatClampNeg (some v)) ha (by rw [ent_5 hs]; congr 7; funext j; by_cases h : j = i.toNatClampNeg <;> simp [gr_sr, va_up, h, rA, Nat.lt_of_lt_of_le hv hn]) ent_ne_sr] at hP1
  exact kk p e s m args below meth c H1 l1 la Q C hQ hP1 hS1 hl hn hu
theorem V_cVNa {Y1 : gY} {d1 idx np b : Nat} {av st0 : List Value} {P : gS → Prop} (hM : VM E d1 0 Y1 (.ref b :: av) n sh z (kN n sh P)) (hc : gCV Y.1.cls idx Y1 np) (ha : av.length = np) (hb : b < n) (hbs : ∃ ci, sh b = (0, ci) ∧ ci < 9 ∧ (gC ci).1 = Y1.1.cls) (hR : d1 + 1 ≤ R.frames ∧ 64 * d1 + 19 + Y1.2.2.1 ≤ R.locals ∧ u ≤ R.cells ∧ 2200 * u ≤ R.slots) (hcat : (st.map fun v => v.category).sum ≤ 8) (hd : decode Y.2.1 pc = .ok (.invokevirtual idx, 3)) (he : st0 = av.reverse ++ .ref b :: st) (hn : n ≤ 1000000) (k : ∀ (z1 : gS), P z1 → V E R Y mc u (pc + 3) ls st n sh z1 K) : V E R Y mc u pc ls st0 n sh z K := by
  subst he
  refine V_callV hM hc ha (gRv.of hb hbs) ⟨hR.1, hR.2.1, hR.2.2.1, hR.2.2.2⟩ hcat (fun q => absurd rfl q) hd (fun r n1 sh1 z1 h => ?_)
  obtain ⟨rfl, rfl, h⟩ := h
  match r, h with
  | none, h => exact ⟨hn, fun _ => rfl, k z1 h⟩
theorem V_mc {mc2 : Nat} (h : V E R Y 0 u pc ls st n sh z K) : V E R Y mc2 u pc ls st n sh z K := fun p e s m args below meth c H locs la Q C hQ hP hS hl hn _ => h p e s m args below meth c H locs la Q C hQ hP hS hl hn (fun q => absurd rfl q)
end GN2
theorem df_0 : ∀ j, j < (gC 0).2.2 → defaultValue (gT 0 j) = vp_V ((gFk 0).map (fun kd => if kd = 0 then Value.int 0 else if kd = 1 then .long 0 else .null)) j := by decide
theorem df_1 : ∀ j, j < (gC 1).2.2 → defaultValue (gT 1 j) = vp_V ((gFk 1).map (fun kd => if kd = 0 then Value.int 0 else if kd = 1 then .long 0 else .null)) j := by decide
theorem df_2 : ∀ j, j < (gC 2).2.2 → defaultValue (gT 2 j) = vp_V ((gFk 2).map (fun kd => if kd = 0 then Value.int 0 else if kd = 1 then .long 0 else .null)) j := by decide
theorem df_3 : ∀ j, j < (gC 3).2.2 → defaultValue (gT 3 j) = vp_V ((gFk 3).map (fun kd => if kd = 0 then Value.int 0 else if kd = 1 then .long 0 else .null)) j := by decide
theorem df_4 : ∀ j, j < (gC 4).2.2 → defaultValue (gT 4 j) = vp_V ((gFk 4).map (fun kd => if kd = 0 then Value.int 0 else if kd = 1 then .long 0 else .null)) j := by decide
theorem df_5 : ∀ j, j < (gC 5).2.2 → defaultValue (gT 5 j) = vp_V ((gFk 5).map (fun kd => if kd = 0 then Value.int 0 else if kd = 1 then .long 0 else .null)) j := by decide
theorem df_6 : ∀ j, j < (gC 6).2.2 → defaultValue (gT 6 j) = vp_V ((gFk 6).map (fun kd => if kd = 0 then Value.int 0 else if kd = 1 then .long 0 else .null)) j := by decide
theorem df_7 : ∀ j, j < (gC 7).2.2 → defaultValue (gT 7 j) = vp_V ((gFk 7).map (fun kd => if kd = 0 then Value.int 0 else if kd = 1 then .long 0 else .null)) j := by decide
theorem df_8 : ∀ j, j < (gC 8).2.2 → defaultValue (gT 8 j) = vp_V ((gFk 8).map (fun kd => if kd = 0 then Value.int 0 else if kd = 1 then .long 0 else .null)) j := by decide
abbrev gyX9_init : gY := (yX9_init, cX9_init, 1, none)
abbrev gyX10_init : gY := (yX10_init, cX10_init, 1, none)
abbrev gyX4_init : gY := (yX4_init, cX4_init, 2, none)
abbrev gyX2_init : gY := (yX2_init, cX2_init, 1, none)
abbrev gyX5_init : gY := (yX5_init, cX5_init, 1, none)
abbrev gyX7_init : gY := (yX7_init, cX7_init, 1, none)
abbrev gyX0_init : gY := (yX0_init, cX0_init, 1, none)
abbrev gyX11_init : gY := (yX11_init, cX11_init, 2, none)
abbrev gyX12_init : gY := (yX12_init, cX12_init, 1, none)
theorem ob_X9 : Cond.methodLink RX9 3 Lib.objectInit ∈ lw_g := lw_g_in (List.mem_of_getElem? (i := 116) (by decide +kernel)) (by decide +kernel)
theorem obi : Cond.instanceMethod Lib.objectInit ∈ lw_g := lw_g_in (List.mem_of_getElem? (i := 109) (by decide +kernel)) (by decide +kernel)
theorem obc : Cond.code Lib.objectInit ⟨#[0xb1]⟩ 1 none ∈ lw_g := lw_g_in (List.mem_of_getElem? (i := 110) (by decide +kernel)) (by decide +kernel)
theorem ar_3 : Cond.arrayClass .char ∈ lw_g := lw_g_in (List.mem_of_getElem? (i := 155) (by decide +kernel)) (by decide +kernel)
theorem fk_X9_11 : Cond.fieldLink RX9 11 "GlassStreet$Tape" "signs" "[C" ∈ lw_g := lw_g_in (List.mem_of_getElem? (i := 117) (by decide +kernel)) (by decide +kernel)
theorem ob_X10 : Cond.methodLink RX10 5 Lib.objectInit ∈ lw_g := lw_g_in (List.mem_of_getElem? (i := 161) (by decide +kernel)) (by decide +kernel)
theorem ar_1 : Cond.arrayClass .int ∈ lw_g := lw_g_in (List.mem_of_getElem? (i := 200) (by decide +kernel)) (by decide +kernel)
theorem fk_X10_27 : Cond.fieldLink RX10 27 "GlassStreet$World" "cells" "[I" ∈ lw_g := lw_g_in (List.mem_of_getElem? (i := 175) (by decide +kernel)) (by decide +kernel)
theorem fk_X10_31 : Cond.fieldLink RX10 31 "GlassStreet$World" "held" "[I" ∈ lw_g := lw_g_in (List.mem_of_getElem? (i := 179) (by decide +kernel)) (by decide +kernel)
theorem fk_X10_34 : Cond.fieldLink RX10 34 "GlassStreet$World" "marks" "[I" ∈ lw_g := lw_g_in (List.mem_of_getElem? (i := 182) (by decide +kernel)) (by decide +kernel)
theorem ob_X4 : Cond.methodLink RX4 1 Lib.objectInit ∈ lw_g := lw_g_in (List.mem_of_getElem? (i := 206) (by decide +kernel)) (by decide +kernel)
theorem cl_X4_9 : Cond.classLink RX4 9 (gC 6).1 ∈ lw_g := lw_g_in (List.mem_of_getElem? (i := 207) (by decide +kernel)) (by decide +kernel)
theorem fk_X4_11 : Cond.fieldLink RX4 11 "GlassStreet$History" "kept" "[LGlassStreet$World;" ∈ lw_g := lw_g_in (List.mem_of_getElem? (i := 210) (by decide +kernel)) (by decide +kernel)
theorem in_6 : Cond.instantiable (gC 6).1 (gC 6).2.2 ∈ lw_g := lw_g_in (List.mem_of_getElem? (i := 157) (by decide +kernel)) (by decide +kernel)
theorem iz_6 : Cond.initialized (gC 6).1 ∈ lw_g := lw_g_in (List.mem_of_getElem? (i := 80) (by decide +kernel)) (by decide +kernel)
theorem gk_X4_22 : gCI RX4 22 gyX10_init 0 := ⟨⟨lw_g_in (List.mem_of_getElem? (i := 160) (by decide +kernel)) (by decide +kernel), lw_g_in (List.mem_of_getElem? (i := 80) (by decide +kernel)) (by decide +kernel), ⟨by decide, by decide, by decide +kernel⟩, Or.inr ⟨"GlassStreet", lw_n_in (List.mem_of_getElem? (i := 209) (by decide +kernel)) (by decide +kernel)⟩⟩, lw_g_in (List.mem_of_getElem? (i := 159) (by decide +kernel)) (by decide +kernel), rfl, rfl⟩
theorem ob_X2 : Cond.methodLink RX2 1 Lib.objectInit ∈ lw_g := lw_g_in (List.mem_of_getElem? (i := 226) (by decide +kernel)) (by decide +kernel)
theorem ob_X5 : Cond.methodLink RX5 3 Lib.objectInit ∈ lw_g := lw_g_in (List.mem_of_getElem? (i := 250) (by decide +kernel)) (by decide +kernel)
theorem fk_X5_11 : Cond.fieldLink RX5 11 "GlassStreet$Law" "codes" "[I" ∈ lw_g := lw_g_in (List.mem_of_getElem? (i := 251) (by decide +kernel)) (by decide +kernel)
theorem fk_X5_17 : Cond.fieldLink RX5 17 "GlassStreet$Law" "parts" "[I" ∈ lw_g := lw_g_in (List.mem_of_getElem? (i := 252) (by decide +kernel)) (by decide +kernel)
theorem ob_X7 : Cond.methodLink RX7 3 Lib.objectInit ∈ lw_g := lw_g_in (List.mem_of_getElem? (i := 244) (by decide +kernel)) (by decide +kernel)
theorem cl_X7_9 : Cond.classLink RX7 9 (gC 3).1 ∈ lw_g := lw_g_in (List.mem_of_getElem? (i := 245) (by decide +kernel)) (by decide +kernel)
theorem in_3 : Cond.instantiable (gC 3).1 (gC 3).2.2 ∈ lw_g := lw_g_in (List.mem_of_getElem? (i := 246) (by decide +kernel)) (by decide +kernel)
theorem iz_3 : Cond.initialized (gC 3).1 ∈ lw_g := lw_g_in (List.mem_of_getElem? (i := 84) (by decide +kernel)) (by decide +kernel)
theorem gk_X7_11 : gCI RX7 11 gyX5_init 0 := ⟨⟨lw_g_in (List.mem_of_getElem? (i := 249) (by decide +kernel)) (by decide +kernel), lw_g_in (List.mem_of_getElem? (i := 84) (by decide +kernel)) (by decide +kernel), ⟨by decide, by decide, by decide +kernel⟩, Or.inr ⟨"GlassStreet", lw_n_in (List.mem_of_getElem? (i := 247) (by decide +kernel)) (by decide +kernel)⟩⟩, lw_g_in (List.mem_of_getElem? (i := 248) (by decide +kernel)) (by decide +kernel), rfl, rfl⟩
theorem fk_X7_12 : Cond.fieldLink RX7 12 "GlassStreet$Street" "law" "LGlassStreet$Law;" ∈ lw_g := lw_g_in (List.mem_of_getElem? (i := 262) (by decide +kernel)) (by decide +kernel)
theorem fk_X7_18 : Cond.fieldLink RX7 18 "GlassStreet$Street" "kinds" "[I" ∈ lw_g := lw_g_in (List.mem_of_getElem? (i := 265) (by decide +kernel)) (by decide +kernel)
theorem fk_X7_22 : Cond.fieldLink RX7 22 "GlassStreet$Street" "keeps" "[I" ∈ lw_g := lw_g_in (List.mem_of_getElem? (i := 269) (by decide +kernel)) (by decide +kernel)
theorem fk_X7_25 : Cond.fieldLink RX7 25 "GlassStreet$Street" "views" "[I" ∈ lw_g := lw_g_in (List.mem_of_getElem? (i := 273) (by decide +kernel)) (by decide +kernel)
theorem fk_X7_28 : Cond.fieldLink RX7 28 "GlassStreet$Street" "homes" "[I" ∈ lw_g := lw_g_in (List.mem_of_getElem? (i := 276) (by decide +kernel)) (by decide +kernel)
theorem fk_X7_31 : Cond.fieldLink RX7 31 "GlassStreet$Street" "harms" "[I" ∈ lw_g := lw_g_in (List.mem_of_getElem? (i := 279) (by decide +kernel)) (by decide +kernel)
theorem fk_X7_34 : Cond.fieldLink RX7 34 "GlassStreet$Street" "lights" "[I" ∈ lw_g := lw_g_in (List.mem_of_getElem? (i := 283) (by decide +kernel)) (by decide +kernel)
theorem ar_2 : Cond.arrayClass .long ∈ lw_g := lw_g_in (List.mem_of_getElem? (i := 346) (by decide +kernel)) (by decide +kernel)
theorem fk_X7_37 : Cond.fieldLink RX7 37 "GlassStreet$Street" "paneNames" "[J" ∈ lw_g := lw_g_in (List.mem_of_getElem? (i := 285) (by decide +kernel)) (by decide +kernel)
theorem fk_X7_41 : Cond.fieldLink RX7 41 "GlassStreet$Street" "personNames" "[J" ∈ lw_g := lw_g_in (List.mem_of_getElem? (i := 288) (by decide +kernel)) (by decide +kernel)
theorem fk_X7_44 : Cond.fieldLink RX7 44 "GlassStreet$Street" "deedNames" "[J" ∈ lw_g := lw_g_in (List.mem_of_getElem? (i := 291) (by decide +kernel)) (by decide +kernel)
theorem ob_X0 : Cond.methodLink RX0 3 Lib.objectInit ∈ lw_g := lw_g_in (List.mem_of_getElem? (i := 352) (by decide +kernel)) (by decide +kernel)
theorem fk_X0_9 : Cond.fieldLink RX0 9 "GlassStreet$Day" "verbs" "[I" ∈ lw_g := lw_g_in (List.mem_of_getElem? (i := 353) (by decide +kernel)) (by decide +kernel)
theorem fk_X0_15 : Cond.fieldLink RX0 15 "GlassStreet$Day" "firsts" "[I" ∈ lw_g := lw_g_in (List.mem_of_getElem? (i := 355) (by decide +kernel)) (by decide +kernel)
theorem fk_X0_18 : Cond.fieldLink RX0 18 "GlassStreet$Day" "seconds" "[I" ∈ lw_g := lw_g_in (List.mem_of_getElem? (i := 357) (by decide +kernel)) (by decide +kernel)
theorem ob_X11 : Cond.methodLink RX11 1 Lib.objectInit ∈ lw_g := lw_g_in (List.mem_of_getElem? (i := 108) (by decide +kernel)) (by decide +kernel)
theorem cl_X11_7 : Cond.classLink RX11 7 (gC 5).1 ∈ lw_g := lw_g_in (List.mem_of_getElem? (i := 111) (by decide +kernel)) (by decide +kernel)
theorem in_5 : Cond.instantiable (gC 5).1 (gC 5).2.2 ∈ lw_g := lw_g_in (List.mem_of_getElem? (i := 112) (by decide +kernel)) (by decide +kernel)
theorem iz_5 : Cond.initialized (gC 5).1 ∈ lw_g := lw_g_in (List.mem_of_getElem? (i := 79) (by decide +kernel)) (by decide +kernel)
theorem gk_X11_9 : gCI RX11 9 gyX9_init 0 := ⟨⟨lw_g_in (List.mem_of_getElem? (i := 115) (by decide +kernel)) (by decide +kernel), lw_g_in (List.mem_of_getElem? (i := 79) (by decide +kernel)) (by decide +kernel), ⟨by decide, by decide, by decide +kernel⟩, Or.inr ⟨"GlassStreet", lw_n_in (List.mem_of_getElem? (i := 113) (by decide +kernel)) (by decide +kernel)⟩⟩, lw_g_in (List.mem_of_getElem? (i := 114) (by decide +kernel)) (by decide +kernel), rfl, rfl⟩
theorem fk_X11_10 : Cond.fieldLink RX11 10 "GlassStreet" "tape" "LGlassStreet$Tape;" ∈ lw_g := lw_g_in (List.mem_of_getElem? (i := 379) (by decide +kernel)) (by decide +kernel)
theorem cl_X11_16 : Cond.classLink RX11 16 (gC 6).1 ∈ lw_g := lw_g_in (List.mem_of_getElem? (i := 156) (by decide +kernel)) (by decide +kernel)
theorem gk_X11_18 : gCI RX11 18 gyX10_init 0 := ⟨⟨lw_g_in (List.mem_of_getElem? (i := 160) (by decide +kernel)) (by decide +kernel), lw_g_in (List.mem_of_getElem? (i := 80) (by decide +kernel)) (by decide +kernel), ⟨by decide, by decide, by decide +kernel⟩, Or.inr ⟨"GlassStreet", lw_n_in (List.mem_of_getElem? (i := 158) (by decide +kernel)) (by decide +kernel)⟩⟩, lw_g_in (List.mem_of_getElem? (i := 159) (by decide +kernel)) (by decide +kernel), rfl, rfl⟩
theorem fk_X11_19 : Cond.fieldLink RX11 19 "GlassStreet" "now" "LGlassStreet$World;" ∈ lw_g := lw_g_in (List.mem_of_getElem? (i := 380) (by decide +kernel)) (by decide +kernel)
theorem fk_X11_23 : Cond.fieldLink RX11 23 "GlassStreet" "trial" "LGlassStreet$World;" ∈ lw_g := lw_g_in (List.mem_of_getElem? (i := 381) (by decide +kernel)) (by decide +kernel)
theorem cl_X11_26 : Cond.classLink RX11 26 (gC 2).1 ∈ lw_g := lw_g_in (List.mem_of_getElem? (i := 201) (by decide +kernel)) (by decide +kernel)
theorem in_2 : Cond.instantiable (gC 2).1 (gC 2).2.2 ∈ lw_g := lw_g_in (List.mem_of_getElem? (i := 202) (by decide +kernel)) (by decide +kernel)
theorem iz_2 : Cond.initialized (gC 2).1 ∈ lw_g := lw_g_in (List.mem_of_getElem? (i := 81) (by decide +kernel)) (by decide +kernel)
theorem gk_X11_28 : gCI RX11 28 gyX4_init 0 := ⟨⟨lw_g_in (List.mem_of_getElem? (i := 205) (by decide +kernel)) (by decide +kernel), lw_g_in (List.mem_of_getElem? (i := 81) (by decide +kernel)) (by decide +kernel), ⟨by decide, by decide, by decide +kernel⟩, Or.inl (lw_g_in (List.mem_of_getElem? (i := 203) (by decide +kernel)) (by decide +kernel))⟩, lw_g_in (List.mem_of_getElem? (i := 204) (by decide +kernel)) (by decide +kernel), rfl, rfl⟩
theorem fk_X11_29 : Cond.fieldLink RX11 29 "GlassStreet" "history" "LGlassStreet$History;" ∈ lw_g := lw_g_in (List.mem_of_getElem? (i := 382) (by decide +kernel)) (by decide +kernel)
theorem fk_X11_33 : Cond.fieldLink RX11 33 "GlassStreet" "notches" "[LGlassStreet$World;" ∈ lw_g := lw_g_in (List.mem_of_getElem? (i := 383) (by decide +kernel)) (by decide +kernel)
theorem cl_X11_37 : Cond.classLink RX11 37 (gC 1).1 ∈ lw_g := lw_g_in (List.mem_of_getElem? (i := 221) (by decide +kernel)) (by decide +kernel)
theorem in_1 : Cond.instantiable (gC 1).1 (gC 1).2.2 ∈ lw_g := lw_g_in (List.mem_of_getElem? (i := 222) (by decide +kernel)) (by decide +kernel)
theorem iz_1 : Cond.initialized (gC 1).1 ∈ lw_g := lw_g_in (List.mem_of_getElem? (i := 82) (by decide +kernel)) (by decide +kernel)
theorem gk_X11_39 : gCI RX11 39 gyX2_init 0 := ⟨⟨lw_g_in (List.mem_of_getElem? (i := 225) (by decide +kernel)) (by decide +kernel), lw_g_in (List.mem_of_getElem? (i := 82) (by decide +kernel)) (by decide +kernel), ⟨by decide, by decide, by decide +kernel⟩, Or.inr ⟨"GlassStreet", lw_n_in (List.mem_of_getElem? (i := 223) (by decide +kernel)) (by decide +kernel)⟩⟩, lw_g_in (List.mem_of_getElem? (i := 224) (by decide +kernel)) (by decide +kernel), rfl, rfl⟩
theorem fk_X11_40 : Cond.fieldLink RX11 40 "GlassStreet" "draws" "LGlassStreet$Draws;" ∈ lw_g := lw_g_in (List.mem_of_getElem? (i := 384) (by decide +kernel)) (by decide +kernel)
theorem cl_X11_48 : Cond.classLink RX11 48 (gC 4).1 ∈ lw_g := lw_g_in (List.mem_of_getElem? (i := 239) (by decide +kernel)) (by decide +kernel)
theorem in_4 : Cond.instantiable (gC 4).1 (gC 4).2.2 ∈ lw_g := lw_g_in (List.mem_of_getElem? (i := 240) (by decide +kernel)) (by decide +kernel)
theorem iz_4 : Cond.initialized (gC 4).1 ∈ lw_g := lw_g_in (List.mem_of_getElem? (i := 83) (by decide +kernel)) (by decide +kernel)
theorem gk_X11_50 : gCI RX11 50 gyX7_init 0 := ⟨⟨lw_g_in (List.mem_of_getElem? (i := 243) (by decide +kernel)) (by decide +kernel), lw_g_in (List.mem_of_getElem? (i := 83) (by decide +kernel)) (by decide +kernel), ⟨by decide, by decide, by decide +kernel⟩, Or.inr ⟨"GlassStreet", lw_n_in (List.mem_of_getElem? (i := 241) (by decide +kernel)) (by decide +kernel)⟩⟩, lw_g_in (List.mem_of_getElem? (i := 242) (by decide +kernel)) (by decide +kernel), rfl, rfl⟩
theorem cl_X11_58 : Cond.classLink RX11 58 (gC 0).1 ∈ lw_g := lw_g_in (List.mem_of_getElem? (i := 347) (by decide +kernel)) (by decide +kernel)
theorem in_0 : Cond.instantiable (gC 0).1 (gC 0).2.2 ∈ lw_g := lw_g_in (List.mem_of_getElem? (i := 348) (by decide +kernel)) (by decide +kernel)
theorem iz_0 : Cond.initialized (gC 0).1 ∈ lw_g := lw_g_in (List.mem_of_getElem? (i := 85) (by decide +kernel)) (by decide +kernel)
theorem gk_X11_60 : gCI RX11 60 gyX0_init 0 := ⟨⟨lw_g_in (List.mem_of_getElem? (i := 351) (by decide +kernel)) (by decide +kernel), lw_g_in (List.mem_of_getElem? (i := 85) (by decide +kernel)) (by decide +kernel), ⟨by decide, by decide, by decide +kernel⟩, Or.inr ⟨"GlassStreet", lw_n_in (List.mem_of_getElem? (i := 349) (by decide +kernel)) (by decide +kernel)⟩⟩, lw_g_in (List.mem_of_getElem? (i := 350) (by decide +kernel)) (by decide +kernel), rfl, rfl⟩
theorem ob_X12 : Cond.methodLink RX12 18 Lib.objectInit ∈ lw_g := lw_g_in (List.mem_of_getElem? (i := 1229) (by decide +kernel)) (by decide +kernel)
theorem fk_X12_14 : Cond.fieldLink RX12 14 "GlassStreetModel" "tape" "[I" ∈ lw_g := lw_g_in (List.mem_of_getElem? (i := 1273) (by decide +kernel)) (by decide +kernel)
theorem fk_X12_24 : Cond.fieldLink RX12 24 "GlassStreetModel" "sort" "[I" ∈ lw_g := lw_g_in (List.mem_of_getElem? (i := 1276) (by decide +kernel)) (by decide +kernel)
theorem fk_X12_27 : Cond.fieldLink RX12 27 "GlassStreetModel" "place" "[I" ∈ lw_g := lw_g_in (List.mem_of_getElem? (i := 1277) (by decide +kernel)) (by decide +kernel)
theorem fk_X12_30 : Cond.fieldLink RX12 30 "GlassStreetModel" "value" "[J" ∈ lw_g := lw_g_in (List.mem_of_getElem? (i := 1278) (by decide +kernel)) (by decide +kernel)
theorem kj_X12_34 : Cond.constantLong RX12 34 (812340 : Int64) ∈ lw_g := lw_g_in (List.mem_of_getElem? (i := 1230) (by decide +kernel)) (by decide +kernel)
theorem kj_X12_36 : Cond.constantLong RX12 36 (20876492 : Int64) ∈ lw_g := lw_g_in (List.mem_of_getElem? (i := 1231) (by decide +kernel)) (by decide +kernel)
theorem kj_X12_38 : Cond.constantLong RX12 38 (969456 : Int64) ∈ lw_g := lw_g_in (List.mem_of_getElem? (i := 1232) (by decide +kernel)) (by decide +kernel)
theorem kj_X12_40 : Cond.constantLong RX12 40 (1119812451 : Int64) ∈ lw_g := lw_g_in (List.mem_of_getElem? (i := 1233) (by decide +kernel)) (by decide +kernel)
theorem kj_X12_42 : Cond.constantLong RX12 42 (57 : Int64) ∈ lw_g := lw_g_in (List.mem_of_getElem? (i := 1234) (by decide +kernel)) (by decide +kernel)
theorem kj_X12_44 : Cond.constantLong RX12 44 (209646 : Int64) ∈ lw_g := lw_g_in (List.mem_of_getElem? (i := 1235) (by decide +kernel)) (by decide +kernel)
theorem kj_X12_46 : Cond.constantLong RX12 46 (407272 : Int64) ∈ lw_g := lw_g_in (List.mem_of_getElem? (i := 1236) (by decide +kernel)) (by decide +kernel)
theorem kj_X12_48 : Cond.constantLong RX12 48 (22955708 : Int64) ∈ lw_g := lw_g_in (List.mem_of_getElem? (i := 1237) (by decide +kernel)) (by decide +kernel)
theorem kj_X12_50 : Cond.constantLong RX12 50 (11301299 : Int64) ∈ lw_g := lw_g_in (List.mem_of_getElem? (i := 1238) (by decide +kernel)) (by decide +kernel)
theorem kj_X12_52 : Cond.constantLong RX12 52 (1166843 : Int64) ∈ lw_g := lw_g_in (List.mem_of_getElem? (i := 1239) (by decide +kernel)) (by decide +kernel)
theorem kj_X12_54 : Cond.constantLong RX12 54 (223351 : Int64) ∈ lw_g := lw_g_in (List.mem_of_getElem? (i := 1240) (by decide +kernel)) (by decide +kernel)
theorem kj_X12_56 : Cond.constantLong RX12 56 (1167099 : Int64) ∈ lw_g := lw_g_in (List.mem_of_getElem? (i := 1241) (by decide +kernel)) (by decide +kernel)
theorem kj_X12_58 : Cond.constantLong RX12 58 (9188151998 : Int64) ∈ lw_g := lw_g_in (List.mem_of_getElem? (i := 1242) (by decide +kernel)) (by decide +kernel)
theorem kj_X12_60 : Cond.constantLong RX12 60 (36643177 : Int64) ∈ lw_g := lw_g_in (List.mem_of_getElem? (i := 1243) (by decide +kernel)) (by decide +kernel)
theorem kj_X12_62 : Cond.constantLong RX12 62 (426554 : Int64) ∈ lw_g := lw_g_in (List.mem_of_getElem? (i := 1244) (by decide +kernel)) (by decide +kernel)
theorem kj_X12_64 : Cond.constantLong RX12 64 (30596128 : Int64) ∈ lw_g := lw_g_in (List.mem_of_getElem? (i := 1245) (by decide +kernel)) (by decide +kernel)
theorem kj_X12_66 : Cond.constantLong RX12 66 (16671652071 : Int64) ∈ lw_g := lw_g_in (List.mem_of_getElem? (i := 1246) (by decide +kernel)) (by decide +kernel)
theorem kj_X12_68 : Cond.constantLong RX12 68 (37900887 : Int64) ∈ lw_g := lw_g_in (List.mem_of_getElem? (i := 1247) (by decide +kernel)) (by decide +kernel)
theorem kj_X12_70 : Cond.constantLong RX12 70 (919275859 : Int64) ∈ lw_g := lw_g_in (List.mem_of_getElem? (i := 1248) (by decide +kernel)) (by decide +kernel)
theorem kj_X12_72 : Cond.constantLong RX12 72 (19741 : Int64) ∈ lw_g := lw_g_in (List.mem_of_getElem? (i := 1249) (by decide +kernel)) (by decide +kernel)
theorem kj_X12_74 : Cond.constantLong RX12 74 (1891 : Int64) ∈ lw_g := lw_g_in (List.mem_of_getElem? (i := 1250) (by decide +kernel)) (by decide +kernel)
theorem kj_X12_76 : Cond.constantLong RX12 76 (573 : Int64) ∈ lw_g := lw_g_in (List.mem_of_getElem? (i := 1251) (by decide +kernel)) (by decide +kernel)
theorem kj_X12_78 : Cond.constantLong RX12 78 (1633 : Int64) ∈ lw_g := lw_g_in (List.mem_of_getElem? (i := 1252) (by decide +kernel)) (by decide +kernel)
theorem kj_X12_80 : Cond.constantLong RX12 80 (2779 : Int64) ∈ lw_g := lw_g_in (List.mem_of_getElem? (i := 1253) (by decide +kernel)) (by decide +kernel)
theorem kj_X12_82 : Cond.constantLong RX12 82 (16781 : Int64) ∈ lw_g := lw_g_in (List.mem_of_getElem? (i := 1254) (by decide +kernel)) (by decide +kernel)
theorem kj_X12_84 : Cond.constantLong RX12 84 (26523209 : Int64) ∈ lw_g := lw_g_in (List.mem_of_getElem? (i := 1255) (by decide +kernel)) (by decide +kernel)
theorem fk_X12_86 : Cond.fieldLink RX12 86 "GlassStreetModel" "words" "[J" ∈ lw_g := lw_g_in (List.mem_of_getElem? (i := 1281) (by decide +kernel)) (by decide +kernel)
theorem fk_X12_89 : Cond.fieldLink RX12 89 "GlassStreetModel" "streets" "[I" ∈ lw_g := lw_g_in (List.mem_of_getElem? (i := 1282) (by decide +kernel)) (by decide +kernel)
theorem fk_X12_92 : Cond.fieldLink RX12 92 "GlassStreetModel" "op" "[I" ∈ lw_g := lw_g_in (List.mem_of_getElem? (i := 1283) (by decide +kernel)) (by decide +kernel)
theorem fk_X12_95 : Cond.fieldLink RX12 95 "GlassStreetModel" "arg" "[I" ∈ lw_g := lw_g_in (List.mem_of_getElem? (i := 1284) (by decide +kernel)) (by decide +kernel)
theorem fk_X12_98 : Cond.fieldLink RX12 98 "GlassStreetModel" "names" "[J" ∈ lw_g := lw_g_in (List.mem_of_getElem? (i := 1286) (by decide +kernel)) (by decide +kernel)
theorem fk_X12_101 : Cond.fieldLink RX12 101 "GlassStreetModel" "readNames" "[J" ∈ lw_g := lw_g_in (List.mem_of_getElem? (i := 1287) (by decide +kernel)) (by decide +kernel)
theorem fk_X12_104 : Cond.fieldLink RX12 104 "GlassStreetModel" "nameOf" "[I" ∈ lw_g := lw_g_in (List.mem_of_getElem? (i := 1288) (by decide +kernel)) (by decide +kernel)
theorem fk_X12_107 : Cond.fieldLink RX12 107 "GlassStreetModel" "readNameOf" "[I" ∈ lw_g := lw_g_in (List.mem_of_getElem? (i := 1289) (by decide +kernel)) (by decide +kernel)
theorem fk_X12_110 : Cond.fieldLink RX12 110 "GlassStreetModel" "lines" "[I" ∈ lw_g := lw_g_in (List.mem_of_getElem? (i := 1293) (by decide +kernel)) (by decide +kernel)
theorem fk_X12_113 : Cond.fieldLink RX12 113 "GlassStreetModel" "facts" "[I" ∈ lw_g := lw_g_in (List.mem_of_getElem? (i := 1294) (by decide +kernel)) (by decide +kernel)
theorem fk_X12_116 : Cond.fieldLink RX12 116 "GlassStreetModel" "pile" "[I" ∈ lw_g := lw_g_in (List.mem_of_getElem? (i := 1295) (by decide +kernel)) (by decide +kernel)
theorem fk_X12_119 : Cond.fieldLink RX12 119 "GlassStreetModel" "state" "[I" ∈ lw_g := lw_g_in (List.mem_of_getElem? (i := 1296) (by decide +kernel)) (by decide +kernel)
theorem ar_4 : Cond.arrayClass .boolean ∈ lw_g := lw_g_in (List.mem_of_getElem? (i := 1366) (by decide +kernel)) (by decide +kernel)
theorem fk_X12_122 : Cond.fieldLink RX12 122 "GlassStreetModel" "isNotched" "[Z" ∈ lw_g := lw_g_in (List.mem_of_getElem? (i := 1298) (by decide +kernel)) (by decide +kernel)
