/-! ===== the law's loop ===== -/
def gScr (E : gE) (Ls : Nat) (xs : Nat → Int32) : Prop := (∀ (U : State) (H : Heap), E.2.2 U H → va_X (E.2.1.2.1 1000030) Ls xs U H) ∧ E.2.1.2.1 1000030 < E.2.1.1
abbrev gRm : Room := { frames := 2048, cells := 3300, slots := 7293034, locals := 84000 }
abbrev gyL_law : gY := (yL_law, cL_law, 7, some .boolean)
section GL
variable {E : gE} {R : Room} {Y : gY} {u pc : Nat} {ls : List (Nat × Value)} {st : List Value} {n : Nat} {sh : Nat → Nat × Nat} {z : gS} {K : gK} {Ls : Nat} {xs : Nat → Int32}
theorem ev_scr {G : gG} : ev G (.ref 1000030) = .ref (G.2.1 1000030) := by show Value.ref _ = _; rw [rA_far (by decide)]
theorem V_sld {i : Int32} (hsc : gScr E Ls xs) (hi : vp_in i Ls) (hd : decode Y.2.1 pc = .ok (.iaload, 1)) (k : V E R Y 0 u (pc + 1) ls (.int (xs i.toNatClampNeg) :: st) n sh z K) : V E R Y 0 u pc ls (.int i :: .ref 1000030 :: st) n sh z K := by
  intro p e s m args below meth c H locs la Q C hQ hP hS hl hn hu
  have h1 := k p e s m args below meth c H locs la Q C hQ hP hS hl hn hu
  show W p E.1 e R s m args below meth c H locs u (2200 * u) Q (F0 m pc la (.int i :: ev E.2.1 (.ref 1000030) :: st.map (ev E.2.1)))
  rw [ev_scr]
  exact va_sld C.1 C.2.1 (hsc.1 s s.heap C.2.2.2.2.2.2.2.2.2.1) (Nat.lt_of_lt_of_le hsc.2 C.2.2.2.2.2.2.2.2.2.2.2.1) (Nat.not_le.mpr hsc.2) hS hi hd h1
theorem V_sln (hsc : gScr E Ls xs) (hd : decode Y.2.1 pc = .ok (.arraylength, 1)) (k : V E R Y 0 u (pc + 1) ls (.int (Int32.ofNat Ls) :: st) n sh z K) : V E R Y 0 u pc ls (.ref 1000030 :: st) n sh z K := by
  intro p e s m args below meth c H locs la Q C hQ hP hS hl hn hu
  have h1 := k p e s m args below meth c H locs la Q C hQ hP hS hl hn hu
  show W p E.1 e R s m args below meth c H locs u (2200 * u) Q (F0 m pc la (ev E.2.1 (.ref 1000030) :: st.map (ev E.2.1)))
  rw [ev_scr]
  exact va_slen C.1 C.2.1 (hsc.1 s s.heap C.2.2.2.2.2.2.2.2.2.1) (Nat.lt_of_lt_of_le hsc.2 C.2.2.2.2.2.2.2.2.2.2.2.1) (Nat.not_le.mpr hsc.2) hS hd h1
def gCW (own : String) (idx : Nat) (Y : gY) (hh : List (Nat × Nat × Nat × Nat)) (np : Nat) : Prop := Cond.codeWith Y.1 Y.2.1 Y.2.2.1 Y.2.2.2 hh ∈ lw_g ∧ Cond.initialized Y.1.cls ∈ lw_g ∧ (Y.1.cls ≠ "java/lang/invoke/MethodHandle" ∧ Y.1.cls ≠ "java/lang/invoke/VarHandle" ∧ (parseMethodDescriptor Y.1.desc).map (fun d => d.parameters.length) = some np) ∧ Cond.methodLink own idx Y.1 ∈ lw_g ∧ Cond.static Y.1 ∈ lw_g
theorem V_cSIW {Y1 : gY} {hh : List (Nat × Nat × Nat × Nat)} {d1 idx np : Nat} {av st0 : List Value} {P : Int32 → gS → Prop} (hM : VMW E d1 1 Y1 hh av n sh z (kI n sh P)) (hc : gCW Y.1.cls idx Y1 hh np) (ha : av.length = np) (hR : d1 + 1 ≤ R.frames ∧ 64 * d1 + 19 + Y1.2.2.1 ≤ R.locals ∧ u + 1 ≤ R.cells ∧ 2200 * u + 2200 ≤ R.slots) (hcat : (st.map fun v => v.category).sum ≤ 8) (hd : decode Y.2.1 pc = .ok (.invokestatic idx, 3)) (he : st0 = av.reverse ++ st) (hnn : gOK E n) (k : ∀ (r : Int32) (z1 : gS), P r z1 → V E R Y 0 (u + 1) (pc + 3) ls (.int r :: st) n sh z1 K) : V E R Y 0 u pc ls st0 n sh z K := by
  subst he
  intro p e s m args below meth c H locs la Q C hQ hP hS hl hn hu
  have hst : (av.reverse ++ st).map (ev E.2.1) = (av.map (ev E.2.1)).reverse ++ st.map (ev E.2.1) := by simp
  rw [hst]
  have ht := C.2.2.2.2.2.2.1
  obtain ⟨wc, wi, wd, wl, ws⟩ := hc
  have hG : GoodIn lw_g (va_wsS Y.1.cls idx Y1.1 (Cond.codeWith Y1.1 Y1.2.1 Y1.2.2.1 Y1.2.2.2 hh :: lw_g)) := by
    intro w hw
    have hw2 : w = Cond.methodLink Y.1.cls idx Y1.1 ∨ w = Cond.static Y1.1 ∨ w = Cond.initialized Y1.1.cls ∨ w = Cond.codeWith Y1.1 Y1.2.1 Y1.2.2.1 Y1.2.2.2 hh ∨ w ∈ lw_g := by simpa [va_wsS] using hw
    rcases hw2 with rfl | rfl | rfl | rfl | h
    · exact lw_g_good _ wl
    · exact lw_g_good _ ws
    · exact lw_g_good _ wi
    · exact lw_g_good _ wc
    · exact lw_g_good _ h
  refine gRun (mc1 := 1) (ms1 := 2200 * 1) (K1 := kI n sh P) (a := (av.map (ev E.2.1)).toArray) (rest := st.map (ev E.2.1)) ?_ hS ?_
  · exact vx_runSW (As := av.map (ev E.2.1)) ⟨C.1, C.2.1, C.2.2.1, C.2.2.2.2.2.1, ht⟩ hM (vx_cwSW np ht hG rfl rfl rfl wd ⟨hR.1, by have := hR.2.1; show 8 + (Y1.2.2.1 + 11) + 64 * d1 ≤ _; omega⟩) ⟨gBlind, gPre (av := av) (mc1 := 0) C hP hS hn (fun q => absurd rfl q)⟩ rfl (by simpa using ha) (hl.1.trans rfl) rfl (lv_room (by rw [List.map_map]; simpa [Function.comp_def, ev_cat] using hcat)) hd ⟨hR.2.2.1, hR.2.2.2⟩
  · intro r n1 sh1 z1 H1 l1 hk hP1 hS1
    obtain ⟨rfl, rfl, hk⟩ := hk
    match r, hk with
    | some (.int v), hk =>
      have g4 := k v z1 hk p e s m args below meth c H1 l1 la Q C hQ hP1 hS1 hl hn (fun q => absurd rfl q)
      rw [Nat.mul_add] at g4
      exact g4
end GL
theorem kj_L_19 : Cond.constantLong RL 19 (4294967295 : Int64) ∈ lw_g := lw_g_in (List.mem_of_getElem? (i := 1806) (by decide +kernel)) (by decide +kernel)
theorem gc_L_21 : gCV RL 21 gyX11_feed 3 := ⟨⟨lw_g_in (List.mem_of_getElem? (i := 416) (by decide +kernel)) (by decide +kernel), lw_g_in (List.mem_of_getElem? (i := 78) (by decide +kernel)) (by decide +kernel), ⟨by decide, by decide, by decide +kernel⟩, Or.inl (lw_g_in (List.mem_of_getElem? (i := 413) (by decide +kernel)) (by decide +kernel))⟩, lw_g_in (List.mem_of_getElem? (i := 414) (by decide +kernel)) (by decide +kernel), lw_g_in (List.mem_of_getElem? (i := 415) (by decide +kernel)) (by decide +kernel)⟩
theorem gc_L_25 : gCV RL 25 gyX12_feed 3 := ⟨⟨lw_g_in (List.mem_of_getElem? (i := 1219) (by decide +kernel)) (by decide +kernel), lw_g_in (List.mem_of_getElem? (i := 86) (by decide +kernel)) (by decide +kernel), ⟨by decide, by decide, by decide +kernel⟩, Or.inl (lw_g_in (List.mem_of_getElem? (i := 1216) (by decide +kernel)) (by decide +kernel))⟩, lw_g_in (List.mem_of_getElem? (i := 1217) (by decide +kernel)) (by decide +kernel), lw_g_in (List.mem_of_getElem? (i := 1218) (by decide +kernel)) (by decide +kernel)⟩
theorem gc_L_26 : gCV RL 26 gyX11_street 0 := ⟨⟨lw_g_in (List.mem_of_getElem? (i := 424) (by decide +kernel)) (by decide +kernel), lw_g_in (List.mem_of_getElem? (i := 78) (by decide +kernel)) (by decide +kernel), ⟨by decide, by decide, by decide +kernel⟩, Or.inl (lw_g_in (List.mem_of_getElem? (i := 421) (by decide +kernel)) (by decide +kernel))⟩, lw_g_in (List.mem_of_getElem? (i := 422) (by decide +kernel)) (by decide +kernel), lw_g_in (List.mem_of_getElem? (i := 423) (by decide +kernel)) (by decide +kernel)⟩
theorem gc_L_30 : gCV RL 30 gyX12_street 0 := ⟨⟨lw_g_in (List.mem_of_getElem? (i := 1370) (by decide +kernel)) (by decide +kernel), lw_g_in (List.mem_of_getElem? (i := 86) (by decide +kernel)) (by decide +kernel), ⟨by decide, by decide, by decide +kernel⟩, Or.inl (lw_g_in (List.mem_of_getElem? (i := 1367) (by decide +kernel)) (by decide +kernel))⟩, lw_g_in (List.mem_of_getElem? (i := 1368) (by decide +kernel)) (by decide +kernel), lw_g_in (List.mem_of_getElem? (i := 1369) (by decide +kernel)) (by decide +kernel)⟩
theorem gc_L_31 : gCV RL 31 gyX11_day 0 := ⟨⟨lw_g_in (List.mem_of_getElem? (i := 680) (by decide +kernel)) (by decide +kernel), lw_g_in (List.mem_of_getElem? (i := 78) (by decide +kernel)) (by decide +kernel), ⟨by decide, by decide, by decide +kernel⟩, Or.inl (lw_g_in (List.mem_of_getElem? (i := 677) (by decide +kernel)) (by decide +kernel))⟩, lw_g_in (List.mem_of_getElem? (i := 678) (by decide +kernel)) (by decide +kernel), lw_g_in (List.mem_of_getElem? (i := 679) (by decide +kernel)) (by decide +kernel)⟩
theorem gc_L_34 : gCV RL 34 gyX12_day 0 := ⟨⟨lw_g_in (List.mem_of_getElem? (i := 1489) (by decide +kernel)) (by decide +kernel), lw_g_in (List.mem_of_getElem? (i := 86) (by decide +kernel)) (by decide +kernel), ⟨by decide, by decide, by decide +kernel⟩, Or.inl (lw_g_in (List.mem_of_getElem? (i := 1486) (by decide +kernel)) (by decide +kernel))⟩, lw_g_in (List.mem_of_getElem? (i := 1487) (by decide +kernel)) (by decide +kernel), lw_g_in (List.mem_of_getElem? (i := 1488) (by decide +kernel)) (by decide +kernel)⟩
theorem gc_L_35 : gCV RL 35 gyX11_pane 2 := ⟨⟨lw_g_in (List.mem_of_getElem? (i := 705) (by decide +kernel)) (by decide +kernel), lw_g_in (List.mem_of_getElem? (i := 78) (by decide +kernel)) (by decide +kernel), ⟨by decide, by decide, by decide +kernel⟩, Or.inl (lw_g_in (List.mem_of_getElem? (i := 702) (by decide +kernel)) (by decide +kernel))⟩, lw_g_in (List.mem_of_getElem? (i := 703) (by decide +kernel)) (by decide +kernel), lw_g_in (List.mem_of_getElem? (i := 704) (by decide +kernel)) (by decide +kernel)⟩
theorem gc_L_39 : gCV RL 39 gyX12_pane 2 := ⟨⟨lw_g_in (List.mem_of_getElem? (i := 1500) (by decide +kernel)) (by decide +kernel), lw_g_in (List.mem_of_getElem? (i := 86) (by decide +kernel)) (by decide +kernel), ⟨by decide, by decide, by decide +kernel⟩, Or.inl (lw_g_in (List.mem_of_getElem? (i := 1497) (by decide +kernel)) (by decide +kernel))⟩, lw_g_in (List.mem_of_getElem? (i := 1498) (by decide +kernel)) (by decide +kernel), lw_g_in (List.mem_of_getElem? (i := 1499) (by decide +kernel)) (by decide +kernel)⟩
theorem gc_L_40 : gCV RL 40 gyX11_shown 3 := ⟨⟨lw_g_in (List.mem_of_getElem? (i := 734) (by decide +kernel)) (by decide +kernel), lw_g_in (List.mem_of_getElem? (i := 78) (by decide +kernel)) (by decide +kernel), ⟨by decide, by decide, by decide +kernel⟩, Or.inl (lw_g_in (List.mem_of_getElem? (i := 731) (by decide +kernel)) (by decide +kernel))⟩, lw_g_in (List.mem_of_getElem? (i := 732) (by decide +kernel)) (by decide +kernel), lw_g_in (List.mem_of_getElem? (i := 733) (by decide +kernel)) (by decide +kernel)⟩
theorem gc_L_44 : gCV RL 44 gyX12_shown 3 := ⟨⟨lw_g_in (List.mem_of_getElem? (i := 1528) (by decide +kernel)) (by decide +kernel), lw_g_in (List.mem_of_getElem? (i := 86) (by decide +kernel)) (by decide +kernel), ⟨by decide, by decide, by decide +kernel⟩, Or.inl (lw_g_in (List.mem_of_getElem? (i := 1525) (by decide +kernel)) (by decide +kernel))⟩, lw_g_in (List.mem_of_getElem? (i := 1526) (by decide +kernel)) (by decide +kernel), lw_g_in (List.mem_of_getElem? (i := 1527) (by decide +kernel)) (by decide +kernel)⟩
theorem gc_L_45 : gCV RL 45 gyX11_person 1 := ⟨⟨lw_g_in (List.mem_of_getElem? (i := 762) (by decide +kernel)) (by decide +kernel), lw_g_in (List.mem_of_getElem? (i := 78) (by decide +kernel)) (by decide +kernel), ⟨by decide, by decide, by decide +kernel⟩, Or.inl (lw_g_in (List.mem_of_getElem? (i := 759) (by decide +kernel)) (by decide +kernel))⟩, lw_g_in (List.mem_of_getElem? (i := 760) (by decide +kernel)) (by decide +kernel), lw_g_in (List.mem_of_getElem? (i := 761) (by decide +kernel)) (by decide +kernel)⟩
theorem gc_L_49 : gCV RL 49 gyX12_person 1 := ⟨⟨lw_g_in (List.mem_of_getElem? (i := 1556) (by decide +kernel)) (by decide +kernel), lw_g_in (List.mem_of_getElem? (i := 86) (by decide +kernel)) (by decide +kernel), ⟨by decide, by decide, by decide +kernel⟩, Or.inl (lw_g_in (List.mem_of_getElem? (i := 1553) (by decide +kernel)) (by decide +kernel))⟩, lw_g_in (List.mem_of_getElem? (i := 1554) (by decide +kernel)) (by decide +kernel), lw_g_in (List.mem_of_getElem? (i := 1555) (by decide +kernel)) (by decide +kernel)⟩
theorem gc_L_50 : gCV RL 50 gyX11_walk 2 := ⟨⟨lw_g_in (List.mem_of_getElem? (i := 770) (by decide +kernel)) (by decide +kernel), lw_g_in (List.mem_of_getElem? (i := 78) (by decide +kernel)) (by decide +kernel), ⟨by decide, by decide, by decide +kernel⟩, Or.inl (lw_g_in (List.mem_of_getElem? (i := 767) (by decide +kernel)) (by decide +kernel))⟩, lw_g_in (List.mem_of_getElem? (i := 768) (by decide +kernel)) (by decide +kernel), lw_g_in (List.mem_of_getElem? (i := 769) (by decide +kernel)) (by decide +kernel)⟩
theorem gc_L_54 : gCV RL 54 gyX12_walk 2 := ⟨⟨lw_g_in (List.mem_of_getElem? (i := 1564) (by decide +kernel)) (by decide +kernel), lw_g_in (List.mem_of_getElem? (i := 86) (by decide +kernel)) (by decide +kernel), ⟨by decide, by decide, by decide +kernel⟩, Or.inl (lw_g_in (List.mem_of_getElem? (i := 1561) (by decide +kernel)) (by decide +kernel))⟩, lw_g_in (List.mem_of_getElem? (i := 1562) (by decide +kernel)) (by decide +kernel), lw_g_in (List.mem_of_getElem? (i := 1563) (by decide +kernel)) (by decide +kernel)⟩
theorem gc_L_55 : gCV RL 55 gyX11_does 2 := ⟨⟨lw_g_in (List.mem_of_getElem? (i := 798) (by decide +kernel)) (by decide +kernel), lw_g_in (List.mem_of_getElem? (i := 78) (by decide +kernel)) (by decide +kernel), ⟨by decide, by decide, by decide +kernel⟩, Or.inl (lw_g_in (List.mem_of_getElem? (i := 795) (by decide +kernel)) (by decide +kernel))⟩, lw_g_in (List.mem_of_getElem? (i := 796) (by decide +kernel)) (by decide +kernel), lw_g_in (List.mem_of_getElem? (i := 797) (by decide +kernel)) (by decide +kernel)⟩
theorem gc_L_58 : gCV RL 58 gyX12_does_ 2 := ⟨⟨lw_g_in (List.mem_of_getElem? (i := 1580) (by decide +kernel)) (by decide +kernel), lw_g_in (List.mem_of_getElem? (i := 86) (by decide +kernel)) (by decide +kernel), ⟨by decide, by decide, by decide +kernel⟩, Or.inl (lw_g_in (List.mem_of_getElem? (i := 1577) (by decide +kernel)) (by decide +kernel))⟩, lw_g_in (List.mem_of_getElem? (i := 1578) (by decide +kernel)) (by decide +kernel), lw_g_in (List.mem_of_getElem? (i := 1579) (by decide +kernel)) (by decide +kernel)⟩
theorem gc_L_59 : gCV RL 59 gyX11_wash 1 := ⟨⟨lw_g_in (List.mem_of_getElem? (i := 823) (by decide +kernel)) (by decide +kernel), lw_g_in (List.mem_of_getElem? (i := 78) (by decide +kernel)) (by decide +kernel), ⟨by decide, by decide, by decide +kernel⟩, Or.inl (lw_g_in (List.mem_of_getElem? (i := 820) (by decide +kernel)) (by decide +kernel))⟩, lw_g_in (List.mem_of_getElem? (i := 821) (by decide +kernel)) (by decide +kernel), lw_g_in (List.mem_of_getElem? (i := 822) (by decide +kernel)) (by decide +kernel)⟩
theorem gc_L_62 : gCV RL 62 gyX12_wash 1 := ⟨⟨lw_g_in (List.mem_of_getElem? (i := 1608) (by decide +kernel)) (by decide +kernel), lw_g_in (List.mem_of_getElem? (i := 86) (by decide +kernel)) (by decide +kernel), ⟨by decide, by decide, by decide +kernel⟩, Or.inl (lw_g_in (List.mem_of_getElem? (i := 1605) (by decide +kernel)) (by decide +kernel))⟩, lw_g_in (List.mem_of_getElem? (i := 1606) (by decide +kernel)) (by decide +kernel), lw_g_in (List.mem_of_getElem? (i := 1607) (by decide +kernel)) (by decide +kernel)⟩
theorem gc_L_63 : gCV RL 63 gyX11_curtain 1 := ⟨⟨lw_g_in (List.mem_of_getElem? (i := 836) (by decide +kernel)) (by decide +kernel), lw_g_in (List.mem_of_getElem? (i := 78) (by decide +kernel)) (by decide +kernel), ⟨by decide, by decide, by decide +kernel⟩, Or.inl (lw_g_in (List.mem_of_getElem? (i := 833) (by decide +kernel)) (by decide +kernel))⟩, lw_g_in (List.mem_of_getElem? (i := 834) (by decide +kernel)) (by decide +kernel), lw_g_in (List.mem_of_getElem? (i := 835) (by decide +kernel)) (by decide +kernel)⟩
theorem gc_L_67 : gCV RL 67 gyX12_curtain 1 := ⟨⟨lw_g_in (List.mem_of_getElem? (i := 1616) (by decide +kernel)) (by decide +kernel), lw_g_in (List.mem_of_getElem? (i := 86) (by decide +kernel)) (by decide +kernel), ⟨by decide, by decide, by decide +kernel⟩, Or.inl (lw_g_in (List.mem_of_getElem? (i := 1613) (by decide +kernel)) (by decide +kernel))⟩, lw_g_in (List.mem_of_getElem? (i := 1614) (by decide +kernel)) (by decide +kernel), lw_g_in (List.mem_of_getElem? (i := 1615) (by decide +kernel)) (by decide +kernel)⟩
theorem gc_L_68 : gCV RL 68 gyX11_stone 1 := ⟨⟨lw_g_in (List.mem_of_getElem? (i := 844) (by decide +kernel)) (by decide +kernel), lw_g_in (List.mem_of_getElem? (i := 78) (by decide +kernel)) (by decide +kernel), ⟨by decide, by decide, by decide +kernel⟩, Or.inl (lw_g_in (List.mem_of_getElem? (i := 841) (by decide +kernel)) (by decide +kernel))⟩, lw_g_in (List.mem_of_getElem? (i := 842) (by decide +kernel)) (by decide +kernel), lw_g_in (List.mem_of_getElem? (i := 843) (by decide +kernel)) (by decide +kernel)⟩
theorem gc_L_71 : gCV RL 71 gyX12_stone 1 := ⟨⟨lw_g_in (List.mem_of_getElem? (i := 1620) (by decide +kernel)) (by decide +kernel), lw_g_in (List.mem_of_getElem? (i := 86) (by decide +kernel)) (by decide +kernel), ⟨by decide, by decide, by decide +kernel⟩, Or.inl (lw_g_in (List.mem_of_getElem? (i := 1617) (by decide +kernel)) (by decide +kernel))⟩, lw_g_in (List.mem_of_getElem? (i := 1618) (by decide +kernel)) (by decide +kernel), lw_g_in (List.mem_of_getElem? (i := 1619) (by decide +kernel)) (by decide +kernel)⟩
theorem gc_L_72 : gCV RL 72 gyX11_hour 0 := ⟨⟨lw_g_in (List.mem_of_getElem? (i := 852) (by decide +kernel)) (by decide +kernel), lw_g_in (List.mem_of_getElem? (i := 78) (by decide +kernel)) (by decide +kernel), ⟨by decide, by decide, by decide +kernel⟩, Or.inl (lw_g_in (List.mem_of_getElem? (i := 849) (by decide +kernel)) (by decide +kernel))⟩, lw_g_in (List.mem_of_getElem? (i := 850) (by decide +kernel)) (by decide +kernel), lw_g_in (List.mem_of_getElem? (i := 851) (by decide +kernel)) (by decide +kernel)⟩
theorem gc_L_75 : gCV RL 75 gyX12_hour 0 := ⟨⟨lw_g_in (List.mem_of_getElem? (i := 1624) (by decide +kernel)) (by decide +kernel), lw_g_in (List.mem_of_getElem? (i := 86) (by decide +kernel)) (by decide +kernel), ⟨by decide, by decide, by decide +kernel⟩, Or.inl (lw_g_in (List.mem_of_getElem? (i := 1621) (by decide +kernel)) (by decide +kernel))⟩, lw_g_in (List.mem_of_getElem? (i := 1622) (by decide +kernel)) (by decide +kernel), lw_g_in (List.mem_of_getElem? (i := 1623) (by decide +kernel)) (by decide +kernel)⟩
theorem gc_L_76 : gCV RL 76 gyX11_undo 0 := ⟨⟨lw_g_in (List.mem_of_getElem? (i := 877) (by decide +kernel)) (by decide +kernel), lw_g_in (List.mem_of_getElem? (i := 78) (by decide +kernel)) (by decide +kernel), ⟨by decide, by decide, by decide +kernel⟩, Or.inl (lw_g_in (List.mem_of_getElem? (i := 874) (by decide +kernel)) (by decide +kernel))⟩, lw_g_in (List.mem_of_getElem? (i := 875) (by decide +kernel)) (by decide +kernel), lw_g_in (List.mem_of_getElem? (i := 876) (by decide +kernel)) (by decide +kernel)⟩
theorem gc_L_80 : gCV RL 80 gyX12_undo 0 := ⟨⟨lw_g_in (List.mem_of_getElem? (i := 1643) (by decide +kernel)) (by decide +kernel), lw_g_in (List.mem_of_getElem? (i := 86) (by decide +kernel)) (by decide +kernel), ⟨by decide, by decide, by decide +kernel⟩, Or.inl (lw_g_in (List.mem_of_getElem? (i := 1640) (by decide +kernel)) (by decide +kernel))⟩, lw_g_in (List.mem_of_getElem? (i := 1641) (by decide +kernel)) (by decide +kernel), lw_g_in (List.mem_of_getElem? (i := 1642) (by decide +kernel)) (by decide +kernel)⟩
theorem gc_L_81 : gCV RL 81 gyX11_judged 1 := ⟨⟨lw_g_in (List.mem_of_getElem? (i := 885) (by decide +kernel)) (by decide +kernel), lw_g_in (List.mem_of_getElem? (i := 78) (by decide +kernel)) (by decide +kernel), ⟨by decide, by decide, by decide +kernel⟩, Or.inl (lw_g_in (List.mem_of_getElem? (i := 882) (by decide +kernel)) (by decide +kernel))⟩, lw_g_in (List.mem_of_getElem? (i := 883) (by decide +kernel)) (by decide +kernel), lw_g_in (List.mem_of_getElem? (i := 884) (by decide +kernel)) (by decide +kernel)⟩
theorem gc_L_84 : gCV RL 84 gyX12_judged 1 := ⟨⟨lw_g_in (List.mem_of_getElem? (i := 1647) (by decide +kernel)) (by decide +kernel), lw_g_in (List.mem_of_getElem? (i := 86) (by decide +kernel)) (by decide +kernel), ⟨by decide, by decide, by decide +kernel⟩, Or.inl (lw_g_in (List.mem_of_getElem? (i := 1644) (by decide +kernel)) (by decide +kernel))⟩, lw_g_in (List.mem_of_getElem? (i := 1645) (by decide +kernel)) (by decide +kernel), lw_g_in (List.mem_of_getElem? (i := 1646) (by decide +kernel)) (by decide +kernel)⟩
theorem gc_L_85 : gCV RL 85 gyX11_shame 1 := ⟨⟨lw_g_in (List.mem_of_getElem? (i := 914) (by decide +kernel)) (by decide +kernel), lw_g_in (List.mem_of_getElem? (i := 78) (by decide +kernel)) (by decide +kernel), ⟨by decide, by decide, by decide +kernel⟩, Or.inl (lw_g_in (List.mem_of_getElem? (i := 911) (by decide +kernel)) (by decide +kernel))⟩, lw_g_in (List.mem_of_getElem? (i := 912) (by decide +kernel)) (by decide +kernel), lw_g_in (List.mem_of_getElem? (i := 913) (by decide +kernel)) (by decide +kernel)⟩
theorem gc_L_88 : gCV RL 88 gyX12_shame 1 := ⟨⟨lw_g_in (List.mem_of_getElem? (i := 1667) (by decide +kernel)) (by decide +kernel), lw_g_in (List.mem_of_getElem? (i := 86) (by decide +kernel)) (by decide +kernel), ⟨by decide, by decide, by decide +kernel⟩, Or.inl (lw_g_in (List.mem_of_getElem? (i := 1664) (by decide +kernel)) (by decide +kernel))⟩, lw_g_in (List.mem_of_getElem? (i := 1665) (by decide +kernel)) (by decide +kernel), lw_g_in (List.mem_of_getElem? (i := 1666) (by decide +kernel)) (by decide +kernel)⟩
theorem gc_L_89 : gCV RL 89 gyX11_harm 0 := ⟨⟨lw_g_in (List.mem_of_getElem? (i := 932) (by decide +kernel)) (by decide +kernel), lw_g_in (List.mem_of_getElem? (i := 78) (by decide +kernel)) (by decide +kernel), ⟨by decide, by decide, by decide +kernel⟩, Or.inl (lw_g_in (List.mem_of_getElem? (i := 929) (by decide +kernel)) (by decide +kernel))⟩, lw_g_in (List.mem_of_getElem? (i := 930) (by decide +kernel)) (by decide +kernel), lw_g_in (List.mem_of_getElem? (i := 931) (by decide +kernel)) (by decide +kernel)⟩
theorem gc_L_92 : gCV RL 92 gyX12_harm 0 := ⟨⟨lw_g_in (List.mem_of_getElem? (i := 1671) (by decide +kernel)) (by decide +kernel), lw_g_in (List.mem_of_getElem? (i := 86) (by decide +kernel)) (by decide +kernel), ⟨by decide, by decide, by decide +kernel⟩, Or.inl (lw_g_in (List.mem_of_getElem? (i := 1668) (by decide +kernel)) (by decide +kernel))⟩, lw_g_in (List.mem_of_getElem? (i := 1669) (by decide +kernel)) (by decide +kernel), lw_g_in (List.mem_of_getElem? (i := 1670) (by decide +kernel)) (by decide +kernel)⟩
theorem gc_L_93 : gCV RL 93 gyX11_hide 2 := ⟨⟨lw_g_in (List.mem_of_getElem? (i := 936) (by decide +kernel)) (by decide +kernel), lw_g_in (List.mem_of_getElem? (i := 78) (by decide +kernel)) (by decide +kernel), ⟨by decide, by decide, by decide +kernel⟩, Or.inl (lw_g_in (List.mem_of_getElem? (i := 933) (by decide +kernel)) (by decide +kernel))⟩, lw_g_in (List.mem_of_getElem? (i := 934) (by decide +kernel)) (by decide +kernel), lw_g_in (List.mem_of_getElem? (i := 935) (by decide +kernel)) (by decide +kernel)⟩
theorem gc_L_96 : gCV RL 96 gyX12_hide 2 := ⟨⟨lw_g_in (List.mem_of_getElem? (i := 1706) (by decide +kernel)) (by decide +kernel), lw_g_in (List.mem_of_getElem? (i := 86) (by decide +kernel)) (by decide +kernel), ⟨by decide, by decide, by decide +kernel⟩, Or.inl (lw_g_in (List.mem_of_getElem? (i := 1703) (by decide +kernel)) (by decide +kernel))⟩, lw_g_in (List.mem_of_getElem? (i := 1704) (by decide +kernel)) (by decide +kernel), lw_g_in (List.mem_of_getElem? (i := 1705) (by decide +kernel)) (by decide +kernel)⟩
theorem gc_L_97 : gCV RL 97 gyX11_proof 2 := ⟨⟨lw_g_in (List.mem_of_getElem? (i := 949) (by decide +kernel)) (by decide +kernel), lw_g_in (List.mem_of_getElem? (i := 78) (by decide +kernel)) (by decide +kernel), ⟨by decide, by decide, by decide +kernel⟩, Or.inl (lw_g_in (List.mem_of_getElem? (i := 946) (by decide +kernel)) (by decide +kernel))⟩, lw_g_in (List.mem_of_getElem? (i := 947) (by decide +kernel)) (by decide +kernel), lw_g_in (List.mem_of_getElem? (i := 948) (by decide +kernel)) (by decide +kernel)⟩
theorem gc_L_100 : gCV RL 100 gyX12_proof 2 := ⟨⟨lw_g_in (List.mem_of_getElem? (i := 1710) (by decide +kernel)) (by decide +kernel), lw_g_in (List.mem_of_getElem? (i := 86) (by decide +kernel)) (by decide +kernel), ⟨by decide, by decide, by decide +kernel⟩, Or.inl (lw_g_in (List.mem_of_getElem? (i := 1707) (by decide +kernel)) (by decide +kernel))⟩, lw_g_in (List.mem_of_getElem? (i := 1708) (by decide +kernel)) (by decide +kernel), lw_g_in (List.mem_of_getElem? (i := 1709) (by decide +kernel)) (by decide +kernel)⟩
theorem gc_L_101 : gCV RL 101 gyX11_washes 2 := ⟨⟨lw_g_in (List.mem_of_getElem? (i := 965) (by decide +kernel)) (by decide +kernel), lw_g_in (List.mem_of_getElem? (i := 78) (by decide +kernel)) (by decide +kernel), ⟨by decide, by decide, by decide +kernel⟩, Or.inl (lw_g_in (List.mem_of_getElem? (i := 962) (by decide +kernel)) (by decide +kernel))⟩, lw_g_in (List.mem_of_getElem? (i := 963) (by decide +kernel)) (by decide +kernel), lw_g_in (List.mem_of_getElem? (i := 964) (by decide +kernel)) (by decide +kernel)⟩
theorem gc_L_104 : gCV RL 104 gyX12_washes 2 := ⟨⟨lw_g_in (List.mem_of_getElem? (i := 1714) (by decide +kernel)) (by decide +kernel), lw_g_in (List.mem_of_getElem? (i := 86) (by decide +kernel)) (by decide +kernel), ⟨by decide, by decide, by decide +kernel⟩, Or.inl (lw_g_in (List.mem_of_getElem? (i := 1711) (by decide +kernel)) (by decide +kernel))⟩, lw_g_in (List.mem_of_getElem? (i := 1712) (by decide +kernel)) (by decide +kernel), lw_g_in (List.mem_of_getElem? (i := 1713) (by decide +kernel)) (by decide +kernel)⟩
theorem gc_L_105 : gCV RL 105 gyX11_dark 1 := ⟨⟨lw_g_in (List.mem_of_getElem? (i := 973) (by decide +kernel)) (by decide +kernel), lw_g_in (List.mem_of_getElem? (i := 78) (by decide +kernel)) (by decide +kernel), ⟨by decide, by decide, by decide +kernel⟩, Or.inl (lw_g_in (List.mem_of_getElem? (i := 970) (by decide +kernel)) (by decide +kernel))⟩, lw_g_in (List.mem_of_getElem? (i := 971) (by decide +kernel)) (by decide +kernel), lw_g_in (List.mem_of_getElem? (i := 972) (by decide +kernel)) (by decide +kernel)⟩
theorem gc_L_108 : gCV RL 108 gyX12_dark 1 := ⟨⟨lw_g_in (List.mem_of_getElem? (i := 1718) (by decide +kernel)) (by decide +kernel), lw_g_in (List.mem_of_getElem? (i := 86) (by decide +kernel)) (by decide +kernel), ⟨by decide, by decide, by decide +kernel⟩, Or.inl (lw_g_in (List.mem_of_getElem? (i := 1715) (by decide +kernel)) (by decide +kernel))⟩, lw_g_in (List.mem_of_getElem? (i := 1716) (by decide +kernel)) (by decide +kernel), lw_g_in (List.mem_of_getElem? (i := 1717) (by decide +kernel)) (by decide +kernel)⟩
theorem gc_L_109 : gCV RL 109 gyX11_say 2 := ⟨⟨lw_g_in (List.mem_of_getElem? (i := 982) (by decide +kernel)) (by decide +kernel), lw_g_in (List.mem_of_getElem? (i := 78) (by decide +kernel)) (by decide +kernel), ⟨by decide, by decide, by decide +kernel⟩, Or.inl (lw_g_in (List.mem_of_getElem? (i := 979) (by decide +kernel)) (by decide +kernel))⟩, lw_g_in (List.mem_of_getElem? (i := 980) (by decide +kernel)) (by decide +kernel), lw_g_in (List.mem_of_getElem? (i := 981) (by decide +kernel)) (by decide +kernel)⟩
theorem gc_L_113 : gCV RL 113 gyX12_say 2 := ⟨⟨lw_g_in (List.mem_of_getElem? (i := 1722) (by decide +kernel)) (by decide +kernel), lw_g_in (List.mem_of_getElem? (i := 86) (by decide +kernel)) (by decide +kernel), ⟨by decide, by decide, by decide +kernel⟩, Or.inl (lw_g_in (List.mem_of_getElem? (i := 1719) (by decide +kernel)) (by decide +kernel))⟩, lw_g_in (List.mem_of_getElem? (i := 1720) (by decide +kernel)) (by decide +kernel), lw_g_in (List.mem_of_getElem? (i := 1721) (by decide +kernel)) (by decide +kernel)⟩
theorem gc_L_114 : gCV RL 114 gyX11_where 0 := ⟨⟨lw_g_in (List.mem_of_getElem? (i := 990) (by decide +kernel)) (by decide +kernel), lw_g_in (List.mem_of_getElem? (i := 78) (by decide +kernel)) (by decide +kernel), ⟨by decide, by decide, by decide +kernel⟩, Or.inl (lw_g_in (List.mem_of_getElem? (i := 987) (by decide +kernel)) (by decide +kernel))⟩, lw_g_in (List.mem_of_getElem? (i := 988) (by decide +kernel)) (by decide +kernel), lw_g_in (List.mem_of_getElem? (i := 989) (by decide +kernel)) (by decide +kernel)⟩
theorem gc_L_117 : gCV RL 117 gyX12_where 0 := ⟨⟨lw_g_in (List.mem_of_getElem? (i := 1726) (by decide +kernel)) (by decide +kernel), lw_g_in (List.mem_of_getElem? (i := 86) (by decide +kernel)) (by decide +kernel), ⟨by decide, by decide, by decide +kernel⟩, Or.inl (lw_g_in (List.mem_of_getElem? (i := 1723) (by decide +kernel)) (by decide +kernel))⟩, lw_g_in (List.mem_of_getElem? (i := 1724) (by decide +kernel)) (by decide +kernel), lw_g_in (List.mem_of_getElem? (i := 1725) (by decide +kernel)) (by decide +kernel)⟩
theorem gc_L_118 : gCV RL 118 gyX11_ask 0 := ⟨⟨lw_g_in (List.mem_of_getElem? (i := 997) (by decide +kernel)) (by decide +kernel), lw_g_in (List.mem_of_getElem? (i := 78) (by decide +kernel)) (by decide +kernel), ⟨by decide, by decide, by decide +kernel⟩, Or.inl (lw_g_in (List.mem_of_getElem? (i := 994) (by decide +kernel)) (by decide +kernel))⟩, lw_g_in (List.mem_of_getElem? (i := 995) (by decide +kernel)) (by decide +kernel), lw_g_in (List.mem_of_getElem? (i := 996) (by decide +kernel)) (by decide +kernel)⟩
theorem gc_L_121 : gCV RL 121 gyX12_ask 0 := ⟨⟨lw_g_in (List.mem_of_getElem? (i := 1734) (by decide +kernel)) (by decide +kernel), lw_g_in (List.mem_of_getElem? (i := 86) (by decide +kernel)) (by decide +kernel), ⟨by decide, by decide, by decide +kernel⟩, Or.inl (lw_g_in (List.mem_of_getElem? (i := 1731) (by decide +kernel)) (by decide +kernel))⟩, lw_g_in (List.mem_of_getElem? (i := 1732) (by decide +kernel)) (by decide +kernel), lw_g_in (List.mem_of_getElem? (i := 1733) (by decide +kernel)) (by decide +kernel)⟩
theorem gc_L_122 : gCV RL 122 gyX11_memory 1 := ⟨⟨lw_g_in (List.mem_of_getElem? (i := 1007) (by decide +kernel)) (by decide +kernel), lw_g_in (List.mem_of_getElem? (i := 78) (by decide +kernel)) (by decide +kernel), ⟨by decide, by decide, by decide +kernel⟩, Or.inl (lw_g_in (List.mem_of_getElem? (i := 1004) (by decide +kernel)) (by decide +kernel))⟩, lw_g_in (List.mem_of_getElem? (i := 1005) (by decide +kernel)) (by decide +kernel), lw_g_in (List.mem_of_getElem? (i := 1006) (by decide +kernel)) (by decide +kernel)⟩
theorem gc_L_125 : gCV RL 125 gyX12_memory 1 := ⟨⟨lw_g_in (List.mem_of_getElem? (i := 1675) (by decide +kernel)) (by decide +kernel), lw_g_in (List.mem_of_getElem? (i := 86) (by decide +kernel)) (by decide +kernel), ⟨by decide, by decide, by decide +kernel⟩, Or.inl (lw_g_in (List.mem_of_getElem? (i := 1672) (by decide +kernel)) (by decide +kernel))⟩, lw_g_in (List.mem_of_getElem? (i := 1673) (by decide +kernel)) (by decide +kernel), lw_g_in (List.mem_of_getElem? (i := 1674) (by decide +kernel)) (by decide +kernel)⟩
theorem gc_L_126 : gCV RL 126 gyX11_glass 1 := ⟨⟨lw_g_in (List.mem_of_getElem? (i := 1011) (by decide +kernel)) (by decide +kernel), lw_g_in (List.mem_of_getElem? (i := 78) (by decide +kernel)) (by decide +kernel), ⟨by decide, by decide, by decide +kernel⟩, Or.inl (lw_g_in (List.mem_of_getElem? (i := 1008) (by decide +kernel)) (by decide +kernel))⟩, lw_g_in (List.mem_of_getElem? (i := 1009) (by decide +kernel)) (by decide +kernel), lw_g_in (List.mem_of_getElem? (i := 1010) (by decide +kernel)) (by decide +kernel)⟩
theorem gc_L_129 : gCV RL 129 gyX12_glass 1 := ⟨⟨lw_g_in (List.mem_of_getElem? (i := 1738) (by decide +kernel)) (by decide +kernel), lw_g_in (List.mem_of_getElem? (i := 86) (by decide +kernel)) (by decide +kernel), ⟨by decide, by decide, by decide +kernel⟩, Or.inl (lw_g_in (List.mem_of_getElem? (i := 1735) (by decide +kernel)) (by decide +kernel))⟩, lw_g_in (List.mem_of_getElem? (i := 1736) (by decide +kernel)) (by decide +kernel), lw_g_in (List.mem_of_getElem? (i := 1737) (by decide +kernel)) (by decide +kernel)⟩
theorem gc_L_130 : gCV RL 130 gyX11_seen 1 := ⟨⟨lw_g_in (List.mem_of_getElem? (i := 1018) (by decide +kernel)) (by decide +kernel), lw_g_in (List.mem_of_getElem? (i := 78) (by decide +kernel)) (by decide +kernel), ⟨by decide, by decide, by decide +kernel⟩, Or.inl (lw_g_in (List.mem_of_getElem? (i := 1015) (by decide +kernel)) (by decide +kernel))⟩, lw_g_in (List.mem_of_getElem? (i := 1016) (by decide +kernel)) (by decide +kernel), lw_g_in (List.mem_of_getElem? (i := 1017) (by decide +kernel)) (by decide +kernel)⟩
theorem gc_L_133 : gCV RL 133 gyX12_seen 1 := ⟨⟨lw_g_in (List.mem_of_getElem? (i := 1746) (by decide +kernel)) (by decide +kernel), lw_g_in (List.mem_of_getElem? (i := 86) (by decide +kernel)) (by decide +kernel), ⟨by decide, by decide, by decide +kernel⟩, Or.inl (lw_g_in (List.mem_of_getElem? (i := 1743) (by decide +kernel)) (by decide +kernel))⟩, lw_g_in (List.mem_of_getElem? (i := 1744) (by decide +kernel)) (by decide +kernel), lw_g_in (List.mem_of_getElem? (i := 1745) (by decide +kernel)) (by decide +kernel)⟩
theorem gc_L_134 : gCV RL 134 gyX11_eyes 0 := ⟨⟨lw_g_in (List.mem_of_getElem? (i := 1023) (by decide +kernel)) (by decide +kernel), lw_g_in (List.mem_of_getElem? (i := 78) (by decide +kernel)) (by decide +kernel), ⟨by decide, by decide, by decide +kernel⟩, Or.inl (lw_g_in (List.mem_of_getElem? (i := 1020) (by decide +kernel)) (by decide +kernel))⟩, lw_g_in (List.mem_of_getElem? (i := 1021) (by decide +kernel)) (by decide +kernel), lw_g_in (List.mem_of_getElem? (i := 1022) (by decide +kernel)) (by decide +kernel)⟩
theorem gc_L_137 : gCV RL 137 gyX12_eyes 0 := ⟨⟨lw_g_in (List.mem_of_getElem? (i := 1750) (by decide +kernel)) (by decide +kernel), lw_g_in (List.mem_of_getElem? (i := 86) (by decide +kernel)) (by decide +kernel), ⟨by decide, by decide, by decide +kernel⟩, Or.inl (lw_g_in (List.mem_of_getElem? (i := 1747) (by decide +kernel)) (by decide +kernel))⟩, lw_g_in (List.mem_of_getElem? (i := 1748) (by decide +kernel)) (by decide +kernel), lw_g_in (List.mem_of_getElem? (i := 1749) (by decide +kernel)) (by decide +kernel)⟩
theorem gc_L_138 : gCV RL 138 gyX11_blind 0 := ⟨⟨lw_g_in (List.mem_of_getElem? (i := 1030) (by decide +kernel)) (by decide +kernel), lw_g_in (List.mem_of_getElem? (i := 78) (by decide +kernel)) (by decide +kernel), ⟨by decide, by decide, by decide +kernel⟩, Or.inl (lw_g_in (List.mem_of_getElem? (i := 1027) (by decide +kernel)) (by decide +kernel))⟩, lw_g_in (List.mem_of_getElem? (i := 1028) (by decide +kernel)) (by decide +kernel), lw_g_in (List.mem_of_getElem? (i := 1029) (by decide +kernel)) (by decide +kernel)⟩
theorem gc_L_141 : gCV RL 141 gyX12_blind 0 := ⟨⟨lw_g_in (List.mem_of_getElem? (i := 1754) (by decide +kernel)) (by decide +kernel), lw_g_in (List.mem_of_getElem? (i := 86) (by decide +kernel)) (by decide +kernel), ⟨by decide, by decide, by decide +kernel⟩, Or.inl (lw_g_in (List.mem_of_getElem? (i := 1751) (by decide +kernel)) (by decide +kernel))⟩, lw_g_in (List.mem_of_getElem? (i := 1752) (by decide +kernel)) (by decide +kernel), lw_g_in (List.mem_of_getElem? (i := 1753) (by decide +kernel)) (by decide +kernel)⟩
theorem gc_L_142 : gCV RL 142 gyX11_young 1 := ⟨⟨lw_g_in (List.mem_of_getElem? (i := 1035) (by decide +kernel)) (by decide +kernel), lw_g_in (List.mem_of_getElem? (i := 78) (by decide +kernel)) (by decide +kernel), ⟨by decide, by decide, by decide +kernel⟩, Or.inl (lw_g_in (List.mem_of_getElem? (i := 1032) (by decide +kernel)) (by decide +kernel))⟩, lw_g_in (List.mem_of_getElem? (i := 1033) (by decide +kernel)) (by decide +kernel), lw_g_in (List.mem_of_getElem? (i := 1034) (by decide +kernel)) (by decide +kernel)⟩
theorem gc_L_145 : gCV RL 145 gyX12_young 1 := ⟨⟨lw_g_in (List.mem_of_getElem? (i := 1695) (by decide +kernel)) (by decide +kernel), lw_g_in (List.mem_of_getElem? (i := 86) (by decide +kernel)) (by decide +kernel), ⟨by decide, by decide, by decide +kernel⟩, Or.inl (lw_g_in (List.mem_of_getElem? (i := 1692) (by decide +kernel)) (by decide +kernel))⟩, lw_g_in (List.mem_of_getElem? (i := 1693) (by decide +kernel)) (by decide +kernel), lw_g_in (List.mem_of_getElem? (i := 1694) (by decide +kernel)) (by decide +kernel)⟩
theorem gc_L_146 : gCV RL 146 gyX11_trail 1 := ⟨⟨lw_g_in (List.mem_of_getElem? (i := 1043) (by decide +kernel)) (by decide +kernel), lw_g_in (List.mem_of_getElem? (i := 78) (by decide +kernel)) (by decide +kernel), ⟨by decide, by decide, by decide +kernel⟩, Or.inl (lw_g_in (List.mem_of_getElem? (i := 1040) (by decide +kernel)) (by decide +kernel))⟩, lw_g_in (List.mem_of_getElem? (i := 1041) (by decide +kernel)) (by decide +kernel), lw_g_in (List.mem_of_getElem? (i := 1042) (by decide +kernel)) (by decide +kernel)⟩
theorem gc_L_149 : gCV RL 149 gyX12_trail 1 := ⟨⟨lw_g_in (List.mem_of_getElem? (i := 1679) (by decide +kernel)) (by decide +kernel), lw_g_in (List.mem_of_getElem? (i := 86) (by decide +kernel)) (by decide +kernel), ⟨by decide, by decide, by decide +kernel⟩, Or.inl (lw_g_in (List.mem_of_getElem? (i := 1676) (by decide +kernel)) (by decide +kernel))⟩, lw_g_in (List.mem_of_getElem? (i := 1677) (by decide +kernel)) (by decide +kernel), lw_g_in (List.mem_of_getElem? (i := 1678) (by decide +kernel)) (by decide +kernel)⟩
theorem gc_L_150 : gCV RL 150 gyX11_last 1 := ⟨⟨lw_g_in (List.mem_of_getElem? (i := 1051) (by decide +kernel)) (by decide +kernel), lw_g_in (List.mem_of_getElem? (i := 78) (by decide +kernel)) (by decide +kernel), ⟨by decide, by decide, by decide +kernel⟩, Or.inl (lw_g_in (List.mem_of_getElem? (i := 1048) (by decide +kernel)) (by decide +kernel))⟩, lw_g_in (List.mem_of_getElem? (i := 1049) (by decide +kernel)) (by decide +kernel), lw_g_in (List.mem_of_getElem? (i := 1050) (by decide +kernel)) (by decide +kernel)⟩
theorem gc_L_153 : gCV RL 153 gyX12_last 1 := ⟨⟨lw_g_in (List.mem_of_getElem? (i := 1683) (by decide +kernel)) (by decide +kernel), lw_g_in (List.mem_of_getElem? (i := 86) (by decide +kernel)) (by decide +kernel), ⟨by decide, by decide, by decide +kernel⟩, Or.inl (lw_g_in (List.mem_of_getElem? (i := 1680) (by decide +kernel)) (by decide +kernel))⟩, lw_g_in (List.mem_of_getElem? (i := 1681) (by decide +kernel)) (by decide +kernel), lw_g_in (List.mem_of_getElem? (i := 1682) (by decide +kernel)) (by decide +kernel)⟩
theorem gc_L_154 : gCV RL 154 gyX11_worst 0 := ⟨⟨lw_g_in (List.mem_of_getElem? (i := 1058) (by decide +kernel)) (by decide +kernel), lw_g_in (List.mem_of_getElem? (i := 78) (by decide +kernel)) (by decide +kernel), ⟨by decide, by decide, by decide +kernel⟩, Or.inl (lw_g_in (List.mem_of_getElem? (i := 1055) (by decide +kernel)) (by decide +kernel))⟩, lw_g_in (List.mem_of_getElem? (i := 1056) (by decide +kernel)) (by decide +kernel), lw_g_in (List.mem_of_getElem? (i := 1057) (by decide +kernel)) (by decide +kernel)⟩
theorem gc_L_157 : gCV RL 157 gyX12_worst 0 := ⟨⟨lw_g_in (List.mem_of_getElem? (i := 1687) (by decide +kernel)) (by decide +kernel), lw_g_in (List.mem_of_getElem? (i := 86) (by decide +kernel)) (by decide +kernel), ⟨by decide, by decide, by decide +kernel⟩, Or.inl (lw_g_in (List.mem_of_getElem? (i := 1684) (by decide +kernel)) (by decide +kernel))⟩, lw_g_in (List.mem_of_getElem? (i := 1685) (by decide +kernel)) (by decide +kernel), lw_g_in (List.mem_of_getElem? (i := 1686) (by decide +kernel)) (by decide +kernel)⟩
theorem gc_L_158 : gCV RL 158 gyX11_oldest 0 := ⟨⟨lw_g_in (List.mem_of_getElem? (i := 1066) (by decide +kernel)) (by decide +kernel), lw_g_in (List.mem_of_getElem? (i := 78) (by decide +kernel)) (by decide +kernel), ⟨by decide, by decide, by decide +kernel⟩, Or.inl (lw_g_in (List.mem_of_getElem? (i := 1063) (by decide +kernel)) (by decide +kernel))⟩, lw_g_in (List.mem_of_getElem? (i := 1064) (by decide +kernel)) (by decide +kernel), lw_g_in (List.mem_of_getElem? (i := 1065) (by decide +kernel)) (by decide +kernel)⟩
theorem gc_L_161 : gCV RL 161 gyX12_oldest 0 := ⟨⟨lw_g_in (List.mem_of_getElem? (i := 1691) (by decide +kernel)) (by decide +kernel), lw_g_in (List.mem_of_getElem? (i := 86) (by decide +kernel)) (by decide +kernel), ⟨by decide, by decide, by decide +kernel⟩, Or.inl (lw_g_in (List.mem_of_getElem? (i := 1688) (by decide +kernel)) (by decide +kernel))⟩, lw_g_in (List.mem_of_getElem? (i := 1689) (by decide +kernel)) (by decide +kernel), lw_g_in (List.mem_of_getElem? (i := 1690) (by decide +kernel)) (by decide +kernel)⟩
theorem gc_L_162 : gCV RL 162 gyX11_cloak 2 := ⟨⟨lw_g_in (List.mem_of_getElem? (i := 1073) (by decide +kernel)) (by decide +kernel), lw_g_in (List.mem_of_getElem? (i := 78) (by decide +kernel)) (by decide +kernel), ⟨by decide, by decide, by decide +kernel⟩, Or.inl (lw_g_in (List.mem_of_getElem? (i := 1070) (by decide +kernel)) (by decide +kernel))⟩, lw_g_in (List.mem_of_getElem? (i := 1071) (by decide +kernel)) (by decide +kernel), lw_g_in (List.mem_of_getElem? (i := 1072) (by decide +kernel)) (by decide +kernel)⟩
theorem gc_L_165 : gCV RL 165 gyX12_cloak 2 := ⟨⟨lw_g_in (List.mem_of_getElem? (i := 1699) (by decide +kernel)) (by decide +kernel), lw_g_in (List.mem_of_getElem? (i := 86) (by decide +kernel)) (by decide +kernel), ⟨by decide, by decide, by decide +kernel⟩, Or.inl (lw_g_in (List.mem_of_getElem? (i := 1696) (by decide +kernel)) (by decide +kernel))⟩, lw_g_in (List.mem_of_getElem? (i := 1697) (by decide +kernel)) (by decide +kernel), lw_g_in (List.mem_of_getElem? (i := 1698) (by decide +kernel)) (by decide +kernel)⟩
theorem gc_L_166 : gCV RL 166 gyX11_twin 2 := ⟨⟨lw_g_in (List.mem_of_getElem? (i := 1080) (by decide +kernel)) (by decide +kernel), lw_g_in (List.mem_of_getElem? (i := 78) (by decide +kernel)) (by decide +kernel), ⟨by decide, by decide, by decide +kernel⟩, Or.inl (lw_g_in (List.mem_of_getElem? (i := 1077) (by decide +kernel)) (by decide +kernel))⟩, lw_g_in (List.mem_of_getElem? (i := 1078) (by decide +kernel)) (by decide +kernel), lw_g_in (List.mem_of_getElem? (i := 1079) (by decide +kernel)) (by decide +kernel)⟩
theorem gc_L_169 : gCV RL 169 gyX12_twin 2 := ⟨⟨lw_g_in (List.mem_of_getElem? (i := 1758) (by decide +kernel)) (by decide +kernel), lw_g_in (List.mem_of_getElem? (i := 86) (by decide +kernel)) (by decide +kernel), ⟨by decide, by decide, by decide +kernel⟩, Or.inl (lw_g_in (List.mem_of_getElem? (i := 1755) (by decide +kernel)) (by decide +kernel))⟩, lw_g_in (List.mem_of_getElem? (i := 1756) (by decide +kernel)) (by decide +kernel), lw_g_in (List.mem_of_getElem? (i := 1757) (by decide +kernel)) (by decide +kernel)⟩
theorem gc_L_170 : gCV RL 170 gyX11_run 1 := ⟨⟨lw_g_in (List.mem_of_getElem? (i := 1091) (by decide +kernel)) (by decide +kernel), lw_g_in (List.mem_of_getElem? (i := 78) (by decide +kernel)) (by decide +kernel), ⟨by decide, by decide, by decide +kernel⟩, Or.inl (lw_g_in (List.mem_of_getElem? (i := 1088) (by decide +kernel)) (by decide +kernel))⟩, lw_g_in (List.mem_of_getElem? (i := 1089) (by decide +kernel)) (by decide +kernel), lw_g_in (List.mem_of_getElem? (i := 1090) (by decide +kernel)) (by decide +kernel)⟩
theorem gc_L_173 : gCV RL 173 gyX12_run 1 := ⟨⟨lw_g_in (List.mem_of_getElem? (i := 1766) (by decide +kernel)) (by decide +kernel), lw_g_in (List.mem_of_getElem? (i := 86) (by decide +kernel)) (by decide +kernel), ⟨by decide, by decide, by decide +kernel⟩, Or.inl (lw_g_in (List.mem_of_getElem? (i := 1763) (by decide +kernel)) (by decide +kernel))⟩, lw_g_in (List.mem_of_getElem? (i := 1764) (by decide +kernel)) (by decide +kernel), lw_g_in (List.mem_of_getElem? (i := 1765) (by decide +kernel)) (by decide +kernel)⟩
theorem gc_L_179 : gCV RL 179 gyX12_rests 4 := ⟨⟨lw_g_in (List.mem_of_getElem? (i := 1770) (by decide +kernel)) (by decide +kernel), lw_g_in (List.mem_of_getElem? (i := 86) (by decide +kernel)) (by decide +kernel), ⟨by decide, by decide, by decide +kernel⟩, Or.inl (lw_g_in (List.mem_of_getElem? (i := 1767) (by decide +kernel)) (by decide +kernel))⟩, lw_g_in (List.mem_of_getElem? (i := 1768) (by decide +kernel)) (by decide +kernel), lw_g_in (List.mem_of_getElem? (i := 1769) (by decide +kernel)) (by decide +kernel)⟩
theorem gc_L_180 : gCV RL 180 gyX12_thrown 0 := ⟨⟨lw_g_in (List.mem_of_getElem? (i := 1215) (by decide +kernel)) (by decide +kernel), lw_g_in (List.mem_of_getElem? (i := 86) (by decide +kernel)) (by decide +kernel), ⟨by decide, by decide, by decide +kernel⟩, Or.inl (lw_g_in (List.mem_of_getElem? (i := 1212) (by decide +kernel)) (by decide +kernel))⟩, lw_g_in (List.mem_of_getElem? (i := 1213) (by decide +kernel)) (by decide +kernel), lw_g_in (List.mem_of_getElem? (i := 1214) (by decide +kernel)) (by decide +kernel)⟩
theorem gc_L_183 : gCV RL 183 gyX11_years 3 := ⟨⟨lw_g_in (List.mem_of_getElem? (i := 1096) (by decide +kernel)) (by decide +kernel), lw_g_in (List.mem_of_getElem? (i := 78) (by decide +kernel)) (by decide +kernel), ⟨by decide, by decide, by decide +kernel⟩, Or.inl (lw_g_in (List.mem_of_getElem? (i := 1093) (by decide +kernel)) (by decide +kernel))⟩, lw_g_in (List.mem_of_getElem? (i := 1094) (by decide +kernel)) (by decide +kernel), lw_g_in (List.mem_of_getElem? (i := 1095) (by decide +kernel)) (by decide +kernel)⟩
theorem gc_L_186 : gCV RL 186 gyX12_years 3 := ⟨⟨lw_g_in (List.mem_of_getElem? (i := 1777) (by decide +kernel)) (by decide +kernel), lw_g_in (List.mem_of_getElem? (i := 86) (by decide +kernel)) (by decide +kernel), ⟨by decide, by decide, by decide +kernel⟩, Or.inl (lw_g_in (List.mem_of_getElem? (i := 1774) (by decide +kernel)) (by decide +kernel))⟩, lw_g_in (List.mem_of_getElem? (i := 1775) (by decide +kernel)) (by decide +kernel), lw_g_in (List.mem_of_getElem? (i := 1776) (by decide +kernel)) (by decide +kernel)⟩
theorem gc_L_187 : gCV RL 187 gyX11_notch 2 := ⟨⟨lw_g_in (List.mem_of_getElem? (i := 1120) (by decide +kernel)) (by decide +kernel), lw_g_in (List.mem_of_getElem? (i := 78) (by decide +kernel)) (by decide +kernel), ⟨by decide, by decide, by decide +kernel⟩, Or.inl (lw_g_in (List.mem_of_getElem? (i := 1117) (by decide +kernel)) (by decide +kernel))⟩, lw_g_in (List.mem_of_getElem? (i := 1118) (by decide +kernel)) (by decide +kernel), lw_g_in (List.mem_of_getElem? (i := 1119) (by decide +kernel)) (by decide +kernel)⟩
theorem gc_L_190 : gCV RL 190 gyX12_notch 2 := ⟨⟨lw_g_in (List.mem_of_getElem? (i := 1793) (by decide +kernel)) (by decide +kernel), lw_g_in (List.mem_of_getElem? (i := 86) (by decide +kernel)) (by decide +kernel), ⟨by decide, by decide, by decide +kernel⟩, Or.inl (lw_g_in (List.mem_of_getElem? (i := 1790) (by decide +kernel)) (by decide +kernel))⟩, lw_g_in (List.mem_of_getElem? (i := 1791) (by decide +kernel)) (by decide +kernel), lw_g_in (List.mem_of_getElem? (i := 1792) (by decide +kernel)) (by decide +kernel)⟩
theorem gc_L_191 : gCV RL 191 gyX11_count 1 := ⟨⟨lw_g_in (List.mem_of_getElem? (i := 1128) (by decide +kernel)) (by decide +kernel), lw_g_in (List.mem_of_getElem? (i := 78) (by decide +kernel)) (by decide +kernel), ⟨by decide, by decide, by decide +kernel⟩, Or.inl (lw_g_in (List.mem_of_getElem? (i := 1125) (by decide +kernel)) (by decide +kernel))⟩, lw_g_in (List.mem_of_getElem? (i := 1126) (by decide +kernel)) (by decide +kernel), lw_g_in (List.mem_of_getElem? (i := 1127) (by decide +kernel)) (by decide +kernel)⟩
theorem gc_L_194 : gCV RL 194 gyX12_count 1 := ⟨⟨lw_g_in (List.mem_of_getElem? (i := 1797) (by decide +kernel)) (by decide +kernel), lw_g_in (List.mem_of_getElem? (i := 86) (by decide +kernel)) (by decide +kernel), ⟨by decide, by decide, by decide +kernel⟩, Or.inl (lw_g_in (List.mem_of_getElem? (i := 1794) (by decide +kernel)) (by decide +kernel))⟩, lw_g_in (List.mem_of_getElem? (i := 1795) (by decide +kernel)) (by decide +kernel), lw_g_in (List.mem_of_getElem? (i := 1796) (by decide +kernel)) (by decide +kernel)⟩
theorem gcw_174 : gCW RL 174 gyL_rests [(0, 14, 17, 13)] 6 := ⟨lw_g_in (List.mem_of_getElem? (i := 1136) (by decide +kernel)) (by decide +kernel), lw_g_in (List.mem_of_getElem? (i := 77) (by decide +kernel)) (by decide +kernel), ⟨by decide, by decide, by decide +kernel⟩, lw_g_in (List.mem_of_getElem? (i := 1134) (by decide +kernel)) (by decide +kernel), lw_g_in (List.mem_of_getElem? (i := 1135) (by decide +kernel)) (by decide +kernel)⟩
def wL_law_J1473 (n : Nat) (sh : Nat → Nat × Nat) (Ls : Nat) (xs : Nat → Int32) (k23 : Nat → Nat → Nat → Int32 → gS → Prop) (P : Int32 → gS → Prop) (a1 : Nat) (a2 : Nat) (a3 : Nat) (x4 : Int32) (z : gS) : Prop := ∀ v22 : Int32, v22 = x4 + (7 : Int32) → k23 a1 a2 a3 v22 z
set_option maxRecDepth 100000 in
set_option maxHeartbeats 4000000 in
theorem vL_law_J1473 {E : gE} {n : Nat} {sh : Nat → Nat × Nat} {Ls : Nat} {xs : Nat → Int32} {P : Int32 → gS → Prop} {k23 : Nat → Nat → Nat → Int32 → gS → Prop} {a1 : Nat} {a2 : Nat} {a3 : Nat} {x4 : Int32} {z : gS} (hn : gOK E n) (hth : gThr E) (hsc : gScr E Ls xs) {u ub : Nat} (hu : u ≤ ub) (hub : ub ≤ 2400) (hk23 : ∀ (u : Nat), u ≤ ub → ∀ (a1 : Nat) (a2 : Nat) (a3 : Nat) (x4 : Int32) (z : gS), k23 a1 a2 a3 x4 z → V E gRm gyL_law 0 u 23 [(0, .ref 1000030), (1, .ref a1), (2, .ref a2), (3, .ref a3), (4, .int x4)] [] n sh z (kI n sh P)) (hf : wL_law_J1473 n sh Ls xs k23 P a1 a2 a3 x4 z) : V E gRm gyL_law 0 u 1473 [(0, .ref 1000030), (1, .ref a1), (2, .ref a2), (3, .ref a3), (4, .int x4)] [] n sh z (kI n sh P) := by
  unfold wL_law_J1473 at hf
  obtain ⟨v22, ev22⟩ : ∃ y : Int32, y = x4 + (7 : Int32) := ⟨_, rfl⟩
  refine V_iinc (j := 4) (v := v22) (ls2 := [(4, .int v22), (0, .ref 1000030), (1, .ref a1), (2, .ref a2), (3, .ref a3)]) dL_law_1473 rfl (by rw [ev22]; rfl) (by decide) rfl ?_
  have hf := hf v22 ev22
  refine V_goto (tgt := 23) dL_law_1476 (by decide) ?_
  refine V_to [1, 2, 3, 4, 0] rfl ?_
  exact hk23 _ (by omega) _ _ _ _ _ hf
def wL_law_J919 (n : Nat) (sh : Nat → Nat × Nat) (Ls : Nat) (xs : Nat → Int32) (k23 : Nat → Nat → Nat → Int32 → gS → Prop) (P : Int32 → gS → Prop) (a1 : Nat) (a2 : Nat) (a3 : Nat) (x4 : Int32) (s0 : Int32) (s1 : Int32) (s2 : Nat) (s3 : Int32) (z : gS) : Prop := (oO n sh s2 8) ∧ (wX12_say n sh s2 s1 s0 z (fun (r5258 : Int32) (z5259 : gS) => if s3 = r5258 then wL_law_J1473 n sh Ls xs k23 P a1 a2 a3 x4 z5259 else P (0 : Int32) z5259))
set_option maxRecDepth 100000 in
set_option maxHeartbeats 4000000 in
theorem vL_law_J919 {E : gE} {n : Nat} {sh : Nat → Nat × Nat} {Ls : Nat} {xs : Nat → Int32} {P : Int32 → gS → Prop} {k23 : Nat → Nat → Nat → Int32 → gS → Prop} {a1 : Nat} {a2 : Nat} {a3 : Nat} {x4 : Int32} {s0 : Int32} {s1 : Int32} {s2 : Nat} {s3 : Int32} {z : gS} (hn : gOK E n) (hth : gThr E) (hsc : gScr E Ls xs) {u ub : Nat} (hu : u ≤ ub) (hub : ub ≤ 2400) (hk23 : ∀ (u : Nat), u ≤ ub → ∀ (a1 : Nat) (a2 : Nat) (a3 : Nat) (x4 : Int32) (z : gS), k23 a1 a2 a3 x4 z → V E gRm gyL_law 0 u 23 [(0, .ref 1000030), (1, .ref a1), (2, .ref a2), (3, .ref a3), (4, .int x4)] [] n sh z (kI n sh P)) (hf : wL_law_J919 n sh Ls xs k23 P a1 a2 a3 x4 s0 s1 s2 s3 z) : V E gRm gyL_law 0 u 919 [(0, .ref 1000030), (1, .ref a1), (2, .ref a2), (3, .ref a3), (4, .int x4)] [.int s0, .int s1, .ref s2, .int s3] n sh z (kI n sh P) := by
  unfold wL_law_J919 at hf
  obtain ⟨h5260, hf⟩ := hf
  refine V_cVI (ctX12_say hn hf) gc_L_113 rfl h5260.1 ⟨_, h5260.2, by decide, rfl⟩ ⟨by decide, by decide, (by show _ ≤ 3300; omega), (by show _ ≤ 7293034; omega)⟩ (Nat.le_of_ble_eq_true rfl) dL_law_919 rfl hn (fun r5258 z5259 hf => ?_)
  refine V_icmp_eq (tgt := 1473) dL_law_922 (by decide) (fun h5261 => ?_) (fun h5261 => ?_)
  · have hf := it_t h5261 hf
    exact vL_law_J1473 hn hth hsc (by omega) hub hk23 hf
  · have hf := it_f h5261 hf
    refine V_iconst (v := (0 : Int32)) dL_law_925 (by decide) ?_
    exact V_ireturn dL_law_926 rfl (by decide) (by show _ ≤ 3300; omega) (kI_of hf)
def wL_law_J895 (n : Nat) (sh : Nat → Nat × Nat) (Ls : Nat) (xs : Nat → Int32) (k23 : Nat → Nat → Nat → Int32 → gS → Prop) (P : Int32 → gS → Prop) (a1 : Nat) (a2 : Nat) (a3 : Nat) (x4 : Int32) (s0 : Int32) (s1 : Int32) (s2 : Nat) (z : gS) : Prop := (oO n sh s2 7) ∧ (wX11_say n sh s2 s1 s0 z (fun (r5253 : Int32) (z5254 : gS) => (vp_in (x4 + (1 : Int32)) Ls) ∧ ((vp_in (x4 + (2 : Int32)) Ls) ∧ (if (xs (x4 + (2 : Int32)).toNatClampNeg) = 0 then wL_law_J919 n sh Ls xs k23 P a1 a2 a3 x4 (0 : Int32) (xs (x4 + (1 : Int32)).toNatClampNeg) a2 r5253 z5254 else wL_law_J919 n sh Ls xs k23 P a1 a2 a3 x4 (1 : Int32) (xs (x4 + (1 : Int32)).toNatClampNeg) a2 r5253 z5254))))
set_option maxRecDepth 100000 in
set_option maxHeartbeats 4000000 in
theorem vL_law_J895 {E : gE} {n : Nat} {sh : Nat → Nat × Nat} {Ls : Nat} {xs : Nat → Int32} {P : Int32 → gS → Prop} {k23 : Nat → Nat → Nat → Int32 → gS → Prop} {a1 : Nat} {a2 : Nat} {a3 : Nat} {x4 : Int32} {s0 : Int32} {s1 : Int32} {s2 : Nat} {z : gS} (hn : gOK E n) (hth : gThr E) (hsc : gScr E Ls xs) {u ub : Nat} (hu : u ≤ ub) (hub : ub ≤ 2400) (hk23 : ∀ (u : Nat), u ≤ ub → ∀ (a1 : Nat) (a2 : Nat) (a3 : Nat) (x4 : Int32) (z : gS), k23 a1 a2 a3 x4 z → V E gRm gyL_law 0 u 23 [(0, .ref 1000030), (1, .ref a1), (2, .ref a2), (3, .ref a3), (4, .int x4)] [] n sh z (kI n sh P)) (hf : wL_law_J895 n sh Ls xs k23 P a1 a2 a3 x4 s0 s1 s2 z) : V E gRm gyL_law 0 u 895 [(0, .ref 1000030), (1, .ref a1), (2, .ref a2), (3, .ref a3), (4, .int x4)] [.int s0, .int s1, .ref s2] n sh z (kI n sh P) := by
  unfold wL_law_J895 at hf
  obtain ⟨h5255, hf⟩ := hf
  refine V_cVI (ctX11_say hn hf) gc_L_109 rfl h5255.1 ⟨_, h5255.2, by decide, rfl⟩ ⟨by decide, by decide, (by show _ ≤ 3300; omega), (by show _ ≤ 7293034; omega)⟩ (Nat.le_of_ble_eq_true rfl) dL_law_895 rfl hn (fun r5253 z5254 hf => ?_)
  refine V_aload_n (j := 2) dL_law_898 rfl rfl ?_
  refine V_aload_n (j := 0) dL_law_899 rfl rfl ?_
  refine V_iload (j := 4) dL_law_900 rfl ?_
  refine V_iconst (v := (1 : Int32)) dL_law_902 (by decide) ?_
  refine V_iadd dL_law_903 ?_
  obtain ⟨h5256, hf⟩ := hf
  refine V_sld hsc h5256 dL_law_904 ?_
  refine V_aload_n (j := 0) dL_law_905 rfl rfl ?_
  refine V_iload (j := 4) dL_law_906 rfl ?_
  refine V_iconst (v := (2 : Int32)) dL_law_908 (by decide) ?_
  refine V_iadd dL_law_909 ?_
  obtain ⟨h5264, hf⟩ := hf
  refine V_sld hsc h5264 dL_law_910 ?_
  refine V_if_eq (tgt := 918) dL_law_911 (by decide) (fun h5266 => ?_) (fun h5266 => ?_)
  · have hf := it_t h5266 hf
    refine V_iconst (v := (0 : Int32)) dL_law_918 (by decide) ?_
    exact vL_law_J919 hn hth hsc (by omega) hub hk23 hf
  · have hf := it_f h5266 hf
    refine V_iconst (v := (1 : Int32)) dL_law_914 (by decide) ?_
    refine V_goto (tgt := 919) dL_law_915 (by decide) ?_
    exact vL_law_J919 hn hth hsc (by omega) hub hk23 hf
def wL_law_J1343 (n : Nat) (sh : Nat → Nat × Nat) (Ls : Nat) (xs : Nat → Int32) (k23 : Nat → Nat → Nat → Int32 → gS → Prop) (P : Int32 → gS → Prop) (a1 : Nat) (a2 : Nat) (a3 : Nat) (x4 : Int32) (z : gS) : Prop := wL_law_J1473 n sh Ls xs k23 P a1 a2 a3 x4 z
set_option maxRecDepth 100000 in
set_option maxHeartbeats 4000000 in
theorem vL_law_J1343 {E : gE} {n : Nat} {sh : Nat → Nat × Nat} {Ls : Nat} {xs : Nat → Int32} {P : Int32 → gS → Prop} {k23 : Nat → Nat → Nat → Int32 → gS → Prop} {a1 : Nat} {a2 : Nat} {a3 : Nat} {x4 : Int32} {z : gS} (hn : gOK E n) (hth : gThr E) (hsc : gScr E Ls xs) {u ub : Nat} (hu : u ≤ ub) (hub : ub ≤ 2400) (hk23 : ∀ (u : Nat), u ≤ ub → ∀ (a1 : Nat) (a2 : Nat) (a3 : Nat) (x4 : Int32) (z : gS), k23 a1 a2 a3 x4 z → V E gRm gyL_law 0 u 23 [(0, .ref 1000030), (1, .ref a1), (2, .ref a2), (3, .ref a3), (4, .int x4)] [] n sh z (kI n sh P)) (hf : wL_law_J1343 n sh Ls xs k23 P a1 a2 a3 x4 z) : V E gRm gyL_law 0 u 1343 [(0, .ref 1000030), (1, .ref a1), (2, .ref a2), (3, .ref a3), (4, .int x4)] [] n sh z (kI n sh P) := by
  unfold wL_law_J1343 at hf
  refine V_goto (tgt := 1473) dL_law_1343 (by decide) ?_
  exact vL_law_J1473 hn hth hsc (by omega) hub hk23 hf
def wL_law_J1440 (n : Nat) (sh : Nat → Nat × Nat) (Ls : Nat) (xs : Nat → Int32) (k23 : Nat → Nat → Nat → Int32 → gS → Prop) (P : Int32 → gS → Prop) (a1 : Nat) (a2 : Nat) (a3 : Nat) (x4 : Int32) (s0 : Int32) (s1 : Int32) (s2 : Nat) (s3 : Int32) (z : gS) : Prop := (oO n sh s2 8) ∧ (wX12_notch n sh s2 s1 s0 z (fun (r6772 : Int32) (z6773 : gS) => if s3 = r6772 then wL_law_J1473 n sh Ls xs k23 P a1 a2 a3 x4 z6773 else P (0 : Int32) z6773))
set_option maxRecDepth 100000 in
set_option maxHeartbeats 4000000 in
theorem vL_law_J1440 {E : gE} {n : Nat} {sh : Nat → Nat × Nat} {Ls : Nat} {xs : Nat → Int32} {P : Int32 → gS → Prop} {k23 : Nat → Nat → Nat → Int32 → gS → Prop} {a1 : Nat} {a2 : Nat} {a3 : Nat} {x4 : Int32} {s0 : Int32} {s1 : Int32} {s2 : Nat} {s3 : Int32} {z : gS} (hn : gOK E n) (hth : gThr E) (hsc : gScr E Ls xs) {u ub : Nat} (hu : u ≤ ub) (hub : ub ≤ 2400) (hk23 : ∀ (u : Nat), u ≤ ub → ∀ (a1 : Nat) (a2 : Nat) (a3 : Nat) (x4 : Int32) (z : gS), k23 a1 a2 a3 x4 z → V E gRm gyL_law 0 u 23 [(0, .ref 1000030), (1, .ref a1), (2, .ref a2), (3, .ref a3), (4, .int x4)] [] n sh z (kI n sh P)) (hf : wL_law_J1440 n sh Ls xs k23 P a1 a2 a3 x4 s0 s1 s2 s3 z) : V E gRm gyL_law 0 u 1440 [(0, .ref 1000030), (1, .ref a1), (2, .ref a2), (3, .ref a3), (4, .int x4)] [.int s0, .int s1, .ref s2, .int s3] n sh z (kI n sh P) := by
  unfold wL_law_J1440 at hf
  obtain ⟨h6774, hf⟩ := hf
  refine V_cVI (ctX12_notch hn hf) gc_L_190 rfl h6774.1 ⟨_, h6774.2, by decide, rfl⟩ ⟨by decide, by decide, (by show _ ≤ 3300; omega), (by show _ ≤ 7293034; omega)⟩ (Nat.le_of_ble_eq_true rfl) dL_law_1440 rfl hn (fun r6772 z6773 hf => ?_)
  refine V_icmp_eq (tgt := 1473) dL_law_1443 (by decide) (fun h6775 => ?_) (fun h6775 => ?_)
  · have hf := it_t h6775 hf
    exact vL_law_J1473 hn hth hsc (by omega) hub hk23 hf
  · have hf := it_f h6775 hf
    refine V_iconst (v := (0 : Int32)) dL_law_1446 (by decide) ?_
    exact V_ireturn dL_law_1447 rfl (by decide) (by show _ ≤ 3300; omega) (kI_of hf)
def wL_law_J1416 (n : Nat) (sh : Nat → Nat × Nat) (Ls : Nat) (xs : Nat → Int32) (k23 : Nat → Nat → Nat → Int32 → gS → Prop) (P : Int32 → gS → Prop) (a1 : Nat) (a2 : Nat) (a3 : Nat) (x4 : Int32) (s0 : Int32) (s1 : Int32) (s2 : Nat) (z : gS) : Prop := (oO n sh s2 7) ∧ (wX11_notch n sh s2 s1 s0 z (fun (r6767 : Int32) (z6768 : gS) => (vp_in (x4 + (1 : Int32)) Ls) ∧ ((vp_in (x4 + (2 : Int32)) Ls) ∧ (if (xs (x4 + (2 : Int32)).toNatClampNeg) = 0 then wL_law_J1440 n sh Ls xs k23 P a1 a2 a3 x4 (0 : Int32) (xs (x4 + (1 : Int32)).toNatClampNeg) a2 r6767 z6768 else wL_law_J1440 n sh Ls xs k23 P a1 a2 a3 x4 (1 : Int32) (xs (x4 + (1 : Int32)).toNatClampNeg) a2 r6767 z6768))))
set_option maxRecDepth 100000 in
set_option maxHeartbeats 4000000 in
theorem vL_law_J1416 {E : gE} {n : Nat} {sh : Nat → Nat × Nat} {Ls : Nat} {xs : Nat → Int32} {P : Int32 → gS → Prop} {k23 : Nat → Nat → Nat → Int32 → gS → Prop} {a1 : Nat} {a2 : Nat} {a3 : Nat} {x4 : Int32} {s0 : Int32} {s1 : Int32} {s2 : Nat} {z : gS} (hn : gOK E n) (hth : gThr E) (hsc : gScr E Ls xs) {u ub : Nat} (hu : u ≤ ub) (hub : ub ≤ 2400) (hk23 : ∀ (u : Nat), u ≤ ub → ∀ (a1 : Nat) (a2 : Nat) (a3 : Nat) (x4 : Int32) (z : gS), k23 a1 a2 a3 x4 z → V E gRm gyL_law 0 u 23 [(0, .ref 1000030), (1, .ref a1), (2, .ref a2), (3, .ref a3), (4, .int x4)] [] n sh z (kI n sh P)) (hf : wL_law_J1416 n sh Ls xs k23 P a1 a2 a3 x4 s0 s1 s2 z) : V E gRm gyL_law 0 u 1416 [(0, .ref 1000030), (1, .ref a1), (2, .ref a2), (3, .ref a3), (4, .int x4)] [.int s0, .int s1, .ref s2] n sh z (kI n sh P) := by
  unfold wL_law_J1416 at hf
  obtain ⟨h6769, hf⟩ := hf
  refine V_cVI (ctX11_notch hn hf) gc_L_187 rfl h6769.1 ⟨_, h6769.2, by decide, rfl⟩ ⟨by decide, by decide, (by show _ ≤ 3300; omega), (by show _ ≤ 7293034; omega)⟩ (Nat.le_of_ble_eq_true rfl) dL_law_1416 rfl hn (fun r6767 z6768 hf => ?_)
  refine V_aload_n (j := 2) dL_law_1419 rfl rfl ?_
  refine V_aload_n (j := 0) dL_law_1420 rfl rfl ?_
  refine V_iload (j := 4) dL_law_1421 rfl ?_
  refine V_iconst (v := (1 : Int32)) dL_law_1423 (by decide) ?_
  refine V_iadd dL_law_1424 ?_
  obtain ⟨h6770, hf⟩ := hf
  refine V_sld hsc h6770 dL_law_1425 ?_
  refine V_aload_n (j := 0) dL_law_1426 rfl rfl ?_
  refine V_iload (j := 4) dL_law_1427 rfl ?_
  refine V_iconst (v := (2 : Int32)) dL_law_1429 (by decide) ?_
  refine V_iadd dL_law_1430 ?_
  obtain ⟨h6778, hf⟩ := hf
  refine V_sld hsc h6778 dL_law_1431 ?_
  refine V_if_eq (tgt := 1439) dL_law_1432 (by decide) (fun h6780 => ?_) (fun h6780 => ?_)
  · have hf := it_t h6780 hf
    refine V_iconst (v := (0 : Int32)) dL_law_1439 (by decide) ?_
    exact vL_law_J1440 hn hth hsc (by omega) hub hk23 hf
  · have hf := it_f h6780 hf
    refine V_iconst (v := (1 : Int32)) dL_law_1435 (by decide) ?_
    refine V_goto (tgt := 1440) dL_law_1436 (by decide) ?_
    exact vL_law_J1440 hn hth hsc (by omega) hub hk23 hf
def wL_law_B23 (n : Nat) (sh : Nat → Nat × Nat) (Ls : Nat) (xs : Nat → Int32) (k23 : Nat → Nat → Nat → Int32 → gS → Prop) (P : Int32 → gS → Prop) (a1 : Nat) (a2 : Nat) (a3 : Nat) (x4 : Int32) (z : gS) : Prop := if ((Int32.ofNat Ls) - (7 : Int32)) < x4 then P (1 : Int32) z else ((vp_in x4 Ls) ∧ (∀ v6808 : Int32, v6808 = ((xs x4.toNatClampNeg) &&& (63 : Int32)) → (if v6808 = (0 : Int32) then ((vp_in (x4 + (1 : Int32)) Ls) ∧ ((vp_in (x4 + (2 : Int32)) Ls) ∧ ((vp_in (x4 + (3 : Int32)) Ls) ∧ ((vp_in (x4 + (4 : Int32)) Ls) ∧ ((vp_in (x4 + (5 : Int32)) Ls) ∧ ((vp_in (x4 + (6 : Int32)) Ls) ∧ ((oO n sh a1 7) ∧ (wX11_feed n sh a1 (((xs (x4 + (1 : Int32)).toNatClampNeg).toInt64 <<< ((32 : Int32).toInt64 &&& 63)) ||| ((xs (x4 + (2 : Int32)).toNatClampNeg).toInt64 &&& (4294967295 : Int64))) (((xs (x4 + (3 : Int32)).toNatClampNeg).toInt64 <<< ((32 : Int32).toInt64 &&& 63)) ||| ((xs (x4 + (4 : Int32)).toNatClampNeg).toInt64 &&& (4294967295 : Int64))) (((xs (x4 + (5 : Int32)).toNatClampNeg).toInt64 <<< ((32 : Int32).toInt64 &&& 63)) ||| ((xs (x4 + (6 : Int32)).toNatClampNeg).toInt64 &&& (4294967295 : Int64))) z (fun (r11298 : Int32) (z11299 : gS) => (oO n sh a2 8) ∧ (wX12_feed n sh a2 (((xs (x4 + (1 : Int32)).toNatClampNeg).toInt64 <<< ((32 : Int32).toInt64 &&& 63)) ||| ((xs (x4 + (2 : Int32)).toNatClampNeg).toInt64 &&& (4294967295 : Int64))) (((xs (x4 + (3 : Int32)).toNatClampNeg).toInt64 <<< ((32 : Int32).toInt64 &&& 63)) ||| ((xs (x4 + (4 : Int32)).toNatClampNeg).toInt64 &&& (4294967295 : Int64))) (((xs (x4 + (5 : Int32)).toNatClampNeg).toInt64 <<< ((32 : Int32).toInt64 &&& 63)) ||| ((xs (x4 + (6 : Int32)).toNatClampNeg).toInt64 &&& (4294967295 : Int64))) z11299 (fun (r11307 : Int32) (z11308 : gS) => if r11298 = r11307 then wL_law_J1473 n sh Ls xs k23 P a1 a2 a3 x4 z11308 else P (0 : Int32) z11308))))))))))) else (if v6808 = (1 : Int32) then ((oO n sh a1 7) ∧ (wX11_street n sh a1 z (fun (r11312 : Int32) (z11313 : gS) => (oO n sh a2 8) ∧ (wX12_street n sh a2 z11313 (fun (r11315 : Int32) (z11316 : gS) => if r11312 = r11315 then wL_law_J1473 n sh Ls xs k23 P a1 a2 a3 x4 z11316 else P (0 : Int32) z11316))))) else (if v6808 = (2 : Int32) then ((oO n sh a1 7) ∧ (wX11_day n sh a1 z (fun (r11320 : Int32) (z11321 : gS) => (oO n sh a2 8) ∧ (wX12_day n sh a2 z11321 (fun (r11323 : Int32) (z11324 : gS) => if r11320 = r11323 then wL_law_J1473 n sh Ls xs k23 P a1 a2 a3 x4 z11324 else P (0 : Int32) z11324))))) else (if v6808 = (3 : Int32) then ((vp_in (x4 + (1 : Int32)) Ls) ∧ ((vp_in (x4 + (2 : Int32)) Ls) ∧ ((oO n sh a1 7) ∧ (wX11_pane n sh a1 (xs (x4 + (1 : Int32)).toNatClampNeg) (xs (x4 + (2 : Int32)).toNatClampNeg) z (fun (r11380 : Int32) (z11381 : gS) => (oO n sh a2 8) ∧ (wX12_pane n sh a2 (xs (x4 + (1 : Int32)).toNatClampNeg) (xs (x4 + (2 : Int32)).toNatClampNeg) z11381 (fun (r11385 : Int32) (z11386 : gS) => if r11380 = r11385 then wL_law_J1473 n sh Ls xs k23 P a1 a2 a3 x4 z11386 else P (0 : Int32) z11386))))))) else (if v6808 = (4 : Int32) then ((vp_in (x4 + (1 : Int32)) Ls) ∧ ((vp_in (x4 + (2 : Int32)) Ls) ∧ ((vp_in (x4 + (3 : Int32)) Ls) ∧ ((oO n sh a1 7) ∧ (wX11_shown n sh a1 (xs (x4 + (1 : Int32)).toNatClampNeg) (xs (x4 + (2 : Int32)).toNatClampNeg) (xs (x4 + (3 : Int32)).toNatClampNeg) z (fun (r11557 : Int32) (z11558 : gS) => (oO n sh a2 8) ∧ (wX12_shown n sh a2 (xs (x4 + (1 : Int32)).toNatClampNeg) (xs (x4 + (2 : Int32)).toNatClampNeg) (xs (x4 + (3 : Int32)).toNatClampNeg) z11558 (fun (r11563 : Int32) (z11564 : gS) => if r11557 = r11563 then wL_law_J1473 n sh Ls xs k23 P a1 a2 a3 x4 z11564 else P (0 : Int32) z11564)))))))) else (if v6808 = (5 : Int32) then ((vp_in (x4 + (1 : Int32)) Ls) ∧ ((oO n sh a1 7) ∧ (wX11_person n sh a1 (xs (x4 + (1 : Int32)).toNatClampNeg) z (fun (r11581 : Int32) (z11582 : gS) => (oO n sh a2 8) ∧ (wX12_person n sh a2 (xs (x4 + (1 : Int32)).toNatClampNeg) z11582 (fun (r11585 : Int32) (z11586 : gS) => if r11581 = r11585 then wL_law_J1473 n sh Ls xs k23 P a1 a2 a3 x4 z11586 else P (0 : Int32) z11586)))))) else (if v6808 = (6 : Int32) then ((vp_in (x4 + (1 : Int32)) Ls) ∧ ((vp_in (x4 + (2 : Int32)) Ls) ∧ ((oO n sh a1 7) ∧ (wX11_walk n sh a1 (xs (x4 + (1 : Int32)).toNatClampNeg) (xs (x4 + (2 : Int32)).toNatClampNeg) z (fun (r11642 : Int32) (z11643 : gS) => (oO n sh a2 8) ∧ (wX12_walk n sh a2 (xs (x4 + (1 : Int32)).toNatClampNeg) (xs (x4 + (2 : Int32)).toNatClampNeg) z11643 (fun (r11647 : Int32) (z11648 : gS) => if r11642 = r11647 then wL_law_J1473 n sh Ls xs k23 P a1 a2 a3 x4 z11648 else P (0 : Int32) z11648))))))) else (if v6808 = (7 : Int32) then ((vp_in (x4 + (1 : Int32)) Ls) ∧ ((vp_in (x4 + (2 : Int32)) Ls) ∧ ((oO n sh a1 7) ∧ (wX11_does n sh a1 (xs (x4 + (1 : Int32)).toNatClampNeg) (xs (x4 + (2 : Int32)).toNatClampNeg) z (fun (r11704 : Int32) (z11705 : gS) => (oO n sh a2 8) ∧ (wX12_does_ n sh a2 (xs (x4 + (1 : Int32)).toNatClampNeg) (xs (x4 + (2 : Int32)).toNatClampNeg) z11705 (fun (r11709 : Int32) (z11710 : gS) => if r11704 = r11709 then wL_law_J1473 n sh Ls xs k23 P a1 a2 a3 x4 z11710 else P (0 : Int32) z11710))))))) else (if v6808 = (8 : Int32) then ((vp_in (x4 + (1 : Int32)) Ls) ∧ ((oO n sh a1 7) ∧ (wX11_wash n sh a1 (xs (x4 + (1 : Int32)).toNatClampNeg) z (fun (r11727 : Int32) (z11728 : gS) => (oO n sh a2 8) ∧ (wX12_wash n sh a2 (xs (x4 + (1 : Int32)).toNatClampNeg) z11728 (fun (r11731 : Int32) (z11732 : gS) => if r11727 = r11731 then wL_law_J1473 n sh Ls xs k23 P a1 a2 a3 x4 z11732 else P (0 : Int32) z11732)))))) else (if v6808 = (9 : Int32) then ((vp_in (x4 + (1 : Int32)) Ls) ∧ ((oO n sh a1 7) ∧ (wX11_curtain n sh a1 (xs (x4 + (1 : Int32)).toNatClampNeg) z (fun (r11749 : Int32) (z11750 : gS) => (oO n sh a2 8) ∧ (wX12_curtain n sh a2 (xs (x4 + (1 : Int32)).toNatClampNeg) z11750 (fun (r11753 : Int32) (z11754 : gS) => if r11749 = r11753 then wL_law_J1473 n sh Ls xs k23 P a1 a2 a3 x4 z11754 else P (0 : Int32) z11754)))))) else (if v6808 = (10 : Int32) then ((vp_in (x4 + (1 : Int32)) Ls) ∧ ((oO n sh a1 7) ∧ (wX11_stone n sh a1 (xs (x4 + (1 : Int32)).toNatClampNeg) z (fun (r11771 : Int32) (z11772 : gS) => (oO n sh a2 8) ∧ (wX12_stone n sh a2 (xs (x4 + (1 : Int32)).toNatClampNeg) z11772 (fun (r11775 : Int32) (z11776 : gS) => if r11771 = r11775 then wL_law_J1473 n sh Ls xs k23 P a1 a2 a3 x4 z11776 else P (0 : Int32) z11776)))))) else (if v6808 = (11 : Int32) then ((oO n sh a1 7) ∧ (wX11_hour n sh a1 z (fun (r11780 : Int32) (z11781 : gS) => (oO n sh a2 8) ∧ (wX12_hour n sh a2 z11781 (fun (r11783 : Int32) (z11784 : gS) => if r11780 = r11783 then wL_law_J1473 n sh Ls xs k23 P a1 a2 a3 x4 z11784 else P (0 : Int32) z11784))))) else (if v6808 = (12 : Int32) then ((oO n sh a1 7) ∧ (wX11_undo n sh a1 z (fun (r11788 : Int32) (z11789 : gS) => (oO n sh a2 8) ∧ (wX12_undo n sh a2 z11789 (fun (r11791 : Int32) (z11792 : gS) => if r11788 = r11791 then wL_law_J1473 n sh Ls xs k23 P a1 a2 a3 x4 z11792 else P (0 : Int32) z11792))))) else (if v6808 = (13 : Int32) then ((vp_in (x4 + (1 : Int32)) Ls) ∧ ((oO n sh a1 7) ∧ (wX11_judged n sh a1 (xs (x4 + (1 : Int32)).toNatClampNeg) z (fun (r11809 : Int32) (z11810 : gS) => (oO n sh a2 8) ∧ (wX12_judged n sh a2 (xs (x4 + (1 : Int32)).toNatClampNeg) z11810 (fun (r11813 : Int32) (z11814 : gS) => if r11809 = r11813 then wL_law_J1473 n sh Ls xs k23 P a1 a2 a3 x4 z11814 else P (0 : Int32) z11814)))))) else (if v6808 = (14 : Int32) then ((vp_in (x4 + (1 : Int32)) Ls) ∧ ((oO n sh a1 7) ∧ (wX11_shame n sh a1 (xs (x4 + (1 : Int32)).toNatClampNeg) z (fun (r11831 : Int32) (z11832 : gS) => (oO n sh a2 8) ∧ (wX12_shame n sh a2 (xs (x4 + (1 : Int32)).toNatClampNeg) z11832 (fun (r11835 : Int32) (z11836 : gS) => if r11831 = r11835 then wL_law_J1473 n sh Ls xs k23 P a1 a2 a3 x4 z11836 else P (0 : Int32) z11836)))))) else (if v6808 = (15 : Int32) then ((oO n sh a1 7) ∧ (wX11_harm n sh a1 z (fun (r11840 : Int32) (z11841 : gS) => (oO n sh a2 8) ∧ (wX12_harm n sh a2 z11841 (fun (r11843 : Int32) (z11844 : gS) => if r11840 = r11843 then wL_law_J1473 n sh Ls xs k23 P a1 a2 a3 x4 z11844 else P (0 : Int32) z11844))))) else (if v6808 = (16 : Int32) then ((vp_in (x4 + (1 : Int32)) Ls) ∧ ((vp_in (x4 + (2 : Int32)) Ls) ∧ ((oO n sh a1 7) ∧ (wX11_hide n sh a1 (xs (x4 + (1 : Int32)).toNatClampNeg) (xs (x4 + (2 : Int32)).toNatClampNeg) z (fun (r11900 : Int32) (z11901 : gS) => (oO n sh a2 8) ∧ (wX12_hide n sh a2 (xs (x4 + (1 : Int32)).toNatClampNeg) (xs (x4 + (2 : Int32)).toNatClampNeg) z11901 (fun (r11905 : Int32) (z11906 : gS) => if r11900 = r11905 then wL_law_J1473 n sh Ls xs k23 P a1 a2 a3 x4 z11906 else P (0 : Int32) z11906))))))) else (if v6808 = (17 : Int32) then ((vp_in (x4 + (1 : Int32)) Ls) ∧ ((vp_in (x4 + (2 : Int32)) Ls) ∧ ((oO n sh a1 7) ∧ (wX11_proof n sh a1 (xs (x4 + (1 : Int32)).toNatClampNeg) (xs (x4 + (2 : Int32)).toNatClampNeg) z (fun (r11962 : Int32) (z11963 : gS) => (oO n sh a2 8) ∧ (wX12_proof n sh a2 (xs (x4 + (1 : Int32)).toNatClampNeg) (xs (x4 + (2 : Int32)).toNatClampNeg) z11963 (fun (r11967 : Int32) (z11968 : gS) => if r11962 = r11967 then wL_law_J1473 n sh Ls xs k23 P a1 a2 a3 x4 z11968 else P (0 : Int32) z11968))))))) else (if v6808 = (18 : Int32) then ((vp_in (x4 + (1 : Int32)) Ls) ∧ ((vp_in (x4 + (2 : Int32)) Ls) ∧ ((oO n sh a1 7) ∧ (wX11_washes n sh a1 (xs (x4 + (1 : Int32)).toNatClampNeg) (xs (x4 + (2 : Int32)).toNatClampNeg) z (fun (r12024 : Int32) (z12025 : gS) => (oO n sh a2 8) ∧ (wX12_washes n sh a2 (xs (x4 + (1 : Int32)).toNatClampNeg) (xs (x4 + (2 : Int32)).toNatClampNeg) z12025 (fun (r12029 : Int32) (z12030 : gS) => if r12024 = r12029 then wL_law_J1473 n sh Ls xs k23 P a1 a2 a3 x4 z12030 else P (0 : Int32) z12030))))))) else (if v6808 = (19 : Int32) then ((vp_in (x4 + (1 : Int32)) Ls) ∧ ((oO n sh a1 7) ∧ (wX11_dark n sh a1 (xs (x4 + (1 : Int32)).toNatClampNeg) z (fun (r12047 : Int32) (z12048 : gS) => (oO n sh a2 8) ∧ (wX12_dark n sh a2 (xs (x4 + (1 : Int32)).toNatClampNeg) z12048 (fun (r12051 : Int32) (z12052 : gS) => if r12047 = r12051 then wL_law_J1473 n sh Ls xs k23 P a1 a2 a3 x4 z12052 else P (0 : Int32) z12052)))))) else (if v6808 = (20 : Int32) then ((vp_in (x4 + (1 : Int32)) Ls) ∧ ((vp_in (x4 + (2 : Int32)) Ls) ∧ (if (xs (x4 + (2 : Int32)).toNatClampNeg) = 0 then wL_law_J895 n sh Ls xs k23 P a1 a2 a3 x4 (0 : Int32) (xs (x4 + (1 : Int32)).toNatClampNeg) a1 z else wL_law_J895 n sh Ls xs k23 P a1 a2 a3 x4 (1 : Int32) (xs (x4 + (1 : Int32)).toNatClampNeg) a1 z))) else (if v6808 = (21 : Int32) then ((oO n sh a1 7) ∧ (wX11_where n sh a1 z (fun (r12064 : Int32) (z12065 : gS) => (oO n sh a2 8) ∧ (wX12_where n sh a2 z12065 (fun (r12067 : Int32) (z12068 : gS) => if r12064 = r12067 then wL_law_J1473 n sh Ls xs k23 P a1 a2 a3 x4 z12068 else P (0 : Int32) z12068))))) else (if v6808 = (22 : Int32) then ((oO n sh a1 7) ∧ (wX11_ask n sh a1 z (fun (r12072 : Int32) (z12073 : gS) => (oO n sh a2 8) ∧ (wX12_ask n sh a2 z12073 (fun (r12075 : Int32) (z12076 : gS) => if r12072 = r12075 then wL_law_J1473 n sh Ls xs k23 P a1 a2 a3 x4 z12076 else P (0 : Int32) z12076))))) else (if v6808 = (23 : Int32) then ((vp_in (x4 + (1 : Int32)) Ls) ∧ ((oO n sh a1 7) ∧ (wX11_memory n sh a1 (xs (x4 + (1 : Int32)).toNatClampNeg) z (fun (r12093 : Int32) (z12094 : gS) => (oO n sh a2 8) ∧ (wX12_memory n sh a2 (xs (x4 + (1 : Int32)).toNatClampNeg) z12094 (fun (r12097 : Int32) (z12098 : gS) => if r12093 = r12097 then wL_law_J1473 n sh Ls xs k23 P a1 a2 a3 x4 z12098 else P (0 : Int32) z12098)))))) else (if v6808 = (24 : Int32) then ((vp_in (x4 + (1 : Int32)) Ls) ∧ ((oO n sh a1 7) ∧ (wX11_glass n sh a1 (xs (x4 + (1 : Int32)).toNatClampNeg) z (fun (r12115 : Int32) (z12116 : gS) => (oO n sh a2 8) ∧ (wX12_glass n sh a2 (xs (x4 + (1 : Int32)).toNatClampNeg) z12116 (fun (r12119 : Int32) (z12120 : gS) => if r12115 = r12119 then wL_law_J1473 n sh Ls xs k23 P a1 a2 a3 x4 z12120 else P (0 : Int32) z12120)))))) else (if v6808 = (25 : Int32) then ((vp_in (x4 + (1 : Int32)) Ls) ∧ ((oO n sh a1 7) ∧ (wX11_seen n sh a1 (xs (x4 + (1 : Int32)).toNatClampNeg) z (fun (r12137 : Int32) (z12138 : gS) => (oO n sh a2 8) ∧ (wX12_seen n sh a2 (xs (x4 + (1 : Int32)).toNatClampNeg) z12138 (fun (r12141 : Int32) (z12142 : gS) => if r12137 = r12141 then wL_law_J1473 n sh Ls xs k23 P a1 a2 a3 x4 z12142 else P (0 : Int32) z12142)))))) else (if v6808 = (26 : Int32) then ((oO n sh a1 7) ∧ (wX11_eyes n sh a1 z (fun (r12146 : Int32) (z12147 : gS) => (oO n sh a2 8) ∧ (wX12_eyes n sh a2 z12147 (fun (r12149 : Int32) (z12150 : gS) => if r12146 = r12149 then wL_law_J1473 n sh Ls xs k23 P a1 a2 a3 x4 z12150 else P (0 : Int32) z12150))))) else (if v6808 = (27 : Int32) then ((oO n sh a1 7) ∧ (wX11_blind n sh a1 z (fun (r12154 : Int32) (z12155 : gS) => (oO n sh a2 8) ∧ (wX12_blind n sh a2 z12155 (fun (r12157 : Int32) (z12158 : gS) => if r12154 = r12157 then wL_law_J1473 n sh Ls xs k23 P a1 a2 a3 x4 z12158 else P (0 : Int32) z12158))))) else (if v6808 = (28 : Int32) then ((vp_in (x4 + (1 : Int32)) Ls) ∧ ((oO n sh a1 7) ∧ (wX11_young n sh a1 (xs (x4 + (1 : Int32)).toNatClampNeg) z (fun (r12175 : Int32) (z12176 : gS) => (oO n sh a2 8) ∧ (wX12_young n sh a2 (xs (x4 + (1 : Int32)).toNatClampNeg) z12176 (fun (r12179 : Int32) (z12180 : gS) => if r12175 = r12179 then wL_law_J1473 n sh Ls xs k23 P a1 a2 a3 x4 z12180 else P (0 : Int32) z12180)))))) else (if v6808 = (29 : Int32) then ((vp_in (x4 + (1 : Int32)) Ls) ∧ ((oO n sh a1 7) ∧ (wX11_trail n sh a1 (xs (x4 + (1 : Int32)).toNatClampNeg) z (fun (r12197 : Int32) (z12198 : gS) => (oO n sh a2 8) ∧ (wX12_trail n sh a2 (xs (x4 + (1 : Int32)).toNatClampNeg) z12198 (fun (r12201 : Int32) (z12202 : gS) => if r12197 = r12201 then wL_law_J1473 n sh Ls xs k23 P a1 a2 a3 x4 z12202 else P (0 : Int32) z12202)))))) else (if v6808 = (30 : Int32) then ((vp_in (x4 + (1 : Int32)) Ls) ∧ ((oO n sh a1 7) ∧ (wX11_last n sh a1 (xs (x4 + (1 : Int32)).toNatClampNeg) z (fun (r12219 : Int32) (z12220 : gS) => (oO n sh a2 8) ∧ (wX12_last n sh a2 (xs (x4 + (1 : Int32)).toNatClampNeg) z12220 (fun (r12223 : Int32) (z12224 : gS) => if r12219 = r12223 then wL_law_J1473 n sh Ls xs k23 P a1 a2 a3 x4 z12224 else P (0 : Int32) z12224)))))) else (if v6808 = (31 : Int32) then ((oO n sh a1 7) ∧ (wX11_worst n sh a1 z (fun (r12228 : Int32) (z12229 : gS) => (oO n sh a2 8) ∧ (wX12_worst n sh a2 z12229 (fun (r12231 : Int32) (z12232 : gS) => if r12228 = r12231 then wL_law_J1473 n sh Ls xs k23 P a1 a2 a3 x4 z12232 else P (0 : Int32) z12232))))) else (if v6808 = (32 : Int32) then ((oO n sh a1 7) ∧ (wX11_oldest n sh a1 z (fun (r12236 : Int32) (z12237 : gS) => (oO n sh a2 8) ∧ (wX12_oldest n sh a2 z12237 (fun (r12239 : Int32) (z12240 : gS) => if r12236 = r12239 then wL_law_J1473 n sh Ls xs k23 P a1 a2 a3 x4 z12240 else P (0 : Int32) z12240))))) else (if v6808 = (33 : Int32) then ((vp_in (x4 + (1 : Int32)) Ls) ∧ ((vp_in (x4 + (2 : Int32)) Ls) ∧ ((oO n sh a1 7) ∧ (wX11_cloak n sh a1 (xs (x4 + (1 : Int32)).toNatClampNeg) (xs (x4 + (2 : Int32)).toNatClampNeg) z (fun (r12296 : Int32) (z12297 : gS) => (oO n sh a2 8) ∧ (wX12_cloak n sh a2 (xs (x4 + (1 : Int32)).toNatClampNeg) (xs (x4 + (2 : Int32)).toNatClampNeg) z12297 (fun (r12301 : Int32) (z12302 : gS) => if r12296 = r12301 then wL_law_J1473 n sh Ls xs k23 P a1 a2 a3 x4 z12302 else P (0 : Int32) z12302))))))) else (if v6808 = (34 : Int32) then ((vp_in (x4 + (1 : Int32)) Ls) ∧ ((vp_in (x4 + (2 : Int32)) Ls) ∧ ((oO n sh a1 7) ∧ (wX11_twin n sh a1 (xs (x4 + (1 : Int32)).toNatClampNeg) (xs (x4 + (2 : Int32)).toNatClampNeg) z (fun (r12358 : Int32) (z12359 : gS) => (oO n sh a2 8) ∧ (wX12_twin n sh a2 (xs (x4 + (1 : Int32)).toNatClampNeg) (xs (x4 + (2 : Int32)).toNatClampNeg) z12359 (fun (r12363 : Int32) (z12364 : gS) => if r12358 = r12363 then wL_law_J1473 n sh Ls xs k23 P a1 a2 a3 x4 z12364 else P (0 : Int32) z12364))))))) else (if v6808 = (35 : Int32) then ((vp_in (x4 + (1 : Int32)) Ls) ∧ ((oO n sh a1 7) ∧ (wX11_run n sh a1 (xs (x4 + (1 : Int32)).toNatClampNeg) z (fun (r12381 : Int32) (z12382 : gS) => (oO n sh a2 8) ∧ (wX12_run n sh a2 (xs (x4 + (1 : Int32)).toNatClampNeg) z12382 (fun (r12385 : Int32) (z12386 : gS) => if r12381 = r12385 then wL_law_J1473 n sh Ls xs k23 P a1 a2 a3 x4 z12386 else P (0 : Int32) z12386)))))) else (if v6808 = (36 : Int32) then ((vp_in (x4 + (1 : Int32)) Ls) ∧ ((vp_in (x4 + (2 : Int32)) Ls) ∧ ((vp_in (x4 + (3 : Int32)) Ls) ∧ ((vp_in (x4 + (4 : Int32)) Ls) ∧ (wL_rests n sh a1 (xs (x4 + (1 : Int32)).toNatClampNeg) (xs (x4 + (2 : Int32)).toNatClampNeg) (xs (x4 + (3 : Int32)).toNatClampNeg) (xs (x4 + (4 : Int32)).toNatClampNeg) a3 z (fun (r13361 : Int32) (z13362 : gS) => (oO n sh a2 8) ∧ (wX12_rests n sh a2 (xs (x4 + (1 : Int32)).toNatClampNeg) (xs (x4 + (2 : Int32)).toNatClampNeg) (xs (x4 + (3 : Int32)).toNatClampNeg) (xs (x4 + (4 : Int32)).toNatClampNeg) z13362 (fun (r13367 : Int32) (z13368 : gS) => wX12_thrown n sh a2 z13368 (fun (r13370 : Int32) (z13371 : gS) => if r13370 = r13361 then (if r13361 = 0 then ((oA n sh a3 2) ∧ ((vp_in (0 : Int32) (sh a3).2) ∧ (if (lg_cmp (gl z13371 a3 (0 : Int32).toNatClampNeg) r13367.toInt64) = 0 then wL_law_J1343 n sh Ls xs k23 P a1 a2 a3 x4 z13371 else P (0 : Int32) z13371))) else wL_law_J1343 n sh Ls xs k23 P a1 a2 a3 x4 z13371) else P (0 : Int32) z13371))))))))) else (if v6808 = (37 : Int32) then ((vp_in (x4 + (1 : Int32)) Ls) ∧ ((vp_in (x4 + (2 : Int32)) Ls) ∧ ((vp_in (x4 + (3 : Int32)) Ls) ∧ ((oO n sh a1 7) ∧ (wX11_years n sh a1 (xs (x4 + (1 : Int32)).toNatClampNeg) (xs (x4 + (2 : Int32)).toNatClampNeg) (xs (x4 + (3 : Int32)).toNatClampNeg) z (fun (r13545 : Int32) (z13546 : gS) => (oO n sh a2 8) ∧ (wX12_years n sh a2 (xs (x4 + (1 : Int32)).toNatClampNeg) (xs (x4 + (2 : Int32)).toNatClampNeg) (xs (x4 + (3 : Int32)).toNatClampNeg) z13546 (fun (r13551 : Int32) (z13552 : gS) => if r13545 = r13551 then wL_law_J1473 n sh Ls xs k23 P a1 a2 a3 x4 z13552 else P (0 : Int32) z13552)))))))) else (if v6808 = (38 : Int32) then ((vp_in (x4 + (1 : Int32)) Ls) ∧ ((vp_in (x4 + (2 : Int32)) Ls) ∧ (if (xs (x4 + (2 : Int32)).toNatClampNeg) = 0 then wL_law_J1416 n sh Ls xs k23 P a1 a2 a3 x4 (0 : Int32) (xs (x4 + (1 : Int32)).toNatClampNeg) a1 z else wL_law_J1416 n sh Ls xs k23 P a1 a2 a3 x4 (1 : Int32) (xs (x4 + (1 : Int32)).toNatClampNeg) a1 z))) else (if v6808 = (39 : Int32) then ((vp_in (x4 + (1 : Int32)) Ls) ∧ ((oO n sh a1 7) ∧ (wX11_count n sh a1 (xs (x4 + (1 : Int32)).toNatClampNeg) z (fun (r13577 : Int32) (z13578 : gS) => (oO n sh a2 8) ∧ (wX12_count n sh a2 (xs (x4 + (1 : Int32)).toNatClampNeg) z13578 (fun (r13581 : Int32) (z13582 : gS) => if r13577 = r13581 then wL_law_J1473 n sh Ls xs k23 P a1 a2 a3 x4 z13582 else P (0 : Int32) z13582)))))) else wL_law_J1473 n sh Ls xs k23 P a1 a2 a3 x4 z))))))))))))))))))))))))))))))))))))))))))
def wL_law_L23 (n : Nat) (sh : Nat → Nat × Nat) (Ls : Nat) (xs : Nat → Int32) (P : Int32 → gS → Prop) : Nat → Nat → Nat → Nat → Int32 → gS → Prop
  | 0, _, _, _, _, _ => False
  | N + 1, a1, a2, a3, x4, z => wL_law_B23 n sh Ls xs (wL_law_L23 n sh Ls xs P N) P a1 a2 a3 x4 z
set_option maxRecDepth 100000 in
set_option maxHeartbeats 4000000 in
theorem vL_law_B23 {E : gE} {n : Nat} {sh : Nat → Nat × Nat} {Ls : Nat} {xs : Nat → Int32} {P : Int32 → gS → Prop} {k23 : Nat → Nat → Nat → Int32 → gS → Prop} {a1 : Nat} {a2 : Nat} {a3 : Nat} {x4 : Int32} {z : gS} (hn : gOK E n) (hth : gThr E) (hsc : gScr E Ls xs) {u ub : Nat} (hu : u + 1 ≤ ub) (hub : ub ≤ 2400) (hk23 : ∀ (u : Nat), u ≤ ub → ∀ (a1 : Nat) (a2 : Nat) (a3 : Nat) (x4 : Int32) (z : gS), k23 a1 a2 a3 x4 z → V E gRm gyL_law 0 u 23 [(0, .ref 1000030), (1, .ref a1), (2, .ref a2), (3, .ref a3), (4, .int x4)] [] n sh z (kI n sh P)) (hf : wL_law_B23 n sh Ls xs k23 P a1 a2 a3 x4 z) : V E gRm gyL_law 0 u 23 [(0, .ref 1000030), (1, .ref a1), (2, .ref a2), (3, .ref a3), (4, .int x4)] [] n sh z (kI n sh P) := by
  unfold wL_law_B23 at hf
  refine V_iload (j := 4) dL_law_23 rfl ?_
  refine V_aload_n (j := 0) dL_law_25 rfl rfl ?_
  refine V_sln hsc dL_law_26 ?_
  refine V_bipush (v := (7 : Int32)) dL_law_27 (by decide) ?_
  refine V_isub dL_law_29 ?_
  refine V_icmp_gt (tgt := 1479) dL_law_30 (by decide) (fun h13585 => ?_) (fun h13585 => ?_)
  · have hf := it_t h13585 hf
    refine V_iconst (v := (1 : Int32)) dL_law_1479 (by decide) ?_
    exact V_ireturn dL_law_1480 rfl (by decide) (by show _ ≤ 3300; omega) (kI_of hf)
  · have hf := it_f h13585 hf
    refine V_aload_n (j := 0) dL_law_33 rfl rfl ?_
    refine V_iload (j := 4) dL_law_34 rfl ?_
    obtain ⟨h1, hf⟩ := hf
    refine V_sld hsc h1 dL_law_36 ?_
    refine V_bipush (v := (63 : Int32)) dL_law_37 (by decide) ?_
    refine V_iand dL_law_39 ?_
    refine V_nI (fun v6808 ev6808 => ?_)
    have hf := hf v6808 ev6808
    by_cases h6809 : v6808 = (0 : Int32)
    · have hf := it_t h6809 hf
      refine V_tableIn (off := 176) (tgt := 216) dL_law_40 (by rw [h6809]; decide) (by rw [h6809]; decide) (by rw [h6809]; decide) (by decide) ?_
      refine V_aload_n (j := 1) dL_law_216 rfl rfl ?_
      refine V_aload_n (j := 0) dL_law_217 rfl rfl ?_
      refine V_iload (j := 4) dL_law_218 rfl ?_
      refine V_iconst (v := (1 : Int32)) dL_law_220 (by decide) ?_
      refine V_iadd dL_law_221 ?_
      obtain ⟨h6810, hf⟩ := hf
      refine V_sld hsc h6810 dL_law_222 ?_
      refine V_i2l dL_law_223 ?_
      refine V_bipush (v := (32 : Int32)) dL_law_224 (by decide) ?_
      refine V_lshl dL_law_226 ?_
      refine V_aload_n (j := 0) dL_law_227 rfl rfl ?_
      refine V_iload (j := 4) dL_law_228 rfl ?_
      refine V_iconst (v := (2 : Int32)) dL_law_230 (by decide) ?_
      refine V_iadd dL_law_231 ?_
      obtain ⟨h9758, hf⟩ := hf
      refine V_sld hsc h9758 dL_law_232 ?_
      refine V_i2l dL_law_233 ?_
      refine V_ldc2 dL_law_234 rfl kj_L_19 ?_
      refine V_land dL_law_237 ?_
      refine V_lor dL_law_238 ?_
      refine V_aload_n (j := 0) dL_law_239 rfl rfl ?_
      refine V_iload (j := 4) dL_law_240 rfl ?_
      refine V_iconst (v := (3 : Int32)) dL_law_242 (by decide) ?_
      refine V_iadd dL_law_243 ?_
      obtain ⟨h10762, hf⟩ := hf
      refine V_sld hsc h10762 dL_law_244 ?_
      refine V_i2l dL_law_245 ?_
      refine V_bipush (v := (32 : Int32)) dL_law_246 (by decide) ?_
      refine V_lshl dL_law_248 ?_
      refine V_aload_n (j := 0) dL_law_249 rfl rfl ?_
      refine V_iload (j := 4) dL_law_250 rfl ?_
      refine V_iconst (v := (4 : Int32)) dL_law_252 (by decide) ?_
      refine V_iadd dL_law_253 ?_
      obtain ⟨h11110, hf⟩ := hf
      refine V_sld hsc h11110 dL_law_254 ?_
      refine V_i2l dL_law_255 ?_
      refine V_ldc2 dL_law_256 rfl kj_L_19 ?_
      refine V_land dL_law_259 ?_
      refine V_lor dL_law_260 ?_
      refine V_aload_n (j := 0) dL_law_261 rfl rfl ?_
      refine V_iload (j := 4) dL_law_262 rfl ?_
      refine V_iconst (v := (5 : Int32)) dL_law_264 (by decide) ?_
      refine V_iadd dL_law_265 ?_
      obtain ⟨h11234, hf⟩ := hf
      refine V_sld hsc h11234 dL_law_266 ?_
      refine V_i2l dL_law_267 ?_
      refine V_bipush (v := (32 : Int32)) dL_law_268 (by decide) ?_
      refine V_lshl dL_law_270 ?_
      refine V_aload_n (j := 0) dL_law_271 rfl rfl ?_
      refine V_iload (j := 4) dL_law_272 rfl ?_
      refine V_bipush (v := (6 : Int32)) dL_law_274 (by decide) ?_
      refine V_iadd dL_law_276 ?_
      obtain ⟨h11280, hf⟩ := hf
      refine V_sld hsc h11280 dL_law_277 ?_
      refine V_i2l dL_law_278 ?_
      refine V_ldc2 dL_law_279 rfl kj_L_19 ?_
      refine V_land dL_law_282 ?_
      refine V_lor dL_law_283 ?_
      obtain ⟨h11300, hf⟩ := hf
      refine V_cVI (ctX11_feed hn hf) gc_L_21 rfl h11300.1 ⟨_, h11300.2, by decide, rfl⟩ ⟨by decide, by decide, (by show _ ≤ 3300; omega), (by show _ ≤ 7293034; omega)⟩ (Nat.le_of_ble_eq_true rfl) dL_law_284 rfl hn (fun r11298 z11299 hf => ?_)
      refine V_aload_n (j := 2) dL_law_287 rfl rfl ?_
      refine V_aload_n (j := 0) dL_law_288 rfl rfl ?_
      refine V_iload (j := 4) dL_law_289 rfl ?_
      refine V_iconst (v := (1 : Int32)) dL_law_291 (by decide) ?_
      refine V_iadd dL_law_292 ?_
      refine V_sld hsc h6810 dL_law_293 ?_
      refine V_i2l dL_law_294 ?_
      refine V_bipush (v := (32 : Int32)) dL_law_295 (by decide) ?_
      refine V_lshl dL_law_297 ?_
      refine V_aload_n (j := 0) dL_law_298 rfl rfl ?_
      refine V_iload (j := 4) dL_law_299 rfl ?_
      refine V_iconst (v := (2 : Int32)) dL_law_301 (by decide) ?_
      refine V_iadd dL_law_302 ?_
      refine V_sld hsc h9758 dL_law_303 ?_
      refine V_i2l dL_law_304 ?_
      refine V_ldc2 dL_law_305 rfl kj_L_19 ?_
      refine V_land dL_law_308 ?_
      refine V_lor dL_law_309 ?_
      refine V_aload_n (j := 0) dL_law_310 rfl rfl ?_
      refine V_iload (j := 4) dL_law_311 rfl ?_
      refine V_iconst (v := (3 : Int32)) dL_law_313 (by decide) ?_
      refine V_iadd dL_law_314 ?_
      refine V_sld hsc h10762 dL_law_315 ?_
      refine V_i2l dL_law_316 ?_
      refine V_bipush (v := (32 : Int32)) dL_law_317 (by decide) ?_
      refine V_lshl dL_law_319 ?_
      refine V_aload_n (j := 0) dL_law_320 rfl rfl ?_
      refine V_iload (j := 4) dL_law_321 rfl ?_
      refine V_iconst (v := (4 : Int32)) dL_law_323 (by decide) ?_
      refine V_iadd dL_law_324 ?_
      refine V_sld hsc h11110 dL_law_325 ?_
      refine V_i2l dL_law_326 ?_
      refine V_ldc2 dL_law_327 rfl kj_L_19 ?_
      refine V_land dL_law_330 ?_
      refine V_lor dL_law_331 ?_
      refine V_aload_n (j := 0) dL_law_332 rfl rfl ?_
      refine V_iload (j := 4) dL_law_333 rfl ?_
      refine V_iconst (v := (5 : Int32)) dL_law_335 (by decide) ?_
      refine V_iadd dL_law_336 ?_
      refine V_sld hsc h11234 dL_law_337 ?_
      refine V_i2l dL_law_338 ?_
      refine V_bipush (v := (32 : Int32)) dL_law_339 (by decide) ?_
      refine V_lshl dL_law_341 ?_
      refine V_aload_n (j := 0) dL_law_342 rfl rfl ?_
      refine V_iload (j := 4) dL_law_343 rfl ?_
      refine V_bipush (v := (6 : Int32)) dL_law_345 (by decide) ?_
      refine V_iadd dL_law_347 ?_
      refine V_sld hsc h11280 dL_law_348 ?_
      refine V_i2l dL_law_349 ?_
      refine V_ldc2 dL_law_350 rfl kj_L_19 ?_
      refine V_land dL_law_353 ?_
      refine V_lor dL_law_354 ?_
      obtain ⟨h11309, hf⟩ := hf
      refine V_cVI (ctX12_feed hn hf) gc_L_25 rfl h11309.1 ⟨_, h11309.2, by decide, rfl⟩ ⟨by decide, by decide, (by show _ ≤ 3300; omega), (by show _ ≤ 7293034; omega)⟩ (Nat.le_of_ble_eq_true rfl) dL_law_355 rfl hn (fun r11307 z11308 hf => ?_)
      refine V_icmp_eq (tgt := 1473) dL_law_358 (by decide) (fun h11310 => ?_) (fun h11310 => ?_)
      · have hf := it_t h11310 hf
        exact vL_law_J1473 hn hth hsc (by omega) hub hk23 hf
      · have hf := it_f h11310 hf
        refine V_iconst (v := (0 : Int32)) dL_law_361 (by decide) ?_
        exact V_ireturn dL_law_362 rfl (by decide) (by show _ ≤ 3300; omega) (kI_of hf)
    · have hf := it_f h6809 hf
      by_cases h11311 : v6808 = (1 : Int32)
      · have hf := it_t h11311 hf
        refine V_tableIn (off := 323) (tgt := 363) dL_law_40 (by rw [h11311]; decide) (by rw [h11311]; decide) (by rw [h11311]; decide) (by decide) ?_
        refine V_aload_n (j := 1) dL_law_363 rfl rfl ?_
        obtain ⟨h11314, hf⟩ := hf
        refine V_cVI (ctX11_street hn hf) gc_L_26 rfl h11314.1 ⟨_, h11314.2, by decide, rfl⟩ ⟨by decide, by decide, (by show _ ≤ 3300; omega), (by show _ ≤ 7293034; omega)⟩ (Nat.le_of_ble_eq_true rfl) dL_law_364 rfl hn (fun r11312 z11313 hf => ?_)
        refine V_aload_n (j := 2) dL_law_367 rfl rfl ?_
        obtain ⟨h11317, hf⟩ := hf
        refine V_cVI (ctX12_street hn hf) gc_L_30 rfl h11317.1 ⟨_, h11317.2, by decide, rfl⟩ ⟨by decide, by decide, (by show _ ≤ 3300; omega), (by show _ ≤ 7293034; omega)⟩ (Nat.le_of_ble_eq_true rfl) dL_law_368 rfl hn (fun r11315 z11316 hf => ?_)
        refine V_icmp_eq (tgt := 1473) dL_law_371 (by decide) (fun h11318 => ?_) (fun h11318 => ?_)
        · have hf := it_t h11318 hf
          exact vL_law_J1473 hn hth hsc (by omega) hub hk23 hf
        · have hf := it_f h11318 hf
          refine V_iconst (v := (0 : Int32)) dL_law_374 (by decide) ?_
          exact V_ireturn dL_law_375 rfl (by decide) (by show _ ≤ 3300; omega) (kI_of hf)
      · have hf := it_f h11311 hf
        by_cases h11319 : v6808 = (2 : Int32)
        · have hf := it_t h11319 hf
          refine V_tableIn (off := 336) (tgt := 376) dL_law_40 (by rw [h11319]; decide) (by rw [h11319]; decide) (by rw [h11319]; decide) (by decide) ?_
          refine V_aload_n (j := 1) dL_law_376 rfl rfl ?_
          obtain ⟨h11322, hf⟩ := hf
          refine V_cVI (ctX11_day hn hf) gc_L_31 rfl h11322.1 ⟨_, h11322.2, by decide, rfl⟩ ⟨by decide, by decide, (by show _ ≤ 3300; omega), (by show _ ≤ 7293034; omega)⟩ (Nat.le_of_ble_eq_true rfl) dL_law_377 rfl hn (fun r11320 z11321 hf => ?_)
          refine V_aload_n (j := 2) dL_law_380 rfl rfl ?_
          obtain ⟨h11325, hf⟩ := hf
          refine V_cVI (ctX12_day hn hf) gc_L_34 rfl h11325.1 ⟨_, h11325.2, by decide, rfl⟩ ⟨by decide, by decide, (by show _ ≤ 3300; omega), (by show _ ≤ 7293034; omega)⟩ (Nat.le_of_ble_eq_true rfl) dL_law_381 rfl hn (fun r11323 z11324 hf => ?_)
          refine V_icmp_eq (tgt := 1473) dL_law_384 (by decide) (fun h11326 => ?_) (fun h11326 => ?_)
          · have hf := it_t h11326 hf
            exact vL_law_J1473 hn hth hsc (by omega) hub hk23 hf
          · have hf := it_f h11326 hf
            refine V_iconst (v := (0 : Int32)) dL_law_387 (by decide) ?_
            exact V_ireturn dL_law_388 rfl (by decide) (by show _ ≤ 3300; omega) (kI_of hf)
        · have hf := it_f h11319 hf
          by_cases h11327 : v6808 = (3 : Int32)
          · have hf := it_t h11327 hf
            refine V_tableIn (off := 349) (tgt := 389) dL_law_40 (by rw [h11327]; decide) (by rw [h11327]; decide) (by rw [h11327]; decide) (by decide) ?_
            refine V_aload_n (j := 1) dL_law_389 rfl rfl ?_
            refine V_aload_n (j := 0) dL_law_390 rfl rfl ?_
            refine V_iload (j := 4) dL_law_391 rfl ?_
            refine V_iconst (v := (1 : Int32)) dL_law_393 (by decide) ?_
            refine V_iadd dL_law_394 ?_
            obtain ⟨h11328, hf⟩ := hf
            refine V_sld hsc h11328 dL_law_395 ?_
            refine V_aload_n (j := 0) dL_law_396 rfl rfl ?_
            refine V_iload (j := 4) dL_law_397 rfl ?_
            refine V_iconst (v := (2 : Int32)) dL_law_399 (by decide) ?_
            refine V_iadd dL_law_400 ?_
            obtain ⟨h11366, hf⟩ := hf
            refine V_sld hsc h11366 dL_law_401 ?_
            obtain ⟨h11382, hf⟩ := hf
            refine V_cVI (ctX11_pane hn hf) gc_L_35 rfl h11382.1 ⟨_, h11382.2, by decide, rfl⟩ ⟨by decide, by decide, (by show _ ≤ 3300; omega), (by show _ ≤ 7293034; omega)⟩ (Nat.le_of_ble_eq_true rfl) dL_law_402 rfl hn (fun r11380 z11381 hf => ?_)
            refine V_aload_n (j := 2) dL_law_405 rfl rfl ?_
            refine V_aload_n (j := 0) dL_law_406 rfl rfl ?_
            refine V_iload (j := 4) dL_law_407 rfl ?_
            refine V_iconst (v := (1 : Int32)) dL_law_409 (by decide) ?_
            refine V_iadd dL_law_410 ?_
            refine V_sld hsc h11328 dL_law_411 ?_
            refine V_aload_n (j := 0) dL_law_412 rfl rfl ?_
            refine V_iload (j := 4) dL_law_413 rfl ?_
            refine V_iconst (v := (2 : Int32)) dL_law_415 (by decide) ?_
            refine V_iadd dL_law_416 ?_
            refine V_sld hsc h11366 dL_law_417 ?_
            obtain ⟨h11387, hf⟩ := hf
            refine V_cVI (ctX12_pane hn hf) gc_L_39 rfl h11387.1 ⟨_, h11387.2, by decide, rfl⟩ ⟨by decide, by decide, (by show _ ≤ 3300; omega), (by show _ ≤ 7293034; omega)⟩ (Nat.le_of_ble_eq_true rfl) dL_law_418 rfl hn (fun r11385 z11386 hf => ?_)
            refine V_icmp_eq (tgt := 1473) dL_law_421 (by decide) (fun h11388 => ?_) (fun h11388 => ?_)
            · have hf := it_t h11388 hf
              exact vL_law_J1473 hn hth hsc (by omega) hub hk23 hf
            · have hf := it_f h11388 hf
              refine V_iconst (v := (0 : Int32)) dL_law_424 (by decide) ?_
              exact V_ireturn dL_law_425 rfl (by decide) (by show _ ≤ 3300; omega) (kI_of hf)
          · have hf := it_f h11327 hf
            by_cases h11389 : v6808 = (4 : Int32)
            · have hf := it_t h11389 hf
              refine V_tableIn (off := 386) (tgt := 426) dL_law_40 (by rw [h11389]; decide) (by rw [h11389]; decide) (by rw [h11389]; decide) (by decide) ?_
              refine V_aload_n (j := 1) dL_law_426 rfl rfl ?_
              refine V_aload_n (j := 0) dL_law_427 rfl rfl ?_
              refine V_iload (j := 4) dL_law_428 rfl ?_
              refine V_iconst (v := (1 : Int32)) dL_law_430 (by decide) ?_
              refine V_iadd dL_law_431 ?_
              obtain ⟨h11390, hf⟩ := hf
              refine V_sld hsc h11390 dL_law_432 ?_
              refine V_aload_n (j := 0) dL_law_433 rfl rfl ?_
              refine V_iload (j := 4) dL_law_434 rfl ?_
              refine V_iconst (v := (2 : Int32)) dL_law_436 (by decide) ?_
              refine V_iadd dL_law_437 ?_
              obtain ⟨h11502, hf⟩ := hf
              refine V_sld hsc h11502 dL_law_438 ?_
              refine V_aload_n (j := 0) dL_law_439 rfl rfl ?_
              refine V_iload (j := 4) dL_law_440 rfl ?_
              refine V_iconst (v := (3 : Int32)) dL_law_442 (by decide) ?_
              refine V_iadd dL_law_443 ?_
              obtain ⟨h11542, hf⟩ := hf
              refine V_sld hsc h11542 dL_law_444 ?_
              obtain ⟨h11559, hf⟩ := hf
              refine V_cVI (ctX11_shown hn hf) gc_L_40 rfl h11559.1 ⟨_, h11559.2, by decide, rfl⟩ ⟨by decide, by decide, (by show _ ≤ 3300; omega), (by show _ ≤ 7293034; omega)⟩ (Nat.le_of_ble_eq_true rfl) dL_law_445 rfl hn (fun r11557 z11558 hf => ?_)
              refine V_aload_n (j := 2) dL_law_448 rfl rfl ?_
              refine V_aload_n (j := 0) dL_law_449 rfl rfl ?_
              refine V_iload (j := 4) dL_law_450 rfl ?_
              refine V_iconst (v := (1 : Int32)) dL_law_452 (by decide) ?_
              refine V_iadd dL_law_453 ?_
              refine V_sld hsc h11390 dL_law_454 ?_
              refine V_aload_n (j := 0) dL_law_455 rfl rfl ?_
              refine V_iload (j := 4) dL_law_456 rfl ?_
              refine V_iconst (v := (2 : Int32)) dL_law_458 (by decide) ?_
              refine V_iadd dL_law_459 ?_
              refine V_sld hsc h11502 dL_law_460 ?_
              refine V_aload_n (j := 0) dL_law_461 rfl rfl ?_
              refine V_iload (j := 4) dL_law_462 rfl ?_
              refine V_iconst (v := (3 : Int32)) dL_law_464 (by decide) ?_
              refine V_iadd dL_law_465 ?_
              refine V_sld hsc h11542 dL_law_466 ?_
              obtain ⟨h11565, hf⟩ := hf
              refine V_cVI (ctX12_shown hn hf) gc_L_44 rfl h11565.1 ⟨_, h11565.2, by decide, rfl⟩ ⟨by decide, by decide, (by show _ ≤ 3300; omega), (by show _ ≤ 7293034; omega)⟩ (Nat.le_of_ble_eq_true rfl) dL_law_467 rfl hn (fun r11563 z11564 hf => ?_)
              refine V_icmp_eq (tgt := 1473) dL_law_470 (by decide) (fun h11566 => ?_) (fun h11566 => ?_)
              · have hf := it_t h11566 hf
                exact vL_law_J1473 hn hth hsc (by omega) hub hk23 hf
              · have hf := it_f h11566 hf
                refine V_iconst (v := (0 : Int32)) dL_law_473 (by decide) ?_
                exact V_ireturn dL_law_474 rfl (by decide) (by show _ ≤ 3300; omega) (kI_of hf)
            · have hf := it_f h11389 hf
              by_cases h11567 : v6808 = (5 : Int32)
              · have hf := it_t h11567 hf
                refine V_tableIn (off := 435) (tgt := 475) dL_law_40 (by rw [h11567]; decide) (by rw [h11567]; decide) (by rw [h11567]; decide) (by decide) ?_
                refine V_aload_n (j := 1) dL_law_475 rfl rfl ?_
                refine V_aload_n (j := 0) dL_law_476 rfl rfl ?_
                refine V_iload (j := 4) dL_law_477 rfl ?_
                refine V_iconst (v := (1 : Int32)) dL_law_479 (by decide) ?_
                refine V_iadd dL_law_480 ?_
                obtain ⟨h11568, hf⟩ := hf
                refine V_sld hsc h11568 dL_law_481 ?_
                obtain ⟨h11583, hf⟩ := hf
                refine V_cVI (ctX11_person hn hf) gc_L_45 rfl h11583.1 ⟨_, h11583.2, by decide, rfl⟩ ⟨by decide, by decide, (by show _ ≤ 3300; omega), (by show _ ≤ 7293034; omega)⟩ (Nat.le_of_ble_eq_true rfl) dL_law_482 rfl hn (fun r11581 z11582 hf => ?_)
                refine V_aload_n (j := 2) dL_law_485 rfl rfl ?_
                refine V_aload_n (j := 0) dL_law_486 rfl rfl ?_
                refine V_iload (j := 4) dL_law_487 rfl ?_
                refine V_iconst (v := (1 : Int32)) dL_law_489 (by decide) ?_
                refine V_iadd dL_law_490 ?_
                refine V_sld hsc h11568 dL_law_491 ?_
                obtain ⟨h11587, hf⟩ := hf
                refine V_cVI (ctX12_person hn hf) gc_L_49 rfl h11587.1 ⟨_, h11587.2, by decide, rfl⟩ ⟨by decide, by decide, (by show _ ≤ 3300; omega), (by show _ ≤ 7293034; omega)⟩ (Nat.le_of_ble_eq_true rfl) dL_law_492 rfl hn (fun r11585 z11586 hf => ?_)
                refine V_icmp_eq (tgt := 1473) dL_law_495 (by decide) (fun h11588 => ?_) (fun h11588 => ?_)
                · have hf := it_t h11588 hf
                  exact vL_law_J1473 hn hth hsc (by omega) hub hk23 hf
                · have hf := it_f h11588 hf
                  refine V_iconst (v := (0 : Int32)) dL_law_498 (by decide) ?_
                  exact V_ireturn dL_law_499 rfl (by decide) (by show _ ≤ 3300; omega) (kI_of hf)
              · have hf := it_f h11567 hf
                by_cases h11589 : v6808 = (6 : Int32)
                · have hf := it_t h11589 hf
                  refine V_tableIn (off := 460) (tgt := 500) dL_law_40 (by rw [h11589]; decide) (by rw [h11589]; decide) (by rw [h11589]; decide) (by decide) ?_
                  refine V_aload_n (j := 1) dL_law_500 rfl rfl ?_
                  refine V_aload_n (j := 0) dL_law_501 rfl rfl ?_
                  refine V_iload (j := 4) dL_law_502 rfl ?_
                  refine V_iconst (v := (1 : Int32)) dL_law_504 (by decide) ?_
                  refine V_iadd dL_law_505 ?_
                  obtain ⟨h11590, hf⟩ := hf
                  refine V_sld hsc h11590 dL_law_506 ?_
                  refine V_aload_n (j := 0) dL_law_507 rfl rfl ?_
                  refine V_iload (j := 4) dL_law_508 rfl ?_
                  refine V_iconst (v := (2 : Int32)) dL_law_510 (by decide) ?_
                  refine V_iadd dL_law_511 ?_
                  obtain ⟨h11628, hf⟩ := hf
                  refine V_sld hsc h11628 dL_law_512 ?_
                  obtain ⟨h11644, hf⟩ := hf
                  refine V_cVI (ctX11_walk hn hf) gc_L_50 rfl h11644.1 ⟨_, h11644.2, by decide, rfl⟩ ⟨by decide, by decide, (by show _ ≤ 3300; omega), (by show _ ≤ 7293034; omega)⟩ (Nat.le_of_ble_eq_true rfl) dL_law_513 rfl hn (fun r11642 z11643 hf => ?_)
                  refine V_aload_n (j := 2) dL_law_516 rfl rfl ?_
                  refine V_aload_n (j := 0) dL_law_517 rfl rfl ?_
                  refine V_iload (j := 4) dL_law_518 rfl ?_
                  refine V_iconst (v := (1 : Int32)) dL_law_520 (by decide) ?_
                  refine V_iadd dL_law_521 ?_
                  refine V_sld hsc h11590 dL_law_522 ?_
                  refine V_aload_n (j := 0) dL_law_523 rfl rfl ?_
                  refine V_iload (j := 4) dL_law_524 rfl ?_
                  refine V_iconst (v := (2 : Int32)) dL_law_526 (by decide) ?_
                  refine V_iadd dL_law_527 ?_
                  refine V_sld hsc h11628 dL_law_528 ?_
                  obtain ⟨h11649, hf⟩ := hf
                  refine V_cVI (ctX12_walk hn hf) gc_L_54 rfl h11649.1 ⟨_, h11649.2, by decide, rfl⟩ ⟨by decide, by decide, (by show _ ≤ 3300; omega), (by show _ ≤ 7293034; omega)⟩ (Nat.le_of_ble_eq_true rfl) dL_law_529 rfl hn (fun r11647 z11648 hf => ?_)
                  refine V_icmp_eq (tgt := 1473) dL_law_532 (by decide) (fun h11650 => ?_) (fun h11650 => ?_)
                  · have hf := it_t h11650 hf
                    exact vL_law_J1473 hn hth hsc (by omega) hub hk23 hf
                  · have hf := it_f h11650 hf
                    refine V_iconst (v := (0 : Int32)) dL_law_535 (by decide) ?_
                    exact V_ireturn dL_law_536 rfl (by decide) (by show _ ≤ 3300; omega) (kI_of hf)
                · have hf := it_f h11589 hf
                  by_cases h11651 : v6808 = (7 : Int32)
                  · have hf := it_t h11651 hf
                    refine V_tableIn (off := 497) (tgt := 537) dL_law_40 (by rw [h11651]; decide) (by rw [h11651]; decide) (by rw [h11651]; decide) (by decide) ?_
                    refine V_aload_n (j := 1) dL_law_537 rfl rfl ?_
                    refine V_aload_n (j := 0) dL_law_538 rfl rfl ?_
                    refine V_iload (j := 4) dL_law_539 rfl ?_
                    refine V_iconst (v := (1 : Int32)) dL_law_541 (by decide) ?_
                    refine V_iadd dL_law_542 ?_
                    obtain ⟨h11652, hf⟩ := hf
                    refine V_sld hsc h11652 dL_law_543 ?_
                    refine V_aload_n (j := 0) dL_law_544 rfl rfl ?_
                    refine V_iload (j := 4) dL_law_545 rfl ?_
                    refine V_iconst (v := (2 : Int32)) dL_law_547 (by decide) ?_
                    refine V_iadd dL_law_548 ?_
                    obtain ⟨h11690, hf⟩ := hf
                    refine V_sld hsc h11690 dL_law_549 ?_
                    obtain ⟨h11706, hf⟩ := hf
                    refine V_cVI (ctX11_does hn hf) gc_L_55 rfl h11706.1 ⟨_, h11706.2, by decide, rfl⟩ ⟨by decide, by decide, (by show _ ≤ 3300; omega), (by show _ ≤ 7293034; omega)⟩ (Nat.le_of_ble_eq_true rfl) dL_law_550 rfl hn (fun r11704 z11705 hf => ?_)
                    refine V_aload_n (j := 2) dL_law_553 rfl rfl ?_
                    refine V_aload_n (j := 0) dL_law_554 rfl rfl ?_
                    refine V_iload (j := 4) dL_law_555 rfl ?_
                    refine V_iconst (v := (1 : Int32)) dL_law_557 (by decide) ?_
                    refine V_iadd dL_law_558 ?_
                    refine V_sld hsc h11652 dL_law_559 ?_
                    refine V_aload_n (j := 0) dL_law_560 rfl rfl ?_
                    refine V_iload (j := 4) dL_law_561 rfl ?_
                    refine V_iconst (v := (2 : Int32)) dL_law_563 (by decide) ?_
                    refine V_iadd dL_law_564 ?_
                    refine V_sld hsc h11690 dL_law_565 ?_
                    obtain ⟨h11711, hf⟩ := hf
                    refine V_cVI (ctX12_does_ hn hf) gc_L_58 rfl h11711.1 ⟨_, h11711.2, by decide, rfl⟩ ⟨by decide, by decide, (by show _ ≤ 3300; omega), (by show _ ≤ 7293034; omega)⟩ (Nat.le_of_ble_eq_true rfl) dL_law_566 rfl hn (fun r11709 z11710 hf => ?_)
                    refine V_icmp_eq (tgt := 1473) dL_law_569 (by decide) (fun h11712 => ?_) (fun h11712 => ?_)
                    · have hf := it_t h11712 hf
                      exact vL_law_J1473 hn hth hsc (by omega) hub hk23 hf
                    · have hf := it_f h11712 hf
                      refine V_iconst (v := (0 : Int32)) dL_law_572 (by decide) ?_
                      exact V_ireturn dL_law_573 rfl (by decide) (by show _ ≤ 3300; omega) (kI_of hf)
                  · have hf := it_f h11651 hf
                    by_cases h11713 : v6808 = (8 : Int32)
                    · have hf := it_t h11713 hf
                      refine V_tableIn (off := 534) (tgt := 574) dL_law_40 (by rw [h11713]; decide) (by rw [h11713]; decide) (by rw [h11713]; decide) (by decide) ?_
                      refine V_aload_n (j := 1) dL_law_574 rfl rfl ?_
                      refine V_aload_n (j := 0) dL_law_575 rfl rfl ?_
                      refine V_iload (j := 4) dL_law_576 rfl ?_
                      refine V_iconst (v := (1 : Int32)) dL_law_578 (by decide) ?_
                      refine V_iadd dL_law_579 ?_
                      obtain ⟨h11714, hf⟩ := hf
                      refine V_sld hsc h11714 dL_law_580 ?_
                      obtain ⟨h11729, hf⟩ := hf
                      refine V_cVI (ctX11_wash hn hf) gc_L_59 rfl h11729.1 ⟨_, h11729.2, by decide, rfl⟩ ⟨by decide, by decide, (by show _ ≤ 3300; omega), (by show _ ≤ 7293034; omega)⟩ (Nat.le_of_ble_eq_true rfl) dL_law_581 rfl hn (fun r11727 z11728 hf => ?_)
                      refine V_aload_n (j := 2) dL_law_584 rfl rfl ?_
                      refine V_aload_n (j := 0) dL_law_585 rfl rfl ?_
                      refine V_iload (j := 4) dL_law_586 rfl ?_
                      refine V_iconst (v := (1 : Int32)) dL_law_588 (by decide) ?_
                      refine V_iadd dL_law_589 ?_
                      refine V_sld hsc h11714 dL_law_590 ?_
                      obtain ⟨h11733, hf⟩ := hf
                      refine V_cVI (ctX12_wash hn hf) gc_L_62 rfl h11733.1 ⟨_, h11733.2, by decide, rfl⟩ ⟨by decide, by decide, (by show _ ≤ 3300; omega), (by show _ ≤ 7293034; omega)⟩ (Nat.le_of_ble_eq_true rfl) dL_law_591 rfl hn (fun r11731 z11732 hf => ?_)
                      refine V_icmp_eq (tgt := 1473) dL_law_594 (by decide) (fun h11734 => ?_) (fun h11734 => ?_)
                      · have hf := it_t h11734 hf
                        exact vL_law_J1473 hn hth hsc (by omega) hub hk23 hf
                      · have hf := it_f h11734 hf
                        refine V_iconst (v := (0 : Int32)) dL_law_597 (by decide) ?_
                        exact V_ireturn dL_law_598 rfl (by decide) (by show _ ≤ 3300; omega) (kI_of hf)
                    · have hf := it_f h11713 hf
                      by_cases h11735 : v6808 = (9 : Int32)
                      · have hf := it_t h11735 hf
                        refine V_tableIn (off := 559) (tgt := 599) dL_law_40 (by rw [h11735]; decide) (by rw [h11735]; decide) (by rw [h11735]; decide) (by decide) ?_
                        refine V_aload_n (j := 1) dL_law_599 rfl rfl ?_
                        refine V_aload_n (j := 0) dL_law_600 rfl rfl ?_
                        refine V_iload (j := 4) dL_law_601 rfl ?_
                        refine V_iconst (v := (1 : Int32)) dL_law_603 (by decide) ?_
                        refine V_iadd dL_law_604 ?_
                        obtain ⟨h11736, hf⟩ := hf
                        refine V_sld hsc h11736 dL_law_605 ?_
                        obtain ⟨h11751, hf⟩ := hf
                        refine V_cVI (ctX11_curtain hn hf) gc_L_63 rfl h11751.1 ⟨_, h11751.2, by decide, rfl⟩ ⟨by decide, by decide, (by show _ ≤ 3300; omega), (by show _ ≤ 7293034; omega)⟩ (Nat.le_of_ble_eq_true rfl) dL_law_606 rfl hn (fun r11749 z11750 hf => ?_)
                        refine V_aload_n (j := 2) dL_law_609 rfl rfl ?_
                        refine V_aload_n (j := 0) dL_law_610 rfl rfl ?_
                        refine V_iload (j := 4) dL_law_611 rfl ?_
                        refine V_iconst (v := (1 : Int32)) dL_law_613 (by decide) ?_
                        refine V_iadd dL_law_614 ?_
                        refine V_sld hsc h11736 dL_law_615 ?_
                        obtain ⟨h11755, hf⟩ := hf
                        refine V_cVI (ctX12_curtain hn hf) gc_L_67 rfl h11755.1 ⟨_, h11755.2, by decide, rfl⟩ ⟨by decide, by decide, (by show _ ≤ 3300; omega), (by show _ ≤ 7293034; omega)⟩ (Nat.le_of_ble_eq_true rfl) dL_law_616 rfl hn (fun r11753 z11754 hf => ?_)
                        refine V_icmp_eq (tgt := 1473) dL_law_619 (by decide) (fun h11756 => ?_) (fun h11756 => ?_)
                        · have hf := it_t h11756 hf
                          exact vL_law_J1473 hn hth hsc (by omega) hub hk23 hf
                        · have hf := it_f h11756 hf
                          refine V_iconst (v := (0 : Int32)) dL_law_622 (by decide) ?_
                          exact V_ireturn dL_law_623 rfl (by decide) (by show _ ≤ 3300; omega) (kI_of hf)
                      · have hf := it_f h11735 hf
                        by_cases h11757 : v6808 = (10 : Int32)
                        · have hf := it_t h11757 hf
                          refine V_tableIn (off := 584) (tgt := 624) dL_law_40 (by rw [h11757]; decide) (by rw [h11757]; decide) (by rw [h11757]; decide) (by decide) ?_
                          refine V_aload_n (j := 1) dL_law_624 rfl rfl ?_
                          refine V_aload_n (j := 0) dL_law_625 rfl rfl ?_
                          refine V_iload (j := 4) dL_law_626 rfl ?_
                          refine V_iconst (v := (1 : Int32)) dL_law_628 (by decide) ?_
                          refine V_iadd dL_law_629 ?_
                          obtain ⟨h11758, hf⟩ := hf
                          refine V_sld hsc h11758 dL_law_630 ?_
                          obtain ⟨h11773, hf⟩ := hf
                          refine V_cVI (ctX11_stone hn hf) gc_L_68 rfl h11773.1 ⟨_, h11773.2, by decide, rfl⟩ ⟨by decide, by decide, (by show _ ≤ 3300; omega), (by show _ ≤ 7293034; omega)⟩ (Nat.le_of_ble_eq_true rfl) dL_law_631 rfl hn (fun r11771 z11772 hf => ?_)
                          refine V_aload_n (j := 2) dL_law_634 rfl rfl ?_
                          refine V_aload_n (j := 0) dL_law_635 rfl rfl ?_
                          refine V_iload (j := 4) dL_law_636 rfl ?_
                          refine V_iconst (v := (1 : Int32)) dL_law_638 (by decide) ?_
                          refine V_iadd dL_law_639 ?_
                          refine V_sld hsc h11758 dL_law_640 ?_
                          obtain ⟨h11777, hf⟩ := hf
                          refine V_cVI (ctX12_stone hn hf) gc_L_71 rfl h11777.1 ⟨_, h11777.2, by decide, rfl⟩ ⟨by decide, by decide, (by show _ ≤ 3300; omega), (by show _ ≤ 7293034; omega)⟩ (Nat.le_of_ble_eq_true rfl) dL_law_641 rfl hn (fun r11775 z11776 hf => ?_)
                          refine V_icmp_eq (tgt := 1473) dL_law_644 (by decide) (fun h11778 => ?_) (fun h11778 => ?_)
                          · have hf := it_t h11778 hf
                            exact vL_law_J1473 hn hth hsc (by omega) hub hk23 hf
                          · have hf := it_f h11778 hf
                            refine V_iconst (v := (0 : Int32)) dL_law_647 (by decide) ?_
                            exact V_ireturn dL_law_648 rfl (by decide) (by show _ ≤ 3300; omega) (kI_of hf)
                        · have hf := it_f h11757 hf
                          by_cases h11779 : v6808 = (11 : Int32)
                          · have hf := it_t h11779 hf
                            refine V_tableIn (off := 609) (tgt := 649) dL_law_40 (by rw [h11779]; decide) (by rw [h11779]; decide) (by rw [h11779]; decide) (by decide) ?_
                            refine V_aload_n (j := 1) dL_law_649 rfl rfl ?_
                            obtain ⟨h11782, hf⟩ := hf
                            refine V_cVI (ctX11_hour hn hf) gc_L_72 rfl h11782.1 ⟨_, h11782.2, by decide, rfl⟩ ⟨by decide, by decide, (by show _ ≤ 3300; omega), (by show _ ≤ 7293034; omega)⟩ (Nat.le_of_ble_eq_true rfl) dL_law_650 rfl hn (fun r11780 z11781 hf => ?_)
                            refine V_aload_n (j := 2) dL_law_653 rfl rfl ?_
                            obtain ⟨h11785, hf⟩ := hf
                            refine V_cVI (ctX12_hour hn hf) gc_L_75 rfl h11785.1 ⟨_, h11785.2, by decide, rfl⟩ ⟨by decide, by decide, (by show _ ≤ 3300; omega), (by show _ ≤ 7293034; omega)⟩ (Nat.le_of_ble_eq_true rfl) dL_law_654 rfl hn (fun r11783 z11784 hf => ?_)
                            refine V_icmp_eq (tgt := 1473) dL_law_657 (by decide) (fun h11786 => ?_) (fun h11786 => ?_)
                            · have hf := it_t h11786 hf
                              exact vL_law_J1473 hn hth hsc (by omega) hub hk23 hf
                            · have hf := it_f h11786 hf
                              refine V_iconst (v := (0 : Int32)) dL_law_660 (by decide) ?_
                              exact V_ireturn dL_law_661 rfl (by decide) (by show _ ≤ 3300; omega) (kI_of hf)
                          · have hf := it_f h11779 hf
                            by_cases h11787 : v6808 = (12 : Int32)
                            · have hf := it_t h11787 hf
                              refine V_tableIn (off := 622) (tgt := 662) dL_law_40 (by rw [h11787]; decide) (by rw [h11787]; decide) (by rw [h11787]; decide) (by decide) ?_
                              refine V_aload_n (j := 1) dL_law_662 rfl rfl ?_
                              obtain ⟨h11790, hf⟩ := hf
                              refine V_cVI (ctX11_undo hn hf) gc_L_76 rfl h11790.1 ⟨_, h11790.2, by decide, rfl⟩ ⟨by decide, by decide, (by show _ ≤ 3300; omega), (by show _ ≤ 7293034; omega)⟩ (Nat.le_of_ble_eq_true rfl) dL_law_663 rfl hn (fun r11788 z11789 hf => ?_)
                              refine V_aload_n (j := 2) dL_law_666 rfl rfl ?_
                              obtain ⟨h11793, hf⟩ := hf
                              refine V_cVI (ctX12_undo hn hf) gc_L_80 rfl h11793.1 ⟨_, h11793.2, by decide, rfl⟩ ⟨by decide, by decide, (by show _ ≤ 3300; omega), (by show _ ≤ 7293034; omega)⟩ (Nat.le_of_ble_eq_true rfl) dL_law_667 rfl hn (fun r11791 z11792 hf => ?_)
                              refine V_icmp_eq (tgt := 1473) dL_law_670 (by decide) (fun h11794 => ?_) (fun h11794 => ?_)
                              · have hf := it_t h11794 hf
                                exact vL_law_J1473 hn hth hsc (by omega) hub hk23 hf
                              · have hf := it_f h11794 hf
                                refine V_iconst (v := (0 : Int32)) dL_law_673 (by decide) ?_
                                exact V_ireturn dL_law_674 rfl (by decide) (by show _ ≤ 3300; omega) (kI_of hf)
                            · have hf := it_f h11787 hf
                              by_cases h11795 : v6808 = (13 : Int32)
                              · have hf := it_t h11795 hf
                                refine V_tableIn (off := 635) (tgt := 675) dL_law_40 (by rw [h11795]; decide) (by rw [h11795]; decide) (by rw [h11795]; decide) (by decide) ?_
                                refine V_aload_n (j := 1) dL_law_675 rfl rfl ?_
                                refine V_aload_n (j := 0) dL_law_676 rfl rfl ?_
                                refine V_iload (j := 4) dL_law_677 rfl ?_
                                refine V_iconst (v := (1 : Int32)) dL_law_679 (by decide) ?_
                                refine V_iadd dL_law_680 ?_
                                obtain ⟨h11796, hf⟩ := hf
                                refine V_sld hsc h11796 dL_law_681 ?_
                                obtain ⟨h11811, hf⟩ := hf
                                refine V_cVI (ctX11_judged hn hf) gc_L_81 rfl h11811.1 ⟨_, h11811.2, by decide, rfl⟩ ⟨by decide, by decide, (by show _ ≤ 3300; omega), (by show _ ≤ 7293034; omega)⟩ (Nat.le_of_ble_eq_true rfl) dL_law_682 rfl hn (fun r11809 z11810 hf => ?_)
                                refine V_aload_n (j := 2) dL_law_685 rfl rfl ?_
                                refine V_aload_n (j := 0) dL_law_686 rfl rfl ?_
                                refine V_iload (j := 4) dL_law_687 rfl ?_
                                refine V_iconst (v := (1 : Int32)) dL_law_689 (by decide) ?_
                                refine V_iadd dL_law_690 ?_
                                refine V_sld hsc h11796 dL_law_691 ?_
                                obtain ⟨h11815, hf⟩ := hf
                                refine V_cVI (ctX12_judged hn hf) gc_L_84 rfl h11815.1 ⟨_, h11815.2, by decide, rfl⟩ ⟨by decide, by decide, (by show _ ≤ 3300; omega), (by show _ ≤ 7293034; omega)⟩ (Nat.le_of_ble_eq_true rfl) dL_law_692 rfl hn (fun r11813 z11814 hf => ?_)
                                refine V_icmp_eq (tgt := 1473) dL_law_695 (by decide) (fun h11816 => ?_) (fun h11816 => ?_)
                                · have hf := it_t h11816 hf
                                  exact vL_law_J1473 hn hth hsc (by omega) hub hk23 hf
                                · have hf := it_f h11816 hf
                                  refine V_iconst (v := (0 : Int32)) dL_law_698 (by decide) ?_
                                  exact V_ireturn dL_law_699 rfl (by decide) (by show _ ≤ 3300; omega) (kI_of hf)
                              · have hf := it_f h11795 hf
                                by_cases h11817 : v6808 = (14 : Int32)
                                · have hf := it_t h11817 hf
                                  refine V_tableIn (off := 660) (tgt := 700) dL_law_40 (by rw [h11817]; decide) (by rw [h11817]; decide) (by rw [h11817]; decide) (by decide) ?_
                                  refine V_aload_n (j := 1) dL_law_700 rfl rfl ?_
                                  refine V_aload_n (j := 0) dL_law_701 rfl rfl ?_
                                  refine V_iload (j := 4) dL_law_702 rfl ?_
                                  refine V_iconst (v := (1 : Int32)) dL_law_704 (by decide) ?_
                                  refine V_iadd dL_law_705 ?_
                                  obtain ⟨h11818, hf⟩ := hf
                                  refine V_sld hsc h11818 dL_law_706 ?_
                                  obtain ⟨h11833, hf⟩ := hf
                                  refine V_cVI (ctX11_shame hn hf) gc_L_85 rfl h11833.1 ⟨_, h11833.2, by decide, rfl⟩ ⟨by decide, by decide, (by show _ ≤ 3300; omega), (by show _ ≤ 7293034; omega)⟩ (Nat.le_of_ble_eq_true rfl) dL_law_707 rfl hn (fun r11831 z11832 hf => ?_)
                                  refine V_aload_n (j := 2) dL_law_710 rfl rfl ?_
                                  refine V_aload_n (j := 0) dL_law_711 rfl rfl ?_
                                  refine V_iload (j := 4) dL_law_712 rfl ?_
                                  refine V_iconst (v := (1 : Int32)) dL_law_714 (by decide) ?_
                                  refine V_iadd dL_law_715 ?_
                                  refine V_sld hsc h11818 dL_law_716 ?_
                                  obtain ⟨h11837, hf⟩ := hf
                                  refine V_cVI (ctX12_shame hn hf) gc_L_88 rfl h11837.1 ⟨_, h11837.2, by decide, rfl⟩ ⟨by decide, by decide, (by show _ ≤ 3300; omega), (by show _ ≤ 7293034; omega)⟩ (Nat.le_of_ble_eq_true rfl) dL_law_717 rfl hn (fun r11835 z11836 hf => ?_)
                                  refine V_icmp_eq (tgt := 1473) dL_law_720 (by decide) (fun h11838 => ?_) (fun h11838 => ?_)
                                  · have hf := it_t h11838 hf
                                    exact vL_law_J1473 hn hth hsc (by omega) hub hk23 hf
                                  · have hf := it_f h11838 hf
                                    refine V_iconst (v := (0 : Int32)) dL_law_723 (by decide) ?_
                                    exact V_ireturn dL_law_724 rfl (by decide) (by show _ ≤ 3300; omega) (kI_of hf)
                                · have hf := it_f h11817 hf
                                  by_cases h11839 : v6808 = (15 : Int32)
                                  · have hf := it_t h11839 hf
                                    refine V_tableIn (off := 685) (tgt := 725) dL_law_40 (by rw [h11839]; decide) (by rw [h11839]; decide) (by rw [h11839]; decide) (by decide) ?_
                                    refine V_aload_n (j := 1) dL_law_725 rfl rfl ?_
                                    obtain ⟨h11842, hf⟩ := hf
                                    refine V_cVI (ctX11_harm hn hf) gc_L_89 rfl h11842.1 ⟨_, h11842.2, by decide, rfl⟩ ⟨by decide, by decide, (by show _ ≤ 3300; omega), (by show _ ≤ 7293034; omega)⟩ (Nat.le_of_ble_eq_true rfl) dL_law_726 rfl hn (fun r11840 z11841 hf => ?_)
                                    refine V_aload_n (j := 2) dL_law_729 rfl rfl ?_
                                    obtain ⟨h11845, hf⟩ := hf
                                    refine V_cVI (ctX12_harm hn hf) gc_L_92 rfl h11845.1 ⟨_, h11845.2, by decide, rfl⟩ ⟨by decide, by decide, (by show _ ≤ 3300; omega), (by show _ ≤ 7293034; omega)⟩ (Nat.le_of_ble_eq_true rfl) dL_law_730 rfl hn (fun r11843 z11844 hf => ?_)
                                    refine V_icmp_eq (tgt := 1473) dL_law_733 (by decide) (fun h11846 => ?_) (fun h11846 => ?_)
                                    · have hf := it_t h11846 hf
                                      exact vL_law_J1473 hn hth hsc (by omega) hub hk23 hf
                                    · have hf := it_f h11846 hf
                                      refine V_iconst (v := (0 : Int32)) dL_law_736 (by decide) ?_
                                      exact V_ireturn dL_law_737 rfl (by decide) (by show _ ≤ 3300; omega) (kI_of hf)
                                  · have hf := it_f h11839 hf
                                    by_cases h11847 : v6808 = (16 : Int32)
                                    · have hf := it_t h11847 hf
                                      refine V_tableIn (off := 698) (tgt := 738) dL_law_40 (by rw [h11847]; decide) (by rw [h11847]; decide) (by rw [h11847]; decide) (by decide) ?_
                                      refine V_aload_n (j := 1) dL_law_738 rfl rfl ?_
                                      refine V_aload_n (j := 0) dL_law_739 rfl rfl ?_
                                      refine V_iload (j := 4) dL_law_740 rfl ?_
                                      refine V_iconst (v := (1 : Int32)) dL_law_742 (by decide) ?_
                                      refine V_iadd dL_law_743 ?_
                                      obtain ⟨h11848, hf⟩ := hf
                                      refine V_sld hsc h11848 dL_law_744 ?_
                                      refine V_aload_n (j := 0) dL_law_745 rfl rfl ?_
                                      refine V_iload (j := 4) dL_law_746 rfl ?_
                                      refine V_iconst (v := (2 : Int32)) dL_law_748 (by decide) ?_
                                      refine V_iadd dL_law_749 ?_
                                      obtain ⟨h11886, hf⟩ := hf
                                      refine V_sld hsc h11886 dL_law_750 ?_
                                      obtain ⟨h11902, hf⟩ := hf
                                      refine V_cVI (ctX11_hide hn hf) gc_L_93 rfl h11902.1 ⟨_, h11902.2, by decide, rfl⟩ ⟨by decide, by decide, (by show _ ≤ 3300; omega), (by show _ ≤ 7293034; omega)⟩ (Nat.le_of_ble_eq_true rfl) dL_law_751 rfl hn (fun r11900 z11901 hf => ?_)
                                      refine V_aload_n (j := 2) dL_law_754 rfl rfl ?_
                                      refine V_aload_n (j := 0) dL_law_755 rfl rfl ?_
                                      refine V_iload (j := 4) dL_law_756 rfl ?_
                                      refine V_iconst (v := (1 : Int32)) dL_law_758 (by decide) ?_
                                      refine V_iadd dL_law_759 ?_
                                      refine V_sld hsc h11848 dL_law_760 ?_
                                      refine V_aload_n (j := 0) dL_law_761 rfl rfl ?_
                                      refine V_iload (j := 4) dL_law_762 rfl ?_
                                      refine V_iconst (v := (2 : Int32)) dL_law_764 (by decide) ?_
                                      refine V_iadd dL_law_765 ?_
                                      refine V_sld hsc h11886 dL_law_766 ?_
                                      obtain ⟨h11907, hf⟩ := hf
                                      refine V_cVI (ctX12_hide hn hf) gc_L_96 rfl h11907.1 ⟨_, h11907.2, by decide, rfl⟩ ⟨by decide, by decide, (by show _ ≤ 3300; omega), (by show _ ≤ 7293034; omega)⟩ (Nat.le_of_ble_eq_true rfl) dL_law_767 rfl hn (fun r11905 z11906 hf => ?_)
                                      refine V_icmp_eq (tgt := 1473) dL_law_770 (by decide) (fun h11908 => ?_) (fun h11908 => ?_)
                                      · have hf := it_t h11908 hf
                                        exact vL_law_J1473 hn hth hsc (by omega) hub hk23 hf
                                      · have hf := it_f h11908 hf
                                        refine V_iconst (v := (0 : Int32)) dL_law_773 (by decide) ?_
                                        exact V_ireturn dL_law_774 rfl (by decide) (by show _ ≤ 3300; omega) (kI_of hf)
                                    · have hf := it_f h11847 hf
                                      by_cases h11909 : v6808 = (17 : Int32)
                                      · have hf := it_t h11909 hf
                                        refine V_tableIn (off := 735) (tgt := 775) dL_law_40 (by rw [h11909]; decide) (by rw [h11909]; decide) (by rw [h11909]; decide) (by decide) ?_
                                        refine V_aload_n (j := 1) dL_law_775 rfl rfl ?_
                                        refine V_aload_n (j := 0) dL_law_776 rfl rfl ?_
                                        refine V_iload (j := 4) dL_law_777 rfl ?_
                                        refine V_iconst (v := (1 : Int32)) dL_law_779 (by decide) ?_
                                        refine V_iadd dL_law_780 ?_
                                        obtain ⟨h11910, hf⟩ := hf
                                        refine V_sld hsc h11910 dL_law_781 ?_
                                        refine V_aload_n (j := 0) dL_law_782 rfl rfl ?_
                                        refine V_iload (j := 4) dL_law_783 rfl ?_
                                        refine V_iconst (v := (2 : Int32)) dL_law_785 (by decide) ?_
                                        refine V_iadd dL_law_786 ?_
                                        obtain ⟨h11948, hf⟩ := hf
                                        refine V_sld hsc h11948 dL_law_787 ?_
                                        obtain ⟨h11964, hf⟩ := hf
                                        refine V_cVI (ctX11_proof hn hf) gc_L_97 rfl h11964.1 ⟨_, h11964.2, by decide, rfl⟩ ⟨by decide, by decide, (by show _ ≤ 3300; omega), (by show _ ≤ 7293034; omega)⟩ (Nat.le_of_ble_eq_true rfl) dL_law_788 rfl hn (fun r11962 z11963 hf => ?_)
                                        refine V_aload_n (j := 2) dL_law_791 rfl rfl ?_
                                        refine V_aload_n (j := 0) dL_law_792 rfl rfl ?_
                                        refine V_iload (j := 4) dL_law_793 rfl ?_
                                        refine V_iconst (v := (1 : Int32)) dL_law_795 (by decide) ?_
                                        refine V_iadd dL_law_796 ?_
                                        refine V_sld hsc h11910 dL_law_797 ?_
                                        refine V_aload_n (j := 0) dL_law_798 rfl rfl ?_
                                        refine V_iload (j := 4) dL_law_799 rfl ?_
                                        refine V_iconst (v := (2 : Int32)) dL_law_801 (by decide) ?_
                                        refine V_iadd dL_law_802 ?_
                                        refine V_sld hsc h11948 dL_law_803 ?_
                                        obtain ⟨h11969, hf⟩ := hf
                                        refine V_cVI (ctX12_proof hn hf) gc_L_100 rfl h11969.1 ⟨_, h11969.2, by decide, rfl⟩ ⟨by decide, by decide, (by show _ ≤ 3300; omega), (by show _ ≤ 7293034; omega)⟩ (Nat.le_of_ble_eq_true rfl) dL_law_804 rfl hn (fun r11967 z11968 hf => ?_)
                                        refine V_icmp_eq (tgt := 1473) dL_law_807 (by decide) (fun h11970 => ?_) (fun h11970 => ?_)
                                        · have hf := it_t h11970 hf
                                          exact vL_law_J1473 hn hth hsc (by omega) hub hk23 hf
                                        · have hf := it_f h11970 hf
                                          refine V_iconst (v := (0 : Int32)) dL_law_810 (by decide) ?_
                                          exact V_ireturn dL_law_811 rfl (by decide) (by show _ ≤ 3300; omega) (kI_of hf)
                                      · have hf := it_f h11909 hf
                                        by_cases h11971 : v6808 = (18 : Int32)
                                        · have hf := it_t h11971 hf
                                          refine V_tableIn (off := 772) (tgt := 812) dL_law_40 (by rw [h11971]; decide) (by rw [h11971]; decide) (by rw [h11971]; decide) (by decide) ?_
                                          refine V_aload_n (j := 1) dL_law_812 rfl rfl ?_
                                          refine V_aload_n (j := 0) dL_law_813 rfl rfl ?_
                                          refine V_iload (j := 4) dL_law_814 rfl ?_
                                          refine V_iconst (v := (1 : Int32)) dL_law_816 (by decide) ?_
                                          refine V_iadd dL_law_817 ?_
                                          obtain ⟨h11972, hf⟩ := hf
                                          refine V_sld hsc h11972 dL_law_818 ?_
                                          refine V_aload_n (j := 0) dL_law_819 rfl rfl ?_
                                          refine V_iload (j := 4) dL_law_820 rfl ?_
                                          refine V_iconst (v := (2 : Int32)) dL_law_822 (by decide) ?_
                                          refine V_iadd dL_law_823 ?_
                                          obtain ⟨h12010, hf⟩ := hf
                                          refine V_sld hsc h12010 dL_law_824 ?_
                                          obtain ⟨h12026, hf⟩ := hf
                                          refine V_cVI (ctX11_washes hn hf) gc_L_101 rfl h12026.1 ⟨_, h12026.2, by decide, rfl⟩ ⟨by decide, by decide, (by show _ ≤ 3300; omega), (by show _ ≤ 7293034; omega)⟩ (Nat.le_of_ble_eq_true rfl) dL_law_825 rfl hn (fun r12024 z12025 hf => ?_)
                                          refine V_aload_n (j := 2) dL_law_828 rfl rfl ?_
                                          refine V_aload_n (j := 0) dL_law_829 rfl rfl ?_
                                          refine V_iload (j := 4) dL_law_830 rfl ?_
                                          refine V_iconst (v := (1 : Int32)) dL_law_832 (by decide) ?_
                                          refine V_iadd dL_law_833 ?_
                                          refine V_sld hsc h11972 dL_law_834 ?_
                                          refine V_aload_n (j := 0) dL_law_835 rfl rfl ?_
                                          refine V_iload (j := 4) dL_law_836 rfl ?_
                                          refine V_iconst (v := (2 : Int32)) dL_law_838 (by decide) ?_
                                          refine V_iadd dL_law_839 ?_
                                          refine V_sld hsc h12010 dL_law_840 ?_
                                          obtain ⟨h12031, hf⟩ := hf
                                          refine V_cVI (ctX12_washes hn hf) gc_L_104 rfl h12031.1 ⟨_, h12031.2, by decide, rfl⟩ ⟨by decide, by decide, (by show _ ≤ 3300; omega), (by show _ ≤ 7293034; omega)⟩ (Nat.le_of_ble_eq_true rfl) dL_law_841 rfl hn (fun r12029 z12030 hf => ?_)
                                          refine V_icmp_eq (tgt := 1473) dL_law_844 (by decide) (fun h12032 => ?_) (fun h12032 => ?_)
                                          · have hf := it_t h12032 hf
                                            exact vL_law_J1473 hn hth hsc (by omega) hub hk23 hf
                                          · have hf := it_f h12032 hf
                                            refine V_iconst (v := (0 : Int32)) dL_law_847 (by decide) ?_
                                            exact V_ireturn dL_law_848 rfl (by decide) (by show _ ≤ 3300; omega) (kI_of hf)
                                        · have hf := it_f h11971 hf
                                          by_cases h12033 : v6808 = (19 : Int32)
                                          · have hf := it_t h12033 hf
                                            refine V_tableIn (off := 809) (tgt := 849) dL_law_40 (by rw [h12033]; decide) (by rw [h12033]; decide) (by rw [h12033]; decide) (by decide) ?_
                                            refine V_aload_n (j := 1) dL_law_849 rfl rfl ?_
                                            refine V_aload_n (j := 0) dL_law_850 rfl rfl ?_
                                            refine V_iload (j := 4) dL_law_851 rfl ?_
                                            refine V_iconst (v := (1 : Int32)) dL_law_853 (by decide) ?_
                                            refine V_iadd dL_law_854 ?_
                                            obtain ⟨h12034, hf⟩ := hf
                                            refine V_sld hsc h12034 dL_law_855 ?_
                                            obtain ⟨h12049, hf⟩ := hf
                                            refine V_cVI (ctX11_dark hn hf) gc_L_105 rfl h12049.1 ⟨_, h12049.2, by decide, rfl⟩ ⟨by decide, by decide, (by show _ ≤ 3300; omega), (by show _ ≤ 7293034; omega)⟩ (Nat.le_of_ble_eq_true rfl) dL_law_856 rfl hn (fun r12047 z12048 hf => ?_)
                                            refine V_aload_n (j := 2) dL_law_859 rfl rfl ?_
                                            refine V_aload_n (j := 0) dL_law_860 rfl rfl ?_
                                            refine V_iload (j := 4) dL_law_861 rfl ?_
                                            refine V_iconst (v := (1 : Int32)) dL_law_863 (by decide) ?_
                                            refine V_iadd dL_law_864 ?_
                                            refine V_sld hsc h12034 dL_law_865 ?_
                                            obtain ⟨h12053, hf⟩ := hf
                                            refine V_cVI (ctX12_dark hn hf) gc_L_108 rfl h12053.1 ⟨_, h12053.2, by decide, rfl⟩ ⟨by decide, by decide, (by show _ ≤ 3300; omega), (by show _ ≤ 7293034; omega)⟩ (Nat.le_of_ble_eq_true rfl) dL_law_866 rfl hn (fun r12051 z12052 hf => ?_)
                                            refine V_icmp_eq (tgt := 1473) dL_law_869 (by decide) (fun h12054 => ?_) (fun h12054 => ?_)
                                            · have hf := it_t h12054 hf
                                              exact vL_law_J1473 hn hth hsc (by omega) hub hk23 hf
                                            · have hf := it_f h12054 hf
                                              refine V_iconst (v := (0 : Int32)) dL_law_872 (by decide) ?_
                                              exact V_ireturn dL_law_873 rfl (by decide) (by show _ ≤ 3300; omega) (kI_of hf)
                                          · have hf := it_f h12033 hf
                                            by_cases h12055 : v6808 = (20 : Int32)
                                            · have hf := it_t h12055 hf
                                              refine V_tableIn (off := 834) (tgt := 874) dL_law_40 (by rw [h12055]; decide) (by rw [h12055]; decide) (by rw [h12055]; decide) (by decide) ?_
                                              refine V_aload_n (j := 1) dL_law_874 rfl rfl ?_
                                              refine V_aload_n (j := 0) dL_law_875 rfl rfl ?_
                                              refine V_iload (j := 4) dL_law_876 rfl ?_
                                              refine V_iconst (v := (1 : Int32)) dL_law_878 (by decide) ?_
                                              refine V_iadd dL_law_879 ?_
                                              obtain ⟨h12056, hf⟩ := hf
                                              refine V_sld hsc h12056 dL_law_880 ?_
                                              refine V_aload_n (j := 0) dL_law_881 rfl rfl ?_
                                              refine V_iload (j := 4) dL_law_882 rfl ?_
                                              refine V_iconst (v := (2 : Int32)) dL_law_884 (by decide) ?_
                                              refine V_iadd dL_law_885 ?_
                                              obtain ⟨h12060, hf⟩ := hf
                                              refine V_sld hsc h12060 dL_law_886 ?_
                                              refine V_if_eq (tgt := 894) dL_law_887 (by decide) (fun h12062 => ?_) (fun h12062 => ?_)
                                              · have hf := it_t h12062 hf
                                                refine V_iconst (v := (0 : Int32)) dL_law_894 (by decide) ?_
                                                exact vL_law_J895 hn hth hsc (by omega) hub hk23 hf
                                              · have hf := it_f h12062 hf
                                                refine V_iconst (v := (1 : Int32)) dL_law_890 (by decide) ?_
                                                refine V_goto (tgt := 895) dL_law_891 (by decide) ?_
                                                exact vL_law_J895 hn hth hsc (by omega) hub hk23 hf
                                            · have hf := it_f h12055 hf
                                              by_cases h12063 : v6808 = (21 : Int32)
                                              · have hf := it_t h12063 hf
                                                refine V_tableIn (off := 887) (tgt := 927) dL_law_40 (by rw [h12063]; decide) (by rw [h12063]; decide) (by rw [h12063]; decide) (by decide) ?_
                                                refine V_aload_n (j := 1) dL_law_927 rfl rfl ?_
                                                obtain ⟨h12066, hf⟩ := hf
                                                refine V_cVI (ctX11_where hn hf) gc_L_114 rfl h12066.1 ⟨_, h12066.2, by decide, rfl⟩ ⟨by decide, by decide, (by show _ ≤ 3300; omega), (by show _ ≤ 7293034; omega)⟩ (Nat.le_of_ble_eq_true rfl) dL_law_928 rfl hn (fun r12064 z12065 hf => ?_)
                                                refine V_aload_n (j := 2) dL_law_931 rfl rfl ?_
                                                obtain ⟨h12069, hf⟩ := hf
                                                refine V_cVI (ctX12_where hn hf) gc_L_117 rfl h12069.1 ⟨_, h12069.2, by decide, rfl⟩ ⟨by decide, by decide, (by show _ ≤ 3300; omega), (by show _ ≤ 7293034; omega)⟩ (Nat.le_of_ble_eq_true rfl) dL_law_932 rfl hn (fun r12067 z12068 hf => ?_)
                                                refine V_icmp_eq (tgt := 1473) dL_law_935 (by decide) (fun h12070 => ?_) (fun h12070 => ?_)
                                                · have hf := it_t h12070 hf
                                                  exact vL_law_J1473 hn hth hsc (by omega) hub hk23 hf
                                                · have hf := it_f h12070 hf
                                                  refine V_iconst (v := (0 : Int32)) dL_law_938 (by decide) ?_
                                                  exact V_ireturn dL_law_939 rfl (by decide) (by show _ ≤ 3300; omega) (kI_of hf)
                                              · have hf := it_f h12063 hf
                                                by_cases h12071 : v6808 = (22 : Int32)
                                                · have hf := it_t h12071 hf
                                                  refine V_tableIn (off := 900) (tgt := 940) dL_law_40 (by rw [h12071]; decide) (by rw [h12071]; decide) (by rw [h12071]; decide) (by decide) ?_
                                                  refine V_aload_n (j := 1) dL_law_940 rfl rfl ?_
                                                  obtain ⟨h12074, hf⟩ := hf
                                                  refine V_cVI (ctX11_ask hn hf) gc_L_118 rfl h12074.1 ⟨_, h12074.2, by decide, rfl⟩ ⟨by decide, by decide, (by show _ ≤ 3300; omega), (by show _ ≤ 7293034; omega)⟩ (Nat.le_of_ble_eq_true rfl) dL_law_941 rfl hn (fun r12072 z12073 hf => ?_)
                                                  refine V_aload_n (j := 2) dL_law_944 rfl rfl ?_
                                                  obtain ⟨h12077, hf⟩ := hf
                                                  refine V_cVI (ctX12_ask hn hf) gc_L_121 rfl h12077.1 ⟨_, h12077.2, by decide, rfl⟩ ⟨by decide, by decide, (by show _ ≤ 3300; omega), (by show _ ≤ 7293034; omega)⟩ (Nat.le_of_ble_eq_true rfl) dL_law_945 rfl hn (fun r12075 z12076 hf => ?_)
                                                  refine V_icmp_eq (tgt := 1473) dL_law_948 (by decide) (fun h12078 => ?_) (fun h12078 => ?_)
                                                  · have hf := it_t h12078 hf
                                                    exact vL_law_J1473 hn hth hsc (by omega) hub hk23 hf
                                                  · have hf := it_f h12078 hf
                                                    refine V_iconst (v := (0 : Int32)) dL_law_951 (by decide) ?_
                                                    exact V_ireturn dL_law_952 rfl (by decide) (by show _ ≤ 3300; omega) (kI_of hf)
                                                · have hf := it_f h12071 hf
                                                  by_cases h12079 : v6808 = (23 : Int32)
                                                  · have hf := it_t h12079 hf
                                                    refine V_tableIn (off := 913) (tgt := 953) dL_law_40 (by rw [h12079]; decide) (by rw [h12079]; decide) (by rw [h12079]; decide) (by decide) ?_
                                                    refine V_aload_n (j := 1) dL_law_953 rfl rfl ?_
                                                    refine V_aload_n (j := 0) dL_law_954 rfl rfl ?_
                                                    refine V_iload (j := 4) dL_law_955 rfl ?_
                                                    refine V_iconst (v := (1 : Int32)) dL_law_957 (by decide) ?_
                                                    refine V_iadd dL_law_958 ?_
                                                    obtain ⟨h12080, hf⟩ := hf
                                                    refine V_sld hsc h12080 dL_law_959 ?_
                                                    obtain ⟨h12095, hf⟩ := hf
                                                    refine V_cVI (ctX11_memory hn hf) gc_L_122 rfl h12095.1 ⟨_, h12095.2, by decide, rfl⟩ ⟨by decide, by decide, (by show _ ≤ 3300; omega), (by show _ ≤ 7293034; omega)⟩ (Nat.le_of_ble_eq_true rfl) dL_law_960 rfl hn (fun r12093 z12094 hf => ?_)
                                                    refine V_aload_n (j := 2) dL_law_963 rfl rfl ?_
                                                    refine V_aload_n (j := 0) dL_law_964 rfl rfl ?_
                                                    refine V_iload (j := 4) dL_law_965 rfl ?_
                                                    refine V_iconst (v := (1 : Int32)) dL_law_967 (by decide) ?_
                                                    refine V_iadd dL_law_968 ?_
                                                    refine V_sld hsc h12080 dL_law_969 ?_
                                                    obtain ⟨h12099, hf⟩ := hf
                                                    refine V_cVI (ctX12_memory hn hf) gc_L_125 rfl h12099.1 ⟨_, h12099.2, by decide, rfl⟩ ⟨by decide, by decide, (by show _ ≤ 3300; omega), (by show _ ≤ 7293034; omega)⟩ (Nat.le_of_ble_eq_true rfl) dL_law_970 rfl hn (fun r12097 z12098 hf => ?_)
                                                    refine V_icmp_eq (tgt := 1473) dL_law_973 (by decide) (fun h12100 => ?_) (fun h12100 => ?_)
                                                    · have hf := it_t h12100 hf
                                                      exact vL_law_J1473 hn hth hsc (by omega) hub hk23 hf
                                                    · have hf := it_f h12100 hf
                                                      refine V_iconst (v := (0 : Int32)) dL_law_976 (by decide) ?_
                                                      exact V_ireturn dL_law_977 rfl (by decide) (by show _ ≤ 3300; omega) (kI_of hf)
                                                  · have hf := it_f h12079 hf
                                                    by_cases h12101 : v6808 = (24 : Int32)
                                                    · have hf := it_t h12101 hf
                                                      refine V_tableIn (off := 938) (tgt := 978) dL_law_40 (by rw [h12101]; decide) (by rw [h12101]; decide) (by rw [h12101]; decide) (by decide) ?_
                                                      refine V_aload_n (j := 1) dL_law_978 rfl rfl ?_
                                                      refine V_aload_n (j := 0) dL_law_979 rfl rfl ?_
                                                      refine V_iload (j := 4) dL_law_980 rfl ?_
                                                      refine V_iconst (v := (1 : Int32)) dL_law_982 (by decide) ?_
                                                      refine V_iadd dL_law_983 ?_
                                                      obtain ⟨h12102, hf⟩ := hf
                                                      refine V_sld hsc h12102 dL_law_984 ?_
                                                      obtain ⟨h12117, hf⟩ := hf
                                                      refine V_cVI (ctX11_glass hn hf) gc_L_126 rfl h12117.1 ⟨_, h12117.2, by decide, rfl⟩ ⟨by decide, by decide, (by show _ ≤ 3300; omega), (by show _ ≤ 7293034; omega)⟩ (Nat.le_of_ble_eq_true rfl) dL_law_985 rfl hn (fun r12115 z12116 hf => ?_)
                                                      refine V_aload_n (j := 2) dL_law_988 rfl rfl ?_
                                                      refine V_aload_n (j := 0) dL_law_989 rfl rfl ?_
                                                      refine V_iload (j := 4) dL_law_990 rfl ?_
                                                      refine V_iconst (v := (1 : Int32)) dL_law_992 (by decide) ?_
                                                      refine V_iadd dL_law_993 ?_
                                                      refine V_sld hsc h12102 dL_law_994 ?_
                                                      obtain ⟨h12121, hf⟩ := hf
                                                      refine V_cVI (ctX12_glass hn hf) gc_L_129 rfl h12121.1 ⟨_, h12121.2, by decide, rfl⟩ ⟨by decide, by decide, (by show _ ≤ 3300; omega), (by show _ ≤ 7293034; omega)⟩ (Nat.le_of_ble_eq_true rfl) dL_law_995 rfl hn (fun r12119 z12120 hf => ?_)
                                                      refine V_icmp_eq (tgt := 1473) dL_law_998 (by decide) (fun h12122 => ?_) (fun h12122 => ?_)
                                                      · have hf := it_t h12122 hf
                                                        exact vL_law_J1473 hn hth hsc (by omega) hub hk23 hf
                                                      · have hf := it_f h12122 hf
                                                        refine V_iconst (v := (0 : Int32)) dL_law_1001 (by decide) ?_
                                                        exact V_ireturn dL_law_1002 rfl (by decide) (by show _ ≤ 3300; omega) (kI_of hf)
                                                    · have hf := it_f h12101 hf
                                                      by_cases h12123 : v6808 = (25 : Int32)
                                                      · have hf := it_t h12123 hf
                                                        refine V_tableIn (off := 963) (tgt := 1003) dL_law_40 (by rw [h12123]; decide) (by rw [h12123]; decide) (by rw [h12123]; decide) (by decide) ?_
                                                        refine V_aload_n (j := 1) dL_law_1003 rfl rfl ?_
                                                        refine V_aload_n (j := 0) dL_law_1004 rfl rfl ?_
                                                        refine V_iload (j := 4) dL_law_1005 rfl ?_
                                                        refine V_iconst (v := (1 : Int32)) dL_law_1007 (by decide) ?_
                                                        refine V_iadd dL_law_1008 ?_
                                                        obtain ⟨h12124, hf⟩ := hf
                                                        refine V_sld hsc h12124 dL_law_1009 ?_
                                                        obtain ⟨h12139, hf⟩ := hf
                                                        refine V_cVI (ctX11_seen hn hf) gc_L_130 rfl h12139.1 ⟨_, h12139.2, by decide, rfl⟩ ⟨by decide, by decide, (by show _ ≤ 3300; omega), (by show _ ≤ 7293034; omega)⟩ (Nat.le_of_ble_eq_true rfl) dL_law_1010 rfl hn (fun r12137 z12138 hf => ?_)
                                                        refine V_aload_n (j := 2) dL_law_1013 rfl rfl ?_
                                                        refine V_aload_n (j := 0) dL_law_1014 rfl rfl ?_
                                                        refine V_iload (j := 4) dL_law_1015 rfl ?_
                                                        refine V_iconst (v := (1 : Int32)) dL_law_1017 (by decide) ?_
                                                        refine V_iadd dL_law_1018 ?_
                                                        refine V_sld hsc h12124 dL_law_1019 ?_
                                                        obtain ⟨h12143, hf⟩ := hf
                                                        refine V_cVI (ctX12_seen hn hf) gc_L_133 rfl h12143.1 ⟨_, h12143.2, by decide, rfl⟩ ⟨by decide, by decide, (by show _ ≤ 3300; omega), (by show _ ≤ 7293034; omega)⟩ (Nat.le_of_ble_eq_true rfl) dL_law_1020 rfl hn (fun r12141 z12142 hf => ?_)
                                                        refine V_icmp_eq (tgt := 1473) dL_law_1023 (by decide) (fun h12144 => ?_) (fun h12144 => ?_)
                                                        · have hf := it_t h12144 hf
                                                          exact vL_law_J1473 hn hth hsc (by omega) hub hk23 hf
                                                        · have hf := it_f h12144 hf
                                                          refine V_iconst (v := (0 : Int32)) dL_law_1026 (by decide) ?_
                                                          exact V_ireturn dL_law_1027 rfl (by decide) (by show _ ≤ 3300; omega) (kI_of hf)
                                                      · have hf := it_f h12123 hf
                                                        by_cases h12145 : v6808 = (26 : Int32)
                                                        · have hf := it_t h12145 hf
                                                          refine V_tableIn (off := 988) (tgt := 1028) dL_law_40 (by rw [h12145]; decide) (by rw [h12145]; decide) (by rw [h12145]; decide) (by decide) ?_
                                                          refine V_aload_n (j := 1) dL_law_1028 rfl rfl ?_
                                                          obtain ⟨h12148, hf⟩ := hf
                                                          refine V_cVI (ctX11_eyes hn hf) gc_L_134 rfl h12148.1 ⟨_, h12148.2, by decide, rfl⟩ ⟨by decide, by decide, (by show _ ≤ 3300; omega), (by show _ ≤ 7293034; omega)⟩ (Nat.le_of_ble_eq_true rfl) dL_law_1029 rfl hn (fun r12146 z12147 hf => ?_)
                                                          refine V_aload_n (j := 2) dL_law_1032 rfl rfl ?_
                                                          obtain ⟨h12151, hf⟩ := hf
                                                          refine V_cVI (ctX12_eyes hn hf) gc_L_137 rfl h12151.1 ⟨_, h12151.2, by decide, rfl⟩ ⟨by decide, by decide, (by show _ ≤ 3300; omega), (by show _ ≤ 7293034; omega)⟩ (Nat.le_of_ble_eq_true rfl) dL_law_1033 rfl hn (fun r12149 z12150 hf => ?_)
                                                          refine V_icmp_eq (tgt := 1473) dL_law_1036 (by decide) (fun h12152 => ?_) (fun h12152 => ?_)
                                                          · have hf := it_t h12152 hf
                                                            exact vL_law_J1473 hn hth hsc (by omega) hub hk23 hf
                                                          · have hf := it_f h12152 hf
                                                            refine V_iconst (v := (0 : Int32)) dL_law_1039 (by decide) ?_
                                                            exact V_ireturn dL_law_1040 rfl (by decide) (by show _ ≤ 3300; omega) (kI_of hf)
                                                        · have hf := it_f h12145 hf
                                                          by_cases h12153 : v6808 = (27 : Int32)
                                                          · have hf := it_t h12153 hf
                                                            refine V_tableIn (off := 1001) (tgt := 1041) dL_law_40 (by rw [h12153]; decide) (by rw [h12153]; decide) (by rw [h12153]; decide) (by decide) ?_
                                                            refine V_aload_n (j := 1) dL_law_1041 rfl rfl ?_
                                                            obtain ⟨h12156, hf⟩ := hf
                                                            refine V_cVI (ctX11_blind hn hf) gc_L_138 rfl h12156.1 ⟨_, h12156.2, by decide, rfl⟩ ⟨by decide, by decide, (by show _ ≤ 3300; omega), (by show _ ≤ 7293034; omega)⟩ (Nat.le_of_ble_eq_true rfl) dL_law_1042 rfl hn (fun r12154 z12155 hf => ?_)
                                                            refine V_aload_n (j := 2) dL_law_1045 rfl rfl ?_
                                                            obtain ⟨h12159, hf⟩ := hf
                                                            refine V_cVI (ctX12_blind hn hf) gc_L_141 rfl h12159.1 ⟨_, h12159.2, by decide, rfl⟩ ⟨by decide, by decide, (by show _ ≤ 3300; omega), (by show _ ≤ 7293034; omega)⟩ (Nat.le_of_ble_eq_true rfl) dL_law_1046 rfl hn (fun r12157 z12158 hf => ?_)
                                                            refine V_icmp_eq (tgt := 1473) dL_law_1049 (by decide) (fun h12160 => ?_) (fun h12160 => ?_)
                                                            · have hf := it_t h12160 hf
                                                              exact vL_law_J1473 hn hth hsc (by omega) hub hk23 hf
                                                            · have hf := it_f h12160 hf
                                                              refine V_iconst (v := (0 : Int32)) dL_law_1052 (by decide) ?_
                                                              exact V_ireturn dL_law_1053 rfl (by decide) (by show _ ≤ 3300; omega) (kI_of hf)
                                                          · have hf := it_f h12153 hf
                                                            by_cases h12161 : v6808 = (28 : Int32)
                                                            · have hf := it_t h12161 hf
                                                              refine V_tableIn (off := 1014) (tgt := 1054) dL_law_40 (by rw [h12161]; decide) (by rw [h12161]; decide) (by rw [h12161]; decide) (by decide) ?_
                                                              refine V_aload_n (j := 1) dL_law_1054 rfl rfl ?_
                                                              refine V_aload_n (j := 0) dL_law_1055 rfl rfl ?_
                                                              refine V_iload (j := 4) dL_law_1056 rfl ?_
                                                              refine V_iconst (v := (1 : Int32)) dL_law_1058 (by decide) ?_
                                                              refine V_iadd dL_law_1059 ?_
                                                              obtain ⟨h12162, hf⟩ := hf
                                                              refine V_sld hsc h12162 dL_law_1060 ?_
                                                              obtain ⟨h12177, hf⟩ := hf
                                                              refine V_cVI (ctX11_young hn hf) gc_L_142 rfl h12177.1 ⟨_, h12177.2, by decide, rfl⟩ ⟨by decide, by decide, (by show _ ≤ 3300; omega), (by show _ ≤ 7293034; omega)⟩ (Nat.le_of_ble_eq_true rfl) dL_law_1061 rfl hn (fun r12175 z12176 hf => ?_)
                                                              refine V_aload_n (j := 2) dL_law_1064 rfl rfl ?_
                                                              refine V_aload_n (j := 0) dL_law_1065 rfl rfl ?_
                                                              refine V_iload (j := 4) dL_law_1066 rfl ?_
                                                              refine V_iconst (v := (1 : Int32)) dL_law_1068 (by decide) ?_
                                                              refine V_iadd dL_law_1069 ?_
                                                              refine V_sld hsc h12162 dL_law_1070 ?_
                                                              obtain ⟨h12181, hf⟩ := hf
                                                              refine V_cVI (ctX12_young hn hf) gc_L_145 rfl h12181.1 ⟨_, h12181.2, by decide, rfl⟩ ⟨by decide, by decide, (by show _ ≤ 3300; omega), (by show _ ≤ 7293034; omega)⟩ (Nat.le_of_ble_eq_true rfl) dL_law_1071 rfl hn (fun r12179 z12180 hf => ?_)
                                                              refine V_icmp_eq (tgt := 1473) dL_law_1074 (by decide) (fun h12182 => ?_) (fun h12182 => ?_)
                                                              · have hf := it_t h12182 hf
                                                                exact vL_law_J1473 hn hth hsc (by omega) hub hk23 hf
                                                              · have hf := it_f h12182 hf
                                                                refine V_iconst (v := (0 : Int32)) dL_law_1077 (by decide) ?_
                                                                exact V_ireturn dL_law_1078 rfl (by decide) (by show _ ≤ 3300; omega) (kI_of hf)
                                                            · have hf := it_f h12161 hf
                                                              by_cases h12183 : v6808 = (29 : Int32)
                                                              · have hf := it_t h12183 hf
                                                                refine V_tableIn (off := 1039) (tgt := 1079) dL_law_40 (by rw [h12183]; decide) (by rw [h12183]; decide) (by rw [h12183]; decide) (by decide) ?_
                                                                refine V_aload_n (j := 1) dL_law_1079 rfl rfl ?_
                                                                refine V_aload_n (j := 0) dL_law_1080 rfl rfl ?_
                                                                refine V_iload (j := 4) dL_law_1081 rfl ?_
                                                                refine V_iconst (v := (1 : Int32)) dL_law_1083 (by decide) ?_
                                                                refine V_iadd dL_law_1084 ?_
                                                                obtain ⟨h12184, hf⟩ := hf
                                                                refine V_sld hsc h12184 dL_law_1085 ?_
                                                                obtain ⟨h12199, hf⟩ := hf
                                                                refine V_cVI (ctX11_trail hn hf) gc_L_146 rfl h12199.1 ⟨_, h12199.2, by decide, rfl⟩ ⟨by decide, by decide, (by show _ ≤ 3300; omega), (by show _ ≤ 7293034; omega)⟩ (Nat.le_of_ble_eq_true rfl) dL_law_1086 rfl hn (fun r12197 z12198 hf => ?_)
                                                                refine V_aload_n (j := 2) dL_law_1089 rfl rfl ?_
                                                                refine V_aload_n (j := 0) dL_law_1090 rfl rfl ?_
                                                                refine V_iload (j := 4) dL_law_1091 rfl ?_
                                                                refine V_iconst (v := (1 : Int32)) dL_law_1093 (by decide) ?_
                                                                refine V_iadd dL_law_1094 ?_
                                                                refine V_sld hsc h12184 dL_law_1095 ?_
                                                                obtain ⟨h12203, hf⟩ := hf
                                                                refine V_cVI (ctX12_trail hn hf) gc_L_149 rfl h12203.1 ⟨_, h12203.2, by decide, rfl⟩ ⟨by decide, by decide, (by show _ ≤ 3300; omega), (by show _ ≤ 7293034; omega)⟩ (Nat.le_of_ble_eq_true rfl) dL_law_1096 rfl hn (fun r12201 z12202 hf => ?_)
                                                                refine V_icmp_eq (tgt := 1473) dL_law_1099 (by decide) (fun h12204 => ?_) (fun h12204 => ?_)
                                                                · have hf := it_t h12204 hf
                                                                  exact vL_law_J1473 hn hth hsc (by omega) hub hk23 hf
                                                                · have hf := it_f h12204 hf
                                                                  refine V_iconst (v := (0 : Int32)) dL_law_1102 (by decide) ?_
                                                                  exact V_ireturn dL_law_1103 rfl (by decide) (by show _ ≤ 3300; omega) (kI_of hf)
                                                              · have hf := it_f h12183 hf
                                                                by_cases h12205 : v6808 = (30 : Int32)
                                                                · have hf := it_t h12205 hf
                                                                  refine V_tableIn (off := 1064) (tgt := 1104) dL_law_40 (by rw [h12205]; decide) (by rw [h12205]; decide) (by rw [h12205]; decide) (by decide) ?_
                                                                  refine V_aload_n (j := 1) dL_law_1104 rfl rfl ?_
                                                                  refine V_aload_n (j := 0) dL_law_1105 rfl rfl ?_
                                                                  refine V_iload (j := 4) dL_law_1106 rfl ?_
                                                                  refine V_iconst (v := (1 : Int32)) dL_law_1108 (by decide) ?_
                                                                  refine V_iadd dL_law_1109 ?_
                                                                  obtain ⟨h12206, hf⟩ := hf
                                                                  refine V_sld hsc h12206 dL_law_1110 ?_
                                                                  obtain ⟨h12221, hf⟩ := hf
                                                                  refine V_cVI (ctX11_last hn hf) gc_L_150 rfl h12221.1 ⟨_, h12221.2, by decide, rfl⟩ ⟨by decide, by decide, (by show _ ≤ 3300; omega), (by show _ ≤ 7293034; omega)⟩ (Nat.le_of_ble_eq_true rfl) dL_law_1111 rfl hn (fun r12219 z12220 hf => ?_)
                                                                  refine V_aload_n (j := 2) dL_law_1114 rfl rfl ?_
                                                                  refine V_aload_n (j := 0) dL_law_1115 rfl rfl ?_
                                                                  refine V_iload (j := 4) dL_law_1116 rfl ?_
                                                                  refine V_iconst (v := (1 : Int32)) dL_law_1118 (by decide) ?_
                                                                  refine V_iadd dL_law_1119 ?_
                                                                  refine V_sld hsc h12206 dL_law_1120 ?_
                                                                  obtain ⟨h12225, hf⟩ := hf
                                                                  refine V_cVI (ctX12_last hn hf) gc_L_153 rfl h12225.1 ⟨_, h12225.2, by decide, rfl⟩ ⟨by decide, by decide, (by show _ ≤ 3300; omega), (by show _ ≤ 7293034; omega)⟩ (Nat.le_of_ble_eq_true rfl) dL_law_1121 rfl hn (fun r12223 z12224 hf => ?_)
                                                                  refine V_icmp_eq (tgt := 1473) dL_law_1124 (by decide) (fun h12226 => ?_) (fun h12226 => ?_)
                                                                  · have hf := it_t h12226 hf
                                                                    exact vL_law_J1473 hn hth hsc (by omega) hub hk23 hf
                                                                  · have hf := it_f h12226 hf
                                                                    refine V_iconst (v := (0 : Int32)) dL_law_1127 (by decide) ?_
                                                                    exact V_ireturn dL_law_1128 rfl (by decide) (by show _ ≤ 3300; omega) (kI_of hf)
                                                                · have hf := it_f h12205 hf
                                                                  by_cases h12227 : v6808 = (31 : Int32)
                                                                  · have hf := it_t h12227 hf
                                                                    refine V_tableIn (off := 1089) (tgt := 1129) dL_law_40 (by rw [h12227]; decide) (by rw [h12227]; decide) (by rw [h12227]; decide) (by decide) ?_
                                                                    refine V_aload_n (j := 1) dL_law_1129 rfl rfl ?_
                                                                    obtain ⟨h12230, hf⟩ := hf
                                                                    refine V_cVI (ctX11_worst hn hf) gc_L_154 rfl h12230.1 ⟨_, h12230.2, by decide, rfl⟩ ⟨by decide, by decide, (by show _ ≤ 3300; omega), (by show _ ≤ 7293034; omega)⟩ (Nat.le_of_ble_eq_true rfl) dL_law_1130 rfl hn (fun r12228 z12229 hf => ?_)
                                                                    refine V_aload_n (j := 2) dL_law_1133 rfl rfl ?_
                                                                    obtain ⟨h12233, hf⟩ := hf
                                                                    refine V_cVI (ctX12_worst hn hf) gc_L_157 rfl h12233.1 ⟨_, h12233.2, by decide, rfl⟩ ⟨by decide, by decide, (by show _ ≤ 3300; omega), (by show _ ≤ 7293034; omega)⟩ (Nat.le_of_ble_eq_true rfl) dL_law_1134 rfl hn (fun r12231 z12232 hf => ?_)
                                                                    refine V_icmp_eq (tgt := 1473) dL_law_1137 (by decide) (fun h12234 => ?_) (fun h12234 => ?_)
                                                                    · have hf := it_t h12234 hf
                                                                      exact vL_law_J1473 hn hth hsc (by omega) hub hk23 hf
                                                                    · have hf := it_f h12234 hf
                                                                      refine V_iconst (v := (0 : Int32)) dL_law_1140 (by decide) ?_
                                                                      exact V_ireturn dL_law_1141 rfl (by decide) (by show _ ≤ 3300; omega) (kI_of hf)
                                                                  · have hf := it_f h12227 hf
                                                                    by_cases h12235 : v6808 = (32 : Int32)
                                                                    · have hf := it_t h12235 hf
                                                                      refine V_tableIn (off := 1102) (tgt := 1142) dL_law_40 (by rw [h12235]; decide) (by rw [h12235]; decide) (by rw [h12235]; decide) (by decide) ?_
                                                                      refine V_aload_n (j := 1) dL_law_1142 rfl rfl ?_
                                                                      obtain ⟨h12238, hf⟩ := hf
                                                                      refine V_cVI (ctX11_oldest hn hf) gc_L_158 rfl h12238.1 ⟨_, h12238.2, by decide, rfl⟩ ⟨by decide, by decide, (by show _ ≤ 3300; omega), (by show _ ≤ 7293034; omega)⟩ (Nat.le_of_ble_eq_true rfl) dL_law_1143 rfl hn (fun r12236 z12237 hf => ?_)
                                                                      refine V_aload_n (j := 2) dL_law_1146 rfl rfl ?_
                                                                      obtain ⟨h12241, hf⟩ := hf
                                                                      refine V_cVI (ctX12_oldest hn hf) gc_L_161 rfl h12241.1 ⟨_, h12241.2, by decide, rfl⟩ ⟨by decide, by decide, (by show _ ≤ 3300; omega), (by show _ ≤ 7293034; omega)⟩ (Nat.le_of_ble_eq_true rfl) dL_law_1147 rfl hn (fun r12239 z12240 hf => ?_)
                                                                      refine V_icmp_eq (tgt := 1473) dL_law_1150 (by decide) (fun h12242 => ?_) (fun h12242 => ?_)
                                                                      · have hf := it_t h12242 hf
                                                                        exact vL_law_J1473 hn hth hsc (by omega) hub hk23 hf
                                                                      · have hf := it_f h12242 hf
                                                                        refine V_iconst (v := (0 : Int32)) dL_law_1153 (by decide) ?_
                                                                        exact V_ireturn dL_law_1154 rfl (by decide) (by show _ ≤ 3300; omega) (kI_of hf)
                                                                    · have hf := it_f h12235 hf
                                                                      by_cases h12243 : v6808 = (33 : Int32)
                                                                      · have hf := it_t h12243 hf
                                                                        refine V_tableIn (off := 1115) (tgt := 1155) dL_law_40 (by rw [h12243]; decide) (by rw [h12243]; decide) (by rw [h12243]; decide) (by decide) ?_
                                                                        refine V_aload_n (j := 1) dL_law_1155 rfl rfl ?_
                                                                        refine V_aload_n (j := 0) dL_law_1156 rfl rfl ?_
                                                                        refine V_iload (j := 4) dL_law_1157 rfl ?_
                                                                        refine V_iconst (v := (1 : Int32)) dL_law_1159 (by decide) ?_
                                                                        refine V_iadd dL_law_1160 ?_
                                                                        obtain ⟨h12244, hf⟩ := hf
                                                                        refine V_sld hsc h12244 dL_law_1161 ?_
                                                                        refine V_aload_n (j := 0) dL_law_1162 rfl rfl ?_
                                                                        refine V_iload (j := 4) dL_law_1163 rfl ?_
                                                                        refine V_iconst (v := (2 : Int32)) dL_law_1165 (by decide) ?_
                                                                        refine V_iadd dL_law_1166 ?_
                                                                        obtain ⟨h12282, hf⟩ := hf
                                                                        refine V_sld hsc h12282 dL_law_1167 ?_
                                                                        obtain ⟨h12298, hf⟩ := hf
                                                                        refine V_cVI (ctX11_cloak hn hf) gc_L_162 rfl h12298.1 ⟨_, h12298.2, by decide, rfl⟩ ⟨by decide, by decide, (by show _ ≤ 3300; omega), (by show _ ≤ 7293034; omega)⟩ (Nat.le_of_ble_eq_true rfl) dL_law_1168 rfl hn (fun r12296 z12297 hf => ?_)
                                                                        refine V_aload_n (j := 2) dL_law_1171 rfl rfl ?_
                                                                        refine V_aload_n (j := 0) dL_law_1172 rfl rfl ?_
                                                                        refine V_iload (j := 4) dL_law_1173 rfl ?_
                                                                        refine V_iconst (v := (1 : Int32)) dL_law_1175 (by decide) ?_
                                                                        refine V_iadd dL_law_1176 ?_
                                                                        refine V_sld hsc h12244 dL_law_1177 ?_
                                                                        refine V_aload_n (j := 0) dL_law_1178 rfl rfl ?_
                                                                        refine V_iload (j := 4) dL_law_1179 rfl ?_
                                                                        refine V_iconst (v := (2 : Int32)) dL_law_1181 (by decide) ?_
                                                                        refine V_iadd dL_law_1182 ?_
                                                                        refine V_sld hsc h12282 dL_law_1183 ?_
                                                                        obtain ⟨h12303, hf⟩ := hf
                                                                        refine V_cVI (ctX12_cloak hn hf) gc_L_165 rfl h12303.1 ⟨_, h12303.2, by decide, rfl⟩ ⟨by decide, by decide, (by show _ ≤ 3300; omega), (by show _ ≤ 7293034; omega)⟩ (Nat.le_of_ble_eq_true rfl) dL_law_1184 rfl hn (fun r12301 z12302 hf => ?_)
                                                                        refine V_icmp_eq (tgt := 1473) dL_law_1187 (by decide) (fun h12304 => ?_) (fun h12304 => ?_)
                                                                        · have hf := it_t h12304 hf
                                                                          exact vL_law_J1473 hn hth hsc (by omega) hub hk23 hf
                                                                        · have hf := it_f h12304 hf
                                                                          refine V_iconst (v := (0 : Int32)) dL_law_1190 (by decide) ?_
                                                                          exact V_ireturn dL_law_1191 rfl (by decide) (by show _ ≤ 3300; omega) (kI_of hf)
                                                                      · have hf := it_f h12243 hf
                                                                        by_cases h12305 : v6808 = (34 : Int32)
                                                                        · have hf := it_t h12305 hf
                                                                          refine V_tableIn (off := 1152) (tgt := 1192) dL_law_40 (by rw [h12305]; decide) (by rw [h12305]; decide) (by rw [h12305]; decide) (by decide) ?_
                                                                          refine V_aload_n (j := 1) dL_law_1192 rfl rfl ?_
                                                                          refine V_aload_n (j := 0) dL_law_1193 rfl rfl ?_
                                                                          refine V_iload (j := 4) dL_law_1194 rfl ?_
                                                                          refine V_iconst (v := (1 : Int32)) dL_law_1196 (by decide) ?_
                                                                          refine V_iadd dL_law_1197 ?_
                                                                          obtain ⟨h12306, hf⟩ := hf
                                                                          refine V_sld hsc h12306 dL_law_1198 ?_
                                                                          refine V_aload_n (j := 0) dL_law_1199 rfl rfl ?_
                                                                          refine V_iload (j := 4) dL_law_1200 rfl ?_
                                                                          refine V_iconst (v := (2 : Int32)) dL_law_1202 (by decide) ?_
                                                                          refine V_iadd dL_law_1203 ?_
                                                                          obtain ⟨h12344, hf⟩ := hf
                                                                          refine V_sld hsc h12344 dL_law_1204 ?_
                                                                          obtain ⟨h12360, hf⟩ := hf
                                                                          refine V_cVI (ctX11_twin hn hf) gc_L_166 rfl h12360.1 ⟨_, h12360.2, by decide, rfl⟩ ⟨by decide, by decide, (by show _ ≤ 3300; omega), (by show _ ≤ 7293034; omega)⟩ (Nat.le_of_ble_eq_true rfl) dL_law_1205 rfl hn (fun r12358 z12359 hf => ?_)
                                                                          refine V_aload_n (j := 2) dL_law_1208 rfl rfl ?_
                                                                          refine V_aload_n (j := 0) dL_law_1209 rfl rfl ?_
                                                                          refine V_iload (j := 4) dL_law_1210 rfl ?_
                                                                          refine V_iconst (v := (1 : Int32)) dL_law_1212 (by decide) ?_
                                                                          refine V_iadd dL_law_1213 ?_
                                                                          refine V_sld hsc h12306 dL_law_1214 ?_
                                                                          refine V_aload_n (j := 0) dL_law_1215 rfl rfl ?_
                                                                          refine V_iload (j := 4) dL_law_1216 rfl ?_
                                                                          refine V_iconst (v := (2 : Int32)) dL_law_1218 (by decide) ?_
                                                                          refine V_iadd dL_law_1219 ?_
                                                                          refine V_sld hsc h12344 dL_law_1220 ?_
                                                                          obtain ⟨h12365, hf⟩ := hf
                                                                          refine V_cVI (ctX12_twin hn hf) gc_L_169 rfl h12365.1 ⟨_, h12365.2, by decide, rfl⟩ ⟨by decide, by decide, (by show _ ≤ 3300; omega), (by show _ ≤ 7293034; omega)⟩ (Nat.le_of_ble_eq_true rfl) dL_law_1221 rfl hn (fun r12363 z12364 hf => ?_)
                                                                          refine V_icmp_eq (tgt := 1473) dL_law_1224 (by decide) (fun h12366 => ?_) (fun h12366 => ?_)
                                                                          · have hf := it_t h12366 hf
                                                                            exact vL_law_J1473 hn hth hsc (by omega) hub hk23 hf
                                                                          · have hf := it_f h12366 hf
                                                                            refine V_iconst (v := (0 : Int32)) dL_law_1227 (by decide) ?_
                                                                            exact V_ireturn dL_law_1228 rfl (by decide) (by show _ ≤ 3300; omega) (kI_of hf)
                                                                        · have hf := it_f h12305 hf
                                                                          by_cases h12367 : v6808 = (35 : Int32)
                                                                          · have hf := it_t h12367 hf
                                                                            refine V_tableIn (off := 1189) (tgt := 1229) dL_law_40 (by rw [h12367]; decide) (by rw [h12367]; decide) (by rw [h12367]; decide) (by decide) ?_
                                                                            refine V_aload_n (j := 1) dL_law_1229 rfl rfl ?_
                                                                            refine V_aload_n (j := 0) dL_law_1230 rfl rfl ?_
                                                                            refine V_iload (j := 4) dL_law_1231 rfl ?_
                                                                            refine V_iconst (v := (1 : Int32)) dL_law_1233 (by decide) ?_
                                                                            refine V_iadd dL_law_1234 ?_
                                                                            obtain ⟨h12368, hf⟩ := hf
                                                                            refine V_sld hsc h12368 dL_law_1235 ?_
                                                                            obtain ⟨h12383, hf⟩ := hf
                                                                            refine V_cVI (ctX11_run hn hf) gc_L_170 rfl h12383.1 ⟨_, h12383.2, by decide, rfl⟩ ⟨by decide, by decide, (by show _ ≤ 3300; omega), (by show _ ≤ 7293034; omega)⟩ (Nat.le_of_ble_eq_true rfl) dL_law_1236 rfl hn (fun r12381 z12382 hf => ?_)
                                                                            refine V_aload_n (j := 2) dL_law_1239 rfl rfl ?_
                                                                            refine V_aload_n (j := 0) dL_law_1240 rfl rfl ?_
                                                                            refine V_iload (j := 4) dL_law_1241 rfl ?_
                                                                            refine V_iconst (v := (1 : Int32)) dL_law_1243 (by decide) ?_
                                                                            refine V_iadd dL_law_1244 ?_
                                                                            refine V_sld hsc h12368 dL_law_1245 ?_
                                                                            obtain ⟨h12387, hf⟩ := hf
                                                                            refine V_cVI (ctX12_run hn hf) gc_L_173 rfl h12387.1 ⟨_, h12387.2, by decide, rfl⟩ ⟨by decide, by decide, (by show _ ≤ 3300; omega), (by show _ ≤ 7293034; omega)⟩ (Nat.le_of_ble_eq_true rfl) dL_law_1246 rfl hn (fun r12385 z12386 hf => ?_)
                                                                            refine V_icmp_eq (tgt := 1473) dL_law_1249 (by decide) (fun h12388 => ?_) (fun h12388 => ?_)
                                                                            · have hf := it_t h12388 hf
                                                                              exact vL_law_J1473 hn hth hsc (by omega) hub hk23 hf
                                                                            · have hf := it_f h12388 hf
                                                                              refine V_iconst (v := (0 : Int32)) dL_law_1252 (by decide) ?_
                                                                              exact V_ireturn dL_law_1253 rfl (by decide) (by show _ ≤ 3300; omega) (kI_of hf)
                                                                          · have hf := it_f h12367 hf
                                                                            by_cases h12389 : v6808 = (36 : Int32)
                                                                            · have hf := it_t h12389 hf
                                                                              refine V_tableIn (off := 1214) (tgt := 1254) dL_law_40 (by rw [h12389]; decide) (by rw [h12389]; decide) (by rw [h12389]; decide) (by decide) ?_
                                                                              refine V_aload_n (j := 1) dL_law_1254 rfl rfl ?_
                                                                              refine V_aload_n (j := 0) dL_law_1255 rfl rfl ?_
                                                                              refine V_iload (j := 4) dL_law_1256 rfl ?_
                                                                              refine V_iconst (v := (1 : Int32)) dL_law_1258 (by decide) ?_
                                                                              refine V_iadd dL_law_1259 ?_
                                                                              obtain ⟨h12390, hf⟩ := hf
                                                                              refine V_sld hsc h12390 dL_law_1260 ?_
                                                                              refine V_aload_n (j := 0) dL_law_1261 rfl rfl ?_
                                                                              refine V_iload (j := 4) dL_law_1262 rfl ?_
                                                                              refine V_iconst (v := (2 : Int32)) dL_law_1264 (by decide) ?_
                                                                              refine V_iadd dL_law_1265 ?_
                                                                              obtain ⟨h13038, hf⟩ := hf
                                                                              refine V_sld hsc h13038 dL_law_1266 ?_
                                                                              refine V_aload_n (j := 0) dL_law_1267 rfl rfl ?_
                                                                              refine V_iload (j := 4) dL_law_1268 rfl ?_
                                                                              refine V_iconst (v := (3 : Int32)) dL_law_1270 (by decide) ?_
                                                                              refine V_iadd dL_law_1271 ?_
                                                                              obtain ⟨h13258, hf⟩ := hf
                                                                              refine V_sld hsc h13258 dL_law_1272 ?_
                                                                              refine V_aload_n (j := 0) dL_law_1273 rfl rfl ?_
                                                                              refine V_iload (j := 4) dL_law_1274 rfl ?_
                                                                              refine V_iconst (v := (4 : Int32)) dL_law_1276 (by decide) ?_
                                                                              refine V_iadd dL_law_1277 ?_
                                                                              obtain ⟨h13334, hf⟩ := hf
                                                                              refine V_sld hsc h13334 dL_law_1278 ?_
                                                                              refine V_aload_n (j := 3) dL_law_1279 rfl rfl ?_
                                                                              refine V_cSIW (ctL_rests hn hth hf) gcw_174 rfl ⟨by decide, by decide, (by show _ ≤ 3300; omega), (by show _ ≤ 7293034; omega)⟩ (Nat.le_of_ble_eq_true rfl) dL_law_1280 rfl hn (fun r13361 z13362 hf => ?_)
                                                                              refine V_istore (ls2 := [(5, .int r13361), (0, .ref 1000030), (1, .ref a1), (2, .ref a2), (3, .ref a3), (4, .int x4)]) dL_law_1283 (by decide) rfl ?_
                                                                              refine V_aload_n (j := 3) dL_law_1285 rfl rfl ?_
                                                                              refine V_aload_n (j := 1) dL_law_1286 rfl rfl ?_
                                                                              refine V_iload (j := 5) dL_law_1287 rfl ?_
                                                                              refine V_iconst (v := (1 : Int32)) dL_law_1289 (by decide) ?_
                                                                              refine V_iadd dL_law_1290 ?_
                                                                              refine V_sld hsc h12390 dL_law_1291 ?_
                                                                              refine V_aload_n (j := 1) dL_law_1292 rfl rfl ?_
                                                                              refine V_iload (j := 5) dL_law_1293 rfl ?_
                                                                              refine V_iconst (v := (2 : Int32)) dL_law_1295 (by decide) ?_
                                                                              refine V_iadd dL_law_1296 ?_
                                                                              refine V_sld hsc h13038 dL_law_1297 ?_
                                                                              refine V_aload_n (j := 1) dL_law_1298 rfl rfl ?_
                                                                              refine V_iload (j := 5) dL_law_1299 rfl ?_
                                                                              refine V_iconst (v := (3 : Int32)) dL_law_1301 (by decide) ?_
                                                                              refine V_iadd dL_law_1302 ?_
                                                                              refine V_sld hsc h13258 dL_law_1303 ?_
                                                                              refine V_aload_n (j := 1) dL_law_1304 rfl rfl ?_
                                                                              refine V_iload (j := 5) dL_law_1305 rfl ?_
                                                                              refine V_iconst (v := (4 : Int32)) dL_law_1307 (by decide) ?_
                                                                              refine V_iadd dL_law_1308 ?_
                                                                              refine V_sld hsc h13334 dL_law_1309 ?_
                                                                              obtain ⟨h13369, hf⟩ := hf
                                                                              refine V_cVI (ctX12_rests hn hf) gc_L_179 rfl h13369.1 ⟨_, h13369.2, by decide, rfl⟩ ⟨by decide, by decide, (by show _ ≤ 3300; omega), (by show _ ≤ 7293034; omega)⟩ (Nat.le_of_ble_eq_true rfl) dL_law_1310 rfl hn (fun r13367 z13368 hf => ?_)
                                                                              refine V_istore (ls2 := [(6, .int r13367), (5, .int r13361), (0, .ref 1000030), (1, .ref a1), (2, .ref a2), (3, .ref a3), (4, .int x4)]) dL_law_1313 (by decide) rfl ?_
                                                                              refine V_aload_n (j := 4) dL_law_1315 rfl rfl ?_
                                                                              refine V_cVI (ctX12_thrown hn hf) gc_L_180 rfl h13369.1 ⟨_, h13369.2, by decide, rfl⟩ ⟨by decide, by decide, (by show _ ≤ 3300; omega), (by show _ ≤ 7293034; omega)⟩ (Nat.le_of_ble_eq_true rfl) dL_law_1316 rfl hn (fun r13370 z13371 hf => ?_)
                                                                              refine V_iload (j := 1) dL_law_1319 rfl ?_
                                                                              refine V_icmp_eq (tgt := 1326) dL_law_1321 (by decide) (fun h13376 => ?_) (fun h13376 => ?_)
                                                                              · have hf := it_t h13376 hf
                                                                                refine V_iload (j := 1) dL_law_1326 rfl ?_
                                                                                refine V_if_ne (tgt := 1343) dL_law_1328 (by decide) (fun h13375 => ?_) (fun h13375 => ?_)
                                                                                · have hf := it_f h13375 hf
                                                                                  refine V_to [2, 3, 4, 5, 6] rfl ?_
                                                                                  exact vL_law_J1343 hn hth hsc (by omega) hub hk23 hf
                                                                                · have hf := it_t (Classical.not_not.mp h13375) hf
                                                                                  refine V_aload_n (j := 5) dL_law_1331 rfl rfl ?_
                                                                                  refine V_iconst (v := (0 : Int32)) dL_law_1332 (by decide) ?_
                                                                                  obtain ⟨h13372, hf⟩ := hf
                                                                                  obtain ⟨h13373, hf⟩ := hf
                                                                                  refine V_lald h13372.1 h13372.s h13373 dL_law_1333 ?_
                                                                                  refine V_iload (j := 0) dL_law_1334 rfl ?_
                                                                                  refine V_i2l dL_law_1336 ?_
                                                                                  refine V_lcmp dL_law_1337 ?_
                                                                                  refine V_if_eq (tgt := 1343) dL_law_1338 (by decide) (fun h13374 => ?_) (fun h13374 => ?_)
                                                                                  · have hf := it_t h13374 hf
                                                                                    refine V_to [2, 3, 4, 5, 6] rfl ?_
                                                                                    exact vL_law_J1343 hn hth hsc (by omega) hub hk23 hf
                                                                                  · have hf := it_f h13374 hf
                                                                                    refine V_iconst (v := (0 : Int32)) dL_law_1341 (by decide) ?_
                                                                                    exact V_ireturn dL_law_1342 rfl (by decide) (by show _ ≤ 3300; omega) (kI_of hf)
                                                                              · have hf := it_f h13376 hf
                                                                                refine V_iconst (v := (0 : Int32)) dL_law_1324 (by decide) ?_
                                                                                exact V_ireturn dL_law_1325 rfl (by decide) (by show _ ≤ 3300; omega) (kI_of hf)
                                                                            · have hf := it_f h12389 hf
                                                                              by_cases h13377 : v6808 = (37 : Int32)
                                                                              · have hf := it_t h13377 hf
                                                                                refine V_tableIn (off := 1306) (tgt := 1346) dL_law_40 (by rw [h13377]; decide) (by rw [h13377]; decide) (by rw [h13377]; decide) (by decide) ?_
                                                                                refine V_aload_n (j := 1) dL_law_1346 rfl rfl ?_
                                                                                refine V_aload_n (j := 0) dL_law_1347 rfl rfl ?_
                                                                                refine V_iload (j := 4) dL_law_1348 rfl ?_
                                                                                refine V_iconst (v := (1 : Int32)) dL_law_1350 (by decide) ?_
                                                                                refine V_iadd dL_law_1351 ?_
                                                                                obtain ⟨h13378, hf⟩ := hf
                                                                                refine V_sld hsc h13378 dL_law_1352 ?_
                                                                                refine V_aload_n (j := 0) dL_law_1353 rfl rfl ?_
                                                                                refine V_iload (j := 4) dL_law_1354 rfl ?_
                                                                                refine V_iconst (v := (2 : Int32)) dL_law_1356 (by decide) ?_
                                                                                refine V_iadd dL_law_1357 ?_
                                                                                obtain ⟨h13490, hf⟩ := hf
                                                                                refine V_sld hsc h13490 dL_law_1358 ?_
                                                                                refine V_aload_n (j := 0) dL_law_1359 rfl rfl ?_
                                                                                refine V_iload (j := 4) dL_law_1360 rfl ?_
                                                                                refine V_iconst (v := (3 : Int32)) dL_law_1362 (by decide) ?_
                                                                                refine V_iadd dL_law_1363 ?_
                                                                                obtain ⟨h13530, hf⟩ := hf
                                                                                refine V_sld hsc h13530 dL_law_1364 ?_
                                                                                obtain ⟨h13547, hf⟩ := hf
                                                                                refine V_cVI (ctX11_years hn hf) gc_L_183 rfl h13547.1 ⟨_, h13547.2, by decide, rfl⟩ ⟨by decide, by decide, (by show _ ≤ 3300; omega), (by show _ ≤ 7293034; omega)⟩ (Nat.le_of_ble_eq_true rfl) dL_law_1365 rfl hn (fun r13545 z13546 hf => ?_)
                                                                                refine V_aload_n (j := 2) dL_law_1368 rfl rfl ?_
                                                                                refine V_aload_n (j := 0) dL_law_1369 rfl rfl ?_
                                                                                refine V_iload (j := 4) dL_law_1370 rfl ?_
                                                                                refine V_iconst (v := (1 : Int32)) dL_law_1372 (by decide) ?_
                                                                                refine V_iadd dL_law_1373 ?_
                                                                                refine V_sld hsc h13378 dL_law_1374 ?_
                                                                                refine V_aload_n (j := 0) dL_law_1375 rfl rfl ?_
                                                                                refine V_iload (j := 4) dL_law_1376 rfl ?_
                                                                                refine V_iconst (v := (2 : Int32)) dL_law_1378 (by decide) ?_
                                                                                refine V_iadd dL_law_1379 ?_
                                                                                refine V_sld hsc h13490 dL_law_1380 ?_
                                                                                refine V_aload_n (j := 0) dL_law_1381 rfl rfl ?_
                                                                                refine V_iload (j := 4) dL_law_1382 rfl ?_
                                                                                refine V_iconst (v := (3 : Int32)) dL_law_1384 (by decide) ?_
                                                                                refine V_iadd dL_law_1385 ?_
                                                                                refine V_sld hsc h13530 dL_law_1386 ?_
                                                                                obtain ⟨h13553, hf⟩ := hf
                                                                                refine V_cVI (ctX12_years hn hf) gc_L_186 rfl h13553.1 ⟨_, h13553.2, by decide, rfl⟩ ⟨by decide, by decide, (by show _ ≤ 3300; omega), (by show _ ≤ 7293034; omega)⟩ (Nat.le_of_ble_eq_true rfl) dL_law_1387 rfl hn (fun r13551 z13552 hf => ?_)
                                                                                refine V_icmp_eq (tgt := 1473) dL_law_1390 (by decide) (fun h13554 => ?_) (fun h13554 => ?_)
                                                                                · have hf := it_t h13554 hf
                                                                                  exact vL_law_J1473 hn hth hsc (by omega) hub hk23 hf
                                                                                · have hf := it_f h13554 hf
                                                                                  refine V_iconst (v := (0 : Int32)) dL_law_1393 (by decide) ?_
                                                                                  exact V_ireturn dL_law_1394 rfl (by decide) (by show _ ≤ 3300; omega) (kI_of hf)
                                                                              · have hf := it_f h13377 hf
                                                                                by_cases h13555 : v6808 = (38 : Int32)
                                                                                · have hf := it_t h13555 hf
                                                                                  refine V_tableIn (off := 1355) (tgt := 1395) dL_law_40 (by rw [h13555]; decide) (by rw [h13555]; decide) (by rw [h13555]; decide) (by decide) ?_
                                                                                  refine V_aload_n (j := 1) dL_law_1395 rfl rfl ?_
                                                                                  refine V_aload_n (j := 0) dL_law_1396 rfl rfl ?_
                                                                                  refine V_iload (j := 4) dL_law_1397 rfl ?_
                                                                                  refine V_iconst (v := (1 : Int32)) dL_law_1399 (by decide) ?_
                                                                                  refine V_iadd dL_law_1400 ?_
                                                                                  obtain ⟨h13556, hf⟩ := hf
                                                                                  refine V_sld hsc h13556 dL_law_1401 ?_
                                                                                  refine V_aload_n (j := 0) dL_law_1402 rfl rfl ?_
                                                                                  refine V_iload (j := 4) dL_law_1403 rfl ?_
                                                                                  refine V_iconst (v := (2 : Int32)) dL_law_1405 (by decide) ?_
                                                                                  refine V_iadd dL_law_1406 ?_
                                                                                  obtain ⟨h13560, hf⟩ := hf
                                                                                  refine V_sld hsc h13560 dL_law_1407 ?_
                                                                                  refine V_if_eq (tgt := 1415) dL_law_1408 (by decide) (fun h13562 => ?_) (fun h13562 => ?_)
                                                                                  · have hf := it_t h13562 hf
                                                                                    refine V_iconst (v := (0 : Int32)) dL_law_1415 (by decide) ?_
                                                                                    exact vL_law_J1416 hn hth hsc (by omega) hub hk23 hf
                                                                                  · have hf := it_f h13562 hf
                                                                                    refine V_iconst (v := (1 : Int32)) dL_law_1411 (by decide) ?_
                                                                                    refine V_goto (tgt := 1416) dL_law_1412 (by decide) ?_
                                                                                    exact vL_law_J1416 hn hth hsc (by omega) hub hk23 hf
                                                                                · have hf := it_f h13555 hf
                                                                                  by_cases h13563 : v6808 = (39 : Int32)
                                                                                  · have hf := it_t h13563 hf
                                                                                    refine V_tableIn (off := 1408) (tgt := 1448) dL_law_40 (by rw [h13563]; decide) (by rw [h13563]; decide) (by rw [h13563]; decide) (by decide) ?_
                                                                                    refine V_aload_n (j := 1) dL_law_1448 rfl rfl ?_
                                                                                    refine V_aload_n (j := 0) dL_law_1449 rfl rfl ?_
                                                                                    refine V_iload (j := 4) dL_law_1450 rfl ?_
                                                                                    refine V_iconst (v := (1 : Int32)) dL_law_1452 (by decide) ?_
                                                                                    refine V_iadd dL_law_1453 ?_
                                                                                    obtain ⟨h13564, hf⟩ := hf
                                                                                    refine V_sld hsc h13564 dL_law_1454 ?_
                                                                                    obtain ⟨h13579, hf⟩ := hf
                                                                                    refine V_cVI (ctX11_count hn hf) gc_L_191 rfl h13579.1 ⟨_, h13579.2, by decide, rfl⟩ ⟨by decide, by decide, (by show _ ≤ 3300; omega), (by show _ ≤ 7293034; omega)⟩ (Nat.le_of_ble_eq_true rfl) dL_law_1455 rfl hn (fun r13577 z13578 hf => ?_)
                                                                                    refine V_aload_n (j := 2) dL_law_1458 rfl rfl ?_
                                                                                    refine V_aload_n (j := 0) dL_law_1459 rfl rfl ?_
                                                                                    refine V_iload (j := 4) dL_law_1460 rfl ?_
                                                                                    refine V_iconst (v := (1 : Int32)) dL_law_1462 (by decide) ?_
                                                                                    refine V_iadd dL_law_1463 ?_
                                                                                    refine V_sld hsc h13564 dL_law_1464 ?_
                                                                                    obtain ⟨h13583, hf⟩ := hf
                                                                                    refine V_cVI (ctX12_count hn hf) gc_L_194 rfl h13583.1 ⟨_, h13583.2, by decide, rfl⟩ ⟨by decide, by decide, (by show _ ≤ 3300; omega), (by show _ ≤ 7293034; omega)⟩ (Nat.le_of_ble_eq_true rfl) dL_law_1465 rfl hn (fun r13581 z13582 hf => ?_)
                                                                                    refine V_icmp_eq (tgt := 1473) dL_law_1468 (by decide) (fun h13584 => ?_) (fun h13584 => ?_)
                                                                                    · have hf := it_t h13584 hf
                                                                                      exact vL_law_J1473 hn hth hsc (by omega) hub hk23 hf
                                                                                    · have hf := it_f h13584 hf
                                                                                      refine V_iconst (v := (0 : Int32)) dL_law_1471 (by decide) ?_
                                                                                      exact V_ireturn dL_law_1472 rfl (by decide) (by show _ ≤ 3300; omega) (kI_of hf)
                                                                                  · have hf := it_f h13563 hf
                                                                                    refine V_tableOut (tgt := 1473) dL_law_40 (by have qh6809 := sw_ne (a := 0) h6809 (by decide); have qh11311 := sw_ne (a := 1) h11311 (by decide); have qh11319 := sw_ne (a := 2) h11319 (by decide); have qh11327 := sw_ne (a := 3) h11327 (by decide); have qh11389 := sw_ne (a := 4) h11389 (by decide); have qh11567 := sw_ne (a := 5) h11567 (by decide); have qh11589 := sw_ne (a := 6) h11589 (by decide); have qh11651 := sw_ne (a := 7) h11651 (by decide); have qh11713 := sw_ne (a := 8) h11713 (by decide); have qh11735 := sw_ne (a := 9) h11735 (by decide); have qh11757 := sw_ne (a := 10) h11757 (by decide); have qh11779 := sw_ne (a := 11) h11779 (by decide); have qh11787 := sw_ne (a := 12) h11787 (by decide); have qh11795 := sw_ne (a := 13) h11795 (by decide); have qh11817 := sw_ne (a := 14) h11817 (by decide); have qh11839 := sw_ne (a := 15) h11839 (by decide); have qh11847 := sw_ne (a := 16) h11847 (by decide); have qh11909 := sw_ne (a := 17) h11909 (by decide); have qh11971 := sw_ne (a := 18) h11971 (by decide); have qh12033 := sw_ne (a := 19) h12033 (by decide); have qh12055 := sw_ne (a := 20) h12055 (by decide); have qh12063 := sw_ne (a := 21) h12063 (by decide); have qh12071 := sw_ne (a := 22) h12071 (by decide); have qh12079 := sw_ne (a := 23) h12079 (by decide); have qh12101 := sw_ne (a := 24) h12101 (by decide); have qh12123 := sw_ne (a := 25) h12123 (by decide); have qh12145 := sw_ne (a := 26) h12145 (by decide); have qh12153 := sw_ne (a := 27) h12153 (by decide); have qh12161 := sw_ne (a := 28) h12161 (by decide); have qh12183 := sw_ne (a := 29) h12183 (by decide); have qh12205 := sw_ne (a := 30) h12205 (by decide); have qh12227 := sw_ne (a := 31) h12227 (by decide); have qh12235 := sw_ne (a := 32) h12235 (by decide); have qh12243 := sw_ne (a := 33) h12243 (by decide); have qh12305 := sw_ne (a := 34) h12305 (by decide); have qh12367 := sw_ne (a := 35) h12367 (by decide); have qh12389 := sw_ne (a := 36) h12389 (by decide); have qh13377 := sw_ne (a := 37) h13377 (by decide); have qh13555 := sw_ne (a := 38) h13555 (by decide); have qh13563 := sw_ne (a := 39) h13563 (by decide); omega) (by decide) ?_
                                                                                    exact vL_law_J1473 hn hth hsc (by omega) hub hk23 hf
theorem vL_law_L23 {E : gE} {n : Nat} {sh : Nat → Nat × Nat} {Ls : Nat} {xs : Nat → Int32} {P : Int32 → gS → Prop} (hn : gOK E n) (hth : gThr E) (hsc : gScr E Ls xs) : ∀ (N u : Nat), u + N ≤ 2400 → ∀ (a1 a2 a3 : Nat) (x4 : Int32) (z : gS), wL_law_L23 n sh Ls xs P N a1 a2 a3 x4 z → V E gRm gyL_law 0 u 23 [(0, .ref 1000030), (1, .ref a1), (2, .ref a2), (3, .ref a3), (4, .int x4)] [] n sh z (kI n sh P) := by
  intro N
  induction N with
  | zero => intro u _ a1 a2 a3 x4 z hf; exact False.elim hf
  | succ N ih => intro u hu a1 a2 a3 x4 z hf; exact vL_law_B23 hn hth hsc (u := u) (ub := u + 1) (Nat.le_refl _) (by omega) (fun u1 h1 a1 a2 a3 x4 z h => ih u1 (by omega) a1 a2 a3 x4 z h) hf
