section GV2
variable {E : gE} {R : Room} {Y : gY} {mc u pc : Nat} {ls : List (Nat × Value)} {st : List Value} {n : Nat} {sh : Nat → Nat × Nat} {z : gS} {K : gK}
theorem V_ldcw {own : String} {idx : Nat} {v : Int32} (hd : decode Y.2.1 pc = .ok (.ldc_w idx, 3)) (ho : Y.1.cls = own) (hw : Cond.constant own idx v ∈ lw_g) (k : V E R Y mc u (pc + 3) ls (.int v :: st) n sh z K) : V E R Y mc u pc ls st n sh z K := fun p e s m args below meth c H locs la Q C hQ hP hS hl hn hu => lv_ldcw C.1 C.2.1 C.2.2.2.2.2.1 (C.2.2.2.2.2.2.1 _ (ho ▸ hw)) hd (k p e s m args below meth c H locs la Q C hQ hP hS hl hn hu)
end GV2
def bz (v : Int32) : Prop := v = 0 ∨ v = 1
theorem bz.n {v : Int32} (h : bz v) : narrow .boolean (.int v) = .int v := by rcases h with rfl | rfl <;> decide
theorem bz.f {v : Int32} (h : bz v) : fits .boolean (.int v) = true := by rcases h with rfl | rfl <;> decide
