/-! ===== the small world: numbers by the address and the place ===== -/
abbrev gS : Type := (Nat → Nat → Int32) × (Nat → Nat → Int64) × (Nat → Nat → Option Nat)
def gi (z : gS) (a i : Nat) : Int32 := z.1 a i
def gl (z : gS) (a i : Nat) : Int64 := z.2.1 a i
def gr (z : gS) (a i : Nat) : Option Nat := z.2.2 a i
def si (z : gS) (a i : Nat) (v : Int32) : gS := (fun b j => if b = a ∧ j = i then v else z.1 b j, z.2)
def sl (z : gS) (a i : Nat) (v : Int64) : gS := (z.1, fun b j => if b = a ∧ j = i then v else z.2.1 b j, z.2.2)
def sr (z : gS) (a i : Nat) (v : Option Nat) : gS := (z.1, z.2.1, fun b j => if b = a ∧ j = i then v else z.2.2 b j)
def sA (z : gS) (a : Nat) (f : Nat → Int32) : gS := (fun b j => if b = a then f j else z.1 b j, z.2)
theorem gi_si (z : gS) (a i : Nat) (v : Int32) (b j : Nat) : gi (si z a i v) b j = if b = a ∧ j = i then v else gi z b j := rfl
theorem gi_sl (z : gS) (a i : Nat) (v : Int64) (b j : Nat) : gi (sl z a i v) b j = gi z b j := rfl
theorem gi_sr (z : gS) (a i : Nat) (v : Option Nat) (b j : Nat) : gi (sr z a i v) b j = gi z b j := rfl
theorem gi_sA (z : gS) (a : Nat) (f : Nat → Int32) (b j : Nat) : gi (sA z a f) b j = if b = a then f j else gi z b j := rfl
theorem gl_si (z : gS) (a i : Nat) (v : Int32) (b j : Nat) : gl (si z a i v) b j = gl z b j := rfl
theorem gl_sl (z : gS) (a i : Nat) (v : Int64) (b j : Nat) : gl (sl z a i v) b j = if b = a ∧ j = i then v else gl z b j := rfl
theorem gl_sr (z : gS) (a i : Nat) (v : Option Nat) (b j : Nat) : gl (sr z a i v) b j = gl z b j := rfl
theorem gl_sA (z : gS) (a : Nat) (f : Nat → Int32) (b j : Nat) : gl (sA z a f) b j = gl z b j := rfl
theorem gr_si (z : gS) (a i : Nat) (v : Int32) (b j : Nat) : gr (si z a i v) b j = gr z b j := rfl
theorem gr_sl (z : gS) (a i : Nat) (v : Int64) (b j : Nat) : gr (sl z a i v) b j = gr z b j := rfl
theorem gr_sr (z : gS) (a i : Nat) (v : Option Nat) (b j : Nat) : gr (sr z a i v) b j = if b = a ∧ j = i then v else gr z b j := rfl
theorem gr_sA (z : gS) (a : Nat) (f : Nat → Int32) (b j : Nat) : gr (sA z a f) b j = gr z b j := rfl
/-- the kinds of a class's fields: 0 a number or a truth, 1 a long, 2 a reference -/
def gFk : Nat → List Nat
  | 0 => [2, 2, 2, 0, 0, 0]
  | 1 => [1, 0, 0]
  | 2 => [2, 0, 0]
  | 3 => [2, 2, 0]
  | 4 => [2, 2, 2, 2, 2, 2, 2, 2, 2, 2, 0, 0, 0, 0]
  | 5 => [2, 0, 0, 0, 0, 0, 1, 0, 0]
  | 6 => [0, 0, 0, 0, 0, 2, 2, 2]
  | 7 => [2, 2, 2, 2, 2, 2, 0, 2, 2, 2, 2]
  | 8 => [0, 2, 0, 0, 2, 2, 2, 0, 0, 2, 2, 2, 2, 0, 2, 2, 2, 2, 0, 0, 0, 2, 2, 2, 2, 0, 2, 0, 1, 0, 0]
  | _ => []
/-- base, far addresses, classes of arrays, classes and slots -/
abbrev gG : Type := Nat × (Nat → Nat) × (Nat → ClassId) × (Nat → ClassId) × (Nat → Nat → Nat)
def rA (G : gG) (k : Nat) : Nat := if k < 1000000 then G.1 + k else G.2.1 k
def ev (G : gG) : Value → Value
  | .ref k => .ref (rA G k)
  | v => v
def evl (G : gG) (q : Nat × Value) : Nat × Value := (q.1, ev G q.2)
def fv (G : gG) (z : gS) (a j kd : Nat) : Value := if kd = 0 then .int (gi z a j) else if kd = 1 then .long (gl z a j) else va_rf ((gr z a j).map (rA G))
def ent (G : gG) (sh : Nat → Nat × Nat) (z : gS) (a : Nat) : va_E :=
  if (sh a).1 = 0 then .inr ((sh a).2, (gFk (sh a).2).mapIdx (fun j kd => fv G z a j kd))
  else if (sh a).1 = 1 then .inl (G.2.2.1 1, (sh a).2, .inl (gi z a))
  else if (sh a).1 = 2 then .inl (G.2.2.1 2, (sh a).2, .inr (.inl (gl z a)))
  else if (sh a).1 = 3 then .inl (G.2.2.1 3, (sh a).2, .inl (gi z a))
  else if (sh a).1 = 4 then .inl (G.2.2.1 4, (sh a).2, .inl (gi z a))
  else .inl (G.2.2.1 5, (sh a).2, .inr (.inr (.inr (.inr (fun i => (gr z a i).map (rA G))))))
def wd (G : gG) (n : Nat) (sh : Nat → Nat × Nat) (z : gS) : va_W := (List.range n).map (fun k => (G.1 + k, ent G sh z k))
abbrev gD (G : gG) : va_G := (G.2.2.2.1, G.2.2.2.2)
abbrev gty (G : gG) : List (ClassId × FieldType) := [(G.2.2.1 0, .byte), (G.2.2.1 1, .int), (G.2.2.1 2, .long), (G.2.2.1 3, .char), (G.2.2.1 4, .boolean), (G.2.2.1 5, .object "GlassStreet$World")]
abbrev gA (G : gG) : Nat → Prop := fun q => G.1 ≤ q
theorem wd_at {G : gG} {n : Nat} {sh : Nat → Nat × Nat} {z : gS} {a : Nat} (h : a < n) : (wd G n sh z)[a]? = some (G.1 + a, ent G sh z a) := by simp [wd, h]
theorem wd_in {G : gG} {n : Nat} {sh : Nat → Nat × Nat} {z : gS} {i : Nat} {q : Nat × va_E} (h : (wd G n sh z)[i]? = some q) : i < n ∧ q = (G.1 + i, ent G sh z i) := by
  have hl : i < n := by
    have := (List.getElem?_eq_some_iff.mp h).1
    simpa [wd] using this
  rw [wd_at hl] at h
  exact ⟨hl, (Option.some.inj h).symm⟩
theorem wd_D {G : gG} {n : Nat} {sh : Nat → Nat × Nat} {z : gS} : va_D (gA G) (wd G n sh z) := by
  refine ⟨fun i j p q hp hq h => ?_, fun k q hq => ?_⟩
  · obtain ⟨-, rfl⟩ := wd_in hp
    obtain ⟨-, rfl⟩ := wd_in hq
    dsimp only at h
    omega
  · obtain ⟨-, rfl⟩ := wd_in hq
    exact Nat.le_add_right _ _
theorem wd_set {G : gG} {n : Nat} {sh : Nat → Nat × Nat} {z z' : gS} {a : Nat} {e : va_E} (h : a < n) (h1 : ent G sh z' a = e) (h2 : ∀ b, b ≠ a → ent G sh z' b = ent G sh z b) : (wd G n sh z).set a (G.1 + a, e) = wd G n sh z' := by
  apply List.ext_getElem?
  intro i
  rw [List.getElem?_set]
  by_cases hi : a = i
  · subst hi
    rw [if_pos rfl, wd_at h, if_pos (by simpa [wd] using h), h1]
  · rw [if_neg hi]
    by_cases hl : i < n
    · rw [wd_at hl, wd_at hl, h2 i (fun x => hi x.symm)]
    · rw [List.getElem?_eq_none (by simp [wd]; omega), List.getElem?_eq_none (by simp [wd]; omega)]
theorem ent_ne_si {G : gG} {sh : Nat → Nat × Nat} {z : gS} {a k : Nat} {v : Int32} : ∀ b, b ≠ a → ent G sh (si z a k v) b = ent G sh z b := by
  intro b hb
  have e1 : gi (si z a k v) b = gi z b := by funext j; simp [gi_si, hb]
  have e3 : ∀ j kd, fv G (si z a k v) b j kd = fv G z b j kd := by intro j kd; simp only [fv, gl_si, gr_si]; rw [e1]
  unfold ent
  simp only [e1, e3]
  rfl
theorem ent_ne_sl {G : gG} {sh : Nat → Nat × Nat} {z : gS} {a k : Nat} {v : Int64} : ∀ b, b ≠ a → ent G sh (sl z a k v) b = ent G sh z b := by
  intro b hb
  have e1 : gl (sl z a k v) b = gl z b := by funext j; simp [gl_sl, hb]
  have e3 : ∀ j kd, fv G (sl z a k v) b j kd = fv G z b j kd := by intro j kd; simp only [fv, gi_sl, gr_sl]; rw [e1]
  unfold ent
  simp only [e1, e3]
  rfl
theorem ent_ne_sr {G : gG} {sh : Nat → Nat × Nat} {z : gS} {a k : Nat} {v : Option Nat} : ∀ b, b ≠ a → ent G sh (sr z a k v) b = ent G sh z b := by
  intro b hb
  have e1 : gr (sr z a k v) b = gr z b := by funext j; simp [gr_sr, hb]
  have e3 : ∀ j kd, fv G (sr z a k v) b j kd = fv G z b j kd := by intro j kd; simp only [fv, gi_sr, gl_sr]; rw [e1]
  unfold ent
  simp only [e1, e3]
  rfl
theorem ent_ne_sA {G : gG} {sh : Nat → Nat × Nat} {z : gS} {a : Nat} {f : Nat → Int32} : ∀ b, b ≠ a → ent G sh (sA z a f) b = ent G sh z b := by
  intro b hb
  have e1 : gi (sA z a f) b = gi z b := by funext j; simp [gi_sA, hb]
  have e3 : ∀ j kd, fv G (sA z a f) b j kd = fv G z b j kd := by intro j kd; simp only [fv, gl_sA, gr_sA]; rw [e1]
  unfold ent
  simp only [e1, e3]
  rfl
theorem ent_o {G : gG} {sh : Nat → Nat × Nat} {z : gS} {a ci : Nat} (h : sh a = (0, ci)) : ent G sh z a = .inr (ci, (gFk ci).mapIdx (fun j kd => fv G z a j kd)) := by simp [ent, h]
theorem ent_1 {G : gG} {sh : Nat → Nat × Nat} {z : gS} {a n : Nat} (h : sh a = (1, n)) : ent G sh z a = .inl (G.2.2.1 1, n, .inl (gi z a)) := by simp [ent, h]
theorem ent_2 {G : gG} {sh : Nat → Nat × Nat} {z : gS} {a n : Nat} (h : sh a = (2, n)) : ent G sh z a = .inl (G.2.2.1 2, n, .inr (.inl (gl z a))) := by simp [ent, h]
theorem ent_3 {G : gG} {sh : Nat → Nat × Nat} {z : gS} {a n : Nat} (h : sh a = (3, n)) : ent G sh z a = .inl (G.2.2.1 3, n, .inl (gi z a)) := by simp [ent, h]
theorem ent_4 {G : gG} {sh : Nat → Nat × Nat} {z : gS} {a n : Nat} (h : sh a = (4, n)) : ent G sh z a = .inl (G.2.2.1 4, n, .inl (gi z a)) := by simp [ent, h]
theorem ent_5 {G : gG} {sh : Nat → Nat × Nat} {z : gS} {a n : Nat} (h : sh a = (5, n)) : ent G sh z a = .inl (G.2.2.1 5, n, .inr (.inr (.inr (.inr (fun i => (gr z a i).map (rA G)))))) := by simp [ent, h]
theorem fs_get {G : gG} {z : gS} {a ci k kd : Nat} (h : (gFk ci)[k]? = some kd) : ((gFk ci).mapIdx (fun j kd => fv G z a j kd))[k]? = some (fv G z a k kd) := by simp [List.getElem?_mapIdx, h]
theorem fs_set {G : gG} {z z' : gS} {a ci k kd : Nat} {v : Value} (h : (gFk ci)[k]? = some kd) (h1 : fv G z' a k kd = v) (h2 : ∀ j kd, j ≠ k → fv G z' a j kd = fv G z a j kd) : (gFk ci).mapIdx (fun j kd => fv G z' a j kd) = ((gFk ci).mapIdx (fun j kd => fv G z a j kd)).set k v := by
  apply List.ext_getElem?
  intro i
  rw [List.getElem?_set]
  have hlen : k < (gFk ci).length := (List.getElem?_eq_some_iff.mp h).1
  by_cases hi : k = i
  · subst hi
    rw [if_pos rfl, if_pos (by simpa using hlen), fs_get h, h1]
  · rw [if_neg hi, List.getElem?_mapIdx, List.getElem?_mapIdx]
    cases hx : (gFk ci)[i]? with
    | none => rfl
    | some q => simp only [Option.map_some]; rw [h2 i q (fun x => hi x.symm)]
theorem fs_si {G : gG} {z : gS} {a ci k : Nat} {v : Int32} (h : (gFk ci)[k]? = some 0) : (gFk ci).mapIdx (fun j kd => fv G (si z a k v) a j kd) = ((gFk ci).mapIdx (fun j kd => fv G z a j kd)).set k (.int v) :=
  fs_set h (by simp [fv, gi_si]) (fun j kd hj => by simp [fv, gi_si, gl_si, gr_si, hj])
theorem fs_sl {G : gG} {z : gS} {a ci k : Nat} {v : Int64} (h : (gFk ci)[k]? = some 1) : (gFk ci).mapIdx (fun j kd => fv G (sl z a k v) a j kd) = ((gFk ci).mapIdx (fun j kd => fv G z a j kd)).set k (.long v) :=
  fs_set h (by simp [fv, gl_sl]) (fun j kd hj => by simp [fv, gi_sl, gl_sl, gr_sl, hj])
theorem fs_sr {G : gG} {z : gS} {a ci k v : Nat} (h : (gFk ci)[k]? = some 2) : (gFk ci).mapIdx (fun j kd => fv G (sr z a k (some v)) a j kd) = ((gFk ci).mapIdx (fun j kd => fv G z a j kd)).set k (.ref (rA G v)) :=
  fs_set h (by simp [fv, gr_sr, va_rf]) (fun j kd hj => by simp [fv, gi_sr, gl_sr, gr_sr, hj])
/-! ===== words ===== -/
def gNest : Cond → Bool
  | .fieldLinkNest _ _ _ _ _ _ => true
  | .methodLinkNest _ _ _ _ => true
  | _ => false
def lw_g : List Cond := lw_tbl.filter goodWord
def lw_n : List Cond := lw_tbl.filter gNest
def gNW (U : State) : Prop := ∀ w ∈ lw_n, va_Nw w U
theorem lw_g_in {w : Cond} (h : w ∈ lw_tbl) (h2 : goodWord w = true) : w ∈ lw_g := List.mem_filter.mpr ⟨h, h2⟩
theorem lw_n_in {w : Cond} (h : w ∈ lw_tbl) (h2 : gNest w = true) : w ∈ lw_n := List.mem_filter.mpr ⟨h, h2⟩
theorem gNW.warm {s U : State} (hW : s.WarmedH U.vm) (h : gNW s) : gNW U := by
  intro w hw
  have h1 := h w hw
  have h2 := (List.mem_filter.mp hw).2
  cases w <;> first | exact va_Nw.warmF hW h1 | exact va_Nw.warmM hW h1 | (simp [gNest] at h2; done)
theorem gNW.same {u U : State} (hvm : u.vm = U.vm) (h : gNW u) : gNW U := by
  intro w hw
  have h1 := h w hw
  have h2 := (List.mem_filter.mp hw).2
  cases w <;> first | exact va_Nw.same rfl hvm h1 | (simp [gNest] at h2; done)
theorem lw_g_good : ∀ w ∈ lw_g, w ∈ lw_g ∧ ((w.onTables && w.keeps) = true ∨ ∃ ty, w = .arrayClass ty) := fun _ h => ⟨h, good_of_word (List.mem_filter.mp h).2⟩
def gC (ci : Nat) : vw_C := vwCl.getD ci (RX0, TX0, 6)
def gT : Nat → Nat → FieldType
  | 0 => tyX0 | 1 => tyX2 | 2 => tyX4 | 3 => tyX5 | 4 => tyX7 | 5 => tyX9 | 6 => tyX10 | 7 => tyX11 | _ => tyX12
