/-! reads; methods that may throw -/
abbrev cc_MetR (l : Launch) (y : MethodName) (wy : List Cond) (rm : Room) (D : va_G) (cl : List vw_C) (tys : List (ClassId × FieldType)) (av : List Value) (ws0 : va_W) (sz : Nat) (r0 : Int32) : Prop :=
  Met l y wy rm (va_Pc av (cc_Pre D cl tys ws0 sz)) (vp_Si (fun r => r = r0)) 0 0 (fun _ => False)
theorem cc_callr {p : Program} {l : Launch} {e : Env} {R : Room} {s : State} {m : MethodId} {args : Array Value} {below : List Frame} {meth : Method} {c : Code} {H : Heap} {locs : List Loc} {cells slots : Nat} {Q : State → Prop} {pc : Nat} {ls : Array Slot} {rest st0 : List Value} {a : Array Value} {r0 : Int32}
    (hr : va_Run p l e R s m args below meth c H locs cells slots 0 0 (F0 m pc ls st0) rest (vp_Si (fun r => r = r0) a) (fun _ => False))
    (kk : W p l e R s m args below meth c H locs cells slots Q (F0 m (pc + 3) ls (.int r0 :: rest))) : W p l e R s m args below meth c H locs cells slots Q (F0 m pc ls st0) := cc_calls hr kk
def ra_ok {α : Type} (x : Option α) : Option (Sum Nat α) := x.map Sum.inr
theorem ra_ok_some {α : Type} {x : Option α} {r : α} (h : ra_ok x = some (.inr r)) : x = some r := by
  cases x with
  | none => cases h
  | some a =>
    have h1 := Option.some.inj h
    rw [Sum.inr.inj h1]
theorem ra_ok_ne {α : Type} (x : Option α) (k : Nat) : ¬ ra_ok x = some (.inl k) := by
  intro h
  cases x with
  | none => cases h
  | some a => cases h
/-- Throwable's static row n, as the tables and the heap have it; no cell of A -/
def th_LS (n d : String) (A : Nat → Prop) (U : State) (H : Heap) : Prop := ∃ (c : ClassId) (k : Class) (i : Nat) (f : Field) (a : Nat) (cell : Cell), U.vm.findClass "java/lang/Throwable" = some c ∧ U.fieldFound? "java/lang/Throwable" n d = some (c, k, i, f) ∧ f.isStatic = true ∧ k.statics = some a ∧ H[a]? = some cell ∧ cell.vm.isStatics = true ∧ cell.cls = c ∧ f.slot < cell.slots.size ∧ k.staticTypes[f.slot]? = some f.type ∧ ¬ A a
theorem th_LS.moved {n d : String} {A : Nat → Prop} {u U : State} {H : Heap} (hvm : u.vm.Alike U.vm) (h : th_LS n d A u H) : th_LS n d A U H := by
  obtain ⟨c, k, i, f, a, cell, h0, h1, h2, h3, h4, h5, h6, h7, h8, h9⟩ := h
  obtain ⟨k', hi', he⟩ := State.fieldFound?_setVm hvm h1
  exact ⟨c, k', i, f, a, cell, by rw [hvm.findClass]; exact h0, hi', h2, by rw [he]; exact h3, h4, h5, h6, h7, by rw [he]; exact h8, h9⟩
theorem th_LS.kept {n d : String} {A : Nat → Prop} {U : State} {H H1 : Heap} (h : th_LS n d A U H) (hq : ∀ a : Nat, a < H.size → ¬ A a → H1[a]? = H[a]?) : th_LS n d A U H1 := by
  obtain ⟨c, k, i, f, a, cell, h0, h1, h2, h3, h4, h5, h6, h7, h8, h9⟩ := h
  exact ⟨c, k, i, f, a, cell, h0, h1, h2, h3, by rw [hq a (Array.getElem?_eq_some_iff.mp h4).1 h9]; exact h4, h5, h6, h7, h8, h9⟩
theorem th_LS.narrow {n d : String} {A B : Nat → Prop} {U : State} {H : Heap} (h : th_LS n d A U H) (hAB : ∀ q, B q → A q) : th_LS n d B U H := by
  obtain ⟨c, k, i, f, a, cell, h0, h1, h2, h3, h4, h5, h6, h7, h8, h9⟩ := h
  exact ⟨c, k, i, f, a, cell, h0, h1, h2, h3, h4, h5, h6, h7, h8, fun z => h9 (hAB a z)⟩
theorem th_LS.of {n d : String} {A : Nat → Prop} {U : State} {args : Array Value} (h : th_LS n d A U U.heap) : (Cond.laysStatic "java/lang/Throwable" n d).before args U = true := by
  obtain ⟨c, k, i, f, a, cell, h0, h1, h2, h3, h4, h5, h6, h7, h8, h9⟩ := h
  exact Cond.laysStatic_of h0 h1 h2 h3 h4 h5 h6 h7 h8
theorem th_LS.mk {n d : String} {A : Nat → Prop} {U : State} {args : Array Value} (h : (Cond.laysStatic "java/lang/Throwable" n d).before args U = true) (hA : ∀ a : Nat, a < U.heap.size → ¬ A a) : th_LS n d A U U.heap := by
  obtain ⟨c, k, i, f, a, cell, h0, h1, h2, h3, h4, h5, h6, h7, h8⟩ := Cond.laysStatic_spec h
  exact ⟨c, k, i, f, a, cell, h0, h1, h2, h3, h4, h5, h6, h7, h8, hA a (Array.getElem?_eq_some_iff.mp h4).1⟩
/-- words on tables that are no good words: who declares, who may be cast -/
def th_nw : List Cond := [.declares ⟨"java/lang/RuntimeException", "<init>", "()V"⟩, .declares ⟨"java/lang/Exception", "<init>", "()V"⟩, .declares ⟨"java/lang/Throwable", "<init>", "()V"⟩,
  .castable "java/lang/IllegalArgumentException" "java/lang/IllegalArgumentException", .castable "java/lang/IllegalStateException" "java/lang/IllegalStateException", .castable "java/lang/IndexOutOfBoundsException" "java/lang/IndexOutOfBoundsException"]
def th_ZZ (A : Nat → Prop) (U : State) (H : Heap) : Prop := th_Z A U H ∧ th_LS "UNASSIGNED_STACK" "[Ljava/lang/StackTraceElement;" A U H ∧ th_LS "SUPPRESSED_SENTINEL" "Ljava/util/List;" A U H ∧ ∀ w ∈ th_nw, va_Nw w U
theorem th_nw_warm {s U : State} (hW : s.WarmedH U.vm) (h : ∀ w ∈ th_nw, va_Nw w s) : ∀ w ∈ th_nw, va_Nw w U := by
  intro w hw
  have h1 := h w hw
  simp only [th_nw, List.mem_cons, List.not_mem_nil, or_false] at hw
  rcases hw with rfl | rfl | rfl | rfl | rfl | rfl
  · exact va_Nw.warmD hW h1
  · exact va_Nw.warmD hW h1
  · exact va_Nw.warmD hW h1
  · exact va_Nw.warmC hW h1
  · exact va_Nw.warmC hW h1
  · exact va_Nw.warmC hW h1
theorem th_nw_use {U : State} {args : Array Value} {w : Cond} (hw : w ∈ th_nw) (h : va_Nw w U) : w.before args U = true := by
  simp only [th_nw, List.mem_cons, List.not_mem_nil, or_false] at hw
  rcases hw with rfl | rfl | rfl | rfl | rfl | rfl <;> exact va_Nw.use rfl h
theorem th_ZZ.warm {A : Nat → Prop} {s U : State} {H : Heap} (hW : s.WarmedH U.vm) (h : th_ZZ A s H) : th_ZZ A U H := ⟨⟨h.1.1.moved hW.alike, h.1.2.moved hW.alike⟩, h.2.1.moved hW.alike, h.2.2.1.moved hW.alike, th_nw_warm hW h.2.2.2⟩
theorem th_ZZ.kept {A : Nat → Prop} {U : State} {H H1 : Heap} (h : th_ZZ A U H) (hq : ∀ a : Nat, a < H.size → ¬ A a → H1[a]? = H[a]?) : th_ZZ A U H1 := ⟨⟨h.1.1.kept hq, h.1.2.kept hq⟩, h.2.1.kept hq, h.2.2.1.kept hq, h.2.2.2⟩
theorem th_ZZ.narrow {A B : Nat → Prop} {U : State} {H : Heap} (h : th_ZZ A U H) (hAB : ∀ q, B q → A q) : th_ZZ B U H := ⟨⟨h.1.1.narrow hAB, h.1.2.narrow hAB⟩, h.2.1.narrow hAB, h.2.2.1.narrow hAB, h.2.2.2⟩
abbrev th_Pre (D : va_G) (cl : List vw_C) (tys : List (ClassId × FieldType)) (ws : va_W) (sz : Nat) (U : State) : Prop := cc_Pre D cl tys ws sz U ∧ ∃ B0 : Nat → Prop, th_ZZ B0 U U.heap
def th_hw : List Cond := [.isRef (.static "java/lang/Throwable" "UNASSIGNED_STACK" "[Ljava/lang/StackTraceElement;"), .isRef (.static "java/lang/Throwable" "SUPPRESSED_SENTINEL" "Ljava/util/List;"), .laysStatic "java/lang/Throwable" "UNASSIGNED_STACK" "[Ljava/lang/StackTraceElement;", .laysStatic "java/lang/Throwable" "SUPPRESSED_SENTINEL" "Ljava/util/List;"]
theorem th_all {s : State} {args : Array Value} (hts : ∀ w ∈ wA, w.before args s = true) {B0 : Nat → Prop} (hZ : th_ZZ B0 s s.heap) {w : Cond} (h : w ∈ wA ∨ w ∈ th_nw ∨ w ∈ th_hw) : w.before args s = true := by
  rcases h with h | h | h
  · exact hts _ h
  · exact th_nw_use h (hZ.2.2.2 w h)
  · simp only [th_hw, List.mem_cons, List.not_mem_nil, or_false] at h
    rcases h with rfl | rfl | rfl | rfl
    · exact th_isRef hZ.1.1
    · exact th_isRef hZ.1.2
    · exact hZ.2.1.of
    · exact hZ.2.2.1.of
set_option maxRecDepth 100000 in
theorem th_w1 : ∀ w ∈ Bundle.ownAtoms0 "PixelFormula" 44 "java/lang/IllegalArgumentException" ["java/lang/RuntimeException", "java/lang/Exception"], w ∈ wA ∨ w ∈ th_nw ∨ w ∈ th_hw := by decide +kernel
theorem th_at1 {s : State} {args : Array Value} (hts : ∀ w ∈ wA, w.before args s = true) {B0 : Nat → Prop} (hZ : th_ZZ B0 s s.heap) : ∀ a ∈ Bundle.ownAtoms0 R_P 44 "java/lang/IllegalArgumentException" ["java/lang/RuntimeException", "java/lang/Exception"], a.before args s = true :=
  fun a ha => th_all hts hZ (th_w1 a ha)
set_option maxRecDepth 100000 in
theorem th_w2 : ∀ w ∈ Bundle.ownAtoms0 "PixelFormula" 47 "java/lang/IllegalStateException" ["java/lang/RuntimeException", "java/lang/Exception"], w ∈ wA ∨ w ∈ th_nw ∨ w ∈ th_hw := by decide +kernel
theorem th_at2 {s : State} {args : Array Value} (hts : ∀ w ∈ wA, w.before args s = true) {B0 : Nat → Prop} (hZ : th_ZZ B0 s s.heap) : ∀ a ∈ Bundle.ownAtoms0 R_P 47 "java/lang/IllegalStateException" ["java/lang/RuntimeException", "java/lang/Exception"], a.before args s = true :=
  fun a ha => th_all hts hZ (th_w2 a ha)
set_option maxRecDepth 100000 in
theorem th_w3 : ∀ w ∈ Bundle.ownAtoms0 "PixelFormula" 65 "java/lang/IndexOutOfBoundsException" ["java/lang/RuntimeException", "java/lang/Exception"], w ∈ wA ∨ w ∈ th_nw ∨ w ∈ th_hw := by decide +kernel
theorem th_at3 {s : State} {args : Array Value} (hts : ∀ w ∈ wA, w.before args s = true) {B0 : Nat → Prop} (hZ : th_ZZ B0 s s.heap) : ∀ a ∈ Bundle.ownAtoms0 R_P 65 "java/lang/IndexOutOfBoundsException" ["java/lang/RuntimeException", "java/lang/Exception"], a.before args s = true :=
  fun a ha => th_all hts hZ (th_w3 a ha)
