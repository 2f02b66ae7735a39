/-! the law's own small methods: what they stand on -/
abbrev wO (q : Nat) (cJ : ClassId) (g : Nat → Int64) (b : Nat → Nat) (cI cC : ClassId) (tx : Nat) (F : ST_F) (A : ST_A) : va_W := (q, .inl (cJ, 1, .inr (.inl g))) :: wP b cI cC tx F A
def th_NZ (U : State) : Prop := (∃ B0 : Nat → Prop, th_ZZ B0 U U.heap) ∧ th_No "java/lang/IllegalStateException" "java/lang/IllegalArgumentException" U ∧ th_No "java/lang/IndexOutOfBoundsException" "java/lang/IllegalStateException" U ∧ th_No "java/lang/IllegalArgumentException" "java/lang/IndexOutOfBoundsException" U
theorem cw_VT {R : Room} {s : State} {args : Array Value} {own C : String} {index maxL mc ms : Nat} {y : MethodName} {bytes : ByteArray} {ret : Option FieldType} {rm : Room} (n : Nat) (ht : ∀ w ∈ wA, w.before args s = true) (h1 : Cond.methodLink own index y ∈ wA) (h2 : Cond.instanceMethod y ∈ wA) (h3 : Cond.selects C y y ∈ wA) (h4 : Cond.initialized C ∈ wA) (h5 : Cond.code y bytes maxL ret ∈ wA) (hrc : rm.cells = mc) (hrs : rm.slots = ms) (hC : y.cls = C)
    (hd : y.cls ≠ "java/lang/invoke/MethodHandle" ∧ y.cls ≠ "java/lang/invoke/VarHandle" ∧ (parseMethodDescriptor y.desc).map (fun d => d.parameters.length) = some n) (hR : rm.frames + 1 ≤ R.frames ∧ 8 + (maxL + 11) + rm.locals ≤ R.locals) : CallW R s args own C index y bytes maxL ret (Cond.code y bytes maxL ret :: wA) rm mc ms n :=
  cwV n ht (wA_V h1 h2 h3 h4 h5) rfl hrc hrs ⟨hC, hd⟩ hR
theorem th_preV {s : State} {H : Heap} {D : va_G} {cl : List vw_C} {tys : List (ClassId × FieldType)} {ws wc : va_W} {A0 B0 : Nat → Prop} {b q0 ci : Nat} {q : vw_C} {fs : List Value} {As : List Value} (hK : va_K D cl tys s) (hP : va_P D cl ws H) (hD : va_D A0 ws) (hZ : th_ZZ B0 s H) (isC : List Nat) (hn : va_nd isC = true) (hC : isC.map (fun i => ws[i]?) = wc.map some) (hC2 : isC.filterMap (fun i => ws[i]?) = wc) (hc : cl[ci]? = some q) (he : ws[q0]? = some (b, .inr (ci, fs))) :
    PreV s H q.1 b (va_Pc (.ref b :: As) (th_Pre D cl tys wc H.size)) As := by
  have h0 := cc_pre (av := .ref b :: As) hK (hP.sub isC hC2) (hD.sub isC hn hC)
  refine ⟨fun a U g mk q => ?_, va_recv hK hP hc he, fun U hU hW => ?_⟩
  · obtain ⟨q0, q1, B, q2⟩ := q
    exact ⟨q0, (h0.1 a U g mk ⟨q0, q1⟩).2, B, th_ZZ.warm (s := U) (U := U.calling g mk a) (State.WarmedH.refl U) q2⟩
  · exact ⟨rfl, (h0.2 U hU hW).2, B0, by rw [hU]; exact th_ZZ.warm hW hZ⟩
