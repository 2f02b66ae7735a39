/-! making rows whose class is known; more of what a call's start may ask -/
section CI
variable {p : Program} {l : Launch} {e : Env} {R : Room} {s : State} {m : MethodId} {args : Array Value} {below : List Frame} {meth : Method} {c : Code} {H : Heap} {locs : List Loc} {cells slots : Nat} {Q : State → Prop}
variable {cc : ByteArray} {pc : Nat} {ls : Array Slot} {rest : List Value} {D : va_G} {cl : List vw_C} {A : Nat → Prop} {tys : List (ClassId × FieldType)} {ws : va_W} {H0 : Heap}
theorem ci_newa (hexec : p.tables.exec = Jvm.exec) (hb : c.code = cc) {atype : ArrayType} (harr : (Cond.arrayClass (newarray.typeOf atype)).before args s = true) {ty : FieldType} (hty : newarray.typeOf atype = ty) (hK : va_K D cl tys s) (hP : va_P D cl ws H) (hD : va_D A ws) (hS : va_S A H0 H locs) (hA : ∀ q, H0.size ≤ q → A q)
    {t0 : Nat} {cI : ClassId} (ht : tys[t0]? = some (cI, ty)) (hra : ∀ cA, va_RA s cA ty → s.vm.findClass ("[" ++ ty.toString) = some cA)
    {n : Int32} {N' : Nat} {a0 : vp_A} (ha : ∀ cA : ClassId, vp_cell cA a0 = arrV cA N' (fun _ => defaultValue ty)) (hn : ¬ n < 0) (hN : n.toNatClampNeg = N') (hbytes : N' * componentBytes ty ≤ 536870912) (hcells : cells + 1 ≤ R.cells) (hslots : slots + N' ≤ R.slots) (hdg : decode cc pc = .ok (.newarray atype, 2))
    (kk : ∀ (q : Nat) (H1 : Heap), va_P D cl (ws ++ [(q, .inl (cI, a0))]) H1 → va_D A (ws ++ [(q, .inl (cI, a0))]) → va_S A H0 H1 locs →
      W p l e R s m args below meth c H1 locs (cells + 1) (slots + N') Q (F0 m (pc + 2) ls (.ref q :: rest))) : W p l e R s m args below meth c H locs cells slots Q (F0 m pc ls (.int n :: rest)) := by
  refine va_newa hexec hb harr hty hK hP hD hS hA ha hn hN hbytes hcells hslots hdg (fun q cA H1 hK1 hP1 hD1 hS1 => ?_)
  have h1 := hra _ (hK.2 t0 _ ht).2
  have h2 : (tys ++ [(cA, ty)])[tys.length]? = some (cA, ty) := by simp
  have h3 := hra _ (hK1.2 tys.length _ h2).2
  obtain rfl : cI = cA := Option.some.inj (h1.symm.trans h3)
  exact kk q H1 hP1 hD1 hS1
theorem cc_preX {av : List Value} {N : State → Prop} {A0 : Nat → Prop} (hbl : ∀ (U : State) (g : JFrame) (mk : MethodId) (a : Array Value), N U → N (U.calling g mk a)) (hN : ∀ U : State, s.WarmedH U.vm → N U) (hK : va_K D cl tys s) (hP : va_P D cl ws H) (hD : va_D A0 ws) :
    PreS s H (va_Pc av (fun U => cc_Pre D cl tys ws H.size U ∧ N U)) av :=
  ⟨fun a U g mk q => ⟨q.1, ((cc_pre (av := av) hK hP hD).1 a U g mk ⟨q.1, q.2.1⟩).2, hbl U g mk a q.2.2⟩, fun U hU hW => ⟨rfl, ((cc_pre (av := av) hK hP hD).2 U hU hW).2, hN U hW⟩⟩
end CI
theorem ci_blind {own : String} {idx : Nat} {y : MethodName} {host : String} {U : State} {g : JFrame} {mk : MethodId} {a : Array Value} (h : va_Nw (.methodLinkNest own idx y host) U) : va_Nw (.methodLinkNest own idx y host) (U.calling g mk a) := va_Nw.same rfl rfl h
theorem wA_c {y : MethodName} {bytes : ByteArray} {maxL : Nat} {ret : Option FieldType} (h : Cond.code y bytes maxL ret ∈ wA) : GoodIn wA (Cond.code y bytes maxL ret :: wA) := by
  intro w hw
  have hm : w ∈ wA := by
    rcases List.mem_cons.mp hw with rfl | hw
    · exact h
    · exact hw
  exact ⟨hm, good_of_word (wA_good hm)⟩
