/-! rows of mine over the kit: contracts whose end is fixed by a function; calls in the same world; static calls of numbers alone -/
abbrev cc_Pre (D : va_G) (cl : List vw_C) (tys : List (ClassId × FieldType)) (ws : va_W) (sz : Nat) (U : State) : Prop := U.heap.size = sz ∧ va_P D cl ws U.heap ∧ va_K D cl tys U ∧ va_D (fun _ => True) ws
abbrev cc_Post (D : va_G) (cl : List vw_C) (tys : List (ClassId × FieldType)) (ws0 : va_W) (sz : Nat) (ws : va_W) (t : State) : Prop := va_P D cl ws t.heap ∧ va_K D cl tys t ∧ va_D (va_A ws0 sz) ws
abbrev cc_Qi (D : va_G) (cl : List vw_C) (tys : List (ClassId × FieldType)) (ws0 : va_W) (sz : Nat) (ws : va_W) (r0 : Int32) : Array Value → State → Outcome → State → Prop := va_Qi (fun r (_ : Unit) => r = r0) (fun _ t => cc_Post D cl tys ws0 sz ws t) (va_A ws0 sz)
abbrev cc_Qv (D : va_G) (cl : List vw_C) (tys : List (ClassId × FieldType)) (ws0 : va_W) (sz : Nat) (ws : va_W) : Array Value → State → Outcome → State → Prop := va_Qv (fun (_ : Unit) => True) (fun _ t => cc_Post D cl tys ws0 sz ws t) (va_A ws0 sz)
abbrev cc_MetI (l : Launch) (y : MethodName) (wy : List Cond) (rm : Room) (D : va_G) (cl : List vw_C) (tys : List (ClassId × FieldType)) (av : List Value) (ws0 : va_W) (sz : Nat) (ws : va_W) (r0 : Int32) : Prop :=
  Met l y wy rm (va_Pc av (cc_Pre D cl tys ws0 sz)) (cc_Qi D cl tys ws0 sz ws r0) 0 0 (va_A ws0 sz)
abbrev cc_MetV (l : Launch) (y : MethodName) (wy : List Cond) (rm : Room) (D : va_G) (cl : List vw_C) (tys : List (ClassId × FieldType)) (av : List Value) (ws0 : va_W) (sz : Nat) (ws : va_W) : Prop :=
  Met l y wy rm (va_Pc av (cc_Pre D cl tys ws0 sz)) (cc_Qv D cl tys ws0 sz ws) 0 0 (va_A ws0 sz)
/-- a static method of numbers alone -/
abbrev cc_MetS (l : Launch) (y : MethodName) (wy : List Cond) (rm : Room) (av : List Value) (r0 : Int32) : Prop :=
  Met l y wy rm (fun v _ => v = av.toArray) (vp_Si (fun r => r = r0)) 0 0 (fun _ => False)
section CC
variable {p : Program} {l : Launch} {e : Env} {R : Room} {s : State} {m : MethodId} {args : Array Value} {below : List Frame} {meth : Method} {c : Code} {H : Heap} {locs : List Loc} {cells slots : Nat} {Q : State → Prop}
variable {pc : Nat} {ls : Array Slot} {rest st0 : List Value} {a : Array Value} {A0 : Nat → Prop} {H0 : Heap}
variable {D : va_G} {cl : List vw_C} {tys : List (ClassId × FieldType)} {ws w1 wq wc : va_W}
theorem cc_pre {av : List Value} (hK : va_K D cl tys s) (hP : va_P D cl ws H) (hD : va_D A0 ws) : FrameBlind (va_Pc av (cc_Pre D cl tys ws H.size)) ∧ ∀ U : State, U.heap = H → s.WarmedH U.vm → va_Pc av (cc_Pre D cl tys ws H.size) av.toArray U :=
  ⟨fun a U g mk q => by obtain ⟨q0, q1, qP, qK, qD⟩ := q; exact ⟨q0, q1, qP, va_K.moved (u := U) (U := U.calling g mk a) (Vm.Alike.refl U.vm) qK, qD⟩,
   fun U hU hW => ⟨rfl, by rw [hU], by rw [hU]; exact hP, va_K.moved hW.alike hK, hD.weaken (fun _ _ _ _ => trivial)⟩⟩
theorem cc_preV {b q0 ci : Nat} {q : vw_C} {fs : List Value} {As : List Value} (hK : va_K D cl tys s) (hP : va_P D cl ws H) (hD : va_D A0 ws) (hc : cl[ci]? = some q) (he : ws[q0]? = some (b, .inr (ci, fs))) : PreV s H q.1 b (va_Pc (.ref b :: As) (cc_Pre D cl tys ws H.size)) As :=
  ⟨(cc_pre hK hP hD).1, va_recv hK hP hc he, (cc_pre hK hP hD).2⟩
/-- the callee's world is a part of the caller's -/
theorem cc_preVs {b q0 ci : Nat} {q : vw_C} {fs : List Value} {As : List Value} (hK : va_K D cl tys s) (hP : va_P D cl ws H) (hD : va_D A0 ws) (isC : List Nat) (hn : va_nd isC = true) (hC : isC.map (fun i => ws[i]?) = wc.map some) (hC2 : isC.filterMap (fun i => ws[i]?) = wc) (hc : cl[ci]? = some q) (he : ws[q0]? = some (b, .inr (ci, fs))) : PreV s H q.1 b (va_Pc (.ref b :: As) (cc_Pre D cl tys wc H.size)) As :=
  ⟨(cc_pre hK (hP.sub isC hC2) (hD.sub isC hn hC)).1, va_recv hK hP hc he, (cc_pre hK (hP.sub isC hC2) (hD.sub isC hn hC)).2⟩
theorem cc_preS {av : List Value} : PreS s H (fun v _ => v = av.toArray) av := ⟨fun _ _ _ _ q => q, fun _ _ _ => rfl⟩
theorem cc_all (hD : va_D A0 ws) (hS : va_S A0 H0 H locs) (hA : ∀ q, H0.size ≤ q → A0 q) : ∀ q, va_A ws H.size q → A0 q := by
  intro q h
  rcases h with ⟨k, e, h⟩ | h
  · exact hD.2 k (q, e) h
  · exact hA q (Nat.le_trans hS.1 h)
theorem cc_calli {r0 : Int32} (hr : va_Run p l e R s m args below meth c H locs cells slots 0 0 (F0 m pc ls st0) rest (cc_Qi D cl tys ws H.size w1 r0 a) (va_A ws H.size)) (hD : va_D A0 ws) (hS : va_S A0 H0 H locs) (hA : ∀ q, H0.size ≤ q → A0 q)
    (kk : ∀ (H1 : Heap) (locs1 : List Loc), va_P D cl w1 H1 → va_D A0 w1 → va_S A0 H0 H1 locs1 → W p l e R s m args below meth c H1 locs1 cells slots Q (F0 m (pc + 3) ls (.int r0 :: rest))) : W p l e R s m args below meth c H locs cells slots Q (F0 m pc ls st0) := by
  have hFc := cc_all hD hS hA
  refine va_calli hr hS (fun q _ h => hFc q h) hFc (fun r u t H1 locs1 ht hvm hw hB hz1 hk1 hS1 => ?_)
  obtain ⟨hP1, hK1, hD1⟩ := hB
  rw [ht] at hP1
  have hw : r = r0 := hw
  rw [hw]
  exact kk H1 locs1 hP1 (hD1.weaken (fun k q _ h => hFc q.1 h)) hS1
theorem cc_callv (hr : va_Run p l e R s m args below meth c H locs cells slots 0 0 (F0 m pc ls st0) rest (cc_Qv D cl tys ws H.size w1 a) (va_A ws H.size)) (hD : va_D A0 ws) (hS : va_S A0 H0 H locs) (hA : ∀ q, H0.size ≤ q → A0 q)
    (kk : ∀ (H1 : Heap) (locs1 : List Loc), va_P D cl w1 H1 → va_D A0 w1 → va_S A0 H0 H1 locs1 → W p l e R s m args below meth c H1 locs1 cells slots Q (F0 m (pc + 3) ls rest)) : W p l e R s m args below meth c H locs cells slots Q (F0 m pc ls st0) := by
  have hFc := cc_all hD hS hA
  refine va_callv hr hS (fun q _ h => hFc q h) hFc (fun u t H1 locs1 ht hvm hw hB hz1 hk1 hS1 => ?_)
  obtain ⟨hP1, hK1, hD1⟩ := hB
  rw [ht] at hP1
  exact kk H1 locs1 hP1 (hD1.weaken (fun k q _ h => hFc q.1 h)) hS1
theorem cc_calliP {r0 : Int32} (hr : va_Run p l e R s m args below meth c H locs cells slots 0 0 (F0 m pc ls st0) rest (cc_Qi D cl tys wc H.size w1 r0 a) (va_A wc H.size)) (hP : va_P D cl ws H) (hD : va_D A0 ws) (hS : va_S A0 H0 H locs) (hA : ∀ q, H0.size ≤ q → A0 q)
    (isC isR : List Nat) (hC : isC.map (fun i => ws[i]?) = wc.map some) (hR : isR.map (fun i => ws[i]?) = wq.map some) (hn : va_nd isR = true) (hdis : ∀ i ∈ isR, i ∉ isC)
    (kk : ∀ (H1 : Heap) (locs1 : List Loc), va_P D cl (wq ++ w1) H1 → va_D A0 (wq ++ w1) → va_S A0 H0 H1 locs1 → W p l e R s m args below meth c H1 locs1 cells slots Q (F0 m (pc + 3) ls (.int r0 :: rest))) : W p l e R s m args below meth c H locs cells slots Q (F0 m pc ls st0) := by
  have hFc := va_free (wc := wc) hD hS hA isC hC
  refine va_calli hr hS (fun q _ h => hFc q h) hFc (fun r u t H1 locs1 ht hvm hw hB hz1 hk1 hS1 => ?_)
  obtain ⟨hP1, hK1, hD1⟩ := hB
  rw [ht] at hP1
  obtain ⟨hP2, hD2⟩ := va_join (wr := wq) (w1 := w1) hP hD isC isR hC hR hn hdis hk1 hFc hP1 hD1
  have hw : r = r0 := hw
  rw [hw]
  exact kk H1 locs1 hP2 hD2 hS1
theorem cc_callvP (hr : va_Run p l e R s m args below meth c H locs cells slots 0 0 (F0 m pc ls st0) rest (cc_Qv D cl tys wc H.size w1 a) (va_A wc H.size)) (hP : va_P D cl ws H) (hD : va_D A0 ws) (hS : va_S A0 H0 H locs) (hA : ∀ q, H0.size ≤ q → A0 q)
    (isC isR : List Nat) (hC : isC.map (fun i => ws[i]?) = wc.map some) (hR : isR.map (fun i => ws[i]?) = wq.map some) (hn : va_nd isR = true) (hdis : ∀ i ∈ isR, i ∉ isC)
    (kk : ∀ (H1 : Heap) (locs1 : List Loc), va_P D cl (wq ++ w1) H1 → va_D A0 (wq ++ w1) → va_S A0 H0 H1 locs1 → W p l e R s m args below meth c H1 locs1 cells slots Q (F0 m (pc + 3) ls rest)) : W p l e R s m args below meth c H locs cells slots Q (F0 m pc ls st0) := by
  have hFc := va_free (wc := wc) hD hS hA isC hC
  refine va_callv hr hS (fun q _ h => hFc q h) hFc (fun u t H1 locs1 ht hvm hw hB hz1 hk1 hS1 => ?_)
  obtain ⟨hP1, hK1, hD1⟩ := hB
  rw [ht] at hP1
  obtain ⟨hP2, hD2⟩ := va_join (wr := wq) (w1 := w1) hP hD isC isR hC hR hn hdis hk1 hFc hP1 hD1
  exact kk H1 locs1 hP2 hD2 hS1
theorem cc_calls {r0 : Int32} (hr : va_Run p l e R s m args below meth c H locs cells slots 0 0 (F0 m pc ls st0) rest (vp_Si (fun r => r = r0) a) (fun _ => False))
    (kk : W p l e R s m args below meth c H locs cells slots Q (F0 m (pc + 3) ls (.int r0 :: rest))) : W p l e R s m args below meth c H locs cells slots Q (F0 m pc ls st0) :=
  vp_callSi hr.run (fun r hr0 => by rw [hr0]; exact kk)
end CC
/-! decompiled functions: Nat → Int32 are the int fields of a world by their numbers, Nat → Nat → Int32 its rows by theirs; none: out of range, or out of turns -/
abbrev ST_F : Type := Nat → Int32
abbrev ST_A : Type := Nat → Nat → Int32
def ra_g {ρ : Type} (i : Int32) (n : Nat) (k : Option ρ) : Option ρ := if i < 0 ∨ n ≤ i.toNatClampNeg then none else k
theorem ra_g_some {ρ : Type} {i : Int32} {n : Nat} {k : Option ρ} {r : ρ} (h : ra_g i n k = some r) : vp_in i n ∧ k = some r := by
  unfold ra_g at h
  by_cases hc : i < 0 ∨ n ≤ i.toNatClampNeg
  · rw [if_pos hc] at h; cases h
  · rw [if_neg hc] at h; exact ⟨hc, h⟩
theorem ra_g_in {ρ : Type} {j n : Nat} (h : j < n) (hn : n < 2 ^ 31) (k : Option ρ) : ra_g (nI j) n k = k := if_neg (nI_in h hn)
def ra_nz {ρ : Type} (y : Int32) (k : Option ρ) : Option ρ := if y = 0 then none else k
theorem ra_nz_some {ρ : Type} {y : Int32} {k : Option ρ} {r : ρ} (h : ra_nz y k = some r) : ¬ y = 0 ∧ k = some r := by
  unfold ra_nz at h
  by_cases hc : y = 0
  · rw [if_pos hc] at h; cases h
  · rw [if_neg hc] at h; exact ⟨hc, h⟩
def ra_nzl {ρ : Type} (y : Int64) (k : Option ρ) : Option ρ := if y = 0 then none else k
theorem ra_nzl_some {ρ : Type} {y : Int64} {k : Option ρ} {r : ρ} (h : ra_nzl y k = some r) : ¬ y = 0 ∧ k = some r := by
  unfold ra_nzl at h
  by_cases hc : y = 0
  · rw [if_pos hc] at h; cases h
  · rw [if_neg hc] at h; exact ⟨hc, h⟩
def ra_nc {ρ : Type} (y : Int32) (k : Option ρ) : Option ρ := if vp_nar .char y = y then k else none
theorem ra_nc_some {ρ : Type} {y : Int32} {k : Option ρ} {r : ρ} (h : ra_nc y k = some r) : narrow .char (.int y) = .int y ∧ k = some r := by
  unfold ra_nc at h
  by_cases hc : vp_nar .char y = y
  · rw [if_pos hc] at h; exact ⟨congrArg Value.int hc, h⟩
  · rw [if_neg hc] at h; cases h
def ra_nb {ρ : Type} (y : Int32) (k : Option ρ) : Option ρ := if y = 0 ∨ y = 1 then k else none
theorem ra_nb_some {ρ : Type} {y : Int32} {k : Option ρ} {r : ρ} (h : ra_nb y k = some r) : narrow .boolean (.int y) = .int y ∧ k = some r := by
  unfold ra_nb at h
  by_cases hc : y = 0 ∨ y = 1
  · rw [if_pos hc] at h
    refine ⟨?_, h⟩
    rcases hc with rfl | rfl <;> rfl
  · rw [if_neg hc] at h; cases h
def ra_zb {ρ : Type} (y : Int32) (k : Option ρ) : Option ρ := if y = 0 ∨ y = 1 then k else none
theorem ra_zb_some {ρ : Type} {y : Int32} {k : Option ρ} {r : ρ} (h : ra_zb y k = some r) : narrow .boolean (.int y) = .int y ∧ fits .boolean (.int y) = true ∧ k = some r := by
  unfold ra_zb at h
  by_cases hc : y = 0 ∨ y = 1
  · rw [if_pos hc] at h
    refine ⟨?_, ?_, h⟩
    · rcases hc with rfl | rfl <;> rfl
    · rcases hc with rfl | rfl <;> rfl
  · rw [if_neg hc] at h; cases h
def ra_bi {ρ : Type} (g : Option (Int32 × ST_F × ST_A)) (k : Int32 → ST_F → ST_A → Option ρ) : Option ρ := match g with
  | none => none
  | some x => k x.1 x.2.1 x.2.2
def ra_bv {ρ : Type} (g : Option (ST_F × ST_A)) (k : ST_F → ST_A → Option ρ) : Option ρ := match g with
  | none => none
  | some x => k x.1 x.2
theorem ra_bi_some {ρ : Type} {g : Option (Int32 × ST_F × ST_A)} {k : Int32 → ST_F → ST_A → Option ρ} {r : ρ} (h : ra_bi g k = some r) : ∃ r1 F1 A1, g = some (r1, F1, A1) ∧ k r1 F1 A1 = some r := by
  cases g with
  | none => cases h
  | some x => exact ⟨x.1, x.2.1, x.2.2, rfl, h⟩
theorem ra_bv_some {ρ : Type} {g : Option (ST_F × ST_A)} {k : ST_F → ST_A → Option ρ} {r : ρ} (h : ra_bv g k = some r) : ∃ F1 A1, g = some (F1, A1) ∧ k F1 A1 = some r := by
  cases g with
  | none => cases h
  | some x => exact ⟨x.1, x.2, rfl, h⟩
