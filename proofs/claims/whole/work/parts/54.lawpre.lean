abbrev wL (q : Nat) (cJ : ClassId) (g : Nat → Int64) (b : Nat → Nat) (cI cC : ClassId) (tx : Nat) (F : ST_F) (A : ST_A) (o : Nat → Nat) (FM : ST_F) (AM : ST_A) : va_W := wO q cJ g b cI cC tx F A ++ wM o cI FM AM
/-- what stays in the law's body -/
def lc_Ctx (p : Program) (l : Launch) (s : State) (m : MethodId) (c : Code) (b0 L : Nat) (xs : Nat → Int32) (dC : Nat → ClassId) (dI : Nat → Nat → Nat) (cI cC cJ : ClassId) : Prop :=
  p.tables.exec = Jvm.exec ∧ c.code = code ∧ c.maxLocals = 7 ∧ s.vm.findClass R_L = some m.cls ∧ (∀ w ∈ wA, w.before #[Value.ref b0] s = true) ∧ va_X b0 L xs s s.heap ∧ b0 < s.heap.size ∧ va_K (dC, dI) vC [(cI, .int), (cC, .char), (cJ, .long)] s ∧ th_ZZ (fun z => s.heap.size ≤ z) s s.heap ∧
  th_No "java/lang/IllegalStateException" "java/lang/IllegalArgumentException" s ∧ th_No "java/lang/IndexOutOfBoundsException" "java/lang/IllegalStateException" s ∧ th_No "java/lang/IllegalArgumentException" "java/lang/IndexOutOfBoundsException" s ∧ l.stackTraces = false ∧ L ≤ 3072
/-- behind a case -/
def lc_K (p : Program) (l : Launch) (e : Env) (s : State) (m : MethodId) (below : List Frame) (meth : Method) (c : Code) (b0 : Nat) (dC : Nat → ClassId) (dI : Nat → Nat → Nat) (cI cC cJ : ClassId) (o : Nat → Nat) (q : Nat) (Inv : ST_F → ST_A → ST_F → ST_A → Prop) (i k : Nat) : Prop :=
  ∀ (b : Nat → Nat) (tx : Nat) (g : Nat → Int64) (F : ST_F) (A : ST_A) (FM : ST_F) (AM : ST_A) (H : Heap) (locs : List Loc) (ls : Array Slot), Inv F A FM AM → lv_has ls 7 [(0, .ref b0), (1, .ref (b 0)), (2, .ref (o 0)), (3, .ref q), (4, .int (nI i))] → va_P (dC, dI) vC (wL q cJ g b cI cC tx F A o FM AM) H → va_D (fun z => s.heap.size ≤ z) (wL q cJ g b cI cC tx F A o FM AM) → va_S (fun z => s.heap.size ≤ z) s.heap H locs → W p l e room_1 s m #[Value.ref b0] below meth c H locs (101 + k) (10006 + 6 * k) (lw_Z below #[Value.ref b0] s) (F0 m 641 ls [])
/-- a call of the class and its counterpart answer alike -/
def li_r (Inv : ST_F → ST_A → ST_F → ST_A → Prop) (fP : ST_F → ST_A → Option (Sum Nat (Int32 × ST_F × ST_A))) (fM : ST_F → ST_A → Option (Int32 × ST_F × ST_A)) (codes : List (Nat × Nat)) : Prop := ∀ F A FM AM, Inv F A FM AM →
  (∃ r F9 A9 F2 A2, fP F A = some (.inr (r, F9, A9)) ∧ fM FM AM = some (r, F2, A2) ∧ F2 0 = 0 ∧ Inv F9 A9 F2 A2) ∨ (∃ kc ∈ codes, ∃ r F2 A2, fP F A = some (.inl kc.1) ∧ fM FM AM = some (r, F2, A2) ∧ F2 0 = nI kc.2 ∧ Inv F A F2 A2)
def li_v (Inv : ST_F → ST_A → ST_F → ST_A → Prop) (fP : ST_F → ST_A → Option (Sum Nat (ST_F × ST_A))) (fM : ST_F → ST_A → Option (ST_F × ST_A)) (codes : List (Nat × Nat)) : Prop := ∀ F A FM AM, Inv F A FM AM →
  (∃ F9 A9 F2 A2, fP F A = some (.inr (F9, A9)) ∧ fM FM AM = some (F2, A2) ∧ F2 0 = 0 ∧ Inv F9 A9 F2 A2) ∨ (∃ kc ∈ codes, ∃ F2 A2, fP F A = some (.inl kc.1) ∧ fM FM AM = some (F2, A2) ∧ F2 0 = nI kc.2 ∧ Inv F A F2 A2)
def li_e (Inv : ST_F → ST_A → ST_F → ST_A → Prop) : Prop := ∀ F A FM AM, Inv F A FM AM → ∃ F9 A9 F2 A2, f_P_erase F A = some (F9, A9) ∧ f_M_erase FM AM = some (F2, A2) ∧ Inv F9 A9 F2 A2
def li_c (Inv : ST_F → ST_A → ST_F → ST_A → Prop) : Prop := ∀ F A FM AM, Inv F A FM AM → ∃ fu r F9 A9 F2 A2, f_P_compile F A = some (r, F9, A9) ∧ f_M_compile fu FM AM = some (r, F2, A2) ∧ Inv F9 A9 F2 A2
def li_s (Inv : ST_F → ST_A → ST_F → ST_A → Prop) : Prop := ∀ F A FM AM, Inv F A FM AM → ∃ r F9 A9 F2 A2, f_P_size F A = some (r, F9, A9) ∧ f_M_size FM AM = some (r, F2, A2) ∧ Inv F9 A9 F2 A2
theorem lx_out {g : Nat → Int64} {x : Int64} : vp_updL g 0 x (0 : Int32).toNatClampNeg = x := by
  unfold vp_updL
  rw [if_pos (by decide)]
theorem lx_in {i L : Nat} (hL : L ≤ 3072) (j : Nat) (h : i + j < L) {y : Int32} (hy : y = nI j) : vp_in (nI i + y) L := by
  rw [hy, nI_add]
  exact nI_in h (by omega)
theorem lx_in0 {i L : Nat} (hL : L ≤ 3072) (h : i < L) : vp_in (nI i) L := nI_in h (by omega)
theorem wA_h {y : MethodName} {bytes : ByteArray} {maxL : Nat} {ret : Option FieldType} {hs : List (Nat × Nat × Nat × Nat)} (h : Cond.codeWith y bytes maxL ret hs ∈ wA) : GoodIn wA (Cond.codeWith y bytes maxL ret hs :: wA) := by
  intro w hw
  have hm : w ∈ wA := by
    rcases List.mem_cons.mp hw with rfl | hw
    · exact h
    · exact hw
  exact ⟨hm, good_of_word (wA_good hm)⟩
section LC
variable {p : Program} {l : Launch} {e : Env} {R : Room} {s : State} {m : MethodId} {args : Array Value} {below : List Frame} {meth : Method} {c : Code} {H : Heap} {locs : List Loc} {cells slots : Nat} {Q : State → Prop}
variable {pc : Nat} {ls : Array Slot} {rest st0 : List Value} {a : Array Value} {A0 : Nat → Prop} {H0 : Heap} {D : va_G} {cl : List vw_C} {tys : List (ClassId × FieldType)} {ws w1 wq wc : va_W}
theorem cc_calliG {r0 : Int32} {mc ms : Nat} (hr : va_Run p l e R s m args below meth c H locs cells slots mc ms (F0 m pc ls st0) rest (cc_Qi D cl tys wc H.size w1 r0 a) (va_A wc H.size)) (hP : va_P D cl ws H) (hD : va_D A0 ws) (hS : va_S A0 H0 H locs) (hA : ∀ q, H0.size ≤ q → A0 q)
    (isC isR : List Nat) (hC : isC.map (fun i => ws[i]?) = wc.map some) (hR : isR.map (fun i => ws[i]?) = wq.map some) (hn : va_nd isR = true) (hdis : ∀ i ∈ isR, i ∉ isC)
    (kk : ∀ (H1 : Heap) (locs1 : List Loc), va_P D cl (wq ++ w1) H1 → va_D A0 (wq ++ w1) → va_S A0 H0 H1 locs1 → W p l e R s m args below meth c H1 locs1 (cells + mc) (slots + ms) Q (F0 m (pc + 3) ls (.int r0 :: rest))) : W p l e R s m args below meth c H locs cells slots Q (F0 m pc ls st0) := by
  have hFc := va_free (wc := wc) hD hS hA isC hC
  refine va_calli hr hS (fun q _ h => hFc q h) hFc (fun r u t H1 locs1 ht hvm hw hB hz1 hk1 hS1 => ?_)
  obtain ⟨hP1, hK1, hD1⟩ := hB
  rw [ht] at hP1
  obtain ⟨hP2, hD2⟩ := va_join (wr := wq) (w1 := w1) hP hD isC isR hC hR hn hdis hk1 hFc hP1 hD1
  have hw : r = r0 := hw
  rw [hw]
  exact kk H1 locs1 hP2 hD2 hS1
theorem th_preS {av : List Value} {B0 : Nat → Prop} (hK : va_K D cl tys s) (hP : va_P D cl ws H) (hD : va_D A0 ws) (hZ : th_ZZ B0 s H) (hN : th_No "java/lang/IllegalStateException" "java/lang/IllegalArgumentException" s ∧ th_No "java/lang/IndexOutOfBoundsException" "java/lang/IllegalStateException" s ∧ th_No "java/lang/IllegalArgumentException" "java/lang/IndexOutOfBoundsException" s) (isC : List Nat) (hn : va_nd isC = true) (hC : isC.map (fun i => ws[i]?) = wc.map some) (hC2 : isC.filterMap (fun i => ws[i]?) = wc) :
    PreS s H (va_Pc av (fun U => cc_Pre D cl tys wc H.size U ∧ th_NZ U)) av := by
  have h0 := cc_pre (av := av) hK (hP.sub isC hC2) (hD.sub isC hn hC)
  refine ⟨fun a U g mk q => ?_, fun U hU hW => ?_⟩
  · obtain ⟨q0, q1, ⟨B, q2⟩, q3, q4, q5⟩ := q
    exact ⟨q0, (h0.1 a U g mk ⟨q0, q1⟩).2, ⟨B, th_ZZ.warm (s := U) (U := U.calling g mk a) (State.WarmedH.refl U) q2⟩, q3, q4, q5⟩
  · exact ⟨rfl, (h0.2 U hU hW).2, ⟨B0, by rw [hU]; exact th_ZZ.warm hW hZ⟩, hN.1.moved hW.alike, hN.2.1.moved hW.alike, hN.2.2.moved hW.alike⟩
end LC
