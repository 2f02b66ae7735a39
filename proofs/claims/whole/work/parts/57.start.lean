theorem th_nw_tb : ∀ w ∈ th_nw, w ∈ tables_1 := by decide +kernel
theorem th_no_of {C D : String} {args : Array Value} {s : State} (h1 : (Cond.initialized C).before args s = true) (h2 : (Cond.initialized D).before args s = true) (h : (Cond.not (.castable C D)).before args s = true) : th_No C D s := by
  have key : ∀ X : String, (Cond.initialized X).before args s = true → ∃ c, s.vm.findClass X = some c := by
    intro X hX
    cases hc : s.vm.findClass X with
    | none => simp [Cond.before, Cond.holds, Cond.value, hc] at hX
    | some c => exact ⟨c, rfl⟩
  obtain ⟨c, hc⟩ := key C h1
  obtain ⟨d, hd⟩ := key D h2
  refine ⟨c, d, hc, hd, ?_⟩
  have hv := Cond.holds_not_iff.mp h
  simp only [Cond.value, hc, hd] at hv
  exact Option.some.inj hv
set_option maxHeartbeats 8000000 in
set_option maxRecDepth 100000 in
theorem lw_known {s : State} {args : Array Value} (hts : ∀ w ∈ wA, w.before args s = true) : ∃ (dC : Nat → ClassId) (dI : Nat → Nat → Nat) (cI cC cJ : ClassId), va_K (dC, dI) vC [(cI, .int), (cC, .char), (cJ, .long)] s := by
  obtain ⟨c0, i0, h0⟩ := u_known (C := R_K) (T := T_K) (N := 7) hts in_K (hts _ mw_24)
  obtain ⟨c1, i1, h1⟩ := u_known (C := R_C) (T := T_C) (N := 5) hts in_C (hts _ mw_68)
  obtain ⟨c2, i2, h2⟩ := u_known (C := R_H) (T := T_H) (N := 2) hts in_H (hts _ mw_92)
  obtain ⟨c3, i3, h3⟩ := u_known (C := R_P) (T := T_P) (N := 6) hts in_P (hts _ mw_16)
  obtain ⟨c4, i4, h4⟩ := u_known (C := R_M) (T := T_M) (N := 29) hts in_M (hts _ mw_498)
  obtain ⟨cI, kcI, mcI, ecI1, ecI2, ecI3⟩ := Cond.arrayClass_spec (hts _ mw_66)
  obtain ⟨cC, kcC, mcC, ecC1, ecC2, ecC3⟩ := Cond.arrayClass_spec (hts _ mw_65)
  obtain ⟨cJ, kcJ, mcJ, ecJ1, ecJ2, ecJ3⟩ := Cond.arrayClass_spec (hts _ mw_787)
  refine ⟨(fun n => if n = 0 then c0 else if n = 1 then c1 else if n = 2 then c2 else if n = 3 then c3 else c4), (fun n => if n = 0 then i0 else if n = 1 then i1 else if n = 2 then i2 else if n = 3 then i3 else i4), cI, cC, cJ, fun n q hq => ?_, fun n q hq => ?_⟩
  · have hn : n < 5 := (List.getElem?_eq_some_iff.mp hq).1
    rcases (show n = 0 ∨ n = 1 ∨ n = 2 ∨ n = 3 ∨ n = 4 by omega) with rfl | rfl | rfl | rfl | rfl
    · cases hq; exact h0
    · cases hq; exact h1
    · cases hq; exact h2
    · cases hq; exact h3
    · cases hq; exact h4
  · have hn : n < 3 := (List.getElem?_eq_some_iff.mp hq).1
    rcases (show n = 0 ∨ n = 1 ∨ n = 2 by omega) with rfl | rfl | rfl
    · cases hq; exact ⟨fun n z => ⟨fun k h => (by cases h), kcI, ecI2, mcI, ecI3⟩, ecI1⟩
    · cases hq; exact ⟨fun n z => ⟨fun k h => (by cases h), kcC, ecC2, mcC, ecC3⟩, ecC1⟩
    · cases hq; exact ⟨fun n z => ⟨fun k h => (by cases h), kcJ, ecJ2, mcJ, ecJ3⟩, ecJ1⟩
set_option maxHeartbeats 8000000 in
set_option maxRecDepth 100000 in
theorem whole_startI {p : Program} {e : Env} {s : State} {m : MethodId} {below : List Frame} {meth : Method} {c : Code} (l : Launch) (hfl : l.stackTraces = false) {b0 L : Nat} {xs : Nat → Int32} {Inv : ST_F → ST_A → ST_F → ST_A → Prop} (hall : lh_all Inv) (hinit : Inv (fun _ => 0) (fun _ _ => 0) (fun _ => 0) (fun _ _ => 0)) (hL : L ≤ 3072) (C0 : lw_At p s m meth c b0 L xs) : W p l e room_1 s m #[Value.ref b0] below meth c s.heap [] 0 0 (lw_Z below #[Value.ref b0] s) (entryFrame m ([Value.ref b0] : List Value).toArray 7) := by
  obtain ⟨hx, hb, hr, hml, hown, hts0, hX, hbl, hlocks, hgv⟩ := C0
  have hown : s.vm.findClass R_L = some m.cls := hown
  have hts : ∀ w ∈ wA, w.before #[Value.ref b0] s = true := fun w h => hts0 w (wA_tbl h)
  have hT1 : ∀ w ∈ tables_1, w.before #[Value.ref b0] s = true := fun w h => hts0 w (List.mem_append_right _ h)
  have hfl2 := flat_of_before _ hgv
  obtain ⟨dC, dI, cI, cC, cJ, hK⟩ := lw_known hts
  have hAn : ∀ a : Nat, a < s.heap.size → ¬ (fun z => s.heap.size ≤ z) a := fun a h z => absurd h (Nat.not_lt.mpr z)
  have hl1 : (Cond.laysStatic "java/lang/Throwable" "UNASSIGNED_STACK" "[Ljava/lang/StackTraceElement;").before #[Value.ref b0] s = true := (hT1 _ (List.mem_of_getElem? (i := 328) (by decide +kernel)))
  have hl2 : (Cond.laysStatic "java/lang/Throwable" "SUPPRESSED_SENTINEL" "Ljava/util/List;").before #[Value.ref b0] s = true := (hT1 _ (List.mem_of_getElem? (i := 330) (by decide +kernel)))
  have hz1 : (Cond.isRef (.static "java/lang/Throwable" "UNASSIGNED_STACK" "[Ljava/lang/StackTraceElement;")).before #[Value.ref b0] s = true := hfl2 _ (by decide +kernel)
  have hz2 : (Cond.isRef (.static "java/lang/Throwable" "SUPPRESSED_SENTINEL" "Ljava/util/List;")).before #[Value.ref b0] s = true := hfl2 _ (by decide +kernel)
  have hZ : th_ZZ (fun z => s.heap.size ≤ z) s s.heap := by
    refine ⟨⟨va_Zqof hl1 (hts _ mw_6) hz1 hAn, va_Zqof hl2 (hts _ mw_6) hz2 hAn⟩, th_LS.mk hl1 hAn, th_LS.mk hl2 hAn, ?_⟩
    intro w hw
    have hm : w ∈ tables_1 := th_nw_tb w hw
    have h1 := hT1 w hm
    simp only [th_nw, List.mem_cons, List.not_mem_nil, or_false] at hw
    rcases hw with rfl | rfl | rfl | rfl | rfl | rfl <;> exact va_Nw.of rfl h1
  have hN1 : th_No "java/lang/IllegalStateException" "java/lang/IllegalArgumentException" s := th_no_of (hts _ mw_10) (hts _ mw_9) (hfl2 _ (by decide +kernel))
  have hN2 : th_No "java/lang/IndexOutOfBoundsException" "java/lang/IllegalStateException" s := th_no_of (hts _ mw_13) (hts _ mw_10) (hfl2 _ (by decide +kernel))
  have hN3 : th_No "java/lang/IllegalArgumentException" "java/lang/IndexOutOfBoundsException" s := th_no_of (hts _ mw_9) (hts _ mw_13) (hfl2 _ (by decide +kernel))
  have C : lc_Ctx p l s m c b0 L xs dC dI cI cC cJ := ⟨hx, hb, hml, hown, hts, hX, hbl, hK, hZ, hN1, hN2, hN3, hfl, hL⟩
  have hA : ∀ z : Nat, s.heap.size ≤ z → (fun z => s.heap.size ≤ z) z := fun z h => h
  have hS : va_S (fun z => s.heap.size ≤ z) s.heap s.heap [] := va_S.rf
  have hP : va_P (dC, dI) vC [] s.heap := fun k q h => by simp at h
  have hD : va_D (fun z => s.heap.size ≤ z) [] := ⟨fun i j p q h => by simp at h, fun k q h => by simp at h⟩
  have hl := lv_entry ([.ref b0]) (n := 7) (Nat.le_of_ble_eq_true rfl)
  rw [lg_entry_eq]
  generalize (lg_sl ([.ref b0]) ++ List.replicate (7 - (lg_sl ([.ref b0])).length) Slot.unset).toArray = ls at hl ⊢
  have hl : lv_has ls 7 [(0, .ref b0)] := hl
  refine va_new (ci := 3) (fs := [.null, .int 0, .null, .null, .null, .null]) (C := R_P) (T := T_P) (N := 6) hx hb hts in_P ty_P ty_P_ok hown (hts _ mw_15) (hts _ mw_16) (hts _ mw_1) hK hP hD hS hA rfl (fun j hj => by rcases (show j = 0 ∨ j = 1 ∨ j = 2 ∨ j = 3 ∨ j = 4 ∨ j = 5 by omega) with rfl | rfl | rfl | rfl | rfl | rfl <;> rfl) (by decide) (by decide) d_L_law_0 (fun qp H hP hD hS => ?_)
  have hP : va_P (dC, dI) vC [(qp, .inr (3, [.null, .int 0, .null, .null, .null, .null]))] H := hP
  have hD : va_D (fun z => s.heap.size ≤ z) [(qp, .inr (3, [.null, .int 0, .null, .null, .null, .null]))] := hD
  refine lv_dup hx hb d_L_law_3 rfl ?_
  have hFc := va_free (wc := [(qp, .inr (3, [.null, .int 0, .null, .null, .null, .null]))]) hD hS hA [0] rfl
  have hw0 : va_Nw (.methodLinkNest "PixelFormula" 19 y_K_init "PixelFormula") s := va_Nw.of rfl (A := #[Value.ref b0]) (hT1 _ (List.mem_of_getElem? (i := 25) (by decide +kernel)))
  have hw1 : va_Nw (.methodLinkNest "PixelFormula" 26 y_C_init "PixelFormula") s := va_Nw.of rfl (A := #[Value.ref b0]) (hT1 _ (List.mem_of_getElem? (i := 69) (by decide +kernel)))
  have hw2 : va_Nw (.methodLinkNest "PixelFormula" 33 y_H_init "PixelFormula") s := va_Nw.of rfl (A := #[Value.ref b0]) (hT1 _ (List.mem_of_getElem? (i := 93) (by decide +kernel)))
  have hw3 : va_Nw (.methodLinkNest "PixelFormula$Compiler" 28 y_K_init "PixelFormula") s := va_Nw.of rfl (A := #[Value.ref b0]) (hT1 _ (List.mem_of_getElem? (i := 74) (by decide +kernel)))
  refine va_callv (va_runI (As := []) (rest := [.ref qp]) ⟨hx, hb, hml, hown, hts⟩ (k_P_init l dC dI cI cC qp H.size) (cwI 0 hts (wA_c mw_19) rfl rfl rfl (hts _ mw_1) (hts _ mw_17) (hts _ mw_18) rfl hd_P_init ⟨Nat.le_of_ble_eq_true rfl, Nat.le_of_ble_eq_true rfl⟩) (cc_preX (N := fun U => va_Nw (.methodLinkNest "PixelFormula" 19 y_K_init "PixelFormula") U ∧ va_Nw (.methodLinkNest "PixelFormula" 26 y_C_init "PixelFormula") U ∧ va_Nw (.methodLinkNest "PixelFormula" 33 y_H_init "PixelFormula") U ∧ va_Nw (.methodLinkNest "PixelFormula$Compiler" 28 y_K_init "PixelFormula") U) (fun U g mk a h => ⟨ci_blind h.1, ci_blind h.2.1, ci_blind h.2.2.1, ci_blind h.2.2.2⟩) (fun U hW => ⟨va_Nw.warmM hW hw0, va_Nw.warmM hW hw1, va_Nw.warmM hW hw2, va_Nw.warmM hW hw3⟩) (hK.sub (tys' := [(cI, .int), (cC, .char)]) [0, 1] rfl) hP hD) rfl rfl hl.1 rfl (lv_room (Nat.le_of_ble_eq_true rfl)) d_L_law_4 ⟨by decide, by decide⟩) hS (fun q _ h => hFc q h) hFc (fun u t H1 locs ht hvm hw hB hz1 hk1 hS => ?_)
  obtain ⟨hP1, hK1, hD1⟩ := hB
  rw [ht] at hP1
  obtain ⟨hP, hD⟩ := va_join (wr := []) (w1 := [(qp, .inr (3, [.ref (u 1), .int 0, .ref (u 2), .ref (u 8), .ref (u 17), .ref (u 20)])), ((u 1), .inl (cC, 160, .inl (fun _ => 0))), ((u 2), .inr (0, [.ref (u 3), .ref (u 4), .ref (u 5), .ref (u 6), .ref (u 7), .int 0, .int 0])), ((u 3), .inl (cI, 100, .inl (fun _ => 0))), ((u 4), .inl (cI, 100, .inl (fun _ => 0))), ((u 5), .inl (cI, 100, .inl (fun _ => 0))), ((u 6), .inl (cI, 3, .inl (fun _ => 0))), ((u 7), .inl (cI, 26, .inl (fun _ => 0))), ((u 8), .inr (1, [.ref (u 9), .ref (u 10), .int 0, .int 0, .ref (u 11)])), ((u 9), .inl (cI, 26, .inl (fun _ => 0))), ((u 10), .inl (cC, 0, .inl (fun _ => 0))), ((u 11), .inr (0, [.ref (u 12), .ref (u 13), .ref (u 14), .ref (u 15), .ref (u 16), .int 0, .int 0])), ((u 12), .inl (cI, 100, .inl (fun _ => 0))), ((u 13), .inl (cI, 100, .inl (fun _ => 0))), ((u 14), .inl (cI, 100, .inl (fun _ => 0))), ((u 15), .inl (cI, 3, .inl (fun _ => 0))), ((u 16), .inl (cI, 26, .inl (fun _ => 0))), ((u 17), .inr (2, [.ref (u 18), .ref (u 19)])), ((u 18), .inl (cI, 100, .inl (fun _ => 0))), ((u 19), .inl (cI, 6, .inl (fun _ => 0))), ((u 20), .inl (cI, 32, .inl (fun _ => 0)))]) hP hD [0] [] rfl rfl (by decide) (by decide) hk1 hFc hP1 hD1
  generalize H1 = H at hP hS ⊢
  have hP := hP.sub (ws' := (wP (fun k => if k = 0 then qp else if k = 1 then (u 1) else if k = 2 then (u 20) else if k = 3 then (u 17) else if k = 4 then (u 18) else if k = 5 then (u 19) else if k = 6 then (u 8) else if k = 7 then (u 9) else if k = 8 then (u 2) else if k = 9 then (u 3) else if k = 10 then (u 4) else if k = 11 then (u 5) else if k = 12 then (u 6) else if k = 13 then (u 7) else if k = 14 then (u 11) else if k = 15 then (u 12) else if k = 16 then (u 13) else if k = 17 then (u 14) else if k = 18 then (u 15) else if k = 19 then (u 16) else 0) cI cC (u 10) (fun _ => 0) (fun _ _ => 0))) [0, 1, 20, 17, 18, 19, 8, 9, 2, 3, 4, 5, 6, 7, 11, 12, 13, 14, 15, 16] rfl
  have hD := hD.sub (ws' := (wP (fun k => if k = 0 then qp else if k = 1 then (u 1) else if k = 2 then (u 20) else if k = 3 then (u 17) else if k = 4 then (u 18) else if k = 5 then (u 19) else if k = 6 then (u 8) else if k = 7 then (u 9) else if k = 8 then (u 2) else if k = 9 then (u 3) else if k = 10 then (u 4) else if k = 11 then (u 5) else if k = 12 then (u 6) else if k = 13 then (u 7) else if k = 14 then (u 11) else if k = 15 then (u 12) else if k = 16 then (u 13) else if k = 17 then (u 14) else if k = 18 then (u 15) else if k = 19 then (u 16) else 0) cI cC (u 10) (fun _ => 0) (fun _ _ => 0))) [0, 1, 20, 17, 18, 19, 8, 9, 2, 3, 4, 5, 6, 7, 11, 12, 13, 14, 15, 16] (by decide) rfl
  obtain ⟨b, hbe⟩ : ∃ b : Nat → Nat, b = (fun k => if k = 0 then qp else if k = 1 then (u 1) else if k = 2 then (u 20) else if k = 3 then (u 17) else if k = 4 then (u 18) else if k = 5 then (u 19) else if k = 6 then (u 8) else if k = 7 then (u 9) else if k = 8 then (u 2) else if k = 9 then (u 3) else if k = 10 then (u 4) else if k = 11 then (u 5) else if k = 12 then (u 6) else if k = 13 then (u 7) else if k = 14 then (u 11) else if k = 15 then (u 12) else if k = 16 then (u 13) else if k = 17 then (u 14) else if k = 18 then (u 15) else if k = 19 then (u 16) else 0) := ⟨_, rfl⟩
  obtain ⟨tx, htx⟩ : ∃ tx : Nat, tx = (u 10) := ⟨_, rfl⟩
  have hb0 : qp = b 0 := by rw [hbe]; rfl
  have hP : va_P (dC, dI) vC (wP b cI cC tx (fun _ => 0) (fun _ _ => 0)) H := by rw [hbe, htx]; exact hP
  have hD : va_D (fun z => s.heap.size ≤ z) (wP b cI cC tx (fun _ => 0) (fun _ _ => 0)) := by rw [hbe, htx]; exact hD
  rw [hb0]
  refine lv_astore_n hx hb d_L_law_7 rfl hl (by decide) rfl (fun ls hl => ?_)
  have hl : lv_has ls 7 [(1, .ref (b 0)), (0, .ref b0)] := hl
  refine va_new (ci := 4) (fs := [.int 0, .int 0, .null, .int 0, .null, .null, .null, .null, .null, .int 0, .null, .null, .null, .null, .null, .int 0, .int 0, .int 0, .null, .null, .int 0, .null, .null, .int 0, .int 0, .null, .null, .null, .null]) (C := R_M) (T := T_M) (N := 29) hx hb hts in_M ty_M ty_M_ok hown (hts _ mw_497) (hts _ mw_498) (hts _ mw_5) hK hP hD hS hA rfl (fun j hj => by rcases (show j = 0 ∨ j = 1 ∨ j = 2 ∨ j = 3 ∨ j = 4 ∨ j = 5 ∨ j = 6 ∨ j = 7 ∨ j = 8 ∨ j = 9 ∨ j = 10 ∨ j = 11 ∨ j = 12 ∨ j = 13 ∨ j = 14 ∨ j = 15 ∨ j = 16 ∨ j = 17 ∨ j = 18 ∨ j = 19 ∨ j = 20 ∨ j = 21 ∨ j = 22 ∨ j = 23 ∨ j = 24 ∨ j = 25 ∨ j = 26 ∨ j = 27 ∨ j = 28 by omega) with rfl | rfl | rfl | rfl | rfl | rfl | rfl | rfl | rfl | rfl | rfl | rfl | rfl | rfl | rfl | rfl | rfl | rfl | rfl | rfl | rfl | rfl | rfl | rfl | rfl | rfl | rfl | rfl | rfl <;> rfl) (by decide) (by decide) d_L_law_8 (fun qm H hP hD hS => ?_)
  have hP : va_P (dC, dI) vC ((wP b cI cC tx (fun _ => 0) (fun _ _ => 0)) ++ [(qm, .inr (4, [.int 0, .int 0, .null, .int 0, .null, .null, .null, .null, .null, .int 0, .null, .null, .null, .null, .null, .int 0, .int 0, .int 0, .null, .null, .int 0, .null, .null, .int 0, .int 0, .null, .null, .null, .null]))]) H := hP
  have hD : va_D (fun z => s.heap.size ≤ z) ((wP b cI cC tx (fun _ => 0) (fun _ _ => 0)) ++ [(qm, .inr (4, [.int 0, .int 0, .null, .int 0, .null, .null, .null, .null, .null, .int 0, .null, .null, .null, .null, .null, .int 0, .int 0, .int 0, .null, .null, .int 0, .null, .null, .int 0, .int 0, .null, .null, .null, .null]))]) := hD
  refine lv_dup hx hb d_L_law_11 rfl ?_
  have hFc := va_free (wc := [(qm, .inr (4, [.int 0, .int 0, .null, .int 0, .null, .null, .null, .null, .null, .int 0, .null, .null, .null, .null, .null, .int 0, .int 0, .int 0, .null, .null, .int 0, .null, .null, .int 0, .int 0, .null, .null, .null, .null]))]) hD hS hA [20] rfl
  refine va_callv (va_runI (As := []) (rest := [.ref qm]) ⟨hx, hb, hml, hown, hts⟩ (k_M_init l dC dI cI cC qm H.size) (cwI 0 hts (wA_c mw_501) rfl rfl rfl (hts _ mw_5) (hts _ mw_499) (hts _ mw_500) rfl hd_M_init ⟨Nat.le_of_ble_eq_true rfl, Nat.le_of_ble_eq_true rfl⟩) (cc_pre (hK.sub (tys' := [(cI, .int), (cC, .char)]) [0, 1] rfl) (hP.sub (ws' := [(qm, .inr (4, [.int 0, .int 0, .null, .int 0, .null, .null, .null, .null, .null, .int 0, .null, .null, .null, .null, .null, .int 0, .int 0, .int 0, .null, .null, .int 0, .null, .null, .int 0, .int 0, .null, .null, .null, .null]))]) [20] rfl) (hD.sub (ws' := [(qm, .inr (4, [.int 0, .int 0, .null, .int 0, .null, .null, .null, .null, .null, .int 0, .null, .null, .null, .null, .null, .int 0, .int 0, .int 0, .null, .null, .int 0, .null, .null, .int 0, .int 0, .null, .null, .null, .null]))]) [20] (by decide) rfl)) rfl rfl hl.1 rfl (lv_room (Nat.le_of_ble_eq_true rfl)) d_L_law_12 ⟨by decide, by decide⟩) hS (fun q _ h => hFc q h) hFc (fun v t H1 locs ht hvm hw hB hz1 hk1 hS => ?_)
  obtain ⟨hP1, hK1, hD1⟩ := hB
  rw [ht] at hP1
  obtain ⟨hP, hD⟩ := va_join (wr := (wP b cI cC tx (fun _ => 0) (fun _ _ => 0))) (w1 := [(qm, .inr (4, [.int 0, .int 0, .ref (v 1), .int 0, .ref (v 2), .ref (v 3), .ref (v 4), .ref (v 5), .ref (v 6), .int 0, .ref (v 7), .ref (v 8), .ref (v 9), .ref (v 10), .ref (v 11), .int 0, .int 0, .int 0, .ref (v 12), .ref (v 13), .int 0, .ref (v 14), .ref (v 15), .int 0, .int 0, .ref (v 16), .ref (v 17), .ref (v 18), .ref (v 19)])), ((v 1), .inl (cI, 160, .inl (fun _ => 0))), ((v 2), .inl (cI, 100, .inl (fun _ => 0))), ((v 3), .inl (cI, 100, .inl (fun _ => 0))), ((v 4), .inl (cI, 100, .inl (fun _ => 0))), ((v 5), .inl (cI, 3, .inl (fun _ => 0))), ((v 6), .inl (cI, 26, .inl (fun _ => 0))), ((v 7), .inl (cI, 100, .inl (fun _ => 0))), ((v 8), .inl (cI, 100, .inl (fun _ => 0))), ((v 9), .inl (cI, 100, .inl (fun _ => 0))), ((v 10), .inl (cI, 26, .inl (fun _ => 0))), ((v 11), .inl (cI, 104, .inl (fun _ => 0))), ((v 12), .inl (cI, 80, .inl (fun _ => 0))), ((v 13), .inl (cI, 320, .inl (fun _ => 0))), ((v 14), .inl (cI, 200, .inl (fun _ => 0))), ((v 15), .inl (cI, 200, .inl (fun _ => 0))), ((v 16), .inl (cI, 4, .inl (fun _ => 0))), ((v 17), .inl (cI, 32, .inl (fun _ => 0))), ((v 18), .inl (cI, 32, .inl (fun _ => 0))), ((v 19), .inl (cI, 100, .inl (fun _ => 0)))]) hP hD [20] [0, 1, 2, 3, 4, 5, 6, 7, 8, 9, 10, 11, 12, 13, 14, 15, 16, 17, 18, 19] rfl rfl (by decide) (by decide) hk1 hFc hP1 hD1
  generalize H1 = H at hP hS ⊢
  have hP := hP.sub (ws' := ((wP b cI cC tx (fun _ => 0) (fun _ _ => 0)) ++ wM (fun k => if k = 0 then qm else if k = 1 then (v 1) else if k = 2 then (v 2) else if k = 3 then (v 3) else if k = 4 then (v 4) else if k = 5 then (v 5) else if k = 6 then (v 6) else if k = 7 then (v 7) else if k = 8 then (v 8) else if k = 9 then (v 9) else if k = 10 then (v 10) else if k = 11 then (v 11) else if k = 12 then (v 12) else if k = 13 then (v 13) else if k = 14 then (v 14) else if k = 15 then (v 15) else if k = 16 then (v 16) else if k = 17 then (v 17) else if k = 18 then (v 18) else if k = 19 then (v 19) else 0) cI (fun _ => 0) (fun _ _ => 0))) [0, 1, 2, 3, 4, 5, 6, 7, 8, 9, 10, 11, 12, 13, 14, 15, 16, 17, 18, 19, 20, 21, 22, 23, 24, 25, 26, 27, 28, 29, 30, 31, 32, 33, 34, 35, 36, 37, 38, 39] rfl
  have hD := hD.sub (ws' := ((wP b cI cC tx (fun _ => 0) (fun _ _ => 0)) ++ wM (fun k => if k = 0 then qm else if k = 1 then (v 1) else if k = 2 then (v 2) else if k = 3 then (v 3) else if k = 4 then (v 4) else if k = 5 then (v 5) else if k = 6 then (v 6) else if k = 7 then (v 7) else if k = 8 then (v 8) else if k = 9 then (v 9) else if k = 10 then (v 10) else if k = 11 then (v 11) else if k = 12 then (v 12) else if k = 13 then (v 13) else if k = 14 then (v 14) else if k = 15 then (v 15) else if k = 16 then (v 16) else if k = 17 then (v 17) else if k = 18 then (v 18) else if k = 19 then (v 19) else 0) cI (fun _ => 0) (fun _ _ => 0))) [0, 1, 2, 3, 4, 5, 6, 7, 8, 9, 10, 11, 12, 13, 14, 15, 16, 17, 18, 19, 20, 21, 22, 23, 24, 25, 26, 27, 28, 29, 30, 31, 32, 33, 34, 35, 36, 37, 38, 39] (by decide) rfl
  obtain ⟨o, hoe⟩ : ∃ o : Nat → Nat, o = (fun k => if k = 0 then qm else if k = 1 then (v 1) else if k = 2 then (v 2) else if k = 3 then (v 3) else if k = 4 then (v 4) else if k = 5 then (v 5) else if k = 6 then (v 6) else if k = 7 then (v 7) else if k = 8 then (v 8) else if k = 9 then (v 9) else if k = 10 then (v 10) else if k = 11 then (v 11) else if k = 12 then (v 12) else if k = 13 then (v 13) else if k = 14 then (v 14) else if k = 15 then (v 15) else if k = 16 then (v 16) else if k = 17 then (v 17) else if k = 18 then (v 18) else if k = 19 then (v 19) else 0) := ⟨_, rfl⟩
  have ho0 : qm = o 0 := by rw [hoe]; rfl
  have hP : va_P (dC, dI) vC ((wP b cI cC tx (fun _ => 0) (fun _ _ => 0)) ++ wM o cI (fun _ => 0) (fun _ _ => 0)) H := by rw [hoe]; exact hP
  have hD : va_D (fun z => s.heap.size ≤ z) ((wP b cI cC tx (fun _ => 0) (fun _ _ => 0)) ++ wM o cI (fun _ => 0) (fun _ _ => 0)) := by rw [hoe]; exact hD
  rw [ho0]
  refine lv_astore_n hx hb d_L_law_15 rfl hl (by decide) rfl (fun ls hl => ?_)
  have hl : lv_has ls 7 [(2, .ref (o 0)), (1, .ref (b 0)), (0, .ref b0)] := hl
  refine lv_iconst (v := 1) hx hb d_L_law_16 (by decide) ?_
  refine ci_newa (atype := .long) (ty := .long) (a0 := (1, .inr (.inl (fun _ => 0)))) (t0 := 2) hx hb (hts _ mw_787) rfl hK hP hD hS hA (by rfl) (fun _ h => h) (fun _ => rfl) (by decide) (by decide) (by decide) (by decide) (by decide) d_L_law_17 (fun q H hP hD hS => ?_)
  have hP := hP.sub (ws' := (wL q cJ (fun _ => 0) b cI cC tx (fun _ => 0) (fun _ _ => 0) o (fun _ => 0) (fun _ _ => 0))) [40, 0, 1, 2, 3, 4, 5, 6, 7, 8, 9, 10, 11, 12, 13, 14, 15, 16, 17, 18, 19, 20, 21, 22, 23, 24, 25, 26, 27, 28, 29, 30, 31, 32, 33, 34, 35, 36, 37, 38, 39] rfl
  have hD := hD.sub (ws' := (wL q cJ (fun _ => 0) b cI cC tx (fun _ => 0) (fun _ _ => 0) o (fun _ => 0) (fun _ _ => 0))) [40, 0, 1, 2, 3, 4, 5, 6, 7, 8, 9, 10, 11, 12, 13, 14, 15, 16, 17, 18, 19, 20, 21, 22, 23, 24, 25, 26, 27, 28, 29, 30, 31, 32, 33, 34, 35, 36, 37, 38, 39] (by decide) rfl
  refine lv_astore_n hx hb d_L_law_19 rfl hl (by decide) rfl (fun ls hl => ?_)
  have hl : lv_has ls 7 [(3, .ref q), (2, .ref (o 0)), (1, .ref (b 0)), (0, .ref b0)] := hl
  refine lv_iconst (v := 0) hx hb d_L_law_20 (by decide) ?_
  refine lv_istore hx hb d_L_law_21 hl (by decide) rfl (fun ls hl => ?_)
  have hl : lv_has ls 7 [(0, .ref b0), (1, .ref (b 0)), (2, .ref (o 0)), (3, .ref q), (4, .int (nI 0))] := lv_sub hl [4, 3, 2, 1, 0] rfl
  refine W.widen (k := 100 + 0) (n := 10000 + 6 * 0) (by decide) (by decide) ?_
  exact lw_loop C hr hlocks hall (L + 1) 0 0 (by omega) rfl (Nat.zero_le _) b tx _ _ _ _ _ H _ ls hinit hl hP hD hS
