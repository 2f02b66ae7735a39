set_option maxHeartbeats 8000000 in
set_option maxRecDepth 100000 in
theorem lc_typeOf {p : Program} {l : Launch} {e : Env} {s : State} {m : MethodId} {below : List Frame} {meth : Method} {c : Code} {b0 L : Nat} {xs : Nat → Int32} {dC : Nat → ClassId} {dI : Nat → Nat → Nat} {cI cC cJ : ClassId} {o : Nat → Nat} {q : Nat} {Inv : ST_F → ST_A → ST_F → ST_A → Prop} (C : lc_Ctx p l s m c b0 L xs dC dI cI cC cJ) {i k : Nat} (hH : li_r Inv (f_P_typeOf (xs (nI i + (1 : Int32)).toNatClampNeg)) (f_M_typeOf (xs (nI i + (1 : Int32)).toNatClampNeg)) [(3, 1)]) (hi : i + 6 ≤ L) (hk : k ≤ 600) {b : Nat → Nat} {tx : Nat} {g : Nat → Int64} {F : ST_F} {A : ST_A} {FM : ST_F} {AM : ST_A} {H : Heap} {locs : List Loc} {ls : Array Slot} (hI : Inv F A FM AM) (hl : lv_has ls 7 [(0, .ref b0), (1, .ref (b 0)), (2, .ref (o 0)), (3, .ref q), (4, .int (nI i))]) (hP : va_P (dC, dI) vC (wL q cJ g b cI cC tx F A o FM AM) H) (hD : va_D (fun z => s.heap.size ≤ z) (wL q cJ g b cI cC tx F A o FM AM)) (hS : va_S (fun z => s.heap.size ≤ z) s.heap H locs) (kk : lc_K p l e s m below meth c b0 dC dI cI cC cJ o q Inv i k) : W p l e room_1 s m #[Value.ref b0] below meth c H locs (100 + k) (10000 + 6 * k) (lw_Z below #[Value.ref b0] s) (F0 m 317 ls []) := by
  obtain ⟨hx, hb, hml, hown, hts, hX, hbl, hK, hZ, hN1, hN2, hN3, hfl, hL⟩ := C
  have hNo := And.intro hN1 (And.intro hN2 hN3)
  have hA : ∀ z : Nat, s.heap.size ≤ z → (fun z => s.heap.size ≤ z) z := fun z h => h
  rcases hH F A FM AM hI with ⟨r, F9, A9, F2, A2, h1, h2, hF2, hI⟩ | ⟨kc, hkc, r, F2, A2, h1, h2, hF2, hI⟩
  · refine lv_aload_n hx hb d_L_law_317 rfl (lv_at hl 1 rfl) ?_
    refine lv_aload_n hx hb d_L_law_318 rfl (lv_at hl 0 rfl) ?_
    refine lv_iload hx hb d_L_law_319 (lv_at hl 4 rfl) ?_
    refine lv_iconst (v := 1) hx hb d_L_law_321 (by decide) ?_
    refine lv_iadd hx hb d_L_law_322 ?_
    refine va_sld hx hb hX hbl (fun z => absurd hbl (Nat.not_lt.mpr z)) hS (lx_in hL 1 (by omega) rfl) d_L_law_323 ?_
    refine lv_aload_n hx hb d_L_law_324 rfl (lv_at hl 3 rfl) ?_
    refine cc_calliG (wc := (wO q cJ g b cI cC tx F A)) (w1 := (wO q cJ (vp_updL g 0 r.toInt64) b cI cC tx F9 A9)) (wq := (wM o cI FM AM)) (hw_runS (As := [.ref (b 0), .int (xs ((nI i) + (1 : Int32)).toNatClampNeg), .ref q]) (rest := []) ⟨hx, hb, hml, hown, hts⟩ (k_L_typeOf l dC dI q cJ g b cI cC tx H.size F A (xs ((nI i) + (1 : Int32)).toNatClampNeg) r F9 A9 h1) rfl rfl (Nat.le_of_ble_eq_true rfl) (Nat.le_of_ble_eq_true rfl) (pay_in hts (wA_h mw_419)) (hts _ mw_419) (hts _ mw_0) (hts _ mw_418) (hts _ mw_417) ⟨hd_L_typeOf.1, hd_L_typeOf.2.1⟩ hd_L_typeOf.2.2 (cc_pre hK (hP.sub [0, 1, 2, 3, 4, 5, 6, 7, 8, 9, 10, 11, 12, 13, 14, 15, 16, 17, 18, 19, 20] rfl) (hD.sub [0, 1, 2, 3, 4, 5, 6, 7, 8, 9, 10, 11, 12, 13, 14, 15, 16, 17, 18, 19, 20] (by decide) rfl)) rfl rfl hl.1 rfl (lv_room (Nat.le_of_ble_eq_true rfl)) d_L_law_325 ⟨(show (100 + k) + 0 ≤ 601024 by omega), (show (10000 + 6 * k) + 0 ≤ 7293034 by omega)⟩) hP hD hS hA [0, 1, 2, 3, 4, 5, 6, 7, 8, 9, 10, 11, 12, 13, 14, 15, 16, 17, 18, 19, 20] [21, 22, 23, 24, 25, 26, 27, 28, 29, 30, 31, 32, 33, 34, 35, 36, 37, 38, 39, 40] rfl rfl (by decide) (by decide) (fun H locs hP hD hS => ?_)
    have hP := hP.sub (ws' := (wL q cJ (vp_updL g 0 r.toInt64) b cI cC tx F9 A9 o FM AM)) [20, 21, 22, 23, 24, 25, 26, 27, 28, 29, 30, 31, 32, 33, 34, 35, 36, 37, 38, 39, 40, 0, 1, 2, 3, 4, 5, 6, 7, 8, 9, 10, 11, 12, 13, 14, 15, 16, 17, 18, 19] rfl
    have hD := hD.sub (ws' := (wL q cJ (vp_updL g 0 r.toInt64) b cI cC tx F9 A9 o FM AM)) [20, 21, 22, 23, 24, 25, 26, 27, 28, 29, 30, 31, 32, 33, 34, 35, 36, 37, 38, 39, 40, 0, 1, 2, 3, 4, 5, 6, 7, 8, 9, 10, 11, 12, 13, 14, 15, 16, 17, 18, 19] (by decide) rfl
    refine lv_istore hx hb d_L_law_328 hl (by decide) rfl (fun ls hl => ?_)
    have hl : lv_has ls 7 [(5, .int (0 : Int32)), (0, .ref b0), (1, .ref (b 0)), (2, .ref (o 0)), (3, .ref q), (4, .int (nI i))] := hl
    refine lv_aload_n hx hb d_L_law_330 rfl (lv_at hl 3 rfl) ?_
    refine lv_aload_n hx hb d_L_law_331 rfl (lv_at hl 1 rfl) ?_
    refine lv_iload hx hb d_L_law_332 (lv_at hl 5 rfl) ?_
    refine lv_iconst (v := 1) hx hb d_L_law_334 (by decide) ?_
    refine lv_iadd hx hb d_L_law_335 ?_
    refine va_sld hx hb hX hbl (fun z => absurd hbl (Nat.not_lt.mpr z)) hS (lx_in hL 1 (by omega) rfl) d_L_law_336 ?_
    refine cc_calliP (wc := (wM o cI FM AM)) (w1 := (wM o cI F2 A2)) (wq := (wO q cJ (vp_updL g 0 r.toInt64) b cI cC tx F9 A9)) (va_runV (As := [.int (xs ((nI i) + (1 : Int32)).toNatClampNeg)]) (rest := []) ⟨hx, hb, hml, hown, hts⟩ (k_M_typeOf l dC dI o cI H.size FM AM (xs ((nI i) + (1 : Int32)).toNatClampNeg) r F2 A2 h2) (cw_V 1 hts mw_740 mw_741 mw_742 mw_5 mw_743 rfl rfl rfl hd_M_typeOf ⟨Nat.le_of_ble_eq_true rfl, Nat.le_of_ble_eq_true rfl⟩) (cc_preVs (hK.sub (tys' := [(cI, .int)]) [0] rfl) hP hD [21, 22, 23, 24, 25, 26, 27, 28, 29, 30, 31, 32, 33, 34, 35, 36, 37, 38, 39, 40] (by decide) rfl rfl rfl (q0 := 21) rfl) rfl rfl hl.1 rfl (lv_room (Nat.le_of_ble_eq_true rfl)) d_L_law_337 ⟨(show (100 + k + 0) + 0 ≤ 601024 by omega), (show (10000 + 6 * k + 0) + 0 ≤ 7293034 by omega)⟩) hP hD hS hA [21, 22, 23, 24, 25, 26, 27, 28, 29, 30, 31, 32, 33, 34, 35, 36, 37, 38, 39, 40] [0, 1, 2, 3, 4, 5, 6, 7, 8, 9, 10, 11, 12, 13, 14, 15, 16, 17, 18, 19, 20] rfl rfl (by decide) (by decide) (fun H locs hP hD hS => ?_)
    have hP : va_P (dC, dI) vC (wL q cJ (vp_updL g 0 r.toInt64) b cI cC tx F9 A9 o F2 A2) H := hP
    have hD : va_D (fun z => s.heap.size ≤ z) (wL q cJ (vp_updL g 0 r.toInt64) b cI cC tx F9 A9 o F2 A2) := hD
    refine lv_istore hx hb d_L_law_340 hl (by decide) rfl (fun ls hl => ?_)
    have hl : lv_has ls 7 [(6, .int r), (5, .int (0 : Int32)), (0, .ref b0), (1, .ref (b 0)), (2, .ref (o 0)), (3, .ref q), (4, .int (nI i))] := hl
    refine lv_aload_n hx hb d_L_law_342 rfl (lv_at hl 4 rfl) ?_
    refine cc_calliP (wc := (wM o cI F2 A2)) (w1 := (wM o cI F2 A2)) (wq := (wO q cJ (vp_updL g 0 r.toInt64) b cI cC tx F9 A9)) (va_runV (As := []) (rest := []) ⟨hx, hb, hml, hown, hts⟩ (k_M_thrown l dC dI o cI H.size F2 A2 (F2 0) F2 A2 rfl) (cw_V 0 hts mw_591 mw_592 mw_593 mw_5 mw_594 rfl rfl rfl hd_M_thrown ⟨Nat.le_of_ble_eq_true rfl, Nat.le_of_ble_eq_true rfl⟩) (cc_preVs (hK.sub (tys' := [(cI, .int)]) [0] rfl) hP hD [21, 22, 23, 24, 25, 26, 27, 28, 29, 30, 31, 32, 33, 34, 35, 36, 37, 38, 39, 40] (by decide) rfl rfl rfl (q0 := 21) rfl) rfl rfl hl.1 rfl (lv_room (Nat.le_of_ble_eq_true rfl)) d_L_law_343 ⟨(show (100 + k + 0) + 0 ≤ 601024 by omega), (show (10000 + 6 * k + 0) + 0 ≤ 7293034 by omega)⟩) hP hD hS hA [21, 22, 23, 24, 25, 26, 27, 28, 29, 30, 31, 32, 33, 34, 35, 36, 37, 38, 39, 40] [0, 1, 2, 3, 4, 5, 6, 7, 8, 9, 10, 11, 12, 13, 14, 15, 16, 17, 18, 19, 20] rfl rfl (by decide) (by decide) (fun H locs hP hD hS => ?_)
    have hP : va_P (dC, dI) vC (wL q cJ (vp_updL g 0 r.toInt64) b cI cC tx F9 A9 o F2 A2) H := hP
    have hD : va_D (fun z => s.heap.size ≤ z) (wL q cJ (vp_updL g 0 r.toInt64) b cI cC tx F9 A9 o F2 A2) := hD
    refine lv_iload hx hb d_L_law_346 (lv_at hl 1 rfl) ?_
    refine lv_icmp_eq (tgt := 353) hx hb d_L_law_348 (by decide) (fun _ => ?_) (fun h => absurd hF2 h)
    refine lv_iload hx hb d_L_law_353 (lv_at hl 1 rfl) ?_
    refine lv_if_ne (tgt := 370) hx hb d_L_law_355 (by decide) (fun h => absurd rfl h) (fun _ => ?_)
    refine lv_aload_n hx hb d_L_law_358 rfl (lv_at hl 5 rfl) ?_
    refine lv_iconst (v := 0) hx hb d_L_law_359 (by decide) ?_
    refine va_lald hx hb hK hP 0 2 rfl rfl (by unfold vp_in; decide) d_L_law_360 ?_
    refine lv_iload hx hb d_L_law_361 (lv_at hl 0 rfl) ?_
    refine lv_i2l hx hb d_L_law_363 rfl ?_
    refine W.lcmp hx hb d_L_law_364 ?_
    refine lv_if_eq (tgt := 370) hx hb d_L_law_365 (by decide) (fun _ => ?_) (fun h => absurd ((lg_cmp_eq _ _).mpr lx_out) h)
    refine lv_goto (tgt := 641) hx hb d_L_law_370 (by decide) ?_
    have hl : lv_has ls 7 [(0, .ref b0), (1, .ref (b 0)), (2, .ref (o 0)), (3, .ref q), (4, .int (nI i))] := lv_sub hl [2, 3, 4, 5, 6] rfl
    refine W.widen (k := 101 + k) (n := 10006 + 6 * k) (by omega) (by omega) ?_
    exact kk b tx (vp_updL g 0 r.toInt64) F9 A9 F2 A2 _ _ _ hI hl hP hD hS
  · simp only [List.mem_cons, List.not_mem_nil, or_false] at hkc
    obtain rfl := hkc
    refine lv_aload_n hx hb d_L_law_317 rfl (lv_at hl 1 rfl) ?_
    refine lv_aload_n hx hb d_L_law_318 rfl (lv_at hl 0 rfl) ?_
    refine lv_iload hx hb d_L_law_319 (lv_at hl 4 rfl) ?_
    refine lv_iconst (v := 1) hx hb d_L_law_321 (by decide) ?_
    refine lv_iadd hx hb d_L_law_322 ?_
    refine va_sld hx hb hX hbl (fun z => absurd hbl (Nat.not_lt.mpr z)) hS (lx_in hL 1 (by omega) rfl) d_L_law_323 ?_
    refine lv_aload_n hx hb d_L_law_324 rfl (lv_at hl 3 rfl) ?_
    refine cc_calliG (wc := (wO q cJ g b cI cC tx F A)) (w1 := (wO q cJ g b cI cC tx F A)) (wq := (wM o cI FM AM)) (hw_runS (As := [.ref (b 0), .int (xs ((nI i) + (1 : Int32)).toNatClampNeg), .ref q]) (rest := []) ⟨hx, hb, hml, hown, hts⟩ (t_L_typeOf_3 l hfl dC dI q cJ g b cI cC tx H.size F A (xs ((nI i) + (1 : Int32)).toNatClampNeg) h1) rfl rfl (Nat.le_of_ble_eq_true rfl) (Nat.le_of_ble_eq_true rfl) (pay_in hts (wA_h mw_419)) (hts _ mw_419) (hts _ mw_0) (hts _ mw_418) (hts _ mw_417) ⟨hd_L_typeOf.1, hd_L_typeOf.2.1⟩ hd_L_typeOf.2.2 (th_preS hK hP hD (hZ.kept (fun z h1 h2 => hS.2.1 z h1 h2)) hNo [0, 1, 2, 3, 4, 5, 6, 7, 8, 9, 10, 11, 12, 13, 14, 15, 16, 17, 18, 19, 20] (by decide) rfl rfl) rfl rfl hl.1 rfl (lv_room (Nat.le_of_ble_eq_true rfl)) d_L_law_325 ⟨(show (100 + k) + 1 ≤ 601024 by omega), (show (10000 + 6 * k) + 6 ≤ 7293034 by omega)⟩) hP hD hS hA [0, 1, 2, 3, 4, 5, 6, 7, 8, 9, 10, 11, 12, 13, 14, 15, 16, 17, 18, 19, 20] [21, 22, 23, 24, 25, 26, 27, 28, 29, 30, 31, 32, 33, 34, 35, 36, 37, 38, 39, 40] rfl rfl (by decide) (by decide) (fun H locs hP hD hS => ?_)
    have hP := hP.sub (ws' := (wL q cJ g b cI cC tx F A o FM AM)) [20, 21, 22, 23, 24, 25, 26, 27, 28, 29, 30, 31, 32, 33, 34, 35, 36, 37, 38, 39, 40, 0, 1, 2, 3, 4, 5, 6, 7, 8, 9, 10, 11, 12, 13, 14, 15, 16, 17, 18, 19] rfl
    have hD := hD.sub (ws' := (wL q cJ g b cI cC tx F A o FM AM)) [20, 21, 22, 23, 24, 25, 26, 27, 28, 29, 30, 31, 32, 33, 34, 35, 36, 37, 38, 39, 40, 0, 1, 2, 3, 4, 5, 6, 7, 8, 9, 10, 11, 12, 13, 14, 15, 16, 17, 18, 19] (by decide) rfl
    refine lv_istore hx hb d_L_law_328 hl (by decide) rfl (fun ls hl => ?_)
    have hl : lv_has ls 7 [(5, .int (1 : Int32)), (0, .ref b0), (1, .ref (b 0)), (2, .ref (o 0)), (3, .ref q), (4, .int (nI i))] := hl
    refine lv_aload_n hx hb d_L_law_330 rfl (lv_at hl 3 rfl) ?_
    refine lv_aload_n hx hb d_L_law_331 rfl (lv_at hl 1 rfl) ?_
    refine lv_iload hx hb d_L_law_332 (lv_at hl 5 rfl) ?_
    refine lv_iconst (v := 1) hx hb d_L_law_334 (by decide) ?_
    refine lv_iadd hx hb d_L_law_335 ?_
    refine va_sld hx hb hX hbl (fun z => absurd hbl (Nat.not_lt.mpr z)) hS (lx_in hL 1 (by omega) rfl) d_L_law_336 ?_
    refine cc_calliP (wc := (wM o cI FM AM)) (w1 := (wM o cI F2 A2)) (wq := (wO q cJ g b cI cC tx F A)) (va_runV (As := [.int (xs ((nI i) + (1 : Int32)).toNatClampNeg)]) (rest := []) ⟨hx, hb, hml, hown, hts⟩ (k_M_typeOf l dC dI o cI H.size FM AM (xs ((nI i) + (1 : Int32)).toNatClampNeg) r F2 A2 h2) (cw_V 1 hts mw_740 mw_741 mw_742 mw_5 mw_743 rfl rfl rfl hd_M_typeOf ⟨Nat.le_of_ble_eq_true rfl, Nat.le_of_ble_eq_true rfl⟩) (cc_preVs (hK.sub (tys' := [(cI, .int)]) [0] rfl) hP hD [21, 22, 23, 24, 25, 26, 27, 28, 29, 30, 31, 32, 33, 34, 35, 36, 37, 38, 39, 40] (by decide) rfl rfl rfl (q0 := 21) rfl) rfl rfl hl.1 rfl (lv_room (Nat.le_of_ble_eq_true rfl)) d_L_law_337 ⟨(show (100 + k + 1) + 0 ≤ 601024 by omega), (show (10000 + 6 * k + 6) + 0 ≤ 7293034 by omega)⟩) hP hD hS hA [21, 22, 23, 24, 25, 26, 27, 28, 29, 30, 31, 32, 33, 34, 35, 36, 37, 38, 39, 40] [0, 1, 2, 3, 4, 5, 6, 7, 8, 9, 10, 11, 12, 13, 14, 15, 16, 17, 18, 19, 20] rfl rfl (by decide) (by decide) (fun H locs hP hD hS => ?_)
    have hP : va_P (dC, dI) vC (wL q cJ g b cI cC tx F A o F2 A2) H := hP
    have hD : va_D (fun z => s.heap.size ≤ z) (wL q cJ g b cI cC tx F A o F2 A2) := hD
    refine lv_istore hx hb d_L_law_340 hl (by decide) rfl (fun ls hl => ?_)
    have hl : lv_has ls 7 [(6, .int r), (5, .int (1 : Int32)), (0, .ref b0), (1, .ref (b 0)), (2, .ref (o 0)), (3, .ref q), (4, .int (nI i))] := hl
    refine lv_aload_n hx hb d_L_law_342 rfl (lv_at hl 4 rfl) ?_
    refine cc_calliP (wc := (wM o cI F2 A2)) (w1 := (wM o cI F2 A2)) (wq := (wO q cJ g b cI cC tx F A)) (va_runV (As := []) (rest := []) ⟨hx, hb, hml, hown, hts⟩ (k_M_thrown l dC dI o cI H.size F2 A2 (F2 0) F2 A2 rfl) (cw_V 0 hts mw_591 mw_592 mw_593 mw_5 mw_594 rfl rfl rfl hd_M_thrown ⟨Nat.le_of_ble_eq_true rfl, Nat.le_of_ble_eq_true rfl⟩) (cc_preVs (hK.sub (tys' := [(cI, .int)]) [0] rfl) hP hD [21, 22, 23, 24, 25, 26, 27, 28, 29, 30, 31, 32, 33, 34, 35, 36, 37, 38, 39, 40] (by decide) rfl rfl rfl (q0 := 21) rfl) rfl rfl hl.1 rfl (lv_room (Nat.le_of_ble_eq_true rfl)) d_L_law_343 ⟨(show (100 + k + 1) + 0 ≤ 601024 by omega), (show (10000 + 6 * k + 6) + 0 ≤ 7293034 by omega)⟩) hP hD hS hA [21, 22, 23, 24, 25, 26, 27, 28, 29, 30, 31, 32, 33, 34, 35, 36, 37, 38, 39, 40] [0, 1, 2, 3, 4, 5, 6, 7, 8, 9, 10, 11, 12, 13, 14, 15, 16, 17, 18, 19, 20] rfl rfl (by decide) (by decide) (fun H locs hP hD hS => ?_)
    have hP : va_P (dC, dI) vC (wL q cJ g b cI cC tx F A o F2 A2) H := hP
    have hD : va_D (fun z => s.heap.size ≤ z) (wL q cJ g b cI cC tx F A o F2 A2) := hD
    refine lv_iload hx hb d_L_law_346 (lv_at hl 1 rfl) ?_
    refine lv_icmp_eq (tgt := 353) hx hb d_L_law_348 (by decide) (fun _ => ?_) (fun h => absurd hF2 h)
    refine lv_iload hx hb d_L_law_353 (lv_at hl 1 rfl) ?_
    refine lv_if_ne (tgt := 370) hx hb d_L_law_355 (by decide) (fun _ => ?_) (fun h => absurd h (by decide))
    refine lv_goto (tgt := 641) hx hb d_L_law_370 (by decide) ?_
    have hl : lv_has ls 7 [(0, .ref b0), (1, .ref (b 0)), (2, .ref (o 0)), (3, .ref q), (4, .int (nI i))] := lv_sub hl [2, 3, 4, 5, 6] rfl
    refine W.widen (k := 101 + k) (n := 10006 + 6 * k) (by omega) (by omega) ?_
    exact kk b tx g F A F2 A2 _ _ _ hI hl hP hD hS
