set_option maxHeartbeats 8000000 in
set_option maxRecDepth 100000 in
theorem lc_compile {p : Program} {l : Launch} {e : Env} {s : State} {m : MethodId} {below : List Frame} {meth : Method} {c : Code} {b0 L : Nat} {xs : Nat → Int32} {dC : Nat → ClassId} {dI : Nat → Nat → Nat} {cI cC cJ : ClassId} {o : Nat → Nat} {q : Nat} {Inv : ST_F → ST_A → ST_F → ST_A → Prop} (C : lc_Ctx p l s m c b0 L xs dC dI cI cC cJ) {i k : Nat} (hH : li_c Inv) (hi : i + 6 ≤ L) (hk : k ≤ 600) {b : Nat → Nat} {tx : Nat} {g : Nat → Int64} {F : ST_F} {A : ST_A} {FM : ST_F} {AM : ST_A} {H : Heap} {locs : List Loc} {ls : Array Slot} (hI : Inv F A FM AM) (hl : lv_has ls 7 [(0, .ref b0), (1, .ref (b 0)), (2, .ref (o 0)), (3, .ref q), (4, .int (nI i))]) (hP : va_P (dC, dI) vC (wL q cJ g b cI cC tx F A o FM AM) H) (hD : va_D (fun z => s.heap.size ≤ z) (wL q cJ g b cI cC tx F A o FM AM)) (hS : va_S (fun z => s.heap.size ≤ z) s.heap H locs) (kk : lc_K p l e s m below meth c b0 dC dI cI cC cJ o q Inv i k) : W p l e room_1 s m #[Value.ref b0] below meth c H locs (100 + k) (10000 + 6 * k) (lw_Z below #[Value.ref b0] s) (F0 m 167 ls []) := by
  obtain ⟨hx, hb, hml, hown, hts, hX, hbl, hK, hZ, hN1, hN2, hN3, hfl, hL⟩ := C
  have hNo := And.intro hN1 (And.intro hN2 hN3)
  have hA : ∀ z : Nat, s.heap.size ≤ z → (fun z => s.heap.size ≤ z) z := fun z h => h
  obtain ⟨fu, r, F9, A9, F2, A2, h1, h2, hI⟩ := hH F A FM AM hI
  refine lv_aload_n hx hb d_L_law_167 rfl (lv_at hl 1 rfl) ?_
  refine cc_calliP (wc := (wP b cI cC tx F A)) (w1 := (wP (if r = 0 then b else sw_b b) cI cC (b 1) F9 A9)) (wq := ((q, .inl (cJ, 1, .inr (.inl g))) :: (wM o cI FM AM))) (va_runV (As := []) (rest := []) ⟨hx, hb, hml, hown, hts⟩ (k_P_compile l dC dI b cI cC tx H.size F A  r F9 A9 h1) (cw_V 0 hts mw_128 mw_129 mw_130 mw_1 mw_131 rfl rfl rfl hd_P_compile ⟨Nat.le_of_ble_eq_true rfl, Nat.le_of_ble_eq_true rfl⟩) (cc_preVs (hK.sub (tys' := [(cI, .int), (cC, .char)]) [0, 1] rfl) hP hD [1, 2, 3, 4, 5, 6, 7, 8, 9, 10, 11, 12, 13, 14, 15, 16, 17, 18, 19, 20] (by decide) rfl rfl rfl (q0 := 1) rfl) rfl rfl hl.1 rfl (lv_room (Nat.le_of_ble_eq_true rfl)) d_L_law_168 ⟨(show (100 + k) + 0 ≤ 601024 by omega), (show (10000 + 6 * k) + 0 ≤ 7293034 by omega)⟩) hP hD hS hA [1, 2, 3, 4, 5, 6, 7, 8, 9, 10, 11, 12, 13, 14, 15, 16, 17, 18, 19, 20] [0, 21, 22, 23, 24, 25, 26, 27, 28, 29, 30, 31, 32, 33, 34, 35, 36, 37, 38, 39, 40] rfl rfl (by decide) (by decide) (fun H locs hP hD hS => ?_)
  obtain ⟨b', hb', hb0⟩ : ∃ b' : Nat → Nat, b' = (if r = 0 then b else sw_b b) ∧ b' 0 = b 0 := by
    by_cases h : r = 0
    · exact ⟨b, by rw [if_pos h], rfl⟩
    · exact ⟨sw_b b, by rw [if_neg h], rfl⟩
  rw [← hb'] at hP hD
  rw [← hb0] at hl
  have hP := hP.sub (ws' := (wL q cJ g b' cI cC (b 1) F9 A9 o FM AM)) [0, 21, 22, 23, 24, 25, 26, 27, 28, 29, 30, 31, 32, 33, 34, 35, 36, 37, 38, 39, 40, 1, 2, 3, 4, 5, 6, 7, 8, 9, 10, 11, 12, 13, 14, 15, 16, 17, 18, 19, 20] rfl
  have hD := hD.sub (ws' := (wL q cJ g b' cI cC (b 1) F9 A9 o FM AM)) [0, 21, 22, 23, 24, 25, 26, 27, 28, 29, 30, 31, 32, 33, 34, 35, 36, 37, 38, 39, 40, 1, 2, 3, 4, 5, 6, 7, 8, 9, 10, 11, 12, 13, 14, 15, 16, 17, 18, 19, 20] (by decide) rfl
  refine lv_aload_n hx hb d_L_law_171 rfl (lv_at hl 2 rfl) ?_
  refine cc_calliP (wc := (wM o cI FM AM)) (w1 := (wM o cI F2 A2)) (wq := (wO q cJ g b' cI cC (b 1) F9 A9)) (va_runV (As := []) (rest := [.int r]) ⟨hx, hb, hml, hown, hts⟩ (k_M_compile l dC dI o cI fu H.size FM AM  r F2 A2 h2) (cw_V 0 hts mw_603 mw_604 mw_605 mw_5 mw_606 rfl rfl rfl hd_M_compile ⟨Nat.le_of_ble_eq_true rfl, Nat.le_of_ble_eq_true rfl⟩) (cc_preVs (hK.sub (tys' := [(cI, .int)]) [0] rfl) hP hD [21, 22, 23, 24, 25, 26, 27, 28, 29, 30, 31, 32, 33, 34, 35, 36, 37, 38, 39, 40] (by decide) rfl rfl rfl (q0 := 21) rfl) rfl rfl hl.1 rfl (lv_room (Nat.le_of_ble_eq_true rfl)) d_L_law_172 ⟨(show (100 + k) + 0 ≤ 601024 by omega), (show (10000 + 6 * k) + 0 ≤ 7293034 by omega)⟩) hP hD hS hA [21, 22, 23, 24, 25, 26, 27, 28, 29, 30, 31, 32, 33, 34, 35, 36, 37, 38, 39, 40] [0, 1, 2, 3, 4, 5, 6, 7, 8, 9, 10, 11, 12, 13, 14, 15, 16, 17, 18, 19, 20] rfl rfl (by decide) (by decide) (fun H locs hP hD hS => ?_)
  have hP : va_P (dC, dI) vC (wL q cJ g b' cI cC (b 1) F9 A9 o F2 A2) H := hP
  have hD : va_D (fun z => s.heap.size ≤ z) (wL q cJ g b' cI cC (b 1) F9 A9 o F2 A2) := hD
  refine lv_icmp_eq (tgt := 641) hx hb d_L_law_175 (by decide) (fun _ => ?_) (fun h => absurd rfl h)
  have hl : lv_has ls 7 [(0, .ref b0), (1, .ref (b' 0)), (2, .ref (o 0)), (3, .ref q), (4, .int (nI i))] := lv_sub hl [0, 1, 2, 3, 4] rfl
  refine W.widen (k := 101 + k) (n := 10006 + 6 * k) (by omega) (by omega) ?_
  exact kk b' (b 1) g F9 A9 F2 A2 _ _ _ hI hl hP hD hS
