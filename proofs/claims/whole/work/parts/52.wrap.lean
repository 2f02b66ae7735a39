set_option maxHeartbeats 4000000 in
set_option maxRecDepth 100000 in
theorem k_L_type (l : Launch) (dC : Nat → ClassId) (dI : Nat → Nat → Nat) (q : Nat) (cJ : ClassId) (g : Nat → Int64) (b : Nat → Nat) (cI cC : ClassId) (tx : Nat) (sz : Nat) (Fa : ST_F) (Aa : ST_A) (u1 : Int32) (r0 : Int32) (F9 : ST_F) (A9 : ST_A) (hf : f_P_type u1 Fa Aa = some (.inr (r0, F9, A9))) : Met l y_L_type (Cond.codeWith y_L_type b_L_type 4 (some .int) [(0, 9, 12, 13), (0, 9, 15, 15)] :: wA) ({ frames := 1, cells := 0, slots := 0, locals := 24 } : Room) (va_Pc ([.ref (b 0), .int u1, .ref q] : List Value) (cc_Pre (dC, dI) vC [(cI, .int), (cC, .char), (cJ, .long)] (wO q cJ g b cI cC tx Fa Aa) sz)) (cc_Qi (dC, dI) vC [(cI, .int), (cC, .char), (cJ, .long)] (wO q cJ g b cI cC tx Fa Aa) sz (wO q cJ (vp_updL g 0 r0.toInt64) b cI cC tx F9 A9) 0) 0 0 (va_A (wO q cJ g b cI cC tx Fa Aa) sz) := by
  refine hw_ofW (cc := b_L_type) (maxL := 4) (ret := (some .int)) (hs := [(0, 9, 12, 13), (0, 9, 15, 15)]) (by decide) rfl ?_
  intro p e s m args below meth c s₁ B hml htab hv
  obtain ⟨rfl, hsz, hP, hK, hD0⟩ := hv
  have hx := B.exec
  have hb := B.bytes
  have hr := B.returns
  have hts := fun w h => atoms_spec (ws := (Cond.codeWith y_L_type b_L_type 4 (some .int) [(0, 9, 12, 13), (0, 9, 15, 15)] :: wA)) B.pre w (List.mem_cons_of_mem _ h)
  have hown : s.vm.findClass R_L = some m.cls := findClass_of_methodNamed B.named
  have hlocks := B.notSynchronized
  subst hsz
  have hD := hD0.self (sz := s.heap.size)
  have hK2 := hK.sub (tys' := [(cI, .int), (cC, .char)]) [0, 1] rfl
  have hA : ∀ z : Nat, s.heap.size ≤ z → (va_A (wO q cJ g b cI cC tx Fa Aa) s.heap.size) z := fun z h => Or.inr h
  have hS : va_S (va_A (wO q cJ g b cI cC tx Fa Aa) s.heap.size) s.heap s.heap [] := va_S.rf
  have hl := lv_entry (([.ref (b 0), .int u1, .ref q] : List Value)) (n := 4) (Nat.le_of_ble_eq_true rfl)
  rw [lg_entry_eq]
  generalize (lg_sl (([.ref (b 0), .int u1, .ref q] : List Value)) ++ List.replicate (4 - (lg_sl (([.ref (b 0), .int u1, .ref q] : List Value))).length) Slot.unset).toArray = ls at hl ⊢
  have hl : lv_has ls 4 [(0, .ref (b 0)), (1, .int u1), (2, .ref q)] := hl
  refine lv_aload_n hx hb d_L_type_0 rfl (lv_at hl 2 rfl) ?_
  refine lv_iconst (v := 0) hx hb d_L_type_1 (by decide) ?_
  refine lv_aload_n hx hb d_L_type_2 rfl (lv_at hl 0 rfl) ?_
  refine lv_iload_n hx hb d_L_type_3 rfl (lv_at hl 1 rfl) ?_
  refine cc_calliP (wc := (wP b cI cC tx Fa Aa)) (w1 := (wP b cI cC tx F9 A9)) (wq := [(q, .inl (cJ, 1, .inr (.inl g)))]) (va_runV (As := [.int u1]) (rest := [.int (0 : Int32), .ref q]) ⟨hx, hb, hml, hown, hts⟩ (k_P_type l dC dI b cI cC tx s.heap.size Fa Aa u1 r0 F9 A9 hf) (cw_V 1 hts mw_297 mw_298 mw_299 mw_1 mw_300 rfl rfl rfl hd_P_type ⟨Nat.le_of_ble_eq_true rfl, Nat.le_of_ble_eq_true rfl⟩) (cc_preVs hK2 hP hD [1, 2, 3, 4, 5, 6, 7, 8, 9, 10, 11, 12, 13, 14, 15, 16, 17, 18, 19, 20] (by decide) rfl rfl rfl (q0 := 1) rfl) rfl rfl hl.1 rfl (lv_room (Nat.le_of_ble_eq_true rfl)) d_L_type_4 ⟨Nat.zero_le _, Nat.zero_le _⟩) hP hD hS hA [1, 2, 3, 4, 5, 6, 7, 8, 9, 10, 11, 12, 13, 14, 15, 16, 17, 18, 19, 20] [0] rfl rfl (by decide) (by decide) (fun H locs hP hD hS => ?_)
  refine lv_i2l hx hb d_L_type_7 rfl ?_
  refine va_last hx hb hK hP hD hS 0 2 rfl rfl (by unfold vp_in; decide) d_L_type_8 (fun H locs hP hD hS => ?_)
  have hP : va_P (dC, dI) vC (wO q cJ (vp_updL g 0 r0.toInt64) b cI cC tx F9 A9) H := hP
  have hD : va_D (va_A (wO q cJ g b cI cC tx Fa Aa) s.heap.size) (wO q cJ (vp_updL g 0 r0.toInt64) b cI cC tx F9 A9) := hD
  refine lv_goto (tgt := 18) hx hb d_L_type_9 (by decide) ?_
  refine lv_iconst (v := 0) hx hb d_L_type_18 (by decide) ?_
  exact W.iret hx hb hr (fun t ht hW => ⟨⟨_, (), rfl, rfl, by rw [ht]; exact hP, va_K.moved hW.alike hK, hD⟩, hS.F ht⟩) hS.2.2 d_L_type_19
set_option maxHeartbeats 4000000 in
set_option maxRecDepth 100000 in
theorem t_L_type_1 (l : Launch) (hfl : l.stackTraces = false) (dC : Nat → ClassId) (dI : Nat → Nat → Nat) (q : Nat) (cJ : ClassId) (g : Nat → Int64) (b : Nat → Nat) (cI cC : ClassId) (tx : Nat) (sz : Nat) (Fa : ST_F) (Aa : ST_A) (u1 : Int32) (hf : f_P_type u1 Fa Aa = some (.inl 1)) : Met l y_L_type (Cond.codeWith y_L_type b_L_type 4 (some .int) [(0, 9, 12, 13), (0, 9, 15, 15)] :: wA) ({ frames := 9, cells := 1, slots := 6, locals := 144 } : Room) (va_Pc ([.ref (b 0), .int u1, .ref q] : List Value) (fun U => cc_Pre (dC, dI) vC [(cI, .int), (cC, .char), (cJ, .long)] (wO q cJ g b cI cC tx Fa Aa) sz U ∧ th_NZ U)) (cc_Qi (dC, dI) vC [(cI, .int), (cC, .char), (cJ, .long)] (wO q cJ g b cI cC tx Fa Aa) sz (wO q cJ g b cI cC tx Fa Aa) 1) 1 6 (va_A (wO q cJ g b cI cC tx Fa Aa) sz) := by
  refine hw_ofW (cc := b_L_type) (maxL := 4) (ret := (some .int)) (hs := [(0, 9, 12, 13), (0, 9, 15, 15)]) (by decide) rfl ?_
  intro p e s m args below meth c s₁ B hml htab hv
  obtain ⟨rfl, ⟨hsz, hP, hK, hD0⟩, ⟨B0, hZ⟩, hN1, hN2, hN3⟩ := hv
  have hx := B.exec
  have hb := B.bytes
  have hr := B.returns
  have hts := fun w h => atoms_spec (ws := (Cond.codeWith y_L_type b_L_type 4 (some .int) [(0, 9, 12, 13), (0, 9, 15, 15)] :: wA)) B.pre w (List.mem_cons_of_mem _ h)
  have hown : s.vm.findClass R_L = some m.cls := findClass_of_methodNamed B.named
  have hlocks := B.notSynchronized
  subst hsz
  have hD := hD0.self (sz := s.heap.size)
  have hK2 := hK.sub (tys' := [(cI, .int), (cC, .char)]) [0, 1] rfl
  have hA : ∀ z : Nat, s.heap.size ≤ z → (va_A (wO q cJ g b cI cC tx Fa Aa) s.heap.size) z := fun z h => Or.inr h
  have hS : va_S (va_A (wO q cJ g b cI cC tx Fa Aa) s.heap.size) s.heap s.heap [] := va_S.rf
  have hl := lv_entry (([.ref (b 0), .int u1, .ref q] : List Value)) (n := 4) (Nat.le_of_ble_eq_true rfl)
  rw [lg_entry_eq]
  generalize (lg_sl (([.ref (b 0), .int u1, .ref q] : List Value)) ++ List.replicate (4 - (lg_sl (([.ref (b 0), .int u1, .ref q] : List Value))).length) Slot.unset).toArray = ls at hl ⊢
  have hl : lv_has ls 4 [(0, .ref (b 0)), (1, .int u1), (2, .ref q)] := hl
  refine lv_aload_n hx hb d_L_type_0 rfl (lv_at hl 2 rfl) ?_
  refine lv_iconst (v := 0) hx hb d_L_type_1 (by decide) ?_
  refine lv_aload_n hx hb d_L_type_2 rfl (lv_at hl 0 rfl) ?_
  refine lv_iload_n hx hb d_L_type_3 rfl (lv_at hl 1 rfl) ?_
  have htab2 : c.exceptionTable.toList = [⟨0, 9, 12, 13⟩, ⟨0, 9, 15, 15⟩] := htab
  refine th_callV (As := [.int u1]) (rest := [.int (0 : Int32), .ref q]) (hp := 12) ⟨hx, hb, hml, hown, hts⟩ (t_P_type_1 l hfl dC dI b cI cC tx s.heap.size Fa Aa u1 hf) (cw_VT 1 hts mw_297 mw_298 mw_299 mw_1 mw_300 rfl rfl rfl hd_P_type ⟨Nat.le_of_ble_eq_true rfl, Nat.le_of_ble_eq_true rfl⟩) (th_preV hK2 hP hD hZ [1, 2, 3, 4, 5, 6, 7, 8, 9, 10, 11, 12, 13, 14, 15, 16, 17, 18, 19, 20] (by decide) rfl rfl rfl (q0 := 1) rfl) rfl hl.1 rfl (lv_room (Nat.le_of_ble_eq_true rfl)) d_L_type_4 ⟨by decide, by decide⟩ (by rw [htab2]; exact ⟨rfl, by decide, _, hts _ mw_295, Or.inl ⟨rfl, rfl⟩⟩) (fun x H hz ho => ?_)
  have hP := hP.kept (H1 := H) (fun k q hk => ho q.1 (hP k q hk).lt)
  have hS : va_S (va_A (wO q cJ g b cI cC tx Fa Aa) s.heap.size) s.heap H [] := ⟨hz, fun q h _ => ho q h, fun _ h => by cases h⟩
  refine lv_astore_n hx hb d_L_type_12 rfl hl (by decide) rfl (fun ls hl => ?_)
  refine lv_iconst (v := 1) hx hb d_L_type_13 (by decide) ?_
  exact W.iret hx hb hr (fun t ht hW => ⟨⟨_, (), rfl, rfl, by rw [ht]; exact hP, va_K.moved hW.alike hK, hD⟩, hS.F ht⟩) hS.2.2 d_L_type_14
set_option maxHeartbeats 4000000 in
set_option maxRecDepth 100000 in
theorem t_L_type_2 (l : Launch) (hfl : l.stackTraces = false) (dC : Nat → ClassId) (dI : Nat → Nat → Nat) (q : Nat) (cJ : ClassId) (g : Nat → Int64) (b : Nat → Nat) (cI cC : ClassId) (tx : Nat) (sz : Nat) (Fa : ST_F) (Aa : ST_A) (u1 : Int32) (hf : f_P_type u1 Fa Aa = some (.inl 2)) : Met l y_L_type (Cond.codeWith y_L_type b_L_type 4 (some .int) [(0, 9, 12, 13), (0, 9, 15, 15)] :: wA) ({ frames := 9, cells := 1, slots := 6, locals := 144 } : Room) (va_Pc ([.ref (b 0), .int u1, .ref q] : List Value) (fun U => cc_Pre (dC, dI) vC [(cI, .int), (cC, .char), (cJ, .long)] (wO q cJ g b cI cC tx Fa Aa) sz U ∧ th_NZ U)) (cc_Qi (dC, dI) vC [(cI, .int), (cC, .char), (cJ, .long)] (wO q cJ g b cI cC tx Fa Aa) sz (wO q cJ g b cI cC tx Fa Aa) 2) 1 6 (va_A (wO q cJ g b cI cC tx Fa Aa) sz) := by
  refine hw_ofW (cc := b_L_type) (maxL := 4) (ret := (some .int)) (hs := [(0, 9, 12, 13), (0, 9, 15, 15)]) (by decide) rfl ?_
  intro p e s m args below meth c s₁ B hml htab hv
  obtain ⟨rfl, ⟨hsz, hP, hK, hD0⟩, ⟨B0, hZ⟩, hN1, hN2, hN3⟩ := hv
  have hx := B.exec
  have hb := B.bytes
  have hr := B.returns
  have hts := fun w h => atoms_spec (ws := (Cond.codeWith y_L_type b_L_type 4 (some .int) [(0, 9, 12, 13), (0, 9, 15, 15)] :: wA)) B.pre w (List.mem_cons_of_mem _ h)
  have hown : s.vm.findClass R_L = some m.cls := findClass_of_methodNamed B.named
  have hlocks := B.notSynchronized
  subst hsz
  have hD := hD0.self (sz := s.heap.size)
  have hK2 := hK.sub (tys' := [(cI, .int), (cC, .char)]) [0, 1] rfl
  have hA : ∀ z : Nat, s.heap.size ≤ z → (va_A (wO q cJ g b cI cC tx Fa Aa) s.heap.size) z := fun z h => Or.inr h
  have hS : va_S (va_A (wO q cJ g b cI cC tx Fa Aa) s.heap.size) s.heap s.heap [] := va_S.rf
  have hl := lv_entry (([.ref (b 0), .int u1, .ref q] : List Value)) (n := 4) (Nat.le_of_ble_eq_true rfl)
  rw [lg_entry_eq]
  generalize (lg_sl (([.ref (b 0), .int u1, .ref q] : List Value)) ++ List.replicate (4 - (lg_sl (([.ref (b 0), .int u1, .ref q] : List Value))).length) Slot.unset).toArray = ls at hl ⊢
  have hl : lv_has ls 4 [(0, .ref (b 0)), (1, .int u1), (2, .ref q)] := hl
  refine lv_aload_n hx hb d_L_type_0 rfl (lv_at hl 2 rfl) ?_
  refine lv_iconst (v := 0) hx hb d_L_type_1 (by decide) ?_
  refine lv_aload_n hx hb d_L_type_2 rfl (lv_at hl 0 rfl) ?_
  refine lv_iload_n hx hb d_L_type_3 rfl (lv_at hl 1 rfl) ?_
  have htab2 : c.exceptionTable.toList = [⟨0, 9, 12, 13⟩, ⟨0, 9, 15, 15⟩] := htab
  refine th_callV (As := [.int u1]) (rest := [.int (0 : Int32), .ref q]) (hp := 15) ⟨hx, hb, hml, hown, hts⟩ (t_P_type_2 l hfl dC dI b cI cC tx s.heap.size Fa Aa u1 hf) (cw_VT 1 hts mw_297 mw_298 mw_299 mw_1 mw_300 rfl rfl rfl hd_P_type ⟨Nat.le_of_ble_eq_true rfl, Nat.le_of_ble_eq_true rfl⟩) (th_preV hK2 hP hD hZ [1, 2, 3, 4, 5, 6, 7, 8, 9, 10, 11, 12, 13, 14, 15, 16, 17, 18, 19, 20] (by decide) rfl rfl rfl (q0 := 1) rfl) rfl hl.1 rfl (lv_room (Nat.le_of_ble_eq_true rfl)) d_L_type_4 ⟨by decide, by decide⟩ (by rw [htab2]; exact ⟨rfl, by decide, _, hts _ mw_295, Or.inr ⟨hN1, ⟨rfl, by decide, _, hts _ mw_296, Or.inl ⟨rfl, rfl⟩⟩⟩⟩) (fun x H hz ho => ?_)
  have hP := hP.kept (H1 := H) (fun k q hk => ho q.1 (hP k q hk).lt)
  have hS : va_S (va_A (wO q cJ g b cI cC tx Fa Aa) s.heap.size) s.heap H [] := ⟨hz, fun q h _ => ho q h, fun _ h => by cases h⟩
  refine lv_astore_n hx hb d_L_type_15 rfl hl (by decide) rfl (fun ls hl => ?_)
  refine lv_iconst (v := 2) hx hb d_L_type_16 (by decide) ?_
  exact W.iret hx hb hr (fun t ht hW => ⟨⟨_, (), rfl, rfl, by rw [ht]; exact hP, va_K.moved hW.alike hK, hD⟩, hS.F ht⟩) hS.2.2 d_L_type_17
set_option maxHeartbeats 4000000 in
set_option maxRecDepth 100000 in
theorem k_L_instruction (l : Launch) (dC : Nat → ClassId) (dI : Nat → Nat → Nat) (q : Nat) (cJ : ClassId) (g : Nat → Int64) (b : Nat → Nat) (cI cC : ClassId) (tx : Nat) (sz : Nat) (Fa : ST_F) (Aa : ST_A) (u1 : Int32) (u2 : Int32) (r0 : Int32) (F9 : ST_F) (A9 : ST_A) (hf : f_P_instruction u1 u2 Fa Aa = some (.inr (r0, F9, A9))) : Met l y_L_instruction (Cond.codeWith y_L_instruction b_L_instruction 5 (some .int) [(0, 10, 13, 21)] :: wA) ({ frames := 2, cells := 0, slots := 0, locals := 43 } : Room) (va_Pc ([.ref (b 0), .int u1, .int u2, .ref q] : List Value) (cc_Pre (dC, dI) vC [(cI, .int), (cC, .char), (cJ, .long)] (wO q cJ g b cI cC tx Fa Aa) sz)) (cc_Qi (dC, dI) vC [(cI, .int), (cC, .char), (cJ, .long)] (wO q cJ g b cI cC tx Fa Aa) sz (wO q cJ (vp_updL g 0 r0.toInt64) b cI cC tx F9 A9) 0) 0 0 (va_A (wO q cJ g b cI cC tx Fa Aa) sz) := by
  refine hw_ofW (cc := b_L_instruction) (maxL := 5) (ret := (some .int)) (hs := [(0, 10, 13, 21)]) (by decide) rfl ?_
  intro p e s m args below meth c s₁ B hml htab hv
  obtain ⟨rfl, hsz, hP, hK, hD0⟩ := hv
  have hx := B.exec
  have hb := B.bytes
  have hr := B.returns
  have hts := fun w h => atoms_spec (ws := (Cond.codeWith y_L_instruction b_L_instruction 5 (some .int) [(0, 10, 13, 21)] :: wA)) B.pre w (List.mem_cons_of_mem _ h)
  have hown : s.vm.findClass R_L = some m.cls := findClass_of_methodNamed B.named
  have hlocks := B.notSynchronized
  subst hsz
  have hD := hD0.self (sz := s.heap.size)
  have hK2 := hK.sub (tys' := [(cI, .int), (cC, .char)]) [0, 1] rfl
  have hA : ∀ z : Nat, s.heap.size ≤ z → (va_A (wO q cJ g b cI cC tx Fa Aa) s.heap.size) z := fun z h => Or.inr h
  have hS : va_S (va_A (wO q cJ g b cI cC tx Fa Aa) s.heap.size) s.heap s.heap [] := va_S.rf
  have hl := lv_entry (([.ref (b 0), .int u1, .int u2, .ref q] : List Value)) (n := 5) (Nat.le_of_ble_eq_true rfl)
  rw [lg_entry_eq]
  generalize (lg_sl (([.ref (b 0), .int u1, .int u2, .ref q] : List Value)) ++ List.replicate (5 - (lg_sl (([.ref (b 0), .int u1, .int u2, .ref q] : List Value))).length) Slot.unset).toArray = ls at hl ⊢
  have hl : lv_has ls 5 [(0, .ref (b 0)), (1, .int u1), (2, .int u2), (3, .ref q)] := hl
  refine lv_aload_n hx hb d_L_instruction_0 rfl (lv_at hl 3 rfl) ?_
  refine lv_iconst (v := 0) hx hb d_L_instruction_1 (by decide) ?_
  refine lv_aload_n hx hb d_L_instruction_2 rfl (lv_at hl 0 rfl) ?_
  refine lv_iload_n hx hb d_L_instruction_3 rfl (lv_at hl 1 rfl) ?_
  refine lv_iload_n hx hb d_L_instruction_4 rfl (lv_at hl 2 rfl) ?_
  refine cc_calliP (wc := (wP b cI cC tx Fa Aa)) (w1 := (wP b cI cC tx F9 A9)) (wq := [(q, .inl (cJ, 1, .inr (.inl g)))]) (va_runV (As := [.int u1, .int u2]) (rest := [.int (0 : Int32), .ref q]) ⟨hx, hb, hml, hown, hts⟩ (k_P_instruction l dC dI b cI cC tx s.heap.size Fa Aa u1 u2 r0 F9 A9 hf) (cw_V 2 hts mw_383 mw_384 mw_385 mw_1 mw_386 rfl rfl rfl hd_P_instruction ⟨Nat.le_of_ble_eq_true rfl, Nat.le_of_ble_eq_true rfl⟩) (cc_preVs hK2 hP hD [1, 2, 3, 4, 5, 6, 7, 8, 9, 10, 11, 12, 13, 14, 15, 16, 17, 18, 19, 20] (by decide) rfl rfl rfl (q0 := 1) rfl) rfl rfl hl.1 rfl (lv_room (Nat.le_of_ble_eq_true rfl)) d_L_instruction_5 ⟨Nat.zero_le _, Nat.zero_le _⟩) hP hD hS hA [1, 2, 3, 4, 5, 6, 7, 8, 9, 10, 11, 12, 13, 14, 15, 16, 17, 18, 19, 20] [0] rfl rfl (by decide) (by decide) (fun H locs hP hD hS => ?_)
  refine lv_i2l hx hb d_L_instruction_8 rfl ?_
  refine va_last hx hb hK hP hD hS 0 2 rfl rfl (by unfold vp_in; decide) d_L_instruction_9 (fun H locs hP hD hS => ?_)
  have hP : va_P (dC, dI) vC (wO q cJ (vp_updL g 0 r0.toInt64) b cI cC tx F9 A9) H := hP
  have hD : va_D (va_A (wO q cJ g b cI cC tx Fa Aa) s.heap.size) (wO q cJ (vp_updL g 0 r0.toInt64) b cI cC tx F9 A9) := hD
  refine lv_goto (tgt := 17) hx hb d_L_instruction_10 (by decide) ?_
  refine lv_iconst (v := 0) hx hb d_L_instruction_17 (by decide) ?_
  exact W.iret hx hb hr (fun t ht hW => ⟨⟨_, (), rfl, rfl, by rw [ht]; exact hP, va_K.moved hW.alike hK, hD⟩, hS.F ht⟩) hS.2.2 d_L_instruction_18
set_option maxHeartbeats 4000000 in
set_option maxRecDepth 100000 in
theorem t_L_instruction_3 (l : Launch) (hfl : l.stackTraces = false) (dC : Nat → ClassId) (dI : Nat → Nat → Nat) (q : Nat) (cJ : ClassId) (g : Nat → Int64) (b : Nat → Nat) (cI cC : ClassId) (tx : Nat) (sz : Nat) (Fa : ST_F) (Aa : ST_A) (u1 : Int32) (u2 : Int32) (hf : f_P_instruction u1 u2 Fa Aa = some (.inl 3)) : Met l y_L_instruction (Cond.codeWith y_L_instruction b_L_instruction 5 (some .int) [(0, 10, 13, 21)] :: wA) ({ frames := 9, cells := 1, slots := 6, locals := 142 } : Room) (va_Pc ([.ref (b 0), .int u1, .int u2, .ref q] : List Value) (fun U => cc_Pre (dC, dI) vC [(cI, .int), (cC, .char), (cJ, .long)] (wO q cJ g b cI cC tx Fa Aa) sz U ∧ th_NZ U)) (cc_Qi (dC, dI) vC [(cI, .int), (cC, .char), (cJ, .long)] (wO q cJ g b cI cC tx Fa Aa) sz (wO q cJ g b cI cC tx Fa Aa) 1) 1 6 (va_A (wO q cJ g b cI cC tx Fa Aa) sz) := by
  refine hw_ofW (cc := b_L_instruction) (maxL := 5) (ret := (some .int)) (hs := [(0, 10, 13, 21)]) (by decide) rfl ?_
  intro p e s m args below meth c s₁ B hml htab hv
  obtain ⟨rfl, ⟨hsz, hP, hK, hD0⟩, ⟨B0, hZ⟩, hN1, hN2, hN3⟩ := hv
  have hx := B.exec
  have hb := B.bytes
  have hr := B.returns
  have hts := fun w h => atoms_spec (ws := (Cond.codeWith y_L_instruction b_L_instruction 5 (some .int) [(0, 10, 13, 21)] :: wA)) B.pre w (List.mem_cons_of_mem _ h)
  have hown : s.vm.findClass R_L = some m.cls := findClass_of_methodNamed B.named
  have hlocks := B.notSynchronized
  subst hsz
  have hD := hD0.self (sz := s.heap.size)
  have hK2 := hK.sub (tys' := [(cI, .int), (cC, .char)]) [0, 1] rfl
  have hA : ∀ z : Nat, s.heap.size ≤ z → (va_A (wO q cJ g b cI cC tx Fa Aa) s.heap.size) z := fun z h => Or.inr h
  have hS : va_S (va_A (wO q cJ g b cI cC tx Fa Aa) s.heap.size) s.heap s.heap [] := va_S.rf
  have hl := lv_entry (([.ref (b 0), .int u1, .int u2, .ref q] : List Value)) (n := 5) (Nat.le_of_ble_eq_true rfl)
  rw [lg_entry_eq]
  generalize (lg_sl (([.ref (b 0), .int u1, .int u2, .ref q] : List Value)) ++ List.replicate (5 - (lg_sl (([.ref (b 0), .int u1, .int u2, .ref q] : List Value))).length) Slot.unset).toArray = ls at hl ⊢
  have hl : lv_has ls 5 [(0, .ref (b 0)), (1, .int u1), (2, .int u2), (3, .ref q)] := hl
  refine lv_aload_n hx hb d_L_instruction_0 rfl (lv_at hl 3 rfl) ?_
  refine lv_iconst (v := 0) hx hb d_L_instruction_1 (by decide) ?_
  refine lv_aload_n hx hb d_L_instruction_2 rfl (lv_at hl 0 rfl) ?_
  refine lv_iload_n hx hb d_L_instruction_3 rfl (lv_at hl 1 rfl) ?_
  refine lv_iload_n hx hb d_L_instruction_4 rfl (lv_at hl 2 rfl) ?_
  have htab2 : c.exceptionTable.toList = [⟨0, 10, 13, 21⟩] := htab
  refine th_callV (As := [.int u1, .int u2]) (rest := [.int (0 : Int32), .ref q]) (hp := 13) ⟨hx, hb, hml, hown, hts⟩ (t_P_instruction_3 l hfl dC dI b cI cC tx s.heap.size Fa Aa u1 u2 hf) (cw_VT 2 hts mw_383 mw_384 mw_385 mw_1 mw_386 rfl rfl rfl hd_P_instruction ⟨Nat.le_of_ble_eq_true rfl, Nat.le_of_ble_eq_true rfl⟩) (th_preV hK2 hP hD hZ [1, 2, 3, 4, 5, 6, 7, 8, 9, 10, 11, 12, 13, 14, 15, 16, 17, 18, 19, 20] (by decide) rfl rfl rfl (q0 := 1) rfl) rfl hl.1 rfl (lv_room (Nat.le_of_ble_eq_true rfl)) d_L_instruction_5 ⟨by decide, by decide⟩ (by rw [htab2]; exact ⟨rfl, by decide, _, hts _ mw_382, Or.inl ⟨rfl, rfl⟩⟩) (fun x H hz ho => ?_)
  have hP := hP.kept (H1 := H) (fun k q hk => ho q.1 (hP k q hk).lt)
  have hS : va_S (va_A (wO q cJ g b cI cC tx Fa Aa) s.heap.size) s.heap H [] := ⟨hz, fun q h _ => ho q h, fun _ h => by cases h⟩
  refine lv_astore hx hb d_L_instruction_13 hl (by decide) rfl (fun ls hl => ?_)
  refine lv_iconst (v := 1) hx hb d_L_instruction_15 (by decide) ?_
  exact W.iret hx hb hr (fun t ht hW => ⟨⟨_, (), rfl, rfl, by rw [ht]; exact hP, va_K.moved hW.alike hK, hD⟩, hS.F ht⟩) hS.2.2 d_L_instruction_16
set_option maxHeartbeats 4000000 in
set_option maxRecDepth 100000 in
theorem k_L_result (l : Launch) (dC : Nat → ClassId) (dI : Nat → Nat → Nat) (q : Nat) (cJ : ClassId) (g : Nat → Int64) (b : Nat → Nat) (cI cC : ClassId) (tx : Nat) (sz : Nat) (Fa : ST_F) (Aa : ST_A) (u1 : Int32) (r0 : Int32) (F9 : ST_F) (A9 : ST_A) (hf : f_P_result u1 Fa Aa = some (.inr (r0, F9, A9))) : Met l y_L_result (Cond.codeWith y_L_result b_L_result 4 (some .int) [(0, 9, 12, 15), (0, 9, 15, 21)] :: wA) ({ frames := 2, cells := 0, slots := 0, locals := 41 } : Room) (va_Pc ([.ref (b 0), .int u1, .ref q] : List Value) (cc_Pre (dC, dI) vC [(cI, .int), (cC, .char), (cJ, .long)] (wO q cJ g b cI cC tx Fa Aa) sz)) (cc_Qi (dC, dI) vC [(cI, .int), (cC, .char), (cJ, .long)] (wO q cJ g b cI cC tx Fa Aa) sz (wO q cJ (vp_updL g 0 r0.toInt64) b cI cC tx F9 A9) 0) 0 0 (va_A (wO q cJ g b cI cC tx Fa Aa) sz) := by
  refine hw_ofW (cc := b_L_result) (maxL := 4) (ret := (some .int)) (hs := [(0, 9, 12, 15), (0, 9, 15, 21)]) (by decide) rfl ?_
  intro p e s m args below meth c s₁ B hml htab hv
  obtain ⟨rfl, hsz, hP, hK, hD0⟩ := hv
  have hx := B.exec
  have hb := B.bytes
  have hr := B.returns
  have hts := fun w h => atoms_spec (ws := (Cond.codeWith y_L_result b_L_result 4 (some .int) [(0, 9, 12, 15), (0, 9, 15, 21)] :: wA)) B.pre w (List.mem_cons_of_mem _ h)
  have hown : s.vm.findClass R_L = some m.cls := findClass_of_methodNamed B.named
  have hlocks := B.notSynchronized
  subst hsz
  have hD := hD0.self (sz := s.heap.size)
  have hK2 := hK.sub (tys' := [(cI, .int), (cC, .char)]) [0, 1] rfl
  have hA : ∀ z : Nat, s.heap.size ≤ z → (va_A (wO q cJ g b cI cC tx Fa Aa) s.heap.size) z := fun z h => Or.inr h
  have hS : va_S (va_A (wO q cJ g b cI cC tx Fa Aa) s.heap.size) s.heap s.heap [] := va_S.rf
  have hl := lv_entry (([.ref (b 0), .int u1, .ref q] : List Value)) (n := 4) (Nat.le_of_ble_eq_true rfl)
  rw [lg_entry_eq]
  generalize (lg_sl (([.ref (b 0), .int u1, .ref q] : List Value)) ++ List.replicate (4 - (lg_sl (([.ref (b 0), .int u1, .ref q] : List Value))).length) Slot.unset).toArray = ls at hl ⊢
  have hl : lv_has ls 4 [(0, .ref (b 0)), (1, .int u1), (2, .ref q)] := hl
  refine lv_aload_n hx hb d_L_result_0 rfl (lv_at hl 2 rfl) ?_
  refine lv_iconst (v := 0) hx hb d_L_result_1 (by decide) ?_
  refine lv_aload_n hx hb d_L_result_2 rfl (lv_at hl 0 rfl) ?_
  refine lv_iload_n hx hb d_L_result_3 rfl (lv_at hl 1 rfl) ?_
  refine cc_calliP (wc := (wP b cI cC tx Fa Aa)) (w1 := (wP b cI cC tx F9 A9)) (wq := [(q, .inl (cJ, 1, .inr (.inl g)))]) (va_runV (As := [.int u1]) (rest := [.int (0 : Int32), .ref q]) ⟨hx, hb, hml, hown, hts⟩ (k_P_result l dC dI b cI cC tx s.heap.size Fa Aa u1 r0 F9 A9 hf) (cw_V 1 hts mw_409 mw_410 mw_411 mw_1 mw_412 rfl rfl rfl hd_P_result ⟨Nat.le_of_ble_eq_true rfl, Nat.le_of_ble_eq_true rfl⟩) (cc_preVs hK2 hP hD [1, 2, 3, 4, 5, 6, 7, 8, 9, 10, 11, 12, 13, 14, 15, 16, 17, 18, 19, 20] (by decide) rfl rfl rfl (q0 := 1) rfl) rfl rfl hl.1 rfl (lv_room (Nat.le_of_ble_eq_true rfl)) d_L_result_4 ⟨Nat.zero_le _, Nat.zero_le _⟩) hP hD hS hA [1, 2, 3, 4, 5, 6, 7, 8, 9, 10, 11, 12, 13, 14, 15, 16, 17, 18, 19, 20] [0] rfl rfl (by decide) (by decide) (fun H locs hP hD hS => ?_)
  refine lv_i2l hx hb d_L_result_7 rfl ?_
  refine va_last hx hb hK hP hD hS 0 2 rfl rfl (by unfold vp_in; decide) d_L_result_8 (fun H locs hP hD hS => ?_)
  have hP : va_P (dC, dI) vC (wO q cJ (vp_updL g 0 r0.toInt64) b cI cC tx F9 A9) H := hP
  have hD : va_D (va_A (wO q cJ g b cI cC tx Fa Aa) s.heap.size) (wO q cJ (vp_updL g 0 r0.toInt64) b cI cC tx F9 A9) := hD
  refine lv_goto (tgt := 18) hx hb d_L_result_9 (by decide) ?_
  refine lv_iconst (v := 0) hx hb d_L_result_18 (by decide) ?_
  exact W.iret hx hb hr (fun t ht hW => ⟨⟨_, (), rfl, rfl, by rw [ht]; exact hP, va_K.moved hW.alike hK, hD⟩, hS.F ht⟩) hS.2.2 d_L_result_19
set_option maxHeartbeats 4000000 in
set_option maxRecDepth 100000 in
theorem t_L_result_2 (l : Launch) (hfl : l.stackTraces = false) (dC : Nat → ClassId) (dI : Nat → Nat → Nat) (q : Nat) (cJ : ClassId) (g : Nat → Int64) (b : Nat → Nat) (cI cC : ClassId) (tx : Nat) (sz : Nat) (Fa : ST_F) (Aa : ST_A) (u1 : Int32) (hf : f_P_result u1 Fa Aa = some (.inl 2)) : Met l y_L_result (Cond.codeWith y_L_result b_L_result 4 (some .int) [(0, 9, 12, 15), (0, 9, 15, 21)] :: wA) ({ frames := 9, cells := 1, slots := 6, locals := 141 } : Room) (va_Pc ([.ref (b 0), .int u1, .ref q] : List Value) (fun U => cc_Pre (dC, dI) vC [(cI, .int), (cC, .char), (cJ, .long)] (wO q cJ g b cI cC tx Fa Aa) sz U ∧ th_NZ U)) (cc_Qi (dC, dI) vC [(cI, .int), (cC, .char), (cJ, .long)] (wO q cJ g b cI cC tx Fa Aa) sz (wO q cJ g b cI cC tx Fa Aa) 1) 1 6 (va_A (wO q cJ g b cI cC tx Fa Aa) sz) := by
  refine hw_ofW (cc := b_L_result) (maxL := 4) (ret := (some .int)) (hs := [(0, 9, 12, 15), (0, 9, 15, 21)]) (by decide) rfl ?_
  intro p e s m args below meth c s₁ B hml htab hv
  obtain ⟨rfl, ⟨hsz, hP, hK, hD0⟩, ⟨B0, hZ⟩, hN1, hN2, hN3⟩ := hv
  have hx := B.exec
  have hb := B.bytes
  have hr := B.returns
  have hts := fun w h => atoms_spec (ws := (Cond.codeWith y_L_result b_L_result 4 (some .int) [(0, 9, 12, 15), (0, 9, 15, 21)] :: wA)) B.pre w (List.mem_cons_of_mem _ h)
  have hown : s.vm.findClass R_L = some m.cls := findClass_of_methodNamed B.named
  have hlocks := B.notSynchronized
  subst hsz
  have hD := hD0.self (sz := s.heap.size)
  have hK2 := hK.sub (tys' := [(cI, .int), (cC, .char)]) [0, 1] rfl
  have hA : ∀ z : Nat, s.heap.size ≤ z → (va_A (wO q cJ g b cI cC tx Fa Aa) s.heap.size) z := fun z h => Or.inr h
  have hS : va_S (va_A (wO q cJ g b cI cC tx Fa Aa) s.heap.size) s.heap s.heap [] := va_S.rf
  have hl := lv_entry (([.ref (b 0), .int u1, .ref q] : List Value)) (n := 4) (Nat.le_of_ble_eq_true rfl)
  rw [lg_entry_eq]
  generalize (lg_sl (([.ref (b 0), .int u1, .ref q] : List Value)) ++ List.replicate (4 - (lg_sl (([.ref (b 0), .int u1, .ref q] : List Value))).length) Slot.unset).toArray = ls at hl ⊢
  have hl : lv_has ls 4 [(0, .ref (b 0)), (1, .int u1), (2, .ref q)] := hl
  refine lv_aload_n hx hb d_L_result_0 rfl (lv_at hl 2 rfl) ?_
  refine lv_iconst (v := 0) hx hb d_L_result_1 (by decide) ?_
  refine lv_aload_n hx hb d_L_result_2 rfl (lv_at hl 0 rfl) ?_
  refine lv_iload_n hx hb d_L_result_3 rfl (lv_at hl 1 rfl) ?_
  have htab2 : c.exceptionTable.toList = [⟨0, 9, 12, 15⟩, ⟨0, 9, 15, 21⟩] := htab
  refine th_callV (As := [.int u1]) (rest := [.int (0 : Int32), .ref q]) (hp := 12) ⟨hx, hb, hml, hown, hts⟩ (t_P_result_2 l hfl dC dI b cI cC tx s.heap.size Fa Aa u1 hf) (cw_VT 1 hts mw_409 mw_410 mw_411 mw_1 mw_412 rfl rfl rfl hd_P_result ⟨Nat.le_of_ble_eq_true rfl, Nat.le_of_ble_eq_true rfl⟩) (th_preV hK2 hP hD hZ [1, 2, 3, 4, 5, 6, 7, 8, 9, 10, 11, 12, 13, 14, 15, 16, 17, 18, 19, 20] (by decide) rfl rfl rfl (q0 := 1) rfl) rfl hl.1 rfl (lv_room (Nat.le_of_ble_eq_true rfl)) d_L_result_4 ⟨by decide, by decide⟩ (by rw [htab2]; exact ⟨rfl, by decide, _, hts _ mw_296, Or.inl ⟨rfl, rfl⟩⟩) (fun x H hz ho => ?_)
  have hP := hP.kept (H1 := H) (fun k q hk => ho q.1 (hP k q hk).lt)
  have hS : va_S (va_A (wO q cJ g b cI cC tx Fa Aa) s.heap.size) s.heap H [] := ⟨hz, fun q h _ => ho q h, fun _ h => by cases h⟩
  refine lv_astore_n hx hb d_L_result_12 rfl hl (by decide) rfl (fun ls hl => ?_)
  refine lv_iconst (v := 1) hx hb d_L_result_13 (by decide) ?_
  exact W.iret hx hb hr (fun t ht hW => ⟨⟨_, (), rfl, rfl, by rw [ht]; exact hP, va_K.moved hW.alike hK, hD⟩, hS.F ht⟩) hS.2.2 d_L_result_14
set_option maxHeartbeats 4000000 in
set_option maxRecDepth 100000 in
theorem t_L_result_3 (l : Launch) (hfl : l.stackTraces = false) (dC : Nat → ClassId) (dI : Nat → Nat → Nat) (q : Nat) (cJ : ClassId) (g : Nat → Int64) (b : Nat → Nat) (cI cC : ClassId) (tx : Nat) (sz : Nat) (Fa : ST_F) (Aa : ST_A) (u1 : Int32) (hf : f_P_result u1 Fa Aa = some (.inl 3)) : Met l y_L_result (Cond.codeWith y_L_result b_L_result 4 (some .int) [(0, 9, 12, 15), (0, 9, 15, 21)] :: wA) ({ frames := 9, cells := 1, slots := 6, locals := 141 } : Room) (va_Pc ([.ref (b 0), .int u1, .ref q] : List Value) (fun U => cc_Pre (dC, dI) vC [(cI, .int), (cC, .char), (cJ, .long)] (wO q cJ g b cI cC tx Fa Aa) sz U ∧ th_NZ U)) (cc_Qi (dC, dI) vC [(cI, .int), (cC, .char), (cJ, .long)] (wO q cJ g b cI cC tx Fa Aa) sz (wO q cJ g b cI cC tx Fa Aa) 2) 1 6 (va_A (wO q cJ g b cI cC tx Fa Aa) sz) := by
  refine hw_ofW (cc := b_L_result) (maxL := 4) (ret := (some .int)) (hs := [(0, 9, 12, 15), (0, 9, 15, 21)]) (by decide) rfl ?_
  intro p e s m args below meth c s₁ B hml htab hv
  obtain ⟨rfl, ⟨hsz, hP, hK, hD0⟩, ⟨B0, hZ⟩, hN1, hN2, hN3⟩ := hv
  have hx := B.exec
  have hb := B.bytes
  have hr := B.returns
  have hts := fun w h => atoms_spec (ws := (Cond.codeWith y_L_result b_L_result 4 (some .int) [(0, 9, 12, 15), (0, 9, 15, 21)] :: wA)) B.pre w (List.mem_cons_of_mem _ h)
  have hown : s.vm.findClass R_L = some m.cls := findClass_of_methodNamed B.named
  have hlocks := B.notSynchronized
  subst hsz
  have hD := hD0.self (sz := s.heap.size)
  have hK2 := hK.sub (tys' := [(cI, .int), (cC, .char)]) [0, 1] rfl
  have hA : ∀ z : Nat, s.heap.size ≤ z → (va_A (wO q cJ g b cI cC tx Fa Aa) s.heap.size) z := fun z h => Or.inr h
  have hS : va_S (va_A (wO q cJ g b cI cC tx Fa Aa) s.heap.size) s.heap s.heap [] := va_S.rf
  have hl := lv_entry (([.ref (b 0), .int u1, .ref q] : List Value)) (n := 4) (Nat.le_of_ble_eq_true rfl)
  rw [lg_entry_eq]
  generalize (lg_sl (([.ref (b 0), .int u1, .ref q] : List Value)) ++ List.replicate (4 - (lg_sl (([.ref (b 0), .int u1, .ref q] : List Value))).length) Slot.unset).toArray = ls at hl ⊢
  have hl : lv_has ls 4 [(0, .ref (b 0)), (1, .int u1), (2, .ref q)] := hl
  refine lv_aload_n hx hb d_L_result_0 rfl (lv_at hl 2 rfl) ?_
  refine lv_iconst (v := 0) hx hb d_L_result_1 (by decide) ?_
  refine lv_aload_n hx hb d_L_result_2 rfl (lv_at hl 0 rfl) ?_
  refine lv_iload_n hx hb d_L_result_3 rfl (lv_at hl 1 rfl) ?_
  have htab2 : c.exceptionTable.toList = [⟨0, 9, 12, 15⟩, ⟨0, 9, 15, 21⟩] := htab
  refine th_callV (As := [.int u1]) (rest := [.int (0 : Int32), .ref q]) (hp := 15) ⟨hx, hb, hml, hown, hts⟩ (t_P_result_3 l hfl dC dI b cI cC tx s.heap.size Fa Aa u1 hf) (cw_VT 1 hts mw_409 mw_410 mw_411 mw_1 mw_412 rfl rfl rfl hd_P_result ⟨Nat.le_of_ble_eq_true rfl, Nat.le_of_ble_eq_true rfl⟩) (th_preV hK2 hP hD hZ [1, 2, 3, 4, 5, 6, 7, 8, 9, 10, 11, 12, 13, 14, 15, 16, 17, 18, 19, 20] (by decide) rfl rfl rfl (q0 := 1) rfl) rfl hl.1 rfl (lv_room (Nat.le_of_ble_eq_true rfl)) d_L_result_4 ⟨by decide, by decide⟩ (by rw [htab2]; exact ⟨rfl, by decide, _, hts _ mw_296, Or.inr ⟨hN2, ⟨rfl, by decide, _, hts _ mw_382, Or.inl ⟨rfl, rfl⟩⟩⟩⟩) (fun x H hz ho => ?_)
  have hP := hP.kept (H1 := H) (fun k q hk => ho q.1 (hP k q hk).lt)
  have hS : va_S (va_A (wO q cJ g b cI cC tx Fa Aa) s.heap.size) s.heap H [] := ⟨hz, fun q h _ => ho q h, fun _ h => by cases h⟩
  refine lv_astore_n hx hb d_L_result_15 rfl hl (by decide) rfl (fun ls hl => ?_)
  refine lv_iconst (v := 2) hx hb d_L_result_16 (by decide) ?_
  exact W.iret hx hb hr (fun t ht hW => ⟨⟨_, (), rfl, rfl, by rw [ht]; exact hP, va_K.moved hW.alike hK, hD⟩, hS.F ht⟩) hS.2.2 d_L_result_17
set_option maxHeartbeats 4000000 in
set_option maxRecDepth 100000 in
theorem k_L_typeOf (l : Launch) (dC : Nat → ClassId) (dI : Nat → Nat → Nat) (q : Nat) (cJ : ClassId) (g : Nat → Int64) (b : Nat → Nat) (cI cC : ClassId) (tx : Nat) (sz : Nat) (Fa : ST_F) (Aa : ST_A) (u1 : Int32) (r0 : Int32) (F9 : ST_F) (A9 : ST_A) (hf : f_P_typeOf u1 Fa Aa = some (.inr (r0, F9, A9))) : Met l y_L_typeOf (Cond.codeWith y_L_typeOf b_L_typeOf 4 (some .int) [(0, 9, 12, 21)] :: wA) ({ frames := 1, cells := 0, slots := 0, locals := 21 } : Room) (va_Pc ([.ref (b 0), .int u1, .ref q] : List Value) (cc_Pre (dC, dI) vC [(cI, .int), (cC, .char), (cJ, .long)] (wO q cJ g b cI cC tx Fa Aa) sz)) (cc_Qi (dC, dI) vC [(cI, .int), (cC, .char), (cJ, .long)] (wO q cJ g b cI cC tx Fa Aa) sz (wO q cJ (vp_updL g 0 r0.toInt64) b cI cC tx F9 A9) 0) 0 0 (va_A (wO q cJ g b cI cC tx Fa Aa) sz) := by
  refine hw_ofW (cc := b_L_typeOf) (maxL := 4) (ret := (some .int)) (hs := [(0, 9, 12, 21)]) (by decide) rfl ?_
  intro p e s m args below meth c s₁ B hml htab hv
  obtain ⟨rfl, hsz, hP, hK, hD0⟩ := hv
  have hx := B.exec
  have hb := B.bytes
  have hr := B.returns
  have hts := fun w h => atoms_spec (ws := (Cond.codeWith y_L_typeOf b_L_typeOf 4 (some .int) [(0, 9, 12, 21)] :: wA)) B.pre w (List.mem_cons_of_mem _ h)
  have hown : s.vm.findClass R_L = some m.cls := findClass_of_methodNamed B.named
  have hlocks := B.notSynchronized
  subst hsz
  have hD := hD0.self (sz := s.heap.size)
  have hK2 := hK.sub (tys' := [(cI, .int), (cC, .char)]) [0, 1] rfl
  have hA : ∀ z : Nat, s.heap.size ≤ z → (va_A (wO q cJ g b cI cC tx Fa Aa) s.heap.size) z := fun z h => Or.inr h
  have hS : va_S (va_A (wO q cJ g b cI cC tx Fa Aa) s.heap.size) s.heap s.heap [] := va_S.rf
  have hl := lv_entry (([.ref (b 0), .int u1, .ref q] : List Value)) (n := 4) (Nat.le_of_ble_eq_true rfl)
  rw [lg_entry_eq]
  generalize (lg_sl (([.ref (b 0), .int u1, .ref q] : List Value)) ++ List.replicate (4 - (lg_sl (([.ref (b 0), .int u1, .ref q] : List Value))).length) Slot.unset).toArray = ls at hl ⊢
  have hl : lv_has ls 4 [(0, .ref (b 0)), (1, .int u1), (2, .ref q)] := hl
  refine lv_aload_n hx hb d_L_typeOf_0 rfl (lv_at hl 2 rfl) ?_
  refine lv_iconst (v := 0) hx hb d_L_typeOf_1 (by decide) ?_
  refine lv_aload_n hx hb d_L_typeOf_2 rfl (lv_at hl 0 rfl) ?_
  refine lv_iload_n hx hb d_L_typeOf_3 rfl (lv_at hl 1 rfl) ?_
  refine cc_calliP (wc := (wP b cI cC tx Fa Aa)) (w1 := (wP b cI cC tx F9 A9)) (wq := [(q, .inl (cJ, 1, .inr (.inl g)))]) (va_runV (As := [.int u1]) (rest := [.int (0 : Int32), .ref q]) ⟨hx, hb, hml, hown, hts⟩ (k_P_typeOf l dC dI b cI cC tx s.heap.size Fa Aa u1 r0 F9 A9 hf) (cw_V 1 hts mw_420 mw_421 mw_422 mw_1 mw_423 rfl rfl rfl hd_P_typeOf ⟨Nat.le_of_ble_eq_true rfl, Nat.le_of_ble_eq_true rfl⟩) (cc_preVs hK2 hP hD [1, 2, 3, 4, 5, 6, 7, 8, 9, 10, 11, 12, 13, 14, 15, 16, 17, 18, 19, 20] (by decide) rfl rfl rfl (q0 := 1) rfl) rfl rfl hl.1 rfl (lv_room (Nat.le_of_ble_eq_true rfl)) d_L_typeOf_4 ⟨Nat.zero_le _, Nat.zero_le _⟩) hP hD hS hA [1, 2, 3, 4, 5, 6, 7, 8, 9, 10, 11, 12, 13, 14, 15, 16, 17, 18, 19, 20] [0] rfl rfl (by decide) (by decide) (fun H locs hP hD hS => ?_)
  refine lv_i2l hx hb d_L_typeOf_7 rfl ?_
  refine va_last hx hb hK hP hD hS 0 2 rfl rfl (by unfold vp_in; decide) d_L_typeOf_8 (fun H locs hP hD hS => ?_)
  have hP : va_P (dC, dI) vC (wO q cJ (vp_updL g 0 r0.toInt64) b cI cC tx F9 A9) H := hP
  have hD : va_D (va_A (wO q cJ g b cI cC tx Fa Aa) s.heap.size) (wO q cJ (vp_updL g 0 r0.toInt64) b cI cC tx F9 A9) := hD
  refine lv_goto (tgt := 15) hx hb d_L_typeOf_9 (by decide) ?_
  refine lv_iconst (v := 0) hx hb d_L_typeOf_15 (by decide) ?_
  exact W.iret hx hb hr (fun t ht hW => ⟨⟨_, (), rfl, rfl, by rw [ht]; exact hP, va_K.moved hW.alike hK, hD⟩, hS.F ht⟩) hS.2.2 d_L_typeOf_16
set_option maxHeartbeats 4000000 in
set_option maxRecDepth 100000 in
theorem t_L_typeOf_3 (l : Launch) (hfl : l.stackTraces = false) (dC : Nat → ClassId) (dI : Nat → Nat → Nat) (q : Nat) (cJ : ClassId) (g : Nat → Int64) (b : Nat → Nat) (cI cC : ClassId) (tx : Nat) (sz : Nat) (Fa : ST_F) (Aa : ST_A) (u1 : Int32) (hf : f_P_typeOf u1 Fa Aa = some (.inl 3)) : Met l y_L_typeOf (Cond.codeWith y_L_typeOf b_L_typeOf 4 (some .int) [(0, 9, 12, 21)] :: wA) ({ frames := 9, cells := 1, slots := 6, locals := 141 } : Room) (va_Pc ([.ref (b 0), .int u1, .ref q] : List Value) (fun U => cc_Pre (dC, dI) vC [(cI, .int), (cC, .char), (cJ, .long)] (wO q cJ g b cI cC tx Fa Aa) sz U ∧ th_NZ U)) (cc_Qi (dC, dI) vC [(cI, .int), (cC, .char), (cJ, .long)] (wO q cJ g b cI cC tx Fa Aa) sz (wO q cJ g b cI cC tx Fa Aa) 1) 1 6 (va_A (wO q cJ g b cI cC tx Fa Aa) sz) := by
  refine hw_ofW (cc := b_L_typeOf) (maxL := 4) (ret := (some .int)) (hs := [(0, 9, 12, 21)]) (by decide) rfl ?_
  intro p e s m args below meth c s₁ B hml htab hv
  obtain ⟨rfl, ⟨hsz, hP, hK, hD0⟩, ⟨B0, hZ⟩, hN1, hN2, hN3⟩ := hv
  have hx := B.exec
  have hb := B.bytes
  have hr := B.returns
  have hts := fun w h => atoms_spec (ws := (Cond.codeWith y_L_typeOf b_L_typeOf 4 (some .int) [(0, 9, 12, 21)] :: wA)) B.pre w (List.mem_cons_of_mem _ h)
  have hown : s.vm.findClass R_L = some m.cls := findClass_of_methodNamed B.named
  have hlocks := B.notSynchronized
  subst hsz
  have hD := hD0.self (sz := s.heap.size)
  have hK2 := hK.sub (tys' := [(cI, .int), (cC, .char)]) [0, 1] rfl
  have hA : ∀ z : Nat, s.heap.size ≤ z → (va_A (wO q cJ g b cI cC tx Fa Aa) s.heap.size) z := fun z h => Or.inr h
  have hS : va_S (va_A (wO q cJ g b cI cC tx Fa Aa) s.heap.size) s.heap s.heap [] := va_S.rf
  have hl := lv_entry (([.ref (b 0), .int u1, .ref q] : List Value)) (n := 4) (Nat.le_of_ble_eq_true rfl)
  rw [lg_entry_eq]
  generalize (lg_sl (([.ref (b 0), .int u1, .ref q] : List Value)) ++ List.replicate (4 - (lg_sl (([.ref (b 0), .int u1, .ref q] : List Value))).length) Slot.unset).toArray = ls at hl ⊢
  have hl : lv_has ls 4 [(0, .ref (b 0)), (1, .int u1), (2, .ref q)] := hl
  refine lv_aload_n hx hb d_L_typeOf_0 rfl (lv_at hl 2 rfl) ?_
  refine lv_iconst (v := 0) hx hb d_L_typeOf_1 (by decide) ?_
  refine lv_aload_n hx hb d_L_typeOf_2 rfl (lv_at hl 0 rfl) ?_
  refine lv_iload_n hx hb d_L_typeOf_3 rfl (lv_at hl 1 rfl) ?_
  have htab2 : c.exceptionTable.toList = [⟨0, 9, 12, 21⟩] := htab
  refine th_callV (As := [.int u1]) (rest := [.int (0 : Int32), .ref q]) (hp := 12) ⟨hx, hb, hml, hown, hts⟩ (t_P_typeOf_3 l hfl dC dI b cI cC tx s.heap.size Fa Aa u1 hf) (cw_VT 1 hts mw_420 mw_421 mw_422 mw_1 mw_423 rfl rfl rfl hd_P_typeOf ⟨Nat.le_of_ble_eq_true rfl, Nat.le_of_ble_eq_true rfl⟩) (th_preV hK2 hP hD hZ [1, 2, 3, 4, 5, 6, 7, 8, 9, 10, 11, 12, 13, 14, 15, 16, 17, 18, 19, 20] (by decide) rfl rfl rfl (q0 := 1) rfl) rfl hl.1 rfl (lv_room (Nat.le_of_ble_eq_true rfl)) d_L_typeOf_4 ⟨by decide, by decide⟩ (by rw [htab2]; exact ⟨rfl, by decide, _, hts _ mw_382, Or.inl ⟨rfl, rfl⟩⟩) (fun x H hz ho => ?_)
  have hP := hP.kept (H1 := H) (fun k q hk => ho q.1 (hP k q hk).lt)
  have hS : va_S (va_A (wO q cJ g b cI cC tx Fa Aa) s.heap.size) s.heap H [] := ⟨hz, fun q h _ => ho q h, fun _ h => by cases h⟩
  refine lv_astore_n hx hb d_L_typeOf_12 rfl hl (by decide) rfl (fun ls hl => ?_)
  refine lv_iconst (v := 1) hx hb d_L_typeOf_13 (by decide) ?_
  exact W.iret hx hb hr (fun t ht hW => ⟨⟨_, (), rfl, rfl, by rw [ht]; exact hP, va_K.moved hW.alike hK, hD⟩, hS.F ht⟩) hS.2.2 d_L_typeOf_14
set_option maxHeartbeats 4000000 in
set_option maxRecDepth 100000 in
theorem k_L_value (l : Launch) (dC : Nat → ClassId) (dI : Nat → Nat → Nat) (q : Nat) (cJ : ClassId) (g : Nat → Int64) (b : Nat → Nat) (cI cC : ClassId) (tx : Nat) (sz : Nat) (Fa : ST_F) (Aa : ST_A) (u1 : Int32) (u2 : Int32) (u3 : Int32) (u4 : Int32) (u5 : Int32) (r0 : Int32) (F9 : ST_F) (A9 : ST_A) (hf : f_P_value u1 u2 u3 u4 u5 Fa Aa = some (.inr (r0, F9, A9))) : Met l y_L_value (Cond.codeWith y_L_value b_L_value 8 (some .int) [(0, 16, 19, 21), (0, 16, 23, 13)] :: wA) ({ frames := 6, cells := 0, slots := 0, locals := 138 } : Room) (va_Pc ([.ref (b 0), .int u1, .int u2, .int u3, .int u4, .int u5, .ref q] : List Value) (cc_Pre (dC, dI) vC [(cI, .int), (cC, .char), (cJ, .long)] (wO q cJ g b cI cC tx Fa Aa) sz)) (cc_Qi (dC, dI) vC [(cI, .int), (cC, .char), (cJ, .long)] (wO q cJ g b cI cC tx Fa Aa) sz (wO q cJ (vp_updL g 0 r0.toInt64) b cI cC tx F9 A9) 0) 0 0 (va_A (wO q cJ g b cI cC tx Fa Aa) sz) := by
  refine hw_ofW (cc := b_L_value) (maxL := 8) (ret := (some .int)) (hs := [(0, 16, 19, 21), (0, 16, 23, 13)]) (by decide) rfl ?_
  intro p e s m args below meth c s₁ B hml htab hv
  obtain ⟨rfl, hsz, hP, hK, hD0⟩ := hv
  have hx := B.exec
  have hb := B.bytes
  have hr := B.returns
  have hts := fun w h => atoms_spec (ws := (Cond.codeWith y_L_value b_L_value 8 (some .int) [(0, 16, 19, 21), (0, 16, 23, 13)] :: wA)) B.pre w (List.mem_cons_of_mem _ h)
  have hown : s.vm.findClass R_L = some m.cls := findClass_of_methodNamed B.named
  have hlocks := B.notSynchronized
  subst hsz
  have hD := hD0.self (sz := s.heap.size)
  have hK2 := hK.sub (tys' := [(cI, .int), (cC, .char)]) [0, 1] rfl
  have hA : ∀ z : Nat, s.heap.size ≤ z → (va_A (wO q cJ g b cI cC tx Fa Aa) s.heap.size) z := fun z h => Or.inr h
  have hS : va_S (va_A (wO q cJ g b cI cC tx Fa Aa) s.heap.size) s.heap s.heap [] := va_S.rf
  have hl := lv_entry (([.ref (b 0), .int u1, .int u2, .int u3, .int u4, .int u5, .ref q] : List Value)) (n := 8) (Nat.le_of_ble_eq_true rfl)
  rw [lg_entry_eq]
  generalize (lg_sl (([.ref (b 0), .int u1, .int u2, .int u3, .int u4, .int u5, .ref q] : List Value)) ++ List.replicate (8 - (lg_sl (([.ref (b 0), .int u1, .int u2, .int u3, .int u4, .int u5, .ref q] : List Value))).length) Slot.unset).toArray = ls at hl ⊢
  have hl : lv_has ls 8 [(0, .ref (b 0)), (1, .int u1), (2, .int u2), (3, .int u3), (4, .int u4), (5, .int u5), (6, .ref q)] := hl
  refine lv_aload hx hb d_L_value_0 (lv_at hl 6 rfl) ?_
  refine lv_iconst (v := 0) hx hb d_L_value_2 (by decide) ?_
  refine lv_aload_n hx hb d_L_value_3 rfl (lv_at hl 0 rfl) ?_
  refine lv_iload_n hx hb d_L_value_4 rfl (lv_at hl 1 rfl) ?_
  refine lv_iload_n hx hb d_L_value_5 rfl (lv_at hl 2 rfl) ?_
  refine lv_iload_n hx hb d_L_value_6 rfl (lv_at hl 3 rfl) ?_
  refine lv_iload hx hb d_L_value_7 (lv_at hl 4 rfl) ?_
  refine lv_iload hx hb d_L_value_9 (lv_at hl 5 rfl) ?_
  refine cc_calliP (wc := (wP b cI cC tx Fa Aa)) (w1 := (wP b cI cC tx F9 A9)) (wq := [(q, .inl (cJ, 1, .inr (.inl g)))]) (va_runV (As := [.int u1, .int u2, .int u3, .int u4, .int u5]) (rest := [.int (0 : Int32), .ref q]) ⟨hx, hb, hml, hown, hts⟩ (k_P_value l dC dI b cI cC tx s.heap.size Fa Aa u1 u2 u3 u4 u5 r0 F9 A9 hf) (cw_V 5 hts mw_427 mw_428 mw_429 mw_1 mw_430 rfl rfl rfl hd_P_value ⟨Nat.le_of_ble_eq_true rfl, Nat.le_of_ble_eq_true rfl⟩) (cc_preVs hK2 hP hD [1, 2, 3, 4, 5, 6, 7, 8, 9, 10, 11, 12, 13, 14, 15, 16, 17, 18, 19, 20] (by decide) rfl rfl rfl (q0 := 1) rfl) rfl rfl hl.1 rfl (lv_room (Nat.le_of_ble_eq_true rfl)) d_L_value_11 ⟨Nat.zero_le _, Nat.zero_le _⟩) hP hD hS hA [1, 2, 3, 4, 5, 6, 7, 8, 9, 10, 11, 12, 13, 14, 15, 16, 17, 18, 19, 20] [0] rfl rfl (by decide) (by decide) (fun H locs hP hD hS => ?_)
  refine lv_i2l hx hb d_L_value_14 rfl ?_
  refine va_last hx hb hK hP hD hS 0 2 rfl rfl (by unfold vp_in; decide) d_L_value_15 (fun H locs hP hD hS => ?_)
  have hP : va_P (dC, dI) vC (wO q cJ (vp_updL g 0 r0.toInt64) b cI cC tx F9 A9) H := hP
  have hD : va_D (va_A (wO q cJ g b cI cC tx Fa Aa) s.heap.size) (wO q cJ (vp_updL g 0 r0.toInt64) b cI cC tx F9 A9) := hD
  refine lv_goto (tgt := 27) hx hb d_L_value_16 (by decide) ?_
  refine lv_iconst (v := 0) hx hb d_L_value_27 (by decide) ?_
  exact W.iret hx hb hr (fun t ht hW => ⟨⟨_, (), rfl, rfl, by rw [ht]; exact hP, va_K.moved hW.alike hK, hD⟩, hS.F ht⟩) hS.2.2 d_L_value_28
set_option maxHeartbeats 4000000 in
set_option maxRecDepth 100000 in
theorem t_L_value_3 (l : Launch) (hfl : l.stackTraces = false) (dC : Nat → ClassId) (dI : Nat → Nat → Nat) (q : Nat) (cJ : ClassId) (g : Nat → Int64) (b : Nat → Nat) (cI cC : ClassId) (tx : Nat) (sz : Nat) (Fa : ST_F) (Aa : ST_A) (u1 : Int32) (u2 : Int32) (u3 : Int32) (u4 : Int32) (u5 : Int32) (hf : f_P_value u1 u2 u3 u4 u5 Fa Aa = some (.inl 3)) : Met l y_L_value (Cond.codeWith y_L_value b_L_value 8 (some .int) [(0, 16, 19, 21), (0, 16, 23, 13)] :: wA) ({ frames := 9, cells := 1, slots := 6, locals := 145 } : Room) (va_Pc ([.ref (b 0), .int u1, .int u2, .int u3, .int u4, .int u5, .ref q] : List Value) (fun U => cc_Pre (dC, dI) vC [(cI, .int), (cC, .char), (cJ, .long)] (wO q cJ g b cI cC tx Fa Aa) sz U ∧ th_NZ U)) (cc_Qi (dC, dI) vC [(cI, .int), (cC, .char), (cJ, .long)] (wO q cJ g b cI cC tx Fa Aa) sz (wO q cJ g b cI cC tx Fa Aa) 1) 1 6 (va_A (wO q cJ g b cI cC tx Fa Aa) sz) := by
  refine hw_ofW (cc := b_L_value) (maxL := 8) (ret := (some .int)) (hs := [(0, 16, 19, 21), (0, 16, 23, 13)]) (by decide) rfl ?_
  intro p e s m args below meth c s₁ B hml htab hv
  obtain ⟨rfl, ⟨hsz, hP, hK, hD0⟩, ⟨B0, hZ⟩, hN1, hN2, hN3⟩ := hv
  have hx := B.exec
  have hb := B.bytes
  have hr := B.returns
  have hts := fun w h => atoms_spec (ws := (Cond.codeWith y_L_value b_L_value 8 (some .int) [(0, 16, 19, 21), (0, 16, 23, 13)] :: wA)) B.pre w (List.mem_cons_of_mem _ h)
  have hown : s.vm.findClass R_L = some m.cls := findClass_of_methodNamed B.named
  have hlocks := B.notSynchronized
  subst hsz
  have hD := hD0.self (sz := s.heap.size)
  have hK2 := hK.sub (tys' := [(cI, .int), (cC, .char)]) [0, 1] rfl
  have hA : ∀ z : Nat, s.heap.size ≤ z → (va_A (wO q cJ g b cI cC tx Fa Aa) s.heap.size) z := fun z h => Or.inr h
  have hS : va_S (va_A (wO q cJ g b cI cC tx Fa Aa) s.heap.size) s.heap s.heap [] := va_S.rf
  have hl := lv_entry (([.ref (b 0), .int u1, .int u2, .int u3, .int u4, .int u5, .ref q] : List Value)) (n := 8) (Nat.le_of_ble_eq_true rfl)
  rw [lg_entry_eq]
  generalize (lg_sl (([.ref (b 0), .int u1, .int u2, .int u3, .int u4, .int u5, .ref q] : List Value)) ++ List.replicate (8 - (lg_sl (([.ref (b 0), .int u1, .int u2, .int u3, .int u4, .int u5, .ref q] : List Value))).length) Slot.unset).toArray = ls at hl ⊢
  have hl : lv_has ls 8 [(0, .ref (b 0)), (1, .int u1), (2, .int u2), (3, .int u3), (4, .int u4), (5, .int u5), (6, .ref q)] := hl
  refine lv_aload hx hb d_L_value_0 (lv_at hl 6 rfl) ?_
  refine lv_iconst (v := 0) hx hb d_L_value_2 (by decide) ?_
  refine lv_aload_n hx hb d_L_value_3 rfl (lv_at hl 0 rfl) ?_
  refine lv_iload_n hx hb d_L_value_4 rfl (lv_at hl 1 rfl) ?_
  refine lv_iload_n hx hb d_L_value_5 rfl (lv_at hl 2 rfl) ?_
  refine lv_iload_n hx hb d_L_value_6 rfl (lv_at hl 3 rfl) ?_
  refine lv_iload hx hb d_L_value_7 (lv_at hl 4 rfl) ?_
  refine lv_iload hx hb d_L_value_9 (lv_at hl 5 rfl) ?_
  have htab2 : c.exceptionTable.toList = [⟨0, 16, 19, 21⟩, ⟨0, 16, 23, 13⟩] := htab
  refine th_callV (As := [.int u1, .int u2, .int u3, .int u4, .int u5]) (rest := [.int (0 : Int32), .ref q]) (hp := 19) ⟨hx, hb, hml, hown, hts⟩ (t_P_value_3 l hfl dC dI b cI cC tx s.heap.size Fa Aa u1 u2 u3 u4 u5 hf) (cw_VT 5 hts mw_427 mw_428 mw_429 mw_1 mw_430 rfl rfl rfl hd_P_value ⟨Nat.le_of_ble_eq_true rfl, Nat.le_of_ble_eq_true rfl⟩) (th_preV hK2 hP hD hZ [1, 2, 3, 4, 5, 6, 7, 8, 9, 10, 11, 12, 13, 14, 15, 16, 17, 18, 19, 20] (by decide) rfl rfl rfl (q0 := 1) rfl) rfl hl.1 rfl (lv_room (Nat.le_of_ble_eq_true rfl)) d_L_value_11 ⟨by decide, by decide⟩ (by rw [htab2]; exact ⟨rfl, by decide, _, hts _ mw_382, Or.inl ⟨rfl, rfl⟩⟩) (fun x H hz ho => ?_)
  have hP := hP.kept (H1 := H) (fun k q hk => ho q.1 (hP k q hk).lt)
  have hS : va_S (va_A (wO q cJ g b cI cC tx Fa Aa) s.heap.size) s.heap H [] := ⟨hz, fun q h _ => ho q h, fun _ h => by cases h⟩
  refine lv_astore hx hb d_L_value_19 hl (by decide) rfl (fun ls hl => ?_)
  refine lv_iconst (v := 1) hx hb d_L_value_21 (by decide) ?_
  exact W.iret hx hb hr (fun t ht hW => ⟨⟨_, (), rfl, rfl, by rw [ht]; exact hP, va_K.moved hW.alike hK, hD⟩, hS.F ht⟩) hS.2.2 d_L_value_22
set_option maxHeartbeats 4000000 in
set_option maxRecDepth 100000 in
theorem t_L_value_1 (l : Launch) (hfl : l.stackTraces = false) (dC : Nat → ClassId) (dI : Nat → Nat → Nat) (q : Nat) (cJ : ClassId) (g : Nat → Int64) (b : Nat → Nat) (cI cC : ClassId) (tx : Nat) (sz : Nat) (Fa : ST_F) (Aa : ST_A) (u1 : Int32) (u2 : Int32) (u3 : Int32) (u4 : Int32) (u5 : Int32) (hf : f_P_value u1 u2 u3 u4 u5 Fa Aa = some (.inl 1)) : Met l y_L_value (Cond.codeWith y_L_value b_L_value 8 (some .int) [(0, 16, 19, 21), (0, 16, 23, 13)] :: wA) ({ frames := 9, cells := 1, slots := 6, locals := 145 } : Room) (va_Pc ([.ref (b 0), .int u1, .int u2, .int u3, .int u4, .int u5, .ref q] : List Value) (fun U => cc_Pre (dC, dI) vC [(cI, .int), (cC, .char), (cJ, .long)] (wO q cJ g b cI cC tx Fa Aa) sz U ∧ th_NZ U)) (cc_Qi (dC, dI) vC [(cI, .int), (cC, .char), (cJ, .long)] (wO q cJ g b cI cC tx Fa Aa) sz (wO q cJ g b cI cC tx Fa Aa) 2) 1 6 (va_A (wO q cJ g b cI cC tx Fa Aa) sz) := by
  refine hw_ofW (cc := b_L_value) (maxL := 8) (ret := (some .int)) (hs := [(0, 16, 19, 21), (0, 16, 23, 13)]) (by decide) rfl ?_
  intro p e s m args below meth c s₁ B hml htab hv
  obtain ⟨rfl, ⟨hsz, hP, hK, hD0⟩, ⟨B0, hZ⟩, hN1, hN2, hN3⟩ := hv
  have hx := B.exec
  have hb := B.bytes
  have hr := B.returns
  have hts := fun w h => atoms_spec (ws := (Cond.codeWith y_L_value b_L_value 8 (some .int) [(0, 16, 19, 21), (0, 16, 23, 13)] :: wA)) B.pre w (List.mem_cons_of_mem _ h)
  have hown : s.vm.findClass R_L = some m.cls := findClass_of_methodNamed B.named
  have hlocks := B.notSynchronized
  subst hsz
  have hD := hD0.self (sz := s.heap.size)
  have hK2 := hK.sub (tys' := [(cI, .int), (cC, .char)]) [0, 1] rfl
  have hA : ∀ z : Nat, s.heap.size ≤ z → (va_A (wO q cJ g b cI cC tx Fa Aa) s.heap.size) z := fun z h => Or.inr h
  have hS : va_S (va_A (wO q cJ g b cI cC tx Fa Aa) s.heap.size) s.heap s.heap [] := va_S.rf
  have hl := lv_entry (([.ref (b 0), .int u1, .int u2, .int u3, .int u4, .int u5, .ref q] : List Value)) (n := 8) (Nat.le_of_ble_eq_true rfl)
  rw [lg_entry_eq]
  generalize (lg_sl (([.ref (b 0), .int u1, .int u2, .int u3, .int u4, .int u5, .ref q] : List Value)) ++ List.replicate (8 - (lg_sl (([.ref (b 0), .int u1, .int u2, .int u3, .int u4, .int u5, .ref q] : List Value))).length) Slot.unset).toArray = ls at hl ⊢
  have hl : lv_has ls 8 [(0, .ref (b 0)), (1, .int u1), (2, .int u2), (3, .int u3), (4, .int u4), (5, .int u5), (6, .ref q)] := hl
  refine lv_aload hx hb d_L_value_0 (lv_at hl 6 rfl) ?_
  refine lv_iconst (v := 0) hx hb d_L_value_2 (by decide) ?_
  refine lv_aload_n hx hb d_L_value_3 rfl (lv_at hl 0 rfl) ?_
  refine lv_iload_n hx hb d_L_value_4 rfl (lv_at hl 1 rfl) ?_
  refine lv_iload_n hx hb d_L_value_5 rfl (lv_at hl 2 rfl) ?_
  refine lv_iload_n hx hb d_L_value_6 rfl (lv_at hl 3 rfl) ?_
  refine lv_iload hx hb d_L_value_7 (lv_at hl 4 rfl) ?_
  refine lv_iload hx hb d_L_value_9 (lv_at hl 5 rfl) ?_
  have htab2 : c.exceptionTable.toList = [⟨0, 16, 19, 21⟩, ⟨0, 16, 23, 13⟩] := htab
  refine th_callV (As := [.int u1, .int u2, .int u3, .int u4, .int u5]) (rest := [.int (0 : Int32), .ref q]) (hp := 23) ⟨hx, hb, hml, hown, hts⟩ (t_P_value_1 l hfl dC dI b cI cC tx s.heap.size Fa Aa u1 u2 u3 u4 u5 hf) (cw_VT 5 hts mw_427 mw_428 mw_429 mw_1 mw_430 rfl rfl rfl hd_P_value ⟨Nat.le_of_ble_eq_true rfl, Nat.le_of_ble_eq_true rfl⟩) (th_preV hK2 hP hD hZ [1, 2, 3, 4, 5, 6, 7, 8, 9, 10, 11, 12, 13, 14, 15, 16, 17, 18, 19, 20] (by decide) rfl rfl rfl (q0 := 1) rfl) rfl hl.1 rfl (lv_room (Nat.le_of_ble_eq_true rfl)) d_L_value_11 ⟨by decide, by decide⟩ (by rw [htab2]; exact ⟨rfl, by decide, _, hts _ mw_382, Or.inr ⟨hN3, ⟨rfl, by decide, _, hts _ mw_295, Or.inl ⟨rfl, rfl⟩⟩⟩⟩) (fun x H hz ho => ?_)
  have hP := hP.kept (H1 := H) (fun k q hk => ho q.1 (hP k q hk).lt)
  have hS : va_S (va_A (wO q cJ g b cI cC tx Fa Aa) s.heap.size) s.heap H [] := ⟨hz, fun q h _ => ho q h, fun _ h => by cases h⟩
  refine lv_astore hx hb d_L_value_23 hl (by decide) rfl (fun ls hl => ?_)
  refine lv_iconst (v := 2) hx hb d_L_value_25 (by decide) ?_
  exact W.iret hx hb hr (fun t ht hW => ⟨⟨_, (), rfl, rfl, by rw [ht]; exact hP, va_K.moved hW.alike hK, hD⟩, hS.F ht⟩) hS.2.2 d_L_value_26
set_option maxHeartbeats 4000000 in
set_option maxRecDepth 100000 in
theorem k_L_paint (l : Launch) (dC : Nat → ClassId) (dI : Nat → Nat → Nat) (q : Nat) (cJ : ClassId) (g : Nat → Int64) (b : Nat → Nat) (cI cC : ClassId) (tx : Nat) (sz : Nat) (Fa : ST_F) (Aa : ST_A) (u1 : Int32) (u2 : Int32) (u3 : Int32) (F9 : ST_F) (A9 : ST_A) (hf : f_P_paint u1 u2 u3 Fa Aa = some (.inr (F9, A9))) : Met l y_L_paint (Cond.codeWith y_L_paint b_L_paint 5 (some .int) [(0, 7, 10, 21), (0, 7, 14, 13)] :: wA) ({ frames := 2, cells := 0, slots := 0, locals := 44 } : Room) (va_Pc ([.ref (b 0), .int u1, .int u2, .int u3] : List Value) (cc_Pre (dC, dI) vC [(cI, .int), (cC, .char), (cJ, .long)] (wO q cJ g b cI cC tx Fa Aa) sz)) (cc_Qi (dC, dI) vC [(cI, .int), (cC, .char), (cJ, .long)] (wO q cJ g b cI cC tx Fa Aa) sz (wO q cJ g b cI cC tx F9 A9) 0) 0 0 (va_A (wO q cJ g b cI cC tx Fa Aa) sz) := by
  refine hw_ofW (cc := b_L_paint) (maxL := 5) (ret := (some .int)) (hs := [(0, 7, 10, 21), (0, 7, 14, 13)]) (by decide) rfl ?_
  intro p e s m args below meth c s₁ B hml htab hv
  obtain ⟨rfl, hsz, hP, hK, hD0⟩ := hv
  have hx := B.exec
  have hb := B.bytes
  have hr := B.returns
  have hts := fun w h => atoms_spec (ws := (Cond.codeWith y_L_paint b_L_paint 5 (some .int) [(0, 7, 10, 21), (0, 7, 14, 13)] :: wA)) B.pre w (List.mem_cons_of_mem _ h)
  have hown : s.vm.findClass R_L = some m.cls := findClass_of_methodNamed B.named
  have hlocks := B.notSynchronized
  subst hsz
  have hD := hD0.self (sz := s.heap.size)
  have hK2 := hK.sub (tys' := [(cI, .int), (cC, .char)]) [0, 1] rfl
  have hA : ∀ z : Nat, s.heap.size ≤ z → (va_A (wO q cJ g b cI cC tx Fa Aa) s.heap.size) z := fun z h => Or.inr h
  have hS : va_S (va_A (wO q cJ g b cI cC tx Fa Aa) s.heap.size) s.heap s.heap [] := va_S.rf
  have hl := lv_entry (([.ref (b 0), .int u1, .int u2, .int u3] : List Value)) (n := 5) (Nat.le_of_ble_eq_true rfl)
  rw [lg_entry_eq]
  generalize (lg_sl (([.ref (b 0), .int u1, .int u2, .int u3] : List Value)) ++ List.replicate (5 - (lg_sl (([.ref (b 0), .int u1, .int u2, .int u3] : List Value))).length) Slot.unset).toArray = ls at hl ⊢
  have hl : lv_has ls 5 [(0, .ref (b 0)), (1, .int u1), (2, .int u2), (3, .int u3)] := hl
  refine lv_aload_n hx hb d_L_paint_0 rfl (lv_at hl 0 rfl) ?_
  refine lv_iload_n hx hb d_L_paint_1 rfl (lv_at hl 1 rfl) ?_
  refine lv_iload_n hx hb d_L_paint_2 rfl (lv_at hl 2 rfl) ?_
  refine lv_iload_n hx hb d_L_paint_3 rfl (lv_at hl 3 rfl) ?_
  refine cc_callvP (wc := (wP b cI cC tx Fa Aa)) (w1 := (wP b cI cC tx F9 A9)) (wq := [(q, .inl (cJ, 1, .inr (.inl g)))]) (va_runV (As := [.int u1, .int u2, .int u3]) (rest := []) ⟨hx, hb, hml, hown, hts⟩ (k_P_paint l dC dI b cI cC tx s.heap.size Fa Aa u1 u2 u3 F9 A9 hf) (cw_V 3 hts mw_469 mw_470 mw_471 mw_1 mw_472 rfl rfl rfl hd_P_paint ⟨Nat.le_of_ble_eq_true rfl, Nat.le_of_ble_eq_true rfl⟩) (cc_preVs hK2 hP hD [1, 2, 3, 4, 5, 6, 7, 8, 9, 10, 11, 12, 13, 14, 15, 16, 17, 18, 19, 20] (by decide) rfl rfl rfl (q0 := 1) rfl) rfl rfl hl.1 rfl (lv_room (Nat.le_of_ble_eq_true rfl)) d_L_paint_4 ⟨Nat.zero_le _, Nat.zero_le _⟩) hP hD hS hA [1, 2, 3, 4, 5, 6, 7, 8, 9, 10, 11, 12, 13, 14, 15, 16, 17, 18, 19, 20] [0] rfl rfl (by decide) (by decide) (fun H locs hP hD hS => ?_)
  have hP : va_P (dC, dI) vC (wO q cJ g b cI cC tx F9 A9) H := hP
  have hD : va_D (va_A (wO q cJ g b cI cC tx Fa Aa) s.heap.size) (wO q cJ g b cI cC tx F9 A9) := hD
  refine lv_goto (tgt := 18) hx hb d_L_paint_7 (by decide) ?_
  refine lv_iconst (v := 0) hx hb d_L_paint_18 (by decide) ?_
  exact W.iret hx hb hr (fun t ht hW => ⟨⟨_, (), rfl, rfl, by rw [ht]; exact hP, va_K.moved hW.alike hK, hD⟩, hS.F ht⟩) hS.2.2 d_L_paint_19
set_option maxHeartbeats 4000000 in
set_option maxRecDepth 100000 in
theorem t_L_paint_3 (l : Launch) (hfl : l.stackTraces = false) (dC : Nat → ClassId) (dI : Nat → Nat → Nat) (q : Nat) (cJ : ClassId) (g : Nat → Int64) (b : Nat → Nat) (cI cC : ClassId) (tx : Nat) (sz : Nat) (Fa : ST_F) (Aa : ST_A) (u1 : Int32) (u2 : Int32) (u3 : Int32) (hf : f_P_paint u1 u2 u3 Fa Aa = some (.inl 3)) : Met l y_L_paint (Cond.codeWith y_L_paint b_L_paint 5 (some .int) [(0, 7, 10, 21), (0, 7, 14, 13)] :: wA) ({ frames := 9, cells := 1, slots := 6, locals := 143 } : Room) (va_Pc ([.ref (b 0), .int u1, .int u2, .int u3] : List Value) (fun U => cc_Pre (dC, dI) vC [(cI, .int), (cC, .char), (cJ, .long)] (wO q cJ g b cI cC tx Fa Aa) sz U ∧ th_NZ U)) (cc_Qi (dC, dI) vC [(cI, .int), (cC, .char), (cJ, .long)] (wO q cJ g b cI cC tx Fa Aa) sz (wO q cJ g b cI cC tx Fa Aa) 1) 1 6 (va_A (wO q cJ g b cI cC tx Fa Aa) sz) := by
  refine hw_ofW (cc := b_L_paint) (maxL := 5) (ret := (some .int)) (hs := [(0, 7, 10, 21), (0, 7, 14, 13)]) (by decide) rfl ?_
  intro p e s m args below meth c s₁ B hml htab hv
  obtain ⟨rfl, ⟨hsz, hP, hK, hD0⟩, ⟨B0, hZ⟩, hN1, hN2, hN3⟩ := hv
  have hx := B.exec
  have hb := B.bytes
  have hr := B.returns
  have hts := fun w h => atoms_spec (ws := (Cond.codeWith y_L_paint b_L_paint 5 (some .int) [(0, 7, 10, 21), (0, 7, 14, 13)] :: wA)) B.pre w (List.mem_cons_of_mem _ h)
  have hown : s.vm.findClass R_L = some m.cls := findClass_of_methodNamed B.named
  have hlocks := B.notSynchronized
  subst hsz
  have hD := hD0.self (sz := s.heap.size)
  have hK2 := hK.sub (tys' := [(cI, .int), (cC, .char)]) [0, 1] rfl
  have hA : ∀ z : Nat, s.heap.size ≤ z → (va_A (wO q cJ g b cI cC tx Fa Aa) s.heap.size) z := fun z h => Or.inr h
  have hS : va_S (va_A (wO q cJ g b cI cC tx Fa Aa) s.heap.size) s.heap s.heap [] := va_S.rf
  have hl := lv_entry (([.ref (b 0), .int u1, .int u2, .int u3] : List Value)) (n := 5) (Nat.le_of_ble_eq_true rfl)
  rw [lg_entry_eq]
  generalize (lg_sl (([.ref (b 0), .int u1, .int u2, .int u3] : List Value)) ++ List.replicate (5 - (lg_sl (([.ref (b 0), .int u1, .int u2, .int u3] : List Value))).length) Slot.unset).toArray = ls at hl ⊢
  have hl : lv_has ls 5 [(0, .ref (b 0)), (1, .int u1), (2, .int u2), (3, .int u3)] := hl
  refine lv_aload_n hx hb d_L_paint_0 rfl (lv_at hl 0 rfl) ?_
  refine lv_iload_n hx hb d_L_paint_1 rfl (lv_at hl 1 rfl) ?_
  refine lv_iload_n hx hb d_L_paint_2 rfl (lv_at hl 2 rfl) ?_
  refine lv_iload_n hx hb d_L_paint_3 rfl (lv_at hl 3 rfl) ?_
  have htab2 : c.exceptionTable.toList = [⟨0, 7, 10, 21⟩, ⟨0, 7, 14, 13⟩] := htab
  refine th_callV (As := [.int u1, .int u2, .int u3]) (rest := []) (hp := 10) ⟨hx, hb, hml, hown, hts⟩ (t_P_paint_3 l hfl dC dI b cI cC tx s.heap.size Fa Aa u1 u2 u3 hf) (cw_VT 3 hts mw_469 mw_470 mw_471 mw_1 mw_472 rfl rfl rfl hd_P_paint ⟨Nat.le_of_ble_eq_true rfl, Nat.le_of_ble_eq_true rfl⟩) (th_preV hK2 hP hD hZ [1, 2, 3, 4, 5, 6, 7, 8, 9, 10, 11, 12, 13, 14, 15, 16, 17, 18, 19, 20] (by decide) rfl rfl rfl (q0 := 1) rfl) rfl hl.1 rfl (lv_room (Nat.le_of_ble_eq_true rfl)) d_L_paint_4 ⟨by decide, by decide⟩ (by rw [htab2]; exact ⟨rfl, by decide, _, hts _ mw_382, Or.inl ⟨rfl, rfl⟩⟩) (fun x H hz ho => ?_)
  have hP := hP.kept (H1 := H) (fun k q hk => ho q.1 (hP k q hk).lt)
  have hS : va_S (va_A (wO q cJ g b cI cC tx Fa Aa) s.heap.size) s.heap H [] := ⟨hz, fun q h _ => ho q h, fun _ h => by cases h⟩
  refine lv_astore hx hb d_L_paint_10 hl (by decide) rfl (fun ls hl => ?_)
  refine lv_iconst (v := 1) hx hb d_L_paint_12 (by decide) ?_
  exact W.iret hx hb hr (fun t ht hW => ⟨⟨_, (), rfl, rfl, by rw [ht]; exact hP, va_K.moved hW.alike hK, hD⟩, hS.F ht⟩) hS.2.2 d_L_paint_13
set_option maxHeartbeats 4000000 in
set_option maxRecDepth 100000 in
theorem t_L_paint_1 (l : Launch) (hfl : l.stackTraces = false) (dC : Nat → ClassId) (dI : Nat → Nat → Nat) (q : Nat) (cJ : ClassId) (g : Nat → Int64) (b : Nat → Nat) (cI cC : ClassId) (tx : Nat) (sz : Nat) (Fa : ST_F) (Aa : ST_A) (u1 : Int32) (u2 : Int32) (u3 : Int32) (hf : f_P_paint u1 u2 u3 Fa Aa = some (.inl 1)) : Met l y_L_paint (Cond.codeWith y_L_paint b_L_paint 5 (some .int) [(0, 7, 10, 21), (0, 7, 14, 13)] :: wA) ({ frames := 9, cells := 1, slots := 6, locals := 143 } : Room) (va_Pc ([.ref (b 0), .int u1, .int u2, .int u3] : List Value) (fun U => cc_Pre (dC, dI) vC [(cI, .int), (cC, .char), (cJ, .long)] (wO q cJ g b cI cC tx Fa Aa) sz U ∧ th_NZ U)) (cc_Qi (dC, dI) vC [(cI, .int), (cC, .char), (cJ, .long)] (wO q cJ g b cI cC tx Fa Aa) sz (wO q cJ g b cI cC tx Fa Aa) 2) 1 6 (va_A (wO q cJ g b cI cC tx Fa Aa) sz) := by
  refine hw_ofW (cc := b_L_paint) (maxL := 5) (ret := (some .int)) (hs := [(0, 7, 10, 21), (0, 7, 14, 13)]) (by decide) rfl ?_
  intro p e s m args below meth c s₁ B hml htab hv
  obtain ⟨rfl, ⟨hsz, hP, hK, hD0⟩, ⟨B0, hZ⟩, hN1, hN2, hN3⟩ := hv
  have hx := B.exec
  have hb := B.bytes
  have hr := B.returns
  have hts := fun w h => atoms_spec (ws := (Cond.codeWith y_L_paint b_L_paint 5 (some .int) [(0, 7, 10, 21), (0, 7, 14, 13)] :: wA)) B.pre w (List.mem_cons_of_mem _ h)
  have hown : s.vm.findClass R_L = some m.cls := findClass_of_methodNamed B.named
  have hlocks := B.notSynchronized
  subst hsz
  have hD := hD0.self (sz := s.heap.size)
  have hK2 := hK.sub (tys' := [(cI, .int), (cC, .char)]) [0, 1] rfl
  have hA : ∀ z : Nat, s.heap.size ≤ z → (va_A (wO q cJ g b cI cC tx Fa Aa) s.heap.size) z := fun z h => Or.inr h
  have hS : va_S (va_A (wO q cJ g b cI cC tx Fa Aa) s.heap.size) s.heap s.heap [] := va_S.rf
  have hl := lv_entry (([.ref (b 0), .int u1, .int u2, .int u3] : List Value)) (n := 5) (Nat.le_of_ble_eq_true rfl)
  rw [lg_entry_eq]
  generalize (lg_sl (([.ref (b 0), .int u1, .int u2, .int u3] : List Value)) ++ List.replicate (5 - (lg_sl (([.ref (b 0), .int u1, .int u2, .int u3] : List Value))).length) Slot.unset).toArray = ls at hl ⊢
  have hl : lv_has ls 5 [(0, .ref (b 0)), (1, .int u1), (2, .int u2), (3, .int u3)] := hl
  refine lv_aload_n hx hb d_L_paint_0 rfl (lv_at hl 0 rfl) ?_
  refine lv_iload_n hx hb d_L_paint_1 rfl (lv_at hl 1 rfl) ?_
  refine lv_iload_n hx hb d_L_paint_2 rfl (lv_at hl 2 rfl) ?_
  refine lv_iload_n hx hb d_L_paint_3 rfl (lv_at hl 3 rfl) ?_
  have htab2 : c.exceptionTable.toList = [⟨0, 7, 10, 21⟩, ⟨0, 7, 14, 13⟩] := htab
  refine th_callV (As := [.int u1, .int u2, .int u3]) (rest := []) (hp := 14) ⟨hx, hb, hml, hown, hts⟩ (t_P_paint_1 l hfl dC dI b cI cC tx s.heap.size Fa Aa u1 u2 u3 hf) (cw_VT 3 hts mw_469 mw_470 mw_471 mw_1 mw_472 rfl rfl rfl hd_P_paint ⟨Nat.le_of_ble_eq_true rfl, Nat.le_of_ble_eq_true rfl⟩) (th_preV hK2 hP hD hZ [1, 2, 3, 4, 5, 6, 7, 8, 9, 10, 11, 12, 13, 14, 15, 16, 17, 18, 19, 20] (by decide) rfl rfl rfl (q0 := 1) rfl) rfl hl.1 rfl (lv_room (Nat.le_of_ble_eq_true rfl)) d_L_paint_4 ⟨by decide, by decide⟩ (by rw [htab2]; exact ⟨rfl, by decide, _, hts _ mw_382, Or.inr ⟨hN3, ⟨rfl, by decide, _, hts _ mw_295, Or.inl ⟨rfl, rfl⟩⟩⟩⟩) (fun x H hz ho => ?_)
  have hP := hP.kept (H1 := H) (fun k q hk => ho q.1 (hP k q hk).lt)
  have hS : va_S (va_A (wO q cJ g b cI cC tx Fa Aa) s.heap.size) s.heap H [] := ⟨hz, fun q h _ => ho q h, fun _ h => by cases h⟩
  refine lv_astore hx hb d_L_paint_14 hl (by decide) rfl (fun ls hl => ?_)
  refine lv_iconst (v := 2) hx hb d_L_paint_16 (by decide) ?_
  exact W.iret hx hb hr (fun t ht hW => ⟨⟨_, (), rfl, rfl, by rw [ht]; exact hP, va_K.moved hW.alike hK, hD⟩, hS.F ht⟩) hS.2.2 d_L_paint_17
set_option maxHeartbeats 4000000 in
set_option maxRecDepth 100000 in
theorem k_L_run (l : Launch) (dC : Nat → ClassId) (dI : Nat → Nat → Nat) (q : Nat) (cJ : ClassId) (g : Nat → Int64) (b : Nat → Nat) (cI cC : ClassId) (tx : Nat) (sz : Nat) (Fa : ST_F) (Aa : ST_A) (u1 : Int32) (F9 : ST_F) (A9 : ST_A) (hf : f_P_run u1 Fa Aa = some (.inr (F9, A9))) : Met l y_L_run (Cond.codeWith y_L_run b_L_run 3 (some .int) [(0, 5, 8, 15)] :: wA) ({ frames := 6, cells := 0, slots := 0, locals := 137 } : Room) (va_Pc ([.ref (b 0), .int u1] : List Value) (cc_Pre (dC, dI) vC [(cI, .int), (cC, .char), (cJ, .long)] (wO q cJ g b cI cC tx Fa Aa) sz)) (cc_Qi (dC, dI) vC [(cI, .int), (cC, .char), (cJ, .long)] (wO q cJ g b cI cC tx Fa Aa) sz (wO q cJ g b cI cC tx F9 A9) 0) 0 0 (va_A (wO q cJ g b cI cC tx Fa Aa) sz) := by
  refine hw_ofW (cc := b_L_run) (maxL := 3) (ret := (some .int)) (hs := [(0, 5, 8, 15)]) (by decide) rfl ?_
  intro p e s m args below meth c s₁ B hml htab hv
  obtain ⟨rfl, hsz, hP, hK, hD0⟩ := hv
  have hx := B.exec
  have hb := B.bytes
  have hr := B.returns
  have hts := fun w h => atoms_spec (ws := (Cond.codeWith y_L_run b_L_run 3 (some .int) [(0, 5, 8, 15)] :: wA)) B.pre w (List.mem_cons_of_mem _ h)
  have hown : s.vm.findClass R_L = some m.cls := findClass_of_methodNamed B.named
  have hlocks := B.notSynchronized
  subst hsz
  have hD := hD0.self (sz := s.heap.size)
  have hK2 := hK.sub (tys' := [(cI, .int), (cC, .char)]) [0, 1] rfl
  have hA : ∀ z : Nat, s.heap.size ≤ z → (va_A (wO q cJ g b cI cC tx Fa Aa) s.heap.size) z := fun z h => Or.inr h
  have hS : va_S (va_A (wO q cJ g b cI cC tx Fa Aa) s.heap.size) s.heap s.heap [] := va_S.rf
  have hl := lv_entry (([.ref (b 0), .int u1] : List Value)) (n := 3) (Nat.le_of_ble_eq_true rfl)
  rw [lg_entry_eq]
  generalize (lg_sl (([.ref (b 0), .int u1] : List Value)) ++ List.replicate (3 - (lg_sl (([.ref (b 0), .int u1] : List Value))).length) Slot.unset).toArray = ls at hl ⊢
  have hl : lv_has ls 3 [(0, .ref (b 0)), (1, .int u1)] := hl
  refine lv_aload_n hx hb d_L_run_0 rfl (lv_at hl 0 rfl) ?_
  refine lv_iload_n hx hb d_L_run_1 rfl (lv_at hl 1 rfl) ?_
  refine cc_callvP (wc := (wP b cI cC tx Fa Aa)) (w1 := (wP b cI cC tx F9 A9)) (wq := [(q, .inl (cJ, 1, .inr (.inl g)))]) (va_runV (As := [.int u1]) (rest := []) ⟨hx, hb, hml, hown, hts⟩ (k_P_run l dC dI b cI cC tx s.heap.size Fa Aa u1 F9 A9 hf) (cw_V 1 hts mw_479 mw_480 mw_481 mw_1 mw_482 rfl rfl rfl hd_P_run ⟨Nat.le_of_ble_eq_true rfl, Nat.le_of_ble_eq_true rfl⟩) (cc_preVs hK2 hP hD [1, 2, 3, 4, 5, 6, 7, 8, 9, 10, 11, 12, 13, 14, 15, 16, 17, 18, 19, 20] (by decide) rfl rfl rfl (q0 := 1) rfl) rfl rfl hl.1 rfl (lv_room (Nat.le_of_ble_eq_true rfl)) d_L_run_2 ⟨Nat.zero_le _, Nat.zero_le _⟩) hP hD hS hA [1, 2, 3, 4, 5, 6, 7, 8, 9, 10, 11, 12, 13, 14, 15, 16, 17, 18, 19, 20] [0] rfl rfl (by decide) (by decide) (fun H locs hP hD hS => ?_)
  have hP : va_P (dC, dI) vC (wO q cJ g b cI cC tx F9 A9) H := hP
  have hD : va_D (va_A (wO q cJ g b cI cC tx Fa Aa) s.heap.size) (wO q cJ g b cI cC tx F9 A9) := hD
  refine lv_goto (tgt := 11) hx hb d_L_run_5 (by decide) ?_
  refine lv_iconst (v := 0) hx hb d_L_run_11 (by decide) ?_
  exact W.iret hx hb hr (fun t ht hW => ⟨⟨_, (), rfl, rfl, by rw [ht]; exact hP, va_K.moved hW.alike hK, hD⟩, hS.F ht⟩) hS.2.2 d_L_run_12
set_option maxHeartbeats 4000000 in
set_option maxRecDepth 100000 in
theorem t_L_run_2 (l : Launch) (hfl : l.stackTraces = false) (dC : Nat → ClassId) (dI : Nat → Nat → Nat) (q : Nat) (cJ : ClassId) (g : Nat → Int64) (b : Nat → Nat) (cI cC : ClassId) (tx : Nat) (sz : Nat) (Fa : ST_F) (Aa : ST_A) (u1 : Int32) (hf : f_P_run u1 Fa Aa = some (.inl 2)) : Met l y_L_run (Cond.codeWith y_L_run b_L_run 3 (some .int) [(0, 5, 8, 15)] :: wA) ({ frames := 9, cells := 1, slots := 6, locals := 144 } : Room) (va_Pc ([.ref (b 0), .int u1] : List Value) (fun U => cc_Pre (dC, dI) vC [(cI, .int), (cC, .char), (cJ, .long)] (wO q cJ g b cI cC tx Fa Aa) sz U ∧ th_NZ U)) (cc_Qi (dC, dI) vC [(cI, .int), (cC, .char), (cJ, .long)] (wO q cJ g b cI cC tx Fa Aa) sz (wO q cJ g b cI cC tx Fa Aa) 1) 1 6 (va_A (wO q cJ g b cI cC tx Fa Aa) sz) := by
  refine hw_ofW (cc := b_L_run) (maxL := 3) (ret := (some .int)) (hs := [(0, 5, 8, 15)]) (by decide) rfl ?_
  intro p e s m args below meth c s₁ B hml htab hv
  obtain ⟨rfl, ⟨hsz, hP, hK, hD0⟩, ⟨B0, hZ⟩, hN1, hN2, hN3⟩ := hv
  have hx := B.exec
  have hb := B.bytes
  have hr := B.returns
  have hts := fun w h => atoms_spec (ws := (Cond.codeWith y_L_run b_L_run 3 (some .int) [(0, 5, 8, 15)] :: wA)) B.pre w (List.mem_cons_of_mem _ h)
  have hown : s.vm.findClass R_L = some m.cls := findClass_of_methodNamed B.named
  have hlocks := B.notSynchronized
  subst hsz
  have hD := hD0.self (sz := s.heap.size)
  have hK2 := hK.sub (tys' := [(cI, .int), (cC, .char)]) [0, 1] rfl
  have hA : ∀ z : Nat, s.heap.size ≤ z → (va_A (wO q cJ g b cI cC tx Fa Aa) s.heap.size) z := fun z h => Or.inr h
  have hS : va_S (va_A (wO q cJ g b cI cC tx Fa Aa) s.heap.size) s.heap s.heap [] := va_S.rf
  have hl := lv_entry (([.ref (b 0), .int u1] : List Value)) (n := 3) (Nat.le_of_ble_eq_true rfl)
  rw [lg_entry_eq]
  generalize (lg_sl (([.ref (b 0), .int u1] : List Value)) ++ List.replicate (3 - (lg_sl (([.ref (b 0), .int u1] : List Value))).length) Slot.unset).toArray = ls at hl ⊢
  have hl : lv_has ls 3 [(0, .ref (b 0)), (1, .int u1)] := hl
  refine lv_aload_n hx hb d_L_run_0 rfl (lv_at hl 0 rfl) ?_
  refine lv_iload_n hx hb d_L_run_1 rfl (lv_at hl 1 rfl) ?_
  have htab2 : c.exceptionTable.toList = [⟨0, 5, 8, 15⟩] := htab
  refine th_callV (As := [.int u1]) (rest := []) (hp := 8) ⟨hx, hb, hml, hown, hts⟩ (t_P_run_2 l hfl dC dI b cI cC tx s.heap.size Fa Aa u1 hf) (cw_VT 1 hts mw_479 mw_480 mw_481 mw_1 mw_482 rfl rfl rfl hd_P_run ⟨Nat.le_of_ble_eq_true rfl, Nat.le_of_ble_eq_true rfl⟩) (th_preV hK2 hP hD hZ [1, 2, 3, 4, 5, 6, 7, 8, 9, 10, 11, 12, 13, 14, 15, 16, 17, 18, 19, 20] (by decide) rfl rfl rfl (q0 := 1) rfl) rfl hl.1 rfl (lv_room (Nat.le_of_ble_eq_true rfl)) d_L_run_2 ⟨by decide, by decide⟩ (by rw [htab2]; exact ⟨rfl, by decide, _, hts _ mw_296, Or.inl ⟨rfl, rfl⟩⟩) (fun x H hz ho => ?_)
  have hP := hP.kept (H1 := H) (fun k q hk => ho q.1 (hP k q hk).lt)
  have hS : va_S (va_A (wO q cJ g b cI cC tx Fa Aa) s.heap.size) s.heap H [] := ⟨hz, fun q h _ => ho q h, fun _ h => by cases h⟩
  refine lv_astore_n hx hb d_L_run_8 rfl hl (by decide) rfl (fun ls hl => ?_)
  refine lv_iconst (v := 1) hx hb d_L_run_9 (by decide) ?_
  exact W.iret hx hb hr (fun t ht hW => ⟨⟨_, (), rfl, rfl, by rw [ht]; exact hP, va_K.moved hW.alike hK, hD⟩, hS.F ht⟩) hS.2.2 d_L_run_10
set_option maxHeartbeats 4000000 in
set_option maxRecDepth 100000 in
theorem k_L_pixel (l : Launch) (dC : Nat → ClassId) (dI : Nat → Nat → Nat) (q : Nat) (cJ : ClassId) (g : Nat → Int64) (b : Nat → Nat) (cI cC : ClassId) (tx : Nat) (sz : Nat) (Fa : ST_F) (Aa : ST_A) (u1 : Int32) (u2 : Int32) (r0 : Int32) (F9 : ST_F) (A9 : ST_A) (hf : f_P_pixel u1 u2 Fa Aa = some (.inr (r0, F9, A9))) : Met l y_L_pixel (Cond.codeWith y_L_pixel b_L_pixel 5 (some .int) [(0, 10, 13, 21)] :: wA) ({ frames := 2, cells := 0, slots := 0, locals := 43 } : Room) (va_Pc ([.ref (b 0), .int u1, .int u2, .ref q] : List Value) (cc_Pre (dC, dI) vC [(cI, .int), (cC, .char), (cJ, .long)] (wO q cJ g b cI cC tx Fa Aa) sz)) (cc_Qi (dC, dI) vC [(cI, .int), (cC, .char), (cJ, .long)] (wO q cJ g b cI cC tx Fa Aa) sz (wO q cJ (vp_updL g 0 r0.toInt64) b cI cC tx F9 A9) 0) 0 0 (va_A (wO q cJ g b cI cC tx Fa Aa) sz) := by
  refine hw_ofW (cc := b_L_pixel) (maxL := 5) (ret := (some .int)) (hs := [(0, 10, 13, 21)]) (by decide) rfl ?_
  intro p e s m args below meth c s₁ B hml htab hv
  obtain ⟨rfl, hsz, hP, hK, hD0⟩ := hv
  have hx := B.exec
  have hb := B.bytes
  have hr := B.returns
  have hts := fun w h => atoms_spec (ws := (Cond.codeWith y_L_pixel b_L_pixel 5 (some .int) [(0, 10, 13, 21)] :: wA)) B.pre w (List.mem_cons_of_mem _ h)
  have hown : s.vm.findClass R_L = some m.cls := findClass_of_methodNamed B.named
  have hlocks := B.notSynchronized
  subst hsz
  have hD := hD0.self (sz := s.heap.size)
  have hK2 := hK.sub (tys' := [(cI, .int), (cC, .char)]) [0, 1] rfl
  have hA : ∀ z : Nat, s.heap.size ≤ z → (va_A (wO q cJ g b cI cC tx Fa Aa) s.heap.size) z := fun z h => Or.inr h
  have hS : va_S (va_A (wO q cJ g b cI cC tx Fa Aa) s.heap.size) s.heap s.heap [] := va_S.rf
  have hl := lv_entry (([.ref (b 0), .int u1, .int u2, .ref q] : List Value)) (n := 5) (Nat.le_of_ble_eq_true rfl)
  rw [lg_entry_eq]
  generalize (lg_sl (([.ref (b 0), .int u1, .int u2, .ref q] : List Value)) ++ List.replicate (5 - (lg_sl (([.ref (b 0), .int u1, .int u2, .ref q] : List Value))).length) Slot.unset).toArray = ls at hl ⊢
  have hl : lv_has ls 5 [(0, .ref (b 0)), (1, .int u1), (2, .int u2), (3, .ref q)] := hl
  refine lv_aload_n hx hb d_L_pixel_0 rfl (lv_at hl 3 rfl) ?_
  refine lv_iconst (v := 0) hx hb d_L_pixel_1 (by decide) ?_
  refine lv_aload_n hx hb d_L_pixel_2 rfl (lv_at hl 0 rfl) ?_
  refine lv_iload_n hx hb d_L_pixel_3 rfl (lv_at hl 1 rfl) ?_
  refine lv_iload_n hx hb d_L_pixel_4 rfl (lv_at hl 2 rfl) ?_
  refine cc_calliP (wc := (wP b cI cC tx Fa Aa)) (w1 := (wP b cI cC tx F9 A9)) (wq := [(q, .inl (cJ, 1, .inr (.inl g)))]) (va_runV (As := [.int u1, .int u2]) (rest := [.int (0 : Int32), .ref q]) ⟨hx, hb, hml, hown, hts⟩ (k_P_pixel l dC dI b cI cC tx s.heap.size Fa Aa u1 u2 r0 F9 A9 hf) (cw_V 2 hts mw_493 mw_494 mw_495 mw_1 mw_496 rfl rfl rfl hd_P_pixel ⟨Nat.le_of_ble_eq_true rfl, Nat.le_of_ble_eq_true rfl⟩) (cc_preVs hK2 hP hD [1, 2, 3, 4, 5, 6, 7, 8, 9, 10, 11, 12, 13, 14, 15, 16, 17, 18, 19, 20] (by decide) rfl rfl rfl (q0 := 1) rfl) rfl rfl hl.1 rfl (lv_room (Nat.le_of_ble_eq_true rfl)) d_L_pixel_5 ⟨Nat.zero_le _, Nat.zero_le _⟩) hP hD hS hA [1, 2, 3, 4, 5, 6, 7, 8, 9, 10, 11, 12, 13, 14, 15, 16, 17, 18, 19, 20] [0] rfl rfl (by decide) (by decide) (fun H locs hP hD hS => ?_)
  refine lv_i2l hx hb d_L_pixel_8 rfl ?_
  refine va_last hx hb hK hP hD hS 0 2 rfl rfl (by unfold vp_in; decide) d_L_pixel_9 (fun H locs hP hD hS => ?_)
  have hP : va_P (dC, dI) vC (wO q cJ (vp_updL g 0 r0.toInt64) b cI cC tx F9 A9) H := hP
  have hD : va_D (va_A (wO q cJ g b cI cC tx Fa Aa) s.heap.size) (wO q cJ (vp_updL g 0 r0.toInt64) b cI cC tx F9 A9) := hD
  refine lv_goto (tgt := 17) hx hb d_L_pixel_10 (by decide) ?_
  refine lv_iconst (v := 0) hx hb d_L_pixel_17 (by decide) ?_
  exact W.iret hx hb hr (fun t ht hW => ⟨⟨_, (), rfl, rfl, by rw [ht]; exact hP, va_K.moved hW.alike hK, hD⟩, hS.F ht⟩) hS.2.2 d_L_pixel_18
set_option maxHeartbeats 4000000 in
set_option maxRecDepth 100000 in
theorem t_L_pixel_3 (l : Launch) (hfl : l.stackTraces = false) (dC : Nat → ClassId) (dI : Nat → Nat → Nat) (q : Nat) (cJ : ClassId) (g : Nat → Int64) (b : Nat → Nat) (cI cC : ClassId) (tx : Nat) (sz : Nat) (Fa : ST_F) (Aa : ST_A) (u1 : Int32) (u2 : Int32) (hf : f_P_pixel u1 u2 Fa Aa = some (.inl 3)) : Met l y_L_pixel (Cond.codeWith y_L_pixel b_L_pixel 5 (some .int) [(0, 10, 13, 21)] :: wA) ({ frames := 9, cells := 1, slots := 6, locals := 142 } : Room) (va_Pc ([.ref (b 0), .int u1, .int u2, .ref q] : List Value) (fun U => cc_Pre (dC, dI) vC [(cI, .int), (cC, .char), (cJ, .long)] (wO q cJ g b cI cC tx Fa Aa) sz U ∧ th_NZ U)) (cc_Qi (dC, dI) vC [(cI, .int), (cC, .char), (cJ, .long)] (wO q cJ g b cI cC tx Fa Aa) sz (wO q cJ g b cI cC tx Fa Aa) 1) 1 6 (va_A (wO q cJ g b cI cC tx Fa Aa) sz) := by
  refine hw_ofW (cc := b_L_pixel) (maxL := 5) (ret := (some .int)) (hs := [(0, 10, 13, 21)]) (by decide) rfl ?_
  intro p e s m args below meth c s₁ B hml htab hv
  obtain ⟨rfl, ⟨hsz, hP, hK, hD0⟩, ⟨B0, hZ⟩, hN1, hN2, hN3⟩ := hv
  have hx := B.exec
  have hb := B.bytes
  have hr := B.returns
  have hts := fun w h => atoms_spec (ws := (Cond.codeWith y_L_pixel b_L_pixel 5 (some .int) [(0, 10, 13, 21)] :: wA)) B.pre w (List.mem_cons_of_mem _ h)
  have hown : s.vm.findClass R_L = some m.cls := findClass_of_methodNamed B.named
  have hlocks := B.notSynchronized
  subst hsz
  have hD := hD0.self (sz := s.heap.size)
  have hK2 := hK.sub (tys' := [(cI, .int), (cC, .char)]) [0, 1] rfl
  have hA : ∀ z : Nat, s.heap.size ≤ z → (va_A (wO q cJ g b cI cC tx Fa Aa) s.heap.size) z := fun z h => Or.inr h
  have hS : va_S (va_A (wO q cJ g b cI cC tx Fa Aa) s.heap.size) s.heap s.heap [] := va_S.rf
  have hl := lv_entry (([.ref (b 0), .int u1, .int u2, .ref q] : List Value)) (n := 5) (Nat.le_of_ble_eq_true rfl)
  rw [lg_entry_eq]
  generalize (lg_sl (([.ref (b 0), .int u1, .int u2, .ref q] : List Value)) ++ List.replicate (5 - (lg_sl (([.ref (b 0), .int u1, .int u2, .ref q] : List Value))).length) Slot.unset).toArray = ls at hl ⊢
  have hl : lv_has ls 5 [(0, .ref (b 0)), (1, .int u1), (2, .int u2), (3, .ref q)] := hl
  refine lv_aload_n hx hb d_L_pixel_0 rfl (lv_at hl 3 rfl) ?_
  refine lv_iconst (v := 0) hx hb d_L_pixel_1 (by decide) ?_
  refine lv_aload_n hx hb d_L_pixel_2 rfl (lv_at hl 0 rfl) ?_
  refine lv_iload_n hx hb d_L_pixel_3 rfl (lv_at hl 1 rfl) ?_
  refine lv_iload_n hx hb d_L_pixel_4 rfl (lv_at hl 2 rfl) ?_
  have htab2 : c.exceptionTable.toList = [⟨0, 10, 13, 21⟩] := htab
  refine th_callV (As := [.int u1, .int u2]) (rest := [.int (0 : Int32), .ref q]) (hp := 13) ⟨hx, hb, hml, hown, hts⟩ (t_P_pixel_3 l hfl dC dI b cI cC tx s.heap.size Fa Aa u1 u2 hf) (cw_VT 2 hts mw_493 mw_494 mw_495 mw_1 mw_496 rfl rfl rfl hd_P_pixel ⟨Nat.le_of_ble_eq_true rfl, Nat.le_of_ble_eq_true rfl⟩) (th_preV hK2 hP hD hZ [1, 2, 3, 4, 5, 6, 7, 8, 9, 10, 11, 12, 13, 14, 15, 16, 17, 18, 19, 20] (by decide) rfl rfl rfl (q0 := 1) rfl) rfl hl.1 rfl (lv_room (Nat.le_of_ble_eq_true rfl)) d_L_pixel_5 ⟨by decide, by decide⟩ (by rw [htab2]; exact ⟨rfl, by decide, _, hts _ mw_382, Or.inl ⟨rfl, rfl⟩⟩) (fun x H hz ho => ?_)
  have hP := hP.kept (H1 := H) (fun k q hk => ho q.1 (hP k q hk).lt)
  have hS : va_S (va_A (wO q cJ g b cI cC tx Fa Aa) s.heap.size) s.heap H [] := ⟨hz, fun q h _ => ho q h, fun _ h => by cases h⟩
  refine lv_astore hx hb d_L_pixel_13 hl (by decide) rfl (fun ls hl => ?_)
  refine lv_iconst (v := 1) hx hb d_L_pixel_15 (by decide) ?_
  exact W.iret hx hb hr (fun t ht hW => ⟨⟨_, (), rfl, rfl, by rw [ht]; exact hP, va_K.moved hW.alike hK, hD⟩, hS.F ht⟩) hS.2.2 d_L_pixel_16
