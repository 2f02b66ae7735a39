def f_V_ofType (u0 : Int32) : Int32 := (u0 <<< ((28 : Int32) &&& 31))
set_option maxHeartbeats 4000000 in
set_option maxRecDepth 100000 in
theorem k_V_ofType (l : Launch) (u0 : Int32) (r0 : Int32) (hf : f_V_ofType u0 = r0) : cc_MetS l y_V_ofType (Cond.code y_V_ofType b_V_ofType 1 (some .int) :: wA) ({ frames := 0, cells := 0, slots := 0, locals := 0 } : Room) ([.int u0] : List Value) r0 := by
  refine Met.ofW (cc := b_V_ofType) (maxL := 1) (ret := (some .int)) (by decide) rfl ?_
  intro p e s m args below meth c s₁ B hml hv
  obtain rfl : args = ([.int u0] : List Value).toArray := hv
  have hx := B.exec
  have hb := B.bytes
  have hr := B.returns
  have hts := fun w h => atoms_spec (ws := (Cond.code y_V_ofType b_V_ofType 1 (some .int) :: wA)) B.pre w (List.mem_cons_of_mem _ h)
  have hown : s.vm.findClass R_V = some m.cls := findClass_of_methodNamed B.named
  have hlocks := B.notSynchronized
  have hl := lv_entry (([.int u0] : List Value)) (n := 1) (Nat.le_of_ble_eq_true rfl)
  rw [lg_entry_eq]
  generalize (lg_sl (([.int u0] : List Value)) ++ List.replicate (1 - (lg_sl (([.int u0] : List Value))).length) Slot.unset).toArray = ls at hl ⊢
  have hl : lv_has ls 1 [(0, .int u0)] := hl
  unfold f_V_ofType at hf
  refine lv_iload_n hx hb d_V_ofType_0 rfl (lv_at hl 0 rfl) ?_
  refine lv_bipush (v := 28) hx hb d_V_ofType_1 (by decide) ?_
  refine lv_ishl hx hb d_V_ofType_3 ?_
  exact W.iret (v := (u0 <<< ((28 : Int32) &&& 31))) hx hb hr (fun t ht hW => ⟨_, rfl, hf, ht⟩) (fun q h => by cases h) d_V_ofType_4
def f_V_typeIn (u0 : Int32) : Int32 := (u0 >>> ((28 : Int32) &&& 31))
set_option maxHeartbeats 4000000 in
set_option maxRecDepth 100000 in
theorem k_V_typeIn (l : Launch) (u0 : Int32) (r0 : Int32) (hf : f_V_typeIn u0 = r0) : cc_MetS l y_V_typeIn (Cond.code y_V_typeIn b_V_typeIn 1 (some .int) :: wA) ({ frames := 0, cells := 0, slots := 0, locals := 0 } : Room) ([.int u0] : List Value) r0 := by
  refine Met.ofW (cc := b_V_typeIn) (maxL := 1) (ret := (some .int)) (by decide) rfl ?_
  intro p e s m args below meth c s₁ B hml hv
  obtain rfl : args = ([.int u0] : List Value).toArray := hv
  have hx := B.exec
  have hb := B.bytes
  have hr := B.returns
  have hts := fun w h => atoms_spec (ws := (Cond.code y_V_typeIn b_V_typeIn 1 (some .int) :: wA)) B.pre w (List.mem_cons_of_mem _ h)
  have hown : s.vm.findClass R_V = some m.cls := findClass_of_methodNamed B.named
  have hlocks := B.notSynchronized
  have hl := lv_entry (([.int u0] : List Value)) (n := 1) (Nat.le_of_ble_eq_true rfl)
  rw [lg_entry_eq]
  generalize (lg_sl (([.int u0] : List Value)) ++ List.replicate (1 - (lg_sl (([.int u0] : List Value))).length) Slot.unset).toArray = ls at hl ⊢
  have hl : lv_has ls 1 [(0, .int u0)] := hl
  unfold f_V_typeIn at hf
  refine lv_iload_n hx hb d_V_typeIn_0 rfl (lv_at hl 0 rfl) ?_
  refine lv_bipush (v := 28) hx hb d_V_typeIn_1 (by decide) ?_
  refine lv_ishr hx hb d_V_typeIn_3 ?_
  exact W.iret (v := (u0 >>> ((28 : Int32) &&& 31))) hx hb hr (fun t ht hW => ⟨_, rfl, hf, ht⟩) (fun q h => by cases h) d_V_typeIn_4
def f_V_withNumber (u0 : Int32) (u1 : Int32) (u2 : Int32) : Int32 := (u0 ||| (u2 <<< (((7 : Int32) * u1) &&& 31)))
set_option maxHeartbeats 4000000 in
set_option maxRecDepth 100000 in
theorem k_V_withNumber (l : Launch) (u0 : Int32) (u1 : Int32) (u2 : Int32) (r0 : Int32) (hf : f_V_withNumber u0 u1 u2 = r0) : cc_MetS l y_V_withNumber (Cond.code y_V_withNumber b_V_withNumber 3 (some .int) :: wA) ({ frames := 0, cells := 0, slots := 0, locals := 0 } : Room) ([.int u0, .int u1, .int u2] : List Value) r0 := by
  refine Met.ofW (cc := b_V_withNumber) (maxL := 3) (ret := (some .int)) (by decide) rfl ?_
  intro p e s m args below meth c s₁ B hml hv
  obtain rfl : args = ([.int u0, .int u1, .int u2] : List Value).toArray := hv
  have hx := B.exec
  have hb := B.bytes
  have hr := B.returns
  have hts := fun w h => atoms_spec (ws := (Cond.code y_V_withNumber b_V_withNumber 3 (some .int) :: wA)) B.pre w (List.mem_cons_of_mem _ h)
  have hown : s.vm.findClass R_V = some m.cls := findClass_of_methodNamed B.named
  have hlocks := B.notSynchronized
  have hl := lv_entry (([.int u0, .int u1, .int u2] : List Value)) (n := 3) (Nat.le_of_ble_eq_true rfl)
  rw [lg_entry_eq]
  generalize (lg_sl (([.int u0, .int u1, .int u2] : List Value)) ++ List.replicate (3 - (lg_sl (([.int u0, .int u1, .int u2] : List Value))).length) Slot.unset).toArray = ls at hl ⊢
  have hl : lv_has ls 3 [(0, .int u0), (1, .int u1), (2, .int u2)] := hl
  unfold f_V_withNumber at hf
  refine lv_iload_n hx hb d_V_withNumber_0 rfl (lv_at hl 0 rfl) ?_
  refine lv_iload_n hx hb d_V_withNumber_1 rfl (lv_at hl 2 rfl) ?_
  refine lv_bipush (v := 7) hx hb d_V_withNumber_2 (by decide) ?_
  refine lv_iload_n hx hb d_V_withNumber_4 rfl (lv_at hl 1 rfl) ?_
  refine lv_imul hx hb d_V_withNumber_5 ?_
  refine lv_ishl hx hb d_V_withNumber_6 ?_
  refine lv_ior hx hb d_V_withNumber_7 ?_
  exact W.iret (v := (u0 ||| (u2 <<< (((7 : Int32) * u1) &&& 31)))) hx hb hr (fun t ht hW => ⟨_, rfl, hf, ht⟩) (fun q h => by cases h) d_V_withNumber_8
def f_V_number (u0 : Int32) (u1 : Int32) : Int32 := ((u0 >>> (((7 : Int32) * u1) &&& 31)) &&& (127 : Int32))
set_option maxHeartbeats 4000000 in
set_option maxRecDepth 100000 in
theorem k_V_number (l : Launch) (u0 : Int32) (u1 : Int32) (r0 : Int32) (hf : f_V_number u0 u1 = r0) : cc_MetS l y_V_number (Cond.code y_V_number b_V_number 2 (some .int) :: wA) ({ frames := 0, cells := 0, slots := 0, locals := 0 } : Room) ([.int u0, .int u1] : List Value) r0 := by
  refine Met.ofW (cc := b_V_number) (maxL := 2) (ret := (some .int)) (by decide) rfl ?_
  intro p e s m args below meth c s₁ B hml hv
  obtain rfl : args = ([.int u0, .int u1] : List Value).toArray := hv
  have hx := B.exec
  have hb := B.bytes
  have hr := B.returns
  have hts := fun w h => atoms_spec (ws := (Cond.code y_V_number b_V_number 2 (some .int) :: wA)) B.pre w (List.mem_cons_of_mem _ h)
  have hown : s.vm.findClass R_V = some m.cls := findClass_of_methodNamed B.named
  have hlocks := B.notSynchronized
  have hl := lv_entry (([.int u0, .int u1] : List Value)) (n := 2) (Nat.le_of_ble_eq_true rfl)
  rw [lg_entry_eq]
  generalize (lg_sl (([.int u0, .int u1] : List Value)) ++ List.replicate (2 - (lg_sl (([.int u0, .int u1] : List Value))).length) Slot.unset).toArray = ls at hl ⊢
  have hl : lv_has ls 2 [(0, .int u0), (1, .int u1)] := hl
  unfold f_V_number at hf
  refine lv_iload_n hx hb d_V_number_0 rfl (lv_at hl 0 rfl) ?_
  refine lv_bipush (v := 7) hx hb d_V_number_1 (by decide) ?_
  refine lv_iload_n hx hb d_V_number_3 rfl (lv_at hl 1 rfl) ?_
  refine lv_imul hx hb d_V_number_4 ?_
  refine lv_ishr hx hb d_V_number_5 ?_
  refine lv_bipush (v := 127) hx hb d_V_number_6 (by decide) ?_
  refine lv_iand hx hb d_V_number_8 ?_
  exact W.iret (v := ((u0 >>> (((7 : Int32) * u1) &&& 31)) &&& (127 : Int32))) hx hb hr (fun t ht hW => ⟨_, rfl, hf, ht⟩) (fun q h => by cases h) d_V_number_9
def f_V_spread (u0 : Int32) (u1 : Int32) : Int32 := if (f_V_typeIn u0) = (1 : Int32) then ((f_V_number u0 (0 : Int32))) else ((f_V_number u0 u1))
set_option maxHeartbeats 4000000 in
set_option maxRecDepth 100000 in
theorem k_V_spread (l : Launch) (u0 : Int32) (u1 : Int32) (r0 : Int32) (hf : f_V_spread u0 u1 = r0) : cc_MetS l y_V_spread (Cond.code y_V_spread b_V_spread 2 (some .int) :: wA) ({ frames := 1, cells := 0, slots := 0, locals := 21 } : Room) ([.int u0, .int u1] : List Value) r0 := by
  refine Met.ofW (cc := b_V_spread) (maxL := 2) (ret := (some .int)) (by decide) rfl ?_
  intro p e s m args below meth c s₁ B hml hv
  obtain rfl : args = ([.int u0, .int u1] : List Value).toArray := hv
  have hx := B.exec
  have hb := B.bytes
  have hr := B.returns
  have hts := fun w h => atoms_spec (ws := (Cond.code y_V_spread b_V_spread 2 (some .int) :: wA)) B.pre w (List.mem_cons_of_mem _ h)
  have hown : s.vm.findClass R_V = some m.cls := findClass_of_methodNamed B.named
  have hlocks := B.notSynchronized
  have hl := lv_entry (([.int u0, .int u1] : List Value)) (n := 2) (Nat.le_of_ble_eq_true rfl)
  rw [lg_entry_eq]
  generalize (lg_sl (([.int u0, .int u1] : List Value)) ++ List.replicate (2 - (lg_sl (([.int u0, .int u1] : List Value))).length) Slot.unset).toArray = ls at hl ⊢
  have hl : lv_has ls 2 [(0, .int u0), (1, .int u1)] := hl
  unfold f_V_spread at hf
  refine lv_iload_n hx hb d_V_spread_0 rfl (lv_at hl 0 rfl) ?_
  refine lv_iload_n hx hb d_V_spread_1 rfl (lv_at hl 0 rfl) ?_
  refine cc_calls (va_runS (As := [.int u0]) (rest := [.int u0]) ⟨hx, hb, hml, hown, hts⟩ (k_V_typeIn l u0 _ rfl) (cw_S 1 hts mw_254 mw_224 mw_11 mw_225 rfl rfl hd_V_typeIn ⟨Nat.le_of_ble_eq_true rfl, Nat.le_of_ble_eq_true rfl⟩) cc_preS rfl rfl hl.1 rfl (lv_room (Nat.le_of_ble_eq_true rfl)) d_V_spread_2 ⟨Nat.zero_le _, Nat.zero_le _⟩) ?_
  refine lv_iconst (v := 1) hx hb d_V_spread_5 (by decide) ?_
  refine lv_icmp_ne (tgt := 13) hx hb d_V_spread_6 (by decide) (fun h6_1 => ?_) (fun h6_1 => ?_)
  · rw [if_neg h6_1] at hf
    refine lv_iload_n hx hb d_V_spread_13 rfl (lv_at hl 1 rfl) ?_
    refine cc_calls (va_runS (As := [.int u0, .int u1]) (rest := []) ⟨hx, hb, hml, hown, hts⟩ (k_V_number l u0 u1 _ rfl) (cw_S 2 hts mw_255 mw_227 mw_11 mw_228 rfl rfl hd_V_number ⟨Nat.le_of_ble_eq_true rfl, Nat.le_of_ble_eq_true rfl⟩) cc_preS rfl rfl hl.1 rfl (lv_room (Nat.le_of_ble_eq_true rfl)) d_V_spread_14 ⟨Nat.zero_le _, Nat.zero_le _⟩) ?_
    exact W.iret (v := (f_V_number u0 u1)) hx hb hr (fun t ht hW => ⟨_, rfl, hf, ht⟩) (fun q h => by cases h) d_V_spread_17
  · rw [if_pos h6_1] at hf
    refine lv_iconst (v := 0) hx hb d_V_spread_9 (by decide) ?_
    refine lv_goto (tgt := 14) hx hb d_V_spread_10 (by decide) ?_
    refine cc_calls (va_runS (As := [.int u0, .int (0 : Int32)]) (rest := []) ⟨hx, hb, hml, hown, hts⟩ (k_V_number l u0 (0 : Int32) _ rfl) (cw_S 2 hts mw_255 mw_227 mw_11 mw_228 rfl rfl hd_V_number ⟨Nat.le_of_ble_eq_true rfl, Nat.le_of_ble_eq_true rfl⟩) cc_preS rfl rfl hl.1 rfl (lv_room (Nat.le_of_ble_eq_true rfl)) d_V_spread_14 ⟨Nat.zero_le _, Nat.zero_le _⟩) ?_
    exact W.iret (v := (f_V_number u0 (0 : Int32))) hx hb hr (fun t ht hW => ⟨_, rfl, hf, ht⟩) (fun q h => by cases h) d_V_spread_17
