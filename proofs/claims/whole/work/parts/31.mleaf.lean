abbrev wM (o : Nat → Nat) (cI : ClassId) (F : ST_F) (A : ST_A) : va_W := [((o 0), .inr (4, [.int (F 0), .int (F 1), .ref (o 1), .int (F 2), .ref (o 2), .ref (o 3), .ref (o 4), .ref (o 5), .ref (o 6), .int (F 3), .ref (o 7), .ref (o 8), .ref (o 9), .ref (o 10), .ref (o 11), .int (F 4), .int (F 5), .int (F 6), .ref (o 12), .ref (o 13), .int (F 7), .ref (o 14), .ref (o 15), .int (F 8), .int (F 9), .ref (o 16), .ref (o 17), .ref (o 18), .ref (o 19)])), ((o 1), .inl (cI, 160, .inl (A 0))), ((o 2), .inl (cI, 100, .inl (A 1))), ((o 3), .inl (cI, 100, .inl (A 2))), ((o 4), .inl (cI, 100, .inl (A 3))), ((o 5), .inl (cI, 3, .inl (A 4))), ((o 6), .inl (cI, 26, .inl (A 5))), ((o 7), .inl (cI, 100, .inl (A 6))), ((o 8), .inl (cI, 100, .inl (A 7))), ((o 9), .inl (cI, 100, .inl (A 8))), ((o 10), .inl (cI, 26, .inl (A 9))), ((o 11), .inl (cI, 104, .inl (A 10))), ((o 12), .inl (cI, 80, .inl (A 11))), ((o 13), .inl (cI, 320, .inl (A 12))), ((o 14), .inl (cI, 200, .inl (A 13))), ((o 15), .inl (cI, 200, .inl (A 14))), ((o 16), .inl (cI, 4, .inl (A 15))), ((o 17), .inl (cI, 32, .inl (A 16))), ((o 18), .inl (cI, 32, .inl (A 17))), ((o 19), .inl (cI, 100, .inl (A 18)))]
def f_M_isBinary (u0 : Int32) : Int32 := if u0 = (43 : Int32) then ((1 : Int32)) else (if u0 = (45 : Int32) then ((1 : Int32)) else (if u0 = (42 : Int32) then ((1 : Int32)) else (if u0 = (47 : Int32) then ((1 : Int32)) else ((0 : Int32)))))
set_option maxHeartbeats 4000000 in
set_option maxRecDepth 100000 in
theorem k_M_isBinary (l : Launch) (u0 : Int32) (r0 : Int32) (hf : f_M_isBinary u0 = r0) : cc_MetS l y_M_isBinary (Cond.code y_M_isBinary b_M_isBinary 1 (some .boolean) :: wA) ({ frames := 0, cells := 0, slots := 0, locals := 0 } : Room) ([.int u0] : List Value) r0 := by
  refine Met.ofW (cc := b_M_isBinary) (maxL := 1) (ret := (some .boolean)) (by decide) rfl ?_
  intro p e s m args below meth c s₁ B hml hv
  obtain rfl : args = ([.int u0] : List Value).toArray := hv
  have hx := B.exec
  have hb := B.bytes
  have hr := B.returns
  have hts := fun w h => atoms_spec (ws := (Cond.code y_M_isBinary b_M_isBinary 1 (some .boolean) :: wA)) B.pre w (List.mem_cons_of_mem _ h)
  have hown : s.vm.findClass R_M = some m.cls := findClass_of_methodNamed B.named
  have hlocks := B.notSynchronized
  have hl := lv_entry (([.int u0] : List Value)) (n := 1) (Nat.le_of_ble_eq_true rfl)
  rw [lg_entry_eq]
  generalize (lg_sl (([.int u0] : List Value)) ++ List.replicate (1 - (lg_sl (([.int u0] : List Value))).length) Slot.unset).toArray = ls at hl ⊢
  have hl : lv_has ls 1 [(0, .int u0)] := hl
  unfold f_M_isBinary at hf
  refine lv_iload_n hx hb d_M_isBinary_0 rfl (lv_at hl 0 rfl) ?_
  refine lv_bipush (v := 43) hx hb d_M_isBinary_1 (by decide) ?_
  refine lv_icmp_eq (tgt := 24) hx hb d_M_isBinary_3 (by decide) (fun h3_1 => ?_) (fun h3_1 => ?_)
  · rw [if_pos h3_1] at hf
    refine lv_iconst (v := 1) hx hb d_M_isBinary_24 (by decide) ?_
    refine lv_goto (tgt := 29) hx hb d_M_isBinary_25 (by decide) ?_
    exact W.zret (v := (1 : Int32)) hx hb hr (by rfl) (fun t ht hW => ⟨_, rfl, hf, ht⟩) (fun q h => by cases h) d_M_isBinary_29
  · rw [if_neg h3_1] at hf
    refine lv_iload_n hx hb d_M_isBinary_6 rfl (lv_at hl 0 rfl) ?_
    refine lv_bipush (v := 45) hx hb d_M_isBinary_7 (by decide) ?_
    refine lv_icmp_eq (tgt := 24) hx hb d_M_isBinary_9 (by decide) (fun h9_2 => ?_) (fun h9_2 => ?_)
    · rw [if_pos h9_2] at hf
      refine lv_iconst (v := 1) hx hb d_M_isBinary_24 (by decide) ?_
      refine lv_goto (tgt := 29) hx hb d_M_isBinary_25 (by decide) ?_
      exact W.zret (v := (1 : Int32)) hx hb hr (by rfl) (fun t ht hW => ⟨_, rfl, hf, ht⟩) (fun q h => by cases h) d_M_isBinary_29
    · rw [if_neg h9_2] at hf
      refine lv_iload_n hx hb d_M_isBinary_12 rfl (lv_at hl 0 rfl) ?_
      refine lv_bipush (v := 42) hx hb d_M_isBinary_13 (by decide) ?_
      refine lv_icmp_eq (tgt := 24) hx hb d_M_isBinary_15 (by decide) (fun h15_3 => ?_) (fun h15_3 => ?_)
      · rw [if_pos h15_3] at hf
        refine lv_iconst (v := 1) hx hb d_M_isBinary_24 (by decide) ?_
        refine lv_goto (tgt := 29) hx hb d_M_isBinary_25 (by decide) ?_
        exact W.zret (v := (1 : Int32)) hx hb hr (by rfl) (fun t ht hW => ⟨_, rfl, hf, ht⟩) (fun q h => by cases h) d_M_isBinary_29
      · rw [if_neg h15_3] at hf
        refine lv_iload_n hx hb d_M_isBinary_18 rfl (lv_at hl 0 rfl) ?_
        refine lv_bipush (v := 47) hx hb d_M_isBinary_19 (by decide) ?_
        refine lv_icmp_ne (tgt := 28) hx hb d_M_isBinary_21 (by decide) (fun h21_4 => ?_) (fun h21_4 => ?_)
        · rw [if_neg h21_4] at hf
          refine lv_iconst (v := 0) hx hb d_M_isBinary_28 (by decide) ?_
          exact W.zret (v := (0 : Int32)) hx hb hr (by rfl) (fun t ht hW => ⟨_, rfl, hf, ht⟩) (fun q h => by cases h) d_M_isBinary_29
        · rw [if_pos h21_4] at hf
          refine lv_iconst (v := 1) hx hb d_M_isBinary_24 (by decide) ?_
          refine lv_goto (tgt := 29) hx hb d_M_isBinary_25 (by decide) ?_
          exact W.zret (v := (1 : Int32)) hx hb hr (by rfl) (fun t ht hW => ⟨_, rfl, hf, ht⟩) (fun q h => by cases h) d_M_isBinary_29
def f_M_isDigit (u0 : Int32) : Int32 := if u0 < (48 : Int32) then ((0 : Int32)) else (if (57 : Int32) < u0 then ((0 : Int32)) else ((1 : Int32)))
set_option maxHeartbeats 4000000 in
set_option maxRecDepth 100000 in
theorem k_M_isDigit (l : Launch) (u0 : Int32) (r0 : Int32) (hf : f_M_isDigit u0 = r0) : cc_MetS l y_M_isDigit (Cond.code y_M_isDigit b_M_isDigit 1 (some .boolean) :: wA) ({ frames := 0, cells := 0, slots := 0, locals := 0 } : Room) ([.int u0] : List Value) r0 := by
  refine Met.ofW (cc := b_M_isDigit) (maxL := 1) (ret := (some .boolean)) (by decide) rfl ?_
  intro p e s m args below meth c s₁ B hml hv
  obtain rfl : args = ([.int u0] : List Value).toArray := hv
  have hx := B.exec
  have hb := B.bytes
  have hr := B.returns
  have hts := fun w h => atoms_spec (ws := (Cond.code y_M_isDigit b_M_isDigit 1 (some .boolean) :: wA)) B.pre w (List.mem_cons_of_mem _ h)
  have hown : s.vm.findClass R_M = some m.cls := findClass_of_methodNamed B.named
  have hlocks := B.notSynchronized
  have hl := lv_entry (([.int u0] : List Value)) (n := 1) (Nat.le_of_ble_eq_true rfl)
  rw [lg_entry_eq]
  generalize (lg_sl (([.int u0] : List Value)) ++ List.replicate (1 - (lg_sl (([.int u0] : List Value))).length) Slot.unset).toArray = ls at hl ⊢
  have hl : lv_has ls 1 [(0, .int u0)] := hl
  unfold f_M_isDigit at hf
  refine lv_iload_n hx hb d_M_isDigit_0 rfl (lv_at hl 0 rfl) ?_
  refine lv_bipush (v := 48) hx hb d_M_isDigit_1 (by decide) ?_
  refine lv_icmp_lt (tgt := 16) hx hb d_M_isDigit_3 (by decide) (fun h3_1 => ?_) (fun h3_1 => ?_)
  · rw [if_pos h3_1] at hf
    refine lv_iconst (v := 0) hx hb d_M_isDigit_16 (by decide) ?_
    exact W.zret (v := (0 : Int32)) hx hb hr (by rfl) (fun t ht hW => ⟨_, rfl, hf, ht⟩) (fun q h => by cases h) d_M_isDigit_17
  · rw [if_neg h3_1] at hf
    refine lv_iload_n hx hb d_M_isDigit_6 rfl (lv_at hl 0 rfl) ?_
    refine lv_bipush (v := 57) hx hb d_M_isDigit_7 (by decide) ?_
    refine lv_icmp_gt (tgt := 16) hx hb d_M_isDigit_9 (by decide) (fun h9_2 => ?_) (fun h9_2 => ?_)
    · rw [if_pos h9_2] at hf
      refine lv_iconst (v := 0) hx hb d_M_isDigit_16 (by decide) ?_
      exact W.zret (v := (0 : Int32)) hx hb hr (by rfl) (fun t ht hW => ⟨_, rfl, hf, ht⟩) (fun q h => by cases h) d_M_isDigit_17
    · rw [if_neg h9_2] at hf
      refine lv_iconst (v := 1) hx hb d_M_isDigit_12 (by decide) ?_
      refine lv_goto (tgt := 17) hx hb d_M_isDigit_13 (by decide) ?_
      exact W.zret (v := (1 : Int32)) hx hb hr (by rfl) (fun t ht hW => ⟨_, rfl, hf, ht⟩) (fun q h => by cases h) d_M_isDigit_17
def f_M_isSmall (u0 : Int32) : Int32 := if u0 < (97 : Int32) then ((0 : Int32)) else (if (122 : Int32) < u0 then ((0 : Int32)) else ((1 : Int32)))
set_option maxHeartbeats 4000000 in
set_option maxRecDepth 100000 in
theorem k_M_isSmall (l : Launch) (u0 : Int32) (r0 : Int32) (hf : f_M_isSmall u0 = r0) : cc_MetS l y_M_isSmall (Cond.code y_M_isSmall b_M_isSmall 1 (some .boolean) :: wA) ({ frames := 0, cells := 0, slots := 0, locals := 0 } : Room) ([.int u0] : List Value) r0 := by
  refine Met.ofW (cc := b_M_isSmall) (maxL := 1) (ret := (some .boolean)) (by decide) rfl ?_
  intro p e s m args below meth c s₁ B hml hv
  obtain rfl : args = ([.int u0] : List Value).toArray := hv
  have hx := B.exec
  have hb := B.bytes
  have hr := B.returns
  have hts := fun w h => atoms_spec (ws := (Cond.code y_M_isSmall b_M_isSmall 1 (some .boolean) :: wA)) B.pre w (List.mem_cons_of_mem _ h)
  have hown : s.vm.findClass R_M = some m.cls := findClass_of_methodNamed B.named
  have hlocks := B.notSynchronized
  have hl := lv_entry (([.int u0] : List Value)) (n := 1) (Nat.le_of_ble_eq_true rfl)
  rw [lg_entry_eq]
  generalize (lg_sl (([.int u0] : List Value)) ++ List.replicate (1 - (lg_sl (([.int u0] : List Value))).length) Slot.unset).toArray = ls at hl ⊢
  have hl : lv_has ls 1 [(0, .int u0)] := hl
  unfold f_M_isSmall at hf
  refine lv_iload_n hx hb d_M_isSmall_0 rfl (lv_at hl 0 rfl) ?_
  refine lv_bipush (v := 97) hx hb d_M_isSmall_1 (by decide) ?_
  refine lv_icmp_lt (tgt := 16) hx hb d_M_isSmall_3 (by decide) (fun h3_1 => ?_) (fun h3_1 => ?_)
  · rw [if_pos h3_1] at hf
    refine lv_iconst (v := 0) hx hb d_M_isSmall_16 (by decide) ?_
    exact W.zret (v := (0 : Int32)) hx hb hr (by rfl) (fun t ht hW => ⟨_, rfl, hf, ht⟩) (fun q h => by cases h) d_M_isSmall_17
  · rw [if_neg h3_1] at hf
    refine lv_iload_n hx hb d_M_isSmall_6 rfl (lv_at hl 0 rfl) ?_
    refine lv_bipush (v := 122) hx hb d_M_isSmall_7 (by decide) ?_
    refine lv_icmp_gt (tgt := 16) hx hb d_M_isSmall_9 (by decide) (fun h9_2 => ?_) (fun h9_2 => ?_)
    · rw [if_pos h9_2] at hf
      refine lv_iconst (v := 0) hx hb d_M_isSmall_16 (by decide) ?_
      exact W.zret (v := (0 : Int32)) hx hb hr (by rfl) (fun t ht hW => ⟨_, rfl, hf, ht⟩) (fun q h => by cases h) d_M_isSmall_17
    · rw [if_neg h9_2] at hf
      refine lv_iconst (v := 1) hx hb d_M_isSmall_12 (by decide) ?_
      refine lv_goto (tgt := 17) hx hb d_M_isSmall_13 (by decide) ?_
      exact W.zret (v := (1 : Int32)) hx hb hr (by rfl) (fun t ht hW => ⟨_, rfl, hf, ht⟩) (fun q h => by cases h) d_M_isSmall_17
def f_M_isFunction (u0 : Int32) : Int32 := if u0 = (65 : Int32) then ((1 : Int32)) else (if u0 = (70 : Int32) then ((1 : Int32)) else (if u0 = (78 : Int32) then ((1 : Int32)) else (if u0 = (88 : Int32) then ((1 : Int32)) else (if u0 = (83 : Int32) then ((1 : Int32)) else (if u0 = (68 : Int32) then ((1 : Int32)) else (if u0 = (86 : Int32) then ((1 : Int32)) else (if u0 = (77 : Int32) then ((1 : Int32)) else ((0 : Int32)))))))))
set_option maxHeartbeats 4000000 in
set_option maxRecDepth 100000 in
theorem k_M_isFunction (l : Launch) (u0 : Int32) (r0 : Int32) (hf : f_M_isFunction u0 = r0) : cc_MetS l y_M_isFunction (Cond.code y_M_isFunction b_M_isFunction 1 (some .boolean) :: wA) ({ frames := 0, cells := 0, slots := 0, locals := 0 } : Room) ([.int u0] : List Value) r0 := by
  refine Met.ofW (cc := b_M_isFunction) (maxL := 1) (ret := (some .boolean)) (by decide) rfl ?_
  intro p e s m args below meth c s₁ B hml hv
  obtain rfl : args = ([.int u0] : List Value).toArray := hv
  have hx := B.exec
  have hb := B.bytes
  have hr := B.returns
  have hts := fun w h => atoms_spec (ws := (Cond.code y_M_isFunction b_M_isFunction 1 (some .boolean) :: wA)) B.pre w (List.mem_cons_of_mem _ h)
  have hown : s.vm.findClass R_M = some m.cls := findClass_of_methodNamed B.named
  have hlocks := B.notSynchronized
  have hl := lv_entry (([.int u0] : List Value)) (n := 1) (Nat.le_of_ble_eq_true rfl)
  rw [lg_entry_eq]
  generalize (lg_sl (([.int u0] : List Value)) ++ List.replicate (1 - (lg_sl (([.int u0] : List Value))).length) Slot.unset).toArray = ls at hl ⊢
  have hl : lv_has ls 1 [(0, .int u0)] := hl
  unfold f_M_isFunction at hf
  refine lv_iload_n hx hb d_M_isFunction_0 rfl (lv_at hl 0 rfl) ?_
  refine lv_bipush (v := 65) hx hb d_M_isFunction_1 (by decide) ?_
  refine lv_icmp_eq (tgt := 48) hx hb d_M_isFunction_3 (by decide) (fun h3_1 => ?_) (fun h3_1 => ?_)
  · rw [if_pos h3_1] at hf
    refine lv_iconst (v := 1) hx hb d_M_isFunction_48 (by decide) ?_
    refine lv_goto (tgt := 53) hx hb d_M_isFunction_49 (by decide) ?_
    exact W.zret (v := (1 : Int32)) hx hb hr (by rfl) (fun t ht hW => ⟨_, rfl, hf, ht⟩) (fun q h => by cases h) d_M_isFunction_53
  · rw [if_neg h3_1] at hf
    refine lv_iload_n hx hb d_M_isFunction_6 rfl (lv_at hl 0 rfl) ?_
    refine lv_bipush (v := 70) hx hb d_M_isFunction_7 (by decide) ?_
    refine lv_icmp_eq (tgt := 48) hx hb d_M_isFunction_9 (by decide) (fun h9_2 => ?_) (fun h9_2 => ?_)
    · rw [if_pos h9_2] at hf
      refine lv_iconst (v := 1) hx hb d_M_isFunction_48 (by decide) ?_
      refine lv_goto (tgt := 53) hx hb d_M_isFunction_49 (by decide) ?_
      exact W.zret (v := (1 : Int32)) hx hb hr (by rfl) (fun t ht hW => ⟨_, rfl, hf, ht⟩) (fun q h => by cases h) d_M_isFunction_53
    · rw [if_neg h9_2] at hf
      refine lv_iload_n hx hb d_M_isFunction_12 rfl (lv_at hl 0 rfl) ?_
      refine lv_bipush (v := 78) hx hb d_M_isFunction_13 (by decide) ?_
      refine lv_icmp_eq (tgt := 48) hx hb d_M_isFunction_15 (by decide) (fun h15_3 => ?_) (fun h15_3 => ?_)
      · rw [if_pos h15_3] at hf
        refine lv_iconst (v := 1) hx hb d_M_isFunction_48 (by decide) ?_
        refine lv_goto (tgt := 53) hx hb d_M_isFunction_49 (by decide) ?_
        exact W.zret (v := (1 : Int32)) hx hb hr (by rfl) (fun t ht hW => ⟨_, rfl, hf, ht⟩) (fun q h => by cases h) d_M_isFunction_53
      · rw [if_neg h15_3] at hf
        refine lv_iload_n hx hb d_M_isFunction_18 rfl (lv_at hl 0 rfl) ?_
        refine lv_bipush (v := 88) hx hb d_M_isFunction_19 (by decide) ?_
        refine lv_icmp_eq (tgt := 48) hx hb d_M_isFunction_21 (by decide) (fun h21_4 => ?_) (fun h21_4 => ?_)
        · rw [if_pos h21_4] at hf
          refine lv_iconst (v := 1) hx hb d_M_isFunction_48 (by decide) ?_
          refine lv_goto (tgt := 53) hx hb d_M_isFunction_49 (by decide) ?_
          exact W.zret (v := (1 : Int32)) hx hb hr (by rfl) (fun t ht hW => ⟨_, rfl, hf, ht⟩) (fun q h => by cases h) d_M_isFunction_53
        · rw [if_neg h21_4] at hf
          refine lv_iload_n hx hb d_M_isFunction_24 rfl (lv_at hl 0 rfl) ?_
          refine lv_bipush (v := 83) hx hb d_M_isFunction_25 (by decide) ?_
          refine lv_icmp_eq (tgt := 48) hx hb d_M_isFunction_27 (by decide) (fun h27_5 => ?_) (fun h27_5 => ?_)
          · rw [if_pos h27_5] at hf
            refine lv_iconst (v := 1) hx hb d_M_isFunction_48 (by decide) ?_
            refine lv_goto (tgt := 53) hx hb d_M_isFunction_49 (by decide) ?_
            exact W.zret (v := (1 : Int32)) hx hb hr (by rfl) (fun t ht hW => ⟨_, rfl, hf, ht⟩) (fun q h => by cases h) d_M_isFunction_53
          · rw [if_neg h27_5] at hf
            refine lv_iload_n hx hb d_M_isFunction_30 rfl (lv_at hl 0 rfl) ?_
            refine lv_bipush (v := 68) hx hb d_M_isFunction_31 (by decide) ?_
            refine lv_icmp_eq (tgt := 48) hx hb d_M_isFunction_33 (by decide) (fun h33_6 => ?_) (fun h33_6 => ?_)
            · rw [if_pos h33_6] at hf
              refine lv_iconst (v := 1) hx hb d_M_isFunction_48 (by decide) ?_
              refine lv_goto (tgt := 53) hx hb d_M_isFunction_49 (by decide) ?_
              exact W.zret (v := (1 : Int32)) hx hb hr (by rfl) (fun t ht hW => ⟨_, rfl, hf, ht⟩) (fun q h => by cases h) d_M_isFunction_53
            · rw [if_neg h33_6] at hf
              refine lv_iload_n hx hb d_M_isFunction_36 rfl (lv_at hl 0 rfl) ?_
              refine lv_bipush (v := 86) hx hb d_M_isFunction_37 (by decide) ?_
              refine lv_icmp_eq (tgt := 48) hx hb d_M_isFunction_39 (by decide) (fun h39_7 => ?_) (fun h39_7 => ?_)
              · rw [if_pos h39_7] at hf
                refine lv_iconst (v := 1) hx hb d_M_isFunction_48 (by decide) ?_
                refine lv_goto (tgt := 53) hx hb d_M_isFunction_49 (by decide) ?_
                exact W.zret (v := (1 : Int32)) hx hb hr (by rfl) (fun t ht hW => ⟨_, rfl, hf, ht⟩) (fun q h => by cases h) d_M_isFunction_53
              · rw [if_neg h39_7] at hf
                refine lv_iload_n hx hb d_M_isFunction_42 rfl (lv_at hl 0 rfl) ?_
                refine lv_bipush (v := 77) hx hb d_M_isFunction_43 (by decide) ?_
                refine lv_icmp_ne (tgt := 52) hx hb d_M_isFunction_45 (by decide) (fun h45_8 => ?_) (fun h45_8 => ?_)
                · rw [if_neg h45_8] at hf
                  refine lv_iconst (v := 0) hx hb d_M_isFunction_52 (by decide) ?_
                  exact W.zret (v := (0 : Int32)) hx hb hr (by rfl) (fun t ht hW => ⟨_, rfl, hf, ht⟩) (fun q h => by cases h) d_M_isFunction_53
                · rw [if_pos h45_8] at hf
                  refine lv_iconst (v := 1) hx hb d_M_isFunction_48 (by decide) ?_
                  refine lv_goto (tgt := 53) hx hb d_M_isFunction_49 (by decide) ?_
                  exact W.zret (v := (1 : Int32)) hx hb hr (by rfl) (fun t ht hW => ⟨_, rfl, hf, ht⟩) (fun q h => by cases h) d_M_isFunction_53
def f_M_isGiven (u0 : Int32) : Int32 := if u0 = (120 : Int32) then ((1 : Int32)) else (if u0 = (121 : Int32) then ((1 : Int32)) else (if u0 = (122 : Int32) then ((1 : Int32)) else (if u0 = (116 : Int32) then ((1 : Int32)) else (if u0 = (99 : Int32) then ((1 : Int32)) else ((0 : Int32))))))
set_option maxHeartbeats 4000000 in
set_option maxRecDepth 100000 in
theorem k_M_isGiven (l : Launch) (u0 : Int32) (r0 : Int32) (hf : f_M_isGiven u0 = r0) : cc_MetS l y_M_isGiven (Cond.code y_M_isGiven b_M_isGiven 1 (some .boolean) :: wA) ({ frames := 0, cells := 0, slots := 0, locals := 0 } : Room) ([.int u0] : List Value) r0 := by
  refine Met.ofW (cc := b_M_isGiven) (maxL := 1) (ret := (some .boolean)) (by decide) rfl ?_
  intro p e s m args below meth c s₁ B hml hv
  obtain rfl : args = ([.int u0] : List Value).toArray := hv
  have hx := B.exec
  have hb := B.bytes
  have hr := B.returns
  have hts := fun w h => atoms_spec (ws := (Cond.code y_M_isGiven b_M_isGiven 1 (some .boolean) :: wA)) B.pre w (List.mem_cons_of_mem _ h)
  have hown : s.vm.findClass R_M = some m.cls := findClass_of_methodNamed B.named
  have hlocks := B.notSynchronized
  have hl := lv_entry (([.int u0] : List Value)) (n := 1) (Nat.le_of_ble_eq_true rfl)
  rw [lg_entry_eq]
  generalize (lg_sl (([.int u0] : List Value)) ++ List.replicate (1 - (lg_sl (([.int u0] : List Value))).length) Slot.unset).toArray = ls at hl ⊢
  have hl : lv_has ls 1 [(0, .int u0)] := hl
  unfold f_M_isGiven at hf
  refine lv_iload_n hx hb d_M_isGiven_0 rfl (lv_at hl 0 rfl) ?_
  refine lv_bipush (v := 120) hx hb d_M_isGiven_1 (by decide) ?_
  refine lv_icmp_eq (tgt := 30) hx hb d_M_isGiven_3 (by decide) (fun h3_1 => ?_) (fun h3_1 => ?_)
  · rw [if_pos h3_1] at hf
    refine lv_iconst (v := 1) hx hb d_M_isGiven_30 (by decide) ?_
    refine lv_goto (tgt := 35) hx hb d_M_isGiven_31 (by decide) ?_
    exact W.zret (v := (1 : Int32)) hx hb hr (by rfl) (fun t ht hW => ⟨_, rfl, hf, ht⟩) (fun q h => by cases h) d_M_isGiven_35
  · rw [if_neg h3_1] at hf
    refine lv_iload_n hx hb d_M_isGiven_6 rfl (lv_at hl 0 rfl) ?_
    refine lv_bipush (v := 121) hx hb d_M_isGiven_7 (by decide) ?_
    refine lv_icmp_eq (tgt := 30) hx hb d_M_isGiven_9 (by decide) (fun h9_2 => ?_) (fun h9_2 => ?_)
    · rw [if_pos h9_2] at hf
      refine lv_iconst (v := 1) hx hb d_M_isGiven_30 (by decide) ?_
      refine lv_goto (tgt := 35) hx hb d_M_isGiven_31 (by decide) ?_
      exact W.zret (v := (1 : Int32)) hx hb hr (by rfl) (fun t ht hW => ⟨_, rfl, hf, ht⟩) (fun q h => by cases h) d_M_isGiven_35
    · rw [if_neg h9_2] at hf
      refine lv_iload_n hx hb d_M_isGiven_12 rfl (lv_at hl 0 rfl) ?_
      refine lv_bipush (v := 122) hx hb d_M_isGiven_13 (by decide) ?_
      refine lv_icmp_eq (tgt := 30) hx hb d_M_isGiven_15 (by decide) (fun h15_3 => ?_) (fun h15_3 => ?_)
      · rw [if_pos h15_3] at hf
        refine lv_iconst (v := 1) hx hb d_M_isGiven_30 (by decide) ?_
        refine lv_goto (tgt := 35) hx hb d_M_isGiven_31 (by decide) ?_
        exact W.zret (v := (1 : Int32)) hx hb hr (by rfl) (fun t ht hW => ⟨_, rfl, hf, ht⟩) (fun q h => by cases h) d_M_isGiven_35
      · rw [if_neg h15_3] at hf
        refine lv_iload_n hx hb d_M_isGiven_18 rfl (lv_at hl 0 rfl) ?_
        refine lv_bipush (v := 116) hx hb d_M_isGiven_19 (by decide) ?_
        refine lv_icmp_eq (tgt := 30) hx hb d_M_isGiven_21 (by decide) (fun h21_4 => ?_) (fun h21_4 => ?_)
        · rw [if_pos h21_4] at hf
          refine lv_iconst (v := 1) hx hb d_M_isGiven_30 (by decide) ?_
          refine lv_goto (tgt := 35) hx hb d_M_isGiven_31 (by decide) ?_
          exact W.zret (v := (1 : Int32)) hx hb hr (by rfl) (fun t ht hW => ⟨_, rfl, hf, ht⟩) (fun q h => by cases h) d_M_isGiven_35
        · rw [if_neg h21_4] at hf
          refine lv_iload_n hx hb d_M_isGiven_24 rfl (lv_at hl 0 rfl) ?_
          refine lv_bipush (v := 99) hx hb d_M_isGiven_25 (by decide) ?_
          refine lv_icmp_ne (tgt := 34) hx hb d_M_isGiven_27 (by decide) (fun h27_5 => ?_) (fun h27_5 => ?_)
          · rw [if_neg h27_5] at hf
            refine lv_iconst (v := 0) hx hb d_M_isGiven_34 (by decide) ?_
            exact W.zret (v := (0 : Int32)) hx hb hr (by rfl) (fun t ht hW => ⟨_, rfl, hf, ht⟩) (fun q h => by cases h) d_M_isGiven_35
          · rw [if_pos h27_5] at hf
            refine lv_iconst (v := 1) hx hb d_M_isGiven_30 (by decide) ?_
            refine lv_goto (tgt := 35) hx hb d_M_isGiven_31 (by decide) ?_
            exact W.zret (v := (1 : Int32)) hx hb hr (by rfl) (fun t ht hW => ⟨_, rfl, hf, ht⟩) (fun q h => by cases h) d_M_isGiven_35
def f_M_noColor (u0 : Int32) : Int32 := if u0 < 0 then ((1 : Int32)) else (if u0 ≤ (16777215 : Int32) then ((0 : Int32)) else ((1 : Int32)))
set_option maxHeartbeats 4000000 in
set_option maxRecDepth 100000 in
theorem k_M_noColor (l : Launch) (u0 : Int32) (r0 : Int32) (hf : f_M_noColor u0 = r0) : cc_MetS l y_M_noColor (Cond.code y_M_noColor b_M_noColor 1 (some .boolean) :: wA) ({ frames := 0, cells := 0, slots := 0, locals := 0 } : Room) ([.int u0] : List Value) r0 := by
  refine Met.ofW (cc := b_M_noColor) (maxL := 1) (ret := (some .boolean)) (by decide) rfl ?_
  intro p e s m args below meth c s₁ B hml hv
  obtain rfl : args = ([.int u0] : List Value).toArray := hv
  have hx := B.exec
  have hb := B.bytes
  have hr := B.returns
  have hts := fun w h => atoms_spec (ws := (Cond.code y_M_noColor b_M_noColor 1 (some .boolean) :: wA)) B.pre w (List.mem_cons_of_mem _ h)
  have hown : s.vm.findClass R_M = some m.cls := findClass_of_methodNamed B.named
  have hlocks := B.notSynchronized
  have hl := lv_entry (([.int u0] : List Value)) (n := 1) (Nat.le_of_ble_eq_true rfl)
  rw [lg_entry_eq]
  generalize (lg_sl (([.int u0] : List Value)) ++ List.replicate (1 - (lg_sl (([.int u0] : List Value))).length) Slot.unset).toArray = ls at hl ⊢
  have hl : lv_has ls 1 [(0, .int u0)] := hl
  unfold f_M_noColor at hf
  refine lv_iload_n hx hb d_M_noColor_0 rfl (lv_at hl 0 rfl) ?_
  refine lv_if_lt (tgt := 10) hx hb d_M_noColor_1 (by decide) (fun h1_1 => ?_) (fun h1_1 => ?_)
  · rw [if_pos h1_1] at hf
    refine lv_iconst (v := 1) hx hb d_M_noColor_10 (by decide) ?_
    refine lv_goto (tgt := 15) hx hb d_M_noColor_11 (by decide) ?_
    exact W.zret (v := (1 : Int32)) hx hb hr (by rfl) (fun t ht hW => ⟨_, rfl, hf, ht⟩) (fun q h => by cases h) d_M_noColor_15
  · rw [if_neg h1_1] at hf
    refine lv_iload_n hx hb d_M_noColor_4 rfl (lv_at hl 0 rfl) ?_
    refine lv_ldc (v := 16777215) hx hb hown (hts _ mw_751) d_M_noColor_5 ?_
    refine lv_icmp_le (tgt := 14) hx hb d_M_noColor_7 (by decide) (fun h7_2 => ?_) (fun h7_2 => ?_)
    · rw [if_pos h7_2] at hf
      refine lv_iconst (v := 0) hx hb d_M_noColor_14 (by decide) ?_
      exact W.zret (v := (0 : Int32)) hx hb hr (by rfl) (fun t ht hW => ⟨_, rfl, hf, ht⟩) (fun q h => by cases h) d_M_noColor_15
    · rw [if_neg h7_2] at hf
      refine lv_iconst (v := 1) hx hb d_M_noColor_10 (by decide) ?_
      refine lv_goto (tgt := 15) hx hb d_M_noColor_11 (by decide) ?_
      exact W.zret (v := (1 : Int32)) hx hb hr (by rfl) (fun t ht hW => ⟨_, rfl, hf, ht⟩) (fun q h => by cases h) d_M_noColor_15
def f_M_noPoint (u0 : Int32) (u1 : Int32) : Int32 := if u0 < 0 then ((1 : Int32)) else (if (7 : Int32) < u0 then ((1 : Int32)) else (if u1 < 0 then ((1 : Int32)) else (if u1 ≤ (3 : Int32) then ((0 : Int32)) else ((1 : Int32)))))
set_option maxHeartbeats 4000000 in
set_option maxRecDepth 100000 in
theorem k_M_noPoint (l : Launch) (u0 : Int32) (u1 : Int32) (r0 : Int32) (hf : f_M_noPoint u0 u1 = r0) : cc_MetS l y_M_noPoint (Cond.code y_M_noPoint b_M_noPoint 2 (some .boolean) :: wA) ({ frames := 0, cells := 0, slots := 0, locals := 0 } : Room) ([.int u0, .int u1] : List Value) r0 := by
  refine Met.ofW (cc := b_M_noPoint) (maxL := 2) (ret := (some .boolean)) (by decide) rfl ?_
  intro p e s m args below meth c s₁ B hml hv
  obtain rfl : args = ([.int u0, .int u1] : List Value).toArray := hv
  have hx := B.exec
  have hb := B.bytes
  have hr := B.returns
  have hts := fun w h => atoms_spec (ws := (Cond.code y_M_noPoint b_M_noPoint 2 (some .boolean) :: wA)) B.pre w (List.mem_cons_of_mem _ h)
  have hown : s.vm.findClass R_M = some m.cls := findClass_of_methodNamed B.named
  have hlocks := B.notSynchronized
  have hl := lv_entry (([.int u0, .int u1] : List Value)) (n := 2) (Nat.le_of_ble_eq_true rfl)
  rw [lg_entry_eq]
  generalize (lg_sl (([.int u0, .int u1] : List Value)) ++ List.replicate (2 - (lg_sl (([.int u0, .int u1] : List Value))).length) Slot.unset).toArray = ls at hl ⊢
  have hl : lv_has ls 2 [(0, .int u0), (1, .int u1)] := hl
  unfold f_M_noPoint at hf
  refine lv_iload_n hx hb d_M_noPoint_0 rfl (lv_at hl 0 rfl) ?_
  refine lv_if_lt (tgt := 19) hx hb d_M_noPoint_1 (by decide) (fun h1_1 => ?_) (fun h1_1 => ?_)
  · rw [if_pos h1_1] at hf
    refine lv_iconst (v := 1) hx hb d_M_noPoint_19 (by decide) ?_
    refine lv_goto (tgt := 24) hx hb d_M_noPoint_20 (by decide) ?_
    exact W.zret (v := (1 : Int32)) hx hb hr (by rfl) (fun t ht hW => ⟨_, rfl, hf, ht⟩) (fun q h => by cases h) d_M_noPoint_24
  · rw [if_neg h1_1] at hf
    refine lv_iload_n hx hb d_M_noPoint_4 rfl (lv_at hl 0 rfl) ?_
    refine lv_bipush (v := 7) hx hb d_M_noPoint_5 (by decide) ?_
    refine lv_icmp_gt (tgt := 19) hx hb d_M_noPoint_7 (by decide) (fun h7_2 => ?_) (fun h7_2 => ?_)
    · rw [if_pos h7_2] at hf
      refine lv_iconst (v := 1) hx hb d_M_noPoint_19 (by decide) ?_
      refine lv_goto (tgt := 24) hx hb d_M_noPoint_20 (by decide) ?_
      exact W.zret (v := (1 : Int32)) hx hb hr (by rfl) (fun t ht hW => ⟨_, rfl, hf, ht⟩) (fun q h => by cases h) d_M_noPoint_24
    · rw [if_neg h7_2] at hf
      refine lv_iload_n hx hb d_M_noPoint_10 rfl (lv_at hl 1 rfl) ?_
      refine lv_if_lt (tgt := 19) hx hb d_M_noPoint_11 (by decide) (fun h11_3 => ?_) (fun h11_3 => ?_)
      · rw [if_pos h11_3] at hf
        refine lv_iconst (v := 1) hx hb d_M_noPoint_19 (by decide) ?_
        refine lv_goto (tgt := 24) hx hb d_M_noPoint_20 (by decide) ?_
        exact W.zret (v := (1 : Int32)) hx hb hr (by rfl) (fun t ht hW => ⟨_, rfl, hf, ht⟩) (fun q h => by cases h) d_M_noPoint_24
      · rw [if_neg h11_3] at hf
        refine lv_iload_n hx hb d_M_noPoint_14 rfl (lv_at hl 1 rfl) ?_
        refine lv_iconst (v := 3) hx hb d_M_noPoint_15 (by decide) ?_
        refine lv_icmp_le (tgt := 23) hx hb d_M_noPoint_16 (by decide) (fun h16_4 => ?_) (fun h16_4 => ?_)
        · rw [if_pos h16_4] at hf
          refine lv_iconst (v := 0) hx hb d_M_noPoint_23 (by decide) ?_
          exact W.zret (v := (0 : Int32)) hx hb hr (by rfl) (fun t ht hW => ⟨_, rfl, hf, ht⟩) (fun q h => by cases h) d_M_noPoint_24
        · rw [if_neg h16_4] at hf
          refine lv_iconst (v := 1) hx hb d_M_noPoint_19 (by decide) ?_
          refine lv_goto (tgt := 24) hx hb d_M_noPoint_20 (by decide) ?_
          exact W.zret (v := (1 : Int32)) hx hb hr (by rfl) (fun t ht hW => ⟨_, rfl, hf, ht⟩) (fun q h => by cases h) d_M_noPoint_24
def f_M_channel (u0 : Int32) : Int32 := if 0 ≤ (u0 >>> ((8 : Int32) &&& 31)) then (if (u0 >>> ((8 : Int32) &&& 31)) ≤ (255 : Int32) then ((u0 >>> ((8 : Int32) &&& 31))) else ((255 : Int32))) else ((0 : Int32))
set_option maxHeartbeats 4000000 in
set_option maxRecDepth 100000 in
theorem k_M_channel (l : Launch) (u0 : Int32) (r0 : Int32) (hf : f_M_channel u0 = r0) : cc_MetS l y_M_channel (Cond.code y_M_channel b_M_channel 2 (some .int) :: wA) ({ frames := 0, cells := 0, slots := 0, locals := 0 } : Room) ([.int u0] : List Value) r0 := by
  refine Met.ofW (cc := b_M_channel) (maxL := 2) (ret := (some .int)) (by decide) rfl ?_
  intro p e s m args below meth c s₁ B hml hv
  obtain rfl : args = ([.int u0] : List Value).toArray := hv
  have hx := B.exec
  have hb := B.bytes
  have hr := B.returns
  have hts := fun w h => atoms_spec (ws := (Cond.code y_M_channel b_M_channel 2 (some .int) :: wA)) B.pre w (List.mem_cons_of_mem _ h)
  have hown : s.vm.findClass R_M = some m.cls := findClass_of_methodNamed B.named
  have hlocks := B.notSynchronized
  have hl := lv_entry (([.int u0] : List Value)) (n := 2) (Nat.le_of_ble_eq_true rfl)
  rw [lg_entry_eq]
  generalize (lg_sl (([.int u0] : List Value)) ++ List.replicate (2 - (lg_sl (([.int u0] : List Value))).length) Slot.unset).toArray = ls at hl ⊢
  have hl : lv_has ls 2 [(0, .int u0)] := hl
  unfold f_M_channel at hf
  refine lv_iload_n hx hb d_M_channel_0 rfl (lv_at hl 0 rfl) ?_
  refine lv_bipush (v := 8) hx hb d_M_channel_1 (by decide) ?_
  refine lv_ishr hx hb d_M_channel_3 ?_
  refine lv_istore_n hx hb d_M_channel_4 rfl hl (by decide) rfl (fun ls hl => ?_)
  have hl : lv_has ls 2 [(1, .int (u0 >>> ((8 : Int32) &&& 31))), (0, .int u0)] := hl
  refine lv_iload_n hx hb d_M_channel_5 rfl (lv_at hl 0 rfl) ?_
  refine lv_if_ge (tgt := 13) hx hb d_M_channel_6 (by decide) (fun h6_1 => ?_) (fun h6_1 => ?_)
  · rw [if_pos h6_1] at hf
    refine lv_iload_n hx hb d_M_channel_13 rfl (lv_at hl 0 rfl) ?_
    refine lv_sipush (v := 255) hx hb d_M_channel_14 (by decide) ?_
    refine lv_icmp_le (tgt := 26) hx hb d_M_channel_17 (by decide) (fun h17_2 => ?_) (fun h17_2 => ?_)
    · rw [if_pos h17_2] at hf
      refine lv_iload_n hx hb d_M_channel_26 rfl (lv_at hl 0 rfl) ?_
      exact W.iret (v := (u0 >>> ((8 : Int32) &&& 31))) hx hb hr (fun t ht hW => ⟨_, rfl, hf, ht⟩) (fun q h => by cases h) d_M_channel_27
    · rw [if_neg h17_2] at hf
      refine lv_sipush (v := 255) hx hb d_M_channel_20 (by decide) ?_
      refine lv_goto (tgt := 27) hx hb d_M_channel_23 (by decide) ?_
      exact W.iret (v := (255 : Int32)) hx hb hr (fun t ht hW => ⟨_, rfl, hf, ht⟩) (fun q h => by cases h) d_M_channel_27
  · rw [if_neg h6_1] at hf
    refine lv_iconst (v := 0) hx hb d_M_channel_9 (by decide) ?_
    refine lv_goto (tgt := 27) hx hb d_M_channel_10 (by decide) ?_
    exact W.iret (v := (0 : Int32)) hx hb hr (fun t ht hW => ⟨_, rfl, hf, ht⟩) (fun q h => by cases h) d_M_channel_27
def f_M_saturated (u0 : Int64) : Int32 := if (lg_cmp u0 (2147483647 : Int64)) ≤ 0 then (if 0 ≤ (lg_cmp u0 (-2147483648 : Int64)) then ((u0.toInt32)) else ((-2147483648 : Int32))) else ((2147483647 : Int32))
set_option maxHeartbeats 4000000 in
set_option maxRecDepth 100000 in
theorem k_M_saturated (l : Launch) (u0 : Int64) (r0 : Int32) (hf : f_M_saturated u0 = r0) : cc_MetS l y_M_saturated (Cond.code y_M_saturated b_M_saturated 2 (some .int) :: wA) ({ frames := 0, cells := 0, slots := 0, locals := 0 } : Room) ([.long u0] : List Value) r0 := by
  refine Met.ofW (cc := b_M_saturated) (maxL := 2) (ret := (some .int)) (by decide) rfl ?_
  intro p e s m args below meth c s₁ B hml hv
  obtain rfl : args = ([.long u0] : List Value).toArray := hv
  have hx := B.exec
  have hb := B.bytes
  have hr := B.returns
  have hts := fun w h => atoms_spec (ws := (Cond.code y_M_saturated b_M_saturated 2 (some .int) :: wA)) B.pre w (List.mem_cons_of_mem _ h)
  have hown : s.vm.findClass R_M = some m.cls := findClass_of_methodNamed B.named
  have hlocks := B.notSynchronized
  have hl := lv_entry (([.long u0] : List Value)) (n := 2) (Nat.le_of_ble_eq_true rfl)
  rw [lg_entry_eq]
  generalize (lg_sl (([.long u0] : List Value)) ++ List.replicate (2 - (lg_sl (([.long u0] : List Value))).length) Slot.unset).toArray = ls at hl ⊢
  have hl : lv_has ls 2 [(0, .long u0)] := hl
  unfold f_M_saturated at hf
  refine lv_lload_n hx hb d_M_saturated_0 rfl (lv_at hl 0 rfl) ?_
  refine lv_ldc2 (v := 2147483647) hx hb hown (hts _ mw_762) d_M_saturated_1 ?_
  refine W.lcmp hx hb d_M_saturated_4 ?_
  refine lv_if_le (tgt := 13) hx hb d_M_saturated_5 (by decide) (fun h5_1 => ?_) (fun h5_1 => ?_)
  · rw [if_pos h5_1] at hf
    refine lv_lload_n hx hb d_M_saturated_13 rfl (lv_at hl 0 rfl) ?_
    refine lv_ldc2 (v := -2147483648) hx hb hown (hts _ mw_764) d_M_saturated_14 ?_
    refine W.lcmp hx hb d_M_saturated_17 ?_
    refine lv_if_ge (tgt := 26) hx hb d_M_saturated_18 (by decide) (fun h18_2 => ?_) (fun h18_2 => ?_)
    · rw [if_pos h18_2] at hf
      refine lv_lload_n hx hb d_M_saturated_26 rfl (lv_at hl 0 rfl) ?_
      refine lv_l2i hx hb d_M_saturated_27 rfl ?_
      exact W.iret (v := (u0.toInt32)) hx hb hr (fun t ht hW => ⟨_, rfl, hf, ht⟩) (fun q h => by cases h) d_M_saturated_28
    · rw [if_neg h18_2] at hf
      refine lv_ldc (v := -2147483648) hx hb hown (hts _ mw_765) d_M_saturated_21 ?_
      refine lv_goto (tgt := 28) hx hb d_M_saturated_23 (by decide) ?_
      exact W.iret (v := (-2147483648 : Int32)) hx hb hr (fun t ht hW => ⟨_, rfl, hf, ht⟩) (fun q h => by cases h) d_M_saturated_28
  · rw [if_neg h5_1] at hf
    refine lv_ldc (v := 2147483647) hx hb hown (hts _ mw_763) d_M_saturated_8 ?_
    refine lv_goto (tgt := 28) hx hb d_M_saturated_10 (by decide) ?_
    exact W.iret (v := (2147483647 : Int32)) hx hb hr (fun t ht hW => ⟨_, rfl, hf, ht⟩) (fun q h => by cases h) d_M_saturated_28
def f_M_divided (u0 : Int32) (u1 : Int32) : Option Int32 := if u1 = 0 then (if u0 ≤ 0 then (if 0 ≤ u0 then (some (0 : Int32)) else (some (-2147483648 : Int32))) else (some (2147483647 : Int32))) else (ra_nzl (u1.toInt64) (some (f_M_saturated (((u0.toInt64) * (65536 : Int64)) / (u1.toInt64)))))
set_option maxHeartbeats 4000000 in
set_option maxRecDepth 100000 in
theorem k_M_divided (l : Launch) (u0 : Int32) (u1 : Int32) (r0 : Int32) (hf : f_M_divided u0 u1 = some r0) : cc_MetS l y_M_divided (Cond.code y_M_divided b_M_divided 2 (some .int) :: wA) ({ frames := 1, cells := 0, slots := 0, locals := 21 } : Room) ([.int u0, .int u1] : List Value) r0 := by
  refine Met.ofW (cc := b_M_divided) (maxL := 2) (ret := (some .int)) (by decide) rfl ?_
  intro p e s m args below meth c s₁ B hml hv
  obtain rfl : args = ([.int u0, .int u1] : List Value).toArray := hv
  have hx := B.exec
  have hb := B.bytes
  have hr := B.returns
  have hts := fun w h => atoms_spec (ws := (Cond.code y_M_divided b_M_divided 2 (some .int) :: wA)) B.pre w (List.mem_cons_of_mem _ h)
  have hown : s.vm.findClass R_M = some m.cls := findClass_of_methodNamed B.named
  have hlocks := B.notSynchronized
  have hl := lv_entry (([.int u0, .int u1] : List Value)) (n := 2) (Nat.le_of_ble_eq_true rfl)
  rw [lg_entry_eq]
  generalize (lg_sl (([.int u0, .int u1] : List Value)) ++ List.replicate (2 - (lg_sl (([.int u0, .int u1] : List Value))).length) Slot.unset).toArray = ls at hl ⊢
  have hl : lv_has ls 2 [(0, .int u0), (1, .int u1)] := hl
  unfold f_M_divided at hf
  refine lv_iload_n hx hb d_M_divided_0 rfl (lv_at hl 1 rfl) ?_
  refine lv_if_ne (tgt := 24) hx hb d_M_divided_1 (by decide) (fun h1_1 => ?_) (fun h1_1 => ?_)
  · rw [if_neg h1_1] at hf
    refine lv_iload_n hx hb d_M_divided_24 rfl (lv_at hl 0 rfl) ?_
    refine lv_i2l hx hb d_M_divided_25 rfl ?_
    refine lv_ldc2 (v := 65536) hx hb hown (hts _ mw_719) d_M_divided_26 ?_
    refine lv_lmul hx hb d_M_divided_29 ?_
    refine lv_iload_n hx hb d_M_divided_30 rfl (lv_at hl 1 rfl) ?_
    refine lv_i2l hx hb d_M_divided_31 rfl ?_
    obtain ⟨hn, hf⟩ := ra_nzl_some hf
    refine lv_ldiv hx hb d_M_divided_32 hn ?_
    refine cc_calls (va_runS (As := [.long (((u0.toInt64) * (65536 : Int64)) / (u1.toInt64))]) (rest := []) ⟨hx, hb, hml, hown, hts⟩ (k_M_saturated l (((u0.toInt64) * (65536 : Int64)) / (u1.toInt64)) _ rfl) (cw_S 1 hts mw_759 mw_760 mw_5 mw_761 rfl rfl hd_M_saturated ⟨Nat.le_of_ble_eq_true rfl, Nat.le_of_ble_eq_true rfl⟩) cc_preS rfl rfl hl.1 rfl (lv_room (Nat.le_of_ble_eq_true rfl)) d_M_divided_33 ⟨Nat.zero_le _, Nat.zero_le _⟩) ?_
    cases hf
    exact W.iret hx hb hr (fun t ht hW => ⟨_, rfl, rfl, ht⟩) (fun q h => by cases h) d_M_divided_36
  · rw [if_pos h1_1] at hf
    refine lv_iload_n hx hb d_M_divided_4 rfl (lv_at hl 0 rfl) ?_
    refine lv_if_le (tgt := 13) hx hb d_M_divided_5 (by decide) (fun h5_2 => ?_) (fun h5_2 => ?_)
    · rw [if_pos h5_2] at hf
      refine lv_iload_n hx hb d_M_divided_13 rfl (lv_at hl 0 rfl) ?_
      refine lv_if_ge (tgt := 22) hx hb d_M_divided_14 (by decide) (fun h14_3 => ?_) (fun h14_3 => ?_)
      · rw [if_pos h14_3] at hf
        refine lv_iconst (v := 0) hx hb d_M_divided_22 (by decide) ?_
        cases hf
        exact W.iret hx hb hr (fun t ht hW => ⟨_, rfl, rfl, ht⟩) (fun q h => by cases h) d_M_divided_23
      · rw [if_neg h14_3] at hf
        refine lv_ldc (v := -2147483648) hx hb hown (hts _ mw_765) d_M_divided_17 ?_
        refine lv_goto (tgt := 23) hx hb d_M_divided_19 (by decide) ?_
        cases hf
        exact W.iret hx hb hr (fun t ht hW => ⟨_, rfl, rfl, ht⟩) (fun q h => by cases h) d_M_divided_23
    · rw [if_neg h5_2] at hf
      refine lv_ldc (v := 2147483647) hx hb hown (hts _ mw_763) d_M_divided_8 ?_
      refine lv_goto (tgt := 23) hx hb d_M_divided_10 (by decide) ?_
      cases hf
      exact W.iret hx hb hr (fun t ht hW => ⟨_, rfl, rfl, ht⟩) (fun q h => by cases h) d_M_divided_23
def f_M_done (u0 : Int32) (u1 : Int32) (u2 : Int32) : Option Int32 := if u0 = (2 : Int32) then (some (f_M_saturated ((u1.toInt64) + (u2.toInt64)))) else (if u0 = (3 : Int32) then (some (f_M_saturated ((u1.toInt64) - (u2.toInt64)))) else (if u0 = (4 : Int32) then (some (f_M_saturated (((u1.toInt64) * (u2.toInt64)) >>> ((16 : Int32).toInt64 &&& 63)))) else (if u0 = (5 : Int32) then ((f_M_divided u1 u2).bind (fun r5 => some r5)) else (if u0 = (6 : Int32) then (if u2 ≤ u1 then (some u2) else (some u1)) else (if u0 = (7 : Int32) then (if u1 ≤ u2 then (some u2) else (some u1)) else (if u0 = (8 : Int32) then (if u2 < u1 then (some (0 : Int32)) else (some (65536 : Int32))) else (if u0 = (9 : Int32) then (some (f_M_saturated (-(u1.toInt64)))) else (if u0 = (10 : Int32) then (if 0 ≤ u1 then (some (f_M_saturated (u1.toInt64))) else (some (f_M_saturated (-(u1.toInt64))))) else (some ((u1 >>> ((16 : Int32) &&& 31)) <<< ((16 : Int32) &&& 31)))))))))))
set_option maxHeartbeats 4000000 in
set_option maxRecDepth 100000 in
theorem k_M_done (l : Launch) (u0 : Int32) (u1 : Int32) (u2 : Int32) (r0 : Int32) (hf : f_M_done u0 u1 u2 = some r0) : cc_MetS l y_M_done (Cond.code y_M_done b_M_done 3 (some .int) :: wA) ({ frames := 2, cells := 0, slots := 0, locals := 42 } : Room) ([.int u0, .int u1, .int u2] : List Value) r0 := by
  refine Met.ofW (cc := b_M_done) (maxL := 3) (ret := (some .int)) (by decide) rfl ?_
  intro p e s m args below meth c s₁ B hml hv
  obtain rfl : args = ([.int u0, .int u1, .int u2] : List Value).toArray := hv
  have hx := B.exec
  have hb := B.bytes
  have hr := B.returns
  have hts := fun w h => atoms_spec (ws := (Cond.code y_M_done b_M_done 3 (some .int) :: wA)) B.pre w (List.mem_cons_of_mem _ h)
  have hown : s.vm.findClass R_M = some m.cls := findClass_of_methodNamed B.named
  have hlocks := B.notSynchronized
  have hl := lv_entry (([.int u0, .int u1, .int u2] : List Value)) (n := 3) (Nat.le_of_ble_eq_true rfl)
  rw [lg_entry_eq]
  generalize (lg_sl (([.int u0, .int u1, .int u2] : List Value)) ++ List.replicate (3 - (lg_sl (([.int u0, .int u1, .int u2] : List Value))).length) Slot.unset).toArray = ls at hl ⊢
  have hl : lv_has ls 3 [(0, .int u0), (1, .int u1), (2, .int u2)] := hl
  unfold f_M_done at hf
  refine lv_iload_n hx hb d_M_done_0 rfl (lv_at hl 0 rfl) ?_
  by_cases h1_1 : u0 = (2 : Int32)
  · rw [if_pos h1_1] at hf
    refine lv_tableIn (tgt := 52) (off := 51) hx hb d_M_done_1 (by rw [h1_1]; decide) (by rw [h1_1]; decide) (by rw [h1_1]; decide) (by decide) ?_
    refine lv_iload_n hx hb d_M_done_52 rfl (lv_at hl 1 rfl) ?_
    refine lv_i2l hx hb d_M_done_53 rfl ?_
    refine lv_iload_n hx hb d_M_done_54 rfl (lv_at hl 2 rfl) ?_
    refine lv_i2l hx hb d_M_done_55 rfl ?_
    refine lv_ladd hx hb d_M_done_56 ?_
    refine cc_calls (va_runS (As := [.long ((u1.toInt64) + (u2.toInt64))]) (rest := []) ⟨hx, hb, hml, hown, hts⟩ (k_M_saturated l ((u1.toInt64) + (u2.toInt64)) _ rfl) (cw_S 1 hts mw_759 mw_760 mw_5 mw_761 rfl rfl hd_M_saturated ⟨Nat.le_of_ble_eq_true rfl, Nat.le_of_ble_eq_true rfl⟩) cc_preS rfl rfl hl.1 rfl (lv_room (Nat.le_of_ble_eq_true rfl)) d_M_done_57 ⟨Nat.zero_le _, Nat.zero_le _⟩) ?_
    cases hf
    exact W.iret hx hb hr (fun t ht hW => ⟨_, rfl, rfl, ht⟩) (fun q h => by cases h) d_M_done_60
  · rw [if_neg h1_1] at hf
    by_cases h1_2 : u0 = (3 : Int32)
    · rw [if_pos h1_2] at hf
      refine lv_tableIn (tgt := 61) (off := 60) hx hb d_M_done_1 (by rw [h1_2]; decide) (by rw [h1_2]; decide) (by rw [h1_2]; decide) (by decide) ?_
      refine lv_iload_n hx hb d_M_done_61 rfl (lv_at hl 1 rfl) ?_
      refine lv_i2l hx hb d_M_done_62 rfl ?_
      refine lv_iload_n hx hb d_M_done_63 rfl (lv_at hl 2 rfl) ?_
      refine lv_i2l hx hb d_M_done_64 rfl ?_
      refine lv_lsub hx hb d_M_done_65 ?_
      refine cc_calls (va_runS (As := [.long ((u1.toInt64) - (u2.toInt64))]) (rest := []) ⟨hx, hb, hml, hown, hts⟩ (k_M_saturated l ((u1.toInt64) - (u2.toInt64)) _ rfl) (cw_S 1 hts mw_759 mw_760 mw_5 mw_761 rfl rfl hd_M_saturated ⟨Nat.le_of_ble_eq_true rfl, Nat.le_of_ble_eq_true rfl⟩) cc_preS rfl rfl hl.1 rfl (lv_room (Nat.le_of_ble_eq_true rfl)) d_M_done_66 ⟨Nat.zero_le _, Nat.zero_le _⟩) ?_
      cases hf
      exact W.iret hx hb hr (fun t ht hW => ⟨_, rfl, rfl, ht⟩) (fun q h => by cases h) d_M_done_69
    · rw [if_neg h1_2] at hf
      by_cases h1_3 : u0 = (4 : Int32)
      · rw [if_pos h1_3] at hf
        refine lv_tableIn (tgt := 70) (off := 69) hx hb d_M_done_1 (by rw [h1_3]; decide) (by rw [h1_3]; decide) (by rw [h1_3]; decide) (by decide) ?_
        refine lv_iload_n hx hb d_M_done_70 rfl (lv_at hl 1 rfl) ?_
        refine lv_i2l hx hb d_M_done_71 rfl ?_
        refine lv_iload_n hx hb d_M_done_72 rfl (lv_at hl 2 rfl) ?_
        refine lv_i2l hx hb d_M_done_73 rfl ?_
        refine lv_lmul hx hb d_M_done_74 ?_
        refine lv_bipush (v := 16) hx hb d_M_done_75 (by decide) ?_
        refine lv_lshr hx hb d_M_done_77 rfl ?_
        refine cc_calls (va_runS (As := [.long (((u1.toInt64) * (u2.toInt64)) >>> ((16 : Int32).toInt64 &&& 63))]) (rest := []) ⟨hx, hb, hml, hown, hts⟩ (k_M_saturated l (((u1.toInt64) * (u2.toInt64)) >>> ((16 : Int32).toInt64 &&& 63)) _ rfl) (cw_S 1 hts mw_759 mw_760 mw_5 mw_761 rfl rfl hd_M_saturated ⟨Nat.le_of_ble_eq_true rfl, Nat.le_of_ble_eq_true rfl⟩) cc_preS rfl rfl hl.1 rfl (lv_room (Nat.le_of_ble_eq_true rfl)) d_M_done_78 ⟨Nat.zero_le _, Nat.zero_le _⟩) ?_
        cases hf
        exact W.iret hx hb hr (fun t ht hW => ⟨_, rfl, rfl, ht⟩) (fun q h => by cases h) d_M_done_81
      · rw [if_neg h1_3] at hf
        by_cases h1_4 : u0 = (5 : Int32)
        · rw [if_pos h1_4] at hf
          refine lv_tableIn (tgt := 82) (off := 81) hx hb d_M_done_1 (by rw [h1_4]; decide) (by rw [h1_4]; decide) (by rw [h1_4]; decide) (by decide) ?_
          refine lv_iload_n hx hb d_M_done_82 rfl (lv_at hl 1 rfl) ?_
          refine lv_iload_n hx hb d_M_done_83 rfl (lv_at hl 2 rfl) ?_
          obtain ⟨r5, hc, hf⟩ := Option.bind_eq_some_iff.mp hf
          refine cc_calls (va_runS (As := [.int u1, .int u2]) (rest := []) ⟨hx, hb, hml, hown, hts⟩ (k_M_divided l u1 u2 r5 hc) (cw_S 2 hts mw_766 mw_767 mw_5 mw_768 rfl rfl hd_M_divided ⟨Nat.le_of_ble_eq_true rfl, Nat.le_of_ble_eq_true rfl⟩) cc_preS rfl rfl hl.1 rfl (lv_room (Nat.le_of_ble_eq_true rfl)) d_M_done_84 ⟨Nat.zero_le _, Nat.zero_le _⟩) ?_
          cases hf
          exact W.iret hx hb hr (fun t ht hW => ⟨_, rfl, rfl, ht⟩) (fun q h => by cases h) d_M_done_87
        · rw [if_neg h1_4] at hf
          by_cases h1_6 : u0 = (6 : Int32)
          · rw [if_pos h1_6] at hf
            refine lv_tableIn (tgt := 88) (off := 87) hx hb d_M_done_1 (by rw [h1_6]; decide) (by rw [h1_6]; decide) (by rw [h1_6]; decide) (by decide) ?_
            refine lv_iload_n hx hb d_M_done_88 rfl (lv_at hl 1 rfl) ?_
            refine lv_iload_n hx hb d_M_done_89 rfl (lv_at hl 2 rfl) ?_
            refine lv_icmp_ge (tgt := 97) hx hb d_M_done_90 (by decide) (fun h90_7 => ?_) (fun h90_7 => ?_)
            · rw [if_pos h90_7] at hf
              refine lv_iload_n hx hb d_M_done_97 rfl (lv_at hl 2 rfl) ?_
              cases hf
              exact W.iret hx hb hr (fun t ht hW => ⟨_, rfl, rfl, ht⟩) (fun q h => by cases h) d_M_done_98
            · rw [if_neg h90_7] at hf
              refine lv_iload_n hx hb d_M_done_93 rfl (lv_at hl 1 rfl) ?_
              refine lv_goto (tgt := 98) hx hb d_M_done_94 (by decide) ?_
              cases hf
              exact W.iret hx hb hr (fun t ht hW => ⟨_, rfl, rfl, ht⟩) (fun q h => by cases h) d_M_done_98
          · rw [if_neg h1_6] at hf
            by_cases h1_8 : u0 = (7 : Int32)
            · rw [if_pos h1_8] at hf
              refine lv_tableIn (tgt := 99) (off := 98) hx hb d_M_done_1 (by rw [h1_8]; decide) (by rw [h1_8]; decide) (by rw [h1_8]; decide) (by decide) ?_
              refine lv_iload_n hx hb d_M_done_99 rfl (lv_at hl 1 rfl) ?_
              refine lv_iload_n hx hb d_M_done_100 rfl (lv_at hl 2 rfl) ?_
              refine lv_icmp_le (tgt := 108) hx hb d_M_done_101 (by decide) (fun h101_9 => ?_) (fun h101_9 => ?_)
              · rw [if_pos h101_9] at hf
                refine lv_iload_n hx hb d_M_done_108 rfl (lv_at hl 2 rfl) ?_
                cases hf
                exact W.iret hx hb hr (fun t ht hW => ⟨_, rfl, rfl, ht⟩) (fun q h => by cases h) d_M_done_109
              · rw [if_neg h101_9] at hf
                refine lv_iload_n hx hb d_M_done_104 rfl (lv_at hl 1 rfl) ?_
                refine lv_goto (tgt := 109) hx hb d_M_done_105 (by decide) ?_
                cases hf
                exact W.iret hx hb hr (fun t ht hW => ⟨_, rfl, rfl, ht⟩) (fun q h => by cases h) d_M_done_109
            · rw [if_neg h1_8] at hf
              by_cases h1_10 : u0 = (8 : Int32)
              · rw [if_pos h1_10] at hf
                refine lv_tableIn (tgt := 110) (off := 109) hx hb d_M_done_1 (by rw [h1_10]; decide) (by rw [h1_10]; decide) (by rw [h1_10]; decide) (by decide) ?_
                refine lv_iload_n hx hb d_M_done_110 rfl (lv_at hl 1 rfl) ?_
                refine lv_iload_n hx hb d_M_done_111 rfl (lv_at hl 2 rfl) ?_
                refine lv_icmp_gt (tgt := 120) hx hb d_M_done_112 (by decide) (fun h112_11 => ?_) (fun h112_11 => ?_)
                · rw [if_pos h112_11] at hf
                  refine lv_iconst (v := 0) hx hb d_M_done_120 (by decide) ?_
                  cases hf
                  exact W.iret hx hb hr (fun t ht hW => ⟨_, rfl, rfl, ht⟩) (fun q h => by cases h) d_M_done_121
                · rw [if_neg h112_11] at hf
                  refine lv_ldc (v := 65536) hx hb hown (hts _ mw_718) d_M_done_115 ?_
                  refine lv_goto (tgt := 121) hx hb d_M_done_117 (by decide) ?_
                  cases hf
                  exact W.iret hx hb hr (fun t ht hW => ⟨_, rfl, rfl, ht⟩) (fun q h => by cases h) d_M_done_121
              · rw [if_neg h1_10] at hf
                by_cases h1_12 : u0 = (9 : Int32)
                · rw [if_pos h1_12] at hf
                  refine lv_tableIn (tgt := 122) (off := 121) hx hb d_M_done_1 (by rw [h1_12]; decide) (by rw [h1_12]; decide) (by rw [h1_12]; decide) (by decide) ?_
                  refine lv_iload_n hx hb d_M_done_122 rfl (lv_at hl 1 rfl) ?_
                  refine lv_i2l hx hb d_M_done_123 rfl ?_
                  refine lv_lneg hx hb d_M_done_124 ?_
                  refine cc_calls (va_runS (As := [.long (-(u1.toInt64))]) (rest := []) ⟨hx, hb, hml, hown, hts⟩ (k_M_saturated l (-(u1.toInt64)) _ rfl) (cw_S 1 hts mw_759 mw_760 mw_5 mw_761 rfl rfl hd_M_saturated ⟨Nat.le_of_ble_eq_true rfl, Nat.le_of_ble_eq_true rfl⟩) cc_preS rfl rfl hl.1 rfl (lv_room (Nat.le_of_ble_eq_true rfl)) d_M_done_125 ⟨Nat.zero_le _, Nat.zero_le _⟩) ?_
                  cases hf
                  exact W.iret hx hb hr (fun t ht hW => ⟨_, rfl, rfl, ht⟩) (fun q h => by cases h) d_M_done_128
                · rw [if_neg h1_12] at hf
                  by_cases h1_13 : u0 = (10 : Int32)
                  · rw [if_pos h1_13] at hf
                    refine lv_tableIn (tgt := 129) (off := 128) hx hb d_M_done_1 (by rw [h1_13]; decide) (by rw [h1_13]; decide) (by rw [h1_13]; decide) (by decide) ?_
                    refine lv_iload_n hx hb d_M_done_129 rfl (lv_at hl 1 rfl) ?_
                    refine lv_if_ge (tgt := 139) hx hb d_M_done_130 (by decide) (fun h130_14 => ?_) (fun h130_14 => ?_)
                    · rw [if_pos h130_14] at hf
                      refine lv_iload_n hx hb d_M_done_139 rfl (lv_at hl 1 rfl) ?_
                      refine lv_i2l hx hb d_M_done_140 rfl ?_
                      refine cc_calls (va_runS (As := [.long (u1.toInt64)]) (rest := []) ⟨hx, hb, hml, hown, hts⟩ (k_M_saturated l (u1.toInt64) _ rfl) (cw_S 1 hts mw_759 mw_760 mw_5 mw_761 rfl rfl hd_M_saturated ⟨Nat.le_of_ble_eq_true rfl, Nat.le_of_ble_eq_true rfl⟩) cc_preS rfl rfl hl.1 rfl (lv_room (Nat.le_of_ble_eq_true rfl)) d_M_done_141 ⟨Nat.zero_le _, Nat.zero_le _⟩) ?_
                      cases hf
                      exact W.iret hx hb hr (fun t ht hW => ⟨_, rfl, rfl, ht⟩) (fun q h => by cases h) d_M_done_144
                    · rw [if_neg h130_14] at hf
                      refine lv_iload_n hx hb d_M_done_133 rfl (lv_at hl 1 rfl) ?_
                      refine lv_i2l hx hb d_M_done_134 rfl ?_
                      refine lv_lneg hx hb d_M_done_135 ?_
                      refine lv_goto (tgt := 141) hx hb d_M_done_136 (by decide) ?_
                      refine cc_calls (va_runS (As := [.long (-(u1.toInt64))]) (rest := []) ⟨hx, hb, hml, hown, hts⟩ (k_M_saturated l (-(u1.toInt64)) _ rfl) (cw_S 1 hts mw_759 mw_760 mw_5 mw_761 rfl rfl hd_M_saturated ⟨Nat.le_of_ble_eq_true rfl, Nat.le_of_ble_eq_true rfl⟩) cc_preS rfl rfl hl.1 rfl (lv_room (Nat.le_of_ble_eq_true rfl)) d_M_done_141 ⟨Nat.zero_le _, Nat.zero_le _⟩) ?_
                      cases hf
                      exact W.iret hx hb hr (fun t ht hW => ⟨_, rfl, rfl, ht⟩) (fun q h => by cases h) d_M_done_144
                  · rw [if_neg h1_13] at hf
                    have hout : u0.toInt < 2 ∨ 10 < u0.toInt := by
                      have n2 := lv_neT (a := 2) h1_1 (by decide)
                      have n3 := lv_neT (a := 3) h1_2 (by decide)
                      have n4 := lv_neT (a := 4) h1_3 (by decide)
                      have n5 := lv_neT (a := 5) h1_4 (by decide)
                      have n6 := lv_neT (a := 6) h1_6 (by decide)
                      have n7 := lv_neT (a := 7) h1_8 (by decide)
                      have n8 := lv_neT (a := 8) h1_10 (by decide)
                      have n9 := lv_neT (a := 9) h1_12 (by decide)
                      have n10 := lv_neT (a := 10) h1_13 (by decide)
                      omega
                    refine lv_tableOut (tgt := 145) hx hb d_M_done_1 hout (by decide) ?_
                    refine lv_iload_n hx hb d_M_done_145 rfl (lv_at hl 1 rfl) ?_
                    refine lv_bipush (v := 16) hx hb d_M_done_146 (by decide) ?_
                    refine lv_ishr hx hb d_M_done_148 ?_
                    refine lv_bipush (v := 16) hx hb d_M_done_149 (by decide) ?_
                    refine lv_ishl hx hb d_M_done_151 ?_
                    cases hf
                    exact W.iret hx hb hr (fun t ht hW => ⟨_, rfl, rfl, ht⟩) (fun q h => by cases h) d_M_done_152
def f_M_thrown  (Fa : ST_F) (Aa : ST_A) : Option (Int32 × ST_F × ST_A) := some ((Fa 0), Fa, Aa)
set_option maxHeartbeats 4000000 in
set_option maxRecDepth 100000 in
theorem k_M_thrown (l : Launch) (dC : Nat → ClassId) (dI : Nat → Nat → Nat) (o : Nat → Nat) (cI : ClassId) (sz : Nat) (Fa : ST_F) (Aa : ST_A)  (r0 : Int32) (F9 : ST_F) (A9 : ST_A) (hf : f_M_thrown  Fa Aa = some (r0, F9, A9)) : cc_MetI l y_M_thrown (Cond.code y_M_thrown b_M_thrown 1 (some .int) :: wA) ({ frames := 0, cells := 0, slots := 0, locals := 0 } : Room) (dC, dI) vC [(cI, .int)] ([.ref (o 0)] : List Value) (wM o cI Fa Aa) sz (wM o cI F9 A9) r0 := by
  refine Met.ofW (cc := b_M_thrown) (maxL := 1) (ret := (some .int)) (by decide) rfl ?_
  intro p e s m args below meth c s₁ B hml hv
  obtain ⟨rfl, hsz, hP, hK, hD0⟩ := hv
  have hx := B.exec
  have hb := B.bytes
  have hr := B.returns
  have hts := fun w h => atoms_spec (ws := (Cond.code y_M_thrown b_M_thrown 1 (some .int) :: wA)) B.pre w (List.mem_cons_of_mem _ h)
  have hown : s.vm.findClass R_M = some m.cls := findClass_of_methodNamed B.named
  have hlocks := B.notSynchronized
  subst hsz
  have hD := hD0.self (sz := s.heap.size)
  have hA : ∀ q : Nat, s.heap.size ≤ q → va_A (wM o cI Fa Aa) s.heap.size q := fun q h => Or.inr h
  have hS : va_S (va_A (wM o cI Fa Aa) s.heap.size) s.heap s.heap [] := va_S.rf
  have hl := lv_entry (([.ref (o 0)] : List Value)) (n := 1) (Nat.le_of_ble_eq_true rfl)
  rw [lg_entry_eq]
  generalize (lg_sl (([.ref (o 0)] : List Value)) ++ List.replicate (1 - (lg_sl (([.ref (o 0)] : List Value))).length) Slot.unset).toArray = ls at hl ⊢
  have hl : lv_has ls 1 [(0, .ref (o 0))] := hl
  unfold f_M_thrown at hf
  refine lv_aload_n hx hb d_M_thrown_0 rfl (lv_at hl 0 rfl) ?_
  refine va_get (D := (dC, dI)) (ci := 4) (v := .int (Fa 0)) (C := R_M) (T := T_M) (N := 29) hx hb hts in_M hown hK hP 0 rfl rfl 0 (by decide) (hts _ mw_503) (fun _ h9 => h9) rfl d_M_thrown_1 ?_
  cases hf
  exact W.iret hx hb hr (fun t ht hW => ⟨⟨_, (), rfl, rfl, by rw [ht]; exact hP, va_K.moved hW.alike hK, hD⟩, hS.F ht⟩) hS.2.2 d_M_thrown_4
def f_M_erase  (Fa : ST_F) (Aa : ST_A) : Option (ST_F × ST_A) := some ((upd (upd Fa 0 (0 : Int32)) 1 (0 : Int32)), Aa)
set_option maxHeartbeats 4000000 in
set_option maxRecDepth 100000 in
theorem k_M_erase (l : Launch) (dC : Nat → ClassId) (dI : Nat → Nat → Nat) (o : Nat → Nat) (cI : ClassId) (sz : Nat) (Fa : ST_F) (Aa : ST_A)  (F9 : ST_F) (A9 : ST_A) (hf : f_M_erase  Fa Aa = some (F9, A9)) : cc_MetV l y_M_erase (Cond.code y_M_erase b_M_erase 1 none :: wA) ({ frames := 0, cells := 0, slots := 0, locals := 0 } : Room) (dC, dI) vC [(cI, .int)] ([.ref (o 0)] : List Value) (wM o cI Fa Aa) sz (wM o cI F9 A9) := by
  refine Met.ofW (cc := b_M_erase) (maxL := 1) (ret := none) (by decide) rfl ?_
  intro p e s m args below meth c s₁ B hml hv
  obtain ⟨rfl, hsz, hP, hK, hD0⟩ := hv
  have hx := B.exec
  have hb := B.bytes
  have hr := B.returns
  have hts := fun w h => atoms_spec (ws := (Cond.code y_M_erase b_M_erase 1 none :: wA)) B.pre w (List.mem_cons_of_mem _ h)
  have hown : s.vm.findClass R_M = some m.cls := findClass_of_methodNamed B.named
  have hlocks := B.notSynchronized
  subst hsz
  have hD := hD0.self (sz := s.heap.size)
  have hA : ∀ q : Nat, s.heap.size ≤ q → va_A (wM o cI Fa Aa) s.heap.size q := fun q h => Or.inr h
  have hS : va_S (va_A (wM o cI Fa Aa) s.heap.size) s.heap s.heap [] := va_S.rf
  have hl := lv_entry (([.ref (o 0)] : List Value)) (n := 1) (Nat.le_of_ble_eq_true rfl)
  rw [lg_entry_eq]
  generalize (lg_sl (([.ref (o 0)] : List Value)) ++ List.replicate (1 - (lg_sl (([.ref (o 0)] : List Value))).length) Slot.unset).toArray = ls at hl ⊢
  have hl : lv_has ls 1 [(0, .ref (o 0))] := hl
  unfold f_M_erase at hf
  refine lv_aload_n hx hb d_M_erase_0 rfl (lv_at hl 0 rfl) ?_
  refine lv_iconst (v := 0) hx hb d_M_erase_1 (by decide) ?_
  refine va_put (D := (dC, dI)) (ci := 4) (v := .int (0 : Int32)) (ty := .int) (C := R_M) (T := T_M) (N := 29) hx hb hts in_M ty_M ty_M_ok nm_M hown hK hP hD hS 0 rfl rfl 0 (by decide) (hts _ mw_503) (fun _ h9 => h9) rfl (by decide +kernel) rfl rfl (Nat.le_of_ble_eq_true rfl) d_M_erase_2 (fun H locs hP hD hS => ?_)
  have hP : va_P (dC, dI) vC [((o 0), .inr (4, [.int (0 : Int32), .int (Fa 1), .ref (o 1), .int (Fa 2), .ref (o 2), .ref (o 3), .ref (o 4), .ref (o 5), .ref (o 6), .int (Fa 3), .ref (o 7), .ref (o 8), .ref (o 9), .ref (o 10), .ref (o 11), .int (Fa 4), .int (Fa 5), .int (Fa 6), .ref (o 12), .ref (o 13), .int (Fa 7), .ref (o 14), .ref (o 15), .int (Fa 8), .int (Fa 9), .ref (o 16), .ref (o 17), .ref (o 18), .ref (o 19)])), ((o 1), .inl (cI, 160, .inl (Aa 0))), ((o 2), .inl (cI, 100, .inl (Aa 1))), ((o 3), .inl (cI, 100, .inl (Aa 2))), ((o 4), .inl (cI, 100, .inl (Aa 3))), ((o 5), .inl (cI, 3, .inl (Aa 4))), ((o 6), .inl (cI, 26, .inl (Aa 5))), ((o 7), .inl (cI, 100, .inl (Aa 6))), ((o 8), .inl (cI, 100, .inl (Aa 7))), ((o 9), .inl (cI, 100, .inl (Aa 8))), ((o 10), .inl (cI, 26, .inl (Aa 9))), ((o 11), .inl (cI, 104, .inl (Aa 10))), ((o 12), .inl (cI, 80, .inl (Aa 11))), ((o 13), .inl (cI, 320, .inl (Aa 12))), ((o 14), .inl (cI, 200, .inl (Aa 13))), ((o 15), .inl (cI, 200, .inl (Aa 14))), ((o 16), .inl (cI, 4, .inl (Aa 15))), ((o 17), .inl (cI, 32, .inl (Aa 16))), ((o 18), .inl (cI, 32, .inl (Aa 17))), ((o 19), .inl (cI, 100, .inl (Aa 18)))] H := hP
  have hD : va_D (va_A (wM o cI Fa Aa) s.heap.size) [((o 0), .inr (4, [.int (0 : Int32), .int (Fa 1), .ref (o 1), .int (Fa 2), .ref (o 2), .ref (o 3), .ref (o 4), .ref (o 5), .ref (o 6), .int (Fa 3), .ref (o 7), .ref (o 8), .ref (o 9), .ref (o 10), .ref (o 11), .int (Fa 4), .int (Fa 5), .int (Fa 6), .ref (o 12), .ref (o 13), .int (Fa 7), .ref (o 14), .ref (o 15), .int (Fa 8), .int (Fa 9), .ref (o 16), .ref (o 17), .ref (o 18), .ref (o 19)])), ((o 1), .inl (cI, 160, .inl (Aa 0))), ((o 2), .inl (cI, 100, .inl (Aa 1))), ((o 3), .inl (cI, 100, .inl (Aa 2))), ((o 4), .inl (cI, 100, .inl (Aa 3))), ((o 5), .inl (cI, 3, .inl (Aa 4))), ((o 6), .inl (cI, 26, .inl (Aa 5))), ((o 7), .inl (cI, 100, .inl (Aa 6))), ((o 8), .inl (cI, 100, .inl (Aa 7))), ((o 9), .inl (cI, 100, .inl (Aa 8))), ((o 10), .inl (cI, 26, .inl (Aa 9))), ((o 11), .inl (cI, 104, .inl (Aa 10))), ((o 12), .inl (cI, 80, .inl (Aa 11))), ((o 13), .inl (cI, 320, .inl (Aa 12))), ((o 14), .inl (cI, 200, .inl (Aa 13))), ((o 15), .inl (cI, 200, .inl (Aa 14))), ((o 16), .inl (cI, 4, .inl (Aa 15))), ((o 17), .inl (cI, 32, .inl (Aa 16))), ((o 18), .inl (cI, 32, .inl (Aa 17))), ((o 19), .inl (cI, 100, .inl (Aa 18)))] := hD
  refine lv_aload_n hx hb d_M_erase_5 rfl (lv_at hl 0 rfl) ?_
  refine lv_iconst (v := 0) hx hb d_M_erase_6 (by decide) ?_
  refine va_put (D := (dC, dI)) (ci := 4) (v := .int (0 : Int32)) (ty := .int) (C := R_M) (T := T_M) (N := 29) hx hb hts in_M ty_M ty_M_ok nm_M hown hK hP hD hS 0 rfl rfl 1 (by decide) (hts _ mw_504) (fun _ h9 => h9) rfl (by decide +kernel) rfl rfl (Nat.le_of_ble_eq_true rfl) d_M_erase_7 (fun H locs hP hD hS => ?_)
  have hP : va_P (dC, dI) vC [((o 0), .inr (4, [.int (0 : Int32), .int (0 : Int32), .ref (o 1), .int (Fa 2), .ref (o 2), .ref (o 3), .ref (o 4), .ref (o 5), .ref (o 6), .int (Fa 3), .ref (o 7), .ref (o 8), .ref (o 9), .ref (o 10), .ref (o 11), .int (Fa 4), .int (Fa 5), .int (Fa 6), .ref (o 12), .ref (o 13), .int (Fa 7), .ref (o 14), .ref (o 15), .int (Fa 8), .int (Fa 9), .ref (o 16), .ref (o 17), .ref (o 18), .ref (o 19)])), ((o 1), .inl (cI, 160, .inl (Aa 0))), ((o 2), .inl (cI, 100, .inl (Aa 1))), ((o 3), .inl (cI, 100, .inl (Aa 2))), ((o 4), .inl (cI, 100, .inl (Aa 3))), ((o 5), .inl (cI, 3, .inl (Aa 4))), ((o 6), .inl (cI, 26, .inl (Aa 5))), ((o 7), .inl (cI, 100, .inl (Aa 6))), ((o 8), .inl (cI, 100, .inl (Aa 7))), ((o 9), .inl (cI, 100, .inl (Aa 8))), ((o 10), .inl (cI, 26, .inl (Aa 9))), ((o 11), .inl (cI, 104, .inl (Aa 10))), ((o 12), .inl (cI, 80, .inl (Aa 11))), ((o 13), .inl (cI, 320, .inl (Aa 12))), ((o 14), .inl (cI, 200, .inl (Aa 13))), ((o 15), .inl (cI, 200, .inl (Aa 14))), ((o 16), .inl (cI, 4, .inl (Aa 15))), ((o 17), .inl (cI, 32, .inl (Aa 16))), ((o 18), .inl (cI, 32, .inl (Aa 17))), ((o 19), .inl (cI, 100, .inl (Aa 18)))] H := hP
  have hD : va_D (va_A (wM o cI Fa Aa) s.heap.size) [((o 0), .inr (4, [.int (0 : Int32), .int (0 : Int32), .ref (o 1), .int (Fa 2), .ref (o 2), .ref (o 3), .ref (o 4), .ref (o 5), .ref (o 6), .int (Fa 3), .ref (o 7), .ref (o 8), .ref (o 9), .ref (o 10), .ref (o 11), .int (Fa 4), .int (Fa 5), .int (Fa 6), .ref (o 12), .ref (o 13), .int (Fa 7), .ref (o 14), .ref (o 15), .int (Fa 8), .int (Fa 9), .ref (o 16), .ref (o 17), .ref (o 18), .ref (o 19)])), ((o 1), .inl (cI, 160, .inl (Aa 0))), ((o 2), .inl (cI, 100, .inl (Aa 1))), ((o 3), .inl (cI, 100, .inl (Aa 2))), ((o 4), .inl (cI, 100, .inl (Aa 3))), ((o 5), .inl (cI, 3, .inl (Aa 4))), ((o 6), .inl (cI, 26, .inl (Aa 5))), ((o 7), .inl (cI, 100, .inl (Aa 6))), ((o 8), .inl (cI, 100, .inl (Aa 7))), ((o 9), .inl (cI, 100, .inl (Aa 8))), ((o 10), .inl (cI, 26, .inl (Aa 9))), ((o 11), .inl (cI, 104, .inl (Aa 10))), ((o 12), .inl (cI, 80, .inl (Aa 11))), ((o 13), .inl (cI, 320, .inl (Aa 12))), ((o 14), .inl (cI, 200, .inl (Aa 13))), ((o 15), .inl (cI, 200, .inl (Aa 14))), ((o 16), .inl (cI, 4, .inl (Aa 15))), ((o 17), .inl (cI, 32, .inl (Aa 16))), ((o 18), .inl (cI, 32, .inl (Aa 17))), ((o 19), .inl (cI, 100, .inl (Aa 18)))] := hD
  cases hf
  exact W.vret hx hb hr (fun t ht hW => ⟨⟨(), rfl, trivial, by rw [ht]; exact hP, va_K.moved hW.alike hK, hD⟩, hS.F ht⟩) hS.2.2 d_M_erase_10
def f_M_look (u1 : Int32) (Fa : ST_F) (Aa : ST_A) : Option (Int32 × ST_F × ST_A) := if (Fa 1) ≤ u1 then (some ((0 : Int32), Fa, Aa)) else (ra_g u1 160 (some (((Aa 0) u1.toNatClampNeg), Fa, Aa)))
set_option maxHeartbeats 4000000 in
set_option maxRecDepth 100000 in
theorem k_M_look (l : Launch) (dC : Nat → ClassId) (dI : Nat → Nat → Nat) (o : Nat → Nat) (cI : ClassId) (sz : Nat) (Fa : ST_F) (Aa : ST_A) (u1 : Int32) (r0 : Int32) (F9 : ST_F) (A9 : ST_A) (hf : f_M_look u1 Fa Aa = some (r0, F9, A9)) : cc_MetI l y_M_look (Cond.code y_M_look b_M_look 2 (some .int) :: wA) ({ frames := 0, cells := 0, slots := 0, locals := 0 } : Room) (dC, dI) vC [(cI, .int)] ([.ref (o 0), .int u1] : List Value) (wM o cI Fa Aa) sz (wM o cI F9 A9) r0 := by
  refine Met.ofW (cc := b_M_look) (maxL := 2) (ret := (some .int)) (by decide) rfl ?_
  intro p e s m args below meth c s₁ B hml hv
  obtain ⟨rfl, hsz, hP, hK, hD0⟩ := hv
  have hx := B.exec
  have hb := B.bytes
  have hr := B.returns
  have hts := fun w h => atoms_spec (ws := (Cond.code y_M_look b_M_look 2 (some .int) :: wA)) B.pre w (List.mem_cons_of_mem _ h)
  have hown : s.vm.findClass R_M = some m.cls := findClass_of_methodNamed B.named
  have hlocks := B.notSynchronized
  subst hsz
  have hD := hD0.self (sz := s.heap.size)
  have hA : ∀ q : Nat, s.heap.size ≤ q → va_A (wM o cI Fa Aa) s.heap.size q := fun q h => Or.inr h
  have hS : va_S (va_A (wM o cI Fa Aa) s.heap.size) s.heap s.heap [] := va_S.rf
  have hl := lv_entry (([.ref (o 0), .int u1] : List Value)) (n := 2) (Nat.le_of_ble_eq_true rfl)
  rw [lg_entry_eq]
  generalize (lg_sl (([.ref (o 0), .int u1] : List Value)) ++ List.replicate (2 - (lg_sl (([.ref (o 0), .int u1] : List Value))).length) Slot.unset).toArray = ls at hl ⊢
  have hl : lv_has ls 2 [(0, .ref (o 0)), (1, .int u1)] := hl
  unfold f_M_look at hf
  refine lv_iload_n hx hb d_M_look_0 rfl (lv_at hl 1 rfl) ?_
  refine lv_aload_n hx hb d_M_look_1 rfl (lv_at hl 0 rfl) ?_
  refine va_get (D := (dC, dI)) (ci := 4) (v := .int (Fa 1)) (C := R_M) (T := T_M) (N := 29) hx hb hts in_M hown hK hP 0 rfl rfl 1 (by decide) (hts _ mw_504) (fun _ h9 => h9) rfl d_M_look_2 ?_
  refine lv_icmp_ge (tgt := 17) hx hb d_M_look_5 (by decide) (fun h5_1 => ?_) (fun h5_1 => ?_)
  · rw [if_pos h5_1] at hf
    refine lv_iconst (v := 0) hx hb d_M_look_17 (by decide) ?_
    cases hf
    exact W.iret hx hb hr (fun t ht hW => ⟨⟨_, (), rfl, rfl, by rw [ht]; exact hP, va_K.moved hW.alike hK, hD⟩, hS.F ht⟩) hS.2.2 d_M_look_18
  · rw [if_neg h5_1] at hf
    refine lv_aload_n hx hb d_M_look_8 rfl (lv_at hl 0 rfl) ?_
    refine va_get (D := (dC, dI)) (ci := 4) (v := .ref (o 1)) (C := R_M) (T := T_M) (N := 29) hx hb hts in_M hown hK hP 0 rfl rfl 2 (by decide) (hts _ mw_505) (fun _ h9 => h9) rfl d_M_look_9 ?_
    refine lv_iload_n hx hb d_M_look_12 rfl (lv_at hl 1 rfl) ?_
    obtain ⟨hi, hf⟩ := ra_g_some hf
    refine va_iald hx hb hK hP 1 0 rfl rfl hi d_M_look_13 ?_
    refine lv_goto (tgt := 18) hx hb d_M_look_14 (by decide) ?_
    cases hf
    exact W.iret hx hb hr (fun t ht hW => ⟨⟨_, (), rfl, rfl, by rw [ht]; exact hP, va_K.moved hW.alike hK, hD⟩, hS.F ht⟩) hS.2.2 d_M_look_18
def f_M_put_L3 : Nat → Int32 → Int32 → Int32 → Int32 → ST_F → ST_A → Option (Int32 × ST_F × ST_A)
  | 0, _, _, _, _, _, _ => none
  | n + 1, x1, x2, x3, x4, F, A => if (F 3) ≤ x4 then (if (F 3) = (100 : Int32) then (some ((0 : Int32), (upd F 5 (1 : Int32)), A)) else (ra_g (F 3) 100 (ra_g (F 3) 100 (ra_g (F 3) 100 (some ((((F 3) + (1 : Int32)) - (1 : Int32)), (upd F 3 ((F 3) + (1 : Int32))), (va_up (va_up (va_up A 6 (upd (A 6) (F 3).toNatClampNeg x1)) 7 (upd (A 7) (F 3).toNatClampNeg x2)) 8 (upd (A 8) (F 3).toNatClampNeg x3)))))))) else (ra_g x4 100 (if ((A 6) x4.toNatClampNeg) = x1 then (ra_g x4 100 (if ((A 7) x4.toNatClampNeg) = x2 then (ra_g x4 100 (if ((A 8) x4.toNatClampNeg) = x3 then (some (x4, F, A)) else (f_M_put_L3 n x1 x2 x3 (x4 + (1 : Int32)) F A))) else (f_M_put_L3 n x1 x2 x3 (x4 + (1 : Int32)) F A))) else (f_M_put_L3 n x1 x2 x3 (x4 + (1 : Int32)) F A)))
def f_M_put (u1 : Int32) (u2 : Int32) (u3 : Int32) (Fa : ST_F) (Aa : ST_A) : Option (Int32 × ST_F × ST_A) := f_M_put_L3 400 u1 u2 u3 (0 : Int32) Fa Aa
set_option maxHeartbeats 4000000 in
set_option maxRecDepth 100000 in
theorem k_M_put (l : Launch) (dC : Nat → ClassId) (dI : Nat → Nat → Nat) (o : Nat → Nat) (cI : ClassId) (sz : Nat) (Fa : ST_F) (Aa : ST_A) (u1 : Int32) (u2 : Int32) (u3 : Int32) (r0 : Int32) (F9 : ST_F) (A9 : ST_A) (hf : f_M_put u1 u2 u3 Fa Aa = some (r0, F9, A9)) : cc_MetI l y_M_put (Cond.code y_M_put b_M_put 5 (some .int) :: wA) ({ frames := 0, cells := 0, slots := 0, locals := 0 } : Room) (dC, dI) vC [(cI, .int)] ([.ref (o 0), .int u1, .int u2, .int u3] : List Value) (wM o cI Fa Aa) sz (wM o cI F9 A9) r0 := by
  refine Met.ofW (cc := b_M_put) (maxL := 5) (ret := (some .int)) (by decide) rfl ?_
  intro p e s m args below meth c s₁ B hml hv
  obtain ⟨rfl, hsz, hP, hK, hD0⟩ := hv
  have hx := B.exec
  have hb := B.bytes
  have hr := B.returns
  have hts := fun w h => atoms_spec (ws := (Cond.code y_M_put b_M_put 5 (some .int) :: wA)) B.pre w (List.mem_cons_of_mem _ h)
  have hown : s.vm.findClass R_M = some m.cls := findClass_of_methodNamed B.named
  have hlocks := B.notSynchronized
  subst hsz
  have hD := hD0.self (sz := s.heap.size)
  have hA : ∀ q : Nat, s.heap.size ≤ q → va_A (wM o cI Fa Aa) s.heap.size q := fun q h => Or.inr h
  have hS : va_S (va_A (wM o cI Fa Aa) s.heap.size) s.heap s.heap [] := va_S.rf
  have hl := lv_entry (([.ref (o 0), .int u1, .int u2, .int u3] : List Value)) (n := 5) (Nat.le_of_ble_eq_true rfl)
  have L3 : ∀ (n : Nat) (x1 : Int32) (x2 : Int32) (x3 : Int32) (x4 : Int32) (F : ST_F) (A : ST_A) (H : Heap) (locs : List Loc) (ls : Array Slot), lv_has ls 5 [(0, .ref (o 0)), (1, .int x1), (2, .int x2), (3, .int x3), (4, .int x4)] → va_P (dC, dI) vC (wM o cI F A) H → va_D (va_A (wM o cI Fa Aa) s.heap.size) (wM o cI F A) → va_S (va_A (wM o cI Fa Aa) s.heap.size) s.heap H locs → f_M_put_L3 n x1 x2 x3 x4 F A = some (r0, F9, A9) → W p l e (headSpec (Cond.code y_M_put b_M_put 5 (some .int) :: wA) ({ frames := 0, cells := 0, slots := 0, locals := 0 } : Room)).room s m ([.ref (o 0), .int u1, .int u2, .int u3] : List Value).toArray below meth c H locs 0 0 (MQ below (cc_Qi (dC, dI) vC [(cI, .int)] (wM o cI Fa Aa) s.heap.size (wM o cI F9 A9) r0) ([.ref (o 0), .int u1, .int u2, .int u3] : List Value).toArray s 0 0 (va_A (wM o cI Fa Aa) s.heap.size)) (F0 m 3 ls []) := by
    intro n
    induction n with
    | zero => intro x1 x2 x3 x4 F A H locs ls hl hP hD hS hf; cases hf
    | succ n ih =>
      intro x1 x2 x3 x4 F A H locs ls hl hP hD hS hf
      rw [f_M_put_L3] at hf
      refine lv_iload hx hb d_M_put_3 (lv_at hl 4 rfl) ?_
      refine lv_aload_n hx hb d_M_put_5 rfl (lv_at hl 0 rfl) ?_
      refine va_get (D := (dC, dI)) (ci := 4) (v := .int (F 3)) (C := R_M) (T := T_M) (N := 29) hx hb hts in_M hown hK hP 0 rfl rfl 9 (by decide) (hts _ mw_512) (fun _ h9 => h9) rfl d_M_put_6 ?_
      refine lv_icmp_ge (tgt := 54) hx hb d_M_put_9 (by decide) (fun h9_1 => ?_) (fun h9_1 => ?_)
      · rw [if_pos h9_1] at hf
        refine lv_aload_n hx hb d_M_put_54 rfl (lv_at hl 0 rfl) ?_
        refine va_get (D := (dC, dI)) (ci := 4) (v := .int (F 3)) (C := R_M) (T := T_M) (N := 29) hx hb hts in_M hown hK hP 0 rfl rfl 9 (by decide) (hts _ mw_512) (fun _ h9 => h9) rfl d_M_put_55 ?_
        refine lv_bipush (v := 100) hx hb d_M_put_58 (by decide) ?_
        refine lv_icmp_ne (tgt := 70) hx hb d_M_put_60 (by decide) (fun h60_2 => ?_) (fun h60_2 => ?_)
        · rw [if_neg h60_2] at hf
          refine lv_aload_n hx hb d_M_put_70 rfl (lv_at hl 0 rfl) ?_
          refine va_get (D := (dC, dI)) (ci := 4) (v := .ref (o 7)) (C := R_M) (T := T_M) (N := 29) hx hb hts in_M hown hK hP 0 rfl rfl 10 (by decide) (hts _ mw_513) (fun _ h9 => h9) rfl d_M_put_71 ?_
          refine lv_aload_n hx hb d_M_put_74 rfl (lv_at hl 0 rfl) ?_
          refine va_get (D := (dC, dI)) (ci := 4) (v := .int (F 3)) (C := R_M) (T := T_M) (N := 29) hx hb hts in_M hown hK hP 0 rfl rfl 9 (by decide) (hts _ mw_512) (fun _ h9 => h9) rfl d_M_put_75 ?_
          refine lv_iload_n hx hb d_M_put_78 rfl (lv_at hl 1 rfl) ?_
          obtain ⟨hi, hf⟩ := ra_g_some hf
          refine va_iast hx hb hK hP hD hS 7 0 rfl rfl hi d_M_put_79 (fun H locs hP hD hS => ?_)
          have hP : va_P (dC, dI) vC [((o 0), .inr (4, [.int (F 0), .int (F 1), .ref (o 1), .int (F 2), .ref (o 2), .ref (o 3), .ref (o 4), .ref (o 5), .ref (o 6), .int (F 3), .ref (o 7), .ref (o 8), .ref (o 9), .ref (o 10), .ref (o 11), .int (F 4), .int (F 5), .int (F 6), .ref (o 12), .ref (o 13), .int (F 7), .ref (o 14), .ref (o 15), .int (F 8), .int (F 9), .ref (o 16), .ref (o 17), .ref (o 18), .ref (o 19)])), ((o 1), .inl (cI, 160, .inl (A 0))), ((o 2), .inl (cI, 100, .inl (A 1))), ((o 3), .inl (cI, 100, .inl (A 2))), ((o 4), .inl (cI, 100, .inl (A 3))), ((o 5), .inl (cI, 3, .inl (A 4))), ((o 6), .inl (cI, 26, .inl (A 5))), ((o 7), .inl (cI, 100, .inl (upd (A 6) (F 3).toNatClampNeg x1))), ((o 8), .inl (cI, 100, .inl (A 7))), ((o 9), .inl (cI, 100, .inl (A 8))), ((o 10), .inl (cI, 26, .inl (A 9))), ((o 11), .inl (cI, 104, .inl (A 10))), ((o 12), .inl (cI, 80, .inl (A 11))), ((o 13), .inl (cI, 320, .inl (A 12))), ((o 14), .inl (cI, 200, .inl (A 13))), ((o 15), .inl (cI, 200, .inl (A 14))), ((o 16), .inl (cI, 4, .inl (A 15))), ((o 17), .inl (cI, 32, .inl (A 16))), ((o 18), .inl (cI, 32, .inl (A 17))), ((o 19), .inl (cI, 100, .inl (A 18)))] H := hP
          have hD : va_D (va_A (wM o cI Fa Aa) s.heap.size) [((o 0), .inr (4, [.int (F 0), .int (F 1), .ref (o 1), .int (F 2), .ref (o 2), .ref (o 3), .ref (o 4), .ref (o 5), .ref (o 6), .int (F 3), .ref (o 7), .ref (o 8), .ref (o 9), .ref (o 10), .ref (o 11), .int (F 4), .int (F 5), .int (F 6), .ref (o 12), .ref (o 13), .int (F 7), .ref (o 14), .ref (o 15), .int (F 8), .int (F 9), .ref (o 16), .ref (o 17), .ref (o 18), .ref (o 19)])), ((o 1), .inl (cI, 160, .inl (A 0))), ((o 2), .inl (cI, 100, .inl (A 1))), ((o 3), .inl (cI, 100, .inl (A 2))), ((o 4), .inl (cI, 100, .inl (A 3))), ((o 5), .inl (cI, 3, .inl (A 4))), ((o 6), .inl (cI, 26, .inl (A 5))), ((o 7), .inl (cI, 100, .inl (upd (A 6) (F 3).toNatClampNeg x1))), ((o 8), .inl (cI, 100, .inl (A 7))), ((o 9), .inl (cI, 100, .inl (A 8))), ((o 10), .inl (cI, 26, .inl (A 9))), ((o 11), .inl (cI, 104, .inl (A 10))), ((o 12), .inl (cI, 80, .inl (A 11))), ((o 13), .inl (cI, 320, .inl (A 12))), ((o 14), .inl (cI, 200, .inl (A 13))), ((o 15), .inl (cI, 200, .inl (A 14))), ((o 16), .inl (cI, 4, .inl (A 15))), ((o 17), .inl (cI, 32, .inl (A 16))), ((o 18), .inl (cI, 32, .inl (A 17))), ((o 19), .inl (cI, 100, .inl (A 18)))] := hD
          refine lv_aload_n hx hb d_M_put_80 rfl (lv_at hl 0 rfl) ?_
          refine va_get (D := (dC, dI)) (ci := 4) (v := .ref (o 8)) (C := R_M) (T := T_M) (N := 29) hx hb hts in_M hown hK hP 0 rfl rfl 11 (by decide) (hts _ mw_514) (fun _ h9 => h9) rfl d_M_put_81 ?_
          refine lv_aload_n hx hb d_M_put_84 rfl (lv_at hl 0 rfl) ?_
          refine va_get (D := (dC, dI)) (ci := 4) (v := .int (F 3)) (C := R_M) (T := T_M) (N := 29) hx hb hts in_M hown hK hP 0 rfl rfl 9 (by decide) (hts _ mw_512) (fun _ h9 => h9) rfl d_M_put_85 ?_
          refine lv_iload_n hx hb d_M_put_88 rfl (lv_at hl 2 rfl) ?_
          obtain ⟨hi, hf⟩ := ra_g_some hf
          refine va_iast hx hb hK hP hD hS 8 0 rfl rfl hi d_M_put_89 (fun H locs hP hD hS => ?_)
          have hP : va_P (dC, dI) vC [((o 0), .inr (4, [.int (F 0), .int (F 1), .ref (o 1), .int (F 2), .ref (o 2), .ref (o 3), .ref (o 4), .ref (o 5), .ref (o 6), .int (F 3), .ref (o 7), .ref (o 8), .ref (o 9), .ref (o 10), .ref (o 11), .int (F 4), .int (F 5), .int (F 6), .ref (o 12), .ref (o 13), .int (F 7), .ref (o 14), .ref (o 15), .int (F 8), .int (F 9), .ref (o 16), .ref (o 17), .ref (o 18), .ref (o 19)])), ((o 1), .inl (cI, 160, .inl (A 0))), ((o 2), .inl (cI, 100, .inl (A 1))), ((o 3), .inl (cI, 100, .inl (A 2))), ((o 4), .inl (cI, 100, .inl (A 3))), ((o 5), .inl (cI, 3, .inl (A 4))), ((o 6), .inl (cI, 26, .inl (A 5))), ((o 7), .inl (cI, 100, .inl (upd (A 6) (F 3).toNatClampNeg x1))), ((o 8), .inl (cI, 100, .inl (upd (A 7) (F 3).toNatClampNeg x2))), ((o 9), .inl (cI, 100, .inl (A 8))), ((o 10), .inl (cI, 26, .inl (A 9))), ((o 11), .inl (cI, 104, .inl (A 10))), ((o 12), .inl (cI, 80, .inl (A 11))), ((o 13), .inl (cI, 320, .inl (A 12))), ((o 14), .inl (cI, 200, .inl (A 13))), ((o 15), .inl (cI, 200, .inl (A 14))), ((o 16), .inl (cI, 4, .inl (A 15))), ((o 17), .inl (cI, 32, .inl (A 16))), ((o 18), .inl (cI, 32, .inl (A 17))), ((o 19), .inl (cI, 100, .inl (A 18)))] H := hP
          have hD : va_D (va_A (wM o cI Fa Aa) s.heap.size) [((o 0), .inr (4, [.int (F 0), .int (F 1), .ref (o 1), .int (F 2), .ref (o 2), .ref (o 3), .ref (o 4), .ref (o 5), .ref (o 6), .int (F 3), .ref (o 7), .ref (o 8), .ref (o 9), .ref (o 10), .ref (o 11), .int (F 4), .int (F 5), .int (F 6), .ref (o 12), .ref (o 13), .int (F 7), .ref (o 14), .ref (o 15), .int (F 8), .int (F 9), .ref (o 16), .ref (o 17), .ref (o 18), .ref (o 19)])), ((o 1), .inl (cI, 160, .inl (A 0))), ((o 2), .inl (cI, 100, .inl (A 1))), ((o 3), .inl (cI, 100, .inl (A 2))), ((o 4), .inl (cI, 100, .inl (A 3))), ((o 5), .inl (cI, 3, .inl (A 4))), ((o 6), .inl (cI, 26, .inl (A 5))), ((o 7), .inl (cI, 100, .inl (upd (A 6) (F 3).toNatClampNeg x1))), ((o 8), .inl (cI, 100, .inl (upd (A 7) (F 3).toNatClampNeg x2))), ((o 9), .inl (cI, 100, .inl (A 8))), ((o 10), .inl (cI, 26, .inl (A 9))), ((o 11), .inl (cI, 104, .inl (A 10))), ((o 12), .inl (cI, 80, .inl (A 11))), ((o 13), .inl (cI, 320, .inl (A 12))), ((o 14), .inl (cI, 200, .inl (A 13))), ((o 15), .inl (cI, 200, .inl (A 14))), ((o 16), .inl (cI, 4, .inl (A 15))), ((o 17), .inl (cI, 32, .inl (A 16))), ((o 18), .inl (cI, 32, .inl (A 17))), ((o 19), .inl (cI, 100, .inl (A 18)))] := hD
          refine lv_aload_n hx hb d_M_put_90 rfl (lv_at hl 0 rfl) ?_
          refine va_get (D := (dC, dI)) (ci := 4) (v := .ref (o 9)) (C := R_M) (T := T_M) (N := 29) hx hb hts in_M hown hK hP 0 rfl rfl 12 (by decide) (hts _ mw_515) (fun _ h9 => h9) rfl d_M_put_91 ?_
          refine lv_aload_n hx hb d_M_put_94 rfl (lv_at hl 0 rfl) ?_
          refine va_get (D := (dC, dI)) (ci := 4) (v := .int (F 3)) (C := R_M) (T := T_M) (N := 29) hx hb hts in_M hown hK hP 0 rfl rfl 9 (by decide) (hts _ mw_512) (fun _ h9 => h9) rfl d_M_put_95 ?_
          refine lv_iload_n hx hb d_M_put_98 rfl (lv_at hl 3 rfl) ?_
          obtain ⟨hi, hf⟩ := ra_g_some hf
          refine va_iast hx hb hK hP hD hS 9 0 rfl rfl hi d_M_put_99 (fun H locs hP hD hS => ?_)
          have hP : va_P (dC, dI) vC [((o 0), .inr (4, [.int (F 0), .int (F 1), .ref (o 1), .int (F 2), .ref (o 2), .ref (o 3), .ref (o 4), .ref (o 5), .ref (o 6), .int (F 3), .ref (o 7), .ref (o 8), .ref (o 9), .ref (o 10), .ref (o 11), .int (F 4), .int (F 5), .int (F 6), .ref (o 12), .ref (o 13), .int (F 7), .ref (o 14), .ref (o 15), .int (F 8), .int (F 9), .ref (o 16), .ref (o 17), .ref (o 18), .ref (o 19)])), ((o 1), .inl (cI, 160, .inl (A 0))), ((o 2), .inl (cI, 100, .inl (A 1))), ((o 3), .inl (cI, 100, .inl (A 2))), ((o 4), .inl (cI, 100, .inl (A 3))), ((o 5), .inl (cI, 3, .inl (A 4))), ((o 6), .inl (cI, 26, .inl (A 5))), ((o 7), .inl (cI, 100, .inl (upd (A 6) (F 3).toNatClampNeg x1))), ((o 8), .inl (cI, 100, .inl (upd (A 7) (F 3).toNatClampNeg x2))), ((o 9), .inl (cI, 100, .inl (upd (A 8) (F 3).toNatClampNeg x3))), ((o 10), .inl (cI, 26, .inl (A 9))), ((o 11), .inl (cI, 104, .inl (A 10))), ((o 12), .inl (cI, 80, .inl (A 11))), ((o 13), .inl (cI, 320, .inl (A 12))), ((o 14), .inl (cI, 200, .inl (A 13))), ((o 15), .inl (cI, 200, .inl (A 14))), ((o 16), .inl (cI, 4, .inl (A 15))), ((o 17), .inl (cI, 32, .inl (A 16))), ((o 18), .inl (cI, 32, .inl (A 17))), ((o 19), .inl (cI, 100, .inl (A 18)))] H := hP
          have hD : va_D (va_A (wM o cI Fa Aa) s.heap.size) [((o 0), .inr (4, [.int (F 0), .int (F 1), .ref (o 1), .int (F 2), .ref (o 2), .ref (o 3), .ref (o 4), .ref (o 5), .ref (o 6), .int (F 3), .ref (o 7), .ref (o 8), .ref (o 9), .ref (o 10), .ref (o 11), .int (F 4), .int (F 5), .int (F 6), .ref (o 12), .ref (o 13), .int (F 7), .ref (o 14), .ref (o 15), .int (F 8), .int (F 9), .ref (o 16), .ref (o 17), .ref (o 18), .ref (o 19)])), ((o 1), .inl (cI, 160, .inl (A 0))), ((o 2), .inl (cI, 100, .inl (A 1))), ((o 3), .inl (cI, 100, .inl (A 2))), ((o 4), .inl (cI, 100, .inl (A 3))), ((o 5), .inl (cI, 3, .inl (A 4))), ((o 6), .inl (cI, 26, .inl (A 5))), ((o 7), .inl (cI, 100, .inl (upd (A 6) (F 3).toNatClampNeg x1))), ((o 8), .inl (cI, 100, .inl (upd (A 7) (F 3).toNatClampNeg x2))), ((o 9), .inl (cI, 100, .inl (upd (A 8) (F 3).toNatClampNeg x3))), ((o 10), .inl (cI, 26, .inl (A 9))), ((o 11), .inl (cI, 104, .inl (A 10))), ((o 12), .inl (cI, 80, .inl (A 11))), ((o 13), .inl (cI, 320, .inl (A 12))), ((o 14), .inl (cI, 200, .inl (A 13))), ((o 15), .inl (cI, 200, .inl (A 14))), ((o 16), .inl (cI, 4, .inl (A 15))), ((o 17), .inl (cI, 32, .inl (A 16))), ((o 18), .inl (cI, 32, .inl (A 17))), ((o 19), .inl (cI, 100, .inl (A 18)))] := hD
          refine lv_aload_n hx hb d_M_put_100 rfl (lv_at hl 0 rfl) ?_
          refine lv_dup hx hb d_M_put_101 rfl ?_
          refine va_get (D := (dC, dI)) (ci := 4) (v := .int (F 3)) (C := R_M) (T := T_M) (N := 29) hx hb hts in_M hown hK hP 0 rfl rfl 9 (by decide) (hts _ mw_512) (fun _ h9 => h9) rfl d_M_put_102 ?_
          refine lv_iconst (v := 1) hx hb d_M_put_105 (by decide) ?_
          refine lv_iadd hx hb d_M_put_106 ?_
          refine va_put (D := (dC, dI)) (ci := 4) (v := .int ((F 3) + (1 : Int32))) (ty := .int) (C := R_M) (T := T_M) (N := 29) hx hb hts in_M ty_M ty_M_ok nm_M hown hK hP hD hS 0 rfl rfl 9 (by decide) (hts _ mw_512) (fun _ h9 => h9) rfl (by decide +kernel) rfl rfl (Nat.le_of_ble_eq_true rfl) d_M_put_107 (fun H locs hP hD hS => ?_)
          have hP : va_P (dC, dI) vC [((o 0), .inr (4, [.int (F 0), .int (F 1), .ref (o 1), .int (F 2), .ref (o 2), .ref (o 3), .ref (o 4), .ref (o 5), .ref (o 6), .int ((F 3) + (1 : Int32)), .ref (o 7), .ref (o 8), .ref (o 9), .ref (o 10), .ref (o 11), .int (F 4), .int (F 5), .int (F 6), .ref (o 12), .ref (o 13), .int (F 7), .ref (o 14), .ref (o 15), .int (F 8), .int (F 9), .ref (o 16), .ref (o 17), .ref (o 18), .ref (o 19)])), ((o 1), .inl (cI, 160, .inl (A 0))), ((o 2), .inl (cI, 100, .inl (A 1))), ((o 3), .inl (cI, 100, .inl (A 2))), ((o 4), .inl (cI, 100, .inl (A 3))), ((o 5), .inl (cI, 3, .inl (A 4))), ((o 6), .inl (cI, 26, .inl (A 5))), ((o 7), .inl (cI, 100, .inl (upd (A 6) (F 3).toNatClampNeg x1))), ((o 8), .inl (cI, 100, .inl (upd (A 7) (F 3).toNatClampNeg x2))), ((o 9), .inl (cI, 100, .inl (upd (A 8) (F 3).toNatClampNeg x3))), ((o 10), .inl (cI, 26, .inl (A 9))), ((o 11), .inl (cI, 104, .inl (A 10))), ((o 12), .inl (cI, 80, .inl (A 11))), ((o 13), .inl (cI, 320, .inl (A 12))), ((o 14), .inl (cI, 200, .inl (A 13))), ((o 15), .inl (cI, 200, .inl (A 14))), ((o 16), .inl (cI, 4, .inl (A 15))), ((o 17), .inl (cI, 32, .inl (A 16))), ((o 18), .inl (cI, 32, .inl (A 17))), ((o 19), .inl (cI, 100, .inl (A 18)))] H := hP
          have hD : va_D (va_A (wM o cI Fa Aa) s.heap.size) [((o 0), .inr (4, [.int (F 0), .int (F 1), .ref (o 1), .int (F 2), .ref (o 2), .ref (o 3), .ref (o 4), .ref (o 5), .ref (o 6), .int ((F 3) + (1 : Int32)), .ref (o 7), .ref (o 8), .ref (o 9), .ref (o 10), .ref (o 11), .int (F 4), .int (F 5), .int (F 6), .ref (o 12), .ref (o 13), .int (F 7), .ref (o 14), .ref (o 15), .int (F 8), .int (F 9), .ref (o 16), .ref (o 17), .ref (o 18), .ref (o 19)])), ((o 1), .inl (cI, 160, .inl (A 0))), ((o 2), .inl (cI, 100, .inl (A 1))), ((o 3), .inl (cI, 100, .inl (A 2))), ((o 4), .inl (cI, 100, .inl (A 3))), ((o 5), .inl (cI, 3, .inl (A 4))), ((o 6), .inl (cI, 26, .inl (A 5))), ((o 7), .inl (cI, 100, .inl (upd (A 6) (F 3).toNatClampNeg x1))), ((o 8), .inl (cI, 100, .inl (upd (A 7) (F 3).toNatClampNeg x2))), ((o 9), .inl (cI, 100, .inl (upd (A 8) (F 3).toNatClampNeg x3))), ((o 10), .inl (cI, 26, .inl (A 9))), ((o 11), .inl (cI, 104, .inl (A 10))), ((o 12), .inl (cI, 80, .inl (A 11))), ((o 13), .inl (cI, 320, .inl (A 12))), ((o 14), .inl (cI, 200, .inl (A 13))), ((o 15), .inl (cI, 200, .inl (A 14))), ((o 16), .inl (cI, 4, .inl (A 15))), ((o 17), .inl (cI, 32, .inl (A 16))), ((o 18), .inl (cI, 32, .inl (A 17))), ((o 19), .inl (cI, 100, .inl (A 18)))] := hD
          refine lv_aload_n hx hb d_M_put_110 rfl (lv_at hl 0 rfl) ?_
          refine va_get (D := (dC, dI)) (ci := 4) (v := .int ((F 3) + (1 : Int32))) (C := R_M) (T := T_M) (N := 29) hx hb hts in_M hown hK hP 0 rfl rfl 9 (by decide) (hts _ mw_512) (fun _ h9 => h9) rfl d_M_put_111 ?_
          refine lv_iconst (v := 1) hx hb d_M_put_114 (by decide) ?_
          refine lv_isub hx hb d_M_put_115 ?_
          cases hf
          exact W.iret hx hb hr (fun t ht hW => ⟨⟨_, (), rfl, rfl, by rw [ht]; exact hP, va_K.moved hW.alike hK, hD⟩, hS.F ht⟩) hS.2.2 d_M_put_116
        · rw [if_pos h60_2] at hf
          refine lv_aload_n hx hb d_M_put_63 rfl (lv_at hl 0 rfl) ?_
          refine lv_iconst (v := 1) hx hb d_M_put_64 (by decide) ?_
          refine va_put (D := (dC, dI)) (ci := 4) (v := .int (1 : Int32)) (ty := .boolean) (C := R_M) (T := T_M) (N := 29) hx hb hts in_M ty_M ty_M_ok nm_M hown hK hP hD hS 0 rfl rfl 16 (by decide) (hts _ mw_519) (fun _ h9 => h9) rfl (by decide +kernel) rfl rfl (Nat.le_of_ble_eq_true rfl) d_M_put_65 (fun H locs hP hD hS => ?_)
          have hP : va_P (dC, dI) vC [((o 0), .inr (4, [.int (F 0), .int (F 1), .ref (o 1), .int (F 2), .ref (o 2), .ref (o 3), .ref (o 4), .ref (o 5), .ref (o 6), .int (F 3), .ref (o 7), .ref (o 8), .ref (o 9), .ref (o 10), .ref (o 11), .int (F 4), .int (1 : Int32), .int (F 6), .ref (o 12), .ref (o 13), .int (F 7), .ref (o 14), .ref (o 15), .int (F 8), .int (F 9), .ref (o 16), .ref (o 17), .ref (o 18), .ref (o 19)])), ((o 1), .inl (cI, 160, .inl (A 0))), ((o 2), .inl (cI, 100, .inl (A 1))), ((o 3), .inl (cI, 100, .inl (A 2))), ((o 4), .inl (cI, 100, .inl (A 3))), ((o 5), .inl (cI, 3, .inl (A 4))), ((o 6), .inl (cI, 26, .inl (A 5))), ((o 7), .inl (cI, 100, .inl (A 6))), ((o 8), .inl (cI, 100, .inl (A 7))), ((o 9), .inl (cI, 100, .inl (A 8))), ((o 10), .inl (cI, 26, .inl (A 9))), ((o 11), .inl (cI, 104, .inl (A 10))), ((o 12), .inl (cI, 80, .inl (A 11))), ((o 13), .inl (cI, 320, .inl (A 12))), ((o 14), .inl (cI, 200, .inl (A 13))), ((o 15), .inl (cI, 200, .inl (A 14))), ((o 16), .inl (cI, 4, .inl (A 15))), ((o 17), .inl (cI, 32, .inl (A 16))), ((o 18), .inl (cI, 32, .inl (A 17))), ((o 19), .inl (cI, 100, .inl (A 18)))] H := hP
          have hD : va_D (va_A (wM o cI Fa Aa) s.heap.size) [((o 0), .inr (4, [.int (F 0), .int (F 1), .ref (o 1), .int (F 2), .ref (o 2), .ref (o 3), .ref (o 4), .ref (o 5), .ref (o 6), .int (F 3), .ref (o 7), .ref (o 8), .ref (o 9), .ref (o 10), .ref (o 11), .int (F 4), .int (1 : Int32), .int (F 6), .ref (o 12), .ref (o 13), .int (F 7), .ref (o 14), .ref (o 15), .int (F 8), .int (F 9), .ref (o 16), .ref (o 17), .ref (o 18), .ref (o 19)])), ((o 1), .inl (cI, 160, .inl (A 0))), ((o 2), .inl (cI, 100, .inl (A 1))), ((o 3), .inl (cI, 100, .inl (A 2))), ((o 4), .inl (cI, 100, .inl (A 3))), ((o 5), .inl (cI, 3, .inl (A 4))), ((o 6), .inl (cI, 26, .inl (A 5))), ((o 7), .inl (cI, 100, .inl (A 6))), ((o 8), .inl (cI, 100, .inl (A 7))), ((o 9), .inl (cI, 100, .inl (A 8))), ((o 10), .inl (cI, 26, .inl (A 9))), ((o 11), .inl (cI, 104, .inl (A 10))), ((o 12), .inl (cI, 80, .inl (A 11))), ((o 13), .inl (cI, 320, .inl (A 12))), ((o 14), .inl (cI, 200, .inl (A 13))), ((o 15), .inl (cI, 200, .inl (A 14))), ((o 16), .inl (cI, 4, .inl (A 15))), ((o 17), .inl (cI, 32, .inl (A 16))), ((o 18), .inl (cI, 32, .inl (A 17))), ((o 19), .inl (cI, 100, .inl (A 18)))] := hD
          refine lv_iconst (v := 0) hx hb d_M_put_68 (by decide) ?_
          cases hf
          exact W.iret hx hb hr (fun t ht hW => ⟨⟨_, (), rfl, rfl, by rw [ht]; exact hP, va_K.moved hW.alike hK, hD⟩, hS.F ht⟩) hS.2.2 d_M_put_69
      · rw [if_neg h9_1] at hf
        refine lv_aload_n hx hb d_M_put_12 rfl (lv_at hl 0 rfl) ?_
        refine va_get (D := (dC, dI)) (ci := 4) (v := .ref (o 7)) (C := R_M) (T := T_M) (N := 29) hx hb hts in_M hown hK hP 0 rfl rfl 10 (by decide) (hts _ mw_513) (fun _ h9 => h9) rfl d_M_put_13 ?_
        refine lv_iload hx hb d_M_put_16 (lv_at hl 4 rfl) ?_
        obtain ⟨hi, hf⟩ := ra_g_some hf
        refine va_iald hx hb hK hP 7 0 rfl rfl hi d_M_put_18 ?_
        refine lv_iload_n hx hb d_M_put_19 rfl (lv_at hl 1 rfl) ?_
        refine lv_icmp_ne (tgt := 48) hx hb d_M_put_20 (by decide) (fun h20_3 => ?_) (fun h20_3 => ?_)
        · rw [if_neg h20_3] at hf
          refine lv_iinc (k := 4) (v := (x4 + (1 : Int32))) hx hb d_M_put_48 hl rfl (by rfl) (by decide) rfl (fun ls hl => ?_)
          have hl : lv_has ls 5 [(4, .int (x4 + (1 : Int32))), (0, .ref (o 0)), (1, .int x1), (2, .int x2), (3, .int x3)] := hl
          refine lv_goto (tgt := 3) hx hb d_M_put_51 (by decide) ?_
          have hl : lv_has ls 5 [(0, .ref (o 0)), (1, .int x1), (2, .int x2), (3, .int x3), (4, .int (x4 + (1 : Int32)))] := lv_sub hl [1, 2, 3, 4, 0] rfl
          exact ih x1 x2 x3 (x4 + (1 : Int32)) F A _ _ _ hl hP hD hS hf
        · rw [if_pos h20_3] at hf
          refine lv_aload_n hx hb d_M_put_23 rfl (lv_at hl 0 rfl) ?_
          refine va_get (D := (dC, dI)) (ci := 4) (v := .ref (o 8)) (C := R_M) (T := T_M) (N := 29) hx hb hts in_M hown hK hP 0 rfl rfl 11 (by decide) (hts _ mw_514) (fun _ h9 => h9) rfl d_M_put_24 ?_
          refine lv_iload hx hb d_M_put_27 (lv_at hl 4 rfl) ?_
          obtain ⟨hi, hf⟩ := ra_g_some hf
          refine va_iald hx hb hK hP 8 0 rfl rfl hi d_M_put_29 ?_
          refine lv_iload_n hx hb d_M_put_30 rfl (lv_at hl 2 rfl) ?_
          refine lv_icmp_ne (tgt := 48) hx hb d_M_put_31 (by decide) (fun h31_4 => ?_) (fun h31_4 => ?_)
          · rw [if_neg h31_4] at hf
            refine lv_iinc (k := 4) (v := (x4 + (1 : Int32))) hx hb d_M_put_48 hl rfl (by rfl) (by decide) rfl (fun ls hl => ?_)
            have hl : lv_has ls 5 [(4, .int (x4 + (1 : Int32))), (0, .ref (o 0)), (1, .int x1), (2, .int x2), (3, .int x3)] := hl
            refine lv_goto (tgt := 3) hx hb d_M_put_51 (by decide) ?_
            have hl : lv_has ls 5 [(0, .ref (o 0)), (1, .int x1), (2, .int x2), (3, .int x3), (4, .int (x4 + (1 : Int32)))] := lv_sub hl [1, 2, 3, 4, 0] rfl
            exact ih x1 x2 x3 (x4 + (1 : Int32)) F A _ _ _ hl hP hD hS hf
          · rw [if_pos h31_4] at hf
            refine lv_aload_n hx hb d_M_put_34 rfl (lv_at hl 0 rfl) ?_
            refine va_get (D := (dC, dI)) (ci := 4) (v := .ref (o 9)) (C := R_M) (T := T_M) (N := 29) hx hb hts in_M hown hK hP 0 rfl rfl 12 (by decide) (hts _ mw_515) (fun _ h9 => h9) rfl d_M_put_35 ?_
            refine lv_iload hx hb d_M_put_38 (lv_at hl 4 rfl) ?_
            obtain ⟨hi, hf⟩ := ra_g_some hf
            refine va_iald hx hb hK hP 9 0 rfl rfl hi d_M_put_40 ?_
            refine lv_iload_n hx hb d_M_put_41 rfl (lv_at hl 3 rfl) ?_
            refine lv_icmp_ne (tgt := 48) hx hb d_M_put_42 (by decide) (fun h42_5 => ?_) (fun h42_5 => ?_)
            · rw [if_neg h42_5] at hf
              refine lv_iinc (k := 4) (v := (x4 + (1 : Int32))) hx hb d_M_put_48 hl rfl (by rfl) (by decide) rfl (fun ls hl => ?_)
              have hl : lv_has ls 5 [(4, .int (x4 + (1 : Int32))), (0, .ref (o 0)), (1, .int x1), (2, .int x2), (3, .int x3)] := hl
              refine lv_goto (tgt := 3) hx hb d_M_put_51 (by decide) ?_
              have hl : lv_has ls 5 [(0, .ref (o 0)), (1, .int x1), (2, .int x2), (3, .int x3), (4, .int (x4 + (1 : Int32)))] := lv_sub hl [1, 2, 3, 4, 0] rfl
              exact ih x1 x2 x3 (x4 + (1 : Int32)) F A _ _ _ hl hP hD hS hf
            · rw [if_pos h42_5] at hf
              refine lv_iload hx hb d_M_put_45 (lv_at hl 4 rfl) ?_
              cases hf
              exact W.iret hx hb hr (fun t ht hW => ⟨⟨_, (), rfl, rfl, by rw [ht]; exact hP, va_K.moved hW.alike hK, hD⟩, hS.F ht⟩) hS.2.2 d_M_put_47
  rw [lg_entry_eq]
  generalize (lg_sl (([.ref (o 0), .int u1, .int u2, .int u3] : List Value)) ++ List.replicate (5 - (lg_sl (([.ref (o 0), .int u1, .int u2, .int u3] : List Value))).length) Slot.unset).toArray = ls at hl ⊢
  have hl : lv_has ls 5 [(0, .ref (o 0)), (1, .int u1), (2, .int u2), (3, .int u3)] := hl
  unfold f_M_put at hf
  refine lv_iconst (v := 0) hx hb d_M_put_0 (by decide) ?_
  refine lv_istore hx hb d_M_put_1 hl (by decide) rfl (fun ls hl => ?_)
  have hl : lv_has ls 5 [(4, .int (0 : Int32)), (0, .ref (o 0)), (1, .int u1), (2, .int u2), (3, .int u3)] := hl
  have hl : lv_has ls 5 [(0, .ref (o 0)), (1, .int u1), (2, .int u2), (3, .int u3), (4, .int (0 : Int32))] := lv_sub hl [1, 2, 3, 4, 0] rfl
  exact L3 400 u1 u2 u3 (0 : Int32) Fa Aa _ _ _ hl hP hD hS hf
def f_M_push (u1 : Int32) (Fa : ST_F) (Aa : ST_A) : Option (ST_F × ST_A) := ra_g (Fa 6) 80 (some ((upd Fa 6 ((Fa 6) + (1 : Int32))), (va_up Aa 11 (upd (Aa 11) (Fa 6).toNatClampNeg u1))))
set_option maxHeartbeats 4000000 in
set_option maxRecDepth 100000 in
theorem k_M_push (l : Launch) (dC : Nat → ClassId) (dI : Nat → Nat → Nat) (o : Nat → Nat) (cI : ClassId) (sz : Nat) (Fa : ST_F) (Aa : ST_A) (u1 : Int32) (F9 : ST_F) (A9 : ST_A) (hf : f_M_push u1 Fa Aa = some (F9, A9)) : cc_MetV l y_M_push (Cond.code y_M_push b_M_push 2 none :: wA) ({ frames := 0, cells := 0, slots := 0, locals := 0 } : Room) (dC, dI) vC [(cI, .int)] ([.ref (o 0), .int u1] : List Value) (wM o cI Fa Aa) sz (wM o cI F9 A9) := by
  refine Met.ofW (cc := b_M_push) (maxL := 2) (ret := none) (by decide) rfl ?_
  intro p e s m args below meth c s₁ B hml hv
  obtain ⟨rfl, hsz, hP, hK, hD0⟩ := hv
  have hx := B.exec
  have hb := B.bytes
  have hr := B.returns
  have hts := fun w h => atoms_spec (ws := (Cond.code y_M_push b_M_push 2 none :: wA)) B.pre w (List.mem_cons_of_mem _ h)
  have hown : s.vm.findClass R_M = some m.cls := findClass_of_methodNamed B.named
  have hlocks := B.notSynchronized
  subst hsz
  have hD := hD0.self (sz := s.heap.size)
  have hA : ∀ q : Nat, s.heap.size ≤ q → va_A (wM o cI Fa Aa) s.heap.size q := fun q h => Or.inr h
  have hS : va_S (va_A (wM o cI Fa Aa) s.heap.size) s.heap s.heap [] := va_S.rf
  have hl := lv_entry (([.ref (o 0), .int u1] : List Value)) (n := 2) (Nat.le_of_ble_eq_true rfl)
  rw [lg_entry_eq]
  generalize (lg_sl (([.ref (o 0), .int u1] : List Value)) ++ List.replicate (2 - (lg_sl (([.ref (o 0), .int u1] : List Value))).length) Slot.unset).toArray = ls at hl ⊢
  have hl : lv_has ls 2 [(0, .ref (o 0)), (1, .int u1)] := hl
  unfold f_M_push at hf
  refine lv_aload_n hx hb d_M_push_0 rfl (lv_at hl 0 rfl) ?_
  refine va_get (D := (dC, dI)) (ci := 4) (v := .ref (o 12)) (C := R_M) (T := T_M) (N := 29) hx hb hts in_M hown hK hP 0 rfl rfl 18 (by decide) (hts _ mw_521) (fun _ h9 => h9) rfl d_M_push_1 ?_
  refine lv_aload_n hx hb d_M_push_4 rfl (lv_at hl 0 rfl) ?_
  refine va_get (D := (dC, dI)) (ci := 4) (v := .int (Fa 6)) (C := R_M) (T := T_M) (N := 29) hx hb hts in_M hown hK hP 0 rfl rfl 17 (by decide) (hts _ mw_520) (fun _ h9 => h9) rfl d_M_push_5 ?_
  refine lv_iload_n hx hb d_M_push_8 rfl (lv_at hl 1 rfl) ?_
  obtain ⟨hi, hf⟩ := ra_g_some hf
  refine va_iast hx hb hK hP hD hS 12 0 rfl rfl hi d_M_push_9 (fun H locs hP hD hS => ?_)
  have hP : va_P (dC, dI) vC [((o 0), .inr (4, [.int (Fa 0), .int (Fa 1), .ref (o 1), .int (Fa 2), .ref (o 2), .ref (o 3), .ref (o 4), .ref (o 5), .ref (o 6), .int (Fa 3), .ref (o 7), .ref (o 8), .ref (o 9), .ref (o 10), .ref (o 11), .int (Fa 4), .int (Fa 5), .int (Fa 6), .ref (o 12), .ref (o 13), .int (Fa 7), .ref (o 14), .ref (o 15), .int (Fa 8), .int (Fa 9), .ref (o 16), .ref (o 17), .ref (o 18), .ref (o 19)])), ((o 1), .inl (cI, 160, .inl (Aa 0))), ((o 2), .inl (cI, 100, .inl (Aa 1))), ((o 3), .inl (cI, 100, .inl (Aa 2))), ((o 4), .inl (cI, 100, .inl (Aa 3))), ((o 5), .inl (cI, 3, .inl (Aa 4))), ((o 6), .inl (cI, 26, .inl (Aa 5))), ((o 7), .inl (cI, 100, .inl (Aa 6))), ((o 8), .inl (cI, 100, .inl (Aa 7))), ((o 9), .inl (cI, 100, .inl (Aa 8))), ((o 10), .inl (cI, 26, .inl (Aa 9))), ((o 11), .inl (cI, 104, .inl (Aa 10))), ((o 12), .inl (cI, 80, .inl (upd (Aa 11) (Fa 6).toNatClampNeg u1))), ((o 13), .inl (cI, 320, .inl (Aa 12))), ((o 14), .inl (cI, 200, .inl (Aa 13))), ((o 15), .inl (cI, 200, .inl (Aa 14))), ((o 16), .inl (cI, 4, .inl (Aa 15))), ((o 17), .inl (cI, 32, .inl (Aa 16))), ((o 18), .inl (cI, 32, .inl (Aa 17))), ((o 19), .inl (cI, 100, .inl (Aa 18)))] H := hP
  have hD : va_D (va_A (wM o cI Fa Aa) s.heap.size) [((o 0), .inr (4, [.int (Fa 0), .int (Fa 1), .ref (o 1), .int (Fa 2), .ref (o 2), .ref (o 3), .ref (o 4), .ref (o 5), .ref (o 6), .int (Fa 3), .ref (o 7), .ref (o 8), .ref (o 9), .ref (o 10), .ref (o 11), .int (Fa 4), .int (Fa 5), .int (Fa 6), .ref (o 12), .ref (o 13), .int (Fa 7), .ref (o 14), .ref (o 15), .int (Fa 8), .int (Fa 9), .ref (o 16), .ref (o 17), .ref (o 18), .ref (o 19)])), ((o 1), .inl (cI, 160, .inl (Aa 0))), ((o 2), .inl (cI, 100, .inl (Aa 1))), ((o 3), .inl (cI, 100, .inl (Aa 2))), ((o 4), .inl (cI, 100, .inl (Aa 3))), ((o 5), .inl (cI, 3, .inl (Aa 4))), ((o 6), .inl (cI, 26, .inl (Aa 5))), ((o 7), .inl (cI, 100, .inl (Aa 6))), ((o 8), .inl (cI, 100, .inl (Aa 7))), ((o 9), .inl (cI, 100, .inl (Aa 8))), ((o 10), .inl (cI, 26, .inl (Aa 9))), ((o 11), .inl (cI, 104, .inl (Aa 10))), ((o 12), .inl (cI, 80, .inl (upd (Aa 11) (Fa 6).toNatClampNeg u1))), ((o 13), .inl (cI, 320, .inl (Aa 12))), ((o 14), .inl (cI, 200, .inl (Aa 13))), ((o 15), .inl (cI, 200, .inl (Aa 14))), ((o 16), .inl (cI, 4, .inl (Aa 15))), ((o 17), .inl (cI, 32, .inl (Aa 16))), ((o 18), .inl (cI, 32, .inl (Aa 17))), ((o 19), .inl (cI, 100, .inl (Aa 18)))] := hD
  refine lv_aload_n hx hb d_M_push_10 rfl (lv_at hl 0 rfl) ?_
  refine lv_dup hx hb d_M_push_11 rfl ?_
  refine va_get (D := (dC, dI)) (ci := 4) (v := .int (Fa 6)) (C := R_M) (T := T_M) (N := 29) hx hb hts in_M hown hK hP 0 rfl rfl 17 (by decide) (hts _ mw_520) (fun _ h9 => h9) rfl d_M_push_12 ?_
  refine lv_iconst (v := 1) hx hb d_M_push_15 (by decide) ?_
  refine lv_iadd hx hb d_M_push_16 ?_
  refine va_put (D := (dC, dI)) (ci := 4) (v := .int ((Fa 6) + (1 : Int32))) (ty := .int) (C := R_M) (T := T_M) (N := 29) hx hb hts in_M ty_M ty_M_ok nm_M hown hK hP hD hS 0 rfl rfl 17 (by decide) (hts _ mw_520) (fun _ h9 => h9) rfl (by decide +kernel) rfl rfl (Nat.le_of_ble_eq_true rfl) d_M_push_17 (fun H locs hP hD hS => ?_)
  have hP : va_P (dC, dI) vC [((o 0), .inr (4, [.int (Fa 0), .int (Fa 1), .ref (o 1), .int (Fa 2), .ref (o 2), .ref (o 3), .ref (o 4), .ref (o 5), .ref (o 6), .int (Fa 3), .ref (o 7), .ref (o 8), .ref (o 9), .ref (o 10), .ref (o 11), .int (Fa 4), .int (Fa 5), .int ((Fa 6) + (1 : Int32)), .ref (o 12), .ref (o 13), .int (Fa 7), .ref (o 14), .ref (o 15), .int (Fa 8), .int (Fa 9), .ref (o 16), .ref (o 17), .ref (o 18), .ref (o 19)])), ((o 1), .inl (cI, 160, .inl (Aa 0))), ((o 2), .inl (cI, 100, .inl (Aa 1))), ((o 3), .inl (cI, 100, .inl (Aa 2))), ((o 4), .inl (cI, 100, .inl (Aa 3))), ((o 5), .inl (cI, 3, .inl (Aa 4))), ((o 6), .inl (cI, 26, .inl (Aa 5))), ((o 7), .inl (cI, 100, .inl (Aa 6))), ((o 8), .inl (cI, 100, .inl (Aa 7))), ((o 9), .inl (cI, 100, .inl (Aa 8))), ((o 10), .inl (cI, 26, .inl (Aa 9))), ((o 11), .inl (cI, 104, .inl (Aa 10))), ((o 12), .inl (cI, 80, .inl (upd (Aa 11) (Fa 6).toNatClampNeg u1))), ((o 13), .inl (cI, 320, .inl (Aa 12))), ((o 14), .inl (cI, 200, .inl (Aa 13))), ((o 15), .inl (cI, 200, .inl (Aa 14))), ((o 16), .inl (cI, 4, .inl (Aa 15))), ((o 17), .inl (cI, 32, .inl (Aa 16))), ((o 18), .inl (cI, 32, .inl (Aa 17))), ((o 19), .inl (cI, 100, .inl (Aa 18)))] H := hP
  have hD : va_D (va_A (wM o cI Fa Aa) s.heap.size) [((o 0), .inr (4, [.int (Fa 0), .int (Fa 1), .ref (o 1), .int (Fa 2), .ref (o 2), .ref (o 3), .ref (o 4), .ref (o 5), .ref (o 6), .int (Fa 3), .ref (o 7), .ref (o 8), .ref (o 9), .ref (o 10), .ref (o 11), .int (Fa 4), .int (Fa 5), .int ((Fa 6) + (1 : Int32)), .ref (o 12), .ref (o 13), .int (Fa 7), .ref (o 14), .ref (o 15), .int (Fa 8), .int (Fa 9), .ref (o 16), .ref (o 17), .ref (o 18), .ref (o 19)])), ((o 1), .inl (cI, 160, .inl (Aa 0))), ((o 2), .inl (cI, 100, .inl (Aa 1))), ((o 3), .inl (cI, 100, .inl (Aa 2))), ((o 4), .inl (cI, 100, .inl (Aa 3))), ((o 5), .inl (cI, 3, .inl (Aa 4))), ((o 6), .inl (cI, 26, .inl (Aa 5))), ((o 7), .inl (cI, 100, .inl (Aa 6))), ((o 8), .inl (cI, 100, .inl (Aa 7))), ((o 9), .inl (cI, 100, .inl (Aa 8))), ((o 10), .inl (cI, 26, .inl (Aa 9))), ((o 11), .inl (cI, 104, .inl (Aa 10))), ((o 12), .inl (cI, 80, .inl (upd (Aa 11) (Fa 6).toNatClampNeg u1))), ((o 13), .inl (cI, 320, .inl (Aa 12))), ((o 14), .inl (cI, 200, .inl (Aa 13))), ((o 15), .inl (cI, 200, .inl (Aa 14))), ((o 16), .inl (cI, 4, .inl (Aa 15))), ((o 17), .inl (cI, 32, .inl (Aa 16))), ((o 18), .inl (cI, 32, .inl (Aa 17))), ((o 19), .inl (cI, 100, .inl (Aa 18)))] := hD
  cases hf
  exact W.vret hx hb hr (fun t ht hW => ⟨⟨(), rfl, trivial, by rw [ht]; exact hP, va_K.moved hW.alike hK, hD⟩, hS.F ht⟩) hS.2.2 d_M_push_20
def f_M_pushMade_L2 : Nat → Int32 → Int32 → ST_F → ST_A → Option (ST_F × ST_A)
  | 0, _, _, _, _ => none
  | n + 1, x1, x2, F, A => if x1 ≤ x2 then (ra_bv (f_M_push x1 F A) (fun F2 A2 => some (F2, A2))) else (ra_g x2 4 (ra_g (((4 : Int32) * (F 6)) + x2) 320 (f_M_pushMade_L2 n x1 (x2 + (1 : Int32)) F (va_up A 12 (upd (A 12) (((4 : Int32) * (F 6)) + x2).toNatClampNeg ((A 15) x2.toNatClampNeg))))))
def f_M_pushMade (u1 : Int32) (Fa : ST_F) (Aa : ST_A) : Option (ST_F × ST_A) := f_M_pushMade_L2 400 u1 (0 : Int32) Fa Aa
set_option maxHeartbeats 4000000 in
set_option maxRecDepth 100000 in
theorem k_M_pushMade (l : Launch) (dC : Nat → ClassId) (dI : Nat → Nat → Nat) (o : Nat → Nat) (cI : ClassId) (sz : Nat) (Fa : ST_F) (Aa : ST_A) (u1 : Int32) (F9 : ST_F) (A9 : ST_A) (hf : f_M_pushMade u1 Fa Aa = some (F9, A9)) : cc_MetV l y_M_pushMade (Cond.code y_M_pushMade b_M_pushMade 3 none :: wA) ({ frames := 1, cells := 0, slots := 0, locals := 21 } : Room) (dC, dI) vC [(cI, .int)] ([.ref (o 0), .int u1] : List Value) (wM o cI Fa Aa) sz (wM o cI F9 A9) := by
  refine Met.ofW (cc := b_M_pushMade) (maxL := 3) (ret := none) (by decide) rfl ?_
  intro p e s m args below meth c s₁ B hml hv
  obtain ⟨rfl, hsz, hP, hK, hD0⟩ := hv
  have hx := B.exec
  have hb := B.bytes
  have hr := B.returns
  have hts := fun w h => atoms_spec (ws := (Cond.code y_M_pushMade b_M_pushMade 3 none :: wA)) B.pre w (List.mem_cons_of_mem _ h)
  have hown : s.vm.findClass R_M = some m.cls := findClass_of_methodNamed B.named
  have hlocks := B.notSynchronized
  subst hsz
  have hD := hD0.self (sz := s.heap.size)
  have hA : ∀ q : Nat, s.heap.size ≤ q → va_A (wM o cI Fa Aa) s.heap.size q := fun q h => Or.inr h
  have hS : va_S (va_A (wM o cI Fa Aa) s.heap.size) s.heap s.heap [] := va_S.rf
  have hl := lv_entry (([.ref (o 0), .int u1] : List Value)) (n := 3) (Nat.le_of_ble_eq_true rfl)
  have L2 : ∀ (n : Nat) (x1 : Int32) (x2 : Int32) (F : ST_F) (A : ST_A) (H : Heap) (locs : List Loc) (ls : Array Slot), lv_has ls 3 [(0, .ref (o 0)), (1, .int x1), (2, .int x2)] → va_P (dC, dI) vC (wM o cI F A) H → va_D (va_A (wM o cI Fa Aa) s.heap.size) (wM o cI F A) → va_S (va_A (wM o cI Fa Aa) s.heap.size) s.heap H locs → f_M_pushMade_L2 n x1 x2 F A = some (F9, A9) → W p l e (headSpec (Cond.code y_M_pushMade b_M_pushMade 3 none :: wA) ({ frames := 1, cells := 0, slots := 0, locals := 21 } : Room)).room s m ([.ref (o 0), .int u1] : List Value).toArray below meth c H locs 0 0 (MQ below (cc_Qv (dC, dI) vC [(cI, .int)] (wM o cI Fa Aa) s.heap.size (wM o cI F9 A9)) ([.ref (o 0), .int u1] : List Value).toArray s 0 0 (va_A (wM o cI Fa Aa) s.heap.size)) (F0 m 2 ls []) := by
    intro n
    induction n with
    | zero => intro x1 x2 F A H locs ls hl hP hD hS hf; cases hf
    | succ n ih =>
      intro x1 x2 F A H locs ls hl hP hD hS hf
      rw [f_M_pushMade_L2] at hf
      refine lv_iload_n hx hb d_M_pushMade_2 rfl (lv_at hl 2 rfl) ?_
      refine lv_iload_n hx hb d_M_pushMade_3 rfl (lv_at hl 1 rfl) ?_
      refine lv_icmp_ge (tgt := 32) hx hb d_M_pushMade_4 (by decide) (fun h4_1 => ?_) (fun h4_1 => ?_)
      · rw [if_pos h4_1] at hf
        refine lv_aload_n hx hb d_M_pushMade_32 rfl (lv_at hl 0 rfl) ?_
        refine lv_iload_n hx hb d_M_pushMade_33 rfl (lv_at hl 1 rfl) ?_
        have hP : va_P (dC, dI) vC (wM o cI F A) H := hP
        have hD : va_D (va_A (wM o cI Fa Aa) s.heap.size) (wM o cI F A) := hD
        obtain ⟨F2, A2, hc, hf⟩ := ra_bv_some hf
        refine cc_callv (va_runV (As := [.int x1]) (rest := []) ⟨hx, hb, hml, hown, hts⟩ (k_M_push l dC dI o cI H.size F A x1 F2 A2 hc) (cw_V 1 hts mw_660 mw_662 ms_M_push mw_5 mw_663 rfl rfl rfl hd_M_push ⟨Nat.le_of_ble_eq_true rfl, Nat.le_of_ble_eq_true rfl⟩) (cc_preV hK hP hD rfl (q0 := 0) rfl) rfl rfl hl.1 rfl (lv_room (Nat.le_of_ble_eq_true rfl)) d_M_pushMade_34 ⟨Nat.zero_le _, Nat.zero_le _⟩) hD hS hA (fun H locs hP hD hS => ?_)
        cases hf
        exact W.vret hx hb hr (fun t ht hW => ⟨⟨(), rfl, trivial, by rw [ht]; exact hP, va_K.moved hW.alike hK, hD⟩, hS.F ht⟩) hS.2.2 d_M_pushMade_37
      · rw [if_neg h4_1] at hf
        refine lv_aload_n hx hb d_M_pushMade_7 rfl (lv_at hl 0 rfl) ?_
        refine va_get (D := (dC, dI)) (ci := 4) (v := .ref (o 13)) (C := R_M) (T := T_M) (N := 29) hx hb hts in_M hown hK hP 0 rfl rfl 19 (by decide) (hts _ mw_522) (fun _ h9 => h9) rfl d_M_pushMade_8 ?_
        refine lv_iconst (v := 4) hx hb d_M_pushMade_11 (by decide) ?_
        refine lv_aload_n hx hb d_M_pushMade_12 rfl (lv_at hl 0 rfl) ?_
        refine va_get (D := (dC, dI)) (ci := 4) (v := .int (F 6)) (C := R_M) (T := T_M) (N := 29) hx hb hts in_M hown hK hP 0 rfl rfl 17 (by decide) (hts _ mw_520) (fun _ h9 => h9) rfl d_M_pushMade_13 ?_
        refine lv_imul hx hb d_M_pushMade_16 ?_
        refine lv_iload_n hx hb d_M_pushMade_17 rfl (lv_at hl 2 rfl) ?_
        refine lv_iadd hx hb d_M_pushMade_18 ?_
        refine lv_aload_n hx hb d_M_pushMade_19 rfl (lv_at hl 0 rfl) ?_
        refine va_get (D := (dC, dI)) (ci := 4) (v := .ref (o 16)) (C := R_M) (T := T_M) (N := 29) hx hb hts in_M hown hK hP 0 rfl rfl 25 (by decide) (hts _ mw_528) (fun _ h9 => h9) rfl d_M_pushMade_20 ?_
        refine lv_iload_n hx hb d_M_pushMade_23 rfl (lv_at hl 2 rfl) ?_
        obtain ⟨hi, hf⟩ := ra_g_some hf
        refine va_iald hx hb hK hP 16 0 rfl rfl hi d_M_pushMade_24 ?_
        obtain ⟨hi, hf⟩ := ra_g_some hf
        refine va_iast hx hb hK hP hD hS 13 0 rfl rfl hi d_M_pushMade_25 (fun H locs hP hD hS => ?_)
        have hP : va_P (dC, dI) vC [((o 0), .inr (4, [.int (F 0), .int (F 1), .ref (o 1), .int (F 2), .ref (o 2), .ref (o 3), .ref (o 4), .ref (o 5), .ref (o 6), .int (F 3), .ref (o 7), .ref (o 8), .ref (o 9), .ref (o 10), .ref (o 11), .int (F 4), .int (F 5), .int (F 6), .ref (o 12), .ref (o 13), .int (F 7), .ref (o 14), .ref (o 15), .int (F 8), .int (F 9), .ref (o 16), .ref (o 17), .ref (o 18), .ref (o 19)])), ((o 1), .inl (cI, 160, .inl (A 0))), ((o 2), .inl (cI, 100, .inl (A 1))), ((o 3), .inl (cI, 100, .inl (A 2))), ((o 4), .inl (cI, 100, .inl (A 3))), ((o 5), .inl (cI, 3, .inl (A 4))), ((o 6), .inl (cI, 26, .inl (A 5))), ((o 7), .inl (cI, 100, .inl (A 6))), ((o 8), .inl (cI, 100, .inl (A 7))), ((o 9), .inl (cI, 100, .inl (A 8))), ((o 10), .inl (cI, 26, .inl (A 9))), ((o 11), .inl (cI, 104, .inl (A 10))), ((o 12), .inl (cI, 80, .inl (A 11))), ((o 13), .inl (cI, 320, .inl (upd (A 12) (((4 : Int32) * (F 6)) + x2).toNatClampNeg ((A 15) x2.toNatClampNeg)))), ((o 14), .inl (cI, 200, .inl (A 13))), ((o 15), .inl (cI, 200, .inl (A 14))), ((o 16), .inl (cI, 4, .inl (A 15))), ((o 17), .inl (cI, 32, .inl (A 16))), ((o 18), .inl (cI, 32, .inl (A 17))), ((o 19), .inl (cI, 100, .inl (A 18)))] H := hP
        have hD : va_D (va_A (wM o cI Fa Aa) s.heap.size) [((o 0), .inr (4, [.int (F 0), .int (F 1), .ref (o 1), .int (F 2), .ref (o 2), .ref (o 3), .ref (o 4), .ref (o 5), .ref (o 6), .int (F 3), .ref (o 7), .ref (o 8), .ref (o 9), .ref (o 10), .ref (o 11), .int (F 4), .int (F 5), .int (F 6), .ref (o 12), .ref (o 13), .int (F 7), .ref (o 14), .ref (o 15), .int (F 8), .int (F 9), .ref (o 16), .ref (o 17), .ref (o 18), .ref (o 19)])), ((o 1), .inl (cI, 160, .inl (A 0))), ((o 2), .inl (cI, 100, .inl (A 1))), ((o 3), .inl (cI, 100, .inl (A 2))), ((o 4), .inl (cI, 100, .inl (A 3))), ((o 5), .inl (cI, 3, .inl (A 4))), ((o 6), .inl (cI, 26, .inl (A 5))), ((o 7), .inl (cI, 100, .inl (A 6))), ((o 8), .inl (cI, 100, .inl (A 7))), ((o 9), .inl (cI, 100, .inl (A 8))), ((o 10), .inl (cI, 26, .inl (A 9))), ((o 11), .inl (cI, 104, .inl (A 10))), ((o 12), .inl (cI, 80, .inl (A 11))), ((o 13), .inl (cI, 320, .inl (upd (A 12) (((4 : Int32) * (F 6)) + x2).toNatClampNeg ((A 15) x2.toNatClampNeg)))), ((o 14), .inl (cI, 200, .inl (A 13))), ((o 15), .inl (cI, 200, .inl (A 14))), ((o 16), .inl (cI, 4, .inl (A 15))), ((o 17), .inl (cI, 32, .inl (A 16))), ((o 18), .inl (cI, 32, .inl (A 17))), ((o 19), .inl (cI, 100, .inl (A 18)))] := hD
        refine lv_iinc (k := 2) (v := (x2 + (1 : Int32))) hx hb d_M_pushMade_26 hl rfl (by rfl) (by decide) rfl (fun ls hl => ?_)
        have hl : lv_has ls 3 [(2, .int (x2 + (1 : Int32))), (0, .ref (o 0)), (1, .int x1)] := hl
        refine lv_goto (tgt := 2) hx hb d_M_pushMade_29 (by decide) ?_
        have hl : lv_has ls 3 [(0, .ref (o 0)), (1, .int x1), (2, .int (x2 + (1 : Int32)))] := lv_sub hl [1, 2, 0] rfl
        exact ih x1 (x2 + (1 : Int32)) F (va_up A 12 (upd (A 12) (((4 : Int32) * (F 6)) + x2).toNatClampNeg ((A 15) x2.toNatClampNeg))) _ _ _ hl hP hD hS hf
  rw [lg_entry_eq]
  generalize (lg_sl (([.ref (o 0), .int u1] : List Value)) ++ List.replicate (3 - (lg_sl (([.ref (o 0), .int u1] : List Value))).length) Slot.unset).toArray = ls at hl ⊢
  have hl : lv_has ls 3 [(0, .ref (o 0)), (1, .int u1)] := hl
  unfold f_M_pushMade at hf
  refine lv_iconst (v := 0) hx hb d_M_pushMade_0 (by decide) ?_
  refine lv_istore_n hx hb d_M_pushMade_1 rfl hl (by decide) rfl (fun ls hl => ?_)
  have hl : lv_has ls 3 [(2, .int (0 : Int32)), (0, .ref (o 0)), (1, .int u1)] := hl
  have hl : lv_has ls 3 [(0, .ref (o 0)), (1, .int u1), (2, .int (0 : Int32))] := lv_sub hl [1, 2, 0] rfl
  exact L2 400 u1 (0 : Int32) Fa Aa _ _ _ hl hP hD hS hf
def f_M_number (u1 : Int32) (u2 : Int32) (Fa : ST_F) (Aa : ST_A) : Option (Int32 × ST_F × ST_A) := ra_g (((4 : Int32) * u1) + u2) 320 (some (((Aa 12) (((4 : Int32) * u1) + u2).toNatClampNeg), Fa, Aa))
set_option maxHeartbeats 4000000 in
set_option maxRecDepth 100000 in
theorem k_M_number (l : Launch) (dC : Nat → ClassId) (dI : Nat → Nat → Nat) (o : Nat → Nat) (cI : ClassId) (sz : Nat) (Fa : ST_F) (Aa : ST_A) (u1 : Int32) (u2 : Int32) (r0 : Int32) (F9 : ST_F) (A9 : ST_A) (hf : f_M_number u1 u2 Fa Aa = some (r0, F9, A9)) : cc_MetI l y_M_number (Cond.code y_M_number b_M_number 3 (some .int) :: wA) ({ frames := 0, cells := 0, slots := 0, locals := 0 } : Room) (dC, dI) vC [(cI, .int)] ([.ref (o 0), .int u1, .int u2] : List Value) (wM o cI Fa Aa) sz (wM o cI F9 A9) r0 := by
  refine Met.ofW (cc := b_M_number) (maxL := 3) (ret := (some .int)) (by decide) rfl ?_
  intro p e s m args below meth c s₁ B hml hv
  obtain ⟨rfl, hsz, hP, hK, hD0⟩ := hv
  have hx := B.exec
  have hb := B.bytes
  have hr := B.returns
  have hts := fun w h => atoms_spec (ws := (Cond.code y_M_number b_M_number 3 (some .int) :: wA)) B.pre w (List.mem_cons_of_mem _ h)
  have hown : s.vm.findClass R_M = some m.cls := findClass_of_methodNamed B.named
  have hlocks := B.notSynchronized
  subst hsz
  have hD := hD0.self (sz := s.heap.size)
  have hA : ∀ q : Nat, s.heap.size ≤ q → va_A (wM o cI Fa Aa) s.heap.size q := fun q h => Or.inr h
  have hS : va_S (va_A (wM o cI Fa Aa) s.heap.size) s.heap s.heap [] := va_S.rf
  have hl := lv_entry (([.ref (o 0), .int u1, .int u2] : List Value)) (n := 3) (Nat.le_of_ble_eq_true rfl)
  rw [lg_entry_eq]
  generalize (lg_sl (([.ref (o 0), .int u1, .int u2] : List Value)) ++ List.replicate (3 - (lg_sl (([.ref (o 0), .int u1, .int u2] : List Value))).length) Slot.unset).toArray = ls at hl ⊢
  have hl : lv_has ls 3 [(0, .ref (o 0)), (1, .int u1), (2, .int u2)] := hl
  unfold f_M_number at hf
  refine lv_aload_n hx hb d_M_number_0 rfl (lv_at hl 0 rfl) ?_
  refine va_get (D := (dC, dI)) (ci := 4) (v := .ref (o 13)) (C := R_M) (T := T_M) (N := 29) hx hb hts in_M hown hK hP 0 rfl rfl 19 (by decide) (hts _ mw_522) (fun _ h9 => h9) rfl d_M_number_1 ?_
  refine lv_iconst (v := 4) hx hb d_M_number_4 (by decide) ?_
  refine lv_iload_n hx hb d_M_number_5 rfl (lv_at hl 1 rfl) ?_
  refine lv_imul hx hb d_M_number_6 ?_
  refine lv_iload_n hx hb d_M_number_7 rfl (lv_at hl 2 rfl) ?_
  refine lv_iadd hx hb d_M_number_8 ?_
  obtain ⟨hi, hf⟩ := ra_g_some hf
  refine va_iald hx hb hK hP 13 0 rfl rfl hi d_M_number_9 ?_
  cases hf
  exact W.iret hx hb hr (fun t ht hW => ⟨⟨_, (), rfl, rfl, by rw [ht]; exact hP, va_K.moved hW.alike hK, hD⟩, hS.F ht⟩) hS.2.2 d_M_number_10
def f_M_top  (Fa : ST_F) (Aa : ST_A) : Option (Int32 × ST_F × ST_A) := if (Fa 7) = 0 then (some ((0 : Int32), Fa, Aa)) else (ra_g ((Fa 7) - (1 : Int32)) 200 (some (((Aa 13) ((Fa 7) - (1 : Int32)).toNatClampNeg), Fa, Aa)))
set_option maxHeartbeats 4000000 in
set_option maxRecDepth 100000 in
theorem k_M_top (l : Launch) (dC : Nat → ClassId) (dI : Nat → Nat → Nat) (o : Nat → Nat) (cI : ClassId) (sz : Nat) (Fa : ST_F) (Aa : ST_A)  (r0 : Int32) (F9 : ST_F) (A9 : ST_A) (hf : f_M_top  Fa Aa = some (r0, F9, A9)) : cc_MetI l y_M_top (Cond.code y_M_top b_M_top 1 (some .int) :: wA) ({ frames := 0, cells := 0, slots := 0, locals := 0 } : Room) (dC, dI) vC [(cI, .int)] ([.ref (o 0)] : List Value) (wM o cI Fa Aa) sz (wM o cI F9 A9) r0 := by
  refine Met.ofW (cc := b_M_top) (maxL := 1) (ret := (some .int)) (by decide) rfl ?_
  intro p e s m args below meth c s₁ B hml hv
  obtain ⟨rfl, hsz, hP, hK, hD0⟩ := hv
  have hx := B.exec
  have hb := B.bytes
  have hr := B.returns
  have hts := fun w h => atoms_spec (ws := (Cond.code y_M_top b_M_top 1 (some .int) :: wA)) B.pre w (List.mem_cons_of_mem _ h)
  have hown : s.vm.findClass R_M = some m.cls := findClass_of_methodNamed B.named
  have hlocks := B.notSynchronized
  subst hsz
  have hD := hD0.self (sz := s.heap.size)
  have hA : ∀ q : Nat, s.heap.size ≤ q → va_A (wM o cI Fa Aa) s.heap.size q := fun q h => Or.inr h
  have hS : va_S (va_A (wM o cI Fa Aa) s.heap.size) s.heap s.heap [] := va_S.rf
  have hl := lv_entry (([.ref (o 0)] : List Value)) (n := 1) (Nat.le_of_ble_eq_true rfl)
  rw [lg_entry_eq]
  generalize (lg_sl (([.ref (o 0)] : List Value)) ++ List.replicate (1 - (lg_sl (([.ref (o 0)] : List Value))).length) Slot.unset).toArray = ls at hl ⊢
  have hl : lv_has ls 1 [(0, .ref (o 0))] := hl
  unfold f_M_top at hf
  refine lv_aload_n hx hb d_M_top_0 rfl (lv_at hl 0 rfl) ?_
  refine va_get (D := (dC, dI)) (ci := 4) (v := .int (Fa 7)) (C := R_M) (T := T_M) (N := 29) hx hb hts in_M hown hK hP 0 rfl rfl 20 (by decide) (hts _ mw_523) (fun _ h9 => h9) rfl d_M_top_1 ?_
  refine lv_if_ne (tgt := 11) hx hb d_M_top_4 (by decide) (fun h4_1 => ?_) (fun h4_1 => ?_)
  · rw [if_neg h4_1] at hf
    refine lv_aload_n hx hb d_M_top_11 rfl (lv_at hl 0 rfl) ?_
    refine va_get (D := (dC, dI)) (ci := 4) (v := .ref (o 14)) (C := R_M) (T := T_M) (N := 29) hx hb hts in_M hown hK hP 0 rfl rfl 21 (by decide) (hts _ mw_524) (fun _ h9 => h9) rfl d_M_top_12 ?_
    refine lv_aload_n hx hb d_M_top_15 rfl (lv_at hl 0 rfl) ?_
    refine va_get (D := (dC, dI)) (ci := 4) (v := .int (Fa 7)) (C := R_M) (T := T_M) (N := 29) hx hb hts in_M hown hK hP 0 rfl rfl 20 (by decide) (hts _ mw_523) (fun _ h9 => h9) rfl d_M_top_16 ?_
    refine lv_iconst (v := 1) hx hb d_M_top_19 (by decide) ?_
    refine lv_isub hx hb d_M_top_20 ?_
    obtain ⟨hi, hf⟩ := ra_g_some hf
    refine va_iald hx hb hK hP 14 0 rfl rfl hi d_M_top_21 ?_
    cases hf
    exact W.iret hx hb hr (fun t ht hW => ⟨⟨_, (), rfl, rfl, by rw [ht]; exact hP, va_K.moved hW.alike hK, hD⟩, hS.F ht⟩) hS.2.2 d_M_top_22
  · rw [if_pos h4_1] at hf
    refine lv_iconst (v := 0) hx hb d_M_top_7 (by decide) ?_
    refine lv_goto (tgt := 22) hx hb d_M_top_8 (by decide) ?_
    cases hf
    exact W.iret hx hb hr (fun t ht hW => ⟨⟨_, (), rfl, rfl, by rw [ht]; exact hP, va_K.moved hW.alike hK, hD⟩, hS.F ht⟩) hS.2.2 d_M_top_22
def f_M_hold (u1 : Int32) (Fa : ST_F) (Aa : ST_A) : Option (ST_F × ST_A) := ra_g (Fa 7) 200 (ra_g (Fa 7) 200 (some ((upd Fa 7 ((Fa 7) + (1 : Int32))), (va_up (va_up Aa 13 (upd (Aa 13) (Fa 7).toNatClampNeg u1)) 14 (upd (Aa 14) (Fa 7).toNatClampNeg (1 : Int32))))))
set_option maxHeartbeats 4000000 in
set_option maxRecDepth 100000 in
theorem k_M_hold (l : Launch) (dC : Nat → ClassId) (dI : Nat → Nat → Nat) (o : Nat → Nat) (cI : ClassId) (sz : Nat) (Fa : ST_F) (Aa : ST_A) (u1 : Int32) (F9 : ST_F) (A9 : ST_A) (hf : f_M_hold u1 Fa Aa = some (F9, A9)) : cc_MetV l y_M_hold (Cond.code y_M_hold b_M_hold 2 none :: wA) ({ frames := 0, cells := 0, slots := 0, locals := 0 } : Room) (dC, dI) vC [(cI, .int)] ([.ref (o 0), .int u1] : List Value) (wM o cI Fa Aa) sz (wM o cI F9 A9) := by
  refine Met.ofW (cc := b_M_hold) (maxL := 2) (ret := none) (by decide) rfl ?_
  intro p e s m args below meth c s₁ B hml hv
  obtain ⟨rfl, hsz, hP, hK, hD0⟩ := hv
  have hx := B.exec
  have hb := B.bytes
  have hr := B.returns
  have hts := fun w h => atoms_spec (ws := (Cond.code y_M_hold b_M_hold 2 none :: wA)) B.pre w (List.mem_cons_of_mem _ h)
  have hown : s.vm.findClass R_M = some m.cls := findClass_of_methodNamed B.named
  have hlocks := B.notSynchronized
  subst hsz
  have hD := hD0.self (sz := s.heap.size)
  have hA : ∀ q : Nat, s.heap.size ≤ q → va_A (wM o cI Fa Aa) s.heap.size q := fun q h => Or.inr h
  have hS : va_S (va_A (wM o cI Fa Aa) s.heap.size) s.heap s.heap [] := va_S.rf
  have hl := lv_entry (([.ref (o 0), .int u1] : List Value)) (n := 2) (Nat.le_of_ble_eq_true rfl)
  rw [lg_entry_eq]
  generalize (lg_sl (([.ref (o 0), .int u1] : List Value)) ++ List.replicate (2 - (lg_sl (([.ref (o 0), .int u1] : List Value))).length) Slot.unset).toArray = ls at hl ⊢
  have hl : lv_has ls 2 [(0, .ref (o 0)), (1, .int u1)] := hl
  unfold f_M_hold at hf
  refine lv_aload_n hx hb d_M_hold_0 rfl (lv_at hl 0 rfl) ?_
  refine va_get (D := (dC, dI)) (ci := 4) (v := .ref (o 14)) (C := R_M) (T := T_M) (N := 29) hx hb hts in_M hown hK hP 0 rfl rfl 21 (by decide) (hts _ mw_524) (fun _ h9 => h9) rfl d_M_hold_1 ?_
  refine lv_aload_n hx hb d_M_hold_4 rfl (lv_at hl 0 rfl) ?_
  refine va_get (D := (dC, dI)) (ci := 4) (v := .int (Fa 7)) (C := R_M) (T := T_M) (N := 29) hx hb hts in_M hown hK hP 0 rfl rfl 20 (by decide) (hts _ mw_523) (fun _ h9 => h9) rfl d_M_hold_5 ?_
  refine lv_iload_n hx hb d_M_hold_8 rfl (lv_at hl 1 rfl) ?_
  obtain ⟨hi, hf⟩ := ra_g_some hf
  refine va_iast hx hb hK hP hD hS 14 0 rfl rfl hi d_M_hold_9 (fun H locs hP hD hS => ?_)
  have hP : va_P (dC, dI) vC [((o 0), .inr (4, [.int (Fa 0), .int (Fa 1), .ref (o 1), .int (Fa 2), .ref (o 2), .ref (o 3), .ref (o 4), .ref (o 5), .ref (o 6), .int (Fa 3), .ref (o 7), .ref (o 8), .ref (o 9), .ref (o 10), .ref (o 11), .int (Fa 4), .int (Fa 5), .int (Fa 6), .ref (o 12), .ref (o 13), .int (Fa 7), .ref (o 14), .ref (o 15), .int (Fa 8), .int (Fa 9), .ref (o 16), .ref (o 17), .ref (o 18), .ref (o 19)])), ((o 1), .inl (cI, 160, .inl (Aa 0))), ((o 2), .inl (cI, 100, .inl (Aa 1))), ((o 3), .inl (cI, 100, .inl (Aa 2))), ((o 4), .inl (cI, 100, .inl (Aa 3))), ((o 5), .inl (cI, 3, .inl (Aa 4))), ((o 6), .inl (cI, 26, .inl (Aa 5))), ((o 7), .inl (cI, 100, .inl (Aa 6))), ((o 8), .inl (cI, 100, .inl (Aa 7))), ((o 9), .inl (cI, 100, .inl (Aa 8))), ((o 10), .inl (cI, 26, .inl (Aa 9))), ((o 11), .inl (cI, 104, .inl (Aa 10))), ((o 12), .inl (cI, 80, .inl (Aa 11))), ((o 13), .inl (cI, 320, .inl (Aa 12))), ((o 14), .inl (cI, 200, .inl (upd (Aa 13) (Fa 7).toNatClampNeg u1))), ((o 15), .inl (cI, 200, .inl (Aa 14))), ((o 16), .inl (cI, 4, .inl (Aa 15))), ((o 17), .inl (cI, 32, .inl (Aa 16))), ((o 18), .inl (cI, 32, .inl (Aa 17))), ((o 19), .inl (cI, 100, .inl (Aa 18)))] H := hP
  have hD : va_D (va_A (wM o cI Fa Aa) s.heap.size) [((o 0), .inr (4, [.int (Fa 0), .int (Fa 1), .ref (o 1), .int (Fa 2), .ref (o 2), .ref (o 3), .ref (o 4), .ref (o 5), .ref (o 6), .int (Fa 3), .ref (o 7), .ref (o 8), .ref (o 9), .ref (o 10), .ref (o 11), .int (Fa 4), .int (Fa 5), .int (Fa 6), .ref (o 12), .ref (o 13), .int (Fa 7), .ref (o 14), .ref (o 15), .int (Fa 8), .int (Fa 9), .ref (o 16), .ref (o 17), .ref (o 18), .ref (o 19)])), ((o 1), .inl (cI, 160, .inl (Aa 0))), ((o 2), .inl (cI, 100, .inl (Aa 1))), ((o 3), .inl (cI, 100, .inl (Aa 2))), ((o 4), .inl (cI, 100, .inl (Aa 3))), ((o 5), .inl (cI, 3, .inl (Aa 4))), ((o 6), .inl (cI, 26, .inl (Aa 5))), ((o 7), .inl (cI, 100, .inl (Aa 6))), ((o 8), .inl (cI, 100, .inl (Aa 7))), ((o 9), .inl (cI, 100, .inl (Aa 8))), ((o 10), .inl (cI, 26, .inl (Aa 9))), ((o 11), .inl (cI, 104, .inl (Aa 10))), ((o 12), .inl (cI, 80, .inl (Aa 11))), ((o 13), .inl (cI, 320, .inl (Aa 12))), ((o 14), .inl (cI, 200, .inl (upd (Aa 13) (Fa 7).toNatClampNeg u1))), ((o 15), .inl (cI, 200, .inl (Aa 14))), ((o 16), .inl (cI, 4, .inl (Aa 15))), ((o 17), .inl (cI, 32, .inl (Aa 16))), ((o 18), .inl (cI, 32, .inl (Aa 17))), ((o 19), .inl (cI, 100, .inl (Aa 18)))] := hD
  refine lv_aload_n hx hb d_M_hold_10 rfl (lv_at hl 0 rfl) ?_
  refine va_get (D := (dC, dI)) (ci := 4) (v := .ref (o 15)) (C := R_M) (T := T_M) (N := 29) hx hb hts in_M hown hK hP 0 rfl rfl 22 (by decide) (hts _ mw_525) (fun _ h9 => h9) rfl d_M_hold_11 ?_
  refine lv_aload_n hx hb d_M_hold_14 rfl (lv_at hl 0 rfl) ?_
  refine va_get (D := (dC, dI)) (ci := 4) (v := .int (Fa 7)) (C := R_M) (T := T_M) (N := 29) hx hb hts in_M hown hK hP 0 rfl rfl 20 (by decide) (hts _ mw_523) (fun _ h9 => h9) rfl d_M_hold_15 ?_
  refine lv_iconst (v := 1) hx hb d_M_hold_18 (by decide) ?_
  obtain ⟨hi, hf⟩ := ra_g_some hf
  refine va_iast hx hb hK hP hD hS 15 0 rfl rfl hi d_M_hold_19 (fun H locs hP hD hS => ?_)
  have hP : va_P (dC, dI) vC [((o 0), .inr (4, [.int (Fa 0), .int (Fa 1), .ref (o 1), .int (Fa 2), .ref (o 2), .ref (o 3), .ref (o 4), .ref (o 5), .ref (o 6), .int (Fa 3), .ref (o 7), .ref (o 8), .ref (o 9), .ref (o 10), .ref (o 11), .int (Fa 4), .int (Fa 5), .int (Fa 6), .ref (o 12), .ref (o 13), .int (Fa 7), .ref (o 14), .ref (o 15), .int (Fa 8), .int (Fa 9), .ref (o 16), .ref (o 17), .ref (o 18), .ref (o 19)])), ((o 1), .inl (cI, 160, .inl (Aa 0))), ((o 2), .inl (cI, 100, .inl (Aa 1))), ((o 3), .inl (cI, 100, .inl (Aa 2))), ((o 4), .inl (cI, 100, .inl (Aa 3))), ((o 5), .inl (cI, 3, .inl (Aa 4))), ((o 6), .inl (cI, 26, .inl (Aa 5))), ((o 7), .inl (cI, 100, .inl (Aa 6))), ((o 8), .inl (cI, 100, .inl (Aa 7))), ((o 9), .inl (cI, 100, .inl (Aa 8))), ((o 10), .inl (cI, 26, .inl (Aa 9))), ((o 11), .inl (cI, 104, .inl (Aa 10))), ((o 12), .inl (cI, 80, .inl (Aa 11))), ((o 13), .inl (cI, 320, .inl (Aa 12))), ((o 14), .inl (cI, 200, .inl (upd (Aa 13) (Fa 7).toNatClampNeg u1))), ((o 15), .inl (cI, 200, .inl (upd (Aa 14) (Fa 7).toNatClampNeg (1 : Int32)))), ((o 16), .inl (cI, 4, .inl (Aa 15))), ((o 17), .inl (cI, 32, .inl (Aa 16))), ((o 18), .inl (cI, 32, .inl (Aa 17))), ((o 19), .inl (cI, 100, .inl (Aa 18)))] H := hP
  have hD : va_D (va_A (wM o cI Fa Aa) s.heap.size) [((o 0), .inr (4, [.int (Fa 0), .int (Fa 1), .ref (o 1), .int (Fa 2), .ref (o 2), .ref (o 3), .ref (o 4), .ref (o 5), .ref (o 6), .int (Fa 3), .ref (o 7), .ref (o 8), .ref (o 9), .ref (o 10), .ref (o 11), .int (Fa 4), .int (Fa 5), .int (Fa 6), .ref (o 12), .ref (o 13), .int (Fa 7), .ref (o 14), .ref (o 15), .int (Fa 8), .int (Fa 9), .ref (o 16), .ref (o 17), .ref (o 18), .ref (o 19)])), ((o 1), .inl (cI, 160, .inl (Aa 0))), ((o 2), .inl (cI, 100, .inl (Aa 1))), ((o 3), .inl (cI, 100, .inl (Aa 2))), ((o 4), .inl (cI, 100, .inl (Aa 3))), ((o 5), .inl (cI, 3, .inl (Aa 4))), ((o 6), .inl (cI, 26, .inl (Aa 5))), ((o 7), .inl (cI, 100, .inl (Aa 6))), ((o 8), .inl (cI, 100, .inl (Aa 7))), ((o 9), .inl (cI, 100, .inl (Aa 8))), ((o 10), .inl (cI, 26, .inl (Aa 9))), ((o 11), .inl (cI, 104, .inl (Aa 10))), ((o 12), .inl (cI, 80, .inl (Aa 11))), ((o 13), .inl (cI, 320, .inl (Aa 12))), ((o 14), .inl (cI, 200, .inl (upd (Aa 13) (Fa 7).toNatClampNeg u1))), ((o 15), .inl (cI, 200, .inl (upd (Aa 14) (Fa 7).toNatClampNeg (1 : Int32)))), ((o 16), .inl (cI, 4, .inl (Aa 15))), ((o 17), .inl (cI, 32, .inl (Aa 16))), ((o 18), .inl (cI, 32, .inl (Aa 17))), ((o 19), .inl (cI, 100, .inl (Aa 18)))] := hD
  refine lv_aload_n hx hb d_M_hold_20 rfl (lv_at hl 0 rfl) ?_
  refine lv_dup hx hb d_M_hold_21 rfl ?_
  refine va_get (D := (dC, dI)) (ci := 4) (v := .int (Fa 7)) (C := R_M) (T := T_M) (N := 29) hx hb hts in_M hown hK hP 0 rfl rfl 20 (by decide) (hts _ mw_523) (fun _ h9 => h9) rfl d_M_hold_22 ?_
  refine lv_iconst (v := 1) hx hb d_M_hold_25 (by decide) ?_
  refine lv_iadd hx hb d_M_hold_26 ?_
  refine va_put (D := (dC, dI)) (ci := 4) (v := .int ((Fa 7) + (1 : Int32))) (ty := .int) (C := R_M) (T := T_M) (N := 29) hx hb hts in_M ty_M ty_M_ok nm_M hown hK hP hD hS 0 rfl rfl 20 (by decide) (hts _ mw_523) (fun _ h9 => h9) rfl (by decide +kernel) rfl rfl (Nat.le_of_ble_eq_true rfl) d_M_hold_27 (fun H locs hP hD hS => ?_)
  have hP : va_P (dC, dI) vC [((o 0), .inr (4, [.int (Fa 0), .int (Fa 1), .ref (o 1), .int (Fa 2), .ref (o 2), .ref (o 3), .ref (o 4), .ref (o 5), .ref (o 6), .int (Fa 3), .ref (o 7), .ref (o 8), .ref (o 9), .ref (o 10), .ref (o 11), .int (Fa 4), .int (Fa 5), .int (Fa 6), .ref (o 12), .ref (o 13), .int ((Fa 7) + (1 : Int32)), .ref (o 14), .ref (o 15), .int (Fa 8), .int (Fa 9), .ref (o 16), .ref (o 17), .ref (o 18), .ref (o 19)])), ((o 1), .inl (cI, 160, .inl (Aa 0))), ((o 2), .inl (cI, 100, .inl (Aa 1))), ((o 3), .inl (cI, 100, .inl (Aa 2))), ((o 4), .inl (cI, 100, .inl (Aa 3))), ((o 5), .inl (cI, 3, .inl (Aa 4))), ((o 6), .inl (cI, 26, .inl (Aa 5))), ((o 7), .inl (cI, 100, .inl (Aa 6))), ((o 8), .inl (cI, 100, .inl (Aa 7))), ((o 9), .inl (cI, 100, .inl (Aa 8))), ((o 10), .inl (cI, 26, .inl (Aa 9))), ((o 11), .inl (cI, 104, .inl (Aa 10))), ((o 12), .inl (cI, 80, .inl (Aa 11))), ((o 13), .inl (cI, 320, .inl (Aa 12))), ((o 14), .inl (cI, 200, .inl (upd (Aa 13) (Fa 7).toNatClampNeg u1))), ((o 15), .inl (cI, 200, .inl (upd (Aa 14) (Fa 7).toNatClampNeg (1 : Int32)))), ((o 16), .inl (cI, 4, .inl (Aa 15))), ((o 17), .inl (cI, 32, .inl (Aa 16))), ((o 18), .inl (cI, 32, .inl (Aa 17))), ((o 19), .inl (cI, 100, .inl (Aa 18)))] H := hP
  have hD : va_D (va_A (wM o cI Fa Aa) s.heap.size) [((o 0), .inr (4, [.int (Fa 0), .int (Fa 1), .ref (o 1), .int (Fa 2), .ref (o 2), .ref (o 3), .ref (o 4), .ref (o 5), .ref (o 6), .int (Fa 3), .ref (o 7), .ref (o 8), .ref (o 9), .ref (o 10), .ref (o 11), .int (Fa 4), .int (Fa 5), .int (Fa 6), .ref (o 12), .ref (o 13), .int ((Fa 7) + (1 : Int32)), .ref (o 14), .ref (o 15), .int (Fa 8), .int (Fa 9), .ref (o 16), .ref (o 17), .ref (o 18), .ref (o 19)])), ((o 1), .inl (cI, 160, .inl (Aa 0))), ((o 2), .inl (cI, 100, .inl (Aa 1))), ((o 3), .inl (cI, 100, .inl (Aa 2))), ((o 4), .inl (cI, 100, .inl (Aa 3))), ((o 5), .inl (cI, 3, .inl (Aa 4))), ((o 6), .inl (cI, 26, .inl (Aa 5))), ((o 7), .inl (cI, 100, .inl (Aa 6))), ((o 8), .inl (cI, 100, .inl (Aa 7))), ((o 9), .inl (cI, 100, .inl (Aa 8))), ((o 10), .inl (cI, 26, .inl (Aa 9))), ((o 11), .inl (cI, 104, .inl (Aa 10))), ((o 12), .inl (cI, 80, .inl (Aa 11))), ((o 13), .inl (cI, 320, .inl (Aa 12))), ((o 14), .inl (cI, 200, .inl (upd (Aa 13) (Fa 7).toNatClampNeg u1))), ((o 15), .inl (cI, 200, .inl (upd (Aa 14) (Fa 7).toNatClampNeg (1 : Int32)))), ((o 16), .inl (cI, 4, .inl (Aa 15))), ((o 17), .inl (cI, 32, .inl (Aa 16))), ((o 18), .inl (cI, 32, .inl (Aa 17))), ((o 19), .inl (cI, 100, .inl (Aa 18)))] := hD
  cases hf
  exact W.vret hx hb hr (fun t ht hW => ⟨⟨(), rfl, trivial, by rw [ht]; exact hP, va_K.moved hW.alike hK, hD⟩, hS.F ht⟩) hS.2.2 d_M_hold_30
def f_M_bracket (u1 : Int32) (Fa : ST_F) (Aa : ST_A) : Option (ST_F × ST_A) := if (Fa 5) = 0 then (if ((Fa 8) + (1 : Int32)) ≤ (5 : Int32) then (ra_bv (f_M_hold u1 (upd (upd Fa 8 ((Fa 8) + (1 : Int32))) 5 (0 : Int32)) Aa) (fun F4 A4 => some (F4, A4))) else (ra_bv (f_M_hold u1 (upd (upd Fa 8 ((Fa 8) + (1 : Int32))) 5 (1 : Int32)) Aa) (fun F5 A5 => some (F5, A5)))) else (ra_bv (f_M_hold u1 (upd (upd Fa 8 ((Fa 8) + (1 : Int32))) 5 (1 : Int32)) Aa) (fun F2 A2 => some (F2, A2)))
set_option maxHeartbeats 4000000 in
set_option maxRecDepth 100000 in
theorem k_M_bracket (l : Launch) (dC : Nat → ClassId) (dI : Nat → Nat → Nat) (o : Nat → Nat) (cI : ClassId) (sz : Nat) (Fa : ST_F) (Aa : ST_A) (u1 : Int32) (F9 : ST_F) (A9 : ST_A) (hf : f_M_bracket u1 Fa Aa = some (F9, A9)) : cc_MetV l y_M_bracket (Cond.code y_M_bracket b_M_bracket 2 none :: wA) ({ frames := 1, cells := 0, slots := 0, locals := 21 } : Room) (dC, dI) vC [(cI, .int)] ([.ref (o 0), .int u1] : List Value) (wM o cI Fa Aa) sz (wM o cI F9 A9) := by
  refine Met.ofW (cc := b_M_bracket) (maxL := 2) (ret := none) (by decide) rfl ?_
  intro p e s m args below meth c s₁ B hml hv
  obtain ⟨rfl, hsz, hP, hK, hD0⟩ := hv
  have hx := B.exec
  have hb := B.bytes
  have hr := B.returns
  have hts := fun w h => atoms_spec (ws := (Cond.code y_M_bracket b_M_bracket 2 none :: wA)) B.pre w (List.mem_cons_of_mem _ h)
  have hown : s.vm.findClass R_M = some m.cls := findClass_of_methodNamed B.named
  have hlocks := B.notSynchronized
  subst hsz
  have hD := hD0.self (sz := s.heap.size)
  have hA : ∀ q : Nat, s.heap.size ≤ q → va_A (wM o cI Fa Aa) s.heap.size q := fun q h => Or.inr h
  have hS : va_S (va_A (wM o cI Fa Aa) s.heap.size) s.heap s.heap [] := va_S.rf
  have hl := lv_entry (([.ref (o 0), .int u1] : List Value)) (n := 2) (Nat.le_of_ble_eq_true rfl)
  rw [lg_entry_eq]
  generalize (lg_sl (([.ref (o 0), .int u1] : List Value)) ++ List.replicate (2 - (lg_sl (([.ref (o 0), .int u1] : List Value))).length) Slot.unset).toArray = ls at hl ⊢
  have hl : lv_has ls 2 [(0, .ref (o 0)), (1, .int u1)] := hl
  unfold f_M_bracket at hf
  refine lv_aload_n hx hb d_M_bracket_0 rfl (lv_at hl 0 rfl) ?_
  refine lv_dup hx hb d_M_bracket_1 rfl ?_
  refine va_get (D := (dC, dI)) (ci := 4) (v := .int (Fa 8)) (C := R_M) (T := T_M) (N := 29) hx hb hts in_M hown hK hP 0 rfl rfl 23 (by decide) (hts _ mw_526) (fun _ h9 => h9) rfl d_M_bracket_2 ?_
  refine lv_iconst (v := 1) hx hb d_M_bracket_5 (by decide) ?_
  refine lv_iadd hx hb d_M_bracket_6 ?_
  refine va_put (D := (dC, dI)) (ci := 4) (v := .int ((Fa 8) + (1 : Int32))) (ty := .int) (C := R_M) (T := T_M) (N := 29) hx hb hts in_M ty_M ty_M_ok nm_M hown hK hP hD hS 0 rfl rfl 23 (by decide) (hts _ mw_526) (fun _ h9 => h9) rfl (by decide +kernel) rfl rfl (Nat.le_of_ble_eq_true rfl) d_M_bracket_7 (fun H locs hP hD hS => ?_)
  have hP : va_P (dC, dI) vC [((o 0), .inr (4, [.int (Fa 0), .int (Fa 1), .ref (o 1), .int (Fa 2), .ref (o 2), .ref (o 3), .ref (o 4), .ref (o 5), .ref (o 6), .int (Fa 3), .ref (o 7), .ref (o 8), .ref (o 9), .ref (o 10), .ref (o 11), .int (Fa 4), .int (Fa 5), .int (Fa 6), .ref (o 12), .ref (o 13), .int (Fa 7), .ref (o 14), .ref (o 15), .int ((Fa 8) + (1 : Int32)), .int (Fa 9), .ref (o 16), .ref (o 17), .ref (o 18), .ref (o 19)])), ((o 1), .inl (cI, 160, .inl (Aa 0))), ((o 2), .inl (cI, 100, .inl (Aa 1))), ((o 3), .inl (cI, 100, .inl (Aa 2))), ((o 4), .inl (cI, 100, .inl (Aa 3))), ((o 5), .inl (cI, 3, .inl (Aa 4))), ((o 6), .inl (cI, 26, .inl (Aa 5))), ((o 7), .inl (cI, 100, .inl (Aa 6))), ((o 8), .inl (cI, 100, .inl (Aa 7))), ((o 9), .inl (cI, 100, .inl (Aa 8))), ((o 10), .inl (cI, 26, .inl (Aa 9))), ((o 11), .inl (cI, 104, .inl (Aa 10))), ((o 12), .inl (cI, 80, .inl (Aa 11))), ((o 13), .inl (cI, 320, .inl (Aa 12))), ((o 14), .inl (cI, 200, .inl (Aa 13))), ((o 15), .inl (cI, 200, .inl (Aa 14))), ((o 16), .inl (cI, 4, .inl (Aa 15))), ((o 17), .inl (cI, 32, .inl (Aa 16))), ((o 18), .inl (cI, 32, .inl (Aa 17))), ((o 19), .inl (cI, 100, .inl (Aa 18)))] H := hP
  have hD : va_D (va_A (wM o cI Fa Aa) s.heap.size) [((o 0), .inr (4, [.int (Fa 0), .int (Fa 1), .ref (o 1), .int (Fa 2), .ref (o 2), .ref (o 3), .ref (o 4), .ref (o 5), .ref (o 6), .int (Fa 3), .ref (o 7), .ref (o 8), .ref (o 9), .ref (o 10), .ref (o 11), .int (Fa 4), .int (Fa 5), .int (Fa 6), .ref (o 12), .ref (o 13), .int (Fa 7), .ref (o 14), .ref (o 15), .int ((Fa 8) + (1 : Int32)), .int (Fa 9), .ref (o 16), .ref (o 17), .ref (o 18), .ref (o 19)])), ((o 1), .inl (cI, 160, .inl (Aa 0))), ((o 2), .inl (cI, 100, .inl (Aa 1))), ((o 3), .inl (cI, 100, .inl (Aa 2))), ((o 4), .inl (cI, 100, .inl (Aa 3))), ((o 5), .inl (cI, 3, .inl (Aa 4))), ((o 6), .inl (cI, 26, .inl (Aa 5))), ((o 7), .inl (cI, 100, .inl (Aa 6))), ((o 8), .inl (cI, 100, .inl (Aa 7))), ((o 9), .inl (cI, 100, .inl (Aa 8))), ((o 10), .inl (cI, 26, .inl (Aa 9))), ((o 11), .inl (cI, 104, .inl (Aa 10))), ((o 12), .inl (cI, 80, .inl (Aa 11))), ((o 13), .inl (cI, 320, .inl (Aa 12))), ((o 14), .inl (cI, 200, .inl (Aa 13))), ((o 15), .inl (cI, 200, .inl (Aa 14))), ((o 16), .inl (cI, 4, .inl (Aa 15))), ((o 17), .inl (cI, 32, .inl (Aa 16))), ((o 18), .inl (cI, 32, .inl (Aa 17))), ((o 19), .inl (cI, 100, .inl (Aa 18)))] := hD
  refine lv_aload_n hx hb d_M_bracket_10 rfl (lv_at hl 0 rfl) ?_
  refine lv_aload_n hx hb d_M_bracket_11 rfl (lv_at hl 0 rfl) ?_
  refine va_get (D := (dC, dI)) (ci := 4) (v := .int (Fa 5)) (C := R_M) (T := T_M) (N := 29) hx hb hts in_M hown hK hP 0 rfl rfl 16 (by decide) (hts _ mw_519) (fun _ h9 => h9) rfl d_M_bracket_12 ?_
  refine lv_if_ne (tgt := 26) hx hb d_M_bracket_15 (by decide) (fun h15_1 => ?_) (fun h15_1 => ?_)
  · rw [if_neg h15_1] at hf
    refine lv_iconst (v := 1) hx hb d_M_bracket_26 (by decide) ?_
    refine lv_goto (tgt := 31) hx hb d_M_bracket_27 (by decide) ?_
    refine va_put (D := (dC, dI)) (ci := 4) (v := .int (1 : Int32)) (ty := .boolean) (C := R_M) (T := T_M) (N := 29) hx hb hts in_M ty_M ty_M_ok nm_M hown hK hP hD hS 0 rfl rfl 16 (by decide) (hts _ mw_519) (fun _ h9 => h9) rfl (by decide +kernel) rfl rfl (Nat.le_of_ble_eq_true rfl) d_M_bracket_31 (fun H locs hP hD hS => ?_)
    have hP : va_P (dC, dI) vC [((o 0), .inr (4, [.int (Fa 0), .int (Fa 1), .ref (o 1), .int (Fa 2), .ref (o 2), .ref (o 3), .ref (o 4), .ref (o 5), .ref (o 6), .int (Fa 3), .ref (o 7), .ref (o 8), .ref (o 9), .ref (o 10), .ref (o 11), .int (Fa 4), .int (1 : Int32), .int (Fa 6), .ref (o 12), .ref (o 13), .int (Fa 7), .ref (o 14), .ref (o 15), .int ((Fa 8) + (1 : Int32)), .int (Fa 9), .ref (o 16), .ref (o 17), .ref (o 18), .ref (o 19)])), ((o 1), .inl (cI, 160, .inl (Aa 0))), ((o 2), .inl (cI, 100, .inl (Aa 1))), ((o 3), .inl (cI, 100, .inl (Aa 2))), ((o 4), .inl (cI, 100, .inl (Aa 3))), ((o 5), .inl (cI, 3, .inl (Aa 4))), ((o 6), .inl (cI, 26, .inl (Aa 5))), ((o 7), .inl (cI, 100, .inl (Aa 6))), ((o 8), .inl (cI, 100, .inl (Aa 7))), ((o 9), .inl (cI, 100, .inl (Aa 8))), ((o 10), .inl (cI, 26, .inl (Aa 9))), ((o 11), .inl (cI, 104, .inl (Aa 10))), ((o 12), .inl (cI, 80, .inl (Aa 11))), ((o 13), .inl (cI, 320, .inl (Aa 12))), ((o 14), .inl (cI, 200, .inl (Aa 13))), ((o 15), .inl (cI, 200, .inl (Aa 14))), ((o 16), .inl (cI, 4, .inl (Aa 15))), ((o 17), .inl (cI, 32, .inl (Aa 16))), ((o 18), .inl (cI, 32, .inl (Aa 17))), ((o 19), .inl (cI, 100, .inl (Aa 18)))] H := hP
    have hD : va_D (va_A (wM o cI Fa Aa) s.heap.size) [((o 0), .inr (4, [.int (Fa 0), .int (Fa 1), .ref (o 1), .int (Fa 2), .ref (o 2), .ref (o 3), .ref (o 4), .ref (o 5), .ref (o 6), .int (Fa 3), .ref (o 7), .ref (o 8), .ref (o 9), .ref (o 10), .ref (o 11), .int (Fa 4), .int (1 : Int32), .int (Fa 6), .ref (o 12), .ref (o 13), .int (Fa 7), .ref (o 14), .ref (o 15), .int ((Fa 8) + (1 : Int32)), .int (Fa 9), .ref (o 16), .ref (o 17), .ref (o 18), .ref (o 19)])), ((o 1), .inl (cI, 160, .inl (Aa 0))), ((o 2), .inl (cI, 100, .inl (Aa 1))), ((o 3), .inl (cI, 100, .inl (Aa 2))), ((o 4), .inl (cI, 100, .inl (Aa 3))), ((o 5), .inl (cI, 3, .inl (Aa 4))), ((o 6), .inl (cI, 26, .inl (Aa 5))), ((o 7), .inl (cI, 100, .inl (Aa 6))), ((o 8), .inl (cI, 100, .inl (Aa 7))), ((o 9), .inl (cI, 100, .inl (Aa 8))), ((o 10), .inl (cI, 26, .inl (Aa 9))), ((o 11), .inl (cI, 104, .inl (Aa 10))), ((o 12), .inl (cI, 80, .inl (Aa 11))), ((o 13), .inl (cI, 320, .inl (Aa 12))), ((o 14), .inl (cI, 200, .inl (Aa 13))), ((o 15), .inl (cI, 200, .inl (Aa 14))), ((o 16), .inl (cI, 4, .inl (Aa 15))), ((o 17), .inl (cI, 32, .inl (Aa 16))), ((o 18), .inl (cI, 32, .inl (Aa 17))), ((o 19), .inl (cI, 100, .inl (Aa 18)))] := hD
    refine lv_aload_n hx hb d_M_bracket_34 rfl (lv_at hl 0 rfl) ?_
    refine lv_iload_n hx hb d_M_bracket_35 rfl (lv_at hl 1 rfl) ?_
    have hP : va_P (dC, dI) vC (wM o cI (upd (upd Fa 8 ((Fa 8) + (1 : Int32))) 5 (1 : Int32)) Aa) H := hP
    have hD : va_D (va_A (wM o cI Fa Aa) s.heap.size) (wM o cI (upd (upd Fa 8 ((Fa 8) + (1 : Int32))) 5 (1 : Int32)) Aa) := hD
    obtain ⟨F2, A2, hc, hf⟩ := ra_bv_some hf
    refine cc_callv (va_runV (As := [.int u1]) (rest := []) ⟨hx, hb, hml, hown, hts⟩ (k_M_hold l dC dI o cI H.size (upd (upd Fa 8 ((Fa 8) + (1 : Int32))) 5 (1 : Int32)) Aa u1 F2 A2 hc) (cw_V 1 hts mw_695 mw_697 ms_M_hold mw_5 mw_698 rfl rfl rfl hd_M_hold ⟨Nat.le_of_ble_eq_true rfl, Nat.le_of_ble_eq_true rfl⟩) (cc_preV hK hP hD rfl (q0 := 0) rfl) rfl rfl hl.1 rfl (lv_room (Nat.le_of_ble_eq_true rfl)) d_M_bracket_36 ⟨Nat.zero_le _, Nat.zero_le _⟩) hD hS hA (fun H locs hP hD hS => ?_)
    cases hf
    exact W.vret hx hb hr (fun t ht hW => ⟨⟨(), rfl, trivial, by rw [ht]; exact hP, va_K.moved hW.alike hK, hD⟩, hS.F ht⟩) hS.2.2 d_M_bracket_39
  · rw [if_pos h15_1] at hf
    refine lv_aload_n hx hb d_M_bracket_18 rfl (lv_at hl 0 rfl) ?_
    refine va_get (D := (dC, dI)) (ci := 4) (v := .int ((Fa 8) + (1 : Int32))) (C := R_M) (T := T_M) (N := 29) hx hb hts in_M hown hK hP 0 rfl rfl 23 (by decide) (hts _ mw_526) (fun _ h9 => h9) rfl d_M_bracket_19 ?_
    refine lv_iconst (v := 5) hx hb d_M_bracket_22 (by decide) ?_
    refine lv_icmp_le (tgt := 30) hx hb d_M_bracket_23 (by decide) (fun h23_3 => ?_) (fun h23_3 => ?_)
    · rw [if_pos h23_3] at hf
      refine lv_iconst (v := 0) hx hb d_M_bracket_30 (by decide) ?_
      refine va_put (D := (dC, dI)) (ci := 4) (v := .int (0 : Int32)) (ty := .boolean) (C := R_M) (T := T_M) (N := 29) hx hb hts in_M ty_M ty_M_ok nm_M hown hK hP hD hS 0 rfl rfl 16 (by decide) (hts _ mw_519) (fun _ h9 => h9) rfl (by decide +kernel) rfl rfl (Nat.le_of_ble_eq_true rfl) d_M_bracket_31 (fun H locs hP hD hS => ?_)
      have hP : va_P (dC, dI) vC [((o 0), .inr (4, [.int (Fa 0), .int (Fa 1), .ref (o 1), .int (Fa 2), .ref (o 2), .ref (o 3), .ref (o 4), .ref (o 5), .ref (o 6), .int (Fa 3), .ref (o 7), .ref (o 8), .ref (o 9), .ref (o 10), .ref (o 11), .int (Fa 4), .int (0 : Int32), .int (Fa 6), .ref (o 12), .ref (o 13), .int (Fa 7), .ref (o 14), .ref (o 15), .int ((Fa 8) + (1 : Int32)), .int (Fa 9), .ref (o 16), .ref (o 17), .ref (o 18), .ref (o 19)])), ((o 1), .inl (cI, 160, .inl (Aa 0))), ((o 2), .inl (cI, 100, .inl (Aa 1))), ((o 3), .inl (cI, 100, .inl (Aa 2))), ((o 4), .inl (cI, 100, .inl (Aa 3))), ((o 5), .inl (cI, 3, .inl (Aa 4))), ((o 6), .inl (cI, 26, .inl (Aa 5))), ((o 7), .inl (cI, 100, .inl (Aa 6))), ((o 8), .inl (cI, 100, .inl (Aa 7))), ((o 9), .inl (cI, 100, .inl (Aa 8))), ((o 10), .inl (cI, 26, .inl (Aa 9))), ((o 11), .inl (cI, 104, .inl (Aa 10))), ((o 12), .inl (cI, 80, .inl (Aa 11))), ((o 13), .inl (cI, 320, .inl (Aa 12))), ((o 14), .inl (cI, 200, .inl (Aa 13))), ((o 15), .inl (cI, 200, .inl (Aa 14))), ((o 16), .inl (cI, 4, .inl (Aa 15))), ((o 17), .inl (cI, 32, .inl (Aa 16))), ((o 18), .inl (cI, 32, .inl (Aa 17))), ((o 19), .inl (cI, 100, .inl (Aa 18)))] H := hP
      have hD : va_D (va_A (wM o cI Fa Aa) s.heap.size) [((o 0), .inr (4, [.int (Fa 0), .int (Fa 1), .ref (o 1), .int (Fa 2), .ref (o 2), .ref (o 3), .ref (o 4), .ref (o 5), .ref (o 6), .int (Fa 3), .ref (o 7), .ref (o 8), .ref (o 9), .ref (o 10), .ref (o 11), .int (Fa 4), .int (0 : Int32), .int (Fa 6), .ref (o 12), .ref (o 13), .int (Fa 7), .ref (o 14), .ref (o 15), .int ((Fa 8) + (1 : Int32)), .int (Fa 9), .ref (o 16), .ref (o 17), .ref (o 18), .ref (o 19)])), ((o 1), .inl (cI, 160, .inl (Aa 0))), ((o 2), .inl (cI, 100, .inl (Aa 1))), ((o 3), .inl (cI, 100, .inl (Aa 2))), ((o 4), .inl (cI, 100, .inl (Aa 3))), ((o 5), .inl (cI, 3, .inl (Aa 4))), ((o 6), .inl (cI, 26, .inl (Aa 5))), ((o 7), .inl (cI, 100, .inl (Aa 6))), ((o 8), .inl (cI, 100, .inl (Aa 7))), ((o 9), .inl (cI, 100, .inl (Aa 8))), ((o 10), .inl (cI, 26, .inl (Aa 9))), ((o 11), .inl (cI, 104, .inl (Aa 10))), ((o 12), .inl (cI, 80, .inl (Aa 11))), ((o 13), .inl (cI, 320, .inl (Aa 12))), ((o 14), .inl (cI, 200, .inl (Aa 13))), ((o 15), .inl (cI, 200, .inl (Aa 14))), ((o 16), .inl (cI, 4, .inl (Aa 15))), ((o 17), .inl (cI, 32, .inl (Aa 16))), ((o 18), .inl (cI, 32, .inl (Aa 17))), ((o 19), .inl (cI, 100, .inl (Aa 18)))] := hD
      refine lv_aload_n hx hb d_M_bracket_34 rfl (lv_at hl 0 rfl) ?_
      refine lv_iload_n hx hb d_M_bracket_35 rfl (lv_at hl 1 rfl) ?_
      have hP : va_P (dC, dI) vC (wM o cI (upd (upd Fa 8 ((Fa 8) + (1 : Int32))) 5 (0 : Int32)) Aa) H := hP
      have hD : va_D (va_A (wM o cI Fa Aa) s.heap.size) (wM o cI (upd (upd Fa 8 ((Fa 8) + (1 : Int32))) 5 (0 : Int32)) Aa) := hD
      obtain ⟨F4, A4, hc, hf⟩ := ra_bv_some hf
      refine cc_callv (va_runV (As := [.int u1]) (rest := []) ⟨hx, hb, hml, hown, hts⟩ (k_M_hold l dC dI o cI H.size (upd (upd Fa 8 ((Fa 8) + (1 : Int32))) 5 (0 : Int32)) Aa u1 F4 A4 hc) (cw_V 1 hts mw_695 mw_697 ms_M_hold mw_5 mw_698 rfl rfl rfl hd_M_hold ⟨Nat.le_of_ble_eq_true rfl, Nat.le_of_ble_eq_true rfl⟩) (cc_preV hK hP hD rfl (q0 := 0) rfl) rfl rfl hl.1 rfl (lv_room (Nat.le_of_ble_eq_true rfl)) d_M_bracket_36 ⟨Nat.zero_le _, Nat.zero_le _⟩) hD hS hA (fun H locs hP hD hS => ?_)
      cases hf
      exact W.vret hx hb hr (fun t ht hW => ⟨⟨(), rfl, trivial, by rw [ht]; exact hP, va_K.moved hW.alike hK, hD⟩, hS.F ht⟩) hS.2.2 d_M_bracket_39
    · rw [if_neg h23_3] at hf
      refine lv_iconst (v := 1) hx hb d_M_bracket_26 (by decide) ?_
      refine lv_goto (tgt := 31) hx hb d_M_bracket_27 (by decide) ?_
      refine va_put (D := (dC, dI)) (ci := 4) (v := .int (1 : Int32)) (ty := .boolean) (C := R_M) (T := T_M) (N := 29) hx hb hts in_M ty_M ty_M_ok nm_M hown hK hP hD hS 0 rfl rfl 16 (by decide) (hts _ mw_519) (fun _ h9 => h9) rfl (by decide +kernel) rfl rfl (Nat.le_of_ble_eq_true rfl) d_M_bracket_31 (fun H locs hP hD hS => ?_)
      have hP : va_P (dC, dI) vC [((o 0), .inr (4, [.int (Fa 0), .int (Fa 1), .ref (o 1), .int (Fa 2), .ref (o 2), .ref (o 3), .ref (o 4), .ref (o 5), .ref (o 6), .int (Fa 3), .ref (o 7), .ref (o 8), .ref (o 9), .ref (o 10), .ref (o 11), .int (Fa 4), .int (1 : Int32), .int (Fa 6), .ref (o 12), .ref (o 13), .int (Fa 7), .ref (o 14), .ref (o 15), .int ((Fa 8) + (1 : Int32)), .int (Fa 9), .ref (o 16), .ref (o 17), .ref (o 18), .ref (o 19)])), ((o 1), .inl (cI, 160, .inl (Aa 0))), ((o 2), .inl (cI, 100, .inl (Aa 1))), ((o 3), .inl (cI, 100, .inl (Aa 2))), ((o 4), .inl (cI, 100, .inl (Aa 3))), ((o 5), .inl (cI, 3, .inl (Aa 4))), ((o 6), .inl (cI, 26, .inl (Aa 5))), ((o 7), .inl (cI, 100, .inl (Aa 6))), ((o 8), .inl (cI, 100, .inl (Aa 7))), ((o 9), .inl (cI, 100, .inl (Aa 8))), ((o 10), .inl (cI, 26, .inl (Aa 9))), ((o 11), .inl (cI, 104, .inl (Aa 10))), ((o 12), .inl (cI, 80, .inl (Aa 11))), ((o 13), .inl (cI, 320, .inl (Aa 12))), ((o 14), .inl (cI, 200, .inl (Aa 13))), ((o 15), .inl (cI, 200, .inl (Aa 14))), ((o 16), .inl (cI, 4, .inl (Aa 15))), ((o 17), .inl (cI, 32, .inl (Aa 16))), ((o 18), .inl (cI, 32, .inl (Aa 17))), ((o 19), .inl (cI, 100, .inl (Aa 18)))] H := hP
      have hD : va_D (va_A (wM o cI Fa Aa) s.heap.size) [((o 0), .inr (4, [.int (Fa 0), .int (Fa 1), .ref (o 1), .int (Fa 2), .ref (o 2), .ref (o 3), .ref (o 4), .ref (o 5), .ref (o 6), .int (Fa 3), .ref (o 7), .ref (o 8), .ref (o 9), .ref (o 10), .ref (o 11), .int (Fa 4), .int (1 : Int32), .int (Fa 6), .ref (o 12), .ref (o 13), .int (Fa 7), .ref (o 14), .ref (o 15), .int ((Fa 8) + (1 : Int32)), .int (Fa 9), .ref (o 16), .ref (o 17), .ref (o 18), .ref (o 19)])), ((o 1), .inl (cI, 160, .inl (Aa 0))), ((o 2), .inl (cI, 100, .inl (Aa 1))), ((o 3), .inl (cI, 100, .inl (Aa 2))), ((o 4), .inl (cI, 100, .inl (Aa 3))), ((o 5), .inl (cI, 3, .inl (Aa 4))), ((o 6), .inl (cI, 26, .inl (Aa 5))), ((o 7), .inl (cI, 100, .inl (Aa 6))), ((o 8), .inl (cI, 100, .inl (Aa 7))), ((o 9), .inl (cI, 100, .inl (Aa 8))), ((o 10), .inl (cI, 26, .inl (Aa 9))), ((o 11), .inl (cI, 104, .inl (Aa 10))), ((o 12), .inl (cI, 80, .inl (Aa 11))), ((o 13), .inl (cI, 320, .inl (Aa 12))), ((o 14), .inl (cI, 200, .inl (Aa 13))), ((o 15), .inl (cI, 200, .inl (Aa 14))), ((o 16), .inl (cI, 4, .inl (Aa 15))), ((o 17), .inl (cI, 32, .inl (Aa 16))), ((o 18), .inl (cI, 32, .inl (Aa 17))), ((o 19), .inl (cI, 100, .inl (Aa 18)))] := hD
      refine lv_aload_n hx hb d_M_bracket_34 rfl (lv_at hl 0 rfl) ?_
      refine lv_iload_n hx hb d_M_bracket_35 rfl (lv_at hl 1 rfl) ?_
      have hP : va_P (dC, dI) vC (wM o cI (upd (upd Fa 8 ((Fa 8) + (1 : Int32))) 5 (1 : Int32)) Aa) H := hP
      have hD : va_D (va_A (wM o cI Fa Aa) s.heap.size) (wM o cI (upd (upd Fa 8 ((Fa 8) + (1 : Int32))) 5 (1 : Int32)) Aa) := hD
      obtain ⟨F5, A5, hc, hf⟩ := ra_bv_some hf
      refine cc_callv (va_runV (As := [.int u1]) (rest := []) ⟨hx, hb, hml, hown, hts⟩ (k_M_hold l dC dI o cI H.size (upd (upd Fa 8 ((Fa 8) + (1 : Int32))) 5 (1 : Int32)) Aa u1 F5 A5 hc) (cw_V 1 hts mw_695 mw_697 ms_M_hold mw_5 mw_698 rfl rfl rfl hd_M_hold ⟨Nat.le_of_ble_eq_true rfl, Nat.le_of_ble_eq_true rfl⟩) (cc_preV hK hP hD rfl (q0 := 0) rfl) rfl rfl hl.1 rfl (lv_room (Nat.le_of_ble_eq_true rfl)) d_M_bracket_36 ⟨Nat.zero_le _, Nat.zero_le _⟩) hD hS hA (fun H locs hP hD hS => ?_)
      cases hf
      exact W.vret hx hb hr (fun t ht hW => ⟨⟨(), rfl, trivial, by rw [ht]; exact hP, va_K.moved hW.alike hK, hD⟩, hS.F ht⟩) hS.2.2 d_M_bracket_39
def f_M_size  (Fa : ST_F) (Aa : ST_A) : Option (Int32 × ST_F × ST_A) := some ((Fa 2), (upd Fa 0 (0 : Int32)), Aa)
set_option maxHeartbeats 4000000 in
set_option maxRecDepth 100000 in
theorem k_M_size (l : Launch) (dC : Nat → ClassId) (dI : Nat → Nat → Nat) (o : Nat → Nat) (cI : ClassId) (sz : Nat) (Fa : ST_F) (Aa : ST_A)  (r0 : Int32) (F9 : ST_F) (A9 : ST_A) (hf : f_M_size  Fa Aa = some (r0, F9, A9)) : cc_MetI l y_M_size (Cond.code y_M_size b_M_size 1 (some .int) :: wA) ({ frames := 0, cells := 0, slots := 0, locals := 0 } : Room) (dC, dI) vC [(cI, .int)] ([.ref (o 0)] : List Value) (wM o cI Fa Aa) sz (wM o cI F9 A9) r0 := by
  refine Met.ofW (cc := b_M_size) (maxL := 1) (ret := (some .int)) (by decide) rfl ?_
  intro p e s m args below meth c s₁ B hml hv
  obtain ⟨rfl, hsz, hP, hK, hD0⟩ := hv
  have hx := B.exec
  have hb := B.bytes
  have hr := B.returns
  have hts := fun w h => atoms_spec (ws := (Cond.code y_M_size b_M_size 1 (some .int) :: wA)) B.pre w (List.mem_cons_of_mem _ h)
  have hown : s.vm.findClass R_M = some m.cls := findClass_of_methodNamed B.named
  have hlocks := B.notSynchronized
  subst hsz
  have hD := hD0.self (sz := s.heap.size)
  have hA : ∀ q : Nat, s.heap.size ≤ q → va_A (wM o cI Fa Aa) s.heap.size q := fun q h => Or.inr h
  have hS : va_S (va_A (wM o cI Fa Aa) s.heap.size) s.heap s.heap [] := va_S.rf
  have hl := lv_entry (([.ref (o 0)] : List Value)) (n := 1) (Nat.le_of_ble_eq_true rfl)
  rw [lg_entry_eq]
  generalize (lg_sl (([.ref (o 0)] : List Value)) ++ List.replicate (1 - (lg_sl (([.ref (o 0)] : List Value))).length) Slot.unset).toArray = ls at hl ⊢
  have hl : lv_has ls 1 [(0, .ref (o 0))] := hl
  unfold f_M_size at hf
  refine lv_aload_n hx hb d_M_size_0 rfl (lv_at hl 0 rfl) ?_
  refine lv_iconst (v := 0) hx hb d_M_size_1 (by decide) ?_
  refine va_put (D := (dC, dI)) (ci := 4) (v := .int (0 : Int32)) (ty := .int) (C := R_M) (T := T_M) (N := 29) hx hb hts in_M ty_M ty_M_ok nm_M hown hK hP hD hS 0 rfl rfl 0 (by decide) (hts _ mw_503) (fun _ h9 => h9) rfl (by decide +kernel) rfl rfl (Nat.le_of_ble_eq_true rfl) d_M_size_2 (fun H locs hP hD hS => ?_)
  have hP : va_P (dC, dI) vC [((o 0), .inr (4, [.int (0 : Int32), .int (Fa 1), .ref (o 1), .int (Fa 2), .ref (o 2), .ref (o 3), .ref (o 4), .ref (o 5), .ref (o 6), .int (Fa 3), .ref (o 7), .ref (o 8), .ref (o 9), .ref (o 10), .ref (o 11), .int (Fa 4), .int (Fa 5), .int (Fa 6), .ref (o 12), .ref (o 13), .int (Fa 7), .ref (o 14), .ref (o 15), .int (Fa 8), .int (Fa 9), .ref (o 16), .ref (o 17), .ref (o 18), .ref (o 19)])), ((o 1), .inl (cI, 160, .inl (Aa 0))), ((o 2), .inl (cI, 100, .inl (Aa 1))), ((o 3), .inl (cI, 100, .inl (Aa 2))), ((o 4), .inl (cI, 100, .inl (Aa 3))), ((o 5), .inl (cI, 3, .inl (Aa 4))), ((o 6), .inl (cI, 26, .inl (Aa 5))), ((o 7), .inl (cI, 100, .inl (Aa 6))), ((o 8), .inl (cI, 100, .inl (Aa 7))), ((o 9), .inl (cI, 100, .inl (Aa 8))), ((o 10), .inl (cI, 26, .inl (Aa 9))), ((o 11), .inl (cI, 104, .inl (Aa 10))), ((o 12), .inl (cI, 80, .inl (Aa 11))), ((o 13), .inl (cI, 320, .inl (Aa 12))), ((o 14), .inl (cI, 200, .inl (Aa 13))), ((o 15), .inl (cI, 200, .inl (Aa 14))), ((o 16), .inl (cI, 4, .inl (Aa 15))), ((o 17), .inl (cI, 32, .inl (Aa 16))), ((o 18), .inl (cI, 32, .inl (Aa 17))), ((o 19), .inl (cI, 100, .inl (Aa 18)))] H := hP
  have hD : va_D (va_A (wM o cI Fa Aa) s.heap.size) [((o 0), .inr (4, [.int (0 : Int32), .int (Fa 1), .ref (o 1), .int (Fa 2), .ref (o 2), .ref (o 3), .ref (o 4), .ref (o 5), .ref (o 6), .int (Fa 3), .ref (o 7), .ref (o 8), .ref (o 9), .ref (o 10), .ref (o 11), .int (Fa 4), .int (Fa 5), .int (Fa 6), .ref (o 12), .ref (o 13), .int (Fa 7), .ref (o 14), .ref (o 15), .int (Fa 8), .int (Fa 9), .ref (o 16), .ref (o 17), .ref (o 18), .ref (o 19)])), ((o 1), .inl (cI, 160, .inl (Aa 0))), ((o 2), .inl (cI, 100, .inl (Aa 1))), ((o 3), .inl (cI, 100, .inl (Aa 2))), ((o 4), .inl (cI, 100, .inl (Aa 3))), ((o 5), .inl (cI, 3, .inl (Aa 4))), ((o 6), .inl (cI, 26, .inl (Aa 5))), ((o 7), .inl (cI, 100, .inl (Aa 6))), ((o 8), .inl (cI, 100, .inl (Aa 7))), ((o 9), .inl (cI, 100, .inl (Aa 8))), ((o 10), .inl (cI, 26, .inl (Aa 9))), ((o 11), .inl (cI, 104, .inl (Aa 10))), ((o 12), .inl (cI, 80, .inl (Aa 11))), ((o 13), .inl (cI, 320, .inl (Aa 12))), ((o 14), .inl (cI, 200, .inl (Aa 13))), ((o 15), .inl (cI, 200, .inl (Aa 14))), ((o 16), .inl (cI, 4, .inl (Aa 15))), ((o 17), .inl (cI, 32, .inl (Aa 16))), ((o 18), .inl (cI, 32, .inl (Aa 17))), ((o 19), .inl (cI, 100, .inl (Aa 18)))] := hD
  refine lv_aload_n hx hb d_M_size_5 rfl (lv_at hl 0 rfl) ?_
  refine va_get (D := (dC, dI)) (ci := 4) (v := .int (Fa 2)) (C := R_M) (T := T_M) (N := 29) hx hb hts in_M hown hK hP 0 rfl rfl 3 (by decide) (hts _ mw_506) (fun _ h9 => h9) rfl d_M_size_6 ?_
  cases hf
  exact W.iret hx hb hr (fun t ht hW => ⟨⟨_, (), rfl, rfl, by rw [ht]; exact hP, va_K.moved hW.alike hK, hD⟩, hS.F ht⟩) hS.2.2 d_M_size_9
