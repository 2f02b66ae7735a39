def f_N_saturate (u0 : Int64) : Int32 := if (lg_cmp u0 (2147483647 : Int64)) ≤ 0 then (if 0 ≤ (lg_cmp u0 (-2147483648 : Int64)) then ((u0.toInt32)) else ((-2147483648 : Int32))) else ((2147483647 : Int32))
set_option maxHeartbeats 4000000 in
set_option maxRecDepth 100000 in
theorem k_N_saturate (l : Launch) (u0 : Int64) (r0 : Int32) (hf : f_N_saturate u0 = r0) : cc_MetS l y_N_saturate (Cond.code y_N_saturate b_N_saturate 2 (some .int) :: wA) ({ frames := 0, cells := 0, slots := 0, locals := 0 } : Room) ([.long u0] : List Value) r0 := by
  refine Met.ofW (cc := b_N_saturate) (maxL := 2) (ret := (some .int)) (by decide) rfl ?_
  intro p e s m args below meth c s₁ B hml hv
  obtain rfl : args = ([.long u0] : List Value).toArray := hv
  have hx := B.exec
  have hb := B.bytes
  have hr := B.returns
  have hts := fun w h => atoms_spec (ws := (Cond.code y_N_saturate b_N_saturate 2 (some .int) :: wA)) B.pre w (List.mem_cons_of_mem _ h)
  have hown : s.vm.findClass R_N = some m.cls := findClass_of_methodNamed B.named
  have hlocks := B.notSynchronized
  have hl := lv_entry (([.long u0] : List Value)) (n := 2) (Nat.le_of_ble_eq_true rfl)
  rw [lg_entry_eq]
  generalize (lg_sl (([.long u0] : List Value)) ++ List.replicate (2 - (lg_sl (([.long u0] : List Value))).length) Slot.unset).toArray = ls at hl ⊢
  have hl : lv_has ls 2 [(0, .long u0)] := hl
  unfold f_N_saturate at hf
  refine lv_lload_n hx hb d_N_saturate_0 rfl (lv_at hl 0 rfl) ?_
  refine lv_ldc2 (v := 2147483647) hx hb hown (hts _ mw_449) d_N_saturate_1 ?_
  refine W.lcmp hx hb d_N_saturate_4 ?_
  refine lv_if_le (tgt := 11) hx hb d_N_saturate_5 (by decide) (fun h5_1 => ?_) (fun h5_1 => ?_)
  · rw [if_pos h5_1] at hf
    refine lv_lload_n hx hb d_N_saturate_11 rfl (lv_at hl 0 rfl) ?_
    refine lv_ldc2 (v := -2147483648) hx hb hown (hts _ mw_451) d_N_saturate_12 ?_
    refine W.lcmp hx hb d_N_saturate_15 ?_
    refine lv_if_ge (tgt := 24) hx hb d_N_saturate_16 (by decide) (fun h16_2 => ?_) (fun h16_2 => ?_)
    · rw [if_pos h16_2] at hf
      refine lv_lload_n hx hb d_N_saturate_24 rfl (lv_at hl 0 rfl) ?_
      refine lv_l2i hx hb d_N_saturate_25 rfl ?_
      exact W.iret (v := (u0.toInt32)) hx hb hr (fun t ht hW => ⟨_, rfl, hf, ht⟩) (fun q h => by cases h) d_N_saturate_26
    · rw [if_neg h16_2] at hf
      refine lv_ldc (v := -2147483648) hx hb hown (hts _ mw_452) d_N_saturate_19 ?_
      refine lv_goto (tgt := 26) hx hb d_N_saturate_21 (by decide) ?_
      exact W.iret (v := (-2147483648 : Int32)) hx hb hr (fun t ht hW => ⟨_, rfl, hf, ht⟩) (fun q h => by cases h) d_N_saturate_26
  · rw [if_neg h5_1] at hf
    refine lv_ldc (v := 2147483647) hx hb hown (hts _ mw_450) d_N_saturate_8 ?_
    exact W.iret (v := (2147483647 : Int32)) hx hb hr (fun t ht hW => ⟨_, rfl, hf, ht⟩) (fun q h => by cases h) d_N_saturate_10
def f_N_divide (u0 : Int32) (u1 : Int32) : Option Int32 := if u1 = 0 then (if u0 = 0 then (some (0 : Int32)) else (if u0 ≤ 0 then (some (-2147483648 : Int32)) else (some (2147483647 : Int32)))) else (ra_nzl (u1.toInt64) (some (f_N_saturate (((u0.toInt64) * (65536 : Int64)) / (u1.toInt64)))))
set_option maxHeartbeats 4000000 in
set_option maxRecDepth 100000 in
theorem k_N_divide (l : Launch) (u0 : Int32) (u1 : Int32) (r0 : Int32) (hf : f_N_divide u0 u1 = some r0) : cc_MetS l y_N_divide (Cond.code y_N_divide b_N_divide 2 (some .int) :: wA) ({ frames := 1, cells := 0, slots := 0, locals := 21 } : Room) ([.int u0, .int u1] : List Value) r0 := by
  refine Met.ofW (cc := b_N_divide) (maxL := 2) (ret := (some .int)) (by decide) rfl ?_
  intro p e s m args below meth c s₁ B hml hv
  obtain rfl : args = ([.int u0, .int u1] : List Value).toArray := hv
  have hx := B.exec
  have hb := B.bytes
  have hr := B.returns
  have hts := fun w h => atoms_spec (ws := (Cond.code y_N_divide b_N_divide 2 (some .int) :: wA)) B.pre w (List.mem_cons_of_mem _ h)
  have hown : s.vm.findClass R_N = some m.cls := findClass_of_methodNamed B.named
  have hlocks := B.notSynchronized
  have hl := lv_entry (([.int u0, .int u1] : List Value)) (n := 2) (Nat.le_of_ble_eq_true rfl)
  rw [lg_entry_eq]
  generalize (lg_sl (([.int u0, .int u1] : List Value)) ++ List.replicate (2 - (lg_sl (([.int u0, .int u1] : List Value))).length) Slot.unset).toArray = ls at hl ⊢
  have hl : lv_has ls 2 [(0, .int u0), (1, .int u1)] := hl
  unfold f_N_divide at hf
  refine lv_iload_n hx hb d_N_divide_0 rfl (lv_at hl 1 rfl) ?_
  refine lv_if_eq (tgt := 17) hx hb d_N_divide_1 (by decide) (fun h1_1 => ?_) (fun h1_1 => ?_)
  · rw [if_pos h1_1] at hf
    refine lv_iload_n hx hb d_N_divide_17 rfl (lv_at hl 0 rfl) ?_
    refine lv_if_ne (tgt := 23) hx hb d_N_divide_18 (by decide) (fun h18_2 => ?_) (fun h18_2 => ?_)
    · rw [if_neg h18_2] at hf
      refine lv_iload_n hx hb d_N_divide_23 rfl (lv_at hl 0 rfl) ?_
      refine lv_if_le (tgt := 32) hx hb d_N_divide_24 (by decide) (fun h24_3 => ?_) (fun h24_3 => ?_)
      · rw [if_pos h24_3] at hf
        refine lv_ldc (v := -2147483648) hx hb hown (hts _ mw_452) d_N_divide_32 ?_
        cases hf
        exact W.iret hx hb hr (fun t ht hW => ⟨_, rfl, rfl, ht⟩) (fun q h => by cases h) d_N_divide_34
      · rw [if_neg h24_3] at hf
        refine lv_ldc (v := 2147483647) hx hb hown (hts _ mw_450) d_N_divide_27 ?_
        refine lv_goto (tgt := 34) hx hb d_N_divide_29 (by decide) ?_
        cases hf
        exact W.iret hx hb hr (fun t ht hW => ⟨_, rfl, rfl, ht⟩) (fun q h => by cases h) d_N_divide_34
    · rw [if_pos h18_2] at hf
      refine lv_iconst (v := 0) hx hb d_N_divide_21 (by decide) ?_
      cases hf
      exact W.iret hx hb hr (fun t ht hW => ⟨_, rfl, rfl, ht⟩) (fun q h => by cases h) d_N_divide_22
  · rw [if_neg h1_1] at hf
    refine lv_iload_n hx hb d_N_divide_4 rfl (lv_at hl 0 rfl) ?_
    refine lv_i2l hx hb d_N_divide_5 rfl ?_
    refine lv_ldc2 (v := 65536) hx hb hown (hts _ mw_456) d_N_divide_6 ?_
    refine lv_lmul hx hb d_N_divide_9 ?_
    refine lv_iload_n hx hb d_N_divide_10 rfl (lv_at hl 1 rfl) ?_
    refine lv_i2l hx hb d_N_divide_11 rfl ?_
    obtain ⟨hn, hf⟩ := ra_nzl_some hf
    refine lv_ldiv hx hb d_N_divide_12 hn ?_
    refine cc_calls (va_runS (As := [.long (((u0.toInt64) * (65536 : Int64)) / (u1.toInt64))]) (rest := []) ⟨hx, hb, hml, hown, hts⟩ (k_N_saturate l (((u0.toInt64) * (65536 : Int64)) / (u1.toInt64)) _ rfl) (cw_S 1 hts mw_446 mw_447 mw_14 mw_448 rfl rfl hd_N_saturate ⟨Nat.le_of_ble_eq_true rfl, Nat.le_of_ble_eq_true rfl⟩) cc_preS rfl rfl hl.1 rfl (lv_room (Nat.le_of_ble_eq_true rfl)) d_N_divide_13 ⟨Nat.zero_le _, Nat.zero_le _⟩) ?_
    cases hf
    exact W.iret hx hb hr (fun t ht hW => ⟨_, rfl, rfl, ht⟩) (fun q h => by cases h) d_N_divide_16
def f_N_operate (u0 : Int32) (u1 : Int32) (u2 : Int32) : Option Int32 := if u0 = (2 : Int32) then (some (f_N_saturate ((u1.toInt64) + (u2.toInt64)))) else (if u0 = (3 : Int32) then (some (f_N_saturate ((u1.toInt64) - (u2.toInt64)))) else (if u0 = (4 : Int32) then (some (f_N_saturate (((u1.toInt64) * (u2.toInt64)) >>> ((16 : Int32).toInt64 &&& 63)))) else (if u0 = (5 : Int32) then ((f_N_divide u1 u2).bind (fun r5 => some r5)) else (if u0 = (6 : Int32) then (some (if u2 < u1 then u2 else u1)) else (if u0 = (7 : Int32) then (some (if u1 < u2 then u2 else u1)) else (if u0 = (8 : Int32) then (if u2 < u1 then (some (0 : Int32)) else (some (65536 : Int32))) else (if u0 = (9 : Int32) then (some (f_N_saturate (-(u1.toInt64)))) else (if u0 = (10 : Int32) then (some (f_N_saturate (if (0 : Int64) < (u1.toInt64) then (u1.toInt64) else -(u1.toInt64)))) else (if u0 = (11 : Int32) then (some (u1 &&& (-65536 : Int32))) else (some (0 : Int32)))))))))))
set_option maxHeartbeats 4000000 in
set_option maxRecDepth 100000 in
theorem k_N_operate (l : Launch) (u0 : Int32) (u1 : Int32) (u2 : Int32) (r0 : Int32) (hf : f_N_operate u0 u1 u2 = some r0) : cc_MetS l y_N_operate (Cond.code y_N_operate b_N_operate 3 (some .int) :: wA) ({ frames := 2, cells := 0, slots := 0, locals := 42 } : Room) ([.int u0, .int u1, .int u2] : List Value) r0 := by
  refine Met.ofW (cc := b_N_operate) (maxL := 3) (ret := (some .int)) (by decide) rfl ?_
  intro p e s m args below meth c s₁ B hml hv
  obtain rfl : args = ([.int u0, .int u1, .int u2] : List Value).toArray := hv
  have hx := B.exec
  have hb := B.bytes
  have hr := B.returns
  have hts := fun w h => atoms_spec (ws := (Cond.code y_N_operate b_N_operate 3 (some .int) :: wA)) B.pre w (List.mem_cons_of_mem _ h)
  have hown : s.vm.findClass R_N = some m.cls := findClass_of_methodNamed B.named
  have hlocks := B.notSynchronized
  have hl := lv_entry (([.int u0, .int u1, .int u2] : List Value)) (n := 3) (Nat.le_of_ble_eq_true rfl)
  rw [lg_entry_eq]
  generalize (lg_sl (([.int u0, .int u1, .int u2] : List Value)) ++ List.replicate (3 - (lg_sl (([.int u0, .int u1, .int u2] : List Value))).length) Slot.unset).toArray = ls at hl ⊢
  have hl : lv_has ls 3 [(0, .int u0), (1, .int u1), (2, .int u2)] := hl
  unfold f_N_operate at hf
  refine lv_iload_n hx hb d_N_operate_0 rfl (lv_at hl 0 rfl) ?_
  by_cases h1_1 : u0 = (2 : Int32)
  · rw [if_pos h1_1] at hf
    refine lv_tableIn (tgt := 56) (off := 55) hx hb d_N_operate_1 (by rw [h1_1]; decide) (by rw [h1_1]; decide) (by rw [h1_1]; decide) (by decide) ?_
    refine lv_iload_n hx hb d_N_operate_56 rfl (lv_at hl 1 rfl) ?_
    refine lv_i2l hx hb d_N_operate_57 rfl ?_
    refine lv_iload_n hx hb d_N_operate_58 rfl (lv_at hl 2 rfl) ?_
    refine lv_i2l hx hb d_N_operate_59 rfl ?_
    refine lv_ladd hx hb d_N_operate_60 ?_
    refine cc_calls (va_runS (As := [.long ((u1.toInt64) + (u2.toInt64))]) (rest := []) ⟨hx, hb, hml, hown, hts⟩ (k_N_saturate l ((u1.toInt64) + (u2.toInt64)) _ rfl) (cw_S 1 hts mw_446 mw_447 mw_14 mw_448 rfl rfl hd_N_saturate ⟨Nat.le_of_ble_eq_true rfl, Nat.le_of_ble_eq_true rfl⟩) cc_preS rfl rfl hl.1 rfl (lv_room (Nat.le_of_ble_eq_true rfl)) d_N_operate_61 ⟨Nat.zero_le _, Nat.zero_le _⟩) ?_
    cases hf
    exact W.iret hx hb hr (fun t ht hW => ⟨_, rfl, rfl, ht⟩) (fun q h => by cases h) d_N_operate_64
  · rw [if_neg h1_1] at hf
    by_cases h1_2 : u0 = (3 : Int32)
    · rw [if_pos h1_2] at hf
      refine lv_tableIn (tgt := 65) (off := 64) hx hb d_N_operate_1 (by rw [h1_2]; decide) (by rw [h1_2]; decide) (by rw [h1_2]; decide) (by decide) ?_
      refine lv_iload_n hx hb d_N_operate_65 rfl (lv_at hl 1 rfl) ?_
      refine lv_i2l hx hb d_N_operate_66 rfl ?_
      refine lv_iload_n hx hb d_N_operate_67 rfl (lv_at hl 2 rfl) ?_
      refine lv_i2l hx hb d_N_operate_68 rfl ?_
      refine lv_lsub hx hb d_N_operate_69 ?_
      refine cc_calls (va_runS (As := [.long ((u1.toInt64) - (u2.toInt64))]) (rest := []) ⟨hx, hb, hml, hown, hts⟩ (k_N_saturate l ((u1.toInt64) - (u2.toInt64)) _ rfl) (cw_S 1 hts mw_446 mw_447 mw_14 mw_448 rfl rfl hd_N_saturate ⟨Nat.le_of_ble_eq_true rfl, Nat.le_of_ble_eq_true rfl⟩) cc_preS rfl rfl hl.1 rfl (lv_room (Nat.le_of_ble_eq_true rfl)) d_N_operate_70 ⟨Nat.zero_le _, Nat.zero_le _⟩) ?_
      cases hf
      exact W.iret hx hb hr (fun t ht hW => ⟨_, rfl, rfl, ht⟩) (fun q h => by cases h) d_N_operate_73
    · rw [if_neg h1_2] at hf
      by_cases h1_3 : u0 = (4 : Int32)
      · rw [if_pos h1_3] at hf
        refine lv_tableIn (tgt := 74) (off := 73) hx hb d_N_operate_1 (by rw [h1_3]; decide) (by rw [h1_3]; decide) (by rw [h1_3]; decide) (by decide) ?_
        refine lv_iload_n hx hb d_N_operate_74 rfl (lv_at hl 1 rfl) ?_
        refine lv_i2l hx hb d_N_operate_75 rfl ?_
        refine lv_iload_n hx hb d_N_operate_76 rfl (lv_at hl 2 rfl) ?_
        refine lv_i2l hx hb d_N_operate_77 rfl ?_
        refine lv_lmul hx hb d_N_operate_78 ?_
        refine lv_bipush (v := 16) hx hb d_N_operate_79 (by decide) ?_
        refine lv_lshr hx hb d_N_operate_81 rfl ?_
        refine cc_calls (va_runS (As := [.long (((u1.toInt64) * (u2.toInt64)) >>> ((16 : Int32).toInt64 &&& 63))]) (rest := []) ⟨hx, hb, hml, hown, hts⟩ (k_N_saturate l (((u1.toInt64) * (u2.toInt64)) >>> ((16 : Int32).toInt64 &&& 63)) _ rfl) (cw_S 1 hts mw_446 mw_447 mw_14 mw_448 rfl rfl hd_N_saturate ⟨Nat.le_of_ble_eq_true rfl, Nat.le_of_ble_eq_true rfl⟩) cc_preS rfl rfl hl.1 rfl (lv_room (Nat.le_of_ble_eq_true rfl)) d_N_operate_82 ⟨Nat.zero_le _, Nat.zero_le _⟩) ?_
        cases hf
        exact W.iret hx hb hr (fun t ht hW => ⟨_, rfl, rfl, ht⟩) (fun q h => by cases h) d_N_operate_85
      · rw [if_neg h1_3] at hf
        by_cases h1_4 : u0 = (5 : Int32)
        · rw [if_pos h1_4] at hf
          refine lv_tableIn (tgt := 86) (off := 85) hx hb d_N_operate_1 (by rw [h1_4]; decide) (by rw [h1_4]; decide) (by rw [h1_4]; decide) (by decide) ?_
          refine lv_iload_n hx hb d_N_operate_86 rfl (lv_at hl 1 rfl) ?_
          refine lv_iload_n hx hb d_N_operate_87 rfl (lv_at hl 2 rfl) ?_
          obtain ⟨r5, hc, hf⟩ := Option.bind_eq_some_iff.mp hf
          refine cc_calls (va_runS (As := [.int u1, .int u2]) (rest := []) ⟨hx, hb, hml, hown, hts⟩ (k_N_divide l u1 u2 r5 hc) (cw_S 2 hts mw_453 mw_454 mw_14 mw_455 rfl rfl hd_N_divide ⟨Nat.le_of_ble_eq_true rfl, Nat.le_of_ble_eq_true rfl⟩) cc_preS rfl rfl hl.1 rfl (lv_room (Nat.le_of_ble_eq_true rfl)) d_N_operate_88 ⟨Nat.zero_le _, Nat.zero_le _⟩) ?_
          cases hf
          exact W.iret hx hb hr (fun t ht hW => ⟨_, rfl, rfl, ht⟩) (fun q h => by cases h) d_N_operate_91
        · rw [if_neg h1_4] at hf
          by_cases h1_6 : u0 = (6 : Int32)
          · rw [if_pos h1_6] at hf
            refine lv_tableIn (tgt := 92) (off := 91) hx hb d_N_operate_1 (by rw [h1_6]; decide) (by rw [h1_6]; decide) (by rw [h1_6]; decide) (by decide) ?_
            refine lv_iload_n hx hb d_N_operate_92 rfl (lv_at hl 1 rfl) ?_
            refine lv_iload_n hx hb d_N_operate_93 rfl (lv_at hl 2 rfl) ?_
            refine va_mmin hx hb (hml.trans hl.1.symm) hown (hts _ mw_457) (hts _ mw_458) (hts _ mw_12) (hts _ mw_459) (Nat.le_of_ble_eq_true rfl) (Nat.le_of_ble_eq_true rfl) (Nat.zero_le _) (Nat.zero_le _) d_N_operate_94 ?_
            cases hf
            exact W.iret hx hb hr (fun t ht hW => ⟨_, rfl, rfl, ht⟩) (fun q h => by cases h) d_N_operate_97
          · rw [if_neg h1_6] at hf
            by_cases h1_7 : u0 = (7 : Int32)
            · rw [if_pos h1_7] at hf
              refine lv_tableIn (tgt := 98) (off := 97) hx hb d_N_operate_1 (by rw [h1_7]; decide) (by rw [h1_7]; decide) (by rw [h1_7]; decide) (by decide) ?_
              refine lv_iload_n hx hb d_N_operate_98 rfl (lv_at hl 1 rfl) ?_
              refine lv_iload_n hx hb d_N_operate_99 rfl (lv_at hl 2 rfl) ?_
              refine va_mmax hx hb (hml.trans hl.1.symm) hown (hts _ mw_460) (hts _ mw_249) (hts _ mw_12) (hts _ mw_250) (Nat.le_of_ble_eq_true rfl) (Nat.le_of_ble_eq_true rfl) (Nat.zero_le _) (Nat.zero_le _) d_N_operate_100 ?_
              cases hf
              exact W.iret hx hb hr (fun t ht hW => ⟨_, rfl, rfl, ht⟩) (fun q h => by cases h) d_N_operate_103
            · rw [if_neg h1_7] at hf
              by_cases h1_8 : u0 = (8 : Int32)
              · rw [if_pos h1_8] at hf
                refine lv_tableIn (tgt := 104) (off := 103) hx hb d_N_operate_1 (by rw [h1_8]; decide) (by rw [h1_8]; decide) (by rw [h1_8]; decide) (by decide) ?_
                refine lv_iload_n hx hb d_N_operate_104 rfl (lv_at hl 1 rfl) ?_
                refine lv_iload_n hx hb d_N_operate_105 rfl (lv_at hl 2 rfl) ?_
                refine lv_icmp_gt (tgt := 114) hx hb d_N_operate_106 (by decide) (fun h106_9 => ?_) (fun h106_9 => ?_)
                · rw [if_pos h106_9] at hf
                  refine lv_iconst (v := 0) hx hb d_N_operate_114 (by decide) ?_
                  cases hf
                  exact W.iret hx hb hr (fun t ht hW => ⟨_, rfl, rfl, ht⟩) (fun q h => by cases h) d_N_operate_115
                · rw [if_neg h106_9] at hf
                  refine lv_ldc (v := 65536) hx hb hown (hts _ mw_461) d_N_operate_109 ?_
                  refine lv_goto (tgt := 115) hx hb d_N_operate_111 (by decide) ?_
                  cases hf
                  exact W.iret hx hb hr (fun t ht hW => ⟨_, rfl, rfl, ht⟩) (fun q h => by cases h) d_N_operate_115
              · rw [if_neg h1_8] at hf
                by_cases h1_10 : u0 = (9 : Int32)
                · rw [if_pos h1_10] at hf
                  refine lv_tableIn (tgt := 116) (off := 115) hx hb d_N_operate_1 (by rw [h1_10]; decide) (by rw [h1_10]; decide) (by rw [h1_10]; decide) (by decide) ?_
                  refine lv_iload_n hx hb d_N_operate_116 rfl (lv_at hl 1 rfl) ?_
                  refine lv_i2l hx hb d_N_operate_117 rfl ?_
                  refine lv_lneg hx hb d_N_operate_118 ?_
                  refine cc_calls (va_runS (As := [.long (-(u1.toInt64))]) (rest := []) ⟨hx, hb, hml, hown, hts⟩ (k_N_saturate l (-(u1.toInt64)) _ rfl) (cw_S 1 hts mw_446 mw_447 mw_14 mw_448 rfl rfl hd_N_saturate ⟨Nat.le_of_ble_eq_true rfl, Nat.le_of_ble_eq_true rfl⟩) cc_preS rfl rfl hl.1 rfl (lv_room (Nat.le_of_ble_eq_true rfl)) d_N_operate_119 ⟨Nat.zero_le _, Nat.zero_le _⟩) ?_
                  cases hf
                  exact W.iret hx hb hr (fun t ht hW => ⟨_, rfl, rfl, ht⟩) (fun q h => by cases h) d_N_operate_122
                · rw [if_neg h1_10] at hf
                  by_cases h1_11 : u0 = (10 : Int32)
                  · rw [if_pos h1_11] at hf
                    refine lv_tableIn (tgt := 123) (off := 122) hx hb d_N_operate_1 (by rw [h1_11]; decide) (by rw [h1_11]; decide) (by rw [h1_11]; decide) (by decide) ?_
                    refine lv_iload_n hx hb d_N_operate_123 rfl (lv_at hl 1 rfl) ?_
                    refine lv_i2l hx hb d_N_operate_124 rfl ?_
                    refine va_mabs_long hx hb (hml.trans hl.1.symm) hown (hts _ mw_462) (hts _ mw_463) (hts _ mw_12) (hts _ mw_464) (Nat.le_of_ble_eq_true rfl) (Nat.le_of_ble_eq_true rfl) (Nat.zero_le _) (Nat.zero_le _) d_N_operate_125 ?_
                    refine cc_calls (va_runS (As := [.long (if (0 : Int64) < (u1.toInt64) then (u1.toInt64) else -(u1.toInt64))]) (rest := []) ⟨hx, hb, hml, hown, hts⟩ (k_N_saturate l (if (0 : Int64) < (u1.toInt64) then (u1.toInt64) else -(u1.toInt64)) _ rfl) (cw_S 1 hts mw_446 mw_447 mw_14 mw_448 rfl rfl hd_N_saturate ⟨Nat.le_of_ble_eq_true rfl, Nat.le_of_ble_eq_true rfl⟩) cc_preS rfl rfl hl.1 rfl (lv_room (Nat.le_of_ble_eq_true rfl)) d_N_operate_128 ⟨Nat.zero_le _, Nat.zero_le _⟩) ?_
                    cases hf
                    exact W.iret hx hb hr (fun t ht hW => ⟨_, rfl, rfl, ht⟩) (fun q h => by cases h) d_N_operate_131
                  · rw [if_neg h1_11] at hf
                    by_cases h1_12 : u0 = (11 : Int32)
                    · rw [if_pos h1_12] at hf
                      refine lv_tableIn (tgt := 132) (off := 131) hx hb d_N_operate_1 (by rw [h1_12]; decide) (by rw [h1_12]; decide) (by rw [h1_12]; decide) (by decide) ?_
                      refine lv_iload_n hx hb d_N_operate_132 rfl (lv_at hl 1 rfl) ?_
                      refine lv_ldc (v := -65536) hx hb hown (hts _ mw_465) d_N_operate_133 ?_
                      refine lv_iand hx hb d_N_operate_135 ?_
                      cases hf
                      exact W.iret hx hb hr (fun t ht hW => ⟨_, rfl, rfl, ht⟩) (fun q h => by cases h) d_N_operate_136
                    · rw [if_neg h1_12] at hf
                      have hout : u0.toInt < 2 ∨ 11 < u0.toInt := by
                        have n2 := lv_neT (a := 2) h1_1 (by decide)
                        have n3 := lv_neT (a := 3) h1_2 (by decide)
                        have n4 := lv_neT (a := 4) h1_3 (by decide)
                        have n5 := lv_neT (a := 5) h1_4 (by decide)
                        have n6 := lv_neT (a := 6) h1_6 (by decide)
                        have n7 := lv_neT (a := 7) h1_7 (by decide)
                        have n8 := lv_neT (a := 8) h1_8 (by decide)
                        have n9 := lv_neT (a := 9) h1_10 (by decide)
                        have n10 := lv_neT (a := 10) h1_11 (by decide)
                        have n11 := lv_neT (a := 11) h1_12 (by decide)
                        omega
                      refine lv_tableOut (tgt := 137) hx hb d_N_operate_1 hout (by decide) ?_
                      refine lv_iconst (v := 0) hx hb d_N_operate_137 (by decide) ?_
                      cases hf
                      exact W.iret hx hb hr (fun t ht hW => ⟨_, rfl, rfl, ht⟩) (fun q h => by cases h) d_N_operate_138
