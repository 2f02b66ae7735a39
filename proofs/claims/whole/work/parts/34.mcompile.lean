def f_M_operand_J96 (x1 : Int32) (F : ST_F) (A : ST_A) : Option (Int32 × ST_F × ST_A) := if (f_M_isDigit x1) = 0 then (if (f_M_isSmall x1) = 0 then (some ((1 : Int32), (upd F 5 (1 : Int32)), A)) else (ra_bv (f_M_letter  F A) (fun F7 A7 => ra_bv (f_M_finish (0 : Int32) F7 A7) (fun F8 A8 => some ((1 : Int32), F8, A8))))) else (ra_bv (f_M_constant  F A) (fun F9 A9 => ra_bv (f_M_finish (1 : Int32) F9 A9) (fun F10 A10 => some ((1 : Int32), F10, A10))))
def f_M_operand  (Fa : ST_F) (Aa : ST_A) : Option (Int32 × ST_F × ST_A) := ra_bi (f_M_look (Fa 4) Fa Aa) (fun r1 F1 A1 => if r1 = (45 : Int32) then (ra_bv (f_M_hold (126 : Int32) (upd F1 4 ((F1 4) + (1 : Int32))) A1) (fun F15 A15 => some ((0 : Int32), F15, A15))) else (if r1 = (40 : Int32) then (ra_bv (f_M_bracket (40 : Int32) (upd F1 4 ((F1 4) + (1 : Int32))) A1) (fun F14 A14 => some ((0 : Int32), F14, A14))) else (if (f_M_isFunction r1) = 0 then (f_M_operand_J96 r1 F1 A1) else (ra_bi (f_M_look ((F1 4) + (1 : Int32)) F1 A1) (fun r11 F11 A11 => if r11 = (40 : Int32) then (ra_bv (f_M_bracket r1 (upd F11 4 ((F11 4) + (2 : Int32))) A11) (fun F13 A13 => some ((0 : Int32), F13, A13))) else (f_M_operand_J96 r1 F11 A11))))))
set_option maxHeartbeats 4000000 in
set_option maxRecDepth 100000 in
theorem k_M_operand (l : Launch) (dC : Nat → ClassId) (dI : Nat → Nat → Nat) (o : Nat → Nat) (cI : ClassId) (sz : Nat) (Fa : ST_F) (Aa : ST_A)  (r0 : Int32) (F9 : ST_F) (A9 : ST_A) (hf : f_M_operand  Fa Aa = some (r0, F9, A9)) : cc_MetI l y_M_operand (Cond.code y_M_operand b_M_operand 2 (some .boolean) :: wA) ({ frames := 3, cells := 0, slots := 0, locals := 71 } : Room) (dC, dI) vC [(cI, .int)] ([.ref (o 0)] : List Value) (wM o cI Fa Aa) sz (wM o cI F9 A9) r0 := by
  refine Met.ofW (cc := b_M_operand) (maxL := 2) (ret := (some .boolean)) (by decide) rfl ?_
  intro p e s m args below meth c s₁ B hml hv
  obtain ⟨rfl, hsz, hP, hK, hD0⟩ := hv
  have hx := B.exec
  have hb := B.bytes
  have hr := B.returns
  have hts := fun w h => atoms_spec (ws := (Cond.code y_M_operand b_M_operand 2 (some .boolean) :: wA)) B.pre w (List.mem_cons_of_mem _ h)
  have hown : s.vm.findClass R_M = some m.cls := findClass_of_methodNamed B.named
  have hlocks := B.notSynchronized
  subst hsz
  have hD := hD0.self (sz := s.heap.size)
  have hA : ∀ q : Nat, s.heap.size ≤ q → va_A (wM o cI Fa Aa) s.heap.size q := fun q h => Or.inr h
  have hS : va_S (va_A (wM o cI Fa Aa) s.heap.size) s.heap s.heap [] := va_S.rf
  have hl := lv_entry (([.ref (o 0)] : List Value)) (n := 2) (Nat.le_of_ble_eq_true rfl)
  have J96 : ∀ (x1 : Int32) (F : ST_F) (A : ST_A) (H : Heap) (locs : List Loc) (ls : Array Slot), lv_has ls 2 [(0, .ref (o 0)), (1, .int x1)] → va_P (dC, dI) vC (wM o cI F A) H → va_D (va_A (wM o cI Fa Aa) s.heap.size) (wM o cI F A) → va_S (va_A (wM o cI Fa Aa) s.heap.size) s.heap H locs → f_M_operand_J96 x1 F A = some (r0, F9, A9) → W p l e (headSpec (Cond.code y_M_operand b_M_operand 2 (some .boolean) :: wA) ({ frames := 3, cells := 0, slots := 0, locals := 71 } : Room)).room s m ([.ref (o 0)] : List Value).toArray below meth c H locs 0 0 (MQ below (cc_Qi (dC, dI) vC [(cI, .int)] (wM o cI Fa Aa) s.heap.size (wM o cI F9 A9) r0) ([.ref (o 0)] : List Value).toArray s 0 0 (va_A (wM o cI Fa Aa) s.heap.size)) (F0 m 96 ls []) := by
    intro x1 F A H locs ls hl hP hD hS hf
    unfold f_M_operand_J96 at hf
    refine lv_iload_n hx hb d_M_operand_96 rfl (lv_at hl 1 rfl) ?_
    refine cc_calls (va_runS (As := [.int x1]) (rest := []) ⟨hx, hb, hml, hown, hts⟩ (k_M_isDigit l x1 _ rfl) (cw_S 1 hts mw_711 mw_712 mw_5 mw_713 rfl rfl hd_M_isDigit ⟨Nat.le_of_ble_eq_true rfl, Nat.le_of_ble_eq_true rfl⟩) cc_preS rfl rfl hl.1 rfl (lv_room (Nat.le_of_ble_eq_true rfl)) d_M_operand_97 ⟨Nat.zero_le _, Nat.zero_le _⟩) ?_
    refine lv_if_eq (tgt := 115) hx hb d_M_operand_100 (by decide) (fun h100_5 => ?_) (fun h100_5 => ?_)
    · rw [if_pos h100_5] at hf
      refine lv_iload_n hx hb d_M_operand_115 rfl (lv_at hl 1 rfl) ?_
      refine cc_calls (va_runS (As := [.int x1]) (rest := []) ⟨hx, hb, hml, hown, hts⟩ (k_M_isSmall l x1 _ rfl) (cw_S 1 hts mw_615 mw_616 mw_5 mw_617 rfl rfl hd_M_isSmall ⟨Nat.le_of_ble_eq_true rfl, Nat.le_of_ble_eq_true rfl⟩) cc_preS rfl rfl hl.1 rfl (lv_room (Nat.le_of_ble_eq_true rfl)) d_M_operand_116 ⟨Nat.zero_le _, Nat.zero_le _⟩) ?_
      refine lv_if_eq (tgt := 134) hx hb d_M_operand_119 (by decide) (fun h119_6 => ?_) (fun h119_6 => ?_)
      · rw [if_pos h119_6] at hf
        refine lv_aload_n hx hb d_M_operand_134 rfl (lv_at hl 0 rfl) ?_
        refine lv_iconst (v := 1) hx hb d_M_operand_135 (by decide) ?_
        refine va_put (D := (dC, dI)) (ci := 4) (v := .int (1 : Int32)) (ty := .boolean) (C := R_M) (T := T_M) (N := 29) hx hb hts in_M ty_M ty_M_ok nm_M hown hK hP hD hS 0 rfl rfl 16 (by decide) (hts _ mw_519) (fun _ h9 => h9) rfl (by decide +kernel) rfl rfl (Nat.le_of_ble_eq_true rfl) d_M_operand_136 (fun H locs hP hD hS => ?_)
        have hP : va_P (dC, dI) vC [((o 0), .inr (4, [.int (F 0), .int (F 1), .ref (o 1), .int (F 2), .ref (o 2), .ref (o 3), .ref (o 4), .ref (o 5), .ref (o 6), .int (F 3), .ref (o 7), .ref (o 8), .ref (o 9), .ref (o 10), .ref (o 11), .int (F 4), .int (1 : Int32), .int (F 6), .ref (o 12), .ref (o 13), .int (F 7), .ref (o 14), .ref (o 15), .int (F 8), .int (F 9), .ref (o 16), .ref (o 17), .ref (o 18), .ref (o 19)])), ((o 1), .inl (cI, 160, .inl (A 0))), ((o 2), .inl (cI, 100, .inl (A 1))), ((o 3), .inl (cI, 100, .inl (A 2))), ((o 4), .inl (cI, 100, .inl (A 3))), ((o 5), .inl (cI, 3, .inl (A 4))), ((o 6), .inl (cI, 26, .inl (A 5))), ((o 7), .inl (cI, 100, .inl (A 6))), ((o 8), .inl (cI, 100, .inl (A 7))), ((o 9), .inl (cI, 100, .inl (A 8))), ((o 10), .inl (cI, 26, .inl (A 9))), ((o 11), .inl (cI, 104, .inl (A 10))), ((o 12), .inl (cI, 80, .inl (A 11))), ((o 13), .inl (cI, 320, .inl (A 12))), ((o 14), .inl (cI, 200, .inl (A 13))), ((o 15), .inl (cI, 200, .inl (A 14))), ((o 16), .inl (cI, 4, .inl (A 15))), ((o 17), .inl (cI, 32, .inl (A 16))), ((o 18), .inl (cI, 32, .inl (A 17))), ((o 19), .inl (cI, 100, .inl (A 18)))] H := hP
        have hD : va_D (va_A (wM o cI Fa Aa) s.heap.size) [((o 0), .inr (4, [.int (F 0), .int (F 1), .ref (o 1), .int (F 2), .ref (o 2), .ref (o 3), .ref (o 4), .ref (o 5), .ref (o 6), .int (F 3), .ref (o 7), .ref (o 8), .ref (o 9), .ref (o 10), .ref (o 11), .int (F 4), .int (1 : Int32), .int (F 6), .ref (o 12), .ref (o 13), .int (F 7), .ref (o 14), .ref (o 15), .int (F 8), .int (F 9), .ref (o 16), .ref (o 17), .ref (o 18), .ref (o 19)])), ((o 1), .inl (cI, 160, .inl (A 0))), ((o 2), .inl (cI, 100, .inl (A 1))), ((o 3), .inl (cI, 100, .inl (A 2))), ((o 4), .inl (cI, 100, .inl (A 3))), ((o 5), .inl (cI, 3, .inl (A 4))), ((o 6), .inl (cI, 26, .inl (A 5))), ((o 7), .inl (cI, 100, .inl (A 6))), ((o 8), .inl (cI, 100, .inl (A 7))), ((o 9), .inl (cI, 100, .inl (A 8))), ((o 10), .inl (cI, 26, .inl (A 9))), ((o 11), .inl (cI, 104, .inl (A 10))), ((o 12), .inl (cI, 80, .inl (A 11))), ((o 13), .inl (cI, 320, .inl (A 12))), ((o 14), .inl (cI, 200, .inl (A 13))), ((o 15), .inl (cI, 200, .inl (A 14))), ((o 16), .inl (cI, 4, .inl (A 15))), ((o 17), .inl (cI, 32, .inl (A 16))), ((o 18), .inl (cI, 32, .inl (A 17))), ((o 19), .inl (cI, 100, .inl (A 18)))] := hD
        refine lv_iconst (v := 1) hx hb d_M_operand_139 (by decide) ?_
        cases hf
        exact W.zret hx hb hr (by rfl) (fun t ht hW => ⟨⟨_, (), rfl, rfl, by rw [ht]; exact hP, va_K.moved hW.alike hK, hD⟩, hS.F ht⟩) hS.2.2 d_M_operand_140
      · rw [if_neg h119_6] at hf
        refine lv_aload_n hx hb d_M_operand_122 rfl (lv_at hl 0 rfl) ?_
        have hP : va_P (dC, dI) vC (wM o cI F A) H := hP
        have hD : va_D (va_A (wM o cI Fa Aa) s.heap.size) (wM o cI F A) := hD
        obtain ⟨F7, A7, hc, hf⟩ := ra_bv_some hf
        refine cc_callv (va_runV (As := []) (rest := []) ⟨hx, hb, hml, hown, hts⟩ (k_M_letter l dC dI o cI H.size F A  F7 A7 hc) (cw_V 0 hts mw_720 mw_722 ms_M_letter mw_5 mw_723 rfl rfl rfl hd_M_letter ⟨Nat.le_of_ble_eq_true rfl, Nat.le_of_ble_eq_true rfl⟩) (cc_preV hK hP hD rfl (q0 := 0) rfl) rfl rfl hl.1 rfl (lv_room (Nat.le_of_ble_eq_true rfl)) d_M_operand_123 ⟨Nat.zero_le _, Nat.zero_le _⟩) hD hS hA (fun H locs hP hD hS => ?_)
        refine lv_aload_n hx hb d_M_operand_126 rfl (lv_at hl 0 rfl) ?_
        refine lv_iconst (v := 0) hx hb d_M_operand_127 (by decide) ?_
        have hP : va_P (dC, dI) vC (wM o cI F7 A7) H := hP
        have hD : va_D (va_A (wM o cI Fa Aa) s.heap.size) (wM o cI F7 A7) := hD
        obtain ⟨F8, A8, hc, hf⟩ := ra_bv_some hf
        refine cc_callv (va_runV (As := [.int (0 : Int32)]) (rest := []) ⟨hx, hb, hml, hown, hts⟩ (k_M_finish l dC dI o cI H.size F7 A7 (0 : Int32) F8 A8 hc) (cw_V 1 hts mw_691 mw_693 ms_M_finish mw_5 mw_694 rfl rfl rfl hd_M_finish ⟨Nat.le_of_ble_eq_true rfl, Nat.le_of_ble_eq_true rfl⟩) (cc_preV hK hP hD rfl (q0 := 0) rfl) rfl rfl hl.1 rfl (lv_room (Nat.le_of_ble_eq_true rfl)) d_M_operand_128 ⟨Nat.zero_le _, Nat.zero_le _⟩) hD hS hA (fun H locs hP hD hS => ?_)
        refine lv_goto (tgt := 139) hx hb d_M_operand_131 (by decide) ?_
        refine lv_iconst (v := 1) hx hb d_M_operand_139 (by decide) ?_
        cases hf
        exact W.zret hx hb hr (by rfl) (fun t ht hW => ⟨⟨_, (), rfl, rfl, by rw [ht]; exact hP, va_K.moved hW.alike hK, hD⟩, hS.F ht⟩) hS.2.2 d_M_operand_140
    · rw [if_neg h100_5] at hf
      refine lv_aload_n hx hb d_M_operand_103 rfl (lv_at hl 0 rfl) ?_
      have hP : va_P (dC, dI) vC (wM o cI F A) H := hP
      have hD : va_D (va_A (wM o cI Fa Aa) s.heap.size) (wM o cI F A) := hD
      obtain ⟨F9, A9, hc, hf⟩ := ra_bv_some hf
      refine cc_callv (va_runV (As := []) (rest := []) ⟨hx, hb, hml, hown, hts⟩ (k_M_constant l dC dI o cI H.size F A  F9 A9 hc) (cw_V 0 hts mw_714 mw_716 ms_M_constant mw_5 mw_717 rfl rfl rfl hd_M_constant ⟨Nat.le_of_ble_eq_true rfl, Nat.le_of_ble_eq_true rfl⟩) (cc_preV hK hP hD rfl (q0 := 0) rfl) rfl rfl hl.1 rfl (lv_room (Nat.le_of_ble_eq_true rfl)) d_M_operand_104 ⟨Nat.zero_le _, Nat.zero_le _⟩) hD hS hA (fun H locs hP hD hS => ?_)
      refine lv_aload_n hx hb d_M_operand_107 rfl (lv_at hl 0 rfl) ?_
      refine lv_iconst (v := 1) hx hb d_M_operand_108 (by decide) ?_
      have hP : va_P (dC, dI) vC (wM o cI F9 A9) H := hP
      have hD : va_D (va_A (wM o cI Fa Aa) s.heap.size) (wM o cI F9 A9) := hD
      obtain ⟨F10, A10, hc, hf⟩ := ra_bv_some hf
      refine cc_callv (va_runV (As := [.int (1 : Int32)]) (rest := []) ⟨hx, hb, hml, hown, hts⟩ (k_M_finish l dC dI o cI H.size F9 A9 (1 : Int32) F10 A10 hc) (cw_V 1 hts mw_691 mw_693 ms_M_finish mw_5 mw_694 rfl rfl rfl hd_M_finish ⟨Nat.le_of_ble_eq_true rfl, Nat.le_of_ble_eq_true rfl⟩) (cc_preV hK hP hD rfl (q0 := 0) rfl) rfl rfl hl.1 rfl (lv_room (Nat.le_of_ble_eq_true rfl)) d_M_operand_109 ⟨Nat.zero_le _, Nat.zero_le _⟩) hD hS hA (fun H locs hP hD hS => ?_)
      refine lv_goto (tgt := 139) hx hb d_M_operand_112 (by decide) ?_
      refine lv_iconst (v := 1) hx hb d_M_operand_139 (by decide) ?_
      cases hf
      exact W.zret hx hb hr (by rfl) (fun t ht hW => ⟨⟨_, (), rfl, rfl, by rw [ht]; exact hP, va_K.moved hW.alike hK, hD⟩, hS.F ht⟩) hS.2.2 d_M_operand_140
  rw [lg_entry_eq]
  generalize (lg_sl (([.ref (o 0)] : List Value)) ++ List.replicate (2 - (lg_sl (([.ref (o 0)] : List Value))).length) Slot.unset).toArray = ls at hl ⊢
  have hl : lv_has ls 2 [(0, .ref (o 0))] := hl
  unfold f_M_operand at hf
  refine lv_aload_n hx hb d_M_operand_0 rfl (lv_at hl 0 rfl) ?_
  refine lv_aload_n hx hb d_M_operand_1 rfl (lv_at hl 0 rfl) ?_
  refine va_get (D := (dC, dI)) (ci := 4) (v := .int (Fa 4)) (C := R_M) (T := T_M) (N := 29) hx hb hts in_M hown hK hP 0 rfl rfl 15 (by decide) (hts _ mw_518) (fun _ h9 => h9) rfl d_M_operand_2 ?_
  have hP : va_P (dC, dI) vC (wM o cI Fa Aa) s.heap := hP
  have hD : va_D (va_A (wM o cI Fa Aa) s.heap.size) (wM o cI Fa Aa) := hD
  obtain ⟨r1, F1, A1, hc, hf⟩ := ra_bi_some hf
  refine cc_calli (va_runV (As := [.int (Fa 4)]) (rest := []) ⟨hx, hb, hml, hown, hts⟩ (k_M_look l dC dI o cI s.heap.size Fa Aa (Fa 4) r1 F1 A1 hc) (cw_V 1 hts mw_611 mw_613 ms_M_look mw_5 mw_614 rfl rfl rfl hd_M_look ⟨Nat.le_of_ble_eq_true rfl, Nat.le_of_ble_eq_true rfl⟩) (cc_preV hK hP hD rfl (q0 := 0) rfl) rfl rfl hl.1 rfl (lv_room (Nat.le_of_ble_eq_true rfl)) d_M_operand_5 ⟨Nat.zero_le _, Nat.zero_le _⟩) hD hS hA (fun H locs hP hD hS => ?_)
  refine lv_istore_n hx hb d_M_operand_8 rfl hl (by decide) rfl (fun ls hl => ?_)
  have hl : lv_has ls 2 [(1, .int r1), (0, .ref (o 0))] := hl
  refine lv_iload_n hx hb d_M_operand_9 rfl (lv_at hl 0 rfl) ?_
  refine lv_bipush (v := 45) hx hb d_M_operand_10 (by decide) ?_
  refine lv_icmp_ne (tgt := 33) hx hb d_M_operand_12 (by decide) (fun h12_2 => ?_) (fun h12_2 => ?_)
  · rw [if_neg h12_2] at hf
    refine lv_iload_n hx hb d_M_operand_33 rfl (lv_at hl 0 rfl) ?_
    refine lv_bipush (v := 40) hx hb d_M_operand_34 (by decide) ?_
    refine lv_icmp_ne (tgt := 57) hx hb d_M_operand_36 (by decide) (fun h36_3 => ?_) (fun h36_3 => ?_)
    · rw [if_neg h36_3] at hf
      refine lv_iload_n hx hb d_M_operand_57 rfl (lv_at hl 0 rfl) ?_
      refine cc_calls (va_runS (As := [.int r1]) (rest := []) ⟨hx, hb, hml, hown, hts⟩ (k_M_isFunction l r1 _ rfl) (cw_S 1 hts mw_668 mw_669 mw_5 mw_670 rfl rfl hd_M_isFunction ⟨Nat.le_of_ble_eq_true rfl, Nat.le_of_ble_eq_true rfl⟩) cc_preS rfl rfl hl.1 rfl (lv_room (Nat.le_of_ble_eq_true rfl)) d_M_operand_58 ⟨Nat.zero_le _, Nat.zero_le _⟩) ?_
      refine lv_if_eq (tgt := 96) hx hb d_M_operand_61 (by decide) (fun h61_4 => ?_) (fun h61_4 => ?_)
      · rw [if_pos h61_4] at hf
        have hl : lv_has ls 2 [(0, .ref (o 0)), (1, .int r1)] := lv_sub hl [1, 0] rfl
        exact J96 r1 F1 A1 _ _ _ hl hP hD hS hf
      · rw [if_neg h61_4] at hf
        refine lv_aload_n hx hb d_M_operand_64 rfl (lv_at hl 1 rfl) ?_
        refine lv_aload_n hx hb d_M_operand_65 rfl (lv_at hl 1 rfl) ?_
        refine va_get (D := (dC, dI)) (ci := 4) (v := .int (F1 4)) (C := R_M) (T := T_M) (N := 29) hx hb hts in_M hown hK hP 0 rfl rfl 15 (by decide) (hts _ mw_518) (fun _ h9 => h9) rfl d_M_operand_66 ?_
        refine lv_iconst (v := 1) hx hb d_M_operand_69 (by decide) ?_
        refine lv_iadd hx hb d_M_operand_70 ?_
        have hP : va_P (dC, dI) vC (wM o cI F1 A1) H := hP
        have hD : va_D (va_A (wM o cI Fa Aa) s.heap.size) (wM o cI F1 A1) := hD
        obtain ⟨r11, F11, A11, hc, hf⟩ := ra_bi_some hf
        refine cc_calli (va_runV (As := [.int ((F1 4) + (1 : Int32))]) (rest := []) ⟨hx, hb, hml, hown, hts⟩ (k_M_look l dC dI o cI H.size F1 A1 ((F1 4) + (1 : Int32)) r11 F11 A11 hc) (cw_V 1 hts mw_611 mw_613 ms_M_look mw_5 mw_614 rfl rfl rfl hd_M_look ⟨Nat.le_of_ble_eq_true rfl, Nat.le_of_ble_eq_true rfl⟩) (cc_preV hK hP hD rfl (q0 := 0) rfl) rfl rfl hl.1 rfl (lv_room (Nat.le_of_ble_eq_true rfl)) d_M_operand_71 ⟨Nat.zero_le _, Nat.zero_le _⟩) hD hS hA (fun H locs hP hD hS => ?_)
        refine lv_bipush (v := 40) hx hb d_M_operand_74 (by decide) ?_
        refine lv_icmp_ne (tgt := 96) hx hb d_M_operand_76 (by decide) (fun h76_12 => ?_) (fun h76_12 => ?_)
        · rw [if_neg h76_12] at hf
          have hl : lv_has ls 2 [(0, .ref (o 0)), (1, .int r1)] := lv_sub hl [1, 0] rfl
          exact J96 r1 F11 A11 _ _ _ hl hP hD hS hf
        · rw [if_pos h76_12] at hf
          refine lv_aload_n hx hb d_M_operand_79 rfl (lv_at hl 1 rfl) ?_
          refine lv_dup hx hb d_M_operand_80 rfl ?_
          refine va_get (D := (dC, dI)) (ci := 4) (v := .int (F11 4)) (C := R_M) (T := T_M) (N := 29) hx hb hts in_M hown hK hP 0 rfl rfl 15 (by decide) (hts _ mw_518) (fun _ h9 => h9) rfl d_M_operand_81 ?_
          refine lv_iconst (v := 2) hx hb d_M_operand_84 (by decide) ?_
          refine lv_iadd hx hb d_M_operand_85 ?_
          refine va_put (D := (dC, dI)) (ci := 4) (v := .int ((F11 4) + (2 : Int32))) (ty := .int) (C := R_M) (T := T_M) (N := 29) hx hb hts in_M ty_M ty_M_ok nm_M hown hK hP hD hS 0 rfl rfl 15 (by decide) (hts _ mw_518) (fun _ h9 => h9) rfl (by decide +kernel) rfl rfl (Nat.le_of_ble_eq_true rfl) d_M_operand_86 (fun H locs hP hD hS => ?_)
          have hP : va_P (dC, dI) vC [((o 0), .inr (4, [.int (F11 0), .int (F11 1), .ref (o 1), .int (F11 2), .ref (o 2), .ref (o 3), .ref (o 4), .ref (o 5), .ref (o 6), .int (F11 3), .ref (o 7), .ref (o 8), .ref (o 9), .ref (o 10), .ref (o 11), .int ((F11 4) + (2 : Int32)), .int (F11 5), .int (F11 6), .ref (o 12), .ref (o 13), .int (F11 7), .ref (o 14), .ref (o 15), .int (F11 8), .int (F11 9), .ref (o 16), .ref (o 17), .ref (o 18), .ref (o 19)])), ((o 1), .inl (cI, 160, .inl (A11 0))), ((o 2), .inl (cI, 100, .inl (A11 1))), ((o 3), .inl (cI, 100, .inl (A11 2))), ((o 4), .inl (cI, 100, .inl (A11 3))), ((o 5), .inl (cI, 3, .inl (A11 4))), ((o 6), .inl (cI, 26, .inl (A11 5))), ((o 7), .inl (cI, 100, .inl (A11 6))), ((o 8), .inl (cI, 100, .inl (A11 7))), ((o 9), .inl (cI, 100, .inl (A11 8))), ((o 10), .inl (cI, 26, .inl (A11 9))), ((o 11), .inl (cI, 104, .inl (A11 10))), ((o 12), .inl (cI, 80, .inl (A11 11))), ((o 13), .inl (cI, 320, .inl (A11 12))), ((o 14), .inl (cI, 200, .inl (A11 13))), ((o 15), .inl (cI, 200, .inl (A11 14))), ((o 16), .inl (cI, 4, .inl (A11 15))), ((o 17), .inl (cI, 32, .inl (A11 16))), ((o 18), .inl (cI, 32, .inl (A11 17))), ((o 19), .inl (cI, 100, .inl (A11 18)))] H := hP
          have hD : va_D (va_A (wM o cI Fa Aa) s.heap.size) [((o 0), .inr (4, [.int (F11 0), .int (F11 1), .ref (o 1), .int (F11 2), .ref (o 2), .ref (o 3), .ref (o 4), .ref (o 5), .ref (o 6), .int (F11 3), .ref (o 7), .ref (o 8), .ref (o 9), .ref (o 10), .ref (o 11), .int ((F11 4) + (2 : Int32)), .int (F11 5), .int (F11 6), .ref (o 12), .ref (o 13), .int (F11 7), .ref (o 14), .ref (o 15), .int (F11 8), .int (F11 9), .ref (o 16), .ref (o 17), .ref (o 18), .ref (o 19)])), ((o 1), .inl (cI, 160, .inl (A11 0))), ((o 2), .inl (cI, 100, .inl (A11 1))), ((o 3), .inl (cI, 100, .inl (A11 2))), ((o 4), .inl (cI, 100, .inl (A11 3))), ((o 5), .inl (cI, 3, .inl (A11 4))), ((o 6), .inl (cI, 26, .inl (A11 5))), ((o 7), .inl (cI, 100, .inl (A11 6))), ((o 8), .inl (cI, 100, .inl (A11 7))), ((o 9), .inl (cI, 100, .inl (A11 8))), ((o 10), .inl (cI, 26, .inl (A11 9))), ((o 11), .inl (cI, 104, .inl (A11 10))), ((o 12), .inl (cI, 80, .inl (A11 11))), ((o 13), .inl (cI, 320, .inl (A11 12))), ((o 14), .inl (cI, 200, .inl (A11 13))), ((o 15), .inl (cI, 200, .inl (A11 14))), ((o 16), .inl (cI, 4, .inl (A11 15))), ((o 17), .inl (cI, 32, .inl (A11 16))), ((o 18), .inl (cI, 32, .inl (A11 17))), ((o 19), .inl (cI, 100, .inl (A11 18)))] := hD
          refine lv_aload_n hx hb d_M_operand_89 rfl (lv_at hl 1 rfl) ?_
          refine lv_iload_n hx hb d_M_operand_90 rfl (lv_at hl 0 rfl) ?_
          have hP : va_P (dC, dI) vC (wM o cI (upd F11 4 ((F11 4) + (2 : Int32))) A11) H := hP
          have hD : va_D (va_A (wM o cI Fa Aa) s.heap.size) (wM o cI (upd F11 4 ((F11 4) + (2 : Int32))) A11) := hD
          obtain ⟨F13, A13, hc, hf⟩ := ra_bv_some hf
          refine cc_callv (va_runV (As := [.int r1]) (rest := []) ⟨hx, hb, hml, hown, hts⟩ (k_M_bracket l dC dI o cI H.size (upd F11 4 ((F11 4) + (2 : Int32))) A11 r1 F13 A13 hc) (cw_V 1 hts mw_707 mw_709 ms_M_bracket mw_5 mw_710 rfl rfl rfl hd_M_bracket ⟨Nat.le_of_ble_eq_true rfl, Nat.le_of_ble_eq_true rfl⟩) (cc_preV hK hP hD rfl (q0 := 0) rfl) rfl rfl hl.1 rfl (lv_room (Nat.le_of_ble_eq_true rfl)) d_M_operand_91 ⟨Nat.zero_le _, Nat.zero_le _⟩) hD hS hA (fun H locs hP hD hS => ?_)
          refine lv_iconst (v := 0) hx hb d_M_operand_94 (by decide) ?_
          cases hf
          exact W.zret hx hb hr (by rfl) (fun t ht hW => ⟨⟨_, (), rfl, rfl, by rw [ht]; exact hP, va_K.moved hW.alike hK, hD⟩, hS.F ht⟩) hS.2.2 d_M_operand_95
    · rw [if_pos h36_3] at hf
      refine lv_aload_n hx hb d_M_operand_39 rfl (lv_at hl 1 rfl) ?_
      refine lv_dup hx hb d_M_operand_40 rfl ?_
      refine va_get (D := (dC, dI)) (ci := 4) (v := .int (F1 4)) (C := R_M) (T := T_M) (N := 29) hx hb hts in_M hown hK hP 0 rfl rfl 15 (by decide) (hts _ mw_518) (fun _ h9 => h9) rfl d_M_operand_41 ?_
      refine lv_iconst (v := 1) hx hb d_M_operand_44 (by decide) ?_
      refine lv_iadd hx hb d_M_operand_45 ?_
      refine va_put (D := (dC, dI)) (ci := 4) (v := .int ((F1 4) + (1 : Int32))) (ty := .int) (C := R_M) (T := T_M) (N := 29) hx hb hts in_M ty_M ty_M_ok nm_M hown hK hP hD hS 0 rfl rfl 15 (by decide) (hts _ mw_518) (fun _ h9 => h9) rfl (by decide +kernel) rfl rfl (Nat.le_of_ble_eq_true rfl) d_M_operand_46 (fun H locs hP hD hS => ?_)
      have hP : va_P (dC, dI) vC [((o 0), .inr (4, [.int (F1 0), .int (F1 1), .ref (o 1), .int (F1 2), .ref (o 2), .ref (o 3), .ref (o 4), .ref (o 5), .ref (o 6), .int (F1 3), .ref (o 7), .ref (o 8), .ref (o 9), .ref (o 10), .ref (o 11), .int ((F1 4) + (1 : Int32)), .int (F1 5), .int (F1 6), .ref (o 12), .ref (o 13), .int (F1 7), .ref (o 14), .ref (o 15), .int (F1 8), .int (F1 9), .ref (o 16), .ref (o 17), .ref (o 18), .ref (o 19)])), ((o 1), .inl (cI, 160, .inl (A1 0))), ((o 2), .inl (cI, 100, .inl (A1 1))), ((o 3), .inl (cI, 100, .inl (A1 2))), ((o 4), .inl (cI, 100, .inl (A1 3))), ((o 5), .inl (cI, 3, .inl (A1 4))), ((o 6), .inl (cI, 26, .inl (A1 5))), ((o 7), .inl (cI, 100, .inl (A1 6))), ((o 8), .inl (cI, 100, .inl (A1 7))), ((o 9), .inl (cI, 100, .inl (A1 8))), ((o 10), .inl (cI, 26, .inl (A1 9))), ((o 11), .inl (cI, 104, .inl (A1 10))), ((o 12), .inl (cI, 80, .inl (A1 11))), ((o 13), .inl (cI, 320, .inl (A1 12))), ((o 14), .inl (cI, 200, .inl (A1 13))), ((o 15), .inl (cI, 200, .inl (A1 14))), ((o 16), .inl (cI, 4, .inl (A1 15))), ((o 17), .inl (cI, 32, .inl (A1 16))), ((o 18), .inl (cI, 32, .inl (A1 17))), ((o 19), .inl (cI, 100, .inl (A1 18)))] H := hP
      have hD : va_D (va_A (wM o cI Fa Aa) s.heap.size) [((o 0), .inr (4, [.int (F1 0), .int (F1 1), .ref (o 1), .int (F1 2), .ref (o 2), .ref (o 3), .ref (o 4), .ref (o 5), .ref (o 6), .int (F1 3), .ref (o 7), .ref (o 8), .ref (o 9), .ref (o 10), .ref (o 11), .int ((F1 4) + (1 : Int32)), .int (F1 5), .int (F1 6), .ref (o 12), .ref (o 13), .int (F1 7), .ref (o 14), .ref (o 15), .int (F1 8), .int (F1 9), .ref (o 16), .ref (o 17), .ref (o 18), .ref (o 19)])), ((o 1), .inl (cI, 160, .inl (A1 0))), ((o 2), .inl (cI, 100, .inl (A1 1))), ((o 3), .inl (cI, 100, .inl (A1 2))), ((o 4), .inl (cI, 100, .inl (A1 3))), ((o 5), .inl (cI, 3, .inl (A1 4))), ((o 6), .inl (cI, 26, .inl (A1 5))), ((o 7), .inl (cI, 100, .inl (A1 6))), ((o 8), .inl (cI, 100, .inl (A1 7))), ((o 9), .inl (cI, 100, .inl (A1 8))), ((o 10), .inl (cI, 26, .inl (A1 9))), ((o 11), .inl (cI, 104, .inl (A1 10))), ((o 12), .inl (cI, 80, .inl (A1 11))), ((o 13), .inl (cI, 320, .inl (A1 12))), ((o 14), .inl (cI, 200, .inl (A1 13))), ((o 15), .inl (cI, 200, .inl (A1 14))), ((o 16), .inl (cI, 4, .inl (A1 15))), ((o 17), .inl (cI, 32, .inl (A1 16))), ((o 18), .inl (cI, 32, .inl (A1 17))), ((o 19), .inl (cI, 100, .inl (A1 18)))] := hD
      refine lv_aload_n hx hb d_M_operand_49 rfl (lv_at hl 1 rfl) ?_
      refine lv_bipush (v := 40) hx hb d_M_operand_50 (by decide) ?_
      have hP : va_P (dC, dI) vC (wM o cI (upd F1 4 ((F1 4) + (1 : Int32))) A1) H := hP
      have hD : va_D (va_A (wM o cI Fa Aa) s.heap.size) (wM o cI (upd F1 4 ((F1 4) + (1 : Int32))) A1) := hD
      obtain ⟨F14, A14, hc, hf⟩ := ra_bv_some hf
      refine cc_callv (va_runV (As := [.int (40 : Int32)]) (rest := []) ⟨hx, hb, hml, hown, hts⟩ (k_M_bracket l dC dI o cI H.size (upd F1 4 ((F1 4) + (1 : Int32))) A1 (40 : Int32) F14 A14 hc) (cw_V 1 hts mw_707 mw_709 ms_M_bracket mw_5 mw_710 rfl rfl rfl hd_M_bracket ⟨Nat.le_of_ble_eq_true rfl, Nat.le_of_ble_eq_true rfl⟩) (cc_preV hK hP hD rfl (q0 := 0) rfl) rfl rfl hl.1 rfl (lv_room (Nat.le_of_ble_eq_true rfl)) d_M_operand_52 ⟨Nat.zero_le _, Nat.zero_le _⟩) hD hS hA (fun H locs hP hD hS => ?_)
      refine lv_iconst (v := 0) hx hb d_M_operand_55 (by decide) ?_
      cases hf
      exact W.zret hx hb hr (by rfl) (fun t ht hW => ⟨⟨_, (), rfl, rfl, by rw [ht]; exact hP, va_K.moved hW.alike hK, hD⟩, hS.F ht⟩) hS.2.2 d_M_operand_56
  · rw [if_pos h12_2] at hf
    refine lv_aload_n hx hb d_M_operand_15 rfl (lv_at hl 1 rfl) ?_
    refine lv_dup hx hb d_M_operand_16 rfl ?_
    refine va_get (D := (dC, dI)) (ci := 4) (v := .int (F1 4)) (C := R_M) (T := T_M) (N := 29) hx hb hts in_M hown hK hP 0 rfl rfl 15 (by decide) (hts _ mw_518) (fun _ h9 => h9) rfl d_M_operand_17 ?_
    refine lv_iconst (v := 1) hx hb d_M_operand_20 (by decide) ?_
    refine lv_iadd hx hb d_M_operand_21 ?_
    refine va_put (D := (dC, dI)) (ci := 4) (v := .int ((F1 4) + (1 : Int32))) (ty := .int) (C := R_M) (T := T_M) (N := 29) hx hb hts in_M ty_M ty_M_ok nm_M hown hK hP hD hS 0 rfl rfl 15 (by decide) (hts _ mw_518) (fun _ h9 => h9) rfl (by decide +kernel) rfl rfl (Nat.le_of_ble_eq_true rfl) d_M_operand_22 (fun H locs hP hD hS => ?_)
    have hP : va_P (dC, dI) vC [((o 0), .inr (4, [.int (F1 0), .int (F1 1), .ref (o 1), .int (F1 2), .ref (o 2), .ref (o 3), .ref (o 4), .ref (o 5), .ref (o 6), .int (F1 3), .ref (o 7), .ref (o 8), .ref (o 9), .ref (o 10), .ref (o 11), .int ((F1 4) + (1 : Int32)), .int (F1 5), .int (F1 6), .ref (o 12), .ref (o 13), .int (F1 7), .ref (o 14), .ref (o 15), .int (F1 8), .int (F1 9), .ref (o 16), .ref (o 17), .ref (o 18), .ref (o 19)])), ((o 1), .inl (cI, 160, .inl (A1 0))), ((o 2), .inl (cI, 100, .inl (A1 1))), ((o 3), .inl (cI, 100, .inl (A1 2))), ((o 4), .inl (cI, 100, .inl (A1 3))), ((o 5), .inl (cI, 3, .inl (A1 4))), ((o 6), .inl (cI, 26, .inl (A1 5))), ((o 7), .inl (cI, 100, .inl (A1 6))), ((o 8), .inl (cI, 100, .inl (A1 7))), ((o 9), .inl (cI, 100, .inl (A1 8))), ((o 10), .inl (cI, 26, .inl (A1 9))), ((o 11), .inl (cI, 104, .inl (A1 10))), ((o 12), .inl (cI, 80, .inl (A1 11))), ((o 13), .inl (cI, 320, .inl (A1 12))), ((o 14), .inl (cI, 200, .inl (A1 13))), ((o 15), .inl (cI, 200, .inl (A1 14))), ((o 16), .inl (cI, 4, .inl (A1 15))), ((o 17), .inl (cI, 32, .inl (A1 16))), ((o 18), .inl (cI, 32, .inl (A1 17))), ((o 19), .inl (cI, 100, .inl (A1 18)))] H := hP
    have hD : va_D (va_A (wM o cI Fa Aa) s.heap.size) [((o 0), .inr (4, [.int (F1 0), .int (F1 1), .ref (o 1), .int (F1 2), .ref (o 2), .ref (o 3), .ref (o 4), .ref (o 5), .ref (o 6), .int (F1 3), .ref (o 7), .ref (o 8), .ref (o 9), .ref (o 10), .ref (o 11), .int ((F1 4) + (1 : Int32)), .int (F1 5), .int (F1 6), .ref (o 12), .ref (o 13), .int (F1 7), .ref (o 14), .ref (o 15), .int (F1 8), .int (F1 9), .ref (o 16), .ref (o 17), .ref (o 18), .ref (o 19)])), ((o 1), .inl (cI, 160, .inl (A1 0))), ((o 2), .inl (cI, 100, .inl (A1 1))), ((o 3), .inl (cI, 100, .inl (A1 2))), ((o 4), .inl (cI, 100, .inl (A1 3))), ((o 5), .inl (cI, 3, .inl (A1 4))), ((o 6), .inl (cI, 26, .inl (A1 5))), ((o 7), .inl (cI, 100, .inl (A1 6))), ((o 8), .inl (cI, 100, .inl (A1 7))), ((o 9), .inl (cI, 100, .inl (A1 8))), ((o 10), .inl (cI, 26, .inl (A1 9))), ((o 11), .inl (cI, 104, .inl (A1 10))), ((o 12), .inl (cI, 80, .inl (A1 11))), ((o 13), .inl (cI, 320, .inl (A1 12))), ((o 14), .inl (cI, 200, .inl (A1 13))), ((o 15), .inl (cI, 200, .inl (A1 14))), ((o 16), .inl (cI, 4, .inl (A1 15))), ((o 17), .inl (cI, 32, .inl (A1 16))), ((o 18), .inl (cI, 32, .inl (A1 17))), ((o 19), .inl (cI, 100, .inl (A1 18)))] := hD
    refine lv_aload_n hx hb d_M_operand_25 rfl (lv_at hl 1 rfl) ?_
    refine lv_bipush (v := 126) hx hb d_M_operand_26 (by decide) ?_
    have hP : va_P (dC, dI) vC (wM o cI (upd F1 4 ((F1 4) + (1 : Int32))) A1) H := hP
    have hD : va_D (va_A (wM o cI Fa Aa) s.heap.size) (wM o cI (upd F1 4 ((F1 4) + (1 : Int32))) A1) := hD
    obtain ⟨F15, A15, hc, hf⟩ := ra_bv_some hf
    refine cc_callv (va_runV (As := [.int (126 : Int32)]) (rest := []) ⟨hx, hb, hml, hown, hts⟩ (k_M_hold l dC dI o cI H.size (upd F1 4 ((F1 4) + (1 : Int32))) A1 (126 : Int32) F15 A15 hc) (cw_V 1 hts mw_695 mw_697 ms_M_hold mw_5 mw_698 rfl rfl rfl hd_M_hold ⟨Nat.le_of_ble_eq_true rfl, Nat.le_of_ble_eq_true rfl⟩) (cc_preV hK hP hD rfl (q0 := 0) rfl) rfl rfl hl.1 rfl (lv_room (Nat.le_of_ble_eq_true rfl)) d_M_operand_28 ⟨Nat.zero_le _, Nat.zero_le _⟩) hD hS hA (fun H locs hP hD hS => ?_)
    refine lv_iconst (v := 0) hx hb d_M_operand_31 (by decide) ?_
    cases hf
    exact W.zret hx hb hr (by rfl) (fun t ht hW => ⟨⟨_, (), rfl, rfl, by rw [ht]; exact hP, va_K.moved hW.alike hK, hD⟩, hS.F ht⟩) hS.2.2 d_M_operand_32
def f_M_close_J36 (x1 : Int32) (F : ST_F) (A : ST_A) : Option (ST_F × ST_A) := if x1 = (40 : Int32) then (ra_bv (f_M_finish (0 : Int32) (upd (upd F 7 ((F 7) - (1 : Int32))) 8 ((F 8) - (1 : Int32))) A) (fun F6 A6 => some (F6, A6))) else (ra_g ((F 7) - (1 : Int32)) 200 (ra_bv (f_M_call x1 ((A 14) ((F 7) - (1 : Int32)).toNatClampNeg) (upd (upd F 7 ((F 7) - (1 : Int32))) 8 ((F 8) - (1 : Int32))) A) (fun F7 A7 => ra_bv (f_M_finish (0 : Int32) F7 A7) (fun F8 A8 => some (F8, A8)))))
def f_M_close  (Fa : ST_F) (Aa : ST_A) : Option (ST_F × ST_A) := ra_bv (f_M_settle (1 : Int32) Fa Aa) (fun F1 A1 => ra_bi (f_M_top  F1 A1) (fun r2 F2 A2 => if (F2 5) = 0 then (if r2 = (40 : Int32) then (f_M_close_J36 r2 F2 A2) else (if (f_M_isFunction r2) = 0 then (some ((upd F2 5 (1 : Int32)), A2)) else (f_M_close_J36 r2 F2 A2))) else (some ((upd F2 5 (1 : Int32)), A2))))
set_option maxHeartbeats 4000000 in
set_option maxRecDepth 100000 in
theorem k_M_close (l : Launch) (dC : Nat → ClassId) (dI : Nat → Nat → Nat) (o : Nat → Nat) (cI : ClassId) (sz : Nat) (Fa : ST_F) (Aa : ST_A)  (F9 : ST_F) (A9 : ST_A) (hf : f_M_close  Fa Aa = some (F9, A9)) : cc_MetV l y_M_close (Cond.code y_M_close b_M_close 2 none :: wA) ({ frames := 5, cells := 0, slots := 0, locals := 116 } : Room) (dC, dI) vC [(cI, .int)] ([.ref (o 0)] : List Value) (wM o cI Fa Aa) sz (wM o cI F9 A9) := by
  refine Met.ofW (cc := b_M_close) (maxL := 2) (ret := none) (by decide) rfl ?_
  intro p e s m args below meth c s₁ B hml hv
  obtain ⟨rfl, hsz, hP, hK, hD0⟩ := hv
  have hx := B.exec
  have hb := B.bytes
  have hr := B.returns
  have hts := fun w h => atoms_spec (ws := (Cond.code y_M_close b_M_close 2 none :: wA)) B.pre w (List.mem_cons_of_mem _ h)
  have hown : s.vm.findClass R_M = some m.cls := findClass_of_methodNamed B.named
  have hlocks := B.notSynchronized
  subst hsz
  have hD := hD0.self (sz := s.heap.size)
  have hA : ∀ q : Nat, s.heap.size ≤ q → va_A (wM o cI Fa Aa) s.heap.size q := fun q h => Or.inr h
  have hS : va_S (va_A (wM o cI Fa Aa) s.heap.size) s.heap s.heap [] := va_S.rf
  have hl := lv_entry (([.ref (o 0)] : List Value)) (n := 2) (Nat.le_of_ble_eq_true rfl)
  have J36 : ∀ (x1 : Int32) (F : ST_F) (A : ST_A) (H : Heap) (locs : List Loc) (ls : Array Slot), lv_has ls 2 [(0, .ref (o 0)), (1, .int x1)] → va_P (dC, dI) vC (wM o cI F A) H → va_D (va_A (wM o cI Fa Aa) s.heap.size) (wM o cI F A) → va_S (va_A (wM o cI Fa Aa) s.heap.size) s.heap H locs → f_M_close_J36 x1 F A = some (F9, A9) → W p l e (headSpec (Cond.code y_M_close b_M_close 2 none :: wA) ({ frames := 5, cells := 0, slots := 0, locals := 116 } : Room)).room s m ([.ref (o 0)] : List Value).toArray below meth c H locs 0 0 (MQ below (cc_Qv (dC, dI) vC [(cI, .int)] (wM o cI Fa Aa) s.heap.size (wM o cI F9 A9)) ([.ref (o 0)] : List Value).toArray s 0 0 (va_A (wM o cI Fa Aa) s.heap.size)) (F0 m 36 ls []) := by
    intro x1 F A H locs ls hl hP hD hS hf
    unfold f_M_close_J36 at hf
    refine lv_aload_n hx hb d_M_close_36 rfl (lv_at hl 0 rfl) ?_
    refine lv_dup hx hb d_M_close_37 rfl ?_
    refine va_get (D := (dC, dI)) (ci := 4) (v := .int (F 7)) (C := R_M) (T := T_M) (N := 29) hx hb hts in_M hown hK hP 0 rfl rfl 20 (by decide) (hts _ mw_523) (fun _ h9 => h9) rfl d_M_close_38 ?_
    refine lv_iconst (v := 1) hx hb d_M_close_41 (by decide) ?_
    refine lv_isub hx hb d_M_close_42 ?_
    refine va_put (D := (dC, dI)) (ci := 4) (v := .int ((F 7) - (1 : Int32))) (ty := .int) (C := R_M) (T := T_M) (N := 29) hx hb hts in_M ty_M ty_M_ok nm_M hown hK hP hD hS 0 rfl rfl 20 (by decide) (hts _ mw_523) (fun _ h9 => h9) rfl (by decide +kernel) rfl rfl (Nat.le_of_ble_eq_true rfl) d_M_close_43 (fun H locs hP hD hS => ?_)
    have hP : va_P (dC, dI) vC [((o 0), .inr (4, [.int (F 0), .int (F 1), .ref (o 1), .int (F 2), .ref (o 2), .ref (o 3), .ref (o 4), .ref (o 5), .ref (o 6), .int (F 3), .ref (o 7), .ref (o 8), .ref (o 9), .ref (o 10), .ref (o 11), .int (F 4), .int (F 5), .int (F 6), .ref (o 12), .ref (o 13), .int ((F 7) - (1 : Int32)), .ref (o 14), .ref (o 15), .int (F 8), .int (F 9), .ref (o 16), .ref (o 17), .ref (o 18), .ref (o 19)])), ((o 1), .inl (cI, 160, .inl (A 0))), ((o 2), .inl (cI, 100, .inl (A 1))), ((o 3), .inl (cI, 100, .inl (A 2))), ((o 4), .inl (cI, 100, .inl (A 3))), ((o 5), .inl (cI, 3, .inl (A 4))), ((o 6), .inl (cI, 26, .inl (A 5))), ((o 7), .inl (cI, 100, .inl (A 6))), ((o 8), .inl (cI, 100, .inl (A 7))), ((o 9), .inl (cI, 100, .inl (A 8))), ((o 10), .inl (cI, 26, .inl (A 9))), ((o 11), .inl (cI, 104, .inl (A 10))), ((o 12), .inl (cI, 80, .inl (A 11))), ((o 13), .inl (cI, 320, .inl (A 12))), ((o 14), .inl (cI, 200, .inl (A 13))), ((o 15), .inl (cI, 200, .inl (A 14))), ((o 16), .inl (cI, 4, .inl (A 15))), ((o 17), .inl (cI, 32, .inl (A 16))), ((o 18), .inl (cI, 32, .inl (A 17))), ((o 19), .inl (cI, 100, .inl (A 18)))] H := hP
    have hD : va_D (va_A (wM o cI Fa Aa) s.heap.size) [((o 0), .inr (4, [.int (F 0), .int (F 1), .ref (o 1), .int (F 2), .ref (o 2), .ref (o 3), .ref (o 4), .ref (o 5), .ref (o 6), .int (F 3), .ref (o 7), .ref (o 8), .ref (o 9), .ref (o 10), .ref (o 11), .int (F 4), .int (F 5), .int (F 6), .ref (o 12), .ref (o 13), .int ((F 7) - (1 : Int32)), .ref (o 14), .ref (o 15), .int (F 8), .int (F 9), .ref (o 16), .ref (o 17), .ref (o 18), .ref (o 19)])), ((o 1), .inl (cI, 160, .inl (A 0))), ((o 2), .inl (cI, 100, .inl (A 1))), ((o 3), .inl (cI, 100, .inl (A 2))), ((o 4), .inl (cI, 100, .inl (A 3))), ((o 5), .inl (cI, 3, .inl (A 4))), ((o 6), .inl (cI, 26, .inl (A 5))), ((o 7), .inl (cI, 100, .inl (A 6))), ((o 8), .inl (cI, 100, .inl (A 7))), ((o 9), .inl (cI, 100, .inl (A 8))), ((o 10), .inl (cI, 26, .inl (A 9))), ((o 11), .inl (cI, 104, .inl (A 10))), ((o 12), .inl (cI, 80, .inl (A 11))), ((o 13), .inl (cI, 320, .inl (A 12))), ((o 14), .inl (cI, 200, .inl (A 13))), ((o 15), .inl (cI, 200, .inl (A 14))), ((o 16), .inl (cI, 4, .inl (A 15))), ((o 17), .inl (cI, 32, .inl (A 16))), ((o 18), .inl (cI, 32, .inl (A 17))), ((o 19), .inl (cI, 100, .inl (A 18)))] := hD
    refine lv_aload_n hx hb d_M_close_46 rfl (lv_at hl 0 rfl) ?_
    refine lv_dup hx hb d_M_close_47 rfl ?_
    refine va_get (D := (dC, dI)) (ci := 4) (v := .int (F 8)) (C := R_M) (T := T_M) (N := 29) hx hb hts in_M hown hK hP 0 rfl rfl 23 (by decide) (hts _ mw_526) (fun _ h9 => h9) rfl d_M_close_48 ?_
    refine lv_iconst (v := 1) hx hb d_M_close_51 (by decide) ?_
    refine lv_isub hx hb d_M_close_52 ?_
    refine va_put (D := (dC, dI)) (ci := 4) (v := .int ((F 8) - (1 : Int32))) (ty := .int) (C := R_M) (T := T_M) (N := 29) hx hb hts in_M ty_M ty_M_ok nm_M hown hK hP hD hS 0 rfl rfl 23 (by decide) (hts _ mw_526) (fun _ h9 => h9) rfl (by decide +kernel) rfl rfl (Nat.le_of_ble_eq_true rfl) d_M_close_53 (fun H locs hP hD hS => ?_)
    have hP : va_P (dC, dI) vC [((o 0), .inr (4, [.int (F 0), .int (F 1), .ref (o 1), .int (F 2), .ref (o 2), .ref (o 3), .ref (o 4), .ref (o 5), .ref (o 6), .int (F 3), .ref (o 7), .ref (o 8), .ref (o 9), .ref (o 10), .ref (o 11), .int (F 4), .int (F 5), .int (F 6), .ref (o 12), .ref (o 13), .int ((F 7) - (1 : Int32)), .ref (o 14), .ref (o 15), .int ((F 8) - (1 : Int32)), .int (F 9), .ref (o 16), .ref (o 17), .ref (o 18), .ref (o 19)])), ((o 1), .inl (cI, 160, .inl (A 0))), ((o 2), .inl (cI, 100, .inl (A 1))), ((o 3), .inl (cI, 100, .inl (A 2))), ((o 4), .inl (cI, 100, .inl (A 3))), ((o 5), .inl (cI, 3, .inl (A 4))), ((o 6), .inl (cI, 26, .inl (A 5))), ((o 7), .inl (cI, 100, .inl (A 6))), ((o 8), .inl (cI, 100, .inl (A 7))), ((o 9), .inl (cI, 100, .inl (A 8))), ((o 10), .inl (cI, 26, .inl (A 9))), ((o 11), .inl (cI, 104, .inl (A 10))), ((o 12), .inl (cI, 80, .inl (A 11))), ((o 13), .inl (cI, 320, .inl (A 12))), ((o 14), .inl (cI, 200, .inl (A 13))), ((o 15), .inl (cI, 200, .inl (A 14))), ((o 16), .inl (cI, 4, .inl (A 15))), ((o 17), .inl (cI, 32, .inl (A 16))), ((o 18), .inl (cI, 32, .inl (A 17))), ((o 19), .inl (cI, 100, .inl (A 18)))] H := hP
    have hD : va_D (va_A (wM o cI Fa Aa) s.heap.size) [((o 0), .inr (4, [.int (F 0), .int (F 1), .ref (o 1), .int (F 2), .ref (o 2), .ref (o 3), .ref (o 4), .ref (o 5), .ref (o 6), .int (F 3), .ref (o 7), .ref (o 8), .ref (o 9), .ref (o 10), .ref (o 11), .int (F 4), .int (F 5), .int (F 6), .ref (o 12), .ref (o 13), .int ((F 7) - (1 : Int32)), .ref (o 14), .ref (o 15), .int ((F 8) - (1 : Int32)), .int (F 9), .ref (o 16), .ref (o 17), .ref (o 18), .ref (o 19)])), ((o 1), .inl (cI, 160, .inl (A 0))), ((o 2), .inl (cI, 100, .inl (A 1))), ((o 3), .inl (cI, 100, .inl (A 2))), ((o 4), .inl (cI, 100, .inl (A 3))), ((o 5), .inl (cI, 3, .inl (A 4))), ((o 6), .inl (cI, 26, .inl (A 5))), ((o 7), .inl (cI, 100, .inl (A 6))), ((o 8), .inl (cI, 100, .inl (A 7))), ((o 9), .inl (cI, 100, .inl (A 8))), ((o 10), .inl (cI, 26, .inl (A 9))), ((o 11), .inl (cI, 104, .inl (A 10))), ((o 12), .inl (cI, 80, .inl (A 11))), ((o 13), .inl (cI, 320, .inl (A 12))), ((o 14), .inl (cI, 200, .inl (A 13))), ((o 15), .inl (cI, 200, .inl (A 14))), ((o 16), .inl (cI, 4, .inl (A 15))), ((o 17), .inl (cI, 32, .inl (A 16))), ((o 18), .inl (cI, 32, .inl (A 17))), ((o 19), .inl (cI, 100, .inl (A 18)))] := hD
    refine lv_iload_n hx hb d_M_close_56 rfl (lv_at hl 1 rfl) ?_
    refine lv_bipush (v := 40) hx hb d_M_close_57 (by decide) ?_
    refine lv_icmp_eq (tgt := 76) hx hb d_M_close_59 (by decide) (fun h59_5 => ?_) (fun h59_5 => ?_)
    · rw [if_pos h59_5] at hf
      refine lv_aload_n hx hb d_M_close_76 rfl (lv_at hl 0 rfl) ?_
      refine lv_iconst (v := 0) hx hb d_M_close_77 (by decide) ?_
      have hP : va_P (dC, dI) vC (wM o cI (upd (upd F 7 ((F 7) - (1 : Int32))) 8 ((F 8) - (1 : Int32))) A) H := hP
      have hD : va_D (va_A (wM o cI Fa Aa) s.heap.size) (wM o cI (upd (upd F 7 ((F 7) - (1 : Int32))) 8 ((F 8) - (1 : Int32))) A) := hD
      obtain ⟨F6, A6, hc, hf⟩ := ra_bv_some hf
      refine cc_callv (va_runV (As := [.int (0 : Int32)]) (rest := []) ⟨hx, hb, hml, hown, hts⟩ (k_M_finish l dC dI o cI H.size (upd (upd F 7 ((F 7) - (1 : Int32))) 8 ((F 8) - (1 : Int32))) A (0 : Int32) F6 A6 hc) (cw_V 1 hts mw_691 mw_693 ms_M_finish mw_5 mw_694 rfl rfl rfl hd_M_finish ⟨Nat.le_of_ble_eq_true rfl, Nat.le_of_ble_eq_true rfl⟩) (cc_preV hK hP hD rfl (q0 := 0) rfl) rfl rfl hl.1 rfl (lv_room (Nat.le_of_ble_eq_true rfl)) d_M_close_78 ⟨Nat.zero_le _, Nat.zero_le _⟩) hD hS hA (fun H locs hP hD hS => ?_)
      cases hf
      exact W.vret hx hb hr (fun t ht hW => ⟨⟨(), rfl, trivial, by rw [ht]; exact hP, va_K.moved hW.alike hK, hD⟩, hS.F ht⟩) hS.2.2 d_M_close_81
    · rw [if_neg h59_5] at hf
      refine lv_aload_n hx hb d_M_close_62 rfl (lv_at hl 0 rfl) ?_
      refine lv_iload_n hx hb d_M_close_63 rfl (lv_at hl 1 rfl) ?_
      refine lv_aload_n hx hb d_M_close_64 rfl (lv_at hl 0 rfl) ?_
      refine va_get (D := (dC, dI)) (ci := 4) (v := .ref (o 15)) (C := R_M) (T := T_M) (N := 29) hx hb hts in_M hown hK hP 0 rfl rfl 22 (by decide) (hts _ mw_525) (fun _ h9 => h9) rfl d_M_close_65 ?_
      refine lv_aload_n hx hb d_M_close_68 rfl (lv_at hl 0 rfl) ?_
      refine va_get (D := (dC, dI)) (ci := 4) (v := .int ((F 7) - (1 : Int32))) (C := R_M) (T := T_M) (N := 29) hx hb hts in_M hown hK hP 0 rfl rfl 20 (by decide) (hts _ mw_523) (fun _ h9 => h9) rfl d_M_close_69 ?_
      obtain ⟨hi, hf⟩ := ra_g_some hf
      refine va_iald hx hb hK hP 15 0 rfl rfl hi d_M_close_72 ?_
      have hP : va_P (dC, dI) vC (wM o cI (upd (upd F 7 ((F 7) - (1 : Int32))) 8 ((F 8) - (1 : Int32))) A) H := hP
      have hD : va_D (va_A (wM o cI Fa Aa) s.heap.size) (wM o cI (upd (upd F 7 ((F 7) - (1 : Int32))) 8 ((F 8) - (1 : Int32))) A) := hD
      obtain ⟨F7, A7, hc, hf⟩ := ra_bv_some hf
      refine cc_callv (va_runV (As := [.int x1, .int ((A 14) ((F 7) - (1 : Int32)).toNatClampNeg)]) (rest := []) ⟨hx, hb, hml, hown, hts⟩ (k_M_call l dC dI o cI H.size (upd (upd F 7 ((F 7) - (1 : Int32))) 8 ((F 8) - (1 : Int32))) A x1 ((A 14) ((F 7) - (1 : Int32)).toNatClampNeg) F7 A7 hc) (cw_V 2 hts mw_671 mw_673 ms_M_call mw_5 mw_674 rfl rfl rfl hd_M_call ⟨Nat.le_of_ble_eq_true rfl, Nat.le_of_ble_eq_true rfl⟩) (cc_preV hK hP hD rfl (q0 := 0) rfl) rfl rfl hl.1 rfl (lv_room (Nat.le_of_ble_eq_true rfl)) d_M_close_73 ⟨Nat.zero_le _, Nat.zero_le _⟩) hD hS hA (fun H locs hP hD hS => ?_)
      refine lv_aload_n hx hb d_M_close_76 rfl (lv_at hl 0 rfl) ?_
      refine lv_iconst (v := 0) hx hb d_M_close_77 (by decide) ?_
      have hP : va_P (dC, dI) vC (wM o cI F7 A7) H := hP
      have hD : va_D (va_A (wM o cI Fa Aa) s.heap.size) (wM o cI F7 A7) := hD
      obtain ⟨F8, A8, hc, hf⟩ := ra_bv_some hf
      refine cc_callv (va_runV (As := [.int (0 : Int32)]) (rest := []) ⟨hx, hb, hml, hown, hts⟩ (k_M_finish l dC dI o cI H.size F7 A7 (0 : Int32) F8 A8 hc) (cw_V 1 hts mw_691 mw_693 ms_M_finish mw_5 mw_694 rfl rfl rfl hd_M_finish ⟨Nat.le_of_ble_eq_true rfl, Nat.le_of_ble_eq_true rfl⟩) (cc_preV hK hP hD rfl (q0 := 0) rfl) rfl rfl hl.1 rfl (lv_room (Nat.le_of_ble_eq_true rfl)) d_M_close_78 ⟨Nat.zero_le _, Nat.zero_le _⟩) hD hS hA (fun H locs hP hD hS => ?_)
      cases hf
      exact W.vret hx hb hr (fun t ht hW => ⟨⟨(), rfl, trivial, by rw [ht]; exact hP, va_K.moved hW.alike hK, hD⟩, hS.F ht⟩) hS.2.2 d_M_close_81
  rw [lg_entry_eq]
  generalize (lg_sl (([.ref (o 0)] : List Value)) ++ List.replicate (2 - (lg_sl (([.ref (o 0)] : List Value))).length) Slot.unset).toArray = ls at hl ⊢
  have hl : lv_has ls 2 [(0, .ref (o 0))] := hl
  unfold f_M_close at hf
  refine lv_aload_n hx hb d_M_close_0 rfl (lv_at hl 0 rfl) ?_
  refine lv_iconst (v := 1) hx hb d_M_close_1 (by decide) ?_
  have hP : va_P (dC, dI) vC (wM o cI Fa Aa) s.heap := hP
  have hD : va_D (va_A (wM o cI Fa Aa) s.heap.size) (wM o cI Fa Aa) := hD
  obtain ⟨F1, A1, hc, hf⟩ := ra_bv_some hf
  refine cc_callv (va_runV (As := [.int (1 : Int32)]) (rest := []) ⟨hx, hb, hml, hown, hts⟩ (k_M_settle l dC dI o cI s.heap.size Fa Aa (1 : Int32) F1 A1 hc) (cw_V 1 hts mw_629 mw_631 ms_M_settle mw_5 mw_632 rfl rfl rfl hd_M_settle ⟨Nat.le_of_ble_eq_true rfl, Nat.le_of_ble_eq_true rfl⟩) (cc_preV hK hP hD rfl (q0 := 0) rfl) rfl rfl hl.1 rfl (lv_room (Nat.le_of_ble_eq_true rfl)) d_M_close_2 ⟨Nat.zero_le _, Nat.zero_le _⟩) hD hS hA (fun H locs hP hD hS => ?_)
  refine lv_aload_n hx hb d_M_close_5 rfl (lv_at hl 0 rfl) ?_
  have hP : va_P (dC, dI) vC (wM o cI F1 A1) H := hP
  have hD : va_D (va_A (wM o cI Fa Aa) s.heap.size) (wM o cI F1 A1) := hD
  obtain ⟨r2, F2, A2, hc, hf⟩ := ra_bi_some hf
  refine cc_calli (va_runV (As := []) (rest := []) ⟨hx, hb, hml, hown, hts⟩ (k_M_top l dC dI o cI H.size F1 A1  r2 F2 A2 hc) (cw_V 0 hts mw_633 mw_635 ms_M_top mw_5 mw_636 rfl rfl rfl hd_M_top ⟨Nat.le_of_ble_eq_true rfl, Nat.le_of_ble_eq_true rfl⟩) (cc_preV hK hP hD rfl (q0 := 0) rfl) rfl rfl hl.1 rfl (lv_room (Nat.le_of_ble_eq_true rfl)) d_M_close_6 ⟨Nat.zero_le _, Nat.zero_le _⟩) hD hS hA (fun H locs hP hD hS => ?_)
  refine lv_istore_n hx hb d_M_close_9 rfl hl (by decide) rfl (fun ls hl => ?_)
  have hl : lv_has ls 2 [(1, .int r2), (0, .ref (o 0))] := hl
  refine lv_aload_n hx hb d_M_close_10 rfl (lv_at hl 1 rfl) ?_
  refine va_get (D := (dC, dI)) (ci := 4) (v := .int (F2 5)) (C := R_M) (T := T_M) (N := 29) hx hb hts in_M hown hK hP 0 rfl rfl 16 (by decide) (hts _ mw_519) (fun _ h9 => h9) rfl d_M_close_11 ?_
  refine lv_if_ne (tgt := 30) hx hb d_M_close_14 (by decide) (fun h14_3 => ?_) (fun h14_3 => ?_)
  · rw [if_neg h14_3] at hf
    refine lv_aload_n hx hb d_M_close_30 rfl (lv_at hl 1 rfl) ?_
    refine lv_iconst (v := 1) hx hb d_M_close_31 (by decide) ?_
    refine va_put (D := (dC, dI)) (ci := 4) (v := .int (1 : Int32)) (ty := .boolean) (C := R_M) (T := T_M) (N := 29) hx hb hts in_M ty_M ty_M_ok nm_M hown hK hP hD hS 0 rfl rfl 16 (by decide) (hts _ mw_519) (fun _ h9 => h9) rfl (by decide +kernel) rfl rfl (Nat.le_of_ble_eq_true rfl) d_M_close_32 (fun H locs hP hD hS => ?_)
    have hP : va_P (dC, dI) vC [((o 0), .inr (4, [.int (F2 0), .int (F2 1), .ref (o 1), .int (F2 2), .ref (o 2), .ref (o 3), .ref (o 4), .ref (o 5), .ref (o 6), .int (F2 3), .ref (o 7), .ref (o 8), .ref (o 9), .ref (o 10), .ref (o 11), .int (F2 4), .int (1 : Int32), .int (F2 6), .ref (o 12), .ref (o 13), .int (F2 7), .ref (o 14), .ref (o 15), .int (F2 8), .int (F2 9), .ref (o 16), .ref (o 17), .ref (o 18), .ref (o 19)])), ((o 1), .inl (cI, 160, .inl (A2 0))), ((o 2), .inl (cI, 100, .inl (A2 1))), ((o 3), .inl (cI, 100, .inl (A2 2))), ((o 4), .inl (cI, 100, .inl (A2 3))), ((o 5), .inl (cI, 3, .inl (A2 4))), ((o 6), .inl (cI, 26, .inl (A2 5))), ((o 7), .inl (cI, 100, .inl (A2 6))), ((o 8), .inl (cI, 100, .inl (A2 7))), ((o 9), .inl (cI, 100, .inl (A2 8))), ((o 10), .inl (cI, 26, .inl (A2 9))), ((o 11), .inl (cI, 104, .inl (A2 10))), ((o 12), .inl (cI, 80, .inl (A2 11))), ((o 13), .inl (cI, 320, .inl (A2 12))), ((o 14), .inl (cI, 200, .inl (A2 13))), ((o 15), .inl (cI, 200, .inl (A2 14))), ((o 16), .inl (cI, 4, .inl (A2 15))), ((o 17), .inl (cI, 32, .inl (A2 16))), ((o 18), .inl (cI, 32, .inl (A2 17))), ((o 19), .inl (cI, 100, .inl (A2 18)))] H := hP
    have hD : va_D (va_A (wM o cI Fa Aa) s.heap.size) [((o 0), .inr (4, [.int (F2 0), .int (F2 1), .ref (o 1), .int (F2 2), .ref (o 2), .ref (o 3), .ref (o 4), .ref (o 5), .ref (o 6), .int (F2 3), .ref (o 7), .ref (o 8), .ref (o 9), .ref (o 10), .ref (o 11), .int (F2 4), .int (1 : Int32), .int (F2 6), .ref (o 12), .ref (o 13), .int (F2 7), .ref (o 14), .ref (o 15), .int (F2 8), .int (F2 9), .ref (o 16), .ref (o 17), .ref (o 18), .ref (o 19)])), ((o 1), .inl (cI, 160, .inl (A2 0))), ((o 2), .inl (cI, 100, .inl (A2 1))), ((o 3), .inl (cI, 100, .inl (A2 2))), ((o 4), .inl (cI, 100, .inl (A2 3))), ((o 5), .inl (cI, 3, .inl (A2 4))), ((o 6), .inl (cI, 26, .inl (A2 5))), ((o 7), .inl (cI, 100, .inl (A2 6))), ((o 8), .inl (cI, 100, .inl (A2 7))), ((o 9), .inl (cI, 100, .inl (A2 8))), ((o 10), .inl (cI, 26, .inl (A2 9))), ((o 11), .inl (cI, 104, .inl (A2 10))), ((o 12), .inl (cI, 80, .inl (A2 11))), ((o 13), .inl (cI, 320, .inl (A2 12))), ((o 14), .inl (cI, 200, .inl (A2 13))), ((o 15), .inl (cI, 200, .inl (A2 14))), ((o 16), .inl (cI, 4, .inl (A2 15))), ((o 17), .inl (cI, 32, .inl (A2 16))), ((o 18), .inl (cI, 32, .inl (A2 17))), ((o 19), .inl (cI, 100, .inl (A2 18)))] := hD
    cases hf
    exact W.vret hx hb hr (fun t ht hW => ⟨⟨(), rfl, trivial, by rw [ht]; exact hP, va_K.moved hW.alike hK, hD⟩, hS.F ht⟩) hS.2.2 d_M_close_35
  · rw [if_pos h14_3] at hf
    refine lv_iload_n hx hb d_M_close_17 rfl (lv_at hl 0 rfl) ?_
    refine lv_bipush (v := 40) hx hb d_M_close_18 (by decide) ?_
    refine lv_icmp_eq (tgt := 36) hx hb d_M_close_20 (by decide) (fun h20_4 => ?_) (fun h20_4 => ?_)
    · rw [if_pos h20_4] at hf
      have hl : lv_has ls 2 [(0, .ref (o 0)), (1, .int r2)] := lv_sub hl [1, 0] rfl
      exact J36 r2 F2 A2 _ _ _ hl hP hD hS hf
    · rw [if_neg h20_4] at hf
      refine lv_iload_n hx hb d_M_close_23 rfl (lv_at hl 0 rfl) ?_
      refine cc_calls (va_runS (As := [.int r2]) (rest := []) ⟨hx, hb, hml, hown, hts⟩ (k_M_isFunction l r2 _ rfl) (cw_S 1 hts mw_668 mw_669 mw_5 mw_670 rfl rfl hd_M_isFunction ⟨Nat.le_of_ble_eq_true rfl, Nat.le_of_ble_eq_true rfl⟩) cc_preS rfl rfl hl.1 rfl (lv_room (Nat.le_of_ble_eq_true rfl)) d_M_close_24 ⟨Nat.zero_le _, Nat.zero_le _⟩) ?_
      refine lv_if_ne (tgt := 36) hx hb d_M_close_27 (by decide) (fun h27_9 => ?_) (fun h27_9 => ?_)
      · rw [if_neg h27_9] at hf
        have hl : lv_has ls 2 [(0, .ref (o 0)), (1, .int r2)] := lv_sub hl [1, 0] rfl
        exact J36 r2 F2 A2 _ _ _ hl hP hD hS hf
      · rw [if_pos h27_9] at hf
        refine lv_aload_n hx hb d_M_close_30 rfl (lv_at hl 1 rfl) ?_
        refine lv_iconst (v := 1) hx hb d_M_close_31 (by decide) ?_
        refine va_put (D := (dC, dI)) (ci := 4) (v := .int (1 : Int32)) (ty := .boolean) (C := R_M) (T := T_M) (N := 29) hx hb hts in_M ty_M ty_M_ok nm_M hown hK hP hD hS 0 rfl rfl 16 (by decide) (hts _ mw_519) (fun _ h9 => h9) rfl (by decide +kernel) rfl rfl (Nat.le_of_ble_eq_true rfl) d_M_close_32 (fun H locs hP hD hS => ?_)
        have hP : va_P (dC, dI) vC [((o 0), .inr (4, [.int (F2 0), .int (F2 1), .ref (o 1), .int (F2 2), .ref (o 2), .ref (o 3), .ref (o 4), .ref (o 5), .ref (o 6), .int (F2 3), .ref (o 7), .ref (o 8), .ref (o 9), .ref (o 10), .ref (o 11), .int (F2 4), .int (1 : Int32), .int (F2 6), .ref (o 12), .ref (o 13), .int (F2 7), .ref (o 14), .ref (o 15), .int (F2 8), .int (F2 9), .ref (o 16), .ref (o 17), .ref (o 18), .ref (o 19)])), ((o 1), .inl (cI, 160, .inl (A2 0))), ((o 2), .inl (cI, 100, .inl (A2 1))), ((o 3), .inl (cI, 100, .inl (A2 2))), ((o 4), .inl (cI, 100, .inl (A2 3))), ((o 5), .inl (cI, 3, .inl (A2 4))), ((o 6), .inl (cI, 26, .inl (A2 5))), ((o 7), .inl (cI, 100, .inl (A2 6))), ((o 8), .inl (cI, 100, .inl (A2 7))), ((o 9), .inl (cI, 100, .inl (A2 8))), ((o 10), .inl (cI, 26, .inl (A2 9))), ((o 11), .inl (cI, 104, .inl (A2 10))), ((o 12), .inl (cI, 80, .inl (A2 11))), ((o 13), .inl (cI, 320, .inl (A2 12))), ((o 14), .inl (cI, 200, .inl (A2 13))), ((o 15), .inl (cI, 200, .inl (A2 14))), ((o 16), .inl (cI, 4, .inl (A2 15))), ((o 17), .inl (cI, 32, .inl (A2 16))), ((o 18), .inl (cI, 32, .inl (A2 17))), ((o 19), .inl (cI, 100, .inl (A2 18)))] H := hP
        have hD : va_D (va_A (wM o cI Fa Aa) s.heap.size) [((o 0), .inr (4, [.int (F2 0), .int (F2 1), .ref (o 1), .int (F2 2), .ref (o 2), .ref (o 3), .ref (o 4), .ref (o 5), .ref (o 6), .int (F2 3), .ref (o 7), .ref (o 8), .ref (o 9), .ref (o 10), .ref (o 11), .int (F2 4), .int (1 : Int32), .int (F2 6), .ref (o 12), .ref (o 13), .int (F2 7), .ref (o 14), .ref (o 15), .int (F2 8), .int (F2 9), .ref (o 16), .ref (o 17), .ref (o 18), .ref (o 19)])), ((o 1), .inl (cI, 160, .inl (A2 0))), ((o 2), .inl (cI, 100, .inl (A2 1))), ((o 3), .inl (cI, 100, .inl (A2 2))), ((o 4), .inl (cI, 100, .inl (A2 3))), ((o 5), .inl (cI, 3, .inl (A2 4))), ((o 6), .inl (cI, 26, .inl (A2 5))), ((o 7), .inl (cI, 100, .inl (A2 6))), ((o 8), .inl (cI, 100, .inl (A2 7))), ((o 9), .inl (cI, 100, .inl (A2 8))), ((o 10), .inl (cI, 26, .inl (A2 9))), ((o 11), .inl (cI, 104, .inl (A2 10))), ((o 12), .inl (cI, 80, .inl (A2 11))), ((o 13), .inl (cI, 320, .inl (A2 12))), ((o 14), .inl (cI, 200, .inl (A2 13))), ((o 15), .inl (cI, 200, .inl (A2 14))), ((o 16), .inl (cI, 4, .inl (A2 15))), ((o 17), .inl (cI, 32, .inl (A2 16))), ((o 18), .inl (cI, 32, .inl (A2 17))), ((o 19), .inl (cI, 100, .inl (A2 18)))] := hD
        cases hf
        exact W.vret hx hb hr (fun t ht hW => ⟨⟨(), rfl, trivial, by rw [ht]; exact hP, va_K.moved hW.alike hK, hD⟩, hS.F ht⟩) hS.2.2 d_M_close_35
def f_M_begin  (Fa : ST_F) (Aa : ST_A) : Option (ST_F × ST_A) := ra_bi (f_M_look (Fa 4) (upd Fa 9 (-1 : Int32)) Aa) (fun r1 F1 A1 => if (f_M_isSmall r1) = 0 then (some (F1, A1)) else (ra_bi (f_M_look ((F1 4) + (1 : Int32)) F1 A1) (fun r3 F3 A3 => if r3 = (61 : Int32) then (ra_zb (f_M_isGiven r1) (some ((upd (upd (upd F3 5 (f_M_isGiven r1)) 9 (r1 - (97 : Int32))) 4 ((F3 4) + (2 : Int32))), A3))) else (some (F3, A3)))))
set_option maxHeartbeats 4000000 in
set_option maxRecDepth 100000 in
theorem k_M_begin (l : Launch) (dC : Nat → ClassId) (dI : Nat → Nat → Nat) (o : Nat → Nat) (cI : ClassId) (sz : Nat) (Fa : ST_F) (Aa : ST_A)  (F9 : ST_F) (A9 : ST_A) (hf : f_M_begin  Fa Aa = some (F9, A9)) : cc_MetV l y_M_begin (Cond.code y_M_begin b_M_begin 2 none :: wA) ({ frames := 1, cells := 0, slots := 0, locals := 21 } : Room) (dC, dI) vC [(cI, .int)] ([.ref (o 0)] : List Value) (wM o cI Fa Aa) sz (wM o cI F9 A9) := by
  refine Met.ofW (cc := b_M_begin) (maxL := 2) (ret := none) (by decide) rfl ?_
  intro p e s m args below meth c s₁ B hml hv
  obtain ⟨rfl, hsz, hP, hK, hD0⟩ := hv
  have hx := B.exec
  have hb := B.bytes
  have hr := B.returns
  have hts := fun w h => atoms_spec (ws := (Cond.code y_M_begin b_M_begin 2 none :: wA)) B.pre w (List.mem_cons_of_mem _ h)
  have hown : s.vm.findClass R_M = some m.cls := findClass_of_methodNamed B.named
  have hlocks := B.notSynchronized
  subst hsz
  have hD := hD0.self (sz := s.heap.size)
  have hA : ∀ q : Nat, s.heap.size ≤ q → va_A (wM o cI Fa Aa) s.heap.size q := fun q h => Or.inr h
  have hS : va_S (va_A (wM o cI Fa Aa) s.heap.size) s.heap s.heap [] := va_S.rf
  have hl := lv_entry (([.ref (o 0)] : List Value)) (n := 2) (Nat.le_of_ble_eq_true rfl)
  rw [lg_entry_eq]
  generalize (lg_sl (([.ref (o 0)] : List Value)) ++ List.replicate (2 - (lg_sl (([.ref (o 0)] : List Value))).length) Slot.unset).toArray = ls at hl ⊢
  have hl : lv_has ls 2 [(0, .ref (o 0))] := hl
  unfold f_M_begin at hf
  refine lv_aload_n hx hb d_M_begin_0 rfl (lv_at hl 0 rfl) ?_
  refine lv_iconst (v := -1) hx hb d_M_begin_1 (by decide) ?_
  refine va_put (D := (dC, dI)) (ci := 4) (v := .int (-1 : Int32)) (ty := .int) (C := R_M) (T := T_M) (N := 29) hx hb hts in_M ty_M ty_M_ok nm_M hown hK hP hD hS 0 rfl rfl 24 (by decide) (hts _ mw_527) (fun _ h9 => h9) rfl (by decide +kernel) rfl rfl (Nat.le_of_ble_eq_true rfl) d_M_begin_2 (fun H locs hP hD hS => ?_)
  have hP : va_P (dC, dI) vC [((o 0), .inr (4, [.int (Fa 0), .int (Fa 1), .ref (o 1), .int (Fa 2), .ref (o 2), .ref (o 3), .ref (o 4), .ref (o 5), .ref (o 6), .int (Fa 3), .ref (o 7), .ref (o 8), .ref (o 9), .ref (o 10), .ref (o 11), .int (Fa 4), .int (Fa 5), .int (Fa 6), .ref (o 12), .ref (o 13), .int (Fa 7), .ref (o 14), .ref (o 15), .int (Fa 8), .int (-1 : Int32), .ref (o 16), .ref (o 17), .ref (o 18), .ref (o 19)])), ((o 1), .inl (cI, 160, .inl (Aa 0))), ((o 2), .inl (cI, 100, .inl (Aa 1))), ((o 3), .inl (cI, 100, .inl (Aa 2))), ((o 4), .inl (cI, 100, .inl (Aa 3))), ((o 5), .inl (cI, 3, .inl (Aa 4))), ((o 6), .inl (cI, 26, .inl (Aa 5))), ((o 7), .inl (cI, 100, .inl (Aa 6))), ((o 8), .inl (cI, 100, .inl (Aa 7))), ((o 9), .inl (cI, 100, .inl (Aa 8))), ((o 10), .inl (cI, 26, .inl (Aa 9))), ((o 11), .inl (cI, 104, .inl (Aa 10))), ((o 12), .inl (cI, 80, .inl (Aa 11))), ((o 13), .inl (cI, 320, .inl (Aa 12))), ((o 14), .inl (cI, 200, .inl (Aa 13))), ((o 15), .inl (cI, 200, .inl (Aa 14))), ((o 16), .inl (cI, 4, .inl (Aa 15))), ((o 17), .inl (cI, 32, .inl (Aa 16))), ((o 18), .inl (cI, 32, .inl (Aa 17))), ((o 19), .inl (cI, 100, .inl (Aa 18)))] H := hP
  have hD : va_D (va_A (wM o cI Fa Aa) s.heap.size) [((o 0), .inr (4, [.int (Fa 0), .int (Fa 1), .ref (o 1), .int (Fa 2), .ref (o 2), .ref (o 3), .ref (o 4), .ref (o 5), .ref (o 6), .int (Fa 3), .ref (o 7), .ref (o 8), .ref (o 9), .ref (o 10), .ref (o 11), .int (Fa 4), .int (Fa 5), .int (Fa 6), .ref (o 12), .ref (o 13), .int (Fa 7), .ref (o 14), .ref (o 15), .int (Fa 8), .int (-1 : Int32), .ref (o 16), .ref (o 17), .ref (o 18), .ref (o 19)])), ((o 1), .inl (cI, 160, .inl (Aa 0))), ((o 2), .inl (cI, 100, .inl (Aa 1))), ((o 3), .inl (cI, 100, .inl (Aa 2))), ((o 4), .inl (cI, 100, .inl (Aa 3))), ((o 5), .inl (cI, 3, .inl (Aa 4))), ((o 6), .inl (cI, 26, .inl (Aa 5))), ((o 7), .inl (cI, 100, .inl (Aa 6))), ((o 8), .inl (cI, 100, .inl (Aa 7))), ((o 9), .inl (cI, 100, .inl (Aa 8))), ((o 10), .inl (cI, 26, .inl (Aa 9))), ((o 11), .inl (cI, 104, .inl (Aa 10))), ((o 12), .inl (cI, 80, .inl (Aa 11))), ((o 13), .inl (cI, 320, .inl (Aa 12))), ((o 14), .inl (cI, 200, .inl (Aa 13))), ((o 15), .inl (cI, 200, .inl (Aa 14))), ((o 16), .inl (cI, 4, .inl (Aa 15))), ((o 17), .inl (cI, 32, .inl (Aa 16))), ((o 18), .inl (cI, 32, .inl (Aa 17))), ((o 19), .inl (cI, 100, .inl (Aa 18)))] := hD
  refine lv_aload_n hx hb d_M_begin_5 rfl (lv_at hl 0 rfl) ?_
  refine lv_aload_n hx hb d_M_begin_6 rfl (lv_at hl 0 rfl) ?_
  refine va_get (D := (dC, dI)) (ci := 4) (v := .int (Fa 4)) (C := R_M) (T := T_M) (N := 29) hx hb hts in_M hown hK hP 0 rfl rfl 15 (by decide) (hts _ mw_518) (fun _ h9 => h9) rfl d_M_begin_7 ?_
  have hP : va_P (dC, dI) vC (wM o cI (upd Fa 9 (-1 : Int32)) Aa) H := hP
  have hD : va_D (va_A (wM o cI Fa Aa) s.heap.size) (wM o cI (upd Fa 9 (-1 : Int32)) Aa) := hD
  obtain ⟨r1, F1, A1, hc, hf⟩ := ra_bi_some hf
  refine cc_calli (va_runV (As := [.int (Fa 4)]) (rest := []) ⟨hx, hb, hml, hown, hts⟩ (k_M_look l dC dI o cI H.size (upd Fa 9 (-1 : Int32)) Aa (Fa 4) r1 F1 A1 hc) (cw_V 1 hts mw_611 mw_613 ms_M_look mw_5 mw_614 rfl rfl rfl hd_M_look ⟨Nat.le_of_ble_eq_true rfl, Nat.le_of_ble_eq_true rfl⟩) (cc_preV hK hP hD rfl (q0 := 0) rfl) rfl rfl hl.1 rfl (lv_room (Nat.le_of_ble_eq_true rfl)) d_M_begin_10 ⟨Nat.zero_le _, Nat.zero_le _⟩) hD hS hA (fun H locs hP hD hS => ?_)
  refine lv_istore_n hx hb d_M_begin_13 rfl hl (by decide) rfl (fun ls hl => ?_)
  have hl : lv_has ls 2 [(1, .int r1), (0, .ref (o 0))] := hl
  refine lv_iload_n hx hb d_M_begin_14 rfl (lv_at hl 0 rfl) ?_
  refine cc_calls (va_runS (As := [.int r1]) (rest := []) ⟨hx, hb, hml, hown, hts⟩ (k_M_isSmall l r1 _ rfl) (cw_S 1 hts mw_615 mw_616 mw_5 mw_617 rfl rfl hd_M_isSmall ⟨Nat.le_of_ble_eq_true rfl, Nat.le_of_ble_eq_true rfl⟩) cc_preS rfl rfl hl.1 rfl (lv_room (Nat.le_of_ble_eq_true rfl)) d_M_begin_15 ⟨Nat.zero_le _, Nat.zero_le _⟩) ?_
  refine lv_if_eq (tgt := 62) hx hb d_M_begin_18 (by decide) (fun h18_2 => ?_) (fun h18_2 => ?_)
  · rw [if_pos h18_2] at hf
    cases hf
    exact W.vret hx hb hr (fun t ht hW => ⟨⟨(), rfl, trivial, by rw [ht]; exact hP, va_K.moved hW.alike hK, hD⟩, hS.F ht⟩) hS.2.2 d_M_begin_62
  · rw [if_neg h18_2] at hf
    refine lv_aload_n hx hb d_M_begin_21 rfl (lv_at hl 1 rfl) ?_
    refine lv_aload_n hx hb d_M_begin_22 rfl (lv_at hl 1 rfl) ?_
    refine va_get (D := (dC, dI)) (ci := 4) (v := .int (F1 4)) (C := R_M) (T := T_M) (N := 29) hx hb hts in_M hown hK hP 0 rfl rfl 15 (by decide) (hts _ mw_518) (fun _ h9 => h9) rfl d_M_begin_23 ?_
    refine lv_iconst (v := 1) hx hb d_M_begin_26 (by decide) ?_
    refine lv_iadd hx hb d_M_begin_27 ?_
    have hP : va_P (dC, dI) vC (wM o cI F1 A1) H := hP
    have hD : va_D (va_A (wM o cI Fa Aa) s.heap.size) (wM o cI F1 A1) := hD
    obtain ⟨r3, F3, A3, hc, hf⟩ := ra_bi_some hf
    refine cc_calli (va_runV (As := [.int ((F1 4) + (1 : Int32))]) (rest := []) ⟨hx, hb, hml, hown, hts⟩ (k_M_look l dC dI o cI H.size F1 A1 ((F1 4) + (1 : Int32)) r3 F3 A3 hc) (cw_V 1 hts mw_611 mw_613 ms_M_look mw_5 mw_614 rfl rfl rfl hd_M_look ⟨Nat.le_of_ble_eq_true rfl, Nat.le_of_ble_eq_true rfl⟩) (cc_preV hK hP hD rfl (q0 := 0) rfl) rfl rfl hl.1 rfl (lv_room (Nat.le_of_ble_eq_true rfl)) d_M_begin_28 ⟨Nat.zero_le _, Nat.zero_le _⟩) hD hS hA (fun H locs hP hD hS => ?_)
    refine lv_bipush (v := 61) hx hb d_M_begin_31 (by decide) ?_
    refine lv_icmp_ne (tgt := 62) hx hb d_M_begin_33 (by decide) (fun h33_4 => ?_) (fun h33_4 => ?_)
    · rw [if_neg h33_4] at hf
      cases hf
      exact W.vret hx hb hr (fun t ht hW => ⟨⟨(), rfl, trivial, by rw [ht]; exact hP, va_K.moved hW.alike hK, hD⟩, hS.F ht⟩) hS.2.2 d_M_begin_62
    · rw [if_pos h33_4] at hf
      refine lv_aload_n hx hb d_M_begin_36 rfl (lv_at hl 1 rfl) ?_
      refine lv_iload_n hx hb d_M_begin_37 rfl (lv_at hl 0 rfl) ?_
      refine cc_calls (va_runS (As := [.int r1]) (rest := [.ref (o 0)]) ⟨hx, hb, hml, hown, hts⟩ (k_M_isGiven l r1 _ rfl) (cw_S 1 hts mw_618 mw_619 mw_5 mw_620 rfl rfl hd_M_isGiven ⟨Nat.le_of_ble_eq_true rfl, Nat.le_of_ble_eq_true rfl⟩) cc_preS rfl rfl hl.1 rfl (lv_room (Nat.le_of_ble_eq_true rfl)) d_M_begin_38 ⟨Nat.zero_le _, Nat.zero_le _⟩) ?_
      obtain ⟨hn, hfit, hf⟩ := ra_zb_some hf
      refine va_put (D := (dC, dI)) (ci := 4) (v := .int (f_M_isGiven r1)) (ty := .boolean) (C := R_M) (T := T_M) (N := 29) hx hb hts in_M ty_M ty_M_ok nm_M hown hK hP hD hS 0 rfl rfl 16 (by decide) (hts _ mw_519) (fun _ h9 => h9) rfl (by decide +kernel) hn hfit (Nat.le_of_ble_eq_true rfl) d_M_begin_41 (fun H locs hP hD hS => ?_)
      have hP : va_P (dC, dI) vC [((o 0), .inr (4, [.int (F3 0), .int (F3 1), .ref (o 1), .int (F3 2), .ref (o 2), .ref (o 3), .ref (o 4), .ref (o 5), .ref (o 6), .int (F3 3), .ref (o 7), .ref (o 8), .ref (o 9), .ref (o 10), .ref (o 11), .int (F3 4), .int (f_M_isGiven r1), .int (F3 6), .ref (o 12), .ref (o 13), .int (F3 7), .ref (o 14), .ref (o 15), .int (F3 8), .int (F3 9), .ref (o 16), .ref (o 17), .ref (o 18), .ref (o 19)])), ((o 1), .inl (cI, 160, .inl (A3 0))), ((o 2), .inl (cI, 100, .inl (A3 1))), ((o 3), .inl (cI, 100, .inl (A3 2))), ((o 4), .inl (cI, 100, .inl (A3 3))), ((o 5), .inl (cI, 3, .inl (A3 4))), ((o 6), .inl (cI, 26, .inl (A3 5))), ((o 7), .inl (cI, 100, .inl (A3 6))), ((o 8), .inl (cI, 100, .inl (A3 7))), ((o 9), .inl (cI, 100, .inl (A3 8))), ((o 10), .inl (cI, 26, .inl (A3 9))), ((o 11), .inl (cI, 104, .inl (A3 10))), ((o 12), .inl (cI, 80, .inl (A3 11))), ((o 13), .inl (cI, 320, .inl (A3 12))), ((o 14), .inl (cI, 200, .inl (A3 13))), ((o 15), .inl (cI, 200, .inl (A3 14))), ((o 16), .inl (cI, 4, .inl (A3 15))), ((o 17), .inl (cI, 32, .inl (A3 16))), ((o 18), .inl (cI, 32, .inl (A3 17))), ((o 19), .inl (cI, 100, .inl (A3 18)))] H := hP
      have hD : va_D (va_A (wM o cI Fa Aa) s.heap.size) [((o 0), .inr (4, [.int (F3 0), .int (F3 1), .ref (o 1), .int (F3 2), .ref (o 2), .ref (o 3), .ref (o 4), .ref (o 5), .ref (o 6), .int (F3 3), .ref (o 7), .ref (o 8), .ref (o 9), .ref (o 10), .ref (o 11), .int (F3 4), .int (f_M_isGiven r1), .int (F3 6), .ref (o 12), .ref (o 13), .int (F3 7), .ref (o 14), .ref (o 15), .int (F3 8), .int (F3 9), .ref (o 16), .ref (o 17), .ref (o 18), .ref (o 19)])), ((o 1), .inl (cI, 160, .inl (A3 0))), ((o 2), .inl (cI, 100, .inl (A3 1))), ((o 3), .inl (cI, 100, .inl (A3 2))), ((o 4), .inl (cI, 100, .inl (A3 3))), ((o 5), .inl (cI, 3, .inl (A3 4))), ((o 6), .inl (cI, 26, .inl (A3 5))), ((o 7), .inl (cI, 100, .inl (A3 6))), ((o 8), .inl (cI, 100, .inl (A3 7))), ((o 9), .inl (cI, 100, .inl (A3 8))), ((o 10), .inl (cI, 26, .inl (A3 9))), ((o 11), .inl (cI, 104, .inl (A3 10))), ((o 12), .inl (cI, 80, .inl (A3 11))), ((o 13), .inl (cI, 320, .inl (A3 12))), ((o 14), .inl (cI, 200, .inl (A3 13))), ((o 15), .inl (cI, 200, .inl (A3 14))), ((o 16), .inl (cI, 4, .inl (A3 15))), ((o 17), .inl (cI, 32, .inl (A3 16))), ((o 18), .inl (cI, 32, .inl (A3 17))), ((o 19), .inl (cI, 100, .inl (A3 18)))] := hD
      refine lv_aload_n hx hb d_M_begin_44 rfl (lv_at hl 1 rfl) ?_
      refine lv_iload_n hx hb d_M_begin_45 rfl (lv_at hl 0 rfl) ?_
      refine lv_bipush (v := 97) hx hb d_M_begin_46 (by decide) ?_
      refine lv_isub hx hb d_M_begin_48 ?_
      refine va_put (D := (dC, dI)) (ci := 4) (v := .int (r1 - (97 : Int32))) (ty := .int) (C := R_M) (T := T_M) (N := 29) hx hb hts in_M ty_M ty_M_ok nm_M hown hK hP hD hS 0 rfl rfl 24 (by decide) (hts _ mw_527) (fun _ h9 => h9) rfl (by decide +kernel) rfl rfl (Nat.le_of_ble_eq_true rfl) d_M_begin_49 (fun H locs hP hD hS => ?_)
      have hP : va_P (dC, dI) vC [((o 0), .inr (4, [.int (F3 0), .int (F3 1), .ref (o 1), .int (F3 2), .ref (o 2), .ref (o 3), .ref (o 4), .ref (o 5), .ref (o 6), .int (F3 3), .ref (o 7), .ref (o 8), .ref (o 9), .ref (o 10), .ref (o 11), .int (F3 4), .int (f_M_isGiven r1), .int (F3 6), .ref (o 12), .ref (o 13), .int (F3 7), .ref (o 14), .ref (o 15), .int (F3 8), .int (r1 - (97 : Int32)), .ref (o 16), .ref (o 17), .ref (o 18), .ref (o 19)])), ((o 1), .inl (cI, 160, .inl (A3 0))), ((o 2), .inl (cI, 100, .inl (A3 1))), ((o 3), .inl (cI, 100, .inl (A3 2))), ((o 4), .inl (cI, 100, .inl (A3 3))), ((o 5), .inl (cI, 3, .inl (A3 4))), ((o 6), .inl (cI, 26, .inl (A3 5))), ((o 7), .inl (cI, 100, .inl (A3 6))), ((o 8), .inl (cI, 100, .inl (A3 7))), ((o 9), .inl (cI, 100, .inl (A3 8))), ((o 10), .inl (cI, 26, .inl (A3 9))), ((o 11), .inl (cI, 104, .inl (A3 10))), ((o 12), .inl (cI, 80, .inl (A3 11))), ((o 13), .inl (cI, 320, .inl (A3 12))), ((o 14), .inl (cI, 200, .inl (A3 13))), ((o 15), .inl (cI, 200, .inl (A3 14))), ((o 16), .inl (cI, 4, .inl (A3 15))), ((o 17), .inl (cI, 32, .inl (A3 16))), ((o 18), .inl (cI, 32, .inl (A3 17))), ((o 19), .inl (cI, 100, .inl (A3 18)))] H := hP
      have hD : va_D (va_A (wM o cI Fa Aa) s.heap.size) [((o 0), .inr (4, [.int (F3 0), .int (F3 1), .ref (o 1), .int (F3 2), .ref (o 2), .ref (o 3), .ref (o 4), .ref (o 5), .ref (o 6), .int (F3 3), .ref (o 7), .ref (o 8), .ref (o 9), .ref (o 10), .ref (o 11), .int (F3 4), .int (f_M_isGiven r1), .int (F3 6), .ref (o 12), .ref (o 13), .int (F3 7), .ref (o 14), .ref (o 15), .int (F3 8), .int (r1 - (97 : Int32)), .ref (o 16), .ref (o 17), .ref (o 18), .ref (o 19)])), ((o 1), .inl (cI, 160, .inl (A3 0))), ((o 2), .inl (cI, 100, .inl (A3 1))), ((o 3), .inl (cI, 100, .inl (A3 2))), ((o 4), .inl (cI, 100, .inl (A3 3))), ((o 5), .inl (cI, 3, .inl (A3 4))), ((o 6), .inl (cI, 26, .inl (A3 5))), ((o 7), .inl (cI, 100, .inl (A3 6))), ((o 8), .inl (cI, 100, .inl (A3 7))), ((o 9), .inl (cI, 100, .inl (A3 8))), ((o 10), .inl (cI, 26, .inl (A3 9))), ((o 11), .inl (cI, 104, .inl (A3 10))), ((o 12), .inl (cI, 80, .inl (A3 11))), ((o 13), .inl (cI, 320, .inl (A3 12))), ((o 14), .inl (cI, 200, .inl (A3 13))), ((o 15), .inl (cI, 200, .inl (A3 14))), ((o 16), .inl (cI, 4, .inl (A3 15))), ((o 17), .inl (cI, 32, .inl (A3 16))), ((o 18), .inl (cI, 32, .inl (A3 17))), ((o 19), .inl (cI, 100, .inl (A3 18)))] := hD
      refine lv_aload_n hx hb d_M_begin_52 rfl (lv_at hl 1 rfl) ?_
      refine lv_dup hx hb d_M_begin_53 rfl ?_
      refine va_get (D := (dC, dI)) (ci := 4) (v := .int (F3 4)) (C := R_M) (T := T_M) (N := 29) hx hb hts in_M hown hK hP 0 rfl rfl 15 (by decide) (hts _ mw_518) (fun _ h9 => h9) rfl d_M_begin_54 ?_
      refine lv_iconst (v := 2) hx hb d_M_begin_57 (by decide) ?_
      refine lv_iadd hx hb d_M_begin_58 ?_
      refine va_put (D := (dC, dI)) (ci := 4) (v := .int ((F3 4) + (2 : Int32))) (ty := .int) (C := R_M) (T := T_M) (N := 29) hx hb hts in_M ty_M ty_M_ok nm_M hown hK hP hD hS 0 rfl rfl 15 (by decide) (hts _ mw_518) (fun _ h9 => h9) rfl (by decide +kernel) rfl rfl (Nat.le_of_ble_eq_true rfl) d_M_begin_59 (fun H locs hP hD hS => ?_)
      have hP : va_P (dC, dI) vC [((o 0), .inr (4, [.int (F3 0), .int (F3 1), .ref (o 1), .int (F3 2), .ref (o 2), .ref (o 3), .ref (o 4), .ref (o 5), .ref (o 6), .int (F3 3), .ref (o 7), .ref (o 8), .ref (o 9), .ref (o 10), .ref (o 11), .int ((F3 4) + (2 : Int32)), .int (f_M_isGiven r1), .int (F3 6), .ref (o 12), .ref (o 13), .int (F3 7), .ref (o 14), .ref (o 15), .int (F3 8), .int (r1 - (97 : Int32)), .ref (o 16), .ref (o 17), .ref (o 18), .ref (o 19)])), ((o 1), .inl (cI, 160, .inl (A3 0))), ((o 2), .inl (cI, 100, .inl (A3 1))), ((o 3), .inl (cI, 100, .inl (A3 2))), ((o 4), .inl (cI, 100, .inl (A3 3))), ((o 5), .inl (cI, 3, .inl (A3 4))), ((o 6), .inl (cI, 26, .inl (A3 5))), ((o 7), .inl (cI, 100, .inl (A3 6))), ((o 8), .inl (cI, 100, .inl (A3 7))), ((o 9), .inl (cI, 100, .inl (A3 8))), ((o 10), .inl (cI, 26, .inl (A3 9))), ((o 11), .inl (cI, 104, .inl (A3 10))), ((o 12), .inl (cI, 80, .inl (A3 11))), ((o 13), .inl (cI, 320, .inl (A3 12))), ((o 14), .inl (cI, 200, .inl (A3 13))), ((o 15), .inl (cI, 200, .inl (A3 14))), ((o 16), .inl (cI, 4, .inl (A3 15))), ((o 17), .inl (cI, 32, .inl (A3 16))), ((o 18), .inl (cI, 32, .inl (A3 17))), ((o 19), .inl (cI, 100, .inl (A3 18)))] H := hP
      have hD : va_D (va_A (wM o cI Fa Aa) s.heap.size) [((o 0), .inr (4, [.int (F3 0), .int (F3 1), .ref (o 1), .int (F3 2), .ref (o 2), .ref (o 3), .ref (o 4), .ref (o 5), .ref (o 6), .int (F3 3), .ref (o 7), .ref (o 8), .ref (o 9), .ref (o 10), .ref (o 11), .int ((F3 4) + (2 : Int32)), .int (f_M_isGiven r1), .int (F3 6), .ref (o 12), .ref (o 13), .int (F3 7), .ref (o 14), .ref (o 15), .int (F3 8), .int (r1 - (97 : Int32)), .ref (o 16), .ref (o 17), .ref (o 18), .ref (o 19)])), ((o 1), .inl (cI, 160, .inl (A3 0))), ((o 2), .inl (cI, 100, .inl (A3 1))), ((o 3), .inl (cI, 100, .inl (A3 2))), ((o 4), .inl (cI, 100, .inl (A3 3))), ((o 5), .inl (cI, 3, .inl (A3 4))), ((o 6), .inl (cI, 26, .inl (A3 5))), ((o 7), .inl (cI, 100, .inl (A3 6))), ((o 8), .inl (cI, 100, .inl (A3 7))), ((o 9), .inl (cI, 100, .inl (A3 8))), ((o 10), .inl (cI, 26, .inl (A3 9))), ((o 11), .inl (cI, 104, .inl (A3 10))), ((o 12), .inl (cI, 80, .inl (A3 11))), ((o 13), .inl (cI, 320, .inl (A3 12))), ((o 14), .inl (cI, 200, .inl (A3 13))), ((o 15), .inl (cI, 200, .inl (A3 14))), ((o 16), .inl (cI, 4, .inl (A3 15))), ((o 17), .inl (cI, 32, .inl (A3 16))), ((o 18), .inl (cI, 32, .inl (A3 17))), ((o 19), .inl (cI, 100, .inl (A3 18)))] := hD
      cases hf
      exact W.vret hx hb hr (fun t ht hW => ⟨⟨(), rfl, trivial, by rw [ht]; exact hP, va_K.moved hW.alike hK, hD⟩, hS.F ht⟩) hS.2.2 d_M_begin_62
def f_M_assign_L38 : Nat → Int32 → ST_F → ST_A → Option (ST_F × ST_A)
  | 0, _, _, _ => none
  | n + 1, x1, F, A => if (4 : Int32) ≤ x1 then (ra_bv (f_M_begin  F A) (fun F3 A3 => some (F3, A3))) else (ra_bi (f_M_number (F 6) x1 F A) (fun r4 F4 A4 => ra_g (((4 : Int32) * (F 9)) + x1) 104 (f_M_assign_L38 n (x1 + (1 : Int32)) F4 (va_up A4 10 (upd (A4 10) (((4 : Int32) * (F 9)) + x1).toNatClampNeg r4)))))
def f_M_assign  (Fa : ST_F) (Aa : ST_A) : Option (ST_F × ST_A) := if (Fa 5) = 0 then (ra_g ((Fa 6) - (1 : Int32)) 80 (ra_g (Fa 9) 26 (f_M_assign_L38 400 (0 : Int32) (upd Fa 6 ((Fa 6) - (1 : Int32))) (va_up Aa 9 (upd (Aa 9) (Fa 9).toNatClampNeg ((Aa 11) ((Fa 6) - (1 : Int32)).toNatClampNeg)))))) else (some (Fa, Aa))
set_option maxHeartbeats 4000000 in
set_option maxRecDepth 100000 in
theorem k_M_assign (l : Launch) (dC : Nat → ClassId) (dI : Nat → Nat → Nat) (o : Nat → Nat) (cI : ClassId) (sz : Nat) (Fa : ST_F) (Aa : ST_A)  (F9 : ST_F) (A9 : ST_A) (hf : f_M_assign  Fa Aa = some (F9, A9)) : cc_MetV l y_M_assign (Cond.code y_M_assign b_M_assign 2 none :: wA) ({ frames := 2, cells := 0, slots := 0, locals := 42 } : Room) (dC, dI) vC [(cI, .int)] ([.ref (o 0)] : List Value) (wM o cI Fa Aa) sz (wM o cI F9 A9) := by
  refine Met.ofW (cc := b_M_assign) (maxL := 2) (ret := none) (by decide) rfl ?_
  intro p e s m args below meth c s₁ B hml hv
  obtain ⟨rfl, hsz, hP, hK, hD0⟩ := hv
  have hx := B.exec
  have hb := B.bytes
  have hr := B.returns
  have hts := fun w h => atoms_spec (ws := (Cond.code y_M_assign b_M_assign 2 none :: wA)) B.pre w (List.mem_cons_of_mem _ h)
  have hown : s.vm.findClass R_M = some m.cls := findClass_of_methodNamed B.named
  have hlocks := B.notSynchronized
  subst hsz
  have hD := hD0.self (sz := s.heap.size)
  have hA : ∀ q : Nat, s.heap.size ≤ q → va_A (wM o cI Fa Aa) s.heap.size q := fun q h => Or.inr h
  have hS : va_S (va_A (wM o cI Fa Aa) s.heap.size) s.heap s.heap [] := va_S.rf
  have hl := lv_entry (([.ref (o 0)] : List Value)) (n := 2) (Nat.le_of_ble_eq_true rfl)
  have L38 : ∀ (n : Nat) (x1 : Int32) (F : ST_F) (A : ST_A) (H : Heap) (locs : List Loc) (ls : Array Slot), lv_has ls 2 [(0, .ref (o 0)), (1, .int x1)] → va_P (dC, dI) vC (wM o cI F A) H → va_D (va_A (wM o cI Fa Aa) s.heap.size) (wM o cI F A) → va_S (va_A (wM o cI Fa Aa) s.heap.size) s.heap H locs → f_M_assign_L38 n x1 F A = some (F9, A9) → W p l e (headSpec (Cond.code y_M_assign b_M_assign 2 none :: wA) ({ frames := 2, cells := 0, slots := 0, locals := 42 } : Room)).room s m ([.ref (o 0)] : List Value).toArray below meth c H locs 0 0 (MQ below (cc_Qv (dC, dI) vC [(cI, .int)] (wM o cI Fa Aa) s.heap.size (wM o cI F9 A9)) ([.ref (o 0)] : List Value).toArray s 0 0 (va_A (wM o cI Fa Aa) s.heap.size)) (F0 m 38 ls []) := by
    intro n
    induction n with
    | zero => intro x1 F A H locs ls hl hP hD hS hf; cases hf
    | succ n ih =>
      intro x1 F A H locs ls hl hP hD hS hf
      rw [f_M_assign_L38] at hf
      refine lv_iload_n hx hb d_M_assign_38 rfl (lv_at hl 1 rfl) ?_
      refine lv_iconst (v := 4) hx hb d_M_assign_39 (by decide) ?_
      refine lv_icmp_ge (tgt := 71) hx hb d_M_assign_40 (by decide) (fun h40_2 => ?_) (fun h40_2 => ?_)
      · rw [if_pos h40_2] at hf
        refine lv_aload_n hx hb d_M_assign_71 rfl (lv_at hl 0 rfl) ?_
        have hP : va_P (dC, dI) vC (wM o cI F A) H := hP
        have hD : va_D (va_A (wM o cI Fa Aa) s.heap.size) (wM o cI F A) := hD
        obtain ⟨F3, A3, hc, hf⟩ := ra_bv_some hf
        refine cc_callv (va_runV (As := []) (rest := []) ⟨hx, hb, hml, hown, hts⟩ (k_M_begin l dC dI o cI H.size F A  F3 A3 hc) (cw_V 0 hts mw_607 mw_609 ms_M_begin mw_5 mw_610 rfl rfl rfl hd_M_begin ⟨Nat.le_of_ble_eq_true rfl, Nat.le_of_ble_eq_true rfl⟩) (cc_preV hK hP hD rfl (q0 := 0) rfl) rfl rfl hl.1 rfl (lv_room (Nat.le_of_ble_eq_true rfl)) d_M_assign_72 ⟨Nat.zero_le _, Nat.zero_le _⟩) hD hS hA (fun H locs hP hD hS => ?_)
        cases hf
        exact W.vret hx hb hr (fun t ht hW => ⟨⟨(), rfl, trivial, by rw [ht]; exact hP, va_K.moved hW.alike hK, hD⟩, hS.F ht⟩) hS.2.2 d_M_assign_75
      · rw [if_neg h40_2] at hf
        refine lv_aload_n hx hb d_M_assign_43 rfl (lv_at hl 0 rfl) ?_
        refine va_get (D := (dC, dI)) (ci := 4) (v := .ref (o 11)) (C := R_M) (T := T_M) (N := 29) hx hb hts in_M hown hK hP 0 rfl rfl 14 (by decide) (hts _ mw_517) (fun _ h9 => h9) rfl d_M_assign_44 ?_
        refine lv_iconst (v := 4) hx hb d_M_assign_47 (by decide) ?_
        refine lv_aload_n hx hb d_M_assign_48 rfl (lv_at hl 0 rfl) ?_
        refine va_get (D := (dC, dI)) (ci := 4) (v := .int (F 9)) (C := R_M) (T := T_M) (N := 29) hx hb hts in_M hown hK hP 0 rfl rfl 24 (by decide) (hts _ mw_527) (fun _ h9 => h9) rfl d_M_assign_49 ?_
        refine lv_imul hx hb d_M_assign_52 ?_
        refine lv_iload_n hx hb d_M_assign_53 rfl (lv_at hl 1 rfl) ?_
        refine lv_iadd hx hb d_M_assign_54 ?_
        refine lv_aload_n hx hb d_M_assign_55 rfl (lv_at hl 0 rfl) ?_
        refine lv_aload_n hx hb d_M_assign_56 rfl (lv_at hl 0 rfl) ?_
        refine va_get (D := (dC, dI)) (ci := 4) (v := .int (F 6)) (C := R_M) (T := T_M) (N := 29) hx hb hts in_M hown hK hP 0 rfl rfl 17 (by decide) (hts _ mw_520) (fun _ h9 => h9) rfl d_M_assign_57 ?_
        refine lv_iload_n hx hb d_M_assign_60 rfl (lv_at hl 1 rfl) ?_
        have hP : va_P (dC, dI) vC (wM o cI F A) H := hP
        have hD : va_D (va_A (wM o cI Fa Aa) s.heap.size) (wM o cI F A) := hD
        obtain ⟨r4, F4, A4, hc, hf⟩ := ra_bi_some hf
        refine cc_calli (va_runV (As := [.int (F 6), .int x1]) (rest := [.int (((4 : Int32) * (F 9)) + x1), .ref (o 11)]) ⟨hx, hb, hml, hown, hts⟩ (k_M_number l dC dI o cI H.size F A (F 6) x1 r4 F4 A4 hc) (cw_V 2 hts mw_648 mw_650 ms_M_number mw_5 mw_651 rfl rfl rfl hd_M_number ⟨Nat.le_of_ble_eq_true rfl, Nat.le_of_ble_eq_true rfl⟩) (cc_preV hK hP hD rfl (q0 := 0) rfl) rfl rfl hl.1 rfl (lv_room (Nat.le_of_ble_eq_true rfl)) d_M_assign_61 ⟨Nat.zero_le _, Nat.zero_le _⟩) hD hS hA (fun H locs hP hD hS => ?_)
        obtain ⟨hi, hf⟩ := ra_g_some hf
        refine va_iast hx hb hK hP hD hS 11 0 rfl rfl hi d_M_assign_64 (fun H locs hP hD hS => ?_)
        have hP : va_P (dC, dI) vC [((o 0), .inr (4, [.int (F4 0), .int (F4 1), .ref (o 1), .int (F4 2), .ref (o 2), .ref (o 3), .ref (o 4), .ref (o 5), .ref (o 6), .int (F4 3), .ref (o 7), .ref (o 8), .ref (o 9), .ref (o 10), .ref (o 11), .int (F4 4), .int (F4 5), .int (F4 6), .ref (o 12), .ref (o 13), .int (F4 7), .ref (o 14), .ref (o 15), .int (F4 8), .int (F4 9), .ref (o 16), .ref (o 17), .ref (o 18), .ref (o 19)])), ((o 1), .inl (cI, 160, .inl (A4 0))), ((o 2), .inl (cI, 100, .inl (A4 1))), ((o 3), .inl (cI, 100, .inl (A4 2))), ((o 4), .inl (cI, 100, .inl (A4 3))), ((o 5), .inl (cI, 3, .inl (A4 4))), ((o 6), .inl (cI, 26, .inl (A4 5))), ((o 7), .inl (cI, 100, .inl (A4 6))), ((o 8), .inl (cI, 100, .inl (A4 7))), ((o 9), .inl (cI, 100, .inl (A4 8))), ((o 10), .inl (cI, 26, .inl (A4 9))), ((o 11), .inl (cI, 104, .inl (upd (A4 10) (((4 : Int32) * (F 9)) + x1).toNatClampNeg r4))), ((o 12), .inl (cI, 80, .inl (A4 11))), ((o 13), .inl (cI, 320, .inl (A4 12))), ((o 14), .inl (cI, 200, .inl (A4 13))), ((o 15), .inl (cI, 200, .inl (A4 14))), ((o 16), .inl (cI, 4, .inl (A4 15))), ((o 17), .inl (cI, 32, .inl (A4 16))), ((o 18), .inl (cI, 32, .inl (A4 17))), ((o 19), .inl (cI, 100, .inl (A4 18)))] H := hP
        have hD : va_D (va_A (wM o cI Fa Aa) s.heap.size) [((o 0), .inr (4, [.int (F4 0), .int (F4 1), .ref (o 1), .int (F4 2), .ref (o 2), .ref (o 3), .ref (o 4), .ref (o 5), .ref (o 6), .int (F4 3), .ref (o 7), .ref (o 8), .ref (o 9), .ref (o 10), .ref (o 11), .int (F4 4), .int (F4 5), .int (F4 6), .ref (o 12), .ref (o 13), .int (F4 7), .ref (o 14), .ref (o 15), .int (F4 8), .int (F4 9), .ref (o 16), .ref (o 17), .ref (o 18), .ref (o 19)])), ((o 1), .inl (cI, 160, .inl (A4 0))), ((o 2), .inl (cI, 100, .inl (A4 1))), ((o 3), .inl (cI, 100, .inl (A4 2))), ((o 4), .inl (cI, 100, .inl (A4 3))), ((o 5), .inl (cI, 3, .inl (A4 4))), ((o 6), .inl (cI, 26, .inl (A4 5))), ((o 7), .inl (cI, 100, .inl (A4 6))), ((o 8), .inl (cI, 100, .inl (A4 7))), ((o 9), .inl (cI, 100, .inl (A4 8))), ((o 10), .inl (cI, 26, .inl (A4 9))), ((o 11), .inl (cI, 104, .inl (upd (A4 10) (((4 : Int32) * (F 9)) + x1).toNatClampNeg r4))), ((o 12), .inl (cI, 80, .inl (A4 11))), ((o 13), .inl (cI, 320, .inl (A4 12))), ((o 14), .inl (cI, 200, .inl (A4 13))), ((o 15), .inl (cI, 200, .inl (A4 14))), ((o 16), .inl (cI, 4, .inl (A4 15))), ((o 17), .inl (cI, 32, .inl (A4 16))), ((o 18), .inl (cI, 32, .inl (A4 17))), ((o 19), .inl (cI, 100, .inl (A4 18)))] := hD
        refine lv_iinc (k := 1) (v := (x1 + (1 : Int32))) hx hb d_M_assign_65 hl rfl (by rfl) (by decide) rfl (fun ls hl => ?_)
        have hl : lv_has ls 2 [(1, .int (x1 + (1 : Int32))), (0, .ref (o 0))] := hl
        refine lv_goto (tgt := 38) hx hb d_M_assign_68 (by decide) ?_
        have hl : lv_has ls 2 [(0, .ref (o 0)), (1, .int (x1 + (1 : Int32)))] := lv_sub hl [1, 0] rfl
        exact ih (x1 + (1 : Int32)) F4 (va_up A4 10 (upd (A4 10) (((4 : Int32) * (F 9)) + x1).toNatClampNeg r4)) _ _ _ hl hP hD hS hf
  rw [lg_entry_eq]
  generalize (lg_sl (([.ref (o 0)] : List Value)) ++ List.replicate (2 - (lg_sl (([.ref (o 0)] : List Value))).length) Slot.unset).toArray = ls at hl ⊢
  have hl : lv_has ls 2 [(0, .ref (o 0))] := hl
  unfold f_M_assign at hf
  refine lv_aload_n hx hb d_M_assign_0 rfl (lv_at hl 0 rfl) ?_
  refine va_get (D := (dC, dI)) (ci := 4) (v := .int (Fa 5)) (C := R_M) (T := T_M) (N := 29) hx hb hts in_M hown hK hP 0 rfl rfl 16 (by decide) (hts _ mw_519) (fun _ h9 => h9) rfl d_M_assign_1 ?_
  refine lv_if_eq (tgt := 8) hx hb d_M_assign_4 (by decide) (fun h4_1 => ?_) (fun h4_1 => ?_)
  · rw [if_pos h4_1] at hf
    refine lv_aload_n hx hb d_M_assign_8 rfl (lv_at hl 0 rfl) ?_
    refine lv_dup hx hb d_M_assign_9 rfl ?_
    refine va_get (D := (dC, dI)) (ci := 4) (v := .int (Fa 6)) (C := R_M) (T := T_M) (N := 29) hx hb hts in_M hown hK hP 0 rfl rfl 17 (by decide) (hts _ mw_520) (fun _ h9 => h9) rfl d_M_assign_10 ?_
    refine lv_iconst (v := 1) hx hb d_M_assign_13 (by decide) ?_
    refine lv_isub hx hb d_M_assign_14 ?_
    refine va_put (D := (dC, dI)) (ci := 4) (v := .int ((Fa 6) - (1 : Int32))) (ty := .int) (C := R_M) (T := T_M) (N := 29) hx hb hts in_M ty_M ty_M_ok nm_M hown hK hP hD hS 0 rfl rfl 17 (by decide) (hts _ mw_520) (fun _ h9 => h9) rfl (by decide +kernel) rfl rfl (Nat.le_of_ble_eq_true rfl) d_M_assign_15 (fun H locs hP hD hS => ?_)
    have hP : va_P (dC, dI) vC [((o 0), .inr (4, [.int (Fa 0), .int (Fa 1), .ref (o 1), .int (Fa 2), .ref (o 2), .ref (o 3), .ref (o 4), .ref (o 5), .ref (o 6), .int (Fa 3), .ref (o 7), .ref (o 8), .ref (o 9), .ref (o 10), .ref (o 11), .int (Fa 4), .int (Fa 5), .int ((Fa 6) - (1 : Int32)), .ref (o 12), .ref (o 13), .int (Fa 7), .ref (o 14), .ref (o 15), .int (Fa 8), .int (Fa 9), .ref (o 16), .ref (o 17), .ref (o 18), .ref (o 19)])), ((o 1), .inl (cI, 160, .inl (Aa 0))), ((o 2), .inl (cI, 100, .inl (Aa 1))), ((o 3), .inl (cI, 100, .inl (Aa 2))), ((o 4), .inl (cI, 100, .inl (Aa 3))), ((o 5), .inl (cI, 3, .inl (Aa 4))), ((o 6), .inl (cI, 26, .inl (Aa 5))), ((o 7), .inl (cI, 100, .inl (Aa 6))), ((o 8), .inl (cI, 100, .inl (Aa 7))), ((o 9), .inl (cI, 100, .inl (Aa 8))), ((o 10), .inl (cI, 26, .inl (Aa 9))), ((o 11), .inl (cI, 104, .inl (Aa 10))), ((o 12), .inl (cI, 80, .inl (Aa 11))), ((o 13), .inl (cI, 320, .inl (Aa 12))), ((o 14), .inl (cI, 200, .inl (Aa 13))), ((o 15), .inl (cI, 200, .inl (Aa 14))), ((o 16), .inl (cI, 4, .inl (Aa 15))), ((o 17), .inl (cI, 32, .inl (Aa 16))), ((o 18), .inl (cI, 32, .inl (Aa 17))), ((o 19), .inl (cI, 100, .inl (Aa 18)))] H := hP
    have hD : va_D (va_A (wM o cI Fa Aa) s.heap.size) [((o 0), .inr (4, [.int (Fa 0), .int (Fa 1), .ref (o 1), .int (Fa 2), .ref (o 2), .ref (o 3), .ref (o 4), .ref (o 5), .ref (o 6), .int (Fa 3), .ref (o 7), .ref (o 8), .ref (o 9), .ref (o 10), .ref (o 11), .int (Fa 4), .int (Fa 5), .int ((Fa 6) - (1 : Int32)), .ref (o 12), .ref (o 13), .int (Fa 7), .ref (o 14), .ref (o 15), .int (Fa 8), .int (Fa 9), .ref (o 16), .ref (o 17), .ref (o 18), .ref (o 19)])), ((o 1), .inl (cI, 160, .inl (Aa 0))), ((o 2), .inl (cI, 100, .inl (Aa 1))), ((o 3), .inl (cI, 100, .inl (Aa 2))), ((o 4), .inl (cI, 100, .inl (Aa 3))), ((o 5), .inl (cI, 3, .inl (Aa 4))), ((o 6), .inl (cI, 26, .inl (Aa 5))), ((o 7), .inl (cI, 100, .inl (Aa 6))), ((o 8), .inl (cI, 100, .inl (Aa 7))), ((o 9), .inl (cI, 100, .inl (Aa 8))), ((o 10), .inl (cI, 26, .inl (Aa 9))), ((o 11), .inl (cI, 104, .inl (Aa 10))), ((o 12), .inl (cI, 80, .inl (Aa 11))), ((o 13), .inl (cI, 320, .inl (Aa 12))), ((o 14), .inl (cI, 200, .inl (Aa 13))), ((o 15), .inl (cI, 200, .inl (Aa 14))), ((o 16), .inl (cI, 4, .inl (Aa 15))), ((o 17), .inl (cI, 32, .inl (Aa 16))), ((o 18), .inl (cI, 32, .inl (Aa 17))), ((o 19), .inl (cI, 100, .inl (Aa 18)))] := hD
    refine lv_aload_n hx hb d_M_assign_18 rfl (lv_at hl 0 rfl) ?_
    refine va_get (D := (dC, dI)) (ci := 4) (v := .ref (o 10)) (C := R_M) (T := T_M) (N := 29) hx hb hts in_M hown hK hP 0 rfl rfl 13 (by decide) (hts _ mw_516) (fun _ h9 => h9) rfl d_M_assign_19 ?_
    refine lv_aload_n hx hb d_M_assign_22 rfl (lv_at hl 0 rfl) ?_
    refine va_get (D := (dC, dI)) (ci := 4) (v := .int (Fa 9)) (C := R_M) (T := T_M) (N := 29) hx hb hts in_M hown hK hP 0 rfl rfl 24 (by decide) (hts _ mw_527) (fun _ h9 => h9) rfl d_M_assign_23 ?_
    refine lv_aload_n hx hb d_M_assign_26 rfl (lv_at hl 0 rfl) ?_
    refine va_get (D := (dC, dI)) (ci := 4) (v := .ref (o 12)) (C := R_M) (T := T_M) (N := 29) hx hb hts in_M hown hK hP 0 rfl rfl 18 (by decide) (hts _ mw_521) (fun _ h9 => h9) rfl d_M_assign_27 ?_
    refine lv_aload_n hx hb d_M_assign_30 rfl (lv_at hl 0 rfl) ?_
    refine va_get (D := (dC, dI)) (ci := 4) (v := .int ((Fa 6) - (1 : Int32))) (C := R_M) (T := T_M) (N := 29) hx hb hts in_M hown hK hP 0 rfl rfl 17 (by decide) (hts _ mw_520) (fun _ h9 => h9) rfl d_M_assign_31 ?_
    obtain ⟨hi, hf⟩ := ra_g_some hf
    refine va_iald hx hb hK hP 12 0 rfl rfl hi d_M_assign_34 ?_
    obtain ⟨hi, hf⟩ := ra_g_some hf
    refine va_iast hx hb hK hP hD hS 10 0 rfl rfl hi d_M_assign_35 (fun H locs hP hD hS => ?_)
    have hP : va_P (dC, dI) vC [((o 0), .inr (4, [.int (Fa 0), .int (Fa 1), .ref (o 1), .int (Fa 2), .ref (o 2), .ref (o 3), .ref (o 4), .ref (o 5), .ref (o 6), .int (Fa 3), .ref (o 7), .ref (o 8), .ref (o 9), .ref (o 10), .ref (o 11), .int (Fa 4), .int (Fa 5), .int ((Fa 6) - (1 : Int32)), .ref (o 12), .ref (o 13), .int (Fa 7), .ref (o 14), .ref (o 15), .int (Fa 8), .int (Fa 9), .ref (o 16), .ref (o 17), .ref (o 18), .ref (o 19)])), ((o 1), .inl (cI, 160, .inl (Aa 0))), ((o 2), .inl (cI, 100, .inl (Aa 1))), ((o 3), .inl (cI, 100, .inl (Aa 2))), ((o 4), .inl (cI, 100, .inl (Aa 3))), ((o 5), .inl (cI, 3, .inl (Aa 4))), ((o 6), .inl (cI, 26, .inl (Aa 5))), ((o 7), .inl (cI, 100, .inl (Aa 6))), ((o 8), .inl (cI, 100, .inl (Aa 7))), ((o 9), .inl (cI, 100, .inl (Aa 8))), ((o 10), .inl (cI, 26, .inl (upd (Aa 9) (Fa 9).toNatClampNeg ((Aa 11) ((Fa 6) - (1 : Int32)).toNatClampNeg)))), ((o 11), .inl (cI, 104, .inl (Aa 10))), ((o 12), .inl (cI, 80, .inl (Aa 11))), ((o 13), .inl (cI, 320, .inl (Aa 12))), ((o 14), .inl (cI, 200, .inl (Aa 13))), ((o 15), .inl (cI, 200, .inl (Aa 14))), ((o 16), .inl (cI, 4, .inl (Aa 15))), ((o 17), .inl (cI, 32, .inl (Aa 16))), ((o 18), .inl (cI, 32, .inl (Aa 17))), ((o 19), .inl (cI, 100, .inl (Aa 18)))] H := hP
    have hD : va_D (va_A (wM o cI Fa Aa) s.heap.size) [((o 0), .inr (4, [.int (Fa 0), .int (Fa 1), .ref (o 1), .int (Fa 2), .ref (o 2), .ref (o 3), .ref (o 4), .ref (o 5), .ref (o 6), .int (Fa 3), .ref (o 7), .ref (o 8), .ref (o 9), .ref (o 10), .ref (o 11), .int (Fa 4), .int (Fa 5), .int ((Fa 6) - (1 : Int32)), .ref (o 12), .ref (o 13), .int (Fa 7), .ref (o 14), .ref (o 15), .int (Fa 8), .int (Fa 9), .ref (o 16), .ref (o 17), .ref (o 18), .ref (o 19)])), ((o 1), .inl (cI, 160, .inl (Aa 0))), ((o 2), .inl (cI, 100, .inl (Aa 1))), ((o 3), .inl (cI, 100, .inl (Aa 2))), ((o 4), .inl (cI, 100, .inl (Aa 3))), ((o 5), .inl (cI, 3, .inl (Aa 4))), ((o 6), .inl (cI, 26, .inl (Aa 5))), ((o 7), .inl (cI, 100, .inl (Aa 6))), ((o 8), .inl (cI, 100, .inl (Aa 7))), ((o 9), .inl (cI, 100, .inl (Aa 8))), ((o 10), .inl (cI, 26, .inl (upd (Aa 9) (Fa 9).toNatClampNeg ((Aa 11) ((Fa 6) - (1 : Int32)).toNatClampNeg)))), ((o 11), .inl (cI, 104, .inl (Aa 10))), ((o 12), .inl (cI, 80, .inl (Aa 11))), ((o 13), .inl (cI, 320, .inl (Aa 12))), ((o 14), .inl (cI, 200, .inl (Aa 13))), ((o 15), .inl (cI, 200, .inl (Aa 14))), ((o 16), .inl (cI, 4, .inl (Aa 15))), ((o 17), .inl (cI, 32, .inl (Aa 16))), ((o 18), .inl (cI, 32, .inl (Aa 17))), ((o 19), .inl (cI, 100, .inl (Aa 18)))] := hD
    refine lv_iconst (v := 0) hx hb d_M_assign_36 (by decide) ?_
    refine lv_istore_n hx hb d_M_assign_37 rfl hl (by decide) rfl (fun ls hl => ?_)
    have hl : lv_has ls 2 [(1, .int (0 : Int32)), (0, .ref (o 0))] := hl
    have hl : lv_has ls 2 [(0, .ref (o 0)), (1, .int (0 : Int32))] := lv_sub hl [1, 0] rfl
    exact L38 400 (0 : Int32) (upd Fa 6 ((Fa 6) - (1 : Int32))) (va_up Aa 9 (upd (Aa 9) (Fa 9).toNatClampNeg ((Aa 11) ((Fa 6) - (1 : Int32)).toNatClampNeg))) _ _ _ hl hP hD hS hf
  · rw [if_neg h4_1] at hf
    cases hf
    exact W.vret hx hb hr (fun t ht hW => ⟨⟨(), rfl, trivial, by rw [ht]; exact hP, va_K.moved hW.alike hK, hD⟩, hS.F ht⟩) hS.2.2 d_M_assign_7
def f_M_operator_J162 (x1 : Int32) (F : ST_F) (A : ST_A) : Option (Int32 × ST_F × ST_A) := ra_bv (f_M_assign  (upd F 5 (1 : Int32)) A) (fun F9 A9 => some ((0 : Int32), F9, A9))
def f_M_operator_J101 (x1 : Int32) (z0 : Int32) (F : ST_F) (A : ST_A) : Option (Int32 × ST_F × ST_A) := ra_zb z0 (if z0 = 0 then (ra_g ((F 7) - (1 : Int32)) 200 (ra_g ((F 7) - (1 : Int32)) 200 (some ((0 : Int32), (upd F 5 z0), (va_up A 14 (upd (A 14) ((F 7) - (1 : Int32)).toNatClampNeg (((A 14) ((F 7) - (1 : Int32)).toNatClampNeg) + (1 : Int32)))))))) else (some ((0 : Int32), (upd F 5 z0), A)))
def f_M_operator_J96 (x1 : Int32) (F : ST_F) (A : ST_A) : Option (Int32 × ST_F × ST_A) := f_M_operator_J101 x1 (1 : Int32) F A
def f_M_operator_J51 (x1 : Int32) (F : ST_F) (A : ST_A) : Option (Int32 × ST_F × ST_A) := ra_bv (f_M_settle (1 : Int32) F A) (fun F18 A18 => ra_bv (f_M_hold x1 F18 A18) (fun F19 A19 => some ((0 : Int32), F19, A19)))
def f_M_operator  (Fa : ST_F) (Aa : ST_A) : Option (Int32 × ST_F × ST_A) := ra_bi (f_M_look (Fa 4) Fa Aa) (fun r1 F1 A1 => if r1 = (41 : Int32) then (ra_bv (f_M_close  (upd F1 4 ((F1 4) + (1 : Int32))) A1) (fun F23 A23 => some ((1 : Int32), F23, A23))) else (if (f_M_isBinary r1) = 0 then (if r1 = (44 : Int32) then (ra_bv (f_M_settle (1 : Int32) (upd F1 4 ((F1 4) + (1 : Int32))) A1) (fun F12 A12 => if (F12 5) = 0 then (ra_bi (f_M_top  F12 A12) (fun r15 F15 A15 => if (f_M_isFunction r15) = 0 then (f_M_operator_J96 r1 F15 A15) else (f_M_operator_J101 r1 (0 : Int32) F15 A15))) else (f_M_operator_J96 r1 F12 A12))) else (if r1 = (59 : Int32) then (if (F1 9) < 0 then (some ((0 : Int32), (upd (upd F1 4 ((F1 4) + (1 : Int32))) 5 (1 : Int32)), A1)) else (ra_bv (f_M_settle (1 : Int32) (upd F1 4 ((F1 4) + (1 : Int32))) A1) (fun F7 A7 => if (F7 5) = 0 then (if (F7 7) ≤ 0 then (ra_bv (f_M_assign  (upd F7 5 (0 : Int32)) A7) (fun F11 A11 => some ((0 : Int32), F11, A11))) else (f_M_operator_J162 r1 F7 A7)) else (f_M_operator_J162 r1 F7 A7)))) else (some ((0 : Int32), (upd (upd F1 4 ((F1 4) + (1 : Int32))) 5 (1 : Int32)), A1)))) else (if r1 = (43 : Int32) then (f_M_operator_J51 r1 (upd F1 4 ((F1 4) + (1 : Int32))) A1) else (if r1 = (45 : Int32) then (f_M_operator_J51 r1 (upd F1 4 ((F1 4) + (1 : Int32))) A1) else (ra_bv (f_M_settle (0 : Int32) (upd F1 4 ((F1 4) + (1 : Int32))) A1) (fun F21 A21 => ra_bv (f_M_hold r1 F21 A21) (fun F22 A22 => some ((0 : Int32), F22, A22))))))))
set_option maxHeartbeats 4000000 in
set_option maxRecDepth 100000 in
theorem k_M_operator (l : Launch) (dC : Nat → ClassId) (dI : Nat → Nat → Nat) (o : Nat → Nat) (cI : ClassId) (sz : Nat) (Fa : ST_F) (Aa : ST_A)  (r0 : Int32) (F9 : ST_F) (A9 : ST_A) (hf : f_M_operator  Fa Aa = some (r0, F9, A9)) : cc_MetI l y_M_operator (Cond.code y_M_operator b_M_operator 2 (some .boolean) :: wA) ({ frames := 6, cells := 0, slots := 0, locals := 137 } : Room) (dC, dI) vC [(cI, .int)] ([.ref (o 0)] : List Value) (wM o cI Fa Aa) sz (wM o cI F9 A9) r0 := by
  refine Met.ofW (cc := b_M_operator) (maxL := 2) (ret := (some .boolean)) (by decide) rfl ?_
  intro p e s m args below meth c s₁ B hml hv
  obtain ⟨rfl, hsz, hP, hK, hD0⟩ := hv
  have hx := B.exec
  have hb := B.bytes
  have hr := B.returns
  have hts := fun w h => atoms_spec (ws := (Cond.code y_M_operator b_M_operator 2 (some .boolean) :: wA)) B.pre w (List.mem_cons_of_mem _ h)
  have hown : s.vm.findClass R_M = some m.cls := findClass_of_methodNamed B.named
  have hlocks := B.notSynchronized
  subst hsz
  have hD := hD0.self (sz := s.heap.size)
  have hA : ∀ q : Nat, s.heap.size ≤ q → va_A (wM o cI Fa Aa) s.heap.size q := fun q h => Or.inr h
  have hS : va_S (va_A (wM o cI Fa Aa) s.heap.size) s.heap s.heap [] := va_S.rf
  have hl := lv_entry (([.ref (o 0)] : List Value)) (n := 2) (Nat.le_of_ble_eq_true rfl)
  have J162 : ∀ (x1 : Int32) (F : ST_F) (A : ST_A) (H : Heap) (locs : List Loc) (ls : Array Slot), lv_has ls 2 [(0, .ref (o 0)), (1, .int x1)] → va_P (dC, dI) vC (wM o cI F A) H → va_D (va_A (wM o cI Fa Aa) s.heap.size) (wM o cI F A) → va_S (va_A (wM o cI Fa Aa) s.heap.size) s.heap H locs → f_M_operator_J162 x1 F A = some (r0, F9, A9) → W p l e (headSpec (Cond.code y_M_operator b_M_operator 2 (some .boolean) :: wA) ({ frames := 6, cells := 0, slots := 0, locals := 137 } : Room)).room s m ([.ref (o 0)] : List Value).toArray below meth c H locs 0 0 (MQ below (cc_Qi (dC, dI) vC [(cI, .int)] (wM o cI Fa Aa) s.heap.size (wM o cI F9 A9) r0) ([.ref (o 0)] : List Value).toArray s 0 0 (va_A (wM o cI Fa Aa) s.heap.size)) (F0 m 162 ls [.ref (o 0)]) := by
    intro x1 F A H locs ls hl hP hD hS hf
    unfold f_M_operator_J162 at hf
    refine lv_iconst (v := 1) hx hb d_M_operator_162 (by decide) ?_
    refine lv_goto (tgt := 167) hx hb d_M_operator_163 (by decide) ?_
    refine va_put (D := (dC, dI)) (ci := 4) (v := .int (1 : Int32)) (ty := .boolean) (C := R_M) (T := T_M) (N := 29) hx hb hts in_M ty_M ty_M_ok nm_M hown hK hP hD hS 0 rfl rfl 16 (by decide) (hts _ mw_519) (fun _ h9 => h9) rfl (by decide +kernel) rfl rfl (Nat.le_of_ble_eq_true rfl) d_M_operator_167 (fun H locs hP hD hS => ?_)
    have hP : va_P (dC, dI) vC [((o 0), .inr (4, [.int (F 0), .int (F 1), .ref (o 1), .int (F 2), .ref (o 2), .ref (o 3), .ref (o 4), .ref (o 5), .ref (o 6), .int (F 3), .ref (o 7), .ref (o 8), .ref (o 9), .ref (o 10), .ref (o 11), .int (F 4), .int (1 : Int32), .int (F 6), .ref (o 12), .ref (o 13), .int (F 7), .ref (o 14), .ref (o 15), .int (F 8), .int (F 9), .ref (o 16), .ref (o 17), .ref (o 18), .ref (o 19)])), ((o 1), .inl (cI, 160, .inl (A 0))), ((o 2), .inl (cI, 100, .inl (A 1))), ((o 3), .inl (cI, 100, .inl (A 2))), ((o 4), .inl (cI, 100, .inl (A 3))), ((o 5), .inl (cI, 3, .inl (A 4))), ((o 6), .inl (cI, 26, .inl (A 5))), ((o 7), .inl (cI, 100, .inl (A 6))), ((o 8), .inl (cI, 100, .inl (A 7))), ((o 9), .inl (cI, 100, .inl (A 8))), ((o 10), .inl (cI, 26, .inl (A 9))), ((o 11), .inl (cI, 104, .inl (A 10))), ((o 12), .inl (cI, 80, .inl (A 11))), ((o 13), .inl (cI, 320, .inl (A 12))), ((o 14), .inl (cI, 200, .inl (A 13))), ((o 15), .inl (cI, 200, .inl (A 14))), ((o 16), .inl (cI, 4, .inl (A 15))), ((o 17), .inl (cI, 32, .inl (A 16))), ((o 18), .inl (cI, 32, .inl (A 17))), ((o 19), .inl (cI, 100, .inl (A 18)))] H := hP
    have hD : va_D (va_A (wM o cI Fa Aa) s.heap.size) [((o 0), .inr (4, [.int (F 0), .int (F 1), .ref (o 1), .int (F 2), .ref (o 2), .ref (o 3), .ref (o 4), .ref (o 5), .ref (o 6), .int (F 3), .ref (o 7), .ref (o 8), .ref (o 9), .ref (o 10), .ref (o 11), .int (F 4), .int (1 : Int32), .int (F 6), .ref (o 12), .ref (o 13), .int (F 7), .ref (o 14), .ref (o 15), .int (F 8), .int (F 9), .ref (o 16), .ref (o 17), .ref (o 18), .ref (o 19)])), ((o 1), .inl (cI, 160, .inl (A 0))), ((o 2), .inl (cI, 100, .inl (A 1))), ((o 3), .inl (cI, 100, .inl (A 2))), ((o 4), .inl (cI, 100, .inl (A 3))), ((o 5), .inl (cI, 3, .inl (A 4))), ((o 6), .inl (cI, 26, .inl (A 5))), ((o 7), .inl (cI, 100, .inl (A 6))), ((o 8), .inl (cI, 100, .inl (A 7))), ((o 9), .inl (cI, 100, .inl (A 8))), ((o 10), .inl (cI, 26, .inl (A 9))), ((o 11), .inl (cI, 104, .inl (A 10))), ((o 12), .inl (cI, 80, .inl (A 11))), ((o 13), .inl (cI, 320, .inl (A 12))), ((o 14), .inl (cI, 200, .inl (A 13))), ((o 15), .inl (cI, 200, .inl (A 14))), ((o 16), .inl (cI, 4, .inl (A 15))), ((o 17), .inl (cI, 32, .inl (A 16))), ((o 18), .inl (cI, 32, .inl (A 17))), ((o 19), .inl (cI, 100, .inl (A 18)))] := hD
    refine lv_aload_n hx hb d_M_operator_170 rfl (lv_at hl 0 rfl) ?_
    have hP : va_P (dC, dI) vC (wM o cI (upd F 5 (1 : Int32)) A) H := hP
    have hD : va_D (va_A (wM o cI Fa Aa) s.heap.size) (wM o cI (upd F 5 (1 : Int32)) A) := hD
    obtain ⟨F9, A9, hc, hf⟩ := ra_bv_some hf
    refine cc_callv (va_runV (As := []) (rest := []) ⟨hx, hb, hml, hown, hts⟩ (k_M_assign l dC dI o cI H.size (upd F 5 (1 : Int32)) A  F9 A9 hc) (cw_V 0 hts mw_699 mw_701 ms_M_assign mw_5 mw_702 rfl rfl rfl hd_M_assign ⟨Nat.le_of_ble_eq_true rfl, Nat.le_of_ble_eq_true rfl⟩) (cc_preV hK hP hD rfl (q0 := 0) rfl) rfl rfl hl.1 rfl (lv_room (Nat.le_of_ble_eq_true rfl)) d_M_operator_171 ⟨Nat.zero_le _, Nat.zero_le _⟩) hD hS hA (fun H locs hP hD hS => ?_)
    refine lv_goto (tgt := 182) hx hb d_M_operator_174 (by decide) ?_
    refine lv_iconst (v := 0) hx hb d_M_operator_182 (by decide) ?_
    cases hf
    exact W.zret hx hb hr (by rfl) (fun t ht hW => ⟨⟨_, (), rfl, rfl, by rw [ht]; exact hP, va_K.moved hW.alike hK, hD⟩, hS.F ht⟩) hS.2.2 d_M_operator_183
  have J101 : ∀ (x1 : Int32) (z0 : Int32) (F : ST_F) (A : ST_A) (H : Heap) (locs : List Loc) (ls : Array Slot), lv_has ls 2 [(0, .ref (o 0)), (1, .int x1)] → va_P (dC, dI) vC (wM o cI F A) H → va_D (va_A (wM o cI Fa Aa) s.heap.size) (wM o cI F A) → va_S (va_A (wM o cI Fa Aa) s.heap.size) s.heap H locs → f_M_operator_J101 x1 z0 F A = some (r0, F9, A9) → W p l e (headSpec (Cond.code y_M_operator b_M_operator 2 (some .boolean) :: wA) ({ frames := 6, cells := 0, slots := 0, locals := 137 } : Room)).room s m ([.ref (o 0)] : List Value).toArray below meth c H locs 0 0 (MQ below (cc_Qi (dC, dI) vC [(cI, .int)] (wM o cI Fa Aa) s.heap.size (wM o cI F9 A9) r0) ([.ref (o 0)] : List Value).toArray s 0 0 (va_A (wM o cI Fa Aa) s.heap.size)) (F0 m 101 ls [.int z0, .ref (o 0)]) := by
    intro x1 z0 F A H locs ls hl hP hD hS hf
    unfold f_M_operator_J101 at hf
    obtain ⟨hn, hfit, hf⟩ := ra_zb_some hf
    refine va_put (D := (dC, dI)) (ci := 4) (v := .int z0) (ty := .boolean) (C := R_M) (T := T_M) (N := 29) hx hb hts in_M ty_M ty_M_ok nm_M hown hK hP hD hS 0 rfl rfl 16 (by decide) (hts _ mw_519) (fun _ h9 => h9) rfl (by decide +kernel) hn hfit (Nat.le_of_ble_eq_true rfl) d_M_operator_101 (fun H locs hP hD hS => ?_)
    have hP : va_P (dC, dI) vC [((o 0), .inr (4, [.int (F 0), .int (F 1), .ref (o 1), .int (F 2), .ref (o 2), .ref (o 3), .ref (o 4), .ref (o 5), .ref (o 6), .int (F 3), .ref (o 7), .ref (o 8), .ref (o 9), .ref (o 10), .ref (o 11), .int (F 4), .int z0, .int (F 6), .ref (o 12), .ref (o 13), .int (F 7), .ref (o 14), .ref (o 15), .int (F 8), .int (F 9), .ref (o 16), .ref (o 17), .ref (o 18), .ref (o 19)])), ((o 1), .inl (cI, 160, .inl (A 0))), ((o 2), .inl (cI, 100, .inl (A 1))), ((o 3), .inl (cI, 100, .inl (A 2))), ((o 4), .inl (cI, 100, .inl (A 3))), ((o 5), .inl (cI, 3, .inl (A 4))), ((o 6), .inl (cI, 26, .inl (A 5))), ((o 7), .inl (cI, 100, .inl (A 6))), ((o 8), .inl (cI, 100, .inl (A 7))), ((o 9), .inl (cI, 100, .inl (A 8))), ((o 10), .inl (cI, 26, .inl (A 9))), ((o 11), .inl (cI, 104, .inl (A 10))), ((o 12), .inl (cI, 80, .inl (A 11))), ((o 13), .inl (cI, 320, .inl (A 12))), ((o 14), .inl (cI, 200, .inl (A 13))), ((o 15), .inl (cI, 200, .inl (A 14))), ((o 16), .inl (cI, 4, .inl (A 15))), ((o 17), .inl (cI, 32, .inl (A 16))), ((o 18), .inl (cI, 32, .inl (A 17))), ((o 19), .inl (cI, 100, .inl (A 18)))] H := hP
    have hD : va_D (va_A (wM o cI Fa Aa) s.heap.size) [((o 0), .inr (4, [.int (F 0), .int (F 1), .ref (o 1), .int (F 2), .ref (o 2), .ref (o 3), .ref (o 4), .ref (o 5), .ref (o 6), .int (F 3), .ref (o 7), .ref (o 8), .ref (o 9), .ref (o 10), .ref (o 11), .int (F 4), .int z0, .int (F 6), .ref (o 12), .ref (o 13), .int (F 7), .ref (o 14), .ref (o 15), .int (F 8), .int (F 9), .ref (o 16), .ref (o 17), .ref (o 18), .ref (o 19)])), ((o 1), .inl (cI, 160, .inl (A 0))), ((o 2), .inl (cI, 100, .inl (A 1))), ((o 3), .inl (cI, 100, .inl (A 2))), ((o 4), .inl (cI, 100, .inl (A 3))), ((o 5), .inl (cI, 3, .inl (A 4))), ((o 6), .inl (cI, 26, .inl (A 5))), ((o 7), .inl (cI, 100, .inl (A 6))), ((o 8), .inl (cI, 100, .inl (A 7))), ((o 9), .inl (cI, 100, .inl (A 8))), ((o 10), .inl (cI, 26, .inl (A 9))), ((o 11), .inl (cI, 104, .inl (A 10))), ((o 12), .inl (cI, 80, .inl (A 11))), ((o 13), .inl (cI, 320, .inl (A 12))), ((o 14), .inl (cI, 200, .inl (A 13))), ((o 15), .inl (cI, 200, .inl (A 14))), ((o 16), .inl (cI, 4, .inl (A 15))), ((o 17), .inl (cI, 32, .inl (A 16))), ((o 18), .inl (cI, 32, .inl (A 17))), ((o 19), .inl (cI, 100, .inl (A 18)))] := hD
    refine lv_aload_n hx hb d_M_operator_104 rfl (lv_at hl 0 rfl) ?_
    refine va_get (D := (dC, dI)) (ci := 4) (v := .int z0) (C := R_M) (T := T_M) (N := 29) hx hb hts in_M hown hK hP 0 rfl rfl 16 (by decide) (hts _ mw_519) (fun _ h9 => h9) rfl d_M_operator_105 ?_
    refine lv_if_ne (tgt := 182) hx hb d_M_operator_108 (by decide) (fun h108_14 => ?_) (fun h108_14 => ?_)
    · rw [if_neg h108_14] at hf
      refine lv_iconst (v := 0) hx hb d_M_operator_182 (by decide) ?_
      cases hf
      exact W.zret hx hb hr (by rfl) (fun t ht hW => ⟨⟨_, (), rfl, rfl, by rw [ht]; exact hP, va_K.moved hW.alike hK, hD⟩, hS.F ht⟩) hS.2.2 d_M_operator_183
    · rw [if_pos h108_14] at hf
      refine lv_aload_n hx hb d_M_operator_111 rfl (lv_at hl 0 rfl) ?_
      refine va_get (D := (dC, dI)) (ci := 4) (v := .ref (o 15)) (C := R_M) (T := T_M) (N := 29) hx hb hts in_M hown hK hP 0 rfl rfl 22 (by decide) (hts _ mw_525) (fun _ h9 => h9) rfl d_M_operator_112 ?_
      refine lv_aload_n hx hb d_M_operator_115 rfl (lv_at hl 0 rfl) ?_
      refine va_get (D := (dC, dI)) (ci := 4) (v := .int (F 7)) (C := R_M) (T := T_M) (N := 29) hx hb hts in_M hown hK hP 0 rfl rfl 20 (by decide) (hts _ mw_523) (fun _ h9 => h9) rfl d_M_operator_116 ?_
      refine lv_iconst (v := 1) hx hb d_M_operator_119 (by decide) ?_
      refine lv_isub hx hb d_M_operator_120 ?_
      refine lv_dup2_11 hx hb d_M_operator_121 rfl rfl ?_
      obtain ⟨hi, hf⟩ := ra_g_some hf
      refine va_iald hx hb hK hP 15 0 rfl rfl hi d_M_operator_122 ?_
      refine lv_iconst (v := 1) hx hb d_M_operator_123 (by decide) ?_
      refine lv_iadd hx hb d_M_operator_124 ?_
      obtain ⟨hi, hf⟩ := ra_g_some hf
      refine va_iast hx hb hK hP hD hS 15 0 rfl rfl hi d_M_operator_125 (fun H locs hP hD hS => ?_)
      have hP : va_P (dC, dI) vC [((o 0), .inr (4, [.int (F 0), .int (F 1), .ref (o 1), .int (F 2), .ref (o 2), .ref (o 3), .ref (o 4), .ref (o 5), .ref (o 6), .int (F 3), .ref (o 7), .ref (o 8), .ref (o 9), .ref (o 10), .ref (o 11), .int (F 4), .int z0, .int (F 6), .ref (o 12), .ref (o 13), .int (F 7), .ref (o 14), .ref (o 15), .int (F 8), .int (F 9), .ref (o 16), .ref (o 17), .ref (o 18), .ref (o 19)])), ((o 1), .inl (cI, 160, .inl (A 0))), ((o 2), .inl (cI, 100, .inl (A 1))), ((o 3), .inl (cI, 100, .inl (A 2))), ((o 4), .inl (cI, 100, .inl (A 3))), ((o 5), .inl (cI, 3, .inl (A 4))), ((o 6), .inl (cI, 26, .inl (A 5))), ((o 7), .inl (cI, 100, .inl (A 6))), ((o 8), .inl (cI, 100, .inl (A 7))), ((o 9), .inl (cI, 100, .inl (A 8))), ((o 10), .inl (cI, 26, .inl (A 9))), ((o 11), .inl (cI, 104, .inl (A 10))), ((o 12), .inl (cI, 80, .inl (A 11))), ((o 13), .inl (cI, 320, .inl (A 12))), ((o 14), .inl (cI, 200, .inl (A 13))), ((o 15), .inl (cI, 200, .inl (upd (A 14) ((F 7) - (1 : Int32)).toNatClampNeg (((A 14) ((F 7) - (1 : Int32)).toNatClampNeg) + (1 : Int32))))), ((o 16), .inl (cI, 4, .inl (A 15))), ((o 17), .inl (cI, 32, .inl (A 16))), ((o 18), .inl (cI, 32, .inl (A 17))), ((o 19), .inl (cI, 100, .inl (A 18)))] H := hP
      have hD : va_D (va_A (wM o cI Fa Aa) s.heap.size) [((o 0), .inr (4, [.int (F 0), .int (F 1), .ref (o 1), .int (F 2), .ref (o 2), .ref (o 3), .ref (o 4), .ref (o 5), .ref (o 6), .int (F 3), .ref (o 7), .ref (o 8), .ref (o 9), .ref (o 10), .ref (o 11), .int (F 4), .int z0, .int (F 6), .ref (o 12), .ref (o 13), .int (F 7), .ref (o 14), .ref (o 15), .int (F 8), .int (F 9), .ref (o 16), .ref (o 17), .ref (o 18), .ref (o 19)])), ((o 1), .inl (cI, 160, .inl (A 0))), ((o 2), .inl (cI, 100, .inl (A 1))), ((o 3), .inl (cI, 100, .inl (A 2))), ((o 4), .inl (cI, 100, .inl (A 3))), ((o 5), .inl (cI, 3, .inl (A 4))), ((o 6), .inl (cI, 26, .inl (A 5))), ((o 7), .inl (cI, 100, .inl (A 6))), ((o 8), .inl (cI, 100, .inl (A 7))), ((o 9), .inl (cI, 100, .inl (A 8))), ((o 10), .inl (cI, 26, .inl (A 9))), ((o 11), .inl (cI, 104, .inl (A 10))), ((o 12), .inl (cI, 80, .inl (A 11))), ((o 13), .inl (cI, 320, .inl (A 12))), ((o 14), .inl (cI, 200, .inl (A 13))), ((o 15), .inl (cI, 200, .inl (upd (A 14) ((F 7) - (1 : Int32)).toNatClampNeg (((A 14) ((F 7) - (1 : Int32)).toNatClampNeg) + (1 : Int32))))), ((o 16), .inl (cI, 4, .inl (A 15))), ((o 17), .inl (cI, 32, .inl (A 16))), ((o 18), .inl (cI, 32, .inl (A 17))), ((o 19), .inl (cI, 100, .inl (A 18)))] := hD
      refine lv_goto (tgt := 182) hx hb d_M_operator_126 (by decide) ?_
      refine lv_iconst (v := 0) hx hb d_M_operator_182 (by decide) ?_
      cases hf
      exact W.zret hx hb hr (by rfl) (fun t ht hW => ⟨⟨_, (), rfl, rfl, by rw [ht]; exact hP, va_K.moved hW.alike hK, hD⟩, hS.F ht⟩) hS.2.2 d_M_operator_183
  have J96 : ∀ (x1 : Int32) (F : ST_F) (A : ST_A) (H : Heap) (locs : List Loc) (ls : Array Slot), lv_has ls 2 [(0, .ref (o 0)), (1, .int x1)] → va_P (dC, dI) vC (wM o cI F A) H → va_D (va_A (wM o cI Fa Aa) s.heap.size) (wM o cI F A) → va_S (va_A (wM o cI Fa Aa) s.heap.size) s.heap H locs → f_M_operator_J96 x1 F A = some (r0, F9, A9) → W p l e (headSpec (Cond.code y_M_operator b_M_operator 2 (some .boolean) :: wA) ({ frames := 6, cells := 0, slots := 0, locals := 137 } : Room)).room s m ([.ref (o 0)] : List Value).toArray below meth c H locs 0 0 (MQ below (cc_Qi (dC, dI) vC [(cI, .int)] (wM o cI Fa Aa) s.heap.size (wM o cI F9 A9) r0) ([.ref (o 0)] : List Value).toArray s 0 0 (va_A (wM o cI Fa Aa) s.heap.size)) (F0 m 96 ls [.ref (o 0)]) := by
    intro x1 F A H locs ls hl hP hD hS hf
    unfold f_M_operator_J96 at hf
    refine lv_iconst (v := 1) hx hb d_M_operator_96 (by decide) ?_
    refine lv_goto (tgt := 101) hx hb d_M_operator_97 (by decide) ?_
    have hl : lv_has ls 2 [(0, .ref (o 0)), (1, .int x1)] := lv_sub hl [0, 1] rfl
    exact J101 x1 (1 : Int32) F A _ _ _ hl hP hD hS hf
  have J51 : ∀ (x1 : Int32) (F : ST_F) (A : ST_A) (H : Heap) (locs : List Loc) (ls : Array Slot), lv_has ls 2 [(0, .ref (o 0)), (1, .int x1)] → va_P (dC, dI) vC (wM o cI F A) H → va_D (va_A (wM o cI Fa Aa) s.heap.size) (wM o cI F A) → va_S (va_A (wM o cI Fa Aa) s.heap.size) s.heap H locs → f_M_operator_J51 x1 F A = some (r0, F9, A9) → W p l e (headSpec (Cond.code y_M_operator b_M_operator 2 (some .boolean) :: wA) ({ frames := 6, cells := 0, slots := 0, locals := 137 } : Room)).room s m ([.ref (o 0)] : List Value).toArray below meth c H locs 0 0 (MQ below (cc_Qi (dC, dI) vC [(cI, .int)] (wM o cI Fa Aa) s.heap.size (wM o cI F9 A9) r0) ([.ref (o 0)] : List Value).toArray s 0 0 (va_A (wM o cI Fa Aa) s.heap.size)) (F0 m 51 ls [.ref (o 0)]) := by
    intro x1 F A H locs ls hl hP hD hS hf
    unfold f_M_operator_J51 at hf
    refine lv_iconst (v := 1) hx hb d_M_operator_51 (by decide) ?_
    refine lv_goto (tgt := 56) hx hb d_M_operator_52 (by decide) ?_
    have hP : va_P (dC, dI) vC (wM o cI F A) H := hP
    have hD : va_D (va_A (wM o cI Fa Aa) s.heap.size) (wM o cI F A) := hD
    obtain ⟨F18, A18, hc, hf⟩ := ra_bv_some hf
    refine cc_callv (va_runV (As := [.int (1 : Int32)]) (rest := []) ⟨hx, hb, hml, hown, hts⟩ (k_M_settle l dC dI o cI H.size F A (1 : Int32) F18 A18 hc) (cw_V 1 hts mw_629 mw_631 ms_M_settle mw_5 mw_632 rfl rfl rfl hd_M_settle ⟨Nat.le_of_ble_eq_true rfl, Nat.le_of_ble_eq_true rfl⟩) (cc_preV hK hP hD rfl (q0 := 0) rfl) rfl rfl hl.1 rfl (lv_room (Nat.le_of_ble_eq_true rfl)) d_M_operator_56 ⟨Nat.zero_le _, Nat.zero_le _⟩) hD hS hA (fun H locs hP hD hS => ?_)
    refine lv_aload_n hx hb d_M_operator_59 rfl (lv_at hl 0 rfl) ?_
    refine lv_iload_n hx hb d_M_operator_60 rfl (lv_at hl 1 rfl) ?_
    have hP : va_P (dC, dI) vC (wM o cI F18 A18) H := hP
    have hD : va_D (va_A (wM o cI Fa Aa) s.heap.size) (wM o cI F18 A18) := hD
    obtain ⟨F19, A19, hc, hf⟩ := ra_bv_some hf
    refine cc_callv (va_runV (As := [.int x1]) (rest := []) ⟨hx, hb, hml, hown, hts⟩ (k_M_hold l dC dI o cI H.size F18 A18 x1 F19 A19 hc) (cw_V 1 hts mw_695 mw_697 ms_M_hold mw_5 mw_698 rfl rfl rfl hd_M_hold ⟨Nat.le_of_ble_eq_true rfl, Nat.le_of_ble_eq_true rfl⟩) (cc_preV hK hP hD rfl (q0 := 0) rfl) rfl rfl hl.1 rfl (lv_room (Nat.le_of_ble_eq_true rfl)) d_M_operator_61 ⟨Nat.zero_le _, Nat.zero_le _⟩) hD hS hA (fun H locs hP hD hS => ?_)
    refine lv_goto (tgt := 182) hx hb d_M_operator_64 (by decide) ?_
    refine lv_iconst (v := 0) hx hb d_M_operator_182 (by decide) ?_
    cases hf
    exact W.zret hx hb hr (by rfl) (fun t ht hW => ⟨⟨_, (), rfl, rfl, by rw [ht]; exact hP, va_K.moved hW.alike hK, hD⟩, hS.F ht⟩) hS.2.2 d_M_operator_183
  rw [lg_entry_eq]
  generalize (lg_sl (([.ref (o 0)] : List Value)) ++ List.replicate (2 - (lg_sl (([.ref (o 0)] : List Value))).length) Slot.unset).toArray = ls at hl ⊢
  have hl : lv_has ls 2 [(0, .ref (o 0))] := hl
  unfold f_M_operator at hf
  refine lv_aload_n hx hb d_M_operator_0 rfl (lv_at hl 0 rfl) ?_
  refine lv_aload_n hx hb d_M_operator_1 rfl (lv_at hl 0 rfl) ?_
  refine va_get (D := (dC, dI)) (ci := 4) (v := .int (Fa 4)) (C := R_M) (T := T_M) (N := 29) hx hb hts in_M hown hK hP 0 rfl rfl 15 (by decide) (hts _ mw_518) (fun _ h9 => h9) rfl d_M_operator_2 ?_
  have hP : va_P (dC, dI) vC (wM o cI Fa Aa) s.heap := hP
  have hD : va_D (va_A (wM o cI Fa Aa) s.heap.size) (wM o cI Fa Aa) := hD
  obtain ⟨r1, F1, A1, hc, hf⟩ := ra_bi_some hf
  refine cc_calli (va_runV (As := [.int (Fa 4)]) (rest := []) ⟨hx, hb, hml, hown, hts⟩ (k_M_look l dC dI o cI s.heap.size Fa Aa (Fa 4) r1 F1 A1 hc) (cw_V 1 hts mw_611 mw_613 ms_M_look mw_5 mw_614 rfl rfl rfl hd_M_look ⟨Nat.le_of_ble_eq_true rfl, Nat.le_of_ble_eq_true rfl⟩) (cc_preV hK hP hD rfl (q0 := 0) rfl) rfl rfl hl.1 rfl (lv_room (Nat.le_of_ble_eq_true rfl)) d_M_operator_5 ⟨Nat.zero_le _, Nat.zero_le _⟩) hD hS hA (fun H locs hP hD hS => ?_)
  refine lv_istore_n hx hb d_M_operator_8 rfl hl (by decide) rfl (fun ls hl => ?_)
  have hl : lv_has ls 2 [(1, .int r1), (0, .ref (o 0))] := hl
  refine lv_aload_n hx hb d_M_operator_9 rfl (lv_at hl 1 rfl) ?_
  refine lv_dup hx hb d_M_operator_10 rfl ?_
  refine va_get (D := (dC, dI)) (ci := 4) (v := .int (F1 4)) (C := R_M) (T := T_M) (N := 29) hx hb hts in_M hown hK hP 0 rfl rfl 15 (by decide) (hts _ mw_518) (fun _ h9 => h9) rfl d_M_operator_11 ?_
  refine lv_iconst (v := 1) hx hb d_M_operator_14 (by decide) ?_
  refine lv_iadd hx hb d_M_operator_15 ?_
  refine va_put (D := (dC, dI)) (ci := 4) (v := .int ((F1 4) + (1 : Int32))) (ty := .int) (C := R_M) (T := T_M) (N := 29) hx hb hts in_M ty_M ty_M_ok nm_M hown hK hP hD hS 0 rfl rfl 15 (by decide) (hts _ mw_518) (fun _ h9 => h9) rfl (by decide +kernel) rfl rfl (Nat.le_of_ble_eq_true rfl) d_M_operator_16 (fun H locs hP hD hS => ?_)
  have hP : va_P (dC, dI) vC [((o 0), .inr (4, [.int (F1 0), .int (F1 1), .ref (o 1), .int (F1 2), .ref (o 2), .ref (o 3), .ref (o 4), .ref (o 5), .ref (o 6), .int (F1 3), .ref (o 7), .ref (o 8), .ref (o 9), .ref (o 10), .ref (o 11), .int ((F1 4) + (1 : Int32)), .int (F1 5), .int (F1 6), .ref (o 12), .ref (o 13), .int (F1 7), .ref (o 14), .ref (o 15), .int (F1 8), .int (F1 9), .ref (o 16), .ref (o 17), .ref (o 18), .ref (o 19)])), ((o 1), .inl (cI, 160, .inl (A1 0))), ((o 2), .inl (cI, 100, .inl (A1 1))), ((o 3), .inl (cI, 100, .inl (A1 2))), ((o 4), .inl (cI, 100, .inl (A1 3))), ((o 5), .inl (cI, 3, .inl (A1 4))), ((o 6), .inl (cI, 26, .inl (A1 5))), ((o 7), .inl (cI, 100, .inl (A1 6))), ((o 8), .inl (cI, 100, .inl (A1 7))), ((o 9), .inl (cI, 100, .inl (A1 8))), ((o 10), .inl (cI, 26, .inl (A1 9))), ((o 11), .inl (cI, 104, .inl (A1 10))), ((o 12), .inl (cI, 80, .inl (A1 11))), ((o 13), .inl (cI, 320, .inl (A1 12))), ((o 14), .inl (cI, 200, .inl (A1 13))), ((o 15), .inl (cI, 200, .inl (A1 14))), ((o 16), .inl (cI, 4, .inl (A1 15))), ((o 17), .inl (cI, 32, .inl (A1 16))), ((o 18), .inl (cI, 32, .inl (A1 17))), ((o 19), .inl (cI, 100, .inl (A1 18)))] H := hP
  have hD : va_D (va_A (wM o cI Fa Aa) s.heap.size) [((o 0), .inr (4, [.int (F1 0), .int (F1 1), .ref (o 1), .int (F1 2), .ref (o 2), .ref (o 3), .ref (o 4), .ref (o 5), .ref (o 6), .int (F1 3), .ref (o 7), .ref (o 8), .ref (o 9), .ref (o 10), .ref (o 11), .int ((F1 4) + (1 : Int32)), .int (F1 5), .int (F1 6), .ref (o 12), .ref (o 13), .int (F1 7), .ref (o 14), .ref (o 15), .int (F1 8), .int (F1 9), .ref (o 16), .ref (o 17), .ref (o 18), .ref (o 19)])), ((o 1), .inl (cI, 160, .inl (A1 0))), ((o 2), .inl (cI, 100, .inl (A1 1))), ((o 3), .inl (cI, 100, .inl (A1 2))), ((o 4), .inl (cI, 100, .inl (A1 3))), ((o 5), .inl (cI, 3, .inl (A1 4))), ((o 6), .inl (cI, 26, .inl (A1 5))), ((o 7), .inl (cI, 100, .inl (A1 6))), ((o 8), .inl (cI, 100, .inl (A1 7))), ((o 9), .inl (cI, 100, .inl (A1 8))), ((o 10), .inl (cI, 26, .inl (A1 9))), ((o 11), .inl (cI, 104, .inl (A1 10))), ((o 12), .inl (cI, 80, .inl (A1 11))), ((o 13), .inl (cI, 320, .inl (A1 12))), ((o 14), .inl (cI, 200, .inl (A1 13))), ((o 15), .inl (cI, 200, .inl (A1 14))), ((o 16), .inl (cI, 4, .inl (A1 15))), ((o 17), .inl (cI, 32, .inl (A1 16))), ((o 18), .inl (cI, 32, .inl (A1 17))), ((o 19), .inl (cI, 100, .inl (A1 18)))] := hD
  refine lv_iload_n hx hb d_M_operator_19 rfl (lv_at hl 0 rfl) ?_
  refine lv_bipush (v := 41) hx hb d_M_operator_20 (by decide) ?_
  refine lv_icmp_ne (tgt := 31) hx hb d_M_operator_22 (by decide) (fun h22_2 => ?_) (fun h22_2 => ?_)
  · rw [if_neg h22_2] at hf
    refine lv_iload_n hx hb d_M_operator_31 rfl (lv_at hl 0 rfl) ?_
    refine cc_calls (va_runS (As := [.int r1]) (rest := []) ⟨hx, hb, hml, hown, hts⟩ (k_M_isBinary l r1 _ rfl) (cw_S 1 hts mw_637 mw_638 mw_5 mw_639 rfl rfl hd_M_isBinary ⟨Nat.le_of_ble_eq_true rfl, Nat.le_of_ble_eq_true rfl⟩) cc_preS rfl rfl hl.1 rfl (lv_room (Nat.le_of_ble_eq_true rfl)) d_M_operator_32 ⟨Nat.zero_le _, Nat.zero_le _⟩) ?_
    refine lv_if_eq (tgt := 67) hx hb d_M_operator_35 (by decide) (fun h35_3 => ?_) (fun h35_3 => ?_)
    · rw [if_pos h35_3] at hf
      refine lv_iload_n hx hb d_M_operator_67 rfl (lv_at hl 0 rfl) ?_
      refine lv_bipush (v := 44) hx hb d_M_operator_68 (by decide) ?_
      refine lv_icmp_ne (tgt := 129) hx hb d_M_operator_70 (by decide) (fun h70_4 => ?_) (fun h70_4 => ?_)
      · rw [if_neg h70_4] at hf
        refine lv_iload_n hx hb d_M_operator_129 rfl (lv_at hl 0 rfl) ?_
        refine lv_bipush (v := 59) hx hb d_M_operator_130 (by decide) ?_
        refine lv_icmp_ne (tgt := 177) hx hb d_M_operator_132 (by decide) (fun h132_5 => ?_) (fun h132_5 => ?_)
        · rw [if_neg h132_5] at hf
          refine lv_aload_n hx hb d_M_operator_177 rfl (lv_at hl 1 rfl) ?_
          refine lv_iconst (v := 1) hx hb d_M_operator_178 (by decide) ?_
          refine va_put (D := (dC, dI)) (ci := 4) (v := .int (1 : Int32)) (ty := .boolean) (C := R_M) (T := T_M) (N := 29) hx hb hts in_M ty_M ty_M_ok nm_M hown hK hP hD hS 0 rfl rfl 16 (by decide) (hts _ mw_519) (fun _ h9 => h9) rfl (by decide +kernel) rfl rfl (Nat.le_of_ble_eq_true rfl) d_M_operator_179 (fun H locs hP hD hS => ?_)
          have hP : va_P (dC, dI) vC [((o 0), .inr (4, [.int (F1 0), .int (F1 1), .ref (o 1), .int (F1 2), .ref (o 2), .ref (o 3), .ref (o 4), .ref (o 5), .ref (o 6), .int (F1 3), .ref (o 7), .ref (o 8), .ref (o 9), .ref (o 10), .ref (o 11), .int ((F1 4) + (1 : Int32)), .int (1 : Int32), .int (F1 6), .ref (o 12), .ref (o 13), .int (F1 7), .ref (o 14), .ref (o 15), .int (F1 8), .int (F1 9), .ref (o 16), .ref (o 17), .ref (o 18), .ref (o 19)])), ((o 1), .inl (cI, 160, .inl (A1 0))), ((o 2), .inl (cI, 100, .inl (A1 1))), ((o 3), .inl (cI, 100, .inl (A1 2))), ((o 4), .inl (cI, 100, .inl (A1 3))), ((o 5), .inl (cI, 3, .inl (A1 4))), ((o 6), .inl (cI, 26, .inl (A1 5))), ((o 7), .inl (cI, 100, .inl (A1 6))), ((o 8), .inl (cI, 100, .inl (A1 7))), ((o 9), .inl (cI, 100, .inl (A1 8))), ((o 10), .inl (cI, 26, .inl (A1 9))), ((o 11), .inl (cI, 104, .inl (A1 10))), ((o 12), .inl (cI, 80, .inl (A1 11))), ((o 13), .inl (cI, 320, .inl (A1 12))), ((o 14), .inl (cI, 200, .inl (A1 13))), ((o 15), .inl (cI, 200, .inl (A1 14))), ((o 16), .inl (cI, 4, .inl (A1 15))), ((o 17), .inl (cI, 32, .inl (A1 16))), ((o 18), .inl (cI, 32, .inl (A1 17))), ((o 19), .inl (cI, 100, .inl (A1 18)))] H := hP
          have hD : va_D (va_A (wM o cI Fa Aa) s.heap.size) [((o 0), .inr (4, [.int (F1 0), .int (F1 1), .ref (o 1), .int (F1 2), .ref (o 2), .ref (o 3), .ref (o 4), .ref (o 5), .ref (o 6), .int (F1 3), .ref (o 7), .ref (o 8), .ref (o 9), .ref (o 10), .ref (o 11), .int ((F1 4) + (1 : Int32)), .int (1 : Int32), .int (F1 6), .ref (o 12), .ref (o 13), .int (F1 7), .ref (o 14), .ref (o 15), .int (F1 8), .int (F1 9), .ref (o 16), .ref (o 17), .ref (o 18), .ref (o 19)])), ((o 1), .inl (cI, 160, .inl (A1 0))), ((o 2), .inl (cI, 100, .inl (A1 1))), ((o 3), .inl (cI, 100, .inl (A1 2))), ((o 4), .inl (cI, 100, .inl (A1 3))), ((o 5), .inl (cI, 3, .inl (A1 4))), ((o 6), .inl (cI, 26, .inl (A1 5))), ((o 7), .inl (cI, 100, .inl (A1 6))), ((o 8), .inl (cI, 100, .inl (A1 7))), ((o 9), .inl (cI, 100, .inl (A1 8))), ((o 10), .inl (cI, 26, .inl (A1 9))), ((o 11), .inl (cI, 104, .inl (A1 10))), ((o 12), .inl (cI, 80, .inl (A1 11))), ((o 13), .inl (cI, 320, .inl (A1 12))), ((o 14), .inl (cI, 200, .inl (A1 13))), ((o 15), .inl (cI, 200, .inl (A1 14))), ((o 16), .inl (cI, 4, .inl (A1 15))), ((o 17), .inl (cI, 32, .inl (A1 16))), ((o 18), .inl (cI, 32, .inl (A1 17))), ((o 19), .inl (cI, 100, .inl (A1 18)))] := hD
          refine lv_iconst (v := 0) hx hb d_M_operator_182 (by decide) ?_
          cases hf
          exact W.zret hx hb hr (by rfl) (fun t ht hW => ⟨⟨_, (), rfl, rfl, by rw [ht]; exact hP, va_K.moved hW.alike hK, hD⟩, hS.F ht⟩) hS.2.2 d_M_operator_183
        · rw [if_pos h132_5] at hf
          refine lv_aload_n hx hb d_M_operator_135 rfl (lv_at hl 1 rfl) ?_
          refine va_get (D := (dC, dI)) (ci := 4) (v := .int (F1 9)) (C := R_M) (T := T_M) (N := 29) hx hb hts in_M hown hK hP 0 rfl rfl 24 (by decide) (hts _ mw_527) (fun _ h9 => h9) rfl d_M_operator_136 ?_
          refine lv_if_lt (tgt := 177) hx hb d_M_operator_139 (by decide) (fun h139_6 => ?_) (fun h139_6 => ?_)
          · rw [if_pos h139_6] at hf
            refine lv_aload_n hx hb d_M_operator_177 rfl (lv_at hl 1 rfl) ?_
            refine lv_iconst (v := 1) hx hb d_M_operator_178 (by decide) ?_
            refine va_put (D := (dC, dI)) (ci := 4) (v := .int (1 : Int32)) (ty := .boolean) (C := R_M) (T := T_M) (N := 29) hx hb hts in_M ty_M ty_M_ok nm_M hown hK hP hD hS 0 rfl rfl 16 (by decide) (hts _ mw_519) (fun _ h9 => h9) rfl (by decide +kernel) rfl rfl (Nat.le_of_ble_eq_true rfl) d_M_operator_179 (fun H locs hP hD hS => ?_)
            have hP : va_P (dC, dI) vC [((o 0), .inr (4, [.int (F1 0), .int (F1 1), .ref (o 1), .int (F1 2), .ref (o 2), .ref (o 3), .ref (o 4), .ref (o 5), .ref (o 6), .int (F1 3), .ref (o 7), .ref (o 8), .ref (o 9), .ref (o 10), .ref (o 11), .int ((F1 4) + (1 : Int32)), .int (1 : Int32), .int (F1 6), .ref (o 12), .ref (o 13), .int (F1 7), .ref (o 14), .ref (o 15), .int (F1 8), .int (F1 9), .ref (o 16), .ref (o 17), .ref (o 18), .ref (o 19)])), ((o 1), .inl (cI, 160, .inl (A1 0))), ((o 2), .inl (cI, 100, .inl (A1 1))), ((o 3), .inl (cI, 100, .inl (A1 2))), ((o 4), .inl (cI, 100, .inl (A1 3))), ((o 5), .inl (cI, 3, .inl (A1 4))), ((o 6), .inl (cI, 26, .inl (A1 5))), ((o 7), .inl (cI, 100, .inl (A1 6))), ((o 8), .inl (cI, 100, .inl (A1 7))), ((o 9), .inl (cI, 100, .inl (A1 8))), ((o 10), .inl (cI, 26, .inl (A1 9))), ((o 11), .inl (cI, 104, .inl (A1 10))), ((o 12), .inl (cI, 80, .inl (A1 11))), ((o 13), .inl (cI, 320, .inl (A1 12))), ((o 14), .inl (cI, 200, .inl (A1 13))), ((o 15), .inl (cI, 200, .inl (A1 14))), ((o 16), .inl (cI, 4, .inl (A1 15))), ((o 17), .inl (cI, 32, .inl (A1 16))), ((o 18), .inl (cI, 32, .inl (A1 17))), ((o 19), .inl (cI, 100, .inl (A1 18)))] H := hP
            have hD : va_D (va_A (wM o cI Fa Aa) s.heap.size) [((o 0), .inr (4, [.int (F1 0), .int (F1 1), .ref (o 1), .int (F1 2), .ref (o 2), .ref (o 3), .ref (o 4), .ref (o 5), .ref (o 6), .int (F1 3), .ref (o 7), .ref (o 8), .ref (o 9), .ref (o 10), .ref (o 11), .int ((F1 4) + (1 : Int32)), .int (1 : Int32), .int (F1 6), .ref (o 12), .ref (o 13), .int (F1 7), .ref (o 14), .ref (o 15), .int (F1 8), .int (F1 9), .ref (o 16), .ref (o 17), .ref (o 18), .ref (o 19)])), ((o 1), .inl (cI, 160, .inl (A1 0))), ((o 2), .inl (cI, 100, .inl (A1 1))), ((o 3), .inl (cI, 100, .inl (A1 2))), ((o 4), .inl (cI, 100, .inl (A1 3))), ((o 5), .inl (cI, 3, .inl (A1 4))), ((o 6), .inl (cI, 26, .inl (A1 5))), ((o 7), .inl (cI, 100, .inl (A1 6))), ((o 8), .inl (cI, 100, .inl (A1 7))), ((o 9), .inl (cI, 100, .inl (A1 8))), ((o 10), .inl (cI, 26, .inl (A1 9))), ((o 11), .inl (cI, 104, .inl (A1 10))), ((o 12), .inl (cI, 80, .inl (A1 11))), ((o 13), .inl (cI, 320, .inl (A1 12))), ((o 14), .inl (cI, 200, .inl (A1 13))), ((o 15), .inl (cI, 200, .inl (A1 14))), ((o 16), .inl (cI, 4, .inl (A1 15))), ((o 17), .inl (cI, 32, .inl (A1 16))), ((o 18), .inl (cI, 32, .inl (A1 17))), ((o 19), .inl (cI, 100, .inl (A1 18)))] := hD
            refine lv_iconst (v := 0) hx hb d_M_operator_182 (by decide) ?_
            cases hf
            exact W.zret hx hb hr (by rfl) (fun t ht hW => ⟨⟨_, (), rfl, rfl, by rw [ht]; exact hP, va_K.moved hW.alike hK, hD⟩, hS.F ht⟩) hS.2.2 d_M_operator_183
          · rw [if_neg h139_6] at hf
            refine lv_aload_n hx hb d_M_operator_142 rfl (lv_at hl 1 rfl) ?_
            refine lv_iconst (v := 1) hx hb d_M_operator_143 (by decide) ?_
            have hP : va_P (dC, dI) vC (wM o cI (upd F1 4 ((F1 4) + (1 : Int32))) A1) H := hP
            have hD : va_D (va_A (wM o cI Fa Aa) s.heap.size) (wM o cI (upd F1 4 ((F1 4) + (1 : Int32))) A1) := hD
            obtain ⟨F7, A7, hc, hf⟩ := ra_bv_some hf
            refine cc_callv (va_runV (As := [.int (1 : Int32)]) (rest := []) ⟨hx, hb, hml, hown, hts⟩ (k_M_settle l dC dI o cI H.size (upd F1 4 ((F1 4) + (1 : Int32))) A1 (1 : Int32) F7 A7 hc) (cw_V 1 hts mw_629 mw_631 ms_M_settle mw_5 mw_632 rfl rfl rfl hd_M_settle ⟨Nat.le_of_ble_eq_true rfl, Nat.le_of_ble_eq_true rfl⟩) (cc_preV hK hP hD rfl (q0 := 0) rfl) rfl rfl hl.1 rfl (lv_room (Nat.le_of_ble_eq_true rfl)) d_M_operator_144 ⟨Nat.zero_le _, Nat.zero_le _⟩) hD hS hA (fun H locs hP hD hS => ?_)
            refine lv_aload_n hx hb d_M_operator_147 rfl (lv_at hl 1 rfl) ?_
            refine lv_aload_n hx hb d_M_operator_148 rfl (lv_at hl 1 rfl) ?_
            refine va_get (D := (dC, dI)) (ci := 4) (v := .int (F7 5)) (C := R_M) (T := T_M) (N := 29) hx hb hts in_M hown hK hP 0 rfl rfl 16 (by decide) (hts _ mw_519) (fun _ h9 => h9) rfl d_M_operator_149 ?_
            refine lv_if_ne (tgt := 162) hx hb d_M_operator_152 (by decide) (fun h152_8 => ?_) (fun h152_8 => ?_)
            · rw [if_neg h152_8] at hf
              have hl : lv_has ls 2 [(0, .ref (o 0)), (1, .int r1)] := lv_sub hl [1, 0] rfl
              exact J162 r1 F7 A7 _ _ _ hl hP hD hS hf
            · rw [if_pos h152_8] at hf
              refine lv_aload_n hx hb d_M_operator_155 rfl (lv_at hl 1 rfl) ?_
              refine va_get (D := (dC, dI)) (ci := 4) (v := .int (F7 7)) (C := R_M) (T := T_M) (N := 29) hx hb hts in_M hown hK hP 0 rfl rfl 20 (by decide) (hts _ mw_523) (fun _ h9 => h9) rfl d_M_operator_156 ?_
              refine lv_if_le (tgt := 166) hx hb d_M_operator_159 (by decide) (fun h159_10 => ?_) (fun h159_10 => ?_)
              · rw [if_pos h159_10] at hf
                refine lv_iconst (v := 0) hx hb d_M_operator_166 (by decide) ?_
                refine va_put (D := (dC, dI)) (ci := 4) (v := .int (0 : Int32)) (ty := .boolean) (C := R_M) (T := T_M) (N := 29) hx hb hts in_M ty_M ty_M_ok nm_M hown hK hP hD hS 0 rfl rfl 16 (by decide) (hts _ mw_519) (fun _ h9 => h9) rfl (by decide +kernel) rfl rfl (Nat.le_of_ble_eq_true rfl) d_M_operator_167 (fun H locs hP hD hS => ?_)
                have hP : va_P (dC, dI) vC [((o 0), .inr (4, [.int (F7 0), .int (F7 1), .ref (o 1), .int (F7 2), .ref (o 2), .ref (o 3), .ref (o 4), .ref (o 5), .ref (o 6), .int (F7 3), .ref (o 7), .ref (o 8), .ref (o 9), .ref (o 10), .ref (o 11), .int (F7 4), .int (0 : Int32), .int (F7 6), .ref (o 12), .ref (o 13), .int (F7 7), .ref (o 14), .ref (o 15), .int (F7 8), .int (F7 9), .ref (o 16), .ref (o 17), .ref (o 18), .ref (o 19)])), ((o 1), .inl (cI, 160, .inl (A7 0))), ((o 2), .inl (cI, 100, .inl (A7 1))), ((o 3), .inl (cI, 100, .inl (A7 2))), ((o 4), .inl (cI, 100, .inl (A7 3))), ((o 5), .inl (cI, 3, .inl (A7 4))), ((o 6), .inl (cI, 26, .inl (A7 5))), ((o 7), .inl (cI, 100, .inl (A7 6))), ((o 8), .inl (cI, 100, .inl (A7 7))), ((o 9), .inl (cI, 100, .inl (A7 8))), ((o 10), .inl (cI, 26, .inl (A7 9))), ((o 11), .inl (cI, 104, .inl (A7 10))), ((o 12), .inl (cI, 80, .inl (A7 11))), ((o 13), .inl (cI, 320, .inl (A7 12))), ((o 14), .inl (cI, 200, .inl (A7 13))), ((o 15), .inl (cI, 200, .inl (A7 14))), ((o 16), .inl (cI, 4, .inl (A7 15))), ((o 17), .inl (cI, 32, .inl (A7 16))), ((o 18), .inl (cI, 32, .inl (A7 17))), ((o 19), .inl (cI, 100, .inl (A7 18)))] H := hP
                have hD : va_D (va_A (wM o cI Fa Aa) s.heap.size) [((o 0), .inr (4, [.int (F7 0), .int (F7 1), .ref (o 1), .int (F7 2), .ref (o 2), .ref (o 3), .ref (o 4), .ref (o 5), .ref (o 6), .int (F7 3), .ref (o 7), .ref (o 8), .ref (o 9), .ref (o 10), .ref (o 11), .int (F7 4), .int (0 : Int32), .int (F7 6), .ref (o 12), .ref (o 13), .int (F7 7), .ref (o 14), .ref (o 15), .int (F7 8), .int (F7 9), .ref (o 16), .ref (o 17), .ref (o 18), .ref (o 19)])), ((o 1), .inl (cI, 160, .inl (A7 0))), ((o 2), .inl (cI, 100, .inl (A7 1))), ((o 3), .inl (cI, 100, .inl (A7 2))), ((o 4), .inl (cI, 100, .inl (A7 3))), ((o 5), .inl (cI, 3, .inl (A7 4))), ((o 6), .inl (cI, 26, .inl (A7 5))), ((o 7), .inl (cI, 100, .inl (A7 6))), ((o 8), .inl (cI, 100, .inl (A7 7))), ((o 9), .inl (cI, 100, .inl (A7 8))), ((o 10), .inl (cI, 26, .inl (A7 9))), ((o 11), .inl (cI, 104, .inl (A7 10))), ((o 12), .inl (cI, 80, .inl (A7 11))), ((o 13), .inl (cI, 320, .inl (A7 12))), ((o 14), .inl (cI, 200, .inl (A7 13))), ((o 15), .inl (cI, 200, .inl (A7 14))), ((o 16), .inl (cI, 4, .inl (A7 15))), ((o 17), .inl (cI, 32, .inl (A7 16))), ((o 18), .inl (cI, 32, .inl (A7 17))), ((o 19), .inl (cI, 100, .inl (A7 18)))] := hD
                refine lv_aload_n hx hb d_M_operator_170 rfl (lv_at hl 1 rfl) ?_
                have hP : va_P (dC, dI) vC (wM o cI (upd F7 5 (0 : Int32)) A7) H := hP
                have hD : va_D (va_A (wM o cI Fa Aa) s.heap.size) (wM o cI (upd F7 5 (0 : Int32)) A7) := hD
                obtain ⟨F11, A11, hc, hf⟩ := ra_bv_some hf
                refine cc_callv (va_runV (As := []) (rest := []) ⟨hx, hb, hml, hown, hts⟩ (k_M_assign l dC dI o cI H.size (upd F7 5 (0 : Int32)) A7  F11 A11 hc) (cw_V 0 hts mw_699 mw_701 ms_M_assign mw_5 mw_702 rfl rfl rfl hd_M_assign ⟨Nat.le_of_ble_eq_true rfl, Nat.le_of_ble_eq_true rfl⟩) (cc_preV hK hP hD rfl (q0 := 0) rfl) rfl rfl hl.1 rfl (lv_room (Nat.le_of_ble_eq_true rfl)) d_M_operator_171 ⟨Nat.zero_le _, Nat.zero_le _⟩) hD hS hA (fun H locs hP hD hS => ?_)
                refine lv_goto (tgt := 182) hx hb d_M_operator_174 (by decide) ?_
                refine lv_iconst (v := 0) hx hb d_M_operator_182 (by decide) ?_
                cases hf
                exact W.zret hx hb hr (by rfl) (fun t ht hW => ⟨⟨_, (), rfl, rfl, by rw [ht]; exact hP, va_K.moved hW.alike hK, hD⟩, hS.F ht⟩) hS.2.2 d_M_operator_183
              · rw [if_neg h159_10] at hf
                have hl : lv_has ls 2 [(0, .ref (o 0)), (1, .int r1)] := lv_sub hl [1, 0] rfl
                exact J162 r1 F7 A7 _ _ _ hl hP hD hS hf
      · rw [if_pos h70_4] at hf
        refine lv_aload_n hx hb d_M_operator_73 rfl (lv_at hl 1 rfl) ?_
        refine lv_iconst (v := 1) hx hb d_M_operator_74 (by decide) ?_
        have hP : va_P (dC, dI) vC (wM o cI (upd F1 4 ((F1 4) + (1 : Int32))) A1) H := hP
        have hD : va_D (va_A (wM o cI Fa Aa) s.heap.size) (wM o cI (upd F1 4 ((F1 4) + (1 : Int32))) A1) := hD
        obtain ⟨F12, A12, hc, hf⟩ := ra_bv_some hf
        refine cc_callv (va_runV (As := [.int (1 : Int32)]) (rest := []) ⟨hx, hb, hml, hown, hts⟩ (k_M_settle l dC dI o cI H.size (upd F1 4 ((F1 4) + (1 : Int32))) A1 (1 : Int32) F12 A12 hc) (cw_V 1 hts mw_629 mw_631 ms_M_settle mw_5 mw_632 rfl rfl rfl hd_M_settle ⟨Nat.le_of_ble_eq_true rfl, Nat.le_of_ble_eq_true rfl⟩) (cc_preV hK hP hD rfl (q0 := 0) rfl) rfl rfl hl.1 rfl (lv_room (Nat.le_of_ble_eq_true rfl)) d_M_operator_75 ⟨Nat.zero_le _, Nat.zero_le _⟩) hD hS hA (fun H locs hP hD hS => ?_)
        refine lv_aload_n hx hb d_M_operator_78 rfl (lv_at hl 1 rfl) ?_
        refine lv_aload_n hx hb d_M_operator_79 rfl (lv_at hl 1 rfl) ?_
        refine va_get (D := (dC, dI)) (ci := 4) (v := .int (F12 5)) (C := R_M) (T := T_M) (N := 29) hx hb hts in_M hown hK hP 0 rfl rfl 16 (by decide) (hts _ mw_519) (fun _ h9 => h9) rfl d_M_operator_80 ?_
        refine lv_if_ne (tgt := 96) hx hb d_M_operator_83 (by decide) (fun h83_13 => ?_) (fun h83_13 => ?_)
        · rw [if_neg h83_13] at hf
          have hl : lv_has ls 2 [(0, .ref (o 0)), (1, .int r1)] := lv_sub hl [1, 0] rfl
          exact J96 r1 F12 A12 _ _ _ hl hP hD hS hf
        · rw [if_pos h83_13] at hf
          refine lv_aload_n hx hb d_M_operator_86 rfl (lv_at hl 1 rfl) ?_
          have hP : va_P (dC, dI) vC (wM o cI F12 A12) H := hP
          have hD : va_D (va_A (wM o cI Fa Aa) s.heap.size) (wM o cI F12 A12) := hD
          obtain ⟨r15, F15, A15, hc, hf⟩ := ra_bi_some hf
          refine cc_calli (va_runV (As := []) (rest := [.ref (o 0)]) ⟨hx, hb, hml, hown, hts⟩ (k_M_top l dC dI o cI H.size F12 A12  r15 F15 A15 hc) (cw_V 0 hts mw_633 mw_635 ms_M_top mw_5 mw_636 rfl rfl rfl hd_M_top ⟨Nat.le_of_ble_eq_true rfl, Nat.le_of_ble_eq_true rfl⟩) (cc_preV hK hP hD rfl (q0 := 0) rfl) rfl rfl hl.1 rfl (lv_room (Nat.le_of_ble_eq_true rfl)) d_M_operator_87 ⟨Nat.zero_le _, Nat.zero_le _⟩) hD hS hA (fun H locs hP hD hS => ?_)
          refine cc_calls (va_runS (As := [.int r15]) (rest := [.ref (o 0)]) ⟨hx, hb, hml, hown, hts⟩ (k_M_isFunction l r15 _ rfl) (cw_S 1 hts mw_668 mw_669 mw_5 mw_670 rfl rfl hd_M_isFunction ⟨Nat.le_of_ble_eq_true rfl, Nat.le_of_ble_eq_true rfl⟩) cc_preS rfl rfl hl.1 rfl (lv_room (Nat.le_of_ble_eq_true rfl)) d_M_operator_90 ⟨Nat.zero_le _, Nat.zero_le _⟩) ?_
          refine lv_if_ne (tgt := 100) hx hb d_M_operator_93 (by decide) (fun h93_16 => ?_) (fun h93_16 => ?_)
          · rw [if_neg h93_16] at hf
            refine lv_iconst (v := 0) hx hb d_M_operator_100 (by decide) ?_
            have hl : lv_has ls 2 [(0, .ref (o 0)), (1, .int r1)] := lv_sub hl [1, 0] rfl
            exact J101 r1 (0 : Int32) F15 A15 _ _ _ hl hP hD hS hf
          · rw [if_pos h93_16] at hf
            have hl : lv_has ls 2 [(0, .ref (o 0)), (1, .int r1)] := lv_sub hl [1, 0] rfl
            exact J96 r1 F15 A15 _ _ _ hl hP hD hS hf
    · rw [if_neg h35_3] at hf
      refine lv_aload_n hx hb d_M_operator_38 rfl (lv_at hl 1 rfl) ?_
      refine lv_iload_n hx hb d_M_operator_39 rfl (lv_at hl 0 rfl) ?_
      refine lv_bipush (v := 43) hx hb d_M_operator_40 (by decide) ?_
      refine lv_icmp_eq (tgt := 51) hx hb d_M_operator_42 (by decide) (fun h42_17 => ?_) (fun h42_17 => ?_)
      · rw [if_pos h42_17] at hf
        have hl : lv_has ls 2 [(0, .ref (o 0)), (1, .int r1)] := lv_sub hl [1, 0] rfl
        exact J51 r1 (upd F1 4 ((F1 4) + (1 : Int32))) A1 _ _ _ hl hP hD hS hf
      · rw [if_neg h42_17] at hf
        refine lv_iload_n hx hb d_M_operator_45 rfl (lv_at hl 0 rfl) ?_
        refine lv_bipush (v := 45) hx hb d_M_operator_46 (by decide) ?_
        refine lv_icmp_ne (tgt := 55) hx hb d_M_operator_48 (by decide) (fun h48_20 => ?_) (fun h48_20 => ?_)
        · rw [if_neg h48_20] at hf
          refine lv_iconst (v := 0) hx hb d_M_operator_55 (by decide) ?_
          have hP : va_P (dC, dI) vC (wM o cI (upd F1 4 ((F1 4) + (1 : Int32))) A1) H := hP
          have hD : va_D (va_A (wM o cI Fa Aa) s.heap.size) (wM o cI (upd F1 4 ((F1 4) + (1 : Int32))) A1) := hD
          obtain ⟨F21, A21, hc, hf⟩ := ra_bv_some hf
          refine cc_callv (va_runV (As := [.int (0 : Int32)]) (rest := []) ⟨hx, hb, hml, hown, hts⟩ (k_M_settle l dC dI o cI H.size (upd F1 4 ((F1 4) + (1 : Int32))) A1 (0 : Int32) F21 A21 hc) (cw_V 1 hts mw_629 mw_631 ms_M_settle mw_5 mw_632 rfl rfl rfl hd_M_settle ⟨Nat.le_of_ble_eq_true rfl, Nat.le_of_ble_eq_true rfl⟩) (cc_preV hK hP hD rfl (q0 := 0) rfl) rfl rfl hl.1 rfl (lv_room (Nat.le_of_ble_eq_true rfl)) d_M_operator_56 ⟨Nat.zero_le _, Nat.zero_le _⟩) hD hS hA (fun H locs hP hD hS => ?_)
          refine lv_aload_n hx hb d_M_operator_59 rfl (lv_at hl 1 rfl) ?_
          refine lv_iload_n hx hb d_M_operator_60 rfl (lv_at hl 0 rfl) ?_
          have hP : va_P (dC, dI) vC (wM o cI F21 A21) H := hP
          have hD : va_D (va_A (wM o cI Fa Aa) s.heap.size) (wM o cI F21 A21) := hD
          obtain ⟨F22, A22, hc, hf⟩ := ra_bv_some hf
          refine cc_callv (va_runV (As := [.int r1]) (rest := []) ⟨hx, hb, hml, hown, hts⟩ (k_M_hold l dC dI o cI H.size F21 A21 r1 F22 A22 hc) (cw_V 1 hts mw_695 mw_697 ms_M_hold mw_5 mw_698 rfl rfl rfl hd_M_hold ⟨Nat.le_of_ble_eq_true rfl, Nat.le_of_ble_eq_true rfl⟩) (cc_preV hK hP hD rfl (q0 := 0) rfl) rfl rfl hl.1 rfl (lv_room (Nat.le_of_ble_eq_true rfl)) d_M_operator_61 ⟨Nat.zero_le _, Nat.zero_le _⟩) hD hS hA (fun H locs hP hD hS => ?_)
          refine lv_goto (tgt := 182) hx hb d_M_operator_64 (by decide) ?_
          refine lv_iconst (v := 0) hx hb d_M_operator_182 (by decide) ?_
          cases hf
          exact W.zret hx hb hr (by rfl) (fun t ht hW => ⟨⟨_, (), rfl, rfl, by rw [ht]; exact hP, va_K.moved hW.alike hK, hD⟩, hS.F ht⟩) hS.2.2 d_M_operator_183
        · rw [if_pos h48_20] at hf
          have hl : lv_has ls 2 [(0, .ref (o 0)), (1, .int r1)] := lv_sub hl [1, 0] rfl
          exact J51 r1 (upd F1 4 ((F1 4) + (1 : Int32))) A1 _ _ _ hl hP hD hS hf
  · rw [if_pos h22_2] at hf
    refine lv_aload_n hx hb d_M_operator_25 rfl (lv_at hl 1 rfl) ?_
    have hP : va_P (dC, dI) vC (wM o cI (upd F1 4 ((F1 4) + (1 : Int32))) A1) H := hP
    have hD : va_D (va_A (wM o cI Fa Aa) s.heap.size) (wM o cI (upd F1 4 ((F1 4) + (1 : Int32))) A1) := hD
    obtain ⟨F23, A23, hc, hf⟩ := ra_bv_some hf
    refine cc_callv (va_runV (As := []) (rest := []) ⟨hx, hb, hml, hown, hts⟩ (k_M_close l dC dI o cI H.size (upd F1 4 ((F1 4) + (1 : Int32))) A1  F23 A23 hc) (cw_V 0 hts mw_625 mw_627 ms_M_close mw_5 mw_628 rfl rfl rfl hd_M_close ⟨Nat.le_of_ble_eq_true rfl, Nat.le_of_ble_eq_true rfl⟩) (cc_preV hK hP hD rfl (q0 := 0) rfl) rfl rfl hl.1 rfl (lv_room (Nat.le_of_ble_eq_true rfl)) d_M_operator_26 ⟨Nat.zero_le _, Nat.zero_le _⟩) hD hS hA (fun H locs hP hD hS => ?_)
    refine lv_iconst (v := 1) hx hb d_M_operator_29 (by decide) ?_
    cases hf
    exact W.zret hx hb hr (by rfl) (fun t ht hW => ⟨⟨_, (), rfl, rfl, by rw [ht]; exact hP, va_K.moved hW.alike hK, hD⟩, hS.F ht⟩) hS.2.2 d_M_operator_30
def f_M_keep_L87 : Nat → Int32 → ST_F → ST_A → Option (ST_F × ST_A)
  | 0, _, _, _ => none
  | n + 1, x1, F, A => if (26 : Int32) ≤ x1 then (some (F, A)) else (ra_g x1 26 (ra_g x1 26 (f_M_keep_L87 n (x1 + (1 : Int32)) F (va_up A 5 (upd (A 5) x1.toNatClampNeg ((A 9) x1.toNatClampNeg))))))
def f_M_keep_L62 : Nat → Int32 → ST_F → ST_A → Option (ST_F × ST_A)
  | 0, _, _, _ => none
  | n + 1, x1, F, A => if (3 : Int32) ≤ x1 then (f_M_keep_L87 400 (0 : Int32) F A) else (ra_bi (f_M_number (0 : Int32) x1 F A) (fun r4 F4 A4 => ra_g x1 3 (f_M_keep_L62 n (x1 + (1 : Int32)) F4 (va_up A4 4 (upd (A4 4) x1.toNatClampNeg r4)))))
def f_M_keep_L10 : Nat → Int32 → ST_F → ST_A → Option (ST_F × ST_A)
  | 0, _, _, _ => none
  | n + 1, x1, F, A => if (F 2) ≤ x1 then (f_M_keep_L62 400 (0 : Int32) F A) else (ra_g x1 100 (ra_g x1 100 (ra_g x1 100 (ra_g x1 100 (ra_g x1 100 (ra_g x1 100 (f_M_keep_L10 n (x1 + (1 : Int32)) F (va_up (va_up (va_up A 1 (upd (A 1) x1.toNatClampNeg ((A 6) x1.toNatClampNeg))) 2 (upd (A 2) x1.toNatClampNeg ((A 7) x1.toNatClampNeg))) 3 (upd (A 3) x1.toNatClampNeg ((A 8) x1.toNatClampNeg))))))))))
def f_M_keep  (Fa : ST_F) (Aa : ST_A) : Option (ST_F × ST_A) := f_M_keep_L10 400 (0 : Int32) (upd Fa 2 (Fa 3)) Aa
set_option maxHeartbeats 4000000 in
set_option maxRecDepth 100000 in
theorem k_M_keep (l : Launch) (dC : Nat → ClassId) (dI : Nat → Nat → Nat) (o : Nat → Nat) (cI : ClassId) (sz : Nat) (Fa : ST_F) (Aa : ST_A)  (F9 : ST_F) (A9 : ST_A) (hf : f_M_keep  Fa Aa = some (F9, A9)) : cc_MetV l y_M_keep (Cond.code y_M_keep b_M_keep 2 none :: wA) ({ frames := 1, cells := 0, slots := 0, locals := 22 } : Room) (dC, dI) vC [(cI, .int)] ([.ref (o 0)] : List Value) (wM o cI Fa Aa) sz (wM o cI F9 A9) := by
  refine Met.ofW (cc := b_M_keep) (maxL := 2) (ret := none) (by decide) rfl ?_
  intro p e s m args below meth c s₁ B hml hv
  obtain ⟨rfl, hsz, hP, hK, hD0⟩ := hv
  have hx := B.exec
  have hb := B.bytes
  have hr := B.returns
  have hts := fun w h => atoms_spec (ws := (Cond.code y_M_keep b_M_keep 2 none :: wA)) B.pre w (List.mem_cons_of_mem _ h)
  have hown : s.vm.findClass R_M = some m.cls := findClass_of_methodNamed B.named
  have hlocks := B.notSynchronized
  subst hsz
  have hD := hD0.self (sz := s.heap.size)
  have hA : ∀ q : Nat, s.heap.size ≤ q → va_A (wM o cI Fa Aa) s.heap.size q := fun q h => Or.inr h
  have hS : va_S (va_A (wM o cI Fa Aa) s.heap.size) s.heap s.heap [] := va_S.rf
  have hl := lv_entry (([.ref (o 0)] : List Value)) (n := 2) (Nat.le_of_ble_eq_true rfl)
  have L87 : ∀ (n : Nat) (x1 : Int32) (F : ST_F) (A : ST_A) (H : Heap) (locs : List Loc) (ls : Array Slot), lv_has ls 2 [(0, .ref (o 0)), (1, .int x1)] → va_P (dC, dI) vC (wM o cI F A) H → va_D (va_A (wM o cI Fa Aa) s.heap.size) (wM o cI F A) → va_S (va_A (wM o cI Fa Aa) s.heap.size) s.heap H locs → f_M_keep_L87 n x1 F A = some (F9, A9) → W p l e (headSpec (Cond.code y_M_keep b_M_keep 2 none :: wA) ({ frames := 1, cells := 0, slots := 0, locals := 22 } : Room)).room s m ([.ref (o 0)] : List Value).toArray below meth c H locs 0 0 (MQ below (cc_Qv (dC, dI) vC [(cI, .int)] (wM o cI Fa Aa) s.heap.size (wM o cI F9 A9)) ([.ref (o 0)] : List Value).toArray s 0 0 (va_A (wM o cI Fa Aa) s.heap.size)) (F0 m 87 ls []) := by
    intro n
    induction n with
    | zero => intro x1 F A H locs ls hl hP hD hS hf; cases hf
    | succ n ih =>
      intro x1 F A H locs ls hl hP hD hS hf
      rw [f_M_keep_L87] at hf
      refine lv_iload_n hx hb d_M_keep_87 rfl (lv_at hl 1 rfl) ?_
      refine lv_bipush (v := 26) hx hb d_M_keep_88 (by decide) ?_
      refine lv_icmp_ge (tgt := 111) hx hb d_M_keep_90 (by decide) (fun h90_3 => ?_) (fun h90_3 => ?_)
      · rw [if_pos h90_3] at hf
        cases hf
        exact W.vret hx hb hr (fun t ht hW => ⟨⟨(), rfl, trivial, by rw [ht]; exact hP, va_K.moved hW.alike hK, hD⟩, hS.F ht⟩) hS.2.2 d_M_keep_111
      · rw [if_neg h90_3] at hf
        refine lv_aload_n hx hb d_M_keep_93 rfl (lv_at hl 0 rfl) ?_
        refine va_get (D := (dC, dI)) (ci := 4) (v := .ref (o 6)) (C := R_M) (T := T_M) (N := 29) hx hb hts in_M hown hK hP 0 rfl rfl 8 (by decide) (hts _ mw_511) (fun _ h9 => h9) rfl d_M_keep_94 ?_
        refine lv_iload_n hx hb d_M_keep_97 rfl (lv_at hl 1 rfl) ?_
        refine lv_aload_n hx hb d_M_keep_98 rfl (lv_at hl 0 rfl) ?_
        refine va_get (D := (dC, dI)) (ci := 4) (v := .ref (o 10)) (C := R_M) (T := T_M) (N := 29) hx hb hts in_M hown hK hP 0 rfl rfl 13 (by decide) (hts _ mw_516) (fun _ h9 => h9) rfl d_M_keep_99 ?_
        refine lv_iload_n hx hb d_M_keep_102 rfl (lv_at hl 1 rfl) ?_
        obtain ⟨hi, hf⟩ := ra_g_some hf
        refine va_iald hx hb hK hP 10 0 rfl rfl hi d_M_keep_103 ?_
        obtain ⟨hi, hf⟩ := ra_g_some hf
        refine va_iast hx hb hK hP hD hS 6 0 rfl rfl hi d_M_keep_104 (fun H locs hP hD hS => ?_)
        have hP : va_P (dC, dI) vC [((o 0), .inr (4, [.int (F 0), .int (F 1), .ref (o 1), .int (F 2), .ref (o 2), .ref (o 3), .ref (o 4), .ref (o 5), .ref (o 6), .int (F 3), .ref (o 7), .ref (o 8), .ref (o 9), .ref (o 10), .ref (o 11), .int (F 4), .int (F 5), .int (F 6), .ref (o 12), .ref (o 13), .int (F 7), .ref (o 14), .ref (o 15), .int (F 8), .int (F 9), .ref (o 16), .ref (o 17), .ref (o 18), .ref (o 19)])), ((o 1), .inl (cI, 160, .inl (A 0))), ((o 2), .inl (cI, 100, .inl (A 1))), ((o 3), .inl (cI, 100, .inl (A 2))), ((o 4), .inl (cI, 100, .inl (A 3))), ((o 5), .inl (cI, 3, .inl (A 4))), ((o 6), .inl (cI, 26, .inl (upd (A 5) x1.toNatClampNeg ((A 9) x1.toNatClampNeg)))), ((o 7), .inl (cI, 100, .inl (A 6))), ((o 8), .inl (cI, 100, .inl (A 7))), ((o 9), .inl (cI, 100, .inl (A 8))), ((o 10), .inl (cI, 26, .inl (A 9))), ((o 11), .inl (cI, 104, .inl (A 10))), ((o 12), .inl (cI, 80, .inl (A 11))), ((o 13), .inl (cI, 320, .inl (A 12))), ((o 14), .inl (cI, 200, .inl (A 13))), ((o 15), .inl (cI, 200, .inl (A 14))), ((o 16), .inl (cI, 4, .inl (A 15))), ((o 17), .inl (cI, 32, .inl (A 16))), ((o 18), .inl (cI, 32, .inl (A 17))), ((o 19), .inl (cI, 100, .inl (A 18)))] H := hP
        have hD : va_D (va_A (wM o cI Fa Aa) s.heap.size) [((o 0), .inr (4, [.int (F 0), .int (F 1), .ref (o 1), .int (F 2), .ref (o 2), .ref (o 3), .ref (o 4), .ref (o 5), .ref (o 6), .int (F 3), .ref (o 7), .ref (o 8), .ref (o 9), .ref (o 10), .ref (o 11), .int (F 4), .int (F 5), .int (F 6), .ref (o 12), .ref (o 13), .int (F 7), .ref (o 14), .ref (o 15), .int (F 8), .int (F 9), .ref (o 16), .ref (o 17), .ref (o 18), .ref (o 19)])), ((o 1), .inl (cI, 160, .inl (A 0))), ((o 2), .inl (cI, 100, .inl (A 1))), ((o 3), .inl (cI, 100, .inl (A 2))), ((o 4), .inl (cI, 100, .inl (A 3))), ((o 5), .inl (cI, 3, .inl (A 4))), ((o 6), .inl (cI, 26, .inl (upd (A 5) x1.toNatClampNeg ((A 9) x1.toNatClampNeg)))), ((o 7), .inl (cI, 100, .inl (A 6))), ((o 8), .inl (cI, 100, .inl (A 7))), ((o 9), .inl (cI, 100, .inl (A 8))), ((o 10), .inl (cI, 26, .inl (A 9))), ((o 11), .inl (cI, 104, .inl (A 10))), ((o 12), .inl (cI, 80, .inl (A 11))), ((o 13), .inl (cI, 320, .inl (A 12))), ((o 14), .inl (cI, 200, .inl (A 13))), ((o 15), .inl (cI, 200, .inl (A 14))), ((o 16), .inl (cI, 4, .inl (A 15))), ((o 17), .inl (cI, 32, .inl (A 16))), ((o 18), .inl (cI, 32, .inl (A 17))), ((o 19), .inl (cI, 100, .inl (A 18)))] := hD
        refine lv_iinc (k := 1) (v := (x1 + (1 : Int32))) hx hb d_M_keep_105 hl rfl (by rfl) (by decide) rfl (fun ls hl => ?_)
        have hl : lv_has ls 2 [(1, .int (x1 + (1 : Int32))), (0, .ref (o 0))] := hl
        refine lv_goto (tgt := 87) hx hb d_M_keep_108 (by decide) ?_
        have hl : lv_has ls 2 [(0, .ref (o 0)), (1, .int (x1 + (1 : Int32)))] := lv_sub hl [1, 0] rfl
        exact ih (x1 + (1 : Int32)) F (va_up A 5 (upd (A 5) x1.toNatClampNeg ((A 9) x1.toNatClampNeg))) _ _ _ hl hP hD hS hf
  have L62 : ∀ (n : Nat) (x1 : Int32) (F : ST_F) (A : ST_A) (H : Heap) (locs : List Loc) (ls : Array Slot), lv_has ls 2 [(0, .ref (o 0)), (1, .int x1)] → va_P (dC, dI) vC (wM o cI F A) H → va_D (va_A (wM o cI Fa Aa) s.heap.size) (wM o cI F A) → va_S (va_A (wM o cI Fa Aa) s.heap.size) s.heap H locs → f_M_keep_L62 n x1 F A = some (F9, A9) → W p l e (headSpec (Cond.code y_M_keep b_M_keep 2 none :: wA) ({ frames := 1, cells := 0, slots := 0, locals := 22 } : Room)).room s m ([.ref (o 0)] : List Value).toArray below meth c H locs 0 0 (MQ below (cc_Qv (dC, dI) vC [(cI, .int)] (wM o cI Fa Aa) s.heap.size (wM o cI F9 A9)) ([.ref (o 0)] : List Value).toArray s 0 0 (va_A (wM o cI Fa Aa) s.heap.size)) (F0 m 62 ls []) := by
    intro n
    induction n with
    | zero => intro x1 F A H locs ls hl hP hD hS hf; cases hf
    | succ n ih =>
      intro x1 F A H locs ls hl hP hD hS hf
      rw [f_M_keep_L62] at hf
      refine lv_iload_n hx hb d_M_keep_62 rfl (lv_at hl 1 rfl) ?_
      refine lv_iconst (v := 3) hx hb d_M_keep_63 (by decide) ?_
      refine lv_icmp_ge (tgt := 85) hx hb d_M_keep_64 (by decide) (fun h64_2 => ?_) (fun h64_2 => ?_)
      · rw [if_pos h64_2] at hf
        refine lv_iconst (v := 0) hx hb d_M_keep_85 (by decide) ?_
        refine lv_istore_n hx hb d_M_keep_86 rfl hl (by decide) rfl (fun ls hl => ?_)
        have hl : lv_has ls 2 [(1, .int (0 : Int32)), (0, .ref (o 0))] := hl
        have hl : lv_has ls 2 [(0, .ref (o 0)), (1, .int (0 : Int32))] := lv_sub hl [1, 0] rfl
        exact L87 400 (0 : Int32) F A _ _ _ hl hP hD hS hf
      · rw [if_neg h64_2] at hf
        refine lv_aload_n hx hb d_M_keep_67 rfl (lv_at hl 0 rfl) ?_
        refine va_get (D := (dC, dI)) (ci := 4) (v := .ref (o 5)) (C := R_M) (T := T_M) (N := 29) hx hb hts in_M hown hK hP 0 rfl rfl 7 (by decide) (hts _ mw_510) (fun _ h9 => h9) rfl d_M_keep_68 ?_
        refine lv_iload_n hx hb d_M_keep_71 rfl (lv_at hl 1 rfl) ?_
        refine lv_aload_n hx hb d_M_keep_72 rfl (lv_at hl 0 rfl) ?_
        refine lv_iconst (v := 0) hx hb d_M_keep_73 (by decide) ?_
        refine lv_iload_n hx hb d_M_keep_74 rfl (lv_at hl 1 rfl) ?_
        have hP : va_P (dC, dI) vC (wM o cI F A) H := hP
        have hD : va_D (va_A (wM o cI Fa Aa) s.heap.size) (wM o cI F A) := hD
        obtain ⟨r4, F4, A4, hc, hf⟩ := ra_bi_some hf
        refine cc_calli (va_runV (As := [.int (0 : Int32), .int x1]) (rest := [.int x1, .ref (o 5)]) ⟨hx, hb, hml, hown, hts⟩ (k_M_number l dC dI o cI H.size F A (0 : Int32) x1 r4 F4 A4 hc) (cw_V 2 hts mw_648 mw_650 ms_M_number mw_5 mw_651 rfl rfl rfl hd_M_number ⟨Nat.le_of_ble_eq_true rfl, Nat.le_of_ble_eq_true rfl⟩) (cc_preV hK hP hD rfl (q0 := 0) rfl) rfl rfl hl.1 rfl (lv_room (Nat.le_of_ble_eq_true rfl)) d_M_keep_75 ⟨Nat.zero_le _, Nat.zero_le _⟩) hD hS hA (fun H locs hP hD hS => ?_)
        obtain ⟨hi, hf⟩ := ra_g_some hf
        refine va_iast hx hb hK hP hD hS 5 0 rfl rfl hi d_M_keep_78 (fun H locs hP hD hS => ?_)
        have hP : va_P (dC, dI) vC [((o 0), .inr (4, [.int (F4 0), .int (F4 1), .ref (o 1), .int (F4 2), .ref (o 2), .ref (o 3), .ref (o 4), .ref (o 5), .ref (o 6), .int (F4 3), .ref (o 7), .ref (o 8), .ref (o 9), .ref (o 10), .ref (o 11), .int (F4 4), .int (F4 5), .int (F4 6), .ref (o 12), .ref (o 13), .int (F4 7), .ref (o 14), .ref (o 15), .int (F4 8), .int (F4 9), .ref (o 16), .ref (o 17), .ref (o 18), .ref (o 19)])), ((o 1), .inl (cI, 160, .inl (A4 0))), ((o 2), .inl (cI, 100, .inl (A4 1))), ((o 3), .inl (cI, 100, .inl (A4 2))), ((o 4), .inl (cI, 100, .inl (A4 3))), ((o 5), .inl (cI, 3, .inl (upd (A4 4) x1.toNatClampNeg r4))), ((o 6), .inl (cI, 26, .inl (A4 5))), ((o 7), .inl (cI, 100, .inl (A4 6))), ((o 8), .inl (cI, 100, .inl (A4 7))), ((o 9), .inl (cI, 100, .inl (A4 8))), ((o 10), .inl (cI, 26, .inl (A4 9))), ((o 11), .inl (cI, 104, .inl (A4 10))), ((o 12), .inl (cI, 80, .inl (A4 11))), ((o 13), .inl (cI, 320, .inl (A4 12))), ((o 14), .inl (cI, 200, .inl (A4 13))), ((o 15), .inl (cI, 200, .inl (A4 14))), ((o 16), .inl (cI, 4, .inl (A4 15))), ((o 17), .inl (cI, 32, .inl (A4 16))), ((o 18), .inl (cI, 32, .inl (A4 17))), ((o 19), .inl (cI, 100, .inl (A4 18)))] H := hP
        have hD : va_D (va_A (wM o cI Fa Aa) s.heap.size) [((o 0), .inr (4, [.int (F4 0), .int (F4 1), .ref (o 1), .int (F4 2), .ref (o 2), .ref (o 3), .ref (o 4), .ref (o 5), .ref (o 6), .int (F4 3), .ref (o 7), .ref (o 8), .ref (o 9), .ref (o 10), .ref (o 11), .int (F4 4), .int (F4 5), .int (F4 6), .ref (o 12), .ref (o 13), .int (F4 7), .ref (o 14), .ref (o 15), .int (F4 8), .int (F4 9), .ref (o 16), .ref (o 17), .ref (o 18), .ref (o 19)])), ((o 1), .inl (cI, 160, .inl (A4 0))), ((o 2), .inl (cI, 100, .inl (A4 1))), ((o 3), .inl (cI, 100, .inl (A4 2))), ((o 4), .inl (cI, 100, .inl (A4 3))), ((o 5), .inl (cI, 3, .inl (upd (A4 4) x1.toNatClampNeg r4))), ((o 6), .inl (cI, 26, .inl (A4 5))), ((o 7), .inl (cI, 100, .inl (A4 6))), ((o 8), .inl (cI, 100, .inl (A4 7))), ((o 9), .inl (cI, 100, .inl (A4 8))), ((o 10), .inl (cI, 26, .inl (A4 9))), ((o 11), .inl (cI, 104, .inl (A4 10))), ((o 12), .inl (cI, 80, .inl (A4 11))), ((o 13), .inl (cI, 320, .inl (A4 12))), ((o 14), .inl (cI, 200, .inl (A4 13))), ((o 15), .inl (cI, 200, .inl (A4 14))), ((o 16), .inl (cI, 4, .inl (A4 15))), ((o 17), .inl (cI, 32, .inl (A4 16))), ((o 18), .inl (cI, 32, .inl (A4 17))), ((o 19), .inl (cI, 100, .inl (A4 18)))] := hD
        refine lv_iinc (k := 1) (v := (x1 + (1 : Int32))) hx hb d_M_keep_79 hl rfl (by rfl) (by decide) rfl (fun ls hl => ?_)
        have hl : lv_has ls 2 [(1, .int (x1 + (1 : Int32))), (0, .ref (o 0))] := hl
        refine lv_goto (tgt := 62) hx hb d_M_keep_82 (by decide) ?_
        have hl : lv_has ls 2 [(0, .ref (o 0)), (1, .int (x1 + (1 : Int32)))] := lv_sub hl [1, 0] rfl
        exact ih (x1 + (1 : Int32)) F4 (va_up A4 4 (upd (A4 4) x1.toNatClampNeg r4)) _ _ _ hl hP hD hS hf
  have L10 : ∀ (n : Nat) (x1 : Int32) (F : ST_F) (A : ST_A) (H : Heap) (locs : List Loc) (ls : Array Slot), lv_has ls 2 [(0, .ref (o 0)), (1, .int x1)] → va_P (dC, dI) vC (wM o cI F A) H → va_D (va_A (wM o cI Fa Aa) s.heap.size) (wM o cI F A) → va_S (va_A (wM o cI Fa Aa) s.heap.size) s.heap H locs → f_M_keep_L10 n x1 F A = some (F9, A9) → W p l e (headSpec (Cond.code y_M_keep b_M_keep 2 none :: wA) ({ frames := 1, cells := 0, slots := 0, locals := 22 } : Room)).room s m ([.ref (o 0)] : List Value).toArray below meth c H locs 0 0 (MQ below (cc_Qv (dC, dI) vC [(cI, .int)] (wM o cI Fa Aa) s.heap.size (wM o cI F9 A9)) ([.ref (o 0)] : List Value).toArray s 0 0 (va_A (wM o cI Fa Aa) s.heap.size)) (F0 m 10 ls []) := by
    intro n
    induction n with
    | zero => intro x1 F A H locs ls hl hP hD hS hf; cases hf
    | succ n ih =>
      intro x1 F A H locs ls hl hP hD hS hf
      rw [f_M_keep_L10] at hf
      refine lv_iload_n hx hb d_M_keep_10 rfl (lv_at hl 1 rfl) ?_
      refine lv_aload_n hx hb d_M_keep_11 rfl (lv_at hl 0 rfl) ?_
      refine va_get (D := (dC, dI)) (ci := 4) (v := .int (F 2)) (C := R_M) (T := T_M) (N := 29) hx hb hts in_M hown hK hP 0 rfl rfl 3 (by decide) (hts _ mw_506) (fun _ h9 => h9) rfl d_M_keep_12 ?_
      refine lv_icmp_ge (tgt := 60) hx hb d_M_keep_15 (by decide) (fun h15_1 => ?_) (fun h15_1 => ?_)
      · rw [if_pos h15_1] at hf
        refine lv_iconst (v := 0) hx hb d_M_keep_60 (by decide) ?_
        refine lv_istore_n hx hb d_M_keep_61 rfl hl (by decide) rfl (fun ls hl => ?_)
        have hl : lv_has ls 2 [(1, .int (0 : Int32)), (0, .ref (o 0))] := hl
        have hl : lv_has ls 2 [(0, .ref (o 0)), (1, .int (0 : Int32))] := lv_sub hl [1, 0] rfl
        exact L62 400 (0 : Int32) F A _ _ _ hl hP hD hS hf
      · rw [if_neg h15_1] at hf
        refine lv_aload_n hx hb d_M_keep_18 rfl (lv_at hl 0 rfl) ?_
        refine va_get (D := (dC, dI)) (ci := 4) (v := .ref (o 2)) (C := R_M) (T := T_M) (N := 29) hx hb hts in_M hown hK hP 0 rfl rfl 4 (by decide) (hts _ mw_507) (fun _ h9 => h9) rfl d_M_keep_19 ?_
        refine lv_iload_n hx hb d_M_keep_22 rfl (lv_at hl 1 rfl) ?_
        refine lv_aload_n hx hb d_M_keep_23 rfl (lv_at hl 0 rfl) ?_
        refine va_get (D := (dC, dI)) (ci := 4) (v := .ref (o 7)) (C := R_M) (T := T_M) (N := 29) hx hb hts in_M hown hK hP 0 rfl rfl 10 (by decide) (hts _ mw_513) (fun _ h9 => h9) rfl d_M_keep_24 ?_
        refine lv_iload_n hx hb d_M_keep_27 rfl (lv_at hl 1 rfl) ?_
        obtain ⟨hi, hf⟩ := ra_g_some hf
        refine va_iald hx hb hK hP 7 0 rfl rfl hi d_M_keep_28 ?_
        obtain ⟨hi, hf⟩ := ra_g_some hf
        refine va_iast hx hb hK hP hD hS 2 0 rfl rfl hi d_M_keep_29 (fun H locs hP hD hS => ?_)
        have hP : va_P (dC, dI) vC [((o 0), .inr (4, [.int (F 0), .int (F 1), .ref (o 1), .int (F 2), .ref (o 2), .ref (o 3), .ref (o 4), .ref (o 5), .ref (o 6), .int (F 3), .ref (o 7), .ref (o 8), .ref (o 9), .ref (o 10), .ref (o 11), .int (F 4), .int (F 5), .int (F 6), .ref (o 12), .ref (o 13), .int (F 7), .ref (o 14), .ref (o 15), .int (F 8), .int (F 9), .ref (o 16), .ref (o 17), .ref (o 18), .ref (o 19)])), ((o 1), .inl (cI, 160, .inl (A 0))), ((o 2), .inl (cI, 100, .inl (upd (A 1) x1.toNatClampNeg ((A 6) x1.toNatClampNeg)))), ((o 3), .inl (cI, 100, .inl (A 2))), ((o 4), .inl (cI, 100, .inl (A 3))), ((o 5), .inl (cI, 3, .inl (A 4))), ((o 6), .inl (cI, 26, .inl (A 5))), ((o 7), .inl (cI, 100, .inl (A 6))), ((o 8), .inl (cI, 100, .inl (A 7))), ((o 9), .inl (cI, 100, .inl (A 8))), ((o 10), .inl (cI, 26, .inl (A 9))), ((o 11), .inl (cI, 104, .inl (A 10))), ((o 12), .inl (cI, 80, .inl (A 11))), ((o 13), .inl (cI, 320, .inl (A 12))), ((o 14), .inl (cI, 200, .inl (A 13))), ((o 15), .inl (cI, 200, .inl (A 14))), ((o 16), .inl (cI, 4, .inl (A 15))), ((o 17), .inl (cI, 32, .inl (A 16))), ((o 18), .inl (cI, 32, .inl (A 17))), ((o 19), .inl (cI, 100, .inl (A 18)))] H := hP
        have hD : va_D (va_A (wM o cI Fa Aa) s.heap.size) [((o 0), .inr (4, [.int (F 0), .int (F 1), .ref (o 1), .int (F 2), .ref (o 2), .ref (o 3), .ref (o 4), .ref (o 5), .ref (o 6), .int (F 3), .ref (o 7), .ref (o 8), .ref (o 9), .ref (o 10), .ref (o 11), .int (F 4), .int (F 5), .int (F 6), .ref (o 12), .ref (o 13), .int (F 7), .ref (o 14), .ref (o 15), .int (F 8), .int (F 9), .ref (o 16), .ref (o 17), .ref (o 18), .ref (o 19)])), ((o 1), .inl (cI, 160, .inl (A 0))), ((o 2), .inl (cI, 100, .inl (upd (A 1) x1.toNatClampNeg ((A 6) x1.toNatClampNeg)))), ((o 3), .inl (cI, 100, .inl (A 2))), ((o 4), .inl (cI, 100, .inl (A 3))), ((o 5), .inl (cI, 3, .inl (A 4))), ((o 6), .inl (cI, 26, .inl (A 5))), ((o 7), .inl (cI, 100, .inl (A 6))), ((o 8), .inl (cI, 100, .inl (A 7))), ((o 9), .inl (cI, 100, .inl (A 8))), ((o 10), .inl (cI, 26, .inl (A 9))), ((o 11), .inl (cI, 104, .inl (A 10))), ((o 12), .inl (cI, 80, .inl (A 11))), ((o 13), .inl (cI, 320, .inl (A 12))), ((o 14), .inl (cI, 200, .inl (A 13))), ((o 15), .inl (cI, 200, .inl (A 14))), ((o 16), .inl (cI, 4, .inl (A 15))), ((o 17), .inl (cI, 32, .inl (A 16))), ((o 18), .inl (cI, 32, .inl (A 17))), ((o 19), .inl (cI, 100, .inl (A 18)))] := hD
        refine lv_aload_n hx hb d_M_keep_30 rfl (lv_at hl 0 rfl) ?_
        refine va_get (D := (dC, dI)) (ci := 4) (v := .ref (o 3)) (C := R_M) (T := T_M) (N := 29) hx hb hts in_M hown hK hP 0 rfl rfl 5 (by decide) (hts _ mw_508) (fun _ h9 => h9) rfl d_M_keep_31 ?_
        refine lv_iload_n hx hb d_M_keep_34 rfl (lv_at hl 1 rfl) ?_
        refine lv_aload_n hx hb d_M_keep_35 rfl (lv_at hl 0 rfl) ?_
        refine va_get (D := (dC, dI)) (ci := 4) (v := .ref (o 8)) (C := R_M) (T := T_M) (N := 29) hx hb hts in_M hown hK hP 0 rfl rfl 11 (by decide) (hts _ mw_514) (fun _ h9 => h9) rfl d_M_keep_36 ?_
        refine lv_iload_n hx hb d_M_keep_39 rfl (lv_at hl 1 rfl) ?_
        obtain ⟨hi, hf⟩ := ra_g_some hf
        refine va_iald hx hb hK hP 8 0 rfl rfl hi d_M_keep_40 ?_
        obtain ⟨hi, hf⟩ := ra_g_some hf
        refine va_iast hx hb hK hP hD hS 3 0 rfl rfl hi d_M_keep_41 (fun H locs hP hD hS => ?_)
        have hP : va_P (dC, dI) vC [((o 0), .inr (4, [.int (F 0), .int (F 1), .ref (o 1), .int (F 2), .ref (o 2), .ref (o 3), .ref (o 4), .ref (o 5), .ref (o 6), .int (F 3), .ref (o 7), .ref (o 8), .ref (o 9), .ref (o 10), .ref (o 11), .int (F 4), .int (F 5), .int (F 6), .ref (o 12), .ref (o 13), .int (F 7), .ref (o 14), .ref (o 15), .int (F 8), .int (F 9), .ref (o 16), .ref (o 17), .ref (o 18), .ref (o 19)])), ((o 1), .inl (cI, 160, .inl (A 0))), ((o 2), .inl (cI, 100, .inl (upd (A 1) x1.toNatClampNeg ((A 6) x1.toNatClampNeg)))), ((o 3), .inl (cI, 100, .inl (upd (A 2) x1.toNatClampNeg ((A 7) x1.toNatClampNeg)))), ((o 4), .inl (cI, 100, .inl (A 3))), ((o 5), .inl (cI, 3, .inl (A 4))), ((o 6), .inl (cI, 26, .inl (A 5))), ((o 7), .inl (cI, 100, .inl (A 6))), ((o 8), .inl (cI, 100, .inl (A 7))), ((o 9), .inl (cI, 100, .inl (A 8))), ((o 10), .inl (cI, 26, .inl (A 9))), ((o 11), .inl (cI, 104, .inl (A 10))), ((o 12), .inl (cI, 80, .inl (A 11))), ((o 13), .inl (cI, 320, .inl (A 12))), ((o 14), .inl (cI, 200, .inl (A 13))), ((o 15), .inl (cI, 200, .inl (A 14))), ((o 16), .inl (cI, 4, .inl (A 15))), ((o 17), .inl (cI, 32, .inl (A 16))), ((o 18), .inl (cI, 32, .inl (A 17))), ((o 19), .inl (cI, 100, .inl (A 18)))] H := hP
        have hD : va_D (va_A (wM o cI Fa Aa) s.heap.size) [((o 0), .inr (4, [.int (F 0), .int (F 1), .ref (o 1), .int (F 2), .ref (o 2), .ref (o 3), .ref (o 4), .ref (o 5), .ref (o 6), .int (F 3), .ref (o 7), .ref (o 8), .ref (o 9), .ref (o 10), .ref (o 11), .int (F 4), .int (F 5), .int (F 6), .ref (o 12), .ref (o 13), .int (F 7), .ref (o 14), .ref (o 15), .int (F 8), .int (F 9), .ref (o 16), .ref (o 17), .ref (o 18), .ref (o 19)])), ((o 1), .inl (cI, 160, .inl (A 0))), ((o 2), .inl (cI, 100, .inl (upd (A 1) x1.toNatClampNeg ((A 6) x1.toNatClampNeg)))), ((o 3), .inl (cI, 100, .inl (upd (A 2) x1.toNatClampNeg ((A 7) x1.toNatClampNeg)))), ((o 4), .inl (cI, 100, .inl (A 3))), ((o 5), .inl (cI, 3, .inl (A 4))), ((o 6), .inl (cI, 26, .inl (A 5))), ((o 7), .inl (cI, 100, .inl (A 6))), ((o 8), .inl (cI, 100, .inl (A 7))), ((o 9), .inl (cI, 100, .inl (A 8))), ((o 10), .inl (cI, 26, .inl (A 9))), ((o 11), .inl (cI, 104, .inl (A 10))), ((o 12), .inl (cI, 80, .inl (A 11))), ((o 13), .inl (cI, 320, .inl (A 12))), ((o 14), .inl (cI, 200, .inl (A 13))), ((o 15), .inl (cI, 200, .inl (A 14))), ((o 16), .inl (cI, 4, .inl (A 15))), ((o 17), .inl (cI, 32, .inl (A 16))), ((o 18), .inl (cI, 32, .inl (A 17))), ((o 19), .inl (cI, 100, .inl (A 18)))] := hD
        refine lv_aload_n hx hb d_M_keep_42 rfl (lv_at hl 0 rfl) ?_
        refine va_get (D := (dC, dI)) (ci := 4) (v := .ref (o 4)) (C := R_M) (T := T_M) (N := 29) hx hb hts in_M hown hK hP 0 rfl rfl 6 (by decide) (hts _ mw_509) (fun _ h9 => h9) rfl d_M_keep_43 ?_
        refine lv_iload_n hx hb d_M_keep_46 rfl (lv_at hl 1 rfl) ?_
        refine lv_aload_n hx hb d_M_keep_47 rfl (lv_at hl 0 rfl) ?_
        refine va_get (D := (dC, dI)) (ci := 4) (v := .ref (o 9)) (C := R_M) (T := T_M) (N := 29) hx hb hts in_M hown hK hP 0 rfl rfl 12 (by decide) (hts _ mw_515) (fun _ h9 => h9) rfl d_M_keep_48 ?_
        refine lv_iload_n hx hb d_M_keep_51 rfl (lv_at hl 1 rfl) ?_
        obtain ⟨hi, hf⟩ := ra_g_some hf
        refine va_iald hx hb hK hP 9 0 rfl rfl hi d_M_keep_52 ?_
        obtain ⟨hi, hf⟩ := ra_g_some hf
        refine va_iast hx hb hK hP hD hS 4 0 rfl rfl hi d_M_keep_53 (fun H locs hP hD hS => ?_)
        have hP : va_P (dC, dI) vC [((o 0), .inr (4, [.int (F 0), .int (F 1), .ref (o 1), .int (F 2), .ref (o 2), .ref (o 3), .ref (o 4), .ref (o 5), .ref (o 6), .int (F 3), .ref (o 7), .ref (o 8), .ref (o 9), .ref (o 10), .ref (o 11), .int (F 4), .int (F 5), .int (F 6), .ref (o 12), .ref (o 13), .int (F 7), .ref (o 14), .ref (o 15), .int (F 8), .int (F 9), .ref (o 16), .ref (o 17), .ref (o 18), .ref (o 19)])), ((o 1), .inl (cI, 160, .inl (A 0))), ((o 2), .inl (cI, 100, .inl (upd (A 1) x1.toNatClampNeg ((A 6) x1.toNatClampNeg)))), ((o 3), .inl (cI, 100, .inl (upd (A 2) x1.toNatClampNeg ((A 7) x1.toNatClampNeg)))), ((o 4), .inl (cI, 100, .inl (upd (A 3) x1.toNatClampNeg ((A 8) x1.toNatClampNeg)))), ((o 5), .inl (cI, 3, .inl (A 4))), ((o 6), .inl (cI, 26, .inl (A 5))), ((o 7), .inl (cI, 100, .inl (A 6))), ((o 8), .inl (cI, 100, .inl (A 7))), ((o 9), .inl (cI, 100, .inl (A 8))), ((o 10), .inl (cI, 26, .inl (A 9))), ((o 11), .inl (cI, 104, .inl (A 10))), ((o 12), .inl (cI, 80, .inl (A 11))), ((o 13), .inl (cI, 320, .inl (A 12))), ((o 14), .inl (cI, 200, .inl (A 13))), ((o 15), .inl (cI, 200, .inl (A 14))), ((o 16), .inl (cI, 4, .inl (A 15))), ((o 17), .inl (cI, 32, .inl (A 16))), ((o 18), .inl (cI, 32, .inl (A 17))), ((o 19), .inl (cI, 100, .inl (A 18)))] H := hP
        have hD : va_D (va_A (wM o cI Fa Aa) s.heap.size) [((o 0), .inr (4, [.int (F 0), .int (F 1), .ref (o 1), .int (F 2), .ref (o 2), .ref (o 3), .ref (o 4), .ref (o 5), .ref (o 6), .int (F 3), .ref (o 7), .ref (o 8), .ref (o 9), .ref (o 10), .ref (o 11), .int (F 4), .int (F 5), .int (F 6), .ref (o 12), .ref (o 13), .int (F 7), .ref (o 14), .ref (o 15), .int (F 8), .int (F 9), .ref (o 16), .ref (o 17), .ref (o 18), .ref (o 19)])), ((o 1), .inl (cI, 160, .inl (A 0))), ((o 2), .inl (cI, 100, .inl (upd (A 1) x1.toNatClampNeg ((A 6) x1.toNatClampNeg)))), ((o 3), .inl (cI, 100, .inl (upd (A 2) x1.toNatClampNeg ((A 7) x1.toNatClampNeg)))), ((o 4), .inl (cI, 100, .inl (upd (A 3) x1.toNatClampNeg ((A 8) x1.toNatClampNeg)))), ((o 5), .inl (cI, 3, .inl (A 4))), ((o 6), .inl (cI, 26, .inl (A 5))), ((o 7), .inl (cI, 100, .inl (A 6))), ((o 8), .inl (cI, 100, .inl (A 7))), ((o 9), .inl (cI, 100, .inl (A 8))), ((o 10), .inl (cI, 26, .inl (A 9))), ((o 11), .inl (cI, 104, .inl (A 10))), ((o 12), .inl (cI, 80, .inl (A 11))), ((o 13), .inl (cI, 320, .inl (A 12))), ((o 14), .inl (cI, 200, .inl (A 13))), ((o 15), .inl (cI, 200, .inl (A 14))), ((o 16), .inl (cI, 4, .inl (A 15))), ((o 17), .inl (cI, 32, .inl (A 16))), ((o 18), .inl (cI, 32, .inl (A 17))), ((o 19), .inl (cI, 100, .inl (A 18)))] := hD
        refine lv_iinc (k := 1) (v := (x1 + (1 : Int32))) hx hb d_M_keep_54 hl rfl (by rfl) (by decide) rfl (fun ls hl => ?_)
        have hl : lv_has ls 2 [(1, .int (x1 + (1 : Int32))), (0, .ref (o 0))] := hl
        refine lv_goto (tgt := 10) hx hb d_M_keep_57 (by decide) ?_
        have hl : lv_has ls 2 [(0, .ref (o 0)), (1, .int (x1 + (1 : Int32)))] := lv_sub hl [1, 0] rfl
        exact ih (x1 + (1 : Int32)) F (va_up (va_up (va_up A 1 (upd (A 1) x1.toNatClampNeg ((A 6) x1.toNatClampNeg))) 2 (upd (A 2) x1.toNatClampNeg ((A 7) x1.toNatClampNeg))) 3 (upd (A 3) x1.toNatClampNeg ((A 8) x1.toNatClampNeg))) _ _ _ hl hP hD hS hf
  rw [lg_entry_eq]
  generalize (lg_sl (([.ref (o 0)] : List Value)) ++ List.replicate (2 - (lg_sl (([.ref (o 0)] : List Value))).length) Slot.unset).toArray = ls at hl ⊢
  have hl : lv_has ls 2 [(0, .ref (o 0))] := hl
  unfold f_M_keep at hf
  refine lv_aload_n hx hb d_M_keep_0 rfl (lv_at hl 0 rfl) ?_
  refine lv_aload_n hx hb d_M_keep_1 rfl (lv_at hl 0 rfl) ?_
  refine va_get (D := (dC, dI)) (ci := 4) (v := .int (Fa 3)) (C := R_M) (T := T_M) (N := 29) hx hb hts in_M hown hK hP 0 rfl rfl 9 (by decide) (hts _ mw_512) (fun _ h9 => h9) rfl d_M_keep_2 ?_
  refine va_put (D := (dC, dI)) (ci := 4) (v := .int (Fa 3)) (ty := .int) (C := R_M) (T := T_M) (N := 29) hx hb hts in_M ty_M ty_M_ok nm_M hown hK hP hD hS 0 rfl rfl 3 (by decide) (hts _ mw_506) (fun _ h9 => h9) rfl (by decide +kernel) rfl rfl (Nat.le_of_ble_eq_true rfl) d_M_keep_5 (fun H locs hP hD hS => ?_)
  have hP : va_P (dC, dI) vC [((o 0), .inr (4, [.int (Fa 0), .int (Fa 1), .ref (o 1), .int (Fa 3), .ref (o 2), .ref (o 3), .ref (o 4), .ref (o 5), .ref (o 6), .int (Fa 3), .ref (o 7), .ref (o 8), .ref (o 9), .ref (o 10), .ref (o 11), .int (Fa 4), .int (Fa 5), .int (Fa 6), .ref (o 12), .ref (o 13), .int (Fa 7), .ref (o 14), .ref (o 15), .int (Fa 8), .int (Fa 9), .ref (o 16), .ref (o 17), .ref (o 18), .ref (o 19)])), ((o 1), .inl (cI, 160, .inl (Aa 0))), ((o 2), .inl (cI, 100, .inl (Aa 1))), ((o 3), .inl (cI, 100, .inl (Aa 2))), ((o 4), .inl (cI, 100, .inl (Aa 3))), ((o 5), .inl (cI, 3, .inl (Aa 4))), ((o 6), .inl (cI, 26, .inl (Aa 5))), ((o 7), .inl (cI, 100, .inl (Aa 6))), ((o 8), .inl (cI, 100, .inl (Aa 7))), ((o 9), .inl (cI, 100, .inl (Aa 8))), ((o 10), .inl (cI, 26, .inl (Aa 9))), ((o 11), .inl (cI, 104, .inl (Aa 10))), ((o 12), .inl (cI, 80, .inl (Aa 11))), ((o 13), .inl (cI, 320, .inl (Aa 12))), ((o 14), .inl (cI, 200, .inl (Aa 13))), ((o 15), .inl (cI, 200, .inl (Aa 14))), ((o 16), .inl (cI, 4, .inl (Aa 15))), ((o 17), .inl (cI, 32, .inl (Aa 16))), ((o 18), .inl (cI, 32, .inl (Aa 17))), ((o 19), .inl (cI, 100, .inl (Aa 18)))] H := hP
  have hD : va_D (va_A (wM o cI Fa Aa) s.heap.size) [((o 0), .inr (4, [.int (Fa 0), .int (Fa 1), .ref (o 1), .int (Fa 3), .ref (o 2), .ref (o 3), .ref (o 4), .ref (o 5), .ref (o 6), .int (Fa 3), .ref (o 7), .ref (o 8), .ref (o 9), .ref (o 10), .ref (o 11), .int (Fa 4), .int (Fa 5), .int (Fa 6), .ref (o 12), .ref (o 13), .int (Fa 7), .ref (o 14), .ref (o 15), .int (Fa 8), .int (Fa 9), .ref (o 16), .ref (o 17), .ref (o 18), .ref (o 19)])), ((o 1), .inl (cI, 160, .inl (Aa 0))), ((o 2), .inl (cI, 100, .inl (Aa 1))), ((o 3), .inl (cI, 100, .inl (Aa 2))), ((o 4), .inl (cI, 100, .inl (Aa 3))), ((o 5), .inl (cI, 3, .inl (Aa 4))), ((o 6), .inl (cI, 26, .inl (Aa 5))), ((o 7), .inl (cI, 100, .inl (Aa 6))), ((o 8), .inl (cI, 100, .inl (Aa 7))), ((o 9), .inl (cI, 100, .inl (Aa 8))), ((o 10), .inl (cI, 26, .inl (Aa 9))), ((o 11), .inl (cI, 104, .inl (Aa 10))), ((o 12), .inl (cI, 80, .inl (Aa 11))), ((o 13), .inl (cI, 320, .inl (Aa 12))), ((o 14), .inl (cI, 200, .inl (Aa 13))), ((o 15), .inl (cI, 200, .inl (Aa 14))), ((o 16), .inl (cI, 4, .inl (Aa 15))), ((o 17), .inl (cI, 32, .inl (Aa 16))), ((o 18), .inl (cI, 32, .inl (Aa 17))), ((o 19), .inl (cI, 100, .inl (Aa 18)))] := hD
  refine lv_iconst (v := 0) hx hb d_M_keep_8 (by decide) ?_
  refine lv_istore_n hx hb d_M_keep_9 rfl hl (by decide) rfl (fun ls hl => ?_)
  have hl : lv_has ls 2 [(1, .int (0 : Int32)), (0, .ref (o 0))] := hl
  have hl : lv_has ls 2 [(0, .ref (o 0)), (1, .int (0 : Int32))] := lv_sub hl [1, 0] rfl
  exact L10 400 (0 : Int32) (upd Fa 2 (Fa 3)) Aa _ _ _ hl hP hD hS hf
def f_M_compile_J152 (fu : Nat) (x1 : Int32) (z0 : Int32) (F : ST_F) (A : ST_A) : Option (Int32 × ST_F × ST_A) := ra_zb z0 (if z0 = 0 then (ra_bv (f_M_keep  (upd F 5 z0) A) (fun F8 A8 => if (F8 5) = 0 then (some ((1 : Int32), F8, A8)) else (some ((0 : Int32), F8, A8)))) else (if z0 = 0 then (some ((1 : Int32), (upd F 5 z0), A)) else (some ((0 : Int32), (upd F 5 z0), A))))
def f_M_compile_J147 (fu : Nat) (x1 : Int32) (F : ST_F) (A : ST_A) : Option (Int32 × ST_F × ST_A) := f_M_compile_J152 fu x1 (1 : Int32) F A
def f_M_compile_J115 (fu : Nat) (x1 : Int32) (F : ST_F) (A : ST_A) : Option (Int32 × ST_F × ST_A) := if (F 5) = 0 then (if 0 < (F 7) then (f_M_compile_J147 fu x1 F A) else (if 0 ≤ (F 9) then (f_M_compile_J147 fu x1 F A) else (ra_g (0 : Int32) 80 (if ((A 11) (0 : Int32).toNatClampNeg) = (3 : Int32) then (f_M_compile_J152 fu x1 (0 : Int32) F A) else (f_M_compile_J147 fu x1 F A))))) else (f_M_compile_J147 fu x1 F A)
def f_M_compile_J103 (fu : Nat) (x1 : Int32) (F : ST_F) (A : ST_A) : Option (Int32 × ST_F × ST_A) := if (F 5) = 0 then (ra_bv (f_M_settle (1 : Int32) F A) (fun F13 A13 => f_M_compile_J115 fu x1 F13 A13)) else (f_M_compile_J115 fu x1 F A)
def f_M_compile_L62 (fu : Nat) : Nat → Int32 → ST_F → ST_A → Option (Int32 × ST_F × ST_A)
  | 0, _, _, _ => none
  | n + 1, x1, F, A => if (F 5) = 0 then (if x1 = 0 then (if x1 = 0 then (ra_bi (f_M_operand  F A) (fun r16 F16 A16 => f_M_compile_L62 fu n r16 F16 A16)) else (ra_bi (f_M_operator  F A) (fun r17 F17 A17 => f_M_compile_L62 fu n r17 F17 A17))) else (if (F 1) ≤ (F 4) then (f_M_compile_J103 fu x1 F A) else (if x1 = 0 then (ra_bi (f_M_operand  F A) (fun r20 F20 A20 => f_M_compile_L62 fu n r20 F20 A20)) else (ra_bi (f_M_operator  F A) (fun r21 F21 A21 => f_M_compile_L62 fu n r21 F21 A21))))) else (f_M_compile_J103 fu x1 F A)
def f_M_compile_L37 (fu : Nat) : Nat → Int32 → ST_F → ST_A → Option (Int32 × ST_F × ST_A)
  | 0, _, _, _ => none
  | n + 1, x1, F, A => if (26 : Int32) ≤ x1 then (ra_bv (f_M_begin  F A) (fun F2 A2 => f_M_compile_L62 fu fu (0 : Int32) F2 A2)) else (ra_g x1 26 (f_M_compile_L37 fu n (x1 + (1 : Int32)) F (va_up A 9 (upd (A 9) x1.toNatClampNeg (0 : Int32)))))
def f_M_compile (fu : Nat)  (Fa : ST_F) (Aa : ST_A) : Option (Int32 × ST_F × ST_A) := f_M_compile_L37 fu 400 (0 : Int32) (upd (upd (upd (upd (upd (upd (upd Fa 0 (0 : Int32)) 4 (0 : Int32)) 5 (0 : Int32)) 6 (0 : Int32)) 7 (0 : Int32)) 8 (0 : Int32)) 3 (0 : Int32)) Aa
set_option maxHeartbeats 4000000 in
set_option maxRecDepth 100000 in
theorem k_M_compile (l : Launch) (dC : Nat → ClassId) (dI : Nat → Nat → Nat) (o : Nat → Nat) (cI : ClassId) (fu : Nat) (sz : Nat) (Fa : ST_F) (Aa : ST_A)  (r0 : Int32) (F9 : ST_F) (A9 : ST_A) (hf : f_M_compile fu  Fa Aa = some (r0, F9, A9)) : cc_MetI l y_M_compile (Cond.code y_M_compile b_M_compile 2 (some .boolean) :: wA) ({ frames := 7, cells := 0, slots := 0, locals := 158 } : Room) (dC, dI) vC [(cI, .int)] ([.ref (o 0)] : List Value) (wM o cI Fa Aa) sz (wM o cI F9 A9) r0 := by
  refine Met.ofW (cc := b_M_compile) (maxL := 2) (ret := (some .boolean)) (by decide) rfl ?_
  intro p e s m args below meth c s₁ B hml hv
  obtain ⟨rfl, hsz, hP, hK, hD0⟩ := hv
  have hx := B.exec
  have hb := B.bytes
  have hr := B.returns
  have hts := fun w h => atoms_spec (ws := (Cond.code y_M_compile b_M_compile 2 (some .boolean) :: wA)) B.pre w (List.mem_cons_of_mem _ h)
  have hown : s.vm.findClass R_M = some m.cls := findClass_of_methodNamed B.named
  have hlocks := B.notSynchronized
  subst hsz
  have hD := hD0.self (sz := s.heap.size)
  have hA : ∀ q : Nat, s.heap.size ≤ q → va_A (wM o cI Fa Aa) s.heap.size q := fun q h => Or.inr h
  have hS : va_S (va_A (wM o cI Fa Aa) s.heap.size) s.heap s.heap [] := va_S.rf
  have hl := lv_entry (([.ref (o 0)] : List Value)) (n := 2) (Nat.le_of_ble_eq_true rfl)
  have J152 : ∀ (x1 : Int32) (z0 : Int32) (F : ST_F) (A : ST_A) (H : Heap) (locs : List Loc) (ls : Array Slot), lv_has ls 2 [(0, .ref (o 0)), (1, .int x1)] → va_P (dC, dI) vC (wM o cI F A) H → va_D (va_A (wM o cI Fa Aa) s.heap.size) (wM o cI F A) → va_S (va_A (wM o cI Fa Aa) s.heap.size) s.heap H locs → f_M_compile_J152 fu x1 z0 F A = some (r0, F9, A9) → W p l e (headSpec (Cond.code y_M_compile b_M_compile 2 (some .boolean) :: wA) ({ frames := 7, cells := 0, slots := 0, locals := 158 } : Room)).room s m ([.ref (o 0)] : List Value).toArray below meth c H locs 0 0 (MQ below (cc_Qi (dC, dI) vC [(cI, .int)] (wM o cI Fa Aa) s.heap.size (wM o cI F9 A9) r0) ([.ref (o 0)] : List Value).toArray s 0 0 (va_A (wM o cI Fa Aa) s.heap.size)) (F0 m 152 ls [.int z0, .ref (o 0)]) := by
    intro x1 z0 F A H locs ls hl hP hD hS hf
    unfold f_M_compile_J152 at hf
    obtain ⟨hn, hfit, hf⟩ := ra_zb_some hf
    refine va_put (D := (dC, dI)) (ci := 4) (v := .int z0) (ty := .boolean) (C := R_M) (T := T_M) (N := 29) hx hb hts in_M ty_M ty_M_ok nm_M hown hK hP hD hS 0 rfl rfl 16 (by decide) (hts _ mw_519) (fun _ h9 => h9) rfl (by decide +kernel) hn hfit (Nat.le_of_ble_eq_true rfl) d_M_compile_152 (fun H locs hP hD hS => ?_)
    have hP : va_P (dC, dI) vC [((o 0), .inr (4, [.int (F 0), .int (F 1), .ref (o 1), .int (F 2), .ref (o 2), .ref (o 3), .ref (o 4), .ref (o 5), .ref (o 6), .int (F 3), .ref (o 7), .ref (o 8), .ref (o 9), .ref (o 10), .ref (o 11), .int (F 4), .int z0, .int (F 6), .ref (o 12), .ref (o 13), .int (F 7), .ref (o 14), .ref (o 15), .int (F 8), .int (F 9), .ref (o 16), .ref (o 17), .ref (o 18), .ref (o 19)])), ((o 1), .inl (cI, 160, .inl (A 0))), ((o 2), .inl (cI, 100, .inl (A 1))), ((o 3), .inl (cI, 100, .inl (A 2))), ((o 4), .inl (cI, 100, .inl (A 3))), ((o 5), .inl (cI, 3, .inl (A 4))), ((o 6), .inl (cI, 26, .inl (A 5))), ((o 7), .inl (cI, 100, .inl (A 6))), ((o 8), .inl (cI, 100, .inl (A 7))), ((o 9), .inl (cI, 100, .inl (A 8))), ((o 10), .inl (cI, 26, .inl (A 9))), ((o 11), .inl (cI, 104, .inl (A 10))), ((o 12), .inl (cI, 80, .inl (A 11))), ((o 13), .inl (cI, 320, .inl (A 12))), ((o 14), .inl (cI, 200, .inl (A 13))), ((o 15), .inl (cI, 200, .inl (A 14))), ((o 16), .inl (cI, 4, .inl (A 15))), ((o 17), .inl (cI, 32, .inl (A 16))), ((o 18), .inl (cI, 32, .inl (A 17))), ((o 19), .inl (cI, 100, .inl (A 18)))] H := hP
    have hD : va_D (va_A (wM o cI Fa Aa) s.heap.size) [((o 0), .inr (4, [.int (F 0), .int (F 1), .ref (o 1), .int (F 2), .ref (o 2), .ref (o 3), .ref (o 4), .ref (o 5), .ref (o 6), .int (F 3), .ref (o 7), .ref (o 8), .ref (o 9), .ref (o 10), .ref (o 11), .int (F 4), .int z0, .int (F 6), .ref (o 12), .ref (o 13), .int (F 7), .ref (o 14), .ref (o 15), .int (F 8), .int (F 9), .ref (o 16), .ref (o 17), .ref (o 18), .ref (o 19)])), ((o 1), .inl (cI, 160, .inl (A 0))), ((o 2), .inl (cI, 100, .inl (A 1))), ((o 3), .inl (cI, 100, .inl (A 2))), ((o 4), .inl (cI, 100, .inl (A 3))), ((o 5), .inl (cI, 3, .inl (A 4))), ((o 6), .inl (cI, 26, .inl (A 5))), ((o 7), .inl (cI, 100, .inl (A 6))), ((o 8), .inl (cI, 100, .inl (A 7))), ((o 9), .inl (cI, 100, .inl (A 8))), ((o 10), .inl (cI, 26, .inl (A 9))), ((o 11), .inl (cI, 104, .inl (A 10))), ((o 12), .inl (cI, 80, .inl (A 11))), ((o 13), .inl (cI, 320, .inl (A 12))), ((o 14), .inl (cI, 200, .inl (A 13))), ((o 15), .inl (cI, 200, .inl (A 14))), ((o 16), .inl (cI, 4, .inl (A 15))), ((o 17), .inl (cI, 32, .inl (A 16))), ((o 18), .inl (cI, 32, .inl (A 17))), ((o 19), .inl (cI, 100, .inl (A 18)))] := hD
    refine lv_aload_n hx hb d_M_compile_155 rfl (lv_at hl 0 rfl) ?_
    refine va_get (D := (dC, dI)) (ci := 4) (v := .int z0) (C := R_M) (T := T_M) (N := 29) hx hb hts in_M hown hK hP 0 rfl rfl 16 (by decide) (hts _ mw_519) (fun _ h9 => h9) rfl d_M_compile_156 ?_
    refine lv_if_ne (tgt := 166) hx hb d_M_compile_159 (by decide) (fun h159_6 => ?_) (fun h159_6 => ?_)
    · rw [if_neg h159_6] at hf
      refine lv_aload_n hx hb d_M_compile_166 rfl (lv_at hl 0 rfl) ?_
      refine va_get (D := (dC, dI)) (ci := 4) (v := .int z0) (C := R_M) (T := T_M) (N := 29) hx hb hts in_M hown hK hP 0 rfl rfl 16 (by decide) (hts _ mw_519) (fun _ h9 => h9) rfl d_M_compile_167 ?_
      refine lv_if_ne (tgt := 177) hx hb d_M_compile_170 (by decide) (fun h170_7 => ?_) (fun h170_7 => ?_)
      · rw [if_neg h170_7] at hf
        refine lv_iconst (v := 0) hx hb d_M_compile_177 (by decide) ?_
        cases hf
        exact W.zret hx hb hr (by rfl) (fun t ht hW => ⟨⟨_, (), rfl, rfl, by rw [ht]; exact hP, va_K.moved hW.alike hK, hD⟩, hS.F ht⟩) hS.2.2 d_M_compile_178
      · rw [if_pos h170_7] at hf
        refine lv_iconst (v := 1) hx hb d_M_compile_173 (by decide) ?_
        refine lv_goto (tgt := 178) hx hb d_M_compile_174 (by decide) ?_
        cases hf
        exact W.zret hx hb hr (by rfl) (fun t ht hW => ⟨⟨_, (), rfl, rfl, by rw [ht]; exact hP, va_K.moved hW.alike hK, hD⟩, hS.F ht⟩) hS.2.2 d_M_compile_178
    · rw [if_pos h159_6] at hf
      refine lv_aload_n hx hb d_M_compile_162 rfl (lv_at hl 0 rfl) ?_
      have hP : va_P (dC, dI) vC (wM o cI (upd F 5 z0) A) H := hP
      have hD : va_D (va_A (wM o cI Fa Aa) s.heap.size) (wM o cI (upd F 5 z0) A) := hD
      obtain ⟨F8, A8, hc, hf⟩ := ra_bv_some hf
      refine cc_callv (va_runV (As := []) (rest := []) ⟨hx, hb, hml, hown, hts⟩ (k_M_keep l dC dI o cI H.size (upd F 5 z0) A  F8 A8 hc) (cw_V 0 hts mw_724 mw_726 ms_M_keep mw_5 mw_727 rfl rfl rfl hd_M_keep ⟨Nat.le_of_ble_eq_true rfl, Nat.le_of_ble_eq_true rfl⟩) (cc_preV hK hP hD rfl (q0 := 0) rfl) rfl rfl hl.1 rfl (lv_room (Nat.le_of_ble_eq_true rfl)) d_M_compile_163 ⟨Nat.zero_le _, Nat.zero_le _⟩) hD hS hA (fun H locs hP hD hS => ?_)
      refine lv_aload_n hx hb d_M_compile_166 rfl (lv_at hl 0 rfl) ?_
      refine va_get (D := (dC, dI)) (ci := 4) (v := .int (F8 5)) (C := R_M) (T := T_M) (N := 29) hx hb hts in_M hown hK hP 0 rfl rfl 16 (by decide) (hts _ mw_519) (fun _ h9 => h9) rfl d_M_compile_167 ?_
      refine lv_if_ne (tgt := 177) hx hb d_M_compile_170 (by decide) (fun h170_9 => ?_) (fun h170_9 => ?_)
      · rw [if_neg h170_9] at hf
        refine lv_iconst (v := 0) hx hb d_M_compile_177 (by decide) ?_
        cases hf
        exact W.zret hx hb hr (by rfl) (fun t ht hW => ⟨⟨_, (), rfl, rfl, by rw [ht]; exact hP, va_K.moved hW.alike hK, hD⟩, hS.F ht⟩) hS.2.2 d_M_compile_178
      · rw [if_pos h170_9] at hf
        refine lv_iconst (v := 1) hx hb d_M_compile_173 (by decide) ?_
        refine lv_goto (tgt := 178) hx hb d_M_compile_174 (by decide) ?_
        cases hf
        exact W.zret hx hb hr (by rfl) (fun t ht hW => ⟨⟨_, (), rfl, rfl, by rw [ht]; exact hP, va_K.moved hW.alike hK, hD⟩, hS.F ht⟩) hS.2.2 d_M_compile_178
  have J147 : ∀ (x1 : Int32) (F : ST_F) (A : ST_A) (H : Heap) (locs : List Loc) (ls : Array Slot), lv_has ls 2 [(0, .ref (o 0)), (1, .int x1)] → va_P (dC, dI) vC (wM o cI F A) H → va_D (va_A (wM o cI Fa Aa) s.heap.size) (wM o cI F A) → va_S (va_A (wM o cI Fa Aa) s.heap.size) s.heap H locs → f_M_compile_J147 fu x1 F A = some (r0, F9, A9) → W p l e (headSpec (Cond.code y_M_compile b_M_compile 2 (some .boolean) :: wA) ({ frames := 7, cells := 0, slots := 0, locals := 158 } : Room)).room s m ([.ref (o 0)] : List Value).toArray below meth c H locs 0 0 (MQ below (cc_Qi (dC, dI) vC [(cI, .int)] (wM o cI Fa Aa) s.heap.size (wM o cI F9 A9) r0) ([.ref (o 0)] : List Value).toArray s 0 0 (va_A (wM o cI Fa Aa) s.heap.size)) (F0 m 147 ls [.ref (o 0)]) := by
    intro x1 F A H locs ls hl hP hD hS hf
    unfold f_M_compile_J147 at hf
    refine lv_iconst (v := 1) hx hb d_M_compile_147 (by decide) ?_
    refine lv_goto (tgt := 152) hx hb d_M_compile_148 (by decide) ?_
    have hl : lv_has ls 2 [(0, .ref (o 0)), (1, .int x1)] := lv_sub hl [0, 1] rfl
    exact J152 x1 (1 : Int32) F A _ _ _ hl hP hD hS hf
  have J115 : ∀ (x1 : Int32) (F : ST_F) (A : ST_A) (H : Heap) (locs : List Loc) (ls : Array Slot), lv_has ls 2 [(0, .ref (o 0)), (1, .int x1)] → va_P (dC, dI) vC (wM o cI F A) H → va_D (va_A (wM o cI Fa Aa) s.heap.size) (wM o cI F A) → va_S (va_A (wM o cI Fa Aa) s.heap.size) s.heap H locs → f_M_compile_J115 fu x1 F A = some (r0, F9, A9) → W p l e (headSpec (Cond.code y_M_compile b_M_compile 2 (some .boolean) :: wA) ({ frames := 7, cells := 0, slots := 0, locals := 158 } : Room)).room s m ([.ref (o 0)] : List Value).toArray below meth c H locs 0 0 (MQ below (cc_Qi (dC, dI) vC [(cI, .int)] (wM o cI Fa Aa) s.heap.size (wM o cI F9 A9) r0) ([.ref (o 0)] : List Value).toArray s 0 0 (va_A (wM o cI Fa Aa) s.heap.size)) (F0 m 115 ls []) := by
    intro x1 F A H locs ls hl hP hD hS hf
    unfold f_M_compile_J115 at hf
    refine lv_aload_n hx hb d_M_compile_115 rfl (lv_at hl 0 rfl) ?_
    refine lv_aload_n hx hb d_M_compile_116 rfl (lv_at hl 0 rfl) ?_
    refine va_get (D := (dC, dI)) (ci := 4) (v := .int (F 5)) (C := R_M) (T := T_M) (N := 29) hx hb hts in_M hown hK hP 0 rfl rfl 16 (by decide) (hts _ mw_519) (fun _ h9 => h9) rfl d_M_compile_117 ?_
    refine lv_if_ne (tgt := 147) hx hb d_M_compile_120 (by decide) (fun h120_5 => ?_) (fun h120_5 => ?_)
    · rw [if_neg h120_5] at hf
      have hl : lv_has ls 2 [(0, .ref (o 0)), (1, .int x1)] := lv_sub hl [0, 1] rfl
      exact J147 x1 F A _ _ _ hl hP hD hS hf
    · rw [if_pos h120_5] at hf
      refine lv_aload_n hx hb d_M_compile_123 rfl (lv_at hl 0 rfl) ?_
      refine va_get (D := (dC, dI)) (ci := 4) (v := .int (F 7)) (C := R_M) (T := T_M) (N := 29) hx hb hts in_M hown hK hP 0 rfl rfl 20 (by decide) (hts _ mw_523) (fun _ h9 => h9) rfl d_M_compile_124 ?_
      refine lv_if_gt (tgt := 147) hx hb d_M_compile_127 (by decide) (fun h127_10 => ?_) (fun h127_10 => ?_)
      · rw [if_pos h127_10] at hf
        have hl : lv_has ls 2 [(0, .ref (o 0)), (1, .int x1)] := lv_sub hl [0, 1] rfl
        exact J147 x1 F A _ _ _ hl hP hD hS hf
      · rw [if_neg h127_10] at hf
        refine lv_aload_n hx hb d_M_compile_130 rfl (lv_at hl 0 rfl) ?_
        refine va_get (D := (dC, dI)) (ci := 4) (v := .int (F 9)) (C := R_M) (T := T_M) (N := 29) hx hb hts in_M hown hK hP 0 rfl rfl 24 (by decide) (hts _ mw_527) (fun _ h9 => h9) rfl d_M_compile_131 ?_
        refine lv_if_ge (tgt := 147) hx hb d_M_compile_134 (by decide) (fun h134_11 => ?_) (fun h134_11 => ?_)
        · rw [if_pos h134_11] at hf
          have hl : lv_has ls 2 [(0, .ref (o 0)), (1, .int x1)] := lv_sub hl [0, 1] rfl
          exact J147 x1 F A _ _ _ hl hP hD hS hf
        · rw [if_neg h134_11] at hf
          refine lv_aload_n hx hb d_M_compile_137 rfl (lv_at hl 0 rfl) ?_
          refine va_get (D := (dC, dI)) (ci := 4) (v := .ref (o 12)) (C := R_M) (T := T_M) (N := 29) hx hb hts in_M hown hK hP 0 rfl rfl 18 (by decide) (hts _ mw_521) (fun _ h9 => h9) rfl d_M_compile_138 ?_
          refine lv_iconst (v := 0) hx hb d_M_compile_141 (by decide) ?_
          obtain ⟨hi, hf⟩ := ra_g_some hf
          refine va_iald hx hb hK hP 12 0 rfl rfl hi d_M_compile_142 ?_
          refine lv_iconst (v := 3) hx hb d_M_compile_143 (by decide) ?_
          refine lv_icmp_eq (tgt := 151) hx hb d_M_compile_144 (by decide) (fun h144_12 => ?_) (fun h144_12 => ?_)
          · rw [if_pos h144_12] at hf
            refine lv_iconst (v := 0) hx hb d_M_compile_151 (by decide) ?_
            have hl : lv_has ls 2 [(0, .ref (o 0)), (1, .int x1)] := lv_sub hl [0, 1] rfl
            exact J152 x1 (0 : Int32) F A _ _ _ hl hP hD hS hf
          · rw [if_neg h144_12] at hf
            have hl : lv_has ls 2 [(0, .ref (o 0)), (1, .int x1)] := lv_sub hl [0, 1] rfl
            exact J147 x1 F A _ _ _ hl hP hD hS hf
  have J103 : ∀ (x1 : Int32) (F : ST_F) (A : ST_A) (H : Heap) (locs : List Loc) (ls : Array Slot), lv_has ls 2 [(0, .ref (o 0)), (1, .int x1)] → va_P (dC, dI) vC (wM o cI F A) H → va_D (va_A (wM o cI Fa Aa) s.heap.size) (wM o cI F A) → va_S (va_A (wM o cI Fa Aa) s.heap.size) s.heap H locs → f_M_compile_J103 fu x1 F A = some (r0, F9, A9) → W p l e (headSpec (Cond.code y_M_compile b_M_compile 2 (some .boolean) :: wA) ({ frames := 7, cells := 0, slots := 0, locals := 158 } : Room)).room s m ([.ref (o 0)] : List Value).toArray below meth c H locs 0 0 (MQ below (cc_Qi (dC, dI) vC [(cI, .int)] (wM o cI Fa Aa) s.heap.size (wM o cI F9 A9) r0) ([.ref (o 0)] : List Value).toArray s 0 0 (va_A (wM o cI Fa Aa) s.heap.size)) (F0 m 103 ls []) := by
    intro x1 F A H locs ls hl hP hD hS hf
    unfold f_M_compile_J103 at hf
    refine lv_aload_n hx hb d_M_compile_103 rfl (lv_at hl 0 rfl) ?_
    refine va_get (D := (dC, dI)) (ci := 4) (v := .int (F 5)) (C := R_M) (T := T_M) (N := 29) hx hb hts in_M hown hK hP 0 rfl rfl 16 (by decide) (hts _ mw_519) (fun _ h9 => h9) rfl d_M_compile_104 ?_
    refine lv_if_ne (tgt := 115) hx hb d_M_compile_107 (by decide) (fun h107_4 => ?_) (fun h107_4 => ?_)
    · rw [if_neg h107_4] at hf
      have hl : lv_has ls 2 [(0, .ref (o 0)), (1, .int x1)] := lv_sub hl [0, 1] rfl
      exact J115 x1 F A _ _ _ hl hP hD hS hf
    · rw [if_pos h107_4] at hf
      refine lv_aload_n hx hb d_M_compile_110 rfl (lv_at hl 0 rfl) ?_
      refine lv_iconst (v := 1) hx hb d_M_compile_111 (by decide) ?_
      have hP : va_P (dC, dI) vC (wM o cI F A) H := hP
      have hD : va_D (va_A (wM o cI Fa Aa) s.heap.size) (wM o cI F A) := hD
      obtain ⟨F13, A13, hc, hf⟩ := ra_bv_some hf
      refine cc_callv (va_runV (As := [.int (1 : Int32)]) (rest := []) ⟨hx, hb, hml, hown, hts⟩ (k_M_settle l dC dI o cI H.size F A (1 : Int32) F13 A13 hc) (cw_V 1 hts mw_629 mw_631 ms_M_settle mw_5 mw_632 rfl rfl rfl hd_M_settle ⟨Nat.le_of_ble_eq_true rfl, Nat.le_of_ble_eq_true rfl⟩) (cc_preV hK hP hD rfl (q0 := 0) rfl) rfl rfl hl.1 rfl (lv_room (Nat.le_of_ble_eq_true rfl)) d_M_compile_112 ⟨Nat.zero_le _, Nat.zero_le _⟩) hD hS hA (fun H locs hP hD hS => ?_)
      have hl : lv_has ls 2 [(0, .ref (o 0)), (1, .int x1)] := lv_sub hl [0, 1] rfl
      exact J115 x1 F13 A13 _ _ _ hl hP hD hS hf
  have L62 : ∀ (n : Nat) (x1 : Int32) (F : ST_F) (A : ST_A) (H : Heap) (locs : List Loc) (ls : Array Slot), lv_has ls 2 [(0, .ref (o 0)), (1, .int x1)] → va_P (dC, dI) vC (wM o cI F A) H → va_D (va_A (wM o cI Fa Aa) s.heap.size) (wM o cI F A) → va_S (va_A (wM o cI Fa Aa) s.heap.size) s.heap H locs → f_M_compile_L62 fu n x1 F A = some (r0, F9, A9) → W p l e (headSpec (Cond.code y_M_compile b_M_compile 2 (some .boolean) :: wA) ({ frames := 7, cells := 0, slots := 0, locals := 158 } : Room)).room s m ([.ref (o 0)] : List Value).toArray below meth c H locs 0 0 (MQ below (cc_Qi (dC, dI) vC [(cI, .int)] (wM o cI Fa Aa) s.heap.size (wM o cI F9 A9) r0) ([.ref (o 0)] : List Value).toArray s 0 0 (va_A (wM o cI Fa Aa) s.heap.size)) (F0 m 62 ls []) := by
    intro n
    induction n with
    | zero => intro x1 F A H locs ls hl hP hD hS hf; cases hf
    | succ n ih =>
      intro x1 F A H locs ls hl hP hD hS hf
      rw [f_M_compile_L62] at hf
      refine lv_aload_n hx hb d_M_compile_62 rfl (lv_at hl 0 rfl) ?_
      refine va_get (D := (dC, dI)) (ci := 4) (v := .int (F 5)) (C := R_M) (T := T_M) (N := 29) hx hb hts in_M hown hK hP 0 rfl rfl 16 (by decide) (hts _ mw_519) (fun _ h9 => h9) rfl d_M_compile_63 ?_
      refine lv_if_ne (tgt := 103) hx hb d_M_compile_66 (by decide) (fun h66_3 => ?_) (fun h66_3 => ?_)
      · rw [if_neg h66_3] at hf
        have hl : lv_has ls 2 [(0, .ref (o 0)), (1, .int x1)] := lv_sub hl [0, 1] rfl
        exact J103 x1 F A _ _ _ hl hP hD hS hf
      · rw [if_pos h66_3] at hf
        refine lv_iload_n hx hb d_M_compile_69 rfl (lv_at hl 1 rfl) ?_
        refine lv_if_eq (tgt := 84) hx hb d_M_compile_70 (by decide) (fun h70_14 => ?_) (fun h70_14 => ?_)
        · rw [if_pos h70_14] at hf
          refine lv_iload_n hx hb d_M_compile_84 rfl (lv_at hl 1 rfl) ?_
          refine lv_if_eq (tgt := 95) hx hb d_M_compile_85 (by decide) (fun h85_15 => ?_) (fun h85_15 => ?_)
          · rw [if_pos h85_15] at hf
            refine lv_aload_n hx hb d_M_compile_95 rfl (lv_at hl 0 rfl) ?_
            have hP : va_P (dC, dI) vC (wM o cI F A) H := hP
            have hD : va_D (va_A (wM o cI Fa Aa) s.heap.size) (wM o cI F A) := hD
            obtain ⟨r16, F16, A16, hc, hf⟩ := ra_bi_some hf
            refine cc_calli (va_runV (As := []) (rest := []) ⟨hx, hb, hml, hown, hts⟩ (k_M_operand l dC dI o cI H.size F A  r16 F16 A16 hc) (cw_V 0 hts mw_703 mw_705 ms_M_operand mw_5 mw_706 rfl rfl rfl hd_M_operand ⟨Nat.le_of_ble_eq_true rfl, Nat.le_of_ble_eq_true rfl⟩) (cc_preV hK hP hD rfl (q0 := 0) rfl) rfl rfl hl.1 rfl (lv_room (Nat.le_of_ble_eq_true rfl)) d_M_compile_96 ⟨Nat.zero_le _, Nat.zero_le _⟩) hD hS hA (fun H locs hP hD hS => ?_)
            refine lv_istore_n hx hb d_M_compile_99 rfl hl (by decide) rfl (fun ls hl => ?_)
            have hl : lv_has ls 2 [(1, .int r16), (0, .ref (o 0))] := hl
            refine lv_goto (tgt := 62) hx hb d_M_compile_100 (by decide) ?_
            have hl : lv_has ls 2 [(0, .ref (o 0)), (1, .int r16)] := lv_sub hl [1, 0] rfl
            exact ih r16 F16 A16 _ _ _ hl hP hD hS hf
          · rw [if_neg h85_15] at hf
            refine lv_aload_n hx hb d_M_compile_88 rfl (lv_at hl 0 rfl) ?_
            have hP : va_P (dC, dI) vC (wM o cI F A) H := hP
            have hD : va_D (va_A (wM o cI Fa Aa) s.heap.size) (wM o cI F A) := hD
            obtain ⟨r17, F17, A17, hc, hf⟩ := ra_bi_some hf
            refine cc_calli (va_runV (As := []) (rest := []) ⟨hx, hb, hml, hown, hts⟩ (k_M_operator l dC dI o cI H.size F A  r17 F17 A17 hc) (cw_V 0 hts mw_621 mw_623 ms_M_operator mw_5 mw_624 rfl rfl rfl hd_M_operator ⟨Nat.le_of_ble_eq_true rfl, Nat.le_of_ble_eq_true rfl⟩) (cc_preV hK hP hD rfl (q0 := 0) rfl) rfl rfl hl.1 rfl (lv_room (Nat.le_of_ble_eq_true rfl)) d_M_compile_89 ⟨Nat.zero_le _, Nat.zero_le _⟩) hD hS hA (fun H locs hP hD hS => ?_)
            refine lv_goto (tgt := 99) hx hb d_M_compile_92 (by decide) ?_
            refine lv_istore_n hx hb d_M_compile_99 rfl hl (by decide) rfl (fun ls hl => ?_)
            have hl : lv_has ls 2 [(1, .int r17), (0, .ref (o 0))] := hl
            refine lv_goto (tgt := 62) hx hb d_M_compile_100 (by decide) ?_
            have hl : lv_has ls 2 [(0, .ref (o 0)), (1, .int r17)] := lv_sub hl [1, 0] rfl
            exact ih r17 F17 A17 _ _ _ hl hP hD hS hf
        · rw [if_neg h70_14] at hf
          refine lv_aload_n hx hb d_M_compile_73 rfl (lv_at hl 0 rfl) ?_
          refine va_get (D := (dC, dI)) (ci := 4) (v := .int (F 4)) (C := R_M) (T := T_M) (N := 29) hx hb hts in_M hown hK hP 0 rfl rfl 15 (by decide) (hts _ mw_518) (fun _ h9 => h9) rfl d_M_compile_74 ?_
          refine lv_aload_n hx hb d_M_compile_77 rfl (lv_at hl 0 rfl) ?_
          refine va_get (D := (dC, dI)) (ci := 4) (v := .int (F 1)) (C := R_M) (T := T_M) (N := 29) hx hb hts in_M hown hK hP 0 rfl rfl 1 (by decide) (hts _ mw_504) (fun _ h9 => h9) rfl d_M_compile_78 ?_
          refine lv_icmp_ge (tgt := 103) hx hb d_M_compile_81 (by decide) (fun h81_18 => ?_) (fun h81_18 => ?_)
          · rw [if_pos h81_18] at hf
            have hl : lv_has ls 2 [(0, .ref (o 0)), (1, .int x1)] := lv_sub hl [0, 1] rfl
            exact J103 x1 F A _ _ _ hl hP hD hS hf
          · rw [if_neg h81_18] at hf
            refine lv_iload_n hx hb d_M_compile_84 rfl (lv_at hl 1 rfl) ?_
            refine lv_if_eq (tgt := 95) hx hb d_M_compile_85 (by decide) (fun h85_19 => ?_) (fun h85_19 => ?_)
            · rw [if_pos h85_19] at hf
              refine lv_aload_n hx hb d_M_compile_95 rfl (lv_at hl 0 rfl) ?_
              have hP : va_P (dC, dI) vC (wM o cI F A) H := hP
              have hD : va_D (va_A (wM o cI Fa Aa) s.heap.size) (wM o cI F A) := hD
              obtain ⟨r20, F20, A20, hc, hf⟩ := ra_bi_some hf
              refine cc_calli (va_runV (As := []) (rest := []) ⟨hx, hb, hml, hown, hts⟩ (k_M_operand l dC dI o cI H.size F A  r20 F20 A20 hc) (cw_V 0 hts mw_703 mw_705 ms_M_operand mw_5 mw_706 rfl rfl rfl hd_M_operand ⟨Nat.le_of_ble_eq_true rfl, Nat.le_of_ble_eq_true rfl⟩) (cc_preV hK hP hD rfl (q0 := 0) rfl) rfl rfl hl.1 rfl (lv_room (Nat.le_of_ble_eq_true rfl)) d_M_compile_96 ⟨Nat.zero_le _, Nat.zero_le _⟩) hD hS hA (fun H locs hP hD hS => ?_)
              refine lv_istore_n hx hb d_M_compile_99 rfl hl (by decide) rfl (fun ls hl => ?_)
              have hl : lv_has ls 2 [(1, .int r20), (0, .ref (o 0))] := hl
              refine lv_goto (tgt := 62) hx hb d_M_compile_100 (by decide) ?_
              have hl : lv_has ls 2 [(0, .ref (o 0)), (1, .int r20)] := lv_sub hl [1, 0] rfl
              exact ih r20 F20 A20 _ _ _ hl hP hD hS hf
            · rw [if_neg h85_19] at hf
              refine lv_aload_n hx hb d_M_compile_88 rfl (lv_at hl 0 rfl) ?_
              have hP : va_P (dC, dI) vC (wM o cI F A) H := hP
              have hD : va_D (va_A (wM o cI Fa Aa) s.heap.size) (wM o cI F A) := hD
              obtain ⟨r21, F21, A21, hc, hf⟩ := ra_bi_some hf
              refine cc_calli (va_runV (As := []) (rest := []) ⟨hx, hb, hml, hown, hts⟩ (k_M_operator l dC dI o cI H.size F A  r21 F21 A21 hc) (cw_V 0 hts mw_621 mw_623 ms_M_operator mw_5 mw_624 rfl rfl rfl hd_M_operator ⟨Nat.le_of_ble_eq_true rfl, Nat.le_of_ble_eq_true rfl⟩) (cc_preV hK hP hD rfl (q0 := 0) rfl) rfl rfl hl.1 rfl (lv_room (Nat.le_of_ble_eq_true rfl)) d_M_compile_89 ⟨Nat.zero_le _, Nat.zero_le _⟩) hD hS hA (fun H locs hP hD hS => ?_)
              refine lv_goto (tgt := 99) hx hb d_M_compile_92 (by decide) ?_
              refine lv_istore_n hx hb d_M_compile_99 rfl hl (by decide) rfl (fun ls hl => ?_)
              have hl : lv_has ls 2 [(1, .int r21), (0, .ref (o 0))] := hl
              refine lv_goto (tgt := 62) hx hb d_M_compile_100 (by decide) ?_
              have hl : lv_has ls 2 [(0, .ref (o 0)), (1, .int r21)] := lv_sub hl [1, 0] rfl
              exact ih r21 F21 A21 _ _ _ hl hP hD hS hf
  have L37 : ∀ (n : Nat) (x1 : Int32) (F : ST_F) (A : ST_A) (H : Heap) (locs : List Loc) (ls : Array Slot), lv_has ls 2 [(0, .ref (o 0)), (1, .int x1)] → va_P (dC, dI) vC (wM o cI F A) H → va_D (va_A (wM o cI Fa Aa) s.heap.size) (wM o cI F A) → va_S (va_A (wM o cI Fa Aa) s.heap.size) s.heap H locs → f_M_compile_L37 fu n x1 F A = some (r0, F9, A9) → W p l e (headSpec (Cond.code y_M_compile b_M_compile 2 (some .boolean) :: wA) ({ frames := 7, cells := 0, slots := 0, locals := 158 } : Room)).room s m ([.ref (o 0)] : List Value).toArray below meth c H locs 0 0 (MQ below (cc_Qi (dC, dI) vC [(cI, .int)] (wM o cI Fa Aa) s.heap.size (wM o cI F9 A9) r0) ([.ref (o 0)] : List Value).toArray s 0 0 (va_A (wM o cI Fa Aa) s.heap.size)) (F0 m 37 ls []) := by
    intro n
    induction n with
    | zero => intro x1 F A H locs ls hl hP hD hS hf; cases hf
    | succ n ih =>
      intro x1 F A H locs ls hl hP hD hS hf
      rw [f_M_compile_L37] at hf
      refine lv_iload_n hx hb d_M_compile_37 rfl (lv_at hl 1 rfl) ?_
      refine lv_bipush (v := 26) hx hb d_M_compile_38 (by decide) ?_
      refine lv_icmp_ge (tgt := 56) hx hb d_M_compile_40 (by decide) (fun h40_1 => ?_) (fun h40_1 => ?_)
      · rw [if_pos h40_1] at hf
        refine lv_aload_n hx hb d_M_compile_56 rfl (lv_at hl 0 rfl) ?_
        have hP : va_P (dC, dI) vC (wM o cI F A) H := hP
        have hD : va_D (va_A (wM o cI Fa Aa) s.heap.size) (wM o cI F A) := hD
        obtain ⟨F2, A2, hc, hf⟩ := ra_bv_some hf
        refine cc_callv (va_runV (As := []) (rest := []) ⟨hx, hb, hml, hown, hts⟩ (k_M_begin l dC dI o cI H.size F A  F2 A2 hc) (cw_V 0 hts mw_607 mw_609 ms_M_begin mw_5 mw_610 rfl rfl rfl hd_M_begin ⟨Nat.le_of_ble_eq_true rfl, Nat.le_of_ble_eq_true rfl⟩) (cc_preV hK hP hD rfl (q0 := 0) rfl) rfl rfl hl.1 rfl (lv_room (Nat.le_of_ble_eq_true rfl)) d_M_compile_57 ⟨Nat.zero_le _, Nat.zero_le _⟩) hD hS hA (fun H locs hP hD hS => ?_)
        refine lv_iconst (v := 0) hx hb d_M_compile_60 (by decide) ?_
        refine lv_istore_n hx hb d_M_compile_61 rfl hl (by decide) rfl (fun ls hl => ?_)
        have hl : lv_has ls 2 [(1, .int (0 : Int32)), (0, .ref (o 0))] := hl
        have hl : lv_has ls 2 [(0, .ref (o 0)), (1, .int (0 : Int32))] := lv_sub hl [1, 0] rfl
        exact L62 fu (0 : Int32) F2 A2 _ _ _ hl hP hD hS hf
      · rw [if_neg h40_1] at hf
        refine lv_aload_n hx hb d_M_compile_43 rfl (lv_at hl 0 rfl) ?_
        refine va_get (D := (dC, dI)) (ci := 4) (v := .ref (o 10)) (C := R_M) (T := T_M) (N := 29) hx hb hts in_M hown hK hP 0 rfl rfl 13 (by decide) (hts _ mw_516) (fun _ h9 => h9) rfl d_M_compile_44 ?_
        refine lv_iload_n hx hb d_M_compile_47 rfl (lv_at hl 1 rfl) ?_
        refine lv_iconst (v := 0) hx hb d_M_compile_48 (by decide) ?_
        obtain ⟨hi, hf⟩ := ra_g_some hf
        refine va_iast hx hb hK hP hD hS 10 0 rfl rfl hi d_M_compile_49 (fun H locs hP hD hS => ?_)
        have hP : va_P (dC, dI) vC [((o 0), .inr (4, [.int (F 0), .int (F 1), .ref (o 1), .int (F 2), .ref (o 2), .ref (o 3), .ref (o 4), .ref (o 5), .ref (o 6), .int (F 3), .ref (o 7), .ref (o 8), .ref (o 9), .ref (o 10), .ref (o 11), .int (F 4), .int (F 5), .int (F 6), .ref (o 12), .ref (o 13), .int (F 7), .ref (o 14), .ref (o 15), .int (F 8), .int (F 9), .ref (o 16), .ref (o 17), .ref (o 18), .ref (o 19)])), ((o 1), .inl (cI, 160, .inl (A 0))), ((o 2), .inl (cI, 100, .inl (A 1))), ((o 3), .inl (cI, 100, .inl (A 2))), ((o 4), .inl (cI, 100, .inl (A 3))), ((o 5), .inl (cI, 3, .inl (A 4))), ((o 6), .inl (cI, 26, .inl (A 5))), ((o 7), .inl (cI, 100, .inl (A 6))), ((o 8), .inl (cI, 100, .inl (A 7))), ((o 9), .inl (cI, 100, .inl (A 8))), ((o 10), .inl (cI, 26, .inl (upd (A 9) x1.toNatClampNeg (0 : Int32)))), ((o 11), .inl (cI, 104, .inl (A 10))), ((o 12), .inl (cI, 80, .inl (A 11))), ((o 13), .inl (cI, 320, .inl (A 12))), ((o 14), .inl (cI, 200, .inl (A 13))), ((o 15), .inl (cI, 200, .inl (A 14))), ((o 16), .inl (cI, 4, .inl (A 15))), ((o 17), .inl (cI, 32, .inl (A 16))), ((o 18), .inl (cI, 32, .inl (A 17))), ((o 19), .inl (cI, 100, .inl (A 18)))] H := hP
        have hD : va_D (va_A (wM o cI Fa Aa) s.heap.size) [((o 0), .inr (4, [.int (F 0), .int (F 1), .ref (o 1), .int (F 2), .ref (o 2), .ref (o 3), .ref (o 4), .ref (o 5), .ref (o 6), .int (F 3), .ref (o 7), .ref (o 8), .ref (o 9), .ref (o 10), .ref (o 11), .int (F 4), .int (F 5), .int (F 6), .ref (o 12), .ref (o 13), .int (F 7), .ref (o 14), .ref (o 15), .int (F 8), .int (F 9), .ref (o 16), .ref (o 17), .ref (o 18), .ref (o 19)])), ((o 1), .inl (cI, 160, .inl (A 0))), ((o 2), .inl (cI, 100, .inl (A 1))), ((o 3), .inl (cI, 100, .inl (A 2))), ((o 4), .inl (cI, 100, .inl (A 3))), ((o 5), .inl (cI, 3, .inl (A 4))), ((o 6), .inl (cI, 26, .inl (A 5))), ((o 7), .inl (cI, 100, .inl (A 6))), ((o 8), .inl (cI, 100, .inl (A 7))), ((o 9), .inl (cI, 100, .inl (A 8))), ((o 10), .inl (cI, 26, .inl (upd (A 9) x1.toNatClampNeg (0 : Int32)))), ((o 11), .inl (cI, 104, .inl (A 10))), ((o 12), .inl (cI, 80, .inl (A 11))), ((o 13), .inl (cI, 320, .inl (A 12))), ((o 14), .inl (cI, 200, .inl (A 13))), ((o 15), .inl (cI, 200, .inl (A 14))), ((o 16), .inl (cI, 4, .inl (A 15))), ((o 17), .inl (cI, 32, .inl (A 16))), ((o 18), .inl (cI, 32, .inl (A 17))), ((o 19), .inl (cI, 100, .inl (A 18)))] := hD
        refine lv_iinc (k := 1) (v := (x1 + (1 : Int32))) hx hb d_M_compile_50 hl rfl (by rfl) (by decide) rfl (fun ls hl => ?_)
        have hl : lv_has ls 2 [(1, .int (x1 + (1 : Int32))), (0, .ref (o 0))] := hl
        refine lv_goto (tgt := 37) hx hb d_M_compile_53 (by decide) ?_
        have hl : lv_has ls 2 [(0, .ref (o 0)), (1, .int (x1 + (1 : Int32)))] := lv_sub hl [1, 0] rfl
        exact ih (x1 + (1 : Int32)) F (va_up A 9 (upd (A 9) x1.toNatClampNeg (0 : Int32))) _ _ _ hl hP hD hS hf
  rw [lg_entry_eq]
  generalize (lg_sl (([.ref (o 0)] : List Value)) ++ List.replicate (2 - (lg_sl (([.ref (o 0)] : List Value))).length) Slot.unset).toArray = ls at hl ⊢
  have hl : lv_has ls 2 [(0, .ref (o 0))] := hl
  unfold f_M_compile at hf
  refine lv_aload_n hx hb d_M_compile_0 rfl (lv_at hl 0 rfl) ?_
  refine lv_iconst (v := 0) hx hb d_M_compile_1 (by decide) ?_
  refine va_put (D := (dC, dI)) (ci := 4) (v := .int (0 : Int32)) (ty := .int) (C := R_M) (T := T_M) (N := 29) hx hb hts in_M ty_M ty_M_ok nm_M hown hK hP hD hS 0 rfl rfl 0 (by decide) (hts _ mw_503) (fun _ h9 => h9) rfl (by decide +kernel) rfl rfl (Nat.le_of_ble_eq_true rfl) d_M_compile_2 (fun H locs hP hD hS => ?_)
  have hP : va_P (dC, dI) vC [((o 0), .inr (4, [.int (0 : Int32), .int (Fa 1), .ref (o 1), .int (Fa 2), .ref (o 2), .ref (o 3), .ref (o 4), .ref (o 5), .ref (o 6), .int (Fa 3), .ref (o 7), .ref (o 8), .ref (o 9), .ref (o 10), .ref (o 11), .int (Fa 4), .int (Fa 5), .int (Fa 6), .ref (o 12), .ref (o 13), .int (Fa 7), .ref (o 14), .ref (o 15), .int (Fa 8), .int (Fa 9), .ref (o 16), .ref (o 17), .ref (o 18), .ref (o 19)])), ((o 1), .inl (cI, 160, .inl (Aa 0))), ((o 2), .inl (cI, 100, .inl (Aa 1))), ((o 3), .inl (cI, 100, .inl (Aa 2))), ((o 4), .inl (cI, 100, .inl (Aa 3))), ((o 5), .inl (cI, 3, .inl (Aa 4))), ((o 6), .inl (cI, 26, .inl (Aa 5))), ((o 7), .inl (cI, 100, .inl (Aa 6))), ((o 8), .inl (cI, 100, .inl (Aa 7))), ((o 9), .inl (cI, 100, .inl (Aa 8))), ((o 10), .inl (cI, 26, .inl (Aa 9))), ((o 11), .inl (cI, 104, .inl (Aa 10))), ((o 12), .inl (cI, 80, .inl (Aa 11))), ((o 13), .inl (cI, 320, .inl (Aa 12))), ((o 14), .inl (cI, 200, .inl (Aa 13))), ((o 15), .inl (cI, 200, .inl (Aa 14))), ((o 16), .inl (cI, 4, .inl (Aa 15))), ((o 17), .inl (cI, 32, .inl (Aa 16))), ((o 18), .inl (cI, 32, .inl (Aa 17))), ((o 19), .inl (cI, 100, .inl (Aa 18)))] H := hP
  have hD : va_D (va_A (wM o cI Fa Aa) s.heap.size) [((o 0), .inr (4, [.int (0 : Int32), .int (Fa 1), .ref (o 1), .int (Fa 2), .ref (o 2), .ref (o 3), .ref (o 4), .ref (o 5), .ref (o 6), .int (Fa 3), .ref (o 7), .ref (o 8), .ref (o 9), .ref (o 10), .ref (o 11), .int (Fa 4), .int (Fa 5), .int (Fa 6), .ref (o 12), .ref (o 13), .int (Fa 7), .ref (o 14), .ref (o 15), .int (Fa 8), .int (Fa 9), .ref (o 16), .ref (o 17), .ref (o 18), .ref (o 19)])), ((o 1), .inl (cI, 160, .inl (Aa 0))), ((o 2), .inl (cI, 100, .inl (Aa 1))), ((o 3), .inl (cI, 100, .inl (Aa 2))), ((o 4), .inl (cI, 100, .inl (Aa 3))), ((o 5), .inl (cI, 3, .inl (Aa 4))), ((o 6), .inl (cI, 26, .inl (Aa 5))), ((o 7), .inl (cI, 100, .inl (Aa 6))), ((o 8), .inl (cI, 100, .inl (Aa 7))), ((o 9), .inl (cI, 100, .inl (Aa 8))), ((o 10), .inl (cI, 26, .inl (Aa 9))), ((o 11), .inl (cI, 104, .inl (Aa 10))), ((o 12), .inl (cI, 80, .inl (Aa 11))), ((o 13), .inl (cI, 320, .inl (Aa 12))), ((o 14), .inl (cI, 200, .inl (Aa 13))), ((o 15), .inl (cI, 200, .inl (Aa 14))), ((o 16), .inl (cI, 4, .inl (Aa 15))), ((o 17), .inl (cI, 32, .inl (Aa 16))), ((o 18), .inl (cI, 32, .inl (Aa 17))), ((o 19), .inl (cI, 100, .inl (Aa 18)))] := hD
  refine lv_aload_n hx hb d_M_compile_5 rfl (lv_at hl 0 rfl) ?_
  refine lv_iconst (v := 0) hx hb d_M_compile_6 (by decide) ?_
  refine va_put (D := (dC, dI)) (ci := 4) (v := .int (0 : Int32)) (ty := .int) (C := R_M) (T := T_M) (N := 29) hx hb hts in_M ty_M ty_M_ok nm_M hown hK hP hD hS 0 rfl rfl 15 (by decide) (hts _ mw_518) (fun _ h9 => h9) rfl (by decide +kernel) rfl rfl (Nat.le_of_ble_eq_true rfl) d_M_compile_7 (fun H locs hP hD hS => ?_)
  have hP : va_P (dC, dI) vC [((o 0), .inr (4, [.int (0 : Int32), .int (Fa 1), .ref (o 1), .int (Fa 2), .ref (o 2), .ref (o 3), .ref (o 4), .ref (o 5), .ref (o 6), .int (Fa 3), .ref (o 7), .ref (o 8), .ref (o 9), .ref (o 10), .ref (o 11), .int (0 : Int32), .int (Fa 5), .int (Fa 6), .ref (o 12), .ref (o 13), .int (Fa 7), .ref (o 14), .ref (o 15), .int (Fa 8), .int (Fa 9), .ref (o 16), .ref (o 17), .ref (o 18), .ref (o 19)])), ((o 1), .inl (cI, 160, .inl (Aa 0))), ((o 2), .inl (cI, 100, .inl (Aa 1))), ((o 3), .inl (cI, 100, .inl (Aa 2))), ((o 4), .inl (cI, 100, .inl (Aa 3))), ((o 5), .inl (cI, 3, .inl (Aa 4))), ((o 6), .inl (cI, 26, .inl (Aa 5))), ((o 7), .inl (cI, 100, .inl (Aa 6))), ((o 8), .inl (cI, 100, .inl (Aa 7))), ((o 9), .inl (cI, 100, .inl (Aa 8))), ((o 10), .inl (cI, 26, .inl (Aa 9))), ((o 11), .inl (cI, 104, .inl (Aa 10))), ((o 12), .inl (cI, 80, .inl (Aa 11))), ((o 13), .inl (cI, 320, .inl (Aa 12))), ((o 14), .inl (cI, 200, .inl (Aa 13))), ((o 15), .inl (cI, 200, .inl (Aa 14))), ((o 16), .inl (cI, 4, .inl (Aa 15))), ((o 17), .inl (cI, 32, .inl (Aa 16))), ((o 18), .inl (cI, 32, .inl (Aa 17))), ((o 19), .inl (cI, 100, .inl (Aa 18)))] H := hP
  have hD : va_D (va_A (wM o cI Fa Aa) s.heap.size) [((o 0), .inr (4, [.int (0 : Int32), .int (Fa 1), .ref (o 1), .int (Fa 2), .ref (o 2), .ref (o 3), .ref (o 4), .ref (o 5), .ref (o 6), .int (Fa 3), .ref (o 7), .ref (o 8), .ref (o 9), .ref (o 10), .ref (o 11), .int (0 : Int32), .int (Fa 5), .int (Fa 6), .ref (o 12), .ref (o 13), .int (Fa 7), .ref (o 14), .ref (o 15), .int (Fa 8), .int (Fa 9), .ref (o 16), .ref (o 17), .ref (o 18), .ref (o 19)])), ((o 1), .inl (cI, 160, .inl (Aa 0))), ((o 2), .inl (cI, 100, .inl (Aa 1))), ((o 3), .inl (cI, 100, .inl (Aa 2))), ((o 4), .inl (cI, 100, .inl (Aa 3))), ((o 5), .inl (cI, 3, .inl (Aa 4))), ((o 6), .inl (cI, 26, .inl (Aa 5))), ((o 7), .inl (cI, 100, .inl (Aa 6))), ((o 8), .inl (cI, 100, .inl (Aa 7))), ((o 9), .inl (cI, 100, .inl (Aa 8))), ((o 10), .inl (cI, 26, .inl (Aa 9))), ((o 11), .inl (cI, 104, .inl (Aa 10))), ((o 12), .inl (cI, 80, .inl (Aa 11))), ((o 13), .inl (cI, 320, .inl (Aa 12))), ((o 14), .inl (cI, 200, .inl (Aa 13))), ((o 15), .inl (cI, 200, .inl (Aa 14))), ((o 16), .inl (cI, 4, .inl (Aa 15))), ((o 17), .inl (cI, 32, .inl (Aa 16))), ((o 18), .inl (cI, 32, .inl (Aa 17))), ((o 19), .inl (cI, 100, .inl (Aa 18)))] := hD
  refine lv_aload_n hx hb d_M_compile_10 rfl (lv_at hl 0 rfl) ?_
  refine lv_iconst (v := 0) hx hb d_M_compile_11 (by decide) ?_
  refine va_put (D := (dC, dI)) (ci := 4) (v := .int (0 : Int32)) (ty := .boolean) (C := R_M) (T := T_M) (N := 29) hx hb hts in_M ty_M ty_M_ok nm_M hown hK hP hD hS 0 rfl rfl 16 (by decide) (hts _ mw_519) (fun _ h9 => h9) rfl (by decide +kernel) rfl rfl (Nat.le_of_ble_eq_true rfl) d_M_compile_12 (fun H locs hP hD hS => ?_)
  have hP : va_P (dC, dI) vC [((o 0), .inr (4, [.int (0 : Int32), .int (Fa 1), .ref (o 1), .int (Fa 2), .ref (o 2), .ref (o 3), .ref (o 4), .ref (o 5), .ref (o 6), .int (Fa 3), .ref (o 7), .ref (o 8), .ref (o 9), .ref (o 10), .ref (o 11), .int (0 : Int32), .int (0 : Int32), .int (Fa 6), .ref (o 12), .ref (o 13), .int (Fa 7), .ref (o 14), .ref (o 15), .int (Fa 8), .int (Fa 9), .ref (o 16), .ref (o 17), .ref (o 18), .ref (o 19)])), ((o 1), .inl (cI, 160, .inl (Aa 0))), ((o 2), .inl (cI, 100, .inl (Aa 1))), ((o 3), .inl (cI, 100, .inl (Aa 2))), ((o 4), .inl (cI, 100, .inl (Aa 3))), ((o 5), .inl (cI, 3, .inl (Aa 4))), ((o 6), .inl (cI, 26, .inl (Aa 5))), ((o 7), .inl (cI, 100, .inl (Aa 6))), ((o 8), .inl (cI, 100, .inl (Aa 7))), ((o 9), .inl (cI, 100, .inl (Aa 8))), ((o 10), .inl (cI, 26, .inl (Aa 9))), ((o 11), .inl (cI, 104, .inl (Aa 10))), ((o 12), .inl (cI, 80, .inl (Aa 11))), ((o 13), .inl (cI, 320, .inl (Aa 12))), ((o 14), .inl (cI, 200, .inl (Aa 13))), ((o 15), .inl (cI, 200, .inl (Aa 14))), ((o 16), .inl (cI, 4, .inl (Aa 15))), ((o 17), .inl (cI, 32, .inl (Aa 16))), ((o 18), .inl (cI, 32, .inl (Aa 17))), ((o 19), .inl (cI, 100, .inl (Aa 18)))] H := hP
  have hD : va_D (va_A (wM o cI Fa Aa) s.heap.size) [((o 0), .inr (4, [.int (0 : Int32), .int (Fa 1), .ref (o 1), .int (Fa 2), .ref (o 2), .ref (o 3), .ref (o 4), .ref (o 5), .ref (o 6), .int (Fa 3), .ref (o 7), .ref (o 8), .ref (o 9), .ref (o 10), .ref (o 11), .int (0 : Int32), .int (0 : Int32), .int (Fa 6), .ref (o 12), .ref (o 13), .int (Fa 7), .ref (o 14), .ref (o 15), .int (Fa 8), .int (Fa 9), .ref (o 16), .ref (o 17), .ref (o 18), .ref (o 19)])), ((o 1), .inl (cI, 160, .inl (Aa 0))), ((o 2), .inl (cI, 100, .inl (Aa 1))), ((o 3), .inl (cI, 100, .inl (Aa 2))), ((o 4), .inl (cI, 100, .inl (Aa 3))), ((o 5), .inl (cI, 3, .inl (Aa 4))), ((o 6), .inl (cI, 26, .inl (Aa 5))), ((o 7), .inl (cI, 100, .inl (Aa 6))), ((o 8), .inl (cI, 100, .inl (Aa 7))), ((o 9), .inl (cI, 100, .inl (Aa 8))), ((o 10), .inl (cI, 26, .inl (Aa 9))), ((o 11), .inl (cI, 104, .inl (Aa 10))), ((o 12), .inl (cI, 80, .inl (Aa 11))), ((o 13), .inl (cI, 320, .inl (Aa 12))), ((o 14), .inl (cI, 200, .inl (Aa 13))), ((o 15), .inl (cI, 200, .inl (Aa 14))), ((o 16), .inl (cI, 4, .inl (Aa 15))), ((o 17), .inl (cI, 32, .inl (Aa 16))), ((o 18), .inl (cI, 32, .inl (Aa 17))), ((o 19), .inl (cI, 100, .inl (Aa 18)))] := hD
  refine lv_aload_n hx hb d_M_compile_15 rfl (lv_at hl 0 rfl) ?_
  refine lv_iconst (v := 0) hx hb d_M_compile_16 (by decide) ?_
  refine va_put (D := (dC, dI)) (ci := 4) (v := .int (0 : Int32)) (ty := .int) (C := R_M) (T := T_M) (N := 29) hx hb hts in_M ty_M ty_M_ok nm_M hown hK hP hD hS 0 rfl rfl 17 (by decide) (hts _ mw_520) (fun _ h9 => h9) rfl (by decide +kernel) rfl rfl (Nat.le_of_ble_eq_true rfl) d_M_compile_17 (fun H locs hP hD hS => ?_)
  have hP : va_P (dC, dI) vC [((o 0), .inr (4, [.int (0 : Int32), .int (Fa 1), .ref (o 1), .int (Fa 2), .ref (o 2), .ref (o 3), .ref (o 4), .ref (o 5), .ref (o 6), .int (Fa 3), .ref (o 7), .ref (o 8), .ref (o 9), .ref (o 10), .ref (o 11), .int (0 : Int32), .int (0 : Int32), .int (0 : Int32), .ref (o 12), .ref (o 13), .int (Fa 7), .ref (o 14), .ref (o 15), .int (Fa 8), .int (Fa 9), .ref (o 16), .ref (o 17), .ref (o 18), .ref (o 19)])), ((o 1), .inl (cI, 160, .inl (Aa 0))), ((o 2), .inl (cI, 100, .inl (Aa 1))), ((o 3), .inl (cI, 100, .inl (Aa 2))), ((o 4), .inl (cI, 100, .inl (Aa 3))), ((o 5), .inl (cI, 3, .inl (Aa 4))), ((o 6), .inl (cI, 26, .inl (Aa 5))), ((o 7), .inl (cI, 100, .inl (Aa 6))), ((o 8), .inl (cI, 100, .inl (Aa 7))), ((o 9), .inl (cI, 100, .inl (Aa 8))), ((o 10), .inl (cI, 26, .inl (Aa 9))), ((o 11), .inl (cI, 104, .inl (Aa 10))), ((o 12), .inl (cI, 80, .inl (Aa 11))), ((o 13), .inl (cI, 320, .inl (Aa 12))), ((o 14), .inl (cI, 200, .inl (Aa 13))), ((o 15), .inl (cI, 200, .inl (Aa 14))), ((o 16), .inl (cI, 4, .inl (Aa 15))), ((o 17), .inl (cI, 32, .inl (Aa 16))), ((o 18), .inl (cI, 32, .inl (Aa 17))), ((o 19), .inl (cI, 100, .inl (Aa 18)))] H := hP
  have hD : va_D (va_A (wM o cI Fa Aa) s.heap.size) [((o 0), .inr (4, [.int (0 : Int32), .int (Fa 1), .ref (o 1), .int (Fa 2), .ref (o 2), .ref (o 3), .ref (o 4), .ref (o 5), .ref (o 6), .int (Fa 3), .ref (o 7), .ref (o 8), .ref (o 9), .ref (o 10), .ref (o 11), .int (0 : Int32), .int (0 : Int32), .int (0 : Int32), .ref (o 12), .ref (o 13), .int (Fa 7), .ref (o 14), .ref (o 15), .int (Fa 8), .int (Fa 9), .ref (o 16), .ref (o 17), .ref (o 18), .ref (o 19)])), ((o 1), .inl (cI, 160, .inl (Aa 0))), ((o 2), .inl (cI, 100, .inl (Aa 1))), ((o 3), .inl (cI, 100, .inl (Aa 2))), ((o 4), .inl (cI, 100, .inl (Aa 3))), ((o 5), .inl (cI, 3, .inl (Aa 4))), ((o 6), .inl (cI, 26, .inl (Aa 5))), ((o 7), .inl (cI, 100, .inl (Aa 6))), ((o 8), .inl (cI, 100, .inl (Aa 7))), ((o 9), .inl (cI, 100, .inl (Aa 8))), ((o 10), .inl (cI, 26, .inl (Aa 9))), ((o 11), .inl (cI, 104, .inl (Aa 10))), ((o 12), .inl (cI, 80, .inl (Aa 11))), ((o 13), .inl (cI, 320, .inl (Aa 12))), ((o 14), .inl (cI, 200, .inl (Aa 13))), ((o 15), .inl (cI, 200, .inl (Aa 14))), ((o 16), .inl (cI, 4, .inl (Aa 15))), ((o 17), .inl (cI, 32, .inl (Aa 16))), ((o 18), .inl (cI, 32, .inl (Aa 17))), ((o 19), .inl (cI, 100, .inl (Aa 18)))] := hD
  refine lv_aload_n hx hb d_M_compile_20 rfl (lv_at hl 0 rfl) ?_
  refine lv_iconst (v := 0) hx hb d_M_compile_21 (by decide) ?_
  refine va_put (D := (dC, dI)) (ci := 4) (v := .int (0 : Int32)) (ty := .int) (C := R_M) (T := T_M) (N := 29) hx hb hts in_M ty_M ty_M_ok nm_M hown hK hP hD hS 0 rfl rfl 20 (by decide) (hts _ mw_523) (fun _ h9 => h9) rfl (by decide +kernel) rfl rfl (Nat.le_of_ble_eq_true rfl) d_M_compile_22 (fun H locs hP hD hS => ?_)
  have hP : va_P (dC, dI) vC [((o 0), .inr (4, [.int (0 : Int32), .int (Fa 1), .ref (o 1), .int (Fa 2), .ref (o 2), .ref (o 3), .ref (o 4), .ref (o 5), .ref (o 6), .int (Fa 3), .ref (o 7), .ref (o 8), .ref (o 9), .ref (o 10), .ref (o 11), .int (0 : Int32), .int (0 : Int32), .int (0 : Int32), .ref (o 12), .ref (o 13), .int (0 : Int32), .ref (o 14), .ref (o 15), .int (Fa 8), .int (Fa 9), .ref (o 16), .ref (o 17), .ref (o 18), .ref (o 19)])), ((o 1), .inl (cI, 160, .inl (Aa 0))), ((o 2), .inl (cI, 100, .inl (Aa 1))), ((o 3), .inl (cI, 100, .inl (Aa 2))), ((o 4), .inl (cI, 100, .inl (Aa 3))), ((o 5), .inl (cI, 3, .inl (Aa 4))), ((o 6), .inl (cI, 26, .inl (Aa 5))), ((o 7), .inl (cI, 100, .inl (Aa 6))), ((o 8), .inl (cI, 100, .inl (Aa 7))), ((o 9), .inl (cI, 100, .inl (Aa 8))), ((o 10), .inl (cI, 26, .inl (Aa 9))), ((o 11), .inl (cI, 104, .inl (Aa 10))), ((o 12), .inl (cI, 80, .inl (Aa 11))), ((o 13), .inl (cI, 320, .inl (Aa 12))), ((o 14), .inl (cI, 200, .inl (Aa 13))), ((o 15), .inl (cI, 200, .inl (Aa 14))), ((o 16), .inl (cI, 4, .inl (Aa 15))), ((o 17), .inl (cI, 32, .inl (Aa 16))), ((o 18), .inl (cI, 32, .inl (Aa 17))), ((o 19), .inl (cI, 100, .inl (Aa 18)))] H := hP
  have hD : va_D (va_A (wM o cI Fa Aa) s.heap.size) [((o 0), .inr (4, [.int (0 : Int32), .int (Fa 1), .ref (o 1), .int (Fa 2), .ref (o 2), .ref (o 3), .ref (o 4), .ref (o 5), .ref (o 6), .int (Fa 3), .ref (o 7), .ref (o 8), .ref (o 9), .ref (o 10), .ref (o 11), .int (0 : Int32), .int (0 : Int32), .int (0 : Int32), .ref (o 12), .ref (o 13), .int (0 : Int32), .ref (o 14), .ref (o 15), .int (Fa 8), .int (Fa 9), .ref (o 16), .ref (o 17), .ref (o 18), .ref (o 19)])), ((o 1), .inl (cI, 160, .inl (Aa 0))), ((o 2), .inl (cI, 100, .inl (Aa 1))), ((o 3), .inl (cI, 100, .inl (Aa 2))), ((o 4), .inl (cI, 100, .inl (Aa 3))), ((o 5), .inl (cI, 3, .inl (Aa 4))), ((o 6), .inl (cI, 26, .inl (Aa 5))), ((o 7), .inl (cI, 100, .inl (Aa 6))), ((o 8), .inl (cI, 100, .inl (Aa 7))), ((o 9), .inl (cI, 100, .inl (Aa 8))), ((o 10), .inl (cI, 26, .inl (Aa 9))), ((o 11), .inl (cI, 104, .inl (Aa 10))), ((o 12), .inl (cI, 80, .inl (Aa 11))), ((o 13), .inl (cI, 320, .inl (Aa 12))), ((o 14), .inl (cI, 200, .inl (Aa 13))), ((o 15), .inl (cI, 200, .inl (Aa 14))), ((o 16), .inl (cI, 4, .inl (Aa 15))), ((o 17), .inl (cI, 32, .inl (Aa 16))), ((o 18), .inl (cI, 32, .inl (Aa 17))), ((o 19), .inl (cI, 100, .inl (Aa 18)))] := hD
  refine lv_aload_n hx hb d_M_compile_25 rfl (lv_at hl 0 rfl) ?_
  refine lv_iconst (v := 0) hx hb d_M_compile_26 (by decide) ?_
  refine va_put (D := (dC, dI)) (ci := 4) (v := .int (0 : Int32)) (ty := .int) (C := R_M) (T := T_M) (N := 29) hx hb hts in_M ty_M ty_M_ok nm_M hown hK hP hD hS 0 rfl rfl 23 (by decide) (hts _ mw_526) (fun _ h9 => h9) rfl (by decide +kernel) rfl rfl (Nat.le_of_ble_eq_true rfl) d_M_compile_27 (fun H locs hP hD hS => ?_)
  have hP : va_P (dC, dI) vC [((o 0), .inr (4, [.int (0 : Int32), .int (Fa 1), .ref (o 1), .int (Fa 2), .ref (o 2), .ref (o 3), .ref (o 4), .ref (o 5), .ref (o 6), .int (Fa 3), .ref (o 7), .ref (o 8), .ref (o 9), .ref (o 10), .ref (o 11), .int (0 : Int32), .int (0 : Int32), .int (0 : Int32), .ref (o 12), .ref (o 13), .int (0 : Int32), .ref (o 14), .ref (o 15), .int (0 : Int32), .int (Fa 9), .ref (o 16), .ref (o 17), .ref (o 18), .ref (o 19)])), ((o 1), .inl (cI, 160, .inl (Aa 0))), ((o 2), .inl (cI, 100, .inl (Aa 1))), ((o 3), .inl (cI, 100, .inl (Aa 2))), ((o 4), .inl (cI, 100, .inl (Aa 3))), ((o 5), .inl (cI, 3, .inl (Aa 4))), ((o 6), .inl (cI, 26, .inl (Aa 5))), ((o 7), .inl (cI, 100, .inl (Aa 6))), ((o 8), .inl (cI, 100, .inl (Aa 7))), ((o 9), .inl (cI, 100, .inl (Aa 8))), ((o 10), .inl (cI, 26, .inl (Aa 9))), ((o 11), .inl (cI, 104, .inl (Aa 10))), ((o 12), .inl (cI, 80, .inl (Aa 11))), ((o 13), .inl (cI, 320, .inl (Aa 12))), ((o 14), .inl (cI, 200, .inl (Aa 13))), ((o 15), .inl (cI, 200, .inl (Aa 14))), ((o 16), .inl (cI, 4, .inl (Aa 15))), ((o 17), .inl (cI, 32, .inl (Aa 16))), ((o 18), .inl (cI, 32, .inl (Aa 17))), ((o 19), .inl (cI, 100, .inl (Aa 18)))] H := hP
  have hD : va_D (va_A (wM o cI Fa Aa) s.heap.size) [((o 0), .inr (4, [.int (0 : Int32), .int (Fa 1), .ref (o 1), .int (Fa 2), .ref (o 2), .ref (o 3), .ref (o 4), .ref (o 5), .ref (o 6), .int (Fa 3), .ref (o 7), .ref (o 8), .ref (o 9), .ref (o 10), .ref (o 11), .int (0 : Int32), .int (0 : Int32), .int (0 : Int32), .ref (o 12), .ref (o 13), .int (0 : Int32), .ref (o 14), .ref (o 15), .int (0 : Int32), .int (Fa 9), .ref (o 16), .ref (o 17), .ref (o 18), .ref (o 19)])), ((o 1), .inl (cI, 160, .inl (Aa 0))), ((o 2), .inl (cI, 100, .inl (Aa 1))), ((o 3), .inl (cI, 100, .inl (Aa 2))), ((o 4), .inl (cI, 100, .inl (Aa 3))), ((o 5), .inl (cI, 3, .inl (Aa 4))), ((o 6), .inl (cI, 26, .inl (Aa 5))), ((o 7), .inl (cI, 100, .inl (Aa 6))), ((o 8), .inl (cI, 100, .inl (Aa 7))), ((o 9), .inl (cI, 100, .inl (Aa 8))), ((o 10), .inl (cI, 26, .inl (Aa 9))), ((o 11), .inl (cI, 104, .inl (Aa 10))), ((o 12), .inl (cI, 80, .inl (Aa 11))), ((o 13), .inl (cI, 320, .inl (Aa 12))), ((o 14), .inl (cI, 200, .inl (Aa 13))), ((o 15), .inl (cI, 200, .inl (Aa 14))), ((o 16), .inl (cI, 4, .inl (Aa 15))), ((o 17), .inl (cI, 32, .inl (Aa 16))), ((o 18), .inl (cI, 32, .inl (Aa 17))), ((o 19), .inl (cI, 100, .inl (Aa 18)))] := hD
  refine lv_aload_n hx hb d_M_compile_30 rfl (lv_at hl 0 rfl) ?_
  refine lv_iconst (v := 0) hx hb d_M_compile_31 (by decide) ?_
  refine va_put (D := (dC, dI)) (ci := 4) (v := .int (0 : Int32)) (ty := .int) (C := R_M) (T := T_M) (N := 29) hx hb hts in_M ty_M ty_M_ok nm_M hown hK hP hD hS 0 rfl rfl 9 (by decide) (hts _ mw_512) (fun _ h9 => h9) rfl (by decide +kernel) rfl rfl (Nat.le_of_ble_eq_true rfl) d_M_compile_32 (fun H locs hP hD hS => ?_)
  have hP : va_P (dC, dI) vC [((o 0), .inr (4, [.int (0 : Int32), .int (Fa 1), .ref (o 1), .int (Fa 2), .ref (o 2), .ref (o 3), .ref (o 4), .ref (o 5), .ref (o 6), .int (0 : Int32), .ref (o 7), .ref (o 8), .ref (o 9), .ref (o 10), .ref (o 11), .int (0 : Int32), .int (0 : Int32), .int (0 : Int32), .ref (o 12), .ref (o 13), .int (0 : Int32), .ref (o 14), .ref (o 15), .int (0 : Int32), .int (Fa 9), .ref (o 16), .ref (o 17), .ref (o 18), .ref (o 19)])), ((o 1), .inl (cI, 160, .inl (Aa 0))), ((o 2), .inl (cI, 100, .inl (Aa 1))), ((o 3), .inl (cI, 100, .inl (Aa 2))), ((o 4), .inl (cI, 100, .inl (Aa 3))), ((o 5), .inl (cI, 3, .inl (Aa 4))), ((o 6), .inl (cI, 26, .inl (Aa 5))), ((o 7), .inl (cI, 100, .inl (Aa 6))), ((o 8), .inl (cI, 100, .inl (Aa 7))), ((o 9), .inl (cI, 100, .inl (Aa 8))), ((o 10), .inl (cI, 26, .inl (Aa 9))), ((o 11), .inl (cI, 104, .inl (Aa 10))), ((o 12), .inl (cI, 80, .inl (Aa 11))), ((o 13), .inl (cI, 320, .inl (Aa 12))), ((o 14), .inl (cI, 200, .inl (Aa 13))), ((o 15), .inl (cI, 200, .inl (Aa 14))), ((o 16), .inl (cI, 4, .inl (Aa 15))), ((o 17), .inl (cI, 32, .inl (Aa 16))), ((o 18), .inl (cI, 32, .inl (Aa 17))), ((o 19), .inl (cI, 100, .inl (Aa 18)))] H := hP
  have hD : va_D (va_A (wM o cI Fa Aa) s.heap.size) [((o 0), .inr (4, [.int (0 : Int32), .int (Fa 1), .ref (o 1), .int (Fa 2), .ref (o 2), .ref (o 3), .ref (o 4), .ref (o 5), .ref (o 6), .int (0 : Int32), .ref (o 7), .ref (o 8), .ref (o 9), .ref (o 10), .ref (o 11), .int (0 : Int32), .int (0 : Int32), .int (0 : Int32), .ref (o 12), .ref (o 13), .int (0 : Int32), .ref (o 14), .ref (o 15), .int (0 : Int32), .int (Fa 9), .ref (o 16), .ref (o 17), .ref (o 18), .ref (o 19)])), ((o 1), .inl (cI, 160, .inl (Aa 0))), ((o 2), .inl (cI, 100, .inl (Aa 1))), ((o 3), .inl (cI, 100, .inl (Aa 2))), ((o 4), .inl (cI, 100, .inl (Aa 3))), ((o 5), .inl (cI, 3, .inl (Aa 4))), ((o 6), .inl (cI, 26, .inl (Aa 5))), ((o 7), .inl (cI, 100, .inl (Aa 6))), ((o 8), .inl (cI, 100, .inl (Aa 7))), ((o 9), .inl (cI, 100, .inl (Aa 8))), ((o 10), .inl (cI, 26, .inl (Aa 9))), ((o 11), .inl (cI, 104, .inl (Aa 10))), ((o 12), .inl (cI, 80, .inl (Aa 11))), ((o 13), .inl (cI, 320, .inl (Aa 12))), ((o 14), .inl (cI, 200, .inl (Aa 13))), ((o 15), .inl (cI, 200, .inl (Aa 14))), ((o 16), .inl (cI, 4, .inl (Aa 15))), ((o 17), .inl (cI, 32, .inl (Aa 16))), ((o 18), .inl (cI, 32, .inl (Aa 17))), ((o 19), .inl (cI, 100, .inl (Aa 18)))] := hD
  refine lv_iconst (v := 0) hx hb d_M_compile_35 (by decide) ?_
  refine lv_istore_n hx hb d_M_compile_36 rfl hl (by decide) rfl (fun ls hl => ?_)
  have hl : lv_has ls 2 [(1, .int (0 : Int32)), (0, .ref (o 0))] := hl
  have hl : lv_has ls 2 [(0, .ref (o 0)), (1, .int (0 : Int32))] := lv_sub hl [1, 0] rfl
  exact L37 400 (0 : Int32) (upd (upd (upd (upd (upd (upd (upd Fa 0 (0 : Int32)) 4 (0 : Int32)) 5 (0 : Int32)) 6 (0 : Int32)) 7 (0 : Int32)) 8 (0 : Int32)) 3 (0 : Int32)) Aa _ _ _ hl hP hD hS hf
