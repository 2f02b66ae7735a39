def f_C_isDigit (u0 : Int32) : Int32 := if u0 < (48 : Int32) then ((0 : Int32)) else (if (57 : Int32) < u0 then ((0 : Int32)) else ((1 : Int32)))
set_option maxHeartbeats 4000000 in
set_option maxRecDepth 100000 in
theorem k_C_isDigit (l : Launch) (u0 : Int32) (r0 : Int32) (hf : f_C_isDigit u0 = r0) : cc_MetS l y_C_isDigit (Cond.code y_C_isDigit b_C_isDigit 1 (some .boolean) :: wA) ({ frames := 0, cells := 0, slots := 0, locals := 0 } : Room) ([.int u0] : List Value) r0 := by
  refine Met.ofW (cc := b_C_isDigit) (maxL := 1) (ret := (some .boolean)) (by decide) rfl ?_
  intro p e s m args below meth c s₁ B hml hv
  obtain rfl : args = ([.int u0] : List Value).toArray := hv
  have hx := B.exec
  have hb := B.bytes
  have hr := B.returns
  have hts := fun w h => atoms_spec (ws := (Cond.code y_C_isDigit b_C_isDigit 1 (some .boolean) :: wA)) B.pre w (List.mem_cons_of_mem _ h)
  have hown : s.vm.findClass R_C = some m.cls := findClass_of_methodNamed B.named
  have hlocks := B.notSynchronized
  have hl := lv_entry (([.int u0] : List Value)) (n := 1) (Nat.le_of_ble_eq_true rfl)
  rw [lg_entry_eq]
  generalize (lg_sl (([.int u0] : List Value)) ++ List.replicate (1 - (lg_sl (([.int u0] : List Value))).length) Slot.unset).toArray = ls at hl ⊢
  have hl : lv_has ls 1 [(0, .int u0)] := hl
  unfold f_C_isDigit at hf
  refine lv_iload_n hx hb d_C_isDigit_0 rfl (lv_at hl 0 rfl) ?_
  refine lv_bipush (v := 48) hx hb d_C_isDigit_1 (by decide) ?_
  refine lv_icmp_lt (tgt := 16) hx hb d_C_isDigit_3 (by decide) (fun h3_1 => ?_) (fun h3_1 => ?_)
  · rw [if_pos h3_1] at hf
    refine lv_iconst (v := 0) hx hb d_C_isDigit_16 (by decide) ?_
    exact W.zret (v := (0 : Int32)) hx hb hr (by rfl) (fun t ht hW => ⟨_, rfl, hf, ht⟩) (fun q h => by cases h) d_C_isDigit_17
  · rw [if_neg h3_1] at hf
    refine lv_iload_n hx hb d_C_isDigit_6 rfl (lv_at hl 0 rfl) ?_
    refine lv_bipush (v := 57) hx hb d_C_isDigit_7 (by decide) ?_
    refine lv_icmp_gt (tgt := 16) hx hb d_C_isDigit_9 (by decide) (fun h9_2 => ?_) (fun h9_2 => ?_)
    · rw [if_pos h9_2] at hf
      refine lv_iconst (v := 0) hx hb d_C_isDigit_16 (by decide) ?_
      exact W.zret (v := (0 : Int32)) hx hb hr (by rfl) (fun t ht hW => ⟨_, rfl, hf, ht⟩) (fun q h => by cases h) d_C_isDigit_17
    · rw [if_neg h9_2] at hf
      refine lv_iconst (v := 1) hx hb d_C_isDigit_12 (by decide) ?_
      refine lv_goto (tgt := 17) hx hb d_C_isDigit_13 (by decide) ?_
      exact W.zret (v := (1 : Int32)) hx hb hr (by rfl) (fun t ht hW => ⟨_, rfl, hf, ht⟩) (fun q h => by cases h) d_C_isDigit_17
def f_C_isSmall (u0 : Int32) : Int32 := if u0 < (97 : Int32) then ((0 : Int32)) else (if (122 : Int32) < u0 then ((0 : Int32)) else ((1 : Int32)))
set_option maxHeartbeats 4000000 in
set_option maxRecDepth 100000 in
theorem k_C_isSmall (l : Launch) (u0 : Int32) (r0 : Int32) (hf : f_C_isSmall u0 = r0) : cc_MetS l y_C_isSmall (Cond.code y_C_isSmall b_C_isSmall 1 (some .boolean) :: wA) ({ frames := 0, cells := 0, slots := 0, locals := 0 } : Room) ([.int u0] : List Value) r0 := by
  refine Met.ofW (cc := b_C_isSmall) (maxL := 1) (ret := (some .boolean)) (by decide) rfl ?_
  intro p e s m args below meth c s₁ B hml hv
  obtain rfl : args = ([.int u0] : List Value).toArray := hv
  have hx := B.exec
  have hb := B.bytes
  have hr := B.returns
  have hts := fun w h => atoms_spec (ws := (Cond.code y_C_isSmall b_C_isSmall 1 (some .boolean) :: wA)) B.pre w (List.mem_cons_of_mem _ h)
  have hown : s.vm.findClass R_C = some m.cls := findClass_of_methodNamed B.named
  have hlocks := B.notSynchronized
  have hl := lv_entry (([.int u0] : List Value)) (n := 1) (Nat.le_of_ble_eq_true rfl)
  rw [lg_entry_eq]
  generalize (lg_sl (([.int u0] : List Value)) ++ List.replicate (1 - (lg_sl (([.int u0] : List Value))).length) Slot.unset).toArray = ls at hl ⊢
  have hl : lv_has ls 1 [(0, .int u0)] := hl
  unfold f_C_isSmall at hf
  refine lv_iload_n hx hb d_C_isSmall_0 rfl (lv_at hl 0 rfl) ?_
  refine lv_bipush (v := 97) hx hb d_C_isSmall_1 (by decide) ?_
  refine lv_icmp_lt (tgt := 16) hx hb d_C_isSmall_3 (by decide) (fun h3_1 => ?_) (fun h3_1 => ?_)
  · rw [if_pos h3_1] at hf
    refine lv_iconst (v := 0) hx hb d_C_isSmall_16 (by decide) ?_
    exact W.zret (v := (0 : Int32)) hx hb hr (by rfl) (fun t ht hW => ⟨_, rfl, hf, ht⟩) (fun q h => by cases h) d_C_isSmall_17
  · rw [if_neg h3_1] at hf
    refine lv_iload_n hx hb d_C_isSmall_6 rfl (lv_at hl 0 rfl) ?_
    refine lv_bipush (v := 122) hx hb d_C_isSmall_7 (by decide) ?_
    refine lv_icmp_gt (tgt := 16) hx hb d_C_isSmall_9 (by decide) (fun h9_2 => ?_) (fun h9_2 => ?_)
    · rw [if_pos h9_2] at hf
      refine lv_iconst (v := 0) hx hb d_C_isSmall_16 (by decide) ?_
      exact W.zret (v := (0 : Int32)) hx hb hr (by rfl) (fun t ht hW => ⟨_, rfl, hf, ht⟩) (fun q h => by cases h) d_C_isSmall_17
    · rw [if_neg h9_2] at hf
      refine lv_iconst (v := 1) hx hb d_C_isSmall_12 (by decide) ?_
      refine lv_goto (tgt := 17) hx hb d_C_isSmall_13 (by decide) ?_
      exact W.zret (v := (1 : Int32)) hx hb hr (by rfl) (fun t ht hW => ⟨_, rfl, hf, ht⟩) (fun q h => by cases h) d_C_isSmall_17
def f_C_isPlace (u0 : Int32) : Int32 := if u0 < (120 : Int32) then ((0 : Int32)) else (if (122 : Int32) < u0 then ((0 : Int32)) else ((1 : Int32)))
set_option maxHeartbeats 4000000 in
set_option maxRecDepth 100000 in
theorem k_C_isPlace (l : Launch) (u0 : Int32) (r0 : Int32) (hf : f_C_isPlace u0 = r0) : cc_MetS l y_C_isPlace (Cond.code y_C_isPlace b_C_isPlace 1 (some .boolean) :: wA) ({ frames := 0, cells := 0, slots := 0, locals := 0 } : Room) ([.int u0] : List Value) r0 := by
  refine Met.ofW (cc := b_C_isPlace) (maxL := 1) (ret := (some .boolean)) (by decide) rfl ?_
  intro p e s m args below meth c s₁ B hml hv
  obtain rfl : args = ([.int u0] : List Value).toArray := hv
  have hx := B.exec
  have hb := B.bytes
  have hr := B.returns
  have hts := fun w h => atoms_spec (ws := (Cond.code y_C_isPlace b_C_isPlace 1 (some .boolean) :: wA)) B.pre w (List.mem_cons_of_mem _ h)
  have hown : s.vm.findClass R_C = some m.cls := findClass_of_methodNamed B.named
  have hlocks := B.notSynchronized
  have hl := lv_entry (([.int u0] : List Value)) (n := 1) (Nat.le_of_ble_eq_true rfl)
  rw [lg_entry_eq]
  generalize (lg_sl (([.int u0] : List Value)) ++ List.replicate (1 - (lg_sl (([.int u0] : List Value))).length) Slot.unset).toArray = ls at hl ⊢
  have hl : lv_has ls 1 [(0, .int u0)] := hl
  unfold f_C_isPlace at hf
  refine lv_iload_n hx hb d_C_isPlace_0 rfl (lv_at hl 0 rfl) ?_
  refine lv_bipush (v := 120) hx hb d_C_isPlace_1 (by decide) ?_
  refine lv_icmp_lt (tgt := 16) hx hb d_C_isPlace_3 (by decide) (fun h3_1 => ?_) (fun h3_1 => ?_)
  · rw [if_pos h3_1] at hf
    refine lv_iconst (v := 0) hx hb d_C_isPlace_16 (by decide) ?_
    exact W.zret (v := (0 : Int32)) hx hb hr (by rfl) (fun t ht hW => ⟨_, rfl, hf, ht⟩) (fun q h => by cases h) d_C_isPlace_17
  · rw [if_neg h3_1] at hf
    refine lv_iload_n hx hb d_C_isPlace_6 rfl (lv_at hl 0 rfl) ?_
    refine lv_bipush (v := 122) hx hb d_C_isPlace_7 (by decide) ?_
    refine lv_icmp_gt (tgt := 16) hx hb d_C_isPlace_9 (by decide) (fun h9_2 => ?_) (fun h9_2 => ?_)
    · rw [if_pos h9_2] at hf
      refine lv_iconst (v := 0) hx hb d_C_isPlace_16 (by decide) ?_
      exact W.zret (v := (0 : Int32)) hx hb hr (by rfl) (fun t ht hW => ⟨_, rfl, hf, ht⟩) (fun q h => by cases h) d_C_isPlace_17
    · rw [if_neg h9_2] at hf
      refine lv_iconst (v := 1) hx hb d_C_isPlace_12 (by decide) ?_
      refine lv_goto (tgt := 17) hx hb d_C_isPlace_13 (by decide) ?_
      exact W.zret (v := (1 : Int32)) hx hb hr (by rfl) (fun t ht hW => ⟨_, rfl, hf, ht⟩) (fun q h => by cases h) d_C_isPlace_17
def f_C_isVariable (u0 : Int32) : Int32 := if (f_C_isPlace u0) = 0 then (if u0 = (116 : Int32) then ((0 : Int32)) else (if u0 = (99 : Int32) then ((0 : Int32)) else ((1 : Int32)))) else ((0 : Int32))
set_option maxHeartbeats 4000000 in
set_option maxRecDepth 100000 in
theorem k_C_isVariable (l : Launch) (u0 : Int32) (r0 : Int32) (hf : f_C_isVariable u0 = r0) : cc_MetS l y_C_isVariable (Cond.code y_C_isVariable b_C_isVariable 1 (some .boolean) :: wA) ({ frames := 1, cells := 0, slots := 0, locals := 20 } : Room) ([.int u0] : List Value) r0 := by
  refine Met.ofW (cc := b_C_isVariable) (maxL := 1) (ret := (some .boolean)) (by decide) rfl ?_
  intro p e s m args below meth c s₁ B hml hv
  obtain rfl : args = ([.int u0] : List Value).toArray := hv
  have hx := B.exec
  have hb := B.bytes
  have hr := B.returns
  have hts := fun w h => atoms_spec (ws := (Cond.code y_C_isVariable b_C_isVariable 1 (some .boolean) :: wA)) B.pre w (List.mem_cons_of_mem _ h)
  have hown : s.vm.findClass R_C = some m.cls := findClass_of_methodNamed B.named
  have hlocks := B.notSynchronized
  have hl := lv_entry (([.int u0] : List Value)) (n := 1) (Nat.le_of_ble_eq_true rfl)
  rw [lg_entry_eq]
  generalize (lg_sl (([.int u0] : List Value)) ++ List.replicate (1 - (lg_sl (([.int u0] : List Value))).length) Slot.unset).toArray = ls at hl ⊢
  have hl : lv_has ls 1 [(0, .int u0)] := hl
  unfold f_C_isVariable at hf
  refine lv_iload_n hx hb d_C_isVariable_0 rfl (lv_at hl 0 rfl) ?_
  refine cc_calls (va_runS (As := [.int u0]) (rest := []) ⟨hx, hb, hml, hown, hts⟩ (k_C_isPlace l u0 _ rfl) (cw_S 1 hts mw_162 mw_163 mw_3 mw_164 rfl rfl hd_C_isPlace ⟨Nat.le_of_ble_eq_true rfl, Nat.le_of_ble_eq_true rfl⟩) cc_preS rfl rfl hl.1 rfl (lv_room (Nat.le_of_ble_eq_true rfl)) d_C_isVariable_1 ⟨Nat.zero_le _, Nat.zero_le _⟩) ?_
  refine lv_if_ne (tgt := 23) hx hb d_C_isVariable_4 (by decide) (fun h4_1 => ?_) (fun h4_1 => ?_)
  · rw [if_neg h4_1] at hf
    refine lv_iconst (v := 0) hx hb d_C_isVariable_23 (by decide) ?_
    exact W.zret (v := (0 : Int32)) hx hb hr (by rfl) (fun t ht hW => ⟨_, rfl, hf, ht⟩) (fun q h => by cases h) d_C_isVariable_24
  · rw [if_pos h4_1] at hf
    refine lv_iload_n hx hb d_C_isVariable_7 rfl (lv_at hl 0 rfl) ?_
    refine lv_bipush (v := 116) hx hb d_C_isVariable_8 (by decide) ?_
    refine lv_icmp_eq (tgt := 23) hx hb d_C_isVariable_10 (by decide) (fun h10_2 => ?_) (fun h10_2 => ?_)
    · rw [if_pos h10_2] at hf
      refine lv_iconst (v := 0) hx hb d_C_isVariable_23 (by decide) ?_
      exact W.zret (v := (0 : Int32)) hx hb hr (by rfl) (fun t ht hW => ⟨_, rfl, hf, ht⟩) (fun q h => by cases h) d_C_isVariable_24
    · rw [if_neg h10_2] at hf
      refine lv_iload_n hx hb d_C_isVariable_13 rfl (lv_at hl 0 rfl) ?_
      refine lv_bipush (v := 99) hx hb d_C_isVariable_14 (by decide) ?_
      refine lv_icmp_eq (tgt := 23) hx hb d_C_isVariable_16 (by decide) (fun h16_3 => ?_) (fun h16_3 => ?_)
      · rw [if_pos h16_3] at hf
        refine lv_iconst (v := 0) hx hb d_C_isVariable_23 (by decide) ?_
        exact W.zret (v := (0 : Int32)) hx hb hr (by rfl) (fun t ht hW => ⟨_, rfl, hf, ht⟩) (fun q h => by cases h) d_C_isVariable_24
      · rw [if_neg h16_3] at hf
        refine lv_iconst (v := 1) hx hb d_C_isVariable_19 (by decide) ?_
        refine lv_goto (tgt := 24) hx hb d_C_isVariable_20 (by decide) ?_
        exact W.zret (v := (1 : Int32)) hx hb hr (by rfl) (fun t ht hW => ⟨_, rfl, hf, ht⟩) (fun q h => by cases h) d_C_isVariable_24
def f_C_digit  (Fa : ST_F) (Aa : ST_A) : Option (Int32 × ST_F × ST_A) := ra_bi (f_C_next  Fa Aa) (fun r1 F1 A1 => some ((r1 - (48 : Int32)), (upd F1 1 ((F1 1) + (1 : Int32))), A1))
set_option maxHeartbeats 4000000 in
set_option maxRecDepth 100000 in
theorem k_C_digit (l : Launch) (dC : Nat → ClassId) (dI : Nat → Nat → Nat) (a : Nat → Nat) (cI cC : ClassId) (sz : Nat) (Fa : ST_F) (Aa : ST_A)  (r0 : Int32) (F9 : ST_F) (A9 : ST_A) (hf : f_C_digit  Fa Aa = some (r0, F9, A9)) : cc_MetI l y_C_digit (Cond.code y_C_digit b_C_digit 2 (some .int) :: wA) ({ frames := 1, cells := 0, slots := 0, locals := 20 } : Room) (dC, dI) vC [(cI, .int), (cC, .char)] ([.ref (a 0)] : List Value) (wC a cI cC Fa Aa) sz (wC a cI cC F9 A9) r0 := by
  refine Met.ofW (cc := b_C_digit) (maxL := 2) (ret := (some .int)) (by decide) rfl ?_
  intro p e s m args below meth c s₁ B hml hv
  obtain ⟨rfl, hsz, hP, hK, hD0⟩ := hv
  have hx := B.exec
  have hb := B.bytes
  have hr := B.returns
  have hts := fun w h => atoms_spec (ws := (Cond.code y_C_digit b_C_digit 2 (some .int) :: wA)) B.pre w (List.mem_cons_of_mem _ h)
  have hown : s.vm.findClass R_C = some m.cls := findClass_of_methodNamed B.named
  have hlocks := B.notSynchronized
  subst hsz
  have hD := hD0.self (sz := s.heap.size)
  have hA : ∀ q : Nat, s.heap.size ≤ q → va_A (wC a cI cC Fa Aa) s.heap.size q := fun q h => Or.inr h
  have hS : va_S (va_A (wC a cI cC Fa Aa) s.heap.size) s.heap s.heap [] := va_S.rf
  have hl := lv_entry (([.ref (a 0)] : List Value)) (n := 2) (Nat.le_of_ble_eq_true rfl)
  rw [lg_entry_eq]
  generalize (lg_sl (([.ref (a 0)] : List Value)) ++ List.replicate (2 - (lg_sl (([.ref (a 0)] : List Value))).length) Slot.unset).toArray = ls at hl ⊢
  have hl : lv_has ls 2 [(0, .ref (a 0))] := hl
  unfold f_C_digit at hf
  refine lv_aload_n hx hb d_C_digit_0 rfl (lv_at hl 0 rfl) ?_
  have hP : va_P (dC, dI) vC (wC a cI cC Fa Aa) s.heap := hP
  have hD : va_D (va_A (wC a cI cC Fa Aa) s.heap.size) (wC a cI cC Fa Aa) := hD
  obtain ⟨r1, F1, A1, hc, hf⟩ := ra_bi_some hf
  refine cc_calli (va_runV (As := []) (rest := []) ⟨hx, hb, hml, hown, hts⟩ (k_C_next l dC dI a cI cC s.heap.size Fa Aa  r1 F1 A1 hc) (cw_V 0 hts mw_155 mw_157 ms_C_next mw_3 mw_158 rfl rfl rfl hd_C_next ⟨Nat.le_of_ble_eq_true rfl, Nat.le_of_ble_eq_true rfl⟩) (cc_preV hK hP hD rfl (q0 := 0) rfl) rfl rfl hl.1 rfl (lv_room (Nat.le_of_ble_eq_true rfl)) d_C_digit_1 ⟨Nat.zero_le _, Nat.zero_le _⟩) hD hS hA (fun H locs hP hD hS => ?_)
  refine lv_bipush (v := 48) hx hb d_C_digit_4 (by decide) ?_
  refine lv_isub hx hb d_C_digit_6 ?_
  refine lv_istore_n hx hb d_C_digit_7 rfl hl (by decide) rfl (fun ls hl => ?_)
  have hl : lv_has ls 2 [(1, .int (r1 - (48 : Int32))), (0, .ref (a 0))] := hl
  refine lv_aload_n hx hb d_C_digit_8 rfl (lv_at hl 1 rfl) ?_
  refine lv_dup hx hb d_C_digit_9 rfl ?_
  refine va_get (D := (dC, dI)) (ci := 1) (v := .int (F1 1)) (C := R_C) (T := T_C) (N := 5) hx hb hts in_C hown hK hP 0 rfl rfl 3 (by decide) (hts _ mw_78) (fun _ h9 => h9) rfl d_C_digit_10 ?_
  refine lv_iconst (v := 1) hx hb d_C_digit_13 (by decide) ?_
  refine lv_iadd hx hb d_C_digit_14 ?_
  refine va_put (D := (dC, dI)) (ci := 1) (v := .int ((F1 1) + (1 : Int32))) (ty := .int) (C := R_C) (T := T_C) (N := 5) hx hb hts in_C ty_C ty_C_ok nm_C hown hK hP hD hS 0 rfl rfl 3 (by decide) (hts _ mw_78) (fun _ h9 => h9) rfl (by decide +kernel) rfl rfl (Nat.le_of_ble_eq_true rfl) d_C_digit_15 (fun H locs hP hD hS => ?_)
  have hP : va_P (dC, dI) vC [((a 0), .inr (1, [.ref (a 1), .ref (a 2), .int (F1 0), .int ((F1 1) + (1 : Int32)), .ref (a 3)])), ((a 1), .inl (cI, 26, .inl (A1 0))), ((a 2), .inl (cC, 160, .inl (A1 1))), ((a 3), .inr (0, [.ref (a 4), .ref (a 5), .ref (a 6), .ref (a 7), .ref (a 8), .int (F1 2), .int (F1 3)])), ((a 4), .inl (cI, 100, .inl (A1 2))), ((a 5), .inl (cI, 100, .inl (A1 3))), ((a 6), .inl (cI, 100, .inl (A1 4))), ((a 7), .inl (cI, 3, .inl (A1 5))), ((a 8), .inl (cI, 26, .inl (A1 6)))] H := hP
  have hD : va_D (va_A (wC a cI cC Fa Aa) s.heap.size) [((a 0), .inr (1, [.ref (a 1), .ref (a 2), .int (F1 0), .int ((F1 1) + (1 : Int32)), .ref (a 3)])), ((a 1), .inl (cI, 26, .inl (A1 0))), ((a 2), .inl (cC, 160, .inl (A1 1))), ((a 3), .inr (0, [.ref (a 4), .ref (a 5), .ref (a 6), .ref (a 7), .ref (a 8), .int (F1 2), .int (F1 3)])), ((a 4), .inl (cI, 100, .inl (A1 2))), ((a 5), .inl (cI, 100, .inl (A1 3))), ((a 6), .inl (cI, 100, .inl (A1 4))), ((a 7), .inl (cI, 3, .inl (A1 5))), ((a 8), .inl (cI, 26, .inl (A1 6)))] := hD
  refine lv_iload_n hx hb d_C_digit_18 rfl (lv_at hl 0 rfl) ?_
  cases hf
  exact W.iret hx hb hr (fun t ht hW => ⟨⟨_, (), rfl, rfl, by rw [ht]; exact hP, va_K.moved hW.alike hK, hD⟩, hS.F ht⟩) hS.2.2 d_C_digit_19
def f_C_isAssignmentNext  (Fa : ST_F) (Aa : ST_A) : Option (Int32 × ST_F × ST_A) := if (Fa 0) ≤ ((Fa 1) + (1 : Int32)) then (some ((0 : Int32), Fa, Aa)) else (ra_g (Fa 1) 160 (if (f_C_isSmall ((Aa 1) (Fa 1).toNatClampNeg)) = 0 then (some ((0 : Int32), Fa, Aa)) else (ra_g ((Fa 1) + (1 : Int32)) 160 (if ((Aa 1) ((Fa 1) + (1 : Int32)).toNatClampNeg) = (61 : Int32) then (some ((1 : Int32), Fa, Aa)) else (some ((0 : Int32), Fa, Aa))))))
set_option maxHeartbeats 4000000 in
set_option maxRecDepth 100000 in
theorem k_C_isAssignmentNext (l : Launch) (dC : Nat → ClassId) (dI : Nat → Nat → Nat) (a : Nat → Nat) (cI cC : ClassId) (sz : Nat) (Fa : ST_F) (Aa : ST_A)  (r0 : Int32) (F9 : ST_F) (A9 : ST_A) (hf : f_C_isAssignmentNext  Fa Aa = some (r0, F9, A9)) : cc_MetI l y_C_isAssignmentNext (Cond.code y_C_isAssignmentNext b_C_isAssignmentNext 1 (some .boolean) :: wA) ({ frames := 1, cells := 0, slots := 0, locals := 20 } : Room) (dC, dI) vC [(cI, .int), (cC, .char)] ([.ref (a 0)] : List Value) (wC a cI cC Fa Aa) sz (wC a cI cC F9 A9) r0 := by
  refine Met.ofW (cc := b_C_isAssignmentNext) (maxL := 1) (ret := (some .boolean)) (by decide) rfl ?_
  intro p e s m args below meth c s₁ B hml hv
  obtain ⟨rfl, hsz, hP, hK, hD0⟩ := hv
  have hx := B.exec
  have hb := B.bytes
  have hr := B.returns
  have hts := fun w h => atoms_spec (ws := (Cond.code y_C_isAssignmentNext b_C_isAssignmentNext 1 (some .boolean) :: wA)) B.pre w (List.mem_cons_of_mem _ h)
  have hown : s.vm.findClass R_C = some m.cls := findClass_of_methodNamed B.named
  have hlocks := B.notSynchronized
  subst hsz
  have hD := hD0.self (sz := s.heap.size)
  have hA : ∀ q : Nat, s.heap.size ≤ q → va_A (wC a cI cC Fa Aa) s.heap.size q := fun q h => Or.inr h
  have hS : va_S (va_A (wC a cI cC Fa Aa) s.heap.size) s.heap s.heap [] := va_S.rf
  have hl := lv_entry (([.ref (a 0)] : List Value)) (n := 1) (Nat.le_of_ble_eq_true rfl)
  rw [lg_entry_eq]
  generalize (lg_sl (([.ref (a 0)] : List Value)) ++ List.replicate (1 - (lg_sl (([.ref (a 0)] : List Value))).length) Slot.unset).toArray = ls at hl ⊢
  have hl : lv_has ls 1 [(0, .ref (a 0))] := hl
  unfold f_C_isAssignmentNext at hf
  refine lv_aload_n hx hb d_C_isAssignmentNext_0 rfl (lv_at hl 0 rfl) ?_
  refine va_get (D := (dC, dI)) (ci := 1) (v := .int (Fa 1)) (C := R_C) (T := T_C) (N := 5) hx hb hts in_C hown hK hP 0 rfl rfl 3 (by decide) (hts _ mw_78) (fun _ h9 => h9) rfl d_C_isAssignmentNext_1 ?_
  refine lv_iconst (v := 1) hx hb d_C_isAssignmentNext_4 (by decide) ?_
  refine lv_iadd hx hb d_C_isAssignmentNext_5 ?_
  refine lv_aload_n hx hb d_C_isAssignmentNext_6 rfl (lv_at hl 0 rfl) ?_
  refine va_get (D := (dC, dI)) (ci := 1) (v := .int (Fa 0)) (C := R_C) (T := T_C) (N := 5) hx hb hts in_C hown hK hP 0 rfl rfl 2 (by decide) (hts _ mw_77) (fun _ h9 => h9) rfl d_C_isAssignmentNext_7 ?_
  refine lv_icmp_ge (tgt := 48) hx hb d_C_isAssignmentNext_10 (by decide) (fun h10_1 => ?_) (fun h10_1 => ?_)
  · rw [if_pos h10_1] at hf
    refine lv_iconst (v := 0) hx hb d_C_isAssignmentNext_48 (by decide) ?_
    cases hf
    exact W.zret hx hb hr (by rfl) (fun t ht hW => ⟨⟨_, (), rfl, rfl, by rw [ht]; exact hP, va_K.moved hW.alike hK, hD⟩, hS.F ht⟩) hS.2.2 d_C_isAssignmentNext_49
  · rw [if_neg h10_1] at hf
    refine lv_aload_n hx hb d_C_isAssignmentNext_13 rfl (lv_at hl 0 rfl) ?_
    refine va_get (D := (dC, dI)) (ci := 1) (v := .ref (a 2)) (C := R_C) (T := T_C) (N := 5) hx hb hts in_C hown hK hP 0 rfl rfl 1 (by decide) (hts _ mw_76) (fun _ h9 => h9) rfl d_C_isAssignmentNext_14 ?_
    refine lv_aload_n hx hb d_C_isAssignmentNext_17 rfl (lv_at hl 0 rfl) ?_
    refine va_get (D := (dC, dI)) (ci := 1) (v := .int (Fa 1)) (C := R_C) (T := T_C) (N := 5) hx hb hts in_C hown hK hP 0 rfl rfl 3 (by decide) (hts _ mw_78) (fun _ h9 => h9) rfl d_C_isAssignmentNext_18 ?_
    obtain ⟨hi, hf⟩ := ra_g_some hf
    refine va_cald hx hb hK hP 2 1 rfl rfl hi d_C_isAssignmentNext_21 ?_
    refine cc_calls (va_runS (As := [.int ((Aa 1) (Fa 1).toNatClampNeg)]) (rest := []) ⟨hx, hb, hml, hown, hts⟩ (k_C_isSmall l ((Aa 1) (Fa 1).toNatClampNeg) _ rfl) (cw_S 1 hts mw_148 mw_149 mw_3 mw_150 rfl rfl hd_C_isSmall ⟨Nat.le_of_ble_eq_true rfl, Nat.le_of_ble_eq_true rfl⟩) cc_preS rfl rfl hl.1 rfl (lv_room (Nat.le_of_ble_eq_true rfl)) d_C_isAssignmentNext_22 ⟨Nat.zero_le _, Nat.zero_le _⟩) ?_
    refine lv_if_eq (tgt := 48) hx hb d_C_isAssignmentNext_25 (by decide) (fun h25_2 => ?_) (fun h25_2 => ?_)
    · rw [if_pos h25_2] at hf
      refine lv_iconst (v := 0) hx hb d_C_isAssignmentNext_48 (by decide) ?_
      cases hf
      exact W.zret hx hb hr (by rfl) (fun t ht hW => ⟨⟨_, (), rfl, rfl, by rw [ht]; exact hP, va_K.moved hW.alike hK, hD⟩, hS.F ht⟩) hS.2.2 d_C_isAssignmentNext_49
    · rw [if_neg h25_2] at hf
      refine lv_aload_n hx hb d_C_isAssignmentNext_28 rfl (lv_at hl 0 rfl) ?_
      refine va_get (D := (dC, dI)) (ci := 1) (v := .ref (a 2)) (C := R_C) (T := T_C) (N := 5) hx hb hts in_C hown hK hP 0 rfl rfl 1 (by decide) (hts _ mw_76) (fun _ h9 => h9) rfl d_C_isAssignmentNext_29 ?_
      refine lv_aload_n hx hb d_C_isAssignmentNext_32 rfl (lv_at hl 0 rfl) ?_
      refine va_get (D := (dC, dI)) (ci := 1) (v := .int (Fa 1)) (C := R_C) (T := T_C) (N := 5) hx hb hts in_C hown hK hP 0 rfl rfl 3 (by decide) (hts _ mw_78) (fun _ h9 => h9) rfl d_C_isAssignmentNext_33 ?_
      refine lv_iconst (v := 1) hx hb d_C_isAssignmentNext_36 (by decide) ?_
      refine lv_iadd hx hb d_C_isAssignmentNext_37 ?_
      obtain ⟨hi, hf⟩ := ra_g_some hf
      refine va_cald hx hb hK hP 2 1 rfl rfl hi d_C_isAssignmentNext_38 ?_
      refine lv_bipush (v := 61) hx hb d_C_isAssignmentNext_39 (by decide) ?_
      refine lv_icmp_ne (tgt := 48) hx hb d_C_isAssignmentNext_41 (by decide) (fun h41_3 => ?_) (fun h41_3 => ?_)
      · rw [if_neg h41_3] at hf
        refine lv_iconst (v := 0) hx hb d_C_isAssignmentNext_48 (by decide) ?_
        cases hf
        exact W.zret hx hb hr (by rfl) (fun t ht hW => ⟨⟨_, (), rfl, rfl, by rw [ht]; exact hP, va_K.moved hW.alike hK, hD⟩, hS.F ht⟩) hS.2.2 d_C_isAssignmentNext_49
      · rw [if_pos h41_3] at hf
        refine lv_iconst (v := 1) hx hb d_C_isAssignmentNext_44 (by decide) ?_
        refine lv_goto (tgt := 49) hx hb d_C_isAssignmentNext_45 (by decide) ?_
        cases hf
        exact W.zret hx hb hr (by rfl) (fun t ht hW => ⟨⟨_, (), rfl, rfl, by rw [ht]; exact hP, va_K.moved hW.alike hK, hD⟩, hS.F ht⟩) hS.2.2 d_C_isAssignmentNext_49
def f_C_input_L8 : Nat → Int32 → Int32 → Int32 → Int32 → ST_F → ST_A → Option (Int32 × ST_F × ST_A)
  | 0, _, _, _, _, _, _ => none
  | n + 1, x1, x2, x3, x4, F, A => if x2 ≤ x4 then (some (x3, F, A)) else (ra_bi (f_K_put (1 : Int32) (x1 + x4) (0 : Int32) F A) (fun r2 F2 A2 => f_C_input_L8 n x1 x2 (f_V_withNumber x3 x4 r2) (x4 + (1 : Int32)) F2 A2))
def f_C_input (u1 : Int32) (u2 : Int32) (Fa : ST_F) (Aa : ST_A) : Option (Int32 × ST_F × ST_A) := f_C_input_L8 400 u1 u2 (f_V_ofType u2) (0 : Int32) Fa Aa
set_option maxHeartbeats 4000000 in
set_option maxRecDepth 100000 in
theorem k_C_input (l : Launch) (dC : Nat → ClassId) (dI : Nat → Nat → Nat) (a : Nat → Nat) (cI cC : ClassId) (sz : Nat) (Fa : ST_F) (Aa : ST_A) (u1 : Int32) (u2 : Int32) (r0 : Int32) (F9 : ST_F) (A9 : ST_A) (hf : f_C_input u1 u2 Fa Aa = some (r0, F9, A9)) : cc_MetI l y_C_input (Cond.code y_C_input b_C_input 5 (some .int) :: wA) ({ frames := 1, cells := 0, slots := 0, locals := 24 } : Room) (dC, dI) vC [(cI, .int), (cC, .char)] ([.ref (a 0), .int u1, .int u2] : List Value) (wC a cI cC Fa Aa) sz (wC a cI cC F9 A9) r0 := by
  refine Met.ofW (cc := b_C_input) (maxL := 5) (ret := (some .int)) (by decide) rfl ?_
  intro p e s m args below meth c s₁ B hml hv
  obtain ⟨rfl, hsz, hP, hK, hD0⟩ := hv
  have hx := B.exec
  have hb := B.bytes
  have hr := B.returns
  have hts := fun w h => atoms_spec (ws := (Cond.code y_C_input b_C_input 5 (some .int) :: wA)) B.pre w (List.mem_cons_of_mem _ h)
  have hown : s.vm.findClass R_C = some m.cls := findClass_of_methodNamed B.named
  have hlocks := B.notSynchronized
  subst hsz
  have hD := hD0.self (sz := s.heap.size)
  have hA : ∀ q : Nat, s.heap.size ≤ q → va_A (wC a cI cC Fa Aa) s.heap.size q := fun q h => Or.inr h
  have hS : va_S (va_A (wC a cI cC Fa Aa) s.heap.size) s.heap s.heap [] := va_S.rf
  have hl := lv_entry (([.ref (a 0), .int u1, .int u2] : List Value)) (n := 5) (Nat.le_of_ble_eq_true rfl)
  have L8 : ∀ (n : Nat) (x1 : Int32) (x2 : Int32) (x3 : Int32) (x4 : Int32) (F : ST_F) (A : ST_A) (H : Heap) (locs : List Loc) (ls : Array Slot), lv_has ls 5 [(0, .ref (a 0)), (1, .int x1), (2, .int x2), (3, .int x3), (4, .int x4)] → va_P (dC, dI) vC (wC a cI cC F A) H → va_D (va_A (wC a cI cC Fa Aa) s.heap.size) (wC a cI cC F A) → va_S (va_A (wC a cI cC Fa Aa) s.heap.size) s.heap H locs → f_C_input_L8 n x1 x2 x3 x4 F A = some (r0, F9, A9) → W p l e (headSpec (Cond.code y_C_input b_C_input 5 (some .int) :: wA) ({ frames := 1, cells := 0, slots := 0, locals := 24 } : Room)).room s m ([.ref (a 0), .int u1, .int u2] : List Value).toArray below meth c H locs 0 0 (MQ below (cc_Qi (dC, dI) vC [(cI, .int), (cC, .char)] (wC a cI cC Fa Aa) s.heap.size (wC a cI cC F9 A9) r0) ([.ref (a 0), .int u1, .int u2] : List Value).toArray s 0 0 (va_A (wC a cI cC Fa Aa) s.heap.size)) (F0 m 8 ls []) := by
    intro n
    induction n with
    | zero => intro x1 x2 x3 x4 F A H locs ls hl hP hD hS hf; cases hf
    | succ n ih =>
      intro x1 x2 x3 x4 F A H locs ls hl hP hD hS hf
      rw [f_C_input_L8] at hf
      refine lv_iload hx hb d_C_input_8 (lv_at hl 4 rfl) ?_
      refine lv_iload_n hx hb d_C_input_10 rfl (lv_at hl 2 rfl) ?_
      refine lv_icmp_ge (tgt := 40) hx hb d_C_input_11 (by decide) (fun h11_1 => ?_) (fun h11_1 => ?_)
      · rw [if_pos h11_1] at hf
        refine lv_iload_n hx hb d_C_input_40 rfl (lv_at hl 3 rfl) ?_
        cases hf
        exact W.iret hx hb hr (fun t ht hW => ⟨⟨_, (), rfl, rfl, by rw [ht]; exact hP, va_K.moved hW.alike hK, hD⟩, hS.F ht⟩) hS.2.2 d_C_input_41
      · rw [if_neg h11_1] at hf
        refine lv_iload_n hx hb d_C_input_14 rfl (lv_at hl 3 rfl) ?_
        refine lv_iload hx hb d_C_input_15 (lv_at hl 4 rfl) ?_
        refine lv_aload_n hx hb d_C_input_17 rfl (lv_at hl 0 rfl) ?_
        refine va_get (D := (dC, dI)) (ci := 1) (v := .ref (a 3)) (C := R_C) (T := T_C) (N := 5) hx hb hts in_C hown hK hP 0 rfl rfl 4 (by decide) (hts _ mw_79) (fun _ h9 => h9) rfl d_C_input_18 ?_
        refine lv_iconst (v := 1) hx hb d_C_input_21 (by decide) ?_
        refine lv_iload_n hx hb d_C_input_22 rfl (lv_at hl 1 rfl) ?_
        refine lv_iload hx hb d_C_input_23 (lv_at hl 4 rfl) ?_
        refine lv_iadd hx hb d_C_input_25 ?_
        refine lv_iconst (v := 0) hx hb d_C_input_26 (by decide) ?_
        have hP : va_P (dC, dI) vC (wC a cI cC F A) H := hP
        have hD : va_D (va_A (wC a cI cC Fa Aa) s.heap.size) (wC a cI cC F A) := hD
        obtain ⟨r2, F2, A2, hc, hf⟩ := ra_bi_some hf
        refine cc_calli (va_runV (As := [.int (1 : Int32), .int (x1 + x4), .int (0 : Int32)]) (rest := [.int x4, .int x3]) ⟨hx, hb, hml, hown, hts⟩ (k_K_put l dC dI a cI cC H.size F A (1 : Int32) (x1 + x4) (0 : Int32) r2 F2 A2 hc) (cw_V 3 hts mw_196 mw_197 mw_198 mw_2 mw_199 rfl rfl rfl hd_K_put ⟨Nat.le_of_ble_eq_true rfl, Nat.le_of_ble_eq_true rfl⟩) (cc_preV hK hP hD rfl (q0 := 3) rfl) rfl rfl hl.1 rfl (lv_room (Nat.le_of_ble_eq_true rfl)) d_C_input_27 ⟨Nat.zero_le _, Nat.zero_le _⟩) hD hS hA (fun H locs hP hD hS => ?_)
        refine cc_calls (va_runS (As := [.int x3, .int x4, .int r2]) (rest := []) ⟨hx, hb, hml, hown, hts⟩ (k_V_withNumber l x3 x4 r2 _ rfl) (cw_S 3 hts mw_200 mw_201 mw_11 mw_202 rfl rfl hd_V_withNumber ⟨Nat.le_of_ble_eq_true rfl, Nat.le_of_ble_eq_true rfl⟩) cc_preS rfl rfl hl.1 rfl (lv_room (Nat.le_of_ble_eq_true rfl)) d_C_input_30 ⟨Nat.zero_le _, Nat.zero_le _⟩) ?_
        refine lv_istore_n hx hb d_C_input_33 rfl hl (by decide) rfl (fun ls hl => ?_)
        have hl : lv_has ls 5 [(3, .int (f_V_withNumber x3 x4 r2)), (0, .ref (a 0)), (1, .int x1), (2, .int x2), (4, .int x4)] := hl
        refine lv_iinc (k := 4) (v := (x4 + (1 : Int32))) hx hb d_C_input_34 hl rfl (by rfl) (by decide) rfl (fun ls hl => ?_)
        have hl : lv_has ls 5 [(4, .int (x4 + (1 : Int32))), (3, .int (f_V_withNumber x3 x4 r2)), (0, .ref (a 0)), (1, .int x1), (2, .int x2)] := hl
        refine lv_goto (tgt := 8) hx hb d_C_input_37 (by decide) ?_
        have hl : lv_has ls 5 [(0, .ref (a 0)), (1, .int x1), (2, .int x2), (3, .int (f_V_withNumber x3 x4 r2)), (4, .int (x4 + (1 : Int32)))] := lv_sub hl [2, 3, 4, 1, 0] rfl
        exact ih x1 x2 (f_V_withNumber x3 x4 r2) (x4 + (1 : Int32)) F2 A2 _ _ _ hl hP hD hS hf
  rw [lg_entry_eq]
  generalize (lg_sl (([.ref (a 0), .int u1, .int u2] : List Value)) ++ List.replicate (5 - (lg_sl (([.ref (a 0), .int u1, .int u2] : List Value))).length) Slot.unset).toArray = ls at hl ⊢
  have hl : lv_has ls 5 [(0, .ref (a 0)), (1, .int u1), (2, .int u2)] := hl
  unfold f_C_input at hf
  refine lv_iload_n hx hb d_C_input_0 rfl (lv_at hl 2 rfl) ?_
  refine cc_calls (va_runS (As := [.int u2]) (rest := []) ⟨hx, hb, hml, hown, hts⟩ (k_V_ofType l u2 _ rfl) (cw_S 1 hts mw_193 mw_194 mw_11 mw_195 rfl rfl hd_V_ofType ⟨Nat.le_of_ble_eq_true rfl, Nat.le_of_ble_eq_true rfl⟩) cc_preS rfl rfl hl.1 rfl (lv_room (Nat.le_of_ble_eq_true rfl)) d_C_input_1 ⟨Nat.zero_le _, Nat.zero_le _⟩) ?_
  refine lv_istore_n hx hb d_C_input_4 rfl hl (by decide) rfl (fun ls hl => ?_)
  have hl : lv_has ls 5 [(3, .int (f_V_ofType u2)), (0, .ref (a 0)), (1, .int u1), (2, .int u2)] := hl
  refine lv_iconst (v := 0) hx hb d_C_input_5 (by decide) ?_
  refine lv_istore hx hb d_C_input_6 hl (by decide) rfl (fun ls hl => ?_)
  have hl : lv_has ls 5 [(4, .int (0 : Int32)), (3, .int (f_V_ofType u2)), (0, .ref (a 0)), (1, .int u1), (2, .int u2)] := hl
  have hl : lv_has ls 5 [(0, .ref (a 0)), (1, .int u1), (2, .int u2), (3, .int (f_V_ofType u2)), (4, .int (0 : Int32))] := lv_sub hl [2, 3, 4, 1, 0] rfl
  exact L8 400 u1 u2 (f_V_ofType u2) (0 : Int32) Fa Aa _ _ _ hl hP hD hS hf
def f_C_letter (u1 : Int32) (Fa : ST_F) (Aa : ST_A) : Option (Int32 × ST_F × ST_A) := if u1 = (99 : Int32) then (ra_bi (f_C_input (3 : Int32) (3 : Int32) Fa Aa) (fun r2 F2 A2 => some (r2, F2, A2))) else (if u1 = (116 : Int32) then (ra_bi (f_C_input (2 : Int32) (1 : Int32) Fa Aa) (fun r4 F4 A4 => some (r4, F4, A4))) else (if u1 = (120 : Int32) then (ra_bi (f_C_input (0 : Int32) (1 : Int32) Fa Aa) (fun r6 F6 A6 => some (r6, F6, A6))) else (if u1 = (121 : Int32) then (ra_bi (f_C_input (1 : Int32) (1 : Int32) Fa Aa) (fun r8 F8 A8 => some (r8, F8, A8))) else (ra_g (u1 - (97 : Int32)) 26 (some (((Aa 0) (u1 - (97 : Int32)).toNatClampNeg), Fa, Aa))))))
set_option maxHeartbeats 4000000 in
set_option maxRecDepth 100000 in
theorem k_C_letter (l : Launch) (dC : Nat → ClassId) (dI : Nat → Nat → Nat) (a : Nat → Nat) (cI cC : ClassId) (sz : Nat) (Fa : ST_F) (Aa : ST_A) (u1 : Int32) (r0 : Int32) (F9 : ST_F) (A9 : ST_A) (hf : f_C_letter u1 Fa Aa = some (r0, F9, A9)) : cc_MetI l y_C_letter (Cond.code y_C_letter b_C_letter 2 (some .int) :: wA) ({ frames := 2, cells := 0, slots := 0, locals := 48 } : Room) (dC, dI) vC [(cI, .int), (cC, .char)] ([.ref (a 0), .int u1] : List Value) (wC a cI cC Fa Aa) sz (wC a cI cC F9 A9) r0 := by
  refine Met.ofW (cc := b_C_letter) (maxL := 2) (ret := (some .int)) (by decide) rfl ?_
  intro p e s m args below meth c s₁ B hml hv
  obtain ⟨rfl, hsz, hP, hK, hD0⟩ := hv
  have hx := B.exec
  have hb := B.bytes
  have hr := B.returns
  have hts := fun w h => atoms_spec (ws := (Cond.code y_C_letter b_C_letter 2 (some .int) :: wA)) B.pre w (List.mem_cons_of_mem _ h)
  have hown : s.vm.findClass R_C = some m.cls := findClass_of_methodNamed B.named
  have hlocks := B.notSynchronized
  subst hsz
  have hD := hD0.self (sz := s.heap.size)
  have hA : ∀ q : Nat, s.heap.size ≤ q → va_A (wC a cI cC Fa Aa) s.heap.size q := fun q h => Or.inr h
  have hS : va_S (va_A (wC a cI cC Fa Aa) s.heap.size) s.heap s.heap [] := va_S.rf
  have hl := lv_entry (([.ref (a 0), .int u1] : List Value)) (n := 2) (Nat.le_of_ble_eq_true rfl)
  rw [lg_entry_eq]
  generalize (lg_sl (([.ref (a 0), .int u1] : List Value)) ++ List.replicate (2 - (lg_sl (([.ref (a 0), .int u1] : List Value))).length) Slot.unset).toArray = ls at hl ⊢
  have hl : lv_has ls 2 [(0, .ref (a 0)), (1, .int u1)] := hl
  unfold f_C_letter at hf
  refine lv_iload_n hx hb d_C_letter_0 rfl (lv_at hl 1 rfl) ?_
  by_cases h1_1 : u1 = (99 : Int32)
  · rw [if_pos h1_1] at hf
    refine lv_lookup (tgt := 65) (off := 64) hx hb d_C_letter_1 (by decide) (by rw [h1_1]; decide) (by decide) ?_
    refine lv_aload_n hx hb d_C_letter_65 rfl (lv_at hl 0 rfl) ?_
    refine lv_iconst (v := 3) hx hb d_C_letter_66 (by decide) ?_
    refine lv_iconst (v := 3) hx hb d_C_letter_67 (by decide) ?_
    have hP : va_P (dC, dI) vC (wC a cI cC Fa Aa) s.heap := hP
    have hD : va_D (va_A (wC a cI cC Fa Aa) s.heap.size) (wC a cI cC Fa Aa) := hD
    obtain ⟨r2, F2, A2, hc, hf⟩ := ra_bi_some hf
    refine cc_calli (va_runV (As := [.int (3 : Int32), .int (3 : Int32)]) (rest := []) ⟨hx, hb, hml, hown, hts⟩ (k_C_input l dC dI a cI cC s.heap.size Fa Aa (3 : Int32) (3 : Int32) r2 F2 A2 hc) (cw_V 2 hts mw_211 mw_213 ms_C_input mw_3 mw_214 rfl rfl rfl hd_C_input ⟨Nat.le_of_ble_eq_true rfl, Nat.le_of_ble_eq_true rfl⟩) (cc_preV hK hP hD rfl (q0 := 0) rfl) rfl rfl hl.1 rfl (lv_room (Nat.le_of_ble_eq_true rfl)) d_C_letter_68 ⟨Nat.zero_le _, Nat.zero_le _⟩) hD hS hA (fun H locs hP hD hS => ?_)
    cases hf
    exact W.iret hx hb hr (fun t ht hW => ⟨⟨_, (), rfl, rfl, by rw [ht]; exact hP, va_K.moved hW.alike hK, hD⟩, hS.F ht⟩) hS.2.2 d_C_letter_71
  · rw [if_neg h1_1] at hf
    by_cases h1_3 : u1 = (116 : Int32)
    · rw [if_pos h1_3] at hf
      refine lv_lookup (tgt := 58) (off := 57) hx hb d_C_letter_1 (by decide) (by rw [h1_3]; decide) (by decide) ?_
      refine lv_aload_n hx hb d_C_letter_58 rfl (lv_at hl 0 rfl) ?_
      refine lv_iconst (v := 2) hx hb d_C_letter_59 (by decide) ?_
      refine lv_iconst (v := 1) hx hb d_C_letter_60 (by decide) ?_
      have hP : va_P (dC, dI) vC (wC a cI cC Fa Aa) s.heap := hP
      have hD : va_D (va_A (wC a cI cC Fa Aa) s.heap.size) (wC a cI cC Fa Aa) := hD
      obtain ⟨r4, F4, A4, hc, hf⟩ := ra_bi_some hf
      refine cc_calli (va_runV (As := [.int (2 : Int32), .int (1 : Int32)]) (rest := []) ⟨hx, hb, hml, hown, hts⟩ (k_C_input l dC dI a cI cC s.heap.size Fa Aa (2 : Int32) (1 : Int32) r4 F4 A4 hc) (cw_V 2 hts mw_211 mw_213 ms_C_input mw_3 mw_214 rfl rfl rfl hd_C_input ⟨Nat.le_of_ble_eq_true rfl, Nat.le_of_ble_eq_true rfl⟩) (cc_preV hK hP hD rfl (q0 := 0) rfl) rfl rfl hl.1 rfl (lv_room (Nat.le_of_ble_eq_true rfl)) d_C_letter_61 ⟨Nat.zero_le _, Nat.zero_le _⟩) hD hS hA (fun H locs hP hD hS => ?_)
      cases hf
      exact W.iret hx hb hr (fun t ht hW => ⟨⟨_, (), rfl, rfl, by rw [ht]; exact hP, va_K.moved hW.alike hK, hD⟩, hS.F ht⟩) hS.2.2 d_C_letter_64
    · rw [if_neg h1_3] at hf
      by_cases h1_5 : u1 = (120 : Int32)
      · rw [if_pos h1_5] at hf
        refine lv_lookup (tgt := 44) (off := 43) hx hb d_C_letter_1 (by decide) (by rw [h1_5]; decide) (by decide) ?_
        refine lv_aload_n hx hb d_C_letter_44 rfl (lv_at hl 0 rfl) ?_
        refine lv_iconst (v := 0) hx hb d_C_letter_45 (by decide) ?_
        refine lv_iconst (v := 1) hx hb d_C_letter_46 (by decide) ?_
        have hP : va_P (dC, dI) vC (wC a cI cC Fa Aa) s.heap := hP
        have hD : va_D (va_A (wC a cI cC Fa Aa) s.heap.size) (wC a cI cC Fa Aa) := hD
        obtain ⟨r6, F6, A6, hc, hf⟩ := ra_bi_some hf
        refine cc_calli (va_runV (As := [.int (0 : Int32), .int (1 : Int32)]) (rest := []) ⟨hx, hb, hml, hown, hts⟩ (k_C_input l dC dI a cI cC s.heap.size Fa Aa (0 : Int32) (1 : Int32) r6 F6 A6 hc) (cw_V 2 hts mw_211 mw_213 ms_C_input mw_3 mw_214 rfl rfl rfl hd_C_input ⟨Nat.le_of_ble_eq_true rfl, Nat.le_of_ble_eq_true rfl⟩) (cc_preV hK hP hD rfl (q0 := 0) rfl) rfl rfl hl.1 rfl (lv_room (Nat.le_of_ble_eq_true rfl)) d_C_letter_47 ⟨Nat.zero_le _, Nat.zero_le _⟩) hD hS hA (fun H locs hP hD hS => ?_)
        cases hf
        exact W.iret hx hb hr (fun t ht hW => ⟨⟨_, (), rfl, rfl, by rw [ht]; exact hP, va_K.moved hW.alike hK, hD⟩, hS.F ht⟩) hS.2.2 d_C_letter_50
      · rw [if_neg h1_5] at hf
        by_cases h1_7 : u1 = (121 : Int32)
        · rw [if_pos h1_7] at hf
          refine lv_lookup (tgt := 51) (off := 50) hx hb d_C_letter_1 (by decide) (by rw [h1_7]; decide) (by decide) ?_
          refine lv_aload_n hx hb d_C_letter_51 rfl (lv_at hl 0 rfl) ?_
          refine lv_iconst (v := 1) hx hb d_C_letter_52 (by decide) ?_
          refine lv_iconst (v := 1) hx hb d_C_letter_53 (by decide) ?_
          have hP : va_P (dC, dI) vC (wC a cI cC Fa Aa) s.heap := hP
          have hD : va_D (va_A (wC a cI cC Fa Aa) s.heap.size) (wC a cI cC Fa Aa) := hD
          obtain ⟨r8, F8, A8, hc, hf⟩ := ra_bi_some hf
          refine cc_calli (va_runV (As := [.int (1 : Int32), .int (1 : Int32)]) (rest := []) ⟨hx, hb, hml, hown, hts⟩ (k_C_input l dC dI a cI cC s.heap.size Fa Aa (1 : Int32) (1 : Int32) r8 F8 A8 hc) (cw_V 2 hts mw_211 mw_213 ms_C_input mw_3 mw_214 rfl rfl rfl hd_C_input ⟨Nat.le_of_ble_eq_true rfl, Nat.le_of_ble_eq_true rfl⟩) (cc_preV hK hP hD rfl (q0 := 0) rfl) rfl rfl hl.1 rfl (lv_room (Nat.le_of_ble_eq_true rfl)) d_C_letter_54 ⟨Nat.zero_le _, Nat.zero_le _⟩) hD hS hA (fun H locs hP hD hS => ?_)
          cases hf
          exact W.iret hx hb hr (fun t ht hW => ⟨⟨_, (), rfl, rfl, by rw [ht]; exact hP, va_K.moved hW.alike hK, hD⟩, hS.F ht⟩) hS.2.2 d_C_letter_57
        · rw [if_neg h1_7] at hf
          refine lv_lookup (tgt := 72) (off := 71) hx hb d_C_letter_1 (by decide) ((lv_osw h1_1 (by decide)).trans ((lv_osw h1_3 (by decide)).trans ((lv_osw h1_5 (by decide)).trans ((lv_osw h1_7 (by decide)).trans (rfl))))) (by decide) ?_
          refine lv_aload_n hx hb d_C_letter_72 rfl (lv_at hl 0 rfl) ?_
          refine va_get (D := (dC, dI)) (ci := 1) (v := .ref (a 1)) (C := R_C) (T := T_C) (N := 5) hx hb hts in_C hown hK hP 0 rfl rfl 0 (by decide) (hts _ mw_75) (fun _ h9 => h9) rfl d_C_letter_73 ?_
          refine lv_iload_n hx hb d_C_letter_76 rfl (lv_at hl 1 rfl) ?_
          refine lv_bipush (v := 97) hx hb d_C_letter_77 (by decide) ?_
          refine lv_isub hx hb d_C_letter_79 ?_
          obtain ⟨hi, hf⟩ := ra_g_some hf
          refine va_iald hx hb hK hP 1 0 rfl rfl hi d_C_letter_80 ?_
          cases hf
          exact W.iret hx hb hr (fun t ht hW => ⟨⟨_, (), rfl, rfl, by rw [ht]; exact hP, va_K.moved hW.alike hK, hD⟩, hS.F ht⟩) hS.2.2 d_C_letter_81
