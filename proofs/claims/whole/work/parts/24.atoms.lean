def f_C_constant_J95 (x1 : Int32) (x2 : Int32) (x3 : Int32) (F : ST_F) (A : ST_A) : Option (Int32 × ST_F × ST_A) := ra_nz x2 (ra_bi (f_K_put (0 : Int32) ((x1 * (65536 : Int32)) + ((x3 * (65536 : Int32)) / x2)) (0 : Int32) F A) (fun r4 F4 A4 => some ((f_V_withNumber (f_V_ofType (1 : Int32)) (0 : Int32) r4), F4, A4)))
def f_C_constant_J88 (x1 : Int32) (x2 : Int32) (x3 : Int32) (x4 : Int32) (F : ST_F) (A : ST_A) : Option (Int32 × ST_F × ST_A) := if x2 = (1 : Int32) then (some ((-1 : Int32), F, A)) else (f_C_constant_J95 x1 x2 x3 F A)
def f_C_constant_L51 : Nat → Int32 → Int32 → Int32 → Int32 → ST_F → ST_A → Option (Int32 × ST_F × ST_A)
  | 0, _, _, _, _, _, _ => none
  | n + 1, x1, x2, x3, x4, F, A => if (4 : Int32) ≤ x4 then (f_C_constant_J88 x1 x2 x3 x4 F A) else (ra_bi (f_C_next  F A) (fun r7 F7 A7 => if (f_C_isDigit r7) = 0 then (f_C_constant_J88 x1 x2 x3 x4 F7 A7) else (ra_bi (f_C_digit  F7 A7) (fun r9 F9 A9 => f_C_constant_L51 n x1 (x2 * (10 : Int32)) ((x3 * (10 : Int32)) + r9) (x4 + (1 : Int32)) F9 A9))))
def f_C_constant_J35 (x1 : Int32) (x2 : Int32) (F : ST_F) (A : ST_A) : Option (Int32 × ST_F × ST_A) := ra_bi (f_C_takes (46 : Int32) F A) (fun r2 F2 A2 => if r2 = 0 then (f_C_constant_J95 x1 (1 : Int32) (0 : Int32) F2 A2) else (f_C_constant_L51 400 x1 (1 : Int32) (0 : Int32) (0 : Int32) F2 A2))
def f_C_constant_L4 : Nat → Int32 → Int32 → ST_F → ST_A → Option (Int32 × ST_F × ST_A)
  | 0, _, _, _, _ => none
  | n + 1, x1, x2, F, A => if (4 : Int32) ≤ x2 then (f_C_constant_J35 x1 x2 F A) else (ra_bi (f_C_next  F A) (fun r10 F10 A10 => if (f_C_isDigit r10) = 0 then (f_C_constant_J35 x1 x2 F10 A10) else (ra_bi (f_C_digit  F10 A10) (fun r12 F12 A12 => f_C_constant_L4 n ((x1 * (10 : Int32)) + r12) (x2 + (1 : Int32)) F12 A12))))
def f_C_constant  (Fa : ST_F) (Aa : ST_A) : Option (Int32 × ST_F × ST_A) := f_C_constant_L4 400 (0 : Int32) (0 : Int32) Fa Aa
set_option maxHeartbeats 4000000 in
set_option maxRecDepth 100000 in
theorem k_C_constant (l : Launch) (dC : Nat → ClassId) (dI : Nat → Nat → Nat) (a : Nat → Nat) (cI cC : ClassId) (sz : Nat) (Fa : ST_F) (Aa : ST_A)  (r0 : Int32) (F9 : ST_F) (A9 : ST_A) (hf : f_C_constant  Fa Aa = some (r0, F9, A9)) : cc_MetI l y_C_constant (Cond.code y_C_constant b_C_constant 5 (some .int) :: wA) ({ frames := 2, cells := 0, slots := 0, locals := 41 } : Room) (dC, dI) vC [(cI, .int), (cC, .char)] ([.ref (a 0)] : List Value) (wC a cI cC Fa Aa) sz (wC a cI cC F9 A9) r0 := by
  refine Met.ofW (cc := b_C_constant) (maxL := 5) (ret := (some .int)) (by decide) rfl ?_
  intro p e s m args below meth c s₁ B hml hv
  obtain ⟨rfl, hsz, hP, hK, hD0⟩ := hv
  have hx := B.exec
  have hb := B.bytes
  have hr := B.returns
  have hts := fun w h => atoms_spec (ws := (Cond.code y_C_constant b_C_constant 5 (some .int) :: wA)) B.pre w (List.mem_cons_of_mem _ h)
  have hown : s.vm.findClass R_C = some m.cls := findClass_of_methodNamed B.named
  have hlocks := B.notSynchronized
  subst hsz
  have hD := hD0.self (sz := s.heap.size)
  have hA : ∀ q : Nat, s.heap.size ≤ q → va_A (wC a cI cC Fa Aa) s.heap.size q := fun q h => Or.inr h
  have hS : va_S (va_A (wC a cI cC Fa Aa) s.heap.size) s.heap s.heap [] := va_S.rf
  have hl := lv_entry (([.ref (a 0)] : List Value)) (n := 5) (Nat.le_of_ble_eq_true rfl)
  have J95 : ∀ (x1 : Int32) (x2 : Int32) (x3 : Int32) (F : ST_F) (A : ST_A) (H : Heap) (locs : List Loc) (ls : Array Slot), lv_has ls 5 [(0, .ref (a 0)), (1, .int x1), (2, .int x2), (3, .int x3)] → va_P (dC, dI) vC (wC a cI cC F A) H → va_D (va_A (wC a cI cC Fa Aa) s.heap.size) (wC a cI cC F A) → va_S (va_A (wC a cI cC Fa Aa) s.heap.size) s.heap H locs → f_C_constant_J95 x1 x2 x3 F A = some (r0, F9, A9) → W p l e (headSpec (Cond.code y_C_constant b_C_constant 5 (some .int) :: wA) ({ frames := 2, cells := 0, slots := 0, locals := 41 } : Room)).room s m ([.ref (a 0)] : List Value).toArray below meth c H locs 0 0 (MQ below (cc_Qi (dC, dI) vC [(cI, .int), (cC, .char)] (wC a cI cC Fa Aa) s.heap.size (wC a cI cC F9 A9) r0) ([.ref (a 0)] : List Value).toArray s 0 0 (va_A (wC a cI cC Fa Aa) s.heap.size)) (F0 m 95 ls []) := by
    intro x1 x2 x3 F A H locs ls hl hP hD hS hf
    unfold f_C_constant_J95 at hf
    refine lv_iload_n hx hb d_C_constant_95 rfl (lv_at hl 1 rfl) ?_
    refine lv_ldc (v := 65536) hx hb hown (hts _ mw_192) d_C_constant_96 ?_
    refine lv_imul hx hb d_C_constant_98 ?_
    refine lv_iload_n hx hb d_C_constant_99 rfl (lv_at hl 3 rfl) ?_
    refine lv_ldc (v := 65536) hx hb hown (hts _ mw_192) d_C_constant_100 ?_
    refine lv_imul hx hb d_C_constant_102 ?_
    refine lv_iload_n hx hb d_C_constant_103 rfl (lv_at hl 2 rfl) ?_
    obtain ⟨hn, hf⟩ := ra_nz_some hf
    refine lv_idiv hx hb d_C_constant_104 hn ?_
    refine lv_iadd hx hb d_C_constant_105 ?_
    refine lv_istore hx hb d_C_constant_106 hl (by decide) rfl (fun ls hl => ?_)
    have hl : lv_has ls 5 [(4, .int ((x1 * (65536 : Int32)) + ((x3 * (65536 : Int32)) / x2))), (0, .ref (a 0)), (1, .int x1), (2, .int x2), (3, .int x3)] := hl
    refine lv_iconst (v := 1) hx hb d_C_constant_108 (by decide) ?_
    refine cc_calls (va_runS (As := [.int (1 : Int32)]) (rest := []) ⟨hx, hb, hml, hown, hts⟩ (k_V_ofType l (1 : Int32) _ rfl) (cw_S 1 hts mw_193 mw_194 mw_11 mw_195 rfl rfl hd_V_ofType ⟨Nat.le_of_ble_eq_true rfl, Nat.le_of_ble_eq_true rfl⟩) cc_preS rfl rfl hl.1 rfl (lv_room (Nat.le_of_ble_eq_true rfl)) d_C_constant_109 ⟨Nat.zero_le _, Nat.zero_le _⟩) ?_
    refine lv_iconst (v := 0) hx hb d_C_constant_112 (by decide) ?_
    refine lv_aload_n hx hb d_C_constant_113 rfl (lv_at hl 1 rfl) ?_
    refine va_get (D := (dC, dI)) (ci := 1) (v := .ref (a 3)) (C := R_C) (T := T_C) (N := 5) hx hb hts in_C hown hK hP 0 rfl rfl 4 (by decide) (hts _ mw_79) (fun _ h9 => h9) rfl d_C_constant_114 ?_
    refine lv_iconst (v := 0) hx hb d_C_constant_117 (by decide) ?_
    refine lv_iload hx hb d_C_constant_118 (lv_at hl 0 rfl) ?_
    refine lv_iconst (v := 0) hx hb d_C_constant_120 (by decide) ?_
    have hP : va_P (dC, dI) vC (wC a cI cC F A) H := hP
    have hD : va_D (va_A (wC a cI cC Fa Aa) s.heap.size) (wC a cI cC F A) := hD
    obtain ⟨r4, F4, A4, hc, hf⟩ := ra_bi_some hf
    refine cc_calli (va_runV (As := [.int (0 : Int32), .int ((x1 * (65536 : Int32)) + ((x3 * (65536 : Int32)) / x2)), .int (0 : Int32)]) (rest := [.int (0 : Int32), .int (f_V_ofType (1 : Int32))]) ⟨hx, hb, hml, hown, hts⟩ (k_K_put l dC dI a cI cC H.size F A (0 : Int32) ((x1 * (65536 : Int32)) + ((x3 * (65536 : Int32)) / x2)) (0 : Int32) r4 F4 A4 hc) (cw_V 3 hts mw_196 mw_197 mw_198 mw_2 mw_199 rfl rfl rfl hd_K_put ⟨Nat.le_of_ble_eq_true rfl, Nat.le_of_ble_eq_true rfl⟩) (cc_preV hK hP hD rfl (q0 := 3) rfl) rfl rfl hl.1 rfl (lv_room (Nat.le_of_ble_eq_true rfl)) d_C_constant_121 ⟨Nat.zero_le _, Nat.zero_le _⟩) hD hS hA (fun H locs hP hD hS => ?_)
    refine cc_calls (va_runS (As := [.int (f_V_ofType (1 : Int32)), .int (0 : Int32), .int r4]) (rest := []) ⟨hx, hb, hml, hown, hts⟩ (k_V_withNumber l (f_V_ofType (1 : Int32)) (0 : Int32) r4 _ rfl) (cw_S 3 hts mw_200 mw_201 mw_11 mw_202 rfl rfl hd_V_withNumber ⟨Nat.le_of_ble_eq_true rfl, Nat.le_of_ble_eq_true rfl⟩) cc_preS rfl rfl hl.1 rfl (lv_room (Nat.le_of_ble_eq_true rfl)) d_C_constant_124 ⟨Nat.zero_le _, Nat.zero_le _⟩) ?_
    cases hf
    exact W.iret hx hb hr (fun t ht hW => ⟨⟨_, (), rfl, rfl, by rw [ht]; exact hP, va_K.moved hW.alike hK, hD⟩, hS.F ht⟩) hS.2.2 d_C_constant_127
  have J88 : ∀ (x1 : Int32) (x2 : Int32) (x3 : Int32) (x4 : Int32) (F : ST_F) (A : ST_A) (H : Heap) (locs : List Loc) (ls : Array Slot), lv_has ls 5 [(0, .ref (a 0)), (1, .int x1), (2, .int x2), (3, .int x3), (4, .int x4)] → va_P (dC, dI) vC (wC a cI cC F A) H → va_D (va_A (wC a cI cC Fa Aa) s.heap.size) (wC a cI cC F A) → va_S (va_A (wC a cI cC Fa Aa) s.heap.size) s.heap H locs → f_C_constant_J88 x1 x2 x3 x4 F A = some (r0, F9, A9) → W p l e (headSpec (Cond.code y_C_constant b_C_constant 5 (some .int) :: wA) ({ frames := 2, cells := 0, slots := 0, locals := 41 } : Room)).room s m ([.ref (a 0)] : List Value).toArray below meth c H locs 0 0 (MQ below (cc_Qi (dC, dI) vC [(cI, .int), (cC, .char)] (wC a cI cC Fa Aa) s.heap.size (wC a cI cC F9 A9) r0) ([.ref (a 0)] : List Value).toArray s 0 0 (va_A (wC a cI cC Fa Aa) s.heap.size)) (F0 m 88 ls []) := by
    intro x1 x2 x3 x4 F A H locs ls hl hP hD hS hf
    unfold f_C_constant_J88 at hf
    refine lv_iload_n hx hb d_C_constant_88 rfl (lv_at hl 2 rfl) ?_
    refine lv_iconst (v := 1) hx hb d_C_constant_89 (by decide) ?_
    refine lv_icmp_ne (tgt := 95) hx hb d_C_constant_90 (by decide) (fun h90_6 => ?_) (fun h90_6 => ?_)
    · rw [if_neg h90_6] at hf
      have hl : lv_has ls 5 [(0, .ref (a 0)), (1, .int x1), (2, .int x2), (3, .int x3)] := lv_sub hl [0, 1, 2, 3] rfl
      exact J95 x1 x2 x3 F A _ _ _ hl hP hD hS hf
    · rw [if_pos h90_6] at hf
      refine lv_iconst (v := -1) hx hb d_C_constant_93 (by decide) ?_
      cases hf
      exact W.iret hx hb hr (fun t ht hW => ⟨⟨_, (), rfl, rfl, by rw [ht]; exact hP, va_K.moved hW.alike hK, hD⟩, hS.F ht⟩) hS.2.2 d_C_constant_94
  have L51 : ∀ (n : Nat) (x1 : Int32) (x2 : Int32) (x3 : Int32) (x4 : Int32) (F : ST_F) (A : ST_A) (H : Heap) (locs : List Loc) (ls : Array Slot), lv_has ls 5 [(0, .ref (a 0)), (1, .int x1), (2, .int x2), (3, .int x3), (4, .int x4)] → va_P (dC, dI) vC (wC a cI cC F A) H → va_D (va_A (wC a cI cC Fa Aa) s.heap.size) (wC a cI cC F A) → va_S (va_A (wC a cI cC Fa Aa) s.heap.size) s.heap H locs → f_C_constant_L51 n x1 x2 x3 x4 F A = some (r0, F9, A9) → W p l e (headSpec (Cond.code y_C_constant b_C_constant 5 (some .int) :: wA) ({ frames := 2, cells := 0, slots := 0, locals := 41 } : Room)).room s m ([.ref (a 0)] : List Value).toArray below meth c H locs 0 0 (MQ below (cc_Qi (dC, dI) vC [(cI, .int), (cC, .char)] (wC a cI cC Fa Aa) s.heap.size (wC a cI cC F9 A9) r0) ([.ref (a 0)] : List Value).toArray s 0 0 (va_A (wC a cI cC Fa Aa) s.heap.size)) (F0 m 51 ls []) := by
    intro n
    induction n with
    | zero => intro x1 x2 x3 x4 F A H locs ls hl hP hD hS hf; cases hf
    | succ n ih =>
      intro x1 x2 x3 x4 F A H locs ls hl hP hD hS hf
      rw [f_C_constant_L51] at hf
      refine lv_iload hx hb d_C_constant_51 (lv_at hl 4 rfl) ?_
      refine lv_iconst (v := 4) hx hb d_C_constant_53 (by decide) ?_
      refine lv_icmp_ge (tgt := 88) hx hb d_C_constant_54 (by decide) (fun h54_5 => ?_) (fun h54_5 => ?_)
      · rw [if_pos h54_5] at hf
        have hl : lv_has ls 5 [(0, .ref (a 0)), (1, .int x1), (2, .int x2), (3, .int x3), (4, .int x4)] := lv_sub hl [0, 1, 2, 3, 4] rfl
        exact J88 x1 x2 x3 x4 F A _ _ _ hl hP hD hS hf
      · rw [if_neg h54_5] at hf
        refine lv_aload_n hx hb d_C_constant_57 rfl (lv_at hl 0 rfl) ?_
        have hP : va_P (dC, dI) vC (wC a cI cC F A) H := hP
        have hD : va_D (va_A (wC a cI cC Fa Aa) s.heap.size) (wC a cI cC F A) := hD
        obtain ⟨r7, F7, A7, hc, hf⟩ := ra_bi_some hf
        refine cc_calli (va_runV (As := []) (rest := []) ⟨hx, hb, hml, hown, hts⟩ (k_C_next l dC dI a cI cC H.size F A  r7 F7 A7 hc) (cw_V 0 hts mw_155 mw_157 ms_C_next mw_3 mw_158 rfl rfl rfl hd_C_next ⟨Nat.le_of_ble_eq_true rfl, Nat.le_of_ble_eq_true rfl⟩) (cc_preV hK hP hD rfl (q0 := 0) rfl) rfl rfl hl.1 rfl (lv_room (Nat.le_of_ble_eq_true rfl)) d_C_constant_58 ⟨Nat.zero_le _, Nat.zero_le _⟩) hD hS hA (fun H locs hP hD hS => ?_)
        refine cc_calls (va_runS (As := [.int r7]) (rest := []) ⟨hx, hb, hml, hown, hts⟩ (k_C_isDigit l r7 _ rfl) (cw_S 1 hts mw_181 mw_182 mw_3 mw_183 rfl rfl hd_C_isDigit ⟨Nat.le_of_ble_eq_true rfl, Nat.le_of_ble_eq_true rfl⟩) cc_preS rfl rfl hl.1 rfl (lv_room (Nat.le_of_ble_eq_true rfl)) d_C_constant_61 ⟨Nat.zero_le _, Nat.zero_le _⟩) ?_
        refine lv_if_eq (tgt := 88) hx hb d_C_constant_64 (by decide) (fun h64_8 => ?_) (fun h64_8 => ?_)
        · rw [if_pos h64_8] at hf
          have hl : lv_has ls 5 [(0, .ref (a 0)), (1, .int x1), (2, .int x2), (3, .int x3), (4, .int x4)] := lv_sub hl [0, 1, 2, 3, 4] rfl
          exact J88 x1 x2 x3 x4 F7 A7 _ _ _ hl hP hD hS hf
        · rw [if_neg h64_8] at hf
          refine lv_iload_n hx hb d_C_constant_67 rfl (lv_at hl 3 rfl) ?_
          refine lv_bipush (v := 10) hx hb d_C_constant_68 (by decide) ?_
          refine lv_imul hx hb d_C_constant_70 ?_
          refine lv_aload_n hx hb d_C_constant_71 rfl (lv_at hl 0 rfl) ?_
          have hP : va_P (dC, dI) vC (wC a cI cC F7 A7) H := hP
          have hD : va_D (va_A (wC a cI cC Fa Aa) s.heap.size) (wC a cI cC F7 A7) := hD
          obtain ⟨r9, F9, A9, hc, hf⟩ := ra_bi_some hf
          refine cc_calli (va_runV (As := []) (rest := [.int (x3 * (10 : Int32))]) ⟨hx, hb, hml, hown, hts⟩ (k_C_digit l dC dI a cI cC H.size F7 A7  r9 F9 A9 hc) (cw_V 0 hts mw_188 mw_190 ms_C_digit mw_3 mw_191 rfl rfl rfl hd_C_digit ⟨Nat.le_of_ble_eq_true rfl, Nat.le_of_ble_eq_true rfl⟩) (cc_preV hK hP hD rfl (q0 := 0) rfl) rfl rfl hl.1 rfl (lv_room (Nat.le_of_ble_eq_true rfl)) d_C_constant_72 ⟨Nat.zero_le _, Nat.zero_le _⟩) hD hS hA (fun H locs hP hD hS => ?_)
          refine lv_iadd hx hb d_C_constant_75 ?_
          refine lv_istore_n hx hb d_C_constant_76 rfl hl (by decide) rfl (fun ls hl => ?_)
          have hl : lv_has ls 5 [(3, .int ((x3 * (10 : Int32)) + r9)), (0, .ref (a 0)), (1, .int x1), (2, .int x2), (4, .int x4)] := hl
          refine lv_iload_n hx hb d_C_constant_77 rfl (lv_at hl 3 rfl) ?_
          refine lv_bipush (v := 10) hx hb d_C_constant_78 (by decide) ?_
          refine lv_imul hx hb d_C_constant_80 ?_
          refine lv_istore_n hx hb d_C_constant_81 rfl hl (by decide) rfl (fun ls hl => ?_)
          have hl : lv_has ls 5 [(2, .int (x2 * (10 : Int32))), (3, .int ((x3 * (10 : Int32)) + r9)), (0, .ref (a 0)), (1, .int x1), (4, .int x4)] := hl
          refine lv_iinc (k := 4) (v := (x4 + (1 : Int32))) hx hb d_C_constant_82 hl rfl (by rfl) (by decide) rfl (fun ls hl => ?_)
          have hl : lv_has ls 5 [(4, .int (x4 + (1 : Int32))), (2, .int (x2 * (10 : Int32))), (3, .int ((x3 * (10 : Int32)) + r9)), (0, .ref (a 0)), (1, .int x1)] := hl
          refine lv_goto (tgt := 51) hx hb d_C_constant_85 (by decide) ?_
          have hl : lv_has ls 5 [(0, .ref (a 0)), (1, .int x1), (2, .int (x2 * (10 : Int32))), (3, .int ((x3 * (10 : Int32)) + r9)), (4, .int (x4 + (1 : Int32)))] := lv_sub hl [3, 4, 1, 2, 0] rfl
          exact ih x1 (x2 * (10 : Int32)) ((x3 * (10 : Int32)) + r9) (x4 + (1 : Int32)) F9 A9 _ _ _ hl hP hD hS hf
  have J35 : ∀ (x1 : Int32) (x2 : Int32) (F : ST_F) (A : ST_A) (H : Heap) (locs : List Loc) (ls : Array Slot), lv_has ls 5 [(0, .ref (a 0)), (1, .int x1), (2, .int x2)] → va_P (dC, dI) vC (wC a cI cC F A) H → va_D (va_A (wC a cI cC Fa Aa) s.heap.size) (wC a cI cC F A) → va_S (va_A (wC a cI cC Fa Aa) s.heap.size) s.heap H locs → f_C_constant_J35 x1 x2 F A = some (r0, F9, A9) → W p l e (headSpec (Cond.code y_C_constant b_C_constant 5 (some .int) :: wA) ({ frames := 2, cells := 0, slots := 0, locals := 41 } : Room)).room s m ([.ref (a 0)] : List Value).toArray below meth c H locs 0 0 (MQ below (cc_Qi (dC, dI) vC [(cI, .int), (cC, .char)] (wC a cI cC Fa Aa) s.heap.size (wC a cI cC F9 A9) r0) ([.ref (a 0)] : List Value).toArray s 0 0 (va_A (wC a cI cC Fa Aa) s.heap.size)) (F0 m 35 ls []) := by
    intro x1 x2 F A H locs ls hl hP hD hS hf
    unfold f_C_constant_J35 at hf
    refine lv_iconst (v := 1) hx hb d_C_constant_35 (by decide) ?_
    refine lv_istore_n hx hb d_C_constant_36 rfl hl (by decide) rfl (fun ls hl => ?_)
    have hl : lv_has ls 5 [(2, .int (1 : Int32)), (0, .ref (a 0)), (1, .int x1)] := hl
    refine lv_iconst (v := 0) hx hb d_C_constant_37 (by decide) ?_
    refine lv_istore_n hx hb d_C_constant_38 rfl hl (by decide) rfl (fun ls hl => ?_)
    have hl : lv_has ls 5 [(3, .int (0 : Int32)), (2, .int (1 : Int32)), (0, .ref (a 0)), (1, .int x1)] := hl
    refine lv_aload_n hx hb d_C_constant_39 rfl (lv_at hl 2 rfl) ?_
    refine lv_bipush (v := 46) hx hb d_C_constant_40 (by decide) ?_
    have hP : va_P (dC, dI) vC (wC a cI cC F A) H := hP
    have hD : va_D (va_A (wC a cI cC Fa Aa) s.heap.size) (wC a cI cC F A) := hD
    obtain ⟨r2, F2, A2, hc, hf⟩ := ra_bi_some hf
    refine cc_calli (va_runV (As := [.int (46 : Int32)]) (rest := []) ⟨hx, hb, hml, hown, hts⟩ (k_C_takes l dC dI a cI cC H.size F A (46 : Int32) r2 F2 A2 hc) (cw_V 1 hts mw_177 mw_179 ms_C_takes mw_3 mw_180 rfl rfl rfl hd_C_takes ⟨Nat.le_of_ble_eq_true rfl, Nat.le_of_ble_eq_true rfl⟩) (cc_preV hK hP hD rfl (q0 := 0) rfl) rfl rfl hl.1 rfl (lv_room (Nat.le_of_ble_eq_true rfl)) d_C_constant_42 ⟨Nat.zero_le _, Nat.zero_le _⟩) hD hS hA (fun H locs hP hD hS => ?_)
    refine lv_if_eq (tgt := 95) hx hb d_C_constant_45 (by decide) (fun h45_3 => ?_) (fun h45_3 => ?_)
    · rw [if_pos h45_3] at hf
      have hl : lv_has ls 5 [(0, .ref (a 0)), (1, .int x1), (2, .int (1 : Int32)), (3, .int (0 : Int32))] := lv_sub hl [2, 3, 1, 0] rfl
      exact J95 x1 (1 : Int32) (0 : Int32) F2 A2 _ _ _ hl hP hD hS hf
    · rw [if_neg h45_3] at hf
      refine lv_iconst (v := 0) hx hb d_C_constant_48 (by decide) ?_
      refine lv_istore hx hb d_C_constant_49 hl (by decide) rfl (fun ls hl => ?_)
      have hl : lv_has ls 5 [(4, .int (0 : Int32)), (3, .int (0 : Int32)), (2, .int (1 : Int32)), (0, .ref (a 0)), (1, .int x1)] := hl
      have hl : lv_has ls 5 [(0, .ref (a 0)), (1, .int x1), (2, .int (1 : Int32)), (3, .int (0 : Int32)), (4, .int (0 : Int32))] := lv_sub hl [3, 4, 2, 1, 0] rfl
      exact L51 400 x1 (1 : Int32) (0 : Int32) (0 : Int32) F2 A2 _ _ _ hl hP hD hS hf
  have L4 : ∀ (n : Nat) (x1 : Int32) (x2 : Int32) (F : ST_F) (A : ST_A) (H : Heap) (locs : List Loc) (ls : Array Slot), lv_has ls 5 [(0, .ref (a 0)), (1, .int x1), (2, .int x2)] → va_P (dC, dI) vC (wC a cI cC F A) H → va_D (va_A (wC a cI cC Fa Aa) s.heap.size) (wC a cI cC F A) → va_S (va_A (wC a cI cC Fa Aa) s.heap.size) s.heap H locs → f_C_constant_L4 n x1 x2 F A = some (r0, F9, A9) → W p l e (headSpec (Cond.code y_C_constant b_C_constant 5 (some .int) :: wA) ({ frames := 2, cells := 0, slots := 0, locals := 41 } : Room)).room s m ([.ref (a 0)] : List Value).toArray below meth c H locs 0 0 (MQ below (cc_Qi (dC, dI) vC [(cI, .int), (cC, .char)] (wC a cI cC Fa Aa) s.heap.size (wC a cI cC F9 A9) r0) ([.ref (a 0)] : List Value).toArray s 0 0 (va_A (wC a cI cC Fa Aa) s.heap.size)) (F0 m 4 ls []) := by
    intro n
    induction n with
    | zero => intro x1 x2 F A H locs ls hl hP hD hS hf; cases hf
    | succ n ih =>
      intro x1 x2 F A H locs ls hl hP hD hS hf
      rw [f_C_constant_L4] at hf
      refine lv_iload_n hx hb d_C_constant_4 rfl (lv_at hl 2 rfl) ?_
      refine lv_iconst (v := 4) hx hb d_C_constant_5 (by decide) ?_
      refine lv_icmp_ge (tgt := 35) hx hb d_C_constant_6 (by decide) (fun h6_1 => ?_) (fun h6_1 => ?_)
      · rw [if_pos h6_1] at hf
        have hl : lv_has ls 5 [(0, .ref (a 0)), (1, .int x1), (2, .int x2)] := lv_sub hl [0, 1, 2] rfl
        exact J35 x1 x2 F A _ _ _ hl hP hD hS hf
      · rw [if_neg h6_1] at hf
        refine lv_aload_n hx hb d_C_constant_9 rfl (lv_at hl 0 rfl) ?_
        have hP : va_P (dC, dI) vC (wC a cI cC F A) H := hP
        have hD : va_D (va_A (wC a cI cC Fa Aa) s.heap.size) (wC a cI cC F A) := hD
        obtain ⟨r10, F10, A10, hc, hf⟩ := ra_bi_some hf
        refine cc_calli (va_runV (As := []) (rest := []) ⟨hx, hb, hml, hown, hts⟩ (k_C_next l dC dI a cI cC H.size F A  r10 F10 A10 hc) (cw_V 0 hts mw_155 mw_157 ms_C_next mw_3 mw_158 rfl rfl rfl hd_C_next ⟨Nat.le_of_ble_eq_true rfl, Nat.le_of_ble_eq_true rfl⟩) (cc_preV hK hP hD rfl (q0 := 0) rfl) rfl rfl hl.1 rfl (lv_room (Nat.le_of_ble_eq_true rfl)) d_C_constant_10 ⟨Nat.zero_le _, Nat.zero_le _⟩) hD hS hA (fun H locs hP hD hS => ?_)
        refine cc_calls (va_runS (As := [.int r10]) (rest := []) ⟨hx, hb, hml, hown, hts⟩ (k_C_isDigit l r10 _ rfl) (cw_S 1 hts mw_181 mw_182 mw_3 mw_183 rfl rfl hd_C_isDigit ⟨Nat.le_of_ble_eq_true rfl, Nat.le_of_ble_eq_true rfl⟩) cc_preS rfl rfl hl.1 rfl (lv_room (Nat.le_of_ble_eq_true rfl)) d_C_constant_13 ⟨Nat.zero_le _, Nat.zero_le _⟩) ?_
        refine lv_if_eq (tgt := 35) hx hb d_C_constant_16 (by decide) (fun h16_11 => ?_) (fun h16_11 => ?_)
        · rw [if_pos h16_11] at hf
          have hl : lv_has ls 5 [(0, .ref (a 0)), (1, .int x1), (2, .int x2)] := lv_sub hl [0, 1, 2] rfl
          exact J35 x1 x2 F10 A10 _ _ _ hl hP hD hS hf
        · rw [if_neg h16_11] at hf
          refine lv_iload_n hx hb d_C_constant_19 rfl (lv_at hl 1 rfl) ?_
          refine lv_bipush (v := 10) hx hb d_C_constant_20 (by decide) ?_
          refine lv_imul hx hb d_C_constant_22 ?_
          refine lv_aload_n hx hb d_C_constant_23 rfl (lv_at hl 0 rfl) ?_
          have hP : va_P (dC, dI) vC (wC a cI cC F10 A10) H := hP
          have hD : va_D (va_A (wC a cI cC Fa Aa) s.heap.size) (wC a cI cC F10 A10) := hD
          obtain ⟨r12, F12, A12, hc, hf⟩ := ra_bi_some hf
          refine cc_calli (va_runV (As := []) (rest := [.int (x1 * (10 : Int32))]) ⟨hx, hb, hml, hown, hts⟩ (k_C_digit l dC dI a cI cC H.size F10 A10  r12 F12 A12 hc) (cw_V 0 hts mw_188 mw_190 ms_C_digit mw_3 mw_191 rfl rfl rfl hd_C_digit ⟨Nat.le_of_ble_eq_true rfl, Nat.le_of_ble_eq_true rfl⟩) (cc_preV hK hP hD rfl (q0 := 0) rfl) rfl rfl hl.1 rfl (lv_room (Nat.le_of_ble_eq_true rfl)) d_C_constant_24 ⟨Nat.zero_le _, Nat.zero_le _⟩) hD hS hA (fun H locs hP hD hS => ?_)
          refine lv_iadd hx hb d_C_constant_27 ?_
          refine lv_istore_n hx hb d_C_constant_28 rfl hl (by decide) rfl (fun ls hl => ?_)
          have hl : lv_has ls 5 [(1, .int ((x1 * (10 : Int32)) + r12)), (0, .ref (a 0)), (2, .int x2)] := hl
          refine lv_iinc (k := 2) (v := (x2 + (1 : Int32))) hx hb d_C_constant_29 hl rfl (by rfl) (by decide) rfl (fun ls hl => ?_)
          have hl : lv_has ls 5 [(2, .int (x2 + (1 : Int32))), (1, .int ((x1 * (10 : Int32)) + r12)), (0, .ref (a 0))] := hl
          refine lv_goto (tgt := 4) hx hb d_C_constant_32 (by decide) ?_
          have hl : lv_has ls 5 [(0, .ref (a 0)), (1, .int ((x1 * (10 : Int32)) + r12)), (2, .int (x2 + (1 : Int32)))] := lv_sub hl [2, 1, 0] rfl
          exact ih ((x1 * (10 : Int32)) + r12) (x2 + (1 : Int32)) F12 A12 _ _ _ hl hP hD hS hf
  rw [lg_entry_eq]
  generalize (lg_sl (([.ref (a 0)] : List Value)) ++ List.replicate (5 - (lg_sl (([.ref (a 0)] : List Value))).length) Slot.unset).toArray = ls at hl ⊢
  have hl : lv_has ls 5 [(0, .ref (a 0))] := hl
  unfold f_C_constant at hf
  refine lv_iconst (v := 0) hx hb d_C_constant_0 (by decide) ?_
  refine lv_istore_n hx hb d_C_constant_1 rfl hl (by decide) rfl (fun ls hl => ?_)
  have hl : lv_has ls 5 [(1, .int (0 : Int32)), (0, .ref (a 0))] := hl
  refine lv_iconst (v := 0) hx hb d_C_constant_2 (by decide) ?_
  refine lv_istore_n hx hb d_C_constant_3 rfl hl (by decide) rfl (fun ls hl => ?_)
  have hl : lv_has ls 5 [(2, .int (0 : Int32)), (1, .int (0 : Int32)), (0, .ref (a 0))] := hl
  have hl : lv_has ls 5 [(0, .ref (a 0)), (1, .int (0 : Int32)), (2, .int (0 : Int32))] := lv_sub hl [2, 1, 0] rfl
  exact L4 400 (0 : Int32) (0 : Int32) Fa Aa _ _ _ hl hP hD hS hf
def f_C_picked_L81 : Nat → Int32 → Int32 → Int32 → Int32 → ST_F → ST_A → Option (Int32 × ST_F × ST_A)
  | 0, _, _, _, _, _, _ => none
  | n + 1, x1, x2, x3, x4, F, A => if x2 ≤ x4 then (some (x3, (upd F 1 ((F 1) + x2)), A)) else (ra_g ((F 1) + x4) 160 (if (((A 1) ((F 1) + x4).toNatClampNeg) - (120 : Int32)) < (f_V_typeIn x1) then (f_C_picked_L81 n x1 x2 (f_V_withNumber x3 x4 (f_V_number x1 (((A 1) ((F 1) + x4).toNatClampNeg) - (120 : Int32)))) (x4 + (1 : Int32)) F A) else (some ((-1 : Int32), F, A))))
def f_C_picked_J59 (x1 : Int32) (x2 : Int32) (F : ST_F) (A : ST_A) : Option (Int32 × ST_F × ST_A) := if x2 = 0 then (some ((-1 : Int32), F, A)) else (if (f_V_typeIn x1) = (4 : Int32) then (some ((-1 : Int32), F, A)) else (f_C_picked_L81 400 x1 x2 (f_V_ofType x2) (0 : Int32) F A))
def f_C_picked_L18 : Nat → Int32 → Int32 → ST_F → ST_A → Option (Int32 × ST_F × ST_A)
  | 0, _, _, _, _ => none
  | n + 1, x1, x2, F, A => if (3 : Int32) ≤ x2 then (f_C_picked_J59 x1 x2 F A) else (if (F 0) ≤ ((F 1) + x2) then (f_C_picked_J59 x1 x2 F A) else (ra_g ((F 1) + x2) 160 (if (f_C_isPlace ((A 1) ((F 1) + x2).toNatClampNeg)) = 0 then (f_C_picked_J59 x1 x2 F A) else (f_C_picked_L18 n x1 (x2 + (1 : Int32)) F A))))
def f_C_picked (u1 : Int32) (Fa : ST_F) (Aa : ST_A) : Option (Int32 × ST_F × ST_A) := if u1 = (-1 : Int32) then (some (u1, Fa, Aa)) else (ra_bi (f_C_takes (46 : Int32) Fa Aa) (fun r2 F2 A2 => if r2 = 0 then (some (u1, F2, A2)) else (f_C_picked_L18 400 u1 (0 : Int32) F2 A2)))
set_option maxHeartbeats 4000000 in
set_option maxRecDepth 100000 in
theorem k_C_picked (l : Launch) (dC : Nat → ClassId) (dI : Nat → Nat → Nat) (a : Nat → Nat) (cI cC : ClassId) (sz : Nat) (Fa : ST_F) (Aa : ST_A) (u1 : Int32) (r0 : Int32) (F9 : ST_F) (A9 : ST_A) (hf : f_C_picked u1 Fa Aa = some (r0, F9, A9)) : cc_MetI l y_C_picked (Cond.code y_C_picked b_C_picked 6 (some .int) :: wA) ({ frames := 2, cells := 0, slots := 0, locals := 41 } : Room) (dC, dI) vC [(cI, .int), (cC, .char)] ([.ref (a 0), .int u1] : List Value) (wC a cI cC Fa Aa) sz (wC a cI cC F9 A9) r0 := by
  refine Met.ofW (cc := b_C_picked) (maxL := 6) (ret := (some .int)) (by decide) rfl ?_
  intro p e s m args below meth c s₁ B hml hv
  obtain ⟨rfl, hsz, hP, hK, hD0⟩ := hv
  have hx := B.exec
  have hb := B.bytes
  have hr := B.returns
  have hts := fun w h => atoms_spec (ws := (Cond.code y_C_picked b_C_picked 6 (some .int) :: wA)) B.pre w (List.mem_cons_of_mem _ h)
  have hown : s.vm.findClass R_C = some m.cls := findClass_of_methodNamed B.named
  have hlocks := B.notSynchronized
  subst hsz
  have hD := hD0.self (sz := s.heap.size)
  have hA : ∀ q : Nat, s.heap.size ≤ q → va_A (wC a cI cC Fa Aa) s.heap.size q := fun q h => Or.inr h
  have hS : va_S (va_A (wC a cI cC Fa Aa) s.heap.size) s.heap s.heap [] := va_S.rf
  have hl := lv_entry (([.ref (a 0), .int u1] : List Value)) (n := 6) (Nat.le_of_ble_eq_true rfl)
  have L81 : ∀ (n : Nat) (x1 : Int32) (x2 : Int32) (x3 : Int32) (x4 : Int32) (F : ST_F) (A : ST_A) (H : Heap) (locs : List Loc) (ls : Array Slot), lv_has ls 6 [(0, .ref (a 0)), (1, .int x1), (2, .int x2), (3, .int x3), (4, .int x4)] → va_P (dC, dI) vC (wC a cI cC F A) H → va_D (va_A (wC a cI cC Fa Aa) s.heap.size) (wC a cI cC F A) → va_S (va_A (wC a cI cC Fa Aa) s.heap.size) s.heap H locs → f_C_picked_L81 n x1 x2 x3 x4 F A = some (r0, F9, A9) → W p l e (headSpec (Cond.code y_C_picked b_C_picked 6 (some .int) :: wA) ({ frames := 2, cells := 0, slots := 0, locals := 41 } : Room)).room s m ([.ref (a 0), .int u1] : List Value).toArray below meth c H locs 0 0 (MQ below (cc_Qi (dC, dI) vC [(cI, .int), (cC, .char)] (wC a cI cC Fa Aa) s.heap.size (wC a cI cC F9 A9) r0) ([.ref (a 0), .int u1] : List Value).toArray s 0 0 (va_A (wC a cI cC Fa Aa) s.heap.size)) (F0 m 81 ls []) := by
    intro n
    induction n with
    | zero => intro x1 x2 x3 x4 F A H locs ls hl hP hD hS hf; cases hf
    | succ n ih =>
      intro x1 x2 x3 x4 F A H locs ls hl hP hD hS hf
      rw [f_C_picked_L81] at hf
      refine lv_iload hx hb d_C_picked_81 (lv_at hl 4 rfl) ?_
      refine lv_iload_n hx hb d_C_picked_83 rfl (lv_at hl 2 rfl) ?_
      refine lv_icmp_ge (tgt := 134) hx hb d_C_picked_84 (by decide) (fun h84_7 => ?_) (fun h84_7 => ?_)
      · rw [if_pos h84_7] at hf
        refine lv_aload_n hx hb d_C_picked_134 rfl (lv_at hl 0 rfl) ?_
        refine lv_dup hx hb d_C_picked_135 rfl ?_
        refine va_get (D := (dC, dI)) (ci := 1) (v := .int (F 1)) (C := R_C) (T := T_C) (N := 5) hx hb hts in_C hown hK hP 0 rfl rfl 3 (by decide) (hts _ mw_78) (fun _ h9 => h9) rfl d_C_picked_136 ?_
        refine lv_iload_n hx hb d_C_picked_139 rfl (lv_at hl 2 rfl) ?_
        refine lv_iadd hx hb d_C_picked_140 ?_
        refine va_put (D := (dC, dI)) (ci := 1) (v := .int ((F 1) + x2)) (ty := .int) (C := R_C) (T := T_C) (N := 5) hx hb hts in_C ty_C ty_C_ok nm_C hown hK hP hD hS 0 rfl rfl 3 (by decide) (hts _ mw_78) (fun _ h9 => h9) rfl (by decide +kernel) rfl rfl (Nat.le_of_ble_eq_true rfl) d_C_picked_141 (fun H locs hP hD hS => ?_)
        have hP : va_P (dC, dI) vC [((a 0), .inr (1, [.ref (a 1), .ref (a 2), .int (F 0), .int ((F 1) + x2), .ref (a 3)])), ((a 1), .inl (cI, 26, .inl (A 0))), ((a 2), .inl (cC, 160, .inl (A 1))), ((a 3), .inr (0, [.ref (a 4), .ref (a 5), .ref (a 6), .ref (a 7), .ref (a 8), .int (F 2), .int (F 3)])), ((a 4), .inl (cI, 100, .inl (A 2))), ((a 5), .inl (cI, 100, .inl (A 3))), ((a 6), .inl (cI, 100, .inl (A 4))), ((a 7), .inl (cI, 3, .inl (A 5))), ((a 8), .inl (cI, 26, .inl (A 6)))] H := hP
        have hD : va_D (va_A (wC a cI cC Fa Aa) s.heap.size) [((a 0), .inr (1, [.ref (a 1), .ref (a 2), .int (F 0), .int ((F 1) + x2), .ref (a 3)])), ((a 1), .inl (cI, 26, .inl (A 0))), ((a 2), .inl (cC, 160, .inl (A 1))), ((a 3), .inr (0, [.ref (a 4), .ref (a 5), .ref (a 6), .ref (a 7), .ref (a 8), .int (F 2), .int (F 3)])), ((a 4), .inl (cI, 100, .inl (A 2))), ((a 5), .inl (cI, 100, .inl (A 3))), ((a 6), .inl (cI, 100, .inl (A 4))), ((a 7), .inl (cI, 3, .inl (A 5))), ((a 8), .inl (cI, 26, .inl (A 6)))] := hD
        refine lv_iload_n hx hb d_C_picked_144 rfl (lv_at hl 3 rfl) ?_
        cases hf
        exact W.iret hx hb hr (fun t ht hW => ⟨⟨_, (), rfl, rfl, by rw [ht]; exact hP, va_K.moved hW.alike hK, hD⟩, hS.F ht⟩) hS.2.2 d_C_picked_145
      · rw [if_neg h84_7] at hf
        refine lv_aload_n hx hb d_C_picked_87 rfl (lv_at hl 0 rfl) ?_
        refine va_get (D := (dC, dI)) (ci := 1) (v := .ref (a 2)) (C := R_C) (T := T_C) (N := 5) hx hb hts in_C hown hK hP 0 rfl rfl 1 (by decide) (hts _ mw_76) (fun _ h9 => h9) rfl d_C_picked_88 ?_
        refine lv_aload_n hx hb d_C_picked_91 rfl (lv_at hl 0 rfl) ?_
        refine va_get (D := (dC, dI)) (ci := 1) (v := .int (F 1)) (C := R_C) (T := T_C) (N := 5) hx hb hts in_C hown hK hP 0 rfl rfl 3 (by decide) (hts _ mw_78) (fun _ h9 => h9) rfl d_C_picked_92 ?_
        refine lv_iload hx hb d_C_picked_95 (lv_at hl 4 rfl) ?_
        refine lv_iadd hx hb d_C_picked_97 ?_
        obtain ⟨hi, hf⟩ := ra_g_some hf
        refine va_cald hx hb hK hP 2 1 rfl rfl hi d_C_picked_98 ?_
        refine lv_bipush (v := 120) hx hb d_C_picked_99 (by decide) ?_
        refine lv_isub hx hb d_C_picked_101 ?_
        refine lv_istore hx hb d_C_picked_102 hl (by decide) rfl (fun ls hl => ?_)
        have hl : lv_has ls 6 [(5, .int (((A 1) ((F 1) + x4).toNatClampNeg) - (120 : Int32))), (0, .ref (a 0)), (1, .int x1), (2, .int x2), (3, .int x3), (4, .int x4)] := hl
        refine lv_iload hx hb d_C_picked_104 (lv_at hl 0 rfl) ?_
        refine lv_iload_n hx hb d_C_picked_106 rfl (lv_at hl 2 rfl) ?_
        refine cc_calls (va_runS (As := [.int x1]) (rest := [.int (((A 1) ((F 1) + x4).toNatClampNeg) - (120 : Int32))]) ⟨hx, hb, hml, hown, hts⟩ (k_V_typeIn l x1 _ rfl) (cw_S 1 hts mw_223 mw_224 mw_11 mw_225 rfl rfl hd_V_typeIn ⟨Nat.le_of_ble_eq_true rfl, Nat.le_of_ble_eq_true rfl⟩) cc_preS rfl rfl hl.1 rfl (lv_room (Nat.le_of_ble_eq_true rfl)) d_C_picked_107 ⟨Nat.zero_le _, Nat.zero_le _⟩) ?_
        refine lv_icmp_lt (tgt := 115) hx hb d_C_picked_110 (by decide) (fun h110_8 => ?_) (fun h110_8 => ?_)
        · rw [if_pos h110_8] at hf
          refine lv_iload_n hx hb d_C_picked_115 rfl (lv_at hl 4 rfl) ?_
          refine lv_iload hx hb d_C_picked_116 (lv_at hl 5 rfl) ?_
          refine lv_iload_n hx hb d_C_picked_118 rfl (lv_at hl 2 rfl) ?_
          refine lv_iload hx hb d_C_picked_119 (lv_at hl 0 rfl) ?_
          refine cc_calls (va_runS (As := [.int x1, .int (((A 1) ((F 1) + x4).toNatClampNeg) - (120 : Int32))]) (rest := [.int x4, .int x3]) ⟨hx, hb, hml, hown, hts⟩ (k_V_number l x1 (((A 1) ((F 1) + x4).toNatClampNeg) - (120 : Int32)) _ rfl) (cw_S 2 hts mw_226 mw_227 mw_11 mw_228 rfl rfl hd_V_number ⟨Nat.le_of_ble_eq_true rfl, Nat.le_of_ble_eq_true rfl⟩) cc_preS rfl rfl hl.1 rfl (lv_room (Nat.le_of_ble_eq_true rfl)) d_C_picked_121 ⟨Nat.zero_le _, Nat.zero_le _⟩) ?_
          refine cc_calls (va_runS (As := [.int x3, .int x4, .int (f_V_number x1 (((A 1) ((F 1) + x4).toNatClampNeg) - (120 : Int32)))]) (rest := []) ⟨hx, hb, hml, hown, hts⟩ (k_V_withNumber l x3 x4 (f_V_number x1 (((A 1) ((F 1) + x4).toNatClampNeg) - (120 : Int32))) _ rfl) (cw_S 3 hts mw_200 mw_201 mw_11 mw_202 rfl rfl hd_V_withNumber ⟨Nat.le_of_ble_eq_true rfl, Nat.le_of_ble_eq_true rfl⟩) cc_preS rfl rfl hl.1 rfl (lv_room (Nat.le_of_ble_eq_true rfl)) d_C_picked_124 ⟨Nat.zero_le _, Nat.zero_le _⟩) ?_
          refine lv_istore_n hx hb d_C_picked_127 rfl hl (by decide) rfl (fun ls hl => ?_)
          have hl : lv_has ls 6 [(3, .int (f_V_withNumber x3 x4 (f_V_number x1 (((A 1) ((F 1) + x4).toNatClampNeg) - (120 : Int32))))), (5, .int (((A 1) ((F 1) + x4).toNatClampNeg) - (120 : Int32))), (0, .ref (a 0)), (1, .int x1), (2, .int x2), (4, .int x4)] := hl
          refine lv_iinc (k := 5) (v := (x4 + (1 : Int32))) hx hb d_C_picked_128 hl rfl (by rfl) (by decide) rfl (fun ls hl => ?_)
          have hl : lv_has ls 6 [(4, .int (x4 + (1 : Int32))), (3, .int (f_V_withNumber x3 x4 (f_V_number x1 (((A 1) ((F 1) + x4).toNatClampNeg) - (120 : Int32))))), (5, .int (((A 1) ((F 1) + x4).toNatClampNeg) - (120 : Int32))), (0, .ref (a 0)), (1, .int x1), (2, .int x2)] := hl
          refine lv_goto (tgt := 81) hx hb d_C_picked_131 (by decide) ?_
          have hl : lv_has ls 6 [(0, .ref (a 0)), (1, .int x1), (2, .int x2), (3, .int (f_V_withNumber x3 x4 (f_V_number x1 (((A 1) ((F 1) + x4).toNatClampNeg) - (120 : Int32))))), (4, .int (x4 + (1 : Int32)))] := lv_sub hl [3, 4, 5, 1, 0] rfl
          exact ih x1 x2 (f_V_withNumber x3 x4 (f_V_number x1 (((A 1) ((F 1) + x4).toNatClampNeg) - (120 : Int32)))) (x4 + (1 : Int32)) F A _ _ _ hl hP hD hS hf
        · rw [if_neg h110_8] at hf
          refine lv_iconst (v := -1) hx hb d_C_picked_113 (by decide) ?_
          cases hf
          exact W.iret hx hb hr (fun t ht hW => ⟨⟨_, (), rfl, rfl, by rw [ht]; exact hP, va_K.moved hW.alike hK, hD⟩, hS.F ht⟩) hS.2.2 d_C_picked_114
  have J59 : ∀ (x1 : Int32) (x2 : Int32) (F : ST_F) (A : ST_A) (H : Heap) (locs : List Loc) (ls : Array Slot), lv_has ls 6 [(0, .ref (a 0)), (1, .int x1), (2, .int x2)] → va_P (dC, dI) vC (wC a cI cC F A) H → va_D (va_A (wC a cI cC Fa Aa) s.heap.size) (wC a cI cC F A) → va_S (va_A (wC a cI cC Fa Aa) s.heap.size) s.heap H locs → f_C_picked_J59 x1 x2 F A = some (r0, F9, A9) → W p l e (headSpec (Cond.code y_C_picked b_C_picked 6 (some .int) :: wA) ({ frames := 2, cells := 0, slots := 0, locals := 41 } : Room)).room s m ([.ref (a 0), .int u1] : List Value).toArray below meth c H locs 0 0 (MQ below (cc_Qi (dC, dI) vC [(cI, .int), (cC, .char)] (wC a cI cC Fa Aa) s.heap.size (wC a cI cC F9 A9) r0) ([.ref (a 0), .int u1] : List Value).toArray s 0 0 (va_A (wC a cI cC Fa Aa) s.heap.size)) (F0 m 59 ls []) := by
    intro x1 x2 F A H locs ls hl hP hD hS hf
    unfold f_C_picked_J59 at hf
    refine lv_iload_n hx hb d_C_picked_59 rfl (lv_at hl 2 rfl) ?_
    refine lv_if_eq (tgt := 71) hx hb d_C_picked_60 (by decide) (fun h60_5 => ?_) (fun h60_5 => ?_)
    · rw [if_pos h60_5] at hf
      refine lv_iconst (v := -1) hx hb d_C_picked_71 (by decide) ?_
      cases hf
      exact W.iret hx hb hr (fun t ht hW => ⟨⟨_, (), rfl, rfl, by rw [ht]; exact hP, va_K.moved hW.alike hK, hD⟩, hS.F ht⟩) hS.2.2 d_C_picked_72
    · rw [if_neg h60_5] at hf
      refine lv_iload_n hx hb d_C_picked_63 rfl (lv_at hl 1 rfl) ?_
      refine cc_calls (va_runS (As := [.int x1]) (rest := []) ⟨hx, hb, hml, hown, hts⟩ (k_V_typeIn l x1 _ rfl) (cw_S 1 hts mw_223 mw_224 mw_11 mw_225 rfl rfl hd_V_typeIn ⟨Nat.le_of_ble_eq_true rfl, Nat.le_of_ble_eq_true rfl⟩) cc_preS rfl rfl hl.1 rfl (lv_room (Nat.le_of_ble_eq_true rfl)) d_C_picked_64 ⟨Nat.zero_le _, Nat.zero_le _⟩) ?_
      refine lv_iconst (v := 4) hx hb d_C_picked_67 (by decide) ?_
      refine lv_icmp_ne (tgt := 73) hx hb d_C_picked_68 (by decide) (fun h68_6 => ?_) (fun h68_6 => ?_)
      · rw [if_neg h68_6] at hf
        refine lv_iload_n hx hb d_C_picked_73 rfl (lv_at hl 2 rfl) ?_
        refine cc_calls (va_runS (As := [.int x2]) (rest := []) ⟨hx, hb, hml, hown, hts⟩ (k_V_ofType l x2 _ rfl) (cw_S 1 hts mw_193 mw_194 mw_11 mw_195 rfl rfl hd_V_ofType ⟨Nat.le_of_ble_eq_true rfl, Nat.le_of_ble_eq_true rfl⟩) cc_preS rfl rfl hl.1 rfl (lv_room (Nat.le_of_ble_eq_true rfl)) d_C_picked_74 ⟨Nat.zero_le _, Nat.zero_le _⟩) ?_
        refine lv_istore_n hx hb d_C_picked_77 rfl hl (by decide) rfl (fun ls hl => ?_)
        have hl : lv_has ls 6 [(3, .int (f_V_ofType x2)), (0, .ref (a 0)), (1, .int x1), (2, .int x2)] := hl
        refine lv_iconst (v := 0) hx hb d_C_picked_78 (by decide) ?_
        refine lv_istore hx hb d_C_picked_79 hl (by decide) rfl (fun ls hl => ?_)
        have hl : lv_has ls 6 [(4, .int (0 : Int32)), (3, .int (f_V_ofType x2)), (0, .ref (a 0)), (1, .int x1), (2, .int x2)] := hl
        have hl : lv_has ls 6 [(0, .ref (a 0)), (1, .int x1), (2, .int x2), (3, .int (f_V_ofType x2)), (4, .int (0 : Int32))] := lv_sub hl [2, 3, 4, 1, 0] rfl
        exact L81 400 x1 x2 (f_V_ofType x2) (0 : Int32) F A _ _ _ hl hP hD hS hf
      · rw [if_pos h68_6] at hf
        refine lv_iconst (v := -1) hx hb d_C_picked_71 (by decide) ?_
        cases hf
        exact W.iret hx hb hr (fun t ht hW => ⟨⟨_, (), rfl, rfl, by rw [ht]; exact hP, va_K.moved hW.alike hK, hD⟩, hS.F ht⟩) hS.2.2 d_C_picked_72
  have L18 : ∀ (n : Nat) (x1 : Int32) (x2 : Int32) (F : ST_F) (A : ST_A) (H : Heap) (locs : List Loc) (ls : Array Slot), lv_has ls 6 [(0, .ref (a 0)), (1, .int x1), (2, .int x2)] → va_P (dC, dI) vC (wC a cI cC F A) H → va_D (va_A (wC a cI cC Fa Aa) s.heap.size) (wC a cI cC F A) → va_S (va_A (wC a cI cC Fa Aa) s.heap.size) s.heap H locs → f_C_picked_L18 n x1 x2 F A = some (r0, F9, A9) → W p l e (headSpec (Cond.code y_C_picked b_C_picked 6 (some .int) :: wA) ({ frames := 2, cells := 0, slots := 0, locals := 41 } : Room)).room s m ([.ref (a 0), .int u1] : List Value).toArray below meth c H locs 0 0 (MQ below (cc_Qi (dC, dI) vC [(cI, .int), (cC, .char)] (wC a cI cC Fa Aa) s.heap.size (wC a cI cC F9 A9) r0) ([.ref (a 0), .int u1] : List Value).toArray s 0 0 (va_A (wC a cI cC Fa Aa) s.heap.size)) (F0 m 18 ls []) := by
    intro n
    induction n with
    | zero => intro x1 x2 F A H locs ls hl hP hD hS hf; cases hf
    | succ n ih =>
      intro x1 x2 F A H locs ls hl hP hD hS hf
      rw [f_C_picked_L18] at hf
      refine lv_iload_n hx hb d_C_picked_18 rfl (lv_at hl 2 rfl) ?_
      refine lv_iconst (v := 3) hx hb d_C_picked_19 (by decide) ?_
      refine lv_icmp_ge (tgt := 59) hx hb d_C_picked_20 (by decide) (fun h20_4 => ?_) (fun h20_4 => ?_)
      · rw [if_pos h20_4] at hf
        have hl : lv_has ls 6 [(0, .ref (a 0)), (1, .int x1), (2, .int x2)] := lv_sub hl [0, 1, 2] rfl
        exact J59 x1 x2 F A _ _ _ hl hP hD hS hf
      · rw [if_neg h20_4] at hf
        refine lv_aload_n hx hb d_C_picked_23 rfl (lv_at hl 0 rfl) ?_
        refine va_get (D := (dC, dI)) (ci := 1) (v := .int (F 1)) (C := R_C) (T := T_C) (N := 5) hx hb hts in_C hown hK hP 0 rfl rfl 3 (by decide) (hts _ mw_78) (fun _ h9 => h9) rfl d_C_picked_24 ?_
        refine lv_iload_n hx hb d_C_picked_27 rfl (lv_at hl 2 rfl) ?_
        refine lv_iadd hx hb d_C_picked_28 ?_
        refine lv_aload_n hx hb d_C_picked_29 rfl (lv_at hl 0 rfl) ?_
        refine va_get (D := (dC, dI)) (ci := 1) (v := .int (F 0)) (C := R_C) (T := T_C) (N := 5) hx hb hts in_C hown hK hP 0 rfl rfl 2 (by decide) (hts _ mw_77) (fun _ h9 => h9) rfl d_C_picked_30 ?_
        refine lv_icmp_ge (tgt := 59) hx hb d_C_picked_33 (by decide) (fun h33_9 => ?_) (fun h33_9 => ?_)
        · rw [if_pos h33_9] at hf
          have hl : lv_has ls 6 [(0, .ref (a 0)), (1, .int x1), (2, .int x2)] := lv_sub hl [0, 1, 2] rfl
          exact J59 x1 x2 F A _ _ _ hl hP hD hS hf
        · rw [if_neg h33_9] at hf
          refine lv_aload_n hx hb d_C_picked_36 rfl (lv_at hl 0 rfl) ?_
          refine va_get (D := (dC, dI)) (ci := 1) (v := .ref (a 2)) (C := R_C) (T := T_C) (N := 5) hx hb hts in_C hown hK hP 0 rfl rfl 1 (by decide) (hts _ mw_76) (fun _ h9 => h9) rfl d_C_picked_37 ?_
          refine lv_aload_n hx hb d_C_picked_40 rfl (lv_at hl 0 rfl) ?_
          refine va_get (D := (dC, dI)) (ci := 1) (v := .int (F 1)) (C := R_C) (T := T_C) (N := 5) hx hb hts in_C hown hK hP 0 rfl rfl 3 (by decide) (hts _ mw_78) (fun _ h9 => h9) rfl d_C_picked_41 ?_
          refine lv_iload_n hx hb d_C_picked_44 rfl (lv_at hl 2 rfl) ?_
          refine lv_iadd hx hb d_C_picked_45 ?_
          obtain ⟨hi, hf⟩ := ra_g_some hf
          refine va_cald hx hb hK hP 2 1 rfl rfl hi d_C_picked_46 ?_
          refine cc_calls (va_runS (As := [.int ((A 1) ((F 1) + x2).toNatClampNeg)]) (rest := []) ⟨hx, hb, hml, hown, hts⟩ (k_C_isPlace l ((A 1) ((F 1) + x2).toNatClampNeg) _ rfl) (cw_S 1 hts mw_162 mw_163 mw_3 mw_164 rfl rfl hd_C_isPlace ⟨Nat.le_of_ble_eq_true rfl, Nat.le_of_ble_eq_true rfl⟩) cc_preS rfl rfl hl.1 rfl (lv_room (Nat.le_of_ble_eq_true rfl)) d_C_picked_47 ⟨Nat.zero_le _, Nat.zero_le _⟩) ?_
          refine lv_if_eq (tgt := 59) hx hb d_C_picked_50 (by decide) (fun h50_10 => ?_) (fun h50_10 => ?_)
          · rw [if_pos h50_10] at hf
            have hl : lv_has ls 6 [(0, .ref (a 0)), (1, .int x1), (2, .int x2)] := lv_sub hl [0, 1, 2] rfl
            exact J59 x1 x2 F A _ _ _ hl hP hD hS hf
          · rw [if_neg h50_10] at hf
            refine lv_iinc (k := 2) (v := (x2 + (1 : Int32))) hx hb d_C_picked_53 hl rfl (by rfl) (by decide) rfl (fun ls hl => ?_)
            have hl : lv_has ls 6 [(2, .int (x2 + (1 : Int32))), (0, .ref (a 0)), (1, .int x1)] := hl
            refine lv_goto (tgt := 18) hx hb d_C_picked_56 (by decide) ?_
            have hl : lv_has ls 6 [(0, .ref (a 0)), (1, .int x1), (2, .int (x2 + (1 : Int32)))] := lv_sub hl [1, 2, 0] rfl
            exact ih x1 (x2 + (1 : Int32)) F A _ _ _ hl hP hD hS hf
  rw [lg_entry_eq]
  generalize (lg_sl (([.ref (a 0), .int u1] : List Value)) ++ List.replicate (6 - (lg_sl (([.ref (a 0), .int u1] : List Value))).length) Slot.unset).toArray = ls at hl ⊢
  have hl : lv_has ls 6 [(0, .ref (a 0)), (1, .int u1)] := hl
  unfold f_C_picked at hf
  refine lv_iload_n hx hb d_C_picked_0 rfl (lv_at hl 1 rfl) ?_
  refine lv_iconst (v := -1) hx hb d_C_picked_1 (by decide) ?_
  refine lv_icmp_eq (tgt := 14) hx hb d_C_picked_2 (by decide) (fun h2_1 => ?_) (fun h2_1 => ?_)
  · rw [if_pos h2_1] at hf
    refine lv_iload_n hx hb d_C_picked_14 rfl (lv_at hl 1 rfl) ?_
    cases hf
    exact W.iret hx hb hr (fun t ht hW => ⟨⟨_, (), rfl, rfl, by rw [ht]; exact hP, va_K.moved hW.alike hK, hD⟩, hS.F ht⟩) hS.2.2 d_C_picked_15
  · rw [if_neg h2_1] at hf
    refine lv_aload_n hx hb d_C_picked_5 rfl (lv_at hl 0 rfl) ?_
    refine lv_bipush (v := 46) hx hb d_C_picked_6 (by decide) ?_
    have hP : va_P (dC, dI) vC (wC a cI cC Fa Aa) s.heap := hP
    have hD : va_D (va_A (wC a cI cC Fa Aa) s.heap.size) (wC a cI cC Fa Aa) := hD
    obtain ⟨r2, F2, A2, hc, hf⟩ := ra_bi_some hf
    refine cc_calli (va_runV (As := [.int (46 : Int32)]) (rest := []) ⟨hx, hb, hml, hown, hts⟩ (k_C_takes l dC dI a cI cC s.heap.size Fa Aa (46 : Int32) r2 F2 A2 hc) (cw_V 1 hts mw_177 mw_179 ms_C_takes mw_3 mw_180 rfl rfl rfl hd_C_takes ⟨Nat.le_of_ble_eq_true rfl, Nat.le_of_ble_eq_true rfl⟩) (cc_preV hK hP hD rfl (q0 := 0) rfl) rfl rfl hl.1 rfl (lv_room (Nat.le_of_ble_eq_true rfl)) d_C_picked_8 ⟨Nat.zero_le _, Nat.zero_le _⟩) hD hS hA (fun H locs hP hD hS => ?_)
    refine lv_if_ne (tgt := 16) hx hb d_C_picked_11 (by decide) (fun h11_3 => ?_) (fun h11_3 => ?_)
    · rw [if_neg h11_3] at hf
      refine lv_iconst (v := 0) hx hb d_C_picked_16 (by decide) ?_
      refine lv_istore_n hx hb d_C_picked_17 rfl hl (by decide) rfl (fun ls hl => ?_)
      have hl : lv_has ls 6 [(2, .int (0 : Int32)), (0, .ref (a 0)), (1, .int u1)] := hl
      have hl : lv_has ls 6 [(0, .ref (a 0)), (1, .int u1), (2, .int (0 : Int32))] := lv_sub hl [1, 2, 0] rfl
      exact L18 400 u1 (0 : Int32) F2 A2 _ _ _ hl hP hD hS hf
    · rw [if_pos h11_3] at hf
      refine lv_iload_n hx hb d_C_picked_14 rfl (lv_at hl 1 rfl) ?_
      cases hf
      exact W.iret hx hb hr (fun t ht hW => ⟨⟨_, (), rfl, rfl, by rw [ht]; exact hP, va_K.moved hW.alike hK, hD⟩, hS.F ht⟩) hS.2.2 d_C_picked_15
