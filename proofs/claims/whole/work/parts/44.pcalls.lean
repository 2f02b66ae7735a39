def f_P_hasCode  (Fa : ST_F) (Aa : ST_A) : Option Int32 := if (Fa 3) ≤ 0 then (some (0 : Int32)) else (some (1 : Int32))
set_option maxHeartbeats 4000000 in
set_option maxRecDepth 100000 in
theorem k_P_hasCode (l : Launch) (dC : Nat → ClassId) (dI : Nat → Nat → Nat) (b : Nat → Nat) (cI cC : ClassId) (tx : Nat) (sz : Nat) (Fa : ST_F) (Aa : ST_A)  (r0 : Int32) (hf : f_P_hasCode  Fa Aa = some r0) : cc_MetR l y_P_hasCode (Cond.code y_P_hasCode b_P_hasCode 1 (some .boolean) :: wA) ({ frames := 0, cells := 0, slots := 0, locals := 0 } : Room) (dC, dI) vC [(cI, .int), (cC, .char)] ([.ref (b 0)] : List Value) (wP b cI cC tx Fa Aa) sz r0 := by
  refine Met.ofW (cc := b_P_hasCode) (maxL := 1) (ret := (some .boolean)) (by decide) rfl ?_
  intro p e s m args below meth c s₁ B hml hv
  obtain ⟨rfl, hsz, hP, hK, hD0⟩ := hv
  have hx := B.exec
  have hb := B.bytes
  have hr := B.returns
  have hts := fun w h => atoms_spec (ws := (Cond.code y_P_hasCode b_P_hasCode 1 (some .boolean) :: wA)) B.pre w (List.mem_cons_of_mem _ h)
  have hown : s.vm.findClass R_P = some m.cls := findClass_of_methodNamed B.named
  have hlocks := B.notSynchronized
  subst hsz
  have hD := hD0.self (sz := s.heap.size)
  have hl := lv_entry (([.ref (b 0)] : List Value)) (n := 1) (Nat.le_of_ble_eq_true rfl)
  rw [lg_entry_eq]
  generalize (lg_sl (([.ref (b 0)] : List Value)) ++ List.replicate (1 - (lg_sl (([.ref (b 0)] : List Value))).length) Slot.unset).toArray = ls at hl ⊢
  have hl : lv_has ls 1 [(0, .ref (b 0))] := hl
  unfold f_P_hasCode at hf
  refine lv_aload_n hx hb d_P_hasCode_0 rfl (lv_at hl 0 rfl) ?_
  refine va_get (D := (dC, dI)) (ci := 3) (v := .ref (b 8)) (C := R_P) (T := T_P) (N := 6) hx hb hts in_P hown hK hP 0 rfl rfl 2 (by decide) (hts _ mw_107) (fun _ h9 => h9) rfl d_P_hasCode_1 ?_
  refine va_get (D := (dC, dI)) (ci := 0) (v := .int (Fa 3)) (C := R_K) (T := T_K) (N := 7) hx hb hts in_K hown hK hP 8 rfl rfl 5 (by decide) (hts _ mw_47) (fun _ h9 => h9) rfl d_P_hasCode_4 ?_
  refine lv_if_le (tgt := 14) hx hb d_P_hasCode_7 (by decide) (fun h7_1 => ?_) (fun h7_1 => ?_)
  · rw [if_pos h7_1] at hf
    refine lv_iconst (v := 0) hx hb d_P_hasCode_14 (by decide) ?_
    cases hf
    exact W.zret hx hb hr (by rfl) (fun t ht hW => ⟨_, rfl, rfl, ht⟩) (fun q h => by cases h) d_P_hasCode_15
  · rw [if_neg h7_1] at hf
    refine lv_iconst (v := 1) hx hb d_P_hasCode_10 (by decide) ?_
    refine lv_goto (tgt := 15) hx hb d_P_hasCode_11 (by decide) ?_
    cases hf
    exact W.zret hx hb hr (by rfl) (fun t ht hW => ⟨_, rfl, rfl, ht⟩) (fun q h => by cases h) d_P_hasCode_15
def f_P_isInstruction (u1 : Int32) (Fa : ST_F) (Aa : ST_A) : Option Int32 := if u1 < 0 then (some (0 : Int32)) else (if (Fa 3) ≤ u1 then (some (0 : Int32)) else (some (1 : Int32)))
set_option maxHeartbeats 4000000 in
set_option maxRecDepth 100000 in
theorem k_P_isInstruction (l : Launch) (dC : Nat → ClassId) (dI : Nat → Nat → Nat) (b : Nat → Nat) (cI cC : ClassId) (tx : Nat) (sz : Nat) (Fa : ST_F) (Aa : ST_A) (u1 : Int32) (r0 : Int32) (hf : f_P_isInstruction u1 Fa Aa = some r0) : cc_MetR l y_P_isInstruction (Cond.code y_P_isInstruction b_P_isInstruction 2 (some .boolean) :: wA) ({ frames := 0, cells := 0, slots := 0, locals := 0 } : Room) (dC, dI) vC [(cI, .int), (cC, .char)] ([.ref (b 0), .int u1] : List Value) (wP b cI cC tx Fa Aa) sz r0 := by
  refine Met.ofW (cc := b_P_isInstruction) (maxL := 2) (ret := (some .boolean)) (by decide) rfl ?_
  intro p e s m args below meth c s₁ B hml hv
  obtain ⟨rfl, hsz, hP, hK, hD0⟩ := hv
  have hx := B.exec
  have hb := B.bytes
  have hr := B.returns
  have hts := fun w h => atoms_spec (ws := (Cond.code y_P_isInstruction b_P_isInstruction 2 (some .boolean) :: wA)) B.pre w (List.mem_cons_of_mem _ h)
  have hown : s.vm.findClass R_P = some m.cls := findClass_of_methodNamed B.named
  have hlocks := B.notSynchronized
  subst hsz
  have hD := hD0.self (sz := s.heap.size)
  have hl := lv_entry (([.ref (b 0), .int u1] : List Value)) (n := 2) (Nat.le_of_ble_eq_true rfl)
  rw [lg_entry_eq]
  generalize (lg_sl (([.ref (b 0), .int u1] : List Value)) ++ List.replicate (2 - (lg_sl (([.ref (b 0), .int u1] : List Value))).length) Slot.unset).toArray = ls at hl ⊢
  have hl : lv_has ls 2 [(0, .ref (b 0)), (1, .int u1)] := hl
  unfold f_P_isInstruction at hf
  refine lv_iload_n hx hb d_P_isInstruction_0 rfl (lv_at hl 1 rfl) ?_
  refine lv_if_lt (tgt := 19) hx hb d_P_isInstruction_1 (by decide) (fun h1_1 => ?_) (fun h1_1 => ?_)
  · rw [if_pos h1_1] at hf
    refine lv_iconst (v := 0) hx hb d_P_isInstruction_19 (by decide) ?_
    cases hf
    exact W.zret hx hb hr (by rfl) (fun t ht hW => ⟨_, rfl, rfl, ht⟩) (fun q h => by cases h) d_P_isInstruction_20
  · rw [if_neg h1_1] at hf
    refine lv_iload_n hx hb d_P_isInstruction_4 rfl (lv_at hl 1 rfl) ?_
    refine lv_aload_n hx hb d_P_isInstruction_5 rfl (lv_at hl 0 rfl) ?_
    refine va_get (D := (dC, dI)) (ci := 3) (v := .ref (b 8)) (C := R_P) (T := T_P) (N := 6) hx hb hts in_P hown hK hP 0 rfl rfl 2 (by decide) (hts _ mw_107) (fun _ h9 => h9) rfl d_P_isInstruction_6 ?_
    refine va_get (D := (dC, dI)) (ci := 0) (v := .int (Fa 3)) (C := R_K) (T := T_K) (N := 7) hx hb hts in_K hown hK hP 8 rfl rfl 5 (by decide) (hts _ mw_47) (fun _ h9 => h9) rfl d_P_isInstruction_9 ?_
    refine lv_icmp_ge (tgt := 19) hx hb d_P_isInstruction_12 (by decide) (fun h12_2 => ?_) (fun h12_2 => ?_)
    · rw [if_pos h12_2] at hf
      refine lv_iconst (v := 0) hx hb d_P_isInstruction_19 (by decide) ?_
      cases hf
      exact W.zret hx hb hr (by rfl) (fun t ht hW => ⟨_, rfl, rfl, ht⟩) (fun q h => by cases h) d_P_isInstruction_20
    · rw [if_neg h12_2] at hf
      refine lv_iconst (v := 1) hx hb d_P_isInstruction_15 (by decide) ?_
      refine lv_goto (tgt := 20) hx hb d_P_isInstruction_16 (by decide) ?_
      cases hf
      exact W.zret hx hb hr (by rfl) (fun t ht hW => ⟨_, rfl, rfl, ht⟩) (fun q h => by cases h) d_P_isInstruction_20
def f_P_type_L77 : Nat → Int32 → Int32 → Int32 → ST_F → ST_A → Option (Int32 × ST_F × ST_A)
  | 0, _, _, _, _, _ => none
  | n + 1, x1, x2, x3, F, A => if x3 < 0 then (some ((F 0), F, A)) else (if (((x1.toUInt32 >>> (x3.toUInt32 &&& Int32.toUInt32 31)).toInt32) &&& (255 : Int32)) = 0 then (f_P_type_L77 n x1 x2 (x3 + (-8 : Int32)) F A) else (ra_g (F 0) 160 (f_P_type_L77 n x1 x2 (x3 + (-8 : Int32)) (upd F 0 ((F 0) + (1 : Int32))) (va_up A 0 (upd (A 0) (F 0).toNatClampNeg (vp_nar .char (((((x1.toUInt32 >>> (x3.toUInt32 &&& Int32.toUInt32 31)).toInt32) &&& (255 : Int32)).toUInt32 % 65536).toInt32)))))))
def f_P_type_Z74 (x1 : Int32) (x2 : Int32) (x3 : Int32) (F : ST_F) (A : ST_A) : Option (Int32 × ST_F × ST_A) := f_P_type_L77 400 x1 x2 (24 : Int32) F A
def f_P_type_L5 : Nat → Int32 → Int32 → Int32 → ST_F → ST_A → Option (Sum Nat (Int32 × ST_F × ST_A))
  | 0, _, _, _, _, _ => none
  | n + 1, x1, x2, x3, F, A => if x3 < 0 then (if ((F 0) + x2) ≤ (160 : Int32) then (ra_ok (f_P_type_Z74 x1 x2 x3 F A)) else (some (.inl 2))) else (if (((x1.toUInt32 >>> (x3.toUInt32 &&& Int32.toUInt32 31)).toInt32) &&& (255 : Int32)) = 0 then (f_P_type_L5 n x1 x2 (x3 + (-8 : Int32)) F A) else (if (((x1.toUInt32 >>> (x3.toUInt32 &&& Int32.toUInt32 31)).toInt32) &&& (255 : Int32)) < (33 : Int32) then (some (.inl 1)) else (if (((x1.toUInt32 >>> (x3.toUInt32 &&& Int32.toUInt32 31)).toInt32) &&& (255 : Int32)) ≤ (126 : Int32) then (f_P_type_L5 n x1 (x2 + (1 : Int32)) (x3 + (-8 : Int32)) F A) else (some (.inl 1)))))
def f_P_type (u1 : Int32) (Fa : ST_F) (Aa : ST_A) : Option (Sum Nat (Int32 × ST_F × ST_A)) := f_P_type_L5 400 u1 (0 : Int32) (24 : Int32) Fa Aa
set_option maxHeartbeats 4000000 in
set_option maxRecDepth 100000 in
theorem k_P_type (l : Launch) (dC : Nat → ClassId) (dI : Nat → Nat → Nat) (b : Nat → Nat) (cI cC : ClassId) (tx : Nat) (sz : Nat) (Fa : ST_F) (Aa : ST_A) (u1 : Int32) (r0 : Int32) (F9 : ST_F) (A9 : ST_A) (hf : f_P_type u1 Fa Aa = some (.inr (r0, F9, A9))) : cc_MetI l y_P_type (Cond.code y_P_type b_P_type 5 (some .int) :: wA) ({ frames := 0, cells := 0, slots := 0, locals := 0 } : Room) (dC, dI) vC [(cI, .int), (cC, .char)] ([.ref (b 0), .int u1] : List Value) (wP b cI cC tx Fa Aa) sz (wP b cI cC tx F9 A9) r0 := by
  refine Met.ofW (cc := b_P_type) (maxL := 5) (ret := (some .int)) (by decide) rfl ?_
  intro p e s m args below meth c s₁ B hml hv
  obtain ⟨rfl, hsz, hP, hK, hD0⟩ := hv
  have hx := B.exec
  have hb := B.bytes
  have hr := B.returns
  have hts := fun w h => atoms_spec (ws := (Cond.code y_P_type b_P_type 5 (some .int) :: wA)) B.pre w (List.mem_cons_of_mem _ h)
  have hown : s.vm.findClass R_P = some m.cls := findClass_of_methodNamed B.named
  have hlocks := B.notSynchronized
  subst hsz
  have hD := hD0.self (sz := s.heap.size)
  have hA : ∀ q : Nat, s.heap.size ≤ q → va_A (wP b cI cC tx Fa Aa) s.heap.size q := fun q h => Or.inr h
  have hS : va_S (va_A (wP b cI cC tx Fa Aa) s.heap.size) s.heap s.heap [] := va_S.rf
  have hl := lv_entry (([.ref (b 0), .int u1] : List Value)) (n := 5) (Nat.le_of_ble_eq_true rfl)
  have L77 : ∀ (n : Nat) (x1 : Int32) (x2 : Int32) (x3 : Int32) (F : ST_F) (A : ST_A) (H : Heap) (locs : List Loc) (ls : Array Slot), lv_has ls 5 [(0, .ref (b 0)), (1, .int x1), (2, .int x2), (3, .int x3)] → va_P (dC, dI) vC (wP b cI cC tx F A) H → va_D (va_A (wP b cI cC tx Fa Aa) s.heap.size) (wP b cI cC tx F A) → va_S (va_A (wP b cI cC tx Fa Aa) s.heap.size) s.heap H locs → f_P_type_L77 n x1 x2 x3 F A = some (r0, F9, A9) → W p l e (headSpec (Cond.code y_P_type b_P_type 5 (some .int) :: wA) ({ frames := 0, cells := 0, slots := 0, locals := 0 } : Room)).room s m ([.ref (b 0), .int u1] : List Value).toArray below meth c H locs 0 0 (MQ below (cc_Qi (dC, dI) vC [(cI, .int), (cC, .char)] (wP b cI cC tx Fa Aa) s.heap.size (wP b cI cC tx F9 A9) r0) ([.ref (b 0), .int u1] : List Value).toArray s 0 0 (va_A (wP b cI cC tx Fa Aa) s.heap.size)) (F0 m 77 ls []) := by
    intro n
    induction n with
    | zero => intro x1 x2 x3 F A H locs ls hl hP hD hS hf; cases hf
    | succ n ih =>
      intro x1 x2 x3 F A H locs ls hl hP hD hS hf
      rw [f_P_type_L77] at hf
      refine lv_iload_n hx hb d_P_type_77 rfl (lv_at hl 3 rfl) ?_
      refine lv_if_lt (tgt := 123) hx hb d_P_type_78 (by decide) (fun h78_3 => ?_) (fun h78_3 => ?_)
      · rw [if_pos h78_3] at hf
        refine lv_aload_n hx hb d_P_type_123 rfl (lv_at hl 0 rfl) ?_
        refine va_get (D := (dC, dI)) (ci := 3) (v := .int (F 0)) (C := R_P) (T := T_P) (N := 6) hx hb hts in_P hown hK hP 0 rfl rfl 1 (by decide) (hts _ mw_106) (fun _ h9 => h9) rfl d_P_type_124 ?_
        cases hf
        exact W.iret hx hb hr (fun t ht hW => ⟨⟨_, (), rfl, rfl, by rw [ht]; exact hP, va_K.moved hW.alike hK, hD⟩, hS.F ht⟩) hS.2.2 d_P_type_127
      · rw [if_neg h78_3] at hf
        refine lv_iload_n hx hb d_P_type_81 rfl (lv_at hl 1 rfl) ?_
        refine lv_iload_n hx hb d_P_type_82 rfl (lv_at hl 3 rfl) ?_
        refine lv_iushr hx hb d_P_type_83 rfl ?_
        refine lv_sipush (v := 255) hx hb d_P_type_84 (by decide) ?_
        refine lv_iand hx hb d_P_type_87 ?_
        refine lv_istore hx hb d_P_type_88 hl (by decide) rfl (fun ls hl => ?_)
        have hl : lv_has ls 5 [(4, .int (((x1.toUInt32 >>> (x3.toUInt32 &&& Int32.toUInt32 31)).toInt32) &&& (255 : Int32))), (0, .ref (b 0)), (1, .int x1), (2, .int x2), (3, .int x3)] := hl
        refine lv_iload hx hb d_P_type_90 (lv_at hl 0 rfl) ?_
        refine lv_if_eq (tgt := 117) hx hb d_P_type_92 (by decide) (fun h92_4 => ?_) (fun h92_4 => ?_)
        · rw [if_pos h92_4] at hf
          refine lv_iinc (k := 4) (v := (x3 + (-8 : Int32))) hx hb d_P_type_117 hl rfl (by rfl) (by decide) rfl (fun ls hl => ?_)
          have hl : lv_has ls 5 [(3, .int (x3 + (-8 : Int32))), (4, .int (((x1.toUInt32 >>> (x3.toUInt32 &&& Int32.toUInt32 31)).toInt32) &&& (255 : Int32))), (0, .ref (b 0)), (1, .int x1), (2, .int x2)] := hl
          refine lv_goto (tgt := 77) hx hb d_P_type_120 (by decide) ?_
          have hl : lv_has ls 5 [(0, .ref (b 0)), (1, .int x1), (2, .int x2), (3, .int (x3 + (-8 : Int32)))] := lv_sub hl [2, 3, 4, 0] rfl
          exact ih x1 x2 (x3 + (-8 : Int32)) F A _ _ _ hl hP hD hS hf
        · rw [if_neg h92_4] at hf
          refine lv_aload_n hx hb d_P_type_95 rfl (lv_at hl 1 rfl) ?_
          refine va_get (D := (dC, dI)) (ci := 3) (v := .ref (b 1)) (C := R_P) (T := T_P) (N := 6) hx hb hts in_P hown hK hP 0 rfl rfl 0 (by decide) (hts _ mw_105) (fun _ h9 => h9) rfl d_P_type_96 ?_
          refine lv_aload_n hx hb d_P_type_99 rfl (lv_at hl 1 rfl) ?_
          refine va_get (D := (dC, dI)) (ci := 3) (v := .int (F 0)) (C := R_P) (T := T_P) (N := 6) hx hb hts in_P hown hK hP 0 rfl rfl 1 (by decide) (hts _ mw_106) (fun _ h9 => h9) rfl d_P_type_100 ?_
          refine lv_iload hx hb d_P_type_103 (lv_at hl 0 rfl) ?_
          refine lv_i2c hx hb d_P_type_105 rfl ?_
          obtain ⟨hi, hf⟩ := ra_g_some hf
          refine va_cast hx hb hK hP hD hS 1 1 rfl rfl hi d_P_type_106 (fun H locs hP hD hS => ?_)
          have hP : va_P (dC, dI) vC [((b 0), .inr (3, [.ref (b 1), .int (F 0), .ref (b 8), .ref (b 6), .ref (b 3), .ref (b 2)])), ((b 1), .inl (cC, 160, .inl (upd (A 0) (F 0).toNatClampNeg (vp_nar .char (((((x1.toUInt32 >>> (x3.toUInt32 &&& Int32.toUInt32 31)).toInt32) &&& (255 : Int32)).toUInt32 % 65536).toInt32))))), ((b 2), .inl (cI, 32, .inl (A 1))), ((b 3), .inr (2, [.ref (b 4), .ref (b 5)])), ((b 4), .inl (cI, 100, .inl (A 2))), ((b 5), .inl (cI, 6, .inl (A 3))), ((b 6), .inr (1, [.ref (b 7), .ref tx, .int (F 1), .int (F 2), .ref (b 14)])), ((b 7), .inl (cI, 26, .inl (A 4))), ((b 8), .inr (0, [.ref (b 9), .ref (b 10), .ref (b 11), .ref (b 12), .ref (b 13), .int (F 3), .int (F 4)])), ((b 9), .inl (cI, 100, .inl (A 5))), ((b 10), .inl (cI, 100, .inl (A 6))), ((b 11), .inl (cI, 100, .inl (A 7))), ((b 12), .inl (cI, 3, .inl (A 8))), ((b 13), .inl (cI, 26, .inl (A 9))), ((b 14), .inr (0, [.ref (b 15), .ref (b 16), .ref (b 17), .ref (b 18), .ref (b 19), .int (F 5), .int (F 6)])), ((b 15), .inl (cI, 100, .inl (A 10))), ((b 16), .inl (cI, 100, .inl (A 11))), ((b 17), .inl (cI, 100, .inl (A 12))), ((b 18), .inl (cI, 3, .inl (A 13))), ((b 19), .inl (cI, 26, .inl (A 14)))] H := hP
          have hD : va_D (va_A (wP b cI cC tx Fa Aa) s.heap.size) [((b 0), .inr (3, [.ref (b 1), .int (F 0), .ref (b 8), .ref (b 6), .ref (b 3), .ref (b 2)])), ((b 1), .inl (cC, 160, .inl (upd (A 0) (F 0).toNatClampNeg (vp_nar .char (((((x1.toUInt32 >>> (x3.toUInt32 &&& Int32.toUInt32 31)).toInt32) &&& (255 : Int32)).toUInt32 % 65536).toInt32))))), ((b 2), .inl (cI, 32, .inl (A 1))), ((b 3), .inr (2, [.ref (b 4), .ref (b 5)])), ((b 4), .inl (cI, 100, .inl (A 2))), ((b 5), .inl (cI, 6, .inl (A 3))), ((b 6), .inr (1, [.ref (b 7), .ref tx, .int (F 1), .int (F 2), .ref (b 14)])), ((b 7), .inl (cI, 26, .inl (A 4))), ((b 8), .inr (0, [.ref (b 9), .ref (b 10), .ref (b 11), .ref (b 12), .ref (b 13), .int (F 3), .int (F 4)])), ((b 9), .inl (cI, 100, .inl (A 5))), ((b 10), .inl (cI, 100, .inl (A 6))), ((b 11), .inl (cI, 100, .inl (A 7))), ((b 12), .inl (cI, 3, .inl (A 8))), ((b 13), .inl (cI, 26, .inl (A 9))), ((b 14), .inr (0, [.ref (b 15), .ref (b 16), .ref (b 17), .ref (b 18), .ref (b 19), .int (F 5), .int (F 6)])), ((b 15), .inl (cI, 100, .inl (A 10))), ((b 16), .inl (cI, 100, .inl (A 11))), ((b 17), .inl (cI, 100, .inl (A 12))), ((b 18), .inl (cI, 3, .inl (A 13))), ((b 19), .inl (cI, 26, .inl (A 14)))] := hD
          refine lv_aload_n hx hb d_P_type_107 rfl (lv_at hl 1 rfl) ?_
          refine lv_dup hx hb d_P_type_108 rfl ?_
          refine va_get (D := (dC, dI)) (ci := 3) (v := .int (F 0)) (C := R_P) (T := T_P) (N := 6) hx hb hts in_P hown hK hP 0 rfl rfl 1 (by decide) (hts _ mw_106) (fun _ h9 => h9) rfl d_P_type_109 ?_
          refine lv_iconst (v := 1) hx hb d_P_type_112 (by decide) ?_
          refine lv_iadd hx hb d_P_type_113 ?_
          refine va_put (D := (dC, dI)) (ci := 3) (v := .int ((F 0) + (1 : Int32))) (ty := .int) (C := R_P) (T := T_P) (N := 6) hx hb hts in_P ty_P ty_P_ok nm_P hown hK hP hD hS 0 rfl rfl 1 (by decide) (hts _ mw_106) (fun _ h9 => h9) rfl (by decide +kernel) rfl rfl (Nat.le_of_ble_eq_true rfl) d_P_type_114 (fun H locs hP hD hS => ?_)
          have hP : va_P (dC, dI) vC [((b 0), .inr (3, [.ref (b 1), .int ((F 0) + (1 : Int32)), .ref (b 8), .ref (b 6), .ref (b 3), .ref (b 2)])), ((b 1), .inl (cC, 160, .inl (upd (A 0) (F 0).toNatClampNeg (vp_nar .char (((((x1.toUInt32 >>> (x3.toUInt32 &&& Int32.toUInt32 31)).toInt32) &&& (255 : Int32)).toUInt32 % 65536).toInt32))))), ((b 2), .inl (cI, 32, .inl (A 1))), ((b 3), .inr (2, [.ref (b 4), .ref (b 5)])), ((b 4), .inl (cI, 100, .inl (A 2))), ((b 5), .inl (cI, 6, .inl (A 3))), ((b 6), .inr (1, [.ref (b 7), .ref tx, .int (F 1), .int (F 2), .ref (b 14)])), ((b 7), .inl (cI, 26, .inl (A 4))), ((b 8), .inr (0, [.ref (b 9), .ref (b 10), .ref (b 11), .ref (b 12), .ref (b 13), .int (F 3), .int (F 4)])), ((b 9), .inl (cI, 100, .inl (A 5))), ((b 10), .inl (cI, 100, .inl (A 6))), ((b 11), .inl (cI, 100, .inl (A 7))), ((b 12), .inl (cI, 3, .inl (A 8))), ((b 13), .inl (cI, 26, .inl (A 9))), ((b 14), .inr (0, [.ref (b 15), .ref (b 16), .ref (b 17), .ref (b 18), .ref (b 19), .int (F 5), .int (F 6)])), ((b 15), .inl (cI, 100, .inl (A 10))), ((b 16), .inl (cI, 100, .inl (A 11))), ((b 17), .inl (cI, 100, .inl (A 12))), ((b 18), .inl (cI, 3, .inl (A 13))), ((b 19), .inl (cI, 26, .inl (A 14)))] H := hP
          have hD : va_D (va_A (wP b cI cC tx Fa Aa) s.heap.size) [((b 0), .inr (3, [.ref (b 1), .int ((F 0) + (1 : Int32)), .ref (b 8), .ref (b 6), .ref (b 3), .ref (b 2)])), ((b 1), .inl (cC, 160, .inl (upd (A 0) (F 0).toNatClampNeg (vp_nar .char (((((x1.toUInt32 >>> (x3.toUInt32 &&& Int32.toUInt32 31)).toInt32) &&& (255 : Int32)).toUInt32 % 65536).toInt32))))), ((b 2), .inl (cI, 32, .inl (A 1))), ((b 3), .inr (2, [.ref (b 4), .ref (b 5)])), ((b 4), .inl (cI, 100, .inl (A 2))), ((b 5), .inl (cI, 6, .inl (A 3))), ((b 6), .inr (1, [.ref (b 7), .ref tx, .int (F 1), .int (F 2), .ref (b 14)])), ((b 7), .inl (cI, 26, .inl (A 4))), ((b 8), .inr (0, [.ref (b 9), .ref (b 10), .ref (b 11), .ref (b 12), .ref (b 13), .int (F 3), .int (F 4)])), ((b 9), .inl (cI, 100, .inl (A 5))), ((b 10), .inl (cI, 100, .inl (A 6))), ((b 11), .inl (cI, 100, .inl (A 7))), ((b 12), .inl (cI, 3, .inl (A 8))), ((b 13), .inl (cI, 26, .inl (A 9))), ((b 14), .inr (0, [.ref (b 15), .ref (b 16), .ref (b 17), .ref (b 18), .ref (b 19), .int (F 5), .int (F 6)])), ((b 15), .inl (cI, 100, .inl (A 10))), ((b 16), .inl (cI, 100, .inl (A 11))), ((b 17), .inl (cI, 100, .inl (A 12))), ((b 18), .inl (cI, 3, .inl (A 13))), ((b 19), .inl (cI, 26, .inl (A 14)))] := hD
          refine lv_iinc (k := 4) (v := (x3 + (-8 : Int32))) hx hb d_P_type_117 hl rfl (by rfl) (by decide) rfl (fun ls hl => ?_)
          have hl : lv_has ls 5 [(3, .int (x3 + (-8 : Int32))), (4, .int (((x1.toUInt32 >>> (x3.toUInt32 &&& Int32.toUInt32 31)).toInt32) &&& (255 : Int32))), (0, .ref (b 0)), (1, .int x1), (2, .int x2)] := hl
          refine lv_goto (tgt := 77) hx hb d_P_type_120 (by decide) ?_
          have hl : lv_has ls 5 [(0, .ref (b 0)), (1, .int x1), (2, .int x2), (3, .int (x3 + (-8 : Int32)))] := lv_sub hl [2, 3, 4, 0] rfl
          exact ih x1 x2 (x3 + (-8 : Int32)) (upd F 0 ((F 0) + (1 : Int32))) (va_up A 0 (upd (A 0) (F 0).toNatClampNeg (vp_nar .char (((((x1.toUInt32 >>> (x3.toUInt32 &&& Int32.toUInt32 31)).toInt32) &&& (255 : Int32)).toUInt32 % 65536).toInt32)))) _ _ _ hl hP hD hS hf
  have Z74 : ∀ (x1 : Int32) (x2 : Int32) (x3 : Int32) (F : ST_F) (A : ST_A) (H : Heap) (locs : List Loc) (ls : Array Slot), lv_has ls 5 [(0, .ref (b 0)), (1, .int x1), (2, .int x2), (3, .int x3)] → va_P (dC, dI) vC (wP b cI cC tx F A) H → va_D (va_A (wP b cI cC tx Fa Aa) s.heap.size) (wP b cI cC tx F A) → va_S (va_A (wP b cI cC tx Fa Aa) s.heap.size) s.heap H locs → f_P_type_Z74 x1 x2 x3 F A = some (r0, F9, A9) → W p l e (headSpec (Cond.code y_P_type b_P_type 5 (some .int) :: wA) ({ frames := 0, cells := 0, slots := 0, locals := 0 } : Room)).room s m ([.ref (b 0), .int u1] : List Value).toArray below meth c H locs 0 0 (MQ below (cc_Qi (dC, dI) vC [(cI, .int), (cC, .char)] (wP b cI cC tx Fa Aa) s.heap.size (wP b cI cC tx F9 A9) r0) ([.ref (b 0), .int u1] : List Value).toArray s 0 0 (va_A (wP b cI cC tx Fa Aa) s.heap.size)) (F0 m 74 ls []) := by
    intro x1 x2 x3 F A H locs ls hl hP hD hS hf
    unfold f_P_type_Z74 at hf
    refine lv_bipush (v := 24) hx hb d_P_type_74 (by decide) ?_
    refine lv_istore_n hx hb d_P_type_76 rfl hl (by decide) rfl (fun ls hl => ?_)
    have hl : lv_has ls 5 [(3, .int (24 : Int32)), (0, .ref (b 0)), (1, .int x1), (2, .int x2)] := hl
    have hl : lv_has ls 5 [(0, .ref (b 0)), (1, .int x1), (2, .int x2), (3, .int (24 : Int32))] := lv_sub hl [1, 2, 3, 0] rfl
    exact L77 400 x1 x2 (24 : Int32) F A _ _ _ hl hP hD hS hf
  have L5 : ∀ (n : Nat) (x1 : Int32) (x2 : Int32) (x3 : Int32) (F : ST_F) (A : ST_A) (H : Heap) (locs : List Loc) (ls : Array Slot), lv_has ls 5 [(0, .ref (b 0)), (1, .int x1), (2, .int x2), (3, .int x3)] → va_P (dC, dI) vC (wP b cI cC tx F A) H → va_D (va_A (wP b cI cC tx Fa Aa) s.heap.size) (wP b cI cC tx F A) → va_S (va_A (wP b cI cC tx Fa Aa) s.heap.size) s.heap H locs → f_P_type_L5 n x1 x2 x3 F A = some (.inr (r0, F9, A9)) → W p l e (headSpec (Cond.code y_P_type b_P_type 5 (some .int) :: wA) ({ frames := 0, cells := 0, slots := 0, locals := 0 } : Room)).room s m ([.ref (b 0), .int u1] : List Value).toArray below meth c H locs 0 0 (MQ below (cc_Qi (dC, dI) vC [(cI, .int), (cC, .char)] (wP b cI cC tx Fa Aa) s.heap.size (wP b cI cC tx F9 A9) r0) ([.ref (b 0), .int u1] : List Value).toArray s 0 0 (va_A (wP b cI cC tx Fa Aa) s.heap.size)) (F0 m 5 ls []) := by
    intro n
    induction n with
    | zero => intro x1 x2 x3 F A H locs ls hl hP hD hS hf; cases hf
    | succ n ih =>
      intro x1 x2 x3 F A H locs ls hl hP hD hS hf
      rw [f_P_type_L5] at hf
      refine lv_iload_n hx hb d_P_type_5 rfl (lv_at hl 3 rfl) ?_
      refine lv_if_lt (tgt := 54) hx hb d_P_type_6 (by decide) (fun h6_1 => ?_) (fun h6_1 => ?_)
      · rw [if_pos h6_1] at hf
        refine lv_aload_n hx hb d_P_type_54 rfl (lv_at hl 0 rfl) ?_
        refine va_get (D := (dC, dI)) (ci := 3) (v := .int (F 0)) (C := R_P) (T := T_P) (N := 6) hx hb hts in_P hown hK hP 0 rfl rfl 1 (by decide) (hts _ mw_106) (fun _ h9 => h9) rfl d_P_type_55 ?_
        refine lv_iload_n hx hb d_P_type_58 rfl (lv_at hl 2 rfl) ?_
        refine lv_iadd hx hb d_P_type_59 ?_
        refine lv_sipush (v := 160) hx hb d_P_type_60 (by decide) ?_
        refine lv_icmp_le (tgt := 74) hx hb d_P_type_63 (by decide) (fun h63_2 => ?_) (fun h63_2 => ?_)
        · rw [if_pos h63_2] at hf
          have hf := ra_ok_some hf
          have hl : lv_has ls 5 [(0, .ref (b 0)), (1, .int x1), (2, .int x2), (3, .int x3)] := lv_sub hl [0, 1, 2, 3] rfl
          exact Z74 x1 x2 x3 F A _ _ _ hl hP hD hS hf
        · rw [if_neg h63_2] at hf
          cases hf
      · rw [if_neg h6_1] at hf
        refine lv_iload_n hx hb d_P_type_9 rfl (lv_at hl 1 rfl) ?_
        refine lv_iload_n hx hb d_P_type_10 rfl (lv_at hl 3 rfl) ?_
        refine lv_iushr hx hb d_P_type_11 rfl ?_
        refine lv_sipush (v := 255) hx hb d_P_type_12 (by decide) ?_
        refine lv_iand hx hb d_P_type_15 ?_
        refine lv_istore hx hb d_P_type_16 hl (by decide) rfl (fun ls hl => ?_)
        have hl : lv_has ls 5 [(4, .int (((x1.toUInt32 >>> (x3.toUInt32 &&& Int32.toUInt32 31)).toInt32) &&& (255 : Int32))), (0, .ref (b 0)), (1, .int x1), (2, .int x2), (3, .int x3)] := hl
        refine lv_iload hx hb d_P_type_18 (lv_at hl 0 rfl) ?_
        refine lv_if_eq (tgt := 48) hx hb d_P_type_20 (by decide) (fun h20_5 => ?_) (fun h20_5 => ?_)
        · rw [if_pos h20_5] at hf
          refine lv_iinc (k := 4) (v := (x3 + (-8 : Int32))) hx hb d_P_type_48 hl rfl (by rfl) (by decide) rfl (fun ls hl => ?_)
          have hl : lv_has ls 5 [(3, .int (x3 + (-8 : Int32))), (4, .int (((x1.toUInt32 >>> (x3.toUInt32 &&& Int32.toUInt32 31)).toInt32) &&& (255 : Int32))), (0, .ref (b 0)), (1, .int x1), (2, .int x2)] := hl
          refine lv_goto (tgt := 5) hx hb d_P_type_51 (by decide) ?_
          have hl : lv_has ls 5 [(0, .ref (b 0)), (1, .int x1), (2, .int x2), (3, .int (x3 + (-8 : Int32)))] := lv_sub hl [2, 3, 4, 0] rfl
          exact ih x1 x2 (x3 + (-8 : Int32)) F A _ _ _ hl hP hD hS hf
        · rw [if_neg h20_5] at hf
          refine lv_iload hx hb d_P_type_23 (lv_at hl 0 rfl) ?_
          refine lv_bipush (v := 33) hx hb d_P_type_25 (by decide) ?_
          refine lv_icmp_lt (tgt := 37) hx hb d_P_type_27 (by decide) (fun h27_6 => ?_) (fun h27_6 => ?_)
          · rw [if_pos h27_6] at hf
            cases hf
          · rw [if_neg h27_6] at hf
            refine lv_iload hx hb d_P_type_30 (lv_at hl 0 rfl) ?_
            refine lv_bipush (v := 126) hx hb d_P_type_32 (by decide) ?_
            refine lv_icmp_le (tgt := 45) hx hb d_P_type_34 (by decide) (fun h34_7 => ?_) (fun h34_7 => ?_)
            · rw [if_pos h34_7] at hf
              refine lv_iinc (k := 3) (v := (x2 + (1 : Int32))) hx hb d_P_type_45 hl rfl (by rfl) (by decide) rfl (fun ls hl => ?_)
              have hl : lv_has ls 5 [(2, .int (x2 + (1 : Int32))), (4, .int (((x1.toUInt32 >>> (x3.toUInt32 &&& Int32.toUInt32 31)).toInt32) &&& (255 : Int32))), (0, .ref (b 0)), (1, .int x1), (3, .int x3)] := hl
              refine lv_iinc (k := 4) (v := (x3 + (-8 : Int32))) hx hb d_P_type_48 hl rfl (by rfl) (by decide) rfl (fun ls hl => ?_)
              have hl : lv_has ls 5 [(3, .int (x3 + (-8 : Int32))), (2, .int (x2 + (1 : Int32))), (4, .int (((x1.toUInt32 >>> (x3.toUInt32 &&& Int32.toUInt32 31)).toInt32) &&& (255 : Int32))), (0, .ref (b 0)), (1, .int x1)] := hl
              refine lv_goto (tgt := 5) hx hb d_P_type_51 (by decide) ?_
              have hl : lv_has ls 5 [(0, .ref (b 0)), (1, .int x1), (2, .int (x2 + (1 : Int32))), (3, .int (x3 + (-8 : Int32)))] := lv_sub hl [3, 4, 1, 0] rfl
              exact ih x1 (x2 + (1 : Int32)) (x3 + (-8 : Int32)) F A _ _ _ hl hP hD hS hf
            · rw [if_neg h34_7] at hf
              cases hf
  rw [lg_entry_eq]
  generalize (lg_sl (([.ref (b 0), .int u1] : List Value)) ++ List.replicate (5 - (lg_sl (([.ref (b 0), .int u1] : List Value))).length) Slot.unset).toArray = ls at hl ⊢
  have hl : lv_has ls 5 [(0, .ref (b 0)), (1, .int u1)] := hl
  unfold f_P_type at hf
  refine lv_iconst (v := 0) hx hb d_P_type_0 (by decide) ?_
  refine lv_istore_n hx hb d_P_type_1 rfl hl (by decide) rfl (fun ls hl => ?_)
  have hl : lv_has ls 5 [(2, .int (0 : Int32)), (0, .ref (b 0)), (1, .int u1)] := hl
  refine lv_bipush (v := 24) hx hb d_P_type_2 (by decide) ?_
  refine lv_istore_n hx hb d_P_type_4 rfl hl (by decide) rfl (fun ls hl => ?_)
  have hl : lv_has ls 5 [(3, .int (24 : Int32)), (2, .int (0 : Int32)), (0, .ref (b 0)), (1, .int u1)] := hl
  have hl : lv_has ls 5 [(0, .ref (b 0)), (1, .int u1), (2, .int (0 : Int32)), (3, .int (24 : Int32))] := lv_sub hl [2, 3, 1, 0] rfl
  exact L5 400 u1 (0 : Int32) (24 : Int32) Fa Aa _ _ _ hl hP hD hS hf
set_option maxHeartbeats 4000000 in
set_option maxRecDepth 100000 in
theorem t_P_type_1 (l : Launch) (hfl : l.stackTraces = false) (dC : Nat → ClassId) (dI : Nat → Nat → Nat) (b : Nat → Nat) (cI cC : ClassId) (tx : Nat) (sz : Nat) (Fa : ST_F) (Aa : ST_A) (u1 : Int32) (hf : f_P_type u1 Fa Aa = some (.inl 1)) : th_Met l y_P_type (Cond.code y_P_type b_P_type 5 (some .int) :: wA) ({ frames := 8, cells := 1, slots := 6, locals := 120 } : Room) (va_Pc ([.ref (b 0), .int u1] : List Value) (th_Pre (dC, dI) vC [(cI, .int), (cC, .char)] (wP b cI cC tx Fa Aa) sz)) "java/lang/IllegalArgumentException" 1 6 := by
  refine th_ofW (cc := b_P_type) (maxL := 5) (ret := (some .int)) (by decide) rfl ?_
  intro p e s m args below meth c s₁ B hml hv
  obtain ⟨rfl, ⟨hsz, hP, hK, hD0⟩, B0, hZ⟩ := hv
  have hx := B.exec
  have hb := B.bytes
  have hr := B.returns
  have hts := fun w h => atoms_spec (ws := (Cond.code y_P_type b_P_type 5 (some .int) :: wA)) B.pre w (List.mem_cons_of_mem _ h)
  have hown : s.vm.findClass R_P = some m.cls := findClass_of_methodNamed B.named
  have hlocks := B.notSynchronized
  have hemp := BodyLoose.noHandlers B (atoms_spec (ws := (Cond.code y_P_type b_P_type 5 (some .int) :: wA)) B.pre _ List.mem_cons_self)
  subst hsz
  have hD := hD0.self (sz := s.heap.size)
  have hl := lv_entry (([.ref (b 0), .int u1] : List Value)) (n := 5) (Nat.le_of_ble_eq_true rfl)
  have L5 : ∀ (n : Nat) (x1 : Int32) (x2 : Int32) (x3 : Int32) (F : ST_F) (A : ST_A) (ls : Array Slot), lv_has ls 5 [(0, .ref (b 0)), (1, .int x1), (2, .int x2), (3, .int x3)] → va_P (dC, dI) vC (wP b cI cC tx F A) s.heap → va_D (va_A (wP b cI cC tx Fa Aa) s.heap.size) (wP b cI cC tx F A) → f_P_type_L5 n x1 x2 x3 F A = some (.inl 1) → W p l e (headSpec (Cond.code y_P_type b_P_type 5 (some .int) :: wA) ({ frames := 8, cells := 1, slots := 6, locals := 120 } : Room)).room s m ([.ref (b 0), .int u1] : List Value).toArray below meth c s.heap [] 0 0 (th_MQ below "java/lang/IllegalArgumentException" s 1 6) (F0 m 5 ls []) := by
    intro n
    induction n with
    | zero => intro x1 x2 x3 F A ls hl hP hD hf; cases hf
    | succ n ih =>
      intro x1 x2 x3 F A ls hl hP hD hf
      rw [f_P_type_L5] at hf
      refine lv_iload_n hx hb d_P_type_5 rfl (lv_at hl 3 rfl) ?_
      refine lv_if_lt (tgt := 54) hx hb d_P_type_6 (by decide) (fun h6_1 => ?_) (fun h6_1 => ?_)
      · rw [if_pos h6_1] at hf
        refine lv_aload_n hx hb d_P_type_54 rfl (lv_at hl 0 rfl) ?_
        refine va_get (D := (dC, dI)) (ci := 3) (v := .int (F 0)) (C := R_P) (T := T_P) (N := 6) hx hb hts in_P hown hK hP 0 rfl rfl 1 (by decide) (hts _ mw_106) (fun _ h9 => h9) rfl d_P_type_55 ?_
        refine lv_iload_n hx hb d_P_type_58 rfl (lv_at hl 2 rfl) ?_
        refine lv_iadd hx hb d_P_type_59 ?_
        refine lv_sipush (v := 160) hx hb d_P_type_60 (by decide) ?_
        refine lv_icmp_le (tgt := 74) hx hb d_P_type_63 (by decide) (fun h63_2 => ?_) (fun h63_2 => ?_)
        · rw [if_pos h63_2] at hf
          exact absurd hf (ra_ok_ne _ _)
        · rw [if_neg h63_2] at hf
          exact absurd (Sum.inl.inj (Option.some.inj hf)) (by decide)
      · rw [if_neg h6_1] at hf
        refine lv_iload_n hx hb d_P_type_9 rfl (lv_at hl 1 rfl) ?_
        refine lv_iload_n hx hb d_P_type_10 rfl (lv_at hl 3 rfl) ?_
        refine lv_iushr hx hb d_P_type_11 rfl ?_
        refine lv_sipush (v := 255) hx hb d_P_type_12 (by decide) ?_
        refine lv_iand hx hb d_P_type_15 ?_
        refine lv_istore hx hb d_P_type_16 hl (by decide) rfl (fun ls hl => ?_)
        have hl : lv_has ls 5 [(4, .int (((x1.toUInt32 >>> (x3.toUInt32 &&& Int32.toUInt32 31)).toInt32) &&& (255 : Int32))), (0, .ref (b 0)), (1, .int x1), (2, .int x2), (3, .int x3)] := hl
        refine lv_iload hx hb d_P_type_18 (lv_at hl 0 rfl) ?_
        refine lv_if_eq (tgt := 48) hx hb d_P_type_20 (by decide) (fun h20_3 => ?_) (fun h20_3 => ?_)
        · rw [if_pos h20_3] at hf
          refine lv_iinc (k := 4) (v := (x3 + (-8 : Int32))) hx hb d_P_type_48 hl rfl (by rfl) (by decide) rfl (fun ls hl => ?_)
          have hl : lv_has ls 5 [(3, .int (x3 + (-8 : Int32))), (4, .int (((x1.toUInt32 >>> (x3.toUInt32 &&& Int32.toUInt32 31)).toInt32) &&& (255 : Int32))), (0, .ref (b 0)), (1, .int x1), (2, .int x2)] := hl
          refine lv_goto (tgt := 5) hx hb d_P_type_51 (by decide) ?_
          have hl : lv_has ls 5 [(0, .ref (b 0)), (1, .int x1), (2, .int x2), (3, .int (x3 + (-8 : Int32)))] := lv_sub hl [2, 3, 4, 0] rfl
          exact ih x1 x2 (x3 + (-8 : Int32)) F A _ hl hP hD hf
        · rw [if_neg h20_3] at hf
          refine lv_iload hx hb d_P_type_23 (lv_at hl 0 rfl) ?_
          refine lv_bipush (v := 33) hx hb d_P_type_25 (by decide) ?_
          refine lv_icmp_lt (tgt := 37) hx hb d_P_type_27 (by decide) (fun h27_4 => ?_) (fun h27_4 => ?_)
          · rw [if_pos h27_4] at hf
            exact th_new (names := ["java/lang/RuntimeException", "java/lang/Exception"]) hx hb hlocks hfl hown (hts _ mw_301) (hts _ mw_302) (hts _ mw_9) (by decide +kernel) (by decide +kernel) (th_at1 hts hZ) (hl.1.trans hml.symm) hemp d_P_type_37 d_P_type_40 d_P_type_41 d_P_type_44 (Nat.le_of_ble_eq_true rfl) (Nat.le_of_ble_eq_true rfl) (Nat.le_of_ble_eq_true rfl) (Nat.le_of_ble_eq_true rfl)
          · rw [if_neg h27_4] at hf
            refine lv_iload hx hb d_P_type_30 (lv_at hl 0 rfl) ?_
            refine lv_bipush (v := 126) hx hb d_P_type_32 (by decide) ?_
            refine lv_icmp_le (tgt := 45) hx hb d_P_type_34 (by decide) (fun h34_5 => ?_) (fun h34_5 => ?_)
            · rw [if_pos h34_5] at hf
              refine lv_iinc (k := 3) (v := (x2 + (1 : Int32))) hx hb d_P_type_45 hl rfl (by rfl) (by decide) rfl (fun ls hl => ?_)
              have hl : lv_has ls 5 [(2, .int (x2 + (1 : Int32))), (4, .int (((x1.toUInt32 >>> (x3.toUInt32 &&& Int32.toUInt32 31)).toInt32) &&& (255 : Int32))), (0, .ref (b 0)), (1, .int x1), (3, .int x3)] := hl
              refine lv_iinc (k := 4) (v := (x3 + (-8 : Int32))) hx hb d_P_type_48 hl rfl (by rfl) (by decide) rfl (fun ls hl => ?_)
              have hl : lv_has ls 5 [(3, .int (x3 + (-8 : Int32))), (2, .int (x2 + (1 : Int32))), (4, .int (((x1.toUInt32 >>> (x3.toUInt32 &&& Int32.toUInt32 31)).toInt32) &&& (255 : Int32))), (0, .ref (b 0)), (1, .int x1)] := hl
              refine lv_goto (tgt := 5) hx hb d_P_type_51 (by decide) ?_
              have hl : lv_has ls 5 [(0, .ref (b 0)), (1, .int x1), (2, .int (x2 + (1 : Int32))), (3, .int (x3 + (-8 : Int32)))] := lv_sub hl [3, 4, 1, 0] rfl
              exact ih x1 (x2 + (1 : Int32)) (x3 + (-8 : Int32)) F A _ hl hP hD hf
            · rw [if_neg h34_5] at hf
              exact th_new (names := ["java/lang/RuntimeException", "java/lang/Exception"]) hx hb hlocks hfl hown (hts _ mw_301) (hts _ mw_302) (hts _ mw_9) (by decide +kernel) (by decide +kernel) (th_at1 hts hZ) (hl.1.trans hml.symm) hemp d_P_type_37 d_P_type_40 d_P_type_41 d_P_type_44 (Nat.le_of_ble_eq_true rfl) (Nat.le_of_ble_eq_true rfl) (Nat.le_of_ble_eq_true rfl) (Nat.le_of_ble_eq_true rfl)
  rw [lg_entry_eq]
  generalize (lg_sl (([.ref (b 0), .int u1] : List Value)) ++ List.replicate (5 - (lg_sl (([.ref (b 0), .int u1] : List Value))).length) Slot.unset).toArray = ls at hl ⊢
  have hl : lv_has ls 5 [(0, .ref (b 0)), (1, .int u1)] := hl
  unfold f_P_type at hf
  refine lv_iconst (v := 0) hx hb d_P_type_0 (by decide) ?_
  refine lv_istore_n hx hb d_P_type_1 rfl hl (by decide) rfl (fun ls hl => ?_)
  have hl : lv_has ls 5 [(2, .int (0 : Int32)), (0, .ref (b 0)), (1, .int u1)] := hl
  refine lv_bipush (v := 24) hx hb d_P_type_2 (by decide) ?_
  refine lv_istore_n hx hb d_P_type_4 rfl hl (by decide) rfl (fun ls hl => ?_)
  have hl : lv_has ls 5 [(3, .int (24 : Int32)), (2, .int (0 : Int32)), (0, .ref (b 0)), (1, .int u1)] := hl
  have hl : lv_has ls 5 [(0, .ref (b 0)), (1, .int u1), (2, .int (0 : Int32)), (3, .int (24 : Int32))] := lv_sub hl [2, 3, 1, 0] rfl
  exact L5 400 u1 (0 : Int32) (24 : Int32) Fa Aa _ hl hP hD hf
set_option maxHeartbeats 4000000 in
set_option maxRecDepth 100000 in
theorem t_P_type_2 (l : Launch) (hfl : l.stackTraces = false) (dC : Nat → ClassId) (dI : Nat → Nat → Nat) (b : Nat → Nat) (cI cC : ClassId) (tx : Nat) (sz : Nat) (Fa : ST_F) (Aa : ST_A) (u1 : Int32) (hf : f_P_type u1 Fa Aa = some (.inl 2)) : th_Met l y_P_type (Cond.code y_P_type b_P_type 5 (some .int) :: wA) ({ frames := 8, cells := 1, slots := 6, locals := 120 } : Room) (va_Pc ([.ref (b 0), .int u1] : List Value) (th_Pre (dC, dI) vC [(cI, .int), (cC, .char)] (wP b cI cC tx Fa Aa) sz)) "java/lang/IllegalStateException" 1 6 := by
  refine th_ofW (cc := b_P_type) (maxL := 5) (ret := (some .int)) (by decide) rfl ?_
  intro p e s m args below meth c s₁ B hml hv
  obtain ⟨rfl, ⟨hsz, hP, hK, hD0⟩, B0, hZ⟩ := hv
  have hx := B.exec
  have hb := B.bytes
  have hr := B.returns
  have hts := fun w h => atoms_spec (ws := (Cond.code y_P_type b_P_type 5 (some .int) :: wA)) B.pre w (List.mem_cons_of_mem _ h)
  have hown : s.vm.findClass R_P = some m.cls := findClass_of_methodNamed B.named
  have hlocks := B.notSynchronized
  have hemp := BodyLoose.noHandlers B (atoms_spec (ws := (Cond.code y_P_type b_P_type 5 (some .int) :: wA)) B.pre _ List.mem_cons_self)
  subst hsz
  have hD := hD0.self (sz := s.heap.size)
  have hl := lv_entry (([.ref (b 0), .int u1] : List Value)) (n := 5) (Nat.le_of_ble_eq_true rfl)
  have L5 : ∀ (n : Nat) (x1 : Int32) (x2 : Int32) (x3 : Int32) (F : ST_F) (A : ST_A) (ls : Array Slot), lv_has ls 5 [(0, .ref (b 0)), (1, .int x1), (2, .int x2), (3, .int x3)] → va_P (dC, dI) vC (wP b cI cC tx F A) s.heap → va_D (va_A (wP b cI cC tx Fa Aa) s.heap.size) (wP b cI cC tx F A) → f_P_type_L5 n x1 x2 x3 F A = some (.inl 2) → W p l e (headSpec (Cond.code y_P_type b_P_type 5 (some .int) :: wA) ({ frames := 8, cells := 1, slots := 6, locals := 120 } : Room)).room s m ([.ref (b 0), .int u1] : List Value).toArray below meth c s.heap [] 0 0 (th_MQ below "java/lang/IllegalStateException" s 1 6) (F0 m 5 ls []) := by
    intro n
    induction n with
    | zero => intro x1 x2 x3 F A ls hl hP hD hf; cases hf
    | succ n ih =>
      intro x1 x2 x3 F A ls hl hP hD hf
      rw [f_P_type_L5] at hf
      refine lv_iload_n hx hb d_P_type_5 rfl (lv_at hl 3 rfl) ?_
      refine lv_if_lt (tgt := 54) hx hb d_P_type_6 (by decide) (fun h6_1 => ?_) (fun h6_1 => ?_)
      · rw [if_pos h6_1] at hf
        refine lv_aload_n hx hb d_P_type_54 rfl (lv_at hl 0 rfl) ?_
        refine va_get (D := (dC, dI)) (ci := 3) (v := .int (F 0)) (C := R_P) (T := T_P) (N := 6) hx hb hts in_P hown hK hP 0 rfl rfl 1 (by decide) (hts _ mw_106) (fun _ h9 => h9) rfl d_P_type_55 ?_
        refine lv_iload_n hx hb d_P_type_58 rfl (lv_at hl 2 rfl) ?_
        refine lv_iadd hx hb d_P_type_59 ?_
        refine lv_sipush (v := 160) hx hb d_P_type_60 (by decide) ?_
        refine lv_icmp_le (tgt := 74) hx hb d_P_type_63 (by decide) (fun h63_2 => ?_) (fun h63_2 => ?_)
        · rw [if_pos h63_2] at hf
          exact absurd hf (ra_ok_ne _ _)
        · rw [if_neg h63_2] at hf
          exact th_new (names := ["java/lang/RuntimeException", "java/lang/Exception"]) hx hb hlocks hfl hown (hts _ mw_364) (hts _ mw_365) (hts _ mw_10) (by decide +kernel) (by decide +kernel) (th_at2 hts hZ) (hl.1.trans hml.symm) hemp d_P_type_66 d_P_type_69 d_P_type_70 d_P_type_73 (Nat.le_of_ble_eq_true rfl) (Nat.le_of_ble_eq_true rfl) (Nat.le_of_ble_eq_true rfl) (Nat.le_of_ble_eq_true rfl)
      · rw [if_neg h6_1] at hf
        refine lv_iload_n hx hb d_P_type_9 rfl (lv_at hl 1 rfl) ?_
        refine lv_iload_n hx hb d_P_type_10 rfl (lv_at hl 3 rfl) ?_
        refine lv_iushr hx hb d_P_type_11 rfl ?_
        refine lv_sipush (v := 255) hx hb d_P_type_12 (by decide) ?_
        refine lv_iand hx hb d_P_type_15 ?_
        refine lv_istore hx hb d_P_type_16 hl (by decide) rfl (fun ls hl => ?_)
        have hl : lv_has ls 5 [(4, .int (((x1.toUInt32 >>> (x3.toUInt32 &&& Int32.toUInt32 31)).toInt32) &&& (255 : Int32))), (0, .ref (b 0)), (1, .int x1), (2, .int x2), (3, .int x3)] := hl
        refine lv_iload hx hb d_P_type_18 (lv_at hl 0 rfl) ?_
        refine lv_if_eq (tgt := 48) hx hb d_P_type_20 (by decide) (fun h20_3 => ?_) (fun h20_3 => ?_)
        · rw [if_pos h20_3] at hf
          refine lv_iinc (k := 4) (v := (x3 + (-8 : Int32))) hx hb d_P_type_48 hl rfl (by rfl) (by decide) rfl (fun ls hl => ?_)
          have hl : lv_has ls 5 [(3, .int (x3 + (-8 : Int32))), (4, .int (((x1.toUInt32 >>> (x3.toUInt32 &&& Int32.toUInt32 31)).toInt32) &&& (255 : Int32))), (0, .ref (b 0)), (1, .int x1), (2, .int x2)] := hl
          refine lv_goto (tgt := 5) hx hb d_P_type_51 (by decide) ?_
          have hl : lv_has ls 5 [(0, .ref (b 0)), (1, .int x1), (2, .int x2), (3, .int (x3 + (-8 : Int32)))] := lv_sub hl [2, 3, 4, 0] rfl
          exact ih x1 x2 (x3 + (-8 : Int32)) F A _ hl hP hD hf
        · rw [if_neg h20_3] at hf
          refine lv_iload hx hb d_P_type_23 (lv_at hl 0 rfl) ?_
          refine lv_bipush (v := 33) hx hb d_P_type_25 (by decide) ?_
          refine lv_icmp_lt (tgt := 37) hx hb d_P_type_27 (by decide) (fun h27_4 => ?_) (fun h27_4 => ?_)
          · rw [if_pos h27_4] at hf
            exact absurd (Sum.inl.inj (Option.some.inj hf)) (by decide)
          · rw [if_neg h27_4] at hf
            refine lv_iload hx hb d_P_type_30 (lv_at hl 0 rfl) ?_
            refine lv_bipush (v := 126) hx hb d_P_type_32 (by decide) ?_
            refine lv_icmp_le (tgt := 45) hx hb d_P_type_34 (by decide) (fun h34_5 => ?_) (fun h34_5 => ?_)
            · rw [if_pos h34_5] at hf
              refine lv_iinc (k := 3) (v := (x2 + (1 : Int32))) hx hb d_P_type_45 hl rfl (by rfl) (by decide) rfl (fun ls hl => ?_)
              have hl : lv_has ls 5 [(2, .int (x2 + (1 : Int32))), (4, .int (((x1.toUInt32 >>> (x3.toUInt32 &&& Int32.toUInt32 31)).toInt32) &&& (255 : Int32))), (0, .ref (b 0)), (1, .int x1), (3, .int x3)] := hl
              refine lv_iinc (k := 4) (v := (x3 + (-8 : Int32))) hx hb d_P_type_48 hl rfl (by rfl) (by decide) rfl (fun ls hl => ?_)
              have hl : lv_has ls 5 [(3, .int (x3 + (-8 : Int32))), (2, .int (x2 + (1 : Int32))), (4, .int (((x1.toUInt32 >>> (x3.toUInt32 &&& Int32.toUInt32 31)).toInt32) &&& (255 : Int32))), (0, .ref (b 0)), (1, .int x1)] := hl
              refine lv_goto (tgt := 5) hx hb d_P_type_51 (by decide) ?_
              have hl : lv_has ls 5 [(0, .ref (b 0)), (1, .int x1), (2, .int (x2 + (1 : Int32))), (3, .int (x3 + (-8 : Int32)))] := lv_sub hl [3, 4, 1, 0] rfl
              exact ih x1 (x2 + (1 : Int32)) (x3 + (-8 : Int32)) F A _ hl hP hD hf
            · rw [if_neg h34_5] at hf
              exact absurd (Sum.inl.inj (Option.some.inj hf)) (by decide)
  rw [lg_entry_eq]
  generalize (lg_sl (([.ref (b 0), .int u1] : List Value)) ++ List.replicate (5 - (lg_sl (([.ref (b 0), .int u1] : List Value))).length) Slot.unset).toArray = ls at hl ⊢
  have hl : lv_has ls 5 [(0, .ref (b 0)), (1, .int u1)] := hl
  unfold f_P_type at hf
  refine lv_iconst (v := 0) hx hb d_P_type_0 (by decide) ?_
  refine lv_istore_n hx hb d_P_type_1 rfl hl (by decide) rfl (fun ls hl => ?_)
  have hl : lv_has ls 5 [(2, .int (0 : Int32)), (0, .ref (b 0)), (1, .int u1)] := hl
  refine lv_bipush (v := 24) hx hb d_P_type_2 (by decide) ?_
  refine lv_istore_n hx hb d_P_type_4 rfl hl (by decide) rfl (fun ls hl => ?_)
  have hl : lv_has ls 5 [(3, .int (24 : Int32)), (2, .int (0 : Int32)), (0, .ref (b 0)), (1, .int u1)] := hl
  have hl : lv_has ls 5 [(0, .ref (b 0)), (1, .int u1), (2, .int (0 : Int32)), (3, .int (24 : Int32))] := lv_sub hl [2, 3, 1, 0] rfl
  exact L5 400 u1 (0 : Int32) (24 : Int32) Fa Aa _ hl hP hD hf
def f_P_instruction_Z25 (x1 : Int32) (x2 : Int32) (F : ST_F) (A : ST_A) : Option (Int32 × ST_F × ST_A) := if x2 = 0 then (ra_g x1 100 (some (((A 5) x1.toNatClampNeg), F, A))) else (if x2 = (1 : Int32) then (ra_g x1 100 (some (((A 6) x1.toNatClampNeg), F, A))) else (ra_g x1 100 (some (((A 7) x1.toNatClampNeg), F, A))))
def f_P_instruction (u1 : Int32) (u2 : Int32) (Fa : ST_F) (Aa : ST_A) : Option (Sum Nat (Int32 × ST_F × ST_A)) := (f_P_isInstruction u1 Fa Aa).bind (fun r1 => if r1 = 0 then (some (.inl 3)) else (if u2 < 0 then (some (.inl 3)) else (if u2 ≤ (2 : Int32) then (ra_ok (f_P_instruction_Z25 u1 u2 Fa Aa)) else (some (.inl 3)))))
set_option maxHeartbeats 4000000 in
set_option maxRecDepth 100000 in
theorem k_P_instruction (l : Launch) (dC : Nat → ClassId) (dI : Nat → Nat → Nat) (b : Nat → Nat) (cI cC : ClassId) (tx : Nat) (sz : Nat) (Fa : ST_F) (Aa : ST_A) (u1 : Int32) (u2 : Int32) (r0 : Int32) (F9 : ST_F) (A9 : ST_A) (hf : f_P_instruction u1 u2 Fa Aa = some (.inr (r0, F9, A9))) : cc_MetI l y_P_instruction (Cond.code y_P_instruction b_P_instruction 3 (some .int) :: wA) ({ frames := 1, cells := 0, slots := 0, locals := 21 } : Room) (dC, dI) vC [(cI, .int), (cC, .char)] ([.ref (b 0), .int u1, .int u2] : List Value) (wP b cI cC tx Fa Aa) sz (wP b cI cC tx F9 A9) r0 := by
  refine Met.ofW (cc := b_P_instruction) (maxL := 3) (ret := (some .int)) (by decide) rfl ?_
  intro p e s m args below meth c s₁ B hml hv
  obtain ⟨rfl, hsz, hP, hK, hD0⟩ := hv
  have hx := B.exec
  have hb := B.bytes
  have hr := B.returns
  have hts := fun w h => atoms_spec (ws := (Cond.code y_P_instruction b_P_instruction 3 (some .int) :: wA)) B.pre w (List.mem_cons_of_mem _ h)
  have hown : s.vm.findClass R_P = some m.cls := findClass_of_methodNamed B.named
  have hlocks := B.notSynchronized
  subst hsz
  have hD := hD0.self (sz := s.heap.size)
  have hA : ∀ q : Nat, s.heap.size ≤ q → va_A (wP b cI cC tx Fa Aa) s.heap.size q := fun q h => Or.inr h
  have hS : va_S (va_A (wP b cI cC tx Fa Aa) s.heap.size) s.heap s.heap [] := va_S.rf
  have hl := lv_entry (([.ref (b 0), .int u1, .int u2] : List Value)) (n := 3) (Nat.le_of_ble_eq_true rfl)
  have Z25 : ∀ (x1 : Int32) (x2 : Int32) (F : ST_F) (A : ST_A) (H : Heap) (locs : List Loc) (ls : Array Slot), lv_has ls 3 [(0, .ref (b 0)), (1, .int x1), (2, .int x2)] → va_P (dC, dI) vC (wP b cI cC tx F A) H → va_D (va_A (wP b cI cC tx Fa Aa) s.heap.size) (wP b cI cC tx F A) → va_S (va_A (wP b cI cC tx Fa Aa) s.heap.size) s.heap H locs → f_P_instruction_Z25 x1 x2 F A = some (r0, F9, A9) → W p l e (headSpec (Cond.code y_P_instruction b_P_instruction 3 (some .int) :: wA) ({ frames := 1, cells := 0, slots := 0, locals := 21 } : Room)).room s m ([.ref (b 0), .int u1, .int u2] : List Value).toArray below meth c H locs 0 0 (MQ below (cc_Qi (dC, dI) vC [(cI, .int), (cC, .char)] (wP b cI cC tx Fa Aa) s.heap.size (wP b cI cC tx F9 A9) r0) ([.ref (b 0), .int u1, .int u2] : List Value).toArray s 0 0 (va_A (wP b cI cC tx Fa Aa) s.heap.size)) (F0 m 25 ls []) := by
    intro x1 x2 F A H locs ls hl hP hD hS hf
    unfold f_P_instruction_Z25 at hf
    refine lv_iload_n hx hb d_P_instruction_25 rfl (lv_at hl 2 rfl) ?_
    refine lv_if_ne (tgt := 39) hx hb d_P_instruction_26 (by decide) (fun h26_5 => ?_) (fun h26_5 => ?_)
    · rw [if_neg h26_5] at hf
      refine lv_iload_n hx hb d_P_instruction_39 rfl (lv_at hl 2 rfl) ?_
      refine lv_iconst (v := 1) hx hb d_P_instruction_40 (by decide) ?_
      refine lv_icmp_ne (tgt := 56) hx hb d_P_instruction_41 (by decide) (fun h41_6 => ?_) (fun h41_6 => ?_)
      · rw [if_neg h41_6] at hf
        refine lv_aload_n hx hb d_P_instruction_56 rfl (lv_at hl 0 rfl) ?_
        refine va_get (D := (dC, dI)) (ci := 3) (v := .ref (b 8)) (C := R_P) (T := T_P) (N := 6) hx hb hts in_P hown hK hP 0 rfl rfl 2 (by decide) (hts _ mw_107) (fun _ h9 => h9) rfl d_P_instruction_57 ?_
        refine va_get (D := (dC, dI)) (ci := 0) (v := .ref (b 11)) (C := R_K) (T := T_K) (N := 7) hx hb hts in_K hown hK hP 8 rfl rfl 2 (by decide) (hts _ mw_37) (fun _ h9 => h9) rfl d_P_instruction_60 ?_
        refine lv_iload_n hx hb d_P_instruction_63 rfl (lv_at hl 1 rfl) ?_
        obtain ⟨hi, hf⟩ := ra_g_some hf
        refine va_iald hx hb hK hP 11 0 rfl rfl hi d_P_instruction_64 ?_
        cases hf
        exact W.iret hx hb hr (fun t ht hW => ⟨⟨_, (), rfl, rfl, by rw [ht]; exact hP, va_K.moved hW.alike hK, hD⟩, hS.F ht⟩) hS.2.2 d_P_instruction_65
      · rw [if_pos h41_6] at hf
        refine lv_aload_n hx hb d_P_instruction_44 rfl (lv_at hl 0 rfl) ?_
        refine va_get (D := (dC, dI)) (ci := 3) (v := .ref (b 8)) (C := R_P) (T := T_P) (N := 6) hx hb hts in_P hown hK hP 0 rfl rfl 2 (by decide) (hts _ mw_107) (fun _ h9 => h9) rfl d_P_instruction_45 ?_
        refine va_get (D := (dC, dI)) (ci := 0) (v := .ref (b 10)) (C := R_K) (T := T_K) (N := 7) hx hb hts in_K hown hK hP 8 rfl rfl 1 (by decide) (hts _ mw_34) (fun _ h9 => h9) rfl d_P_instruction_48 ?_
        refine lv_iload_n hx hb d_P_instruction_51 rfl (lv_at hl 1 rfl) ?_
        obtain ⟨hi, hf⟩ := ra_g_some hf
        refine va_iald hx hb hK hP 10 0 rfl rfl hi d_P_instruction_52 ?_
        refine lv_goto (tgt := 65) hx hb d_P_instruction_53 (by decide) ?_
        cases hf
        exact W.iret hx hb hr (fun t ht hW => ⟨⟨_, (), rfl, rfl, by rw [ht]; exact hP, va_K.moved hW.alike hK, hD⟩, hS.F ht⟩) hS.2.2 d_P_instruction_65
    · rw [if_pos h26_5] at hf
      refine lv_aload_n hx hb d_P_instruction_29 rfl (lv_at hl 0 rfl) ?_
      refine va_get (D := (dC, dI)) (ci := 3) (v := .ref (b 8)) (C := R_P) (T := T_P) (N := 6) hx hb hts in_P hown hK hP 0 rfl rfl 2 (by decide) (hts _ mw_107) (fun _ h9 => h9) rfl d_P_instruction_30 ?_
      refine va_get (D := (dC, dI)) (ci := 0) (v := .ref (b 9)) (C := R_K) (T := T_K) (N := 7) hx hb hts in_K hown hK hP 8 rfl rfl 0 (by decide) (hts _ mw_31) (fun _ h9 => h9) rfl d_P_instruction_33 ?_
      refine lv_iload_n hx hb d_P_instruction_36 rfl (lv_at hl 1 rfl) ?_
      obtain ⟨hi, hf⟩ := ra_g_some hf
      refine va_iald hx hb hK hP 9 0 rfl rfl hi d_P_instruction_37 ?_
      cases hf
      exact W.iret hx hb hr (fun t ht hW => ⟨⟨_, (), rfl, rfl, by rw [ht]; exact hP, va_K.moved hW.alike hK, hD⟩, hS.F ht⟩) hS.2.2 d_P_instruction_38
  rw [lg_entry_eq]
  generalize (lg_sl (([.ref (b 0), .int u1, .int u2] : List Value)) ++ List.replicate (3 - (lg_sl (([.ref (b 0), .int u1, .int u2] : List Value))).length) Slot.unset).toArray = ls at hl ⊢
  have hl : lv_has ls 3 [(0, .ref (b 0)), (1, .int u1), (2, .int u2)] := hl
  unfold f_P_instruction at hf
  refine lv_aload_n hx hb d_P_instruction_0 rfl (lv_at hl 0 rfl) ?_
  refine lv_iload_n hx hb d_P_instruction_1 rfl (lv_at hl 1 rfl) ?_
  obtain ⟨r1, hc, hf⟩ := Option.bind_eq_some_iff.mp hf
  have hP : va_P (dC, dI) vC (wP b cI cC tx Fa Aa) s.heap := hP
  have hD : va_D (va_A (wP b cI cC tx Fa Aa) s.heap.size) (wP b cI cC tx Fa Aa) := hD
  refine cc_callr (va_runV (As := [.int u1]) (rest := []) ⟨hx, hb, hml, hown, hts⟩ (k_P_isInstruction l dC dI b cI cC tx s.heap.size Fa Aa u1 r1 hc) (cw_V 1 hts mw_387 mw_389 ms_P_isInstruction mw_1 mw_390 rfl rfl rfl hd_P_isInstruction ⟨Nat.le_of_ble_eq_true rfl, Nat.le_of_ble_eq_true rfl⟩) (cc_preV hK hP hD rfl (q0 := 0) rfl) rfl rfl hl.1 rfl (lv_room (Nat.le_of_ble_eq_true rfl)) d_P_instruction_2 ⟨Nat.zero_le _, Nat.zero_le _⟩) ?_
  refine lv_if_eq (tgt := 17) hx hb d_P_instruction_5 (by decide) (fun h5_2 => ?_) (fun h5_2 => ?_)
  · rw [if_pos h5_2] at hf
    cases hf
  · rw [if_neg h5_2] at hf
    refine lv_iload_n hx hb d_P_instruction_8 rfl (lv_at hl 2 rfl) ?_
    refine lv_if_lt (tgt := 17) hx hb d_P_instruction_9 (by decide) (fun h9_3 => ?_) (fun h9_3 => ?_)
    · rw [if_pos h9_3] at hf
      cases hf
    · rw [if_neg h9_3] at hf
      refine lv_iload_n hx hb d_P_instruction_12 rfl (lv_at hl 2 rfl) ?_
      refine lv_iconst (v := 2) hx hb d_P_instruction_13 (by decide) ?_
      refine lv_icmp_le (tgt := 25) hx hb d_P_instruction_14 (by decide) (fun h14_4 => ?_) (fun h14_4 => ?_)
      · rw [if_pos h14_4] at hf
        have hf := ra_ok_some hf
        have hl : lv_has ls 3 [(0, .ref (b 0)), (1, .int u1), (2, .int u2)] := lv_sub hl [0, 1, 2] rfl
        exact Z25 u1 u2 Fa Aa _ _ _ hl hP hD hS hf
      · rw [if_neg h14_4] at hf
        cases hf
set_option maxHeartbeats 4000000 in
set_option maxRecDepth 100000 in
theorem t_P_instruction_3 (l : Launch) (hfl : l.stackTraces = false) (dC : Nat → ClassId) (dI : Nat → Nat → Nat) (b : Nat → Nat) (cI cC : ClassId) (tx : Nat) (sz : Nat) (Fa : ST_F) (Aa : ST_A) (u1 : Int32) (u2 : Int32) (hf : f_P_instruction u1 u2 Fa Aa = some (.inl 3)) : th_Met l y_P_instruction (Cond.code y_P_instruction b_P_instruction 3 (some .int) :: wA) ({ frames := 8, cells := 1, slots := 6, locals := 120 } : Room) (va_Pc ([.ref (b 0), .int u1, .int u2] : List Value) (th_Pre (dC, dI) vC [(cI, .int), (cC, .char)] (wP b cI cC tx Fa Aa) sz)) "java/lang/IndexOutOfBoundsException" 1 6 := by
  refine th_ofW (cc := b_P_instruction) (maxL := 3) (ret := (some .int)) (by decide) rfl ?_
  intro p e s m args below meth c s₁ B hml hv
  obtain ⟨rfl, ⟨hsz, hP, hK, hD0⟩, B0, hZ⟩ := hv
  have hx := B.exec
  have hb := B.bytes
  have hr := B.returns
  have hts := fun w h => atoms_spec (ws := (Cond.code y_P_instruction b_P_instruction 3 (some .int) :: wA)) B.pre w (List.mem_cons_of_mem _ h)
  have hown : s.vm.findClass R_P = some m.cls := findClass_of_methodNamed B.named
  have hlocks := B.notSynchronized
  have hemp := BodyLoose.noHandlers B (atoms_spec (ws := (Cond.code y_P_instruction b_P_instruction 3 (some .int) :: wA)) B.pre _ List.mem_cons_self)
  subst hsz
  have hD := hD0.self (sz := s.heap.size)
  have hl := lv_entry (([.ref (b 0), .int u1, .int u2] : List Value)) (n := 3) (Nat.le_of_ble_eq_true rfl)
  rw [lg_entry_eq]
  generalize (lg_sl (([.ref (b 0), .int u1, .int u2] : List Value)) ++ List.replicate (3 - (lg_sl (([.ref (b 0), .int u1, .int u2] : List Value))).length) Slot.unset).toArray = ls at hl ⊢
  have hl : lv_has ls 3 [(0, .ref (b 0)), (1, .int u1), (2, .int u2)] := hl
  unfold f_P_instruction at hf
  refine lv_aload_n hx hb d_P_instruction_0 rfl (lv_at hl 0 rfl) ?_
  refine lv_iload_n hx hb d_P_instruction_1 rfl (lv_at hl 1 rfl) ?_
  obtain ⟨r1, hc, hf⟩ := Option.bind_eq_some_iff.mp hf
  have hP : va_P (dC, dI) vC (wP b cI cC tx Fa Aa) s.heap := hP
  have hD : va_D (va_A (wP b cI cC tx Fa Aa) s.heap.size) (wP b cI cC tx Fa Aa) := hD
  refine cc_callr (va_runV (As := [.int u1]) (rest := []) ⟨hx, hb, hml, hown, hts⟩ (k_P_isInstruction l dC dI b cI cC tx s.heap.size Fa Aa u1 r1 hc) (cw_V 1 hts mw_387 mw_389 ms_P_isInstruction mw_1 mw_390 rfl rfl rfl hd_P_isInstruction ⟨Nat.le_of_ble_eq_true rfl, Nat.le_of_ble_eq_true rfl⟩) (cc_preV hK hP hD rfl (q0 := 0) rfl) rfl rfl hl.1 rfl (lv_room (Nat.le_of_ble_eq_true rfl)) d_P_instruction_2 ⟨Nat.zero_le _, Nat.zero_le _⟩) ?_
  refine lv_if_eq (tgt := 17) hx hb d_P_instruction_5 (by decide) (fun h5_2 => ?_) (fun h5_2 => ?_)
  · rw [if_pos h5_2] at hf
    exact th_new (names := ["java/lang/RuntimeException", "java/lang/Exception"]) hx hb hlocks hfl hown (hts _ mw_391) (hts _ mw_392) (hts _ mw_13) (by decide +kernel) (by decide +kernel) (th_at3 hts hZ) (hl.1.trans hml.symm) hemp d_P_instruction_17 d_P_instruction_20 d_P_instruction_21 d_P_instruction_24 (Nat.le_of_ble_eq_true rfl) (Nat.le_of_ble_eq_true rfl) (Nat.le_of_ble_eq_true rfl) (Nat.le_of_ble_eq_true rfl)
  · rw [if_neg h5_2] at hf
    refine lv_iload_n hx hb d_P_instruction_8 rfl (lv_at hl 2 rfl) ?_
    refine lv_if_lt (tgt := 17) hx hb d_P_instruction_9 (by decide) (fun h9_3 => ?_) (fun h9_3 => ?_)
    · rw [if_pos h9_3] at hf
      exact th_new (names := ["java/lang/RuntimeException", "java/lang/Exception"]) hx hb hlocks hfl hown (hts _ mw_391) (hts _ mw_392) (hts _ mw_13) (by decide +kernel) (by decide +kernel) (th_at3 hts hZ) (hl.1.trans hml.symm) hemp d_P_instruction_17 d_P_instruction_20 d_P_instruction_21 d_P_instruction_24 (Nat.le_of_ble_eq_true rfl) (Nat.le_of_ble_eq_true rfl) (Nat.le_of_ble_eq_true rfl) (Nat.le_of_ble_eq_true rfl)
    · rw [if_neg h9_3] at hf
      refine lv_iload_n hx hb d_P_instruction_12 rfl (lv_at hl 2 rfl) ?_
      refine lv_iconst (v := 2) hx hb d_P_instruction_13 (by decide) ?_
      refine lv_icmp_le (tgt := 25) hx hb d_P_instruction_14 (by decide) (fun h14_4 => ?_) (fun h14_4 => ?_)
      · rw [if_pos h14_4] at hf
        exact absurd hf (ra_ok_ne _ _)
      · rw [if_neg h14_4] at hf
        exact th_new (names := ["java/lang/RuntimeException", "java/lang/Exception"]) hx hb hlocks hfl hown (hts _ mw_391) (hts _ mw_392) (hts _ mw_13) (by decide +kernel) (by decide +kernel) (th_at3 hts hZ) (hl.1.trans hml.symm) hemp d_P_instruction_17 d_P_instruction_20 d_P_instruction_21 d_P_instruction_24 (Nat.le_of_ble_eq_true rfl) (Nat.le_of_ble_eq_true rfl) (Nat.le_of_ble_eq_true rfl) (Nat.le_of_ble_eq_true rfl)
def f_P_result_Z32 (x1 : Int32) (F : ST_F) (A : ST_A) : Option (Int32 × ST_F × ST_A) := ra_g x1 3 (some (((A 8) x1.toNatClampNeg), F, A))
def f_P_result (u1 : Int32) (Fa : ST_F) (Aa : ST_A) : Option (Sum Nat (Int32 × ST_F × ST_A)) := (f_P_hasCode  Fa Aa).bind (fun r1 => if r1 = 0 then (some (.inl 2)) else (if u1 < 0 then (some (.inl 3)) else (if u1 < (3 : Int32) then (ra_ok (f_P_result_Z32 u1 Fa Aa)) else (some (.inl 3)))))
set_option maxHeartbeats 4000000 in
set_option maxRecDepth 100000 in
theorem k_P_result (l : Launch) (dC : Nat → ClassId) (dI : Nat → Nat → Nat) (b : Nat → Nat) (cI cC : ClassId) (tx : Nat) (sz : Nat) (Fa : ST_F) (Aa : ST_A) (u1 : Int32) (r0 : Int32) (F9 : ST_F) (A9 : ST_A) (hf : f_P_result u1 Fa Aa = some (.inr (r0, F9, A9))) : cc_MetI l y_P_result (Cond.code y_P_result b_P_result 2 (some .int) :: wA) ({ frames := 1, cells := 0, slots := 0, locals := 20 } : Room) (dC, dI) vC [(cI, .int), (cC, .char)] ([.ref (b 0), .int u1] : List Value) (wP b cI cC tx Fa Aa) sz (wP b cI cC tx F9 A9) r0 := by
  refine Met.ofW (cc := b_P_result) (maxL := 2) (ret := (some .int)) (by decide) rfl ?_
  intro p e s m args below meth c s₁ B hml hv
  obtain ⟨rfl, hsz, hP, hK, hD0⟩ := hv
  have hx := B.exec
  have hb := B.bytes
  have hr := B.returns
  have hts := fun w h => atoms_spec (ws := (Cond.code y_P_result b_P_result 2 (some .int) :: wA)) B.pre w (List.mem_cons_of_mem _ h)
  have hown : s.vm.findClass R_P = some m.cls := findClass_of_methodNamed B.named
  have hlocks := B.notSynchronized
  subst hsz
  have hD := hD0.self (sz := s.heap.size)
  have hA : ∀ q : Nat, s.heap.size ≤ q → va_A (wP b cI cC tx Fa Aa) s.heap.size q := fun q h => Or.inr h
  have hS : va_S (va_A (wP b cI cC tx Fa Aa) s.heap.size) s.heap s.heap [] := va_S.rf
  have hl := lv_entry (([.ref (b 0), .int u1] : List Value)) (n := 2) (Nat.le_of_ble_eq_true rfl)
  have Z32 : ∀ (x1 : Int32) (F : ST_F) (A : ST_A) (H : Heap) (locs : List Loc) (ls : Array Slot), lv_has ls 2 [(0, .ref (b 0)), (1, .int x1)] → va_P (dC, dI) vC (wP b cI cC tx F A) H → va_D (va_A (wP b cI cC tx Fa Aa) s.heap.size) (wP b cI cC tx F A) → va_S (va_A (wP b cI cC tx Fa Aa) s.heap.size) s.heap H locs → f_P_result_Z32 x1 F A = some (r0, F9, A9) → W p l e (headSpec (Cond.code y_P_result b_P_result 2 (some .int) :: wA) ({ frames := 1, cells := 0, slots := 0, locals := 20 } : Room)).room s m ([.ref (b 0), .int u1] : List Value).toArray below meth c H locs 0 0 (MQ below (cc_Qi (dC, dI) vC [(cI, .int), (cC, .char)] (wP b cI cC tx Fa Aa) s.heap.size (wP b cI cC tx F9 A9) r0) ([.ref (b 0), .int u1] : List Value).toArray s 0 0 (va_A (wP b cI cC tx Fa Aa) s.heap.size)) (F0 m 32 ls []) := by
    intro x1 F A H locs ls hl hP hD hS hf
    unfold f_P_result_Z32 at hf
    refine lv_aload_n hx hb d_P_result_32 rfl (lv_at hl 0 rfl) ?_
    refine va_get (D := (dC, dI)) (ci := 3) (v := .ref (b 8)) (C := R_P) (T := T_P) (N := 6) hx hb hts in_P hown hK hP 0 rfl rfl 2 (by decide) (hts _ mw_107) (fun _ h9 => h9) rfl d_P_result_33 ?_
    refine va_get (D := (dC, dI)) (ci := 0) (v := .ref (b 12)) (C := R_K) (T := T_K) (N := 7) hx hb hts in_K hown hK hP 8 rfl rfl 3 (by decide) (hts _ mw_41) (fun _ h9 => h9) rfl d_P_result_36 ?_
    refine lv_iload_n hx hb d_P_result_39 rfl (lv_at hl 1 rfl) ?_
    obtain ⟨hi, hf⟩ := ra_g_some hf
    refine va_iald hx hb hK hP 12 0 rfl rfl hi d_P_result_40 ?_
    cases hf
    exact W.iret hx hb hr (fun t ht hW => ⟨⟨_, (), rfl, rfl, by rw [ht]; exact hP, va_K.moved hW.alike hK, hD⟩, hS.F ht⟩) hS.2.2 d_P_result_41
  rw [lg_entry_eq]
  generalize (lg_sl (([.ref (b 0), .int u1] : List Value)) ++ List.replicate (2 - (lg_sl (([.ref (b 0), .int u1] : List Value))).length) Slot.unset).toArray = ls at hl ⊢
  have hl : lv_has ls 2 [(0, .ref (b 0)), (1, .int u1)] := hl
  unfold f_P_result at hf
  refine lv_aload_n hx hb d_P_result_0 rfl (lv_at hl 0 rfl) ?_
  obtain ⟨r1, hc, hf⟩ := Option.bind_eq_some_iff.mp hf
  have hP : va_P (dC, dI) vC (wP b cI cC tx Fa Aa) s.heap := hP
  have hD : va_D (va_A (wP b cI cC tx Fa Aa) s.heap.size) (wP b cI cC tx Fa Aa) := hD
  refine cc_callr (va_runV (As := []) (rest := []) ⟨hx, hb, hml, hown, hts⟩ (k_P_hasCode l dC dI b cI cC tx s.heap.size Fa Aa  r1 hc) (cw_V 0 hts mw_413 mw_415 ms_P_hasCode mw_1 mw_416 rfl rfl rfl hd_P_hasCode ⟨Nat.le_of_ble_eq_true rfl, Nat.le_of_ble_eq_true rfl⟩) (cc_preV hK hP hD rfl (q0 := 0) rfl) rfl rfl hl.1 rfl (lv_room (Nat.le_of_ble_eq_true rfl)) d_P_result_1 ⟨Nat.zero_le _, Nat.zero_le _⟩) ?_
  refine lv_if_ne (tgt := 15) hx hb d_P_result_4 (by decide) (fun h4_2 => ?_) (fun h4_2 => ?_)
  · rw [if_neg h4_2] at hf
    refine lv_iload_n hx hb d_P_result_15 rfl (lv_at hl 1 rfl) ?_
    refine lv_if_lt (tgt := 24) hx hb d_P_result_16 (by decide) (fun h16_3 => ?_) (fun h16_3 => ?_)
    · rw [if_pos h16_3] at hf
      cases hf
    · rw [if_neg h16_3] at hf
      refine lv_iload_n hx hb d_P_result_19 rfl (lv_at hl 1 rfl) ?_
      refine lv_iconst (v := 3) hx hb d_P_result_20 (by decide) ?_
      refine lv_icmp_lt (tgt := 32) hx hb d_P_result_21 (by decide) (fun h21_4 => ?_) (fun h21_4 => ?_)
      · rw [if_pos h21_4] at hf
        have hf := ra_ok_some hf
        have hl : lv_has ls 2 [(0, .ref (b 0)), (1, .int u1)] := lv_sub hl [0, 1] rfl
        exact Z32 u1 Fa Aa _ _ _ hl hP hD hS hf
      · rw [if_neg h21_4] at hf
        cases hf
  · rw [if_pos h4_2] at hf
    cases hf
set_option maxHeartbeats 4000000 in
set_option maxRecDepth 100000 in
theorem t_P_result_2 (l : Launch) (hfl : l.stackTraces = false) (dC : Nat → ClassId) (dI : Nat → Nat → Nat) (b : Nat → Nat) (cI cC : ClassId) (tx : Nat) (sz : Nat) (Fa : ST_F) (Aa : ST_A) (u1 : Int32) (hf : f_P_result u1 Fa Aa = some (.inl 2)) : th_Met l y_P_result (Cond.code y_P_result b_P_result 2 (some .int) :: wA) ({ frames := 8, cells := 1, slots := 6, locals := 120 } : Room) (va_Pc ([.ref (b 0), .int u1] : List Value) (th_Pre (dC, dI) vC [(cI, .int), (cC, .char)] (wP b cI cC tx Fa Aa) sz)) "java/lang/IllegalStateException" 1 6 := by
  refine th_ofW (cc := b_P_result) (maxL := 2) (ret := (some .int)) (by decide) rfl ?_
  intro p e s m args below meth c s₁ B hml hv
  obtain ⟨rfl, ⟨hsz, hP, hK, hD0⟩, B0, hZ⟩ := hv
  have hx := B.exec
  have hb := B.bytes
  have hr := B.returns
  have hts := fun w h => atoms_spec (ws := (Cond.code y_P_result b_P_result 2 (some .int) :: wA)) B.pre w (List.mem_cons_of_mem _ h)
  have hown : s.vm.findClass R_P = some m.cls := findClass_of_methodNamed B.named
  have hlocks := B.notSynchronized
  have hemp := BodyLoose.noHandlers B (atoms_spec (ws := (Cond.code y_P_result b_P_result 2 (some .int) :: wA)) B.pre _ List.mem_cons_self)
  subst hsz
  have hD := hD0.self (sz := s.heap.size)
  have hl := lv_entry (([.ref (b 0), .int u1] : List Value)) (n := 2) (Nat.le_of_ble_eq_true rfl)
  rw [lg_entry_eq]
  generalize (lg_sl (([.ref (b 0), .int u1] : List Value)) ++ List.replicate (2 - (lg_sl (([.ref (b 0), .int u1] : List Value))).length) Slot.unset).toArray = ls at hl ⊢
  have hl : lv_has ls 2 [(0, .ref (b 0)), (1, .int u1)] := hl
  unfold f_P_result at hf
  refine lv_aload_n hx hb d_P_result_0 rfl (lv_at hl 0 rfl) ?_
  obtain ⟨r1, hc, hf⟩ := Option.bind_eq_some_iff.mp hf
  have hP : va_P (dC, dI) vC (wP b cI cC tx Fa Aa) s.heap := hP
  have hD : va_D (va_A (wP b cI cC tx Fa Aa) s.heap.size) (wP b cI cC tx Fa Aa) := hD
  refine cc_callr (va_runV (As := []) (rest := []) ⟨hx, hb, hml, hown, hts⟩ (k_P_hasCode l dC dI b cI cC tx s.heap.size Fa Aa  r1 hc) (cw_V 0 hts mw_413 mw_415 ms_P_hasCode mw_1 mw_416 rfl rfl rfl hd_P_hasCode ⟨Nat.le_of_ble_eq_true rfl, Nat.le_of_ble_eq_true rfl⟩) (cc_preV hK hP hD rfl (q0 := 0) rfl) rfl rfl hl.1 rfl (lv_room (Nat.le_of_ble_eq_true rfl)) d_P_result_1 ⟨Nat.zero_le _, Nat.zero_le _⟩) ?_
  refine lv_if_ne (tgt := 15) hx hb d_P_result_4 (by decide) (fun h4_2 => ?_) (fun h4_2 => ?_)
  · rw [if_neg h4_2] at hf
    refine lv_iload_n hx hb d_P_result_15 rfl (lv_at hl 1 rfl) ?_
    refine lv_if_lt (tgt := 24) hx hb d_P_result_16 (by decide) (fun h16_3 => ?_) (fun h16_3 => ?_)
    · rw [if_pos h16_3] at hf
      exact absurd (Sum.inl.inj (Option.some.inj hf)) (by decide)
    · rw [if_neg h16_3] at hf
      refine lv_iload_n hx hb d_P_result_19 rfl (lv_at hl 1 rfl) ?_
      refine lv_iconst (v := 3) hx hb d_P_result_20 (by decide) ?_
      refine lv_icmp_lt (tgt := 32) hx hb d_P_result_21 (by decide) (fun h21_4 => ?_) (fun h21_4 => ?_)
      · rw [if_pos h21_4] at hf
        exact absurd hf (ra_ok_ne _ _)
      · rw [if_neg h21_4] at hf
        exact absurd (Sum.inl.inj (Option.some.inj hf)) (by decide)
  · rw [if_pos h4_2] at hf
    exact th_new (names := ["java/lang/RuntimeException", "java/lang/Exception"]) hx hb hlocks hfl hown (hts _ mw_364) (hts _ mw_365) (hts _ mw_10) (by decide +kernel) (by decide +kernel) (th_at2 hts hZ) (hl.1.trans hml.symm) hemp d_P_result_7 d_P_result_10 d_P_result_11 d_P_result_14 (Nat.le_of_ble_eq_true rfl) (Nat.le_of_ble_eq_true rfl) (Nat.le_of_ble_eq_true rfl) (Nat.le_of_ble_eq_true rfl)
set_option maxHeartbeats 4000000 in
set_option maxRecDepth 100000 in
theorem t_P_result_3 (l : Launch) (hfl : l.stackTraces = false) (dC : Nat → ClassId) (dI : Nat → Nat → Nat) (b : Nat → Nat) (cI cC : ClassId) (tx : Nat) (sz : Nat) (Fa : ST_F) (Aa : ST_A) (u1 : Int32) (hf : f_P_result u1 Fa Aa = some (.inl 3)) : th_Met l y_P_result (Cond.code y_P_result b_P_result 2 (some .int) :: wA) ({ frames := 8, cells := 1, slots := 6, locals := 120 } : Room) (va_Pc ([.ref (b 0), .int u1] : List Value) (th_Pre (dC, dI) vC [(cI, .int), (cC, .char)] (wP b cI cC tx Fa Aa) sz)) "java/lang/IndexOutOfBoundsException" 1 6 := by
  refine th_ofW (cc := b_P_result) (maxL := 2) (ret := (some .int)) (by decide) rfl ?_
  intro p e s m args below meth c s₁ B hml hv
  obtain ⟨rfl, ⟨hsz, hP, hK, hD0⟩, B0, hZ⟩ := hv
  have hx := B.exec
  have hb := B.bytes
  have hr := B.returns
  have hts := fun w h => atoms_spec (ws := (Cond.code y_P_result b_P_result 2 (some .int) :: wA)) B.pre w (List.mem_cons_of_mem _ h)
  have hown : s.vm.findClass R_P = some m.cls := findClass_of_methodNamed B.named
  have hlocks := B.notSynchronized
  have hemp := BodyLoose.noHandlers B (atoms_spec (ws := (Cond.code y_P_result b_P_result 2 (some .int) :: wA)) B.pre _ List.mem_cons_self)
  subst hsz
  have hD := hD0.self (sz := s.heap.size)
  have hl := lv_entry (([.ref (b 0), .int u1] : List Value)) (n := 2) (Nat.le_of_ble_eq_true rfl)
  rw [lg_entry_eq]
  generalize (lg_sl (([.ref (b 0), .int u1] : List Value)) ++ List.replicate (2 - (lg_sl (([.ref (b 0), .int u1] : List Value))).length) Slot.unset).toArray = ls at hl ⊢
  have hl : lv_has ls 2 [(0, .ref (b 0)), (1, .int u1)] := hl
  unfold f_P_result at hf
  refine lv_aload_n hx hb d_P_result_0 rfl (lv_at hl 0 rfl) ?_
  obtain ⟨r1, hc, hf⟩ := Option.bind_eq_some_iff.mp hf
  have hP : va_P (dC, dI) vC (wP b cI cC tx Fa Aa) s.heap := hP
  have hD : va_D (va_A (wP b cI cC tx Fa Aa) s.heap.size) (wP b cI cC tx Fa Aa) := hD
  refine cc_callr (va_runV (As := []) (rest := []) ⟨hx, hb, hml, hown, hts⟩ (k_P_hasCode l dC dI b cI cC tx s.heap.size Fa Aa  r1 hc) (cw_V 0 hts mw_413 mw_415 ms_P_hasCode mw_1 mw_416 rfl rfl rfl hd_P_hasCode ⟨Nat.le_of_ble_eq_true rfl, Nat.le_of_ble_eq_true rfl⟩) (cc_preV hK hP hD rfl (q0 := 0) rfl) rfl rfl hl.1 rfl (lv_room (Nat.le_of_ble_eq_true rfl)) d_P_result_1 ⟨Nat.zero_le _, Nat.zero_le _⟩) ?_
  refine lv_if_ne (tgt := 15) hx hb d_P_result_4 (by decide) (fun h4_2 => ?_) (fun h4_2 => ?_)
  · rw [if_neg h4_2] at hf
    refine lv_iload_n hx hb d_P_result_15 rfl (lv_at hl 1 rfl) ?_
    refine lv_if_lt (tgt := 24) hx hb d_P_result_16 (by decide) (fun h16_3 => ?_) (fun h16_3 => ?_)
    · rw [if_pos h16_3] at hf
      exact th_new (names := ["java/lang/RuntimeException", "java/lang/Exception"]) hx hb hlocks hfl hown (hts _ mw_391) (hts _ mw_392) (hts _ mw_13) (by decide +kernel) (by decide +kernel) (th_at3 hts hZ) (hl.1.trans hml.symm) hemp d_P_result_24 d_P_result_27 d_P_result_28 d_P_result_31 (Nat.le_of_ble_eq_true rfl) (Nat.le_of_ble_eq_true rfl) (Nat.le_of_ble_eq_true rfl) (Nat.le_of_ble_eq_true rfl)
    · rw [if_neg h16_3] at hf
      refine lv_iload_n hx hb d_P_result_19 rfl (lv_at hl 1 rfl) ?_
      refine lv_iconst (v := 3) hx hb d_P_result_20 (by decide) ?_
      refine lv_icmp_lt (tgt := 32) hx hb d_P_result_21 (by decide) (fun h21_4 => ?_) (fun h21_4 => ?_)
      · rw [if_pos h21_4] at hf
        exact absurd hf (ra_ok_ne _ _)
      · rw [if_neg h21_4] at hf
        exact th_new (names := ["java/lang/RuntimeException", "java/lang/Exception"]) hx hb hlocks hfl hown (hts _ mw_391) (hts _ mw_392) (hts _ mw_13) (by decide +kernel) (by decide +kernel) (th_at3 hts hZ) (hl.1.trans hml.symm) hemp d_P_result_24 d_P_result_27 d_P_result_28 d_P_result_31 (Nat.le_of_ble_eq_true rfl) (Nat.le_of_ble_eq_true rfl) (Nat.le_of_ble_eq_true rfl) (Nat.le_of_ble_eq_true rfl)
  · rw [if_pos h4_2] at hf
    exact absurd (Sum.inl.inj (Option.some.inj hf)) (by decide)
def f_P_typeOf_Z18 (x1 : Int32) (F : ST_F) (A : ST_A) : Option (Int32 × ST_F × ST_A) := ra_g x1 26 (some (((A 9) x1.toNatClampNeg), F, A))
def f_P_typeOf (u1 : Int32) (Fa : ST_F) (Aa : ST_A) : Option (Sum Nat (Int32 × ST_F × ST_A)) := if u1 < 0 then (some (.inl 3)) else (if u1 < (26 : Int32) then (ra_ok (f_P_typeOf_Z18 u1 Fa Aa)) else (some (.inl 3)))
set_option maxHeartbeats 4000000 in
set_option maxRecDepth 100000 in
theorem k_P_typeOf (l : Launch) (dC : Nat → ClassId) (dI : Nat → Nat → Nat) (b : Nat → Nat) (cI cC : ClassId) (tx : Nat) (sz : Nat) (Fa : ST_F) (Aa : ST_A) (u1 : Int32) (r0 : Int32) (F9 : ST_F) (A9 : ST_A) (hf : f_P_typeOf u1 Fa Aa = some (.inr (r0, F9, A9))) : cc_MetI l y_P_typeOf (Cond.code y_P_typeOf b_P_typeOf 2 (some .int) :: wA) ({ frames := 0, cells := 0, slots := 0, locals := 0 } : Room) (dC, dI) vC [(cI, .int), (cC, .char)] ([.ref (b 0), .int u1] : List Value) (wP b cI cC tx Fa Aa) sz (wP b cI cC tx F9 A9) r0 := by
  refine Met.ofW (cc := b_P_typeOf) (maxL := 2) (ret := (some .int)) (by decide) rfl ?_
  intro p e s m args below meth c s₁ B hml hv
  obtain ⟨rfl, hsz, hP, hK, hD0⟩ := hv
  have hx := B.exec
  have hb := B.bytes
  have hr := B.returns
  have hts := fun w h => atoms_spec (ws := (Cond.code y_P_typeOf b_P_typeOf 2 (some .int) :: wA)) B.pre w (List.mem_cons_of_mem _ h)
  have hown : s.vm.findClass R_P = some m.cls := findClass_of_methodNamed B.named
  have hlocks := B.notSynchronized
  subst hsz
  have hD := hD0.self (sz := s.heap.size)
  have hA : ∀ q : Nat, s.heap.size ≤ q → va_A (wP b cI cC tx Fa Aa) s.heap.size q := fun q h => Or.inr h
  have hS : va_S (va_A (wP b cI cC tx Fa Aa) s.heap.size) s.heap s.heap [] := va_S.rf
  have hl := lv_entry (([.ref (b 0), .int u1] : List Value)) (n := 2) (Nat.le_of_ble_eq_true rfl)
  have Z18 : ∀ (x1 : Int32) (F : ST_F) (A : ST_A) (H : Heap) (locs : List Loc) (ls : Array Slot), lv_has ls 2 [(0, .ref (b 0)), (1, .int x1)] → va_P (dC, dI) vC (wP b cI cC tx F A) H → va_D (va_A (wP b cI cC tx Fa Aa) s.heap.size) (wP b cI cC tx F A) → va_S (va_A (wP b cI cC tx Fa Aa) s.heap.size) s.heap H locs → f_P_typeOf_Z18 x1 F A = some (r0, F9, A9) → W p l e (headSpec (Cond.code y_P_typeOf b_P_typeOf 2 (some .int) :: wA) ({ frames := 0, cells := 0, slots := 0, locals := 0 } : Room)).room s m ([.ref (b 0), .int u1] : List Value).toArray below meth c H locs 0 0 (MQ below (cc_Qi (dC, dI) vC [(cI, .int), (cC, .char)] (wP b cI cC tx Fa Aa) s.heap.size (wP b cI cC tx F9 A9) r0) ([.ref (b 0), .int u1] : List Value).toArray s 0 0 (va_A (wP b cI cC tx Fa Aa) s.heap.size)) (F0 m 18 ls []) := by
    intro x1 F A H locs ls hl hP hD hS hf
    unfold f_P_typeOf_Z18 at hf
    refine lv_aload_n hx hb d_P_typeOf_18 rfl (lv_at hl 0 rfl) ?_
    refine va_get (D := (dC, dI)) (ci := 3) (v := .ref (b 8)) (C := R_P) (T := T_P) (N := 6) hx hb hts in_P hown hK hP 0 rfl rfl 2 (by decide) (hts _ mw_107) (fun _ h9 => h9) rfl d_P_typeOf_19 ?_
    refine va_get (D := (dC, dI)) (ci := 0) (v := .ref (b 13)) (C := R_K) (T := T_K) (N := 7) hx hb hts in_K hown hK hP 8 rfl rfl 4 (by decide) (hts _ mw_44) (fun _ h9 => h9) rfl d_P_typeOf_22 ?_
    refine lv_iload_n hx hb d_P_typeOf_25 rfl (lv_at hl 1 rfl) ?_
    obtain ⟨hi, hf⟩ := ra_g_some hf
    refine va_iald hx hb hK hP 13 0 rfl rfl hi d_P_typeOf_26 ?_
    cases hf
    exact W.iret hx hb hr (fun t ht hW => ⟨⟨_, (), rfl, rfl, by rw [ht]; exact hP, va_K.moved hW.alike hK, hD⟩, hS.F ht⟩) hS.2.2 d_P_typeOf_27
  rw [lg_entry_eq]
  generalize (lg_sl (([.ref (b 0), .int u1] : List Value)) ++ List.replicate (2 - (lg_sl (([.ref (b 0), .int u1] : List Value))).length) Slot.unset).toArray = ls at hl ⊢
  have hl : lv_has ls 2 [(0, .ref (b 0)), (1, .int u1)] := hl
  unfold f_P_typeOf at hf
  refine lv_iload_n hx hb d_P_typeOf_0 rfl (lv_at hl 1 rfl) ?_
  refine lv_if_lt (tgt := 10) hx hb d_P_typeOf_1 (by decide) (fun h1_1 => ?_) (fun h1_1 => ?_)
  · rw [if_pos h1_1] at hf
    cases hf
  · rw [if_neg h1_1] at hf
    refine lv_iload_n hx hb d_P_typeOf_4 rfl (lv_at hl 1 rfl) ?_
    refine lv_bipush (v := 26) hx hb d_P_typeOf_5 (by decide) ?_
    refine lv_icmp_lt (tgt := 18) hx hb d_P_typeOf_7 (by decide) (fun h7_2 => ?_) (fun h7_2 => ?_)
    · rw [if_pos h7_2] at hf
      have hf := ra_ok_some hf
      have hl : lv_has ls 2 [(0, .ref (b 0)), (1, .int u1)] := lv_sub hl [0, 1] rfl
      exact Z18 u1 Fa Aa _ _ _ hl hP hD hS hf
    · rw [if_neg h7_2] at hf
      cases hf
set_option maxHeartbeats 4000000 in
set_option maxRecDepth 100000 in
theorem t_P_typeOf_3 (l : Launch) (hfl : l.stackTraces = false) (dC : Nat → ClassId) (dI : Nat → Nat → Nat) (b : Nat → Nat) (cI cC : ClassId) (tx : Nat) (sz : Nat) (Fa : ST_F) (Aa : ST_A) (u1 : Int32) (hf : f_P_typeOf u1 Fa Aa = some (.inl 3)) : th_Met l y_P_typeOf (Cond.code y_P_typeOf b_P_typeOf 2 (some .int) :: wA) ({ frames := 8, cells := 1, slots := 6, locals := 120 } : Room) (va_Pc ([.ref (b 0), .int u1] : List Value) (th_Pre (dC, dI) vC [(cI, .int), (cC, .char)] (wP b cI cC tx Fa Aa) sz)) "java/lang/IndexOutOfBoundsException" 1 6 := by
  refine th_ofW (cc := b_P_typeOf) (maxL := 2) (ret := (some .int)) (by decide) rfl ?_
  intro p e s m args below meth c s₁ B hml hv
  obtain ⟨rfl, ⟨hsz, hP, hK, hD0⟩, B0, hZ⟩ := hv
  have hx := B.exec
  have hb := B.bytes
  have hr := B.returns
  have hts := fun w h => atoms_spec (ws := (Cond.code y_P_typeOf b_P_typeOf 2 (some .int) :: wA)) B.pre w (List.mem_cons_of_mem _ h)
  have hown : s.vm.findClass R_P = some m.cls := findClass_of_methodNamed B.named
  have hlocks := B.notSynchronized
  have hemp := BodyLoose.noHandlers B (atoms_spec (ws := (Cond.code y_P_typeOf b_P_typeOf 2 (some .int) :: wA)) B.pre _ List.mem_cons_self)
  subst hsz
  have hD := hD0.self (sz := s.heap.size)
  have hl := lv_entry (([.ref (b 0), .int u1] : List Value)) (n := 2) (Nat.le_of_ble_eq_true rfl)
  rw [lg_entry_eq]
  generalize (lg_sl (([.ref (b 0), .int u1] : List Value)) ++ List.replicate (2 - (lg_sl (([.ref (b 0), .int u1] : List Value))).length) Slot.unset).toArray = ls at hl ⊢
  have hl : lv_has ls 2 [(0, .ref (b 0)), (1, .int u1)] := hl
  unfold f_P_typeOf at hf
  refine lv_iload_n hx hb d_P_typeOf_0 rfl (lv_at hl 1 rfl) ?_
  refine lv_if_lt (tgt := 10) hx hb d_P_typeOf_1 (by decide) (fun h1_1 => ?_) (fun h1_1 => ?_)
  · rw [if_pos h1_1] at hf
    exact th_new (names := ["java/lang/RuntimeException", "java/lang/Exception"]) hx hb hlocks hfl hown (hts _ mw_391) (hts _ mw_392) (hts _ mw_13) (by decide +kernel) (by decide +kernel) (th_at3 hts hZ) (hl.1.trans hml.symm) hemp d_P_typeOf_10 d_P_typeOf_13 d_P_typeOf_14 d_P_typeOf_17 (Nat.le_of_ble_eq_true rfl) (Nat.le_of_ble_eq_true rfl) (Nat.le_of_ble_eq_true rfl) (Nat.le_of_ble_eq_true rfl)
  · rw [if_neg h1_1] at hf
    refine lv_iload_n hx hb d_P_typeOf_4 rfl (lv_at hl 1 rfl) ?_
    refine lv_bipush (v := 26) hx hb d_P_typeOf_5 (by decide) ?_
    refine lv_icmp_lt (tgt := 18) hx hb d_P_typeOf_7 (by decide) (fun h7_2 => ?_) (fun h7_2 => ?_)
    · rw [if_pos h7_2] at hf
      exact absurd hf (ra_ok_ne _ _)
    · rw [if_neg h7_2] at hf
      exact th_new (names := ["java/lang/RuntimeException", "java/lang/Exception"]) hx hb hlocks hfl hown (hts _ mw_391) (hts _ mw_392) (hts _ mw_13) (by decide +kernel) (by decide +kernel) (th_at3 hts hZ) (hl.1.trans hml.symm) hemp d_P_typeOf_10 d_P_typeOf_13 d_P_typeOf_14 d_P_typeOf_17 (Nat.le_of_ble_eq_true rfl) (Nat.le_of_ble_eq_true rfl) (Nat.le_of_ble_eq_true rfl) (Nat.le_of_ble_eq_true rfl)
def f_P_value_Z32 (x1 : Int32) (x2 : Int32) (x3 : Int32) (x4 : Int32) (x5 : Int32) (F : ST_F) (A : ST_A) : Option (Int32 × ST_F × ST_A) := ra_bv (f_H_work x2 x3 x4 x5 F A) (fun F4 A4 => ra_g x1 100 (some (((A4 2) x1.toNatClampNeg), F4, A4)))
def f_P_value (u1 : Int32) (u2 : Int32) (u3 : Int32) (u4 : Int32) (u5 : Int32) (Fa : ST_F) (Aa : ST_A) : Option (Sum Nat (Int32 × ST_F × ST_A)) := (f_P_isInstruction u1 Fa Aa).bind (fun r1 => if r1 = 0 then (some (.inl 3)) else (if (f_P_isColor u5) = 0 then (some (.inl 1)) else (ra_ok (f_P_value_Z32 u1 u2 u3 u4 u5 Fa Aa))))
set_option maxHeartbeats 4000000 in
set_option maxRecDepth 100000 in
theorem k_P_value (l : Launch) (dC : Nat → ClassId) (dI : Nat → Nat → Nat) (b : Nat → Nat) (cI cC : ClassId) (tx : Nat) (sz : Nat) (Fa : ST_F) (Aa : ST_A) (u1 : Int32) (u2 : Int32) (u3 : Int32) (u4 : Int32) (u5 : Int32) (r0 : Int32) (F9 : ST_F) (A9 : ST_A) (hf : f_P_value u1 u2 u3 u4 u5 Fa Aa = some (.inr (r0, F9, A9))) : cc_MetI l y_P_value (Cond.code y_P_value b_P_value 6 (some .int) :: wA) ({ frames := 5, cells := 0, slots := 0, locals := 113 } : Room) (dC, dI) vC [(cI, .int), (cC, .char)] ([.ref (b 0), .int u1, .int u2, .int u3, .int u4, .int u5] : List Value) (wP b cI cC tx Fa Aa) sz (wP b cI cC tx F9 A9) r0 := by
  refine Met.ofW (cc := b_P_value) (maxL := 6) (ret := (some .int)) (by decide) rfl ?_
  intro p e s m args below meth c s₁ B hml hv
  obtain ⟨rfl, hsz, hP, hK, hD0⟩ := hv
  have hx := B.exec
  have hb := B.bytes
  have hr := B.returns
  have hts := fun w h => atoms_spec (ws := (Cond.code y_P_value b_P_value 6 (some .int) :: wA)) B.pre w (List.mem_cons_of_mem _ h)
  have hown : s.vm.findClass R_P = some m.cls := findClass_of_methodNamed B.named
  have hlocks := B.notSynchronized
  subst hsz
  have hD := hD0.self (sz := s.heap.size)
  have hA : ∀ q : Nat, s.heap.size ≤ q → va_A (wP b cI cC tx Fa Aa) s.heap.size q := fun q h => Or.inr h
  have hS : va_S (va_A (wP b cI cC tx Fa Aa) s.heap.size) s.heap s.heap [] := va_S.rf
  have hl := lv_entry (([.ref (b 0), .int u1, .int u2, .int u3, .int u4, .int u5] : List Value)) (n := 6) (Nat.le_of_ble_eq_true rfl)
  have Z32 : ∀ (x1 : Int32) (x2 : Int32) (x3 : Int32) (x4 : Int32) (x5 : Int32) (F : ST_F) (A : ST_A) (H : Heap) (locs : List Loc) (ls : Array Slot), lv_has ls 6 [(0, .ref (b 0)), (1, .int x1), (2, .int x2), (3, .int x3), (4, .int x4), (5, .int x5)] → va_P (dC, dI) vC (wP b cI cC tx F A) H → va_D (va_A (wP b cI cC tx Fa Aa) s.heap.size) (wP b cI cC tx F A) → va_S (va_A (wP b cI cC tx Fa Aa) s.heap.size) s.heap H locs → f_P_value_Z32 x1 x2 x3 x4 x5 F A = some (r0, F9, A9) → W p l e (headSpec (Cond.code y_P_value b_P_value 6 (some .int) :: wA) ({ frames := 5, cells := 0, slots := 0, locals := 113 } : Room)).room s m ([.ref (b 0), .int u1, .int u2, .int u3, .int u4, .int u5] : List Value).toArray below meth c H locs 0 0 (MQ below (cc_Qi (dC, dI) vC [(cI, .int), (cC, .char)] (wP b cI cC tx Fa Aa) s.heap.size (wP b cI cC tx F9 A9) r0) ([.ref (b 0), .int u1, .int u2, .int u3, .int u4, .int u5] : List Value).toArray s 0 0 (va_A (wP b cI cC tx Fa Aa) s.heap.size)) (F0 m 32 ls []) := by
    intro x1 x2 x3 x4 x5 F A H locs ls hl hP hD hS hf
    unfold f_P_value_Z32 at hf
    refine lv_aload_n hx hb d_P_value_32 rfl (lv_at hl 0 rfl) ?_
    refine va_get (D := (dC, dI)) (ci := 3) (v := .ref (b 3)) (C := R_P) (T := T_P) (N := 6) hx hb hts in_P hown hK hP 0 rfl rfl 4 (by decide) (hts _ mw_109) (fun _ h9 => h9) rfl d_P_value_33 ?_
    refine lv_aload_n hx hb d_P_value_36 rfl (lv_at hl 0 rfl) ?_
    refine va_get (D := (dC, dI)) (ci := 3) (v := .ref (b 8)) (C := R_P) (T := T_P) (N := 6) hx hb hts in_P hown hK hP 0 rfl rfl 2 (by decide) (hts _ mw_107) (fun _ h9 => h9) rfl d_P_value_37 ?_
    refine lv_iload_n hx hb d_P_value_40 rfl (lv_at hl 2 rfl) ?_
    refine lv_iload_n hx hb d_P_value_41 rfl (lv_at hl 3 rfl) ?_
    refine lv_iload hx hb d_P_value_42 (lv_at hl 4 rfl) ?_
    refine lv_iload hx hb d_P_value_44 (lv_at hl 5 rfl) ?_
    have hP : va_P (dC, dI) vC (wP b cI cC tx F A) H := hP
    have hD : va_D (va_A (wP b cI cC tx Fa Aa) s.heap.size) (wP b cI cC tx F A) := hD
    obtain ⟨F4, A4, hc, hf⟩ := ra_bv_some hf
    refine cc_callv (va_runV (As := [.ref (b 8), .int x2, .int x3, .int x4, .int x5]) (rest := []) ⟨hx, hb, hml, hown, hts⟩ (k_H_work l dC dI b cI cC tx H.size F A x2 x3 x4 x5 F4 A4 hc) (cw_V 5 hts mw_435 mw_436 mw_437 mw_4 mw_438 rfl rfl rfl hd_H_work ⟨Nat.le_of_ble_eq_true rfl, Nat.le_of_ble_eq_true rfl⟩) (cc_preV hK hP hD rfl (q0 := 3) rfl) rfl rfl hl.1 rfl (lv_room (Nat.le_of_ble_eq_true rfl)) d_P_value_46 ⟨Nat.zero_le _, Nat.zero_le _⟩) hD hS hA (fun H locs hP hD hS => ?_)
    refine lv_aload_n hx hb d_P_value_49 rfl (lv_at hl 0 rfl) ?_
    refine va_get (D := (dC, dI)) (ci := 3) (v := .ref (b 3)) (C := R_P) (T := T_P) (N := 6) hx hb hts in_P hown hK hP 0 rfl rfl 4 (by decide) (hts _ mw_109) (fun _ h9 => h9) rfl d_P_value_50 ?_
    refine va_get (D := (dC, dI)) (ci := 2) (v := .ref (b 4)) (C := R_H) (T := T_H) (N := 2) hx hb hts in_H hown hK hP 3 rfl rfl 0 (by decide) (hts _ mw_98) (fun _ h9 => h9) rfl d_P_value_53 ?_
    refine lv_iload_n hx hb d_P_value_56 rfl (lv_at hl 1 rfl) ?_
    obtain ⟨hi, hf⟩ := ra_g_some hf
    refine va_iald hx hb hK hP 4 0 rfl rfl hi d_P_value_57 ?_
    cases hf
    exact W.iret hx hb hr (fun t ht hW => ⟨⟨_, (), rfl, rfl, by rw [ht]; exact hP, va_K.moved hW.alike hK, hD⟩, hS.F ht⟩) hS.2.2 d_P_value_58
  rw [lg_entry_eq]
  generalize (lg_sl (([.ref (b 0), .int u1, .int u2, .int u3, .int u4, .int u5] : List Value)) ++ List.replicate (6 - (lg_sl (([.ref (b 0), .int u1, .int u2, .int u3, .int u4, .int u5] : List Value))).length) Slot.unset).toArray = ls at hl ⊢
  have hl : lv_has ls 6 [(0, .ref (b 0)), (1, .int u1), (2, .int u2), (3, .int u3), (4, .int u4), (5, .int u5)] := hl
  unfold f_P_value at hf
  refine lv_aload_n hx hb d_P_value_0 rfl (lv_at hl 0 rfl) ?_
  refine lv_iload_n hx hb d_P_value_1 rfl (lv_at hl 1 rfl) ?_
  obtain ⟨r1, hc, hf⟩ := Option.bind_eq_some_iff.mp hf
  have hP : va_P (dC, dI) vC (wP b cI cC tx Fa Aa) s.heap := hP
  have hD : va_D (va_A (wP b cI cC tx Fa Aa) s.heap.size) (wP b cI cC tx Fa Aa) := hD
  refine cc_callr (va_runV (As := [.int u1]) (rest := []) ⟨hx, hb, hml, hown, hts⟩ (k_P_isInstruction l dC dI b cI cC tx s.heap.size Fa Aa u1 r1 hc) (cw_V 1 hts mw_387 mw_389 ms_P_isInstruction mw_1 mw_390 rfl rfl rfl hd_P_isInstruction ⟨Nat.le_of_ble_eq_true rfl, Nat.le_of_ble_eq_true rfl⟩) (cc_preV hK hP hD rfl (q0 := 0) rfl) rfl rfl hl.1 rfl (lv_room (Nat.le_of_ble_eq_true rfl)) d_P_value_2 ⟨Nat.zero_le _, Nat.zero_le _⟩) ?_
  refine lv_if_ne (tgt := 16) hx hb d_P_value_5 (by decide) (fun h5_2 => ?_) (fun h5_2 => ?_)
  · rw [if_neg h5_2] at hf
    refine lv_iload hx hb d_P_value_16 (lv_at hl 5 rfl) ?_
    refine cc_calls (va_runS (As := [.int u5]) (rest := []) ⟨hx, hb, hml, hown, hts⟩ (k_P_isColor l u5 _ rfl) (cw_S 1 hts mw_431 mw_432 mw_1 mw_433 rfl rfl hd_P_isColor ⟨Nat.le_of_ble_eq_true rfl, Nat.le_of_ble_eq_true rfl⟩) cc_preS rfl rfl hl.1 rfl (lv_room (Nat.le_of_ble_eq_true rfl)) d_P_value_18 ⟨Nat.zero_le _, Nat.zero_le _⟩) ?_
    refine lv_if_ne (tgt := 32) hx hb d_P_value_21 (by decide) (fun h21_3 => ?_) (fun h21_3 => ?_)
    · rw [if_neg h21_3] at hf
      have hf := ra_ok_some hf
      have hl : lv_has ls 6 [(0, .ref (b 0)), (1, .int u1), (2, .int u2), (3, .int u3), (4, .int u4), (5, .int u5)] := lv_sub hl [0, 1, 2, 3, 4, 5] rfl
      exact Z32 u1 u2 u3 u4 u5 Fa Aa _ _ _ hl hP hD hS hf
    · rw [if_pos h21_3] at hf
      cases hf
  · rw [if_pos h5_2] at hf
    cases hf
set_option maxHeartbeats 4000000 in
set_option maxRecDepth 100000 in
theorem t_P_value_3 (l : Launch) (hfl : l.stackTraces = false) (dC : Nat → ClassId) (dI : Nat → Nat → Nat) (b : Nat → Nat) (cI cC : ClassId) (tx : Nat) (sz : Nat) (Fa : ST_F) (Aa : ST_A) (u1 : Int32) (u2 : Int32) (u3 : Int32) (u4 : Int32) (u5 : Int32) (hf : f_P_value u1 u2 u3 u4 u5 Fa Aa = some (.inl 3)) : th_Met l y_P_value (Cond.code y_P_value b_P_value 6 (some .int) :: wA) ({ frames := 8, cells := 1, slots := 6, locals := 120 } : Room) (va_Pc ([.ref (b 0), .int u1, .int u2, .int u3, .int u4, .int u5] : List Value) (th_Pre (dC, dI) vC [(cI, .int), (cC, .char)] (wP b cI cC tx Fa Aa) sz)) "java/lang/IndexOutOfBoundsException" 1 6 := by
  refine th_ofW (cc := b_P_value) (maxL := 6) (ret := (some .int)) (by decide) rfl ?_
  intro p e s m args below meth c s₁ B hml hv
  obtain ⟨rfl, ⟨hsz, hP, hK, hD0⟩, B0, hZ⟩ := hv
  have hx := B.exec
  have hb := B.bytes
  have hr := B.returns
  have hts := fun w h => atoms_spec (ws := (Cond.code y_P_value b_P_value 6 (some .int) :: wA)) B.pre w (List.mem_cons_of_mem _ h)
  have hown : s.vm.findClass R_P = some m.cls := findClass_of_methodNamed B.named
  have hlocks := B.notSynchronized
  have hemp := BodyLoose.noHandlers B (atoms_spec (ws := (Cond.code y_P_value b_P_value 6 (some .int) :: wA)) B.pre _ List.mem_cons_self)
  subst hsz
  have hD := hD0.self (sz := s.heap.size)
  have hl := lv_entry (([.ref (b 0), .int u1, .int u2, .int u3, .int u4, .int u5] : List Value)) (n := 6) (Nat.le_of_ble_eq_true rfl)
  rw [lg_entry_eq]
  generalize (lg_sl (([.ref (b 0), .int u1, .int u2, .int u3, .int u4, .int u5] : List Value)) ++ List.replicate (6 - (lg_sl (([.ref (b 0), .int u1, .int u2, .int u3, .int u4, .int u5] : List Value))).length) Slot.unset).toArray = ls at hl ⊢
  have hl : lv_has ls 6 [(0, .ref (b 0)), (1, .int u1), (2, .int u2), (3, .int u3), (4, .int u4), (5, .int u5)] := hl
  unfold f_P_value at hf
  refine lv_aload_n hx hb d_P_value_0 rfl (lv_at hl 0 rfl) ?_
  refine lv_iload_n hx hb d_P_value_1 rfl (lv_at hl 1 rfl) ?_
  obtain ⟨r1, hc, hf⟩ := Option.bind_eq_some_iff.mp hf
  have hP : va_P (dC, dI) vC (wP b cI cC tx Fa Aa) s.heap := hP
  have hD : va_D (va_A (wP b cI cC tx Fa Aa) s.heap.size) (wP b cI cC tx Fa Aa) := hD
  refine cc_callr (va_runV (As := [.int u1]) (rest := []) ⟨hx, hb, hml, hown, hts⟩ (k_P_isInstruction l dC dI b cI cC tx s.heap.size Fa Aa u1 r1 hc) (cw_V 1 hts mw_387 mw_389 ms_P_isInstruction mw_1 mw_390 rfl rfl rfl hd_P_isInstruction ⟨Nat.le_of_ble_eq_true rfl, Nat.le_of_ble_eq_true rfl⟩) (cc_preV hK hP hD rfl (q0 := 0) rfl) rfl rfl hl.1 rfl (lv_room (Nat.le_of_ble_eq_true rfl)) d_P_value_2 ⟨Nat.zero_le _, Nat.zero_le _⟩) ?_
  refine lv_if_ne (tgt := 16) hx hb d_P_value_5 (by decide) (fun h5_2 => ?_) (fun h5_2 => ?_)
  · rw [if_neg h5_2] at hf
    refine lv_iload hx hb d_P_value_16 (lv_at hl 5 rfl) ?_
    refine cc_calls (va_runS (As := [.int u5]) (rest := []) ⟨hx, hb, hml, hown, hts⟩ (k_P_isColor l u5 _ rfl) (cw_S 1 hts mw_431 mw_432 mw_1 mw_433 rfl rfl hd_P_isColor ⟨Nat.le_of_ble_eq_true rfl, Nat.le_of_ble_eq_true rfl⟩) cc_preS rfl rfl hl.1 rfl (lv_room (Nat.le_of_ble_eq_true rfl)) d_P_value_18 ⟨Nat.zero_le _, Nat.zero_le _⟩) ?_
    refine lv_if_ne (tgt := 32) hx hb d_P_value_21 (by decide) (fun h21_3 => ?_) (fun h21_3 => ?_)
    · rw [if_neg h21_3] at hf
      exact absurd hf (ra_ok_ne _ _)
    · rw [if_pos h21_3] at hf
      exact absurd (Sum.inl.inj (Option.some.inj hf)) (by decide)
  · rw [if_pos h5_2] at hf
    exact th_new (names := ["java/lang/RuntimeException", "java/lang/Exception"]) hx hb hlocks hfl hown (hts _ mw_391) (hts _ mw_392) (hts _ mw_13) (by decide +kernel) (by decide +kernel) (th_at3 hts hZ) (hl.1.trans hml.symm) hemp d_P_value_8 d_P_value_11 d_P_value_12 d_P_value_15 (Nat.le_of_ble_eq_true rfl) (Nat.le_of_ble_eq_true rfl) (Nat.le_of_ble_eq_true rfl) (Nat.le_of_ble_eq_true rfl)
set_option maxHeartbeats 4000000 in
set_option maxRecDepth 100000 in
theorem t_P_value_1 (l : Launch) (hfl : l.stackTraces = false) (dC : Nat → ClassId) (dI : Nat → Nat → Nat) (b : Nat → Nat) (cI cC : ClassId) (tx : Nat) (sz : Nat) (Fa : ST_F) (Aa : ST_A) (u1 : Int32) (u2 : Int32) (u3 : Int32) (u4 : Int32) (u5 : Int32) (hf : f_P_value u1 u2 u3 u4 u5 Fa Aa = some (.inl 1)) : th_Met l y_P_value (Cond.code y_P_value b_P_value 6 (some .int) :: wA) ({ frames := 8, cells := 1, slots := 6, locals := 120 } : Room) (va_Pc ([.ref (b 0), .int u1, .int u2, .int u3, .int u4, .int u5] : List Value) (th_Pre (dC, dI) vC [(cI, .int), (cC, .char)] (wP b cI cC tx Fa Aa) sz)) "java/lang/IllegalArgumentException" 1 6 := by
  refine th_ofW (cc := b_P_value) (maxL := 6) (ret := (some .int)) (by decide) rfl ?_
  intro p e s m args below meth c s₁ B hml hv
  obtain ⟨rfl, ⟨hsz, hP, hK, hD0⟩, B0, hZ⟩ := hv
  have hx := B.exec
  have hb := B.bytes
  have hr := B.returns
  have hts := fun w h => atoms_spec (ws := (Cond.code y_P_value b_P_value 6 (some .int) :: wA)) B.pre w (List.mem_cons_of_mem _ h)
  have hown : s.vm.findClass R_P = some m.cls := findClass_of_methodNamed B.named
  have hlocks := B.notSynchronized
  have hemp := BodyLoose.noHandlers B (atoms_spec (ws := (Cond.code y_P_value b_P_value 6 (some .int) :: wA)) B.pre _ List.mem_cons_self)
  subst hsz
  have hD := hD0.self (sz := s.heap.size)
  have hl := lv_entry (([.ref (b 0), .int u1, .int u2, .int u3, .int u4, .int u5] : List Value)) (n := 6) (Nat.le_of_ble_eq_true rfl)
  rw [lg_entry_eq]
  generalize (lg_sl (([.ref (b 0), .int u1, .int u2, .int u3, .int u4, .int u5] : List Value)) ++ List.replicate (6 - (lg_sl (([.ref (b 0), .int u1, .int u2, .int u3, .int u4, .int u5] : List Value))).length) Slot.unset).toArray = ls at hl ⊢
  have hl : lv_has ls 6 [(0, .ref (b 0)), (1, .int u1), (2, .int u2), (3, .int u3), (4, .int u4), (5, .int u5)] := hl
  unfold f_P_value at hf
  refine lv_aload_n hx hb d_P_value_0 rfl (lv_at hl 0 rfl) ?_
  refine lv_iload_n hx hb d_P_value_1 rfl (lv_at hl 1 rfl) ?_
  obtain ⟨r1, hc, hf⟩ := Option.bind_eq_some_iff.mp hf
  have hP : va_P (dC, dI) vC (wP b cI cC tx Fa Aa) s.heap := hP
  have hD : va_D (va_A (wP b cI cC tx Fa Aa) s.heap.size) (wP b cI cC tx Fa Aa) := hD
  refine cc_callr (va_runV (As := [.int u1]) (rest := []) ⟨hx, hb, hml, hown, hts⟩ (k_P_isInstruction l dC dI b cI cC tx s.heap.size Fa Aa u1 r1 hc) (cw_V 1 hts mw_387 mw_389 ms_P_isInstruction mw_1 mw_390 rfl rfl rfl hd_P_isInstruction ⟨Nat.le_of_ble_eq_true rfl, Nat.le_of_ble_eq_true rfl⟩) (cc_preV hK hP hD rfl (q0 := 0) rfl) rfl rfl hl.1 rfl (lv_room (Nat.le_of_ble_eq_true rfl)) d_P_value_2 ⟨Nat.zero_le _, Nat.zero_le _⟩) ?_
  refine lv_if_ne (tgt := 16) hx hb d_P_value_5 (by decide) (fun h5_2 => ?_) (fun h5_2 => ?_)
  · rw [if_neg h5_2] at hf
    refine lv_iload hx hb d_P_value_16 (lv_at hl 5 rfl) ?_
    refine cc_calls (va_runS (As := [.int u5]) (rest := []) ⟨hx, hb, hml, hown, hts⟩ (k_P_isColor l u5 _ rfl) (cw_S 1 hts mw_431 mw_432 mw_1 mw_433 rfl rfl hd_P_isColor ⟨Nat.le_of_ble_eq_true rfl, Nat.le_of_ble_eq_true rfl⟩) cc_preS rfl rfl hl.1 rfl (lv_room (Nat.le_of_ble_eq_true rfl)) d_P_value_18 ⟨Nat.zero_le _, Nat.zero_le _⟩) ?_
    refine lv_if_ne (tgt := 32) hx hb d_P_value_21 (by decide) (fun h21_3 => ?_) (fun h21_3 => ?_)
    · rw [if_neg h21_3] at hf
      exact absurd hf (ra_ok_ne _ _)
    · rw [if_pos h21_3] at hf
      exact th_new (names := ["java/lang/RuntimeException", "java/lang/Exception"]) hx hb hlocks hfl hown (hts _ mw_301) (hts _ mw_302) (hts _ mw_9) (by decide +kernel) (by decide +kernel) (th_at1 hts hZ) (hl.1.trans hml.symm) hemp d_P_value_24 d_P_value_27 d_P_value_28 d_P_value_31 (Nat.le_of_ble_eq_true rfl) (Nat.le_of_ble_eq_true rfl) (Nat.le_of_ble_eq_true rfl) (Nat.le_of_ble_eq_true rfl)
  · rw [if_pos h5_2] at hf
    exact absurd (Sum.inl.inj (Option.some.inj hf)) (by decide)
def f_P_paint_Z31 (x1 : Int32) (x2 : Int32) (x3 : Int32) (F : ST_F) (A : ST_A) : Option (ST_F × ST_A) := ra_g ((x2 * (8 : Int32)) + x1) 32 (some (F, (va_up A 1 (upd (A 1) ((x2 * (8 : Int32)) + x1).toNatClampNeg x3))))
def f_P_paint (u1 : Int32) (u2 : Int32) (u3 : Int32) (Fa : ST_F) (Aa : ST_A) : Option (Sum Nat (ST_F × ST_A)) := if (f_P_isPoint u1 u2) = 0 then (some (.inl 3)) else (if (f_P_isColor u3) = 0 then (some (.inl 1)) else (ra_ok (f_P_paint_Z31 u1 u2 u3 Fa Aa)))
set_option maxHeartbeats 4000000 in
set_option maxRecDepth 100000 in
theorem k_P_paint (l : Launch) (dC : Nat → ClassId) (dI : Nat → Nat → Nat) (b : Nat → Nat) (cI cC : ClassId) (tx : Nat) (sz : Nat) (Fa : ST_F) (Aa : ST_A) (u1 : Int32) (u2 : Int32) (u3 : Int32) (F9 : ST_F) (A9 : ST_A) (hf : f_P_paint u1 u2 u3 Fa Aa = some (.inr (F9, A9))) : cc_MetV l y_P_paint (Cond.code y_P_paint b_P_paint 4 none :: wA) ({ frames := 1, cells := 0, slots := 0, locals := 21 } : Room) (dC, dI) vC [(cI, .int), (cC, .char)] ([.ref (b 0), .int u1, .int u2, .int u3] : List Value) (wP b cI cC tx Fa Aa) sz (wP b cI cC tx F9 A9) := by
  refine Met.ofW (cc := b_P_paint) (maxL := 4) (ret := none) (by decide) rfl ?_
  intro p e s m args below meth c s₁ B hml hv
  obtain ⟨rfl, hsz, hP, hK, hD0⟩ := hv
  have hx := B.exec
  have hb := B.bytes
  have hr := B.returns
  have hts := fun w h => atoms_spec (ws := (Cond.code y_P_paint b_P_paint 4 none :: wA)) B.pre w (List.mem_cons_of_mem _ h)
  have hown : s.vm.findClass R_P = some m.cls := findClass_of_methodNamed B.named
  have hlocks := B.notSynchronized
  subst hsz
  have hD := hD0.self (sz := s.heap.size)
  have hA : ∀ q : Nat, s.heap.size ≤ q → va_A (wP b cI cC tx Fa Aa) s.heap.size q := fun q h => Or.inr h
  have hS : va_S (va_A (wP b cI cC tx Fa Aa) s.heap.size) s.heap s.heap [] := va_S.rf
  have hl := lv_entry (([.ref (b 0), .int u1, .int u2, .int u3] : List Value)) (n := 4) (Nat.le_of_ble_eq_true rfl)
  have Z31 : ∀ (x1 : Int32) (x2 : Int32) (x3 : Int32) (F : ST_F) (A : ST_A) (H : Heap) (locs : List Loc) (ls : Array Slot), lv_has ls 4 [(0, .ref (b 0)), (1, .int x1), (2, .int x2), (3, .int x3)] → va_P (dC, dI) vC (wP b cI cC tx F A) H → va_D (va_A (wP b cI cC tx Fa Aa) s.heap.size) (wP b cI cC tx F A) → va_S (va_A (wP b cI cC tx Fa Aa) s.heap.size) s.heap H locs → f_P_paint_Z31 x1 x2 x3 F A = some (F9, A9) → W p l e (headSpec (Cond.code y_P_paint b_P_paint 4 none :: wA) ({ frames := 1, cells := 0, slots := 0, locals := 21 } : Room)).room s m ([.ref (b 0), .int u1, .int u2, .int u3] : List Value).toArray below meth c H locs 0 0 (MQ below (cc_Qv (dC, dI) vC [(cI, .int), (cC, .char)] (wP b cI cC tx Fa Aa) s.heap.size (wP b cI cC tx F9 A9)) ([.ref (b 0), .int u1, .int u2, .int u3] : List Value).toArray s 0 0 (va_A (wP b cI cC tx Fa Aa) s.heap.size)) (F0 m 31 ls []) := by
    intro x1 x2 x3 F A H locs ls hl hP hD hS hf
    unfold f_P_paint_Z31 at hf
    refine lv_aload_n hx hb d_P_paint_31 rfl (lv_at hl 0 rfl) ?_
    refine va_get (D := (dC, dI)) (ci := 3) (v := .ref (b 2)) (C := R_P) (T := T_P) (N := 6) hx hb hts in_P hown hK hP 0 rfl rfl 5 (by decide) (hts _ mw_110) (fun _ h9 => h9) rfl d_P_paint_32 ?_
    refine lv_iload_n hx hb d_P_paint_35 rfl (lv_at hl 2 rfl) ?_
    refine lv_bipush (v := 8) hx hb d_P_paint_36 (by decide) ?_
    refine lv_imul hx hb d_P_paint_38 ?_
    refine lv_iload_n hx hb d_P_paint_39 rfl (lv_at hl 1 rfl) ?_
    refine lv_iadd hx hb d_P_paint_40 ?_
    refine lv_iload_n hx hb d_P_paint_41 rfl (lv_at hl 3 rfl) ?_
    obtain ⟨hi, hf⟩ := ra_g_some hf
    refine va_iast hx hb hK hP hD hS 2 0 rfl rfl hi d_P_paint_42 (fun H locs hP hD hS => ?_)
    have hP : va_P (dC, dI) vC [((b 0), .inr (3, [.ref (b 1), .int (F 0), .ref (b 8), .ref (b 6), .ref (b 3), .ref (b 2)])), ((b 1), .inl (cC, 160, .inl (A 0))), ((b 2), .inl (cI, 32, .inl (upd (A 1) ((x2 * (8 : Int32)) + x1).toNatClampNeg x3))), ((b 3), .inr (2, [.ref (b 4), .ref (b 5)])), ((b 4), .inl (cI, 100, .inl (A 2))), ((b 5), .inl (cI, 6, .inl (A 3))), ((b 6), .inr (1, [.ref (b 7), .ref tx, .int (F 1), .int (F 2), .ref (b 14)])), ((b 7), .inl (cI, 26, .inl (A 4))), ((b 8), .inr (0, [.ref (b 9), .ref (b 10), .ref (b 11), .ref (b 12), .ref (b 13), .int (F 3), .int (F 4)])), ((b 9), .inl (cI, 100, .inl (A 5))), ((b 10), .inl (cI, 100, .inl (A 6))), ((b 11), .inl (cI, 100, .inl (A 7))), ((b 12), .inl (cI, 3, .inl (A 8))), ((b 13), .inl (cI, 26, .inl (A 9))), ((b 14), .inr (0, [.ref (b 15), .ref (b 16), .ref (b 17), .ref (b 18), .ref (b 19), .int (F 5), .int (F 6)])), ((b 15), .inl (cI, 100, .inl (A 10))), ((b 16), .inl (cI, 100, .inl (A 11))), ((b 17), .inl (cI, 100, .inl (A 12))), ((b 18), .inl (cI, 3, .inl (A 13))), ((b 19), .inl (cI, 26, .inl (A 14)))] H := hP
    have hD : va_D (va_A (wP b cI cC tx Fa Aa) s.heap.size) [((b 0), .inr (3, [.ref (b 1), .int (F 0), .ref (b 8), .ref (b 6), .ref (b 3), .ref (b 2)])), ((b 1), .inl (cC, 160, .inl (A 0))), ((b 2), .inl (cI, 32, .inl (upd (A 1) ((x2 * (8 : Int32)) + x1).toNatClampNeg x3))), ((b 3), .inr (2, [.ref (b 4), .ref (b 5)])), ((b 4), .inl (cI, 100, .inl (A 2))), ((b 5), .inl (cI, 6, .inl (A 3))), ((b 6), .inr (1, [.ref (b 7), .ref tx, .int (F 1), .int (F 2), .ref (b 14)])), ((b 7), .inl (cI, 26, .inl (A 4))), ((b 8), .inr (0, [.ref (b 9), .ref (b 10), .ref (b 11), .ref (b 12), .ref (b 13), .int (F 3), .int (F 4)])), ((b 9), .inl (cI, 100, .inl (A 5))), ((b 10), .inl (cI, 100, .inl (A 6))), ((b 11), .inl (cI, 100, .inl (A 7))), ((b 12), .inl (cI, 3, .inl (A 8))), ((b 13), .inl (cI, 26, .inl (A 9))), ((b 14), .inr (0, [.ref (b 15), .ref (b 16), .ref (b 17), .ref (b 18), .ref (b 19), .int (F 5), .int (F 6)])), ((b 15), .inl (cI, 100, .inl (A 10))), ((b 16), .inl (cI, 100, .inl (A 11))), ((b 17), .inl (cI, 100, .inl (A 12))), ((b 18), .inl (cI, 3, .inl (A 13))), ((b 19), .inl (cI, 26, .inl (A 14)))] := hD
    cases hf
    exact W.vret hx hb hr (fun t ht hW => ⟨⟨(), rfl, trivial, by rw [ht]; exact hP, va_K.moved hW.alike hK, hD⟩, hS.F ht⟩) hS.2.2 d_P_paint_43
  rw [lg_entry_eq]
  generalize (lg_sl (([.ref (b 0), .int u1, .int u2, .int u3] : List Value)) ++ List.replicate (4 - (lg_sl (([.ref (b 0), .int u1, .int u2, .int u3] : List Value))).length) Slot.unset).toArray = ls at hl ⊢
  have hl : lv_has ls 4 [(0, .ref (b 0)), (1, .int u1), (2, .int u2), (3, .int u3)] := hl
  unfold f_P_paint at hf
  refine lv_iload_n hx hb d_P_paint_0 rfl (lv_at hl 1 rfl) ?_
  refine lv_iload_n hx hb d_P_paint_1 rfl (lv_at hl 2 rfl) ?_
  refine cc_calls (va_runS (As := [.int u1, .int u2]) (rest := []) ⟨hx, hb, hml, hown, hts⟩ (k_P_isPoint l u1 u2 _ rfl) (cw_S 2 hts mw_473 mw_474 mw_1 mw_475 rfl rfl hd_P_isPoint ⟨Nat.le_of_ble_eq_true rfl, Nat.le_of_ble_eq_true rfl⟩) cc_preS rfl rfl hl.1 rfl (lv_room (Nat.le_of_ble_eq_true rfl)) d_P_paint_2 ⟨Nat.zero_le _, Nat.zero_le _⟩) ?_
  refine lv_if_ne (tgt := 16) hx hb d_P_paint_5 (by decide) (fun h5_1 => ?_) (fun h5_1 => ?_)
  · rw [if_neg h5_1] at hf
    refine lv_iload_n hx hb d_P_paint_16 rfl (lv_at hl 3 rfl) ?_
    refine cc_calls (va_runS (As := [.int u3]) (rest := []) ⟨hx, hb, hml, hown, hts⟩ (k_P_isColor l u3 _ rfl) (cw_S 1 hts mw_431 mw_432 mw_1 mw_433 rfl rfl hd_P_isColor ⟨Nat.le_of_ble_eq_true rfl, Nat.le_of_ble_eq_true rfl⟩) cc_preS rfl rfl hl.1 rfl (lv_room (Nat.le_of_ble_eq_true rfl)) d_P_paint_17 ⟨Nat.zero_le _, Nat.zero_le _⟩) ?_
    refine lv_if_ne (tgt := 31) hx hb d_P_paint_20 (by decide) (fun h20_2 => ?_) (fun h20_2 => ?_)
    · rw [if_neg h20_2] at hf
      have hf := ra_ok_some hf
      have hl : lv_has ls 4 [(0, .ref (b 0)), (1, .int u1), (2, .int u2), (3, .int u3)] := lv_sub hl [0, 1, 2, 3] rfl
      exact Z31 u1 u2 u3 Fa Aa _ _ _ hl hP hD hS hf
    · rw [if_pos h20_2] at hf
      cases hf
  · rw [if_pos h5_1] at hf
    cases hf
set_option maxHeartbeats 4000000 in
set_option maxRecDepth 100000 in
theorem t_P_paint_3 (l : Launch) (hfl : l.stackTraces = false) (dC : Nat → ClassId) (dI : Nat → Nat → Nat) (b : Nat → Nat) (cI cC : ClassId) (tx : Nat) (sz : Nat) (Fa : ST_F) (Aa : ST_A) (u1 : Int32) (u2 : Int32) (u3 : Int32) (hf : f_P_paint u1 u2 u3 Fa Aa = some (.inl 3)) : th_Met l y_P_paint (Cond.code y_P_paint b_P_paint 4 none :: wA) ({ frames := 8, cells := 1, slots := 6, locals := 120 } : Room) (va_Pc ([.ref (b 0), .int u1, .int u2, .int u3] : List Value) (th_Pre (dC, dI) vC [(cI, .int), (cC, .char)] (wP b cI cC tx Fa Aa) sz)) "java/lang/IndexOutOfBoundsException" 1 6 := by
  refine th_ofW (cc := b_P_paint) (maxL := 4) (ret := none) (by decide) rfl ?_
  intro p e s m args below meth c s₁ B hml hv
  obtain ⟨rfl, ⟨hsz, hP, hK, hD0⟩, B0, hZ⟩ := hv
  have hx := B.exec
  have hb := B.bytes
  have hr := B.returns
  have hts := fun w h => atoms_spec (ws := (Cond.code y_P_paint b_P_paint 4 none :: wA)) B.pre w (List.mem_cons_of_mem _ h)
  have hown : s.vm.findClass R_P = some m.cls := findClass_of_methodNamed B.named
  have hlocks := B.notSynchronized
  have hemp := BodyLoose.noHandlers B (atoms_spec (ws := (Cond.code y_P_paint b_P_paint 4 none :: wA)) B.pre _ List.mem_cons_self)
  subst hsz
  have hD := hD0.self (sz := s.heap.size)
  have hl := lv_entry (([.ref (b 0), .int u1, .int u2, .int u3] : List Value)) (n := 4) (Nat.le_of_ble_eq_true rfl)
  rw [lg_entry_eq]
  generalize (lg_sl (([.ref (b 0), .int u1, .int u2, .int u3] : List Value)) ++ List.replicate (4 - (lg_sl (([.ref (b 0), .int u1, .int u2, .int u3] : List Value))).length) Slot.unset).toArray = ls at hl ⊢
  have hl : lv_has ls 4 [(0, .ref (b 0)), (1, .int u1), (2, .int u2), (3, .int u3)] := hl
  unfold f_P_paint at hf
  refine lv_iload_n hx hb d_P_paint_0 rfl (lv_at hl 1 rfl) ?_
  refine lv_iload_n hx hb d_P_paint_1 rfl (lv_at hl 2 rfl) ?_
  refine cc_calls (va_runS (As := [.int u1, .int u2]) (rest := []) ⟨hx, hb, hml, hown, hts⟩ (k_P_isPoint l u1 u2 _ rfl) (cw_S 2 hts mw_473 mw_474 mw_1 mw_475 rfl rfl hd_P_isPoint ⟨Nat.le_of_ble_eq_true rfl, Nat.le_of_ble_eq_true rfl⟩) cc_preS rfl rfl hl.1 rfl (lv_room (Nat.le_of_ble_eq_true rfl)) d_P_paint_2 ⟨Nat.zero_le _, Nat.zero_le _⟩) ?_
  refine lv_if_ne (tgt := 16) hx hb d_P_paint_5 (by decide) (fun h5_1 => ?_) (fun h5_1 => ?_)
  · rw [if_neg h5_1] at hf
    refine lv_iload_n hx hb d_P_paint_16 rfl (lv_at hl 3 rfl) ?_
    refine cc_calls (va_runS (As := [.int u3]) (rest := []) ⟨hx, hb, hml, hown, hts⟩ (k_P_isColor l u3 _ rfl) (cw_S 1 hts mw_431 mw_432 mw_1 mw_433 rfl rfl hd_P_isColor ⟨Nat.le_of_ble_eq_true rfl, Nat.le_of_ble_eq_true rfl⟩) cc_preS rfl rfl hl.1 rfl (lv_room (Nat.le_of_ble_eq_true rfl)) d_P_paint_17 ⟨Nat.zero_le _, Nat.zero_le _⟩) ?_
    refine lv_if_ne (tgt := 31) hx hb d_P_paint_20 (by decide) (fun h20_2 => ?_) (fun h20_2 => ?_)
    · rw [if_neg h20_2] at hf
      exact absurd hf (ra_ok_ne _ _)
    · rw [if_pos h20_2] at hf
      exact absurd (Sum.inl.inj (Option.some.inj hf)) (by decide)
  · rw [if_pos h5_1] at hf
    exact th_new (names := ["java/lang/RuntimeException", "java/lang/Exception"]) hx hb hlocks hfl hown (hts _ mw_391) (hts _ mw_392) (hts _ mw_13) (by decide +kernel) (by decide +kernel) (th_at3 hts hZ) (hl.1.trans hml.symm) hemp d_P_paint_8 d_P_paint_11 d_P_paint_12 d_P_paint_15 (Nat.le_of_ble_eq_true rfl) (Nat.le_of_ble_eq_true rfl) (Nat.le_of_ble_eq_true rfl) (Nat.le_of_ble_eq_true rfl)
set_option maxHeartbeats 4000000 in
set_option maxRecDepth 100000 in
theorem t_P_paint_1 (l : Launch) (hfl : l.stackTraces = false) (dC : Nat → ClassId) (dI : Nat → Nat → Nat) (b : Nat → Nat) (cI cC : ClassId) (tx : Nat) (sz : Nat) (Fa : ST_F) (Aa : ST_A) (u1 : Int32) (u2 : Int32) (u3 : Int32) (hf : f_P_paint u1 u2 u3 Fa Aa = some (.inl 1)) : th_Met l y_P_paint (Cond.code y_P_paint b_P_paint 4 none :: wA) ({ frames := 8, cells := 1, slots := 6, locals := 120 } : Room) (va_Pc ([.ref (b 0), .int u1, .int u2, .int u3] : List Value) (th_Pre (dC, dI) vC [(cI, .int), (cC, .char)] (wP b cI cC tx Fa Aa) sz)) "java/lang/IllegalArgumentException" 1 6 := by
  refine th_ofW (cc := b_P_paint) (maxL := 4) (ret := none) (by decide) rfl ?_
  intro p e s m args below meth c s₁ B hml hv
  obtain ⟨rfl, ⟨hsz, hP, hK, hD0⟩, B0, hZ⟩ := hv
  have hx := B.exec
  have hb := B.bytes
  have hr := B.returns
  have hts := fun w h => atoms_spec (ws := (Cond.code y_P_paint b_P_paint 4 none :: wA)) B.pre w (List.mem_cons_of_mem _ h)
  have hown : s.vm.findClass R_P = some m.cls := findClass_of_methodNamed B.named
  have hlocks := B.notSynchronized
  have hemp := BodyLoose.noHandlers B (atoms_spec (ws := (Cond.code y_P_paint b_P_paint 4 none :: wA)) B.pre _ List.mem_cons_self)
  subst hsz
  have hD := hD0.self (sz := s.heap.size)
  have hl := lv_entry (([.ref (b 0), .int u1, .int u2, .int u3] : List Value)) (n := 4) (Nat.le_of_ble_eq_true rfl)
  rw [lg_entry_eq]
  generalize (lg_sl (([.ref (b 0), .int u1, .int u2, .int u3] : List Value)) ++ List.replicate (4 - (lg_sl (([.ref (b 0), .int u1, .int u2, .int u3] : List Value))).length) Slot.unset).toArray = ls at hl ⊢
  have hl : lv_has ls 4 [(0, .ref (b 0)), (1, .int u1), (2, .int u2), (3, .int u3)] := hl
  unfold f_P_paint at hf
  refine lv_iload_n hx hb d_P_paint_0 rfl (lv_at hl 1 rfl) ?_
  refine lv_iload_n hx hb d_P_paint_1 rfl (lv_at hl 2 rfl) ?_
  refine cc_calls (va_runS (As := [.int u1, .int u2]) (rest := []) ⟨hx, hb, hml, hown, hts⟩ (k_P_isPoint l u1 u2 _ rfl) (cw_S 2 hts mw_473 mw_474 mw_1 mw_475 rfl rfl hd_P_isPoint ⟨Nat.le_of_ble_eq_true rfl, Nat.le_of_ble_eq_true rfl⟩) cc_preS rfl rfl hl.1 rfl (lv_room (Nat.le_of_ble_eq_true rfl)) d_P_paint_2 ⟨Nat.zero_le _, Nat.zero_le _⟩) ?_
  refine lv_if_ne (tgt := 16) hx hb d_P_paint_5 (by decide) (fun h5_1 => ?_) (fun h5_1 => ?_)
  · rw [if_neg h5_1] at hf
    refine lv_iload_n hx hb d_P_paint_16 rfl (lv_at hl 3 rfl) ?_
    refine cc_calls (va_runS (As := [.int u3]) (rest := []) ⟨hx, hb, hml, hown, hts⟩ (k_P_isColor l u3 _ rfl) (cw_S 1 hts mw_431 mw_432 mw_1 mw_433 rfl rfl hd_P_isColor ⟨Nat.le_of_ble_eq_true rfl, Nat.le_of_ble_eq_true rfl⟩) cc_preS rfl rfl hl.1 rfl (lv_room (Nat.le_of_ble_eq_true rfl)) d_P_paint_17 ⟨Nat.zero_le _, Nat.zero_le _⟩) ?_
    refine lv_if_ne (tgt := 31) hx hb d_P_paint_20 (by decide) (fun h20_2 => ?_) (fun h20_2 => ?_)
    · rw [if_neg h20_2] at hf
      exact absurd hf (ra_ok_ne _ _)
    · rw [if_pos h20_2] at hf
      exact th_new (names := ["java/lang/RuntimeException", "java/lang/Exception"]) hx hb hlocks hfl hown (hts _ mw_301) (hts _ mw_302) (hts _ mw_9) (by decide +kernel) (by decide +kernel) (th_at1 hts hZ) (hl.1.trans hml.symm) hemp d_P_paint_23 d_P_paint_26 d_P_paint_27 d_P_paint_30 (Nat.le_of_ble_eq_true rfl) (Nat.le_of_ble_eq_true rfl) (Nat.le_of_ble_eq_true rfl) (Nat.le_of_ble_eq_true rfl)
  · rw [if_pos h5_1] at hf
    exact absurd (Sum.inl.inj (Option.some.inj hf)) (by decide)
def f_P_pixel_Z16 (x1 : Int32) (x2 : Int32) (F : ST_F) (A : ST_A) : Option (Int32 × ST_F × ST_A) := ra_g ((x2 * (8 : Int32)) + x1) 32 (some (((A 1) ((x2 * (8 : Int32)) + x1).toNatClampNeg), F, A))
def f_P_pixel (u1 : Int32) (u2 : Int32) (Fa : ST_F) (Aa : ST_A) : Option (Sum Nat (Int32 × ST_F × ST_A)) := if (f_P_isPoint u1 u2) = 0 then (some (.inl 3)) else (ra_ok (f_P_pixel_Z16 u1 u2 Fa Aa))
set_option maxHeartbeats 4000000 in
set_option maxRecDepth 100000 in
theorem k_P_pixel (l : Launch) (dC : Nat → ClassId) (dI : Nat → Nat → Nat) (b : Nat → Nat) (cI cC : ClassId) (tx : Nat) (sz : Nat) (Fa : ST_F) (Aa : ST_A) (u1 : Int32) (u2 : Int32) (r0 : Int32) (F9 : ST_F) (A9 : ST_A) (hf : f_P_pixel u1 u2 Fa Aa = some (.inr (r0, F9, A9))) : cc_MetI l y_P_pixel (Cond.code y_P_pixel b_P_pixel 3 (some .int) :: wA) ({ frames := 1, cells := 0, slots := 0, locals := 21 } : Room) (dC, dI) vC [(cI, .int), (cC, .char)] ([.ref (b 0), .int u1, .int u2] : List Value) (wP b cI cC tx Fa Aa) sz (wP b cI cC tx F9 A9) r0 := by
  refine Met.ofW (cc := b_P_pixel) (maxL := 3) (ret := (some .int)) (by decide) rfl ?_
  intro p e s m args below meth c s₁ B hml hv
  obtain ⟨rfl, hsz, hP, hK, hD0⟩ := hv
  have hx := B.exec
  have hb := B.bytes
  have hr := B.returns
  have hts := fun w h => atoms_spec (ws := (Cond.code y_P_pixel b_P_pixel 3 (some .int) :: wA)) B.pre w (List.mem_cons_of_mem _ h)
  have hown : s.vm.findClass R_P = some m.cls := findClass_of_methodNamed B.named
  have hlocks := B.notSynchronized
  subst hsz
  have hD := hD0.self (sz := s.heap.size)
  have hA : ∀ q : Nat, s.heap.size ≤ q → va_A (wP b cI cC tx Fa Aa) s.heap.size q := fun q h => Or.inr h
  have hS : va_S (va_A (wP b cI cC tx Fa Aa) s.heap.size) s.heap s.heap [] := va_S.rf
  have hl := lv_entry (([.ref (b 0), .int u1, .int u2] : List Value)) (n := 3) (Nat.le_of_ble_eq_true rfl)
  have Z16 : ∀ (x1 : Int32) (x2 : Int32) (F : ST_F) (A : ST_A) (H : Heap) (locs : List Loc) (ls : Array Slot), lv_has ls 3 [(0, .ref (b 0)), (1, .int x1), (2, .int x2)] → va_P (dC, dI) vC (wP b cI cC tx F A) H → va_D (va_A (wP b cI cC tx Fa Aa) s.heap.size) (wP b cI cC tx F A) → va_S (va_A (wP b cI cC tx Fa Aa) s.heap.size) s.heap H locs → f_P_pixel_Z16 x1 x2 F A = some (r0, F9, A9) → W p l e (headSpec (Cond.code y_P_pixel b_P_pixel 3 (some .int) :: wA) ({ frames := 1, cells := 0, slots := 0, locals := 21 } : Room)).room s m ([.ref (b 0), .int u1, .int u2] : List Value).toArray below meth c H locs 0 0 (MQ below (cc_Qi (dC, dI) vC [(cI, .int), (cC, .char)] (wP b cI cC tx Fa Aa) s.heap.size (wP b cI cC tx F9 A9) r0) ([.ref (b 0), .int u1, .int u2] : List Value).toArray s 0 0 (va_A (wP b cI cC tx Fa Aa) s.heap.size)) (F0 m 16 ls []) := by
    intro x1 x2 F A H locs ls hl hP hD hS hf
    unfold f_P_pixel_Z16 at hf
    refine lv_aload_n hx hb d_P_pixel_16 rfl (lv_at hl 0 rfl) ?_
    refine va_get (D := (dC, dI)) (ci := 3) (v := .ref (b 2)) (C := R_P) (T := T_P) (N := 6) hx hb hts in_P hown hK hP 0 rfl rfl 5 (by decide) (hts _ mw_110) (fun _ h9 => h9) rfl d_P_pixel_17 ?_
    refine lv_iload_n hx hb d_P_pixel_20 rfl (lv_at hl 2 rfl) ?_
    refine lv_bipush (v := 8) hx hb d_P_pixel_21 (by decide) ?_
    refine lv_imul hx hb d_P_pixel_23 ?_
    refine lv_iload_n hx hb d_P_pixel_24 rfl (lv_at hl 1 rfl) ?_
    refine lv_iadd hx hb d_P_pixel_25 ?_
    obtain ⟨hi, hf⟩ := ra_g_some hf
    refine va_iald hx hb hK hP 2 0 rfl rfl hi d_P_pixel_26 ?_
    cases hf
    exact W.iret hx hb hr (fun t ht hW => ⟨⟨_, (), rfl, rfl, by rw [ht]; exact hP, va_K.moved hW.alike hK, hD⟩, hS.F ht⟩) hS.2.2 d_P_pixel_27
  rw [lg_entry_eq]
  generalize (lg_sl (([.ref (b 0), .int u1, .int u2] : List Value)) ++ List.replicate (3 - (lg_sl (([.ref (b 0), .int u1, .int u2] : List Value))).length) Slot.unset).toArray = ls at hl ⊢
  have hl : lv_has ls 3 [(0, .ref (b 0)), (1, .int u1), (2, .int u2)] := hl
  unfold f_P_pixel at hf
  refine lv_iload_n hx hb d_P_pixel_0 rfl (lv_at hl 1 rfl) ?_
  refine lv_iload_n hx hb d_P_pixel_1 rfl (lv_at hl 2 rfl) ?_
  refine cc_calls (va_runS (As := [.int u1, .int u2]) (rest := []) ⟨hx, hb, hml, hown, hts⟩ (k_P_isPoint l u1 u2 _ rfl) (cw_S 2 hts mw_473 mw_474 mw_1 mw_475 rfl rfl hd_P_isPoint ⟨Nat.le_of_ble_eq_true rfl, Nat.le_of_ble_eq_true rfl⟩) cc_preS rfl rfl hl.1 rfl (lv_room (Nat.le_of_ble_eq_true rfl)) d_P_pixel_2 ⟨Nat.zero_le _, Nat.zero_le _⟩) ?_
  refine lv_if_ne (tgt := 16) hx hb d_P_pixel_5 (by decide) (fun h5_1 => ?_) (fun h5_1 => ?_)
  · rw [if_neg h5_1] at hf
    have hf := ra_ok_some hf
    have hl : lv_has ls 3 [(0, .ref (b 0)), (1, .int u1), (2, .int u2)] := lv_sub hl [0, 1, 2] rfl
    exact Z16 u1 u2 Fa Aa _ _ _ hl hP hD hS hf
  · rw [if_pos h5_1] at hf
    cases hf
set_option maxHeartbeats 4000000 in
set_option maxRecDepth 100000 in
theorem t_P_pixel_3 (l : Launch) (hfl : l.stackTraces = false) (dC : Nat → ClassId) (dI : Nat → Nat → Nat) (b : Nat → Nat) (cI cC : ClassId) (tx : Nat) (sz : Nat) (Fa : ST_F) (Aa : ST_A) (u1 : Int32) (u2 : Int32) (hf : f_P_pixel u1 u2 Fa Aa = some (.inl 3)) : th_Met l y_P_pixel (Cond.code y_P_pixel b_P_pixel 3 (some .int) :: wA) ({ frames := 8, cells := 1, slots := 6, locals := 120 } : Room) (va_Pc ([.ref (b 0), .int u1, .int u2] : List Value) (th_Pre (dC, dI) vC [(cI, .int), (cC, .char)] (wP b cI cC tx Fa Aa) sz)) "java/lang/IndexOutOfBoundsException" 1 6 := by
  refine th_ofW (cc := b_P_pixel) (maxL := 3) (ret := (some .int)) (by decide) rfl ?_
  intro p e s m args below meth c s₁ B hml hv
  obtain ⟨rfl, ⟨hsz, hP, hK, hD0⟩, B0, hZ⟩ := hv
  have hx := B.exec
  have hb := B.bytes
  have hr := B.returns
  have hts := fun w h => atoms_spec (ws := (Cond.code y_P_pixel b_P_pixel 3 (some .int) :: wA)) B.pre w (List.mem_cons_of_mem _ h)
  have hown : s.vm.findClass R_P = some m.cls := findClass_of_methodNamed B.named
  have hlocks := B.notSynchronized
  have hemp := BodyLoose.noHandlers B (atoms_spec (ws := (Cond.code y_P_pixel b_P_pixel 3 (some .int) :: wA)) B.pre _ List.mem_cons_self)
  subst hsz
  have hD := hD0.self (sz := s.heap.size)
  have hl := lv_entry (([.ref (b 0), .int u1, .int u2] : List Value)) (n := 3) (Nat.le_of_ble_eq_true rfl)
  rw [lg_entry_eq]
  generalize (lg_sl (([.ref (b 0), .int u1, .int u2] : List Value)) ++ List.replicate (3 - (lg_sl (([.ref (b 0), .int u1, .int u2] : List Value))).length) Slot.unset).toArray = ls at hl ⊢
  have hl : lv_has ls 3 [(0, .ref (b 0)), (1, .int u1), (2, .int u2)] := hl
  unfold f_P_pixel at hf
  refine lv_iload_n hx hb d_P_pixel_0 rfl (lv_at hl 1 rfl) ?_
  refine lv_iload_n hx hb d_P_pixel_1 rfl (lv_at hl 2 rfl) ?_
  refine cc_calls (va_runS (As := [.int u1, .int u2]) (rest := []) ⟨hx, hb, hml, hown, hts⟩ (k_P_isPoint l u1 u2 _ rfl) (cw_S 2 hts mw_473 mw_474 mw_1 mw_475 rfl rfl hd_P_isPoint ⟨Nat.le_of_ble_eq_true rfl, Nat.le_of_ble_eq_true rfl⟩) cc_preS rfl rfl hl.1 rfl (lv_room (Nat.le_of_ble_eq_true rfl)) d_P_pixel_2 ⟨Nat.zero_le _, Nat.zero_le _⟩) ?_
  refine lv_if_ne (tgt := 16) hx hb d_P_pixel_5 (by decide) (fun h5_1 => ?_) (fun h5_1 => ?_)
  · rw [if_neg h5_1] at hf
    exact absurd hf (ra_ok_ne _ _)
  · rw [if_pos h5_1] at hf
    exact th_new (names := ["java/lang/RuntimeException", "java/lang/Exception"]) hx hb hlocks hfl hown (hts _ mw_391) (hts _ mw_392) (hts _ mw_13) (by decide +kernel) (by decide +kernel) (th_at3 hts hZ) (hl.1.trans hml.symm) hemp d_P_pixel_8 d_P_pixel_11 d_P_pixel_12 d_P_pixel_15 (Nat.le_of_ble_eq_true rfl) (Nat.le_of_ble_eq_true rfl) (Nat.le_of_ble_eq_true rfl) (Nat.le_of_ble_eq_true rfl)
