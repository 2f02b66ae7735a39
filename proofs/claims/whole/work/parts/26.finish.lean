abbrev wC0 (a : Nat → Nat) (cI cC : ClassId) (tx : Nat) (F : ST_F) (A : ST_A) : va_W := [((a 0), .inr (1, [.ref (a 1), .ref tx, .int (F 0), .int (F 1), .ref (a 3)])), ((a 1), .inl (cI, 26, .inl (A 0))), ((a 2), .inl (cC, 160, .inl (A 1))), ((a 3), .inr (0, [.ref (a 4), .ref (a 5), .ref (a 6), .ref (a 7), .ref (a 8), .int (F 2), .int (F 3)])), ((a 4), .inl (cI, 100, .inl (A 2))), ((a 5), .inl (cI, 100, .inl (A 3))), ((a 6), .inl (cI, 100, .inl (A 4))), ((a 7), .inl (cI, 3, .inl (A 5))), ((a 8), .inl (cI, 26, .inl (A 6)))]
def f_C_finish_L29 : Nat → Int32 → Int32 → ST_F → ST_A → Option (ST_F × ST_A)
  | 0, _, _, _, _ => none
  | n + 1, x1, x2, F, A => if (26 : Int32) ≤ x2 then (some (F, A)) else (ra_g x2 26 (if ((A 0) x2.toNatClampNeg) = (-1 : Int32) then (ra_g x2 26 (f_C_finish_L29 n x1 (x2 + (1 : Int32)) F (va_up A 6 (upd (A 6) x2.toNatClampNeg (0 : Int32))))) else (ra_g x2 26 (ra_g x2 26 (f_C_finish_L29 n x1 (x2 + (1 : Int32)) F (va_up A 6 (upd (A 6) x2.toNatClampNeg (f_V_typeIn ((A 0) x2.toNatClampNeg)))))))))
def f_C_finish_L2 : Nat → Int32 → Int32 → ST_F → ST_A → Option (ST_F × ST_A)
  | 0, _, _, _, _ => none
  | n + 1, x1, x2, F, A => if (3 : Int32) ≤ x2 then (f_C_finish_L29 400 x1 (0 : Int32) F A) else (ra_g x2 3 (f_C_finish_L2 n x1 (x2 + (1 : Int32)) F (va_up A 5 (upd (A 5) x2.toNatClampNeg (f_V_number x1 x2)))))
def f_C_finish (u1 : Int32) (Fa : ST_F) (Aa : ST_A) : Option (ST_F × ST_A) := f_C_finish_L2 400 u1 (0 : Int32) Fa Aa
set_option maxHeartbeats 4000000 in
set_option maxRecDepth 100000 in
theorem k_C_finish (l : Launch) (dC : Nat → ClassId) (dI : Nat → Nat → Nat) (a : Nat → Nat) (cI cC : ClassId) (sz : Nat) (Fa : ST_F) (Aa : ST_A) (u1 : Int32) (F9 : ST_F) (A9 : ST_A) (hf : f_C_finish u1 Fa Aa = some (F9, A9)) : cc_MetV l y_C_finish (Cond.code y_C_finish b_C_finish 3 none :: wA) ({ frames := 1, cells := 0, slots := 0, locals := 21 } : Room) (dC, dI) vC [(cI, .int), (cC, .char)] ([.ref (a 0), .int u1] : List Value) (wC a cI cC Fa Aa) sz (wC a cI cC F9 A9) := by
  refine Met.ofW (cc := b_C_finish) (maxL := 3) (ret := none) (by decide) rfl ?_
  intro p e s m args below meth c s₁ B hml hv
  obtain ⟨rfl, hsz, hP, hK, hD0⟩ := hv
  have hx := B.exec
  have hb := B.bytes
  have hr := B.returns
  have hts := fun w h => atoms_spec (ws := (Cond.code y_C_finish b_C_finish 3 none :: wA)) B.pre w (List.mem_cons_of_mem _ h)
  have hown : s.vm.findClass R_C = some m.cls := findClass_of_methodNamed B.named
  have hlocks := B.notSynchronized
  subst hsz
  have hD := hD0.self (sz := s.heap.size)
  have hA : ∀ q : Nat, s.heap.size ≤ q → va_A (wC a cI cC Fa Aa) s.heap.size q := fun q h => Or.inr h
  have hS : va_S (va_A (wC a cI cC Fa Aa) s.heap.size) s.heap s.heap [] := va_S.rf
  have hl := lv_entry (([.ref (a 0), .int u1] : List Value)) (n := 3) (Nat.le_of_ble_eq_true rfl)
  have L29 : ∀ (n : Nat) (x1 : Int32) (x2 : Int32) (F : ST_F) (A : ST_A) (H : Heap) (locs : List Loc) (ls : Array Slot), lv_has ls 3 [(0, .ref (a 0)), (1, .int x1), (2, .int x2)] → va_P (dC, dI) vC (wC a cI cC F A) H → va_D (va_A (wC a cI cC Fa Aa) s.heap.size) (wC a cI cC F A) → va_S (va_A (wC a cI cC Fa Aa) s.heap.size) s.heap H locs → f_C_finish_L29 n x1 x2 F A = some (F9, A9) → W p l e (headSpec (Cond.code y_C_finish b_C_finish 3 none :: wA) ({ frames := 1, cells := 0, slots := 0, locals := 21 } : Room)).room s m ([.ref (a 0), .int u1] : List Value).toArray below meth c H locs 0 0 (MQ below (cc_Qv (dC, dI) vC [(cI, .int), (cC, .char)] (wC a cI cC Fa Aa) s.heap.size (wC a cI cC F9 A9)) ([.ref (a 0), .int u1] : List Value).toArray s 0 0 (va_A (wC a cI cC Fa Aa) s.heap.size)) (F0 m 29 ls []) := by
    intro n
    induction n with
    | zero => intro x1 x2 F A H locs ls hl hP hD hS hf; cases hf
    | succ n ih =>
      intro x1 x2 F A H locs ls hl hP hD hS hf
      rw [f_C_finish_L29] at hf
      refine lv_iload_n hx hb d_C_finish_29 rfl (lv_at hl 2 rfl) ?_
      refine lv_bipush (v := 26) hx hb d_C_finish_30 (by decide) ?_
      refine lv_icmp_ge (tgt := 73) hx hb d_C_finish_32 (by decide) (fun h32_2 => ?_) (fun h32_2 => ?_)
      · rw [if_pos h32_2] at hf
        cases hf
        exact W.vret hx hb hr (fun t ht hW => ⟨⟨(), rfl, trivial, by rw [ht]; exact hP, va_K.moved hW.alike hK, hD⟩, hS.F ht⟩) hS.2.2 d_C_finish_73
      · rw [if_neg h32_2] at hf
        refine lv_aload_n hx hb d_C_finish_35 rfl (lv_at hl 0 rfl) ?_
        refine va_get (D := (dC, dI)) (ci := 1) (v := .ref (a 3)) (C := R_C) (T := T_C) (N := 5) hx hb hts in_C hown hK hP 0 rfl rfl 4 (by decide) (hts _ mw_79) (fun _ h9 => h9) rfl d_C_finish_36 ?_
        refine va_get (D := (dC, dI)) (ci := 0) (v := .ref (a 8)) (C := R_K) (T := T_K) (N := 7) hx hb hts in_K hown hK hP 3 rfl rfl 4 (by decide) (hts _ mw_43) (fun _ h9 => h9) rfl d_C_finish_39 ?_
        refine lv_iload_n hx hb d_C_finish_42 rfl (lv_at hl 2 rfl) ?_
        refine lv_aload_n hx hb d_C_finish_43 rfl (lv_at hl 0 rfl) ?_
        refine va_get (D := (dC, dI)) (ci := 1) (v := .ref (a 1)) (C := R_C) (T := T_C) (N := 5) hx hb hts in_C hown hK hP 0 rfl rfl 0 (by decide) (hts _ mw_75) (fun _ h9 => h9) rfl d_C_finish_44 ?_
        refine lv_iload_n hx hb d_C_finish_47 rfl (lv_at hl 2 rfl) ?_
        obtain ⟨hi, hf⟩ := ra_g_some hf
        refine va_iald hx hb hK hP 1 0 rfl rfl hi d_C_finish_48 ?_
        refine lv_iconst (v := -1) hx hb d_C_finish_49 (by decide) ?_
        refine lv_icmp_ne (tgt := 57) hx hb d_C_finish_50 (by decide) (fun h50_3 => ?_) (fun h50_3 => ?_)
        · rw [if_neg h50_3] at hf
          refine lv_aload_n hx hb d_C_finish_57 rfl (lv_at hl 0 rfl) ?_
          refine va_get (D := (dC, dI)) (ci := 1) (v := .ref (a 1)) (C := R_C) (T := T_C) (N := 5) hx hb hts in_C hown hK hP 0 rfl rfl 0 (by decide) (hts _ mw_75) (fun _ h9 => h9) rfl d_C_finish_58 ?_
          refine lv_iload_n hx hb d_C_finish_61 rfl (lv_at hl 2 rfl) ?_
          obtain ⟨hi, hf⟩ := ra_g_some hf
          refine va_iald hx hb hK hP 1 0 rfl rfl hi d_C_finish_62 ?_
          refine cc_calls (va_runS (As := [.int ((A 0) x2.toNatClampNeg)]) (rest := [.int x2, .ref (a 8)]) ⟨hx, hb, hml, hown, hts⟩ (k_V_typeIn l ((A 0) x2.toNatClampNeg) _ rfl) (cw_S 1 hts mw_223 mw_224 mw_11 mw_225 rfl rfl hd_V_typeIn ⟨Nat.le_of_ble_eq_true rfl, Nat.le_of_ble_eq_true rfl⟩) cc_preS rfl rfl hl.1 rfl (lv_room (Nat.le_of_ble_eq_true rfl)) d_C_finish_63 ⟨Nat.zero_le _, Nat.zero_le _⟩) ?_
          obtain ⟨hi, hf⟩ := ra_g_some hf
          refine va_iast hx hb hK hP hD hS 8 0 rfl rfl hi d_C_finish_66 (fun H locs hP hD hS => ?_)
          have hP : va_P (dC, dI) vC [((a 0), .inr (1, [.ref (a 1), .ref (a 2), .int (F 0), .int (F 1), .ref (a 3)])), ((a 1), .inl (cI, 26, .inl (A 0))), ((a 2), .inl (cC, 160, .inl (A 1))), ((a 3), .inr (0, [.ref (a 4), .ref (a 5), .ref (a 6), .ref (a 7), .ref (a 8), .int (F 2), .int (F 3)])), ((a 4), .inl (cI, 100, .inl (A 2))), ((a 5), .inl (cI, 100, .inl (A 3))), ((a 6), .inl (cI, 100, .inl (A 4))), ((a 7), .inl (cI, 3, .inl (A 5))), ((a 8), .inl (cI, 26, .inl (upd (A 6) x2.toNatClampNeg (f_V_typeIn ((A 0) x2.toNatClampNeg)))))] H := hP
          have hD : va_D (va_A (wC a cI cC Fa Aa) s.heap.size) [((a 0), .inr (1, [.ref (a 1), .ref (a 2), .int (F 0), .int (F 1), .ref (a 3)])), ((a 1), .inl (cI, 26, .inl (A 0))), ((a 2), .inl (cC, 160, .inl (A 1))), ((a 3), .inr (0, [.ref (a 4), .ref (a 5), .ref (a 6), .ref (a 7), .ref (a 8), .int (F 2), .int (F 3)])), ((a 4), .inl (cI, 100, .inl (A 2))), ((a 5), .inl (cI, 100, .inl (A 3))), ((a 6), .inl (cI, 100, .inl (A 4))), ((a 7), .inl (cI, 3, .inl (A 5))), ((a 8), .inl (cI, 26, .inl (upd (A 6) x2.toNatClampNeg (f_V_typeIn ((A 0) x2.toNatClampNeg)))))] := hD
          refine lv_iinc (k := 2) (v := (x2 + (1 : Int32))) hx hb d_C_finish_67 hl rfl (by rfl) (by decide) rfl (fun ls hl => ?_)
          have hl : lv_has ls 3 [(2, .int (x2 + (1 : Int32))), (0, .ref (a 0)), (1, .int x1)] := hl
          refine lv_goto (tgt := 29) hx hb d_C_finish_70 (by decide) ?_
          have hl : lv_has ls 3 [(0, .ref (a 0)), (1, .int x1), (2, .int (x2 + (1 : Int32)))] := lv_sub hl [1, 2, 0] rfl
          exact ih x1 (x2 + (1 : Int32)) F (va_up A 6 (upd (A 6) x2.toNatClampNeg (f_V_typeIn ((A 0) x2.toNatClampNeg)))) _ _ _ hl hP hD hS hf
        · rw [if_pos h50_3] at hf
          refine lv_iconst (v := 0) hx hb d_C_finish_53 (by decide) ?_
          refine lv_goto (tgt := 66) hx hb d_C_finish_54 (by decide) ?_
          obtain ⟨hi, hf⟩ := ra_g_some hf
          refine va_iast hx hb hK hP hD hS 8 0 rfl rfl hi d_C_finish_66 (fun H locs hP hD hS => ?_)
          have hP : va_P (dC, dI) vC [((a 0), .inr (1, [.ref (a 1), .ref (a 2), .int (F 0), .int (F 1), .ref (a 3)])), ((a 1), .inl (cI, 26, .inl (A 0))), ((a 2), .inl (cC, 160, .inl (A 1))), ((a 3), .inr (0, [.ref (a 4), .ref (a 5), .ref (a 6), .ref (a 7), .ref (a 8), .int (F 2), .int (F 3)])), ((a 4), .inl (cI, 100, .inl (A 2))), ((a 5), .inl (cI, 100, .inl (A 3))), ((a 6), .inl (cI, 100, .inl (A 4))), ((a 7), .inl (cI, 3, .inl (A 5))), ((a 8), .inl (cI, 26, .inl (upd (A 6) x2.toNatClampNeg (0 : Int32))))] H := hP
          have hD : va_D (va_A (wC a cI cC Fa Aa) s.heap.size) [((a 0), .inr (1, [.ref (a 1), .ref (a 2), .int (F 0), .int (F 1), .ref (a 3)])), ((a 1), .inl (cI, 26, .inl (A 0))), ((a 2), .inl (cC, 160, .inl (A 1))), ((a 3), .inr (0, [.ref (a 4), .ref (a 5), .ref (a 6), .ref (a 7), .ref (a 8), .int (F 2), .int (F 3)])), ((a 4), .inl (cI, 100, .inl (A 2))), ((a 5), .inl (cI, 100, .inl (A 3))), ((a 6), .inl (cI, 100, .inl (A 4))), ((a 7), .inl (cI, 3, .inl (A 5))), ((a 8), .inl (cI, 26, .inl (upd (A 6) x2.toNatClampNeg (0 : Int32))))] := hD
          refine lv_iinc (k := 2) (v := (x2 + (1 : Int32))) hx hb d_C_finish_67 hl rfl (by rfl) (by decide) rfl (fun ls hl => ?_)
          have hl : lv_has ls 3 [(2, .int (x2 + (1 : Int32))), (0, .ref (a 0)), (1, .int x1)] := hl
          refine lv_goto (tgt := 29) hx hb d_C_finish_70 (by decide) ?_
          have hl : lv_has ls 3 [(0, .ref (a 0)), (1, .int x1), (2, .int (x2 + (1 : Int32)))] := lv_sub hl [1, 2, 0] rfl
          exact ih x1 (x2 + (1 : Int32)) F (va_up A 6 (upd (A 6) x2.toNatClampNeg (0 : Int32))) _ _ _ hl hP hD hS hf
  have L2 : ∀ (n : Nat) (x1 : Int32) (x2 : Int32) (F : ST_F) (A : ST_A) (H : Heap) (locs : List Loc) (ls : Array Slot), lv_has ls 3 [(0, .ref (a 0)), (1, .int x1), (2, .int x2)] → va_P (dC, dI) vC (wC a cI cC F A) H → va_D (va_A (wC a cI cC Fa Aa) s.heap.size) (wC a cI cC F A) → va_S (va_A (wC a cI cC Fa Aa) s.heap.size) s.heap H locs → f_C_finish_L2 n x1 x2 F A = some (F9, A9) → W p l e (headSpec (Cond.code y_C_finish b_C_finish 3 none :: wA) ({ frames := 1, cells := 0, slots := 0, locals := 21 } : Room)).room s m ([.ref (a 0), .int u1] : List Value).toArray below meth c H locs 0 0 (MQ below (cc_Qv (dC, dI) vC [(cI, .int), (cC, .char)] (wC a cI cC Fa Aa) s.heap.size (wC a cI cC F9 A9)) ([.ref (a 0), .int u1] : List Value).toArray s 0 0 (va_A (wC a cI cC Fa Aa) s.heap.size)) (F0 m 2 ls []) := by
    intro n
    induction n with
    | zero => intro x1 x2 F A H locs ls hl hP hD hS hf; cases hf
    | succ n ih =>
      intro x1 x2 F A H locs ls hl hP hD hS hf
      rw [f_C_finish_L2] at hf
      refine lv_iload_n hx hb d_C_finish_2 rfl (lv_at hl 2 rfl) ?_
      refine lv_iconst (v := 3) hx hb d_C_finish_3 (by decide) ?_
      refine lv_icmp_ge (tgt := 27) hx hb d_C_finish_4 (by decide) (fun h4_1 => ?_) (fun h4_1 => ?_)
      · rw [if_pos h4_1] at hf
        refine lv_iconst (v := 0) hx hb d_C_finish_27 (by decide) ?_
        refine lv_istore_n hx hb d_C_finish_28 rfl hl (by decide) rfl (fun ls hl => ?_)
        have hl : lv_has ls 3 [(2, .int (0 : Int32)), (0, .ref (a 0)), (1, .int x1)] := hl
        have hl : lv_has ls 3 [(0, .ref (a 0)), (1, .int x1), (2, .int (0 : Int32))] := lv_sub hl [1, 2, 0] rfl
        exact L29 400 x1 (0 : Int32) F A _ _ _ hl hP hD hS hf
      · rw [if_neg h4_1] at hf
        refine lv_aload_n hx hb d_C_finish_7 rfl (lv_at hl 0 rfl) ?_
        refine va_get (D := (dC, dI)) (ci := 1) (v := .ref (a 3)) (C := R_C) (T := T_C) (N := 5) hx hb hts in_C hown hK hP 0 rfl rfl 4 (by decide) (hts _ mw_79) (fun _ h9 => h9) rfl d_C_finish_8 ?_
        refine va_get (D := (dC, dI)) (ci := 0) (v := .ref (a 7)) (C := R_K) (T := T_K) (N := 7) hx hb hts in_K hown hK hP 3 rfl rfl 3 (by decide) (hts _ mw_40) (fun _ h9 => h9) rfl d_C_finish_11 ?_
        refine lv_iload_n hx hb d_C_finish_14 rfl (lv_at hl 2 rfl) ?_
        refine lv_iload_n hx hb d_C_finish_15 rfl (lv_at hl 1 rfl) ?_
        refine lv_iload_n hx hb d_C_finish_16 rfl (lv_at hl 2 rfl) ?_
        refine cc_calls (va_runS (As := [.int x1, .int x2]) (rest := [.int x2, .ref (a 7)]) ⟨hx, hb, hml, hown, hts⟩ (k_V_number l x1 x2 _ rfl) (cw_S 2 hts mw_226 mw_227 mw_11 mw_228 rfl rfl hd_V_number ⟨Nat.le_of_ble_eq_true rfl, Nat.le_of_ble_eq_true rfl⟩) cc_preS rfl rfl hl.1 rfl (lv_room (Nat.le_of_ble_eq_true rfl)) d_C_finish_17 ⟨Nat.zero_le _, Nat.zero_le _⟩) ?_
        obtain ⟨hi, hf⟩ := ra_g_some hf
        refine va_iast hx hb hK hP hD hS 7 0 rfl rfl hi d_C_finish_20 (fun H locs hP hD hS => ?_)
        have hP : va_P (dC, dI) vC [((a 0), .inr (1, [.ref (a 1), .ref (a 2), .int (F 0), .int (F 1), .ref (a 3)])), ((a 1), .inl (cI, 26, .inl (A 0))), ((a 2), .inl (cC, 160, .inl (A 1))), ((a 3), .inr (0, [.ref (a 4), .ref (a 5), .ref (a 6), .ref (a 7), .ref (a 8), .int (F 2), .int (F 3)])), ((a 4), .inl (cI, 100, .inl (A 2))), ((a 5), .inl (cI, 100, .inl (A 3))), ((a 6), .inl (cI, 100, .inl (A 4))), ((a 7), .inl (cI, 3, .inl (upd (A 5) x2.toNatClampNeg (f_V_number x1 x2)))), ((a 8), .inl (cI, 26, .inl (A 6)))] H := hP
        have hD : va_D (va_A (wC a cI cC Fa Aa) s.heap.size) [((a 0), .inr (1, [.ref (a 1), .ref (a 2), .int (F 0), .int (F 1), .ref (a 3)])), ((a 1), .inl (cI, 26, .inl (A 0))), ((a 2), .inl (cC, 160, .inl (A 1))), ((a 3), .inr (0, [.ref (a 4), .ref (a 5), .ref (a 6), .ref (a 7), .ref (a 8), .int (F 2), .int (F 3)])), ((a 4), .inl (cI, 100, .inl (A 2))), ((a 5), .inl (cI, 100, .inl (A 3))), ((a 6), .inl (cI, 100, .inl (A 4))), ((a 7), .inl (cI, 3, .inl (upd (A 5) x2.toNatClampNeg (f_V_number x1 x2)))), ((a 8), .inl (cI, 26, .inl (A 6)))] := hD
        refine lv_iinc (k := 2) (v := (x2 + (1 : Int32))) hx hb d_C_finish_21 hl rfl (by rfl) (by decide) rfl (fun ls hl => ?_)
        have hl : lv_has ls 3 [(2, .int (x2 + (1 : Int32))), (0, .ref (a 0)), (1, .int x1)] := hl
        refine lv_goto (tgt := 2) hx hb d_C_finish_24 (by decide) ?_
        have hl : lv_has ls 3 [(0, .ref (a 0)), (1, .int x1), (2, .int (x2 + (1 : Int32)))] := lv_sub hl [1, 2, 0] rfl
        exact ih x1 (x2 + (1 : Int32)) F (va_up A 5 (upd (A 5) x2.toNatClampNeg (f_V_number x1 x2))) _ _ _ hl hP hD hS hf
  rw [lg_entry_eq]
  generalize (lg_sl (([.ref (a 0), .int u1] : List Value)) ++ List.replicate (3 - (lg_sl (([.ref (a 0), .int u1] : List Value))).length) Slot.unset).toArray = ls at hl ⊢
  have hl : lv_has ls 3 [(0, .ref (a 0)), (1, .int u1)] := hl
  unfold f_C_finish at hf
  refine lv_iconst (v := 0) hx hb d_C_finish_0 (by decide) ?_
  refine lv_istore_n hx hb d_C_finish_1 rfl hl (by decide) rfl (fun ls hl => ?_)
  have hl : lv_has ls 3 [(2, .int (0 : Int32)), (0, .ref (a 0)), (1, .int u1)] := hl
  have hl : lv_has ls 3 [(0, .ref (a 0)), (1, .int u1), (2, .int (0 : Int32))] := lv_sub hl [1, 2, 0] rfl
  exact L2 400 u1 (0 : Int32) Fa Aa _ _ _ hl hP hD hS hf
def f_C_assignment  (Fa : ST_F) (Aa : ST_A) : Option (Int32 × ST_F × ST_A) := ra_bi (f_C_next  Fa Aa) (fun r1 F1 A1 => if (f_C_isVariable r1) = 0 then (some ((0 : Int32), (upd F1 1 ((F1 1) + (2 : Int32))), A1)) else (ra_bi (f_C_sumD 5 (0 : Int32) (upd F1 1 ((F1 1) + (2 : Int32))) A1) (fun r3 F3 A3 => if r3 = (-1 : Int32) then (some ((0 : Int32), F3, A3)) else (ra_bi (f_C_takes (59 : Int32) F3 A3) (fun r5 F5 A5 => if r5 = 0 then (some ((0 : Int32), F5, A5)) else (ra_g (r1 - (97 : Int32)) 26 (some ((1 : Int32), F5, (va_up A5 0 (upd (A5 0) (r1 - (97 : Int32)).toNatClampNeg r3))))))))))
set_option maxHeartbeats 4000000 in
set_option maxRecDepth 100000 in
theorem k_C_assignment (l : Launch) (dC : Nat → ClassId) (dI : Nat → Nat → Nat) (a : Nat → Nat) (cI cC : ClassId) (sz : Nat) (Fa : ST_F) (Aa : ST_A)  (r0 : Int32) (F9 : ST_F) (A9 : ST_A) (hf : f_C_assignment  Fa Aa = some (r0, F9, A9)) : cc_MetI l y_C_assignment (Cond.code y_C_assignment b_C_assignment 3 (some .boolean) :: wA) ({ frames := 97, cells := 0, slots := 0, locals := 4223 } : Room) (dC, dI) vC [(cI, .int), (cC, .char)] ([.ref (a 0)] : List Value) (wC a cI cC Fa Aa) sz (wC a cI cC F9 A9) r0 := by
  refine Met.ofW (cc := b_C_assignment) (maxL := 3) (ret := (some .boolean)) (by decide) rfl ?_
  intro p e s m args below meth c s₁ B hml hv
  obtain ⟨rfl, hsz, hP, hK, hD0⟩ := hv
  have hx := B.exec
  have hb := B.bytes
  have hr := B.returns
  have hts := fun w h => atoms_spec (ws := (Cond.code y_C_assignment b_C_assignment 3 (some .boolean) :: wA)) B.pre w (List.mem_cons_of_mem _ h)
  have hown : s.vm.findClass R_C = some m.cls := findClass_of_methodNamed B.named
  have hlocks := B.notSynchronized
  subst hsz
  have hD := hD0.self (sz := s.heap.size)
  have hA : ∀ q : Nat, s.heap.size ≤ q → va_A (wC a cI cC Fa Aa) s.heap.size q := fun q h => Or.inr h
  have hS : va_S (va_A (wC a cI cC Fa Aa) s.heap.size) s.heap s.heap [] := va_S.rf
  have hl := lv_entry (([.ref (a 0)] : List Value)) (n := 3) (Nat.le_of_ble_eq_true rfl)
  rw [lg_entry_eq]
  generalize (lg_sl (([.ref (a 0)] : List Value)) ++ List.replicate (3 - (lg_sl (([.ref (a 0)] : List Value))).length) Slot.unset).toArray = ls at hl ⊢
  have hl : lv_has ls 3 [(0, .ref (a 0))] := hl
  unfold f_C_assignment at hf
  refine lv_aload_n hx hb d_C_assignment_0 rfl (lv_at hl 0 rfl) ?_
  have hP : va_P (dC, dI) vC (wC a cI cC Fa Aa) s.heap := hP
  have hD : va_D (va_A (wC a cI cC Fa Aa) s.heap.size) (wC a cI cC Fa Aa) := hD
  obtain ⟨r1, F1, A1, hc, hf⟩ := ra_bi_some hf
  refine cc_calli (va_runV (As := []) (rest := []) ⟨hx, hb, hml, hown, hts⟩ (k_C_next l dC dI a cI cC s.heap.size Fa Aa  r1 F1 A1 hc) (cw_V 0 hts mw_155 mw_157 ms_C_next mw_3 mw_158 rfl rfl rfl hd_C_next ⟨Nat.le_of_ble_eq_true rfl, Nat.le_of_ble_eq_true rfl⟩) (cc_preV hK hP hD rfl (q0 := 0) rfl) rfl rfl hl.1 rfl (lv_room (Nat.le_of_ble_eq_true rfl)) d_C_assignment_1 ⟨Nat.zero_le _, Nat.zero_le _⟩) hD hS hA (fun H locs hP hD hS => ?_)
  refine lv_istore_n hx hb d_C_assignment_4 rfl hl (by decide) rfl (fun ls hl => ?_)
  have hl : lv_has ls 3 [(1, .int r1), (0, .ref (a 0))] := hl
  refine lv_aload_n hx hb d_C_assignment_5 rfl (lv_at hl 1 rfl) ?_
  refine lv_dup hx hb d_C_assignment_6 rfl ?_
  refine va_get (D := (dC, dI)) (ci := 1) (v := .int (F1 1)) (C := R_C) (T := T_C) (N := 5) hx hb hts in_C hown hK hP 0 rfl rfl 3 (by decide) (hts _ mw_78) (fun _ h9 => h9) rfl d_C_assignment_7 ?_
  refine lv_iconst (v := 2) hx hb d_C_assignment_10 (by decide) ?_
  refine lv_iadd hx hb d_C_assignment_11 ?_
  refine va_put (D := (dC, dI)) (ci := 1) (v := .int ((F1 1) + (2 : Int32))) (ty := .int) (C := R_C) (T := T_C) (N := 5) hx hb hts in_C ty_C ty_C_ok nm_C hown hK hP hD hS 0 rfl rfl 3 (by decide) (hts _ mw_78) (fun _ h9 => h9) rfl (by decide +kernel) rfl rfl (Nat.le_of_ble_eq_true rfl) d_C_assignment_12 (fun H locs hP hD hS => ?_)
  have hP : va_P (dC, dI) vC [((a 0), .inr (1, [.ref (a 1), .ref (a 2), .int (F1 0), .int ((F1 1) + (2 : Int32)), .ref (a 3)])), ((a 1), .inl (cI, 26, .inl (A1 0))), ((a 2), .inl (cC, 160, .inl (A1 1))), ((a 3), .inr (0, [.ref (a 4), .ref (a 5), .ref (a 6), .ref (a 7), .ref (a 8), .int (F1 2), .int (F1 3)])), ((a 4), .inl (cI, 100, .inl (A1 2))), ((a 5), .inl (cI, 100, .inl (A1 3))), ((a 6), .inl (cI, 100, .inl (A1 4))), ((a 7), .inl (cI, 3, .inl (A1 5))), ((a 8), .inl (cI, 26, .inl (A1 6)))] H := hP
  have hD : va_D (va_A (wC a cI cC Fa Aa) s.heap.size) [((a 0), .inr (1, [.ref (a 1), .ref (a 2), .int (F1 0), .int ((F1 1) + (2 : Int32)), .ref (a 3)])), ((a 1), .inl (cI, 26, .inl (A1 0))), ((a 2), .inl (cC, 160, .inl (A1 1))), ((a 3), .inr (0, [.ref (a 4), .ref (a 5), .ref (a 6), .ref (a 7), .ref (a 8), .int (F1 2), .int (F1 3)])), ((a 4), .inl (cI, 100, .inl (A1 2))), ((a 5), .inl (cI, 100, .inl (A1 3))), ((a 6), .inl (cI, 100, .inl (A1 4))), ((a 7), .inl (cI, 3, .inl (A1 5))), ((a 8), .inl (cI, 26, .inl (A1 6)))] := hD
  refine lv_iload_n hx hb d_C_assignment_15 rfl (lv_at hl 0 rfl) ?_
  refine cc_calls (va_runS (As := [.int r1]) (rest := []) ⟨hx, hb, hml, hown, hts⟩ (k_C_isVariable l r1 _ rfl) (cw_S 1 hts mw_159 mw_160 mw_3 mw_161 rfl rfl hd_C_isVariable ⟨Nat.le_of_ble_eq_true rfl, Nat.le_of_ble_eq_true rfl⟩) cc_preS rfl rfl hl.1 rfl (lv_room (Nat.le_of_ble_eq_true rfl)) d_C_assignment_16 ⟨Nat.zero_le _, Nat.zero_le _⟩) ?_
  refine lv_if_ne (tgt := 24) hx hb d_C_assignment_19 (by decide) (fun h19_2 => ?_) (fun h19_2 => ?_)
  · rw [if_neg h19_2] at hf
    refine lv_aload_n hx hb d_C_assignment_24 rfl (lv_at hl 1 rfl) ?_
    refine lv_iconst (v := 0) hx hb d_C_assignment_25 (by decide) ?_
    have hP : va_P (dC, dI) vC (wC a cI cC (upd F1 1 ((F1 1) + (2 : Int32))) A1) H := hP
    have hD : va_D (va_A (wC a cI cC Fa Aa) s.heap.size) (wC a cI cC (upd F1 1 ((F1 1) + (2 : Int32))) A1) := hD
    obtain ⟨r3, F3, A3, hc, hf⟩ := ra_bi_some hf
    refine cc_calli (va_runV (As := [.int (0 : Int32)]) (rest := []) ⟨hx, hb, hml, hown, hts⟩ (k_C_sumD l dC dI a cI cC 5 H.size (upd F1 1 ((F1 1) + (2 : Int32))) A1 (0 : Int32) r3 F3 A3 hc) (cw_V 1 hts mw_165 mw_167 ms_C_sum mw_3 mw_168 rfl rfl rfl hd_C_sum ⟨Nat.le_of_ble_eq_true rfl, Nat.le_of_ble_eq_true rfl⟩) (cc_preV hK hP hD rfl (q0 := 0) rfl) rfl rfl hl.1 rfl (lv_room (Nat.le_of_ble_eq_true rfl)) d_C_assignment_26 ⟨Nat.zero_le _, Nat.zero_le _⟩) hD hS hA (fun H locs hP hD hS => ?_)
    refine lv_istore_n hx hb d_C_assignment_29 rfl hl (by decide) rfl (fun ls hl => ?_)
    have hl : lv_has ls 3 [(2, .int r3), (1, .int r1), (0, .ref (a 0))] := hl
    refine lv_iload_n hx hb d_C_assignment_30 rfl (lv_at hl 0 rfl) ?_
    refine lv_iconst (v := -1) hx hb d_C_assignment_31 (by decide) ?_
    refine lv_icmp_eq (tgt := 44) hx hb d_C_assignment_32 (by decide) (fun h32_4 => ?_) (fun h32_4 => ?_)
    · rw [if_pos h32_4] at hf
      refine lv_iconst (v := 0) hx hb d_C_assignment_44 (by decide) ?_
      cases hf
      exact W.zret hx hb hr (by rfl) (fun t ht hW => ⟨⟨_, (), rfl, rfl, by rw [ht]; exact hP, va_K.moved hW.alike hK, hD⟩, hS.F ht⟩) hS.2.2 d_C_assignment_45
    · rw [if_neg h32_4] at hf
      refine lv_aload_n hx hb d_C_assignment_35 rfl (lv_at hl 2 rfl) ?_
      refine lv_bipush (v := 59) hx hb d_C_assignment_36 (by decide) ?_
      have hP : va_P (dC, dI) vC (wC a cI cC F3 A3) H := hP
      have hD : va_D (va_A (wC a cI cC Fa Aa) s.heap.size) (wC a cI cC F3 A3) := hD
      obtain ⟨r5, F5, A5, hc, hf⟩ := ra_bi_some hf
      refine cc_calli (va_runV (As := [.int (59 : Int32)]) (rest := []) ⟨hx, hb, hml, hown, hts⟩ (k_C_takes l dC dI a cI cC H.size F3 A3 (59 : Int32) r5 F5 A5 hc) (cw_V 1 hts mw_177 mw_179 ms_C_takes mw_3 mw_180 rfl rfl rfl hd_C_takes ⟨Nat.le_of_ble_eq_true rfl, Nat.le_of_ble_eq_true rfl⟩) (cc_preV hK hP hD rfl (q0 := 0) rfl) rfl rfl hl.1 rfl (lv_room (Nat.le_of_ble_eq_true rfl)) d_C_assignment_38 ⟨Nat.zero_le _, Nat.zero_le _⟩) hD hS hA (fun H locs hP hD hS => ?_)
      refine lv_if_ne (tgt := 46) hx hb d_C_assignment_41 (by decide) (fun h41_6 => ?_) (fun h41_6 => ?_)
      · rw [if_neg h41_6] at hf
        refine lv_aload_n hx hb d_C_assignment_46 rfl (lv_at hl 2 rfl) ?_
        refine va_get (D := (dC, dI)) (ci := 1) (v := .ref (a 1)) (C := R_C) (T := T_C) (N := 5) hx hb hts in_C hown hK hP 0 rfl rfl 0 (by decide) (hts _ mw_75) (fun _ h9 => h9) rfl d_C_assignment_47 ?_
        refine lv_iload_n hx hb d_C_assignment_50 rfl (lv_at hl 1 rfl) ?_
        refine lv_bipush (v := 97) hx hb d_C_assignment_51 (by decide) ?_
        refine lv_isub hx hb d_C_assignment_53 ?_
        refine lv_iload_n hx hb d_C_assignment_54 rfl (lv_at hl 0 rfl) ?_
        obtain ⟨hi, hf⟩ := ra_g_some hf
        refine va_iast hx hb hK hP hD hS 1 0 rfl rfl hi d_C_assignment_55 (fun H locs hP hD hS => ?_)
        have hP : va_P (dC, dI) vC [((a 0), .inr (1, [.ref (a 1), .ref (a 2), .int (F5 0), .int (F5 1), .ref (a 3)])), ((a 1), .inl (cI, 26, .inl (upd (A5 0) (r1 - (97 : Int32)).toNatClampNeg r3))), ((a 2), .inl (cC, 160, .inl (A5 1))), ((a 3), .inr (0, [.ref (a 4), .ref (a 5), .ref (a 6), .ref (a 7), .ref (a 8), .int (F5 2), .int (F5 3)])), ((a 4), .inl (cI, 100, .inl (A5 2))), ((a 5), .inl (cI, 100, .inl (A5 3))), ((a 6), .inl (cI, 100, .inl (A5 4))), ((a 7), .inl (cI, 3, .inl (A5 5))), ((a 8), .inl (cI, 26, .inl (A5 6)))] H := hP
        have hD : va_D (va_A (wC a cI cC Fa Aa) s.heap.size) [((a 0), .inr (1, [.ref (a 1), .ref (a 2), .int (F5 0), .int (F5 1), .ref (a 3)])), ((a 1), .inl (cI, 26, .inl (upd (A5 0) (r1 - (97 : Int32)).toNatClampNeg r3))), ((a 2), .inl (cC, 160, .inl (A5 1))), ((a 3), .inr (0, [.ref (a 4), .ref (a 5), .ref (a 6), .ref (a 7), .ref (a 8), .int (F5 2), .int (F5 3)])), ((a 4), .inl (cI, 100, .inl (A5 2))), ((a 5), .inl (cI, 100, .inl (A5 3))), ((a 6), .inl (cI, 100, .inl (A5 4))), ((a 7), .inl (cI, 3, .inl (A5 5))), ((a 8), .inl (cI, 26, .inl (A5 6)))] := hD
        refine lv_iconst (v := 1) hx hb d_C_assignment_56 (by decide) ?_
        cases hf
        exact W.zret hx hb hr (by rfl) (fun t ht hW => ⟨⟨_, (), rfl, rfl, by rw [ht]; exact hP, va_K.moved hW.alike hK, hD⟩, hS.F ht⟩) hS.2.2 d_C_assignment_57
      · rw [if_pos h41_6] at hf
        refine lv_iconst (v := 0) hx hb d_C_assignment_44 (by decide) ?_
        cases hf
        exact W.zret hx hb hr (by rfl) (fun t ht hW => ⟨⟨_, (), rfl, rfl, by rw [ht]; exact hP, va_K.moved hW.alike hK, hD⟩, hS.F ht⟩) hS.2.2 d_C_assignment_45
  · rw [if_pos h19_2] at hf
    refine lv_iconst (v := 0) hx hb d_C_assignment_22 (by decide) ?_
    cases hf
    exact W.zret hx hb hr (by rfl) (fun t ht hW => ⟨⟨_, (), rfl, rfl, by rw [ht]; exact hP, va_K.moved hW.alike hK, hD⟩, hS.F ht⟩) hS.2.2 d_C_assignment_23
