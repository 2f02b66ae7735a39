abbrev wC0 (a : Nat → Nat) (cI cC : ClassId) (tx : Nat) (F : ST_F) (A : ST_A) : va_W := [((a 0), .inr (1, [.ref (a 1), .ref tx, .int (F 0), .int (F 1), .ref (a 3)])), ((a 1), .inl (cI, 26, .inl (A 0))), ((a 2), .inl (cC, 160, .inl (A 1))), ((a 3), .inr (0, [.ref (a 4), .ref (a 5), .ref (a 6), .ref (a 7), .ref (a 8), .int (F 2), .int (F 3)])), ((a 4), .inl (cI, 100, .inl (A 2))), ((a 5), .inl (cI, 100, .inl (A 3))), ((a 6), .inl (cI, 100, .inl (A 4))), ((a 7), .inl (cI, 3, .inl (A 5))), ((a 8), .inl (cI, 26, .inl (A 6)))]
def f_C_finish_L29 : Nat → Int32 → Int32 → ST_F → ST_A → Option (ST_F × ST_A)
  | 0, _, _, _, _ => none
  | n + 1, x1, x2, F, A => if (26 : Int32) ≤ x2 then (some (F, A)) else (ra_g x2 26 (if ((A 0) x2.toNatClampNeg) = (-1 : Int32) then (ra_g x2 26 (f_C_finish_L29 n x1 (x2 + (1 : Int32)) F (va_up A 6 (upd (A 6) x2.toNatClampNeg (0 : Int32))))) else (ra_g x2 26 (ra_g x2 26 (f_C_finish_L29 n x1 (x2 + (1 : Int32)) F (va_up A 6 (upd (A 6) x2.toNatClampNeg (f_V_typeIn ((A 0) x2.toNatClampNeg)))))))))
def f_C_finish_L2 : Nat → Int32 → Int32 → ST_F → ST_A → Option (ST_F × ST_A)
  | 0, _, _, _, _ => none
  | n + 1, x1, x2, F, A => if (3 : Int32) ≤ x2 then (f_C_finish_L29 400 x1 (0 : Int32) F A) else (ra_g x2 3 (f_C_finish_L2 n x1 (x2 + (1 : Int32)) F (va_up A 5 (upd (A 5) x2.toNatClampNeg (f_V_number x1 x2)))))
def f_C_finish (u1 : Int32) (Fa : ST_F) (Aa : ST_A) : Option (ST_F × ST_A) := f_C_finish_L2 400 u1 (0 : Int32) Fa Aa
set_option maxHeartbeats 4000000 in
set_option maxRecDepth 100000 in
theorem k_C_finish (l : Launch) (dC : Nat → ClassId) (dI : Nat → Nat → Nat) (a : Nat → Nat) (cI cC : ClassId) (sz : Nat) (Fa : ST_F) (Aa : ST_A) (u1 : Int32) (F9 : ST_F) (A9 : ST_A) (hf : f_C_finish u1 Fa Aa = some (F9, A9)) : cc_MetV l y_C_finish (Cond.code y_C_finish b_C_finish 3 none :: wA) ({ frames := 1, cells := 0, slots := 0, locals := 21 } : Room) (dC, dI) vC [(cI, .int), (cC, .char)] ([.ref (a 0), .int u1] : List Value) (wC a cI cC Fa Aa) sz (wC a cI cC F9 A9) := by
  refine Met.ofW (cc := b_C_finish) (maxL := 3) (ret := none) (by decide) rfl ?_
  intro p e s m args below meth c s₁ B hml hv
  obtain ⟨rfl, hsz, hP, hK, hD0⟩ := hv
  have hx := B.exec
  have hb := B.bytes
  have hr := B.returns
  have hts := fun w h => atoms_spec (ws := (Cond.code y_C_finish b_C_finish 3 none :: wA)) B.pre w (List.mem_cons_of_mem _ h)
  have hown : s.vm.findClass R_C = some m.cls := findClass_of_methodNamed B.named
  have hlocks := B.notSynchronized
  subst hsz
  have hD := hD0.self (sz := s.heap.size)
  have hA : ∀ q : Nat, s.heap.size ≤ q → va_A (wC a cI cC Fa Aa) s.heap.size q := fun q h => Or.inr h
  have hS : va_S (va_A (wC a cI cC Fa Aa) s.heap.size) s.heap s.heap [] := va_S.rf
  have hl := lv_entry (([.ref (a 0), .int u1] : List Value)) (n := 3) (Nat.le_of_ble_eq_true rfl)
  have L29 : ∀ (n : Nat) (x1 : Int32) (x2 : Int32) (F : ST_F) (A : ST_A) (H : Heap) (locs : List Loc) (ls : Array Slot), lv_has ls 3 [(0, .ref (a 0)), (1, .int x1), (2, .int x2)] → va_P (dC, dI) vC (wC a cI cC F A) H → va_D (va_A (wC a cI cC Fa Aa) s.heap.size) (wC a cI cC F A) → va_S (va_A (wC a cI cC Fa Aa) s.heap.size) s.heap H locs → f_C_finish_L29 n x1 x2 F A = some (F9, A9) → W p l e (headSpec (Cond.code y_C_finish b_C_finish 3 none :: wA) ({ frames := 1, cells := 0, slots := 0, locals := 21 } : Room)).room s m ([.ref (a 0), .int u1] : List Value).toArray below meth c H locs 0 0 (MQ below (cc_Qv (dC, dI) vC [(cI, .int), (cC, .char)] (wC a cI cC Fa Aa) s.heap.size (wC a cI cC F9 A9)) ([.ref (a 0), .int u1] : List Value).toArray s 0 0 (va_A (wC a cI cC Fa Aa) s.heap.size)) (F0 m 29 ls []) := by
    intro n
    induction n with
    | zero => intro x1 x2 F A H locs ls hl hP hD hS hf; cases hf
    | succ n ih =>
      intro x1 x2 F A H locs ls hl hP hD hS hf
      rw [f_C_finish_L29] at hf
      refine lv_iload_n hx hb d_C_finish_29 rfl (lv_at hl 2 rfl) ?_
      refine lv_bipush (v := 26) hx hb d_C_finish_30 (by decide) ?_
      refine lv_icmp_ge (tgt := 73) hx hb d_C_finish_32 (by decide) (fun h32_2 => ?_) (fun h32_2 => ?_)
      · rw [if_pos h32_2] at hf
        cases hf
        exact W.vret hx hb hr (fun t ht hW => ⟨⟨(), rfl, trivial, by rw [ht]; exact hP, va_K.moved hW.alike hK, hD⟩, hS.F ht⟩) hS.2.2 d_C_finish_73
      · rw [if_neg h32_2] at hf
        refine lv_aload_n hx hb d_C_finish_35 rfl (lv_at hl 0 rfl) ?_
        refine va_get (D := (dC, dI)) (ci := 1) (v := .ref (a 3)) (C := R_C) (T := T_C) (N := 5) hx hb hts in_C hown hK hP 0 rfl rfl 4 (by decide) (hts _ mw_79) (fun _ h9 => h9) rfl d_C_finish_36 ?_
        refine va_get (D := (dC, dI)) (ci := 0) (v := .ref (a 8)) (C := R_K) (T := T_K) (N := 7) hx hb hts in_K hown hK hP 3 rfl rfl 4 (by decide) (hts _ mw_43) (fun _ h9 => h9) rfl d_C_finish_39 ?_
        refine lv_iload_n hx hb d_C_finish_42 rfl (lv_at hl 2 rfl) ?_
        refine lv_aload_n hx hb d_C_finish_43 rfl (lv_at hl 0 rfl) ?_
        refine va_get (D := (dC, dI)) (ci := 1) (v := .ref (a 1)) (C := R_C) (T := T_C) (N := 5) hx hb hts in_C hown hK hP 0 rfl rfl 0 (by decide) (hts _ mw_75) (fun _ h9 => h9) rfl d_C_finish_44 ?_
        refine lv_iload_n hx hb d_C_finish_47 rfl (lv_at hl 2 rfl) ?_
        obtain ⟨hi, hf⟩ := ra_g_some hf
        refine va_iald hx hb hK hP 1 0 rfl rfl hi d_C_finish_48 ?_
        refine lv_iconst (v := -1) hx hb d_C_finish_49 (by decide) ?_
        refine lv_icmp_ne (tgt := 57) hx hb d_C_finish_50 (by decide) (fun h50_3 => ?_) (fun h50_3 => ?_)
        · rw [if_neg h50_3] at hf
          refine lv_aload_n hx hb d_C_finish_57 rfl (lv_at hl 0 rfl) ?_
          refine va_get (D := (dC, dI)) (ci := 1) (v := .ref (a 1)) (C := R_C) (T := T_C) (N := 5) hx hb hts in_C hown hK hP 0 rfl rfl 0 (by decide) (hts _ mw_75) (fun _ h9 => h9) rfl d_C_finish_58 ?_
          refine lv_iload_n hx hb d_C_finish_61 rfl (lv_at hl 2 rfl) ?_
          obtain ⟨hi, hf⟩ := ra_g_some hf
          refine va_iald hx hb hK hP 1 0 rfl rfl hi d_C_finish_62 ?_
          refine cc_calls (va_runS (As := [.int ((A 0) x2.toNatClampNeg)]) (rest := [.int x2, .ref (a 8)]) ⟨hx, hb, hml, hown, hts⟩ (k_V_typeIn l ((A 0) x2.toNatClampNeg) _ rfl) (cw_S 1 hts mw_223 mw_224 mw_11 mw_225 rfl rfl hd_V_typeIn ⟨Nat.le_of_ble_eq_true rfl, Nat.le_of_ble_eq_true rfl⟩) cc_preS rfl rfl hl.1 rfl (lv_room (Nat.le_of_ble_eq_true rfl)) d_C_finish_63 ⟨Nat.zero_le _, Nat.zero_le _⟩) ?_
          obtain ⟨hi, hf⟩ := ra_g_some hf
          refine va_iast hx hb hK hP hD hS 8 0 rfl rfl hi d_C_finish_66 (fun H locs hP hD hS => ?_)
          have hP : va_P (dC, dI) vC [((a 0), .inr (1, [.ref (a 1), .ref (a 2), .int (F 0), .int (F 1), .ref (a 3)])), ((a 1), .inl (cI, 26, .inl (A 0))), ((a 2), .inl (cC, 160, .inl (A 1))), ((a 3), .inr (0, [.ref (a 4), .ref (a 5), .ref (a 6), .ref (a 7), .ref (a 8), .int (F 2), .int (F 3)])), ((a 4), .inl (cI, 100, .inl (A 2))), ((a 5), .inl (cI, 100, .inl (A 3))), ((a 6), .inl (cI, 100, .inl (A 4))), ((a 7), .inl (cI, 3, .inl (A 5))), ((a 8), .inl (cI, 26, .inl (upd (A 6) x2.toNatClampNeg (f_V_typeIn ((A 0) x2.toNatClampNeg)))))] H := hP
          have hD : va_D (va_A (wC a cI cC Fa Aa) s.heap.size) [((a 0), .inr (1, [.ref (a 1), .ref (a 2), .int (F 0), .int (F 1), .ref (a 3)])), ((a 1), .inl (cI, 26, .inl (A 0))), ((a 2), .inl (cC, 160, .inl (A 1))), ((a 3), .inr (0, [.ref (a 4), .ref (a 5), .ref (a 6), .ref (a 7), .ref (a 8), .int (F 2), .int (F 3)])), ((a 4), .inl (cI, 100, .inl (A 2))), ((a 5), .inl (cI, 100, .inl (A 3))), ((a 6), .inl (cI, 100, .inl (A 4))), ((a 7), .inl (cI, 3, .inl (A 5))), ((a 8), .inl (cI, 26, .inl (upd (A 6) x2.toNatClampNeg (f_V_typeIn ((A 0) x2.toNatClampNeg)))))] := hD
          refine lv_iinc (k := 2) (v := (x2 + (1 : Int32))) hx hb d_C_finish_67 hl rfl (by rfl) (by decide) rfl (fun ls hl => ?_)
          have hl : lv_has ls 3 [(2, .int (x2 + (1 : Int32))), (0, .ref (a 0)), (1, .int x1)] := hl
          refine lv_goto (tgt := 29) hx hb d_C_finish_70 (by decide) ?_
          have hl : lv_has ls 3 [(0, .ref (a 0)), (1, .int x1), (2, .int (x2 + (1 : Int32)))] := lv_sub hl [1, 2, 0] rfl
          exact ih x1 (x2 + (1 : Int32)) F (va_up A 6 (upd (A 6) x2.toNatClampNeg (f_V_typeIn ((A 0) x2.toNatClampNeg)))) _ _ _ hl hP hD hS hf
        · rw [if_pos h50_3] at hf
          refine lv_iconst (v := 0) hx hb d_C_finish_53 (by decide) ?_
          refine lv_goto (tgt := 66) hx hb d_C_finish_54 (by decide) ?_
          obtain ⟨hi, hf⟩ := ra_g_some hf
          refine va_iast hx hb hK hP hD hS 8 0 rfl rfl hi d_C_finish_66 (fun H locs hP hD hS => ?_)
          have hP : va_P (dC, dI) vC [((a 0), .inr (1, [.ref (a 1), .ref (a 2), .int (F 0), .int (F 1), .ref (a 3)])), ((a 1), .inl (cI, 26, .inl (A 0))), ((a 2), .inl (cC, 160, .inl (A 1))), ((a 3), .inr (0, [.ref (a 4), .ref (a 5), .ref (a 6), .ref (a 7), .ref (a 8), .int (F 2), .int (F 3)])), ((a 4), .inl (cI, 100, .inl (A 2))), ((a 5), .inl (cI, 100, .inl (A 3))), ((a 6), .inl (cI, 100, .inl (A 4))), ((a 7), .inl (cI, 3, .inl (A 5))), ((a 8), .inl (cI, 26, .inl (upd (A 6) x2.toNatClampNeg (0 : Int32))))] H := hP
          have hD : va_D (va_A (wC a cI cC Fa Aa) s.heap.size) [((a 0), .inr (1, [.ref (a 1), .ref (a 2), .int (F 0), .int (F 1), .ref (a 3)])), ((a 1), .inl (cI, 26, .inl (A 0))), ((a 2), .inl (cC, 160, .inl (A 1))), ((a 3), .inr (0, [.ref (a 4), .ref (a 5), .ref (a 6), .ref (a 7), .ref (a 8), .int (F 2), .int (F 3)])), ((a 4), .inl (cI, 100, .inl (A 2))), ((a 5), .inl (cI, 100, .inl (A 3))), ((a 6), .inl (cI, 100, .inl (A 4))), ((a 7), .inl (cI, 3, .inl (A 5))), ((a 8), .inl (cI, 26, .inl (upd (A 6) x2.toNatClampNeg (0 : Int32))))] := hD
          refine lv_iinc (k := 2) (v := (x2 + (1 : Int32))) hx hb d_C_finish_67 hl rfl (by rfl) (by decide) rfl (fun ls hl => ?_)
          have hl : lv_has ls 3 [(2, .int (x2 + (1 : Int32))), (0, .ref (a 0)), (1, .int x1)] := hl
          refine lv_goto (tgt := 29) hx hb d_C_finish_70 (by decide) ?_
          have hl : lv_has ls 3 [(0, .ref (a 0)), (1, .int x1), (2, .int (x2 + (1 : Int32)))] := lv_sub hl [1, 2, 0] rfl
          exact ih x1 (x2 + (1 : Int32)) F (va_up A 6 (upd (A 6) x2.toNatClampNeg (0 : Int32))) _ _ _ hl hP hD hS hf
  have L2 : ∀ (n : Nat) (x1 : Int32) (x2 : Int32) (F : ST_F) (A : ST_A) (H : Heap) (locs : List Loc) (ls : Array Slot), lv_has ls 3 [(0, .ref (a 0)), (1, .int x1), (2, .int x2)] → va_P (dC, dI) vC (wC a cI cC F A) H → va_D (va_A (wC a cI cC Fa Aa) s.heap.size) (wC a cI cC F A) → va_S (va_A (wC a cI cC Fa Aa) s.heap.size) s.heap H locs → f_C_finish_L2 n x1 x2 F A = some (F9, A9) → W p l e (headSpec (Cond.code y_C_finish b_C_finish 3 none :: wA) ({ frames := 1, cells := 0, slots := 0, locals := 21 } : Room)).room s m ([.ref (a 0), .int u1] : List Value).toArray below meth c H locs 0 0 (MQ below (cc_Qv (dC, dI) vC [(cI, .int), (cC, .char)] (wC a cI cC Fa Aa) s.heap.size (wC a cI cC F9 A9)) ([.ref (a 0), .int u1] : List Value).toArray s 0 0 (va_A (wC a cI cC Fa Aa) s.heap.size)) (F0 m 2 ls []) := by
    intro n
    induction n with
    | zero => intro x1 x2 F A H locs ls hl hP hD hS hf; cases hf
    | succ n ih =>
      intro x1 x2 F A H locs ls hl hP hD hS hf
      rw [f_C_finish_L2] at hf
      refine lv_iload_n hx hb d_C_finish_2 rfl (lv_at hl 2 rfl) ?_
      refine lv_iconst (v := 3) hx hb d_C_finish_3 (by decide) ?_
      refine lv_icmp_ge (tgt := 27) hx hb d_C_finish_4 (by decide) (fun h4_1 => ?_) (fun h4_1 => ?_)
      · rw [if_pos h4_1] at hf
        refine lv_iconst (v := 0) hx hb d_C_finish_27 (by decide) ?_
        refine lv_istore_n hx hb d_C_finish_28 rfl hl (by decide) rfl (fun ls hl => ?_)
        have hl : lv_has ls 3 [(2, .int (0 : Int32)), (0, .ref (a 0)), (1, .int x1)] := hl
        have hl : lv_has ls 3 [(0, .ref (a 0)), (1, .int x1), (2, .int (0 : Int32))] := lv_sub hl [1, 2, 0] rfl
        exact L29 400 x1 (0 : Int32) F A _ _ _ hl hP hD hS hf
      · rw [if_neg h4_1] at hf
        refine lv_aload_n hx hb d_C_finish_7 rfl (lv_at hl 0 rfl) ?_
        refine va_get (D := (dC, dI)) (ci := 1) (v := .ref (a 3)) (C := R_C) (T := T_C) (N := 5) hx hb hts in_C hown hK hP 0 rfl rfl 4 (by decide) (hts _ mw_79) (fun _ h9 => h9) rfl d_C_finish_8 ?_
        refine va_get (D := (dC, dI)) (ci := 0) (v := .ref (a 7)) (C := R_K) (T := T_K) (N := 7) hx hb hts in_K hown hK hP 3 rfl rfl 3 (by decide) (hts _ mw_40) (fun _ h9 => h9) rfl d_C_finish_11 ?_
        refine lv_iload_n hx hb d_C_finish_14 rfl (lv_at hl 2 rfl) ?_
        refine lv_iload_n hx hb d_C_finish_15 rfl (lv_at hl 1 rfl) ?_
        refine lv_iload_n hx hb d_C_finish_16 rfl (lv_at hl 2 rfl) ?_
        refine cc_calls (va_runS (As := [.int x1, .int x2]) (rest := [.int x2, .ref (a 7)]) ⟨hx, hb, hml, hown, hts⟩ (k_V_number l x1 x2 _ rfl) (cw_S 2 hts mw_226 mw_227 mw_11 mw_228 rfl rfl hd_V_number ⟨Nat.le_of_ble_eq_true rfl, Nat.le_of_ble_eq_true rfl⟩) cc_preS rfl rfl hl.1 rfl (lv_room (Nat.le_of_ble_eq_true rfl)) d_C_finish_17 ⟨Nat.zero_le _, Nat.zero_le _⟩) ?_
        obtain ⟨hi, hf⟩ := ra_g_some hf
        refine va_iast hx hb hK hP hD hS 7 0 rfl rfl hi d_C_finish_20 (fun H locs hP hD hS => ?_)
        have hP : va_P (dC, dI) vC [((a 0), .inr (1, [.ref (a 1), .ref (a 2), .int (F 0), .int (F 1), .ref (a 3)])), ((a 1), .inl (cI, 26, .inl (A 0))), ((a 2), .inl (cC, 160, .inl (A 1))), ((a 3), .inr (0, [.ref (a 4), .ref (a 5), .ref (a 6), .ref (a 7), .ref (a 8), .int (F 2), .int (F 3)])), ((a 4), .inl (cI, 100, .inl (A 2))), ((a 5), .inl (cI, 100, .inl (A 3))), ((a 6), .inl (cI, 100, .inl (A 4))), ((a 7), .inl (cI, 3, .inl (upd (A 5) x2.toNatClampNeg (f_V_number x1 x2)))), ((a 8), .inl (cI, 26, .inl (A 6)))] H := hP
        have hD : va_D (va_A (wC a cI cC Fa Aa) s.heap.size) [((a 0), .inr (1, [.ref (a 1), .ref (a 2), .int (F 0), .int (F 1), .ref (a 3)])), ((a 1), .inl (cI, 26, .inl (A 0))), ((a 2), .inl (cC, 160, .inl (A 1))), ((a 3), .inr (0, [.ref (a 4), .ref (a 5), .ref (a 6), .ref (a 7), .ref (a 8), .int (F 2), .int (F 3)])), ((a 4), .inl (cI, 100, .inl (A 2))), ((a 5), .inl (cI, 100, .inl (A 3))), ((a 6), .inl (cI, 100, .inl (A 4))), ((a 7), .inl (cI, 3, .inl (upd (A 5) x2.toNatClampNeg (f_V_number x1 x2)))), ((a 8), .inl (cI, 26, .inl (A 6)))] := hD
        refine lv_iinc (k := 2) (v := (x2 + (1 : Int32))) hx hb d_C_finish_21 hl rfl (by rfl) (by decide) rfl (fun ls hl => ?_)
        have hl : lv_has ls 3 [(2, .int (x2 + (1 : Int32))), (0, .ref (a 0)), (1, .int x1)] := hl
        refine lv_goto (tgt := 2) hx hb d_C_finish_24 (by decide) ?_
        have hl : lv_has ls 3 [(0, .ref (a 0)), (1, .int x1), (2, .int (x2 + (1 : Int32)))] := lv_sub hl [1, 2, 0] rfl
        exact ih x1 (x2 + (1 : Int32)) F (va_up A 5 (upd (A 5) x2.toNatClampNeg (f_V_number x1 x2))) _ _ _ hl hP hD hS hf
  rw [lg_entry_eq]
  generalize (lg_sl (([.ref (a 0), .int u1] : List Value)) ++ List.replicate (3 - (lg_sl (([.ref (a 0), .int u1] : List Value))).length) Slot.unset).toArray = ls at hl ⊢
  have hl : lv_has ls 3 [(0, .ref (a 0)), (1, .int u1)] := hl
  unfold f_C_finish at hf
  refine lv_iconst (v := 0) hx hb d_C_finish_0 (by decide) ?_
  refine lv_istore_n hx hb d_C_finish_1 rfl hl (by decide) rfl (fun ls hl => ?_)
  have hl : lv_has ls 3 [(2, .int (0 : Int32)), (0, .ref (a 0)), (1, .int u1)] := hl
  have hl : lv_has ls 3 [(0, .ref (a 0)), (1, .int u1), (2, .int (0 : Int32))] := lv_sub hl [1, 2, 0] rfl
  exact L2 400 u1 (0 : Int32) Fa Aa _ _ _ hl hP hD hS hf
def f_C_assignment  (Fa : ST_F) (Aa : ST_A) : Option (Int32 × ST_F × ST_A) := ra_bi (f_C_next  Fa Aa) (fun r1 F1 A1 => if (f_C_isVariable r1) = 0 then (some ((0 : Int32), (upd F1 1 ((F1 1) + (2 : Int32))), A1)) else (ra_bi (f_C_sumD 5 (0 : Int32) (upd F1 1 ((F1 1) + (2 : Int32))) A1) (fun r3 F3 A3 => if r3 = (-1 : Int32) then (some ((0 : Int32), F3, A3)) else (ra_bi (f_C_takes (59 : Int32) F3 A3) (fun r5 F5 A5 => if r5 = 0 then (some ((0 : Int32), F5, A5)) else (ra_g (r1 - (97 : Int32)) 26 (some ((1 : Int32), F5, (va_up A5 0 (upd (A5 0) (r1 - (97 : Int32)).toNatClampNeg r3))))))))))
set_option maxHeartbeats 4000000 in
set_option maxRecDepth 100000 in
theorem k_C_assignment (l : Launch) (dC : Nat → ClassId) (dI : Nat → Nat → Nat) (a : Nat → Nat) (cI cC : ClassId) (sz : Nat) (Fa : ST_F) (Aa : ST_A)  (r0 : Int32) (F9 : ST_F) (A9 : ST_A) (hf : f_C_assignment  Fa Aa = some (r0, F9, A9)) : cc_MetI l y_C_assignment (Cond.code y_C_assignment b_C_assignment 3 (some .boolean) :: wA) ({ frames := 97, cells := 0, slots := 0, locals := 4223 } : Room) (dC, dI) vC [(cI, .int), (cC, .char)] ([.ref (a 0)] : List Value) (wC a cI cC Fa Aa) sz (wC a cI cC F9 A9) r0 := by
  refine Met.ofW (cc := b_C_assignment) (maxL := 3) (ret := (some .boolean)) (by decide) rfl ?_
  intro p e s m args below meth c s₁ B hml hv
  obtain ⟨rfl, hsz, hP, hK, hD0⟩ := hv
  have hx := B.exec
  have hb := B.bytes
  have hr := B.returns
  have hts := fun w h => atoms_spec (ws := (Cond.code y_C_assignment b_C_assignment 3 (some .boolean) :: wA)) B.pre w (List.mem_cons_of_mem _ h)
  have hown : s.vm.findClass R_C = some m.cls := findClass_of_methodNamed B.named
  have hlocks := B.notSynchronized
  subst hsz
  have hD := hD0.self (sz := s.heap.size)
  have hA : ∀ q : Nat, s.heap.size ≤ q → va_A (wC a cI cC Fa Aa) s.heap.size q := fun q h => Or.inr h
  have hS : va_S (va_A (wC a cI cC Fa Aa) s.heap.size) s.heap s.heap [] := va_S.rf
  have hl := lv_entry (([.ref (a 0)] : List Value)) (n := 3) (Nat.le_of_ble_eq_true rfl)
  rw [lg_entry_eq]
  generalize (lg_sl (([.ref (a 0)] : List Value)) ++ List.replicate (3 - (lg_sl (([.ref (a 0)] : List Value))).length) Slot.unset).toArray = ls at hl ⊢
  have hl : lv_has ls 3 [(0, .ref (a 0))] := hl
  unfold f_C_assignment at hf
  refine lv_aload_n hx hb d_C_assignment_0 rfl (lv_at hl 0 rfl) ?_
  have hP : va_P (dC, dI) vC (wC a cI cC Fa Aa) s.heap := hP
  have hD : va_D (va_A (wC a cI cC Fa Aa) s.heap.size) (wC a cI cC Fa Aa) := hD
  obtain ⟨r1, F1, A1, hc, hf⟩ := ra_bi_some hf
  refine cc_calli (va_runV (As := []) (rest := []) ⟨hx, hb, hml, hown, hts⟩ (k_C_next l dC dI a cI cC s.heap.size Fa Aa  r1 F1 A1 hc) (cw_V 0 hts mw_155 mw_157 ms_C_next mw_3 mw_158 rfl rfl rfl hd_C_next ⟨Nat.le_of_ble_eq_true rfl, Nat.le_of_ble_eq_true rfl⟩) (cc_preV hK hP hD rfl (q0 := 0) rfl) rfl rfl hl.1 rfl (lv_room (Nat.le_of_ble_eq_true rfl)) d_C_assignment_1 ⟨Nat.zero_le _, Nat.zero_le _⟩) hD hS hA (fun H locs hP hD hS => ?_)
  refine lv_istore_n hx hb d_C_assignment_4 rfl hl (by decide) rfl (fun ls hl => ?_)
  have hl : lv_has ls 3 [(1, .int r1), (0, .ref (a 0))] := hl
  refine lv_aload_n hx hb d_C_assignment_5 rfl (lv_at hl 1 rfl) ?_
  refine lv_dup hx hb d_C_assignment_6 rfl ?_
  refine va_get (D := (dC, dI)) (ci := 1) (v := .int (F1 1)) (C := R_C) (T := T_C) (N := 5) hx hb hts in_C hown hK hP 0 rfl rfl 3 (by decide) (hts _ mw_78) (fun _ h9 => h9) rfl d_C_assignment_7 ?_
  refine lv_iconst (v := 2) hx hb d_C_assignment_10 (by decide) ?_
  refine lv_iadd hx hb d_C_assignment_11 ?_
  refine va_put (D := (dC, dI)) (ci := 1) (v := .int ((F1 1) + (2 : Int32))) (ty := .int) (C := R_C) (T := T_C) (N := 5) hx hb hts in_C ty_C ty_C_ok nm_C hown hK hP hD hS 0 rfl rfl 3 (by decide) (hts _ mw_78) (fun _ h9 => h9) rfl (by decide +kernel) rfl rfl (Nat.le_of_ble_eq_true rfl) d_C_assignment_12 (fun H locs hP hD hS => ?_)
  have hP : va_P (dC, dI) vC [((a 0), .inr (1, [.ref (a 1), .ref (a 2), .int (F1 0), .int ((F1 1) + (2 : Int32)), .ref (a 3)])), ((a 1), .inl (cI, 26, .inl (A1 0))), ((a 2), .inl (cC, 160, .inl (A1 1))), ((a 3), .inr (0, [.ref (a 4), .ref (a 5), .ref (a 6), .ref (a 7), .ref (a 8), .int (F1 2), .int (F1 3)])), ((a 4), .inl (cI, 100, .inl (A1 2))), ((a 5), .inl (cI, 100, .inl (A1 3))), ((a 6), .inl (cI, 100, .inl (A1 4))), ((a 7), .inl (cI, 3, .inl (A1 5))), ((a 8), .inl (cI, 26, .inl (A1 6)))] H := hP
  have hD : va_D (va_A (wC a cI cC Fa Aa) s.heap.size) [((a 0), .inr (1, [.ref (a 1), .ref (a 2), .int (F1 0), .int ((F1 1) + (2 : Int32)), .ref (a 3)])), ((a 1), .inl (cI, 26, .inl (A1 0))), ((a 2), .inl (cC, 160, .inl (A1 1))), ((a 3), .inr (0, [.ref (a 4), .ref (a 5), .ref (a 6), .ref (a 7), .ref (a 8), .int (F1 2), .int (F1 3)])), ((a 4), .inl (cI, 100, .inl (A1 2))), ((a 5), .inl (cI, 100, .inl (A1 3))), ((a 6), .inl (cI, 100, .inl (A1 4))), ((a 7), .inl (cI, 3, .inl (A1 5))), ((a 8), .inl (cI, 26, .inl (A1 6)))] := hD
  refine lv_iload_n hx hb d_C_assignment_15 rfl (lv_at hl 0 rfl) ?_
  refine cc_calls (va_runS (As := [.int r1]) (rest := []) ⟨hx, hb, hml, hown, hts⟩ (k_C_isVariable l r1 _ rfl) (cw_S 1 hts mw_159 mw_160 mw_3 mw_161 rfl rfl hd_C_isVariable ⟨Nat.le_of_ble_eq_true rfl, Nat.le_of_ble_eq_true rfl⟩) cc_preS rfl rfl hl.1 rfl (lv_room (Nat.le_of_ble_eq_true rfl)) d_C_assignment_16 ⟨Nat.zero_le _, Nat.zero_le _⟩) ?_
  refine lv_if_ne (tgt := 24) hx hb d_C_assignment_19 (by decide) (fun h19_2 => ?_) (fun h19_2 => ?_)
  · rw [if_neg h19_2] at hf
    refine lv_aload_n hx hb d_C_assignment_24 rfl (lv_at hl 1 rfl) ?_
    refine lv_iconst (v := 0) hx hb d_C_assignment_25 (by decide) ?_
    have hP : va_P (dC, dI) vC (wC a cI cC (upd F1 1 ((F1 1) + (2 : Int32))) A1) H := hP
    have hD : va_D (va_A (wC a cI cC Fa Aa) s.heap.size) (wC a cI cC (upd F1 1 ((F1 1) + (2 : Int32))) A1) := hD
    obtain ⟨r3, F3, A3, hc, hf⟩ := ra_bi_some hf
    refine cc_calli (va_runV (As := [.int (0 : Int32)]) (rest := []) ⟨hx, hb, hml, hown, hts⟩ (k_C_sumD l dC dI a cI cC 5 H.size (upd F1 1 ((F1 1) + (2 : Int32))) A1 (0 : Int32) r3 F3 A3 hc) (cw_V 1 hts mw_165 mw_167 ms_C_sum mw_3 mw_168 rfl rfl rfl hd_C_sum ⟨Nat.le_of_ble_eq_true rfl, Nat.le_of_ble_eq_true rfl⟩) (cc_preV hK hP hD rfl (q0 := 0) rfl) rfl rfl hl.1 rfl (lv_room (Nat.le_of_ble_eq_true rfl)) d_C_assignment_26 ⟨Nat.zero_le _, Nat.zero_le _⟩) hD hS hA (fun H locs hP hD hS => ?_)
    refine lv_istore_n hx hb d_C_assignment_29 rfl hl (by decide) rfl (fun ls hl => ?_)
    have hl : lv_has ls 3 [(2, .int r3), (1, .int r1), (0, .ref (a 0))] := hl
    refine lv_iload_n hx hb d_C_assignment_30 rfl (lv_at hl 0 rfl) ?_
    refine lv_iconst (v := -1) hx hb d_C_assignment_31 (by decide) ?_
    refine lv_icmp_eq (tgt := 44) hx hb d_C_assignment_32 (by decide) (fun h32_4 => ?_) (fun h32_4 => ?_)
    · rw [if_pos h32_4] at hf
      refine lv_iconst (v := 0) hx hb d_C_assignment_44 (by decide) ?_
      cases hf
      exact W.zret hx hb hr (by rfl) (fun t ht hW => ⟨⟨_, (), rfl, rfl, by rw [ht]; exact hP, va_K.moved hW.alike hK, hD⟩, hS.F ht⟩) hS.2.2 d_C_assignment_45
    · rw [if_neg h32_4] at hf
      refine lv_aload_n hx hb d_C_assignment_35 rfl (lv_at hl 2 rfl) ?_
      refine lv_bipush (v := 59) hx hb d_C_assignment_36 (by decide) ?_
      have hP : va_P (dC, dI) vC (wC a cI cC F3 A3) H := hP
      have hD : va_D (va_A (wC a cI cC Fa Aa) s.heap.size) (wC a cI cC F3 A3) := hD
      obtain ⟨r5, F5, A5, hc, hf⟩ := ra_bi_some hf
      refine cc_calli (va_runV (As := [.int (59 : Int32)]) (rest := []) ⟨hx, hb, hml, hown, hts⟩ (k_C_takes l dC dI a cI cC H.size F3 A3 (59 : Int32) r5 F5 A5 hc) (cw_V 1 hts mw_177 mw_179 ms_C_takes mw_3 mw_180 rfl rfl rfl hd_C_takes ⟨Nat.le_of_ble_eq_true rfl, Nat.le_of_ble_eq_true rfl⟩) (cc_preV hK hP hD rfl (q0 := 0) rfl) rfl rfl hl.1 rfl (lv_room (Nat.le_of_ble_eq_true rfl)) d_C_assignment_38 ⟨Nat.zero_le _, Nat.zero_le _⟩) hD hS hA (fun H locs hP hD hS => ?_)
      refine lv_if_ne (tgt := 46) hx hb d_C_assignment_41 (by decide) (fun h41_6 => ?_) (fun h41_6 => ?_)
      · rw [if_neg h41_6] at hf
        refine lv_aload_n hx hb d_C_assignment_46 rfl (lv_at hl 2 rfl) ?_
        refine va_get (D := (dC, dI)) (ci := 1) (v := .ref (a 1)) (C := R_C) (T := T_C) (N := 5) hx hb hts in_C hown hK hP 0 rfl rfl 0 (by decide) (hts _ mw_75) (fun _ h9 => h9) rfl d_C_assignment_47 ?_
        refine lv_iload_n hx hb d_C_assignment_50 rfl (lv_at hl 1 rfl) ?_
        refine lv_bipush (v := 97) hx hb d_C_assignment_51 (by decide) ?_
        refine lv_isub hx hb d_C_assignment_53 ?_
        refine lv_iload_n hx hb d_C_assignment_54 rfl (lv_at hl 0 rfl) ?_
        obtain ⟨hi, hf⟩ := ra_g_some hf
        refine va_iast hx hb hK hP hD hS 1 0 rfl rfl hi d_C_assignment_55 (fun H locs hP hD hS => ?_)
        have hP : va_P (dC, dI) vC [((a 0), .inr (1, [.ref (a 1), .ref (a 2), .int (F5 0), .int (F5 1), .ref (a 3)])), ((a 1), .inl (cI, 26, .inl (upd (A5 0) (r1 - (97 : Int32)).toNatClampNeg r3))), ((a 2), .inl (cC, 160, .inl (A5 1))), ((a 3), .inr (0, [.ref (a 4), .ref (a 5), .ref (a 6), .ref (a 7), .ref (a 8), .int (F5 2), .int (F5 3)])), ((a 4), .inl (cI, 100, .inl (A5 2))), ((a 5), .inl (cI, 100, .inl (A5 3))), ((a 6), .inl (cI, 100, .inl (A5 4))), ((a 7), .inl (cI, 3, .inl (A5 5))), ((a 8), .inl (cI, 26, .inl (A5 6)))] H := hP
        have hD : va_D (va_A (wC a cI cC Fa Aa) s.heap.size) [((a 0), .inr (1, [.ref (a 1), .ref (a 2), .int (F5 0), .int (F5 1), .ref (a 3)])), ((a 1), .inl (cI, 26, .inl (upd (A5 0) (r1 - (97 : Int32)).toNatClampNeg r3))), ((a 2), .inl (cC, 160, .inl (A5 1))), ((a 3), .inr (0, [.ref (a 4), .ref (a 5), .ref (a 6), .ref (a 7), .ref (a 8), .int (F5 2), .int (F5 3)])), ((a 4), .inl (cI, 100, .inl (A5 2))), ((a 5), .inl (cI, 100, .inl (A5 3))), ((a 6), .inl (cI, 100, .inl (A5 4))), ((a 7), .inl (cI, 3, .inl (A5 5))), ((a 8), .inl (cI, 26, .inl (A5 6)))] := hD
        refine lv_iconst (v := 1) hx hb d_C_assignment_56 (by decide) ?_
        cases hf
        exact W.zret hx hb hr (by rfl) (fun t ht hW => ⟨⟨_, (), rfl, rfl, by rw [ht]; exact hP, va_K.moved hW.alike hK, hD⟩, hS.F ht⟩) hS.2.2 d_C_assignment_57
      · rw [if_pos h41_6] at hf
        refine lv_iconst (v := 0) hx hb d_C_assignment_44 (by decide) ?_
        cases hf
        exact W.zret hx hb hr (by rfl) (fun t ht hW => ⟨⟨_, (), rfl, rfl, by rw [ht]; exact hP, va_K.moved hW.alike hK, hD⟩, hS.F ht⟩) hS.2.2 d_C_assignment_45
  · rw [if_pos h19_2] at hf
    refine lv_iconst (v := 0) hx hb d_C_assignment_22 (by decide) ?_
    cases hf
    exact W.zret hx hb hr (by rfl) (fun t ht hW => ⟨⟨_, (), rfl, rfl, by rw [ht]; exact hP, va_K.moved hW.alike hK, hD⟩, hS.F ht⟩) hS.2.2 d_C_assignment_23
def f_C_start_L24 : Nat → Int32 → Int32 → ST_F → ST_A → Option (ST_F × ST_A)
  | 0, _, _, _, _ => none
  | n + 1, x2, x3, F, A => if (26 : Int32) ≤ x3 then (some (F, A)) else (ra_g x3 26 (f_C_start_L24 n x2 (x3 + (1 : Int32)) F (va_up A 0 (upd (A 0) x3.toNatClampNeg (-1 : Int32)))))
def f_C_start (u2 : Int32) (Fa : ST_F) (Aa : ST_A) : Option (ST_F × ST_A) := ra_bv (f_K_clear  (upd (upd Fa 0 u2) 1 (0 : Int32)) Aa) (fun F1 A1 => f_C_start_L24 400 u2 (0 : Int32) F1 A1)
set_option maxHeartbeats 4000000 in
set_option maxRecDepth 100000 in
theorem k_C_start (l : Launch) (dC : Nat → ClassId) (dI : Nat → Nat → Nat) (a : Nat → Nat) (cI cC : ClassId) (tx : Nat) (sz : Nat) (Fa : ST_F) (Aa : ST_A) (u2 : Int32) (F9 : ST_F) (A9 : ST_A) (hf : f_C_start u2 Fa Aa = some (F9, A9)) : cc_MetV l y_C_start (Cond.code y_C_start b_C_start 4 none :: wA) ({ frames := 1, cells := 0, slots := 0, locals := 20 } : Room) (dC, dI) vC [(cI, .int), (cC, .char)] ([.ref (a 0), .ref (a 2), .int u2] : List Value) (wC0 a cI cC tx Fa Aa) sz (wC a cI cC F9 A9) := by
  refine Met.ofW (cc := b_C_start) (maxL := 4) (ret := none) (by decide) rfl ?_
  intro p e s m args below meth c s₁ B hml hv
  obtain ⟨rfl, hsz, hP, hK, hD0⟩ := hv
  have hx := B.exec
  have hb := B.bytes
  have hr := B.returns
  have hts := fun w h => atoms_spec (ws := (Cond.code y_C_start b_C_start 4 none :: wA)) B.pre w (List.mem_cons_of_mem _ h)
  have hown : s.vm.findClass R_C = some m.cls := findClass_of_methodNamed B.named
  have hlocks := B.notSynchronized
  subst hsz
  have hD := hD0.self (sz := s.heap.size)
  have hA : ∀ q : Nat, s.heap.size ≤ q → va_A (wC0 a cI cC tx Fa Aa) s.heap.size q := fun q h => Or.inr h
  have hS : va_S (va_A (wC0 a cI cC tx Fa Aa) s.heap.size) s.heap s.heap [] := va_S.rf
  have hl := lv_entry (([.ref (a 0), .ref (a 2), .int u2] : List Value)) (n := 4) (Nat.le_of_ble_eq_true rfl)
  have L24 : ∀ (n : Nat) (x2 : Int32) (x3 : Int32) (F : ST_F) (A : ST_A) (H : Heap) (locs : List Loc) (ls : Array Slot), lv_has ls 4 [(0, .ref (a 0)), (1, .ref (a 2)), (2, .int x2), (3, .int x3)] → va_P (dC, dI) vC (wC a cI cC F A) H → va_D (va_A (wC0 a cI cC tx Fa Aa) s.heap.size) (wC a cI cC F A) → va_S (va_A (wC0 a cI cC tx Fa Aa) s.heap.size) s.heap H locs → f_C_start_L24 n x2 x3 F A = some (F9, A9) → W p l e (headSpec (Cond.code y_C_start b_C_start 4 none :: wA) ({ frames := 1, cells := 0, slots := 0, locals := 20 } : Room)).room s m ([.ref (a 0), .ref (a 2), .int u2] : List Value).toArray below meth c H locs 0 0 (MQ below (cc_Qv (dC, dI) vC [(cI, .int), (cC, .char)] (wC0 a cI cC tx Fa Aa) s.heap.size (wC a cI cC F9 A9)) ([.ref (a 0), .ref (a 2), .int u2] : List Value).toArray s 0 0 (va_A (wC0 a cI cC tx Fa Aa) s.heap.size)) (F0 m 24 ls []) := by
    intro n
    induction n with
    | zero => intro x2 x3 F A H locs ls hl hP hD hS hf; cases hf
    | succ n ih =>
      intro x2 x3 F A H locs ls hl hP hD hS hf
      rw [f_C_start_L24] at hf
      refine lv_iload_n hx hb d_C_start_24 rfl (lv_at hl 3 rfl) ?_
      refine lv_bipush (v := 26) hx hb d_C_start_25 (by decide) ?_
      refine lv_icmp_ge (tgt := 43) hx hb d_C_start_27 (by decide) (fun h27_2 => ?_) (fun h27_2 => ?_)
      · rw [if_pos h27_2] at hf
        cases hf
        exact W.vret hx hb hr (fun t ht hW => ⟨⟨(), rfl, trivial, by rw [ht]; exact hP, va_K.moved hW.alike hK, hD⟩, hS.F ht⟩) hS.2.2 d_C_start_43
      · rw [if_neg h27_2] at hf
        refine lv_aload_n hx hb d_C_start_30 rfl (lv_at hl 0 rfl) ?_
        refine va_get (D := (dC, dI)) (ci := 1) (v := .ref (a 1)) (C := R_C) (T := T_C) (N := 5) hx hb hts in_C hown hK hP 0 rfl rfl 0 (by decide) (hts _ mw_75) (fun _ h9 => h9) rfl d_C_start_31 ?_
        refine lv_iload_n hx hb d_C_start_34 rfl (lv_at hl 3 rfl) ?_
        refine lv_iconst (v := -1) hx hb d_C_start_35 (by decide) ?_
        obtain ⟨hi, hf⟩ := ra_g_some hf
        refine va_iast hx hb hK hP hD hS 1 0 rfl rfl hi d_C_start_36 (fun H locs hP hD hS => ?_)
        have hP : va_P (dC, dI) vC [((a 0), .inr (1, [.ref (a 1), .ref (a 2), .int (F 0), .int (F 1), .ref (a 3)])), ((a 1), .inl (cI, 26, .inl (upd (A 0) x3.toNatClampNeg (-1 : Int32)))), ((a 2), .inl (cC, 160, .inl (A 1))), ((a 3), .inr (0, [.ref (a 4), .ref (a 5), .ref (a 6), .ref (a 7), .ref (a 8), .int (F 2), .int (F 3)])), ((a 4), .inl (cI, 100, .inl (A 2))), ((a 5), .inl (cI, 100, .inl (A 3))), ((a 6), .inl (cI, 100, .inl (A 4))), ((a 7), .inl (cI, 3, .inl (A 5))), ((a 8), .inl (cI, 26, .inl (A 6)))] H := hP
        have hD : va_D (va_A (wC0 a cI cC tx Fa Aa) s.heap.size) [((a 0), .inr (1, [.ref (a 1), .ref (a 2), .int (F 0), .int (F 1), .ref (a 3)])), ((a 1), .inl (cI, 26, .inl (upd (A 0) x3.toNatClampNeg (-1 : Int32)))), ((a 2), .inl (cC, 160, .inl (A 1))), ((a 3), .inr (0, [.ref (a 4), .ref (a 5), .ref (a 6), .ref (a 7), .ref (a 8), .int (F 2), .int (F 3)])), ((a 4), .inl (cI, 100, .inl (A 2))), ((a 5), .inl (cI, 100, .inl (A 3))), ((a 6), .inl (cI, 100, .inl (A 4))), ((a 7), .inl (cI, 3, .inl (A 5))), ((a 8), .inl (cI, 26, .inl (A 6)))] := hD
        refine lv_iinc (k := 3) (v := (x3 + (1 : Int32))) hx hb d_C_start_37 hl rfl (by rfl) (by decide) rfl (fun ls hl => ?_)
        have hl : lv_has ls 4 [(3, .int (x3 + (1 : Int32))), (0, .ref (a 0)), (1, .ref (a 2)), (2, .int x2)] := hl
        refine lv_goto (tgt := 24) hx hb d_C_start_40 (by decide) ?_
        have hl : lv_has ls 4 [(0, .ref (a 0)), (1, .ref (a 2)), (2, .int x2), (3, .int (x3 + (1 : Int32)))] := lv_sub hl [1, 2, 3, 0] rfl
        exact ih x2 (x3 + (1 : Int32)) F (va_up A 0 (upd (A 0) x3.toNatClampNeg (-1 : Int32))) _ _ _ hl hP hD hS hf
  rw [lg_entry_eq]
  generalize (lg_sl (([.ref (a 0), .ref (a 2), .int u2] : List Value)) ++ List.replicate (4 - (lg_sl (([.ref (a 0), .ref (a 2), .int u2] : List Value))).length) Slot.unset).toArray = ls at hl ⊢
  have hl : lv_has ls 4 [(0, .ref (a 0)), (1, .ref (a 2)), (2, .int u2)] := hl
  unfold f_C_start at hf
  refine lv_aload_n hx hb d_C_start_0 rfl (lv_at hl 0 rfl) ?_
  refine lv_aload_n hx hb d_C_start_1 rfl (lv_at hl 1 rfl) ?_
  refine va_put (D := (dC, dI)) (ci := 1) (v := .ref (a 2)) (ty := (.array .char)) (C := R_C) (T := T_C) (N := 5) hx hb hts in_C ty_C ty_C_ok nm_C hown hK hP hD hS 0 rfl rfl 1 (by decide) (hts _ mw_76) (fun _ h9 => h9) rfl (by decide +kernel) rfl rfl (Nat.le_of_ble_eq_true rfl) d_C_start_2 (fun H locs hP hD hS => ?_)
  have hP : va_P (dC, dI) vC [((a 0), .inr (1, [.ref (a 1), .ref (a 2), .int (Fa 0), .int (Fa 1), .ref (a 3)])), ((a 1), .inl (cI, 26, .inl (Aa 0))), ((a 2), .inl (cC, 160, .inl (Aa 1))), ((a 3), .inr (0, [.ref (a 4), .ref (a 5), .ref (a 6), .ref (a 7), .ref (a 8), .int (Fa 2), .int (Fa 3)])), ((a 4), .inl (cI, 100, .inl (Aa 2))), ((a 5), .inl (cI, 100, .inl (Aa 3))), ((a 6), .inl (cI, 100, .inl (Aa 4))), ((a 7), .inl (cI, 3, .inl (Aa 5))), ((a 8), .inl (cI, 26, .inl (Aa 6)))] H := hP
  have hD : va_D (va_A (wC0 a cI cC tx Fa Aa) s.heap.size) [((a 0), .inr (1, [.ref (a 1), .ref (a 2), .int (Fa 0), .int (Fa 1), .ref (a 3)])), ((a 1), .inl (cI, 26, .inl (Aa 0))), ((a 2), .inl (cC, 160, .inl (Aa 1))), ((a 3), .inr (0, [.ref (a 4), .ref (a 5), .ref (a 6), .ref (a 7), .ref (a 8), .int (Fa 2), .int (Fa 3)])), ((a 4), .inl (cI, 100, .inl (Aa 2))), ((a 5), .inl (cI, 100, .inl (Aa 3))), ((a 6), .inl (cI, 100, .inl (Aa 4))), ((a 7), .inl (cI, 3, .inl (Aa 5))), ((a 8), .inl (cI, 26, .inl (Aa 6)))] := hD
  refine lv_aload_n hx hb d_C_start_5 rfl (lv_at hl 0 rfl) ?_
  refine lv_iload_n hx hb d_C_start_6 rfl (lv_at hl 2 rfl) ?_
  refine va_put (D := (dC, dI)) (ci := 1) (v := .int u2) (ty := .int) (C := R_C) (T := T_C) (N := 5) hx hb hts in_C ty_C ty_C_ok nm_C hown hK hP hD hS 0 rfl rfl 2 (by decide) (hts _ mw_77) (fun _ h9 => h9) rfl (by decide +kernel) rfl rfl (Nat.le_of_ble_eq_true rfl) d_C_start_7 (fun H locs hP hD hS => ?_)
  have hP : va_P (dC, dI) vC [((a 0), .inr (1, [.ref (a 1), .ref (a 2), .int u2, .int (Fa 1), .ref (a 3)])), ((a 1), .inl (cI, 26, .inl (Aa 0))), ((a 2), .inl (cC, 160, .inl (Aa 1))), ((a 3), .inr (0, [.ref (a 4), .ref (a 5), .ref (a 6), .ref (a 7), .ref (a 8), .int (Fa 2), .int (Fa 3)])), ((a 4), .inl (cI, 100, .inl (Aa 2))), ((a 5), .inl (cI, 100, .inl (Aa 3))), ((a 6), .inl (cI, 100, .inl (Aa 4))), ((a 7), .inl (cI, 3, .inl (Aa 5))), ((a 8), .inl (cI, 26, .inl (Aa 6)))] H := hP
  have hD : va_D (va_A (wC0 a cI cC tx Fa Aa) s.heap.size) [((a 0), .inr (1, [.ref (a 1), .ref (a 2), .int u2, .int (Fa 1), .ref (a 3)])), ((a 1), .inl (cI, 26, .inl (Aa 0))), ((a 2), .inl (cC, 160, .inl (Aa 1))), ((a 3), .inr (0, [.ref (a 4), .ref (a 5), .ref (a 6), .ref (a 7), .ref (a 8), .int (Fa 2), .int (Fa 3)])), ((a 4), .inl (cI, 100, .inl (Aa 2))), ((a 5), .inl (cI, 100, .inl (Aa 3))), ((a 6), .inl (cI, 100, .inl (Aa 4))), ((a 7), .inl (cI, 3, .inl (Aa 5))), ((a 8), .inl (cI, 26, .inl (Aa 6)))] := hD
  refine lv_aload_n hx hb d_C_start_10 rfl (lv_at hl 0 rfl) ?_
  refine lv_iconst (v := 0) hx hb d_C_start_11 (by decide) ?_
  refine va_put (D := (dC, dI)) (ci := 1) (v := .int (0 : Int32)) (ty := .int) (C := R_C) (T := T_C) (N := 5) hx hb hts in_C ty_C ty_C_ok nm_C hown hK hP hD hS 0 rfl rfl 3 (by decide) (hts _ mw_78) (fun _ h9 => h9) rfl (by decide +kernel) rfl rfl (Nat.le_of_ble_eq_true rfl) d_C_start_12 (fun H locs hP hD hS => ?_)
  have hP : va_P (dC, dI) vC [((a 0), .inr (1, [.ref (a 1), .ref (a 2), .int u2, .int (0 : Int32), .ref (a 3)])), ((a 1), .inl (cI, 26, .inl (Aa 0))), ((a 2), .inl (cC, 160, .inl (Aa 1))), ((a 3), .inr (0, [.ref (a 4), .ref (a 5), .ref (a 6), .ref (a 7), .ref (a 8), .int (Fa 2), .int (Fa 3)])), ((a 4), .inl (cI, 100, .inl (Aa 2))), ((a 5), .inl (cI, 100, .inl (Aa 3))), ((a 6), .inl (cI, 100, .inl (Aa 4))), ((a 7), .inl (cI, 3, .inl (Aa 5))), ((a 8), .inl (cI, 26, .inl (Aa 6)))] H := hP
  have hD : va_D (va_A (wC0 a cI cC tx Fa Aa) s.heap.size) [((a 0), .inr (1, [.ref (a 1), .ref (a 2), .int u2, .int (0 : Int32), .ref (a 3)])), ((a 1), .inl (cI, 26, .inl (Aa 0))), ((a 2), .inl (cC, 160, .inl (Aa 1))), ((a 3), .inr (0, [.ref (a 4), .ref (a 5), .ref (a 6), .ref (a 7), .ref (a 8), .int (Fa 2), .int (Fa 3)])), ((a 4), .inl (cI, 100, .inl (Aa 2))), ((a 5), .inl (cI, 100, .inl (Aa 3))), ((a 6), .inl (cI, 100, .inl (Aa 4))), ((a 7), .inl (cI, 3, .inl (Aa 5))), ((a 8), .inl (cI, 26, .inl (Aa 6)))] := hD
  refine lv_aload_n hx hb d_C_start_15 rfl (lv_at hl 0 rfl) ?_
  refine va_get (D := (dC, dI)) (ci := 1) (v := .ref (a 3)) (C := R_C) (T := T_C) (N := 5) hx hb hts in_C hown hK hP 0 rfl rfl 4 (by decide) (hts _ mw_79) (fun _ h9 => h9) rfl d_C_start_16 ?_
  have hP : va_P (dC, dI) vC (wC a cI cC (upd (upd Fa 0 u2) 1 (0 : Int32)) Aa) H := hP
  have hD : va_D (va_A (wC0 a cI cC tx Fa Aa) s.heap.size) (wC a cI cC (upd (upd Fa 0 u2) 1 (0 : Int32)) Aa) := hD
  obtain ⟨F1, A1, hc, hf⟩ := ra_bv_some hf
  refine cc_callv (va_runV (As := []) (rest := []) ⟨hx, hb, hml, hown, hts⟩ (k_K_clear l dC dI a cI cC H.size (upd (upd Fa 0 u2) 1 (0 : Int32)) Aa  F1 A1 hc) (cw_V 0 hts mw_140 mw_141 mw_142 mw_2 mw_143 rfl rfl rfl hd_K_clear ⟨Nat.le_of_ble_eq_true rfl, Nat.le_of_ble_eq_true rfl⟩) (cc_preV hK hP hD rfl (q0 := 3) rfl) rfl rfl hl.1 rfl (lv_room (Nat.le_of_ble_eq_true rfl)) d_C_start_19 ⟨Nat.zero_le _, Nat.zero_le _⟩) hD hS hA (fun H locs hP hD hS => ?_)
  refine lv_iconst (v := 0) hx hb d_C_start_22 (by decide) ?_
  refine lv_istore_n hx hb d_C_start_23 rfl hl (by decide) rfl (fun ls hl => ?_)
  have hl : lv_has ls 4 [(3, .int (0 : Int32)), (0, .ref (a 0)), (1, .ref (a 2)), (2, .int u2)] := hl
  have hl : lv_has ls 4 [(0, .ref (a 0)), (1, .ref (a 2)), (2, .int u2), (3, .int (0 : Int32))] := lv_sub hl [1, 2, 3, 0] rfl
  exact L24 400 u2 (0 : Int32) F1 A1 _ _ _ hl hP hD hS hf
def f_C_accepts_J37 (x2 : Int32) (x3 : Int32) (F : ST_F) (A : ST_A) : Option (Int32 × ST_F × ST_A) := ra_bi (f_C_sumD 5 (0 : Int32) F A) (fun r3 F3 A3 => if r3 = (-1 : Int32) then (some ((0 : Int32), F3, A3)) else (if (F3 1) = (F3 0) then (if (f_V_typeIn r3) = (3 : Int32) then (if (F3 3) = 0 then (ra_bv (f_C_finish r3 F3 A3) (fun F8 A8 => some ((1 : Int32), F8, A8))) else (some ((0 : Int32), F3, A3))) else (some ((0 : Int32), F3, A3))) else (some ((0 : Int32), F3, A3))))
def f_C_accepts_L8 : Nat → Int32 → Int32 → ST_F → ST_A → Option (Int32 × ST_F × ST_A)
  | 0, _, _, _, _ => none
  | n + 1, x2, x3, F, A => if (160 : Int32) ≤ x3 then (f_C_accepts_J37 x2 x3 F A) else (ra_bi (f_C_isAssignmentNext  F A) (fun r9 F9 A9 => if r9 = 0 then (f_C_accepts_J37 x2 x3 F9 A9) else (ra_bi (f_C_assignment  F9 A9) (fun r11 F11 A11 => if r11 = 0 then (some ((0 : Int32), F11, A11)) else (f_C_accepts_L8 n x2 (x3 + (1 : Int32)) F11 A11)))))
def f_C_accepts (u2 : Int32) (Fa : ST_F) (Aa : ST_A) : Option (Int32 × ST_F × ST_A) := ra_bv (f_C_start u2 Fa Aa) (fun F1 A1 => f_C_accepts_L8 400 u2 (0 : Int32) F1 A1)
set_option maxHeartbeats 4000000 in
set_option maxRecDepth 100000 in
theorem k_C_accepts (l : Launch) (dC : Nat → ClassId) (dI : Nat → Nat → Nat) (a : Nat → Nat) (cI cC : ClassId) (tx : Nat) (sz : Nat) (Fa : ST_F) (Aa : ST_A) (u2 : Int32) (r0 : Int32) (F9 : ST_F) (A9 : ST_A) (hf : f_C_accepts u2 Fa Aa = some (r0, F9, A9)) : cc_MetI l y_C_accepts (Cond.code y_C_accepts b_C_accepts 4 (some .boolean) :: wA) ({ frames := 98, cells := 0, slots := 0, locals := 4245 } : Room) (dC, dI) vC [(cI, .int), (cC, .char)] ([.ref (a 0), .ref (a 2), .int u2] : List Value) (wC0 a cI cC tx Fa Aa) sz (wC a cI cC F9 A9) r0 := by
  refine Met.ofW (cc := b_C_accepts) (maxL := 4) (ret := (some .boolean)) (by decide) rfl ?_
  intro p e s m args below meth c s₁ B hml hv
  obtain ⟨rfl, hsz, hP, hK, hD0⟩ := hv
  have hx := B.exec
  have hb := B.bytes
  have hr := B.returns
  have hts := fun w h => atoms_spec (ws := (Cond.code y_C_accepts b_C_accepts 4 (some .boolean) :: wA)) B.pre w (List.mem_cons_of_mem _ h)
  have hown : s.vm.findClass R_C = some m.cls := findClass_of_methodNamed B.named
  have hlocks := B.notSynchronized
  subst hsz
  have hD := hD0.self (sz := s.heap.size)
  have hA : ∀ q : Nat, s.heap.size ≤ q → va_A (wC0 a cI cC tx Fa Aa) s.heap.size q := fun q h => Or.inr h
  have hS : va_S (va_A (wC0 a cI cC tx Fa Aa) s.heap.size) s.heap s.heap [] := va_S.rf
  have hl := lv_entry (([.ref (a 0), .ref (a 2), .int u2] : List Value)) (n := 4) (Nat.le_of_ble_eq_true rfl)
  have J37 : ∀ (x2 : Int32) (x3 : Int32) (F : ST_F) (A : ST_A) (H : Heap) (locs : List Loc) (ls : Array Slot), lv_has ls 4 [(0, .ref (a 0)), (1, .ref (a 2)), (2, .int x2), (3, .int x3)] → va_P (dC, dI) vC (wC a cI cC F A) H → va_D (va_A (wC0 a cI cC tx Fa Aa) s.heap.size) (wC a cI cC F A) → va_S (va_A (wC0 a cI cC tx Fa Aa) s.heap.size) s.heap H locs → f_C_accepts_J37 x2 x3 F A = some (r0, F9, A9) → W p l e (headSpec (Cond.code y_C_accepts b_C_accepts 4 (some .boolean) :: wA) ({ frames := 98, cells := 0, slots := 0, locals := 4245 } : Room)).room s m ([.ref (a 0), .ref (a 2), .int u2] : List Value).toArray below meth c H locs 0 0 (MQ below (cc_Qi (dC, dI) vC [(cI, .int), (cC, .char)] (wC0 a cI cC tx Fa Aa) s.heap.size (wC a cI cC F9 A9) r0) ([.ref (a 0), .ref (a 2), .int u2] : List Value).toArray s 0 0 (va_A (wC0 a cI cC tx Fa Aa) s.heap.size)) (F0 m 37 ls []) := by
    intro x2 x3 F A H locs ls hl hP hD hS hf
    unfold f_C_accepts_J37 at hf
    refine lv_aload_n hx hb d_C_accepts_37 rfl (lv_at hl 0 rfl) ?_
    refine lv_iconst (v := 0) hx hb d_C_accepts_38 (by decide) ?_
    have hP : va_P (dC, dI) vC (wC a cI cC F A) H := hP
    have hD : va_D (va_A (wC0 a cI cC tx Fa Aa) s.heap.size) (wC a cI cC F A) := hD
    obtain ⟨r3, F3, A3, hc, hf⟩ := ra_bi_some hf
    refine cc_calli (va_runV (As := [.int (0 : Int32)]) (rest := []) ⟨hx, hb, hml, hown, hts⟩ (k_C_sumD l dC dI a cI cC 5 H.size F A (0 : Int32) r3 F3 A3 hc) (cw_V 1 hts mw_165 mw_167 ms_C_sum mw_3 mw_168 rfl rfl rfl hd_C_sum ⟨Nat.le_of_ble_eq_true rfl, Nat.le_of_ble_eq_true rfl⟩) (cc_preV hK hP hD rfl (q0 := 0) rfl) rfl rfl hl.1 rfl (lv_room (Nat.le_of_ble_eq_true rfl)) d_C_accepts_39 ⟨Nat.zero_le _, Nat.zero_le _⟩) hD hS hA (fun H locs hP hD hS => ?_)
    refine lv_istore_n hx hb d_C_accepts_42 rfl hl (by decide) rfl (fun ls hl => ?_)
    have hl : lv_has ls 4 [(3, .int r3), (0, .ref (a 0)), (1, .ref (a 2)), (2, .int x2)] := hl
    refine lv_iload_n hx hb d_C_accepts_43 rfl (lv_at hl 0 rfl) ?_
    refine lv_iconst (v := -1) hx hb d_C_accepts_44 (by decide) ?_
    refine lv_icmp_eq (tgt := 77) hx hb d_C_accepts_45 (by decide) (fun h45_4 => ?_) (fun h45_4 => ?_)
    · rw [if_pos h45_4] at hf
      refine lv_iconst (v := 0) hx hb d_C_accepts_77 (by decide) ?_
      cases hf
      exact W.zret hx hb hr (by rfl) (fun t ht hW => ⟨⟨_, (), rfl, rfl, by rw [ht]; exact hP, va_K.moved hW.alike hK, hD⟩, hS.F ht⟩) hS.2.2 d_C_accepts_78
    · rw [if_neg h45_4] at hf
      refine lv_aload_n hx hb d_C_accepts_48 rfl (lv_at hl 1 rfl) ?_
      refine va_get (D := (dC, dI)) (ci := 1) (v := .int (F3 1)) (C := R_C) (T := T_C) (N := 5) hx hb hts in_C hown hK hP 0 rfl rfl 3 (by decide) (hts _ mw_78) (fun _ h9 => h9) rfl d_C_accepts_49 ?_
      refine lv_aload_n hx hb d_C_accepts_52 rfl (lv_at hl 1 rfl) ?_
      refine va_get (D := (dC, dI)) (ci := 1) (v := .int (F3 0)) (C := R_C) (T := T_C) (N := 5) hx hb hts in_C hown hK hP 0 rfl rfl 2 (by decide) (hts _ mw_77) (fun _ h9 => h9) rfl d_C_accepts_53 ?_
      refine lv_icmp_ne (tgt := 77) hx hb d_C_accepts_56 (by decide) (fun h56_5 => ?_) (fun h56_5 => ?_)
      · rw [if_neg h56_5] at hf
        refine lv_iconst (v := 0) hx hb d_C_accepts_77 (by decide) ?_
        cases hf
        exact W.zret hx hb hr (by rfl) (fun t ht hW => ⟨⟨_, (), rfl, rfl, by rw [ht]; exact hP, va_K.moved hW.alike hK, hD⟩, hS.F ht⟩) hS.2.2 d_C_accepts_78
      · rw [if_pos h56_5] at hf
        refine lv_iload_n hx hb d_C_accepts_59 rfl (lv_at hl 0 rfl) ?_
        refine cc_calls (va_runS (As := [.int r3]) (rest := []) ⟨hx, hb, hml, hown, hts⟩ (k_V_typeIn l r3 _ rfl) (cw_S 1 hts mw_223 mw_224 mw_11 mw_225 rfl rfl hd_V_typeIn ⟨Nat.le_of_ble_eq_true rfl, Nat.le_of_ble_eq_true rfl⟩) cc_preS rfl rfl hl.1 rfl (lv_room (Nat.le_of_ble_eq_true rfl)) d_C_accepts_60 ⟨Nat.zero_le _, Nat.zero_le _⟩) ?_
        refine lv_iconst (v := 3) hx hb d_C_accepts_63 (by decide) ?_
        refine lv_icmp_ne (tgt := 77) hx hb d_C_accepts_64 (by decide) (fun h64_6 => ?_) (fun h64_6 => ?_)
        · rw [if_neg h64_6] at hf
          refine lv_iconst (v := 0) hx hb d_C_accepts_77 (by decide) ?_
          cases hf
          exact W.zret hx hb hr (by rfl) (fun t ht hW => ⟨⟨_, (), rfl, rfl, by rw [ht]; exact hP, va_K.moved hW.alike hK, hD⟩, hS.F ht⟩) hS.2.2 d_C_accepts_78
        · rw [if_pos h64_6] at hf
          refine lv_aload_n hx hb d_C_accepts_67 rfl (lv_at hl 1 rfl) ?_
          refine va_get (D := (dC, dI)) (ci := 1) (v := .ref (a 3)) (C := R_C) (T := T_C) (N := 5) hx hb hts in_C hown hK hP 0 rfl rfl 4 (by decide) (hts _ mw_79) (fun _ h9 => h9) rfl d_C_accepts_68 ?_
          refine va_get (D := (dC, dI)) (ci := 0) (v := .int (F3 3)) (C := R_K) (T := T_K) (N := 7) hx hb hts in_K hown hK hP 3 rfl rfl 6 (by decide) (hts _ mw_49) (fun _ h9 => h9) rfl d_C_accepts_71 ?_
          refine lv_if_eq (tgt := 79) hx hb d_C_accepts_74 (by decide) (fun h74_7 => ?_) (fun h74_7 => ?_)
          · rw [if_pos h74_7] at hf
            refine lv_aload_n hx hb d_C_accepts_79 rfl (lv_at hl 1 rfl) ?_
            refine lv_iload_n hx hb d_C_accepts_80 rfl (lv_at hl 0 rfl) ?_
            have hP : va_P (dC, dI) vC (wC a cI cC F3 A3) H := hP
            have hD : va_D (va_A (wC0 a cI cC tx Fa Aa) s.heap.size) (wC a cI cC F3 A3) := hD
            obtain ⟨F8, A8, hc, hf⟩ := ra_bv_some hf
            refine cc_callv (va_runV (As := [.int r3]) (rest := []) ⟨hx, hb, hml, hown, hts⟩ (k_C_finish l dC dI a cI cC H.size F3 A3 r3 F8 A8 hc) (cw_V 1 hts mw_280 mw_282 ms_C_finish mw_3 mw_283 rfl rfl rfl hd_C_finish ⟨Nat.le_of_ble_eq_true rfl, Nat.le_of_ble_eq_true rfl⟩) (cc_preV hK hP hD rfl (q0 := 0) rfl) rfl rfl hl.1 rfl (lv_room (Nat.le_of_ble_eq_true rfl)) d_C_accepts_81 ⟨Nat.zero_le _, Nat.zero_le _⟩) hD hS hA (fun H locs hP hD hS => ?_)
            refine lv_iconst (v := 1) hx hb d_C_accepts_84 (by decide) ?_
            cases hf
            exact W.zret hx hb hr (by rfl) (fun t ht hW => ⟨⟨_, (), rfl, rfl, by rw [ht]; exact hP, va_K.moved hW.alike hK, hD⟩, hS.F ht⟩) hS.2.2 d_C_accepts_85
          · rw [if_neg h74_7] at hf
            refine lv_iconst (v := 0) hx hb d_C_accepts_77 (by decide) ?_
            cases hf
            exact W.zret hx hb hr (by rfl) (fun t ht hW => ⟨⟨_, (), rfl, rfl, by rw [ht]; exact hP, va_K.moved hW.alike hK, hD⟩, hS.F ht⟩) hS.2.2 d_C_accepts_78
  have L8 : ∀ (n : Nat) (x2 : Int32) (x3 : Int32) (F : ST_F) (A : ST_A) (H : Heap) (locs : List Loc) (ls : Array Slot), lv_has ls 4 [(0, .ref (a 0)), (1, .ref (a 2)), (2, .int x2), (3, .int x3)] → va_P (dC, dI) vC (wC a cI cC F A) H → va_D (va_A (wC0 a cI cC tx Fa Aa) s.heap.size) (wC a cI cC F A) → va_S (va_A (wC0 a cI cC tx Fa Aa) s.heap.size) s.heap H locs → f_C_accepts_L8 n x2 x3 F A = some (r0, F9, A9) → W p l e (headSpec (Cond.code y_C_accepts b_C_accepts 4 (some .boolean) :: wA) ({ frames := 98, cells := 0, slots := 0, locals := 4245 } : Room)).room s m ([.ref (a 0), .ref (a 2), .int u2] : List Value).toArray below meth c H locs 0 0 (MQ below (cc_Qi (dC, dI) vC [(cI, .int), (cC, .char)] (wC0 a cI cC tx Fa Aa) s.heap.size (wC a cI cC F9 A9) r0) ([.ref (a 0), .ref (a 2), .int u2] : List Value).toArray s 0 0 (va_A (wC0 a cI cC tx Fa Aa) s.heap.size)) (F0 m 8 ls []) := by
    intro n
    induction n with
    | zero => intro x2 x3 F A H locs ls hl hP hD hS hf; cases hf
    | succ n ih =>
      intro x2 x3 F A H locs ls hl hP hD hS hf
      rw [f_C_accepts_L8] at hf
      refine lv_iload_n hx hb d_C_accepts_8 rfl (lv_at hl 3 rfl) ?_
      refine lv_sipush (v := 160) hx hb d_C_accepts_9 (by decide) ?_
      refine lv_icmp_ge (tgt := 37) hx hb d_C_accepts_12 (by decide) (fun h12_2 => ?_) (fun h12_2 => ?_)
      · rw [if_pos h12_2] at hf
        have hl : lv_has ls 4 [(0, .ref (a 0)), (1, .ref (a 2)), (2, .int x2), (3, .int x3)] := lv_sub hl [0, 1, 2, 3] rfl
        exact J37 x2 x3 F A _ _ _ hl hP hD hS hf
      · rw [if_neg h12_2] at hf
        refine lv_aload_n hx hb d_C_accepts_15 rfl (lv_at hl 0 rfl) ?_
        have hP : va_P (dC, dI) vC (wC a cI cC F A) H := hP
        have hD : va_D (va_A (wC0 a cI cC tx Fa Aa) s.heap.size) (wC a cI cC F A) := hD
        obtain ⟨r9, F9, A9, hc, hf⟩ := ra_bi_some hf
        refine cc_calli (va_runV (As := []) (rest := []) ⟨hx, hb, hml, hown, hts⟩ (k_C_isAssignmentNext l dC dI a cI cC H.size F A  r9 F9 A9 hc) (cw_V 0 hts mw_144 mw_146 ms_C_isAssignmentNext mw_3 mw_147 rfl rfl rfl hd_C_isAssignmentNext ⟨Nat.le_of_ble_eq_true rfl, Nat.le_of_ble_eq_true rfl⟩) (cc_preV hK hP hD rfl (q0 := 0) rfl) rfl rfl hl.1 rfl (lv_room (Nat.le_of_ble_eq_true rfl)) d_C_accepts_16 ⟨Nat.zero_le _, Nat.zero_le _⟩) hD hS hA (fun H locs hP hD hS => ?_)
        refine lv_if_eq (tgt := 37) hx hb d_C_accepts_19 (by decide) (fun h19_10 => ?_) (fun h19_10 => ?_)
        · rw [if_pos h19_10] at hf
          have hl : lv_has ls 4 [(0, .ref (a 0)), (1, .ref (a 2)), (2, .int x2), (3, .int x3)] := lv_sub hl [0, 1, 2, 3] rfl
          exact J37 x2 x3 F9 A9 _ _ _ hl hP hD hS hf
        · rw [if_neg h19_10] at hf
          refine lv_aload_n hx hb d_C_accepts_22 rfl (lv_at hl 0 rfl) ?_
          have hP : va_P (dC, dI) vC (wC a cI cC F9 A9) H := hP
          have hD : va_D (va_A (wC0 a cI cC tx Fa Aa) s.heap.size) (wC a cI cC F9 A9) := hD
          obtain ⟨r11, F11, A11, hc, hf⟩ := ra_bi_some hf
          refine cc_calli (va_runV (As := []) (rest := []) ⟨hx, hb, hml, hown, hts⟩ (k_C_assignment l dC dI a cI cC H.size F9 A9  r11 F11 A11 hc) (cw_V 0 hts mw_151 mw_153 ms_C_assignment mw_3 mw_154 rfl rfl rfl hd_C_assignment ⟨Nat.le_of_ble_eq_true rfl, Nat.le_of_ble_eq_true rfl⟩) (cc_preV hK hP hD rfl (q0 := 0) rfl) rfl rfl hl.1 rfl (lv_room (Nat.le_of_ble_eq_true rfl)) d_C_accepts_23 ⟨Nat.zero_le _, Nat.zero_le _⟩) hD hS hA (fun H locs hP hD hS => ?_)
          refine lv_if_ne (tgt := 31) hx hb d_C_accepts_26 (by decide) (fun h26_12 => ?_) (fun h26_12 => ?_)
          · rw [if_neg h26_12] at hf
            refine lv_iinc (k := 3) (v := (x3 + (1 : Int32))) hx hb d_C_accepts_31 hl rfl (by rfl) (by decide) rfl (fun ls hl => ?_)
            have hl : lv_has ls 4 [(3, .int (x3 + (1 : Int32))), (0, .ref (a 0)), (1, .ref (a 2)), (2, .int x2)] := hl
            refine lv_goto (tgt := 8) hx hb d_C_accepts_34 (by decide) ?_
            have hl : lv_has ls 4 [(0, .ref (a 0)), (1, .ref (a 2)), (2, .int x2), (3, .int (x3 + (1 : Int32)))] := lv_sub hl [1, 2, 3, 0] rfl
            exact ih x2 (x3 + (1 : Int32)) F11 A11 _ _ _ hl hP hD hS hf
          · rw [if_pos h26_12] at hf
            refine lv_iconst (v := 0) hx hb d_C_accepts_29 (by decide) ?_
            cases hf
            exact W.zret hx hb hr (by rfl) (fun t ht hW => ⟨⟨_, (), rfl, rfl, by rw [ht]; exact hP, va_K.moved hW.alike hK, hD⟩, hS.F ht⟩) hS.2.2 d_C_accepts_30
  rw [lg_entry_eq]
  generalize (lg_sl (([.ref (a 0), .ref (a 2), .int u2] : List Value)) ++ List.replicate (4 - (lg_sl (([.ref (a 0), .ref (a 2), .int u2] : List Value))).length) Slot.unset).toArray = ls at hl ⊢
  have hl : lv_has ls 4 [(0, .ref (a 0)), (1, .ref (a 2)), (2, .int u2)] := hl
  unfold f_C_accepts at hf
  refine lv_aload_n hx hb d_C_accepts_0 rfl (lv_at hl 0 rfl) ?_
  refine lv_aload_n hx hb d_C_accepts_1 rfl (lv_at hl 1 rfl) ?_
  refine lv_iload_n hx hb d_C_accepts_2 rfl (lv_at hl 2 rfl) ?_
  have hP : va_P (dC, dI) vC (wC0 a cI cC tx Fa Aa) s.heap := hP
  have hD : va_D (va_A (wC0 a cI cC tx Fa Aa) s.heap.size) (wC0 a cI cC tx Fa Aa) := hD
  obtain ⟨F1, A1, hc, hf⟩ := ra_bv_some hf
  refine cc_callv (va_runV (As := [.ref (a 2), .int u2]) (rest := []) ⟨hx, hb, hml, hown, hts⟩ (k_C_start l dC dI a cI cC tx s.heap.size Fa Aa u2 F1 A1 hc) (cw_V 2 hts mw_136 mw_138 ms_C_start mw_3 mw_139 rfl rfl rfl hd_C_start ⟨Nat.le_of_ble_eq_true rfl, Nat.le_of_ble_eq_true rfl⟩) (cc_preV hK hP hD rfl (q0 := 0) rfl) rfl rfl hl.1 rfl (lv_room (Nat.le_of_ble_eq_true rfl)) d_C_accepts_3 ⟨Nat.zero_le _, Nat.zero_le _⟩) hD hS hA (fun H locs hP hD hS => ?_)
  refine lv_iconst (v := 0) hx hb d_C_accepts_6 (by decide) ?_
  refine lv_istore_n hx hb d_C_accepts_7 rfl hl (by decide) rfl (fun ls hl => ?_)
  have hl : lv_has ls 4 [(3, .int (0 : Int32)), (0, .ref (a 0)), (1, .ref (a 2)), (2, .int u2)] := hl
  have hl : lv_has ls 4 [(0, .ref (a 0)), (1, .ref (a 2)), (2, .int u2), (3, .int (0 : Int32))] := lv_sub hl [1, 2, 3, 0] rfl
  exact L8 400 u2 (0 : Int32) F1 A1 _ _ _ hl hP hD hS hf
