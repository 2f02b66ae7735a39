def f_K_put_L3 : Nat → Int32 → Int32 → Int32 → Int32 → ST_F → ST_A → Option (Int32 × ST_F × ST_A)
  | 0, _, _, _, _, _, _ => none
  | n + 1, x1, x2, x3, x4, F, A => if (F 2) ≤ x4 then (if (F 2) = (100 : Int32) then (some ((0 : Int32), (upd F 3 (1 : Int32)), A)) else (ra_g (F 2) 100 (ra_g (F 2) 100 (ra_g (F 2) 100 (some ((((F 2) + (1 : Int32)) - (1 : Int32)), (upd F 2 ((F 2) + (1 : Int32))), (va_up (va_up (va_up A 2 (upd (A 2) (F 2).toNatClampNeg x1)) 3 (upd (A 3) (F 2).toNatClampNeg x2)) 4 (upd (A 4) (F 2).toNatClampNeg x3)))))))) else (ra_g x4 100 (if ((A 2) x4.toNatClampNeg) = x1 then (ra_g x4 100 (if ((A 3) x4.toNatClampNeg) = x2 then (ra_g x4 100 (if ((A 4) x4.toNatClampNeg) = x3 then (some (x4, F, A)) else (f_K_put_L3 n x1 x2 x3 (x4 + (1 : Int32)) F A))) else (f_K_put_L3 n x1 x2 x3 (x4 + (1 : Int32)) F A))) else (f_K_put_L3 n x1 x2 x3 (x4 + (1 : Int32)) F A)))
def f_K_put (u1 : Int32) (u2 : Int32) (u3 : Int32) (Fa : ST_F) (Aa : ST_A) : Option (Int32 × ST_F × ST_A) := f_K_put_L3 200 u1 u2 u3 (0 : Int32) Fa Aa
set_option maxHeartbeats 4000000 in
set_option maxRecDepth 100000 in
theorem k_K_put (l : Launch) (dC : Nat → ClassId) (dI : Nat → Nat → Nat) (a : Nat → Nat) (cI cC : ClassId) (sz : Nat) (Fa : ST_F) (Aa : ST_A) (u1 : Int32) (u2 : Int32) (u3 : Int32) (r0 : Int32) (F9 : ST_F) (A9 : ST_A) (hf : f_K_put u1 u2 u3 Fa Aa = some (r0, F9, A9)) : cc_MetI l y_K_put (Cond.code y_K_put b_K_put 5 (some .int) :: wA) ({ frames := 0, cells := 0, slots := 0, locals := 0 } : Room) (dC, dI) vC [(cI, .int), (cC, .char)] ([.ref (a 3), .int u1, .int u2, .int u3] : List Value) (wC a cI cC Fa Aa) sz (wC a cI cC F9 A9) r0 := by
  refine Met.ofW (cc := b_K_put) (maxL := 5) (ret := (some .int)) (by decide) rfl ?_
  intro p e s m args below meth c s₁ B hml hv
  obtain ⟨rfl, hsz, hP, hK, hD0⟩ := hv
  have hx := B.exec
  have hb := B.bytes
  have hr := B.returns
  have hts := fun w h => atoms_spec (ws := (Cond.code y_K_put b_K_put 5 (some .int) :: wA)) B.pre w (List.mem_cons_of_mem _ h)
  have hown : s.vm.findClass R_K = some m.cls := findClass_of_methodNamed B.named
  have hlocks := B.notSynchronized
  subst hsz
  have hD := hD0.self (sz := s.heap.size)
  have hA : ∀ q : Nat, s.heap.size ≤ q → va_A (wC a cI cC Fa Aa) s.heap.size q := fun q h => Or.inr h
  have hS : va_S (va_A (wC a cI cC Fa Aa) s.heap.size) s.heap s.heap [] := va_S.rf
  have hl := lv_entry (([.ref (a 3), .int u1, .int u2, .int u3] : List Value)) (n := 5) (Nat.le_of_ble_eq_true rfl)
  have L3 : ∀ (n : Nat) (x1 : Int32) (x2 : Int32) (x3 : Int32) (x4 : Int32) (F : ST_F) (A : ST_A) (H : Heap) (locs : List Loc) (ls : Array Slot), lv_has ls 5 [(0, .ref (a 3)), (1, .int x1), (2, .int x2), (3, .int x3), (4, .int x4)] → va_P (dC, dI) vC (wC a cI cC F A) H → va_D (va_A (wC a cI cC Fa Aa) s.heap.size) (wC a cI cC F A) → va_S (va_A (wC a cI cC Fa Aa) s.heap.size) s.heap H locs → f_K_put_L3 n x1 x2 x3 x4 F A = some (r0, F9, A9) → W p l e (headSpec (Cond.code y_K_put b_K_put 5 (some .int) :: wA) ({ frames := 0, cells := 0, slots := 0, locals := 0 } : Room)).room s m ([.ref (a 3), .int u1, .int u2, .int u3] : List Value).toArray below meth c H locs 0 0 (MQ below (cc_Qi (dC, dI) vC [(cI, .int), (cC, .char)] (wC a cI cC Fa Aa) s.heap.size (wC a cI cC F9 A9) r0) ([.ref (a 3), .int u1, .int u2, .int u3] : List Value).toArray s 0 0 (va_A (wC a cI cC Fa Aa) s.heap.size)) (F0 m 3 ls []) := by
    intro n
    induction n with
    | zero => intro x1 x2 x3 x4 F A H locs ls hl hP hD hS hf; cases hf
    | succ n ih =>
      intro x1 x2 x3 x4 F A H locs ls hl hP hD hS hf
      rw [f_K_put_L3] at hf
      refine lv_iload hx hb d_K_put_3 (lv_at hl 4 rfl) ?_
      refine lv_aload_n hx hb d_K_put_5 rfl (lv_at hl 0 rfl) ?_
      refine va_get (D := (dC, dI)) (ci := 0) (v := .int (F 2)) (C := R_K) (T := T_K) (N := 7) hx hb hts in_K hown hK hP 3 rfl rfl 5 (by decide) (hts _ mw_45) (fun _ h9 => h9) rfl d_K_put_6 ?_
      refine lv_icmp_ge (tgt := 54) hx hb d_K_put_9 (by decide) (fun h9_1 => ?_) (fun h9_1 => ?_)
      · rw [if_pos h9_1] at hf
        refine lv_aload_n hx hb d_K_put_54 rfl (lv_at hl 0 rfl) ?_
        refine va_get (D := (dC, dI)) (ci := 0) (v := .int (F 2)) (C := R_K) (T := T_K) (N := 7) hx hb hts in_K hown hK hP 3 rfl rfl 5 (by decide) (hts _ mw_45) (fun _ h9 => h9) rfl d_K_put_55 ?_
        refine lv_bipush (v := 100) hx hb d_K_put_58 (by decide) ?_
        refine lv_icmp_ne (tgt := 70) hx hb d_K_put_60 (by decide) (fun h60_2 => ?_) (fun h60_2 => ?_)
        · rw [if_neg h60_2] at hf
          refine lv_aload_n hx hb d_K_put_70 rfl (lv_at hl 0 rfl) ?_
          refine va_get (D := (dC, dI)) (ci := 0) (v := .ref (a 4)) (C := R_K) (T := T_K) (N := 7) hx hb hts in_K hown hK hP 3 rfl rfl 0 (by decide) (hts _ mw_29) (fun _ h9 => h9) rfl d_K_put_71 ?_
          refine lv_aload_n hx hb d_K_put_74 rfl (lv_at hl 0 rfl) ?_
          refine va_get (D := (dC, dI)) (ci := 0) (v := .int (F 2)) (C := R_K) (T := T_K) (N := 7) hx hb hts in_K hown hK hP 3 rfl rfl 5 (by decide) (hts _ mw_45) (fun _ h9 => h9) rfl d_K_put_75 ?_
          refine lv_iload_n hx hb d_K_put_78 rfl (lv_at hl 1 rfl) ?_
          obtain ⟨hi, hf⟩ := ra_g_some hf
          refine va_iast hx hb hK hP hD hS 4 0 rfl rfl hi d_K_put_79 (fun H locs hP hD hS => ?_)
          have hP : va_P (dC, dI) vC [((a 0), .inr (1, [.ref (a 1), .ref (a 2), .int (F 0), .int (F 1), .ref (a 3)])), ((a 1), .inl (cI, 26, .inl (A 0))), ((a 2), .inl (cC, 160, .inl (A 1))), ((a 3), .inr (0, [.ref (a 4), .ref (a 5), .ref (a 6), .ref (a 7), .ref (a 8), .int (F 2), .int (F 3)])), ((a 4), .inl (cI, 100, .inl (upd (A 2) (F 2).toNatClampNeg x1))), ((a 5), .inl (cI, 100, .inl (A 3))), ((a 6), .inl (cI, 100, .inl (A 4))), ((a 7), .inl (cI, 3, .inl (A 5))), ((a 8), .inl (cI, 26, .inl (A 6)))] H := hP
          have hD : va_D (va_A (wC a cI cC Fa Aa) s.heap.size) [((a 0), .inr (1, [.ref (a 1), .ref (a 2), .int (F 0), .int (F 1), .ref (a 3)])), ((a 1), .inl (cI, 26, .inl (A 0))), ((a 2), .inl (cC, 160, .inl (A 1))), ((a 3), .inr (0, [.ref (a 4), .ref (a 5), .ref (a 6), .ref (a 7), .ref (a 8), .int (F 2), .int (F 3)])), ((a 4), .inl (cI, 100, .inl (upd (A 2) (F 2).toNatClampNeg x1))), ((a 5), .inl (cI, 100, .inl (A 3))), ((a 6), .inl (cI, 100, .inl (A 4))), ((a 7), .inl (cI, 3, .inl (A 5))), ((a 8), .inl (cI, 26, .inl (A 6)))] := hD
          refine lv_aload_n hx hb d_K_put_80 rfl (lv_at hl 0 rfl) ?_
          refine va_get (D := (dC, dI)) (ci := 0) (v := .ref (a 5)) (C := R_K) (T := T_K) (N := 7) hx hb hts in_K hown hK hP 3 rfl rfl 1 (by decide) (hts _ mw_32) (fun _ h9 => h9) rfl d_K_put_81 ?_
          refine lv_aload_n hx hb d_K_put_84 rfl (lv_at hl 0 rfl) ?_
          refine va_get (D := (dC, dI)) (ci := 0) (v := .int (F 2)) (C := R_K) (T := T_K) (N := 7) hx hb hts in_K hown hK hP 3 rfl rfl 5 (by decide) (hts _ mw_45) (fun _ h9 => h9) rfl d_K_put_85 ?_
          refine lv_iload_n hx hb d_K_put_88 rfl (lv_at hl 2 rfl) ?_
          obtain ⟨hi, hf⟩ := ra_g_some hf
          refine va_iast hx hb hK hP hD hS 5 0 rfl rfl hi d_K_put_89 (fun H locs hP hD hS => ?_)
          have hP : va_P (dC, dI) vC [((a 0), .inr (1, [.ref (a 1), .ref (a 2), .int (F 0), .int (F 1), .ref (a 3)])), ((a 1), .inl (cI, 26, .inl (A 0))), ((a 2), .inl (cC, 160, .inl (A 1))), ((a 3), .inr (0, [.ref (a 4), .ref (a 5), .ref (a 6), .ref (a 7), .ref (a 8), .int (F 2), .int (F 3)])), ((a 4), .inl (cI, 100, .inl (upd (A 2) (F 2).toNatClampNeg x1))), ((a 5), .inl (cI, 100, .inl (upd (A 3) (F 2).toNatClampNeg x2))), ((a 6), .inl (cI, 100, .inl (A 4))), ((a 7), .inl (cI, 3, .inl (A 5))), ((a 8), .inl (cI, 26, .inl (A 6)))] H := hP
          have hD : va_D (va_A (wC a cI cC Fa Aa) s.heap.size) [((a 0), .inr (1, [.ref (a 1), .ref (a 2), .int (F 0), .int (F 1), .ref (a 3)])), ((a 1), .inl (cI, 26, .inl (A 0))), ((a 2), .inl (cC, 160, .inl (A 1))), ((a 3), .inr (0, [.ref (a 4), .ref (a 5), .ref (a 6), .ref (a 7), .ref (a 8), .int (F 2), .int (F 3)])), ((a 4), .inl (cI, 100, .inl (upd (A 2) (F 2).toNatClampNeg x1))), ((a 5), .inl (cI, 100, .inl (upd (A 3) (F 2).toNatClampNeg x2))), ((a 6), .inl (cI, 100, .inl (A 4))), ((a 7), .inl (cI, 3, .inl (A 5))), ((a 8), .inl (cI, 26, .inl (A 6)))] := hD
          refine lv_aload_n hx hb d_K_put_90 rfl (lv_at hl 0 rfl) ?_
          refine va_get (D := (dC, dI)) (ci := 0) (v := .ref (a 6)) (C := R_K) (T := T_K) (N := 7) hx hb hts in_K hown hK hP 3 rfl rfl 2 (by decide) (hts _ mw_35) (fun _ h9 => h9) rfl d_K_put_91 ?_
          refine lv_aload_n hx hb d_K_put_94 rfl (lv_at hl 0 rfl) ?_
          refine va_get (D := (dC, dI)) (ci := 0) (v := .int (F 2)) (C := R_K) (T := T_K) (N := 7) hx hb hts in_K hown hK hP 3 rfl rfl 5 (by decide) (hts _ mw_45) (fun _ h9 => h9) rfl d_K_put_95 ?_
          refine lv_iload_n hx hb d_K_put_98 rfl (lv_at hl 3 rfl) ?_
          obtain ⟨hi, hf⟩ := ra_g_some hf
          refine va_iast hx hb hK hP hD hS 6 0 rfl rfl hi d_K_put_99 (fun H locs hP hD hS => ?_)
          have hP : va_P (dC, dI) vC [((a 0), .inr (1, [.ref (a 1), .ref (a 2), .int (F 0), .int (F 1), .ref (a 3)])), ((a 1), .inl (cI, 26, .inl (A 0))), ((a 2), .inl (cC, 160, .inl (A 1))), ((a 3), .inr (0, [.ref (a 4), .ref (a 5), .ref (a 6), .ref (a 7), .ref (a 8), .int (F 2), .int (F 3)])), ((a 4), .inl (cI, 100, .inl (upd (A 2) (F 2).toNatClampNeg x1))), ((a 5), .inl (cI, 100, .inl (upd (A 3) (F 2).toNatClampNeg x2))), ((a 6), .inl (cI, 100, .inl (upd (A 4) (F 2).toNatClampNeg x3))), ((a 7), .inl (cI, 3, .inl (A 5))), ((a 8), .inl (cI, 26, .inl (A 6)))] H := hP
          have hD : va_D (va_A (wC a cI cC Fa Aa) s.heap.size) [((a 0), .inr (1, [.ref (a 1), .ref (a 2), .int (F 0), .int (F 1), .ref (a 3)])), ((a 1), .inl (cI, 26, .inl (A 0))), ((a 2), .inl (cC, 160, .inl (A 1))), ((a 3), .inr (0, [.ref (a 4), .ref (a 5), .ref (a 6), .ref (a 7), .ref (a 8), .int (F 2), .int (F 3)])), ((a 4), .inl (cI, 100, .inl (upd (A 2) (F 2).toNatClampNeg x1))), ((a 5), .inl (cI, 100, .inl (upd (A 3) (F 2).toNatClampNeg x2))), ((a 6), .inl (cI, 100, .inl (upd (A 4) (F 2).toNatClampNeg x3))), ((a 7), .inl (cI, 3, .inl (A 5))), ((a 8), .inl (cI, 26, .inl (A 6)))] := hD
          refine lv_aload_n hx hb d_K_put_100 rfl (lv_at hl 0 rfl) ?_
          refine lv_dup hx hb d_K_put_101 rfl ?_
          refine va_get (D := (dC, dI)) (ci := 0) (v := .int (F 2)) (C := R_K) (T := T_K) (N := 7) hx hb hts in_K hown hK hP 3 rfl rfl 5 (by decide) (hts _ mw_45) (fun _ h9 => h9) rfl d_K_put_102 ?_
          refine lv_iconst (v := 1) hx hb d_K_put_105 (by decide) ?_
          refine lv_iadd hx hb d_K_put_106 ?_
          refine va_put (D := (dC, dI)) (ci := 0) (v := .int ((F 2) + (1 : Int32))) (ty := .int) (C := R_K) (T := T_K) (N := 7) hx hb hts in_K ty_K ty_K_ok nm_K hown hK hP hD hS 3 rfl rfl 5 (by decide) (hts _ mw_45) (fun _ h9 => h9) rfl (by decide +kernel) rfl rfl (Nat.le_of_ble_eq_true rfl) d_K_put_107 (fun H locs hP hD hS => ?_)
          have hP : va_P (dC, dI) vC [((a 0), .inr (1, [.ref (a 1), .ref (a 2), .int (F 0), .int (F 1), .ref (a 3)])), ((a 1), .inl (cI, 26, .inl (A 0))), ((a 2), .inl (cC, 160, .inl (A 1))), ((a 3), .inr (0, [.ref (a 4), .ref (a 5), .ref (a 6), .ref (a 7), .ref (a 8), .int ((F 2) + (1 : Int32)), .int (F 3)])), ((a 4), .inl (cI, 100, .inl (upd (A 2) (F 2).toNatClampNeg x1))), ((a 5), .inl (cI, 100, .inl (upd (A 3) (F 2).toNatClampNeg x2))), ((a 6), .inl (cI, 100, .inl (upd (A 4) (F 2).toNatClampNeg x3))), ((a 7), .inl (cI, 3, .inl (A 5))), ((a 8), .inl (cI, 26, .inl (A 6)))] H := hP
          have hD : va_D (va_A (wC a cI cC Fa Aa) s.heap.size) [((a 0), .inr (1, [.ref (a 1), .ref (a 2), .int (F 0), .int (F 1), .ref (a 3)])), ((a 1), .inl (cI, 26, .inl (A 0))), ((a 2), .inl (cC, 160, .inl (A 1))), ((a 3), .inr (0, [.ref (a 4), .ref (a 5), .ref (a 6), .ref (a 7), .ref (a 8), .int ((F 2) + (1 : Int32)), .int (F 3)])), ((a 4), .inl (cI, 100, .inl (upd (A 2) (F 2).toNatClampNeg x1))), ((a 5), .inl (cI, 100, .inl (upd (A 3) (F 2).toNatClampNeg x2))), ((a 6), .inl (cI, 100, .inl (upd (A 4) (F 2).toNatClampNeg x3))), ((a 7), .inl (cI, 3, .inl (A 5))), ((a 8), .inl (cI, 26, .inl (A 6)))] := hD
          refine lv_aload_n hx hb d_K_put_110 rfl (lv_at hl 0 rfl) ?_
          refine va_get (D := (dC, dI)) (ci := 0) (v := .int ((F 2) + (1 : Int32))) (C := R_K) (T := T_K) (N := 7) hx hb hts in_K hown hK hP 3 rfl rfl 5 (by decide) (hts _ mw_45) (fun _ h9 => h9) rfl d_K_put_111 ?_
          refine lv_iconst (v := 1) hx hb d_K_put_114 (by decide) ?_
          refine lv_isub hx hb d_K_put_115 ?_
          cases hf
          exact W.iret hx hb hr (fun t ht hW => ⟨⟨_, (), rfl, rfl, by rw [ht]; exact hP, va_K.moved hW.alike hK, hD⟩, hS.F ht⟩) hS.2.2 d_K_put_116
        · rw [if_pos h60_2] at hf
          refine lv_aload_n hx hb d_K_put_63 rfl (lv_at hl 0 rfl) ?_
          refine lv_iconst (v := 1) hx hb d_K_put_64 (by decide) ?_
          refine va_put (D := (dC, dI)) (ci := 0) (v := .int (1 : Int32)) (ty := .boolean) (C := R_K) (T := T_K) (N := 7) hx hb hts in_K ty_K ty_K_ok nm_K hown hK hP hD hS 3 rfl rfl 6 (by decide) (hts _ mw_48) (fun _ h9 => h9) rfl (by decide +kernel) rfl rfl (Nat.le_of_ble_eq_true rfl) d_K_put_65 (fun H locs hP hD hS => ?_)
          have hP : va_P (dC, dI) vC [((a 0), .inr (1, [.ref (a 1), .ref (a 2), .int (F 0), .int (F 1), .ref (a 3)])), ((a 1), .inl (cI, 26, .inl (A 0))), ((a 2), .inl (cC, 160, .inl (A 1))), ((a 3), .inr (0, [.ref (a 4), .ref (a 5), .ref (a 6), .ref (a 7), .ref (a 8), .int (F 2), .int (1 : Int32)])), ((a 4), .inl (cI, 100, .inl (A 2))), ((a 5), .inl (cI, 100, .inl (A 3))), ((a 6), .inl (cI, 100, .inl (A 4))), ((a 7), .inl (cI, 3, .inl (A 5))), ((a 8), .inl (cI, 26, .inl (A 6)))] H := hP
          have hD : va_D (va_A (wC a cI cC Fa Aa) s.heap.size) [((a 0), .inr (1, [.ref (a 1), .ref (a 2), .int (F 0), .int (F 1), .ref (a 3)])), ((a 1), .inl (cI, 26, .inl (A 0))), ((a 2), .inl (cC, 160, .inl (A 1))), ((a 3), .inr (0, [.ref (a 4), .ref (a 5), .ref (a 6), .ref (a 7), .ref (a 8), .int (F 2), .int (1 : Int32)])), ((a 4), .inl (cI, 100, .inl (A 2))), ((a 5), .inl (cI, 100, .inl (A 3))), ((a 6), .inl (cI, 100, .inl (A 4))), ((a 7), .inl (cI, 3, .inl (A 5))), ((a 8), .inl (cI, 26, .inl (A 6)))] := hD
          refine lv_iconst (v := 0) hx hb d_K_put_68 (by decide) ?_
          cases hf
          exact W.iret hx hb hr (fun t ht hW => ⟨⟨_, (), rfl, rfl, by rw [ht]; exact hP, va_K.moved hW.alike hK, hD⟩, hS.F ht⟩) hS.2.2 d_K_put_69
      · rw [if_neg h9_1] at hf
        refine lv_aload_n hx hb d_K_put_12 rfl (lv_at hl 0 rfl) ?_
        refine va_get (D := (dC, dI)) (ci := 0) (v := .ref (a 4)) (C := R_K) (T := T_K) (N := 7) hx hb hts in_K hown hK hP 3 rfl rfl 0 (by decide) (hts _ mw_29) (fun _ h9 => h9) rfl d_K_put_13 ?_
        refine lv_iload hx hb d_K_put_16 (lv_at hl 4 rfl) ?_
        obtain ⟨hi, hf⟩ := ra_g_some hf
        refine va_iald hx hb hK hP 4 0 rfl rfl hi d_K_put_18 ?_
        refine lv_iload_n hx hb d_K_put_19 rfl (lv_at hl 1 rfl) ?_
        refine lv_icmp_ne (tgt := 48) hx hb d_K_put_20 (by decide) (fun h20_3 => ?_) (fun h20_3 => ?_)
        · rw [if_neg h20_3] at hf
          refine lv_iinc (k := 4) (v := (x4 + (1 : Int32))) hx hb d_K_put_48 hl rfl (by rfl) (by decide) rfl (fun ls hl => ?_)
          have hl : lv_has ls 5 [(4, .int (x4 + (1 : Int32))), (0, .ref (a 3)), (1, .int x1), (2, .int x2), (3, .int x3)] := hl
          refine lv_goto (tgt := 3) hx hb d_K_put_51 (by decide) ?_
          have hl : lv_has ls 5 [(0, .ref (a 3)), (1, .int x1), (2, .int x2), (3, .int x3), (4, .int (x4 + (1 : Int32)))] := lv_sub hl [1, 2, 3, 4, 0] rfl
          exact ih x1 x2 x3 (x4 + (1 : Int32)) F A _ _ _ hl hP hD hS hf
        · rw [if_pos h20_3] at hf
          refine lv_aload_n hx hb d_K_put_23 rfl (lv_at hl 0 rfl) ?_
          refine va_get (D := (dC, dI)) (ci := 0) (v := .ref (a 5)) (C := R_K) (T := T_K) (N := 7) hx hb hts in_K hown hK hP 3 rfl rfl 1 (by decide) (hts _ mw_32) (fun _ h9 => h9) rfl d_K_put_24 ?_
          refine lv_iload hx hb d_K_put_27 (lv_at hl 4 rfl) ?_
          obtain ⟨hi, hf⟩ := ra_g_some hf
          refine va_iald hx hb hK hP 5 0 rfl rfl hi d_K_put_29 ?_
          refine lv_iload_n hx hb d_K_put_30 rfl (lv_at hl 2 rfl) ?_
          refine lv_icmp_ne (tgt := 48) hx hb d_K_put_31 (by decide) (fun h31_4 => ?_) (fun h31_4 => ?_)
          · rw [if_neg h31_4] at hf
            refine lv_iinc (k := 4) (v := (x4 + (1 : Int32))) hx hb d_K_put_48 hl rfl (by rfl) (by decide) rfl (fun ls hl => ?_)
            have hl : lv_has ls 5 [(4, .int (x4 + (1 : Int32))), (0, .ref (a 3)), (1, .int x1), (2, .int x2), (3, .int x3)] := hl
            refine lv_goto (tgt := 3) hx hb d_K_put_51 (by decide) ?_
            have hl : lv_has ls 5 [(0, .ref (a 3)), (1, .int x1), (2, .int x2), (3, .int x3), (4, .int (x4 + (1 : Int32)))] := lv_sub hl [1, 2, 3, 4, 0] rfl
            exact ih x1 x2 x3 (x4 + (1 : Int32)) F A _ _ _ hl hP hD hS hf
          · rw [if_pos h31_4] at hf
            refine lv_aload_n hx hb d_K_put_34 rfl (lv_at hl 0 rfl) ?_
            refine va_get (D := (dC, dI)) (ci := 0) (v := .ref (a 6)) (C := R_K) (T := T_K) (N := 7) hx hb hts in_K hown hK hP 3 rfl rfl 2 (by decide) (hts _ mw_35) (fun _ h9 => h9) rfl d_K_put_35 ?_
            refine lv_iload hx hb d_K_put_38 (lv_at hl 4 rfl) ?_
            obtain ⟨hi, hf⟩ := ra_g_some hf
            refine va_iald hx hb hK hP 6 0 rfl rfl hi d_K_put_40 ?_
            refine lv_iload_n hx hb d_K_put_41 rfl (lv_at hl 3 rfl) ?_
            refine lv_icmp_ne (tgt := 48) hx hb d_K_put_42 (by decide) (fun h42_5 => ?_) (fun h42_5 => ?_)
            · rw [if_neg h42_5] at hf
              refine lv_iinc (k := 4) (v := (x4 + (1 : Int32))) hx hb d_K_put_48 hl rfl (by rfl) (by decide) rfl (fun ls hl => ?_)
              have hl : lv_has ls 5 [(4, .int (x4 + (1 : Int32))), (0, .ref (a 3)), (1, .int x1), (2, .int x2), (3, .int x3)] := hl
              refine lv_goto (tgt := 3) hx hb d_K_put_51 (by decide) ?_
              have hl : lv_has ls 5 [(0, .ref (a 3)), (1, .int x1), (2, .int x2), (3, .int x3), (4, .int (x4 + (1 : Int32)))] := lv_sub hl [1, 2, 3, 4, 0] rfl
              exact ih x1 x2 x3 (x4 + (1 : Int32)) F A _ _ _ hl hP hD hS hf
            · rw [if_pos h42_5] at hf
              refine lv_iload hx hb d_K_put_45 (lv_at hl 4 rfl) ?_
              cases hf
              exact W.iret hx hb hr (fun t ht hW => ⟨⟨_, (), rfl, rfl, by rw [ht]; exact hP, va_K.moved hW.alike hK, hD⟩, hS.F ht⟩) hS.2.2 d_K_put_47
  rw [lg_entry_eq]
  generalize (lg_sl (([.ref (a 3), .int u1, .int u2, .int u3] : List Value)) ++ List.replicate (5 - (lg_sl (([.ref (a 3), .int u1, .int u2, .int u3] : List Value))).length) Slot.unset).toArray = ls at hl ⊢
  have hl : lv_has ls 5 [(0, .ref (a 3)), (1, .int u1), (2, .int u2), (3, .int u3)] := hl
  unfold f_K_put at hf
  refine lv_iconst (v := 0) hx hb d_K_put_0 (by decide) ?_
  refine lv_istore hx hb d_K_put_1 hl (by decide) rfl (fun ls hl => ?_)
  have hl : lv_has ls 5 [(4, .int (0 : Int32)), (0, .ref (a 3)), (1, .int u1), (2, .int u2), (3, .int u3)] := hl
  have hl : lv_has ls 5 [(0, .ref (a 3)), (1, .int u1), (2, .int u2), (3, .int u3), (4, .int (0 : Int32))] := lv_sub hl [1, 2, 3, 4, 0] rfl
  exact L3 200 u1 u2 u3 (0 : Int32) Fa Aa _ _ _ hl hP hD hS hf
def f_K_clear  (Fa : ST_F) (Aa : ST_A) : Option (ST_F × ST_A) := some ((upd (upd Fa 2 (0 : Int32)) 3 (0 : Int32)), Aa)
set_option maxHeartbeats 4000000 in
set_option maxRecDepth 100000 in
theorem k_K_clear (l : Launch) (dC : Nat → ClassId) (dI : Nat → Nat → Nat) (a : Nat → Nat) (cI cC : ClassId) (sz : Nat) (Fa : ST_F) (Aa : ST_A)  (F9 : ST_F) (A9 : ST_A) (hf : f_K_clear  Fa Aa = some (F9, A9)) : cc_MetV l y_K_clear (Cond.code y_K_clear b_K_clear 1 none :: wA) ({ frames := 0, cells := 0, slots := 0, locals := 0 } : Room) (dC, dI) vC [(cI, .int), (cC, .char)] ([.ref (a 3)] : List Value) (wC a cI cC Fa Aa) sz (wC a cI cC F9 A9) := by
  refine Met.ofW (cc := b_K_clear) (maxL := 1) (ret := none) (by decide) rfl ?_
  intro p e s m args below meth c s₁ B hml hv
  obtain ⟨rfl, hsz, hP, hK, hD0⟩ := hv
  have hx := B.exec
  have hb := B.bytes
  have hr := B.returns
  have hts := fun w h => atoms_spec (ws := (Cond.code y_K_clear b_K_clear 1 none :: wA)) B.pre w (List.mem_cons_of_mem _ h)
  have hown : s.vm.findClass R_K = some m.cls := findClass_of_methodNamed B.named
  have hlocks := B.notSynchronized
  subst hsz
  have hD := hD0.self (sz := s.heap.size)
  have hA : ∀ q : Nat, s.heap.size ≤ q → va_A (wC a cI cC Fa Aa) s.heap.size q := fun q h => Or.inr h
  have hS : va_S (va_A (wC a cI cC Fa Aa) s.heap.size) s.heap s.heap [] := va_S.rf
  have hl := lv_entry (([.ref (a 3)] : List Value)) (n := 1) (Nat.le_of_ble_eq_true rfl)
  rw [lg_entry_eq]
  generalize (lg_sl (([.ref (a 3)] : List Value)) ++ List.replicate (1 - (lg_sl (([.ref (a 3)] : List Value))).length) Slot.unset).toArray = ls at hl ⊢
  have hl : lv_has ls 1 [(0, .ref (a 3))] := hl
  unfold f_K_clear at hf
  refine lv_aload_n hx hb d_K_clear_0 rfl (lv_at hl 0 rfl) ?_
  refine lv_iconst (v := 0) hx hb d_K_clear_1 (by decide) ?_
  refine va_put (D := (dC, dI)) (ci := 0) (v := .int (0 : Int32)) (ty := .int) (C := R_K) (T := T_K) (N := 7) hx hb hts in_K ty_K ty_K_ok nm_K hown hK hP hD hS 3 rfl rfl 5 (by decide) (hts _ mw_45) (fun _ h9 => h9) rfl (by decide +kernel) rfl rfl (Nat.le_of_ble_eq_true rfl) d_K_clear_2 (fun H locs hP hD hS => ?_)
  have hP : va_P (dC, dI) vC [((a 0), .inr (1, [.ref (a 1), .ref (a 2), .int (Fa 0), .int (Fa 1), .ref (a 3)])), ((a 1), .inl (cI, 26, .inl (Aa 0))), ((a 2), .inl (cC, 160, .inl (Aa 1))), ((a 3), .inr (0, [.ref (a 4), .ref (a 5), .ref (a 6), .ref (a 7), .ref (a 8), .int (0 : Int32), .int (Fa 3)])), ((a 4), .inl (cI, 100, .inl (Aa 2))), ((a 5), .inl (cI, 100, .inl (Aa 3))), ((a 6), .inl (cI, 100, .inl (Aa 4))), ((a 7), .inl (cI, 3, .inl (Aa 5))), ((a 8), .inl (cI, 26, .inl (Aa 6)))] H := hP
  have hD : va_D (va_A (wC a cI cC Fa Aa) s.heap.size) [((a 0), .inr (1, [.ref (a 1), .ref (a 2), .int (Fa 0), .int (Fa 1), .ref (a 3)])), ((a 1), .inl (cI, 26, .inl (Aa 0))), ((a 2), .inl (cC, 160, .inl (Aa 1))), ((a 3), .inr (0, [.ref (a 4), .ref (a 5), .ref (a 6), .ref (a 7), .ref (a 8), .int (0 : Int32), .int (Fa 3)])), ((a 4), .inl (cI, 100, .inl (Aa 2))), ((a 5), .inl (cI, 100, .inl (Aa 3))), ((a 6), .inl (cI, 100, .inl (Aa 4))), ((a 7), .inl (cI, 3, .inl (Aa 5))), ((a 8), .inl (cI, 26, .inl (Aa 6)))] := hD
  refine lv_aload_n hx hb d_K_clear_5 rfl (lv_at hl 0 rfl) ?_
  refine lv_iconst (v := 0) hx hb d_K_clear_6 (by decide) ?_
  refine va_put (D := (dC, dI)) (ci := 0) (v := .int (0 : Int32)) (ty := .boolean) (C := R_K) (T := T_K) (N := 7) hx hb hts in_K ty_K ty_K_ok nm_K hown hK hP hD hS 3 rfl rfl 6 (by decide) (hts _ mw_48) (fun _ h9 => h9) rfl (by decide +kernel) rfl rfl (Nat.le_of_ble_eq_true rfl) d_K_clear_7 (fun H locs hP hD hS => ?_)
  have hP : va_P (dC, dI) vC [((a 0), .inr (1, [.ref (a 1), .ref (a 2), .int (Fa 0), .int (Fa 1), .ref (a 3)])), ((a 1), .inl (cI, 26, .inl (Aa 0))), ((a 2), .inl (cC, 160, .inl (Aa 1))), ((a 3), .inr (0, [.ref (a 4), .ref (a 5), .ref (a 6), .ref (a 7), .ref (a 8), .int (0 : Int32), .int (0 : Int32)])), ((a 4), .inl (cI, 100, .inl (Aa 2))), ((a 5), .inl (cI, 100, .inl (Aa 3))), ((a 6), .inl (cI, 100, .inl (Aa 4))), ((a 7), .inl (cI, 3, .inl (Aa 5))), ((a 8), .inl (cI, 26, .inl (Aa 6)))] H := hP
  have hD : va_D (va_A (wC a cI cC Fa Aa) s.heap.size) [((a 0), .inr (1, [.ref (a 1), .ref (a 2), .int (Fa 0), .int (Fa 1), .ref (a 3)])), ((a 1), .inl (cI, 26, .inl (Aa 0))), ((a 2), .inl (cC, 160, .inl (Aa 1))), ((a 3), .inr (0, [.ref (a 4), .ref (a 5), .ref (a 6), .ref (a 7), .ref (a 8), .int (0 : Int32), .int (0 : Int32)])), ((a 4), .inl (cI, 100, .inl (Aa 2))), ((a 5), .inl (cI, 100, .inl (Aa 3))), ((a 6), .inl (cI, 100, .inl (Aa 4))), ((a 7), .inl (cI, 3, .inl (Aa 5))), ((a 8), .inl (cI, 26, .inl (Aa 6)))] := hD
  cases hf
  exact W.vret hx hb hr (fun t ht hW => ⟨⟨(), rfl, trivial, by rw [ht]; exact hP, va_K.moved hW.alike hK, hD⟩, hS.F ht⟩) hS.2.2 d_K_clear_10
def f_C_next  (Fa : ST_F) (Aa : ST_A) : Option (Int32 × ST_F × ST_A) := if (Fa 0) ≤ (Fa 1) then (some ((0 : Int32), Fa, Aa)) else (ra_g (Fa 1) 160 (ra_nc ((Aa 1) (Fa 1).toNatClampNeg) (some (((Aa 1) (Fa 1).toNatClampNeg), Fa, Aa))))
set_option maxHeartbeats 4000000 in
set_option maxRecDepth 100000 in
theorem k_C_next (l : Launch) (dC : Nat → ClassId) (dI : Nat → Nat → Nat) (a : Nat → Nat) (cI cC : ClassId) (sz : Nat) (Fa : ST_F) (Aa : ST_A)  (r0 : Int32) (F9 : ST_F) (A9 : ST_A) (hf : f_C_next  Fa Aa = some (r0, F9, A9)) : cc_MetI l y_C_next (Cond.code y_C_next b_C_next 1 (some .char) :: wA) ({ frames := 0, cells := 0, slots := 0, locals := 0 } : Room) (dC, dI) vC [(cI, .int), (cC, .char)] ([.ref (a 0)] : List Value) (wC a cI cC Fa Aa) sz (wC a cI cC F9 A9) r0 := by
  refine Met.ofW (cc := b_C_next) (maxL := 1) (ret := (some .char)) (by decide) rfl ?_
  intro p e s m args below meth c s₁ B hml hv
  obtain ⟨rfl, hsz, hP, hK, hD0⟩ := hv
  have hx := B.exec
  have hb := B.bytes
  have hr := B.returns
  have hts := fun w h => atoms_spec (ws := (Cond.code y_C_next b_C_next 1 (some .char) :: wA)) B.pre w (List.mem_cons_of_mem _ h)
  have hown : s.vm.findClass R_C = some m.cls := findClass_of_methodNamed B.named
  have hlocks := B.notSynchronized
  subst hsz
  have hD := hD0.self (sz := s.heap.size)
  have hA : ∀ q : Nat, s.heap.size ≤ q → va_A (wC a cI cC Fa Aa) s.heap.size q := fun q h => Or.inr h
  have hS : va_S (va_A (wC a cI cC Fa Aa) s.heap.size) s.heap s.heap [] := va_S.rf
  have hl := lv_entry (([.ref (a 0)] : List Value)) (n := 1) (Nat.le_of_ble_eq_true rfl)
  rw [lg_entry_eq]
  generalize (lg_sl (([.ref (a 0)] : List Value)) ++ List.replicate (1 - (lg_sl (([.ref (a 0)] : List Value))).length) Slot.unset).toArray = ls at hl ⊢
  have hl : lv_has ls 1 [(0, .ref (a 0))] := hl
  unfold f_C_next at hf
  refine lv_aload_n hx hb d_C_next_0 rfl (lv_at hl 0 rfl) ?_
  refine va_get (D := (dC, dI)) (ci := 1) (v := .int (Fa 1)) (C := R_C) (T := T_C) (N := 5) hx hb hts in_C hown hK hP 0 rfl rfl 3 (by decide) (hts _ mw_78) (fun _ h9 => h9) rfl d_C_next_1 ?_
  refine lv_aload_n hx hb d_C_next_4 rfl (lv_at hl 0 rfl) ?_
  refine va_get (D := (dC, dI)) (ci := 1) (v := .int (Fa 0)) (C := R_C) (T := T_C) (N := 5) hx hb hts in_C hown hK hP 0 rfl rfl 2 (by decide) (hts _ mw_77) (fun _ h9 => h9) rfl d_C_next_5 ?_
  refine lv_icmp_ge (tgt := 23) hx hb d_C_next_8 (by decide) (fun h8_1 => ?_) (fun h8_1 => ?_)
  · rw [if_pos h8_1] at hf
    refine lv_iconst (v := 0) hx hb d_C_next_23 (by decide) ?_
    cases hf
    exact W.zret hx hb hr (by rfl) (fun t ht hW => ⟨⟨_, (), rfl, rfl, by rw [ht]; exact hP, va_K.moved hW.alike hK, hD⟩, hS.F ht⟩) hS.2.2 d_C_next_24
  · rw [if_neg h8_1] at hf
    refine lv_aload_n hx hb d_C_next_11 rfl (lv_at hl 0 rfl) ?_
    refine va_get (D := (dC, dI)) (ci := 1) (v := .ref (a 2)) (C := R_C) (T := T_C) (N := 5) hx hb hts in_C hown hK hP 0 rfl rfl 1 (by decide) (hts _ mw_76) (fun _ h9 => h9) rfl d_C_next_12 ?_
    refine lv_aload_n hx hb d_C_next_15 rfl (lv_at hl 0 rfl) ?_
    refine va_get (D := (dC, dI)) (ci := 1) (v := .int (Fa 1)) (C := R_C) (T := T_C) (N := 5) hx hb hts in_C hown hK hP 0 rfl rfl 3 (by decide) (hts _ mw_78) (fun _ h9 => h9) rfl d_C_next_16 ?_
    obtain ⟨hi, hf⟩ := ra_g_some hf
    refine va_cald hx hb hK hP 2 1 rfl rfl hi d_C_next_19 ?_
    refine lv_goto (tgt := 24) hx hb d_C_next_20 (by decide) ?_
    obtain ⟨hn, hf⟩ := ra_nc_some hf
    cases hf
    exact W.zret hx hb hr hn (fun t ht hW => ⟨⟨_, (), rfl, rfl, by rw [ht]; exact hP, va_K.moved hW.alike hK, hD⟩, hS.F ht⟩) hS.2.2 d_C_next_24
def f_C_takes (u1 : Int32) (Fa : ST_F) (Aa : ST_A) : Option (Int32 × ST_F × ST_A) := ra_bi (f_C_next  Fa Aa) (fun r1 F1 A1 => if r1 = u1 then (some ((1 : Int32), (upd F1 1 ((F1 1) + (1 : Int32))), A1)) else (some ((0 : Int32), F1, A1)))
set_option maxHeartbeats 4000000 in
set_option maxRecDepth 100000 in
theorem k_C_takes (l : Launch) (dC : Nat → ClassId) (dI : Nat → Nat → Nat) (a : Nat → Nat) (cI cC : ClassId) (sz : Nat) (Fa : ST_F) (Aa : ST_A) (u1 : Int32) (r0 : Int32) (F9 : ST_F) (A9 : ST_A) (hf : f_C_takes u1 Fa Aa = some (r0, F9, A9)) : cc_MetI l y_C_takes (Cond.code y_C_takes b_C_takes 2 (some .boolean) :: wA) ({ frames := 1, cells := 0, slots := 0, locals := 20 } : Room) (dC, dI) vC [(cI, .int), (cC, .char)] ([.ref (a 0), .int u1] : List Value) (wC a cI cC Fa Aa) sz (wC a cI cC F9 A9) r0 := by
  refine Met.ofW (cc := b_C_takes) (maxL := 2) (ret := (some .boolean)) (by decide) rfl ?_
  intro p e s m args below meth c s₁ B hml hv
  obtain ⟨rfl, hsz, hP, hK, hD0⟩ := hv
  have hx := B.exec
  have hb := B.bytes
  have hr := B.returns
  have hts := fun w h => atoms_spec (ws := (Cond.code y_C_takes b_C_takes 2 (some .boolean) :: wA)) B.pre w (List.mem_cons_of_mem _ h)
  have hown : s.vm.findClass R_C = some m.cls := findClass_of_methodNamed B.named
  have hlocks := B.notSynchronized
  subst hsz
  have hD := hD0.self (sz := s.heap.size)
  have hA : ∀ q : Nat, s.heap.size ≤ q → va_A (wC a cI cC Fa Aa) s.heap.size q := fun q h => Or.inr h
  have hS : va_S (va_A (wC a cI cC Fa Aa) s.heap.size) s.heap s.heap [] := va_S.rf
  have hl := lv_entry (([.ref (a 0), .int u1] : List Value)) (n := 2) (Nat.le_of_ble_eq_true rfl)
  rw [lg_entry_eq]
  generalize (lg_sl (([.ref (a 0), .int u1] : List Value)) ++ List.replicate (2 - (lg_sl (([.ref (a 0), .int u1] : List Value))).length) Slot.unset).toArray = ls at hl ⊢
  have hl : lv_has ls 2 [(0, .ref (a 0)), (1, .int u1)] := hl
  unfold f_C_takes at hf
  refine lv_aload_n hx hb d_C_takes_0 rfl (lv_at hl 0 rfl) ?_
  have hP : va_P (dC, dI) vC (wC a cI cC Fa Aa) s.heap := hP
  have hD : va_D (va_A (wC a cI cC Fa Aa) s.heap.size) (wC a cI cC Fa Aa) := hD
  obtain ⟨r1, F1, A1, hc, hf⟩ := ra_bi_some hf
  refine cc_calli (va_runV (As := []) (rest := []) ⟨hx, hb, hml, hown, hts⟩ (k_C_next l dC dI a cI cC s.heap.size Fa Aa  r1 F1 A1 hc) (cw_V 0 hts mw_155 mw_157 ms_C_next mw_3 mw_158 rfl rfl rfl hd_C_next ⟨Nat.le_of_ble_eq_true rfl, Nat.le_of_ble_eq_true rfl⟩) (cc_preV hK hP hD rfl (q0 := 0) rfl) rfl rfl hl.1 rfl (lv_room (Nat.le_of_ble_eq_true rfl)) d_C_takes_1 ⟨Nat.zero_le _, Nat.zero_le _⟩) hD hS hA (fun H locs hP hD hS => ?_)
  refine lv_iload_n hx hb d_C_takes_4 rfl (lv_at hl 1 rfl) ?_
  refine lv_icmp_eq (tgt := 10) hx hb d_C_takes_5 (by decide) (fun h5_2 => ?_) (fun h5_2 => ?_)
  · rw [if_pos h5_2] at hf
    refine lv_aload_n hx hb d_C_takes_10 rfl (lv_at hl 0 rfl) ?_
    refine lv_dup hx hb d_C_takes_11 rfl ?_
    refine va_get (D := (dC, dI)) (ci := 1) (v := .int (F1 1)) (C := R_C) (T := T_C) (N := 5) hx hb hts in_C hown hK hP 0 rfl rfl 3 (by decide) (hts _ mw_78) (fun _ h9 => h9) rfl d_C_takes_12 ?_
    refine lv_iconst (v := 1) hx hb d_C_takes_15 (by decide) ?_
    refine lv_iadd hx hb d_C_takes_16 ?_
    refine va_put (D := (dC, dI)) (ci := 1) (v := .int ((F1 1) + (1 : Int32))) (ty := .int) (C := R_C) (T := T_C) (N := 5) hx hb hts in_C ty_C ty_C_ok nm_C hown hK hP hD hS 0 rfl rfl 3 (by decide) (hts _ mw_78) (fun _ h9 => h9) rfl (by decide +kernel) rfl rfl (Nat.le_of_ble_eq_true rfl) d_C_takes_17 (fun H locs hP hD hS => ?_)
    have hP : va_P (dC, dI) vC [((a 0), .inr (1, [.ref (a 1), .ref (a 2), .int (F1 0), .int ((F1 1) + (1 : Int32)), .ref (a 3)])), ((a 1), .inl (cI, 26, .inl (A1 0))), ((a 2), .inl (cC, 160, .inl (A1 1))), ((a 3), .inr (0, [.ref (a 4), .ref (a 5), .ref (a 6), .ref (a 7), .ref (a 8), .int (F1 2), .int (F1 3)])), ((a 4), .inl (cI, 100, .inl (A1 2))), ((a 5), .inl (cI, 100, .inl (A1 3))), ((a 6), .inl (cI, 100, .inl (A1 4))), ((a 7), .inl (cI, 3, .inl (A1 5))), ((a 8), .inl (cI, 26, .inl (A1 6)))] H := hP
    have hD : va_D (va_A (wC a cI cC Fa Aa) s.heap.size) [((a 0), .inr (1, [.ref (a 1), .ref (a 2), .int (F1 0), .int ((F1 1) + (1 : Int32)), .ref (a 3)])), ((a 1), .inl (cI, 26, .inl (A1 0))), ((a 2), .inl (cC, 160, .inl (A1 1))), ((a 3), .inr (0, [.ref (a 4), .ref (a 5), .ref (a 6), .ref (a 7), .ref (a 8), .int (F1 2), .int (F1 3)])), ((a 4), .inl (cI, 100, .inl (A1 2))), ((a 5), .inl (cI, 100, .inl (A1 3))), ((a 6), .inl (cI, 100, .inl (A1 4))), ((a 7), .inl (cI, 3, .inl (A1 5))), ((a 8), .inl (cI, 26, .inl (A1 6)))] := hD
    refine lv_iconst (v := 1) hx hb d_C_takes_20 (by decide) ?_
    cases hf
    exact W.zret hx hb hr (by rfl) (fun t ht hW => ⟨⟨_, (), rfl, rfl, by rw [ht]; exact hP, va_K.moved hW.alike hK, hD⟩, hS.F ht⟩) hS.2.2 d_C_takes_21
  · rw [if_neg h5_2] at hf
    refine lv_iconst (v := 0) hx hb d_C_takes_8 (by decide) ?_
    cases hf
    exact W.zret hx hb hr (by rfl) (fun t ht hW => ⟨⟨_, (), rfl, rfl, by rw [ht]; exact hP, va_K.moved hW.alike hK, hD⟩, hS.F ht⟩) hS.2.2 d_C_takes_9
