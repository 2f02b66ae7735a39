def f_P_run_L24 (kx : Int32 → Int32 → Int32 → ST_F → ST_A → Option (ST_F × ST_A)) : Nat → Int32 → Int32 → Int32 → ST_F → ST_A → Option (ST_F × ST_A)
  | 0, _, _, _, _, _ => none
  | n + 1, x1, x2, x3, F, A => if (8 : Int32) ≤ x3 then (kx x1 x2 x3 F A) else (ra_g ((x2 * (8 : Int32)) + x3) 32 (ra_bv (f_H_work (x3 * (65536 : Int32)) (x2 * (65536 : Int32)) x1 ((A 1) ((x2 * (8 : Int32)) + x3).toNatClampNeg) F A) (fun F5 A5 => ra_bi (f_H_colorOf  F5 A5) (fun r6 F6 A6 => ra_g ((x2 * (8 : Int32)) + x3) 32 (f_P_run_L24 kx n x1 x2 (x3 + (1 : Int32)) F6 (va_up A6 1 (upd (A6 1) ((x2 * (8 : Int32)) + x3).toNatClampNeg r6)))))))
def f_P_run_L17 : Nat → Int32 → Int32 → ST_F → ST_A → Option (ST_F × ST_A)
  | 0, _, _, _, _ => none
  | n + 1, x1, x2, F, A => if (4 : Int32) ≤ x2 then (some (F, A)) else (f_P_run_L24 (fun y1_7 y2_7 y3_7 F7 A7 => f_P_run_L17 n y1_7 (y2_7 + (1 : Int32)) F7 A7) 9 x1 x2 (0 : Int32) F A)
def f_P_run_Z15 (x1 : Int32) (F : ST_F) (A : ST_A) : Option (ST_F × ST_A) := f_P_run_L17 5 x1 (0 : Int32) F A
def f_P_run (u1 : Int32) (Fa : ST_F) (Aa : ST_A) : Option (Sum Nat (ST_F × ST_A)) := (f_P_hasCode  Fa Aa).bind (fun r1 => if r1 = 0 then (some (.inl 2)) else (ra_ok (f_P_run_Z15 u1 Fa Aa)))
set_option maxHeartbeats 4000000 in
set_option maxRecDepth 100000 in
theorem k_P_run (l : Launch) (dC : Nat → ClassId) (dI : Nat → Nat → Nat) (b : Nat → Nat) (cI cC : ClassId) (tx : Nat) (sz : Nat) (Fa : ST_F) (Aa : ST_A) (u1 : Int32) (F9 : ST_F) (A9 : ST_A) (hf : f_P_run u1 Fa Aa = some (.inr (F9, A9))) : cc_MetV l y_P_run (Cond.code y_P_run b_P_run 5 none :: wA) ({ frames := 5, cells := 0, slots := 0, locals := 113 } : Room) (dC, dI) vC [(cI, .int), (cC, .char)] ([.ref (b 0), .int u1] : List Value) (wP b cI cC tx Fa Aa) sz (wP b cI cC tx F9 A9) := by
  refine Met.ofW (cc := b_P_run) (maxL := 5) (ret := none) (by decide) rfl ?_
  intro p e s m args below meth c s₁ B hml hv
  obtain ⟨rfl, hsz, hP, hK, hD0⟩ := hv
  have hx := B.exec
  have hb := B.bytes
  have hr := B.returns
  have hts := fun w h => atoms_spec (ws := (Cond.code y_P_run b_P_run 5 none :: wA)) B.pre w (List.mem_cons_of_mem _ h)
  have hown : s.vm.findClass R_P = some m.cls := findClass_of_methodNamed B.named
  have hlocks := B.notSynchronized
  subst hsz
  have hD := hD0.self (sz := s.heap.size)
  have hA : ∀ q : Nat, s.heap.size ≤ q → va_A (wP b cI cC tx Fa Aa) s.heap.size q := fun q h => Or.inr h
  have hS : va_S (va_A (wP b cI cC tx Fa Aa) s.heap.size) s.heap s.heap [] := va_S.rf
  have hl := lv_entry (([.ref (b 0), .int u1] : List Value)) (n := 5) (Nat.le_of_ble_eq_true rfl)
  have L24 : ∀ (kx : Int32 → Int32 → Int32 → ST_F → ST_A → Option (ST_F × ST_A)), (∀ (x1 : Int32) (x2 : Int32) (x3 : Int32) (F : ST_F) (A : ST_A) (H : Heap) (locs : List Loc) (ls : Array Slot), lv_has ls 5 [(0, .ref (b 0)), (1, .int x1), (2, .int x2), (3, .int x3)] → va_P (dC, dI) vC (wP b cI cC tx F A) H → va_D (va_A (wP b cI cC tx Fa Aa) s.heap.size) (wP b cI cC tx F A) → va_S (va_A (wP b cI cC tx Fa Aa) s.heap.size) s.heap H locs → kx x1 x2 x3 F A = some (F9, A9) → W p l e (headSpec (Cond.code y_P_run b_P_run 5 none :: wA) ({ frames := 5, cells := 0, slots := 0, locals := 113 } : Room)).room s m ([.ref (b 0), .int u1] : List Value).toArray below meth c H locs 0 0 (MQ below (cc_Qv (dC, dI) vC [(cI, .int), (cC, .char)] (wP b cI cC tx Fa Aa) s.heap.size (wP b cI cC tx F9 A9)) ([.ref (b 0), .int u1] : List Value).toArray s 0 0 (va_A (wP b cI cC tx Fa Aa) s.heap.size)) (F0 m 89 ls [])) → ∀ (n : Nat) (x1 : Int32) (x2 : Int32) (x3 : Int32) (F : ST_F) (A : ST_A) (H : Heap) (locs : List Loc) (ls : Array Slot), lv_has ls 5 [(0, .ref (b 0)), (1, .int x1), (2, .int x2), (3, .int x3)] → va_P (dC, dI) vC (wP b cI cC tx F A) H → va_D (va_A (wP b cI cC tx Fa Aa) s.heap.size) (wP b cI cC tx F A) → va_S (va_A (wP b cI cC tx Fa Aa) s.heap.size) s.heap H locs → f_P_run_L24 kx n x1 x2 x3 F A = some (F9, A9) → W p l e (headSpec (Cond.code y_P_run b_P_run 5 none :: wA) ({ frames := 5, cells := 0, slots := 0, locals := 113 } : Room)).room s m ([.ref (b 0), .int u1] : List Value).toArray below meth c H locs 0 0 (MQ below (cc_Qv (dC, dI) vC [(cI, .int), (cC, .char)] (wP b cI cC tx Fa Aa) s.heap.size (wP b cI cC tx F9 A9)) ([.ref (b 0), .int u1] : List Value).toArray s 0 0 (va_A (wP b cI cC tx Fa Aa) s.heap.size)) (F0 m 24 ls []) := by
    intro kx hk n
    induction n with
    | zero => intro x1 x2 x3 F A H locs ls hl hP hD hS hf; cases hf
    | succ n ih =>
      intro x1 x2 x3 F A H locs ls hl hP hD hS hf
      rw [f_P_run_L24] at hf
      refine lv_iload_n hx hb d_P_run_24 rfl (lv_at hl 3 rfl) ?_
      refine lv_bipush (v := 8) hx hb d_P_run_25 (by decide) ?_
      refine lv_icmp_ge (tgt := 89) hx hb d_P_run_27 (by decide) (fun h27_4 => ?_) (fun h27_4 => ?_)
      · rw [if_pos h27_4] at hf
        have hl : lv_has ls 5 [(0, .ref (b 0)), (1, .int x1), (2, .int x2), (3, .int x3)] := lv_sub hl [0, 1, 2, 3] rfl
        exact hk x1 x2 x3 F A _ _ _ hl hP hD hS hf
      · rw [if_neg h27_4] at hf
        refine lv_iload_n hx hb d_P_run_30 rfl (lv_at hl 2 rfl) ?_
        refine lv_bipush (v := 8) hx hb d_P_run_31 (by decide) ?_
        refine lv_imul hx hb d_P_run_33 ?_
        refine lv_iload_n hx hb d_P_run_34 rfl (lv_at hl 3 rfl) ?_
        refine lv_iadd hx hb d_P_run_35 ?_
        refine lv_istore hx hb d_P_run_36 hl (by decide) rfl (fun ls hl => ?_)
        have hl : lv_has ls 5 [(4, .int ((x2 * (8 : Int32)) + x3)), (0, .ref (b 0)), (1, .int x1), (2, .int x2), (3, .int x3)] := hl
        refine lv_aload_n hx hb d_P_run_38 rfl (lv_at hl 1 rfl) ?_
        refine va_get (D := (dC, dI)) (ci := 3) (v := .ref (b 3)) (C := R_P) (T := T_P) (N := 6) hx hb hts in_P hown hK hP 0 rfl rfl 4 (by decide) (hts _ mw_109) (fun _ h9 => h9) rfl d_P_run_39 ?_
        refine lv_aload_n hx hb d_P_run_42 rfl (lv_at hl 1 rfl) ?_
        refine va_get (D := (dC, dI)) (ci := 3) (v := .ref (b 8)) (C := R_P) (T := T_P) (N := 6) hx hb hts in_P hown hK hP 0 rfl rfl 2 (by decide) (hts _ mw_107) (fun _ h9 => h9) rfl d_P_run_43 ?_
        refine lv_iload_n hx hb d_P_run_46 rfl (lv_at hl 4 rfl) ?_
        refine lv_ldc (v := 65536) hx hb hown (hts _ mw_483) d_P_run_47 ?_
        refine lv_imul hx hb d_P_run_49 ?_
        refine lv_iload_n hx hb d_P_run_50 rfl (lv_at hl 3 rfl) ?_
        refine lv_ldc (v := 65536) hx hb hown (hts _ mw_483) d_P_run_51 ?_
        refine lv_imul hx hb d_P_run_53 ?_
        refine lv_iload_n hx hb d_P_run_54 rfl (lv_at hl 2 rfl) ?_
        refine lv_aload_n hx hb d_P_run_55 rfl (lv_at hl 1 rfl) ?_
        refine va_get (D := (dC, dI)) (ci := 3) (v := .ref (b 2)) (C := R_P) (T := T_P) (N := 6) hx hb hts in_P hown hK hP 0 rfl rfl 5 (by decide) (hts _ mw_110) (fun _ h9 => h9) rfl d_P_run_56 ?_
        refine lv_iload hx hb d_P_run_59 (lv_at hl 0 rfl) ?_
        obtain ⟨hi, hf⟩ := ra_g_some hf
        refine va_iald hx hb hK hP 2 0 rfl rfl hi d_P_run_61 ?_
        have hP : va_P (dC, dI) vC (wP b cI cC tx F A) H := hP
        have hD : va_D (va_A (wP b cI cC tx Fa Aa) s.heap.size) (wP b cI cC tx F A) := hD
        obtain ⟨F5, A5, hc, hf⟩ := ra_bv_some hf
        refine cc_callv (va_runV (As := [.ref (b 8), .int (x3 * (65536 : Int32)), .int (x2 * (65536 : Int32)), .int x1, .int ((A 1) ((x2 * (8 : Int32)) + x3).toNatClampNeg)]) (rest := []) ⟨hx, hb, hml, hown, hts⟩ (k_H_work l dC dI b cI cC tx H.size F A (x3 * (65536 : Int32)) (x2 * (65536 : Int32)) x1 ((A 1) ((x2 * (8 : Int32)) + x3).toNatClampNeg) F5 A5 hc) (cw_V 5 hts mw_435 mw_436 mw_437 mw_4 mw_438 rfl rfl rfl hd_H_work ⟨Nat.le_of_ble_eq_true rfl, Nat.le_of_ble_eq_true rfl⟩) (cc_preV hK hP hD rfl (q0 := 3) rfl) rfl rfl hl.1 rfl (lv_room (Nat.le_of_ble_eq_true rfl)) d_P_run_62 ⟨Nat.zero_le _, Nat.zero_le _⟩) hD hS hA (fun H locs hP hD hS => ?_)
        refine lv_aload_n hx hb d_P_run_65 rfl (lv_at hl 1 rfl) ?_
        refine va_get (D := (dC, dI)) (ci := 3) (v := .ref (b 2)) (C := R_P) (T := T_P) (N := 6) hx hb hts in_P hown hK hP 0 rfl rfl 5 (by decide) (hts _ mw_110) (fun _ h9 => h9) rfl d_P_run_66 ?_
        refine lv_iload hx hb d_P_run_69 (lv_at hl 0 rfl) ?_
        refine lv_aload_n hx hb d_P_run_71 rfl (lv_at hl 1 rfl) ?_
        refine va_get (D := (dC, dI)) (ci := 3) (v := .ref (b 3)) (C := R_P) (T := T_P) (N := 6) hx hb hts in_P hown hK hP 0 rfl rfl 4 (by decide) (hts _ mw_109) (fun _ h9 => h9) rfl d_P_run_72 ?_
        refine lv_aload_n hx hb d_P_run_75 rfl (lv_at hl 1 rfl) ?_
        refine va_get (D := (dC, dI)) (ci := 3) (v := .ref (b 8)) (C := R_P) (T := T_P) (N := 6) hx hb hts in_P hown hK hP 0 rfl rfl 2 (by decide) (hts _ mw_107) (fun _ h9 => h9) rfl d_P_run_76 ?_
        have hP : va_P (dC, dI) vC (wP b cI cC tx F5 A5) H := hP
        have hD : va_D (va_A (wP b cI cC tx Fa Aa) s.heap.size) (wP b cI cC tx F5 A5) := hD
        obtain ⟨r6, F6, A6, hc, hf⟩ := ra_bi_some hf
        refine cc_calli (va_runV (As := [.ref (b 8)]) (rest := [.int ((x2 * (8 : Int32)) + x3), .ref (b 2)]) ⟨hx, hb, hml, hown, hts⟩ (k_H_colorOf l dC dI b cI cC tx H.size F5 A5  r6 F6 A6 hc) (cw_V 1 hts mw_484 mw_485 mw_486 mw_4 mw_487 rfl rfl rfl hd_H_colorOf ⟨Nat.le_of_ble_eq_true rfl, Nat.le_of_ble_eq_true rfl⟩) (cc_preV hK hP hD rfl (q0 := 3) rfl) rfl rfl hl.1 rfl (lv_room (Nat.le_of_ble_eq_true rfl)) d_P_run_79 ⟨Nat.zero_le _, Nat.zero_le _⟩) hD hS hA (fun H locs hP hD hS => ?_)
        obtain ⟨hi, hf⟩ := ra_g_some hf
        refine va_iast hx hb hK hP hD hS 2 0 rfl rfl hi d_P_run_82 (fun H locs hP hD hS => ?_)
        have hP : va_P (dC, dI) vC [((b 0), .inr (3, [.ref (b 1), .int (F6 0), .ref (b 8), .ref (b 6), .ref (b 3), .ref (b 2)])), ((b 1), .inl (cC, 160, .inl (A6 0))), ((b 2), .inl (cI, 32, .inl (upd (A6 1) ((x2 * (8 : Int32)) + x3).toNatClampNeg r6))), ((b 3), .inr (2, [.ref (b 4), .ref (b 5)])), ((b 4), .inl (cI, 100, .inl (A6 2))), ((b 5), .inl (cI, 6, .inl (A6 3))), ((b 6), .inr (1, [.ref (b 7), .ref tx, .int (F6 1), .int (F6 2), .ref (b 14)])), ((b 7), .inl (cI, 26, .inl (A6 4))), ((b 8), .inr (0, [.ref (b 9), .ref (b 10), .ref (b 11), .ref (b 12), .ref (b 13), .int (F6 3), .int (F6 4)])), ((b 9), .inl (cI, 100, .inl (A6 5))), ((b 10), .inl (cI, 100, .inl (A6 6))), ((b 11), .inl (cI, 100, .inl (A6 7))), ((b 12), .inl (cI, 3, .inl (A6 8))), ((b 13), .inl (cI, 26, .inl (A6 9))), ((b 14), .inr (0, [.ref (b 15), .ref (b 16), .ref (b 17), .ref (b 18), .ref (b 19), .int (F6 5), .int (F6 6)])), ((b 15), .inl (cI, 100, .inl (A6 10))), ((b 16), .inl (cI, 100, .inl (A6 11))), ((b 17), .inl (cI, 100, .inl (A6 12))), ((b 18), .inl (cI, 3, .inl (A6 13))), ((b 19), .inl (cI, 26, .inl (A6 14)))] H := hP
        have hD : va_D (va_A (wP b cI cC tx Fa Aa) s.heap.size) [((b 0), .inr (3, [.ref (b 1), .int (F6 0), .ref (b 8), .ref (b 6), .ref (b 3), .ref (b 2)])), ((b 1), .inl (cC, 160, .inl (A6 0))), ((b 2), .inl (cI, 32, .inl (upd (A6 1) ((x2 * (8 : Int32)) + x3).toNatClampNeg r6))), ((b 3), .inr (2, [.ref (b 4), .ref (b 5)])), ((b 4), .inl (cI, 100, .inl (A6 2))), ((b 5), .inl (cI, 6, .inl (A6 3))), ((b 6), .inr (1, [.ref (b 7), .ref tx, .int (F6 1), .int (F6 2), .ref (b 14)])), ((b 7), .inl (cI, 26, .inl (A6 4))), ((b 8), .inr (0, [.ref (b 9), .ref (b 10), .ref (b 11), .ref (b 12), .ref (b 13), .int (F6 3), .int (F6 4)])), ((b 9), .inl (cI, 100, .inl (A6 5))), ((b 10), .inl (cI, 100, .inl (A6 6))), ((b 11), .inl (cI, 100, .inl (A6 7))), ((b 12), .inl (cI, 3, .inl (A6 8))), ((b 13), .inl (cI, 26, .inl (A6 9))), ((b 14), .inr (0, [.ref (b 15), .ref (b 16), .ref (b 17), .ref (b 18), .ref (b 19), .int (F6 5), .int (F6 6)])), ((b 15), .inl (cI, 100, .inl (A6 10))), ((b 16), .inl (cI, 100, .inl (A6 11))), ((b 17), .inl (cI, 100, .inl (A6 12))), ((b 18), .inl (cI, 3, .inl (A6 13))), ((b 19), .inl (cI, 26, .inl (A6 14)))] := hD
        refine lv_iinc (k := 4) (v := (x3 + (1 : Int32))) hx hb d_P_run_83 hl rfl (by rfl) (by decide) rfl (fun ls hl => ?_)
        have hl : lv_has ls 5 [(3, .int (x3 + (1 : Int32))), (4, .int ((x2 * (8 : Int32)) + x3)), (0, .ref (b 0)), (1, .int x1), (2, .int x2)] := hl
        refine lv_goto (tgt := 24) hx hb d_P_run_86 (by decide) ?_
        have hl : lv_has ls 5 [(0, .ref (b 0)), (1, .int x1), (2, .int x2), (3, .int (x3 + (1 : Int32)))] := lv_sub hl [2, 3, 4, 0] rfl
        exact ih x1 x2 (x3 + (1 : Int32)) F6 (va_up A6 1 (upd (A6 1) ((x2 * (8 : Int32)) + x3).toNatClampNeg r6)) _ _ _ hl hP hD hS hf
  have L17 : ∀ (n : Nat) (x1 : Int32) (x2 : Int32) (F : ST_F) (A : ST_A) (H : Heap) (locs : List Loc) (ls : Array Slot), lv_has ls 5 [(0, .ref (b 0)), (1, .int x1), (2, .int x2)] → va_P (dC, dI) vC (wP b cI cC tx F A) H → va_D (va_A (wP b cI cC tx Fa Aa) s.heap.size) (wP b cI cC tx F A) → va_S (va_A (wP b cI cC tx Fa Aa) s.heap.size) s.heap H locs → f_P_run_L17 n x1 x2 F A = some (F9, A9) → W p l e (headSpec (Cond.code y_P_run b_P_run 5 none :: wA) ({ frames := 5, cells := 0, slots := 0, locals := 113 } : Room)).room s m ([.ref (b 0), .int u1] : List Value).toArray below meth c H locs 0 0 (MQ below (cc_Qv (dC, dI) vC [(cI, .int), (cC, .char)] (wP b cI cC tx Fa Aa) s.heap.size (wP b cI cC tx F9 A9)) ([.ref (b 0), .int u1] : List Value).toArray s 0 0 (va_A (wP b cI cC tx Fa Aa) s.heap.size)) (F0 m 17 ls []) := by
    intro n
    induction n with
    | zero => intro x1 x2 F A H locs ls hl hP hD hS hf; cases hf
    | succ n ih =>
      intro x1 x2 F A H locs ls hl hP hD hS hf
      rw [f_P_run_L17] at hf
      refine lv_iload_n hx hb d_P_run_17 rfl (lv_at hl 2 rfl) ?_
      refine lv_iconst (v := 4) hx hb d_P_run_18 (by decide) ?_
      refine lv_icmp_ge (tgt := 95) hx hb d_P_run_19 (by decide) (fun h19_3 => ?_) (fun h19_3 => ?_)
      · rw [if_pos h19_3] at hf
        cases hf
        exact W.vret hx hb hr (fun t ht hW => ⟨⟨(), rfl, trivial, by rw [ht]; exact hP, va_K.moved hW.alike hK, hD⟩, hS.F ht⟩) hS.2.2 d_P_run_95
      · rw [if_neg h19_3] at hf
        refine lv_iconst (v := 0) hx hb d_P_run_22 (by decide) ?_
        refine lv_istore_n hx hb d_P_run_23 rfl hl (by decide) rfl (fun ls hl => ?_)
        have hl : lv_has ls 5 [(3, .int (0 : Int32)), (0, .ref (b 0)), (1, .int x1), (2, .int x2)] := hl
        have hl : lv_has ls 5 [(0, .ref (b 0)), (1, .int x1), (2, .int x2), (3, .int (0 : Int32))] := lv_sub hl [1, 2, 3, 0] rfl
        refine L24 _ (fun y1_7 y2_7 y3_7 F7 A7 H locs ls hl hP hD hS hf => ?_) 9 x1 x2 (0 : Int32) F A _ _ _ hl hP hD hS hf
        refine lv_iinc (k := 2) (v := (y2_7 + (1 : Int32))) hx hb d_P_run_89 hl rfl (by rfl) (by decide) rfl (fun ls hl => ?_)
        have hl : lv_has ls 5 [(2, .int (y2_7 + (1 : Int32))), (0, .ref (b 0)), (1, .int y1_7), (3, .int y3_7)] := hl
        refine lv_goto (tgt := 17) hx hb d_P_run_92 (by decide) ?_
        have hl : lv_has ls 5 [(0, .ref (b 0)), (1, .int y1_7), (2, .int (y2_7 + (1 : Int32)))] := lv_sub hl [1, 2, 0] rfl
        exact ih y1_7 (y2_7 + (1 : Int32)) F7 A7 _ _ _ hl hP hD hS hf
  have Z15 : ∀ (x1 : Int32) (F : ST_F) (A : ST_A) (H : Heap) (locs : List Loc) (ls : Array Slot), lv_has ls 5 [(0, .ref (b 0)), (1, .int x1)] → va_P (dC, dI) vC (wP b cI cC tx F A) H → va_D (va_A (wP b cI cC tx Fa Aa) s.heap.size) (wP b cI cC tx F A) → va_S (va_A (wP b cI cC tx Fa Aa) s.heap.size) s.heap H locs → f_P_run_Z15 x1 F A = some (F9, A9) → W p l e (headSpec (Cond.code y_P_run b_P_run 5 none :: wA) ({ frames := 5, cells := 0, slots := 0, locals := 113 } : Room)).room s m ([.ref (b 0), .int u1] : List Value).toArray below meth c H locs 0 0 (MQ below (cc_Qv (dC, dI) vC [(cI, .int), (cC, .char)] (wP b cI cC tx Fa Aa) s.heap.size (wP b cI cC tx F9 A9)) ([.ref (b 0), .int u1] : List Value).toArray s 0 0 (va_A (wP b cI cC tx Fa Aa) s.heap.size)) (F0 m 15 ls []) := by
    intro x1 F A H locs ls hl hP hD hS hf
    unfold f_P_run_Z15 at hf
    refine lv_iconst (v := 0) hx hb d_P_run_15 (by decide) ?_
    refine lv_istore_n hx hb d_P_run_16 rfl hl (by decide) rfl (fun ls hl => ?_)
    have hl : lv_has ls 5 [(2, .int (0 : Int32)), (0, .ref (b 0)), (1, .int x1)] := hl
    have hl : lv_has ls 5 [(0, .ref (b 0)), (1, .int x1), (2, .int (0 : Int32))] := lv_sub hl [1, 2, 0] rfl
    exact L17 5 x1 (0 : Int32) F A _ _ _ hl hP hD hS hf
  rw [lg_entry_eq]
  generalize (lg_sl (([.ref (b 0), .int u1] : List Value)) ++ List.replicate (5 - (lg_sl (([.ref (b 0), .int u1] : List Value))).length) Slot.unset).toArray = ls at hl ⊢
  have hl : lv_has ls 5 [(0, .ref (b 0)), (1, .int u1)] := hl
  unfold f_P_run at hf
  refine lv_aload_n hx hb d_P_run_0 rfl (lv_at hl 0 rfl) ?_
  obtain ⟨r1, hc, hf⟩ := Option.bind_eq_some_iff.mp hf
  have hP : va_P (dC, dI) vC (wP b cI cC tx Fa Aa) s.heap := hP
  have hD : va_D (va_A (wP b cI cC tx Fa Aa) s.heap.size) (wP b cI cC tx Fa Aa) := hD
  refine cc_callr (va_runV (As := []) (rest := []) ⟨hx, hb, hml, hown, hts⟩ (k_P_hasCode l dC dI b cI cC tx s.heap.size Fa Aa  r1 hc) (cw_V 0 hts mw_413 mw_415 ms_P_hasCode mw_1 mw_416 rfl rfl rfl hd_P_hasCode ⟨Nat.le_of_ble_eq_true rfl, Nat.le_of_ble_eq_true rfl⟩) (cc_preV hK hP hD rfl (q0 := 0) rfl) rfl rfl hl.1 rfl (lv_room (Nat.le_of_ble_eq_true rfl)) d_P_run_1 ⟨Nat.zero_le _, Nat.zero_le _⟩) ?_
  refine lv_if_ne (tgt := 15) hx hb d_P_run_4 (by decide) (fun h4_2 => ?_) (fun h4_2 => ?_)
  · rw [if_neg h4_2] at hf
    have hf := ra_ok_some hf
    have hl : lv_has ls 5 [(0, .ref (b 0)), (1, .int u1)] := lv_sub hl [0, 1] rfl
    exact Z15 u1 Fa Aa _ _ _ hl hP hD hS hf
  · rw [if_pos h4_2] at hf
    cases hf
set_option maxHeartbeats 4000000 in
set_option maxRecDepth 100000 in
theorem t_P_run_2 (l : Launch) (hfl : l.stackTraces = false) (dC : Nat → ClassId) (dI : Nat → Nat → Nat) (b : Nat → Nat) (cI cC : ClassId) (tx : Nat) (sz : Nat) (Fa : ST_F) (Aa : ST_A) (u1 : Int32) (hf : f_P_run u1 Fa Aa = some (.inl 2)) : th_Met l y_P_run (Cond.code y_P_run b_P_run 5 none :: wA) ({ frames := 8, cells := 1, slots := 6, locals := 120 } : Room) (va_Pc ([.ref (b 0), .int u1] : List Value) (th_Pre (dC, dI) vC [(cI, .int), (cC, .char)] (wP b cI cC tx Fa Aa) sz)) "java/lang/IllegalStateException" 1 6 := by
  refine th_ofW (cc := b_P_run) (maxL := 5) (ret := none) (by decide) rfl ?_
  intro p e s m args below meth c s₁ B hml hv
  obtain ⟨rfl, ⟨hsz, hP, hK, hD0⟩, B0, hZ⟩ := hv
  have hx := B.exec
  have hb := B.bytes
  have hr := B.returns
  have hts := fun w h => atoms_spec (ws := (Cond.code y_P_run b_P_run 5 none :: wA)) B.pre w (List.mem_cons_of_mem _ h)
  have hown : s.vm.findClass R_P = some m.cls := findClass_of_methodNamed B.named
  have hlocks := B.notSynchronized
  have hemp := BodyLoose.noHandlers B (atoms_spec (ws := (Cond.code y_P_run b_P_run 5 none :: wA)) B.pre _ List.mem_cons_self)
  subst hsz
  have hD := hD0.self (sz := s.heap.size)
  have hl := lv_entry (([.ref (b 0), .int u1] : List Value)) (n := 5) (Nat.le_of_ble_eq_true rfl)
  rw [lg_entry_eq]
  generalize (lg_sl (([.ref (b 0), .int u1] : List Value)) ++ List.replicate (5 - (lg_sl (([.ref (b 0), .int u1] : List Value))).length) Slot.unset).toArray = ls at hl ⊢
  have hl : lv_has ls 5 [(0, .ref (b 0)), (1, .int u1)] := hl
  unfold f_P_run at hf
  refine lv_aload_n hx hb d_P_run_0 rfl (lv_at hl 0 rfl) ?_
  obtain ⟨r1, hc, hf⟩ := Option.bind_eq_some_iff.mp hf
  have hP : va_P (dC, dI) vC (wP b cI cC tx Fa Aa) s.heap := hP
  have hD : va_D (va_A (wP b cI cC tx Fa Aa) s.heap.size) (wP b cI cC tx Fa Aa) := hD
  refine cc_callr (va_runV (As := []) (rest := []) ⟨hx, hb, hml, hown, hts⟩ (k_P_hasCode l dC dI b cI cC tx s.heap.size Fa Aa  r1 hc) (cw_V 0 hts mw_413 mw_415 ms_P_hasCode mw_1 mw_416 rfl rfl rfl hd_P_hasCode ⟨Nat.le_of_ble_eq_true rfl, Nat.le_of_ble_eq_true rfl⟩) (cc_preV hK hP hD rfl (q0 := 0) rfl) rfl rfl hl.1 rfl (lv_room (Nat.le_of_ble_eq_true rfl)) d_P_run_1 ⟨Nat.zero_le _, Nat.zero_le _⟩) ?_
  refine lv_if_ne (tgt := 15) hx hb d_P_run_4 (by decide) (fun h4_2 => ?_) (fun h4_2 => ?_)
  · rw [if_neg h4_2] at hf
    exact absurd hf (ra_ok_ne _ _)
  · rw [if_pos h4_2] at hf
    exact th_new (names := ["java/lang/RuntimeException", "java/lang/Exception"]) hx hb hlocks hfl hown (hts _ mw_364) (hts _ mw_365) (hts _ mw_10) (by decide +kernel) (by decide +kernel) (th_at2 hts hZ) (hl.1.trans hml.symm) hemp d_P_run_7 d_P_run_10 d_P_run_11 d_P_run_14 (Nat.le_of_ble_eq_true rfl) (Nat.le_of_ble_eq_true rfl) (Nat.le_of_ble_eq_true rfl) (Nat.le_of_ble_eq_true rfl)
