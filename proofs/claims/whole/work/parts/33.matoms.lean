def f_M_constant_J197 (x1 : Int32) (x2 : Int32) (x3 : Int32) (x4 : Int32) (F : ST_F) (A : ST_A) : Option (ST_F × ST_A) := if (F 5) = 0 then (ra_nzl (x4.toInt64) (ra_bi (f_M_put (0 : Int32) (((65536 : Int32) * x1) + ((((x3.toInt64) * (65536 : Int64)) / (x4.toInt64)).toInt32)) (0 : Int32) F A) (fun r7 F7 A7 => ra_g (0 : Int32) 4 (ra_bv (f_M_pushMade (1 : Int32) F7 (va_up A7 15 (upd (A7 15) (0 : Int32).toNatClampNeg r7))) (fun F8 A8 => some (F8, A8)))))) else (some (F, A))
def f_M_constant_J194 (x1 : Int32) (x2 : Int32) (x3 : Int32) (x4 : Int32) (z0 : Int32) (F : ST_F) (A : ST_A) : Option (ST_F × ST_A) := ra_zb z0 (f_M_constant_J197 x1 x2 x3 x4 (upd F 5 z0) A)
def f_M_constant_J189 (x1 : Int32) (x2 : Int32) (x3 : Int32) (x4 : Int32) (F : ST_F) (A : ST_A) : Option (ST_F × ST_A) := f_M_constant_J194 x1 x2 x3 x4 (1 : Int32) F A
def f_M_constant_J159 (x1 : Int32) (x2 : Int32) (x3 : Int32) (x4 : Int32) (F : ST_F) (A : ST_A) : Option (ST_F × ST_A) := if (F 5) = 0 then (if x2 = 0 then (f_M_constant_J189 x1 x2 x3 x4 F A) else (if x2 = (5 : Int32) then (f_M_constant_J189 x1 x2 x3 x4 F A) else (ra_bi (f_M_look (F 4) F A) (fun r14 F14 A14 => if r14 = (46 : Int32) then (f_M_constant_J189 x1 x2 x3 x4 F14 A14) else (f_M_constant_J194 x1 x2 x3 x4 (0 : Int32) F14 A14))))) else (f_M_constant_J189 x1 x2 x3 x4 F A)
def f_M_constant_L100 : Nat → Int32 → Int32 → Int32 → Int32 → ST_F → ST_A → Option (ST_F × ST_A)
  | 0, _, _, _, _, _, _ => none
  | n + 1, x1, x2, x3, x4, F, A => ra_bi (f_M_look (F 4) F A) (fun r9 F9 A9 => if (f_M_isDigit r9) = 0 then (f_M_constant_J159 x1 x2 x3 x4 F9 A9) else (if (5 : Int32) ≤ x2 then (f_M_constant_J159 x1 x2 x3 x4 F9 A9) else (ra_bi (f_M_look (F9 4) F9 A9) (fun r17 F17 A17 => f_M_constant_L100 n x1 (x2 + (1 : Int32)) ((((10 : Int32) * x3) + r17) - (48 : Int32)) (x4 * (10 : Int32)) (upd F17 4 ((F17 4) + (1 : Int32))) A17))))
def f_M_constant_J67 (x1 : Int32) (x2 : Int32) (z0 : Int32) (F : ST_F) (A : ST_A) : Option (ST_F × ST_A) := ra_zb z0 (ra_bi (f_M_look (F 4) (upd F 5 z0) A) (fun r4 F4 A4 => if r4 = (46 : Int32) then (f_M_constant_L100 400 x1 (0 : Int32) (0 : Int32) (1 : Int32) (upd F4 4 ((F4 4) + (1 : Int32))) A4) else (f_M_constant_J197 x1 x2 (0 : Int32) (1 : Int32) F4 A4)))
def f_M_constant_J56 (x1 : Int32) (x2 : Int32) (F : ST_F) (A : ST_A) : Option (ST_F × ST_A) := if x2 = (5 : Int32) then (f_M_constant_J67 x1 x2 (1 : Int32) F A) else (f_M_constant_J67 x1 x2 (0 : Int32) F A)
def f_M_constant_L4 : Nat → Int32 → Int32 → ST_F → ST_A → Option (ST_F × ST_A)
  | 0, _, _, _, _ => none
  | n + 1, x1, x2, F, A => ra_bi (f_M_look (F 4) F A) (fun r1 F1 A1 => if (f_M_isDigit r1) = 0 then (f_M_constant_J56 x1 x2 F1 A1) else (if (5 : Int32) ≤ x2 then (f_M_constant_J56 x1 x2 F1 A1) else (ra_bi (f_M_look (F1 4) F1 A1) (fun r19 F19 A19 => f_M_constant_L4 n ((((10 : Int32) * x1) + r19) - (48 : Int32)) (x2 + (1 : Int32)) (upd F19 4 ((F19 4) + (1 : Int32))) A19))))
def f_M_constant  (Fa : ST_F) (Aa : ST_A) : Option (ST_F × ST_A) := f_M_constant_L4 400 (0 : Int32) (0 : Int32) Fa Aa
set_option maxHeartbeats 4000000 in
set_option maxRecDepth 100000 in
theorem k_M_constant (l : Launch) (dC : Nat → ClassId) (dI : Nat → Nat → Nat) (o : Nat → Nat) (cI : ClassId) (sz : Nat) (Fa : ST_F) (Aa : ST_A)  (F9 : ST_F) (A9 : ST_A) (hf : f_M_constant  Fa Aa = some (F9, A9)) : cc_MetV l y_M_constant (Cond.code y_M_constant b_M_constant 5 none :: wA) ({ frames := 2, cells := 0, slots := 0, locals := 43 } : Room) (dC, dI) vC [(cI, .int)] ([.ref (o 0)] : List Value) (wM o cI Fa Aa) sz (wM o cI F9 A9) := by
  refine Met.ofW (cc := b_M_constant) (maxL := 5) (ret := none) (by decide) rfl ?_
  intro p e s m args below meth c s₁ B hml hv
  obtain ⟨rfl, hsz, hP, hK, hD0⟩ := hv
  have hx := B.exec
  have hb := B.bytes
  have hr := B.returns
  have hts := fun w h => atoms_spec (ws := (Cond.code y_M_constant b_M_constant 5 none :: wA)) B.pre w (List.mem_cons_of_mem _ h)
  have hown : s.vm.findClass R_M = some m.cls := findClass_of_methodNamed B.named
  have hlocks := B.notSynchronized
  subst hsz
  have hD := hD0.self (sz := s.heap.size)
  have hA : ∀ q : Nat, s.heap.size ≤ q → va_A (wM o cI Fa Aa) s.heap.size q := fun q h => Or.inr h
  have hS : va_S (va_A (wM o cI Fa Aa) s.heap.size) s.heap s.heap [] := va_S.rf
  have hl := lv_entry (([.ref (o 0)] : List Value)) (n := 5) (Nat.le_of_ble_eq_true rfl)
  have J197 : ∀ (x1 : Int32) (x2 : Int32) (x3 : Int32) (x4 : Int32) (F : ST_F) (A : ST_A) (H : Heap) (locs : List Loc) (ls : Array Slot), lv_has ls 5 [(0, .ref (o 0)), (1, .int x1), (2, .int x2), (3, .int x3), (4, .int x4)] → va_P (dC, dI) vC (wM o cI F A) H → va_D (va_A (wM o cI Fa Aa) s.heap.size) (wM o cI F A) → va_S (va_A (wM o cI Fa Aa) s.heap.size) s.heap H locs → f_M_constant_J197 x1 x2 x3 x4 F A = some (F9, A9) → W p l e (headSpec (Cond.code y_M_constant b_M_constant 5 none :: wA) ({ frames := 2, cells := 0, slots := 0, locals := 43 } : Room)).room s m ([.ref (o 0)] : List Value).toArray below meth c H locs 0 0 (MQ below (cc_Qv (dC, dI) vC [(cI, .int)] (wM o cI Fa Aa) s.heap.size (wM o cI F9 A9)) ([.ref (o 0)] : List Value).toArray s 0 0 (va_A (wM o cI Fa Aa) s.heap.size)) (F0 m 197 ls []) := by
    intro x1 x2 x3 x4 F A H locs ls hl hP hD hS hf
    unfold f_M_constant_J197 at hf
    refine lv_aload_n hx hb d_M_constant_197 rfl (lv_at hl 0 rfl) ?_
    refine va_get (D := (dC, dI)) (ci := 4) (v := .int (F 5)) (C := R_M) (T := T_M) (N := 29) hx hb hts in_M hown hK hP 0 rfl rfl 16 (by decide) (hts _ mw_519) (fun _ h9 => h9) rfl d_M_constant_198 ?_
    refine lv_if_eq (tgt := 205) hx hb d_M_constant_201 (by decide) (fun h201_6 => ?_) (fun h201_6 => ?_)
    · rw [if_pos h201_6] at hf
      refine lv_aload_n hx hb d_M_constant_205 rfl (lv_at hl 0 rfl) ?_
      refine va_get (D := (dC, dI)) (ci := 4) (v := .ref (o 16)) (C := R_M) (T := T_M) (N := 29) hx hb hts in_M hown hK hP 0 rfl rfl 25 (by decide) (hts _ mw_528) (fun _ h9 => h9) rfl d_M_constant_206 ?_
      refine lv_iconst (v := 0) hx hb d_M_constant_209 (by decide) ?_
      refine lv_aload_n hx hb d_M_constant_210 rfl (lv_at hl 0 rfl) ?_
      refine lv_iconst (v := 0) hx hb d_M_constant_211 (by decide) ?_
      refine lv_ldc (v := 65536) hx hb hown (hts _ mw_718) d_M_constant_212 ?_
      refine lv_iload_n hx hb d_M_constant_214 rfl (lv_at hl 1 rfl) ?_
      refine lv_imul hx hb d_M_constant_215 ?_
      refine lv_iload_n hx hb d_M_constant_216 rfl (lv_at hl 3 rfl) ?_
      refine lv_i2l hx hb d_M_constant_217 rfl ?_
      refine lv_ldc2 (v := 65536) hx hb hown (hts _ mw_719) d_M_constant_218 ?_
      refine lv_lmul hx hb d_M_constant_221 ?_
      refine lv_iload hx hb d_M_constant_222 (lv_at hl 4 rfl) ?_
      refine lv_i2l hx hb d_M_constant_224 rfl ?_
      obtain ⟨hn, hf⟩ := ra_nzl_some hf
      refine lv_ldiv hx hb d_M_constant_225 hn ?_
      refine lv_l2i hx hb d_M_constant_226 rfl ?_
      refine lv_iadd hx hb d_M_constant_227 ?_
      refine lv_iconst (v := 0) hx hb d_M_constant_228 (by decide) ?_
      have hP : va_P (dC, dI) vC (wM o cI F A) H := hP
      have hD : va_D (va_A (wM o cI Fa Aa) s.heap.size) (wM o cI F A) := hD
      obtain ⟨r7, F7, A7, hc, hf⟩ := ra_bi_some hf
      refine cc_calli (va_runV (As := [.int (0 : Int32), .int (((65536 : Int32) * x1) + ((((x3.toInt64) * (65536 : Int64)) / (x4.toInt64)).toInt32)), .int (0 : Int32)]) (rest := [.int (0 : Int32), .ref (o 16)]) ⟨hx, hb, hml, hown, hts⟩ (k_M_put l dC dI o cI H.size F A (0 : Int32) (((65536 : Int32) * x1) + ((((x3.toInt64) * (65536 : Int64)) / (x4.toInt64)).toInt32)) (0 : Int32) r7 F7 A7 hc) (cw_V 3 hts mw_652 mw_654 ms_M_put mw_5 mw_655 rfl rfl rfl hd_M_put ⟨Nat.le_of_ble_eq_true rfl, Nat.le_of_ble_eq_true rfl⟩) (cc_preV hK hP hD rfl (q0 := 0) rfl) rfl rfl hl.1 rfl (lv_room (Nat.le_of_ble_eq_true rfl)) d_M_constant_229 ⟨Nat.zero_le _, Nat.zero_le _⟩) hD hS hA (fun H locs hP hD hS => ?_)
      obtain ⟨hi, hf⟩ := ra_g_some hf
      refine va_iast hx hb hK hP hD hS 16 0 rfl rfl hi d_M_constant_232 (fun H locs hP hD hS => ?_)
      have hP : va_P (dC, dI) vC [((o 0), .inr (4, [.int (F7 0), .int (F7 1), .ref (o 1), .int (F7 2), .ref (o 2), .ref (o 3), .ref (o 4), .ref (o 5), .ref (o 6), .int (F7 3), .ref (o 7), .ref (o 8), .ref (o 9), .ref (o 10), .ref (o 11), .int (F7 4), .int (F7 5), .int (F7 6), .ref (o 12), .ref (o 13), .int (F7 7), .ref (o 14), .ref (o 15), .int (F7 8), .int (F7 9), .ref (o 16), .ref (o 17), .ref (o 18), .ref (o 19)])), ((o 1), .inl (cI, 160, .inl (A7 0))), ((o 2), .inl (cI, 100, .inl (A7 1))), ((o 3), .inl (cI, 100, .inl (A7 2))), ((o 4), .inl (cI, 100, .inl (A7 3))), ((o 5), .inl (cI, 3, .inl (A7 4))), ((o 6), .inl (cI, 26, .inl (A7 5))), ((o 7), .inl (cI, 100, .inl (A7 6))), ((o 8), .inl (cI, 100, .inl (A7 7))), ((o 9), .inl (cI, 100, .inl (A7 8))), ((o 10), .inl (cI, 26, .inl (A7 9))), ((o 11), .inl (cI, 104, .inl (A7 10))), ((o 12), .inl (cI, 80, .inl (A7 11))), ((o 13), .inl (cI, 320, .inl (A7 12))), ((o 14), .inl (cI, 200, .inl (A7 13))), ((o 15), .inl (cI, 200, .inl (A7 14))), ((o 16), .inl (cI, 4, .inl (upd (A7 15) (0 : Int32).toNatClampNeg r7))), ((o 17), .inl (cI, 32, .inl (A7 16))), ((o 18), .inl (cI, 32, .inl (A7 17))), ((o 19), .inl (cI, 100, .inl (A7 18)))] H := hP
      have hD : va_D (va_A (wM o cI Fa Aa) s.heap.size) [((o 0), .inr (4, [.int (F7 0), .int (F7 1), .ref (o 1), .int (F7 2), .ref (o 2), .ref (o 3), .ref (o 4), .ref (o 5), .ref (o 6), .int (F7 3), .ref (o 7), .ref (o 8), .ref (o 9), .ref (o 10), .ref (o 11), .int (F7 4), .int (F7 5), .int (F7 6), .ref (o 12), .ref (o 13), .int (F7 7), .ref (o 14), .ref (o 15), .int (F7 8), .int (F7 9), .ref (o 16), .ref (o 17), .ref (o 18), .ref (o 19)])), ((o 1), .inl (cI, 160, .inl (A7 0))), ((o 2), .inl (cI, 100, .inl (A7 1))), ((o 3), .inl (cI, 100, .inl (A7 2))), ((o 4), .inl (cI, 100, .inl (A7 3))), ((o 5), .inl (cI, 3, .inl (A7 4))), ((o 6), .inl (cI, 26, .inl (A7 5))), ((o 7), .inl (cI, 100, .inl (A7 6))), ((o 8), .inl (cI, 100, .inl (A7 7))), ((o 9), .inl (cI, 100, .inl (A7 8))), ((o 10), .inl (cI, 26, .inl (A7 9))), ((o 11), .inl (cI, 104, .inl (A7 10))), ((o 12), .inl (cI, 80, .inl (A7 11))), ((o 13), .inl (cI, 320, .inl (A7 12))), ((o 14), .inl (cI, 200, .inl (A7 13))), ((o 15), .inl (cI, 200, .inl (A7 14))), ((o 16), .inl (cI, 4, .inl (upd (A7 15) (0 : Int32).toNatClampNeg r7))), ((o 17), .inl (cI, 32, .inl (A7 16))), ((o 18), .inl (cI, 32, .inl (A7 17))), ((o 19), .inl (cI, 100, .inl (A7 18)))] := hD
      refine lv_aload_n hx hb d_M_constant_233 rfl (lv_at hl 0 rfl) ?_
      refine lv_iconst (v := 1) hx hb d_M_constant_234 (by decide) ?_
      have hP : va_P (dC, dI) vC (wM o cI F7 (va_up A7 15 (upd (A7 15) (0 : Int32).toNatClampNeg r7))) H := hP
      have hD : va_D (va_A (wM o cI Fa Aa) s.heap.size) (wM o cI F7 (va_up A7 15 (upd (A7 15) (0 : Int32).toNatClampNeg r7))) := hD
      obtain ⟨F8, A8, hc, hf⟩ := ra_bv_some hf
      refine cc_callv (va_runV (As := [.int (1 : Int32)]) (rest := []) ⟨hx, hb, hml, hown, hts⟩ (k_M_pushMade l dC dI o cI H.size F7 (va_up A7 15 (upd (A7 15) (0 : Int32).toNatClampNeg r7)) (1 : Int32) F8 A8 hc) (cw_V 1 hts mw_656 mw_658 ms_M_pushMade mw_5 mw_659 rfl rfl rfl hd_M_pushMade ⟨Nat.le_of_ble_eq_true rfl, Nat.le_of_ble_eq_true rfl⟩) (cc_preV hK hP hD rfl (q0 := 0) rfl) rfl rfl hl.1 rfl (lv_room (Nat.le_of_ble_eq_true rfl)) d_M_constant_235 ⟨Nat.zero_le _, Nat.zero_le _⟩) hD hS hA (fun H locs hP hD hS => ?_)
      cases hf
      exact W.vret hx hb hr (fun t ht hW => ⟨⟨(), rfl, trivial, by rw [ht]; exact hP, va_K.moved hW.alike hK, hD⟩, hS.F ht⟩) hS.2.2 d_M_constant_238
    · rw [if_neg h201_6] at hf
      cases hf
      exact W.vret hx hb hr (fun t ht hW => ⟨⟨(), rfl, trivial, by rw [ht]; exact hP, va_K.moved hW.alike hK, hD⟩, hS.F ht⟩) hS.2.2 d_M_constant_204
  have J194 : ∀ (x1 : Int32) (x2 : Int32) (x3 : Int32) (x4 : Int32) (z0 : Int32) (F : ST_F) (A : ST_A) (H : Heap) (locs : List Loc) (ls : Array Slot), lv_has ls 5 [(0, .ref (o 0)), (1, .int x1), (2, .int x2), (3, .int x3), (4, .int x4)] → va_P (dC, dI) vC (wM o cI F A) H → va_D (va_A (wM o cI Fa Aa) s.heap.size) (wM o cI F A) → va_S (va_A (wM o cI Fa Aa) s.heap.size) s.heap H locs → f_M_constant_J194 x1 x2 x3 x4 z0 F A = some (F9, A9) → W p l e (headSpec (Cond.code y_M_constant b_M_constant 5 none :: wA) ({ frames := 2, cells := 0, slots := 0, locals := 43 } : Room)).room s m ([.ref (o 0)] : List Value).toArray below meth c H locs 0 0 (MQ below (cc_Qv (dC, dI) vC [(cI, .int)] (wM o cI Fa Aa) s.heap.size (wM o cI F9 A9)) ([.ref (o 0)] : List Value).toArray s 0 0 (va_A (wM o cI Fa Aa) s.heap.size)) (F0 m 194 ls [.int z0, .ref (o 0)]) := by
    intro x1 x2 x3 x4 z0 F A H locs ls hl hP hD hS hf
    unfold f_M_constant_J194 at hf
    obtain ⟨hn, hfit, hf⟩ := ra_zb_some hf
    refine va_put (D := (dC, dI)) (ci := 4) (v := .int z0) (ty := .boolean) (C := R_M) (T := T_M) (N := 29) hx hb hts in_M ty_M ty_M_ok nm_M hown hK hP hD hS 0 rfl rfl 16 (by decide) (hts _ mw_519) (fun _ h9 => h9) rfl (by decide +kernel) hn hfit (Nat.le_of_ble_eq_true rfl) d_M_constant_194 (fun H locs hP hD hS => ?_)
    have hP : va_P (dC, dI) vC [((o 0), .inr (4, [.int (F 0), .int (F 1), .ref (o 1), .int (F 2), .ref (o 2), .ref (o 3), .ref (o 4), .ref (o 5), .ref (o 6), .int (F 3), .ref (o 7), .ref (o 8), .ref (o 9), .ref (o 10), .ref (o 11), .int (F 4), .int z0, .int (F 6), .ref (o 12), .ref (o 13), .int (F 7), .ref (o 14), .ref (o 15), .int (F 8), .int (F 9), .ref (o 16), .ref (o 17), .ref (o 18), .ref (o 19)])), ((o 1), .inl (cI, 160, .inl (A 0))), ((o 2), .inl (cI, 100, .inl (A 1))), ((o 3), .inl (cI, 100, .inl (A 2))), ((o 4), .inl (cI, 100, .inl (A 3))), ((o 5), .inl (cI, 3, .inl (A 4))), ((o 6), .inl (cI, 26, .inl (A 5))), ((o 7), .inl (cI, 100, .inl (A 6))), ((o 8), .inl (cI, 100, .inl (A 7))), ((o 9), .inl (cI, 100, .inl (A 8))), ((o 10), .inl (cI, 26, .inl (A 9))), ((o 11), .inl (cI, 104, .inl (A 10))), ((o 12), .inl (cI, 80, .inl (A 11))), ((o 13), .inl (cI, 320, .inl (A 12))), ((o 14), .inl (cI, 200, .inl (A 13))), ((o 15), .inl (cI, 200, .inl (A 14))), ((o 16), .inl (cI, 4, .inl (A 15))), ((o 17), .inl (cI, 32, .inl (A 16))), ((o 18), .inl (cI, 32, .inl (A 17))), ((o 19), .inl (cI, 100, .inl (A 18)))] H := hP
    have hD : va_D (va_A (wM o cI Fa Aa) s.heap.size) [((o 0), .inr (4, [.int (F 0), .int (F 1), .ref (o 1), .int (F 2), .ref (o 2), .ref (o 3), .ref (o 4), .ref (o 5), .ref (o 6), .int (F 3), .ref (o 7), .ref (o 8), .ref (o 9), .ref (o 10), .ref (o 11), .int (F 4), .int z0, .int (F 6), .ref (o 12), .ref (o 13), .int (F 7), .ref (o 14), .ref (o 15), .int (F 8), .int (F 9), .ref (o 16), .ref (o 17), .ref (o 18), .ref (o 19)])), ((o 1), .inl (cI, 160, .inl (A 0))), ((o 2), .inl (cI, 100, .inl (A 1))), ((o 3), .inl (cI, 100, .inl (A 2))), ((o 4), .inl (cI, 100, .inl (A 3))), ((o 5), .inl (cI, 3, .inl (A 4))), ((o 6), .inl (cI, 26, .inl (A 5))), ((o 7), .inl (cI, 100, .inl (A 6))), ((o 8), .inl (cI, 100, .inl (A 7))), ((o 9), .inl (cI, 100, .inl (A 8))), ((o 10), .inl (cI, 26, .inl (A 9))), ((o 11), .inl (cI, 104, .inl (A 10))), ((o 12), .inl (cI, 80, .inl (A 11))), ((o 13), .inl (cI, 320, .inl (A 12))), ((o 14), .inl (cI, 200, .inl (A 13))), ((o 15), .inl (cI, 200, .inl (A 14))), ((o 16), .inl (cI, 4, .inl (A 15))), ((o 17), .inl (cI, 32, .inl (A 16))), ((o 18), .inl (cI, 32, .inl (A 17))), ((o 19), .inl (cI, 100, .inl (A 18)))] := hD
    have hl : lv_has ls 5 [(0, .ref (o 0)), (1, .int x1), (2, .int x2), (3, .int x3), (4, .int x4)] := lv_sub hl [0, 1, 2, 3, 4] rfl
    exact J197 x1 x2 x3 x4 (upd F 5 z0) A _ _ _ hl hP hD hS hf
  have J189 : ∀ (x1 : Int32) (x2 : Int32) (x3 : Int32) (x4 : Int32) (F : ST_F) (A : ST_A) (H : Heap) (locs : List Loc) (ls : Array Slot), lv_has ls 5 [(0, .ref (o 0)), (1, .int x1), (2, .int x2), (3, .int x3), (4, .int x4)] → va_P (dC, dI) vC (wM o cI F A) H → va_D (va_A (wM o cI Fa Aa) s.heap.size) (wM o cI F A) → va_S (va_A (wM o cI Fa Aa) s.heap.size) s.heap H locs → f_M_constant_J189 x1 x2 x3 x4 F A = some (F9, A9) → W p l e (headSpec (Cond.code y_M_constant b_M_constant 5 none :: wA) ({ frames := 2, cells := 0, slots := 0, locals := 43 } : Room)).room s m ([.ref (o 0)] : List Value).toArray below meth c H locs 0 0 (MQ below (cc_Qv (dC, dI) vC [(cI, .int)] (wM o cI Fa Aa) s.heap.size (wM o cI F9 A9)) ([.ref (o 0)] : List Value).toArray s 0 0 (va_A (wM o cI Fa Aa) s.heap.size)) (F0 m 189 ls [.ref (o 0)]) := by
    intro x1 x2 x3 x4 F A H locs ls hl hP hD hS hf
    unfold f_M_constant_J189 at hf
    refine lv_iconst (v := 1) hx hb d_M_constant_189 (by decide) ?_
    refine lv_goto (tgt := 194) hx hb d_M_constant_190 (by decide) ?_
    have hl : lv_has ls 5 [(0, .ref (o 0)), (1, .int x1), (2, .int x2), (3, .int x3), (4, .int x4)] := lv_sub hl [0, 1, 2, 3, 4] rfl
    exact J194 x1 x2 x3 x4 (1 : Int32) F A _ _ _ hl hP hD hS hf
  have J159 : ∀ (x1 : Int32) (x2 : Int32) (x3 : Int32) (x4 : Int32) (F : ST_F) (A : ST_A) (H : Heap) (locs : List Loc) (ls : Array Slot), lv_has ls 5 [(0, .ref (o 0)), (1, .int x1), (2, .int x2), (3, .int x3), (4, .int x4)] → va_P (dC, dI) vC (wM o cI F A) H → va_D (va_A (wM o cI Fa Aa) s.heap.size) (wM o cI F A) → va_S (va_A (wM o cI Fa Aa) s.heap.size) s.heap H locs → f_M_constant_J159 x1 x2 x3 x4 F A = some (F9, A9) → W p l e (headSpec (Cond.code y_M_constant b_M_constant 5 none :: wA) ({ frames := 2, cells := 0, slots := 0, locals := 43 } : Room)).room s m ([.ref (o 0)] : List Value).toArray below meth c H locs 0 0 (MQ below (cc_Qv (dC, dI) vC [(cI, .int)] (wM o cI Fa Aa) s.heap.size (wM o cI F9 A9)) ([.ref (o 0)] : List Value).toArray s 0 0 (va_A (wM o cI Fa Aa) s.heap.size)) (F0 m 159 ls []) := by
    intro x1 x2 x3 x4 F A H locs ls hl hP hD hS hf
    unfold f_M_constant_J159 at hf
    refine lv_aload_n hx hb d_M_constant_159 rfl (lv_at hl 0 rfl) ?_
    refine lv_aload_n hx hb d_M_constant_160 rfl (lv_at hl 0 rfl) ?_
    refine va_get (D := (dC, dI)) (ci := 4) (v := .int (F 5)) (C := R_M) (T := T_M) (N := 29) hx hb hts in_M hown hK hP 0 rfl rfl 16 (by decide) (hts _ mw_519) (fun _ h9 => h9) rfl d_M_constant_161 ?_
    refine lv_if_ne (tgt := 189) hx hb d_M_constant_164 (by decide) (fun h164_11 => ?_) (fun h164_11 => ?_)
    · rw [if_neg h164_11] at hf
      have hl : lv_has ls 5 [(0, .ref (o 0)), (1, .int x1), (2, .int x2), (3, .int x3), (4, .int x4)] := lv_sub hl [0, 1, 2, 3, 4] rfl
      exact J189 x1 x2 x3 x4 F A _ _ _ hl hP hD hS hf
    · rw [if_pos h164_11] at hf
      refine lv_iload_n hx hb d_M_constant_167 rfl (lv_at hl 2 rfl) ?_
      refine lv_if_eq (tgt := 189) hx hb d_M_constant_168 (by decide) (fun h168_12 => ?_) (fun h168_12 => ?_)
      · rw [if_pos h168_12] at hf
        have hl : lv_has ls 5 [(0, .ref (o 0)), (1, .int x1), (2, .int x2), (3, .int x3), (4, .int x4)] := lv_sub hl [0, 1, 2, 3, 4] rfl
        exact J189 x1 x2 x3 x4 F A _ _ _ hl hP hD hS hf
      · rw [if_neg h168_12] at hf
        refine lv_iload_n hx hb d_M_constant_171 rfl (lv_at hl 2 rfl) ?_
        refine lv_iconst (v := 5) hx hb d_M_constant_172 (by decide) ?_
        refine lv_icmp_eq (tgt := 189) hx hb d_M_constant_173 (by decide) (fun h173_13 => ?_) (fun h173_13 => ?_)
        · rw [if_pos h173_13] at hf
          have hl : lv_has ls 5 [(0, .ref (o 0)), (1, .int x1), (2, .int x2), (3, .int x3), (4, .int x4)] := lv_sub hl [0, 1, 2, 3, 4] rfl
          exact J189 x1 x2 x3 x4 F A _ _ _ hl hP hD hS hf
        · rw [if_neg h173_13] at hf
          refine lv_aload_n hx hb d_M_constant_176 rfl (lv_at hl 0 rfl) ?_
          refine lv_aload_n hx hb d_M_constant_177 rfl (lv_at hl 0 rfl) ?_
          refine va_get (D := (dC, dI)) (ci := 4) (v := .int (F 4)) (C := R_M) (T := T_M) (N := 29) hx hb hts in_M hown hK hP 0 rfl rfl 15 (by decide) (hts _ mw_518) (fun _ h9 => h9) rfl d_M_constant_178 ?_
          have hP : va_P (dC, dI) vC (wM o cI F A) H := hP
          have hD : va_D (va_A (wM o cI Fa Aa) s.heap.size) (wM o cI F A) := hD
          obtain ⟨r14, F14, A14, hc, hf⟩ := ra_bi_some hf
          refine cc_calli (va_runV (As := [.int (F 4)]) (rest := [.ref (o 0)]) ⟨hx, hb, hml, hown, hts⟩ (k_M_look l dC dI o cI H.size F A (F 4) r14 F14 A14 hc) (cw_V 1 hts mw_611 mw_613 ms_M_look mw_5 mw_614 rfl rfl rfl hd_M_look ⟨Nat.le_of_ble_eq_true rfl, Nat.le_of_ble_eq_true rfl⟩) (cc_preV hK hP hD rfl (q0 := 0) rfl) rfl rfl hl.1 rfl (lv_room (Nat.le_of_ble_eq_true rfl)) d_M_constant_181 ⟨Nat.zero_le _, Nat.zero_le _⟩) hD hS hA (fun H locs hP hD hS => ?_)
          refine lv_bipush (v := 46) hx hb d_M_constant_184 (by decide) ?_
          refine lv_icmp_ne (tgt := 193) hx hb d_M_constant_186 (by decide) (fun h186_15 => ?_) (fun h186_15 => ?_)
          · rw [if_neg h186_15] at hf
            refine lv_iconst (v := 0) hx hb d_M_constant_193 (by decide) ?_
            have hl : lv_has ls 5 [(0, .ref (o 0)), (1, .int x1), (2, .int x2), (3, .int x3), (4, .int x4)] := lv_sub hl [0, 1, 2, 3, 4] rfl
            exact J194 x1 x2 x3 x4 (0 : Int32) F14 A14 _ _ _ hl hP hD hS hf
          · rw [if_pos h186_15] at hf
            have hl : lv_has ls 5 [(0, .ref (o 0)), (1, .int x1), (2, .int x2), (3, .int x3), (4, .int x4)] := lv_sub hl [0, 1, 2, 3, 4] rfl
            exact J189 x1 x2 x3 x4 F14 A14 _ _ _ hl hP hD hS hf
  have L100 : ∀ (n : Nat) (x1 : Int32) (x2 : Int32) (x3 : Int32) (x4 : Int32) (F : ST_F) (A : ST_A) (H : Heap) (locs : List Loc) (ls : Array Slot), lv_has ls 5 [(0, .ref (o 0)), (1, .int x1), (2, .int x2), (3, .int x3), (4, .int x4)] → va_P (dC, dI) vC (wM o cI F A) H → va_D (va_A (wM o cI Fa Aa) s.heap.size) (wM o cI F A) → va_S (va_A (wM o cI Fa Aa) s.heap.size) s.heap H locs → f_M_constant_L100 n x1 x2 x3 x4 F A = some (F9, A9) → W p l e (headSpec (Cond.code y_M_constant b_M_constant 5 none :: wA) ({ frames := 2, cells := 0, slots := 0, locals := 43 } : Room)).room s m ([.ref (o 0)] : List Value).toArray below meth c H locs 0 0 (MQ below (cc_Qv (dC, dI) vC [(cI, .int)] (wM o cI Fa Aa) s.heap.size (wM o cI F9 A9)) ([.ref (o 0)] : List Value).toArray s 0 0 (va_A (wM o cI Fa Aa) s.heap.size)) (F0 m 100 ls []) := by
    intro n
    induction n with
    | zero => intro x1 x2 x3 x4 F A H locs ls hl hP hD hS hf; cases hf
    | succ n ih =>
      intro x1 x2 x3 x4 F A H locs ls hl hP hD hS hf
      rw [f_M_constant_L100] at hf
      refine lv_aload_n hx hb d_M_constant_100 rfl (lv_at hl 0 rfl) ?_
      refine lv_aload_n hx hb d_M_constant_101 rfl (lv_at hl 0 rfl) ?_
      refine va_get (D := (dC, dI)) (ci := 4) (v := .int (F 4)) (C := R_M) (T := T_M) (N := 29) hx hb hts in_M hown hK hP 0 rfl rfl 15 (by decide) (hts _ mw_518) (fun _ h9 => h9) rfl d_M_constant_102 ?_
      have hP : va_P (dC, dI) vC (wM o cI F A) H := hP
      have hD : va_D (va_A (wM o cI Fa Aa) s.heap.size) (wM o cI F A) := hD
      obtain ⟨r9, F9, A9, hc, hf⟩ := ra_bi_some hf
      refine cc_calli (va_runV (As := [.int (F 4)]) (rest := []) ⟨hx, hb, hml, hown, hts⟩ (k_M_look l dC dI o cI H.size F A (F 4) r9 F9 A9 hc) (cw_V 1 hts mw_611 mw_613 ms_M_look mw_5 mw_614 rfl rfl rfl hd_M_look ⟨Nat.le_of_ble_eq_true rfl, Nat.le_of_ble_eq_true rfl⟩) (cc_preV hK hP hD rfl (q0 := 0) rfl) rfl rfl hl.1 rfl (lv_room (Nat.le_of_ble_eq_true rfl)) d_M_constant_105 ⟨Nat.zero_le _, Nat.zero_le _⟩) hD hS hA (fun H locs hP hD hS => ?_)
      refine cc_calls (va_runS (As := [.int r9]) (rest := []) ⟨hx, hb, hml, hown, hts⟩ (k_M_isDigit l r9 _ rfl) (cw_S 1 hts mw_711 mw_712 mw_5 mw_713 rfl rfl hd_M_isDigit ⟨Nat.le_of_ble_eq_true rfl, Nat.le_of_ble_eq_true rfl⟩) cc_preS rfl rfl hl.1 rfl (lv_room (Nat.le_of_ble_eq_true rfl)) d_M_constant_108 ⟨Nat.zero_le _, Nat.zero_le _⟩) ?_
      refine lv_if_eq (tgt := 159) hx hb d_M_constant_111 (by decide) (fun h111_10 => ?_) (fun h111_10 => ?_)
      · rw [if_pos h111_10] at hf
        have hl : lv_has ls 5 [(0, .ref (o 0)), (1, .int x1), (2, .int x2), (3, .int x3), (4, .int x4)] := lv_sub hl [0, 1, 2, 3, 4] rfl
        exact J159 x1 x2 x3 x4 F9 A9 _ _ _ hl hP hD hS hf
      · rw [if_neg h111_10] at hf
        refine lv_iload_n hx hb d_M_constant_114 rfl (lv_at hl 2 rfl) ?_
        refine lv_iconst (v := 5) hx hb d_M_constant_115 (by decide) ?_
        refine lv_icmp_ge (tgt := 159) hx hb d_M_constant_116 (by decide) (fun h116_16 => ?_) (fun h116_16 => ?_)
        · rw [if_pos h116_16] at hf
          have hl : lv_has ls 5 [(0, .ref (o 0)), (1, .int x1), (2, .int x2), (3, .int x3), (4, .int x4)] := lv_sub hl [0, 1, 2, 3, 4] rfl
          exact J159 x1 x2 x3 x4 F9 A9 _ _ _ hl hP hD hS hf
        · rw [if_neg h116_16] at hf
          refine lv_bipush (v := 10) hx hb d_M_constant_119 (by decide) ?_
          refine lv_iload_n hx hb d_M_constant_121 rfl (lv_at hl 3 rfl) ?_
          refine lv_imul hx hb d_M_constant_122 ?_
          refine lv_aload_n hx hb d_M_constant_123 rfl (lv_at hl 0 rfl) ?_
          refine lv_aload_n hx hb d_M_constant_124 rfl (lv_at hl 0 rfl) ?_
          refine va_get (D := (dC, dI)) (ci := 4) (v := .int (F9 4)) (C := R_M) (T := T_M) (N := 29) hx hb hts in_M hown hK hP 0 rfl rfl 15 (by decide) (hts _ mw_518) (fun _ h9 => h9) rfl d_M_constant_125 ?_
          have hP : va_P (dC, dI) vC (wM o cI F9 A9) H := hP
          have hD : va_D (va_A (wM o cI Fa Aa) s.heap.size) (wM o cI F9 A9) := hD
          obtain ⟨r17, F17, A17, hc, hf⟩ := ra_bi_some hf
          refine cc_calli (va_runV (As := [.int (F9 4)]) (rest := [.int ((10 : Int32) * x3)]) ⟨hx, hb, hml, hown, hts⟩ (k_M_look l dC dI o cI H.size F9 A9 (F9 4) r17 F17 A17 hc) (cw_V 1 hts mw_611 mw_613 ms_M_look mw_5 mw_614 rfl rfl rfl hd_M_look ⟨Nat.le_of_ble_eq_true rfl, Nat.le_of_ble_eq_true rfl⟩) (cc_preV hK hP hD rfl (q0 := 0) rfl) rfl rfl hl.1 rfl (lv_room (Nat.le_of_ble_eq_true rfl)) d_M_constant_128 ⟨Nat.zero_le _, Nat.zero_le _⟩) hD hS hA (fun H locs hP hD hS => ?_)
          refine lv_iadd hx hb d_M_constant_131 ?_
          refine lv_bipush (v := 48) hx hb d_M_constant_132 (by decide) ?_
          refine lv_isub hx hb d_M_constant_134 ?_
          refine lv_istore_n hx hb d_M_constant_135 rfl hl (by decide) rfl (fun ls hl => ?_)
          have hl : lv_has ls 5 [(3, .int ((((10 : Int32) * x3) + r17) - (48 : Int32))), (0, .ref (o 0)), (1, .int x1), (2, .int x2), (4, .int x4)] := hl
          refine lv_iload hx hb d_M_constant_136 (lv_at hl 4 rfl) ?_
          refine lv_bipush (v := 10) hx hb d_M_constant_138 (by decide) ?_
          refine lv_imul hx hb d_M_constant_140 ?_
          refine lv_istore hx hb d_M_constant_141 hl (by decide) rfl (fun ls hl => ?_)
          have hl : lv_has ls 5 [(4, .int (x4 * (10 : Int32))), (3, .int ((((10 : Int32) * x3) + r17) - (48 : Int32))), (0, .ref (o 0)), (1, .int x1), (2, .int x2)] := hl
          refine lv_aload_n hx hb d_M_constant_143 rfl (lv_at hl 2 rfl) ?_
          refine lv_dup hx hb d_M_constant_144 rfl ?_
          refine va_get (D := (dC, dI)) (ci := 4) (v := .int (F17 4)) (C := R_M) (T := T_M) (N := 29) hx hb hts in_M hown hK hP 0 rfl rfl 15 (by decide) (hts _ mw_518) (fun _ h9 => h9) rfl d_M_constant_145 ?_
          refine lv_iconst (v := 1) hx hb d_M_constant_148 (by decide) ?_
          refine lv_iadd hx hb d_M_constant_149 ?_
          refine va_put (D := (dC, dI)) (ci := 4) (v := .int ((F17 4) + (1 : Int32))) (ty := .int) (C := R_M) (T := T_M) (N := 29) hx hb hts in_M ty_M ty_M_ok nm_M hown hK hP hD hS 0 rfl rfl 15 (by decide) (hts _ mw_518) (fun _ h9 => h9) rfl (by decide +kernel) rfl rfl (Nat.le_of_ble_eq_true rfl) d_M_constant_150 (fun H locs hP hD hS => ?_)
          have hP : va_P (dC, dI) vC [((o 0), .inr (4, [.int (F17 0), .int (F17 1), .ref (o 1), .int (F17 2), .ref (o 2), .ref (o 3), .ref (o 4), .ref (o 5), .ref (o 6), .int (F17 3), .ref (o 7), .ref (o 8), .ref (o 9), .ref (o 10), .ref (o 11), .int ((F17 4) + (1 : Int32)), .int (F17 5), .int (F17 6), .ref (o 12), .ref (o 13), .int (F17 7), .ref (o 14), .ref (o 15), .int (F17 8), .int (F17 9), .ref (o 16), .ref (o 17), .ref (o 18), .ref (o 19)])), ((o 1), .inl (cI, 160, .inl (A17 0))), ((o 2), .inl (cI, 100, .inl (A17 1))), ((o 3), .inl (cI, 100, .inl (A17 2))), ((o 4), .inl (cI, 100, .inl (A17 3))), ((o 5), .inl (cI, 3, .inl (A17 4))), ((o 6), .inl (cI, 26, .inl (A17 5))), ((o 7), .inl (cI, 100, .inl (A17 6))), ((o 8), .inl (cI, 100, .inl (A17 7))), ((o 9), .inl (cI, 100, .inl (A17 8))), ((o 10), .inl (cI, 26, .inl (A17 9))), ((o 11), .inl (cI, 104, .inl (A17 10))), ((o 12), .inl (cI, 80, .inl (A17 11))), ((o 13), .inl (cI, 320, .inl (A17 12))), ((o 14), .inl (cI, 200, .inl (A17 13))), ((o 15), .inl (cI, 200, .inl (A17 14))), ((o 16), .inl (cI, 4, .inl (A17 15))), ((o 17), .inl (cI, 32, .inl (A17 16))), ((o 18), .inl (cI, 32, .inl (A17 17))), ((o 19), .inl (cI, 100, .inl (A17 18)))] H := hP
          have hD : va_D (va_A (wM o cI Fa Aa) s.heap.size) [((o 0), .inr (4, [.int (F17 0), .int (F17 1), .ref (o 1), .int (F17 2), .ref (o 2), .ref (o 3), .ref (o 4), .ref (o 5), .ref (o 6), .int (F17 3), .ref (o 7), .ref (o 8), .ref (o 9), .ref (o 10), .ref (o 11), .int ((F17 4) + (1 : Int32)), .int (F17 5), .int (F17 6), .ref (o 12), .ref (o 13), .int (F17 7), .ref (o 14), .ref (o 15), .int (F17 8), .int (F17 9), .ref (o 16), .ref (o 17), .ref (o 18), .ref (o 19)])), ((o 1), .inl (cI, 160, .inl (A17 0))), ((o 2), .inl (cI, 100, .inl (A17 1))), ((o 3), .inl (cI, 100, .inl (A17 2))), ((o 4), .inl (cI, 100, .inl (A17 3))), ((o 5), .inl (cI, 3, .inl (A17 4))), ((o 6), .inl (cI, 26, .inl (A17 5))), ((o 7), .inl (cI, 100, .inl (A17 6))), ((o 8), .inl (cI, 100, .inl (A17 7))), ((o 9), .inl (cI, 100, .inl (A17 8))), ((o 10), .inl (cI, 26, .inl (A17 9))), ((o 11), .inl (cI, 104, .inl (A17 10))), ((o 12), .inl (cI, 80, .inl (A17 11))), ((o 13), .inl (cI, 320, .inl (A17 12))), ((o 14), .inl (cI, 200, .inl (A17 13))), ((o 15), .inl (cI, 200, .inl (A17 14))), ((o 16), .inl (cI, 4, .inl (A17 15))), ((o 17), .inl (cI, 32, .inl (A17 16))), ((o 18), .inl (cI, 32, .inl (A17 17))), ((o 19), .inl (cI, 100, .inl (A17 18)))] := hD
          refine lv_iinc (k := 4) (v := (x2 + (1 : Int32))) hx hb d_M_constant_153 hl rfl (by rfl) (by decide) rfl (fun ls hl => ?_)
          have hl : lv_has ls 5 [(2, .int (x2 + (1 : Int32))), (4, .int (x4 * (10 : Int32))), (3, .int ((((10 : Int32) * x3) + r17) - (48 : Int32))), (0, .ref (o 0)), (1, .int x1)] := hl
          refine lv_goto (tgt := 100) hx hb d_M_constant_156 (by decide) ?_
          have hl : lv_has ls 5 [(0, .ref (o 0)), (1, .int x1), (2, .int (x2 + (1 : Int32))), (3, .int ((((10 : Int32) * x3) + r17) - (48 : Int32))), (4, .int (x4 * (10 : Int32)))] := lv_sub hl [3, 4, 0, 2, 1] rfl
          exact ih x1 (x2 + (1 : Int32)) ((((10 : Int32) * x3) + r17) - (48 : Int32)) (x4 * (10 : Int32)) (upd F17 4 ((F17 4) + (1 : Int32))) A17 _ _ _ hl hP hD hS hf
  have J67 : ∀ (x1 : Int32) (x2 : Int32) (z0 : Int32) (F : ST_F) (A : ST_A) (H : Heap) (locs : List Loc) (ls : Array Slot), lv_has ls 5 [(0, .ref (o 0)), (1, .int x1), (2, .int x2)] → va_P (dC, dI) vC (wM o cI F A) H → va_D (va_A (wM o cI Fa Aa) s.heap.size) (wM o cI F A) → va_S (va_A (wM o cI Fa Aa) s.heap.size) s.heap H locs → f_M_constant_J67 x1 x2 z0 F A = some (F9, A9) → W p l e (headSpec (Cond.code y_M_constant b_M_constant 5 none :: wA) ({ frames := 2, cells := 0, slots := 0, locals := 43 } : Room)).room s m ([.ref (o 0)] : List Value).toArray below meth c H locs 0 0 (MQ below (cc_Qv (dC, dI) vC [(cI, .int)] (wM o cI Fa Aa) s.heap.size (wM o cI F9 A9)) ([.ref (o 0)] : List Value).toArray s 0 0 (va_A (wM o cI Fa Aa) s.heap.size)) (F0 m 67 ls [.int z0, .ref (o 0)]) := by
    intro x1 x2 z0 F A H locs ls hl hP hD hS hf
    unfold f_M_constant_J67 at hf
    obtain ⟨hn, hfit, hf⟩ := ra_zb_some hf
    refine va_put (D := (dC, dI)) (ci := 4) (v := .int z0) (ty := .boolean) (C := R_M) (T := T_M) (N := 29) hx hb hts in_M ty_M ty_M_ok nm_M hown hK hP hD hS 0 rfl rfl 16 (by decide) (hts _ mw_519) (fun _ h9 => h9) rfl (by decide +kernel) hn hfit (Nat.le_of_ble_eq_true rfl) d_M_constant_67 (fun H locs hP hD hS => ?_)
    have hP : va_P (dC, dI) vC [((o 0), .inr (4, [.int (F 0), .int (F 1), .ref (o 1), .int (F 2), .ref (o 2), .ref (o 3), .ref (o 4), .ref (o 5), .ref (o 6), .int (F 3), .ref (o 7), .ref (o 8), .ref (o 9), .ref (o 10), .ref (o 11), .int (F 4), .int z0, .int (F 6), .ref (o 12), .ref (o 13), .int (F 7), .ref (o 14), .ref (o 15), .int (F 8), .int (F 9), .ref (o 16), .ref (o 17), .ref (o 18), .ref (o 19)])), ((o 1), .inl (cI, 160, .inl (A 0))), ((o 2), .inl (cI, 100, .inl (A 1))), ((o 3), .inl (cI, 100, .inl (A 2))), ((o 4), .inl (cI, 100, .inl (A 3))), ((o 5), .inl (cI, 3, .inl (A 4))), ((o 6), .inl (cI, 26, .inl (A 5))), ((o 7), .inl (cI, 100, .inl (A 6))), ((o 8), .inl (cI, 100, .inl (A 7))), ((o 9), .inl (cI, 100, .inl (A 8))), ((o 10), .inl (cI, 26, .inl (A 9))), ((o 11), .inl (cI, 104, .inl (A 10))), ((o 12), .inl (cI, 80, .inl (A 11))), ((o 13), .inl (cI, 320, .inl (A 12))), ((o 14), .inl (cI, 200, .inl (A 13))), ((o 15), .inl (cI, 200, .inl (A 14))), ((o 16), .inl (cI, 4, .inl (A 15))), ((o 17), .inl (cI, 32, .inl (A 16))), ((o 18), .inl (cI, 32, .inl (A 17))), ((o 19), .inl (cI, 100, .inl (A 18)))] H := hP
    have hD : va_D (va_A (wM o cI Fa Aa) s.heap.size) [((o 0), .inr (4, [.int (F 0), .int (F 1), .ref (o 1), .int (F 2), .ref (o 2), .ref (o 3), .ref (o 4), .ref (o 5), .ref (o 6), .int (F 3), .ref (o 7), .ref (o 8), .ref (o 9), .ref (o 10), .ref (o 11), .int (F 4), .int z0, .int (F 6), .ref (o 12), .ref (o 13), .int (F 7), .ref (o 14), .ref (o 15), .int (F 8), .int (F 9), .ref (o 16), .ref (o 17), .ref (o 18), .ref (o 19)])), ((o 1), .inl (cI, 160, .inl (A 0))), ((o 2), .inl (cI, 100, .inl (A 1))), ((o 3), .inl (cI, 100, .inl (A 2))), ((o 4), .inl (cI, 100, .inl (A 3))), ((o 5), .inl (cI, 3, .inl (A 4))), ((o 6), .inl (cI, 26, .inl (A 5))), ((o 7), .inl (cI, 100, .inl (A 6))), ((o 8), .inl (cI, 100, .inl (A 7))), ((o 9), .inl (cI, 100, .inl (A 8))), ((o 10), .inl (cI, 26, .inl (A 9))), ((o 11), .inl (cI, 104, .inl (A 10))), ((o 12), .inl (cI, 80, .inl (A 11))), ((o 13), .inl (cI, 320, .inl (A 12))), ((o 14), .inl (cI, 200, .inl (A 13))), ((o 15), .inl (cI, 200, .inl (A 14))), ((o 16), .inl (cI, 4, .inl (A 15))), ((o 17), .inl (cI, 32, .inl (A 16))), ((o 18), .inl (cI, 32, .inl (A 17))), ((o 19), .inl (cI, 100, .inl (A 18)))] := hD
    refine lv_iconst (v := 0) hx hb d_M_constant_70 (by decide) ?_
    refine lv_istore_n hx hb d_M_constant_71 rfl hl (by decide) rfl (fun ls hl => ?_)
    have hl : lv_has ls 5 [(3, .int (0 : Int32)), (0, .ref (o 0)), (1, .int x1), (2, .int x2)] := hl
    refine lv_iconst (v := 1) hx hb d_M_constant_72 (by decide) ?_
    refine lv_istore hx hb d_M_constant_73 hl (by decide) rfl (fun ls hl => ?_)
    have hl : lv_has ls 5 [(4, .int (1 : Int32)), (3, .int (0 : Int32)), (0, .ref (o 0)), (1, .int x1), (2, .int x2)] := hl
    refine lv_aload_n hx hb d_M_constant_75 rfl (lv_at hl 2 rfl) ?_
    refine lv_aload_n hx hb d_M_constant_76 rfl (lv_at hl 2 rfl) ?_
    refine va_get (D := (dC, dI)) (ci := 4) (v := .int (F 4)) (C := R_M) (T := T_M) (N := 29) hx hb hts in_M hown hK hP 0 rfl rfl 15 (by decide) (hts _ mw_518) (fun _ h9 => h9) rfl d_M_constant_77 ?_
    have hP : va_P (dC, dI) vC (wM o cI (upd F 5 z0) A) H := hP
    have hD : va_D (va_A (wM o cI Fa Aa) s.heap.size) (wM o cI (upd F 5 z0) A) := hD
    obtain ⟨r4, F4, A4, hc, hf⟩ := ra_bi_some hf
    refine cc_calli (va_runV (As := [.int (F 4)]) (rest := []) ⟨hx, hb, hml, hown, hts⟩ (k_M_look l dC dI o cI H.size (upd F 5 z0) A (F 4) r4 F4 A4 hc) (cw_V 1 hts mw_611 mw_613 ms_M_look mw_5 mw_614 rfl rfl rfl hd_M_look ⟨Nat.le_of_ble_eq_true rfl, Nat.le_of_ble_eq_true rfl⟩) (cc_preV hK hP hD rfl (q0 := 0) rfl) rfl rfl hl.1 rfl (lv_room (Nat.le_of_ble_eq_true rfl)) d_M_constant_80 ⟨Nat.zero_le _, Nat.zero_le _⟩) hD hS hA (fun H locs hP hD hS => ?_)
    refine lv_bipush (v := 46) hx hb d_M_constant_83 (by decide) ?_
    refine lv_icmp_ne (tgt := 197) hx hb d_M_constant_85 (by decide) (fun h85_5 => ?_) (fun h85_5 => ?_)
    · rw [if_neg h85_5] at hf
      have hl : lv_has ls 5 [(0, .ref (o 0)), (1, .int x1), (2, .int x2), (3, .int (0 : Int32)), (4, .int (1 : Int32))] := lv_sub hl [2, 3, 4, 1, 0] rfl
      exact J197 x1 x2 (0 : Int32) (1 : Int32) F4 A4 _ _ _ hl hP hD hS hf
    · rw [if_pos h85_5] at hf
      refine lv_aload_n hx hb d_M_constant_88 rfl (lv_at hl 2 rfl) ?_
      refine lv_dup hx hb d_M_constant_89 rfl ?_
      refine va_get (D := (dC, dI)) (ci := 4) (v := .int (F4 4)) (C := R_M) (T := T_M) (N := 29) hx hb hts in_M hown hK hP 0 rfl rfl 15 (by decide) (hts _ mw_518) (fun _ h9 => h9) rfl d_M_constant_90 ?_
      refine lv_iconst (v := 1) hx hb d_M_constant_93 (by decide) ?_
      refine lv_iadd hx hb d_M_constant_94 ?_
      refine va_put (D := (dC, dI)) (ci := 4) (v := .int ((F4 4) + (1 : Int32))) (ty := .int) (C := R_M) (T := T_M) (N := 29) hx hb hts in_M ty_M ty_M_ok nm_M hown hK hP hD hS 0 rfl rfl 15 (by decide) (hts _ mw_518) (fun _ h9 => h9) rfl (by decide +kernel) rfl rfl (Nat.le_of_ble_eq_true rfl) d_M_constant_95 (fun H locs hP hD hS => ?_)
      have hP : va_P (dC, dI) vC [((o 0), .inr (4, [.int (F4 0), .int (F4 1), .ref (o 1), .int (F4 2), .ref (o 2), .ref (o 3), .ref (o 4), .ref (o 5), .ref (o 6), .int (F4 3), .ref (o 7), .ref (o 8), .ref (o 9), .ref (o 10), .ref (o 11), .int ((F4 4) + (1 : Int32)), .int (F4 5), .int (F4 6), .ref (o 12), .ref (o 13), .int (F4 7), .ref (o 14), .ref (o 15), .int (F4 8), .int (F4 9), .ref (o 16), .ref (o 17), .ref (o 18), .ref (o 19)])), ((o 1), .inl (cI, 160, .inl (A4 0))), ((o 2), .inl (cI, 100, .inl (A4 1))), ((o 3), .inl (cI, 100, .inl (A4 2))), ((o 4), .inl (cI, 100, .inl (A4 3))), ((o 5), .inl (cI, 3, .inl (A4 4))), ((o 6), .inl (cI, 26, .inl (A4 5))), ((o 7), .inl (cI, 100, .inl (A4 6))), ((o 8), .inl (cI, 100, .inl (A4 7))), ((o 9), .inl (cI, 100, .inl (A4 8))), ((o 10), .inl (cI, 26, .inl (A4 9))), ((o 11), .inl (cI, 104, .inl (A4 10))), ((o 12), .inl (cI, 80, .inl (A4 11))), ((o 13), .inl (cI, 320, .inl (A4 12))), ((o 14), .inl (cI, 200, .inl (A4 13))), ((o 15), .inl (cI, 200, .inl (A4 14))), ((o 16), .inl (cI, 4, .inl (A4 15))), ((o 17), .inl (cI, 32, .inl (A4 16))), ((o 18), .inl (cI, 32, .inl (A4 17))), ((o 19), .inl (cI, 100, .inl (A4 18)))] H := hP
      have hD : va_D (va_A (wM o cI Fa Aa) s.heap.size) [((o 0), .inr (4, [.int (F4 0), .int (F4 1), .ref (o 1), .int (F4 2), .ref (o 2), .ref (o 3), .ref (o 4), .ref (o 5), .ref (o 6), .int (F4 3), .ref (o 7), .ref (o 8), .ref (o 9), .ref (o 10), .ref (o 11), .int ((F4 4) + (1 : Int32)), .int (F4 5), .int (F4 6), .ref (o 12), .ref (o 13), .int (F4 7), .ref (o 14), .ref (o 15), .int (F4 8), .int (F4 9), .ref (o 16), .ref (o 17), .ref (o 18), .ref (o 19)])), ((o 1), .inl (cI, 160, .inl (A4 0))), ((o 2), .inl (cI, 100, .inl (A4 1))), ((o 3), .inl (cI, 100, .inl (A4 2))), ((o 4), .inl (cI, 100, .inl (A4 3))), ((o 5), .inl (cI, 3, .inl (A4 4))), ((o 6), .inl (cI, 26, .inl (A4 5))), ((o 7), .inl (cI, 100, .inl (A4 6))), ((o 8), .inl (cI, 100, .inl (A4 7))), ((o 9), .inl (cI, 100, .inl (A4 8))), ((o 10), .inl (cI, 26, .inl (A4 9))), ((o 11), .inl (cI, 104, .inl (A4 10))), ((o 12), .inl (cI, 80, .inl (A4 11))), ((o 13), .inl (cI, 320, .inl (A4 12))), ((o 14), .inl (cI, 200, .inl (A4 13))), ((o 15), .inl (cI, 200, .inl (A4 14))), ((o 16), .inl (cI, 4, .inl (A4 15))), ((o 17), .inl (cI, 32, .inl (A4 16))), ((o 18), .inl (cI, 32, .inl (A4 17))), ((o 19), .inl (cI, 100, .inl (A4 18)))] := hD
      refine lv_iconst (v := 0) hx hb d_M_constant_98 (by decide) ?_
      refine lv_istore_n hx hb d_M_constant_99 rfl hl (by decide) rfl (fun ls hl => ?_)
      have hl : lv_has ls 5 [(2, .int (0 : Int32)), (4, .int (1 : Int32)), (3, .int (0 : Int32)), (0, .ref (o 0)), (1, .int x1)] := hl
      have hl : lv_has ls 5 [(0, .ref (o 0)), (1, .int x1), (2, .int (0 : Int32)), (3, .int (0 : Int32)), (4, .int (1 : Int32))] := lv_sub hl [3, 4, 0, 2, 1] rfl
      exact L100 400 x1 (0 : Int32) (0 : Int32) (1 : Int32) (upd F4 4 ((F4 4) + (1 : Int32))) A4 _ _ _ hl hP hD hS hf
  have J56 : ∀ (x1 : Int32) (x2 : Int32) (F : ST_F) (A : ST_A) (H : Heap) (locs : List Loc) (ls : Array Slot), lv_has ls 5 [(0, .ref (o 0)), (1, .int x1), (2, .int x2)] → va_P (dC, dI) vC (wM o cI F A) H → va_D (va_A (wM o cI Fa Aa) s.heap.size) (wM o cI F A) → va_S (va_A (wM o cI Fa Aa) s.heap.size) s.heap H locs → f_M_constant_J56 x1 x2 F A = some (F9, A9) → W p l e (headSpec (Cond.code y_M_constant b_M_constant 5 none :: wA) ({ frames := 2, cells := 0, slots := 0, locals := 43 } : Room)).room s m ([.ref (o 0)] : List Value).toArray below meth c H locs 0 0 (MQ below (cc_Qv (dC, dI) vC [(cI, .int)] (wM o cI Fa Aa) s.heap.size (wM o cI F9 A9)) ([.ref (o 0)] : List Value).toArray s 0 0 (va_A (wM o cI Fa Aa) s.heap.size)) (F0 m 56 ls []) := by
    intro x1 x2 F A H locs ls hl hP hD hS hf
    unfold f_M_constant_J56 at hf
    refine lv_aload_n hx hb d_M_constant_56 rfl (lv_at hl 0 rfl) ?_
    refine lv_iload_n hx hb d_M_constant_57 rfl (lv_at hl 2 rfl) ?_
    refine lv_iconst (v := 5) hx hb d_M_constant_58 (by decide) ?_
    refine lv_icmp_ne (tgt := 66) hx hb d_M_constant_59 (by decide) (fun h59_3 => ?_) (fun h59_3 => ?_)
    · rw [if_neg h59_3] at hf
      refine lv_iconst (v := 0) hx hb d_M_constant_66 (by decide) ?_
      have hl : lv_has ls 5 [(0, .ref (o 0)), (1, .int x1), (2, .int x2)] := lv_sub hl [0, 1, 2] rfl
      exact J67 x1 x2 (0 : Int32) F A _ _ _ hl hP hD hS hf
    · rw [if_pos h59_3] at hf
      refine lv_iconst (v := 1) hx hb d_M_constant_62 (by decide) ?_
      refine lv_goto (tgt := 67) hx hb d_M_constant_63 (by decide) ?_
      have hl : lv_has ls 5 [(0, .ref (o 0)), (1, .int x1), (2, .int x2)] := lv_sub hl [0, 1, 2] rfl
      exact J67 x1 x2 (1 : Int32) F A _ _ _ hl hP hD hS hf
  have L4 : ∀ (n : Nat) (x1 : Int32) (x2 : Int32) (F : ST_F) (A : ST_A) (H : Heap) (locs : List Loc) (ls : Array Slot), lv_has ls 5 [(0, .ref (o 0)), (1, .int x1), (2, .int x2)] → va_P (dC, dI) vC (wM o cI F A) H → va_D (va_A (wM o cI Fa Aa) s.heap.size) (wM o cI F A) → va_S (va_A (wM o cI Fa Aa) s.heap.size) s.heap H locs → f_M_constant_L4 n x1 x2 F A = some (F9, A9) → W p l e (headSpec (Cond.code y_M_constant b_M_constant 5 none :: wA) ({ frames := 2, cells := 0, slots := 0, locals := 43 } : Room)).room s m ([.ref (o 0)] : List Value).toArray below meth c H locs 0 0 (MQ below (cc_Qv (dC, dI) vC [(cI, .int)] (wM o cI Fa Aa) s.heap.size (wM o cI F9 A9)) ([.ref (o 0)] : List Value).toArray s 0 0 (va_A (wM o cI Fa Aa) s.heap.size)) (F0 m 4 ls []) := by
    intro n
    induction n with
    | zero => intro x1 x2 F A H locs ls hl hP hD hS hf; cases hf
    | succ n ih =>
      intro x1 x2 F A H locs ls hl hP hD hS hf
      rw [f_M_constant_L4] at hf
      refine lv_aload_n hx hb d_M_constant_4 rfl (lv_at hl 0 rfl) ?_
      refine lv_aload_n hx hb d_M_constant_5 rfl (lv_at hl 0 rfl) ?_
      refine va_get (D := (dC, dI)) (ci := 4) (v := .int (F 4)) (C := R_M) (T := T_M) (N := 29) hx hb hts in_M hown hK hP 0 rfl rfl 15 (by decide) (hts _ mw_518) (fun _ h9 => h9) rfl d_M_constant_6 ?_
      have hP : va_P (dC, dI) vC (wM o cI F A) H := hP
      have hD : va_D (va_A (wM o cI Fa Aa) s.heap.size) (wM o cI F A) := hD
      obtain ⟨r1, F1, A1, hc, hf⟩ := ra_bi_some hf
      refine cc_calli (va_runV (As := [.int (F 4)]) (rest := []) ⟨hx, hb, hml, hown, hts⟩ (k_M_look l dC dI o cI H.size F A (F 4) r1 F1 A1 hc) (cw_V 1 hts mw_611 mw_613 ms_M_look mw_5 mw_614 rfl rfl rfl hd_M_look ⟨Nat.le_of_ble_eq_true rfl, Nat.le_of_ble_eq_true rfl⟩) (cc_preV hK hP hD rfl (q0 := 0) rfl) rfl rfl hl.1 rfl (lv_room (Nat.le_of_ble_eq_true rfl)) d_M_constant_9 ⟨Nat.zero_le _, Nat.zero_le _⟩) hD hS hA (fun H locs hP hD hS => ?_)
      refine cc_calls (va_runS (As := [.int r1]) (rest := []) ⟨hx, hb, hml, hown, hts⟩ (k_M_isDigit l r1 _ rfl) (cw_S 1 hts mw_711 mw_712 mw_5 mw_713 rfl rfl hd_M_isDigit ⟨Nat.le_of_ble_eq_true rfl, Nat.le_of_ble_eq_true rfl⟩) cc_preS rfl rfl hl.1 rfl (lv_room (Nat.le_of_ble_eq_true rfl)) d_M_constant_12 ⟨Nat.zero_le _, Nat.zero_le _⟩) ?_
      refine lv_if_eq (tgt := 56) hx hb d_M_constant_15 (by decide) (fun h15_2 => ?_) (fun h15_2 => ?_)
      · rw [if_pos h15_2] at hf
        have hl : lv_has ls 5 [(0, .ref (o 0)), (1, .int x1), (2, .int x2)] := lv_sub hl [0, 1, 2] rfl
        exact J56 x1 x2 F1 A1 _ _ _ hl hP hD hS hf
      · rw [if_neg h15_2] at hf
        refine lv_iload_n hx hb d_M_constant_18 rfl (lv_at hl 2 rfl) ?_
        refine lv_iconst (v := 5) hx hb d_M_constant_19 (by decide) ?_
        refine lv_icmp_ge (tgt := 56) hx hb d_M_constant_20 (by decide) (fun h20_18 => ?_) (fun h20_18 => ?_)
        · rw [if_pos h20_18] at hf
          have hl : lv_has ls 5 [(0, .ref (o 0)), (1, .int x1), (2, .int x2)] := lv_sub hl [0, 1, 2] rfl
          exact J56 x1 x2 F1 A1 _ _ _ hl hP hD hS hf
        · rw [if_neg h20_18] at hf
          refine lv_bipush (v := 10) hx hb d_M_constant_23 (by decide) ?_
          refine lv_iload_n hx hb d_M_constant_25 rfl (lv_at hl 1 rfl) ?_
          refine lv_imul hx hb d_M_constant_26 ?_
          refine lv_aload_n hx hb d_M_constant_27 rfl (lv_at hl 0 rfl) ?_
          refine lv_aload_n hx hb d_M_constant_28 rfl (lv_at hl 0 rfl) ?_
          refine va_get (D := (dC, dI)) (ci := 4) (v := .int (F1 4)) (C := R_M) (T := T_M) (N := 29) hx hb hts in_M hown hK hP 0 rfl rfl 15 (by decide) (hts _ mw_518) (fun _ h9 => h9) rfl d_M_constant_29 ?_
          have hP : va_P (dC, dI) vC (wM o cI F1 A1) H := hP
          have hD : va_D (va_A (wM o cI Fa Aa) s.heap.size) (wM o cI F1 A1) := hD
          obtain ⟨r19, F19, A19, hc, hf⟩ := ra_bi_some hf
          refine cc_calli (va_runV (As := [.int (F1 4)]) (rest := [.int ((10 : Int32) * x1)]) ⟨hx, hb, hml, hown, hts⟩ (k_M_look l dC dI o cI H.size F1 A1 (F1 4) r19 F19 A19 hc) (cw_V 1 hts mw_611 mw_613 ms_M_look mw_5 mw_614 rfl rfl rfl hd_M_look ⟨Nat.le_of_ble_eq_true rfl, Nat.le_of_ble_eq_true rfl⟩) (cc_preV hK hP hD rfl (q0 := 0) rfl) rfl rfl hl.1 rfl (lv_room (Nat.le_of_ble_eq_true rfl)) d_M_constant_32 ⟨Nat.zero_le _, Nat.zero_le _⟩) hD hS hA (fun H locs hP hD hS => ?_)
          refine lv_iadd hx hb d_M_constant_35 ?_
          refine lv_bipush (v := 48) hx hb d_M_constant_36 (by decide) ?_
          refine lv_isub hx hb d_M_constant_38 ?_
          refine lv_istore_n hx hb d_M_constant_39 rfl hl (by decide) rfl (fun ls hl => ?_)
          have hl : lv_has ls 5 [(1, .int ((((10 : Int32) * x1) + r19) - (48 : Int32))), (0, .ref (o 0)), (2, .int x2)] := hl
          refine lv_aload_n hx hb d_M_constant_40 rfl (lv_at hl 1 rfl) ?_
          refine lv_dup hx hb d_M_constant_41 rfl ?_
          refine va_get (D := (dC, dI)) (ci := 4) (v := .int (F19 4)) (C := R_M) (T := T_M) (N := 29) hx hb hts in_M hown hK hP 0 rfl rfl 15 (by decide) (hts _ mw_518) (fun _ h9 => h9) rfl d_M_constant_42 ?_
          refine lv_iconst (v := 1) hx hb d_M_constant_45 (by decide) ?_
          refine lv_iadd hx hb d_M_constant_46 ?_
          refine va_put (D := (dC, dI)) (ci := 4) (v := .int ((F19 4) + (1 : Int32))) (ty := .int) (C := R_M) (T := T_M) (N := 29) hx hb hts in_M ty_M ty_M_ok nm_M hown hK hP hD hS 0 rfl rfl 15 (by decide) (hts _ mw_518) (fun _ h9 => h9) rfl (by decide +kernel) rfl rfl (Nat.le_of_ble_eq_true rfl) d_M_constant_47 (fun H locs hP hD hS => ?_)
          have hP : va_P (dC, dI) vC [((o 0), .inr (4, [.int (F19 0), .int (F19 1), .ref (o 1), .int (F19 2), .ref (o 2), .ref (o 3), .ref (o 4), .ref (o 5), .ref (o 6), .int (F19 3), .ref (o 7), .ref (o 8), .ref (o 9), .ref (o 10), .ref (o 11), .int ((F19 4) + (1 : Int32)), .int (F19 5), .int (F19 6), .ref (o 12), .ref (o 13), .int (F19 7), .ref (o 14), .ref (o 15), .int (F19 8), .int (F19 9), .ref (o 16), .ref (o 17), .ref (o 18), .ref (o 19)])), ((o 1), .inl (cI, 160, .inl (A19 0))), ((o 2), .inl (cI, 100, .inl (A19 1))), ((o 3), .inl (cI, 100, .inl (A19 2))), ((o 4), .inl (cI, 100, .inl (A19 3))), ((o 5), .inl (cI, 3, .inl (A19 4))), ((o 6), .inl (cI, 26, .inl (A19 5))), ((o 7), .inl (cI, 100, .inl (A19 6))), ((o 8), .inl (cI, 100, .inl (A19 7))), ((o 9), .inl (cI, 100, .inl (A19 8))), ((o 10), .inl (cI, 26, .inl (A19 9))), ((o 11), .inl (cI, 104, .inl (A19 10))), ((o 12), .inl (cI, 80, .inl (A19 11))), ((o 13), .inl (cI, 320, .inl (A19 12))), ((o 14), .inl (cI, 200, .inl (A19 13))), ((o 15), .inl (cI, 200, .inl (A19 14))), ((o 16), .inl (cI, 4, .inl (A19 15))), ((o 17), .inl (cI, 32, .inl (A19 16))), ((o 18), .inl (cI, 32, .inl (A19 17))), ((o 19), .inl (cI, 100, .inl (A19 18)))] H := hP
          have hD : va_D (va_A (wM o cI Fa Aa) s.heap.size) [((o 0), .inr (4, [.int (F19 0), .int (F19 1), .ref (o 1), .int (F19 2), .ref (o 2), .ref (o 3), .ref (o 4), .ref (o 5), .ref (o 6), .int (F19 3), .ref (o 7), .ref (o 8), .ref (o 9), .ref (o 10), .ref (o 11), .int ((F19 4) + (1 : Int32)), .int (F19 5), .int (F19 6), .ref (o 12), .ref (o 13), .int (F19 7), .ref (o 14), .ref (o 15), .int (F19 8), .int (F19 9), .ref (o 16), .ref (o 17), .ref (o 18), .ref (o 19)])), ((o 1), .inl (cI, 160, .inl (A19 0))), ((o 2), .inl (cI, 100, .inl (A19 1))), ((o 3), .inl (cI, 100, .inl (A19 2))), ((o 4), .inl (cI, 100, .inl (A19 3))), ((o 5), .inl (cI, 3, .inl (A19 4))), ((o 6), .inl (cI, 26, .inl (A19 5))), ((o 7), .inl (cI, 100, .inl (A19 6))), ((o 8), .inl (cI, 100, .inl (A19 7))), ((o 9), .inl (cI, 100, .inl (A19 8))), ((o 10), .inl (cI, 26, .inl (A19 9))), ((o 11), .inl (cI, 104, .inl (A19 10))), ((o 12), .inl (cI, 80, .inl (A19 11))), ((o 13), .inl (cI, 320, .inl (A19 12))), ((o 14), .inl (cI, 200, .inl (A19 13))), ((o 15), .inl (cI, 200, .inl (A19 14))), ((o 16), .inl (cI, 4, .inl (A19 15))), ((o 17), .inl (cI, 32, .inl (A19 16))), ((o 18), .inl (cI, 32, .inl (A19 17))), ((o 19), .inl (cI, 100, .inl (A19 18)))] := hD
          refine lv_iinc (k := 2) (v := (x2 + (1 : Int32))) hx hb d_M_constant_50 hl rfl (by rfl) (by decide) rfl (fun ls hl => ?_)
          have hl : lv_has ls 5 [(2, .int (x2 + (1 : Int32))), (1, .int ((((10 : Int32) * x1) + r19) - (48 : Int32))), (0, .ref (o 0))] := hl
          refine lv_goto (tgt := 4) hx hb d_M_constant_53 (by decide) ?_
          have hl : lv_has ls 5 [(0, .ref (o 0)), (1, .int ((((10 : Int32) * x1) + r19) - (48 : Int32))), (2, .int (x2 + (1 : Int32)))] := lv_sub hl [2, 1, 0] rfl
          exact ih ((((10 : Int32) * x1) + r19) - (48 : Int32)) (x2 + (1 : Int32)) (upd F19 4 ((F19 4) + (1 : Int32))) A19 _ _ _ hl hP hD hS hf
  rw [lg_entry_eq]
  generalize (lg_sl (([.ref (o 0)] : List Value)) ++ List.replicate (5 - (lg_sl (([.ref (o 0)] : List Value))).length) Slot.unset).toArray = ls at hl ⊢
  have hl : lv_has ls 5 [(0, .ref (o 0))] := hl
  unfold f_M_constant at hf
  refine lv_iconst (v := 0) hx hb d_M_constant_0 (by decide) ?_
  refine lv_istore_n hx hb d_M_constant_1 rfl hl (by decide) rfl (fun ls hl => ?_)
  have hl : lv_has ls 5 [(1, .int (0 : Int32)), (0, .ref (o 0))] := hl
  refine lv_iconst (v := 0) hx hb d_M_constant_2 (by decide) ?_
  refine lv_istore_n hx hb d_M_constant_3 rfl hl (by decide) rfl (fun ls hl => ?_)
  have hl : lv_has ls 5 [(2, .int (0 : Int32)), (1, .int (0 : Int32)), (0, .ref (o 0))] := hl
  have hl : lv_has ls 5 [(0, .ref (o 0)), (1, .int (0 : Int32)), (2, .int (0 : Int32))] := lv_sub hl [2, 1, 0] rfl
  exact L4 400 (0 : Int32) (0 : Int32) Fa Aa _ _ _ hl hP hD hS hf
def f_M_letter_J65 (x1 : Int32) (z0 : Int32) (z1 : Int32) (z3 : Int32) (F : ST_F) (A : ST_A) : Option (ST_F × ST_A) := ra_bi (f_M_put z1 z0 (0 : Int32) F A) (fun r5 F5 A5 => ra_g z3 4 (ra_bv (f_M_pushMade (1 : Int32) F5 (va_up A5 15 (upd (A5 15) z3.toNatClampNeg r5))) (fun F6 A6 => some (F6, A6))))
def f_M_letter_J37 (x1 : Int32) (F : ST_F) (A : ST_A) : Option (ST_F × ST_A) := if x1 = (120 : Int32) then (f_M_letter_J65 x1 (0 : Int32) (1 : Int32) (0 : Int32) F A) else (if x1 = (121 : Int32) then (f_M_letter_J65 x1 (1 : Int32) (1 : Int32) (0 : Int32) F A) else (f_M_letter_J65 x1 (2 : Int32) (1 : Int32) (0 : Int32) F A))
def f_M_letter_L148 : Nat → Int32 → Int32 → ST_F → ST_A → Option (ST_F × ST_A)
  | 0, _, _, _, _ => none
  | n + 1, x1, x2, F, A => if (4 : Int32) ≤ x2 then (ra_g (x1 - (97 : Int32)) 26 (ra_bv (f_M_pushMade ((A 9) (x1 - (97 : Int32)).toNatClampNeg) F A) (fun F13 A13 => some (F13, A13)))) else (ra_g (((4 : Int32) * (x1 - (97 : Int32))) + x2) 104 (ra_g x2 4 (f_M_letter_L148 n x1 (x2 + (1 : Int32)) F (va_up A 15 (upd (A 15) x2.toNatClampNeg ((A 10) (((4 : Int32) * (x1 - (97 : Int32))) + x2).toNatClampNeg))))))
def f_M_letter_L86 : Nat → Int32 → Int32 → ST_F → ST_A → Option (ST_F × ST_A)
  | 0, _, _, _, _ => none
  | n + 1, x1, x2, F, A => if (3 : Int32) ≤ x2 then (ra_bv (f_M_pushMade (3 : Int32) F A) (fun F15 A15 => some (F15, A15))) else (ra_bi (f_M_put (1 : Int32) ((3 : Int32) + x2) (0 : Int32) F A) (fun r16 F16 A16 => ra_g x2 4 (f_M_letter_L86 n x1 (x2 + (1 : Int32)) F16 (va_up A16 15 (upd (A16 15) x2.toNatClampNeg r16)))))
def f_M_letter  (Fa : ST_F) (Aa : ST_A) : Option (ST_F × ST_A) := ra_bi (f_M_look (Fa 4) Fa Aa) (fun r1 F1 A1 => if r1 = (120 : Int32) then (f_M_letter_J37 r1 (upd F1 4 ((F1 4) + (1 : Int32))) A1) else (if r1 = (121 : Int32) then (f_M_letter_J37 r1 (upd F1 4 ((F1 4) + (1 : Int32))) A1) else (if r1 = (116 : Int32) then (f_M_letter_J37 r1 (upd F1 4 ((F1 4) + (1 : Int32))) A1) else (if r1 = (99 : Int32) then (f_M_letter_L86 400 r1 (0 : Int32) (upd F1 4 ((F1 4) + (1 : Int32))) A1) else (if r1 = (122 : Int32) then (some ((upd (upd F1 4 ((F1 4) + (1 : Int32))) 5 (1 : Int32)), A1)) else (ra_g (r1 - (97 : Int32)) 26 (if ((A1 9) (r1 - (97 : Int32)).toNatClampNeg) = 0 then (some ((upd (upd F1 4 ((F1 4) + (1 : Int32))) 5 (1 : Int32)), A1)) else (f_M_letter_L148 400 r1 (0 : Int32) (upd F1 4 ((F1 4) + (1 : Int32))) A1))))))))
set_option maxHeartbeats 4000000 in
set_option maxRecDepth 100000 in
theorem k_M_letter (l : Launch) (dC : Nat → ClassId) (dI : Nat → Nat → Nat) (o : Nat → Nat) (cI : ClassId) (sz : Nat) (Fa : ST_F) (Aa : ST_A)  (F9 : ST_F) (A9 : ST_A) (hf : f_M_letter  Fa Aa = some (F9, A9)) : cc_MetV l y_M_letter (Cond.code y_M_letter b_M_letter 3 none :: wA) ({ frames := 2, cells := 0, slots := 0, locals := 43 } : Room) (dC, dI) vC [(cI, .int)] ([.ref (o 0)] : List Value) (wM o cI Fa Aa) sz (wM o cI F9 A9) := by
  refine Met.ofW (cc := b_M_letter) (maxL := 3) (ret := none) (by decide) rfl ?_
  intro p e s m args below meth c s₁ B hml hv
  obtain ⟨rfl, hsz, hP, hK, hD0⟩ := hv
  have hx := B.exec
  have hb := B.bytes
  have hr := B.returns
  have hts := fun w h => atoms_spec (ws := (Cond.code y_M_letter b_M_letter 3 none :: wA)) B.pre w (List.mem_cons_of_mem _ h)
  have hown : s.vm.findClass R_M = some m.cls := findClass_of_methodNamed B.named
  have hlocks := B.notSynchronized
  subst hsz
  have hD := hD0.self (sz := s.heap.size)
  have hA : ∀ q : Nat, s.heap.size ≤ q → va_A (wM o cI Fa Aa) s.heap.size q := fun q h => Or.inr h
  have hS : va_S (va_A (wM o cI Fa Aa) s.heap.size) s.heap s.heap [] := va_S.rf
  have hl := lv_entry (([.ref (o 0)] : List Value)) (n := 3) (Nat.le_of_ble_eq_true rfl)
  have J65 : ∀ (x1 : Int32) (z0 : Int32) (z1 : Int32) (z3 : Int32) (F : ST_F) (A : ST_A) (H : Heap) (locs : List Loc) (ls : Array Slot), lv_has ls 3 [(0, .ref (o 0)), (1, .int x1)] → va_P (dC, dI) vC (wM o cI F A) H → va_D (va_A (wM o cI Fa Aa) s.heap.size) (wM o cI F A) → va_S (va_A (wM o cI Fa Aa) s.heap.size) s.heap H locs → f_M_letter_J65 x1 z0 z1 z3 F A = some (F9, A9) → W p l e (headSpec (Cond.code y_M_letter b_M_letter 3 none :: wA) ({ frames := 2, cells := 0, slots := 0, locals := 43 } : Room)).room s m ([.ref (o 0)] : List Value).toArray below meth c H locs 0 0 (MQ below (cc_Qv (dC, dI) vC [(cI, .int)] (wM o cI Fa Aa) s.heap.size (wM o cI F9 A9)) ([.ref (o 0)] : List Value).toArray s 0 0 (va_A (wM o cI Fa Aa) s.heap.size)) (F0 m 65 ls [.int z0, .int z1, .ref (o 0), .int z3, .ref (o 16)]) := by
    intro x1 z0 z1 z3 F A H locs ls hl hP hD hS hf
    unfold f_M_letter_J65 at hf
    refine lv_iconst (v := 0) hx hb d_M_letter_65 (by decide) ?_
    have hP : va_P (dC, dI) vC (wM o cI F A) H := hP
    have hD : va_D (va_A (wM o cI Fa Aa) s.heap.size) (wM o cI F A) := hD
    obtain ⟨r5, F5, A5, hc, hf⟩ := ra_bi_some hf
    refine cc_calli (va_runV (As := [.int z1, .int z0, .int (0 : Int32)]) (rest := [.int z3, .ref (o 16)]) ⟨hx, hb, hml, hown, hts⟩ (k_M_put l dC dI o cI H.size F A z1 z0 (0 : Int32) r5 F5 A5 hc) (cw_V 3 hts mw_652 mw_654 ms_M_put mw_5 mw_655 rfl rfl rfl hd_M_put ⟨Nat.le_of_ble_eq_true rfl, Nat.le_of_ble_eq_true rfl⟩) (cc_preV hK hP hD rfl (q0 := 0) rfl) rfl rfl hl.1 rfl (lv_room (Nat.le_of_ble_eq_true rfl)) d_M_letter_66 ⟨Nat.zero_le _, Nat.zero_le _⟩) hD hS hA (fun H locs hP hD hS => ?_)
    obtain ⟨hi, hf⟩ := ra_g_some hf
    refine va_iast hx hb hK hP hD hS 16 0 rfl rfl hi d_M_letter_69 (fun H locs hP hD hS => ?_)
    have hP : va_P (dC, dI) vC [((o 0), .inr (4, [.int (F5 0), .int (F5 1), .ref (o 1), .int (F5 2), .ref (o 2), .ref (o 3), .ref (o 4), .ref (o 5), .ref (o 6), .int (F5 3), .ref (o 7), .ref (o 8), .ref (o 9), .ref (o 10), .ref (o 11), .int (F5 4), .int (F5 5), .int (F5 6), .ref (o 12), .ref (o 13), .int (F5 7), .ref (o 14), .ref (o 15), .int (F5 8), .int (F5 9), .ref (o 16), .ref (o 17), .ref (o 18), .ref (o 19)])), ((o 1), .inl (cI, 160, .inl (A5 0))), ((o 2), .inl (cI, 100, .inl (A5 1))), ((o 3), .inl (cI, 100, .inl (A5 2))), ((o 4), .inl (cI, 100, .inl (A5 3))), ((o 5), .inl (cI, 3, .inl (A5 4))), ((o 6), .inl (cI, 26, .inl (A5 5))), ((o 7), .inl (cI, 100, .inl (A5 6))), ((o 8), .inl (cI, 100, .inl (A5 7))), ((o 9), .inl (cI, 100, .inl (A5 8))), ((o 10), .inl (cI, 26, .inl (A5 9))), ((o 11), .inl (cI, 104, .inl (A5 10))), ((o 12), .inl (cI, 80, .inl (A5 11))), ((o 13), .inl (cI, 320, .inl (A5 12))), ((o 14), .inl (cI, 200, .inl (A5 13))), ((o 15), .inl (cI, 200, .inl (A5 14))), ((o 16), .inl (cI, 4, .inl (upd (A5 15) z3.toNatClampNeg r5))), ((o 17), .inl (cI, 32, .inl (A5 16))), ((o 18), .inl (cI, 32, .inl (A5 17))), ((o 19), .inl (cI, 100, .inl (A5 18)))] H := hP
    have hD : va_D (va_A (wM o cI Fa Aa) s.heap.size) [((o 0), .inr (4, [.int (F5 0), .int (F5 1), .ref (o 1), .int (F5 2), .ref (o 2), .ref (o 3), .ref (o 4), .ref (o 5), .ref (o 6), .int (F5 3), .ref (o 7), .ref (o 8), .ref (o 9), .ref (o 10), .ref (o 11), .int (F5 4), .int (F5 5), .int (F5 6), .ref (o 12), .ref (o 13), .int (F5 7), .ref (o 14), .ref (o 15), .int (F5 8), .int (F5 9), .ref (o 16), .ref (o 17), .ref (o 18), .ref (o 19)])), ((o 1), .inl (cI, 160, .inl (A5 0))), ((o 2), .inl (cI, 100, .inl (A5 1))), ((o 3), .inl (cI, 100, .inl (A5 2))), ((o 4), .inl (cI, 100, .inl (A5 3))), ((o 5), .inl (cI, 3, .inl (A5 4))), ((o 6), .inl (cI, 26, .inl (A5 5))), ((o 7), .inl (cI, 100, .inl (A5 6))), ((o 8), .inl (cI, 100, .inl (A5 7))), ((o 9), .inl (cI, 100, .inl (A5 8))), ((o 10), .inl (cI, 26, .inl (A5 9))), ((o 11), .inl (cI, 104, .inl (A5 10))), ((o 12), .inl (cI, 80, .inl (A5 11))), ((o 13), .inl (cI, 320, .inl (A5 12))), ((o 14), .inl (cI, 200, .inl (A5 13))), ((o 15), .inl (cI, 200, .inl (A5 14))), ((o 16), .inl (cI, 4, .inl (upd (A5 15) z3.toNatClampNeg r5))), ((o 17), .inl (cI, 32, .inl (A5 16))), ((o 18), .inl (cI, 32, .inl (A5 17))), ((o 19), .inl (cI, 100, .inl (A5 18)))] := hD
    refine lv_aload_n hx hb d_M_letter_70 rfl (lv_at hl 0 rfl) ?_
    refine lv_iconst (v := 1) hx hb d_M_letter_71 (by decide) ?_
    have hP : va_P (dC, dI) vC (wM o cI F5 (va_up A5 15 (upd (A5 15) z3.toNatClampNeg r5))) H := hP
    have hD : va_D (va_A (wM o cI Fa Aa) s.heap.size) (wM o cI F5 (va_up A5 15 (upd (A5 15) z3.toNatClampNeg r5))) := hD
    obtain ⟨F6, A6, hc, hf⟩ := ra_bv_some hf
    refine cc_callv (va_runV (As := [.int (1 : Int32)]) (rest := []) ⟨hx, hb, hml, hown, hts⟩ (k_M_pushMade l dC dI o cI H.size F5 (va_up A5 15 (upd (A5 15) z3.toNatClampNeg r5)) (1 : Int32) F6 A6 hc) (cw_V 1 hts mw_656 mw_658 ms_M_pushMade mw_5 mw_659 rfl rfl rfl hd_M_pushMade ⟨Nat.le_of_ble_eq_true rfl, Nat.le_of_ble_eq_true rfl⟩) (cc_preV hK hP hD rfl (q0 := 0) rfl) rfl rfl hl.1 rfl (lv_room (Nat.le_of_ble_eq_true rfl)) d_M_letter_72 ⟨Nat.zero_le _, Nat.zero_le _⟩) hD hS hA (fun H locs hP hD hS => ?_)
    refine lv_goto (tgt := 191) hx hb d_M_letter_75 (by decide) ?_
    cases hf
    exact W.vret hx hb hr (fun t ht hW => ⟨⟨(), rfl, trivial, by rw [ht]; exact hP, va_K.moved hW.alike hK, hD⟩, hS.F ht⟩) hS.2.2 d_M_letter_191
  have J37 : ∀ (x1 : Int32) (F : ST_F) (A : ST_A) (H : Heap) (locs : List Loc) (ls : Array Slot), lv_has ls 3 [(0, .ref (o 0)), (1, .int x1)] → va_P (dC, dI) vC (wM o cI F A) H → va_D (va_A (wM o cI Fa Aa) s.heap.size) (wM o cI F A) → va_S (va_A (wM o cI Fa Aa) s.heap.size) s.heap H locs → f_M_letter_J37 x1 F A = some (F9, A9) → W p l e (headSpec (Cond.code y_M_letter b_M_letter 3 none :: wA) ({ frames := 2, cells := 0, slots := 0, locals := 43 } : Room)).room s m ([.ref (o 0)] : List Value).toArray below meth c H locs 0 0 (MQ below (cc_Qv (dC, dI) vC [(cI, .int)] (wM o cI Fa Aa) s.heap.size (wM o cI F9 A9)) ([.ref (o 0)] : List Value).toArray s 0 0 (va_A (wM o cI Fa Aa) s.heap.size)) (F0 m 37 ls []) := by
    intro x1 F A H locs ls hl hP hD hS hf
    unfold f_M_letter_J37 at hf
    refine lv_aload_n hx hb d_M_letter_37 rfl (lv_at hl 0 rfl) ?_
    refine va_get (D := (dC, dI)) (ci := 4) (v := .ref (o 16)) (C := R_M) (T := T_M) (N := 29) hx hb hts in_M hown hK hP 0 rfl rfl 25 (by decide) (hts _ mw_528) (fun _ h9 => h9) rfl d_M_letter_38 ?_
    refine lv_iconst (v := 0) hx hb d_M_letter_41 (by decide) ?_
    refine lv_aload_n hx hb d_M_letter_42 rfl (lv_at hl 0 rfl) ?_
    refine lv_iconst (v := 1) hx hb d_M_letter_43 (by decide) ?_
    refine lv_iload_n hx hb d_M_letter_44 rfl (lv_at hl 1 rfl) ?_
    refine lv_bipush (v := 120) hx hb d_M_letter_45 (by decide) ?_
    refine lv_icmp_ne (tgt := 54) hx hb d_M_letter_47 (by decide) (fun h47_3 => ?_) (fun h47_3 => ?_)
    · rw [if_neg h47_3] at hf
      refine lv_iload_n hx hb d_M_letter_54 rfl (lv_at hl 1 rfl) ?_
      refine lv_bipush (v := 121) hx hb d_M_letter_55 (by decide) ?_
      refine lv_icmp_ne (tgt := 64) hx hb d_M_letter_57 (by decide) (fun h57_4 => ?_) (fun h57_4 => ?_)
      · rw [if_neg h57_4] at hf
        refine lv_iconst (v := 2) hx hb d_M_letter_64 (by decide) ?_
        have hl : lv_has ls 3 [(0, .ref (o 0)), (1, .int x1)] := lv_sub hl [0, 1] rfl
        exact J65 x1 (2 : Int32) (1 : Int32) (0 : Int32) F A _ _ _ hl hP hD hS hf
      · rw [if_pos h57_4] at hf
        refine lv_iconst (v := 1) hx hb d_M_letter_60 (by decide) ?_
        refine lv_goto (tgt := 65) hx hb d_M_letter_61 (by decide) ?_
        have hl : lv_has ls 3 [(0, .ref (o 0)), (1, .int x1)] := lv_sub hl [0, 1] rfl
        exact J65 x1 (1 : Int32) (1 : Int32) (0 : Int32) F A _ _ _ hl hP hD hS hf
    · rw [if_pos h47_3] at hf
      refine lv_iconst (v := 0) hx hb d_M_letter_50 (by decide) ?_
      refine lv_goto (tgt := 65) hx hb d_M_letter_51 (by decide) ?_
      have hl : lv_has ls 3 [(0, .ref (o 0)), (1, .int x1)] := lv_sub hl [0, 1] rfl
      exact J65 x1 (0 : Int32) (1 : Int32) (0 : Int32) F A _ _ _ hl hP hD hS hf
  have L148 : ∀ (n : Nat) (x1 : Int32) (x2 : Int32) (F : ST_F) (A : ST_A) (H : Heap) (locs : List Loc) (ls : Array Slot), lv_has ls 3 [(0, .ref (o 0)), (1, .int x1), (2, .int x2)] → va_P (dC, dI) vC (wM o cI F A) H → va_D (va_A (wM o cI Fa Aa) s.heap.size) (wM o cI F A) → va_S (va_A (wM o cI Fa Aa) s.heap.size) s.heap H locs → f_M_letter_L148 n x1 x2 F A = some (F9, A9) → W p l e (headSpec (Cond.code y_M_letter b_M_letter 3 none :: wA) ({ frames := 2, cells := 0, slots := 0, locals := 43 } : Room)).room s m ([.ref (o 0)] : List Value).toArray below meth c H locs 0 0 (MQ below (cc_Qv (dC, dI) vC [(cI, .int)] (wM o cI Fa Aa) s.heap.size (wM o cI F9 A9)) ([.ref (o 0)] : List Value).toArray s 0 0 (va_A (wM o cI Fa Aa) s.heap.size)) (F0 m 148 ls []) := by
    intro n
    induction n with
    | zero => intro x1 x2 F A H locs ls hl hP hD hS hf; cases hf
    | succ n ih =>
      intro x1 x2 F A H locs ls hl hP hD hS hf
      rw [f_M_letter_L148] at hf
      refine lv_iload_n hx hb d_M_letter_148 rfl (lv_at hl 2 rfl) ?_
      refine lv_iconst (v := 4) hx hb d_M_letter_149 (by decide) ?_
      refine lv_icmp_ge (tgt := 178) hx hb d_M_letter_150 (by decide) (fun h150_12 => ?_) (fun h150_12 => ?_)
      · rw [if_pos h150_12] at hf
        refine lv_aload_n hx hb d_M_letter_178 rfl (lv_at hl 0 rfl) ?_
        refine lv_aload_n hx hb d_M_letter_179 rfl (lv_at hl 0 rfl) ?_
        refine va_get (D := (dC, dI)) (ci := 4) (v := .ref (o 10)) (C := R_M) (T := T_M) (N := 29) hx hb hts in_M hown hK hP 0 rfl rfl 13 (by decide) (hts _ mw_516) (fun _ h9 => h9) rfl d_M_letter_180 ?_
        refine lv_iload_n hx hb d_M_letter_183 rfl (lv_at hl 1 rfl) ?_
        refine lv_bipush (v := 97) hx hb d_M_letter_184 (by decide) ?_
        refine lv_isub hx hb d_M_letter_186 ?_
        obtain ⟨hi, hf⟩ := ra_g_some hf
        refine va_iald hx hb hK hP 10 0 rfl rfl hi d_M_letter_187 ?_
        have hP : va_P (dC, dI) vC (wM o cI F A) H := hP
        have hD : va_D (va_A (wM o cI Fa Aa) s.heap.size) (wM o cI F A) := hD
        obtain ⟨F13, A13, hc, hf⟩ := ra_bv_some hf
        refine cc_callv (va_runV (As := [.int ((A 9) (x1 - (97 : Int32)).toNatClampNeg)]) (rest := []) ⟨hx, hb, hml, hown, hts⟩ (k_M_pushMade l dC dI o cI H.size F A ((A 9) (x1 - (97 : Int32)).toNatClampNeg) F13 A13 hc) (cw_V 1 hts mw_656 mw_658 ms_M_pushMade mw_5 mw_659 rfl rfl rfl hd_M_pushMade ⟨Nat.le_of_ble_eq_true rfl, Nat.le_of_ble_eq_true rfl⟩) (cc_preV hK hP hD rfl (q0 := 0) rfl) rfl rfl hl.1 rfl (lv_room (Nat.le_of_ble_eq_true rfl)) d_M_letter_188 ⟨Nat.zero_le _, Nat.zero_le _⟩) hD hS hA (fun H locs hP hD hS => ?_)
        cases hf
        exact W.vret hx hb hr (fun t ht hW => ⟨⟨(), rfl, trivial, by rw [ht]; exact hP, va_K.moved hW.alike hK, hD⟩, hS.F ht⟩) hS.2.2 d_M_letter_191
      · rw [if_neg h150_12] at hf
        refine lv_aload_n hx hb d_M_letter_153 rfl (lv_at hl 0 rfl) ?_
        refine va_get (D := (dC, dI)) (ci := 4) (v := .ref (o 16)) (C := R_M) (T := T_M) (N := 29) hx hb hts in_M hown hK hP 0 rfl rfl 25 (by decide) (hts _ mw_528) (fun _ h9 => h9) rfl d_M_letter_154 ?_
        refine lv_iload_n hx hb d_M_letter_157 rfl (lv_at hl 2 rfl) ?_
        refine lv_aload_n hx hb d_M_letter_158 rfl (lv_at hl 0 rfl) ?_
        refine va_get (D := (dC, dI)) (ci := 4) (v := .ref (o 11)) (C := R_M) (T := T_M) (N := 29) hx hb hts in_M hown hK hP 0 rfl rfl 14 (by decide) (hts _ mw_517) (fun _ h9 => h9) rfl d_M_letter_159 ?_
        refine lv_iconst (v := 4) hx hb d_M_letter_162 (by decide) ?_
        refine lv_iload_n hx hb d_M_letter_163 rfl (lv_at hl 1 rfl) ?_
        refine lv_bipush (v := 97) hx hb d_M_letter_164 (by decide) ?_
        refine lv_isub hx hb d_M_letter_166 ?_
        refine lv_imul hx hb d_M_letter_167 ?_
        refine lv_iload_n hx hb d_M_letter_168 rfl (lv_at hl 2 rfl) ?_
        refine lv_iadd hx hb d_M_letter_169 ?_
        obtain ⟨hi, hf⟩ := ra_g_some hf
        refine va_iald hx hb hK hP 11 0 rfl rfl hi d_M_letter_170 ?_
        obtain ⟨hi, hf⟩ := ra_g_some hf
        refine va_iast hx hb hK hP hD hS 16 0 rfl rfl hi d_M_letter_171 (fun H locs hP hD hS => ?_)
        have hP : va_P (dC, dI) vC [((o 0), .inr (4, [.int (F 0), .int (F 1), .ref (o 1), .int (F 2), .ref (o 2), .ref (o 3), .ref (o 4), .ref (o 5), .ref (o 6), .int (F 3), .ref (o 7), .ref (o 8), .ref (o 9), .ref (o 10), .ref (o 11), .int (F 4), .int (F 5), .int (F 6), .ref (o 12), .ref (o 13), .int (F 7), .ref (o 14), .ref (o 15), .int (F 8), .int (F 9), .ref (o 16), .ref (o 17), .ref (o 18), .ref (o 19)])), ((o 1), .inl (cI, 160, .inl (A 0))), ((o 2), .inl (cI, 100, .inl (A 1))), ((o 3), .inl (cI, 100, .inl (A 2))), ((o 4), .inl (cI, 100, .inl (A 3))), ((o 5), .inl (cI, 3, .inl (A 4))), ((o 6), .inl (cI, 26, .inl (A 5))), ((o 7), .inl (cI, 100, .inl (A 6))), ((o 8), .inl (cI, 100, .inl (A 7))), ((o 9), .inl (cI, 100, .inl (A 8))), ((o 10), .inl (cI, 26, .inl (A 9))), ((o 11), .inl (cI, 104, .inl (A 10))), ((o 12), .inl (cI, 80, .inl (A 11))), ((o 13), .inl (cI, 320, .inl (A 12))), ((o 14), .inl (cI, 200, .inl (A 13))), ((o 15), .inl (cI, 200, .inl (A 14))), ((o 16), .inl (cI, 4, .inl (upd (A 15) x2.toNatClampNeg ((A 10) (((4 : Int32) * (x1 - (97 : Int32))) + x2).toNatClampNeg)))), ((o 17), .inl (cI, 32, .inl (A 16))), ((o 18), .inl (cI, 32, .inl (A 17))), ((o 19), .inl (cI, 100, .inl (A 18)))] H := hP
        have hD : va_D (va_A (wM o cI Fa Aa) s.heap.size) [((o 0), .inr (4, [.int (F 0), .int (F 1), .ref (o 1), .int (F 2), .ref (o 2), .ref (o 3), .ref (o 4), .ref (o 5), .ref (o 6), .int (F 3), .ref (o 7), .ref (o 8), .ref (o 9), .ref (o 10), .ref (o 11), .int (F 4), .int (F 5), .int (F 6), .ref (o 12), .ref (o 13), .int (F 7), .ref (o 14), .ref (o 15), .int (F 8), .int (F 9), .ref (o 16), .ref (o 17), .ref (o 18), .ref (o 19)])), ((o 1), .inl (cI, 160, .inl (A 0))), ((o 2), .inl (cI, 100, .inl (A 1))), ((o 3), .inl (cI, 100, .inl (A 2))), ((o 4), .inl (cI, 100, .inl (A 3))), ((o 5), .inl (cI, 3, .inl (A 4))), ((o 6), .inl (cI, 26, .inl (A 5))), ((o 7), .inl (cI, 100, .inl (A 6))), ((o 8), .inl (cI, 100, .inl (A 7))), ((o 9), .inl (cI, 100, .inl (A 8))), ((o 10), .inl (cI, 26, .inl (A 9))), ((o 11), .inl (cI, 104, .inl (A 10))), ((o 12), .inl (cI, 80, .inl (A 11))), ((o 13), .inl (cI, 320, .inl (A 12))), ((o 14), .inl (cI, 200, .inl (A 13))), ((o 15), .inl (cI, 200, .inl (A 14))), ((o 16), .inl (cI, 4, .inl (upd (A 15) x2.toNatClampNeg ((A 10) (((4 : Int32) * (x1 - (97 : Int32))) + x2).toNatClampNeg)))), ((o 17), .inl (cI, 32, .inl (A 16))), ((o 18), .inl (cI, 32, .inl (A 17))), ((o 19), .inl (cI, 100, .inl (A 18)))] := hD
        refine lv_iinc (k := 2) (v := (x2 + (1 : Int32))) hx hb d_M_letter_172 hl rfl (by rfl) (by decide) rfl (fun ls hl => ?_)
        have hl : lv_has ls 3 [(2, .int (x2 + (1 : Int32))), (0, .ref (o 0)), (1, .int x1)] := hl
        refine lv_goto (tgt := 148) hx hb d_M_letter_175 (by decide) ?_
        have hl : lv_has ls 3 [(0, .ref (o 0)), (1, .int x1), (2, .int (x2 + (1 : Int32)))] := lv_sub hl [1, 2, 0] rfl
        exact ih x1 (x2 + (1 : Int32)) F (va_up A 15 (upd (A 15) x2.toNatClampNeg ((A 10) (((4 : Int32) * (x1 - (97 : Int32))) + x2).toNatClampNeg))) _ _ _ hl hP hD hS hf
  have L86 : ∀ (n : Nat) (x1 : Int32) (x2 : Int32) (F : ST_F) (A : ST_A) (H : Heap) (locs : List Loc) (ls : Array Slot), lv_has ls 3 [(0, .ref (o 0)), (1, .int x1), (2, .int x2)] → va_P (dC, dI) vC (wM o cI F A) H → va_D (va_A (wM o cI Fa Aa) s.heap.size) (wM o cI F A) → va_S (va_A (wM o cI Fa Aa) s.heap.size) s.heap H locs → f_M_letter_L86 n x1 x2 F A = some (F9, A9) → W p l e (headSpec (Cond.code y_M_letter b_M_letter 3 none :: wA) ({ frames := 2, cells := 0, slots := 0, locals := 43 } : Room)).room s m ([.ref (o 0)] : List Value).toArray below meth c H locs 0 0 (MQ below (cc_Qv (dC, dI) vC [(cI, .int)] (wM o cI Fa Aa) s.heap.size (wM o cI F9 A9)) ([.ref (o 0)] : List Value).toArray s 0 0 (va_A (wM o cI Fa Aa) s.heap.size)) (F0 m 86 ls []) := by
    intro n
    induction n with
    | zero => intro x1 x2 F A H locs ls hl hP hD hS hf; cases hf
    | succ n ih =>
      intro x1 x2 F A H locs ls hl hP hD hS hf
      rw [f_M_letter_L86] at hf
      refine lv_iload_n hx hb d_M_letter_86 rfl (lv_at hl 2 rfl) ?_
      refine lv_iconst (v := 3) hx hb d_M_letter_87 (by decide) ?_
      refine lv_icmp_ge (tgt := 112) hx hb d_M_letter_88 (by decide) (fun h88_14 => ?_) (fun h88_14 => ?_)
      · rw [if_pos h88_14] at hf
        refine lv_aload_n hx hb d_M_letter_112 rfl (lv_at hl 0 rfl) ?_
        refine lv_iconst (v := 3) hx hb d_M_letter_113 (by decide) ?_
        have hP : va_P (dC, dI) vC (wM o cI F A) H := hP
        have hD : va_D (va_A (wM o cI Fa Aa) s.heap.size) (wM o cI F A) := hD
        obtain ⟨F15, A15, hc, hf⟩ := ra_bv_some hf
        refine cc_callv (va_runV (As := [.int (3 : Int32)]) (rest := []) ⟨hx, hb, hml, hown, hts⟩ (k_M_pushMade l dC dI o cI H.size F A (3 : Int32) F15 A15 hc) (cw_V 1 hts mw_656 mw_658 ms_M_pushMade mw_5 mw_659 rfl rfl rfl hd_M_pushMade ⟨Nat.le_of_ble_eq_true rfl, Nat.le_of_ble_eq_true rfl⟩) (cc_preV hK hP hD rfl (q0 := 0) rfl) rfl rfl hl.1 rfl (lv_room (Nat.le_of_ble_eq_true rfl)) d_M_letter_114 ⟨Nat.zero_le _, Nat.zero_le _⟩) hD hS hA (fun H locs hP hD hS => ?_)
        refine lv_goto (tgt := 191) hx hb d_M_letter_117 (by decide) ?_
        cases hf
        exact W.vret hx hb hr (fun t ht hW => ⟨⟨(), rfl, trivial, by rw [ht]; exact hP, va_K.moved hW.alike hK, hD⟩, hS.F ht⟩) hS.2.2 d_M_letter_191
      · rw [if_neg h88_14] at hf
        refine lv_aload_n hx hb d_M_letter_91 rfl (lv_at hl 0 rfl) ?_
        refine va_get (D := (dC, dI)) (ci := 4) (v := .ref (o 16)) (C := R_M) (T := T_M) (N := 29) hx hb hts in_M hown hK hP 0 rfl rfl 25 (by decide) (hts _ mw_528) (fun _ h9 => h9) rfl d_M_letter_92 ?_
        refine lv_iload_n hx hb d_M_letter_95 rfl (lv_at hl 2 rfl) ?_
        refine lv_aload_n hx hb d_M_letter_96 rfl (lv_at hl 0 rfl) ?_
        refine lv_iconst (v := 1) hx hb d_M_letter_97 (by decide) ?_
        refine lv_iconst (v := 3) hx hb d_M_letter_98 (by decide) ?_
        refine lv_iload_n hx hb d_M_letter_99 rfl (lv_at hl 2 rfl) ?_
        refine lv_iadd hx hb d_M_letter_100 ?_
        refine lv_iconst (v := 0) hx hb d_M_letter_101 (by decide) ?_
        have hP : va_P (dC, dI) vC (wM o cI F A) H := hP
        have hD : va_D (va_A (wM o cI Fa Aa) s.heap.size) (wM o cI F A) := hD
        obtain ⟨r16, F16, A16, hc, hf⟩ := ra_bi_some hf
        refine cc_calli (va_runV (As := [.int (1 : Int32), .int ((3 : Int32) + x2), .int (0 : Int32)]) (rest := [.int x2, .ref (o 16)]) ⟨hx, hb, hml, hown, hts⟩ (k_M_put l dC dI o cI H.size F A (1 : Int32) ((3 : Int32) + x2) (0 : Int32) r16 F16 A16 hc) (cw_V 3 hts mw_652 mw_654 ms_M_put mw_5 mw_655 rfl rfl rfl hd_M_put ⟨Nat.le_of_ble_eq_true rfl, Nat.le_of_ble_eq_true rfl⟩) (cc_preV hK hP hD rfl (q0 := 0) rfl) rfl rfl hl.1 rfl (lv_room (Nat.le_of_ble_eq_true rfl)) d_M_letter_102 ⟨Nat.zero_le _, Nat.zero_le _⟩) hD hS hA (fun H locs hP hD hS => ?_)
        obtain ⟨hi, hf⟩ := ra_g_some hf
        refine va_iast hx hb hK hP hD hS 16 0 rfl rfl hi d_M_letter_105 (fun H locs hP hD hS => ?_)
        have hP : va_P (dC, dI) vC [((o 0), .inr (4, [.int (F16 0), .int (F16 1), .ref (o 1), .int (F16 2), .ref (o 2), .ref (o 3), .ref (o 4), .ref (o 5), .ref (o 6), .int (F16 3), .ref (o 7), .ref (o 8), .ref (o 9), .ref (o 10), .ref (o 11), .int (F16 4), .int (F16 5), .int (F16 6), .ref (o 12), .ref (o 13), .int (F16 7), .ref (o 14), .ref (o 15), .int (F16 8), .int (F16 9), .ref (o 16), .ref (o 17), .ref (o 18), .ref (o 19)])), ((o 1), .inl (cI, 160, .inl (A16 0))), ((o 2), .inl (cI, 100, .inl (A16 1))), ((o 3), .inl (cI, 100, .inl (A16 2))), ((o 4), .inl (cI, 100, .inl (A16 3))), ((o 5), .inl (cI, 3, .inl (A16 4))), ((o 6), .inl (cI, 26, .inl (A16 5))), ((o 7), .inl (cI, 100, .inl (A16 6))), ((o 8), .inl (cI, 100, .inl (A16 7))), ((o 9), .inl (cI, 100, .inl (A16 8))), ((o 10), .inl (cI, 26, .inl (A16 9))), ((o 11), .inl (cI, 104, .inl (A16 10))), ((o 12), .inl (cI, 80, .inl (A16 11))), ((o 13), .inl (cI, 320, .inl (A16 12))), ((o 14), .inl (cI, 200, .inl (A16 13))), ((o 15), .inl (cI, 200, .inl (A16 14))), ((o 16), .inl (cI, 4, .inl (upd (A16 15) x2.toNatClampNeg r16))), ((o 17), .inl (cI, 32, .inl (A16 16))), ((o 18), .inl (cI, 32, .inl (A16 17))), ((o 19), .inl (cI, 100, .inl (A16 18)))] H := hP
        have hD : va_D (va_A (wM o cI Fa Aa) s.heap.size) [((o 0), .inr (4, [.int (F16 0), .int (F16 1), .ref (o 1), .int (F16 2), .ref (o 2), .ref (o 3), .ref (o 4), .ref (o 5), .ref (o 6), .int (F16 3), .ref (o 7), .ref (o 8), .ref (o 9), .ref (o 10), .ref (o 11), .int (F16 4), .int (F16 5), .int (F16 6), .ref (o 12), .ref (o 13), .int (F16 7), .ref (o 14), .ref (o 15), .int (F16 8), .int (F16 9), .ref (o 16), .ref (o 17), .ref (o 18), .ref (o 19)])), ((o 1), .inl (cI, 160, .inl (A16 0))), ((o 2), .inl (cI, 100, .inl (A16 1))), ((o 3), .inl (cI, 100, .inl (A16 2))), ((o 4), .inl (cI, 100, .inl (A16 3))), ((o 5), .inl (cI, 3, .inl (A16 4))), ((o 6), .inl (cI, 26, .inl (A16 5))), ((o 7), .inl (cI, 100, .inl (A16 6))), ((o 8), .inl (cI, 100, .inl (A16 7))), ((o 9), .inl (cI, 100, .inl (A16 8))), ((o 10), .inl (cI, 26, .inl (A16 9))), ((o 11), .inl (cI, 104, .inl (A16 10))), ((o 12), .inl (cI, 80, .inl (A16 11))), ((o 13), .inl (cI, 320, .inl (A16 12))), ((o 14), .inl (cI, 200, .inl (A16 13))), ((o 15), .inl (cI, 200, .inl (A16 14))), ((o 16), .inl (cI, 4, .inl (upd (A16 15) x2.toNatClampNeg r16))), ((o 17), .inl (cI, 32, .inl (A16 16))), ((o 18), .inl (cI, 32, .inl (A16 17))), ((o 19), .inl (cI, 100, .inl (A16 18)))] := hD
        refine lv_iinc (k := 2) (v := (x2 + (1 : Int32))) hx hb d_M_letter_106 hl rfl (by rfl) (by decide) rfl (fun ls hl => ?_)
        have hl : lv_has ls 3 [(2, .int (x2 + (1 : Int32))), (0, .ref (o 0)), (1, .int x1)] := hl
        refine lv_goto (tgt := 86) hx hb d_M_letter_109 (by decide) ?_
        have hl : lv_has ls 3 [(0, .ref (o 0)), (1, .int x1), (2, .int (x2 + (1 : Int32)))] := lv_sub hl [1, 2, 0] rfl
        exact ih x1 (x2 + (1 : Int32)) F16 (va_up A16 15 (upd (A16 15) x2.toNatClampNeg r16)) _ _ _ hl hP hD hS hf
  rw [lg_entry_eq]
  generalize (lg_sl (([.ref (o 0)] : List Value)) ++ List.replicate (3 - (lg_sl (([.ref (o 0)] : List Value))).length) Slot.unset).toArray = ls at hl ⊢
  have hl : lv_has ls 3 [(0, .ref (o 0))] := hl
  unfold f_M_letter at hf
  refine lv_aload_n hx hb d_M_letter_0 rfl (lv_at hl 0 rfl) ?_
  refine lv_aload_n hx hb d_M_letter_1 rfl (lv_at hl 0 rfl) ?_
  refine va_get (D := (dC, dI)) (ci := 4) (v := .int (Fa 4)) (C := R_M) (T := T_M) (N := 29) hx hb hts in_M hown hK hP 0 rfl rfl 15 (by decide) (hts _ mw_518) (fun _ h9 => h9) rfl d_M_letter_2 ?_
  have hP : va_P (dC, dI) vC (wM o cI Fa Aa) s.heap := hP
  have hD : va_D (va_A (wM o cI Fa Aa) s.heap.size) (wM o cI Fa Aa) := hD
  obtain ⟨r1, F1, A1, hc, hf⟩ := ra_bi_some hf
  refine cc_calli (va_runV (As := [.int (Fa 4)]) (rest := []) ⟨hx, hb, hml, hown, hts⟩ (k_M_look l dC dI o cI s.heap.size Fa Aa (Fa 4) r1 F1 A1 hc) (cw_V 1 hts mw_611 mw_613 ms_M_look mw_5 mw_614 rfl rfl rfl hd_M_look ⟨Nat.le_of_ble_eq_true rfl, Nat.le_of_ble_eq_true rfl⟩) (cc_preV hK hP hD rfl (q0 := 0) rfl) rfl rfl hl.1 rfl (lv_room (Nat.le_of_ble_eq_true rfl)) d_M_letter_5 ⟨Nat.zero_le _, Nat.zero_le _⟩) hD hS hA (fun H locs hP hD hS => ?_)
  refine lv_istore_n hx hb d_M_letter_8 rfl hl (by decide) rfl (fun ls hl => ?_)
  have hl : lv_has ls 3 [(1, .int r1), (0, .ref (o 0))] := hl
  refine lv_aload_n hx hb d_M_letter_9 rfl (lv_at hl 1 rfl) ?_
  refine lv_dup hx hb d_M_letter_10 rfl ?_
  refine va_get (D := (dC, dI)) (ci := 4) (v := .int (F1 4)) (C := R_M) (T := T_M) (N := 29) hx hb hts in_M hown hK hP 0 rfl rfl 15 (by decide) (hts _ mw_518) (fun _ h9 => h9) rfl d_M_letter_11 ?_
  refine lv_iconst (v := 1) hx hb d_M_letter_14 (by decide) ?_
  refine lv_iadd hx hb d_M_letter_15 ?_
  refine va_put (D := (dC, dI)) (ci := 4) (v := .int ((F1 4) + (1 : Int32))) (ty := .int) (C := R_M) (T := T_M) (N := 29) hx hb hts in_M ty_M ty_M_ok nm_M hown hK hP hD hS 0 rfl rfl 15 (by decide) (hts _ mw_518) (fun _ h9 => h9) rfl (by decide +kernel) rfl rfl (Nat.le_of_ble_eq_true rfl) d_M_letter_16 (fun H locs hP hD hS => ?_)
  have hP : va_P (dC, dI) vC [((o 0), .inr (4, [.int (F1 0), .int (F1 1), .ref (o 1), .int (F1 2), .ref (o 2), .ref (o 3), .ref (o 4), .ref (o 5), .ref (o 6), .int (F1 3), .ref (o 7), .ref (o 8), .ref (o 9), .ref (o 10), .ref (o 11), .int ((F1 4) + (1 : Int32)), .int (F1 5), .int (F1 6), .ref (o 12), .ref (o 13), .int (F1 7), .ref (o 14), .ref (o 15), .int (F1 8), .int (F1 9), .ref (o 16), .ref (o 17), .ref (o 18), .ref (o 19)])), ((o 1), .inl (cI, 160, .inl (A1 0))), ((o 2), .inl (cI, 100, .inl (A1 1))), ((o 3), .inl (cI, 100, .inl (A1 2))), ((o 4), .inl (cI, 100, .inl (A1 3))), ((o 5), .inl (cI, 3, .inl (A1 4))), ((o 6), .inl (cI, 26, .inl (A1 5))), ((o 7), .inl (cI, 100, .inl (A1 6))), ((o 8), .inl (cI, 100, .inl (A1 7))), ((o 9), .inl (cI, 100, .inl (A1 8))), ((o 10), .inl (cI, 26, .inl (A1 9))), ((o 11), .inl (cI, 104, .inl (A1 10))), ((o 12), .inl (cI, 80, .inl (A1 11))), ((o 13), .inl (cI, 320, .inl (A1 12))), ((o 14), .inl (cI, 200, .inl (A1 13))), ((o 15), .inl (cI, 200, .inl (A1 14))), ((o 16), .inl (cI, 4, .inl (A1 15))), ((o 17), .inl (cI, 32, .inl (A1 16))), ((o 18), .inl (cI, 32, .inl (A1 17))), ((o 19), .inl (cI, 100, .inl (A1 18)))] H := hP
  have hD : va_D (va_A (wM o cI Fa Aa) s.heap.size) [((o 0), .inr (4, [.int (F1 0), .int (F1 1), .ref (o 1), .int (F1 2), .ref (o 2), .ref (o 3), .ref (o 4), .ref (o 5), .ref (o 6), .int (F1 3), .ref (o 7), .ref (o 8), .ref (o 9), .ref (o 10), .ref (o 11), .int ((F1 4) + (1 : Int32)), .int (F1 5), .int (F1 6), .ref (o 12), .ref (o 13), .int (F1 7), .ref (o 14), .ref (o 15), .int (F1 8), .int (F1 9), .ref (o 16), .ref (o 17), .ref (o 18), .ref (o 19)])), ((o 1), .inl (cI, 160, .inl (A1 0))), ((o 2), .inl (cI, 100, .inl (A1 1))), ((o 3), .inl (cI, 100, .inl (A1 2))), ((o 4), .inl (cI, 100, .inl (A1 3))), ((o 5), .inl (cI, 3, .inl (A1 4))), ((o 6), .inl (cI, 26, .inl (A1 5))), ((o 7), .inl (cI, 100, .inl (A1 6))), ((o 8), .inl (cI, 100, .inl (A1 7))), ((o 9), .inl (cI, 100, .inl (A1 8))), ((o 10), .inl (cI, 26, .inl (A1 9))), ((o 11), .inl (cI, 104, .inl (A1 10))), ((o 12), .inl (cI, 80, .inl (A1 11))), ((o 13), .inl (cI, 320, .inl (A1 12))), ((o 14), .inl (cI, 200, .inl (A1 13))), ((o 15), .inl (cI, 200, .inl (A1 14))), ((o 16), .inl (cI, 4, .inl (A1 15))), ((o 17), .inl (cI, 32, .inl (A1 16))), ((o 18), .inl (cI, 32, .inl (A1 17))), ((o 19), .inl (cI, 100, .inl (A1 18)))] := hD
  refine lv_iload_n hx hb d_M_letter_19 rfl (lv_at hl 0 rfl) ?_
  refine lv_bipush (v := 120) hx hb d_M_letter_20 (by decide) ?_
  refine lv_icmp_eq (tgt := 37) hx hb d_M_letter_22 (by decide) (fun h22_2 => ?_) (fun h22_2 => ?_)
  · rw [if_pos h22_2] at hf
    have hl : lv_has ls 3 [(0, .ref (o 0)), (1, .int r1)] := lv_sub hl [1, 0] rfl
    exact J37 r1 (upd F1 4 ((F1 4) + (1 : Int32))) A1 _ _ _ hl hP hD hS hf
  · rw [if_neg h22_2] at hf
    refine lv_iload_n hx hb d_M_letter_25 rfl (lv_at hl 0 rfl) ?_
    refine lv_bipush (v := 121) hx hb d_M_letter_26 (by decide) ?_
    refine lv_icmp_eq (tgt := 37) hx hb d_M_letter_28 (by decide) (fun h28_7 => ?_) (fun h28_7 => ?_)
    · rw [if_pos h28_7] at hf
      have hl : lv_has ls 3 [(0, .ref (o 0)), (1, .int r1)] := lv_sub hl [1, 0] rfl
      exact J37 r1 (upd F1 4 ((F1 4) + (1 : Int32))) A1 _ _ _ hl hP hD hS hf
    · rw [if_neg h28_7] at hf
      refine lv_iload_n hx hb d_M_letter_31 rfl (lv_at hl 0 rfl) ?_
      refine lv_bipush (v := 116) hx hb d_M_letter_32 (by decide) ?_
      refine lv_icmp_ne (tgt := 78) hx hb d_M_letter_34 (by decide) (fun h34_8 => ?_) (fun h34_8 => ?_)
      · rw [if_neg h34_8] at hf
        refine lv_iload_n hx hb d_M_letter_78 rfl (lv_at hl 0 rfl) ?_
        refine lv_bipush (v := 99) hx hb d_M_letter_79 (by decide) ?_
        refine lv_icmp_ne (tgt := 120) hx hb d_M_letter_81 (by decide) (fun h81_9 => ?_) (fun h81_9 => ?_)
        · rw [if_neg h81_9] at hf
          refine lv_iload_n hx hb d_M_letter_120 rfl (lv_at hl 0 rfl) ?_
          refine lv_bipush (v := 122) hx hb d_M_letter_121 (by decide) ?_
          refine lv_icmp_eq (tgt := 138) hx hb d_M_letter_123 (by decide) (fun h123_10 => ?_) (fun h123_10 => ?_)
          · rw [if_pos h123_10] at hf
            refine lv_aload_n hx hb d_M_letter_138 rfl (lv_at hl 1 rfl) ?_
            refine lv_iconst (v := 1) hx hb d_M_letter_139 (by decide) ?_
            refine va_put (D := (dC, dI)) (ci := 4) (v := .int (1 : Int32)) (ty := .boolean) (C := R_M) (T := T_M) (N := 29) hx hb hts in_M ty_M ty_M_ok nm_M hown hK hP hD hS 0 rfl rfl 16 (by decide) (hts _ mw_519) (fun _ h9 => h9) rfl (by decide +kernel) rfl rfl (Nat.le_of_ble_eq_true rfl) d_M_letter_140 (fun H locs hP hD hS => ?_)
            have hP : va_P (dC, dI) vC [((o 0), .inr (4, [.int (F1 0), .int (F1 1), .ref (o 1), .int (F1 2), .ref (o 2), .ref (o 3), .ref (o 4), .ref (o 5), .ref (o 6), .int (F1 3), .ref (o 7), .ref (o 8), .ref (o 9), .ref (o 10), .ref (o 11), .int ((F1 4) + (1 : Int32)), .int (1 : Int32), .int (F1 6), .ref (o 12), .ref (o 13), .int (F1 7), .ref (o 14), .ref (o 15), .int (F1 8), .int (F1 9), .ref (o 16), .ref (o 17), .ref (o 18), .ref (o 19)])), ((o 1), .inl (cI, 160, .inl (A1 0))), ((o 2), .inl (cI, 100, .inl (A1 1))), ((o 3), .inl (cI, 100, .inl (A1 2))), ((o 4), .inl (cI, 100, .inl (A1 3))), ((o 5), .inl (cI, 3, .inl (A1 4))), ((o 6), .inl (cI, 26, .inl (A1 5))), ((o 7), .inl (cI, 100, .inl (A1 6))), ((o 8), .inl (cI, 100, .inl (A1 7))), ((o 9), .inl (cI, 100, .inl (A1 8))), ((o 10), .inl (cI, 26, .inl (A1 9))), ((o 11), .inl (cI, 104, .inl (A1 10))), ((o 12), .inl (cI, 80, .inl (A1 11))), ((o 13), .inl (cI, 320, .inl (A1 12))), ((o 14), .inl (cI, 200, .inl (A1 13))), ((o 15), .inl (cI, 200, .inl (A1 14))), ((o 16), .inl (cI, 4, .inl (A1 15))), ((o 17), .inl (cI, 32, .inl (A1 16))), ((o 18), .inl (cI, 32, .inl (A1 17))), ((o 19), .inl (cI, 100, .inl (A1 18)))] H := hP
            have hD : va_D (va_A (wM o cI Fa Aa) s.heap.size) [((o 0), .inr (4, [.int (F1 0), .int (F1 1), .ref (o 1), .int (F1 2), .ref (o 2), .ref (o 3), .ref (o 4), .ref (o 5), .ref (o 6), .int (F1 3), .ref (o 7), .ref (o 8), .ref (o 9), .ref (o 10), .ref (o 11), .int ((F1 4) + (1 : Int32)), .int (1 : Int32), .int (F1 6), .ref (o 12), .ref (o 13), .int (F1 7), .ref (o 14), .ref (o 15), .int (F1 8), .int (F1 9), .ref (o 16), .ref (o 17), .ref (o 18), .ref (o 19)])), ((o 1), .inl (cI, 160, .inl (A1 0))), ((o 2), .inl (cI, 100, .inl (A1 1))), ((o 3), .inl (cI, 100, .inl (A1 2))), ((o 4), .inl (cI, 100, .inl (A1 3))), ((o 5), .inl (cI, 3, .inl (A1 4))), ((o 6), .inl (cI, 26, .inl (A1 5))), ((o 7), .inl (cI, 100, .inl (A1 6))), ((o 8), .inl (cI, 100, .inl (A1 7))), ((o 9), .inl (cI, 100, .inl (A1 8))), ((o 10), .inl (cI, 26, .inl (A1 9))), ((o 11), .inl (cI, 104, .inl (A1 10))), ((o 12), .inl (cI, 80, .inl (A1 11))), ((o 13), .inl (cI, 320, .inl (A1 12))), ((o 14), .inl (cI, 200, .inl (A1 13))), ((o 15), .inl (cI, 200, .inl (A1 14))), ((o 16), .inl (cI, 4, .inl (A1 15))), ((o 17), .inl (cI, 32, .inl (A1 16))), ((o 18), .inl (cI, 32, .inl (A1 17))), ((o 19), .inl (cI, 100, .inl (A1 18)))] := hD
            refine lv_goto (tgt := 191) hx hb d_M_letter_143 (by decide) ?_
            cases hf
            exact W.vret hx hb hr (fun t ht hW => ⟨⟨(), rfl, trivial, by rw [ht]; exact hP, va_K.moved hW.alike hK, hD⟩, hS.F ht⟩) hS.2.2 d_M_letter_191
          · rw [if_neg h123_10] at hf
            refine lv_aload_n hx hb d_M_letter_126 rfl (lv_at hl 1 rfl) ?_
            refine va_get (D := (dC, dI)) (ci := 4) (v := .ref (o 10)) (C := R_M) (T := T_M) (N := 29) hx hb hts in_M hown hK hP 0 rfl rfl 13 (by decide) (hts _ mw_516) (fun _ h9 => h9) rfl d_M_letter_127 ?_
            refine lv_iload_n hx hb d_M_letter_130 rfl (lv_at hl 0 rfl) ?_
            refine lv_bipush (v := 97) hx hb d_M_letter_131 (by decide) ?_
            refine lv_isub hx hb d_M_letter_133 ?_
            obtain ⟨hi, hf⟩ := ra_g_some hf
            refine va_iald hx hb hK hP 10 0 rfl rfl hi d_M_letter_134 ?_
            refine lv_if_ne (tgt := 146) hx hb d_M_letter_135 (by decide) (fun h135_11 => ?_) (fun h135_11 => ?_)
            · rw [if_neg h135_11] at hf
              refine lv_iconst (v := 0) hx hb d_M_letter_146 (by decide) ?_
              refine lv_istore_n hx hb d_M_letter_147 rfl hl (by decide) rfl (fun ls hl => ?_)
              have hl : lv_has ls 3 [(2, .int (0 : Int32)), (1, .int r1), (0, .ref (o 0))] := hl
              have hl : lv_has ls 3 [(0, .ref (o 0)), (1, .int r1), (2, .int (0 : Int32))] := lv_sub hl [2, 1, 0] rfl
              exact L148 400 r1 (0 : Int32) (upd F1 4 ((F1 4) + (1 : Int32))) A1 _ _ _ hl hP hD hS hf
            · rw [if_pos h135_11] at hf
              refine lv_aload_n hx hb d_M_letter_138 rfl (lv_at hl 1 rfl) ?_
              refine lv_iconst (v := 1) hx hb d_M_letter_139 (by decide) ?_
              refine va_put (D := (dC, dI)) (ci := 4) (v := .int (1 : Int32)) (ty := .boolean) (C := R_M) (T := T_M) (N := 29) hx hb hts in_M ty_M ty_M_ok nm_M hown hK hP hD hS 0 rfl rfl 16 (by decide) (hts _ mw_519) (fun _ h9 => h9) rfl (by decide +kernel) rfl rfl (Nat.le_of_ble_eq_true rfl) d_M_letter_140 (fun H locs hP hD hS => ?_)
              have hP : va_P (dC, dI) vC [((o 0), .inr (4, [.int (F1 0), .int (F1 1), .ref (o 1), .int (F1 2), .ref (o 2), .ref (o 3), .ref (o 4), .ref (o 5), .ref (o 6), .int (F1 3), .ref (o 7), .ref (o 8), .ref (o 9), .ref (o 10), .ref (o 11), .int ((F1 4) + (1 : Int32)), .int (1 : Int32), .int (F1 6), .ref (o 12), .ref (o 13), .int (F1 7), .ref (o 14), .ref (o 15), .int (F1 8), .int (F1 9), .ref (o 16), .ref (o 17), .ref (o 18), .ref (o 19)])), ((o 1), .inl (cI, 160, .inl (A1 0))), ((o 2), .inl (cI, 100, .inl (A1 1))), ((o 3), .inl (cI, 100, .inl (A1 2))), ((o 4), .inl (cI, 100, .inl (A1 3))), ((o 5), .inl (cI, 3, .inl (A1 4))), ((o 6), .inl (cI, 26, .inl (A1 5))), ((o 7), .inl (cI, 100, .inl (A1 6))), ((o 8), .inl (cI, 100, .inl (A1 7))), ((o 9), .inl (cI, 100, .inl (A1 8))), ((o 10), .inl (cI, 26, .inl (A1 9))), ((o 11), .inl (cI, 104, .inl (A1 10))), ((o 12), .inl (cI, 80, .inl (A1 11))), ((o 13), .inl (cI, 320, .inl (A1 12))), ((o 14), .inl (cI, 200, .inl (A1 13))), ((o 15), .inl (cI, 200, .inl (A1 14))), ((o 16), .inl (cI, 4, .inl (A1 15))), ((o 17), .inl (cI, 32, .inl (A1 16))), ((o 18), .inl (cI, 32, .inl (A1 17))), ((o 19), .inl (cI, 100, .inl (A1 18)))] H := hP
              have hD : va_D (va_A (wM o cI Fa Aa) s.heap.size) [((o 0), .inr (4, [.int (F1 0), .int (F1 1), .ref (o 1), .int (F1 2), .ref (o 2), .ref (o 3), .ref (o 4), .ref (o 5), .ref (o 6), .int (F1 3), .ref (o 7), .ref (o 8), .ref (o 9), .ref (o 10), .ref (o 11), .int ((F1 4) + (1 : Int32)), .int (1 : Int32), .int (F1 6), .ref (o 12), .ref (o 13), .int (F1 7), .ref (o 14), .ref (o 15), .int (F1 8), .int (F1 9), .ref (o 16), .ref (o 17), .ref (o 18), .ref (o 19)])), ((o 1), .inl (cI, 160, .inl (A1 0))), ((o 2), .inl (cI, 100, .inl (A1 1))), ((o 3), .inl (cI, 100, .inl (A1 2))), ((o 4), .inl (cI, 100, .inl (A1 3))), ((o 5), .inl (cI, 3, .inl (A1 4))), ((o 6), .inl (cI, 26, .inl (A1 5))), ((o 7), .inl (cI, 100, .inl (A1 6))), ((o 8), .inl (cI, 100, .inl (A1 7))), ((o 9), .inl (cI, 100, .inl (A1 8))), ((o 10), .inl (cI, 26, .inl (A1 9))), ((o 11), .inl (cI, 104, .inl (A1 10))), ((o 12), .inl (cI, 80, .inl (A1 11))), ((o 13), .inl (cI, 320, .inl (A1 12))), ((o 14), .inl (cI, 200, .inl (A1 13))), ((o 15), .inl (cI, 200, .inl (A1 14))), ((o 16), .inl (cI, 4, .inl (A1 15))), ((o 17), .inl (cI, 32, .inl (A1 16))), ((o 18), .inl (cI, 32, .inl (A1 17))), ((o 19), .inl (cI, 100, .inl (A1 18)))] := hD
              refine lv_goto (tgt := 191) hx hb d_M_letter_143 (by decide) ?_
              cases hf
              exact W.vret hx hb hr (fun t ht hW => ⟨⟨(), rfl, trivial, by rw [ht]; exact hP, va_K.moved hW.alike hK, hD⟩, hS.F ht⟩) hS.2.2 d_M_letter_191
        · rw [if_pos h81_9] at hf
          refine lv_iconst (v := 0) hx hb d_M_letter_84 (by decide) ?_
          refine lv_istore_n hx hb d_M_letter_85 rfl hl (by decide) rfl (fun ls hl => ?_)
          have hl : lv_has ls 3 [(2, .int (0 : Int32)), (1, .int r1), (0, .ref (o 0))] := hl
          have hl : lv_has ls 3 [(0, .ref (o 0)), (1, .int r1), (2, .int (0 : Int32))] := lv_sub hl [2, 1, 0] rfl
          exact L86 400 r1 (0 : Int32) (upd F1 4 ((F1 4) + (1 : Int32))) A1 _ _ _ hl hP hD hS hf
      · rw [if_pos h34_8] at hf
        have hl : lv_has ls 3 [(0, .ref (o 0)), (1, .int r1)] := lv_sub hl [1, 0] rfl
        exact J37 r1 (upd F1 4 ((F1 4) + (1 : Int32))) A1 _ _ _ hl hP hD hS hf
def f_M_finish_L209 : Nat → Int32 → ST_F → ST_A → Option (ST_F × ST_A)
  | 0, _, _, _ => none
  | n + 1, x1, F, A => if (F 5) = 0 then (ra_bi (f_M_top  F A) (fun r3 F3 A3 => if r3 = (126 : Int32) then (ra_bv (f_M_each (9 : Int32) (upd F3 7 ((F3 7) - (1 : Int32))) A3) (fun F5 A5 => f_M_finish_L209 n x1 F5 A5)) else (some (F3, A3)))) else (some (F, A))
def f_M_finish_J189 (x1 : Int32) (x2 : Int32) (x3 : Int32) (z0 : Int32) (F : ST_F) (A : ST_A) : Option (ST_F × ST_A) := ra_zb z0 (if z0 = 0 then (ra_bv (f_M_pushMade x3 (upd (upd F 5 z0) 6 x2) A) (fun F12 A12 => f_M_finish_L209 400 x1 F12 A12)) else (f_M_finish_L209 400 x1 (upd F 5 z0) A))
def f_M_finish_J184 (x1 : Int32) (x2 : Int32) (x3 : Int32) (F : ST_F) (A : ST_A) : Option (ST_F × ST_A) := f_M_finish_J189 x1 x2 x3 (1 : Int32) F A
def f_M_finish_J172 (x1 : Int32) (x2 : Int32) (x3 : Int32) (F : ST_F) (A : ST_A) : Option (ST_F × ST_A) := if (F 5) = 0 then (if x3 = 0 then (f_M_finish_J184 x1 x2 x3 F A) else (f_M_finish_J189 x1 x2 x3 (0 : Int32) F A)) else (f_M_finish_J184 x1 x2 x3 F A)
def f_M_finish_L62 : Nat → Int32 → Int32 → Int32 → ST_F → ST_A → Option (ST_F × ST_A)
  | 0, _, _, _, _, _ => none
  | n + 1, x1, x2, x3, F, A => if (F 5) = 0 then (if (3 : Int32) ≤ x3 then (f_M_finish_J172 x1 x2 x3 F A) else (ra_bi (f_M_look (F 4) F A) (fun r15 F15 A15 => if r15 < (120 : Int32) then (f_M_finish_J172 x1 x2 x3 F15 A15) else (ra_bi (f_M_look (F15 4) F15 A15) (fun r17 F17 A17 => if (122 : Int32) < r17 then (f_M_finish_J172 x1 x2 x3 F17 A17) else (ra_bi (f_M_look (F17 4) F17 A17) (fun r19 F19 A19 => ra_g x2 80 (if (r19 - (120 : Int32)) < ((A19 11) x2.toNatClampNeg) then (if (3 : Int32) ≤ (r19 - (120 : Int32)) then (ra_bi (f_M_number x2 (0 : Int32) (upd F19 5 (0 : Int32)) A19) (fun r22 F22 A22 => ra_g x3 4 (f_M_finish_L62 n x1 x2 (x3 + (1 : Int32)) (upd F22 4 ((F22 4) + (1 : Int32))) (va_up A22 15 (upd (A22 15) x3.toNatClampNeg r22))))) else (ra_bi (f_M_number x2 (r19 - (120 : Int32)) (upd F19 5 (0 : Int32)) A19) (fun r23 F23 A23 => ra_g x3 4 (f_M_finish_L62 n x1 x2 (x3 + (1 : Int32)) (upd F23 4 ((F23 4) + (1 : Int32))) (va_up A23 15 (upd (A23 15) x3.toNatClampNeg r23)))))) else (if (3 : Int32) ≤ (r19 - (120 : Int32)) then (ra_bi (f_M_number x2 (0 : Int32) (upd F19 5 (1 : Int32)) A19) (fun r25 F25 A25 => ra_g x3 4 (f_M_finish_L62 n x1 x2 (x3 + (1 : Int32)) (upd F25 4 ((F25 4) + (1 : Int32))) (va_up A25 15 (upd (A25 15) x3.toNatClampNeg r25))))) else (ra_bi (f_M_number x2 (r19 - (120 : Int32)) (upd F19 5 (1 : Int32)) A19) (fun r26 F26 A26 => ra_g x3 4 (f_M_finish_L62 n x1 x2 (x3 + (1 : Int32)) (upd F26 4 ((F26 4) + (1 : Int32))) (va_up A26 15 (upd (A26 15) x3.toNatClampNeg r26)))))))))))))) else (f_M_finish_J172 x1 x2 x3 F A)
def f_M_finish (u1 : Int32) (Fa : ST_F) (Aa : ST_A) : Option (ST_F × ST_A) := if (Fa 5) = 0 then (ra_bi (f_M_look (Fa 4) Fa Aa) (fun r6 F6 A6 => if r6 = (46 : Int32) then (if u1 = 0 then (ra_g ((F6 6) - (1 : Int32)) 80 (if ((A6 11) ((F6 6) - (1 : Int32)).toNatClampNeg) = (4 : Int32) then (f_M_finish_L62 400 u1 ((F6 6) - (1 : Int32)) (0 : Int32) (upd (upd F6 4 ((F6 4) + (1 : Int32))) 5 (1 : Int32)) A6) else (f_M_finish_L62 400 u1 ((F6 6) - (1 : Int32)) (0 : Int32) (upd (upd F6 4 ((F6 4) + (1 : Int32))) 5 (0 : Int32)) A6))) else (f_M_finish_L62 400 u1 ((F6 6) - (1 : Int32)) (0 : Int32) (upd (upd F6 4 ((F6 4) + (1 : Int32))) 5 (1 : Int32)) A6)) else (f_M_finish_L209 400 u1 F6 A6))) else (f_M_finish_L209 400 u1 Fa Aa)
set_option maxHeartbeats 4000000 in
set_option maxRecDepth 100000 in
theorem k_M_finish (l : Launch) (dC : Nat → ClassId) (dI : Nat → Nat → Nat) (o : Nat → Nat) (cI : ClassId) (sz : Nat) (Fa : ST_F) (Aa : ST_A) (u1 : Int32) (F9 : ST_F) (A9 : ST_A) (hf : f_M_finish u1 Fa Aa = some (F9, A9)) : cc_MetV l y_M_finish (Cond.code y_M_finish b_M_finish 5 none :: wA) ({ frames := 2, cells := 0, slots := 0, locals := 47 } : Room) (dC, dI) vC [(cI, .int)] ([.ref (o 0), .int u1] : List Value) (wM o cI Fa Aa) sz (wM o cI F9 A9) := by
  refine Met.ofW (cc := b_M_finish) (maxL := 5) (ret := none) (by decide) rfl ?_
  intro p e s m args below meth c s₁ B hml hv
  obtain ⟨rfl, hsz, hP, hK, hD0⟩ := hv
  have hx := B.exec
  have hb := B.bytes
  have hr := B.returns
  have hts := fun w h => atoms_spec (ws := (Cond.code y_M_finish b_M_finish 5 none :: wA)) B.pre w (List.mem_cons_of_mem _ h)
  have hown : s.vm.findClass R_M = some m.cls := findClass_of_methodNamed B.named
  have hlocks := B.notSynchronized
  subst hsz
  have hD := hD0.self (sz := s.heap.size)
  have hA : ∀ q : Nat, s.heap.size ≤ q → va_A (wM o cI Fa Aa) s.heap.size q := fun q h => Or.inr h
  have hS : va_S (va_A (wM o cI Fa Aa) s.heap.size) s.heap s.heap [] := va_S.rf
  have hl := lv_entry (([.ref (o 0), .int u1] : List Value)) (n := 5) (Nat.le_of_ble_eq_true rfl)
  have L209 : ∀ (n : Nat) (x1 : Int32) (F : ST_F) (A : ST_A) (H : Heap) (locs : List Loc) (ls : Array Slot), lv_has ls 5 [(0, .ref (o 0)), (1, .int x1)] → va_P (dC, dI) vC (wM o cI F A) H → va_D (va_A (wM o cI Fa Aa) s.heap.size) (wM o cI F A) → va_S (va_A (wM o cI Fa Aa) s.heap.size) s.heap H locs → f_M_finish_L209 n x1 F A = some (F9, A9) → W p l e (headSpec (Cond.code y_M_finish b_M_finish 5 none :: wA) ({ frames := 2, cells := 0, slots := 0, locals := 47 } : Room)).room s m ([.ref (o 0), .int u1] : List Value).toArray below meth c H locs 0 0 (MQ below (cc_Qv (dC, dI) vC [(cI, .int)] (wM o cI Fa Aa) s.heap.size (wM o cI F9 A9)) ([.ref (o 0), .int u1] : List Value).toArray s 0 0 (va_A (wM o cI Fa Aa) s.heap.size)) (F0 m 209 ls []) := by
    intro n
    induction n with
    | zero => intro x1 F A H locs ls hl hP hD hS hf; cases hf
    | succ n ih =>
      intro x1 F A H locs ls hl hP hD hS hf
      rw [f_M_finish_L209] at hf
      refine lv_aload_n hx hb d_M_finish_209 rfl (lv_at hl 0 rfl) ?_
      refine va_get (D := (dC, dI)) (ci := 4) (v := .int (F 5)) (C := R_M) (T := T_M) (N := 29) hx hb hts in_M hown hK hP 0 rfl rfl 16 (by decide) (hts _ mw_519) (fun _ h9 => h9) rfl d_M_finish_210 ?_
      refine lv_if_ne (tgt := 244) hx hb d_M_finish_213 (by decide) (fun h213_2 => ?_) (fun h213_2 => ?_)
      · rw [if_neg h213_2] at hf
        cases hf
        exact W.vret hx hb hr (fun t ht hW => ⟨⟨(), rfl, trivial, by rw [ht]; exact hP, va_K.moved hW.alike hK, hD⟩, hS.F ht⟩) hS.2.2 d_M_finish_244
      · rw [if_pos h213_2] at hf
        refine lv_aload_n hx hb d_M_finish_216 rfl (lv_at hl 0 rfl) ?_
        have hP : va_P (dC, dI) vC (wM o cI F A) H := hP
        have hD : va_D (va_A (wM o cI Fa Aa) s.heap.size) (wM o cI F A) := hD
        obtain ⟨r3, F3, A3, hc, hf⟩ := ra_bi_some hf
        refine cc_calli (va_runV (As := []) (rest := []) ⟨hx, hb, hml, hown, hts⟩ (k_M_top l dC dI o cI H.size F A  r3 F3 A3 hc) (cw_V 0 hts mw_633 mw_635 ms_M_top mw_5 mw_636 rfl rfl rfl hd_M_top ⟨Nat.le_of_ble_eq_true rfl, Nat.le_of_ble_eq_true rfl⟩) (cc_preV hK hP hD rfl (q0 := 0) rfl) rfl rfl hl.1 rfl (lv_room (Nat.le_of_ble_eq_true rfl)) d_M_finish_217 ⟨Nat.zero_le _, Nat.zero_le _⟩) hD hS hA (fun H locs hP hD hS => ?_)
        refine lv_bipush (v := 126) hx hb d_M_finish_220 (by decide) ?_
        refine lv_icmp_ne (tgt := 244) hx hb d_M_finish_222 (by decide) (fun h222_4 => ?_) (fun h222_4 => ?_)
        · rw [if_neg h222_4] at hf
          cases hf
          exact W.vret hx hb hr (fun t ht hW => ⟨⟨(), rfl, trivial, by rw [ht]; exact hP, va_K.moved hW.alike hK, hD⟩, hS.F ht⟩) hS.2.2 d_M_finish_244
        · rw [if_pos h222_4] at hf
          refine lv_aload_n hx hb d_M_finish_225 rfl (lv_at hl 0 rfl) ?_
          refine lv_dup hx hb d_M_finish_226 rfl ?_
          refine va_get (D := (dC, dI)) (ci := 4) (v := .int (F3 7)) (C := R_M) (T := T_M) (N := 29) hx hb hts in_M hown hK hP 0 rfl rfl 20 (by decide) (hts _ mw_523) (fun _ h9 => h9) rfl d_M_finish_227 ?_
          refine lv_iconst (v := 1) hx hb d_M_finish_230 (by decide) ?_
          refine lv_isub hx hb d_M_finish_231 ?_
          refine va_put (D := (dC, dI)) (ci := 4) (v := .int ((F3 7) - (1 : Int32))) (ty := .int) (C := R_M) (T := T_M) (N := 29) hx hb hts in_M ty_M ty_M_ok nm_M hown hK hP hD hS 0 rfl rfl 20 (by decide) (hts _ mw_523) (fun _ h9 => h9) rfl (by decide +kernel) rfl rfl (Nat.le_of_ble_eq_true rfl) d_M_finish_232 (fun H locs hP hD hS => ?_)
          have hP : va_P (dC, dI) vC [((o 0), .inr (4, [.int (F3 0), .int (F3 1), .ref (o 1), .int (F3 2), .ref (o 2), .ref (o 3), .ref (o 4), .ref (o 5), .ref (o 6), .int (F3 3), .ref (o 7), .ref (o 8), .ref (o 9), .ref (o 10), .ref (o 11), .int (F3 4), .int (F3 5), .int (F3 6), .ref (o 12), .ref (o 13), .int ((F3 7) - (1 : Int32)), .ref (o 14), .ref (o 15), .int (F3 8), .int (F3 9), .ref (o 16), .ref (o 17), .ref (o 18), .ref (o 19)])), ((o 1), .inl (cI, 160, .inl (A3 0))), ((o 2), .inl (cI, 100, .inl (A3 1))), ((o 3), .inl (cI, 100, .inl (A3 2))), ((o 4), .inl (cI, 100, .inl (A3 3))), ((o 5), .inl (cI, 3, .inl (A3 4))), ((o 6), .inl (cI, 26, .inl (A3 5))), ((o 7), .inl (cI, 100, .inl (A3 6))), ((o 8), .inl (cI, 100, .inl (A3 7))), ((o 9), .inl (cI, 100, .inl (A3 8))), ((o 10), .inl (cI, 26, .inl (A3 9))), ((o 11), .inl (cI, 104, .inl (A3 10))), ((o 12), .inl (cI, 80, .inl (A3 11))), ((o 13), .inl (cI, 320, .inl (A3 12))), ((o 14), .inl (cI, 200, .inl (A3 13))), ((o 15), .inl (cI, 200, .inl (A3 14))), ((o 16), .inl (cI, 4, .inl (A3 15))), ((o 17), .inl (cI, 32, .inl (A3 16))), ((o 18), .inl (cI, 32, .inl (A3 17))), ((o 19), .inl (cI, 100, .inl (A3 18)))] H := hP
          have hD : va_D (va_A (wM o cI Fa Aa) s.heap.size) [((o 0), .inr (4, [.int (F3 0), .int (F3 1), .ref (o 1), .int (F3 2), .ref (o 2), .ref (o 3), .ref (o 4), .ref (o 5), .ref (o 6), .int (F3 3), .ref (o 7), .ref (o 8), .ref (o 9), .ref (o 10), .ref (o 11), .int (F3 4), .int (F3 5), .int (F3 6), .ref (o 12), .ref (o 13), .int ((F3 7) - (1 : Int32)), .ref (o 14), .ref (o 15), .int (F3 8), .int (F3 9), .ref (o 16), .ref (o 17), .ref (o 18), .ref (o 19)])), ((o 1), .inl (cI, 160, .inl (A3 0))), ((o 2), .inl (cI, 100, .inl (A3 1))), ((o 3), .inl (cI, 100, .inl (A3 2))), ((o 4), .inl (cI, 100, .inl (A3 3))), ((o 5), .inl (cI, 3, .inl (A3 4))), ((o 6), .inl (cI, 26, .inl (A3 5))), ((o 7), .inl (cI, 100, .inl (A3 6))), ((o 8), .inl (cI, 100, .inl (A3 7))), ((o 9), .inl (cI, 100, .inl (A3 8))), ((o 10), .inl (cI, 26, .inl (A3 9))), ((o 11), .inl (cI, 104, .inl (A3 10))), ((o 12), .inl (cI, 80, .inl (A3 11))), ((o 13), .inl (cI, 320, .inl (A3 12))), ((o 14), .inl (cI, 200, .inl (A3 13))), ((o 15), .inl (cI, 200, .inl (A3 14))), ((o 16), .inl (cI, 4, .inl (A3 15))), ((o 17), .inl (cI, 32, .inl (A3 16))), ((o 18), .inl (cI, 32, .inl (A3 17))), ((o 19), .inl (cI, 100, .inl (A3 18)))] := hD
          refine lv_aload_n hx hb d_M_finish_235 rfl (lv_at hl 0 rfl) ?_
          refine lv_bipush (v := 9) hx hb d_M_finish_236 (by decide) ?_
          have hP : va_P (dC, dI) vC (wM o cI (upd F3 7 ((F3 7) - (1 : Int32))) A3) H := hP
          have hD : va_D (va_A (wM o cI Fa Aa) s.heap.size) (wM o cI (upd F3 7 ((F3 7) - (1 : Int32))) A3) := hD
          obtain ⟨F5, A5, hc, hf⟩ := ra_bv_some hf
          refine cc_callv (va_runV (As := [.int (9 : Int32)]) (rest := []) ⟨hx, hb, hml, hown, hts⟩ (k_M_each l dC dI o cI H.size (upd F3 7 ((F3 7) - (1 : Int32))) A3 (9 : Int32) F5 A5 hc) (cw_V 1 hts mw_675 mw_677 ms_M_each mw_5 mw_678 rfl rfl rfl hd_M_each ⟨Nat.le_of_ble_eq_true rfl, Nat.le_of_ble_eq_true rfl⟩) (cc_preV hK hP hD rfl (q0 := 0) rfl) rfl rfl hl.1 rfl (lv_room (Nat.le_of_ble_eq_true rfl)) d_M_finish_238 ⟨Nat.zero_le _, Nat.zero_le _⟩) hD hS hA (fun H locs hP hD hS => ?_)
          refine lv_goto (tgt := 209) hx hb d_M_finish_241 (by decide) ?_
          have hl : lv_has ls 5 [(0, .ref (o 0)), (1, .int x1)] := lv_sub hl [0, 1] rfl
          exact ih x1 F5 A5 _ _ _ hl hP hD hS hf
  have J189 : ∀ (x1 : Int32) (x2 : Int32) (x3 : Int32) (z0 : Int32) (F : ST_F) (A : ST_A) (H : Heap) (locs : List Loc) (ls : Array Slot), lv_has ls 5 [(0, .ref (o 0)), (1, .int x1), (2, .int x2), (3, .int x3)] → va_P (dC, dI) vC (wM o cI F A) H → va_D (va_A (wM o cI Fa Aa) s.heap.size) (wM o cI F A) → va_S (va_A (wM o cI Fa Aa) s.heap.size) s.heap H locs → f_M_finish_J189 x1 x2 x3 z0 F A = some (F9, A9) → W p l e (headSpec (Cond.code y_M_finish b_M_finish 5 none :: wA) ({ frames := 2, cells := 0, slots := 0, locals := 47 } : Room)).room s m ([.ref (o 0), .int u1] : List Value).toArray below meth c H locs 0 0 (MQ below (cc_Qv (dC, dI) vC [(cI, .int)] (wM o cI Fa Aa) s.heap.size (wM o cI F9 A9)) ([.ref (o 0), .int u1] : List Value).toArray s 0 0 (va_A (wM o cI Fa Aa) s.heap.size)) (F0 m 189 ls [.int z0, .ref (o 0)]) := by
    intro x1 x2 x3 z0 F A H locs ls hl hP hD hS hf
    unfold f_M_finish_J189 at hf
    obtain ⟨hn, hfit, hf⟩ := ra_zb_some hf
    refine va_put (D := (dC, dI)) (ci := 4) (v := .int z0) (ty := .boolean) (C := R_M) (T := T_M) (N := 29) hx hb hts in_M ty_M ty_M_ok nm_M hown hK hP hD hS 0 rfl rfl 16 (by decide) (hts _ mw_519) (fun _ h9 => h9) rfl (by decide +kernel) hn hfit (Nat.le_of_ble_eq_true rfl) d_M_finish_189 (fun H locs hP hD hS => ?_)
    have hP : va_P (dC, dI) vC [((o 0), .inr (4, [.int (F 0), .int (F 1), .ref (o 1), .int (F 2), .ref (o 2), .ref (o 3), .ref (o 4), .ref (o 5), .ref (o 6), .int (F 3), .ref (o 7), .ref (o 8), .ref (o 9), .ref (o 10), .ref (o 11), .int (F 4), .int z0, .int (F 6), .ref (o 12), .ref (o 13), .int (F 7), .ref (o 14), .ref (o 15), .int (F 8), .int (F 9), .ref (o 16), .ref (o 17), .ref (o 18), .ref (o 19)])), ((o 1), .inl (cI, 160, .inl (A 0))), ((o 2), .inl (cI, 100, .inl (A 1))), ((o 3), .inl (cI, 100, .inl (A 2))), ((o 4), .inl (cI, 100, .inl (A 3))), ((o 5), .inl (cI, 3, .inl (A 4))), ((o 6), .inl (cI, 26, .inl (A 5))), ((o 7), .inl (cI, 100, .inl (A 6))), ((o 8), .inl (cI, 100, .inl (A 7))), ((o 9), .inl (cI, 100, .inl (A 8))), ((o 10), .inl (cI, 26, .inl (A 9))), ((o 11), .inl (cI, 104, .inl (A 10))), ((o 12), .inl (cI, 80, .inl (A 11))), ((o 13), .inl (cI, 320, .inl (A 12))), ((o 14), .inl (cI, 200, .inl (A 13))), ((o 15), .inl (cI, 200, .inl (A 14))), ((o 16), .inl (cI, 4, .inl (A 15))), ((o 17), .inl (cI, 32, .inl (A 16))), ((o 18), .inl (cI, 32, .inl (A 17))), ((o 19), .inl (cI, 100, .inl (A 18)))] H := hP
    have hD : va_D (va_A (wM o cI Fa Aa) s.heap.size) [((o 0), .inr (4, [.int (F 0), .int (F 1), .ref (o 1), .int (F 2), .ref (o 2), .ref (o 3), .ref (o 4), .ref (o 5), .ref (o 6), .int (F 3), .ref (o 7), .ref (o 8), .ref (o 9), .ref (o 10), .ref (o 11), .int (F 4), .int z0, .int (F 6), .ref (o 12), .ref (o 13), .int (F 7), .ref (o 14), .ref (o 15), .int (F 8), .int (F 9), .ref (o 16), .ref (o 17), .ref (o 18), .ref (o 19)])), ((o 1), .inl (cI, 160, .inl (A 0))), ((o 2), .inl (cI, 100, .inl (A 1))), ((o 3), .inl (cI, 100, .inl (A 2))), ((o 4), .inl (cI, 100, .inl (A 3))), ((o 5), .inl (cI, 3, .inl (A 4))), ((o 6), .inl (cI, 26, .inl (A 5))), ((o 7), .inl (cI, 100, .inl (A 6))), ((o 8), .inl (cI, 100, .inl (A 7))), ((o 9), .inl (cI, 100, .inl (A 8))), ((o 10), .inl (cI, 26, .inl (A 9))), ((o 11), .inl (cI, 104, .inl (A 10))), ((o 12), .inl (cI, 80, .inl (A 11))), ((o 13), .inl (cI, 320, .inl (A 12))), ((o 14), .inl (cI, 200, .inl (A 13))), ((o 15), .inl (cI, 200, .inl (A 14))), ((o 16), .inl (cI, 4, .inl (A 15))), ((o 17), .inl (cI, 32, .inl (A 16))), ((o 18), .inl (cI, 32, .inl (A 17))), ((o 19), .inl (cI, 100, .inl (A 18)))] := hD
    refine lv_aload_n hx hb d_M_finish_192 rfl (lv_at hl 0 rfl) ?_
    refine va_get (D := (dC, dI)) (ci := 4) (v := .int z0) (C := R_M) (T := T_M) (N := 29) hx hb hts in_M hown hK hP 0 rfl rfl 16 (by decide) (hts _ mw_519) (fun _ h9 => h9) rfl d_M_finish_193 ?_
    refine lv_if_ne (tgt := 209) hx hb d_M_finish_196 (by decide) (fun h196_11 => ?_) (fun h196_11 => ?_)
    · rw [if_neg h196_11] at hf
      have hl : lv_has ls 5 [(0, .ref (o 0)), (1, .int x1)] := lv_sub hl [0, 1] rfl
      exact L209 400 x1 (upd F 5 z0) A _ _ _ hl hP hD hS hf
    · rw [if_pos h196_11] at hf
      refine lv_aload_n hx hb d_M_finish_199 rfl (lv_at hl 0 rfl) ?_
      refine lv_iload_n hx hb d_M_finish_200 rfl (lv_at hl 2 rfl) ?_
      refine va_put (D := (dC, dI)) (ci := 4) (v := .int x2) (ty := .int) (C := R_M) (T := T_M) (N := 29) hx hb hts in_M ty_M ty_M_ok nm_M hown hK hP hD hS 0 rfl rfl 17 (by decide) (hts _ mw_520) (fun _ h9 => h9) rfl (by decide +kernel) rfl rfl (Nat.le_of_ble_eq_true rfl) d_M_finish_201 (fun H locs hP hD hS => ?_)
      have hP : va_P (dC, dI) vC [((o 0), .inr (4, [.int (F 0), .int (F 1), .ref (o 1), .int (F 2), .ref (o 2), .ref (o 3), .ref (o 4), .ref (o 5), .ref (o 6), .int (F 3), .ref (o 7), .ref (o 8), .ref (o 9), .ref (o 10), .ref (o 11), .int (F 4), .int z0, .int x2, .ref (o 12), .ref (o 13), .int (F 7), .ref (o 14), .ref (o 15), .int (F 8), .int (F 9), .ref (o 16), .ref (o 17), .ref (o 18), .ref (o 19)])), ((o 1), .inl (cI, 160, .inl (A 0))), ((o 2), .inl (cI, 100, .inl (A 1))), ((o 3), .inl (cI, 100, .inl (A 2))), ((o 4), .inl (cI, 100, .inl (A 3))), ((o 5), .inl (cI, 3, .inl (A 4))), ((o 6), .inl (cI, 26, .inl (A 5))), ((o 7), .inl (cI, 100, .inl (A 6))), ((o 8), .inl (cI, 100, .inl (A 7))), ((o 9), .inl (cI, 100, .inl (A 8))), ((o 10), .inl (cI, 26, .inl (A 9))), ((o 11), .inl (cI, 104, .inl (A 10))), ((o 12), .inl (cI, 80, .inl (A 11))), ((o 13), .inl (cI, 320, .inl (A 12))), ((o 14), .inl (cI, 200, .inl (A 13))), ((o 15), .inl (cI, 200, .inl (A 14))), ((o 16), .inl (cI, 4, .inl (A 15))), ((o 17), .inl (cI, 32, .inl (A 16))), ((o 18), .inl (cI, 32, .inl (A 17))), ((o 19), .inl (cI, 100, .inl (A 18)))] H := hP
      have hD : va_D (va_A (wM o cI Fa Aa) s.heap.size) [((o 0), .inr (4, [.int (F 0), .int (F 1), .ref (o 1), .int (F 2), .ref (o 2), .ref (o 3), .ref (o 4), .ref (o 5), .ref (o 6), .int (F 3), .ref (o 7), .ref (o 8), .ref (o 9), .ref (o 10), .ref (o 11), .int (F 4), .int z0, .int x2, .ref (o 12), .ref (o 13), .int (F 7), .ref (o 14), .ref (o 15), .int (F 8), .int (F 9), .ref (o 16), .ref (o 17), .ref (o 18), .ref (o 19)])), ((o 1), .inl (cI, 160, .inl (A 0))), ((o 2), .inl (cI, 100, .inl (A 1))), ((o 3), .inl (cI, 100, .inl (A 2))), ((o 4), .inl (cI, 100, .inl (A 3))), ((o 5), .inl (cI, 3, .inl (A 4))), ((o 6), .inl (cI, 26, .inl (A 5))), ((o 7), .inl (cI, 100, .inl (A 6))), ((o 8), .inl (cI, 100, .inl (A 7))), ((o 9), .inl (cI, 100, .inl (A 8))), ((o 10), .inl (cI, 26, .inl (A 9))), ((o 11), .inl (cI, 104, .inl (A 10))), ((o 12), .inl (cI, 80, .inl (A 11))), ((o 13), .inl (cI, 320, .inl (A 12))), ((o 14), .inl (cI, 200, .inl (A 13))), ((o 15), .inl (cI, 200, .inl (A 14))), ((o 16), .inl (cI, 4, .inl (A 15))), ((o 17), .inl (cI, 32, .inl (A 16))), ((o 18), .inl (cI, 32, .inl (A 17))), ((o 19), .inl (cI, 100, .inl (A 18)))] := hD
      refine lv_aload_n hx hb d_M_finish_204 rfl (lv_at hl 0 rfl) ?_
      refine lv_iload_n hx hb d_M_finish_205 rfl (lv_at hl 3 rfl) ?_
      have hP : va_P (dC, dI) vC (wM o cI (upd (upd F 5 z0) 6 x2) A) H := hP
      have hD : va_D (va_A (wM o cI Fa Aa) s.heap.size) (wM o cI (upd (upd F 5 z0) 6 x2) A) := hD
      obtain ⟨F12, A12, hc, hf⟩ := ra_bv_some hf
      refine cc_callv (va_runV (As := [.int x3]) (rest := []) ⟨hx, hb, hml, hown, hts⟩ (k_M_pushMade l dC dI o cI H.size (upd (upd F 5 z0) 6 x2) A x3 F12 A12 hc) (cw_V 1 hts mw_656 mw_658 ms_M_pushMade mw_5 mw_659 rfl rfl rfl hd_M_pushMade ⟨Nat.le_of_ble_eq_true rfl, Nat.le_of_ble_eq_true rfl⟩) (cc_preV hK hP hD rfl (q0 := 0) rfl) rfl rfl hl.1 rfl (lv_room (Nat.le_of_ble_eq_true rfl)) d_M_finish_206 ⟨Nat.zero_le _, Nat.zero_le _⟩) hD hS hA (fun H locs hP hD hS => ?_)
      have hl : lv_has ls 5 [(0, .ref (o 0)), (1, .int x1)] := lv_sub hl [0, 1] rfl
      exact L209 400 x1 F12 A12 _ _ _ hl hP hD hS hf
  have J184 : ∀ (x1 : Int32) (x2 : Int32) (x3 : Int32) (F : ST_F) (A : ST_A) (H : Heap) (locs : List Loc) (ls : Array Slot), lv_has ls 5 [(0, .ref (o 0)), (1, .int x1), (2, .int x2), (3, .int x3)] → va_P (dC, dI) vC (wM o cI F A) H → va_D (va_A (wM o cI Fa Aa) s.heap.size) (wM o cI F A) → va_S (va_A (wM o cI Fa Aa) s.heap.size) s.heap H locs → f_M_finish_J184 x1 x2 x3 F A = some (F9, A9) → W p l e (headSpec (Cond.code y_M_finish b_M_finish 5 none :: wA) ({ frames := 2, cells := 0, slots := 0, locals := 47 } : Room)).room s m ([.ref (o 0), .int u1] : List Value).toArray below meth c H locs 0 0 (MQ below (cc_Qv (dC, dI) vC [(cI, .int)] (wM o cI Fa Aa) s.heap.size (wM o cI F9 A9)) ([.ref (o 0), .int u1] : List Value).toArray s 0 0 (va_A (wM o cI Fa Aa) s.heap.size)) (F0 m 184 ls [.ref (o 0)]) := by
    intro x1 x2 x3 F A H locs ls hl hP hD hS hf
    unfold f_M_finish_J184 at hf
    refine lv_iconst (v := 1) hx hb d_M_finish_184 (by decide) ?_
    refine lv_goto (tgt := 189) hx hb d_M_finish_185 (by decide) ?_
    have hl : lv_has ls 5 [(0, .ref (o 0)), (1, .int x1), (2, .int x2), (3, .int x3)] := lv_sub hl [0, 1, 2, 3] rfl
    exact J189 x1 x2 x3 (1 : Int32) F A _ _ _ hl hP hD hS hf
  have J172 : ∀ (x1 : Int32) (x2 : Int32) (x3 : Int32) (F : ST_F) (A : ST_A) (H : Heap) (locs : List Loc) (ls : Array Slot), lv_has ls 5 [(0, .ref (o 0)), (1, .int x1), (2, .int x2), (3, .int x3)] → va_P (dC, dI) vC (wM o cI F A) H → va_D (va_A (wM o cI Fa Aa) s.heap.size) (wM o cI F A) → va_S (va_A (wM o cI Fa Aa) s.heap.size) s.heap H locs → f_M_finish_J172 x1 x2 x3 F A = some (F9, A9) → W p l e (headSpec (Cond.code y_M_finish b_M_finish 5 none :: wA) ({ frames := 2, cells := 0, slots := 0, locals := 47 } : Room)).room s m ([.ref (o 0), .int u1] : List Value).toArray below meth c H locs 0 0 (MQ below (cc_Qv (dC, dI) vC [(cI, .int)] (wM o cI Fa Aa) s.heap.size (wM o cI F9 A9)) ([.ref (o 0), .int u1] : List Value).toArray s 0 0 (va_A (wM o cI Fa Aa) s.heap.size)) (F0 m 172 ls []) := by
    intro x1 x2 x3 F A H locs ls hl hP hD hS hf
    unfold f_M_finish_J172 at hf
    refine lv_aload_n hx hb d_M_finish_172 rfl (lv_at hl 0 rfl) ?_
    refine lv_aload_n hx hb d_M_finish_173 rfl (lv_at hl 0 rfl) ?_
    refine va_get (D := (dC, dI)) (ci := 4) (v := .int (F 5)) (C := R_M) (T := T_M) (N := 29) hx hb hts in_M hown hK hP 0 rfl rfl 16 (by decide) (hts _ mw_519) (fun _ h9 => h9) rfl d_M_finish_174 ?_
    refine lv_if_ne (tgt := 184) hx hb d_M_finish_177 (by decide) (fun h177_10 => ?_) (fun h177_10 => ?_)
    · rw [if_neg h177_10] at hf
      have hl : lv_has ls 5 [(0, .ref (o 0)), (1, .int x1), (2, .int x2), (3, .int x3)] := lv_sub hl [0, 1, 2, 3] rfl
      exact J184 x1 x2 x3 F A _ _ _ hl hP hD hS hf
    · rw [if_pos h177_10] at hf
      refine lv_iload_n hx hb d_M_finish_180 rfl (lv_at hl 3 rfl) ?_
      refine lv_if_ne (tgt := 188) hx hb d_M_finish_181 (by decide) (fun h181_13 => ?_) (fun h181_13 => ?_)
      · rw [if_neg h181_13] at hf
        refine lv_iconst (v := 0) hx hb d_M_finish_188 (by decide) ?_
        have hl : lv_has ls 5 [(0, .ref (o 0)), (1, .int x1), (2, .int x2), (3, .int x3)] := lv_sub hl [0, 1, 2, 3] rfl
        exact J189 x1 x2 x3 (0 : Int32) F A _ _ _ hl hP hD hS hf
      · rw [if_pos h181_13] at hf
        have hl : lv_has ls 5 [(0, .ref (o 0)), (1, .int x1), (2, .int x2), (3, .int x3)] := lv_sub hl [0, 1, 2, 3] rfl
        exact J184 x1 x2 x3 F A _ _ _ hl hP hD hS hf
  have L62 : ∀ (n : Nat) (x1 : Int32) (x2 : Int32) (x3 : Int32) (F : ST_F) (A : ST_A) (H : Heap) (locs : List Loc) (ls : Array Slot), lv_has ls 5 [(0, .ref (o 0)), (1, .int x1), (2, .int x2), (3, .int x3)] → va_P (dC, dI) vC (wM o cI F A) H → va_D (va_A (wM o cI Fa Aa) s.heap.size) (wM o cI F A) → va_S (va_A (wM o cI Fa Aa) s.heap.size) s.heap H locs → f_M_finish_L62 n x1 x2 x3 F A = some (F9, A9) → W p l e (headSpec (Cond.code y_M_finish b_M_finish 5 none :: wA) ({ frames := 2, cells := 0, slots := 0, locals := 47 } : Room)).room s m ([.ref (o 0), .int u1] : List Value).toArray below meth c H locs 0 0 (MQ below (cc_Qv (dC, dI) vC [(cI, .int)] (wM o cI Fa Aa) s.heap.size (wM o cI F9 A9)) ([.ref (o 0), .int u1] : List Value).toArray s 0 0 (va_A (wM o cI Fa Aa) s.heap.size)) (F0 m 62 ls []) := by
    intro n
    induction n with
    | zero => intro x1 x2 x3 F A H locs ls hl hP hD hS hf; cases hf
    | succ n ih =>
      intro x1 x2 x3 F A H locs ls hl hP hD hS hf
      rw [f_M_finish_L62] at hf
      refine lv_aload_n hx hb d_M_finish_62 rfl (lv_at hl 0 rfl) ?_
      refine va_get (D := (dC, dI)) (ci := 4) (v := .int (F 5)) (C := R_M) (T := T_M) (N := 29) hx hb hts in_M hown hK hP 0 rfl rfl 16 (by decide) (hts _ mw_519) (fun _ h9 => h9) rfl d_M_finish_63 ?_
      refine lv_if_ne (tgt := 172) hx hb d_M_finish_66 (by decide) (fun h66_9 => ?_) (fun h66_9 => ?_)
      · rw [if_neg h66_9] at hf
        have hl : lv_has ls 5 [(0, .ref (o 0)), (1, .int x1), (2, .int x2), (3, .int x3)] := lv_sub hl [0, 1, 2, 3] rfl
        exact J172 x1 x2 x3 F A _ _ _ hl hP hD hS hf
      · rw [if_pos h66_9] at hf
        refine lv_iload_n hx hb d_M_finish_69 rfl (lv_at hl 3 rfl) ?_
        refine lv_iconst (v := 3) hx hb d_M_finish_70 (by decide) ?_
        refine lv_icmp_ge (tgt := 172) hx hb d_M_finish_71 (by decide) (fun h71_14 => ?_) (fun h71_14 => ?_)
        · rw [if_pos h71_14] at hf
          have hl : lv_has ls 5 [(0, .ref (o 0)), (1, .int x1), (2, .int x2), (3, .int x3)] := lv_sub hl [0, 1, 2, 3] rfl
          exact J172 x1 x2 x3 F A _ _ _ hl hP hD hS hf
        · rw [if_neg h71_14] at hf
          refine lv_aload_n hx hb d_M_finish_74 rfl (lv_at hl 0 rfl) ?_
          refine lv_aload_n hx hb d_M_finish_75 rfl (lv_at hl 0 rfl) ?_
          refine va_get (D := (dC, dI)) (ci := 4) (v := .int (F 4)) (C := R_M) (T := T_M) (N := 29) hx hb hts in_M hown hK hP 0 rfl rfl 15 (by decide) (hts _ mw_518) (fun _ h9 => h9) rfl d_M_finish_76 ?_
          have hP : va_P (dC, dI) vC (wM o cI F A) H := hP
          have hD : va_D (va_A (wM o cI Fa Aa) s.heap.size) (wM o cI F A) := hD
          obtain ⟨r15, F15, A15, hc, hf⟩ := ra_bi_some hf
          refine cc_calli (va_runV (As := [.int (F 4)]) (rest := []) ⟨hx, hb, hml, hown, hts⟩ (k_M_look l dC dI o cI H.size F A (F 4) r15 F15 A15 hc) (cw_V 1 hts mw_611 mw_613 ms_M_look mw_5 mw_614 rfl rfl rfl hd_M_look ⟨Nat.le_of_ble_eq_true rfl, Nat.le_of_ble_eq_true rfl⟩) (cc_preV hK hP hD rfl (q0 := 0) rfl) rfl rfl hl.1 rfl (lv_room (Nat.le_of_ble_eq_true rfl)) d_M_finish_79 ⟨Nat.zero_le _, Nat.zero_le _⟩) hD hS hA (fun H locs hP hD hS => ?_)
          refine lv_bipush (v := 120) hx hb d_M_finish_82 (by decide) ?_
          refine lv_icmp_lt (tgt := 172) hx hb d_M_finish_84 (by decide) (fun h84_16 => ?_) (fun h84_16 => ?_)
          · rw [if_pos h84_16] at hf
            have hl : lv_has ls 5 [(0, .ref (o 0)), (1, .int x1), (2, .int x2), (3, .int x3)] := lv_sub hl [0, 1, 2, 3] rfl
            exact J172 x1 x2 x3 F15 A15 _ _ _ hl hP hD hS hf
          · rw [if_neg h84_16] at hf
            refine lv_aload_n hx hb d_M_finish_87 rfl (lv_at hl 0 rfl) ?_
            refine lv_aload_n hx hb d_M_finish_88 rfl (lv_at hl 0 rfl) ?_
            refine va_get (D := (dC, dI)) (ci := 4) (v := .int (F15 4)) (C := R_M) (T := T_M) (N := 29) hx hb hts in_M hown hK hP 0 rfl rfl 15 (by decide) (hts _ mw_518) (fun _ h9 => h9) rfl d_M_finish_89 ?_
            have hP : va_P (dC, dI) vC (wM o cI F15 A15) H := hP
            have hD : va_D (va_A (wM o cI Fa Aa) s.heap.size) (wM o cI F15 A15) := hD
            obtain ⟨r17, F17, A17, hc, hf⟩ := ra_bi_some hf
            refine cc_calli (va_runV (As := [.int (F15 4)]) (rest := []) ⟨hx, hb, hml, hown, hts⟩ (k_M_look l dC dI o cI H.size F15 A15 (F15 4) r17 F17 A17 hc) (cw_V 1 hts mw_611 mw_613 ms_M_look mw_5 mw_614 rfl rfl rfl hd_M_look ⟨Nat.le_of_ble_eq_true rfl, Nat.le_of_ble_eq_true rfl⟩) (cc_preV hK hP hD rfl (q0 := 0) rfl) rfl rfl hl.1 rfl (lv_room (Nat.le_of_ble_eq_true rfl)) d_M_finish_92 ⟨Nat.zero_le _, Nat.zero_le _⟩) hD hS hA (fun H locs hP hD hS => ?_)
            refine lv_bipush (v := 122) hx hb d_M_finish_95 (by decide) ?_
            refine lv_icmp_gt (tgt := 172) hx hb d_M_finish_97 (by decide) (fun h97_18 => ?_) (fun h97_18 => ?_)
            · rw [if_pos h97_18] at hf
              have hl : lv_has ls 5 [(0, .ref (o 0)), (1, .int x1), (2, .int x2), (3, .int x3)] := lv_sub hl [0, 1, 2, 3] rfl
              exact J172 x1 x2 x3 F17 A17 _ _ _ hl hP hD hS hf
            · rw [if_neg h97_18] at hf
              refine lv_aload_n hx hb d_M_finish_100 rfl (lv_at hl 0 rfl) ?_
              refine lv_aload_n hx hb d_M_finish_101 rfl (lv_at hl 0 rfl) ?_
              refine va_get (D := (dC, dI)) (ci := 4) (v := .int (F17 4)) (C := R_M) (T := T_M) (N := 29) hx hb hts in_M hown hK hP 0 rfl rfl 15 (by decide) (hts _ mw_518) (fun _ h9 => h9) rfl d_M_finish_102 ?_
              have hP : va_P (dC, dI) vC (wM o cI F17 A17) H := hP
              have hD : va_D (va_A (wM o cI Fa Aa) s.heap.size) (wM o cI F17 A17) := hD
              obtain ⟨r19, F19, A19, hc, hf⟩ := ra_bi_some hf
              refine cc_calli (va_runV (As := [.int (F17 4)]) (rest := []) ⟨hx, hb, hml, hown, hts⟩ (k_M_look l dC dI o cI H.size F17 A17 (F17 4) r19 F19 A19 hc) (cw_V 1 hts mw_611 mw_613 ms_M_look mw_5 mw_614 rfl rfl rfl hd_M_look ⟨Nat.le_of_ble_eq_true rfl, Nat.le_of_ble_eq_true rfl⟩) (cc_preV hK hP hD rfl (q0 := 0) rfl) rfl rfl hl.1 rfl (lv_room (Nat.le_of_ble_eq_true rfl)) d_M_finish_105 ⟨Nat.zero_le _, Nat.zero_le _⟩) hD hS hA (fun H locs hP hD hS => ?_)
              refine lv_bipush (v := 120) hx hb d_M_finish_108 (by decide) ?_
              refine lv_isub hx hb d_M_finish_110 ?_
              refine lv_istore hx hb d_M_finish_111 hl (by decide) rfl (fun ls hl => ?_)
              have hl : lv_has ls 5 [(4, .int (r19 - (120 : Int32))), (0, .ref (o 0)), (1, .int x1), (2, .int x2), (3, .int x3)] := hl
              refine lv_aload_n hx hb d_M_finish_113 rfl (lv_at hl 1 rfl) ?_
              refine lv_iload hx hb d_M_finish_114 (lv_at hl 0 rfl) ?_
              refine lv_aload_n hx hb d_M_finish_116 rfl (lv_at hl 1 rfl) ?_
              refine va_get (D := (dC, dI)) (ci := 4) (v := .ref (o 12)) (C := R_M) (T := T_M) (N := 29) hx hb hts in_M hown hK hP 0 rfl rfl 18 (by decide) (hts _ mw_521) (fun _ h9 => h9) rfl d_M_finish_117 ?_
              refine lv_iload_n hx hb d_M_finish_120 rfl (lv_at hl 3 rfl) ?_
              obtain ⟨hi, hf⟩ := ra_g_some hf
              refine va_iald hx hb hK hP 12 0 rfl rfl hi d_M_finish_121 ?_
              refine lv_icmp_lt (tgt := 129) hx hb d_M_finish_122 (by decide) (fun h122_20 => ?_) (fun h122_20 => ?_)
              · rw [if_pos h122_20] at hf
                refine lv_iconst (v := 0) hx hb d_M_finish_129 (by decide) ?_
                refine va_put (D := (dC, dI)) (ci := 4) (v := .int (0 : Int32)) (ty := .boolean) (C := R_M) (T := T_M) (N := 29) hx hb hts in_M ty_M ty_M_ok nm_M hown hK hP hD hS 0 rfl rfl 16 (by decide) (hts _ mw_519) (fun _ h9 => h9) rfl (by decide +kernel) rfl rfl (Nat.le_of_ble_eq_true rfl) d_M_finish_130 (fun H locs hP hD hS => ?_)
                have hP : va_P (dC, dI) vC [((o 0), .inr (4, [.int (F19 0), .int (F19 1), .ref (o 1), .int (F19 2), .ref (o 2), .ref (o 3), .ref (o 4), .ref (o 5), .ref (o 6), .int (F19 3), .ref (o 7), .ref (o 8), .ref (o 9), .ref (o 10), .ref (o 11), .int (F19 4), .int (0 : Int32), .int (F19 6), .ref (o 12), .ref (o 13), .int (F19 7), .ref (o 14), .ref (o 15), .int (F19 8), .int (F19 9), .ref (o 16), .ref (o 17), .ref (o 18), .ref (o 19)])), ((o 1), .inl (cI, 160, .inl (A19 0))), ((o 2), .inl (cI, 100, .inl (A19 1))), ((o 3), .inl (cI, 100, .inl (A19 2))), ((o 4), .inl (cI, 100, .inl (A19 3))), ((o 5), .inl (cI, 3, .inl (A19 4))), ((o 6), .inl (cI, 26, .inl (A19 5))), ((o 7), .inl (cI, 100, .inl (A19 6))), ((o 8), .inl (cI, 100, .inl (A19 7))), ((o 9), .inl (cI, 100, .inl (A19 8))), ((o 10), .inl (cI, 26, .inl (A19 9))), ((o 11), .inl (cI, 104, .inl (A19 10))), ((o 12), .inl (cI, 80, .inl (A19 11))), ((o 13), .inl (cI, 320, .inl (A19 12))), ((o 14), .inl (cI, 200, .inl (A19 13))), ((o 15), .inl (cI, 200, .inl (A19 14))), ((o 16), .inl (cI, 4, .inl (A19 15))), ((o 17), .inl (cI, 32, .inl (A19 16))), ((o 18), .inl (cI, 32, .inl (A19 17))), ((o 19), .inl (cI, 100, .inl (A19 18)))] H := hP
                have hD : va_D (va_A (wM o cI Fa Aa) s.heap.size) [((o 0), .inr (4, [.int (F19 0), .int (F19 1), .ref (o 1), .int (F19 2), .ref (o 2), .ref (o 3), .ref (o 4), .ref (o 5), .ref (o 6), .int (F19 3), .ref (o 7), .ref (o 8), .ref (o 9), .ref (o 10), .ref (o 11), .int (F19 4), .int (0 : Int32), .int (F19 6), .ref (o 12), .ref (o 13), .int (F19 7), .ref (o 14), .ref (o 15), .int (F19 8), .int (F19 9), .ref (o 16), .ref (o 17), .ref (o 18), .ref (o 19)])), ((o 1), .inl (cI, 160, .inl (A19 0))), ((o 2), .inl (cI, 100, .inl (A19 1))), ((o 3), .inl (cI, 100, .inl (A19 2))), ((o 4), .inl (cI, 100, .inl (A19 3))), ((o 5), .inl (cI, 3, .inl (A19 4))), ((o 6), .inl (cI, 26, .inl (A19 5))), ((o 7), .inl (cI, 100, .inl (A19 6))), ((o 8), .inl (cI, 100, .inl (A19 7))), ((o 9), .inl (cI, 100, .inl (A19 8))), ((o 10), .inl (cI, 26, .inl (A19 9))), ((o 11), .inl (cI, 104, .inl (A19 10))), ((o 12), .inl (cI, 80, .inl (A19 11))), ((o 13), .inl (cI, 320, .inl (A19 12))), ((o 14), .inl (cI, 200, .inl (A19 13))), ((o 15), .inl (cI, 200, .inl (A19 14))), ((o 16), .inl (cI, 4, .inl (A19 15))), ((o 17), .inl (cI, 32, .inl (A19 16))), ((o 18), .inl (cI, 32, .inl (A19 17))), ((o 19), .inl (cI, 100, .inl (A19 18)))] := hD
                refine lv_aload_n hx hb d_M_finish_133 rfl (lv_at hl 1 rfl) ?_
                refine va_get (D := (dC, dI)) (ci := 4) (v := .ref (o 16)) (C := R_M) (T := T_M) (N := 29) hx hb hts in_M hown hK hP 0 rfl rfl 25 (by decide) (hts _ mw_528) (fun _ h9 => h9) rfl d_M_finish_134 ?_
                refine lv_iload_n hx hb d_M_finish_137 rfl (lv_at hl 4 rfl) ?_
                refine lv_aload_n hx hb d_M_finish_138 rfl (lv_at hl 1 rfl) ?_
                refine lv_iload_n hx hb d_M_finish_139 rfl (lv_at hl 3 rfl) ?_
                refine lv_iload hx hb d_M_finish_140 (lv_at hl 0 rfl) ?_
                refine lv_iconst (v := 3) hx hb d_M_finish_142 (by decide) ?_
                refine lv_icmp_ge (tgt := 151) hx hb d_M_finish_143 (by decide) (fun h143_21 => ?_) (fun h143_21 => ?_)
                · rw [if_pos h143_21] at hf
                  refine lv_iconst (v := 0) hx hb d_M_finish_151 (by decide) ?_
                  have hP : va_P (dC, dI) vC (wM o cI (upd F19 5 (0 : Int32)) A19) H := hP
                  have hD : va_D (va_A (wM o cI Fa Aa) s.heap.size) (wM o cI (upd F19 5 (0 : Int32)) A19) := hD
                  obtain ⟨r22, F22, A22, hc, hf⟩ := ra_bi_some hf
                  refine cc_calli (va_runV (As := [.int x2, .int (0 : Int32)]) (rest := [.int x3, .ref (o 16)]) ⟨hx, hb, hml, hown, hts⟩ (k_M_number l dC dI o cI H.size (upd F19 5 (0 : Int32)) A19 x2 (0 : Int32) r22 F22 A22 hc) (cw_V 2 hts mw_648 mw_650 ms_M_number mw_5 mw_651 rfl rfl rfl hd_M_number ⟨Nat.le_of_ble_eq_true rfl, Nat.le_of_ble_eq_true rfl⟩) (cc_preV hK hP hD rfl (q0 := 0) rfl) rfl rfl hl.1 rfl (lv_room (Nat.le_of_ble_eq_true rfl)) d_M_finish_152 ⟨Nat.zero_le _, Nat.zero_le _⟩) hD hS hA (fun H locs hP hD hS => ?_)
                  obtain ⟨hi, hf⟩ := ra_g_some hf
                  refine va_iast hx hb hK hP hD hS 16 0 rfl rfl hi d_M_finish_155 (fun H locs hP hD hS => ?_)
                  have hP : va_P (dC, dI) vC [((o 0), .inr (4, [.int (F22 0), .int (F22 1), .ref (o 1), .int (F22 2), .ref (o 2), .ref (o 3), .ref (o 4), .ref (o 5), .ref (o 6), .int (F22 3), .ref (o 7), .ref (o 8), .ref (o 9), .ref (o 10), .ref (o 11), .int (F22 4), .int (F22 5), .int (F22 6), .ref (o 12), .ref (o 13), .int (F22 7), .ref (o 14), .ref (o 15), .int (F22 8), .int (F22 9), .ref (o 16), .ref (o 17), .ref (o 18), .ref (o 19)])), ((o 1), .inl (cI, 160, .inl (A22 0))), ((o 2), .inl (cI, 100, .inl (A22 1))), ((o 3), .inl (cI, 100, .inl (A22 2))), ((o 4), .inl (cI, 100, .inl (A22 3))), ((o 5), .inl (cI, 3, .inl (A22 4))), ((o 6), .inl (cI, 26, .inl (A22 5))), ((o 7), .inl (cI, 100, .inl (A22 6))), ((o 8), .inl (cI, 100, .inl (A22 7))), ((o 9), .inl (cI, 100, .inl (A22 8))), ((o 10), .inl (cI, 26, .inl (A22 9))), ((o 11), .inl (cI, 104, .inl (A22 10))), ((o 12), .inl (cI, 80, .inl (A22 11))), ((o 13), .inl (cI, 320, .inl (A22 12))), ((o 14), .inl (cI, 200, .inl (A22 13))), ((o 15), .inl (cI, 200, .inl (A22 14))), ((o 16), .inl (cI, 4, .inl (upd (A22 15) x3.toNatClampNeg r22))), ((o 17), .inl (cI, 32, .inl (A22 16))), ((o 18), .inl (cI, 32, .inl (A22 17))), ((o 19), .inl (cI, 100, .inl (A22 18)))] H := hP
                  have hD : va_D (va_A (wM o cI Fa Aa) s.heap.size) [((o 0), .inr (4, [.int (F22 0), .int (F22 1), .ref (o 1), .int (F22 2), .ref (o 2), .ref (o 3), .ref (o 4), .ref (o 5), .ref (o 6), .int (F22 3), .ref (o 7), .ref (o 8), .ref (o 9), .ref (o 10), .ref (o 11), .int (F22 4), .int (F22 5), .int (F22 6), .ref (o 12), .ref (o 13), .int (F22 7), .ref (o 14), .ref (o 15), .int (F22 8), .int (F22 9), .ref (o 16), .ref (o 17), .ref (o 18), .ref (o 19)])), ((o 1), .inl (cI, 160, .inl (A22 0))), ((o 2), .inl (cI, 100, .inl (A22 1))), ((o 3), .inl (cI, 100, .inl (A22 2))), ((o 4), .inl (cI, 100, .inl (A22 3))), ((o 5), .inl (cI, 3, .inl (A22 4))), ((o 6), .inl (cI, 26, .inl (A22 5))), ((o 7), .inl (cI, 100, .inl (A22 6))), ((o 8), .inl (cI, 100, .inl (A22 7))), ((o 9), .inl (cI, 100, .inl (A22 8))), ((o 10), .inl (cI, 26, .inl (A22 9))), ((o 11), .inl (cI, 104, .inl (A22 10))), ((o 12), .inl (cI, 80, .inl (A22 11))), ((o 13), .inl (cI, 320, .inl (A22 12))), ((o 14), .inl (cI, 200, .inl (A22 13))), ((o 15), .inl (cI, 200, .inl (A22 14))), ((o 16), .inl (cI, 4, .inl (upd (A22 15) x3.toNatClampNeg r22))), ((o 17), .inl (cI, 32, .inl (A22 16))), ((o 18), .inl (cI, 32, .inl (A22 17))), ((o 19), .inl (cI, 100, .inl (A22 18)))] := hD
                  refine lv_iinc (k := 4) (v := (x3 + (1 : Int32))) hx hb d_M_finish_156 hl rfl (by rfl) (by decide) rfl (fun ls hl => ?_)
                  have hl : lv_has ls 5 [(3, .int (x3 + (1 : Int32))), (4, .int (r19 - (120 : Int32))), (0, .ref (o 0)), (1, .int x1), (2, .int x2)] := hl
                  refine lv_aload_n hx hb d_M_finish_159 rfl (lv_at hl 2 rfl) ?_
                  refine lv_dup hx hb d_M_finish_160 rfl ?_
                  refine va_get (D := (dC, dI)) (ci := 4) (v := .int (F22 4)) (C := R_M) (T := T_M) (N := 29) hx hb hts in_M hown hK hP 0 rfl rfl 15 (by decide) (hts _ mw_518) (fun _ h9 => h9) rfl d_M_finish_161 ?_
                  refine lv_iconst (v := 1) hx hb d_M_finish_164 (by decide) ?_
                  refine lv_iadd hx hb d_M_finish_165 ?_
                  refine va_put (D := (dC, dI)) (ci := 4) (v := .int ((F22 4) + (1 : Int32))) (ty := .int) (C := R_M) (T := T_M) (N := 29) hx hb hts in_M ty_M ty_M_ok nm_M hown hK hP hD hS 0 rfl rfl 15 (by decide) (hts _ mw_518) (fun _ h9 => h9) rfl (by decide +kernel) rfl rfl (Nat.le_of_ble_eq_true rfl) d_M_finish_166 (fun H locs hP hD hS => ?_)
                  have hP : va_P (dC, dI) vC [((o 0), .inr (4, [.int (F22 0), .int (F22 1), .ref (o 1), .int (F22 2), .ref (o 2), .ref (o 3), .ref (o 4), .ref (o 5), .ref (o 6), .int (F22 3), .ref (o 7), .ref (o 8), .ref (o 9), .ref (o 10), .ref (o 11), .int ((F22 4) + (1 : Int32)), .int (F22 5), .int (F22 6), .ref (o 12), .ref (o 13), .int (F22 7), .ref (o 14), .ref (o 15), .int (F22 8), .int (F22 9), .ref (o 16), .ref (o 17), .ref (o 18), .ref (o 19)])), ((o 1), .inl (cI, 160, .inl (A22 0))), ((o 2), .inl (cI, 100, .inl (A22 1))), ((o 3), .inl (cI, 100, .inl (A22 2))), ((o 4), .inl (cI, 100, .inl (A22 3))), ((o 5), .inl (cI, 3, .inl (A22 4))), ((o 6), .inl (cI, 26, .inl (A22 5))), ((o 7), .inl (cI, 100, .inl (A22 6))), ((o 8), .inl (cI, 100, .inl (A22 7))), ((o 9), .inl (cI, 100, .inl (A22 8))), ((o 10), .inl (cI, 26, .inl (A22 9))), ((o 11), .inl (cI, 104, .inl (A22 10))), ((o 12), .inl (cI, 80, .inl (A22 11))), ((o 13), .inl (cI, 320, .inl (A22 12))), ((o 14), .inl (cI, 200, .inl (A22 13))), ((o 15), .inl (cI, 200, .inl (A22 14))), ((o 16), .inl (cI, 4, .inl (upd (A22 15) x3.toNatClampNeg r22))), ((o 17), .inl (cI, 32, .inl (A22 16))), ((o 18), .inl (cI, 32, .inl (A22 17))), ((o 19), .inl (cI, 100, .inl (A22 18)))] H := hP
                  have hD : va_D (va_A (wM o cI Fa Aa) s.heap.size) [((o 0), .inr (4, [.int (F22 0), .int (F22 1), .ref (o 1), .int (F22 2), .ref (o 2), .ref (o 3), .ref (o 4), .ref (o 5), .ref (o 6), .int (F22 3), .ref (o 7), .ref (o 8), .ref (o 9), .ref (o 10), .ref (o 11), .int ((F22 4) + (1 : Int32)), .int (F22 5), .int (F22 6), .ref (o 12), .ref (o 13), .int (F22 7), .ref (o 14), .ref (o 15), .int (F22 8), .int (F22 9), .ref (o 16), .ref (o 17), .ref (o 18), .ref (o 19)])), ((o 1), .inl (cI, 160, .inl (A22 0))), ((o 2), .inl (cI, 100, .inl (A22 1))), ((o 3), .inl (cI, 100, .inl (A22 2))), ((o 4), .inl (cI, 100, .inl (A22 3))), ((o 5), .inl (cI, 3, .inl (A22 4))), ((o 6), .inl (cI, 26, .inl (A22 5))), ((o 7), .inl (cI, 100, .inl (A22 6))), ((o 8), .inl (cI, 100, .inl (A22 7))), ((o 9), .inl (cI, 100, .inl (A22 8))), ((o 10), .inl (cI, 26, .inl (A22 9))), ((o 11), .inl (cI, 104, .inl (A22 10))), ((o 12), .inl (cI, 80, .inl (A22 11))), ((o 13), .inl (cI, 320, .inl (A22 12))), ((o 14), .inl (cI, 200, .inl (A22 13))), ((o 15), .inl (cI, 200, .inl (A22 14))), ((o 16), .inl (cI, 4, .inl (upd (A22 15) x3.toNatClampNeg r22))), ((o 17), .inl (cI, 32, .inl (A22 16))), ((o 18), .inl (cI, 32, .inl (A22 17))), ((o 19), .inl (cI, 100, .inl (A22 18)))] := hD
                  refine lv_goto (tgt := 62) hx hb d_M_finish_169 (by decide) ?_
                  have hl : lv_has ls 5 [(0, .ref (o 0)), (1, .int x1), (2, .int x2), (3, .int (x3 + (1 : Int32)))] := lv_sub hl [2, 3, 4, 0] rfl
                  exact ih x1 x2 (x3 + (1 : Int32)) (upd F22 4 ((F22 4) + (1 : Int32))) (va_up A22 15 (upd (A22 15) x3.toNatClampNeg r22)) _ _ _ hl hP hD hS hf
                · rw [if_neg h143_21] at hf
                  refine lv_iload hx hb d_M_finish_146 (lv_at hl 0 rfl) ?_
                  refine lv_goto (tgt := 152) hx hb d_M_finish_148 (by decide) ?_
                  have hP : va_P (dC, dI) vC (wM o cI (upd F19 5 (0 : Int32)) A19) H := hP
                  have hD : va_D (va_A (wM o cI Fa Aa) s.heap.size) (wM o cI (upd F19 5 (0 : Int32)) A19) := hD
                  obtain ⟨r23, F23, A23, hc, hf⟩ := ra_bi_some hf
                  refine cc_calli (va_runV (As := [.int x2, .int (r19 - (120 : Int32))]) (rest := [.int x3, .ref (o 16)]) ⟨hx, hb, hml, hown, hts⟩ (k_M_number l dC dI o cI H.size (upd F19 5 (0 : Int32)) A19 x2 (r19 - (120 : Int32)) r23 F23 A23 hc) (cw_V 2 hts mw_648 mw_650 ms_M_number mw_5 mw_651 rfl rfl rfl hd_M_number ⟨Nat.le_of_ble_eq_true rfl, Nat.le_of_ble_eq_true rfl⟩) (cc_preV hK hP hD rfl (q0 := 0) rfl) rfl rfl hl.1 rfl (lv_room (Nat.le_of_ble_eq_true rfl)) d_M_finish_152 ⟨Nat.zero_le _, Nat.zero_le _⟩) hD hS hA (fun H locs hP hD hS => ?_)
                  obtain ⟨hi, hf⟩ := ra_g_some hf
                  refine va_iast hx hb hK hP hD hS 16 0 rfl rfl hi d_M_finish_155 (fun H locs hP hD hS => ?_)
                  have hP : va_P (dC, dI) vC [((o 0), .inr (4, [.int (F23 0), .int (F23 1), .ref (o 1), .int (F23 2), .ref (o 2), .ref (o 3), .ref (o 4), .ref (o 5), .ref (o 6), .int (F23 3), .ref (o 7), .ref (o 8), .ref (o 9), .ref (o 10), .ref (o 11), .int (F23 4), .int (F23 5), .int (F23 6), .ref (o 12), .ref (o 13), .int (F23 7), .ref (o 14), .ref (o 15), .int (F23 8), .int (F23 9), .ref (o 16), .ref (o 17), .ref (o 18), .ref (o 19)])), ((o 1), .inl (cI, 160, .inl (A23 0))), ((o 2), .inl (cI, 100, .inl (A23 1))), ((o 3), .inl (cI, 100, .inl (A23 2))), ((o 4), .inl (cI, 100, .inl (A23 3))), ((o 5), .inl (cI, 3, .inl (A23 4))), ((o 6), .inl (cI, 26, .inl (A23 5))), ((o 7), .inl (cI, 100, .inl (A23 6))), ((o 8), .inl (cI, 100, .inl (A23 7))), ((o 9), .inl (cI, 100, .inl (A23 8))), ((o 10), .inl (cI, 26, .inl (A23 9))), ((o 11), .inl (cI, 104, .inl (A23 10))), ((o 12), .inl (cI, 80, .inl (A23 11))), ((o 13), .inl (cI, 320, .inl (A23 12))), ((o 14), .inl (cI, 200, .inl (A23 13))), ((o 15), .inl (cI, 200, .inl (A23 14))), ((o 16), .inl (cI, 4, .inl (upd (A23 15) x3.toNatClampNeg r23))), ((o 17), .inl (cI, 32, .inl (A23 16))), ((o 18), .inl (cI, 32, .inl (A23 17))), ((o 19), .inl (cI, 100, .inl (A23 18)))] H := hP
                  have hD : va_D (va_A (wM o cI Fa Aa) s.heap.size) [((o 0), .inr (4, [.int (F23 0), .int (F23 1), .ref (o 1), .int (F23 2), .ref (o 2), .ref (o 3), .ref (o 4), .ref (o 5), .ref (o 6), .int (F23 3), .ref (o 7), .ref (o 8), .ref (o 9), .ref (o 10), .ref (o 11), .int (F23 4), .int (F23 5), .int (F23 6), .ref (o 12), .ref (o 13), .int (F23 7), .ref (o 14), .ref (o 15), .int (F23 8), .int (F23 9), .ref (o 16), .ref (o 17), .ref (o 18), .ref (o 19)])), ((o 1), .inl (cI, 160, .inl (A23 0))), ((o 2), .inl (cI, 100, .inl (A23 1))), ((o 3), .inl (cI, 100, .inl (A23 2))), ((o 4), .inl (cI, 100, .inl (A23 3))), ((o 5), .inl (cI, 3, .inl (A23 4))), ((o 6), .inl (cI, 26, .inl (A23 5))), ((o 7), .inl (cI, 100, .inl (A23 6))), ((o 8), .inl (cI, 100, .inl (A23 7))), ((o 9), .inl (cI, 100, .inl (A23 8))), ((o 10), .inl (cI, 26, .inl (A23 9))), ((o 11), .inl (cI, 104, .inl (A23 10))), ((o 12), .inl (cI, 80, .inl (A23 11))), ((o 13), .inl (cI, 320, .inl (A23 12))), ((o 14), .inl (cI, 200, .inl (A23 13))), ((o 15), .inl (cI, 200, .inl (A23 14))), ((o 16), .inl (cI, 4, .inl (upd (A23 15) x3.toNatClampNeg r23))), ((o 17), .inl (cI, 32, .inl (A23 16))), ((o 18), .inl (cI, 32, .inl (A23 17))), ((o 19), .inl (cI, 100, .inl (A23 18)))] := hD
                  refine lv_iinc (k := 4) (v := (x3 + (1 : Int32))) hx hb d_M_finish_156 hl rfl (by rfl) (by decide) rfl (fun ls hl => ?_)
                  have hl : lv_has ls 5 [(3, .int (x3 + (1 : Int32))), (4, .int (r19 - (120 : Int32))), (0, .ref (o 0)), (1, .int x1), (2, .int x2)] := hl
                  refine lv_aload_n hx hb d_M_finish_159 rfl (lv_at hl 2 rfl) ?_
                  refine lv_dup hx hb d_M_finish_160 rfl ?_
                  refine va_get (D := (dC, dI)) (ci := 4) (v := .int (F23 4)) (C := R_M) (T := T_M) (N := 29) hx hb hts in_M hown hK hP 0 rfl rfl 15 (by decide) (hts _ mw_518) (fun _ h9 => h9) rfl d_M_finish_161 ?_
                  refine lv_iconst (v := 1) hx hb d_M_finish_164 (by decide) ?_
                  refine lv_iadd hx hb d_M_finish_165 ?_
                  refine va_put (D := (dC, dI)) (ci := 4) (v := .int ((F23 4) + (1 : Int32))) (ty := .int) (C := R_M) (T := T_M) (N := 29) hx hb hts in_M ty_M ty_M_ok nm_M hown hK hP hD hS 0 rfl rfl 15 (by decide) (hts _ mw_518) (fun _ h9 => h9) rfl (by decide +kernel) rfl rfl (Nat.le_of_ble_eq_true rfl) d_M_finish_166 (fun H locs hP hD hS => ?_)
                  have hP : va_P (dC, dI) vC [((o 0), .inr (4, [.int (F23 0), .int (F23 1), .ref (o 1), .int (F23 2), .ref (o 2), .ref (o 3), .ref (o 4), .ref (o 5), .ref (o 6), .int (F23 3), .ref (o 7), .ref (o 8), .ref (o 9), .ref (o 10), .ref (o 11), .int ((F23 4) + (1 : Int32)), .int (F23 5), .int (F23 6), .ref (o 12), .ref (o 13), .int (F23 7), .ref (o 14), .ref (o 15), .int (F23 8), .int (F23 9), .ref (o 16), .ref (o 17), .ref (o 18), .ref (o 19)])), ((o 1), .inl (cI, 160, .inl (A23 0))), ((o 2), .inl (cI, 100, .inl (A23 1))), ((o 3), .inl (cI, 100, .inl (A23 2))), ((o 4), .inl (cI, 100, .inl (A23 3))), ((o 5), .inl (cI, 3, .inl (A23 4))), ((o 6), .inl (cI, 26, .inl (A23 5))), ((o 7), .inl (cI, 100, .inl (A23 6))), ((o 8), .inl (cI, 100, .inl (A23 7))), ((o 9), .inl (cI, 100, .inl (A23 8))), ((o 10), .inl (cI, 26, .inl (A23 9))), ((o 11), .inl (cI, 104, .inl (A23 10))), ((o 12), .inl (cI, 80, .inl (A23 11))), ((o 13), .inl (cI, 320, .inl (A23 12))), ((o 14), .inl (cI, 200, .inl (A23 13))), ((o 15), .inl (cI, 200, .inl (A23 14))), ((o 16), .inl (cI, 4, .inl (upd (A23 15) x3.toNatClampNeg r23))), ((o 17), .inl (cI, 32, .inl (A23 16))), ((o 18), .inl (cI, 32, .inl (A23 17))), ((o 19), .inl (cI, 100, .inl (A23 18)))] H := hP
                  have hD : va_D (va_A (wM o cI Fa Aa) s.heap.size) [((o 0), .inr (4, [.int (F23 0), .int (F23 1), .ref (o 1), .int (F23 2), .ref (o 2), .ref (o 3), .ref (o 4), .ref (o 5), .ref (o 6), .int (F23 3), .ref (o 7), .ref (o 8), .ref (o 9), .ref (o 10), .ref (o 11), .int ((F23 4) + (1 : Int32)), .int (F23 5), .int (F23 6), .ref (o 12), .ref (o 13), .int (F23 7), .ref (o 14), .ref (o 15), .int (F23 8), .int (F23 9), .ref (o 16), .ref (o 17), .ref (o 18), .ref (o 19)])), ((o 1), .inl (cI, 160, .inl (A23 0))), ((o 2), .inl (cI, 100, .inl (A23 1))), ((o 3), .inl (cI, 100, .inl (A23 2))), ((o 4), .inl (cI, 100, .inl (A23 3))), ((o 5), .inl (cI, 3, .inl (A23 4))), ((o 6), .inl (cI, 26, .inl (A23 5))), ((o 7), .inl (cI, 100, .inl (A23 6))), ((o 8), .inl (cI, 100, .inl (A23 7))), ((o 9), .inl (cI, 100, .inl (A23 8))), ((o 10), .inl (cI, 26, .inl (A23 9))), ((o 11), .inl (cI, 104, .inl (A23 10))), ((o 12), .inl (cI, 80, .inl (A23 11))), ((o 13), .inl (cI, 320, .inl (A23 12))), ((o 14), .inl (cI, 200, .inl (A23 13))), ((o 15), .inl (cI, 200, .inl (A23 14))), ((o 16), .inl (cI, 4, .inl (upd (A23 15) x3.toNatClampNeg r23))), ((o 17), .inl (cI, 32, .inl (A23 16))), ((o 18), .inl (cI, 32, .inl (A23 17))), ((o 19), .inl (cI, 100, .inl (A23 18)))] := hD
                  refine lv_goto (tgt := 62) hx hb d_M_finish_169 (by decide) ?_
                  have hl : lv_has ls 5 [(0, .ref (o 0)), (1, .int x1), (2, .int x2), (3, .int (x3 + (1 : Int32)))] := lv_sub hl [2, 3, 4, 0] rfl
                  exact ih x1 x2 (x3 + (1 : Int32)) (upd F23 4 ((F23 4) + (1 : Int32))) (va_up A23 15 (upd (A23 15) x3.toNatClampNeg r23)) _ _ _ hl hP hD hS hf
              · rw [if_neg h122_20] at hf
                refine lv_iconst (v := 1) hx hb d_M_finish_125 (by decide) ?_
                refine lv_goto (tgt := 130) hx hb d_M_finish_126 (by decide) ?_
                refine va_put (D := (dC, dI)) (ci := 4) (v := .int (1 : Int32)) (ty := .boolean) (C := R_M) (T := T_M) (N := 29) hx hb hts in_M ty_M ty_M_ok nm_M hown hK hP hD hS 0 rfl rfl 16 (by decide) (hts _ mw_519) (fun _ h9 => h9) rfl (by decide +kernel) rfl rfl (Nat.le_of_ble_eq_true rfl) d_M_finish_130 (fun H locs hP hD hS => ?_)
                have hP : va_P (dC, dI) vC [((o 0), .inr (4, [.int (F19 0), .int (F19 1), .ref (o 1), .int (F19 2), .ref (o 2), .ref (o 3), .ref (o 4), .ref (o 5), .ref (o 6), .int (F19 3), .ref (o 7), .ref (o 8), .ref (o 9), .ref (o 10), .ref (o 11), .int (F19 4), .int (1 : Int32), .int (F19 6), .ref (o 12), .ref (o 13), .int (F19 7), .ref (o 14), .ref (o 15), .int (F19 8), .int (F19 9), .ref (o 16), .ref (o 17), .ref (o 18), .ref (o 19)])), ((o 1), .inl (cI, 160, .inl (A19 0))), ((o 2), .inl (cI, 100, .inl (A19 1))), ((o 3), .inl (cI, 100, .inl (A19 2))), ((o 4), .inl (cI, 100, .inl (A19 3))), ((o 5), .inl (cI, 3, .inl (A19 4))), ((o 6), .inl (cI, 26, .inl (A19 5))), ((o 7), .inl (cI, 100, .inl (A19 6))), ((o 8), .inl (cI, 100, .inl (A19 7))), ((o 9), .inl (cI, 100, .inl (A19 8))), ((o 10), .inl (cI, 26, .inl (A19 9))), ((o 11), .inl (cI, 104, .inl (A19 10))), ((o 12), .inl (cI, 80, .inl (A19 11))), ((o 13), .inl (cI, 320, .inl (A19 12))), ((o 14), .inl (cI, 200, .inl (A19 13))), ((o 15), .inl (cI, 200, .inl (A19 14))), ((o 16), .inl (cI, 4, .inl (A19 15))), ((o 17), .inl (cI, 32, .inl (A19 16))), ((o 18), .inl (cI, 32, .inl (A19 17))), ((o 19), .inl (cI, 100, .inl (A19 18)))] H := hP
                have hD : va_D (va_A (wM o cI Fa Aa) s.heap.size) [((o 0), .inr (4, [.int (F19 0), .int (F19 1), .ref (o 1), .int (F19 2), .ref (o 2), .ref (o 3), .ref (o 4), .ref (o 5), .ref (o 6), .int (F19 3), .ref (o 7), .ref (o 8), .ref (o 9), .ref (o 10), .ref (o 11), .int (F19 4), .int (1 : Int32), .int (F19 6), .ref (o 12), .ref (o 13), .int (F19 7), .ref (o 14), .ref (o 15), .int (F19 8), .int (F19 9), .ref (o 16), .ref (o 17), .ref (o 18), .ref (o 19)])), ((o 1), .inl (cI, 160, .inl (A19 0))), ((o 2), .inl (cI, 100, .inl (A19 1))), ((o 3), .inl (cI, 100, .inl (A19 2))), ((o 4), .inl (cI, 100, .inl (A19 3))), ((o 5), .inl (cI, 3, .inl (A19 4))), ((o 6), .inl (cI, 26, .inl (A19 5))), ((o 7), .inl (cI, 100, .inl (A19 6))), ((o 8), .inl (cI, 100, .inl (A19 7))), ((o 9), .inl (cI, 100, .inl (A19 8))), ((o 10), .inl (cI, 26, .inl (A19 9))), ((o 11), .inl (cI, 104, .inl (A19 10))), ((o 12), .inl (cI, 80, .inl (A19 11))), ((o 13), .inl (cI, 320, .inl (A19 12))), ((o 14), .inl (cI, 200, .inl (A19 13))), ((o 15), .inl (cI, 200, .inl (A19 14))), ((o 16), .inl (cI, 4, .inl (A19 15))), ((o 17), .inl (cI, 32, .inl (A19 16))), ((o 18), .inl (cI, 32, .inl (A19 17))), ((o 19), .inl (cI, 100, .inl (A19 18)))] := hD
                refine lv_aload_n hx hb d_M_finish_133 rfl (lv_at hl 1 rfl) ?_
                refine va_get (D := (dC, dI)) (ci := 4) (v := .ref (o 16)) (C := R_M) (T := T_M) (N := 29) hx hb hts in_M hown hK hP 0 rfl rfl 25 (by decide) (hts _ mw_528) (fun _ h9 => h9) rfl d_M_finish_134 ?_
                refine lv_iload_n hx hb d_M_finish_137 rfl (lv_at hl 4 rfl) ?_
                refine lv_aload_n hx hb d_M_finish_138 rfl (lv_at hl 1 rfl) ?_
                refine lv_iload_n hx hb d_M_finish_139 rfl (lv_at hl 3 rfl) ?_
                refine lv_iload hx hb d_M_finish_140 (lv_at hl 0 rfl) ?_
                refine lv_iconst (v := 3) hx hb d_M_finish_142 (by decide) ?_
                refine lv_icmp_ge (tgt := 151) hx hb d_M_finish_143 (by decide) (fun h143_24 => ?_) (fun h143_24 => ?_)
                · rw [if_pos h143_24] at hf
                  refine lv_iconst (v := 0) hx hb d_M_finish_151 (by decide) ?_
                  have hP : va_P (dC, dI) vC (wM o cI (upd F19 5 (1 : Int32)) A19) H := hP
                  have hD : va_D (va_A (wM o cI Fa Aa) s.heap.size) (wM o cI (upd F19 5 (1 : Int32)) A19) := hD
                  obtain ⟨r25, F25, A25, hc, hf⟩ := ra_bi_some hf
                  refine cc_calli (va_runV (As := [.int x2, .int (0 : Int32)]) (rest := [.int x3, .ref (o 16)]) ⟨hx, hb, hml, hown, hts⟩ (k_M_number l dC dI o cI H.size (upd F19 5 (1 : Int32)) A19 x2 (0 : Int32) r25 F25 A25 hc) (cw_V 2 hts mw_648 mw_650 ms_M_number mw_5 mw_651 rfl rfl rfl hd_M_number ⟨Nat.le_of_ble_eq_true rfl, Nat.le_of_ble_eq_true rfl⟩) (cc_preV hK hP hD rfl (q0 := 0) rfl) rfl rfl hl.1 rfl (lv_room (Nat.le_of_ble_eq_true rfl)) d_M_finish_152 ⟨Nat.zero_le _, Nat.zero_le _⟩) hD hS hA (fun H locs hP hD hS => ?_)
                  obtain ⟨hi, hf⟩ := ra_g_some hf
                  refine va_iast hx hb hK hP hD hS 16 0 rfl rfl hi d_M_finish_155 (fun H locs hP hD hS => ?_)
                  have hP : va_P (dC, dI) vC [((o 0), .inr (4, [.int (F25 0), .int (F25 1), .ref (o 1), .int (F25 2), .ref (o 2), .ref (o 3), .ref (o 4), .ref (o 5), .ref (o 6), .int (F25 3), .ref (o 7), .ref (o 8), .ref (o 9), .ref (o 10), .ref (o 11), .int (F25 4), .int (F25 5), .int (F25 6), .ref (o 12), .ref (o 13), .int (F25 7), .ref (o 14), .ref (o 15), .int (F25 8), .int (F25 9), .ref (o 16), .ref (o 17), .ref (o 18), .ref (o 19)])), ((o 1), .inl (cI, 160, .inl (A25 0))), ((o 2), .inl (cI, 100, .inl (A25 1))), ((o 3), .inl (cI, 100, .inl (A25 2))), ((o 4), .inl (cI, 100, .inl (A25 3))), ((o 5), .inl (cI, 3, .inl (A25 4))), ((o 6), .inl (cI, 26, .inl (A25 5))), ((o 7), .inl (cI, 100, .inl (A25 6))), ((o 8), .inl (cI, 100, .inl (A25 7))), ((o 9), .inl (cI, 100, .inl (A25 8))), ((o 10), .inl (cI, 26, .inl (A25 9))), ((o 11), .inl (cI, 104, .inl (A25 10))), ((o 12), .inl (cI, 80, .inl (A25 11))), ((o 13), .inl (cI, 320, .inl (A25 12))), ((o 14), .inl (cI, 200, .inl (A25 13))), ((o 15), .inl (cI, 200, .inl (A25 14))), ((o 16), .inl (cI, 4, .inl (upd (A25 15) x3.toNatClampNeg r25))), ((o 17), .inl (cI, 32, .inl (A25 16))), ((o 18), .inl (cI, 32, .inl (A25 17))), ((o 19), .inl (cI, 100, .inl (A25 18)))] H := hP
                  have hD : va_D (va_A (wM o cI Fa Aa) s.heap.size) [((o 0), .inr (4, [.int (F25 0), .int (F25 1), .ref (o 1), .int (F25 2), .ref (o 2), .ref (o 3), .ref (o 4), .ref (o 5), .ref (o 6), .int (F25 3), .ref (o 7), .ref (o 8), .ref (o 9), .ref (o 10), .ref (o 11), .int (F25 4), .int (F25 5), .int (F25 6), .ref (o 12), .ref (o 13), .int (F25 7), .ref (o 14), .ref (o 15), .int (F25 8), .int (F25 9), .ref (o 16), .ref (o 17), .ref (o 18), .ref (o 19)])), ((o 1), .inl (cI, 160, .inl (A25 0))), ((o 2), .inl (cI, 100, .inl (A25 1))), ((o 3), .inl (cI, 100, .inl (A25 2))), ((o 4), .inl (cI, 100, .inl (A25 3))), ((o 5), .inl (cI, 3, .inl (A25 4))), ((o 6), .inl (cI, 26, .inl (A25 5))), ((o 7), .inl (cI, 100, .inl (A25 6))), ((o 8), .inl (cI, 100, .inl (A25 7))), ((o 9), .inl (cI, 100, .inl (A25 8))), ((o 10), .inl (cI, 26, .inl (A25 9))), ((o 11), .inl (cI, 104, .inl (A25 10))), ((o 12), .inl (cI, 80, .inl (A25 11))), ((o 13), .inl (cI, 320, .inl (A25 12))), ((o 14), .inl (cI, 200, .inl (A25 13))), ((o 15), .inl (cI, 200, .inl (A25 14))), ((o 16), .inl (cI, 4, .inl (upd (A25 15) x3.toNatClampNeg r25))), ((o 17), .inl (cI, 32, .inl (A25 16))), ((o 18), .inl (cI, 32, .inl (A25 17))), ((o 19), .inl (cI, 100, .inl (A25 18)))] := hD
                  refine lv_iinc (k := 4) (v := (x3 + (1 : Int32))) hx hb d_M_finish_156 hl rfl (by rfl) (by decide) rfl (fun ls hl => ?_)
                  have hl : lv_has ls 5 [(3, .int (x3 + (1 : Int32))), (4, .int (r19 - (120 : Int32))), (0, .ref (o 0)), (1, .int x1), (2, .int x2)] := hl
                  refine lv_aload_n hx hb d_M_finish_159 rfl (lv_at hl 2 rfl) ?_
                  refine lv_dup hx hb d_M_finish_160 rfl ?_
                  refine va_get (D := (dC, dI)) (ci := 4) (v := .int (F25 4)) (C := R_M) (T := T_M) (N := 29) hx hb hts in_M hown hK hP 0 rfl rfl 15 (by decide) (hts _ mw_518) (fun _ h9 => h9) rfl d_M_finish_161 ?_
                  refine lv_iconst (v := 1) hx hb d_M_finish_164 (by decide) ?_
                  refine lv_iadd hx hb d_M_finish_165 ?_
                  refine va_put (D := (dC, dI)) (ci := 4) (v := .int ((F25 4) + (1 : Int32))) (ty := .int) (C := R_M) (T := T_M) (N := 29) hx hb hts in_M ty_M ty_M_ok nm_M hown hK hP hD hS 0 rfl rfl 15 (by decide) (hts _ mw_518) (fun _ h9 => h9) rfl (by decide +kernel) rfl rfl (Nat.le_of_ble_eq_true rfl) d_M_finish_166 (fun H locs hP hD hS => ?_)
                  have hP : va_P (dC, dI) vC [((o 0), .inr (4, [.int (F25 0), .int (F25 1), .ref (o 1), .int (F25 2), .ref (o 2), .ref (o 3), .ref (o 4), .ref (o 5), .ref (o 6), .int (F25 3), .ref (o 7), .ref (o 8), .ref (o 9), .ref (o 10), .ref (o 11), .int ((F25 4) + (1 : Int32)), .int (F25 5), .int (F25 6), .ref (o 12), .ref (o 13), .int (F25 7), .ref (o 14), .ref (o 15), .int (F25 8), .int (F25 9), .ref (o 16), .ref (o 17), .ref (o 18), .ref (o 19)])), ((o 1), .inl (cI, 160, .inl (A25 0))), ((o 2), .inl (cI, 100, .inl (A25 1))), ((o 3), .inl (cI, 100, .inl (A25 2))), ((o 4), .inl (cI, 100, .inl (A25 3))), ((o 5), .inl (cI, 3, .inl (A25 4))), ((o 6), .inl (cI, 26, .inl (A25 5))), ((o 7), .inl (cI, 100, .inl (A25 6))), ((o 8), .inl (cI, 100, .inl (A25 7))), ((o 9), .inl (cI, 100, .inl (A25 8))), ((o 10), .inl (cI, 26, .inl (A25 9))), ((o 11), .inl (cI, 104, .inl (A25 10))), ((o 12), .inl (cI, 80, .inl (A25 11))), ((o 13), .inl (cI, 320, .inl (A25 12))), ((o 14), .inl (cI, 200, .inl (A25 13))), ((o 15), .inl (cI, 200, .inl (A25 14))), ((o 16), .inl (cI, 4, .inl (upd (A25 15) x3.toNatClampNeg r25))), ((o 17), .inl (cI, 32, .inl (A25 16))), ((o 18), .inl (cI, 32, .inl (A25 17))), ((o 19), .inl (cI, 100, .inl (A25 18)))] H := hP
                  have hD : va_D (va_A (wM o cI Fa Aa) s.heap.size) [((o 0), .inr (4, [.int (F25 0), .int (F25 1), .ref (o 1), .int (F25 2), .ref (o 2), .ref (o 3), .ref (o 4), .ref (o 5), .ref (o 6), .int (F25 3), .ref (o 7), .ref (o 8), .ref (o 9), .ref (o 10), .ref (o 11), .int ((F25 4) + (1 : Int32)), .int (F25 5), .int (F25 6), .ref (o 12), .ref (o 13), .int (F25 7), .ref (o 14), .ref (o 15), .int (F25 8), .int (F25 9), .ref (o 16), .ref (o 17), .ref (o 18), .ref (o 19)])), ((o 1), .inl (cI, 160, .inl (A25 0))), ((o 2), .inl (cI, 100, .inl (A25 1))), ((o 3), .inl (cI, 100, .inl (A25 2))), ((o 4), .inl (cI, 100, .inl (A25 3))), ((o 5), .inl (cI, 3, .inl (A25 4))), ((o 6), .inl (cI, 26, .inl (A25 5))), ((o 7), .inl (cI, 100, .inl (A25 6))), ((o 8), .inl (cI, 100, .inl (A25 7))), ((o 9), .inl (cI, 100, .inl (A25 8))), ((o 10), .inl (cI, 26, .inl (A25 9))), ((o 11), .inl (cI, 104, .inl (A25 10))), ((o 12), .inl (cI, 80, .inl (A25 11))), ((o 13), .inl (cI, 320, .inl (A25 12))), ((o 14), .inl (cI, 200, .inl (A25 13))), ((o 15), .inl (cI, 200, .inl (A25 14))), ((o 16), .inl (cI, 4, .inl (upd (A25 15) x3.toNatClampNeg r25))), ((o 17), .inl (cI, 32, .inl (A25 16))), ((o 18), .inl (cI, 32, .inl (A25 17))), ((o 19), .inl (cI, 100, .inl (A25 18)))] := hD
                  refine lv_goto (tgt := 62) hx hb d_M_finish_169 (by decide) ?_
                  have hl : lv_has ls 5 [(0, .ref (o 0)), (1, .int x1), (2, .int x2), (3, .int (x3 + (1 : Int32)))] := lv_sub hl [2, 3, 4, 0] rfl
                  exact ih x1 x2 (x3 + (1 : Int32)) (upd F25 4 ((F25 4) + (1 : Int32))) (va_up A25 15 (upd (A25 15) x3.toNatClampNeg r25)) _ _ _ hl hP hD hS hf
                · rw [if_neg h143_24] at hf
                  refine lv_iload hx hb d_M_finish_146 (lv_at hl 0 rfl) ?_
                  refine lv_goto (tgt := 152) hx hb d_M_finish_148 (by decide) ?_
                  have hP : va_P (dC, dI) vC (wM o cI (upd F19 5 (1 : Int32)) A19) H := hP
                  have hD : va_D (va_A (wM o cI Fa Aa) s.heap.size) (wM o cI (upd F19 5 (1 : Int32)) A19) := hD
                  obtain ⟨r26, F26, A26, hc, hf⟩ := ra_bi_some hf
                  refine cc_calli (va_runV (As := [.int x2, .int (r19 - (120 : Int32))]) (rest := [.int x3, .ref (o 16)]) ⟨hx, hb, hml, hown, hts⟩ (k_M_number l dC dI o cI H.size (upd F19 5 (1 : Int32)) A19 x2 (r19 - (120 : Int32)) r26 F26 A26 hc) (cw_V 2 hts mw_648 mw_650 ms_M_number mw_5 mw_651 rfl rfl rfl hd_M_number ⟨Nat.le_of_ble_eq_true rfl, Nat.le_of_ble_eq_true rfl⟩) (cc_preV hK hP hD rfl (q0 := 0) rfl) rfl rfl hl.1 rfl (lv_room (Nat.le_of_ble_eq_true rfl)) d_M_finish_152 ⟨Nat.zero_le _, Nat.zero_le _⟩) hD hS hA (fun H locs hP hD hS => ?_)
                  obtain ⟨hi, hf⟩ := ra_g_some hf
                  refine va_iast hx hb hK hP hD hS 16 0 rfl rfl hi d_M_finish_155 (fun H locs hP hD hS => ?_)
                  have hP : va_P (dC, dI) vC [((o 0), .inr (4, [.int (F26 0), .int (F26 1), .ref (o 1), .int (F26 2), .ref (o 2), .ref (o 3), .ref (o 4), .ref (o 5), .ref (o 6), .int (F26 3), .ref (o 7), .ref (o 8), .ref (o 9), .ref (o 10), .ref (o 11), .int (F26 4), .int (F26 5), .int (F26 6), .ref (o 12), .ref (o 13), .int (F26 7), .ref (o 14), .ref (o 15), .int (F26 8), .int (F26 9), .ref (o 16), .ref (o 17), .ref (o 18), .ref (o 19)])), ((o 1), .inl (cI, 160, .inl (A26 0))), ((o 2), .inl (cI, 100, .inl (A26 1))), ((o 3), .inl (cI, 100, .inl (A26 2))), ((o 4), .inl (cI, 100, .inl (A26 3))), ((o 5), .inl (cI, 3, .inl (A26 4))), ((o 6), .inl (cI, 26, .inl (A26 5))), ((o 7), .inl (cI, 100, .inl (A26 6))), ((o 8), .inl (cI, 100, .inl (A26 7))), ((o 9), .inl (cI, 100, .inl (A26 8))), ((o 10), .inl (cI, 26, .inl (A26 9))), ((o 11), .inl (cI, 104, .inl (A26 10))), ((o 12), .inl (cI, 80, .inl (A26 11))), ((o 13), .inl (cI, 320, .inl (A26 12))), ((o 14), .inl (cI, 200, .inl (A26 13))), ((o 15), .inl (cI, 200, .inl (A26 14))), ((o 16), .inl (cI, 4, .inl (upd (A26 15) x3.toNatClampNeg r26))), ((o 17), .inl (cI, 32, .inl (A26 16))), ((o 18), .inl (cI, 32, .inl (A26 17))), ((o 19), .inl (cI, 100, .inl (A26 18)))] H := hP
                  have hD : va_D (va_A (wM o cI Fa Aa) s.heap.size) [((o 0), .inr (4, [.int (F26 0), .int (F26 1), .ref (o 1), .int (F26 2), .ref (o 2), .ref (o 3), .ref (o 4), .ref (o 5), .ref (o 6), .int (F26 3), .ref (o 7), .ref (o 8), .ref (o 9), .ref (o 10), .ref (o 11), .int (F26 4), .int (F26 5), .int (F26 6), .ref (o 12), .ref (o 13), .int (F26 7), .ref (o 14), .ref (o 15), .int (F26 8), .int (F26 9), .ref (o 16), .ref (o 17), .ref (o 18), .ref (o 19)])), ((o 1), .inl (cI, 160, .inl (A26 0))), ((o 2), .inl (cI, 100, .inl (A26 1))), ((o 3), .inl (cI, 100, .inl (A26 2))), ((o 4), .inl (cI, 100, .inl (A26 3))), ((o 5), .inl (cI, 3, .inl (A26 4))), ((o 6), .inl (cI, 26, .inl (A26 5))), ((o 7), .inl (cI, 100, .inl (A26 6))), ((o 8), .inl (cI, 100, .inl (A26 7))), ((o 9), .inl (cI, 100, .inl (A26 8))), ((o 10), .inl (cI, 26, .inl (A26 9))), ((o 11), .inl (cI, 104, .inl (A26 10))), ((o 12), .inl (cI, 80, .inl (A26 11))), ((o 13), .inl (cI, 320, .inl (A26 12))), ((o 14), .inl (cI, 200, .inl (A26 13))), ((o 15), .inl (cI, 200, .inl (A26 14))), ((o 16), .inl (cI, 4, .inl (upd (A26 15) x3.toNatClampNeg r26))), ((o 17), .inl (cI, 32, .inl (A26 16))), ((o 18), .inl (cI, 32, .inl (A26 17))), ((o 19), .inl (cI, 100, .inl (A26 18)))] := hD
                  refine lv_iinc (k := 4) (v := (x3 + (1 : Int32))) hx hb d_M_finish_156 hl rfl (by rfl) (by decide) rfl (fun ls hl => ?_)
                  have hl : lv_has ls 5 [(3, .int (x3 + (1 : Int32))), (4, .int (r19 - (120 : Int32))), (0, .ref (o 0)), (1, .int x1), (2, .int x2)] := hl
                  refine lv_aload_n hx hb d_M_finish_159 rfl (lv_at hl 2 rfl) ?_
                  refine lv_dup hx hb d_M_finish_160 rfl ?_
                  refine va_get (D := (dC, dI)) (ci := 4) (v := .int (F26 4)) (C := R_M) (T := T_M) (N := 29) hx hb hts in_M hown hK hP 0 rfl rfl 15 (by decide) (hts _ mw_518) (fun _ h9 => h9) rfl d_M_finish_161 ?_
                  refine lv_iconst (v := 1) hx hb d_M_finish_164 (by decide) ?_
                  refine lv_iadd hx hb d_M_finish_165 ?_
                  refine va_put (D := (dC, dI)) (ci := 4) (v := .int ((F26 4) + (1 : Int32))) (ty := .int) (C := R_M) (T := T_M) (N := 29) hx hb hts in_M ty_M ty_M_ok nm_M hown hK hP hD hS 0 rfl rfl 15 (by decide) (hts _ mw_518) (fun _ h9 => h9) rfl (by decide +kernel) rfl rfl (Nat.le_of_ble_eq_true rfl) d_M_finish_166 (fun H locs hP hD hS => ?_)
                  have hP : va_P (dC, dI) vC [((o 0), .inr (4, [.int (F26 0), .int (F26 1), .ref (o 1), .int (F26 2), .ref (o 2), .ref (o 3), .ref (o 4), .ref (o 5), .ref (o 6), .int (F26 3), .ref (o 7), .ref (o 8), .ref (o 9), .ref (o 10), .ref (o 11), .int ((F26 4) + (1 : Int32)), .int (F26 5), .int (F26 6), .ref (o 12), .ref (o 13), .int (F26 7), .ref (o 14), .ref (o 15), .int (F26 8), .int (F26 9), .ref (o 16), .ref (o 17), .ref (o 18), .ref (o 19)])), ((o 1), .inl (cI, 160, .inl (A26 0))), ((o 2), .inl (cI, 100, .inl (A26 1))), ((o 3), .inl (cI, 100, .inl (A26 2))), ((o 4), .inl (cI, 100, .inl (A26 3))), ((o 5), .inl (cI, 3, .inl (A26 4))), ((o 6), .inl (cI, 26, .inl (A26 5))), ((o 7), .inl (cI, 100, .inl (A26 6))), ((o 8), .inl (cI, 100, .inl (A26 7))), ((o 9), .inl (cI, 100, .inl (A26 8))), ((o 10), .inl (cI, 26, .inl (A26 9))), ((o 11), .inl (cI, 104, .inl (A26 10))), ((o 12), .inl (cI, 80, .inl (A26 11))), ((o 13), .inl (cI, 320, .inl (A26 12))), ((o 14), .inl (cI, 200, .inl (A26 13))), ((o 15), .inl (cI, 200, .inl (A26 14))), ((o 16), .inl (cI, 4, .inl (upd (A26 15) x3.toNatClampNeg r26))), ((o 17), .inl (cI, 32, .inl (A26 16))), ((o 18), .inl (cI, 32, .inl (A26 17))), ((o 19), .inl (cI, 100, .inl (A26 18)))] H := hP
                  have hD : va_D (va_A (wM o cI Fa Aa) s.heap.size) [((o 0), .inr (4, [.int (F26 0), .int (F26 1), .ref (o 1), .int (F26 2), .ref (o 2), .ref (o 3), .ref (o 4), .ref (o 5), .ref (o 6), .int (F26 3), .ref (o 7), .ref (o 8), .ref (o 9), .ref (o 10), .ref (o 11), .int ((F26 4) + (1 : Int32)), .int (F26 5), .int (F26 6), .ref (o 12), .ref (o 13), .int (F26 7), .ref (o 14), .ref (o 15), .int (F26 8), .int (F26 9), .ref (o 16), .ref (o 17), .ref (o 18), .ref (o 19)])), ((o 1), .inl (cI, 160, .inl (A26 0))), ((o 2), .inl (cI, 100, .inl (A26 1))), ((o 3), .inl (cI, 100, .inl (A26 2))), ((o 4), .inl (cI, 100, .inl (A26 3))), ((o 5), .inl (cI, 3, .inl (A26 4))), ((o 6), .inl (cI, 26, .inl (A26 5))), ((o 7), .inl (cI, 100, .inl (A26 6))), ((o 8), .inl (cI, 100, .inl (A26 7))), ((o 9), .inl (cI, 100, .inl (A26 8))), ((o 10), .inl (cI, 26, .inl (A26 9))), ((o 11), .inl (cI, 104, .inl (A26 10))), ((o 12), .inl (cI, 80, .inl (A26 11))), ((o 13), .inl (cI, 320, .inl (A26 12))), ((o 14), .inl (cI, 200, .inl (A26 13))), ((o 15), .inl (cI, 200, .inl (A26 14))), ((o 16), .inl (cI, 4, .inl (upd (A26 15) x3.toNatClampNeg r26))), ((o 17), .inl (cI, 32, .inl (A26 16))), ((o 18), .inl (cI, 32, .inl (A26 17))), ((o 19), .inl (cI, 100, .inl (A26 18)))] := hD
                  refine lv_goto (tgt := 62) hx hb d_M_finish_169 (by decide) ?_
                  have hl : lv_has ls 5 [(0, .ref (o 0)), (1, .int x1), (2, .int x2), (3, .int (x3 + (1 : Int32)))] := lv_sub hl [2, 3, 4, 0] rfl
                  exact ih x1 x2 (x3 + (1 : Int32)) (upd F26 4 ((F26 4) + (1 : Int32))) (va_up A26 15 (upd (A26 15) x3.toNatClampNeg r26)) _ _ _ hl hP hD hS hf
  rw [lg_entry_eq]
  generalize (lg_sl (([.ref (o 0), .int u1] : List Value)) ++ List.replicate (5 - (lg_sl (([.ref (o 0), .int u1] : List Value))).length) Slot.unset).toArray = ls at hl ⊢
  have hl : lv_has ls 5 [(0, .ref (o 0)), (1, .int u1)] := hl
  unfold f_M_finish at hf
  refine lv_aload_n hx hb d_M_finish_0 rfl (lv_at hl 0 rfl) ?_
  refine va_get (D := (dC, dI)) (ci := 4) (v := .int (Fa 5)) (C := R_M) (T := T_M) (N := 29) hx hb hts in_M hown hK hP 0 rfl rfl 16 (by decide) (hts _ mw_519) (fun _ h9 => h9) rfl d_M_finish_1 ?_
  refine lv_if_ne (tgt := 209) hx hb d_M_finish_4 (by decide) (fun h4_1 => ?_) (fun h4_1 => ?_)
  · rw [if_neg h4_1] at hf
    have hl : lv_has ls 5 [(0, .ref (o 0)), (1, .int u1)] := lv_sub hl [0, 1] rfl
    exact L209 400 u1 Fa Aa _ _ _ hl hP hD hS hf
  · rw [if_pos h4_1] at hf
    refine lv_aload_n hx hb d_M_finish_7 rfl (lv_at hl 0 rfl) ?_
    refine lv_aload_n hx hb d_M_finish_8 rfl (lv_at hl 0 rfl) ?_
    refine va_get (D := (dC, dI)) (ci := 4) (v := .int (Fa 4)) (C := R_M) (T := T_M) (N := 29) hx hb hts in_M hown hK hP 0 rfl rfl 15 (by decide) (hts _ mw_518) (fun _ h9 => h9) rfl d_M_finish_9 ?_
    have hP : va_P (dC, dI) vC (wM o cI Fa Aa) s.heap := hP
    have hD : va_D (va_A (wM o cI Fa Aa) s.heap.size) (wM o cI Fa Aa) := hD
    obtain ⟨r6, F6, A6, hc, hf⟩ := ra_bi_some hf
    refine cc_calli (va_runV (As := [.int (Fa 4)]) (rest := []) ⟨hx, hb, hml, hown, hts⟩ (k_M_look l dC dI o cI s.heap.size Fa Aa (Fa 4) r6 F6 A6 hc) (cw_V 1 hts mw_611 mw_613 ms_M_look mw_5 mw_614 rfl rfl rfl hd_M_look ⟨Nat.le_of_ble_eq_true rfl, Nat.le_of_ble_eq_true rfl⟩) (cc_preV hK hP hD rfl (q0 := 0) rfl) rfl rfl hl.1 rfl (lv_room (Nat.le_of_ble_eq_true rfl)) d_M_finish_12 ⟨Nat.zero_le _, Nat.zero_le _⟩) hD hS hA (fun H locs hP hD hS => ?_)
    refine lv_bipush (v := 46) hx hb d_M_finish_15 (by decide) ?_
    refine lv_icmp_ne (tgt := 209) hx hb d_M_finish_17 (by decide) (fun h17_7 => ?_) (fun h17_7 => ?_)
    · rw [if_neg h17_7] at hf
      have hl : lv_has ls 5 [(0, .ref (o 0)), (1, .int u1)] := lv_sub hl [0, 1] rfl
      exact L209 400 u1 F6 A6 _ _ _ hl hP hD hS hf
    · rw [if_pos h17_7] at hf
      refine lv_aload_n hx hb d_M_finish_20 rfl (lv_at hl 0 rfl) ?_
      refine lv_dup hx hb d_M_finish_21 rfl ?_
      refine va_get (D := (dC, dI)) (ci := 4) (v := .int (F6 4)) (C := R_M) (T := T_M) (N := 29) hx hb hts in_M hown hK hP 0 rfl rfl 15 (by decide) (hts _ mw_518) (fun _ h9 => h9) rfl d_M_finish_22 ?_
      refine lv_iconst (v := 1) hx hb d_M_finish_25 (by decide) ?_
      refine lv_iadd hx hb d_M_finish_26 ?_
      refine va_put (D := (dC, dI)) (ci := 4) (v := .int ((F6 4) + (1 : Int32))) (ty := .int) (C := R_M) (T := T_M) (N := 29) hx hb hts in_M ty_M ty_M_ok nm_M hown hK hP hD hS 0 rfl rfl 15 (by decide) (hts _ mw_518) (fun _ h9 => h9) rfl (by decide +kernel) rfl rfl (Nat.le_of_ble_eq_true rfl) d_M_finish_27 (fun H locs hP hD hS => ?_)
      have hP : va_P (dC, dI) vC [((o 0), .inr (4, [.int (F6 0), .int (F6 1), .ref (o 1), .int (F6 2), .ref (o 2), .ref (o 3), .ref (o 4), .ref (o 5), .ref (o 6), .int (F6 3), .ref (o 7), .ref (o 8), .ref (o 9), .ref (o 10), .ref (o 11), .int ((F6 4) + (1 : Int32)), .int (F6 5), .int (F6 6), .ref (o 12), .ref (o 13), .int (F6 7), .ref (o 14), .ref (o 15), .int (F6 8), .int (F6 9), .ref (o 16), .ref (o 17), .ref (o 18), .ref (o 19)])), ((o 1), .inl (cI, 160, .inl (A6 0))), ((o 2), .inl (cI, 100, .inl (A6 1))), ((o 3), .inl (cI, 100, .inl (A6 2))), ((o 4), .inl (cI, 100, .inl (A6 3))), ((o 5), .inl (cI, 3, .inl (A6 4))), ((o 6), .inl (cI, 26, .inl (A6 5))), ((o 7), .inl (cI, 100, .inl (A6 6))), ((o 8), .inl (cI, 100, .inl (A6 7))), ((o 9), .inl (cI, 100, .inl (A6 8))), ((o 10), .inl (cI, 26, .inl (A6 9))), ((o 11), .inl (cI, 104, .inl (A6 10))), ((o 12), .inl (cI, 80, .inl (A6 11))), ((o 13), .inl (cI, 320, .inl (A6 12))), ((o 14), .inl (cI, 200, .inl (A6 13))), ((o 15), .inl (cI, 200, .inl (A6 14))), ((o 16), .inl (cI, 4, .inl (A6 15))), ((o 17), .inl (cI, 32, .inl (A6 16))), ((o 18), .inl (cI, 32, .inl (A6 17))), ((o 19), .inl (cI, 100, .inl (A6 18)))] H := hP
      have hD : va_D (va_A (wM o cI Fa Aa) s.heap.size) [((o 0), .inr (4, [.int (F6 0), .int (F6 1), .ref (o 1), .int (F6 2), .ref (o 2), .ref (o 3), .ref (o 4), .ref (o 5), .ref (o 6), .int (F6 3), .ref (o 7), .ref (o 8), .ref (o 9), .ref (o 10), .ref (o 11), .int ((F6 4) + (1 : Int32)), .int (F6 5), .int (F6 6), .ref (o 12), .ref (o 13), .int (F6 7), .ref (o 14), .ref (o 15), .int (F6 8), .int (F6 9), .ref (o 16), .ref (o 17), .ref (o 18), .ref (o 19)])), ((o 1), .inl (cI, 160, .inl (A6 0))), ((o 2), .inl (cI, 100, .inl (A6 1))), ((o 3), .inl (cI, 100, .inl (A6 2))), ((o 4), .inl (cI, 100, .inl (A6 3))), ((o 5), .inl (cI, 3, .inl (A6 4))), ((o 6), .inl (cI, 26, .inl (A6 5))), ((o 7), .inl (cI, 100, .inl (A6 6))), ((o 8), .inl (cI, 100, .inl (A6 7))), ((o 9), .inl (cI, 100, .inl (A6 8))), ((o 10), .inl (cI, 26, .inl (A6 9))), ((o 11), .inl (cI, 104, .inl (A6 10))), ((o 12), .inl (cI, 80, .inl (A6 11))), ((o 13), .inl (cI, 320, .inl (A6 12))), ((o 14), .inl (cI, 200, .inl (A6 13))), ((o 15), .inl (cI, 200, .inl (A6 14))), ((o 16), .inl (cI, 4, .inl (A6 15))), ((o 17), .inl (cI, 32, .inl (A6 16))), ((o 18), .inl (cI, 32, .inl (A6 17))), ((o 19), .inl (cI, 100, .inl (A6 18)))] := hD
      refine lv_aload_n hx hb d_M_finish_30 rfl (lv_at hl 0 rfl) ?_
      refine va_get (D := (dC, dI)) (ci := 4) (v := .int (F6 6)) (C := R_M) (T := T_M) (N := 29) hx hb hts in_M hown hK hP 0 rfl rfl 17 (by decide) (hts _ mw_520) (fun _ h9 => h9) rfl d_M_finish_31 ?_
      refine lv_iconst (v := 1) hx hb d_M_finish_34 (by decide) ?_
      refine lv_isub hx hb d_M_finish_35 ?_
      refine lv_istore_n hx hb d_M_finish_36 rfl hl (by decide) rfl (fun ls hl => ?_)
      have hl : lv_has ls 5 [(2, .int ((F6 6) - (1 : Int32))), (0, .ref (o 0)), (1, .int u1)] := hl
      refine lv_iconst (v := 0) hx hb d_M_finish_37 (by decide) ?_
      refine lv_istore_n hx hb d_M_finish_38 rfl hl (by decide) rfl (fun ls hl => ?_)
      have hl : lv_has ls 5 [(3, .int (0 : Int32)), (2, .int ((F6 6) - (1 : Int32))), (0, .ref (o 0)), (1, .int u1)] := hl
      refine lv_aload_n hx hb d_M_finish_39 rfl (lv_at hl 2 rfl) ?_
      refine lv_iload_n hx hb d_M_finish_40 rfl (lv_at hl 3 rfl) ?_
      refine lv_if_ne (tgt := 54) hx hb d_M_finish_41 (by decide) (fun h41_8 => ?_) (fun h41_8 => ?_)
      · rw [if_neg h41_8] at hf
        refine lv_iconst (v := 1) hx hb d_M_finish_54 (by decide) ?_
        refine lv_goto (tgt := 59) hx hb d_M_finish_55 (by decide) ?_
        refine va_put (D := (dC, dI)) (ci := 4) (v := .int (1 : Int32)) (ty := .boolean) (C := R_M) (T := T_M) (N := 29) hx hb hts in_M ty_M ty_M_ok nm_M hown hK hP hD hS 0 rfl rfl 16 (by decide) (hts _ mw_519) (fun _ h9 => h9) rfl (by decide +kernel) rfl rfl (Nat.le_of_ble_eq_true rfl) d_M_finish_59 (fun H locs hP hD hS => ?_)
        have hP : va_P (dC, dI) vC [((o 0), .inr (4, [.int (F6 0), .int (F6 1), .ref (o 1), .int (F6 2), .ref (o 2), .ref (o 3), .ref (o 4), .ref (o 5), .ref (o 6), .int (F6 3), .ref (o 7), .ref (o 8), .ref (o 9), .ref (o 10), .ref (o 11), .int ((F6 4) + (1 : Int32)), .int (1 : Int32), .int (F6 6), .ref (o 12), .ref (o 13), .int (F6 7), .ref (o 14), .ref (o 15), .int (F6 8), .int (F6 9), .ref (o 16), .ref (o 17), .ref (o 18), .ref (o 19)])), ((o 1), .inl (cI, 160, .inl (A6 0))), ((o 2), .inl (cI, 100, .inl (A6 1))), ((o 3), .inl (cI, 100, .inl (A6 2))), ((o 4), .inl (cI, 100, .inl (A6 3))), ((o 5), .inl (cI, 3, .inl (A6 4))), ((o 6), .inl (cI, 26, .inl (A6 5))), ((o 7), .inl (cI, 100, .inl (A6 6))), ((o 8), .inl (cI, 100, .inl (A6 7))), ((o 9), .inl (cI, 100, .inl (A6 8))), ((o 10), .inl (cI, 26, .inl (A6 9))), ((o 11), .inl (cI, 104, .inl (A6 10))), ((o 12), .inl (cI, 80, .inl (A6 11))), ((o 13), .inl (cI, 320, .inl (A6 12))), ((o 14), .inl (cI, 200, .inl (A6 13))), ((o 15), .inl (cI, 200, .inl (A6 14))), ((o 16), .inl (cI, 4, .inl (A6 15))), ((o 17), .inl (cI, 32, .inl (A6 16))), ((o 18), .inl (cI, 32, .inl (A6 17))), ((o 19), .inl (cI, 100, .inl (A6 18)))] H := hP
        have hD : va_D (va_A (wM o cI Fa Aa) s.heap.size) [((o 0), .inr (4, [.int (F6 0), .int (F6 1), .ref (o 1), .int (F6 2), .ref (o 2), .ref (o 3), .ref (o 4), .ref (o 5), .ref (o 6), .int (F6 3), .ref (o 7), .ref (o 8), .ref (o 9), .ref (o 10), .ref (o 11), .int ((F6 4) + (1 : Int32)), .int (1 : Int32), .int (F6 6), .ref (o 12), .ref (o 13), .int (F6 7), .ref (o 14), .ref (o 15), .int (F6 8), .int (F6 9), .ref (o 16), .ref (o 17), .ref (o 18), .ref (o 19)])), ((o 1), .inl (cI, 160, .inl (A6 0))), ((o 2), .inl (cI, 100, .inl (A6 1))), ((o 3), .inl (cI, 100, .inl (A6 2))), ((o 4), .inl (cI, 100, .inl (A6 3))), ((o 5), .inl (cI, 3, .inl (A6 4))), ((o 6), .inl (cI, 26, .inl (A6 5))), ((o 7), .inl (cI, 100, .inl (A6 6))), ((o 8), .inl (cI, 100, .inl (A6 7))), ((o 9), .inl (cI, 100, .inl (A6 8))), ((o 10), .inl (cI, 26, .inl (A6 9))), ((o 11), .inl (cI, 104, .inl (A6 10))), ((o 12), .inl (cI, 80, .inl (A6 11))), ((o 13), .inl (cI, 320, .inl (A6 12))), ((o 14), .inl (cI, 200, .inl (A6 13))), ((o 15), .inl (cI, 200, .inl (A6 14))), ((o 16), .inl (cI, 4, .inl (A6 15))), ((o 17), .inl (cI, 32, .inl (A6 16))), ((o 18), .inl (cI, 32, .inl (A6 17))), ((o 19), .inl (cI, 100, .inl (A6 18)))] := hD
        have hl : lv_has ls 5 [(0, .ref (o 0)), (1, .int u1), (2, .int ((F6 6) - (1 : Int32))), (3, .int (0 : Int32))] := lv_sub hl [2, 3, 1, 0] rfl
        exact L62 400 u1 ((F6 6) - (1 : Int32)) (0 : Int32) (upd (upd F6 4 ((F6 4) + (1 : Int32))) 5 (1 : Int32)) A6 _ _ _ hl hP hD hS hf
      · rw [if_pos h41_8] at hf
        refine lv_aload_n hx hb d_M_finish_44 rfl (lv_at hl 2 rfl) ?_
        refine va_get (D := (dC, dI)) (ci := 4) (v := .ref (o 12)) (C := R_M) (T := T_M) (N := 29) hx hb hts in_M hown hK hP 0 rfl rfl 18 (by decide) (hts _ mw_521) (fun _ h9 => h9) rfl d_M_finish_45 ?_
        refine lv_iload_n hx hb d_M_finish_48 rfl (lv_at hl 1 rfl) ?_
        obtain ⟨hi, hf⟩ := ra_g_some hf
        refine va_iald hx hb hK hP 12 0 rfl rfl hi d_M_finish_49 ?_
        refine lv_iconst (v := 4) hx hb d_M_finish_50 (by decide) ?_
        refine lv_icmp_ne (tgt := 58) hx hb d_M_finish_51 (by decide) (fun h51_27 => ?_) (fun h51_27 => ?_)
        · rw [if_neg h51_27] at hf
          refine lv_iconst (v := 0) hx hb d_M_finish_58 (by decide) ?_
          refine va_put (D := (dC, dI)) (ci := 4) (v := .int (0 : Int32)) (ty := .boolean) (C := R_M) (T := T_M) (N := 29) hx hb hts in_M ty_M ty_M_ok nm_M hown hK hP hD hS 0 rfl rfl 16 (by decide) (hts _ mw_519) (fun _ h9 => h9) rfl (by decide +kernel) rfl rfl (Nat.le_of_ble_eq_true rfl) d_M_finish_59 (fun H locs hP hD hS => ?_)
          have hP : va_P (dC, dI) vC [((o 0), .inr (4, [.int (F6 0), .int (F6 1), .ref (o 1), .int (F6 2), .ref (o 2), .ref (o 3), .ref (o 4), .ref (o 5), .ref (o 6), .int (F6 3), .ref (o 7), .ref (o 8), .ref (o 9), .ref (o 10), .ref (o 11), .int ((F6 4) + (1 : Int32)), .int (0 : Int32), .int (F6 6), .ref (o 12), .ref (o 13), .int (F6 7), .ref (o 14), .ref (o 15), .int (F6 8), .int (F6 9), .ref (o 16), .ref (o 17), .ref (o 18), .ref (o 19)])), ((o 1), .inl (cI, 160, .inl (A6 0))), ((o 2), .inl (cI, 100, .inl (A6 1))), ((o 3), .inl (cI, 100, .inl (A6 2))), ((o 4), .inl (cI, 100, .inl (A6 3))), ((o 5), .inl (cI, 3, .inl (A6 4))), ((o 6), .inl (cI, 26, .inl (A6 5))), ((o 7), .inl (cI, 100, .inl (A6 6))), ((o 8), .inl (cI, 100, .inl (A6 7))), ((o 9), .inl (cI, 100, .inl (A6 8))), ((o 10), .inl (cI, 26, .inl (A6 9))), ((o 11), .inl (cI, 104, .inl (A6 10))), ((o 12), .inl (cI, 80, .inl (A6 11))), ((o 13), .inl (cI, 320, .inl (A6 12))), ((o 14), .inl (cI, 200, .inl (A6 13))), ((o 15), .inl (cI, 200, .inl (A6 14))), ((o 16), .inl (cI, 4, .inl (A6 15))), ((o 17), .inl (cI, 32, .inl (A6 16))), ((o 18), .inl (cI, 32, .inl (A6 17))), ((o 19), .inl (cI, 100, .inl (A6 18)))] H := hP
          have hD : va_D (va_A (wM o cI Fa Aa) s.heap.size) [((o 0), .inr (4, [.int (F6 0), .int (F6 1), .ref (o 1), .int (F6 2), .ref (o 2), .ref (o 3), .ref (o 4), .ref (o 5), .ref (o 6), .int (F6 3), .ref (o 7), .ref (o 8), .ref (o 9), .ref (o 10), .ref (o 11), .int ((F6 4) + (1 : Int32)), .int (0 : Int32), .int (F6 6), .ref (o 12), .ref (o 13), .int (F6 7), .ref (o 14), .ref (o 15), .int (F6 8), .int (F6 9), .ref (o 16), .ref (o 17), .ref (o 18), .ref (o 19)])), ((o 1), .inl (cI, 160, .inl (A6 0))), ((o 2), .inl (cI, 100, .inl (A6 1))), ((o 3), .inl (cI, 100, .inl (A6 2))), ((o 4), .inl (cI, 100, .inl (A6 3))), ((o 5), .inl (cI, 3, .inl (A6 4))), ((o 6), .inl (cI, 26, .inl (A6 5))), ((o 7), .inl (cI, 100, .inl (A6 6))), ((o 8), .inl (cI, 100, .inl (A6 7))), ((o 9), .inl (cI, 100, .inl (A6 8))), ((o 10), .inl (cI, 26, .inl (A6 9))), ((o 11), .inl (cI, 104, .inl (A6 10))), ((o 12), .inl (cI, 80, .inl (A6 11))), ((o 13), .inl (cI, 320, .inl (A6 12))), ((o 14), .inl (cI, 200, .inl (A6 13))), ((o 15), .inl (cI, 200, .inl (A6 14))), ((o 16), .inl (cI, 4, .inl (A6 15))), ((o 17), .inl (cI, 32, .inl (A6 16))), ((o 18), .inl (cI, 32, .inl (A6 17))), ((o 19), .inl (cI, 100, .inl (A6 18)))] := hD
          have hl : lv_has ls 5 [(0, .ref (o 0)), (1, .int u1), (2, .int ((F6 6) - (1 : Int32))), (3, .int (0 : Int32))] := lv_sub hl [2, 3, 1, 0] rfl
          exact L62 400 u1 ((F6 6) - (1 : Int32)) (0 : Int32) (upd (upd F6 4 ((F6 4) + (1 : Int32))) 5 (0 : Int32)) A6 _ _ _ hl hP hD hS hf
        · rw [if_pos h51_27] at hf
          refine lv_iconst (v := 1) hx hb d_M_finish_54 (by decide) ?_
          refine lv_goto (tgt := 59) hx hb d_M_finish_55 (by decide) ?_
          refine va_put (D := (dC, dI)) (ci := 4) (v := .int (1 : Int32)) (ty := .boolean) (C := R_M) (T := T_M) (N := 29) hx hb hts in_M ty_M ty_M_ok nm_M hown hK hP hD hS 0 rfl rfl 16 (by decide) (hts _ mw_519) (fun _ h9 => h9) rfl (by decide +kernel) rfl rfl (Nat.le_of_ble_eq_true rfl) d_M_finish_59 (fun H locs hP hD hS => ?_)
          have hP : va_P (dC, dI) vC [((o 0), .inr (4, [.int (F6 0), .int (F6 1), .ref (o 1), .int (F6 2), .ref (o 2), .ref (o 3), .ref (o 4), .ref (o 5), .ref (o 6), .int (F6 3), .ref (o 7), .ref (o 8), .ref (o 9), .ref (o 10), .ref (o 11), .int ((F6 4) + (1 : Int32)), .int (1 : Int32), .int (F6 6), .ref (o 12), .ref (o 13), .int (F6 7), .ref (o 14), .ref (o 15), .int (F6 8), .int (F6 9), .ref (o 16), .ref (o 17), .ref (o 18), .ref (o 19)])), ((o 1), .inl (cI, 160, .inl (A6 0))), ((o 2), .inl (cI, 100, .inl (A6 1))), ((o 3), .inl (cI, 100, .inl (A6 2))), ((o 4), .inl (cI, 100, .inl (A6 3))), ((o 5), .inl (cI, 3, .inl (A6 4))), ((o 6), .inl (cI, 26, .inl (A6 5))), ((o 7), .inl (cI, 100, .inl (A6 6))), ((o 8), .inl (cI, 100, .inl (A6 7))), ((o 9), .inl (cI, 100, .inl (A6 8))), ((o 10), .inl (cI, 26, .inl (A6 9))), ((o 11), .inl (cI, 104, .inl (A6 10))), ((o 12), .inl (cI, 80, .inl (A6 11))), ((o 13), .inl (cI, 320, .inl (A6 12))), ((o 14), .inl (cI, 200, .inl (A6 13))), ((o 15), .inl (cI, 200, .inl (A6 14))), ((o 16), .inl (cI, 4, .inl (A6 15))), ((o 17), .inl (cI, 32, .inl (A6 16))), ((o 18), .inl (cI, 32, .inl (A6 17))), ((o 19), .inl (cI, 100, .inl (A6 18)))] H := hP
          have hD : va_D (va_A (wM o cI Fa Aa) s.heap.size) [((o 0), .inr (4, [.int (F6 0), .int (F6 1), .ref (o 1), .int (F6 2), .ref (o 2), .ref (o 3), .ref (o 4), .ref (o 5), .ref (o 6), .int (F6 3), .ref (o 7), .ref (o 8), .ref (o 9), .ref (o 10), .ref (o 11), .int ((F6 4) + (1 : Int32)), .int (1 : Int32), .int (F6 6), .ref (o 12), .ref (o 13), .int (F6 7), .ref (o 14), .ref (o 15), .int (F6 8), .int (F6 9), .ref (o 16), .ref (o 17), .ref (o 18), .ref (o 19)])), ((o 1), .inl (cI, 160, .inl (A6 0))), ((o 2), .inl (cI, 100, .inl (A6 1))), ((o 3), .inl (cI, 100, .inl (A6 2))), ((o 4), .inl (cI, 100, .inl (A6 3))), ((o 5), .inl (cI, 3, .inl (A6 4))), ((o 6), .inl (cI, 26, .inl (A6 5))), ((o 7), .inl (cI, 100, .inl (A6 6))), ((o 8), .inl (cI, 100, .inl (A6 7))), ((o 9), .inl (cI, 100, .inl (A6 8))), ((o 10), .inl (cI, 26, .inl (A6 9))), ((o 11), .inl (cI, 104, .inl (A6 10))), ((o 12), .inl (cI, 80, .inl (A6 11))), ((o 13), .inl (cI, 320, .inl (A6 12))), ((o 14), .inl (cI, 200, .inl (A6 13))), ((o 15), .inl (cI, 200, .inl (A6 14))), ((o 16), .inl (cI, 4, .inl (A6 15))), ((o 17), .inl (cI, 32, .inl (A6 16))), ((o 18), .inl (cI, 32, .inl (A6 17))), ((o 19), .inl (cI, 100, .inl (A6 18)))] := hD
          have hl : lv_has ls 5 [(0, .ref (o 0)), (1, .int u1), (2, .int ((F6 6) - (1 : Int32))), (3, .int (0 : Int32))] := lv_sub hl [2, 3, 1, 0] rfl
          exact L62 400 u1 ((F6 6) - (1 : Int32)) (0 : Int32) (upd (upd F6 4 ((F6 4) + (1 : Int32))) 5 (1 : Int32)) A6 _ _ _ hl hP hD hS hf
