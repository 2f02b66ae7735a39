def pc_a (b : Nat → Nat) : Nat → Nat := fun k => if k = 0 then b 6 else if k = 1 then b 7 else if k = 2 then b 1 else b (k + 11)
def pc_F (F : ST_F) : ST_F := fun k => if k = 0 then F 1 else if k = 1 then F 2 else F (k + 3)
def pc_A (A : ST_A) : ST_A := fun k => if k = 0 then A 4 else if k = 1 then A 0 else A (k + 8)
def pb_F (F F1 : ST_F) : ST_F := fun k => if k = 1 then F1 0 else if k = 2 then F1 1 else if k = 5 then F1 2 else if k = 6 then F1 3 else F k
def pb_A (A A1 : ST_A) : ST_A := fun k => if k = 4 then A1 0 else if k = 0 then A1 1 else if 10 ≤ k then A1 (k - 8) else A k
def sw_b (b : Nat → Nat) : Nat → Nat := fun k => if k < 8 then b k else if k < 14 then b (k + 6) else b (k - 6)
def sw_F (F : ST_F) : ST_F := fun k => if k < 3 then F k else if k < 5 then F (k + 2) else F (k - 2)
def sw_A (A : ST_A) : ST_A := fun k => if k < 5 then A k else if k < 10 then A (k + 5) else A (k - 5)
def f_P_compile (F : ST_F) (A : ST_A) : Option (Int32 × ST_F × ST_A) := ra_bi (f_C_accepts (F 0) (pc_F F) (pc_A A)) (fun r F1 A1 => if r = 0 then some ((0 : Int32), pb_F F F1, pb_A A A1) else some ((1 : Int32), sw_F (pb_F F F1), sw_A (pb_A A A1)))
set_option maxHeartbeats 4000000 in
set_option maxRecDepth 100000 in
theorem k_C_exchange (l : Launch) (dC : Nat → ClassId) (dI : Nat → Nat → Nat) (cI cC : ClassId) (a0 v tx k j : Nat) (x y : Int32) (sz : Nat) : Met l y_C_exchange (Cond.code y_C_exchange b_C_exchange 3 (some (.object "PixelFormula$Code")) :: wA) ({ frames := 0, cells := 0, slots := 0, locals := 0 } : Room) (va_Pc [.ref a0, .ref j] (cc_Pre (dC, dI) vC [(cI, .int), (cC, .char)] [(a0, .inr (1, [.ref v, .ref tx, .int x, .int y, .ref k]))] sz)) (va_Qr (fun (_ : Unit) => True) (fun _ ra t => ra = k ∧ cc_Post (dC, dI) vC [(cI, .int), (cC, .char)] [(a0, .inr (1, [.ref v, .ref tx, .int x, .int y, .ref k]))] sz [(a0, .inr (1, [.ref v, .ref tx, .int x, .int y, .ref j]))] t) (va_A [(a0, .inr (1, [.ref v, .ref tx, .int x, .int y, .ref k]))] sz)) 0 0 (va_A [(a0, .inr (1, [.ref v, .ref tx, .int x, .int y, .ref k]))] sz) := by
  refine Met.ofW (cc := b_C_exchange) (maxL := 3) (ret := (some (.object "PixelFormula$Code"))) (by decide) rfl ?_
  intro p e s m args below meth c s₁ B hml hv
  obtain ⟨rfl, hsz, hP, hK, hD0⟩ := hv
  have hx := B.exec
  have hb := B.bytes
  have hr := B.returns
  have hts := fun w h => atoms_spec (ws := (Cond.code y_C_exchange b_C_exchange 3 (some (.object "PixelFormula$Code")) :: wA)) B.pre w (List.mem_cons_of_mem _ h)
  have hown : s.vm.findClass R_C = some m.cls := findClass_of_methodNamed B.named
  have hlocks := B.notSynchronized
  subst hsz
  have hD := hD0.self (sz := s.heap.size)
  have hS : va_S (va_A [(a0, .inr (1, [.ref v, .ref tx, .int x, .int y, .ref k]))] s.heap.size) s.heap s.heap [] := va_S.rf
  have hl := lv_entry ([.ref a0, .ref j]) (n := 3) (Nat.le_of_ble_eq_true rfl)
  rw [lg_entry_eq]
  generalize (lg_sl ([.ref a0, .ref j]) ++ List.replicate (3 - (lg_sl ([.ref a0, .ref j])).length) Slot.unset).toArray = ls at hl ⊢
  have hl : lv_has ls 3 [(0, .ref a0), (1, .ref j)] := hl
  refine lv_aload_n hx hb d_C_exchange_0 rfl (lv_at hl 0 rfl) ?_
  refine va_get (D := (dC, dI)) (ci := 1) (v := .ref k) (C := R_C) (T := T_C) (N := 5) hx hb hts in_C hown hK hP 0 rfl rfl 4 (by decide) (hts _ mw_79) (fun _ h9 => h9) rfl d_C_exchange_1 ?_
  refine lv_astore_n hx hb d_C_exchange_4 rfl hl (by decide) rfl (fun ls hl => ?_)
  have hl : lv_has ls 3 [(2, .ref k), (0, .ref a0), (1, .ref j)] := hl
  refine lv_aload_n hx hb d_C_exchange_5 rfl (lv_at hl 1 rfl) ?_
  refine lv_aload_n hx hb d_C_exchange_6 rfl (lv_at hl 2 rfl) ?_
  refine va_put (D := (dC, dI)) (ci := 1) (v := .ref j) (ty := (.object "PixelFormula$Code")) (C := R_C) (T := T_C) (N := 5) hx hb hts in_C ty_C ty_C_ok nm_C hown hK hP hD hS 0 rfl rfl 4 (by decide) (hts _ mw_79) (fun _ h9 => h9) rfl (by decide +kernel) rfl rfl (Nat.le_of_ble_eq_true rfl) d_C_exchange_7 (fun H locs hP hD hS => ?_)
  have hP : va_P (dC, dI) vC [(a0, .inr (1, [.ref v, .ref tx, .int x, .int y, .ref j]))] H := hP
  have hD : va_D (va_A [(a0, .inr (1, [.ref v, .ref tx, .int x, .int y, .ref k]))] s.heap.size) [(a0, .inr (1, [.ref v, .ref tx, .int x, .int y, .ref j]))] := hD
  refine lv_aload_n hx hb d_C_exchange_10 rfl (lv_at hl 0 rfl) ?_
  exact W.aret hx hb hr (Or.inl ⟨_, rfl⟩) (Or.inr ⟨_, rfl⟩) (fun t ht hW => ⟨⟨(), k, rfl, trivial, rfl, by rw [ht]; exact hP, va_K.moved hW.alike hK, hD⟩, hS.F ht⟩) hS.2.2 d_C_exchange_11

set_option maxHeartbeats 4000000 in
set_option maxRecDepth 100000 in
theorem k_P_compile (l : Launch) (dC : Nat → ClassId) (dI : Nat → Nat → Nat) (b : Nat → Nat) (cI cC : ClassId) (tx : Nat) (sz : Nat) (Fa : ST_F) (Aa : ST_A) (r0 : Int32) (F9 : ST_F) (A9 : ST_A) (hf : f_P_compile Fa Aa = some (r0, F9, A9)) : cc_MetI l y_P_compile (Cond.code y_P_compile b_P_compile 1 (some .boolean) :: wA) ({ frames := 99, cells := 0, slots := 0, locals := 4268 } : Room) (dC, dI) vC [(cI, .int), (cC, .char)] ([.ref (b 0)] : List Value) (wP b cI cC tx Fa Aa) sz (wP (if r0 = 0 then b else sw_b b) cI cC (b 1) F9 A9) r0 := by
  refine Met.ofW (cc := b_P_compile) (maxL := 1) (ret := (some .boolean)) (by decide) rfl ?_
  intro p e s m args below meth c s₁ B hml hv
  obtain ⟨rfl, hsz, hP, hK, hD0⟩ := hv
  have hx := B.exec
  have hb := B.bytes
  have hr := B.returns
  have hts := fun w h => atoms_spec (ws := (Cond.code y_P_compile b_P_compile 1 (some .boolean) :: wA)) B.pre w (List.mem_cons_of_mem _ h)
  have hown : s.vm.findClass R_P = some m.cls := findClass_of_methodNamed B.named
  have hlocks := B.notSynchronized
  subst hsz
  have hD := hD0.self (sz := s.heap.size)
  have hA : ∀ q : Nat, s.heap.size ≤ q → (va_A (wP b cI cC tx Fa Aa) s.heap.size) q := fun q h => Or.inr h
  have hS : va_S (va_A (wP b cI cC tx Fa Aa) s.heap.size) s.heap s.heap [] := va_S.rf
  have hl := lv_entry ([.ref (b 0)]) (n := 1) (Nat.le_of_ble_eq_true rfl)
  rw [lg_entry_eq]
  generalize (lg_sl ([.ref (b 0)]) ++ List.replicate (1 - (lg_sl ([.ref (b 0)])).length) Slot.unset).toArray = ls at hl ⊢
  have hl : lv_has ls 1 [(0, .ref (b 0))] := hl
  unfold f_P_compile at hf
  refine lv_aload_n hx hb d_P_compile_0 rfl (lv_at hl 0 rfl) ?_
  refine va_get (D := (dC, dI)) (ci := 3) (v := .ref (b 6)) (C := R_P) (T := T_P) (N := 6) hx hb hts in_P hown hK hP 0 rfl rfl 3 (by decide) (hts _ mw_108) (fun _ h9 => h9) rfl d_P_compile_1 ?_
  refine lv_aload_n hx hb d_P_compile_4 rfl (lv_at hl 0 rfl) ?_
  refine va_get (D := (dC, dI)) (ci := 3) (v := .ref (b 1)) (C := R_P) (T := T_P) (N := 6) hx hb hts in_P hown hK hP 0 rfl rfl 0 (by decide) (hts _ mw_105) (fun _ h9 => h9) rfl d_P_compile_5 ?_
  refine lv_aload_n hx hb d_P_compile_8 rfl (lv_at hl 0 rfl) ?_
  refine va_get (D := (dC, dI)) (ci := 3) (v := .int (Fa 0)) (C := R_P) (T := T_P) (N := 6) hx hb hts in_P hown hK hP 0 rfl rfl 1 (by decide) (hts _ mw_106) (fun _ h9 => h9) rfl d_P_compile_9 ?_
  obtain ⟨r1, F1, A1, hc, hf⟩ := ra_bi_some hf
  refine cc_calliP (wc := (wC0 (pc_a b) cI cC tx (pc_F Fa) (pc_A Aa))) (w1 := (wC (pc_a b) cI cC F1 A1)) (wq := [((b 0), .inr (3, [.ref (b 1), .int (Fa 0), .ref (b 8), .ref (b 6), .ref (b 3), .ref (b 2)])), ((b 2), .inl (cI, 32, .inl (Aa 1))), ((b 3), .inr (2, [.ref (b 4), .ref (b 5)])), ((b 4), .inl (cI, 100, .inl (Aa 2))), ((b 5), .inl (cI, 6, .inl (Aa 3))), ((b 8), .inr (0, [.ref (b 9), .ref (b 10), .ref (b 11), .ref (b 12), .ref (b 13), .int (Fa 3), .int (Fa 4)])), ((b 9), .inl (cI, 100, .inl (Aa 5))), ((b 10), .inl (cI, 100, .inl (Aa 6))), ((b 11), .inl (cI, 100, .inl (Aa 7))), ((b 12), .inl (cI, 3, .inl (Aa 8))), ((b 13), .inl (cI, 26, .inl (Aa 9)))]) (va_runV (As := [.ref (b 1), .int (Fa 0)]) (rest := []) ⟨hx, hb, hml, hown, hts⟩ (k_C_accepts l dC dI (pc_a b) cI cC tx s.heap.size (pc_F Fa) (pc_A Aa) (Fa 0) r1 F1 A1 hc) (cw_V 2 hts mw_132 mw_133 mw_134 mw_3 mw_135 rfl rfl rfl hd_C_accepts ⟨Nat.le_of_ble_eq_true rfl, Nat.le_of_ble_eq_true rfl⟩)
    (cc_preVs hK hP hD [6, 7, 1, 14, 15, 16, 17, 18, 19] (by decide) rfl rfl rfl (q0 := 6) rfl) rfl rfl hl.1 rfl (lv_room (Nat.le_of_ble_eq_true rfl)) d_P_compile_12 ⟨Nat.zero_le _, Nat.zero_le _⟩) hP hD hS hA [6, 7, 1, 14, 15, 16, 17, 18, 19] [0, 2, 3, 4, 5, 8, 9, 10, 11, 12, 13] rfl rfl (by decide) (by decide) (fun H locs hP hD hS => ?_)
  have hP := hP.sub (ws' := (wP b cI cC (b 1) (pb_F Fa F1) (pb_A Aa A1))) [0, 13, 1, 2, 3, 4, 11, 12, 5, 6, 7, 8, 9, 10, 14, 15, 16, 17, 18, 19] rfl
  have hD := hD.sub (ws' := (wP b cI cC (b 1) (pb_F Fa F1) (pb_A Aa A1))) [0, 13, 1, 2, 3, 4, 11, 12, 5, 6, 7, 8, 9, 10, 14, 15, 16, 17, 18, 19] (by decide) rfl
  refine lv_if_ne (tgt := 20) hx hb d_P_compile_15 (by decide) (fun h15 => ?_) (fun h15 => ?_)
  · rw [if_neg h15] at hf
    refine lv_aload_n hx hb d_P_compile_20 rfl (lv_at hl 0 rfl) ?_
    refine lv_aload_n hx hb d_P_compile_21 rfl (lv_at hl 0 rfl) ?_
    refine va_get (D := (dC, dI)) (ci := 3) (v := .ref (b 6)) (C := R_P) (T := T_P) (N := 6) hx hb hts in_P hown hK hP 0 rfl rfl 3 (by decide) (hts _ mw_108) (fun _ h9 => h9) rfl d_P_compile_22 ?_
    refine lv_aload_n hx hb d_P_compile_25 rfl (lv_at hl 0 rfl) ?_
    refine va_get (D := (dC, dI)) (ci := 3) (v := .ref (b 8)) (C := R_P) (T := T_P) (N := 6) hx hb hts in_P hown hK hP 0 rfl rfl 2 (by decide) (hts _ mw_107) (fun _ h9 => h9) rfl d_P_compile_26 ?_
    have hPc := hP.sub (ws' := [(b 6, .inr (1, [.ref (b 7), .ref (b 1), .int (pb_F Fa F1 1), .int (pb_F Fa F1 2), .ref (b 14)]))]) [6] rfl
    have hDc := hD.sub (ws' := [(b 6, .inr (1, [.ref (b 7), .ref (b 1), .int (pb_F Fa F1 1), .int (pb_F Fa F1 2), .ref (b 14)]))]) [6] (by decide) rfl
    have hFc := va_free (wc := [(b 6, .inr (1, [.ref (b 7), .ref (b 1), .int (pb_F Fa F1 1), .int (pb_F Fa F1 2), .ref (b 14)]))]) hD hS hA [6] rfl
    refine va_callr (va_runV (As := [.ref (b 8)]) (rest := [.ref (b 0)]) ⟨hx, hb, hml, hown, hts⟩ (k_C_exchange l dC dI cI cC (b 6) (b 7) (b 1) (b 14) (b 8) (pb_F Fa F1 1) (pb_F Fa F1 2) H.size) (cw_V 1 hts mw_284 mw_285 mw_286 mw_3 mw_287 rfl rfl rfl hd_C_exchange ⟨Nat.le_of_ble_eq_true rfl, Nat.le_of_ble_eq_true rfl⟩)
      (cc_preVs hK hP hD [6] (by decide) rfl rfl rfl (q0 := 6) rfl) rfl rfl hl.1 rfl (lv_room (Nat.le_of_ble_eq_true rfl)) d_P_compile_29 ⟨Nat.zero_le _, Nat.zero_le _⟩) hS (fun q _ h => hFc q h) hFc (fun u ra t H1 locs ht hvm hw hB hz1 hk1 hS => ?_)
    obtain ⟨rfl, hP1, hK1, hD1⟩ := hB
    rw [ht] at hP1
    obtain ⟨hP, hD⟩ := va_join (wr := [((b 0), .inr (3, [.ref (b 1), .int ((pb_F Fa F1) 0), .ref (b 8), .ref (b 6), .ref (b 3), .ref (b 2)])), ((b 1), .inl (cC, 160, .inl ((pb_A Aa A1) 0))), ((b 2), .inl (cI, 32, .inl ((pb_A Aa A1) 1))), ((b 3), .inr (2, [.ref (b 4), .ref (b 5)])), ((b 4), .inl (cI, 100, .inl ((pb_A Aa A1) 2))), ((b 5), .inl (cI, 6, .inl ((pb_A Aa A1) 3))), ((b 7), .inl (cI, 26, .inl ((pb_A Aa A1) 4))), ((b 8), .inr (0, [.ref (b 9), .ref (b 10), .ref (b 11), .ref (b 12), .ref (b 13), .int ((pb_F Fa F1) 3), .int ((pb_F Fa F1) 4)])), ((b 9), .inl (cI, 100, .inl ((pb_A Aa A1) 5))), ((b 10), .inl (cI, 100, .inl ((pb_A Aa A1) 6))), ((b 11), .inl (cI, 100, .inl ((pb_A Aa A1) 7))), ((b 12), .inl (cI, 3, .inl ((pb_A Aa A1) 8))), ((b 13), .inl (cI, 26, .inl ((pb_A Aa A1) 9))), ((b 14), .inr (0, [.ref (b 15), .ref (b 16), .ref (b 17), .ref (b 18), .ref (b 19), .int ((pb_F Fa F1) 5), .int ((pb_F Fa F1) 6)])), ((b 15), .inl (cI, 100, .inl ((pb_A Aa A1) 10))), ((b 16), .inl (cI, 100, .inl ((pb_A Aa A1) 11))), ((b 17), .inl (cI, 100, .inl ((pb_A Aa A1) 12))), ((b 18), .inl (cI, 3, .inl ((pb_A Aa A1) 13))), ((b 19), .inl (cI, 26, .inl ((pb_A Aa A1) 14)))]) (w1 := [(b 6, .inr (1, [.ref (b 7), .ref (b 1), .int (pb_F Fa F1 1), .int (pb_F Fa F1 2), .ref (b 8)]))]) hP hD [6] [0, 1, 2, 3, 4, 5, 7, 8, 9, 10, 11, 12, 13, 14, 15, 16, 17, 18, 19] rfl rfl (by decide) (by decide) hk1 hFc hP1 hD1
    generalize H1 = H at hP hS ⊢
    refine va_put (D := (dC, dI)) (ci := 3) (v := .ref (b 14)) (ty := (.object "PixelFormula$Code")) (C := R_P) (T := T_P) (N := 6) hx hb hts in_P ty_P ty_P_ok nm_P hown hK hP hD hS 0 rfl rfl 2 (by decide) (hts _ mw_107) (fun _ h9 => h9) rfl (by decide +kernel) rfl rfl (Nat.le_of_ble_eq_true rfl) d_P_compile_32 (fun H locs hP hD hS => ?_)
    have hP := hP.sub (ws' := (wP (sw_b b) cI cC (b 1) (sw_F (pb_F Fa F1)) (sw_A (pb_A Aa A1)))) [0, 1, 2, 3, 4, 5, 19, 6, 13, 14, 15, 16, 17, 18, 7, 8, 9, 10, 11, 12] rfl
    have hD := hD.sub (ws' := (wP (sw_b b) cI cC (b 1) (sw_F (pb_F Fa F1)) (sw_A (pb_A Aa A1)))) [0, 1, 2, 3, 4, 5, 19, 6, 13, 14, 15, 16, 17, 18, 7, 8, 9, 10, 11, 12] (by decide) rfl
    refine lv_iconst (v := 1) hx hb d_P_compile_35 (by decide) ?_
    cases hf
    exact W.zret hx hb hr (by rfl) (fun t ht hW => ⟨⟨_, (), rfl, rfl, by rw [ht]; exact hP, va_K.moved hW.alike hK, hD⟩, hS.F ht⟩) hS.2.2 d_P_compile_36
  · rw [if_pos h15] at hf
    refine lv_iconst (v := 0) hx hb d_P_compile_18 (by decide) ?_
    cases hf
    exact W.zret hx hb hr (by rfl) (fun t ht hW => ⟨⟨_, (), rfl, rfl, by rw [ht]; exact hP, va_K.moved hW.alike hK, hD⟩, hS.F ht⟩) hS.2.2 d_P_compile_19
