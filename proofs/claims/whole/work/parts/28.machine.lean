abbrev wP (b : Nat → Nat) (cI cC : ClassId) (tx : Nat) (F : ST_F) (A : ST_A) : va_W := [((b 0), .inr (3, [.ref (b 1), .int (F 0), .ref (b 8), .ref (b 6), .ref (b 3), .ref (b 2)])), ((b 1), .inl (cC, 160, .inl (A 0))), ((b 2), .inl (cI, 32, .inl (A 1))), ((b 3), .inr (2, [.ref (b 4), .ref (b 5)])), ((b 4), .inl (cI, 100, .inl (A 2))), ((b 5), .inl (cI, 6, .inl (A 3))), ((b 6), .inr (1, [.ref (b 7), .ref tx, .int (F 1), .int (F 2), .ref (b 14)])), ((b 7), .inl (cI, 26, .inl (A 4))), ((b 8), .inr (0, [.ref (b 9), .ref (b 10), .ref (b 11), .ref (b 12), .ref (b 13), .int (F 3), .int (F 4)])), ((b 9), .inl (cI, 100, .inl (A 5))), ((b 10), .inl (cI, 100, .inl (A 6))), ((b 11), .inl (cI, 100, .inl (A 7))), ((b 12), .inl (cI, 3, .inl (A 8))), ((b 13), .inl (cI, 26, .inl (A 9))), ((b 14), .inr (0, [.ref (b 15), .ref (b 16), .ref (b 17), .ref (b 18), .ref (b 19), .int (F 5), .int (F 6)])), ((b 15), .inl (cI, 100, .inl (A 10))), ((b 16), .inl (cI, 100, .inl (A 11))), ((b 17), .inl (cI, 100, .inl (A 12))), ((b 18), .inl (cI, 3, .inl (A 13))), ((b 19), .inl (cI, 26, .inl (A 14)))]
def f_P_isPoint (u0 : Int32) (u1 : Int32) : Int32 := if u0 < 0 then ((0 : Int32)) else (if (8 : Int32) ≤ u0 then ((0 : Int32)) else (if u1 < 0 then ((0 : Int32)) else (if (4 : Int32) ≤ u1 then ((0 : Int32)) else ((1 : Int32)))))
set_option maxHeartbeats 4000000 in
set_option maxRecDepth 100000 in
theorem k_P_isPoint (l : Launch) (u0 : Int32) (u1 : Int32) (r0 : Int32) (hf : f_P_isPoint u0 u1 = r0) : cc_MetS l y_P_isPoint (Cond.code y_P_isPoint b_P_isPoint 2 (some .boolean) :: wA) ({ frames := 0, cells := 0, slots := 0, locals := 0 } : Room) ([.int u0, .int u1] : List Value) r0 := by
  refine Met.ofW (cc := b_P_isPoint) (maxL := 2) (ret := (some .boolean)) (by decide) rfl ?_
  intro p e s m args below meth c s₁ B hml hv
  obtain rfl : args = ([.int u0, .int u1] : List Value).toArray := hv
  have hx := B.exec
  have hb := B.bytes
  have hr := B.returns
  have hts := fun w h => atoms_spec (ws := (Cond.code y_P_isPoint b_P_isPoint 2 (some .boolean) :: wA)) B.pre w (List.mem_cons_of_mem _ h)
  have hown : s.vm.findClass R_P = some m.cls := findClass_of_methodNamed B.named
  have hlocks := B.notSynchronized
  have hl := lv_entry (([.int u0, .int u1] : List Value)) (n := 2) (Nat.le_of_ble_eq_true rfl)
  rw [lg_entry_eq]
  generalize (lg_sl (([.int u0, .int u1] : List Value)) ++ List.replicate (2 - (lg_sl (([.int u0, .int u1] : List Value))).length) Slot.unset).toArray = ls at hl ⊢
  have hl : lv_has ls 2 [(0, .int u0), (1, .int u1)] := hl
  unfold f_P_isPoint at hf
  refine lv_iload_n hx hb d_P_isPoint_0 rfl (lv_at hl 0 rfl) ?_
  refine lv_if_lt (tgt := 23) hx hb d_P_isPoint_1 (by decide) (fun h1_1 => ?_) (fun h1_1 => ?_)
  · rw [if_pos h1_1] at hf
    refine lv_iconst (v := 0) hx hb d_P_isPoint_23 (by decide) ?_
    exact W.zret (v := (0 : Int32)) hx hb hr (by rfl) (fun t ht hW => ⟨_, rfl, hf, ht⟩) (fun q h => by cases h) d_P_isPoint_24
  · rw [if_neg h1_1] at hf
    refine lv_iload_n hx hb d_P_isPoint_4 rfl (lv_at hl 0 rfl) ?_
    refine lv_bipush (v := 8) hx hb d_P_isPoint_5 (by decide) ?_
    refine lv_icmp_ge (tgt := 23) hx hb d_P_isPoint_7 (by decide) (fun h7_2 => ?_) (fun h7_2 => ?_)
    · rw [if_pos h7_2] at hf
      refine lv_iconst (v := 0) hx hb d_P_isPoint_23 (by decide) ?_
      exact W.zret (v := (0 : Int32)) hx hb hr (by rfl) (fun t ht hW => ⟨_, rfl, hf, ht⟩) (fun q h => by cases h) d_P_isPoint_24
    · rw [if_neg h7_2] at hf
      refine lv_iload_n hx hb d_P_isPoint_10 rfl (lv_at hl 1 rfl) ?_
      refine lv_if_lt (tgt := 23) hx hb d_P_isPoint_11 (by decide) (fun h11_3 => ?_) (fun h11_3 => ?_)
      · rw [if_pos h11_3] at hf
        refine lv_iconst (v := 0) hx hb d_P_isPoint_23 (by decide) ?_
        exact W.zret (v := (0 : Int32)) hx hb hr (by rfl) (fun t ht hW => ⟨_, rfl, hf, ht⟩) (fun q h => by cases h) d_P_isPoint_24
      · rw [if_neg h11_3] at hf
        refine lv_iload_n hx hb d_P_isPoint_14 rfl (lv_at hl 1 rfl) ?_
        refine lv_iconst (v := 4) hx hb d_P_isPoint_15 (by decide) ?_
        refine lv_icmp_ge (tgt := 23) hx hb d_P_isPoint_16 (by decide) (fun h16_4 => ?_) (fun h16_4 => ?_)
        · rw [if_pos h16_4] at hf
          refine lv_iconst (v := 0) hx hb d_P_isPoint_23 (by decide) ?_
          exact W.zret (v := (0 : Int32)) hx hb hr (by rfl) (fun t ht hW => ⟨_, rfl, hf, ht⟩) (fun q h => by cases h) d_P_isPoint_24
        · rw [if_neg h16_4] at hf
          refine lv_iconst (v := 1) hx hb d_P_isPoint_19 (by decide) ?_
          refine lv_goto (tgt := 24) hx hb d_P_isPoint_20 (by decide) ?_
          exact W.zret (v := (1 : Int32)) hx hb hr (by rfl) (fun t ht hW => ⟨_, rfl, hf, ht⟩) (fun q h => by cases h) d_P_isPoint_24
def f_P_isColor (u0 : Int32) : Int32 := if u0 < 0 then ((0 : Int32)) else (if (16777215 : Int32) < u0 then ((0 : Int32)) else ((1 : Int32)))
set_option maxHeartbeats 4000000 in
set_option maxRecDepth 100000 in
theorem k_P_isColor (l : Launch) (u0 : Int32) (r0 : Int32) (hf : f_P_isColor u0 = r0) : cc_MetS l y_P_isColor (Cond.code y_P_isColor b_P_isColor 1 (some .boolean) :: wA) ({ frames := 0, cells := 0, slots := 0, locals := 0 } : Room) ([.int u0] : List Value) r0 := by
  refine Met.ofW (cc := b_P_isColor) (maxL := 1) (ret := (some .boolean)) (by decide) rfl ?_
  intro p e s m args below meth c s₁ B hml hv
  obtain rfl : args = ([.int u0] : List Value).toArray := hv
  have hx := B.exec
  have hb := B.bytes
  have hr := B.returns
  have hts := fun w h => atoms_spec (ws := (Cond.code y_P_isColor b_P_isColor 1 (some .boolean) :: wA)) B.pre w (List.mem_cons_of_mem _ h)
  have hown : s.vm.findClass R_P = some m.cls := findClass_of_methodNamed B.named
  have hlocks := B.notSynchronized
  have hl := lv_entry (([.int u0] : List Value)) (n := 1) (Nat.le_of_ble_eq_true rfl)
  rw [lg_entry_eq]
  generalize (lg_sl (([.int u0] : List Value)) ++ List.replicate (1 - (lg_sl (([.int u0] : List Value))).length) Slot.unset).toArray = ls at hl ⊢
  have hl : lv_has ls 1 [(0, .int u0)] := hl
  unfold f_P_isColor at hf
  refine lv_iload_n hx hb d_P_isColor_0 rfl (lv_at hl 0 rfl) ?_
  refine lv_if_lt (tgt := 14) hx hb d_P_isColor_1 (by decide) (fun h1_1 => ?_) (fun h1_1 => ?_)
  · rw [if_pos h1_1] at hf
    refine lv_iconst (v := 0) hx hb d_P_isColor_14 (by decide) ?_
    exact W.zret (v := (0 : Int32)) hx hb hr (by rfl) (fun t ht hW => ⟨_, rfl, hf, ht⟩) (fun q h => by cases h) d_P_isColor_15
  · rw [if_neg h1_1] at hf
    refine lv_iload_n hx hb d_P_isColor_4 rfl (lv_at hl 0 rfl) ?_
    refine lv_ldc (v := 16777215) hx hb hown (hts _ mw_434) d_P_isColor_5 ?_
    refine lv_icmp_gt (tgt := 14) hx hb d_P_isColor_7 (by decide) (fun h7_2 => ?_) (fun h7_2 => ?_)
    · rw [if_pos h7_2] at hf
      refine lv_iconst (v := 0) hx hb d_P_isColor_14 (by decide) ?_
      exact W.zret (v := (0 : Int32)) hx hb hr (by rfl) (fun t ht hW => ⟨_, rfl, hf, ht⟩) (fun q h => by cases h) d_P_isColor_15
    · rw [if_neg h7_2] at hf
      refine lv_iconst (v := 1) hx hb d_P_isColor_10 (by decide) ?_
      refine lv_goto (tgt := 15) hx hb d_P_isColor_11 (by decide) ?_
      exact W.zret (v := (1 : Int32)) hx hb hr (by rfl) (fun t ht hW => ⟨_, rfl, hf, ht⟩) (fun q h => by cases h) d_P_isColor_15
def f_P_erase  (Fa : ST_F) (Aa : ST_A) : Option (ST_F × ST_A) := some ((upd Fa 0 (0 : Int32)), Aa)
set_option maxHeartbeats 4000000 in
set_option maxRecDepth 100000 in
theorem k_P_erase (l : Launch) (dC : Nat → ClassId) (dI : Nat → Nat → Nat) (b : Nat → Nat) (cI cC : ClassId) (tx : Nat) (sz : Nat) (Fa : ST_F) (Aa : ST_A)  (F9 : ST_F) (A9 : ST_A) (hf : f_P_erase  Fa Aa = some (F9, A9)) : cc_MetV l y_P_erase (Cond.code y_P_erase b_P_erase 1 none :: wA) ({ frames := 0, cells := 0, slots := 0, locals := 0 } : Room) (dC, dI) vC [(cI, .int), (cC, .char)] ([.ref (b 0)] : List Value) (wP b cI cC tx Fa Aa) sz (wP b cI cC tx F9 A9) := by
  refine Met.ofW (cc := b_P_erase) (maxL := 1) (ret := none) (by decide) rfl ?_
  intro p e s m args below meth c s₁ B hml hv
  obtain ⟨rfl, hsz, hP, hK, hD0⟩ := hv
  have hx := B.exec
  have hb := B.bytes
  have hr := B.returns
  have hts := fun w h => atoms_spec (ws := (Cond.code y_P_erase b_P_erase 1 none :: wA)) B.pre w (List.mem_cons_of_mem _ h)
  have hown : s.vm.findClass R_P = some m.cls := findClass_of_methodNamed B.named
  have hlocks := B.notSynchronized
  subst hsz
  have hD := hD0.self (sz := s.heap.size)
  have hA : ∀ q : Nat, s.heap.size ≤ q → va_A (wP b cI cC tx Fa Aa) s.heap.size q := fun q h => Or.inr h
  have hS : va_S (va_A (wP b cI cC tx Fa Aa) s.heap.size) s.heap s.heap [] := va_S.rf
  have hl := lv_entry (([.ref (b 0)] : List Value)) (n := 1) (Nat.le_of_ble_eq_true rfl)
  rw [lg_entry_eq]
  generalize (lg_sl (([.ref (b 0)] : List Value)) ++ List.replicate (1 - (lg_sl (([.ref (b 0)] : List Value))).length) Slot.unset).toArray = ls at hl ⊢
  have hl : lv_has ls 1 [(0, .ref (b 0))] := hl
  unfold f_P_erase at hf
  refine lv_aload_n hx hb d_P_erase_0 rfl (lv_at hl 0 rfl) ?_
  refine lv_iconst (v := 0) hx hb d_P_erase_1 (by decide) ?_
  refine va_put (D := (dC, dI)) (ci := 3) (v := .int (0 : Int32)) (ty := .int) (C := R_P) (T := T_P) (N := 6) hx hb hts in_P ty_P ty_P_ok nm_P hown hK hP hD hS 0 rfl rfl 1 (by decide) (hts _ mw_106) (fun _ h9 => h9) rfl (by decide +kernel) rfl rfl (Nat.le_of_ble_eq_true rfl) d_P_erase_2 (fun H locs hP hD hS => ?_)
  have hP : va_P (dC, dI) vC [((b 0), .inr (3, [.ref (b 1), .int (0 : Int32), .ref (b 8), .ref (b 6), .ref (b 3), .ref (b 2)])), ((b 1), .inl (cC, 160, .inl (Aa 0))), ((b 2), .inl (cI, 32, .inl (Aa 1))), ((b 3), .inr (2, [.ref (b 4), .ref (b 5)])), ((b 4), .inl (cI, 100, .inl (Aa 2))), ((b 5), .inl (cI, 6, .inl (Aa 3))), ((b 6), .inr (1, [.ref (b 7), .ref tx, .int (Fa 1), .int (Fa 2), .ref (b 14)])), ((b 7), .inl (cI, 26, .inl (Aa 4))), ((b 8), .inr (0, [.ref (b 9), .ref (b 10), .ref (b 11), .ref (b 12), .ref (b 13), .int (Fa 3), .int (Fa 4)])), ((b 9), .inl (cI, 100, .inl (Aa 5))), ((b 10), .inl (cI, 100, .inl (Aa 6))), ((b 11), .inl (cI, 100, .inl (Aa 7))), ((b 12), .inl (cI, 3, .inl (Aa 8))), ((b 13), .inl (cI, 26, .inl (Aa 9))), ((b 14), .inr (0, [.ref (b 15), .ref (b 16), .ref (b 17), .ref (b 18), .ref (b 19), .int (Fa 5), .int (Fa 6)])), ((b 15), .inl (cI, 100, .inl (Aa 10))), ((b 16), .inl (cI, 100, .inl (Aa 11))), ((b 17), .inl (cI, 100, .inl (Aa 12))), ((b 18), .inl (cI, 3, .inl (Aa 13))), ((b 19), .inl (cI, 26, .inl (Aa 14)))] H := hP
  have hD : va_D (va_A (wP b cI cC tx Fa Aa) s.heap.size) [((b 0), .inr (3, [.ref (b 1), .int (0 : Int32), .ref (b 8), .ref (b 6), .ref (b 3), .ref (b 2)])), ((b 1), .inl (cC, 160, .inl (Aa 0))), ((b 2), .inl (cI, 32, .inl (Aa 1))), ((b 3), .inr (2, [.ref (b 4), .ref (b 5)])), ((b 4), .inl (cI, 100, .inl (Aa 2))), ((b 5), .inl (cI, 6, .inl (Aa 3))), ((b 6), .inr (1, [.ref (b 7), .ref tx, .int (Fa 1), .int (Fa 2), .ref (b 14)])), ((b 7), .inl (cI, 26, .inl (Aa 4))), ((b 8), .inr (0, [.ref (b 9), .ref (b 10), .ref (b 11), .ref (b 12), .ref (b 13), .int (Fa 3), .int (Fa 4)])), ((b 9), .inl (cI, 100, .inl (Aa 5))), ((b 10), .inl (cI, 100, .inl (Aa 6))), ((b 11), .inl (cI, 100, .inl (Aa 7))), ((b 12), .inl (cI, 3, .inl (Aa 8))), ((b 13), .inl (cI, 26, .inl (Aa 9))), ((b 14), .inr (0, [.ref (b 15), .ref (b 16), .ref (b 17), .ref (b 18), .ref (b 19), .int (Fa 5), .int (Fa 6)])), ((b 15), .inl (cI, 100, .inl (Aa 10))), ((b 16), .inl (cI, 100, .inl (Aa 11))), ((b 17), .inl (cI, 100, .inl (Aa 12))), ((b 18), .inl (cI, 3, .inl (Aa 13))), ((b 19), .inl (cI, 26, .inl (Aa 14)))] := hD
  cases hf
  exact W.vret hx hb hr (fun t ht hW => ⟨⟨(), rfl, trivial, by rw [ht]; exact hP, va_K.moved hW.alike hK, hD⟩, hS.F ht⟩) hS.2.2 d_P_erase_5
def f_P_size  (Fa : ST_F) (Aa : ST_A) : Option (Int32 × ST_F × ST_A) := some ((Fa 3), Fa, Aa)
set_option maxHeartbeats 4000000 in
set_option maxRecDepth 100000 in
theorem k_P_size (l : Launch) (dC : Nat → ClassId) (dI : Nat → Nat → Nat) (b : Nat → Nat) (cI cC : ClassId) (tx : Nat) (sz : Nat) (Fa : ST_F) (Aa : ST_A)  (r0 : Int32) (F9 : ST_F) (A9 : ST_A) (hf : f_P_size  Fa Aa = some (r0, F9, A9)) : cc_MetI l y_P_size (Cond.code y_P_size b_P_size 1 (some .int) :: wA) ({ frames := 0, cells := 0, slots := 0, locals := 0 } : Room) (dC, dI) vC [(cI, .int), (cC, .char)] ([.ref (b 0)] : List Value) (wP b cI cC tx Fa Aa) sz (wP b cI cC tx F9 A9) r0 := by
  refine Met.ofW (cc := b_P_size) (maxL := 1) (ret := (some .int)) (by decide) rfl ?_
  intro p e s m args below meth c s₁ B hml hv
  obtain ⟨rfl, hsz, hP, hK, hD0⟩ := hv
  have hx := B.exec
  have hb := B.bytes
  have hr := B.returns
  have hts := fun w h => atoms_spec (ws := (Cond.code y_P_size b_P_size 1 (some .int) :: wA)) B.pre w (List.mem_cons_of_mem _ h)
  have hown : s.vm.findClass R_P = some m.cls := findClass_of_methodNamed B.named
  have hlocks := B.notSynchronized
  subst hsz
  have hD := hD0.self (sz := s.heap.size)
  have hA : ∀ q : Nat, s.heap.size ≤ q → va_A (wP b cI cC tx Fa Aa) s.heap.size q := fun q h => Or.inr h
  have hS : va_S (va_A (wP b cI cC tx Fa Aa) s.heap.size) s.heap s.heap [] := va_S.rf
  have hl := lv_entry (([.ref (b 0)] : List Value)) (n := 1) (Nat.le_of_ble_eq_true rfl)
  rw [lg_entry_eq]
  generalize (lg_sl (([.ref (b 0)] : List Value)) ++ List.replicate (1 - (lg_sl (([.ref (b 0)] : List Value))).length) Slot.unset).toArray = ls at hl ⊢
  have hl : lv_has ls 1 [(0, .ref (b 0))] := hl
  unfold f_P_size at hf
  refine lv_aload_n hx hb d_P_size_0 rfl (lv_at hl 0 rfl) ?_
  refine va_get (D := (dC, dI)) (ci := 3) (v := .ref (b 8)) (C := R_P) (T := T_P) (N := 6) hx hb hts in_P hown hK hP 0 rfl rfl 2 (by decide) (hts _ mw_107) (fun _ h9 => h9) rfl d_P_size_1 ?_
  refine va_get (D := (dC, dI)) (ci := 0) (v := .int (Fa 3)) (C := R_K) (T := T_K) (N := 7) hx hb hts in_K hown hK hP 8 rfl rfl 5 (by decide) (hts _ mw_47) (fun _ h9 => h9) rfl d_P_size_4 ?_
  cases hf
  exact W.iret hx hb hr (fun t ht hW => ⟨⟨_, (), rfl, rfl, by rw [ht]; exact hP, va_K.moved hW.alike hK, hD⟩, hS.F ht⟩) hS.2.2 d_P_size_7
def f_H_make (u1 : Int32) (u2 : Int32) (u3 : Int32) (Fa : ST_F) (Aa : ST_A) : Option (Int32 × ST_F × ST_A) := if u1 = 0 then (some (u2, Fa, Aa)) else (if u1 = (1 : Int32) then (ra_g u2 6 (some (((Aa 3) u2.toNatClampNeg), Fa, Aa))) else (ra_g u2 100 (ra_g u3 100 ((f_N_operate u1 ((Aa 2) u2.toNatClampNeg) ((Aa 2) u3.toNatClampNeg)).bind (fun r3 => some (r3, Fa, Aa))))))
set_option maxHeartbeats 4000000 in
set_option maxRecDepth 100000 in
theorem k_H_make (l : Launch) (dC : Nat → ClassId) (dI : Nat → Nat → Nat) (b : Nat → Nat) (cI cC : ClassId) (tx : Nat) (sz : Nat) (Fa : ST_F) (Aa : ST_A) (u1 : Int32) (u2 : Int32) (u3 : Int32) (r0 : Int32) (F9 : ST_F) (A9 : ST_A) (hf : f_H_make u1 u2 u3 Fa Aa = some (r0, F9, A9)) : cc_MetI l y_H_make (Cond.code y_H_make b_H_make 4 (some .int) :: wA) ({ frames := 3, cells := 0, slots := 0, locals := 64 } : Room) (dC, dI) vC [(cI, .int), (cC, .char)] ([.ref (b 3), .int u1, .int u2, .int u3] : List Value) (wP b cI cC tx Fa Aa) sz (wP b cI cC tx F9 A9) r0 := by
  refine Met.ofW (cc := b_H_make) (maxL := 4) (ret := (some .int)) (by decide) rfl ?_
  intro p e s m args below meth c s₁ B hml hv
  obtain ⟨rfl, hsz, hP, hK, hD0⟩ := hv
  have hx := B.exec
  have hb := B.bytes
  have hr := B.returns
  have hts := fun w h => atoms_spec (ws := (Cond.code y_H_make b_H_make 4 (some .int) :: wA)) B.pre w (List.mem_cons_of_mem _ h)
  have hown : s.vm.findClass R_H = some m.cls := findClass_of_methodNamed B.named
  have hlocks := B.notSynchronized
  subst hsz
  have hD := hD0.self (sz := s.heap.size)
  have hA : ∀ q : Nat, s.heap.size ≤ q → va_A (wP b cI cC tx Fa Aa) s.heap.size q := fun q h => Or.inr h
  have hS : va_S (va_A (wP b cI cC tx Fa Aa) s.heap.size) s.heap s.heap [] := va_S.rf
  have hl := lv_entry (([.ref (b 3), .int u1, .int u2, .int u3] : List Value)) (n := 4) (Nat.le_of_ble_eq_true rfl)
  rw [lg_entry_eq]
  generalize (lg_sl (([.ref (b 3), .int u1, .int u2, .int u3] : List Value)) ++ List.replicate (4 - (lg_sl (([.ref (b 3), .int u1, .int u2, .int u3] : List Value))).length) Slot.unset).toArray = ls at hl ⊢
  have hl : lv_has ls 4 [(0, .ref (b 3)), (1, .int u1), (2, .int u2), (3, .int u3)] := hl
  unfold f_H_make at hf
  refine lv_iload_n hx hb d_H_make_0 rfl (lv_at hl 1 rfl) ?_
  refine lv_if_ne (tgt := 6) hx hb d_H_make_1 (by decide) (fun h1_1 => ?_) (fun h1_1 => ?_)
  · rw [if_neg h1_1] at hf
    refine lv_iload_n hx hb d_H_make_6 rfl (lv_at hl 1 rfl) ?_
    refine lv_iconst (v := 1) hx hb d_H_make_7 (by decide) ?_
    refine lv_icmp_ne (tgt := 18) hx hb d_H_make_8 (by decide) (fun h8_2 => ?_) (fun h8_2 => ?_)
    · rw [if_neg h8_2] at hf
      refine lv_iload_n hx hb d_H_make_18 rfl (lv_at hl 1 rfl) ?_
      refine lv_aload_n hx hb d_H_make_19 rfl (lv_at hl 0 rfl) ?_
      refine va_get (D := (dC, dI)) (ci := 2) (v := .ref (b 4)) (C := R_H) (T := T_H) (N := 2) hx hb hts in_H hown hK hP 3 rfl rfl 0 (by decide) (hts _ mw_97) (fun _ h9 => h9) rfl d_H_make_20 ?_
      refine lv_iload_n hx hb d_H_make_23 rfl (lv_at hl 2 rfl) ?_
      obtain ⟨hi, hf⟩ := ra_g_some hf
      refine va_iald hx hb hK hP 4 0 rfl rfl hi d_H_make_24 ?_
      refine lv_aload_n hx hb d_H_make_25 rfl (lv_at hl 0 rfl) ?_
      refine va_get (D := (dC, dI)) (ci := 2) (v := .ref (b 4)) (C := R_H) (T := T_H) (N := 2) hx hb hts in_H hown hK hP 3 rfl rfl 0 (by decide) (hts _ mw_97) (fun _ h9 => h9) rfl d_H_make_26 ?_
      refine lv_iload_n hx hb d_H_make_29 rfl (lv_at hl 3 rfl) ?_
      obtain ⟨hi, hf⟩ := ra_g_some hf
      refine va_iald hx hb hK hP 4 0 rfl rfl hi d_H_make_30 ?_
      obtain ⟨r3, hc, hf⟩ := Option.bind_eq_some_iff.mp hf
      refine cc_calls (va_runS (As := [.int u1, .int ((Aa 2) u2.toNatClampNeg), .int ((Aa 2) u3.toNatClampNeg)]) (rest := []) ⟨hx, hb, hml, hown, hts⟩ (k_N_operate l u1 ((Aa 2) u2.toNatClampNeg) ((Aa 2) u3.toNatClampNeg) r3 hc) (cw_S 3 hts mw_443 mw_444 mw_14 mw_445 rfl rfl hd_N_operate ⟨Nat.le_of_ble_eq_true rfl, Nat.le_of_ble_eq_true rfl⟩) cc_preS rfl rfl hl.1 rfl (lv_room (Nat.le_of_ble_eq_true rfl)) d_H_make_31 ⟨Nat.zero_le _, Nat.zero_le _⟩) ?_
      cases hf
      exact W.iret hx hb hr (fun t ht hW => ⟨⟨_, (), rfl, rfl, by rw [ht]; exact hP, va_K.moved hW.alike hK, hD⟩, hS.F ht⟩) hS.2.2 d_H_make_34
    · rw [if_pos h8_2] at hf
      refine lv_aload_n hx hb d_H_make_11 rfl (lv_at hl 0 rfl) ?_
      refine va_get (D := (dC, dI)) (ci := 2) (v := .ref (b 5)) (C := R_H) (T := T_H) (N := 2) hx hb hts in_H hown hK hP 3 rfl rfl 1 (by decide) (hts _ mw_99) (fun _ h9 => h9) rfl d_H_make_12 ?_
      refine lv_iload_n hx hb d_H_make_15 rfl (lv_at hl 2 rfl) ?_
      obtain ⟨hi, hf⟩ := ra_g_some hf
      refine va_iald hx hb hK hP 5 0 rfl rfl hi d_H_make_16 ?_
      cases hf
      exact W.iret hx hb hr (fun t ht hW => ⟨⟨_, (), rfl, rfl, by rw [ht]; exact hP, va_K.moved hW.alike hK, hD⟩, hS.F ht⟩) hS.2.2 d_H_make_17
  · rw [if_pos h1_1] at hf
    refine lv_iload_n hx hb d_H_make_4 rfl (lv_at hl 2 rfl) ?_
    cases hf
    exact W.iret hx hb hr (fun t ht hW => ⟨⟨_, (), rfl, rfl, by rw [ht]; exact hP, va_K.moved hW.alike hK, hD⟩, hS.F ht⟩) hS.2.2 d_H_make_5
def f_H_work_L68 : Nat → Int32 → Int32 → Int32 → Int32 → Int32 → ST_F → ST_A → Option (ST_F × ST_A)
  | 0, _, _, _, _, _, _, _ => none
  | n + 1, x2, x3, x4, x5, x6, F, A => if (F 3) ≤ x6 then (some (F, A)) else (ra_g x6 100 (ra_g x6 100 (ra_g x6 100 (ra_bi (f_H_make ((A 5) x6.toNatClampNeg) ((A 6) x6.toNatClampNeg) ((A 7) x6.toNatClampNeg) F A) (fun r3 F3 A3 => ra_g x6 100 (f_H_work_L68 n x2 x3 x4 x5 (x6 + (1 : Int32)) F3 (va_up A3 2 (upd (A3 2) x6.toNatClampNeg r3))))))))
def f_H_work_L25 : Nat → Int32 → Int32 → Int32 → Int32 → Int32 → ST_F → ST_A → Option (ST_F × ST_A)
  | 0, _, _, _, _, _, _, _ => none
  | n + 1, x2, x3, x4, x5, x6, F, A => if (3 : Int32) ≤ x6 then (f_H_work_L68 400 x2 x3 x4 x5 (0 : Int32) F A) else (ra_g ((3 : Int32) + x6) 6 (f_H_work_L25 n x2 x3 x4 x5 (x6 + (1 : Int32)) F (va_up A 3 (upd (A 3) ((3 : Int32) + x6).toNatClampNeg (((x5 >>> (((16 : Int32) - ((8 : Int32) * x6)) &&& 31)) &&& (255 : Int32)) * (256 : Int32))))))
def f_H_work (u2 : Int32) (u3 : Int32) (u4 : Int32) (u5 : Int32) (Fa : ST_F) (Aa : ST_A) : Option (ST_F × ST_A) := ra_g (0 : Int32) 6 (ra_g (1 : Int32) 6 (ra_g (2 : Int32) 6 (f_H_work_L25 400 u2 u3 u4 u5 (0 : Int32) Fa (va_up Aa 3 (upd (upd (upd (Aa 3) (0 : Int32).toNatClampNeg u2) (1 : Int32).toNatClampNeg u3) (2 : Int32).toNatClampNeg u4)))))
set_option maxHeartbeats 4000000 in
set_option maxRecDepth 100000 in
theorem k_H_work (l : Launch) (dC : Nat → ClassId) (dI : Nat → Nat → Nat) (b : Nat → Nat) (cI cC : ClassId) (tx : Nat) (sz : Nat) (Fa : ST_F) (Aa : ST_A) (u2 : Int32) (u3 : Int32) (u4 : Int32) (u5 : Int32) (F9 : ST_F) (A9 : ST_A) (hf : f_H_work u2 u3 u4 u5 Fa Aa = some (F9, A9)) : cc_MetV l y_H_work (Cond.code y_H_work b_H_work 7 none :: wA) ({ frames := 4, cells := 0, slots := 0, locals := 87 } : Room) (dC, dI) vC [(cI, .int), (cC, .char)] ([.ref (b 3), .ref (b 8), .int u2, .int u3, .int u4, .int u5] : List Value) (wP b cI cC tx Fa Aa) sz (wP b cI cC tx F9 A9) := by
  refine Met.ofW (cc := b_H_work) (maxL := 7) (ret := none) (by decide) rfl ?_
  intro p e s m args below meth c s₁ B hml hv
  obtain ⟨rfl, hsz, hP, hK, hD0⟩ := hv
  have hx := B.exec
  have hb := B.bytes
  have hr := B.returns
  have hts := fun w h => atoms_spec (ws := (Cond.code y_H_work b_H_work 7 none :: wA)) B.pre w (List.mem_cons_of_mem _ h)
  have hown : s.vm.findClass R_H = some m.cls := findClass_of_methodNamed B.named
  have hlocks := B.notSynchronized
  subst hsz
  have hD := hD0.self (sz := s.heap.size)
  have hA : ∀ q : Nat, s.heap.size ≤ q → va_A (wP b cI cC tx Fa Aa) s.heap.size q := fun q h => Or.inr h
  have hS : va_S (va_A (wP b cI cC tx Fa Aa) s.heap.size) s.heap s.heap [] := va_S.rf
  have hl := lv_entry (([.ref (b 3), .ref (b 8), .int u2, .int u3, .int u4, .int u5] : List Value)) (n := 7) (Nat.le_of_ble_eq_true rfl)
  have L68 : ∀ (n : Nat) (x2 : Int32) (x3 : Int32) (x4 : Int32) (x5 : Int32) (x6 : Int32) (F : ST_F) (A : ST_A) (H : Heap) (locs : List Loc) (ls : Array Slot), lv_has ls 7 [(0, .ref (b 3)), (1, .ref (b 8)), (2, .int x2), (3, .int x3), (4, .int x4), (5, .int x5), (6, .int x6)] → va_P (dC, dI) vC (wP b cI cC tx F A) H → va_D (va_A (wP b cI cC tx Fa Aa) s.heap.size) (wP b cI cC tx F A) → va_S (va_A (wP b cI cC tx Fa Aa) s.heap.size) s.heap H locs → f_H_work_L68 n x2 x3 x4 x5 x6 F A = some (F9, A9) → W p l e (headSpec (Cond.code y_H_work b_H_work 7 none :: wA) ({ frames := 4, cells := 0, slots := 0, locals := 87 } : Room)).room s m ([.ref (b 3), .ref (b 8), .int u2, .int u3, .int u4, .int u5] : List Value).toArray below meth c H locs 0 0 (MQ below (cc_Qv (dC, dI) vC [(cI, .int), (cC, .char)] (wP b cI cC tx Fa Aa) s.heap.size (wP b cI cC tx F9 A9)) ([.ref (b 3), .ref (b 8), .int u2, .int u3, .int u4, .int u5] : List Value).toArray s 0 0 (va_A (wP b cI cC tx Fa Aa) s.heap.size)) (F0 m 68 ls []) := by
    intro n
    induction n with
    | zero => intro x2 x3 x4 x5 x6 F A H locs ls hl hP hD hS hf; cases hf
    | succ n ih =>
      intro x2 x3 x4 x5 x6 F A H locs ls hl hP hD hS hf
      rw [f_H_work_L68] at hf
      refine lv_iload hx hb d_H_work_68 (lv_at hl 6 rfl) ?_
      refine lv_aload_n hx hb d_H_work_70 rfl (lv_at hl 1 rfl) ?_
      refine va_get (D := (dC, dI)) (ci := 0) (v := .int (F 3)) (C := R_K) (T := T_K) (N := 7) hx hb hts in_K hown hK hP 8 rfl rfl 5 (by decide) (hts _ mw_46) (fun _ h9 => h9) rfl d_H_work_71 ?_
      refine lv_icmp_ge (tgt := 115) hx hb d_H_work_74 (by decide) (fun h74_2 => ?_) (fun h74_2 => ?_)
      · rw [if_pos h74_2] at hf
        cases hf
        exact W.vret hx hb hr (fun t ht hW => ⟨⟨(), rfl, trivial, by rw [ht]; exact hP, va_K.moved hW.alike hK, hD⟩, hS.F ht⟩) hS.2.2 d_H_work_115
      · rw [if_neg h74_2] at hf
        refine lv_aload_n hx hb d_H_work_77 rfl (lv_at hl 0 rfl) ?_
        refine va_get (D := (dC, dI)) (ci := 2) (v := .ref (b 4)) (C := R_H) (T := T_H) (N := 2) hx hb hts in_H hown hK hP 3 rfl rfl 0 (by decide) (hts _ mw_97) (fun _ h9 => h9) rfl d_H_work_78 ?_
        refine lv_iload hx hb d_H_work_81 (lv_at hl 6 rfl) ?_
        refine lv_aload_n hx hb d_H_work_83 rfl (lv_at hl 0 rfl) ?_
        refine lv_aload_n hx hb d_H_work_84 rfl (lv_at hl 1 rfl) ?_
        refine va_get (D := (dC, dI)) (ci := 0) (v := .ref (b 9)) (C := R_K) (T := T_K) (N := 7) hx hb hts in_K hown hK hP 8 rfl rfl 0 (by decide) (hts _ mw_30) (fun _ h9 => h9) rfl d_H_work_85 ?_
        refine lv_iload hx hb d_H_work_88 (lv_at hl 6 rfl) ?_
        obtain ⟨hi, hf⟩ := ra_g_some hf
        refine va_iald hx hb hK hP 9 0 rfl rfl hi d_H_work_90 ?_
        refine lv_aload_n hx hb d_H_work_91 rfl (lv_at hl 1 rfl) ?_
        refine va_get (D := (dC, dI)) (ci := 0) (v := .ref (b 10)) (C := R_K) (T := T_K) (N := 7) hx hb hts in_K hown hK hP 8 rfl rfl 1 (by decide) (hts _ mw_33) (fun _ h9 => h9) rfl d_H_work_92 ?_
        refine lv_iload hx hb d_H_work_95 (lv_at hl 6 rfl) ?_
        obtain ⟨hi, hf⟩ := ra_g_some hf
        refine va_iald hx hb hK hP 10 0 rfl rfl hi d_H_work_97 ?_
        refine lv_aload_n hx hb d_H_work_98 rfl (lv_at hl 1 rfl) ?_
        refine va_get (D := (dC, dI)) (ci := 0) (v := .ref (b 11)) (C := R_K) (T := T_K) (N := 7) hx hb hts in_K hown hK hP 8 rfl rfl 2 (by decide) (hts _ mw_36) (fun _ h9 => h9) rfl d_H_work_99 ?_
        refine lv_iload hx hb d_H_work_102 (lv_at hl 6 rfl) ?_
        obtain ⟨hi, hf⟩ := ra_g_some hf
        refine va_iald hx hb hK hP 11 0 rfl rfl hi d_H_work_104 ?_
        have hP : va_P (dC, dI) vC (wP b cI cC tx F A) H := hP
        have hD : va_D (va_A (wP b cI cC tx Fa Aa) s.heap.size) (wP b cI cC tx F A) := hD
        obtain ⟨r3, F3, A3, hc, hf⟩ := ra_bi_some hf
        refine cc_calli (va_runV (As := [.int ((A 5) x6.toNatClampNeg), .int ((A 6) x6.toNatClampNeg), .int ((A 7) x6.toNatClampNeg)]) (rest := [.int x6, .ref (b 4)]) ⟨hx, hb, hml, hown, hts⟩ (k_H_make l dC dI b cI cC tx H.size F A ((A 5) x6.toNatClampNeg) ((A 6) x6.toNatClampNeg) ((A 7) x6.toNatClampNeg) r3 F3 A3 hc) (cw_V 3 hts mw_439 mw_441 ms_H_make mw_4 mw_442 rfl rfl rfl hd_H_make ⟨Nat.le_of_ble_eq_true rfl, Nat.le_of_ble_eq_true rfl⟩) (cc_preV hK hP hD rfl (q0 := 3) rfl) rfl rfl hl.1 rfl (lv_room (Nat.le_of_ble_eq_true rfl)) d_H_work_105 ⟨Nat.zero_le _, Nat.zero_le _⟩) hD hS hA (fun H locs hP hD hS => ?_)
        obtain ⟨hi, hf⟩ := ra_g_some hf
        refine va_iast hx hb hK hP hD hS 4 0 rfl rfl hi d_H_work_108 (fun H locs hP hD hS => ?_)
        have hP : va_P (dC, dI) vC [((b 0), .inr (3, [.ref (b 1), .int (F3 0), .ref (b 8), .ref (b 6), .ref (b 3), .ref (b 2)])), ((b 1), .inl (cC, 160, .inl (A3 0))), ((b 2), .inl (cI, 32, .inl (A3 1))), ((b 3), .inr (2, [.ref (b 4), .ref (b 5)])), ((b 4), .inl (cI, 100, .inl (upd (A3 2) x6.toNatClampNeg r3))), ((b 5), .inl (cI, 6, .inl (A3 3))), ((b 6), .inr (1, [.ref (b 7), .ref tx, .int (F3 1), .int (F3 2), .ref (b 14)])), ((b 7), .inl (cI, 26, .inl (A3 4))), ((b 8), .inr (0, [.ref (b 9), .ref (b 10), .ref (b 11), .ref (b 12), .ref (b 13), .int (F3 3), .int (F3 4)])), ((b 9), .inl (cI, 100, .inl (A3 5))), ((b 10), .inl (cI, 100, .inl (A3 6))), ((b 11), .inl (cI, 100, .inl (A3 7))), ((b 12), .inl (cI, 3, .inl (A3 8))), ((b 13), .inl (cI, 26, .inl (A3 9))), ((b 14), .inr (0, [.ref (b 15), .ref (b 16), .ref (b 17), .ref (b 18), .ref (b 19), .int (F3 5), .int (F3 6)])), ((b 15), .inl (cI, 100, .inl (A3 10))), ((b 16), .inl (cI, 100, .inl (A3 11))), ((b 17), .inl (cI, 100, .inl (A3 12))), ((b 18), .inl (cI, 3, .inl (A3 13))), ((b 19), .inl (cI, 26, .inl (A3 14)))] H := hP
        have hD : va_D (va_A (wP b cI cC tx Fa Aa) s.heap.size) [((b 0), .inr (3, [.ref (b 1), .int (F3 0), .ref (b 8), .ref (b 6), .ref (b 3), .ref (b 2)])), ((b 1), .inl (cC, 160, .inl (A3 0))), ((b 2), .inl (cI, 32, .inl (A3 1))), ((b 3), .inr (2, [.ref (b 4), .ref (b 5)])), ((b 4), .inl (cI, 100, .inl (upd (A3 2) x6.toNatClampNeg r3))), ((b 5), .inl (cI, 6, .inl (A3 3))), ((b 6), .inr (1, [.ref (b 7), .ref tx, .int (F3 1), .int (F3 2), .ref (b 14)])), ((b 7), .inl (cI, 26, .inl (A3 4))), ((b 8), .inr (0, [.ref (b 9), .ref (b 10), .ref (b 11), .ref (b 12), .ref (b 13), .int (F3 3), .int (F3 4)])), ((b 9), .inl (cI, 100, .inl (A3 5))), ((b 10), .inl (cI, 100, .inl (A3 6))), ((b 11), .inl (cI, 100, .inl (A3 7))), ((b 12), .inl (cI, 3, .inl (A3 8))), ((b 13), .inl (cI, 26, .inl (A3 9))), ((b 14), .inr (0, [.ref (b 15), .ref (b 16), .ref (b 17), .ref (b 18), .ref (b 19), .int (F3 5), .int (F3 6)])), ((b 15), .inl (cI, 100, .inl (A3 10))), ((b 16), .inl (cI, 100, .inl (A3 11))), ((b 17), .inl (cI, 100, .inl (A3 12))), ((b 18), .inl (cI, 3, .inl (A3 13))), ((b 19), .inl (cI, 26, .inl (A3 14)))] := hD
        refine lv_iinc (k := 6) (v := (x6 + (1 : Int32))) hx hb d_H_work_109 hl rfl (by rfl) (by decide) rfl (fun ls hl => ?_)
        have hl : lv_has ls 7 [(6, .int (x6 + (1 : Int32))), (0, .ref (b 3)), (1, .ref (b 8)), (2, .int x2), (3, .int x3), (4, .int x4), (5, .int x5)] := hl
        refine lv_goto (tgt := 68) hx hb d_H_work_112 (by decide) ?_
        have hl : lv_has ls 7 [(0, .ref (b 3)), (1, .ref (b 8)), (2, .int x2), (3, .int x3), (4, .int x4), (5, .int x5), (6, .int (x6 + (1 : Int32)))] := lv_sub hl [1, 2, 3, 4, 5, 6, 0] rfl
        exact ih x2 x3 x4 x5 (x6 + (1 : Int32)) F3 (va_up A3 2 (upd (A3 2) x6.toNatClampNeg r3)) _ _ _ hl hP hD hS hf
  have L25 : ∀ (n : Nat) (x2 : Int32) (x3 : Int32) (x4 : Int32) (x5 : Int32) (x6 : Int32) (F : ST_F) (A : ST_A) (H : Heap) (locs : List Loc) (ls : Array Slot), lv_has ls 7 [(0, .ref (b 3)), (1, .ref (b 8)), (2, .int x2), (3, .int x3), (4, .int x4), (5, .int x5), (6, .int x6)] → va_P (dC, dI) vC (wP b cI cC tx F A) H → va_D (va_A (wP b cI cC tx Fa Aa) s.heap.size) (wP b cI cC tx F A) → va_S (va_A (wP b cI cC tx Fa Aa) s.heap.size) s.heap H locs → f_H_work_L25 n x2 x3 x4 x5 x6 F A = some (F9, A9) → W p l e (headSpec (Cond.code y_H_work b_H_work 7 none :: wA) ({ frames := 4, cells := 0, slots := 0, locals := 87 } : Room)).room s m ([.ref (b 3), .ref (b 8), .int u2, .int u3, .int u4, .int u5] : List Value).toArray below meth c H locs 0 0 (MQ below (cc_Qv (dC, dI) vC [(cI, .int), (cC, .char)] (wP b cI cC tx Fa Aa) s.heap.size (wP b cI cC tx F9 A9)) ([.ref (b 3), .ref (b 8), .int u2, .int u3, .int u4, .int u5] : List Value).toArray s 0 0 (va_A (wP b cI cC tx Fa Aa) s.heap.size)) (F0 m 25 ls []) := by
    intro n
    induction n with
    | zero => intro x2 x3 x4 x5 x6 F A H locs ls hl hP hD hS hf; cases hf
    | succ n ih =>
      intro x2 x3 x4 x5 x6 F A H locs ls hl hP hD hS hf
      rw [f_H_work_L25] at hf
      refine lv_iload hx hb d_H_work_25 (lv_at hl 6 rfl) ?_
      refine lv_iconst (v := 3) hx hb d_H_work_27 (by decide) ?_
      refine lv_icmp_ge (tgt := 65) hx hb d_H_work_28 (by decide) (fun h28_1 => ?_) (fun h28_1 => ?_)
      · rw [if_pos h28_1] at hf
        refine lv_iconst (v := 0) hx hb d_H_work_65 (by decide) ?_
        refine lv_istore hx hb d_H_work_66 hl (by decide) rfl (fun ls hl => ?_)
        have hl : lv_has ls 7 [(6, .int (0 : Int32)), (0, .ref (b 3)), (1, .ref (b 8)), (2, .int x2), (3, .int x3), (4, .int x4), (5, .int x5)] := hl
        have hl : lv_has ls 7 [(0, .ref (b 3)), (1, .ref (b 8)), (2, .int x2), (3, .int x3), (4, .int x4), (5, .int x5), (6, .int (0 : Int32))] := lv_sub hl [1, 2, 3, 4, 5, 6, 0] rfl
        exact L68 400 x2 x3 x4 x5 (0 : Int32) F A _ _ _ hl hP hD hS hf
      · rw [if_neg h28_1] at hf
        refine lv_aload_n hx hb d_H_work_31 rfl (lv_at hl 0 rfl) ?_
        refine va_get (D := (dC, dI)) (ci := 2) (v := .ref (b 5)) (C := R_H) (T := T_H) (N := 2) hx hb hts in_H hown hK hP 3 rfl rfl 1 (by decide) (hts _ mw_99) (fun _ h9 => h9) rfl d_H_work_32 ?_
        refine lv_iconst (v := 3) hx hb d_H_work_35 (by decide) ?_
        refine lv_iload hx hb d_H_work_36 (lv_at hl 6 rfl) ?_
        refine lv_iadd hx hb d_H_work_38 ?_
        refine lv_iload hx hb d_H_work_39 (lv_at hl 5 rfl) ?_
        refine lv_bipush (v := 16) hx hb d_H_work_41 (by decide) ?_
        refine lv_bipush (v := 8) hx hb d_H_work_43 (by decide) ?_
        refine lv_iload hx hb d_H_work_45 (lv_at hl 6 rfl) ?_
        refine lv_imul hx hb d_H_work_47 ?_
        refine lv_isub hx hb d_H_work_48 ?_
        refine lv_ishr hx hb d_H_work_49 ?_
        refine lv_sipush (v := 255) hx hb d_H_work_50 (by decide) ?_
        refine lv_iand hx hb d_H_work_53 ?_
        refine lv_sipush (v := 256) hx hb d_H_work_54 (by decide) ?_
        refine lv_imul hx hb d_H_work_57 ?_
        obtain ⟨hi, hf⟩ := ra_g_some hf
        refine va_iast hx hb hK hP hD hS 5 0 rfl rfl hi d_H_work_58 (fun H locs hP hD hS => ?_)
        have hP : va_P (dC, dI) vC [((b 0), .inr (3, [.ref (b 1), .int (F 0), .ref (b 8), .ref (b 6), .ref (b 3), .ref (b 2)])), ((b 1), .inl (cC, 160, .inl (A 0))), ((b 2), .inl (cI, 32, .inl (A 1))), ((b 3), .inr (2, [.ref (b 4), .ref (b 5)])), ((b 4), .inl (cI, 100, .inl (A 2))), ((b 5), .inl (cI, 6, .inl (upd (A 3) ((3 : Int32) + x6).toNatClampNeg (((x5 >>> (((16 : Int32) - ((8 : Int32) * x6)) &&& 31)) &&& (255 : Int32)) * (256 : Int32))))), ((b 6), .inr (1, [.ref (b 7), .ref tx, .int (F 1), .int (F 2), .ref (b 14)])), ((b 7), .inl (cI, 26, .inl (A 4))), ((b 8), .inr (0, [.ref (b 9), .ref (b 10), .ref (b 11), .ref (b 12), .ref (b 13), .int (F 3), .int (F 4)])), ((b 9), .inl (cI, 100, .inl (A 5))), ((b 10), .inl (cI, 100, .inl (A 6))), ((b 11), .inl (cI, 100, .inl (A 7))), ((b 12), .inl (cI, 3, .inl (A 8))), ((b 13), .inl (cI, 26, .inl (A 9))), ((b 14), .inr (0, [.ref (b 15), .ref (b 16), .ref (b 17), .ref (b 18), .ref (b 19), .int (F 5), .int (F 6)])), ((b 15), .inl (cI, 100, .inl (A 10))), ((b 16), .inl (cI, 100, .inl (A 11))), ((b 17), .inl (cI, 100, .inl (A 12))), ((b 18), .inl (cI, 3, .inl (A 13))), ((b 19), .inl (cI, 26, .inl (A 14)))] H := hP
        have hD : va_D (va_A (wP b cI cC tx Fa Aa) s.heap.size) [((b 0), .inr (3, [.ref (b 1), .int (F 0), .ref (b 8), .ref (b 6), .ref (b 3), .ref (b 2)])), ((b 1), .inl (cC, 160, .inl (A 0))), ((b 2), .inl (cI, 32, .inl (A 1))), ((b 3), .inr (2, [.ref (b 4), .ref (b 5)])), ((b 4), .inl (cI, 100, .inl (A 2))), ((b 5), .inl (cI, 6, .inl (upd (A 3) ((3 : Int32) + x6).toNatClampNeg (((x5 >>> (((16 : Int32) - ((8 : Int32) * x6)) &&& 31)) &&& (255 : Int32)) * (256 : Int32))))), ((b 6), .inr (1, [.ref (b 7), .ref tx, .int (F 1), .int (F 2), .ref (b 14)])), ((b 7), .inl (cI, 26, .inl (A 4))), ((b 8), .inr (0, [.ref (b 9), .ref (b 10), .ref (b 11), .ref (b 12), .ref (b 13), .int (F 3), .int (F 4)])), ((b 9), .inl (cI, 100, .inl (A 5))), ((b 10), .inl (cI, 100, .inl (A 6))), ((b 11), .inl (cI, 100, .inl (A 7))), ((b 12), .inl (cI, 3, .inl (A 8))), ((b 13), .inl (cI, 26, .inl (A 9))), ((b 14), .inr (0, [.ref (b 15), .ref (b 16), .ref (b 17), .ref (b 18), .ref (b 19), .int (F 5), .int (F 6)])), ((b 15), .inl (cI, 100, .inl (A 10))), ((b 16), .inl (cI, 100, .inl (A 11))), ((b 17), .inl (cI, 100, .inl (A 12))), ((b 18), .inl (cI, 3, .inl (A 13))), ((b 19), .inl (cI, 26, .inl (A 14)))] := hD
        refine lv_iinc (k := 6) (v := (x6 + (1 : Int32))) hx hb d_H_work_59 hl rfl (by rfl) (by decide) rfl (fun ls hl => ?_)
        have hl : lv_has ls 7 [(6, .int (x6 + (1 : Int32))), (0, .ref (b 3)), (1, .ref (b 8)), (2, .int x2), (3, .int x3), (4, .int x4), (5, .int x5)] := hl
        refine lv_goto (tgt := 25) hx hb d_H_work_62 (by decide) ?_
        have hl : lv_has ls 7 [(0, .ref (b 3)), (1, .ref (b 8)), (2, .int x2), (3, .int x3), (4, .int x4), (5, .int x5), (6, .int (x6 + (1 : Int32)))] := lv_sub hl [1, 2, 3, 4, 5, 6, 0] rfl
        exact ih x2 x3 x4 x5 (x6 + (1 : Int32)) F (va_up A 3 (upd (A 3) ((3 : Int32) + x6).toNatClampNeg (((x5 >>> (((16 : Int32) - ((8 : Int32) * x6)) &&& 31)) &&& (255 : Int32)) * (256 : Int32)))) _ _ _ hl hP hD hS hf
  rw [lg_entry_eq]
  generalize (lg_sl (([.ref (b 3), .ref (b 8), .int u2, .int u3, .int u4, .int u5] : List Value)) ++ List.replicate (7 - (lg_sl (([.ref (b 3), .ref (b 8), .int u2, .int u3, .int u4, .int u5] : List Value))).length) Slot.unset).toArray = ls at hl ⊢
  have hl : lv_has ls 7 [(0, .ref (b 3)), (1, .ref (b 8)), (2, .int u2), (3, .int u3), (4, .int u4), (5, .int u5)] := hl
  unfold f_H_work at hf
  refine lv_aload_n hx hb d_H_work_0 rfl (lv_at hl 0 rfl) ?_
  refine va_get (D := (dC, dI)) (ci := 2) (v := .ref (b 5)) (C := R_H) (T := T_H) (N := 2) hx hb hts in_H hown hK hP 3 rfl rfl 1 (by decide) (hts _ mw_99) (fun _ h9 => h9) rfl d_H_work_1 ?_
  refine lv_iconst (v := 0) hx hb d_H_work_4 (by decide) ?_
  refine lv_iload_n hx hb d_H_work_5 rfl (lv_at hl 2 rfl) ?_
  obtain ⟨hi, hf⟩ := ra_g_some hf
  refine va_iast hx hb hK hP hD hS 5 0 rfl rfl hi d_H_work_6 (fun H locs hP hD hS => ?_)
  have hP : va_P (dC, dI) vC [((b 0), .inr (3, [.ref (b 1), .int (Fa 0), .ref (b 8), .ref (b 6), .ref (b 3), .ref (b 2)])), ((b 1), .inl (cC, 160, .inl (Aa 0))), ((b 2), .inl (cI, 32, .inl (Aa 1))), ((b 3), .inr (2, [.ref (b 4), .ref (b 5)])), ((b 4), .inl (cI, 100, .inl (Aa 2))), ((b 5), .inl (cI, 6, .inl (upd (Aa 3) (0 : Int32).toNatClampNeg u2))), ((b 6), .inr (1, [.ref (b 7), .ref tx, .int (Fa 1), .int (Fa 2), .ref (b 14)])), ((b 7), .inl (cI, 26, .inl (Aa 4))), ((b 8), .inr (0, [.ref (b 9), .ref (b 10), .ref (b 11), .ref (b 12), .ref (b 13), .int (Fa 3), .int (Fa 4)])), ((b 9), .inl (cI, 100, .inl (Aa 5))), ((b 10), .inl (cI, 100, .inl (Aa 6))), ((b 11), .inl (cI, 100, .inl (Aa 7))), ((b 12), .inl (cI, 3, .inl (Aa 8))), ((b 13), .inl (cI, 26, .inl (Aa 9))), ((b 14), .inr (0, [.ref (b 15), .ref (b 16), .ref (b 17), .ref (b 18), .ref (b 19), .int (Fa 5), .int (Fa 6)])), ((b 15), .inl (cI, 100, .inl (Aa 10))), ((b 16), .inl (cI, 100, .inl (Aa 11))), ((b 17), .inl (cI, 100, .inl (Aa 12))), ((b 18), .inl (cI, 3, .inl (Aa 13))), ((b 19), .inl (cI, 26, .inl (Aa 14)))] H := hP
  have hD : va_D (va_A (wP b cI cC tx Fa Aa) s.heap.size) [((b 0), .inr (3, [.ref (b 1), .int (Fa 0), .ref (b 8), .ref (b 6), .ref (b 3), .ref (b 2)])), ((b 1), .inl (cC, 160, .inl (Aa 0))), ((b 2), .inl (cI, 32, .inl (Aa 1))), ((b 3), .inr (2, [.ref (b 4), .ref (b 5)])), ((b 4), .inl (cI, 100, .inl (Aa 2))), ((b 5), .inl (cI, 6, .inl (upd (Aa 3) (0 : Int32).toNatClampNeg u2))), ((b 6), .inr (1, [.ref (b 7), .ref tx, .int (Fa 1), .int (Fa 2), .ref (b 14)])), ((b 7), .inl (cI, 26, .inl (Aa 4))), ((b 8), .inr (0, [.ref (b 9), .ref (b 10), .ref (b 11), .ref (b 12), .ref (b 13), .int (Fa 3), .int (Fa 4)])), ((b 9), .inl (cI, 100, .inl (Aa 5))), ((b 10), .inl (cI, 100, .inl (Aa 6))), ((b 11), .inl (cI, 100, .inl (Aa 7))), ((b 12), .inl (cI, 3, .inl (Aa 8))), ((b 13), .inl (cI, 26, .inl (Aa 9))), ((b 14), .inr (0, [.ref (b 15), .ref (b 16), .ref (b 17), .ref (b 18), .ref (b 19), .int (Fa 5), .int (Fa 6)])), ((b 15), .inl (cI, 100, .inl (Aa 10))), ((b 16), .inl (cI, 100, .inl (Aa 11))), ((b 17), .inl (cI, 100, .inl (Aa 12))), ((b 18), .inl (cI, 3, .inl (Aa 13))), ((b 19), .inl (cI, 26, .inl (Aa 14)))] := hD
  refine lv_aload_n hx hb d_H_work_7 rfl (lv_at hl 0 rfl) ?_
  refine va_get (D := (dC, dI)) (ci := 2) (v := .ref (b 5)) (C := R_H) (T := T_H) (N := 2) hx hb hts in_H hown hK hP 3 rfl rfl 1 (by decide) (hts _ mw_99) (fun _ h9 => h9) rfl d_H_work_8 ?_
  refine lv_iconst (v := 1) hx hb d_H_work_11 (by decide) ?_
  refine lv_iload_n hx hb d_H_work_12 rfl (lv_at hl 3 rfl) ?_
  obtain ⟨hi, hf⟩ := ra_g_some hf
  refine va_iast hx hb hK hP hD hS 5 0 rfl rfl hi d_H_work_13 (fun H locs hP hD hS => ?_)
  have hP : va_P (dC, dI) vC [((b 0), .inr (3, [.ref (b 1), .int (Fa 0), .ref (b 8), .ref (b 6), .ref (b 3), .ref (b 2)])), ((b 1), .inl (cC, 160, .inl (Aa 0))), ((b 2), .inl (cI, 32, .inl (Aa 1))), ((b 3), .inr (2, [.ref (b 4), .ref (b 5)])), ((b 4), .inl (cI, 100, .inl (Aa 2))), ((b 5), .inl (cI, 6, .inl (upd (upd (Aa 3) (0 : Int32).toNatClampNeg u2) (1 : Int32).toNatClampNeg u3))), ((b 6), .inr (1, [.ref (b 7), .ref tx, .int (Fa 1), .int (Fa 2), .ref (b 14)])), ((b 7), .inl (cI, 26, .inl (Aa 4))), ((b 8), .inr (0, [.ref (b 9), .ref (b 10), .ref (b 11), .ref (b 12), .ref (b 13), .int (Fa 3), .int (Fa 4)])), ((b 9), .inl (cI, 100, .inl (Aa 5))), ((b 10), .inl (cI, 100, .inl (Aa 6))), ((b 11), .inl (cI, 100, .inl (Aa 7))), ((b 12), .inl (cI, 3, .inl (Aa 8))), ((b 13), .inl (cI, 26, .inl (Aa 9))), ((b 14), .inr (0, [.ref (b 15), .ref (b 16), .ref (b 17), .ref (b 18), .ref (b 19), .int (Fa 5), .int (Fa 6)])), ((b 15), .inl (cI, 100, .inl (Aa 10))), ((b 16), .inl (cI, 100, .inl (Aa 11))), ((b 17), .inl (cI, 100, .inl (Aa 12))), ((b 18), .inl (cI, 3, .inl (Aa 13))), ((b 19), .inl (cI, 26, .inl (Aa 14)))] H := hP
  have hD : va_D (va_A (wP b cI cC tx Fa Aa) s.heap.size) [((b 0), .inr (3, [.ref (b 1), .int (Fa 0), .ref (b 8), .ref (b 6), .ref (b 3), .ref (b 2)])), ((b 1), .inl (cC, 160, .inl (Aa 0))), ((b 2), .inl (cI, 32, .inl (Aa 1))), ((b 3), .inr (2, [.ref (b 4), .ref (b 5)])), ((b 4), .inl (cI, 100, .inl (Aa 2))), ((b 5), .inl (cI, 6, .inl (upd (upd (Aa 3) (0 : Int32).toNatClampNeg u2) (1 : Int32).toNatClampNeg u3))), ((b 6), .inr (1, [.ref (b 7), .ref tx, .int (Fa 1), .int (Fa 2), .ref (b 14)])), ((b 7), .inl (cI, 26, .inl (Aa 4))), ((b 8), .inr (0, [.ref (b 9), .ref (b 10), .ref (b 11), .ref (b 12), .ref (b 13), .int (Fa 3), .int (Fa 4)])), ((b 9), .inl (cI, 100, .inl (Aa 5))), ((b 10), .inl (cI, 100, .inl (Aa 6))), ((b 11), .inl (cI, 100, .inl (Aa 7))), ((b 12), .inl (cI, 3, .inl (Aa 8))), ((b 13), .inl (cI, 26, .inl (Aa 9))), ((b 14), .inr (0, [.ref (b 15), .ref (b 16), .ref (b 17), .ref (b 18), .ref (b 19), .int (Fa 5), .int (Fa 6)])), ((b 15), .inl (cI, 100, .inl (Aa 10))), ((b 16), .inl (cI, 100, .inl (Aa 11))), ((b 17), .inl (cI, 100, .inl (Aa 12))), ((b 18), .inl (cI, 3, .inl (Aa 13))), ((b 19), .inl (cI, 26, .inl (Aa 14)))] := hD
  refine lv_aload_n hx hb d_H_work_14 rfl (lv_at hl 0 rfl) ?_
  refine va_get (D := (dC, dI)) (ci := 2) (v := .ref (b 5)) (C := R_H) (T := T_H) (N := 2) hx hb hts in_H hown hK hP 3 rfl rfl 1 (by decide) (hts _ mw_99) (fun _ h9 => h9) rfl d_H_work_15 ?_
  refine lv_iconst (v := 2) hx hb d_H_work_18 (by decide) ?_
  refine lv_iload hx hb d_H_work_19 (lv_at hl 4 rfl) ?_
  obtain ⟨hi, hf⟩ := ra_g_some hf
  refine va_iast hx hb hK hP hD hS 5 0 rfl rfl hi d_H_work_21 (fun H locs hP hD hS => ?_)
  have hP : va_P (dC, dI) vC [((b 0), .inr (3, [.ref (b 1), .int (Fa 0), .ref (b 8), .ref (b 6), .ref (b 3), .ref (b 2)])), ((b 1), .inl (cC, 160, .inl (Aa 0))), ((b 2), .inl (cI, 32, .inl (Aa 1))), ((b 3), .inr (2, [.ref (b 4), .ref (b 5)])), ((b 4), .inl (cI, 100, .inl (Aa 2))), ((b 5), .inl (cI, 6, .inl (upd (upd (upd (Aa 3) (0 : Int32).toNatClampNeg u2) (1 : Int32).toNatClampNeg u3) (2 : Int32).toNatClampNeg u4))), ((b 6), .inr (1, [.ref (b 7), .ref tx, .int (Fa 1), .int (Fa 2), .ref (b 14)])), ((b 7), .inl (cI, 26, .inl (Aa 4))), ((b 8), .inr (0, [.ref (b 9), .ref (b 10), .ref (b 11), .ref (b 12), .ref (b 13), .int (Fa 3), .int (Fa 4)])), ((b 9), .inl (cI, 100, .inl (Aa 5))), ((b 10), .inl (cI, 100, .inl (Aa 6))), ((b 11), .inl (cI, 100, .inl (Aa 7))), ((b 12), .inl (cI, 3, .inl (Aa 8))), ((b 13), .inl (cI, 26, .inl (Aa 9))), ((b 14), .inr (0, [.ref (b 15), .ref (b 16), .ref (b 17), .ref (b 18), .ref (b 19), .int (Fa 5), .int (Fa 6)])), ((b 15), .inl (cI, 100, .inl (Aa 10))), ((b 16), .inl (cI, 100, .inl (Aa 11))), ((b 17), .inl (cI, 100, .inl (Aa 12))), ((b 18), .inl (cI, 3, .inl (Aa 13))), ((b 19), .inl (cI, 26, .inl (Aa 14)))] H := hP
  have hD : va_D (va_A (wP b cI cC tx Fa Aa) s.heap.size) [((b 0), .inr (3, [.ref (b 1), .int (Fa 0), .ref (b 8), .ref (b 6), .ref (b 3), .ref (b 2)])), ((b 1), .inl (cC, 160, .inl (Aa 0))), ((b 2), .inl (cI, 32, .inl (Aa 1))), ((b 3), .inr (2, [.ref (b 4), .ref (b 5)])), ((b 4), .inl (cI, 100, .inl (Aa 2))), ((b 5), .inl (cI, 6, .inl (upd (upd (upd (Aa 3) (0 : Int32).toNatClampNeg u2) (1 : Int32).toNatClampNeg u3) (2 : Int32).toNatClampNeg u4))), ((b 6), .inr (1, [.ref (b 7), .ref tx, .int (Fa 1), .int (Fa 2), .ref (b 14)])), ((b 7), .inl (cI, 26, .inl (Aa 4))), ((b 8), .inr (0, [.ref (b 9), .ref (b 10), .ref (b 11), .ref (b 12), .ref (b 13), .int (Fa 3), .int (Fa 4)])), ((b 9), .inl (cI, 100, .inl (Aa 5))), ((b 10), .inl (cI, 100, .inl (Aa 6))), ((b 11), .inl (cI, 100, .inl (Aa 7))), ((b 12), .inl (cI, 3, .inl (Aa 8))), ((b 13), .inl (cI, 26, .inl (Aa 9))), ((b 14), .inr (0, [.ref (b 15), .ref (b 16), .ref (b 17), .ref (b 18), .ref (b 19), .int (Fa 5), .int (Fa 6)])), ((b 15), .inl (cI, 100, .inl (Aa 10))), ((b 16), .inl (cI, 100, .inl (Aa 11))), ((b 17), .inl (cI, 100, .inl (Aa 12))), ((b 18), .inl (cI, 3, .inl (Aa 13))), ((b 19), .inl (cI, 26, .inl (Aa 14)))] := hD
  refine lv_iconst (v := 0) hx hb d_H_work_22 (by decide) ?_
  refine lv_istore hx hb d_H_work_23 hl (by decide) rfl (fun ls hl => ?_)
  have hl : lv_has ls 7 [(6, .int (0 : Int32)), (0, .ref (b 3)), (1, .ref (b 8)), (2, .int u2), (3, .int u3), (4, .int u4), (5, .int u5)] := hl
  have hl : lv_has ls 7 [(0, .ref (b 3)), (1, .ref (b 8)), (2, .int u2), (3, .int u3), (4, .int u4), (5, .int u5), (6, .int (0 : Int32))] := lv_sub hl [1, 2, 3, 4, 5, 6, 0] rfl
  exact L25 400 u2 u3 u4 u5 (0 : Int32) Fa (va_up Aa 3 (upd (upd (upd (Aa 3) (0 : Int32).toNatClampNeg u2) (1 : Int32).toNatClampNeg u3) (2 : Int32).toNatClampNeg u4)) _ _ _ hl hP hD hS hf
def f_H_colorOf_L4 : Nat → Int32 → Int32 → ST_F → ST_A → Option (Int32 × ST_F × ST_A)
  | 0, _, _, _, _ => none
  | n + 1, x2, x3, F, A => if (3 : Int32) ≤ x3 then (some (x2, F, A)) else (ra_g x3 3 (ra_g ((A 8) x3.toNatClampNeg) 100 (f_H_colorOf_L4 n ((x2 <<< ((8 : Int32) &&& 31)) ||| (if (0 : Int32) < (if (((A 2) ((A 8) x3.toNatClampNeg).toNatClampNeg) >>> ((8 : Int32) &&& 31)) < (255 : Int32) then (((A 2) ((A 8) x3.toNatClampNeg).toNatClampNeg) >>> ((8 : Int32) &&& 31)) else (255 : Int32)) then (if (((A 2) ((A 8) x3.toNatClampNeg).toNatClampNeg) >>> ((8 : Int32) &&& 31)) < (255 : Int32) then (((A 2) ((A 8) x3.toNatClampNeg).toNatClampNeg) >>> ((8 : Int32) &&& 31)) else (255 : Int32)) else (0 : Int32))) (x3 + (1 : Int32)) F A)))
def f_H_colorOf  (Fa : ST_F) (Aa : ST_A) : Option (Int32 × ST_F × ST_A) := f_H_colorOf_L4 400 (0 : Int32) (0 : Int32) Fa Aa
set_option maxHeartbeats 4000000 in
set_option maxRecDepth 100000 in
theorem k_H_colorOf (l : Launch) (dC : Nat → ClassId) (dI : Nat → Nat → Nat) (b : Nat → Nat) (cI cC : ClassId) (tx : Nat) (sz : Nat) (Fa : ST_F) (Aa : ST_A)  (r0 : Int32) (F9 : ST_F) (A9 : ST_A) (hf : f_H_colorOf  Fa Aa = some (r0, F9, A9)) : cc_MetI l y_H_colorOf (Cond.code y_H_colorOf b_H_colorOf 5 (some .int) :: wA) ({ frames := 1, cells := 0, slots := 0, locals := 21 } : Room) (dC, dI) vC [(cI, .int), (cC, .char)] ([.ref (b 3), .ref (b 8)] : List Value) (wP b cI cC tx Fa Aa) sz (wP b cI cC tx F9 A9) r0 := by
  refine Met.ofW (cc := b_H_colorOf) (maxL := 5) (ret := (some .int)) (by decide) rfl ?_
  intro p e s m args below meth c s₁ B hml hv
  obtain ⟨rfl, hsz, hP, hK, hD0⟩ := hv
  have hx := B.exec
  have hb := B.bytes
  have hr := B.returns
  have hts := fun w h => atoms_spec (ws := (Cond.code y_H_colorOf b_H_colorOf 5 (some .int) :: wA)) B.pre w (List.mem_cons_of_mem _ h)
  have hown : s.vm.findClass R_H = some m.cls := findClass_of_methodNamed B.named
  have hlocks := B.notSynchronized
  subst hsz
  have hD := hD0.self (sz := s.heap.size)
  have hA : ∀ q : Nat, s.heap.size ≤ q → va_A (wP b cI cC tx Fa Aa) s.heap.size q := fun q h => Or.inr h
  have hS : va_S (va_A (wP b cI cC tx Fa Aa) s.heap.size) s.heap s.heap [] := va_S.rf
  have hl := lv_entry (([.ref (b 3), .ref (b 8)] : List Value)) (n := 5) (Nat.le_of_ble_eq_true rfl)
  have L4 : ∀ (n : Nat) (x2 : Int32) (x3 : Int32) (F : ST_F) (A : ST_A) (H : Heap) (locs : List Loc) (ls : Array Slot), lv_has ls 5 [(0, .ref (b 3)), (1, .ref (b 8)), (2, .int x2), (3, .int x3)] → va_P (dC, dI) vC (wP b cI cC tx F A) H → va_D (va_A (wP b cI cC tx Fa Aa) s.heap.size) (wP b cI cC tx F A) → va_S (va_A (wP b cI cC tx Fa Aa) s.heap.size) s.heap H locs → f_H_colorOf_L4 n x2 x3 F A = some (r0, F9, A9) → W p l e (headSpec (Cond.code y_H_colorOf b_H_colorOf 5 (some .int) :: wA) ({ frames := 1, cells := 0, slots := 0, locals := 21 } : Room)).room s m ([.ref (b 3), .ref (b 8)] : List Value).toArray below meth c H locs 0 0 (MQ below (cc_Qi (dC, dI) vC [(cI, .int), (cC, .char)] (wP b cI cC tx Fa Aa) s.heap.size (wP b cI cC tx F9 A9) r0) ([.ref (b 3), .ref (b 8)] : List Value).toArray s 0 0 (va_A (wP b cI cC tx Fa Aa) s.heap.size)) (F0 m 4 ls []) := by
    intro n
    induction n with
    | zero => intro x2 x3 F A H locs ls hl hP hD hS hf; cases hf
    | succ n ih =>
      intro x2 x3 F A H locs ls hl hP hD hS hf
      rw [f_H_colorOf_L4] at hf
      refine lv_iload_n hx hb d_H_colorOf_4 rfl (lv_at hl 3 rfl) ?_
      refine lv_iconst (v := 3) hx hb d_H_colorOf_5 (by decide) ?_
      refine lv_icmp_ge (tgt := 49) hx hb d_H_colorOf_6 (by decide) (fun h6_1 => ?_) (fun h6_1 => ?_)
      · rw [if_pos h6_1] at hf
        refine lv_iload_n hx hb d_H_colorOf_49 rfl (lv_at hl 2 rfl) ?_
        cases hf
        exact W.iret hx hb hr (fun t ht hW => ⟨⟨_, (), rfl, rfl, by rw [ht]; exact hP, va_K.moved hW.alike hK, hD⟩, hS.F ht⟩) hS.2.2 d_H_colorOf_50
      · rw [if_neg h6_1] at hf
        refine lv_aload_n hx hb d_H_colorOf_9 rfl (lv_at hl 0 rfl) ?_
        refine va_get (D := (dC, dI)) (ci := 2) (v := .ref (b 4)) (C := R_H) (T := T_H) (N := 2) hx hb hts in_H hown hK hP 3 rfl rfl 0 (by decide) (hts _ mw_97) (fun _ h9 => h9) rfl d_H_colorOf_10 ?_
        refine lv_aload_n hx hb d_H_colorOf_13 rfl (lv_at hl 1 rfl) ?_
        refine va_get (D := (dC, dI)) (ci := 0) (v := .ref (b 12)) (C := R_K) (T := T_K) (N := 7) hx hb hts in_K hown hK hP 8 rfl rfl 3 (by decide) (hts _ mw_39) (fun _ h9 => h9) rfl d_H_colorOf_14 ?_
        refine lv_iload_n hx hb d_H_colorOf_17 rfl (lv_at hl 3 rfl) ?_
        obtain ⟨hi, hf⟩ := ra_g_some hf
        refine va_iald hx hb hK hP 12 0 rfl rfl hi d_H_colorOf_18 ?_
        obtain ⟨hi, hf⟩ := ra_g_some hf
        refine va_iald hx hb hK hP 4 0 rfl rfl hi d_H_colorOf_19 ?_
        refine lv_bipush (v := 8) hx hb d_H_colorOf_20 (by decide) ?_
        refine lv_ishr hx hb d_H_colorOf_22 ?_
        refine lv_istore hx hb d_H_colorOf_23 hl (by decide) rfl (fun ls hl => ?_)
        have hl : lv_has ls 5 [(4, .int (((A 2) ((A 8) x3.toNatClampNeg).toNatClampNeg) >>> ((8 : Int32) &&& 31))), (0, .ref (b 3)), (1, .ref (b 8)), (2, .int x2), (3, .int x3)] := hl
        refine lv_iload_n hx hb d_H_colorOf_25 rfl (lv_at hl 3 rfl) ?_
        refine lv_bipush (v := 8) hx hb d_H_colorOf_26 (by decide) ?_
        refine lv_ishl hx hb d_H_colorOf_28 ?_
        refine lv_iconst (v := 0) hx hb d_H_colorOf_29 (by decide) ?_
        refine lv_sipush (v := 255) hx hb d_H_colorOf_30 (by decide) ?_
        refine lv_iload hx hb d_H_colorOf_33 (lv_at hl 0 rfl) ?_
        refine va_mmin hx hb (hml.trans hl.1.symm) hown (hts _ mw_488) (hts _ mw_458) (hts _ mw_12) (hts _ mw_459) (Nat.le_of_ble_eq_true rfl) (Nat.le_of_ble_eq_true rfl) (Nat.zero_le _) (Nat.zero_le _) d_H_colorOf_35 ?_
        refine va_mmax hx hb (hml.trans hl.1.symm) hown (hts _ mw_489) (hts _ mw_249) (hts _ mw_12) (hts _ mw_250) (Nat.le_of_ble_eq_true rfl) (Nat.le_of_ble_eq_true rfl) (Nat.zero_le _) (Nat.zero_le _) d_H_colorOf_38 ?_
        refine lv_ior hx hb d_H_colorOf_41 ?_
        refine lv_istore_n hx hb d_H_colorOf_42 rfl hl (by decide) rfl (fun ls hl => ?_)
        have hl : lv_has ls 5 [(2, .int ((x2 <<< ((8 : Int32) &&& 31)) ||| (if (0 : Int32) < (if (((A 2) ((A 8) x3.toNatClampNeg).toNatClampNeg) >>> ((8 : Int32) &&& 31)) < (255 : Int32) then (((A 2) ((A 8) x3.toNatClampNeg).toNatClampNeg) >>> ((8 : Int32) &&& 31)) else (255 : Int32)) then (if (((A 2) ((A 8) x3.toNatClampNeg).toNatClampNeg) >>> ((8 : Int32) &&& 31)) < (255 : Int32) then (((A 2) ((A 8) x3.toNatClampNeg).toNatClampNeg) >>> ((8 : Int32) &&& 31)) else (255 : Int32)) else (0 : Int32)))), (4, .int (((A 2) ((A 8) x3.toNatClampNeg).toNatClampNeg) >>> ((8 : Int32) &&& 31))), (0, .ref (b 3)), (1, .ref (b 8)), (3, .int x3)] := hl
        refine lv_iinc (k := 4) (v := (x3 + (1 : Int32))) hx hb d_H_colorOf_43 hl rfl (by rfl) (by decide) rfl (fun ls hl => ?_)
        have hl : lv_has ls 5 [(3, .int (x3 + (1 : Int32))), (2, .int ((x2 <<< ((8 : Int32) &&& 31)) ||| (if (0 : Int32) < (if (((A 2) ((A 8) x3.toNatClampNeg).toNatClampNeg) >>> ((8 : Int32) &&& 31)) < (255 : Int32) then (((A 2) ((A 8) x3.toNatClampNeg).toNatClampNeg) >>> ((8 : Int32) &&& 31)) else (255 : Int32)) then (if (((A 2) ((A 8) x3.toNatClampNeg).toNatClampNeg) >>> ((8 : Int32) &&& 31)) < (255 : Int32) then (((A 2) ((A 8) x3.toNatClampNeg).toNatClampNeg) >>> ((8 : Int32) &&& 31)) else (255 : Int32)) else (0 : Int32)))), (4, .int (((A 2) ((A 8) x3.toNatClampNeg).toNatClampNeg) >>> ((8 : Int32) &&& 31))), (0, .ref (b 3)), (1, .ref (b 8))] := hl
        refine lv_goto (tgt := 4) hx hb d_H_colorOf_46 (by decide) ?_
        have hl : lv_has ls 5 [(0, .ref (b 3)), (1, .ref (b 8)), (2, .int ((x2 <<< ((8 : Int32) &&& 31)) ||| (if (0 : Int32) < (if (((A 2) ((A 8) x3.toNatClampNeg).toNatClampNeg) >>> ((8 : Int32) &&& 31)) < (255 : Int32) then (((A 2) ((A 8) x3.toNatClampNeg).toNatClampNeg) >>> ((8 : Int32) &&& 31)) else (255 : Int32)) then (if (((A 2) ((A 8) x3.toNatClampNeg).toNatClampNeg) >>> ((8 : Int32) &&& 31)) < (255 : Int32) then (((A 2) ((A 8) x3.toNatClampNeg).toNatClampNeg) >>> ((8 : Int32) &&& 31)) else (255 : Int32)) else (0 : Int32)))), (3, .int (x3 + (1 : Int32)))] := lv_sub hl [3, 4, 1, 0] rfl
        exact ih ((x2 <<< ((8 : Int32) &&& 31)) ||| (if (0 : Int32) < (if (((A 2) ((A 8) x3.toNatClampNeg).toNatClampNeg) >>> ((8 : Int32) &&& 31)) < (255 : Int32) then (((A 2) ((A 8) x3.toNatClampNeg).toNatClampNeg) >>> ((8 : Int32) &&& 31)) else (255 : Int32)) then (if (((A 2) ((A 8) x3.toNatClampNeg).toNatClampNeg) >>> ((8 : Int32) &&& 31)) < (255 : Int32) then (((A 2) ((A 8) x3.toNatClampNeg).toNatClampNeg) >>> ((8 : Int32) &&& 31)) else (255 : Int32)) else (0 : Int32))) (x3 + (1 : Int32)) F A _ _ _ hl hP hD hS hf
  rw [lg_entry_eq]
  generalize (lg_sl (([.ref (b 3), .ref (b 8)] : List Value)) ++ List.replicate (5 - (lg_sl (([.ref (b 3), .ref (b 8)] : List Value))).length) Slot.unset).toArray = ls at hl ⊢
  have hl : lv_has ls 5 [(0, .ref (b 3)), (1, .ref (b 8))] := hl
  unfold f_H_colorOf at hf
  refine lv_iconst (v := 0) hx hb d_H_colorOf_0 (by decide) ?_
  refine lv_istore_n hx hb d_H_colorOf_1 rfl hl (by decide) rfl (fun ls hl => ?_)
  have hl : lv_has ls 5 [(2, .int (0 : Int32)), (0, .ref (b 3)), (1, .ref (b 8))] := hl
  refine lv_iconst (v := 0) hx hb d_H_colorOf_2 (by decide) ?_
  refine lv_istore_n hx hb d_H_colorOf_3 rfl hl (by decide) rfl (fun ls hl => ?_)
  have hl : lv_has ls 5 [(3, .int (0 : Int32)), (2, .int (0 : Int32)), (0, .ref (b 3)), (1, .ref (b 8))] := hl
  have hl : lv_has ls 5 [(0, .ref (b 3)), (1, .ref (b 8)), (2, .int (0 : Int32)), (3, .int (0 : Int32))] := lv_sub hl [2, 3, 1, 0] rfl
  exact L4 400 (0 : Int32) (0 : Int32) Fa Aa _ _ _ hl hP hD hS hf
