def f_C_behindEachOther_L51 : Nat → Int32 → Int32 → Int32 → Int32 → Int32 → Int32 → Option Int32
  | 0, _, _, _, _, _, _ => none
  | n + 1, x0, x1, x2, x3, x4, x5 => if x3 ≤ x5 then (some x4) else (f_C_behindEachOther_L51 n x0 x1 x2 x3 (f_V_withNumber x4 (x2 + x5) (f_V_number x1 x5)) (x5 + (1 : Int32)))
def f_C_behindEachOther_L21 : Nat → Int32 → Int32 → Int32 → Int32 → Int32 → Int32 → Option Int32
  | 0, _, _, _, _, _, _ => none
  | n + 1, x0, x1, x2, x3, x4, x5 => if x2 ≤ x5 then (f_C_behindEachOther_L51 400 x0 x1 x2 x3 x4 (0 : Int32)) else (f_C_behindEachOther_L21 n x0 x1 x2 x3 (f_V_withNumber x4 x5 (f_V_number x0 x5)) (x5 + (1 : Int32)))
def f_C_behindEachOther (u0 : Int32) (u1 : Int32) : Option Int32 := f_C_behindEachOther_L21 400 u0 u1 (f_V_typeIn u0) (f_V_typeIn u1) (f_V_ofType ((f_V_typeIn u0) + (f_V_typeIn u1))) (0 : Int32)
set_option maxHeartbeats 4000000 in
set_option maxRecDepth 100000 in
theorem k_C_behindEachOther (l : Launch) (u0 : Int32) (u1 : Int32) (r0 : Int32) (hf : f_C_behindEachOther u0 u1 = some r0) : cc_MetS l y_C_behindEachOther (Cond.code y_C_behindEachOther b_C_behindEachOther 6 (some .int) :: wA) ({ frames := 1, cells := 0, slots := 0, locals := 22 } : Room) ([.int u0, .int u1] : List Value) r0 := by
  refine Met.ofW (cc := b_C_behindEachOther) (maxL := 6) (ret := (some .int)) (by decide) rfl ?_
  intro p e s m args below meth c s₁ B hml hv
  obtain rfl : args = ([.int u0, .int u1] : List Value).toArray := hv
  have hx := B.exec
  have hb := B.bytes
  have hr := B.returns
  have hts := fun w h => atoms_spec (ws := (Cond.code y_C_behindEachOther b_C_behindEachOther 6 (some .int) :: wA)) B.pre w (List.mem_cons_of_mem _ h)
  have hown : s.vm.findClass R_C = some m.cls := findClass_of_methodNamed B.named
  have hlocks := B.notSynchronized
  have hl := lv_entry (([.int u0, .int u1] : List Value)) (n := 6) (Nat.le_of_ble_eq_true rfl)
  have L51 : ∀ (n : Nat) (x0 : Int32) (x1 : Int32) (x2 : Int32) (x3 : Int32) (x4 : Int32) (x5 : Int32) (ls : Array Slot), lv_has ls 6 [(0, .int x0), (1, .int x1), (2, .int x2), (3, .int x3), (4, .int x4), (5, .int x5)] → f_C_behindEachOther_L51 n x0 x1 x2 x3 x4 x5 = some r0 → W p l e (headSpec (Cond.code y_C_behindEachOther b_C_behindEachOther 6 (some .int) :: wA) ({ frames := 1, cells := 0, slots := 0, locals := 22 } : Room)).room s m ([.int u0, .int u1] : List Value).toArray below meth c s.heap [] 0 0 (MQ below (vp_Si (fun r => r = r0)) ([.int u0, .int u1] : List Value).toArray s 0 0 (fun _ => False)) (F0 m 51 ls []) := by
    intro n
    induction n with
    | zero => intro x0 x1 x2 x3 x4 x5 ls hl hf; cases hf
    | succ n ih =>
      intro x0 x1 x2 x3 x4 x5 ls hl hf
      rw [f_C_behindEachOther_L51] at hf
      refine lv_iload hx hb d_C_behindEachOther_51 (lv_at hl 5 rfl) ?_
      refine lv_iload_n hx hb d_C_behindEachOther_53 rfl (lv_at hl 3 rfl) ?_
      refine lv_icmp_ge (tgt := 80) hx hb d_C_behindEachOther_54 (by decide) (fun h54_2 => ?_) (fun h54_2 => ?_)
      · rw [if_pos h54_2] at hf
        refine lv_iload hx hb d_C_behindEachOther_80 (lv_at hl 4 rfl) ?_
        cases hf
        exact W.iret hx hb hr (fun t ht hW => ⟨_, rfl, rfl, ht⟩) (fun q h => by cases h) d_C_behindEachOther_82
      · rw [if_neg h54_2] at hf
        refine lv_iload hx hb d_C_behindEachOther_57 (lv_at hl 4 rfl) ?_
        refine lv_iload_n hx hb d_C_behindEachOther_59 rfl (lv_at hl 2 rfl) ?_
        refine lv_iload hx hb d_C_behindEachOther_60 (lv_at hl 5 rfl) ?_
        refine lv_iadd hx hb d_C_behindEachOther_62 ?_
        refine lv_iload_n hx hb d_C_behindEachOther_63 rfl (lv_at hl 1 rfl) ?_
        refine lv_iload hx hb d_C_behindEachOther_64 (lv_at hl 5 rfl) ?_
        refine cc_calls (va_runS (As := [.int x1, .int x5]) (rest := [.int (x2 + x5), .int x4]) ⟨hx, hb, hml, hown, hts⟩ (k_V_number l x1 x5 _ rfl) (cw_S 2 hts mw_226 mw_227 mw_11 mw_228 rfl rfl hd_V_number ⟨Nat.le_of_ble_eq_true rfl, Nat.le_of_ble_eq_true rfl⟩) cc_preS rfl rfl hl.1 rfl (lv_room (Nat.le_of_ble_eq_true rfl)) d_C_behindEachOther_66 ⟨Nat.zero_le _, Nat.zero_le _⟩) ?_
        refine cc_calls (va_runS (As := [.int x4, .int (x2 + x5), .int (f_V_number x1 x5)]) (rest := []) ⟨hx, hb, hml, hown, hts⟩ (k_V_withNumber l x4 (x2 + x5) (f_V_number x1 x5) _ rfl) (cw_S 3 hts mw_200 mw_201 mw_11 mw_202 rfl rfl hd_V_withNumber ⟨Nat.le_of_ble_eq_true rfl, Nat.le_of_ble_eq_true rfl⟩) cc_preS rfl rfl hl.1 rfl (lv_room (Nat.le_of_ble_eq_true rfl)) d_C_behindEachOther_69 ⟨Nat.zero_le _, Nat.zero_le _⟩) ?_
        refine lv_istore hx hb d_C_behindEachOther_72 hl (by decide) rfl (fun ls hl => ?_)
        have hl : lv_has ls 6 [(4, .int (f_V_withNumber x4 (x2 + x5) (f_V_number x1 x5))), (0, .int x0), (1, .int x1), (2, .int x2), (3, .int x3), (5, .int x5)] := hl
        refine lv_iinc (k := 5) (v := (x5 + (1 : Int32))) hx hb d_C_behindEachOther_74 hl rfl (by rfl) (by decide) rfl (fun ls hl => ?_)
        have hl : lv_has ls 6 [(5, .int (x5 + (1 : Int32))), (4, .int (f_V_withNumber x4 (x2 + x5) (f_V_number x1 x5))), (0, .int x0), (1, .int x1), (2, .int x2), (3, .int x3)] := hl
        refine lv_goto (tgt := 51) hx hb d_C_behindEachOther_77 (by decide) ?_
        have hl : lv_has ls 6 [(0, .int x0), (1, .int x1), (2, .int x2), (3, .int x3), (4, .int (f_V_withNumber x4 (x2 + x5) (f_V_number x1 x5))), (5, .int (x5 + (1 : Int32)))] := lv_sub hl [2, 3, 4, 5, 1, 0] rfl
        exact ih x0 x1 x2 x3 (f_V_withNumber x4 (x2 + x5) (f_V_number x1 x5)) (x5 + (1 : Int32)) _ hl hf
  have L21 : ∀ (n : Nat) (x0 : Int32) (x1 : Int32) (x2 : Int32) (x3 : Int32) (x4 : Int32) (x5 : Int32) (ls : Array Slot), lv_has ls 6 [(0, .int x0), (1, .int x1), (2, .int x2), (3, .int x3), (4, .int x4), (5, .int x5)] → f_C_behindEachOther_L21 n x0 x1 x2 x3 x4 x5 = some r0 → W p l e (headSpec (Cond.code y_C_behindEachOther b_C_behindEachOther 6 (some .int) :: wA) ({ frames := 1, cells := 0, slots := 0, locals := 22 } : Room)).room s m ([.int u0, .int u1] : List Value).toArray below meth c s.heap [] 0 0 (MQ below (vp_Si (fun r => r = r0)) ([.int u0, .int u1] : List Value).toArray s 0 0 (fun _ => False)) (F0 m 21 ls []) := by
    intro n
    induction n with
    | zero => intro x0 x1 x2 x3 x4 x5 ls hl hf; cases hf
    | succ n ih =>
      intro x0 x1 x2 x3 x4 x5 ls hl hf
      rw [f_C_behindEachOther_L21] at hf
      refine lv_iload hx hb d_C_behindEachOther_21 (lv_at hl 5 rfl) ?_
      refine lv_iload_n hx hb d_C_behindEachOther_23 rfl (lv_at hl 2 rfl) ?_
      refine lv_icmp_ge (tgt := 48) hx hb d_C_behindEachOther_24 (by decide) (fun h24_1 => ?_) (fun h24_1 => ?_)
      · rw [if_pos h24_1] at hf
        refine lv_iconst (v := 0) hx hb d_C_behindEachOther_48 (by decide) ?_
        refine lv_istore hx hb d_C_behindEachOther_49 hl (by decide) rfl (fun ls hl => ?_)
        have hl : lv_has ls 6 [(5, .int (0 : Int32)), (0, .int x0), (1, .int x1), (2, .int x2), (3, .int x3), (4, .int x4)] := hl
        have hl : lv_has ls 6 [(0, .int x0), (1, .int x1), (2, .int x2), (3, .int x3), (4, .int x4), (5, .int (0 : Int32))] := lv_sub hl [1, 2, 3, 4, 5, 0] rfl
        exact L51 400 x0 x1 x2 x3 x4 (0 : Int32) _ hl hf
      · rw [if_neg h24_1] at hf
        refine lv_iload hx hb d_C_behindEachOther_27 (lv_at hl 4 rfl) ?_
        refine lv_iload hx hb d_C_behindEachOther_29 (lv_at hl 5 rfl) ?_
        refine lv_iload_n hx hb d_C_behindEachOther_31 rfl (lv_at hl 0 rfl) ?_
        refine lv_iload hx hb d_C_behindEachOther_32 (lv_at hl 5 rfl) ?_
        refine cc_calls (va_runS (As := [.int x0, .int x5]) (rest := [.int x5, .int x4]) ⟨hx, hb, hml, hown, hts⟩ (k_V_number l x0 x5 _ rfl) (cw_S 2 hts mw_226 mw_227 mw_11 mw_228 rfl rfl hd_V_number ⟨Nat.le_of_ble_eq_true rfl, Nat.le_of_ble_eq_true rfl⟩) cc_preS rfl rfl hl.1 rfl (lv_room (Nat.le_of_ble_eq_true rfl)) d_C_behindEachOther_34 ⟨Nat.zero_le _, Nat.zero_le _⟩) ?_
        refine cc_calls (va_runS (As := [.int x4, .int x5, .int (f_V_number x0 x5)]) (rest := []) ⟨hx, hb, hml, hown, hts⟩ (k_V_withNumber l x4 x5 (f_V_number x0 x5) _ rfl) (cw_S 3 hts mw_200 mw_201 mw_11 mw_202 rfl rfl hd_V_withNumber ⟨Nat.le_of_ble_eq_true rfl, Nat.le_of_ble_eq_true rfl⟩) cc_preS rfl rfl hl.1 rfl (lv_room (Nat.le_of_ble_eq_true rfl)) d_C_behindEachOther_37 ⟨Nat.zero_le _, Nat.zero_le _⟩) ?_
        refine lv_istore hx hb d_C_behindEachOther_40 hl (by decide) rfl (fun ls hl => ?_)
        have hl : lv_has ls 6 [(4, .int (f_V_withNumber x4 x5 (f_V_number x0 x5))), (0, .int x0), (1, .int x1), (2, .int x2), (3, .int x3), (5, .int x5)] := hl
        refine lv_iinc (k := 5) (v := (x5 + (1 : Int32))) hx hb d_C_behindEachOther_42 hl rfl (by rfl) (by decide) rfl (fun ls hl => ?_)
        have hl : lv_has ls 6 [(5, .int (x5 + (1 : Int32))), (4, .int (f_V_withNumber x4 x5 (f_V_number x0 x5))), (0, .int x0), (1, .int x1), (2, .int x2), (3, .int x3)] := hl
        refine lv_goto (tgt := 21) hx hb d_C_behindEachOther_45 (by decide) ?_
        have hl : lv_has ls 6 [(0, .int x0), (1, .int x1), (2, .int x2), (3, .int x3), (4, .int (f_V_withNumber x4 x5 (f_V_number x0 x5))), (5, .int (x5 + (1 : Int32)))] := lv_sub hl [2, 3, 4, 5, 1, 0] rfl
        exact ih x0 x1 x2 x3 (f_V_withNumber x4 x5 (f_V_number x0 x5)) (x5 + (1 : Int32)) _ hl hf
  rw [lg_entry_eq]
  generalize (lg_sl (([.int u0, .int u1] : List Value)) ++ List.replicate (6 - (lg_sl (([.int u0, .int u1] : List Value))).length) Slot.unset).toArray = ls at hl ⊢
  have hl : lv_has ls 6 [(0, .int u0), (1, .int u1)] := hl
  unfold f_C_behindEachOther at hf
  refine lv_iload_n hx hb d_C_behindEachOther_0 rfl (lv_at hl 0 rfl) ?_
  refine cc_calls (va_runS (As := [.int u0]) (rest := []) ⟨hx, hb, hml, hown, hts⟩ (k_V_typeIn l u0 _ rfl) (cw_S 1 hts mw_223 mw_224 mw_11 mw_225 rfl rfl hd_V_typeIn ⟨Nat.le_of_ble_eq_true rfl, Nat.le_of_ble_eq_true rfl⟩) cc_preS rfl rfl hl.1 rfl (lv_room (Nat.le_of_ble_eq_true rfl)) d_C_behindEachOther_1 ⟨Nat.zero_le _, Nat.zero_le _⟩) ?_
  refine lv_istore_n hx hb d_C_behindEachOther_4 rfl hl (by decide) rfl (fun ls hl => ?_)
  have hl : lv_has ls 6 [(2, .int (f_V_typeIn u0)), (0, .int u0), (1, .int u1)] := hl
  refine lv_iload_n hx hb d_C_behindEachOther_5 rfl (lv_at hl 2 rfl) ?_
  refine cc_calls (va_runS (As := [.int u1]) (rest := []) ⟨hx, hb, hml, hown, hts⟩ (k_V_typeIn l u1 _ rfl) (cw_S 1 hts mw_223 mw_224 mw_11 mw_225 rfl rfl hd_V_typeIn ⟨Nat.le_of_ble_eq_true rfl, Nat.le_of_ble_eq_true rfl⟩) cc_preS rfl rfl hl.1 rfl (lv_room (Nat.le_of_ble_eq_true rfl)) d_C_behindEachOther_6 ⟨Nat.zero_le _, Nat.zero_le _⟩) ?_
  refine lv_istore_n hx hb d_C_behindEachOther_9 rfl hl (by decide) rfl (fun ls hl => ?_)
  have hl : lv_has ls 6 [(3, .int (f_V_typeIn u1)), (2, .int (f_V_typeIn u0)), (0, .int u0), (1, .int u1)] := hl
  refine lv_iload_n hx hb d_C_behindEachOther_10 rfl (lv_at hl 1 rfl) ?_
  refine lv_iload_n hx hb d_C_behindEachOther_11 rfl (lv_at hl 0 rfl) ?_
  refine lv_iadd hx hb d_C_behindEachOther_12 ?_
  refine cc_calls (va_runS (As := [.int ((f_V_typeIn u0) + (f_V_typeIn u1))]) (rest := []) ⟨hx, hb, hml, hown, hts⟩ (k_V_ofType l ((f_V_typeIn u0) + (f_V_typeIn u1)) _ rfl) (cw_S 1 hts mw_193 mw_194 mw_11 mw_195 rfl rfl hd_V_ofType ⟨Nat.le_of_ble_eq_true rfl, Nat.le_of_ble_eq_true rfl⟩) cc_preS rfl rfl hl.1 rfl (lv_room (Nat.le_of_ble_eq_true rfl)) d_C_behindEachOther_13 ⟨Nat.zero_le _, Nat.zero_le _⟩) ?_
  refine lv_istore hx hb d_C_behindEachOther_16 hl (by decide) rfl (fun ls hl => ?_)
  have hl : lv_has ls 6 [(4, .int (f_V_ofType ((f_V_typeIn u0) + (f_V_typeIn u1)))), (3, .int (f_V_typeIn u1)), (2, .int (f_V_typeIn u0)), (0, .int u0), (1, .int u1)] := hl
  refine lv_iconst (v := 0) hx hb d_C_behindEachOther_18 (by decide) ?_
  refine lv_istore hx hb d_C_behindEachOther_19 hl (by decide) rfl (fun ls hl => ?_)
  have hl : lv_has ls 6 [(5, .int (0 : Int32)), (4, .int (f_V_ofType ((f_V_typeIn u0) + (f_V_typeIn u1)))), (3, .int (f_V_typeIn u1)), (2, .int (f_V_typeIn u0)), (0, .int u0), (1, .int u1)] := hl
  have hl : lv_has ls 6 [(0, .int u0), (1, .int u1), (2, .int (f_V_typeIn u0)), (3, .int (f_V_typeIn u1)), (4, .int (f_V_ofType ((f_V_typeIn u0) + (f_V_typeIn u1)))), (5, .int (0 : Int32))] := lv_sub hl [4, 5, 3, 2, 1, 0] rfl
  exact L21 400 u0 u1 (f_V_typeIn u0) (f_V_typeIn u1) (f_V_ofType ((f_V_typeIn u0) + (f_V_typeIn u1))) (0 : Int32) _ hl hf
def f_C_matrix (u1 : Int32) (u2 : Int32) (Fa : ST_F) (Aa : ST_A) : Option (Int32 × ST_F × ST_A) := if u1 = (-1 : Int32) then (some ((-1 : Int32), Fa, Aa)) else (if u2 = (-1 : Int32) then (some ((-1 : Int32), Fa, Aa)) else (if (f_V_typeIn u1) = (2 : Int32) then (if (f_V_typeIn u2) = (2 : Int32) then ((f_C_behindEachOther u1 u2).bind (fun r5 => some (r5, Fa, Aa))) else (some ((-1 : Int32), Fa, Aa))) else (some ((-1 : Int32), Fa, Aa))))
set_option maxHeartbeats 4000000 in
set_option maxRecDepth 100000 in
theorem k_C_matrix (l : Launch) (dC : Nat → ClassId) (dI : Nat → Nat → Nat) (a : Nat → Nat) (cI cC : ClassId) (sz : Nat) (Fa : ST_F) (Aa : ST_A) (u1 : Int32) (u2 : Int32) (r0 : Int32) (F9 : ST_F) (A9 : ST_A) (hf : f_C_matrix u1 u2 Fa Aa = some (r0, F9, A9)) : cc_MetI l y_C_matrix (Cond.code y_C_matrix b_C_matrix 3 (some .int) :: wA) ({ frames := 2, cells := 0, slots := 0, locals := 47 } : Room) (dC, dI) vC [(cI, .int), (cC, .char)] ([.ref (a 0), .int u1, .int u2] : List Value) (wC a cI cC Fa Aa) sz (wC a cI cC F9 A9) r0 := by
  refine Met.ofW (cc := b_C_matrix) (maxL := 3) (ret := (some .int)) (by decide) rfl ?_
  intro p e s m args below meth c s₁ B hml hv
  obtain ⟨rfl, hsz, hP, hK, hD0⟩ := hv
  have hx := B.exec
  have hb := B.bytes
  have hr := B.returns
  have hts := fun w h => atoms_spec (ws := (Cond.code y_C_matrix b_C_matrix 3 (some .int) :: wA)) B.pre w (List.mem_cons_of_mem _ h)
  have hown : s.vm.findClass R_C = some m.cls := findClass_of_methodNamed B.named
  have hlocks := B.notSynchronized
  subst hsz
  have hD := hD0.self (sz := s.heap.size)
  have hA : ∀ q : Nat, s.heap.size ≤ q → va_A (wC a cI cC Fa Aa) s.heap.size q := fun q h => Or.inr h
  have hS : va_S (va_A (wC a cI cC Fa Aa) s.heap.size) s.heap s.heap [] := va_S.rf
  have hl := lv_entry (([.ref (a 0), .int u1, .int u2] : List Value)) (n := 3) (Nat.le_of_ble_eq_true rfl)
  rw [lg_entry_eq]
  generalize (lg_sl (([.ref (a 0), .int u1, .int u2] : List Value)) ++ List.replicate (3 - (lg_sl (([.ref (a 0), .int u1, .int u2] : List Value))).length) Slot.unset).toArray = ls at hl ⊢
  have hl : lv_has ls 3 [(0, .ref (a 0)), (1, .int u1), (2, .int u2)] := hl
  unfold f_C_matrix at hf
  refine lv_iload_n hx hb d_C_matrix_0 rfl (lv_at hl 1 rfl) ?_
  refine lv_iconst (v := -1) hx hb d_C_matrix_1 (by decide) ?_
  refine lv_icmp_eq (tgt := 10) hx hb d_C_matrix_2 (by decide) (fun h2_1 => ?_) (fun h2_1 => ?_)
  · rw [if_pos h2_1] at hf
    refine lv_iconst (v := -1) hx hb d_C_matrix_10 (by decide) ?_
    cases hf
    exact W.iret hx hb hr (fun t ht hW => ⟨⟨_, (), rfl, rfl, by rw [ht]; exact hP, va_K.moved hW.alike hK, hD⟩, hS.F ht⟩) hS.2.2 d_C_matrix_11
  · rw [if_neg h2_1] at hf
    refine lv_iload_n hx hb d_C_matrix_5 rfl (lv_at hl 2 rfl) ?_
    refine lv_iconst (v := -1) hx hb d_C_matrix_6 (by decide) ?_
    refine lv_icmp_ne (tgt := 12) hx hb d_C_matrix_7 (by decide) (fun h7_2 => ?_) (fun h7_2 => ?_)
    · rw [if_neg h7_2] at hf
      refine lv_iload_n hx hb d_C_matrix_12 rfl (lv_at hl 1 rfl) ?_
      refine cc_calls (va_runS (As := [.int u1]) (rest := []) ⟨hx, hb, hml, hown, hts⟩ (k_V_typeIn l u1 _ rfl) (cw_S 1 hts mw_223 mw_224 mw_11 mw_225 rfl rfl hd_V_typeIn ⟨Nat.le_of_ble_eq_true rfl, Nat.le_of_ble_eq_true rfl⟩) cc_preS rfl rfl hl.1 rfl (lv_room (Nat.le_of_ble_eq_true rfl)) d_C_matrix_13 ⟨Nat.zero_le _, Nat.zero_le _⟩) ?_
      refine lv_iconst (v := 2) hx hb d_C_matrix_16 (by decide) ?_
      refine lv_icmp_ne (tgt := 28) hx hb d_C_matrix_17 (by decide) (fun h17_3 => ?_) (fun h17_3 => ?_)
      · rw [if_neg h17_3] at hf
        refine lv_iconst (v := -1) hx hb d_C_matrix_28 (by decide) ?_
        cases hf
        exact W.iret hx hb hr (fun t ht hW => ⟨⟨_, (), rfl, rfl, by rw [ht]; exact hP, va_K.moved hW.alike hK, hD⟩, hS.F ht⟩) hS.2.2 d_C_matrix_29
      · rw [if_pos h17_3] at hf
        refine lv_iload_n hx hb d_C_matrix_20 rfl (lv_at hl 2 rfl) ?_
        refine cc_calls (va_runS (As := [.int u2]) (rest := []) ⟨hx, hb, hml, hown, hts⟩ (k_V_typeIn l u2 _ rfl) (cw_S 1 hts mw_223 mw_224 mw_11 mw_225 rfl rfl hd_V_typeIn ⟨Nat.le_of_ble_eq_true rfl, Nat.le_of_ble_eq_true rfl⟩) cc_preS rfl rfl hl.1 rfl (lv_room (Nat.le_of_ble_eq_true rfl)) d_C_matrix_21 ⟨Nat.zero_le _, Nat.zero_le _⟩) ?_
        refine lv_iconst (v := 2) hx hb d_C_matrix_24 (by decide) ?_
        refine lv_icmp_eq (tgt := 30) hx hb d_C_matrix_25 (by decide) (fun h25_4 => ?_) (fun h25_4 => ?_)
        · rw [if_pos h25_4] at hf
          refine lv_iload_n hx hb d_C_matrix_30 rfl (lv_at hl 1 rfl) ?_
          refine lv_iload_n hx hb d_C_matrix_31 rfl (lv_at hl 2 rfl) ?_
          obtain ⟨r5, hc, hf⟩ := Option.bind_eq_some_iff.mp hf
          refine cc_calls (va_runS (As := [.int u1, .int u2]) (rest := []) ⟨hx, hb, hml, hown, hts⟩ (k_C_behindEachOther l u1 u2 r5 hc) (cw_S 2 hts mw_237 mw_238 mw_3 mw_239 rfl rfl hd_C_behindEachOther ⟨Nat.le_of_ble_eq_true rfl, Nat.le_of_ble_eq_true rfl⟩) cc_preS rfl rfl hl.1 rfl (lv_room (Nat.le_of_ble_eq_true rfl)) d_C_matrix_32 ⟨Nat.zero_le _, Nat.zero_le _⟩) ?_
          cases hf
          exact W.iret hx hb hr (fun t ht hW => ⟨⟨_, (), rfl, rfl, by rw [ht]; exact hP, va_K.moved hW.alike hK, hD⟩, hS.F ht⟩) hS.2.2 d_C_matrix_35
        · rw [if_neg h25_4] at hf
          refine lv_iconst (v := -1) hx hb d_C_matrix_28 (by decide) ?_
          cases hf
          exact W.iret hx hb hr (fun t ht hW => ⟨⟨_, (), rfl, rfl, by rw [ht]; exact hP, va_K.moved hW.alike hK, hD⟩, hS.F ht⟩) hS.2.2 d_C_matrix_29
    · rw [if_pos h7_2] at hf
      refine lv_iconst (v := -1) hx hb d_C_matrix_10 (by decide) ?_
      cases hf
      exact W.iret hx hb hr (fun t ht hW => ⟨⟨_, (), rfl, rfl, by rw [ht]; exact hP, va_K.moved hW.alike hK, hD⟩, hS.F ht⟩) hS.2.2 d_C_matrix_11
def f_C_joined (u1 : Int32) (u2 : Int32) (Fa : ST_F) (Aa : ST_A) : Option (Int32 × ST_F × ST_A) := if u1 = (-1 : Int32) then (some ((-1 : Int32), Fa, Aa)) else (if u2 = (-1 : Int32) then (some ((-1 : Int32), Fa, Aa)) else (if ((f_V_typeIn u1) + (f_V_typeIn u2)) ≤ (3 : Int32) then ((f_C_behindEachOther u1 u2).bind (fun r4 => some (r4, Fa, Aa))) else (some ((-1 : Int32), Fa, Aa))))
set_option maxHeartbeats 4000000 in
set_option maxRecDepth 100000 in
theorem k_C_joined (l : Launch) (dC : Nat → ClassId) (dI : Nat → Nat → Nat) (a : Nat → Nat) (cI cC : ClassId) (sz : Nat) (Fa : ST_F) (Aa : ST_A) (u1 : Int32) (u2 : Int32) (r0 : Int32) (F9 : ST_F) (A9 : ST_A) (hf : f_C_joined u1 u2 Fa Aa = some (r0, F9, A9)) : cc_MetI l y_C_joined (Cond.code y_C_joined b_C_joined 3 (some .int) :: wA) ({ frames := 2, cells := 0, slots := 0, locals := 47 } : Room) (dC, dI) vC [(cI, .int), (cC, .char)] ([.ref (a 0), .int u1, .int u2] : List Value) (wC a cI cC Fa Aa) sz (wC a cI cC F9 A9) r0 := by
  refine Met.ofW (cc := b_C_joined) (maxL := 3) (ret := (some .int)) (by decide) rfl ?_
  intro p e s m args below meth c s₁ B hml hv
  obtain ⟨rfl, hsz, hP, hK, hD0⟩ := hv
  have hx := B.exec
  have hb := B.bytes
  have hr := B.returns
  have hts := fun w h => atoms_spec (ws := (Cond.code y_C_joined b_C_joined 3 (some .int) :: wA)) B.pre w (List.mem_cons_of_mem _ h)
  have hown : s.vm.findClass R_C = some m.cls := findClass_of_methodNamed B.named
  have hlocks := B.notSynchronized
  subst hsz
  have hD := hD0.self (sz := s.heap.size)
  have hA : ∀ q : Nat, s.heap.size ≤ q → va_A (wC a cI cC Fa Aa) s.heap.size q := fun q h => Or.inr h
  have hS : va_S (va_A (wC a cI cC Fa Aa) s.heap.size) s.heap s.heap [] := va_S.rf
  have hl := lv_entry (([.ref (a 0), .int u1, .int u2] : List Value)) (n := 3) (Nat.le_of_ble_eq_true rfl)
  rw [lg_entry_eq]
  generalize (lg_sl (([.ref (a 0), .int u1, .int u2] : List Value)) ++ List.replicate (3 - (lg_sl (([.ref (a 0), .int u1, .int u2] : List Value))).length) Slot.unset).toArray = ls at hl ⊢
  have hl : lv_has ls 3 [(0, .ref (a 0)), (1, .int u1), (2, .int u2)] := hl
  unfold f_C_joined at hf
  refine lv_iload_n hx hb d_C_joined_0 rfl (lv_at hl 1 rfl) ?_
  refine lv_iconst (v := -1) hx hb d_C_joined_1 (by decide) ?_
  refine lv_icmp_eq (tgt := 23) hx hb d_C_joined_2 (by decide) (fun h2_1 => ?_) (fun h2_1 => ?_)
  · rw [if_pos h2_1] at hf
    refine lv_iconst (v := -1) hx hb d_C_joined_23 (by decide) ?_
    cases hf
    exact W.iret hx hb hr (fun t ht hW => ⟨⟨_, (), rfl, rfl, by rw [ht]; exact hP, va_K.moved hW.alike hK, hD⟩, hS.F ht⟩) hS.2.2 d_C_joined_24
  · rw [if_neg h2_1] at hf
    refine lv_iload_n hx hb d_C_joined_5 rfl (lv_at hl 2 rfl) ?_
    refine lv_iconst (v := -1) hx hb d_C_joined_6 (by decide) ?_
    refine lv_icmp_eq (tgt := 23) hx hb d_C_joined_7 (by decide) (fun h7_2 => ?_) (fun h7_2 => ?_)
    · rw [if_pos h7_2] at hf
      refine lv_iconst (v := -1) hx hb d_C_joined_23 (by decide) ?_
      cases hf
      exact W.iret hx hb hr (fun t ht hW => ⟨⟨_, (), rfl, rfl, by rw [ht]; exact hP, va_K.moved hW.alike hK, hD⟩, hS.F ht⟩) hS.2.2 d_C_joined_24
    · rw [if_neg h7_2] at hf
      refine lv_iload_n hx hb d_C_joined_10 rfl (lv_at hl 1 rfl) ?_
      refine cc_calls (va_runS (As := [.int u1]) (rest := []) ⟨hx, hb, hml, hown, hts⟩ (k_V_typeIn l u1 _ rfl) (cw_S 1 hts mw_223 mw_224 mw_11 mw_225 rfl rfl hd_V_typeIn ⟨Nat.le_of_ble_eq_true rfl, Nat.le_of_ble_eq_true rfl⟩) cc_preS rfl rfl hl.1 rfl (lv_room (Nat.le_of_ble_eq_true rfl)) d_C_joined_11 ⟨Nat.zero_le _, Nat.zero_le _⟩) ?_
      refine lv_iload_n hx hb d_C_joined_14 rfl (lv_at hl 2 rfl) ?_
      refine cc_calls (va_runS (As := [.int u2]) (rest := [.int (f_V_typeIn u1)]) ⟨hx, hb, hml, hown, hts⟩ (k_V_typeIn l u2 _ rfl) (cw_S 1 hts mw_223 mw_224 mw_11 mw_225 rfl rfl hd_V_typeIn ⟨Nat.le_of_ble_eq_true rfl, Nat.le_of_ble_eq_true rfl⟩) cc_preS rfl rfl hl.1 rfl (lv_room (Nat.le_of_ble_eq_true rfl)) d_C_joined_15 ⟨Nat.zero_le _, Nat.zero_le _⟩) ?_
      refine lv_iadd hx hb d_C_joined_18 ?_
      refine lv_iconst (v := 3) hx hb d_C_joined_19 (by decide) ?_
      refine lv_icmp_le (tgt := 25) hx hb d_C_joined_20 (by decide) (fun h20_3 => ?_) (fun h20_3 => ?_)
      · rw [if_pos h20_3] at hf
        refine lv_iload_n hx hb d_C_joined_25 rfl (lv_at hl 1 rfl) ?_
        refine lv_iload_n hx hb d_C_joined_26 rfl (lv_at hl 2 rfl) ?_
        obtain ⟨r4, hc, hf⟩ := Option.bind_eq_some_iff.mp hf
        refine cc_calls (va_runS (As := [.int u1, .int u2]) (rest := []) ⟨hx, hb, hml, hown, hts⟩ (k_C_behindEachOther l u1 u2 r4 hc) (cw_S 2 hts mw_237 mw_238 mw_3 mw_239 rfl rfl hd_C_behindEachOther ⟨Nat.le_of_ble_eq_true rfl, Nat.le_of_ble_eq_true rfl⟩) cc_preS rfl rfl hl.1 rfl (lv_room (Nat.le_of_ble_eq_true rfl)) d_C_joined_27 ⟨Nat.zero_le _, Nat.zero_le _⟩) ?_
        cases hf
        exact W.iret hx hb hr (fun t ht hW => ⟨⟨_, (), rfl, rfl, by rw [ht]; exact hP, va_K.moved hW.alike hK, hD⟩, hS.F ht⟩) hS.2.2 d_C_joined_30
      · rw [if_neg h20_3] at hf
        refine lv_iconst (v := -1) hx hb d_C_joined_23 (by decide) ?_
        cases hf
        exact W.iret hx hb hr (fun t ht hW => ⟨⟨_, (), rfl, rfl, by rw [ht]; exact hP, va_K.moved hW.alike hK, hD⟩, hS.F ht⟩) hS.2.2 d_C_joined_24
def f_C_each_L18 : Nat → Int32 → Int32 → Int32 → Int32 → ST_F → ST_A → Option (Int32 × ST_F × ST_A)
  | 0, _, _, _, _, _, _ => none
  | n + 1, x1, x2, x3, x4, F, A => if (f_V_typeIn x2) ≤ x4 then (some (x3, F, A)) else (ra_bi (f_K_put x1 (f_V_number x2 x4) (0 : Int32) F A) (fun r3 F3 A3 => f_C_each_L18 n x1 x2 (f_V_withNumber x3 x4 r3) (x4 + (1 : Int32)) F3 A3))
def f_C_each (u1 : Int32) (u2 : Int32) (Fa : ST_F) (Aa : ST_A) : Option (Int32 × ST_F × ST_A) := if u2 = (-1 : Int32) then (some ((-1 : Int32), Fa, Aa)) else (f_C_each_L18 400 u1 u2 (f_V_ofType (f_V_typeIn u2)) (0 : Int32) Fa Aa)
set_option maxHeartbeats 4000000 in
set_option maxRecDepth 100000 in
theorem k_C_each (l : Launch) (dC : Nat → ClassId) (dI : Nat → Nat → Nat) (a : Nat → Nat) (cI cC : ClassId) (sz : Nat) (Fa : ST_F) (Aa : ST_A) (u1 : Int32) (u2 : Int32) (r0 : Int32) (F9 : ST_F) (A9 : ST_A) (hf : f_C_each u1 u2 Fa Aa = some (r0, F9, A9)) : cc_MetI l y_C_each (Cond.code y_C_each b_C_each 5 (some .int) :: wA) ({ frames := 1, cells := 0, slots := 0, locals := 24 } : Room) (dC, dI) vC [(cI, .int), (cC, .char)] ([.ref (a 0), .int u1, .int u2] : List Value) (wC a cI cC Fa Aa) sz (wC a cI cC F9 A9) r0 := by
  refine Met.ofW (cc := b_C_each) (maxL := 5) (ret := (some .int)) (by decide) rfl ?_
  intro p e s m args below meth c s₁ B hml hv
  obtain ⟨rfl, hsz, hP, hK, hD0⟩ := hv
  have hx := B.exec
  have hb := B.bytes
  have hr := B.returns
  have hts := fun w h => atoms_spec (ws := (Cond.code y_C_each b_C_each 5 (some .int) :: wA)) B.pre w (List.mem_cons_of_mem _ h)
  have hown : s.vm.findClass R_C = some m.cls := findClass_of_methodNamed B.named
  have hlocks := B.notSynchronized
  subst hsz
  have hD := hD0.self (sz := s.heap.size)
  have hA : ∀ q : Nat, s.heap.size ≤ q → va_A (wC a cI cC Fa Aa) s.heap.size q := fun q h => Or.inr h
  have hS : va_S (va_A (wC a cI cC Fa Aa) s.heap.size) s.heap s.heap [] := va_S.rf
  have hl := lv_entry (([.ref (a 0), .int u1, .int u2] : List Value)) (n := 5) (Nat.le_of_ble_eq_true rfl)
  have L18 : ∀ (n : Nat) (x1 : Int32) (x2 : Int32) (x3 : Int32) (x4 : Int32) (F : ST_F) (A : ST_A) (H : Heap) (locs : List Loc) (ls : Array Slot), lv_has ls 5 [(0, .ref (a 0)), (1, .int x1), (2, .int x2), (3, .int x3), (4, .int x4)] → va_P (dC, dI) vC (wC a cI cC F A) H → va_D (va_A (wC a cI cC Fa Aa) s.heap.size) (wC a cI cC F A) → va_S (va_A (wC a cI cC Fa Aa) s.heap.size) s.heap H locs → f_C_each_L18 n x1 x2 x3 x4 F A = some (r0, F9, A9) → W p l e (headSpec (Cond.code y_C_each b_C_each 5 (some .int) :: wA) ({ frames := 1, cells := 0, slots := 0, locals := 24 } : Room)).room s m ([.ref (a 0), .int u1, .int u2] : List Value).toArray below meth c H locs 0 0 (MQ below (cc_Qi (dC, dI) vC [(cI, .int), (cC, .char)] (wC a cI cC Fa Aa) s.heap.size (wC a cI cC F9 A9) r0) ([.ref (a 0), .int u1, .int u2] : List Value).toArray s 0 0 (va_A (wC a cI cC Fa Aa) s.heap.size)) (F0 m 18 ls []) := by
    intro n
    induction n with
    | zero => intro x1 x2 x3 x4 F A H locs ls hl hP hD hS hf; cases hf
    | succ n ih =>
      intro x1 x2 x3 x4 F A H locs ls hl hP hD hS hf
      rw [f_C_each_L18] at hf
      refine lv_iload hx hb d_C_each_18 (lv_at hl 4 rfl) ?_
      refine lv_iload_n hx hb d_C_each_20 rfl (lv_at hl 2 rfl) ?_
      refine cc_calls (va_runS (As := [.int x2]) (rest := [.int x4]) ⟨hx, hb, hml, hown, hts⟩ (k_V_typeIn l x2 _ rfl) (cw_S 1 hts mw_223 mw_224 mw_11 mw_225 rfl rfl hd_V_typeIn ⟨Nat.le_of_ble_eq_true rfl, Nat.le_of_ble_eq_true rfl⟩) cc_preS rfl rfl hl.1 rfl (lv_room (Nat.le_of_ble_eq_true rfl)) d_C_each_21 ⟨Nat.zero_le _, Nat.zero_le _⟩) ?_
      refine lv_icmp_ge (tgt := 55) hx hb d_C_each_24 (by decide) (fun h24_2 => ?_) (fun h24_2 => ?_)
      · rw [if_pos h24_2] at hf
        refine lv_iload_n hx hb d_C_each_55 rfl (lv_at hl 3 rfl) ?_
        cases hf
        exact W.iret hx hb hr (fun t ht hW => ⟨⟨_, (), rfl, rfl, by rw [ht]; exact hP, va_K.moved hW.alike hK, hD⟩, hS.F ht⟩) hS.2.2 d_C_each_56
      · rw [if_neg h24_2] at hf
        refine lv_iload_n hx hb d_C_each_27 rfl (lv_at hl 3 rfl) ?_
        refine lv_iload hx hb d_C_each_28 (lv_at hl 4 rfl) ?_
        refine lv_aload_n hx hb d_C_each_30 rfl (lv_at hl 0 rfl) ?_
        refine va_get (D := (dC, dI)) (ci := 1) (v := .ref (a 3)) (C := R_C) (T := T_C) (N := 5) hx hb hts in_C hown hK hP 0 rfl rfl 4 (by decide) (hts _ mw_79) (fun _ h9 => h9) rfl d_C_each_31 ?_
        refine lv_iload_n hx hb d_C_each_34 rfl (lv_at hl 1 rfl) ?_
        refine lv_iload_n hx hb d_C_each_35 rfl (lv_at hl 2 rfl) ?_
        refine lv_iload hx hb d_C_each_36 (lv_at hl 4 rfl) ?_
        refine cc_calls (va_runS (As := [.int x2, .int x4]) (rest := [.int x1, .ref (a 3), .int x4, .int x3]) ⟨hx, hb, hml, hown, hts⟩ (k_V_number l x2 x4 _ rfl) (cw_S 2 hts mw_226 mw_227 mw_11 mw_228 rfl rfl hd_V_number ⟨Nat.le_of_ble_eq_true rfl, Nat.le_of_ble_eq_true rfl⟩) cc_preS rfl rfl hl.1 rfl (lv_room (Nat.le_of_ble_eq_true rfl)) d_C_each_38 ⟨Nat.zero_le _, Nat.zero_le _⟩) ?_
        refine lv_iconst (v := 0) hx hb d_C_each_41 (by decide) ?_
        have hP : va_P (dC, dI) vC (wC a cI cC F A) H := hP
        have hD : va_D (va_A (wC a cI cC Fa Aa) s.heap.size) (wC a cI cC F A) := hD
        obtain ⟨r3, F3, A3, hc, hf⟩ := ra_bi_some hf
        refine cc_calli (va_runV (As := [.int x1, .int (f_V_number x2 x4), .int (0 : Int32)]) (rest := [.int x4, .int x3]) ⟨hx, hb, hml, hown, hts⟩ (k_K_put l dC dI a cI cC H.size F A x1 (f_V_number x2 x4) (0 : Int32) r3 F3 A3 hc) (cw_V 3 hts mw_196 mw_197 mw_198 mw_2 mw_199 rfl rfl rfl hd_K_put ⟨Nat.le_of_ble_eq_true rfl, Nat.le_of_ble_eq_true rfl⟩) (cc_preV hK hP hD rfl (q0 := 3) rfl) rfl rfl hl.1 rfl (lv_room (Nat.le_of_ble_eq_true rfl)) d_C_each_42 ⟨Nat.zero_le _, Nat.zero_le _⟩) hD hS hA (fun H locs hP hD hS => ?_)
        refine cc_calls (va_runS (As := [.int x3, .int x4, .int r3]) (rest := []) ⟨hx, hb, hml, hown, hts⟩ (k_V_withNumber l x3 x4 r3 _ rfl) (cw_S 3 hts mw_200 mw_201 mw_11 mw_202 rfl rfl hd_V_withNumber ⟨Nat.le_of_ble_eq_true rfl, Nat.le_of_ble_eq_true rfl⟩) cc_preS rfl rfl hl.1 rfl (lv_room (Nat.le_of_ble_eq_true rfl)) d_C_each_45 ⟨Nat.zero_le _, Nat.zero_le _⟩) ?_
        refine lv_istore_n hx hb d_C_each_48 rfl hl (by decide) rfl (fun ls hl => ?_)
        have hl : lv_has ls 5 [(3, .int (f_V_withNumber x3 x4 r3)), (0, .ref (a 0)), (1, .int x1), (2, .int x2), (4, .int x4)] := hl
        refine lv_iinc (k := 4) (v := (x4 + (1 : Int32))) hx hb d_C_each_49 hl rfl (by rfl) (by decide) rfl (fun ls hl => ?_)
        have hl : lv_has ls 5 [(4, .int (x4 + (1 : Int32))), (3, .int (f_V_withNumber x3 x4 r3)), (0, .ref (a 0)), (1, .int x1), (2, .int x2)] := hl
        refine lv_goto (tgt := 18) hx hb d_C_each_52 (by decide) ?_
        have hl : lv_has ls 5 [(0, .ref (a 0)), (1, .int x1), (2, .int x2), (3, .int (f_V_withNumber x3 x4 r3)), (4, .int (x4 + (1 : Int32)))] := lv_sub hl [2, 3, 4, 1, 0] rfl
        exact ih x1 x2 (f_V_withNumber x3 x4 r3) (x4 + (1 : Int32)) F3 A3 _ _ _ hl hP hD hS hf
  rw [lg_entry_eq]
  generalize (lg_sl (([.ref (a 0), .int u1, .int u2] : List Value)) ++ List.replicate (5 - (lg_sl (([.ref (a 0), .int u1, .int u2] : List Value))).length) Slot.unset).toArray = ls at hl ⊢
  have hl : lv_has ls 5 [(0, .ref (a 0)), (1, .int u1), (2, .int u2)] := hl
  unfold f_C_each at hf
  refine lv_iload_n hx hb d_C_each_0 rfl (lv_at hl 2 rfl) ?_
  refine lv_iconst (v := -1) hx hb d_C_each_1 (by decide) ?_
  refine lv_icmp_ne (tgt := 7) hx hb d_C_each_2 (by decide) (fun h2_1 => ?_) (fun h2_1 => ?_)
  · rw [if_neg h2_1] at hf
    refine lv_iload_n hx hb d_C_each_7 rfl (lv_at hl 2 rfl) ?_
    refine cc_calls (va_runS (As := [.int u2]) (rest := []) ⟨hx, hb, hml, hown, hts⟩ (k_V_typeIn l u2 _ rfl) (cw_S 1 hts mw_223 mw_224 mw_11 mw_225 rfl rfl hd_V_typeIn ⟨Nat.le_of_ble_eq_true rfl, Nat.le_of_ble_eq_true rfl⟩) cc_preS rfl rfl hl.1 rfl (lv_room (Nat.le_of_ble_eq_true rfl)) d_C_each_8 ⟨Nat.zero_le _, Nat.zero_le _⟩) ?_
    refine cc_calls (va_runS (As := [.int (f_V_typeIn u2)]) (rest := []) ⟨hx, hb, hml, hown, hts⟩ (k_V_ofType l (f_V_typeIn u2) _ rfl) (cw_S 1 hts mw_193 mw_194 mw_11 mw_195 rfl rfl hd_V_ofType ⟨Nat.le_of_ble_eq_true rfl, Nat.le_of_ble_eq_true rfl⟩) cc_preS rfl rfl hl.1 rfl (lv_room (Nat.le_of_ble_eq_true rfl)) d_C_each_11 ⟨Nat.zero_le _, Nat.zero_le _⟩) ?_
    refine lv_istore_n hx hb d_C_each_14 rfl hl (by decide) rfl (fun ls hl => ?_)
    have hl : lv_has ls 5 [(3, .int (f_V_ofType (f_V_typeIn u2))), (0, .ref (a 0)), (1, .int u1), (2, .int u2)] := hl
    refine lv_iconst (v := 0) hx hb d_C_each_15 (by decide) ?_
    refine lv_istore hx hb d_C_each_16 hl (by decide) rfl (fun ls hl => ?_)
    have hl : lv_has ls 5 [(4, .int (0 : Int32)), (3, .int (f_V_ofType (f_V_typeIn u2))), (0, .ref (a 0)), (1, .int u1), (2, .int u2)] := hl
    have hl : lv_has ls 5 [(0, .ref (a 0)), (1, .int u1), (2, .int u2), (3, .int (f_V_ofType (f_V_typeIn u2))), (4, .int (0 : Int32))] := lv_sub hl [2, 3, 4, 1, 0] rfl
    exact L18 400 u1 u2 (f_V_ofType (f_V_typeIn u2)) (0 : Int32) Fa Aa _ _ _ hl hP hD hS hf
  · rw [if_pos h2_1] at hf
    refine lv_iconst (v := -1) hx hb d_C_each_5 (by decide) ?_
    cases hf
    exact W.iret hx hb hr (fun t ht hW => ⟨⟨_, (), rfl, rfl, by rw [ht]; exact hP, va_K.moved hW.alike hK, hD⟩, hS.F ht⟩) hS.2.2 d_C_each_6
def f_C_pairwise_L64 : Nat → Int32 → Int32 → Int32 → Int32 → Int32 → Int32 → Int32 → Int32 → ST_F → ST_A → Option (Int32 × ST_F × ST_A)
  | 0, _, _, _, _, _, _, _, _, _, _ => none
  | n + 1, x1, x2, x3, x4, x5, x6, x7, x8, F, A => if x6 ≤ x8 then (some (x7, F, A)) else (ra_bi (f_K_put x1 (f_V_spread x2 x8) (f_V_spread x3 x8) F A) (fun r5 F5 A5 => f_C_pairwise_L64 n x1 x2 x3 x4 x5 x6 (f_V_withNumber x7 x8 r5) (x8 + (1 : Int32)) F5 A5))
def f_C_pairwise_J45 (x1 : Int32) (x2 : Int32) (x3 : Int32) (x4 : Int32) (x5 : Int32) (F : ST_F) (A : ST_A) : Option (Int32 × ST_F × ST_A) := f_C_pairwise_L64 400 x1 x2 x3 x4 x5 (if x4 < x5 then x5 else x4) (f_V_ofType (if x4 < x5 then x5 else x4)) (0 : Int32) F A
def f_C_pairwise (u1 : Int32) (u2 : Int32) (u3 : Int32) (Fa : ST_F) (Aa : ST_A) : Option (Int32 × ST_F × ST_A) := if u2 = (-1 : Int32) then (some ((-1 : Int32), Fa, Aa)) else (if u3 = (-1 : Int32) then (some ((-1 : Int32), Fa, Aa)) else (if (f_V_typeIn u2) = (f_V_typeIn u3) then (f_C_pairwise_J45 u1 u2 u3 (f_V_typeIn u2) (f_V_typeIn u3) Fa Aa) else (if (f_V_typeIn u2) = (1 : Int32) then (f_C_pairwise_J45 u1 u2 u3 (f_V_typeIn u2) (f_V_typeIn u3) Fa Aa) else (if (f_V_typeIn u3) = (1 : Int32) then (f_C_pairwise_J45 u1 u2 u3 (f_V_typeIn u2) (f_V_typeIn u3) Fa Aa) else (some ((-1 : Int32), Fa, Aa))))))
set_option maxHeartbeats 4000000 in
set_option maxRecDepth 100000 in
theorem k_C_pairwise (l : Launch) (dC : Nat → ClassId) (dI : Nat → Nat → Nat) (a : Nat → Nat) (cI cC : ClassId) (sz : Nat) (Fa : ST_F) (Aa : ST_A) (u1 : Int32) (u2 : Int32) (u3 : Int32) (r0 : Int32) (F9 : ST_F) (A9 : ST_A) (hf : f_C_pairwise u1 u2 u3 Fa Aa = some (r0, F9, A9)) : cc_MetI l y_C_pairwise (Cond.code y_C_pairwise b_C_pairwise 10 (some .int) :: wA) ({ frames := 2, cells := 0, slots := 0, locals := 42 } : Room) (dC, dI) vC [(cI, .int), (cC, .char)] ([.ref (a 0), .int u1, .int u2, .int u3] : List Value) (wC a cI cC Fa Aa) sz (wC a cI cC F9 A9) r0 := by
  refine Met.ofW (cc := b_C_pairwise) (maxL := 10) (ret := (some .int)) (by decide) rfl ?_
  intro p e s m args below meth c s₁ B hml hv
  obtain ⟨rfl, hsz, hP, hK, hD0⟩ := hv
  have hx := B.exec
  have hb := B.bytes
  have hr := B.returns
  have hts := fun w h => atoms_spec (ws := (Cond.code y_C_pairwise b_C_pairwise 10 (some .int) :: wA)) B.pre w (List.mem_cons_of_mem _ h)
  have hown : s.vm.findClass R_C = some m.cls := findClass_of_methodNamed B.named
  have hlocks := B.notSynchronized
  subst hsz
  have hD := hD0.self (sz := s.heap.size)
  have hA : ∀ q : Nat, s.heap.size ≤ q → va_A (wC a cI cC Fa Aa) s.heap.size q := fun q h => Or.inr h
  have hS : va_S (va_A (wC a cI cC Fa Aa) s.heap.size) s.heap s.heap [] := va_S.rf
  have hl := lv_entry (([.ref (a 0), .int u1, .int u2, .int u3] : List Value)) (n := 10) (Nat.le_of_ble_eq_true rfl)
  have L64 : ∀ (n : Nat) (x1 : Int32) (x2 : Int32) (x3 : Int32) (x4 : Int32) (x5 : Int32) (x6 : Int32) (x7 : Int32) (x8 : Int32) (F : ST_F) (A : ST_A) (H : Heap) (locs : List Loc) (ls : Array Slot), lv_has ls 10 [(0, .ref (a 0)), (1, .int x1), (2, .int x2), (3, .int x3), (4, .int x4), (5, .int x5), (6, .int x6), (7, .int x7), (8, .int x8)] → va_P (dC, dI) vC (wC a cI cC F A) H → va_D (va_A (wC a cI cC Fa Aa) s.heap.size) (wC a cI cC F A) → va_S (va_A (wC a cI cC Fa Aa) s.heap.size) s.heap H locs → f_C_pairwise_L64 n x1 x2 x3 x4 x5 x6 x7 x8 F A = some (r0, F9, A9) → W p l e (headSpec (Cond.code y_C_pairwise b_C_pairwise 10 (some .int) :: wA) ({ frames := 2, cells := 0, slots := 0, locals := 42 } : Room)).room s m ([.ref (a 0), .int u1, .int u2, .int u3] : List Value).toArray below meth c H locs 0 0 (MQ below (cc_Qi (dC, dI) vC [(cI, .int), (cC, .char)] (wC a cI cC Fa Aa) s.heap.size (wC a cI cC F9 A9) r0) ([.ref (a 0), .int u1, .int u2, .int u3] : List Value).toArray s 0 0 (va_A (wC a cI cC Fa Aa) s.heap.size)) (F0 m 64 ls []) := by
    intro n
    induction n with
    | zero => intro x1 x2 x3 x4 x5 x6 x7 x8 F A H locs ls hl hP hD hS hf; cases hf
    | succ n ih =>
      intro x1 x2 x3 x4 x5 x6 x7 x8 F A H locs ls hl hP hD hS hf
      rw [f_C_pairwise_L64] at hf
      refine lv_iload hx hb d_C_pairwise_64 (lv_at hl 8 rfl) ?_
      refine lv_iload hx hb d_C_pairwise_66 (lv_at hl 6 rfl) ?_
      refine lv_icmp_ge (tgt := 110) hx hb d_C_pairwise_68 (by decide) (fun h68_4 => ?_) (fun h68_4 => ?_)
      · rw [if_pos h68_4] at hf
        refine lv_iload hx hb d_C_pairwise_110 (lv_at hl 7 rfl) ?_
        cases hf
        exact W.iret hx hb hr (fun t ht hW => ⟨⟨_, (), rfl, rfl, by rw [ht]; exact hP, va_K.moved hW.alike hK, hD⟩, hS.F ht⟩) hS.2.2 d_C_pairwise_112
      · rw [if_neg h68_4] at hf
        refine lv_aload_n hx hb d_C_pairwise_71 rfl (lv_at hl 0 rfl) ?_
        refine va_get (D := (dC, dI)) (ci := 1) (v := .ref (a 3)) (C := R_C) (T := T_C) (N := 5) hx hb hts in_C hown hK hP 0 rfl rfl 4 (by decide) (hts _ mw_79) (fun _ h9 => h9) rfl d_C_pairwise_72 ?_
        refine lv_iload_n hx hb d_C_pairwise_75 rfl (lv_at hl 1 rfl) ?_
        refine lv_iload_n hx hb d_C_pairwise_76 rfl (lv_at hl 2 rfl) ?_
        refine lv_iload hx hb d_C_pairwise_77 (lv_at hl 8 rfl) ?_
        refine cc_calls (va_runS (As := [.int x2, .int x8]) (rest := [.int x1, .ref (a 3)]) ⟨hx, hb, hml, hown, hts⟩ (k_V_spread l x2 x8 _ rfl) (cw_S 2 hts mw_251 mw_252 mw_11 mw_253 rfl rfl hd_V_spread ⟨Nat.le_of_ble_eq_true rfl, Nat.le_of_ble_eq_true rfl⟩) cc_preS rfl rfl hl.1 rfl (lv_room (Nat.le_of_ble_eq_true rfl)) d_C_pairwise_79 ⟨Nat.zero_le _, Nat.zero_le _⟩) ?_
        refine lv_iload_n hx hb d_C_pairwise_82 rfl (lv_at hl 3 rfl) ?_
        refine lv_iload hx hb d_C_pairwise_83 (lv_at hl 8 rfl) ?_
        refine cc_calls (va_runS (As := [.int x3, .int x8]) (rest := [.int (f_V_spread x2 x8), .int x1, .ref (a 3)]) ⟨hx, hb, hml, hown, hts⟩ (k_V_spread l x3 x8 _ rfl) (cw_S 2 hts mw_251 mw_252 mw_11 mw_253 rfl rfl hd_V_spread ⟨Nat.le_of_ble_eq_true rfl, Nat.le_of_ble_eq_true rfl⟩) cc_preS rfl rfl hl.1 rfl (lv_room (Nat.le_of_ble_eq_true rfl)) d_C_pairwise_85 ⟨Nat.zero_le _, Nat.zero_le _⟩) ?_
        have hP : va_P (dC, dI) vC (wC a cI cC F A) H := hP
        have hD : va_D (va_A (wC a cI cC Fa Aa) s.heap.size) (wC a cI cC F A) := hD
        obtain ⟨r5, F5, A5, hc, hf⟩ := ra_bi_some hf
        refine cc_calli (va_runV (As := [.int x1, .int (f_V_spread x2 x8), .int (f_V_spread x3 x8)]) (rest := []) ⟨hx, hb, hml, hown, hts⟩ (k_K_put l dC dI a cI cC H.size F A x1 (f_V_spread x2 x8) (f_V_spread x3 x8) r5 F5 A5 hc) (cw_V 3 hts mw_196 mw_197 mw_198 mw_2 mw_199 rfl rfl rfl hd_K_put ⟨Nat.le_of_ble_eq_true rfl, Nat.le_of_ble_eq_true rfl⟩) (cc_preV hK hP hD rfl (q0 := 3) rfl) rfl rfl hl.1 rfl (lv_room (Nat.le_of_ble_eq_true rfl)) d_C_pairwise_88 ⟨Nat.zero_le _, Nat.zero_le _⟩) hD hS hA (fun H locs hP hD hS => ?_)
        refine lv_istore hx hb d_C_pairwise_91 hl (by decide) rfl (fun ls hl => ?_)
        have hl : lv_has ls 10 [(9, .int r5), (0, .ref (a 0)), (1, .int x1), (2, .int x2), (3, .int x3), (4, .int x4), (5, .int x5), (6, .int x6), (7, .int x7), (8, .int x8)] := hl
        refine lv_iload hx hb d_C_pairwise_93 (lv_at hl 8 rfl) ?_
        refine lv_iload hx hb d_C_pairwise_95 (lv_at hl 9 rfl) ?_
        refine lv_iload hx hb d_C_pairwise_97 (lv_at hl 0 rfl) ?_
        refine cc_calls (va_runS (As := [.int x7, .int x8, .int r5]) (rest := []) ⟨hx, hb, hml, hown, hts⟩ (k_V_withNumber l x7 x8 r5 _ rfl) (cw_S 3 hts mw_200 mw_201 mw_11 mw_202 rfl rfl hd_V_withNumber ⟨Nat.le_of_ble_eq_true rfl, Nat.le_of_ble_eq_true rfl⟩) cc_preS rfl rfl hl.1 rfl (lv_room (Nat.le_of_ble_eq_true rfl)) d_C_pairwise_99 ⟨Nat.zero_le _, Nat.zero_le _⟩) ?_
        refine lv_istore hx hb d_C_pairwise_102 hl (by decide) rfl (fun ls hl => ?_)
        have hl : lv_has ls 10 [(7, .int (f_V_withNumber x7 x8 r5)), (9, .int r5), (0, .ref (a 0)), (1, .int x1), (2, .int x2), (3, .int x3), (4, .int x4), (5, .int x5), (6, .int x6), (8, .int x8)] := hl
        refine lv_iinc (k := 9) (v := (x8 + (1 : Int32))) hx hb d_C_pairwise_104 hl rfl (by rfl) (by decide) rfl (fun ls hl => ?_)
        have hl : lv_has ls 10 [(8, .int (x8 + (1 : Int32))), (7, .int (f_V_withNumber x7 x8 r5)), (9, .int r5), (0, .ref (a 0)), (1, .int x1), (2, .int x2), (3, .int x3), (4, .int x4), (5, .int x5), (6, .int x6)] := hl
        refine lv_goto (tgt := 64) hx hb d_C_pairwise_107 (by decide) ?_
        have hl : lv_has ls 10 [(0, .ref (a 0)), (1, .int x1), (2, .int x2), (3, .int x3), (4, .int x4), (5, .int x5), (6, .int x6), (7, .int (f_V_withNumber x7 x8 r5)), (8, .int (x8 + (1 : Int32)))] := lv_sub hl [3, 4, 5, 6, 7, 8, 9, 1, 0] rfl
        exact ih x1 x2 x3 x4 x5 x6 (f_V_withNumber x7 x8 r5) (x8 + (1 : Int32)) F5 A5 _ _ _ hl hP hD hS hf
  have J45 : ∀ (x1 : Int32) (x2 : Int32) (x3 : Int32) (x4 : Int32) (x5 : Int32) (F : ST_F) (A : ST_A) (H : Heap) (locs : List Loc) (ls : Array Slot), lv_has ls 10 [(0, .ref (a 0)), (1, .int x1), (2, .int x2), (3, .int x3), (4, .int x4), (5, .int x5)] → va_P (dC, dI) vC (wC a cI cC F A) H → va_D (va_A (wC a cI cC Fa Aa) s.heap.size) (wC a cI cC F A) → va_S (va_A (wC a cI cC Fa Aa) s.heap.size) s.heap H locs → f_C_pairwise_J45 x1 x2 x3 x4 x5 F A = some (r0, F9, A9) → W p l e (headSpec (Cond.code y_C_pairwise b_C_pairwise 10 (some .int) :: wA) ({ frames := 2, cells := 0, slots := 0, locals := 42 } : Room)).room s m ([.ref (a 0), .int u1, .int u2, .int u3] : List Value).toArray below meth c H locs 0 0 (MQ below (cc_Qi (dC, dI) vC [(cI, .int), (cC, .char)] (wC a cI cC Fa Aa) s.heap.size (wC a cI cC F9 A9) r0) ([.ref (a 0), .int u1, .int u2, .int u3] : List Value).toArray s 0 0 (va_A (wC a cI cC Fa Aa) s.heap.size)) (F0 m 45 ls []) := by
    intro x1 x2 x3 x4 x5 F A H locs ls hl hP hD hS hf
    unfold f_C_pairwise_J45 at hf
    refine lv_iload hx hb d_C_pairwise_45 (lv_at hl 4 rfl) ?_
    refine lv_iload hx hb d_C_pairwise_47 (lv_at hl 5 rfl) ?_
    refine va_mmax hx hb (hml.trans hl.1.symm) hown (hts _ mw_248) (hts _ mw_249) (hts _ mw_12) (hts _ mw_250) (Nat.le_of_ble_eq_true rfl) (Nat.le_of_ble_eq_true rfl) (Nat.zero_le _) (Nat.zero_le _) d_C_pairwise_49 ?_
    refine lv_istore hx hb d_C_pairwise_52 hl (by decide) rfl (fun ls hl => ?_)
    have hl : lv_has ls 10 [(6, .int (if x4 < x5 then x5 else x4)), (0, .ref (a 0)), (1, .int x1), (2, .int x2), (3, .int x3), (4, .int x4), (5, .int x5)] := hl
    refine lv_iload hx hb d_C_pairwise_54 (lv_at hl 0 rfl) ?_
    refine cc_calls (va_runS (As := [.int (if x4 < x5 then x5 else x4)]) (rest := []) ⟨hx, hb, hml, hown, hts⟩ (k_V_ofType l (if x4 < x5 then x5 else x4) _ rfl) (cw_S 1 hts mw_193 mw_194 mw_11 mw_195 rfl rfl hd_V_ofType ⟨Nat.le_of_ble_eq_true rfl, Nat.le_of_ble_eq_true rfl⟩) cc_preS rfl rfl hl.1 rfl (lv_room (Nat.le_of_ble_eq_true rfl)) d_C_pairwise_56 ⟨Nat.zero_le _, Nat.zero_le _⟩) ?_
    refine lv_istore hx hb d_C_pairwise_59 hl (by decide) rfl (fun ls hl => ?_)
    have hl : lv_has ls 10 [(7, .int (f_V_ofType (if x4 < x5 then x5 else x4))), (6, .int (if x4 < x5 then x5 else x4)), (0, .ref (a 0)), (1, .int x1), (2, .int x2), (3, .int x3), (4, .int x4), (5, .int x5)] := hl
    refine lv_iconst (v := 0) hx hb d_C_pairwise_61 (by decide) ?_
    refine lv_istore hx hb d_C_pairwise_62 hl (by decide) rfl (fun ls hl => ?_)
    have hl : lv_has ls 10 [(8, .int (0 : Int32)), (7, .int (f_V_ofType (if x4 < x5 then x5 else x4))), (6, .int (if x4 < x5 then x5 else x4)), (0, .ref (a 0)), (1, .int x1), (2, .int x2), (3, .int x3), (4, .int x4), (5, .int x5)] := hl
    have hl : lv_has ls 10 [(0, .ref (a 0)), (1, .int x1), (2, .int x2), (3, .int x3), (4, .int x4), (5, .int x5), (6, .int (if x4 < x5 then x5 else x4)), (7, .int (f_V_ofType (if x4 < x5 then x5 else x4))), (8, .int (0 : Int32))] := lv_sub hl [3, 4, 5, 6, 7, 8, 2, 1, 0] rfl
    exact L64 400 x1 x2 x3 x4 x5 (if x4 < x5 then x5 else x4) (f_V_ofType (if x4 < x5 then x5 else x4)) (0 : Int32) F A _ _ _ hl hP hD hS hf
  rw [lg_entry_eq]
  generalize (lg_sl (([.ref (a 0), .int u1, .int u2, .int u3] : List Value)) ++ List.replicate (10 - (lg_sl (([.ref (a 0), .int u1, .int u2, .int u3] : List Value))).length) Slot.unset).toArray = ls at hl ⊢
  have hl : lv_has ls 10 [(0, .ref (a 0)), (1, .int u1), (2, .int u2), (3, .int u3)] := hl
  unfold f_C_pairwise at hf
  refine lv_iload_n hx hb d_C_pairwise_0 rfl (lv_at hl 2 rfl) ?_
  refine lv_iconst (v := -1) hx hb d_C_pairwise_1 (by decide) ?_
  refine lv_icmp_eq (tgt := 10) hx hb d_C_pairwise_2 (by decide) (fun h2_1 => ?_) (fun h2_1 => ?_)
  · rw [if_pos h2_1] at hf
    refine lv_iconst (v := -1) hx hb d_C_pairwise_10 (by decide) ?_
    cases hf
    exact W.iret hx hb hr (fun t ht hW => ⟨⟨_, (), rfl, rfl, by rw [ht]; exact hP, va_K.moved hW.alike hK, hD⟩, hS.F ht⟩) hS.2.2 d_C_pairwise_11
  · rw [if_neg h2_1] at hf
    refine lv_iload_n hx hb d_C_pairwise_5 rfl (lv_at hl 3 rfl) ?_
    refine lv_iconst (v := -1) hx hb d_C_pairwise_6 (by decide) ?_
    refine lv_icmp_ne (tgt := 12) hx hb d_C_pairwise_7 (by decide) (fun h7_2 => ?_) (fun h7_2 => ?_)
    · rw [if_neg h7_2] at hf
      refine lv_iload_n hx hb d_C_pairwise_12 rfl (lv_at hl 2 rfl) ?_
      refine cc_calls (va_runS (As := [.int u2]) (rest := []) ⟨hx, hb, hml, hown, hts⟩ (k_V_typeIn l u2 _ rfl) (cw_S 1 hts mw_223 mw_224 mw_11 mw_225 rfl rfl hd_V_typeIn ⟨Nat.le_of_ble_eq_true rfl, Nat.le_of_ble_eq_true rfl⟩) cc_preS rfl rfl hl.1 rfl (lv_room (Nat.le_of_ble_eq_true rfl)) d_C_pairwise_13 ⟨Nat.zero_le _, Nat.zero_le _⟩) ?_
      refine lv_istore hx hb d_C_pairwise_16 hl (by decide) rfl (fun ls hl => ?_)
      have hl : lv_has ls 10 [(4, .int (f_V_typeIn u2)), (0, .ref (a 0)), (1, .int u1), (2, .int u2), (3, .int u3)] := hl
      refine lv_iload_n hx hb d_C_pairwise_18 rfl (lv_at hl 4 rfl) ?_
      refine cc_calls (va_runS (As := [.int u3]) (rest := []) ⟨hx, hb, hml, hown, hts⟩ (k_V_typeIn l u3 _ rfl) (cw_S 1 hts mw_223 mw_224 mw_11 mw_225 rfl rfl hd_V_typeIn ⟨Nat.le_of_ble_eq_true rfl, Nat.le_of_ble_eq_true rfl⟩) cc_preS rfl rfl hl.1 rfl (lv_room (Nat.le_of_ble_eq_true rfl)) d_C_pairwise_19 ⟨Nat.zero_le _, Nat.zero_le _⟩) ?_
      refine lv_istore hx hb d_C_pairwise_22 hl (by decide) rfl (fun ls hl => ?_)
      have hl : lv_has ls 10 [(5, .int (f_V_typeIn u3)), (4, .int (f_V_typeIn u2)), (0, .ref (a 0)), (1, .int u1), (2, .int u2), (3, .int u3)] := hl
      refine lv_iload hx hb d_C_pairwise_24 (lv_at hl 1 rfl) ?_
      refine lv_iload hx hb d_C_pairwise_26 (lv_at hl 0 rfl) ?_
      refine lv_icmp_eq (tgt := 45) hx hb d_C_pairwise_28 (by decide) (fun h28_3 => ?_) (fun h28_3 => ?_)
      · rw [if_pos h28_3] at hf
        have hl : lv_has ls 10 [(0, .ref (a 0)), (1, .int u1), (2, .int u2), (3, .int u3), (4, .int (f_V_typeIn u2)), (5, .int (f_V_typeIn u3))] := lv_sub hl [2, 3, 4, 5, 1, 0] rfl
        exact J45 u1 u2 u3 (f_V_typeIn u2) (f_V_typeIn u3) Fa Aa _ _ _ hl hP hD hS hf
      · rw [if_neg h28_3] at hf
        refine lv_iload hx hb d_C_pairwise_31 (lv_at hl 1 rfl) ?_
        refine lv_iconst (v := 1) hx hb d_C_pairwise_33 (by decide) ?_
        refine lv_icmp_eq (tgt := 45) hx hb d_C_pairwise_34 (by decide) (fun h34_6 => ?_) (fun h34_6 => ?_)
        · rw [if_pos h34_6] at hf
          have hl : lv_has ls 10 [(0, .ref (a 0)), (1, .int u1), (2, .int u2), (3, .int u3), (4, .int (f_V_typeIn u2)), (5, .int (f_V_typeIn u3))] := lv_sub hl [2, 3, 4, 5, 1, 0] rfl
          exact J45 u1 u2 u3 (f_V_typeIn u2) (f_V_typeIn u3) Fa Aa _ _ _ hl hP hD hS hf
        · rw [if_neg h34_6] at hf
          refine lv_iload hx hb d_C_pairwise_37 (lv_at hl 0 rfl) ?_
          refine lv_iconst (v := 1) hx hb d_C_pairwise_39 (by decide) ?_
          refine lv_icmp_eq (tgt := 45) hx hb d_C_pairwise_40 (by decide) (fun h40_7 => ?_) (fun h40_7 => ?_)
          · rw [if_pos h40_7] at hf
            have hl : lv_has ls 10 [(0, .ref (a 0)), (1, .int u1), (2, .int u2), (3, .int u3), (4, .int (f_V_typeIn u2)), (5, .int (f_V_typeIn u3))] := lv_sub hl [2, 3, 4, 5, 1, 0] rfl
            exact J45 u1 u2 u3 (f_V_typeIn u2) (f_V_typeIn u3) Fa Aa _ _ _ hl hP hD hS hf
          · rw [if_neg h40_7] at hf
            refine lv_iconst (v := -1) hx hb d_C_pairwise_43 (by decide) ?_
            cases hf
            exact W.iret hx hb hr (fun t ht hW => ⟨⟨_, (), rfl, rfl, by rw [ht]; exact hP, va_K.moved hW.alike hK, hD⟩, hS.F ht⟩) hS.2.2 d_C_pairwise_44
    · rw [if_pos h7_2] at hf
      refine lv_iconst (v := -1) hx hb d_C_pairwise_10 (by decide) ?_
      cases hf
      exact W.iret hx hb hr (fun t ht hW => ⟨⟨_, (), rfl, rfl, by rw [ht]; exact hP, va_K.moved hW.alike hK, hD⟩, hS.F ht⟩) hS.2.2 d_C_pairwise_11
def f_C_timesColumns_L25 (kx : Int32 → Int32 → Int32 → Int32 → Int32 → Int32 → ST_F → ST_A → Option (Int32 × ST_F × ST_A)) : Nat → Int32 → Int32 → Int32 → Int32 → Int32 → Int32 → ST_F → ST_A → Option (Int32 × ST_F × ST_A)
  | 0, _, _, _, _, _, _, _, _ => none
  | n + 1, x1, x2, x3, x4, x5, x6, F, A => if (2 : Int32) ≤ x6 then (kx x1 x2 x3 x4 x5 x6 F A) else (ra_bi (f_K_put (4 : Int32) (f_V_number x1 x6) (f_V_number x2 x5) F A) (fun r3 F3 A3 => ra_bi (f_K_put (4 : Int32) (f_V_number x1 ((2 : Int32) + x6)) (f_V_number x2 (x5 + (1 : Int32))) F3 A3) (fun r4 F4 A4 => ra_bi (f_K_put (2 : Int32) r3 r4 F4 A4) (fun r5 F5 A5 => f_C_timesColumns_L25 kx n x1 x2 x3 (f_V_withNumber x4 (x5 + x6) r5) x5 (x6 + (1 : Int32)) F5 A5))))
def f_C_timesColumns_L14 : Nat → Int32 → Int32 → Int32 → Int32 → Int32 → ST_F → ST_A → Option (Int32 × ST_F × ST_A)
  | 0, _, _, _, _, _, _, _ => none
  | n + 1, x1, x2, x3, x4, x5, F, A => if x3 ≤ (x5 + (1 : Int32)) then (some (x4, F, A)) else (f_C_timesColumns_L25 (fun y1_6 y2_6 y3_6 y4_6 y5_6 y6_6 F6 A6 => f_C_timesColumns_L14 n y1_6 y2_6 y3_6 y4_6 (y5_6 + (2 : Int32)) F6 A6) 4 x1 x2 x3 x4 x5 (0 : Int32) F A)
def f_C_timesColumns (u1 : Int32) (u2 : Int32) (Fa : ST_F) (Aa : ST_A) : Option (Int32 × ST_F × ST_A) := f_C_timesColumns_L14 4 u1 u2 (f_V_typeIn u2) (f_V_ofType (f_V_typeIn u2)) (0 : Int32) Fa Aa
set_option maxHeartbeats 4000000 in
set_option maxRecDepth 100000 in
theorem k_C_timesColumns (l : Launch) (dC : Nat → ClassId) (dI : Nat → Nat → Nat) (a : Nat → Nat) (cI cC : ClassId) (sz : Nat) (Fa : ST_F) (Aa : ST_A) (u1 : Int32) (u2 : Int32) (r0 : Int32) (F9 : ST_F) (A9 : ST_A) (hf : f_C_timesColumns u1 u2 Fa Aa = some (r0, F9, A9)) : cc_MetI l y_C_timesColumns (Cond.code y_C_timesColumns b_C_timesColumns 9 (some .int) :: wA) ({ frames := 1, cells := 0, slots := 0, locals := 24 } : Room) (dC, dI) vC [(cI, .int), (cC, .char)] ([.ref (a 0), .int u1, .int u2] : List Value) (wC a cI cC Fa Aa) sz (wC a cI cC F9 A9) r0 := by
  refine Met.ofW (cc := b_C_timesColumns) (maxL := 9) (ret := (some .int)) (by decide) rfl ?_
  intro p e s m args below meth c s₁ B hml hv
  obtain ⟨rfl, hsz, hP, hK, hD0⟩ := hv
  have hx := B.exec
  have hb := B.bytes
  have hr := B.returns
  have hts := fun w h => atoms_spec (ws := (Cond.code y_C_timesColumns b_C_timesColumns 9 (some .int) :: wA)) B.pre w (List.mem_cons_of_mem _ h)
  have hown : s.vm.findClass R_C = some m.cls := findClass_of_methodNamed B.named
  have hlocks := B.notSynchronized
  subst hsz
  have hD := hD0.self (sz := s.heap.size)
  have hA : ∀ q : Nat, s.heap.size ≤ q → va_A (wC a cI cC Fa Aa) s.heap.size q := fun q h => Or.inr h
  have hS : va_S (va_A (wC a cI cC Fa Aa) s.heap.size) s.heap s.heap [] := va_S.rf
  have hl := lv_entry (([.ref (a 0), .int u1, .int u2] : List Value)) (n := 9) (Nat.le_of_ble_eq_true rfl)
  have L25 : ∀ (kx : Int32 → Int32 → Int32 → Int32 → Int32 → Int32 → ST_F → ST_A → Option (Int32 × ST_F × ST_A)), (∀ (x1 : Int32) (x2 : Int32) (x3 : Int32) (x4 : Int32) (x5 : Int32) (x6 : Int32) (F : ST_F) (A : ST_A) (H : Heap) (locs : List Loc) (ls : Array Slot), lv_has ls 9 [(0, .ref (a 0)), (1, .int x1), (2, .int x2), (3, .int x3), (4, .int x4), (5, .int x5), (6, .int x6)] → va_P (dC, dI) vC (wC a cI cC F A) H → va_D (va_A (wC a cI cC Fa Aa) s.heap.size) (wC a cI cC F A) → va_S (va_A (wC a cI cC Fa Aa) s.heap.size) s.heap H locs → kx x1 x2 x3 x4 x5 x6 F A = some (r0, F9, A9) → W p l e (headSpec (Cond.code y_C_timesColumns b_C_timesColumns 9 (some .int) :: wA) ({ frames := 1, cells := 0, slots := 0, locals := 24 } : Room)).room s m ([.ref (a 0), .int u1, .int u2] : List Value).toArray below meth c H locs 0 0 (MQ below (cc_Qi (dC, dI) vC [(cI, .int), (cC, .char)] (wC a cI cC Fa Aa) s.heap.size (wC a cI cC F9 A9) r0) ([.ref (a 0), .int u1, .int u2] : List Value).toArray s 0 0 (va_A (wC a cI cC Fa Aa) s.heap.size)) (F0 m 109 ls [])) → ∀ (n : Nat) (x1 : Int32) (x2 : Int32) (x3 : Int32) (x4 : Int32) (x5 : Int32) (x6 : Int32) (F : ST_F) (A : ST_A) (H : Heap) (locs : List Loc) (ls : Array Slot), lv_has ls 9 [(0, .ref (a 0)), (1, .int x1), (2, .int x2), (3, .int x3), (4, .int x4), (5, .int x5), (6, .int x6)] → va_P (dC, dI) vC (wC a cI cC F A) H → va_D (va_A (wC a cI cC Fa Aa) s.heap.size) (wC a cI cC F A) → va_S (va_A (wC a cI cC Fa Aa) s.heap.size) s.heap H locs → f_C_timesColumns_L25 kx n x1 x2 x3 x4 x5 x6 F A = some (r0, F9, A9) → W p l e (headSpec (Cond.code y_C_timesColumns b_C_timesColumns 9 (some .int) :: wA) ({ frames := 1, cells := 0, slots := 0, locals := 24 } : Room)).room s m ([.ref (a 0), .int u1, .int u2] : List Value).toArray below meth c H locs 0 0 (MQ below (cc_Qi (dC, dI) vC [(cI, .int), (cC, .char)] (wC a cI cC Fa Aa) s.heap.size (wC a cI cC F9 A9) r0) ([.ref (a 0), .int u1, .int u2] : List Value).toArray s 0 0 (va_A (wC a cI cC Fa Aa) s.heap.size)) (F0 m 25 ls []) := by
    intro kx hk n
    induction n with
    | zero => intro x1 x2 x3 x4 x5 x6 F A H locs ls hl hP hD hS hf; cases hf
    | succ n ih =>
      intro x1 x2 x3 x4 x5 x6 F A H locs ls hl hP hD hS hf
      rw [f_C_timesColumns_L25] at hf
      refine lv_iload hx hb d_C_timesColumns_25 (lv_at hl 6 rfl) ?_
      refine lv_iconst (v := 2) hx hb d_C_timesColumns_27 (by decide) ?_
      refine lv_icmp_ge (tgt := 109) hx hb d_C_timesColumns_28 (by decide) (fun h28_2 => ?_) (fun h28_2 => ?_)
      · rw [if_pos h28_2] at hf
        have hl : lv_has ls 9 [(0, .ref (a 0)), (1, .int x1), (2, .int x2), (3, .int x3), (4, .int x4), (5, .int x5), (6, .int x6)] := lv_sub hl [0, 1, 2, 3, 4, 5, 6] rfl
        exact hk x1 x2 x3 x4 x5 x6 F A _ _ _ hl hP hD hS hf
      · rw [if_neg h28_2] at hf
        refine lv_aload_n hx hb d_C_timesColumns_31 rfl (lv_at hl 0 rfl) ?_
        refine va_get (D := (dC, dI)) (ci := 1) (v := .ref (a 3)) (C := R_C) (T := T_C) (N := 5) hx hb hts in_C hown hK hP 0 rfl rfl 4 (by decide) (hts _ mw_79) (fun _ h9 => h9) rfl d_C_timesColumns_32 ?_
        refine lv_iconst (v := 4) hx hb d_C_timesColumns_35 (by decide) ?_
        refine lv_iload_n hx hb d_C_timesColumns_36 rfl (lv_at hl 1 rfl) ?_
        refine lv_iload hx hb d_C_timesColumns_37 (lv_at hl 6 rfl) ?_
        refine cc_calls (va_runS (As := [.int x1, .int x6]) (rest := [.int (4 : Int32), .ref (a 3)]) ⟨hx, hb, hml, hown, hts⟩ (k_V_number l x1 x6 _ rfl) (cw_S 2 hts mw_226 mw_227 mw_11 mw_228 rfl rfl hd_V_number ⟨Nat.le_of_ble_eq_true rfl, Nat.le_of_ble_eq_true rfl⟩) cc_preS rfl rfl hl.1 rfl (lv_room (Nat.le_of_ble_eq_true rfl)) d_C_timesColumns_39 ⟨Nat.zero_le _, Nat.zero_le _⟩) ?_
        refine lv_iload_n hx hb d_C_timesColumns_42 rfl (lv_at hl 2 rfl) ?_
        refine lv_iload hx hb d_C_timesColumns_43 (lv_at hl 5 rfl) ?_
        refine cc_calls (va_runS (As := [.int x2, .int x5]) (rest := [.int (f_V_number x1 x6), .int (4 : Int32), .ref (a 3)]) ⟨hx, hb, hml, hown, hts⟩ (k_V_number l x2 x5 _ rfl) (cw_S 2 hts mw_226 mw_227 mw_11 mw_228 rfl rfl hd_V_number ⟨Nat.le_of_ble_eq_true rfl, Nat.le_of_ble_eq_true rfl⟩) cc_preS rfl rfl hl.1 rfl (lv_room (Nat.le_of_ble_eq_true rfl)) d_C_timesColumns_45 ⟨Nat.zero_le _, Nat.zero_le _⟩) ?_
        have hP : va_P (dC, dI) vC (wC a cI cC F A) H := hP
        have hD : va_D (va_A (wC a cI cC Fa Aa) s.heap.size) (wC a cI cC F A) := hD
        obtain ⟨r3, F3, A3, hc, hf⟩ := ra_bi_some hf
        refine cc_calli (va_runV (As := [.int (4 : Int32), .int (f_V_number x1 x6), .int (f_V_number x2 x5)]) (rest := []) ⟨hx, hb, hml, hown, hts⟩ (k_K_put l dC dI a cI cC H.size F A (4 : Int32) (f_V_number x1 x6) (f_V_number x2 x5) r3 F3 A3 hc) (cw_V 3 hts mw_196 mw_197 mw_198 mw_2 mw_199 rfl rfl rfl hd_K_put ⟨Nat.le_of_ble_eq_true rfl, Nat.le_of_ble_eq_true rfl⟩) (cc_preV hK hP hD rfl (q0 := 3) rfl) rfl rfl hl.1 rfl (lv_room (Nat.le_of_ble_eq_true rfl)) d_C_timesColumns_48 ⟨Nat.zero_le _, Nat.zero_le _⟩) hD hS hA (fun H locs hP hD hS => ?_)
        refine lv_istore hx hb d_C_timesColumns_51 hl (by decide) rfl (fun ls hl => ?_)
        have hl : lv_has ls 9 [(7, .int r3), (0, .ref (a 0)), (1, .int x1), (2, .int x2), (3, .int x3), (4, .int x4), (5, .int x5), (6, .int x6)] := hl
        refine lv_aload_n hx hb d_C_timesColumns_53 rfl (lv_at hl 1 rfl) ?_
        refine va_get (D := (dC, dI)) (ci := 1) (v := .ref (a 3)) (C := R_C) (T := T_C) (N := 5) hx hb hts in_C hown hK hP 0 rfl rfl 4 (by decide) (hts _ mw_79) (fun _ h9 => h9) rfl d_C_timesColumns_54 ?_
        refine lv_iconst (v := 4) hx hb d_C_timesColumns_57 (by decide) ?_
        refine lv_iload_n hx hb d_C_timesColumns_58 rfl (lv_at hl 2 rfl) ?_
        refine lv_iconst (v := 2) hx hb d_C_timesColumns_59 (by decide) ?_
        refine lv_iload hx hb d_C_timesColumns_60 (lv_at hl 7 rfl) ?_
        refine lv_iadd hx hb d_C_timesColumns_62 ?_
        refine cc_calls (va_runS (As := [.int x1, .int ((2 : Int32) + x6)]) (rest := [.int (4 : Int32), .ref (a 3)]) ⟨hx, hb, hml, hown, hts⟩ (k_V_number l x1 ((2 : Int32) + x6) _ rfl) (cw_S 2 hts mw_226 mw_227 mw_11 mw_228 rfl rfl hd_V_number ⟨Nat.le_of_ble_eq_true rfl, Nat.le_of_ble_eq_true rfl⟩) cc_preS rfl rfl hl.1 rfl (lv_room (Nat.le_of_ble_eq_true rfl)) d_C_timesColumns_63 ⟨Nat.zero_le _, Nat.zero_le _⟩) ?_
        refine lv_iload_n hx hb d_C_timesColumns_66 rfl (lv_at hl 3 rfl) ?_
        refine lv_iload hx hb d_C_timesColumns_67 (lv_at hl 6 rfl) ?_
        refine lv_iconst (v := 1) hx hb d_C_timesColumns_69 (by decide) ?_
        refine lv_iadd hx hb d_C_timesColumns_70 ?_
        refine cc_calls (va_runS (As := [.int x2, .int (x5 + (1 : Int32))]) (rest := [.int (f_V_number x1 ((2 : Int32) + x6)), .int (4 : Int32), .ref (a 3)]) ⟨hx, hb, hml, hown, hts⟩ (k_V_number l x2 (x5 + (1 : Int32)) _ rfl) (cw_S 2 hts mw_226 mw_227 mw_11 mw_228 rfl rfl hd_V_number ⟨Nat.le_of_ble_eq_true rfl, Nat.le_of_ble_eq_true rfl⟩) cc_preS rfl rfl hl.1 rfl (lv_room (Nat.le_of_ble_eq_true rfl)) d_C_timesColumns_71 ⟨Nat.zero_le _, Nat.zero_le _⟩) ?_
        have hP : va_P (dC, dI) vC (wC a cI cC F3 A3) H := hP
        have hD : va_D (va_A (wC a cI cC Fa Aa) s.heap.size) (wC a cI cC F3 A3) := hD
        obtain ⟨r4, F4, A4, hc, hf⟩ := ra_bi_some hf
        refine cc_calli (va_runV (As := [.int (4 : Int32), .int (f_V_number x1 ((2 : Int32) + x6)), .int (f_V_number x2 (x5 + (1 : Int32)))]) (rest := []) ⟨hx, hb, hml, hown, hts⟩ (k_K_put l dC dI a cI cC H.size F3 A3 (4 : Int32) (f_V_number x1 ((2 : Int32) + x6)) (f_V_number x2 (x5 + (1 : Int32))) r4 F4 A4 hc) (cw_V 3 hts mw_196 mw_197 mw_198 mw_2 mw_199 rfl rfl rfl hd_K_put ⟨Nat.le_of_ble_eq_true rfl, Nat.le_of_ble_eq_true rfl⟩) (cc_preV hK hP hD rfl (q0 := 3) rfl) rfl rfl hl.1 rfl (lv_room (Nat.le_of_ble_eq_true rfl)) d_C_timesColumns_74 ⟨Nat.zero_le _, Nat.zero_le _⟩) hD hS hA (fun H locs hP hD hS => ?_)
        refine lv_istore hx hb d_C_timesColumns_77 hl (by decide) rfl (fun ls hl => ?_)
        have hl : lv_has ls 9 [(8, .int r4), (7, .int r3), (0, .ref (a 0)), (1, .int x1), (2, .int x2), (3, .int x3), (4, .int x4), (5, .int x5), (6, .int x6)] := hl
        refine lv_iload hx hb d_C_timesColumns_79 (lv_at hl 6 rfl) ?_
        refine lv_iload hx hb d_C_timesColumns_81 (lv_at hl 7 rfl) ?_
        refine lv_iload hx hb d_C_timesColumns_83 (lv_at hl 8 rfl) ?_
        refine lv_iadd hx hb d_C_timesColumns_85 ?_
        refine lv_aload_n hx hb d_C_timesColumns_86 rfl (lv_at hl 2 rfl) ?_
        refine va_get (D := (dC, dI)) (ci := 1) (v := .ref (a 3)) (C := R_C) (T := T_C) (N := 5) hx hb hts in_C hown hK hP 0 rfl rfl 4 (by decide) (hts _ mw_79) (fun _ h9 => h9) rfl d_C_timesColumns_87 ?_
        refine lv_iconst (v := 2) hx hb d_C_timesColumns_90 (by decide) ?_
        refine lv_iload hx hb d_C_timesColumns_91 (lv_at hl 1 rfl) ?_
        refine lv_iload hx hb d_C_timesColumns_93 (lv_at hl 0 rfl) ?_
        have hP : va_P (dC, dI) vC (wC a cI cC F4 A4) H := hP
        have hD : va_D (va_A (wC a cI cC Fa Aa) s.heap.size) (wC a cI cC F4 A4) := hD
        obtain ⟨r5, F5, A5, hc, hf⟩ := ra_bi_some hf
        refine cc_calli (va_runV (As := [.int (2 : Int32), .int r3, .int r4]) (rest := [.int (x5 + x6), .int x4]) ⟨hx, hb, hml, hown, hts⟩ (k_K_put l dC dI a cI cC H.size F4 A4 (2 : Int32) r3 r4 r5 F5 A5 hc) (cw_V 3 hts mw_196 mw_197 mw_198 mw_2 mw_199 rfl rfl rfl hd_K_put ⟨Nat.le_of_ble_eq_true rfl, Nat.le_of_ble_eq_true rfl⟩) (cc_preV hK hP hD rfl (q0 := 3) rfl) rfl rfl hl.1 rfl (lv_room (Nat.le_of_ble_eq_true rfl)) d_C_timesColumns_95 ⟨Nat.zero_le _, Nat.zero_le _⟩) hD hS hA (fun H locs hP hD hS => ?_)
        refine cc_calls (va_runS (As := [.int x4, .int (x5 + x6), .int r5]) (rest := []) ⟨hx, hb, hml, hown, hts⟩ (k_V_withNumber l x4 (x5 + x6) r5 _ rfl) (cw_S 3 hts mw_200 mw_201 mw_11 mw_202 rfl rfl hd_V_withNumber ⟨Nat.le_of_ble_eq_true rfl, Nat.le_of_ble_eq_true rfl⟩) cc_preS rfl rfl hl.1 rfl (lv_room (Nat.le_of_ble_eq_true rfl)) d_C_timesColumns_98 ⟨Nat.zero_le _, Nat.zero_le _⟩) ?_
        refine lv_istore hx hb d_C_timesColumns_101 hl (by decide) rfl (fun ls hl => ?_)
        have hl : lv_has ls 9 [(4, .int (f_V_withNumber x4 (x5 + x6) r5)), (8, .int r4), (7, .int r3), (0, .ref (a 0)), (1, .int x1), (2, .int x2), (3, .int x3), (5, .int x5), (6, .int x6)] := hl
        refine lv_iinc (k := 8) (v := (x6 + (1 : Int32))) hx hb d_C_timesColumns_103 hl rfl (by rfl) (by decide) rfl (fun ls hl => ?_)
        have hl : lv_has ls 9 [(6, .int (x6 + (1 : Int32))), (4, .int (f_V_withNumber x4 (x5 + x6) r5)), (8, .int r4), (7, .int r3), (0, .ref (a 0)), (1, .int x1), (2, .int x2), (3, .int x3), (5, .int x5)] := hl
        refine lv_goto (tgt := 25) hx hb d_C_timesColumns_106 (by decide) ?_
        have hl : lv_has ls 9 [(0, .ref (a 0)), (1, .int x1), (2, .int x2), (3, .int x3), (4, .int (f_V_withNumber x4 (x5 + x6) r5)), (5, .int x5), (6, .int (x6 + (1 : Int32)))] := lv_sub hl [4, 5, 6, 7, 1, 8, 0] rfl
        exact ih x1 x2 x3 (f_V_withNumber x4 (x5 + x6) r5) x5 (x6 + (1 : Int32)) F5 A5 _ _ _ hl hP hD hS hf
  have L14 : ∀ (n : Nat) (x1 : Int32) (x2 : Int32) (x3 : Int32) (x4 : Int32) (x5 : Int32) (F : ST_F) (A : ST_A) (H : Heap) (locs : List Loc) (ls : Array Slot), lv_has ls 9 [(0, .ref (a 0)), (1, .int x1), (2, .int x2), (3, .int x3), (4, .int x4), (5, .int x5)] → va_P (dC, dI) vC (wC a cI cC F A) H → va_D (va_A (wC a cI cC Fa Aa) s.heap.size) (wC a cI cC F A) → va_S (va_A (wC a cI cC Fa Aa) s.heap.size) s.heap H locs → f_C_timesColumns_L14 n x1 x2 x3 x4 x5 F A = some (r0, F9, A9) → W p l e (headSpec (Cond.code y_C_timesColumns b_C_timesColumns 9 (some .int) :: wA) ({ frames := 1, cells := 0, slots := 0, locals := 24 } : Room)).room s m ([.ref (a 0), .int u1, .int u2] : List Value).toArray below meth c H locs 0 0 (MQ below (cc_Qi (dC, dI) vC [(cI, .int), (cC, .char)] (wC a cI cC Fa Aa) s.heap.size (wC a cI cC F9 A9) r0) ([.ref (a 0), .int u1, .int u2] : List Value).toArray s 0 0 (va_A (wC a cI cC Fa Aa) s.heap.size)) (F0 m 14 ls []) := by
    intro n
    induction n with
    | zero => intro x1 x2 x3 x4 x5 F A H locs ls hl hP hD hS hf; cases hf
    | succ n ih =>
      intro x1 x2 x3 x4 x5 F A H locs ls hl hP hD hS hf
      rw [f_C_timesColumns_L14] at hf
      refine lv_iload hx hb d_C_timesColumns_14 (lv_at hl 5 rfl) ?_
      refine lv_iconst (v := 1) hx hb d_C_timesColumns_16 (by decide) ?_
      refine lv_iadd hx hb d_C_timesColumns_17 ?_
      refine lv_iload_n hx hb d_C_timesColumns_18 rfl (lv_at hl 3 rfl) ?_
      refine lv_icmp_ge (tgt := 115) hx hb d_C_timesColumns_19 (by decide) (fun h19_1 => ?_) (fun h19_1 => ?_)
      · rw [if_pos h19_1] at hf
        refine lv_iload hx hb d_C_timesColumns_115 (lv_at hl 4 rfl) ?_
        cases hf
        exact W.iret hx hb hr (fun t ht hW => ⟨⟨_, (), rfl, rfl, by rw [ht]; exact hP, va_K.moved hW.alike hK, hD⟩, hS.F ht⟩) hS.2.2 d_C_timesColumns_117
      · rw [if_neg h19_1] at hf
        refine lv_iconst (v := 0) hx hb d_C_timesColumns_22 (by decide) ?_
        refine lv_istore hx hb d_C_timesColumns_23 hl (by decide) rfl (fun ls hl => ?_)
        have hl : lv_has ls 9 [(6, .int (0 : Int32)), (0, .ref (a 0)), (1, .int x1), (2, .int x2), (3, .int x3), (4, .int x4), (5, .int x5)] := hl
        have hl : lv_has ls 9 [(0, .ref (a 0)), (1, .int x1), (2, .int x2), (3, .int x3), (4, .int x4), (5, .int x5), (6, .int (0 : Int32))] := lv_sub hl [1, 2, 3, 4, 5, 6, 0] rfl
        refine L25 _ (fun y1_6 y2_6 y3_6 y4_6 y5_6 y6_6 F6 A6 H locs ls hl hP hD hS hf => ?_) 4 x1 x2 x3 x4 x5 (0 : Int32) F A _ _ _ hl hP hD hS hf
        refine lv_iinc (k := 5) (v := (y5_6 + (2 : Int32))) hx hb d_C_timesColumns_109 hl rfl (by rfl) (by decide) rfl (fun ls hl => ?_)
        have hl : lv_has ls 9 [(5, .int (y5_6 + (2 : Int32))), (0, .ref (a 0)), (1, .int y1_6), (2, .int y2_6), (3, .int y3_6), (4, .int y4_6), (6, .int y6_6)] := hl
        refine lv_goto (tgt := 14) hx hb d_C_timesColumns_112 (by decide) ?_
        have hl : lv_has ls 9 [(0, .ref (a 0)), (1, .int y1_6), (2, .int y2_6), (3, .int y3_6), (4, .int y4_6), (5, .int (y5_6 + (2 : Int32)))] := lv_sub hl [1, 2, 3, 4, 5, 0] rfl
        exact ih y1_6 y2_6 y3_6 y4_6 (y5_6 + (2 : Int32)) F6 A6 _ _ _ hl hP hD hS hf
  rw [lg_entry_eq]
  generalize (lg_sl (([.ref (a 0), .int u1, .int u2] : List Value)) ++ List.replicate (9 - (lg_sl (([.ref (a 0), .int u1, .int u2] : List Value))).length) Slot.unset).toArray = ls at hl ⊢
  have hl : lv_has ls 9 [(0, .ref (a 0)), (1, .int u1), (2, .int u2)] := hl
  unfold f_C_timesColumns at hf
  refine lv_iload_n hx hb d_C_timesColumns_0 rfl (lv_at hl 2 rfl) ?_
  refine cc_calls (va_runS (As := [.int u2]) (rest := []) ⟨hx, hb, hml, hown, hts⟩ (k_V_typeIn l u2 _ rfl) (cw_S 1 hts mw_223 mw_224 mw_11 mw_225 rfl rfl hd_V_typeIn ⟨Nat.le_of_ble_eq_true rfl, Nat.le_of_ble_eq_true rfl⟩) cc_preS rfl rfl hl.1 rfl (lv_room (Nat.le_of_ble_eq_true rfl)) d_C_timesColumns_1 ⟨Nat.zero_le _, Nat.zero_le _⟩) ?_
  refine lv_istore_n hx hb d_C_timesColumns_4 rfl hl (by decide) rfl (fun ls hl => ?_)
  have hl : lv_has ls 9 [(3, .int (f_V_typeIn u2)), (0, .ref (a 0)), (1, .int u1), (2, .int u2)] := hl
  refine lv_iload_n hx hb d_C_timesColumns_5 rfl (lv_at hl 0 rfl) ?_
  refine cc_calls (va_runS (As := [.int (f_V_typeIn u2)]) (rest := []) ⟨hx, hb, hml, hown, hts⟩ (k_V_ofType l (f_V_typeIn u2) _ rfl) (cw_S 1 hts mw_193 mw_194 mw_11 mw_195 rfl rfl hd_V_ofType ⟨Nat.le_of_ble_eq_true rfl, Nat.le_of_ble_eq_true rfl⟩) cc_preS rfl rfl hl.1 rfl (lv_room (Nat.le_of_ble_eq_true rfl)) d_C_timesColumns_6 ⟨Nat.zero_le _, Nat.zero_le _⟩) ?_
  refine lv_istore hx hb d_C_timesColumns_9 hl (by decide) rfl (fun ls hl => ?_)
  have hl : lv_has ls 9 [(4, .int (f_V_ofType (f_V_typeIn u2))), (3, .int (f_V_typeIn u2)), (0, .ref (a 0)), (1, .int u1), (2, .int u2)] := hl
  refine lv_iconst (v := 0) hx hb d_C_timesColumns_11 (by decide) ?_
  refine lv_istore hx hb d_C_timesColumns_12 hl (by decide) rfl (fun ls hl => ?_)
  have hl : lv_has ls 9 [(5, .int (0 : Int32)), (4, .int (f_V_ofType (f_V_typeIn u2))), (3, .int (f_V_typeIn u2)), (0, .ref (a 0)), (1, .int u1), (2, .int u2)] := hl
  have hl : lv_has ls 9 [(0, .ref (a 0)), (1, .int u1), (2, .int u2), (3, .int (f_V_typeIn u2)), (4, .int (f_V_ofType (f_V_typeIn u2))), (5, .int (0 : Int32))] := lv_sub hl [3, 4, 5, 2, 1, 0] rfl
  exact L14 4 u1 u2 (f_V_typeIn u2) (f_V_ofType (f_V_typeIn u2)) (0 : Int32) Fa Aa _ _ _ hl hP hD hS hf
def f_C_times (u1 : Int32) (u2 : Int32) (Fa : ST_F) (Aa : ST_A) : Option (Int32 × ST_F × ST_A) := if u1 = (-1 : Int32) then (some ((-1 : Int32), Fa, Aa)) else (if u2 = (-1 : Int32) then (some ((-1 : Int32), Fa, Aa)) else (if (f_V_typeIn u1) = (4 : Int32) then (if (f_V_typeIn u2) = (2 : Int32) then (ra_bi (f_C_timesColumns u1 u2 Fa Aa) (fun r6 F6 A6 => some (r6, F6, A6))) else (if (f_V_typeIn u2) = (4 : Int32) then (ra_bi (f_C_timesColumns u1 u2 Fa Aa) (fun r9 F9 A9 => some (r9, F9, A9))) else (ra_bi (f_C_pairwise (4 : Int32) u1 u2 Fa Aa) (fun r8 F8 A8 => some (r8, F8, A8))))) else (ra_bi (f_C_pairwise (4 : Int32) u1 u2 Fa Aa) (fun r4 F4 A4 => some (r4, F4, A4)))))
set_option maxHeartbeats 4000000 in
set_option maxRecDepth 100000 in
theorem k_C_times (l : Launch) (dC : Nat → ClassId) (dI : Nat → Nat → Nat) (a : Nat → Nat) (cI cC : ClassId) (sz : Nat) (Fa : ST_F) (Aa : ST_A) (u1 : Int32) (u2 : Int32) (r0 : Int32) (F9 : ST_F) (A9 : ST_A) (hf : f_C_times u1 u2 Fa Aa = some (r0, F9, A9)) : cc_MetI l y_C_times (Cond.code y_C_times b_C_times 4 (some .int) :: wA) ({ frames := 3, cells := 0, slots := 0, locals := 71 } : Room) (dC, dI) vC [(cI, .int), (cC, .char)] ([.ref (a 0), .int u1, .int u2] : List Value) (wC a cI cC Fa Aa) sz (wC a cI cC F9 A9) r0 := by
  refine Met.ofW (cc := b_C_times) (maxL := 4) (ret := (some .int)) (by decide) rfl ?_
  intro p e s m args below meth c s₁ B hml hv
  obtain ⟨rfl, hsz, hP, hK, hD0⟩ := hv
  have hx := B.exec
  have hb := B.bytes
  have hr := B.returns
  have hts := fun w h => atoms_spec (ws := (Cond.code y_C_times b_C_times 4 (some .int) :: wA)) B.pre w (List.mem_cons_of_mem _ h)
  have hown : s.vm.findClass R_C = some m.cls := findClass_of_methodNamed B.named
  have hlocks := B.notSynchronized
  subst hsz
  have hD := hD0.self (sz := s.heap.size)
  have hA : ∀ q : Nat, s.heap.size ≤ q → va_A (wC a cI cC Fa Aa) s.heap.size q := fun q h => Or.inr h
  have hS : va_S (va_A (wC a cI cC Fa Aa) s.heap.size) s.heap s.heap [] := va_S.rf
  have hl := lv_entry (([.ref (a 0), .int u1, .int u2] : List Value)) (n := 4) (Nat.le_of_ble_eq_true rfl)
  rw [lg_entry_eq]
  generalize (lg_sl (([.ref (a 0), .int u1, .int u2] : List Value)) ++ List.replicate (4 - (lg_sl (([.ref (a 0), .int u1, .int u2] : List Value))).length) Slot.unset).toArray = ls at hl ⊢
  have hl : lv_has ls 4 [(0, .ref (a 0)), (1, .int u1), (2, .int u2)] := hl
  unfold f_C_times at hf
  refine lv_iload_n hx hb d_C_times_0 rfl (lv_at hl 1 rfl) ?_
  refine lv_iconst (v := -1) hx hb d_C_times_1 (by decide) ?_
  refine lv_icmp_eq (tgt := 10) hx hb d_C_times_2 (by decide) (fun h2_1 => ?_) (fun h2_1 => ?_)
  · rw [if_pos h2_1] at hf
    refine lv_iconst (v := -1) hx hb d_C_times_10 (by decide) ?_
    cases hf
    exact W.iret hx hb hr (fun t ht hW => ⟨⟨_, (), rfl, rfl, by rw [ht]; exact hP, va_K.moved hW.alike hK, hD⟩, hS.F ht⟩) hS.2.2 d_C_times_11
  · rw [if_neg h2_1] at hf
    refine lv_iload_n hx hb d_C_times_5 rfl (lv_at hl 2 rfl) ?_
    refine lv_iconst (v := -1) hx hb d_C_times_6 (by decide) ?_
    refine lv_icmp_ne (tgt := 12) hx hb d_C_times_7 (by decide) (fun h7_2 => ?_) (fun h7_2 => ?_)
    · rw [if_neg h7_2] at hf
      refine lv_iload_n hx hb d_C_times_12 rfl (lv_at hl 2 rfl) ?_
      refine cc_calls (va_runS (As := [.int u2]) (rest := []) ⟨hx, hb, hml, hown, hts⟩ (k_V_typeIn l u2 _ rfl) (cw_S 1 hts mw_223 mw_224 mw_11 mw_225 rfl rfl hd_V_typeIn ⟨Nat.le_of_ble_eq_true rfl, Nat.le_of_ble_eq_true rfl⟩) cc_preS rfl rfl hl.1 rfl (lv_room (Nat.le_of_ble_eq_true rfl)) d_C_times_13 ⟨Nat.zero_le _, Nat.zero_le _⟩) ?_
      refine lv_istore_n hx hb d_C_times_16 rfl hl (by decide) rfl (fun ls hl => ?_)
      have hl : lv_has ls 4 [(3, .int (f_V_typeIn u2)), (0, .ref (a 0)), (1, .int u1), (2, .int u2)] := hl
      refine lv_iload_n hx hb d_C_times_17 rfl (lv_at hl 2 rfl) ?_
      refine cc_calls (va_runS (As := [.int u1]) (rest := []) ⟨hx, hb, hml, hown, hts⟩ (k_V_typeIn l u1 _ rfl) (cw_S 1 hts mw_223 mw_224 mw_11 mw_225 rfl rfl hd_V_typeIn ⟨Nat.le_of_ble_eq_true rfl, Nat.le_of_ble_eq_true rfl⟩) cc_preS rfl rfl hl.1 rfl (lv_room (Nat.le_of_ble_eq_true rfl)) d_C_times_18 ⟨Nat.zero_le _, Nat.zero_le _⟩) ?_
      refine lv_iconst (v := 4) hx hb d_C_times_21 (by decide) ?_
      refine lv_icmp_ne (tgt := 42) hx hb d_C_times_22 (by decide) (fun h22_3 => ?_) (fun h22_3 => ?_)
      · rw [if_neg h22_3] at hf
        refine lv_aload_n hx hb d_C_times_42 rfl (lv_at hl 1 rfl) ?_
        refine lv_iconst (v := 4) hx hb d_C_times_43 (by decide) ?_
        refine lv_iload_n hx hb d_C_times_44 rfl (lv_at hl 2 rfl) ?_
        refine lv_iload_n hx hb d_C_times_45 rfl (lv_at hl 3 rfl) ?_
        have hP : va_P (dC, dI) vC (wC a cI cC Fa Aa) s.heap := hP
        have hD : va_D (va_A (wC a cI cC Fa Aa) s.heap.size) (wC a cI cC Fa Aa) := hD
        obtain ⟨r4, F4, A4, hc, hf⟩ := ra_bi_some hf
        refine cc_calli (va_runV (As := [.int (4 : Int32), .int u1, .int u2]) (rest := []) ⟨hx, hb, hml, hown, hts⟩ (k_C_pairwise l dC dI a cI cC s.heap.size Fa Aa (4 : Int32) u1 u2 r4 F4 A4 hc) (cw_V 3 hts mw_244 mw_246 ms_C_pairwise mw_3 mw_247 rfl rfl rfl hd_C_pairwise ⟨Nat.le_of_ble_eq_true rfl, Nat.le_of_ble_eq_true rfl⟩) (cc_preV hK hP hD rfl (q0 := 0) rfl) rfl rfl hl.1 rfl (lv_room (Nat.le_of_ble_eq_true rfl)) d_C_times_46 ⟨Nat.zero_le _, Nat.zero_le _⟩) hD hS hA (fun H locs hP hD hS => ?_)
        cases hf
        exact W.iret hx hb hr (fun t ht hW => ⟨⟨_, (), rfl, rfl, by rw [ht]; exact hP, va_K.moved hW.alike hK, hD⟩, hS.F ht⟩) hS.2.2 d_C_times_49
      · rw [if_pos h22_3] at hf
        refine lv_iload_n hx hb d_C_times_25 rfl (lv_at hl 0 rfl) ?_
        refine lv_iconst (v := 2) hx hb d_C_times_26 (by decide) ?_
        refine lv_icmp_eq (tgt := 35) hx hb d_C_times_27 (by decide) (fun h27_5 => ?_) (fun h27_5 => ?_)
        · rw [if_pos h27_5] at hf
          refine lv_aload_n hx hb d_C_times_35 rfl (lv_at hl 1 rfl) ?_
          refine lv_iload_n hx hb d_C_times_36 rfl (lv_at hl 2 rfl) ?_
          refine lv_iload_n hx hb d_C_times_37 rfl (lv_at hl 3 rfl) ?_
          have hP : va_P (dC, dI) vC (wC a cI cC Fa Aa) s.heap := hP
          have hD : va_D (va_A (wC a cI cC Fa Aa) s.heap.size) (wC a cI cC Fa Aa) := hD
          obtain ⟨r6, F6, A6, hc, hf⟩ := ra_bi_some hf
          refine cc_calli (va_runV (As := [.int u1, .int u2]) (rest := []) ⟨hx, hb, hml, hown, hts⟩ (k_C_timesColumns l dC dI a cI cC s.heap.size Fa Aa u1 u2 r6 F6 A6 hc) (cw_V 2 hts mw_272 mw_274 ms_C_timesColumns mw_3 mw_275 rfl rfl rfl hd_C_timesColumns ⟨Nat.le_of_ble_eq_true rfl, Nat.le_of_ble_eq_true rfl⟩) (cc_preV hK hP hD rfl (q0 := 0) rfl) rfl rfl hl.1 rfl (lv_room (Nat.le_of_ble_eq_true rfl)) d_C_times_38 ⟨Nat.zero_le _, Nat.zero_le _⟩) hD hS hA (fun H locs hP hD hS => ?_)
          cases hf
          exact W.iret hx hb hr (fun t ht hW => ⟨⟨_, (), rfl, rfl, by rw [ht]; exact hP, va_K.moved hW.alike hK, hD⟩, hS.F ht⟩) hS.2.2 d_C_times_41
        · rw [if_neg h27_5] at hf
          refine lv_iload_n hx hb d_C_times_30 rfl (lv_at hl 0 rfl) ?_
          refine lv_iconst (v := 4) hx hb d_C_times_31 (by decide) ?_
          refine lv_icmp_ne (tgt := 42) hx hb d_C_times_32 (by decide) (fun h32_7 => ?_) (fun h32_7 => ?_)
          · rw [if_neg h32_7] at hf
            refine lv_aload_n hx hb d_C_times_42 rfl (lv_at hl 1 rfl) ?_
            refine lv_iconst (v := 4) hx hb d_C_times_43 (by decide) ?_
            refine lv_iload_n hx hb d_C_times_44 rfl (lv_at hl 2 rfl) ?_
            refine lv_iload_n hx hb d_C_times_45 rfl (lv_at hl 3 rfl) ?_
            have hP : va_P (dC, dI) vC (wC a cI cC Fa Aa) s.heap := hP
            have hD : va_D (va_A (wC a cI cC Fa Aa) s.heap.size) (wC a cI cC Fa Aa) := hD
            obtain ⟨r8, F8, A8, hc, hf⟩ := ra_bi_some hf
            refine cc_calli (va_runV (As := [.int (4 : Int32), .int u1, .int u2]) (rest := []) ⟨hx, hb, hml, hown, hts⟩ (k_C_pairwise l dC dI a cI cC s.heap.size Fa Aa (4 : Int32) u1 u2 r8 F8 A8 hc) (cw_V 3 hts mw_244 mw_246 ms_C_pairwise mw_3 mw_247 rfl rfl rfl hd_C_pairwise ⟨Nat.le_of_ble_eq_true rfl, Nat.le_of_ble_eq_true rfl⟩) (cc_preV hK hP hD rfl (q0 := 0) rfl) rfl rfl hl.1 rfl (lv_room (Nat.le_of_ble_eq_true rfl)) d_C_times_46 ⟨Nat.zero_le _, Nat.zero_le _⟩) hD hS hA (fun H locs hP hD hS => ?_)
            cases hf
            exact W.iret hx hb hr (fun t ht hW => ⟨⟨_, (), rfl, rfl, by rw [ht]; exact hP, va_K.moved hW.alike hK, hD⟩, hS.F ht⟩) hS.2.2 d_C_times_49
          · rw [if_pos h32_7] at hf
            refine lv_aload_n hx hb d_C_times_35 rfl (lv_at hl 1 rfl) ?_
            refine lv_iload_n hx hb d_C_times_36 rfl (lv_at hl 2 rfl) ?_
            refine lv_iload_n hx hb d_C_times_37 rfl (lv_at hl 3 rfl) ?_
            have hP : va_P (dC, dI) vC (wC a cI cC Fa Aa) s.heap := hP
            have hD : va_D (va_A (wC a cI cC Fa Aa) s.heap.size) (wC a cI cC Fa Aa) := hD
            obtain ⟨r9, F9, A9, hc, hf⟩ := ra_bi_some hf
            refine cc_calli (va_runV (As := [.int u1, .int u2]) (rest := []) ⟨hx, hb, hml, hown, hts⟩ (k_C_timesColumns l dC dI a cI cC s.heap.size Fa Aa u1 u2 r9 F9 A9 hc) (cw_V 2 hts mw_272 mw_274 ms_C_timesColumns mw_3 mw_275 rfl rfl rfl hd_C_timesColumns ⟨Nat.le_of_ble_eq_true rfl, Nat.le_of_ble_eq_true rfl⟩) (cc_preV hK hP hD rfl (q0 := 0) rfl) rfl rfl hl.1 rfl (lv_room (Nat.le_of_ble_eq_true rfl)) d_C_times_38 ⟨Nat.zero_le _, Nat.zero_le _⟩) hD hS hA (fun H locs hP hD hS => ?_)
            cases hf
            exact W.iret hx hb hr (fun t ht hW => ⟨⟨_, (), rfl, rfl, by rw [ht]; exact hP, va_K.moved hW.alike hK, hD⟩, hS.F ht⟩) hS.2.2 d_C_times_41
    · rw [if_pos h7_2] at hf
      refine lv_iconst (v := -1) hx hb d_C_times_10 (by decide) ?_
      cases hf
      exact W.iret hx hb hr (fun t ht hW => ⟨⟨_, (), rfl, rfl, by rw [ht]; exact hP, va_K.moved hW.alike hK, hD⟩, hS.F ht⟩) hS.2.2 d_C_times_11
def f_C_dividedBy (u1 : Int32) (u2 : Int32) (Fa : ST_F) (Aa : ST_A) : Option (Int32 × ST_F × ST_A) := if u2 = (-1 : Int32) then (some ((-1 : Int32), Fa, Aa)) else (if (f_V_typeIn u2) = (4 : Int32) then (some ((-1 : Int32), Fa, Aa)) else (ra_bi (f_C_pairwise (5 : Int32) u1 u2 Fa Aa) (fun r3 F3 A3 => some (r3, F3, A3))))
set_option maxHeartbeats 4000000 in
set_option maxRecDepth 100000 in
theorem k_C_dividedBy (l : Launch) (dC : Nat → ClassId) (dI : Nat → Nat → Nat) (a : Nat → Nat) (cI cC : ClassId) (sz : Nat) (Fa : ST_F) (Aa : ST_A) (u1 : Int32) (u2 : Int32) (r0 : Int32) (F9 : ST_F) (A9 : ST_A) (hf : f_C_dividedBy u1 u2 Fa Aa = some (r0, F9, A9)) : cc_MetI l y_C_dividedBy (Cond.code y_C_dividedBy b_C_dividedBy 3 (some .int) :: wA) ({ frames := 3, cells := 0, slots := 0, locals := 71 } : Room) (dC, dI) vC [(cI, .int), (cC, .char)] ([.ref (a 0), .int u1, .int u2] : List Value) (wC a cI cC Fa Aa) sz (wC a cI cC F9 A9) r0 := by
  refine Met.ofW (cc := b_C_dividedBy) (maxL := 3) (ret := (some .int)) (by decide) rfl ?_
  intro p e s m args below meth c s₁ B hml hv
  obtain ⟨rfl, hsz, hP, hK, hD0⟩ := hv
  have hx := B.exec
  have hb := B.bytes
  have hr := B.returns
  have hts := fun w h => atoms_spec (ws := (Cond.code y_C_dividedBy b_C_dividedBy 3 (some .int) :: wA)) B.pre w (List.mem_cons_of_mem _ h)
  have hown : s.vm.findClass R_C = some m.cls := findClass_of_methodNamed B.named
  have hlocks := B.notSynchronized
  subst hsz
  have hD := hD0.self (sz := s.heap.size)
  have hA : ∀ q : Nat, s.heap.size ≤ q → va_A (wC a cI cC Fa Aa) s.heap.size q := fun q h => Or.inr h
  have hS : va_S (va_A (wC a cI cC Fa Aa) s.heap.size) s.heap s.heap [] := va_S.rf
  have hl := lv_entry (([.ref (a 0), .int u1, .int u2] : List Value)) (n := 3) (Nat.le_of_ble_eq_true rfl)
  rw [lg_entry_eq]
  generalize (lg_sl (([.ref (a 0), .int u1, .int u2] : List Value)) ++ List.replicate (3 - (lg_sl (([.ref (a 0), .int u1, .int u2] : List Value))).length) Slot.unset).toArray = ls at hl ⊢
  have hl : lv_has ls 3 [(0, .ref (a 0)), (1, .int u1), (2, .int u2)] := hl
  unfold f_C_dividedBy at hf
  refine lv_iload_n hx hb d_C_dividedBy_0 rfl (lv_at hl 2 rfl) ?_
  refine lv_iconst (v := -1) hx hb d_C_dividedBy_1 (by decide) ?_
  refine lv_icmp_eq (tgt := 13) hx hb d_C_dividedBy_2 (by decide) (fun h2_1 => ?_) (fun h2_1 => ?_)
  · rw [if_pos h2_1] at hf
    refine lv_iconst (v := -1) hx hb d_C_dividedBy_13 (by decide) ?_
    cases hf
    exact W.iret hx hb hr (fun t ht hW => ⟨⟨_, (), rfl, rfl, by rw [ht]; exact hP, va_K.moved hW.alike hK, hD⟩, hS.F ht⟩) hS.2.2 d_C_dividedBy_14
  · rw [if_neg h2_1] at hf
    refine lv_iload_n hx hb d_C_dividedBy_5 rfl (lv_at hl 2 rfl) ?_
    refine cc_calls (va_runS (As := [.int u2]) (rest := []) ⟨hx, hb, hml, hown, hts⟩ (k_V_typeIn l u2 _ rfl) (cw_S 1 hts mw_223 mw_224 mw_11 mw_225 rfl rfl hd_V_typeIn ⟨Nat.le_of_ble_eq_true rfl, Nat.le_of_ble_eq_true rfl⟩) cc_preS rfl rfl hl.1 rfl (lv_room (Nat.le_of_ble_eq_true rfl)) d_C_dividedBy_6 ⟨Nat.zero_le _, Nat.zero_le _⟩) ?_
    refine lv_iconst (v := 4) hx hb d_C_dividedBy_9 (by decide) ?_
    refine lv_icmp_ne (tgt := 15) hx hb d_C_dividedBy_10 (by decide) (fun h10_2 => ?_) (fun h10_2 => ?_)
    · rw [if_neg h10_2] at hf
      refine lv_aload_n hx hb d_C_dividedBy_15 rfl (lv_at hl 0 rfl) ?_
      refine lv_iconst (v := 5) hx hb d_C_dividedBy_16 (by decide) ?_
      refine lv_iload_n hx hb d_C_dividedBy_17 rfl (lv_at hl 1 rfl) ?_
      refine lv_iload_n hx hb d_C_dividedBy_18 rfl (lv_at hl 2 rfl) ?_
      have hP : va_P (dC, dI) vC (wC a cI cC Fa Aa) s.heap := hP
      have hD : va_D (va_A (wC a cI cC Fa Aa) s.heap.size) (wC a cI cC Fa Aa) := hD
      obtain ⟨r3, F3, A3, hc, hf⟩ := ra_bi_some hf
      refine cc_calli (va_runV (As := [.int (5 : Int32), .int u1, .int u2]) (rest := []) ⟨hx, hb, hml, hown, hts⟩ (k_C_pairwise l dC dI a cI cC s.heap.size Fa Aa (5 : Int32) u1 u2 r3 F3 A3 hc) (cw_V 3 hts mw_244 mw_246 ms_C_pairwise mw_3 mw_247 rfl rfl rfl hd_C_pairwise ⟨Nat.le_of_ble_eq_true rfl, Nat.le_of_ble_eq_true rfl⟩) (cc_preV hK hP hD rfl (q0 := 0) rfl) rfl rfl hl.1 rfl (lv_room (Nat.le_of_ble_eq_true rfl)) d_C_dividedBy_19 ⟨Nat.zero_le _, Nat.zero_le _⟩) hD hS hA (fun H locs hP hD hS => ?_)
      cases hf
      exact W.iret hx hb hr (fun t ht hW => ⟨⟨_, (), rfl, rfl, by rw [ht]; exact hP, va_K.moved hW.alike hK, hD⟩, hS.F ht⟩) hS.2.2 d_C_dividedBy_22
    · rw [if_pos h10_2] at hf
      refine lv_iconst (v := -1) hx hb d_C_dividedBy_13 (by decide) ?_
      cases hf
      exact W.iret hx hb hr (fun t ht hW => ⟨⟨_, (), rfl, rfl, by rw [ht]; exact hP, va_K.moved hW.alike hK, hD⟩, hS.F ht⟩) hS.2.2 d_C_dividedBy_14
def f_C_dotted_L55 : Nat → Int32 → Int32 → Int32 → Int32 → Int32 → ST_F → ST_A → Option (Int32 × ST_F × ST_A)
  | 0, _, _, _, _, _, _, _ => none
  | n + 1, x1, x2, x3, x4, x5, F, A => if x3 ≤ x5 then (some ((f_V_withNumber (f_V_ofType (1 : Int32)) (0 : Int32) x4), F, A)) else (ra_bi (f_K_put (4 : Int32) (f_V_number x1 x5) (f_V_number x2 x5) F A) (fun r7 F7 A7 => ra_bi (f_K_put (2 : Int32) x4 r7 F7 A7) (fun r8 F8 A8 => f_C_dotted_L55 n x1 x2 x3 r8 (x5 + (1 : Int32)) F8 A8)))
def f_C_dotted (u1 : Int32) (u2 : Int32) (Fa : ST_F) (Aa : ST_A) : Option (Int32 × ST_F × ST_A) := if u1 = (-1 : Int32) then (some ((-1 : Int32), Fa, Aa)) else (if u2 = (-1 : Int32) then (some ((-1 : Int32), Fa, Aa)) else (if (f_V_typeIn u1) = (f_V_typeIn u2) then (if (f_V_typeIn u1) = (4 : Int32) then (some ((-1 : Int32), Fa, Aa)) else (ra_bi (f_K_put (4 : Int32) (f_V_number u1 (0 : Int32)) (f_V_number u2 (0 : Int32)) Fa Aa) (fun r5 F5 A5 => f_C_dotted_L55 400 u1 u2 (f_V_typeIn u1) r5 (1 : Int32) F5 A5))) else (some ((-1 : Int32), Fa, Aa))))
set_option maxHeartbeats 4000000 in
set_option maxRecDepth 100000 in
theorem k_C_dotted (l : Launch) (dC : Nat → ClassId) (dI : Nat → Nat → Nat) (a : Nat → Nat) (cI cC : ClassId) (sz : Nat) (Fa : ST_F) (Aa : ST_A) (u1 : Int32) (u2 : Int32) (r0 : Int32) (F9 : ST_F) (A9 : ST_A) (hf : f_C_dotted u1 u2 Fa Aa = some (r0, F9, A9)) : cc_MetI l y_C_dotted (Cond.code y_C_dotted b_C_dotted 7 (some .int) :: wA) ({ frames := 1, cells := 0, slots := 0, locals := 24 } : Room) (dC, dI) vC [(cI, .int), (cC, .char)] ([.ref (a 0), .int u1, .int u2] : List Value) (wC a cI cC Fa Aa) sz (wC a cI cC F9 A9) r0 := by
  refine Met.ofW (cc := b_C_dotted) (maxL := 7) (ret := (some .int)) (by decide) rfl ?_
  intro p e s m args below meth c s₁ B hml hv
  obtain ⟨rfl, hsz, hP, hK, hD0⟩ := hv
  have hx := B.exec
  have hb := B.bytes
  have hr := B.returns
  have hts := fun w h => atoms_spec (ws := (Cond.code y_C_dotted b_C_dotted 7 (some .int) :: wA)) B.pre w (List.mem_cons_of_mem _ h)
  have hown : s.vm.findClass R_C = some m.cls := findClass_of_methodNamed B.named
  have hlocks := B.notSynchronized
  subst hsz
  have hD := hD0.self (sz := s.heap.size)
  have hA : ∀ q : Nat, s.heap.size ≤ q → va_A (wC a cI cC Fa Aa) s.heap.size q := fun q h => Or.inr h
  have hS : va_S (va_A (wC a cI cC Fa Aa) s.heap.size) s.heap s.heap [] := va_S.rf
  have hl := lv_entry (([.ref (a 0), .int u1, .int u2] : List Value)) (n := 7) (Nat.le_of_ble_eq_true rfl)
  have L55 : ∀ (n : Nat) (x1 : Int32) (x2 : Int32) (x3 : Int32) (x4 : Int32) (x5 : Int32) (F : ST_F) (A : ST_A) (H : Heap) (locs : List Loc) (ls : Array Slot), lv_has ls 7 [(0, .ref (a 0)), (1, .int x1), (2, .int x2), (3, .int x3), (4, .int x4), (5, .int x5)] → va_P (dC, dI) vC (wC a cI cC F A) H → va_D (va_A (wC a cI cC Fa Aa) s.heap.size) (wC a cI cC F A) → va_S (va_A (wC a cI cC Fa Aa) s.heap.size) s.heap H locs → f_C_dotted_L55 n x1 x2 x3 x4 x5 F A = some (r0, F9, A9) → W p l e (headSpec (Cond.code y_C_dotted b_C_dotted 7 (some .int) :: wA) ({ frames := 1, cells := 0, slots := 0, locals := 24 } : Room)).room s m ([.ref (a 0), .int u1, .int u2] : List Value).toArray below meth c H locs 0 0 (MQ below (cc_Qi (dC, dI) vC [(cI, .int), (cC, .char)] (wC a cI cC Fa Aa) s.heap.size (wC a cI cC F9 A9) r0) ([.ref (a 0), .int u1, .int u2] : List Value).toArray s 0 0 (va_A (wC a cI cC Fa Aa) s.heap.size)) (F0 m 55 ls []) := by
    intro n
    induction n with
    | zero => intro x1 x2 x3 x4 x5 F A H locs ls hl hP hD hS hf; cases hf
    | succ n ih =>
      intro x1 x2 x3 x4 x5 F A H locs ls hl hP hD hS hf
      rw [f_C_dotted_L55] at hf
      refine lv_iload hx hb d_C_dotted_55 (lv_at hl 5 rfl) ?_
      refine lv_iload_n hx hb d_C_dotted_57 rfl (lv_at hl 3 rfl) ?_
      refine lv_icmp_ge (tgt := 103) hx hb d_C_dotted_58 (by decide) (fun h58_6 => ?_) (fun h58_6 => ?_)
      · rw [if_pos h58_6] at hf
        refine lv_iconst (v := 1) hx hb d_C_dotted_103 (by decide) ?_
        refine cc_calls (va_runS (As := [.int (1 : Int32)]) (rest := []) ⟨hx, hb, hml, hown, hts⟩ (k_V_ofType l (1 : Int32) _ rfl) (cw_S 1 hts mw_193 mw_194 mw_11 mw_195 rfl rfl hd_V_ofType ⟨Nat.le_of_ble_eq_true rfl, Nat.le_of_ble_eq_true rfl⟩) cc_preS rfl rfl hl.1 rfl (lv_room (Nat.le_of_ble_eq_true rfl)) d_C_dotted_104 ⟨Nat.zero_le _, Nat.zero_le _⟩) ?_
        refine lv_iconst (v := 0) hx hb d_C_dotted_107 (by decide) ?_
        refine lv_iload hx hb d_C_dotted_108 (lv_at hl 4 rfl) ?_
        refine cc_calls (va_runS (As := [.int (f_V_ofType (1 : Int32)), .int (0 : Int32), .int x4]) (rest := []) ⟨hx, hb, hml, hown, hts⟩ (k_V_withNumber l (f_V_ofType (1 : Int32)) (0 : Int32) x4 _ rfl) (cw_S 3 hts mw_200 mw_201 mw_11 mw_202 rfl rfl hd_V_withNumber ⟨Nat.le_of_ble_eq_true rfl, Nat.le_of_ble_eq_true rfl⟩) cc_preS rfl rfl hl.1 rfl (lv_room (Nat.le_of_ble_eq_true rfl)) d_C_dotted_110 ⟨Nat.zero_le _, Nat.zero_le _⟩) ?_
        cases hf
        exact W.iret hx hb hr (fun t ht hW => ⟨⟨_, (), rfl, rfl, by rw [ht]; exact hP, va_K.moved hW.alike hK, hD⟩, hS.F ht⟩) hS.2.2 d_C_dotted_113
      · rw [if_neg h58_6] at hf
        refine lv_aload_n hx hb d_C_dotted_61 rfl (lv_at hl 0 rfl) ?_
        refine va_get (D := (dC, dI)) (ci := 1) (v := .ref (a 3)) (C := R_C) (T := T_C) (N := 5) hx hb hts in_C hown hK hP 0 rfl rfl 4 (by decide) (hts _ mw_79) (fun _ h9 => h9) rfl d_C_dotted_62 ?_
        refine lv_iconst (v := 4) hx hb d_C_dotted_65 (by decide) ?_
        refine lv_iload_n hx hb d_C_dotted_66 rfl (lv_at hl 1 rfl) ?_
        refine lv_iload hx hb d_C_dotted_67 (lv_at hl 5 rfl) ?_
        refine cc_calls (va_runS (As := [.int x1, .int x5]) (rest := [.int (4 : Int32), .ref (a 3)]) ⟨hx, hb, hml, hown, hts⟩ (k_V_number l x1 x5 _ rfl) (cw_S 2 hts mw_226 mw_227 mw_11 mw_228 rfl rfl hd_V_number ⟨Nat.le_of_ble_eq_true rfl, Nat.le_of_ble_eq_true rfl⟩) cc_preS rfl rfl hl.1 rfl (lv_room (Nat.le_of_ble_eq_true rfl)) d_C_dotted_69 ⟨Nat.zero_le _, Nat.zero_le _⟩) ?_
        refine lv_iload_n hx hb d_C_dotted_72 rfl (lv_at hl 2 rfl) ?_
        refine lv_iload hx hb d_C_dotted_73 (lv_at hl 5 rfl) ?_
        refine cc_calls (va_runS (As := [.int x2, .int x5]) (rest := [.int (f_V_number x1 x5), .int (4 : Int32), .ref (a 3)]) ⟨hx, hb, hml, hown, hts⟩ (k_V_number l x2 x5 _ rfl) (cw_S 2 hts mw_226 mw_227 mw_11 mw_228 rfl rfl hd_V_number ⟨Nat.le_of_ble_eq_true rfl, Nat.le_of_ble_eq_true rfl⟩) cc_preS rfl rfl hl.1 rfl (lv_room (Nat.le_of_ble_eq_true rfl)) d_C_dotted_75 ⟨Nat.zero_le _, Nat.zero_le _⟩) ?_
        have hP : va_P (dC, dI) vC (wC a cI cC F A) H := hP
        have hD : va_D (va_A (wC a cI cC Fa Aa) s.heap.size) (wC a cI cC F A) := hD
        obtain ⟨r7, F7, A7, hc, hf⟩ := ra_bi_some hf
        refine cc_calli (va_runV (As := [.int (4 : Int32), .int (f_V_number x1 x5), .int (f_V_number x2 x5)]) (rest := []) ⟨hx, hb, hml, hown, hts⟩ (k_K_put l dC dI a cI cC H.size F A (4 : Int32) (f_V_number x1 x5) (f_V_number x2 x5) r7 F7 A7 hc) (cw_V 3 hts mw_196 mw_197 mw_198 mw_2 mw_199 rfl rfl rfl hd_K_put ⟨Nat.le_of_ble_eq_true rfl, Nat.le_of_ble_eq_true rfl⟩) (cc_preV hK hP hD rfl (q0 := 3) rfl) rfl rfl hl.1 rfl (lv_room (Nat.le_of_ble_eq_true rfl)) d_C_dotted_78 ⟨Nat.zero_le _, Nat.zero_le _⟩) hD hS hA (fun H locs hP hD hS => ?_)
        refine lv_istore hx hb d_C_dotted_81 hl (by decide) rfl (fun ls hl => ?_)
        have hl : lv_has ls 7 [(6, .int r7), (0, .ref (a 0)), (1, .int x1), (2, .int x2), (3, .int x3), (4, .int x4), (5, .int x5)] := hl
        refine lv_aload_n hx hb d_C_dotted_83 rfl (lv_at hl 1 rfl) ?_
        refine va_get (D := (dC, dI)) (ci := 1) (v := .ref (a 3)) (C := R_C) (T := T_C) (N := 5) hx hb hts in_C hown hK hP 0 rfl rfl 4 (by decide) (hts _ mw_79) (fun _ h9 => h9) rfl d_C_dotted_84 ?_
        refine lv_iconst (v := 2) hx hb d_C_dotted_87 (by decide) ?_
        refine lv_iload hx hb d_C_dotted_88 (lv_at hl 5 rfl) ?_
        refine lv_iload hx hb d_C_dotted_90 (lv_at hl 0 rfl) ?_
        have hP : va_P (dC, dI) vC (wC a cI cC F7 A7) H := hP
        have hD : va_D (va_A (wC a cI cC Fa Aa) s.heap.size) (wC a cI cC F7 A7) := hD
        obtain ⟨r8, F8, A8, hc, hf⟩ := ra_bi_some hf
        refine cc_calli (va_runV (As := [.int (2 : Int32), .int x4, .int r7]) (rest := []) ⟨hx, hb, hml, hown, hts⟩ (k_K_put l dC dI a cI cC H.size F7 A7 (2 : Int32) x4 r7 r8 F8 A8 hc) (cw_V 3 hts mw_196 mw_197 mw_198 mw_2 mw_199 rfl rfl rfl hd_K_put ⟨Nat.le_of_ble_eq_true rfl, Nat.le_of_ble_eq_true rfl⟩) (cc_preV hK hP hD rfl (q0 := 3) rfl) rfl rfl hl.1 rfl (lv_room (Nat.le_of_ble_eq_true rfl)) d_C_dotted_92 ⟨Nat.zero_le _, Nat.zero_le _⟩) hD hS hA (fun H locs hP hD hS => ?_)
        refine lv_istore hx hb d_C_dotted_95 hl (by decide) rfl (fun ls hl => ?_)
        have hl : lv_has ls 7 [(4, .int r8), (6, .int r7), (0, .ref (a 0)), (1, .int x1), (2, .int x2), (3, .int x3), (5, .int x5)] := hl
        refine lv_iinc (k := 6) (v := (x5 + (1 : Int32))) hx hb d_C_dotted_97 hl rfl (by rfl) (by decide) rfl (fun ls hl => ?_)
        have hl : lv_has ls 7 [(5, .int (x5 + (1 : Int32))), (4, .int r8), (6, .int r7), (0, .ref (a 0)), (1, .int x1), (2, .int x2), (3, .int x3)] := hl
        refine lv_goto (tgt := 55) hx hb d_C_dotted_100 (by decide) ?_
        have hl : lv_has ls 7 [(0, .ref (a 0)), (1, .int x1), (2, .int x2), (3, .int x3), (4, .int r8), (5, .int (x5 + (1 : Int32)))] := lv_sub hl [3, 4, 5, 6, 1, 0] rfl
        exact ih x1 x2 x3 r8 (x5 + (1 : Int32)) F8 A8 _ _ _ hl hP hD hS hf
  rw [lg_entry_eq]
  generalize (lg_sl (([.ref (a 0), .int u1, .int u2] : List Value)) ++ List.replicate (7 - (lg_sl (([.ref (a 0), .int u1, .int u2] : List Value))).length) Slot.unset).toArray = ls at hl ⊢
  have hl : lv_has ls 7 [(0, .ref (a 0)), (1, .int u1), (2, .int u2)] := hl
  unfold f_C_dotted at hf
  refine lv_iload_n hx hb d_C_dotted_0 rfl (lv_at hl 1 rfl) ?_
  refine lv_iconst (v := -1) hx hb d_C_dotted_1 (by decide) ?_
  refine lv_icmp_eq (tgt := 10) hx hb d_C_dotted_2 (by decide) (fun h2_1 => ?_) (fun h2_1 => ?_)
  · rw [if_pos h2_1] at hf
    refine lv_iconst (v := -1) hx hb d_C_dotted_10 (by decide) ?_
    cases hf
    exact W.iret hx hb hr (fun t ht hW => ⟨⟨_, (), rfl, rfl, by rw [ht]; exact hP, va_K.moved hW.alike hK, hD⟩, hS.F ht⟩) hS.2.2 d_C_dotted_11
  · rw [if_neg h2_1] at hf
    refine lv_iload_n hx hb d_C_dotted_5 rfl (lv_at hl 2 rfl) ?_
    refine lv_iconst (v := -1) hx hb d_C_dotted_6 (by decide) ?_
    refine lv_icmp_ne (tgt := 12) hx hb d_C_dotted_7 (by decide) (fun h7_2 => ?_) (fun h7_2 => ?_)
    · rw [if_neg h7_2] at hf
      refine lv_iload_n hx hb d_C_dotted_12 rfl (lv_at hl 1 rfl) ?_
      refine cc_calls (va_runS (As := [.int u1]) (rest := []) ⟨hx, hb, hml, hown, hts⟩ (k_V_typeIn l u1 _ rfl) (cw_S 1 hts mw_223 mw_224 mw_11 mw_225 rfl rfl hd_V_typeIn ⟨Nat.le_of_ble_eq_true rfl, Nat.le_of_ble_eq_true rfl⟩) cc_preS rfl rfl hl.1 rfl (lv_room (Nat.le_of_ble_eq_true rfl)) d_C_dotted_13 ⟨Nat.zero_le _, Nat.zero_le _⟩) ?_
      refine lv_istore_n hx hb d_C_dotted_16 rfl hl (by decide) rfl (fun ls hl => ?_)
      have hl : lv_has ls 7 [(3, .int (f_V_typeIn u1)), (0, .ref (a 0)), (1, .int u1), (2, .int u2)] := hl
      refine lv_iload_n hx hb d_C_dotted_17 rfl (lv_at hl 0 rfl) ?_
      refine lv_iload_n hx hb d_C_dotted_18 rfl (lv_at hl 3 rfl) ?_
      refine cc_calls (va_runS (As := [.int u2]) (rest := [.int (f_V_typeIn u1)]) ⟨hx, hb, hml, hown, hts⟩ (k_V_typeIn l u2 _ rfl) (cw_S 1 hts mw_223 mw_224 mw_11 mw_225 rfl rfl hd_V_typeIn ⟨Nat.le_of_ble_eq_true rfl, Nat.le_of_ble_eq_true rfl⟩) cc_preS rfl rfl hl.1 rfl (lv_room (Nat.le_of_ble_eq_true rfl)) d_C_dotted_19 ⟨Nat.zero_le _, Nat.zero_le _⟩) ?_
      refine lv_icmp_ne (tgt := 30) hx hb d_C_dotted_22 (by decide) (fun h22_3 => ?_) (fun h22_3 => ?_)
      · rw [if_neg h22_3] at hf
        refine lv_iconst (v := -1) hx hb d_C_dotted_30 (by decide) ?_
        cases hf
        exact W.iret hx hb hr (fun t ht hW => ⟨⟨_, (), rfl, rfl, by rw [ht]; exact hP, va_K.moved hW.alike hK, hD⟩, hS.F ht⟩) hS.2.2 d_C_dotted_31
      · rw [if_pos h22_3] at hf
        refine lv_iload_n hx hb d_C_dotted_25 rfl (lv_at hl 0 rfl) ?_
        refine lv_iconst (v := 4) hx hb d_C_dotted_26 (by decide) ?_
        refine lv_icmp_ne (tgt := 32) hx hb d_C_dotted_27 (by decide) (fun h27_4 => ?_) (fun h27_4 => ?_)
        · rw [if_neg h27_4] at hf
          refine lv_aload_n hx hb d_C_dotted_32 rfl (lv_at hl 1 rfl) ?_
          refine va_get (D := (dC, dI)) (ci := 1) (v := .ref (a 3)) (C := R_C) (T := T_C) (N := 5) hx hb hts in_C hown hK hP 0 rfl rfl 4 (by decide) (hts _ mw_79) (fun _ h9 => h9) rfl d_C_dotted_33 ?_
          refine lv_iconst (v := 4) hx hb d_C_dotted_36 (by decide) ?_
          refine lv_iload_n hx hb d_C_dotted_37 rfl (lv_at hl 2 rfl) ?_
          refine lv_iconst (v := 0) hx hb d_C_dotted_38 (by decide) ?_
          refine cc_calls (va_runS (As := [.int u1, .int (0 : Int32)]) (rest := [.int (4 : Int32), .ref (a 3)]) ⟨hx, hb, hml, hown, hts⟩ (k_V_number l u1 (0 : Int32) _ rfl) (cw_S 2 hts mw_226 mw_227 mw_11 mw_228 rfl rfl hd_V_number ⟨Nat.le_of_ble_eq_true rfl, Nat.le_of_ble_eq_true rfl⟩) cc_preS rfl rfl hl.1 rfl (lv_room (Nat.le_of_ble_eq_true rfl)) d_C_dotted_39 ⟨Nat.zero_le _, Nat.zero_le _⟩) ?_
          refine lv_iload_n hx hb d_C_dotted_42 rfl (lv_at hl 3 rfl) ?_
          refine lv_iconst (v := 0) hx hb d_C_dotted_43 (by decide) ?_
          refine cc_calls (va_runS (As := [.int u2, .int (0 : Int32)]) (rest := [.int (f_V_number u1 (0 : Int32)), .int (4 : Int32), .ref (a 3)]) ⟨hx, hb, hml, hown, hts⟩ (k_V_number l u2 (0 : Int32) _ rfl) (cw_S 2 hts mw_226 mw_227 mw_11 mw_228 rfl rfl hd_V_number ⟨Nat.le_of_ble_eq_true rfl, Nat.le_of_ble_eq_true rfl⟩) cc_preS rfl rfl hl.1 rfl (lv_room (Nat.le_of_ble_eq_true rfl)) d_C_dotted_44 ⟨Nat.zero_le _, Nat.zero_le _⟩) ?_
          have hP : va_P (dC, dI) vC (wC a cI cC Fa Aa) s.heap := hP
          have hD : va_D (va_A (wC a cI cC Fa Aa) s.heap.size) (wC a cI cC Fa Aa) := hD
          obtain ⟨r5, F5, A5, hc, hf⟩ := ra_bi_some hf
          refine cc_calli (va_runV (As := [.int (4 : Int32), .int (f_V_number u1 (0 : Int32)), .int (f_V_number u2 (0 : Int32))]) (rest := []) ⟨hx, hb, hml, hown, hts⟩ (k_K_put l dC dI a cI cC s.heap.size Fa Aa (4 : Int32) (f_V_number u1 (0 : Int32)) (f_V_number u2 (0 : Int32)) r5 F5 A5 hc) (cw_V 3 hts mw_196 mw_197 mw_198 mw_2 mw_199 rfl rfl rfl hd_K_put ⟨Nat.le_of_ble_eq_true rfl, Nat.le_of_ble_eq_true rfl⟩) (cc_preV hK hP hD rfl (q0 := 3) rfl) rfl rfl hl.1 rfl (lv_room (Nat.le_of_ble_eq_true rfl)) d_C_dotted_47 ⟨Nat.zero_le _, Nat.zero_le _⟩) hD hS hA (fun H locs hP hD hS => ?_)
          refine lv_istore hx hb d_C_dotted_50 hl (by decide) rfl (fun ls hl => ?_)
          have hl : lv_has ls 7 [(4, .int r5), (3, .int (f_V_typeIn u1)), (0, .ref (a 0)), (1, .int u1), (2, .int u2)] := hl
          refine lv_iconst (v := 1) hx hb d_C_dotted_52 (by decide) ?_
          refine lv_istore hx hb d_C_dotted_53 hl (by decide) rfl (fun ls hl => ?_)
          have hl : lv_has ls 7 [(5, .int (1 : Int32)), (4, .int r5), (3, .int (f_V_typeIn u1)), (0, .ref (a 0)), (1, .int u1), (2, .int u2)] := hl
          have hl : lv_has ls 7 [(0, .ref (a 0)), (1, .int u1), (2, .int u2), (3, .int (f_V_typeIn u1)), (4, .int r5), (5, .int (1 : Int32))] := lv_sub hl [3, 4, 5, 2, 1, 0] rfl
          exact L55 400 u1 u2 (f_V_typeIn u1) r5 (1 : Int32) F5 A5 _ _ _ hl hP hD hS hf
        · rw [if_pos h27_4] at hf
          refine lv_iconst (v := -1) hx hb d_C_dotted_30 (by decide) ?_
          cases hf
          exact W.iret hx hb hr (fun t ht hW => ⟨⟨_, (), rfl, rfl, by rw [ht]; exact hP, va_K.moved hW.alike hK, hD⟩, hS.F ht⟩) hS.2.2 d_C_dotted_31
    · rw [if_pos h7_2] at hf
      refine lv_iconst (v := -1) hx hb d_C_dotted_10 (by decide) ?_
      cases hf
      exact W.iret hx hb hr (fun t ht hW => ⟨⟨_, (), rfl, rfl, by rw [ht]; exact hP, va_K.moved hW.alike hK, hD⟩, hS.F ht⟩) hS.2.2 d_C_dotted_11
