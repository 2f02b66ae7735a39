def f_M_type_L116 : Nat → Int32 → Int32 → Int32 → ST_F → ST_A → Option (Int32 × ST_F × ST_A)
  | 0, _, _, _, _, _ => none
  | n + 1, x1, x2, x3, F, A => if x3 < 0 then (some ((F 1), F, A)) else (if ((x1 >>> (x3 &&& 31)) &&& (255 : Int32)) ≤ 0 then (f_M_type_L116 n x1 x2 (x3 + (-8 : Int32)) F A) else (ra_g (F 1) 160 (f_M_type_L116 n x1 x2 (x3 + (-8 : Int32)) (upd F 1 ((F 1) + (1 : Int32))) (va_up A 0 (upd (A 0) (F 1).toNatClampNeg ((x1 >>> (x3 &&& 31)) &&& (255 : Int32)))))))
def f_M_type_J101 (x1 : Int32) (x2 : Int32) (x3 : Int32) (z0 : Int32) (F : ST_F) (A : ST_A) : Option (Int32 × ST_F × ST_A) := if z0 ≤ 0 then (f_M_type_L116 400 x1 x2 (24 : Int32) (upd F 0 z0) A) else (some ((0 : Int32), (upd F 0 z0), A))
def f_M_type_J97 (x1 : Int32) (x2 : Int32) (x3 : Int32) (F : ST_F) (A : ST_A) : Option (Int32 × ST_F × ST_A) := f_M_type_J101 x1 x2 x3 (F 0) F A
def f_M_type_L10 : Nat → Int32 → Int32 → Int32 → ST_F → ST_A → Option (Int32 × ST_F × ST_A)
  | 0, _, _, _, _, _ => none
  | n + 1, x1, x2, x3, F, A => if x3 < 0 then (if (F 0) = 0 then (if ((F 1) + x2) ≤ (160 : Int32) then (f_M_type_J97 x1 x2 x3 F A) else (f_M_type_J101 x1 x2 x3 (2 : Int32) F A)) else (f_M_type_J97 x1 x2 x3 F A)) else (if ((x1 >>> (x3 &&& 31)) &&& (255 : Int32)) ≤ 0 then (if ((x1 >>> (x3 &&& 31)) &&& (255 : Int32)) ≤ 0 then (f_M_type_L10 n x1 x2 (x3 + (-8 : Int32)) (upd F 0 (F 0)) A) else (f_M_type_L10 n x1 (x2 + (1 : Int32)) (x3 + (-8 : Int32)) (upd F 0 (F 0)) A)) else (if ((x1 >>> (x3 &&& 31)) &&& (255 : Int32)) < (33 : Int32) then (if ((x1 >>> (x3 &&& 31)) &&& (255 : Int32)) ≤ 0 then (f_M_type_L10 n x1 x2 (x3 + (-8 : Int32)) (upd F 0 (1 : Int32)) A) else (f_M_type_L10 n x1 (x2 + (1 : Int32)) (x3 + (-8 : Int32)) (upd F 0 (1 : Int32)) A)) else (if ((x1 >>> (x3 &&& 31)) &&& (255 : Int32)) ≤ (126 : Int32) then (if ((x1 >>> (x3 &&& 31)) &&& (255 : Int32)) ≤ 0 then (f_M_type_L10 n x1 x2 (x3 + (-8 : Int32)) (upd F 0 (F 0)) A) else (f_M_type_L10 n x1 (x2 + (1 : Int32)) (x3 + (-8 : Int32)) (upd F 0 (F 0)) A)) else (if ((x1 >>> (x3 &&& 31)) &&& (255 : Int32)) ≤ 0 then (f_M_type_L10 n x1 x2 (x3 + (-8 : Int32)) (upd F 0 (1 : Int32)) A) else (f_M_type_L10 n x1 (x2 + (1 : Int32)) (x3 + (-8 : Int32)) (upd F 0 (1 : Int32)) A)))))
def f_M_type (u1 : Int32) (Fa : ST_F) (Aa : ST_A) : Option (Int32 × ST_F × ST_A) := f_M_type_L10 400 u1 (0 : Int32) (24 : Int32) (upd Fa 0 (0 : Int32)) Aa
set_option maxHeartbeats 4000000 in
set_option maxRecDepth 100000 in
theorem k_M_type (l : Launch) (dC : Nat → ClassId) (dI : Nat → Nat → Nat) (o : Nat → Nat) (cI : ClassId) (sz : Nat) (Fa : ST_F) (Aa : ST_A) (u1 : Int32) (r0 : Int32) (F9 : ST_F) (A9 : ST_A) (hf : f_M_type u1 Fa Aa = some (r0, F9, A9)) : cc_MetI l y_M_type (Cond.code y_M_type b_M_type 5 (some .int) :: wA) ({ frames := 0, cells := 0, slots := 0, locals := 0 } : Room) (dC, dI) vC [(cI, .int)] ([.ref (o 0), .int u1] : List Value) (wM o cI Fa Aa) sz (wM o cI F9 A9) r0 := by
  refine Met.ofW (cc := b_M_type) (maxL := 5) (ret := (some .int)) (by decide) rfl ?_
  intro p e s m args below meth c s₁ B hml hv
  obtain ⟨rfl, hsz, hP, hK, hD0⟩ := hv
  have hx := B.exec
  have hb := B.bytes
  have hr := B.returns
  have hts := fun w h => atoms_spec (ws := (Cond.code y_M_type b_M_type 5 (some .int) :: wA)) B.pre w (List.mem_cons_of_mem _ h)
  have hown : s.vm.findClass R_M = some m.cls := findClass_of_methodNamed B.named
  have hlocks := B.notSynchronized
  subst hsz
  have hD := hD0.self (sz := s.heap.size)
  have hA : ∀ q : Nat, s.heap.size ≤ q → va_A (wM o cI Fa Aa) s.heap.size q := fun q h => Or.inr h
  have hS : va_S (va_A (wM o cI Fa Aa) s.heap.size) s.heap s.heap [] := va_S.rf
  have hl := lv_entry (([.ref (o 0), .int u1] : List Value)) (n := 5) (Nat.le_of_ble_eq_true rfl)
  have L116 : ∀ (n : Nat) (x1 : Int32) (x2 : Int32) (x3 : Int32) (F : ST_F) (A : ST_A) (H : Heap) (locs : List Loc) (ls : Array Slot), lv_has ls 5 [(0, .ref (o 0)), (1, .int x1), (2, .int x2), (3, .int x3)] → va_P (dC, dI) vC (wM o cI F A) H → va_D (va_A (wM o cI Fa Aa) s.heap.size) (wM o cI F A) → va_S (va_A (wM o cI Fa Aa) s.heap.size) s.heap H locs → f_M_type_L116 n x1 x2 x3 F A = some (r0, F9, A9) → W p l e (headSpec (Cond.code y_M_type b_M_type 5 (some .int) :: wA) ({ frames := 0, cells := 0, slots := 0, locals := 0 } : Room)).room s m ([.ref (o 0), .int u1] : List Value).toArray below meth c H locs 0 0 (MQ below (cc_Qi (dC, dI) vC [(cI, .int)] (wM o cI Fa Aa) s.heap.size (wM o cI F9 A9) r0) ([.ref (o 0), .int u1] : List Value).toArray s 0 0 (va_A (wM o cI Fa Aa) s.heap.size)) (F0 m 116 ls []) := by
    intro n
    induction n with
    | zero => intro x1 x2 x3 F A H locs ls hl hP hD hS hf; cases hf
    | succ n ih =>
      intro x1 x2 x3 F A H locs ls hl hP hD hS hf
      rw [f_M_type_L116] at hf
      refine lv_iload_n hx hb d_M_type_116 rfl (lv_at hl 3 rfl) ?_
      refine lv_if_lt (tgt := 161) hx hb d_M_type_117 (by decide) (fun h117_4 => ?_) (fun h117_4 => ?_)
      · rw [if_pos h117_4] at hf
        refine lv_aload_n hx hb d_M_type_161 rfl (lv_at hl 0 rfl) ?_
        refine va_get (D := (dC, dI)) (ci := 4) (v := .int (F 1)) (C := R_M) (T := T_M) (N := 29) hx hb hts in_M hown hK hP 0 rfl rfl 1 (by decide) (hts _ mw_504) (fun _ h9 => h9) rfl d_M_type_162 ?_
        cases hf
        exact W.iret hx hb hr (fun t ht hW => ⟨⟨_, (), rfl, rfl, by rw [ht]; exact hP, va_K.moved hW.alike hK, hD⟩, hS.F ht⟩) hS.2.2 d_M_type_165
      · rw [if_neg h117_4] at hf
        refine lv_iload_n hx hb d_M_type_120 rfl (lv_at hl 1 rfl) ?_
        refine lv_iload_n hx hb d_M_type_121 rfl (lv_at hl 3 rfl) ?_
        refine lv_ishr hx hb d_M_type_122 ?_
        refine lv_sipush (v := 255) hx hb d_M_type_123 (by decide) ?_
        refine lv_iand hx hb d_M_type_126 ?_
        refine lv_istore hx hb d_M_type_127 hl (by decide) rfl (fun ls hl => ?_)
        have hl : lv_has ls 5 [(4, .int ((x1 >>> (x3 &&& 31)) &&& (255 : Int32))), (0, .ref (o 0)), (1, .int x1), (2, .int x2), (3, .int x3)] := hl
        refine lv_iload hx hb d_M_type_129 (lv_at hl 0 rfl) ?_
        refine lv_if_le (tgt := 155) hx hb d_M_type_131 (by decide) (fun h131_5 => ?_) (fun h131_5 => ?_)
        · rw [if_pos h131_5] at hf
          refine lv_iinc (k := 4) (v := (x3 + (-8 : Int32))) hx hb d_M_type_155 hl rfl (by rfl) (by decide) rfl (fun ls hl => ?_)
          have hl : lv_has ls 5 [(3, .int (x3 + (-8 : Int32))), (4, .int ((x1 >>> (x3 &&& 31)) &&& (255 : Int32))), (0, .ref (o 0)), (1, .int x1), (2, .int x2)] := hl
          refine lv_goto (tgt := 116) hx hb d_M_type_158 (by decide) ?_
          have hl : lv_has ls 5 [(0, .ref (o 0)), (1, .int x1), (2, .int x2), (3, .int (x3 + (-8 : Int32)))] := lv_sub hl [2, 3, 4, 0] rfl
          exact ih x1 x2 (x3 + (-8 : Int32)) F A _ _ _ hl hP hD hS hf
        · rw [if_neg h131_5] at hf
          refine lv_aload_n hx hb d_M_type_134 rfl (lv_at hl 1 rfl) ?_
          refine va_get (D := (dC, dI)) (ci := 4) (v := .ref (o 1)) (C := R_M) (T := T_M) (N := 29) hx hb hts in_M hown hK hP 0 rfl rfl 2 (by decide) (hts _ mw_505) (fun _ h9 => h9) rfl d_M_type_135 ?_
          refine lv_aload_n hx hb d_M_type_138 rfl (lv_at hl 1 rfl) ?_
          refine va_get (D := (dC, dI)) (ci := 4) (v := .int (F 1)) (C := R_M) (T := T_M) (N := 29) hx hb hts in_M hown hK hP 0 rfl rfl 1 (by decide) (hts _ mw_504) (fun _ h9 => h9) rfl d_M_type_139 ?_
          refine lv_iload hx hb d_M_type_142 (lv_at hl 0 rfl) ?_
          obtain ⟨hi, hf⟩ := ra_g_some hf
          refine va_iast hx hb hK hP hD hS 1 0 rfl rfl hi d_M_type_144 (fun H locs hP hD hS => ?_)
          have hP : va_P (dC, dI) vC [((o 0), .inr (4, [.int (F 0), .int (F 1), .ref (o 1), .int (F 2), .ref (o 2), .ref (o 3), .ref (o 4), .ref (o 5), .ref (o 6), .int (F 3), .ref (o 7), .ref (o 8), .ref (o 9), .ref (o 10), .ref (o 11), .int (F 4), .int (F 5), .int (F 6), .ref (o 12), .ref (o 13), .int (F 7), .ref (o 14), .ref (o 15), .int (F 8), .int (F 9), .ref (o 16), .ref (o 17), .ref (o 18), .ref (o 19)])), ((o 1), .inl (cI, 160, .inl (upd (A 0) (F 1).toNatClampNeg ((x1 >>> (x3 &&& 31)) &&& (255 : Int32))))), ((o 2), .inl (cI, 100, .inl (A 1))), ((o 3), .inl (cI, 100, .inl (A 2))), ((o 4), .inl (cI, 100, .inl (A 3))), ((o 5), .inl (cI, 3, .inl (A 4))), ((o 6), .inl (cI, 26, .inl (A 5))), ((o 7), .inl (cI, 100, .inl (A 6))), ((o 8), .inl (cI, 100, .inl (A 7))), ((o 9), .inl (cI, 100, .inl (A 8))), ((o 10), .inl (cI, 26, .inl (A 9))), ((o 11), .inl (cI, 104, .inl (A 10))), ((o 12), .inl (cI, 80, .inl (A 11))), ((o 13), .inl (cI, 320, .inl (A 12))), ((o 14), .inl (cI, 200, .inl (A 13))), ((o 15), .inl (cI, 200, .inl (A 14))), ((o 16), .inl (cI, 4, .inl (A 15))), ((o 17), .inl (cI, 32, .inl (A 16))), ((o 18), .inl (cI, 32, .inl (A 17))), ((o 19), .inl (cI, 100, .inl (A 18)))] H := hP
          have hD : va_D (va_A (wM o cI Fa Aa) s.heap.size) [((o 0), .inr (4, [.int (F 0), .int (F 1), .ref (o 1), .int (F 2), .ref (o 2), .ref (o 3), .ref (o 4), .ref (o 5), .ref (o 6), .int (F 3), .ref (o 7), .ref (o 8), .ref (o 9), .ref (o 10), .ref (o 11), .int (F 4), .int (F 5), .int (F 6), .ref (o 12), .ref (o 13), .int (F 7), .ref (o 14), .ref (o 15), .int (F 8), .int (F 9), .ref (o 16), .ref (o 17), .ref (o 18), .ref (o 19)])), ((o 1), .inl (cI, 160, .inl (upd (A 0) (F 1).toNatClampNeg ((x1 >>> (x3 &&& 31)) &&& (255 : Int32))))), ((o 2), .inl (cI, 100, .inl (A 1))), ((o 3), .inl (cI, 100, .inl (A 2))), ((o 4), .inl (cI, 100, .inl (A 3))), ((o 5), .inl (cI, 3, .inl (A 4))), ((o 6), .inl (cI, 26, .inl (A 5))), ((o 7), .inl (cI, 100, .inl (A 6))), ((o 8), .inl (cI, 100, .inl (A 7))), ((o 9), .inl (cI, 100, .inl (A 8))), ((o 10), .inl (cI, 26, .inl (A 9))), ((o 11), .inl (cI, 104, .inl (A 10))), ((o 12), .inl (cI, 80, .inl (A 11))), ((o 13), .inl (cI, 320, .inl (A 12))), ((o 14), .inl (cI, 200, .inl (A 13))), ((o 15), .inl (cI, 200, .inl (A 14))), ((o 16), .inl (cI, 4, .inl (A 15))), ((o 17), .inl (cI, 32, .inl (A 16))), ((o 18), .inl (cI, 32, .inl (A 17))), ((o 19), .inl (cI, 100, .inl (A 18)))] := hD
          refine lv_aload_n hx hb d_M_type_145 rfl (lv_at hl 1 rfl) ?_
          refine lv_dup hx hb d_M_type_146 rfl ?_
          refine va_get (D := (dC, dI)) (ci := 4) (v := .int (F 1)) (C := R_M) (T := T_M) (N := 29) hx hb hts in_M hown hK hP 0 rfl rfl 1 (by decide) (hts _ mw_504) (fun _ h9 => h9) rfl d_M_type_147 ?_
          refine lv_iconst (v := 1) hx hb d_M_type_150 (by decide) ?_
          refine lv_iadd hx hb d_M_type_151 ?_
          refine va_put (D := (dC, dI)) (ci := 4) (v := .int ((F 1) + (1 : Int32))) (ty := .int) (C := R_M) (T := T_M) (N := 29) hx hb hts in_M ty_M ty_M_ok nm_M hown hK hP hD hS 0 rfl rfl 1 (by decide) (hts _ mw_504) (fun _ h9 => h9) rfl (by decide +kernel) rfl rfl (Nat.le_of_ble_eq_true rfl) d_M_type_152 (fun H locs hP hD hS => ?_)
          have hP : va_P (dC, dI) vC [((o 0), .inr (4, [.int (F 0), .int ((F 1) + (1 : Int32)), .ref (o 1), .int (F 2), .ref (o 2), .ref (o 3), .ref (o 4), .ref (o 5), .ref (o 6), .int (F 3), .ref (o 7), .ref (o 8), .ref (o 9), .ref (o 10), .ref (o 11), .int (F 4), .int (F 5), .int (F 6), .ref (o 12), .ref (o 13), .int (F 7), .ref (o 14), .ref (o 15), .int (F 8), .int (F 9), .ref (o 16), .ref (o 17), .ref (o 18), .ref (o 19)])), ((o 1), .inl (cI, 160, .inl (upd (A 0) (F 1).toNatClampNeg ((x1 >>> (x3 &&& 31)) &&& (255 : Int32))))), ((o 2), .inl (cI, 100, .inl (A 1))), ((o 3), .inl (cI, 100, .inl (A 2))), ((o 4), .inl (cI, 100, .inl (A 3))), ((o 5), .inl (cI, 3, .inl (A 4))), ((o 6), .inl (cI, 26, .inl (A 5))), ((o 7), .inl (cI, 100, .inl (A 6))), ((o 8), .inl (cI, 100, .inl (A 7))), ((o 9), .inl (cI, 100, .inl (A 8))), ((o 10), .inl (cI, 26, .inl (A 9))), ((o 11), .inl (cI, 104, .inl (A 10))), ((o 12), .inl (cI, 80, .inl (A 11))), ((o 13), .inl (cI, 320, .inl (A 12))), ((o 14), .inl (cI, 200, .inl (A 13))), ((o 15), .inl (cI, 200, .inl (A 14))), ((o 16), .inl (cI, 4, .inl (A 15))), ((o 17), .inl (cI, 32, .inl (A 16))), ((o 18), .inl (cI, 32, .inl (A 17))), ((o 19), .inl (cI, 100, .inl (A 18)))] H := hP
          have hD : va_D (va_A (wM o cI Fa Aa) s.heap.size) [((o 0), .inr (4, [.int (F 0), .int ((F 1) + (1 : Int32)), .ref (o 1), .int (F 2), .ref (o 2), .ref (o 3), .ref (o 4), .ref (o 5), .ref (o 6), .int (F 3), .ref (o 7), .ref (o 8), .ref (o 9), .ref (o 10), .ref (o 11), .int (F 4), .int (F 5), .int (F 6), .ref (o 12), .ref (o 13), .int (F 7), .ref (o 14), .ref (o 15), .int (F 8), .int (F 9), .ref (o 16), .ref (o 17), .ref (o 18), .ref (o 19)])), ((o 1), .inl (cI, 160, .inl (upd (A 0) (F 1).toNatClampNeg ((x1 >>> (x3 &&& 31)) &&& (255 : Int32))))), ((o 2), .inl (cI, 100, .inl (A 1))), ((o 3), .inl (cI, 100, .inl (A 2))), ((o 4), .inl (cI, 100, .inl (A 3))), ((o 5), .inl (cI, 3, .inl (A 4))), ((o 6), .inl (cI, 26, .inl (A 5))), ((o 7), .inl (cI, 100, .inl (A 6))), ((o 8), .inl (cI, 100, .inl (A 7))), ((o 9), .inl (cI, 100, .inl (A 8))), ((o 10), .inl (cI, 26, .inl (A 9))), ((o 11), .inl (cI, 104, .inl (A 10))), ((o 12), .inl (cI, 80, .inl (A 11))), ((o 13), .inl (cI, 320, .inl (A 12))), ((o 14), .inl (cI, 200, .inl (A 13))), ((o 15), .inl (cI, 200, .inl (A 14))), ((o 16), .inl (cI, 4, .inl (A 15))), ((o 17), .inl (cI, 32, .inl (A 16))), ((o 18), .inl (cI, 32, .inl (A 17))), ((o 19), .inl (cI, 100, .inl (A 18)))] := hD
          refine lv_iinc (k := 4) (v := (x3 + (-8 : Int32))) hx hb d_M_type_155 hl rfl (by rfl) (by decide) rfl (fun ls hl => ?_)
          have hl : lv_has ls 5 [(3, .int (x3 + (-8 : Int32))), (4, .int ((x1 >>> (x3 &&& 31)) &&& (255 : Int32))), (0, .ref (o 0)), (1, .int x1), (2, .int x2)] := hl
          refine lv_goto (tgt := 116) hx hb d_M_type_158 (by decide) ?_
          have hl : lv_has ls 5 [(0, .ref (o 0)), (1, .int x1), (2, .int x2), (3, .int (x3 + (-8 : Int32)))] := lv_sub hl [2, 3, 4, 0] rfl
          exact ih x1 x2 (x3 + (-8 : Int32)) (upd F 1 ((F 1) + (1 : Int32))) (va_up A 0 (upd (A 0) (F 1).toNatClampNeg ((x1 >>> (x3 &&& 31)) &&& (255 : Int32)))) _ _ _ hl hP hD hS hf
  have J101 : ∀ (x1 : Int32) (x2 : Int32) (x3 : Int32) (z0 : Int32) (F : ST_F) (A : ST_A) (H : Heap) (locs : List Loc) (ls : Array Slot), lv_has ls 5 [(0, .ref (o 0)), (1, .int x1), (2, .int x2), (3, .int x3)] → va_P (dC, dI) vC (wM o cI F A) H → va_D (va_A (wM o cI Fa Aa) s.heap.size) (wM o cI F A) → va_S (va_A (wM o cI Fa Aa) s.heap.size) s.heap H locs → f_M_type_J101 x1 x2 x3 z0 F A = some (r0, F9, A9) → W p l e (headSpec (Cond.code y_M_type b_M_type 5 (some .int) :: wA) ({ frames := 0, cells := 0, slots := 0, locals := 0 } : Room)).room s m ([.ref (o 0), .int u1] : List Value).toArray below meth c H locs 0 0 (MQ below (cc_Qi (dC, dI) vC [(cI, .int)] (wM o cI Fa Aa) s.heap.size (wM o cI F9 A9) r0) ([.ref (o 0), .int u1] : List Value).toArray s 0 0 (va_A (wM o cI Fa Aa) s.heap.size)) (F0 m 101 ls [.int z0, .ref (o 0)]) := by
    intro x1 x2 x3 z0 F A H locs ls hl hP hD hS hf
    unfold f_M_type_J101 at hf
    refine va_put (D := (dC, dI)) (ci := 4) (v := .int z0) (ty := .int) (C := R_M) (T := T_M) (N := 29) hx hb hts in_M ty_M ty_M_ok nm_M hown hK hP hD hS 0 rfl rfl 0 (by decide) (hts _ mw_503) (fun _ h9 => h9) rfl (by decide +kernel) rfl rfl (Nat.le_of_ble_eq_true rfl) d_M_type_101 (fun H locs hP hD hS => ?_)
    have hP : va_P (dC, dI) vC [((o 0), .inr (4, [.int z0, .int (F 1), .ref (o 1), .int (F 2), .ref (o 2), .ref (o 3), .ref (o 4), .ref (o 5), .ref (o 6), .int (F 3), .ref (o 7), .ref (o 8), .ref (o 9), .ref (o 10), .ref (o 11), .int (F 4), .int (F 5), .int (F 6), .ref (o 12), .ref (o 13), .int (F 7), .ref (o 14), .ref (o 15), .int (F 8), .int (F 9), .ref (o 16), .ref (o 17), .ref (o 18), .ref (o 19)])), ((o 1), .inl (cI, 160, .inl (A 0))), ((o 2), .inl (cI, 100, .inl (A 1))), ((o 3), .inl (cI, 100, .inl (A 2))), ((o 4), .inl (cI, 100, .inl (A 3))), ((o 5), .inl (cI, 3, .inl (A 4))), ((o 6), .inl (cI, 26, .inl (A 5))), ((o 7), .inl (cI, 100, .inl (A 6))), ((o 8), .inl (cI, 100, .inl (A 7))), ((o 9), .inl (cI, 100, .inl (A 8))), ((o 10), .inl (cI, 26, .inl (A 9))), ((o 11), .inl (cI, 104, .inl (A 10))), ((o 12), .inl (cI, 80, .inl (A 11))), ((o 13), .inl (cI, 320, .inl (A 12))), ((o 14), .inl (cI, 200, .inl (A 13))), ((o 15), .inl (cI, 200, .inl (A 14))), ((o 16), .inl (cI, 4, .inl (A 15))), ((o 17), .inl (cI, 32, .inl (A 16))), ((o 18), .inl (cI, 32, .inl (A 17))), ((o 19), .inl (cI, 100, .inl (A 18)))] H := hP
    have hD : va_D (va_A (wM o cI Fa Aa) s.heap.size) [((o 0), .inr (4, [.int z0, .int (F 1), .ref (o 1), .int (F 2), .ref (o 2), .ref (o 3), .ref (o 4), .ref (o 5), .ref (o 6), .int (F 3), .ref (o 7), .ref (o 8), .ref (o 9), .ref (o 10), .ref (o 11), .int (F 4), .int (F 5), .int (F 6), .ref (o 12), .ref (o 13), .int (F 7), .ref (o 14), .ref (o 15), .int (F 8), .int (F 9), .ref (o 16), .ref (o 17), .ref (o 18), .ref (o 19)])), ((o 1), .inl (cI, 160, .inl (A 0))), ((o 2), .inl (cI, 100, .inl (A 1))), ((o 3), .inl (cI, 100, .inl (A 2))), ((o 4), .inl (cI, 100, .inl (A 3))), ((o 5), .inl (cI, 3, .inl (A 4))), ((o 6), .inl (cI, 26, .inl (A 5))), ((o 7), .inl (cI, 100, .inl (A 6))), ((o 8), .inl (cI, 100, .inl (A 7))), ((o 9), .inl (cI, 100, .inl (A 8))), ((o 10), .inl (cI, 26, .inl (A 9))), ((o 11), .inl (cI, 104, .inl (A 10))), ((o 12), .inl (cI, 80, .inl (A 11))), ((o 13), .inl (cI, 320, .inl (A 12))), ((o 14), .inl (cI, 200, .inl (A 13))), ((o 15), .inl (cI, 200, .inl (A 14))), ((o 16), .inl (cI, 4, .inl (A 15))), ((o 17), .inl (cI, 32, .inl (A 16))), ((o 18), .inl (cI, 32, .inl (A 17))), ((o 19), .inl (cI, 100, .inl (A 18)))] := hD
    refine lv_aload_n hx hb d_M_type_104 rfl (lv_at hl 0 rfl) ?_
    refine va_get (D := (dC, dI)) (ci := 4) (v := .int z0) (C := R_M) (T := T_M) (N := 29) hx hb hts in_M hown hK hP 0 rfl rfl 0 (by decide) (hts _ mw_503) (fun _ h9 => h9) rfl d_M_type_105 ?_
    refine lv_if_le (tgt := 113) hx hb d_M_type_108 (by decide) (fun h108_3 => ?_) (fun h108_3 => ?_)
    · rw [if_pos h108_3] at hf
      refine lv_bipush (v := 24) hx hb d_M_type_113 (by decide) ?_
      refine lv_istore_n hx hb d_M_type_115 rfl hl (by decide) rfl (fun ls hl => ?_)
      have hl : lv_has ls 5 [(3, .int (24 : Int32)), (0, .ref (o 0)), (1, .int x1), (2, .int x2)] := hl
      have hl : lv_has ls 5 [(0, .ref (o 0)), (1, .int x1), (2, .int x2), (3, .int (24 : Int32))] := lv_sub hl [1, 2, 3, 0] rfl
      exact L116 400 x1 x2 (24 : Int32) (upd F 0 z0) A _ _ _ hl hP hD hS hf
    · rw [if_neg h108_3] at hf
      refine lv_iconst (v := 0) hx hb d_M_type_111 (by decide) ?_
      cases hf
      exact W.iret hx hb hr (fun t ht hW => ⟨⟨_, (), rfl, rfl, by rw [ht]; exact hP, va_K.moved hW.alike hK, hD⟩, hS.F ht⟩) hS.2.2 d_M_type_112
  have J97 : ∀ (x1 : Int32) (x2 : Int32) (x3 : Int32) (F : ST_F) (A : ST_A) (H : Heap) (locs : List Loc) (ls : Array Slot), lv_has ls 5 [(0, .ref (o 0)), (1, .int x1), (2, .int x2), (3, .int x3)] → va_P (dC, dI) vC (wM o cI F A) H → va_D (va_A (wM o cI Fa Aa) s.heap.size) (wM o cI F A) → va_S (va_A (wM o cI Fa Aa) s.heap.size) s.heap H locs → f_M_type_J97 x1 x2 x3 F A = some (r0, F9, A9) → W p l e (headSpec (Cond.code y_M_type b_M_type 5 (some .int) :: wA) ({ frames := 0, cells := 0, slots := 0, locals := 0 } : Room)).room s m ([.ref (o 0), .int u1] : List Value).toArray below meth c H locs 0 0 (MQ below (cc_Qi (dC, dI) vC [(cI, .int)] (wM o cI Fa Aa) s.heap.size (wM o cI F9 A9) r0) ([.ref (o 0), .int u1] : List Value).toArray s 0 0 (va_A (wM o cI Fa Aa) s.heap.size)) (F0 m 97 ls [.ref (o 0)]) := by
    intro x1 x2 x3 F A H locs ls hl hP hD hS hf
    unfold f_M_type_J97 at hf
    refine lv_aload_n hx hb d_M_type_97 rfl (lv_at hl 0 rfl) ?_
    refine va_get (D := (dC, dI)) (ci := 4) (v := .int (F 0)) (C := R_M) (T := T_M) (N := 29) hx hb hts in_M hown hK hP 0 rfl rfl 0 (by decide) (hts _ mw_503) (fun _ h9 => h9) rfl d_M_type_98 ?_
    have hl : lv_has ls 5 [(0, .ref (o 0)), (1, .int x1), (2, .int x2), (3, .int x3)] := lv_sub hl [0, 1, 2, 3] rfl
    exact J101 x1 x2 x3 (F 0) F A _ _ _ hl hP hD hS hf
  have L10 : ∀ (n : Nat) (x1 : Int32) (x2 : Int32) (x3 : Int32) (F : ST_F) (A : ST_A) (H : Heap) (locs : List Loc) (ls : Array Slot), lv_has ls 5 [(0, .ref (o 0)), (1, .int x1), (2, .int x2), (3, .int x3)] → va_P (dC, dI) vC (wM o cI F A) H → va_D (va_A (wM o cI Fa Aa) s.heap.size) (wM o cI F A) → va_S (va_A (wM o cI Fa Aa) s.heap.size) s.heap H locs → f_M_type_L10 n x1 x2 x3 F A = some (r0, F9, A9) → W p l e (headSpec (Cond.code y_M_type b_M_type 5 (some .int) :: wA) ({ frames := 0, cells := 0, slots := 0, locals := 0 } : Room)).room s m ([.ref (o 0), .int u1] : List Value).toArray below meth c H locs 0 0 (MQ below (cc_Qi (dC, dI) vC [(cI, .int)] (wM o cI Fa Aa) s.heap.size (wM o cI F9 A9) r0) ([.ref (o 0), .int u1] : List Value).toArray s 0 0 (va_A (wM o cI Fa Aa) s.heap.size)) (F0 m 10 ls []) := by
    intro n
    induction n with
    | zero => intro x1 x2 x3 F A H locs ls hl hP hD hS hf; cases hf
    | succ n ih =>
      intro x1 x2 x3 F A H locs ls hl hP hD hS hf
      rw [f_M_type_L10] at hf
      refine lv_iload_n hx hb d_M_type_10 rfl (lv_at hl 3 rfl) ?_
      refine lv_if_lt (tgt := 73) hx hb d_M_type_11 (by decide) (fun h11_1 => ?_) (fun h11_1 => ?_)
      · rw [if_pos h11_1] at hf
        refine lv_aload_n hx hb d_M_type_73 rfl (lv_at hl 0 rfl) ?_
        refine lv_aload_n hx hb d_M_type_74 rfl (lv_at hl 0 rfl) ?_
        refine va_get (D := (dC, dI)) (ci := 4) (v := .int (F 0)) (C := R_M) (T := T_M) (N := 29) hx hb hts in_M hown hK hP 0 rfl rfl 0 (by decide) (hts _ mw_503) (fun _ h9 => h9) rfl d_M_type_75 ?_
        refine lv_if_ne (tgt := 97) hx hb d_M_type_78 (by decide) (fun h78_2 => ?_) (fun h78_2 => ?_)
        · rw [if_neg h78_2] at hf
          have hl : lv_has ls 5 [(0, .ref (o 0)), (1, .int x1), (2, .int x2), (3, .int x3)] := lv_sub hl [0, 1, 2, 3] rfl
          exact J97 x1 x2 x3 F A _ _ _ hl hP hD hS hf
        · rw [if_pos h78_2] at hf
          refine lv_aload_n hx hb d_M_type_81 rfl (lv_at hl 0 rfl) ?_
          refine va_get (D := (dC, dI)) (ci := 4) (v := .int (F 1)) (C := R_M) (T := T_M) (N := 29) hx hb hts in_M hown hK hP 0 rfl rfl 1 (by decide) (hts _ mw_504) (fun _ h9 => h9) rfl d_M_type_82 ?_
          refine lv_iload_n hx hb d_M_type_85 rfl (lv_at hl 2 rfl) ?_
          refine lv_iadd hx hb d_M_type_86 ?_
          refine lv_sipush (v := 160) hx hb d_M_type_87 (by decide) ?_
          refine lv_icmp_le (tgt := 97) hx hb d_M_type_90 (by decide) (fun h90_6 => ?_) (fun h90_6 => ?_)
          · rw [if_pos h90_6] at hf
            have hl : lv_has ls 5 [(0, .ref (o 0)), (1, .int x1), (2, .int x2), (3, .int x3)] := lv_sub hl [0, 1, 2, 3] rfl
            exact J97 x1 x2 x3 F A _ _ _ hl hP hD hS hf
          · rw [if_neg h90_6] at hf
            refine lv_iconst (v := 2) hx hb d_M_type_93 (by decide) ?_
            refine lv_goto (tgt := 101) hx hb d_M_type_94 (by decide) ?_
            have hl : lv_has ls 5 [(0, .ref (o 0)), (1, .int x1), (2, .int x2), (3, .int x3)] := lv_sub hl [0, 1, 2, 3] rfl
            exact J101 x1 x2 x3 (2 : Int32) F A _ _ _ hl hP hD hS hf
      · rw [if_neg h11_1] at hf
        refine lv_iload_n hx hb d_M_type_14 rfl (lv_at hl 1 rfl) ?_
        refine lv_iload_n hx hb d_M_type_15 rfl (lv_at hl 3 rfl) ?_
        refine lv_ishr hx hb d_M_type_16 ?_
        refine lv_sipush (v := 255) hx hb d_M_type_17 (by decide) ?_
        refine lv_iand hx hb d_M_type_20 ?_
        refine lv_istore hx hb d_M_type_21 hl (by decide) rfl (fun ls hl => ?_)
        have hl : lv_has ls 5 [(4, .int ((x1 >>> (x3 &&& 31)) &&& (255 : Int32))), (0, .ref (o 0)), (1, .int x1), (2, .int x2), (3, .int x3)] := hl
        refine lv_aload_n hx hb d_M_type_23 rfl (lv_at hl 1 rfl) ?_
        refine lv_iload hx hb d_M_type_24 (lv_at hl 0 rfl) ?_
        refine lv_if_le (tgt := 47) hx hb d_M_type_26 (by decide) (fun h26_7 => ?_) (fun h26_7 => ?_)
        · rw [if_pos h26_7] at hf
          refine lv_aload_n hx hb d_M_type_47 rfl (lv_at hl 1 rfl) ?_
          refine va_get (D := (dC, dI)) (ci := 4) (v := .int (F 0)) (C := R_M) (T := T_M) (N := 29) hx hb hts in_M hown hK hP 0 rfl rfl 0 (by decide) (hts _ mw_503) (fun _ h9 => h9) rfl d_M_type_48 ?_
          refine va_put (D := (dC, dI)) (ci := 4) (v := .int (F 0)) (ty := .int) (C := R_M) (T := T_M) (N := 29) hx hb hts in_M ty_M ty_M_ok nm_M hown hK hP hD hS 0 rfl rfl 0 (by decide) (hts _ mw_503) (fun _ h9 => h9) rfl (by decide +kernel) rfl rfl (Nat.le_of_ble_eq_true rfl) d_M_type_51 (fun H locs hP hD hS => ?_)
          have hP : va_P (dC, dI) vC [((o 0), .inr (4, [.int (F 0), .int (F 1), .ref (o 1), .int (F 2), .ref (o 2), .ref (o 3), .ref (o 4), .ref (o 5), .ref (o 6), .int (F 3), .ref (o 7), .ref (o 8), .ref (o 9), .ref (o 10), .ref (o 11), .int (F 4), .int (F 5), .int (F 6), .ref (o 12), .ref (o 13), .int (F 7), .ref (o 14), .ref (o 15), .int (F 8), .int (F 9), .ref (o 16), .ref (o 17), .ref (o 18), .ref (o 19)])), ((o 1), .inl (cI, 160, .inl (A 0))), ((o 2), .inl (cI, 100, .inl (A 1))), ((o 3), .inl (cI, 100, .inl (A 2))), ((o 4), .inl (cI, 100, .inl (A 3))), ((o 5), .inl (cI, 3, .inl (A 4))), ((o 6), .inl (cI, 26, .inl (A 5))), ((o 7), .inl (cI, 100, .inl (A 6))), ((o 8), .inl (cI, 100, .inl (A 7))), ((o 9), .inl (cI, 100, .inl (A 8))), ((o 10), .inl (cI, 26, .inl (A 9))), ((o 11), .inl (cI, 104, .inl (A 10))), ((o 12), .inl (cI, 80, .inl (A 11))), ((o 13), .inl (cI, 320, .inl (A 12))), ((o 14), .inl (cI, 200, .inl (A 13))), ((o 15), .inl (cI, 200, .inl (A 14))), ((o 16), .inl (cI, 4, .inl (A 15))), ((o 17), .inl (cI, 32, .inl (A 16))), ((o 18), .inl (cI, 32, .inl (A 17))), ((o 19), .inl (cI, 100, .inl (A 18)))] H := hP
          have hD : va_D (va_A (wM o cI Fa Aa) s.heap.size) [((o 0), .inr (4, [.int (F 0), .int (F 1), .ref (o 1), .int (F 2), .ref (o 2), .ref (o 3), .ref (o 4), .ref (o 5), .ref (o 6), .int (F 3), .ref (o 7), .ref (o 8), .ref (o 9), .ref (o 10), .ref (o 11), .int (F 4), .int (F 5), .int (F 6), .ref (o 12), .ref (o 13), .int (F 7), .ref (o 14), .ref (o 15), .int (F 8), .int (F 9), .ref (o 16), .ref (o 17), .ref (o 18), .ref (o 19)])), ((o 1), .inl (cI, 160, .inl (A 0))), ((o 2), .inl (cI, 100, .inl (A 1))), ((o 3), .inl (cI, 100, .inl (A 2))), ((o 4), .inl (cI, 100, .inl (A 3))), ((o 5), .inl (cI, 3, .inl (A 4))), ((o 6), .inl (cI, 26, .inl (A 5))), ((o 7), .inl (cI, 100, .inl (A 6))), ((o 8), .inl (cI, 100, .inl (A 7))), ((o 9), .inl (cI, 100, .inl (A 8))), ((o 10), .inl (cI, 26, .inl (A 9))), ((o 11), .inl (cI, 104, .inl (A 10))), ((o 12), .inl (cI, 80, .inl (A 11))), ((o 13), .inl (cI, 320, .inl (A 12))), ((o 14), .inl (cI, 200, .inl (A 13))), ((o 15), .inl (cI, 200, .inl (A 14))), ((o 16), .inl (cI, 4, .inl (A 15))), ((o 17), .inl (cI, 32, .inl (A 16))), ((o 18), .inl (cI, 32, .inl (A 17))), ((o 19), .inl (cI, 100, .inl (A 18)))] := hD
          refine lv_iload hx hb d_M_type_54 (lv_at hl 0 rfl) ?_
          refine lv_if_le (tgt := 65) hx hb d_M_type_56 (by decide) (fun h56_8 => ?_) (fun h56_8 => ?_)
          · rw [if_pos h56_8] at hf
            refine lv_iload_n hx hb d_M_type_65 rfl (lv_at hl 3 rfl) ?_
            refine lv_istore_n hx hb d_M_type_66 rfl hl (by decide) rfl (fun ls hl => ?_)
            have hl : lv_has ls 5 [(2, .int x2), (4, .int ((x1 >>> (x3 &&& 31)) &&& (255 : Int32))), (0, .ref (o 0)), (1, .int x1), (3, .int x3)] := hl
            refine lv_iinc (k := 4) (v := (x3 + (-8 : Int32))) hx hb d_M_type_67 hl rfl (by rfl) (by decide) rfl (fun ls hl => ?_)
            have hl : lv_has ls 5 [(3, .int (x3 + (-8 : Int32))), (2, .int x2), (4, .int ((x1 >>> (x3 &&& 31)) &&& (255 : Int32))), (0, .ref (o 0)), (1, .int x1)] := hl
            refine lv_goto (tgt := 10) hx hb d_M_type_70 (by decide) ?_
            have hl : lv_has ls 5 [(0, .ref (o 0)), (1, .int x1), (2, .int x2), (3, .int (x3 + (-8 : Int32)))] := lv_sub hl [3, 4, 1, 0] rfl
            exact ih x1 x2 (x3 + (-8 : Int32)) (upd F 0 (F 0)) A _ _ _ hl hP hD hS hf
          · rw [if_neg h56_8] at hf
            refine lv_iload_n hx hb d_M_type_59 rfl (lv_at hl 3 rfl) ?_
            refine lv_iconst (v := 1) hx hb d_M_type_60 (by decide) ?_
            refine lv_iadd hx hb d_M_type_61 ?_
            refine lv_goto (tgt := 66) hx hb d_M_type_62 (by decide) ?_
            refine lv_istore_n hx hb d_M_type_66 rfl hl (by decide) rfl (fun ls hl => ?_)
            have hl : lv_has ls 5 [(2, .int (x2 + (1 : Int32))), (4, .int ((x1 >>> (x3 &&& 31)) &&& (255 : Int32))), (0, .ref (o 0)), (1, .int x1), (3, .int x3)] := hl
            refine lv_iinc (k := 4) (v := (x3 + (-8 : Int32))) hx hb d_M_type_67 hl rfl (by rfl) (by decide) rfl (fun ls hl => ?_)
            have hl : lv_has ls 5 [(3, .int (x3 + (-8 : Int32))), (2, .int (x2 + (1 : Int32))), (4, .int ((x1 >>> (x3 &&& 31)) &&& (255 : Int32))), (0, .ref (o 0)), (1, .int x1)] := hl
            refine lv_goto (tgt := 10) hx hb d_M_type_70 (by decide) ?_
            have hl : lv_has ls 5 [(0, .ref (o 0)), (1, .int x1), (2, .int (x2 + (1 : Int32))), (3, .int (x3 + (-8 : Int32)))] := lv_sub hl [3, 4, 1, 0] rfl
            exact ih x1 (x2 + (1 : Int32)) (x3 + (-8 : Int32)) (upd F 0 (F 0)) A _ _ _ hl hP hD hS hf
        · rw [if_neg h26_7] at hf
          refine lv_iload hx hb d_M_type_29 (lv_at hl 0 rfl) ?_
          refine lv_bipush (v := 33) hx hb d_M_type_31 (by decide) ?_
          refine lv_icmp_lt (tgt := 43) hx hb d_M_type_33 (by decide) (fun h33_9 => ?_) (fun h33_9 => ?_)
          · rw [if_pos h33_9] at hf
            refine lv_iconst (v := 1) hx hb d_M_type_43 (by decide) ?_
            refine lv_goto (tgt := 51) hx hb d_M_type_44 (by decide) ?_
            refine va_put (D := (dC, dI)) (ci := 4) (v := .int (1 : Int32)) (ty := .int) (C := R_M) (T := T_M) (N := 29) hx hb hts in_M ty_M ty_M_ok nm_M hown hK hP hD hS 0 rfl rfl 0 (by decide) (hts _ mw_503) (fun _ h9 => h9) rfl (by decide +kernel) rfl rfl (Nat.le_of_ble_eq_true rfl) d_M_type_51 (fun H locs hP hD hS => ?_)
            have hP : va_P (dC, dI) vC [((o 0), .inr (4, [.int (1 : Int32), .int (F 1), .ref (o 1), .int (F 2), .ref (o 2), .ref (o 3), .ref (o 4), .ref (o 5), .ref (o 6), .int (F 3), .ref (o 7), .ref (o 8), .ref (o 9), .ref (o 10), .ref (o 11), .int (F 4), .int (F 5), .int (F 6), .ref (o 12), .ref (o 13), .int (F 7), .ref (o 14), .ref (o 15), .int (F 8), .int (F 9), .ref (o 16), .ref (o 17), .ref (o 18), .ref (o 19)])), ((o 1), .inl (cI, 160, .inl (A 0))), ((o 2), .inl (cI, 100, .inl (A 1))), ((o 3), .inl (cI, 100, .inl (A 2))), ((o 4), .inl (cI, 100, .inl (A 3))), ((o 5), .inl (cI, 3, .inl (A 4))), ((o 6), .inl (cI, 26, .inl (A 5))), ((o 7), .inl (cI, 100, .inl (A 6))), ((o 8), .inl (cI, 100, .inl (A 7))), ((o 9), .inl (cI, 100, .inl (A 8))), ((o 10), .inl (cI, 26, .inl (A 9))), ((o 11), .inl (cI, 104, .inl (A 10))), ((o 12), .inl (cI, 80, .inl (A 11))), ((o 13), .inl (cI, 320, .inl (A 12))), ((o 14), .inl (cI, 200, .inl (A 13))), ((o 15), .inl (cI, 200, .inl (A 14))), ((o 16), .inl (cI, 4, .inl (A 15))), ((o 17), .inl (cI, 32, .inl (A 16))), ((o 18), .inl (cI, 32, .inl (A 17))), ((o 19), .inl (cI, 100, .inl (A 18)))] H := hP
            have hD : va_D (va_A (wM o cI Fa Aa) s.heap.size) [((o 0), .inr (4, [.int (1 : Int32), .int (F 1), .ref (o 1), .int (F 2), .ref (o 2), .ref (o 3), .ref (o 4), .ref (o 5), .ref (o 6), .int (F 3), .ref (o 7), .ref (o 8), .ref (o 9), .ref (o 10), .ref (o 11), .int (F 4), .int (F 5), .int (F 6), .ref (o 12), .ref (o 13), .int (F 7), .ref (o 14), .ref (o 15), .int (F 8), .int (F 9), .ref (o 16), .ref (o 17), .ref (o 18), .ref (o 19)])), ((o 1), .inl (cI, 160, .inl (A 0))), ((o 2), .inl (cI, 100, .inl (A 1))), ((o 3), .inl (cI, 100, .inl (A 2))), ((o 4), .inl (cI, 100, .inl (A 3))), ((o 5), .inl (cI, 3, .inl (A 4))), ((o 6), .inl (cI, 26, .inl (A 5))), ((o 7), .inl (cI, 100, .inl (A 6))), ((o 8), .inl (cI, 100, .inl (A 7))), ((o 9), .inl (cI, 100, .inl (A 8))), ((o 10), .inl (cI, 26, .inl (A 9))), ((o 11), .inl (cI, 104, .inl (A 10))), ((o 12), .inl (cI, 80, .inl (A 11))), ((o 13), .inl (cI, 320, .inl (A 12))), ((o 14), .inl (cI, 200, .inl (A 13))), ((o 15), .inl (cI, 200, .inl (A 14))), ((o 16), .inl (cI, 4, .inl (A 15))), ((o 17), .inl (cI, 32, .inl (A 16))), ((o 18), .inl (cI, 32, .inl (A 17))), ((o 19), .inl (cI, 100, .inl (A 18)))] := hD
            refine lv_iload hx hb d_M_type_54 (lv_at hl 0 rfl) ?_
            refine lv_if_le (tgt := 65) hx hb d_M_type_56 (by decide) (fun h56_10 => ?_) (fun h56_10 => ?_)
            · rw [if_pos h56_10] at hf
              refine lv_iload_n hx hb d_M_type_65 rfl (lv_at hl 3 rfl) ?_
              refine lv_istore_n hx hb d_M_type_66 rfl hl (by decide) rfl (fun ls hl => ?_)
              have hl : lv_has ls 5 [(2, .int x2), (4, .int ((x1 >>> (x3 &&& 31)) &&& (255 : Int32))), (0, .ref (o 0)), (1, .int x1), (3, .int x3)] := hl
              refine lv_iinc (k := 4) (v := (x3 + (-8 : Int32))) hx hb d_M_type_67 hl rfl (by rfl) (by decide) rfl (fun ls hl => ?_)
              have hl : lv_has ls 5 [(3, .int (x3 + (-8 : Int32))), (2, .int x2), (4, .int ((x1 >>> (x3 &&& 31)) &&& (255 : Int32))), (0, .ref (o 0)), (1, .int x1)] := hl
              refine lv_goto (tgt := 10) hx hb d_M_type_70 (by decide) ?_
              have hl : lv_has ls 5 [(0, .ref (o 0)), (1, .int x1), (2, .int x2), (3, .int (x3 + (-8 : Int32)))] := lv_sub hl [3, 4, 1, 0] rfl
              exact ih x1 x2 (x3 + (-8 : Int32)) (upd F 0 (1 : Int32)) A _ _ _ hl hP hD hS hf
            · rw [if_neg h56_10] at hf
              refine lv_iload_n hx hb d_M_type_59 rfl (lv_at hl 3 rfl) ?_
              refine lv_iconst (v := 1) hx hb d_M_type_60 (by decide) ?_
              refine lv_iadd hx hb d_M_type_61 ?_
              refine lv_goto (tgt := 66) hx hb d_M_type_62 (by decide) ?_
              refine lv_istore_n hx hb d_M_type_66 rfl hl (by decide) rfl (fun ls hl => ?_)
              have hl : lv_has ls 5 [(2, .int (x2 + (1 : Int32))), (4, .int ((x1 >>> (x3 &&& 31)) &&& (255 : Int32))), (0, .ref (o 0)), (1, .int x1), (3, .int x3)] := hl
              refine lv_iinc (k := 4) (v := (x3 + (-8 : Int32))) hx hb d_M_type_67 hl rfl (by rfl) (by decide) rfl (fun ls hl => ?_)
              have hl : lv_has ls 5 [(3, .int (x3 + (-8 : Int32))), (2, .int (x2 + (1 : Int32))), (4, .int ((x1 >>> (x3 &&& 31)) &&& (255 : Int32))), (0, .ref (o 0)), (1, .int x1)] := hl
              refine lv_goto (tgt := 10) hx hb d_M_type_70 (by decide) ?_
              have hl : lv_has ls 5 [(0, .ref (o 0)), (1, .int x1), (2, .int (x2 + (1 : Int32))), (3, .int (x3 + (-8 : Int32)))] := lv_sub hl [3, 4, 1, 0] rfl
              exact ih x1 (x2 + (1 : Int32)) (x3 + (-8 : Int32)) (upd F 0 (1 : Int32)) A _ _ _ hl hP hD hS hf
          · rw [if_neg h33_9] at hf
            refine lv_iload hx hb d_M_type_36 (lv_at hl 0 rfl) ?_
            refine lv_bipush (v := 126) hx hb d_M_type_38 (by decide) ?_
            refine lv_icmp_le (tgt := 47) hx hb d_M_type_40 (by decide) (fun h40_11 => ?_) (fun h40_11 => ?_)
            · rw [if_pos h40_11] at hf
              refine lv_aload_n hx hb d_M_type_47 rfl (lv_at hl 1 rfl) ?_
              refine va_get (D := (dC, dI)) (ci := 4) (v := .int (F 0)) (C := R_M) (T := T_M) (N := 29) hx hb hts in_M hown hK hP 0 rfl rfl 0 (by decide) (hts _ mw_503) (fun _ h9 => h9) rfl d_M_type_48 ?_
              refine va_put (D := (dC, dI)) (ci := 4) (v := .int (F 0)) (ty := .int) (C := R_M) (T := T_M) (N := 29) hx hb hts in_M ty_M ty_M_ok nm_M hown hK hP hD hS 0 rfl rfl 0 (by decide) (hts _ mw_503) (fun _ h9 => h9) rfl (by decide +kernel) rfl rfl (Nat.le_of_ble_eq_true rfl) d_M_type_51 (fun H locs hP hD hS => ?_)
              have hP : va_P (dC, dI) vC [((o 0), .inr (4, [.int (F 0), .int (F 1), .ref (o 1), .int (F 2), .ref (o 2), .ref (o 3), .ref (o 4), .ref (o 5), .ref (o 6), .int (F 3), .ref (o 7), .ref (o 8), .ref (o 9), .ref (o 10), .ref (o 11), .int (F 4), .int (F 5), .int (F 6), .ref (o 12), .ref (o 13), .int (F 7), .ref (o 14), .ref (o 15), .int (F 8), .int (F 9), .ref (o 16), .ref (o 17), .ref (o 18), .ref (o 19)])), ((o 1), .inl (cI, 160, .inl (A 0))), ((o 2), .inl (cI, 100, .inl (A 1))), ((o 3), .inl (cI, 100, .inl (A 2))), ((o 4), .inl (cI, 100, .inl (A 3))), ((o 5), .inl (cI, 3, .inl (A 4))), ((o 6), .inl (cI, 26, .inl (A 5))), ((o 7), .inl (cI, 100, .inl (A 6))), ((o 8), .inl (cI, 100, .inl (A 7))), ((o 9), .inl (cI, 100, .inl (A 8))), ((o 10), .inl (cI, 26, .inl (A 9))), ((o 11), .inl (cI, 104, .inl (A 10))), ((o 12), .inl (cI, 80, .inl (A 11))), ((o 13), .inl (cI, 320, .inl (A 12))), ((o 14), .inl (cI, 200, .inl (A 13))), ((o 15), .inl (cI, 200, .inl (A 14))), ((o 16), .inl (cI, 4, .inl (A 15))), ((o 17), .inl (cI, 32, .inl (A 16))), ((o 18), .inl (cI, 32, .inl (A 17))), ((o 19), .inl (cI, 100, .inl (A 18)))] H := hP
              have hD : va_D (va_A (wM o cI Fa Aa) s.heap.size) [((o 0), .inr (4, [.int (F 0), .int (F 1), .ref (o 1), .int (F 2), .ref (o 2), .ref (o 3), .ref (o 4), .ref (o 5), .ref (o 6), .int (F 3), .ref (o 7), .ref (o 8), .ref (o 9), .ref (o 10), .ref (o 11), .int (F 4), .int (F 5), .int (F 6), .ref (o 12), .ref (o 13), .int (F 7), .ref (o 14), .ref (o 15), .int (F 8), .int (F 9), .ref (o 16), .ref (o 17), .ref (o 18), .ref (o 19)])), ((o 1), .inl (cI, 160, .inl (A 0))), ((o 2), .inl (cI, 100, .inl (A 1))), ((o 3), .inl (cI, 100, .inl (A 2))), ((o 4), .inl (cI, 100, .inl (A 3))), ((o 5), .inl (cI, 3, .inl (A 4))), ((o 6), .inl (cI, 26, .inl (A 5))), ((o 7), .inl (cI, 100, .inl (A 6))), ((o 8), .inl (cI, 100, .inl (A 7))), ((o 9), .inl (cI, 100, .inl (A 8))), ((o 10), .inl (cI, 26, .inl (A 9))), ((o 11), .inl (cI, 104, .inl (A 10))), ((o 12), .inl (cI, 80, .inl (A 11))), ((o 13), .inl (cI, 320, .inl (A 12))), ((o 14), .inl (cI, 200, .inl (A 13))), ((o 15), .inl (cI, 200, .inl (A 14))), ((o 16), .inl (cI, 4, .inl (A 15))), ((o 17), .inl (cI, 32, .inl (A 16))), ((o 18), .inl (cI, 32, .inl (A 17))), ((o 19), .inl (cI, 100, .inl (A 18)))] := hD
              refine lv_iload hx hb d_M_type_54 (lv_at hl 0 rfl) ?_
              refine lv_if_le (tgt := 65) hx hb d_M_type_56 (by decide) (fun h56_12 => ?_) (fun h56_12 => ?_)
              · rw [if_pos h56_12] at hf
                refine lv_iload_n hx hb d_M_type_65 rfl (lv_at hl 3 rfl) ?_
                refine lv_istore_n hx hb d_M_type_66 rfl hl (by decide) rfl (fun ls hl => ?_)
                have hl : lv_has ls 5 [(2, .int x2), (4, .int ((x1 >>> (x3 &&& 31)) &&& (255 : Int32))), (0, .ref (o 0)), (1, .int x1), (3, .int x3)] := hl
                refine lv_iinc (k := 4) (v := (x3 + (-8 : Int32))) hx hb d_M_type_67 hl rfl (by rfl) (by decide) rfl (fun ls hl => ?_)
                have hl : lv_has ls 5 [(3, .int (x3 + (-8 : Int32))), (2, .int x2), (4, .int ((x1 >>> (x3 &&& 31)) &&& (255 : Int32))), (0, .ref (o 0)), (1, .int x1)] := hl
                refine lv_goto (tgt := 10) hx hb d_M_type_70 (by decide) ?_
                have hl : lv_has ls 5 [(0, .ref (o 0)), (1, .int x1), (2, .int x2), (3, .int (x3 + (-8 : Int32)))] := lv_sub hl [3, 4, 1, 0] rfl
                exact ih x1 x2 (x3 + (-8 : Int32)) (upd F 0 (F 0)) A _ _ _ hl hP hD hS hf
              · rw [if_neg h56_12] at hf
                refine lv_iload_n hx hb d_M_type_59 rfl (lv_at hl 3 rfl) ?_
                refine lv_iconst (v := 1) hx hb d_M_type_60 (by decide) ?_
                refine lv_iadd hx hb d_M_type_61 ?_
                refine lv_goto (tgt := 66) hx hb d_M_type_62 (by decide) ?_
                refine lv_istore_n hx hb d_M_type_66 rfl hl (by decide) rfl (fun ls hl => ?_)
                have hl : lv_has ls 5 [(2, .int (x2 + (1 : Int32))), (4, .int ((x1 >>> (x3 &&& 31)) &&& (255 : Int32))), (0, .ref (o 0)), (1, .int x1), (3, .int x3)] := hl
                refine lv_iinc (k := 4) (v := (x3 + (-8 : Int32))) hx hb d_M_type_67 hl rfl (by rfl) (by decide) rfl (fun ls hl => ?_)
                have hl : lv_has ls 5 [(3, .int (x3 + (-8 : Int32))), (2, .int (x2 + (1 : Int32))), (4, .int ((x1 >>> (x3 &&& 31)) &&& (255 : Int32))), (0, .ref (o 0)), (1, .int x1)] := hl
                refine lv_goto (tgt := 10) hx hb d_M_type_70 (by decide) ?_
                have hl : lv_has ls 5 [(0, .ref (o 0)), (1, .int x1), (2, .int (x2 + (1 : Int32))), (3, .int (x3 + (-8 : Int32)))] := lv_sub hl [3, 4, 1, 0] rfl
                exact ih x1 (x2 + (1 : Int32)) (x3 + (-8 : Int32)) (upd F 0 (F 0)) A _ _ _ hl hP hD hS hf
            · rw [if_neg h40_11] at hf
              refine lv_iconst (v := 1) hx hb d_M_type_43 (by decide) ?_
              refine lv_goto (tgt := 51) hx hb d_M_type_44 (by decide) ?_
              refine va_put (D := (dC, dI)) (ci := 4) (v := .int (1 : Int32)) (ty := .int) (C := R_M) (T := T_M) (N := 29) hx hb hts in_M ty_M ty_M_ok nm_M hown hK hP hD hS 0 rfl rfl 0 (by decide) (hts _ mw_503) (fun _ h9 => h9) rfl (by decide +kernel) rfl rfl (Nat.le_of_ble_eq_true rfl) d_M_type_51 (fun H locs hP hD hS => ?_)
              have hP : va_P (dC, dI) vC [((o 0), .inr (4, [.int (1 : Int32), .int (F 1), .ref (o 1), .int (F 2), .ref (o 2), .ref (o 3), .ref (o 4), .ref (o 5), .ref (o 6), .int (F 3), .ref (o 7), .ref (o 8), .ref (o 9), .ref (o 10), .ref (o 11), .int (F 4), .int (F 5), .int (F 6), .ref (o 12), .ref (o 13), .int (F 7), .ref (o 14), .ref (o 15), .int (F 8), .int (F 9), .ref (o 16), .ref (o 17), .ref (o 18), .ref (o 19)])), ((o 1), .inl (cI, 160, .inl (A 0))), ((o 2), .inl (cI, 100, .inl (A 1))), ((o 3), .inl (cI, 100, .inl (A 2))), ((o 4), .inl (cI, 100, .inl (A 3))), ((o 5), .inl (cI, 3, .inl (A 4))), ((o 6), .inl (cI, 26, .inl (A 5))), ((o 7), .inl (cI, 100, .inl (A 6))), ((o 8), .inl (cI, 100, .inl (A 7))), ((o 9), .inl (cI, 100, .inl (A 8))), ((o 10), .inl (cI, 26, .inl (A 9))), ((o 11), .inl (cI, 104, .inl (A 10))), ((o 12), .inl (cI, 80, .inl (A 11))), ((o 13), .inl (cI, 320, .inl (A 12))), ((o 14), .inl (cI, 200, .inl (A 13))), ((o 15), .inl (cI, 200, .inl (A 14))), ((o 16), .inl (cI, 4, .inl (A 15))), ((o 17), .inl (cI, 32, .inl (A 16))), ((o 18), .inl (cI, 32, .inl (A 17))), ((o 19), .inl (cI, 100, .inl (A 18)))] H := hP
              have hD : va_D (va_A (wM o cI Fa Aa) s.heap.size) [((o 0), .inr (4, [.int (1 : Int32), .int (F 1), .ref (o 1), .int (F 2), .ref (o 2), .ref (o 3), .ref (o 4), .ref (o 5), .ref (o 6), .int (F 3), .ref (o 7), .ref (o 8), .ref (o 9), .ref (o 10), .ref (o 11), .int (F 4), .int (F 5), .int (F 6), .ref (o 12), .ref (o 13), .int (F 7), .ref (o 14), .ref (o 15), .int (F 8), .int (F 9), .ref (o 16), .ref (o 17), .ref (o 18), .ref (o 19)])), ((o 1), .inl (cI, 160, .inl (A 0))), ((o 2), .inl (cI, 100, .inl (A 1))), ((o 3), .inl (cI, 100, .inl (A 2))), ((o 4), .inl (cI, 100, .inl (A 3))), ((o 5), .inl (cI, 3, .inl (A 4))), ((o 6), .inl (cI, 26, .inl (A 5))), ((o 7), .inl (cI, 100, .inl (A 6))), ((o 8), .inl (cI, 100, .inl (A 7))), ((o 9), .inl (cI, 100, .inl (A 8))), ((o 10), .inl (cI, 26, .inl (A 9))), ((o 11), .inl (cI, 104, .inl (A 10))), ((o 12), .inl (cI, 80, .inl (A 11))), ((o 13), .inl (cI, 320, .inl (A 12))), ((o 14), .inl (cI, 200, .inl (A 13))), ((o 15), .inl (cI, 200, .inl (A 14))), ((o 16), .inl (cI, 4, .inl (A 15))), ((o 17), .inl (cI, 32, .inl (A 16))), ((o 18), .inl (cI, 32, .inl (A 17))), ((o 19), .inl (cI, 100, .inl (A 18)))] := hD
              refine lv_iload hx hb d_M_type_54 (lv_at hl 0 rfl) ?_
              refine lv_if_le (tgt := 65) hx hb d_M_type_56 (by decide) (fun h56_13 => ?_) (fun h56_13 => ?_)
              · rw [if_pos h56_13] at hf
                refine lv_iload_n hx hb d_M_type_65 rfl (lv_at hl 3 rfl) ?_
                refine lv_istore_n hx hb d_M_type_66 rfl hl (by decide) rfl (fun ls hl => ?_)
                have hl : lv_has ls 5 [(2, .int x2), (4, .int ((x1 >>> (x3 &&& 31)) &&& (255 : Int32))), (0, .ref (o 0)), (1, .int x1), (3, .int x3)] := hl
                refine lv_iinc (k := 4) (v := (x3 + (-8 : Int32))) hx hb d_M_type_67 hl rfl (by rfl) (by decide) rfl (fun ls hl => ?_)
                have hl : lv_has ls 5 [(3, .int (x3 + (-8 : Int32))), (2, .int x2), (4, .int ((x1 >>> (x3 &&& 31)) &&& (255 : Int32))), (0, .ref (o 0)), (1, .int x1)] := hl
                refine lv_goto (tgt := 10) hx hb d_M_type_70 (by decide) ?_
                have hl : lv_has ls 5 [(0, .ref (o 0)), (1, .int x1), (2, .int x2), (3, .int (x3 + (-8 : Int32)))] := lv_sub hl [3, 4, 1, 0] rfl
                exact ih x1 x2 (x3 + (-8 : Int32)) (upd F 0 (1 : Int32)) A _ _ _ hl hP hD hS hf
              · rw [if_neg h56_13] at hf
                refine lv_iload_n hx hb d_M_type_59 rfl (lv_at hl 3 rfl) ?_
                refine lv_iconst (v := 1) hx hb d_M_type_60 (by decide) ?_
                refine lv_iadd hx hb d_M_type_61 ?_
                refine lv_goto (tgt := 66) hx hb d_M_type_62 (by decide) ?_
                refine lv_istore_n hx hb d_M_type_66 rfl hl (by decide) rfl (fun ls hl => ?_)
                have hl : lv_has ls 5 [(2, .int (x2 + (1 : Int32))), (4, .int ((x1 >>> (x3 &&& 31)) &&& (255 : Int32))), (0, .ref (o 0)), (1, .int x1), (3, .int x3)] := hl
                refine lv_iinc (k := 4) (v := (x3 + (-8 : Int32))) hx hb d_M_type_67 hl rfl (by rfl) (by decide) rfl (fun ls hl => ?_)
                have hl : lv_has ls 5 [(3, .int (x3 + (-8 : Int32))), (2, .int (x2 + (1 : Int32))), (4, .int ((x1 >>> (x3 &&& 31)) &&& (255 : Int32))), (0, .ref (o 0)), (1, .int x1)] := hl
                refine lv_goto (tgt := 10) hx hb d_M_type_70 (by decide) ?_
                have hl : lv_has ls 5 [(0, .ref (o 0)), (1, .int x1), (2, .int (x2 + (1 : Int32))), (3, .int (x3 + (-8 : Int32)))] := lv_sub hl [3, 4, 1, 0] rfl
                exact ih x1 (x2 + (1 : Int32)) (x3 + (-8 : Int32)) (upd F 0 (1 : Int32)) A _ _ _ hl hP hD hS hf
  rw [lg_entry_eq]
  generalize (lg_sl (([.ref (o 0), .int u1] : List Value)) ++ List.replicate (5 - (lg_sl (([.ref (o 0), .int u1] : List Value))).length) Slot.unset).toArray = ls at hl ⊢
  have hl : lv_has ls 5 [(0, .ref (o 0)), (1, .int u1)] := hl
  unfold f_M_type at hf
  refine lv_aload_n hx hb d_M_type_0 rfl (lv_at hl 0 rfl) ?_
  refine lv_iconst (v := 0) hx hb d_M_type_1 (by decide) ?_
  refine va_put (D := (dC, dI)) (ci := 4) (v := .int (0 : Int32)) (ty := .int) (C := R_M) (T := T_M) (N := 29) hx hb hts in_M ty_M ty_M_ok nm_M hown hK hP hD hS 0 rfl rfl 0 (by decide) (hts _ mw_503) (fun _ h9 => h9) rfl (by decide +kernel) rfl rfl (Nat.le_of_ble_eq_true rfl) d_M_type_2 (fun H locs hP hD hS => ?_)
  have hP : va_P (dC, dI) vC [((o 0), .inr (4, [.int (0 : Int32), .int (Fa 1), .ref (o 1), .int (Fa 2), .ref (o 2), .ref (o 3), .ref (o 4), .ref (o 5), .ref (o 6), .int (Fa 3), .ref (o 7), .ref (o 8), .ref (o 9), .ref (o 10), .ref (o 11), .int (Fa 4), .int (Fa 5), .int (Fa 6), .ref (o 12), .ref (o 13), .int (Fa 7), .ref (o 14), .ref (o 15), .int (Fa 8), .int (Fa 9), .ref (o 16), .ref (o 17), .ref (o 18), .ref (o 19)])), ((o 1), .inl (cI, 160, .inl (Aa 0))), ((o 2), .inl (cI, 100, .inl (Aa 1))), ((o 3), .inl (cI, 100, .inl (Aa 2))), ((o 4), .inl (cI, 100, .inl (Aa 3))), ((o 5), .inl (cI, 3, .inl (Aa 4))), ((o 6), .inl (cI, 26, .inl (Aa 5))), ((o 7), .inl (cI, 100, .inl (Aa 6))), ((o 8), .inl (cI, 100, .inl (Aa 7))), ((o 9), .inl (cI, 100, .inl (Aa 8))), ((o 10), .inl (cI, 26, .inl (Aa 9))), ((o 11), .inl (cI, 104, .inl (Aa 10))), ((o 12), .inl (cI, 80, .inl (Aa 11))), ((o 13), .inl (cI, 320, .inl (Aa 12))), ((o 14), .inl (cI, 200, .inl (Aa 13))), ((o 15), .inl (cI, 200, .inl (Aa 14))), ((o 16), .inl (cI, 4, .inl (Aa 15))), ((o 17), .inl (cI, 32, .inl (Aa 16))), ((o 18), .inl (cI, 32, .inl (Aa 17))), ((o 19), .inl (cI, 100, .inl (Aa 18)))] H := hP
  have hD : va_D (va_A (wM o cI Fa Aa) s.heap.size) [((o 0), .inr (4, [.int (0 : Int32), .int (Fa 1), .ref (o 1), .int (Fa 2), .ref (o 2), .ref (o 3), .ref (o 4), .ref (o 5), .ref (o 6), .int (Fa 3), .ref (o 7), .ref (o 8), .ref (o 9), .ref (o 10), .ref (o 11), .int (Fa 4), .int (Fa 5), .int (Fa 6), .ref (o 12), .ref (o 13), .int (Fa 7), .ref (o 14), .ref (o 15), .int (Fa 8), .int (Fa 9), .ref (o 16), .ref (o 17), .ref (o 18), .ref (o 19)])), ((o 1), .inl (cI, 160, .inl (Aa 0))), ((o 2), .inl (cI, 100, .inl (Aa 1))), ((o 3), .inl (cI, 100, .inl (Aa 2))), ((o 4), .inl (cI, 100, .inl (Aa 3))), ((o 5), .inl (cI, 3, .inl (Aa 4))), ((o 6), .inl (cI, 26, .inl (Aa 5))), ((o 7), .inl (cI, 100, .inl (Aa 6))), ((o 8), .inl (cI, 100, .inl (Aa 7))), ((o 9), .inl (cI, 100, .inl (Aa 8))), ((o 10), .inl (cI, 26, .inl (Aa 9))), ((o 11), .inl (cI, 104, .inl (Aa 10))), ((o 12), .inl (cI, 80, .inl (Aa 11))), ((o 13), .inl (cI, 320, .inl (Aa 12))), ((o 14), .inl (cI, 200, .inl (Aa 13))), ((o 15), .inl (cI, 200, .inl (Aa 14))), ((o 16), .inl (cI, 4, .inl (Aa 15))), ((o 17), .inl (cI, 32, .inl (Aa 16))), ((o 18), .inl (cI, 32, .inl (Aa 17))), ((o 19), .inl (cI, 100, .inl (Aa 18)))] := hD
  refine lv_iconst (v := 0) hx hb d_M_type_5 (by decide) ?_
  refine lv_istore_n hx hb d_M_type_6 rfl hl (by decide) rfl (fun ls hl => ?_)
  have hl : lv_has ls 5 [(2, .int (0 : Int32)), (0, .ref (o 0)), (1, .int u1)] := hl
  refine lv_bipush (v := 24) hx hb d_M_type_7 (by decide) ?_
  refine lv_istore_n hx hb d_M_type_9 rfl hl (by decide) rfl (fun ls hl => ?_)
  have hl : lv_has ls 5 [(3, .int (24 : Int32)), (2, .int (0 : Int32)), (0, .ref (o 0)), (1, .int u1)] := hl
  have hl : lv_has ls 5 [(0, .ref (o 0)), (1, .int u1), (2, .int (0 : Int32)), (3, .int (24 : Int32))] := lv_sub hl [2, 3, 1, 0] rfl
  exact L10 400 u1 (0 : Int32) (24 : Int32) (upd Fa 0 (0 : Int32)) Aa _ _ _ hl hP hD hS hf
def f_M_instruction_J27 (x1 : Int32) (x2 : Int32) (z0 : Int32) (F : ST_F) (A : ST_A) : Option (Int32 × ST_F × ST_A) := if z0 ≤ 0 then (if x2 = 0 then (ra_g x1 100 (some (((A 1) x1.toNatClampNeg), (upd F 0 z0), A))) else (if x2 = (1 : Int32) then (ra_g x1 100 (some (((A 2) x1.toNatClampNeg), (upd F 0 z0), A))) else (ra_g x1 100 (some (((A 3) x1.toNatClampNeg), (upd F 0 z0), A))))) else (some ((0 : Int32), (upd F 0 z0), A))
def f_M_instruction_J22 (x1 : Int32) (x2 : Int32) (F : ST_F) (A : ST_A) : Option (Int32 × ST_F × ST_A) := f_M_instruction_J27 x1 x2 (1 : Int32) F A
def f_M_instruction (u1 : Int32) (u2 : Int32) (Fa : ST_F) (Aa : ST_A) : Option (Int32 × ST_F × ST_A) := if u1 < 0 then (f_M_instruction_J22 u1 u2 Fa Aa) else (if (Fa 2) ≤ u1 then (f_M_instruction_J22 u1 u2 Fa Aa) else (if u2 < 0 then (f_M_instruction_J22 u1 u2 Fa Aa) else (if u2 ≤ (2 : Int32) then (f_M_instruction_J27 u1 u2 (0 : Int32) Fa Aa) else (f_M_instruction_J22 u1 u2 Fa Aa))))
set_option maxHeartbeats 4000000 in
set_option maxRecDepth 100000 in
theorem k_M_instruction (l : Launch) (dC : Nat → ClassId) (dI : Nat → Nat → Nat) (o : Nat → Nat) (cI : ClassId) (sz : Nat) (Fa : ST_F) (Aa : ST_A) (u1 : Int32) (u2 : Int32) (r0 : Int32) (F9 : ST_F) (A9 : ST_A) (hf : f_M_instruction u1 u2 Fa Aa = some (r0, F9, A9)) : cc_MetI l y_M_instruction (Cond.code y_M_instruction b_M_instruction 3 (some .int) :: wA) ({ frames := 0, cells := 0, slots := 0, locals := 0 } : Room) (dC, dI) vC [(cI, .int)] ([.ref (o 0), .int u1, .int u2] : List Value) (wM o cI Fa Aa) sz (wM o cI F9 A9) r0 := by
  refine Met.ofW (cc := b_M_instruction) (maxL := 3) (ret := (some .int)) (by decide) rfl ?_
  intro p e s m args below meth c s₁ B hml hv
  obtain ⟨rfl, hsz, hP, hK, hD0⟩ := hv
  have hx := B.exec
  have hb := B.bytes
  have hr := B.returns
  have hts := fun w h => atoms_spec (ws := (Cond.code y_M_instruction b_M_instruction 3 (some .int) :: wA)) B.pre w (List.mem_cons_of_mem _ h)
  have hown : s.vm.findClass R_M = some m.cls := findClass_of_methodNamed B.named
  have hlocks := B.notSynchronized
  subst hsz
  have hD := hD0.self (sz := s.heap.size)
  have hA : ∀ q : Nat, s.heap.size ≤ q → va_A (wM o cI Fa Aa) s.heap.size q := fun q h => Or.inr h
  have hS : va_S (va_A (wM o cI Fa Aa) s.heap.size) s.heap s.heap [] := va_S.rf
  have hl := lv_entry (([.ref (o 0), .int u1, .int u2] : List Value)) (n := 3) (Nat.le_of_ble_eq_true rfl)
  have J27 : ∀ (x1 : Int32) (x2 : Int32) (z0 : Int32) (F : ST_F) (A : ST_A) (H : Heap) (locs : List Loc) (ls : Array Slot), lv_has ls 3 [(0, .ref (o 0)), (1, .int x1), (2, .int x2)] → va_P (dC, dI) vC (wM o cI F A) H → va_D (va_A (wM o cI Fa Aa) s.heap.size) (wM o cI F A) → va_S (va_A (wM o cI Fa Aa) s.heap.size) s.heap H locs → f_M_instruction_J27 x1 x2 z0 F A = some (r0, F9, A9) → W p l e (headSpec (Cond.code y_M_instruction b_M_instruction 3 (some .int) :: wA) ({ frames := 0, cells := 0, slots := 0, locals := 0 } : Room)).room s m ([.ref (o 0), .int u1, .int u2] : List Value).toArray below meth c H locs 0 0 (MQ below (cc_Qi (dC, dI) vC [(cI, .int)] (wM o cI Fa Aa) s.heap.size (wM o cI F9 A9) r0) ([.ref (o 0), .int u1, .int u2] : List Value).toArray s 0 0 (va_A (wM o cI Fa Aa) s.heap.size)) (F0 m 27 ls [.int z0, .ref (o 0)]) := by
    intro x1 x2 z0 F A H locs ls hl hP hD hS hf
    unfold f_M_instruction_J27 at hf
    refine va_put (D := (dC, dI)) (ci := 4) (v := .int z0) (ty := .int) (C := R_M) (T := T_M) (N := 29) hx hb hts in_M ty_M ty_M_ok nm_M hown hK hP hD hS 0 rfl rfl 0 (by decide) (hts _ mw_503) (fun _ h9 => h9) rfl (by decide +kernel) rfl rfl (Nat.le_of_ble_eq_true rfl) d_M_instruction_27 (fun H locs hP hD hS => ?_)
    have hP : va_P (dC, dI) vC [((o 0), .inr (4, [.int z0, .int (F 1), .ref (o 1), .int (F 2), .ref (o 2), .ref (o 3), .ref (o 4), .ref (o 5), .ref (o 6), .int (F 3), .ref (o 7), .ref (o 8), .ref (o 9), .ref (o 10), .ref (o 11), .int (F 4), .int (F 5), .int (F 6), .ref (o 12), .ref (o 13), .int (F 7), .ref (o 14), .ref (o 15), .int (F 8), .int (F 9), .ref (o 16), .ref (o 17), .ref (o 18), .ref (o 19)])), ((o 1), .inl (cI, 160, .inl (A 0))), ((o 2), .inl (cI, 100, .inl (A 1))), ((o 3), .inl (cI, 100, .inl (A 2))), ((o 4), .inl (cI, 100, .inl (A 3))), ((o 5), .inl (cI, 3, .inl (A 4))), ((o 6), .inl (cI, 26, .inl (A 5))), ((o 7), .inl (cI, 100, .inl (A 6))), ((o 8), .inl (cI, 100, .inl (A 7))), ((o 9), .inl (cI, 100, .inl (A 8))), ((o 10), .inl (cI, 26, .inl (A 9))), ((o 11), .inl (cI, 104, .inl (A 10))), ((o 12), .inl (cI, 80, .inl (A 11))), ((o 13), .inl (cI, 320, .inl (A 12))), ((o 14), .inl (cI, 200, .inl (A 13))), ((o 15), .inl (cI, 200, .inl (A 14))), ((o 16), .inl (cI, 4, .inl (A 15))), ((o 17), .inl (cI, 32, .inl (A 16))), ((o 18), .inl (cI, 32, .inl (A 17))), ((o 19), .inl (cI, 100, .inl (A 18)))] H := hP
    have hD : va_D (va_A (wM o cI Fa Aa) s.heap.size) [((o 0), .inr (4, [.int z0, .int (F 1), .ref (o 1), .int (F 2), .ref (o 2), .ref (o 3), .ref (o 4), .ref (o 5), .ref (o 6), .int (F 3), .ref (o 7), .ref (o 8), .ref (o 9), .ref (o 10), .ref (o 11), .int (F 4), .int (F 5), .int (F 6), .ref (o 12), .ref (o 13), .int (F 7), .ref (o 14), .ref (o 15), .int (F 8), .int (F 9), .ref (o 16), .ref (o 17), .ref (o 18), .ref (o 19)])), ((o 1), .inl (cI, 160, .inl (A 0))), ((o 2), .inl (cI, 100, .inl (A 1))), ((o 3), .inl (cI, 100, .inl (A 2))), ((o 4), .inl (cI, 100, .inl (A 3))), ((o 5), .inl (cI, 3, .inl (A 4))), ((o 6), .inl (cI, 26, .inl (A 5))), ((o 7), .inl (cI, 100, .inl (A 6))), ((o 8), .inl (cI, 100, .inl (A 7))), ((o 9), .inl (cI, 100, .inl (A 8))), ((o 10), .inl (cI, 26, .inl (A 9))), ((o 11), .inl (cI, 104, .inl (A 10))), ((o 12), .inl (cI, 80, .inl (A 11))), ((o 13), .inl (cI, 320, .inl (A 12))), ((o 14), .inl (cI, 200, .inl (A 13))), ((o 15), .inl (cI, 200, .inl (A 14))), ((o 16), .inl (cI, 4, .inl (A 15))), ((o 17), .inl (cI, 32, .inl (A 16))), ((o 18), .inl (cI, 32, .inl (A 17))), ((o 19), .inl (cI, 100, .inl (A 18)))] := hD
    refine lv_aload_n hx hb d_M_instruction_30 rfl (lv_at hl 0 rfl) ?_
    refine va_get (D := (dC, dI)) (ci := 4) (v := .int z0) (C := R_M) (T := T_M) (N := 29) hx hb hts in_M hown hK hP 0 rfl rfl 0 (by decide) (hts _ mw_503) (fun _ h9 => h9) rfl d_M_instruction_31 ?_
    refine lv_if_le (tgt := 41) hx hb d_M_instruction_34 (by decide) (fun h34_2 => ?_) (fun h34_2 => ?_)
    · rw [if_pos h34_2] at hf
      refine lv_iload_n hx hb d_M_instruction_41 rfl (lv_at hl 2 rfl) ?_
      refine lv_if_ne (tgt := 54) hx hb d_M_instruction_42 (by decide) (fun h42_3 => ?_) (fun h42_3 => ?_)
      · rw [if_neg h42_3] at hf
        refine lv_iload_n hx hb d_M_instruction_54 rfl (lv_at hl 2 rfl) ?_
        refine lv_iconst (v := 1) hx hb d_M_instruction_55 (by decide) ?_
        refine lv_icmp_ne (tgt := 68) hx hb d_M_instruction_56 (by decide) (fun h56_4 => ?_) (fun h56_4 => ?_)
        · rw [if_neg h56_4] at hf
          refine lv_aload_n hx hb d_M_instruction_68 rfl (lv_at hl 0 rfl) ?_
          refine va_get (D := (dC, dI)) (ci := 4) (v := .ref (o 4)) (C := R_M) (T := T_M) (N := 29) hx hb hts in_M hown hK hP 0 rfl rfl 6 (by decide) (hts _ mw_509) (fun _ h9 => h9) rfl d_M_instruction_69 ?_
          refine lv_iload_n hx hb d_M_instruction_72 rfl (lv_at hl 1 rfl) ?_
          obtain ⟨hi, hf⟩ := ra_g_some hf
          refine va_iald hx hb hK hP 4 0 rfl rfl hi d_M_instruction_73 ?_
          cases hf
          exact W.iret hx hb hr (fun t ht hW => ⟨⟨_, (), rfl, rfl, by rw [ht]; exact hP, va_K.moved hW.alike hK, hD⟩, hS.F ht⟩) hS.2.2 d_M_instruction_74
        · rw [if_pos h56_4] at hf
          refine lv_aload_n hx hb d_M_instruction_59 rfl (lv_at hl 0 rfl) ?_
          refine va_get (D := (dC, dI)) (ci := 4) (v := .ref (o 3)) (C := R_M) (T := T_M) (N := 29) hx hb hts in_M hown hK hP 0 rfl rfl 5 (by decide) (hts _ mw_508) (fun _ h9 => h9) rfl d_M_instruction_60 ?_
          refine lv_iload_n hx hb d_M_instruction_63 rfl (lv_at hl 1 rfl) ?_
          obtain ⟨hi, hf⟩ := ra_g_some hf
          refine va_iald hx hb hK hP 3 0 rfl rfl hi d_M_instruction_64 ?_
          refine lv_goto (tgt := 74) hx hb d_M_instruction_65 (by decide) ?_
          cases hf
          exact W.iret hx hb hr (fun t ht hW => ⟨⟨_, (), rfl, rfl, by rw [ht]; exact hP, va_K.moved hW.alike hK, hD⟩, hS.F ht⟩) hS.2.2 d_M_instruction_74
      · rw [if_pos h42_3] at hf
        refine lv_aload_n hx hb d_M_instruction_45 rfl (lv_at hl 0 rfl) ?_
        refine va_get (D := (dC, dI)) (ci := 4) (v := .ref (o 2)) (C := R_M) (T := T_M) (N := 29) hx hb hts in_M hown hK hP 0 rfl rfl 4 (by decide) (hts _ mw_507) (fun _ h9 => h9) rfl d_M_instruction_46 ?_
        refine lv_iload_n hx hb d_M_instruction_49 rfl (lv_at hl 1 rfl) ?_
        obtain ⟨hi, hf⟩ := ra_g_some hf
        refine va_iald hx hb hK hP 2 0 rfl rfl hi d_M_instruction_50 ?_
        refine lv_goto (tgt := 74) hx hb d_M_instruction_51 (by decide) ?_
        cases hf
        exact W.iret hx hb hr (fun t ht hW => ⟨⟨_, (), rfl, rfl, by rw [ht]; exact hP, va_K.moved hW.alike hK, hD⟩, hS.F ht⟩) hS.2.2 d_M_instruction_74
    · rw [if_neg h34_2] at hf
      refine lv_iconst (v := 0) hx hb d_M_instruction_37 (by decide) ?_
      refine lv_goto (tgt := 74) hx hb d_M_instruction_38 (by decide) ?_
      cases hf
      exact W.iret hx hb hr (fun t ht hW => ⟨⟨_, (), rfl, rfl, by rw [ht]; exact hP, va_K.moved hW.alike hK, hD⟩, hS.F ht⟩) hS.2.2 d_M_instruction_74
  have J22 : ∀ (x1 : Int32) (x2 : Int32) (F : ST_F) (A : ST_A) (H : Heap) (locs : List Loc) (ls : Array Slot), lv_has ls 3 [(0, .ref (o 0)), (1, .int x1), (2, .int x2)] → va_P (dC, dI) vC (wM o cI F A) H → va_D (va_A (wM o cI Fa Aa) s.heap.size) (wM o cI F A) → va_S (va_A (wM o cI Fa Aa) s.heap.size) s.heap H locs → f_M_instruction_J22 x1 x2 F A = some (r0, F9, A9) → W p l e (headSpec (Cond.code y_M_instruction b_M_instruction 3 (some .int) :: wA) ({ frames := 0, cells := 0, slots := 0, locals := 0 } : Room)).room s m ([.ref (o 0), .int u1, .int u2] : List Value).toArray below meth c H locs 0 0 (MQ below (cc_Qi (dC, dI) vC [(cI, .int)] (wM o cI Fa Aa) s.heap.size (wM o cI F9 A9) r0) ([.ref (o 0), .int u1, .int u2] : List Value).toArray s 0 0 (va_A (wM o cI Fa Aa) s.heap.size)) (F0 m 22 ls [.ref (o 0)]) := by
    intro x1 x2 F A H locs ls hl hP hD hS hf
    unfold f_M_instruction_J22 at hf
    refine lv_iconst (v := 1) hx hb d_M_instruction_22 (by decide) ?_
    refine lv_goto (tgt := 27) hx hb d_M_instruction_23 (by decide) ?_
    have hl : lv_has ls 3 [(0, .ref (o 0)), (1, .int x1), (2, .int x2)] := lv_sub hl [0, 1, 2] rfl
    exact J27 x1 x2 (1 : Int32) F A _ _ _ hl hP hD hS hf
  rw [lg_entry_eq]
  generalize (lg_sl (([.ref (o 0), .int u1, .int u2] : List Value)) ++ List.replicate (3 - (lg_sl (([.ref (o 0), .int u1, .int u2] : List Value))).length) Slot.unset).toArray = ls at hl ⊢
  have hl : lv_has ls 3 [(0, .ref (o 0)), (1, .int u1), (2, .int u2)] := hl
  unfold f_M_instruction at hf
  refine lv_aload_n hx hb d_M_instruction_0 rfl (lv_at hl 0 rfl) ?_
  refine lv_iload_n hx hb d_M_instruction_1 rfl (lv_at hl 1 rfl) ?_
  refine lv_if_lt (tgt := 22) hx hb d_M_instruction_2 (by decide) (fun h2_1 => ?_) (fun h2_1 => ?_)
  · rw [if_pos h2_1] at hf
    have hl : lv_has ls 3 [(0, .ref (o 0)), (1, .int u1), (2, .int u2)] := lv_sub hl [0, 1, 2] rfl
    exact J22 u1 u2 Fa Aa _ _ _ hl hP hD hS hf
  · rw [if_neg h2_1] at hf
    refine lv_iload_n hx hb d_M_instruction_5 rfl (lv_at hl 1 rfl) ?_
    refine lv_aload_n hx hb d_M_instruction_6 rfl (lv_at hl 0 rfl) ?_
    refine va_get (D := (dC, dI)) (ci := 4) (v := .int (Fa 2)) (C := R_M) (T := T_M) (N := 29) hx hb hts in_M hown hK hP 0 rfl rfl 3 (by decide) (hts _ mw_506) (fun _ h9 => h9) rfl d_M_instruction_7 ?_
    refine lv_icmp_ge (tgt := 22) hx hb d_M_instruction_10 (by decide) (fun h10_5 => ?_) (fun h10_5 => ?_)
    · rw [if_pos h10_5] at hf
      have hl : lv_has ls 3 [(0, .ref (o 0)), (1, .int u1), (2, .int u2)] := lv_sub hl [0, 1, 2] rfl
      exact J22 u1 u2 Fa Aa _ _ _ hl hP hD hS hf
    · rw [if_neg h10_5] at hf
      refine lv_iload_n hx hb d_M_instruction_13 rfl (lv_at hl 2 rfl) ?_
      refine lv_if_lt (tgt := 22) hx hb d_M_instruction_14 (by decide) (fun h14_6 => ?_) (fun h14_6 => ?_)
      · rw [if_pos h14_6] at hf
        have hl : lv_has ls 3 [(0, .ref (o 0)), (1, .int u1), (2, .int u2)] := lv_sub hl [0, 1, 2] rfl
        exact J22 u1 u2 Fa Aa _ _ _ hl hP hD hS hf
      · rw [if_neg h14_6] at hf
        refine lv_iload_n hx hb d_M_instruction_17 rfl (lv_at hl 2 rfl) ?_
        refine lv_iconst (v := 2) hx hb d_M_instruction_18 (by decide) ?_
        refine lv_icmp_le (tgt := 26) hx hb d_M_instruction_19 (by decide) (fun h19_7 => ?_) (fun h19_7 => ?_)
        · rw [if_pos h19_7] at hf
          refine lv_iconst (v := 0) hx hb d_M_instruction_26 (by decide) ?_
          have hl : lv_has ls 3 [(0, .ref (o 0)), (1, .int u1), (2, .int u2)] := lv_sub hl [0, 1, 2] rfl
          exact J27 u1 u2 (0 : Int32) Fa Aa _ _ _ hl hP hD hS hf
        · rw [if_neg h19_7] at hf
          have hl : lv_has ls 3 [(0, .ref (o 0)), (1, .int u1), (2, .int u2)] := lv_sub hl [0, 1, 2] rfl
          exact J22 u1 u2 Fa Aa _ _ _ hl hP hD hS hf
def f_M_result_J26 (x1 : Int32) (z0 : Int32) (F : ST_F) (A : ST_A) : Option (Int32 × ST_F × ST_A) := if z0 ≤ 0 then (ra_g x1 3 (some (((A 4) x1.toNatClampNeg), (upd F 0 z0), A))) else (some ((0 : Int32), (upd F 0 z0), A))
def f_M_result_J21 (x1 : Int32) (F : ST_F) (A : ST_A) : Option (Int32 × ST_F × ST_A) := f_M_result_J26 x1 (2 : Int32) F A
def f_M_result (u1 : Int32) (Fa : ST_F) (Aa : ST_A) : Option (Int32 × ST_F × ST_A) := if (Fa 2) = 0 then (f_M_result_J26 u1 (1 : Int32) Fa Aa) else (if u1 < 0 then (f_M_result_J21 u1 Fa Aa) else (if u1 ≤ (2 : Int32) then (f_M_result_J26 u1 (0 : Int32) Fa Aa) else (f_M_result_J21 u1 Fa Aa)))
set_option maxHeartbeats 4000000 in
set_option maxRecDepth 100000 in
theorem k_M_result (l : Launch) (dC : Nat → ClassId) (dI : Nat → Nat → Nat) (o : Nat → Nat) (cI : ClassId) (sz : Nat) (Fa : ST_F) (Aa : ST_A) (u1 : Int32) (r0 : Int32) (F9 : ST_F) (A9 : ST_A) (hf : f_M_result u1 Fa Aa = some (r0, F9, A9)) : cc_MetI l y_M_result (Cond.code y_M_result b_M_result 2 (some .int) :: wA) ({ frames := 0, cells := 0, slots := 0, locals := 0 } : Room) (dC, dI) vC [(cI, .int)] ([.ref (o 0), .int u1] : List Value) (wM o cI Fa Aa) sz (wM o cI F9 A9) r0 := by
  refine Met.ofW (cc := b_M_result) (maxL := 2) (ret := (some .int)) (by decide) rfl ?_
  intro p e s m args below meth c s₁ B hml hv
  obtain ⟨rfl, hsz, hP, hK, hD0⟩ := hv
  have hx := B.exec
  have hb := B.bytes
  have hr := B.returns
  have hts := fun w h => atoms_spec (ws := (Cond.code y_M_result b_M_result 2 (some .int) :: wA)) B.pre w (List.mem_cons_of_mem _ h)
  have hown : s.vm.findClass R_M = some m.cls := findClass_of_methodNamed B.named
  have hlocks := B.notSynchronized
  subst hsz
  have hD := hD0.self (sz := s.heap.size)
  have hA : ∀ q : Nat, s.heap.size ≤ q → va_A (wM o cI Fa Aa) s.heap.size q := fun q h => Or.inr h
  have hS : va_S (va_A (wM o cI Fa Aa) s.heap.size) s.heap s.heap [] := va_S.rf
  have hl := lv_entry (([.ref (o 0), .int u1] : List Value)) (n := 2) (Nat.le_of_ble_eq_true rfl)
  have J26 : ∀ (x1 : Int32) (z0 : Int32) (F : ST_F) (A : ST_A) (H : Heap) (locs : List Loc) (ls : Array Slot), lv_has ls 2 [(0, .ref (o 0)), (1, .int x1)] → va_P (dC, dI) vC (wM o cI F A) H → va_D (va_A (wM o cI Fa Aa) s.heap.size) (wM o cI F A) → va_S (va_A (wM o cI Fa Aa) s.heap.size) s.heap H locs → f_M_result_J26 x1 z0 F A = some (r0, F9, A9) → W p l e (headSpec (Cond.code y_M_result b_M_result 2 (some .int) :: wA) ({ frames := 0, cells := 0, slots := 0, locals := 0 } : Room)).room s m ([.ref (o 0), .int u1] : List Value).toArray below meth c H locs 0 0 (MQ below (cc_Qi (dC, dI) vC [(cI, .int)] (wM o cI Fa Aa) s.heap.size (wM o cI F9 A9) r0) ([.ref (o 0), .int u1] : List Value).toArray s 0 0 (va_A (wM o cI Fa Aa) s.heap.size)) (F0 m 26 ls [.int z0, .ref (o 0)]) := by
    intro x1 z0 F A H locs ls hl hP hD hS hf
    unfold f_M_result_J26 at hf
    refine va_put (D := (dC, dI)) (ci := 4) (v := .int z0) (ty := .int) (C := R_M) (T := T_M) (N := 29) hx hb hts in_M ty_M ty_M_ok nm_M hown hK hP hD hS 0 rfl rfl 0 (by decide) (hts _ mw_503) (fun _ h9 => h9) rfl (by decide +kernel) rfl rfl (Nat.le_of_ble_eq_true rfl) d_M_result_26 (fun H locs hP hD hS => ?_)
    have hP : va_P (dC, dI) vC [((o 0), .inr (4, [.int z0, .int (F 1), .ref (o 1), .int (F 2), .ref (o 2), .ref (o 3), .ref (o 4), .ref (o 5), .ref (o 6), .int (F 3), .ref (o 7), .ref (o 8), .ref (o 9), .ref (o 10), .ref (o 11), .int (F 4), .int (F 5), .int (F 6), .ref (o 12), .ref (o 13), .int (F 7), .ref (o 14), .ref (o 15), .int (F 8), .int (F 9), .ref (o 16), .ref (o 17), .ref (o 18), .ref (o 19)])), ((o 1), .inl (cI, 160, .inl (A 0))), ((o 2), .inl (cI, 100, .inl (A 1))), ((o 3), .inl (cI, 100, .inl (A 2))), ((o 4), .inl (cI, 100, .inl (A 3))), ((o 5), .inl (cI, 3, .inl (A 4))), ((o 6), .inl (cI, 26, .inl (A 5))), ((o 7), .inl (cI, 100, .inl (A 6))), ((o 8), .inl (cI, 100, .inl (A 7))), ((o 9), .inl (cI, 100, .inl (A 8))), ((o 10), .inl (cI, 26, .inl (A 9))), ((o 11), .inl (cI, 104, .inl (A 10))), ((o 12), .inl (cI, 80, .inl (A 11))), ((o 13), .inl (cI, 320, .inl (A 12))), ((o 14), .inl (cI, 200, .inl (A 13))), ((o 15), .inl (cI, 200, .inl (A 14))), ((o 16), .inl (cI, 4, .inl (A 15))), ((o 17), .inl (cI, 32, .inl (A 16))), ((o 18), .inl (cI, 32, .inl (A 17))), ((o 19), .inl (cI, 100, .inl (A 18)))] H := hP
    have hD : va_D (va_A (wM o cI Fa Aa) s.heap.size) [((o 0), .inr (4, [.int z0, .int (F 1), .ref (o 1), .int (F 2), .ref (o 2), .ref (o 3), .ref (o 4), .ref (o 5), .ref (o 6), .int (F 3), .ref (o 7), .ref (o 8), .ref (o 9), .ref (o 10), .ref (o 11), .int (F 4), .int (F 5), .int (F 6), .ref (o 12), .ref (o 13), .int (F 7), .ref (o 14), .ref (o 15), .int (F 8), .int (F 9), .ref (o 16), .ref (o 17), .ref (o 18), .ref (o 19)])), ((o 1), .inl (cI, 160, .inl (A 0))), ((o 2), .inl (cI, 100, .inl (A 1))), ((o 3), .inl (cI, 100, .inl (A 2))), ((o 4), .inl (cI, 100, .inl (A 3))), ((o 5), .inl (cI, 3, .inl (A 4))), ((o 6), .inl (cI, 26, .inl (A 5))), ((o 7), .inl (cI, 100, .inl (A 6))), ((o 8), .inl (cI, 100, .inl (A 7))), ((o 9), .inl (cI, 100, .inl (A 8))), ((o 10), .inl (cI, 26, .inl (A 9))), ((o 11), .inl (cI, 104, .inl (A 10))), ((o 12), .inl (cI, 80, .inl (A 11))), ((o 13), .inl (cI, 320, .inl (A 12))), ((o 14), .inl (cI, 200, .inl (A 13))), ((o 15), .inl (cI, 200, .inl (A 14))), ((o 16), .inl (cI, 4, .inl (A 15))), ((o 17), .inl (cI, 32, .inl (A 16))), ((o 18), .inl (cI, 32, .inl (A 17))), ((o 19), .inl (cI, 100, .inl (A 18)))] := hD
    refine lv_aload_n hx hb d_M_result_29 rfl (lv_at hl 0 rfl) ?_
    refine va_get (D := (dC, dI)) (ci := 4) (v := .int z0) (C := R_M) (T := T_M) (N := 29) hx hb hts in_M hown hK hP 0 rfl rfl 0 (by decide) (hts _ mw_503) (fun _ h9 => h9) rfl d_M_result_30 ?_
    refine lv_if_le (tgt := 40) hx hb d_M_result_33 (by decide) (fun h33_3 => ?_) (fun h33_3 => ?_)
    · rw [if_pos h33_3] at hf
      refine lv_aload_n hx hb d_M_result_40 rfl (lv_at hl 0 rfl) ?_
      refine va_get (D := (dC, dI)) (ci := 4) (v := .ref (o 5)) (C := R_M) (T := T_M) (N := 29) hx hb hts in_M hown hK hP 0 rfl rfl 7 (by decide) (hts _ mw_510) (fun _ h9 => h9) rfl d_M_result_41 ?_
      refine lv_iload_n hx hb d_M_result_44 rfl (lv_at hl 1 rfl) ?_
      obtain ⟨hi, hf⟩ := ra_g_some hf
      refine va_iald hx hb hK hP 5 0 rfl rfl hi d_M_result_45 ?_
      cases hf
      exact W.iret hx hb hr (fun t ht hW => ⟨⟨_, (), rfl, rfl, by rw [ht]; exact hP, va_K.moved hW.alike hK, hD⟩, hS.F ht⟩) hS.2.2 d_M_result_46
    · rw [if_neg h33_3] at hf
      refine lv_iconst (v := 0) hx hb d_M_result_36 (by decide) ?_
      refine lv_goto (tgt := 46) hx hb d_M_result_37 (by decide) ?_
      cases hf
      exact W.iret hx hb hr (fun t ht hW => ⟨⟨_, (), rfl, rfl, by rw [ht]; exact hP, va_K.moved hW.alike hK, hD⟩, hS.F ht⟩) hS.2.2 d_M_result_46
  have J21 : ∀ (x1 : Int32) (F : ST_F) (A : ST_A) (H : Heap) (locs : List Loc) (ls : Array Slot), lv_has ls 2 [(0, .ref (o 0)), (1, .int x1)] → va_P (dC, dI) vC (wM o cI F A) H → va_D (va_A (wM o cI Fa Aa) s.heap.size) (wM o cI F A) → va_S (va_A (wM o cI Fa Aa) s.heap.size) s.heap H locs → f_M_result_J21 x1 F A = some (r0, F9, A9) → W p l e (headSpec (Cond.code y_M_result b_M_result 2 (some .int) :: wA) ({ frames := 0, cells := 0, slots := 0, locals := 0 } : Room)).room s m ([.ref (o 0), .int u1] : List Value).toArray below meth c H locs 0 0 (MQ below (cc_Qi (dC, dI) vC [(cI, .int)] (wM o cI Fa Aa) s.heap.size (wM o cI F9 A9) r0) ([.ref (o 0), .int u1] : List Value).toArray s 0 0 (va_A (wM o cI Fa Aa) s.heap.size)) (F0 m 21 ls [.ref (o 0)]) := by
    intro x1 F A H locs ls hl hP hD hS hf
    unfold f_M_result_J21 at hf
    refine lv_iconst (v := 2) hx hb d_M_result_21 (by decide) ?_
    refine lv_goto (tgt := 26) hx hb d_M_result_22 (by decide) ?_
    have hl : lv_has ls 2 [(0, .ref (o 0)), (1, .int x1)] := lv_sub hl [0, 1] rfl
    exact J26 x1 (2 : Int32) F A _ _ _ hl hP hD hS hf
  rw [lg_entry_eq]
  generalize (lg_sl (([.ref (o 0), .int u1] : List Value)) ++ List.replicate (2 - (lg_sl (([.ref (o 0), .int u1] : List Value))).length) Slot.unset).toArray = ls at hl ⊢
  have hl : lv_has ls 2 [(0, .ref (o 0)), (1, .int u1)] := hl
  unfold f_M_result at hf
  refine lv_aload_n hx hb d_M_result_0 rfl (lv_at hl 0 rfl) ?_
  refine lv_aload_n hx hb d_M_result_1 rfl (lv_at hl 0 rfl) ?_
  refine va_get (D := (dC, dI)) (ci := 4) (v := .int (Fa 2)) (C := R_M) (T := T_M) (N := 29) hx hb hts in_M hown hK hP 0 rfl rfl 3 (by decide) (hts _ mw_506) (fun _ h9 => h9) rfl d_M_result_2 ?_
  refine lv_if_ne (tgt := 12) hx hb d_M_result_5 (by decide) (fun h5_1 => ?_) (fun h5_1 => ?_)
  · rw [if_neg h5_1] at hf
    refine lv_iload_n hx hb d_M_result_12 rfl (lv_at hl 1 rfl) ?_
    refine lv_if_lt (tgt := 21) hx hb d_M_result_13 (by decide) (fun h13_2 => ?_) (fun h13_2 => ?_)
    · rw [if_pos h13_2] at hf
      have hl : lv_has ls 2 [(0, .ref (o 0)), (1, .int u1)] := lv_sub hl [0, 1] rfl
      exact J21 u1 Fa Aa _ _ _ hl hP hD hS hf
    · rw [if_neg h13_2] at hf
      refine lv_iload_n hx hb d_M_result_16 rfl (lv_at hl 1 rfl) ?_
      refine lv_iconst (v := 2) hx hb d_M_result_17 (by decide) ?_
      refine lv_icmp_le (tgt := 25) hx hb d_M_result_18 (by decide) (fun h18_4 => ?_) (fun h18_4 => ?_)
      · rw [if_pos h18_4] at hf
        refine lv_iconst (v := 0) hx hb d_M_result_25 (by decide) ?_
        have hl : lv_has ls 2 [(0, .ref (o 0)), (1, .int u1)] := lv_sub hl [0, 1] rfl
        exact J26 u1 (0 : Int32) Fa Aa _ _ _ hl hP hD hS hf
      · rw [if_neg h18_4] at hf
        have hl : lv_has ls 2 [(0, .ref (o 0)), (1, .int u1)] := lv_sub hl [0, 1] rfl
        exact J21 u1 Fa Aa _ _ _ hl hP hD hS hf
  · rw [if_pos h5_1] at hf
    refine lv_iconst (v := 1) hx hb d_M_result_8 (by decide) ?_
    refine lv_goto (tgt := 26) hx hb d_M_result_9 (by decide) ?_
    have hl : lv_has ls 2 [(0, .ref (o 0)), (1, .int u1)] := lv_sub hl [0, 1] rfl
    exact J26 u1 (1 : Int32) Fa Aa _ _ _ hl hP hD hS hf
def f_M_typeOf_J16 (x1 : Int32) (z0 : Int32) (F : ST_F) (A : ST_A) : Option (Int32 × ST_F × ST_A) := if z0 ≤ 0 then (ra_g x1 26 (some (((A 5) x1.toNatClampNeg), (upd F 0 z0), A))) else (some ((0 : Int32), (upd F 0 z0), A))
def f_M_typeOf_J11 (x1 : Int32) (F : ST_F) (A : ST_A) : Option (Int32 × ST_F × ST_A) := f_M_typeOf_J16 x1 (1 : Int32) F A
def f_M_typeOf (u1 : Int32) (Fa : ST_F) (Aa : ST_A) : Option (Int32 × ST_F × ST_A) := if u1 < 0 then (f_M_typeOf_J11 u1 Fa Aa) else (if u1 ≤ (25 : Int32) then (f_M_typeOf_J16 u1 (0 : Int32) Fa Aa) else (f_M_typeOf_J11 u1 Fa Aa))
set_option maxHeartbeats 4000000 in
set_option maxRecDepth 100000 in
theorem k_M_typeOf (l : Launch) (dC : Nat → ClassId) (dI : Nat → Nat → Nat) (o : Nat → Nat) (cI : ClassId) (sz : Nat) (Fa : ST_F) (Aa : ST_A) (u1 : Int32) (r0 : Int32) (F9 : ST_F) (A9 : ST_A) (hf : f_M_typeOf u1 Fa Aa = some (r0, F9, A9)) : cc_MetI l y_M_typeOf (Cond.code y_M_typeOf b_M_typeOf 2 (some .int) :: wA) ({ frames := 0, cells := 0, slots := 0, locals := 0 } : Room) (dC, dI) vC [(cI, .int)] ([.ref (o 0), .int u1] : List Value) (wM o cI Fa Aa) sz (wM o cI F9 A9) r0 := by
  refine Met.ofW (cc := b_M_typeOf) (maxL := 2) (ret := (some .int)) (by decide) rfl ?_
  intro p e s m args below meth c s₁ B hml hv
  obtain ⟨rfl, hsz, hP, hK, hD0⟩ := hv
  have hx := B.exec
  have hb := B.bytes
  have hr := B.returns
  have hts := fun w h => atoms_spec (ws := (Cond.code y_M_typeOf b_M_typeOf 2 (some .int) :: wA)) B.pre w (List.mem_cons_of_mem _ h)
  have hown : s.vm.findClass R_M = some m.cls := findClass_of_methodNamed B.named
  have hlocks := B.notSynchronized
  subst hsz
  have hD := hD0.self (sz := s.heap.size)
  have hA : ∀ q : Nat, s.heap.size ≤ q → va_A (wM o cI Fa Aa) s.heap.size q := fun q h => Or.inr h
  have hS : va_S (va_A (wM o cI Fa Aa) s.heap.size) s.heap s.heap [] := va_S.rf
  have hl := lv_entry (([.ref (o 0), .int u1] : List Value)) (n := 2) (Nat.le_of_ble_eq_true rfl)
  have J16 : ∀ (x1 : Int32) (z0 : Int32) (F : ST_F) (A : ST_A) (H : Heap) (locs : List Loc) (ls : Array Slot), lv_has ls 2 [(0, .ref (o 0)), (1, .int x1)] → va_P (dC, dI) vC (wM o cI F A) H → va_D (va_A (wM o cI Fa Aa) s.heap.size) (wM o cI F A) → va_S (va_A (wM o cI Fa Aa) s.heap.size) s.heap H locs → f_M_typeOf_J16 x1 z0 F A = some (r0, F9, A9) → W p l e (headSpec (Cond.code y_M_typeOf b_M_typeOf 2 (some .int) :: wA) ({ frames := 0, cells := 0, slots := 0, locals := 0 } : Room)).room s m ([.ref (o 0), .int u1] : List Value).toArray below meth c H locs 0 0 (MQ below (cc_Qi (dC, dI) vC [(cI, .int)] (wM o cI Fa Aa) s.heap.size (wM o cI F9 A9) r0) ([.ref (o 0), .int u1] : List Value).toArray s 0 0 (va_A (wM o cI Fa Aa) s.heap.size)) (F0 m 16 ls [.int z0, .ref (o 0)]) := by
    intro x1 z0 F A H locs ls hl hP hD hS hf
    unfold f_M_typeOf_J16 at hf
    refine va_put (D := (dC, dI)) (ci := 4) (v := .int z0) (ty := .int) (C := R_M) (T := T_M) (N := 29) hx hb hts in_M ty_M ty_M_ok nm_M hown hK hP hD hS 0 rfl rfl 0 (by decide) (hts _ mw_503) (fun _ h9 => h9) rfl (by decide +kernel) rfl rfl (Nat.le_of_ble_eq_true rfl) d_M_typeOf_16 (fun H locs hP hD hS => ?_)
    have hP : va_P (dC, dI) vC [((o 0), .inr (4, [.int z0, .int (F 1), .ref (o 1), .int (F 2), .ref (o 2), .ref (o 3), .ref (o 4), .ref (o 5), .ref (o 6), .int (F 3), .ref (o 7), .ref (o 8), .ref (o 9), .ref (o 10), .ref (o 11), .int (F 4), .int (F 5), .int (F 6), .ref (o 12), .ref (o 13), .int (F 7), .ref (o 14), .ref (o 15), .int (F 8), .int (F 9), .ref (o 16), .ref (o 17), .ref (o 18), .ref (o 19)])), ((o 1), .inl (cI, 160, .inl (A 0))), ((o 2), .inl (cI, 100, .inl (A 1))), ((o 3), .inl (cI, 100, .inl (A 2))), ((o 4), .inl (cI, 100, .inl (A 3))), ((o 5), .inl (cI, 3, .inl (A 4))), ((o 6), .inl (cI, 26, .inl (A 5))), ((o 7), .inl (cI, 100, .inl (A 6))), ((o 8), .inl (cI, 100, .inl (A 7))), ((o 9), .inl (cI, 100, .inl (A 8))), ((o 10), .inl (cI, 26, .inl (A 9))), ((o 11), .inl (cI, 104, .inl (A 10))), ((o 12), .inl (cI, 80, .inl (A 11))), ((o 13), .inl (cI, 320, .inl (A 12))), ((o 14), .inl (cI, 200, .inl (A 13))), ((o 15), .inl (cI, 200, .inl (A 14))), ((o 16), .inl (cI, 4, .inl (A 15))), ((o 17), .inl (cI, 32, .inl (A 16))), ((o 18), .inl (cI, 32, .inl (A 17))), ((o 19), .inl (cI, 100, .inl (A 18)))] H := hP
    have hD : va_D (va_A (wM o cI Fa Aa) s.heap.size) [((o 0), .inr (4, [.int z0, .int (F 1), .ref (o 1), .int (F 2), .ref (o 2), .ref (o 3), .ref (o 4), .ref (o 5), .ref (o 6), .int (F 3), .ref (o 7), .ref (o 8), .ref (o 9), .ref (o 10), .ref (o 11), .int (F 4), .int (F 5), .int (F 6), .ref (o 12), .ref (o 13), .int (F 7), .ref (o 14), .ref (o 15), .int (F 8), .int (F 9), .ref (o 16), .ref (o 17), .ref (o 18), .ref (o 19)])), ((o 1), .inl (cI, 160, .inl (A 0))), ((o 2), .inl (cI, 100, .inl (A 1))), ((o 3), .inl (cI, 100, .inl (A 2))), ((o 4), .inl (cI, 100, .inl (A 3))), ((o 5), .inl (cI, 3, .inl (A 4))), ((o 6), .inl (cI, 26, .inl (A 5))), ((o 7), .inl (cI, 100, .inl (A 6))), ((o 8), .inl (cI, 100, .inl (A 7))), ((o 9), .inl (cI, 100, .inl (A 8))), ((o 10), .inl (cI, 26, .inl (A 9))), ((o 11), .inl (cI, 104, .inl (A 10))), ((o 12), .inl (cI, 80, .inl (A 11))), ((o 13), .inl (cI, 320, .inl (A 12))), ((o 14), .inl (cI, 200, .inl (A 13))), ((o 15), .inl (cI, 200, .inl (A 14))), ((o 16), .inl (cI, 4, .inl (A 15))), ((o 17), .inl (cI, 32, .inl (A 16))), ((o 18), .inl (cI, 32, .inl (A 17))), ((o 19), .inl (cI, 100, .inl (A 18)))] := hD
    refine lv_aload_n hx hb d_M_typeOf_19 rfl (lv_at hl 0 rfl) ?_
    refine va_get (D := (dC, dI)) (ci := 4) (v := .int z0) (C := R_M) (T := T_M) (N := 29) hx hb hts in_M hown hK hP 0 rfl rfl 0 (by decide) (hts _ mw_503) (fun _ h9 => h9) rfl d_M_typeOf_20 ?_
    refine lv_if_le (tgt := 30) hx hb d_M_typeOf_23 (by decide) (fun h23_2 => ?_) (fun h23_2 => ?_)
    · rw [if_pos h23_2] at hf
      refine lv_aload_n hx hb d_M_typeOf_30 rfl (lv_at hl 0 rfl) ?_
      refine va_get (D := (dC, dI)) (ci := 4) (v := .ref (o 6)) (C := R_M) (T := T_M) (N := 29) hx hb hts in_M hown hK hP 0 rfl rfl 8 (by decide) (hts _ mw_511) (fun _ h9 => h9) rfl d_M_typeOf_31 ?_
      refine lv_iload_n hx hb d_M_typeOf_34 rfl (lv_at hl 1 rfl) ?_
      obtain ⟨hi, hf⟩ := ra_g_some hf
      refine va_iald hx hb hK hP 6 0 rfl rfl hi d_M_typeOf_35 ?_
      cases hf
      exact W.iret hx hb hr (fun t ht hW => ⟨⟨_, (), rfl, rfl, by rw [ht]; exact hP, va_K.moved hW.alike hK, hD⟩, hS.F ht⟩) hS.2.2 d_M_typeOf_36
    · rw [if_neg h23_2] at hf
      refine lv_iconst (v := 0) hx hb d_M_typeOf_26 (by decide) ?_
      refine lv_goto (tgt := 36) hx hb d_M_typeOf_27 (by decide) ?_
      cases hf
      exact W.iret hx hb hr (fun t ht hW => ⟨⟨_, (), rfl, rfl, by rw [ht]; exact hP, va_K.moved hW.alike hK, hD⟩, hS.F ht⟩) hS.2.2 d_M_typeOf_36
  have J11 : ∀ (x1 : Int32) (F : ST_F) (A : ST_A) (H : Heap) (locs : List Loc) (ls : Array Slot), lv_has ls 2 [(0, .ref (o 0)), (1, .int x1)] → va_P (dC, dI) vC (wM o cI F A) H → va_D (va_A (wM o cI Fa Aa) s.heap.size) (wM o cI F A) → va_S (va_A (wM o cI Fa Aa) s.heap.size) s.heap H locs → f_M_typeOf_J11 x1 F A = some (r0, F9, A9) → W p l e (headSpec (Cond.code y_M_typeOf b_M_typeOf 2 (some .int) :: wA) ({ frames := 0, cells := 0, slots := 0, locals := 0 } : Room)).room s m ([.ref (o 0), .int u1] : List Value).toArray below meth c H locs 0 0 (MQ below (cc_Qi (dC, dI) vC [(cI, .int)] (wM o cI Fa Aa) s.heap.size (wM o cI F9 A9) r0) ([.ref (o 0), .int u1] : List Value).toArray s 0 0 (va_A (wM o cI Fa Aa) s.heap.size)) (F0 m 11 ls [.ref (o 0)]) := by
    intro x1 F A H locs ls hl hP hD hS hf
    unfold f_M_typeOf_J11 at hf
    refine lv_iconst (v := 1) hx hb d_M_typeOf_11 (by decide) ?_
    refine lv_goto (tgt := 16) hx hb d_M_typeOf_12 (by decide) ?_
    have hl : lv_has ls 2 [(0, .ref (o 0)), (1, .int x1)] := lv_sub hl [0, 1] rfl
    exact J16 x1 (1 : Int32) F A _ _ _ hl hP hD hS hf
  rw [lg_entry_eq]
  generalize (lg_sl (([.ref (o 0), .int u1] : List Value)) ++ List.replicate (2 - (lg_sl (([.ref (o 0), .int u1] : List Value))).length) Slot.unset).toArray = ls at hl ⊢
  have hl : lv_has ls 2 [(0, .ref (o 0)), (1, .int u1)] := hl
  unfold f_M_typeOf at hf
  refine lv_aload_n hx hb d_M_typeOf_0 rfl (lv_at hl 0 rfl) ?_
  refine lv_iload_n hx hb d_M_typeOf_1 rfl (lv_at hl 1 rfl) ?_
  refine lv_if_lt (tgt := 11) hx hb d_M_typeOf_2 (by decide) (fun h2_1 => ?_) (fun h2_1 => ?_)
  · rw [if_pos h2_1] at hf
    have hl : lv_has ls 2 [(0, .ref (o 0)), (1, .int u1)] := lv_sub hl [0, 1] rfl
    exact J11 u1 Fa Aa _ _ _ hl hP hD hS hf
  · rw [if_neg h2_1] at hf
    refine lv_iload_n hx hb d_M_typeOf_5 rfl (lv_at hl 1 rfl) ?_
    refine lv_bipush (v := 25) hx hb d_M_typeOf_6 (by decide) ?_
    refine lv_icmp_le (tgt := 15) hx hb d_M_typeOf_8 (by decide) (fun h8_3 => ?_) (fun h8_3 => ?_)
    · rw [if_pos h8_3] at hf
      refine lv_iconst (v := 0) hx hb d_M_typeOf_15 (by decide) ?_
      have hl : lv_has ls 2 [(0, .ref (o 0)), (1, .int u1)] := lv_sub hl [0, 1] rfl
      exact J16 u1 (0 : Int32) Fa Aa _ _ _ hl hP hD hS hf
    · rw [if_neg h8_3] at hf
      have hl : lv_has ls 2 [(0, .ref (o 0)), (1, .int u1)] := lv_sub hl [0, 1] rfl
      exact J11 u1 Fa Aa _ _ _ hl hP hD hS hf
def f_M_evaluate_L3 : Nat → Int32 → Int32 → Int32 → Int32 → Int32 → Int32 → ST_F → ST_A → Option (ST_F × ST_A)
  | 0, _, _, _, _, _, _, _, _ => none
  | n + 1, x1, x2, x3, x4, x5, x6, F, A => if x1 < x6 then (some (F, A)) else (ra_g x6 100 (ra_g x6 100 (if ((A 1) x6.toNatClampNeg) = 0 then (ra_g x6 100 (f_M_evaluate_L3 n x1 x2 x3 x4 x5 (x6 + (1 : Int32)) F (va_up A 18 (upd (A 18) x6.toNatClampNeg ((A 2) x6.toNatClampNeg))))) else (ra_g x6 100 (if ((A 1) x6.toNatClampNeg) = (1 : Int32) then (if ((A 2) x6.toNatClampNeg) = 0 then (ra_g x6 100 (f_M_evaluate_L3 n x1 x2 x3 x4 x5 (x6 + (1 : Int32)) F (va_up A 18 (upd (A 18) x6.toNatClampNeg x2)))) else (if ((A 2) x6.toNatClampNeg) = (1 : Int32) then (ra_g x6 100 (f_M_evaluate_L3 n x1 x2 x3 x4 x5 (x6 + (1 : Int32)) F (va_up A 18 (upd (A 18) x6.toNatClampNeg x3)))) else (if ((A 2) x6.toNatClampNeg) = (2 : Int32) then (ra_g x6 100 (f_M_evaluate_L3 n x1 x2 x3 x4 x5 (x6 + (1 : Int32)) F (va_up A 18 (upd (A 18) x6.toNatClampNeg x4)))) else (ra_g x6 100 (f_M_evaluate_L3 n x1 x2 x3 x4 x5 (x6 + (1 : Int32)) F (va_up A 18 (upd (A 18) x6.toNatClampNeg (((x5 >>> (((40 : Int32) - ((8 : Int32) * ((A 2) x6.toNatClampNeg))) &&& 31)) &&& (255 : Int32)) * (256 : Int32))))))))) else (ra_g x6 100 (ra_g ((A 2) x6.toNatClampNeg) 100 (ra_g x6 100 (ra_g ((A 3) x6.toNatClampNeg) 100 ((f_M_done ((A 1) x6.toNatClampNeg) ((A 18) ((A 2) x6.toNatClampNeg).toNatClampNeg) ((A 18) ((A 3) x6.toNatClampNeg).toNatClampNeg)).bind (fun r4 => ra_g x6 100 (f_M_evaluate_L3 n x1 x2 x3 x4 x5 (x6 + (1 : Int32)) F (va_up A 18 (upd (A 18) x6.toNatClampNeg r4))))))))))))))
def f_M_evaluate (u1 : Int32) (u2 : Int32) (u3 : Int32) (u4 : Int32) (u5 : Int32) (Fa : ST_F) (Aa : ST_A) : Option (ST_F × ST_A) := f_M_evaluate_L3 400 u1 u2 u3 u4 u5 (0 : Int32) Fa Aa
set_option maxHeartbeats 4000000 in
set_option maxRecDepth 100000 in
theorem k_M_evaluate (l : Launch) (dC : Nat → ClassId) (dI : Nat → Nat → Nat) (o : Nat → Nat) (cI : ClassId) (sz : Nat) (Fa : ST_F) (Aa : ST_A) (u1 : Int32) (u2 : Int32) (u3 : Int32) (u4 : Int32) (u5 : Int32) (F9 : ST_F) (A9 : ST_A) (hf : f_M_evaluate u1 u2 u3 u4 u5 Fa Aa = some (F9, A9)) : cc_MetV l y_M_evaluate (Cond.code y_M_evaluate b_M_evaluate 8 none :: wA) ({ frames := 3, cells := 0, slots := 0, locals := 64 } : Room) (dC, dI) vC [(cI, .int)] ([.ref (o 0), .int u1, .int u2, .int u3, .int u4, .int u5] : List Value) (wM o cI Fa Aa) sz (wM o cI F9 A9) := by
  refine Met.ofW (cc := b_M_evaluate) (maxL := 8) (ret := none) (by decide) rfl ?_
  intro p e s m args below meth c s₁ B hml hv
  obtain ⟨rfl, hsz, hP, hK, hD0⟩ := hv
  have hx := B.exec
  have hb := B.bytes
  have hr := B.returns
  have hts := fun w h => atoms_spec (ws := (Cond.code y_M_evaluate b_M_evaluate 8 none :: wA)) B.pre w (List.mem_cons_of_mem _ h)
  have hown : s.vm.findClass R_M = some m.cls := findClass_of_methodNamed B.named
  have hlocks := B.notSynchronized
  subst hsz
  have hD := hD0.self (sz := s.heap.size)
  have hA : ∀ q : Nat, s.heap.size ≤ q → va_A (wM o cI Fa Aa) s.heap.size q := fun q h => Or.inr h
  have hS : va_S (va_A (wM o cI Fa Aa) s.heap.size) s.heap s.heap [] := va_S.rf
  have hl := lv_entry (([.ref (o 0), .int u1, .int u2, .int u3, .int u4, .int u5] : List Value)) (n := 8) (Nat.le_of_ble_eq_true rfl)
  have L3 : ∀ (n : Nat) (x1 : Int32) (x2 : Int32) (x3 : Int32) (x4 : Int32) (x5 : Int32) (x6 : Int32) (F : ST_F) (A : ST_A) (H : Heap) (locs : List Loc) (ls : Array Slot), lv_has ls 8 [(0, .ref (o 0)), (1, .int x1), (2, .int x2), (3, .int x3), (4, .int x4), (5, .int x5), (6, .int x6)] → va_P (dC, dI) vC (wM o cI F A) H → va_D (va_A (wM o cI Fa Aa) s.heap.size) (wM o cI F A) → va_S (va_A (wM o cI Fa Aa) s.heap.size) s.heap H locs → f_M_evaluate_L3 n x1 x2 x3 x4 x5 x6 F A = some (F9, A9) → W p l e (headSpec (Cond.code y_M_evaluate b_M_evaluate 8 none :: wA) ({ frames := 3, cells := 0, slots := 0, locals := 64 } : Room)).room s m ([.ref (o 0), .int u1, .int u2, .int u3, .int u4, .int u5] : List Value).toArray below meth c H locs 0 0 (MQ below (cc_Qv (dC, dI) vC [(cI, .int)] (wM o cI Fa Aa) s.heap.size (wM o cI F9 A9)) ([.ref (o 0), .int u1, .int u2, .int u3, .int u4, .int u5] : List Value).toArray s 0 0 (va_A (wM o cI Fa Aa) s.heap.size)) (F0 m 3 ls []) := by
    intro n
    induction n with
    | zero => intro x1 x2 x3 x4 x5 x6 F A H locs ls hl hP hD hS hf; cases hf
    | succ n ih =>
      intro x1 x2 x3 x4 x5 x6 F A H locs ls hl hP hD hS hf
      rw [f_M_evaluate_L3] at hf
      refine lv_iload hx hb d_M_evaluate_3 (lv_at hl 6 rfl) ?_
      refine lv_iload_n hx hb d_M_evaluate_5 rfl (lv_at hl 1 rfl) ?_
      refine lv_icmp_gt (tgt := 152) hx hb d_M_evaluate_6 (by decide) (fun h6_1 => ?_) (fun h6_1 => ?_)
      · rw [if_pos h6_1] at hf
        cases hf
        exact W.vret hx hb hr (fun t ht hW => ⟨⟨(), rfl, trivial, by rw [ht]; exact hP, va_K.moved hW.alike hK, hD⟩, hS.F ht⟩) hS.2.2 d_M_evaluate_152
      · rw [if_neg h6_1] at hf
        refine lv_aload_n hx hb d_M_evaluate_9 rfl (lv_at hl 0 rfl) ?_
        refine va_get (D := (dC, dI)) (ci := 4) (v := .ref (o 3)) (C := R_M) (T := T_M) (N := 29) hx hb hts in_M hown hK hP 0 rfl rfl 5 (by decide) (hts _ mw_508) (fun _ h9 => h9) rfl d_M_evaluate_10 ?_
        refine lv_iload hx hb d_M_evaluate_13 (lv_at hl 6 rfl) ?_
        obtain ⟨hi, hf⟩ := ra_g_some hf
        refine va_iald hx hb hK hP 3 0 rfl rfl hi d_M_evaluate_15 ?_
        refine lv_istore hx hb d_M_evaluate_16 hl (by decide) rfl (fun ls hl => ?_)
        have hl : lv_has ls 8 [(7, .int ((A 2) x6.toNatClampNeg)), (0, .ref (o 0)), (1, .int x1), (2, .int x2), (3, .int x3), (4, .int x4), (5, .int x5), (6, .int x6)] := hl
        refine lv_aload_n hx hb d_M_evaluate_18 rfl (lv_at hl 1 rfl) ?_
        refine va_get (D := (dC, dI)) (ci := 4) (v := .ref (o 2)) (C := R_M) (T := T_M) (N := 29) hx hb hts in_M hown hK hP 0 rfl rfl 4 (by decide) (hts _ mw_507) (fun _ h9 => h9) rfl d_M_evaluate_19 ?_
        refine lv_iload hx hb d_M_evaluate_22 (lv_at hl 7 rfl) ?_
        obtain ⟨hi, hf⟩ := ra_g_some hf
        refine va_iald hx hb hK hP 2 0 rfl rfl hi d_M_evaluate_24 ?_
        refine lv_if_ne (tgt := 40) hx hb d_M_evaluate_25 (by decide) (fun h25_2 => ?_) (fun h25_2 => ?_)
        · rw [if_neg h25_2] at hf
          refine lv_aload_n hx hb d_M_evaluate_40 rfl (lv_at hl 1 rfl) ?_
          refine va_get (D := (dC, dI)) (ci := 4) (v := .ref (o 2)) (C := R_M) (T := T_M) (N := 29) hx hb hts in_M hown hK hP 0 rfl rfl 4 (by decide) (hts _ mw_507) (fun _ h9 => h9) rfl d_M_evaluate_41 ?_
          refine lv_iload hx hb d_M_evaluate_44 (lv_at hl 7 rfl) ?_
          obtain ⟨hi, hf⟩ := ra_g_some hf
          refine va_iald hx hb hK hP 2 0 rfl rfl hi d_M_evaluate_46 ?_
          refine lv_iconst (v := 1) hx hb d_M_evaluate_47 (by decide) ?_
          refine lv_icmp_ne (tgt := 110) hx hb d_M_evaluate_48 (by decide) (fun h48_3 => ?_) (fun h48_3 => ?_)
          · rw [if_neg h48_3] at hf
            refine lv_aload_n hx hb d_M_evaluate_110 rfl (lv_at hl 1 rfl) ?_
            refine va_get (D := (dC, dI)) (ci := 4) (v := .ref (o 19)) (C := R_M) (T := T_M) (N := 29) hx hb hts in_M hown hK hP 0 rfl rfl 28 (by decide) (hts _ mw_531) (fun _ h9 => h9) rfl d_M_evaluate_111 ?_
            refine lv_iload hx hb d_M_evaluate_114 (lv_at hl 7 rfl) ?_
            refine lv_aload_n hx hb d_M_evaluate_116 rfl (lv_at hl 1 rfl) ?_
            refine va_get (D := (dC, dI)) (ci := 4) (v := .ref (o 2)) (C := R_M) (T := T_M) (N := 29) hx hb hts in_M hown hK hP 0 rfl rfl 4 (by decide) (hts _ mw_507) (fun _ h9 => h9) rfl d_M_evaluate_117 ?_
            refine lv_iload hx hb d_M_evaluate_120 (lv_at hl 7 rfl) ?_
            obtain ⟨hi, hf⟩ := ra_g_some hf
            refine va_iald hx hb hK hP 2 0 rfl rfl hi d_M_evaluate_122 ?_
            refine lv_aload_n hx hb d_M_evaluate_123 rfl (lv_at hl 1 rfl) ?_
            refine va_get (D := (dC, dI)) (ci := 4) (v := .ref (o 19)) (C := R_M) (T := T_M) (N := 29) hx hb hts in_M hown hK hP 0 rfl rfl 28 (by decide) (hts _ mw_531) (fun _ h9 => h9) rfl d_M_evaluate_124 ?_
            refine lv_iload hx hb d_M_evaluate_127 (lv_at hl 0 rfl) ?_
            obtain ⟨hi, hf⟩ := ra_g_some hf
            refine va_iald hx hb hK hP 19 0 rfl rfl hi d_M_evaluate_129 ?_
            refine lv_aload_n hx hb d_M_evaluate_130 rfl (lv_at hl 1 rfl) ?_
            refine va_get (D := (dC, dI)) (ci := 4) (v := .ref (o 19)) (C := R_M) (T := T_M) (N := 29) hx hb hts in_M hown hK hP 0 rfl rfl 28 (by decide) (hts _ mw_531) (fun _ h9 => h9) rfl d_M_evaluate_131 ?_
            refine lv_aload_n hx hb d_M_evaluate_134 rfl (lv_at hl 1 rfl) ?_
            refine va_get (D := (dC, dI)) (ci := 4) (v := .ref (o 4)) (C := R_M) (T := T_M) (N := 29) hx hb hts in_M hown hK hP 0 rfl rfl 6 (by decide) (hts _ mw_509) (fun _ h9 => h9) rfl d_M_evaluate_135 ?_
            refine lv_iload hx hb d_M_evaluate_138 (lv_at hl 7 rfl) ?_
            obtain ⟨hi, hf⟩ := ra_g_some hf
            refine va_iald hx hb hK hP 4 0 rfl rfl hi d_M_evaluate_140 ?_
            obtain ⟨hi, hf⟩ := ra_g_some hf
            refine va_iald hx hb hK hP 19 0 rfl rfl hi d_M_evaluate_141 ?_
            obtain ⟨r4, hc, hf⟩ := Option.bind_eq_some_iff.mp hf
            refine cc_calls (va_runS (As := [.int ((A 1) x6.toNatClampNeg), .int ((A 18) ((A 2) x6.toNatClampNeg).toNatClampNeg), .int ((A 18) ((A 3) x6.toNatClampNeg).toNatClampNeg)]) (rest := [.int x6, .ref (o 19)]) ⟨hx, hb, hml, hown, hts⟩ (k_M_done l ((A 1) x6.toNatClampNeg) ((A 18) ((A 2) x6.toNatClampNeg).toNatClampNeg) ((A 18) ((A 3) x6.toNatClampNeg).toNatClampNeg) r4 hc) (cw_S 3 hts mw_756 mw_757 mw_5 mw_758 rfl rfl hd_M_done ⟨Nat.le_of_ble_eq_true rfl, Nat.le_of_ble_eq_true rfl⟩) cc_preS rfl rfl hl.1 rfl (lv_room (Nat.le_of_ble_eq_true rfl)) d_M_evaluate_142 ⟨Nat.zero_le _, Nat.zero_le _⟩) ?_
            obtain ⟨hi, hf⟩ := ra_g_some hf
            refine va_iast hx hb hK hP hD hS 19 0 rfl rfl hi d_M_evaluate_145 (fun H locs hP hD hS => ?_)
            have hP : va_P (dC, dI) vC [((o 0), .inr (4, [.int (F 0), .int (F 1), .ref (o 1), .int (F 2), .ref (o 2), .ref (o 3), .ref (o 4), .ref (o 5), .ref (o 6), .int (F 3), .ref (o 7), .ref (o 8), .ref (o 9), .ref (o 10), .ref (o 11), .int (F 4), .int (F 5), .int (F 6), .ref (o 12), .ref (o 13), .int (F 7), .ref (o 14), .ref (o 15), .int (F 8), .int (F 9), .ref (o 16), .ref (o 17), .ref (o 18), .ref (o 19)])), ((o 1), .inl (cI, 160, .inl (A 0))), ((o 2), .inl (cI, 100, .inl (A 1))), ((o 3), .inl (cI, 100, .inl (A 2))), ((o 4), .inl (cI, 100, .inl (A 3))), ((o 5), .inl (cI, 3, .inl (A 4))), ((o 6), .inl (cI, 26, .inl (A 5))), ((o 7), .inl (cI, 100, .inl (A 6))), ((o 8), .inl (cI, 100, .inl (A 7))), ((o 9), .inl (cI, 100, .inl (A 8))), ((o 10), .inl (cI, 26, .inl (A 9))), ((o 11), .inl (cI, 104, .inl (A 10))), ((o 12), .inl (cI, 80, .inl (A 11))), ((o 13), .inl (cI, 320, .inl (A 12))), ((o 14), .inl (cI, 200, .inl (A 13))), ((o 15), .inl (cI, 200, .inl (A 14))), ((o 16), .inl (cI, 4, .inl (A 15))), ((o 17), .inl (cI, 32, .inl (A 16))), ((o 18), .inl (cI, 32, .inl (A 17))), ((o 19), .inl (cI, 100, .inl (upd (A 18) x6.toNatClampNeg r4)))] H := hP
            have hD : va_D (va_A (wM o cI Fa Aa) s.heap.size) [((o 0), .inr (4, [.int (F 0), .int (F 1), .ref (o 1), .int (F 2), .ref (o 2), .ref (o 3), .ref (o 4), .ref (o 5), .ref (o 6), .int (F 3), .ref (o 7), .ref (o 8), .ref (o 9), .ref (o 10), .ref (o 11), .int (F 4), .int (F 5), .int (F 6), .ref (o 12), .ref (o 13), .int (F 7), .ref (o 14), .ref (o 15), .int (F 8), .int (F 9), .ref (o 16), .ref (o 17), .ref (o 18), .ref (o 19)])), ((o 1), .inl (cI, 160, .inl (A 0))), ((o 2), .inl (cI, 100, .inl (A 1))), ((o 3), .inl (cI, 100, .inl (A 2))), ((o 4), .inl (cI, 100, .inl (A 3))), ((o 5), .inl (cI, 3, .inl (A 4))), ((o 6), .inl (cI, 26, .inl (A 5))), ((o 7), .inl (cI, 100, .inl (A 6))), ((o 8), .inl (cI, 100, .inl (A 7))), ((o 9), .inl (cI, 100, .inl (A 8))), ((o 10), .inl (cI, 26, .inl (A 9))), ((o 11), .inl (cI, 104, .inl (A 10))), ((o 12), .inl (cI, 80, .inl (A 11))), ((o 13), .inl (cI, 320, .inl (A 12))), ((o 14), .inl (cI, 200, .inl (A 13))), ((o 15), .inl (cI, 200, .inl (A 14))), ((o 16), .inl (cI, 4, .inl (A 15))), ((o 17), .inl (cI, 32, .inl (A 16))), ((o 18), .inl (cI, 32, .inl (A 17))), ((o 19), .inl (cI, 100, .inl (upd (A 18) x6.toNatClampNeg r4)))] := hD
            refine lv_iinc (k := 7) (v := (x6 + (1 : Int32))) hx hb d_M_evaluate_146 hl rfl (by rfl) (by decide) rfl (fun ls hl => ?_)
            have hl : lv_has ls 8 [(6, .int (x6 + (1 : Int32))), (7, .int ((A 2) x6.toNatClampNeg)), (0, .ref (o 0)), (1, .int x1), (2, .int x2), (3, .int x3), (4, .int x4), (5, .int x5)] := hl
            refine lv_goto (tgt := 3) hx hb d_M_evaluate_149 (by decide) ?_
            have hl : lv_has ls 8 [(0, .ref (o 0)), (1, .int x1), (2, .int x2), (3, .int x3), (4, .int x4), (5, .int x5), (6, .int (x6 + (1 : Int32)))] := lv_sub hl [2, 3, 4, 5, 6, 7, 0] rfl
            exact ih x1 x2 x3 x4 x5 (x6 + (1 : Int32)) F (va_up A 18 (upd (A 18) x6.toNatClampNeg r4)) _ _ _ hl hP hD hS hf
          · rw [if_pos h48_3] at hf
            refine lv_aload_n hx hb d_M_evaluate_51 rfl (lv_at hl 1 rfl) ?_
            refine va_get (D := (dC, dI)) (ci := 4) (v := .ref (o 19)) (C := R_M) (T := T_M) (N := 29) hx hb hts in_M hown hK hP 0 rfl rfl 28 (by decide) (hts _ mw_531) (fun _ h9 => h9) rfl d_M_evaluate_52 ?_
            refine lv_iload hx hb d_M_evaluate_55 (lv_at hl 7 rfl) ?_
            refine lv_iload hx hb d_M_evaluate_57 (lv_at hl 0 rfl) ?_
            refine lv_if_ne (tgt := 66) hx hb d_M_evaluate_59 (by decide) (fun h59_5 => ?_) (fun h59_5 => ?_)
            · rw [if_neg h59_5] at hf
              refine lv_iload hx hb d_M_evaluate_66 (lv_at hl 0 rfl) ?_
              refine lv_iconst (v := 1) hx hb d_M_evaluate_68 (by decide) ?_
              refine lv_icmp_ne (tgt := 76) hx hb d_M_evaluate_69 (by decide) (fun h69_6 => ?_) (fun h69_6 => ?_)
              · rw [if_neg h69_6] at hf
                refine lv_iload hx hb d_M_evaluate_76 (lv_at hl 0 rfl) ?_
                refine lv_iconst (v := 2) hx hb d_M_evaluate_78 (by decide) ?_
                refine lv_icmp_ne (tgt := 87) hx hb d_M_evaluate_79 (by decide) (fun h79_7 => ?_) (fun h79_7 => ?_)
                · rw [if_neg h79_7] at hf
                  refine lv_iload hx hb d_M_evaluate_87 (lv_at hl 6 rfl) ?_
                  refine lv_bipush (v := 40) hx hb d_M_evaluate_89 (by decide) ?_
                  refine lv_bipush (v := 8) hx hb d_M_evaluate_91 (by decide) ?_
                  refine lv_iload hx hb d_M_evaluate_93 (lv_at hl 0 rfl) ?_
                  refine lv_imul hx hb d_M_evaluate_95 ?_
                  refine lv_isub hx hb d_M_evaluate_96 ?_
                  refine lv_ishr hx hb d_M_evaluate_97 ?_
                  refine lv_sipush (v := 255) hx hb d_M_evaluate_98 (by decide) ?_
                  refine lv_iand hx hb d_M_evaluate_101 ?_
                  refine lv_sipush (v := 256) hx hb d_M_evaluate_102 (by decide) ?_
                  refine lv_imul hx hb d_M_evaluate_105 ?_
                  obtain ⟨hi, hf⟩ := ra_g_some hf
                  refine va_iast hx hb hK hP hD hS 19 0 rfl rfl hi d_M_evaluate_106 (fun H locs hP hD hS => ?_)
                  have hP : va_P (dC, dI) vC [((o 0), .inr (4, [.int (F 0), .int (F 1), .ref (o 1), .int (F 2), .ref (o 2), .ref (o 3), .ref (o 4), .ref (o 5), .ref (o 6), .int (F 3), .ref (o 7), .ref (o 8), .ref (o 9), .ref (o 10), .ref (o 11), .int (F 4), .int (F 5), .int (F 6), .ref (o 12), .ref (o 13), .int (F 7), .ref (o 14), .ref (o 15), .int (F 8), .int (F 9), .ref (o 16), .ref (o 17), .ref (o 18), .ref (o 19)])), ((o 1), .inl (cI, 160, .inl (A 0))), ((o 2), .inl (cI, 100, .inl (A 1))), ((o 3), .inl (cI, 100, .inl (A 2))), ((o 4), .inl (cI, 100, .inl (A 3))), ((o 5), .inl (cI, 3, .inl (A 4))), ((o 6), .inl (cI, 26, .inl (A 5))), ((o 7), .inl (cI, 100, .inl (A 6))), ((o 8), .inl (cI, 100, .inl (A 7))), ((o 9), .inl (cI, 100, .inl (A 8))), ((o 10), .inl (cI, 26, .inl (A 9))), ((o 11), .inl (cI, 104, .inl (A 10))), ((o 12), .inl (cI, 80, .inl (A 11))), ((o 13), .inl (cI, 320, .inl (A 12))), ((o 14), .inl (cI, 200, .inl (A 13))), ((o 15), .inl (cI, 200, .inl (A 14))), ((o 16), .inl (cI, 4, .inl (A 15))), ((o 17), .inl (cI, 32, .inl (A 16))), ((o 18), .inl (cI, 32, .inl (A 17))), ((o 19), .inl (cI, 100, .inl (upd (A 18) x6.toNatClampNeg (((x5 >>> (((40 : Int32) - ((8 : Int32) * ((A 2) x6.toNatClampNeg))) &&& 31)) &&& (255 : Int32)) * (256 : Int32)))))] H := hP
                  have hD : va_D (va_A (wM o cI Fa Aa) s.heap.size) [((o 0), .inr (4, [.int (F 0), .int (F 1), .ref (o 1), .int (F 2), .ref (o 2), .ref (o 3), .ref (o 4), .ref (o 5), .ref (o 6), .int (F 3), .ref (o 7), .ref (o 8), .ref (o 9), .ref (o 10), .ref (o 11), .int (F 4), .int (F 5), .int (F 6), .ref (o 12), .ref (o 13), .int (F 7), .ref (o 14), .ref (o 15), .int (F 8), .int (F 9), .ref (o 16), .ref (o 17), .ref (o 18), .ref (o 19)])), ((o 1), .inl (cI, 160, .inl (A 0))), ((o 2), .inl (cI, 100, .inl (A 1))), ((o 3), .inl (cI, 100, .inl (A 2))), ((o 4), .inl (cI, 100, .inl (A 3))), ((o 5), .inl (cI, 3, .inl (A 4))), ((o 6), .inl (cI, 26, .inl (A 5))), ((o 7), .inl (cI, 100, .inl (A 6))), ((o 8), .inl (cI, 100, .inl (A 7))), ((o 9), .inl (cI, 100, .inl (A 8))), ((o 10), .inl (cI, 26, .inl (A 9))), ((o 11), .inl (cI, 104, .inl (A 10))), ((o 12), .inl (cI, 80, .inl (A 11))), ((o 13), .inl (cI, 320, .inl (A 12))), ((o 14), .inl (cI, 200, .inl (A 13))), ((o 15), .inl (cI, 200, .inl (A 14))), ((o 16), .inl (cI, 4, .inl (A 15))), ((o 17), .inl (cI, 32, .inl (A 16))), ((o 18), .inl (cI, 32, .inl (A 17))), ((o 19), .inl (cI, 100, .inl (upd (A 18) x6.toNatClampNeg (((x5 >>> (((40 : Int32) - ((8 : Int32) * ((A 2) x6.toNatClampNeg))) &&& 31)) &&& (255 : Int32)) * (256 : Int32)))))] := hD
                  refine lv_goto (tgt := 146) hx hb d_M_evaluate_107 (by decide) ?_
                  refine lv_iinc (k := 7) (v := (x6 + (1 : Int32))) hx hb d_M_evaluate_146 hl rfl (by rfl) (by decide) rfl (fun ls hl => ?_)
                  have hl : lv_has ls 8 [(6, .int (x6 + (1 : Int32))), (7, .int ((A 2) x6.toNatClampNeg)), (0, .ref (o 0)), (1, .int x1), (2, .int x2), (3, .int x3), (4, .int x4), (5, .int x5)] := hl
                  refine lv_goto (tgt := 3) hx hb d_M_evaluate_149 (by decide) ?_
                  have hl : lv_has ls 8 [(0, .ref (o 0)), (1, .int x1), (2, .int x2), (3, .int x3), (4, .int x4), (5, .int x5), (6, .int (x6 + (1 : Int32)))] := lv_sub hl [2, 3, 4, 5, 6, 7, 0] rfl
                  exact ih x1 x2 x3 x4 x5 (x6 + (1 : Int32)) F (va_up A 18 (upd (A 18) x6.toNatClampNeg (((x5 >>> (((40 : Int32) - ((8 : Int32) * ((A 2) x6.toNatClampNeg))) &&& 31)) &&& (255 : Int32)) * (256 : Int32)))) _ _ _ hl hP hD hS hf
                · rw [if_pos h79_7] at hf
                  refine lv_iload hx hb d_M_evaluate_82 (lv_at hl 5 rfl) ?_
                  refine lv_goto (tgt := 106) hx hb d_M_evaluate_84 (by decide) ?_
                  obtain ⟨hi, hf⟩ := ra_g_some hf
                  refine va_iast hx hb hK hP hD hS 19 0 rfl rfl hi d_M_evaluate_106 (fun H locs hP hD hS => ?_)
                  have hP : va_P (dC, dI) vC [((o 0), .inr (4, [.int (F 0), .int (F 1), .ref (o 1), .int (F 2), .ref (o 2), .ref (o 3), .ref (o 4), .ref (o 5), .ref (o 6), .int (F 3), .ref (o 7), .ref (o 8), .ref (o 9), .ref (o 10), .ref (o 11), .int (F 4), .int (F 5), .int (F 6), .ref (o 12), .ref (o 13), .int (F 7), .ref (o 14), .ref (o 15), .int (F 8), .int (F 9), .ref (o 16), .ref (o 17), .ref (o 18), .ref (o 19)])), ((o 1), .inl (cI, 160, .inl (A 0))), ((o 2), .inl (cI, 100, .inl (A 1))), ((o 3), .inl (cI, 100, .inl (A 2))), ((o 4), .inl (cI, 100, .inl (A 3))), ((o 5), .inl (cI, 3, .inl (A 4))), ((o 6), .inl (cI, 26, .inl (A 5))), ((o 7), .inl (cI, 100, .inl (A 6))), ((o 8), .inl (cI, 100, .inl (A 7))), ((o 9), .inl (cI, 100, .inl (A 8))), ((o 10), .inl (cI, 26, .inl (A 9))), ((o 11), .inl (cI, 104, .inl (A 10))), ((o 12), .inl (cI, 80, .inl (A 11))), ((o 13), .inl (cI, 320, .inl (A 12))), ((o 14), .inl (cI, 200, .inl (A 13))), ((o 15), .inl (cI, 200, .inl (A 14))), ((o 16), .inl (cI, 4, .inl (A 15))), ((o 17), .inl (cI, 32, .inl (A 16))), ((o 18), .inl (cI, 32, .inl (A 17))), ((o 19), .inl (cI, 100, .inl (upd (A 18) x6.toNatClampNeg x4)))] H := hP
                  have hD : va_D (va_A (wM o cI Fa Aa) s.heap.size) [((o 0), .inr (4, [.int (F 0), .int (F 1), .ref (o 1), .int (F 2), .ref (o 2), .ref (o 3), .ref (o 4), .ref (o 5), .ref (o 6), .int (F 3), .ref (o 7), .ref (o 8), .ref (o 9), .ref (o 10), .ref (o 11), .int (F 4), .int (F 5), .int (F 6), .ref (o 12), .ref (o 13), .int (F 7), .ref (o 14), .ref (o 15), .int (F 8), .int (F 9), .ref (o 16), .ref (o 17), .ref (o 18), .ref (o 19)])), ((o 1), .inl (cI, 160, .inl (A 0))), ((o 2), .inl (cI, 100, .inl (A 1))), ((o 3), .inl (cI, 100, .inl (A 2))), ((o 4), .inl (cI, 100, .inl (A 3))), ((o 5), .inl (cI, 3, .inl (A 4))), ((o 6), .inl (cI, 26, .inl (A 5))), ((o 7), .inl (cI, 100, .inl (A 6))), ((o 8), .inl (cI, 100, .inl (A 7))), ((o 9), .inl (cI, 100, .inl (A 8))), ((o 10), .inl (cI, 26, .inl (A 9))), ((o 11), .inl (cI, 104, .inl (A 10))), ((o 12), .inl (cI, 80, .inl (A 11))), ((o 13), .inl (cI, 320, .inl (A 12))), ((o 14), .inl (cI, 200, .inl (A 13))), ((o 15), .inl (cI, 200, .inl (A 14))), ((o 16), .inl (cI, 4, .inl (A 15))), ((o 17), .inl (cI, 32, .inl (A 16))), ((o 18), .inl (cI, 32, .inl (A 17))), ((o 19), .inl (cI, 100, .inl (upd (A 18) x6.toNatClampNeg x4)))] := hD
                  refine lv_goto (tgt := 146) hx hb d_M_evaluate_107 (by decide) ?_
                  refine lv_iinc (k := 7) (v := (x6 + (1 : Int32))) hx hb d_M_evaluate_146 hl rfl (by rfl) (by decide) rfl (fun ls hl => ?_)
                  have hl : lv_has ls 8 [(6, .int (x6 + (1 : Int32))), (7, .int ((A 2) x6.toNatClampNeg)), (0, .ref (o 0)), (1, .int x1), (2, .int x2), (3, .int x3), (4, .int x4), (5, .int x5)] := hl
                  refine lv_goto (tgt := 3) hx hb d_M_evaluate_149 (by decide) ?_
                  have hl : lv_has ls 8 [(0, .ref (o 0)), (1, .int x1), (2, .int x2), (3, .int x3), (4, .int x4), (5, .int x5), (6, .int (x6 + (1 : Int32)))] := lv_sub hl [2, 3, 4, 5, 6, 7, 0] rfl
                  exact ih x1 x2 x3 x4 x5 (x6 + (1 : Int32)) F (va_up A 18 (upd (A 18) x6.toNatClampNeg x4)) _ _ _ hl hP hD hS hf
              · rw [if_pos h69_6] at hf
                refine lv_iload_n hx hb d_M_evaluate_72 rfl (lv_at hl 4 rfl) ?_
                refine lv_goto (tgt := 106) hx hb d_M_evaluate_73 (by decide) ?_
                obtain ⟨hi, hf⟩ := ra_g_some hf
                refine va_iast hx hb hK hP hD hS 19 0 rfl rfl hi d_M_evaluate_106 (fun H locs hP hD hS => ?_)
                have hP : va_P (dC, dI) vC [((o 0), .inr (4, [.int (F 0), .int (F 1), .ref (o 1), .int (F 2), .ref (o 2), .ref (o 3), .ref (o 4), .ref (o 5), .ref (o 6), .int (F 3), .ref (o 7), .ref (o 8), .ref (o 9), .ref (o 10), .ref (o 11), .int (F 4), .int (F 5), .int (F 6), .ref (o 12), .ref (o 13), .int (F 7), .ref (o 14), .ref (o 15), .int (F 8), .int (F 9), .ref (o 16), .ref (o 17), .ref (o 18), .ref (o 19)])), ((o 1), .inl (cI, 160, .inl (A 0))), ((o 2), .inl (cI, 100, .inl (A 1))), ((o 3), .inl (cI, 100, .inl (A 2))), ((o 4), .inl (cI, 100, .inl (A 3))), ((o 5), .inl (cI, 3, .inl (A 4))), ((o 6), .inl (cI, 26, .inl (A 5))), ((o 7), .inl (cI, 100, .inl (A 6))), ((o 8), .inl (cI, 100, .inl (A 7))), ((o 9), .inl (cI, 100, .inl (A 8))), ((o 10), .inl (cI, 26, .inl (A 9))), ((o 11), .inl (cI, 104, .inl (A 10))), ((o 12), .inl (cI, 80, .inl (A 11))), ((o 13), .inl (cI, 320, .inl (A 12))), ((o 14), .inl (cI, 200, .inl (A 13))), ((o 15), .inl (cI, 200, .inl (A 14))), ((o 16), .inl (cI, 4, .inl (A 15))), ((o 17), .inl (cI, 32, .inl (A 16))), ((o 18), .inl (cI, 32, .inl (A 17))), ((o 19), .inl (cI, 100, .inl (upd (A 18) x6.toNatClampNeg x3)))] H := hP
                have hD : va_D (va_A (wM o cI Fa Aa) s.heap.size) [((o 0), .inr (4, [.int (F 0), .int (F 1), .ref (o 1), .int (F 2), .ref (o 2), .ref (o 3), .ref (o 4), .ref (o 5), .ref (o 6), .int (F 3), .ref (o 7), .ref (o 8), .ref (o 9), .ref (o 10), .ref (o 11), .int (F 4), .int (F 5), .int (F 6), .ref (o 12), .ref (o 13), .int (F 7), .ref (o 14), .ref (o 15), .int (F 8), .int (F 9), .ref (o 16), .ref (o 17), .ref (o 18), .ref (o 19)])), ((o 1), .inl (cI, 160, .inl (A 0))), ((o 2), .inl (cI, 100, .inl (A 1))), ((o 3), .inl (cI, 100, .inl (A 2))), ((o 4), .inl (cI, 100, .inl (A 3))), ((o 5), .inl (cI, 3, .inl (A 4))), ((o 6), .inl (cI, 26, .inl (A 5))), ((o 7), .inl (cI, 100, .inl (A 6))), ((o 8), .inl (cI, 100, .inl (A 7))), ((o 9), .inl (cI, 100, .inl (A 8))), ((o 10), .inl (cI, 26, .inl (A 9))), ((o 11), .inl (cI, 104, .inl (A 10))), ((o 12), .inl (cI, 80, .inl (A 11))), ((o 13), .inl (cI, 320, .inl (A 12))), ((o 14), .inl (cI, 200, .inl (A 13))), ((o 15), .inl (cI, 200, .inl (A 14))), ((o 16), .inl (cI, 4, .inl (A 15))), ((o 17), .inl (cI, 32, .inl (A 16))), ((o 18), .inl (cI, 32, .inl (A 17))), ((o 19), .inl (cI, 100, .inl (upd (A 18) x6.toNatClampNeg x3)))] := hD
                refine lv_goto (tgt := 146) hx hb d_M_evaluate_107 (by decide) ?_
                refine lv_iinc (k := 7) (v := (x6 + (1 : Int32))) hx hb d_M_evaluate_146 hl rfl (by rfl) (by decide) rfl (fun ls hl => ?_)
                have hl : lv_has ls 8 [(6, .int (x6 + (1 : Int32))), (7, .int ((A 2) x6.toNatClampNeg)), (0, .ref (o 0)), (1, .int x1), (2, .int x2), (3, .int x3), (4, .int x4), (5, .int x5)] := hl
                refine lv_goto (tgt := 3) hx hb d_M_evaluate_149 (by decide) ?_
                have hl : lv_has ls 8 [(0, .ref (o 0)), (1, .int x1), (2, .int x2), (3, .int x3), (4, .int x4), (5, .int x5), (6, .int (x6 + (1 : Int32)))] := lv_sub hl [2, 3, 4, 5, 6, 7, 0] rfl
                exact ih x1 x2 x3 x4 x5 (x6 + (1 : Int32)) F (va_up A 18 (upd (A 18) x6.toNatClampNeg x3)) _ _ _ hl hP hD hS hf
            · rw [if_pos h59_5] at hf
              refine lv_iload_n hx hb d_M_evaluate_62 rfl (lv_at hl 3 rfl) ?_
              refine lv_goto (tgt := 106) hx hb d_M_evaluate_63 (by decide) ?_
              obtain ⟨hi, hf⟩ := ra_g_some hf
              refine va_iast hx hb hK hP hD hS 19 0 rfl rfl hi d_M_evaluate_106 (fun H locs hP hD hS => ?_)
              have hP : va_P (dC, dI) vC [((o 0), .inr (4, [.int (F 0), .int (F 1), .ref (o 1), .int (F 2), .ref (o 2), .ref (o 3), .ref (o 4), .ref (o 5), .ref (o 6), .int (F 3), .ref (o 7), .ref (o 8), .ref (o 9), .ref (o 10), .ref (o 11), .int (F 4), .int (F 5), .int (F 6), .ref (o 12), .ref (o 13), .int (F 7), .ref (o 14), .ref (o 15), .int (F 8), .int (F 9), .ref (o 16), .ref (o 17), .ref (o 18), .ref (o 19)])), ((o 1), .inl (cI, 160, .inl (A 0))), ((o 2), .inl (cI, 100, .inl (A 1))), ((o 3), .inl (cI, 100, .inl (A 2))), ((o 4), .inl (cI, 100, .inl (A 3))), ((o 5), .inl (cI, 3, .inl (A 4))), ((o 6), .inl (cI, 26, .inl (A 5))), ((o 7), .inl (cI, 100, .inl (A 6))), ((o 8), .inl (cI, 100, .inl (A 7))), ((o 9), .inl (cI, 100, .inl (A 8))), ((o 10), .inl (cI, 26, .inl (A 9))), ((o 11), .inl (cI, 104, .inl (A 10))), ((o 12), .inl (cI, 80, .inl (A 11))), ((o 13), .inl (cI, 320, .inl (A 12))), ((o 14), .inl (cI, 200, .inl (A 13))), ((o 15), .inl (cI, 200, .inl (A 14))), ((o 16), .inl (cI, 4, .inl (A 15))), ((o 17), .inl (cI, 32, .inl (A 16))), ((o 18), .inl (cI, 32, .inl (A 17))), ((o 19), .inl (cI, 100, .inl (upd (A 18) x6.toNatClampNeg x2)))] H := hP
              have hD : va_D (va_A (wM o cI Fa Aa) s.heap.size) [((o 0), .inr (4, [.int (F 0), .int (F 1), .ref (o 1), .int (F 2), .ref (o 2), .ref (o 3), .ref (o 4), .ref (o 5), .ref (o 6), .int (F 3), .ref (o 7), .ref (o 8), .ref (o 9), .ref (o 10), .ref (o 11), .int (F 4), .int (F 5), .int (F 6), .ref (o 12), .ref (o 13), .int (F 7), .ref (o 14), .ref (o 15), .int (F 8), .int (F 9), .ref (o 16), .ref (o 17), .ref (o 18), .ref (o 19)])), ((o 1), .inl (cI, 160, .inl (A 0))), ((o 2), .inl (cI, 100, .inl (A 1))), ((o 3), .inl (cI, 100, .inl (A 2))), ((o 4), .inl (cI, 100, .inl (A 3))), ((o 5), .inl (cI, 3, .inl (A 4))), ((o 6), .inl (cI, 26, .inl (A 5))), ((o 7), .inl (cI, 100, .inl (A 6))), ((o 8), .inl (cI, 100, .inl (A 7))), ((o 9), .inl (cI, 100, .inl (A 8))), ((o 10), .inl (cI, 26, .inl (A 9))), ((o 11), .inl (cI, 104, .inl (A 10))), ((o 12), .inl (cI, 80, .inl (A 11))), ((o 13), .inl (cI, 320, .inl (A 12))), ((o 14), .inl (cI, 200, .inl (A 13))), ((o 15), .inl (cI, 200, .inl (A 14))), ((o 16), .inl (cI, 4, .inl (A 15))), ((o 17), .inl (cI, 32, .inl (A 16))), ((o 18), .inl (cI, 32, .inl (A 17))), ((o 19), .inl (cI, 100, .inl (upd (A 18) x6.toNatClampNeg x2)))] := hD
              refine lv_goto (tgt := 146) hx hb d_M_evaluate_107 (by decide) ?_
              refine lv_iinc (k := 7) (v := (x6 + (1 : Int32))) hx hb d_M_evaluate_146 hl rfl (by rfl) (by decide) rfl (fun ls hl => ?_)
              have hl : lv_has ls 8 [(6, .int (x6 + (1 : Int32))), (7, .int ((A 2) x6.toNatClampNeg)), (0, .ref (o 0)), (1, .int x1), (2, .int x2), (3, .int x3), (4, .int x4), (5, .int x5)] := hl
              refine lv_goto (tgt := 3) hx hb d_M_evaluate_149 (by decide) ?_
              have hl : lv_has ls 8 [(0, .ref (o 0)), (1, .int x1), (2, .int x2), (3, .int x3), (4, .int x4), (5, .int x5), (6, .int (x6 + (1 : Int32)))] := lv_sub hl [2, 3, 4, 5, 6, 7, 0] rfl
              exact ih x1 x2 x3 x4 x5 (x6 + (1 : Int32)) F (va_up A 18 (upd (A 18) x6.toNatClampNeg x2)) _ _ _ hl hP hD hS hf
        · rw [if_pos h25_2] at hf
          refine lv_aload_n hx hb d_M_evaluate_28 rfl (lv_at hl 1 rfl) ?_
          refine va_get (D := (dC, dI)) (ci := 4) (v := .ref (o 19)) (C := R_M) (T := T_M) (N := 29) hx hb hts in_M hown hK hP 0 rfl rfl 28 (by decide) (hts _ mw_531) (fun _ h9 => h9) rfl d_M_evaluate_29 ?_
          refine lv_iload hx hb d_M_evaluate_32 (lv_at hl 7 rfl) ?_
          refine lv_iload hx hb d_M_evaluate_34 (lv_at hl 0 rfl) ?_
          obtain ⟨hi, hf⟩ := ra_g_some hf
          refine va_iast hx hb hK hP hD hS 19 0 rfl rfl hi d_M_evaluate_36 (fun H locs hP hD hS => ?_)
          have hP : va_P (dC, dI) vC [((o 0), .inr (4, [.int (F 0), .int (F 1), .ref (o 1), .int (F 2), .ref (o 2), .ref (o 3), .ref (o 4), .ref (o 5), .ref (o 6), .int (F 3), .ref (o 7), .ref (o 8), .ref (o 9), .ref (o 10), .ref (o 11), .int (F 4), .int (F 5), .int (F 6), .ref (o 12), .ref (o 13), .int (F 7), .ref (o 14), .ref (o 15), .int (F 8), .int (F 9), .ref (o 16), .ref (o 17), .ref (o 18), .ref (o 19)])), ((o 1), .inl (cI, 160, .inl (A 0))), ((o 2), .inl (cI, 100, .inl (A 1))), ((o 3), .inl (cI, 100, .inl (A 2))), ((o 4), .inl (cI, 100, .inl (A 3))), ((o 5), .inl (cI, 3, .inl (A 4))), ((o 6), .inl (cI, 26, .inl (A 5))), ((o 7), .inl (cI, 100, .inl (A 6))), ((o 8), .inl (cI, 100, .inl (A 7))), ((o 9), .inl (cI, 100, .inl (A 8))), ((o 10), .inl (cI, 26, .inl (A 9))), ((o 11), .inl (cI, 104, .inl (A 10))), ((o 12), .inl (cI, 80, .inl (A 11))), ((o 13), .inl (cI, 320, .inl (A 12))), ((o 14), .inl (cI, 200, .inl (A 13))), ((o 15), .inl (cI, 200, .inl (A 14))), ((o 16), .inl (cI, 4, .inl (A 15))), ((o 17), .inl (cI, 32, .inl (A 16))), ((o 18), .inl (cI, 32, .inl (A 17))), ((o 19), .inl (cI, 100, .inl (upd (A 18) x6.toNatClampNeg ((A 2) x6.toNatClampNeg))))] H := hP
          have hD : va_D (va_A (wM o cI Fa Aa) s.heap.size) [((o 0), .inr (4, [.int (F 0), .int (F 1), .ref (o 1), .int (F 2), .ref (o 2), .ref (o 3), .ref (o 4), .ref (o 5), .ref (o 6), .int (F 3), .ref (o 7), .ref (o 8), .ref (o 9), .ref (o 10), .ref (o 11), .int (F 4), .int (F 5), .int (F 6), .ref (o 12), .ref (o 13), .int (F 7), .ref (o 14), .ref (o 15), .int (F 8), .int (F 9), .ref (o 16), .ref (o 17), .ref (o 18), .ref (o 19)])), ((o 1), .inl (cI, 160, .inl (A 0))), ((o 2), .inl (cI, 100, .inl (A 1))), ((o 3), .inl (cI, 100, .inl (A 2))), ((o 4), .inl (cI, 100, .inl (A 3))), ((o 5), .inl (cI, 3, .inl (A 4))), ((o 6), .inl (cI, 26, .inl (A 5))), ((o 7), .inl (cI, 100, .inl (A 6))), ((o 8), .inl (cI, 100, .inl (A 7))), ((o 9), .inl (cI, 100, .inl (A 8))), ((o 10), .inl (cI, 26, .inl (A 9))), ((o 11), .inl (cI, 104, .inl (A 10))), ((o 12), .inl (cI, 80, .inl (A 11))), ((o 13), .inl (cI, 320, .inl (A 12))), ((o 14), .inl (cI, 200, .inl (A 13))), ((o 15), .inl (cI, 200, .inl (A 14))), ((o 16), .inl (cI, 4, .inl (A 15))), ((o 17), .inl (cI, 32, .inl (A 16))), ((o 18), .inl (cI, 32, .inl (A 17))), ((o 19), .inl (cI, 100, .inl (upd (A 18) x6.toNatClampNeg ((A 2) x6.toNatClampNeg))))] := hD
          refine lv_goto (tgt := 146) hx hb d_M_evaluate_37 (by decide) ?_
          refine lv_iinc (k := 7) (v := (x6 + (1 : Int32))) hx hb d_M_evaluate_146 hl rfl (by rfl) (by decide) rfl (fun ls hl => ?_)
          have hl : lv_has ls 8 [(6, .int (x6 + (1 : Int32))), (7, .int ((A 2) x6.toNatClampNeg)), (0, .ref (o 0)), (1, .int x1), (2, .int x2), (3, .int x3), (4, .int x4), (5, .int x5)] := hl
          refine lv_goto (tgt := 3) hx hb d_M_evaluate_149 (by decide) ?_
          have hl : lv_has ls 8 [(0, .ref (o 0)), (1, .int x1), (2, .int x2), (3, .int x3), (4, .int x4), (5, .int x5), (6, .int (x6 + (1 : Int32)))] := lv_sub hl [2, 3, 4, 5, 6, 7, 0] rfl
          exact ih x1 x2 x3 x4 x5 (x6 + (1 : Int32)) F (va_up A 18 (upd (A 18) x6.toNatClampNeg ((A 2) x6.toNatClampNeg))) _ _ _ hl hP hD hS hf
  rw [lg_entry_eq]
  generalize (lg_sl (([.ref (o 0), .int u1, .int u2, .int u3, .int u4, .int u5] : List Value)) ++ List.replicate (8 - (lg_sl (([.ref (o 0), .int u1, .int u2, .int u3, .int u4, .int u5] : List Value))).length) Slot.unset).toArray = ls at hl ⊢
  have hl : lv_has ls 8 [(0, .ref (o 0)), (1, .int u1), (2, .int u2), (3, .int u3), (4, .int u4), (5, .int u5)] := hl
  unfold f_M_evaluate at hf
  refine lv_iconst (v := 0) hx hb d_M_evaluate_0 (by decide) ?_
  refine lv_istore hx hb d_M_evaluate_1 hl (by decide) rfl (fun ls hl => ?_)
  have hl : lv_has ls 8 [(6, .int (0 : Int32)), (0, .ref (o 0)), (1, .int u1), (2, .int u2), (3, .int u3), (4, .int u4), (5, .int u5)] := hl
  have hl : lv_has ls 8 [(0, .ref (o 0)), (1, .int u1), (2, .int u2), (3, .int u3), (4, .int u4), (5, .int u5), (6, .int (0 : Int32))] := lv_sub hl [1, 2, 3, 4, 5, 6, 0] rfl
  exact L3 400 u1 u2 u3 u4 u5 (0 : Int32) Fa Aa _ _ _ hl hP hD hS hf
def f_M_value_J30 (x1 : Int32) (x2 : Int32) (x3 : Int32) (x4 : Int32) (x5 : Int32) (z0 : Int32) (F : ST_F) (A : ST_A) : Option (Int32 × ST_F × ST_A) := if z0 ≤ 0 then (ra_bv (f_M_evaluate x1 x2 x3 x4 x5 (upd F 0 z0) A) (fun F3 A3 => ra_g x1 100 (some (((A3 18) x1.toNatClampNeg), F3, A3)))) else (some ((0 : Int32), (upd F 0 z0), A))
def f_M_value_J13 (x1 : Int32) (x2 : Int32) (x3 : Int32) (x4 : Int32) (x5 : Int32) (F : ST_F) (A : ST_A) : Option (Int32 × ST_F × ST_A) := f_M_value_J30 x1 x2 x3 x4 x5 (1 : Int32) F A
def f_M_value (u1 : Int32) (u2 : Int32) (u3 : Int32) (u4 : Int32) (u5 : Int32) (Fa : ST_F) (Aa : ST_A) : Option (Int32 × ST_F × ST_A) := if u1 < 0 then (f_M_value_J13 u1 u2 u3 u4 u5 Fa Aa) else (if u1 < (Fa 2) then (if (f_M_noColor u5) = 0 then (f_M_value_J30 u1 u2 u3 u4 u5 (0 : Int32) Fa Aa) else (f_M_value_J30 u1 u2 u3 u4 u5 (2 : Int32) Fa Aa)) else (f_M_value_J13 u1 u2 u3 u4 u5 Fa Aa))
set_option maxHeartbeats 4000000 in
set_option maxRecDepth 100000 in
theorem k_M_value (l : Launch) (dC : Nat → ClassId) (dI : Nat → Nat → Nat) (o : Nat → Nat) (cI : ClassId) (sz : Nat) (Fa : ST_F) (Aa : ST_A) (u1 : Int32) (u2 : Int32) (u3 : Int32) (u4 : Int32) (u5 : Int32) (r0 : Int32) (F9 : ST_F) (A9 : ST_A) (hf : f_M_value u1 u2 u3 u4 u5 Fa Aa = some (r0, F9, A9)) : cc_MetI l y_M_value (Cond.code y_M_value b_M_value 6 (some .int) :: wA) ({ frames := 4, cells := 0, slots := 0, locals := 91 } : Room) (dC, dI) vC [(cI, .int)] ([.ref (o 0), .int u1, .int u2, .int u3, .int u4, .int u5] : List Value) (wM o cI Fa Aa) sz (wM o cI F9 A9) r0 := by
  refine Met.ofW (cc := b_M_value) (maxL := 6) (ret := (some .int)) (by decide) rfl ?_
  intro p e s m args below meth c s₁ B hml hv
  obtain ⟨rfl, hsz, hP, hK, hD0⟩ := hv
  have hx := B.exec
  have hb := B.bytes
  have hr := B.returns
  have hts := fun w h => atoms_spec (ws := (Cond.code y_M_value b_M_value 6 (some .int) :: wA)) B.pre w (List.mem_cons_of_mem _ h)
  have hown : s.vm.findClass R_M = some m.cls := findClass_of_methodNamed B.named
  have hlocks := B.notSynchronized
  subst hsz
  have hD := hD0.self (sz := s.heap.size)
  have hA : ∀ q : Nat, s.heap.size ≤ q → va_A (wM o cI Fa Aa) s.heap.size q := fun q h => Or.inr h
  have hS : va_S (va_A (wM o cI Fa Aa) s.heap.size) s.heap s.heap [] := va_S.rf
  have hl := lv_entry (([.ref (o 0), .int u1, .int u2, .int u3, .int u4, .int u5] : List Value)) (n := 6) (Nat.le_of_ble_eq_true rfl)
  have J30 : ∀ (x1 : Int32) (x2 : Int32) (x3 : Int32) (x4 : Int32) (x5 : Int32) (z0 : Int32) (F : ST_F) (A : ST_A) (H : Heap) (locs : List Loc) (ls : Array Slot), lv_has ls 6 [(0, .ref (o 0)), (1, .int x1), (2, .int x2), (3, .int x3), (4, .int x4), (5, .int x5)] → va_P (dC, dI) vC (wM o cI F A) H → va_D (va_A (wM o cI Fa Aa) s.heap.size) (wM o cI F A) → va_S (va_A (wM o cI Fa Aa) s.heap.size) s.heap H locs → f_M_value_J30 x1 x2 x3 x4 x5 z0 F A = some (r0, F9, A9) → W p l e (headSpec (Cond.code y_M_value b_M_value 6 (some .int) :: wA) ({ frames := 4, cells := 0, slots := 0, locals := 91 } : Room)).room s m ([.ref (o 0), .int u1, .int u2, .int u3, .int u4, .int u5] : List Value).toArray below meth c H locs 0 0 (MQ below (cc_Qi (dC, dI) vC [(cI, .int)] (wM o cI Fa Aa) s.heap.size (wM o cI F9 A9) r0) ([.ref (o 0), .int u1, .int u2, .int u3, .int u4, .int u5] : List Value).toArray s 0 0 (va_A (wM o cI Fa Aa) s.heap.size)) (F0 m 30 ls [.int z0, .ref (o 0)]) := by
    intro x1 x2 x3 x4 x5 z0 F A H locs ls hl hP hD hS hf
    unfold f_M_value_J30 at hf
    refine va_put (D := (dC, dI)) (ci := 4) (v := .int z0) (ty := .int) (C := R_M) (T := T_M) (N := 29) hx hb hts in_M ty_M ty_M_ok nm_M hown hK hP hD hS 0 rfl rfl 0 (by decide) (hts _ mw_503) (fun _ h9 => h9) rfl (by decide +kernel) rfl rfl (Nat.le_of_ble_eq_true rfl) d_M_value_30 (fun H locs hP hD hS => ?_)
    have hP : va_P (dC, dI) vC [((o 0), .inr (4, [.int z0, .int (F 1), .ref (o 1), .int (F 2), .ref (o 2), .ref (o 3), .ref (o 4), .ref (o 5), .ref (o 6), .int (F 3), .ref (o 7), .ref (o 8), .ref (o 9), .ref (o 10), .ref (o 11), .int (F 4), .int (F 5), .int (F 6), .ref (o 12), .ref (o 13), .int (F 7), .ref (o 14), .ref (o 15), .int (F 8), .int (F 9), .ref (o 16), .ref (o 17), .ref (o 18), .ref (o 19)])), ((o 1), .inl (cI, 160, .inl (A 0))), ((o 2), .inl (cI, 100, .inl (A 1))), ((o 3), .inl (cI, 100, .inl (A 2))), ((o 4), .inl (cI, 100, .inl (A 3))), ((o 5), .inl (cI, 3, .inl (A 4))), ((o 6), .inl (cI, 26, .inl (A 5))), ((o 7), .inl (cI, 100, .inl (A 6))), ((o 8), .inl (cI, 100, .inl (A 7))), ((o 9), .inl (cI, 100, .inl (A 8))), ((o 10), .inl (cI, 26, .inl (A 9))), ((o 11), .inl (cI, 104, .inl (A 10))), ((o 12), .inl (cI, 80, .inl (A 11))), ((o 13), .inl (cI, 320, .inl (A 12))), ((o 14), .inl (cI, 200, .inl (A 13))), ((o 15), .inl (cI, 200, .inl (A 14))), ((o 16), .inl (cI, 4, .inl (A 15))), ((o 17), .inl (cI, 32, .inl (A 16))), ((o 18), .inl (cI, 32, .inl (A 17))), ((o 19), .inl (cI, 100, .inl (A 18)))] H := hP
    have hD : va_D (va_A (wM o cI Fa Aa) s.heap.size) [((o 0), .inr (4, [.int z0, .int (F 1), .ref (o 1), .int (F 2), .ref (o 2), .ref (o 3), .ref (o 4), .ref (o 5), .ref (o 6), .int (F 3), .ref (o 7), .ref (o 8), .ref (o 9), .ref (o 10), .ref (o 11), .int (F 4), .int (F 5), .int (F 6), .ref (o 12), .ref (o 13), .int (F 7), .ref (o 14), .ref (o 15), .int (F 8), .int (F 9), .ref (o 16), .ref (o 17), .ref (o 18), .ref (o 19)])), ((o 1), .inl (cI, 160, .inl (A 0))), ((o 2), .inl (cI, 100, .inl (A 1))), ((o 3), .inl (cI, 100, .inl (A 2))), ((o 4), .inl (cI, 100, .inl (A 3))), ((o 5), .inl (cI, 3, .inl (A 4))), ((o 6), .inl (cI, 26, .inl (A 5))), ((o 7), .inl (cI, 100, .inl (A 6))), ((o 8), .inl (cI, 100, .inl (A 7))), ((o 9), .inl (cI, 100, .inl (A 8))), ((o 10), .inl (cI, 26, .inl (A 9))), ((o 11), .inl (cI, 104, .inl (A 10))), ((o 12), .inl (cI, 80, .inl (A 11))), ((o 13), .inl (cI, 320, .inl (A 12))), ((o 14), .inl (cI, 200, .inl (A 13))), ((o 15), .inl (cI, 200, .inl (A 14))), ((o 16), .inl (cI, 4, .inl (A 15))), ((o 17), .inl (cI, 32, .inl (A 16))), ((o 18), .inl (cI, 32, .inl (A 17))), ((o 19), .inl (cI, 100, .inl (A 18)))] := hD
    refine lv_aload_n hx hb d_M_value_33 rfl (lv_at hl 0 rfl) ?_
    refine va_get (D := (dC, dI)) (ci := 4) (v := .int z0) (C := R_M) (T := T_M) (N := 29) hx hb hts in_M hown hK hP 0 rfl rfl 0 (by decide) (hts _ mw_503) (fun _ h9 => h9) rfl d_M_value_34 ?_
    refine lv_if_le (tgt := 42) hx hb d_M_value_37 (by decide) (fun h37_2 => ?_) (fun h37_2 => ?_)
    · rw [if_pos h37_2] at hf
      refine lv_aload_n hx hb d_M_value_42 rfl (lv_at hl 0 rfl) ?_
      refine lv_iload_n hx hb d_M_value_43 rfl (lv_at hl 1 rfl) ?_
      refine lv_iload_n hx hb d_M_value_44 rfl (lv_at hl 2 rfl) ?_
      refine lv_iload_n hx hb d_M_value_45 rfl (lv_at hl 3 rfl) ?_
      refine lv_iload hx hb d_M_value_46 (lv_at hl 4 rfl) ?_
      refine lv_iload hx hb d_M_value_48 (lv_at hl 5 rfl) ?_
      have hP : va_P (dC, dI) vC (wM o cI (upd F 0 z0) A) H := hP
      have hD : va_D (va_A (wM o cI Fa Aa) s.heap.size) (wM o cI (upd F 0 z0) A) := hD
      obtain ⟨F3, A3, hc, hf⟩ := ra_bv_some hf
      refine cc_callv (va_runV (As := [.int x1, .int x2, .int x3, .int x4, .int x5]) (rest := []) ⟨hx, hb, hml, hown, hts⟩ (k_M_evaluate l dC dI o cI H.size (upd F 0 z0) A x1 x2 x3 x4 x5 F3 A3 hc) (cw_V 5 hts mw_752 mw_754 ms_M_evaluate mw_5 mw_755 rfl rfl rfl hd_M_evaluate ⟨Nat.le_of_ble_eq_true rfl, Nat.le_of_ble_eq_true rfl⟩) (cc_preV hK hP hD rfl (q0 := 0) rfl) rfl rfl hl.1 rfl (lv_room (Nat.le_of_ble_eq_true rfl)) d_M_value_50 ⟨Nat.zero_le _, Nat.zero_le _⟩) hD hS hA (fun H locs hP hD hS => ?_)
      refine lv_aload_n hx hb d_M_value_53 rfl (lv_at hl 0 rfl) ?_
      refine va_get (D := (dC, dI)) (ci := 4) (v := .ref (o 19)) (C := R_M) (T := T_M) (N := 29) hx hb hts in_M hown hK hP 0 rfl rfl 28 (by decide) (hts _ mw_531) (fun _ h9 => h9) rfl d_M_value_54 ?_
      refine lv_iload_n hx hb d_M_value_57 rfl (lv_at hl 1 rfl) ?_
      obtain ⟨hi, hf⟩ := ra_g_some hf
      refine va_iald hx hb hK hP 19 0 rfl rfl hi d_M_value_58 ?_
      cases hf
      exact W.iret hx hb hr (fun t ht hW => ⟨⟨_, (), rfl, rfl, by rw [ht]; exact hP, va_K.moved hW.alike hK, hD⟩, hS.F ht⟩) hS.2.2 d_M_value_59
    · rw [if_neg h37_2] at hf
      refine lv_iconst (v := 0) hx hb d_M_value_40 (by decide) ?_
      cases hf
      exact W.iret hx hb hr (fun t ht hW => ⟨⟨_, (), rfl, rfl, by rw [ht]; exact hP, va_K.moved hW.alike hK, hD⟩, hS.F ht⟩) hS.2.2 d_M_value_41
  have J13 : ∀ (x1 : Int32) (x2 : Int32) (x3 : Int32) (x4 : Int32) (x5 : Int32) (F : ST_F) (A : ST_A) (H : Heap) (locs : List Loc) (ls : Array Slot), lv_has ls 6 [(0, .ref (o 0)), (1, .int x1), (2, .int x2), (3, .int x3), (4, .int x4), (5, .int x5)] → va_P (dC, dI) vC (wM o cI F A) H → va_D (va_A (wM o cI Fa Aa) s.heap.size) (wM o cI F A) → va_S (va_A (wM o cI Fa Aa) s.heap.size) s.heap H locs → f_M_value_J13 x1 x2 x3 x4 x5 F A = some (r0, F9, A9) → W p l e (headSpec (Cond.code y_M_value b_M_value 6 (some .int) :: wA) ({ frames := 4, cells := 0, slots := 0, locals := 91 } : Room)).room s m ([.ref (o 0), .int u1, .int u2, .int u3, .int u4, .int u5] : List Value).toArray below meth c H locs 0 0 (MQ below (cc_Qi (dC, dI) vC [(cI, .int)] (wM o cI Fa Aa) s.heap.size (wM o cI F9 A9) r0) ([.ref (o 0), .int u1, .int u2, .int u3, .int u4, .int u5] : List Value).toArray s 0 0 (va_A (wM o cI Fa Aa) s.heap.size)) (F0 m 13 ls [.ref (o 0)]) := by
    intro x1 x2 x3 x4 x5 F A H locs ls hl hP hD hS hf
    unfold f_M_value_J13 at hf
    refine lv_iconst (v := 1) hx hb d_M_value_13 (by decide) ?_
    refine lv_goto (tgt := 30) hx hb d_M_value_14 (by decide) ?_
    have hl : lv_has ls 6 [(0, .ref (o 0)), (1, .int x1), (2, .int x2), (3, .int x3), (4, .int x4), (5, .int x5)] := lv_sub hl [0, 1, 2, 3, 4, 5] rfl
    exact J30 x1 x2 x3 x4 x5 (1 : Int32) F A _ _ _ hl hP hD hS hf
  rw [lg_entry_eq]
  generalize (lg_sl (([.ref (o 0), .int u1, .int u2, .int u3, .int u4, .int u5] : List Value)) ++ List.replicate (6 - (lg_sl (([.ref (o 0), .int u1, .int u2, .int u3, .int u4, .int u5] : List Value))).length) Slot.unset).toArray = ls at hl ⊢
  have hl : lv_has ls 6 [(0, .ref (o 0)), (1, .int u1), (2, .int u2), (3, .int u3), (4, .int u4), (5, .int u5)] := hl
  unfold f_M_value at hf
  refine lv_aload_n hx hb d_M_value_0 rfl (lv_at hl 0 rfl) ?_
  refine lv_iload_n hx hb d_M_value_1 rfl (lv_at hl 1 rfl) ?_
  refine lv_if_lt (tgt := 13) hx hb d_M_value_2 (by decide) (fun h2_1 => ?_) (fun h2_1 => ?_)
  · rw [if_pos h2_1] at hf
    have hl : lv_has ls 6 [(0, .ref (o 0)), (1, .int u1), (2, .int u2), (3, .int u3), (4, .int u4), (5, .int u5)] := lv_sub hl [0, 1, 2, 3, 4, 5] rfl
    exact J13 u1 u2 u3 u4 u5 Fa Aa _ _ _ hl hP hD hS hf
  · rw [if_neg h2_1] at hf
    refine lv_iload_n hx hb d_M_value_5 rfl (lv_at hl 1 rfl) ?_
    refine lv_aload_n hx hb d_M_value_6 rfl (lv_at hl 0 rfl) ?_
    refine va_get (D := (dC, dI)) (ci := 4) (v := .int (Fa 2)) (C := R_M) (T := T_M) (N := 29) hx hb hts in_M hown hK hP 0 rfl rfl 3 (by decide) (hts _ mw_506) (fun _ h9 => h9) rfl d_M_value_7 ?_
    refine lv_icmp_lt (tgt := 17) hx hb d_M_value_10 (by decide) (fun h10_4 => ?_) (fun h10_4 => ?_)
    · rw [if_pos h10_4] at hf
      refine lv_iload hx hb d_M_value_17 (lv_at hl 5 rfl) ?_
      refine cc_calls (va_runS (As := [.int u5]) (rest := [.ref (o 0)]) ⟨hx, hb, hml, hown, hts⟩ (k_M_noColor l u5 _ rfl) (cw_S 1 hts mw_748 mw_749 mw_5 mw_750 rfl rfl hd_M_noColor ⟨Nat.le_of_ble_eq_true rfl, Nat.le_of_ble_eq_true rfl⟩) cc_preS rfl rfl hl.1 rfl (lv_room (Nat.le_of_ble_eq_true rfl)) d_M_value_19 ⟨Nat.zero_le _, Nat.zero_le _⟩) ?_
      refine lv_if_eq (tgt := 29) hx hb d_M_value_22 (by decide) (fun h22_5 => ?_) (fun h22_5 => ?_)
      · rw [if_pos h22_5] at hf
        refine lv_iconst (v := 0) hx hb d_M_value_29 (by decide) ?_
        have hl : lv_has ls 6 [(0, .ref (o 0)), (1, .int u1), (2, .int u2), (3, .int u3), (4, .int u4), (5, .int u5)] := lv_sub hl [0, 1, 2, 3, 4, 5] rfl
        exact J30 u1 u2 u3 u4 u5 (0 : Int32) Fa Aa _ _ _ hl hP hD hS hf
      · rw [if_neg h22_5] at hf
        refine lv_iconst (v := 2) hx hb d_M_value_25 (by decide) ?_
        refine lv_goto (tgt := 30) hx hb d_M_value_26 (by decide) ?_
        have hl : lv_has ls 6 [(0, .ref (o 0)), (1, .int u1), (2, .int u2), (3, .int u3), (4, .int u4), (5, .int u5)] := lv_sub hl [0, 1, 2, 3, 4, 5] rfl
        exact J30 u1 u2 u3 u4 u5 (2 : Int32) Fa Aa _ _ _ hl hP hD hS hf
    · rw [if_neg h10_4] at hf
      have hl : lv_has ls 6 [(0, .ref (o 0)), (1, .int u1), (2, .int u2), (3, .int u3), (4, .int u4), (5, .int u5)] := lv_sub hl [0, 1, 2, 3, 4, 5] rfl
      exact J13 u1 u2 u3 u4 u5 Fa Aa _ _ _ hl hP hD hS hf
def f_M_paint_J25 (x1 : Int32) (x2 : Int32) (x3 : Int32) (z0 : Int32) (F : ST_F) (A : ST_A) : Option (ST_F × ST_A) := if z0 = 0 then (ra_g (((8 : Int32) * x2) + x1) 32 (some ((upd F 0 z0), (va_up A 16 (upd (A 16) (((8 : Int32) * x2) + x1).toNatClampNeg x3))))) else (some ((upd F 0 z0), A))
def f_M_paint (u1 : Int32) (u2 : Int32) (u3 : Int32) (Fa : ST_F) (Aa : ST_A) : Option (ST_F × ST_A) := if (f_M_noPoint u1 u2) = 0 then (if (f_M_noColor u3) = 0 then (f_M_paint_J25 u1 u2 u3 (0 : Int32) Fa Aa) else (f_M_paint_J25 u1 u2 u3 (2 : Int32) Fa Aa)) else (f_M_paint_J25 u1 u2 u3 (1 : Int32) Fa Aa)
set_option maxHeartbeats 4000000 in
set_option maxRecDepth 100000 in
theorem k_M_paint (l : Launch) (dC : Nat → ClassId) (dI : Nat → Nat → Nat) (o : Nat → Nat) (cI : ClassId) (sz : Nat) (Fa : ST_F) (Aa : ST_A) (u1 : Int32) (u2 : Int32) (u3 : Int32) (F9 : ST_F) (A9 : ST_A) (hf : f_M_paint u1 u2 u3 Fa Aa = some (F9, A9)) : cc_MetV l y_M_paint (Cond.code y_M_paint b_M_paint 4 none :: wA) ({ frames := 1, cells := 0, slots := 0, locals := 21 } : Room) (dC, dI) vC [(cI, .int)] ([.ref (o 0), .int u1, .int u2, .int u3] : List Value) (wM o cI Fa Aa) sz (wM o cI F9 A9) := by
  refine Met.ofW (cc := b_M_paint) (maxL := 4) (ret := none) (by decide) rfl ?_
  intro p e s m args below meth c s₁ B hml hv
  obtain ⟨rfl, hsz, hP, hK, hD0⟩ := hv
  have hx := B.exec
  have hb := B.bytes
  have hr := B.returns
  have hts := fun w h => atoms_spec (ws := (Cond.code y_M_paint b_M_paint 4 none :: wA)) B.pre w (List.mem_cons_of_mem _ h)
  have hown : s.vm.findClass R_M = some m.cls := findClass_of_methodNamed B.named
  have hlocks := B.notSynchronized
  subst hsz
  have hD := hD0.self (sz := s.heap.size)
  have hA : ∀ q : Nat, s.heap.size ≤ q → va_A (wM o cI Fa Aa) s.heap.size q := fun q h => Or.inr h
  have hS : va_S (va_A (wM o cI Fa Aa) s.heap.size) s.heap s.heap [] := va_S.rf
  have hl := lv_entry (([.ref (o 0), .int u1, .int u2, .int u3] : List Value)) (n := 4) (Nat.le_of_ble_eq_true rfl)
  have J25 : ∀ (x1 : Int32) (x2 : Int32) (x3 : Int32) (z0 : Int32) (F : ST_F) (A : ST_A) (H : Heap) (locs : List Loc) (ls : Array Slot), lv_has ls 4 [(0, .ref (o 0)), (1, .int x1), (2, .int x2), (3, .int x3)] → va_P (dC, dI) vC (wM o cI F A) H → va_D (va_A (wM o cI Fa Aa) s.heap.size) (wM o cI F A) → va_S (va_A (wM o cI Fa Aa) s.heap.size) s.heap H locs → f_M_paint_J25 x1 x2 x3 z0 F A = some (F9, A9) → W p l e (headSpec (Cond.code y_M_paint b_M_paint 4 none :: wA) ({ frames := 1, cells := 0, slots := 0, locals := 21 } : Room)).room s m ([.ref (o 0), .int u1, .int u2, .int u3] : List Value).toArray below meth c H locs 0 0 (MQ below (cc_Qv (dC, dI) vC [(cI, .int)] (wM o cI Fa Aa) s.heap.size (wM o cI F9 A9)) ([.ref (o 0), .int u1, .int u2, .int u3] : List Value).toArray s 0 0 (va_A (wM o cI Fa Aa) s.heap.size)) (F0 m 25 ls [.int z0, .ref (o 0)]) := by
    intro x1 x2 x3 z0 F A H locs ls hl hP hD hS hf
    unfold f_M_paint_J25 at hf
    refine va_put (D := (dC, dI)) (ci := 4) (v := .int z0) (ty := .int) (C := R_M) (T := T_M) (N := 29) hx hb hts in_M ty_M ty_M_ok nm_M hown hK hP hD hS 0 rfl rfl 0 (by decide) (hts _ mw_503) (fun _ h9 => h9) rfl (by decide +kernel) rfl rfl (Nat.le_of_ble_eq_true rfl) d_M_paint_25 (fun H locs hP hD hS => ?_)
    have hP : va_P (dC, dI) vC [((o 0), .inr (4, [.int z0, .int (F 1), .ref (o 1), .int (F 2), .ref (o 2), .ref (o 3), .ref (o 4), .ref (o 5), .ref (o 6), .int (F 3), .ref (o 7), .ref (o 8), .ref (o 9), .ref (o 10), .ref (o 11), .int (F 4), .int (F 5), .int (F 6), .ref (o 12), .ref (o 13), .int (F 7), .ref (o 14), .ref (o 15), .int (F 8), .int (F 9), .ref (o 16), .ref (o 17), .ref (o 18), .ref (o 19)])), ((o 1), .inl (cI, 160, .inl (A 0))), ((o 2), .inl (cI, 100, .inl (A 1))), ((o 3), .inl (cI, 100, .inl (A 2))), ((o 4), .inl (cI, 100, .inl (A 3))), ((o 5), .inl (cI, 3, .inl (A 4))), ((o 6), .inl (cI, 26, .inl (A 5))), ((o 7), .inl (cI, 100, .inl (A 6))), ((o 8), .inl (cI, 100, .inl (A 7))), ((o 9), .inl (cI, 100, .inl (A 8))), ((o 10), .inl (cI, 26, .inl (A 9))), ((o 11), .inl (cI, 104, .inl (A 10))), ((o 12), .inl (cI, 80, .inl (A 11))), ((o 13), .inl (cI, 320, .inl (A 12))), ((o 14), .inl (cI, 200, .inl (A 13))), ((o 15), .inl (cI, 200, .inl (A 14))), ((o 16), .inl (cI, 4, .inl (A 15))), ((o 17), .inl (cI, 32, .inl (A 16))), ((o 18), .inl (cI, 32, .inl (A 17))), ((o 19), .inl (cI, 100, .inl (A 18)))] H := hP
    have hD : va_D (va_A (wM o cI Fa Aa) s.heap.size) [((o 0), .inr (4, [.int z0, .int (F 1), .ref (o 1), .int (F 2), .ref (o 2), .ref (o 3), .ref (o 4), .ref (o 5), .ref (o 6), .int (F 3), .ref (o 7), .ref (o 8), .ref (o 9), .ref (o 10), .ref (o 11), .int (F 4), .int (F 5), .int (F 6), .ref (o 12), .ref (o 13), .int (F 7), .ref (o 14), .ref (o 15), .int (F 8), .int (F 9), .ref (o 16), .ref (o 17), .ref (o 18), .ref (o 19)])), ((o 1), .inl (cI, 160, .inl (A 0))), ((o 2), .inl (cI, 100, .inl (A 1))), ((o 3), .inl (cI, 100, .inl (A 2))), ((o 4), .inl (cI, 100, .inl (A 3))), ((o 5), .inl (cI, 3, .inl (A 4))), ((o 6), .inl (cI, 26, .inl (A 5))), ((o 7), .inl (cI, 100, .inl (A 6))), ((o 8), .inl (cI, 100, .inl (A 7))), ((o 9), .inl (cI, 100, .inl (A 8))), ((o 10), .inl (cI, 26, .inl (A 9))), ((o 11), .inl (cI, 104, .inl (A 10))), ((o 12), .inl (cI, 80, .inl (A 11))), ((o 13), .inl (cI, 320, .inl (A 12))), ((o 14), .inl (cI, 200, .inl (A 13))), ((o 15), .inl (cI, 200, .inl (A 14))), ((o 16), .inl (cI, 4, .inl (A 15))), ((o 17), .inl (cI, 32, .inl (A 16))), ((o 18), .inl (cI, 32, .inl (A 17))), ((o 19), .inl (cI, 100, .inl (A 18)))] := hD
    refine lv_aload_n hx hb d_M_paint_28 rfl (lv_at hl 0 rfl) ?_
    refine va_get (D := (dC, dI)) (ci := 4) (v := .int z0) (C := R_M) (T := T_M) (N := 29) hx hb hts in_M hown hK hP 0 rfl rfl 0 (by decide) (hts _ mw_503) (fun _ h9 => h9) rfl d_M_paint_29 ?_
    refine lv_if_ne (tgt := 47) hx hb d_M_paint_32 (by decide) (fun h32_3 => ?_) (fun h32_3 => ?_)
    · rw [if_neg h32_3] at hf
      cases hf
      exact W.vret hx hb hr (fun t ht hW => ⟨⟨(), rfl, trivial, by rw [ht]; exact hP, va_K.moved hW.alike hK, hD⟩, hS.F ht⟩) hS.2.2 d_M_paint_47
    · rw [if_pos h32_3] at hf
      refine lv_aload_n hx hb d_M_paint_35 rfl (lv_at hl 0 rfl) ?_
      refine va_get (D := (dC, dI)) (ci := 4) (v := .ref (o 17)) (C := R_M) (T := T_M) (N := 29) hx hb hts in_M hown hK hP 0 rfl rfl 26 (by decide) (hts _ mw_529) (fun _ h9 => h9) rfl d_M_paint_36 ?_
      refine lv_bipush (v := 8) hx hb d_M_paint_39 (by decide) ?_
      refine lv_iload_n hx hb d_M_paint_41 rfl (lv_at hl 2 rfl) ?_
      refine lv_imul hx hb d_M_paint_42 ?_
      refine lv_iload_n hx hb d_M_paint_43 rfl (lv_at hl 1 rfl) ?_
      refine lv_iadd hx hb d_M_paint_44 ?_
      refine lv_iload_n hx hb d_M_paint_45 rfl (lv_at hl 3 rfl) ?_
      obtain ⟨hi, hf⟩ := ra_g_some hf
      refine va_iast hx hb hK hP hD hS 17 0 rfl rfl hi d_M_paint_46 (fun H locs hP hD hS => ?_)
      have hP : va_P (dC, dI) vC [((o 0), .inr (4, [.int z0, .int (F 1), .ref (o 1), .int (F 2), .ref (o 2), .ref (o 3), .ref (o 4), .ref (o 5), .ref (o 6), .int (F 3), .ref (o 7), .ref (o 8), .ref (o 9), .ref (o 10), .ref (o 11), .int (F 4), .int (F 5), .int (F 6), .ref (o 12), .ref (o 13), .int (F 7), .ref (o 14), .ref (o 15), .int (F 8), .int (F 9), .ref (o 16), .ref (o 17), .ref (o 18), .ref (o 19)])), ((o 1), .inl (cI, 160, .inl (A 0))), ((o 2), .inl (cI, 100, .inl (A 1))), ((o 3), .inl (cI, 100, .inl (A 2))), ((o 4), .inl (cI, 100, .inl (A 3))), ((o 5), .inl (cI, 3, .inl (A 4))), ((o 6), .inl (cI, 26, .inl (A 5))), ((o 7), .inl (cI, 100, .inl (A 6))), ((o 8), .inl (cI, 100, .inl (A 7))), ((o 9), .inl (cI, 100, .inl (A 8))), ((o 10), .inl (cI, 26, .inl (A 9))), ((o 11), .inl (cI, 104, .inl (A 10))), ((o 12), .inl (cI, 80, .inl (A 11))), ((o 13), .inl (cI, 320, .inl (A 12))), ((o 14), .inl (cI, 200, .inl (A 13))), ((o 15), .inl (cI, 200, .inl (A 14))), ((o 16), .inl (cI, 4, .inl (A 15))), ((o 17), .inl (cI, 32, .inl (upd (A 16) (((8 : Int32) * x2) + x1).toNatClampNeg x3))), ((o 18), .inl (cI, 32, .inl (A 17))), ((o 19), .inl (cI, 100, .inl (A 18)))] H := hP
      have hD : va_D (va_A (wM o cI Fa Aa) s.heap.size) [((o 0), .inr (4, [.int z0, .int (F 1), .ref (o 1), .int (F 2), .ref (o 2), .ref (o 3), .ref (o 4), .ref (o 5), .ref (o 6), .int (F 3), .ref (o 7), .ref (o 8), .ref (o 9), .ref (o 10), .ref (o 11), .int (F 4), .int (F 5), .int (F 6), .ref (o 12), .ref (o 13), .int (F 7), .ref (o 14), .ref (o 15), .int (F 8), .int (F 9), .ref (o 16), .ref (o 17), .ref (o 18), .ref (o 19)])), ((o 1), .inl (cI, 160, .inl (A 0))), ((o 2), .inl (cI, 100, .inl (A 1))), ((o 3), .inl (cI, 100, .inl (A 2))), ((o 4), .inl (cI, 100, .inl (A 3))), ((o 5), .inl (cI, 3, .inl (A 4))), ((o 6), .inl (cI, 26, .inl (A 5))), ((o 7), .inl (cI, 100, .inl (A 6))), ((o 8), .inl (cI, 100, .inl (A 7))), ((o 9), .inl (cI, 100, .inl (A 8))), ((o 10), .inl (cI, 26, .inl (A 9))), ((o 11), .inl (cI, 104, .inl (A 10))), ((o 12), .inl (cI, 80, .inl (A 11))), ((o 13), .inl (cI, 320, .inl (A 12))), ((o 14), .inl (cI, 200, .inl (A 13))), ((o 15), .inl (cI, 200, .inl (A 14))), ((o 16), .inl (cI, 4, .inl (A 15))), ((o 17), .inl (cI, 32, .inl (upd (A 16) (((8 : Int32) * x2) + x1).toNatClampNeg x3))), ((o 18), .inl (cI, 32, .inl (A 17))), ((o 19), .inl (cI, 100, .inl (A 18)))] := hD
      cases hf
      exact W.vret hx hb hr (fun t ht hW => ⟨⟨(), rfl, trivial, by rw [ht]; exact hP, va_K.moved hW.alike hK, hD⟩, hS.F ht⟩) hS.2.2 d_M_paint_47
  rw [lg_entry_eq]
  generalize (lg_sl (([.ref (o 0), .int u1, .int u2, .int u3] : List Value)) ++ List.replicate (4 - (lg_sl (([.ref (o 0), .int u1, .int u2, .int u3] : List Value))).length) Slot.unset).toArray = ls at hl ⊢
  have hl : lv_has ls 4 [(0, .ref (o 0)), (1, .int u1), (2, .int u2), (3, .int u3)] := hl
  unfold f_M_paint at hf
  refine lv_aload_n hx hb d_M_paint_0 rfl (lv_at hl 0 rfl) ?_
  refine lv_iload_n hx hb d_M_paint_1 rfl (lv_at hl 1 rfl) ?_
  refine lv_iload_n hx hb d_M_paint_2 rfl (lv_at hl 2 rfl) ?_
  refine cc_calls (va_runS (As := [.int u1, .int u2]) (rest := [.ref (o 0)]) ⟨hx, hb, hml, hown, hts⟩ (k_M_noPoint l u1 u2 _ rfl) (cw_S 2 hts mw_773 mw_774 mw_5 mw_775 rfl rfl hd_M_noPoint ⟨Nat.le_of_ble_eq_true rfl, Nat.le_of_ble_eq_true rfl⟩) cc_preS rfl rfl hl.1 rfl (lv_room (Nat.le_of_ble_eq_true rfl)) d_M_paint_3 ⟨Nat.zero_le _, Nat.zero_le _⟩) ?_
  refine lv_if_eq (tgt := 13) hx hb d_M_paint_6 (by decide) (fun h6_1 => ?_) (fun h6_1 => ?_)
  · rw [if_pos h6_1] at hf
    refine lv_iload_n hx hb d_M_paint_13 rfl (lv_at hl 3 rfl) ?_
    refine cc_calls (va_runS (As := [.int u3]) (rest := [.ref (o 0)]) ⟨hx, hb, hml, hown, hts⟩ (k_M_noColor l u3 _ rfl) (cw_S 1 hts mw_748 mw_749 mw_5 mw_750 rfl rfl hd_M_noColor ⟨Nat.le_of_ble_eq_true rfl, Nat.le_of_ble_eq_true rfl⟩) cc_preS rfl rfl hl.1 rfl (lv_room (Nat.le_of_ble_eq_true rfl)) d_M_paint_14 ⟨Nat.zero_le _, Nat.zero_le _⟩) ?_
    refine lv_if_eq (tgt := 24) hx hb d_M_paint_17 (by decide) (fun h17_2 => ?_) (fun h17_2 => ?_)
    · rw [if_pos h17_2] at hf
      refine lv_iconst (v := 0) hx hb d_M_paint_24 (by decide) ?_
      have hl : lv_has ls 4 [(0, .ref (o 0)), (1, .int u1), (2, .int u2), (3, .int u3)] := lv_sub hl [0, 1, 2, 3] rfl
      exact J25 u1 u2 u3 (0 : Int32) Fa Aa _ _ _ hl hP hD hS hf
    · rw [if_neg h17_2] at hf
      refine lv_iconst (v := 2) hx hb d_M_paint_20 (by decide) ?_
      refine lv_goto (tgt := 25) hx hb d_M_paint_21 (by decide) ?_
      have hl : lv_has ls 4 [(0, .ref (o 0)), (1, .int u1), (2, .int u2), (3, .int u3)] := lv_sub hl [0, 1, 2, 3] rfl
      exact J25 u1 u2 u3 (2 : Int32) Fa Aa _ _ _ hl hP hD hS hf
  · rw [if_neg h6_1] at hf
    refine lv_iconst (v := 1) hx hb d_M_paint_9 (by decide) ?_
    refine lv_goto (tgt := 25) hx hb d_M_paint_10 (by decide) ?_
    have hl : lv_has ls 4 [(0, .ref (o 0)), (1, .int u1), (2, .int u2), (3, .int u3)] := lv_sub hl [0, 1, 2, 3] rfl
    exact J25 u1 u2 u3 (1 : Int32) Fa Aa _ _ _ hl hP hD hS hf
def f_M_run_L127 : Nat → Int32 → Int32 → ST_F → ST_A → Option (ST_F × ST_A)
  | 0, _, _, _, _ => none
  | n + 1, x1, x2, F, A => if (32 : Int32) ≤ x2 then (some (F, A)) else (ra_g x2 32 (ra_g x2 32 (f_M_run_L127 n x1 (x2 + (1 : Int32)) F (va_up A 16 (upd (A 16) x2.toNatClampNeg ((A 17) x2.toNatClampNeg))))))
def f_M_run_L26 : Nat → Int32 → Int32 → ST_F → ST_A → Option (ST_F × ST_A)
  | 0, _, _, _, _ => none
  | n + 1, x1, x2, F, A => if (32 : Int32) ≤ x2 then (f_M_run_L127 400 x1 (0 : Int32) F A) else (ra_g x2 32 (ra_bv (f_M_evaluate ((F 2) - (1 : Int32)) ((x2 - x2 / (8 : Int32) * (8 : Int32)) * (65536 : Int32)) ((x2 / (8 : Int32)) * (65536 : Int32)) x1 ((A 16) x2.toNatClampNeg) F A) (fun F5 A5 => ra_g (0 : Int32) 3 (ra_g ((A5 4) (0 : Int32).toNatClampNeg) 100 (ra_g (1 : Int32) 3 (ra_g ((A5 4) (1 : Int32).toNatClampNeg) 100 (ra_g (2 : Int32) 3 (ra_g ((A5 4) (2 : Int32).toNatClampNeg) 100 (ra_g x2 32 (f_M_run_L26 n x1 (x2 + (1 : Int32)) F5 (va_up A5 17 (upd (A5 17) x2.toNatClampNeg ((((f_M_channel ((A5 18) ((A5 4) (0 : Int32).toNatClampNeg).toNatClampNeg)) <<< ((16 : Int32) &&& 31)) ||| ((f_M_channel ((A5 18) ((A5 4) (1 : Int32).toNatClampNeg).toNatClampNeg)) <<< ((8 : Int32) &&& 31))) ||| (f_M_channel ((A5 18) ((A5 4) (2 : Int32).toNatClampNeg).toNatClampNeg)))))))))))))))
def f_M_run (u1 : Int32) (Fa : ST_F) (Aa : ST_A) : Option (ST_F × ST_A) := if (Fa 2) = 0 then (some ((upd Fa 0 (1 : Int32)), Aa)) else (f_M_run_L26 400 u1 (0 : Int32) (upd Fa 0 (0 : Int32)) Aa)
set_option maxHeartbeats 4000000 in
set_option maxRecDepth 100000 in
theorem k_M_run (l : Launch) (dC : Nat → ClassId) (dI : Nat → Nat → Nat) (o : Nat → Nat) (cI : ClassId) (sz : Nat) (Fa : ST_F) (Aa : ST_A) (u1 : Int32) (F9 : ST_F) (A9 : ST_A) (hf : f_M_run u1 Fa Aa = some (F9, A9)) : cc_MetV l y_M_run (Cond.code y_M_run b_M_run 3 none :: wA) ({ frames := 4, cells := 0, slots := 0, locals := 91 } : Room) (dC, dI) vC [(cI, .int)] ([.ref (o 0), .int u1] : List Value) (wM o cI Fa Aa) sz (wM o cI F9 A9) := by
  refine Met.ofW (cc := b_M_run) (maxL := 3) (ret := none) (by decide) rfl ?_
  intro p e s m args below meth c s₁ B hml hv
  obtain ⟨rfl, hsz, hP, hK, hD0⟩ := hv
  have hx := B.exec
  have hb := B.bytes
  have hr := B.returns
  have hts := fun w h => atoms_spec (ws := (Cond.code y_M_run b_M_run 3 none :: wA)) B.pre w (List.mem_cons_of_mem _ h)
  have hown : s.vm.findClass R_M = some m.cls := findClass_of_methodNamed B.named
  have hlocks := B.notSynchronized
  subst hsz
  have hD := hD0.self (sz := s.heap.size)
  have hA : ∀ q : Nat, s.heap.size ≤ q → va_A (wM o cI Fa Aa) s.heap.size q := fun q h => Or.inr h
  have hS : va_S (va_A (wM o cI Fa Aa) s.heap.size) s.heap s.heap [] := va_S.rf
  have hl := lv_entry (([.ref (o 0), .int u1] : List Value)) (n := 3) (Nat.le_of_ble_eq_true rfl)
  have L127 : ∀ (n : Nat) (x1 : Int32) (x2 : Int32) (F : ST_F) (A : ST_A) (H : Heap) (locs : List Loc) (ls : Array Slot), lv_has ls 3 [(0, .ref (o 0)), (1, .int x1), (2, .int x2)] → va_P (dC, dI) vC (wM o cI F A) H → va_D (va_A (wM o cI Fa Aa) s.heap.size) (wM o cI F A) → va_S (va_A (wM o cI Fa Aa) s.heap.size) s.heap H locs → f_M_run_L127 n x1 x2 F A = some (F9, A9) → W p l e (headSpec (Cond.code y_M_run b_M_run 3 none :: wA) ({ frames := 4, cells := 0, slots := 0, locals := 91 } : Room)).room s m ([.ref (o 0), .int u1] : List Value).toArray below meth c H locs 0 0 (MQ below (cc_Qv (dC, dI) vC [(cI, .int)] (wM o cI Fa Aa) s.heap.size (wM o cI F9 A9)) ([.ref (o 0), .int u1] : List Value).toArray s 0 0 (va_A (wM o cI Fa Aa) s.heap.size)) (F0 m 127 ls []) := by
    intro n
    induction n with
    | zero => intro x1 x2 F A H locs ls hl hP hD hS hf; cases hf
    | succ n ih =>
      intro x1 x2 F A H locs ls hl hP hD hS hf
      rw [f_M_run_L127] at hf
      refine lv_iload_n hx hb d_M_run_127 rfl (lv_at hl 2 rfl) ?_
      refine lv_bipush (v := 32) hx hb d_M_run_128 (by decide) ?_
      refine lv_icmp_ge (tgt := 151) hx hb d_M_run_130 (by decide) (fun h130_4 => ?_) (fun h130_4 => ?_)
      · rw [if_pos h130_4] at hf
        cases hf
        exact W.vret hx hb hr (fun t ht hW => ⟨⟨(), rfl, trivial, by rw [ht]; exact hP, va_K.moved hW.alike hK, hD⟩, hS.F ht⟩) hS.2.2 d_M_run_151
      · rw [if_neg h130_4] at hf
        refine lv_aload_n hx hb d_M_run_133 rfl (lv_at hl 0 rfl) ?_
        refine va_get (D := (dC, dI)) (ci := 4) (v := .ref (o 17)) (C := R_M) (T := T_M) (N := 29) hx hb hts in_M hown hK hP 0 rfl rfl 26 (by decide) (hts _ mw_529) (fun _ h9 => h9) rfl d_M_run_134 ?_
        refine lv_iload_n hx hb d_M_run_137 rfl (lv_at hl 2 rfl) ?_
        refine lv_aload_n hx hb d_M_run_138 rfl (lv_at hl 0 rfl) ?_
        refine va_get (D := (dC, dI)) (ci := 4) (v := .ref (o 18)) (C := R_M) (T := T_M) (N := 29) hx hb hts in_M hown hK hP 0 rfl rfl 27 (by decide) (hts _ mw_530) (fun _ h9 => h9) rfl d_M_run_139 ?_
        refine lv_iload_n hx hb d_M_run_142 rfl (lv_at hl 2 rfl) ?_
        obtain ⟨hi, hf⟩ := ra_g_some hf
        refine va_iald hx hb hK hP 18 0 rfl rfl hi d_M_run_143 ?_
        obtain ⟨hi, hf⟩ := ra_g_some hf
        refine va_iast hx hb hK hP hD hS 17 0 rfl rfl hi d_M_run_144 (fun H locs hP hD hS => ?_)
        have hP : va_P (dC, dI) vC [((o 0), .inr (4, [.int (F 0), .int (F 1), .ref (o 1), .int (F 2), .ref (o 2), .ref (o 3), .ref (o 4), .ref (o 5), .ref (o 6), .int (F 3), .ref (o 7), .ref (o 8), .ref (o 9), .ref (o 10), .ref (o 11), .int (F 4), .int (F 5), .int (F 6), .ref (o 12), .ref (o 13), .int (F 7), .ref (o 14), .ref (o 15), .int (F 8), .int (F 9), .ref (o 16), .ref (o 17), .ref (o 18), .ref (o 19)])), ((o 1), .inl (cI, 160, .inl (A 0))), ((o 2), .inl (cI, 100, .inl (A 1))), ((o 3), .inl (cI, 100, .inl (A 2))), ((o 4), .inl (cI, 100, .inl (A 3))), ((o 5), .inl (cI, 3, .inl (A 4))), ((o 6), .inl (cI, 26, .inl (A 5))), ((o 7), .inl (cI, 100, .inl (A 6))), ((o 8), .inl (cI, 100, .inl (A 7))), ((o 9), .inl (cI, 100, .inl (A 8))), ((o 10), .inl (cI, 26, .inl (A 9))), ((o 11), .inl (cI, 104, .inl (A 10))), ((o 12), .inl (cI, 80, .inl (A 11))), ((o 13), .inl (cI, 320, .inl (A 12))), ((o 14), .inl (cI, 200, .inl (A 13))), ((o 15), .inl (cI, 200, .inl (A 14))), ((o 16), .inl (cI, 4, .inl (A 15))), ((o 17), .inl (cI, 32, .inl (upd (A 16) x2.toNatClampNeg ((A 17) x2.toNatClampNeg)))), ((o 18), .inl (cI, 32, .inl (A 17))), ((o 19), .inl (cI, 100, .inl (A 18)))] H := hP
        have hD : va_D (va_A (wM o cI Fa Aa) s.heap.size) [((o 0), .inr (4, [.int (F 0), .int (F 1), .ref (o 1), .int (F 2), .ref (o 2), .ref (o 3), .ref (o 4), .ref (o 5), .ref (o 6), .int (F 3), .ref (o 7), .ref (o 8), .ref (o 9), .ref (o 10), .ref (o 11), .int (F 4), .int (F 5), .int (F 6), .ref (o 12), .ref (o 13), .int (F 7), .ref (o 14), .ref (o 15), .int (F 8), .int (F 9), .ref (o 16), .ref (o 17), .ref (o 18), .ref (o 19)])), ((o 1), .inl (cI, 160, .inl (A 0))), ((o 2), .inl (cI, 100, .inl (A 1))), ((o 3), .inl (cI, 100, .inl (A 2))), ((o 4), .inl (cI, 100, .inl (A 3))), ((o 5), .inl (cI, 3, .inl (A 4))), ((o 6), .inl (cI, 26, .inl (A 5))), ((o 7), .inl (cI, 100, .inl (A 6))), ((o 8), .inl (cI, 100, .inl (A 7))), ((o 9), .inl (cI, 100, .inl (A 8))), ((o 10), .inl (cI, 26, .inl (A 9))), ((o 11), .inl (cI, 104, .inl (A 10))), ((o 12), .inl (cI, 80, .inl (A 11))), ((o 13), .inl (cI, 320, .inl (A 12))), ((o 14), .inl (cI, 200, .inl (A 13))), ((o 15), .inl (cI, 200, .inl (A 14))), ((o 16), .inl (cI, 4, .inl (A 15))), ((o 17), .inl (cI, 32, .inl (upd (A 16) x2.toNatClampNeg ((A 17) x2.toNatClampNeg)))), ((o 18), .inl (cI, 32, .inl (A 17))), ((o 19), .inl (cI, 100, .inl (A 18)))] := hD
        refine lv_iinc (k := 2) (v := (x2 + (1 : Int32))) hx hb d_M_run_145 hl rfl (by rfl) (by decide) rfl (fun ls hl => ?_)
        have hl : lv_has ls 3 [(2, .int (x2 + (1 : Int32))), (0, .ref (o 0)), (1, .int x1)] := hl
        refine lv_goto (tgt := 127) hx hb d_M_run_148 (by decide) ?_
        have hl : lv_has ls 3 [(0, .ref (o 0)), (1, .int x1), (2, .int (x2 + (1 : Int32)))] := lv_sub hl [1, 2, 0] rfl
        exact ih x1 (x2 + (1 : Int32)) F (va_up A 16 (upd (A 16) x2.toNatClampNeg ((A 17) x2.toNatClampNeg))) _ _ _ hl hP hD hS hf
  have L26 : ∀ (n : Nat) (x1 : Int32) (x2 : Int32) (F : ST_F) (A : ST_A) (H : Heap) (locs : List Loc) (ls : Array Slot), lv_has ls 3 [(0, .ref (o 0)), (1, .int x1), (2, .int x2)] → va_P (dC, dI) vC (wM o cI F A) H → va_D (va_A (wM o cI Fa Aa) s.heap.size) (wM o cI F A) → va_S (va_A (wM o cI Fa Aa) s.heap.size) s.heap H locs → f_M_run_L26 n x1 x2 F A = some (F9, A9) → W p l e (headSpec (Cond.code y_M_run b_M_run 3 none :: wA) ({ frames := 4, cells := 0, slots := 0, locals := 91 } : Room)).room s m ([.ref (o 0), .int u1] : List Value).toArray below meth c H locs 0 0 (MQ below (cc_Qv (dC, dI) vC [(cI, .int)] (wM o cI Fa Aa) s.heap.size (wM o cI F9 A9)) ([.ref (o 0), .int u1] : List Value).toArray s 0 0 (va_A (wM o cI Fa Aa) s.heap.size)) (F0 m 26 ls []) := by
    intro n
    induction n with
    | zero => intro x1 x2 F A H locs ls hl hP hD hS hf; cases hf
    | succ n ih =>
      intro x1 x2 F A H locs ls hl hP hD hS hf
      rw [f_M_run_L26] at hf
      refine lv_iload_n hx hb d_M_run_26 rfl (lv_at hl 2 rfl) ?_
      refine lv_bipush (v := 32) hx hb d_M_run_27 (by decide) ?_
      refine lv_icmp_ge (tgt := 125) hx hb d_M_run_29 (by decide) (fun h29_3 => ?_) (fun h29_3 => ?_)
      · rw [if_pos h29_3] at hf
        refine lv_iconst (v := 0) hx hb d_M_run_125 (by decide) ?_
        refine lv_istore_n hx hb d_M_run_126 rfl hl (by decide) rfl (fun ls hl => ?_)
        have hl : lv_has ls 3 [(2, .int (0 : Int32)), (0, .ref (o 0)), (1, .int x1)] := hl
        have hl : lv_has ls 3 [(0, .ref (o 0)), (1, .int x1), (2, .int (0 : Int32))] := lv_sub hl [1, 2, 0] rfl
        exact L127 400 x1 (0 : Int32) F A _ _ _ hl hP hD hS hf
      · rw [if_neg h29_3] at hf
        refine lv_aload_n hx hb d_M_run_32 rfl (lv_at hl 0 rfl) ?_
        refine lv_aload_n hx hb d_M_run_33 rfl (lv_at hl 0 rfl) ?_
        refine va_get (D := (dC, dI)) (ci := 4) (v := .int (F 2)) (C := R_M) (T := T_M) (N := 29) hx hb hts in_M hown hK hP 0 rfl rfl 3 (by decide) (hts _ mw_506) (fun _ h9 => h9) rfl d_M_run_34 ?_
        refine lv_iconst (v := 1) hx hb d_M_run_37 (by decide) ?_
        refine lv_isub hx hb d_M_run_38 ?_
        refine lv_iload_n hx hb d_M_run_39 rfl (lv_at hl 2 rfl) ?_
        refine lv_bipush (v := 8) hx hb d_M_run_40 (by decide) ?_
        refine lv_irem hx hb d_M_run_42 (by decide) ?_
        refine lv_ldc (v := 65536) hx hb hown (hts _ mw_718) d_M_run_43 ?_
        refine lv_imul hx hb d_M_run_45 ?_
        refine lv_iload_n hx hb d_M_run_46 rfl (lv_at hl 2 rfl) ?_
        refine lv_bipush (v := 8) hx hb d_M_run_47 (by decide) ?_
        refine lv_idiv hx hb d_M_run_49 (by decide) ?_
        refine lv_ldc (v := 65536) hx hb hown (hts _ mw_718) d_M_run_50 ?_
        refine lv_imul hx hb d_M_run_52 ?_
        refine lv_iload_n hx hb d_M_run_53 rfl (lv_at hl 1 rfl) ?_
        refine lv_aload_n hx hb d_M_run_54 rfl (lv_at hl 0 rfl) ?_
        refine va_get (D := (dC, dI)) (ci := 4) (v := .ref (o 17)) (C := R_M) (T := T_M) (N := 29) hx hb hts in_M hown hK hP 0 rfl rfl 26 (by decide) (hts _ mw_529) (fun _ h9 => h9) rfl d_M_run_55 ?_
        refine lv_iload_n hx hb d_M_run_58 rfl (lv_at hl 2 rfl) ?_
        obtain ⟨hi, hf⟩ := ra_g_some hf
        refine va_iald hx hb hK hP 17 0 rfl rfl hi d_M_run_59 ?_
        have hP : va_P (dC, dI) vC (wM o cI F A) H := hP
        have hD : va_D (va_A (wM o cI Fa Aa) s.heap.size) (wM o cI F A) := hD
        obtain ⟨F5, A5, hc, hf⟩ := ra_bv_some hf
        refine cc_callv (va_runV (As := [.int ((F 2) - (1 : Int32)), .int ((x2 - x2 / (8 : Int32) * (8 : Int32)) * (65536 : Int32)), .int ((x2 / (8 : Int32)) * (65536 : Int32)), .int x1, .int ((A 16) x2.toNatClampNeg)]) (rest := []) ⟨hx, hb, hml, hown, hts⟩ (k_M_evaluate l dC dI o cI H.size F A ((F 2) - (1 : Int32)) ((x2 - x2 / (8 : Int32) * (8 : Int32)) * (65536 : Int32)) ((x2 / (8 : Int32)) * (65536 : Int32)) x1 ((A 16) x2.toNatClampNeg) F5 A5 hc) (cw_V 5 hts mw_752 mw_754 ms_M_evaluate mw_5 mw_755 rfl rfl rfl hd_M_evaluate ⟨Nat.le_of_ble_eq_true rfl, Nat.le_of_ble_eq_true rfl⟩) (cc_preV hK hP hD rfl (q0 := 0) rfl) rfl rfl hl.1 rfl (lv_room (Nat.le_of_ble_eq_true rfl)) d_M_run_60 ⟨Nat.zero_le _, Nat.zero_le _⟩) hD hS hA (fun H locs hP hD hS => ?_)
        refine lv_aload_n hx hb d_M_run_63 rfl (lv_at hl 0 rfl) ?_
        refine va_get (D := (dC, dI)) (ci := 4) (v := .ref (o 18)) (C := R_M) (T := T_M) (N := 29) hx hb hts in_M hown hK hP 0 rfl rfl 27 (by decide) (hts _ mw_530) (fun _ h9 => h9) rfl d_M_run_64 ?_
        refine lv_iload_n hx hb d_M_run_67 rfl (lv_at hl 2 rfl) ?_
        refine lv_aload_n hx hb d_M_run_68 rfl (lv_at hl 0 rfl) ?_
        refine va_get (D := (dC, dI)) (ci := 4) (v := .ref (o 19)) (C := R_M) (T := T_M) (N := 29) hx hb hts in_M hown hK hP 0 rfl rfl 28 (by decide) (hts _ mw_531) (fun _ h9 => h9) rfl d_M_run_69 ?_
        refine lv_aload_n hx hb d_M_run_72 rfl (lv_at hl 0 rfl) ?_
        refine va_get (D := (dC, dI)) (ci := 4) (v := .ref (o 5)) (C := R_M) (T := T_M) (N := 29) hx hb hts in_M hown hK hP 0 rfl rfl 7 (by decide) (hts _ mw_510) (fun _ h9 => h9) rfl d_M_run_73 ?_
        refine lv_iconst (v := 0) hx hb d_M_run_76 (by decide) ?_
        obtain ⟨hi, hf⟩ := ra_g_some hf
        refine va_iald hx hb hK hP 5 0 rfl rfl hi d_M_run_77 ?_
        obtain ⟨hi, hf⟩ := ra_g_some hf
        refine va_iald hx hb hK hP 19 0 rfl rfl hi d_M_run_78 ?_
        refine cc_calls (va_runS (As := [.int ((A5 18) ((A5 4) (0 : Int32).toNatClampNeg).toNatClampNeg)]) (rest := [.int x2, .ref (o 18)]) ⟨hx, hb, hml, hown, hts⟩ (k_M_channel l ((A5 18) ((A5 4) (0 : Int32).toNatClampNeg).toNatClampNeg) _ rfl) (cw_S 1 hts mw_780 mw_781 mw_5 mw_782 rfl rfl hd_M_channel ⟨Nat.le_of_ble_eq_true rfl, Nat.le_of_ble_eq_true rfl⟩) cc_preS rfl rfl hl.1 rfl (lv_room (Nat.le_of_ble_eq_true rfl)) d_M_run_79 ⟨Nat.zero_le _, Nat.zero_le _⟩) ?_
        refine lv_bipush (v := 16) hx hb d_M_run_82 (by decide) ?_
        refine lv_ishl hx hb d_M_run_84 ?_
        refine lv_aload_n hx hb d_M_run_85 rfl (lv_at hl 0 rfl) ?_
        refine va_get (D := (dC, dI)) (ci := 4) (v := .ref (o 19)) (C := R_M) (T := T_M) (N := 29) hx hb hts in_M hown hK hP 0 rfl rfl 28 (by decide) (hts _ mw_531) (fun _ h9 => h9) rfl d_M_run_86 ?_
        refine lv_aload_n hx hb d_M_run_89 rfl (lv_at hl 0 rfl) ?_
        refine va_get (D := (dC, dI)) (ci := 4) (v := .ref (o 5)) (C := R_M) (T := T_M) (N := 29) hx hb hts in_M hown hK hP 0 rfl rfl 7 (by decide) (hts _ mw_510) (fun _ h9 => h9) rfl d_M_run_90 ?_
        refine lv_iconst (v := 1) hx hb d_M_run_93 (by decide) ?_
        obtain ⟨hi, hf⟩ := ra_g_some hf
        refine va_iald hx hb hK hP 5 0 rfl rfl hi d_M_run_94 ?_
        obtain ⟨hi, hf⟩ := ra_g_some hf
        refine va_iald hx hb hK hP 19 0 rfl rfl hi d_M_run_95 ?_
        refine cc_calls (va_runS (As := [.int ((A5 18) ((A5 4) (1 : Int32).toNatClampNeg).toNatClampNeg)]) (rest := [.int ((f_M_channel ((A5 18) ((A5 4) (0 : Int32).toNatClampNeg).toNatClampNeg)) <<< ((16 : Int32) &&& 31)), .int x2, .ref (o 18)]) ⟨hx, hb, hml, hown, hts⟩ (k_M_channel l ((A5 18) ((A5 4) (1 : Int32).toNatClampNeg).toNatClampNeg) _ rfl) (cw_S 1 hts mw_780 mw_781 mw_5 mw_782 rfl rfl hd_M_channel ⟨Nat.le_of_ble_eq_true rfl, Nat.le_of_ble_eq_true rfl⟩) cc_preS rfl rfl hl.1 rfl (lv_room (Nat.le_of_ble_eq_true rfl)) d_M_run_96 ⟨Nat.zero_le _, Nat.zero_le _⟩) ?_
        refine lv_bipush (v := 8) hx hb d_M_run_99 (by decide) ?_
        refine lv_ishl hx hb d_M_run_101 ?_
        refine lv_ior hx hb d_M_run_102 ?_
        refine lv_aload_n hx hb d_M_run_103 rfl (lv_at hl 0 rfl) ?_
        refine va_get (D := (dC, dI)) (ci := 4) (v := .ref (o 19)) (C := R_M) (T := T_M) (N := 29) hx hb hts in_M hown hK hP 0 rfl rfl 28 (by decide) (hts _ mw_531) (fun _ h9 => h9) rfl d_M_run_104 ?_
        refine lv_aload_n hx hb d_M_run_107 rfl (lv_at hl 0 rfl) ?_
        refine va_get (D := (dC, dI)) (ci := 4) (v := .ref (o 5)) (C := R_M) (T := T_M) (N := 29) hx hb hts in_M hown hK hP 0 rfl rfl 7 (by decide) (hts _ mw_510) (fun _ h9 => h9) rfl d_M_run_108 ?_
        refine lv_iconst (v := 2) hx hb d_M_run_111 (by decide) ?_
        obtain ⟨hi, hf⟩ := ra_g_some hf
        refine va_iald hx hb hK hP 5 0 rfl rfl hi d_M_run_112 ?_
        obtain ⟨hi, hf⟩ := ra_g_some hf
        refine va_iald hx hb hK hP 19 0 rfl rfl hi d_M_run_113 ?_
        refine cc_calls (va_runS (As := [.int ((A5 18) ((A5 4) (2 : Int32).toNatClampNeg).toNatClampNeg)]) (rest := [.int (((f_M_channel ((A5 18) ((A5 4) (0 : Int32).toNatClampNeg).toNatClampNeg)) <<< ((16 : Int32) &&& 31)) ||| ((f_M_channel ((A5 18) ((A5 4) (1 : Int32).toNatClampNeg).toNatClampNeg)) <<< ((8 : Int32) &&& 31))), .int x2, .ref (o 18)]) ⟨hx, hb, hml, hown, hts⟩ (k_M_channel l ((A5 18) ((A5 4) (2 : Int32).toNatClampNeg).toNatClampNeg) _ rfl) (cw_S 1 hts mw_780 mw_781 mw_5 mw_782 rfl rfl hd_M_channel ⟨Nat.le_of_ble_eq_true rfl, Nat.le_of_ble_eq_true rfl⟩) cc_preS rfl rfl hl.1 rfl (lv_room (Nat.le_of_ble_eq_true rfl)) d_M_run_114 ⟨Nat.zero_le _, Nat.zero_le _⟩) ?_
        refine lv_ior hx hb d_M_run_117 ?_
        obtain ⟨hi, hf⟩ := ra_g_some hf
        refine va_iast hx hb hK hP hD hS 18 0 rfl rfl hi d_M_run_118 (fun H locs hP hD hS => ?_)
        have hP : va_P (dC, dI) vC [((o 0), .inr (4, [.int (F5 0), .int (F5 1), .ref (o 1), .int (F5 2), .ref (o 2), .ref (o 3), .ref (o 4), .ref (o 5), .ref (o 6), .int (F5 3), .ref (o 7), .ref (o 8), .ref (o 9), .ref (o 10), .ref (o 11), .int (F5 4), .int (F5 5), .int (F5 6), .ref (o 12), .ref (o 13), .int (F5 7), .ref (o 14), .ref (o 15), .int (F5 8), .int (F5 9), .ref (o 16), .ref (o 17), .ref (o 18), .ref (o 19)])), ((o 1), .inl (cI, 160, .inl (A5 0))), ((o 2), .inl (cI, 100, .inl (A5 1))), ((o 3), .inl (cI, 100, .inl (A5 2))), ((o 4), .inl (cI, 100, .inl (A5 3))), ((o 5), .inl (cI, 3, .inl (A5 4))), ((o 6), .inl (cI, 26, .inl (A5 5))), ((o 7), .inl (cI, 100, .inl (A5 6))), ((o 8), .inl (cI, 100, .inl (A5 7))), ((o 9), .inl (cI, 100, .inl (A5 8))), ((o 10), .inl (cI, 26, .inl (A5 9))), ((o 11), .inl (cI, 104, .inl (A5 10))), ((o 12), .inl (cI, 80, .inl (A5 11))), ((o 13), .inl (cI, 320, .inl (A5 12))), ((o 14), .inl (cI, 200, .inl (A5 13))), ((o 15), .inl (cI, 200, .inl (A5 14))), ((o 16), .inl (cI, 4, .inl (A5 15))), ((o 17), .inl (cI, 32, .inl (A5 16))), ((o 18), .inl (cI, 32, .inl (upd (A5 17) x2.toNatClampNeg ((((f_M_channel ((A5 18) ((A5 4) (0 : Int32).toNatClampNeg).toNatClampNeg)) <<< ((16 : Int32) &&& 31)) ||| ((f_M_channel ((A5 18) ((A5 4) (1 : Int32).toNatClampNeg).toNatClampNeg)) <<< ((8 : Int32) &&& 31))) ||| (f_M_channel ((A5 18) ((A5 4) (2 : Int32).toNatClampNeg).toNatClampNeg)))))), ((o 19), .inl (cI, 100, .inl (A5 18)))] H := hP
        have hD : va_D (va_A (wM o cI Fa Aa) s.heap.size) [((o 0), .inr (4, [.int (F5 0), .int (F5 1), .ref (o 1), .int (F5 2), .ref (o 2), .ref (o 3), .ref (o 4), .ref (o 5), .ref (o 6), .int (F5 3), .ref (o 7), .ref (o 8), .ref (o 9), .ref (o 10), .ref (o 11), .int (F5 4), .int (F5 5), .int (F5 6), .ref (o 12), .ref (o 13), .int (F5 7), .ref (o 14), .ref (o 15), .int (F5 8), .int (F5 9), .ref (o 16), .ref (o 17), .ref (o 18), .ref (o 19)])), ((o 1), .inl (cI, 160, .inl (A5 0))), ((o 2), .inl (cI, 100, .inl (A5 1))), ((o 3), .inl (cI, 100, .inl (A5 2))), ((o 4), .inl (cI, 100, .inl (A5 3))), ((o 5), .inl (cI, 3, .inl (A5 4))), ((o 6), .inl (cI, 26, .inl (A5 5))), ((o 7), .inl (cI, 100, .inl (A5 6))), ((o 8), .inl (cI, 100, .inl (A5 7))), ((o 9), .inl (cI, 100, .inl (A5 8))), ((o 10), .inl (cI, 26, .inl (A5 9))), ((o 11), .inl (cI, 104, .inl (A5 10))), ((o 12), .inl (cI, 80, .inl (A5 11))), ((o 13), .inl (cI, 320, .inl (A5 12))), ((o 14), .inl (cI, 200, .inl (A5 13))), ((o 15), .inl (cI, 200, .inl (A5 14))), ((o 16), .inl (cI, 4, .inl (A5 15))), ((o 17), .inl (cI, 32, .inl (A5 16))), ((o 18), .inl (cI, 32, .inl (upd (A5 17) x2.toNatClampNeg ((((f_M_channel ((A5 18) ((A5 4) (0 : Int32).toNatClampNeg).toNatClampNeg)) <<< ((16 : Int32) &&& 31)) ||| ((f_M_channel ((A5 18) ((A5 4) (1 : Int32).toNatClampNeg).toNatClampNeg)) <<< ((8 : Int32) &&& 31))) ||| (f_M_channel ((A5 18) ((A5 4) (2 : Int32).toNatClampNeg).toNatClampNeg)))))), ((o 19), .inl (cI, 100, .inl (A5 18)))] := hD
        refine lv_iinc (k := 2) (v := (x2 + (1 : Int32))) hx hb d_M_run_119 hl rfl (by rfl) (by decide) rfl (fun ls hl => ?_)
        have hl : lv_has ls 3 [(2, .int (x2 + (1 : Int32))), (0, .ref (o 0)), (1, .int x1)] := hl
        refine lv_goto (tgt := 26) hx hb d_M_run_122 (by decide) ?_
        have hl : lv_has ls 3 [(0, .ref (o 0)), (1, .int x1), (2, .int (x2 + (1 : Int32)))] := lv_sub hl [1, 2, 0] rfl
        exact ih x1 (x2 + (1 : Int32)) F5 (va_up A5 17 (upd (A5 17) x2.toNatClampNeg ((((f_M_channel ((A5 18) ((A5 4) (0 : Int32).toNatClampNeg).toNatClampNeg)) <<< ((16 : Int32) &&& 31)) ||| ((f_M_channel ((A5 18) ((A5 4) (1 : Int32).toNatClampNeg).toNatClampNeg)) <<< ((8 : Int32) &&& 31))) ||| (f_M_channel ((A5 18) ((A5 4) (2 : Int32).toNatClampNeg).toNatClampNeg))))) _ _ _ hl hP hD hS hf
  rw [lg_entry_eq]
  generalize (lg_sl (([.ref (o 0), .int u1] : List Value)) ++ List.replicate (3 - (lg_sl (([.ref (o 0), .int u1] : List Value))).length) Slot.unset).toArray = ls at hl ⊢
  have hl : lv_has ls 3 [(0, .ref (o 0)), (1, .int u1)] := hl
  unfold f_M_run at hf
  refine lv_aload_n hx hb d_M_run_0 rfl (lv_at hl 0 rfl) ?_
  refine lv_aload_n hx hb d_M_run_1 rfl (lv_at hl 0 rfl) ?_
  refine va_get (D := (dC, dI)) (ci := 4) (v := .int (Fa 2)) (C := R_M) (T := T_M) (N := 29) hx hb hts in_M hown hK hP 0 rfl rfl 3 (by decide) (hts _ mw_506) (fun _ h9 => h9) rfl d_M_run_2 ?_
  refine lv_if_ne (tgt := 12) hx hb d_M_run_5 (by decide) (fun h5_1 => ?_) (fun h5_1 => ?_)
  · rw [if_neg h5_1] at hf
    refine lv_iconst (v := 0) hx hb d_M_run_12 (by decide) ?_
    refine va_put (D := (dC, dI)) (ci := 4) (v := .int (0 : Int32)) (ty := .int) (C := R_M) (T := T_M) (N := 29) hx hb hts in_M ty_M ty_M_ok nm_M hown hK hP hD hS 0 rfl rfl 0 (by decide) (hts _ mw_503) (fun _ h9 => h9) rfl (by decide +kernel) rfl rfl (Nat.le_of_ble_eq_true rfl) d_M_run_13 (fun H locs hP hD hS => ?_)
    have hP : va_P (dC, dI) vC [((o 0), .inr (4, [.int (0 : Int32), .int (Fa 1), .ref (o 1), .int (Fa 2), .ref (o 2), .ref (o 3), .ref (o 4), .ref (o 5), .ref (o 6), .int (Fa 3), .ref (o 7), .ref (o 8), .ref (o 9), .ref (o 10), .ref (o 11), .int (Fa 4), .int (Fa 5), .int (Fa 6), .ref (o 12), .ref (o 13), .int (Fa 7), .ref (o 14), .ref (o 15), .int (Fa 8), .int (Fa 9), .ref (o 16), .ref (o 17), .ref (o 18), .ref (o 19)])), ((o 1), .inl (cI, 160, .inl (Aa 0))), ((o 2), .inl (cI, 100, .inl (Aa 1))), ((o 3), .inl (cI, 100, .inl (Aa 2))), ((o 4), .inl (cI, 100, .inl (Aa 3))), ((o 5), .inl (cI, 3, .inl (Aa 4))), ((o 6), .inl (cI, 26, .inl (Aa 5))), ((o 7), .inl (cI, 100, .inl (Aa 6))), ((o 8), .inl (cI, 100, .inl (Aa 7))), ((o 9), .inl (cI, 100, .inl (Aa 8))), ((o 10), .inl (cI, 26, .inl (Aa 9))), ((o 11), .inl (cI, 104, .inl (Aa 10))), ((o 12), .inl (cI, 80, .inl (Aa 11))), ((o 13), .inl (cI, 320, .inl (Aa 12))), ((o 14), .inl (cI, 200, .inl (Aa 13))), ((o 15), .inl (cI, 200, .inl (Aa 14))), ((o 16), .inl (cI, 4, .inl (Aa 15))), ((o 17), .inl (cI, 32, .inl (Aa 16))), ((o 18), .inl (cI, 32, .inl (Aa 17))), ((o 19), .inl (cI, 100, .inl (Aa 18)))] H := hP
    have hD : va_D (va_A (wM o cI Fa Aa) s.heap.size) [((o 0), .inr (4, [.int (0 : Int32), .int (Fa 1), .ref (o 1), .int (Fa 2), .ref (o 2), .ref (o 3), .ref (o 4), .ref (o 5), .ref (o 6), .int (Fa 3), .ref (o 7), .ref (o 8), .ref (o 9), .ref (o 10), .ref (o 11), .int (Fa 4), .int (Fa 5), .int (Fa 6), .ref (o 12), .ref (o 13), .int (Fa 7), .ref (o 14), .ref (o 15), .int (Fa 8), .int (Fa 9), .ref (o 16), .ref (o 17), .ref (o 18), .ref (o 19)])), ((o 1), .inl (cI, 160, .inl (Aa 0))), ((o 2), .inl (cI, 100, .inl (Aa 1))), ((o 3), .inl (cI, 100, .inl (Aa 2))), ((o 4), .inl (cI, 100, .inl (Aa 3))), ((o 5), .inl (cI, 3, .inl (Aa 4))), ((o 6), .inl (cI, 26, .inl (Aa 5))), ((o 7), .inl (cI, 100, .inl (Aa 6))), ((o 8), .inl (cI, 100, .inl (Aa 7))), ((o 9), .inl (cI, 100, .inl (Aa 8))), ((o 10), .inl (cI, 26, .inl (Aa 9))), ((o 11), .inl (cI, 104, .inl (Aa 10))), ((o 12), .inl (cI, 80, .inl (Aa 11))), ((o 13), .inl (cI, 320, .inl (Aa 12))), ((o 14), .inl (cI, 200, .inl (Aa 13))), ((o 15), .inl (cI, 200, .inl (Aa 14))), ((o 16), .inl (cI, 4, .inl (Aa 15))), ((o 17), .inl (cI, 32, .inl (Aa 16))), ((o 18), .inl (cI, 32, .inl (Aa 17))), ((o 19), .inl (cI, 100, .inl (Aa 18)))] := hD
    refine lv_aload_n hx hb d_M_run_16 rfl (lv_at hl 0 rfl) ?_
    refine va_get (D := (dC, dI)) (ci := 4) (v := .int (0 : Int32)) (C := R_M) (T := T_M) (N := 29) hx hb hts in_M hown hK hP 0 rfl rfl 0 (by decide) (hts _ mw_503) (fun _ h9 => h9) rfl d_M_run_17 ?_
    refine lv_if_le (tgt := 24) hx hb d_M_run_20 (by decide) (fun _ => ?_) (fun h => absurd h (by decide))
    refine lv_iconst (v := 0) hx hb d_M_run_24 (by decide) ?_
    refine lv_istore_n hx hb d_M_run_25 rfl hl (by decide) rfl (fun ls hl => ?_)
    have hl : lv_has ls 3 [(2, .int (0 : Int32)), (0, .ref (o 0)), (1, .int u1)] := hl
    have hl : lv_has ls 3 [(0, .ref (o 0)), (1, .int u1), (2, .int (0 : Int32))] := lv_sub hl [1, 2, 0] rfl
    exact L26 400 u1 (0 : Int32) (upd Fa 0 (0 : Int32)) Aa _ _ _ hl hP hD hS hf
  · rw [if_pos h5_1] at hf
    refine lv_iconst (v := 1) hx hb d_M_run_8 (by decide) ?_
    refine lv_goto (tgt := 13) hx hb d_M_run_9 (by decide) ?_
    refine va_put (D := (dC, dI)) (ci := 4) (v := .int (1 : Int32)) (ty := .int) (C := R_M) (T := T_M) (N := 29) hx hb hts in_M ty_M ty_M_ok nm_M hown hK hP hD hS 0 rfl rfl 0 (by decide) (hts _ mw_503) (fun _ h9 => h9) rfl (by decide +kernel) rfl rfl (Nat.le_of_ble_eq_true rfl) d_M_run_13 (fun H locs hP hD hS => ?_)
    have hP : va_P (dC, dI) vC [((o 0), .inr (4, [.int (1 : Int32), .int (Fa 1), .ref (o 1), .int (Fa 2), .ref (o 2), .ref (o 3), .ref (o 4), .ref (o 5), .ref (o 6), .int (Fa 3), .ref (o 7), .ref (o 8), .ref (o 9), .ref (o 10), .ref (o 11), .int (Fa 4), .int (Fa 5), .int (Fa 6), .ref (o 12), .ref (o 13), .int (Fa 7), .ref (o 14), .ref (o 15), .int (Fa 8), .int (Fa 9), .ref (o 16), .ref (o 17), .ref (o 18), .ref (o 19)])), ((o 1), .inl (cI, 160, .inl (Aa 0))), ((o 2), .inl (cI, 100, .inl (Aa 1))), ((o 3), .inl (cI, 100, .inl (Aa 2))), ((o 4), .inl (cI, 100, .inl (Aa 3))), ((o 5), .inl (cI, 3, .inl (Aa 4))), ((o 6), .inl (cI, 26, .inl (Aa 5))), ((o 7), .inl (cI, 100, .inl (Aa 6))), ((o 8), .inl (cI, 100, .inl (Aa 7))), ((o 9), .inl (cI, 100, .inl (Aa 8))), ((o 10), .inl (cI, 26, .inl (Aa 9))), ((o 11), .inl (cI, 104, .inl (Aa 10))), ((o 12), .inl (cI, 80, .inl (Aa 11))), ((o 13), .inl (cI, 320, .inl (Aa 12))), ((o 14), .inl (cI, 200, .inl (Aa 13))), ((o 15), .inl (cI, 200, .inl (Aa 14))), ((o 16), .inl (cI, 4, .inl (Aa 15))), ((o 17), .inl (cI, 32, .inl (Aa 16))), ((o 18), .inl (cI, 32, .inl (Aa 17))), ((o 19), .inl (cI, 100, .inl (Aa 18)))] H := hP
    have hD : va_D (va_A (wM o cI Fa Aa) s.heap.size) [((o 0), .inr (4, [.int (1 : Int32), .int (Fa 1), .ref (o 1), .int (Fa 2), .ref (o 2), .ref (o 3), .ref (o 4), .ref (o 5), .ref (o 6), .int (Fa 3), .ref (o 7), .ref (o 8), .ref (o 9), .ref (o 10), .ref (o 11), .int (Fa 4), .int (Fa 5), .int (Fa 6), .ref (o 12), .ref (o 13), .int (Fa 7), .ref (o 14), .ref (o 15), .int (Fa 8), .int (Fa 9), .ref (o 16), .ref (o 17), .ref (o 18), .ref (o 19)])), ((o 1), .inl (cI, 160, .inl (Aa 0))), ((o 2), .inl (cI, 100, .inl (Aa 1))), ((o 3), .inl (cI, 100, .inl (Aa 2))), ((o 4), .inl (cI, 100, .inl (Aa 3))), ((o 5), .inl (cI, 3, .inl (Aa 4))), ((o 6), .inl (cI, 26, .inl (Aa 5))), ((o 7), .inl (cI, 100, .inl (Aa 6))), ((o 8), .inl (cI, 100, .inl (Aa 7))), ((o 9), .inl (cI, 100, .inl (Aa 8))), ((o 10), .inl (cI, 26, .inl (Aa 9))), ((o 11), .inl (cI, 104, .inl (Aa 10))), ((o 12), .inl (cI, 80, .inl (Aa 11))), ((o 13), .inl (cI, 320, .inl (Aa 12))), ((o 14), .inl (cI, 200, .inl (Aa 13))), ((o 15), .inl (cI, 200, .inl (Aa 14))), ((o 16), .inl (cI, 4, .inl (Aa 15))), ((o 17), .inl (cI, 32, .inl (Aa 16))), ((o 18), .inl (cI, 32, .inl (Aa 17))), ((o 19), .inl (cI, 100, .inl (Aa 18)))] := hD
    refine lv_aload_n hx hb d_M_run_16 rfl (lv_at hl 0 rfl) ?_
    refine va_get (D := (dC, dI)) (ci := 4) (v := .int (1 : Int32)) (C := R_M) (T := T_M) (N := 29) hx hb hts in_M hown hK hP 0 rfl rfl 0 (by decide) (hts _ mw_503) (fun _ h9 => h9) rfl d_M_run_17 ?_
    refine lv_if_le (tgt := 24) hx hb d_M_run_20 (by decide) (fun h => absurd h (by decide)) (fun _ => ?_)
    cases hf
    exact W.vret hx hb hr (fun t ht hW => ⟨⟨(), rfl, trivial, by rw [ht]; exact hP, va_K.moved hW.alike hK, hD⟩, hS.F ht⟩) hS.2.2 d_M_run_23
def f_M_pixel_J14 (x1 : Int32) (x2 : Int32) (z0 : Int32) (F : ST_F) (A : ST_A) : Option (Int32 × ST_F × ST_A) := if z0 ≤ 0 then (ra_g (((8 : Int32) * x2) + x1) 32 (some (((A 16) (((8 : Int32) * x2) + x1).toNatClampNeg), (upd F 0 z0), A))) else (some ((0 : Int32), (upd F 0 z0), A))
def f_M_pixel (u1 : Int32) (u2 : Int32) (Fa : ST_F) (Aa : ST_A) : Option (Int32 × ST_F × ST_A) := if (f_M_noPoint u1 u2) = 0 then (f_M_pixel_J14 u1 u2 (0 : Int32) Fa Aa) else (f_M_pixel_J14 u1 u2 (1 : Int32) Fa Aa)
set_option maxHeartbeats 4000000 in
set_option maxRecDepth 100000 in
theorem k_M_pixel (l : Launch) (dC : Nat → ClassId) (dI : Nat → Nat → Nat) (o : Nat → Nat) (cI : ClassId) (sz : Nat) (Fa : ST_F) (Aa : ST_A) (u1 : Int32) (u2 : Int32) (r0 : Int32) (F9 : ST_F) (A9 : ST_A) (hf : f_M_pixel u1 u2 Fa Aa = some (r0, F9, A9)) : cc_MetI l y_M_pixel (Cond.code y_M_pixel b_M_pixel 3 (some .int) :: wA) ({ frames := 1, cells := 0, slots := 0, locals := 21 } : Room) (dC, dI) vC [(cI, .int)] ([.ref (o 0), .int u1, .int u2] : List Value) (wM o cI Fa Aa) sz (wM o cI F9 A9) r0 := by
  refine Met.ofW (cc := b_M_pixel) (maxL := 3) (ret := (some .int)) (by decide) rfl ?_
  intro p e s m args below meth c s₁ B hml hv
  obtain ⟨rfl, hsz, hP, hK, hD0⟩ := hv
  have hx := B.exec
  have hb := B.bytes
  have hr := B.returns
  have hts := fun w h => atoms_spec (ws := (Cond.code y_M_pixel b_M_pixel 3 (some .int) :: wA)) B.pre w (List.mem_cons_of_mem _ h)
  have hown : s.vm.findClass R_M = some m.cls := findClass_of_methodNamed B.named
  have hlocks := B.notSynchronized
  subst hsz
  have hD := hD0.self (sz := s.heap.size)
  have hA : ∀ q : Nat, s.heap.size ≤ q → va_A (wM o cI Fa Aa) s.heap.size q := fun q h => Or.inr h
  have hS : va_S (va_A (wM o cI Fa Aa) s.heap.size) s.heap s.heap [] := va_S.rf
  have hl := lv_entry (([.ref (o 0), .int u1, .int u2] : List Value)) (n := 3) (Nat.le_of_ble_eq_true rfl)
  have J14 : ∀ (x1 : Int32) (x2 : Int32) (z0 : Int32) (F : ST_F) (A : ST_A) (H : Heap) (locs : List Loc) (ls : Array Slot), lv_has ls 3 [(0, .ref (o 0)), (1, .int x1), (2, .int x2)] → va_P (dC, dI) vC (wM o cI F A) H → va_D (va_A (wM o cI Fa Aa) s.heap.size) (wM o cI F A) → va_S (va_A (wM o cI Fa Aa) s.heap.size) s.heap H locs → f_M_pixel_J14 x1 x2 z0 F A = some (r0, F9, A9) → W p l e (headSpec (Cond.code y_M_pixel b_M_pixel 3 (some .int) :: wA) ({ frames := 1, cells := 0, slots := 0, locals := 21 } : Room)).room s m ([.ref (o 0), .int u1, .int u2] : List Value).toArray below meth c H locs 0 0 (MQ below (cc_Qi (dC, dI) vC [(cI, .int)] (wM o cI Fa Aa) s.heap.size (wM o cI F9 A9) r0) ([.ref (o 0), .int u1, .int u2] : List Value).toArray s 0 0 (va_A (wM o cI Fa Aa) s.heap.size)) (F0 m 14 ls [.int z0, .ref (o 0)]) := by
    intro x1 x2 z0 F A H locs ls hl hP hD hS hf
    unfold f_M_pixel_J14 at hf
    refine va_put (D := (dC, dI)) (ci := 4) (v := .int z0) (ty := .int) (C := R_M) (T := T_M) (N := 29) hx hb hts in_M ty_M ty_M_ok nm_M hown hK hP hD hS 0 rfl rfl 0 (by decide) (hts _ mw_503) (fun _ h9 => h9) rfl (by decide +kernel) rfl rfl (Nat.le_of_ble_eq_true rfl) d_M_pixel_14 (fun H locs hP hD hS => ?_)
    have hP : va_P (dC, dI) vC [((o 0), .inr (4, [.int z0, .int (F 1), .ref (o 1), .int (F 2), .ref (o 2), .ref (o 3), .ref (o 4), .ref (o 5), .ref (o 6), .int (F 3), .ref (o 7), .ref (o 8), .ref (o 9), .ref (o 10), .ref (o 11), .int (F 4), .int (F 5), .int (F 6), .ref (o 12), .ref (o 13), .int (F 7), .ref (o 14), .ref (o 15), .int (F 8), .int (F 9), .ref (o 16), .ref (o 17), .ref (o 18), .ref (o 19)])), ((o 1), .inl (cI, 160, .inl (A 0))), ((o 2), .inl (cI, 100, .inl (A 1))), ((o 3), .inl (cI, 100, .inl (A 2))), ((o 4), .inl (cI, 100, .inl (A 3))), ((o 5), .inl (cI, 3, .inl (A 4))), ((o 6), .inl (cI, 26, .inl (A 5))), ((o 7), .inl (cI, 100, .inl (A 6))), ((o 8), .inl (cI, 100, .inl (A 7))), ((o 9), .inl (cI, 100, .inl (A 8))), ((o 10), .inl (cI, 26, .inl (A 9))), ((o 11), .inl (cI, 104, .inl (A 10))), ((o 12), .inl (cI, 80, .inl (A 11))), ((o 13), .inl (cI, 320, .inl (A 12))), ((o 14), .inl (cI, 200, .inl (A 13))), ((o 15), .inl (cI, 200, .inl (A 14))), ((o 16), .inl (cI, 4, .inl (A 15))), ((o 17), .inl (cI, 32, .inl (A 16))), ((o 18), .inl (cI, 32, .inl (A 17))), ((o 19), .inl (cI, 100, .inl (A 18)))] H := hP
    have hD : va_D (va_A (wM o cI Fa Aa) s.heap.size) [((o 0), .inr (4, [.int z0, .int (F 1), .ref (o 1), .int (F 2), .ref (o 2), .ref (o 3), .ref (o 4), .ref (o 5), .ref (o 6), .int (F 3), .ref (o 7), .ref (o 8), .ref (o 9), .ref (o 10), .ref (o 11), .int (F 4), .int (F 5), .int (F 6), .ref (o 12), .ref (o 13), .int (F 7), .ref (o 14), .ref (o 15), .int (F 8), .int (F 9), .ref (o 16), .ref (o 17), .ref (o 18), .ref (o 19)])), ((o 1), .inl (cI, 160, .inl (A 0))), ((o 2), .inl (cI, 100, .inl (A 1))), ((o 3), .inl (cI, 100, .inl (A 2))), ((o 4), .inl (cI, 100, .inl (A 3))), ((o 5), .inl (cI, 3, .inl (A 4))), ((o 6), .inl (cI, 26, .inl (A 5))), ((o 7), .inl (cI, 100, .inl (A 6))), ((o 8), .inl (cI, 100, .inl (A 7))), ((o 9), .inl (cI, 100, .inl (A 8))), ((o 10), .inl (cI, 26, .inl (A 9))), ((o 11), .inl (cI, 104, .inl (A 10))), ((o 12), .inl (cI, 80, .inl (A 11))), ((o 13), .inl (cI, 320, .inl (A 12))), ((o 14), .inl (cI, 200, .inl (A 13))), ((o 15), .inl (cI, 200, .inl (A 14))), ((o 16), .inl (cI, 4, .inl (A 15))), ((o 17), .inl (cI, 32, .inl (A 16))), ((o 18), .inl (cI, 32, .inl (A 17))), ((o 19), .inl (cI, 100, .inl (A 18)))] := hD
    refine lv_aload_n hx hb d_M_pixel_17 rfl (lv_at hl 0 rfl) ?_
    refine va_get (D := (dC, dI)) (ci := 4) (v := .int z0) (C := R_M) (T := T_M) (N := 29) hx hb hts in_M hown hK hP 0 rfl rfl 0 (by decide) (hts _ mw_503) (fun _ h9 => h9) rfl d_M_pixel_18 ?_
    refine lv_if_le (tgt := 28) hx hb d_M_pixel_21 (by decide) (fun h21_2 => ?_) (fun h21_2 => ?_)
    · rw [if_pos h21_2] at hf
      refine lv_aload_n hx hb d_M_pixel_28 rfl (lv_at hl 0 rfl) ?_
      refine va_get (D := (dC, dI)) (ci := 4) (v := .ref (o 17)) (C := R_M) (T := T_M) (N := 29) hx hb hts in_M hown hK hP 0 rfl rfl 26 (by decide) (hts _ mw_529) (fun _ h9 => h9) rfl d_M_pixel_29 ?_
      refine lv_bipush (v := 8) hx hb d_M_pixel_32 (by decide) ?_
      refine lv_iload_n hx hb d_M_pixel_34 rfl (lv_at hl 2 rfl) ?_
      refine lv_imul hx hb d_M_pixel_35 ?_
      refine lv_iload_n hx hb d_M_pixel_36 rfl (lv_at hl 1 rfl) ?_
      refine lv_iadd hx hb d_M_pixel_37 ?_
      obtain ⟨hi, hf⟩ := ra_g_some hf
      refine va_iald hx hb hK hP 17 0 rfl rfl hi d_M_pixel_38 ?_
      cases hf
      exact W.iret hx hb hr (fun t ht hW => ⟨⟨_, (), rfl, rfl, by rw [ht]; exact hP, va_K.moved hW.alike hK, hD⟩, hS.F ht⟩) hS.2.2 d_M_pixel_39
    · rw [if_neg h21_2] at hf
      refine lv_iconst (v := 0) hx hb d_M_pixel_24 (by decide) ?_
      refine lv_goto (tgt := 39) hx hb d_M_pixel_25 (by decide) ?_
      cases hf
      exact W.iret hx hb hr (fun t ht hW => ⟨⟨_, (), rfl, rfl, by rw [ht]; exact hP, va_K.moved hW.alike hK, hD⟩, hS.F ht⟩) hS.2.2 d_M_pixel_39
  rw [lg_entry_eq]
  generalize (lg_sl (([.ref (o 0), .int u1, .int u2] : List Value)) ++ List.replicate (3 - (lg_sl (([.ref (o 0), .int u1, .int u2] : List Value))).length) Slot.unset).toArray = ls at hl ⊢
  have hl : lv_has ls 3 [(0, .ref (o 0)), (1, .int u1), (2, .int u2)] := hl
  unfold f_M_pixel at hf
  refine lv_aload_n hx hb d_M_pixel_0 rfl (lv_at hl 0 rfl) ?_
  refine lv_iload_n hx hb d_M_pixel_1 rfl (lv_at hl 1 rfl) ?_
  refine lv_iload_n hx hb d_M_pixel_2 rfl (lv_at hl 2 rfl) ?_
  refine cc_calls (va_runS (As := [.int u1, .int u2]) (rest := [.ref (o 0)]) ⟨hx, hb, hml, hown, hts⟩ (k_M_noPoint l u1 u2 _ rfl) (cw_S 2 hts mw_773 mw_774 mw_5 mw_775 rfl rfl hd_M_noPoint ⟨Nat.le_of_ble_eq_true rfl, Nat.le_of_ble_eq_true rfl⟩) cc_preS rfl rfl hl.1 rfl (lv_room (Nat.le_of_ble_eq_true rfl)) d_M_pixel_3 ⟨Nat.zero_le _, Nat.zero_le _⟩) ?_
  refine lv_if_eq (tgt := 13) hx hb d_M_pixel_6 (by decide) (fun h6_1 => ?_) (fun h6_1 => ?_)
  · rw [if_pos h6_1] at hf
    refine lv_iconst (v := 0) hx hb d_M_pixel_13 (by decide) ?_
    have hl : lv_has ls 3 [(0, .ref (o 0)), (1, .int u1), (2, .int u2)] := lv_sub hl [0, 1, 2] rfl
    exact J14 u1 u2 (0 : Int32) Fa Aa _ _ _ hl hP hD hS hf
  · rw [if_neg h6_1] at hf
    refine lv_iconst (v := 1) hx hb d_M_pixel_9 (by decide) ?_
    refine lv_goto (tgt := 14) hx hb d_M_pixel_10 (by decide) ?_
    have hl : lv_has ls 3 [(0, .ref (o 0)), (1, .int u1), (2, .int u2)] := lv_sub hl [0, 1, 2] rfl
    exact J14 u1 u2 (1 : Int32) Fa Aa _ _ _ hl hP hD hS hf
