def f_C_functionOfTwo_J24 (inner : Int32 → ST_F → ST_A → Option (Int32 × ST_F × ST_A)) (x1 : Int32) (x2 : Int32) (x3 : Int32) (z0 : Int32) (F : ST_F) (A : ST_A) : Option (Int32 × ST_F × ST_A) := if x1 = (68 : Int32) then (ra_bi (f_C_dotted x3 z0 F A) (fun r5 F5 A5 => some (r5, F5, A5))) else (if x1 = (77 : Int32) then (ra_bi (f_C_matrix x3 z0 F A) (fun r7 F7 A7 => some (r7, F7, A7))) else (if x1 = (78 : Int32) then (ra_bi (f_C_pairwise (6 : Int32) x3 z0 F A) (fun r9 F9 A9 => some (r9, F9, A9))) else (if x1 = (83 : Int32) then (ra_bi (f_C_pairwise (8 : Int32) x3 z0 F A) (fun r11 F11 A11 => some (r11, F11, A11))) else (if x1 = (88 : Int32) then (ra_bi (f_C_pairwise (7 : Int32) x3 z0 F A) (fun r13 F13 A13 => some (r13, F13, A13))) else (some ((-1 : Int32), F, A))))))
def f_C_functionOfTwo (inner : Int32 → ST_F → ST_A → Option (Int32 × ST_F × ST_A)) (u1 : Int32) (u2 : Int32) (Fa : ST_F) (Aa : ST_A) : Option (Int32 × ST_F × ST_A) := ra_bi (inner u2 Fa Aa) (fun r1 F1 A1 => ra_bi (f_C_takes (44 : Int32) F1 A1) (fun r2 F2 A2 => if r2 = 0 then (f_C_functionOfTwo_J24 inner u1 u2 r1 (-1 : Int32) F2 A2) else (ra_bi (inner u2 F2 A2) (fun r14 F14 A14 => f_C_functionOfTwo_J24 inner u1 u2 r1 r14 F14 A14))))
set_option maxHeartbeats 4000000 in
set_option maxRecDepth 100000 in
theorem k_C_functionOfTwo (l : Launch) (dC : Nat → ClassId) (dI : Nat → Nat → Nat) (a : Nat → Nat) (cI cC : ClassId) (fI lI : Nat) (inner : Int32 → ST_F → ST_A → Option (Int32 × ST_F × ST_A)) (hin : ∀ (sz : Nat) (Fa : ST_F) (Aa : ST_A) (u1 r0 : Int32) (F9 : ST_F) (A9 : ST_A), inner u1 Fa Aa = some (r0, F9, A9) → cc_MetI l y_C_sum (Cond.code y_C_sum b_C_sum 4 (some .int) :: wA) ({ frames := fI, cells := 0, slots := 0, locals := lI } : Room) (dC, dI) vC [(cI, .int), (cC, .char)] ([.ref (a 0), .int u1] : List Value) (wC a cI cC Fa Aa) sz (wC a cI cC F9 A9) r0) (sz : Nat) (Fa : ST_F) (Aa : ST_A) (u1 : Int32) (u2 : Int32) (r0 : Int32) (F9 : ST_F) (A9 : ST_A) (hf : f_C_functionOfTwo inner u1 u2 Fa Aa = some (r0, F9, A9)) : cc_MetI l y_C_functionOfTwo (Cond.code y_C_functionOfTwo b_C_functionOfTwo 5 (some .int) :: wA) ({ frames := (fI + 6), cells := 0, slots := 0, locals := (lI + 200) } : Room) (dC, dI) vC [(cI, .int), (cC, .char)] ([.ref (a 0), .int u1, .int u2] : List Value) (wC a cI cC Fa Aa) sz (wC a cI cC F9 A9) r0 := by
  refine Met.ofW (cc := b_C_functionOfTwo) (maxL := 5) (ret := (some .int)) (by decide) rfl ?_
  intro p e s m args below meth c s₁ B hml hv
  obtain ⟨rfl, hsz, hP, hK, hD0⟩ := hv
  have hx := B.exec
  have hb := B.bytes
  have hr := B.returns
  have hts := fun w h => atoms_spec (ws := (Cond.code y_C_functionOfTwo b_C_functionOfTwo 5 (some .int) :: wA)) B.pre w (List.mem_cons_of_mem _ h)
  have hown : s.vm.findClass R_C = some m.cls := findClass_of_methodNamed B.named
  have hlocks := B.notSynchronized
  subst hsz
  have hD := hD0.self (sz := s.heap.size)
  have hA : ∀ q : Nat, s.heap.size ≤ q → va_A (wC a cI cC Fa Aa) s.heap.size q := fun q h => Or.inr h
  have hS : va_S (va_A (wC a cI cC Fa Aa) s.heap.size) s.heap s.heap [] := va_S.rf
  have hl := lv_entry (([.ref (a 0), .int u1, .int u2] : List Value)) (n := 5) (Nat.le_of_ble_eq_true rfl)
  have J24 : ∀ (x1 : Int32) (x2 : Int32) (x3 : Int32) (z0 : Int32) (F : ST_F) (A : ST_A) (H : Heap) (locs : List Loc) (ls : Array Slot), lv_has ls 5 [(0, .ref (a 0)), (1, .int x1), (2, .int x2), (3, .int x3)] → va_P (dC, dI) vC (wC a cI cC F A) H → va_D (va_A (wC a cI cC Fa Aa) s.heap.size) (wC a cI cC F A) → va_S (va_A (wC a cI cC Fa Aa) s.heap.size) s.heap H locs → f_C_functionOfTwo_J24 inner x1 x2 x3 z0 F A = some (r0, F9, A9) → W p l e (headSpec (Cond.code y_C_functionOfTwo b_C_functionOfTwo 5 (some .int) :: wA) ({ frames := (fI + 6), cells := 0, slots := 0, locals := (lI + 200) } : Room)).room s m ([.ref (a 0), .int u1, .int u2] : List Value).toArray below meth c H locs 0 0 (MQ below (cc_Qi (dC, dI) vC [(cI, .int), (cC, .char)] (wC a cI cC Fa Aa) s.heap.size (wC a cI cC F9 A9) r0) ([.ref (a 0), .int u1, .int u2] : List Value).toArray s 0 0 (va_A (wC a cI cC Fa Aa) s.heap.size)) (F0 m 24 ls [.int z0]) := by
    intro x1 x2 x3 z0 F A H locs ls hl hP hD hS hf
    unfold f_C_functionOfTwo_J24 at hf
    refine lv_istore hx hb d_C_functionOfTwo_24 hl (by decide) rfl (fun ls hl => ?_)
    have hl : lv_has ls 5 [(4, .int z0), (0, .ref (a 0)), (1, .int x1), (2, .int x2), (3, .int x3)] := hl
    refine lv_iload_n hx hb d_C_functionOfTwo_26 rfl (lv_at hl 2 rfl) ?_
    by_cases h27_4 : x1 = (68 : Int32)
    · rw [if_pos h27_4] at hf
      refine lv_lookup (tgt := 106) (off := 79) hx hb d_C_functionOfTwo_27 (by decide) (by rw [h27_4]; decide) (by decide) ?_
      refine lv_aload_n hx hb d_C_functionOfTwo_106 rfl (lv_at hl 1 rfl) ?_
      refine lv_iload_n hx hb d_C_functionOfTwo_107 rfl (lv_at hl 4 rfl) ?_
      refine lv_iload hx hb d_C_functionOfTwo_108 (lv_at hl 0 rfl) ?_
      have hP : va_P (dC, dI) vC (wC a cI cC F A) H := hP
      have hD : va_D (va_A (wC a cI cC Fa Aa) s.heap.size) (wC a cI cC F A) := hD
      obtain ⟨r5, F5, A5, hc, hf⟩ := ra_bi_some hf
      refine cc_calli (va_runV (As := [.int x3, .int z0]) (rest := []) ⟨hx, hb, hml, hown, hts⟩ (k_C_dotted l dC dI a cI cC H.size F A x3 z0 r5 F5 A5 hc) (cw_V 2 hts mw_256 mw_258 ms_C_dotted mw_3 mw_259 rfl rfl rfl hd_C_dotted ⟨(show 1 + 1 ≤ (fI + 6) by omega), (show 8 + (7 + 11) + 24 ≤ (lI + 200) by omega)⟩) (cc_preV hK hP hD rfl (q0 := 0) rfl) rfl rfl hl.1 rfl (lv_room (Nat.le_of_ble_eq_true rfl)) d_C_functionOfTwo_110 ⟨Nat.zero_le _, Nat.zero_le _⟩) hD hS hA (fun H locs hP hD hS => ?_)
      cases hf
      exact W.iret hx hb hr (fun t ht hW => ⟨⟨_, (), rfl, rfl, by rw [ht]; exact hP, va_K.moved hW.alike hK, hD⟩, hS.F ht⟩) hS.2.2 d_C_functionOfTwo_113
    · rw [if_neg h27_4] at hf
      by_cases h27_6 : x1 = (77 : Int32)
      · rw [if_pos h27_6] at hf
        refine lv_lookup (tgt := 114) (off := 87) hx hb d_C_functionOfTwo_27 (by decide) (by rw [h27_6]; decide) (by decide) ?_
        refine lv_aload_n hx hb d_C_functionOfTwo_114 rfl (lv_at hl 1 rfl) ?_
        refine lv_iload_n hx hb d_C_functionOfTwo_115 rfl (lv_at hl 4 rfl) ?_
        refine lv_iload hx hb d_C_functionOfTwo_116 (lv_at hl 0 rfl) ?_
        have hP : va_P (dC, dI) vC (wC a cI cC F A) H := hP
        have hD : va_D (va_A (wC a cI cC Fa Aa) s.heap.size) (wC a cI cC F A) := hD
        obtain ⟨r7, F7, A7, hc, hf⟩ := ra_bi_some hf
        refine cc_calli (va_runV (As := [.int x3, .int z0]) (rest := []) ⟨hx, hb, hml, hown, hts⟩ (k_C_matrix l dC dI a cI cC H.size F A x3 z0 r7 F7 A7 hc) (cw_V 2 hts mw_260 mw_262 ms_C_matrix mw_3 mw_263 rfl rfl rfl hd_C_matrix ⟨(show 2 + 1 ≤ (fI + 6) by omega), (show 8 + (3 + 11) + 47 ≤ (lI + 200) by omega)⟩) (cc_preV hK hP hD rfl (q0 := 0) rfl) rfl rfl hl.1 rfl (lv_room (Nat.le_of_ble_eq_true rfl)) d_C_functionOfTwo_118 ⟨Nat.zero_le _, Nat.zero_le _⟩) hD hS hA (fun H locs hP hD hS => ?_)
        cases hf
        exact W.iret hx hb hr (fun t ht hW => ⟨⟨_, (), rfl, rfl, by rw [ht]; exact hP, va_K.moved hW.alike hK, hD⟩, hS.F ht⟩) hS.2.2 d_C_functionOfTwo_121
      · rw [if_neg h27_6] at hf
        by_cases h27_8 : x1 = (78 : Int32)
        · rw [if_pos h27_8] at hf
          refine lv_lookup (tgt := 76) (off := 49) hx hb d_C_functionOfTwo_27 (by decide) (by rw [h27_8]; decide) (by decide) ?_
          refine lv_aload_n hx hb d_C_functionOfTwo_76 rfl (lv_at hl 1 rfl) ?_
          refine lv_bipush (v := 6) hx hb d_C_functionOfTwo_77 (by decide) ?_
          refine lv_iload_n hx hb d_C_functionOfTwo_79 rfl (lv_at hl 4 rfl) ?_
          refine lv_iload hx hb d_C_functionOfTwo_80 (lv_at hl 0 rfl) ?_
          have hP : va_P (dC, dI) vC (wC a cI cC F A) H := hP
          have hD : va_D (va_A (wC a cI cC Fa Aa) s.heap.size) (wC a cI cC F A) := hD
          obtain ⟨r9, F9, A9, hc, hf⟩ := ra_bi_some hf
          refine cc_calli (va_runV (As := [.int (6 : Int32), .int x3, .int z0]) (rest := []) ⟨hx, hb, hml, hown, hts⟩ (k_C_pairwise l dC dI a cI cC H.size F A (6 : Int32) x3 z0 r9 F9 A9 hc) (cw_V 3 hts mw_244 mw_246 ms_C_pairwise mw_3 mw_247 rfl rfl rfl hd_C_pairwise ⟨(show 2 + 1 ≤ (fI + 6) by omega), (show 8 + (10 + 11) + 42 ≤ (lI + 200) by omega)⟩) (cc_preV hK hP hD rfl (q0 := 0) rfl) rfl rfl hl.1 rfl (lv_room (Nat.le_of_ble_eq_true rfl)) d_C_functionOfTwo_82 ⟨Nat.zero_le _, Nat.zero_le _⟩) hD hS hA (fun H locs hP hD hS => ?_)
          cases hf
          exact W.iret hx hb hr (fun t ht hW => ⟨⟨_, (), rfl, rfl, by rw [ht]; exact hP, va_K.moved hW.alike hK, hD⟩, hS.F ht⟩) hS.2.2 d_C_functionOfTwo_85
        · rw [if_neg h27_8] at hf
          by_cases h27_10 : x1 = (83 : Int32)
          · rw [if_pos h27_10] at hf
            refine lv_lookup (tgt := 96) (off := 69) hx hb d_C_functionOfTwo_27 (by decide) (by rw [h27_10]; decide) (by decide) ?_
            refine lv_aload_n hx hb d_C_functionOfTwo_96 rfl (lv_at hl 1 rfl) ?_
            refine lv_bipush (v := 8) hx hb d_C_functionOfTwo_97 (by decide) ?_
            refine lv_iload_n hx hb d_C_functionOfTwo_99 rfl (lv_at hl 4 rfl) ?_
            refine lv_iload hx hb d_C_functionOfTwo_100 (lv_at hl 0 rfl) ?_
            have hP : va_P (dC, dI) vC (wC a cI cC F A) H := hP
            have hD : va_D (va_A (wC a cI cC Fa Aa) s.heap.size) (wC a cI cC F A) := hD
            obtain ⟨r11, F11, A11, hc, hf⟩ := ra_bi_some hf
            refine cc_calli (va_runV (As := [.int (8 : Int32), .int x3, .int z0]) (rest := []) ⟨hx, hb, hml, hown, hts⟩ (k_C_pairwise l dC dI a cI cC H.size F A (8 : Int32) x3 z0 r11 F11 A11 hc) (cw_V 3 hts mw_244 mw_246 ms_C_pairwise mw_3 mw_247 rfl rfl rfl hd_C_pairwise ⟨(show 2 + 1 ≤ (fI + 6) by omega), (show 8 + (10 + 11) + 42 ≤ (lI + 200) by omega)⟩) (cc_preV hK hP hD rfl (q0 := 0) rfl) rfl rfl hl.1 rfl (lv_room (Nat.le_of_ble_eq_true rfl)) d_C_functionOfTwo_102 ⟨Nat.zero_le _, Nat.zero_le _⟩) hD hS hA (fun H locs hP hD hS => ?_)
            cases hf
            exact W.iret hx hb hr (fun t ht hW => ⟨⟨_, (), rfl, rfl, by rw [ht]; exact hP, va_K.moved hW.alike hK, hD⟩, hS.F ht⟩) hS.2.2 d_C_functionOfTwo_105
          · rw [if_neg h27_10] at hf
            by_cases h27_12 : x1 = (88 : Int32)
            · rw [if_pos h27_12] at hf
              refine lv_lookup (tgt := 86) (off := 59) hx hb d_C_functionOfTwo_27 (by decide) (by rw [h27_12]; decide) (by decide) ?_
              refine lv_aload_n hx hb d_C_functionOfTwo_86 rfl (lv_at hl 1 rfl) ?_
              refine lv_bipush (v := 7) hx hb d_C_functionOfTwo_87 (by decide) ?_
              refine lv_iload_n hx hb d_C_functionOfTwo_89 rfl (lv_at hl 4 rfl) ?_
              refine lv_iload hx hb d_C_functionOfTwo_90 (lv_at hl 0 rfl) ?_
              have hP : va_P (dC, dI) vC (wC a cI cC F A) H := hP
              have hD : va_D (va_A (wC a cI cC Fa Aa) s.heap.size) (wC a cI cC F A) := hD
              obtain ⟨r13, F13, A13, hc, hf⟩ := ra_bi_some hf
              refine cc_calli (va_runV (As := [.int (7 : Int32), .int x3, .int z0]) (rest := []) ⟨hx, hb, hml, hown, hts⟩ (k_C_pairwise l dC dI a cI cC H.size F A (7 : Int32) x3 z0 r13 F13 A13 hc) (cw_V 3 hts mw_244 mw_246 ms_C_pairwise mw_3 mw_247 rfl rfl rfl hd_C_pairwise ⟨(show 2 + 1 ≤ (fI + 6) by omega), (show 8 + (10 + 11) + 42 ≤ (lI + 200) by omega)⟩) (cc_preV hK hP hD rfl (q0 := 0) rfl) rfl rfl hl.1 rfl (lv_room (Nat.le_of_ble_eq_true rfl)) d_C_functionOfTwo_92 ⟨Nat.zero_le _, Nat.zero_le _⟩) hD hS hA (fun H locs hP hD hS => ?_)
              cases hf
              exact W.iret hx hb hr (fun t ht hW => ⟨⟨_, (), rfl, rfl, by rw [ht]; exact hP, va_K.moved hW.alike hK, hD⟩, hS.F ht⟩) hS.2.2 d_C_functionOfTwo_95
            · rw [if_neg h27_12] at hf
              refine lv_lookup (tgt := 122) (off := 95) hx hb d_C_functionOfTwo_27 (by decide) ((lv_osw h27_4 (by decide)).trans ((lv_osw h27_6 (by decide)).trans ((lv_osw h27_8 (by decide)).trans ((lv_osw h27_10 (by decide)).trans ((lv_osw h27_12 (by decide)).trans (rfl)))))) (by decide) ?_
              refine lv_iconst (v := -1) hx hb d_C_functionOfTwo_122 (by decide) ?_
              cases hf
              exact W.iret hx hb hr (fun t ht hW => ⟨⟨_, (), rfl, rfl, by rw [ht]; exact hP, va_K.moved hW.alike hK, hD⟩, hS.F ht⟩) hS.2.2 d_C_functionOfTwo_123
  rw [lg_entry_eq]
  generalize (lg_sl (([.ref (a 0), .int u1, .int u2] : List Value)) ++ List.replicate (5 - (lg_sl (([.ref (a 0), .int u1, .int u2] : List Value))).length) Slot.unset).toArray = ls at hl ⊢
  have hl : lv_has ls 5 [(0, .ref (a 0)), (1, .int u1), (2, .int u2)] := hl
  unfold f_C_functionOfTwo at hf
  refine lv_aload_n hx hb d_C_functionOfTwo_0 rfl (lv_at hl 0 rfl) ?_
  refine lv_iload_n hx hb d_C_functionOfTwo_1 rfl (lv_at hl 2 rfl) ?_
  have hP : va_P (dC, dI) vC (wC a cI cC Fa Aa) s.heap := hP
  have hD : va_D (va_A (wC a cI cC Fa Aa) s.heap.size) (wC a cI cC Fa Aa) := hD
  obtain ⟨r1, F1, A1, hc, hf⟩ := ra_bi_some hf
  refine cc_calli (va_runV (As := [.int u2]) (rest := []) ⟨hx, hb, hml, hown, hts⟩ (hin  s.heap.size Fa Aa u2 r1 F1 A1 hc) (cw_V 1 hts mw_165 mw_167 ms_C_sum mw_3 mw_168 rfl rfl rfl hd_C_sum ⟨(show fI + 1 ≤ (fI + 6) by omega), (show 8 + (4 + 11) + lI ≤ (lI + 200) by omega)⟩) (cc_preV hK hP hD rfl (q0 := 0) rfl) rfl rfl hl.1 rfl (lv_room (Nat.le_of_ble_eq_true rfl)) d_C_functionOfTwo_2 ⟨Nat.zero_le _, Nat.zero_le _⟩) hD hS hA (fun H locs hP hD hS => ?_)
  refine lv_istore_n hx hb d_C_functionOfTwo_5 rfl hl (by decide) rfl (fun ls hl => ?_)
  have hl : lv_has ls 5 [(3, .int r1), (0, .ref (a 0)), (1, .int u1), (2, .int u2)] := hl
  refine lv_aload_n hx hb d_C_functionOfTwo_6 rfl (lv_at hl 1 rfl) ?_
  refine lv_bipush (v := 44) hx hb d_C_functionOfTwo_7 (by decide) ?_
  have hP : va_P (dC, dI) vC (wC a cI cC F1 A1) H := hP
  have hD : va_D (va_A (wC a cI cC Fa Aa) s.heap.size) (wC a cI cC F1 A1) := hD
  obtain ⟨r2, F2, A2, hc, hf⟩ := ra_bi_some hf
  refine cc_calli (va_runV (As := [.int (44 : Int32)]) (rest := []) ⟨hx, hb, hml, hown, hts⟩ (k_C_takes l dC dI a cI cC H.size F1 A1 (44 : Int32) r2 F2 A2 hc) (cw_V 1 hts mw_177 mw_179 ms_C_takes mw_3 mw_180 rfl rfl rfl hd_C_takes ⟨(show 1 + 1 ≤ (fI + 6) by omega), (show 8 + (2 + 11) + 20 ≤ (lI + 200) by omega)⟩) (cc_preV hK hP hD rfl (q0 := 0) rfl) rfl rfl hl.1 rfl (lv_room (Nat.le_of_ble_eq_true rfl)) d_C_functionOfTwo_9 ⟨Nat.zero_le _, Nat.zero_le _⟩) hD hS hA (fun H locs hP hD hS => ?_)
  refine lv_if_eq (tgt := 23) hx hb d_C_functionOfTwo_12 (by decide) (fun h12_3 => ?_) (fun h12_3 => ?_)
  · rw [if_pos h12_3] at hf
    refine lv_iconst (v := -1) hx hb d_C_functionOfTwo_23 (by decide) ?_
    have hl : lv_has ls 5 [(0, .ref (a 0)), (1, .int u1), (2, .int u2), (3, .int r1)] := lv_sub hl [1, 2, 3, 0] rfl
    exact J24 u1 u2 r1 (-1 : Int32) F2 A2 _ _ _ hl hP hD hS hf
  · rw [if_neg h12_3] at hf
    refine lv_aload_n hx hb d_C_functionOfTwo_15 rfl (lv_at hl 1 rfl) ?_
    refine lv_iload_n hx hb d_C_functionOfTwo_16 rfl (lv_at hl 3 rfl) ?_
    have hP : va_P (dC, dI) vC (wC a cI cC F2 A2) H := hP
    have hD : va_D (va_A (wC a cI cC Fa Aa) s.heap.size) (wC a cI cC F2 A2) := hD
    obtain ⟨r14, F14, A14, hc, hf⟩ := ra_bi_some hf
    refine cc_calli (va_runV (As := [.int u2]) (rest := []) ⟨hx, hb, hml, hown, hts⟩ (hin  H.size F2 A2 u2 r14 F14 A14 hc) (cw_V 1 hts mw_165 mw_167 ms_C_sum mw_3 mw_168 rfl rfl rfl hd_C_sum ⟨(show fI + 1 ≤ (fI + 6) by omega), (show 8 + (4 + 11) + lI ≤ (lI + 200) by omega)⟩) (cc_preV hK hP hD rfl (q0 := 0) rfl) rfl rfl hl.1 rfl (lv_room (Nat.le_of_ble_eq_true rfl)) d_C_functionOfTwo_17 ⟨Nat.zero_le _, Nat.zero_le _⟩) hD hS hA (fun H locs hP hD hS => ?_)
    refine lv_goto (tgt := 24) hx hb d_C_functionOfTwo_20 (by decide) ?_
    have hl : lv_has ls 5 [(0, .ref (a 0)), (1, .int u1), (2, .int u2), (3, .int r1)] := lv_sub hl [1, 2, 3, 0] rfl
    exact J24 u1 u2 r1 r14 F14 A14 _ _ _ hl hP hD hS hf
def f_C_vector_J39 (inner : Int32 → ST_F → ST_A → Option (Int32 × ST_F × ST_A)) (x1 : Int32) (x2 : Int32) (x3 : Int32) (F : ST_F) (A : ST_A) : Option (Int32 × ST_F × ST_A) := if x2 = (-1 : Int32) then (some ((-1 : Int32), F, A)) else (if (f_V_typeIn x2) = (1 : Int32) then (some ((-1 : Int32), F, A)) else (if (f_V_typeIn x2) = (4 : Int32) then (some ((-1 : Int32), F, A)) else (some (x2, F, A))))
def f_C_vector_L8 (inner : Int32 → ST_F → ST_A → Option (Int32 × ST_F × ST_A)) : Nat → Int32 → Int32 → Int32 → ST_F → ST_A → Option (Int32 × ST_F × ST_A)
  | 0, _, _, _, _, _ => none
  | n + 1, x1, x2, x3, F, A => if (2 : Int32) ≤ x3 then (f_C_vector_J39 inner x1 x2 x3 F A) else (ra_bi (f_C_takes (44 : Int32) F A) (fun r6 F6 A6 => if r6 = 0 then (f_C_vector_J39 inner x1 x2 x3 F6 A6) else (ra_bi (inner x1 F6 A6) (fun r8 F8 A8 => ra_bi (f_C_joined x2 r8 F8 A8) (fun r9 F9 A9 => f_C_vector_L8 inner n x1 r9 (x3 + (1 : Int32)) F9 A9)))))
def f_C_vector (inner : Int32 → ST_F → ST_A → Option (Int32 × ST_F × ST_A)) (u1 : Int32) (Fa : ST_F) (Aa : ST_A) : Option (Int32 × ST_F × ST_A) := ra_bi (inner u1 Fa Aa) (fun r1 F1 A1 => f_C_vector_L8 inner 400 u1 r1 (0 : Int32) F1 A1)
set_option maxHeartbeats 4000000 in
set_option maxRecDepth 100000 in
theorem k_C_vector (l : Launch) (dC : Nat → ClassId) (dI : Nat → Nat → Nat) (a : Nat → Nat) (cI cC : ClassId) (fI lI : Nat) (inner : Int32 → ST_F → ST_A → Option (Int32 × ST_F × ST_A)) (hin : ∀ (sz : Nat) (Fa : ST_F) (Aa : ST_A) (u1 r0 : Int32) (F9 : ST_F) (A9 : ST_A), inner u1 Fa Aa = some (r0, F9, A9) → cc_MetI l y_C_sum (Cond.code y_C_sum b_C_sum 4 (some .int) :: wA) ({ frames := fI, cells := 0, slots := 0, locals := lI } : Room) (dC, dI) vC [(cI, .int), (cC, .char)] ([.ref (a 0), .int u1] : List Value) (wC a cI cC Fa Aa) sz (wC a cI cC F9 A9) r0) (sz : Nat) (Fa : ST_F) (Aa : ST_A) (u1 : Int32) (r0 : Int32) (F9 : ST_F) (A9 : ST_A) (hf : f_C_vector inner u1 Fa Aa = some (r0, F9, A9)) : cc_MetI l y_C_vector (Cond.code y_C_vector b_C_vector 4 (some .int) :: wA) ({ frames := (fI + 6), cells := 0, slots := 0, locals := (lI + 200) } : Room) (dC, dI) vC [(cI, .int), (cC, .char)] ([.ref (a 0), .int u1] : List Value) (wC a cI cC Fa Aa) sz (wC a cI cC F9 A9) r0 := by
  refine Met.ofW (cc := b_C_vector) (maxL := 4) (ret := (some .int)) (by decide) rfl ?_
  intro p e s m args below meth c s₁ B hml hv
  obtain ⟨rfl, hsz, hP, hK, hD0⟩ := hv
  have hx := B.exec
  have hb := B.bytes
  have hr := B.returns
  have hts := fun w h => atoms_spec (ws := (Cond.code y_C_vector b_C_vector 4 (some .int) :: wA)) B.pre w (List.mem_cons_of_mem _ h)
  have hown : s.vm.findClass R_C = some m.cls := findClass_of_methodNamed B.named
  have hlocks := B.notSynchronized
  subst hsz
  have hD := hD0.self (sz := s.heap.size)
  have hA : ∀ q : Nat, s.heap.size ≤ q → va_A (wC a cI cC Fa Aa) s.heap.size q := fun q h => Or.inr h
  have hS : va_S (va_A (wC a cI cC Fa Aa) s.heap.size) s.heap s.heap [] := va_S.rf
  have hl := lv_entry (([.ref (a 0), .int u1] : List Value)) (n := 4) (Nat.le_of_ble_eq_true rfl)
  have J39 : ∀ (x1 : Int32) (x2 : Int32) (x3 : Int32) (F : ST_F) (A : ST_A) (H : Heap) (locs : List Loc) (ls : Array Slot), lv_has ls 4 [(0, .ref (a 0)), (1, .int x1), (2, .int x2), (3, .int x3)] → va_P (dC, dI) vC (wC a cI cC F A) H → va_D (va_A (wC a cI cC Fa Aa) s.heap.size) (wC a cI cC F A) → va_S (va_A (wC a cI cC Fa Aa) s.heap.size) s.heap H locs → f_C_vector_J39 inner x1 x2 x3 F A = some (r0, F9, A9) → W p l e (headSpec (Cond.code y_C_vector b_C_vector 4 (some .int) :: wA) ({ frames := (fI + 6), cells := 0, slots := 0, locals := (lI + 200) } : Room)).room s m ([.ref (a 0), .int u1] : List Value).toArray below meth c H locs 0 0 (MQ below (cc_Qi (dC, dI) vC [(cI, .int), (cC, .char)] (wC a cI cC Fa Aa) s.heap.size (wC a cI cC F9 A9) r0) ([.ref (a 0), .int u1] : List Value).toArray s 0 0 (va_A (wC a cI cC Fa Aa) s.heap.size)) (F0 m 39 ls []) := by
    intro x1 x2 x3 F A H locs ls hl hP hD hS hf
    unfold f_C_vector_J39 at hf
    refine lv_iload_n hx hb d_C_vector_39 rfl (lv_at hl 2 rfl) ?_
    refine lv_iconst (v := -1) hx hb d_C_vector_40 (by decide) ?_
    refine lv_icmp_eq (tgt := 60) hx hb d_C_vector_41 (by decide) (fun h41_3 => ?_) (fun h41_3 => ?_)
    · rw [if_pos h41_3] at hf
      refine lv_iconst (v := -1) hx hb d_C_vector_60 (by decide) ?_
      cases hf
      exact W.iret hx hb hr (fun t ht hW => ⟨⟨_, (), rfl, rfl, by rw [ht]; exact hP, va_K.moved hW.alike hK, hD⟩, hS.F ht⟩) hS.2.2 d_C_vector_61
    · rw [if_neg h41_3] at hf
      refine lv_iload_n hx hb d_C_vector_44 rfl (lv_at hl 2 rfl) ?_
      refine cc_calls (va_runS (As := [.int x2]) (rest := []) ⟨hx, hb, hml, hown, hts⟩ (k_V_typeIn l x2 _ rfl) (cw_S 1 hts mw_223 mw_224 mw_11 mw_225 rfl rfl hd_V_typeIn ⟨(show 0 + 1 ≤ (fI + 6) by omega), (show 8 + (1 + 11) + 0 ≤ (lI + 200) by omega)⟩) cc_preS rfl rfl hl.1 rfl (lv_room (Nat.le_of_ble_eq_true rfl)) d_C_vector_45 ⟨Nat.zero_le _, Nat.zero_le _⟩) ?_
      refine lv_iconst (v := 1) hx hb d_C_vector_48 (by decide) ?_
      refine lv_icmp_eq (tgt := 60) hx hb d_C_vector_49 (by decide) (fun h49_4 => ?_) (fun h49_4 => ?_)
      · rw [if_pos h49_4] at hf
        refine lv_iconst (v := -1) hx hb d_C_vector_60 (by decide) ?_
        cases hf
        exact W.iret hx hb hr (fun t ht hW => ⟨⟨_, (), rfl, rfl, by rw [ht]; exact hP, va_K.moved hW.alike hK, hD⟩, hS.F ht⟩) hS.2.2 d_C_vector_61
      · rw [if_neg h49_4] at hf
        refine lv_iload_n hx hb d_C_vector_52 rfl (lv_at hl 2 rfl) ?_
        refine cc_calls (va_runS (As := [.int x2]) (rest := []) ⟨hx, hb, hml, hown, hts⟩ (k_V_typeIn l x2 _ rfl) (cw_S 1 hts mw_223 mw_224 mw_11 mw_225 rfl rfl hd_V_typeIn ⟨(show 0 + 1 ≤ (fI + 6) by omega), (show 8 + (1 + 11) + 0 ≤ (lI + 200) by omega)⟩) cc_preS rfl rfl hl.1 rfl (lv_room (Nat.le_of_ble_eq_true rfl)) d_C_vector_53 ⟨Nat.zero_le _, Nat.zero_le _⟩) ?_
        refine lv_iconst (v := 4) hx hb d_C_vector_56 (by decide) ?_
        refine lv_icmp_ne (tgt := 62) hx hb d_C_vector_57 (by decide) (fun h57_5 => ?_) (fun h57_5 => ?_)
        · rw [if_neg h57_5] at hf
          refine lv_iload_n hx hb d_C_vector_62 rfl (lv_at hl 2 rfl) ?_
          cases hf
          exact W.iret hx hb hr (fun t ht hW => ⟨⟨_, (), rfl, rfl, by rw [ht]; exact hP, va_K.moved hW.alike hK, hD⟩, hS.F ht⟩) hS.2.2 d_C_vector_63
        · rw [if_pos h57_5] at hf
          refine lv_iconst (v := -1) hx hb d_C_vector_60 (by decide) ?_
          cases hf
          exact W.iret hx hb hr (fun t ht hW => ⟨⟨_, (), rfl, rfl, by rw [ht]; exact hP, va_K.moved hW.alike hK, hD⟩, hS.F ht⟩) hS.2.2 d_C_vector_61
  have L8 : ∀ (n : Nat) (x1 : Int32) (x2 : Int32) (x3 : Int32) (F : ST_F) (A : ST_A) (H : Heap) (locs : List Loc) (ls : Array Slot), lv_has ls 4 [(0, .ref (a 0)), (1, .int x1), (2, .int x2), (3, .int x3)] → va_P (dC, dI) vC (wC a cI cC F A) H → va_D (va_A (wC a cI cC Fa Aa) s.heap.size) (wC a cI cC F A) → va_S (va_A (wC a cI cC Fa Aa) s.heap.size) s.heap H locs → f_C_vector_L8 inner n x1 x2 x3 F A = some (r0, F9, A9) → W p l e (headSpec (Cond.code y_C_vector b_C_vector 4 (some .int) :: wA) ({ frames := (fI + 6), cells := 0, slots := 0, locals := (lI + 200) } : Room)).room s m ([.ref (a 0), .int u1] : List Value).toArray below meth c H locs 0 0 (MQ below (cc_Qi (dC, dI) vC [(cI, .int), (cC, .char)] (wC a cI cC Fa Aa) s.heap.size (wC a cI cC F9 A9) r0) ([.ref (a 0), .int u1] : List Value).toArray s 0 0 (va_A (wC a cI cC Fa Aa) s.heap.size)) (F0 m 8 ls []) := by
    intro n
    induction n with
    | zero => intro x1 x2 x3 F A H locs ls hl hP hD hS hf; cases hf
    | succ n ih =>
      intro x1 x2 x3 F A H locs ls hl hP hD hS hf
      rw [f_C_vector_L8] at hf
      refine lv_iload_n hx hb d_C_vector_8 rfl (lv_at hl 3 rfl) ?_
      refine lv_iconst (v := 2) hx hb d_C_vector_9 (by decide) ?_
      refine lv_icmp_ge (tgt := 39) hx hb d_C_vector_10 (by decide) (fun h10_2 => ?_) (fun h10_2 => ?_)
      · rw [if_pos h10_2] at hf
        have hl : lv_has ls 4 [(0, .ref (a 0)), (1, .int x1), (2, .int x2), (3, .int x3)] := lv_sub hl [0, 1, 2, 3] rfl
        exact J39 x1 x2 x3 F A _ _ _ hl hP hD hS hf
      · rw [if_neg h10_2] at hf
        refine lv_aload_n hx hb d_C_vector_13 rfl (lv_at hl 0 rfl) ?_
        refine lv_bipush (v := 44) hx hb d_C_vector_14 (by decide) ?_
        have hP : va_P (dC, dI) vC (wC a cI cC F A) H := hP
        have hD : va_D (va_A (wC a cI cC Fa Aa) s.heap.size) (wC a cI cC F A) := hD
        obtain ⟨r6, F6, A6, hc, hf⟩ := ra_bi_some hf
        refine cc_calli (va_runV (As := [.int (44 : Int32)]) (rest := []) ⟨hx, hb, hml, hown, hts⟩ (k_C_takes l dC dI a cI cC H.size F A (44 : Int32) r6 F6 A6 hc) (cw_V 1 hts mw_177 mw_179 ms_C_takes mw_3 mw_180 rfl rfl rfl hd_C_takes ⟨(show 1 + 1 ≤ (fI + 6) by omega), (show 8 + (2 + 11) + 20 ≤ (lI + 200) by omega)⟩) (cc_preV hK hP hD rfl (q0 := 0) rfl) rfl rfl hl.1 rfl (lv_room (Nat.le_of_ble_eq_true rfl)) d_C_vector_16 ⟨Nat.zero_le _, Nat.zero_le _⟩) hD hS hA (fun H locs hP hD hS => ?_)
        refine lv_if_eq (tgt := 39) hx hb d_C_vector_19 (by decide) (fun h19_7 => ?_) (fun h19_7 => ?_)
        · rw [if_pos h19_7] at hf
          have hl : lv_has ls 4 [(0, .ref (a 0)), (1, .int x1), (2, .int x2), (3, .int x3)] := lv_sub hl [0, 1, 2, 3] rfl
          exact J39 x1 x2 x3 F6 A6 _ _ _ hl hP hD hS hf
        · rw [if_neg h19_7] at hf
          refine lv_aload_n hx hb d_C_vector_22 rfl (lv_at hl 0 rfl) ?_
          refine lv_iload_n hx hb d_C_vector_23 rfl (lv_at hl 2 rfl) ?_
          refine lv_aload_n hx hb d_C_vector_24 rfl (lv_at hl 0 rfl) ?_
          refine lv_iload_n hx hb d_C_vector_25 rfl (lv_at hl 1 rfl) ?_
          have hP : va_P (dC, dI) vC (wC a cI cC F6 A6) H := hP
          have hD : va_D (va_A (wC a cI cC Fa Aa) s.heap.size) (wC a cI cC F6 A6) := hD
          obtain ⟨r8, F8, A8, hc, hf⟩ := ra_bi_some hf
          refine cc_calli (va_runV (As := [.int x1]) (rest := [.int x2, .ref (a 0)]) ⟨hx, hb, hml, hown, hts⟩ (hin  H.size F6 A6 x1 r8 F8 A8 hc) (cw_V 1 hts mw_165 mw_167 ms_C_sum mw_3 mw_168 rfl rfl rfl hd_C_sum ⟨(show fI + 1 ≤ (fI + 6) by omega), (show 8 + (4 + 11) + lI ≤ (lI + 200) by omega)⟩) (cc_preV hK hP hD rfl (q0 := 0) rfl) rfl rfl hl.1 rfl (lv_room (Nat.le_of_ble_eq_true rfl)) d_C_vector_26 ⟨Nat.zero_le _, Nat.zero_le _⟩) hD hS hA (fun H locs hP hD hS => ?_)
          have hP : va_P (dC, dI) vC (wC a cI cC F8 A8) H := hP
          have hD : va_D (va_A (wC a cI cC Fa Aa) s.heap.size) (wC a cI cC F8 A8) := hD
          obtain ⟨r9, F9, A9, hc, hf⟩ := ra_bi_some hf
          refine cc_calli (va_runV (As := [.int x2, .int r8]) (rest := []) ⟨hx, hb, hml, hown, hts⟩ (k_C_joined l dC dI a cI cC H.size F8 A8 x2 r8 r9 F9 A9 hc) (cw_V 2 hts mw_233 mw_235 ms_C_joined mw_3 mw_236 rfl rfl rfl hd_C_joined ⟨(show 2 + 1 ≤ (fI + 6) by omega), (show 8 + (3 + 11) + 47 ≤ (lI + 200) by omega)⟩) (cc_preV hK hP hD rfl (q0 := 0) rfl) rfl rfl hl.1 rfl (lv_room (Nat.le_of_ble_eq_true rfl)) d_C_vector_29 ⟨Nat.zero_le _, Nat.zero_le _⟩) hD hS hA (fun H locs hP hD hS => ?_)
          refine lv_istore_n hx hb d_C_vector_32 rfl hl (by decide) rfl (fun ls hl => ?_)
          have hl : lv_has ls 4 [(2, .int r9), (0, .ref (a 0)), (1, .int x1), (3, .int x3)] := hl
          refine lv_iinc (k := 3) (v := (x3 + (1 : Int32))) hx hb d_C_vector_33 hl rfl (by rfl) (by decide) rfl (fun ls hl => ?_)
          have hl : lv_has ls 4 [(3, .int (x3 + (1 : Int32))), (2, .int r9), (0, .ref (a 0)), (1, .int x1)] := hl
          refine lv_goto (tgt := 8) hx hb d_C_vector_36 (by decide) ?_
          have hl : lv_has ls 4 [(0, .ref (a 0)), (1, .int x1), (2, .int r9), (3, .int (x3 + (1 : Int32)))] := lv_sub hl [2, 3, 1, 0] rfl
          exact ih x1 r9 (x3 + (1 : Int32)) F9 A9 _ _ _ hl hP hD hS hf
  rw [lg_entry_eq]
  generalize (lg_sl (([.ref (a 0), .int u1] : List Value)) ++ List.replicate (4 - (lg_sl (([.ref (a 0), .int u1] : List Value))).length) Slot.unset).toArray = ls at hl ⊢
  have hl : lv_has ls 4 [(0, .ref (a 0)), (1, .int u1)] := hl
  unfold f_C_vector at hf
  refine lv_aload_n hx hb d_C_vector_0 rfl (lv_at hl 0 rfl) ?_
  refine lv_iload_n hx hb d_C_vector_1 rfl (lv_at hl 1 rfl) ?_
  have hP : va_P (dC, dI) vC (wC a cI cC Fa Aa) s.heap := hP
  have hD : va_D (va_A (wC a cI cC Fa Aa) s.heap.size) (wC a cI cC Fa Aa) := hD
  obtain ⟨r1, F1, A1, hc, hf⟩ := ra_bi_some hf
  refine cc_calli (va_runV (As := [.int u1]) (rest := []) ⟨hx, hb, hml, hown, hts⟩ (hin  s.heap.size Fa Aa u1 r1 F1 A1 hc) (cw_V 1 hts mw_165 mw_167 ms_C_sum mw_3 mw_168 rfl rfl rfl hd_C_sum ⟨(show fI + 1 ≤ (fI + 6) by omega), (show 8 + (4 + 11) + lI ≤ (lI + 200) by omega)⟩) (cc_preV hK hP hD rfl (q0 := 0) rfl) rfl rfl hl.1 rfl (lv_room (Nat.le_of_ble_eq_true rfl)) d_C_vector_2 ⟨Nat.zero_le _, Nat.zero_le _⟩) hD hS hA (fun H locs hP hD hS => ?_)
  refine lv_istore_n hx hb d_C_vector_5 rfl hl (by decide) rfl (fun ls hl => ?_)
  have hl : lv_has ls 4 [(2, .int r1), (0, .ref (a 0)), (1, .int u1)] := hl
  refine lv_iconst (v := 0) hx hb d_C_vector_6 (by decide) ?_
  refine lv_istore_n hx hb d_C_vector_7 rfl hl (by decide) rfl (fun ls hl => ?_)
  have hl : lv_has ls 4 [(3, .int (0 : Int32)), (2, .int r1), (0, .ref (a 0)), (1, .int u1)] := hl
  have hl : lv_has ls 4 [(0, .ref (a 0)), (1, .int u1), (2, .int r1), (3, .int (0 : Int32))] := lv_sub hl [2, 3, 1, 0] rfl
  exact L8 400 u1 r1 (0 : Int32) F1 A1 _ _ _ hl hP hD hS hf
def f_C_function (inner : Int32 → ST_F → ST_A → Option (Int32 × ST_F × ST_A)) (u1 : Int32) (u2 : Int32) (Fa : ST_F) (Aa : ST_A) : Option (Int32 × ST_F × ST_A) := if u1 = (65 : Int32) then (ra_bi (inner u2 Fa Aa) (fun r2 F2 A2 => ra_bi (f_C_each (10 : Int32) r2 F2 A2) (fun r3 F3 A3 => some (r3, F3, A3)))) else (if u1 = (70 : Int32) then (ra_bi (inner u2 Fa Aa) (fun r5 F5 A5 => ra_bi (f_C_each (11 : Int32) r5 F5 A5) (fun r6 F6 A6 => some (r6, F6, A6)))) else (if u1 = (86 : Int32) then (ra_bi (f_C_vector inner u2 Fa Aa) (fun r8 F8 A8 => some (r8, F8, A8))) else (ra_bi (f_C_functionOfTwo inner u1 u2 Fa Aa) (fun r9 F9 A9 => some (r9, F9, A9)))))
set_option maxHeartbeats 4000000 in
set_option maxRecDepth 100000 in
theorem k_C_function (l : Launch) (dC : Nat → ClassId) (dI : Nat → Nat → Nat) (a : Nat → Nat) (cI cC : ClassId) (fI lI : Nat) (inner : Int32 → ST_F → ST_A → Option (Int32 × ST_F × ST_A)) (hin : ∀ (sz : Nat) (Fa : ST_F) (Aa : ST_A) (u1 r0 : Int32) (F9 : ST_F) (A9 : ST_A), inner u1 Fa Aa = some (r0, F9, A9) → cc_MetI l y_C_sum (Cond.code y_C_sum b_C_sum 4 (some .int) :: wA) ({ frames := fI, cells := 0, slots := 0, locals := lI } : Room) (dC, dI) vC [(cI, .int), (cC, .char)] ([.ref (a 0), .int u1] : List Value) (wC a cI cC Fa Aa) sz (wC a cI cC F9 A9) r0) (sz : Nat) (Fa : ST_F) (Aa : ST_A) (u1 : Int32) (u2 : Int32) (r0 : Int32) (F9 : ST_F) (A9 : ST_A) (hf : f_C_function inner u1 u2 Fa Aa = some (r0, F9, A9)) : cc_MetI l y_C_function (Cond.code y_C_function b_C_function 3 (some .int) :: wA) ({ frames := (fI + 8), cells := 0, slots := 0, locals := (lI + 300) } : Room) (dC, dI) vC [(cI, .int), (cC, .char)] ([.ref (a 0), .int u1, .int u2] : List Value) (wC a cI cC Fa Aa) sz (wC a cI cC F9 A9) r0 := by
  refine Met.ofW (cc := b_C_function) (maxL := 3) (ret := (some .int)) (by decide) rfl ?_
  intro p e s m args below meth c s₁ B hml hv
  obtain ⟨rfl, hsz, hP, hK, hD0⟩ := hv
  have hx := B.exec
  have hb := B.bytes
  have hr := B.returns
  have hts := fun w h => atoms_spec (ws := (Cond.code y_C_function b_C_function 3 (some .int) :: wA)) B.pre w (List.mem_cons_of_mem _ h)
  have hown : s.vm.findClass R_C = some m.cls := findClass_of_methodNamed B.named
  have hlocks := B.notSynchronized
  subst hsz
  have hD := hD0.self (sz := s.heap.size)
  have hA : ∀ q : Nat, s.heap.size ≤ q → va_A (wC a cI cC Fa Aa) s.heap.size q := fun q h => Or.inr h
  have hS : va_S (va_A (wC a cI cC Fa Aa) s.heap.size) s.heap s.heap [] := va_S.rf
  have hl := lv_entry (([.ref (a 0), .int u1, .int u2] : List Value)) (n := 3) (Nat.le_of_ble_eq_true rfl)
  rw [lg_entry_eq]
  generalize (lg_sl (([.ref (a 0), .int u1, .int u2] : List Value)) ++ List.replicate (3 - (lg_sl (([.ref (a 0), .int u1, .int u2] : List Value))).length) Slot.unset).toArray = ls at hl ⊢
  have hl : lv_has ls 3 [(0, .ref (a 0)), (1, .int u1), (2, .int u2)] := hl
  unfold f_C_function at hf
  refine lv_iload_n hx hb d_C_function_0 rfl (lv_at hl 1 rfl) ?_
  by_cases h1_1 : u1 = (65 : Int32)
  · rw [if_pos h1_1] at hf
    refine lv_lookup (tgt := 36) (off := 35) hx hb d_C_function_1 (by decide) (by rw [h1_1]; decide) (by decide) ?_
    refine lv_aload_n hx hb d_C_function_36 rfl (lv_at hl 0 rfl) ?_
    refine lv_bipush (v := 10) hx hb d_C_function_37 (by decide) ?_
    refine lv_aload_n hx hb d_C_function_39 rfl (lv_at hl 0 rfl) ?_
    refine lv_iload_n hx hb d_C_function_40 rfl (lv_at hl 2 rfl) ?_
    have hP : va_P (dC, dI) vC (wC a cI cC Fa Aa) s.heap := hP
    have hD : va_D (va_A (wC a cI cC Fa Aa) s.heap.size) (wC a cI cC Fa Aa) := hD
    obtain ⟨r2, F2, A2, hc, hf⟩ := ra_bi_some hf
    refine cc_calli (va_runV (As := [.int u2]) (rest := [.int (10 : Int32), .ref (a 0)]) ⟨hx, hb, hml, hown, hts⟩ (hin  s.heap.size Fa Aa u2 r2 F2 A2 hc) (cw_V 1 hts mw_165 mw_167 ms_C_sum mw_3 mw_168 rfl rfl rfl hd_C_sum ⟨(show fI + 1 ≤ (fI + 8) by omega), (show 8 + (4 + 11) + lI ≤ (lI + 300) by omega)⟩) (cc_preV hK hP hD rfl (q0 := 0) rfl) rfl rfl hl.1 rfl (lv_room (Nat.le_of_ble_eq_true rfl)) d_C_function_41 ⟨Nat.zero_le _, Nat.zero_le _⟩) hD hS hA (fun H locs hP hD hS => ?_)
    have hP : va_P (dC, dI) vC (wC a cI cC F2 A2) H := hP
    have hD : va_D (va_A (wC a cI cC Fa Aa) s.heap.size) (wC a cI cC F2 A2) := hD
    obtain ⟨r3, F3, A3, hc, hf⟩ := ra_bi_some hf
    refine cc_calli (va_runV (As := [.int (10 : Int32), .int r2]) (rest := []) ⟨hx, hb, hml, hown, hts⟩ (k_C_each l dC dI a cI cC H.size F2 A2 (10 : Int32) r2 r3 F3 A3 hc) (cw_V 2 hts mw_219 mw_221 ms_C_each mw_3 mw_222 rfl rfl rfl hd_C_each ⟨(show 1 + 1 ≤ (fI + 8) by omega), (show 8 + (5 + 11) + 24 ≤ (lI + 300) by omega)⟩) (cc_preV hK hP hD rfl (q0 := 0) rfl) rfl rfl hl.1 rfl (lv_room (Nat.le_of_ble_eq_true rfl)) d_C_function_44 ⟨Nat.zero_le _, Nat.zero_le _⟩) hD hS hA (fun H locs hP hD hS => ?_)
    cases hf
    exact W.iret hx hb hr (fun t ht hW => ⟨⟨_, (), rfl, rfl, by rw [ht]; exact hP, va_K.moved hW.alike hK, hD⟩, hS.F ht⟩) hS.2.2 d_C_function_47
  · rw [if_neg h1_1] at hf
    by_cases h1_4 : u1 = (70 : Int32)
    · rw [if_pos h1_4] at hf
      refine lv_lookup (tgt := 48) (off := 47) hx hb d_C_function_1 (by decide) (by rw [h1_4]; decide) (by decide) ?_
      refine lv_aload_n hx hb d_C_function_48 rfl (lv_at hl 0 rfl) ?_
      refine lv_bipush (v := 11) hx hb d_C_function_49 (by decide) ?_
      refine lv_aload_n hx hb d_C_function_51 rfl (lv_at hl 0 rfl) ?_
      refine lv_iload_n hx hb d_C_function_52 rfl (lv_at hl 2 rfl) ?_
      have hP : va_P (dC, dI) vC (wC a cI cC Fa Aa) s.heap := hP
      have hD : va_D (va_A (wC a cI cC Fa Aa) s.heap.size) (wC a cI cC Fa Aa) := hD
      obtain ⟨r5, F5, A5, hc, hf⟩ := ra_bi_some hf
      refine cc_calli (va_runV (As := [.int u2]) (rest := [.int (11 : Int32), .ref (a 0)]) ⟨hx, hb, hml, hown, hts⟩ (hin  s.heap.size Fa Aa u2 r5 F5 A5 hc) (cw_V 1 hts mw_165 mw_167 ms_C_sum mw_3 mw_168 rfl rfl rfl hd_C_sum ⟨(show fI + 1 ≤ (fI + 8) by omega), (show 8 + (4 + 11) + lI ≤ (lI + 300) by omega)⟩) (cc_preV hK hP hD rfl (q0 := 0) rfl) rfl rfl hl.1 rfl (lv_room (Nat.le_of_ble_eq_true rfl)) d_C_function_53 ⟨Nat.zero_le _, Nat.zero_le _⟩) hD hS hA (fun H locs hP hD hS => ?_)
      have hP : va_P (dC, dI) vC (wC a cI cC F5 A5) H := hP
      have hD : va_D (va_A (wC a cI cC Fa Aa) s.heap.size) (wC a cI cC F5 A5) := hD
      obtain ⟨r6, F6, A6, hc, hf⟩ := ra_bi_some hf
      refine cc_calli (va_runV (As := [.int (11 : Int32), .int r5]) (rest := []) ⟨hx, hb, hml, hown, hts⟩ (k_C_each l dC dI a cI cC H.size F5 A5 (11 : Int32) r5 r6 F6 A6 hc) (cw_V 2 hts mw_219 mw_221 ms_C_each mw_3 mw_222 rfl rfl rfl hd_C_each ⟨(show 1 + 1 ≤ (fI + 8) by omega), (show 8 + (5 + 11) + 24 ≤ (lI + 300) by omega)⟩) (cc_preV hK hP hD rfl (q0 := 0) rfl) rfl rfl hl.1 rfl (lv_room (Nat.le_of_ble_eq_true rfl)) d_C_function_56 ⟨Nat.zero_le _, Nat.zero_le _⟩) hD hS hA (fun H locs hP hD hS => ?_)
      cases hf
      exact W.iret hx hb hr (fun t ht hW => ⟨⟨_, (), rfl, rfl, by rw [ht]; exact hP, va_K.moved hW.alike hK, hD⟩, hS.F ht⟩) hS.2.2 d_C_function_59
    · rw [if_neg h1_4] at hf
      by_cases h1_7 : u1 = (86 : Int32)
      · rw [if_pos h1_7] at hf
        refine lv_lookup (tgt := 60) (off := 59) hx hb d_C_function_1 (by decide) (by rw [h1_7]; decide) (by decide) ?_
        refine lv_aload_n hx hb d_C_function_60 rfl (lv_at hl 0 rfl) ?_
        refine lv_iload_n hx hb d_C_function_61 rfl (lv_at hl 2 rfl) ?_
        have hP : va_P (dC, dI) vC (wC a cI cC Fa Aa) s.heap := hP
        have hD : va_D (va_A (wC a cI cC Fa Aa) s.heap.size) (wC a cI cC Fa Aa) := hD
        obtain ⟨r8, F8, A8, hc, hf⟩ := ra_bi_some hf
        refine cc_calli (va_runV (As := [.int u2]) (rest := []) ⟨hx, hb, hml, hown, hts⟩ (k_C_vector l dC dI a cI cC fI lI inner hin s.heap.size Fa Aa u2 r8 F8 A8 hc) (cw_V 1 hts mw_229 mw_231 ms_C_vector mw_3 mw_232 rfl rfl rfl hd_C_vector ⟨(show (fI + 6) + 1 ≤ (fI + 8) by omega), (show 8 + (4 + 11) + (lI + 200) ≤ (lI + 300) by omega)⟩) (cc_preV hK hP hD rfl (q0 := 0) rfl) rfl rfl hl.1 rfl (lv_room (Nat.le_of_ble_eq_true rfl)) d_C_function_62 ⟨Nat.zero_le _, Nat.zero_le _⟩) hD hS hA (fun H locs hP hD hS => ?_)
        cases hf
        exact W.iret hx hb hr (fun t ht hW => ⟨⟨_, (), rfl, rfl, by rw [ht]; exact hP, va_K.moved hW.alike hK, hD⟩, hS.F ht⟩) hS.2.2 d_C_function_65
      · rw [if_neg h1_7] at hf
        refine lv_lookup (tgt := 66) (off := 65) hx hb d_C_function_1 (by decide) ((lv_osw h1_1 (by decide)).trans ((lv_osw h1_4 (by decide)).trans ((lv_osw h1_7 (by decide)).trans (rfl)))) (by decide) ?_
        refine lv_aload_n hx hb d_C_function_66 rfl (lv_at hl 0 rfl) ?_
        refine lv_iload_n hx hb d_C_function_67 rfl (lv_at hl 1 rfl) ?_
        refine lv_iload_n hx hb d_C_function_68 rfl (lv_at hl 2 rfl) ?_
        have hP : va_P (dC, dI) vC (wC a cI cC Fa Aa) s.heap := hP
        have hD : va_D (va_A (wC a cI cC Fa Aa) s.heap.size) (wC a cI cC Fa Aa) := hD
        obtain ⟨r9, F9, A9, hc, hf⟩ := ra_bi_some hf
        refine cc_calli (va_runV (As := [.int u1, .int u2]) (rest := []) ⟨hx, hb, hml, hown, hts⟩ (k_C_functionOfTwo l dC dI a cI cC fI lI inner hin s.heap.size Fa Aa u1 u2 r9 F9 A9 hc) (cw_V 2 hts mw_240 mw_242 ms_C_functionOfTwo mw_3 mw_243 rfl rfl rfl hd_C_functionOfTwo ⟨(show (fI + 6) + 1 ≤ (fI + 8) by omega), (show 8 + (5 + 11) + (lI + 200) ≤ (lI + 300) by omega)⟩) (cc_preV hK hP hD rfl (q0 := 0) rfl) rfl rfl hl.1 rfl (lv_room (Nat.le_of_ble_eq_true rfl)) d_C_function_69 ⟨Nat.zero_le _, Nat.zero_le _⟩) hD hS hA (fun H locs hP hD hS => ?_)
        cases hf
        exact W.iret hx hb hr (fun t ht hW => ⟨⟨_, (), rfl, rfl, by rw [ht]; exact hP, va_K.moved hW.alike hK, hD⟩, hS.F ht⟩) hS.2.2 d_C_function_72
def f_C_part_J87 (inner : Int32 → ST_F → ST_A → Option (Int32 × ST_F × ST_A)) (x1 : Int32) (x2 : Int32) (x3 : Int32) (F : ST_F) (A : ST_A) : Option (Int32 × ST_F × ST_A) := ra_bi (f_C_takes (41 : Int32) F A) (fun r8 F8 A8 => if r8 = 0 then (some ((-1 : Int32), F8, A8)) else (some (x3, F8, A8)))
def f_C_part_J86 (inner : Int32 → ST_F → ST_A → Option (Int32 × ST_F × ST_A)) (x1 : Int32) (x2 : Int32) (z0 : Int32) (F : ST_F) (A : ST_A) : Option (Int32 × ST_F × ST_A) := f_C_part_J87 inner x1 x2 z0 F A
def f_C_part (inner : Int32 → ST_F → ST_A → Option (Int32 × ST_F × ST_A)) (u1 : Int32) (Fa : ST_F) (Aa : ST_A) : Option (Int32 × ST_F × ST_A) := ra_bi (f_C_next  Fa Aa) (fun r1 F1 A1 => if (f_C_isSmall r1) = 0 then (if u1 < (5 : Int32) then (ra_bi (f_C_takes (40 : Int32) F1 A1) (fun r4 F4 A4 => if r4 = 0 then (ra_bi (f_C_takes (40 : Int32) (upd F4 1 ((F4 1) + (1 : Int32))) A4) (fun r6 F6 A6 => if r6 = 0 then (f_C_part_J86 inner u1 r1 (-1 : Int32) F6 A6) else (ra_bi (f_C_function inner r1 (u1 + (1 : Int32)) F6 A6) (fun r10 F10 A10 => f_C_part_J86 inner u1 r1 r10 F10 A10)))) else (ra_bi (inner (u1 + (1 : Int32)) F4 A4) (fun r11 F11 A11 => f_C_part_J87 inner u1 r1 r11 F11 A11)))) else (some ((-1 : Int32), F1, A1))) else (ra_bi (f_C_letter r1 (upd F1 1 ((F1 1) + (1 : Int32))) A1) (fun r12 F12 A12 => some (r12, F12, A12))))
set_option maxHeartbeats 4000000 in
set_option maxRecDepth 100000 in
theorem k_C_part (l : Launch) (dC : Nat → ClassId) (dI : Nat → Nat → Nat) (a : Nat → Nat) (cI cC : ClassId) (fI lI : Nat) (inner : Int32 → ST_F → ST_A → Option (Int32 × ST_F × ST_A)) (hin : ∀ (sz : Nat) (Fa : ST_F) (Aa : ST_A) (u1 r0 : Int32) (F9 : ST_F) (A9 : ST_A), inner u1 Fa Aa = some (r0, F9, A9) → cc_MetI l y_C_sum (Cond.code y_C_sum b_C_sum 4 (some .int) :: wA) ({ frames := fI, cells := 0, slots := 0, locals := lI } : Room) (dC, dI) vC [(cI, .int), (cC, .char)] ([.ref (a 0), .int u1] : List Value) (wC a cI cC Fa Aa) sz (wC a cI cC F9 A9) r0) (sz : Nat) (Fa : ST_F) (Aa : ST_A) (u1 : Int32) (r0 : Int32) (F9 : ST_F) (A9 : ST_A) (hf : f_C_part inner u1 Fa Aa = some (r0, F9, A9)) : cc_MetI l y_C_part (Cond.code y_C_part b_C_part 4 (some .int) :: wA) ({ frames := (fI + 10), cells := 0, slots := 0, locals := (lI + 400) } : Room) (dC, dI) vC [(cI, .int), (cC, .char)] ([.ref (a 0), .int u1] : List Value) (wC a cI cC Fa Aa) sz (wC a cI cC F9 A9) r0 := by
  refine Met.ofW (cc := b_C_part) (maxL := 4) (ret := (some .int)) (by decide) rfl ?_
  intro p e s m args below meth c s₁ B hml hv
  obtain ⟨rfl, hsz, hP, hK, hD0⟩ := hv
  have hx := B.exec
  have hb := B.bytes
  have hr := B.returns
  have hts := fun w h => atoms_spec (ws := (Cond.code y_C_part b_C_part 4 (some .int) :: wA)) B.pre w (List.mem_cons_of_mem _ h)
  have hown : s.vm.findClass R_C = some m.cls := findClass_of_methodNamed B.named
  have hlocks := B.notSynchronized
  subst hsz
  have hD := hD0.self (sz := s.heap.size)
  have hA : ∀ q : Nat, s.heap.size ≤ q → va_A (wC a cI cC Fa Aa) s.heap.size q := fun q h => Or.inr h
  have hS : va_S (va_A (wC a cI cC Fa Aa) s.heap.size) s.heap s.heap [] := va_S.rf
  have hl := lv_entry (([.ref (a 0), .int u1] : List Value)) (n := 4) (Nat.le_of_ble_eq_true rfl)
  have J87 : ∀ (x1 : Int32) (x2 : Int32) (x3 : Int32) (F : ST_F) (A : ST_A) (H : Heap) (locs : List Loc) (ls : Array Slot), lv_has ls 4 [(0, .ref (a 0)), (1, .int x1), (2, .int x2), (3, .int x3)] → va_P (dC, dI) vC (wC a cI cC F A) H → va_D (va_A (wC a cI cC Fa Aa) s.heap.size) (wC a cI cC F A) → va_S (va_A (wC a cI cC Fa Aa) s.heap.size) s.heap H locs → f_C_part_J87 inner x1 x2 x3 F A = some (r0, F9, A9) → W p l e (headSpec (Cond.code y_C_part b_C_part 4 (some .int) :: wA) ({ frames := (fI + 10), cells := 0, slots := 0, locals := (lI + 400) } : Room)).room s m ([.ref (a 0), .int u1] : List Value).toArray below meth c H locs 0 0 (MQ below (cc_Qi (dC, dI) vC [(cI, .int), (cC, .char)] (wC a cI cC Fa Aa) s.heap.size (wC a cI cC F9 A9) r0) ([.ref (a 0), .int u1] : List Value).toArray s 0 0 (va_A (wC a cI cC Fa Aa) s.heap.size)) (F0 m 87 ls []) := by
    intro x1 x2 x3 F A H locs ls hl hP hD hS hf
    unfold f_C_part_J87 at hf
    refine lv_aload_n hx hb d_C_part_87 rfl (lv_at hl 0 rfl) ?_
    refine lv_bipush (v := 41) hx hb d_C_part_88 (by decide) ?_
    have hP : va_P (dC, dI) vC (wC a cI cC F A) H := hP
    have hD : va_D (va_A (wC a cI cC Fa Aa) s.heap.size) (wC a cI cC F A) := hD
    obtain ⟨r8, F8, A8, hc, hf⟩ := ra_bi_some hf
    refine cc_calli (va_runV (As := [.int (41 : Int32)]) (rest := []) ⟨hx, hb, hml, hown, hts⟩ (k_C_takes l dC dI a cI cC H.size F A (41 : Int32) r8 F8 A8 hc) (cw_V 1 hts mw_177 mw_179 ms_C_takes mw_3 mw_180 rfl rfl rfl hd_C_takes ⟨(show 1 + 1 ≤ (fI + 10) by omega), (show 8 + (2 + 11) + 20 ≤ (lI + 400) by omega)⟩) (cc_preV hK hP hD rfl (q0 := 0) rfl) rfl rfl hl.1 rfl (lv_room (Nat.le_of_ble_eq_true rfl)) d_C_part_90 ⟨Nat.zero_le _, Nat.zero_le _⟩) hD hS hA (fun H locs hP hD hS => ?_)
    refine lv_if_eq (tgt := 100) hx hb d_C_part_93 (by decide) (fun h93_9 => ?_) (fun h93_9 => ?_)
    · rw [if_pos h93_9] at hf
      refine lv_iconst (v := -1) hx hb d_C_part_100 (by decide) ?_
      cases hf
      exact W.iret hx hb hr (fun t ht hW => ⟨⟨_, (), rfl, rfl, by rw [ht]; exact hP, va_K.moved hW.alike hK, hD⟩, hS.F ht⟩) hS.2.2 d_C_part_101
    · rw [if_neg h93_9] at hf
      refine lv_iload_n hx hb d_C_part_96 rfl (lv_at hl 3 rfl) ?_
      refine lv_goto (tgt := 101) hx hb d_C_part_97 (by decide) ?_
      cases hf
      exact W.iret hx hb hr (fun t ht hW => ⟨⟨_, (), rfl, rfl, by rw [ht]; exact hP, va_K.moved hW.alike hK, hD⟩, hS.F ht⟩) hS.2.2 d_C_part_101
  have J86 : ∀ (x1 : Int32) (x2 : Int32) (z0 : Int32) (F : ST_F) (A : ST_A) (H : Heap) (locs : List Loc) (ls : Array Slot), lv_has ls 4 [(0, .ref (a 0)), (1, .int x1), (2, .int x2)] → va_P (dC, dI) vC (wC a cI cC F A) H → va_D (va_A (wC a cI cC Fa Aa) s.heap.size) (wC a cI cC F A) → va_S (va_A (wC a cI cC Fa Aa) s.heap.size) s.heap H locs → f_C_part_J86 inner x1 x2 z0 F A = some (r0, F9, A9) → W p l e (headSpec (Cond.code y_C_part b_C_part 4 (some .int) :: wA) ({ frames := (fI + 10), cells := 0, slots := 0, locals := (lI + 400) } : Room)).room s m ([.ref (a 0), .int u1] : List Value).toArray below meth c H locs 0 0 (MQ below (cc_Qi (dC, dI) vC [(cI, .int), (cC, .char)] (wC a cI cC Fa Aa) s.heap.size (wC a cI cC F9 A9) r0) ([.ref (a 0), .int u1] : List Value).toArray s 0 0 (va_A (wC a cI cC Fa Aa) s.heap.size)) (F0 m 86 ls [.int z0]) := by
    intro x1 x2 z0 F A H locs ls hl hP hD hS hf
    unfold f_C_part_J86 at hf
    refine lv_istore_n hx hb d_C_part_86 rfl hl (by decide) rfl (fun ls hl => ?_)
    have hl : lv_has ls 4 [(3, .int z0), (0, .ref (a 0)), (1, .int x1), (2, .int x2)] := hl
    have hl : lv_has ls 4 [(0, .ref (a 0)), (1, .int x1), (2, .int x2), (3, .int z0)] := lv_sub hl [1, 2, 3, 0] rfl
    exact J87 x1 x2 z0 F A _ _ _ hl hP hD hS hf
  rw [lg_entry_eq]
  generalize (lg_sl (([.ref (a 0), .int u1] : List Value)) ++ List.replicate (4 - (lg_sl (([.ref (a 0), .int u1] : List Value))).length) Slot.unset).toArray = ls at hl ⊢
  have hl : lv_has ls 4 [(0, .ref (a 0)), (1, .int u1)] := hl
  unfold f_C_part at hf
  refine lv_aload_n hx hb d_C_part_0 rfl (lv_at hl 0 rfl) ?_
  have hP : va_P (dC, dI) vC (wC a cI cC Fa Aa) s.heap := hP
  have hD : va_D (va_A (wC a cI cC Fa Aa) s.heap.size) (wC a cI cC Fa Aa) := hD
  obtain ⟨r1, F1, A1, hc, hf⟩ := ra_bi_some hf
  refine cc_calli (va_runV (As := []) (rest := []) ⟨hx, hb, hml, hown, hts⟩ (k_C_next l dC dI a cI cC s.heap.size Fa Aa  r1 F1 A1 hc) (cw_V 0 hts mw_155 mw_157 ms_C_next mw_3 mw_158 rfl rfl rfl hd_C_next ⟨(show 0 + 1 ≤ (fI + 10) by omega), (show 8 + (1 + 11) + 0 ≤ (lI + 400) by omega)⟩) (cc_preV hK hP hD rfl (q0 := 0) rfl) rfl rfl hl.1 rfl (lv_room (Nat.le_of_ble_eq_true rfl)) d_C_part_1 ⟨Nat.zero_le _, Nat.zero_le _⟩) hD hS hA (fun H locs hP hD hS => ?_)
  refine lv_istore_n hx hb d_C_part_4 rfl hl (by decide) rfl (fun ls hl => ?_)
  have hl : lv_has ls 4 [(2, .int r1), (0, .ref (a 0)), (1, .int u1)] := hl
  refine lv_iload_n hx hb d_C_part_5 rfl (lv_at hl 0 rfl) ?_
  refine cc_calls (va_runS (As := [.int r1]) (rest := []) ⟨hx, hb, hml, hown, hts⟩ (k_C_isSmall l r1 _ rfl) (cw_S 1 hts mw_148 mw_149 mw_3 mw_150 rfl rfl hd_C_isSmall ⟨(show 0 + 1 ≤ (fI + 10) by omega), (show 8 + (1 + 11) + 0 ≤ (lI + 400) by omega)⟩) cc_preS rfl rfl hl.1 rfl (lv_room (Nat.le_of_ble_eq_true rfl)) d_C_part_6 ⟨Nat.zero_le _, Nat.zero_le _⟩) ?_
  refine lv_if_eq (tgt := 28) hx hb d_C_part_9 (by decide) (fun h9_2 => ?_) (fun h9_2 => ?_)
  · rw [if_pos h9_2] at hf
    refine lv_iload_n hx hb d_C_part_28 rfl (lv_at hl 2 rfl) ?_
    refine lv_iconst (v := 5) hx hb d_C_part_29 (by decide) ?_
    refine lv_icmp_lt (tgt := 35) hx hb d_C_part_30 (by decide) (fun h30_3 => ?_) (fun h30_3 => ?_)
    · rw [if_pos h30_3] at hf
      refine lv_aload_n hx hb d_C_part_35 rfl (lv_at hl 1 rfl) ?_
      refine lv_bipush (v := 40) hx hb d_C_part_36 (by decide) ?_
      have hP : va_P (dC, dI) vC (wC a cI cC F1 A1) H := hP
      have hD : va_D (va_A (wC a cI cC Fa Aa) s.heap.size) (wC a cI cC F1 A1) := hD
      obtain ⟨r4, F4, A4, hc, hf⟩ := ra_bi_some hf
      refine cc_calli (va_runV (As := [.int (40 : Int32)]) (rest := []) ⟨hx, hb, hml, hown, hts⟩ (k_C_takes l dC dI a cI cC H.size F1 A1 (40 : Int32) r4 F4 A4 hc) (cw_V 1 hts mw_177 mw_179 ms_C_takes mw_3 mw_180 rfl rfl rfl hd_C_takes ⟨(show 1 + 1 ≤ (fI + 10) by omega), (show 8 + (2 + 11) + 20 ≤ (lI + 400) by omega)⟩) (cc_preV hK hP hD rfl (q0 := 0) rfl) rfl rfl hl.1 rfl (lv_room (Nat.le_of_ble_eq_true rfl)) d_C_part_38 ⟨Nat.zero_le _, Nat.zero_le _⟩) hD hS hA (fun H locs hP hD hS => ?_)
      refine lv_if_eq (tgt := 55) hx hb d_C_part_41 (by decide) (fun h41_5 => ?_) (fun h41_5 => ?_)
      · rw [if_pos h41_5] at hf
        refine lv_aload_n hx hb d_C_part_55 rfl (lv_at hl 1 rfl) ?_
        refine lv_dup hx hb d_C_part_56 rfl ?_
        refine va_get (D := (dC, dI)) (ci := 1) (v := .int (F4 1)) (C := R_C) (T := T_C) (N := 5) hx hb hts in_C hown hK hP 0 rfl rfl 3 (by decide) (hts _ mw_78) (fun _ h9 => h9) rfl d_C_part_57 ?_
        refine lv_iconst (v := 1) hx hb d_C_part_60 (by decide) ?_
        refine lv_iadd hx hb d_C_part_61 ?_
        refine va_put (D := (dC, dI)) (ci := 1) (v := .int ((F4 1) + (1 : Int32))) (ty := .int) (C := R_C) (T := T_C) (N := 5) hx hb hts in_C ty_C ty_C_ok nm_C hown hK hP hD hS 0 rfl rfl 3 (by decide) (hts _ mw_78) (fun _ h9 => h9) rfl (by decide +kernel) rfl rfl (Nat.le_of_ble_eq_true rfl) d_C_part_62 (fun H locs hP hD hS => ?_)
        have hP : va_P (dC, dI) vC [((a 0), .inr (1, [.ref (a 1), .ref (a 2), .int (F4 0), .int ((F4 1) + (1 : Int32)), .ref (a 3)])), ((a 1), .inl (cI, 26, .inl (A4 0))), ((a 2), .inl (cC, 160, .inl (A4 1))), ((a 3), .inr (0, [.ref (a 4), .ref (a 5), .ref (a 6), .ref (a 7), .ref (a 8), .int (F4 2), .int (F4 3)])), ((a 4), .inl (cI, 100, .inl (A4 2))), ((a 5), .inl (cI, 100, .inl (A4 3))), ((a 6), .inl (cI, 100, .inl (A4 4))), ((a 7), .inl (cI, 3, .inl (A4 5))), ((a 8), .inl (cI, 26, .inl (A4 6)))] H := hP
        have hD : va_D (va_A (wC a cI cC Fa Aa) s.heap.size) [((a 0), .inr (1, [.ref (a 1), .ref (a 2), .int (F4 0), .int ((F4 1) + (1 : Int32)), .ref (a 3)])), ((a 1), .inl (cI, 26, .inl (A4 0))), ((a 2), .inl (cC, 160, .inl (A4 1))), ((a 3), .inr (0, [.ref (a 4), .ref (a 5), .ref (a 6), .ref (a 7), .ref (a 8), .int (F4 2), .int (F4 3)])), ((a 4), .inl (cI, 100, .inl (A4 2))), ((a 5), .inl (cI, 100, .inl (A4 3))), ((a 6), .inl (cI, 100, .inl (A4 4))), ((a 7), .inl (cI, 3, .inl (A4 5))), ((a 8), .inl (cI, 26, .inl (A4 6)))] := hD
        refine lv_aload_n hx hb d_C_part_65 rfl (lv_at hl 1 rfl) ?_
        refine lv_bipush (v := 40) hx hb d_C_part_66 (by decide) ?_
        have hP : va_P (dC, dI) vC (wC a cI cC (upd F4 1 ((F4 1) + (1 : Int32))) A4) H := hP
        have hD : va_D (va_A (wC a cI cC Fa Aa) s.heap.size) (wC a cI cC (upd F4 1 ((F4 1) + (1 : Int32))) A4) := hD
        obtain ⟨r6, F6, A6, hc, hf⟩ := ra_bi_some hf
        refine cc_calli (va_runV (As := [.int (40 : Int32)]) (rest := []) ⟨hx, hb, hml, hown, hts⟩ (k_C_takes l dC dI a cI cC H.size (upd F4 1 ((F4 1) + (1 : Int32))) A4 (40 : Int32) r6 F6 A6 hc) (cw_V 1 hts mw_177 mw_179 ms_C_takes mw_3 mw_180 rfl rfl rfl hd_C_takes ⟨(show 1 + 1 ≤ (fI + 10) by omega), (show 8 + (2 + 11) + 20 ≤ (lI + 400) by omega)⟩) (cc_preV hK hP hD rfl (q0 := 0) rfl) rfl rfl hl.1 rfl (lv_room (Nat.le_of_ble_eq_true rfl)) d_C_part_68 ⟨Nat.zero_le _, Nat.zero_le _⟩) hD hS hA (fun H locs hP hD hS => ?_)
        refine lv_if_eq (tgt := 85) hx hb d_C_part_71 (by decide) (fun h71_7 => ?_) (fun h71_7 => ?_)
        · rw [if_pos h71_7] at hf
          refine lv_iconst (v := -1) hx hb d_C_part_85 (by decide) ?_
          have hl : lv_has ls 4 [(0, .ref (a 0)), (1, .int u1), (2, .int r1)] := lv_sub hl [1, 2, 0] rfl
          exact J86 u1 r1 (-1 : Int32) F6 A6 _ _ _ hl hP hD hS hf
        · rw [if_neg h71_7] at hf
          refine lv_aload_n hx hb d_C_part_74 rfl (lv_at hl 1 rfl) ?_
          refine lv_iload_n hx hb d_C_part_75 rfl (lv_at hl 0 rfl) ?_
          refine lv_iload_n hx hb d_C_part_76 rfl (lv_at hl 2 rfl) ?_
          refine lv_iconst (v := 1) hx hb d_C_part_77 (by decide) ?_
          refine lv_iadd hx hb d_C_part_78 ?_
          have hP : va_P (dC, dI) vC (wC a cI cC F6 A6) H := hP
          have hD : va_D (va_A (wC a cI cC Fa Aa) s.heap.size) (wC a cI cC F6 A6) := hD
          obtain ⟨r10, F10, A10, hc, hf⟩ := ra_bi_some hf
          refine cc_calli (va_runV (As := [.int r1, .int (u1 + (1 : Int32))]) (rest := []) ⟨hx, hb, hml, hown, hts⟩ (k_C_function l dC dI a cI cC fI lI inner hin H.size F6 A6 r1 (u1 + (1 : Int32)) r10 F10 A10 hc) (cw_V 2 hts mw_215 mw_217 ms_C_function mw_3 mw_218 rfl rfl rfl hd_C_function ⟨(show (fI + 8) + 1 ≤ (fI + 10) by omega), (show 8 + (3 + 11) + (lI + 300) ≤ (lI + 400) by omega)⟩) (cc_preV hK hP hD rfl (q0 := 0) rfl) rfl rfl hl.1 rfl (lv_room (Nat.le_of_ble_eq_true rfl)) d_C_part_79 ⟨Nat.zero_le _, Nat.zero_le _⟩) hD hS hA (fun H locs hP hD hS => ?_)
          refine lv_goto (tgt := 86) hx hb d_C_part_82 (by decide) ?_
          have hl : lv_has ls 4 [(0, .ref (a 0)), (1, .int u1), (2, .int r1)] := lv_sub hl [1, 2, 0] rfl
          exact J86 u1 r1 r10 F10 A10 _ _ _ hl hP hD hS hf
      · rw [if_neg h41_5] at hf
        refine lv_aload_n hx hb d_C_part_44 rfl (lv_at hl 1 rfl) ?_
        refine lv_iload_n hx hb d_C_part_45 rfl (lv_at hl 2 rfl) ?_
        refine lv_iconst (v := 1) hx hb d_C_part_46 (by decide) ?_
        refine lv_iadd hx hb d_C_part_47 ?_
        have hP : va_P (dC, dI) vC (wC a cI cC F4 A4) H := hP
        have hD : va_D (va_A (wC a cI cC Fa Aa) s.heap.size) (wC a cI cC F4 A4) := hD
        obtain ⟨r11, F11, A11, hc, hf⟩ := ra_bi_some hf
        refine cc_calli (va_runV (As := [.int (u1 + (1 : Int32))]) (rest := []) ⟨hx, hb, hml, hown, hts⟩ (hin  H.size F4 A4 (u1 + (1 : Int32)) r11 F11 A11 hc) (cw_V 1 hts mw_165 mw_167 ms_C_sum mw_3 mw_168 rfl rfl rfl hd_C_sum ⟨(show fI + 1 ≤ (fI + 10) by omega), (show 8 + (4 + 11) + lI ≤ (lI + 400) by omega)⟩) (cc_preV hK hP hD rfl (q0 := 0) rfl) rfl rfl hl.1 rfl (lv_room (Nat.le_of_ble_eq_true rfl)) d_C_part_48 ⟨Nat.zero_le _, Nat.zero_le _⟩) hD hS hA (fun H locs hP hD hS => ?_)
        refine lv_istore_n hx hb d_C_part_51 rfl hl (by decide) rfl (fun ls hl => ?_)
        have hl : lv_has ls 4 [(3, .int r11), (2, .int r1), (0, .ref (a 0)), (1, .int u1)] := hl
        refine lv_goto (tgt := 87) hx hb d_C_part_52 (by decide) ?_
        have hl : lv_has ls 4 [(0, .ref (a 0)), (1, .int u1), (2, .int r1), (3, .int r11)] := lv_sub hl [2, 3, 1, 0] rfl
        exact J87 u1 r1 r11 F11 A11 _ _ _ hl hP hD hS hf
    · rw [if_neg h30_3] at hf
      refine lv_iconst (v := -1) hx hb d_C_part_33 (by decide) ?_
      cases hf
      exact W.iret hx hb hr (fun t ht hW => ⟨⟨_, (), rfl, rfl, by rw [ht]; exact hP, va_K.moved hW.alike hK, hD⟩, hS.F ht⟩) hS.2.2 d_C_part_34
  · rw [if_neg h9_2] at hf
    refine lv_aload_n hx hb d_C_part_12 rfl (lv_at hl 1 rfl) ?_
    refine lv_dup hx hb d_C_part_13 rfl ?_
    refine va_get (D := (dC, dI)) (ci := 1) (v := .int (F1 1)) (C := R_C) (T := T_C) (N := 5) hx hb hts in_C hown hK hP 0 rfl rfl 3 (by decide) (hts _ mw_78) (fun _ h9 => h9) rfl d_C_part_14 ?_
    refine lv_iconst (v := 1) hx hb d_C_part_17 (by decide) ?_
    refine lv_iadd hx hb d_C_part_18 ?_
    refine va_put (D := (dC, dI)) (ci := 1) (v := .int ((F1 1) + (1 : Int32))) (ty := .int) (C := R_C) (T := T_C) (N := 5) hx hb hts in_C ty_C ty_C_ok nm_C hown hK hP hD hS 0 rfl rfl 3 (by decide) (hts _ mw_78) (fun _ h9 => h9) rfl (by decide +kernel) rfl rfl (Nat.le_of_ble_eq_true rfl) d_C_part_19 (fun H locs hP hD hS => ?_)
    have hP : va_P (dC, dI) vC [((a 0), .inr (1, [.ref (a 1), .ref (a 2), .int (F1 0), .int ((F1 1) + (1 : Int32)), .ref (a 3)])), ((a 1), .inl (cI, 26, .inl (A1 0))), ((a 2), .inl (cC, 160, .inl (A1 1))), ((a 3), .inr (0, [.ref (a 4), .ref (a 5), .ref (a 6), .ref (a 7), .ref (a 8), .int (F1 2), .int (F1 3)])), ((a 4), .inl (cI, 100, .inl (A1 2))), ((a 5), .inl (cI, 100, .inl (A1 3))), ((a 6), .inl (cI, 100, .inl (A1 4))), ((a 7), .inl (cI, 3, .inl (A1 5))), ((a 8), .inl (cI, 26, .inl (A1 6)))] H := hP
    have hD : va_D (va_A (wC a cI cC Fa Aa) s.heap.size) [((a 0), .inr (1, [.ref (a 1), .ref (a 2), .int (F1 0), .int ((F1 1) + (1 : Int32)), .ref (a 3)])), ((a 1), .inl (cI, 26, .inl (A1 0))), ((a 2), .inl (cC, 160, .inl (A1 1))), ((a 3), .inr (0, [.ref (a 4), .ref (a 5), .ref (a 6), .ref (a 7), .ref (a 8), .int (F1 2), .int (F1 3)])), ((a 4), .inl (cI, 100, .inl (A1 2))), ((a 5), .inl (cI, 100, .inl (A1 3))), ((a 6), .inl (cI, 100, .inl (A1 4))), ((a 7), .inl (cI, 3, .inl (A1 5))), ((a 8), .inl (cI, 26, .inl (A1 6)))] := hD
    refine lv_aload_n hx hb d_C_part_22 rfl (lv_at hl 1 rfl) ?_
    refine lv_iload_n hx hb d_C_part_23 rfl (lv_at hl 0 rfl) ?_
    have hP : va_P (dC, dI) vC (wC a cI cC (upd F1 1 ((F1 1) + (1 : Int32))) A1) H := hP
    have hD : va_D (va_A (wC a cI cC Fa Aa) s.heap.size) (wC a cI cC (upd F1 1 ((F1 1) + (1 : Int32))) A1) := hD
    obtain ⟨r12, F12, A12, hc, hf⟩ := ra_bi_some hf
    refine cc_calli (va_runV (As := [.int r1]) (rest := []) ⟨hx, hb, hml, hown, hts⟩ (k_C_letter l dC dI a cI cC H.size (upd F1 1 ((F1 1) + (1 : Int32))) A1 r1 r12 F12 A12 hc) (cw_V 1 hts mw_207 mw_209 ms_C_letter mw_3 mw_210 rfl rfl rfl hd_C_letter ⟨(show 2 + 1 ≤ (fI + 10) by omega), (show 8 + (2 + 11) + 48 ≤ (lI + 400) by omega)⟩) (cc_preV hK hP hD rfl (q0 := 0) rfl) rfl rfl hl.1 rfl (lv_room (Nat.le_of_ble_eq_true rfl)) d_C_part_24 ⟨Nat.zero_le _, Nat.zero_le _⟩) hD hS hA (fun H locs hP hD hS => ?_)
    cases hf
    exact W.iret hx hb hr (fun t ht hW => ⟨⟨_, (), rfl, rfl, by rw [ht]; exact hP, va_K.moved hW.alike hK, hD⟩, hS.F ht⟩) hS.2.2 d_C_part_27
def f_C_unit_L54 (inner : Int32 → ST_F → ST_A → Option (Int32 × ST_F × ST_A)) : Nat → Int32 → Int32 → Int32 → Int32 → ST_F → ST_A → Option (Int32 × ST_F × ST_A)
  | 0, _, _, _, _, _, _ => none
  | n + 1, x1, x2, x3, x4, F, A => if x2 ≤ x4 then (some (x3, F, A)) else (ra_bi (f_C_each (9 : Int32) x3 F A) (fun r7 F7 A7 => f_C_unit_L54 inner n x1 x2 r7 (x4 + (1 : Int32)) F7 A7))
def f_C_unit_J24 (inner : Int32 → ST_F → ST_A → Option (Int32 × ST_F × ST_A)) (x1 : Int32) (x2 : Int32) (F : ST_F) (A : ST_A) : Option (Int32 × ST_F × ST_A) := ra_bi (f_C_next  F A) (fun r2 F2 A2 => if (f_C_isDigit r2) = 0 then (ra_bi (f_C_part inner x1 F2 A2) (fun r4 F4 A4 => ra_bi (f_C_picked r4 F4 A4) (fun r5 F5 A5 => f_C_unit_L54 inner 400 x1 x2 r5 (0 : Int32) F5 A5))) else (ra_bi (f_C_constant  F2 A2) (fun r8 F8 A8 => f_C_unit_L54 inner 400 x1 x2 r8 (0 : Int32) F8 A8)))
def f_C_unit_L2 (inner : Int32 → ST_F → ST_A → Option (Int32 × ST_F × ST_A)) : Nat → Int32 → Int32 → ST_F → ST_A → Option (Int32 × ST_F × ST_A)
  | 0, _, _, _, _ => none
  | n + 1, x1, x2, F, A => if (160 : Int32) ≤ x2 then (f_C_unit_J24 inner x1 x2 F A) else (ra_bi (f_C_takes (45 : Int32) F A) (fun r9 F9 A9 => if r9 = 0 then (f_C_unit_J24 inner x1 x2 F9 A9) else (f_C_unit_L2 inner n x1 (x2 + (1 : Int32)) F9 A9)))
def f_C_unit (inner : Int32 → ST_F → ST_A → Option (Int32 × ST_F × ST_A)) (u1 : Int32) (Fa : ST_F) (Aa : ST_A) : Option (Int32 × ST_F × ST_A) := f_C_unit_L2 inner 400 u1 (0 : Int32) Fa Aa
set_option maxHeartbeats 4000000 in
set_option maxRecDepth 100000 in
theorem k_C_unit (l : Launch) (dC : Nat → ClassId) (dI : Nat → Nat → Nat) (a : Nat → Nat) (cI cC : ClassId) (fI lI : Nat) (inner : Int32 → ST_F → ST_A → Option (Int32 × ST_F × ST_A)) (hin : ∀ (sz : Nat) (Fa : ST_F) (Aa : ST_A) (u1 r0 : Int32) (F9 : ST_F) (A9 : ST_A), inner u1 Fa Aa = some (r0, F9, A9) → cc_MetI l y_C_sum (Cond.code y_C_sum b_C_sum 4 (some .int) :: wA) ({ frames := fI, cells := 0, slots := 0, locals := lI } : Room) (dC, dI) vC [(cI, .int), (cC, .char)] ([.ref (a 0), .int u1] : List Value) (wC a cI cC Fa Aa) sz (wC a cI cC F9 A9) r0) (sz : Nat) (Fa : ST_F) (Aa : ST_A) (u1 : Int32) (r0 : Int32) (F9 : ST_F) (A9 : ST_A) (hf : f_C_unit inner u1 Fa Aa = some (r0, F9, A9)) : cc_MetI l y_C_unit (Cond.code y_C_unit b_C_unit 5 (some .int) :: wA) ({ frames := (fI + 12), cells := 0, slots := 0, locals := (lI + 500) } : Room) (dC, dI) vC [(cI, .int), (cC, .char)] ([.ref (a 0), .int u1] : List Value) (wC a cI cC Fa Aa) sz (wC a cI cC F9 A9) r0 := by
  refine Met.ofW (cc := b_C_unit) (maxL := 5) (ret := (some .int)) (by decide) rfl ?_
  intro p e s m args below meth c s₁ B hml hv
  obtain ⟨rfl, hsz, hP, hK, hD0⟩ := hv
  have hx := B.exec
  have hb := B.bytes
  have hr := B.returns
  have hts := fun w h => atoms_spec (ws := (Cond.code y_C_unit b_C_unit 5 (some .int) :: wA)) B.pre w (List.mem_cons_of_mem _ h)
  have hown : s.vm.findClass R_C = some m.cls := findClass_of_methodNamed B.named
  have hlocks := B.notSynchronized
  subst hsz
  have hD := hD0.self (sz := s.heap.size)
  have hA : ∀ q : Nat, s.heap.size ≤ q → va_A (wC a cI cC Fa Aa) s.heap.size q := fun q h => Or.inr h
  have hS : va_S (va_A (wC a cI cC Fa Aa) s.heap.size) s.heap s.heap [] := va_S.rf
  have hl := lv_entry (([.ref (a 0), .int u1] : List Value)) (n := 5) (Nat.le_of_ble_eq_true rfl)
  have L54 : ∀ (n : Nat) (x1 : Int32) (x2 : Int32) (x3 : Int32) (x4 : Int32) (F : ST_F) (A : ST_A) (H : Heap) (locs : List Loc) (ls : Array Slot), lv_has ls 5 [(0, .ref (a 0)), (1, .int x1), (2, .int x2), (3, .int x3), (4, .int x4)] → va_P (dC, dI) vC (wC a cI cC F A) H → va_D (va_A (wC a cI cC Fa Aa) s.heap.size) (wC a cI cC F A) → va_S (va_A (wC a cI cC Fa Aa) s.heap.size) s.heap H locs → f_C_unit_L54 inner n x1 x2 x3 x4 F A = some (r0, F9, A9) → W p l e (headSpec (Cond.code y_C_unit b_C_unit 5 (some .int) :: wA) ({ frames := (fI + 12), cells := 0, slots := 0, locals := (lI + 500) } : Room)).room s m ([.ref (a 0), .int u1] : List Value).toArray below meth c H locs 0 0 (MQ below (cc_Qi (dC, dI) vC [(cI, .int), (cC, .char)] (wC a cI cC Fa Aa) s.heap.size (wC a cI cC F9 A9) r0) ([.ref (a 0), .int u1] : List Value).toArray s 0 0 (va_A (wC a cI cC Fa Aa) s.heap.size)) (F0 m 54 ls []) := by
    intro n
    induction n with
    | zero => intro x1 x2 x3 x4 F A H locs ls hl hP hD hS hf; cases hf
    | succ n ih =>
      intro x1 x2 x3 x4 F A H locs ls hl hP hD hS hf
      rw [f_C_unit_L54] at hf
      refine lv_iload hx hb d_C_unit_54 (lv_at hl 4 rfl) ?_
      refine lv_iload_n hx hb d_C_unit_56 rfl (lv_at hl 2 rfl) ?_
      refine lv_icmp_ge (tgt := 74) hx hb d_C_unit_57 (by decide) (fun h57_6 => ?_) (fun h57_6 => ?_)
      · rw [if_pos h57_6] at hf
        refine lv_iload_n hx hb d_C_unit_74 rfl (lv_at hl 3 rfl) ?_
        cases hf
        exact W.iret hx hb hr (fun t ht hW => ⟨⟨_, (), rfl, rfl, by rw [ht]; exact hP, va_K.moved hW.alike hK, hD⟩, hS.F ht⟩) hS.2.2 d_C_unit_75
      · rw [if_neg h57_6] at hf
        refine lv_aload_n hx hb d_C_unit_60 rfl (lv_at hl 0 rfl) ?_
        refine lv_bipush (v := 9) hx hb d_C_unit_61 (by decide) ?_
        refine lv_iload_n hx hb d_C_unit_63 rfl (lv_at hl 3 rfl) ?_
        have hP : va_P (dC, dI) vC (wC a cI cC F A) H := hP
        have hD : va_D (va_A (wC a cI cC Fa Aa) s.heap.size) (wC a cI cC F A) := hD
        obtain ⟨r7, F7, A7, hc, hf⟩ := ra_bi_some hf
        refine cc_calli (va_runV (As := [.int (9 : Int32), .int x3]) (rest := []) ⟨hx, hb, hml, hown, hts⟩ (k_C_each l dC dI a cI cC H.size F A (9 : Int32) x3 r7 F7 A7 hc) (cw_V 2 hts mw_219 mw_221 ms_C_each mw_3 mw_222 rfl rfl rfl hd_C_each ⟨(show 1 + 1 ≤ (fI + 12) by omega), (show 8 + (5 + 11) + 24 ≤ (lI + 500) by omega)⟩) (cc_preV hK hP hD rfl (q0 := 0) rfl) rfl rfl hl.1 rfl (lv_room (Nat.le_of_ble_eq_true rfl)) d_C_unit_64 ⟨Nat.zero_le _, Nat.zero_le _⟩) hD hS hA (fun H locs hP hD hS => ?_)
        refine lv_istore_n hx hb d_C_unit_67 rfl hl (by decide) rfl (fun ls hl => ?_)
        have hl : lv_has ls 5 [(3, .int r7), (0, .ref (a 0)), (1, .int x1), (2, .int x2), (4, .int x4)] := hl
        refine lv_iinc (k := 4) (v := (x4 + (1 : Int32))) hx hb d_C_unit_68 hl rfl (by rfl) (by decide) rfl (fun ls hl => ?_)
        have hl : lv_has ls 5 [(4, .int (x4 + (1 : Int32))), (3, .int r7), (0, .ref (a 0)), (1, .int x1), (2, .int x2)] := hl
        refine lv_goto (tgt := 54) hx hb d_C_unit_71 (by decide) ?_
        have hl : lv_has ls 5 [(0, .ref (a 0)), (1, .int x1), (2, .int x2), (3, .int r7), (4, .int (x4 + (1 : Int32)))] := lv_sub hl [2, 3, 4, 1, 0] rfl
        exact ih x1 x2 r7 (x4 + (1 : Int32)) F7 A7 _ _ _ hl hP hD hS hf
  have J24 : ∀ (x1 : Int32) (x2 : Int32) (F : ST_F) (A : ST_A) (H : Heap) (locs : List Loc) (ls : Array Slot), lv_has ls 5 [(0, .ref (a 0)), (1, .int x1), (2, .int x2)] → va_P (dC, dI) vC (wC a cI cC F A) H → va_D (va_A (wC a cI cC Fa Aa) s.heap.size) (wC a cI cC F A) → va_S (va_A (wC a cI cC Fa Aa) s.heap.size) s.heap H locs → f_C_unit_J24 inner x1 x2 F A = some (r0, F9, A9) → W p l e (headSpec (Cond.code y_C_unit b_C_unit 5 (some .int) :: wA) ({ frames := (fI + 12), cells := 0, slots := 0, locals := (lI + 500) } : Room)).room s m ([.ref (a 0), .int u1] : List Value).toArray below meth c H locs 0 0 (MQ below (cc_Qi (dC, dI) vC [(cI, .int), (cC, .char)] (wC a cI cC Fa Aa) s.heap.size (wC a cI cC F9 A9) r0) ([.ref (a 0), .int u1] : List Value).toArray s 0 0 (va_A (wC a cI cC Fa Aa) s.heap.size)) (F0 m 24 ls []) := by
    intro x1 x2 F A H locs ls hl hP hD hS hf
    unfold f_C_unit_J24 at hf
    refine lv_aload_n hx hb d_C_unit_24 rfl (lv_at hl 0 rfl) ?_
    have hP : va_P (dC, dI) vC (wC a cI cC F A) H := hP
    have hD : va_D (va_A (wC a cI cC Fa Aa) s.heap.size) (wC a cI cC F A) := hD
    obtain ⟨r2, F2, A2, hc, hf⟩ := ra_bi_some hf
    refine cc_calli (va_runV (As := []) (rest := []) ⟨hx, hb, hml, hown, hts⟩ (k_C_next l dC dI a cI cC H.size F A  r2 F2 A2 hc) (cw_V 0 hts mw_155 mw_157 ms_C_next mw_3 mw_158 rfl rfl rfl hd_C_next ⟨(show 0 + 1 ≤ (fI + 12) by omega), (show 8 + (1 + 11) + 0 ≤ (lI + 500) by omega)⟩) (cc_preV hK hP hD rfl (q0 := 0) rfl) rfl rfl hl.1 rfl (lv_room (Nat.le_of_ble_eq_true rfl)) d_C_unit_25 ⟨Nat.zero_le _, Nat.zero_le _⟩) hD hS hA (fun H locs hP hD hS => ?_)
    refine cc_calls (va_runS (As := [.int r2]) (rest := []) ⟨hx, hb, hml, hown, hts⟩ (k_C_isDigit l r2 _ rfl) (cw_S 1 hts mw_181 mw_182 mw_3 mw_183 rfl rfl hd_C_isDigit ⟨(show 0 + 1 ≤ (fI + 12) by omega), (show 8 + (1 + 11) + 0 ≤ (lI + 500) by omega)⟩) cc_preS rfl rfl hl.1 rfl (lv_room (Nat.le_of_ble_eq_true rfl)) d_C_unit_28 ⟨Nat.zero_le _, Nat.zero_le _⟩) ?_
    refine lv_if_eq (tgt := 41) hx hb d_C_unit_31 (by decide) (fun h31_3 => ?_) (fun h31_3 => ?_)
    · rw [if_pos h31_3] at hf
      refine lv_aload_n hx hb d_C_unit_41 rfl (lv_at hl 0 rfl) ?_
      refine lv_aload_n hx hb d_C_unit_42 rfl (lv_at hl 0 rfl) ?_
      refine lv_iload_n hx hb d_C_unit_43 rfl (lv_at hl 1 rfl) ?_
      have hP : va_P (dC, dI) vC (wC a cI cC F2 A2) H := hP
      have hD : va_D (va_A (wC a cI cC Fa Aa) s.heap.size) (wC a cI cC F2 A2) := hD
      obtain ⟨r4, F4, A4, hc, hf⟩ := ra_bi_some hf
      refine cc_calli (va_runV (As := [.int x1]) (rest := [.ref (a 0)]) ⟨hx, hb, hml, hown, hts⟩ (k_C_part l dC dI a cI cC fI lI inner hin H.size F2 A2 x1 r4 F4 A4 hc) (cw_V 1 hts mw_203 mw_205 ms_C_part mw_3 mw_206 rfl rfl rfl hd_C_part ⟨(show (fI + 10) + 1 ≤ (fI + 12) by omega), (show 8 + (4 + 11) + (lI + 400) ≤ (lI + 500) by omega)⟩) (cc_preV hK hP hD rfl (q0 := 0) rfl) rfl rfl hl.1 rfl (lv_room (Nat.le_of_ble_eq_true rfl)) d_C_unit_44 ⟨Nat.zero_le _, Nat.zero_le _⟩) hD hS hA (fun H locs hP hD hS => ?_)
      have hP : va_P (dC, dI) vC (wC a cI cC F4 A4) H := hP
      have hD : va_D (va_A (wC a cI cC Fa Aa) s.heap.size) (wC a cI cC F4 A4) := hD
      obtain ⟨r5, F5, A5, hc, hf⟩ := ra_bi_some hf
      refine cc_calli (va_runV (As := [.int r4]) (rest := []) ⟨hx, hb, hml, hown, hts⟩ (k_C_picked l dC dI a cI cC H.size F4 A4 r4 r5 F5 A5 hc) (cw_V 1 hts mw_264 mw_266 ms_C_picked mw_3 mw_267 rfl rfl rfl hd_C_picked ⟨(show 2 + 1 ≤ (fI + 12) by omega), (show 8 + (6 + 11) + 41 ≤ (lI + 500) by omega)⟩) (cc_preV hK hP hD rfl (q0 := 0) rfl) rfl rfl hl.1 rfl (lv_room (Nat.le_of_ble_eq_true rfl)) d_C_unit_47 ⟨Nat.zero_le _, Nat.zero_le _⟩) hD hS hA (fun H locs hP hD hS => ?_)
      refine lv_istore_n hx hb d_C_unit_50 rfl hl (by decide) rfl (fun ls hl => ?_)
      have hl : lv_has ls 5 [(3, .int r5), (0, .ref (a 0)), (1, .int x1), (2, .int x2)] := hl
      refine lv_iconst (v := 0) hx hb d_C_unit_51 (by decide) ?_
      refine lv_istore hx hb d_C_unit_52 hl (by decide) rfl (fun ls hl => ?_)
      have hl : lv_has ls 5 [(4, .int (0 : Int32)), (3, .int r5), (0, .ref (a 0)), (1, .int x1), (2, .int x2)] := hl
      have hl : lv_has ls 5 [(0, .ref (a 0)), (1, .int x1), (2, .int x2), (3, .int r5), (4, .int (0 : Int32))] := lv_sub hl [2, 3, 4, 1, 0] rfl
      exact L54 400 x1 x2 r5 (0 : Int32) F5 A5 _ _ _ hl hP hD hS hf
    · rw [if_neg h31_3] at hf
      refine lv_aload_n hx hb d_C_unit_34 rfl (lv_at hl 0 rfl) ?_
      have hP : va_P (dC, dI) vC (wC a cI cC F2 A2) H := hP
      have hD : va_D (va_A (wC a cI cC Fa Aa) s.heap.size) (wC a cI cC F2 A2) := hD
      obtain ⟨r8, F8, A8, hc, hf⟩ := ra_bi_some hf
      refine cc_calli (va_runV (As := []) (rest := []) ⟨hx, hb, hml, hown, hts⟩ (k_C_constant l dC dI a cI cC H.size F2 A2  r8 F8 A8 hc) (cw_V 0 hts mw_184 mw_186 ms_C_constant mw_3 mw_187 rfl rfl rfl hd_C_constant ⟨(show 2 + 1 ≤ (fI + 12) by omega), (show 8 + (5 + 11) + 41 ≤ (lI + 500) by omega)⟩) (cc_preV hK hP hD rfl (q0 := 0) rfl) rfl rfl hl.1 rfl (lv_room (Nat.le_of_ble_eq_true rfl)) d_C_unit_35 ⟨Nat.zero_le _, Nat.zero_le _⟩) hD hS hA (fun H locs hP hD hS => ?_)
      refine lv_goto (tgt := 50) hx hb d_C_unit_38 (by decide) ?_
      refine lv_istore_n hx hb d_C_unit_50 rfl hl (by decide) rfl (fun ls hl => ?_)
      have hl : lv_has ls 5 [(3, .int r8), (0, .ref (a 0)), (1, .int x1), (2, .int x2)] := hl
      refine lv_iconst (v := 0) hx hb d_C_unit_51 (by decide) ?_
      refine lv_istore hx hb d_C_unit_52 hl (by decide) rfl (fun ls hl => ?_)
      have hl : lv_has ls 5 [(4, .int (0 : Int32)), (3, .int r8), (0, .ref (a 0)), (1, .int x1), (2, .int x2)] := hl
      have hl : lv_has ls 5 [(0, .ref (a 0)), (1, .int x1), (2, .int x2), (3, .int r8), (4, .int (0 : Int32))] := lv_sub hl [2, 3, 4, 1, 0] rfl
      exact L54 400 x1 x2 r8 (0 : Int32) F8 A8 _ _ _ hl hP hD hS hf
  have L2 : ∀ (n : Nat) (x1 : Int32) (x2 : Int32) (F : ST_F) (A : ST_A) (H : Heap) (locs : List Loc) (ls : Array Slot), lv_has ls 5 [(0, .ref (a 0)), (1, .int x1), (2, .int x2)] → va_P (dC, dI) vC (wC a cI cC F A) H → va_D (va_A (wC a cI cC Fa Aa) s.heap.size) (wC a cI cC F A) → va_S (va_A (wC a cI cC Fa Aa) s.heap.size) s.heap H locs → f_C_unit_L2 inner n x1 x2 F A = some (r0, F9, A9) → W p l e (headSpec (Cond.code y_C_unit b_C_unit 5 (some .int) :: wA) ({ frames := (fI + 12), cells := 0, slots := 0, locals := (lI + 500) } : Room)).room s m ([.ref (a 0), .int u1] : List Value).toArray below meth c H locs 0 0 (MQ below (cc_Qi (dC, dI) vC [(cI, .int), (cC, .char)] (wC a cI cC Fa Aa) s.heap.size (wC a cI cC F9 A9) r0) ([.ref (a 0), .int u1] : List Value).toArray s 0 0 (va_A (wC a cI cC Fa Aa) s.heap.size)) (F0 m 2 ls []) := by
    intro n
    induction n with
    | zero => intro x1 x2 F A H locs ls hl hP hD hS hf; cases hf
    | succ n ih =>
      intro x1 x2 F A H locs ls hl hP hD hS hf
      rw [f_C_unit_L2] at hf
      refine lv_iload_n hx hb d_C_unit_2 rfl (lv_at hl 2 rfl) ?_
      refine lv_sipush (v := 160) hx hb d_C_unit_3 (by decide) ?_
      refine lv_icmp_ge (tgt := 24) hx hb d_C_unit_6 (by decide) (fun h6_1 => ?_) (fun h6_1 => ?_)
      · rw [if_pos h6_1] at hf
        have hl : lv_has ls 5 [(0, .ref (a 0)), (1, .int x1), (2, .int x2)] := lv_sub hl [0, 1, 2] rfl
        exact J24 x1 x2 F A _ _ _ hl hP hD hS hf
      · rw [if_neg h6_1] at hf
        refine lv_aload_n hx hb d_C_unit_9 rfl (lv_at hl 0 rfl) ?_
        refine lv_bipush (v := 45) hx hb d_C_unit_10 (by decide) ?_
        have hP : va_P (dC, dI) vC (wC a cI cC F A) H := hP
        have hD : va_D (va_A (wC a cI cC Fa Aa) s.heap.size) (wC a cI cC F A) := hD
        obtain ⟨r9, F9, A9, hc, hf⟩ := ra_bi_some hf
        refine cc_calli (va_runV (As := [.int (45 : Int32)]) (rest := []) ⟨hx, hb, hml, hown, hts⟩ (k_C_takes l dC dI a cI cC H.size F A (45 : Int32) r9 F9 A9 hc) (cw_V 1 hts mw_177 mw_179 ms_C_takes mw_3 mw_180 rfl rfl rfl hd_C_takes ⟨(show 1 + 1 ≤ (fI + 12) by omega), (show 8 + (2 + 11) + 20 ≤ (lI + 500) by omega)⟩) (cc_preV hK hP hD rfl (q0 := 0) rfl) rfl rfl hl.1 rfl (lv_room (Nat.le_of_ble_eq_true rfl)) d_C_unit_12 ⟨Nat.zero_le _, Nat.zero_le _⟩) hD hS hA (fun H locs hP hD hS => ?_)
        refine lv_if_eq (tgt := 24) hx hb d_C_unit_15 (by decide) (fun h15_10 => ?_) (fun h15_10 => ?_)
        · rw [if_pos h15_10] at hf
          have hl : lv_has ls 5 [(0, .ref (a 0)), (1, .int x1), (2, .int x2)] := lv_sub hl [0, 1, 2] rfl
          exact J24 x1 x2 F9 A9 _ _ _ hl hP hD hS hf
        · rw [if_neg h15_10] at hf
          refine lv_iinc (k := 2) (v := (x2 + (1 : Int32))) hx hb d_C_unit_18 hl rfl (by rfl) (by decide) rfl (fun ls hl => ?_)
          have hl : lv_has ls 5 [(2, .int (x2 + (1 : Int32))), (0, .ref (a 0)), (1, .int x1)] := hl
          refine lv_goto (tgt := 2) hx hb d_C_unit_21 (by decide) ?_
          have hl : lv_has ls 5 [(0, .ref (a 0)), (1, .int x1), (2, .int (x2 + (1 : Int32)))] := lv_sub hl [1, 2, 0] rfl
          exact ih x1 (x2 + (1 : Int32)) F9 A9 _ _ _ hl hP hD hS hf
  rw [lg_entry_eq]
  generalize (lg_sl (([.ref (a 0), .int u1] : List Value)) ++ List.replicate (5 - (lg_sl (([.ref (a 0), .int u1] : List Value))).length) Slot.unset).toArray = ls at hl ⊢
  have hl : lv_has ls 5 [(0, .ref (a 0)), (1, .int u1)] := hl
  unfold f_C_unit at hf
  refine lv_iconst (v := 0) hx hb d_C_unit_0 (by decide) ?_
  refine lv_istore_n hx hb d_C_unit_1 rfl hl (by decide) rfl (fun ls hl => ?_)
  have hl : lv_has ls 5 [(2, .int (0 : Int32)), (0, .ref (a 0)), (1, .int u1)] := hl
  have hl : lv_has ls 5 [(0, .ref (a 0)), (1, .int u1), (2, .int (0 : Int32))] := lv_sub hl [1, 2, 0] rfl
  exact L2 400 u1 (0 : Int32) Fa Aa _ _ _ hl hP hD hS hf
def f_C_product_L8 (inner : Int32 → ST_F → ST_A → Option (Int32 × ST_F × ST_A)) : Nat → Int32 → Int32 → Int32 → ST_F → ST_A → Option (Int32 × ST_F × ST_A)
  | 0, _, _, _, _, _ => none
  | n + 1, x1, x2, x3, F, A => if (160 : Int32) ≤ x3 then (some ((-1 : Int32), F, A)) else (if x2 = (-1 : Int32) then (some ((-1 : Int32), F, A)) else (ra_bi (f_C_takes (42 : Int32) F A) (fun r4 F4 A4 => if r4 = 0 then (ra_bi (f_C_takes (47 : Int32) F4 A4) (fun r6 F6 A6 => if r6 = 0 then (some (x2, F6, A6)) else (ra_bi (f_C_unit inner x1 F6 A6) (fun r8 F8 A8 => ra_bi (f_C_dividedBy x2 r8 F8 A8) (fun r9 F9 A9 => f_C_product_L8 inner n x1 r9 (x3 + (1 : Int32)) F9 A9))))) else (ra_bi (f_C_unit inner x1 F4 A4) (fun r10 F10 A10 => ra_bi (f_C_times x2 r10 F10 A10) (fun r11 F11 A11 => f_C_product_L8 inner n x1 r11 (x3 + (1 : Int32)) F11 A11))))))
def f_C_product (inner : Int32 → ST_F → ST_A → Option (Int32 × ST_F × ST_A)) (u1 : Int32) (Fa : ST_F) (Aa : ST_A) : Option (Int32 × ST_F × ST_A) := ra_bi (f_C_unit inner u1 Fa Aa) (fun r1 F1 A1 => f_C_product_L8 inner 400 u1 r1 (0 : Int32) F1 A1)
set_option maxHeartbeats 4000000 in
set_option maxRecDepth 100000 in
theorem k_C_product (l : Launch) (dC : Nat → ClassId) (dI : Nat → Nat → Nat) (a : Nat → Nat) (cI cC : ClassId) (fI lI : Nat) (inner : Int32 → ST_F → ST_A → Option (Int32 × ST_F × ST_A)) (hin : ∀ (sz : Nat) (Fa : ST_F) (Aa : ST_A) (u1 r0 : Int32) (F9 : ST_F) (A9 : ST_A), inner u1 Fa Aa = some (r0, F9, A9) → cc_MetI l y_C_sum (Cond.code y_C_sum b_C_sum 4 (some .int) :: wA) ({ frames := fI, cells := 0, slots := 0, locals := lI } : Room) (dC, dI) vC [(cI, .int), (cC, .char)] ([.ref (a 0), .int u1] : List Value) (wC a cI cC Fa Aa) sz (wC a cI cC F9 A9) r0) (sz : Nat) (Fa : ST_F) (Aa : ST_A) (u1 : Int32) (r0 : Int32) (F9 : ST_F) (A9 : ST_A) (hf : f_C_product inner u1 Fa Aa = some (r0, F9, A9)) : cc_MetI l y_C_product (Cond.code y_C_product b_C_product 4 (some .int) :: wA) ({ frames := (fI + 14), cells := 0, slots := 0, locals := (lI + 600) } : Room) (dC, dI) vC [(cI, .int), (cC, .char)] ([.ref (a 0), .int u1] : List Value) (wC a cI cC Fa Aa) sz (wC a cI cC F9 A9) r0 := by
  refine Met.ofW (cc := b_C_product) (maxL := 4) (ret := (some .int)) (by decide) rfl ?_
  intro p e s m args below meth c s₁ B hml hv
  obtain ⟨rfl, hsz, hP, hK, hD0⟩ := hv
  have hx := B.exec
  have hb := B.bytes
  have hr := B.returns
  have hts := fun w h => atoms_spec (ws := (Cond.code y_C_product b_C_product 4 (some .int) :: wA)) B.pre w (List.mem_cons_of_mem _ h)
  have hown : s.vm.findClass R_C = some m.cls := findClass_of_methodNamed B.named
  have hlocks := B.notSynchronized
  subst hsz
  have hD := hD0.self (sz := s.heap.size)
  have hA : ∀ q : Nat, s.heap.size ≤ q → va_A (wC a cI cC Fa Aa) s.heap.size q := fun q h => Or.inr h
  have hS : va_S (va_A (wC a cI cC Fa Aa) s.heap.size) s.heap s.heap [] := va_S.rf
  have hl := lv_entry (([.ref (a 0), .int u1] : List Value)) (n := 4) (Nat.le_of_ble_eq_true rfl)
  have L8 : ∀ (n : Nat) (x1 : Int32) (x2 : Int32) (x3 : Int32) (F : ST_F) (A : ST_A) (H : Heap) (locs : List Loc) (ls : Array Slot), lv_has ls 4 [(0, .ref (a 0)), (1, .int x1), (2, .int x2), (3, .int x3)] → va_P (dC, dI) vC (wC a cI cC F A) H → va_D (va_A (wC a cI cC Fa Aa) s.heap.size) (wC a cI cC F A) → va_S (va_A (wC a cI cC Fa Aa) s.heap.size) s.heap H locs → f_C_product_L8 inner n x1 x2 x3 F A = some (r0, F9, A9) → W p l e (headSpec (Cond.code y_C_product b_C_product 4 (some .int) :: wA) ({ frames := (fI + 14), cells := 0, slots := 0, locals := (lI + 600) } : Room)).room s m ([.ref (a 0), .int u1] : List Value).toArray below meth c H locs 0 0 (MQ below (cc_Qi (dC, dI) vC [(cI, .int), (cC, .char)] (wC a cI cC Fa Aa) s.heap.size (wC a cI cC F9 A9) r0) ([.ref (a 0), .int u1] : List Value).toArray s 0 0 (va_A (wC a cI cC Fa Aa) s.heap.size)) (F0 m 8 ls []) := by
    intro n
    induction n with
    | zero => intro x1 x2 x3 F A H locs ls hl hP hD hS hf; cases hf
    | succ n ih =>
      intro x1 x2 x3 F A H locs ls hl hP hD hS hf
      rw [f_C_product_L8] at hf
      refine lv_iload_n hx hb d_C_product_8 rfl (lv_at hl 3 rfl) ?_
      refine lv_sipush (v := 160) hx hb d_C_product_9 (by decide) ?_
      refine lv_icmp_ge (tgt := 74) hx hb d_C_product_12 (by decide) (fun h12_2 => ?_) (fun h12_2 => ?_)
      · rw [if_pos h12_2] at hf
        refine lv_iconst (v := -1) hx hb d_C_product_74 (by decide) ?_
        cases hf
        exact W.iret hx hb hr (fun t ht hW => ⟨⟨_, (), rfl, rfl, by rw [ht]; exact hP, va_K.moved hW.alike hK, hD⟩, hS.F ht⟩) hS.2.2 d_C_product_75
      · rw [if_neg h12_2] at hf
        refine lv_iload_n hx hb d_C_product_15 rfl (lv_at hl 2 rfl) ?_
        refine lv_iconst (v := -1) hx hb d_C_product_16 (by decide) ?_
        refine lv_icmp_eq (tgt := 74) hx hb d_C_product_17 (by decide) (fun h17_3 => ?_) (fun h17_3 => ?_)
        · rw [if_pos h17_3] at hf
          refine lv_iconst (v := -1) hx hb d_C_product_74 (by decide) ?_
          cases hf
          exact W.iret hx hb hr (fun t ht hW => ⟨⟨_, (), rfl, rfl, by rw [ht]; exact hP, va_K.moved hW.alike hK, hD⟩, hS.F ht⟩) hS.2.2 d_C_product_75
        · rw [if_neg h17_3] at hf
          refine lv_aload_n hx hb d_C_product_20 rfl (lv_at hl 0 rfl) ?_
          refine lv_bipush (v := 42) hx hb d_C_product_21 (by decide) ?_
          have hP : va_P (dC, dI) vC (wC a cI cC F A) H := hP
          have hD : va_D (va_A (wC a cI cC Fa Aa) s.heap.size) (wC a cI cC F A) := hD
          obtain ⟨r4, F4, A4, hc, hf⟩ := ra_bi_some hf
          refine cc_calli (va_runV (As := [.int (42 : Int32)]) (rest := []) ⟨hx, hb, hml, hown, hts⟩ (k_C_takes l dC dI a cI cC H.size F A (42 : Int32) r4 F4 A4 hc) (cw_V 1 hts mw_177 mw_179 ms_C_takes mw_3 mw_180 rfl rfl rfl hd_C_takes ⟨(show 1 + 1 ≤ (fI + 14) by omega), (show 8 + (2 + 11) + 20 ≤ (lI + 600) by omega)⟩) (cc_preV hK hP hD rfl (q0 := 0) rfl) rfl rfl hl.1 rfl (lv_room (Nat.le_of_ble_eq_true rfl)) d_C_product_23 ⟨Nat.zero_le _, Nat.zero_le _⟩) hD hS hA (fun H locs hP hD hS => ?_)
          refine lv_if_eq (tgt := 43) hx hb d_C_product_26 (by decide) (fun h26_5 => ?_) (fun h26_5 => ?_)
          · rw [if_pos h26_5] at hf
            refine lv_aload_n hx hb d_C_product_43 rfl (lv_at hl 0 rfl) ?_
            refine lv_bipush (v := 47) hx hb d_C_product_44 (by decide) ?_
            have hP : va_P (dC, dI) vC (wC a cI cC F4 A4) H := hP
            have hD : va_D (va_A (wC a cI cC Fa Aa) s.heap.size) (wC a cI cC F4 A4) := hD
            obtain ⟨r6, F6, A6, hc, hf⟩ := ra_bi_some hf
            refine cc_calli (va_runV (As := [.int (47 : Int32)]) (rest := []) ⟨hx, hb, hml, hown, hts⟩ (k_C_takes l dC dI a cI cC H.size F4 A4 (47 : Int32) r6 F6 A6 hc) (cw_V 1 hts mw_177 mw_179 ms_C_takes mw_3 mw_180 rfl rfl rfl hd_C_takes ⟨(show 1 + 1 ≤ (fI + 14) by omega), (show 8 + (2 + 11) + 20 ≤ (lI + 600) by omega)⟩) (cc_preV hK hP hD rfl (q0 := 0) rfl) rfl rfl hl.1 rfl (lv_room (Nat.le_of_ble_eq_true rfl)) d_C_product_46 ⟨Nat.zero_le _, Nat.zero_le _⟩) hD hS hA (fun H locs hP hD hS => ?_)
            refine lv_if_eq (tgt := 66) hx hb d_C_product_49 (by decide) (fun h49_7 => ?_) (fun h49_7 => ?_)
            · rw [if_pos h49_7] at hf
              refine lv_iload_n hx hb d_C_product_66 rfl (lv_at hl 2 rfl) ?_
              cases hf
              exact W.iret hx hb hr (fun t ht hW => ⟨⟨_, (), rfl, rfl, by rw [ht]; exact hP, va_K.moved hW.alike hK, hD⟩, hS.F ht⟩) hS.2.2 d_C_product_67
            · rw [if_neg h49_7] at hf
              refine lv_aload_n hx hb d_C_product_52 rfl (lv_at hl 0 rfl) ?_
              refine lv_iload_n hx hb d_C_product_53 rfl (lv_at hl 2 rfl) ?_
              refine lv_aload_n hx hb d_C_product_54 rfl (lv_at hl 0 rfl) ?_
              refine lv_iload_n hx hb d_C_product_55 rfl (lv_at hl 1 rfl) ?_
              have hP : va_P (dC, dI) vC (wC a cI cC F6 A6) H := hP
              have hD : va_D (va_A (wC a cI cC Fa Aa) s.heap.size) (wC a cI cC F6 A6) := hD
              obtain ⟨r8, F8, A8, hc, hf⟩ := ra_bi_some hf
              refine cc_calli (va_runV (As := [.int x1]) (rest := [.int x2, .ref (a 0)]) ⟨hx, hb, hml, hown, hts⟩ (k_C_unit l dC dI a cI cC fI lI inner hin H.size F6 A6 x1 r8 F8 A8 hc) (cw_V 1 hts mw_173 mw_175 ms_C_unit mw_3 mw_176 rfl rfl rfl hd_C_unit ⟨(show (fI + 12) + 1 ≤ (fI + 14) by omega), (show 8 + (5 + 11) + (lI + 500) ≤ (lI + 600) by omega)⟩) (cc_preV hK hP hD rfl (q0 := 0) rfl) rfl rfl hl.1 rfl (lv_room (Nat.le_of_ble_eq_true rfl)) d_C_product_56 ⟨Nat.zero_le _, Nat.zero_le _⟩) hD hS hA (fun H locs hP hD hS => ?_)
              have hP : va_P (dC, dI) vC (wC a cI cC F8 A8) H := hP
              have hD : va_D (va_A (wC a cI cC Fa Aa) s.heap.size) (wC a cI cC F8 A8) := hD
              obtain ⟨r9, F9, A9, hc, hf⟩ := ra_bi_some hf
              refine cc_calli (va_runV (As := [.int x2, .int r8]) (rest := []) ⟨hx, hb, hml, hown, hts⟩ (k_C_dividedBy l dC dI a cI cC H.size F8 A8 x2 r8 r9 F9 A9 hc) (cw_V 2 hts mw_276 mw_278 ms_C_dividedBy mw_3 mw_279 rfl rfl rfl hd_C_dividedBy ⟨(show 3 + 1 ≤ (fI + 14) by omega), (show 8 + (3 + 11) + 71 ≤ (lI + 600) by omega)⟩) (cc_preV hK hP hD rfl (q0 := 0) rfl) rfl rfl hl.1 rfl (lv_room (Nat.le_of_ble_eq_true rfl)) d_C_product_59 ⟨Nat.zero_le _, Nat.zero_le _⟩) hD hS hA (fun H locs hP hD hS => ?_)
              refine lv_istore_n hx hb d_C_product_62 rfl hl (by decide) rfl (fun ls hl => ?_)
              have hl : lv_has ls 4 [(2, .int r9), (0, .ref (a 0)), (1, .int x1), (3, .int x3)] := hl
              refine lv_goto (tgt := 68) hx hb d_C_product_63 (by decide) ?_
              refine lv_iinc (k := 3) (v := (x3 + (1 : Int32))) hx hb d_C_product_68 hl rfl (by rfl) (by decide) rfl (fun ls hl => ?_)
              have hl : lv_has ls 4 [(3, .int (x3 + (1 : Int32))), (2, .int r9), (0, .ref (a 0)), (1, .int x1)] := hl
              refine lv_goto (tgt := 8) hx hb d_C_product_71 (by decide) ?_
              have hl : lv_has ls 4 [(0, .ref (a 0)), (1, .int x1), (2, .int r9), (3, .int (x3 + (1 : Int32)))] := lv_sub hl [2, 3, 1, 0] rfl
              exact ih x1 r9 (x3 + (1 : Int32)) F9 A9 _ _ _ hl hP hD hS hf
          · rw [if_neg h26_5] at hf
            refine lv_aload_n hx hb d_C_product_29 rfl (lv_at hl 0 rfl) ?_
            refine lv_iload_n hx hb d_C_product_30 rfl (lv_at hl 2 rfl) ?_
            refine lv_aload_n hx hb d_C_product_31 rfl (lv_at hl 0 rfl) ?_
            refine lv_iload_n hx hb d_C_product_32 rfl (lv_at hl 1 rfl) ?_
            have hP : va_P (dC, dI) vC (wC a cI cC F4 A4) H := hP
            have hD : va_D (va_A (wC a cI cC Fa Aa) s.heap.size) (wC a cI cC F4 A4) := hD
            obtain ⟨r10, F10, A10, hc, hf⟩ := ra_bi_some hf
            refine cc_calli (va_runV (As := [.int x1]) (rest := [.int x2, .ref (a 0)]) ⟨hx, hb, hml, hown, hts⟩ (k_C_unit l dC dI a cI cC fI lI inner hin H.size F4 A4 x1 r10 F10 A10 hc) (cw_V 1 hts mw_173 mw_175 ms_C_unit mw_3 mw_176 rfl rfl rfl hd_C_unit ⟨(show (fI + 12) + 1 ≤ (fI + 14) by omega), (show 8 + (5 + 11) + (lI + 500) ≤ (lI + 600) by omega)⟩) (cc_preV hK hP hD rfl (q0 := 0) rfl) rfl rfl hl.1 rfl (lv_room (Nat.le_of_ble_eq_true rfl)) d_C_product_33 ⟨Nat.zero_le _, Nat.zero_le _⟩) hD hS hA (fun H locs hP hD hS => ?_)
            have hP : va_P (dC, dI) vC (wC a cI cC F10 A10) H := hP
            have hD : va_D (va_A (wC a cI cC Fa Aa) s.heap.size) (wC a cI cC F10 A10) := hD
            obtain ⟨r11, F11, A11, hc, hf⟩ := ra_bi_some hf
            refine cc_calli (va_runV (As := [.int x2, .int r10]) (rest := []) ⟨hx, hb, hml, hown, hts⟩ (k_C_times l dC dI a cI cC H.size F10 A10 x2 r10 r11 F11 A11 hc) (cw_V 2 hts mw_268 mw_270 ms_C_times mw_3 mw_271 rfl rfl rfl hd_C_times ⟨(show 3 + 1 ≤ (fI + 14) by omega), (show 8 + (4 + 11) + 71 ≤ (lI + 600) by omega)⟩) (cc_preV hK hP hD rfl (q0 := 0) rfl) rfl rfl hl.1 rfl (lv_room (Nat.le_of_ble_eq_true rfl)) d_C_product_36 ⟨Nat.zero_le _, Nat.zero_le _⟩) hD hS hA (fun H locs hP hD hS => ?_)
            refine lv_istore_n hx hb d_C_product_39 rfl hl (by decide) rfl (fun ls hl => ?_)
            have hl : lv_has ls 4 [(2, .int r11), (0, .ref (a 0)), (1, .int x1), (3, .int x3)] := hl
            refine lv_goto (tgt := 68) hx hb d_C_product_40 (by decide) ?_
            refine lv_iinc (k := 3) (v := (x3 + (1 : Int32))) hx hb d_C_product_68 hl rfl (by rfl) (by decide) rfl (fun ls hl => ?_)
            have hl : lv_has ls 4 [(3, .int (x3 + (1 : Int32))), (2, .int r11), (0, .ref (a 0)), (1, .int x1)] := hl
            refine lv_goto (tgt := 8) hx hb d_C_product_71 (by decide) ?_
            have hl : lv_has ls 4 [(0, .ref (a 0)), (1, .int x1), (2, .int r11), (3, .int (x3 + (1 : Int32)))] := lv_sub hl [2, 3, 1, 0] rfl
            exact ih x1 r11 (x3 + (1 : Int32)) F11 A11 _ _ _ hl hP hD hS hf
  rw [lg_entry_eq]
  generalize (lg_sl (([.ref (a 0), .int u1] : List Value)) ++ List.replicate (4 - (lg_sl (([.ref (a 0), .int u1] : List Value))).length) Slot.unset).toArray = ls at hl ⊢
  have hl : lv_has ls 4 [(0, .ref (a 0)), (1, .int u1)] := hl
  unfold f_C_product at hf
  refine lv_aload_n hx hb d_C_product_0 rfl (lv_at hl 0 rfl) ?_
  refine lv_iload_n hx hb d_C_product_1 rfl (lv_at hl 1 rfl) ?_
  have hP : va_P (dC, dI) vC (wC a cI cC Fa Aa) s.heap := hP
  have hD : va_D (va_A (wC a cI cC Fa Aa) s.heap.size) (wC a cI cC Fa Aa) := hD
  obtain ⟨r1, F1, A1, hc, hf⟩ := ra_bi_some hf
  refine cc_calli (va_runV (As := [.int u1]) (rest := []) ⟨hx, hb, hml, hown, hts⟩ (k_C_unit l dC dI a cI cC fI lI inner hin s.heap.size Fa Aa u1 r1 F1 A1 hc) (cw_V 1 hts mw_173 mw_175 ms_C_unit mw_3 mw_176 rfl rfl rfl hd_C_unit ⟨(show (fI + 12) + 1 ≤ (fI + 14) by omega), (show 8 + (5 + 11) + (lI + 500) ≤ (lI + 600) by omega)⟩) (cc_preV hK hP hD rfl (q0 := 0) rfl) rfl rfl hl.1 rfl (lv_room (Nat.le_of_ble_eq_true rfl)) d_C_product_2 ⟨Nat.zero_le _, Nat.zero_le _⟩) hD hS hA (fun H locs hP hD hS => ?_)
  refine lv_istore_n hx hb d_C_product_5 rfl hl (by decide) rfl (fun ls hl => ?_)
  have hl : lv_has ls 4 [(2, .int r1), (0, .ref (a 0)), (1, .int u1)] := hl
  refine lv_iconst (v := 0) hx hb d_C_product_6 (by decide) ?_
  refine lv_istore_n hx hb d_C_product_7 rfl hl (by decide) rfl (fun ls hl => ?_)
  have hl : lv_has ls 4 [(3, .int (0 : Int32)), (2, .int r1), (0, .ref (a 0)), (1, .int u1)] := hl
  have hl : lv_has ls 4 [(0, .ref (a 0)), (1, .int u1), (2, .int r1), (3, .int (0 : Int32))] := lv_sub hl [2, 3, 1, 0] rfl
  exact L8 400 u1 r1 (0 : Int32) F1 A1 _ _ _ hl hP hD hS hf
def f_C_sum_L8 (inner : Int32 → ST_F → ST_A → Option (Int32 × ST_F × ST_A)) : Nat → Int32 → Int32 → Int32 → ST_F → ST_A → Option (Int32 × ST_F × ST_A)
  | 0, _, _, _, _, _ => none
  | n + 1, x1, x2, x3, F, A => if (160 : Int32) ≤ x3 then (some ((-1 : Int32), F, A)) else (if x2 = (-1 : Int32) then (some ((-1 : Int32), F, A)) else (ra_bi (f_C_takes (43 : Int32) F A) (fun r4 F4 A4 => if r4 = 0 then (ra_bi (f_C_takes (45 : Int32) F4 A4) (fun r6 F6 A6 => if r6 = 0 then (some (x2, F6, A6)) else (ra_bi (f_C_product inner x1 F6 A6) (fun r8 F8 A8 => ra_bi (f_C_pairwise (3 : Int32) x2 r8 F8 A8) (fun r9 F9 A9 => f_C_sum_L8 inner n x1 r9 (x3 + (1 : Int32)) F9 A9))))) else (ra_bi (f_C_product inner x1 F4 A4) (fun r10 F10 A10 => ra_bi (f_C_pairwise (2 : Int32) x2 r10 F10 A10) (fun r11 F11 A11 => f_C_sum_L8 inner n x1 r11 (x3 + (1 : Int32)) F11 A11))))))
def f_C_sum (inner : Int32 → ST_F → ST_A → Option (Int32 × ST_F × ST_A)) (u1 : Int32) (Fa : ST_F) (Aa : ST_A) : Option (Int32 × ST_F × ST_A) := ra_bi (f_C_product inner u1 Fa Aa) (fun r1 F1 A1 => f_C_sum_L8 inner 400 u1 r1 (0 : Int32) F1 A1)
set_option maxHeartbeats 4000000 in
set_option maxRecDepth 100000 in
theorem k_C_sum (l : Launch) (dC : Nat → ClassId) (dI : Nat → Nat → Nat) (a : Nat → Nat) (cI cC : ClassId) (fI lI : Nat) (inner : Int32 → ST_F → ST_A → Option (Int32 × ST_F × ST_A)) (hin : ∀ (sz : Nat) (Fa : ST_F) (Aa : ST_A) (u1 r0 : Int32) (F9 : ST_F) (A9 : ST_A), inner u1 Fa Aa = some (r0, F9, A9) → cc_MetI l y_C_sum (Cond.code y_C_sum b_C_sum 4 (some .int) :: wA) ({ frames := fI, cells := 0, slots := 0, locals := lI } : Room) (dC, dI) vC [(cI, .int), (cC, .char)] ([.ref (a 0), .int u1] : List Value) (wC a cI cC Fa Aa) sz (wC a cI cC F9 A9) r0) (sz : Nat) (Fa : ST_F) (Aa : ST_A) (u1 : Int32) (r0 : Int32) (F9 : ST_F) (A9 : ST_A) (hf : f_C_sum inner u1 Fa Aa = some (r0, F9, A9)) : cc_MetI l y_C_sum (Cond.code y_C_sum b_C_sum 4 (some .int) :: wA) ({ frames := (fI + 16), cells := 0, slots := 0, locals := (lI + 700) } : Room) (dC, dI) vC [(cI, .int), (cC, .char)] ([.ref (a 0), .int u1] : List Value) (wC a cI cC Fa Aa) sz (wC a cI cC F9 A9) r0 := by
  refine Met.ofW (cc := b_C_sum) (maxL := 4) (ret := (some .int)) (by decide) rfl ?_
  intro p e s m args below meth c s₁ B hml hv
  obtain ⟨rfl, hsz, hP, hK, hD0⟩ := hv
  have hx := B.exec
  have hb := B.bytes
  have hr := B.returns
  have hts := fun w h => atoms_spec (ws := (Cond.code y_C_sum b_C_sum 4 (some .int) :: wA)) B.pre w (List.mem_cons_of_mem _ h)
  have hown : s.vm.findClass R_C = some m.cls := findClass_of_methodNamed B.named
  have hlocks := B.notSynchronized
  subst hsz
  have hD := hD0.self (sz := s.heap.size)
  have hA : ∀ q : Nat, s.heap.size ≤ q → va_A (wC a cI cC Fa Aa) s.heap.size q := fun q h => Or.inr h
  have hS : va_S (va_A (wC a cI cC Fa Aa) s.heap.size) s.heap s.heap [] := va_S.rf
  have hl := lv_entry (([.ref (a 0), .int u1] : List Value)) (n := 4) (Nat.le_of_ble_eq_true rfl)
  have L8 : ∀ (n : Nat) (x1 : Int32) (x2 : Int32) (x3 : Int32) (F : ST_F) (A : ST_A) (H : Heap) (locs : List Loc) (ls : Array Slot), lv_has ls 4 [(0, .ref (a 0)), (1, .int x1), (2, .int x2), (3, .int x3)] → va_P (dC, dI) vC (wC a cI cC F A) H → va_D (va_A (wC a cI cC Fa Aa) s.heap.size) (wC a cI cC F A) → va_S (va_A (wC a cI cC Fa Aa) s.heap.size) s.heap H locs → f_C_sum_L8 inner n x1 x2 x3 F A = some (r0, F9, A9) → W p l e (headSpec (Cond.code y_C_sum b_C_sum 4 (some .int) :: wA) ({ frames := (fI + 16), cells := 0, slots := 0, locals := (lI + 700) } : Room)).room s m ([.ref (a 0), .int u1] : List Value).toArray below meth c H locs 0 0 (MQ below (cc_Qi (dC, dI) vC [(cI, .int), (cC, .char)] (wC a cI cC Fa Aa) s.heap.size (wC a cI cC F9 A9) r0) ([.ref (a 0), .int u1] : List Value).toArray s 0 0 (va_A (wC a cI cC Fa Aa) s.heap.size)) (F0 m 8 ls []) := by
    intro n
    induction n with
    | zero => intro x1 x2 x3 F A H locs ls hl hP hD hS hf; cases hf
    | succ n ih =>
      intro x1 x2 x3 F A H locs ls hl hP hD hS hf
      rw [f_C_sum_L8] at hf
      refine lv_iload_n hx hb d_C_sum_8 rfl (lv_at hl 3 rfl) ?_
      refine lv_sipush (v := 160) hx hb d_C_sum_9 (by decide) ?_
      refine lv_icmp_ge (tgt := 76) hx hb d_C_sum_12 (by decide) (fun h12_2 => ?_) (fun h12_2 => ?_)
      · rw [if_pos h12_2] at hf
        refine lv_iconst (v := -1) hx hb d_C_sum_76 (by decide) ?_
        cases hf
        exact W.iret hx hb hr (fun t ht hW => ⟨⟨_, (), rfl, rfl, by rw [ht]; exact hP, va_K.moved hW.alike hK, hD⟩, hS.F ht⟩) hS.2.2 d_C_sum_77
      · rw [if_neg h12_2] at hf
        refine lv_iload_n hx hb d_C_sum_15 rfl (lv_at hl 2 rfl) ?_
        refine lv_iconst (v := -1) hx hb d_C_sum_16 (by decide) ?_
        refine lv_icmp_eq (tgt := 76) hx hb d_C_sum_17 (by decide) (fun h17_3 => ?_) (fun h17_3 => ?_)
        · rw [if_pos h17_3] at hf
          refine lv_iconst (v := -1) hx hb d_C_sum_76 (by decide) ?_
          cases hf
          exact W.iret hx hb hr (fun t ht hW => ⟨⟨_, (), rfl, rfl, by rw [ht]; exact hP, va_K.moved hW.alike hK, hD⟩, hS.F ht⟩) hS.2.2 d_C_sum_77
        · rw [if_neg h17_3] at hf
          refine lv_aload_n hx hb d_C_sum_20 rfl (lv_at hl 0 rfl) ?_
          refine lv_bipush (v := 43) hx hb d_C_sum_21 (by decide) ?_
          have hP : va_P (dC, dI) vC (wC a cI cC F A) H := hP
          have hD : va_D (va_A (wC a cI cC Fa Aa) s.heap.size) (wC a cI cC F A) := hD
          obtain ⟨r4, F4, A4, hc, hf⟩ := ra_bi_some hf
          refine cc_calli (va_runV (As := [.int (43 : Int32)]) (rest := []) ⟨hx, hb, hml, hown, hts⟩ (k_C_takes l dC dI a cI cC H.size F A (43 : Int32) r4 F4 A4 hc) (cw_V 1 hts mw_177 mw_179 ms_C_takes mw_3 mw_180 rfl rfl rfl hd_C_takes ⟨(show 1 + 1 ≤ (fI + 16) by omega), (show 8 + (2 + 11) + 20 ≤ (lI + 700) by omega)⟩) (cc_preV hK hP hD rfl (q0 := 0) rfl) rfl rfl hl.1 rfl (lv_room (Nat.le_of_ble_eq_true rfl)) d_C_sum_23 ⟨Nat.zero_le _, Nat.zero_le _⟩) hD hS hA (fun H locs hP hD hS => ?_)
          refine lv_if_eq (tgt := 44) hx hb d_C_sum_26 (by decide) (fun h26_5 => ?_) (fun h26_5 => ?_)
          · rw [if_pos h26_5] at hf
            refine lv_aload_n hx hb d_C_sum_44 rfl (lv_at hl 0 rfl) ?_
            refine lv_bipush (v := 45) hx hb d_C_sum_45 (by decide) ?_
            have hP : va_P (dC, dI) vC (wC a cI cC F4 A4) H := hP
            have hD : va_D (va_A (wC a cI cC Fa Aa) s.heap.size) (wC a cI cC F4 A4) := hD
            obtain ⟨r6, F6, A6, hc, hf⟩ := ra_bi_some hf
            refine cc_calli (va_runV (As := [.int (45 : Int32)]) (rest := []) ⟨hx, hb, hml, hown, hts⟩ (k_C_takes l dC dI a cI cC H.size F4 A4 (45 : Int32) r6 F6 A6 hc) (cw_V 1 hts mw_177 mw_179 ms_C_takes mw_3 mw_180 rfl rfl rfl hd_C_takes ⟨(show 1 + 1 ≤ (fI + 16) by omega), (show 8 + (2 + 11) + 20 ≤ (lI + 700) by omega)⟩) (cc_preV hK hP hD rfl (q0 := 0) rfl) rfl rfl hl.1 rfl (lv_room (Nat.le_of_ble_eq_true rfl)) d_C_sum_47 ⟨Nat.zero_le _, Nat.zero_le _⟩) hD hS hA (fun H locs hP hD hS => ?_)
            refine lv_if_eq (tgt := 68) hx hb d_C_sum_50 (by decide) (fun h50_7 => ?_) (fun h50_7 => ?_)
            · rw [if_pos h50_7] at hf
              refine lv_iload_n hx hb d_C_sum_68 rfl (lv_at hl 2 rfl) ?_
              cases hf
              exact W.iret hx hb hr (fun t ht hW => ⟨⟨_, (), rfl, rfl, by rw [ht]; exact hP, va_K.moved hW.alike hK, hD⟩, hS.F ht⟩) hS.2.2 d_C_sum_69
            · rw [if_neg h50_7] at hf
              refine lv_aload_n hx hb d_C_sum_53 rfl (lv_at hl 0 rfl) ?_
              refine lv_iconst (v := 3) hx hb d_C_sum_54 (by decide) ?_
              refine lv_iload_n hx hb d_C_sum_55 rfl (lv_at hl 2 rfl) ?_
              refine lv_aload_n hx hb d_C_sum_56 rfl (lv_at hl 0 rfl) ?_
              refine lv_iload_n hx hb d_C_sum_57 rfl (lv_at hl 1 rfl) ?_
              have hP : va_P (dC, dI) vC (wC a cI cC F6 A6) H := hP
              have hD : va_D (va_A (wC a cI cC Fa Aa) s.heap.size) (wC a cI cC F6 A6) := hD
              obtain ⟨r8, F8, A8, hc, hf⟩ := ra_bi_some hf
              refine cc_calli (va_runV (As := [.int x1]) (rest := [.int x2, .int (3 : Int32), .ref (a 0)]) ⟨hx, hb, hml, hown, hts⟩ (k_C_product l dC dI a cI cC fI lI inner hin H.size F6 A6 x1 r8 F8 A8 hc) (cw_V 1 hts mw_169 mw_171 ms_C_product mw_3 mw_172 rfl rfl rfl hd_C_product ⟨(show (fI + 14) + 1 ≤ (fI + 16) by omega), (show 8 + (4 + 11) + (lI + 600) ≤ (lI + 700) by omega)⟩) (cc_preV hK hP hD rfl (q0 := 0) rfl) rfl rfl hl.1 rfl (lv_room (Nat.le_of_ble_eq_true rfl)) d_C_sum_58 ⟨Nat.zero_le _, Nat.zero_le _⟩) hD hS hA (fun H locs hP hD hS => ?_)
              have hP : va_P (dC, dI) vC (wC a cI cC F8 A8) H := hP
              have hD : va_D (va_A (wC a cI cC Fa Aa) s.heap.size) (wC a cI cC F8 A8) := hD
              obtain ⟨r9, F9, A9, hc, hf⟩ := ra_bi_some hf
              refine cc_calli (va_runV (As := [.int (3 : Int32), .int x2, .int r8]) (rest := []) ⟨hx, hb, hml, hown, hts⟩ (k_C_pairwise l dC dI a cI cC H.size F8 A8 (3 : Int32) x2 r8 r9 F9 A9 hc) (cw_V 3 hts mw_244 mw_246 ms_C_pairwise mw_3 mw_247 rfl rfl rfl hd_C_pairwise ⟨(show 2 + 1 ≤ (fI + 16) by omega), (show 8 + (10 + 11) + 42 ≤ (lI + 700) by omega)⟩) (cc_preV hK hP hD rfl (q0 := 0) rfl) rfl rfl hl.1 rfl (lv_room (Nat.le_of_ble_eq_true rfl)) d_C_sum_61 ⟨Nat.zero_le _, Nat.zero_le _⟩) hD hS hA (fun H locs hP hD hS => ?_)
              refine lv_istore_n hx hb d_C_sum_64 rfl hl (by decide) rfl (fun ls hl => ?_)
              have hl : lv_has ls 4 [(2, .int r9), (0, .ref (a 0)), (1, .int x1), (3, .int x3)] := hl
              refine lv_goto (tgt := 70) hx hb d_C_sum_65 (by decide) ?_
              refine lv_iinc (k := 3) (v := (x3 + (1 : Int32))) hx hb d_C_sum_70 hl rfl (by rfl) (by decide) rfl (fun ls hl => ?_)
              have hl : lv_has ls 4 [(3, .int (x3 + (1 : Int32))), (2, .int r9), (0, .ref (a 0)), (1, .int x1)] := hl
              refine lv_goto (tgt := 8) hx hb d_C_sum_73 (by decide) ?_
              have hl : lv_has ls 4 [(0, .ref (a 0)), (1, .int x1), (2, .int r9), (3, .int (x3 + (1 : Int32)))] := lv_sub hl [2, 3, 1, 0] rfl
              exact ih x1 r9 (x3 + (1 : Int32)) F9 A9 _ _ _ hl hP hD hS hf
          · rw [if_neg h26_5] at hf
            refine lv_aload_n hx hb d_C_sum_29 rfl (lv_at hl 0 rfl) ?_
            refine lv_iconst (v := 2) hx hb d_C_sum_30 (by decide) ?_
            refine lv_iload_n hx hb d_C_sum_31 rfl (lv_at hl 2 rfl) ?_
            refine lv_aload_n hx hb d_C_sum_32 rfl (lv_at hl 0 rfl) ?_
            refine lv_iload_n hx hb d_C_sum_33 rfl (lv_at hl 1 rfl) ?_
            have hP : va_P (dC, dI) vC (wC a cI cC F4 A4) H := hP
            have hD : va_D (va_A (wC a cI cC Fa Aa) s.heap.size) (wC a cI cC F4 A4) := hD
            obtain ⟨r10, F10, A10, hc, hf⟩ := ra_bi_some hf
            refine cc_calli (va_runV (As := [.int x1]) (rest := [.int x2, .int (2 : Int32), .ref (a 0)]) ⟨hx, hb, hml, hown, hts⟩ (k_C_product l dC dI a cI cC fI lI inner hin H.size F4 A4 x1 r10 F10 A10 hc) (cw_V 1 hts mw_169 mw_171 ms_C_product mw_3 mw_172 rfl rfl rfl hd_C_product ⟨(show (fI + 14) + 1 ≤ (fI + 16) by omega), (show 8 + (4 + 11) + (lI + 600) ≤ (lI + 700) by omega)⟩) (cc_preV hK hP hD rfl (q0 := 0) rfl) rfl rfl hl.1 rfl (lv_room (Nat.le_of_ble_eq_true rfl)) d_C_sum_34 ⟨Nat.zero_le _, Nat.zero_le _⟩) hD hS hA (fun H locs hP hD hS => ?_)
            have hP : va_P (dC, dI) vC (wC a cI cC F10 A10) H := hP
            have hD : va_D (va_A (wC a cI cC Fa Aa) s.heap.size) (wC a cI cC F10 A10) := hD
            obtain ⟨r11, F11, A11, hc, hf⟩ := ra_bi_some hf
            refine cc_calli (va_runV (As := [.int (2 : Int32), .int x2, .int r10]) (rest := []) ⟨hx, hb, hml, hown, hts⟩ (k_C_pairwise l dC dI a cI cC H.size F10 A10 (2 : Int32) x2 r10 r11 F11 A11 hc) (cw_V 3 hts mw_244 mw_246 ms_C_pairwise mw_3 mw_247 rfl rfl rfl hd_C_pairwise ⟨(show 2 + 1 ≤ (fI + 16) by omega), (show 8 + (10 + 11) + 42 ≤ (lI + 700) by omega)⟩) (cc_preV hK hP hD rfl (q0 := 0) rfl) rfl rfl hl.1 rfl (lv_room (Nat.le_of_ble_eq_true rfl)) d_C_sum_37 ⟨Nat.zero_le _, Nat.zero_le _⟩) hD hS hA (fun H locs hP hD hS => ?_)
            refine lv_istore_n hx hb d_C_sum_40 rfl hl (by decide) rfl (fun ls hl => ?_)
            have hl : lv_has ls 4 [(2, .int r11), (0, .ref (a 0)), (1, .int x1), (3, .int x3)] := hl
            refine lv_goto (tgt := 70) hx hb d_C_sum_41 (by decide) ?_
            refine lv_iinc (k := 3) (v := (x3 + (1 : Int32))) hx hb d_C_sum_70 hl rfl (by rfl) (by decide) rfl (fun ls hl => ?_)
            have hl : lv_has ls 4 [(3, .int (x3 + (1 : Int32))), (2, .int r11), (0, .ref (a 0)), (1, .int x1)] := hl
            refine lv_goto (tgt := 8) hx hb d_C_sum_73 (by decide) ?_
            have hl : lv_has ls 4 [(0, .ref (a 0)), (1, .int x1), (2, .int r11), (3, .int (x3 + (1 : Int32)))] := lv_sub hl [2, 3, 1, 0] rfl
            exact ih x1 r11 (x3 + (1 : Int32)) F11 A11 _ _ _ hl hP hD hS hf
  rw [lg_entry_eq]
  generalize (lg_sl (([.ref (a 0), .int u1] : List Value)) ++ List.replicate (4 - (lg_sl (([.ref (a 0), .int u1] : List Value))).length) Slot.unset).toArray = ls at hl ⊢
  have hl : lv_has ls 4 [(0, .ref (a 0)), (1, .int u1)] := hl
  unfold f_C_sum at hf
  refine lv_aload_n hx hb d_C_sum_0 rfl (lv_at hl 0 rfl) ?_
  refine lv_iload_n hx hb d_C_sum_1 rfl (lv_at hl 1 rfl) ?_
  have hP : va_P (dC, dI) vC (wC a cI cC Fa Aa) s.heap := hP
  have hD : va_D (va_A (wC a cI cC Fa Aa) s.heap.size) (wC a cI cC Fa Aa) := hD
  obtain ⟨r1, F1, A1, hc, hf⟩ := ra_bi_some hf
  refine cc_calli (va_runV (As := [.int u1]) (rest := []) ⟨hx, hb, hml, hown, hts⟩ (k_C_product l dC dI a cI cC fI lI inner hin s.heap.size Fa Aa u1 r1 F1 A1 hc) (cw_V 1 hts mw_169 mw_171 ms_C_product mw_3 mw_172 rfl rfl rfl hd_C_product ⟨(show (fI + 14) + 1 ≤ (fI + 16) by omega), (show 8 + (4 + 11) + (lI + 600) ≤ (lI + 700) by omega)⟩) (cc_preV hK hP hD rfl (q0 := 0) rfl) rfl rfl hl.1 rfl (lv_room (Nat.le_of_ble_eq_true rfl)) d_C_sum_2 ⟨Nat.zero_le _, Nat.zero_le _⟩) hD hS hA (fun H locs hP hD hS => ?_)
  refine lv_istore_n hx hb d_C_sum_5 rfl hl (by decide) rfl (fun ls hl => ?_)
  have hl : lv_has ls 4 [(2, .int r1), (0, .ref (a 0)), (1, .int u1)] := hl
  refine lv_iconst (v := 0) hx hb d_C_sum_6 (by decide) ?_
  refine lv_istore_n hx hb d_C_sum_7 rfl hl (by decide) rfl (fun ls hl => ?_)
  have hl : lv_has ls 4 [(3, .int (0 : Int32)), (2, .int r1), (0, .ref (a 0)), (1, .int u1)] := hl
  have hl : lv_has ls 4 [(0, .ref (a 0)), (1, .int u1), (2, .int r1), (3, .int (0 : Int32))] := lv_sub hl [2, 3, 1, 0] rfl
  exact L8 400 u1 r1 (0 : Int32) F1 A1 _ _ _ hl hP hD hS hf
/-- d more brackets may be opened -/
def f_C_sumD : Nat → Int32 → ST_F → ST_A → Option (Int32 × ST_F × ST_A)
  | 0 => f_C_sum (fun _ _ _ => none)
  | d + 1 => f_C_sum (f_C_sumD d)
theorem k_C_sumD (l : Launch) (dC : Nat → ClassId) (dI : Nat → Nat → Nat) (a : Nat → Nat) (cI cC : ClassId) : ∀ (d : Nat) (sz : Nat) (Fa : ST_F) (Aa : ST_A) (u1 r0 : Int32) (F9 : ST_F) (A9 : ST_A), f_C_sumD d u1 Fa Aa = some (r0, F9, A9) →
    cc_MetI l y_C_sum (Cond.code y_C_sum b_C_sum 4 (some .int) :: wA) ({ frames := 16 * (d + 1), cells := 0, slots := 0, locals := 700 * (d + 1) } : Room) (dC, dI) vC [(cI, .int), (cC, .char)] ([.ref (a 0), .int u1] : List Value) (wC a cI cC Fa Aa) sz (wC a cI cC F9 A9) r0 := by
  intro d
  induction d with
  | zero => intro sz Fa Aa u1 r0 F9 A9 hf; exact k_C_sum l dC dI a cI cC (16 * 0) (700 * 0) (fun _ _ _ => none) (fun _ _ _ _ _ _ _ h => by cases h) sz Fa Aa u1 r0 F9 A9 hf
  | succ d ih => intro sz Fa Aa u1 r0 F9 A9 hf; exact k_C_sum l dC dI a cI cC (16 * (d + 1)) (700 * (d + 1)) (f_C_sumD d) ih sz Fa Aa u1 r0 F9 A9 hf
