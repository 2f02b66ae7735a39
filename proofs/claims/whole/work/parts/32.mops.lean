def f_M_pairwise_L60 : Nat → Int32 → Int32 → Int32 → Int32 → Int32 → Int32 → Int32 → ST_F → ST_A → Option (ST_F × ST_A)
  | 0, _, _, _, _, _, _, _, _, _ => none
  | n + 1, x1, x2, x3, x4, x5, x6, x7, F, A => if x6 ≤ x7 then (ra_bv (f_M_pushMade x6 (upd F 6 x2) A) (fun F4 A4 => some (F4, A4))) else (if x4 = (1 : Int32) then (ra_bi (f_M_number x2 (0 : Int32) F A) (fun r12 F12 A12 => if x5 = (1 : Int32) then (ra_bi (f_M_number x3 (0 : Int32) F12 A12) (fun r16 F16 A16 => ra_bi (f_M_put x1 r12 r16 F16 A16) (fun r17 F17 A17 => ra_g x7 4 (f_M_pairwise_L60 n x1 x2 x3 x4 x5 x6 (x7 + (1 : Int32)) F17 (va_up A17 15 (upd (A17 15) x7.toNatClampNeg r17)))))) else (ra_bi (f_M_number x3 x7 F12 A12) (fun r14 F14 A14 => ra_bi (f_M_put x1 r12 r14 F14 A14) (fun r15 F15 A15 => ra_g x7 4 (f_M_pairwise_L60 n x1 x2 x3 x4 x5 x6 (x7 + (1 : Int32)) F15 (va_up A15 15 (upd (A15 15) x7.toNatClampNeg r15)))))))) else (ra_bi (f_M_number x2 x7 F A) (fun r6 F6 A6 => if x5 = (1 : Int32) then (ra_bi (f_M_number x3 (0 : Int32) F6 A6) (fun r10 F10 A10 => ra_bi (f_M_put x1 r6 r10 F10 A10) (fun r11 F11 A11 => ra_g x7 4 (f_M_pairwise_L60 n x1 x2 x3 x4 x5 x6 (x7 + (1 : Int32)) F11 (va_up A11 15 (upd (A11 15) x7.toNatClampNeg r11)))))) else (ra_bi (f_M_number x3 x7 F6 A6) (fun r8 F8 A8 => ra_bi (f_M_put x1 r6 r8 F8 A8) (fun r9 F9 A9 => ra_g x7 4 (f_M_pairwise_L60 n x1 x2 x3 x4 x5 x6 (x7 + (1 : Int32)) F9 (va_up A9 15 (upd (A9 15) x7.toNatClampNeg r9)))))))))
def f_M_pairwise_J41 (x1 : Int32) (x2 : Int32) (x3 : Int32) (x4 : Int32) (x5 : Int32) (F : ST_F) (A : ST_A) : Option (ST_F × ST_A) := if x4 ≤ x5 then (f_M_pairwise_L60 400 x1 x2 x3 x4 x5 x5 (0 : Int32) F A) else (f_M_pairwise_L60 400 x1 x2 x3 x4 x5 x4 (0 : Int32) F A)
def f_M_pairwise (u1 : Int32) (u2 : Int32) (u3 : Int32) (Fa : ST_F) (Aa : ST_A) : Option (ST_F × ST_A) := ra_g u2 80 (ra_g u3 80 (if ((Aa 11) u2.toNatClampNeg) = ((Aa 11) u3.toNatClampNeg) then (f_M_pairwise_J41 u1 u2 u3 ((Aa 11) u2.toNatClampNeg) ((Aa 11) u3.toNatClampNeg) Fa Aa) else (if ((Aa 11) u2.toNatClampNeg) = (1 : Int32) then (f_M_pairwise_J41 u1 u2 u3 ((Aa 11) u2.toNatClampNeg) ((Aa 11) u3.toNatClampNeg) Fa Aa) else (if ((Aa 11) u3.toNatClampNeg) = (1 : Int32) then (f_M_pairwise_J41 u1 u2 u3 ((Aa 11) u2.toNatClampNeg) ((Aa 11) u3.toNatClampNeg) Fa Aa) else (some ((upd Fa 5 (1 : Int32)), Aa))))))
set_option maxHeartbeats 4000000 in
set_option maxRecDepth 100000 in
theorem k_M_pairwise (l : Launch) (dC : Nat → ClassId) (dI : Nat → Nat → Nat) (o : Nat → Nat) (cI : ClassId) (sz : Nat) (Fa : ST_F) (Aa : ST_A) (u1 : Int32) (u2 : Int32) (u3 : Int32) (F9 : ST_F) (A9 : ST_A) (hf : f_M_pairwise u1 u2 u3 Fa Aa = some (F9, A9)) : cc_MetV l y_M_pairwise (Cond.code y_M_pairwise b_M_pairwise 8 none :: wA) ({ frames := 2, cells := 0, slots := 0, locals := 43 } : Room) (dC, dI) vC [(cI, .int)] ([.ref (o 0), .int u1, .int u2, .int u3] : List Value) (wM o cI Fa Aa) sz (wM o cI F9 A9) := by
  refine Met.ofW (cc := b_M_pairwise) (maxL := 8) (ret := none) (by decide) rfl ?_
  intro p e s m args below meth c s₁ B hml hv
  obtain ⟨rfl, hsz, hP, hK, hD0⟩ := hv
  have hx := B.exec
  have hb := B.bytes
  have hr := B.returns
  have hts := fun w h => atoms_spec (ws := (Cond.code y_M_pairwise b_M_pairwise 8 none :: wA)) B.pre w (List.mem_cons_of_mem _ h)
  have hown : s.vm.findClass R_M = some m.cls := findClass_of_methodNamed B.named
  have hlocks := B.notSynchronized
  subst hsz
  have hD := hD0.self (sz := s.heap.size)
  have hA : ∀ q : Nat, s.heap.size ≤ q → va_A (wM o cI Fa Aa) s.heap.size q := fun q h => Or.inr h
  have hS : va_S (va_A (wM o cI Fa Aa) s.heap.size) s.heap s.heap [] := va_S.rf
  have hl := lv_entry (([.ref (o 0), .int u1, .int u2, .int u3] : List Value)) (n := 8) (Nat.le_of_ble_eq_true rfl)
  have L60 : ∀ (n : Nat) (x1 : Int32) (x2 : Int32) (x3 : Int32) (x4 : Int32) (x5 : Int32) (x6 : Int32) (x7 : Int32) (F : ST_F) (A : ST_A) (H : Heap) (locs : List Loc) (ls : Array Slot), lv_has ls 8 [(0, .ref (o 0)), (1, .int x1), (2, .int x2), (3, .int x3), (4, .int x4), (5, .int x5), (6, .int x6), (7, .int x7)] → va_P (dC, dI) vC (wM o cI F A) H → va_D (va_A (wM o cI Fa Aa) s.heap.size) (wM o cI F A) → va_S (va_A (wM o cI Fa Aa) s.heap.size) s.heap H locs → f_M_pairwise_L60 n x1 x2 x3 x4 x5 x6 x7 F A = some (F9, A9) → W p l e (headSpec (Cond.code y_M_pairwise b_M_pairwise 8 none :: wA) ({ frames := 2, cells := 0, slots := 0, locals := 43 } : Room)).room s m ([.ref (o 0), .int u1, .int u2, .int u3] : List Value).toArray below meth c H locs 0 0 (MQ below (cc_Qv (dC, dI) vC [(cI, .int)] (wM o cI Fa Aa) s.heap.size (wM o cI F9 A9)) ([.ref (o 0), .int u1, .int u2, .int u3] : List Value).toArray s 0 0 (va_A (wM o cI Fa Aa) s.heap.size)) (F0 m 60 ls []) := by
    intro n
    induction n with
    | zero => intro x1 x2 x3 x4 x5 x6 x7 F A H locs ls hl hP hD hS hf; cases hf
    | succ n ih =>
      intro x1 x2 x3 x4 x5 x6 x7 F A H locs ls hl hP hD hS hf
      rw [f_M_pairwise_L60] at hf
      refine lv_iload hx hb d_M_pairwise_60 (lv_at hl 7 rfl) ?_
      refine lv_iload hx hb d_M_pairwise_62 (lv_at hl 6 rfl) ?_
      refine lv_icmp_ge (tgt := 119) hx hb d_M_pairwise_64 (by decide) (fun h64_3 => ?_) (fun h64_3 => ?_)
      · rw [if_pos h64_3] at hf
        refine lv_aload_n hx hb d_M_pairwise_119 rfl (lv_at hl 0 rfl) ?_
        refine lv_iload_n hx hb d_M_pairwise_120 rfl (lv_at hl 2 rfl) ?_
        refine va_put (D := (dC, dI)) (ci := 4) (v := .int x2) (ty := .int) (C := R_M) (T := T_M) (N := 29) hx hb hts in_M ty_M ty_M_ok nm_M hown hK hP hD hS 0 rfl rfl 17 (by decide) (hts _ mw_520) (fun _ h9 => h9) rfl (by decide +kernel) rfl rfl (Nat.le_of_ble_eq_true rfl) d_M_pairwise_121 (fun H locs hP hD hS => ?_)
        have hP : va_P (dC, dI) vC [((o 0), .inr (4, [.int (F 0), .int (F 1), .ref (o 1), .int (F 2), .ref (o 2), .ref (o 3), .ref (o 4), .ref (o 5), .ref (o 6), .int (F 3), .ref (o 7), .ref (o 8), .ref (o 9), .ref (o 10), .ref (o 11), .int (F 4), .int (F 5), .int x2, .ref (o 12), .ref (o 13), .int (F 7), .ref (o 14), .ref (o 15), .int (F 8), .int (F 9), .ref (o 16), .ref (o 17), .ref (o 18), .ref (o 19)])), ((o 1), .inl (cI, 160, .inl (A 0))), ((o 2), .inl (cI, 100, .inl (A 1))), ((o 3), .inl (cI, 100, .inl (A 2))), ((o 4), .inl (cI, 100, .inl (A 3))), ((o 5), .inl (cI, 3, .inl (A 4))), ((o 6), .inl (cI, 26, .inl (A 5))), ((o 7), .inl (cI, 100, .inl (A 6))), ((o 8), .inl (cI, 100, .inl (A 7))), ((o 9), .inl (cI, 100, .inl (A 8))), ((o 10), .inl (cI, 26, .inl (A 9))), ((o 11), .inl (cI, 104, .inl (A 10))), ((o 12), .inl (cI, 80, .inl (A 11))), ((o 13), .inl (cI, 320, .inl (A 12))), ((o 14), .inl (cI, 200, .inl (A 13))), ((o 15), .inl (cI, 200, .inl (A 14))), ((o 16), .inl (cI, 4, .inl (A 15))), ((o 17), .inl (cI, 32, .inl (A 16))), ((o 18), .inl (cI, 32, .inl (A 17))), ((o 19), .inl (cI, 100, .inl (A 18)))] H := hP
        have hD : va_D (va_A (wM o cI Fa Aa) s.heap.size) [((o 0), .inr (4, [.int (F 0), .int (F 1), .ref (o 1), .int (F 2), .ref (o 2), .ref (o 3), .ref (o 4), .ref (o 5), .ref (o 6), .int (F 3), .ref (o 7), .ref (o 8), .ref (o 9), .ref (o 10), .ref (o 11), .int (F 4), .int (F 5), .int x2, .ref (o 12), .ref (o 13), .int (F 7), .ref (o 14), .ref (o 15), .int (F 8), .int (F 9), .ref (o 16), .ref (o 17), .ref (o 18), .ref (o 19)])), ((o 1), .inl (cI, 160, .inl (A 0))), ((o 2), .inl (cI, 100, .inl (A 1))), ((o 3), .inl (cI, 100, .inl (A 2))), ((o 4), .inl (cI, 100, .inl (A 3))), ((o 5), .inl (cI, 3, .inl (A 4))), ((o 6), .inl (cI, 26, .inl (A 5))), ((o 7), .inl (cI, 100, .inl (A 6))), ((o 8), .inl (cI, 100, .inl (A 7))), ((o 9), .inl (cI, 100, .inl (A 8))), ((o 10), .inl (cI, 26, .inl (A 9))), ((o 11), .inl (cI, 104, .inl (A 10))), ((o 12), .inl (cI, 80, .inl (A 11))), ((o 13), .inl (cI, 320, .inl (A 12))), ((o 14), .inl (cI, 200, .inl (A 13))), ((o 15), .inl (cI, 200, .inl (A 14))), ((o 16), .inl (cI, 4, .inl (A 15))), ((o 17), .inl (cI, 32, .inl (A 16))), ((o 18), .inl (cI, 32, .inl (A 17))), ((o 19), .inl (cI, 100, .inl (A 18)))] := hD
        refine lv_aload_n hx hb d_M_pairwise_124 rfl (lv_at hl 0 rfl) ?_
        refine lv_iload hx hb d_M_pairwise_125 (lv_at hl 6 rfl) ?_
        have hP : va_P (dC, dI) vC (wM o cI (upd F 6 x2) A) H := hP
        have hD : va_D (va_A (wM o cI Fa Aa) s.heap.size) (wM o cI (upd F 6 x2) A) := hD
        obtain ⟨F4, A4, hc, hf⟩ := ra_bv_some hf
        refine cc_callv (va_runV (As := [.int x6]) (rest := []) ⟨hx, hb, hml, hown, hts⟩ (k_M_pushMade l dC dI o cI H.size (upd F 6 x2) A x6 F4 A4 hc) (cw_V 1 hts mw_656 mw_658 ms_M_pushMade mw_5 mw_659 rfl rfl rfl hd_M_pushMade ⟨Nat.le_of_ble_eq_true rfl, Nat.le_of_ble_eq_true rfl⟩) (cc_preV hK hP hD rfl (q0 := 0) rfl) rfl rfl hl.1 rfl (lv_room (Nat.le_of_ble_eq_true rfl)) d_M_pairwise_127 ⟨Nat.zero_le _, Nat.zero_le _⟩) hD hS hA (fun H locs hP hD hS => ?_)
        cases hf
        exact W.vret hx hb hr (fun t ht hW => ⟨⟨(), rfl, trivial, by rw [ht]; exact hP, va_K.moved hW.alike hK, hD⟩, hS.F ht⟩) hS.2.2 d_M_pairwise_130
      · rw [if_neg h64_3] at hf
        refine lv_aload_n hx hb d_M_pairwise_67 rfl (lv_at hl 0 rfl) ?_
        refine va_get (D := (dC, dI)) (ci := 4) (v := .ref (o 16)) (C := R_M) (T := T_M) (N := 29) hx hb hts in_M hown hK hP 0 rfl rfl 25 (by decide) (hts _ mw_528) (fun _ h9 => h9) rfl d_M_pairwise_68 ?_
        refine lv_iload hx hb d_M_pairwise_71 (lv_at hl 7 rfl) ?_
        refine lv_aload_n hx hb d_M_pairwise_73 rfl (lv_at hl 0 rfl) ?_
        refine lv_iload_n hx hb d_M_pairwise_74 rfl (lv_at hl 1 rfl) ?_
        refine lv_aload_n hx hb d_M_pairwise_75 rfl (lv_at hl 0 rfl) ?_
        refine lv_iload_n hx hb d_M_pairwise_76 rfl (lv_at hl 2 rfl) ?_
        refine lv_iload hx hb d_M_pairwise_77 (lv_at hl 4 rfl) ?_
        refine lv_iconst (v := 1) hx hb d_M_pairwise_79 (by decide) ?_
        refine lv_icmp_ne (tgt := 87) hx hb d_M_pairwise_80 (by decide) (fun h80_5 => ?_) (fun h80_5 => ?_)
        · rw [if_neg h80_5] at hf
          refine lv_iload hx hb d_M_pairwise_87 (lv_at hl 7 rfl) ?_
          have hP : va_P (dC, dI) vC (wM o cI F A) H := hP
          have hD : va_D (va_A (wM o cI Fa Aa) s.heap.size) (wM o cI F A) := hD
          obtain ⟨r6, F6, A6, hc, hf⟩ := ra_bi_some hf
          refine cc_calli (va_runV (As := [.int x2, .int x7]) (rest := [.int x1, .ref (o 0), .int x7, .ref (o 16)]) ⟨hx, hb, hml, hown, hts⟩ (k_M_number l dC dI o cI H.size F A x2 x7 r6 F6 A6 hc) (cw_V 2 hts mw_648 mw_650 ms_M_number mw_5 mw_651 rfl rfl rfl hd_M_number ⟨Nat.le_of_ble_eq_true rfl, Nat.le_of_ble_eq_true rfl⟩) (cc_preV hK hP hD rfl (q0 := 0) rfl) rfl rfl hl.1 rfl (lv_room (Nat.le_of_ble_eq_true rfl)) d_M_pairwise_89 ⟨Nat.zero_le _, Nat.zero_le _⟩) hD hS hA (fun H locs hP hD hS => ?_)
          refine lv_aload_n hx hb d_M_pairwise_92 rfl (lv_at hl 0 rfl) ?_
          refine lv_iload_n hx hb d_M_pairwise_93 rfl (lv_at hl 3 rfl) ?_
          refine lv_iload hx hb d_M_pairwise_94 (lv_at hl 5 rfl) ?_
          refine lv_iconst (v := 1) hx hb d_M_pairwise_96 (by decide) ?_
          refine lv_icmp_ne (tgt := 104) hx hb d_M_pairwise_97 (by decide) (fun h97_7 => ?_) (fun h97_7 => ?_)
          · rw [if_neg h97_7] at hf
            refine lv_iload hx hb d_M_pairwise_104 (lv_at hl 7 rfl) ?_
            have hP : va_P (dC, dI) vC (wM o cI F6 A6) H := hP
            have hD : va_D (va_A (wM o cI Fa Aa) s.heap.size) (wM o cI F6 A6) := hD
            obtain ⟨r8, F8, A8, hc, hf⟩ := ra_bi_some hf
            refine cc_calli (va_runV (As := [.int x3, .int x7]) (rest := [.int r6, .int x1, .ref (o 0), .int x7, .ref (o 16)]) ⟨hx, hb, hml, hown, hts⟩ (k_M_number l dC dI o cI H.size F6 A6 x3 x7 r8 F8 A8 hc) (cw_V 2 hts mw_648 mw_650 ms_M_number mw_5 mw_651 rfl rfl rfl hd_M_number ⟨Nat.le_of_ble_eq_true rfl, Nat.le_of_ble_eq_true rfl⟩) (cc_preV hK hP hD rfl (q0 := 0) rfl) rfl rfl hl.1 rfl (lv_room (Nat.le_of_ble_eq_true rfl)) d_M_pairwise_106 ⟨Nat.zero_le _, Nat.zero_le _⟩) hD hS hA (fun H locs hP hD hS => ?_)
            have hP : va_P (dC, dI) vC (wM o cI F8 A8) H := hP
            have hD : va_D (va_A (wM o cI Fa Aa) s.heap.size) (wM o cI F8 A8) := hD
            obtain ⟨r9, F9, A9, hc, hf⟩ := ra_bi_some hf
            refine cc_calli (va_runV (As := [.int x1, .int r6, .int r8]) (rest := [.int x7, .ref (o 16)]) ⟨hx, hb, hml, hown, hts⟩ (k_M_put l dC dI o cI H.size F8 A8 x1 r6 r8 r9 F9 A9 hc) (cw_V 3 hts mw_652 mw_654 ms_M_put mw_5 mw_655 rfl rfl rfl hd_M_put ⟨Nat.le_of_ble_eq_true rfl, Nat.le_of_ble_eq_true rfl⟩) (cc_preV hK hP hD rfl (q0 := 0) rfl) rfl rfl hl.1 rfl (lv_room (Nat.le_of_ble_eq_true rfl)) d_M_pairwise_109 ⟨Nat.zero_le _, Nat.zero_le _⟩) hD hS hA (fun H locs hP hD hS => ?_)
            obtain ⟨hi, hf⟩ := ra_g_some hf
            refine va_iast hx hb hK hP hD hS 16 0 rfl rfl hi d_M_pairwise_112 (fun H locs hP hD hS => ?_)
            have hP : va_P (dC, dI) vC [((o 0), .inr (4, [.int (F9 0), .int (F9 1), .ref (o 1), .int (F9 2), .ref (o 2), .ref (o 3), .ref (o 4), .ref (o 5), .ref (o 6), .int (F9 3), .ref (o 7), .ref (o 8), .ref (o 9), .ref (o 10), .ref (o 11), .int (F9 4), .int (F9 5), .int (F9 6), .ref (o 12), .ref (o 13), .int (F9 7), .ref (o 14), .ref (o 15), .int (F9 8), .int (F9 9), .ref (o 16), .ref (o 17), .ref (o 18), .ref (o 19)])), ((o 1), .inl (cI, 160, .inl (A9 0))), ((o 2), .inl (cI, 100, .inl (A9 1))), ((o 3), .inl (cI, 100, .inl (A9 2))), ((o 4), .inl (cI, 100, .inl (A9 3))), ((o 5), .inl (cI, 3, .inl (A9 4))), ((o 6), .inl (cI, 26, .inl (A9 5))), ((o 7), .inl (cI, 100, .inl (A9 6))), ((o 8), .inl (cI, 100, .inl (A9 7))), ((o 9), .inl (cI, 100, .inl (A9 8))), ((o 10), .inl (cI, 26, .inl (A9 9))), ((o 11), .inl (cI, 104, .inl (A9 10))), ((o 12), .inl (cI, 80, .inl (A9 11))), ((o 13), .inl (cI, 320, .inl (A9 12))), ((o 14), .inl (cI, 200, .inl (A9 13))), ((o 15), .inl (cI, 200, .inl (A9 14))), ((o 16), .inl (cI, 4, .inl (upd (A9 15) x7.toNatClampNeg r9))), ((o 17), .inl (cI, 32, .inl (A9 16))), ((o 18), .inl (cI, 32, .inl (A9 17))), ((o 19), .inl (cI, 100, .inl (A9 18)))] H := hP
            have hD : va_D (va_A (wM o cI Fa Aa) s.heap.size) [((o 0), .inr (4, [.int (F9 0), .int (F9 1), .ref (o 1), .int (F9 2), .ref (o 2), .ref (o 3), .ref (o 4), .ref (o 5), .ref (o 6), .int (F9 3), .ref (o 7), .ref (o 8), .ref (o 9), .ref (o 10), .ref (o 11), .int (F9 4), .int (F9 5), .int (F9 6), .ref (o 12), .ref (o 13), .int (F9 7), .ref (o 14), .ref (o 15), .int (F9 8), .int (F9 9), .ref (o 16), .ref (o 17), .ref (o 18), .ref (o 19)])), ((o 1), .inl (cI, 160, .inl (A9 0))), ((o 2), .inl (cI, 100, .inl (A9 1))), ((o 3), .inl (cI, 100, .inl (A9 2))), ((o 4), .inl (cI, 100, .inl (A9 3))), ((o 5), .inl (cI, 3, .inl (A9 4))), ((o 6), .inl (cI, 26, .inl (A9 5))), ((o 7), .inl (cI, 100, .inl (A9 6))), ((o 8), .inl (cI, 100, .inl (A9 7))), ((o 9), .inl (cI, 100, .inl (A9 8))), ((o 10), .inl (cI, 26, .inl (A9 9))), ((o 11), .inl (cI, 104, .inl (A9 10))), ((o 12), .inl (cI, 80, .inl (A9 11))), ((o 13), .inl (cI, 320, .inl (A9 12))), ((o 14), .inl (cI, 200, .inl (A9 13))), ((o 15), .inl (cI, 200, .inl (A9 14))), ((o 16), .inl (cI, 4, .inl (upd (A9 15) x7.toNatClampNeg r9))), ((o 17), .inl (cI, 32, .inl (A9 16))), ((o 18), .inl (cI, 32, .inl (A9 17))), ((o 19), .inl (cI, 100, .inl (A9 18)))] := hD
            refine lv_iinc (k := 7) (v := (x7 + (1 : Int32))) hx hb d_M_pairwise_113 hl rfl (by rfl) (by decide) rfl (fun ls hl => ?_)
            have hl : lv_has ls 8 [(7, .int (x7 + (1 : Int32))), (0, .ref (o 0)), (1, .int x1), (2, .int x2), (3, .int x3), (4, .int x4), (5, .int x5), (6, .int x6)] := hl
            refine lv_goto (tgt := 60) hx hb d_M_pairwise_116 (by decide) ?_
            have hl : lv_has ls 8 [(0, .ref (o 0)), (1, .int x1), (2, .int x2), (3, .int x3), (4, .int x4), (5, .int x5), (6, .int x6), (7, .int (x7 + (1 : Int32)))] := lv_sub hl [1, 2, 3, 4, 5, 6, 7, 0] rfl
            exact ih x1 x2 x3 x4 x5 x6 (x7 + (1 : Int32)) F9 (va_up A9 15 (upd (A9 15) x7.toNatClampNeg r9)) _ _ _ hl hP hD hS hf
          · rw [if_pos h97_7] at hf
            refine lv_iconst (v := 0) hx hb d_M_pairwise_100 (by decide) ?_
            refine lv_goto (tgt := 106) hx hb d_M_pairwise_101 (by decide) ?_
            have hP : va_P (dC, dI) vC (wM o cI F6 A6) H := hP
            have hD : va_D (va_A (wM o cI Fa Aa) s.heap.size) (wM o cI F6 A6) := hD
            obtain ⟨r10, F10, A10, hc, hf⟩ := ra_bi_some hf
            refine cc_calli (va_runV (As := [.int x3, .int (0 : Int32)]) (rest := [.int r6, .int x1, .ref (o 0), .int x7, .ref (o 16)]) ⟨hx, hb, hml, hown, hts⟩ (k_M_number l dC dI o cI H.size F6 A6 x3 (0 : Int32) r10 F10 A10 hc) (cw_V 2 hts mw_648 mw_650 ms_M_number mw_5 mw_651 rfl rfl rfl hd_M_number ⟨Nat.le_of_ble_eq_true rfl, Nat.le_of_ble_eq_true rfl⟩) (cc_preV hK hP hD rfl (q0 := 0) rfl) rfl rfl hl.1 rfl (lv_room (Nat.le_of_ble_eq_true rfl)) d_M_pairwise_106 ⟨Nat.zero_le _, Nat.zero_le _⟩) hD hS hA (fun H locs hP hD hS => ?_)
            have hP : va_P (dC, dI) vC (wM o cI F10 A10) H := hP
            have hD : va_D (va_A (wM o cI Fa Aa) s.heap.size) (wM o cI F10 A10) := hD
            obtain ⟨r11, F11, A11, hc, hf⟩ := ra_bi_some hf
            refine cc_calli (va_runV (As := [.int x1, .int r6, .int r10]) (rest := [.int x7, .ref (o 16)]) ⟨hx, hb, hml, hown, hts⟩ (k_M_put l dC dI o cI H.size F10 A10 x1 r6 r10 r11 F11 A11 hc) (cw_V 3 hts mw_652 mw_654 ms_M_put mw_5 mw_655 rfl rfl rfl hd_M_put ⟨Nat.le_of_ble_eq_true rfl, Nat.le_of_ble_eq_true rfl⟩) (cc_preV hK hP hD rfl (q0 := 0) rfl) rfl rfl hl.1 rfl (lv_room (Nat.le_of_ble_eq_true rfl)) d_M_pairwise_109 ⟨Nat.zero_le _, Nat.zero_le _⟩) hD hS hA (fun H locs hP hD hS => ?_)
            obtain ⟨hi, hf⟩ := ra_g_some hf
            refine va_iast hx hb hK hP hD hS 16 0 rfl rfl hi d_M_pairwise_112 (fun H locs hP hD hS => ?_)
            have hP : va_P (dC, dI) vC [((o 0), .inr (4, [.int (F11 0), .int (F11 1), .ref (o 1), .int (F11 2), .ref (o 2), .ref (o 3), .ref (o 4), .ref (o 5), .ref (o 6), .int (F11 3), .ref (o 7), .ref (o 8), .ref (o 9), .ref (o 10), .ref (o 11), .int (F11 4), .int (F11 5), .int (F11 6), .ref (o 12), .ref (o 13), .int (F11 7), .ref (o 14), .ref (o 15), .int (F11 8), .int (F11 9), .ref (o 16), .ref (o 17), .ref (o 18), .ref (o 19)])), ((o 1), .inl (cI, 160, .inl (A11 0))), ((o 2), .inl (cI, 100, .inl (A11 1))), ((o 3), .inl (cI, 100, .inl (A11 2))), ((o 4), .inl (cI, 100, .inl (A11 3))), ((o 5), .inl (cI, 3, .inl (A11 4))), ((o 6), .inl (cI, 26, .inl (A11 5))), ((o 7), .inl (cI, 100, .inl (A11 6))), ((o 8), .inl (cI, 100, .inl (A11 7))), ((o 9), .inl (cI, 100, .inl (A11 8))), ((o 10), .inl (cI, 26, .inl (A11 9))), ((o 11), .inl (cI, 104, .inl (A11 10))), ((o 12), .inl (cI, 80, .inl (A11 11))), ((o 13), .inl (cI, 320, .inl (A11 12))), ((o 14), .inl (cI, 200, .inl (A11 13))), ((o 15), .inl (cI, 200, .inl (A11 14))), ((o 16), .inl (cI, 4, .inl (upd (A11 15) x7.toNatClampNeg r11))), ((o 17), .inl (cI, 32, .inl (A11 16))), ((o 18), .inl (cI, 32, .inl (A11 17))), ((o 19), .inl (cI, 100, .inl (A11 18)))] H := hP
            have hD : va_D (va_A (wM o cI Fa Aa) s.heap.size) [((o 0), .inr (4, [.int (F11 0), .int (F11 1), .ref (o 1), .int (F11 2), .ref (o 2), .ref (o 3), .ref (o 4), .ref (o 5), .ref (o 6), .int (F11 3), .ref (o 7), .ref (o 8), .ref (o 9), .ref (o 10), .ref (o 11), .int (F11 4), .int (F11 5), .int (F11 6), .ref (o 12), .ref (o 13), .int (F11 7), .ref (o 14), .ref (o 15), .int (F11 8), .int (F11 9), .ref (o 16), .ref (o 17), .ref (o 18), .ref (o 19)])), ((o 1), .inl (cI, 160, .inl (A11 0))), ((o 2), .inl (cI, 100, .inl (A11 1))), ((o 3), .inl (cI, 100, .inl (A11 2))), ((o 4), .inl (cI, 100, .inl (A11 3))), ((o 5), .inl (cI, 3, .inl (A11 4))), ((o 6), .inl (cI, 26, .inl (A11 5))), ((o 7), .inl (cI, 100, .inl (A11 6))), ((o 8), .inl (cI, 100, .inl (A11 7))), ((o 9), .inl (cI, 100, .inl (A11 8))), ((o 10), .inl (cI, 26, .inl (A11 9))), ((o 11), .inl (cI, 104, .inl (A11 10))), ((o 12), .inl (cI, 80, .inl (A11 11))), ((o 13), .inl (cI, 320, .inl (A11 12))), ((o 14), .inl (cI, 200, .inl (A11 13))), ((o 15), .inl (cI, 200, .inl (A11 14))), ((o 16), .inl (cI, 4, .inl (upd (A11 15) x7.toNatClampNeg r11))), ((o 17), .inl (cI, 32, .inl (A11 16))), ((o 18), .inl (cI, 32, .inl (A11 17))), ((o 19), .inl (cI, 100, .inl (A11 18)))] := hD
            refine lv_iinc (k := 7) (v := (x7 + (1 : Int32))) hx hb d_M_pairwise_113 hl rfl (by rfl) (by decide) rfl (fun ls hl => ?_)
            have hl : lv_has ls 8 [(7, .int (x7 + (1 : Int32))), (0, .ref (o 0)), (1, .int x1), (2, .int x2), (3, .int x3), (4, .int x4), (5, .int x5), (6, .int x6)] := hl
            refine lv_goto (tgt := 60) hx hb d_M_pairwise_116 (by decide) ?_
            have hl : lv_has ls 8 [(0, .ref (o 0)), (1, .int x1), (2, .int x2), (3, .int x3), (4, .int x4), (5, .int x5), (6, .int x6), (7, .int (x7 + (1 : Int32)))] := lv_sub hl [1, 2, 3, 4, 5, 6, 7, 0] rfl
            exact ih x1 x2 x3 x4 x5 x6 (x7 + (1 : Int32)) F11 (va_up A11 15 (upd (A11 15) x7.toNatClampNeg r11)) _ _ _ hl hP hD hS hf
        · rw [if_pos h80_5] at hf
          refine lv_iconst (v := 0) hx hb d_M_pairwise_83 (by decide) ?_
          refine lv_goto (tgt := 89) hx hb d_M_pairwise_84 (by decide) ?_
          have hP : va_P (dC, dI) vC (wM o cI F A) H := hP
          have hD : va_D (va_A (wM o cI Fa Aa) s.heap.size) (wM o cI F A) := hD
          obtain ⟨r12, F12, A12, hc, hf⟩ := ra_bi_some hf
          refine cc_calli (va_runV (As := [.int x2, .int (0 : Int32)]) (rest := [.int x1, .ref (o 0), .int x7, .ref (o 16)]) ⟨hx, hb, hml, hown, hts⟩ (k_M_number l dC dI o cI H.size F A x2 (0 : Int32) r12 F12 A12 hc) (cw_V 2 hts mw_648 mw_650 ms_M_number mw_5 mw_651 rfl rfl rfl hd_M_number ⟨Nat.le_of_ble_eq_true rfl, Nat.le_of_ble_eq_true rfl⟩) (cc_preV hK hP hD rfl (q0 := 0) rfl) rfl rfl hl.1 rfl (lv_room (Nat.le_of_ble_eq_true rfl)) d_M_pairwise_89 ⟨Nat.zero_le _, Nat.zero_le _⟩) hD hS hA (fun H locs hP hD hS => ?_)
          refine lv_aload_n hx hb d_M_pairwise_92 rfl (lv_at hl 0 rfl) ?_
          refine lv_iload_n hx hb d_M_pairwise_93 rfl (lv_at hl 3 rfl) ?_
          refine lv_iload hx hb d_M_pairwise_94 (lv_at hl 5 rfl) ?_
          refine lv_iconst (v := 1) hx hb d_M_pairwise_96 (by decide) ?_
          refine lv_icmp_ne (tgt := 104) hx hb d_M_pairwise_97 (by decide) (fun h97_13 => ?_) (fun h97_13 => ?_)
          · rw [if_neg h97_13] at hf
            refine lv_iload hx hb d_M_pairwise_104 (lv_at hl 7 rfl) ?_
            have hP : va_P (dC, dI) vC (wM o cI F12 A12) H := hP
            have hD : va_D (va_A (wM o cI Fa Aa) s.heap.size) (wM o cI F12 A12) := hD
            obtain ⟨r14, F14, A14, hc, hf⟩ := ra_bi_some hf
            refine cc_calli (va_runV (As := [.int x3, .int x7]) (rest := [.int r12, .int x1, .ref (o 0), .int x7, .ref (o 16)]) ⟨hx, hb, hml, hown, hts⟩ (k_M_number l dC dI o cI H.size F12 A12 x3 x7 r14 F14 A14 hc) (cw_V 2 hts mw_648 mw_650 ms_M_number mw_5 mw_651 rfl rfl rfl hd_M_number ⟨Nat.le_of_ble_eq_true rfl, Nat.le_of_ble_eq_true rfl⟩) (cc_preV hK hP hD rfl (q0 := 0) rfl) rfl rfl hl.1 rfl (lv_room (Nat.le_of_ble_eq_true rfl)) d_M_pairwise_106 ⟨Nat.zero_le _, Nat.zero_le _⟩) hD hS hA (fun H locs hP hD hS => ?_)
            have hP : va_P (dC, dI) vC (wM o cI F14 A14) H := hP
            have hD : va_D (va_A (wM o cI Fa Aa) s.heap.size) (wM o cI F14 A14) := hD
            obtain ⟨r15, F15, A15, hc, hf⟩ := ra_bi_some hf
            refine cc_calli (va_runV (As := [.int x1, .int r12, .int r14]) (rest := [.int x7, .ref (o 16)]) ⟨hx, hb, hml, hown, hts⟩ (k_M_put l dC dI o cI H.size F14 A14 x1 r12 r14 r15 F15 A15 hc) (cw_V 3 hts mw_652 mw_654 ms_M_put mw_5 mw_655 rfl rfl rfl hd_M_put ⟨Nat.le_of_ble_eq_true rfl, Nat.le_of_ble_eq_true rfl⟩) (cc_preV hK hP hD rfl (q0 := 0) rfl) rfl rfl hl.1 rfl (lv_room (Nat.le_of_ble_eq_true rfl)) d_M_pairwise_109 ⟨Nat.zero_le _, Nat.zero_le _⟩) hD hS hA (fun H locs hP hD hS => ?_)
            obtain ⟨hi, hf⟩ := ra_g_some hf
            refine va_iast hx hb hK hP hD hS 16 0 rfl rfl hi d_M_pairwise_112 (fun H locs hP hD hS => ?_)
            have hP : va_P (dC, dI) vC [((o 0), .inr (4, [.int (F15 0), .int (F15 1), .ref (o 1), .int (F15 2), .ref (o 2), .ref (o 3), .ref (o 4), .ref (o 5), .ref (o 6), .int (F15 3), .ref (o 7), .ref (o 8), .ref (o 9), .ref (o 10), .ref (o 11), .int (F15 4), .int (F15 5), .int (F15 6), .ref (o 12), .ref (o 13), .int (F15 7), .ref (o 14), .ref (o 15), .int (F15 8), .int (F15 9), .ref (o 16), .ref (o 17), .ref (o 18), .ref (o 19)])), ((o 1), .inl (cI, 160, .inl (A15 0))), ((o 2), .inl (cI, 100, .inl (A15 1))), ((o 3), .inl (cI, 100, .inl (A15 2))), ((o 4), .inl (cI, 100, .inl (A15 3))), ((o 5), .inl (cI, 3, .inl (A15 4))), ((o 6), .inl (cI, 26, .inl (A15 5))), ((o 7), .inl (cI, 100, .inl (A15 6))), ((o 8), .inl (cI, 100, .inl (A15 7))), ((o 9), .inl (cI, 100, .inl (A15 8))), ((o 10), .inl (cI, 26, .inl (A15 9))), ((o 11), .inl (cI, 104, .inl (A15 10))), ((o 12), .inl (cI, 80, .inl (A15 11))), ((o 13), .inl (cI, 320, .inl (A15 12))), ((o 14), .inl (cI, 200, .inl (A15 13))), ((o 15), .inl (cI, 200, .inl (A15 14))), ((o 16), .inl (cI, 4, .inl (upd (A15 15) x7.toNatClampNeg r15))), ((o 17), .inl (cI, 32, .inl (A15 16))), ((o 18), .inl (cI, 32, .inl (A15 17))), ((o 19), .inl (cI, 100, .inl (A15 18)))] H := hP
            have hD : va_D (va_A (wM o cI Fa Aa) s.heap.size) [((o 0), .inr (4, [.int (F15 0), .int (F15 1), .ref (o 1), .int (F15 2), .ref (o 2), .ref (o 3), .ref (o 4), .ref (o 5), .ref (o 6), .int (F15 3), .ref (o 7), .ref (o 8), .ref (o 9), .ref (o 10), .ref (o 11), .int (F15 4), .int (F15 5), .int (F15 6), .ref (o 12), .ref (o 13), .int (F15 7), .ref (o 14), .ref (o 15), .int (F15 8), .int (F15 9), .ref (o 16), .ref (o 17), .ref (o 18), .ref (o 19)])), ((o 1), .inl (cI, 160, .inl (A15 0))), ((o 2), .inl (cI, 100, .inl (A15 1))), ((o 3), .inl (cI, 100, .inl (A15 2))), ((o 4), .inl (cI, 100, .inl (A15 3))), ((o 5), .inl (cI, 3, .inl (A15 4))), ((o 6), .inl (cI, 26, .inl (A15 5))), ((o 7), .inl (cI, 100, .inl (A15 6))), ((o 8), .inl (cI, 100, .inl (A15 7))), ((o 9), .inl (cI, 100, .inl (A15 8))), ((o 10), .inl (cI, 26, .inl (A15 9))), ((o 11), .inl (cI, 104, .inl (A15 10))), ((o 12), .inl (cI, 80, .inl (A15 11))), ((o 13), .inl (cI, 320, .inl (A15 12))), ((o 14), .inl (cI, 200, .inl (A15 13))), ((o 15), .inl (cI, 200, .inl (A15 14))), ((o 16), .inl (cI, 4, .inl (upd (A15 15) x7.toNatClampNeg r15))), ((o 17), .inl (cI, 32, .inl (A15 16))), ((o 18), .inl (cI, 32, .inl (A15 17))), ((o 19), .inl (cI, 100, .inl (A15 18)))] := hD
            refine lv_iinc (k := 7) (v := (x7 + (1 : Int32))) hx hb d_M_pairwise_113 hl rfl (by rfl) (by decide) rfl (fun ls hl => ?_)
            have hl : lv_has ls 8 [(7, .int (x7 + (1 : Int32))), (0, .ref (o 0)), (1, .int x1), (2, .int x2), (3, .int x3), (4, .int x4), (5, .int x5), (6, .int x6)] := hl
            refine lv_goto (tgt := 60) hx hb d_M_pairwise_116 (by decide) ?_
            have hl : lv_has ls 8 [(0, .ref (o 0)), (1, .int x1), (2, .int x2), (3, .int x3), (4, .int x4), (5, .int x5), (6, .int x6), (7, .int (x7 + (1 : Int32)))] := lv_sub hl [1, 2, 3, 4, 5, 6, 7, 0] rfl
            exact ih x1 x2 x3 x4 x5 x6 (x7 + (1 : Int32)) F15 (va_up A15 15 (upd (A15 15) x7.toNatClampNeg r15)) _ _ _ hl hP hD hS hf
          · rw [if_pos h97_13] at hf
            refine lv_iconst (v := 0) hx hb d_M_pairwise_100 (by decide) ?_
            refine lv_goto (tgt := 106) hx hb d_M_pairwise_101 (by decide) ?_
            have hP : va_P (dC, dI) vC (wM o cI F12 A12) H := hP
            have hD : va_D (va_A (wM o cI Fa Aa) s.heap.size) (wM o cI F12 A12) := hD
            obtain ⟨r16, F16, A16, hc, hf⟩ := ra_bi_some hf
            refine cc_calli (va_runV (As := [.int x3, .int (0 : Int32)]) (rest := [.int r12, .int x1, .ref (o 0), .int x7, .ref (o 16)]) ⟨hx, hb, hml, hown, hts⟩ (k_M_number l dC dI o cI H.size F12 A12 x3 (0 : Int32) r16 F16 A16 hc) (cw_V 2 hts mw_648 mw_650 ms_M_number mw_5 mw_651 rfl rfl rfl hd_M_number ⟨Nat.le_of_ble_eq_true rfl, Nat.le_of_ble_eq_true rfl⟩) (cc_preV hK hP hD rfl (q0 := 0) rfl) rfl rfl hl.1 rfl (lv_room (Nat.le_of_ble_eq_true rfl)) d_M_pairwise_106 ⟨Nat.zero_le _, Nat.zero_le _⟩) hD hS hA (fun H locs hP hD hS => ?_)
            have hP : va_P (dC, dI) vC (wM o cI F16 A16) H := hP
            have hD : va_D (va_A (wM o cI Fa Aa) s.heap.size) (wM o cI F16 A16) := hD
            obtain ⟨r17, F17, A17, hc, hf⟩ := ra_bi_some hf
            refine cc_calli (va_runV (As := [.int x1, .int r12, .int r16]) (rest := [.int x7, .ref (o 16)]) ⟨hx, hb, hml, hown, hts⟩ (k_M_put l dC dI o cI H.size F16 A16 x1 r12 r16 r17 F17 A17 hc) (cw_V 3 hts mw_652 mw_654 ms_M_put mw_5 mw_655 rfl rfl rfl hd_M_put ⟨Nat.le_of_ble_eq_true rfl, Nat.le_of_ble_eq_true rfl⟩) (cc_preV hK hP hD rfl (q0 := 0) rfl) rfl rfl hl.1 rfl (lv_room (Nat.le_of_ble_eq_true rfl)) d_M_pairwise_109 ⟨Nat.zero_le _, Nat.zero_le _⟩) hD hS hA (fun H locs hP hD hS => ?_)
            obtain ⟨hi, hf⟩ := ra_g_some hf
            refine va_iast hx hb hK hP hD hS 16 0 rfl rfl hi d_M_pairwise_112 (fun H locs hP hD hS => ?_)
            have hP : va_P (dC, dI) vC [((o 0), .inr (4, [.int (F17 0), .int (F17 1), .ref (o 1), .int (F17 2), .ref (o 2), .ref (o 3), .ref (o 4), .ref (o 5), .ref (o 6), .int (F17 3), .ref (o 7), .ref (o 8), .ref (o 9), .ref (o 10), .ref (o 11), .int (F17 4), .int (F17 5), .int (F17 6), .ref (o 12), .ref (o 13), .int (F17 7), .ref (o 14), .ref (o 15), .int (F17 8), .int (F17 9), .ref (o 16), .ref (o 17), .ref (o 18), .ref (o 19)])), ((o 1), .inl (cI, 160, .inl (A17 0))), ((o 2), .inl (cI, 100, .inl (A17 1))), ((o 3), .inl (cI, 100, .inl (A17 2))), ((o 4), .inl (cI, 100, .inl (A17 3))), ((o 5), .inl (cI, 3, .inl (A17 4))), ((o 6), .inl (cI, 26, .inl (A17 5))), ((o 7), .inl (cI, 100, .inl (A17 6))), ((o 8), .inl (cI, 100, .inl (A17 7))), ((o 9), .inl (cI, 100, .inl (A17 8))), ((o 10), .inl (cI, 26, .inl (A17 9))), ((o 11), .inl (cI, 104, .inl (A17 10))), ((o 12), .inl (cI, 80, .inl (A17 11))), ((o 13), .inl (cI, 320, .inl (A17 12))), ((o 14), .inl (cI, 200, .inl (A17 13))), ((o 15), .inl (cI, 200, .inl (A17 14))), ((o 16), .inl (cI, 4, .inl (upd (A17 15) x7.toNatClampNeg r17))), ((o 17), .inl (cI, 32, .inl (A17 16))), ((o 18), .inl (cI, 32, .inl (A17 17))), ((o 19), .inl (cI, 100, .inl (A17 18)))] H := hP
            have hD : va_D (va_A (wM o cI Fa Aa) s.heap.size) [((o 0), .inr (4, [.int (F17 0), .int (F17 1), .ref (o 1), .int (F17 2), .ref (o 2), .ref (o 3), .ref (o 4), .ref (o 5), .ref (o 6), .int (F17 3), .ref (o 7), .ref (o 8), .ref (o 9), .ref (o 10), .ref (o 11), .int (F17 4), .int (F17 5), .int (F17 6), .ref (o 12), .ref (o 13), .int (F17 7), .ref (o 14), .ref (o 15), .int (F17 8), .int (F17 9), .ref (o 16), .ref (o 17), .ref (o 18), .ref (o 19)])), ((o 1), .inl (cI, 160, .inl (A17 0))), ((o 2), .inl (cI, 100, .inl (A17 1))), ((o 3), .inl (cI, 100, .inl (A17 2))), ((o 4), .inl (cI, 100, .inl (A17 3))), ((o 5), .inl (cI, 3, .inl (A17 4))), ((o 6), .inl (cI, 26, .inl (A17 5))), ((o 7), .inl (cI, 100, .inl (A17 6))), ((o 8), .inl (cI, 100, .inl (A17 7))), ((o 9), .inl (cI, 100, .inl (A17 8))), ((o 10), .inl (cI, 26, .inl (A17 9))), ((o 11), .inl (cI, 104, .inl (A17 10))), ((o 12), .inl (cI, 80, .inl (A17 11))), ((o 13), .inl (cI, 320, .inl (A17 12))), ((o 14), .inl (cI, 200, .inl (A17 13))), ((o 15), .inl (cI, 200, .inl (A17 14))), ((o 16), .inl (cI, 4, .inl (upd (A17 15) x7.toNatClampNeg r17))), ((o 17), .inl (cI, 32, .inl (A17 16))), ((o 18), .inl (cI, 32, .inl (A17 17))), ((o 19), .inl (cI, 100, .inl (A17 18)))] := hD
            refine lv_iinc (k := 7) (v := (x7 + (1 : Int32))) hx hb d_M_pairwise_113 hl rfl (by rfl) (by decide) rfl (fun ls hl => ?_)
            have hl : lv_has ls 8 [(7, .int (x7 + (1 : Int32))), (0, .ref (o 0)), (1, .int x1), (2, .int x2), (3, .int x3), (4, .int x4), (5, .int x5), (6, .int x6)] := hl
            refine lv_goto (tgt := 60) hx hb d_M_pairwise_116 (by decide) ?_
            have hl : lv_has ls 8 [(0, .ref (o 0)), (1, .int x1), (2, .int x2), (3, .int x3), (4, .int x4), (5, .int x5), (6, .int x6), (7, .int (x7 + (1 : Int32)))] := lv_sub hl [1, 2, 3, 4, 5, 6, 7, 0] rfl
            exact ih x1 x2 x3 x4 x5 x6 (x7 + (1 : Int32)) F17 (va_up A17 15 (upd (A17 15) x7.toNatClampNeg r17)) _ _ _ hl hP hD hS hf
  have J41 : ∀ (x1 : Int32) (x2 : Int32) (x3 : Int32) (x4 : Int32) (x5 : Int32) (F : ST_F) (A : ST_A) (H : Heap) (locs : List Loc) (ls : Array Slot), lv_has ls 8 [(0, .ref (o 0)), (1, .int x1), (2, .int x2), (3, .int x3), (4, .int x4), (5, .int x5)] → va_P (dC, dI) vC (wM o cI F A) H → va_D (va_A (wM o cI Fa Aa) s.heap.size) (wM o cI F A) → va_S (va_A (wM o cI Fa Aa) s.heap.size) s.heap H locs → f_M_pairwise_J41 x1 x2 x3 x4 x5 F A = some (F9, A9) → W p l e (headSpec (Cond.code y_M_pairwise b_M_pairwise 8 none :: wA) ({ frames := 2, cells := 0, slots := 0, locals := 43 } : Room)).room s m ([.ref (o 0), .int u1, .int u2, .int u3] : List Value).toArray below meth c H locs 0 0 (MQ below (cc_Qv (dC, dI) vC [(cI, .int)] (wM o cI Fa Aa) s.heap.size (wM o cI F9 A9)) ([.ref (o 0), .int u1, .int u2, .int u3] : List Value).toArray s 0 0 (va_A (wM o cI Fa Aa) s.heap.size)) (F0 m 41 ls []) := by
    intro x1 x2 x3 x4 x5 F A H locs ls hl hP hD hS hf
    unfold f_M_pairwise_J41 at hf
    refine lv_iload hx hb d_M_pairwise_41 (lv_at hl 4 rfl) ?_
    refine lv_iload hx hb d_M_pairwise_43 (lv_at hl 5 rfl) ?_
    refine lv_icmp_le (tgt := 53) hx hb d_M_pairwise_45 (by decide) (fun h45_2 => ?_) (fun h45_2 => ?_)
    · rw [if_pos h45_2] at hf
      refine lv_iload hx hb d_M_pairwise_53 (lv_at hl 5 rfl) ?_
      refine lv_istore hx hb d_M_pairwise_55 hl (by decide) rfl (fun ls hl => ?_)
      have hl : lv_has ls 8 [(6, .int x5), (0, .ref (o 0)), (1, .int x1), (2, .int x2), (3, .int x3), (4, .int x4), (5, .int x5)] := hl
      refine lv_iconst (v := 0) hx hb d_M_pairwise_57 (by decide) ?_
      refine lv_istore hx hb d_M_pairwise_58 hl (by decide) rfl (fun ls hl => ?_)
      have hl : lv_has ls 8 [(7, .int (0 : Int32)), (6, .int x5), (0, .ref (o 0)), (1, .int x1), (2, .int x2), (3, .int x3), (4, .int x4), (5, .int x5)] := hl
      have hl : lv_has ls 8 [(0, .ref (o 0)), (1, .int x1), (2, .int x2), (3, .int x3), (4, .int x4), (5, .int x5), (6, .int x5), (7, .int (0 : Int32))] := lv_sub hl [2, 3, 4, 5, 6, 7, 1, 0] rfl
      exact L60 400 x1 x2 x3 x4 x5 x5 (0 : Int32) F A _ _ _ hl hP hD hS hf
    · rw [if_neg h45_2] at hf
      refine lv_iload hx hb d_M_pairwise_48 (lv_at hl 4 rfl) ?_
      refine lv_goto (tgt := 55) hx hb d_M_pairwise_50 (by decide) ?_
      refine lv_istore hx hb d_M_pairwise_55 hl (by decide) rfl (fun ls hl => ?_)
      have hl : lv_has ls 8 [(6, .int x4), (0, .ref (o 0)), (1, .int x1), (2, .int x2), (3, .int x3), (4, .int x4), (5, .int x5)] := hl
      refine lv_iconst (v := 0) hx hb d_M_pairwise_57 (by decide) ?_
      refine lv_istore hx hb d_M_pairwise_58 hl (by decide) rfl (fun ls hl => ?_)
      have hl : lv_has ls 8 [(7, .int (0 : Int32)), (6, .int x4), (0, .ref (o 0)), (1, .int x1), (2, .int x2), (3, .int x3), (4, .int x4), (5, .int x5)] := hl
      have hl : lv_has ls 8 [(0, .ref (o 0)), (1, .int x1), (2, .int x2), (3, .int x3), (4, .int x4), (5, .int x5), (6, .int x4), (7, .int (0 : Int32))] := lv_sub hl [2, 3, 4, 5, 6, 7, 1, 0] rfl
      exact L60 400 x1 x2 x3 x4 x5 x4 (0 : Int32) F A _ _ _ hl hP hD hS hf
  rw [lg_entry_eq]
  generalize (lg_sl (([.ref (o 0), .int u1, .int u2, .int u3] : List Value)) ++ List.replicate (8 - (lg_sl (([.ref (o 0), .int u1, .int u2, .int u3] : List Value))).length) Slot.unset).toArray = ls at hl ⊢
  have hl : lv_has ls 8 [(0, .ref (o 0)), (1, .int u1), (2, .int u2), (3, .int u3)] := hl
  unfold f_M_pairwise at hf
  refine lv_aload_n hx hb d_M_pairwise_0 rfl (lv_at hl 0 rfl) ?_
  refine va_get (D := (dC, dI)) (ci := 4) (v := .ref (o 12)) (C := R_M) (T := T_M) (N := 29) hx hb hts in_M hown hK hP 0 rfl rfl 18 (by decide) (hts _ mw_521) (fun _ h9 => h9) rfl d_M_pairwise_1 ?_
  refine lv_iload_n hx hb d_M_pairwise_4 rfl (lv_at hl 2 rfl) ?_
  obtain ⟨hi, hf⟩ := ra_g_some hf
  refine va_iald hx hb hK hP 12 0 rfl rfl hi d_M_pairwise_5 ?_
  refine lv_istore hx hb d_M_pairwise_6 hl (by decide) rfl (fun ls hl => ?_)
  have hl : lv_has ls 8 [(4, .int ((Aa 11) u2.toNatClampNeg)), (0, .ref (o 0)), (1, .int u1), (2, .int u2), (3, .int u3)] := hl
  refine lv_aload_n hx hb d_M_pairwise_8 rfl (lv_at hl 1 rfl) ?_
  refine va_get (D := (dC, dI)) (ci := 4) (v := .ref (o 12)) (C := R_M) (T := T_M) (N := 29) hx hb hts in_M hown hK hP 0 rfl rfl 18 (by decide) (hts _ mw_521) (fun _ h9 => h9) rfl d_M_pairwise_9 ?_
  refine lv_iload_n hx hb d_M_pairwise_12 rfl (lv_at hl 4 rfl) ?_
  obtain ⟨hi, hf⟩ := ra_g_some hf
  refine va_iald hx hb hK hP 12 0 rfl rfl hi d_M_pairwise_13 ?_
  refine lv_istore hx hb d_M_pairwise_14 hl (by decide) rfl (fun ls hl => ?_)
  have hl : lv_has ls 8 [(5, .int ((Aa 11) u3.toNatClampNeg)), (4, .int ((Aa 11) u2.toNatClampNeg)), (0, .ref (o 0)), (1, .int u1), (2, .int u2), (3, .int u3)] := hl
  refine lv_iload hx hb d_M_pairwise_16 (lv_at hl 1 rfl) ?_
  refine lv_iload hx hb d_M_pairwise_18 (lv_at hl 0 rfl) ?_
  refine lv_icmp_eq (tgt := 41) hx hb d_M_pairwise_20 (by decide) (fun h20_1 => ?_) (fun h20_1 => ?_)
  · rw [if_pos h20_1] at hf
    have hl : lv_has ls 8 [(0, .ref (o 0)), (1, .int u1), (2, .int u2), (3, .int u3), (4, .int ((Aa 11) u2.toNatClampNeg)), (5, .int ((Aa 11) u3.toNatClampNeg))] := lv_sub hl [2, 3, 4, 5, 1, 0] rfl
    exact J41 u1 u2 u3 ((Aa 11) u2.toNatClampNeg) ((Aa 11) u3.toNatClampNeg) Fa Aa _ _ _ hl hP hD hS hf
  · rw [if_neg h20_1] at hf
    refine lv_iload hx hb d_M_pairwise_23 (lv_at hl 1 rfl) ?_
    refine lv_iconst (v := 1) hx hb d_M_pairwise_25 (by decide) ?_
    refine lv_icmp_eq (tgt := 41) hx hb d_M_pairwise_26 (by decide) (fun h26_18 => ?_) (fun h26_18 => ?_)
    · rw [if_pos h26_18] at hf
      have hl : lv_has ls 8 [(0, .ref (o 0)), (1, .int u1), (2, .int u2), (3, .int u3), (4, .int ((Aa 11) u2.toNatClampNeg)), (5, .int ((Aa 11) u3.toNatClampNeg))] := lv_sub hl [2, 3, 4, 5, 1, 0] rfl
      exact J41 u1 u2 u3 ((Aa 11) u2.toNatClampNeg) ((Aa 11) u3.toNatClampNeg) Fa Aa _ _ _ hl hP hD hS hf
    · rw [if_neg h26_18] at hf
      refine lv_iload hx hb d_M_pairwise_29 (lv_at hl 0 rfl) ?_
      refine lv_iconst (v := 1) hx hb d_M_pairwise_31 (by decide) ?_
      refine lv_icmp_eq (tgt := 41) hx hb d_M_pairwise_32 (by decide) (fun h32_19 => ?_) (fun h32_19 => ?_)
      · rw [if_pos h32_19] at hf
        have hl : lv_has ls 8 [(0, .ref (o 0)), (1, .int u1), (2, .int u2), (3, .int u3), (4, .int ((Aa 11) u2.toNatClampNeg)), (5, .int ((Aa 11) u3.toNatClampNeg))] := lv_sub hl [2, 3, 4, 5, 1, 0] rfl
        exact J41 u1 u2 u3 ((Aa 11) u2.toNatClampNeg) ((Aa 11) u3.toNatClampNeg) Fa Aa _ _ _ hl hP hD hS hf
      · rw [if_neg h32_19] at hf
        refine lv_aload_n hx hb d_M_pairwise_35 rfl (lv_at hl 2 rfl) ?_
        refine lv_iconst (v := 1) hx hb d_M_pairwise_36 (by decide) ?_
        refine va_put (D := (dC, dI)) (ci := 4) (v := .int (1 : Int32)) (ty := .boolean) (C := R_M) (T := T_M) (N := 29) hx hb hts in_M ty_M ty_M_ok nm_M hown hK hP hD hS 0 rfl rfl 16 (by decide) (hts _ mw_519) (fun _ h9 => h9) rfl (by decide +kernel) rfl rfl (Nat.le_of_ble_eq_true rfl) d_M_pairwise_37 (fun H locs hP hD hS => ?_)
        have hP : va_P (dC, dI) vC [((o 0), .inr (4, [.int (Fa 0), .int (Fa 1), .ref (o 1), .int (Fa 2), .ref (o 2), .ref (o 3), .ref (o 4), .ref (o 5), .ref (o 6), .int (Fa 3), .ref (o 7), .ref (o 8), .ref (o 9), .ref (o 10), .ref (o 11), .int (Fa 4), .int (1 : Int32), .int (Fa 6), .ref (o 12), .ref (o 13), .int (Fa 7), .ref (o 14), .ref (o 15), .int (Fa 8), .int (Fa 9), .ref (o 16), .ref (o 17), .ref (o 18), .ref (o 19)])), ((o 1), .inl (cI, 160, .inl (Aa 0))), ((o 2), .inl (cI, 100, .inl (Aa 1))), ((o 3), .inl (cI, 100, .inl (Aa 2))), ((o 4), .inl (cI, 100, .inl (Aa 3))), ((o 5), .inl (cI, 3, .inl (Aa 4))), ((o 6), .inl (cI, 26, .inl (Aa 5))), ((o 7), .inl (cI, 100, .inl (Aa 6))), ((o 8), .inl (cI, 100, .inl (Aa 7))), ((o 9), .inl (cI, 100, .inl (Aa 8))), ((o 10), .inl (cI, 26, .inl (Aa 9))), ((o 11), .inl (cI, 104, .inl (Aa 10))), ((o 12), .inl (cI, 80, .inl (Aa 11))), ((o 13), .inl (cI, 320, .inl (Aa 12))), ((o 14), .inl (cI, 200, .inl (Aa 13))), ((o 15), .inl (cI, 200, .inl (Aa 14))), ((o 16), .inl (cI, 4, .inl (Aa 15))), ((o 17), .inl (cI, 32, .inl (Aa 16))), ((o 18), .inl (cI, 32, .inl (Aa 17))), ((o 19), .inl (cI, 100, .inl (Aa 18)))] H := hP
        have hD : va_D (va_A (wM o cI Fa Aa) s.heap.size) [((o 0), .inr (4, [.int (Fa 0), .int (Fa 1), .ref (o 1), .int (Fa 2), .ref (o 2), .ref (o 3), .ref (o 4), .ref (o 5), .ref (o 6), .int (Fa 3), .ref (o 7), .ref (o 8), .ref (o 9), .ref (o 10), .ref (o 11), .int (Fa 4), .int (1 : Int32), .int (Fa 6), .ref (o 12), .ref (o 13), .int (Fa 7), .ref (o 14), .ref (o 15), .int (Fa 8), .int (Fa 9), .ref (o 16), .ref (o 17), .ref (o 18), .ref (o 19)])), ((o 1), .inl (cI, 160, .inl (Aa 0))), ((o 2), .inl (cI, 100, .inl (Aa 1))), ((o 3), .inl (cI, 100, .inl (Aa 2))), ((o 4), .inl (cI, 100, .inl (Aa 3))), ((o 5), .inl (cI, 3, .inl (Aa 4))), ((o 6), .inl (cI, 26, .inl (Aa 5))), ((o 7), .inl (cI, 100, .inl (Aa 6))), ((o 8), .inl (cI, 100, .inl (Aa 7))), ((o 9), .inl (cI, 100, .inl (Aa 8))), ((o 10), .inl (cI, 26, .inl (Aa 9))), ((o 11), .inl (cI, 104, .inl (Aa 10))), ((o 12), .inl (cI, 80, .inl (Aa 11))), ((o 13), .inl (cI, 320, .inl (Aa 12))), ((o 14), .inl (cI, 200, .inl (Aa 13))), ((o 15), .inl (cI, 200, .inl (Aa 14))), ((o 16), .inl (cI, 4, .inl (Aa 15))), ((o 17), .inl (cI, 32, .inl (Aa 16))), ((o 18), .inl (cI, 32, .inl (Aa 17))), ((o 19), .inl (cI, 100, .inl (Aa 18)))] := hD
        cases hf
        exact W.vret hx hb hr (fun t ht hW => ⟨⟨(), rfl, trivial, by rw [ht]; exact hP, va_K.moved hW.alike hK, hD⟩, hS.F ht⟩) hS.2.2 d_M_pairwise_40
def f_M_each_L9 : Nat → Int32 → Int32 → Int32 → ST_F → ST_A → Option (ST_F × ST_A)
  | 0, _, _, _, _, _ => none
  | n + 1, x1, x2, x3, F, A => ra_g x2 80 (if ((A 11) x2.toNatClampNeg) ≤ x3 then (some (F, A)) else (ra_bi (f_M_number x2 x3 F A) (fun r2 F2 A2 => ra_bi (f_M_put x1 r2 (0 : Int32) F2 A2) (fun r3 F3 A3 => ra_g (((4 : Int32) * x2) + x3) 320 (f_M_each_L9 n x1 x2 (x3 + (1 : Int32)) F3 (va_up A3 12 (upd (A3 12) (((4 : Int32) * x2) + x3).toNatClampNeg r3)))))))
def f_M_each (u1 : Int32) (Fa : ST_F) (Aa : ST_A) : Option (ST_F × ST_A) := f_M_each_L9 400 u1 ((Fa 6) - (1 : Int32)) (0 : Int32) Fa Aa
set_option maxHeartbeats 4000000 in
set_option maxRecDepth 100000 in
theorem k_M_each (l : Launch) (dC : Nat → ClassId) (dI : Nat → Nat → Nat) (o : Nat → Nat) (cI : ClassId) (sz : Nat) (Fa : ST_F) (Aa : ST_A) (u1 : Int32) (F9 : ST_F) (A9 : ST_A) (hf : f_M_each u1 Fa Aa = some (F9, A9)) : cc_MetV l y_M_each (Cond.code y_M_each b_M_each 4 none :: wA) ({ frames := 1, cells := 0, slots := 0, locals := 24 } : Room) (dC, dI) vC [(cI, .int)] ([.ref (o 0), .int u1] : List Value) (wM o cI Fa Aa) sz (wM o cI F9 A9) := by
  refine Met.ofW (cc := b_M_each) (maxL := 4) (ret := none) (by decide) rfl ?_
  intro p e s m args below meth c s₁ B hml hv
  obtain ⟨rfl, hsz, hP, hK, hD0⟩ := hv
  have hx := B.exec
  have hb := B.bytes
  have hr := B.returns
  have hts := fun w h => atoms_spec (ws := (Cond.code y_M_each b_M_each 4 none :: wA)) B.pre w (List.mem_cons_of_mem _ h)
  have hown : s.vm.findClass R_M = some m.cls := findClass_of_methodNamed B.named
  have hlocks := B.notSynchronized
  subst hsz
  have hD := hD0.self (sz := s.heap.size)
  have hA : ∀ q : Nat, s.heap.size ≤ q → va_A (wM o cI Fa Aa) s.heap.size q := fun q h => Or.inr h
  have hS : va_S (va_A (wM o cI Fa Aa) s.heap.size) s.heap s.heap [] := va_S.rf
  have hl := lv_entry (([.ref (o 0), .int u1] : List Value)) (n := 4) (Nat.le_of_ble_eq_true rfl)
  have L9 : ∀ (n : Nat) (x1 : Int32) (x2 : Int32) (x3 : Int32) (F : ST_F) (A : ST_A) (H : Heap) (locs : List Loc) (ls : Array Slot), lv_has ls 4 [(0, .ref (o 0)), (1, .int x1), (2, .int x2), (3, .int x3)] → va_P (dC, dI) vC (wM o cI F A) H → va_D (va_A (wM o cI Fa Aa) s.heap.size) (wM o cI F A) → va_S (va_A (wM o cI Fa Aa) s.heap.size) s.heap H locs → f_M_each_L9 n x1 x2 x3 F A = some (F9, A9) → W p l e (headSpec (Cond.code y_M_each b_M_each 4 none :: wA) ({ frames := 1, cells := 0, slots := 0, locals := 24 } : Room)).room s m ([.ref (o 0), .int u1] : List Value).toArray below meth c H locs 0 0 (MQ below (cc_Qv (dC, dI) vC [(cI, .int)] (wM o cI Fa Aa) s.heap.size (wM o cI F9 A9)) ([.ref (o 0), .int u1] : List Value).toArray s 0 0 (va_A (wM o cI Fa Aa) s.heap.size)) (F0 m 9 ls []) := by
    intro n
    induction n with
    | zero => intro x1 x2 x3 F A H locs ls hl hP hD hS hf; cases hf
    | succ n ih =>
      intro x1 x2 x3 F A H locs ls hl hP hD hS hf
      rw [f_M_each_L9] at hf
      refine lv_iload_n hx hb d_M_each_9 rfl (lv_at hl 3 rfl) ?_
      refine lv_aload_n hx hb d_M_each_10 rfl (lv_at hl 0 rfl) ?_
      refine va_get (D := (dC, dI)) (ci := 4) (v := .ref (o 12)) (C := R_M) (T := T_M) (N := 29) hx hb hts in_M hown hK hP 0 rfl rfl 18 (by decide) (hts _ mw_521) (fun _ h9 => h9) rfl d_M_each_11 ?_
      refine lv_iload_n hx hb d_M_each_14 rfl (lv_at hl 2 rfl) ?_
      obtain ⟨hi, hf⟩ := ra_g_some hf
      refine va_iald hx hb hK hP 12 0 rfl rfl hi d_M_each_15 ?_
      refine lv_icmp_ge (tgt := 47) hx hb d_M_each_16 (by decide) (fun h16_1 => ?_) (fun h16_1 => ?_)
      · rw [if_pos h16_1] at hf
        cases hf
        exact W.vret hx hb hr (fun t ht hW => ⟨⟨(), rfl, trivial, by rw [ht]; exact hP, va_K.moved hW.alike hK, hD⟩, hS.F ht⟩) hS.2.2 d_M_each_47
      · rw [if_neg h16_1] at hf
        refine lv_aload_n hx hb d_M_each_19 rfl (lv_at hl 0 rfl) ?_
        refine va_get (D := (dC, dI)) (ci := 4) (v := .ref (o 13)) (C := R_M) (T := T_M) (N := 29) hx hb hts in_M hown hK hP 0 rfl rfl 19 (by decide) (hts _ mw_522) (fun _ h9 => h9) rfl d_M_each_20 ?_
        refine lv_iconst (v := 4) hx hb d_M_each_23 (by decide) ?_
        refine lv_iload_n hx hb d_M_each_24 rfl (lv_at hl 2 rfl) ?_
        refine lv_imul hx hb d_M_each_25 ?_
        refine lv_iload_n hx hb d_M_each_26 rfl (lv_at hl 3 rfl) ?_
        refine lv_iadd hx hb d_M_each_27 ?_
        refine lv_aload_n hx hb d_M_each_28 rfl (lv_at hl 0 rfl) ?_
        refine lv_iload_n hx hb d_M_each_29 rfl (lv_at hl 1 rfl) ?_
        refine lv_aload_n hx hb d_M_each_30 rfl (lv_at hl 0 rfl) ?_
        refine lv_iload_n hx hb d_M_each_31 rfl (lv_at hl 2 rfl) ?_
        refine lv_iload_n hx hb d_M_each_32 rfl (lv_at hl 3 rfl) ?_
        have hP : va_P (dC, dI) vC (wM o cI F A) H := hP
        have hD : va_D (va_A (wM o cI Fa Aa) s.heap.size) (wM o cI F A) := hD
        obtain ⟨r2, F2, A2, hc, hf⟩ := ra_bi_some hf
        refine cc_calli (va_runV (As := [.int x2, .int x3]) (rest := [.int x1, .ref (o 0), .int (((4 : Int32) * x2) + x3), .ref (o 13)]) ⟨hx, hb, hml, hown, hts⟩ (k_M_number l dC dI o cI H.size F A x2 x3 r2 F2 A2 hc) (cw_V 2 hts mw_648 mw_650 ms_M_number mw_5 mw_651 rfl rfl rfl hd_M_number ⟨Nat.le_of_ble_eq_true rfl, Nat.le_of_ble_eq_true rfl⟩) (cc_preV hK hP hD rfl (q0 := 0) rfl) rfl rfl hl.1 rfl (lv_room (Nat.le_of_ble_eq_true rfl)) d_M_each_33 ⟨Nat.zero_le _, Nat.zero_le _⟩) hD hS hA (fun H locs hP hD hS => ?_)
        refine lv_iconst (v := 0) hx hb d_M_each_36 (by decide) ?_
        have hP : va_P (dC, dI) vC (wM o cI F2 A2) H := hP
        have hD : va_D (va_A (wM o cI Fa Aa) s.heap.size) (wM o cI F2 A2) := hD
        obtain ⟨r3, F3, A3, hc, hf⟩ := ra_bi_some hf
        refine cc_calli (va_runV (As := [.int x1, .int r2, .int (0 : Int32)]) (rest := [.int (((4 : Int32) * x2) + x3), .ref (o 13)]) ⟨hx, hb, hml, hown, hts⟩ (k_M_put l dC dI o cI H.size F2 A2 x1 r2 (0 : Int32) r3 F3 A3 hc) (cw_V 3 hts mw_652 mw_654 ms_M_put mw_5 mw_655 rfl rfl rfl hd_M_put ⟨Nat.le_of_ble_eq_true rfl, Nat.le_of_ble_eq_true rfl⟩) (cc_preV hK hP hD rfl (q0 := 0) rfl) rfl rfl hl.1 rfl (lv_room (Nat.le_of_ble_eq_true rfl)) d_M_each_37 ⟨Nat.zero_le _, Nat.zero_le _⟩) hD hS hA (fun H locs hP hD hS => ?_)
        obtain ⟨hi, hf⟩ := ra_g_some hf
        refine va_iast hx hb hK hP hD hS 13 0 rfl rfl hi d_M_each_40 (fun H locs hP hD hS => ?_)
        have hP : va_P (dC, dI) vC [((o 0), .inr (4, [.int (F3 0), .int (F3 1), .ref (o 1), .int (F3 2), .ref (o 2), .ref (o 3), .ref (o 4), .ref (o 5), .ref (o 6), .int (F3 3), .ref (o 7), .ref (o 8), .ref (o 9), .ref (o 10), .ref (o 11), .int (F3 4), .int (F3 5), .int (F3 6), .ref (o 12), .ref (o 13), .int (F3 7), .ref (o 14), .ref (o 15), .int (F3 8), .int (F3 9), .ref (o 16), .ref (o 17), .ref (o 18), .ref (o 19)])), ((o 1), .inl (cI, 160, .inl (A3 0))), ((o 2), .inl (cI, 100, .inl (A3 1))), ((o 3), .inl (cI, 100, .inl (A3 2))), ((o 4), .inl (cI, 100, .inl (A3 3))), ((o 5), .inl (cI, 3, .inl (A3 4))), ((o 6), .inl (cI, 26, .inl (A3 5))), ((o 7), .inl (cI, 100, .inl (A3 6))), ((o 8), .inl (cI, 100, .inl (A3 7))), ((o 9), .inl (cI, 100, .inl (A3 8))), ((o 10), .inl (cI, 26, .inl (A3 9))), ((o 11), .inl (cI, 104, .inl (A3 10))), ((o 12), .inl (cI, 80, .inl (A3 11))), ((o 13), .inl (cI, 320, .inl (upd (A3 12) (((4 : Int32) * x2) + x3).toNatClampNeg r3))), ((o 14), .inl (cI, 200, .inl (A3 13))), ((o 15), .inl (cI, 200, .inl (A3 14))), ((o 16), .inl (cI, 4, .inl (A3 15))), ((o 17), .inl (cI, 32, .inl (A3 16))), ((o 18), .inl (cI, 32, .inl (A3 17))), ((o 19), .inl (cI, 100, .inl (A3 18)))] H := hP
        have hD : va_D (va_A (wM o cI Fa Aa) s.heap.size) [((o 0), .inr (4, [.int (F3 0), .int (F3 1), .ref (o 1), .int (F3 2), .ref (o 2), .ref (o 3), .ref (o 4), .ref (o 5), .ref (o 6), .int (F3 3), .ref (o 7), .ref (o 8), .ref (o 9), .ref (o 10), .ref (o 11), .int (F3 4), .int (F3 5), .int (F3 6), .ref (o 12), .ref (o 13), .int (F3 7), .ref (o 14), .ref (o 15), .int (F3 8), .int (F3 9), .ref (o 16), .ref (o 17), .ref (o 18), .ref (o 19)])), ((o 1), .inl (cI, 160, .inl (A3 0))), ((o 2), .inl (cI, 100, .inl (A3 1))), ((o 3), .inl (cI, 100, .inl (A3 2))), ((o 4), .inl (cI, 100, .inl (A3 3))), ((o 5), .inl (cI, 3, .inl (A3 4))), ((o 6), .inl (cI, 26, .inl (A3 5))), ((o 7), .inl (cI, 100, .inl (A3 6))), ((o 8), .inl (cI, 100, .inl (A3 7))), ((o 9), .inl (cI, 100, .inl (A3 8))), ((o 10), .inl (cI, 26, .inl (A3 9))), ((o 11), .inl (cI, 104, .inl (A3 10))), ((o 12), .inl (cI, 80, .inl (A3 11))), ((o 13), .inl (cI, 320, .inl (upd (A3 12) (((4 : Int32) * x2) + x3).toNatClampNeg r3))), ((o 14), .inl (cI, 200, .inl (A3 13))), ((o 15), .inl (cI, 200, .inl (A3 14))), ((o 16), .inl (cI, 4, .inl (A3 15))), ((o 17), .inl (cI, 32, .inl (A3 16))), ((o 18), .inl (cI, 32, .inl (A3 17))), ((o 19), .inl (cI, 100, .inl (A3 18)))] := hD
        refine lv_iinc (k := 3) (v := (x3 + (1 : Int32))) hx hb d_M_each_41 hl rfl (by rfl) (by decide) rfl (fun ls hl => ?_)
        have hl : lv_has ls 4 [(3, .int (x3 + (1 : Int32))), (0, .ref (o 0)), (1, .int x1), (2, .int x2)] := hl
        refine lv_goto (tgt := 9) hx hb d_M_each_44 (by decide) ?_
        have hl : lv_has ls 4 [(0, .ref (o 0)), (1, .int x1), (2, .int x2), (3, .int (x3 + (1 : Int32)))] := lv_sub hl [1, 2, 3, 0] rfl
        exact ih x1 x2 (x3 + (1 : Int32)) F3 (va_up A3 12 (upd (A3 12) (((4 : Int32) * x2) + x3).toNatClampNeg r3)) _ _ _ hl hP hD hS hf
  rw [lg_entry_eq]
  generalize (lg_sl (([.ref (o 0), .int u1] : List Value)) ++ List.replicate (4 - (lg_sl (([.ref (o 0), .int u1] : List Value))).length) Slot.unset).toArray = ls at hl ⊢
  have hl : lv_has ls 4 [(0, .ref (o 0)), (1, .int u1)] := hl
  unfold f_M_each at hf
  refine lv_aload_n hx hb d_M_each_0 rfl (lv_at hl 0 rfl) ?_
  refine va_get (D := (dC, dI)) (ci := 4) (v := .int (Fa 6)) (C := R_M) (T := T_M) (N := 29) hx hb hts in_M hown hK hP 0 rfl rfl 17 (by decide) (hts _ mw_520) (fun _ h9 => h9) rfl d_M_each_1 ?_
  refine lv_iconst (v := 1) hx hb d_M_each_4 (by decide) ?_
  refine lv_isub hx hb d_M_each_5 ?_
  refine lv_istore_n hx hb d_M_each_6 rfl hl (by decide) rfl (fun ls hl => ?_)
  have hl : lv_has ls 4 [(2, .int ((Fa 6) - (1 : Int32))), (0, .ref (o 0)), (1, .int u1)] := hl
  refine lv_iconst (v := 0) hx hb d_M_each_7 (by decide) ?_
  refine lv_istore_n hx hb d_M_each_8 rfl hl (by decide) rfl (fun ls hl => ?_)
  have hl : lv_has ls 4 [(3, .int (0 : Int32)), (2, .int ((Fa 6) - (1 : Int32))), (0, .ref (o 0)), (1, .int u1)] := hl
  have hl : lv_has ls 4 [(0, .ref (o 0)), (1, .int u1), (2, .int ((Fa 6) - (1 : Int32))), (3, .int (0 : Int32))] := lv_sub hl [2, 3, 1, 0] rfl
  exact L9 400 u1 ((Fa 6) - (1 : Int32)) (0 : Int32) Fa Aa _ _ _ hl hP hD hS hf
def f_M_dot_L34 : Nat → Int32 → Int32 → Int32 → Int32 → Int32 → ST_F → ST_A → Option (ST_F × ST_A)
  | 0, _, _, _, _, _, _, _ => none
  | n + 1, x1, x2, x3, x4, x5, F, A => if x3 ≤ x5 then (ra_g (0 : Int32) 4 (ra_bv (f_M_pushMade (1 : Int32) (upd F 6 x1) (va_up A 15 (upd (A 15) (0 : Int32).toNatClampNeg x4))) (fun F4 A4 => some (F4, A4)))) else (ra_bi (f_M_number x1 x5 F A) (fun r5 F5 A5 => ra_bi (f_M_number x2 x5 F5 A5) (fun r6 F6 A6 => ra_bi (f_M_put (4 : Int32) r5 r6 F6 A6) (fun r7 F7 A7 => if x5 = 0 then (f_M_dot_L34 n x1 x2 x3 r7 (x5 + (1 : Int32)) F7 A7) else (ra_bi (f_M_put (2 : Int32) x4 r7 F7 A7) (fun r9 F9 A9 => f_M_dot_L34 n x1 x2 x3 r9 (x5 + (1 : Int32)) F9 A9))))))
def f_M_dot (u1 : Int32) (u2 : Int32) (Fa : ST_F) (Aa : ST_A) : Option (ST_F × ST_A) := ra_g u1 80 (ra_g u2 80 (if ((Aa 11) u1.toNatClampNeg) = ((Aa 11) u2.toNatClampNeg) then (if ((Aa 11) u1.toNatClampNeg) ≤ (3 : Int32) then (f_M_dot_L34 400 u1 u2 ((Aa 11) u1.toNatClampNeg) (0 : Int32) (0 : Int32) Fa Aa) else (some ((upd Fa 5 (1 : Int32)), Aa))) else (some ((upd Fa 5 (1 : Int32)), Aa))))
set_option maxHeartbeats 4000000 in
set_option maxRecDepth 100000 in
theorem k_M_dot (l : Launch) (dC : Nat → ClassId) (dI : Nat → Nat → Nat) (o : Nat → Nat) (cI : ClassId) (sz : Nat) (Fa : ST_F) (Aa : ST_A) (u1 : Int32) (u2 : Int32) (F9 : ST_F) (A9 : ST_A) (hf : f_M_dot u1 u2 Fa Aa = some (F9, A9)) : cc_MetV l y_M_dot (Cond.code y_M_dot b_M_dot 7 none :: wA) ({ frames := 2, cells := 0, slots := 0, locals := 43 } : Room) (dC, dI) vC [(cI, .int)] ([.ref (o 0), .int u1, .int u2] : List Value) (wM o cI Fa Aa) sz (wM o cI F9 A9) := by
  refine Met.ofW (cc := b_M_dot) (maxL := 7) (ret := none) (by decide) rfl ?_
  intro p e s m args below meth c s₁ B hml hv
  obtain ⟨rfl, hsz, hP, hK, hD0⟩ := hv
  have hx := B.exec
  have hb := B.bytes
  have hr := B.returns
  have hts := fun w h => atoms_spec (ws := (Cond.code y_M_dot b_M_dot 7 none :: wA)) B.pre w (List.mem_cons_of_mem _ h)
  have hown : s.vm.findClass R_M = some m.cls := findClass_of_methodNamed B.named
  have hlocks := B.notSynchronized
  subst hsz
  have hD := hD0.self (sz := s.heap.size)
  have hA : ∀ q : Nat, s.heap.size ≤ q → va_A (wM o cI Fa Aa) s.heap.size q := fun q h => Or.inr h
  have hS : va_S (va_A (wM o cI Fa Aa) s.heap.size) s.heap s.heap [] := va_S.rf
  have hl := lv_entry (([.ref (o 0), .int u1, .int u2] : List Value)) (n := 7) (Nat.le_of_ble_eq_true rfl)
  have L34 : ∀ (n : Nat) (x1 : Int32) (x2 : Int32) (x3 : Int32) (x4 : Int32) (x5 : Int32) (F : ST_F) (A : ST_A) (H : Heap) (locs : List Loc) (ls : Array Slot), lv_has ls 7 [(0, .ref (o 0)), (1, .int x1), (2, .int x2), (3, .int x3), (4, .int x4), (5, .int x5)] → va_P (dC, dI) vC (wM o cI F A) H → va_D (va_A (wM o cI Fa Aa) s.heap.size) (wM o cI F A) → va_S (va_A (wM o cI Fa Aa) s.heap.size) s.heap H locs → f_M_dot_L34 n x1 x2 x3 x4 x5 F A = some (F9, A9) → W p l e (headSpec (Cond.code y_M_dot b_M_dot 7 none :: wA) ({ frames := 2, cells := 0, slots := 0, locals := 43 } : Room)).room s m ([.ref (o 0), .int u1, .int u2] : List Value).toArray below meth c H locs 0 0 (MQ below (cc_Qv (dC, dI) vC [(cI, .int)] (wM o cI Fa Aa) s.heap.size (wM o cI F9 A9)) ([.ref (o 0), .int u1, .int u2] : List Value).toArray s 0 0 (va_A (wM o cI Fa Aa) s.heap.size)) (F0 m 34 ls []) := by
    intro n
    induction n with
    | zero => intro x1 x2 x3 x4 x5 F A H locs ls hl hP hD hS hf; cases hf
    | succ n ih =>
      intro x1 x2 x3 x4 x5 F A H locs ls hl hP hD hS hf
      rw [f_M_dot_L34] at hf
      refine lv_iload hx hb d_M_dot_34 (lv_at hl 5 rfl) ?_
      refine lv_iload_n hx hb d_M_dot_36 rfl (lv_at hl 3 rfl) ?_
      refine lv_icmp_ge (tgt := 88) hx hb d_M_dot_37 (by decide) (fun h37_3 => ?_) (fun h37_3 => ?_)
      · rw [if_pos h37_3] at hf
        refine lv_aload_n hx hb d_M_dot_88 rfl (lv_at hl 0 rfl) ?_
        refine va_get (D := (dC, dI)) (ci := 4) (v := .ref (o 16)) (C := R_M) (T := T_M) (N := 29) hx hb hts in_M hown hK hP 0 rfl rfl 25 (by decide) (hts _ mw_528) (fun _ h9 => h9) rfl d_M_dot_89 ?_
        refine lv_iconst (v := 0) hx hb d_M_dot_92 (by decide) ?_
        refine lv_iload hx hb d_M_dot_93 (lv_at hl 4 rfl) ?_
        obtain ⟨hi, hf⟩ := ra_g_some hf
        refine va_iast hx hb hK hP hD hS 16 0 rfl rfl hi d_M_dot_95 (fun H locs hP hD hS => ?_)
        have hP : va_P (dC, dI) vC [((o 0), .inr (4, [.int (F 0), .int (F 1), .ref (o 1), .int (F 2), .ref (o 2), .ref (o 3), .ref (o 4), .ref (o 5), .ref (o 6), .int (F 3), .ref (o 7), .ref (o 8), .ref (o 9), .ref (o 10), .ref (o 11), .int (F 4), .int (F 5), .int (F 6), .ref (o 12), .ref (o 13), .int (F 7), .ref (o 14), .ref (o 15), .int (F 8), .int (F 9), .ref (o 16), .ref (o 17), .ref (o 18), .ref (o 19)])), ((o 1), .inl (cI, 160, .inl (A 0))), ((o 2), .inl (cI, 100, .inl (A 1))), ((o 3), .inl (cI, 100, .inl (A 2))), ((o 4), .inl (cI, 100, .inl (A 3))), ((o 5), .inl (cI, 3, .inl (A 4))), ((o 6), .inl (cI, 26, .inl (A 5))), ((o 7), .inl (cI, 100, .inl (A 6))), ((o 8), .inl (cI, 100, .inl (A 7))), ((o 9), .inl (cI, 100, .inl (A 8))), ((o 10), .inl (cI, 26, .inl (A 9))), ((o 11), .inl (cI, 104, .inl (A 10))), ((o 12), .inl (cI, 80, .inl (A 11))), ((o 13), .inl (cI, 320, .inl (A 12))), ((o 14), .inl (cI, 200, .inl (A 13))), ((o 15), .inl (cI, 200, .inl (A 14))), ((o 16), .inl (cI, 4, .inl (upd (A 15) (0 : Int32).toNatClampNeg x4))), ((o 17), .inl (cI, 32, .inl (A 16))), ((o 18), .inl (cI, 32, .inl (A 17))), ((o 19), .inl (cI, 100, .inl (A 18)))] H := hP
        have hD : va_D (va_A (wM o cI Fa Aa) s.heap.size) [((o 0), .inr (4, [.int (F 0), .int (F 1), .ref (o 1), .int (F 2), .ref (o 2), .ref (o 3), .ref (o 4), .ref (o 5), .ref (o 6), .int (F 3), .ref (o 7), .ref (o 8), .ref (o 9), .ref (o 10), .ref (o 11), .int (F 4), .int (F 5), .int (F 6), .ref (o 12), .ref (o 13), .int (F 7), .ref (o 14), .ref (o 15), .int (F 8), .int (F 9), .ref (o 16), .ref (o 17), .ref (o 18), .ref (o 19)])), ((o 1), .inl (cI, 160, .inl (A 0))), ((o 2), .inl (cI, 100, .inl (A 1))), ((o 3), .inl (cI, 100, .inl (A 2))), ((o 4), .inl (cI, 100, .inl (A 3))), ((o 5), .inl (cI, 3, .inl (A 4))), ((o 6), .inl (cI, 26, .inl (A 5))), ((o 7), .inl (cI, 100, .inl (A 6))), ((o 8), .inl (cI, 100, .inl (A 7))), ((o 9), .inl (cI, 100, .inl (A 8))), ((o 10), .inl (cI, 26, .inl (A 9))), ((o 11), .inl (cI, 104, .inl (A 10))), ((o 12), .inl (cI, 80, .inl (A 11))), ((o 13), .inl (cI, 320, .inl (A 12))), ((o 14), .inl (cI, 200, .inl (A 13))), ((o 15), .inl (cI, 200, .inl (A 14))), ((o 16), .inl (cI, 4, .inl (upd (A 15) (0 : Int32).toNatClampNeg x4))), ((o 17), .inl (cI, 32, .inl (A 16))), ((o 18), .inl (cI, 32, .inl (A 17))), ((o 19), .inl (cI, 100, .inl (A 18)))] := hD
        refine lv_aload_n hx hb d_M_dot_96 rfl (lv_at hl 0 rfl) ?_
        refine lv_iload_n hx hb d_M_dot_97 rfl (lv_at hl 1 rfl) ?_
        refine va_put (D := (dC, dI)) (ci := 4) (v := .int x1) (ty := .int) (C := R_M) (T := T_M) (N := 29) hx hb hts in_M ty_M ty_M_ok nm_M hown hK hP hD hS 0 rfl rfl 17 (by decide) (hts _ mw_520) (fun _ h9 => h9) rfl (by decide +kernel) rfl rfl (Nat.le_of_ble_eq_true rfl) d_M_dot_98 (fun H locs hP hD hS => ?_)
        have hP : va_P (dC, dI) vC [((o 0), .inr (4, [.int (F 0), .int (F 1), .ref (o 1), .int (F 2), .ref (o 2), .ref (o 3), .ref (o 4), .ref (o 5), .ref (o 6), .int (F 3), .ref (o 7), .ref (o 8), .ref (o 9), .ref (o 10), .ref (o 11), .int (F 4), .int (F 5), .int x1, .ref (o 12), .ref (o 13), .int (F 7), .ref (o 14), .ref (o 15), .int (F 8), .int (F 9), .ref (o 16), .ref (o 17), .ref (o 18), .ref (o 19)])), ((o 1), .inl (cI, 160, .inl (A 0))), ((o 2), .inl (cI, 100, .inl (A 1))), ((o 3), .inl (cI, 100, .inl (A 2))), ((o 4), .inl (cI, 100, .inl (A 3))), ((o 5), .inl (cI, 3, .inl (A 4))), ((o 6), .inl (cI, 26, .inl (A 5))), ((o 7), .inl (cI, 100, .inl (A 6))), ((o 8), .inl (cI, 100, .inl (A 7))), ((o 9), .inl (cI, 100, .inl (A 8))), ((o 10), .inl (cI, 26, .inl (A 9))), ((o 11), .inl (cI, 104, .inl (A 10))), ((o 12), .inl (cI, 80, .inl (A 11))), ((o 13), .inl (cI, 320, .inl (A 12))), ((o 14), .inl (cI, 200, .inl (A 13))), ((o 15), .inl (cI, 200, .inl (A 14))), ((o 16), .inl (cI, 4, .inl (upd (A 15) (0 : Int32).toNatClampNeg x4))), ((o 17), .inl (cI, 32, .inl (A 16))), ((o 18), .inl (cI, 32, .inl (A 17))), ((o 19), .inl (cI, 100, .inl (A 18)))] H := hP
        have hD : va_D (va_A (wM o cI Fa Aa) s.heap.size) [((o 0), .inr (4, [.int (F 0), .int (F 1), .ref (o 1), .int (F 2), .ref (o 2), .ref (o 3), .ref (o 4), .ref (o 5), .ref (o 6), .int (F 3), .ref (o 7), .ref (o 8), .ref (o 9), .ref (o 10), .ref (o 11), .int (F 4), .int (F 5), .int x1, .ref (o 12), .ref (o 13), .int (F 7), .ref (o 14), .ref (o 15), .int (F 8), .int (F 9), .ref (o 16), .ref (o 17), .ref (o 18), .ref (o 19)])), ((o 1), .inl (cI, 160, .inl (A 0))), ((o 2), .inl (cI, 100, .inl (A 1))), ((o 3), .inl (cI, 100, .inl (A 2))), ((o 4), .inl (cI, 100, .inl (A 3))), ((o 5), .inl (cI, 3, .inl (A 4))), ((o 6), .inl (cI, 26, .inl (A 5))), ((o 7), .inl (cI, 100, .inl (A 6))), ((o 8), .inl (cI, 100, .inl (A 7))), ((o 9), .inl (cI, 100, .inl (A 8))), ((o 10), .inl (cI, 26, .inl (A 9))), ((o 11), .inl (cI, 104, .inl (A 10))), ((o 12), .inl (cI, 80, .inl (A 11))), ((o 13), .inl (cI, 320, .inl (A 12))), ((o 14), .inl (cI, 200, .inl (A 13))), ((o 15), .inl (cI, 200, .inl (A 14))), ((o 16), .inl (cI, 4, .inl (upd (A 15) (0 : Int32).toNatClampNeg x4))), ((o 17), .inl (cI, 32, .inl (A 16))), ((o 18), .inl (cI, 32, .inl (A 17))), ((o 19), .inl (cI, 100, .inl (A 18)))] := hD
        refine lv_aload_n hx hb d_M_dot_101 rfl (lv_at hl 0 rfl) ?_
        refine lv_iconst (v := 1) hx hb d_M_dot_102 (by decide) ?_
        have hP : va_P (dC, dI) vC (wM o cI (upd F 6 x1) (va_up A 15 (upd (A 15) (0 : Int32).toNatClampNeg x4))) H := hP
        have hD : va_D (va_A (wM o cI Fa Aa) s.heap.size) (wM o cI (upd F 6 x1) (va_up A 15 (upd (A 15) (0 : Int32).toNatClampNeg x4))) := hD
        obtain ⟨F4, A4, hc, hf⟩ := ra_bv_some hf
        refine cc_callv (va_runV (As := [.int (1 : Int32)]) (rest := []) ⟨hx, hb, hml, hown, hts⟩ (k_M_pushMade l dC dI o cI H.size (upd F 6 x1) (va_up A 15 (upd (A 15) (0 : Int32).toNatClampNeg x4)) (1 : Int32) F4 A4 hc) (cw_V 1 hts mw_656 mw_658 ms_M_pushMade mw_5 mw_659 rfl rfl rfl hd_M_pushMade ⟨Nat.le_of_ble_eq_true rfl, Nat.le_of_ble_eq_true rfl⟩) (cc_preV hK hP hD rfl (q0 := 0) rfl) rfl rfl hl.1 rfl (lv_room (Nat.le_of_ble_eq_true rfl)) d_M_dot_103 ⟨Nat.zero_le _, Nat.zero_le _⟩) hD hS hA (fun H locs hP hD hS => ?_)
        cases hf
        exact W.vret hx hb hr (fun t ht hW => ⟨⟨(), rfl, trivial, by rw [ht]; exact hP, va_K.moved hW.alike hK, hD⟩, hS.F ht⟩) hS.2.2 d_M_dot_106
      · rw [if_neg h37_3] at hf
        refine lv_aload_n hx hb d_M_dot_40 rfl (lv_at hl 0 rfl) ?_
        refine lv_iconst (v := 4) hx hb d_M_dot_41 (by decide) ?_
        refine lv_aload_n hx hb d_M_dot_42 rfl (lv_at hl 0 rfl) ?_
        refine lv_iload_n hx hb d_M_dot_43 rfl (lv_at hl 1 rfl) ?_
        refine lv_iload hx hb d_M_dot_44 (lv_at hl 5 rfl) ?_
        have hP : va_P (dC, dI) vC (wM o cI F A) H := hP
        have hD : va_D (va_A (wM o cI Fa Aa) s.heap.size) (wM o cI F A) := hD
        obtain ⟨r5, F5, A5, hc, hf⟩ := ra_bi_some hf
        refine cc_calli (va_runV (As := [.int x1, .int x5]) (rest := [.int (4 : Int32), .ref (o 0)]) ⟨hx, hb, hml, hown, hts⟩ (k_M_number l dC dI o cI H.size F A x1 x5 r5 F5 A5 hc) (cw_V 2 hts mw_648 mw_650 ms_M_number mw_5 mw_651 rfl rfl rfl hd_M_number ⟨Nat.le_of_ble_eq_true rfl, Nat.le_of_ble_eq_true rfl⟩) (cc_preV hK hP hD rfl (q0 := 0) rfl) rfl rfl hl.1 rfl (lv_room (Nat.le_of_ble_eq_true rfl)) d_M_dot_46 ⟨Nat.zero_le _, Nat.zero_le _⟩) hD hS hA (fun H locs hP hD hS => ?_)
        refine lv_aload_n hx hb d_M_dot_49 rfl (lv_at hl 0 rfl) ?_
        refine lv_iload_n hx hb d_M_dot_50 rfl (lv_at hl 2 rfl) ?_
        refine lv_iload hx hb d_M_dot_51 (lv_at hl 5 rfl) ?_
        have hP : va_P (dC, dI) vC (wM o cI F5 A5) H := hP
        have hD : va_D (va_A (wM o cI Fa Aa) s.heap.size) (wM o cI F5 A5) := hD
        obtain ⟨r6, F6, A6, hc, hf⟩ := ra_bi_some hf
        refine cc_calli (va_runV (As := [.int x2, .int x5]) (rest := [.int r5, .int (4 : Int32), .ref (o 0)]) ⟨hx, hb, hml, hown, hts⟩ (k_M_number l dC dI o cI H.size F5 A5 x2 x5 r6 F6 A6 hc) (cw_V 2 hts mw_648 mw_650 ms_M_number mw_5 mw_651 rfl rfl rfl hd_M_number ⟨Nat.le_of_ble_eq_true rfl, Nat.le_of_ble_eq_true rfl⟩) (cc_preV hK hP hD rfl (q0 := 0) rfl) rfl rfl hl.1 rfl (lv_room (Nat.le_of_ble_eq_true rfl)) d_M_dot_53 ⟨Nat.zero_le _, Nat.zero_le _⟩) hD hS hA (fun H locs hP hD hS => ?_)
        have hP : va_P (dC, dI) vC (wM o cI F6 A6) H := hP
        have hD : va_D (va_A (wM o cI Fa Aa) s.heap.size) (wM o cI F6 A6) := hD
        obtain ⟨r7, F7, A7, hc, hf⟩ := ra_bi_some hf
        refine cc_calli (va_runV (As := [.int (4 : Int32), .int r5, .int r6]) (rest := []) ⟨hx, hb, hml, hown, hts⟩ (k_M_put l dC dI o cI H.size F6 A6 (4 : Int32) r5 r6 r7 F7 A7 hc) (cw_V 3 hts mw_652 mw_654 ms_M_put mw_5 mw_655 rfl rfl rfl hd_M_put ⟨Nat.le_of_ble_eq_true rfl, Nat.le_of_ble_eq_true rfl⟩) (cc_preV hK hP hD rfl (q0 := 0) rfl) rfl rfl hl.1 rfl (lv_room (Nat.le_of_ble_eq_true rfl)) d_M_dot_56 ⟨Nat.zero_le _, Nat.zero_le _⟩) hD hS hA (fun H locs hP hD hS => ?_)
        refine lv_istore hx hb d_M_dot_59 hl (by decide) rfl (fun ls hl => ?_)
        have hl : lv_has ls 7 [(6, .int r7), (0, .ref (o 0)), (1, .int x1), (2, .int x2), (3, .int x3), (4, .int x4), (5, .int x5)] := hl
        refine lv_iload hx hb d_M_dot_61 (lv_at hl 6 rfl) ?_
        refine lv_if_ne (tgt := 71) hx hb d_M_dot_63 (by decide) (fun h63_8 => ?_) (fun h63_8 => ?_)
        · rw [if_neg h63_8] at hf
          refine lv_aload_n hx hb d_M_dot_71 rfl (lv_at hl 1 rfl) ?_
          refine lv_iconst (v := 2) hx hb d_M_dot_72 (by decide) ?_
          refine lv_iload hx hb d_M_dot_73 (lv_at hl 5 rfl) ?_
          refine lv_iload hx hb d_M_dot_75 (lv_at hl 0 rfl) ?_
          have hP : va_P (dC, dI) vC (wM o cI F7 A7) H := hP
          have hD : va_D (va_A (wM o cI Fa Aa) s.heap.size) (wM o cI F7 A7) := hD
          obtain ⟨r9, F9, A9, hc, hf⟩ := ra_bi_some hf
          refine cc_calli (va_runV (As := [.int (2 : Int32), .int x4, .int r7]) (rest := []) ⟨hx, hb, hml, hown, hts⟩ (k_M_put l dC dI o cI H.size F7 A7 (2 : Int32) x4 r7 r9 F9 A9 hc) (cw_V 3 hts mw_652 mw_654 ms_M_put mw_5 mw_655 rfl rfl rfl hd_M_put ⟨Nat.le_of_ble_eq_true rfl, Nat.le_of_ble_eq_true rfl⟩) (cc_preV hK hP hD rfl (q0 := 0) rfl) rfl rfl hl.1 rfl (lv_room (Nat.le_of_ble_eq_true rfl)) d_M_dot_77 ⟨Nat.zero_le _, Nat.zero_le _⟩) hD hS hA (fun H locs hP hD hS => ?_)
          refine lv_istore hx hb d_M_dot_80 hl (by decide) rfl (fun ls hl => ?_)
          have hl : lv_has ls 7 [(4, .int r9), (6, .int r7), (0, .ref (o 0)), (1, .int x1), (2, .int x2), (3, .int x3), (5, .int x5)] := hl
          refine lv_iinc (k := 6) (v := (x5 + (1 : Int32))) hx hb d_M_dot_82 hl rfl (by rfl) (by decide) rfl (fun ls hl => ?_)
          have hl : lv_has ls 7 [(5, .int (x5 + (1 : Int32))), (4, .int r9), (6, .int r7), (0, .ref (o 0)), (1, .int x1), (2, .int x2), (3, .int x3)] := hl
          refine lv_goto (tgt := 34) hx hb d_M_dot_85 (by decide) ?_
          have hl : lv_has ls 7 [(0, .ref (o 0)), (1, .int x1), (2, .int x2), (3, .int x3), (4, .int r9), (5, .int (x5 + (1 : Int32)))] := lv_sub hl [3, 4, 5, 6, 1, 0] rfl
          exact ih x1 x2 x3 r9 (x5 + (1 : Int32)) F9 A9 _ _ _ hl hP hD hS hf
        · rw [if_pos h63_8] at hf
          refine lv_iload hx hb d_M_dot_66 (lv_at hl 0 rfl) ?_
          refine lv_goto (tgt := 80) hx hb d_M_dot_68 (by decide) ?_
          refine lv_istore hx hb d_M_dot_80 hl (by decide) rfl (fun ls hl => ?_)
          have hl : lv_has ls 7 [(4, .int r7), (6, .int r7), (0, .ref (o 0)), (1, .int x1), (2, .int x2), (3, .int x3), (5, .int x5)] := hl
          refine lv_iinc (k := 6) (v := (x5 + (1 : Int32))) hx hb d_M_dot_82 hl rfl (by rfl) (by decide) rfl (fun ls hl => ?_)
          have hl : lv_has ls 7 [(5, .int (x5 + (1 : Int32))), (4, .int r7), (6, .int r7), (0, .ref (o 0)), (1, .int x1), (2, .int x2), (3, .int x3)] := hl
          refine lv_goto (tgt := 34) hx hb d_M_dot_85 (by decide) ?_
          have hl : lv_has ls 7 [(0, .ref (o 0)), (1, .int x1), (2, .int x2), (3, .int x3), (4, .int r7), (5, .int (x5 + (1 : Int32)))] := lv_sub hl [3, 4, 5, 6, 1, 0] rfl
          exact ih x1 x2 x3 r7 (x5 + (1 : Int32)) F7 A7 _ _ _ hl hP hD hS hf
  rw [lg_entry_eq]
  generalize (lg_sl (([.ref (o 0), .int u1, .int u2] : List Value)) ++ List.replicate (7 - (lg_sl (([.ref (o 0), .int u1, .int u2] : List Value))).length) Slot.unset).toArray = ls at hl ⊢
  have hl : lv_has ls 7 [(0, .ref (o 0)), (1, .int u1), (2, .int u2)] := hl
  unfold f_M_dot at hf
  refine lv_aload_n hx hb d_M_dot_0 rfl (lv_at hl 0 rfl) ?_
  refine va_get (D := (dC, dI)) (ci := 4) (v := .ref (o 12)) (C := R_M) (T := T_M) (N := 29) hx hb hts in_M hown hK hP 0 rfl rfl 18 (by decide) (hts _ mw_521) (fun _ h9 => h9) rfl d_M_dot_1 ?_
  refine lv_iload_n hx hb d_M_dot_4 rfl (lv_at hl 1 rfl) ?_
  obtain ⟨hi, hf⟩ := ra_g_some hf
  refine va_iald hx hb hK hP 12 0 rfl rfl hi d_M_dot_5 ?_
  refine lv_istore_n hx hb d_M_dot_6 rfl hl (by decide) rfl (fun ls hl => ?_)
  have hl : lv_has ls 7 [(3, .int ((Aa 11) u1.toNatClampNeg)), (0, .ref (o 0)), (1, .int u1), (2, .int u2)] := hl
  refine lv_iload_n hx hb d_M_dot_7 rfl (lv_at hl 0 rfl) ?_
  refine lv_aload_n hx hb d_M_dot_8 rfl (lv_at hl 1 rfl) ?_
  refine va_get (D := (dC, dI)) (ci := 4) (v := .ref (o 12)) (C := R_M) (T := T_M) (N := 29) hx hb hts in_M hown hK hP 0 rfl rfl 18 (by decide) (hts _ mw_521) (fun _ h9 => h9) rfl d_M_dot_9 ?_
  refine lv_iload_n hx hb d_M_dot_12 rfl (lv_at hl 3 rfl) ?_
  obtain ⟨hi, hf⟩ := ra_g_some hf
  refine va_iald hx hb hK hP 12 0 rfl rfl hi d_M_dot_13 ?_
  refine lv_icmp_ne (tgt := 22) hx hb d_M_dot_14 (by decide) (fun h14_1 => ?_) (fun h14_1 => ?_)
  · rw [if_neg h14_1] at hf
    refine lv_aload_n hx hb d_M_dot_22 rfl (lv_at hl 1 rfl) ?_
    refine lv_iconst (v := 1) hx hb d_M_dot_23 (by decide) ?_
    refine va_put (D := (dC, dI)) (ci := 4) (v := .int (1 : Int32)) (ty := .boolean) (C := R_M) (T := T_M) (N := 29) hx hb hts in_M ty_M ty_M_ok nm_M hown hK hP hD hS 0 rfl rfl 16 (by decide) (hts _ mw_519) (fun _ h9 => h9) rfl (by decide +kernel) rfl rfl (Nat.le_of_ble_eq_true rfl) d_M_dot_24 (fun H locs hP hD hS => ?_)
    have hP : va_P (dC, dI) vC [((o 0), .inr (4, [.int (Fa 0), .int (Fa 1), .ref (o 1), .int (Fa 2), .ref (o 2), .ref (o 3), .ref (o 4), .ref (o 5), .ref (o 6), .int (Fa 3), .ref (o 7), .ref (o 8), .ref (o 9), .ref (o 10), .ref (o 11), .int (Fa 4), .int (1 : Int32), .int (Fa 6), .ref (o 12), .ref (o 13), .int (Fa 7), .ref (o 14), .ref (o 15), .int (Fa 8), .int (Fa 9), .ref (o 16), .ref (o 17), .ref (o 18), .ref (o 19)])), ((o 1), .inl (cI, 160, .inl (Aa 0))), ((o 2), .inl (cI, 100, .inl (Aa 1))), ((o 3), .inl (cI, 100, .inl (Aa 2))), ((o 4), .inl (cI, 100, .inl (Aa 3))), ((o 5), .inl (cI, 3, .inl (Aa 4))), ((o 6), .inl (cI, 26, .inl (Aa 5))), ((o 7), .inl (cI, 100, .inl (Aa 6))), ((o 8), .inl (cI, 100, .inl (Aa 7))), ((o 9), .inl (cI, 100, .inl (Aa 8))), ((o 10), .inl (cI, 26, .inl (Aa 9))), ((o 11), .inl (cI, 104, .inl (Aa 10))), ((o 12), .inl (cI, 80, .inl (Aa 11))), ((o 13), .inl (cI, 320, .inl (Aa 12))), ((o 14), .inl (cI, 200, .inl (Aa 13))), ((o 15), .inl (cI, 200, .inl (Aa 14))), ((o 16), .inl (cI, 4, .inl (Aa 15))), ((o 17), .inl (cI, 32, .inl (Aa 16))), ((o 18), .inl (cI, 32, .inl (Aa 17))), ((o 19), .inl (cI, 100, .inl (Aa 18)))] H := hP
    have hD : va_D (va_A (wM o cI Fa Aa) s.heap.size) [((o 0), .inr (4, [.int (Fa 0), .int (Fa 1), .ref (o 1), .int (Fa 2), .ref (o 2), .ref (o 3), .ref (o 4), .ref (o 5), .ref (o 6), .int (Fa 3), .ref (o 7), .ref (o 8), .ref (o 9), .ref (o 10), .ref (o 11), .int (Fa 4), .int (1 : Int32), .int (Fa 6), .ref (o 12), .ref (o 13), .int (Fa 7), .ref (o 14), .ref (o 15), .int (Fa 8), .int (Fa 9), .ref (o 16), .ref (o 17), .ref (o 18), .ref (o 19)])), ((o 1), .inl (cI, 160, .inl (Aa 0))), ((o 2), .inl (cI, 100, .inl (Aa 1))), ((o 3), .inl (cI, 100, .inl (Aa 2))), ((o 4), .inl (cI, 100, .inl (Aa 3))), ((o 5), .inl (cI, 3, .inl (Aa 4))), ((o 6), .inl (cI, 26, .inl (Aa 5))), ((o 7), .inl (cI, 100, .inl (Aa 6))), ((o 8), .inl (cI, 100, .inl (Aa 7))), ((o 9), .inl (cI, 100, .inl (Aa 8))), ((o 10), .inl (cI, 26, .inl (Aa 9))), ((o 11), .inl (cI, 104, .inl (Aa 10))), ((o 12), .inl (cI, 80, .inl (Aa 11))), ((o 13), .inl (cI, 320, .inl (Aa 12))), ((o 14), .inl (cI, 200, .inl (Aa 13))), ((o 15), .inl (cI, 200, .inl (Aa 14))), ((o 16), .inl (cI, 4, .inl (Aa 15))), ((o 17), .inl (cI, 32, .inl (Aa 16))), ((o 18), .inl (cI, 32, .inl (Aa 17))), ((o 19), .inl (cI, 100, .inl (Aa 18)))] := hD
    cases hf
    exact W.vret hx hb hr (fun t ht hW => ⟨⟨(), rfl, trivial, by rw [ht]; exact hP, va_K.moved hW.alike hK, hD⟩, hS.F ht⟩) hS.2.2 d_M_dot_27
  · rw [if_pos h14_1] at hf
    refine lv_iload_n hx hb d_M_dot_17 rfl (lv_at hl 0 rfl) ?_
    refine lv_iconst (v := 3) hx hb d_M_dot_18 (by decide) ?_
    refine lv_icmp_le (tgt := 28) hx hb d_M_dot_19 (by decide) (fun h19_2 => ?_) (fun h19_2 => ?_)
    · rw [if_pos h19_2] at hf
      refine lv_iconst (v := 0) hx hb d_M_dot_28 (by decide) ?_
      refine lv_istore hx hb d_M_dot_29 hl (by decide) rfl (fun ls hl => ?_)
      have hl : lv_has ls 7 [(4, .int (0 : Int32)), (3, .int ((Aa 11) u1.toNatClampNeg)), (0, .ref (o 0)), (1, .int u1), (2, .int u2)] := hl
      refine lv_iconst (v := 0) hx hb d_M_dot_31 (by decide) ?_
      refine lv_istore hx hb d_M_dot_32 hl (by decide) rfl (fun ls hl => ?_)
      have hl : lv_has ls 7 [(5, .int (0 : Int32)), (4, .int (0 : Int32)), (3, .int ((Aa 11) u1.toNatClampNeg)), (0, .ref (o 0)), (1, .int u1), (2, .int u2)] := hl
      have hl : lv_has ls 7 [(0, .ref (o 0)), (1, .int u1), (2, .int u2), (3, .int ((Aa 11) u1.toNatClampNeg)), (4, .int (0 : Int32)), (5, .int (0 : Int32))] := lv_sub hl [3, 4, 5, 2, 1, 0] rfl
      exact L34 400 u1 u2 ((Aa 11) u1.toNatClampNeg) (0 : Int32) (0 : Int32) Fa Aa _ _ _ hl hP hD hS hf
    · rw [if_neg h19_2] at hf
      refine lv_aload_n hx hb d_M_dot_22 rfl (lv_at hl 1 rfl) ?_
      refine lv_iconst (v := 1) hx hb d_M_dot_23 (by decide) ?_
      refine va_put (D := (dC, dI)) (ci := 4) (v := .int (1 : Int32)) (ty := .boolean) (C := R_M) (T := T_M) (N := 29) hx hb hts in_M ty_M ty_M_ok nm_M hown hK hP hD hS 0 rfl rfl 16 (by decide) (hts _ mw_519) (fun _ h9 => h9) rfl (by decide +kernel) rfl rfl (Nat.le_of_ble_eq_true rfl) d_M_dot_24 (fun H locs hP hD hS => ?_)
      have hP : va_P (dC, dI) vC [((o 0), .inr (4, [.int (Fa 0), .int (Fa 1), .ref (o 1), .int (Fa 2), .ref (o 2), .ref (o 3), .ref (o 4), .ref (o 5), .ref (o 6), .int (Fa 3), .ref (o 7), .ref (o 8), .ref (o 9), .ref (o 10), .ref (o 11), .int (Fa 4), .int (1 : Int32), .int (Fa 6), .ref (o 12), .ref (o 13), .int (Fa 7), .ref (o 14), .ref (o 15), .int (Fa 8), .int (Fa 9), .ref (o 16), .ref (o 17), .ref (o 18), .ref (o 19)])), ((o 1), .inl (cI, 160, .inl (Aa 0))), ((o 2), .inl (cI, 100, .inl (Aa 1))), ((o 3), .inl (cI, 100, .inl (Aa 2))), ((o 4), .inl (cI, 100, .inl (Aa 3))), ((o 5), .inl (cI, 3, .inl (Aa 4))), ((o 6), .inl (cI, 26, .inl (Aa 5))), ((o 7), .inl (cI, 100, .inl (Aa 6))), ((o 8), .inl (cI, 100, .inl (Aa 7))), ((o 9), .inl (cI, 100, .inl (Aa 8))), ((o 10), .inl (cI, 26, .inl (Aa 9))), ((o 11), .inl (cI, 104, .inl (Aa 10))), ((o 12), .inl (cI, 80, .inl (Aa 11))), ((o 13), .inl (cI, 320, .inl (Aa 12))), ((o 14), .inl (cI, 200, .inl (Aa 13))), ((o 15), .inl (cI, 200, .inl (Aa 14))), ((o 16), .inl (cI, 4, .inl (Aa 15))), ((o 17), .inl (cI, 32, .inl (Aa 16))), ((o 18), .inl (cI, 32, .inl (Aa 17))), ((o 19), .inl (cI, 100, .inl (Aa 18)))] H := hP
      have hD : va_D (va_A (wM o cI Fa Aa) s.heap.size) [((o 0), .inr (4, [.int (Fa 0), .int (Fa 1), .ref (o 1), .int (Fa 2), .ref (o 2), .ref (o 3), .ref (o 4), .ref (o 5), .ref (o 6), .int (Fa 3), .ref (o 7), .ref (o 8), .ref (o 9), .ref (o 10), .ref (o 11), .int (Fa 4), .int (1 : Int32), .int (Fa 6), .ref (o 12), .ref (o 13), .int (Fa 7), .ref (o 14), .ref (o 15), .int (Fa 8), .int (Fa 9), .ref (o 16), .ref (o 17), .ref (o 18), .ref (o 19)])), ((o 1), .inl (cI, 160, .inl (Aa 0))), ((o 2), .inl (cI, 100, .inl (Aa 1))), ((o 3), .inl (cI, 100, .inl (Aa 2))), ((o 4), .inl (cI, 100, .inl (Aa 3))), ((o 5), .inl (cI, 3, .inl (Aa 4))), ((o 6), .inl (cI, 26, .inl (Aa 5))), ((o 7), .inl (cI, 100, .inl (Aa 6))), ((o 8), .inl (cI, 100, .inl (Aa 7))), ((o 9), .inl (cI, 100, .inl (Aa 8))), ((o 10), .inl (cI, 26, .inl (Aa 9))), ((o 11), .inl (cI, 104, .inl (Aa 10))), ((o 12), .inl (cI, 80, .inl (Aa 11))), ((o 13), .inl (cI, 320, .inl (Aa 12))), ((o 14), .inl (cI, 200, .inl (Aa 13))), ((o 15), .inl (cI, 200, .inl (Aa 14))), ((o 16), .inl (cI, 4, .inl (Aa 15))), ((o 17), .inl (cI, 32, .inl (Aa 16))), ((o 18), .inl (cI, 32, .inl (Aa 17))), ((o 19), .inl (cI, 100, .inl (Aa 18)))] := hD
      cases hf
      exact W.vret hx hb hr (fun t ht hW => ⟨⟨(), rfl, trivial, by rw [ht]; exact hP, va_K.moved hW.alike hK, hD⟩, hS.F ht⟩) hS.2.2 d_M_dot_27
def f_M_matrix_L28 : Nat → Int32 → Int32 → Int32 → ST_F → ST_A → Option (ST_F × ST_A)
  | 0, _, _, _, _, _ => none
  | n + 1, x1, x2, x3, F, A => if (4 : Int32) ≤ x3 then (ra_bv (f_M_pushMade (4 : Int32) (upd F 6 x1) A) (fun F4 A4 => some (F4, A4))) else (if (2 : Int32) ≤ x3 then (ra_bi (f_M_number x2 (x3 - x3 / (2 : Int32) * (2 : Int32)) F A) (fun r6 F6 A6 => ra_g x3 4 (f_M_matrix_L28 n x1 x2 (x3 + (1 : Int32)) F6 (va_up A6 15 (upd (A6 15) x3.toNatClampNeg r6))))) else (ra_bi (f_M_number x1 (x3 - x3 / (2 : Int32) * (2 : Int32)) F A) (fun r7 F7 A7 => ra_g x3 4 (f_M_matrix_L28 n x1 x2 (x3 + (1 : Int32)) F7 (va_up A7 15 (upd (A7 15) x3.toNatClampNeg r7))))))
def f_M_matrix (u1 : Int32) (u2 : Int32) (Fa : ST_F) (Aa : ST_A) : Option (ST_F × ST_A) := ra_g u1 80 (if ((Aa 11) u1.toNatClampNeg) = (2 : Int32) then (ra_g u2 80 (if ((Aa 11) u2.toNatClampNeg) = (2 : Int32) then (f_M_matrix_L28 400 u1 u2 (0 : Int32) Fa Aa) else (some ((upd Fa 5 (1 : Int32)), Aa)))) else (some ((upd Fa 5 (1 : Int32)), Aa)))
set_option maxHeartbeats 4000000 in
set_option maxRecDepth 100000 in
theorem k_M_matrix (l : Launch) (dC : Nat → ClassId) (dI : Nat → Nat → Nat) (o : Nat → Nat) (cI : ClassId) (sz : Nat) (Fa : ST_F) (Aa : ST_A) (u1 : Int32) (u2 : Int32) (F9 : ST_F) (A9 : ST_A) (hf : f_M_matrix u1 u2 Fa Aa = some (F9, A9)) : cc_MetV l y_M_matrix (Cond.code y_M_matrix b_M_matrix 4 none :: wA) ({ frames := 2, cells := 0, slots := 0, locals := 43 } : Room) (dC, dI) vC [(cI, .int)] ([.ref (o 0), .int u1, .int u2] : List Value) (wM o cI Fa Aa) sz (wM o cI F9 A9) := by
  refine Met.ofW (cc := b_M_matrix) (maxL := 4) (ret := none) (by decide) rfl ?_
  intro p e s m args below meth c s₁ B hml hv
  obtain ⟨rfl, hsz, hP, hK, hD0⟩ := hv
  have hx := B.exec
  have hb := B.bytes
  have hr := B.returns
  have hts := fun w h => atoms_spec (ws := (Cond.code y_M_matrix b_M_matrix 4 none :: wA)) B.pre w (List.mem_cons_of_mem _ h)
  have hown : s.vm.findClass R_M = some m.cls := findClass_of_methodNamed B.named
  have hlocks := B.notSynchronized
  subst hsz
  have hD := hD0.self (sz := s.heap.size)
  have hA : ∀ q : Nat, s.heap.size ≤ q → va_A (wM o cI Fa Aa) s.heap.size q := fun q h => Or.inr h
  have hS : va_S (va_A (wM o cI Fa Aa) s.heap.size) s.heap s.heap [] := va_S.rf
  have hl := lv_entry (([.ref (o 0), .int u1, .int u2] : List Value)) (n := 4) (Nat.le_of_ble_eq_true rfl)
  have L28 : ∀ (n : Nat) (x1 : Int32) (x2 : Int32) (x3 : Int32) (F : ST_F) (A : ST_A) (H : Heap) (locs : List Loc) (ls : Array Slot), lv_has ls 4 [(0, .ref (o 0)), (1, .int x1), (2, .int x2), (3, .int x3)] → va_P (dC, dI) vC (wM o cI F A) H → va_D (va_A (wM o cI Fa Aa) s.heap.size) (wM o cI F A) → va_S (va_A (wM o cI Fa Aa) s.heap.size) s.heap H locs → f_M_matrix_L28 n x1 x2 x3 F A = some (F9, A9) → W p l e (headSpec (Cond.code y_M_matrix b_M_matrix 4 none :: wA) ({ frames := 2, cells := 0, slots := 0, locals := 43 } : Room)).room s m ([.ref (o 0), .int u1, .int u2] : List Value).toArray below meth c H locs 0 0 (MQ below (cc_Qv (dC, dI) vC [(cI, .int)] (wM o cI Fa Aa) s.heap.size (wM o cI F9 A9)) ([.ref (o 0), .int u1, .int u2] : List Value).toArray s 0 0 (va_A (wM o cI Fa Aa) s.heap.size)) (F0 m 28 ls []) := by
    intro n
    induction n with
    | zero => intro x1 x2 x3 F A H locs ls hl hP hD hS hf; cases hf
    | succ n ih =>
      intro x1 x2 x3 F A H locs ls hl hP hD hS hf
      rw [f_M_matrix_L28] at hf
      refine lv_iload_n hx hb d_M_matrix_28 rfl (lv_at hl 3 rfl) ?_
      refine lv_iconst (v := 4) hx hb d_M_matrix_29 (by decide) ?_
      refine lv_icmp_ge (tgt := 62) hx hb d_M_matrix_30 (by decide) (fun h30_3 => ?_) (fun h30_3 => ?_)
      · rw [if_pos h30_3] at hf
        refine lv_aload_n hx hb d_M_matrix_62 rfl (lv_at hl 0 rfl) ?_
        refine lv_iload_n hx hb d_M_matrix_63 rfl (lv_at hl 1 rfl) ?_
        refine va_put (D := (dC, dI)) (ci := 4) (v := .int x1) (ty := .int) (C := R_M) (T := T_M) (N := 29) hx hb hts in_M ty_M ty_M_ok nm_M hown hK hP hD hS 0 rfl rfl 17 (by decide) (hts _ mw_520) (fun _ h9 => h9) rfl (by decide +kernel) rfl rfl (Nat.le_of_ble_eq_true rfl) d_M_matrix_64 (fun H locs hP hD hS => ?_)
        have hP : va_P (dC, dI) vC [((o 0), .inr (4, [.int (F 0), .int (F 1), .ref (o 1), .int (F 2), .ref (o 2), .ref (o 3), .ref (o 4), .ref (o 5), .ref (o 6), .int (F 3), .ref (o 7), .ref (o 8), .ref (o 9), .ref (o 10), .ref (o 11), .int (F 4), .int (F 5), .int x1, .ref (o 12), .ref (o 13), .int (F 7), .ref (o 14), .ref (o 15), .int (F 8), .int (F 9), .ref (o 16), .ref (o 17), .ref (o 18), .ref (o 19)])), ((o 1), .inl (cI, 160, .inl (A 0))), ((o 2), .inl (cI, 100, .inl (A 1))), ((o 3), .inl (cI, 100, .inl (A 2))), ((o 4), .inl (cI, 100, .inl (A 3))), ((o 5), .inl (cI, 3, .inl (A 4))), ((o 6), .inl (cI, 26, .inl (A 5))), ((o 7), .inl (cI, 100, .inl (A 6))), ((o 8), .inl (cI, 100, .inl (A 7))), ((o 9), .inl (cI, 100, .inl (A 8))), ((o 10), .inl (cI, 26, .inl (A 9))), ((o 11), .inl (cI, 104, .inl (A 10))), ((o 12), .inl (cI, 80, .inl (A 11))), ((o 13), .inl (cI, 320, .inl (A 12))), ((o 14), .inl (cI, 200, .inl (A 13))), ((o 15), .inl (cI, 200, .inl (A 14))), ((o 16), .inl (cI, 4, .inl (A 15))), ((o 17), .inl (cI, 32, .inl (A 16))), ((o 18), .inl (cI, 32, .inl (A 17))), ((o 19), .inl (cI, 100, .inl (A 18)))] H := hP
        have hD : va_D (va_A (wM o cI Fa Aa) s.heap.size) [((o 0), .inr (4, [.int (F 0), .int (F 1), .ref (o 1), .int (F 2), .ref (o 2), .ref (o 3), .ref (o 4), .ref (o 5), .ref (o 6), .int (F 3), .ref (o 7), .ref (o 8), .ref (o 9), .ref (o 10), .ref (o 11), .int (F 4), .int (F 5), .int x1, .ref (o 12), .ref (o 13), .int (F 7), .ref (o 14), .ref (o 15), .int (F 8), .int (F 9), .ref (o 16), .ref (o 17), .ref (o 18), .ref (o 19)])), ((o 1), .inl (cI, 160, .inl (A 0))), ((o 2), .inl (cI, 100, .inl (A 1))), ((o 3), .inl (cI, 100, .inl (A 2))), ((o 4), .inl (cI, 100, .inl (A 3))), ((o 5), .inl (cI, 3, .inl (A 4))), ((o 6), .inl (cI, 26, .inl (A 5))), ((o 7), .inl (cI, 100, .inl (A 6))), ((o 8), .inl (cI, 100, .inl (A 7))), ((o 9), .inl (cI, 100, .inl (A 8))), ((o 10), .inl (cI, 26, .inl (A 9))), ((o 11), .inl (cI, 104, .inl (A 10))), ((o 12), .inl (cI, 80, .inl (A 11))), ((o 13), .inl (cI, 320, .inl (A 12))), ((o 14), .inl (cI, 200, .inl (A 13))), ((o 15), .inl (cI, 200, .inl (A 14))), ((o 16), .inl (cI, 4, .inl (A 15))), ((o 17), .inl (cI, 32, .inl (A 16))), ((o 18), .inl (cI, 32, .inl (A 17))), ((o 19), .inl (cI, 100, .inl (A 18)))] := hD
        refine lv_aload_n hx hb d_M_matrix_67 rfl (lv_at hl 0 rfl) ?_
        refine lv_iconst (v := 4) hx hb d_M_matrix_68 (by decide) ?_
        have hP : va_P (dC, dI) vC (wM o cI (upd F 6 x1) A) H := hP
        have hD : va_D (va_A (wM o cI Fa Aa) s.heap.size) (wM o cI (upd F 6 x1) A) := hD
        obtain ⟨F4, A4, hc, hf⟩ := ra_bv_some hf
        refine cc_callv (va_runV (As := [.int (4 : Int32)]) (rest := []) ⟨hx, hb, hml, hown, hts⟩ (k_M_pushMade l dC dI o cI H.size (upd F 6 x1) A (4 : Int32) F4 A4 hc) (cw_V 1 hts mw_656 mw_658 ms_M_pushMade mw_5 mw_659 rfl rfl rfl hd_M_pushMade ⟨Nat.le_of_ble_eq_true rfl, Nat.le_of_ble_eq_true rfl⟩) (cc_preV hK hP hD rfl (q0 := 0) rfl) rfl rfl hl.1 rfl (lv_room (Nat.le_of_ble_eq_true rfl)) d_M_matrix_69 ⟨Nat.zero_le _, Nat.zero_le _⟩) hD hS hA (fun H locs hP hD hS => ?_)
        cases hf
        exact W.vret hx hb hr (fun t ht hW => ⟨⟨(), rfl, trivial, by rw [ht]; exact hP, va_K.moved hW.alike hK, hD⟩, hS.F ht⟩) hS.2.2 d_M_matrix_72
      · rw [if_neg h30_3] at hf
        refine lv_aload_n hx hb d_M_matrix_33 rfl (lv_at hl 0 rfl) ?_
        refine va_get (D := (dC, dI)) (ci := 4) (v := .ref (o 16)) (C := R_M) (T := T_M) (N := 29) hx hb hts in_M hown hK hP 0 rfl rfl 25 (by decide) (hts _ mw_528) (fun _ h9 => h9) rfl d_M_matrix_34 ?_
        refine lv_iload_n hx hb d_M_matrix_37 rfl (lv_at hl 3 rfl) ?_
        refine lv_aload_n hx hb d_M_matrix_38 rfl (lv_at hl 0 rfl) ?_
        refine lv_iload_n hx hb d_M_matrix_39 rfl (lv_at hl 3 rfl) ?_
        refine lv_iconst (v := 2) hx hb d_M_matrix_40 (by decide) ?_
        refine lv_icmp_ge (tgt := 48) hx hb d_M_matrix_41 (by decide) (fun h41_5 => ?_) (fun h41_5 => ?_)
        · rw [if_pos h41_5] at hf
          refine lv_iload_n hx hb d_M_matrix_48 rfl (lv_at hl 2 rfl) ?_
          refine lv_iload_n hx hb d_M_matrix_49 rfl (lv_at hl 3 rfl) ?_
          refine lv_iconst (v := 2) hx hb d_M_matrix_50 (by decide) ?_
          refine lv_irem hx hb d_M_matrix_51 (by decide) ?_
          have hP : va_P (dC, dI) vC (wM o cI F A) H := hP
          have hD : va_D (va_A (wM o cI Fa Aa) s.heap.size) (wM o cI F A) := hD
          obtain ⟨r6, F6, A6, hc, hf⟩ := ra_bi_some hf
          refine cc_calli (va_runV (As := [.int x2, .int (x3 - x3 / (2 : Int32) * (2 : Int32))]) (rest := [.int x3, .ref (o 16)]) ⟨hx, hb, hml, hown, hts⟩ (k_M_number l dC dI o cI H.size F A x2 (x3 - x3 / (2 : Int32) * (2 : Int32)) r6 F6 A6 hc) (cw_V 2 hts mw_648 mw_650 ms_M_number mw_5 mw_651 rfl rfl rfl hd_M_number ⟨Nat.le_of_ble_eq_true rfl, Nat.le_of_ble_eq_true rfl⟩) (cc_preV hK hP hD rfl (q0 := 0) rfl) rfl rfl hl.1 rfl (lv_room (Nat.le_of_ble_eq_true rfl)) d_M_matrix_52 ⟨Nat.zero_le _, Nat.zero_le _⟩) hD hS hA (fun H locs hP hD hS => ?_)
          obtain ⟨hi, hf⟩ := ra_g_some hf
          refine va_iast hx hb hK hP hD hS 16 0 rfl rfl hi d_M_matrix_55 (fun H locs hP hD hS => ?_)
          have hP : va_P (dC, dI) vC [((o 0), .inr (4, [.int (F6 0), .int (F6 1), .ref (o 1), .int (F6 2), .ref (o 2), .ref (o 3), .ref (o 4), .ref (o 5), .ref (o 6), .int (F6 3), .ref (o 7), .ref (o 8), .ref (o 9), .ref (o 10), .ref (o 11), .int (F6 4), .int (F6 5), .int (F6 6), .ref (o 12), .ref (o 13), .int (F6 7), .ref (o 14), .ref (o 15), .int (F6 8), .int (F6 9), .ref (o 16), .ref (o 17), .ref (o 18), .ref (o 19)])), ((o 1), .inl (cI, 160, .inl (A6 0))), ((o 2), .inl (cI, 100, .inl (A6 1))), ((o 3), .inl (cI, 100, .inl (A6 2))), ((o 4), .inl (cI, 100, .inl (A6 3))), ((o 5), .inl (cI, 3, .inl (A6 4))), ((o 6), .inl (cI, 26, .inl (A6 5))), ((o 7), .inl (cI, 100, .inl (A6 6))), ((o 8), .inl (cI, 100, .inl (A6 7))), ((o 9), .inl (cI, 100, .inl (A6 8))), ((o 10), .inl (cI, 26, .inl (A6 9))), ((o 11), .inl (cI, 104, .inl (A6 10))), ((o 12), .inl (cI, 80, .inl (A6 11))), ((o 13), .inl (cI, 320, .inl (A6 12))), ((o 14), .inl (cI, 200, .inl (A6 13))), ((o 15), .inl (cI, 200, .inl (A6 14))), ((o 16), .inl (cI, 4, .inl (upd (A6 15) x3.toNatClampNeg r6))), ((o 17), .inl (cI, 32, .inl (A6 16))), ((o 18), .inl (cI, 32, .inl (A6 17))), ((o 19), .inl (cI, 100, .inl (A6 18)))] H := hP
          have hD : va_D (va_A (wM o cI Fa Aa) s.heap.size) [((o 0), .inr (4, [.int (F6 0), .int (F6 1), .ref (o 1), .int (F6 2), .ref (o 2), .ref (o 3), .ref (o 4), .ref (o 5), .ref (o 6), .int (F6 3), .ref (o 7), .ref (o 8), .ref (o 9), .ref (o 10), .ref (o 11), .int (F6 4), .int (F6 5), .int (F6 6), .ref (o 12), .ref (o 13), .int (F6 7), .ref (o 14), .ref (o 15), .int (F6 8), .int (F6 9), .ref (o 16), .ref (o 17), .ref (o 18), .ref (o 19)])), ((o 1), .inl (cI, 160, .inl (A6 0))), ((o 2), .inl (cI, 100, .inl (A6 1))), ((o 3), .inl (cI, 100, .inl (A6 2))), ((o 4), .inl (cI, 100, .inl (A6 3))), ((o 5), .inl (cI, 3, .inl (A6 4))), ((o 6), .inl (cI, 26, .inl (A6 5))), ((o 7), .inl (cI, 100, .inl (A6 6))), ((o 8), .inl (cI, 100, .inl (A6 7))), ((o 9), .inl (cI, 100, .inl (A6 8))), ((o 10), .inl (cI, 26, .inl (A6 9))), ((o 11), .inl (cI, 104, .inl (A6 10))), ((o 12), .inl (cI, 80, .inl (A6 11))), ((o 13), .inl (cI, 320, .inl (A6 12))), ((o 14), .inl (cI, 200, .inl (A6 13))), ((o 15), .inl (cI, 200, .inl (A6 14))), ((o 16), .inl (cI, 4, .inl (upd (A6 15) x3.toNatClampNeg r6))), ((o 17), .inl (cI, 32, .inl (A6 16))), ((o 18), .inl (cI, 32, .inl (A6 17))), ((o 19), .inl (cI, 100, .inl (A6 18)))] := hD
          refine lv_iinc (k := 3) (v := (x3 + (1 : Int32))) hx hb d_M_matrix_56 hl rfl (by rfl) (by decide) rfl (fun ls hl => ?_)
          have hl : lv_has ls 4 [(3, .int (x3 + (1 : Int32))), (0, .ref (o 0)), (1, .int x1), (2, .int x2)] := hl
          refine lv_goto (tgt := 28) hx hb d_M_matrix_59 (by decide) ?_
          have hl : lv_has ls 4 [(0, .ref (o 0)), (1, .int x1), (2, .int x2), (3, .int (x3 + (1 : Int32)))] := lv_sub hl [1, 2, 3, 0] rfl
          exact ih x1 x2 (x3 + (1 : Int32)) F6 (va_up A6 15 (upd (A6 15) x3.toNatClampNeg r6)) _ _ _ hl hP hD hS hf
        · rw [if_neg h41_5] at hf
          refine lv_iload_n hx hb d_M_matrix_44 rfl (lv_at hl 1 rfl) ?_
          refine lv_goto (tgt := 49) hx hb d_M_matrix_45 (by decide) ?_
          refine lv_iload_n hx hb d_M_matrix_49 rfl (lv_at hl 3 rfl) ?_
          refine lv_iconst (v := 2) hx hb d_M_matrix_50 (by decide) ?_
          refine lv_irem hx hb d_M_matrix_51 (by decide) ?_
          have hP : va_P (dC, dI) vC (wM o cI F A) H := hP
          have hD : va_D (va_A (wM o cI Fa Aa) s.heap.size) (wM o cI F A) := hD
          obtain ⟨r7, F7, A7, hc, hf⟩ := ra_bi_some hf
          refine cc_calli (va_runV (As := [.int x1, .int (x3 - x3 / (2 : Int32) * (2 : Int32))]) (rest := [.int x3, .ref (o 16)]) ⟨hx, hb, hml, hown, hts⟩ (k_M_number l dC dI o cI H.size F A x1 (x3 - x3 / (2 : Int32) * (2 : Int32)) r7 F7 A7 hc) (cw_V 2 hts mw_648 mw_650 ms_M_number mw_5 mw_651 rfl rfl rfl hd_M_number ⟨Nat.le_of_ble_eq_true rfl, Nat.le_of_ble_eq_true rfl⟩) (cc_preV hK hP hD rfl (q0 := 0) rfl) rfl rfl hl.1 rfl (lv_room (Nat.le_of_ble_eq_true rfl)) d_M_matrix_52 ⟨Nat.zero_le _, Nat.zero_le _⟩) hD hS hA (fun H locs hP hD hS => ?_)
          obtain ⟨hi, hf⟩ := ra_g_some hf
          refine va_iast hx hb hK hP hD hS 16 0 rfl rfl hi d_M_matrix_55 (fun H locs hP hD hS => ?_)
          have hP : va_P (dC, dI) vC [((o 0), .inr (4, [.int (F7 0), .int (F7 1), .ref (o 1), .int (F7 2), .ref (o 2), .ref (o 3), .ref (o 4), .ref (o 5), .ref (o 6), .int (F7 3), .ref (o 7), .ref (o 8), .ref (o 9), .ref (o 10), .ref (o 11), .int (F7 4), .int (F7 5), .int (F7 6), .ref (o 12), .ref (o 13), .int (F7 7), .ref (o 14), .ref (o 15), .int (F7 8), .int (F7 9), .ref (o 16), .ref (o 17), .ref (o 18), .ref (o 19)])), ((o 1), .inl (cI, 160, .inl (A7 0))), ((o 2), .inl (cI, 100, .inl (A7 1))), ((o 3), .inl (cI, 100, .inl (A7 2))), ((o 4), .inl (cI, 100, .inl (A7 3))), ((o 5), .inl (cI, 3, .inl (A7 4))), ((o 6), .inl (cI, 26, .inl (A7 5))), ((o 7), .inl (cI, 100, .inl (A7 6))), ((o 8), .inl (cI, 100, .inl (A7 7))), ((o 9), .inl (cI, 100, .inl (A7 8))), ((o 10), .inl (cI, 26, .inl (A7 9))), ((o 11), .inl (cI, 104, .inl (A7 10))), ((o 12), .inl (cI, 80, .inl (A7 11))), ((o 13), .inl (cI, 320, .inl (A7 12))), ((o 14), .inl (cI, 200, .inl (A7 13))), ((o 15), .inl (cI, 200, .inl (A7 14))), ((o 16), .inl (cI, 4, .inl (upd (A7 15) x3.toNatClampNeg r7))), ((o 17), .inl (cI, 32, .inl (A7 16))), ((o 18), .inl (cI, 32, .inl (A7 17))), ((o 19), .inl (cI, 100, .inl (A7 18)))] H := hP
          have hD : va_D (va_A (wM o cI Fa Aa) s.heap.size) [((o 0), .inr (4, [.int (F7 0), .int (F7 1), .ref (o 1), .int (F7 2), .ref (o 2), .ref (o 3), .ref (o 4), .ref (o 5), .ref (o 6), .int (F7 3), .ref (o 7), .ref (o 8), .ref (o 9), .ref (o 10), .ref (o 11), .int (F7 4), .int (F7 5), .int (F7 6), .ref (o 12), .ref (o 13), .int (F7 7), .ref (o 14), .ref (o 15), .int (F7 8), .int (F7 9), .ref (o 16), .ref (o 17), .ref (o 18), .ref (o 19)])), ((o 1), .inl (cI, 160, .inl (A7 0))), ((o 2), .inl (cI, 100, .inl (A7 1))), ((o 3), .inl (cI, 100, .inl (A7 2))), ((o 4), .inl (cI, 100, .inl (A7 3))), ((o 5), .inl (cI, 3, .inl (A7 4))), ((o 6), .inl (cI, 26, .inl (A7 5))), ((o 7), .inl (cI, 100, .inl (A7 6))), ((o 8), .inl (cI, 100, .inl (A7 7))), ((o 9), .inl (cI, 100, .inl (A7 8))), ((o 10), .inl (cI, 26, .inl (A7 9))), ((o 11), .inl (cI, 104, .inl (A7 10))), ((o 12), .inl (cI, 80, .inl (A7 11))), ((o 13), .inl (cI, 320, .inl (A7 12))), ((o 14), .inl (cI, 200, .inl (A7 13))), ((o 15), .inl (cI, 200, .inl (A7 14))), ((o 16), .inl (cI, 4, .inl (upd (A7 15) x3.toNatClampNeg r7))), ((o 17), .inl (cI, 32, .inl (A7 16))), ((o 18), .inl (cI, 32, .inl (A7 17))), ((o 19), .inl (cI, 100, .inl (A7 18)))] := hD
          refine lv_iinc (k := 3) (v := (x3 + (1 : Int32))) hx hb d_M_matrix_56 hl rfl (by rfl) (by decide) rfl (fun ls hl => ?_)
          have hl : lv_has ls 4 [(3, .int (x3 + (1 : Int32))), (0, .ref (o 0)), (1, .int x1), (2, .int x2)] := hl
          refine lv_goto (tgt := 28) hx hb d_M_matrix_59 (by decide) ?_
          have hl : lv_has ls 4 [(0, .ref (o 0)), (1, .int x1), (2, .int x2), (3, .int (x3 + (1 : Int32)))] := lv_sub hl [1, 2, 3, 0] rfl
          exact ih x1 x2 (x3 + (1 : Int32)) F7 (va_up A7 15 (upd (A7 15) x3.toNatClampNeg r7)) _ _ _ hl hP hD hS hf
  rw [lg_entry_eq]
  generalize (lg_sl (([.ref (o 0), .int u1, .int u2] : List Value)) ++ List.replicate (4 - (lg_sl (([.ref (o 0), .int u1, .int u2] : List Value))).length) Slot.unset).toArray = ls at hl ⊢
  have hl : lv_has ls 4 [(0, .ref (o 0)), (1, .int u1), (2, .int u2)] := hl
  unfold f_M_matrix at hf
  refine lv_aload_n hx hb d_M_matrix_0 rfl (lv_at hl 0 rfl) ?_
  refine va_get (D := (dC, dI)) (ci := 4) (v := .ref (o 12)) (C := R_M) (T := T_M) (N := 29) hx hb hts in_M hown hK hP 0 rfl rfl 18 (by decide) (hts _ mw_521) (fun _ h9 => h9) rfl d_M_matrix_1 ?_
  refine lv_iload_n hx hb d_M_matrix_4 rfl (lv_at hl 1 rfl) ?_
  obtain ⟨hi, hf⟩ := ra_g_some hf
  refine va_iald hx hb hK hP 12 0 rfl rfl hi d_M_matrix_5 ?_
  refine lv_iconst (v := 2) hx hb d_M_matrix_6 (by decide) ?_
  refine lv_icmp_ne (tgt := 20) hx hb d_M_matrix_7 (by decide) (fun h7_1 => ?_) (fun h7_1 => ?_)
  · rw [if_neg h7_1] at hf
    refine lv_aload_n hx hb d_M_matrix_20 rfl (lv_at hl 0 rfl) ?_
    refine lv_iconst (v := 1) hx hb d_M_matrix_21 (by decide) ?_
    refine va_put (D := (dC, dI)) (ci := 4) (v := .int (1 : Int32)) (ty := .boolean) (C := R_M) (T := T_M) (N := 29) hx hb hts in_M ty_M ty_M_ok nm_M hown hK hP hD hS 0 rfl rfl 16 (by decide) (hts _ mw_519) (fun _ h9 => h9) rfl (by decide +kernel) rfl rfl (Nat.le_of_ble_eq_true rfl) d_M_matrix_22 (fun H locs hP hD hS => ?_)
    have hP : va_P (dC, dI) vC [((o 0), .inr (4, [.int (Fa 0), .int (Fa 1), .ref (o 1), .int (Fa 2), .ref (o 2), .ref (o 3), .ref (o 4), .ref (o 5), .ref (o 6), .int (Fa 3), .ref (o 7), .ref (o 8), .ref (o 9), .ref (o 10), .ref (o 11), .int (Fa 4), .int (1 : Int32), .int (Fa 6), .ref (o 12), .ref (o 13), .int (Fa 7), .ref (o 14), .ref (o 15), .int (Fa 8), .int (Fa 9), .ref (o 16), .ref (o 17), .ref (o 18), .ref (o 19)])), ((o 1), .inl (cI, 160, .inl (Aa 0))), ((o 2), .inl (cI, 100, .inl (Aa 1))), ((o 3), .inl (cI, 100, .inl (Aa 2))), ((o 4), .inl (cI, 100, .inl (Aa 3))), ((o 5), .inl (cI, 3, .inl (Aa 4))), ((o 6), .inl (cI, 26, .inl (Aa 5))), ((o 7), .inl (cI, 100, .inl (Aa 6))), ((o 8), .inl (cI, 100, .inl (Aa 7))), ((o 9), .inl (cI, 100, .inl (Aa 8))), ((o 10), .inl (cI, 26, .inl (Aa 9))), ((o 11), .inl (cI, 104, .inl (Aa 10))), ((o 12), .inl (cI, 80, .inl (Aa 11))), ((o 13), .inl (cI, 320, .inl (Aa 12))), ((o 14), .inl (cI, 200, .inl (Aa 13))), ((o 15), .inl (cI, 200, .inl (Aa 14))), ((o 16), .inl (cI, 4, .inl (Aa 15))), ((o 17), .inl (cI, 32, .inl (Aa 16))), ((o 18), .inl (cI, 32, .inl (Aa 17))), ((o 19), .inl (cI, 100, .inl (Aa 18)))] H := hP
    have hD : va_D (va_A (wM o cI Fa Aa) s.heap.size) [((o 0), .inr (4, [.int (Fa 0), .int (Fa 1), .ref (o 1), .int (Fa 2), .ref (o 2), .ref (o 3), .ref (o 4), .ref (o 5), .ref (o 6), .int (Fa 3), .ref (o 7), .ref (o 8), .ref (o 9), .ref (o 10), .ref (o 11), .int (Fa 4), .int (1 : Int32), .int (Fa 6), .ref (o 12), .ref (o 13), .int (Fa 7), .ref (o 14), .ref (o 15), .int (Fa 8), .int (Fa 9), .ref (o 16), .ref (o 17), .ref (o 18), .ref (o 19)])), ((o 1), .inl (cI, 160, .inl (Aa 0))), ((o 2), .inl (cI, 100, .inl (Aa 1))), ((o 3), .inl (cI, 100, .inl (Aa 2))), ((o 4), .inl (cI, 100, .inl (Aa 3))), ((o 5), .inl (cI, 3, .inl (Aa 4))), ((o 6), .inl (cI, 26, .inl (Aa 5))), ((o 7), .inl (cI, 100, .inl (Aa 6))), ((o 8), .inl (cI, 100, .inl (Aa 7))), ((o 9), .inl (cI, 100, .inl (Aa 8))), ((o 10), .inl (cI, 26, .inl (Aa 9))), ((o 11), .inl (cI, 104, .inl (Aa 10))), ((o 12), .inl (cI, 80, .inl (Aa 11))), ((o 13), .inl (cI, 320, .inl (Aa 12))), ((o 14), .inl (cI, 200, .inl (Aa 13))), ((o 15), .inl (cI, 200, .inl (Aa 14))), ((o 16), .inl (cI, 4, .inl (Aa 15))), ((o 17), .inl (cI, 32, .inl (Aa 16))), ((o 18), .inl (cI, 32, .inl (Aa 17))), ((o 19), .inl (cI, 100, .inl (Aa 18)))] := hD
    cases hf
    exact W.vret hx hb hr (fun t ht hW => ⟨⟨(), rfl, trivial, by rw [ht]; exact hP, va_K.moved hW.alike hK, hD⟩, hS.F ht⟩) hS.2.2 d_M_matrix_25
  · rw [if_pos h7_1] at hf
    refine lv_aload_n hx hb d_M_matrix_10 rfl (lv_at hl 0 rfl) ?_
    refine va_get (D := (dC, dI)) (ci := 4) (v := .ref (o 12)) (C := R_M) (T := T_M) (N := 29) hx hb hts in_M hown hK hP 0 rfl rfl 18 (by decide) (hts _ mw_521) (fun _ h9 => h9) rfl d_M_matrix_11 ?_
    refine lv_iload_n hx hb d_M_matrix_14 rfl (lv_at hl 2 rfl) ?_
    obtain ⟨hi, hf⟩ := ra_g_some hf
    refine va_iald hx hb hK hP 12 0 rfl rfl hi d_M_matrix_15 ?_
    refine lv_iconst (v := 2) hx hb d_M_matrix_16 (by decide) ?_
    refine lv_icmp_eq (tgt := 26) hx hb d_M_matrix_17 (by decide) (fun h17_2 => ?_) (fun h17_2 => ?_)
    · rw [if_pos h17_2] at hf
      refine lv_iconst (v := 0) hx hb d_M_matrix_26 (by decide) ?_
      refine lv_istore_n hx hb d_M_matrix_27 rfl hl (by decide) rfl (fun ls hl => ?_)
      have hl : lv_has ls 4 [(3, .int (0 : Int32)), (0, .ref (o 0)), (1, .int u1), (2, .int u2)] := hl
      have hl : lv_has ls 4 [(0, .ref (o 0)), (1, .int u1), (2, .int u2), (3, .int (0 : Int32))] := lv_sub hl [1, 2, 3, 0] rfl
      exact L28 400 u1 u2 (0 : Int32) Fa Aa _ _ _ hl hP hD hS hf
    · rw [if_neg h17_2] at hf
      refine lv_aload_n hx hb d_M_matrix_20 rfl (lv_at hl 0 rfl) ?_
      refine lv_iconst (v := 1) hx hb d_M_matrix_21 (by decide) ?_
      refine va_put (D := (dC, dI)) (ci := 4) (v := .int (1 : Int32)) (ty := .boolean) (C := R_M) (T := T_M) (N := 29) hx hb hts in_M ty_M ty_M_ok nm_M hown hK hP hD hS 0 rfl rfl 16 (by decide) (hts _ mw_519) (fun _ h9 => h9) rfl (by decide +kernel) rfl rfl (Nat.le_of_ble_eq_true rfl) d_M_matrix_22 (fun H locs hP hD hS => ?_)
      have hP : va_P (dC, dI) vC [((o 0), .inr (4, [.int (Fa 0), .int (Fa 1), .ref (o 1), .int (Fa 2), .ref (o 2), .ref (o 3), .ref (o 4), .ref (o 5), .ref (o 6), .int (Fa 3), .ref (o 7), .ref (o 8), .ref (o 9), .ref (o 10), .ref (o 11), .int (Fa 4), .int (1 : Int32), .int (Fa 6), .ref (o 12), .ref (o 13), .int (Fa 7), .ref (o 14), .ref (o 15), .int (Fa 8), .int (Fa 9), .ref (o 16), .ref (o 17), .ref (o 18), .ref (o 19)])), ((o 1), .inl (cI, 160, .inl (Aa 0))), ((o 2), .inl (cI, 100, .inl (Aa 1))), ((o 3), .inl (cI, 100, .inl (Aa 2))), ((o 4), .inl (cI, 100, .inl (Aa 3))), ((o 5), .inl (cI, 3, .inl (Aa 4))), ((o 6), .inl (cI, 26, .inl (Aa 5))), ((o 7), .inl (cI, 100, .inl (Aa 6))), ((o 8), .inl (cI, 100, .inl (Aa 7))), ((o 9), .inl (cI, 100, .inl (Aa 8))), ((o 10), .inl (cI, 26, .inl (Aa 9))), ((o 11), .inl (cI, 104, .inl (Aa 10))), ((o 12), .inl (cI, 80, .inl (Aa 11))), ((o 13), .inl (cI, 320, .inl (Aa 12))), ((o 14), .inl (cI, 200, .inl (Aa 13))), ((o 15), .inl (cI, 200, .inl (Aa 14))), ((o 16), .inl (cI, 4, .inl (Aa 15))), ((o 17), .inl (cI, 32, .inl (Aa 16))), ((o 18), .inl (cI, 32, .inl (Aa 17))), ((o 19), .inl (cI, 100, .inl (Aa 18)))] H := hP
      have hD : va_D (va_A (wM o cI Fa Aa) s.heap.size) [((o 0), .inr (4, [.int (Fa 0), .int (Fa 1), .ref (o 1), .int (Fa 2), .ref (o 2), .ref (o 3), .ref (o 4), .ref (o 5), .ref (o 6), .int (Fa 3), .ref (o 7), .ref (o 8), .ref (o 9), .ref (o 10), .ref (o 11), .int (Fa 4), .int (1 : Int32), .int (Fa 6), .ref (o 12), .ref (o 13), .int (Fa 7), .ref (o 14), .ref (o 15), .int (Fa 8), .int (Fa 9), .ref (o 16), .ref (o 17), .ref (o 18), .ref (o 19)])), ((o 1), .inl (cI, 160, .inl (Aa 0))), ((o 2), .inl (cI, 100, .inl (Aa 1))), ((o 3), .inl (cI, 100, .inl (Aa 2))), ((o 4), .inl (cI, 100, .inl (Aa 3))), ((o 5), .inl (cI, 3, .inl (Aa 4))), ((o 6), .inl (cI, 26, .inl (Aa 5))), ((o 7), .inl (cI, 100, .inl (Aa 6))), ((o 8), .inl (cI, 100, .inl (Aa 7))), ((o 9), .inl (cI, 100, .inl (Aa 8))), ((o 10), .inl (cI, 26, .inl (Aa 9))), ((o 11), .inl (cI, 104, .inl (Aa 10))), ((o 12), .inl (cI, 80, .inl (Aa 11))), ((o 13), .inl (cI, 320, .inl (Aa 12))), ((o 14), .inl (cI, 200, .inl (Aa 13))), ((o 15), .inl (cI, 200, .inl (Aa 14))), ((o 16), .inl (cI, 4, .inl (Aa 15))), ((o 17), .inl (cI, 32, .inl (Aa 16))), ((o 18), .inl (cI, 32, .inl (Aa 17))), ((o 19), .inl (cI, 100, .inl (Aa 18)))] := hD
      cases hf
      exact W.vret hx hb hr (fun t ht hW => ⟨⟨(), rfl, trivial, by rw [ht]; exact hP, va_K.moved hW.alike hK, hD⟩, hS.F ht⟩) hS.2.2 d_M_matrix_25
def f_M_columns_L12 (kx : Int32 → Int32 → Int32 → Int32 → Int32 → ST_F → ST_A → Option (ST_F × ST_A)) : Nat → Int32 → Int32 → Int32 → Int32 → Int32 → ST_F → ST_A → Option (ST_F × ST_A)
  | 0, _, _, _, _, _, _, _ => none
  | n + 1, x1, x2, x3, x4, x5, F, A => if (2 : Int32) ≤ x5 then (kx x1 x2 x3 x4 x5 F A) else (ra_bi (f_M_number x1 x5 F A) (fun r4 F4 A4 => ra_bi (f_M_number x2 ((2 : Int32) * x4) F4 A4) (fun r5 F5 A5 => ra_bi (f_M_put (4 : Int32) r4 r5 F5 A5) (fun r6 F6 A6 => ra_bi (f_M_number x1 ((2 : Int32) + x5) F6 A6) (fun r7 F7 A7 => ra_bi (f_M_number x2 (((2 : Int32) * x4) + (1 : Int32)) F7 A7) (fun r8 F8 A8 => ra_bi (f_M_put (4 : Int32) r7 r8 F8 A8) (fun r9 F9 A9 => ra_bi (f_M_put (2 : Int32) r6 r9 F9 A9) (fun r10 F10 A10 => ra_g (((2 : Int32) * x4) + x5) 4 (f_M_columns_L12 kx n x1 x2 x3 x4 (x5 + (1 : Int32)) F10 (va_up A10 15 (upd (A10 15) (((2 : Int32) * x4) + x5).toNatClampNeg r10)))))))))))
def f_M_columns_L3 : Nat → Int32 → Int32 → Int32 → Int32 → ST_F → ST_A → Option (ST_F × ST_A)
  | 0, _, _, _, _, _, _ => none
  | n + 1, x1, x2, x3, x4, F, A => if x3 ≤ x4 then (ra_bv (f_M_pushMade ((2 : Int32) * x3) (upd F 6 x1) A) (fun F2 A2 => some (F2, A2))) else (f_M_columns_L12 (fun y1_11 y2_11 y3_11 y4_11 y5_11 F11 A11 => f_M_columns_L3 n y1_11 y2_11 y3_11 (y4_11 + (1 : Int32)) F11 A11) 4 x1 x2 x3 x4 (0 : Int32) F A)
def f_M_columns (u1 : Int32) (u2 : Int32) (u3 : Int32) (Fa : ST_F) (Aa : ST_A) : Option (ST_F × ST_A) := f_M_columns_L3 4 u1 u2 u3 (0 : Int32) Fa Aa
set_option maxHeartbeats 4000000 in
set_option maxRecDepth 100000 in
theorem k_M_columns (l : Launch) (dC : Nat → ClassId) (dI : Nat → Nat → Nat) (o : Nat → Nat) (cI : ClassId) (sz : Nat) (Fa : ST_F) (Aa : ST_A) (u1 : Int32) (u2 : Int32) (u3 : Int32) (F9 : ST_F) (A9 : ST_A) (hf : f_M_columns u1 u2 u3 Fa Aa = some (F9, A9)) : cc_MetV l y_M_columns (Cond.code y_M_columns b_M_columns 8 none :: wA) ({ frames := 2, cells := 0, slots := 0, locals := 43 } : Room) (dC, dI) vC [(cI, .int)] ([.ref (o 0), .int u1, .int u2, .int u3] : List Value) (wM o cI Fa Aa) sz (wM o cI F9 A9) := by
  refine Met.ofW (cc := b_M_columns) (maxL := 8) (ret := none) (by decide) rfl ?_
  intro p e s m args below meth c s₁ B hml hv
  obtain ⟨rfl, hsz, hP, hK, hD0⟩ := hv
  have hx := B.exec
  have hb := B.bytes
  have hr := B.returns
  have hts := fun w h => atoms_spec (ws := (Cond.code y_M_columns b_M_columns 8 none :: wA)) B.pre w (List.mem_cons_of_mem _ h)
  have hown : s.vm.findClass R_M = some m.cls := findClass_of_methodNamed B.named
  have hlocks := B.notSynchronized
  subst hsz
  have hD := hD0.self (sz := s.heap.size)
  have hA : ∀ q : Nat, s.heap.size ≤ q → va_A (wM o cI Fa Aa) s.heap.size q := fun q h => Or.inr h
  have hS : va_S (va_A (wM o cI Fa Aa) s.heap.size) s.heap s.heap [] := va_S.rf
  have hl := lv_entry (([.ref (o 0), .int u1, .int u2, .int u3] : List Value)) (n := 8) (Nat.le_of_ble_eq_true rfl)
  have L12 : ∀ (kx : Int32 → Int32 → Int32 → Int32 → Int32 → ST_F → ST_A → Option (ST_F × ST_A)), (∀ (x1 : Int32) (x2 : Int32) (x3 : Int32) (x4 : Int32) (x5 : Int32) (F : ST_F) (A : ST_A) (H : Heap) (locs : List Loc) (ls : Array Slot), lv_has ls 8 [(0, .ref (o 0)), (1, .int x1), (2, .int x2), (3, .int x3), (4, .int x4), (5, .int x5)] → va_P (dC, dI) vC (wM o cI F A) H → va_D (va_A (wM o cI Fa Aa) s.heap.size) (wM o cI F A) → va_S (va_A (wM o cI Fa Aa) s.heap.size) s.heap H locs → kx x1 x2 x3 x4 x5 F A = some (F9, A9) → W p l e (headSpec (Cond.code y_M_columns b_M_columns 8 none :: wA) ({ frames := 2, cells := 0, slots := 0, locals := 43 } : Room)).room s m ([.ref (o 0), .int u1, .int u2, .int u3] : List Value).toArray below meth c H locs 0 0 (MQ below (cc_Qv (dC, dI) vC [(cI, .int)] (wM o cI Fa Aa) s.heap.size (wM o cI F9 A9)) ([.ref (o 0), .int u1, .int u2, .int u3] : List Value).toArray s 0 0 (va_A (wM o cI Fa Aa) s.heap.size)) (F0 m 95 ls [])) → ∀ (n : Nat) (x1 : Int32) (x2 : Int32) (x3 : Int32) (x4 : Int32) (x5 : Int32) (F : ST_F) (A : ST_A) (H : Heap) (locs : List Loc) (ls : Array Slot), lv_has ls 8 [(0, .ref (o 0)), (1, .int x1), (2, .int x2), (3, .int x3), (4, .int x4), (5, .int x5)] → va_P (dC, dI) vC (wM o cI F A) H → va_D (va_A (wM o cI Fa Aa) s.heap.size) (wM o cI F A) → va_S (va_A (wM o cI Fa Aa) s.heap.size) s.heap H locs → f_M_columns_L12 kx n x1 x2 x3 x4 x5 F A = some (F9, A9) → W p l e (headSpec (Cond.code y_M_columns b_M_columns 8 none :: wA) ({ frames := 2, cells := 0, slots := 0, locals := 43 } : Room)).room s m ([.ref (o 0), .int u1, .int u2, .int u3] : List Value).toArray below meth c H locs 0 0 (MQ below (cc_Qv (dC, dI) vC [(cI, .int)] (wM o cI Fa Aa) s.heap.size (wM o cI F9 A9)) ([.ref (o 0), .int u1, .int u2, .int u3] : List Value).toArray s 0 0 (va_A (wM o cI Fa Aa) s.heap.size)) (F0 m 12 ls []) := by
    intro kx hk n
    induction n with
    | zero => intro x1 x2 x3 x4 x5 F A H locs ls hl hP hD hS hf; cases hf
    | succ n ih =>
      intro x1 x2 x3 x4 x5 F A H locs ls hl hP hD hS hf
      rw [f_M_columns_L12] at hf
      refine lv_iload hx hb d_M_columns_12 (lv_at hl 5 rfl) ?_
      refine lv_iconst (v := 2) hx hb d_M_columns_14 (by decide) ?_
      refine lv_icmp_ge (tgt := 95) hx hb d_M_columns_15 (by decide) (fun h15_3 => ?_) (fun h15_3 => ?_)
      · rw [if_pos h15_3] at hf
        have hl : lv_has ls 8 [(0, .ref (o 0)), (1, .int x1), (2, .int x2), (3, .int x3), (4, .int x4), (5, .int x5)] := lv_sub hl [0, 1, 2, 3, 4, 5] rfl
        exact hk x1 x2 x3 x4 x5 F A _ _ _ hl hP hD hS hf
      · rw [if_neg h15_3] at hf
        refine lv_aload_n hx hb d_M_columns_18 rfl (lv_at hl 0 rfl) ?_
        refine lv_iconst (v := 4) hx hb d_M_columns_19 (by decide) ?_
        refine lv_aload_n hx hb d_M_columns_20 rfl (lv_at hl 0 rfl) ?_
        refine lv_iload_n hx hb d_M_columns_21 rfl (lv_at hl 1 rfl) ?_
        refine lv_iload hx hb d_M_columns_22 (lv_at hl 5 rfl) ?_
        have hP : va_P (dC, dI) vC (wM o cI F A) H := hP
        have hD : va_D (va_A (wM o cI Fa Aa) s.heap.size) (wM o cI F A) := hD
        obtain ⟨r4, F4, A4, hc, hf⟩ := ra_bi_some hf
        refine cc_calli (va_runV (As := [.int x1, .int x5]) (rest := [.int (4 : Int32), .ref (o 0)]) ⟨hx, hb, hml, hown, hts⟩ (k_M_number l dC dI o cI H.size F A x1 x5 r4 F4 A4 hc) (cw_V 2 hts mw_648 mw_650 ms_M_number mw_5 mw_651 rfl rfl rfl hd_M_number ⟨Nat.le_of_ble_eq_true rfl, Nat.le_of_ble_eq_true rfl⟩) (cc_preV hK hP hD rfl (q0 := 0) rfl) rfl rfl hl.1 rfl (lv_room (Nat.le_of_ble_eq_true rfl)) d_M_columns_24 ⟨Nat.zero_le _, Nat.zero_le _⟩) hD hS hA (fun H locs hP hD hS => ?_)
        refine lv_aload_n hx hb d_M_columns_27 rfl (lv_at hl 0 rfl) ?_
        refine lv_iload_n hx hb d_M_columns_28 rfl (lv_at hl 2 rfl) ?_
        refine lv_iconst (v := 2) hx hb d_M_columns_29 (by decide) ?_
        refine lv_iload hx hb d_M_columns_30 (lv_at hl 4 rfl) ?_
        refine lv_imul hx hb d_M_columns_32 ?_
        have hP : va_P (dC, dI) vC (wM o cI F4 A4) H := hP
        have hD : va_D (va_A (wM o cI Fa Aa) s.heap.size) (wM o cI F4 A4) := hD
        obtain ⟨r5, F5, A5, hc, hf⟩ := ra_bi_some hf
        refine cc_calli (va_runV (As := [.int x2, .int ((2 : Int32) * x4)]) (rest := [.int r4, .int (4 : Int32), .ref (o 0)]) ⟨hx, hb, hml, hown, hts⟩ (k_M_number l dC dI o cI H.size F4 A4 x2 ((2 : Int32) * x4) r5 F5 A5 hc) (cw_V 2 hts mw_648 mw_650 ms_M_number mw_5 mw_651 rfl rfl rfl hd_M_number ⟨Nat.le_of_ble_eq_true rfl, Nat.le_of_ble_eq_true rfl⟩) (cc_preV hK hP hD rfl (q0 := 0) rfl) rfl rfl hl.1 rfl (lv_room (Nat.le_of_ble_eq_true rfl)) d_M_columns_33 ⟨Nat.zero_le _, Nat.zero_le _⟩) hD hS hA (fun H locs hP hD hS => ?_)
        have hP : va_P (dC, dI) vC (wM o cI F5 A5) H := hP
        have hD : va_D (va_A (wM o cI Fa Aa) s.heap.size) (wM o cI F5 A5) := hD
        obtain ⟨r6, F6, A6, hc, hf⟩ := ra_bi_some hf
        refine cc_calli (va_runV (As := [.int (4 : Int32), .int r4, .int r5]) (rest := []) ⟨hx, hb, hml, hown, hts⟩ (k_M_put l dC dI o cI H.size F5 A5 (4 : Int32) r4 r5 r6 F6 A6 hc) (cw_V 3 hts mw_652 mw_654 ms_M_put mw_5 mw_655 rfl rfl rfl hd_M_put ⟨Nat.le_of_ble_eq_true rfl, Nat.le_of_ble_eq_true rfl⟩) (cc_preV hK hP hD rfl (q0 := 0) rfl) rfl rfl hl.1 rfl (lv_room (Nat.le_of_ble_eq_true rfl)) d_M_columns_36 ⟨Nat.zero_le _, Nat.zero_le _⟩) hD hS hA (fun H locs hP hD hS => ?_)
        refine lv_istore hx hb d_M_columns_39 hl (by decide) rfl (fun ls hl => ?_)
        have hl : lv_has ls 8 [(6, .int r6), (0, .ref (o 0)), (1, .int x1), (2, .int x2), (3, .int x3), (4, .int x4), (5, .int x5)] := hl
        refine lv_aload_n hx hb d_M_columns_41 rfl (lv_at hl 1 rfl) ?_
        refine lv_iconst (v := 4) hx hb d_M_columns_42 (by decide) ?_
        refine lv_aload_n hx hb d_M_columns_43 rfl (lv_at hl 1 rfl) ?_
        refine lv_iload_n hx hb d_M_columns_44 rfl (lv_at hl 2 rfl) ?_
        refine lv_iconst (v := 2) hx hb d_M_columns_45 (by decide) ?_
        refine lv_iload hx hb d_M_columns_46 (lv_at hl 6 rfl) ?_
        refine lv_iadd hx hb d_M_columns_48 ?_
        have hP : va_P (dC, dI) vC (wM o cI F6 A6) H := hP
        have hD : va_D (va_A (wM o cI Fa Aa) s.heap.size) (wM o cI F6 A6) := hD
        obtain ⟨r7, F7, A7, hc, hf⟩ := ra_bi_some hf
        refine cc_calli (va_runV (As := [.int x1, .int ((2 : Int32) + x5)]) (rest := [.int (4 : Int32), .ref (o 0)]) ⟨hx, hb, hml, hown, hts⟩ (k_M_number l dC dI o cI H.size F6 A6 x1 ((2 : Int32) + x5) r7 F7 A7 hc) (cw_V 2 hts mw_648 mw_650 ms_M_number mw_5 mw_651 rfl rfl rfl hd_M_number ⟨Nat.le_of_ble_eq_true rfl, Nat.le_of_ble_eq_true rfl⟩) (cc_preV hK hP hD rfl (q0 := 0) rfl) rfl rfl hl.1 rfl (lv_room (Nat.le_of_ble_eq_true rfl)) d_M_columns_49 ⟨Nat.zero_le _, Nat.zero_le _⟩) hD hS hA (fun H locs hP hD hS => ?_)
        refine lv_aload_n hx hb d_M_columns_52 rfl (lv_at hl 1 rfl) ?_
        refine lv_iload_n hx hb d_M_columns_53 rfl (lv_at hl 3 rfl) ?_
        refine lv_iconst (v := 2) hx hb d_M_columns_54 (by decide) ?_
        refine lv_iload hx hb d_M_columns_55 (lv_at hl 5 rfl) ?_
        refine lv_imul hx hb d_M_columns_57 ?_
        refine lv_iconst (v := 1) hx hb d_M_columns_58 (by decide) ?_
        refine lv_iadd hx hb d_M_columns_59 ?_
        have hP : va_P (dC, dI) vC (wM o cI F7 A7) H := hP
        have hD : va_D (va_A (wM o cI Fa Aa) s.heap.size) (wM o cI F7 A7) := hD
        obtain ⟨r8, F8, A8, hc, hf⟩ := ra_bi_some hf
        refine cc_calli (va_runV (As := [.int x2, .int (((2 : Int32) * x4) + (1 : Int32))]) (rest := [.int r7, .int (4 : Int32), .ref (o 0)]) ⟨hx, hb, hml, hown, hts⟩ (k_M_number l dC dI o cI H.size F7 A7 x2 (((2 : Int32) * x4) + (1 : Int32)) r8 F8 A8 hc) (cw_V 2 hts mw_648 mw_650 ms_M_number mw_5 mw_651 rfl rfl rfl hd_M_number ⟨Nat.le_of_ble_eq_true rfl, Nat.le_of_ble_eq_true rfl⟩) (cc_preV hK hP hD rfl (q0 := 0) rfl) rfl rfl hl.1 rfl (lv_room (Nat.le_of_ble_eq_true rfl)) d_M_columns_60 ⟨Nat.zero_le _, Nat.zero_le _⟩) hD hS hA (fun H locs hP hD hS => ?_)
        have hP : va_P (dC, dI) vC (wM o cI F8 A8) H := hP
        have hD : va_D (va_A (wM o cI Fa Aa) s.heap.size) (wM o cI F8 A8) := hD
        obtain ⟨r9, F9, A9, hc, hf⟩ := ra_bi_some hf
        refine cc_calli (va_runV (As := [.int (4 : Int32), .int r7, .int r8]) (rest := []) ⟨hx, hb, hml, hown, hts⟩ (k_M_put l dC dI o cI H.size F8 A8 (4 : Int32) r7 r8 r9 F9 A9 hc) (cw_V 3 hts mw_652 mw_654 ms_M_put mw_5 mw_655 rfl rfl rfl hd_M_put ⟨Nat.le_of_ble_eq_true rfl, Nat.le_of_ble_eq_true rfl⟩) (cc_preV hK hP hD rfl (q0 := 0) rfl) rfl rfl hl.1 rfl (lv_room (Nat.le_of_ble_eq_true rfl)) d_M_columns_63 ⟨Nat.zero_le _, Nat.zero_le _⟩) hD hS hA (fun H locs hP hD hS => ?_)
        refine lv_istore hx hb d_M_columns_66 hl (by decide) rfl (fun ls hl => ?_)
        have hl : lv_has ls 8 [(7, .int r9), (6, .int r6), (0, .ref (o 0)), (1, .int x1), (2, .int x2), (3, .int x3), (4, .int x4), (5, .int x5)] := hl
        refine lv_aload_n hx hb d_M_columns_68 rfl (lv_at hl 2 rfl) ?_
        refine va_get (D := (dC, dI)) (ci := 4) (v := .ref (o 16)) (C := R_M) (T := T_M) (N := 29) hx hb hts in_M hown hK hP 0 rfl rfl 25 (by decide) (hts _ mw_528) (fun _ h9 => h9) rfl d_M_columns_69 ?_
        refine lv_iconst (v := 2) hx hb d_M_columns_72 (by decide) ?_
        refine lv_iload hx hb d_M_columns_73 (lv_at hl 6 rfl) ?_
        refine lv_imul hx hb d_M_columns_75 ?_
        refine lv_iload hx hb d_M_columns_76 (lv_at hl 7 rfl) ?_
        refine lv_iadd hx hb d_M_columns_78 ?_
        refine lv_aload_n hx hb d_M_columns_79 rfl (lv_at hl 2 rfl) ?_
        refine lv_iconst (v := 2) hx hb d_M_columns_80 (by decide) ?_
        refine lv_iload hx hb d_M_columns_81 (lv_at hl 1 rfl) ?_
        refine lv_iload hx hb d_M_columns_83 (lv_at hl 0 rfl) ?_
        have hP : va_P (dC, dI) vC (wM o cI F9 A9) H := hP
        have hD : va_D (va_A (wM o cI Fa Aa) s.heap.size) (wM o cI F9 A9) := hD
        obtain ⟨r10, F10, A10, hc, hf⟩ := ra_bi_some hf
        refine cc_calli (va_runV (As := [.int (2 : Int32), .int r6, .int r9]) (rest := [.int (((2 : Int32) * x4) + x5), .ref (o 16)]) ⟨hx, hb, hml, hown, hts⟩ (k_M_put l dC dI o cI H.size F9 A9 (2 : Int32) r6 r9 r10 F10 A10 hc) (cw_V 3 hts mw_652 mw_654 ms_M_put mw_5 mw_655 rfl rfl rfl hd_M_put ⟨Nat.le_of_ble_eq_true rfl, Nat.le_of_ble_eq_true rfl⟩) (cc_preV hK hP hD rfl (q0 := 0) rfl) rfl rfl hl.1 rfl (lv_room (Nat.le_of_ble_eq_true rfl)) d_M_columns_85 ⟨Nat.zero_le _, Nat.zero_le _⟩) hD hS hA (fun H locs hP hD hS => ?_)
        obtain ⟨hi, hf⟩ := ra_g_some hf
        refine va_iast hx hb hK hP hD hS 16 0 rfl rfl hi d_M_columns_88 (fun H locs hP hD hS => ?_)
        have hP : va_P (dC, dI) vC [((o 0), .inr (4, [.int (F10 0), .int (F10 1), .ref (o 1), .int (F10 2), .ref (o 2), .ref (o 3), .ref (o 4), .ref (o 5), .ref (o 6), .int (F10 3), .ref (o 7), .ref (o 8), .ref (o 9), .ref (o 10), .ref (o 11), .int (F10 4), .int (F10 5), .int (F10 6), .ref (o 12), .ref (o 13), .int (F10 7), .ref (o 14), .ref (o 15), .int (F10 8), .int (F10 9), .ref (o 16), .ref (o 17), .ref (o 18), .ref (o 19)])), ((o 1), .inl (cI, 160, .inl (A10 0))), ((o 2), .inl (cI, 100, .inl (A10 1))), ((o 3), .inl (cI, 100, .inl (A10 2))), ((o 4), .inl (cI, 100, .inl (A10 3))), ((o 5), .inl (cI, 3, .inl (A10 4))), ((o 6), .inl (cI, 26, .inl (A10 5))), ((o 7), .inl (cI, 100, .inl (A10 6))), ((o 8), .inl (cI, 100, .inl (A10 7))), ((o 9), .inl (cI, 100, .inl (A10 8))), ((o 10), .inl (cI, 26, .inl (A10 9))), ((o 11), .inl (cI, 104, .inl (A10 10))), ((o 12), .inl (cI, 80, .inl (A10 11))), ((o 13), .inl (cI, 320, .inl (A10 12))), ((o 14), .inl (cI, 200, .inl (A10 13))), ((o 15), .inl (cI, 200, .inl (A10 14))), ((o 16), .inl (cI, 4, .inl (upd (A10 15) (((2 : Int32) * x4) + x5).toNatClampNeg r10))), ((o 17), .inl (cI, 32, .inl (A10 16))), ((o 18), .inl (cI, 32, .inl (A10 17))), ((o 19), .inl (cI, 100, .inl (A10 18)))] H := hP
        have hD : va_D (va_A (wM o cI Fa Aa) s.heap.size) [((o 0), .inr (4, [.int (F10 0), .int (F10 1), .ref (o 1), .int (F10 2), .ref (o 2), .ref (o 3), .ref (o 4), .ref (o 5), .ref (o 6), .int (F10 3), .ref (o 7), .ref (o 8), .ref (o 9), .ref (o 10), .ref (o 11), .int (F10 4), .int (F10 5), .int (F10 6), .ref (o 12), .ref (o 13), .int (F10 7), .ref (o 14), .ref (o 15), .int (F10 8), .int (F10 9), .ref (o 16), .ref (o 17), .ref (o 18), .ref (o 19)])), ((o 1), .inl (cI, 160, .inl (A10 0))), ((o 2), .inl (cI, 100, .inl (A10 1))), ((o 3), .inl (cI, 100, .inl (A10 2))), ((o 4), .inl (cI, 100, .inl (A10 3))), ((o 5), .inl (cI, 3, .inl (A10 4))), ((o 6), .inl (cI, 26, .inl (A10 5))), ((o 7), .inl (cI, 100, .inl (A10 6))), ((o 8), .inl (cI, 100, .inl (A10 7))), ((o 9), .inl (cI, 100, .inl (A10 8))), ((o 10), .inl (cI, 26, .inl (A10 9))), ((o 11), .inl (cI, 104, .inl (A10 10))), ((o 12), .inl (cI, 80, .inl (A10 11))), ((o 13), .inl (cI, 320, .inl (A10 12))), ((o 14), .inl (cI, 200, .inl (A10 13))), ((o 15), .inl (cI, 200, .inl (A10 14))), ((o 16), .inl (cI, 4, .inl (upd (A10 15) (((2 : Int32) * x4) + x5).toNatClampNeg r10))), ((o 17), .inl (cI, 32, .inl (A10 16))), ((o 18), .inl (cI, 32, .inl (A10 17))), ((o 19), .inl (cI, 100, .inl (A10 18)))] := hD
        refine lv_iinc (k := 7) (v := (x5 + (1 : Int32))) hx hb d_M_columns_89 hl rfl (by rfl) (by decide) rfl (fun ls hl => ?_)
        have hl : lv_has ls 8 [(5, .int (x5 + (1 : Int32))), (7, .int r9), (6, .int r6), (0, .ref (o 0)), (1, .int x1), (2, .int x2), (3, .int x3), (4, .int x4)] := hl
        refine lv_goto (tgt := 12) hx hb d_M_columns_92 (by decide) ?_
        have hl : lv_has ls 8 [(0, .ref (o 0)), (1, .int x1), (2, .int x2), (3, .int x3), (4, .int x4), (5, .int (x5 + (1 : Int32)))] := lv_sub hl [3, 4, 5, 6, 7, 0] rfl
        exact ih x1 x2 x3 x4 (x5 + (1 : Int32)) F10 (va_up A10 15 (upd (A10 15) (((2 : Int32) * x4) + x5).toNatClampNeg r10)) _ _ _ hl hP hD hS hf
  have L3 : ∀ (n : Nat) (x1 : Int32) (x2 : Int32) (x3 : Int32) (x4 : Int32) (F : ST_F) (A : ST_A) (H : Heap) (locs : List Loc) (ls : Array Slot), lv_has ls 8 [(0, .ref (o 0)), (1, .int x1), (2, .int x2), (3, .int x3), (4, .int x4)] → va_P (dC, dI) vC (wM o cI F A) H → va_D (va_A (wM o cI Fa Aa) s.heap.size) (wM o cI F A) → va_S (va_A (wM o cI Fa Aa) s.heap.size) s.heap H locs → f_M_columns_L3 n x1 x2 x3 x4 F A = some (F9, A9) → W p l e (headSpec (Cond.code y_M_columns b_M_columns 8 none :: wA) ({ frames := 2, cells := 0, slots := 0, locals := 43 } : Room)).room s m ([.ref (o 0), .int u1, .int u2, .int u3] : List Value).toArray below meth c H locs 0 0 (MQ below (cc_Qv (dC, dI) vC [(cI, .int)] (wM o cI Fa Aa) s.heap.size (wM o cI F9 A9)) ([.ref (o 0), .int u1, .int u2, .int u3] : List Value).toArray s 0 0 (va_A (wM o cI Fa Aa) s.heap.size)) (F0 m 3 ls []) := by
    intro n
    induction n with
    | zero => intro x1 x2 x3 x4 F A H locs ls hl hP hD hS hf; cases hf
    | succ n ih =>
      intro x1 x2 x3 x4 F A H locs ls hl hP hD hS hf
      rw [f_M_columns_L3] at hf
      refine lv_iload hx hb d_M_columns_3 (lv_at hl 4 rfl) ?_
      refine lv_iload_n hx hb d_M_columns_5 rfl (lv_at hl 3 rfl) ?_
      refine lv_icmp_ge (tgt := 101) hx hb d_M_columns_6 (by decide) (fun h6_1 => ?_) (fun h6_1 => ?_)
      · rw [if_pos h6_1] at hf
        refine lv_aload_n hx hb d_M_columns_101 rfl (lv_at hl 0 rfl) ?_
        refine lv_iload_n hx hb d_M_columns_102 rfl (lv_at hl 1 rfl) ?_
        refine va_put (D := (dC, dI)) (ci := 4) (v := .int x1) (ty := .int) (C := R_M) (T := T_M) (N := 29) hx hb hts in_M ty_M ty_M_ok nm_M hown hK hP hD hS 0 rfl rfl 17 (by decide) (hts _ mw_520) (fun _ h9 => h9) rfl (by decide +kernel) rfl rfl (Nat.le_of_ble_eq_true rfl) d_M_columns_103 (fun H locs hP hD hS => ?_)
        have hP : va_P (dC, dI) vC [((o 0), .inr (4, [.int (F 0), .int (F 1), .ref (o 1), .int (F 2), .ref (o 2), .ref (o 3), .ref (o 4), .ref (o 5), .ref (o 6), .int (F 3), .ref (o 7), .ref (o 8), .ref (o 9), .ref (o 10), .ref (o 11), .int (F 4), .int (F 5), .int x1, .ref (o 12), .ref (o 13), .int (F 7), .ref (o 14), .ref (o 15), .int (F 8), .int (F 9), .ref (o 16), .ref (o 17), .ref (o 18), .ref (o 19)])), ((o 1), .inl (cI, 160, .inl (A 0))), ((o 2), .inl (cI, 100, .inl (A 1))), ((o 3), .inl (cI, 100, .inl (A 2))), ((o 4), .inl (cI, 100, .inl (A 3))), ((o 5), .inl (cI, 3, .inl (A 4))), ((o 6), .inl (cI, 26, .inl (A 5))), ((o 7), .inl (cI, 100, .inl (A 6))), ((o 8), .inl (cI, 100, .inl (A 7))), ((o 9), .inl (cI, 100, .inl (A 8))), ((o 10), .inl (cI, 26, .inl (A 9))), ((o 11), .inl (cI, 104, .inl (A 10))), ((o 12), .inl (cI, 80, .inl (A 11))), ((o 13), .inl (cI, 320, .inl (A 12))), ((o 14), .inl (cI, 200, .inl (A 13))), ((o 15), .inl (cI, 200, .inl (A 14))), ((o 16), .inl (cI, 4, .inl (A 15))), ((o 17), .inl (cI, 32, .inl (A 16))), ((o 18), .inl (cI, 32, .inl (A 17))), ((o 19), .inl (cI, 100, .inl (A 18)))] H := hP
        have hD : va_D (va_A (wM o cI Fa Aa) s.heap.size) [((o 0), .inr (4, [.int (F 0), .int (F 1), .ref (o 1), .int (F 2), .ref (o 2), .ref (o 3), .ref (o 4), .ref (o 5), .ref (o 6), .int (F 3), .ref (o 7), .ref (o 8), .ref (o 9), .ref (o 10), .ref (o 11), .int (F 4), .int (F 5), .int x1, .ref (o 12), .ref (o 13), .int (F 7), .ref (o 14), .ref (o 15), .int (F 8), .int (F 9), .ref (o 16), .ref (o 17), .ref (o 18), .ref (o 19)])), ((o 1), .inl (cI, 160, .inl (A 0))), ((o 2), .inl (cI, 100, .inl (A 1))), ((o 3), .inl (cI, 100, .inl (A 2))), ((o 4), .inl (cI, 100, .inl (A 3))), ((o 5), .inl (cI, 3, .inl (A 4))), ((o 6), .inl (cI, 26, .inl (A 5))), ((o 7), .inl (cI, 100, .inl (A 6))), ((o 8), .inl (cI, 100, .inl (A 7))), ((o 9), .inl (cI, 100, .inl (A 8))), ((o 10), .inl (cI, 26, .inl (A 9))), ((o 11), .inl (cI, 104, .inl (A 10))), ((o 12), .inl (cI, 80, .inl (A 11))), ((o 13), .inl (cI, 320, .inl (A 12))), ((o 14), .inl (cI, 200, .inl (A 13))), ((o 15), .inl (cI, 200, .inl (A 14))), ((o 16), .inl (cI, 4, .inl (A 15))), ((o 17), .inl (cI, 32, .inl (A 16))), ((o 18), .inl (cI, 32, .inl (A 17))), ((o 19), .inl (cI, 100, .inl (A 18)))] := hD
        refine lv_aload_n hx hb d_M_columns_106 rfl (lv_at hl 0 rfl) ?_
        refine lv_iconst (v := 2) hx hb d_M_columns_107 (by decide) ?_
        refine lv_iload_n hx hb d_M_columns_108 rfl (lv_at hl 3 rfl) ?_
        refine lv_imul hx hb d_M_columns_109 ?_
        have hP : va_P (dC, dI) vC (wM o cI (upd F 6 x1) A) H := hP
        have hD : va_D (va_A (wM o cI Fa Aa) s.heap.size) (wM o cI (upd F 6 x1) A) := hD
        obtain ⟨F2, A2, hc, hf⟩ := ra_bv_some hf
        refine cc_callv (va_runV (As := [.int ((2 : Int32) * x3)]) (rest := []) ⟨hx, hb, hml, hown, hts⟩ (k_M_pushMade l dC dI o cI H.size (upd F 6 x1) A ((2 : Int32) * x3) F2 A2 hc) (cw_V 1 hts mw_656 mw_658 ms_M_pushMade mw_5 mw_659 rfl rfl rfl hd_M_pushMade ⟨Nat.le_of_ble_eq_true rfl, Nat.le_of_ble_eq_true rfl⟩) (cc_preV hK hP hD rfl (q0 := 0) rfl) rfl rfl hl.1 rfl (lv_room (Nat.le_of_ble_eq_true rfl)) d_M_columns_110 ⟨Nat.zero_le _, Nat.zero_le _⟩) hD hS hA (fun H locs hP hD hS => ?_)
        cases hf
        exact W.vret hx hb hr (fun t ht hW => ⟨⟨(), rfl, trivial, by rw [ht]; exact hP, va_K.moved hW.alike hK, hD⟩, hS.F ht⟩) hS.2.2 d_M_columns_113
      · rw [if_neg h6_1] at hf
        refine lv_iconst (v := 0) hx hb d_M_columns_9 (by decide) ?_
        refine lv_istore hx hb d_M_columns_10 hl (by decide) rfl (fun ls hl => ?_)
        have hl : lv_has ls 8 [(5, .int (0 : Int32)), (0, .ref (o 0)), (1, .int x1), (2, .int x2), (3, .int x3), (4, .int x4)] := hl
        have hl : lv_has ls 8 [(0, .ref (o 0)), (1, .int x1), (2, .int x2), (3, .int x3), (4, .int x4), (5, .int (0 : Int32))] := lv_sub hl [1, 2, 3, 4, 5, 0] rfl
        refine L12 _ (fun y1_11 y2_11 y3_11 y4_11 y5_11 F11 A11 H locs ls hl hP hD hS hf => ?_) 4 x1 x2 x3 x4 (0 : Int32) F A _ _ _ hl hP hD hS hf
        refine lv_iinc (k := 4) (v := (y4_11 + (1 : Int32))) hx hb d_M_columns_95 hl rfl (by rfl) (by decide) rfl (fun ls hl => ?_)
        have hl : lv_has ls 8 [(4, .int (y4_11 + (1 : Int32))), (0, .ref (o 0)), (1, .int y1_11), (2, .int y2_11), (3, .int y3_11), (5, .int y5_11)] := hl
        refine lv_goto (tgt := 3) hx hb d_M_columns_98 (by decide) ?_
        have hl : lv_has ls 8 [(0, .ref (o 0)), (1, .int y1_11), (2, .int y2_11), (3, .int y3_11), (4, .int (y4_11 + (1 : Int32)))] := lv_sub hl [1, 2, 3, 4, 0] rfl
        exact ih y1_11 y2_11 y3_11 (y4_11 + (1 : Int32)) F11 A11 _ _ _ hl hP hD hS hf
  rw [lg_entry_eq]
  generalize (lg_sl (([.ref (o 0), .int u1, .int u2, .int u3] : List Value)) ++ List.replicate (8 - (lg_sl (([.ref (o 0), .int u1, .int u2, .int u3] : List Value))).length) Slot.unset).toArray = ls at hl ⊢
  have hl : lv_has ls 8 [(0, .ref (o 0)), (1, .int u1), (2, .int u2), (3, .int u3)] := hl
  unfold f_M_columns at hf
  refine lv_iconst (v := 0) hx hb d_M_columns_0 (by decide) ?_
  refine lv_istore hx hb d_M_columns_1 hl (by decide) rfl (fun ls hl => ?_)
  have hl : lv_has ls 8 [(4, .int (0 : Int32)), (0, .ref (o 0)), (1, .int u1), (2, .int u2), (3, .int u3)] := hl
  have hl : lv_has ls 8 [(0, .ref (o 0)), (1, .int u1), (2, .int u2), (3, .int u3), (4, .int (0 : Int32))] := lv_sub hl [1, 2, 3, 4, 0] rfl
  exact L3 4 u1 u2 u3 (0 : Int32) Fa Aa _ _ _ hl hP hD hS hf
def f_M_join_L116 (kx : Int32 → Int32 → Int32 → Int32 → Int32 → Int32 → ST_F → ST_A → Option (ST_F × ST_A)) : Nat → Int32 → Int32 → Int32 → Int32 → Int32 → Int32 → ST_F → ST_A → Option (ST_F × ST_A)
  | 0, _, _, _, _, _, _, _, _ => none
  | n + 1, x1, x2, x3, x4, x5, x6, F, A => ra_g x5 80 (if ((A 11) x5.toNatClampNeg) ≤ x6 then (kx x1 x2 x3 x4 x5 x6 F A) else (ra_bi (f_M_number x5 x6 F A) (fun r7 F7 A7 => ra_g x4 4 (f_M_join_L116 kx n x1 x2 x3 (x4 + (1 : Int32)) x5 (x6 + (1 : Int32)) F7 (va_up A7 15 (upd (A7 15) x4.toNatClampNeg r7))))))
def f_M_join_L104 : Nat → Int32 → Int32 → Int32 → Int32 → Int32 → ST_F → ST_A → Option (ST_F × ST_A)
  | 0, _, _, _, _, _, _, _ => none
  | n + 1, x1, x2, x3, x4, x5, F, A => if (F 6) ≤ x5 then (ra_bv (f_M_pushMade x3 (upd F 6 x2) A) (fun F5 A5 => some (F5, A5))) else (f_M_join_L116 (fun y1_8 y2_8 y3_8 y4_8 y5_8 y6_8 F8 A8 => f_M_join_L104 n y1_8 y2_8 y3_8 y4_8 (y5_8 + (1 : Int32)) F8 A8) 8 x1 x2 x3 x4 x5 (0 : Int32) F A)
def f_M_join_J87 (x1 : Int32) (x2 : Int32) (x3 : Int32) (x4 : Int32) (z0 : Int32) (F : ST_F) (A : ST_A) : Option (ST_F × ST_A) := ra_zb z0 (if z0 = 0 then (f_M_join_L104 8 x1 x2 x3 (0 : Int32) x2 (upd F 5 z0) A) else (some ((upd F 5 z0), A)))
def f_M_join_J82 (x1 : Int32) (x2 : Int32) (x3 : Int32) (x4 : Int32) (F : ST_F) (A : ST_A) : Option (ST_F × ST_A) := f_M_join_J87 x1 x2 x3 x4 (1 : Int32) F A
def f_M_join_L12 : Nat → Int32 → Int32 → Int32 → Int32 → ST_F → ST_A → Option (ST_F × ST_A)
  | 0, _, _, _, _, _, _ => none
  | n + 1, x1, x2, x3, x4, F, A => if (F 6) ≤ x4 then (if (F 5) = 0 then (if x3 < (2 : Int32) then (f_M_join_J82 x1 x2 x3 x4 F A) else (if x3 ≤ (3 : Int32) then (f_M_join_J87 x1 x2 x3 x4 (0 : Int32) F A) else (f_M_join_J82 x1 x2 x3 x4 F A))) else (f_M_join_J82 x1 x2 x3 x4 F A)) else (if (F 5) = 0 then (ra_g x4 80 (if ((A 11) x4.toNatClampNeg) ≤ (3 : Int32) then (ra_g x4 80 (f_M_join_L12 n x1 x2 (x3 + ((A 11) x4.toNatClampNeg)) (x4 + (1 : Int32)) (upd F 5 (0 : Int32)) A)) else (ra_g x4 80 (f_M_join_L12 n x1 x2 (x3 + ((A 11) x4.toNatClampNeg)) (x4 + (1 : Int32)) (upd F 5 (1 : Int32)) A)))) else (ra_g x4 80 (f_M_join_L12 n x1 x2 (x3 + ((A 11) x4.toNatClampNeg)) (x4 + (1 : Int32)) (upd F 5 (1 : Int32)) A)))
def f_M_join (u1 : Int32) (Fa : ST_F) (Aa : ST_A) : Option (ST_F × ST_A) := f_M_join_L12 400 u1 ((Fa 6) - u1) (0 : Int32) ((Fa 6) - u1) Fa Aa
set_option maxHeartbeats 4000000 in
set_option maxRecDepth 100000 in
theorem k_M_join (l : Launch) (dC : Nat → ClassId) (dI : Nat → Nat → Nat) (o : Nat → Nat) (cI : ClassId) (sz : Nat) (Fa : ST_F) (Aa : ST_A) (u1 : Int32) (F9 : ST_F) (A9 : ST_A) (hf : f_M_join u1 Fa Aa = some (F9, A9)) : cc_MetV l y_M_join (Cond.code y_M_join b_M_join 7 none :: wA) ({ frames := 2, cells := 0, slots := 0, locals := 43 } : Room) (dC, dI) vC [(cI, .int)] ([.ref (o 0), .int u1] : List Value) (wM o cI Fa Aa) sz (wM o cI F9 A9) := by
  refine Met.ofW (cc := b_M_join) (maxL := 7) (ret := none) (by decide) rfl ?_
  intro p e s m args below meth c s₁ B hml hv
  obtain ⟨rfl, hsz, hP, hK, hD0⟩ := hv
  have hx := B.exec
  have hb := B.bytes
  have hr := B.returns
  have hts := fun w h => atoms_spec (ws := (Cond.code y_M_join b_M_join 7 none :: wA)) B.pre w (List.mem_cons_of_mem _ h)
  have hown : s.vm.findClass R_M = some m.cls := findClass_of_methodNamed B.named
  have hlocks := B.notSynchronized
  subst hsz
  have hD := hD0.self (sz := s.heap.size)
  have hA : ∀ q : Nat, s.heap.size ≤ q → va_A (wM o cI Fa Aa) s.heap.size q := fun q h => Or.inr h
  have hS : va_S (va_A (wM o cI Fa Aa) s.heap.size) s.heap s.heap [] := va_S.rf
  have hl := lv_entry (([.ref (o 0), .int u1] : List Value)) (n := 7) (Nat.le_of_ble_eq_true rfl)
  have L116 : ∀ (kx : Int32 → Int32 → Int32 → Int32 → Int32 → Int32 → ST_F → ST_A → Option (ST_F × ST_A)), (∀ (x1 : Int32) (x2 : Int32) (x3 : Int32) (x4 : Int32) (x5 : Int32) (x6 : Int32) (F : ST_F) (A : ST_A) (H : Heap) (locs : List Loc) (ls : Array Slot), lv_has ls 7 [(0, .ref (o 0)), (1, .int x1), (2, .int x2), (3, .int x3), (4, .int x4), (5, .int x5), (6, .int x6)] → va_P (dC, dI) vC (wM o cI F A) H → va_D (va_A (wM o cI Fa Aa) s.heap.size) (wM o cI F A) → va_S (va_A (wM o cI Fa Aa) s.heap.size) s.heap H locs → kx x1 x2 x3 x4 x5 x6 F A = some (F9, A9) → W p l e (headSpec (Cond.code y_M_join b_M_join 7 none :: wA) ({ frames := 2, cells := 0, slots := 0, locals := 43 } : Room)).room s m ([.ref (o 0), .int u1] : List Value).toArray below meth c H locs 0 0 (MQ below (cc_Qv (dC, dI) vC [(cI, .int)] (wM o cI Fa Aa) s.heap.size (wM o cI F9 A9)) ([.ref (o 0), .int u1] : List Value).toArray s 0 0 (va_A (wM o cI Fa Aa) s.heap.size)) (F0 m 152 ls [])) → ∀ (n : Nat) (x1 : Int32) (x2 : Int32) (x3 : Int32) (x4 : Int32) (x5 : Int32) (x6 : Int32) (F : ST_F) (A : ST_A) (H : Heap) (locs : List Loc) (ls : Array Slot), lv_has ls 7 [(0, .ref (o 0)), (1, .int x1), (2, .int x2), (3, .int x3), (4, .int x4), (5, .int x5), (6, .int x6)] → va_P (dC, dI) vC (wM o cI F A) H → va_D (va_A (wM o cI Fa Aa) s.heap.size) (wM o cI F A) → va_S (va_A (wM o cI Fa Aa) s.heap.size) s.heap H locs → f_M_join_L116 kx n x1 x2 x3 x4 x5 x6 F A = some (F9, A9) → W p l e (headSpec (Cond.code y_M_join b_M_join 7 none :: wA) ({ frames := 2, cells := 0, slots := 0, locals := 43 } : Room)).room s m ([.ref (o 0), .int u1] : List Value).toArray below meth c H locs 0 0 (MQ below (cc_Qv (dC, dI) vC [(cI, .int)] (wM o cI Fa Aa) s.heap.size (wM o cI F9 A9)) ([.ref (o 0), .int u1] : List Value).toArray s 0 0 (va_A (wM o cI Fa Aa) s.heap.size)) (F0 m 116 ls []) := by
    intro kx hk n
    induction n with
    | zero => intro x1 x2 x3 x4 x5 x6 F A H locs ls hl hP hD hS hf; cases hf
    | succ n ih =>
      intro x1 x2 x3 x4 x5 x6 F A H locs ls hl hP hD hS hf
      rw [f_M_join_L116] at hf
      refine lv_iload hx hb d_M_join_116 (lv_at hl 6 rfl) ?_
      refine lv_aload_n hx hb d_M_join_118 rfl (lv_at hl 0 rfl) ?_
      refine va_get (D := (dC, dI)) (ci := 4) (v := .ref (o 12)) (C := R_M) (T := T_M) (N := 29) hx hb hts in_M hown hK hP 0 rfl rfl 18 (by decide) (hts _ mw_521) (fun _ h9 => h9) rfl d_M_join_119 ?_
      refine lv_iload hx hb d_M_join_122 (lv_at hl 5 rfl) ?_
      obtain ⟨hi, hf⟩ := ra_g_some hf
      refine va_iald hx hb hK hP 12 0 rfl rfl hi d_M_join_124 ?_
      refine lv_icmp_ge (tgt := 152) hx hb d_M_join_125 (by decide) (fun h125_6 => ?_) (fun h125_6 => ?_)
      · rw [if_pos h125_6] at hf
        have hl : lv_has ls 7 [(0, .ref (o 0)), (1, .int x1), (2, .int x2), (3, .int x3), (4, .int x4), (5, .int x5), (6, .int x6)] := lv_sub hl [0, 1, 2, 3, 4, 5, 6] rfl
        exact hk x1 x2 x3 x4 x5 x6 F A _ _ _ hl hP hD hS hf
      · rw [if_neg h125_6] at hf
        refine lv_aload_n hx hb d_M_join_128 rfl (lv_at hl 0 rfl) ?_
        refine va_get (D := (dC, dI)) (ci := 4) (v := .ref (o 16)) (C := R_M) (T := T_M) (N := 29) hx hb hts in_M hown hK hP 0 rfl rfl 25 (by decide) (hts _ mw_528) (fun _ h9 => h9) rfl d_M_join_129 ?_
        refine lv_iload hx hb d_M_join_132 (lv_at hl 4 rfl) ?_
        refine lv_aload_n hx hb d_M_join_134 rfl (lv_at hl 0 rfl) ?_
        refine lv_iload hx hb d_M_join_135 (lv_at hl 5 rfl) ?_
        refine lv_iload hx hb d_M_join_137 (lv_at hl 6 rfl) ?_
        have hP : va_P (dC, dI) vC (wM o cI F A) H := hP
        have hD : va_D (va_A (wM o cI Fa Aa) s.heap.size) (wM o cI F A) := hD
        obtain ⟨r7, F7, A7, hc, hf⟩ := ra_bi_some hf
        refine cc_calli (va_runV (As := [.int x5, .int x6]) (rest := [.int x4, .ref (o 16)]) ⟨hx, hb, hml, hown, hts⟩ (k_M_number l dC dI o cI H.size F A x5 x6 r7 F7 A7 hc) (cw_V 2 hts mw_648 mw_650 ms_M_number mw_5 mw_651 rfl rfl rfl hd_M_number ⟨Nat.le_of_ble_eq_true rfl, Nat.le_of_ble_eq_true rfl⟩) (cc_preV hK hP hD rfl (q0 := 0) rfl) rfl rfl hl.1 rfl (lv_room (Nat.le_of_ble_eq_true rfl)) d_M_join_139 ⟨Nat.zero_le _, Nat.zero_le _⟩) hD hS hA (fun H locs hP hD hS => ?_)
        obtain ⟨hi, hf⟩ := ra_g_some hf
        refine va_iast hx hb hK hP hD hS 16 0 rfl rfl hi d_M_join_142 (fun H locs hP hD hS => ?_)
        have hP : va_P (dC, dI) vC [((o 0), .inr (4, [.int (F7 0), .int (F7 1), .ref (o 1), .int (F7 2), .ref (o 2), .ref (o 3), .ref (o 4), .ref (o 5), .ref (o 6), .int (F7 3), .ref (o 7), .ref (o 8), .ref (o 9), .ref (o 10), .ref (o 11), .int (F7 4), .int (F7 5), .int (F7 6), .ref (o 12), .ref (o 13), .int (F7 7), .ref (o 14), .ref (o 15), .int (F7 8), .int (F7 9), .ref (o 16), .ref (o 17), .ref (o 18), .ref (o 19)])), ((o 1), .inl (cI, 160, .inl (A7 0))), ((o 2), .inl (cI, 100, .inl (A7 1))), ((o 3), .inl (cI, 100, .inl (A7 2))), ((o 4), .inl (cI, 100, .inl (A7 3))), ((o 5), .inl (cI, 3, .inl (A7 4))), ((o 6), .inl (cI, 26, .inl (A7 5))), ((o 7), .inl (cI, 100, .inl (A7 6))), ((o 8), .inl (cI, 100, .inl (A7 7))), ((o 9), .inl (cI, 100, .inl (A7 8))), ((o 10), .inl (cI, 26, .inl (A7 9))), ((o 11), .inl (cI, 104, .inl (A7 10))), ((o 12), .inl (cI, 80, .inl (A7 11))), ((o 13), .inl (cI, 320, .inl (A7 12))), ((o 14), .inl (cI, 200, .inl (A7 13))), ((o 15), .inl (cI, 200, .inl (A7 14))), ((o 16), .inl (cI, 4, .inl (upd (A7 15) x4.toNatClampNeg r7))), ((o 17), .inl (cI, 32, .inl (A7 16))), ((o 18), .inl (cI, 32, .inl (A7 17))), ((o 19), .inl (cI, 100, .inl (A7 18)))] H := hP
        have hD : va_D (va_A (wM o cI Fa Aa) s.heap.size) [((o 0), .inr (4, [.int (F7 0), .int (F7 1), .ref (o 1), .int (F7 2), .ref (o 2), .ref (o 3), .ref (o 4), .ref (o 5), .ref (o 6), .int (F7 3), .ref (o 7), .ref (o 8), .ref (o 9), .ref (o 10), .ref (o 11), .int (F7 4), .int (F7 5), .int (F7 6), .ref (o 12), .ref (o 13), .int (F7 7), .ref (o 14), .ref (o 15), .int (F7 8), .int (F7 9), .ref (o 16), .ref (o 17), .ref (o 18), .ref (o 19)])), ((o 1), .inl (cI, 160, .inl (A7 0))), ((o 2), .inl (cI, 100, .inl (A7 1))), ((o 3), .inl (cI, 100, .inl (A7 2))), ((o 4), .inl (cI, 100, .inl (A7 3))), ((o 5), .inl (cI, 3, .inl (A7 4))), ((o 6), .inl (cI, 26, .inl (A7 5))), ((o 7), .inl (cI, 100, .inl (A7 6))), ((o 8), .inl (cI, 100, .inl (A7 7))), ((o 9), .inl (cI, 100, .inl (A7 8))), ((o 10), .inl (cI, 26, .inl (A7 9))), ((o 11), .inl (cI, 104, .inl (A7 10))), ((o 12), .inl (cI, 80, .inl (A7 11))), ((o 13), .inl (cI, 320, .inl (A7 12))), ((o 14), .inl (cI, 200, .inl (A7 13))), ((o 15), .inl (cI, 200, .inl (A7 14))), ((o 16), .inl (cI, 4, .inl (upd (A7 15) x4.toNatClampNeg r7))), ((o 17), .inl (cI, 32, .inl (A7 16))), ((o 18), .inl (cI, 32, .inl (A7 17))), ((o 19), .inl (cI, 100, .inl (A7 18)))] := hD
        refine lv_iinc (k := 4) (v := (x4 + (1 : Int32))) hx hb d_M_join_143 hl rfl (by rfl) (by decide) rfl (fun ls hl => ?_)
        have hl : lv_has ls 7 [(4, .int (x4 + (1 : Int32))), (0, .ref (o 0)), (1, .int x1), (2, .int x2), (3, .int x3), (5, .int x5), (6, .int x6)] := hl
        refine lv_iinc (k := 6) (v := (x6 + (1 : Int32))) hx hb d_M_join_146 hl rfl (by rfl) (by decide) rfl (fun ls hl => ?_)
        have hl : lv_has ls 7 [(6, .int (x6 + (1 : Int32))), (4, .int (x4 + (1 : Int32))), (0, .ref (o 0)), (1, .int x1), (2, .int x2), (3, .int x3), (5, .int x5)] := hl
        refine lv_goto (tgt := 116) hx hb d_M_join_149 (by decide) ?_
        have hl : lv_has ls 7 [(0, .ref (o 0)), (1, .int x1), (2, .int x2), (3, .int x3), (4, .int (x4 + (1 : Int32))), (5, .int x5), (6, .int (x6 + (1 : Int32)))] := lv_sub hl [2, 3, 4, 5, 1, 6, 0] rfl
        exact ih x1 x2 x3 (x4 + (1 : Int32)) x5 (x6 + (1 : Int32)) F7 (va_up A7 15 (upd (A7 15) x4.toNatClampNeg r7)) _ _ _ hl hP hD hS hf
  have L104 : ∀ (n : Nat) (x1 : Int32) (x2 : Int32) (x3 : Int32) (x4 : Int32) (x5 : Int32) (F : ST_F) (A : ST_A) (H : Heap) (locs : List Loc) (ls : Array Slot), lv_has ls 7 [(0, .ref (o 0)), (1, .int x1), (2, .int x2), (3, .int x3), (4, .int x4), (5, .int x5)] → va_P (dC, dI) vC (wM o cI F A) H → va_D (va_A (wM o cI Fa Aa) s.heap.size) (wM o cI F A) → va_S (va_A (wM o cI Fa Aa) s.heap.size) s.heap H locs → f_M_join_L104 n x1 x2 x3 x4 x5 F A = some (F9, A9) → W p l e (headSpec (Cond.code y_M_join b_M_join 7 none :: wA) ({ frames := 2, cells := 0, slots := 0, locals := 43 } : Room)).room s m ([.ref (o 0), .int u1] : List Value).toArray below meth c H locs 0 0 (MQ below (cc_Qv (dC, dI) vC [(cI, .int)] (wM o cI Fa Aa) s.heap.size (wM o cI F9 A9)) ([.ref (o 0), .int u1] : List Value).toArray s 0 0 (va_A (wM o cI Fa Aa) s.heap.size)) (F0 m 104 ls []) := by
    intro n
    induction n with
    | zero => intro x1 x2 x3 x4 x5 F A H locs ls hl hP hD hS hf; cases hf
    | succ n ih =>
      intro x1 x2 x3 x4 x5 F A H locs ls hl hP hD hS hf
      rw [f_M_join_L104] at hf
      refine lv_iload hx hb d_M_join_104 (lv_at hl 5 rfl) ?_
      refine lv_aload_n hx hb d_M_join_106 rfl (lv_at hl 0 rfl) ?_
      refine va_get (D := (dC, dI)) (ci := 4) (v := .int (F 6)) (C := R_M) (T := T_M) (N := 29) hx hb hts in_M hown hK hP 0 rfl rfl 17 (by decide) (hts _ mw_520) (fun _ h9 => h9) rfl d_M_join_107 ?_
      refine lv_icmp_ge (tgt := 158) hx hb d_M_join_110 (by decide) (fun h110_4 => ?_) (fun h110_4 => ?_)
      · rw [if_pos h110_4] at hf
        refine lv_aload_n hx hb d_M_join_158 rfl (lv_at hl 0 rfl) ?_
        refine lv_iload_n hx hb d_M_join_159 rfl (lv_at hl 2 rfl) ?_
        refine va_put (D := (dC, dI)) (ci := 4) (v := .int x2) (ty := .int) (C := R_M) (T := T_M) (N := 29) hx hb hts in_M ty_M ty_M_ok nm_M hown hK hP hD hS 0 rfl rfl 17 (by decide) (hts _ mw_520) (fun _ h9 => h9) rfl (by decide +kernel) rfl rfl (Nat.le_of_ble_eq_true rfl) d_M_join_160 (fun H locs hP hD hS => ?_)
        have hP : va_P (dC, dI) vC [((o 0), .inr (4, [.int (F 0), .int (F 1), .ref (o 1), .int (F 2), .ref (o 2), .ref (o 3), .ref (o 4), .ref (o 5), .ref (o 6), .int (F 3), .ref (o 7), .ref (o 8), .ref (o 9), .ref (o 10), .ref (o 11), .int (F 4), .int (F 5), .int x2, .ref (o 12), .ref (o 13), .int (F 7), .ref (o 14), .ref (o 15), .int (F 8), .int (F 9), .ref (o 16), .ref (o 17), .ref (o 18), .ref (o 19)])), ((o 1), .inl (cI, 160, .inl (A 0))), ((o 2), .inl (cI, 100, .inl (A 1))), ((o 3), .inl (cI, 100, .inl (A 2))), ((o 4), .inl (cI, 100, .inl (A 3))), ((o 5), .inl (cI, 3, .inl (A 4))), ((o 6), .inl (cI, 26, .inl (A 5))), ((o 7), .inl (cI, 100, .inl (A 6))), ((o 8), .inl (cI, 100, .inl (A 7))), ((o 9), .inl (cI, 100, .inl (A 8))), ((o 10), .inl (cI, 26, .inl (A 9))), ((o 11), .inl (cI, 104, .inl (A 10))), ((o 12), .inl (cI, 80, .inl (A 11))), ((o 13), .inl (cI, 320, .inl (A 12))), ((o 14), .inl (cI, 200, .inl (A 13))), ((o 15), .inl (cI, 200, .inl (A 14))), ((o 16), .inl (cI, 4, .inl (A 15))), ((o 17), .inl (cI, 32, .inl (A 16))), ((o 18), .inl (cI, 32, .inl (A 17))), ((o 19), .inl (cI, 100, .inl (A 18)))] H := hP
        have hD : va_D (va_A (wM o cI Fa Aa) s.heap.size) [((o 0), .inr (4, [.int (F 0), .int (F 1), .ref (o 1), .int (F 2), .ref (o 2), .ref (o 3), .ref (o 4), .ref (o 5), .ref (o 6), .int (F 3), .ref (o 7), .ref (o 8), .ref (o 9), .ref (o 10), .ref (o 11), .int (F 4), .int (F 5), .int x2, .ref (o 12), .ref (o 13), .int (F 7), .ref (o 14), .ref (o 15), .int (F 8), .int (F 9), .ref (o 16), .ref (o 17), .ref (o 18), .ref (o 19)])), ((o 1), .inl (cI, 160, .inl (A 0))), ((o 2), .inl (cI, 100, .inl (A 1))), ((o 3), .inl (cI, 100, .inl (A 2))), ((o 4), .inl (cI, 100, .inl (A 3))), ((o 5), .inl (cI, 3, .inl (A 4))), ((o 6), .inl (cI, 26, .inl (A 5))), ((o 7), .inl (cI, 100, .inl (A 6))), ((o 8), .inl (cI, 100, .inl (A 7))), ((o 9), .inl (cI, 100, .inl (A 8))), ((o 10), .inl (cI, 26, .inl (A 9))), ((o 11), .inl (cI, 104, .inl (A 10))), ((o 12), .inl (cI, 80, .inl (A 11))), ((o 13), .inl (cI, 320, .inl (A 12))), ((o 14), .inl (cI, 200, .inl (A 13))), ((o 15), .inl (cI, 200, .inl (A 14))), ((o 16), .inl (cI, 4, .inl (A 15))), ((o 17), .inl (cI, 32, .inl (A 16))), ((o 18), .inl (cI, 32, .inl (A 17))), ((o 19), .inl (cI, 100, .inl (A 18)))] := hD
        refine lv_aload_n hx hb d_M_join_163 rfl (lv_at hl 0 rfl) ?_
        refine lv_iload_n hx hb d_M_join_164 rfl (lv_at hl 3 rfl) ?_
        have hP : va_P (dC, dI) vC (wM o cI (upd F 6 x2) A) H := hP
        have hD : va_D (va_A (wM o cI Fa Aa) s.heap.size) (wM o cI (upd F 6 x2) A) := hD
        obtain ⟨F5, A5, hc, hf⟩ := ra_bv_some hf
        refine cc_callv (va_runV (As := [.int x3]) (rest := []) ⟨hx, hb, hml, hown, hts⟩ (k_M_pushMade l dC dI o cI H.size (upd F 6 x2) A x3 F5 A5 hc) (cw_V 1 hts mw_656 mw_658 ms_M_pushMade mw_5 mw_659 rfl rfl rfl hd_M_pushMade ⟨Nat.le_of_ble_eq_true rfl, Nat.le_of_ble_eq_true rfl⟩) (cc_preV hK hP hD rfl (q0 := 0) rfl) rfl rfl hl.1 rfl (lv_room (Nat.le_of_ble_eq_true rfl)) d_M_join_165 ⟨Nat.zero_le _, Nat.zero_le _⟩) hD hS hA (fun H locs hP hD hS => ?_)
        cases hf
        exact W.vret hx hb hr (fun t ht hW => ⟨⟨(), rfl, trivial, by rw [ht]; exact hP, va_K.moved hW.alike hK, hD⟩, hS.F ht⟩) hS.2.2 d_M_join_168
      · rw [if_neg h110_4] at hf
        refine lv_iconst (v := 0) hx hb d_M_join_113 (by decide) ?_
        refine lv_istore hx hb d_M_join_114 hl (by decide) rfl (fun ls hl => ?_)
        have hl : lv_has ls 7 [(6, .int (0 : Int32)), (0, .ref (o 0)), (1, .int x1), (2, .int x2), (3, .int x3), (4, .int x4), (5, .int x5)] := hl
        have hl : lv_has ls 7 [(0, .ref (o 0)), (1, .int x1), (2, .int x2), (3, .int x3), (4, .int x4), (5, .int x5), (6, .int (0 : Int32))] := lv_sub hl [1, 2, 3, 4, 5, 6, 0] rfl
        refine L116 _ (fun y1_8 y2_8 y3_8 y4_8 y5_8 y6_8 F8 A8 H locs ls hl hP hD hS hf => ?_) 8 x1 x2 x3 x4 x5 (0 : Int32) F A _ _ _ hl hP hD hS hf
        refine lv_iinc (k := 5) (v := (y5_8 + (1 : Int32))) hx hb d_M_join_152 hl rfl (by rfl) (by decide) rfl (fun ls hl => ?_)
        have hl : lv_has ls 7 [(5, .int (y5_8 + (1 : Int32))), (0, .ref (o 0)), (1, .int y1_8), (2, .int y2_8), (3, .int y3_8), (4, .int y4_8), (6, .int y6_8)] := hl
        refine lv_goto (tgt := 104) hx hb d_M_join_155 (by decide) ?_
        have hl : lv_has ls 7 [(0, .ref (o 0)), (1, .int y1_8), (2, .int y2_8), (3, .int y3_8), (4, .int y4_8), (5, .int (y5_8 + (1 : Int32)))] := lv_sub hl [1, 2, 3, 4, 5, 0] rfl
        exact ih y1_8 y2_8 y3_8 y4_8 (y5_8 + (1 : Int32)) F8 A8 _ _ _ hl hP hD hS hf
  have J87 : ∀ (x1 : Int32) (x2 : Int32) (x3 : Int32) (x4 : Int32) (z0 : Int32) (F : ST_F) (A : ST_A) (H : Heap) (locs : List Loc) (ls : Array Slot), lv_has ls 7 [(0, .ref (o 0)), (1, .int x1), (2, .int x2), (3, .int x3), (4, .int x4)] → va_P (dC, dI) vC (wM o cI F A) H → va_D (va_A (wM o cI Fa Aa) s.heap.size) (wM o cI F A) → va_S (va_A (wM o cI Fa Aa) s.heap.size) s.heap H locs → f_M_join_J87 x1 x2 x3 x4 z0 F A = some (F9, A9) → W p l e (headSpec (Cond.code y_M_join b_M_join 7 none :: wA) ({ frames := 2, cells := 0, slots := 0, locals := 43 } : Room)).room s m ([.ref (o 0), .int u1] : List Value).toArray below meth c H locs 0 0 (MQ below (cc_Qv (dC, dI) vC [(cI, .int)] (wM o cI Fa Aa) s.heap.size (wM o cI F9 A9)) ([.ref (o 0), .int u1] : List Value).toArray s 0 0 (va_A (wM o cI Fa Aa) s.heap.size)) (F0 m 87 ls [.int z0, .ref (o 0)]) := by
    intro x1 x2 x3 x4 z0 F A H locs ls hl hP hD hS hf
    unfold f_M_join_J87 at hf
    obtain ⟨hn, hfit, hf⟩ := ra_zb_some hf
    refine va_put (D := (dC, dI)) (ci := 4) (v := .int z0) (ty := .boolean) (C := R_M) (T := T_M) (N := 29) hx hb hts in_M ty_M ty_M_ok nm_M hown hK hP hD hS 0 rfl rfl 16 (by decide) (hts _ mw_519) (fun _ h9 => h9) rfl (by decide +kernel) hn hfit (Nat.le_of_ble_eq_true rfl) d_M_join_87 (fun H locs hP hD hS => ?_)
    have hP : va_P (dC, dI) vC [((o 0), .inr (4, [.int (F 0), .int (F 1), .ref (o 1), .int (F 2), .ref (o 2), .ref (o 3), .ref (o 4), .ref (o 5), .ref (o 6), .int (F 3), .ref (o 7), .ref (o 8), .ref (o 9), .ref (o 10), .ref (o 11), .int (F 4), .int z0, .int (F 6), .ref (o 12), .ref (o 13), .int (F 7), .ref (o 14), .ref (o 15), .int (F 8), .int (F 9), .ref (o 16), .ref (o 17), .ref (o 18), .ref (o 19)])), ((o 1), .inl (cI, 160, .inl (A 0))), ((o 2), .inl (cI, 100, .inl (A 1))), ((o 3), .inl (cI, 100, .inl (A 2))), ((o 4), .inl (cI, 100, .inl (A 3))), ((o 5), .inl (cI, 3, .inl (A 4))), ((o 6), .inl (cI, 26, .inl (A 5))), ((o 7), .inl (cI, 100, .inl (A 6))), ((o 8), .inl (cI, 100, .inl (A 7))), ((o 9), .inl (cI, 100, .inl (A 8))), ((o 10), .inl (cI, 26, .inl (A 9))), ((o 11), .inl (cI, 104, .inl (A 10))), ((o 12), .inl (cI, 80, .inl (A 11))), ((o 13), .inl (cI, 320, .inl (A 12))), ((o 14), .inl (cI, 200, .inl (A 13))), ((o 15), .inl (cI, 200, .inl (A 14))), ((o 16), .inl (cI, 4, .inl (A 15))), ((o 17), .inl (cI, 32, .inl (A 16))), ((o 18), .inl (cI, 32, .inl (A 17))), ((o 19), .inl (cI, 100, .inl (A 18)))] H := hP
    have hD : va_D (va_A (wM o cI Fa Aa) s.heap.size) [((o 0), .inr (4, [.int (F 0), .int (F 1), .ref (o 1), .int (F 2), .ref (o 2), .ref (o 3), .ref (o 4), .ref (o 5), .ref (o 6), .int (F 3), .ref (o 7), .ref (o 8), .ref (o 9), .ref (o 10), .ref (o 11), .int (F 4), .int z0, .int (F 6), .ref (o 12), .ref (o 13), .int (F 7), .ref (o 14), .ref (o 15), .int (F 8), .int (F 9), .ref (o 16), .ref (o 17), .ref (o 18), .ref (o 19)])), ((o 1), .inl (cI, 160, .inl (A 0))), ((o 2), .inl (cI, 100, .inl (A 1))), ((o 3), .inl (cI, 100, .inl (A 2))), ((o 4), .inl (cI, 100, .inl (A 3))), ((o 5), .inl (cI, 3, .inl (A 4))), ((o 6), .inl (cI, 26, .inl (A 5))), ((o 7), .inl (cI, 100, .inl (A 6))), ((o 8), .inl (cI, 100, .inl (A 7))), ((o 9), .inl (cI, 100, .inl (A 8))), ((o 10), .inl (cI, 26, .inl (A 9))), ((o 11), .inl (cI, 104, .inl (A 10))), ((o 12), .inl (cI, 80, .inl (A 11))), ((o 13), .inl (cI, 320, .inl (A 12))), ((o 14), .inl (cI, 200, .inl (A 13))), ((o 15), .inl (cI, 200, .inl (A 14))), ((o 16), .inl (cI, 4, .inl (A 15))), ((o 17), .inl (cI, 32, .inl (A 16))), ((o 18), .inl (cI, 32, .inl (A 17))), ((o 19), .inl (cI, 100, .inl (A 18)))] := hD
    refine lv_aload_n hx hb d_M_join_90 rfl (lv_at hl 0 rfl) ?_
    refine va_get (D := (dC, dI)) (ci := 4) (v := .int z0) (C := R_M) (T := T_M) (N := 29) hx hb hts in_M hown hK hP 0 rfl rfl 16 (by decide) (hts _ mw_519) (fun _ h9 => h9) rfl d_M_join_91 ?_
    refine lv_if_eq (tgt := 98) hx hb d_M_join_94 (by decide) (fun h94_3 => ?_) (fun h94_3 => ?_)
    · rw [if_pos h94_3] at hf
      refine lv_iconst (v := 0) hx hb d_M_join_98 (by decide) ?_
      refine lv_istore hx hb d_M_join_99 hl (by decide) rfl (fun ls hl => ?_)
      have hl : lv_has ls 7 [(4, .int (0 : Int32)), (0, .ref (o 0)), (1, .int x1), (2, .int x2), (3, .int x3)] := hl
      refine lv_iload_n hx hb d_M_join_101 rfl (lv_at hl 3 rfl) ?_
      refine lv_istore hx hb d_M_join_102 hl (by decide) rfl (fun ls hl => ?_)
      have hl : lv_has ls 7 [(5, .int x2), (4, .int (0 : Int32)), (0, .ref (o 0)), (1, .int x1), (2, .int x2), (3, .int x3)] := hl
      have hl : lv_has ls 7 [(0, .ref (o 0)), (1, .int x1), (2, .int x2), (3, .int x3), (4, .int (0 : Int32)), (5, .int x2)] := lv_sub hl [2, 3, 4, 5, 1, 0] rfl
      exact L104 8 x1 x2 x3 (0 : Int32) x2 (upd F 5 z0) A _ _ _ hl hP hD hS hf
    · rw [if_neg h94_3] at hf
      cases hf
      exact W.vret hx hb hr (fun t ht hW => ⟨⟨(), rfl, trivial, by rw [ht]; exact hP, va_K.moved hW.alike hK, hD⟩, hS.F ht⟩) hS.2.2 d_M_join_97
  have J82 : ∀ (x1 : Int32) (x2 : Int32) (x3 : Int32) (x4 : Int32) (F : ST_F) (A : ST_A) (H : Heap) (locs : List Loc) (ls : Array Slot), lv_has ls 7 [(0, .ref (o 0)), (1, .int x1), (2, .int x2), (3, .int x3), (4, .int x4)] → va_P (dC, dI) vC (wM o cI F A) H → va_D (va_A (wM o cI Fa Aa) s.heap.size) (wM o cI F A) → va_S (va_A (wM o cI Fa Aa) s.heap.size) s.heap H locs → f_M_join_J82 x1 x2 x3 x4 F A = some (F9, A9) → W p l e (headSpec (Cond.code y_M_join b_M_join 7 none :: wA) ({ frames := 2, cells := 0, slots := 0, locals := 43 } : Room)).room s m ([.ref (o 0), .int u1] : List Value).toArray below meth c H locs 0 0 (MQ below (cc_Qv (dC, dI) vC [(cI, .int)] (wM o cI Fa Aa) s.heap.size (wM o cI F9 A9)) ([.ref (o 0), .int u1] : List Value).toArray s 0 0 (va_A (wM o cI Fa Aa) s.heap.size)) (F0 m 82 ls [.ref (o 0)]) := by
    intro x1 x2 x3 x4 F A H locs ls hl hP hD hS hf
    unfold f_M_join_J82 at hf
    refine lv_iconst (v := 1) hx hb d_M_join_82 (by decide) ?_
    refine lv_goto (tgt := 87) hx hb d_M_join_83 (by decide) ?_
    have hl : lv_has ls 7 [(0, .ref (o 0)), (1, .int x1), (2, .int x2), (3, .int x3), (4, .int x4)] := lv_sub hl [0, 1, 2, 3, 4] rfl
    exact J87 x1 x2 x3 x4 (1 : Int32) F A _ _ _ hl hP hD hS hf
  have L12 : ∀ (n : Nat) (x1 : Int32) (x2 : Int32) (x3 : Int32) (x4 : Int32) (F : ST_F) (A : ST_A) (H : Heap) (locs : List Loc) (ls : Array Slot), lv_has ls 7 [(0, .ref (o 0)), (1, .int x1), (2, .int x2), (3, .int x3), (4, .int x4)] → va_P (dC, dI) vC (wM o cI F A) H → va_D (va_A (wM o cI Fa Aa) s.heap.size) (wM o cI F A) → va_S (va_A (wM o cI Fa Aa) s.heap.size) s.heap H locs → f_M_join_L12 n x1 x2 x3 x4 F A = some (F9, A9) → W p l e (headSpec (Cond.code y_M_join b_M_join 7 none :: wA) ({ frames := 2, cells := 0, slots := 0, locals := 43 } : Room)).room s m ([.ref (o 0), .int u1] : List Value).toArray below meth c H locs 0 0 (MQ below (cc_Qv (dC, dI) vC [(cI, .int)] (wM o cI Fa Aa) s.heap.size (wM o cI F9 A9)) ([.ref (o 0), .int u1] : List Value).toArray s 0 0 (va_A (wM o cI Fa Aa) s.heap.size)) (F0 m 12 ls []) := by
    intro n
    induction n with
    | zero => intro x1 x2 x3 x4 F A H locs ls hl hP hD hS hf; cases hf
    | succ n ih =>
      intro x1 x2 x3 x4 F A H locs ls hl hP hD hS hf
      rw [f_M_join_L12] at hf
      refine lv_iload hx hb d_M_join_12 (lv_at hl 4 rfl) ?_
      refine lv_aload_n hx hb d_M_join_14 rfl (lv_at hl 0 rfl) ?_
      refine va_get (D := (dC, dI)) (ci := 4) (v := .int (F 6)) (C := R_M) (T := T_M) (N := 29) hx hb hts in_M hown hK hP 0 rfl rfl 17 (by decide) (hts _ mw_520) (fun _ h9 => h9) rfl d_M_join_15 ?_
      refine lv_icmp_ge (tgt := 64) hx hb d_M_join_18 (by decide) (fun h18_1 => ?_) (fun h18_1 => ?_)
      · rw [if_pos h18_1] at hf
        refine lv_aload_n hx hb d_M_join_64 rfl (lv_at hl 0 rfl) ?_
        refine lv_aload_n hx hb d_M_join_65 rfl (lv_at hl 0 rfl) ?_
        refine va_get (D := (dC, dI)) (ci := 4) (v := .int (F 5)) (C := R_M) (T := T_M) (N := 29) hx hb hts in_M hown hK hP 0 rfl rfl 16 (by decide) (hts _ mw_519) (fun _ h9 => h9) rfl d_M_join_66 ?_
        refine lv_if_ne (tgt := 82) hx hb d_M_join_69 (by decide) (fun h69_2 => ?_) (fun h69_2 => ?_)
        · rw [if_neg h69_2] at hf
          have hl : lv_has ls 7 [(0, .ref (o 0)), (1, .int x1), (2, .int x2), (3, .int x3), (4, .int x4)] := lv_sub hl [0, 1, 2, 3, 4] rfl
          exact J82 x1 x2 x3 x4 F A _ _ _ hl hP hD hS hf
        · rw [if_pos h69_2] at hf
          refine lv_iload_n hx hb d_M_join_72 rfl (lv_at hl 3 rfl) ?_
          refine lv_iconst (v := 2) hx hb d_M_join_73 (by decide) ?_
          refine lv_icmp_lt (tgt := 82) hx hb d_M_join_74 (by decide) (fun h74_9 => ?_) (fun h74_9 => ?_)
          · rw [if_pos h74_9] at hf
            have hl : lv_has ls 7 [(0, .ref (o 0)), (1, .int x1), (2, .int x2), (3, .int x3), (4, .int x4)] := lv_sub hl [0, 1, 2, 3, 4] rfl
            exact J82 x1 x2 x3 x4 F A _ _ _ hl hP hD hS hf
          · rw [if_neg h74_9] at hf
            refine lv_iload_n hx hb d_M_join_77 rfl (lv_at hl 3 rfl) ?_
            refine lv_iconst (v := 3) hx hb d_M_join_78 (by decide) ?_
            refine lv_icmp_le (tgt := 86) hx hb d_M_join_79 (by decide) (fun h79_10 => ?_) (fun h79_10 => ?_)
            · rw [if_pos h79_10] at hf
              refine lv_iconst (v := 0) hx hb d_M_join_86 (by decide) ?_
              have hl : lv_has ls 7 [(0, .ref (o 0)), (1, .int x1), (2, .int x2), (3, .int x3), (4, .int x4)] := lv_sub hl [0, 1, 2, 3, 4] rfl
              exact J87 x1 x2 x3 x4 (0 : Int32) F A _ _ _ hl hP hD hS hf
            · rw [if_neg h79_10] at hf
              have hl : lv_has ls 7 [(0, .ref (o 0)), (1, .int x1), (2, .int x2), (3, .int x3), (4, .int x4)] := lv_sub hl [0, 1, 2, 3, 4] rfl
              exact J82 x1 x2 x3 x4 F A _ _ _ hl hP hD hS hf
      · rw [if_neg h18_1] at hf
        refine lv_aload_n hx hb d_M_join_21 rfl (lv_at hl 0 rfl) ?_
        refine lv_aload_n hx hb d_M_join_22 rfl (lv_at hl 0 rfl) ?_
        refine va_get (D := (dC, dI)) (ci := 4) (v := .int (F 5)) (C := R_M) (T := T_M) (N := 29) hx hb hts in_M hown hK hP 0 rfl rfl 16 (by decide) (hts _ mw_519) (fun _ h9 => h9) rfl d_M_join_23 ?_
        refine lv_if_ne (tgt := 40) hx hb d_M_join_26 (by decide) (fun h26_11 => ?_) (fun h26_11 => ?_)
        · rw [if_neg h26_11] at hf
          refine lv_iconst (v := 1) hx hb d_M_join_40 (by decide) ?_
          refine lv_goto (tgt := 45) hx hb d_M_join_41 (by decide) ?_
          refine va_put (D := (dC, dI)) (ci := 4) (v := .int (1 : Int32)) (ty := .boolean) (C := R_M) (T := T_M) (N := 29) hx hb hts in_M ty_M ty_M_ok nm_M hown hK hP hD hS 0 rfl rfl 16 (by decide) (hts _ mw_519) (fun _ h9 => h9) rfl (by decide +kernel) rfl rfl (Nat.le_of_ble_eq_true rfl) d_M_join_45 (fun H locs hP hD hS => ?_)
          have hP : va_P (dC, dI) vC [((o 0), .inr (4, [.int (F 0), .int (F 1), .ref (o 1), .int (F 2), .ref (o 2), .ref (o 3), .ref (o 4), .ref (o 5), .ref (o 6), .int (F 3), .ref (o 7), .ref (o 8), .ref (o 9), .ref (o 10), .ref (o 11), .int (F 4), .int (1 : Int32), .int (F 6), .ref (o 12), .ref (o 13), .int (F 7), .ref (o 14), .ref (o 15), .int (F 8), .int (F 9), .ref (o 16), .ref (o 17), .ref (o 18), .ref (o 19)])), ((o 1), .inl (cI, 160, .inl (A 0))), ((o 2), .inl (cI, 100, .inl (A 1))), ((o 3), .inl (cI, 100, .inl (A 2))), ((o 4), .inl (cI, 100, .inl (A 3))), ((o 5), .inl (cI, 3, .inl (A 4))), ((o 6), .inl (cI, 26, .inl (A 5))), ((o 7), .inl (cI, 100, .inl (A 6))), ((o 8), .inl (cI, 100, .inl (A 7))), ((o 9), .inl (cI, 100, .inl (A 8))), ((o 10), .inl (cI, 26, .inl (A 9))), ((o 11), .inl (cI, 104, .inl (A 10))), ((o 12), .inl (cI, 80, .inl (A 11))), ((o 13), .inl (cI, 320, .inl (A 12))), ((o 14), .inl (cI, 200, .inl (A 13))), ((o 15), .inl (cI, 200, .inl (A 14))), ((o 16), .inl (cI, 4, .inl (A 15))), ((o 17), .inl (cI, 32, .inl (A 16))), ((o 18), .inl (cI, 32, .inl (A 17))), ((o 19), .inl (cI, 100, .inl (A 18)))] H := hP
          have hD : va_D (va_A (wM o cI Fa Aa) s.heap.size) [((o 0), .inr (4, [.int (F 0), .int (F 1), .ref (o 1), .int (F 2), .ref (o 2), .ref (o 3), .ref (o 4), .ref (o 5), .ref (o 6), .int (F 3), .ref (o 7), .ref (o 8), .ref (o 9), .ref (o 10), .ref (o 11), .int (F 4), .int (1 : Int32), .int (F 6), .ref (o 12), .ref (o 13), .int (F 7), .ref (o 14), .ref (o 15), .int (F 8), .int (F 9), .ref (o 16), .ref (o 17), .ref (o 18), .ref (o 19)])), ((o 1), .inl (cI, 160, .inl (A 0))), ((o 2), .inl (cI, 100, .inl (A 1))), ((o 3), .inl (cI, 100, .inl (A 2))), ((o 4), .inl (cI, 100, .inl (A 3))), ((o 5), .inl (cI, 3, .inl (A 4))), ((o 6), .inl (cI, 26, .inl (A 5))), ((o 7), .inl (cI, 100, .inl (A 6))), ((o 8), .inl (cI, 100, .inl (A 7))), ((o 9), .inl (cI, 100, .inl (A 8))), ((o 10), .inl (cI, 26, .inl (A 9))), ((o 11), .inl (cI, 104, .inl (A 10))), ((o 12), .inl (cI, 80, .inl (A 11))), ((o 13), .inl (cI, 320, .inl (A 12))), ((o 14), .inl (cI, 200, .inl (A 13))), ((o 15), .inl (cI, 200, .inl (A 14))), ((o 16), .inl (cI, 4, .inl (A 15))), ((o 17), .inl (cI, 32, .inl (A 16))), ((o 18), .inl (cI, 32, .inl (A 17))), ((o 19), .inl (cI, 100, .inl (A 18)))] := hD
          refine lv_iload_n hx hb d_M_join_48 rfl (lv_at hl 3 rfl) ?_
          refine lv_aload_n hx hb d_M_join_49 rfl (lv_at hl 0 rfl) ?_
          refine va_get (D := (dC, dI)) (ci := 4) (v := .ref (o 12)) (C := R_M) (T := T_M) (N := 29) hx hb hts in_M hown hK hP 0 rfl rfl 18 (by decide) (hts _ mw_521) (fun _ h9 => h9) rfl d_M_join_50 ?_
          refine lv_iload hx hb d_M_join_53 (lv_at hl 4 rfl) ?_
          obtain ⟨hi, hf⟩ := ra_g_some hf
          refine va_iald hx hb hK hP 12 0 rfl rfl hi d_M_join_55 ?_
          refine lv_iadd hx hb d_M_join_56 ?_
          refine lv_istore_n hx hb d_M_join_57 rfl hl (by decide) rfl (fun ls hl => ?_)
          have hl : lv_has ls 7 [(3, .int (x3 + ((A 11) x4.toNatClampNeg))), (0, .ref (o 0)), (1, .int x1), (2, .int x2), (4, .int x4)] := hl
          refine lv_iinc (k := 4) (v := (x4 + (1 : Int32))) hx hb d_M_join_58 hl rfl (by rfl) (by decide) rfl (fun ls hl => ?_)
          have hl : lv_has ls 7 [(4, .int (x4 + (1 : Int32))), (3, .int (x3 + ((A 11) x4.toNatClampNeg))), (0, .ref (o 0)), (1, .int x1), (2, .int x2)] := hl
          refine lv_goto (tgt := 12) hx hb d_M_join_61 (by decide) ?_
          have hl : lv_has ls 7 [(0, .ref (o 0)), (1, .int x1), (2, .int x2), (3, .int (x3 + ((A 11) x4.toNatClampNeg))), (4, .int (x4 + (1 : Int32)))] := lv_sub hl [2, 3, 4, 1, 0] rfl
          exact ih x1 x2 (x3 + ((A 11) x4.toNatClampNeg)) (x4 + (1 : Int32)) (upd F 5 (1 : Int32)) A _ _ _ hl hP hD hS hf
        · rw [if_pos h26_11] at hf
          refine lv_aload_n hx hb d_M_join_29 rfl (lv_at hl 0 rfl) ?_
          refine va_get (D := (dC, dI)) (ci := 4) (v := .ref (o 12)) (C := R_M) (T := T_M) (N := 29) hx hb hts in_M hown hK hP 0 rfl rfl 18 (by decide) (hts _ mw_521) (fun _ h9 => h9) rfl d_M_join_30 ?_
          refine lv_iload hx hb d_M_join_33 (lv_at hl 4 rfl) ?_
          obtain ⟨hi, hf⟩ := ra_g_some hf
          refine va_iald hx hb hK hP 12 0 rfl rfl hi d_M_join_35 ?_
          refine lv_iconst (v := 3) hx hb d_M_join_36 (by decide) ?_
          refine lv_icmp_le (tgt := 44) hx hb d_M_join_37 (by decide) (fun h37_12 => ?_) (fun h37_12 => ?_)
          · rw [if_pos h37_12] at hf
            refine lv_iconst (v := 0) hx hb d_M_join_44 (by decide) ?_
            refine va_put (D := (dC, dI)) (ci := 4) (v := .int (0 : Int32)) (ty := .boolean) (C := R_M) (T := T_M) (N := 29) hx hb hts in_M ty_M ty_M_ok nm_M hown hK hP hD hS 0 rfl rfl 16 (by decide) (hts _ mw_519) (fun _ h9 => h9) rfl (by decide +kernel) rfl rfl (Nat.le_of_ble_eq_true rfl) d_M_join_45 (fun H locs hP hD hS => ?_)
            have hP : va_P (dC, dI) vC [((o 0), .inr (4, [.int (F 0), .int (F 1), .ref (o 1), .int (F 2), .ref (o 2), .ref (o 3), .ref (o 4), .ref (o 5), .ref (o 6), .int (F 3), .ref (o 7), .ref (o 8), .ref (o 9), .ref (o 10), .ref (o 11), .int (F 4), .int (0 : Int32), .int (F 6), .ref (o 12), .ref (o 13), .int (F 7), .ref (o 14), .ref (o 15), .int (F 8), .int (F 9), .ref (o 16), .ref (o 17), .ref (o 18), .ref (o 19)])), ((o 1), .inl (cI, 160, .inl (A 0))), ((o 2), .inl (cI, 100, .inl (A 1))), ((o 3), .inl (cI, 100, .inl (A 2))), ((o 4), .inl (cI, 100, .inl (A 3))), ((o 5), .inl (cI, 3, .inl (A 4))), ((o 6), .inl (cI, 26, .inl (A 5))), ((o 7), .inl (cI, 100, .inl (A 6))), ((o 8), .inl (cI, 100, .inl (A 7))), ((o 9), .inl (cI, 100, .inl (A 8))), ((o 10), .inl (cI, 26, .inl (A 9))), ((o 11), .inl (cI, 104, .inl (A 10))), ((o 12), .inl (cI, 80, .inl (A 11))), ((o 13), .inl (cI, 320, .inl (A 12))), ((o 14), .inl (cI, 200, .inl (A 13))), ((o 15), .inl (cI, 200, .inl (A 14))), ((o 16), .inl (cI, 4, .inl (A 15))), ((o 17), .inl (cI, 32, .inl (A 16))), ((o 18), .inl (cI, 32, .inl (A 17))), ((o 19), .inl (cI, 100, .inl (A 18)))] H := hP
            have hD : va_D (va_A (wM o cI Fa Aa) s.heap.size) [((o 0), .inr (4, [.int (F 0), .int (F 1), .ref (o 1), .int (F 2), .ref (o 2), .ref (o 3), .ref (o 4), .ref (o 5), .ref (o 6), .int (F 3), .ref (o 7), .ref (o 8), .ref (o 9), .ref (o 10), .ref (o 11), .int (F 4), .int (0 : Int32), .int (F 6), .ref (o 12), .ref (o 13), .int (F 7), .ref (o 14), .ref (o 15), .int (F 8), .int (F 9), .ref (o 16), .ref (o 17), .ref (o 18), .ref (o 19)])), ((o 1), .inl (cI, 160, .inl (A 0))), ((o 2), .inl (cI, 100, .inl (A 1))), ((o 3), .inl (cI, 100, .inl (A 2))), ((o 4), .inl (cI, 100, .inl (A 3))), ((o 5), .inl (cI, 3, .inl (A 4))), ((o 6), .inl (cI, 26, .inl (A 5))), ((o 7), .inl (cI, 100, .inl (A 6))), ((o 8), .inl (cI, 100, .inl (A 7))), ((o 9), .inl (cI, 100, .inl (A 8))), ((o 10), .inl (cI, 26, .inl (A 9))), ((o 11), .inl (cI, 104, .inl (A 10))), ((o 12), .inl (cI, 80, .inl (A 11))), ((o 13), .inl (cI, 320, .inl (A 12))), ((o 14), .inl (cI, 200, .inl (A 13))), ((o 15), .inl (cI, 200, .inl (A 14))), ((o 16), .inl (cI, 4, .inl (A 15))), ((o 17), .inl (cI, 32, .inl (A 16))), ((o 18), .inl (cI, 32, .inl (A 17))), ((o 19), .inl (cI, 100, .inl (A 18)))] := hD
            refine lv_iload_n hx hb d_M_join_48 rfl (lv_at hl 3 rfl) ?_
            refine lv_aload_n hx hb d_M_join_49 rfl (lv_at hl 0 rfl) ?_
            refine va_get (D := (dC, dI)) (ci := 4) (v := .ref (o 12)) (C := R_M) (T := T_M) (N := 29) hx hb hts in_M hown hK hP 0 rfl rfl 18 (by decide) (hts _ mw_521) (fun _ h9 => h9) rfl d_M_join_50 ?_
            refine lv_iload hx hb d_M_join_53 (lv_at hl 4 rfl) ?_
            obtain ⟨hi, hf⟩ := ra_g_some hf
            refine va_iald hx hb hK hP 12 0 rfl rfl hi d_M_join_55 ?_
            refine lv_iadd hx hb d_M_join_56 ?_
            refine lv_istore_n hx hb d_M_join_57 rfl hl (by decide) rfl (fun ls hl => ?_)
            have hl : lv_has ls 7 [(3, .int (x3 + ((A 11) x4.toNatClampNeg))), (0, .ref (o 0)), (1, .int x1), (2, .int x2), (4, .int x4)] := hl
            refine lv_iinc (k := 4) (v := (x4 + (1 : Int32))) hx hb d_M_join_58 hl rfl (by rfl) (by decide) rfl (fun ls hl => ?_)
            have hl : lv_has ls 7 [(4, .int (x4 + (1 : Int32))), (3, .int (x3 + ((A 11) x4.toNatClampNeg))), (0, .ref (o 0)), (1, .int x1), (2, .int x2)] := hl
            refine lv_goto (tgt := 12) hx hb d_M_join_61 (by decide) ?_
            have hl : lv_has ls 7 [(0, .ref (o 0)), (1, .int x1), (2, .int x2), (3, .int (x3 + ((A 11) x4.toNatClampNeg))), (4, .int (x4 + (1 : Int32)))] := lv_sub hl [2, 3, 4, 1, 0] rfl
            exact ih x1 x2 (x3 + ((A 11) x4.toNatClampNeg)) (x4 + (1 : Int32)) (upd F 5 (0 : Int32)) A _ _ _ hl hP hD hS hf
          · rw [if_neg h37_12] at hf
            refine lv_iconst (v := 1) hx hb d_M_join_40 (by decide) ?_
            refine lv_goto (tgt := 45) hx hb d_M_join_41 (by decide) ?_
            refine va_put (D := (dC, dI)) (ci := 4) (v := .int (1 : Int32)) (ty := .boolean) (C := R_M) (T := T_M) (N := 29) hx hb hts in_M ty_M ty_M_ok nm_M hown hK hP hD hS 0 rfl rfl 16 (by decide) (hts _ mw_519) (fun _ h9 => h9) rfl (by decide +kernel) rfl rfl (Nat.le_of_ble_eq_true rfl) d_M_join_45 (fun H locs hP hD hS => ?_)
            have hP : va_P (dC, dI) vC [((o 0), .inr (4, [.int (F 0), .int (F 1), .ref (o 1), .int (F 2), .ref (o 2), .ref (o 3), .ref (o 4), .ref (o 5), .ref (o 6), .int (F 3), .ref (o 7), .ref (o 8), .ref (o 9), .ref (o 10), .ref (o 11), .int (F 4), .int (1 : Int32), .int (F 6), .ref (o 12), .ref (o 13), .int (F 7), .ref (o 14), .ref (o 15), .int (F 8), .int (F 9), .ref (o 16), .ref (o 17), .ref (o 18), .ref (o 19)])), ((o 1), .inl (cI, 160, .inl (A 0))), ((o 2), .inl (cI, 100, .inl (A 1))), ((o 3), .inl (cI, 100, .inl (A 2))), ((o 4), .inl (cI, 100, .inl (A 3))), ((o 5), .inl (cI, 3, .inl (A 4))), ((o 6), .inl (cI, 26, .inl (A 5))), ((o 7), .inl (cI, 100, .inl (A 6))), ((o 8), .inl (cI, 100, .inl (A 7))), ((o 9), .inl (cI, 100, .inl (A 8))), ((o 10), .inl (cI, 26, .inl (A 9))), ((o 11), .inl (cI, 104, .inl (A 10))), ((o 12), .inl (cI, 80, .inl (A 11))), ((o 13), .inl (cI, 320, .inl (A 12))), ((o 14), .inl (cI, 200, .inl (A 13))), ((o 15), .inl (cI, 200, .inl (A 14))), ((o 16), .inl (cI, 4, .inl (A 15))), ((o 17), .inl (cI, 32, .inl (A 16))), ((o 18), .inl (cI, 32, .inl (A 17))), ((o 19), .inl (cI, 100, .inl (A 18)))] H := hP
            have hD : va_D (va_A (wM o cI Fa Aa) s.heap.size) [((o 0), .inr (4, [.int (F 0), .int (F 1), .ref (o 1), .int (F 2), .ref (o 2), .ref (o 3), .ref (o 4), .ref (o 5), .ref (o 6), .int (F 3), .ref (o 7), .ref (o 8), .ref (o 9), .ref (o 10), .ref (o 11), .int (F 4), .int (1 : Int32), .int (F 6), .ref (o 12), .ref (o 13), .int (F 7), .ref (o 14), .ref (o 15), .int (F 8), .int (F 9), .ref (o 16), .ref (o 17), .ref (o 18), .ref (o 19)])), ((o 1), .inl (cI, 160, .inl (A 0))), ((o 2), .inl (cI, 100, .inl (A 1))), ((o 3), .inl (cI, 100, .inl (A 2))), ((o 4), .inl (cI, 100, .inl (A 3))), ((o 5), .inl (cI, 3, .inl (A 4))), ((o 6), .inl (cI, 26, .inl (A 5))), ((o 7), .inl (cI, 100, .inl (A 6))), ((o 8), .inl (cI, 100, .inl (A 7))), ((o 9), .inl (cI, 100, .inl (A 8))), ((o 10), .inl (cI, 26, .inl (A 9))), ((o 11), .inl (cI, 104, .inl (A 10))), ((o 12), .inl (cI, 80, .inl (A 11))), ((o 13), .inl (cI, 320, .inl (A 12))), ((o 14), .inl (cI, 200, .inl (A 13))), ((o 15), .inl (cI, 200, .inl (A 14))), ((o 16), .inl (cI, 4, .inl (A 15))), ((o 17), .inl (cI, 32, .inl (A 16))), ((o 18), .inl (cI, 32, .inl (A 17))), ((o 19), .inl (cI, 100, .inl (A 18)))] := hD
            refine lv_iload_n hx hb d_M_join_48 rfl (lv_at hl 3 rfl) ?_
            refine lv_aload_n hx hb d_M_join_49 rfl (lv_at hl 0 rfl) ?_
            refine va_get (D := (dC, dI)) (ci := 4) (v := .ref (o 12)) (C := R_M) (T := T_M) (N := 29) hx hb hts in_M hown hK hP 0 rfl rfl 18 (by decide) (hts _ mw_521) (fun _ h9 => h9) rfl d_M_join_50 ?_
            refine lv_iload hx hb d_M_join_53 (lv_at hl 4 rfl) ?_
            obtain ⟨hi, hf⟩ := ra_g_some hf
            refine va_iald hx hb hK hP 12 0 rfl rfl hi d_M_join_55 ?_
            refine lv_iadd hx hb d_M_join_56 ?_
            refine lv_istore_n hx hb d_M_join_57 rfl hl (by decide) rfl (fun ls hl => ?_)
            have hl : lv_has ls 7 [(3, .int (x3 + ((A 11) x4.toNatClampNeg))), (0, .ref (o 0)), (1, .int x1), (2, .int x2), (4, .int x4)] := hl
            refine lv_iinc (k := 4) (v := (x4 + (1 : Int32))) hx hb d_M_join_58 hl rfl (by rfl) (by decide) rfl (fun ls hl => ?_)
            have hl : lv_has ls 7 [(4, .int (x4 + (1 : Int32))), (3, .int (x3 + ((A 11) x4.toNatClampNeg))), (0, .ref (o 0)), (1, .int x1), (2, .int x2)] := hl
            refine lv_goto (tgt := 12) hx hb d_M_join_61 (by decide) ?_
            have hl : lv_has ls 7 [(0, .ref (o 0)), (1, .int x1), (2, .int x2), (3, .int (x3 + ((A 11) x4.toNatClampNeg))), (4, .int (x4 + (1 : Int32)))] := lv_sub hl [2, 3, 4, 1, 0] rfl
            exact ih x1 x2 (x3 + ((A 11) x4.toNatClampNeg)) (x4 + (1 : Int32)) (upd F 5 (1 : Int32)) A _ _ _ hl hP hD hS hf
  rw [lg_entry_eq]
  generalize (lg_sl (([.ref (o 0), .int u1] : List Value)) ++ List.replicate (7 - (lg_sl (([.ref (o 0), .int u1] : List Value))).length) Slot.unset).toArray = ls at hl ⊢
  have hl : lv_has ls 7 [(0, .ref (o 0)), (1, .int u1)] := hl
  unfold f_M_join at hf
  refine lv_aload_n hx hb d_M_join_0 rfl (lv_at hl 0 rfl) ?_
  refine va_get (D := (dC, dI)) (ci := 4) (v := .int (Fa 6)) (C := R_M) (T := T_M) (N := 29) hx hb hts in_M hown hK hP 0 rfl rfl 17 (by decide) (hts _ mw_520) (fun _ h9 => h9) rfl d_M_join_1 ?_
  refine lv_iload_n hx hb d_M_join_4 rfl (lv_at hl 1 rfl) ?_
  refine lv_isub hx hb d_M_join_5 ?_
  refine lv_istore_n hx hb d_M_join_6 rfl hl (by decide) rfl (fun ls hl => ?_)
  have hl : lv_has ls 7 [(2, .int ((Fa 6) - u1)), (0, .ref (o 0)), (1, .int u1)] := hl
  refine lv_iconst (v := 0) hx hb d_M_join_7 (by decide) ?_
  refine lv_istore_n hx hb d_M_join_8 rfl hl (by decide) rfl (fun ls hl => ?_)
  have hl : lv_has ls 7 [(3, .int (0 : Int32)), (2, .int ((Fa 6) - u1)), (0, .ref (o 0)), (1, .int u1)] := hl
  refine lv_iload_n hx hb d_M_join_9 rfl (lv_at hl 1 rfl) ?_
  refine lv_istore hx hb d_M_join_10 hl (by decide) rfl (fun ls hl => ?_)
  have hl : lv_has ls 7 [(4, .int ((Fa 6) - u1)), (3, .int (0 : Int32)), (2, .int ((Fa 6) - u1)), (0, .ref (o 0)), (1, .int u1)] := hl
  have hl : lv_has ls 7 [(0, .ref (o 0)), (1, .int u1), (2, .int ((Fa 6) - u1)), (3, .int (0 : Int32)), (4, .int ((Fa 6) - u1))] := lv_sub hl [3, 4, 2, 1, 0] rfl
  exact L12 400 u1 ((Fa 6) - u1) (0 : Int32) ((Fa 6) - u1) Fa Aa _ _ _ hl hP hD hS hf
def f_M_operate_J87 (x1 : Int32) (x2 : Int32) (x3 : Int32) (x4 : Int32) (x5 : Int32) (F : ST_F) (A : ST_A) : Option (ST_F × ST_A) := if x1 = (43 : Int32) then (ra_bv (f_M_pairwise (2 : Int32) x3 x2 F A) (fun F9 A9 => some (F9, A9))) else (if x1 = (45 : Int32) then (ra_bv (f_M_pairwise (3 : Int32) x3 x2 F A) (fun F8 A8 => some (F8, A8))) else (if x1 = (42 : Int32) then (ra_bv (f_M_pairwise (4 : Int32) x3 x2 F A) (fun F7 A7 => some (F7, A7))) else (ra_bv (f_M_pairwise (5 : Int32) x3 x2 F A) (fun F6 A6 => some (F6, A6)))))
def f_M_operate_J67 (x1 : Int32) (x2 : Int32) (x3 : Int32) (x4 : Int32) (x5 : Int32) (F : ST_F) (A : ST_A) : Option (ST_F × ST_A) := if x1 = (47 : Int32) then (if x5 = (4 : Int32) then (some ((upd F 5 (1 : Int32)), A)) else (f_M_operate_J87 x1 x2 x3 x4 x5 F A)) else (f_M_operate_J87 x1 x2 x3 x4 x5 F A)
def f_M_operate_J54 (x1 : Int32) (x2 : Int32) (x3 : Int32) (x4 : Int32) (x5 : Int32) (F : ST_F) (A : ST_A) : Option (ST_F × ST_A) := ra_bv (f_M_columns x3 x2 (x5 / (2 : Int32)) F A) (fun F13 A13 => some (F13, A13))
def f_M_operate (u1 : Int32) (Fa : ST_F) (Aa : ST_A) : Option (ST_F × ST_A) := ra_g ((Fa 6) - (2 : Int32)) 80 (ra_g ((Fa 6) - (1 : Int32)) 80 (if u1 = (42 : Int32) then (if ((Aa 11) ((Fa 6) - (2 : Int32)).toNatClampNeg) = (4 : Int32) then (if ((Aa 11) ((Fa 6) - (1 : Int32)).toNatClampNeg) = (2 : Int32) then (f_M_operate_J54 u1 ((Fa 6) - (1 : Int32)) ((Fa 6) - (2 : Int32)) ((Aa 11) ((Fa 6) - (2 : Int32)).toNatClampNeg) ((Aa 11) ((Fa 6) - (1 : Int32)).toNatClampNeg) Fa Aa) else (if ((Aa 11) ((Fa 6) - (1 : Int32)).toNatClampNeg) = (4 : Int32) then (f_M_operate_J54 u1 ((Fa 6) - (1 : Int32)) ((Fa 6) - (2 : Int32)) ((Aa 11) ((Fa 6) - (2 : Int32)).toNatClampNeg) ((Aa 11) ((Fa 6) - (1 : Int32)).toNatClampNeg) Fa Aa) else (f_M_operate_J67 u1 ((Fa 6) - (1 : Int32)) ((Fa 6) - (2 : Int32)) ((Aa 11) ((Fa 6) - (2 : Int32)).toNatClampNeg) ((Aa 11) ((Fa 6) - (1 : Int32)).toNatClampNeg) Fa Aa))) else (f_M_operate_J67 u1 ((Fa 6) - (1 : Int32)) ((Fa 6) - (2 : Int32)) ((Aa 11) ((Fa 6) - (2 : Int32)).toNatClampNeg) ((Aa 11) ((Fa 6) - (1 : Int32)).toNatClampNeg) Fa Aa)) else (f_M_operate_J67 u1 ((Fa 6) - (1 : Int32)) ((Fa 6) - (2 : Int32)) ((Aa 11) ((Fa 6) - (2 : Int32)).toNatClampNeg) ((Aa 11) ((Fa 6) - (1 : Int32)).toNatClampNeg) Fa Aa)))
set_option maxHeartbeats 4000000 in
set_option maxRecDepth 100000 in
theorem k_M_operate (l : Launch) (dC : Nat → ClassId) (dI : Nat → Nat → Nat) (o : Nat → Nat) (cI : ClassId) (sz : Nat) (Fa : ST_F) (Aa : ST_A) (u1 : Int32) (F9 : ST_F) (A9 : ST_A) (hf : f_M_operate u1 Fa Aa = some (F9, A9)) : cc_MetV l y_M_operate (Cond.code y_M_operate b_M_operate 6 none :: wA) ({ frames := 3, cells := 0, slots := 0, locals := 70 } : Room) (dC, dI) vC [(cI, .int)] ([.ref (o 0), .int u1] : List Value) (wM o cI Fa Aa) sz (wM o cI F9 A9) := by
  refine Met.ofW (cc := b_M_operate) (maxL := 6) (ret := none) (by decide) rfl ?_
  intro p e s m args below meth c s₁ B hml hv
  obtain ⟨rfl, hsz, hP, hK, hD0⟩ := hv
  have hx := B.exec
  have hb := B.bytes
  have hr := B.returns
  have hts := fun w h => atoms_spec (ws := (Cond.code y_M_operate b_M_operate 6 none :: wA)) B.pre w (List.mem_cons_of_mem _ h)
  have hown : s.vm.findClass R_M = some m.cls := findClass_of_methodNamed B.named
  have hlocks := B.notSynchronized
  subst hsz
  have hD := hD0.self (sz := s.heap.size)
  have hA : ∀ q : Nat, s.heap.size ≤ q → va_A (wM o cI Fa Aa) s.heap.size q := fun q h => Or.inr h
  have hS : va_S (va_A (wM o cI Fa Aa) s.heap.size) s.heap s.heap [] := va_S.rf
  have hl := lv_entry (([.ref (o 0), .int u1] : List Value)) (n := 6) (Nat.le_of_ble_eq_true rfl)
  have J87 : ∀ (x1 : Int32) (x2 : Int32) (x3 : Int32) (x4 : Int32) (x5 : Int32) (F : ST_F) (A : ST_A) (H : Heap) (locs : List Loc) (ls : Array Slot), lv_has ls 6 [(0, .ref (o 0)), (1, .int x1), (2, .int x2), (3, .int x3), (4, .int x4), (5, .int x5)] → va_P (dC, dI) vC (wM o cI F A) H → va_D (va_A (wM o cI Fa Aa) s.heap.size) (wM o cI F A) → va_S (va_A (wM o cI Fa Aa) s.heap.size) s.heap H locs → f_M_operate_J87 x1 x2 x3 x4 x5 F A = some (F9, A9) → W p l e (headSpec (Cond.code y_M_operate b_M_operate 6 none :: wA) ({ frames := 3, cells := 0, slots := 0, locals := 70 } : Room)).room s m ([.ref (o 0), .int u1] : List Value).toArray below meth c H locs 0 0 (MQ below (cc_Qv (dC, dI) vC [(cI, .int)] (wM o cI Fa Aa) s.heap.size (wM o cI F9 A9)) ([.ref (o 0), .int u1] : List Value).toArray s 0 0 (va_A (wM o cI Fa Aa) s.heap.size)) (F0 m 87 ls []) := by
    intro x1 x2 x3 x4 x5 F A H locs ls hl hP hD hS hf
    unfold f_M_operate_J87 at hf
    refine lv_aload_n hx hb d_M_operate_87 rfl (lv_at hl 0 rfl) ?_
    refine lv_iload_n hx hb d_M_operate_88 rfl (lv_at hl 1 rfl) ?_
    refine lv_bipush (v := 43) hx hb d_M_operate_89 (by decide) ?_
    refine lv_icmp_ne (tgt := 98) hx hb d_M_operate_91 (by decide) (fun h91_3 => ?_) (fun h91_3 => ?_)
    · rw [if_neg h91_3] at hf
      refine lv_iload_n hx hb d_M_operate_98 rfl (lv_at hl 1 rfl) ?_
      refine lv_bipush (v := 45) hx hb d_M_operate_99 (by decide) ?_
      refine lv_icmp_ne (tgt := 108) hx hb d_M_operate_101 (by decide) (fun h101_4 => ?_) (fun h101_4 => ?_)
      · rw [if_neg h101_4] at hf
        refine lv_iload_n hx hb d_M_operate_108 rfl (lv_at hl 1 rfl) ?_
        refine lv_bipush (v := 42) hx hb d_M_operate_109 (by decide) ?_
        refine lv_icmp_ne (tgt := 118) hx hb d_M_operate_111 (by decide) (fun h111_5 => ?_) (fun h111_5 => ?_)
        · rw [if_neg h111_5] at hf
          refine lv_iconst (v := 5) hx hb d_M_operate_118 (by decide) ?_
          refine lv_iload_n hx hb d_M_operate_119 rfl (lv_at hl 3 rfl) ?_
          refine lv_iload_n hx hb d_M_operate_120 rfl (lv_at hl 2 rfl) ?_
          have hP : va_P (dC, dI) vC (wM o cI F A) H := hP
          have hD : va_D (va_A (wM o cI Fa Aa) s.heap.size) (wM o cI F A) := hD
          obtain ⟨F6, A6, hc, hf⟩ := ra_bv_some hf
          refine cc_callv (va_runV (As := [.int (5 : Int32), .int x3, .int x2]) (rest := []) ⟨hx, hb, hml, hown, hts⟩ (k_M_pairwise l dC dI o cI H.size F A (5 : Int32) x3 x2 F6 A6 hc) (cw_V 3 hts mw_664 mw_666 ms_M_pairwise mw_5 mw_667 rfl rfl rfl hd_M_pairwise ⟨Nat.le_of_ble_eq_true rfl, Nat.le_of_ble_eq_true rfl⟩) (cc_preV hK hP hD rfl (q0 := 0) rfl) rfl rfl hl.1 rfl (lv_room (Nat.le_of_ble_eq_true rfl)) d_M_operate_121 ⟨Nat.zero_le _, Nat.zero_le _⟩) hD hS hA (fun H locs hP hD hS => ?_)
          cases hf
          exact W.vret hx hb hr (fun t ht hW => ⟨⟨(), rfl, trivial, by rw [ht]; exact hP, va_K.moved hW.alike hK, hD⟩, hS.F ht⟩) hS.2.2 d_M_operate_124
        · rw [if_pos h111_5] at hf
          refine lv_iconst (v := 4) hx hb d_M_operate_114 (by decide) ?_
          refine lv_goto (tgt := 119) hx hb d_M_operate_115 (by decide) ?_
          refine lv_iload_n hx hb d_M_operate_119 rfl (lv_at hl 3 rfl) ?_
          refine lv_iload_n hx hb d_M_operate_120 rfl (lv_at hl 2 rfl) ?_
          have hP : va_P (dC, dI) vC (wM o cI F A) H := hP
          have hD : va_D (va_A (wM o cI Fa Aa) s.heap.size) (wM o cI F A) := hD
          obtain ⟨F7, A7, hc, hf⟩ := ra_bv_some hf
          refine cc_callv (va_runV (As := [.int (4 : Int32), .int x3, .int x2]) (rest := []) ⟨hx, hb, hml, hown, hts⟩ (k_M_pairwise l dC dI o cI H.size F A (4 : Int32) x3 x2 F7 A7 hc) (cw_V 3 hts mw_664 mw_666 ms_M_pairwise mw_5 mw_667 rfl rfl rfl hd_M_pairwise ⟨Nat.le_of_ble_eq_true rfl, Nat.le_of_ble_eq_true rfl⟩) (cc_preV hK hP hD rfl (q0 := 0) rfl) rfl rfl hl.1 rfl (lv_room (Nat.le_of_ble_eq_true rfl)) d_M_operate_121 ⟨Nat.zero_le _, Nat.zero_le _⟩) hD hS hA (fun H locs hP hD hS => ?_)
          cases hf
          exact W.vret hx hb hr (fun t ht hW => ⟨⟨(), rfl, trivial, by rw [ht]; exact hP, va_K.moved hW.alike hK, hD⟩, hS.F ht⟩) hS.2.2 d_M_operate_124
      · rw [if_pos h101_4] at hf
        refine lv_iconst (v := 3) hx hb d_M_operate_104 (by decide) ?_
        refine lv_goto (tgt := 119) hx hb d_M_operate_105 (by decide) ?_
        refine lv_iload_n hx hb d_M_operate_119 rfl (lv_at hl 3 rfl) ?_
        refine lv_iload_n hx hb d_M_operate_120 rfl (lv_at hl 2 rfl) ?_
        have hP : va_P (dC, dI) vC (wM o cI F A) H := hP
        have hD : va_D (va_A (wM o cI Fa Aa) s.heap.size) (wM o cI F A) := hD
        obtain ⟨F8, A8, hc, hf⟩ := ra_bv_some hf
        refine cc_callv (va_runV (As := [.int (3 : Int32), .int x3, .int x2]) (rest := []) ⟨hx, hb, hml, hown, hts⟩ (k_M_pairwise l dC dI o cI H.size F A (3 : Int32) x3 x2 F8 A8 hc) (cw_V 3 hts mw_664 mw_666 ms_M_pairwise mw_5 mw_667 rfl rfl rfl hd_M_pairwise ⟨Nat.le_of_ble_eq_true rfl, Nat.le_of_ble_eq_true rfl⟩) (cc_preV hK hP hD rfl (q0 := 0) rfl) rfl rfl hl.1 rfl (lv_room (Nat.le_of_ble_eq_true rfl)) d_M_operate_121 ⟨Nat.zero_le _, Nat.zero_le _⟩) hD hS hA (fun H locs hP hD hS => ?_)
        cases hf
        exact W.vret hx hb hr (fun t ht hW => ⟨⟨(), rfl, trivial, by rw [ht]; exact hP, va_K.moved hW.alike hK, hD⟩, hS.F ht⟩) hS.2.2 d_M_operate_124
    · rw [if_pos h91_3] at hf
      refine lv_iconst (v := 2) hx hb d_M_operate_94 (by decide) ?_
      refine lv_goto (tgt := 119) hx hb d_M_operate_95 (by decide) ?_
      refine lv_iload_n hx hb d_M_operate_119 rfl (lv_at hl 3 rfl) ?_
      refine lv_iload_n hx hb d_M_operate_120 rfl (lv_at hl 2 rfl) ?_
      have hP : va_P (dC, dI) vC (wM o cI F A) H := hP
      have hD : va_D (va_A (wM o cI Fa Aa) s.heap.size) (wM o cI F A) := hD
      obtain ⟨F9, A9, hc, hf⟩ := ra_bv_some hf
      refine cc_callv (va_runV (As := [.int (2 : Int32), .int x3, .int x2]) (rest := []) ⟨hx, hb, hml, hown, hts⟩ (k_M_pairwise l dC dI o cI H.size F A (2 : Int32) x3 x2 F9 A9 hc) (cw_V 3 hts mw_664 mw_666 ms_M_pairwise mw_5 mw_667 rfl rfl rfl hd_M_pairwise ⟨Nat.le_of_ble_eq_true rfl, Nat.le_of_ble_eq_true rfl⟩) (cc_preV hK hP hD rfl (q0 := 0) rfl) rfl rfl hl.1 rfl (lv_room (Nat.le_of_ble_eq_true rfl)) d_M_operate_121 ⟨Nat.zero_le _, Nat.zero_le _⟩) hD hS hA (fun H locs hP hD hS => ?_)
      cases hf
      exact W.vret hx hb hr (fun t ht hW => ⟨⟨(), rfl, trivial, by rw [ht]; exact hP, va_K.moved hW.alike hK, hD⟩, hS.F ht⟩) hS.2.2 d_M_operate_124
  have J67 : ∀ (x1 : Int32) (x2 : Int32) (x3 : Int32) (x4 : Int32) (x5 : Int32) (F : ST_F) (A : ST_A) (H : Heap) (locs : List Loc) (ls : Array Slot), lv_has ls 6 [(0, .ref (o 0)), (1, .int x1), (2, .int x2), (3, .int x3), (4, .int x4), (5, .int x5)] → va_P (dC, dI) vC (wM o cI F A) H → va_D (va_A (wM o cI Fa Aa) s.heap.size) (wM o cI F A) → va_S (va_A (wM o cI Fa Aa) s.heap.size) s.heap H locs → f_M_operate_J67 x1 x2 x3 x4 x5 F A = some (F9, A9) → W p l e (headSpec (Cond.code y_M_operate b_M_operate 6 none :: wA) ({ frames := 3, cells := 0, slots := 0, locals := 70 } : Room)).room s m ([.ref (o 0), .int u1] : List Value).toArray below meth c H locs 0 0 (MQ below (cc_Qv (dC, dI) vC [(cI, .int)] (wM o cI Fa Aa) s.heap.size (wM o cI F9 A9)) ([.ref (o 0), .int u1] : List Value).toArray s 0 0 (va_A (wM o cI Fa Aa) s.heap.size)) (F0 m 67 ls []) := by
    intro x1 x2 x3 x4 x5 F A H locs ls hl hP hD hS hf
    unfold f_M_operate_J67 at hf
    refine lv_iload_n hx hb d_M_operate_67 rfl (lv_at hl 1 rfl) ?_
    refine lv_bipush (v := 47) hx hb d_M_operate_68 (by decide) ?_
    refine lv_icmp_ne (tgt := 87) hx hb d_M_operate_70 (by decide) (fun h70_2 => ?_) (fun h70_2 => ?_)
    · rw [if_neg h70_2] at hf
      have hl : lv_has ls 6 [(0, .ref (o 0)), (1, .int x1), (2, .int x2), (3, .int x3), (4, .int x4), (5, .int x5)] := lv_sub hl [0, 1, 2, 3, 4, 5] rfl
      exact J87 x1 x2 x3 x4 x5 F A _ _ _ hl hP hD hS hf
    · rw [if_pos h70_2] at hf
      refine lv_iload hx hb d_M_operate_73 (lv_at hl 5 rfl) ?_
      refine lv_iconst (v := 4) hx hb d_M_operate_75 (by decide) ?_
      refine lv_icmp_ne (tgt := 87) hx hb d_M_operate_76 (by decide) (fun h76_10 => ?_) (fun h76_10 => ?_)
      · rw [if_neg h76_10] at hf
        have hl : lv_has ls 6 [(0, .ref (o 0)), (1, .int x1), (2, .int x2), (3, .int x3), (4, .int x4), (5, .int x5)] := lv_sub hl [0, 1, 2, 3, 4, 5] rfl
        exact J87 x1 x2 x3 x4 x5 F A _ _ _ hl hP hD hS hf
      · rw [if_pos h76_10] at hf
        refine lv_aload_n hx hb d_M_operate_79 rfl (lv_at hl 0 rfl) ?_
        refine lv_iconst (v := 1) hx hb d_M_operate_80 (by decide) ?_
        refine va_put (D := (dC, dI)) (ci := 4) (v := .int (1 : Int32)) (ty := .boolean) (C := R_M) (T := T_M) (N := 29) hx hb hts in_M ty_M ty_M_ok nm_M hown hK hP hD hS 0 rfl rfl 16 (by decide) (hts _ mw_519) (fun _ h9 => h9) rfl (by decide +kernel) rfl rfl (Nat.le_of_ble_eq_true rfl) d_M_operate_81 (fun H locs hP hD hS => ?_)
        have hP : va_P (dC, dI) vC [((o 0), .inr (4, [.int (F 0), .int (F 1), .ref (o 1), .int (F 2), .ref (o 2), .ref (o 3), .ref (o 4), .ref (o 5), .ref (o 6), .int (F 3), .ref (o 7), .ref (o 8), .ref (o 9), .ref (o 10), .ref (o 11), .int (F 4), .int (1 : Int32), .int (F 6), .ref (o 12), .ref (o 13), .int (F 7), .ref (o 14), .ref (o 15), .int (F 8), .int (F 9), .ref (o 16), .ref (o 17), .ref (o 18), .ref (o 19)])), ((o 1), .inl (cI, 160, .inl (A 0))), ((o 2), .inl (cI, 100, .inl (A 1))), ((o 3), .inl (cI, 100, .inl (A 2))), ((o 4), .inl (cI, 100, .inl (A 3))), ((o 5), .inl (cI, 3, .inl (A 4))), ((o 6), .inl (cI, 26, .inl (A 5))), ((o 7), .inl (cI, 100, .inl (A 6))), ((o 8), .inl (cI, 100, .inl (A 7))), ((o 9), .inl (cI, 100, .inl (A 8))), ((o 10), .inl (cI, 26, .inl (A 9))), ((o 11), .inl (cI, 104, .inl (A 10))), ((o 12), .inl (cI, 80, .inl (A 11))), ((o 13), .inl (cI, 320, .inl (A 12))), ((o 14), .inl (cI, 200, .inl (A 13))), ((o 15), .inl (cI, 200, .inl (A 14))), ((o 16), .inl (cI, 4, .inl (A 15))), ((o 17), .inl (cI, 32, .inl (A 16))), ((o 18), .inl (cI, 32, .inl (A 17))), ((o 19), .inl (cI, 100, .inl (A 18)))] H := hP
        have hD : va_D (va_A (wM o cI Fa Aa) s.heap.size) [((o 0), .inr (4, [.int (F 0), .int (F 1), .ref (o 1), .int (F 2), .ref (o 2), .ref (o 3), .ref (o 4), .ref (o 5), .ref (o 6), .int (F 3), .ref (o 7), .ref (o 8), .ref (o 9), .ref (o 10), .ref (o 11), .int (F 4), .int (1 : Int32), .int (F 6), .ref (o 12), .ref (o 13), .int (F 7), .ref (o 14), .ref (o 15), .int (F 8), .int (F 9), .ref (o 16), .ref (o 17), .ref (o 18), .ref (o 19)])), ((o 1), .inl (cI, 160, .inl (A 0))), ((o 2), .inl (cI, 100, .inl (A 1))), ((o 3), .inl (cI, 100, .inl (A 2))), ((o 4), .inl (cI, 100, .inl (A 3))), ((o 5), .inl (cI, 3, .inl (A 4))), ((o 6), .inl (cI, 26, .inl (A 5))), ((o 7), .inl (cI, 100, .inl (A 6))), ((o 8), .inl (cI, 100, .inl (A 7))), ((o 9), .inl (cI, 100, .inl (A 8))), ((o 10), .inl (cI, 26, .inl (A 9))), ((o 11), .inl (cI, 104, .inl (A 10))), ((o 12), .inl (cI, 80, .inl (A 11))), ((o 13), .inl (cI, 320, .inl (A 12))), ((o 14), .inl (cI, 200, .inl (A 13))), ((o 15), .inl (cI, 200, .inl (A 14))), ((o 16), .inl (cI, 4, .inl (A 15))), ((o 17), .inl (cI, 32, .inl (A 16))), ((o 18), .inl (cI, 32, .inl (A 17))), ((o 19), .inl (cI, 100, .inl (A 18)))] := hD
        refine lv_goto (tgt := 124) hx hb d_M_operate_84 (by decide) ?_
        cases hf
        exact W.vret hx hb hr (fun t ht hW => ⟨⟨(), rfl, trivial, by rw [ht]; exact hP, va_K.moved hW.alike hK, hD⟩, hS.F ht⟩) hS.2.2 d_M_operate_124
  have J54 : ∀ (x1 : Int32) (x2 : Int32) (x3 : Int32) (x4 : Int32) (x5 : Int32) (F : ST_F) (A : ST_A) (H : Heap) (locs : List Loc) (ls : Array Slot), lv_has ls 6 [(0, .ref (o 0)), (1, .int x1), (2, .int x2), (3, .int x3), (4, .int x4), (5, .int x5)] → va_P (dC, dI) vC (wM o cI F A) H → va_D (va_A (wM o cI Fa Aa) s.heap.size) (wM o cI F A) → va_S (va_A (wM o cI Fa Aa) s.heap.size) s.heap H locs → f_M_operate_J54 x1 x2 x3 x4 x5 F A = some (F9, A9) → W p l e (headSpec (Cond.code y_M_operate b_M_operate 6 none :: wA) ({ frames := 3, cells := 0, slots := 0, locals := 70 } : Room)).room s m ([.ref (o 0), .int u1] : List Value).toArray below meth c H locs 0 0 (MQ below (cc_Qv (dC, dI) vC [(cI, .int)] (wM o cI Fa Aa) s.heap.size (wM o cI F9 A9)) ([.ref (o 0), .int u1] : List Value).toArray s 0 0 (va_A (wM o cI Fa Aa) s.heap.size)) (F0 m 54 ls []) := by
    intro x1 x2 x3 x4 x5 F A H locs ls hl hP hD hS hf
    unfold f_M_operate_J54 at hf
    refine lv_aload_n hx hb d_M_operate_54 rfl (lv_at hl 0 rfl) ?_
    refine lv_iload_n hx hb d_M_operate_55 rfl (lv_at hl 3 rfl) ?_
    refine lv_iload_n hx hb d_M_operate_56 rfl (lv_at hl 2 rfl) ?_
    refine lv_iload hx hb d_M_operate_57 (lv_at hl 5 rfl) ?_
    refine lv_iconst (v := 2) hx hb d_M_operate_59 (by decide) ?_
    refine lv_idiv hx hb d_M_operate_60 (by decide) ?_
    have hP : va_P (dC, dI) vC (wM o cI F A) H := hP
    have hD : va_D (va_A (wM o cI Fa Aa) s.heap.size) (wM o cI F A) := hD
    obtain ⟨F13, A13, hc, hf⟩ := ra_bv_some hf
    refine cc_callv (va_runV (As := [.int x3, .int x2, .int (x5 / (2 : Int32))]) (rest := []) ⟨hx, hb, hml, hown, hts⟩ (k_M_columns l dC dI o cI H.size F A x3 x2 (x5 / (2 : Int32)) F13 A13 hc) (cw_V 3 hts mw_644 mw_646 ms_M_columns mw_5 mw_647 rfl rfl rfl hd_M_columns ⟨Nat.le_of_ble_eq_true rfl, Nat.le_of_ble_eq_true rfl⟩) (cc_preV hK hP hD rfl (q0 := 0) rfl) rfl rfl hl.1 rfl (lv_room (Nat.le_of_ble_eq_true rfl)) d_M_operate_61 ⟨Nat.zero_le _, Nat.zero_le _⟩) hD hS hA (fun H locs hP hD hS => ?_)
    refine lv_goto (tgt := 124) hx hb d_M_operate_64 (by decide) ?_
    cases hf
    exact W.vret hx hb hr (fun t ht hW => ⟨⟨(), rfl, trivial, by rw [ht]; exact hP, va_K.moved hW.alike hK, hD⟩, hS.F ht⟩) hS.2.2 d_M_operate_124
  rw [lg_entry_eq]
  generalize (lg_sl (([.ref (o 0), .int u1] : List Value)) ++ List.replicate (6 - (lg_sl (([.ref (o 0), .int u1] : List Value))).length) Slot.unset).toArray = ls at hl ⊢
  have hl : lv_has ls 6 [(0, .ref (o 0)), (1, .int u1)] := hl
  unfold f_M_operate at hf
  refine lv_aload_n hx hb d_M_operate_0 rfl (lv_at hl 0 rfl) ?_
  refine va_get (D := (dC, dI)) (ci := 4) (v := .int (Fa 6)) (C := R_M) (T := T_M) (N := 29) hx hb hts in_M hown hK hP 0 rfl rfl 17 (by decide) (hts _ mw_520) (fun _ h9 => h9) rfl d_M_operate_1 ?_
  refine lv_iconst (v := 1) hx hb d_M_operate_4 (by decide) ?_
  refine lv_isub hx hb d_M_operate_5 ?_
  refine lv_istore_n hx hb d_M_operate_6 rfl hl (by decide) rfl (fun ls hl => ?_)
  have hl : lv_has ls 6 [(2, .int ((Fa 6) - (1 : Int32))), (0, .ref (o 0)), (1, .int u1)] := hl
  refine lv_aload_n hx hb d_M_operate_7 rfl (lv_at hl 1 rfl) ?_
  refine va_get (D := (dC, dI)) (ci := 4) (v := .int (Fa 6)) (C := R_M) (T := T_M) (N := 29) hx hb hts in_M hown hK hP 0 rfl rfl 17 (by decide) (hts _ mw_520) (fun _ h9 => h9) rfl d_M_operate_8 ?_
  refine lv_iconst (v := 2) hx hb d_M_operate_11 (by decide) ?_
  refine lv_isub hx hb d_M_operate_12 ?_
  refine lv_istore_n hx hb d_M_operate_13 rfl hl (by decide) rfl (fun ls hl => ?_)
  have hl : lv_has ls 6 [(3, .int ((Fa 6) - (2 : Int32))), (2, .int ((Fa 6) - (1 : Int32))), (0, .ref (o 0)), (1, .int u1)] := hl
  refine lv_aload_n hx hb d_M_operate_14 rfl (lv_at hl 2 rfl) ?_
  refine va_get (D := (dC, dI)) (ci := 4) (v := .ref (o 12)) (C := R_M) (T := T_M) (N := 29) hx hb hts in_M hown hK hP 0 rfl rfl 18 (by decide) (hts _ mw_521) (fun _ h9 => h9) rfl d_M_operate_15 ?_
  refine lv_iload_n hx hb d_M_operate_18 rfl (lv_at hl 0 rfl) ?_
  obtain ⟨hi, hf⟩ := ra_g_some hf
  refine va_iald hx hb hK hP 12 0 rfl rfl hi d_M_operate_19 ?_
  refine lv_istore hx hb d_M_operate_20 hl (by decide) rfl (fun ls hl => ?_)
  have hl : lv_has ls 6 [(4, .int ((Aa 11) ((Fa 6) - (2 : Int32)).toNatClampNeg)), (3, .int ((Fa 6) - (2 : Int32))), (2, .int ((Fa 6) - (1 : Int32))), (0, .ref (o 0)), (1, .int u1)] := hl
  refine lv_aload_n hx hb d_M_operate_22 rfl (lv_at hl 3 rfl) ?_
  refine va_get (D := (dC, dI)) (ci := 4) (v := .ref (o 12)) (C := R_M) (T := T_M) (N := 29) hx hb hts in_M hown hK hP 0 rfl rfl 18 (by decide) (hts _ mw_521) (fun _ h9 => h9) rfl d_M_operate_23 ?_
  refine lv_iload_n hx hb d_M_operate_26 rfl (lv_at hl 2 rfl) ?_
  obtain ⟨hi, hf⟩ := ra_g_some hf
  refine va_iald hx hb hK hP 12 0 rfl rfl hi d_M_operate_27 ?_
  refine lv_istore hx hb d_M_operate_28 hl (by decide) rfl (fun ls hl => ?_)
  have hl : lv_has ls 6 [(5, .int ((Aa 11) ((Fa 6) - (1 : Int32)).toNatClampNeg)), (4, .int ((Aa 11) ((Fa 6) - (2 : Int32)).toNatClampNeg)), (3, .int ((Fa 6) - (2 : Int32))), (2, .int ((Fa 6) - (1 : Int32))), (0, .ref (o 0)), (1, .int u1)] := hl
  refine lv_iload_n hx hb d_M_operate_30 rfl (lv_at hl 5 rfl) ?_
  refine lv_bipush (v := 42) hx hb d_M_operate_31 (by decide) ?_
  refine lv_icmp_ne (tgt := 67) hx hb d_M_operate_33 (by decide) (fun h33_1 => ?_) (fun h33_1 => ?_)
  · rw [if_neg h33_1] at hf
    have hl : lv_has ls 6 [(0, .ref (o 0)), (1, .int u1), (2, .int ((Fa 6) - (1 : Int32))), (3, .int ((Fa 6) - (2 : Int32))), (4, .int ((Aa 11) ((Fa 6) - (2 : Int32)).toNatClampNeg)), (5, .int ((Aa 11) ((Fa 6) - (1 : Int32)).toNatClampNeg))] := lv_sub hl [4, 5, 3, 2, 1, 0] rfl
    exact J67 u1 ((Fa 6) - (1 : Int32)) ((Fa 6) - (2 : Int32)) ((Aa 11) ((Fa 6) - (2 : Int32)).toNatClampNeg) ((Aa 11) ((Fa 6) - (1 : Int32)).toNatClampNeg) Fa Aa _ _ _ hl hP hD hS hf
  · rw [if_pos h33_1] at hf
    refine lv_iload hx hb d_M_operate_36 (lv_at hl 1 rfl) ?_
    refine lv_iconst (v := 4) hx hb d_M_operate_38 (by decide) ?_
    refine lv_icmp_ne (tgt := 67) hx hb d_M_operate_39 (by decide) (fun h39_11 => ?_) (fun h39_11 => ?_)
    · rw [if_neg h39_11] at hf
      have hl : lv_has ls 6 [(0, .ref (o 0)), (1, .int u1), (2, .int ((Fa 6) - (1 : Int32))), (3, .int ((Fa 6) - (2 : Int32))), (4, .int ((Aa 11) ((Fa 6) - (2 : Int32)).toNatClampNeg)), (5, .int ((Aa 11) ((Fa 6) - (1 : Int32)).toNatClampNeg))] := lv_sub hl [4, 5, 3, 2, 1, 0] rfl
      exact J67 u1 ((Fa 6) - (1 : Int32)) ((Fa 6) - (2 : Int32)) ((Aa 11) ((Fa 6) - (2 : Int32)).toNatClampNeg) ((Aa 11) ((Fa 6) - (1 : Int32)).toNatClampNeg) Fa Aa _ _ _ hl hP hD hS hf
    · rw [if_pos h39_11] at hf
      refine lv_iload hx hb d_M_operate_42 (lv_at hl 0 rfl) ?_
      refine lv_iconst (v := 2) hx hb d_M_operate_44 (by decide) ?_
      refine lv_icmp_eq (tgt := 54) hx hb d_M_operate_45 (by decide) (fun h45_12 => ?_) (fun h45_12 => ?_)
      · rw [if_pos h45_12] at hf
        have hl : lv_has ls 6 [(0, .ref (o 0)), (1, .int u1), (2, .int ((Fa 6) - (1 : Int32))), (3, .int ((Fa 6) - (2 : Int32))), (4, .int ((Aa 11) ((Fa 6) - (2 : Int32)).toNatClampNeg)), (5, .int ((Aa 11) ((Fa 6) - (1 : Int32)).toNatClampNeg))] := lv_sub hl [4, 5, 3, 2, 1, 0] rfl
        exact J54 u1 ((Fa 6) - (1 : Int32)) ((Fa 6) - (2 : Int32)) ((Aa 11) ((Fa 6) - (2 : Int32)).toNatClampNeg) ((Aa 11) ((Fa 6) - (1 : Int32)).toNatClampNeg) Fa Aa _ _ _ hl hP hD hS hf
      · rw [if_neg h45_12] at hf
        refine lv_iload hx hb d_M_operate_48 (lv_at hl 0 rfl) ?_
        refine lv_iconst (v := 4) hx hb d_M_operate_50 (by decide) ?_
        refine lv_icmp_ne (tgt := 67) hx hb d_M_operate_51 (by decide) (fun h51_14 => ?_) (fun h51_14 => ?_)
        · rw [if_neg h51_14] at hf
          have hl : lv_has ls 6 [(0, .ref (o 0)), (1, .int u1), (2, .int ((Fa 6) - (1 : Int32))), (3, .int ((Fa 6) - (2 : Int32))), (4, .int ((Aa 11) ((Fa 6) - (2 : Int32)).toNatClampNeg)), (5, .int ((Aa 11) ((Fa 6) - (1 : Int32)).toNatClampNeg))] := lv_sub hl [4, 5, 3, 2, 1, 0] rfl
          exact J67 u1 ((Fa 6) - (1 : Int32)) ((Fa 6) - (2 : Int32)) ((Aa 11) ((Fa 6) - (2 : Int32)).toNatClampNeg) ((Aa 11) ((Fa 6) - (1 : Int32)).toNatClampNeg) Fa Aa _ _ _ hl hP hD hS hf
        · rw [if_pos h51_14] at hf
          have hl : lv_has ls 6 [(0, .ref (o 0)), (1, .int u1), (2, .int ((Fa 6) - (1 : Int32))), (3, .int ((Fa 6) - (2 : Int32))), (4, .int ((Aa 11) ((Fa 6) - (2 : Int32)).toNatClampNeg)), (5, .int ((Aa 11) ((Fa 6) - (1 : Int32)).toNatClampNeg))] := lv_sub hl [4, 5, 3, 2, 1, 0] rfl
          exact J54 u1 ((Fa 6) - (1 : Int32)) ((Fa 6) - (2 : Int32)) ((Aa 11) ((Fa 6) - (2 : Int32)).toNatClampNeg) ((Aa 11) ((Fa 6) - (1 : Int32)).toNatClampNeg) Fa Aa _ _ _ hl hP hD hS hf
def f_M_settle_L0 : Nat → Int32 → ST_F → ST_A → Option (ST_F × ST_A)
  | 0, _, _, _ => none
  | n + 1, x1, F, A => if (F 5) = 0 then (ra_bi (f_M_top  F A) (fun r2 F2 A2 => if r2 = (42 : Int32) then (ra_g ((F2 7) - (1 : Int32)) 200 (ra_bv (f_M_operate ((A2 13) ((F2 7) - (1 : Int32)).toNatClampNeg) (upd F2 7 ((F2 7) - (1 : Int32))) A2) (fun F4 A4 => f_M_settle_L0 n x1 F4 A4))) else (ra_bi (f_M_top  F2 A2) (fun r5 F5 A5 => if r5 = (47 : Int32) then (ra_g ((F5 7) - (1 : Int32)) 200 (ra_bv (f_M_operate ((A5 13) ((F5 7) - (1 : Int32)).toNatClampNeg) (upd F5 7 ((F5 7) - (1 : Int32))) A5) (fun F7 A7 => f_M_settle_L0 n x1 F7 A7))) else (if x1 = 0 then (some (F5, A5)) else (ra_bi (f_M_top  F5 A5) (fun r9 F9 A9 => if (f_M_isBinary r9) = 0 then (some (F9, A9)) else (ra_g ((F9 7) - (1 : Int32)) 200 (ra_bv (f_M_operate ((A9 13) ((F9 7) - (1 : Int32)).toNatClampNeg) (upd F9 7 ((F9 7) - (1 : Int32))) A9) (fun F11 A11 => f_M_settle_L0 n x1 F11 A11)))))))))) else (some (F, A))
def f_M_settle (u1 : Int32) (Fa : ST_F) (Aa : ST_A) : Option (ST_F × ST_A) := f_M_settle_L0 400 u1 Fa Aa
set_option maxHeartbeats 4000000 in
set_option maxRecDepth 100000 in
theorem k_M_settle (l : Launch) (dC : Nat → ClassId) (dI : Nat → Nat → Nat) (o : Nat → Nat) (cI : ClassId) (sz : Nat) (Fa : ST_F) (Aa : ST_A) (u1 : Int32) (F9 : ST_F) (A9 : ST_A) (hf : f_M_settle u1 Fa Aa = some (F9, A9)) : cc_MetV l y_M_settle (Cond.code y_M_settle b_M_settle 2 none :: wA) ({ frames := 4, cells := 0, slots := 0, locals := 95 } : Room) (dC, dI) vC [(cI, .int)] ([.ref (o 0), .int u1] : List Value) (wM o cI Fa Aa) sz (wM o cI F9 A9) := by
  refine Met.ofW (cc := b_M_settle) (maxL := 2) (ret := none) (by decide) rfl ?_
  intro p e s m args below meth c s₁ B hml hv
  obtain ⟨rfl, hsz, hP, hK, hD0⟩ := hv
  have hx := B.exec
  have hb := B.bytes
  have hr := B.returns
  have hts := fun w h => atoms_spec (ws := (Cond.code y_M_settle b_M_settle 2 none :: wA)) B.pre w (List.mem_cons_of_mem _ h)
  have hown : s.vm.findClass R_M = some m.cls := findClass_of_methodNamed B.named
  have hlocks := B.notSynchronized
  subst hsz
  have hD := hD0.self (sz := s.heap.size)
  have hA : ∀ q : Nat, s.heap.size ≤ q → va_A (wM o cI Fa Aa) s.heap.size q := fun q h => Or.inr h
  have hS : va_S (va_A (wM o cI Fa Aa) s.heap.size) s.heap s.heap [] := va_S.rf
  have hl := lv_entry (([.ref (o 0), .int u1] : List Value)) (n := 2) (Nat.le_of_ble_eq_true rfl)
  have L0 : ∀ (n : Nat) (x1 : Int32) (F : ST_F) (A : ST_A) (H : Heap) (locs : List Loc) (ls : Array Slot), lv_has ls 2 [(0, .ref (o 0)), (1, .int x1)] → va_P (dC, dI) vC (wM o cI F A) H → va_D (va_A (wM o cI Fa Aa) s.heap.size) (wM o cI F A) → va_S (va_A (wM o cI Fa Aa) s.heap.size) s.heap H locs → f_M_settle_L0 n x1 F A = some (F9, A9) → W p l e (headSpec (Cond.code y_M_settle b_M_settle 2 none :: wA) ({ frames := 4, cells := 0, slots := 0, locals := 95 } : Room)).room s m ([.ref (o 0), .int u1] : List Value).toArray below meth c H locs 0 0 (MQ below (cc_Qv (dC, dI) vC [(cI, .int)] (wM o cI Fa Aa) s.heap.size (wM o cI F9 A9)) ([.ref (o 0), .int u1] : List Value).toArray s 0 0 (va_A (wM o cI Fa Aa) s.heap.size)) (F0 m 0 ls []) := by
    intro n
    induction n with
    | zero => intro x1 F A H locs ls hl hP hD hS hf; cases hf
    | succ n ih =>
      intro x1 F A H locs ls hl hP hD hS hf
      rw [f_M_settle_L0] at hf
      refine lv_aload_n hx hb d_M_settle_0 rfl (lv_at hl 0 rfl) ?_
      refine va_get (D := (dC, dI)) (ci := 4) (v := .int (F 5)) (C := R_M) (T := T_M) (N := 29) hx hb hts in_M hown hK hP 0 rfl rfl 16 (by decide) (hts _ mw_519) (fun _ h9 => h9) rfl d_M_settle_1 ?_
      refine lv_if_ne (tgt := 65) hx hb d_M_settle_4 (by decide) (fun h4_1 => ?_) (fun h4_1 => ?_)
      · rw [if_neg h4_1] at hf
        cases hf
        exact W.vret hx hb hr (fun t ht hW => ⟨⟨(), rfl, trivial, by rw [ht]; exact hP, va_K.moved hW.alike hK, hD⟩, hS.F ht⟩) hS.2.2 d_M_settle_65
      · rw [if_pos h4_1] at hf
        refine lv_aload_n hx hb d_M_settle_7 rfl (lv_at hl 0 rfl) ?_
        have hP : va_P (dC, dI) vC (wM o cI F A) H := hP
        have hD : va_D (va_A (wM o cI Fa Aa) s.heap.size) (wM o cI F A) := hD
        obtain ⟨r2, F2, A2, hc, hf⟩ := ra_bi_some hf
        refine cc_calli (va_runV (As := []) (rest := []) ⟨hx, hb, hml, hown, hts⟩ (k_M_top l dC dI o cI H.size F A  r2 F2 A2 hc) (cw_V 0 hts mw_633 mw_635 ms_M_top mw_5 mw_636 rfl rfl rfl hd_M_top ⟨Nat.le_of_ble_eq_true rfl, Nat.le_of_ble_eq_true rfl⟩) (cc_preV hK hP hD rfl (q0 := 0) rfl) rfl rfl hl.1 rfl (lv_room (Nat.le_of_ble_eq_true rfl)) d_M_settle_8 ⟨Nat.zero_le _, Nat.zero_le _⟩) hD hS hA (fun H locs hP hD hS => ?_)
        refine lv_bipush (v := 42) hx hb d_M_settle_11 (by decide) ?_
        refine lv_icmp_eq (tgt := 39) hx hb d_M_settle_13 (by decide) (fun h13_3 => ?_) (fun h13_3 => ?_)
        · rw [if_pos h13_3] at hf
          refine lv_aload_n hx hb d_M_settle_39 rfl (lv_at hl 0 rfl) ?_
          refine lv_dup hx hb d_M_settle_40 rfl ?_
          refine va_get (D := (dC, dI)) (ci := 4) (v := .int (F2 7)) (C := R_M) (T := T_M) (N := 29) hx hb hts in_M hown hK hP 0 rfl rfl 20 (by decide) (hts _ mw_523) (fun _ h9 => h9) rfl d_M_settle_41 ?_
          refine lv_iconst (v := 1) hx hb d_M_settle_44 (by decide) ?_
          refine lv_isub hx hb d_M_settle_45 ?_
          refine va_put (D := (dC, dI)) (ci := 4) (v := .int ((F2 7) - (1 : Int32))) (ty := .int) (C := R_M) (T := T_M) (N := 29) hx hb hts in_M ty_M ty_M_ok nm_M hown hK hP hD hS 0 rfl rfl 20 (by decide) (hts _ mw_523) (fun _ h9 => h9) rfl (by decide +kernel) rfl rfl (Nat.le_of_ble_eq_true rfl) d_M_settle_46 (fun H locs hP hD hS => ?_)
          have hP : va_P (dC, dI) vC [((o 0), .inr (4, [.int (F2 0), .int (F2 1), .ref (o 1), .int (F2 2), .ref (o 2), .ref (o 3), .ref (o 4), .ref (o 5), .ref (o 6), .int (F2 3), .ref (o 7), .ref (o 8), .ref (o 9), .ref (o 10), .ref (o 11), .int (F2 4), .int (F2 5), .int (F2 6), .ref (o 12), .ref (o 13), .int ((F2 7) - (1 : Int32)), .ref (o 14), .ref (o 15), .int (F2 8), .int (F2 9), .ref (o 16), .ref (o 17), .ref (o 18), .ref (o 19)])), ((o 1), .inl (cI, 160, .inl (A2 0))), ((o 2), .inl (cI, 100, .inl (A2 1))), ((o 3), .inl (cI, 100, .inl (A2 2))), ((o 4), .inl (cI, 100, .inl (A2 3))), ((o 5), .inl (cI, 3, .inl (A2 4))), ((o 6), .inl (cI, 26, .inl (A2 5))), ((o 7), .inl (cI, 100, .inl (A2 6))), ((o 8), .inl (cI, 100, .inl (A2 7))), ((o 9), .inl (cI, 100, .inl (A2 8))), ((o 10), .inl (cI, 26, .inl (A2 9))), ((o 11), .inl (cI, 104, .inl (A2 10))), ((o 12), .inl (cI, 80, .inl (A2 11))), ((o 13), .inl (cI, 320, .inl (A2 12))), ((o 14), .inl (cI, 200, .inl (A2 13))), ((o 15), .inl (cI, 200, .inl (A2 14))), ((o 16), .inl (cI, 4, .inl (A2 15))), ((o 17), .inl (cI, 32, .inl (A2 16))), ((o 18), .inl (cI, 32, .inl (A2 17))), ((o 19), .inl (cI, 100, .inl (A2 18)))] H := hP
          have hD : va_D (va_A (wM o cI Fa Aa) s.heap.size) [((o 0), .inr (4, [.int (F2 0), .int (F2 1), .ref (o 1), .int (F2 2), .ref (o 2), .ref (o 3), .ref (o 4), .ref (o 5), .ref (o 6), .int (F2 3), .ref (o 7), .ref (o 8), .ref (o 9), .ref (o 10), .ref (o 11), .int (F2 4), .int (F2 5), .int (F2 6), .ref (o 12), .ref (o 13), .int ((F2 7) - (1 : Int32)), .ref (o 14), .ref (o 15), .int (F2 8), .int (F2 9), .ref (o 16), .ref (o 17), .ref (o 18), .ref (o 19)])), ((o 1), .inl (cI, 160, .inl (A2 0))), ((o 2), .inl (cI, 100, .inl (A2 1))), ((o 3), .inl (cI, 100, .inl (A2 2))), ((o 4), .inl (cI, 100, .inl (A2 3))), ((o 5), .inl (cI, 3, .inl (A2 4))), ((o 6), .inl (cI, 26, .inl (A2 5))), ((o 7), .inl (cI, 100, .inl (A2 6))), ((o 8), .inl (cI, 100, .inl (A2 7))), ((o 9), .inl (cI, 100, .inl (A2 8))), ((o 10), .inl (cI, 26, .inl (A2 9))), ((o 11), .inl (cI, 104, .inl (A2 10))), ((o 12), .inl (cI, 80, .inl (A2 11))), ((o 13), .inl (cI, 320, .inl (A2 12))), ((o 14), .inl (cI, 200, .inl (A2 13))), ((o 15), .inl (cI, 200, .inl (A2 14))), ((o 16), .inl (cI, 4, .inl (A2 15))), ((o 17), .inl (cI, 32, .inl (A2 16))), ((o 18), .inl (cI, 32, .inl (A2 17))), ((o 19), .inl (cI, 100, .inl (A2 18)))] := hD
          refine lv_aload_n hx hb d_M_settle_49 rfl (lv_at hl 0 rfl) ?_
          refine lv_aload_n hx hb d_M_settle_50 rfl (lv_at hl 0 rfl) ?_
          refine va_get (D := (dC, dI)) (ci := 4) (v := .ref (o 14)) (C := R_M) (T := T_M) (N := 29) hx hb hts in_M hown hK hP 0 rfl rfl 21 (by decide) (hts _ mw_524) (fun _ h9 => h9) rfl d_M_settle_51 ?_
          refine lv_aload_n hx hb d_M_settle_54 rfl (lv_at hl 0 rfl) ?_
          refine va_get (D := (dC, dI)) (ci := 4) (v := .int ((F2 7) - (1 : Int32))) (C := R_M) (T := T_M) (N := 29) hx hb hts in_M hown hK hP 0 rfl rfl 20 (by decide) (hts _ mw_523) (fun _ h9 => h9) rfl d_M_settle_55 ?_
          obtain ⟨hi, hf⟩ := ra_g_some hf
          refine va_iald hx hb hK hP 14 0 rfl rfl hi d_M_settle_58 ?_
          have hP : va_P (dC, dI) vC (wM o cI (upd F2 7 ((F2 7) - (1 : Int32))) A2) H := hP
          have hD : va_D (va_A (wM o cI Fa Aa) s.heap.size) (wM o cI (upd F2 7 ((F2 7) - (1 : Int32))) A2) := hD
          obtain ⟨F4, A4, hc, hf⟩ := ra_bv_some hf
          refine cc_callv (va_runV (As := [.int ((A2 13) ((F2 7) - (1 : Int32)).toNatClampNeg)]) (rest := []) ⟨hx, hb, hml, hown, hts⟩ (k_M_operate l dC dI o cI H.size (upd F2 7 ((F2 7) - (1 : Int32))) A2 ((A2 13) ((F2 7) - (1 : Int32)).toNatClampNeg) F4 A4 hc) (cw_V 1 hts mw_640 mw_642 ms_M_operate mw_5 mw_643 rfl rfl rfl hd_M_operate ⟨Nat.le_of_ble_eq_true rfl, Nat.le_of_ble_eq_true rfl⟩) (cc_preV hK hP hD rfl (q0 := 0) rfl) rfl rfl hl.1 rfl (lv_room (Nat.le_of_ble_eq_true rfl)) d_M_settle_59 ⟨Nat.zero_le _, Nat.zero_le _⟩) hD hS hA (fun H locs hP hD hS => ?_)
          refine lv_goto (tgt := 0) hx hb d_M_settle_62 (by decide) ?_
          have hl : lv_has ls 2 [(0, .ref (o 0)), (1, .int x1)] := lv_sub hl [0, 1] rfl
          exact ih x1 F4 A4 _ _ _ hl hP hD hS hf
        · rw [if_neg h13_3] at hf
          refine lv_aload_n hx hb d_M_settle_16 rfl (lv_at hl 0 rfl) ?_
          have hP : va_P (dC, dI) vC (wM o cI F2 A2) H := hP
          have hD : va_D (va_A (wM o cI Fa Aa) s.heap.size) (wM o cI F2 A2) := hD
          obtain ⟨r5, F5, A5, hc, hf⟩ := ra_bi_some hf
          refine cc_calli (va_runV (As := []) (rest := []) ⟨hx, hb, hml, hown, hts⟩ (k_M_top l dC dI o cI H.size F2 A2  r5 F5 A5 hc) (cw_V 0 hts mw_633 mw_635 ms_M_top mw_5 mw_636 rfl rfl rfl hd_M_top ⟨Nat.le_of_ble_eq_true rfl, Nat.le_of_ble_eq_true rfl⟩) (cc_preV hK hP hD rfl (q0 := 0) rfl) rfl rfl hl.1 rfl (lv_room (Nat.le_of_ble_eq_true rfl)) d_M_settle_17 ⟨Nat.zero_le _, Nat.zero_le _⟩) hD hS hA (fun H locs hP hD hS => ?_)
          refine lv_bipush (v := 47) hx hb d_M_settle_20 (by decide) ?_
          refine lv_icmp_eq (tgt := 39) hx hb d_M_settle_22 (by decide) (fun h22_6 => ?_) (fun h22_6 => ?_)
          · rw [if_pos h22_6] at hf
            refine lv_aload_n hx hb d_M_settle_39 rfl (lv_at hl 0 rfl) ?_
            refine lv_dup hx hb d_M_settle_40 rfl ?_
            refine va_get (D := (dC, dI)) (ci := 4) (v := .int (F5 7)) (C := R_M) (T := T_M) (N := 29) hx hb hts in_M hown hK hP 0 rfl rfl 20 (by decide) (hts _ mw_523) (fun _ h9 => h9) rfl d_M_settle_41 ?_
            refine lv_iconst (v := 1) hx hb d_M_settle_44 (by decide) ?_
            refine lv_isub hx hb d_M_settle_45 ?_
            refine va_put (D := (dC, dI)) (ci := 4) (v := .int ((F5 7) - (1 : Int32))) (ty := .int) (C := R_M) (T := T_M) (N := 29) hx hb hts in_M ty_M ty_M_ok nm_M hown hK hP hD hS 0 rfl rfl 20 (by decide) (hts _ mw_523) (fun _ h9 => h9) rfl (by decide +kernel) rfl rfl (Nat.le_of_ble_eq_true rfl) d_M_settle_46 (fun H locs hP hD hS => ?_)
            have hP : va_P (dC, dI) vC [((o 0), .inr (4, [.int (F5 0), .int (F5 1), .ref (o 1), .int (F5 2), .ref (o 2), .ref (o 3), .ref (o 4), .ref (o 5), .ref (o 6), .int (F5 3), .ref (o 7), .ref (o 8), .ref (o 9), .ref (o 10), .ref (o 11), .int (F5 4), .int (F5 5), .int (F5 6), .ref (o 12), .ref (o 13), .int ((F5 7) - (1 : Int32)), .ref (o 14), .ref (o 15), .int (F5 8), .int (F5 9), .ref (o 16), .ref (o 17), .ref (o 18), .ref (o 19)])), ((o 1), .inl (cI, 160, .inl (A5 0))), ((o 2), .inl (cI, 100, .inl (A5 1))), ((o 3), .inl (cI, 100, .inl (A5 2))), ((o 4), .inl (cI, 100, .inl (A5 3))), ((o 5), .inl (cI, 3, .inl (A5 4))), ((o 6), .inl (cI, 26, .inl (A5 5))), ((o 7), .inl (cI, 100, .inl (A5 6))), ((o 8), .inl (cI, 100, .inl (A5 7))), ((o 9), .inl (cI, 100, .inl (A5 8))), ((o 10), .inl (cI, 26, .inl (A5 9))), ((o 11), .inl (cI, 104, .inl (A5 10))), ((o 12), .inl (cI, 80, .inl (A5 11))), ((o 13), .inl (cI, 320, .inl (A5 12))), ((o 14), .inl (cI, 200, .inl (A5 13))), ((o 15), .inl (cI, 200, .inl (A5 14))), ((o 16), .inl (cI, 4, .inl (A5 15))), ((o 17), .inl (cI, 32, .inl (A5 16))), ((o 18), .inl (cI, 32, .inl (A5 17))), ((o 19), .inl (cI, 100, .inl (A5 18)))] H := hP
            have hD : va_D (va_A (wM o cI Fa Aa) s.heap.size) [((o 0), .inr (4, [.int (F5 0), .int (F5 1), .ref (o 1), .int (F5 2), .ref (o 2), .ref (o 3), .ref (o 4), .ref (o 5), .ref (o 6), .int (F5 3), .ref (o 7), .ref (o 8), .ref (o 9), .ref (o 10), .ref (o 11), .int (F5 4), .int (F5 5), .int (F5 6), .ref (o 12), .ref (o 13), .int ((F5 7) - (1 : Int32)), .ref (o 14), .ref (o 15), .int (F5 8), .int (F5 9), .ref (o 16), .ref (o 17), .ref (o 18), .ref (o 19)])), ((o 1), .inl (cI, 160, .inl (A5 0))), ((o 2), .inl (cI, 100, .inl (A5 1))), ((o 3), .inl (cI, 100, .inl (A5 2))), ((o 4), .inl (cI, 100, .inl (A5 3))), ((o 5), .inl (cI, 3, .inl (A5 4))), ((o 6), .inl (cI, 26, .inl (A5 5))), ((o 7), .inl (cI, 100, .inl (A5 6))), ((o 8), .inl (cI, 100, .inl (A5 7))), ((o 9), .inl (cI, 100, .inl (A5 8))), ((o 10), .inl (cI, 26, .inl (A5 9))), ((o 11), .inl (cI, 104, .inl (A5 10))), ((o 12), .inl (cI, 80, .inl (A5 11))), ((o 13), .inl (cI, 320, .inl (A5 12))), ((o 14), .inl (cI, 200, .inl (A5 13))), ((o 15), .inl (cI, 200, .inl (A5 14))), ((o 16), .inl (cI, 4, .inl (A5 15))), ((o 17), .inl (cI, 32, .inl (A5 16))), ((o 18), .inl (cI, 32, .inl (A5 17))), ((o 19), .inl (cI, 100, .inl (A5 18)))] := hD
            refine lv_aload_n hx hb d_M_settle_49 rfl (lv_at hl 0 rfl) ?_
            refine lv_aload_n hx hb d_M_settle_50 rfl (lv_at hl 0 rfl) ?_
            refine va_get (D := (dC, dI)) (ci := 4) (v := .ref (o 14)) (C := R_M) (T := T_M) (N := 29) hx hb hts in_M hown hK hP 0 rfl rfl 21 (by decide) (hts _ mw_524) (fun _ h9 => h9) rfl d_M_settle_51 ?_
            refine lv_aload_n hx hb d_M_settle_54 rfl (lv_at hl 0 rfl) ?_
            refine va_get (D := (dC, dI)) (ci := 4) (v := .int ((F5 7) - (1 : Int32))) (C := R_M) (T := T_M) (N := 29) hx hb hts in_M hown hK hP 0 rfl rfl 20 (by decide) (hts _ mw_523) (fun _ h9 => h9) rfl d_M_settle_55 ?_
            obtain ⟨hi, hf⟩ := ra_g_some hf
            refine va_iald hx hb hK hP 14 0 rfl rfl hi d_M_settle_58 ?_
            have hP : va_P (dC, dI) vC (wM o cI (upd F5 7 ((F5 7) - (1 : Int32))) A5) H := hP
            have hD : va_D (va_A (wM o cI Fa Aa) s.heap.size) (wM o cI (upd F5 7 ((F5 7) - (1 : Int32))) A5) := hD
            obtain ⟨F7, A7, hc, hf⟩ := ra_bv_some hf
            refine cc_callv (va_runV (As := [.int ((A5 13) ((F5 7) - (1 : Int32)).toNatClampNeg)]) (rest := []) ⟨hx, hb, hml, hown, hts⟩ (k_M_operate l dC dI o cI H.size (upd F5 7 ((F5 7) - (1 : Int32))) A5 ((A5 13) ((F5 7) - (1 : Int32)).toNatClampNeg) F7 A7 hc) (cw_V 1 hts mw_640 mw_642 ms_M_operate mw_5 mw_643 rfl rfl rfl hd_M_operate ⟨Nat.le_of_ble_eq_true rfl, Nat.le_of_ble_eq_true rfl⟩) (cc_preV hK hP hD rfl (q0 := 0) rfl) rfl rfl hl.1 rfl (lv_room (Nat.le_of_ble_eq_true rfl)) d_M_settle_59 ⟨Nat.zero_le _, Nat.zero_le _⟩) hD hS hA (fun H locs hP hD hS => ?_)
            refine lv_goto (tgt := 0) hx hb d_M_settle_62 (by decide) ?_
            have hl : lv_has ls 2 [(0, .ref (o 0)), (1, .int x1)] := lv_sub hl [0, 1] rfl
            exact ih x1 F7 A7 _ _ _ hl hP hD hS hf
          · rw [if_neg h22_6] at hf
            refine lv_iload_n hx hb d_M_settle_25 rfl (lv_at hl 1 rfl) ?_
            refine lv_if_eq (tgt := 65) hx hb d_M_settle_26 (by decide) (fun h26_8 => ?_) (fun h26_8 => ?_)
            · rw [if_pos h26_8] at hf
              cases hf
              exact W.vret hx hb hr (fun t ht hW => ⟨⟨(), rfl, trivial, by rw [ht]; exact hP, va_K.moved hW.alike hK, hD⟩, hS.F ht⟩) hS.2.2 d_M_settle_65
            · rw [if_neg h26_8] at hf
              refine lv_aload_n hx hb d_M_settle_29 rfl (lv_at hl 0 rfl) ?_
              have hP : va_P (dC, dI) vC (wM o cI F5 A5) H := hP
              have hD : va_D (va_A (wM o cI Fa Aa) s.heap.size) (wM o cI F5 A5) := hD
              obtain ⟨r9, F9, A9, hc, hf⟩ := ra_bi_some hf
              refine cc_calli (va_runV (As := []) (rest := []) ⟨hx, hb, hml, hown, hts⟩ (k_M_top l dC dI o cI H.size F5 A5  r9 F9 A9 hc) (cw_V 0 hts mw_633 mw_635 ms_M_top mw_5 mw_636 rfl rfl rfl hd_M_top ⟨Nat.le_of_ble_eq_true rfl, Nat.le_of_ble_eq_true rfl⟩) (cc_preV hK hP hD rfl (q0 := 0) rfl) rfl rfl hl.1 rfl (lv_room (Nat.le_of_ble_eq_true rfl)) d_M_settle_30 ⟨Nat.zero_le _, Nat.zero_le _⟩) hD hS hA (fun H locs hP hD hS => ?_)
              refine cc_calls (va_runS (As := [.int r9]) (rest := []) ⟨hx, hb, hml, hown, hts⟩ (k_M_isBinary l r9 _ rfl) (cw_S 1 hts mw_637 mw_638 mw_5 mw_639 rfl rfl hd_M_isBinary ⟨Nat.le_of_ble_eq_true rfl, Nat.le_of_ble_eq_true rfl⟩) cc_preS rfl rfl hl.1 rfl (lv_room (Nat.le_of_ble_eq_true rfl)) d_M_settle_33 ⟨Nat.zero_le _, Nat.zero_le _⟩) ?_
              refine lv_if_eq (tgt := 65) hx hb d_M_settle_36 (by decide) (fun h36_10 => ?_) (fun h36_10 => ?_)
              · rw [if_pos h36_10] at hf
                cases hf
                exact W.vret hx hb hr (fun t ht hW => ⟨⟨(), rfl, trivial, by rw [ht]; exact hP, va_K.moved hW.alike hK, hD⟩, hS.F ht⟩) hS.2.2 d_M_settle_65
              · rw [if_neg h36_10] at hf
                refine lv_aload_n hx hb d_M_settle_39 rfl (lv_at hl 0 rfl) ?_
                refine lv_dup hx hb d_M_settle_40 rfl ?_
                refine va_get (D := (dC, dI)) (ci := 4) (v := .int (F9 7)) (C := R_M) (T := T_M) (N := 29) hx hb hts in_M hown hK hP 0 rfl rfl 20 (by decide) (hts _ mw_523) (fun _ h9 => h9) rfl d_M_settle_41 ?_
                refine lv_iconst (v := 1) hx hb d_M_settle_44 (by decide) ?_
                refine lv_isub hx hb d_M_settle_45 ?_
                refine va_put (D := (dC, dI)) (ci := 4) (v := .int ((F9 7) - (1 : Int32))) (ty := .int) (C := R_M) (T := T_M) (N := 29) hx hb hts in_M ty_M ty_M_ok nm_M hown hK hP hD hS 0 rfl rfl 20 (by decide) (hts _ mw_523) (fun _ h9 => h9) rfl (by decide +kernel) rfl rfl (Nat.le_of_ble_eq_true rfl) d_M_settle_46 (fun H locs hP hD hS => ?_)
                have hP : va_P (dC, dI) vC [((o 0), .inr (4, [.int (F9 0), .int (F9 1), .ref (o 1), .int (F9 2), .ref (o 2), .ref (o 3), .ref (o 4), .ref (o 5), .ref (o 6), .int (F9 3), .ref (o 7), .ref (o 8), .ref (o 9), .ref (o 10), .ref (o 11), .int (F9 4), .int (F9 5), .int (F9 6), .ref (o 12), .ref (o 13), .int ((F9 7) - (1 : Int32)), .ref (o 14), .ref (o 15), .int (F9 8), .int (F9 9), .ref (o 16), .ref (o 17), .ref (o 18), .ref (o 19)])), ((o 1), .inl (cI, 160, .inl (A9 0))), ((o 2), .inl (cI, 100, .inl (A9 1))), ((o 3), .inl (cI, 100, .inl (A9 2))), ((o 4), .inl (cI, 100, .inl (A9 3))), ((o 5), .inl (cI, 3, .inl (A9 4))), ((o 6), .inl (cI, 26, .inl (A9 5))), ((o 7), .inl (cI, 100, .inl (A9 6))), ((o 8), .inl (cI, 100, .inl (A9 7))), ((o 9), .inl (cI, 100, .inl (A9 8))), ((o 10), .inl (cI, 26, .inl (A9 9))), ((o 11), .inl (cI, 104, .inl (A9 10))), ((o 12), .inl (cI, 80, .inl (A9 11))), ((o 13), .inl (cI, 320, .inl (A9 12))), ((o 14), .inl (cI, 200, .inl (A9 13))), ((o 15), .inl (cI, 200, .inl (A9 14))), ((o 16), .inl (cI, 4, .inl (A9 15))), ((o 17), .inl (cI, 32, .inl (A9 16))), ((o 18), .inl (cI, 32, .inl (A9 17))), ((o 19), .inl (cI, 100, .inl (A9 18)))] H := hP
                have hD : va_D (va_A (wM o cI Fa Aa) s.heap.size) [((o 0), .inr (4, [.int (F9 0), .int (F9 1), .ref (o 1), .int (F9 2), .ref (o 2), .ref (o 3), .ref (o 4), .ref (o 5), .ref (o 6), .int (F9 3), .ref (o 7), .ref (o 8), .ref (o 9), .ref (o 10), .ref (o 11), .int (F9 4), .int (F9 5), .int (F9 6), .ref (o 12), .ref (o 13), .int ((F9 7) - (1 : Int32)), .ref (o 14), .ref (o 15), .int (F9 8), .int (F9 9), .ref (o 16), .ref (o 17), .ref (o 18), .ref (o 19)])), ((o 1), .inl (cI, 160, .inl (A9 0))), ((o 2), .inl (cI, 100, .inl (A9 1))), ((o 3), .inl (cI, 100, .inl (A9 2))), ((o 4), .inl (cI, 100, .inl (A9 3))), ((o 5), .inl (cI, 3, .inl (A9 4))), ((o 6), .inl (cI, 26, .inl (A9 5))), ((o 7), .inl (cI, 100, .inl (A9 6))), ((o 8), .inl (cI, 100, .inl (A9 7))), ((o 9), .inl (cI, 100, .inl (A9 8))), ((o 10), .inl (cI, 26, .inl (A9 9))), ((o 11), .inl (cI, 104, .inl (A9 10))), ((o 12), .inl (cI, 80, .inl (A9 11))), ((o 13), .inl (cI, 320, .inl (A9 12))), ((o 14), .inl (cI, 200, .inl (A9 13))), ((o 15), .inl (cI, 200, .inl (A9 14))), ((o 16), .inl (cI, 4, .inl (A9 15))), ((o 17), .inl (cI, 32, .inl (A9 16))), ((o 18), .inl (cI, 32, .inl (A9 17))), ((o 19), .inl (cI, 100, .inl (A9 18)))] := hD
                refine lv_aload_n hx hb d_M_settle_49 rfl (lv_at hl 0 rfl) ?_
                refine lv_aload_n hx hb d_M_settle_50 rfl (lv_at hl 0 rfl) ?_
                refine va_get (D := (dC, dI)) (ci := 4) (v := .ref (o 14)) (C := R_M) (T := T_M) (N := 29) hx hb hts in_M hown hK hP 0 rfl rfl 21 (by decide) (hts _ mw_524) (fun _ h9 => h9) rfl d_M_settle_51 ?_
                refine lv_aload_n hx hb d_M_settle_54 rfl (lv_at hl 0 rfl) ?_
                refine va_get (D := (dC, dI)) (ci := 4) (v := .int ((F9 7) - (1 : Int32))) (C := R_M) (T := T_M) (N := 29) hx hb hts in_M hown hK hP 0 rfl rfl 20 (by decide) (hts _ mw_523) (fun _ h9 => h9) rfl d_M_settle_55 ?_
                obtain ⟨hi, hf⟩ := ra_g_some hf
                refine va_iald hx hb hK hP 14 0 rfl rfl hi d_M_settle_58 ?_
                have hP : va_P (dC, dI) vC (wM o cI (upd F9 7 ((F9 7) - (1 : Int32))) A9) H := hP
                have hD : va_D (va_A (wM o cI Fa Aa) s.heap.size) (wM o cI (upd F9 7 ((F9 7) - (1 : Int32))) A9) := hD
                obtain ⟨F11, A11, hc, hf⟩ := ra_bv_some hf
                refine cc_callv (va_runV (As := [.int ((A9 13) ((F9 7) - (1 : Int32)).toNatClampNeg)]) (rest := []) ⟨hx, hb, hml, hown, hts⟩ (k_M_operate l dC dI o cI H.size (upd F9 7 ((F9 7) - (1 : Int32))) A9 ((A9 13) ((F9 7) - (1 : Int32)).toNatClampNeg) F11 A11 hc) (cw_V 1 hts mw_640 mw_642 ms_M_operate mw_5 mw_643 rfl rfl rfl hd_M_operate ⟨Nat.le_of_ble_eq_true rfl, Nat.le_of_ble_eq_true rfl⟩) (cc_preV hK hP hD rfl (q0 := 0) rfl) rfl rfl hl.1 rfl (lv_room (Nat.le_of_ble_eq_true rfl)) d_M_settle_59 ⟨Nat.zero_le _, Nat.zero_le _⟩) hD hS hA (fun H locs hP hD hS => ?_)
                refine lv_goto (tgt := 0) hx hb d_M_settle_62 (by decide) ?_
                have hl : lv_has ls 2 [(0, .ref (o 0)), (1, .int x1)] := lv_sub hl [0, 1] rfl
                exact ih x1 F11 A11 _ _ _ hl hP hD hS hf
  rw [lg_entry_eq]
  generalize (lg_sl (([.ref (o 0), .int u1] : List Value)) ++ List.replicate (2 - (lg_sl (([.ref (o 0), .int u1] : List Value))).length) Slot.unset).toArray = ls at hl ⊢
  have hl : lv_has ls 2 [(0, .ref (o 0)), (1, .int u1)] := hl
  unfold f_M_settle at hf
  have hl : lv_has ls 2 [(0, .ref (o 0)), (1, .int u1)] := lv_sub hl [0, 1] rfl
  exact L0 400 u1 Fa Aa _ _ _ hl hP hD hS hf
def f_M_call_J55 (x1 : Int32) (x2 : Int32) (x3 : Int32) (F : ST_F) (A : ST_A) : Option (ST_F × ST_A) := if x1 = (65 : Int32) then (ra_bv (f_M_each (10 : Int32) F A) (fun F6 A6 => some (F6, A6))) else (if x1 = (66 : Int32) then (ra_bv (f_M_matrix ((F 6) - x2) (((F 6) - x2) + (1 : Int32)) F A) (fun F8 A8 => some (F8, A8))) else (if x1 = (67 : Int32) then (ra_bv (f_M_matrix ((F 6) - x2) (((F 6) - x2) + (1 : Int32)) F A) (fun F10 A10 => some (F10, A10))) else (if x1 = (68 : Int32) then (ra_bv (f_M_dot ((F 6) - x2) (((F 6) - x2) + (1 : Int32)) F A) (fun F12 A12 => some (F12, A12))) else (if x1 = (69 : Int32) then (ra_bv (f_M_matrix ((F 6) - x2) (((F 6) - x2) + (1 : Int32)) F A) (fun F14 A14 => some (F14, A14))) else (if x1 = (70 : Int32) then (ra_bv (f_M_each (11 : Int32) F A) (fun F16 A16 => some (F16, A16))) else (if x1 = (71 : Int32) then (ra_bv (f_M_matrix ((F 6) - x2) (((F 6) - x2) + (1 : Int32)) F A) (fun F18 A18 => some (F18, A18))) else (if x1 = (72 : Int32) then (ra_bv (f_M_matrix ((F 6) - x2) (((F 6) - x2) + (1 : Int32)) F A) (fun F20 A20 => some (F20, A20))) else (if x1 = (73 : Int32) then (ra_bv (f_M_matrix ((F 6) - x2) (((F 6) - x2) + (1 : Int32)) F A) (fun F22 A22 => some (F22, A22))) else (if x1 = (74 : Int32) then (ra_bv (f_M_matrix ((F 6) - x2) (((F 6) - x2) + (1 : Int32)) F A) (fun F24 A24 => some (F24, A24))) else (if x1 = (75 : Int32) then (ra_bv (f_M_matrix ((F 6) - x2) (((F 6) - x2) + (1 : Int32)) F A) (fun F26 A26 => some (F26, A26))) else (if x1 = (76 : Int32) then (ra_bv (f_M_matrix ((F 6) - x2) (((F 6) - x2) + (1 : Int32)) F A) (fun F28 A28 => some (F28, A28))) else (if x1 = (77 : Int32) then (ra_bv (f_M_matrix ((F 6) - x2) (((F 6) - x2) + (1 : Int32)) F A) (fun F30 A30 => some (F30, A30))) else (if x1 = (78 : Int32) then (ra_bv (f_M_pairwise (6 : Int32) ((F 6) - x2) (((F 6) - x2) + (1 : Int32)) F A) (fun F32 A32 => some (F32, A32))) else (if x1 = (79 : Int32) then (ra_bv (f_M_matrix ((F 6) - x2) (((F 6) - x2) + (1 : Int32)) F A) (fun F34 A34 => some (F34, A34))) else (if x1 = (80 : Int32) then (ra_bv (f_M_matrix ((F 6) - x2) (((F 6) - x2) + (1 : Int32)) F A) (fun F36 A36 => some (F36, A36))) else (if x1 = (81 : Int32) then (ra_bv (f_M_matrix ((F 6) - x2) (((F 6) - x2) + (1 : Int32)) F A) (fun F38 A38 => some (F38, A38))) else (if x1 = (82 : Int32) then (ra_bv (f_M_matrix ((F 6) - x2) (((F 6) - x2) + (1 : Int32)) F A) (fun F40 A40 => some (F40, A40))) else (if x1 = (83 : Int32) then (ra_bv (f_M_pairwise (8 : Int32) ((F 6) - x2) (((F 6) - x2) + (1 : Int32)) F A) (fun F42 A42 => some (F42, A42))) else (if x1 = (84 : Int32) then (ra_bv (f_M_matrix ((F 6) - x2) (((F 6) - x2) + (1 : Int32)) F A) (fun F44 A44 => some (F44, A44))) else (if x1 = (85 : Int32) then (ra_bv (f_M_matrix ((F 6) - x2) (((F 6) - x2) + (1 : Int32)) F A) (fun F46 A46 => some (F46, A46))) else (if x1 = (86 : Int32) then (ra_bv (f_M_join x2 F A) (fun F48 A48 => some (F48, A48))) else (if x1 = (87 : Int32) then (ra_bv (f_M_matrix ((F 6) - x2) (((F 6) - x2) + (1 : Int32)) F A) (fun F50 A50 => some (F50, A50))) else (if x1 = (88 : Int32) then (ra_bv (f_M_pairwise (7 : Int32) ((F 6) - x2) (((F 6) - x2) + (1 : Int32)) F A) (fun F52 A52 => some (F52, A52))) else (ra_bv (f_M_matrix ((F 6) - x2) (((F 6) - x2) + (1 : Int32)) F A) (fun F53 A53 => some (F53, A53))))))))))))))))))))))))))
def f_M_call_J17 (x1 : Int32) (x2 : Int32) (z0 : Int32) (F : ST_F) (A : ST_A) : Option (ST_F × ST_A) := if z0 = 0 then (if x1 = (86 : Int32) then (if x2 ≤ (3 : Int32) then (f_M_call_J55 x1 x2 z0 F A) else (some ((upd F 5 (1 : Int32)), A))) else (if x2 = (2 : Int32) then (f_M_call_J55 x1 x2 z0 F A) else (some ((upd F 5 (1 : Int32)), A)))) else (if x2 = (1 : Int32) then (f_M_call_J55 x1 x2 z0 F A) else (some ((upd F 5 (1 : Int32)), A)))
def f_M_call_J12 (x1 : Int32) (x2 : Int32) (F : ST_F) (A : ST_A) : Option (ST_F × ST_A) := f_M_call_J17 x1 x2 (1 : Int32) F A
def f_M_call (u1 : Int32) (u2 : Int32) (Fa : ST_F) (Aa : ST_A) : Option (ST_F × ST_A) := if u1 = (65 : Int32) then (f_M_call_J12 u1 u2 Fa Aa) else (if u1 = (70 : Int32) then (f_M_call_J12 u1 u2 Fa Aa) else (f_M_call_J17 u1 u2 (0 : Int32) Fa Aa))
set_option maxHeartbeats 4000000 in
set_option maxRecDepth 100000 in
theorem k_M_call (l : Launch) (dC : Nat → ClassId) (dI : Nat → Nat → Nat) (o : Nat → Nat) (cI : ClassId) (sz : Nat) (Fa : ST_F) (Aa : ST_A) (u1 : Int32) (u2 : Int32) (F9 : ST_F) (A9 : ST_A) (hf : f_M_call u1 u2 Fa Aa = some (F9, A9)) : cc_MetV l y_M_call (Cond.code y_M_call b_M_call 5 none :: wA) ({ frames := 3, cells := 0, slots := 0, locals := 70 } : Room) (dC, dI) vC [(cI, .int)] ([.ref (o 0), .int u1, .int u2] : List Value) (wM o cI Fa Aa) sz (wM o cI F9 A9) := by
  refine Met.ofW (cc := b_M_call) (maxL := 5) (ret := none) (by decide) rfl ?_
  intro p e s m args below meth c s₁ B hml hv
  obtain ⟨rfl, hsz, hP, hK, hD0⟩ := hv
  have hx := B.exec
  have hb := B.bytes
  have hr := B.returns
  have hts := fun w h => atoms_spec (ws := (Cond.code y_M_call b_M_call 5 none :: wA)) B.pre w (List.mem_cons_of_mem _ h)
  have hown : s.vm.findClass R_M = some m.cls := findClass_of_methodNamed B.named
  have hlocks := B.notSynchronized
  subst hsz
  have hD := hD0.self (sz := s.heap.size)
  have hA : ∀ q : Nat, s.heap.size ≤ q → va_A (wM o cI Fa Aa) s.heap.size q := fun q h => Or.inr h
  have hS : va_S (va_A (wM o cI Fa Aa) s.heap.size) s.heap s.heap [] := va_S.rf
  have hl := lv_entry (([.ref (o 0), .int u1, .int u2] : List Value)) (n := 5) (Nat.le_of_ble_eq_true rfl)
  have J55 : ∀ (x1 : Int32) (x2 : Int32) (x3 : Int32) (F : ST_F) (A : ST_A) (H : Heap) (locs : List Loc) (ls : Array Slot), lv_has ls 5 [(0, .ref (o 0)), (1, .int x1), (2, .int x2), (3, .int x3)] → va_P (dC, dI) vC (wM o cI F A) H → va_D (va_A (wM o cI Fa Aa) s.heap.size) (wM o cI F A) → va_S (va_A (wM o cI Fa Aa) s.heap.size) s.heap H locs → f_M_call_J55 x1 x2 x3 F A = some (F9, A9) → W p l e (headSpec (Cond.code y_M_call b_M_call 5 none :: wA) ({ frames := 3, cells := 0, slots := 0, locals := 70 } : Room)).room s m ([.ref (o 0), .int u1, .int u2] : List Value).toArray below meth c H locs 0 0 (MQ below (cc_Qv (dC, dI) vC [(cI, .int)] (wM o cI Fa Aa) s.heap.size (wM o cI F9 A9)) ([.ref (o 0), .int u1, .int u2] : List Value).toArray s 0 0 (va_A (wM o cI Fa Aa) s.heap.size)) (F0 m 55 ls []) := by
    intro x1 x2 x3 F A H locs ls hl hP hD hS hf
    unfold f_M_call_J55 at hf
    refine lv_aload_n hx hb d_M_call_55 rfl (lv_at hl 0 rfl) ?_
    refine va_get (D := (dC, dI)) (ci := 4) (v := .int (F 6)) (C := R_M) (T := T_M) (N := 29) hx hb hts in_M hown hK hP 0 rfl rfl 17 (by decide) (hts _ mw_520) (fun _ h9 => h9) rfl d_M_call_56 ?_
    refine lv_iload_n hx hb d_M_call_59 rfl (lv_at hl 2 rfl) ?_
    refine lv_isub hx hb d_M_call_60 ?_
    refine lv_istore hx hb d_M_call_61 hl (by decide) rfl (fun ls hl => ?_)
    have hl : lv_has ls 5 [(4, .int ((F 6) - x2)), (0, .ref (o 0)), (1, .int x1), (2, .int x2), (3, .int x3)] := hl
    refine lv_iload_n hx hb d_M_call_63 rfl (lv_at hl 2 rfl) ?_
    by_cases h64_5 : x1 = (65 : Int32)
    · rw [if_pos h64_5] at hf
      refine lv_tableIn (tgt := 176) (off := 112) hx hb d_M_call_64 (by rw [h64_5]; decide) (by rw [h64_5]; decide) (by rw [h64_5]; decide) (by decide) ?_
      refine lv_aload_n hx hb d_M_call_176 rfl (lv_at hl 1 rfl) ?_
      refine lv_bipush (v := 10) hx hb d_M_call_177 (by decide) ?_
      have hP : va_P (dC, dI) vC (wM o cI F A) H := hP
      have hD : va_D (va_A (wM o cI Fa Aa) s.heap.size) (wM o cI F A) := hD
      obtain ⟨F6, A6, hc, hf⟩ := ra_bv_some hf
      refine cc_callv (va_runV (As := [.int (10 : Int32)]) (rest := []) ⟨hx, hb, hml, hown, hts⟩ (k_M_each l dC dI o cI H.size F A (10 : Int32) F6 A6 hc) (cw_V 1 hts mw_675 mw_677 ms_M_each mw_5 mw_678 rfl rfl rfl hd_M_each ⟨Nat.le_of_ble_eq_true rfl, Nat.le_of_ble_eq_true rfl⟩) (cc_preV hK hP hD rfl (q0 := 0) rfl) rfl rfl hl.1 rfl (lv_room (Nat.le_of_ble_eq_true rfl)) d_M_call_179 ⟨Nat.zero_le _, Nat.zero_le _⟩) hD hS hA (fun H locs hP hD hS => ?_)
      refine lv_goto (tgt := 270) hx hb d_M_call_182 (by decide) ?_
      cases hf
      exact W.vret hx hb hr (fun t ht hW => ⟨⟨(), rfl, trivial, by rw [ht]; exact hP, va_K.moved hW.alike hK, hD⟩, hS.F ht⟩) hS.2.2 d_M_call_270
    · rw [if_neg h64_5] at hf
      by_cases h64_7 : x1 = (66 : Int32)
      · rw [if_pos h64_7] at hf
        refine lv_tableIn (tgt := 260) (off := 196) hx hb d_M_call_64 (by rw [h64_7]; decide) (by rw [h64_7]; decide) (by rw [h64_7]; decide) (by decide) ?_
        refine lv_aload_n hx hb d_M_call_260 rfl (lv_at hl 1 rfl) ?_
        refine lv_iload hx hb d_M_call_261 (lv_at hl 0 rfl) ?_
        refine lv_iload hx hb d_M_call_263 (lv_at hl 0 rfl) ?_
        refine lv_iconst (v := 1) hx hb d_M_call_265 (by decide) ?_
        refine lv_iadd hx hb d_M_call_266 ?_
        have hP : va_P (dC, dI) vC (wM o cI F A) H := hP
        have hD : va_D (va_A (wM o cI Fa Aa) s.heap.size) (wM o cI F A) := hD
        obtain ⟨F8, A8, hc, hf⟩ := ra_bv_some hf
        refine cc_callv (va_runV (As := [.int ((F 6) - x2), .int (((F 6) - x2) + (1 : Int32))]) (rest := []) ⟨hx, hb, hml, hown, hts⟩ (k_M_matrix l dC dI o cI H.size F A ((F 6) - x2) (((F 6) - x2) + (1 : Int32)) F8 A8 hc) (cw_V 2 hts mw_687 mw_689 ms_M_matrix mw_5 mw_690 rfl rfl rfl hd_M_matrix ⟨Nat.le_of_ble_eq_true rfl, Nat.le_of_ble_eq_true rfl⟩) (cc_preV hK hP hD rfl (q0 := 0) rfl) rfl rfl hl.1 rfl (lv_room (Nat.le_of_ble_eq_true rfl)) d_M_call_267 ⟨Nat.zero_le _, Nat.zero_le _⟩) hD hS hA (fun H locs hP hD hS => ?_)
        cases hf
        exact W.vret hx hb hr (fun t ht hW => ⟨⟨(), rfl, trivial, by rw [ht]; exact hP, va_K.moved hW.alike hK, hD⟩, hS.F ht⟩) hS.2.2 d_M_call_270
      · rw [if_neg h64_7] at hf
        by_cases h64_9 : x1 = (67 : Int32)
        · rw [if_pos h64_9] at hf
          refine lv_tableIn (tgt := 260) (off := 196) hx hb d_M_call_64 (by rw [h64_9]; decide) (by rw [h64_9]; decide) (by rw [h64_9]; decide) (by decide) ?_
          refine lv_aload_n hx hb d_M_call_260 rfl (lv_at hl 1 rfl) ?_
          refine lv_iload hx hb d_M_call_261 (lv_at hl 0 rfl) ?_
          refine lv_iload hx hb d_M_call_263 (lv_at hl 0 rfl) ?_
          refine lv_iconst (v := 1) hx hb d_M_call_265 (by decide) ?_
          refine lv_iadd hx hb d_M_call_266 ?_
          have hP : va_P (dC, dI) vC (wM o cI F A) H := hP
          have hD : va_D (va_A (wM o cI Fa Aa) s.heap.size) (wM o cI F A) := hD
          obtain ⟨F10, A10, hc, hf⟩ := ra_bv_some hf
          refine cc_callv (va_runV (As := [.int ((F 6) - x2), .int (((F 6) - x2) + (1 : Int32))]) (rest := []) ⟨hx, hb, hml, hown, hts⟩ (k_M_matrix l dC dI o cI H.size F A ((F 6) - x2) (((F 6) - x2) + (1 : Int32)) F10 A10 hc) (cw_V 2 hts mw_687 mw_689 ms_M_matrix mw_5 mw_690 rfl rfl rfl hd_M_matrix ⟨Nat.le_of_ble_eq_true rfl, Nat.le_of_ble_eq_true rfl⟩) (cc_preV hK hP hD rfl (q0 := 0) rfl) rfl rfl hl.1 rfl (lv_room (Nat.le_of_ble_eq_true rfl)) d_M_call_267 ⟨Nat.zero_le _, Nat.zero_le _⟩) hD hS hA (fun H locs hP hD hS => ?_)
          cases hf
          exact W.vret hx hb hr (fun t ht hW => ⟨⟨(), rfl, trivial, by rw [ht]; exact hP, va_K.moved hW.alike hK, hD⟩, hS.F ht⟩) hS.2.2 d_M_call_270
        · rw [if_neg h64_9] at hf
          by_cases h64_11 : x1 = (68 : Int32)
          · rw [if_pos h64_11] at hf
            refine lv_tableIn (tgt := 239) (off := 175) hx hb d_M_call_64 (by rw [h64_11]; decide) (by rw [h64_11]; decide) (by rw [h64_11]; decide) (by decide) ?_
            refine lv_aload_n hx hb d_M_call_239 rfl (lv_at hl 1 rfl) ?_
            refine lv_iload hx hb d_M_call_240 (lv_at hl 0 rfl) ?_
            refine lv_iload hx hb d_M_call_242 (lv_at hl 0 rfl) ?_
            refine lv_iconst (v := 1) hx hb d_M_call_244 (by decide) ?_
            refine lv_iadd hx hb d_M_call_245 ?_
            have hP : va_P (dC, dI) vC (wM o cI F A) H := hP
            have hD : va_D (va_A (wM o cI Fa Aa) s.heap.size) (wM o cI F A) := hD
            obtain ⟨F12, A12, hc, hf⟩ := ra_bv_some hf
            refine cc_callv (va_runV (As := [.int ((F 6) - x2), .int (((F 6) - x2) + (1 : Int32))]) (rest := []) ⟨hx, hb, hml, hown, hts⟩ (k_M_dot l dC dI o cI H.size F A ((F 6) - x2) (((F 6) - x2) + (1 : Int32)) F12 A12 hc) (cw_V 2 hts mw_679 mw_681 ms_M_dot mw_5 mw_682 rfl rfl rfl hd_M_dot ⟨Nat.le_of_ble_eq_true rfl, Nat.le_of_ble_eq_true rfl⟩) (cc_preV hK hP hD rfl (q0 := 0) rfl) rfl rfl hl.1 rfl (lv_room (Nat.le_of_ble_eq_true rfl)) d_M_call_246 ⟨Nat.zero_le _, Nat.zero_le _⟩) hD hS hA (fun H locs hP hD hS => ?_)
            refine lv_goto (tgt := 270) hx hb d_M_call_249 (by decide) ?_
            cases hf
            exact W.vret hx hb hr (fun t ht hW => ⟨⟨(), rfl, trivial, by rw [ht]; exact hP, va_K.moved hW.alike hK, hD⟩, hS.F ht⟩) hS.2.2 d_M_call_270
          · rw [if_neg h64_11] at hf
            by_cases h64_13 : x1 = (69 : Int32)
            · rw [if_pos h64_13] at hf
              refine lv_tableIn (tgt := 260) (off := 196) hx hb d_M_call_64 (by rw [h64_13]; decide) (by rw [h64_13]; decide) (by rw [h64_13]; decide) (by decide) ?_
              refine lv_aload_n hx hb d_M_call_260 rfl (lv_at hl 1 rfl) ?_
              refine lv_iload hx hb d_M_call_261 (lv_at hl 0 rfl) ?_
              refine lv_iload hx hb d_M_call_263 (lv_at hl 0 rfl) ?_
              refine lv_iconst (v := 1) hx hb d_M_call_265 (by decide) ?_
              refine lv_iadd hx hb d_M_call_266 ?_
              have hP : va_P (dC, dI) vC (wM o cI F A) H := hP
              have hD : va_D (va_A (wM o cI Fa Aa) s.heap.size) (wM o cI F A) := hD
              obtain ⟨F14, A14, hc, hf⟩ := ra_bv_some hf
              refine cc_callv (va_runV (As := [.int ((F 6) - x2), .int (((F 6) - x2) + (1 : Int32))]) (rest := []) ⟨hx, hb, hml, hown, hts⟩ (k_M_matrix l dC dI o cI H.size F A ((F 6) - x2) (((F 6) - x2) + (1 : Int32)) F14 A14 hc) (cw_V 2 hts mw_687 mw_689 ms_M_matrix mw_5 mw_690 rfl rfl rfl hd_M_matrix ⟨Nat.le_of_ble_eq_true rfl, Nat.le_of_ble_eq_true rfl⟩) (cc_preV hK hP hD rfl (q0 := 0) rfl) rfl rfl hl.1 rfl (lv_room (Nat.le_of_ble_eq_true rfl)) d_M_call_267 ⟨Nat.zero_le _, Nat.zero_le _⟩) hD hS hA (fun H locs hP hD hS => ?_)
              cases hf
              exact W.vret hx hb hr (fun t ht hW => ⟨⟨(), rfl, trivial, by rw [ht]; exact hP, va_K.moved hW.alike hK, hD⟩, hS.F ht⟩) hS.2.2 d_M_call_270
            · rw [if_neg h64_13] at hf
              by_cases h64_15 : x1 = (70 : Int32)
              · rw [if_pos h64_15] at hf
                refine lv_tableIn (tgt := 185) (off := 121) hx hb d_M_call_64 (by rw [h64_15]; decide) (by rw [h64_15]; decide) (by rw [h64_15]; decide) (by decide) ?_
                refine lv_aload_n hx hb d_M_call_185 rfl (lv_at hl 1 rfl) ?_
                refine lv_bipush (v := 11) hx hb d_M_call_186 (by decide) ?_
                have hP : va_P (dC, dI) vC (wM o cI F A) H := hP
                have hD : va_D (va_A (wM o cI Fa Aa) s.heap.size) (wM o cI F A) := hD
                obtain ⟨F16, A16, hc, hf⟩ := ra_bv_some hf
                refine cc_callv (va_runV (As := [.int (11 : Int32)]) (rest := []) ⟨hx, hb, hml, hown, hts⟩ (k_M_each l dC dI o cI H.size F A (11 : Int32) F16 A16 hc) (cw_V 1 hts mw_675 mw_677 ms_M_each mw_5 mw_678 rfl rfl rfl hd_M_each ⟨Nat.le_of_ble_eq_true rfl, Nat.le_of_ble_eq_true rfl⟩) (cc_preV hK hP hD rfl (q0 := 0) rfl) rfl rfl hl.1 rfl (lv_room (Nat.le_of_ble_eq_true rfl)) d_M_call_188 ⟨Nat.zero_le _, Nat.zero_le _⟩) hD hS hA (fun H locs hP hD hS => ?_)
                refine lv_goto (tgt := 270) hx hb d_M_call_191 (by decide) ?_
                cases hf
                exact W.vret hx hb hr (fun t ht hW => ⟨⟨(), rfl, trivial, by rw [ht]; exact hP, va_K.moved hW.alike hK, hD⟩, hS.F ht⟩) hS.2.2 d_M_call_270
              · rw [if_neg h64_15] at hf
                by_cases h64_17 : x1 = (71 : Int32)
                · rw [if_pos h64_17] at hf
                  refine lv_tableIn (tgt := 260) (off := 196) hx hb d_M_call_64 (by rw [h64_17]; decide) (by rw [h64_17]; decide) (by rw [h64_17]; decide) (by decide) ?_
                  refine lv_aload_n hx hb d_M_call_260 rfl (lv_at hl 1 rfl) ?_
                  refine lv_iload hx hb d_M_call_261 (lv_at hl 0 rfl) ?_
                  refine lv_iload hx hb d_M_call_263 (lv_at hl 0 rfl) ?_
                  refine lv_iconst (v := 1) hx hb d_M_call_265 (by decide) ?_
                  refine lv_iadd hx hb d_M_call_266 ?_
                  have hP : va_P (dC, dI) vC (wM o cI F A) H := hP
                  have hD : va_D (va_A (wM o cI Fa Aa) s.heap.size) (wM o cI F A) := hD
                  obtain ⟨F18, A18, hc, hf⟩ := ra_bv_some hf
                  refine cc_callv (va_runV (As := [.int ((F 6) - x2), .int (((F 6) - x2) + (1 : Int32))]) (rest := []) ⟨hx, hb, hml, hown, hts⟩ (k_M_matrix l dC dI o cI H.size F A ((F 6) - x2) (((F 6) - x2) + (1 : Int32)) F18 A18 hc) (cw_V 2 hts mw_687 mw_689 ms_M_matrix mw_5 mw_690 rfl rfl rfl hd_M_matrix ⟨Nat.le_of_ble_eq_true rfl, Nat.le_of_ble_eq_true rfl⟩) (cc_preV hK hP hD rfl (q0 := 0) rfl) rfl rfl hl.1 rfl (lv_room (Nat.le_of_ble_eq_true rfl)) d_M_call_267 ⟨Nat.zero_le _, Nat.zero_le _⟩) hD hS hA (fun H locs hP hD hS => ?_)
                  cases hf
                  exact W.vret hx hb hr (fun t ht hW => ⟨⟨(), rfl, trivial, by rw [ht]; exact hP, va_K.moved hW.alike hK, hD⟩, hS.F ht⟩) hS.2.2 d_M_call_270
                · rw [if_neg h64_17] at hf
                  by_cases h64_19 : x1 = (72 : Int32)
                  · rw [if_pos h64_19] at hf
                    refine lv_tableIn (tgt := 260) (off := 196) hx hb d_M_call_64 (by rw [h64_19]; decide) (by rw [h64_19]; decide) (by rw [h64_19]; decide) (by decide) ?_
                    refine lv_aload_n hx hb d_M_call_260 rfl (lv_at hl 1 rfl) ?_
                    refine lv_iload hx hb d_M_call_261 (lv_at hl 0 rfl) ?_
                    refine lv_iload hx hb d_M_call_263 (lv_at hl 0 rfl) ?_
                    refine lv_iconst (v := 1) hx hb d_M_call_265 (by decide) ?_
                    refine lv_iadd hx hb d_M_call_266 ?_
                    have hP : va_P (dC, dI) vC (wM o cI F A) H := hP
                    have hD : va_D (va_A (wM o cI Fa Aa) s.heap.size) (wM o cI F A) := hD
                    obtain ⟨F20, A20, hc, hf⟩ := ra_bv_some hf
                    refine cc_callv (va_runV (As := [.int ((F 6) - x2), .int (((F 6) - x2) + (1 : Int32))]) (rest := []) ⟨hx, hb, hml, hown, hts⟩ (k_M_matrix l dC dI o cI H.size F A ((F 6) - x2) (((F 6) - x2) + (1 : Int32)) F20 A20 hc) (cw_V 2 hts mw_687 mw_689 ms_M_matrix mw_5 mw_690 rfl rfl rfl hd_M_matrix ⟨Nat.le_of_ble_eq_true rfl, Nat.le_of_ble_eq_true rfl⟩) (cc_preV hK hP hD rfl (q0 := 0) rfl) rfl rfl hl.1 rfl (lv_room (Nat.le_of_ble_eq_true rfl)) d_M_call_267 ⟨Nat.zero_le _, Nat.zero_le _⟩) hD hS hA (fun H locs hP hD hS => ?_)
                    cases hf
                    exact W.vret hx hb hr (fun t ht hW => ⟨⟨(), rfl, trivial, by rw [ht]; exact hP, va_K.moved hW.alike hK, hD⟩, hS.F ht⟩) hS.2.2 d_M_call_270
                  · rw [if_neg h64_19] at hf
                    by_cases h64_21 : x1 = (73 : Int32)
                    · rw [if_pos h64_21] at hf
                      refine lv_tableIn (tgt := 260) (off := 196) hx hb d_M_call_64 (by rw [h64_21]; decide) (by rw [h64_21]; decide) (by rw [h64_21]; decide) (by decide) ?_
                      refine lv_aload_n hx hb d_M_call_260 rfl (lv_at hl 1 rfl) ?_
                      refine lv_iload hx hb d_M_call_261 (lv_at hl 0 rfl) ?_
                      refine lv_iload hx hb d_M_call_263 (lv_at hl 0 rfl) ?_
                      refine lv_iconst (v := 1) hx hb d_M_call_265 (by decide) ?_
                      refine lv_iadd hx hb d_M_call_266 ?_
                      have hP : va_P (dC, dI) vC (wM o cI F A) H := hP
                      have hD : va_D (va_A (wM o cI Fa Aa) s.heap.size) (wM o cI F A) := hD
                      obtain ⟨F22, A22, hc, hf⟩ := ra_bv_some hf
                      refine cc_callv (va_runV (As := [.int ((F 6) - x2), .int (((F 6) - x2) + (1 : Int32))]) (rest := []) ⟨hx, hb, hml, hown, hts⟩ (k_M_matrix l dC dI o cI H.size F A ((F 6) - x2) (((F 6) - x2) + (1 : Int32)) F22 A22 hc) (cw_V 2 hts mw_687 mw_689 ms_M_matrix mw_5 mw_690 rfl rfl rfl hd_M_matrix ⟨Nat.le_of_ble_eq_true rfl, Nat.le_of_ble_eq_true rfl⟩) (cc_preV hK hP hD rfl (q0 := 0) rfl) rfl rfl hl.1 rfl (lv_room (Nat.le_of_ble_eq_true rfl)) d_M_call_267 ⟨Nat.zero_le _, Nat.zero_le _⟩) hD hS hA (fun H locs hP hD hS => ?_)
                      cases hf
                      exact W.vret hx hb hr (fun t ht hW => ⟨⟨(), rfl, trivial, by rw [ht]; exact hP, va_K.moved hW.alike hK, hD⟩, hS.F ht⟩) hS.2.2 d_M_call_270
                    · rw [if_neg h64_21] at hf
                      by_cases h64_23 : x1 = (74 : Int32)
                      · rw [if_pos h64_23] at hf
                        refine lv_tableIn (tgt := 260) (off := 196) hx hb d_M_call_64 (by rw [h64_23]; decide) (by rw [h64_23]; decide) (by rw [h64_23]; decide) (by decide) ?_
                        refine lv_aload_n hx hb d_M_call_260 rfl (lv_at hl 1 rfl) ?_
                        refine lv_iload hx hb d_M_call_261 (lv_at hl 0 rfl) ?_
                        refine lv_iload hx hb d_M_call_263 (lv_at hl 0 rfl) ?_
                        refine lv_iconst (v := 1) hx hb d_M_call_265 (by decide) ?_
                        refine lv_iadd hx hb d_M_call_266 ?_
                        have hP : va_P (dC, dI) vC (wM o cI F A) H := hP
                        have hD : va_D (va_A (wM o cI Fa Aa) s.heap.size) (wM o cI F A) := hD
                        obtain ⟨F24, A24, hc, hf⟩ := ra_bv_some hf
                        refine cc_callv (va_runV (As := [.int ((F 6) - x2), .int (((F 6) - x2) + (1 : Int32))]) (rest := []) ⟨hx, hb, hml, hown, hts⟩ (k_M_matrix l dC dI o cI H.size F A ((F 6) - x2) (((F 6) - x2) + (1 : Int32)) F24 A24 hc) (cw_V 2 hts mw_687 mw_689 ms_M_matrix mw_5 mw_690 rfl rfl rfl hd_M_matrix ⟨Nat.le_of_ble_eq_true rfl, Nat.le_of_ble_eq_true rfl⟩) (cc_preV hK hP hD rfl (q0 := 0) rfl) rfl rfl hl.1 rfl (lv_room (Nat.le_of_ble_eq_true rfl)) d_M_call_267 ⟨Nat.zero_le _, Nat.zero_le _⟩) hD hS hA (fun H locs hP hD hS => ?_)
                        cases hf
                        exact W.vret hx hb hr (fun t ht hW => ⟨⟨(), rfl, trivial, by rw [ht]; exact hP, va_K.moved hW.alike hK, hD⟩, hS.F ht⟩) hS.2.2 d_M_call_270
                      · rw [if_neg h64_23] at hf
                        by_cases h64_25 : x1 = (75 : Int32)
                        · rw [if_pos h64_25] at hf
                          refine lv_tableIn (tgt := 260) (off := 196) hx hb d_M_call_64 (by rw [h64_25]; decide) (by rw [h64_25]; decide) (by rw [h64_25]; decide) (by decide) ?_
                          refine lv_aload_n hx hb d_M_call_260 rfl (lv_at hl 1 rfl) ?_
                          refine lv_iload hx hb d_M_call_261 (lv_at hl 0 rfl) ?_
                          refine lv_iload hx hb d_M_call_263 (lv_at hl 0 rfl) ?_
                          refine lv_iconst (v := 1) hx hb d_M_call_265 (by decide) ?_
                          refine lv_iadd hx hb d_M_call_266 ?_
                          have hP : va_P (dC, dI) vC (wM o cI F A) H := hP
                          have hD : va_D (va_A (wM o cI Fa Aa) s.heap.size) (wM o cI F A) := hD
                          obtain ⟨F26, A26, hc, hf⟩ := ra_bv_some hf
                          refine cc_callv (va_runV (As := [.int ((F 6) - x2), .int (((F 6) - x2) + (1 : Int32))]) (rest := []) ⟨hx, hb, hml, hown, hts⟩ (k_M_matrix l dC dI o cI H.size F A ((F 6) - x2) (((F 6) - x2) + (1 : Int32)) F26 A26 hc) (cw_V 2 hts mw_687 mw_689 ms_M_matrix mw_5 mw_690 rfl rfl rfl hd_M_matrix ⟨Nat.le_of_ble_eq_true rfl, Nat.le_of_ble_eq_true rfl⟩) (cc_preV hK hP hD rfl (q0 := 0) rfl) rfl rfl hl.1 rfl (lv_room (Nat.le_of_ble_eq_true rfl)) d_M_call_267 ⟨Nat.zero_le _, Nat.zero_le _⟩) hD hS hA (fun H locs hP hD hS => ?_)
                          cases hf
                          exact W.vret hx hb hr (fun t ht hW => ⟨⟨(), rfl, trivial, by rw [ht]; exact hP, va_K.moved hW.alike hK, hD⟩, hS.F ht⟩) hS.2.2 d_M_call_270
                        · rw [if_neg h64_25] at hf
                          by_cases h64_27 : x1 = (76 : Int32)
                          · rw [if_pos h64_27] at hf
                            refine lv_tableIn (tgt := 260) (off := 196) hx hb d_M_call_64 (by rw [h64_27]; decide) (by rw [h64_27]; decide) (by rw [h64_27]; decide) (by decide) ?_
                            refine lv_aload_n hx hb d_M_call_260 rfl (lv_at hl 1 rfl) ?_
                            refine lv_iload hx hb d_M_call_261 (lv_at hl 0 rfl) ?_
                            refine lv_iload hx hb d_M_call_263 (lv_at hl 0 rfl) ?_
                            refine lv_iconst (v := 1) hx hb d_M_call_265 (by decide) ?_
                            refine lv_iadd hx hb d_M_call_266 ?_
                            have hP : va_P (dC, dI) vC (wM o cI F A) H := hP
                            have hD : va_D (va_A (wM o cI Fa Aa) s.heap.size) (wM o cI F A) := hD
                            obtain ⟨F28, A28, hc, hf⟩ := ra_bv_some hf
                            refine cc_callv (va_runV (As := [.int ((F 6) - x2), .int (((F 6) - x2) + (1 : Int32))]) (rest := []) ⟨hx, hb, hml, hown, hts⟩ (k_M_matrix l dC dI o cI H.size F A ((F 6) - x2) (((F 6) - x2) + (1 : Int32)) F28 A28 hc) (cw_V 2 hts mw_687 mw_689 ms_M_matrix mw_5 mw_690 rfl rfl rfl hd_M_matrix ⟨Nat.le_of_ble_eq_true rfl, Nat.le_of_ble_eq_true rfl⟩) (cc_preV hK hP hD rfl (q0 := 0) rfl) rfl rfl hl.1 rfl (lv_room (Nat.le_of_ble_eq_true rfl)) d_M_call_267 ⟨Nat.zero_le _, Nat.zero_le _⟩) hD hS hA (fun H locs hP hD hS => ?_)
                            cases hf
                            exact W.vret hx hb hr (fun t ht hW => ⟨⟨(), rfl, trivial, by rw [ht]; exact hP, va_K.moved hW.alike hK, hD⟩, hS.F ht⟩) hS.2.2 d_M_call_270
                          · rw [if_neg h64_27] at hf
                            by_cases h64_29 : x1 = (77 : Int32)
                            · rw [if_pos h64_29] at hf
                              refine lv_tableIn (tgt := 260) (off := 196) hx hb d_M_call_64 (by rw [h64_29]; decide) (by rw [h64_29]; decide) (by rw [h64_29]; decide) (by decide) ?_
                              refine lv_aload_n hx hb d_M_call_260 rfl (lv_at hl 1 rfl) ?_
                              refine lv_iload hx hb d_M_call_261 (lv_at hl 0 rfl) ?_
                              refine lv_iload hx hb d_M_call_263 (lv_at hl 0 rfl) ?_
                              refine lv_iconst (v := 1) hx hb d_M_call_265 (by decide) ?_
                              refine lv_iadd hx hb d_M_call_266 ?_
                              have hP : va_P (dC, dI) vC (wM o cI F A) H := hP
                              have hD : va_D (va_A (wM o cI Fa Aa) s.heap.size) (wM o cI F A) := hD
                              obtain ⟨F30, A30, hc, hf⟩ := ra_bv_some hf
                              refine cc_callv (va_runV (As := [.int ((F 6) - x2), .int (((F 6) - x2) + (1 : Int32))]) (rest := []) ⟨hx, hb, hml, hown, hts⟩ (k_M_matrix l dC dI o cI H.size F A ((F 6) - x2) (((F 6) - x2) + (1 : Int32)) F30 A30 hc) (cw_V 2 hts mw_687 mw_689 ms_M_matrix mw_5 mw_690 rfl rfl rfl hd_M_matrix ⟨Nat.le_of_ble_eq_true rfl, Nat.le_of_ble_eq_true rfl⟩) (cc_preV hK hP hD rfl (q0 := 0) rfl) rfl rfl hl.1 rfl (lv_room (Nat.le_of_ble_eq_true rfl)) d_M_call_267 ⟨Nat.zero_le _, Nat.zero_le _⟩) hD hS hA (fun H locs hP hD hS => ?_)
                              cases hf
                              exact W.vret hx hb hr (fun t ht hW => ⟨⟨(), rfl, trivial, by rw [ht]; exact hP, va_K.moved hW.alike hK, hD⟩, hS.F ht⟩) hS.2.2 d_M_call_270
                            · rw [if_neg h64_29] at hf
                              by_cases h64_31 : x1 = (78 : Int32)
                              · rw [if_pos h64_31] at hf
                                refine lv_tableIn (tgt := 194) (off := 130) hx hb d_M_call_64 (by rw [h64_31]; decide) (by rw [h64_31]; decide) (by rw [h64_31]; decide) (by decide) ?_
                                refine lv_aload_n hx hb d_M_call_194 rfl (lv_at hl 1 rfl) ?_
                                refine lv_bipush (v := 6) hx hb d_M_call_195 (by decide) ?_
                                refine lv_iload hx hb d_M_call_197 (lv_at hl 0 rfl) ?_
                                refine lv_iload hx hb d_M_call_199 (lv_at hl 0 rfl) ?_
                                refine lv_iconst (v := 1) hx hb d_M_call_201 (by decide) ?_
                                refine lv_iadd hx hb d_M_call_202 ?_
                                have hP : va_P (dC, dI) vC (wM o cI F A) H := hP
                                have hD : va_D (va_A (wM o cI Fa Aa) s.heap.size) (wM o cI F A) := hD
                                obtain ⟨F32, A32, hc, hf⟩ := ra_bv_some hf
                                refine cc_callv (va_runV (As := [.int (6 : Int32), .int ((F 6) - x2), .int (((F 6) - x2) + (1 : Int32))]) (rest := []) ⟨hx, hb, hml, hown, hts⟩ (k_M_pairwise l dC dI o cI H.size F A (6 : Int32) ((F 6) - x2) (((F 6) - x2) + (1 : Int32)) F32 A32 hc) (cw_V 3 hts mw_664 mw_666 ms_M_pairwise mw_5 mw_667 rfl rfl rfl hd_M_pairwise ⟨Nat.le_of_ble_eq_true rfl, Nat.le_of_ble_eq_true rfl⟩) (cc_preV hK hP hD rfl (q0 := 0) rfl) rfl rfl hl.1 rfl (lv_room (Nat.le_of_ble_eq_true rfl)) d_M_call_203 ⟨Nat.zero_le _, Nat.zero_le _⟩) hD hS hA (fun H locs hP hD hS => ?_)
                                refine lv_goto (tgt := 270) hx hb d_M_call_206 (by decide) ?_
                                cases hf
                                exact W.vret hx hb hr (fun t ht hW => ⟨⟨(), rfl, trivial, by rw [ht]; exact hP, va_K.moved hW.alike hK, hD⟩, hS.F ht⟩) hS.2.2 d_M_call_270
                              · rw [if_neg h64_31] at hf
                                by_cases h64_33 : x1 = (79 : Int32)
                                · rw [if_pos h64_33] at hf
                                  refine lv_tableIn (tgt := 260) (off := 196) hx hb d_M_call_64 (by rw [h64_33]; decide) (by rw [h64_33]; decide) (by rw [h64_33]; decide) (by decide) ?_
                                  refine lv_aload_n hx hb d_M_call_260 rfl (lv_at hl 1 rfl) ?_
                                  refine lv_iload hx hb d_M_call_261 (lv_at hl 0 rfl) ?_
                                  refine lv_iload hx hb d_M_call_263 (lv_at hl 0 rfl) ?_
                                  refine lv_iconst (v := 1) hx hb d_M_call_265 (by decide) ?_
                                  refine lv_iadd hx hb d_M_call_266 ?_
                                  have hP : va_P (dC, dI) vC (wM o cI F A) H := hP
                                  have hD : va_D (va_A (wM o cI Fa Aa) s.heap.size) (wM o cI F A) := hD
                                  obtain ⟨F34, A34, hc, hf⟩ := ra_bv_some hf
                                  refine cc_callv (va_runV (As := [.int ((F 6) - x2), .int (((F 6) - x2) + (1 : Int32))]) (rest := []) ⟨hx, hb, hml, hown, hts⟩ (k_M_matrix l dC dI o cI H.size F A ((F 6) - x2) (((F 6) - x2) + (1 : Int32)) F34 A34 hc) (cw_V 2 hts mw_687 mw_689 ms_M_matrix mw_5 mw_690 rfl rfl rfl hd_M_matrix ⟨Nat.le_of_ble_eq_true rfl, Nat.le_of_ble_eq_true rfl⟩) (cc_preV hK hP hD rfl (q0 := 0) rfl) rfl rfl hl.1 rfl (lv_room (Nat.le_of_ble_eq_true rfl)) d_M_call_267 ⟨Nat.zero_le _, Nat.zero_le _⟩) hD hS hA (fun H locs hP hD hS => ?_)
                                  cases hf
                                  exact W.vret hx hb hr (fun t ht hW => ⟨⟨(), rfl, trivial, by rw [ht]; exact hP, va_K.moved hW.alike hK, hD⟩, hS.F ht⟩) hS.2.2 d_M_call_270
                                · rw [if_neg h64_33] at hf
                                  by_cases h64_35 : x1 = (80 : Int32)
                                  · rw [if_pos h64_35] at hf
                                    refine lv_tableIn (tgt := 260) (off := 196) hx hb d_M_call_64 (by rw [h64_35]; decide) (by rw [h64_35]; decide) (by rw [h64_35]; decide) (by decide) ?_
                                    refine lv_aload_n hx hb d_M_call_260 rfl (lv_at hl 1 rfl) ?_
                                    refine lv_iload hx hb d_M_call_261 (lv_at hl 0 rfl) ?_
                                    refine lv_iload hx hb d_M_call_263 (lv_at hl 0 rfl) ?_
                                    refine lv_iconst (v := 1) hx hb d_M_call_265 (by decide) ?_
                                    refine lv_iadd hx hb d_M_call_266 ?_
                                    have hP : va_P (dC, dI) vC (wM o cI F A) H := hP
                                    have hD : va_D (va_A (wM o cI Fa Aa) s.heap.size) (wM o cI F A) := hD
                                    obtain ⟨F36, A36, hc, hf⟩ := ra_bv_some hf
                                    refine cc_callv (va_runV (As := [.int ((F 6) - x2), .int (((F 6) - x2) + (1 : Int32))]) (rest := []) ⟨hx, hb, hml, hown, hts⟩ (k_M_matrix l dC dI o cI H.size F A ((F 6) - x2) (((F 6) - x2) + (1 : Int32)) F36 A36 hc) (cw_V 2 hts mw_687 mw_689 ms_M_matrix mw_5 mw_690 rfl rfl rfl hd_M_matrix ⟨Nat.le_of_ble_eq_true rfl, Nat.le_of_ble_eq_true rfl⟩) (cc_preV hK hP hD rfl (q0 := 0) rfl) rfl rfl hl.1 rfl (lv_room (Nat.le_of_ble_eq_true rfl)) d_M_call_267 ⟨Nat.zero_le _, Nat.zero_le _⟩) hD hS hA (fun H locs hP hD hS => ?_)
                                    cases hf
                                    exact W.vret hx hb hr (fun t ht hW => ⟨⟨(), rfl, trivial, by rw [ht]; exact hP, va_K.moved hW.alike hK, hD⟩, hS.F ht⟩) hS.2.2 d_M_call_270
                                  · rw [if_neg h64_35] at hf
                                    by_cases h64_37 : x1 = (81 : Int32)
                                    · rw [if_pos h64_37] at hf
                                      refine lv_tableIn (tgt := 260) (off := 196) hx hb d_M_call_64 (by rw [h64_37]; decide) (by rw [h64_37]; decide) (by rw [h64_37]; decide) (by decide) ?_
                                      refine lv_aload_n hx hb d_M_call_260 rfl (lv_at hl 1 rfl) ?_
                                      refine lv_iload hx hb d_M_call_261 (lv_at hl 0 rfl) ?_
                                      refine lv_iload hx hb d_M_call_263 (lv_at hl 0 rfl) ?_
                                      refine lv_iconst (v := 1) hx hb d_M_call_265 (by decide) ?_
                                      refine lv_iadd hx hb d_M_call_266 ?_
                                      have hP : va_P (dC, dI) vC (wM o cI F A) H := hP
                                      have hD : va_D (va_A (wM o cI Fa Aa) s.heap.size) (wM o cI F A) := hD
                                      obtain ⟨F38, A38, hc, hf⟩ := ra_bv_some hf
                                      refine cc_callv (va_runV (As := [.int ((F 6) - x2), .int (((F 6) - x2) + (1 : Int32))]) (rest := []) ⟨hx, hb, hml, hown, hts⟩ (k_M_matrix l dC dI o cI H.size F A ((F 6) - x2) (((F 6) - x2) + (1 : Int32)) F38 A38 hc) (cw_V 2 hts mw_687 mw_689 ms_M_matrix mw_5 mw_690 rfl rfl rfl hd_M_matrix ⟨Nat.le_of_ble_eq_true rfl, Nat.le_of_ble_eq_true rfl⟩) (cc_preV hK hP hD rfl (q0 := 0) rfl) rfl rfl hl.1 rfl (lv_room (Nat.le_of_ble_eq_true rfl)) d_M_call_267 ⟨Nat.zero_le _, Nat.zero_le _⟩) hD hS hA (fun H locs hP hD hS => ?_)
                                      cases hf
                                      exact W.vret hx hb hr (fun t ht hW => ⟨⟨(), rfl, trivial, by rw [ht]; exact hP, va_K.moved hW.alike hK, hD⟩, hS.F ht⟩) hS.2.2 d_M_call_270
                                    · rw [if_neg h64_37] at hf
                                      by_cases h64_39 : x1 = (82 : Int32)
                                      · rw [if_pos h64_39] at hf
                                        refine lv_tableIn (tgt := 260) (off := 196) hx hb d_M_call_64 (by rw [h64_39]; decide) (by rw [h64_39]; decide) (by rw [h64_39]; decide) (by decide) ?_
                                        refine lv_aload_n hx hb d_M_call_260 rfl (lv_at hl 1 rfl) ?_
                                        refine lv_iload hx hb d_M_call_261 (lv_at hl 0 rfl) ?_
                                        refine lv_iload hx hb d_M_call_263 (lv_at hl 0 rfl) ?_
                                        refine lv_iconst (v := 1) hx hb d_M_call_265 (by decide) ?_
                                        refine lv_iadd hx hb d_M_call_266 ?_
                                        have hP : va_P (dC, dI) vC (wM o cI F A) H := hP
                                        have hD : va_D (va_A (wM o cI Fa Aa) s.heap.size) (wM o cI F A) := hD
                                        obtain ⟨F40, A40, hc, hf⟩ := ra_bv_some hf
                                        refine cc_callv (va_runV (As := [.int ((F 6) - x2), .int (((F 6) - x2) + (1 : Int32))]) (rest := []) ⟨hx, hb, hml, hown, hts⟩ (k_M_matrix l dC dI o cI H.size F A ((F 6) - x2) (((F 6) - x2) + (1 : Int32)) F40 A40 hc) (cw_V 2 hts mw_687 mw_689 ms_M_matrix mw_5 mw_690 rfl rfl rfl hd_M_matrix ⟨Nat.le_of_ble_eq_true rfl, Nat.le_of_ble_eq_true rfl⟩) (cc_preV hK hP hD rfl (q0 := 0) rfl) rfl rfl hl.1 rfl (lv_room (Nat.le_of_ble_eq_true rfl)) d_M_call_267 ⟨Nat.zero_le _, Nat.zero_le _⟩) hD hS hA (fun H locs hP hD hS => ?_)
                                        cases hf
                                        exact W.vret hx hb hr (fun t ht hW => ⟨⟨(), rfl, trivial, by rw [ht]; exact hP, va_K.moved hW.alike hK, hD⟩, hS.F ht⟩) hS.2.2 d_M_call_270
                                      · rw [if_neg h64_39] at hf
                                        by_cases h64_41 : x1 = (83 : Int32)
                                        · rw [if_pos h64_41] at hf
                                          refine lv_tableIn (tgt := 224) (off := 160) hx hb d_M_call_64 (by rw [h64_41]; decide) (by rw [h64_41]; decide) (by rw [h64_41]; decide) (by decide) ?_
                                          refine lv_aload_n hx hb d_M_call_224 rfl (lv_at hl 1 rfl) ?_
                                          refine lv_bipush (v := 8) hx hb d_M_call_225 (by decide) ?_
                                          refine lv_iload hx hb d_M_call_227 (lv_at hl 0 rfl) ?_
                                          refine lv_iload hx hb d_M_call_229 (lv_at hl 0 rfl) ?_
                                          refine lv_iconst (v := 1) hx hb d_M_call_231 (by decide) ?_
                                          refine lv_iadd hx hb d_M_call_232 ?_
                                          have hP : va_P (dC, dI) vC (wM o cI F A) H := hP
                                          have hD : va_D (va_A (wM o cI Fa Aa) s.heap.size) (wM o cI F A) := hD
                                          obtain ⟨F42, A42, hc, hf⟩ := ra_bv_some hf
                                          refine cc_callv (va_runV (As := [.int (8 : Int32), .int ((F 6) - x2), .int (((F 6) - x2) + (1 : Int32))]) (rest := []) ⟨hx, hb, hml, hown, hts⟩ (k_M_pairwise l dC dI o cI H.size F A (8 : Int32) ((F 6) - x2) (((F 6) - x2) + (1 : Int32)) F42 A42 hc) (cw_V 3 hts mw_664 mw_666 ms_M_pairwise mw_5 mw_667 rfl rfl rfl hd_M_pairwise ⟨Nat.le_of_ble_eq_true rfl, Nat.le_of_ble_eq_true rfl⟩) (cc_preV hK hP hD rfl (q0 := 0) rfl) rfl rfl hl.1 rfl (lv_room (Nat.le_of_ble_eq_true rfl)) d_M_call_233 ⟨Nat.zero_le _, Nat.zero_le _⟩) hD hS hA (fun H locs hP hD hS => ?_)
                                          refine lv_goto (tgt := 270) hx hb d_M_call_236 (by decide) ?_
                                          cases hf
                                          exact W.vret hx hb hr (fun t ht hW => ⟨⟨(), rfl, trivial, by rw [ht]; exact hP, va_K.moved hW.alike hK, hD⟩, hS.F ht⟩) hS.2.2 d_M_call_270
                                        · rw [if_neg h64_41] at hf
                                          by_cases h64_43 : x1 = (84 : Int32)
                                          · rw [if_pos h64_43] at hf
                                            refine lv_tableIn (tgt := 260) (off := 196) hx hb d_M_call_64 (by rw [h64_43]; decide) (by rw [h64_43]; decide) (by rw [h64_43]; decide) (by decide) ?_
                                            refine lv_aload_n hx hb d_M_call_260 rfl (lv_at hl 1 rfl) ?_
                                            refine lv_iload hx hb d_M_call_261 (lv_at hl 0 rfl) ?_
                                            refine lv_iload hx hb d_M_call_263 (lv_at hl 0 rfl) ?_
                                            refine lv_iconst (v := 1) hx hb d_M_call_265 (by decide) ?_
                                            refine lv_iadd hx hb d_M_call_266 ?_
                                            have hP : va_P (dC, dI) vC (wM o cI F A) H := hP
                                            have hD : va_D (va_A (wM o cI Fa Aa) s.heap.size) (wM o cI F A) := hD
                                            obtain ⟨F44, A44, hc, hf⟩ := ra_bv_some hf
                                            refine cc_callv (va_runV (As := [.int ((F 6) - x2), .int (((F 6) - x2) + (1 : Int32))]) (rest := []) ⟨hx, hb, hml, hown, hts⟩ (k_M_matrix l dC dI o cI H.size F A ((F 6) - x2) (((F 6) - x2) + (1 : Int32)) F44 A44 hc) (cw_V 2 hts mw_687 mw_689 ms_M_matrix mw_5 mw_690 rfl rfl rfl hd_M_matrix ⟨Nat.le_of_ble_eq_true rfl, Nat.le_of_ble_eq_true rfl⟩) (cc_preV hK hP hD rfl (q0 := 0) rfl) rfl rfl hl.1 rfl (lv_room (Nat.le_of_ble_eq_true rfl)) d_M_call_267 ⟨Nat.zero_le _, Nat.zero_le _⟩) hD hS hA (fun H locs hP hD hS => ?_)
                                            cases hf
                                            exact W.vret hx hb hr (fun t ht hW => ⟨⟨(), rfl, trivial, by rw [ht]; exact hP, va_K.moved hW.alike hK, hD⟩, hS.F ht⟩) hS.2.2 d_M_call_270
                                          · rw [if_neg h64_43] at hf
                                            by_cases h64_45 : x1 = (85 : Int32)
                                            · rw [if_pos h64_45] at hf
                                              refine lv_tableIn (tgt := 260) (off := 196) hx hb d_M_call_64 (by rw [h64_45]; decide) (by rw [h64_45]; decide) (by rw [h64_45]; decide) (by decide) ?_
                                              refine lv_aload_n hx hb d_M_call_260 rfl (lv_at hl 1 rfl) ?_
                                              refine lv_iload hx hb d_M_call_261 (lv_at hl 0 rfl) ?_
                                              refine lv_iload hx hb d_M_call_263 (lv_at hl 0 rfl) ?_
                                              refine lv_iconst (v := 1) hx hb d_M_call_265 (by decide) ?_
                                              refine lv_iadd hx hb d_M_call_266 ?_
                                              have hP : va_P (dC, dI) vC (wM o cI F A) H := hP
                                              have hD : va_D (va_A (wM o cI Fa Aa) s.heap.size) (wM o cI F A) := hD
                                              obtain ⟨F46, A46, hc, hf⟩ := ra_bv_some hf
                                              refine cc_callv (va_runV (As := [.int ((F 6) - x2), .int (((F 6) - x2) + (1 : Int32))]) (rest := []) ⟨hx, hb, hml, hown, hts⟩ (k_M_matrix l dC dI o cI H.size F A ((F 6) - x2) (((F 6) - x2) + (1 : Int32)) F46 A46 hc) (cw_V 2 hts mw_687 mw_689 ms_M_matrix mw_5 mw_690 rfl rfl rfl hd_M_matrix ⟨Nat.le_of_ble_eq_true rfl, Nat.le_of_ble_eq_true rfl⟩) (cc_preV hK hP hD rfl (q0 := 0) rfl) rfl rfl hl.1 rfl (lv_room (Nat.le_of_ble_eq_true rfl)) d_M_call_267 ⟨Nat.zero_le _, Nat.zero_le _⟩) hD hS hA (fun H locs hP hD hS => ?_)
                                              cases hf
                                              exact W.vret hx hb hr (fun t ht hW => ⟨⟨(), rfl, trivial, by rw [ht]; exact hP, va_K.moved hW.alike hK, hD⟩, hS.F ht⟩) hS.2.2 d_M_call_270
                                            · rw [if_neg h64_45] at hf
                                              by_cases h64_47 : x1 = (86 : Int32)
                                              · rw [if_pos h64_47] at hf
                                                refine lv_tableIn (tgt := 252) (off := 188) hx hb d_M_call_64 (by rw [h64_47]; decide) (by rw [h64_47]; decide) (by rw [h64_47]; decide) (by decide) ?_
                                                refine lv_aload_n hx hb d_M_call_252 rfl (lv_at hl 1 rfl) ?_
                                                refine lv_iload_n hx hb d_M_call_253 rfl (lv_at hl 3 rfl) ?_
                                                have hP : va_P (dC, dI) vC (wM o cI F A) H := hP
                                                have hD : va_D (va_A (wM o cI Fa Aa) s.heap.size) (wM o cI F A) := hD
                                                obtain ⟨F48, A48, hc, hf⟩ := ra_bv_some hf
                                                refine cc_callv (va_runV (As := [.int x2]) (rest := []) ⟨hx, hb, hml, hown, hts⟩ (k_M_join l dC dI o cI H.size F A x2 F48 A48 hc) (cw_V 1 hts mw_683 mw_685 ms_M_join mw_5 mw_686 rfl rfl rfl hd_M_join ⟨Nat.le_of_ble_eq_true rfl, Nat.le_of_ble_eq_true rfl⟩) (cc_preV hK hP hD rfl (q0 := 0) rfl) rfl rfl hl.1 rfl (lv_room (Nat.le_of_ble_eq_true rfl)) d_M_call_254 ⟨Nat.zero_le _, Nat.zero_le _⟩) hD hS hA (fun H locs hP hD hS => ?_)
                                                refine lv_goto (tgt := 270) hx hb d_M_call_257 (by decide) ?_
                                                cases hf
                                                exact W.vret hx hb hr (fun t ht hW => ⟨⟨(), rfl, trivial, by rw [ht]; exact hP, va_K.moved hW.alike hK, hD⟩, hS.F ht⟩) hS.2.2 d_M_call_270
                                              · rw [if_neg h64_47] at hf
                                                by_cases h64_49 : x1 = (87 : Int32)
                                                · rw [if_pos h64_49] at hf
                                                  refine lv_tableIn (tgt := 260) (off := 196) hx hb d_M_call_64 (by rw [h64_49]; decide) (by rw [h64_49]; decide) (by rw [h64_49]; decide) (by decide) ?_
                                                  refine lv_aload_n hx hb d_M_call_260 rfl (lv_at hl 1 rfl) ?_
                                                  refine lv_iload hx hb d_M_call_261 (lv_at hl 0 rfl) ?_
                                                  refine lv_iload hx hb d_M_call_263 (lv_at hl 0 rfl) ?_
                                                  refine lv_iconst (v := 1) hx hb d_M_call_265 (by decide) ?_
                                                  refine lv_iadd hx hb d_M_call_266 ?_
                                                  have hP : va_P (dC, dI) vC (wM o cI F A) H := hP
                                                  have hD : va_D (va_A (wM o cI Fa Aa) s.heap.size) (wM o cI F A) := hD
                                                  obtain ⟨F50, A50, hc, hf⟩ := ra_bv_some hf
                                                  refine cc_callv (va_runV (As := [.int ((F 6) - x2), .int (((F 6) - x2) + (1 : Int32))]) (rest := []) ⟨hx, hb, hml, hown, hts⟩ (k_M_matrix l dC dI o cI H.size F A ((F 6) - x2) (((F 6) - x2) + (1 : Int32)) F50 A50 hc) (cw_V 2 hts mw_687 mw_689 ms_M_matrix mw_5 mw_690 rfl rfl rfl hd_M_matrix ⟨Nat.le_of_ble_eq_true rfl, Nat.le_of_ble_eq_true rfl⟩) (cc_preV hK hP hD rfl (q0 := 0) rfl) rfl rfl hl.1 rfl (lv_room (Nat.le_of_ble_eq_true rfl)) d_M_call_267 ⟨Nat.zero_le _, Nat.zero_le _⟩) hD hS hA (fun H locs hP hD hS => ?_)
                                                  cases hf
                                                  exact W.vret hx hb hr (fun t ht hW => ⟨⟨(), rfl, trivial, by rw [ht]; exact hP, va_K.moved hW.alike hK, hD⟩, hS.F ht⟩) hS.2.2 d_M_call_270
                                                · rw [if_neg h64_49] at hf
                                                  by_cases h64_51 : x1 = (88 : Int32)
                                                  · rw [if_pos h64_51] at hf
                                                    refine lv_tableIn (tgt := 209) (off := 145) hx hb d_M_call_64 (by rw [h64_51]; decide) (by rw [h64_51]; decide) (by rw [h64_51]; decide) (by decide) ?_
                                                    refine lv_aload_n hx hb d_M_call_209 rfl (lv_at hl 1 rfl) ?_
                                                    refine lv_bipush (v := 7) hx hb d_M_call_210 (by decide) ?_
                                                    refine lv_iload hx hb d_M_call_212 (lv_at hl 0 rfl) ?_
                                                    refine lv_iload hx hb d_M_call_214 (lv_at hl 0 rfl) ?_
                                                    refine lv_iconst (v := 1) hx hb d_M_call_216 (by decide) ?_
                                                    refine lv_iadd hx hb d_M_call_217 ?_
                                                    have hP : va_P (dC, dI) vC (wM o cI F A) H := hP
                                                    have hD : va_D (va_A (wM o cI Fa Aa) s.heap.size) (wM o cI F A) := hD
                                                    obtain ⟨F52, A52, hc, hf⟩ := ra_bv_some hf
                                                    refine cc_callv (va_runV (As := [.int (7 : Int32), .int ((F 6) - x2), .int (((F 6) - x2) + (1 : Int32))]) (rest := []) ⟨hx, hb, hml, hown, hts⟩ (k_M_pairwise l dC dI o cI H.size F A (7 : Int32) ((F 6) - x2) (((F 6) - x2) + (1 : Int32)) F52 A52 hc) (cw_V 3 hts mw_664 mw_666 ms_M_pairwise mw_5 mw_667 rfl rfl rfl hd_M_pairwise ⟨Nat.le_of_ble_eq_true rfl, Nat.le_of_ble_eq_true rfl⟩) (cc_preV hK hP hD rfl (q0 := 0) rfl) rfl rfl hl.1 rfl (lv_room (Nat.le_of_ble_eq_true rfl)) d_M_call_218 ⟨Nat.zero_le _, Nat.zero_le _⟩) hD hS hA (fun H locs hP hD hS => ?_)
                                                    refine lv_goto (tgt := 270) hx hb d_M_call_221 (by decide) ?_
                                                    cases hf
                                                    exact W.vret hx hb hr (fun t ht hW => ⟨⟨(), rfl, trivial, by rw [ht]; exact hP, va_K.moved hW.alike hK, hD⟩, hS.F ht⟩) hS.2.2 d_M_call_270
                                                  · rw [if_neg h64_51] at hf
                                                    have hout : x1.toInt < 65 ∨ 88 < x1.toInt := by
                                                      have n65 := lv_neT (a := 65) h64_5 (by decide)
                                                      have n66 := lv_neT (a := 66) h64_7 (by decide)
                                                      have n67 := lv_neT (a := 67) h64_9 (by decide)
                                                      have n68 := lv_neT (a := 68) h64_11 (by decide)
                                                      have n69 := lv_neT (a := 69) h64_13 (by decide)
                                                      have n70 := lv_neT (a := 70) h64_15 (by decide)
                                                      have n71 := lv_neT (a := 71) h64_17 (by decide)
                                                      have n72 := lv_neT (a := 72) h64_19 (by decide)
                                                      have n73 := lv_neT (a := 73) h64_21 (by decide)
                                                      have n74 := lv_neT (a := 74) h64_23 (by decide)
                                                      have n75 := lv_neT (a := 75) h64_25 (by decide)
                                                      have n76 := lv_neT (a := 76) h64_27 (by decide)
                                                      have n77 := lv_neT (a := 77) h64_29 (by decide)
                                                      have n78 := lv_neT (a := 78) h64_31 (by decide)
                                                      have n79 := lv_neT (a := 79) h64_33 (by decide)
                                                      have n80 := lv_neT (a := 80) h64_35 (by decide)
                                                      have n81 := lv_neT (a := 81) h64_37 (by decide)
                                                      have n82 := lv_neT (a := 82) h64_39 (by decide)
                                                      have n83 := lv_neT (a := 83) h64_41 (by decide)
                                                      have n84 := lv_neT (a := 84) h64_43 (by decide)
                                                      have n85 := lv_neT (a := 85) h64_45 (by decide)
                                                      have n86 := lv_neT (a := 86) h64_47 (by decide)
                                                      have n87 := lv_neT (a := 87) h64_49 (by decide)
                                                      have n88 := lv_neT (a := 88) h64_51 (by decide)
                                                      omega
                                                    refine lv_tableOut (tgt := 260) hx hb d_M_call_64 hout (by decide) ?_
                                                    refine lv_aload_n hx hb d_M_call_260 rfl (lv_at hl 1 rfl) ?_
                                                    refine lv_iload hx hb d_M_call_261 (lv_at hl 0 rfl) ?_
                                                    refine lv_iload hx hb d_M_call_263 (lv_at hl 0 rfl) ?_
                                                    refine lv_iconst (v := 1) hx hb d_M_call_265 (by decide) ?_
                                                    refine lv_iadd hx hb d_M_call_266 ?_
                                                    have hP : va_P (dC, dI) vC (wM o cI F A) H := hP
                                                    have hD : va_D (va_A (wM o cI Fa Aa) s.heap.size) (wM o cI F A) := hD
                                                    obtain ⟨F53, A53, hc, hf⟩ := ra_bv_some hf
                                                    refine cc_callv (va_runV (As := [.int ((F 6) - x2), .int (((F 6) - x2) + (1 : Int32))]) (rest := []) ⟨hx, hb, hml, hown, hts⟩ (k_M_matrix l dC dI o cI H.size F A ((F 6) - x2) (((F 6) - x2) + (1 : Int32)) F53 A53 hc) (cw_V 2 hts mw_687 mw_689 ms_M_matrix mw_5 mw_690 rfl rfl rfl hd_M_matrix ⟨Nat.le_of_ble_eq_true rfl, Nat.le_of_ble_eq_true rfl⟩) (cc_preV hK hP hD rfl (q0 := 0) rfl) rfl rfl hl.1 rfl (lv_room (Nat.le_of_ble_eq_true rfl)) d_M_call_267 ⟨Nat.zero_le _, Nat.zero_le _⟩) hD hS hA (fun H locs hP hD hS => ?_)
                                                    cases hf
                                                    exact W.vret hx hb hr (fun t ht hW => ⟨⟨(), rfl, trivial, by rw [ht]; exact hP, va_K.moved hW.alike hK, hD⟩, hS.F ht⟩) hS.2.2 d_M_call_270
  have J17 : ∀ (x1 : Int32) (x2 : Int32) (z0 : Int32) (F : ST_F) (A : ST_A) (H : Heap) (locs : List Loc) (ls : Array Slot), lv_has ls 5 [(0, .ref (o 0)), (1, .int x1), (2, .int x2)] → va_P (dC, dI) vC (wM o cI F A) H → va_D (va_A (wM o cI Fa Aa) s.heap.size) (wM o cI F A) → va_S (va_A (wM o cI Fa Aa) s.heap.size) s.heap H locs → f_M_call_J17 x1 x2 z0 F A = some (F9, A9) → W p l e (headSpec (Cond.code y_M_call b_M_call 5 none :: wA) ({ frames := 3, cells := 0, slots := 0, locals := 70 } : Room)).room s m ([.ref (o 0), .int u1, .int u2] : List Value).toArray below meth c H locs 0 0 (MQ below (cc_Qv (dC, dI) vC [(cI, .int)] (wM o cI Fa Aa) s.heap.size (wM o cI F9 A9)) ([.ref (o 0), .int u1, .int u2] : List Value).toArray s 0 0 (va_A (wM o cI Fa Aa) s.heap.size)) (F0 m 17 ls [.int z0]) := by
    intro x1 x2 z0 F A H locs ls hl hP hD hS hf
    unfold f_M_call_J17 at hf
    refine lv_istore_n hx hb d_M_call_17 rfl hl (by decide) rfl (fun ls hl => ?_)
    have hl : lv_has ls 5 [(3, .int z0), (0, .ref (o 0)), (1, .int x1), (2, .int x2)] := hl
    refine lv_iload_n hx hb d_M_call_18 rfl (lv_at hl 0 rfl) ?_
    refine lv_if_eq (tgt := 30) hx hb d_M_call_19 (by decide) (fun h19_2 => ?_) (fun h19_2 => ?_)
    · rw [if_pos h19_2] at hf
      refine lv_iload_n hx hb d_M_call_30 rfl (lv_at hl 2 rfl) ?_
      refine lv_bipush (v := 86) hx hb d_M_call_31 (by decide) ?_
      refine lv_icmp_ne (tgt := 44) hx hb d_M_call_33 (by decide) (fun h33_3 => ?_) (fun h33_3 => ?_)
      · rw [if_neg h33_3] at hf
        refine lv_iload_n hx hb d_M_call_44 rfl (lv_at hl 3 rfl) ?_
        refine lv_iconst (v := 2) hx hb d_M_call_45 (by decide) ?_
        refine lv_icmp_eq (tgt := 55) hx hb d_M_call_46 (by decide) (fun h46_4 => ?_) (fun h46_4 => ?_)
        · rw [if_pos h46_4] at hf
          have hl : lv_has ls 5 [(0, .ref (o 0)), (1, .int x1), (2, .int x2), (3, .int z0)] := lv_sub hl [1, 2, 3, 0] rfl
          exact J55 x1 x2 z0 F A _ _ _ hl hP hD hS hf
        · rw [if_neg h46_4] at hf
          refine lv_aload_n hx hb d_M_call_49 rfl (lv_at hl 1 rfl) ?_
          refine lv_iconst (v := 1) hx hb d_M_call_50 (by decide) ?_
          refine va_put (D := (dC, dI)) (ci := 4) (v := .int (1 : Int32)) (ty := .boolean) (C := R_M) (T := T_M) (N := 29) hx hb hts in_M ty_M ty_M_ok nm_M hown hK hP hD hS 0 rfl rfl 16 (by decide) (hts _ mw_519) (fun _ h9 => h9) rfl (by decide +kernel) rfl rfl (Nat.le_of_ble_eq_true rfl) d_M_call_51 (fun H locs hP hD hS => ?_)
          have hP : va_P (dC, dI) vC [((o 0), .inr (4, [.int (F 0), .int (F 1), .ref (o 1), .int (F 2), .ref (o 2), .ref (o 3), .ref (o 4), .ref (o 5), .ref (o 6), .int (F 3), .ref (o 7), .ref (o 8), .ref (o 9), .ref (o 10), .ref (o 11), .int (F 4), .int (1 : Int32), .int (F 6), .ref (o 12), .ref (o 13), .int (F 7), .ref (o 14), .ref (o 15), .int (F 8), .int (F 9), .ref (o 16), .ref (o 17), .ref (o 18), .ref (o 19)])), ((o 1), .inl (cI, 160, .inl (A 0))), ((o 2), .inl (cI, 100, .inl (A 1))), ((o 3), .inl (cI, 100, .inl (A 2))), ((o 4), .inl (cI, 100, .inl (A 3))), ((o 5), .inl (cI, 3, .inl (A 4))), ((o 6), .inl (cI, 26, .inl (A 5))), ((o 7), .inl (cI, 100, .inl (A 6))), ((o 8), .inl (cI, 100, .inl (A 7))), ((o 9), .inl (cI, 100, .inl (A 8))), ((o 10), .inl (cI, 26, .inl (A 9))), ((o 11), .inl (cI, 104, .inl (A 10))), ((o 12), .inl (cI, 80, .inl (A 11))), ((o 13), .inl (cI, 320, .inl (A 12))), ((o 14), .inl (cI, 200, .inl (A 13))), ((o 15), .inl (cI, 200, .inl (A 14))), ((o 16), .inl (cI, 4, .inl (A 15))), ((o 17), .inl (cI, 32, .inl (A 16))), ((o 18), .inl (cI, 32, .inl (A 17))), ((o 19), .inl (cI, 100, .inl (A 18)))] H := hP
          have hD : va_D (va_A (wM o cI Fa Aa) s.heap.size) [((o 0), .inr (4, [.int (F 0), .int (F 1), .ref (o 1), .int (F 2), .ref (o 2), .ref (o 3), .ref (o 4), .ref (o 5), .ref (o 6), .int (F 3), .ref (o 7), .ref (o 8), .ref (o 9), .ref (o 10), .ref (o 11), .int (F 4), .int (1 : Int32), .int (F 6), .ref (o 12), .ref (o 13), .int (F 7), .ref (o 14), .ref (o 15), .int (F 8), .int (F 9), .ref (o 16), .ref (o 17), .ref (o 18), .ref (o 19)])), ((o 1), .inl (cI, 160, .inl (A 0))), ((o 2), .inl (cI, 100, .inl (A 1))), ((o 3), .inl (cI, 100, .inl (A 2))), ((o 4), .inl (cI, 100, .inl (A 3))), ((o 5), .inl (cI, 3, .inl (A 4))), ((o 6), .inl (cI, 26, .inl (A 5))), ((o 7), .inl (cI, 100, .inl (A 6))), ((o 8), .inl (cI, 100, .inl (A 7))), ((o 9), .inl (cI, 100, .inl (A 8))), ((o 10), .inl (cI, 26, .inl (A 9))), ((o 11), .inl (cI, 104, .inl (A 10))), ((o 12), .inl (cI, 80, .inl (A 11))), ((o 13), .inl (cI, 320, .inl (A 12))), ((o 14), .inl (cI, 200, .inl (A 13))), ((o 15), .inl (cI, 200, .inl (A 14))), ((o 16), .inl (cI, 4, .inl (A 15))), ((o 17), .inl (cI, 32, .inl (A 16))), ((o 18), .inl (cI, 32, .inl (A 17))), ((o 19), .inl (cI, 100, .inl (A 18)))] := hD
          cases hf
          exact W.vret hx hb hr (fun t ht hW => ⟨⟨(), rfl, trivial, by rw [ht]; exact hP, va_K.moved hW.alike hK, hD⟩, hS.F ht⟩) hS.2.2 d_M_call_54
      · rw [if_pos h33_3] at hf
        refine lv_iload_n hx hb d_M_call_36 rfl (lv_at hl 3 rfl) ?_
        refine lv_iconst (v := 3) hx hb d_M_call_37 (by decide) ?_
        refine lv_icmp_le (tgt := 55) hx hb d_M_call_38 (by decide) (fun h38_54 => ?_) (fun h38_54 => ?_)
        · rw [if_pos h38_54] at hf
          have hl : lv_has ls 5 [(0, .ref (o 0)), (1, .int x1), (2, .int x2), (3, .int z0)] := lv_sub hl [1, 2, 3, 0] rfl
          exact J55 x1 x2 z0 F A _ _ _ hl hP hD hS hf
        · rw [if_neg h38_54] at hf
          refine lv_goto (tgt := 49) hx hb d_M_call_41 (by decide) ?_
          refine lv_aload_n hx hb d_M_call_49 rfl (lv_at hl 1 rfl) ?_
          refine lv_iconst (v := 1) hx hb d_M_call_50 (by decide) ?_
          refine va_put (D := (dC, dI)) (ci := 4) (v := .int (1 : Int32)) (ty := .boolean) (C := R_M) (T := T_M) (N := 29) hx hb hts in_M ty_M ty_M_ok nm_M hown hK hP hD hS 0 rfl rfl 16 (by decide) (hts _ mw_519) (fun _ h9 => h9) rfl (by decide +kernel) rfl rfl (Nat.le_of_ble_eq_true rfl) d_M_call_51 (fun H locs hP hD hS => ?_)
          have hP : va_P (dC, dI) vC [((o 0), .inr (4, [.int (F 0), .int (F 1), .ref (o 1), .int (F 2), .ref (o 2), .ref (o 3), .ref (o 4), .ref (o 5), .ref (o 6), .int (F 3), .ref (o 7), .ref (o 8), .ref (o 9), .ref (o 10), .ref (o 11), .int (F 4), .int (1 : Int32), .int (F 6), .ref (o 12), .ref (o 13), .int (F 7), .ref (o 14), .ref (o 15), .int (F 8), .int (F 9), .ref (o 16), .ref (o 17), .ref (o 18), .ref (o 19)])), ((o 1), .inl (cI, 160, .inl (A 0))), ((o 2), .inl (cI, 100, .inl (A 1))), ((o 3), .inl (cI, 100, .inl (A 2))), ((o 4), .inl (cI, 100, .inl (A 3))), ((o 5), .inl (cI, 3, .inl (A 4))), ((o 6), .inl (cI, 26, .inl (A 5))), ((o 7), .inl (cI, 100, .inl (A 6))), ((o 8), .inl (cI, 100, .inl (A 7))), ((o 9), .inl (cI, 100, .inl (A 8))), ((o 10), .inl (cI, 26, .inl (A 9))), ((o 11), .inl (cI, 104, .inl (A 10))), ((o 12), .inl (cI, 80, .inl (A 11))), ((o 13), .inl (cI, 320, .inl (A 12))), ((o 14), .inl (cI, 200, .inl (A 13))), ((o 15), .inl (cI, 200, .inl (A 14))), ((o 16), .inl (cI, 4, .inl (A 15))), ((o 17), .inl (cI, 32, .inl (A 16))), ((o 18), .inl (cI, 32, .inl (A 17))), ((o 19), .inl (cI, 100, .inl (A 18)))] H := hP
          have hD : va_D (va_A (wM o cI Fa Aa) s.heap.size) [((o 0), .inr (4, [.int (F 0), .int (F 1), .ref (o 1), .int (F 2), .ref (o 2), .ref (o 3), .ref (o 4), .ref (o 5), .ref (o 6), .int (F 3), .ref (o 7), .ref (o 8), .ref (o 9), .ref (o 10), .ref (o 11), .int (F 4), .int (1 : Int32), .int (F 6), .ref (o 12), .ref (o 13), .int (F 7), .ref (o 14), .ref (o 15), .int (F 8), .int (F 9), .ref (o 16), .ref (o 17), .ref (o 18), .ref (o 19)])), ((o 1), .inl (cI, 160, .inl (A 0))), ((o 2), .inl (cI, 100, .inl (A 1))), ((o 3), .inl (cI, 100, .inl (A 2))), ((o 4), .inl (cI, 100, .inl (A 3))), ((o 5), .inl (cI, 3, .inl (A 4))), ((o 6), .inl (cI, 26, .inl (A 5))), ((o 7), .inl (cI, 100, .inl (A 6))), ((o 8), .inl (cI, 100, .inl (A 7))), ((o 9), .inl (cI, 100, .inl (A 8))), ((o 10), .inl (cI, 26, .inl (A 9))), ((o 11), .inl (cI, 104, .inl (A 10))), ((o 12), .inl (cI, 80, .inl (A 11))), ((o 13), .inl (cI, 320, .inl (A 12))), ((o 14), .inl (cI, 200, .inl (A 13))), ((o 15), .inl (cI, 200, .inl (A 14))), ((o 16), .inl (cI, 4, .inl (A 15))), ((o 17), .inl (cI, 32, .inl (A 16))), ((o 18), .inl (cI, 32, .inl (A 17))), ((o 19), .inl (cI, 100, .inl (A 18)))] := hD
          cases hf
          exact W.vret hx hb hr (fun t ht hW => ⟨⟨(), rfl, trivial, by rw [ht]; exact hP, va_K.moved hW.alike hK, hD⟩, hS.F ht⟩) hS.2.2 d_M_call_54
    · rw [if_neg h19_2] at hf
      refine lv_iload_n hx hb d_M_call_22 rfl (lv_at hl 3 rfl) ?_
      refine lv_iconst (v := 1) hx hb d_M_call_23 (by decide) ?_
      refine lv_icmp_eq (tgt := 55) hx hb d_M_call_24 (by decide) (fun h24_55 => ?_) (fun h24_55 => ?_)
      · rw [if_pos h24_55] at hf
        have hl : lv_has ls 5 [(0, .ref (o 0)), (1, .int x1), (2, .int x2), (3, .int z0)] := lv_sub hl [1, 2, 3, 0] rfl
        exact J55 x1 x2 z0 F A _ _ _ hl hP hD hS hf
      · rw [if_neg h24_55] at hf
        refine lv_goto (tgt := 49) hx hb d_M_call_27 (by decide) ?_
        refine lv_aload_n hx hb d_M_call_49 rfl (lv_at hl 1 rfl) ?_
        refine lv_iconst (v := 1) hx hb d_M_call_50 (by decide) ?_
        refine va_put (D := (dC, dI)) (ci := 4) (v := .int (1 : Int32)) (ty := .boolean) (C := R_M) (T := T_M) (N := 29) hx hb hts in_M ty_M ty_M_ok nm_M hown hK hP hD hS 0 rfl rfl 16 (by decide) (hts _ mw_519) (fun _ h9 => h9) rfl (by decide +kernel) rfl rfl (Nat.le_of_ble_eq_true rfl) d_M_call_51 (fun H locs hP hD hS => ?_)
        have hP : va_P (dC, dI) vC [((o 0), .inr (4, [.int (F 0), .int (F 1), .ref (o 1), .int (F 2), .ref (o 2), .ref (o 3), .ref (o 4), .ref (o 5), .ref (o 6), .int (F 3), .ref (o 7), .ref (o 8), .ref (o 9), .ref (o 10), .ref (o 11), .int (F 4), .int (1 : Int32), .int (F 6), .ref (o 12), .ref (o 13), .int (F 7), .ref (o 14), .ref (o 15), .int (F 8), .int (F 9), .ref (o 16), .ref (o 17), .ref (o 18), .ref (o 19)])), ((o 1), .inl (cI, 160, .inl (A 0))), ((o 2), .inl (cI, 100, .inl (A 1))), ((o 3), .inl (cI, 100, .inl (A 2))), ((o 4), .inl (cI, 100, .inl (A 3))), ((o 5), .inl (cI, 3, .inl (A 4))), ((o 6), .inl (cI, 26, .inl (A 5))), ((o 7), .inl (cI, 100, .inl (A 6))), ((o 8), .inl (cI, 100, .inl (A 7))), ((o 9), .inl (cI, 100, .inl (A 8))), ((o 10), .inl (cI, 26, .inl (A 9))), ((o 11), .inl (cI, 104, .inl (A 10))), ((o 12), .inl (cI, 80, .inl (A 11))), ((o 13), .inl (cI, 320, .inl (A 12))), ((o 14), .inl (cI, 200, .inl (A 13))), ((o 15), .inl (cI, 200, .inl (A 14))), ((o 16), .inl (cI, 4, .inl (A 15))), ((o 17), .inl (cI, 32, .inl (A 16))), ((o 18), .inl (cI, 32, .inl (A 17))), ((o 19), .inl (cI, 100, .inl (A 18)))] H := hP
        have hD : va_D (va_A (wM o cI Fa Aa) s.heap.size) [((o 0), .inr (4, [.int (F 0), .int (F 1), .ref (o 1), .int (F 2), .ref (o 2), .ref (o 3), .ref (o 4), .ref (o 5), .ref (o 6), .int (F 3), .ref (o 7), .ref (o 8), .ref (o 9), .ref (o 10), .ref (o 11), .int (F 4), .int (1 : Int32), .int (F 6), .ref (o 12), .ref (o 13), .int (F 7), .ref (o 14), .ref (o 15), .int (F 8), .int (F 9), .ref (o 16), .ref (o 17), .ref (o 18), .ref (o 19)])), ((o 1), .inl (cI, 160, .inl (A 0))), ((o 2), .inl (cI, 100, .inl (A 1))), ((o 3), .inl (cI, 100, .inl (A 2))), ((o 4), .inl (cI, 100, .inl (A 3))), ((o 5), .inl (cI, 3, .inl (A 4))), ((o 6), .inl (cI, 26, .inl (A 5))), ((o 7), .inl (cI, 100, .inl (A 6))), ((o 8), .inl (cI, 100, .inl (A 7))), ((o 9), .inl (cI, 100, .inl (A 8))), ((o 10), .inl (cI, 26, .inl (A 9))), ((o 11), .inl (cI, 104, .inl (A 10))), ((o 12), .inl (cI, 80, .inl (A 11))), ((o 13), .inl (cI, 320, .inl (A 12))), ((o 14), .inl (cI, 200, .inl (A 13))), ((o 15), .inl (cI, 200, .inl (A 14))), ((o 16), .inl (cI, 4, .inl (A 15))), ((o 17), .inl (cI, 32, .inl (A 16))), ((o 18), .inl (cI, 32, .inl (A 17))), ((o 19), .inl (cI, 100, .inl (A 18)))] := hD
        cases hf
        exact W.vret hx hb hr (fun t ht hW => ⟨⟨(), rfl, trivial, by rw [ht]; exact hP, va_K.moved hW.alike hK, hD⟩, hS.F ht⟩) hS.2.2 d_M_call_54
  have J12 : ∀ (x1 : Int32) (x2 : Int32) (F : ST_F) (A : ST_A) (H : Heap) (locs : List Loc) (ls : Array Slot), lv_has ls 5 [(0, .ref (o 0)), (1, .int x1), (2, .int x2)] → va_P (dC, dI) vC (wM o cI F A) H → va_D (va_A (wM o cI Fa Aa) s.heap.size) (wM o cI F A) → va_S (va_A (wM o cI Fa Aa) s.heap.size) s.heap H locs → f_M_call_J12 x1 x2 F A = some (F9, A9) → W p l e (headSpec (Cond.code y_M_call b_M_call 5 none :: wA) ({ frames := 3, cells := 0, slots := 0, locals := 70 } : Room)).room s m ([.ref (o 0), .int u1, .int u2] : List Value).toArray below meth c H locs 0 0 (MQ below (cc_Qv (dC, dI) vC [(cI, .int)] (wM o cI Fa Aa) s.heap.size (wM o cI F9 A9)) ([.ref (o 0), .int u1, .int u2] : List Value).toArray s 0 0 (va_A (wM o cI Fa Aa) s.heap.size)) (F0 m 12 ls []) := by
    intro x1 x2 F A H locs ls hl hP hD hS hf
    unfold f_M_call_J12 at hf
    refine lv_iconst (v := 1) hx hb d_M_call_12 (by decide) ?_
    refine lv_goto (tgt := 17) hx hb d_M_call_13 (by decide) ?_
    have hl : lv_has ls 5 [(0, .ref (o 0)), (1, .int x1), (2, .int x2)] := lv_sub hl [0, 1, 2] rfl
    exact J17 x1 x2 (1 : Int32) F A _ _ _ hl hP hD hS hf
  rw [lg_entry_eq]
  generalize (lg_sl (([.ref (o 0), .int u1, .int u2] : List Value)) ++ List.replicate (5 - (lg_sl (([.ref (o 0), .int u1, .int u2] : List Value))).length) Slot.unset).toArray = ls at hl ⊢
  have hl : lv_has ls 5 [(0, .ref (o 0)), (1, .int u1), (2, .int u2)] := hl
  unfold f_M_call at hf
  refine lv_iload_n hx hb d_M_call_0 rfl (lv_at hl 1 rfl) ?_
  refine lv_bipush (v := 65) hx hb d_M_call_1 (by decide) ?_
  refine lv_icmp_eq (tgt := 12) hx hb d_M_call_3 (by decide) (fun h3_1 => ?_) (fun h3_1 => ?_)
  · rw [if_pos h3_1] at hf
    have hl : lv_has ls 5 [(0, .ref (o 0)), (1, .int u1), (2, .int u2)] := lv_sub hl [0, 1, 2] rfl
    exact J12 u1 u2 Fa Aa _ _ _ hl hP hD hS hf
  · rw [if_neg h3_1] at hf
    refine lv_iload_n hx hb d_M_call_6 rfl (lv_at hl 1 rfl) ?_
    refine lv_bipush (v := 70) hx hb d_M_call_7 (by decide) ?_
    refine lv_icmp_ne (tgt := 16) hx hb d_M_call_9 (by decide) (fun h9_56 => ?_) (fun h9_56 => ?_)
    · rw [if_neg h9_56] at hf
      refine lv_iconst (v := 0) hx hb d_M_call_16 (by decide) ?_
      have hl : lv_has ls 5 [(0, .ref (o 0)), (1, .int u1), (2, .int u2)] := lv_sub hl [0, 1, 2] rfl
      exact J17 u1 u2 (0 : Int32) Fa Aa _ _ _ hl hP hD hS hf
    · rw [if_pos h9_56] at hf
      have hl : lv_has ls 5 [(0, .ref (o 0)), (1, .int u1), (2, .int u2)] := lv_sub hl [0, 1, 2] rfl
      exact J12 u1 u2 Fa Aa _ _ _ hl hP hD hS hf
