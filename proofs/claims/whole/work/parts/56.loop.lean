def lh_all (Inv : ST_F → ST_A → ST_F → ST_A → Prop) : Prop := (∀ w0 : Int32, li_r Inv (f_P_type w0) (f_M_type w0) [(1, 1), (2, 2)]) ∧ li_e Inv ∧ li_c Inv ∧ li_s Inv ∧ (∀ w0 w1 : Int32, li_r Inv (f_P_instruction w0 w1) (f_M_instruction w0 w1) [(3, 1)]) ∧ (∀ w0 : Int32, li_r Inv (f_P_result w0) (f_M_result w0) [(2, 1), (3, 2)]) ∧ (∀ w0 : Int32, li_r Inv (f_P_typeOf w0) (f_M_typeOf w0) [(3, 1)]) ∧ (∀ w0 w1 w2 w3 w4 : Int32, li_r Inv (f_P_value w0 w1 w2 w3 w4) (f_M_value w0 w1 w2 w3 w4) [(3, 1), (1, 2)]) ∧ (∀ w0 w1 w2 : Int32, li_v Inv (f_P_paint w0 w1 w2) (f_M_paint w0 w1 w2) [(3, 1), (1, 2)]) ∧ (∀ w0 : Int32, li_v Inv (f_P_run w0) (f_M_run w0) [(2, 1)]) ∧ (∀ w0 w1 : Int32, li_r Inv (f_P_pixel w0 w1) (f_M_pixel w0 w1) [(3, 1)])
theorem lx_cmp {i L : Nat} (hL : L ≤ 3072) (hi : i ≤ 6000) : (Int32.ofNat L - 6 < nI i) ↔ L < i + 6 := by
  have h1 : (Int32.ofNat L - 6).toInt = (L : Int) - 6 := pk_sub_toInt (a := L) (b := 6) (by omega) (by omega)
  have h2 : (nI i).toInt = (i : Int) := nI_toInt (by omega)
  rw [Int32.lt_iff_toInt_lt, h1, h2]
  omega
set_option maxHeartbeats 8000000 in
set_option maxRecDepth 100000 in
theorem lw_loop {p : Program} {l : Launch} {e : Env} {s : State} {m : MethodId} {below : List Frame} {meth : Method} {c : Code} {b0 L : Nat} {xs : Nat → Int32} {dC : Nat → ClassId} {dI : Nat → Nat → Nat} {cI cC cJ : ClassId} {o : Nat → Nat} {q : Nat} {Inv : ST_F → ST_A → ST_F → ST_A → Prop} (C : lc_Ctx p l s m c b0 L xs dC dI cI cC cJ) (hr : meth.sig.returnType = ret) (hlocks : meth.locks = false) (hall : lh_all Inv) : ∀ (n i k : Nat), L < i + 6 * n → i = 6 * k → i ≤ L → ∀ (b : Nat → Nat) (tx : Nat) (g : Nat → Int64) (F : ST_F) (A : ST_A) (FM : ST_F) (AM : ST_A) (H : Heap) (locs : List Loc) (ls : Array Slot), Inv F A FM AM → lv_has ls 7 [(0, .ref b0), (1, .ref (b 0)), (2, .ref (o 0)), (3, .ref q), (4, .int (nI i))] → va_P (dC, dI) vC (wL q cJ g b cI cC tx F A o FM AM) H → va_D (fun z => s.heap.size ≤ z) (wL q cJ g b cI cC tx F A o FM AM) → va_S (fun z => s.heap.size ≤ z) s.heap H locs → W p l e room_1 s m #[Value.ref b0] below meth c H locs (100 + k) (10000 + 6 * k) (lw_Z below #[Value.ref b0] s) (F0 m 23 ls []) := by
  have C' := C
  obtain ⟨hx, hb, hml, hown, hts, hX, hbl, hK, hZ, hN1, hN2, hN3, hfl, hL⟩ := C
  intro n
  induction n with
  | zero => intro i k h1 h2 h3; omega
  | succ n ih =>
    intro i k h1 h2 h3 b tx g F A FM AM H locs ls hI hl hP hD hS
    have hbA : ¬ (fun z => s.heap.size ≤ z) b0 := fun z => absurd hbl (Nat.not_lt.mpr z)
    refine lv_iload hx hb d_L_law_23 (lv_at hl 4 rfl) ?_
    refine lv_aload_n hx hb d_L_law_25 rfl (lv_at hl 0 rfl) ?_
    refine va_slen hx hb hX hbl hbA hS d_L_law_26 ?_
    refine lv_bipush (v := 6) hx hb d_L_law_27 (by decide) ?_
    refine lv_isub hx hb d_L_law_29 ?_
    refine lv_icmp_gt (tgt := 647) hx hb d_L_law_30 (by decide) (fun h30 => ?_) (fun h30 => ?_)
    · refine lv_iconst (v := 1) hx hb d_L_law_647 (by decide) ?_
      refine va_forget hS.2.2 ?_
      refine W.widen (k := 601024) (n := 7293034) (by omega) (by omega) ?_
      exact lw_ret hx hb hr hlocks d_L_law_648
    · have hi : i + 6 ≤ L := by
        have h5 : ¬ L < i + 6 := fun z => h30 ((lx_cmp hL (by omega)).mpr z)
        omega
      have hk : k ≤ 600 := by omega
      have kk : lc_K p l e s m below meth c b0 dC dI cI cC cJ o q Inv i k := by
        intro b tx g F A FM AM H locs ls hI hl hP hD hS
        refine lv_iinc (k := 4) (v := nI (i + 6)) hx hb d_L_law_641 hl rfl (by exact nI_add i 6) (by decide) rfl (fun ls hl => ?_)
        have hl : lv_has ls 7 [(0, .ref b0), (1, .ref (b 0)), (2, .ref (o 0)), (3, .ref q), (4, .int (nI (i + 6)))] := lv_sub hl [1, 2, 3, 4, 0] rfl
        refine lv_goto (tgt := 23) hx hb d_L_law_644 (by decide) ?_
        refine W.widen (k := 100 + (k + 1)) (n := 10000 + 6 * (k + 1)) (by omega) (by omega) ?_
        exact ih (i + 6) (k + 1) (by omega) (by omega) (by omega) b tx g F A FM AM H locs ls hI hl hP hD hS
      refine lv_aload_n hx hb d_L_law_33 rfl (lv_at hl 0 rfl) ?_
      refine lv_iload hx hb d_L_law_34 (lv_at hl 4 rfl) ?_
      refine va_sld hx hb hX hbl hbA hS (lx_in0 hL (by omega)) d_L_law_36 ?_
      refine lv_bipush (v := 15) hx hb d_L_law_37 (by decide) ?_
      refine lv_iand hx hb d_L_law_39 ?_
      obtain ⟨j, hj, hv⟩ := pk_andE (xs (nI i).toNatClampNeg) (m := 15) 4 (by decide)
      rw [hv]
      obtain ⟨a_type, a_erase, a_compile, a_size, a_instruction, a_result, a_typeOf, a_value, a_paint, a_run, a_pixel⟩ := hall
      rcases (show j = 0 ∨ j = 1 ∨ j = 2 ∨ j = 3 ∨ j = 4 ∨ j = 5 ∨ j = 6 ∨ j = 7 ∨ j = 8 ∨ j = 9 ∨ j = 10 ∨ j = 11 ∨ j = 12 ∨ j = 13 ∨ j = 14 ∨ j = 15 by omega) with rfl | rfl | rfl | rfl | rfl | rfl | rfl | rfl | rfl | rfl | rfl | rfl | rfl | rfl | rfl | rfl
      · refine lv_tableIn (tgt := 100) (off := 60) hx hb d_L_law_40 (by decide) (by decide) (by decide) (by decide) ?_
        exact lc_type C' (a_type _) hi hk hI hl hP hD hS kk
      · refine lv_tableIn (tgt := 156) (off := 116) hx hb d_L_law_40 (by decide) (by decide) (by decide) (by decide) ?_
        exact lc_erase C' a_erase hi hk hI hl hP hD hS kk
      · refine lv_tableIn (tgt := 167) (off := 127) hx hb d_L_law_40 (by decide) (by decide) (by decide) (by decide) ?_
        exact lc_compile C' a_compile hi hk hI hl hP hD hS kk
      · refine lv_tableIn (tgt := 180) (off := 140) hx hb d_L_law_40 (by decide) (by decide) (by decide) (by decide) ?_
        exact lc_size C' a_size hi hk hI hl hP hD hS kk
      · refine lv_tableIn (tgt := 193) (off := 153) hx hb d_L_law_40 (by decide) (by decide) (by decide) (by decide) ?_
        exact lc_instruction C' (a_instruction _ _) hi hk hI hl hP hD hS kk
      · refine lv_tableIn (tgt := 261) (off := 221) hx hb d_L_law_40 (by decide) (by decide) (by decide) (by decide) ?_
        exact lc_result C' (a_result _) hi hk hI hl hP hD hS kk
      · refine lv_tableIn (tgt := 317) (off := 277) hx hb d_L_law_40 (by decide) (by decide) (by decide) (by decide) ?_
        exact lc_typeOf C' (a_typeOf _) hi hk hI hl hP hD hS kk
      · refine lv_tableIn (tgt := 373) (off := 333) hx hb d_L_law_40 (by decide) (by decide) (by decide) (by decide) ?_
        exact lc_value C' (a_value _ _ _ _ _) hi hk hI hl hP hD hS kk
      · refine lv_tableIn (tgt := 477) (off := 437) hx hb d_L_law_40 (by decide) (by decide) (by decide) (by decide) ?_
        exact lc_paint C' (a_paint _ _ _) hi hk hI hl hP hD hS kk
      · refine lv_tableIn (tgt := 537) (off := 497) hx hb d_L_law_40 (by decide) (by decide) (by decide) (by decide) ?_
        exact lc_run C' (a_run _) hi hk hI hl hP hD hS kk
      · refine lv_tableIn (tgt := 573) (off := 533) hx hb d_L_law_40 (by decide) (by decide) (by decide) (by decide) ?_
        exact lc_pixel C' (a_pixel _ _) hi hk hI hl hP hD hS kk
      · refine lv_tableOut (tgt := 641) hx hb d_L_law_40 (by decide) (by decide) ?_
        refine W.widen (k := 101 + k) (n := 10006 + 6 * k) (by omega) (by omega) ?_
        exact kk b tx g F A FM AM H locs ls hI hl hP hD hS
      · refine lv_tableOut (tgt := 641) hx hb d_L_law_40 (by decide) (by decide) ?_
        refine W.widen (k := 101 + k) (n := 10006 + 6 * k) (by omega) (by omega) ?_
        exact kk b tx g F A FM AM H locs ls hI hl hP hD hS
      · refine lv_tableOut (tgt := 641) hx hb d_L_law_40 (by decide) (by decide) ?_
        refine W.widen (k := 101 + k) (n := 10006 + 6 * k) (by omega) (by omega) ?_
        exact kk b tx g F A FM AM H locs ls hI hl hP hD hS
      · refine lv_tableOut (tgt := 641) hx hb d_L_law_40 (by decide) (by decide) ?_
        refine W.widen (k := 101 + k) (n := 10006 + 6 * k) (by omega) (by omega) ?_
        exact kk b tx g F A FM AM H locs ls hI hl hP hD hS
      · refine lv_tableOut (tgt := 641) hx hb d_L_law_40 (by decide) (by decide) ?_
        refine W.widen (k := 101 + k) (n := 10006 + 6 * k) (by omega) (by omega) ?_
        exact kk b tx g F A FM AM H locs ls hI hl hP hD hS
