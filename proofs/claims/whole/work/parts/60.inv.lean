/-! the class's state and the reference's, side by side; the calls that read and paint -/
def iv_code (n : Nat) (K F1 S : Nat → Int32) : Prop := ∀ k, k < n → (K k = 0 ∨ (K k = 1 ∧ ∃ j, j < 6 ∧ F1 k = nI j) ∨ ((∃ t, 2 ≤ t ∧ t ≤ 11 ∧ K k = nI t) ∧ (∃ p, p < k ∧ F1 k = nI p) ∧ ∃ p, p < k ∧ S k = nI p))
def iv_text (len : Nat) (F : ST_F) (A : ST_A) (FM : ST_F) (AM : ST_A) : Prop := len ≤ 160 ∧ F 0 = nI len ∧ FM 1 = nI len ∧ ∀ k, k < len → A 0 k = AM 0 k ∧ 33 ≤ A 0 k ∧ A 0 k ≤ 126
def iv_ins (n : Nat) (F : ST_F) (A : ST_A) (FM : ST_F) (AM : ST_A) : Prop := n ≤ 100 ∧ F 3 = nI n ∧ FM 2 = nI n ∧ (∀ k, k < n → A 5 k = AM 1 k ∧ A 6 k = AM 2 k ∧ A 7 k = AM 3 k) ∧ iv_code n (A 5) (A 6) (A 7)
def iv_res (n : Nat) (A AM : ST_A) : Prop := (∀ i, i < 3 → A 8 i = AM 4 i) ∧ (0 < n → ∀ i, i < 3 → ∃ p, p < n ∧ A 8 i = nI p)
def Inv (F : ST_F) (A : ST_A) (FM : ST_F) (AM : ST_A) : Prop := ∃ len n : Nat, iv_text len F A FM AM ∧ iv_ins n F A FM AM ∧ iv_res n A AM ∧ (∀ j, j < 26 → A 9 j = AM 5 j) ∧ (∀ j, j < 32 → A 1 j = AM 16 j)
theorem Inv.code {F : ST_F} {A : ST_A} {FM : ST_F} {AM : ST_A} (h : Inv F A FM AM) (z : Int32) : Inv F A (upd FM 0 z) AM := by
  obtain ⟨len, n, h1, h2, h3⟩ := h
  exact ⟨len, n, h1, h2, h3⟩
theorem Inv.zero : Inv (fun _ => 0) (fun _ _ => 0) (fun _ => 0) (fun _ _ => 0) :=
  ⟨0, 0, ⟨by decide, rfl, rfl, fun k h => absurd h (Nat.not_lt_zero k)⟩, ⟨by decide, rfl, rfl, fun k h => absurd h (Nat.not_lt_zero k), fun k h => absurd h (Nat.not_lt_zero k)⟩, ⟨fun _ _ => rfl, fun h => absurd h (Nat.lt_irrefl 0)⟩, fun _ _ => rfl, fun _ _ => rfl⟩
theorem i_lt {x c : Int32} {k : Int} (hc : c.toInt = k) : x < c ↔ x.toInt < k := by rw [Int32.lt_iff_toInt_lt, hc]
theorem i_gt {x c : Int32} {k : Int} (hc : c.toInt = k) : c < x ↔ k < x.toInt := by rw [Int32.lt_iff_toInt_lt, hc]
theorem i_le {x c : Int32} {k : Int} (hc : c.toInt = k) : x ≤ c ↔ x.toInt ≤ k := by rw [Int32.le_iff_toInt_le, hc]
theorem i_ge {x c : Int32} {k : Int} (hc : c.toInt = k) : c ≤ x ↔ k ≤ x.toInt := by rw [Int32.le_iff_toInt_le, hc]
/-- within 0 .. n - 1 -/
theorem i_nI {x : Int32} {n : Nat} (hn : n < 2 ^ 31) (h0 : 0 ≤ x.toInt) (h : x.toInt < n) : ∃ j : Nat, j < n ∧ x = nI j := by
  rcases pk_ix x hn with h1 | h1 | h1
  · rw [i_lt (c := 0) (k := 0) (by decide)] at h1; omega
  · rw [i_ge (k := n) (nI_toInt hn)] at h1; omega
  · exact h1
theorem Inv.erase : li_e Inv := by
  intro F A FM AM h
  obtain ⟨len, n, h1, h2, h3⟩ := h
  exact ⟨_, _, _, _, rfl, rfl, 0, n, ⟨by decide, rfl, rfl, fun k h => absurd h (Nat.not_lt_zero k)⟩, h2, h3⟩
theorem Inv.size : li_s Inv := by
  intro F A FM AM h
  obtain ⟨len, n, h1, h2, h3⟩ := id h
  refine ⟨F 3, F, A, upd FM 0 0, AM, rfl, ?_, h.code 0⟩
  unfold f_M_size
  rw [h2.2.1, h2.2.2.1]
theorem Inv.typeOf (w : Int32) : li_r Inv (f_P_typeOf w) (f_M_typeOf w) [(3, 1)] := by
  intro F A FM AM h
  by_cases hw : 0 ≤ w.toInt ∧ w.toInt < 26
  · obtain ⟨j, hj, rfl⟩ := i_nI (n := 26) (by decide) hw.1 hw.2
    left
    obtain ⟨len, n, h1, h2, h3, h4, h5⟩ := id h
    refine ⟨A 9 j, F, A, upd FM 0 0, AM, ?_, ?_, rfl, h.code 0⟩
    · unfold f_P_typeOf f_P_typeOf_Z18
      rw [if_neg (nI_pos (by omega)), if_pos (by rw [i_lt (k := 26) (by decide)]; omega), ra_g_in hj (by decide), nI_clamp (by omega)]
      rfl
    · unfold f_M_typeOf f_M_typeOf_J16
      rw [if_neg (nI_pos (by omega)), if_pos (by rw [i_le (k := 25) (by decide)]; omega), if_pos (by decide), ra_g_in hj (by decide), nI_clamp (by omega), h4 j hj]
  · right
    refine ⟨(3, 1), List.mem_singleton.mpr rfl, 0, upd FM 0 1, AM, ?_, ?_, rfl, h.code 1⟩
    · unfold f_P_typeOf
      by_cases h0 : w < 0
      · rw [if_pos h0]
      · rw [if_neg h0, if_neg]
        rw [i_lt (k := 0) (by decide)] at h0
        rw [i_lt (k := 26) (by decide)]
        omega
    · unfold f_M_typeOf f_M_typeOf_J11 f_M_typeOf_J16
      by_cases h0 : w < 0
      · rw [if_pos h0, if_neg (by decide)]
      · rw [if_neg h0, if_neg, if_neg (by decide)]
        rw [i_lt (k := 0) (by decide)] at h0
        rw [i_le (k := 25) (by decide)]
        omega
theorem Inv.result (w : Int32) : li_r Inv (f_P_result w) (f_M_result w) [(2, 1), (3, 2)] := by
  intro F A FM AM h
  obtain ⟨len, n, h1, h2, h3, h4, h5⟩ := id h
  by_cases hn : n = 0
  · right
    refine ⟨(2, 1), by simp, 0, upd FM 0 1, AM, ?_, ?_, rfl, h.code 1⟩
    · unfold f_P_result f_P_hasCode
      rw [if_pos (by rw [h2.2.1, hn]; decide)]
      rfl
    · unfold f_M_result f_M_result_J26
      rw [if_pos (by rw [h2.2.2.1, hn]; decide), if_neg (by decide)]
  · have hp : ¬ F 3 ≤ 0 := by rw [h2.2.1]; exact nI_nle (by omega) (by have := h2.1; omega)
    have hm : ¬ FM 2 = 0 := by rw [h2.2.2.1]; exact nI_ne0 (by omega) (by have := h2.1; omega)
    by_cases hw : 0 ≤ w.toInt ∧ w.toInt < 3
    · obtain ⟨j, hj, rfl⟩ := i_nI (n := 3) (by decide) hw.1 hw.2
      left
      refine ⟨A 8 j, F, A, upd FM 0 0, AM, ?_, ?_, rfl, h.code 0⟩
      · unfold f_P_result f_P_hasCode f_P_result_Z32
        rw [if_neg hp]
        rw [Option.bind_some, if_neg (by decide), if_neg (nI_pos (by omega)), if_pos (by rw [i_lt (k := 3) (by decide)]; omega), ra_g_in hj (by decide), nI_clamp (by omega)]
        rfl
      · unfold f_M_result f_M_result_J26
        rw [if_neg hm, if_neg (nI_pos (by omega)), if_pos (by rw [i_le (k := 2) (by decide)]; omega), if_pos (by decide), ra_g_in hj (by decide), nI_clamp (by omega), h3.1 j hj]
    · right
      refine ⟨(3, 2), by simp, 0, upd FM 0 2, AM, ?_, ?_, rfl, h.code 2⟩
      · unfold f_P_result f_P_hasCode
        rw [if_neg hp]
        rw [Option.bind_some, if_neg (by decide)]
        by_cases h0 : w < 0
        · rw [if_pos h0]
        · rw [if_neg h0, if_neg]
          rw [i_lt (k := 0) (by decide)] at h0
          rw [i_lt (k := 3) (by decide)]
          omega
      · unfold f_M_result f_M_result_J21 f_M_result_J26
        rw [if_neg hm]
        by_cases h0 : w < 0
        · rw [if_pos h0, if_neg (by decide)]
        · rw [if_neg h0, if_neg, if_neg (by decide)]
          rw [i_lt (k := 0) (by decide)] at h0
          rw [i_le (k := 2) (by decide)]
          omega
theorem Inv.instruction (w v : Int32) : li_r Inv (f_P_instruction w v) (f_M_instruction w v) [(3, 1)] := by
  intro F A FM AM h
  obtain ⟨len, n, h1, h2, h3, h4, h5⟩ := id h
  have hnn := h2.1
  have hF : (F 3).toInt = n := by rw [h2.2.1]; exact nI_toInt (by omega)
  have hM : (FM 2).toInt = n := by rw [h2.2.2.1]; exact nI_toInt (by omega)
  by_cases hw : 0 ≤ w.toInt ∧ w.toInt < n ∧ 0 ≤ v.toInt ∧ v.toInt ≤ 2
  · obtain ⟨j, hj, rfl⟩ := i_nI (n := n) (by omega) hw.1 hw.2.1
    have hq := h2.2.2.2.1 j hj
    left
    have e1 : f_P_isInstruction (nI j) F A = some 1 := by
      unfold f_P_isInstruction
      rw [if_neg (nI_pos (by omega)), if_neg (by rw [i_ge hF]; omega)]
    have v0 : ¬ v < 0 := by rw [i_lt (k := 0) (by decide)]; omega
    have v2 : v ≤ (2 : Int32) := by rw [i_le (k := 2) (by decide)]; omega
    refine ⟨if v = 0 then A 5 j else if v = 1 then A 6 j else A 7 j, F, A, upd FM 0 0, AM, ?_, ?_, rfl, h.code 0⟩
    · unfold f_P_instruction f_P_instruction_Z25
      rw [e1]
      rw [Option.bind_some, if_neg (by decide), if_neg v0, if_pos v2, ra_g_in (by omega) (by decide), ra_g_in (by omega) (by decide), ra_g_in (by omega) (by decide), nI_clamp (by omega)]
      by_cases c0 : v = 0
      · rw [if_pos c0, if_pos c0]; rfl
      · rw [if_neg c0, if_neg c0]
        by_cases c1 : v = 1
        · rw [if_pos c1, if_pos c1]; rfl
        · rw [if_neg c1, if_neg c1]; rfl
    · unfold f_M_instruction f_M_instruction_J27
      rw [if_neg (nI_pos (by omega)), if_neg (by rw [i_ge hM]; omega), if_neg v0, if_pos v2, if_pos (by decide), ra_g_in (by omega) (by decide), ra_g_in (by omega) (by decide), ra_g_in (by omega) (by decide), nI_clamp (by omega), hq.1, hq.2.1, hq.2.2]
      by_cases c0 : v = 0
      · rw [if_pos c0, if_pos c0]
      · rw [if_neg c0, if_neg c0]
        by_cases c1 : v = 1
        · rw [if_pos c1, if_pos c1]
        · rw [if_neg c1, if_neg c1]
  · right
    refine ⟨(3, 1), List.mem_singleton.mpr rfl, 0, upd FM 0 1, AM, ?_, ?_, rfl, h.code 1⟩
    · unfold f_P_instruction f_P_isInstruction
      by_cases c0 : w < 0
      · rw [if_pos c0]; rfl
      · rw [if_neg c0]
        by_cases c1 : F 3 ≤ w
        · rw [if_pos c1]; rfl
        · rw [if_neg c1]
          rw [Option.bind_some, if_neg (by decide)]
          by_cases c2 : v < 0
          · rw [if_pos c2]
          · rw [if_neg c2, if_neg]
            rw [i_lt (k := 0) (by decide)] at c0 c2
            rw [i_ge hF] at c1
            rw [i_le (k := 2) (by decide)]
            omega
    · unfold f_M_instruction f_M_instruction_J22 f_M_instruction_J27
      rw [if_neg (c := (1 : Int32) ≤ 0) (by decide)]
      by_cases c0 : w < 0
      · rw [if_pos c0]
      · rw [if_neg c0]
        by_cases c1 : FM 2 ≤ w
        · rw [if_pos c1]
        · rw [if_neg c1]
          by_cases c2 : v < 0
          · rw [if_pos c2]
          · rw [if_neg c2, if_neg]
            rw [i_lt (k := 0) (by decide)] at c0 c2
            rw [i_ge hM] at c1
            rw [i_le (k := 2) (by decide)]
            omega
theorem iv_point (x y : Int32) : (f_P_isPoint x y = 0 ∧ f_M_noPoint x y = 1) ∨ (f_P_isPoint x y = 1 ∧ f_M_noPoint x y = 0 ∧ ∃ a b : Nat, a < 8 ∧ b < 4 ∧ x = nI a ∧ y = nI b) := by
  by_cases hw : 0 ≤ x.toInt ∧ x.toInt < 8 ∧ 0 ≤ y.toInt ∧ y.toInt < 4
  · obtain ⟨a, ha, rfl⟩ := i_nI (n := 8) (by decide) hw.1 hw.2.1
    obtain ⟨b, hb, rfl⟩ := i_nI (n := 4) (by decide) hw.2.2.1 hw.2.2.2
    refine Or.inr ⟨?_, ?_, a, b, ha, hb, rfl, rfl⟩
    · unfold f_P_isPoint
      rw [if_neg (nI_pos (by omega)), if_neg (by rw [i_ge (k := 8) (by decide)]; omega), if_neg (nI_pos (by omega)), if_neg (by rw [i_ge (k := 4) (by decide)]; omega)]
    · unfold f_M_noPoint
      rw [if_neg (nI_pos (by omega)), if_neg (by rw [i_gt (k := 7) (by decide)]; omega), if_neg (nI_pos (by omega)), if_pos (by rw [i_le (k := 3) (by decide)]; omega)]
  · left
    unfold f_P_isPoint f_M_noPoint
    by_cases c0 : x < 0
    · rw [if_pos c0, if_pos c0]; exact ⟨rfl, rfl⟩
    · rw [if_neg c0, if_neg c0]
      by_cases c1 : (8 : Int32) ≤ x
      · rw [if_pos c1, if_pos (c := (7 : Int32) < x) (by rw [i_ge (k := 8) (by decide)] at c1; rw [i_gt (k := 7) (by decide)]; omega)]; exact ⟨rfl, rfl⟩
      · rw [if_neg c1, if_neg (c := (7 : Int32) < x) (by rw [i_ge (k := 8) (by decide)] at c1; rw [i_gt (k := 7) (by decide)]; omega)]
        by_cases c2 : y < 0
        · rw [if_pos c2, if_pos c2]; exact ⟨rfl, rfl⟩
        · rw [if_neg c2, if_neg c2]
          rw [i_lt (k := 0) (by decide)] at c0 c2
          rw [i_ge (k := 8) (by decide)] at c1
          rw [if_pos (c := (4 : Int32) ≤ y) (by rw [i_ge (k := 4) (by decide)]; omega), if_neg (c := y ≤ (3 : Int32)) (by rw [i_le (k := 3) (by decide)]; omega)]
          exact ⟨rfl, rfl⟩
theorem iv_color (x : Int32) : (f_P_isColor x = 0 ∧ f_M_noColor x = 1) ∨ (f_P_isColor x = 1 ∧ f_M_noColor x = 0) := by
  unfold f_P_isColor f_M_noColor
  by_cases c0 : x < 0
  · rw [if_pos c0, if_pos c0]; exact Or.inl ⟨rfl, rfl⟩
  · rw [if_neg c0, if_neg c0]
    by_cases c1 : (16777215 : Int32) < x
    · rw [if_pos c1, if_neg (by rw [i_gt (k := 16777215) (by decide)] at c1; rw [i_le (k := 16777215) (by decide)]; omega)]; exact Or.inl ⟨rfl, rfl⟩
    · rw [if_neg c1, if_pos (by rw [i_gt (k := 16777215) (by decide)] at c1; rw [i_le (k := 16777215) (by decide)]; omega)]; exact Or.inr ⟨rfl, rfl⟩
theorem iv_ix1 {a b : Nat} : nI b * (8 : Int32) + nI a = nI (b * 8 + a) := by
  rw [show (8 : Int32) = nI 8 from rfl, pk_mul, nI_add]
theorem iv_ix2 {a b : Nat} : (8 : Int32) * nI b + nI a = nI (b * 8 + a) := by
  rw [show (8 : Int32) = nI 8 from rfl, pk_mul, nI_add, Nat.mul_comm]
theorem Inv.pixel (x y : Int32) : li_r Inv (f_P_pixel x y) (f_M_pixel x y) [(3, 1)] := by
  intro F A FM AM h
  obtain ⟨len, n, h1, h2, h3, h4, h5⟩ := id h
  rcases iv_point x y with ⟨e1, e2⟩ | ⟨e1, e2, a, b, ha, hb, rfl, rfl⟩
  · right
    refine ⟨(3, 1), List.mem_singleton.mpr rfl, 0, upd FM 0 1, AM, ?_, ?_, rfl, h.code 1⟩
    · unfold f_P_pixel
      rw [e1, if_pos rfl]
    · unfold f_M_pixel f_M_pixel_J14
      rw [e2, if_neg (by decide), if_neg (by decide)]
  · left
    refine ⟨A 1 (b * 8 + a), F, A, upd FM 0 0, AM, ?_, ?_, rfl, h.code 0⟩
    · unfold f_P_pixel f_P_pixel_Z16
      rw [e1, if_neg (by decide), iv_ix1, ra_g_in (by omega) (by decide), nI_clamp (by omega)]
      rfl
    · unfold f_M_pixel f_M_pixel_J14
      rw [e2, if_pos rfl, if_pos (by decide), iv_ix2, ra_g_in (by omega) (by decide), nI_clamp (by omega), h5 _ (by omega)]
theorem Inv.paint (x y c : Int32) : li_v Inv (f_P_paint x y c) (f_M_paint x y c) [(3, 1), (1, 2)] := by
  intro F A FM AM h
  obtain ⟨len, n, h1, h2, h3, h4, h5⟩ := id h
  rcases iv_point x y with ⟨e1, e2⟩ | ⟨e1, e2, a, b, ha, hb, rfl, rfl⟩
  · right
    refine ⟨(3, 1), by simp, upd FM 0 1, AM, ?_, ?_, rfl, h.code 1⟩
    · unfold f_P_paint
      rw [e1, if_pos rfl]
    · unfold f_M_paint f_M_paint_J25
      rw [e2, if_neg (by decide), if_neg (by decide)]
  · rcases iv_color c with ⟨e3, e4⟩ | ⟨e3, e4⟩
    · right
      refine ⟨(1, 2), by simp, upd FM 0 2, AM, ?_, ?_, rfl, h.code 2⟩
      · unfold f_P_paint
        rw [e1, if_neg (by decide), e3, if_pos rfl]
      · unfold f_M_paint f_M_paint_J25
        rw [e2, if_pos rfl, e4, if_neg (by decide), if_neg (by decide)]
    · left
      refine ⟨F, va_up A 1 (upd (A 1) (b * 8 + a) c), upd FM 0 0, va_up AM 16 (upd (AM 16) (b * 8 + a) c), ?_, ?_, rfl, ?_⟩
      · unfold f_P_paint f_P_paint_Z31
        rw [e1, if_neg (by decide), e3, if_neg (by decide), iv_ix1, ra_g_in (by omega) (by decide), nI_clamp (by omega)]
        rfl
      · unfold f_M_paint f_M_paint_J25
        rw [e2, if_pos rfl, e4, if_pos rfl, if_pos rfl, iv_ix2, ra_g_in (by omega) (by decide), nI_clamp (by omega)]
      · refine ⟨len, n, h1, h2, h3, h4, fun j hj => ?_⟩
        show upd (A 1) (b * 8 + a) c j = upd (AM 16) (b * 8 + a) c j
        unfold upd
        rw [h5 j hj]
