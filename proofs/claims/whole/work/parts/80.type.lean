/-! type: both sides -/
def ty_sh : Nat → Int32
  | 0 => 24
  | 1 => 16
  | 2 => 8
  | 3 => 0
  | _ => -8
def ty_b (x : Int32) (j : Nat) : Int32 := (x >>> (ty_sh j &&& 31)) &&& 255
theorem ty_bv (b : BitVec 32) {k : Nat} (hk : k ≤ 24) : (b >>> k) &&& 255#32 = (b.sshiftRight k) &&& 255#32 := by
  apply BitVec.eq_of_getLsbD_eq
  intro i hi
  rw [BitVec.getLsbD_and, BitVec.getLsbD_and, BitVec.getLsbD_ushiftRight, BitVec.getLsbD_sshiftRight]
  by_cases h8 : i < 8
  · rw [if_pos (by omega), decide_eq_false (show ¬ 32 ≤ i by omega)]
    simp
  · have h255 : (255#32).getLsbD i = false := by
      rw [BitVec.getLsbD_ofNat]
      have : Nat.testBit 255 i = false := by
        apply Nat.testBit_lt_two_pow
        have : 2 ^ 8 ≤ 2 ^ i := Nat.pow_le_pow_right (by decide) (by omega)
        omega
      simp [this]
    rw [h255, Bool.and_false, Bool.and_false]
theorem ty_same (x : Int32) {j : Nat} (hj : j < 4) : (((x.toUInt32 >>> ((ty_sh j).toUInt32 &&& Int32.toUInt32 31)).toInt32) &&& (255 : Int32)) = ty_b x j := by
  unfold ty_b
  apply Int32.toBitVec_inj.mp
  rcases (show j = 0 ∨ j = 1 ∨ j = 2 ∨ j = 3 by omega) with rfl | rfl | rfl | rfl
  · exact ty_bv x.toBitVec (k := 24) (by decide)
  · exact ty_bv x.toBitVec (k := 16) (by decide)
  · exact ty_bv x.toBitVec (k := 8) (by decide)
  · exact ty_bv x.toBitVec (k := 0) (by decide)
theorem ty_next {j : Nat} (hj : j < 4) : ty_sh j + (-8) = ty_sh (j + 1) := by
  rcases (show j = 0 ∨ j = 1 ∨ j = 2 ∨ j = 3 by omega) with rfl | rfl | rfl | rfl <;> decide
theorem ty_pos {j : Nat} (hj : j < 4) : ¬ ty_sh j < 0 := by
  rcases (show j = 0 ∨ j = 1 ∨ j = 2 ∨ j = 3 by omega) with rfl | rfl | rfl | rfl <;> decide
theorem ty_nat (x : Int32) (j : Nat) : ∃ b, b < 256 ∧ ty_b x j = nI b := by
  obtain ⟨b, hb, e⟩ := pk_andE (x >>> (ty_sh j &&& 31)) (m := 255) 8 (by decide)
  exact ⟨b, hb, e⟩
def ty_bad1 (x : Int32) (j : Nat) : Bool := decide (ty_b x j ≠ 0) && (decide (ty_b x j < 33) || decide (126 < ty_b x j))
def ty_bad (x : Int32) : Nat → Nat → Bool
  | 0, _ => false
  | m + 1, j => ty_bad1 x j || ty_bad x m (j + 1)
def ty_cnt (x : Int32) : Nat → Nat → Nat
  | 0, _ => 0
  | m + 1, j => (if ty_b x j = 0 then 0 else 1) + ty_cnt x m (j + 1)
theorem ty_P5 (x : Int32) (F : ST_F) (A : ST_A) : ∀ (m j n c : Nat), j + m = 4 → m < n → f_P_type_L5 n x (nI c) (ty_sh j) F A = if ty_bad x m j = true then some (.inl 1) else if F 0 + nI (c + ty_cnt x m j) ≤ 160 then ra_ok (f_P_type_L77 400 x (nI (c + ty_cnt x m j)) 24 F A) else some (.inl 2) := by
  intro m
  induction m with
  | zero =>
    intro j n c hj hn
    obtain ⟨n, rfl⟩ : ∃ n', n = n' + 1 := ⟨n - 1, by omega⟩
    have hj4 : j = 4 := by omega
    subst hj4
    rw [f_P_type_L5, if_pos (by decide)]
    unfold f_P_type_Z74
    rw [if_neg (c := ty_bad x 0 4 = true) (by simp [ty_bad])]
    rfl
  | succ m ih =>
    intro j n c hj hn
    obtain ⟨n, rfl⟩ : ∃ n', n = n' + 1 := ⟨n - 1, by omega⟩
    rw [f_P_type_L5, if_neg (ty_pos (by omega)), ty_same x (by omega), ty_next (by omega), ty_bad, ty_cnt]
    by_cases c0 : ty_b x j = 0
    · have hb : ty_bad1 x j = false := by unfold ty_bad1; simp [c0]
      rw [if_pos c0, if_pos c0, hb, Bool.false_or, Nat.zero_add]
      exact ih (j + 1) n c (by omega) (by omega)
    · rw [if_neg c0, if_neg c0]
      by_cases c1 : ty_b x j < 33
      · have hb : ty_bad1 x j = true := by unfold ty_bad1; simp [c0, c1]
        rw [if_pos c1, hb, Bool.true_or, if_pos rfl]
      · rw [if_neg c1]
        by_cases c2 : ty_b x j ≤ 126
        · have hb : ty_bad1 x j = false := by
            unfold ty_bad1
            simp [c1, Int32.not_lt.mpr c2]
          rw [if_pos c2, hb, Bool.false_or, ← nI_succ, show c + (1 + ty_cnt x m (j + 1)) = c + 1 + ty_cnt x m (j + 1) by omega]
          exact ih (j + 1) n (c + 1) (by omega) (by omega)
        · have hb : ty_bad1 x j = true := by
            unfold ty_bad1
            simp [c0, Int32.not_le.mp c2]
          rw [if_neg c2, hb, Bool.true_or, if_pos rfl]
theorem ty_M10 (x : Int32) (A : ST_A) : ∀ (m j n c : Nat) (F : ST_F), j + m = 4 → m < n → (F 0 = 0 ∨ F 0 = 1) → ∃ F', f_M_type_L10 n x (nI c) (ty_sh j) F A = (if F' 0 = 0 then (if F' 1 + nI (c + ty_cnt x m j) ≤ 160 then f_M_type_J97 x (nI (c + ty_cnt x m j)) (-8) F' A else f_M_type_J101 x (nI (c + ty_cnt x m j)) (-8) 2 F' A) else f_M_type_J97 x (nI (c + ty_cnt x m j)) (-8) F' A) ∧ F' 0 = (if F 0 = 1 ∨ ty_bad x m j = true then 1 else 0) ∧ ∀ k, k ≠ 0 → F' k = F k := by
  intro m
  induction m with
  | zero =>
    intro j n c F hj hn hF
    obtain ⟨n, rfl⟩ : ∃ n', n = n' + 1 := ⟨n - 1, by omega⟩
    have hj4 : j = 4 := by omega
    subst hj4
    refine ⟨F, ?_, ?_, fun _ _ => rfl⟩
    · rw [f_M_type_L10, if_pos (by decide)]
      rfl
    · rcases hF with e | e
      · rw [e, if_neg (by rintro (h | h); exact absurd h (by decide); simp [ty_bad] at h)]
      · rw [e, if_pos (Or.inl rfl)]
  | succ m ih =>
    intro j n c F hj hn hF
    obtain ⟨n, rfl⟩ : ∃ n', n = n' + 1 := ⟨n - 1, by omega⟩
    obtain ⟨b, hb, eb⟩ := ty_nat x j
    have hbr : ((x >>> (ty_sh j &&& 31)) &&& (255 : Int32)) = ty_b x j := rfl
    rw [f_M_type_L10, if_neg (ty_pos (by omega)), hbr, ty_next (by omega), ty_bad, ty_cnt]
    have hgo : ∀ (y : Int32) (c' : Nat) (bb : Bool), (y = 0 ∨ y = 1) → (y = 1 ↔ F 0 = 1 ∨ bb = true) → ∃ F', f_M_type_L10 n x (nI c') (ty_sh (j + 1)) (upd F 0 y) A = (if F' 0 = 0 then (if F' 1 + nI (c' + ty_cnt x m (j + 1)) ≤ 160 then f_M_type_J97 x (nI (c' + ty_cnt x m (j + 1))) (-8) F' A else f_M_type_J101 x (nI (c' + ty_cnt x m (j + 1))) (-8) 2 F' A) else f_M_type_J97 x (nI (c' + ty_cnt x m (j + 1))) (-8) F' A) ∧ F' 0 = (if F 0 = 1 ∨ (bb || ty_bad x m (j + 1)) = true then 1 else 0) ∧ ∀ k, k ≠ 0 → F' k = F k := by
      intro y c' bb hy hy2
      obtain ⟨F', e1, e2, e3⟩ := ih (j + 1) n c' (upd F 0 y) (by omega) (by omega) hy
      refine ⟨F', e1, ?_, fun k hk => ?_⟩
      · rw [e2]
        have : (upd F 0 y 0 = 1 ∨ ty_bad x m (j + 1) = true) ↔ (F 0 = 1 ∨ (bb || ty_bad x m (j + 1)) = true) := by
          show (y = 1 ∨ _) ↔ _
          rw [hy2, Bool.or_eq_true]
          constructor
          · rintro ((h | h) | h)
            · exact Or.inl h
            · exact Or.inr (Or.inl h)
            · exact Or.inr (Or.inr h)
          · rintro (h | h | h)
            · exact Or.inl (Or.inl h)
            · exact Or.inl (Or.inr h)
            · exact Or.inr h
        by_cases hc : upd F 0 y 0 = 1 ∨ ty_bad x m (j + 1) = true
        · rw [if_pos hc, if_pos (this.mp hc)]
        · rw [if_neg hc, if_neg (fun z => hc (this.mpr z))]
      · rw [e3 k hk]; show (if k = 0 then _ else F k) = F k; rw [if_neg hk]
    have hsame : ∀ bb : Bool, bb = false → (F 0 = 1 ↔ F 0 = 1 ∨ bb = true) := fun bb e => by
      rw [e]
      exact ⟨Or.inl, fun h => by rcases h with h | h; exact h; exact absurd h (by decide)⟩
    by_cases c0 : ty_b x j = 0
    · have hb : ty_bad1 x j = false := by unfold ty_bad1; simp [c0]
      have hle : ty_b x j ≤ 0 := by rw [c0]; decide
      rw [if_pos hle, if_pos hle, if_pos c0, Nat.zero_add]
      exact hgo (F 0) c (ty_bad1 x j) hF (hsame _ hb)
    · have hbp : 0 < b := by
        rcases Nat.eq_zero_or_pos b with h | h
        · rw [h] at eb; exact absurd eb c0
        · exact h
      have hle : ¬ ty_b x j ≤ 0 := by rw [eb]; exact nI_nle hbp (by omega)
      rw [if_neg hle, if_neg hle, if_neg hle, if_neg c0, show c + (1 + ty_cnt x m (j + 1)) = c + 1 + ty_cnt x m (j + 1) by omega, ← nI_succ]
      by_cases c1 : ty_b x j < 33
      · have hb : ty_bad1 x j = true := by unfold ty_bad1; simp [c0, c1]
        rw [if_pos c1]
        exact hgo 1 (c + 1) (ty_bad1 x j) (Or.inr rfl) ⟨fun _ => Or.inr hb, fun _ => rfl⟩
      · rw [if_neg c1]
        by_cases c2 : ty_b x j ≤ 126
        · have hb : ty_bad1 x j = false := by
            unfold ty_bad1
            simp [c1, Int32.not_lt.mpr c2]
          rw [if_pos c2]
          exact hgo (F 0) (c + 1) (ty_bad1 x j) hF (hsame _ hb)
        · have hb : ty_bad1 x j = true := by
            unfold ty_bad1
            simp [c0, Int32.not_le.mp c2]
          rw [if_neg c2]
          exact hgo 1 (c + 1) (ty_bad1 x j) (Or.inr rfl) ⟨fun _ => Or.inr hb, fun _ => rfl⟩
theorem ty_cnt_le (x : Int32) : ∀ (m j : Nat), ty_cnt x m j ≤ m := by
  intro m
  induction m with
  | zero => intro j; exact Nat.le_refl _
  | succ m ih =>
    intro j
    rw [ty_cnt]
    have := ih (j + 1)
    by_cases c : ty_b x j = 0
    · rw [if_pos c]; omega
    · rw [if_neg c]; omega
theorem ty_both (x y2 z2 : Int32) : ∀ (m j n n' len : Nat) (F : ST_F) (A : ST_A) (FM : ST_F) (AM : ST_A), j + m = 4 → m < n → m < n' → ty_bad x m j = false → len + ty_cnt x m j ≤ 160 → iv_text len F A FM AM → ∃ F' A' FM' AM', f_P_type_L77 n x y2 (ty_sh j) F A = some (nI (len + ty_cnt x m j), F', A') ∧ f_M_type_L116 n' x z2 (ty_sh j) FM AM = some (nI (len + ty_cnt x m j), FM', AM') ∧ iv_text (len + ty_cnt x m j) F' A' FM' AM' ∧ (∀ k, k ≠ 0 → F' k = F k) ∧ (∀ k, k ≠ 0 → A' k = A k) ∧ (∀ k, k ≠ 1 → FM' k = FM k) ∧ ∀ k, k ≠ 0 → AM' k = AM k := by
  intro m
  induction m with
  | zero =>
    intro j n n' len F A FM AM hj hn hn' hbad hl h
    obtain ⟨n, rfl⟩ : ∃ k, n = k + 1 := ⟨n - 1, by omega⟩
    obtain ⟨n', rfl⟩ : ∃ k, n' = k + 1 := ⟨n' - 1, by omega⟩
    have hj4 : j = 4 := by omega
    subst hj4
    refine ⟨F, A, FM, AM, ?_, ?_, h, fun _ _ => rfl, fun _ _ => rfl, fun _ _ => rfl, fun _ _ => rfl⟩
    · rw [f_P_type_L77, if_pos (by decide), h.2.1]; rfl
    · rw [f_M_type_L116, if_pos (by decide), h.2.2.1]; rfl
  | succ m ih =>
    intro j n n' len F A FM AM hj hn hn' hbad hl h
    obtain ⟨n, rfl⟩ : ∃ k, n = k + 1 := ⟨n - 1, by omega⟩
    obtain ⟨n', rfl⟩ : ∃ k, n' = k + 1 := ⟨n' - 1, by omega⟩
    obtain ⟨b, hb, eb⟩ := ty_nat x j
    have hbr : ((x >>> (ty_sh j &&& 31)) &&& (255 : Int32)) = ty_b x j := rfl
    rw [ty_bad, Bool.or_eq_false_iff] at hbad
    rw [ty_cnt] at hl ⊢
    rw [f_P_type_L77, f_M_type_L116, if_neg (ty_pos (by omega)), if_neg (ty_pos (by omega)), ty_same x (by omega), hbr, ty_next (by omega)]
    by_cases c0 : ty_b x j = 0
    · rw [if_pos c0, if_pos (show ty_b x j ≤ 0 by rw [c0]; decide), if_pos c0, Nat.zero_add]
      rw [if_pos c0, Nat.zero_add] at hl
      exact ih (j + 1) n n' len F A FM AM (by omega) (by omega) (by omega) hbad.2 hl h
    · have hbp : 0 < b := by
        rcases Nat.eq_zero_or_pos b with h | h
        · rw [h] at eb; exact absurd eb c0
        · exact h
      rw [if_neg c0] at hl
      have hr : 33 ≤ b ∧ b ≤ 126 := by
        have h1 := hbad.1
        unfold ty_bad1 at h1
        simp [c0] at h1
        rw [eb] at h1
        have h33 : (33 : Int32) = nI 33 := rfl
        have h126 : (126 : Int32) = nI 126 := rfl
        rw [h33, h126, nI_leI (by omega) (by omega), nI_leI (by omega) (by omega)] at h1
        exact h1
      have hn8 : vp_nar .char (((ty_b x j).toUInt32 % 65536).toInt32) = nI b := by
        rw [eb]
        have : ∀ j : Fin 127, vp_nar .char ((nI j.val).toUInt32 % 65536).toInt32 = nI j.val := by decide
        exact this ⟨b, by omega⟩
      rw [if_neg c0, if_neg (show ¬ ty_b x j ≤ 0 by rw [eb]; exact nI_nle hbp (by omega)), if_neg c0, hn8, eb, h.2.1, h.2.2.1, ra_g_in (by omega) (by decide), ra_g_in (by omega) (by decide), nI_clamp (by omega), ← nI_succ]
      have ht : iv_text (len + 1) (upd F 0 (nI (len + 1))) (va_up A 0 (upd (A 0) len (nI b))) (upd FM 1 (nI (len + 1))) (va_up AM 0 (upd (AM 0) len (nI b))) := by
        refine ⟨by omega, rfl, rfl, fun k hk => ?_⟩
        show upd (A 0) len (nI b) k = upd (AM 0) len (nI b) k ∧ 33 ≤ upd (A 0) len (nI b) k ∧ upd (A 0) len (nI b) k ≤ 126
        unfold upd
        by_cases hkl : k = len
        · rw [if_pos hkl, if_pos hkl]
          exact ⟨rfl, nI_le (a := 33) hr.1 (by omega), nI_le (b := 126) hr.2 (by decide)⟩
        · rw [if_neg hkl, if_neg hkl]
          exact h.2.2.2 k (by omega)
      obtain ⟨F', A', FM', AM', e1, e2, e3, e4, e5, e6, e7⟩ := ih (j + 1) n n' (len + 1) _ _ _ _ (by omega) (by omega) (by omega) hbad.2 (by omega) ht
      rw [show len + 1 + ty_cnt x m (j + 1) = len + (1 + ty_cnt x m (j + 1)) by omega] at e1 e2 e3
      refine ⟨F', A', FM', AM', e1, e2, e3, fun k hk => ?_, fun k hk => ?_, fun k hk => ?_, fun k hk => ?_⟩
      · rw [e4 k hk]; show (if k = 0 then _ else F k) = F k; rw [if_neg hk]
      · rw [e5 k hk]; show (if k = 0 then _ else A k) = A k; rw [if_neg hk]
      · rw [e6 k hk]; show (if k = 1 then _ else FM k) = FM k; rw [if_neg hk]
      · rw [e7 k hk]; show (if k = 0 then _ else AM k) = AM k; rw [if_neg hk]
theorem Inv.type (w : Int32) : li_r Inv (f_P_type w) (f_M_type w) [(1, 1), (2, 2)] := by
  intro F A FM AM h
  obtain ⟨len, n, h1, h2, h3⟩ := id h
  have hlen := h1.1
  have hP := ty_P5 w F A 4 0 400 0 (by omega) (by omega)
  obtain ⟨F', m1, m2, m3⟩ := ty_M10 w AM 4 0 400 0 (upd FM 0 0) (by omega) (by omega) (Or.inl rfl)
  rw [nI_0, Nat.zero_add] at hP m1
  have hP' : f_P_type w F A = _ := hP
  have hM' : f_M_type w FM AM = _ := m1
  have hm3 : ∀ k, k ≠ 0 → F' k = FM k := fun k hk => by
    rw [m3 k hk]; show (if k = 0 then _ else FM k) = FM k; rw [if_neg hk]
  have hc := ty_cnt_le w 4 0
  have hInv : ∀ z, Inv F A (upd F' 0 z) AM := fun z => by
    refine ⟨len, n, ⟨h1.1, h1.2.1, ?_, h1.2.2.2⟩, ⟨h2.1, h2.2.1, ?_, h2.2.2.2⟩, h3⟩
    · show F' 1 = _; rw [hm3 1 (by decide)]; exact h1.2.2.1
    · show F' 2 = _; rw [hm3 2 (by decide)]; exact h2.2.2.1
  by_cases hb : ty_bad w 4 0 = true
  · right
    rw [if_pos (Or.inr hb)] at m2
    refine ⟨(1, 1), by simp, 0, upd F' 0 1, AM, ?_, ?_, rfl, hInv 1⟩
    · rw [hP', if_pos hb]
    · rw [hM', if_neg (by rw [m2]; decide)]
      unfold f_M_type_J97 f_M_type_J101
      rw [m2, if_neg (by decide)]
  · rw [if_neg (by rintro (e | e); exact absurd (show (0 : Int32) = 1 from e) (by decide); exact hb e)] at m2
    rw [if_neg hb] at hP'
    rw [if_pos m2] at hM'
    rw [h1.2.1, nI_add] at hP'
    rw [hm3 1 (by decide), h1.2.2.1, nI_add] at hM'
    by_cases hl : len + ty_cnt w 4 0 ≤ 160
    · left
      rw [if_pos (c := nI (len + ty_cnt w 4 0) ≤ (160 : Int32)) (nI_le (b := 160) hl (by decide))] at hP' hM'
      have hb' : ty_bad w 4 0 = false := by simpa using hb
      have ht : iv_text len F A (upd F' 0 0) AM := ⟨h1.1, h1.2.1, by show F' 1 = _; rw [hm3 1 (by decide)]; exact h1.2.2.1, h1.2.2.2⟩
      obtain ⟨F9, A9, F2, A2, e1, e2, e3, e4, e5, e6, e7⟩ := ty_both w (nI (ty_cnt w 4 0)) (nI (ty_cnt w 4 0)) 4 0 400 400 len F A (upd F' 0 0) AM (by omega) (by omega) (by omega) hb' hl ht
      refine ⟨nI (len + ty_cnt w 4 0), F9, A9, F2, A2, ?_, ?_, ?_, len + ty_cnt w 4 0, n, e3, ⟨h2.1, ?_, ?_, ?_, ?_⟩, ⟨?_, ?_⟩, ?_, ?_⟩
      · rw [hP']
        show ra_ok (f_P_type_L77 400 w (nI (ty_cnt w 4 0)) (ty_sh 0) F A) = _
        rw [e1]
        rfl
      · rw [hM']
        unfold f_M_type_J97 f_M_type_J101
        rw [m2, if_pos (by decide)]
        exact e2
      · rw [e6 0 (by decide)]; rfl
      · rw [e4 3 (by decide)]; exact h2.2.1
      · rw [e6 2 (by decide)]; show F' 2 = _; rw [hm3 2 (by decide)]; exact h2.2.2.1
      · rw [e5 5 (by decide), e5 6 (by decide), e5 7 (by decide), e7 1 (by decide), e7 2 (by decide), e7 3 (by decide)]; exact h2.2.2.2.1
      · rw [e5 5 (by decide), e5 6 (by decide), e5 7 (by decide)]; exact h2.2.2.2.2
      · rw [e5 8 (by decide), e7 4 (by decide)]; exact h3.1.1
      · rw [e5 8 (by decide)]; exact h3.1.2
      · rw [e5 9 (by decide), e7 5 (by decide)]; exact h3.2.1
      · rw [e5 1 (by decide), e7 16 (by decide)]; exact h3.2.2
    · right
      rw [if_neg (c := nI (len + ty_cnt w 4 0) ≤ (160 : Int32)) (nI_ge (a := 160) (by omega) (by omega))] at hP' hM'
      refine ⟨(2, 2), by simp, 0, upd F' 0 2, AM, hP', ?_, rfl, hInv 2⟩
      rw [hM']
      unfold f_M_type_J101
      rw [if_neg (by decide)]
