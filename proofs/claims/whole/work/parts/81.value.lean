/-! numbers, and the evaluation of a code: both sides -/
theorem nu_floor (x : Int32) : x &&& (-65536 : Int32) = (x >>> ((16 : Int32) &&& 31)) <<< ((16 : Int32) &&& 31) := by
  apply Int32.toBitVec_inj.mp
  show x.toBitVec &&& (-65536 : Int32).toBitVec = (x.toBitVec.sshiftRight 16) <<< 16
  apply BitVec.eq_of_getLsbD_eq
  intro i hi
  rw [BitVec.getLsbD_and, BitVec.getLsbD_shiftLeft, BitVec.getLsbD_sshiftRight]
  have hm : (-65536 : Int32).toBitVec = 4294901760#32 := by decide
  rw [hm, BitVec.getLsbD_ofNat]
  have hbit : ∀ i : Fin 32, (decide (i.val < 32) && Nat.testBit 4294901760 i.val) = decide (16 ≤ i.val) := by decide
  have hb := hbit ⟨i, hi⟩
  rw [hb]
  by_cases h16 : 16 ≤ i
  · rw [if_pos (by omega)]
    have : i - 16 < 32 := by omega
    simp [hi, h16, show 16 + (i - 16) = i by omega, show ¬ i < 16 by omega, show ¬ 32 ≤ i - 16 by omega]
  · simp [h16, show i < 16 by omega]
theorem nu_N (a b : Int32) : f_N_operate 2 a b = some (f_N_saturate (a.toInt64 + b.toInt64)) ∧ f_N_operate 3 a b = some (f_N_saturate (a.toInt64 - b.toInt64)) ∧ f_N_operate 4 a b = some (f_N_saturate ((a.toInt64 * b.toInt64) >>> ((16 : Int32).toInt64 &&& 63))) ∧ f_N_operate 5 a b = (f_N_divide a b).bind (fun r => some r) ∧ f_N_operate 6 a b = some (if b < a then b else a) ∧ f_N_operate 7 a b = some (if a < b then b else a) ∧ f_N_operate 8 a b = (if b < a then some 0 else some 65536) ∧ f_N_operate 9 a b = some (f_N_saturate (-(a.toInt64))) ∧ f_N_operate 10 a b = some (f_N_saturate (if (0 : Int64) < a.toInt64 then a.toInt64 else -(a.toInt64))) ∧ f_N_operate 11 a b = some (a &&& (-65536 : Int32)) := by
  refine ⟨?_, ?_, ?_, ?_, ?_, ?_, ?_, ?_, ?_, ?_⟩ <;> (unfold f_N_operate; (repeat rw [if_neg (by decide)]); rw [if_pos rfl])
theorem nu_M (a b : Int32) : f_M_done 2 a b = some (f_M_saturated (a.toInt64 + b.toInt64)) ∧ f_M_done 3 a b = some (f_M_saturated (a.toInt64 - b.toInt64)) ∧ f_M_done 4 a b = some (f_M_saturated ((a.toInt64 * b.toInt64) >>> ((16 : Int32).toInt64 &&& 63))) ∧ f_M_done 5 a b = (f_M_divided a b).bind (fun r => some r) ∧ f_M_done 6 a b = (if b ≤ a then some b else some a) ∧ f_M_done 7 a b = (if a ≤ b then some b else some a) ∧ f_M_done 8 a b = (if b < a then some 0 else some 65536) ∧ f_M_done 9 a b = some (f_M_saturated (-(a.toInt64))) ∧ f_M_done 10 a b = (if 0 ≤ a then some (f_M_saturated a.toInt64) else some (f_M_saturated (-(a.toInt64)))) := by
  refine ⟨?_, ?_, ?_, ?_, ?_, ?_, ?_, ?_, ?_⟩ <;> (unfold f_M_done; (repeat rw [if_neg (by decide)]); rw [if_pos rfl])
theorem nu_M11 (a b : Int32) : f_M_done 11 a b = some ((a >>> ((16 : Int32) &&& 31)) <<< ((16 : Int32) &&& 31)) := by
  unfold f_M_done
  rw [if_neg (by decide), if_neg (by decide), if_neg (by decide), if_neg (by decide), if_neg (by decide), if_neg (by decide), if_neg (by decide), if_neg (by decide), if_neg (by decide)]
theorem nu_sat (x : Int64) : f_N_saturate x = f_M_saturated x := by
  unfold f_N_saturate f_M_saturated
  rfl
theorem nu_op {t : Nat} (ht : 2 ≤ t) (ht' : t ≤ 11) (a b : Int32) : f_N_operate (nI t) a b = f_M_done (nI t) a b := by
  obtain ⟨n2, n3, n4, n5, n6, n7, n8, n9, n10, n11⟩ := nu_N a b
  obtain ⟨m2, m3, m4, m5, m6, m7, m8, m9, m10⟩ := nu_M a b
  have m11 := nu_M11 a b
  rcases (show t = 2 ∨ t = 3 ∨ t = 4 ∨ t = 5 ∨ t = 6 ∨ t = 7 ∨ t = 8 ∨ t = 9 ∨ t = 10 ∨ t = 11 by omega) with rfl | rfl | rfl | rfl | rfl | rfl | rfl | rfl | rfl | rfl
  · exact n2.trans ((congrArg some (nu_sat _)).trans m2.symm)
  · exact n3.trans ((congrArg some (nu_sat _)).trans m3.symm)
  · exact n4.trans ((congrArg some (nu_sat _)).trans m4.symm)
  · refine n5.trans (Eq.trans ?_ m5.symm)
    show (f_N_divide a b).bind (fun r => some r) = (f_M_divided a b).bind (fun r => some r)
    have e : f_N_divide a b = f_M_divided a b := by
      unfold f_N_divide f_M_divided
      by_cases c : b = 0
      · rw [if_pos c, if_pos c]
        by_cases c2 : a = 0
        · rw [if_pos c2, if_pos (by rw [c2]; decide), if_pos (by rw [c2]; decide)]
        · rw [if_neg c2]
          by_cases c3 : a ≤ 0
          · rw [if_pos c3, if_pos c3, if_neg]
            intro c4
            apply c2
            apply Int32.toInt_inj.mp
            rw [i_le (k := 0) (by decide)] at c3
            rw [i_ge (k := 0) (by decide)] at c4
            have : (0 : Int32).toInt = 0 := by decide
            omega
          · rw [if_neg c3, if_neg c3]
      · rw [if_neg c, if_neg c]
        simp only [nu_sat]
    rw [e]
  · refine n6.trans (Eq.trans ?_ m6.symm)
    show some (if b < a then b else a) = if b ≤ a then some b else some a
    by_cases c : b < a
    · rw [if_pos c, if_pos (by rw [Int32.lt_iff_toInt_lt] at c; rw [Int32.le_iff_toInt_le]; omega)]
    · rw [if_neg c]
      by_cases c2 : b ≤ a
      · rw [if_pos c2]
        congr 1
        apply Int32.toInt_inj.mp
        rw [Int32.lt_iff_toInt_lt] at c
        rw [Int32.le_iff_toInt_le] at c2
        omega
      · rw [if_neg c2]
  · refine n7.trans (Eq.trans ?_ m7.symm)
    show some (if a < b then b else a) = if a ≤ b then some b else some a
    by_cases c : a < b
    · rw [if_pos c, if_pos (by rw [Int32.lt_iff_toInt_lt] at c; rw [Int32.le_iff_toInt_le]; omega)]
    · rw [if_neg c]
      by_cases c2 : a ≤ b
      · rw [if_pos c2]
        congr 1
        apply Int32.toInt_inj.mp
        rw [Int32.lt_iff_toInt_lt] at c
        rw [Int32.le_iff_toInt_le] at c2
        omega
      · rw [if_neg c2]
  · exact n8.trans m8.symm
  · exact n9.trans ((congrArg some (nu_sat _)).trans m9.symm)
  · refine n10.trans (Eq.trans ?_ m10.symm)
    show some (f_N_saturate (if (0 : Int64) < a.toInt64 then a.toInt64 else -(a.toInt64))) = if 0 ≤ a then some (f_M_saturated a.toInt64) else some (f_M_saturated (-(a.toInt64)))
    have h64 : (0 : Int64) < a.toInt64 ↔ 0 < a.toInt := by
      rw [Int64.lt_iff_toInt_lt, Int32.toInt_toInt64]
      have : (0 : Int64).toInt = 0 := by decide
      rw [this]
    by_cases c : 0 ≤ a
    · rw [if_pos c]
      rw [i_ge (k := 0) (by decide)] at c
      by_cases c2 : (0 : Int64) < a.toInt64
      · rw [if_pos c2, nu_sat]
      · rw [if_neg c2]
        have : a = 0 := by
          apply Int32.toInt_inj.mp
          have h0 : (0 : Int32).toInt = 0 := by decide
          have : ¬ 0 < a.toInt := fun z => c2 (h64.mpr z)
          omega
        rw [this, nu_sat]
        rfl
    · rw [if_neg c]
      rw [i_ge (k := 0) (by decide)] at c
      rw [if_neg (fun z => c (by have := h64.mp z; omega)), nu_sat]
  · refine n11.trans (Eq.trans ?_ m11.symm)
    show some (a &&& (-65536 : Int32)) = some ((a >>> ((16 : Int32) &&& 31)) <<< ((16 : Int32) &&& 31))
    rw [nu_floor]
theorem nu_some {t : Nat} (ht : 2 ≤ t) (ht' : t ≤ 11) (a b : Int32) : ∃ r, f_M_done (nI t) a b = some r := by
  obtain ⟨m2, m3, m4, m5, m6, m7, m8, m9, m10⟩ := nu_M a b
  have m11 := nu_M11 a b
  rcases (show t = 2 ∨ t = 3 ∨ t = 4 ∨ t = 5 ∨ t = 6 ∨ t = 7 ∨ t = 8 ∨ t = 9 ∨ t = 10 ∨ t = 11 by omega) with rfl | rfl | rfl | rfl | rfl | rfl | rfl | rfl | rfl | rfl
  · exact ⟨_, m2⟩
  · exact ⟨_, m3⟩
  · exact ⟨_, m4⟩
  · show ∃ r, f_M_done 5 a b = some r
    rw [m5]
    show ∃ r, (f_M_divided a b).bind (fun r => some r) = some r
    have : ∃ r, f_M_divided a b = some r := by
      unfold f_M_divided
      by_cases c : b = 0
      · rw [if_pos c]
        by_cases c1 : a ≤ 0
        · rw [if_pos c1]
          by_cases c2 : 0 ≤ a
          · rw [if_pos c2]; exact ⟨_, rfl⟩
          · rw [if_neg c2]; exact ⟨_, rfl⟩
        · rw [if_neg c1]; exact ⟨_, rfl⟩
      · rw [if_neg c]
        unfold ra_nzl
        rw [if_neg (fun e => c (by
          apply Int32.toInt_inj.mp
          have := congrArg Int64.toInt e
          rw [Int32.toInt_toInt64] at this
          rw [this]
          decide))]
        exact ⟨_, rfl⟩
    obtain ⟨r, e⟩ := this
    exact ⟨r, by rw [e]; rfl⟩
  · show ∃ r, f_M_done 6 a b = some r
    rw [m6]
    show ∃ r, (if b ≤ a then some b else some a) = some r
    by_cases c : b ≤ a
    · rw [if_pos c]; exact ⟨_, rfl⟩
    · rw [if_neg c]; exact ⟨_, rfl⟩
  · show ∃ r, f_M_done 7 a b = some r
    rw [m7]
    show ∃ r, (if a ≤ b then some b else some a) = some r
    by_cases c : a ≤ b
    · rw [if_pos c]; exact ⟨_, rfl⟩
    · rw [if_neg c]; exact ⟨_, rfl⟩
  · show ∃ r, f_M_done 8 a b = some r
    rw [m8]
    show ∃ r, (if b < a then some (0 : Int32) else some 65536) = some r
    by_cases c : b < a
    · rw [if_pos c]; exact ⟨_, rfl⟩
    · rw [if_neg c]; exact ⟨_, rfl⟩
  · exact ⟨_, m9⟩
  · show ∃ r, f_M_done 10 a b = some r
    rw [m10]
    show ∃ r, (if 0 ≤ a then some (f_M_saturated a.toInt64) else some (f_M_saturated (-(a.toInt64)))) = some r
    by_cases c : 0 ≤ a
    · rw [if_pos c]; exact ⟨_, rfl⟩
    · rw [if_neg c]; exact ⟨_, rfl⟩
  · exact ⟨_, m11⟩
/-- the inputs -/
def ev_in (x y t c : Int32) (i : Nat) : Int32 := if i = 0 then x else if i = 1 then y else if i = 2 then t else ((c >>> ((16 - 8 * nI (i - 3)) &&& 31)) &&& 255) * 256
/-- v holds the numbers of the first n instructions -/
def ev_ok (K F1 S : Nat → Int32) (inp : Nat → Int32) (n : Nat) (v : Nat → Int32) : Prop := ∀ k, k < n → (K k = 0 ∧ v k = F1 k) ∨ (K k = 1 ∧ ∃ j, j < 6 ∧ F1 k = nI j ∧ v k = inp j) ∨ ∃ t p q, 2 ≤ t ∧ t ≤ 11 ∧ K k = nI t ∧ p < k ∧ F1 k = nI p ∧ q < k ∧ S k = nI q ∧ f_M_done (nI t) (v p) (v q) = some (v k)
theorem ev_ok.uniq {K F1 S K' F1' S' : Nat → Int32} {inp v v' : Nat → Int32} {n n' : Nat} (hn : n ≤ 100) (hn' : n' ≤ 100) (hK : ∀ k, k < n → k < n' → K k = K' k ∧ F1 k = F1' k ∧ S k = S' k) (h : ev_ok K F1 S inp n v) (h' : ev_ok K' F1' S' inp n' v') : ∀ k, k < n → k < n' → v k = v' k := by
  intro k
  induction k using Nat.strongRecOn with
  | _ k ih =>
    intro hk hk'
    obtain ⟨e1, e2, e3⟩ := hK k hk hk'
    have z01 : ¬ (0 : Int32) = 1 := by decide
    rcases h k hk with ⟨a1, a2⟩ | ⟨a1, j, a2, a3, a4⟩ | ⟨t, p, q, a1, a2, a3, a4, a5, a6, a7, a8⟩
    · rcases h' k hk' with ⟨b1, b2⟩ | ⟨b1, _⟩ | ⟨t', p', q', b1, b2, b3, _⟩
      · rw [a2, b2, e2]
      · rw [e1, b1] at a1; exact absurd a1.symm z01
      · rw [e1, b3] at a1; exact absurd a1 (nI_ne0 (by omega) (by omega))
    · rcases h' k hk' with ⟨b1, b2⟩ | ⟨b1, j', b2, b3, b4⟩ | ⟨t', p', q', b1, b2, b3, _⟩
      · rw [e1, b1] at a1; exact absurd a1 z01
      · rw [e2, b3] at a3
        have := (nI_eqI (by omega) (by omega)).mp a3
        rw [a4, b4, this]
      · rw [e1, b3] at a1
        have := (nI_eqI (a := t') (b := 1) (by omega) (by omega)).mp a1
        omega
    · rcases h' k hk' with ⟨b1, b2⟩ | ⟨b1, _⟩ | ⟨t', p', q', b1, b2, b3, b4, b5, b6, b7, b8⟩
      · rw [e1, b1] at a3; exact absurd a3.symm (nI_ne0 (by omega) (by omega))
      · rw [e1, b1] at a3
        have := (nI_eqI (a := 1) (b := t) (by omega) (by omega)).mp a3
        omega
      · rw [e1, b3] at a3
        have et := (nI_eqI (by omega) (by omega)).mp a3
        rw [e2, b5] at a5
        have ep := (nI_eqI (a := p') (b := p) (by omega) (by omega)).mp a5
        rw [e3, b7] at a7
        have eq := (nI_eqI (a := q') (b := q) (by omega) (by omega)).mp a7
        subst et
        subst ep
        subst eq
        rw [ih p' a4 (by omega) (by omega), ih q' a6 (by omega) (by omega), b8] at a8
        exact (Option.some.inj a8).symm
