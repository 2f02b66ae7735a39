/-! the class's dot, joined, matrix; next, takes; letter, constant, picked -/
section CX
variable {ch : Nat → Int32} {len : Nat} {vars : Nat → Option px_V}
theorem cx_dotL {at_ : Nat} {n0 : Nat} {a b : px_V} (hl : a.length ≤ 4) (hka : pv_ok a) (hkb : pv_ok b) (ha : ∀ i, a.getD i 0 < n0) (hb : ∀ i, b.getD i 0 < n0) :
    ∀ (m j n t : Nat) (L : px_L) (tl : Bool) (F : ST_F) (A : ST_A), j + m = a.length → m < n → n0 ≤ L.length → t < L.length → cx_S ch len vars at_ L tl F A → cx_Q ch len vars at_ L tl (f_C_dotted_L55 n (pv a) (pv b) (nI a.length) (nI t) (nI j) F A) ((px_dotL a b (List.range' j m) t L).map fun z => ([z.1], z.2)) := by
  intro m
  induction m with
  | zero =>
    intro j n t L tl F A hj hn hn0 ht hS
    obtain ⟨n, rfl⟩ : ∃ n', n = n' + 1 := ⟨n - 1, by omega⟩
    rw [f_C_dotted_L55, if_pos (nI_le (by omega) (by omega))]
    have hl2 := hS.2.2.2.2.1.1
    have e : f_V_withNumber (f_V_ofType 1) 0 (nI t) = pv [t] := by
      unfold f_V_withNumber f_V_ofType
      rw [show (1 : Int32) = nI 1 from rfl, pv_of (by decide), show (0 : Int32) = nI 0 from rfl]
      exact pv_with (T := 1) (w := []) (by decide) (by decide) rfl (by omega) (fun q hq => absurd hq List.not_mem_nil)
    rw [e]
    exact cx_Q.yes hS ⟨by simp, by simp, fun p hp => by rw [List.mem_singleton.mp hp]; exact ht⟩
  | succ m ih =>
    intro j n t L tl F A hj hn hn0 ht hS
    obtain ⟨n, rfl⟩ : ∃ n', n = n' + 1 := ⟨n - 1, by omega⟩
    rw [f_C_dotted_L55, if_neg (nI_ge (by omega) (by omega)), cx_num hka (by omega), cx_num hkb (by omega)]
    obtain ⟨x, L1, t1, F1, A1, a1, a2, a3, a4, a5⟩ := cx_put hS (i := (4, nI (a.getD j 0), nI (b.getD j 0))) (cx_i2 (t := 4) (by decide) (by decide) (by have := ha j; omega) (by have := hb j; omega) rfl)
    obtain ⟨y, L2, t2, F2, A2, b1, b2, b3, b4, b5⟩ := cx_put a2 (i := (2, nI t, nI x)) (cx_i2 (t := 2) (by decide) (by decide) (by omega) (by omega) rfl)
    dsimp only at a1 b1
    rw [a1, ra_bi_s, b1, ra_bi_s, ← nI_succ]
    have hr := ih (j + 1) n y L2 t2 F2 A2 (by omega) (by omega) (by omega) b4 b2
    refine cx_Q.from (f := fun z => (px_dotL a b (List.range' (j + 1) m) z.1 z.2).map fun z => ([z.1], z.2)) (a5.bind (f := fun x => px_put x.2 (2, nI t, nI x.1)) b5) (by omega) hr ?_
    rw [List.range'_succ, px_dotL]
    unfold px_at
    cases px_put L (4, nI (a.getD j 0), nI (b.getD j 0)) with
    | none => rfl
    | some x =>
      show Option.map _ (Option.bind (px_put x.2 (2, nI t, nI x.1)) _) = Option.bind (px_put x.2 (2, nI t, nI x.1)) _
      cases px_put x.2 (2, nI t, nI x.1) with
      | none => rfl
      | some y => rfl
theorem cx_dot {at_ : Nat} {L : px_L} {tl : Bool} {F : ST_F} {A : ST_A} (hS : cx_S ch len vars at_ L tl F A) {a b : px_V} (ha : cx_o L a) (hb : cx_o L b) : cx_Q ch len vars at_ L tl (f_C_dotted (pv a) (pv b) F A) (px_dot a b L) := by
  have hka := ha.ok hS.2.2.2.2.1.1
  have hkb := hb.ok hS.2.2.2.2.1.1
  have la := hka.2.1
  have lb := hkb.2.1
  have la1 := hka.1
  unfold f_C_dotted px_dot
  rw [if_neg (pv_ne hka), if_neg (pv_ne hkb), cx_type hka, cx_type hkb]
  by_cases c1 : a.length = b.length
  · rw [if_pos (by rw [c1])]
    by_cases c2 : a.length = 4
    · rw [if_pos (by rw [c2]; rfl), if_pos (Or.inr (by omega))]
      exact cx_Q.no hS
    · rw [if_neg (c := nI a.length = (4 : Int32)) (fun z => c2 ((nI_eqI (b := 4) (by omega) (by omega)).mp z)), if_neg (fun z => by rcases z with h | h; exact h c1; omega), show (0 : Int32) = nI 0 from rfl, cx_num hka (by decide), cx_num hkb (by decide)]
      obtain ⟨x, L1, t1, F1, A1, a1, a2, a3, a4, a5⟩ := cx_put hS (i := (4, nI (a.getD 0 0), nI (b.getD 0 0))) (cx_i2 (t := 4) (by decide) (by decide) (ha.getA _) (hb.getA _) rfl)
      dsimp only at a1
      rw [a1, ra_bi_s]
      have hr := cx_dotL (ch := ch) (len := len) (vars := vars) (at_ := at_) la hka hkb (ha.mono a3).getA (hb.mono a3).getA (a.length - 1) 1 400 x L1 t1 F1 A1 (by omega) (by omega) (Nat.le_refl _) a4 a2
      refine cx_Q.from (f := fun (x : Nat × px_L) => (px_dotL a b (List.range' 1 (a.length - 1)) x.1 x.2).map fun (z : Nat × px_L) => (([z.1] : px_V), z.2)) a5 a3 hr ?_
      unfold px_at
      have e : (List.range (a.length - 1)).map (fun i => i + 1) = List.range' 1 (a.length - 1) := by
        rw [List.range'_eq_map_range]
        exact List.map_congr_left (fun i _ => Nat.add_comm i 1)
      rw [e]
      cases px_put L (4, nI (a.getD 0 0), nI (b.getD 0 0)) with
      | none => rfl
      | some x =>
        show Option.bind (px_dotL a b (List.range' 1 (a.length - 1)) x.1 x.2) _ = Option.map _ (px_dotL a b (List.range' 1 (a.length - 1)) x.1 x.2)
        cases px_dotL a b (List.range' 1 (a.length - 1)) x.1 x.2 <;> rfl
  · rw [if_neg (fun z => c1 ((nI_eqI (by omega) (by omega)).mp z)), if_pos (Or.inl c1)]
    exact cx_Q.no hS
theorem cx_dotN1 (y : Int32) (F : ST_F) (A : ST_A) : f_C_dotted (-1) y F A = some (-1, F, A) := by
  unfold f_C_dotted
  rw [if_pos rfl]
theorem cx_dotN2 (y : Int32) (F : ST_F) (A : ST_A) : f_C_dotted y (-1) F A = some (-1, F, A) := by
  unfold f_C_dotted
  by_cases c : y = -1
  · rw [if_pos c]
  · rw [if_neg c, if_pos rfl]
theorem cx_beh2 {a b : px_V} (ha : pv_ok a) (hb : pv_ok b) (hl : a.length + b.length ≤ 4) (x0 : Int32) : ∀ (m j n : Nat), j + m = b.length → m < n → f_C_behindEachOther_L51 n x0 (pv b) (nI a.length) (nI b.length) (nI ((a.length + b.length) * 268435456 + pv_sum (a ++ b.take j))) (nI j) = some (pv (a ++ b)) := by
  intro m
  have h1 := ha.1
  have h2 := hb.1
  induction m with
  | zero =>
    intro j n hj hn
    obtain ⟨n, rfl⟩ : ∃ n', n = n' + 1 := ⟨n - 1, by omega⟩
    rw [f_C_behindEachOther_L51, if_pos (nI_le (by omega) (by omega)), List.take_of_length_le (by omega)]
    unfold pv pv_n
    rw [List.length_append]
  | succ m ih =>
    intro j n hj hn
    obtain ⟨n, rfl⟩ : ∃ n', n = n' + 1 := ⟨n - 1, by omega⟩
    have hjb : j < b.length := by omega
    have hg : b.getD j 0 = b[j] := by rw [List.getD_eq_getElem?_getD, List.getElem?_eq_getElem hjb]; rfl
    have hm : b[j] < 128 := hb.2.2 _ (List.getElem_mem hjb)
    rw [f_C_behindEachOther_L51, if_neg (nI_ge (by omega) (by omega)), cx_num hb (by omega), nI_add]
    unfold f_V_withNumber
    rw [pv_with (by omega) (by omega) (by rw [List.length_append, List.length_take]; omega) (by omega) (fun q hq => by
      rcases List.mem_append.mp hq with h | h
      · exact ha.2.2 q h
      · exact hb.2.2 q (List.mem_of_mem_take h)), ← nI_succ, hg, List.append_assoc, List.take_append_getElem hjb]
    exact ih (j + 1) n (by omega) (by omega)
theorem cx_beh1 {a b : px_V} (ha : pv_ok a) (hb : pv_ok b) (hl : a.length + b.length ≤ 4) : ∀ (m j n : Nat), j + m = a.length → m < n → f_C_behindEachOther_L21 n (pv a) (pv b) (nI a.length) (nI b.length) (nI ((a.length + b.length) * 268435456 + pv_sum (a.take j))) (nI j) = some (pv (a ++ b)) := by
  intro m
  have h1 := ha.1
  have h2 := hb.1
  induction m with
  | zero =>
    intro j n hj hn
    obtain ⟨n, rfl⟩ : ∃ n', n = n' + 1 := ⟨n - 1, by omega⟩
    rw [f_C_behindEachOther_L21, if_pos (nI_le (by omega) (by omega)), List.take_of_length_le (by omega)]
    have h := cx_beh2 ha hb hl (pv a) b.length 0 400 (by omega) (by omega)
    rw [List.take_zero, List.append_nil] at h
    exact h
  | succ m ih =>
    intro j n hj hn
    obtain ⟨n, rfl⟩ : ∃ n', n = n' + 1 := ⟨n - 1, by omega⟩
    have hjb : j < a.length := by omega
    have hg : a.getD j 0 = a[j] := by rw [List.getD_eq_getElem?_getD, List.getElem?_eq_getElem hjb]; rfl
    have hm : a[j] < 128 := ha.2.2 _ (List.getElem_mem hjb)
    rw [f_C_behindEachOther_L21, if_neg (nI_ge (by omega) (by omega)), cx_num ha (by omega)]
    unfold f_V_withNumber
    rw [pv_with (by omega) (by omega) (by rw [List.length_take]; omega) (by omega) (fun q hq => ha.2.2 q (List.mem_of_mem_take hq)), ← nI_succ, hg, List.take_append_getElem hjb]
    exact ih (j + 1) n (by omega) (by omega)
theorem cx_beh {a b : px_V} (ha : pv_ok a) (hb : pv_ok b) (hl : a.length + b.length ≤ 4) : f_C_behindEachOther (pv a) (pv b) = some (pv (a ++ b)) := by
  unfold f_C_behindEachOther f_V_ofType
  rw [cx_type ha, cx_type hb, nI_add, pv_of (by omega)]
  have h := cx_beh1 ha hb hl a.length 0 400 (by omega) (by have := ha.2.1; omega)
  rw [List.take_zero, show (a.length + b.length) * 268435456 + pv_sum [] = (a.length + b.length) * 268435456 from Nat.add_zero _, nI_0] at h
  exact h
theorem cx_app {L : px_L} {a b : px_V} (ha : cx_o L a) (hb : cx_o L b) (hl : a.length + b.length ≤ 4) : cx_o L (a ++ b) := by
  refine ⟨by rw [List.length_append]; have := ha.1; omega, by rw [List.length_append]; exact hl, fun p hp => ?_⟩
  rcases List.mem_append.mp hp with h | h
  · exact ha.2.2 p h
  · exact hb.2.2 p h
theorem cx_joined {at_ : Nat} {L : px_L} {tl : Bool} {F : ST_F} {A : ST_A} (hS : cx_S ch len vars at_ L tl F A) {a b : px_V} (ha : cx_o L a) (hb : cx_o L b) : f_C_joined (pv a) (pv b) F A = if a.length + b.length ≤ 3 then some (pv (a ++ b), F, A) else some (-1, F, A) := by
  have hka := ha.ok hS.2.2.2.2.1.1
  have hkb := hb.ok hS.2.2.2.2.1.1
  have := hka.2.1
  have := hkb.2.1
  unfold f_C_joined
  rw [if_neg (pv_ne hka), if_neg (pv_ne hkb), cx_type hka, cx_type hkb, nI_add]
  by_cases c : a.length + b.length ≤ 3
  · rw [if_pos (c := nI (a.length + b.length) ≤ (3 : Int32)) (nI_le (b := 3) c (by omega)), if_pos c, cx_beh hka hkb (by omega)]
    rfl
  · rw [if_neg (c := nI (a.length + b.length) ≤ (3 : Int32)) (nI_ge (a := 3) (by omega) (by omega)), if_neg c]
theorem cx_joinedN1 (y : Int32) (F : ST_F) (A : ST_A) : f_C_joined (-1) y F A = some (-1, F, A) := by
  unfold f_C_joined
  rw [if_pos rfl]
theorem cx_joinedN2 (y : Int32) (F : ST_F) (A : ST_A) : f_C_joined y (-1) F A = some (-1, F, A) := by
  unfold f_C_joined
  by_cases c : y = -1
  · rw [if_pos c]
  · rw [if_neg c, if_pos rfl]
theorem cx_matrix {at_ : Nat} {L : px_L} {tl : Bool} {F : ST_F} {A : ST_A} (hS : cx_S ch len vars at_ L tl F A) {a b : px_V} (ha : cx_o L a) (hb : cx_o L b) : cx_Q ch len vars at_ L tl (f_C_matrix (pv a) (pv b) F A) (if a.length = 2 ∧ b.length = 2 then some (a ++ b, L) else none) := by
  have hka := ha.ok hS.2.2.2.2.1.1
  have hkb := hb.ok hS.2.2.2.2.1.1
  have := hka.2.1
  have := hkb.2.1
  unfold f_C_matrix
  rw [if_neg (pv_ne hka), if_neg (pv_ne hkb), cx_type hka, cx_type hkb, show (2 : Int32) = nI 2 from rfl]
  by_cases c1 : a.length = 2
  · rw [if_pos (by rw [c1])]
    by_cases c2 : b.length = 2
    · rw [if_pos (by rw [c2]), if_pos ⟨c1, c2⟩, cx_beh hka hkb (by omega)]
      exact cx_Q.yes hS (cx_app ha hb (by omega))
    · rw [if_neg (fun z => c2 ((nI_eqI (by omega) (by omega)).mp z)), if_neg (fun z => c2 z.2)]
      exact cx_Q.no hS
  · rw [if_neg (fun z => c1 ((nI_eqI (by omega) (by omega)).mp z)), if_neg (fun z => c1 z.1)]
    exact cx_Q.no hS
theorem cx_matrixN1 (y : Int32) (F : ST_F) (A : ST_A) : f_C_matrix (-1) y F A = some (-1, F, A) := by
  unfold f_C_matrix
  rw [if_pos rfl]
theorem cx_matrixN2 (y : Int32) (F : ST_F) (A : ST_A) : f_C_matrix y (-1) F A = some (-1, F, A) := by
  unfold f_C_matrix
  by_cases c : y = -1
  · rw [if_pos c]
  · rw [if_neg c, if_pos rfl]
/-- the text -/
def cx_T (ch : Nat → Int32) (len : Nat) : Prop := len ≤ 160 ∧ (∀ k, len ≤ k → ch k = 0) ∧ ∀ k, k < len → 33 ≤ ch k ∧ ch k ≤ 126
theorem cx_nc {y : Int32} (h0 : 33 ≤ y) (h1 : y ≤ 126) : vp_nar .char y = y := by
  rw [i_ge (k := 33) (by decide)] at h0
  rw [i_le (k := 126) (by decide)] at h1
  obtain ⟨j, hj, rfl⟩ := i_nI (x := y) (n := 127) (by decide) (by omega) (by omega)
  have : ∀ j : Fin 127, vp_nar .char (nI j.val) = nI j.val := by decide
  exact this ⟨j, hj⟩
theorem cx_next (hT : cx_T ch len) {at_ : Nat} {L : px_L} {tl : Bool} {F : ST_F} {A : ST_A} (hS : cx_S ch len vars at_ L tl F A) (ha : at_ ≤ len + 1) : f_C_next F A = some (ch at_, F, A) := by
  have hl := hT.1
  unfold f_C_next
  rw [hS.1, hS.2.1]
  by_cases c : len ≤ at_
  · rw [if_pos (nI_le c (by omega)), hT.2.1 at_ c]
  · have h1 := hS.2.2.2.2.2.1 at_ (by omega)
    have h2 := hT.2.2 at_ (by omega)
    rw [if_neg (nI_ge (by omega) (by omega)), ra_g_in (by omega) (by decide), nI_clamp (by omega), h1]
    unfold ra_nc
    rw [if_pos (cx_nc h2.1 h2.2)]
theorem cx_S.go {at_ : Nat} {L : px_L} {tl : Bool} {F : ST_F} {A : ST_A} (hS : cx_S ch len vars at_ L tl F A) (k : Nat) {y : Int32} (hy : y = nI k) : cx_S ch len vars (at_ + k) L tl (upd F 1 (F 1 + y)) A := by
  obtain ⟨h0, h1, h2, h3, h4⟩ := hS
  exact ⟨h0, by show F 1 + y = _; rw [h1, hy, nI_add], h2, h3, h4⟩
theorem cx_takes (hT : cx_T ch len) {at_ : Nat} {L : px_L} {tl : Bool} {F : ST_F} {A : ST_A} (hS : cx_S ch len vars at_ L tl F A) (ha : at_ ≤ len + 1) {c : Int32} (hc : c ≠ 0) : (ch at_ = c ∧ at_ < len ∧ ∃ F', f_C_takes c F A = some (1, F', A) ∧ cx_S ch len vars (at_ + 1) L tl F' A) ∨ (ch at_ ≠ c ∧ f_C_takes c F A = some (0, F, A)) := by
  unfold f_C_takes
  rw [cx_next hT hS ha, ra_bi_s]
  by_cases h : ch at_ = c
  · rw [if_pos h]
    refine Or.inl ⟨h, ?_, _, rfl, hS.go 1 rfl⟩
    by_cases hl : len ≤ at_
    · exact absurd (by rw [← h]; exact hT.2.1 at_ hl) hc
    · omega
  · rw [if_neg h]
    exact Or.inr ⟨h, rfl⟩
theorem cx_isDigit (c : Int32) : f_C_isDigit c = if px_dig c = true then 1 else 0 := by
  unfold f_C_isDigit px_dig
  by_cases h1 : c < 48
  · rw [if_pos h1, if_neg]
    simp [Int32.not_le.mpr h1]
  · by_cases h2 : (57 : Int32) < c
    · rw [if_neg h1, if_pos h2, if_neg]
      simp [Int32.not_le.mpr h2]
    · rw [if_neg h1, if_neg h2, if_pos]
      simp [Int32.not_lt.mp h1, Int32.not_lt.mp h2]
theorem cx_isSmall (c : Int32) : f_C_isSmall c = if px_small c = true then 1 else 0 := by
  unfold f_C_isSmall px_small
  by_cases h1 : c < 97
  · rw [if_pos h1, if_neg]
    simp [Int32.not_le.mpr h1]
  · by_cases h2 : (122 : Int32) < c
    · rw [if_neg h1, if_pos h2, if_neg]
      simp [Int32.not_le.mpr h2]
    · rw [if_neg h1, if_neg h2, if_pos]
      simp [Int32.not_lt.mp h1, Int32.not_lt.mp h2]
theorem cx_isPlace (c : Int32) : f_C_isPlace c = if px_plc c = true then 1 else 0 := by
  unfold f_C_isPlace px_plc
  by_cases h1 : c < 120
  · rw [if_pos h1, if_neg]
    simp [Int32.not_le.mpr h1]
  · by_cases h2 : (122 : Int32) < c
    · rw [if_neg h1, if_pos h2, if_neg]
      simp [Int32.not_le.mpr h2]
    · rw [if_neg h1, if_neg h2, if_pos]
      simp [Int32.not_lt.mp h1, Int32.not_lt.mp h2]
theorem cx_ix {c : Int32} (h : px_small c = true) : c - 97 = nI (px_ix c) ∧ px_ix c < 26 := by
  unfold px_small at h
  simp at h
  obtain ⟨h1, h2⟩ := h
  rw [i_ge (k := 97) (by decide)] at h1
  rw [i_le (k := 122) (by decide)] at h2
  obtain ⟨j, hj, rfl⟩ := i_nI (x := c) (n := 123) (by decide) (by omega) (by omega)
  have e : nI j - 97 = nI (j - 97) ∧ (nI j).toInt = j := by
    refine ⟨?_, nI_toInt (by omega)⟩
    have : ∀ j : Fin 123, 97 ≤ j.val → nI j.val - 97 = nI (j.val - 97) := by decide
    exact this ⟨j, hj⟩ (by rw [nI_toInt (by omega)] at h1; show 97 ≤ j; omega)
  unfold px_ix
  rw [e.1, nI_clamp (by omega)]
  exact ⟨rfl, by omega⟩
/-- the letters -/
theorem cx_input {at_ : Nat} {L : px_L} {tl : Bool} {F : ST_F} {A : ST_A} (hS : cx_S ch len vars at_ L tl F A) (i T : Nat) (hT : T ≤ 3) (hT1 : 1 ≤ T) (hi : i + T ≤ 6) : cx_Q ch len vars at_ L tl (f_C_input (nI i) (nI T) F A) (px_puts L ((List.range T).map fun j => (1, nI (i + j), 0))) := by
  unfold f_C_input
  exact cx_loop0 (g := fun n acc j F A => f_C_input_L8 n (nI i) (nI T) acc j F A) (a := fun j => nI i + j) (b := fun _ => 0) (k := 1) (by omega) hT1 (fun n acc i F A => by show f_C_input_L8 (n + 1) _ _ acc i F A = _; rw [f_C_input_L8]) (fun j hj => by rw [nI_add]) (fun j hj => Or.inr (Or.inl ⟨rfl, i + j, by omega, rfl⟩)) hS
theorem cx_letter {at_ : Nat} {L : px_L} {tl : Bool} {F : ST_F} {A : ST_A} (hS : cx_S ch len vars at_ L tl F A) {c : Int32} (hc : px_small c = true) : cx_Q ch len vars at_ L tl (f_C_letter c F A) (px_letter vars c L) := by
  have hbi : ∀ (g : Option (Int32 × ST_F × ST_A)), ra_bi g (fun r F A => some (r, F, A)) = g := fun g => by cases g <;> rfl
  unfold f_C_letter px_letter
  simp only [hbi]
  by_cases c1 : c = 99
  · rw [if_pos c1, if_neg (by rw [c1]; decide), if_neg (by rw [c1]; decide), if_neg (by rw [c1]; decide), if_pos c1]
    exact cx_input hS 3 3 (by decide) (by decide) (by decide)
  · by_cases c2 : c = 116
    · rw [if_neg c1, if_pos c2, if_neg (by rw [c2]; decide), if_neg (by rw [c2]; decide), if_pos c2]
      exact cx_input hS 2 1 (by decide) (by decide) (by decide)
    · by_cases c3 : c = 120
      · rw [if_neg c1, if_neg c2, if_pos c3, if_pos c3]
        exact cx_input hS 0 1 (by decide) (by decide) (by decide)
      · by_cases c4 : c = 121
        · rw [if_neg c1, if_neg c2, if_neg c3, if_pos c4, if_neg c3, if_pos c4]
          exact cx_input hS 1 1 (by decide) (by decide) (by decide)
        · rw [if_neg c1, if_neg c2, if_neg c3, if_neg c4, if_neg c3, if_neg c4, if_neg c2, if_neg c1]
          obtain ⟨e1, e2⟩ := cx_ix hc
          rw [e1, ra_g_in e2 (by decide), nI_clamp (by omega), hS.2.2.2.2.2.2.2.1 _ e2]
          cases hv : vars (px_ix c) with
          | none => exact cx_Q.no hS
          | some v => exact cx_Q.yes hS (hS.2.2.2.2.2.2.2.2 _ v hv)
end CX
