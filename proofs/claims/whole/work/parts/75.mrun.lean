/-! the reference's loop against the run -/
theorem px_k_bind {α β ρ : Type} (x : Option α) (g : α → Option β) (f : β → Option (Option ρ)) : px_k (x.bind g) f = px_k x (fun a => px_k (g a) f) := by cases x <;> rfl
theorem px_k_some {α ρ : Type} (a : α) (f : α → Option (Option ρ)) : px_k (some a) f = f a := rfl
theorem px_k_none {α ρ : Type} (f : α → Option (Option ρ)) : px_k none f = some none := rfl
theorem px_k_if {α ρ : Type} (c : Prop) [Decidable c] (y : Option α) (f : α → Option (Option ρ)) : px_k (if c then none else y) f = if c then some none else px_k y f := by
  by_cases h : c
  · rw [if_pos h, if_pos h]; rfl
  · rw [if_neg h, if_neg h]
theorem mx_isGiven (c : Int32) : f_M_isGiven c = if px_given c = true then 1 else 0 := by
  unfold f_M_isGiven px_given
  by_cases c1 : px_plc c = true
  · have h := c1
    unfold px_plc at h
    simp at h
    obtain ⟨h1, h2⟩ := h
    rw [i_ge (k := 120) (by decide)] at h1
    rw [i_le (k := 122) (by decide)] at h2
    obtain ⟨j, hj, rfl⟩ := i_nI (x := c) (n := 123) (by decide) (by omega) (by omega)
    rw [nI_toInt (by omega)] at h1 h2
    rcases (show j = 120 ∨ j = 121 ∨ j = 122 by omega) with rfl | rfl | rfl <;> rfl
  · have c1' : px_plc c = false := by simpa using c1
    rw [if_neg (fun e => by rw [e] at c1; exact c1 (by decide)), if_neg (fun e => by rw [e] at c1; exact c1 (by decide)), if_neg (fun e => by rw [e] at c1; exact c1 (by decide))]
    by_cases c2 : c = 116
    · rw [if_pos c2, if_pos (by rw [c2]; rfl)]
    · rw [if_neg c2]
      by_cases c3 : c = 99
      · rw [if_pos c3, if_pos (by rw [c3]; rfl)]
      · rw [if_neg c3, if_neg (by simp [c1', c2, c3])]
theorem mx_isFn (c : Int32) : f_M_isFunction c = if px_isfn c = true then 1 else 0 := by
  unfold f_M_isFunction px_isfn
  by_cases c1 : c = 65
  · rw [if_pos c1, if_pos (by rw [c1]; rfl)]
  · rw [if_neg c1]
    by_cases c2 : c = 70
    · rw [if_pos c2, if_pos (by rw [c2]; rfl)]
    · rw [if_neg c2]
      by_cases c3 : c = 78
      · rw [if_pos c3, if_pos (by rw [c3]; rfl)]
      · rw [if_neg c3]
        by_cases c4 : c = 88
        · rw [if_pos c4, if_pos (by rw [c4]; rfl)]
        · rw [if_neg c4]
          by_cases c5 : c = 83
          · rw [if_pos c5, if_pos (by rw [c5]; rfl)]
          · rw [if_neg c5]
            by_cases c6 : c = 68
            · rw [if_pos c6, if_pos (by rw [c6]; rfl)]
            · rw [if_neg c6]
              by_cases c7 : c = 86
              · rw [if_pos c7, if_pos (by rw [c7]; rfl)]
              · rw [if_neg c7]
                by_cases c8 : c = 77
                · rw [if_pos c8, if_pos (by rw [c8]; rfl)]
                · rw [if_neg c8, if_neg (by simp [c1, c2, c3, c4, c5, c6, c7, c8])]
def mx_fin (n0 : ST_F) (A0 : ST_A) (x : px_R) (F : ST_F) (A : ST_A) : Prop := F 1 = n0 1 ∧ F 2 = nI x.2.1.length ∧ x.2.1.length ≤ 100 ∧ (∀ (k : Nat) (i : px_I), x.2.1[k]? = some i → A 1 k = i.1 ∧ A 2 k = i.2.1 ∧ A 3 k = i.2.2) ∧ (∀ i, i < 3 → A 4 i = nI (x.1.getD i 0)) ∧ (∀ j, j < 26 → A 5 j = cx_ty (x.2.2 j)) ∧ A 0 = A0 0 ∧ A 16 = A0 16
def mx_E (n0 : ST_F) (A0 : ST_A) (res : Option (Int32 × ST_F × ST_A)) (r : Option px_R) : Prop := match r with
  | none => ∃ F' A', res = some (0, F', A') ∧ mx_K n0 A0 F' A'
  | some x => ∃ F' A', res = some (1, F', A') ∧ mx_fin n0 A0 x F' A'
section MX
variable {ch : Nat → Int32} {len : Nat} {n0 : ST_F} {A0 : ST_A} {vars : Nat → Option px_V} {at_ op : Nat} {ws : List (Int32 × Nat)} {tg : Option Nat}
theorem mx_wrong {F : ST_F} {A : ST_A} (h5 : F 5 = 1) (hK : mx_K n0 A0 F A) (fu n : Nat) (x1 : Int32) : mx_E n0 A0 (f_M_compile_L62 fu (n + 1) x1 F A) none := by
  refine ⟨F, A, ?_, hK⟩
  rw [f_M_compile_L62, if_neg (by rw [h5]; decide)]
  unfold f_M_compile_J103
  rw [if_neg (by rw [h5]; decide)]
  unfold f_M_compile_J115
  rw [if_neg (by rw [h5]; decide)]
  unfold f_M_compile_J147 f_M_compile_J152 ra_zb
  rw [if_pos (Or.inr rfl), if_neg (by decide), if_neg (by decide), upd_same h5]
theorem mx_keep87 (F : ST_F) : ∀ (m j n : Nat) (A : ST_A), j + m = 26 → m < n → ∃ A', f_M_keep_L87 n (nI j) F A = some (F, A') ∧ (∀ k, k ≠ 5 → A' k = A k) ∧ (∀ i, i < j → A' 5 i = A 5 i) ∧ ∀ i, j ≤ i → i < 26 → A' 5 i = A 9 i := by
  intro m
  induction m with
  | zero =>
    intro j n A hj hn
    obtain ⟨n, rfl⟩ : ∃ n', n = n' + 1 := ⟨n - 1, by omega⟩
    rw [f_M_keep_L87, if_pos (show (26 : Int32) ≤ nI j from nI_le (a := 26) (by omega) (by omega))]
    exact ⟨A, rfl, fun _ _ => rfl, fun _ _ => rfl, fun i h1 h2 => by omega⟩
  | succ m ih =>
    intro j n A hj hn
    obtain ⟨n, rfl⟩ : ∃ n', n = n' + 1 := ⟨n - 1, by omega⟩
    rw [f_M_keep_L87, if_neg (show ¬ (26 : Int32) ≤ nI j from nI_ge (b := 26) (by omega) (by omega)), ra_g_in (by omega) (by decide), ra_g_in (by omega) (by decide), nI_clamp (by omega), ← nI_succ]
    obtain ⟨A', h1, h2, h3, h4⟩ := ih (j + 1) n (va_up A 5 (upd (A 5) j (A 9 j))) (by omega) (by omega)
    refine ⟨A', h1, fun k hk => ?_, fun i hi => ?_, fun i hi hi2 => ?_⟩
    · rw [h2 k hk]; show (if k = 5 then _ else A k) = A k; rw [if_neg hk]
    · rw [h3 i (by omega)]; show upd (A 5) j _ i = A 5 i; unfold upd; rw [if_neg (by omega)]
    · by_cases hij : i = j
      · rw [h3 i (by omega), hij]; show upd (A 5) j _ j = _; unfold upd; rw [if_pos rfl]
      · exact h4 i (by omega) hi2
theorem mx_keep62 (F : ST_F) : ∀ (m j n : Nat) (A : ST_A), j + m = 3 → m < n → ∃ A', f_M_keep_L62 n (nI j) F A = some (F, A') ∧ (∀ k, k ≠ 4 → k ≠ 5 → A' k = A k) ∧ (∀ i, i < j → A' 4 i = A 4 i) ∧ (∀ i, j ≤ i → i < 3 → A' 4 i = A 12 i) ∧ ∀ i, i < 26 → A' 5 i = A 9 i := by
  intro m
  induction m with
  | zero =>
    intro j n A hj hn
    obtain ⟨n, rfl⟩ : ∃ n', n = n' + 1 := ⟨n - 1, by omega⟩
    rw [f_M_keep_L62, if_pos (show (3 : Int32) ≤ nI j from nI_le (a := 3) (by omega) (by omega))]
    obtain ⟨A', h1, h2, h3, h4⟩ := mx_keep87 F 26 0 400 A (by omega) (by omega)
    exact ⟨A', h1, fun k _ hk => h2 k hk, fun i hi => by rw [h2 4 (by decide)], fun i h1 h2 => by omega, fun i hi => h4 i (Nat.zero_le _) hi⟩
  | succ m ih =>
    intro j n A hj hn
    obtain ⟨n, rfl⟩ : ∃ n', n = n' + 1 := ⟨n - 1, by omega⟩
    have hnum := mx_number (i := 0) (j := j) (by decide) (by omega) F A
    rw [nI_0, Nat.mul_zero, Nat.zero_add] at hnum
    rw [f_M_keep_L62, if_neg (show ¬ (3 : Int32) ≤ nI j from nI_ge (b := 3) (by omega) (by omega)), hnum, ra_bi_s, ra_g_in (by omega) (by decide), nI_clamp (by omega), ← nI_succ]
    obtain ⟨A', h1, h2, h3, h4, h5⟩ := ih (j + 1) n (va_up A 4 (upd (A 4) j (A 12 j))) (by omega) (by omega)
    refine ⟨A', h1, fun k hk hk2 => ?_, fun i hi => ?_, fun i hi hi2 => ?_, h5⟩
    · rw [h2 k hk hk2]; show (if k = 4 then _ else A k) = A k; rw [if_neg hk]
    · rw [h3 i (by omega)]; show upd (A 4) j _ i = A 4 i; unfold upd; rw [if_neg (by omega)]
    · by_cases hij : i = j
      · rw [h3 i (by omega), hij]; show upd (A 4) j _ j = _; unfold upd; rw [if_pos rfl]
      · exact h4 i (by omega) hi2
theorem mx_keep10 (F : ST_F) {N : Nat} (hN : N ≤ 100) (hF : F 2 = nI N) : ∀ (m j n : Nat) (A : ST_A), j + m = N → m < n → ∃ A', f_M_keep_L10 n (nI j) F A = some (F, A') ∧ (∀ k, 5 < k ∨ k = 0 → A' k = A k) ∧ (∀ i, i < j → A' 1 i = A 1 i ∧ A' 2 i = A 2 i ∧ A' 3 i = A 3 i) ∧ (∀ i, j ≤ i → i < N → A' 1 i = A 6 i ∧ A' 2 i = A 7 i ∧ A' 3 i = A 8 i) ∧ (∀ i, i < 3 → A' 4 i = A 12 i) ∧ ∀ i, i < 26 → A' 5 i = A 9 i := by
  intro m
  induction m with
  | zero =>
    intro j n A hj hn
    obtain ⟨n, rfl⟩ : ∃ n', n = n' + 1 := ⟨n - 1, by omega⟩
    rw [f_M_keep_L10, hF, if_pos (nI_le (by omega) (by omega))]
    obtain ⟨A', h1, h2, h3, h4, h5⟩ := mx_keep62 F 3 0 400 A (by omega) (by omega)
    exact ⟨A', h1, fun k hk => h2 k (by omega) (by omega), fun i hi => ⟨by rw [h2 1 (by decide) (by decide)], by rw [h2 2 (by decide) (by decide)], by rw [h2 3 (by decide) (by decide)]⟩, fun i h1 h2 => by omega, fun i hi => h4 i (Nat.zero_le _) hi, h5⟩
  | succ m ih =>
    intro j n A hj hn
    obtain ⟨n, rfl⟩ : ∃ n', n = n' + 1 := ⟨n - 1, by omega⟩
    rw [f_M_keep_L10, hF, if_neg (nI_ge (by omega) (by omega)), ra_g_in (by omega) (by decide), ra_g_in (by omega) (by decide), ra_g_in (by omega) (by decide), ra_g_in (by omega) (by decide), ra_g_in (by omega) (by decide), ra_g_in (by omega) (by decide), nI_clamp (by omega), ← nI_succ]
    obtain ⟨A', h1, h2, h3, h4, h5, h6⟩ := ih (j + 1) n (va_up (va_up (va_up A 1 (upd (A 1) j (A 6 j))) 2 (upd (A 2) j (A 7 j))) 3 (upd (A 3) j (A 8 j))) (by omega) (by omega)
    refine ⟨A', h1, fun k hk => ?_, fun i hi => ?_, fun i hi hi2 => ?_, h5, h6⟩
    · rw [h2 k hk]; show (if k = 3 then _ else (if k = 2 then _ else (if k = 1 then _ else A k))) = A k; rw [if_neg (by omega), if_neg (by omega), if_neg (by omega)]
    · obtain ⟨q1, q2, q3⟩ := h3 i (by omega)
      rw [q1, q2, q3]
      show upd (A 1) j _ i = A 1 i ∧ upd (A 2) j _ i = A 2 i ∧ upd (A 3) j _ i = A 3 i
      unfold upd
      rw [if_neg (by omega), if_neg (by omega), if_neg (by omega)]
      exact ⟨rfl, rfl, rfl⟩
    · by_cases hij : i = j
      · obtain ⟨q1, q2, q3⟩ := h3 i (by omega)
        rw [q1, q2, q3, hij]
        show upd (A 1) j _ j = _ ∧ upd (A 2) j _ j = _ ∧ upd (A 3) j _ j = _
        unfold upd
        rw [if_pos rfl, if_pos rfl, if_pos rfl]
        exact ⟨rfl, rfl, rfl⟩
      · exact h4 i (by omega) hi2
/-- the text's end -/
theorem ra_g0 {ρ : Type} {n : Nat} (h : 0 < n) (hn : n < 2 ^ 31) (k : Option ρ) : ra_g (0 : Int32) n k = k := ra_g_in (j := 0) h hn k
theorem mx_end (fu : Nat) {vs : List px_V} {L : px_L} {F : ST_F} {A : ST_A} (h : mx_C len n0 A0 vars at_ vs ws op tg F A) (hD : mx_D L false F A) (hG : mx_G 1 vs ws op) (htg : ∀ l, tg = some l → l < 25) (x1 : Int32) {r : Option px_R} (hr : px_k (px_settle true ws vs L) (fun q => some (px_end tg vars q)) = some r) : mx_E n0 A0 (f_M_compile_J103 fu x1 F A) r := by
  have hF5 : F 5 = 0 := hD.2.1
  unfold f_M_compile_J103
  rw [if_pos hF5]
  have hJ147 : ∀ (F1 : ST_F) (A1 : ST_A), mx_K n0 A0 F1 A1 → mx_E n0 A0 (f_M_compile_J147 fu x1 F1 A1) none := fun F1 A1 hK => by
    refine ⟨upd F1 5 1, A1, ?_, hK⟩
    unfold f_M_compile_J147 f_M_compile_J152 ra_zb
    rw [if_pos (Or.inr rfl), if_neg (by decide), if_neg (by decide)]
  rcases mx_settle true h hD hG with ⟨ws', vs', L', F', A', e1, e2, e3, e4, e5, e6, e7⟩ | ⟨e1, F', A', e2, e3⟩
  · rw [e1, px_k_some] at hr
    rw [show (1 : Int32) = (if true = true then 1 else 0) from rfl, e2, ra_bv_s]
    have hF5' : F' 5 = 0 := e4.2.1
    obtain ⟨⟨k1, k2, k3, k4, k5, k6⟩, hK, ⟨h3, h3'⟩, hV, h5, h6, h7⟩ := e3
    unfold f_M_compile_J115
    rw [if_pos hF5', k4, k6]
    cases ws' with
    | cons w t =>
      have hr2 : r = none := by
        have : some (px_end tg vars (w :: t, vs', L')) = some r := hr
        cases this
        rfl
      rw [hr2, List.length_cons, if_pos (show (0 : Int32) < nI (t.length + 1) from nI_lt (a := 0) (by omega) (by rw [List.length_cons] at h3'; omega))]
      exact hJ147 F' A' hK
    | nil =>
      rw [if_neg (show ¬ (0 : Int32) < nI ([] : List (Int32 × Nat)).length from by decide)]
      obtain ⟨g1, g2, g3⟩ := e5
      match vs', g1, hV, hr with
      | [], g1, _, _ => exact absurd g1 (by simp [mx_cnt])
      | _ :: _ :: _, g1, _, _ => exact absurd g1 (by simp [mx_cnt])
      | [v], _, hV, hr =>
        have hr2 : r = if tg = none ∧ v.length = 3 then some (v, L', vars) else none := by
          have : some (px_end tg vars ([], [v], L')) = some r := hr
          cases this
          rfl
        have v4 := hV.1.1.2
        cases tg with
        | some l =>
          have hr3 : r = none := by rw [hr2, if_neg (fun z => (nomatch z.1))]
          have hl := htg l rfl
          rw [hr3, if_pos (show (0 : Int32) ≤ mx_tg (some l) from nI_pos' (by omega))]
          exact hJ147 F' A' hK
        | none =>
          rw [if_neg (show ¬ (0 : Int32) ≤ mx_tg none from by decide), ra_g0 (by decide) (by decide)]
          have h11 : A' 11 (0 : Int32).toNatClampNeg = nI v.length := hV.1.2.1
          rw [h11]
          by_cases c3 : v.length = 3
          · have hr3 : r = some (v, L', vars) := by rw [hr2, if_pos ⟨rfl, c3⟩]
            rw [hr3, if_pos (by rw [c3]; rfl)]
            unfold f_M_compile_J152 ra_zb
            rw [if_pos (Or.inl rfl), if_pos rfl, upd_same hF5']
            unfold f_M_keep
            obtain ⟨A2, q1, q2, q3, q4, q5, q6⟩ := mx_keep10 (upd F' 2 (F' 3)) (N := L'.length) e4.2.2.1 (by show F' 3 = _; exact e4.1) L'.length 0 400 A' (by omega) (by have := e4.2.2.1; omega)
            rw [nI_0] at q1
            rw [q1, ra_bv_s, if_pos (show upd F' 2 (F' 3) 5 = 0 from hF5')]
            refine ⟨_, _, rfl, hK.1.2, e4.1, e4.2.2.1, fun k i hi => ?_, fun i hi => ?_, fun j hj => ?_, ?_, ?_⟩
            · obtain ⟨hlt, _⟩ := List.getElem?_eq_some_iff.mp hi
              obtain ⟨s1, s2, s3⟩ := q4 k (Nat.zero_le _) hlt
              rw [s1, s2, s3]
              exact e4.2.2.2 k i hi
            · rw [q5 i hi]
              have := hV.1.2.2 i (by omega)
              rw [List.length_nil, Nat.mul_zero, Nat.zero_add] at this
              exact this
            · rw [q6 j hj]
              exact h6 j hj
            · rw [q2 0 (Or.inr rfl)]; exact hK.2 0 (Or.inl (by decide))
            · rw [q2 16 (Or.inl (by decide))]; exact hK.2 16 (Or.inr rfl)
          · have hr3 : r = none := by rw [hr2, if_neg (fun z => c3 z.2)]
            rw [hr3, if_neg (c := nI v.length = (3 : Int32)) (fun z => c3 ((nI_eqI (b := 3) (by omega) (by omega)).mp z))]
            exact hJ147 F' A' hK
  · rw [e1, px_k_none] at hr
    cases hr
    rw [show (1 : Int32) = (if true = true then 1 else 0) from rfl, e2, ra_bv_s]
    unfold f_M_compile_J115
    rw [if_neg (by rw [e3.1]; decide)]
    exact hJ147 F' A' e3.2.1
end MX
