/-! the reference's letter, finish, operand -/
section MX
variable {ch : Nat → Int32} {len : Nat} {n0 : ST_F} {A0 : ST_A} {vars : Nat → Option px_V} {at_ op : Nat} {ws : List (Int32 × Nat)} {tg : Option Nat}
theorem mx_j65 {vs : List px_V} {L : px_L} {F : ST_F} {A : ST_A} (h : mx_C len n0 A0 vars at_ vs ws op tg F A) (hD : mx_D L false F A) (hv : vs.length < 80) (x1 z0 : Int32) : mx_Q len n0 A0 vars at_ vs ws op tg (f_M_letter_J65 x1 z0 1 0 F A) (px_puts L [(1, z0, 0)]) := by
  unfold f_M_letter_J65
  obtain ⟨r, L1, w1, F1, A1, p1, p2, p3, p4, p5⟩ := mx_put hD (1, z0, 0)
  dsimp only at p1
  rw [p1, ra_bi_s, show (0 : Int32) = nI 0 from rfl, ra_g_in (by decide) (by decide), ra_bvi]
  have h6 : F1 6 = nI vs.length := by rw [p3.1 6 (by decide) (by decide)]; exact h.1.2.2.1
  obtain ⟨F3, A3, k1, k2, k3⟩ := mx_pushed (v := [r]) h h.2.2.2.1 hv ⟨by simp, by simp⟩ (p3.made (upd (A1 15) 0 (nI r))) (p2.made (upd (A1 15) 0 (nI r))) (fun j hj => by
    have : j = 0 := by simpa using hj
    subst this
    rfl)
  rw [upd_same h6] at k1
  exact mx_Q.of (p5.bind cx_k.rf) k1 k2 k3
theorem mx_l148 {c : Int32} {k : Nat} (hc : c - 97 = nI k) (hk : k < 26) (F : ST_F) : ∀ (m j n : Nat) (A : ST_A), j + m = 4 → m < n → ∃ A', f_M_letter_L148 n c (nI j) F A = f_M_pushMade (A 9 k) F A' ∧ (∀ q, q ≠ 15 → A' q = A q) ∧ (∀ q, q < j → A' 15 q = A 15 q) ∧ ∀ q, j ≤ q → q < 4 → A' 15 q = A 10 (4 * k + q) := by
  intro m
  induction m with
  | zero =>
    intro j n A hj hn
    obtain ⟨n, rfl⟩ : ∃ n', n = n' + 1 := ⟨n - 1, by omega⟩
    rw [f_M_letter_L148, if_pos (show (4 : Int32) ≤ nI j from nI_le (a := 4) (by omega) (by omega)), hc, ra_g_in hk (by decide), nI_clamp (by omega), ra_bvi]
    exact ⟨A, rfl, fun _ _ => rfl, fun _ _ => rfl, fun q h1 h2 => by omega⟩
  | succ m ih =>
    intro j n A hj hn
    obtain ⟨n, rfl⟩ : ∃ n', n = n' + 1 := ⟨n - 1, by omega⟩
    rw [f_M_letter_L148, if_neg (show ¬ (4 : Int32) ≤ nI j from nI_ge (b := 4) (by omega) (by omega)), hc, show (4 : Int32) = nI 4 from rfl, pk_mul, nI_add, ra_g_in (by omega) (by decide), ra_g_in (by omega) (by decide), nI_clamp (by omega), nI_clamp (by omega), ← nI_succ]
    obtain ⟨A', e1, e2, e3, e4⟩ := ih (j + 1) n (va_up A 15 (upd (A 15) j (A 10 (4 * k + j)))) (by omega) (by omega)
    refine ⟨A', e1, fun q hq => ?_, fun q hq => ?_, fun q h1 h2 => ?_⟩
    · rw [e2 q hq]; show (if q = 15 then _ else A q) = A q; rw [if_neg hq]
    · rw [e3 q (by omega)]; show upd (A 15) j _ q = _; unfold upd; rw [if_neg (by omega)]
    · by_cases hqj : q = j
      · rw [hqj, e3 j (by omega)]; show upd (A 15) j _ j = _; unfold upd; rw [if_pos rfl]
      · exact e4 q (by omega) h2
theorem mx_letter (hT : mx_T ch len A0) {vs : List px_V} {L : px_L} {F : ST_F} {A : ST_A} (h : mx_C len n0 A0 vars at_ vs ws op tg F A) (hD : mx_D L false F A) (hv : vs.length < 80) (ha : at_ ≤ len) (hs : px_small (ch at_) = true) (h25 : vars 25 = none) : mx_Q len n0 A0 vars (at_ + 1) vs ws op tg (f_M_letter F A) (px_letter vars (ch at_) L) := by
  have hl := hT.1.1
  have h4 : F 4 = nI at_ := h.1.2.1
  have h1 : F 1 = nI len := h.1.1
  have h0 : A 0 = A0 0 := h.2.1.2 0 (Or.inl (by decide))
  have hC := h.go (at_ + 1)
  have hD' : mx_D L false (upd F 4 (nI (at_ + 1))) A := hD.go _
  have hno : mx_Q len n0 A0 vars (at_ + 1) vs ws op tg (some (upd (upd F 4 (nI (at_ + 1))) 5 1, A)) none := mx_Q.no hC hD'
  unfold f_M_letter px_letter
  rw [h4, mx_look hT h1 h0 (by omega), ra_bi_s, h4, ← nI_succ]
  generalize hc : ch at_ = c at hs ⊢
  by_cases c1 : c = 120
  · rw [if_pos c1, if_pos c1]
    unfold f_M_letter_J37
    rw [if_pos c1]
    exact mx_j65 hC hD' hv c 0
  · rw [if_neg c1, if_neg c1]
    by_cases c2 : c = 121
    · rw [if_pos c2, if_pos c2]
      unfold f_M_letter_J37
      rw [if_neg c1, if_pos c2]
      exact mx_j65 hC hD' hv c 1
    · rw [if_neg c2, if_neg c2]
      by_cases c3 : c = 116
      · rw [if_pos c3, if_pos c3]
        unfold f_M_letter_J37
        rw [if_neg c1, if_neg c2]
        exact mx_j65 hC hD' hv c 2
      · rw [if_neg c3, if_neg c3]
        by_cases c4 : c = 99
        · rw [if_pos c4, if_pos c4]
          obtain ⟨w', L', wr', F', A', e1, e2, e3, e4, e5, e6⟩ := mx_loop0 (T := 3) (by decide) (g := fun n j F A => f_M_letter_L86 n c j F A) (kx := fun F A => f_M_pushMade 3 F A) (f := fun i => (1, nI (3 + i), 0)) (F0 := upd F 4 (nI (at_ + 1))) (B0 := A) (fun n F1 A1 hfr => by
            show f_M_letter_L86 (n + 1) c (nI 3) F1 A1 = _
            rw [f_M_letter_L86, if_pos (by decide), ra_bvi]) (fun n j F1 A1 hj hfr => by
            show f_M_letter_L86 (n + 1) c (nI j) F1 A1 = _
            rw [f_M_letter_L86, if_neg (show ¬ (3 : Int32) ≤ nI j from nI_ge (b := 3) (by omega) (by omega)), show (3 : Int32) + nI j = nI (3 + j) from nI_add 3 j]) hD'
          have h6 : F' 6 = nI vs.length := by rw [e3.1 6 (by decide) (by decide)]; exact h.1.2.2.1
          obtain ⟨F3, A3, k1, k2, k3⟩ := mx_pushed (v := w') hC h.2.2.2.1 hv ⟨by omega, by omega⟩ e3 e2 (by rw [e4]; exact e5)
          rw [upd_same h6, e4] at k1
          exact mx_Q.of e6 (e1.trans k1) k2 k3
        · rw [if_neg c4, if_neg c4]
          by_cases c5 : c = 122
          · rw [if_pos c5]
            have hix : px_ix c = 25 := by rw [c5]; decide
            rw [hix, h25]
            exact hno
          · obtain ⟨i1, i2⟩ := cx_ix hs
            rw [if_neg c5, i1, ra_g_in i2 (by decide), nI_clamp (by omega), h.2.2.2.2.2.1 _ i2]
            cases hvv : vars (px_ix c) with
            | none =>
              rw [show cx_ty none = 0 from rfl, if_pos rfl]
              exact hno
            | some v =>
              obtain ⟨v1, v2⟩ := h.2.2.2.2.2.2 _ v i2 hvv
              have v3 := v1.1
              have v4 := v1.2
              rw [show cx_ty (some v) = nI v.length from rfl, if_neg (nI_ne0 (by omega) (by omega))]
              obtain ⟨A', e1, e2, e3, e4⟩ := mx_l148 i1 i2 (upd F 4 (nI (at_ + 1))) 4 0 400 A (by omega) (by omega)
              rw [nI_0] at e1
              rw [e1, h.2.2.2.2.2.1 _ i2, hvv, show cx_ty (some v) = nI v.length from rfl]
              obtain ⟨F3, A3, k1, k2, k3⟩ := mx_pushed (v := v) (F1 := upd F 4 (nI (at_ + 1))) (A1 := A') (L' := L) (w' := false) hC h.2.2.2.1 hv v1 ⟨fun _ _ _ => rfl, fun q _ _ _ hq => e2 q hq⟩ ⟨hD'.1, hD'.2.1, hD'.2.2.1, fun k i hi => by rw [e2 6 (by decide), e2 7 (by decide), e2 8 (by decide)]; exact hD'.2.2.2 k i hi⟩ (fun j hj => by rw [e4 j (Nat.zero_le _) (by omega), v2 j hj])
              rw [upd_same (F := upd F 4 (nI (at_ + 1))) (k := 6) h.1.2.2.1] at k1
              exact mx_Q.of (w' := false) (v := v) (L' := L) cx_k.rf k1 k2 k3
/-- signs that waited -/
def mx_U (len : Nat) (n0 : ST_F) (A0 : ST_A) (vars : Nat → Option px_V) (at_ : Nat) (rest : List px_V) (ws : List (Int32 × Nat)) (op : Nat) (tg : Option Nat) (res : Option (ST_F × ST_A)) (p : Option (px_V × px_L × List (Int32 × Nat))) : Prop :=
  (∃ v L' ws' F' A', p = some (v, L', ws') ∧ res = some (F', A') ∧ mx_C len n0 A0 vars at_ (v :: rest) ws' op tg F' A' ∧ mx_D L' false F' A' ∧ mx_cnt ws' = mx_cnt ws ∧ mx_br ws' = mx_br ws ∧ (∀ w ∈ ws', w ∈ ws) ∧ ws'.length ≤ ws.length) ∨ (p = none ∧ ∃ F' A', res = some (F', A') ∧ mx_X n0 A0 F' A')
theorem mx_209x {F : ST_F} {A : ST_A} (h : mx_X n0 A0 F A) (n : Nat) (u : Int32) : f_M_finish_L209 (n + 1) u F A = some (F, A) := by
  rw [f_M_finish_L209, if_neg (by rw [h.1]; decide)]
theorem mx_unneg {rest : List px_V} (u : Int32) : ∀ (ws : List (Int32 × Nat)) (v : px_V) (L : px_L) (n : Nat) (F : ST_F) (A : ST_A), mx_C len n0 A0 vars at_ (v :: rest) ws op tg F A → mx_D L false F A → ws.length < n → mx_U len n0 A0 vars at_ rest ws op tg (f_M_finish_L209 n u F A) (px_unneg ws v L) := by
  intro ws
  induction ws with
  | nil =>
    intro v L n F A h hD hn
    obtain ⟨n, rfl⟩ : ∃ n', n = n' + 1 := ⟨n - 1, by omega⟩
    have ht := mx_top h
    have hF5 : F 5 = 0 := hD.2.1
    dsimp only [mx_tp] at ht
    rw [f_M_finish_L209, if_pos hF5, ht, ra_bi_s, if_neg (by decide)]
    exact Or.inl ⟨v, L, [], F, A, rfl, rfl, h, hD, rfl, rfl, fun w hw => hw, Nat.le_refl _⟩
  | cons w ws ih =>
    intro v L n F A h hD hn
    rw [List.length_cons] at hn
    obtain ⟨n, rfl⟩ : ∃ n', n = n' + 1 := ⟨n - 1, by omega⟩
    have ht := mx_top h
    have hF5 : F 5 = 0 := hD.2.1
    dsimp only [mx_tp] at ht
    rw [f_M_finish_L209, if_pos hF5, ht, ra_bi_s, px_unneg]
    by_cases c : w.1 = 126
    · rw [if_pos c, if_pos c]
      have hn0 : mx_n w = 0 := by unfold mx_n; rw [c]; rfl
      have hb0 : mx_b w = 0 := by unfold mx_b; rw [c]; rfl
      rcases mx_each h.pop hD 9 with ⟨v', L', F', A', e1, e2, e3, e4⟩ | ⟨e1, F', A', e2, e3⟩
      · rw [e1, e2, ra_bv_s, Option.bind_some]
        rcases ih v' L' n F' A' e3 e4 (by omega) with ⟨v2, L2, ws2, F2, A2, q1, q2, q3, q4, q5, q6, q7, q8⟩ | q
        · exact Or.inl ⟨v2, L2, ws2, F2, A2, q1, q2, q3, q4, by rw [q5]; unfold mx_cnt; rw [hn0, Nat.zero_add]; cases ws <;> rfl, by rw [q6]; unfold mx_br; rw [hb0, Nat.zero_add]; cases ws <;> rfl, fun w hw => List.mem_cons_of_mem _ (q7 w hw), by rw [List.length_cons]; omega⟩
        · exact Or.inr q
      · rw [e1, e2, ra_bv_s]
        obtain ⟨n, rfl⟩ : ∃ n', n = n' + 1 := ⟨n - 1, by omega⟩
        exact Or.inr ⟨rfl, F', A', mx_209x e3 n u, e3⟩
    · rw [if_neg c, if_neg c]
      exact Or.inl ⟨v, L, w :: ws, F, A, rfl, rfl, h, hD, rfl, rfl, fun w hw => hw, Nat.le_refl _⟩
theorem mx_p62 (hT : mx_T ch len A0) {v : px_V} (hv4 : v.length ≤ 4) {i : Nat} (hi : i < 80) {F : ST_F} (h1 : F 1 = nI len) (h5 : F 5 = 0) (at_ : Nat) (ha : at_ ≤ len) : ∀ (m j n : Nat) (A : ST_A), j + m = 3 → m < n → at_ + j ≤ len → A 0 = A0 0 → A 11 i = nI v.length → (∀ q, q < v.length → A 12 (4 * i + q) = nI (v.getD q 0)) →
    ((∀ q ∈ px_places ch m (at_ + j), q < v.length) ∧ ∃ A', f_M_finish_L62 n 0 (nI i) (nI j) (upd F 4 (nI (at_ + j))) A = f_M_finish_J172 0 (nI i) (nI (j + (px_places ch m (at_ + j)).length)) (upd F 4 (nI (at_ + j + (px_places ch m (at_ + j)).length))) A' ∧ (∀ q, q ≠ 15 → A' q = A q) ∧ (∀ q, q < j → A' 15 q = A 15 q) ∧ ∀ q, q < (px_places ch m (at_ + j)).length → A' 15 (j + q) = nI (v.getD ((px_places ch m (at_ + j)).getD q 0) 0)) ∨ ((∃ q ∈ px_places ch m (at_ + j), v.length ≤ q) ∧ ∃ F' A', f_M_finish_L62 n 0 (nI i) (nI j) (upd F 4 (nI (at_ + j))) A = some (F', A') ∧ F' 5 = 1 ∧ (∀ q, q ≠ 4 → q ≠ 5 → F' q = F q) ∧ ∀ q, q ≠ 15 → A' q = A q) := by
  have hl := hT.1.1
  intro m
  induction m with
  | zero =>
    intro j n A hj hn haj h0 h11 h12
    obtain ⟨n, rfl⟩ : ∃ n', n = n' + 1 := ⟨n - 1, by omega⟩
    refine Or.inl ⟨fun q hq => absurd hq List.not_mem_nil, A, ?_, fun _ _ => rfl, fun _ _ => rfl, fun q hq => absurd hq (Nat.not_lt_zero q)⟩
    rw [f_M_finish_L62, if_pos (show upd F 4 (nI (at_ + j)) 5 = 0 from h5), if_pos (show (3 : Int32) ≤ nI j from nI_le (a := 3) (by omega) (by omega))]
    rfl
  | succ m ih =>
    intro j n A hj hn haj h0 h11 h12
    obtain ⟨n, rfl⟩ : ∃ n', n = n' + 1 := ⟨n - 1, by omega⟩
    have hlk : f_M_look (upd F 4 (nI (at_ + j)) 4) (upd F 4 (nI (at_ + j))) A = some (ch (at_ + j), upd F 4 (nI (at_ + j)), A) := mx_look hT (F := upd F 4 (nI (at_ + j))) h1 h0 (k := at_ + j) (by omega)
    rw [f_M_finish_L62, if_pos (show upd F 4 (nI (at_ + j)) 5 = 0 from h5), if_neg (show ¬ (3 : Int32) ≤ nI j from nI_ge (b := 3) (by omega) (by omega)), hlk, ra_bi_s]
    have hno : ¬ px_plc (ch (at_ + j)) = true → px_places ch (m + 1) (at_ + j) = [] := fun c => by rw [px_places, if_neg c]
    have hend : ¬ px_plc (ch (at_ + j)) = true → ∀ (res : Option (ST_F × ST_A)), res = f_M_finish_J172 0 (nI i) (nI j) (upd F 4 (nI (at_ + j))) A → ((∀ q ∈ px_places ch (m + 1) (at_ + j), q < v.length) ∧ ∃ A', res = f_M_finish_J172 0 (nI i) (nI (j + (px_places ch (m + 1) (at_ + j)).length)) (upd F 4 (nI (at_ + j + (px_places ch (m + 1) (at_ + j)).length))) A' ∧ (∀ q, q ≠ 15 → A' q = A q) ∧ (∀ q, q < j → A' 15 q = A 15 q) ∧ ∀ q, q < (px_places ch (m + 1) (at_ + j)).length → A' 15 (j + q) = nI (v.getD ((px_places ch (m + 1) (at_ + j)).getD q 0) 0)) ∨ ((∃ q ∈ px_places ch (m + 1) (at_ + j), v.length ≤ q) ∧ ∃ F' A', res = some (F', A') ∧ F' 5 = 1 ∧ (∀ q, q ≠ 4 → q ≠ 5 → F' q = F q) ∧ ∀ q, q ≠ 15 → A' q = A q) := by
      intro c res e
      rw [hno c]
      exact Or.inl ⟨fun q hq => absurd hq List.not_mem_nil, A, e, fun _ _ => rfl, fun _ _ => rfl, fun q hq => absurd hq (Nat.not_lt_zero q)⟩
    by_cases c1 : ch (at_ + j) < 120
    · rw [if_pos c1]
      exact hend (fun z => by unfold px_plc at z; simp at z; exact absurd c1 (Int32.not_lt.mpr z.1)) _ rfl
    · rw [if_neg c1, hlk, ra_bi_s]
      by_cases c2 : (122 : Int32) < ch (at_ + j)
      · rw [if_pos c2]
        exact hend (fun z => by unfold px_plc at z; simp at z; exact absurd c2 (Int32.not_lt.mpr z.2)) _ rfl
      · have hp : px_plc (ch (at_ + j)) = true := by
          unfold px_plc
          simp [Int32.not_lt.mp c1, Int32.not_lt.mp c2]
        have hat : at_ + j < len := pxf_plcl hT.1.2.1 hp
        obtain ⟨x, hx, e1, e2⟩ := cx_plc hp
        rw [if_neg c2, hlk, ra_bi_s, ra_g_in hi (by decide), nI_clamp (by omega), h11, e1, px_places, if_pos hp, e2]
        have n3 : ¬ (3 : Int32) ≤ nI x := nI_ge (b := 3) hx (by decide)
        by_cases c3 : x < v.length
        · rw [if_pos (nI_lt c3 (by omega)), if_neg n3]
          rw [upd_same (F := upd F 4 (nI (at_ + j))) (k := 5) (x := 0) h5, mx_number hi (by omega), ra_bi_s, ra_g_in (by omega) (by decide), nI_clamp (by omega), h12 x c3, upd_upd]
          have hgo : upd F 4 (upd F 4 (nI (at_ + j)) 4 + 1) = upd F 4 (nI (at_ + (j + 1))) := by
            show upd F 4 (nI (at_ + j) + 1) = _
            rw [← nI_succ]; rfl
          rw [hgo, ← nI_succ]
          rcases ih (j + 1) n (va_up A 15 (upd (A 15) j (nI (v.getD x 0)))) (by omega) (by omega) (by omega) h0 h11 h12 with ⟨q1, A', q2, q3, q4, q5⟩ | ⟨⟨y, hy, hy2⟩, F', A', q2, q3, q4, q5⟩
          · refine Or.inl ⟨fun q hq => ?_, A', ?_, fun q hq => ?_, fun q hq => ?_, fun q hq => ?_⟩
            · rcases List.mem_cons.mp hq with e | e
              · rw [e]; exact c3
              · exact q1 q e
            · rw [q2, List.length_cons]
              rw [show at_ + (j + 1) = at_ + j + 1 by omega, show j + 1 + (px_places ch m (at_ + j + 1)).length = j + ((px_places ch m (at_ + j + 1)).length + 1) by omega, show at_ + j + 1 + (px_places ch m (at_ + j + 1)).length = at_ + j + ((px_places ch m (at_ + j + 1)).length + 1) by omega]
            · rw [q3 q hq]; show (if q = 15 then _ else A q) = A q; rw [if_neg hq]
            · rw [q4 q (by omega)]; show upd (A 15) j _ q = _; unfold upd; rw [if_neg (by omega)]
            · cases q with
              | zero => rw [q4 (j + 0) (by omega)]; show upd (A 15) j _ j = _; unfold upd; rw [if_pos rfl]; rfl
              | succ q =>
                have := q5 q (by rw [List.length_cons] at hq; rw [show at_ + (j + 1) = at_ + j + 1 by omega]; omega)
                rw [show j + 1 + q = j + (q + 1) by omega, show at_ + (j + 1) = at_ + j + 1 by omega] at this
                rw [this]
                rfl
          · refine Or.inr ⟨⟨y, List.mem_cons_of_mem _ hy, hy2⟩, F', A', q2, q3, q4, fun q hq => ?_⟩
            rw [q5 q hq]; show (if q = 15 then _ else A q) = A q; rw [if_neg hq]
        · rw [if_neg (nI_nlt (by omega) (by omega)), if_neg n3, mx_number hi (by omega), ra_bi_s, ra_g_in (by omega) (by decide), nI_clamp (by omega)]
          obtain ⟨n, rfl⟩ : ∃ n', n = n' + 1 := ⟨n - 1, by omega⟩
          refine Or.inr ⟨⟨x, List.mem_cons_self, by omega⟩, ?_⟩
          rw [f_M_finish_L62, if_neg (show ¬ upd (upd (upd F 4 (nI (at_ + j))) 5 1) 4 (upd (upd F 4 (nI (at_ + j))) 5 1 4 + 1) 5 = 0 from by show ¬ (1 : Int32) = 0; decide)]
          unfold f_M_finish_J172
          rw [if_neg (show ¬ upd (upd (upd F 4 (nI (at_ + j))) 5 1) 4 (upd (upd F 4 (nI (at_ + j))) 5 1 4 + 1) 5 = 0 from by show ¬ (1 : Int32) = 0; decide)]
          unfold f_M_finish_J184 f_M_finish_J189 ra_zb
          rw [if_pos (Or.inr rfl), if_neg (by decide), f_M_finish_L209, if_neg (by show ¬ (1 : Int32) = 0; decide)]
          refine ⟨_, _, rfl, rfl, fun q h4 h5 => ?_, fun q hq => ?_⟩
          · show (if q = 5 then _ else (if q = 4 then _ else (if q = 5 then _ else (if q = 4 then _ else F q)))) = F q
            rw [if_neg h5, if_neg h4, if_neg h5, if_neg h4]
          · show (if q = 15 then _ else A q) = A q
            rw [if_neg hq]
/-- finish of a letter or a bracket -/
def px_done (ch : Nat → Int32) (ws : List (Int32 × Nat)) (v : px_V) (at_ : Nat) (L : px_L) : Option (Nat × px_V × px_L × List (Int32 × Nat)) := (px_pick ch v at_).bind fun s => (px_unneg ws s.1 L).bind fun q => some (s.2, q)
def mx_Y (len : Nat) (n0 : ST_F) (A0 : ST_A) (vars : Nat → Option px_V) (at_ : Nat) (rest : List px_V) (ws : List (Int32 × Nat)) (op : Nat) (tg : Option Nat) (res : Option (ST_F × ST_A)) (p : Option (Nat × px_V × px_L × List (Int32 × Nat))) : Prop :=
  (∃ at' v L' ws' F' A', p = some (at', v, L', ws') ∧ res = some (F', A') ∧ mx_C len n0 A0 vars at' (v :: rest) ws' op tg F' A' ∧ mx_D L' false F' A' ∧ mx_cnt ws' = mx_cnt ws ∧ mx_br ws' = mx_br ws ∧ (∀ w ∈ ws', w ∈ ws) ∧ ws'.length ≤ ws.length ∧ at_ ≤ at' ∧ at' ≤ len) ∨ (p = none ∧ ∃ F' A', res = some (F', A') ∧ mx_X n0 A0 F' A')
theorem mx_U.y {rest : List px_V} {res : Option (ST_F × ST_A)} {p : Option (px_V × px_L × List (Int32 × Nat))} {a0 : Nat} (h : mx_U len n0 A0 vars at_ rest ws op tg res p) (h1 : a0 ≤ at_) (h2 : at_ ≤ len) : mx_Y len n0 A0 vars a0 rest ws op tg res (p.bind fun q => some (at_, q)) := by
  rcases h with ⟨v, L', ws', F', A', q1, q2, q3, q4, q5, q6, q7, q8⟩ | ⟨q1, q2⟩
  · exact Or.inl ⟨at_, v, L', ws', F', A', by rw [q1]; rfl, q2, q3, q4, q5, q6, q7, q8, h1, h2⟩
  · exact Or.inr ⟨by rw [q1]; rfl, q2⟩
theorem mx_finish0 (hT : mx_T ch len A0) {rest : List px_V} {v : px_V} {L : px_L} {F : ST_F} {A : ST_A} (h : mx_C len n0 A0 vars at_ (v :: rest) ws op tg F A) (hD : mx_D L false F A) (ha : at_ ≤ len) : mx_Y len n0 A0 vars at_ rest ws op tg (f_M_finish 0 F A) (px_done ch ws v at_ L) := by
  have hl := hT.1.1
  have h4 : F 4 = nI at_ := h.1.2.1
  have h1 : F 1 = nI len := h.1.1
  have h0 : A 0 = A0 0 := h.2.1.2 0 (Or.inl (by decide))
  have hF5 : F 5 = 0 := hD.2.1
  have hws : ws.length ≤ 170 := h.2.2.1.2
  have h6 : F 6 = nI (rest.length + 1) := h.1.2.2.1
  have h80 : rest.length + 1 ≤ 80 := h.2.2.1.1
  obtain ⟨⟨v1, v2, v3⟩, hr⟩ := h.2.2.2.1
  have v4 := v1.2
  have hXX : ∀ F' : ST_F, F' 5 = 1 → (∀ q, q ≠ 4 → q ≠ 5 → q ≠ 6 → F' q = F q) → ∀ A' : ST_A, (∀ q, q ≠ 15 → A' q = A q) → mx_X n0 A0 F' A' := fun F' e1 e2 A' e3 => ⟨e1, ⟨⟨by rw [e2 2 (by decide) (by decide) (by decide)]; exact h.2.1.1.1, by rw [e2 1 (by decide) (by decide) (by decide)]; exact h.2.1.1.2⟩, fun k hk => by rw [e3 k (by omega)]; exact h.2.1.2 k hk⟩, ws.length, hws, by rw [e2 7 (by decide) (by decide) (by decide)]; exact h.1.2.2.2.1⟩
  unfold f_M_finish px_done px_pick
  rw [if_pos hF5, h4, mx_look hT h1 h0 (by omega), ra_bi_s]
  by_cases c : ch at_ = 46
  · have hat : at_ < len := pxf_eql hT.1.2.1 c (by decide)
    rw [if_pos c, if_pos rfl, if_pos c, h6, nI_pred, ra_g_in (by omega) (by decide), nI_clamp (by omega), v2, h4, ← nI_succ]
    by_cases c4 : v.length = 4
    · rw [if_pos (by rw [c4]; rfl), if_pos (Or.inl c4), f_M_finish_L62, if_neg (by show ¬ (1 : Int32) = 0; decide)]
      unfold f_M_finish_J172 f_M_finish_J184 f_M_finish_J189 ra_zb
      rw [if_neg (by show ¬ (1 : Int32) = 0; decide), if_pos (Or.inr rfl), if_neg (by decide), f_M_finish_L209, if_neg (by show ¬ (1 : Int32) = 0; decide)]
      refine Or.inr ⟨rfl, _, _, rfl, hXX _ rfl (fun q q4 q5 q6 => ?_) A (fun _ _ => rfl)⟩
      show (if q = 5 then _ else (if q = 5 then _ else (if q = 4 then _ else F q))) = F q
      rw [if_neg q5, if_neg q5, if_neg q4]
    · rw [if_neg (c := nI v.length = (4 : Int32)) (fun z => c4 ((nI_eqI (b := 4) (by omega) (by omega)).mp z)), upd_same (F := upd F 4 (nI (at_ + 1))) (k := 5) (x := 0) hF5]
      have hpl := pxf_places (ch := ch) (len := len) hT.1.2.1 3 (at_ + 1) (by omega)
      have hl3 : (px_places ch 3 (at_ + 1)).length ≤ 3 := by
        have : ∀ (m a : Nat), (px_places ch m a).length ≤ m := by
          intro m
          induction m with
          | zero => intro a; exact Nat.le_refl _
          | succ m ih =>
            intro a
            rw [px_places]
            by_cases c : px_plc (ch a) = true
            · rw [if_pos c, List.length_cons]; have := ih (a + 1); omega
            · rw [if_neg c]; exact Nat.zero_le _
        exact this 3 _
      have h62 := mx_p62 hT (v := v) v4 (i := rest.length) (by omega) (F := F) h1 hF5 (at_ + 1) (by omega) 3 0 400 A (by omega) (by omega) (by omega) h0 v2 v3
      rw [nI_0, Nat.add_zero, Nat.zero_add] at h62
      generalize px_places ch 3 (at_ + 1) = l at hpl hl3 h62 ⊢
      rcases h62 with ⟨q1, A', q2, q3, q4, q5⟩ | ⟨⟨y, hy, hy2⟩, F', A', q2, q3, q4, q5⟩
      · rw [q2]
        unfold f_M_finish_J172
        rw [if_pos (show upd F 4 (nI (at_ + 1 + l.length)) 5 = 0 from hF5)]
        by_cases cl : l = []
        · rw [if_pos (by rw [cl]; rfl), if_pos (Or.inr (Or.inl cl))]
          unfold f_M_finish_J184 f_M_finish_J189 ra_zb
          rw [if_pos (Or.inr rfl), if_neg (by decide), f_M_finish_L209, if_neg (by show ¬ (1 : Int32) = 0; decide)]
          refine Or.inr ⟨rfl, _, _, rfl, hXX _ rfl (fun q q4 q5 q6 => ?_) A' q3⟩
          show (if q = 5 then _ else (if q = 4 then _ else F q)) = F q
          rw [if_neg q5, if_neg q4]
        · have hl1 : 1 ≤ l.length := by
            rcases Nat.eq_zero_or_pos l.length with h | h
            · exact absurd (List.length_eq_zero_iff.mp h) cl
            · exact h
          have hany : ¬ (v.length = 4 ∨ l = [] ∨ l.any (fun i => decide (v.length ≤ i)) = true) := by
            rintro (e | e | e)
            · exact c4 e
            · exact cl e
            · obtain ⟨x, hx, hx2⟩ := List.any_eq_true.mp e
              have := q1 x hx
              have : v.length ≤ x := by simpa using hx2
              omega
          rw [if_neg (nI_ne0 (by omega) (by omega)), if_neg hany, Option.bind_some]
          unfold f_M_finish_J189 ra_zb
          rw [if_pos (Or.inl rfl), if_pos rfl, upd_same (F := upd F 4 (nI (at_ + 1 + l.length))) (k := 5) (x := 0) hF5]
          have hml : (l.map fun i => v.getD i 0).length = l.length := List.length_map ..
          obtain ⟨F3, A3, k1, k2, k3⟩ := mx_pushed (v := l.map fun i => v.getD i 0) (F1 := upd F 4 (nI (at_ + 1 + l.length))) (A1 := A') (L' := L) (w' := false) (h.go (at_ + 1 + l.length)) hr (by omega) ⟨by omega, by omega⟩ ⟨fun _ _ _ => rfl, fun q _ _ _ hq => q3 q hq⟩ ⟨hD.1, hD.2.1, hD.2.2.1, fun k i hi => by rw [q3 6 (by decide), q3 7 (by decide), q3 8 (by decide)]; exact hD.2.2.2 k i hi⟩ (fun j hj => by
            have := q5 j (by omega)
            rw [Nat.zero_add] at this
            rw [this, List.getD_eq_getElem?_getD (l := l.map _), List.getElem?_map, List.getD_eq_getElem?_getD (l := l), List.getElem?_eq_getElem (by omega)]
            rfl)
          rw [hml] at k1
          rw [k1, ra_bv_s]
          exact (mx_unneg 0 ws _ L 400 F3 A3 k2 k3 (by omega)).y (by omega) (by omega)
      · rw [q2, if_pos (Or.inr (Or.inr (List.any_eq_true.mpr ⟨y, hy, by simpa using hy2⟩)))]
        exact Or.inr ⟨rfl, F', A', rfl, hXX F' q3 (fun q a b _ => q4 q a b) A' q5⟩
  · rw [if_neg c, if_neg c, Option.bind_some]
    exact (mx_unneg 0 ws v L 400 F A h hD (by omega)).y (Nat.le_refl _) ha
/-- finish of a constant -/
theorem mx_finish1 (hT : mx_T ch len A0) {rest : List px_V} {v : px_V} {L : px_L} {F : ST_F} {A : ST_A} (h : mx_C len n0 A0 vars at_ (v :: rest) ws op tg F A) (hD : mx_D L false F A) (ha : at_ ≤ len) (hc : ch at_ ≠ 46) : mx_U len n0 A0 vars at_ rest ws op tg (f_M_finish 1 F A) (px_unneg ws v L) := by
  have hl := hT.1.1
  have h4 : F 4 = nI at_ := h.1.2.1
  have h1 : F 1 = nI len := h.1.1
  have h0 : A 0 = A0 0 := h.2.1.2 0 (Or.inl (by decide))
  have hF5 : F 5 = 0 := hD.2.1
  have hws : ws.length ≤ 170 := h.2.2.1.2
  unfold f_M_finish
  rw [if_pos hF5, h4, mx_look hT h1 h0 (by omega), ra_bi_s, if_neg hc]
  exact mx_unneg 1 ws v L 400 F A h hD (by omega)
theorem mx_finishX {F : ST_F} {A : ST_A} (h : mx_X n0 A0 F A) (u : Int32) : f_M_finish u F A = some (F, A) := by
  unfold f_M_finish
  rw [if_neg (by rw [h.1]; decide)]
  exact mx_209x h 399 u
theorem mx_hold {vs : List px_V} {F : ST_F} {A : ST_A} (h : mx_C len n0 A0 vars at_ vs ws op tg F A) (hw : ws.length < 170) (c : Int32) : ∃ A', f_M_hold c F A = some (upd F 7 (F 7 + 1), A') ∧ mx_C len n0 A0 vars at_ vs ((c, 1) :: ws) op tg (upd F 7 (F 7 + 1)) A' ∧ ∀ k, k ≠ 13 → k ≠ 14 → A' k = A k := by
  obtain ⟨⟨k1, k2, k3, k4, k5, k6⟩, ⟨b1, b2⟩, ⟨h3, h3'⟩, hV, h5, h6, h7⟩ := h
  unfold f_M_hold
  rw [k4, ra_g_in (by omega) (by decide), ra_g_in (by omega) (by decide), nI_clamp (by omega)]
  have hA : ∀ k, k ≠ 13 → k ≠ 14 → va_up (va_up A 13 (upd (A 13) ws.length c)) 14 (upd (A 14) ws.length 1) k = A k := fun k a b => by
    show (if k = 14 then _ else (if k = 13 then _ else A k)) = A k
    rw [if_neg b, if_neg a]
  refine ⟨_, rfl, ⟨⟨k1, k2, k3, by show nI ws.length + 1 = _; rw [← nI_succ]; rfl, k5, k6⟩, ⟨b1, fun k hk => by rw [hA k (by omega) (by omega)]; exact b2 k hk⟩, ⟨h3, by rw [List.length_cons]; omega⟩, mx_V.mono vs hV (fun _ _ => rfl) (fun _ _ => rfl), ⟨⟨?_, ?_⟩, mx_W.mono ws h5 (fun q hq => ?_) (fun q hq => ?_)⟩, h6, h7⟩, hA⟩
  · show upd (A 13) ws.length c ws.length = c; unfold upd; rw [if_pos rfl]
  · show upd (A 14) ws.length 1 ws.length = nI 1; unfold upd; rw [if_pos rfl]; rfl
  · show upd (A 13) ws.length c q = A 13 q; unfold upd; rw [if_neg (by omega)]
  · show upd (A 14) ws.length 1 q = A 14 q; unfold upd; rw [if_neg (by omega)]
end MX
