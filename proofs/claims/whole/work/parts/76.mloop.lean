/-! the reference's operand, operator, loop -/
theorem mx_br_le : ∀ (ws : List (Int32 × Nat)), mx_br ws ≤ ws.length := by
  intro ws
  induction ws with
  | nil => exact Nat.le_refl _
  | cons w ws ih =>
    unfold mx_br
    rw [List.length_cons]
    have : mx_b w ≤ 1 := by unfold mx_b; by_cases c : w.1 = 40 ∨ px_isfn w.1 = true; rw [if_pos c]; exact Nat.le_refl _; rw [if_neg c]; exact Nat.zero_le _
    omega
theorem px_cst_k {ρ : Type} (ch : Nat → Int32) (at_ : Nat) (L : px_L) (f : Nat → Nat × px_L → Option (Option ρ)) : (px_k (px_const ch at_) fun x => if px_dig (ch x.2) = true ∨ ch x.2 = 46 then some none else px_k (px_put L (0, x.1, 0)) fun r => f x.2 r) = px_k (px_cst ch at_ L) fun z => f z.1 z.2 := by
  unfold px_cst
  cases px_const ch at_ with
  | none => rfl
  | some x =>
    rw [px_k_some, Option.bind_some]
    by_cases c : px_dig (ch x.2) = true ∨ ch x.2 = 46
    · rw [if_pos c, if_pos c]; rfl
    · rw [if_neg c, if_neg c]
      cases px_put L (0, x.1, 0) <;> rfl
theorem px_done_k {ρ : Type} (ch : Nat → Int32) (ws : List (Int32 × Nat)) (v : px_V) (at_ : Nat) (L : px_L) (f : Nat → px_V × px_L × List (Int32 × Nat) → Option (Option ρ)) : (px_k (px_pick ch v at_) fun s => px_k (px_unneg ws s.1 L) fun q => f s.2 q) = px_k (px_done ch ws v at_ L) fun z => f z.1 z.2 := by
  unfold px_done
  cases px_pick ch v at_ with
  | none => rfl
  | some s =>
    rw [px_k_some, Option.bind_some]
    cases px_unneg ws s.1 L <;> rfl
section MX
variable {ch : Nat → Int32} {len : Nat} {n0 : ST_F} {A0 : ST_A} {vars : Nat → Option px_V} {at_ op : Nat} {ws : List (Int32 × Nat)} {tg : Option Nat}
def mx_J (len : Nat) (m : Nat) (at_ : Nat) (vs : List px_V) (ws : List (Int32 × Nat)) (op : Nat) (tg : Option Nat) (vars : Nat → Option px_V) : Prop := mx_G m vs ws op ∧ at_ ≤ len ∧ 2 * vs.length ≤ at_ + m ∧ ws.length ≤ at_ ∧ vars 25 = none ∧ ∀ l, tg = some l → l < 25
theorem mx_D.arr {L : px_L} {w : Bool} {F F' : ST_F} {A A' : ST_A} (h : mx_D L w F A) (h3 : F' 3 = F 3) (h5 : F' 5 = F 5) (hA : ∀ k, k = 6 ∨ k = 7 ∨ k = 8 → A' k = A k) : mx_D L w F' A' := ⟨by rw [h3]; exact h.1, by rw [h5]; exact h.2.1, h.2.2.1, fun k i hi => by rw [hA 6 (Or.inl rfl), hA 7 (Or.inr (Or.inl rfl)), hA 8 (Or.inr (Or.inr rfl))]; exact h.2.2.2 k i hi⟩
theorem mx_bracket {vs : List px_V} {L : px_L} {F : ST_F} {A : ST_A} (h : mx_C len n0 A0 vars at_ vs ws op tg F A) (hD : mx_D L false F A) (hw : ws.length < 170) (hop : op ≤ 170) (c : Int32) : (¬ 5 ≤ op ∧ ∃ F' A', f_M_bracket c F A = some (F', A') ∧ mx_C len n0 A0 vars at_ vs ((c, 1) :: ws) (op + 1) tg F' A' ∧ mx_D L false F' A') ∨ (5 ≤ op ∧ ∃ F' A', f_M_bracket c F A = some (F', A') ∧ F' 5 = 1 ∧ mx_K n0 A0 F' A') := by
  have hF5 : F 5 = 0 := hD.2.1
  have h8 : F 8 = nI op := h.1.2.2.2.2.1
  have hC2 : ∀ y, mx_C len n0 A0 vars at_ vs ws (op + 1) tg (upd (upd F 8 (nI (op + 1))) 5 y) A := fun y => by
    obtain ⟨⟨k1, k2, k3, k4, k5, k6⟩, h2⟩ := h
    exact ⟨⟨k1, k2, k3, k4, rfl, k6⟩, h2⟩
  unfold f_M_bracket
  rw [if_pos hF5, h8, ← nI_succ]
  by_cases c1 : 5 ≤ op
  · rw [if_neg (show ¬ nI (op + 1) ≤ (5 : Int32) from nI_ge (a := 5) (by omega) (by omega))]
    obtain ⟨A', e1, e2, e3⟩ := mx_hold (hC2 1) hw c
    rw [e1, ra_bv_s]
    exact Or.inr ⟨c1, _, _, rfl, rfl, e2.2.1⟩
  · rw [if_pos (show nI (op + 1) ≤ (5 : Int32) from nI_le (b := 5) (by omega) (by decide))]
    obtain ⟨A', e1, e2, e3⟩ := mx_hold (hC2 0) hw c
    rw [e1, ra_bv_s]
    exact Or.inl ⟨c1, _, _, rfl, e2, hD.arr rfl (by show (0 : Int32) = F 5; rw [hF5]) (fun k hk => e3 k (by omega) (by omega))⟩
theorem mx_begin (hT : mx_T ch len A0) {L : px_L} {F : ST_F} {A : ST_A} (h : mx_C len n0 A0 vars at_ [] [] op tg F A) (hD : mx_D L false F A) (ha : at_ ≤ len) :
    (px_asg ch at_ = true ∧ px_given (ch at_) = true ∧ ∃ F', f_M_begin F A = some (F', A) ∧ F' 5 = 1 ∧ mx_K n0 A0 F' A) ∨ (px_asg ch at_ = true ∧ ¬ px_given (ch at_) = true ∧ ∃ F', f_M_begin F A = some (F', A) ∧ mx_C len n0 A0 vars (at_ + 2) [] [] op (some (px_ix (ch at_))) F' A ∧ mx_D L false F' A ∧ at_ + 2 ≤ len ∧ px_ix (ch at_) < 25) ∨ (¬ px_asg ch at_ = true ∧ ∃ F', f_M_begin F A = some (F', A) ∧ mx_C len n0 A0 vars at_ [] [] op none F' A ∧ mx_D L false F' A) := by
  have hl := hT.1.1
  have hF5 : F 5 = 0 := hD.2.1
  obtain ⟨⟨k1, k2, k3, k4, k5, k6⟩, h2⟩ := h
  have h0 : A 0 = A0 0 := h2.1.2 0 (Or.inl (by decide))
  have hlk1 : f_M_look (F 4) (upd F 9 (-1)) A = some (ch at_, upd F 9 (-1), A) := by rw [k2]; exact mx_look hT (F := upd F 9 (-1)) k1 h0 (by omega)
  have hlk2 : f_M_look (upd F 9 (-1) 4 + 1) (upd F 9 (-1)) A = some (ch (at_ + 1), upd F 9 (-1), A) := by
    show f_M_look (F 4 + 1) (upd F 9 (-1)) A = _
    rw [k2, ← nI_succ]
    exact mx_look hT (F := upd F 9 (-1)) k1 h0 (by omega)
  have hasg : px_asg ch at_ = true ↔ px_small (ch at_) = true ∧ ch (at_ + 1) = 61 := by
    unfold px_asg
    simp
  unfold f_M_begin
  rw [hlk1, ra_bi_s, mx_isSmall]
  by_cases c1 : px_small (ch at_) = true
  · rw [if_pos c1, if_neg (by decide), hlk2, ra_bi_s]
    by_cases c2 : ch (at_ + 1) = 61
    · have hat : at_ + 1 < len := pxf_eql hT.1.2.1 c2 (by decide)
      have hasg' := hasg.mpr ⟨c1, c2⟩
      rw [if_pos c2, mx_isGiven]
      by_cases c3 : px_given (ch at_) = true
      · unfold ra_zb
        rw [if_pos c3, if_pos (Or.inr rfl)]
        exact Or.inl ⟨hasg', c3, _, rfl, rfl, h2.1⟩
      · unfold ra_zb
        rw [if_neg c3, if_pos (Or.inl rfl)]
        obtain ⟨i1, i2⟩ := cx_ix c1
        have i3 : px_ix (ch at_) ≠ 25 := fun e => by
          rw [e] at i1
          have : ch at_ = 122 := by rw [← Int32.sub_add_cancel (ch at_) 97, i1]; decide
          exact c3 (by rw [this]; decide)
        refine Or.inr (Or.inl ⟨hasg', c3, _, rfl, ⟨⟨k1, ?_, k3, k4, k5, ?_⟩, h2⟩, hD.arr rfl (by show (0 : Int32) = F 5; rw [hF5]) (fun _ _ => rfl), by omega, by omega⟩)
        · show F 4 + 2 = _
          rw [k2]
          exact nI_add at_ 2
        · show ch at_ - 97 = _
          rw [i1]
          rfl
    · rw [if_neg c2]
      exact Or.inr (Or.inr ⟨fun z => c2 (hasg.mp z).2, _, rfl, ⟨⟨k1, k2, k3, k4, k5, rfl⟩, h2⟩, hD⟩)
  · rw [if_neg c1, if_pos rfl]
    exact Or.inr (Or.inr ⟨fun z => c1 (hasg.mp z).1, _, rfl, ⟨⟨k1, k2, k3, k4, k5, rfl⟩, h2⟩, hD⟩)
theorem mx_a38 {l : Nat} (hl : l < 26) (F : ST_F) (h6 : F 6 = nI 0) (h9 : F 9 = nI l) : ∀ (m j n : Nat) (A : ST_A), j + m = 4 → m < n → ∃ A', f_M_assign_L38 n (nI j) F A = f_M_begin F A' ∧ (∀ k, k ≠ 10 → A' k = A k) ∧ (∀ q, q < 4 * l + j ∨ 4 * l + 4 ≤ q → A' 10 q = A 10 q) ∧ ∀ q, j ≤ q → q < 4 → A' 10 (4 * l + q) = A 12 q := by
  intro m
  induction m with
  | zero =>
    intro j n A hj hn
    obtain ⟨n, rfl⟩ : ∃ n', n = n' + 1 := ⟨n - 1, by omega⟩
    rw [f_M_assign_L38, if_pos (show (4 : Int32) ≤ nI j from nI_le (a := 4) (by omega) (by omega)), ra_bvi]
    exact ⟨A, rfl, fun _ _ => rfl, fun _ _ => rfl, fun q h1 h2 => by omega⟩
  | succ m ih =>
    intro j n A hj hn
    obtain ⟨n, rfl⟩ : ∃ n', n = n' + 1 := ⟨n - 1, by omega⟩
    rw [f_M_assign_L38, if_neg (show ¬ (4 : Int32) ≤ nI j from nI_ge (b := 4) (by omega) (by omega)), h6, mx_number (by decide) (by omega), ra_bi_s, h9, show (4 : Int32) = nI 4 from rfl, pk_mul, nI_add, ra_g_in (by omega) (by decide), nI_clamp (by omega), ← nI_succ, Nat.mul_zero, Nat.zero_add]
    obtain ⟨A', e1, e2, e3, e4⟩ := ih (j + 1) n (va_up A 10 (upd (A 10) (4 * l + j) (A 12 j))) (by omega) (by omega)
    refine ⟨A', e1, fun k hk => ?_, fun q hq => ?_, fun q h1 h2 => ?_⟩
    · rw [e2 k hk]; show (if k = 10 then _ else A k) = A k; rw [if_neg hk]
    · rw [e3 q (by omega)]; show upd (A 10) (4 * l + j) _ q = _; unfold upd; rw [if_neg (by omega)]
    · by_cases hqj : q = j
      · rw [hqj, e3 (4 * l + j) (by omega)]; show upd (A 10) (4 * l + j) _ (4 * l + j) = _; unfold upd; rw [if_pos rfl]
      · exact e4 q (by omega) h2
theorem mx_assign {l : Nat} (hl : l < 25) {v : px_V} {L : px_L} {F : ST_F} {A : ST_A} (h : mx_C len n0 A0 vars at_ [v] [] op (some l) F A) (hD : mx_D L false F A) : ∃ F1 A1, f_M_assign F A = f_M_begin F1 A1 ∧ mx_C len n0 A0 (px_set vars l v) at_ [] [] op (some l) F1 A1 ∧ mx_D L false F1 A1 := by
  have hF5 : F 5 = 0 := hD.2.1
  obtain ⟨⟨k1, k2, k3, k4, k5, k6⟩, ⟨b1, b2⟩, ⟨h3, h3'⟩, ⟨⟨v1, v2, v3⟩, _⟩, h5, h6, h7⟩ := h
  have v4 := v1.2
  have k3' : F 6 - 1 = nI 0 := by rw [k3]; show nI 1 - 1 = nI 0; decide
  have k6' : F 9 = nI l := k6
  unfold f_M_assign
  rw [if_pos hF5, k3', ra_g_in (by decide) (by decide), k6', ra_g_in (by omega) (by decide), nI_clamp (n := l) (by omega), nI_clamp (n := 0) (by decide)]
  have v2' : A 11 0 = nI v.length := v2
  rw [v2']
  obtain ⟨A1, e1, e2, e3, e4⟩ := mx_a38 (l := l) (by omega) (upd F 6 (nI 0)) rfl k6' 4 0 400 (va_up A 9 (upd (A 9) l (nI v.length))) (by omega) (by omega)
  rw [nI_0] at e1 ⊢
  have hA : ∀ k, k ≠ 10 → k ≠ 9 → A1 k = A k := fun k a b => by
    rw [e2 k a]
    show (if k = 9 then _ else A k) = A k
    rw [if_neg b]
  refine ⟨_, A1, e1, ⟨⟨k1, k2, rfl, k4, k5, k6⟩, ⟨b1, fun k hk => by rw [hA k (by omega) (by omega)]; exact b2 k hk⟩, ⟨Nat.zero_le _, h3'⟩, trivial, trivial, fun k hk => ?_, fun k u hk hu => ?_⟩, hD.arr rfl rfl (fun k hk => hA k (by omega) (by omega))⟩
  · rw [e2 9 (by decide)]
    show upd (A 9) l (nI v.length) k = _
    unfold upd px_set
    by_cases c : k = l
    · rw [if_pos c, if_pos c]; rfl
    · rw [if_neg c, if_neg c]; exact h6 k hk
  · unfold px_set at hu
    by_cases c : k = l
    · rw [if_pos c] at hu
      cases hu
      refine ⟨v1, fun j hj => ?_⟩
      rw [c, e4 j (Nat.zero_le _) (by omega)]
      show A 12 j = _
      have := v3 j hj
      rw [List.length_nil, Nat.mul_zero, Nat.zero_add] at this
      exact this
    · rw [if_neg c] at hu
      obtain ⟨u1, u2⟩ := h7 k u hk hu
      refine ⟨u1, fun j hj => ?_⟩
      have u3 := u1.2
      rw [e3 _ (by omega)]
      exact u2 j hj
theorem mx_topX {F : ST_F} {A : ST_A} (h : mx_X n0 A0 F A) : ∃ r, f_M_top F A = some (r, F, A) := by
  obtain ⟨_, _, k, hk, e⟩ := h
  unfold f_M_top
  rw [e]
  by_cases c : k = 0
  · rw [if_pos (by rw [c]; rfl)]
    exact ⟨_, rfl⟩
  · obtain ⟨j, rfl⟩ : ∃ j, k = j + 1 := ⟨k - 1, by omega⟩
    rw [if_neg (nI_ne0 (by omega) (by omega)), nI_pred, ra_g_in (by omega) (by decide)]
    exact ⟨_, rfl⟩
theorem mx_holdX {F : ST_F} {A : ST_A} (h : mx_X n0 A0 F A) (c : Int32) : ∃ F' A', f_M_hold c F A = some (F', A') ∧ F' 5 = 1 ∧ mx_K n0 A0 F' A' := by
  obtain ⟨h5, hK, k, hk, e⟩ := h
  unfold f_M_hold
  rw [e, ra_g_in (by omega) (by decide), ra_g_in (by omega) (by decide)]
  refine ⟨_, _, rfl, h5, hK.1, fun q hq => ?_⟩
  show (if q = 14 then _ else (if q = 13 then _ else A q)) = _
  rw [if_neg (by omega), if_neg (by omega)]
  exact hK.2 q hq
/-- close: what the run does behind settle -/
theorem mx_close36 (hT : mx_T ch len A0) {vs : List px_V} {L : px_L} {F : ST_F} {A : ST_A} {w : Int32 × Nat} (h : mx_C len n0 A0 vars at_ vs (w :: ws) op tg F A) (hD : mx_D L false F A) (hG : mx_G 1 vs (w :: ws) op) (ha : at_ ≤ len) (hw : w.1 = 40 ∨ px_isfn w.1 = true) :
    (∃ z, px_close (w :: ws, vs, L) = some z ∧ mx_Y len n0 A0 vars at_ z.2.2.1 z.2.1 (op - 1) tg (f_M_close_J36 w.1 F A) (px_done ch z.2.1 z.1 at_ z.2.2.2) ∧ z.2.1 = ws ∧ z.2.2.1.length + 1 ≤ vs.length ∧ mx_G 0 z.2.2.1 ws (op - 1)) ∨ (px_close (w :: ws, vs, L) = none ∧ ∃ F' A', f_M_close_J36 w.1 F A = some (F', A') ∧ mx_X n0 A0 F' A') := by
  have h80 : vs.length ≤ 80 := h.2.2.1.1
  have hws : ws.length + 1 ≤ 170 := h.2.2.1.2
  have h7 : F 7 = nI (ws.length + 1) := h.1.2.2.2.1
  have h14 : A 14 ws.length = nI w.2 := h.2.2.2.2.1.1.2
  obtain ⟨g1, g2, g3⟩ := hG
  unfold mx_cnt at g1
  unfold mx_br at g2
  have hb1 : mx_b w = 1 := by unfold mx_b; rw [if_pos hw]
  rw [hb1] at g2
  have g4 := g3 w List.mem_cons_self
  have hpop := h.pop
  have hC8 : mx_C len n0 A0 vars at_ vs ws (op - 1) tg (upd (upd F 7 (F 7 - 1)) 8 (F 8 - 1)) A := by
    obtain ⟨⟨k1, k2, k3, k4, k5, k6⟩, h2⟩ := hpop
    refine ⟨⟨k1, k2, k3, k4, ?_, k6⟩, h2⟩
    show F 8 - 1 = _
    have : F 8 = nI op := k5
    rw [this, show op = mx_br ws + 1 by omega, nI_pred]
    rfl
  have hD8 : mx_D L false (upd (upd F 7 (F 7 - 1)) 8 (F 8 - 1)) A := hD
  unfold f_M_close_J36 px_close
  by_cases c : w.1 = 40
  · have hn0 : mx_n w = 0 := by unfold mx_n; rw [c]; rfl
    rw [hn0] at g1
    rw [if_pos c, ra_bvi]
    dsimp only
    rw [if_pos c]
    match vs, g1, hC8 with
    | [], g1, _ => rw [List.length_nil] at g1; omega
    | v :: r, g1, hC8 =>
      rw [List.length_cons] at g1
      exact Or.inl ⟨_, rfl, mx_finish0 hT hC8 hD8 ha, rfl, by rw [List.length_cons]; exact Nat.le_refl _, ⟨by show r.length = _; omega, by omega, fun w' hw' => g3 w' (List.mem_cons_of_mem _ hw')⟩⟩
  · have hf : px_isfn w.1 = true := by rcases hw with e | e; exact absurd e c; exact e
    have hn0 : mx_n w = w.2 - 1 := by unfold mx_n; rw [if_pos hf]
    rw [hn0] at g1
    have hle : w.2 ≤ vs.length := by omega
    rw [if_neg c, h7, nI_pred, ra_g_in (by omega) (by decide), nI_clamp (by omega), h14]
    rw [h7, nI_pred] at hC8 hD8
    dsimp only
    rw [if_neg c, if_pos ⟨hf, hle⟩]
    rcases mx_call hC8 hD8 hf g4 hle with ⟨v, L', F', A', e1, e2, e3, e4⟩ | ⟨e1, F', A', e2, e3⟩
    · rw [e1, e2, ra_bv_s, ra_bvi, Option.bind_some]
      have hdl : (vs.drop w.2).length = vs.length - w.2 := List.length_drop
      exact Or.inl ⟨_, rfl, mx_finish0 hT e3 e4 ha, rfl, by show (vs.drop w.2).length + 1 ≤ _; omega, ⟨by show (vs.drop w.2).length = _; omega, by omega, fun w' hw' => g3 w' (List.mem_cons_of_mem _ hw')⟩⟩
    · rw [e1, e2, ra_bv_s, ra_bvi]
      exact Or.inr ⟨rfl, F', A', mx_finishX e3 0, e3⟩
theorem mx_comma {vs : List px_V} {F : ST_F} {A : ST_A} {w : Int32 × Nat} (h : mx_C len n0 A0 vars at_ vs (w :: ws) op tg F A) {z : Int32} : mx_C len n0 A0 vars at_ vs ((w.1, w.2 + 1) :: ws) op tg (upd F 5 z) (va_up A 14 (upd (A 14) ws.length (A 14 ws.length + 1))) := by
  obtain ⟨⟨k1, k2, k3, k4, k5, k6⟩, ⟨b1, b2⟩, ⟨h3, h3'⟩, hV, ⟨⟨w1, w2⟩, h5⟩, h6, h7⟩ := h
  have hA : ∀ k, k ≠ 14 → va_up A 14 (upd (A 14) ws.length (A 14 ws.length + 1)) k = A k := fun k a => by
    show (if k = 14 then _ else A k) = A k
    rw [if_neg a]
  refine ⟨⟨k1, k2, k3, k4, k5, k6⟩, ⟨b1, fun k hk => by rw [hA k (by omega)]; exact b2 k hk⟩, ⟨h3, h3'⟩, mx_V.mono vs hV (fun _ _ => rfl) (fun _ _ => rfl), ⟨⟨w1, ?_⟩, mx_W.mono ws h5 (fun _ _ => rfl) (fun q hq => ?_)⟩, h6, h7⟩
  · show upd (A 14) ws.length (A 14 ws.length + 1) ws.length = _
    unfold upd
    rw [if_pos rfl, w2, ← nI_succ]
  · show upd (A 14) ws.length _ q = A 14 q
    unfold upd
    rw [if_neg (by omega)]
theorem mx_run (hT : mx_T ch len A0) (fu : Nat) : ∀ (n : Nat) (m : Bool) (at_ : Nat) (vs : List px_V) (ws : List (Int32 × Nat)) (op : Nat) (tg : Option Nat) (vars : Nat → Option px_V) (L : px_L) (r : Option px_R) (F : ST_F) (A : ST_A), px_run ch len n m at_ vs ws op tg vars L = some r → mx_C len n0 A0 vars at_ vs ws op tg F A → mx_D L false F A → mx_J len (if m = true then 1 else 0) at_ vs ws op tg vars → mx_E n0 A0 (f_M_compile_L62 fu (n + 1) (if m = true then 1 else 0) F A) r := by
  have hl := hT.1.1
  have hz := hT.1.2.1
  intro n
  induction n with
  | zero => intro m at_ vs ws op tg vars L r F A hr; cases hr
  | succ n ih =>
    intro m at_ vs ws op tg vars L r F A hr h hD hJ
    have hF5 : F 5 = 0 := hD.2.1
    have h4 : F 4 = nI at_ := h.1.2.1
    have h1 : F 1 = nI len := h.1.1
    have h0 : A 0 = A0 0 := h.2.1.2 0 (Or.inl (by decide))
    obtain ⟨hG, ha, hvl, hwl, h25, htg⟩ := hJ
    have hopl : op ≤ 170 := by have := mx_br_le ws; have := hG.2.1; omega
    have hfail : ∀ (F' : ST_F) (A' : ST_A) (x1 : Int32), F' 5 = 1 → mx_K n0 A0 F' A' → some none = some r → mx_E n0 A0 (f_M_compile_L62 fu (n + 1) x1 F' A') r := fun F' A' x1 e1 e2 e3 => by
      cases e3
      exact mx_wrong e1 e2 fu n x1
    cases m with
    | false =>
      rw [f_M_compile_L62, if_pos hF5, if_neg (show ¬ (false = true) from by decide), if_pos rfl, if_pos rfl]
      rw [if_neg (show ¬ (false = true) from by decide)] at hG hvl
      unfold f_M_operand
      rw [px_run] at hr
      rw [h4, mx_look hT h1 h0 (by omega), ra_bi_s, h4]
      by_cases c1 : ch at_ = 45
      · have hat : at_ < len := pxf_eql hz c1 (by decide)
        rw [if_pos c1] at hr
        rw [if_pos c1, ← nI_succ]
        obtain ⟨A', e1, e2, e3⟩ := mx_hold (h.go (at_ + 1)) (by omega) 126
        rw [e1, ra_bv_s, ra_bi_s]
        refine ih false (at_ + 1) vs ((126, 1) :: ws) op tg vars L r _ A' hr e2 (hD.arr rfl rfl (fun k hk => e3 k (by omega) (by omega))) ⟨⟨?_, ?_, ?_⟩, by omega, ?_, by rw [List.length_cons]; omega, h25, htg⟩
        · have := hG.1
          unfold mx_cnt
          rw [show mx_n ((126, 1) : Int32 × Nat) = 0 from rfl]
          show vs.length = 0 + mx_cnt ws + 0
          omega
        · have := hG.2.1
          unfold mx_br
          rw [show mx_b ((126, 1) : Int32 × Nat) = 0 from rfl]
          omega
        · intro w hw
          rcases List.mem_cons.mp hw with e | e
          · rw [e]; exact Nat.le_refl _
          · exact hG.2.2 w e
        · show 2 * vs.length ≤ at_ + 1 + 0
          omega
      · rw [if_neg c1] at hr
        rw [if_neg c1]
        have hbrk : ∀ (c : Int32) (k : Nat), at_ + k ≤ len → 1 ≤ k → (c = 40 ∨ px_isfn c = true) → (if 5 ≤ op then some none else px_run ch len n false (at_ + k) vs ((c, 1) :: ws) (op + 1) tg vars L) = some r → mx_E n0 A0 (ra_bi (ra_bv (f_M_bracket c (upd F 4 (nI (at_ + k))) A) (fun F14 A14 => some ((0 : Int32), F14, A14))) (fun r16 F16 A16 => f_M_compile_L62 fu (n + 1) r16 F16 A16)) r := by
          intro c k hk hk1 hc hr
          rcases mx_bracket (h.go (at_ + k)) (hD.go (nI (at_ + k))) (by omega) hopl c with ⟨o1, F', A', e1, e2, e3⟩ | ⟨o1, F', A', e1, e2, e3⟩
          · rw [if_neg o1] at hr
            rw [e1, ra_bv_s, ra_bi_s]
            refine ih false (at_ + k) vs ((c, 1) :: ws) (op + 1) tg vars L r F' A' hr e2 e3 ⟨⟨?_, ?_, ?_⟩, by omega, ?_, by rw [List.length_cons]; omega, h25, htg⟩
            · have := hG.1
              unfold mx_cnt
              have hn0 : mx_n ((c, 1) : Int32 × Nat) = 0 := by
                unfold mx_n
                rcases hc with e | e
                · subst e; rfl
                · show (if px_isfn c = true then 1 - 1 else _) = 0
                  rw [if_pos e]
              rw [hn0]
              show vs.length = 0 + mx_cnt ws + 0
              omega
            · have := hG.2.1
              unfold mx_br
              have hb1 : mx_b ((c, 1) : Int32 × Nat) = 1 := by
                unfold mx_b
                rw [if_pos hc]
              rw [hb1]
              omega
            · intro w hw
              rcases List.mem_cons.mp hw with e | e
              · rw [e]; exact Nat.le_refl _
              · exact hG.2.2 w e
            · show 2 * vs.length ≤ at_ + k + 0
              omega
          · rw [if_pos o1] at hr
            rw [e1, ra_bv_s, ra_bi_s]
            exact hfail F' A' 0 e2 e3 hr
        by_cases c2 : ch at_ = 40
        · have hat : at_ < len := pxf_eql hz c2 (by decide)
          rw [if_pos c2] at hr
          rw [if_pos c2, ← nI_succ]
          exact hbrk 40 1 (by omega) (by omega) (Or.inl rfl) hr
        · rw [if_neg c2] at hr
          rw [if_neg c2, mx_isFn, ← nI_succ]
          have h96 : (if px_dig (ch at_) = true then px_k (px_const ch at_) fun x => if px_dig (ch x.2) = true ∨ ch x.2 = 46 then some none else
      px_k (px_put L (0, x.1, 0)) fun r => px_k (px_unneg ws [r.1] r.2) fun q => px_run ch len n true x.2 (q.1 :: vs) q.2.2 op tg vars q.2.1
    else if px_small (ch at_) = true then px_k (px_letter vars (ch at_) L) fun r => px_k (px_pick ch r.1 (at_ + 1)) fun s => px_k (px_unneg ws s.1 r.2) fun q =>
      px_run ch len n true s.2 (q.1 :: vs) q.2.2 op tg vars q.2.1
    else some none) = some r → mx_E n0 A0 (ra_bi (f_M_operand_J96 (ch at_) F A) (fun r16 F16 A16 => f_M_compile_L62 fu (n + 1) r16 F16 A16)) r := by
            intro hr
            unfold f_M_operand_J96
            rw [mx_isDigit, mx_isSmall]
            by_cases c3 : px_dig (ch at_) = true
            · have hat : at_ < len := pxf_digl hz c3
              rw [if_pos c3, px_cst_k ch at_ L (fun a r => px_k (px_unneg ws [r.1] r.2) fun q => px_run ch len n true a (q.1 :: vs) q.2.2 op tg vars q.2.1)] at hr
              rw [if_pos c3, if_neg (by decide)]
              rcases mx_const hT h hD (by omega) ha with ⟨at', x, L', F', A', e1, e2, e3, e4⟩ | ⟨e1, F', A', e2, e3⟩
              · rw [e1, px_k_some] at hr
                rw [e2, ra_bv_s]
                have hx : ch at' ≠ 46 ∧ at_ < at' ∧ at' ≤ len := by
                  unfold px_cst at e1
                  cases hc : px_const ch at_ with
                  | none => rw [hc] at e1; cases e1
                  | some y =>
                    rw [hc, Option.bind_some] at e1
                    have hb := pxf_const hz c3 hc
                    by_cases cc : px_dig (ch y.2) = true ∨ ch y.2 = 46
                    · rw [if_pos cc] at e1; cases e1
                    · rw [if_neg cc] at e1
                      cases hp : px_put L (0, y.1, 0) with
                      | none => rw [hp] at e1; cases e1
                      | some z =>
                        rw [hp] at e1
                        cases e1
                        exact ⟨fun e => cc (Or.inr e), hb.1, hb.2⟩
                rcases mx_finish1 hT e3 e4 hx.2.2 hx.1 with ⟨v, L2, ws2, F2, A2, q1, q2, q3, q4, q5, q6, q7, q8⟩ | ⟨q1, F2, A2, q2, q3⟩
                · dsimp only at hr
                  rw [q1, px_k_some] at hr
                  rw [q2, ra_bv_s, ra_bi_s]
                  refine ih true at' (v :: vs) ws2 op tg vars L2 r F2 A2 hr q3 q4 ⟨⟨?_, by rw [q6]; exact hG.2.1, fun w hw => hG.2.2 w (q7 w hw)⟩, hx.2.2, ?_, by omega, h25, htg⟩
                  · have := hG.1
                    show vs.length + 1 = mx_cnt ws2 + 1
                    omega
                  · show 2 * (vs.length + 1) ≤ at' + 1
                    omega
                · dsimp only at hr
                  rw [q1, px_k_none] at hr
                  rw [q2, ra_bv_s, ra_bi_s]
                  exact hfail F2 A2 1 q3.1 q3.2.1 hr
              · rw [e1, px_k_none] at hr
                rw [e2, ra_bv_s, mx_finishX e3, ra_bv_s, ra_bi_s]
                exact hfail F' A' 1 e3.1 e3.2.1 hr
            · rw [if_neg c3] at hr
              rw [if_neg c3, if_pos rfl]
              by_cases c4 : px_small (ch at_) = true
              · have hat : at_ < len := pxf_smalll hz c4
                rw [if_pos c4] at hr
                rw [if_pos c4, if_neg (by decide)]
                rcases mx_letter hT h hD (by omega) ha c4 h25 with ⟨v, L', F', A', e1, e2, e3, e4⟩ | ⟨e1, F', A', e2, e3⟩
                · rw [e1, px_k_some, px_done_k ch ws v (at_ + 1) L' (fun a q => px_run ch len n true a (q.1 :: vs) q.2.2 op tg vars q.2.1)] at hr
                  rw [e2, ra_bv_s]
                  rcases mx_finish0 hT e3 e4 (by omega) with ⟨at', v2, L2, ws2, F2, A2, q1, q2, q3, q4, q5, q6, q7, q8, q9, q10⟩ | ⟨q1, F2, A2, q2, q3⟩
                  · rw [q1, px_k_some] at hr
                    rw [q2, ra_bv_s, ra_bi_s]
                    refine ih true at' (v2 :: vs) ws2 op tg vars L2 r F2 A2 hr q3 q4 ⟨⟨?_, by rw [q6]; exact hG.2.1, fun w hw => hG.2.2 w (q7 w hw)⟩, q10, ?_, by omega, h25, htg⟩
                    · have := hG.1
                      show vs.length + 1 = mx_cnt ws2 + 1
                      omega
                    · show 2 * (vs.length + 1) ≤ at' + 1
                      omega
                  · rw [q1, px_k_none] at hr
                    rw [q2, ra_bv_s, ra_bi_s]
                    exact hfail F2 A2 1 q3.1 q3.2.1 hr
                · rw [e1, px_k_none] at hr
                  rw [e2, ra_bv_s, mx_finishX e3, ra_bv_s, ra_bi_s]
                  exact hfail F' A' 1 e3.1 e3.2.1 hr
              · rw [if_neg c4] at hr
                rw [if_neg c4, if_pos rfl, ra_bi_s]
                exact hfail _ A 1 rfl h.2.1 hr
          by_cases c3 : px_isfn (ch at_) = true
          · rw [if_pos c3, if_neg (by decide), mx_look hT h1 h0 (by omega), ra_bi_s, h4]
            by_cases c4 : ch (at_ + 1) = 40
            · have hat : at_ + 1 < len := pxf_eql hz c4 (by decide)
              rw [if_pos ⟨c3, c4⟩] at hr
              rw [if_pos c4, show nI at_ + (2 : Int32) = nI (at_ + 2) from nI_add at_ 2]
              exact hbrk (ch at_) 2 (by omega) (by omega) (Or.inr c3) hr
            · rw [if_neg (fun z => c4 z.2)] at hr
              rw [if_neg c4]
              exact h96 hr
          · rw [if_neg (fun z => c3 z.1)] at hr
            rw [if_neg c3, if_pos rfl]
            exact h96 hr
    | true =>
      rw [if_pos rfl] at hG hvl
      rw [f_M_compile_L62, if_pos hF5, if_pos rfl, if_neg (by decide), h1, h4]
      rw [px_run] at hr
      by_cases ce : len ≤ at_
      · rw [if_pos ce] at hr
        rw [if_pos (nI_le ce (by omega))]
        exact mx_end fu h hD hG htg 1 hr
      · rw [if_neg ce] at hr
        rw [if_neg (nI_ge (by omega) (by omega)), if_neg (by decide)]
        unfold f_M_operator
        rw [h4, mx_look hT h1 h0 (by omega), ra_bi_s, h4, ← nI_succ]
        have hC1 := h.go (at_ + 1)
        have hD1 : mx_D L false (upd F 4 (nI (at_ + 1))) A := hD.go _
        by_cases c1 : ch at_ = 41
        · rw [if_pos c1] at hr
          rw [if_pos c1]
          unfold f_M_close
          rcases mx_settle true hC1 hD1 hG with ⟨ws', vs', L', F', A', e1, e2, e3, e4, e5, e6, e7⟩ | ⟨e1, F', A', e2, e3⟩
          · rw [e1, px_k_some] at hr
            have e2' : f_M_settle 1 (upd F 4 (nI (at_ + 1))) A = some (F', A') := e2
            have hF5' : F' 5 = 0 := e4.2.1
            rw [e2', ra_bv_s, mx_top e3, ra_bi_s, if_pos hF5']
            cases ws' with
            | nil =>
              rw [show px_close (([] : List (Int32 × Nat)), vs', L') = none from rfl, px_k_none] at hr
              rw [show mx_tp [] = 0 from rfl, if_neg (by decide), if_pos (by decide), ra_bv_s, ra_bi_s]
              exact hfail _ A' 1 rfl e3.2.1 hr
            | cons w t =>
              rw [show mx_tp (w :: t) = w.1 from rfl]
              by_cases cw : w.1 = 40 ∨ px_isfn w.1 = true
              · have hgo : (if w.1 = 40 then f_M_close_J36 w.1 F' A' else if f_M_isFunction w.1 = 0 then some (upd F' 5 1, A') else f_M_close_J36 w.1 F' A') = f_M_close_J36 w.1 F' A' := by
                  by_cases c40 : w.1 = 40
                  · rw [if_pos c40]
                  · rw [if_neg c40, mx_isFn, if_pos (c := px_isfn w.1 = true) (by rcases cw with e | e; exact absurd e c40; exact e), if_neg (by decide)]
                rw [hgo]
                rcases mx_close36 hT e3 e4 e5 (by omega) cw with ⟨z, z1, z2, z3, z4, z5⟩ | ⟨z1, F2, A2, z2, z3⟩
                · rw [z1, px_k_some, px_done_k ch z.2.1 z.1 (at_ + 1) z.2.2.2 (fun a y => px_run ch len n true a (y.1 :: z.2.2.1) y.2.2 (op - 1) tg vars y.2.1)] at hr
                  rcases z2 with ⟨at', v2, L2, ws2, F2, A2, q1, q2, q3, q4, q5, q6, q7, q8, q9, q10⟩ | ⟨q1, F2, A2, q2, q3⟩
                  · rw [q1, px_k_some] at hr
                    rw [q2, ra_bv_s, ra_bi_s]
                    rw [z3] at q5 q6 q7 q8
                    rw [List.length_cons] at e7
                    refine ih true at' (v2 :: z.2.2.1) ws2 (op - 1) tg vars L2 r F2 A2 hr q3 q4 ⟨⟨?_, by rw [q6]; exact z5.2.1, fun w hw => z5.2.2 w (q7 w hw)⟩, q10, ?_, by omega, h25, htg⟩
                    · have := z5.1
                      show z.2.2.1.length + 1 = mx_cnt ws2 + 1
                      omega
                    · show 2 * (z.2.2.1.length + 1) ≤ at' + 1
                      omega
                  · rw [q1, px_k_none] at hr
                    rw [q2, ra_bv_s, ra_bi_s]
                    exact hfail F2 A2 1 q3.1 q3.2.1 hr
                · rw [z1, px_k_none] at hr
                  rw [z2, ra_bv_s, ra_bi_s]
                  exact hfail F2 A2 1 z3.1 z3.2.1 hr
              · have cw1 : w.1 ≠ 40 := fun e => cw (Or.inl e)
                have cw2 : ¬ px_isfn w.1 = true := fun e => cw (Or.inr e)
                rw [if_neg cw1, mx_isFn, if_neg (c := px_isfn w.1 = true) cw2, if_pos rfl, ra_bv_s, ra_bi_s]
                rw [show px_close (w :: t, vs', L') = none from by unfold px_close; dsimp only; rw [if_neg cw1, if_neg (fun z => cw2 z.1)], px_k_none] at hr
                exact hfail _ A' 1 rfl e3.2.1 hr
          · rw [e1, px_k_none] at hr
            have e2' : f_M_settle 1 (upd F 4 (nI (at_ + 1))) A = some (F', A') := e2
            obtain ⟨tp, etp⟩ := mx_topX e3
            rw [e2', ra_bv_s, etp, ra_bi_s, if_neg (by rw [e3.1]; decide), ra_bv_s, ra_bi_s]
            exact hfail _ A' 1 rfl e3.2.1 hr
        · rw [if_neg c1] at hr
          rw [if_neg c1]
          -- a binary sign: settle, then hold
          have hbin : ∀ (all : Bool) (c : Int32), (c = 42 ∨ c = 47 ∨ c = 43 ∨ c = 45) → (px_k (px_settle all ws vs L) fun q => px_run ch len n false (at_ + 1) q.2.1 ((c, 1) :: q.1) op tg vars q.2.2) = some r → mx_E n0 A0 (ra_bi (ra_bv (f_M_settle (if all = true then 1 else 0) (upd F 4 (nI (at_ + 1))) A) (fun F18 A18 => ra_bv (f_M_hold c F18 A18) (fun F19 A19 => some ((0 : Int32), F19, A19)))) (fun r16 F16 A16 => f_M_compile_L62 fu (n + 1) r16 F16 A16)) r := by
            intro all c hc hr
            rcases mx_settle all hC1 hD1 hG with ⟨ws', vs', L', F', A', e1, e2, e3, e4, e5, e6, e7⟩ | ⟨e1, F', A', e2, e3⟩
            · rw [e1, px_k_some] at hr
              rw [e2, ra_bv_s]
              obtain ⟨A2, q1, q2, q3⟩ := mx_hold e3 (by omega) c
              rw [q1, ra_bv_s, ra_bi_s]
              have hnf : ¬ px_isfn c = true := by rcases hc with e | e | e | e <;> rw [e] <;> decide
              refine ih false (at_ + 1) vs' ((c, 1) :: ws') op tg vars L' r _ A2 hr q2 (e4.arr rfl rfl (fun k hk => q3 k (by omega) (by omega))) ⟨⟨?_, ?_, ?_⟩, by omega, ?_, by rw [List.length_cons]; omega, h25, htg⟩
              · have := e5.1
                unfold mx_cnt
                have hn1 : mx_n ((c, 1) : Int32 × Nat) = 1 := by
                  unfold mx_n
                  rw [if_neg hnf, if_pos hc]
                rw [hn1]
                show vs'.length = 1 + mx_cnt ws' + 0
                omega
              · have := e5.2.1
                unfold mx_br
                have hb0 : mx_b ((c, 1) : Int32 × Nat) = 0 := by
                  unfold mx_b
                  rw [if_neg]
                  rintro (e | e)
                  · rcases hc with e2 | e2 | e2 | e2 <;> (rw [e2] at e; exact absurd e (by decide))
                  · exact hnf e
                rw [hb0]
                omega
              · intro w hw
                rcases List.mem_cons.mp hw with e | e
                · rw [e]; exact Nat.le_refl _
                · exact e5.2.2 w e
              · show 2 * vs'.length ≤ at_ + 1 + 0
                omega
            · rw [e1, px_k_none] at hr
              rw [e2, ra_bv_s]
              obtain ⟨F2, A2, q1, q2, q3⟩ := mx_holdX e3 c
              rw [q1, ra_bv_s, ra_bi_s]
              exact hfail F2 A2 0 q2 q3 hr
          by_cases c2 : ch at_ = 43 ∨ ch at_ = 45
          · rw [if_pos c2] at hr
            have hb : ¬ f_M_isBinary (ch at_) = 0 := by rcases c2 with e | e <;> rw [e] <;> decide
            rw [if_neg hb]
            have := hbin true (ch at_) (by rcases c2 with e | e; exact Or.inr (Or.inr (Or.inl e)); exact Or.inr (Or.inr (Or.inr e))) hr
            unfold f_M_operator_J51
            by_cases c3 : ch at_ = 43
            · rw [if_pos c3]; exact this
            · rw [if_neg c3, if_pos (by rcases c2 with e | e; exact absurd e c3; exact e)]; exact this
          · rw [if_neg c2] at hr
            by_cases c3 : ch at_ = 42 ∨ ch at_ = 47
            · rw [if_pos c3] at hr
              have hb : ¬ f_M_isBinary (ch at_) = 0 := by rcases c3 with e | e <;> rw [e] <;> decide
              rw [if_neg hb, if_neg (fun e => c2 (Or.inl e)), if_neg (fun e => c2 (Or.inr e))]
              exact hbin false (ch at_) (by rcases c3 with e | e; exact Or.inl e; exact Or.inr (Or.inl e)) hr
            · rw [if_neg c3] at hr
              have hb : f_M_isBinary (ch at_) = 0 := by
                unfold f_M_isBinary
                rw [if_neg (fun e => c2 (Or.inl e)), if_neg (fun e => c2 (Or.inr e)), if_neg (fun e => c3 (Or.inl e)), if_neg (fun e => c3 (Or.inr e))]
              rw [if_pos hb]
              have hJ101 : ∀ (F' : ST_F) (A' : ST_A), f_M_operator_J96 (ch at_) F' A' = some (0, upd F' 5 1, A') := fun F' A' => by
                unfold f_M_operator_J96 f_M_operator_J101 ra_zb
                rw [if_pos (Or.inr rfl), if_neg (by decide)]
              by_cases c4 : ch at_ = 44
              · rw [if_pos c4] at hr
                rw [if_pos c4]
                rcases mx_settle true hC1 hD1 hG with ⟨ws', vs', L', F', A', e1, e2, e3, e4, e5, e6, e7⟩ | ⟨e1, F', A', e2, e3⟩
                · rw [e1, px_k_some] at hr
                  have e2' : f_M_settle 1 (upd F 4 (nI (at_ + 1))) A = some (F', A') := e2
                  have hF5' : F' 5 = 0 := e4.2.1
                  rw [e2', ra_bv_s, if_pos hF5', mx_top e3, ra_bi_s, mx_isFn]
                  cases ws' with
                  | nil =>
                    rw [show px_comma ([] : List (Int32 × Nat)) = none from rfl, px_k_none] at hr
                    rw [show mx_tp [] = 0 from rfl, if_neg (c := px_isfn (0 : Int32) = true) (by decide), if_pos rfl, hJ101, ra_bi_s]
                    exact hfail _ A' 0 rfl e3.2.1 hr
                  | cons w t =>
                    rw [show mx_tp (w :: t) = w.1 from rfl]
                    by_cases cw : px_isfn w.1 = true
                    · have hpc : px_comma (w :: t) = some ((w.1, w.2 + 1) :: t) := by show (if px_isfn w.1 = true then some ((w.1, w.2 + 1) :: t) else none) = _; rw [if_pos cw]
                      dsimp only at hr
                      rw [hpc, px_k_some] at hr
                      rw [if_pos (c := px_isfn w.1 = true) cw, if_neg (by decide)]
                      unfold f_M_operator_J101 ra_zb
                      have h7 : F' 7 = nI (t.length + 1) := e3.1.2.2.2.1
                      have h170 : t.length + 1 ≤ 170 := e3.2.2.1.2
                      rw [if_pos (Or.inl rfl), if_pos rfl, h7, nI_pred, ra_g_in (by omega) (by decide), ra_g_in (by omega) (by decide), nI_clamp (by omega), ra_bi_s]
                      rw [List.length_cons] at e7
                      refine ih false (at_ + 1) vs' ((w.1, w.2 + 1) :: t) op tg vars L' r _ _ hr (mx_comma e3) (e4.arr rfl (by show (0 : Int32) = F' 5; rw [hF5']) (fun k hk => by show (if k = 14 then _ else A' k) = A' k; rw [if_neg (by omega)])) ⟨⟨?_, ?_, ?_⟩, by omega, ?_, by rw [List.length_cons]; omega, h25, htg⟩
                      · have g1 := e5.1
                        have g3 := e5.2.2 w List.mem_cons_self
                        unfold mx_cnt at g1 ⊢
                        have hn1 : mx_n w = w.2 - 1 := by unfold mx_n; rw [if_pos cw]
                        have hn2 : mx_n ((w.1, w.2 + 1) : Int32 × Nat) = w.2 := by unfold mx_n; dsimp only; rw [if_pos cw]; omega
                        rw [hn1] at g1
                        rw [hn2]
                        show vs'.length = w.2 + mx_cnt t + 0
                        omega
                      · have g2 := e5.2.1
                        unfold mx_br at g2 ⊢
                        exact g2
                      · intro w' hw'
                        rcases List.mem_cons.mp hw' with e | e
                        · rw [e]; show 1 ≤ w.2 + 1; omega
                        · exact e5.2.2 w' (List.mem_cons_of_mem _ e)
                      · show 2 * vs'.length ≤ at_ + 1 + 0
                        omega
                    · have hpc : px_comma (w :: t) = none := by show (if px_isfn w.1 = true then some ((w.1, w.2 + 1) :: t) else none) = _; rw [if_neg cw]
                      dsimp only at hr
                      rw [hpc, px_k_none] at hr
                      rw [if_neg (c := px_isfn w.1 = true) cw, if_pos rfl, hJ101, ra_bi_s]
                      exact hfail _ A' 0 rfl e3.2.1 hr
                · rw [e1, px_k_none] at hr
                  have e2' : f_M_settle 1 (upd F 4 (nI (at_ + 1))) A = some (F', A') := e2
                  rw [e2', ra_bv_s, if_neg (by rw [e3.1]; decide), hJ101, ra_bi_s]
                  exact hfail _ A' 0 rfl e3.2.1 hr
              · rw [if_neg c4] at hr
                rw [if_neg c4]
                by_cases c5 : ch at_ = 59
                · rw [if_pos c5] at hr
                  have h9 : F 9 = mx_tg tg := h.1.2.2.2.2.2
                  rw [if_pos c5, h9]
                  have hJ162 : ∀ (F' : ST_F) (A' : ST_A), f_M_operator_J162 (ch at_) F' A' = some (0, upd F' 5 1, A') := fun F' A' => by
                    unfold f_M_operator_J162 f_M_assign
                    rw [if_neg (show ¬ upd F' 5 1 5 = 0 from by show ¬ (1 : Int32) = 0; decide), ra_bv_s]
                  cases tg with
                  | none =>
                    have hr2 : some none = some r := by
                      cases hs : px_settle true ws vs L with
                      | none => rw [hs] at hr; exact hr
                      | some q =>
                        rw [hs, px_k_some] at hr
                        have : px_semi none q = none := by unfold px_semi; rfl
                        rw [this] at hr
                        exact hr
                    rw [if_pos (by decide), ra_bi_s]
                    exact hfail _ A 0 rfl h.2.1 hr2
                  | some l =>
                    have hl25 := htg l rfl
                    rw [if_neg (show ¬ mx_tg (some l) < 0 from nI_pos (by omega))]
                    rcases mx_settle true hC1 hD1 hG with ⟨ws', vs', L', F', A', e1, e2, e3, e4, e5, e6, e7⟩ | ⟨e1, F', A', e2, e3⟩
                    · rw [e1, px_k_some] at hr
                      have e2' : f_M_settle 1 (upd F 4 (nI (at_ + 1))) A = some (F', A') := e2
                      have hF5' : F' 5 = 0 := e4.2.1
                      have h7 : F' 7 = nI ws'.length := e3.1.2.2.2.1
                      have h170 : ws'.length ≤ 170 := e3.2.2.1.2
                      rw [e2', ra_bv_s, if_pos hF5', h7]
                      cases ws' with
                      | cons w t =>
                        have : px_semi (some l) (w :: t, vs', L') = none := by unfold px_semi; rfl
                        rw [this, px_k_none] at hr
                        rw [List.length_cons] at h170 ⊢
                        rw [if_neg (nI_nle (by omega) (by omega)), hJ162, ra_bi_s]
                        exact hfail _ A' 0 rfl e3.2.1 hr
                      | nil =>
                        rw [if_pos (show nI ([] : List (Int32 × Nat)).length ≤ 0 from by decide), upd_same hF5']
                        match vs', e5, e3, hr with
                        | [], e5, _, _ => exact absurd e5.1 (by simp [mx_cnt])
                        | _ :: _ :: _, e5, _, _ => exact absurd e5.1 (by simp [mx_cnt])
                        | [v], e5, e3, hr =>
                          rw [show px_semi (some l) ([], [v], L') = some (l, v, L') from rfl, px_k_some] at hr
                          have hop0 : op = 0 := e5.2.1
                          have h25' : px_set vars l v 25 = none := by unfold px_set; rw [if_neg (by omega)]; exact h25
                          obtain ⟨F1, A1, s1, s2, s3⟩ := mx_assign hl25 e3 e4
                          rw [s1]
                          rcases mx_begin hT s2 s3 (by omega) with ⟨t1, t2, F2, t3, t4, t5⟩ | ⟨t1, t2, F2, t3, t4, t5, t6, t7⟩ | ⟨t1, F2, t3, t4, t5⟩
                          · dsimp only at hr
                            rw [if_pos t1, if_pos t2] at hr
                            rw [t3, ra_bv_s, ra_bi_s]
                            exact hfail F2 A1 0 t4 t5 hr
                          · dsimp only at hr
                            rw [if_pos t1, if_neg t2] at hr
                            rw [t3, ra_bv_s, ra_bi_s]
                            exact ih false (at_ + 3) [] [] op (some (px_ix (ch (at_ + 1)))) (px_set vars l v) L' r F2 A1 hr t4 t5 ⟨⟨rfl, by rw [hop0]; rfl, fun w hw => absurd hw List.not_mem_nil⟩, by omega, Nat.zero_le _, Nat.zero_le _, h25', fun l' e => by cases e; exact t7⟩
                          · dsimp only at hr
                            rw [if_neg t1] at hr
                            rw [t3, ra_bv_s, ra_bi_s]
                            exact ih false (at_ + 1) [] [] op none (px_set vars l v) L' r F2 A1 hr t4 t5 ⟨⟨rfl, by rw [hop0]; rfl, fun w hw => absurd hw List.not_mem_nil⟩, by omega, Nat.zero_le _, Nat.zero_le _, h25', fun l' e => (nomatch e)⟩
                    · rw [e1, px_k_none] at hr
                      have e2' : f_M_settle 1 (upd F 4 (nI (at_ + 1))) A = some (F', A') := e2
                      rw [e2', ra_bv_s, if_neg (by rw [e3.1]; decide), hJ162, ra_bi_s]
                      exact hfail _ A' 0 rfl e3.2.1 hr
                · rw [if_neg c5] at hr
                  rw [if_neg c5, ra_bi_s]
                  exact hfail _ A 0 rfl h.2.1 hr
end MX
