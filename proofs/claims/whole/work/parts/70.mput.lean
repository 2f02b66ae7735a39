/-! the reference's stacks against the run: state, put, pushMade -/
def mx_D (L : px_L) (w : Bool) (F : ST_F) (A : ST_A) : Prop := F 3 = nI L.length ∧ F 5 = (if w = true then 1 else 0) ∧ L.length ≤ 100 ∧ ∀ (k : Nat) (i : px_I), L[k]? = some i → A 6 k = i.1 ∧ A 7 k = i.2.1 ∧ A 8 k = i.2.2
def mx_v (v : px_V) : Prop := 1 ≤ v.length ∧ v.length ≤ 4
def mx_V : List px_V → ST_A → Prop
  | [], _ => True
  | v :: r, A => (mx_v v ∧ A 11 r.length = nI v.length ∧ ∀ j, j < v.length → A 12 (4 * r.length + j) = nI (v.getD j 0)) ∧ mx_V r A
def mx_W : List (Int32 × Nat) → ST_A → Prop
  | [], _ => True
  | w :: r, A => (A 13 r.length = w.1 ∧ A 14 r.length = nI w.2) ∧ mx_W r A
def mx_tg : Option Nat → Int32
  | none => -1
  | some k => nI k
/-- what a compilation leaves alone -/
def mx_K (n0 : ST_F) (A0 : ST_A) (F : ST_F) (A : ST_A) : Prop := (F 2 = n0 2 ∧ F 1 = n0 1) ∧ ∀ k, k < 6 ∨ k = 16 → A k = A0 k
def mx_X (n0 : ST_F) (A0 : ST_A) (F : ST_F) (A : ST_A) : Prop := F 5 = 1 ∧ mx_K n0 A0 F A ∧ ∃ k, k ≤ 170 ∧ F 7 = nI k
def mx_C (len : Nat) (n0 : ST_F) (A0 : ST_A) (vars : Nat → Option px_V) (at_ : Nat) (vs : List px_V) (ws : List (Int32 × Nat)) (op : Nat) (tg : Option Nat) (F : ST_F) (A : ST_A) : Prop :=
  (F 1 = nI len ∧ F 4 = nI at_ ∧ F 6 = nI vs.length ∧ F 7 = nI ws.length ∧ F 8 = nI op ∧ F 9 = mx_tg tg) ∧ mx_K n0 A0 F A ∧ (vs.length ≤ 80 ∧ ws.length ≤ 170) ∧ mx_V vs A ∧ mx_W ws A ∧ (∀ k, k < 26 → A 9 k = cx_ty (vars k)) ∧ ∀ k v, k < 26 → vars k = some v → mx_v v ∧ ∀ j, j < v.length → A 10 (4 * k + j) = nI (v.getD j 0)
/-- rows and fields that stay: all but the draft and made -/
def mx_fr (F0 : ST_F) (A0 : ST_A) (F : ST_F) (A : ST_A) : Prop := (∀ k, k ≠ 3 → k ≠ 5 → F k = F0 k) ∧ ∀ k, k ≠ 6 → k ≠ 7 → k ≠ 8 → k ≠ 15 → A k = A0 k
theorem mx_fr.rf {F : ST_F} {A : ST_A} : mx_fr F A F A := ⟨fun _ _ _ => rfl, fun _ _ _ _ _ => rfl⟩
theorem mx_fr.tr {F A F1 A1 F2 A2} (h : mx_fr F A F1 A1) (h2 : mx_fr F1 A1 F2 A2) : mx_fr F A F2 A2 := ⟨fun k a b => by rw [h2.1 k a b, h.1 k a b], fun k a b c d => by rw [h2.2 k a b c d, h.2 k a b c d]⟩
theorem mx_fr.made {F A F1 A1} (h : mx_fr F A F1 A1) (f : Nat → Int32) : mx_fr F A F1 (va_up A1 15 f) := ⟨h.1, fun k a b c d => by show (if k = 15 then f else A1 k) = A k; rw [if_neg d, h.2 k a b c d]⟩
theorem mx_D.made {L : px_L} {w : Bool} {F : ST_F} {A : ST_A} (h : mx_D L w F A) (f : Nat → Int32) : mx_D L w F (va_up A 15 f) := h
theorem mx_find {L : px_L} {w : Bool} {F : ST_F} {A : ST_A} (h : mx_D L w F A) (i : px_I) : ∀ (n j : Nat), L.length < n + j → j ≤ L.length → f_M_put_L3 n i.1 i.2.1 i.2.2 (nI j) F A = match px_find (L.drop j) i with
    | some m => some (nI (j + m), F, A)
    | none => f_M_put_L3 1 i.1 i.2.1 i.2.2 (nI L.length) F A := by
  obtain ⟨h2, h3, h4, h6⟩ := h
  intro n
  induction n with
  | zero => intro j hn hj; omega
  | succ n ih =>
    intro j hn hj
    by_cases hl : j = L.length
    · rw [hl, List.drop_length]
      show _ = f_M_put_L3 1 i.1 i.2.1 i.2.2 (nI L.length) F A
      unfold f_M_put_L3
      rw [h2, if_pos (nI_le (Nat.le_refl _) (by omega)), if_pos (nI_le (Nat.le_refl _) (by omega))]
    · have hjl : j < L.length := by omega
      have hx : L[j]? = some L[j] := List.getElem?_eq_getElem hjl
      have h9 := h6 j _ hx
      have hs := ih (j + 1) (by omega) (by omega)
      rw [f_M_put_L3, h2, if_neg (nI_ge hjl (by omega)), ra_g_in (by omega) (by decide), ra_g_in (by omega) (by decide), ra_g_in (by omega) (by decide), nI_clamp (by omega), h9.1, h9.2.1, h9.2.2, ← nI_succ, hs, List.drop_eq_getElem_cons hjl, px_find]
      by_cases he : L[j] = i
      · rw [if_pos he, he, if_pos rfl, if_pos rfl, if_pos rfl]
        rfl
      · rw [if_neg he]
        have hgo : (match px_find (L.drop (j + 1)) i with
    | some m => some (nI (j + 1 + m), F, A)
    | none => f_M_put_L3 1 i.1 i.2.1 i.2.2 (nI L.length) F A) = (match Option.map (fun k => k + 1) (px_find (L.drop (j + 1)) i) with
    | some m => some (nI (j + m), F, A)
    | none => f_M_put_L3 1 i.1 i.2.1 i.2.2 (nI L.length) F A) := by
          cases px_find (L.drop (j + 1)) i with
          | none => rfl
          | some m => show some (nI (j + 1 + m), F, A) = some (nI (j + (m + 1)), F, A); rw [Nat.add_assoc, Nat.add_comm 1 m]
        by_cases c1 : L[j].1 = i.1
        · rw [if_pos c1]
          by_cases c2 : L[j].2.1 = i.2.1
          · rw [if_pos c2]
            by_cases c3 : L[j].2.2 = i.2.2
            · exact absurd (Prod.ext c1 (Prod.ext c2 c3)) he
            · rw [if_neg c3, hgo]
          · rw [if_neg c2, hgo]
        · rw [if_neg c1, hgo]
theorem mx_put {L : px_L} {w : Bool} {F : ST_F} {A : ST_A} (h : mx_D L w F A) (i : px_I) : ∃ r L' w' F' A', f_M_put i.1 i.2.1 i.2.2 F A = some (nI r, F', A') ∧ mx_D L' w' F' A' ∧ mx_fr F A F' A' ∧ A' 15 = A 15 ∧ cx_k w w' (px_put L i) (some (r, L')) := by
  have hS := h
  obtain ⟨h2, h3, h4, h6⟩ := h
  have hp : f_M_put i.1 i.2.1 i.2.2 F A = _ := mx_find hS i 400 0 (by omega) (Nat.zero_le _)
  rw [hp, List.drop_zero]
  unfold px_put
  cases hf : px_find L i with
  | some k =>
    exact ⟨k, L, w, F, A, by show some (nI (0 + k), F, A) = _; rw [Nat.zero_add], hS, mx_fr.rf, rfl, cx_k.rf⟩
  | none =>
    show ∃ r L' w' F' A', f_M_put_L3 1 i.1 i.2.1 i.2.2 (nI L.length) F A = some (nI r, F', A') ∧ _
    unfold f_M_put_L3
    rw [h2, if_pos (nI_le (Nat.le_refl _) (by omega))]
    by_cases hl : L.length = 100
    · rw [if_pos (by rw [hl]; rfl), if_pos hl]
      refine ⟨0, L, true, upd F 5 1, A, rfl, ⟨h2, rfl, h4, h6⟩, ⟨fun k a b => ?_, fun _ _ _ _ _ => rfl⟩, rfl, fun _ => rfl, fun _ => Or.inl ⟨rfl, rfl⟩⟩
      show (if k = 5 then 1 else F k) = F k
      rw [if_neg b]
    · rw [if_neg (by rw [show (100 : Int32) = nI 100 from rfl, nI_eqI (by omega) (by omega)]; exact hl), if_neg hl, ra_g_in (by omega) (by decide), ra_g_in (by omega) (by decide), ra_g_in (by omega) (by decide), nI_clamp (by omega), ← nI_succ, nI_pred]
      refine ⟨L.length, L ++ [i], w, _, _, rfl, ⟨?_, h3, ?_, ?_⟩, ⟨fun k a b => ?_, fun k a b c d => ?_⟩, rfl, cx_k.rf⟩
      · rw [List.length_append]; rfl
      · rw [List.length_append]; simp; omega
      · intro k j hk
        have hu : ∀ (f : Nat → Int32) (x : Int32), upd f L.length x k = if k = L.length then x else f k := fun f x => rfl
        show upd (A 6) L.length i.1 k = j.1 ∧ upd (A 7) L.length i.2.1 k = j.2.1 ∧ upd (A 8) L.length i.2.2 k = j.2.2
        rw [hu, hu, hu]
        by_cases hkl : k < L.length
        · rw [List.getElem?_append_left hkl] at hk
          rw [if_neg (by omega), if_neg (by omega), if_neg (by omega)]
          exact h6 k j hk
        · rw [List.getElem?_append_right (by omega)] at hk
          by_cases hk0 : k = L.length
          · rw [hk0, Nat.sub_self] at hk
            have : i = j := by simpa using hk
            rw [if_pos hk0, if_pos hk0, if_pos hk0, this]
            exact ⟨rfl, rfl, rfl⟩
          · rw [List.getElem?_eq_none (by simp; omega)] at hk
            cases hk
      · show (if k = 3 then _ else F k) = F k
        rw [if_neg a]
      · show (if k = 8 then _ else (if k = 7 then _ else (if k = 6 then _ else A k))) = A k
        rw [if_neg c, if_neg b, if_neg a]
theorem mx_number {i j : Nat} (hi : i < 80) (hj : j < 4) (F : ST_F) (A : ST_A) : f_M_number (nI i) (nI j) F A = some (A 12 (4 * i + j), F, A) := by
  unfold f_M_number
  rw [show (4 : Int32) = nI 4 from rfl, pk_mul, nI_add, ra_g_in (by omega) (by decide), nI_clamp (by omega)]
theorem mx_pm2 {i T : Nat} (hi : i < 80) (hT : T ≤ 4) (F : ST_F) (hF : F 6 = nI i) : ∀ (m j n : Nat) (A : ST_A), j + m = T → m < n → ∃ A', f_M_pushMade_L2 n (nI T) (nI j) F A = some (upd F 6 (nI (i + 1)), A') ∧ (∀ k, k ≠ 11 → k ≠ 12 → A' k = A k) ∧ A' 11 = upd (A 11) i (nI T) ∧ (∀ k, k < 4 * i + j → A' 12 k = A 12 k) ∧ ∀ k, j ≤ k → k < T → A' 12 (4 * i + k) = A 15 k := by
  intro m
  induction m with
  | zero =>
    intro j n A hj hn
    obtain ⟨n, rfl⟩ : ∃ n', n = n' + 1 := ⟨n - 1, by omega⟩
    rw [f_M_pushMade_L2, if_pos (nI_le (by omega) (by omega))]
    unfold f_M_push
    rw [hF, ra_g_in hi (by decide), ra_bv_s, nI_clamp (by omega), ← nI_succ]
    refine ⟨_, rfl, fun k a b => ?_, rfl, fun k _ => rfl, fun k h1 h2 => by omega⟩
    show (if k = 11 then _ else A k) = A k
    rw [if_neg a]
  | succ m ih =>
    intro j n A hj hn
    obtain ⟨n, rfl⟩ : ∃ n', n = n' + 1 := ⟨n - 1, by omega⟩
    rw [f_M_pushMade_L2, if_neg (nI_ge (by omega) (by omega)), hF, show (4 : Int32) = nI 4 from rfl, pk_mul, nI_add, ra_g_in (by omega) (by decide), ra_g_in (by omega) (by decide), nI_clamp (by omega), nI_clamp (by omega), ← nI_succ]
    obtain ⟨A', h1, h2, h3, h4, h5⟩ := ih (j + 1) n (va_up A 12 (upd (A 12) (4 * i + j) (A 15 j))) (by omega) (by omega)
    refine ⟨A', h1, fun k a b => ?_, h3, fun k hk => ?_, fun k hk1 hk2 => ?_⟩
    · rw [h2 k a b]
      show (if k = 12 then _ else A k) = A k
      rw [if_neg b]
    · rw [h4 k (by omega)]
      show upd (A 12) (4 * i + j) (A 15 j) k = _
      unfold upd
      rw [if_neg (by omega)]
    · by_cases hkj : k = j
      · rw [hkj, h4 (4 * i + j) (by omega)]
        show upd (A 12) (4 * i + j) (A 15 j) (4 * i + j) = _
        unfold upd
        rw [if_pos rfl]
      · exact h5 k (by omega) hk2
theorem mx_pm {i T : Nat} (hi : i < 80) (hT : T ≤ 4) (F : ST_F) (A : ST_A) (hF : F 6 = nI i) : ∃ A', f_M_pushMade (nI T) F A = some (upd F 6 (nI (i + 1)), A') ∧ (∀ k, k ≠ 11 → k ≠ 12 → A' k = A k) ∧ A' 11 = upd (A 11) i (nI T) ∧ (∀ k, k < 4 * i → A' 12 k = A 12 k) ∧ ∀ k, k < T → A' 12 (4 * i + k) = A 15 k := by
  obtain ⟨A', h1, h2, h3, h4, h5⟩ := mx_pm2 hi hT F hF T 0 400 A (by omega) (by omega)
  exact ⟨A', h1, h2, h3, h4, fun k hk => h5 k (Nat.zero_le _) hk⟩
theorem mx_V.mono : ∀ (r : List px_V) {A A' : ST_A}, mx_V r A → (∀ k, k < r.length → A' 11 k = A 11 k) → (∀ k, k < 4 * r.length → A' 12 k = A 12 k) → mx_V r A' := by
  intro r
  induction r with
  | nil => intro A A' _ _ _; trivial
  | cons v r ih =>
    intro A A' h h1 h2
    rw [List.length_cons] at h1 h2
    refine ⟨⟨h.1.1, by rw [h1 _ (by omega)]; exact h.1.2.1, fun j hj => by have := h.1.1.2; rw [h2 _ (by omega)]; exact h.1.2.2 j hj⟩, ih h.2 (fun k hk => h1 k (by omega)) (fun k hk => h2 k (by omega))⟩
theorem mx_W.mono : ∀ (r : List (Int32 × Nat)) {A A' : ST_A}, mx_W r A → (∀ k, k < r.length → A' 13 k = A 13 k) → (∀ k, k < r.length → A' 14 k = A 14 k) → mx_W r A' := by
  intro r
  induction r with
  | nil => intro A A' _ _ _; trivial
  | cons v r ih =>
    intro A A' h h1 h2
    rw [List.length_cons] at h1 h2
    exact ⟨⟨by rw [h1 _ (by omega)]; exact h.1.1, by rw [h2 _ (by omega)]; exact h.1.2⟩, ih h.2 (fun k hk => h1 k (by omega)) (fun k hk => h2 k (by omega))⟩
section MX
variable {len : Nat} {n0 : ST_F} {A0 : ST_A} {vars : Nat → Option px_V} {at_ op : Nat} {ws : List (Int32 × Nat)} {tg : Option Nat}
/-- after the loop: the made value goes on the stack above rest -/
theorem mx_pushed {vs0 rest : List px_V} {F F1 : ST_F} {A A1 : ST_A} {L' : px_L} {w' : Bool} {v : px_V} (h : mx_C len n0 A0 vars at_ vs0 ws op tg F A) (hrest : mx_V rest A) (hr : rest.length < 80) (hv : mx_v v) (hfr : mx_fr F A F1 A1) (hD : mx_D L' w' F1 A1) (hm : ∀ j, j < v.length → A1 15 j = nI (v.getD j 0)) : ∃ F2 A2, f_M_pushMade (nI v.length) (upd F1 6 (nI rest.length)) A1 = some (F2, A2) ∧ mx_C len n0 A0 vars at_ (v :: rest) ws op tg F2 A2 ∧ mx_D L' w' F2 A2 := by
  obtain ⟨A2, e1, e2, e3, e4, e5⟩ := mx_pm (i := rest.length) (T := v.length) hr hv.2 (upd F1 6 (nI rest.length)) A1 rfl
  obtain ⟨⟨a1, a2, a3, a4, a5, a6⟩, ⟨b1, b2⟩, ⟨c1, c2⟩, d1, d2, d3, d4⟩ := h
  have hA : ∀ k, k ≠ 6 → k ≠ 7 → k ≠ 8 → k ≠ 15 → k ≠ 11 → k ≠ 12 → A2 k = A k := fun k p1 p2 p3 p4 p5 p6 => by rw [e2 k p5 p6, hfr.2 k p1 p2 p3 p4]
  have hF : ∀ k, k ≠ 3 → k ≠ 5 → k ≠ 6 → upd (upd F1 6 (nI rest.length)) 6 (nI (rest.length + 1)) k = F k := fun k p1 p2 p3 => by
    show (if k = 6 then _ else (if k = 6 then _ else F1 k)) = F k
    rw [if_neg p3, if_neg p3, hfr.1 k p1 p2]
  refine ⟨_, A2, e1, ⟨⟨?_, ?_, rfl, ?_, ?_, ?_⟩, ⟨?_, ?_⟩, ⟨by rw [List.length_cons]; omega, c2⟩, ⟨⟨hv, ?_, ?_⟩, ?_⟩, ?_, ?_, ?_⟩, ?_⟩
  · rw [hF 1 (by decide) (by decide) (by decide)]; exact a1
  · rw [hF 4 (by decide) (by decide) (by decide)]; exact a2
  · rw [hF 7 (by decide) (by decide) (by decide)]; exact a4
  · rw [hF 8 (by decide) (by decide) (by decide)]; exact a5
  · rw [hF 9 (by decide) (by decide) (by decide)]; exact a6
  · exact ⟨by rw [hF 2 (by decide) (by decide) (by decide)]; exact b1.1, by rw [hF 1 (by decide) (by decide) (by decide)]; exact b1.2⟩
  · intro k hk
    rw [hA k (by omega) (by omega) (by omega) (by omega) (by omega) (by omega)]
    exact b2 k hk
  · rw [e3]; unfold upd; rw [if_pos rfl]
  · intro j hj
    rw [e5 j hj, hm j hj]
  · refine mx_V.mono rest hrest (fun k hk => ?_) (fun k hk => ?_)
    · rw [e3]; unfold upd; rw [if_neg (by omega), hfr.2 11 (by decide) (by decide) (by decide) (by decide)]
    · rw [e4 k hk, hfr.2 12 (by decide) (by decide) (by decide) (by decide)]
  · refine mx_W.mono ws d2 (fun k hk => ?_) (fun k hk => ?_)
    · rw [hA 13 (by decide) (by decide) (by decide) (by decide) (by decide) (by decide)]
    · rw [hA 14 (by decide) (by decide) (by decide) (by decide) (by decide) (by decide)]
  · intro k hk
    rw [hA 9 (by decide) (by decide) (by decide) (by decide) (by decide) (by decide)]
    exact d3 k hk
  · intro k u hk hu
    rw [hA 10 (by decide) (by decide) (by decide) (by decide) (by decide) (by decide)]
    exact d4 k u hk hu
  · obtain ⟨g1, g2, g3, g4⟩ := hD
    refine ⟨g1, g2, g3, fun k i hi => ?_⟩
    rw [e2 6 (by decide) (by decide), e2 7 (by decide) (by decide), e2 8 (by decide) (by decide)]
    exact g4 k i hi
/-- what an operation does to the stack -/
def mx_Q (len : Nat) (n0 : ST_F) (A0 : ST_A) (vars : Nat → Option px_V) (at_ : Nat) (rest : List px_V) (ws : List (Int32 × Nat)) (op : Nat) (tg : Option Nat) (res : Option (ST_F × ST_A)) (p : Option (px_V × px_L)) : Prop :=
  (∃ v L' F' A', p = some (v, L') ∧ res = some (F', A') ∧ mx_C len n0 A0 vars at_ (v :: rest) ws op tg F' A' ∧ mx_D L' false F' A') ∨ (p = none ∧ ∃ F' A', res = some (F', A') ∧ mx_X n0 A0 F' A')
theorem mx_C.x {vs : List px_V} {L : px_L} {F : ST_F} {A : ST_A} (h : mx_C len n0 A0 vars at_ vs ws op tg F A) (hD : mx_D L true F A) : mx_X n0 A0 F A := ⟨hD.2.1, h.2.1, ws.length, h.2.2.1.2, h.1.2.2.2.1⟩
theorem mx_Q.of {rest : List px_V} {res : Option (ST_F × ST_A)} {p : Option (px_V × px_L)} {w' : Bool} {v : px_V} {L' : px_L} (hk : cx_k false w' p (some (v, L'))) {F' : ST_F} {A' : ST_A} (e : res = some (F', A')) (hC : mx_C len n0 A0 vars at_ (v :: rest) ws op tg F' A') (hD : mx_D L' w' F' A') : mx_Q len n0 A0 vars at_ rest ws op tg res p := by
  rcases hk.2 rfl with ⟨h1, h2⟩ | ⟨h1, h2⟩
  · subst h1
    exact Or.inr ⟨h2, F', A', e, hC.x hD⟩
  · subst h1
    exact Or.inl ⟨v, L', F', A', h2, e, hC, hD⟩
/-- an operation that says no -/
theorem mx_Q.no {vs rest : List px_V} {L : px_L} {F : ST_F} {A : ST_A} (h : mx_C len n0 A0 vars at_ vs ws op tg F A) (hD : mx_D L false F A) : mx_Q len n0 A0 vars at_ rest ws op tg (some (upd F 5 1, A)) none :=
  Or.inr ⟨rfl, _, _, rfl, rfl, h.2.1, ws.length, h.2.2.1.2, h.1.2.2.2.1⟩
/-- a row of puts into made -/
theorem mx_loop {T : Nat} (hT : T ≤ 4) {g : Nat → Int32 → ST_F → ST_A → Option (ST_F × ST_A)} {kx : ST_F → ST_A → Option (ST_F × ST_A)} {f : Nat → px_I} {F0 : ST_F} {B0 : ST_A}
    (hg0 : ∀ n F A, mx_fr F0 B0 F A → g (n + 1) (nI T) F A = kx F A) (hg : ∀ n j F A, j < T → mx_fr F0 B0 F A → g (n + 1) (nI j) F A = ra_bi (f_M_put (f j).1 (f j).2.1 (f j).2.2 F A) (fun r F A => ra_g (nI j) 4 (g n (nI j + 1) F (va_up A 15 (upd (A 15) (nI j).toNatClampNeg r))))) :
    ∀ (m j n : Nat) (w : px_V) (L : px_L) (wr : Bool) (F : ST_F) (A : ST_A), j + m = T → w.length = j → m < n → mx_D L wr F A → mx_fr F0 B0 F A → (∀ i, i < j → A 15 i = nI (w.getD i 0)) → ∃ w' L' wr' F' A', g n (nI j) F A = kx F' A' ∧ mx_D L' wr' F' A' ∧ mx_fr F0 B0 F' A' ∧ w'.length = T ∧ (∀ i, i < T → A' 15 i = nI (w'.getD i 0)) ∧ cx_k wr wr' ((px_puts L ((List.range' j m).map f)).map fun z => (w ++ z.1, z.2)) (some (w', L')) := by
  intro m
  induction m with
  | zero =>
    intro j n w L wr F A hj hw hn hD hfr hm
    obtain ⟨n, rfl⟩ : ∃ n', n = n' + 1 := ⟨n - 1, by omega⟩
    have hjT : j = T := by omega
    rw [hjT, hg0 n F A hfr]
    refine ⟨w, L, wr, F, A, rfl, hD, hfr, by omega, fun i hi => hm i (by omega), ?_⟩
    have e : ((px_puts L ((List.range' T 0).map f)).map fun z => (w ++ z.1, z.2)) = some (w, L) := by simp [px_puts]
    rw [e]
    exact cx_k.rf
  | succ m ih =>
    intro j n w L wr F A hj hw hn hD hfr hm
    obtain ⟨n, rfl⟩ : ∃ n', n = n' + 1 := ⟨n - 1, by omega⟩
    rw [hg n j F A (by omega) hfr]
    obtain ⟨r, L1, w1, F1, A1, h1, h2, h3, h4, h5⟩ := mx_put hD (f j)
    rw [h1, ra_bi_s, ra_g_in (by omega) (by decide), nI_clamp (by omega), ← nI_succ]
    obtain ⟨w', L2, w2, F2, A2, g1, g2, g3, g4, g5, g6⟩ := ih (j + 1) n (w ++ [r]) L1 w1 F1 (va_up A1 15 (upd (A1 15) j (nI r))) (by omega) (by rw [List.length_append, hw]; rfl) (by omega) (h2.made _) ((hfr.tr h3).made _) (fun i hi => by
      show upd (A1 15) j (nI r) i = _
      unfold upd
      by_cases hij : i = j
      · rw [if_pos hij, hij, List.getD_eq_getElem?_getD, List.getElem?_append_right (by omega), hw]
        simp
      · rw [if_neg hij, h4, hm i (by omega), List.getD_eq_getElem?_getD, List.getD_eq_getElem?_getD, List.getElem?_append_left (by omega)])
    refine ⟨w', L2, w2, F2, A2, g1, g2, g3, g4, g5, ?_⟩
    have := h5.bind (f := fun x => (px_puts x.2 ((List.range' (j + 1) m).map f)).map fun z => (w ++ [x.1] ++ z.1, z.2)) g6
    rw [List.range'_succ, List.map_cons, px_puts]
    have e : (((px_put L (f j)).bind fun r => (px_puts r.2 (List.map f (List.range' (j + 1) m))).bind fun q => some (r.1 :: q.1, q.2)).map fun z => (w ++ z.1, z.2)) = (px_put L (f j)).bind fun x => (px_puts x.2 ((List.range' (j + 1) m).map f)).map fun z => (w ++ [x.1] ++ z.1, z.2) := by
      cases px_put L (f j) with
      | none => rfl
      | some x =>
        show ((px_puts x.2 ((List.range' (j + 1) m).map f)).bind _).map _ = (px_puts x.2 ((List.range' (j + 1) m).map f)).map _
        cases px_puts x.2 ((List.range' (j + 1) m).map f) with
        | none => rfl
        | some z => simp
    rw [e]
    exact this
theorem mx_loop0 {T : Nat} (hT : T ≤ 4) {g : Nat → Int32 → ST_F → ST_A → Option (ST_F × ST_A)} {kx : ST_F → ST_A → Option (ST_F × ST_A)} {f : Nat → px_I} {F0 : ST_F} {B0 : ST_A}
    (hg0 : ∀ n F A, mx_fr F0 B0 F A → g (n + 1) (nI T) F A = kx F A) (hg : ∀ n j F A, j < T → mx_fr F0 B0 F A → g (n + 1) (nI j) F A = ra_bi (f_M_put (f j).1 (f j).2.1 (f j).2.2 F A) (fun r F A => ra_g (nI j) 4 (g n (nI j + 1) F (va_up A 15 (upd (A 15) (nI j).toNatClampNeg r)))))
    {L : px_L} {wr : Bool} (hD : mx_D L wr F0 B0) : ∃ w' L' wr' F' A', g 400 0 F0 B0 = kx F' A' ∧ mx_D L' wr' F' A' ∧ mx_fr F0 B0 F' A' ∧ w'.length = T ∧ (∀ i, i < T → A' 15 i = nI (w'.getD i 0)) ∧ cx_k wr wr' (px_puts L ((List.range T).map f)) (some (w', L')) := by
  have h := mx_loop hT hg0 hg T 0 400 [] L wr F0 B0 (by omega) rfl (by omega) hD mx_fr.rf (fun i hi => absurd hi (Nat.not_lt_zero i))
  have e : ((px_puts L ((List.range' 0 T).map f)).map fun z => (([] : px_V) ++ z.1, z.2)) = px_puts L ((List.range T).map f) := by
    rw [List.range_eq_range']
    cases px_puts L ((List.range' 0 T).map f) <;> rfl
  rw [e, nI_0] at h
  exact h
end MX
