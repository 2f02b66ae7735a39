/-! the class's compiler against the grammar: the code's list, the operations -/
theorem nI_eqI {a b : Nat} (ha : a < 2 ^ 31) (hb : b < 2 ^ 31) : nI a = nI b ↔ a = b := by
  constructor
  · intro h
    have h1 := nI_toInt ha
    have h2 := nI_toInt hb
    rw [h] at h1
    omega
  · intro h; rw [h]
theorem nI_nn1 {a : Nat} (ha : a < 2 ^ 31) : ¬ nI a = -1 := by
  intro h
  have h1 := nI_toInt ha
  rw [h] at h1
  have h2 : ((-1 : Int32)).toInt = -1 := by decide
  omega
/-- an instruction that fits at place n -/
def cx_i (n : Nat) (i : px_I) : Prop := i.1 = 0 ∨ (i.1 = 1 ∧ ∃ j, j < 6 ∧ i.2.1 = nI j) ∨ ((∃ t, 2 ≤ t ∧ t ≤ 11 ∧ i.1 = nI t) ∧ (∃ p, p < n ∧ i.2.1 = nI p) ∧ ∃ p, p < n ∧ i.2.2 = nI p)
theorem cx_i.mono {n m : Nat} {i : px_I} (h : cx_i n i) (hm : n ≤ m) : cx_i m i := by
  rcases h with h | h | ⟨h1, ⟨p, hp, h2⟩, q, hq, h3⟩
  · exact Or.inl h
  · exact Or.inr (Or.inl h)
  · exact Or.inr (Or.inr ⟨h1, ⟨p, by omega, h2⟩, q, by omega, h3⟩)
theorem cx_i2 {n t a b : Nat} (ht : 2 ≤ t) (ht' : t ≤ 11) (ha : a < n) (hb : b < n) {k : Int32} (hk : k = nI t) : cx_i n (k, nI a, nI b) := Or.inr (Or.inr ⟨⟨t, ht, ht', hk⟩, ⟨a, ha, rfl⟩, b, hb, rfl⟩)
def cx_L (L : px_L) : Prop := L.length ≤ 100 ∧ ∀ (k : Nat) (i : px_I), L[k]? = some i → cx_i k i
def cx_v : Option px_V → Int32
  | none => -1
  | some v => pv v
def cx_o (L : px_L) (v : px_V) : Prop := 1 ≤ v.length ∧ v.length ≤ 4 ∧ ∀ p ∈ v, p < L.length
theorem cx_o.mono {L L' : px_L} {v : px_V} (h : cx_o L v) (hL : L.length ≤ L'.length) : cx_o L' v := ⟨h.1, h.2.1, fun p hp => Nat.lt_of_lt_of_le (h.2.2 p hp) hL⟩
theorem cx_o.ok {L : px_L} {v : px_V} (h : cx_o L v) (hL : L.length ≤ 100) : pv_ok v := ⟨h.1, h.2.1, fun p hp => by have := h.2.2 p hp; omega⟩
theorem cx_o.get {L : px_L} {v : px_V} (h : cx_o L v) {i : Nat} (hi : i < v.length) : v.getD i 0 < L.length := by
  rw [List.getD_eq_getElem?_getD, List.getElem?_eq_getElem hi]
  exact h.2.2 _ (List.getElem_mem hi)
theorem cx_o.pos {L : px_L} {v : px_V} (h : cx_o L v) : 0 < L.length := by
  have := h.get (i := 0) h.1
  omega
/-- any number of a value, also behind its end -/
theorem cx_o.getA {L : px_L} {v : px_V} (h : cx_o L v) (i : Nat) : v.getD i 0 < L.length := by
  by_cases hi : i < v.length
  · exact h.get hi
  · rw [List.getD_eq_getElem?_getD, List.getElem?_eq_none (by omega)]
    exact h.pos
def cx_S (ch : Nat → Int32) (len : Nat) (vars : Nat → Option px_V) (at_ : Nat) (L : px_L) (tl : Bool) (F : ST_F) (A : ST_A) : Prop :=
  F 0 = nI len ∧ F 1 = nI at_ ∧ F 2 = nI L.length ∧ F 3 = (if tl = true then 1 else 0) ∧ cx_L L ∧ (∀ k, k < len → A 1 k = ch k) ∧ (∀ (k : Nat) (i : px_I), L[k]? = some i → A 2 k = i.1 ∧ A 3 k = i.2.1 ∧ A 4 k = i.2.2) ∧ (∀ j, j < 26 → A 0 j = cx_v (vars j)) ∧ ∀ j v, vars j = some v → cx_o L v
/-- what a step of the class says of the grammar's step: q is the class's answer, t1 whether the code has run over -/
def cx_k {β : Type} (t0 t1 : Bool) (p q : Option β) : Prop := (t0 = true → t1 = true) ∧ (t0 = false → (t1 = true ∧ p = none) ∨ (t1 = false ∧ p = q))
theorem cx_k.rf {β : Type} {t : Bool} {p : Option β} : cx_k t t p p := ⟨id, fun h => Or.inr ⟨h, rfl⟩⟩
theorem cx_k.bind {β γ : Type} {t0 t1 t2 : Bool} {p : Option β} {x : β} {f : β → Option γ} {q : Option γ} (h : cx_k t0 t1 p (some x)) (h2 : cx_k t1 t2 (f x) q) : cx_k t0 t2 (p.bind f) q := by
  refine ⟨fun h0 => h2.1 (h.1 h0), fun h0 => ?_⟩
  rcases h.2 h0 with ⟨h3, h4⟩ | ⟨h3, h4⟩
  · exact Or.inl ⟨h2.1 h3, by rw [h4]; rfl⟩
  · rw [h4]
    exact h2.2 h3
theorem cx_k.fail {β γ : Type} {t0 t1 t2 : Bool} {p : Option β} {f : β → Option γ} {q : Option γ} (h : cx_k t0 t1 p none) (h2 : t1 = true → t2 = true) (h3 : t2 = true ∨ q = none) : cx_k t0 t2 (p.bind f) q := by
  refine ⟨fun h0 => h2 (h.1 h0), fun h0 => ?_⟩
  rcases h.2 h0 with ⟨h4, h5⟩ | ⟨h4, h5⟩
  · exact Or.inl ⟨h2 h4, by rw [h5]; rfl⟩
  · rw [h5]
    by_cases h6 : t2 = true
    · exact Or.inl ⟨h6, rfl⟩
    · exact Or.inr ⟨by simpa using h6, by rcases h3 with h3 | h3 <;> simp_all⟩
/-- the grammar says no, the class says no or has run over -/
theorem cx_k.no {β : Type} {t0 t1 : Bool} {q : Option β} (h1 : t0 = true → t1 = true) (h3 : t1 = true ∨ q = none) : cx_k t0 t1 none q := by
  refine ⟨h1, fun h0 => ?_⟩
  by_cases h6 : t1 = true
  · exact Or.inl ⟨h6, rfl⟩
  · exact Or.inr ⟨by simpa using h6, by rcases h3 with h3 | h3 <;> simp_all⟩
theorem cx_k.map {β γ : Type} {t0 t1 : Bool} {p q : Option β} (h : cx_k t0 t1 p q) (f : β → γ) : cx_k t0 t1 (p.map f) (q.map f) := by
  refine ⟨h.1, fun h0 => ?_⟩
  rcases h.2 h0 with ⟨h4, h5⟩ | ⟨h4, h5⟩
  · exact Or.inl ⟨h4, by rw [h5]; rfl⟩
  · exact Or.inr ⟨h4, by rw [h5]⟩
theorem px_find_some : ∀ (L : px_L) (i : px_I) (k : Nat), px_find L i = some k → L[k]? = some i ∧ k < L.length ∧ ∀ j, j < k → L[j]? ≠ some i := by
  intro L
  induction L with
  | nil => intro i k h; cases h
  | cons x l ih =>
    intro i k h
    unfold px_find at h
    by_cases hx : x = i
    · rw [if_pos hx] at h
      cases h
      exact ⟨by rw [hx]; rfl, by simp, fun j hj => absurd hj (Nat.not_lt_zero j)⟩
    · rw [if_neg hx] at h
      cases hf : px_find l i with
      | none => rw [hf] at h; cases h
      | some k' =>
        rw [hf] at h
        cases h
        obtain ⟨h1, h2, h3⟩ := ih i k' hf
        refine ⟨by simpa using h1, by simp; omega, fun j hj => ?_⟩
        cases j with
        | zero => simpa using hx
        | succ j => simpa using h3 j (Nat.lt_of_succ_lt_succ hj)
theorem px_find_none : ∀ (L : px_L) (i : px_I), px_find L i = none → ∀ k : Nat, L[k]? ≠ some i := by
  intro L
  induction L with
  | nil => intro i _ k; simp
  | cons x l ih =>
    intro i h k
    unfold px_find at h
    by_cases hx : x = i
    · rw [if_pos hx] at h; cases h
    · rw [if_neg hx] at h
      have h1 : px_find l i = none := by
        cases hf : px_find l i with
        | none => rfl
        | some k' => rw [hf] at h; cases h
      cases k with
      | zero => simpa using hx
      | succ k => simpa using ih i h1 k
section CX
variable {ch : Nat → Int32} {len : Nat} {vars : Nat → Option px_V}
theorem cx_find {at_ : Nat} {L : px_L} {tl : Bool} {F : ST_F} {A : ST_A} (h : cx_S ch len vars at_ L tl F A) (i : px_I) : ∀ (n j : Nat), L.length < n + j → j ≤ L.length → f_K_put_L3 n i.1 i.2.1 i.2.2 (nI j) F A = match px_find (L.drop j) i with
    | some m => some (nI (j + m), F, A)
    | none => f_K_put_L3 1 i.1 i.2.1 i.2.2 (nI L.length) F A := by
  obtain ⟨h0, h1, h2, h3, ⟨h4, h4'⟩, h5, h6, h7⟩ := h
  intro n
  induction n with
  | zero => intro j hn hj; omega
  | succ n ih =>
    intro j hn hj
    by_cases hl : j = L.length
    · rw [hl, List.drop_length]
      show _ = f_K_put_L3 1 i.1 i.2.1 i.2.2 (nI L.length) F A
      unfold f_K_put_L3
      rw [h2, if_pos (nI_le (Nat.le_refl _) (by omega)), if_pos (nI_le (Nat.le_refl _) (by omega))]
    · have hjl : j < L.length := by omega
      have hx : L[j]? = some L[j] := List.getElem?_eq_getElem hjl
      have h9 := h6 j _ hx
      have hs := ih (j + 1) (by omega) (by omega)
      rw [f_K_put_L3, h2, if_neg (nI_ge hjl (by omega)), ra_g_in (by omega) (by decide), ra_g_in (by omega) (by decide), ra_g_in (by omega) (by decide), nI_clamp (by omega), h9.1, h9.2.1, h9.2.2, ← nI_succ, hs, List.drop_eq_getElem_cons hjl, px_find]
      by_cases he : L[j] = i
      · rw [if_pos he, he, if_pos rfl, if_pos rfl, if_pos rfl]
        rfl
      · rw [if_neg he]
        have hgo : (match px_find (L.drop (j + 1)) i with
    | some m => some (nI (j + 1 + m), F, A)
    | none => f_K_put_L3 1 i.1 i.2.1 i.2.2 (nI L.length) F A) = (match Option.map (fun k => k + 1) (px_find (L.drop (j + 1)) i) with
    | some m => some (nI (j + m), F, A)
    | none => f_K_put_L3 1 i.1 i.2.1 i.2.2 (nI L.length) F A) := by
          cases px_find (L.drop (j + 1)) i with
          | none => rfl
          | some m => show some (nI (j + 1 + m), F, A) = some (nI (j + (m + 1)), F, A); rw [Nat.add_assoc, Nat.add_comm 1 m]
        by_cases c1 : L[j].1 = i.1
        · rw [if_pos c1]
          by_cases c2 : L[j].2.1 = i.2.1
          · rw [if_pos c2]
            by_cases c3 : L[j].2.2 = i.2.2
            · exact absurd (Prod.ext c1 (Prod.ext c2 c3)) he
            · rw [if_neg c3, hgo]
          · rw [if_neg c2, hgo]
        · rw [if_neg c1, hgo]
/-- the class's put -/
theorem cx_put {at_ : Nat} {L : px_L} {tl : Bool} {F : ST_F} {A : ST_A} (h : cx_S ch len vars at_ L tl F A) {i : px_I} (hi : cx_i L.length i) : ∃ r L' tl' F' A', f_K_put i.1 i.2.1 i.2.2 F A = some (nI r, F', A') ∧ cx_S ch len vars at_ L' tl' F' A' ∧ L.length ≤ L'.length ∧ r < L'.length ∧ cx_k tl tl' (px_put L i) (some (r, L')) := by
  have hS := h
  obtain ⟨h0, h1, h2, h3, ⟨h4, h4'⟩, h5, h6, h7, h8⟩ := h
  have hp : f_K_put i.1 i.2.1 i.2.2 F A = _ := cx_find hS i 200 0 (by omega) (Nat.zero_le _)
  rw [hp, List.drop_zero]
  unfold px_put
  cases hf : px_find L i with
  | some k =>
    obtain ⟨e1, e2, e3⟩ := px_find_some L i k hf
    exact ⟨k, L, tl, F, A, by show some (nI (0 + k), F, A) = _; rw [Nat.zero_add], hS, Nat.le_refl _, e2, cx_k.rf⟩
  | none =>
    show ∃ r L' tl' F' A', f_K_put_L3 1 i.1 i.2.1 i.2.2 (nI L.length) F A = some (nI r, F', A') ∧ _
    unfold f_K_put_L3
    rw [h2, if_pos (nI_le (Nat.le_refl _) (by omega))]
    by_cases hl : L.length = 100
    · rw [if_pos (by rw [hl]; rfl), if_pos hl]
      refine ⟨0, L, true, upd F 3 1, A, rfl, ⟨h0, h1, h2, rfl, ⟨h4, h4'⟩, h5, h6, h7, h8⟩, Nat.le_refl _, by omega, fun _ => rfl, fun _ => Or.inl ⟨rfl, rfl⟩⟩
    · rw [if_neg (by rw [show (100 : Int32) = nI 100 from rfl, nI_eqI (by omega) (by omega)]; exact hl), if_neg hl, ra_g_in (by omega) (by decide), ra_g_in (by omega) (by decide), ra_g_in (by omega) (by decide), nI_clamp (by omega), ← nI_succ, nI_pred]
      refine ⟨L.length, L ++ [i], tl, _, _, rfl, ⟨h0, h1, ?_, h3, ⟨?_, ?_⟩, h5, ?_, h7, ?_⟩, by simp, by simp, cx_k.rf⟩
      · rw [List.length_append]; rfl
      · rw [List.length_append]; simp; omega
      · intro k j hk
        by_cases hkl : k < L.length
        · rw [List.getElem?_append_left hkl] at hk
          exact h4' k j hk
        · rw [List.getElem?_append_right (by omega)] at hk
          by_cases hk0 : k = L.length
          · subst hk0
            rw [Nat.sub_self] at hk
            have : i = j := by simpa using hk
            rw [← this]; exact hi
          · rw [List.getElem?_eq_none (by simp; omega)] at hk
            cases hk
      · intro k j hk
        have hu : ∀ (f : Nat → Int32) (x : Int32), upd f L.length x k = if k = L.length then x else f k := fun f x => rfl
        show upd (A 2) L.length i.1 k = j.1 ∧ upd (A 3) L.length i.2.1 k = j.2.1 ∧ upd (A 4) L.length i.2.2 k = j.2.2
        rw [hu, hu, hu]
        by_cases hkl : k < L.length
        · rw [List.getElem?_append_left hkl] at hk
          rw [if_neg (by omega), if_neg (by omega), if_neg (by omega)]
          exact h6 k j hk
        · rw [List.getElem?_append_right (by omega)] at hk
          by_cases hk0 : k = L.length
          · rw [hk0, Nat.sub_self] at hk
            have : i = j := by simpa using hk
            rw [if_pos hk0, if_pos hk0, if_pos hk0, this]
            exact ⟨rfl, rfl, rfl⟩
          · rw [List.getElem?_eq_none (by simp; omega)] at hk
            cases hk
      · intro j v hv
        exact (h8 j v hv).mono (by simp)
end CX
