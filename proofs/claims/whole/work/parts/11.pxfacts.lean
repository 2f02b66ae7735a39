/-! facts: every piece takes characters; where it ends; the simulation of the grammar by the reference's stacks -/
theorem pxf_isfn {c : Int32} (h : px_isfn c = true) : c = 65 ∨ c = 70 ∨ c = 78 ∨ c = 88 ∨ c = 83 ∨ c = 68 ∨ c = 86 ∨ c = 77 := by
  simpa [px_isfn, or_assoc] using h
theorem pxf_dig_fn {c : Int32} (hd : px_dig c = true) : ¬ px_isfn c = true := by
  intro h
  rcases pxf_isfn h with rfl | rfl | rfl | rfl | rfl | rfl | rfl | rfl <;> exact absurd hd (by decide)
theorem pxf_small_fn {c : Int32} (hd : px_small c = true) : ¬ px_isfn c = true := by
  intro h
  rcases pxf_isfn h with rfl | rfl | rfl | rfl | rfl | rfl | rfl | rfl <;> exact absurd hd (by decide)
theorem pxf_small_dig {c : Int32} (hd : px_small c = true) : ¬ px_dig c = true := by
  intro h
  simp only [px_small, px_dig, Bool.and_eq_true, decide_eq_true_eq] at hd h
  exact absurd (Int32.le_trans hd.1 h.2) (by decide)
theorem pxf_dig_ne {c d : Int32} (hd : px_dig c = true) (h : px_dig d = false) : c ≠ d := by
  intro e
  rw [e, h] at hd
  cases hd
theorem pxf_small_ne {c d : Int32} (hd : px_small c = true) (h : px_small d = false) : c ≠ d := by
  intro e
  rw [e, h] at hd
  cases hd
theorem pxf_fn_ne {c d : Int32} (hd : px_isfn c = true) (h : px_isfn d = false) : c ≠ d := by
  intro e
  rw [e, h] at hd
  cases hd
section PXF
variable {ch : Nat → Int32} {len : Nat}
theorem pxf_lt (hz : ∀ k, len ≤ k → ch k = 0) {k : Nat} (h : ch k ≠ 0) : k < len := by
  rcases Nat.lt_or_ge k len with h1 | h1
  · exact h1
  · exact absurd (hz k h1) h
theorem pxf_digl (hz : ∀ k, len ≤ k → ch k = 0) {k : Nat} (h : px_dig (ch k) = true) : k < len := pxf_lt hz (pxf_dig_ne h (by decide))
theorem pxf_plcl (hz : ∀ k, len ≤ k → ch k = 0) {k : Nat} (h : px_plc (ch k) = true) : k < len := pxf_lt hz (fun e => by rw [e] at h; exact absurd h (by decide))
theorem pxf_smalll (hz : ∀ k, len ≤ k → ch k = 0) {k : Nat} (h : px_small (ch k) = true) : k < len := pxf_lt hz (pxf_small_ne h (by decide))
theorem pxf_eql (hz : ∀ k, len ≤ k → ch k = 0) {k : Nat} {c : Int32} (h : ch k = c) (hc : c ≠ 0) : k < len := pxf_lt hz (by rw [h]; exact hc)
theorem pxf_digs (hz : ∀ k, len ≤ k → ch k = 0) : ∀ (n at_ : Nat) (a s : Int32), at_ ≤ (px_digs ch n at_ a s).1 ∧ (at_ ≤ len → (px_digs ch n at_ a s).1 ≤ len) := by
  intro n
  induction n with
  | zero => intro at_ a s; exact ⟨Nat.le_refl _, fun h => h⟩
  | succ n ih =>
    intro at_ a s
    rw [px_digs]
    split
    · rename_i h
      have h1 := ih (at_ + 1) (a * 10 + (ch at_ - 48)) (s * 10)
      have h2 := pxf_digl hz h
      exact ⟨by omega, fun _ => h1.2 (by omega)⟩
    · exact ⟨Nat.le_refl _, fun h => h⟩
theorem pxf_digs1 (hz : ∀ k, len ≤ k → ch k = 0) {at_ : Nat} (h : px_dig (ch at_) = true) (n : Nat) (a s : Int32) : at_ < (px_digs ch (n + 1) at_ a s).1 := by
  rw [px_digs, if_pos h]
  exact (pxf_digs hz n (at_ + 1) _ _).1
theorem pxf_const (hz : ∀ k, len ≤ k → ch k = 0) {at_ : Nat} (hd : px_dig (ch at_) = true) {x : Int32 × Nat} (h : px_const ch at_ = some x) : at_ < x.2 ∧ x.2 ≤ len := by
  have h1 := pxf_digs1 hz hd 3 0 1
  have h2 := (pxf_digs hz 4 at_ 0 1).2 (Nat.le_of_lt (pxf_digl hz hd))
  have h1 : at_ < (px_digs ch 4 at_ 0 1).1 := h1
  unfold px_const at h
  generalize px_digs ch 4 at_ 0 1 = w at h h1 h2
  have h3 := pxf_digs hz 4 (w.1 + 1) 0 1
  generalize px_digs ch 4 (w.1 + 1) 0 1 = f at h h3
  split at h
  · rename_i hp
    have h4 := pxf_eql hz hp (by decide)
    split at h
    · cases h
    · cases h
      exact ⟨by show at_ < f.1; omega, h3.2 (by omega)⟩
  · cases h
    exact ⟨h1, h2⟩
theorem pxf_places (hz : ∀ k, len ≤ k → ch k = 0) : ∀ (n at_ : Nat), at_ ≤ len → at_ + (px_places ch n at_).length ≤ len := by
  intro n
  induction n with
  | zero => intro at_ h; exact h
  | succ n ih =>
    intro at_ h
    rw [px_places]
    split
    · rename_i hp
      have h1 := pxf_plcl hz hp
      have h2 := ih (at_ + 1) (by omega)
      rw [List.length_cons]
      omega
    · exact h
theorem pxf_pick (hz : ∀ k, len ≤ k → ch k = 0) {v : px_V} {at_ : Nat} (hl : at_ ≤ len) {x : px_V × Nat} (h : px_pick ch v at_ = some x) : at_ ≤ x.2 ∧ x.2 ≤ len := by
  unfold px_pick at h
  split at h
  · rename_i hp
    have h1 := pxf_eql hz hp (by decide)
    have h2 := pxf_places hz 3 (at_ + 1) (by omega)
    split at h
    · cases h
    · cases h
      exact ⟨by show at_ ≤ at_ + 1 + _; omega, h2⟩
  · cases h
    exact ⟨Nat.le_refl _, hl⟩
def px_ok1 (len : Nat) (P : px_P) : Prop := ∀ at_ L x, P at_ L = some x → at_ < x.2.1 ∧ x.2.1 ≤ len
def px_nop (c : Int32) : Prop := c ≠ 42 ∧ c ≠ 47 ∧ c ≠ 43 ∧ c ≠ 45
def px_ok2 (ch : Nat → Int32) (len : Nat) (P : px_P) : Prop := px_ok1 len P ∧ ∀ at_ L x, P at_ L = some x → px_nop (ch x.2.1)
theorem pxf_args (hz : ∀ k, len ≤ k → ch k = 0) {inner : px_P} (hin : px_ok1 len inner) : ∀ (n : Nat) (acc : List px_V) (at_ : Nat) (L : px_L) (x : List px_V × Nat × px_L), px_args ch inner n acc at_ L = some x → at_ < x.2.1 ∧ x.2.1 ≤ len := by
  intro n
  induction n with
  | zero => intro acc at_ L x h; cases h
  | succ n ih =>
    intro acc at_ L x h
    rw [px_args] at h
    obtain ⟨r, hr, h⟩ := Option.bind_eq_some_iff.mp h
    have h1 := hin _ _ _ hr
    split at h
    · have h2 := ih _ _ _ _ h
      omega
    · split at h
      · rename_i hp
        have h3 := pxf_eql hz hp (by decide)
        cases h
        exact ⟨by show at_ < r.2.1 + 1; omega, h3⟩
      · cases h
variable {vars : Nat → Option px_V}
theorem pxf_part (hz : ∀ k, len ≤ k → ch k = 0) {inner : px_P} (hin : px_ok1 len inner) : px_ok1 len (px_part ch vars inner) := by
  intro at_ L x h
  unfold px_part at h
  split at h
  · rename_i hs
    have h1 := pxf_smalll hz hs
    obtain ⟨r, hr, h⟩ := Option.bind_eq_some_iff.mp h
    cases h
    exact ⟨by show at_ < at_ + 1; omega, h1⟩
  · split at h
    · obtain ⟨r, hr, h⟩ := Option.bind_eq_some_iff.mp h
      have h1 := hin _ _ _ hr
      split at h
      · rename_i hp
        have h3 := pxf_eql hz hp (by decide)
        cases h
        exact ⟨by show at_ < r.2.1 + 1; omega, h3⟩
      · cases h
    · split at h
      · obtain ⟨r, hr, h⟩ := Option.bind_eq_some_iff.mp h
        have h1 := pxf_args hz hin _ _ _ _ _ hr
        obtain ⟨q, hq, h⟩ := Option.bind_eq_some_iff.mp h
        cases h
        exact ⟨by show at_ < r.2.1; omega, h1.2⟩
      · cases h
theorem pxf_core (hz : ∀ k, len ≤ k → ch k = 0) {inner : px_P} (hin : px_ok1 len inner) : px_ok1 len (px_core ch vars inner) := by
  intro at_ L x h
  unfold px_core at h
  split at h
  · rename_i hd
    obtain ⟨r, hr, h⟩ := Option.bind_eq_some_iff.mp h
    obtain ⟨q, hq, h⟩ := Option.bind_eq_some_iff.mp h
    cases h
    exact pxf_const hz hd hr
  · obtain ⟨r, hr, h⟩ := Option.bind_eq_some_iff.mp h
    obtain ⟨q, hq, h⟩ := Option.bind_eq_some_iff.mp h
    cases h
    have h1 := pxf_part hz hin _ _ _ hr
    have h2 := pxf_pick hz h1.2 hq
    exact ⟨by show at_ < q.2; omega, h2.2⟩
theorem pxf_signs (hz : ∀ k, len ≤ k → ch k = 0) : ∀ (n at_ k : Nat), at_ ≤ (px_signs ch n at_ k).2 ∧ (len ≤ n + at_ → ch (px_signs ch n at_ k).2 ≠ 45) := by
  intro n
  induction n with
  | zero => intro at_ k; exact ⟨Nat.le_refl _, fun h => by rw [px_signs, hz _ (by omega)]; decide⟩
  | succ n ih =>
    intro at_ k
    rw [px_signs]
    split
    · have h1 := ih (at_ + 1) (k + 1)
      exact ⟨by omega, fun h => h1.2 (by omega)⟩
    · rename_i h
      exact ⟨Nat.le_refl _, fun _ => h⟩
theorem pxf_unit (hz : ∀ k, len ≤ k → ch k = 0) {inner : px_P} (hin : px_ok1 len inner) : px_ok1 len (px_unit ch vars inner) := by
  intro at_ L x h
  unfold px_unit at h
  obtain ⟨r, hr, h⟩ := Option.bind_eq_some_iff.mp h
  obtain ⟨q, hq, h⟩ := Option.bind_eq_some_iff.mp h
  cases h
  have h1 := pxf_core hz hin _ _ _ hr
  have h2 := (pxf_signs hz 160 at_ 0).1
  exact ⟨by show at_ < r.2.1; omega, h1.2⟩
theorem pxf_prodL (hz : ∀ k, len ≤ k → ch k = 0) {inner : px_P} (hin : px_ok1 len inner) : ∀ (n : Nat) (v : px_V) (at_ : Nat) (L : px_L) (x : px_V × Nat × px_L), at_ ≤ len → px_prodL ch vars inner n v at_ L = some x → at_ ≤ x.2.1 ∧ x.2.1 ≤ len ∧ ch x.2.1 ≠ 42 ∧ ch x.2.1 ≠ 47 := by
  intro n
  induction n with
  | zero => intro v at_ L x hl h; cases h
  | succ n ih =>
    intro v at_ L x hl h
    rw [px_prodL] at h
    split at h
    · obtain ⟨r, hr, h⟩ := Option.bind_eq_some_iff.mp h
      obtain ⟨q, hq, h⟩ := Option.bind_eq_some_iff.mp h
      have h1 := pxf_unit hz hin _ _ _ hr
      have h2 := ih _ _ _ _ h1.2 h
      exact ⟨by omega, h2.2⟩
    · rename_i hn
      cases h
      exact ⟨Nat.le_refl _, hl, fun e => hn (Or.inl e), fun e => hn (Or.inr e)⟩
theorem pxf_prod (hz : ∀ k, len ≤ k → ch k = 0) {inner : px_P} (hin : px_ok1 len inner) {at_ : Nat} {L : px_L} {x : px_V × Nat × px_L} (h : px_prod ch vars inner at_ L = some x) : at_ < x.2.1 ∧ x.2.1 ≤ len ∧ ch x.2.1 ≠ 42 ∧ ch x.2.1 ≠ 47 := by
  unfold px_prod at h
  obtain ⟨r, hr, h⟩ := Option.bind_eq_some_iff.mp h
  have h1 := pxf_unit hz hin _ _ _ hr
  have h2 := pxf_prodL hz hin _ _ _ _ _ h1.2 h
  exact ⟨by omega, h2.2⟩
theorem pxf_sumL (hz : ∀ k, len ≤ k → ch k = 0) {inner : px_P} (hin : px_ok1 len inner) : ∀ (n : Nat) (v : px_V) (at_ : Nat) (L : px_L) (x : px_V × Nat × px_L), at_ ≤ len → ch at_ ≠ 42 → ch at_ ≠ 47 → px_sumL ch vars inner n v at_ L = some x → at_ ≤ x.2.1 ∧ x.2.1 ≤ len ∧ px_nop (ch x.2.1) := by
  intro n
  induction n with
  | zero => intro v at_ L x hl _ _ h; cases h
  | succ n ih =>
    intro v at_ L x hl h42 h47 h
    rw [px_sumL] at h
    split at h
    · obtain ⟨r, hr, h⟩ := Option.bind_eq_some_iff.mp h
      obtain ⟨q, hq, h⟩ := Option.bind_eq_some_iff.mp h
      have h1 := pxf_prod hz hin hr
      have h2 := ih _ _ _ _ h1.2.1 h1.2.2.1 h1.2.2.2 h
      exact ⟨by omega, h2.2⟩
    · rename_i hn
      cases h
      exact ⟨Nat.le_refl _, hl, h42, h47, fun e => hn (Or.inl e), fun e => hn (Or.inr e)⟩
theorem pxf_sum (hz : ∀ k, len ≤ k → ch k = 0) {inner : px_P} (hin : px_ok1 len inner) : px_ok2 ch len (px_sum ch vars inner) := by
  have key : ∀ at_ L x, px_sum ch vars inner at_ L = some x → at_ < x.2.1 ∧ x.2.1 ≤ len ∧ px_nop (ch x.2.1) := by
    intro at_ L x h
    unfold px_sum at h
    obtain ⟨r, hr, h⟩ := Option.bind_eq_some_iff.mp h
    have h1 := pxf_prod hz hin hr
    have h2 := pxf_sumL hz hin _ _ _ _ _ h1.2.1 h1.2.2.1 h1.2.2.2 h
    exact ⟨by omega, h2.2⟩
  exact ⟨fun at_ L x h => ⟨(key _ _ _ h).1, (key _ _ _ h).2.1⟩, fun at_ L x h => (key _ _ _ h).2.2⟩
theorem pxf_sumD (hz : ∀ k, len ≤ k → ch k = 0) : ∀ d, px_ok2 ch len (px_sumD ch vars d) := by
  intro d
  induction d with
  | zero => exact pxf_sum hz (fun _ _ _ h => by cases h)
  | succ d ih => exact pxf_sum hz ih.1
end PXF
/-! what the run comes to -/
def px_to {α ρ : Type} (x : Option α) (r : Option ρ) (P : α → Prop) : Prop := match x with
  | none => r = none
  | some a => P a
theorem px_to_bind {α β ρ : Type} {x : Option α} {f : α → Option β} {r : Option ρ} {P : β → Prop} : px_to (x.bind f) r P ↔ px_to x r (fun a => px_to (f a) r P) := by
  cases x <;> exact Iff.rfl
theorem px_to_imp {α ρ : Type} {x : Option α} {r : Option ρ} {P P' : α → Prop} (h : px_to x r P) (hi : ∀ a, x = some a → P a → P' a) : px_to x r P' := by
  cases x with
  | none => exact h
  | some a => exact hi a rfl h
theorem px_k_ex {α ρ : Type} {x : Option α} {f : Nat → α → Option (Option ρ)} {r : Option ρ} (h : px_to x r (fun a => ∃ n, f n a = some r)) : ∃ n, px_k x (f n) = some r := by
  cases x with
  | none => exact ⟨0, by have h : r = none := h; rw [h]; rfl⟩
  | some a => exact h
def px_Ev (ch : Nat → Int32) (len : Nat) (m : Bool) (at_ : Nat) (vs : List px_V) (ws : List (Int32 × Nat)) (op : Nat) (tg : Option Nat) (vars : Nat → Option px_V) (L : px_L) (r : Option px_R) : Prop :=
  ∃ n, px_run ch len n m at_ vs ws op tg vars L = some r
def px_b0 (ws : List (Int32 × Nat)) : Prop := ∀ w, ws.head? = some w → w.1 ≠ 126
def px_b1 (ws : List (Int32 × Nat)) : Prop := ∀ w, ws.head? = some w → w.1 ≠ 126 ∧ w.1 ≠ 42 ∧ w.1 ≠ 47
def px_b2 (ws : List (Int32 × Nat)) : Prop := ∀ w, ws.head? = some w → w.1 ≠ 126 ∧ w.1 ≠ 42 ∧ w.1 ≠ 47 ∧ w.1 ≠ 43 ∧ w.1 ≠ 45
theorem px_b2.b1 {ws : List (Int32 × Nat)} (h : px_b2 ws) : px_b1 ws := fun w hw => ⟨(h w hw).1, (h w hw).2.1, (h w hw).2.2.1⟩
theorem px_b1.b0 {ws : List (Int32 × Nat)} (h : px_b1 ws) : px_b0 ws := fun w hw => (h w hw).1
theorem px_settle_f {ws : List (Int32 × Nat)} (h : px_b1 ws) (vs : List px_V) (L : px_L) : px_settle false ws vs L = some (ws, vs, L) := by
  cases ws with
  | nil => rfl
  | cons w ws =>
    have hw := h w rfl
    rw [px_settle, if_neg]
    rintro (e | e | e)
    · exact hw.2.1 e
    · exact hw.2.2 e
    · exact absurd e.1 (by decide)
theorem px_settle_t {ws : List (Int32 × Nat)} (h : px_b2 ws) (all : Bool) (vs : List px_V) (L : px_L) : px_settle all ws vs L = some (ws, vs, L) := by
  cases ws with
  | nil => rfl
  | cons w ws =>
    have hw := h w rfl
    rw [px_settle, if_neg]
    rintro (e | e | ⟨-, e | e⟩)
    · exact hw.2.1 e
    · exact hw.2.2.1 e
    · exact hw.2.2.2.1 e
    · exact hw.2.2.2.2 e
theorem px_unneg_rep {ws : List (Int32 × Nat)} (hb : px_b0 ws) : ∀ (k : Nat) (v : px_V) (L : px_L), px_unneg (List.replicate k (126, 1) ++ ws) v L = (px_negs k v L).map (fun q => (q.1, q.2, ws)) := by
  intro k
  induction k with
  | zero =>
    intro v L
    cases ws with
    | nil => rfl
    | cons w ws =>
      show px_unneg (w :: ws) v L = some (v, L, w :: ws)
      rw [px_unneg, if_neg (hb w rfl)]
  | succ k ih =>
    intro v L
    show px_unneg ((126, 1) :: (List.replicate k (126, 1) ++ ws)) v L = _
    rw [px_unneg, if_pos rfl, px_negs]
    cases px_each 9 v L with
    | none => rfl
    | some r => exact ih r.1 r.2
theorem px_to_unneg {ρ : Type} {ws : List (Int32 × Nat)} (hb : px_b0 ws) {k : Nat} {v : px_V} {L : px_L} {r : Option ρ} {P : px_V × px_L × List (Int32 × Nat) → Prop} (h : px_to (px_negs k v L) r (fun z => P (z.1, z.2, ws))) : px_to (px_unneg (List.replicate k (126, 1) ++ ws) v L) r P := by
  rw [px_unneg_rep hb]
  cases hn : px_negs k v L with
  | none => rw [hn] at h; exact h
  | some z => rw [hn] at h; exact h
