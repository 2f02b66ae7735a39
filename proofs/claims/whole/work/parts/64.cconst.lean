/-! the class's constant, picked; the steps of the grammar -/
theorem cx_k.fail2 {β γ : Type} {t0 t1 t2 : Bool} {p : Option β} {f : β → Option γ} {q : Option γ} (h : cx_k t0 t1 p none) (h2 : cx_k t1 t2 none q) : cx_k t0 t2 (p.bind f) q := by
  by_cases h1 : t1 = true
  · exact h.fail h2.1 (Or.inl (h2.1 h1))
  · refine h.fail h2.1 ?_
    rcases h2.2 (by simpa using h1) with h3 | h3
    · exact Or.inl h3.1
    · exact Or.inr h3.2.symm
section CX
variable {ch : Nat → Int32} {len : Nat} {vars : Nat → Option px_V}
def cx_O (ch : Nat → Int32) (len : Nat) (vars : Nat → Option px_V) (L : px_L) (tl : Bool) (res : Option (Int32 × ST_F × ST_A)) (p : Option (px_V × Nat × px_L)) : Prop :=
  ∃ q at_ L' tl' F' A', res = some (cx_v q, F', A') ∧ cx_S ch len vars at_ L' tl' F' A' ∧ at_ ≤ len + 1 ∧ L.length ≤ L'.length ∧ (∀ v, q = some v → cx_o L' v) ∧ cx_k tl tl' p (q.map fun v => (v, at_, L'))
theorem cx_O.no {at_ : Nat} {L : px_L} {tl : Bool} {F : ST_F} {A : ST_A} (h : cx_S ch len vars at_ L tl F A) (ha : at_ ≤ len + 1) : cx_O ch len vars L tl (some (-1, F, A)) none :=
  ⟨none, at_, L, tl, F, A, rfl, h, ha, Nat.le_refl _, fun v e => (nomatch e), cx_k.rf⟩
theorem cx_O.yes {at_ : Nat} {L : px_L} {tl : Bool} {F : ST_F} {A : ST_A} (h : cx_S ch len vars at_ L tl F A) (ha : at_ ≤ len + 1) {v : px_V} (hv : cx_o L v) : cx_O ch len vars L tl (some (pv v, F, A)) (some (v, at_, L)) :=
  ⟨some v, at_, L, tl, F, A, rfl, h, ha, Nat.le_refl _, fun v e => by cases e; exact hv, cx_k.rf⟩
theorem cx_O.fromQ {at_ : Nat} {L : px_L} {tl : Bool} {res : Option (Int32 × ST_F × ST_A)} {p : Option (px_V × px_L)} (h : cx_Q ch len vars at_ L tl res p) (ha : at_ ≤ len + 1) : cx_O ch len vars L tl res (p.bind fun z => some (z.1, at_, z.2)) := by
  obtain ⟨q, L', tl', F', A', h1, h2, h3, h4, h5⟩ := h
  refine ⟨q, at_, L', tl', F', A', h1, h2, ha, h3, h4, ?_⟩
  have := h5.map fun z => (z.1, at_, z.2)
  have e1 : (p.bind fun z => some (z.1, at_, z.2)) = p.map fun z => (z.1, at_, z.2) := by cases p <;> rfl
  have e2 : (q.map fun v => (v, at_, L')) = (q.map fun v => (v, L')).map fun z => (z.1, at_, z.2) := by cases q <;> rfl
  rw [e1, e2]
  exact this
theorem cx_O.seq {L : px_L} {tl : Bool} {res : Option (Int32 × ST_F × ST_A)} {p : Option (px_V × Nat × px_L)} (h : cx_O ch len vars L tl res p) {k : Int32 → ST_F → ST_A → Option (Int32 × ST_F × ST_A)} {f : px_V × Nat × px_L → Option (px_V × Nat × px_L)} (hk : ∀ (q : Option px_V) (at_ : Nat) (L' : px_L) (tl' : Bool) (F' : ST_F) (A' : ST_A), cx_S ch len vars at_ L' tl' F' A' → at_ ≤ len + 1 → L.length ≤ L'.length → (∀ v, q = some v → cx_o L' v) → cx_O ch len vars L' tl' (k (cx_v q) F' A') ((q.map fun v => (v, at_, L')).bind f)) : cx_O ch len vars L tl (ra_bi res k) (p.bind f) := by
  obtain ⟨q, at_, L', tl', F', A', h1, h2, h3, h4, h5, h6⟩ := h
  obtain ⟨q2, at2, L2, t2, F2, A2, b1, b2, b3, b4, b5, b6⟩ := hk q at_ L' tl' F' A' h2 h3 h4 h5
  rw [h1, ra_bi_s]
  refine ⟨q2, at2, L2, t2, F2, A2, b1, b2, b3, by omega, b5, ?_⟩
  cases q with
  | none => exact h6.fail2 b6
  | some v => exact h6.bind b6
theorem cx_Q.seq {at_ : Nat} {L : px_L} {tl : Bool} {res : Option (Int32 × ST_F × ST_A)} {p : Option (px_V × px_L)} (h : cx_Q ch len vars at_ L tl res p) {k : Int32 → ST_F → ST_A → Option (Int32 × ST_F × ST_A)} {f : px_V × px_L → Option (px_V × Nat × px_L)} (hk : ∀ (q : Option px_V) (L' : px_L) (tl' : Bool) (F' : ST_F) (A' : ST_A), cx_S ch len vars at_ L' tl' F' A' → L.length ≤ L'.length → (∀ v, q = some v → cx_o L' v) → cx_O ch len vars L' tl' (k (cx_v q) F' A') ((q.map fun v => (v, L')).bind f)) : cx_O ch len vars L tl (ra_bi res k) (p.bind f) := by
  obtain ⟨q, L', tl', F', A', h1, h2, h4, h5, h6⟩ := h
  obtain ⟨q2, at2, L2, t2, F2, A2, b1, b2, b3, b4, b5, b6⟩ := hk q L' tl' F' A' h2 h4 h5
  rw [h1, ra_bi_s]
  refine ⟨q2, at2, L2, t2, F2, A2, b1, b2, b3, by omega, b5, ?_⟩
  cases q with
  | none => exact h6.fail2 b6
  | some v => exact h6.bind b6
theorem cx_O.cast {L : px_L} {tl : Bool} {res : Option (Int32 × ST_F × ST_A)} {p p' : Option (px_V × Nat × px_L)} (h : cx_O ch len vars L tl res p) (e : p' = p) : cx_O ch len vars L tl res p' := by rw [e]; exact h
theorem cx_digit (hT : cx_T ch len) {at_ : Nat} {L : px_L} {tl : Bool} {F : ST_F} {A : ST_A} (hS : cx_S ch len vars at_ L tl F A) (ha : at_ ≤ len + 1) : f_C_digit F A = some (ch at_ - 48, upd F 1 (F 1 + 1), A) := by
  unfold f_C_digit
  rw [cx_next hT hS ha, ra_bi_s]
theorem cx_scale (ch : Nat → Int32) : ∀ (n j at_ : Nat) (a : Int32), ∃ k, k ≤ n ∧ (px_digs ch n at_ a (nI (10 ^ j))).1 = at_ + k ∧ (px_digs ch n at_ a (nI (10 ^ j))).2.2 = nI (10 ^ (j + k)) := by
  intro n
  induction n with
  | zero => intro j at_ a; exact ⟨0, Nat.le_refl _, rfl, rfl⟩
  | succ n ih =>
    intro j at_ a
    rw [px_digs]
    by_cases c : px_dig (ch at_) = true
    · rw [if_pos c]
      have e : nI (10 ^ j) * 10 = nI (10 ^ (j + 1)) := by rw [show (10 : Int32) = nI 10 from rfl, pk_mul, ← Nat.pow_succ]
      obtain ⟨k, h1, h2, h3⟩ := ih (j + 1) (at_ + 1) (a * 10 + (ch at_ - 48))
      rw [e]
      exact ⟨k + 1, by omega, by rw [h2]; omega, by rw [h3]; congr 2; omega⟩
    · rw [if_neg c]
      exact ⟨0, by omega, rfl, rfl⟩
theorem cx_const95 {at_ : Nat} {L : px_L} {tl : Bool} {F : ST_F} {A : ST_A} (hS : cx_S ch len vars at_ L tl F A) (ha : at_ ≤ len + 1) (x1 x2 x3 : Int32) (h2 : x2 ≠ 0) : cx_O ch len vars L tl (f_C_constant_J95 x1 x2 x3 F A) ((px_put L (0, x1 * 65536 + x3 * 65536 / x2, 0)).bind fun r => some ([r.1], at_, r.2)) := by
  unfold f_C_constant_J95 ra_nz
  rw [if_neg h2]
  obtain ⟨x, L1, t1, F1, A1, a1, a2, a3, a4, a5⟩ := cx_put hS (i := (0, x1 * 65536 + x3 * 65536 / x2, 0)) (Or.inl rfl)
  dsimp only at a1
  rw [a1, ra_bi_s]
  have hl := a2.2.2.2.2.1.1
  have e : f_V_withNumber (f_V_ofType 1) 0 (nI x) = pv [x] := by
    unfold f_V_withNumber f_V_ofType
    rw [show (1 : Int32) = nI 1 from rfl, pv_of (by decide), show (0 : Int32) = nI 0 from rfl]
    exact pv_with (T := 1) (w := []) (by decide) (by decide) rfl (by omega) (fun q hq => absurd hq List.not_mem_nil)
  rw [e]
  refine ⟨some [x], at_, L1, t1, F1, A1, rfl, a2, ha, a3, fun v e => ?_, ?_⟩
  · cases e
    exact ⟨by simp, by simp, fun p hp => by rw [List.mem_singleton.mp hp]; exact a4⟩
  · exact a5.bind cx_k.rf
theorem cx_const51 (hT : cx_T ch len) {L : px_L} {tl : Bool} {A : ST_A} (x1 : Int32) : ∀ (m j n at_ : Nat) (a s : Int32) (F : ST_F), j + m = 4 → m < n → cx_S ch len vars at_ L tl F A → at_ ≤ len → ∃ F', f_C_constant_L51 n x1 s a (nI j) F A = f_C_constant_J88 x1 (px_digs ch m at_ a s).2.2 (px_digs ch m at_ a s).2.1 (nI (j + ((px_digs ch m at_ a s).1 - at_))) F' A ∧ cx_S ch len vars (px_digs ch m at_ a s).1 L tl F' A := by
  intro m
  induction m with
  | zero =>
    intro j n at_ a s F hj hn hS ha
    obtain ⟨n, rfl⟩ : ∃ n', n = n' + 1 := ⟨n - 1, by omega⟩
    refine ⟨F, ?_, hS⟩
    rw [f_C_constant_L51, if_pos (show (4 : Int32) ≤ nI j from nI_le (a := 4) (by omega) (by omega))]
    simp only [px_digs, Nat.sub_self, Nat.add_zero]
  | succ m ih =>
    intro j n at_ a s F hj hn hS ha
    obtain ⟨n, rfl⟩ : ∃ n', n = n' + 1 := ⟨n - 1, by omega⟩
    rw [f_C_constant_L51, if_neg (show ¬ (4 : Int32) ≤ nI j from nI_ge (b := 4) (by omega) (by omega)), cx_next hT hS (by omega), ra_bi_s, cx_isDigit, px_digs]
    by_cases c : px_dig (ch at_) = true
    · have hat : at_ < len := pxf_digl hT.2.1 c
      rw [if_pos c, if_neg (by decide), cx_digit hT hS (by omega), ra_bi_s, if_pos c, ← nI_succ]
      obtain ⟨F', h1, h2⟩ := ih (j + 1) n (at_ + 1) (a * 10 + (ch at_ - 48)) (s * 10) (upd F 1 (F 1 + 1)) (by omega) (by omega) (hS.go 1 rfl) (by omega)
      refine ⟨F', ?_, h2⟩
      rw [h1]
      have hm := (pxf_digs (ch := ch) (len := len) hT.2.1 m (at_ + 1) (a * 10 + (ch at_ - 48)) (s * 10)).1
      congr 2
      omega
    · rw [if_neg c, if_pos rfl, if_neg c]
      exact ⟨F, by rw [Nat.sub_self]; rfl, hS⟩
theorem cx_const4 (hT : cx_T ch len) {L : px_L} {tl : Bool} {A : ST_A} : ∀ (m j n at_ : Nat) (a s : Int32) (F : ST_F), j + m = 4 → m < n → cx_S ch len vars at_ L tl F A → at_ ≤ len → ∃ F' x2, f_C_constant_L4 n a (nI j) F A = f_C_constant_J35 (px_digs ch m at_ a s).2.1 x2 F' A ∧ cx_S ch len vars (px_digs ch m at_ a s).1 L tl F' A := by
  intro m
  induction m with
  | zero =>
    intro j n at_ a s F hj hn hS ha
    obtain ⟨n, rfl⟩ : ∃ n', n = n' + 1 := ⟨n - 1, by omega⟩
    refine ⟨F, nI j, ?_, hS⟩
    rw [f_C_constant_L4, if_pos (show (4 : Int32) ≤ nI j from nI_le (a := 4) (by omega) (by omega))]
    rfl
  | succ m ih =>
    intro j n at_ a s F hj hn hS ha
    obtain ⟨n, rfl⟩ : ∃ n', n = n' + 1 := ⟨n - 1, by omega⟩
    rw [f_C_constant_L4, if_neg (show ¬ (4 : Int32) ≤ nI j from nI_ge (b := 4) (by omega) (by omega)), cx_next hT hS (by omega), ra_bi_s, cx_isDigit, px_digs]
    by_cases c : px_dig (ch at_) = true
    · have hat : at_ < len := pxf_digl hT.2.1 c
      rw [if_pos c, if_neg (by decide), cx_digit hT hS (by omega), ra_bi_s, if_pos c, ← nI_succ]
      exact ih (j + 1) n (at_ + 1) (a * 10 + (ch at_ - 48)) (s * 10) (upd F 1 (F 1 + 1)) (by omega) (by omega) (hS.go 1 rfl) (by omega)
    · rw [if_neg c, if_pos rfl, if_neg c]
      exact ⟨F, nI j, rfl, hS⟩
theorem cx_const (hT : cx_T ch len) {at_ : Nat} {L : px_L} {tl : Bool} {F : ST_F} {A : ST_A} (hS : cx_S ch len vars at_ L tl F A) (ha : at_ ≤ len) : cx_O ch len vars L tl (f_C_constant F A) ((px_const ch at_).bind fun x => (px_put L (0, x.1, 0)).bind fun r => some ([r.1], x.2, r.2)) := by
  unfold f_C_constant px_const
  obtain ⟨F1, x2, h1, h2⟩ := cx_const4 hT (vars := vars) 4 0 400 at_ 0 1 F (by omega) (by omega) hS ha
  have hd := (pxf_digs (ch := ch) (len := len) hT.2.1 4 at_ 0 1).2 ha
  rw [nI_0] at h1
  rw [h1]
  unfold f_C_constant_J35
  generalize px_digs ch 4 at_ 0 1 = d at hd h2 ⊢
  rcases cx_takes hT h2 (by omega) (c := 46) (by decide) with ⟨e1, e2, F2, e3, e4⟩ | ⟨e1, e3⟩
  · rw [e3, ra_bi_s, if_neg (by decide), if_pos e1]
    obtain ⟨F3, g1, g2⟩ := cx_const51 hT (vars := vars) d.2.1 4 0 400 (d.1 + 1) 0 1 F2 (by omega) (by omega) e4 (by omega)
    rw [show nI 0 = (0 : Int32) from rfl] at g1
    rw [g1]
    have hd2 := (pxf_digs (ch := ch) (len := len) hT.2.1 4 (d.1 + 1) 0 1).2 (by omega)
    obtain ⟨k, k1, k2, k3⟩ := cx_scale ch 4 0 (d.1 + 1) 0
    rw [show nI (10 ^ 0) = (1 : Int32) from rfl] at k2 k3
    unfold f_C_constant_J88
    rw [k3, Nat.zero_add, k2]
    have hpow : 1 ≤ 10 ^ k ∧ 10 ^ k ≤ 10000 := ⟨Nat.pow_pos (by decide), Nat.le_trans (Nat.pow_le_pow_right (by decide) k1) (by decide)⟩
    by_cases ck : k = 0
    · rw [if_pos (by rw [ck]; rfl), if_pos (by omega)]
      rw [k2] at g2 hd2
      exact cx_O.no g2 (by omega)
    · have hk1 : 10 ^ k ≠ 1 := fun e => by
        have := Nat.pow_le_pow_right (n := 10) (by decide) (show 1 ≤ k by omega)
        omega
      rw [if_neg (c := nI (10 ^ k) = (1 : Int32)) (fun z => hk1 ((nI_eqI (b := 1) (by omega) (by omega)).mp z)), if_neg (by omega)]
      rw [k2] at g2 hd2
      exact cx_const95 g2 (by omega) _ _ _ (nI_ne0 (by omega) (by omega))
  · rw [e3, ra_bi_s, if_pos rfl, if_neg e1]
    have h := cx_const95 h2 (by omega) d.2.1 1 0 (by decide)
    rw [show (0 : Int32) * 65536 / 1 = 0 by decide, Int32.add_zero] at h
    exact h
/-- the places behind a dot -/
theorem cx_plc {c : Int32} (h : px_plc c = true) : ∃ i, i < 3 ∧ c - 120 = nI i ∧ (c - 120).toNatClampNeg = i := by
  unfold px_plc at h
  simp at h
  obtain ⟨h1, h2⟩ := h
  rw [i_ge (k := 120) (by decide)] at h1
  rw [i_le (k := 122) (by decide)] at h2
  obtain ⟨j, hj, rfl⟩ := i_nI (x := c) (n := 123) (by decide) (by omega) (by omega)
  have : ∀ j : Fin 123, 120 ≤ j.val → nI j.val - 120 = nI (j.val - 120) := by decide
  have e := this ⟨j, hj⟩ (by rw [nI_toInt (by omega)] at h1; show 120 ≤ j; omega)
  exact ⟨j - 120, by omega, e, by rw [e]; exact nI_clamp (by show j - 120 < _; omega)⟩
theorem cx_pick18 (hT : cx_T ch len) {L : px_L} {tl : Bool} {F : ST_F} {A : ST_A} {at_ : Nat} (hS : cx_S ch len vars at_ L tl F A) (ha : at_ ≤ len) (x1 : Int32) : ∀ (m j n : Nat), j + m = 3 → m < n → at_ + j ≤ len → f_C_picked_L18 n x1 (nI j) F A = f_C_picked_J59 x1 (nI (j + (px_places ch m (at_ + j)).length)) F A := by
  have hl := hT.1
  intro m
  induction m with
  | zero =>
    intro j n hj hn hat
    obtain ⟨n, rfl⟩ : ∃ n', n = n' + 1 := ⟨n - 1, by omega⟩
    rw [f_C_picked_L18, if_pos (show (3 : Int32) ≤ nI j from nI_le (a := 3) (by omega) (by omega))]
    rfl
  | succ m ih =>
    intro j n hj hn hat
    obtain ⟨n, rfl⟩ : ∃ n', n = n' + 1 := ⟨n - 1, by omega⟩
    rw [f_C_picked_L18, if_neg (show ¬ (3 : Int32) ≤ nI j from nI_ge (b := 3) (by omega) (by omega)), hS.1, hS.2.1, nI_add, px_places]
    by_cases c1 : len ≤ at_ + j
    · have h0 := hT.2.1 (at_ + j) c1
      rw [if_pos (nI_le c1 (by omega)), if_neg (by rw [h0]; decide)]
      rfl
    · rw [if_neg (nI_ge (by omega) (by omega)), ra_g_in (by omega) (by decide), nI_clamp (by omega), hS.2.2.2.2.2.1 _ (by omega), cx_isPlace]
      by_cases c : px_plc (ch (at_ + j)) = true
      · rw [if_pos c, if_neg (by decide), if_pos c, ← nI_succ, ih (j + 1) n (by omega) (by omega) (by omega), List.length_cons, Nat.add_assoc at_ j 1]
        congr 2
        omega
      · rw [if_neg c, if_pos rfl, if_neg c]
        rfl
theorem cx_places_get (hT : cx_T ch len) : ∀ (m at_ j : Nat), at_ ≤ len → j < (px_places ch m at_).length → at_ + j < len ∧ px_plc (ch (at_ + j)) = true ∧ (px_places ch m at_)[j]? = some ((ch (at_ + j) - 120).toNatClampNeg) := by
  intro m
  induction m with
  | zero => intro at_ j _ h; exact absurd h (Nat.not_lt_zero _)
  | succ m ih =>
    intro at_ j ha h
    rw [px_places] at h ⊢
    by_cases c : px_plc (ch at_) = true
    · rw [if_pos c] at h ⊢
      have hat : at_ < len := pxf_plcl hT.2.1 c
      cases j with
      | zero => exact ⟨by omega, c, rfl⟩
      | succ j =>
        have := ih (at_ + 1) j (by omega) (by simpa using h)
        rw [show at_ + (j + 1) = at_ + 1 + j by omega]
        exact ⟨this.1, this.2.1, by simpa using this.2.2⟩
    · rw [if_neg c] at h
      exact absurd h (Nat.not_lt_zero _)
theorem cx_pick81 (hT : cx_T ch len) {L : px_L} {tl : Bool} {F : ST_F} {A : ST_A} {at_ : Nat} (hS : cx_S ch len vars at_ L tl F A) (ha : at_ ≤ len) {v : px_V} (hv : cx_o L v) {l : List Nat} (hl3 : l.length ≤ 3) (hl1 : 1 ≤ l.length) (hl : ∀ j i, l[j]? = some i → at_ + j < len ∧ ch (at_ + j) - 120 = nI i ∧ i < 3) :
    ∀ (m j n : Nat), j + m = l.length → m < n → (∀ i ∈ l.take j, i < v.length) → f_C_picked_L81 n (pv v) (nI l.length) (nI (l.length * 268435456 + pv_sum ((l.take j).map fun i => v.getD i 0))) (nI j) F A = if (l.drop j).any (fun i => decide (v.length ≤ i)) = true then some (-1, F, A) else some (pv (l.map fun i => v.getD i 0), upd F 1 (F 1 + nI l.length), A) := by
  have hk := hv.ok hS.2.2.2.2.1.1
  have h4 := hk.2.1
  have hT1 := hT.1
  intro m
  induction m with
  | zero =>
    intro j n hj hn hx
    obtain ⟨n, rfl⟩ : ∃ n', n = n' + 1 := ⟨n - 1, by omega⟩
    rw [f_C_picked_L81, if_pos (nI_le (by omega) (by omega)), List.drop_of_length_le (by omega), List.take_of_length_le (by omega)]
    unfold pv pv_n
    rw [List.length_map]
    rfl
  | succ m ih =>
    intro j n hj hn hx
    obtain ⟨n, rfl⟩ : ∃ n', n = n' + 1 := ⟨n - 1, by omega⟩
    have hjl : j < l.length := by omega
    obtain ⟨e1, e2, e3⟩ := hl j l[j] (List.getElem?_eq_getElem hjl)
    rw [f_C_picked_L81, if_neg (nI_ge (by omega) (by omega)), hS.2.1, nI_add, ra_g_in (by omega) (by decide), nI_clamp (by omega), hS.2.2.2.2.2.1 _ e1, e2, cx_type hk, List.drop_eq_getElem_cons hjl, List.any_cons]
    by_cases c : v.length ≤ l[j]
    · rw [if_neg (nI_nlt c (by omega)), if_pos (by simp [c])]
    · have h5 : v.getD l[j] 0 < 100 := by have := hv.get (i := l[j]) (by omega); have := hS.2.2.2.2.1.1; omega
      rw [if_pos (nI_lt (by omega) (by omega)), cx_num hk (by omega)]
      unfold f_V_withNumber
      rw [pv_with (by omega) (by omega) (by rw [List.length_map, List.length_take]; omega) (by omega) (fun q hq => by
        obtain ⟨i, hi, rfl⟩ := List.mem_map.mp hq
        exact hk.2.2 _ (by
          have := hx i hi
          rw [List.getD_eq_getElem?_getD, List.getElem?_eq_getElem this]
          exact List.getElem_mem this)), ← nI_succ]
      have hr := ih (j + 1) n (by omega) (by omega) (by
        intro i hi
        rw [← List.take_append_getElem hjl] at hi
        rcases List.mem_append.mp hi with h | h
        · exact hx i h
        · rw [List.mem_singleton.mp h]; omega)
      rw [← List.take_append_getElem hjl, List.map_append] at hr
      have hd : (decide (v.length ≤ l[j]) || (l.drop (j + 1)).any fun i => decide (v.length ≤ i)) = (l.drop (j + 1)).any fun i => decide (v.length ≤ i) := by simp [c]
      rw [hd]
      rw [hS.2.1] at hr
      exact hr
theorem cx_picked (hT : cx_T ch len) {at_ : Nat} {L : px_L} {tl : Bool} {F : ST_F} {A : ST_A} (hS : cx_S ch len vars at_ L tl F A) (ha : at_ ≤ len + 1) {v : px_V} (hv : cx_o L v) : cx_O ch len vars L tl (f_C_picked (pv v) F A) ((px_pick ch v at_).bind fun q => some (q.1, q.2, L)) := by
  have hk := hv.ok hS.2.2.2.2.1.1
  have h4 := hk.2.1
  unfold f_C_picked px_pick
  rw [if_neg (pv_ne hk)]
  rcases cx_takes hT hS ha (c := 46) (by decide) with ⟨e1, e2, F2, e3, e4⟩ | ⟨e1, e3⟩
  · rw [e3, ra_bi_s, if_neg (by decide), if_pos e1]
    have h18 := cx_pick18 hT e4 (by omega) (pv v) 3 0 400 (by omega) (by omega) (by omega)
    rw [Nat.zero_add, Nat.add_zero, nI_0] at h18
    rw [h18]
    have hget := cx_places_get hT 3 (at_ + 1)
    have hpl := pxf_places (ch := ch) (len := len) hT.2.1 3 (at_ + 1) (by omega)
    have hl3 : (px_places ch 3 (at_ + 1)).length ≤ 3 := by
      have : ∀ (m a : Nat), (px_places ch m a).length ≤ m := by
        intro m
        induction m with
        | zero => intro a; exact Nat.le_refl _
        | succ m ih =>
          intro a
          rw [px_places]
          by_cases c : px_plc (ch a) = true
          · rw [if_pos c, List.length_cons]; have := ih (a + 1); omega
          · rw [if_neg c]; exact Nat.zero_le _
      exact this 3 _
    generalize hpx : px_places ch 3 (at_ + 1) = l at hget hpl hl3 ⊢
    unfold f_C_picked_J59
    by_cases c0 : l = []
    · rw [if_pos (by rw [c0]; rfl), if_pos (Or.inr (Or.inl c0))]
      exact cx_O.no e4 (by omega)
    · have hl1 : 1 ≤ l.length := by
        rcases Nat.eq_zero_or_pos l.length with h | h
        · exact absurd (List.length_eq_zero_iff.mp h) c0
        · exact h
      rw [if_neg (nI_ne0 (by omega) (by omega)), cx_type hk]
      by_cases c1 : v.length = 4
      · rw [if_pos (by rw [c1]; rfl), if_pos (Or.inl c1)]
        exact cx_O.no e4 (by omega)
      · rw [if_neg (c := nI v.length = (4 : Int32)) (fun z => c1 ((nI_eqI (b := 4) (by omega) (by omega)).mp z))]
        have h81 := cx_pick81 hT e4 (by omega) hv hl3 hl1 (fun j i hi => by
          obtain ⟨hj, _⟩ := List.getElem?_eq_some_iff.mp hi
          obtain ⟨g1, g2, g3⟩ := hget j (by omega) hj
          obtain ⟨i', hi', q1, q2⟩ := cx_plc g2
          rw [g3] at hi
          have : i' = i := by rw [q2] at hi; exact Option.some.inj hi
          exact ⟨g1, by rw [q1, this], by omega⟩) l.length 0 400 (by omega) (by omega) (fun i hi => absurd hi List.not_mem_nil)
        rw [List.take_zero, List.map_nil, show l.length * 268435456 + pv_sum [] = l.length * 268435456 from Nat.add_zero _, nI_0, List.drop_zero] at h81
        unfold f_V_ofType
        rw [pv_of (by omega), h81]
        by_cases c2 : l.any (fun i => decide (v.length ≤ i)) = true
        · rw [if_pos c2, if_pos (Or.inr (Or.inr c2))]
          exact cx_O.no e4 (by omega)
        · rw [if_neg c2, if_neg (fun z => by rcases z with h | h | h; exact c1 h; exact c0 h; exact c2 h)]
          refine cx_O.yes (at_ := at_ + 1 + l.length) (e4.go l.length rfl) (by omega) ⟨by rw [List.length_map]; exact hl1, by rw [List.length_map]; omega, fun p hp => ?_⟩
          obtain ⟨i, hi, rfl⟩ := List.mem_map.mp hp
          exact hv.getA i
  · rw [e3, ra_bi_s, if_pos rfl, if_neg e1]
    exact cx_O.yes hS ha hv
theorem cx_pickedN (F : ST_F) (A : ST_A) : f_C_picked (-1) F A = some (-1, F, A) := by
  unfold f_C_picked
  rw [if_pos rfl]
end CX
