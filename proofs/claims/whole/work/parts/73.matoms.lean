/-! the reference's look, constant, letter, finish -/
theorem upd_upd (F : ST_F) (k : Nat) (x y : Int32) : upd (upd F k x) k y = upd F k y := by
  funext j
  unfold upd
  by_cases c : j = k
  · rw [if_pos c, if_pos c]
  · rw [if_neg c, if_neg c, if_neg c]
theorem mx_isDigit (c : Int32) : f_M_isDigit c = if px_dig c = true then 1 else 0 := cx_isDigit c
theorem mx_isSmall (c : Int32) : f_M_isSmall c = if px_small c = true then 1 else 0 := cx_isSmall c
/-- the text, as the reference keeps it -/
def mx_T (ch : Nat → Int32) (len : Nat) (A0 : ST_A) : Prop := cx_T ch len ∧ ∀ k, k < len → A0 0 k = ch k
section MX
variable {ch : Nat → Int32} {len : Nat} {n0 : ST_F} {A0 : ST_A} {vars : Nat → Option px_V} {at_ op : Nat} {ws : List (Int32 × Nat)} {tg : Option Nat}
theorem mx_look (hT : mx_T ch len A0) {F : ST_F} {A : ST_A} (h1 : F 1 = nI len) (h0 : A 0 = A0 0) {k : Nat} (hk : k ≤ 1000) : f_M_look (nI k) F A = some (ch k, F, A) := by
  have hl := hT.1.1
  unfold f_M_look
  rw [h1]
  by_cases c : len ≤ k
  · rw [if_pos (nI_le c (by omega)), hT.1.2.1 k c]
  · rw [if_neg (nI_ge (by omega) (by omega)), ra_g_in (by omega) (by decide), nI_clamp (by omega), h0, hT.2 k (by omega)]
theorem mx_dval {c : Int32} (h : px_dig c = true) : ∃ d, d ≤ 9 ∧ c - 48 = nI d := by
  unfold px_dig at h
  simp at h
  obtain ⟨h1, h2⟩ := h
  rw [i_ge (k := 48) (by decide)] at h1
  rw [i_le (k := 57) (by decide)] at h2
  obtain ⟨j, hj, rfl⟩ := i_nI (x := c) (n := 58) (by decide) (by omega) (by omega)
  have : ∀ j : Fin 58, 48 ≤ j.val → nI j.val - 48 = nI (j.val - 48) := by decide
  have e := this ⟨j, hj⟩ (by rw [nI_toInt (by omega)] at h1; show 48 ≤ j; omega)
  exact ⟨j - 48, by omega, e⟩
theorem mx_acc (x r : Int32) : (10 * x + r) - 48 = x * 10 + (r - 48) := by
  rw [Int32.mul_comm 10 x, Int32.sub_eq_add_neg, Int32.add_assoc, ← Int32.sub_eq_add_neg]
/-- digits read: at most n, and how many -/
theorem px_digs_rel (ch : Nat → Int32) : ∀ (n at_ j g : Nat) (s : Int32), g < 10 ^ j → ∃ k g', k ≤ n ∧ (px_digs ch n at_ (nI g) s).1 = at_ + k ∧ (px_digs ch n at_ (nI g) s).2.1 = nI g' ∧ g' < 10 ^ (j + k) ∧ (k < n → ¬ px_dig (ch (at_ + k)) = true) := by
  intro n
  induction n with
  | zero => intro at_ j g s hg; exact ⟨0, g, Nat.le_refl _, rfl, rfl, hg, fun h => absurd h (Nat.lt_irrefl 0)⟩
  | succ n ih =>
    intro at_ j g s hg
    rw [px_digs]
    by_cases c : px_dig (ch at_) = true
    · rw [if_pos c]
      obtain ⟨d, hd, e⟩ := mx_dval c
      rw [e, show (10 : Int32) = nI 10 from rfl, pk_mul, nI_add]
      have hg' : g * 10 + d < 10 ^ (j + 1) := by rw [Nat.pow_succ]; omega
      obtain ⟨k, g', h1, h2, h3, h4, h5⟩ := ih (at_ + 1) (j + 1) (g * 10 + d) (s * nI 10) hg'
      exact ⟨k + 1, g', by omega, by rw [h2]; omega, h3, by rw [show j + (k + 1) = j + 1 + k by omega]; exact h4, fun h => by rw [show at_ + (k + 1) = at_ + 1 + k by omega]; exact h5 (by omega)⟩
    · rw [if_neg c]
      exact ⟨0, g, Nat.zero_le _, rfl, rfl, hg, fun _ => c⟩
theorem px_digs_s (ch : Nat → Int32) (n at_ : Nat) (a s : Int32) : px_digs ch (n + 1) at_ a s = if px_dig (ch at_) = true then px_digs ch n (at_ + 1) (a * 10 + (ch at_ - 48)) (s * 10) else (at_, a, s) := rfl
theorem px_dign (ch : Nat → Int32) : ∀ (n at_ : Nat) (a s : Int32), ((px_digs ch (n + 1) at_ a s).1 = at_ + (n + 1) ∧ (px_digs ch n at_ a s).1 = at_ + n ∧ px_dig (ch (at_ + n)) = true) ∨ (px_digs ch (n + 1) at_ a s = px_digs ch n at_ a s ∧ ∃ k, k ≤ n ∧ (px_digs ch n at_ a s).1 = at_ + k ∧ ¬ px_dig (ch (at_ + k)) = true) := by
  intro n
  induction n with
  | zero =>
    intro at_ a s
    rw [px_digs_s]
    by_cases c : px_dig (ch at_) = true
    · rw [if_pos c]
      exact Or.inl ⟨rfl, rfl, c⟩
    · rw [if_neg c]
      exact Or.inr ⟨rfl, 0, Nat.le_refl _, rfl, c⟩
  | succ n ih =>
    intro at_ a s
    rw [px_digs_s ch (n + 1) at_ a s, px_digs_s ch n at_ a s]
    by_cases c : px_dig (ch at_) = true
    · rw [if_pos c, if_pos c]
      rcases ih (at_ + 1) (a * 10 + (ch at_ - 48)) (s * 10) with ⟨h1, h2, h3⟩ | ⟨h1, k, h2, h3, h4⟩
      · refine Or.inl ⟨by rw [h1]; omega, by rw [h2]; omega, ?_⟩
        rw [show at_ + (n + 1) = at_ + 1 + n by omega]
        exact h3
      · refine Or.inr ⟨h1, k + 1, by omega, by rw [h3]; omega, ?_⟩
        rw [show at_ + (k + 1) = at_ + 1 + k by omega]
        exact h4
    · rw [if_neg c, if_neg c]
      exact Or.inr ⟨rfl, 0, Nat.zero_le _, rfl, c⟩
theorem mx_c4 (hT : mx_T ch len A0) {A : ST_A} (h0 : A 0 = A0 0) {F : ST_F} (h1 : F 1 = nI len) : ∀ (m j n at_ : Nat) (a s : Int32), j + m = 5 → m < n → at_ ≤ len → f_M_constant_L4 n a (nI j) (upd F 4 (nI at_)) A = f_M_constant_J56 (px_digs ch m at_ a s).2.1 (nI (j + ((px_digs ch m at_ a s).1 - at_))) (upd F 4 (nI (px_digs ch m at_ a s).1)) A := by
  have hl := hT.1.1
  intro m
  induction m with
  | zero =>
    intro j n at_ a s hj hn ha
    obtain ⟨n, rfl⟩ : ∃ n', n = n' + 1 := ⟨n - 1, by omega⟩
    rw [f_M_constant_L4]
    show ra_bi (f_M_look (nI at_) (upd F 4 (nI at_)) A) _ = _
    rw [mx_look hT (F := upd F 4 (nI at_)) h1 h0 (by omega), ra_bi_s]
    have e : f_M_constant_J56 a (nI j) (upd F 4 (nI at_)) A = f_M_constant_J56 (px_digs ch 0 at_ a s).2.1 (nI (j + ((px_digs ch 0 at_ a s).1 - at_))) (upd F 4 (nI (px_digs ch 0 at_ a s).1)) A := by
      simp only [px_digs, Nat.sub_self, Nat.add_zero]
    by_cases c : f_M_isDigit (ch at_) = 0
    · rw [if_pos c, e]
    · rw [if_neg c, if_pos (show (5 : Int32) ≤ nI j from nI_le (a := 5) (by omega) (by omega)), e]
  | succ m ih =>
    intro j n at_ a s hj hn ha
    obtain ⟨n, rfl⟩ : ∃ n', n = n' + 1 := ⟨n - 1, by omega⟩
    rw [f_M_constant_L4]
    show ra_bi (f_M_look (nI at_) (upd F 4 (nI at_)) A) _ = _
    rw [mx_look hT (F := upd F 4 (nI at_)) h1 h0 (by omega), ra_bi_s, mx_isDigit, px_digs]
    by_cases c : px_dig (ch at_) = true
    · have hat : at_ < len := pxf_digl hT.1.2.1 c
      rw [if_pos c, if_neg (by decide), if_neg (show ¬ (5 : Int32) ≤ nI j from nI_ge (b := 5) (by omega) (by omega)), if_pos c]
      show ra_bi (f_M_look (nI at_) (upd F 4 (nI at_)) A) _ = _
      rw [mx_look hT (F := upd F 4 (nI at_)) h1 h0 (by omega), ra_bi_s, upd_upd]
      show f_M_constant_L4 n (10 * a + ch at_ - 48) (nI j + 1) (upd F 4 (nI at_ + 1)) A = _
      rw [← nI_succ, ← nI_succ, mx_acc, ih (j + 1) n (at_ + 1) _ (s * 10) (by omega) (by omega) (by omega)]
      have hm := (pxf_digs (ch := ch) (len := len) hT.1.2.1 m (at_ + 1) (a * 10 + (ch at_ - 48)) (s * 10)).1
      congr 2
      omega
    · rw [if_neg c, if_pos rfl, if_neg c]
      simp only [Nat.sub_self, Nat.add_zero]
theorem mx_c100 (hT : mx_T ch len A0) {A : ST_A} (h0 : A 0 = A0 0) {F : ST_F} (h1 : F 1 = nI len) (x1 : Int32) : ∀ (m j n at_ : Nat) (a s : Int32), j + m = 5 → m < n → at_ ≤ len → f_M_constant_L100 n x1 (nI j) a s (upd F 4 (nI at_)) A = f_M_constant_J159 x1 (nI (j + ((px_digs ch m at_ a s).1 - at_))) (px_digs ch m at_ a s).2.1 (px_digs ch m at_ a s).2.2 (upd F 4 (nI (px_digs ch m at_ a s).1)) A := by
  have hl := hT.1.1
  intro m
  induction m with
  | zero =>
    intro j n at_ a s hj hn ha
    obtain ⟨n, rfl⟩ : ∃ n', n = n' + 1 := ⟨n - 1, by omega⟩
    rw [f_M_constant_L100]
    show ra_bi (f_M_look (nI at_) (upd F 4 (nI at_)) A) _ = _
    rw [mx_look hT (F := upd F 4 (nI at_)) h1 h0 (by omega), ra_bi_s]
    have e : f_M_constant_J159 x1 (nI j) a s (upd F 4 (nI at_)) A = f_M_constant_J159 x1 (nI (j + ((px_digs ch 0 at_ a s).1 - at_))) (px_digs ch 0 at_ a s).2.1 (px_digs ch 0 at_ a s).2.2 (upd F 4 (nI (px_digs ch 0 at_ a s).1)) A := by
      simp only [px_digs, Nat.sub_self, Nat.add_zero]
    by_cases c : f_M_isDigit (ch at_) = 0
    · rw [if_pos c, e]
    · rw [if_neg c, if_pos (show (5 : Int32) ≤ nI j from nI_le (a := 5) (by omega) (by omega)), e]
  | succ m ih =>
    intro j n at_ a s hj hn ha
    obtain ⟨n, rfl⟩ : ∃ n', n = n' + 1 := ⟨n - 1, by omega⟩
    rw [f_M_constant_L100]
    show ra_bi (f_M_look (nI at_) (upd F 4 (nI at_)) A) _ = _
    rw [mx_look hT (F := upd F 4 (nI at_)) h1 h0 (by omega), ra_bi_s, mx_isDigit, px_digs]
    by_cases c : px_dig (ch at_) = true
    · have hat : at_ < len := pxf_digl hT.1.2.1 c
      rw [if_pos c, if_neg (by decide), if_neg (show ¬ (5 : Int32) ≤ nI j from nI_ge (b := 5) (by omega) (by omega)), if_pos c]
      show ra_bi (f_M_look (nI at_) (upd F 4 (nI at_)) A) _ = _
      rw [mx_look hT (F := upd F 4 (nI at_)) h1 h0 (by omega), ra_bi_s, upd_upd]
      show f_M_constant_L100 n x1 (nI j + 1) (10 * a + ch at_ - 48) (s * 10) (upd F 4 (nI at_ + 1)) A = _
      rw [← nI_succ, ← nI_succ, mx_acc, ih (j + 1) n (at_ + 1) _ (s * 10) (by omega) (by omega) (by omega)]
      have hm := (pxf_digs (ch := ch) (len := len) hT.1.2.1 m (at_ + 1) (a * 10 + (ch at_ - 48)) (s * 10)).1
      congr 2
      omega
    · rw [if_neg c, if_pos rfl, if_neg c]
      simp only [Nat.sub_self, Nat.add_zero]
theorem mx_C.go {vs : List px_V} {F : ST_F} {A : ST_A} (h : mx_C len n0 A0 vars at_ vs ws op tg F A) (k : Nat) : mx_C len n0 A0 vars k vs ws op tg (upd F 4 (nI k)) A := by
  obtain ⟨⟨k1, k2, k3, k4, k5, k6⟩, h2⟩ := h
  exact ⟨⟨k1, rfl, k3, k4, k5, k6⟩, h2⟩
theorem mx_D.go {L : px_L} {w : Bool} {F : ST_F} {A : ST_A} (h : mx_D L w F A) (k : Int32) : mx_D L w (upd F 4 k) A := h
theorem mx_fd {g k : Nat} (hg : g < 10 ^ k) (hk : k ≤ 4) : (((nI g).toInt64 * (65536 : Int64)) / (nI (10 ^ k)).toInt64).toInt32 = nI g * 65536 / nI (10 ^ k) := by
  have hp : 10 ^ k ≤ 10000 := Nat.le_trans (Nat.pow_le_pow_right (by decide) hk) (by decide)
  have hp1 : 1 ≤ 10 ^ k := Nat.pow_pos (by decide)
  have h1 : (nI g).toInt = g := nI_toInt (by omega)
  have h2 : (nI (10 ^ k)).toInt = ((10 ^ k : Nat) : Int) := nI_toInt (by omega)
  generalize 10 ^ k = s at *
  have e1 : nI g * 65536 = nI (g * 65536) := by rw [show (65536 : Int32) = nI 65536 from rfl, pk_mul]
  have h3 : (nI (g * 65536)).toInt = ((g * 65536 : Nat) : Int) := nI_toInt (by omega)
  apply Int32.toInt_inj.mp
  have hq : (g * 65536 : Nat) / s ≤ g * 65536 := Nat.div_le_self _ _
  have hdiv : (((g * 65536 : Nat) : Int)).tdiv ((s : Nat) : Int) = (((g * 65536) / s : Nat) : Int) := by
    rw [Int.ofNat_tdiv]
  have hmul : ((nI g).toInt64 * (65536 : Int64)).toInt = ((g * 65536 : Nat) : Int) := by
    rw [Int64.toInt_mul, Int32.toInt_toInt64, h1, show (65536 : Int64).toInt = 65536 by decide, Int.bmod_eq_of_le (by omega) (by omega)]
    omega
  rw [Int64.toInt_toInt32, Int64.toInt_div, hmul, Int32.toInt_toInt64, h2, hdiv, e1, Int32.toInt_div, h3, h2, hdiv]
  generalize (g * 65536) / s = qq at hq
  rw [Int.bmod_eq_of_le (m := 2 ^ 64) (by omega) (by omega)]
/-- constant: where it ends, its instruction's place, the code -/
def px_cst (ch : Nat → Int32) (at_ : Nat) (L : px_L) : Option (Nat × Nat × px_L) := (px_const ch at_).bind fun x => if px_dig (ch x.2) = true ∨ ch x.2 = 46 then none else (px_put L (0, x.1, 0)).bind fun r => some (x.2, r.1, r.2)
theorem mx_c197 {vs : List px_V} {L : px_L} {F : ST_F} {A : ST_A} (h : mx_C len n0 A0 vars at_ vs ws op tg F A) (hD : mx_D L false F A) (hv : vs.length < 80) (x1 x2 x3 x4 y : Int32) (hx4 : x4.toInt64 ≠ 0) (hy : 65536 * x1 + ((x3.toInt64 * (65536 : Int64)) / x4.toInt64).toInt32 = y) : mx_Q len n0 A0 vars at_ vs ws op tg (f_M_constant_J197 x1 x2 x3 x4 F A) ((px_put L (0, y, 0)).bind fun r => some ([r.1], r.2)) := by
  have hF5 : F 5 = 0 := hD.2.1
  unfold f_M_constant_J197 ra_nzl
  rw [if_pos hF5, if_neg hx4, hy]
  obtain ⟨r, L1, w1, F1, A1, p1, p2, p3, p4, p5⟩ := mx_put hD (0, y, 0)
  dsimp only at p1
  rw [p1, ra_bi_s, show (0 : Int32) = nI 0 from rfl, ra_g_in (by decide) (by decide), ra_bvi]
  have h6 : F1 6 = nI vs.length := by rw [p3.1 6 (by decide) (by decide)]; exact h.1.2.2.1
  obtain ⟨F3, A3, k1, k2, k3⟩ := mx_pushed (v := [r]) h h.2.2.2.1 hv ⟨by simp, by simp⟩ (p3.made (upd (A1 15) 0 (nI r))) (p2.made (upd (A1 15) 0 (nI r))) (fun j hj => by
    have : j = 0 := by simpa using hj
    subst this
    rfl)
  rw [upd_same h6] at k1
  exact mx_Q.of (p5.bind cx_k.rf) k1 k2 k3
theorem mx_const (hT : mx_T ch len A0) {vs : List px_V} {L : px_L} {F : ST_F} {A : ST_A} (h : mx_C len n0 A0 vars at_ vs ws op tg F A) (hD : mx_D L false F A) (hv : vs.length < 80) (ha : at_ ≤ len) : (∃ at' r L' F' A', px_cst ch at_ L = some (at', r, L') ∧ f_M_constant F A = some (F', A') ∧ mx_C len n0 A0 vars at' ([r] :: vs) ws op tg F' A' ∧ mx_D L' false F' A') ∨ (px_cst ch at_ L = none ∧ ∃ F' A', f_M_constant F A = some (F', A') ∧ mx_X n0 A0 F' A') := by
  have hl := hT.1.1
  have h4 : F 4 = nI at_ := h.1.2.1
  have h1 : F 1 = nI len := h.1.1
  have h0 : A 0 = A0 0 := h.2.1.2 0 (Or.inl (by decide))
  have hF5 : F 5 = 0 := hD.2.1
  have hX : ∀ z, mx_X n0 A0 (upd (upd F 5 1) 4 z) A := fun z => ⟨rfl, h.2.1, ws.length, h.2.2.1.2, h.1.2.2.2.1⟩
  have hXe : ∀ x1 x2 x3 x4 z, f_M_constant_J197 x1 x2 x3 x4 (upd (upd F 5 1) 4 z) A = some (upd (upd F 5 1) 4 z, A) := fun x1 x2 x3 x4 z => by
    unfold f_M_constant_J197
    rw [if_neg (show ¬ upd (upd F 5 1) 4 z 5 = 0 from by show ¬ (1 : Int32) = 0; decide)]
  have hcomm : ∀ y z : Int32, upd (upd F 4 z) 5 y = upd (upd F 5 y) 4 z := fun y z => by
    funext j
    unfold upd
    by_cases c : j = 5
    · subst c; rfl
    · rw [if_neg c]
      by_cases c2 : j = 4
      · rw [if_pos c2, if_pos c2]
      · rw [if_neg c2, if_neg c2, if_neg c]
  unfold f_M_constant
  have hc4 := mx_c4 hT h0 h1 5 0 400 at_ 0 1 (by omega) (by omega) ha
  rw [upd_same h4, nI_0, Nat.zero_add] at hc4
  rw [hc4]
  have hd5 := (pxf_digs (ch := ch) (len := len) hT.1.2.1 5 at_ 0 1).2 ha
  have hd4 := (pxf_digs (ch := ch) (len := len) hT.1.2.1 4 at_ 0 1).2 ha
  unfold f_M_constant_J56
  rcases px_dign ch 4 at_ 0 1 with ⟨r1, r2, r3⟩ | ⟨r1, k, r2, r3, r4⟩
  · have r1' : (px_digs ch 5 at_ 0 1).1 = at_ + 5 := r1
    rw [if_pos (by rw [r1', show at_ + 5 - at_ = 5 by omega]; rfl)]
    refine Or.inr ⟨?_, ?_⟩
    · unfold px_cst px_const
      rw [r2, if_neg (fun e => by rw [e] at r3; exact absurd r3 (by decide)), Option.bind_some]
      rw [if_pos (Or.inl r3)]
    · unfold f_M_constant_J67 ra_zb
      rw [if_pos (Or.inr rfl), hcomm]
      generalize (px_digs ch 5 at_ 0 1) = d at hd5 ⊢
      have hlk : f_M_look (upd F 4 (nI d.1) 4) (upd (upd F 5 1) 4 (nI d.1)) A = some (ch d.1, upd (upd F 5 1) 4 (nI d.1), A) := mx_look hT (F := upd (upd F 5 1) 4 (nI d.1)) h1 h0 (by omega)
      rw [hlk, ra_bi_s]
      by_cases cd : ch d.1 = 46
      · rw [if_pos cd, upd_upd]
        have hdl : d.1 < len := pxf_eql hT.1.2.1 cd (by decide)
        have hc := mx_c100 hT h0 (F := upd F 5 1) h1 d.2.1 5 0 400 (d.1 + 1) 0 1 (by omega) (by omega) (by omega)
        rw [nI_0] at hc
        have hgo : f_M_constant_L100 400 d.2.1 0 0 1 (upd (upd F 5 1) 4 (upd (upd F 5 1) 4 (nI d.1) 4 + 1)) A = f_M_constant_L100 400 d.2.1 0 0 1 (upd (upd F 5 1) 4 (nI (d.1 + 1))) A := by
          show f_M_constant_L100 400 d.2.1 0 0 1 (upd (upd F 5 1) 4 (nI d.1 + 1)) A = _
          rw [← nI_succ]
        rw [hgo, hc]
        generalize nI (0 + ((px_digs ch 5 (d.1 + 1) 0 1).1 - (d.1 + 1))) = zz
        generalize px_digs ch 5 (d.1 + 1) 0 1 = e5
        unfold f_M_constant_J159
        rw [if_neg (show ¬ upd (upd F 5 1) 4 (nI e5.1) 5 = 0 from by show ¬ (1 : Int32) = 0; decide)]
        unfold f_M_constant_J189 f_M_constant_J194 ra_zb
        rw [if_pos (Or.inr rfl), upd_same (F := upd (upd F 5 1) 4 (nI e5.1)) (k := 5) (x := 1) rfl, hXe]
        exact ⟨_, _, rfl, hX _⟩
      · rw [if_neg cd, hXe]
        exact ⟨_, _, rfl, hX _⟩
  · have r1' : px_digs ch 5 at_ 0 1 = px_digs ch 4 at_ 0 1 := r1
    rw [r1']
    rw [if_neg (c := nI ((px_digs ch 4 at_ 0 1).1 - at_) = (5 : Int32)) (fun z => by
      have := (nI_eqI (b := 5) (by omega) (by omega)).mp z
      omega)]
    unfold f_M_constant_J67 ra_zb px_cst px_const
    rw [if_pos (Or.inl rfl), hcomm, upd_same hF5]
    rw [← r3] at r4
    generalize hdd : (px_digs ch 4 at_ 0 1) = d at hd4 r3 r4 ⊢
    have hlk : f_M_look (upd F 4 (nI d.1) 4) (upd F 4 (nI d.1)) A = some (ch d.1, upd F 4 (nI d.1), A) := mx_look hT (F := upd F 4 (nI d.1)) h1 h0 (k := d.1) (by omega)
    rw [hlk, ra_bi_s]
    by_cases cd : ch d.1 = 46
    · rw [if_pos cd, if_pos cd, upd_upd]
      have hdl : d.1 < len := pxf_eql hT.1.2.1 cd (by decide)
      have hc := mx_c100 hT h0 (F := F) h1 d.2.1 5 0 400 (d.1 + 1) 0 1 (by omega) (by omega) (by omega)
      rw [nI_0] at hc
      have hgo : f_M_constant_L100 400 d.2.1 0 0 1 (upd F 4 (upd F 4 (nI d.1) 4 + 1)) A = f_M_constant_L100 400 d.2.1 0 0 1 (upd F 4 (nI (d.1 + 1))) A := by
        show f_M_constant_L100 400 d.2.1 0 0 1 (upd F 4 (nI d.1 + 1)) A = _
        rw [← nI_succ]
      rw [hgo, hc]
      have hX2 : ∀ x1 x2 x3 x4 z, f_M_constant_J189 x1 x2 x3 x4 (upd F 4 z) A = some (upd (upd F 5 1) 4 z, A) := fun x1 x2 x3 x4 z => by
        unfold f_M_constant_J189 f_M_constant_J194 ra_zb
        rw [if_pos (Or.inr rfl), hcomm, hXe]
      unfold f_M_constant_J159
      rw [if_pos (show upd F 4 (nI (px_digs ch 5 (d.1 + 1) 0 1).1) 5 = 0 from hF5)]
      have hb5 := (pxf_digs (ch := ch) (len := len) hT.1.2.1 5 (d.1 + 1) 0 1).2 (by omega)
      rcases px_dign ch 4 (d.1 + 1) 0 1 with ⟨t1, t2, t3⟩ | ⟨t1, k2, t2, t3, t4⟩
      · have t1' : (px_digs ch 5 (d.1 + 1) 0 1).1 = d.1 + 1 + 5 := t1
        rw [t1', show 0 + (d.1 + 1 + 5 - (d.1 + 1)) = 5 by omega, if_neg (c := nI 5 = (0 : Int32)) (by decide), if_pos (c := nI 5 = (5 : Int32)) (by rfl), hX2]
        refine Or.inr ⟨?_, _, _, rfl, hX _⟩
        rw [t2, if_neg (by omega), Option.bind_some, if_pos (Or.inl t3)]
      · have t1' : px_digs ch 5 (d.1 + 1) 0 1 = px_digs ch 4 (d.1 + 1) 0 1 := t1
        rw [t1'] at hb5
        rw [t1', t3, show 0 + (d.1 + 1 + k2 - (d.1 + 1)) = k2 by omega]
        rw [t3] at hb5
        by_cases c0 : k2 = 0
        · rw [if_pos (c := nI k2 = (0 : Int32)) (by rw [c0]; rfl), hX2, if_pos (by omega)]
          exact Or.inr ⟨rfl, _, _, rfl, hX _⟩
        · rw [if_neg (c := nI k2 = (0 : Int32)) (nI_ne0 (by omega) (by omega)), if_neg (c := nI k2 = (5 : Int32)) (fun z => by
            have := (nI_eqI (b := 5) (by omega) (by omega)).mp z
            omega)]
          have hlk2 : f_M_look (upd F 4 (nI (d.1 + 1 + k2)) 4) (upd F 4 (nI (d.1 + 1 + k2))) A = some (ch (d.1 + 1 + k2), upd F 4 (nI (d.1 + 1 + k2)), A) := mx_look hT (F := upd F 4 (nI (d.1 + 1 + k2))) h1 h0 (k := d.1 + 1 + k2) (by omega)
          rw [hlk2, ra_bi_s, if_neg (by omega), Option.bind_some]
          by_cases ce : ch (d.1 + 1 + k2) = 46
          · rw [if_pos ce, hX2, if_pos (Or.inr ce)]
            exact Or.inr ⟨rfl, _, _, rfl, hX _⟩
          · rw [if_neg ce, if_neg (fun z => by rcases z with h | h; exact t4 h; exact ce h)]
            unfold f_M_constant_J194 ra_zb
            rw [if_pos (Or.inl rfl), hcomm, upd_same hF5]
            obtain ⟨k3, v1, v2, v3⟩ := cx_scale ch 4 0 (d.1 + 1) 0
            rw [show nI (10 ^ 0) = (1 : Int32) from rfl, Nat.zero_add] at v3
            rw [show nI (10 ^ 0) = (1 : Int32) from rfl, t3] at v2
            obtain ⟨k4, g2, w1, w2, w3, w4, w5⟩ := px_digs_rel ch 4 (d.1 + 1) 0 0 1 (by decide)
            rw [nI_0] at w2 w3
            rw [t3] at w2
            have hk3 : k3 = k2 := by omega
            have hk4 : k4 = k2 := by omega
            rw [v3, hk3, w3]
            rw [hk4, Nat.zero_add] at w4
            have hpow : 1 ≤ 10 ^ k2 ∧ 10 ^ k2 ≤ 10000 := ⟨Nat.pow_pos (by decide), Nat.le_trans (Nat.pow_le_pow_right (by decide) (by omega)) (by decide)⟩
            have hne : (nI (10 ^ k2)).toInt64 ≠ 0 := fun e => by
              have := congrArg Int64.toInt e
              rw [Int32.toInt_toInt64, nI_toInt (by omega)] at this
              have h0' : (0 : Int64).toInt = 0 := by decide
              omega
            have := mx_c197 (h.go (d.1 + 1 + k2)) (hD.go (nI (d.1 + 1 + k2))) hv d.2.1 (nI k2) (nI g2) (nI (10 ^ k2)) (d.2.1 * 65536 + nI g2 * 65536 / nI (10 ^ k2)) hne (by rw [mx_fd w4 (by omega), Int32.mul_comm])
            rcases this with ⟨v, L', F', A', q1, q2, q3, q4⟩ | ⟨q1, q2⟩
            · cases hpp : px_put L (0, d.2.1 * 65536 + nI g2 * 65536 / nI (10 ^ k2), 0) with
              | none => rw [hpp] at q1; cases q1
              | some r =>
                rw [hpp] at q1
                cases q1
                exact Or.inl ⟨_, _, _, F', A', rfl, q2, q3, q4⟩
            · cases hpp : px_put L (0, d.2.1 * 65536 + nI g2 * 65536 / nI (10 ^ k2), 0) with
              | none => exact Or.inr ⟨rfl, q2⟩
              | some r => rw [hpp] at q1; cases q1
    · rw [if_neg cd, if_neg cd, Option.bind_some, if_neg (fun z => by rcases z with h | h; exact r4 h; exact cd h)]
      have := mx_c197 (h.go d.1) (hD.go (nI d.1)) hv d.2.1 (nI (d.1 - at_)) 0 1 (d.2.1 * 65536) (by decide) (by rw [show ((((0 : Int32).toInt64) * (65536 : Int64)) / (1 : Int32).toInt64).toInt32 = 0 by decide, Int32.add_zero, Int32.mul_comm])
      rcases this with ⟨v, L', F', A', q1, q2, q3, q4⟩ | ⟨q1, q2⟩
      · cases hpp : px_put L (0, d.2.1 * 65536, 0) with
        | none => rw [hpp] at q1; cases q1
        | some r =>
          rw [hpp] at q1
          cases q1
          exact Or.inl ⟨_, _, _, F', A', rfl, q2, q3, q4⟩
      · cases hpp : px_put L (0, d.2.1 * 65536, 0) with
        | none => exact Or.inr ⟨rfl, q2⟩
        | some r => rw [hpp] at q1; cases q1
end MX
