/-! the reference's join, call, operate, settle -/
def mx_R : Nat → List px_V → ST_A → Prop
  | _, [], _ => True
  | i, v :: l, A => (mx_v v ∧ A 11 i = nI v.length ∧ ∀ j, j < v.length → A 12 (4 * i + j) = nI (v.getD j 0)) ∧ mx_R (i + 1) l A
theorem mx_R.made : ∀ (l : List px_V) (i : Nat) {A A' : ST_A}, mx_R i l A → (∀ k, k ≠ 15 → A' k = A k) → mx_R i l A' := by
  intro l
  induction l with
  | nil => intro i A A' _ _; trivial
  | cons v l ih =>
    intro i A A' h h1
    exact ⟨⟨h.1.1, by rw [h1 11 (by decide)]; exact h.1.2.1, fun j hj => by rw [h1 12 (by decide)]; exact h.1.2.2 j hj⟩, ih (i + 1) h.2 h1⟩
theorem mx_V.args {A : ST_A} {vs : List px_V} (h : mx_V vs A) : ∀ n, n ≤ vs.length → mx_R (vs.length - n) (vs.take n).reverse A ∧ mx_V (vs.drop n) A := by
  intro n
  induction n with
  | zero => intro _; exact ⟨by simp [mx_R], h⟩
  | succ n ih =>
    intro hn
    obtain ⟨h1, h2⟩ := ih (by omega)
    have hlt : n < vs.length := by omega
    rw [List.drop_eq_getElem_cons hlt] at h2
    rw [← List.take_append_getElem hlt, List.reverse_append]
    have hlen : (vs.drop (n + 1)).length = vs.length - (n + 1) := List.length_drop
    refine ⟨⟨?_, ?_⟩, h2.2⟩
    · rw [← hlen]; exact h2.1
    · rw [show vs.length - (n + 1) + 1 = vs.length - n by omega]; exact h1
theorem upd_same {F : ST_F} {k : Nat} {x : Int32} (h : F k = x) : upd F k x = F := by
  funext j
  unfold upd
  by_cases c : j = k
  · rw [if_pos c, c, h]
  · rw [if_neg c]
theorem nI_subN {a b : Nat} (h : b ≤ a) : nI a - nI b = nI (a - b) := by
  have e : nI a = nI (a - b) + nI b := by rw [nI_add]; congr 1; omega
  rw [e, Int32.add_sub_cancel]
theorem mx_j12x (u x2 : Int32) (A : ST_A) : ∀ (m i n : Nat) (x3 : Int32) (F : ST_F), F 5 = 1 → F 6 = nI (i + m) → i + m ≤ 80 → m < n → ∃ F', f_M_join_L12 n u x2 x3 (nI i) F A = some (F', A) ∧ F' 5 = 1 ∧ ∀ k, k ≠ 5 → F' k = F k := by
  intro m
  induction m with
  | zero =>
    intro i n x3 F h5 h6 hi hn
    obtain ⟨n, rfl⟩ : ∃ n', n = n' + 1 := ⟨n - 1, by omega⟩
    rw [f_M_join_L12, h6, if_pos (nI_le (by omega) (by omega)), if_neg (by rw [h5]; decide)]
    unfold f_M_join_J82 f_M_join_J87 ra_zb
    rw [if_pos (Or.inr rfl), if_neg (by decide)]
    exact ⟨_, rfl, rfl, fun k hk => by show (if k = 5 then _ else F k) = F k; rw [if_neg hk]⟩
  | succ m ih =>
    intro i n x3 F h5 h6 hi hn
    obtain ⟨n, rfl⟩ : ∃ n', n = n' + 1 := ⟨n - 1, by omega⟩
    rw [f_M_join_L12, h6, if_neg (nI_ge (by omega) (by omega)), if_neg (by rw [h5]; decide), ra_g_in (by omega) (by decide), upd_same h5, ← nI_succ]
    exact ih (i + 1) n _ F h5 (by rw [h6]; congr 1; omega) (by omega) (by omega)
theorem mx_j12n (u x2 : Int32) (A : ST_A) : ∀ (l : List px_V) (i n : Nat) (x3 : Int32) (F : ST_F), F 5 = 0 → F 6 = nI (i + l.length) → i + l.length ≤ 80 → l.length < n → mx_R i l A → (∃ v ∈ l, 3 < v.length) → ∃ F', f_M_join_L12 n u x2 x3 (nI i) F A = some (F', A) ∧ F' 5 = 1 ∧ ∀ k, k ≠ 5 → F' k = F k := by
  intro l
  induction l with
  | nil => intro i n x3 F _ _ _ _ _ h; obtain ⟨v, hv, _⟩ := h; exact absurd hv List.not_mem_nil
  | cons v l ih =>
    intro i n x3 F h5 h6 hi hn hR hex
    rw [List.length_cons] at h6 hi hn
    obtain ⟨n, rfl⟩ : ∃ n', n = n' + 1 := ⟨n - 1, by omega⟩
    have hv4 := hR.1.1.2
    rw [f_M_join_L12, h6, if_neg (nI_ge (by omega) (by omega)), if_pos h5, ra_g_in (by omega) (by decide), ra_g_in (by omega) (by decide), ra_g_in (by omega) (by decide), nI_clamp (by omega), hR.1.2.1, ← nI_succ]
    by_cases c : v.length ≤ 3
    · rw [if_pos (show nI v.length ≤ (3 : Int32) from nI_le (b := 3) c (by decide)), upd_same h5]
      obtain ⟨w, hw, hw3⟩ := hex
      rcases List.mem_cons.mp hw with e | e
      · rw [e] at hw3; omega
      · exact ih (i + 1) n _ F h5 (by rw [h6]; congr 1; omega) (by omega) (by omega) hR.2 ⟨w, e, hw3⟩
    · rw [if_neg (show ¬ nI v.length ≤ (3 : Int32) from nI_ge (a := 3) (by omega) (by omega))]
      obtain ⟨F', e1, e2, e3⟩ := mx_j12x u x2 A l.length (i + 1) n (x3 + nI v.length) (upd F 5 1) rfl (by show F 6 = _; rw [h6]; congr 1; omega) (by omega) (by omega)
      exact ⟨F', e1, e2, fun k hk => by rw [e3 k hk]; show (if k = 5 then _ else F k) = F k; rw [if_neg hk]⟩
theorem mx_j12 (u x2 : Int32) (A : ST_A) : ∀ (l : List px_V) (i n s : Nat) (F : ST_F), F 5 = 0 → F 6 = nI (i + l.length) → i + l.length ≤ 80 → l.length < n → mx_R i l A → (∀ v ∈ l, v.length ≤ 3) → f_M_join_L12 n u x2 (nI s) (nI i) F A = f_M_join_L12 1 u x2 (nI (s + l.flatten.length)) (nI (i + l.length)) F A := by
  intro l
  induction l with
  | nil =>
    intro i n s F h5 h6 hi hn hR hall
    obtain ⟨n, rfl⟩ : ∃ n', n = n' + 1 := ⟨n - 1, by omega⟩
    simp only [List.length_nil, List.flatten_nil, Nat.add_zero] at h6 hi ⊢
    rw [f_M_join_L12, f_M_join_L12, h6, if_pos (nI_le (by omega) (by omega)), if_pos (nI_le (by omega) (by omega))]
  | cons v l ih =>
    intro i n s F h5 h6 hi hn hR hall
    rw [List.length_cons] at h6 hi hn
    obtain ⟨n, rfl⟩ : ∃ n', n = n' + 1 := ⟨n - 1, by omega⟩
    have hv4 := hR.1.1.2
    rw [f_M_join_L12, h6, if_neg (nI_ge (by omega) (by omega)), if_pos h5, ra_g_in (by omega) (by decide), ra_g_in (by omega) (by decide), ra_g_in (by omega) (by decide), nI_clamp (by omega), hR.1.2.1, ← nI_succ, nI_add, if_pos (show nI v.length ≤ (3 : Int32) from nI_le (b := 3) (hall v List.mem_cons_self) (by decide)), upd_same h5, ih (i + 1) n (s + v.length) F h5 (by rw [h6]; congr 1; omega) (by omega) (by omega) hR.2 (fun w hw => hall w (List.mem_cons_of_mem _ hw)), List.flatten_cons, List.length_append, List.length_cons, Nat.add_assoc s, show i + 1 + l.length = i + (l.length + 1) by omega]
theorem mx_j116 {v : px_V} (hv : v.length ≤ 4) {i : Nat} (hi : i < 80) (u x2 x3 : Int32) (F : ST_F) (kx : Int32 → Int32 → Int32 → Int32 → Int32 → Int32 → ST_F → ST_A → Option (ST_F × ST_A)) : ∀ (m j n s : Nat) (A : ST_A), j + m = v.length → m < n → s + m ≤ 4 → A 11 i = nI v.length → (∀ q, q < v.length → A 12 (4 * i + q) = nI (v.getD q 0)) → ∃ A', f_M_join_L116 kx n u x2 x3 (nI s) (nI i) (nI j) F A = kx u x2 x3 (nI (s + m)) (nI i) (nI v.length) F A' ∧ (∀ k, k ≠ 15 → A' k = A k) ∧ (∀ k, k < s → A' 15 k = A 15 k) ∧ ∀ k, k < m → A' 15 (s + k) = nI (v.getD (j + k) 0) := by
  intro m
  induction m with
  | zero =>
    intro j n s A hj hn hs h11 h12
    obtain ⟨n, rfl⟩ : ∃ n', n = n' + 1 := ⟨n - 1, by omega⟩
    rw [f_M_join_L116, ra_g_in hi (by decide), nI_clamp (by omega), h11, if_pos (nI_le (by omega) (by omega))]
    exact ⟨A, by rw [show j = v.length by omega]; rfl, fun _ _ => rfl, fun _ _ => rfl, fun k hk => by omega⟩
  | succ m ih =>
    intro j n s A hj hn hs h11 h12
    obtain ⟨n, rfl⟩ : ∃ n', n = n' + 1 := ⟨n - 1, by omega⟩
    rw [f_M_join_L116, ra_g_in hi (by decide), nI_clamp (by omega), h11, if_neg (nI_ge (by omega) (by omega)), mx_number hi (by omega), ra_bi_s, ra_g_in (by omega) (by decide), nI_clamp (by omega), h12 j (by omega), ← nI_succ, ← nI_succ]
    obtain ⟨A', e1, e2, e3, e4⟩ := ih (j + 1) n (s + 1) (va_up A 15 (upd (A 15) s (nI (v.getD j 0)))) (by omega) (by omega) (by omega) h11 h12
    refine ⟨A', by rw [e1, show s + 1 + m = s + (m + 1) by omega], fun k hk => ?_, fun k hk => ?_, fun k hk => ?_⟩
    · rw [e2 k hk]; show (if k = 15 then _ else A k) = A k; rw [if_neg hk]
    · rw [e3 k (by omega)]; show upd (A 15) s _ k = _; unfold upd; rw [if_neg (by omega)]
    · by_cases hk0 : k = 0
      · rw [hk0, e3 (s + 0) (by omega)]; show upd (A 15) s _ s = _; unfold upd; rw [if_pos rfl]; rfl
      · have := e4 (k - 1) (by omega)
        rw [show s + 1 + (k - 1) = s + k by omega, show j + 1 + (k - 1) = j + k by omega] at this
        exact this
theorem mx_j104 (u x2 x3 : Int32) (F : ST_F) : ∀ (l : List px_V) (i n : Nat) (acc : px_V) (A : ST_A), F 6 = nI (i + l.length) → i + l.length ≤ 80 → mx_R i l A → l.length < n → acc.length + l.flatten.length ≤ 3 → (∀ k, k < acc.length → A 15 k = nI (acc.getD k 0)) → ∃ A', f_M_join_L104 n u x2 x3 (nI acc.length) (nI i) F A = f_M_pushMade x3 (upd F 6 x2) A' ∧ (∀ k, k ≠ 15 → A' k = A k) ∧ ∀ k, k < (acc ++ l.flatten).length → A' 15 k = nI ((acc ++ l.flatten).getD k 0) := by
  intro l
  induction l with
  | nil =>
    intro i n acc A h6 hi hR hn hs hacc
    obtain ⟨n, rfl⟩ : ∃ n', n = n' + 1 := ⟨n - 1, by omega⟩
    simp only [List.length_nil, Nat.add_zero] at h6 hi
    rw [f_M_join_L104, h6, if_pos (nI_le (by omega) (by omega)), ra_bvi]
    exact ⟨A, rfl, fun _ _ => rfl, by simpa using hacc⟩
  | cons v l ih =>
    intro i n acc A h6 hi hR hn hs hacc
    rw [List.length_cons] at h6 hi hn
    rw [List.flatten_cons, List.length_append] at hs
    obtain ⟨n, rfl⟩ : ∃ n', n = n' + 1 := ⟨n - 1, by omega⟩
    rw [f_M_join_L104, h6, if_neg (nI_ge (by omega) (by omega))]
    obtain ⟨A1, e1, e2, e3, e4⟩ := mx_j116 (v := v) hR.1.1.2 (i := i) (by omega) u x2 x3 F (fun y1_8 y2_8 y3_8 y4_8 y5_8 y6_8 F8 A8 => f_M_join_L104 n y1_8 y2_8 y3_8 y4_8 (y5_8 + (1 : Int32)) F8 A8) v.length 0 8 acc.length A (by omega) (by omega) (by omega) hR.1.2.1 hR.1.2.2
    rw [nI_0] at e1
    rw [e1]
    show ∃ A', f_M_join_L104 n u x2 x3 (nI (acc.length + v.length)) (nI i + 1) F A1 = _ ∧ _
    rw [← nI_succ, ← List.length_append]
    obtain ⟨A2, g1, g2, g3⟩ := ih (i + 1) n (acc ++ v) A1 (by rw [h6]; congr 1; omega) (by omega) (hR.2.made l (i + 1) e2) (by omega) (by rw [List.length_append]; omega) (fun k hk => by
      rw [List.length_append] at hk
      by_cases c : k < acc.length
      · rw [e3 k c, hacc k c, List.getD_eq_getElem?_getD, List.getD_eq_getElem?_getD, List.getElem?_append_left c]
      · have := e4 (k - acc.length) (by omega)
        rw [show acc.length + (k - acc.length) = k by omega, Nat.zero_add] at this
        rw [this, List.getD_eq_getElem?_getD, List.getD_eq_getElem?_getD, List.getElem?_append_right (by omega)])
    refine ⟨A2, g1, fun k hk => by rw [g2 k hk, e2 k hk], ?_⟩
    rw [List.flatten_cons, ← List.append_assoc]
    exact g3
theorem mx_flat {l : List px_V} {v : px_V} (h : v ∈ l) : v.length ≤ l.flatten.length := by
  induction l with
  | nil => exact absurd h List.not_mem_nil
  | cons w l ih =>
    rw [List.flatten_cons, List.length_append]
    rcases List.mem_cons.mp h with e | e
    · rw [e]; omega
    · have := ih e; omega
section MX
variable {len : Nat} {n0 : ST_F} {A0 : ST_A} {vars : Nat → Option px_V} {at_ op : Nat} {ws : List (Int32 × Nat)} {tg : Option Nat}
theorem mx_join {vs : List px_V} {L : px_L} {F : ST_F} {A : ST_A} (h : mx_C len n0 A0 vars at_ vs ws op tg F A) (hD : mx_D L false F A) {n : Nat} (hn : 1 ≤ n) (hn3 : n ≤ 3) (hle : n ≤ vs.length) : mx_Q len n0 A0 vars at_ (vs.drop n) ws op tg (f_M_join (nI n) F A) (px_join (vs.take n).reverse L) := by
  have hC := h
  obtain ⟨⟨k1, k2, k3, k4, k5, k6⟩, h2, ⟨h3, h3'⟩, hV, h5, h6, h7⟩ := h
  obtain ⟨hR, hr⟩ := hV.args n hle
  have hal : (vs.take n).reverse.length = n := by rw [List.length_reverse, List.length_take]; omega
  have hdl : (vs.drop n).length = vs.length - n := List.length_drop
  generalize (vs.take n).reverse = l at hR hal ⊢
  have hF5 : F 5 = 0 := hD.2.1
  unfold f_M_join px_join
  rw [k3, nI_subN hle, hal]
  have hx : ∀ F', F' 5 = 1 → (∀ k, k ≠ 5 → F' k = F k) → mx_X n0 A0 F' A := fun F' e1 e2 => ⟨e1, ⟨⟨by rw [e2 2 (by decide)]; exact h2.1.1, by rw [e2 1 (by decide)]; exact h2.1.2⟩, h2.2⟩, ws.length, h3', by rw [e2 7 (by decide)]; exact k4⟩
  by_cases c : ∃ v ∈ l, 3 < v.length
  · obtain ⟨F', e1, e2, e3⟩ := mx_j12n (nI n) (nI (vs.length - n)) A l (vs.length - n) 400 0 F hF5 (by rw [k3]; congr 1; omega) (by omega) (by omega) hR c
    obtain ⟨v, hv, hv3⟩ := c
    have := mx_flat hv
    rw [if_neg (fun z => by omega)]
    exact Or.inr ⟨rfl, F', A, e1, hx F' e2 e3⟩
  · have hall : ∀ v ∈ l, v.length ≤ 3 := fun v hv => by
      by_cases hc : v.length ≤ 3
      · exact hc
      · exact absurd ⟨v, hv, by omega⟩ c
    have hlf : l.flatten.length ≤ 12 := by
      have : ∀ l : List px_V, (∀ v ∈ l, v.length ≤ 3) → l.flatten.length ≤ 3 * l.length := by
        intro l
        induction l with
        | nil => intro _; simp
        | cons w l ih =>
          intro hh
          rw [List.flatten_cons, List.length_append, List.length_cons]
          have := ih (fun v hv => hh v (List.mem_cons_of_mem _ hv))
          have := hh w List.mem_cons_self
          omega
      have := this l hall
      omega
    have e12 := mx_j12 (nI n) (nI (vs.length - n)) A l (vs.length - n) 400 0 F hF5 (by rw [k3]; congr 1; omega) (by omega) (by omega) hR hall
    rw [nI_0] at e12
    rw [e12, f_M_join_L12, k3, hal, if_pos (nI_le (by omega) (by omega)), if_pos hF5, Nat.zero_add]
    have hJ82 : ∀ x3 x4, f_M_join_J82 (nI n) (nI (vs.length - n)) x3 x4 F A = some (upd F 5 1, A) := fun x3 x4 => by
      unfold f_M_join_J82 f_M_join_J87 ra_zb
      rw [if_pos (Or.inr rfl), if_neg (by decide)]
    have hno : mx_Q len n0 A0 vars at_ (vs.drop n) ws op tg (some (upd F 5 1, A)) none := mx_Q.no hC hD
    by_cases c2 : l.flatten.length < 2
    · rw [if_pos (show nI l.flatten.length < (2 : Int32) from nI_lt (b := 2) c2 (by decide)), hJ82, if_neg (fun z => by omega)]
      exact hno
    · rw [if_neg (show ¬ nI l.flatten.length < (2 : Int32) from nI_nlt (b := 2) (by omega) (by omega))]
      by_cases c3 : l.flatten.length ≤ 3
      · rw [if_pos (show nI l.flatten.length ≤ (3 : Int32) from nI_le (b := 3) c3 (by decide)), if_pos ⟨hn3, by omega, c3⟩]
        unfold f_M_join_J87 ra_zb
        rw [if_pos (Or.inl rfl), if_pos rfl, upd_same hF5]
        obtain ⟨A1, g1, g2, g3⟩ := mx_j104 (nI n) (nI (vs.length - n)) (nI l.flatten.length) F l (vs.length - n) 8 [] A (by rw [k3]; congr 1; omega) (by omega) hR (by omega) (by simpa using c3) (fun k hk => absurd hk (Nat.not_lt_zero k))
        rw [show nI ([] : px_V).length = (0 : Int32) from rfl] at g1
        rw [g1, ← hdl]
        obtain ⟨F3, A3, k1, k2, k3⟩ := mx_pushed (v := l.flatten) (A1 := A1) (F1 := F) (L' := L) (w' := false) hC hr (by omega) ⟨by omega, by omega⟩ ⟨fun _ _ _ => rfl, fun k _ _ _ hk => g2 k hk⟩ ⟨hD.1, hD.2.1, hD.2.2.1, fun k i hi => by rw [g2 6 (by decide), g2 7 (by decide), g2 8 (by decide)]; exact hD.2.2.2 k i hi⟩ (by simpa using g3)
        exact mx_Q.of cx_k.rf k1 k2 k3
      · rw [if_neg (show ¬ nI l.flatten.length ≤ (3 : Int32) from nI_ge (a := 3) (by omega) (by omega)), hJ82, if_neg (fun z => by omega)]
        exact hno
theorem mx_operate {a b : px_V} {rest : List px_V} {L : px_L} {F : ST_F} {A : ST_A} (h : mx_C len n0 A0 vars at_ (b :: a :: rest) ws op tg F A) (hD : mx_D L false F A) {c : Int32} (hc : c = 42 ∨ c = 47 ∨ c = 43 ∨ c = 45) : mx_Q len n0 A0 vars at_ rest ws op tg (f_M_operate c F A) (px_bin c a b L) := by
  have hC := h
  have hP := mx_pair hC hD
  have hCol := mx_columns hC hD
  obtain ⟨⟨k1, k2, k3, k4, k5, k6⟩, h2, ⟨h3, h3'⟩, ⟨⟨b1, b2, b3⟩, ⟨a1, a2, a3⟩, hr⟩, h5, h6, h7⟩ := h
  rw [List.length_cons, List.length_cons] at h3 k3
  rw [List.length_cons] at b2 b3
  have a1' := a1.2
  have b1' := b1.2
  unfold f_M_operate
  rw [k3, show (2 : Int32) = nI 2 from rfl, nI_subN (by omega), show (1 : Int32) = nI 1 from rfl, nI_subN (by omega), show rest.length + 1 + 1 - 2 = rest.length by omega, show rest.length + 1 + 1 - 1 = rest.length + 1 by omega, ra_g_in (by omega) (by decide), ra_g_in (by omega) (by decide), nI_clamp (by omega), nI_clamp (by omega), a2, b2]
  have h67 : ∀ x4 x5 : Int32, c ≠ 47 → f_M_operate_J67 c (nI (rest.length + 1)) (nI rest.length) x4 x5 F A = f_M_operate_J87 c (nI (rest.length + 1)) (nI rest.length) x4 x5 F A := fun x4 x5 hne => by
    unfold f_M_operate_J67
    rw [if_neg hne]
  rcases hc with rfl | rfl | rfl | rfl
  · rw [if_pos rfl]
    show mx_Q len n0 A0 vars at_ rest ws op tg _ (px_times a b L)
    have h87 : f_M_operate_J67 42 (nI (rest.length + 1)) (nI rest.length) (nI a.length) (nI b.length) F A = f_M_pairwise 4 (nI rest.length) (nI (rest.length + 1)) F A := by
      rw [h67 _ _ (by decide)]
      unfold f_M_operate_J87
      rw [if_neg (by decide), if_neg (by decide), if_pos rfl, ra_bvi]
    have h54 : f_M_operate_J54 42 (nI (rest.length + 1)) (nI rest.length) (nI a.length) (nI b.length) F A = f_M_columns (nI rest.length) (nI (rest.length + 1)) (nI b.length / 2) F A := by
      unfold f_M_operate_J54
      rw [ra_bvi]
    rw [h87, h54]
    unfold px_times
    by_cases c1 : a.length = 4
    · rw [if_pos (by rw [c1]; rfl)]
      by_cases c2 : b.length = 2
      · rw [if_pos (by rw [c2]), if_pos ⟨c1, Or.inl c2⟩]
        exact hCol c1 (Or.inl c2)
      · rw [if_neg (fun z => c2 ((nI_eqI (by omega) (by omega)).mp z))]
        by_cases c3 : b.length = 4
        · rw [if_pos (by rw [c3]; rfl), if_pos ⟨c1, Or.inr c3⟩]
          exact hCol c1 (Or.inr c3)
        · rw [if_neg (c := nI b.length = (4 : Int32)) (fun z => c3 ((nI_eqI (b := 4) (by omega) (by omega)).mp z)), if_neg (fun z => by rcases z.2 with h | h; exact c2 h; exact c3 h)]
          exact hP 4
    · rw [if_neg (c := nI a.length = (4 : Int32)) (fun z => c1 ((nI_eqI (b := 4) (by omega) (by omega)).mp z)), if_neg (fun z => c1 z.1)]
      exact hP 4
  · rw [if_neg (by decide)]
    show mx_Q len n0 A0 vars at_ rest ws op tg _ (px_div a b L)
    unfold f_M_operate_J67 px_div
    rw [if_pos rfl]
    by_cases c1 : b.length = 4
    · rw [if_pos (by rw [c1]; rfl), if_pos c1]
      exact mx_Q.no hC hD
    · rw [if_neg (c := nI b.length = (4 : Int32)) (fun z => c1 ((nI_eqI (b := 4) (by omega) (by omega)).mp z)), if_neg c1]
      unfold f_M_operate_J87
      rw [if_neg (by decide), if_neg (by decide), if_neg (by decide), ra_bvi]
      exact hP 5
  · rw [if_neg (by decide), h67 _ _ (by decide)]
    unfold f_M_operate_J87
    rw [if_pos rfl, ra_bvi]
    exact hP 2
  · rw [if_neg (by decide), h67 _ _ (by decide)]
    unfold f_M_operate_J87
    rw [if_neg (by decide), if_pos rfl, ra_bvi]
    exact hP 3
def mx_tp : List (Int32 × Nat) → Int32
  | [] => 0
  | w :: _ => w.1
theorem mx_top {vs : List px_V} {F : ST_F} {A : ST_A} (h : mx_C len n0 A0 vars at_ vs ws op tg F A) : f_M_top F A = some (mx_tp ws, F, A) := by
  obtain ⟨⟨k1, k2, k3, k4, k5, k6⟩, h2, ⟨h3, h3'⟩, hV, h5, h6, h7⟩ := h
  unfold f_M_top
  rw [k4]
  cases ws with
  | nil => rw [if_pos (by rfl)]; rfl
  | cons w ws =>
    rw [List.length_cons] at h3' ⊢
    rw [if_neg (nI_ne0 (by omega) (by omega)), nI_pred, ra_g_in (by omega) (by decide), nI_clamp (by omega), h5.1.1]
    rfl
theorem mx_C.pop {vs : List px_V} {w : Int32 × Nat} {F : ST_F} {A : ST_A} (h : mx_C len n0 A0 vars at_ vs (w :: ws) op tg F A) : mx_C len n0 A0 vars at_ vs ws op tg (upd F 7 (F 7 - 1)) A := by
  obtain ⟨⟨k1, k2, k3, k4, k5, k6⟩, h2, ⟨h3, h3'⟩, hV, h5, h6, h7⟩ := h
  rw [List.length_cons] at h3' k4
  exact ⟨⟨k1, k2, k3, by show F 7 - 1 = _; rw [k4, nI_pred], k5, k6⟩, h2, ⟨h3, by omega⟩, hV, h5.2, h6, h7⟩
end MX
def mx_n (w : Int32 × Nat) : Nat := if px_isfn w.1 = true then w.2 - 1 else if w.1 = 42 ∨ w.1 = 47 ∨ w.1 = 43 ∨ w.1 = 45 then 1 else 0
def mx_b (w : Int32 × Nat) : Nat := if w.1 = 40 ∨ px_isfn w.1 = true then 1 else 0
def mx_cnt : List (Int32 × Nat) → Nat
  | [] => 0
  | w :: r => mx_n w + mx_cnt r
def mx_br : List (Int32 × Nat) → Nat
  | [] => 0
  | w :: r => mx_b w + mx_br r
/-- the counts: values over waiting, open brackets, arguments -/
def mx_G (m : Nat) (vs : List px_V) (ws : List (Int32 × Nat)) (op : Nat) : Prop := vs.length = mx_cnt ws + m ∧ op = mx_br ws ∧ ∀ w ∈ ws, 1 ≤ w.2
section MX
variable {len : Nat} {n0 : ST_F} {A0 : ST_A} {vars : Nat → Option px_V} {at_ op : Nat} {tg : Option Nat}
/-- what settle, close .. do -/
def mx_P (len : Nat) (n0 : ST_F) (A0 : ST_A) (vars : Nat → Option px_V) (at_ : Nat) (op : Nat) (tg : Option Nat) (nv nw : Nat) (res : Option (ST_F × ST_A)) (p : Option (List (Int32 × Nat) × List px_V × px_L)) : Prop :=
  (∃ ws vs L' F' A', p = some (ws, vs, L') ∧ res = some (F', A') ∧ mx_C len n0 A0 vars at_ vs ws op tg F' A' ∧ mx_D L' false F' A' ∧ mx_G 1 vs ws op ∧ vs.length ≤ nv ∧ ws.length ≤ nw) ∨ (p = none ∧ ∃ F' A', res = some (F', A') ∧ mx_X n0 A0 F' A')
theorem mx_settleL (all : Bool) : ∀ (ws : List (Int32 × Nat)) (vs : List px_V) (L : px_L) (n : Nat) (F : ST_F) (A : ST_A), mx_C len n0 A0 vars at_ vs ws op tg F A → mx_D L false F A → mx_G 1 vs ws op → ws.length < n → mx_P len n0 A0 vars at_ op tg vs.length ws.length (f_M_settle_L0 n (if all = true then 1 else 0) F A) (px_settle all ws vs L) := by
  intro ws
  induction ws with
  | nil =>
    intro vs L n F A h hD hG hn
    obtain ⟨n, rfl⟩ : ∃ n', n = n' + 1 := ⟨n - 1, by omega⟩
    have ht := mx_top h
    have hF5 : F 5 = 0 := hD.2.1
    dsimp only [mx_tp] at ht
    have he : f_M_settle_L0 (n + 1) (if all = true then 1 else 0) F A = some (F, A) := by
      rw [f_M_settle_L0, if_pos hF5, ht, ra_bi_s, if_neg (by decide), ht, ra_bi_s, if_neg (by decide)]
      cases all with
      | false => rfl
      | true => rw [if_pos rfl, if_neg (by decide), ht, ra_bi_s, if_pos (by decide)]
    exact Or.inl ⟨[], vs, L, F, A, rfl, he, h, hD, hG, Nat.le_refl _, Nat.le_refl _⟩
  | cons w ws ih =>
    intro vs L n F A h hD hG hn
    rw [List.length_cons] at hn
    obtain ⟨n, rfl⟩ : ∃ n', n = n' + 1 := ⟨n - 1, by omega⟩
    have ht := mx_top h
    have hF5 : F 5 = 0 := hD.2.1
    dsimp only [mx_tp] at ht
    have hwl : ws.length + 1 ≤ 170 := h.2.2.1.2
    have hF7 : F 7 = nI (ws.length + 1) := h.1.2.2.2.1
    have h13 : A 13 ws.length = w.1 := h.2.2.2.2.1.1.1
    have hop : (w.1 = 42 ∨ w.1 = 47 ∨ w.1 = 43 ∨ w.1 = 45) → mx_P len n0 A0 vars at_ op tg vs.length (ws.length + 1) (ra_g (F 7 - 1) 200 (ra_bv (f_M_operate (A 13 (F 7 - 1).toNatClampNeg) (upd F 7 (F 7 - 1)) A) (fun F4 A4 => f_M_settle_L0 n (if all = true then 1 else 0) F4 A4))) ((px_two vs).bind fun z => (px_bin w.1 z.1 z.2.1 L).bind fun q => px_settle all ws (q.1 :: z.2.2) q.2) := by
      intro hb
      have hnf : ¬ px_isfn w.1 = true := by rcases hb with e | e | e | e <;> rw [e] <;> decide
      have hn1 : mx_n w = 1 := by unfold mx_n; rw [if_neg hnf, if_pos hb]
      have hb0 : mx_b w = 0 := by
        unfold mx_b
        rw [if_neg]
        rintro (e | e)
        · rcases hb with e2 | e2 | e2 | e2 <;> (rw [e2] at e; exact absurd e (by decide))
        · exact hnf e
      obtain ⟨g1, g2, g3⟩ := hG
      unfold mx_cnt at g1
      unfold mx_br at g2
      rw [hn1] at g1
      rw [hb0] at g2
      have hpop := h.pop
      rw [hF7, nI_pred, ra_g_in (by omega) (by decide), nI_clamp (by omega), h13]
      rw [hF7, nI_pred] at hpop
      match vs, g1, hpop with
      | [], g1, _ => rw [List.length_nil] at g1; omega
      | [_], g1, _ => rw [List.length_singleton] at g1; omega
      | b :: a :: rest, g1, hpop =>
        show mx_P len n0 A0 vars at_ op tg (rest.length + 2) (ws.length + 1) _ ((px_bin w.1 a b L).bind fun q => px_settle all ws (q.1 :: rest) q.2)
        rcases mx_operate hpop hD hb with ⟨v, L1, F1, A1, e1, e2, e3, e4⟩ | ⟨e1, F1, A1, e2, e3⟩
        · rw [e1, e2, ra_bv_s, Option.bind_some]
          rw [List.length_cons, List.length_cons] at g1
          have := ih (v :: rest) L1 n F1 A1 e3 e4 ⟨by rw [List.length_cons]; omega, by omega, fun w hw => g3 w (List.mem_cons_of_mem _ hw)⟩ (by omega)
          rcases this with ⟨ws', vs', L', F', A', q1, q2, q3, q4, q5, q6, q7⟩ | q
          · exact Or.inl ⟨ws', vs', L', F', A', q1, q2, q3, q4, q5, by rw [List.length_cons] at q6; omega, by omega⟩
          · exact Or.inr q
        · rw [e1, e2, ra_bv_s]
          obtain ⟨n, rfl⟩ : ∃ n', n = n' + 1 := ⟨n - 1, by omega⟩
          refine Or.inr ⟨rfl, F1, A1, ?_, e3⟩
          rw [f_M_settle_L0, if_neg (by rw [e3.1]; decide)]
    rw [f_M_settle_L0, if_pos hF5, ht, ra_bi_s, px_settle, List.length_cons]
    by_cases c1 : w.1 = 42
    · rw [if_pos c1, if_pos (Or.inl c1)]
      exact hop (Or.inl c1)
    · rw [if_neg c1, ht, ra_bi_s]
      by_cases c2 : w.1 = 47
      · rw [if_pos c2, if_pos (Or.inr (Or.inl c2))]
        exact hop (Or.inr (Or.inl c2))
      · rw [if_neg c2]
        cases all with
        | false =>
          rw [if_pos (c := (if false = true then (1 : Int32) else 0) = 0) (by decide), if_neg (by rintro (e | e | e); exact c1 e; exact c2 e; exact absurd e.1 (by decide))]
          exact Or.inl ⟨w :: ws, vs, L, F, A, rfl, rfl, h, hD, hG, Nat.le_refl _, Nat.le_refl _⟩
        | true =>
          rw [if_neg (by decide), ht, ra_bi_s]
          by_cases c3 : w.1 = 43 ∨ w.1 = 45
          · have hbin : ¬ f_M_isBinary w.1 = 0 := by rcases c3 with e | e <;> rw [e] <;> decide
            rw [if_neg hbin, if_pos (Or.inr (Or.inr ⟨rfl, c3⟩))]
            exact hop (by rcases c3 with e | e; exact Or.inr (Or.inr (Or.inl e)); exact Or.inr (Or.inr (Or.inr e)))
          · have hbin : f_M_isBinary w.1 = 0 := by
              unfold f_M_isBinary
              rw [if_neg (fun e => c3 (Or.inl e)), if_neg (fun e => c3 (Or.inr e)), if_neg c1, if_neg c2]
            rw [if_pos hbin, if_neg (by rintro (e | e | e); exact c1 e; exact c2 e; exact c3 e.2)]
            exact Or.inl ⟨w :: ws, vs, L, F, A, rfl, rfl, h, hD, hG, Nat.le_refl _, Nat.le_refl _⟩
theorem mx_settle (all : Bool) {ws : List (Int32 × Nat)} {vs : List px_V} {L : px_L} {F : ST_F} {A : ST_A} (h : mx_C len n0 A0 vars at_ vs ws op tg F A) (hD : mx_D L false F A) (hG : mx_G 1 vs ws op) : mx_P len n0 A0 vars at_ op tg vs.length ws.length (f_M_settle (if all = true then 1 else 0) F A) (px_settle all ws vs L) :=
  mx_settleL all ws vs L 400 F A h hD hG (by have := h.2.2.1.2; omega)
variable {ws : List (Int32 × Nat)}
theorem mx_call {vs : List px_V} {L : px_L} {F : ST_F} {A : ST_A} (h : mx_C len n0 A0 vars at_ vs ws op tg F A) (hD : mx_D L false F A) {f : Int32} (hf : px_isfn f = true) {n : Nat} (hn : 1 ≤ n) (hle : n ≤ vs.length) : mx_Q len n0 A0 vars at_ (vs.drop n) ws op tg (f_M_call f (nI n) F A) (px_fn f (vs.take n).reverse L) := by
  have h80 : vs.length ≤ 80 := h.2.2.1.1
  have hF6 : F 6 = nI vs.length := h.1.2.2.1
  have hno : mx_Q len n0 A0 vars at_ (vs.drop n) ws op tg (some (upd F 5 1, A)) none := mx_Q.no h hD
  have hal : (vs.take n).reverse.length = n := by rw [List.length_reverse, List.length_take]; omega
  have h1 : ∀ k, (f = 65 ∨ f = 70) → (∀ x2 x3, f_M_call_J55 f x2 x3 F A = f_M_each k F A) → (∀ v L, px_fn f [v] L = px_each k v L) → mx_Q len n0 A0 vars at_ (vs.drop n) ws op tg (f_M_call_J17 f (nI n) 1 F A) (px_fn f (vs.take n).reverse L) := by
    intro k hf1 hJ hp
    unfold f_M_call_J17
    rw [if_neg (by decide)]
    by_cases c : n = 1
    · subst c
      rw [if_pos (c := nI 1 = (1 : Int32)) rfl, hJ]
      match vs, hle, h with
      | v :: rest, _, h =>
        show mx_Q len n0 A0 vars at_ rest ws op tg (f_M_each k F A) (px_fn f [v] L)
        rw [hp]
        exact mx_each h hD k
    · rw [if_neg (c := nI n = (1 : Int32)) (fun z => c ((nI_eqI (b := 1) (by omega) (by omega)).mp z))]
      match (vs.take n).reverse, hal with
      | [], e => rw [List.length_nil] at e; omega
      | [_], e => rw [List.length_singleton] at e; omega
      | a :: b :: t, _ =>
        rw [px_fn_one hf1]
        exact hno
  have h2 : ∀ (g : Int32 → Int32 → Option (ST_F × ST_A)) (pp : px_V → px_V → Option (px_V × px_L)), f ≠ 86 ∧ f ≠ 65 ∧ f ≠ 70 → (∀ x2 x3, f_M_call_J55 f x2 x3 F A = g (F 6 - x2) (F 6 - x2 + 1)) → (∀ a b, px_fn f [a, b] L = pp a b) → (∀ (a b : px_V) (rest : List px_V), mx_C len n0 A0 vars at_ (b :: a :: rest) ws op tg F A → mx_Q len n0 A0 vars at_ rest ws op tg (g (nI rest.length) (nI (rest.length + 1))) (pp a b)) → mx_Q len n0 A0 vars at_ (vs.drop n) ws op tg (f_M_call_J17 f (nI n) 0 F A) (px_fn f (vs.take n).reverse L) := by
    intro g pp hf2 hJ hp hq
    unfold f_M_call_J17
    rw [if_pos rfl, if_neg hf2.1]
    by_cases c : n = 2
    · subst c
      rw [if_pos (c := nI 2 = (2 : Int32)) rfl, hJ, hF6, nI_subN hle, ← nI_succ]
      match vs, hle, h with
      | [_], e, _ => rw [List.length_singleton] at e; omega
      | b :: a :: rest, _, h =>
        show mx_Q len n0 A0 vars at_ rest ws op tg (g (nI (rest.length + 2 - 2)) (nI (rest.length + 2 - 2 + 1))) (px_fn f [a, b] L)
        rw [hp, show rest.length + 2 - 2 = rest.length by omega]
        exact hq a b rest h
    · rw [if_neg (c := nI n = (2 : Int32)) (fun z => c ((nI_eqI (b := 2) (by omega) (by omega)).mp z))]
      match (vs.take n).reverse, hal with
      | [], e => rw [List.length_nil] at e; omega
      | [a], _ => rw [px_fn_two1 hf2]; exact hno
      | [_, _], e => simp at e; omega
      | a :: b :: c :: t, _ => rw [px_fn_two3 hf2.1]; exact hno
  unfold f_M_call
  rcases pxf_isfn hf with rfl | rfl | rfl | rfl | rfl | rfl | rfl | rfl
  · rw [if_pos rfl]
    exact h1 10 (Or.inl rfl) (fun x2 x3 => by unfold f_M_call_J55; rw [if_pos rfl, ra_bvi]) (fun v L => rfl)
  · rw [if_neg (by decide), if_pos rfl]
    exact h1 11 (Or.inr rfl) (fun x2 x3 => by unfold f_M_call_J55; (repeat rw [if_neg (by decide)]); rw [if_pos rfl, ra_bvi]) (fun v L => rfl)
  · rw [if_neg (by decide), if_neg (by decide)]
    exact h2 (fun x y => f_M_pairwise 6 x y F A) (fun a b => px_pair 6 a b L) ⟨by decide, by decide, by decide⟩ (fun x2 x3 => by unfold f_M_call_J55; (repeat rw [if_neg (by decide)]); rw [if_pos rfl, ra_bvi]) (fun a b => rfl) (fun a b rest h => mx_pair h hD 6)
  · rw [if_neg (by decide), if_neg (by decide)]
    exact h2 (fun x y => f_M_pairwise 7 x y F A) (fun a b => px_pair 7 a b L) ⟨by decide, by decide, by decide⟩ (fun x2 x3 => by unfold f_M_call_J55; (repeat rw [if_neg (by decide)]); rw [if_pos rfl, ra_bvi]) (fun a b => rfl) (fun a b rest h => mx_pair h hD 7)
  · rw [if_neg (by decide), if_neg (by decide)]
    exact h2 (fun x y => f_M_pairwise 8 x y F A) (fun a b => px_pair 8 a b L) ⟨by decide, by decide, by decide⟩ (fun x2 x3 => by unfold f_M_call_J55; (repeat rw [if_neg (by decide)]); rw [if_pos rfl, ra_bvi]) (fun a b => rfl) (fun a b rest h => mx_pair h hD 8)
  · rw [if_neg (by decide), if_neg (by decide)]
    exact h2 (fun x y => f_M_dot x y F A) (fun a b => px_dot a b L) ⟨by decide, by decide, by decide⟩ (fun x2 x3 => by unfold f_M_call_J55; (repeat rw [if_neg (by decide)]); rw [if_pos rfl, ra_bvi]) (fun a b => rfl) (fun a b rest h => mx_dot h hD)
  · rw [if_neg (by decide), if_neg (by decide)]
    unfold f_M_call_J17
    rw [if_pos rfl, if_pos rfl]
    show mx_Q len n0 A0 vars at_ (vs.drop n) ws op tg _ (px_join (vs.take n).reverse L)
    by_cases c : n ≤ 3
    · rw [if_pos (show nI n ≤ (3 : Int32) from nI_le (b := 3) c (by decide))]
      have e : f_M_call_J55 86 (nI n) 0 F A = f_M_join (nI n) F A := by unfold f_M_call_J55; (repeat rw [if_neg (by decide)]); rw [if_pos rfl, ra_bvi]
      rw [e]
      exact mx_join h hD hn c hle
    · rw [if_neg (show ¬ nI n ≤ (3 : Int32) from nI_ge (a := 3) (by omega) (by omega))]
      unfold px_join
      rw [if_neg (fun z => by omega)]
      exact hno
  · rw [if_neg (by decide), if_neg (by decide)]
    exact h2 (fun x y => f_M_matrix x y F A) (fun a b => if a.length = 2 ∧ b.length = 2 then some (a ++ b, L) else none) ⟨by decide, by decide, by decide⟩ (fun x2 x3 => by unfold f_M_call_J55; (repeat rw [if_neg (by decide)]); rw [if_pos rfl, ra_bvi]) (fun a b => rfl) (fun a b rest h => mx_matrix h hD)
end MX
