/-! the reference's operations -/
theorem ra_bvi (g : Option (ST_F × ST_A)) : ra_bv g (fun F A => some (F, A)) = g := by cases g <;> rfl
section MX
variable {len : Nat} {n0 : ST_F} {A0 : ST_A} {vars : Nat → Option px_V} {at_ op : Nat} {ws : List (Int32 × Nat)} {tg : Option Nat}
theorem mx_pair {a b : px_V} {rest : List px_V} {L : px_L} {F : ST_F} {A : ST_A} (h : mx_C len n0 A0 vars at_ (b :: a :: rest) ws op tg F A) (hD : mx_D L false F A) (k : Int32) : mx_Q len n0 A0 vars at_ rest ws op tg (f_M_pairwise k (nI rest.length) (nI (rest.length + 1)) F A) (px_pair k a b L) := by
  have hC := h
  obtain ⟨h1, h2, ⟨h3, h3'⟩, ⟨⟨b1, b2, b3⟩, ⟨a1, a2, a3⟩, hr⟩, h5, h6, h7⟩ := h
  rw [List.length_cons, List.length_cons] at h3
  rw [List.length_cons] at b2 b3
  have hJ : ¬ (a.length ≠ b.length ∧ a.length ≠ 1 ∧ b.length ≠ 1) → mx_Q len n0 A0 vars at_ rest ws op tg (f_M_pairwise_J41 k (nI rest.length) (nI (rest.length + 1)) (nI a.length) (nI b.length) F A) (px_puts L ((List.range (max a.length b.length)).map fun i => (k, px_sp a i, px_sp b i))) := by
    intro hne
    have a1' := a1.2
    have b1' := b1.2
    have a1'' := a1.1
    have b1'' := b1.1
    have hT : max a.length b.length ≤ 4 := by omega
    have hl : f_M_pairwise_J41 k (nI rest.length) (nI (rest.length + 1)) (nI a.length) (nI b.length) F A = f_M_pairwise_L60 400 k (nI rest.length) (nI (rest.length + 1)) (nI a.length) (nI b.length) (nI (max a.length b.length)) 0 F A := by
      unfold f_M_pairwise_J41
      by_cases c : a.length ≤ b.length
      · rw [if_pos (nI_le c (by omega)), Nat.max_eq_right c]
      · rw [if_neg (nI_ge (by omega) (by omega)), Nat.max_eq_left (by omega)]
    rw [hl]
    have hra : ∀ j, j < max a.length b.length → ∀ F1 A1, mx_fr F A F1 A1 → (if nI a.length = 1 then f_M_number (nI rest.length) 0 F1 A1 else f_M_number (nI rest.length) (nI j) F1 A1) = some (px_sp a j, F1, A1) := by
      intro j hj F1 A1 hfr
      have e12 := hfr.2 12 (by decide) (by decide) (by decide) (by decide)
      unfold px_sp px_at
      by_cases c : a.length = 1
      · rw [if_pos (by rw [c]; rfl), if_pos c, show (0 : Int32) = nI 0 from rfl, mx_number (by omega) (by decide), e12, a3 0 (by omega)]
      · rw [if_neg (c := nI a.length = (1 : Int32)) (fun z => c ((nI_eqI (b := 1) (by omega) (by omega)).mp z)), if_neg c, mx_number (by omega) (by omega), e12, a3 j (by omega)]
    have hrb : ∀ j, j < max a.length b.length → ∀ F1 A1, mx_fr F A F1 A1 → (if nI b.length = 1 then f_M_number (nI (rest.length + 1)) 0 F1 A1 else f_M_number (nI (rest.length + 1)) (nI j) F1 A1) = some (px_sp b j, F1, A1) := by
      intro j hj F1 A1 hfr
      have e12 := hfr.2 12 (by decide) (by decide) (by decide) (by decide)
      unfold px_sp px_at
      by_cases c : b.length = 1
      · rw [if_pos (by rw [c]; rfl), if_pos c, show (0 : Int32) = nI 0 from rfl, mx_number (by omega) (by decide), e12, b3 0 (by omega)]
      · rw [if_neg (c := nI b.length = (1 : Int32)) (fun z => c ((nI_eqI (b := 1) (by omega) (by omega)).mp z)), if_neg c, mx_number (by omega) (by omega), e12, b3 j (by omega)]
    obtain ⟨w', L', wr', F', A', e1, e2, e3, e4, e5, e6⟩ := mx_loop0 hT (g := fun n j F A => f_M_pairwise_L60 n k (nI rest.length) (nI (rest.length + 1)) (nI a.length) (nI b.length) (nI (max a.length b.length)) j F A) (kx := fun F A => f_M_pushMade (nI (max a.length b.length)) (upd F 6 (nI rest.length)) A) (f := fun i => (k, px_sp a i, px_sp b i)) (F0 := F) (B0 := A) (fun n F1 A1 hfr => by
        show f_M_pairwise_L60 (n + 1) _ _ _ _ _ _ (nI (max a.length b.length)) F1 A1 = _
        rw [f_M_pairwise_L60, if_pos (nI_le (Nat.le_refl _) (by omega)), ra_bvi]) (fun n j F1 A1 hj hfr => by
        show f_M_pairwise_L60 (n + 1) _ _ _ _ _ _ (nI j) F1 A1 = _
        have q1 := hra j hj F1 A1 hfr
        have q2 := hrb j hj F1 A1 hfr
        rw [f_M_pairwise_L60, if_neg (nI_ge hj (by omega))]
        by_cases c1 : nI a.length = 1
        · rw [if_pos c1] at q1
          rw [if_pos c1, q1, ra_bi_s]
          by_cases c2 : nI b.length = 1
          · rw [if_pos c2] at q2
            rw [if_pos c2, q2, ra_bi_s]
          · rw [if_neg c2] at q2
            rw [if_neg c2, q2, ra_bi_s]
        · rw [if_neg c1] at q1
          rw [if_neg c1, q1, ra_bi_s]
          by_cases c2 : nI b.length = 1
          · rw [if_pos c2] at q2
            rw [if_pos c2, q2, ra_bi_s]
          · rw [if_neg c2] at q2
            rw [if_neg c2, q2, ra_bi_s]) hD
    obtain ⟨F2, A2, g1, g2, g3⟩ := mx_pushed (v := w') hC hr (by omega) ⟨by omega, by omega⟩ e3 e2 (by rw [e4]; exact e5)
    rw [e4] at g1
    exact mx_Q.of e6 (e1.trans g1) g2 g3
  unfold f_M_pairwise px_pair
  rw [ra_g_in (by omega) (by decide), ra_g_in (by omega) (by decide), nI_clamp (by omega), nI_clamp (by omega), a2, b2]
  have a1' := a1.2
  have b1' := b1.2
  by_cases c1 : a.length = b.length
  · rw [if_pos (by rw [c1]), if_neg (fun z => z.1 c1)]; exact hJ (fun z => z.1 c1)
  · rw [if_neg (fun z => c1 ((nI_eqI (by omega) (by omega)).mp z))]
    by_cases c2 : a.length = 1
    · rw [if_pos (by rw [c2]; rfl), if_neg (fun z => z.2.1 c2)]; exact hJ (fun z => z.2.1 c2)
    · rw [if_neg (c := nI a.length = (1 : Int32)) (fun z => c2 ((nI_eqI (b := 1) (by omega) (by omega)).mp z))]
      by_cases c3 : b.length = 1
      · rw [if_pos (by rw [c3]; rfl), if_neg (fun z => z.2.2 c3)]; exact hJ (fun z => z.2.2 c3)
      · rw [if_neg (c := nI b.length = (1 : Int32)) (fun z => c3 ((nI_eqI (b := 1) (by omega) (by omega)).mp z)), if_pos ⟨c1, c2, c3⟩]
        exact mx_Q.no hC hD
theorem mx_each9 {v : px_V} (hv : v.length ≤ 4) {i : Nat} (hi : i < 80) {F0 : ST_F} {B0 : ST_A} (h11 : B0 11 i = nI v.length) (h12 : ∀ j, j < v.length → B0 12 (4 * i + j) = nI (v.getD j 0)) (k : Int32) :
    ∀ (m j n : Nat) (w : px_V) (L : px_L) (wr : Bool) (F : ST_F) (A : ST_A), j + m = v.length → w.length = j → m < n → mx_D L wr F A → (∀ q, q ≠ 3 → q ≠ 5 → F q = F0 q) → (∀ q, q ≠ 6 → q ≠ 7 → q ≠ 8 → q ≠ 12 → A q = B0 q) → (∀ q, q < 4 * i ∨ 4 * i + j ≤ q → A 12 q = B0 12 q) → (∀ q, q < j → A 12 (4 * i + q) = nI (w.getD q 0)) → ∃ w' L' wr' F' A', f_M_each_L9 n k (nI i) (nI j) F A = some (F', A') ∧ mx_D L' wr' F' A' ∧ (∀ q, q ≠ 3 → q ≠ 5 → F' q = F0 q) ∧ (∀ q, q ≠ 6 → q ≠ 7 → q ≠ 8 → q ≠ 12 → A' q = B0 q) ∧ (∀ q, q < 4 * i → A' 12 q = B0 12 q) ∧ w'.length = v.length ∧ (∀ q, q < v.length → A' 12 (4 * i + q) = nI (w'.getD q 0)) ∧ cx_k wr wr' ((px_puts L ((List.range' j m).map fun q => (k, nI (v.getD q 0), 0))).map fun z => (w ++ z.1, z.2)) (some (w', L')) := by
  intro m
  induction m with
  | zero =>
    intro j n w L wr F A hj hw hn hD f1 f2 f3 f4
    obtain ⟨n, rfl⟩ : ∃ n', n = n' + 1 := ⟨n - 1, by omega⟩
    rw [f_M_each_L9, ra_g_in hi (by decide), nI_clamp (by omega), f2 11 (by decide) (by decide) (by decide) (by decide), h11, if_pos (nI_le (by omega) (by omega))]
    refine ⟨w, L, wr, F, A, rfl, hD, f1, f2, fun q hq => f3 q (Or.inl hq), by omega, fun q hq => f4 q (by omega), ?_⟩
    have e : ((px_puts L ((List.range' j 0).map fun q => (k, nI (v.getD q 0), 0))).map fun z => (w ++ z.1, z.2)) = some (w, L) := by simp [px_puts]
    rw [e]
    exact cx_k.rf
  | succ m ih =>
    intro j n w L wr F A hj hw hn hD f1 f2 f3 f4
    obtain ⟨n, rfl⟩ : ∃ n', n = n' + 1 := ⟨n - 1, by omega⟩
    rw [f_M_each_L9, ra_g_in hi (by decide), nI_clamp (by omega), f2 11 (by decide) (by decide) (by decide) (by decide), h11, if_neg (nI_ge (by omega) (by omega)), mx_number hi (by omega), ra_bi_s, f3 _ (Or.inr (Nat.le_refl _)), h12 j (by omega)]
    obtain ⟨r, L1, w1, F1, A1, p1, p2, p3, p4, p5⟩ := mx_put hD (k, nI (v.getD j 0), 0)
    dsimp only at p1
    rw [p1, ra_bi_s, show (4 : Int32) = nI 4 from rfl, pk_mul, nI_add, ra_g_in (by omega) (by decide), nI_clamp (by omega), ← nI_succ]
    have hA1 : ∀ q, q ≠ 6 → q ≠ 7 → q ≠ 8 → A1 q = A q := fun q x1 x2 x3 => by
      by_cases x4 : q = 15
      · rw [x4, p4]
      · exact p3.2 q x1 x2 x3 x4
    obtain ⟨w', L2, w2, F2, A2, g1, g2, g3, g4, g5, g6, g7, g8⟩ := ih (j + 1) n (w ++ [r]) L1 w1 F1 (va_up A1 12 (upd (A1 12) (4 * i + j) (nI r))) (by omega) (by rw [List.length_append, hw]; rfl) (by omega) p2 (fun q x1 x2 => by rw [p3.1 q x1 x2, f1 q x1 x2]) (fun q x1 x2 x3 x4 => by show (if q = 12 then _ else A1 q) = _; rw [if_neg x4, hA1 q x1 x2 x3, f2 q x1 x2 x3 x4]) (fun q hq => by
        show upd (A1 12) (4 * i + j) (nI r) q = _
        unfold upd
        rw [if_neg (by omega), hA1 12 (by decide) (by decide) (by decide), f3 q (by omega)]) (fun q hq => by
        show upd (A1 12) (4 * i + j) (nI r) (4 * i + q) = _
        unfold upd
        by_cases hqj : q = j
        · rw [if_pos (by omega), hqj, List.getD_eq_getElem?_getD, List.getElem?_append_right (by omega), hw]
          simp
        · rw [if_neg (by omega), hA1 12 (by decide) (by decide) (by decide), f4 q (by omega), List.getD_eq_getElem?_getD, List.getD_eq_getElem?_getD, List.getElem?_append_left (by omega)])
    refine ⟨w', L2, w2, F2, A2, g1, g2, g3, g4, g5, g6, g7, ?_⟩
    have := p5.bind (f := fun x => (px_puts x.2 ((List.range' (j + 1) m).map fun q => (k, nI (v.getD q 0), 0))).map fun z => (w ++ [x.1] ++ z.1, z.2)) g8
    rw [List.range'_succ, List.map_cons, px_puts]
    have e : (((px_put L (k, nI (v.getD j 0), 0)).bind fun r => (px_puts r.2 (List.map (fun q => (k, nI (v.getD q 0), 0)) (List.range' (j + 1) m))).bind fun q => some (r.1 :: q.1, q.2)).map fun z => (w ++ z.1, z.2)) = (px_put L (k, nI (v.getD j 0), 0)).bind fun x => (px_puts x.2 ((List.range' (j + 1) m).map fun q => (k, nI (v.getD q 0), 0))).map fun z => (w ++ [x.1] ++ z.1, z.2) := by
      cases px_put L (k, nI (v.getD j 0), 0) with
      | none => rfl
      | some x =>
        show ((px_puts x.2 ((List.range' (j + 1) m).map fun q => (k, nI (v.getD q 0), 0))).bind _).map _ = (px_puts x.2 ((List.range' (j + 1) m).map fun q => (k, nI (v.getD q 0), 0))).map _
        cases px_puts x.2 ((List.range' (j + 1) m).map fun q => (k, nI (v.getD q 0), 0)) with
        | none => rfl
        | some z => simp
    rw [e]
    exact this
theorem mx_each {v : px_V} {rest : List px_V} {L : px_L} {F : ST_F} {A : ST_A} (h : mx_C len n0 A0 vars at_ (v :: rest) ws op tg F A) (hD : mx_D L false F A) (k : Int32) : mx_Q len n0 A0 vars at_ rest ws op tg (f_M_each k F A) (px_each k v L) := by
  obtain ⟨⟨k1, k2, k3, k4, k5, k6⟩, ⟨b1, b2⟩, ⟨c1, c2⟩, ⟨⟨v1, v2, v3⟩, hr⟩, d2, d3, d4⟩ := h
  rw [List.length_cons] at c1 k3
  unfold f_M_each
  rw [k3, nI_pred]
  obtain ⟨w', L', w1, F', A', e1, e2, e3, e4, e5, e6, e7, e8⟩ := mx_each9 (v := v) v1.2 (i := rest.length) (by omega) (F0 := F) (B0 := A) v2 v3 k v.length 0 400 [] L false F A (by omega) rfl (by have := v1.2; omega) hD (fun _ _ _ => rfl) (fun _ _ _ _ _ => rfl) (fun _ _ => rfl) (fun q hq => absurd hq (Nat.not_lt_zero q))
  rw [nI_0] at e1
  have e : ((px_puts L ((List.range' 0 v.length).map fun q => (k, nI (v.getD q 0), 0))).map fun z => (([] : px_V) ++ z.1, z.2)) = px_each k v L := by
    have ee : (List.range' 0 v.length).map (fun i => ((k, nI (v.getD i 0), 0) : px_I)) = v.map fun p => (k, nI p, 0) := by
      apply List.ext_getElem
      · simp
      · intro i h1 h2
        have hi : i < v.length := by simpa using h1
        simp [hi]
    rw [ee]
    unfold px_each
    cases px_puts L (v.map fun p => (k, nI p, 0)) <;> rfl
  rw [e] at e8
  have hA : ∀ q, q ≠ 6 → q ≠ 7 → q ≠ 8 → q ≠ 12 → A' q = A q := e4
  refine mx_Q.of e8 e1 ⟨⟨?_, ?_, ?_, ?_, ?_, ?_⟩, ⟨?_, ?_⟩, ⟨by rw [List.length_cons]; omega, c2⟩, ⟨⟨⟨by have := v1.1; omega, by have := v1.2; omega⟩, ?_, ?_⟩, ?_⟩, ?_, ?_, ?_⟩ e2
  · rw [e3 1 (by decide) (by decide)]; exact k1
  · rw [e3 4 (by decide) (by decide)]; exact k2
  · rw [e3 6 (by decide) (by decide)]; exact k3
  · rw [e3 7 (by decide) (by decide)]; exact k4
  · rw [e3 8 (by decide) (by decide)]; exact k5
  · rw [e3 9 (by decide) (by decide)]; exact k6
  · exact ⟨by rw [e3 2 (by decide) (by decide)]; exact b1.1, by rw [e3 1 (by decide) (by decide)]; exact b1.2⟩
  · intro q hq
    rw [hA q (by omega) (by omega) (by omega) (by omega)]
    exact b2 q hq
  · rw [hA 11 (by decide) (by decide) (by decide) (by decide), e6]
    exact v2
  · intro j hj
    exact e7 j (by omega)
  · exact mx_V.mono rest hr (fun q hq => by rw [hA 11 (by decide) (by decide) (by decide) (by decide)]) (fun q hq => e5 q hq)
  · exact mx_W.mono ws d2 (fun q hq => by rw [hA 13 (by decide) (by decide) (by decide) (by decide)]) (fun q hq => by rw [hA 14 (by decide) (by decide) (by decide) (by decide)])
  · intro q hq
    rw [hA 9 (by decide) (by decide) (by decide) (by decide)]
    exact d3 q hq
  · intro q u hq hu
    rw [hA 10 (by decide) (by decide) (by decide) (by decide)]
    exact d4 q u hq hu
theorem mx_dotL {a b : px_V} {i : Nat} (hi : i + 1 < 80) (hab : a.length = b.length) (ha3 : a.length ≤ 3) {F0 : ST_F} {B0 : ST_A} (ha : ∀ j, j < a.length → B0 12 (4 * i + j) = nI (a.getD j 0)) (hb : ∀ j, j < b.length → B0 12 (4 * (i + 1) + j) = nI (b.getD j 0)) :
    ∀ (m j n t : Nat) (L : px_L) (wr : Bool) (F : ST_F) (A : ST_A), j + m = a.length → 1 ≤ j → m < n → mx_D L wr F A → mx_fr F0 B0 F A → ∃ t' L' wr' F' A', f_M_dot_L34 n (nI i) (nI (i + 1)) (nI a.length) (nI t) (nI j) F A = f_M_pushMade 1 (upd F' 6 (nI i)) (va_up A' 15 (upd (A' 15) 0 (nI t'))) ∧ mx_D L' wr' F' A' ∧ mx_fr F0 B0 F' A' ∧ cx_k wr wr' (px_dotL a b (List.range' j m) t L) (some (t', L')) := by
  intro m
  induction m with
  | zero =>
    intro j n t L wr F A hj h1 hn hD hfr
    obtain ⟨n, rfl⟩ : ∃ n', n = n' + 1 := ⟨n - 1, by omega⟩
    refine ⟨t, L, wr, F, A, ?_, hD, hfr, cx_k.rf⟩
    rw [f_M_dot_L34, if_pos (nI_le (by omega) (by omega)), show (0 : Int32) = nI 0 from rfl, ra_g_in (by decide) (by decide), ra_bvi]
    rfl
  | succ m ih =>
    intro j n t L wr F A hj h1 hn hD hfr
    obtain ⟨n, rfl⟩ : ∃ n', n = n' + 1 := ⟨n - 1, by omega⟩
    have e12 := hfr.2 12 (by decide) (by decide) (by decide) (by decide)
    obtain ⟨x, L1, w1, F1, A1, p1, p2, p3, p4, p5⟩ := mx_put hD (4, nI (a.getD j 0), nI (b.getD j 0))
    obtain ⟨y, L2, w2, F2, A2, q1, q2, q3, q4, q5⟩ := mx_put p2 (2, nI t, nI x)
    dsimp only at p1 q1
    rw [f_M_dot_L34, if_neg (nI_ge (by omega) (by omega)), mx_number (by omega) (by omega), ra_bi_s, mx_number (by omega) (by omega), ra_bi_s, e12, ha j (by omega), hb j (by omega), p1, ra_bi_s, if_neg (nI_ne0 (by omega) (by omega)), q1, ra_bi_s, ← nI_succ]
    obtain ⟨t', L3, w3, F3, A3, g1, g2, g3, g4⟩ := ih (j + 1) n y L2 w2 F2 A2 (by omega) (by omega) (by omega) q2 ((hfr.tr p3).tr q3)
    refine ⟨t', L3, w3, F3, A3, g1, g2, g3, ?_⟩
    rw [List.range'_succ, px_dotL]
    exact p5.bind (q5.bind g4)
theorem mx_dot {a b : px_V} {rest : List px_V} {L : px_L} {F : ST_F} {A : ST_A} (h : mx_C len n0 A0 vars at_ (b :: a :: rest) ws op tg F A) (hD : mx_D L false F A) : mx_Q len n0 A0 vars at_ rest ws op tg (f_M_dot (nI rest.length) (nI (rest.length + 1)) F A) (px_dot a b L) := by
  have hC := h
  obtain ⟨h1, h2, ⟨h3, h3'⟩, ⟨⟨b1, b2, b3⟩, ⟨a1, a2, a3⟩, hr⟩, h5, h6, h7⟩ := h
  rw [List.length_cons, List.length_cons] at h3
  rw [List.length_cons] at b2 b3
  have a1' := a1.2
  have b1' := b1.2
  have a1'' := a1.1
  unfold f_M_dot px_dot
  rw [ra_g_in (by omega) (by decide), ra_g_in (by omega) (by decide), nI_clamp (by omega), nI_clamp (by omega), a2, b2]
  by_cases c1 : a.length = b.length
  · rw [if_pos (by rw [c1])]
    by_cases c2 : a.length ≤ 3
    · rw [if_pos (show nI a.length ≤ (3 : Int32) from nI_le (b := 3) c2 (by decide)), if_neg (fun z => by rcases z with h | h; exact h c1; omega)]
      obtain ⟨x, L1, w1, F1, A1, p1, p2, p3, p4, p5⟩ := mx_put hD (4, nI (a.getD 0 0), nI (b.getD 0 0))
      dsimp only at p1
      obtain ⟨t', L2, w2, F2, A2, g1, g2, g3, g4⟩ := mx_dotL (a := a) (b := b) (i := rest.length) (by omega) c1 c2 (F0 := F) (B0 := A) a3 b3 (a.length - 1) 1 399 x L1 w1 F1 A1 (by omega) (by omega) (by omega) p2 p3
      have hstep : f_M_dot_L34 400 (nI rest.length) (nI (rest.length + 1)) (nI a.length) 0 0 F A = f_M_dot_L34 399 (nI rest.length) (nI (rest.length + 1)) (nI a.length) (nI x) (nI 1) F1 A1 := by
        have r1 := mx_number (i := rest.length) (j := 0) (by omega) (by decide) F A
        have r2 := mx_number (i := rest.length + 1) (j := 0) (by omega) (by decide) F A
        rw [nI_0] at r1 r2
        rw [f_M_dot_L34, if_neg (show ¬ nI a.length ≤ (0 : Int32) from nI_nle (by omega) (by omega)), r1, ra_bi_s, r2, ra_bi_s, a3 0 (by omega), b3 0 (by omega), p1, ra_bi_s, if_pos rfl]
        rfl
      rw [hstep, g1]
      obtain ⟨F3, A3, k1, k2, k3⟩ := mx_pushed (v := [t']) hC hr (by omega) ⟨by simp, by simp⟩ (g3.made (upd (A2 15) 0 (nI t'))) (g2.made (upd (A2 15) 0 (nI t'))) (fun j hj => by
        have : j = 0 := by simpa using hj
        subst this
        rfl)
      refine mx_Q.of ?_ k1 k2 k3
      have e : (List.range (a.length - 1)).map (fun i => i + 1) = List.range' 1 (a.length - 1) := by
        rw [List.range'_eq_map_range]
        exact List.map_congr_left (fun i _ => Nat.add_comm i 1)
      rw [e]
      exact p5.bind (g4.bind cx_k.rf)
    · rw [if_neg (show ¬ nI a.length ≤ (3 : Int32) from nI_ge (a := 3) (by omega) (by omega)), if_pos (Or.inr (by omega))]
      exact mx_Q.no hC hD
  · rw [if_neg (fun z => c1 ((nI_eqI (by omega) (by omega)).mp z)), if_pos (Or.inl c1)]
    exact mx_Q.no hC hD
theorem mx_matrix {a b : px_V} {rest : List px_V} {L : px_L} {F : ST_F} {A : ST_A} (h : mx_C len n0 A0 vars at_ (b :: a :: rest) ws op tg F A) (hD : mx_D L false F A) : mx_Q len n0 A0 vars at_ rest ws op tg (f_M_matrix (nI rest.length) (nI (rest.length + 1)) F A) (if a.length = 2 ∧ b.length = 2 then some (a ++ b, L) else none) := by
  have hC := h
  obtain ⟨h1, h2, ⟨h3, h3'⟩, ⟨⟨b1, b2, b3⟩, ⟨a1, a2, a3⟩, hr⟩, h5, h6, h7⟩ := h
  rw [List.length_cons, List.length_cons] at h3
  rw [List.length_cons] at b2 b3
  have a1' := a1.2
  have b1' := b1.2
  unfold f_M_matrix
  rw [ra_g_in (by omega) (by decide), ra_g_in (by omega) (by decide), nI_clamp (by omega), nI_clamp (by omega), a2, b2]
  by_cases c1 : a.length = 2
  · rw [if_pos (by rw [c1]; rfl)]
    by_cases c2 : b.length = 2
    · rw [if_pos (by rw [c2]; rfl), if_pos ⟨c1, c2⟩]
      have r : ∀ (i j : Nat) (A1 : ST_A), i < 80 → j < 4 → f_M_number (nI i) (nI j) F A1 = some (A1 12 (4 * i + j), F, A1) := fun i j A1 hi hj => mx_number hi hj F A1
      have s0 : ∀ A1 n, f_M_matrix_L28 (n + 1) (nI rest.length) (nI (rest.length + 1)) 0 F A1 = f_M_matrix_L28 n (nI rest.length) (nI (rest.length + 1)) 1 F (va_up A1 15 (upd (A1 15) 0 (A1 12 (4 * rest.length + 0)))) := fun A1 n => by
        rw [f_M_matrix_L28, if_neg (by decide), if_neg (by decide), show (0 : Int32) - 0 / 2 * 2 = nI 0 by decide, r _ _ _ (by omega) (by decide), ra_bi_s, show (0 : Int32) = nI 0 from rfl, ra_g_in (by decide) (by decide)]
        rfl
      have s1 : ∀ A1 n, f_M_matrix_L28 (n + 1) (nI rest.length) (nI (rest.length + 1)) 1 F A1 = f_M_matrix_L28 n (nI rest.length) (nI (rest.length + 1)) 2 F (va_up A1 15 (upd (A1 15) 1 (A1 12 (4 * rest.length + 1)))) := fun A1 n => by
        rw [f_M_matrix_L28, if_neg (by decide), if_neg (by decide), show (1 : Int32) - 1 / 2 * 2 = nI 1 by decide, r _ _ _ (by omega) (by decide), ra_bi_s, show (1 : Int32) = nI 1 from rfl, ra_g_in (by decide) (by decide)]
        rfl
      have s2 : ∀ A1 n, f_M_matrix_L28 (n + 1) (nI rest.length) (nI (rest.length + 1)) 2 F A1 = f_M_matrix_L28 n (nI rest.length) (nI (rest.length + 1)) 3 F (va_up A1 15 (upd (A1 15) 2 (A1 12 (4 * (rest.length + 1) + 0)))) := fun A1 n => by
        rw [f_M_matrix_L28, if_neg (by decide), if_pos (by decide), show (2 : Int32) - 2 / 2 * 2 = nI 0 by decide, r _ _ _ (by omega) (by decide), ra_bi_s, show (2 : Int32) = nI 2 from rfl, ra_g_in (by decide) (by decide)]
        rfl
      have s3 : ∀ A1 n, f_M_matrix_L28 (n + 1) (nI rest.length) (nI (rest.length + 1)) 3 F A1 = f_M_matrix_L28 n (nI rest.length) (nI (rest.length + 1)) 4 F (va_up A1 15 (upd (A1 15) 3 (A1 12 (4 * (rest.length + 1) + 1)))) := fun A1 n => by
        rw [f_M_matrix_L28, if_neg (by decide), if_pos (by decide), show (3 : Int32) - 3 / 2 * 2 = nI 1 by decide, r _ _ _ (by omega) (by decide), ra_bi_s, show (3 : Int32) = nI 3 from rfl, ra_g_in (by decide) (by decide)]
        rfl
      have s4 : ∀ A1 n, f_M_matrix_L28 (n + 1) (nI rest.length) (nI (rest.length + 1)) 4 F A1 = f_M_pushMade 4 (upd F 6 (nI rest.length)) A1 := fun A1 n => by
        rw [f_M_matrix_L28, if_pos (by decide), ra_bvi]
      rw [s0, s1, s2, s3, s4]
      obtain ⟨x, y, rfl⟩ : ∃ x y, a = [x, y] := by
        match a, c1 with
        | [x, y], _ => exact ⟨x, y, rfl⟩
      obtain ⟨z, u, rfl⟩ : ∃ x y, b = [x, y] := by
        match b, c2 with
        | [x, y], _ => exact ⟨x, y, rfl⟩
      obtain ⟨F3, A3, k1, k2, k3⟩ := mx_pushed (v := [x, y, z, u]) (A1 := va_up (va_up (va_up (va_up A 15 (upd (A 15) 0 (A 12 (4 * rest.length + 0)))) 15 (upd (upd (A 15) 0 (A 12 (4 * rest.length + 0))) 1 (A 12 (4 * rest.length + 1)))) 15 (upd (upd (upd (A 15) 0 (A 12 (4 * rest.length + 0))) 1 (A 12 (4 * rest.length + 1))) 2 (A 12 (4 * (rest.length + 1) + 0)))) 15 (upd (upd (upd (upd (A 15) 0 (A 12 (4 * rest.length + 0))) 1 (A 12 (4 * rest.length + 1))) 2 (A 12 (4 * (rest.length + 1) + 0))) 3 (A 12 (4 * (rest.length + 1) + 1)))) hC hr (by omega) ⟨by simp, by simp⟩ ((((mx_fr.rf.made _).made _).made _).made _) hD (fun j hj => by
        have a30 := a3 0 (by simp)
        have a31 := a3 1 (by simp)
        have b30 := b3 0 (by simp)
        have b31 := b3 1 (by simp)
        have : j = 0 ∨ j = 1 ∨ j = 2 ∨ j = 3 := by simp at hj; omega
        rcases this with rfl | rfl | rfl | rfl
        · exact a30
        · exact a31
        · exact b30
        · exact b31)
      exact mx_Q.of (w' := false) (v := [x, y, z, u]) (L' := L) cx_k.rf k1 k2 k3
    · rw [if_neg (c := nI b.length = (2 : Int32)) (fun z => c2 ((nI_eqI (b := 2) (by omega) (by omega)).mp z)), if_neg (fun z => c2 z.2)]
      exact mx_Q.no hC hD
  · rw [if_neg (c := nI a.length = (2 : Int32)) (fun z => c1 ((nI_eqI (b := 2) (by omega) (by omega)).mp z)), if_neg (fun z => c1 z.1)]
    exact mx_Q.no hC hD
theorem mx_cell {a b : px_V} {i : Nat} (hi : i + 1 < 80) (ha4 : a.length = 4) {F0 : ST_F} {B0 : ST_A} (ha : ∀ j, j < a.length → B0 12 (4 * i + j) = nI (a.getD j 0)) (hb : ∀ j, j < b.length → B0 12 (4 * (i + 1) + j) = nI (b.getD j 0)) {kx : Int32 → Int32 → Int32 → Int32 → Int32 → ST_F → ST_A → Option (ST_F × ST_A)} {n j r : Nat} (hj : 2 * j + 1 < b.length) (hb4 : b.length ≤ 4) (hr : r < 2) (x3 : Int32) {L : px_L} {wr : Bool} {F : ST_F} {A : ST_A} (hD : mx_D L wr F A) (hfr : mx_fr F0 B0 F A) :
    ∃ c L' wr' F' A', f_M_columns_L12 kx (n + 1) (nI i) (nI (i + 1)) x3 (nI j) (nI r) F A = f_M_columns_L12 kx n (nI i) (nI (i + 1)) x3 (nI j) (nI (r + 1)) F' A' ∧ mx_D L' wr' F' A' ∧ mx_fr F0 B0 F' A' ∧ A' 15 = upd (A 15) (2 * j + r) (nI c) ∧ cx_k wr wr' (px_cell a b j r L) (some (c, L')) := by
  have e12 := hfr.2 12 (by decide) (by decide) (by decide) (by decide)
  obtain ⟨x, L1, w1, F1, A1, p1, p2, p3, p4, p5⟩ := mx_put hD (4, nI (a.getD r 0), nI (b.getD (2 * j) 0))
  have e12b := p3.2 12 (by decide) (by decide) (by decide) (by decide)
  obtain ⟨y, L2, w2, F2, A2, q1, q2, q3, q4, q5⟩ := mx_put p2 (4, nI (a.getD (2 + r) 0), nI (b.getD (2 * j + 1) 0))
  obtain ⟨z, L3, w3, F3, A3, s1, s2, s3, s4, s5⟩ := mx_put q2 (2, nI x, nI y)
  dsimp only at p1 q1 s1
  refine ⟨z, L3, w3, F3, va_up A3 15 (upd (A3 15) (2 * j + r) (nI z)), ?_, s2.made _, ((((hfr.tr p3).tr q3).tr s3).made _), ?_, p5.bind (q5.bind s5)⟩
  · rw [f_M_columns_L12, if_neg (show ¬ (2 : Int32) ≤ nI r from nI_ge (b := 2) hr (by decide)), show (2 : Int32) * nI j = nI (2 * j) from pk_mul 2 j, show nI (2 * j) + (1 : Int32) = nI (2 * j + 1) from nI_add _ 1, show (2 : Int32) + nI r = nI (2 + r) from nI_add 2 r, mx_number (by omega) (by omega), ra_bi_s, mx_number (by omega) (by omega), ra_bi_s, e12, ha r (by omega), hb (2 * j) (by omega), p1, ra_bi_s, mx_number (by omega) (by omega), ra_bi_s, mx_number (by omega) (by omega), ra_bi_s, e12b, e12, ha (2 + r) (by omega), hb (2 * j + 1) hj, q1, ra_bi_s, s1, ra_bi_s, nI_add, ra_g_in (by omega) (by decide), nI_clamp (by omega), ← nI_succ]
  · show upd (A3 15) (2 * j + r) (nI z) = _
    rw [s4, q4, p4]
theorem mx_columns {a b : px_V} {rest : List px_V} {L : px_L} {F : ST_F} {A : ST_A} (h : mx_C len n0 A0 vars at_ (b :: a :: rest) ws op tg F A) (hD : mx_D L false F A) (ha4 : a.length = 4) (hb : b.length = 2 ∨ b.length = 4) : mx_Q len n0 A0 vars at_ rest ws op tg (f_M_columns (nI rest.length) (nI (rest.length + 1)) (nI b.length / 2) F A) (px_cells a b (if b.length = 2 then [(0, 0), (0, 1)] else [(0, 0), (0, 1), (1, 0), (1, 1)]) L) := by
  have hC := h
  obtain ⟨h1, h2, ⟨h3, h3'⟩, ⟨⟨b1, b2, b3⟩, ⟨a1, a2, a3⟩, hr⟩, h5, h6, h7⟩ := h
  rw [List.length_cons, List.length_cons] at h3
  rw [List.length_cons] at b2 b3
  unfold f_M_columns
  rcases hb with hb | hb
  · rw [if_pos hb, hb, show nI 2 / 2 = (1 : Int32) by decide, f_M_columns_L3, if_neg (by decide)]
    obtain ⟨x, L1, w1, F1, A1, p1, p2, p3, p4, p5⟩ := mx_cell (n := 3) (j := 0) (r := 0) (i := rest.length) (by omega) ha4 (F0 := F) (B0 := A) a3 b3 (kx := fun y1_11 y2_11 y3_11 y4_11 y5_11 F11 A11 => f_M_columns_L3 3 y1_11 y2_11 y3_11 (y4_11 + (1 : Int32)) F11 A11) (by omega) (by omega) (by decide) 1 hD mx_fr.rf
    obtain ⟨y, L2, w2, F2, A2, q1, q2, q3, q4, q5⟩ := mx_cell (n := 2) (j := 0) (r := 1) (i := rest.length) (by omega) ha4 (F0 := F) (B0 := A) a3 b3 (kx := fun y1_11 y2_11 y3_11 y4_11 y5_11 F11 A11 => f_M_columns_L3 3 y1_11 y2_11 y3_11 (y4_11 + (1 : Int32)) F11 A11) (by omega) (by omega) (by decide) 1 p2 p3
    obtain ⟨F3, A3, k1, k2, k3⟩ := mx_pushed (v := [x, y]) hC hr (by omega) ⟨by simp, by simp⟩ q3 q2 (fun j hj => by
      rw [q4, p4]
      have : j = 0 ∨ j = 1 := by simp at hj; omega
      rcases this with rfl | rfl <;> rfl)
    refine mx_Q.of ?_ ((p1.trans (q1.trans (by rw [f_M_columns_L12, if_pos (by decide), f_M_columns_L3, if_pos (by decide), ra_bvi]; rfl))).trans k1) k2 k3
    exact p5.bind (cx_k.bind (q5.bind cx_k.rf) cx_k.rf)
  · rw [if_neg (by omega), hb, show nI 4 / 2 = (2 : Int32) by decide, f_M_columns_L3, if_neg (by decide)]
    obtain ⟨x, L1, w1, F1, A1, p1, p2, p3, p4, p5⟩ := mx_cell (n := 3) (j := 0) (r := 0) (i := rest.length) (by omega) ha4 (F0 := F) (B0 := A) a3 b3 (kx := fun y1_11 y2_11 y3_11 y4_11 y5_11 F11 A11 => f_M_columns_L3 3 y1_11 y2_11 y3_11 (y4_11 + (1 : Int32)) F11 A11) (by omega) (by omega) (by decide) 2 hD mx_fr.rf
    obtain ⟨y, L2, w2, F2, A2, q1, q2, q3, q4, q5⟩ := mx_cell (n := 2) (j := 0) (r := 1) (i := rest.length) (by omega) ha4 (F0 := F) (B0 := A) a3 b3 (kx := fun y1_11 y2_11 y3_11 y4_11 y5_11 F11 A11 => f_M_columns_L3 3 y1_11 y2_11 y3_11 (y4_11 + (1 : Int32)) F11 A11) (by omega) (by omega) (by decide) 2 p2 p3
    obtain ⟨z, L3, w3, F3, A3, s1, s2, s3, s4, s5⟩ := mx_cell (n := 3) (j := 1) (r := 0) (i := rest.length) (by omega) ha4 (F0 := F) (B0 := A) a3 b3 (kx := fun y1_11 y2_11 y3_11 y4_11 y5_11 F11 A11 => f_M_columns_L3 2 y1_11 y2_11 y3_11 (y4_11 + (1 : Int32)) F11 A11) (by omega) (by omega) (by decide) 2 q2 q3
    obtain ⟨u, L4, w4, F4, A4, t1, t2, t3, t4, t5⟩ := mx_cell (n := 2) (j := 1) (r := 1) (i := rest.length) (by omega) ha4 (F0 := F) (B0 := A) a3 b3 (kx := fun y1_11 y2_11 y3_11 y4_11 y5_11 F11 A11 => f_M_columns_L3 2 y1_11 y2_11 y3_11 (y4_11 + (1 : Int32)) F11 A11) (by omega) (by omega) (by decide) 2 s2 s3
    obtain ⟨F5, A5, k1, k2, k3⟩ := mx_pushed (v := [x, y, z, u]) hC hr (by omega) ⟨by simp, by simp⟩ t3 t2 (fun j hj => by
      rw [t4, s4, q4, p4]
      have : j = 0 ∨ j = 1 ∨ j = 2 ∨ j = 3 := by simp at hj; omega
      rcases this with rfl | rfl | rfl | rfl <;> rfl)
    refine mx_Q.of ?_ ((p1.trans (q1.trans (Eq.trans (by rw [f_M_columns_L12, if_pos (by decide), f_M_columns_L3, if_neg (by decide)]; rfl) (s1.trans (t1.trans (by rw [f_M_columns_L12, if_pos (by decide), f_M_columns_L3, if_pos (by decide), ra_bvi]; rfl)))))).trans k1) k2 k3
    exact p5.bind (cx_k.bind (q5.bind (cx_k.bind (s5.bind (cx_k.bind (t5.bind cx_k.rf) cx_k.rf)) cx_k.rf)) cx_k.rf)
end MX
