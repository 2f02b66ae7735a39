/-! value and run: both sides -/
theorem ra_g1 {ρ : Type} {n : Nat} (h : 1 < n) (hn : n < 2 ^ 31) (k : Option ρ) : ra_g (1 : Int32) n k = k := ra_g_in (j := 1) h hn k
theorem ra_g2 {ρ : Type} {n : Nat} (h : 2 < n) (hn : n < 2 ^ 31) (k : Option ρ) : ra_g (2 : Int32) n k = k := ra_g_in (j := 2) h hn k
theorem ev_ext {K F1 S inp v : Nat → Int32} {j : Nat} {r : Int32} (h : ev_ok K F1 S inp j v) (hr : (K j = 0 ∧ r = F1 j) ∨ (K j = 1 ∧ ∃ i, i < 6 ∧ F1 j = nI i ∧ r = inp i) ∨ ∃ t p q, 2 ≤ t ∧ t ≤ 11 ∧ K j = nI t ∧ p < j ∧ F1 j = nI p ∧ q < j ∧ S j = nI q ∧ f_M_done (nI t) (v p) (v q) = some r) : ev_ok K F1 S inp (j + 1) (upd v j r) := by
  intro k hk
  have hu : ∀ i, i < j → upd v j r i = v i := fun i hi => by unfold upd; rw [if_neg (by omega)]
  by_cases c : k = j
  · subst c
    have huj : upd v k r k = r := by unfold upd; rw [if_pos rfl]
    rcases hr with ⟨a1, a2⟩ | ⟨a1, i, a2, a3, a4⟩ | ⟨t, p, q, a1, a2, a3, a4, a5, a6, a7, a8⟩
    · exact Or.inl ⟨a1, by rw [huj]; exact a2⟩
    · exact Or.inr (Or.inl ⟨a1, i, a2, a3, by rw [huj]; exact a4⟩)
    · exact Or.inr (Or.inr ⟨t, p, q, a1, a2, a3, a4, a5, a6, a7, by rw [huj, hu p a4, hu q a6]; exact a8⟩)
  · have hkj : k < j := by omega
    rcases h k hkj with ⟨a1, a2⟩ | ⟨a1, i, a2, a3, a4⟩ | ⟨t, p, q, a1, a2, a3, a4, a5, a6, a7, a8⟩
    · exact Or.inl ⟨a1, by rw [hu k hkj]; exact a2⟩
    · exact Or.inr (Or.inl ⟨a1, i, a2, a3, by rw [hu k hkj]; exact a4⟩)
    · exact Or.inr (Or.inr ⟨t, p, q, a1, a2, a3, a4, a5, a6, a7, by rw [hu k hkj, hu p (by omega), hu q (by omega)]; exact a8⟩)
theorem ev_w68 {n : Nat} (hn : n ≤ 100) {F : ST_F} (hF : F 3 = nI n) {B : ST_A} (hc : iv_code n (B 5) (B 6) (B 7)) {inp : Nat → Int32} (hi : ∀ i, i < 6 → B 3 i = inp i) (x2 x3 x4 x5 : Int32) : ∀ (m j nf : Nat) (A : ST_A), j + m = n → m < nf → (∀ k, k ≠ 2 → A k = B k) → ev_ok (B 5) (B 6) (B 7) inp j (A 2) → ∃ A', f_H_work_L68 nf x2 x3 x4 x5 (nI j) F A = some (F, A') ∧ (∀ k, k ≠ 2 → A' k = B k) ∧ ev_ok (B 5) (B 6) (B 7) inp n (A' 2) := by
  intro m
  induction m with
  | zero =>
    intro j nf A hj hnf hA hv
    obtain ⟨nf, rfl⟩ : ∃ k, nf = k + 1 := ⟨nf - 1, by omega⟩
    have : j = n := by omega
    subst this
    rw [f_H_work_L68, hF, if_pos (nI_le (Nat.le_refl _) (by omega))]
    exact ⟨A, rfl, hA, hv⟩
  | succ m ih =>
    intro j nf A hj hnf hA hv
    obtain ⟨nf, rfl⟩ : ∃ k, nf = k + 1 := ⟨nf - 1, by omega⟩
    rw [f_H_work_L68, hF, if_neg (nI_ge (by omega) (by omega)), ra_g_in (by omega) (by decide), ra_g_in (by omega) (by decide), ra_g_in (by omega) (by decide), nI_clamp (by omega), hA 5 (by decide), hA 6 (by decide), hA 7 (by decide)]
    have hgo : ∀ r, f_H_make (B 5 j) (B 6 j) (B 7 j) F A = some (r, F, A) → ((B 5 j = 0 ∧ r = B 6 j) ∨ (B 5 j = 1 ∧ ∃ i, i < 6 ∧ B 6 j = nI i ∧ r = inp i) ∨ ∃ t p q, 2 ≤ t ∧ t ≤ 11 ∧ B 5 j = nI t ∧ p < j ∧ B 6 j = nI p ∧ q < j ∧ B 7 j = nI q ∧ f_M_done (nI t) (A 2 p) (A 2 q) = some r) → ∃ A', ra_bi (f_H_make (B 5 j) (B 6 j) (B 7 j) F A) (fun r3 F3 A3 => ra_g (nI j) 100 (f_H_work_L68 nf x2 x3 x4 x5 (nI j + 1) F3 (va_up A3 2 (upd (A3 2) j r3)))) = some (F, A') ∧ (∀ k, k ≠ 2 → A' k = B k) ∧ ev_ok (B 5) (B 6) (B 7) inp n (A' 2) := by
      intro r e hr
      rw [e, ra_bi_s, ra_g_in (by omega) (by decide), ← nI_succ]
      exact ih (j + 1) nf (va_up A 2 (upd (A 2) j r)) (by omega) (by omega) (fun k hk => by show (if k = 2 then _ else A k) = B k; rw [if_neg hk]; exact hA k hk) (ev_ext hv hr)
    rcases hc j (by omega) with c | ⟨c, i, hi6, c2⟩ | ⟨⟨t, t1, t2, c⟩, ⟨p, hp, c2⟩, q, hq, c3⟩
    · exact hgo (B 6 j) (by unfold f_H_make; rw [if_pos c]) (Or.inl ⟨c, rfl⟩)
    · refine hgo (inp i) ?_ (Or.inr (Or.inl ⟨c, i, hi6, c2, rfl⟩))
      unfold f_H_make
      rw [c, if_neg (by decide), if_pos rfl, c2, ra_g_in hi6 (by decide), nI_clamp (by omega), hA 3 (by decide), hi i hi6]
    · obtain ⟨r, hr⟩ := nu_some t1 t2 (A 2 p) (A 2 q)
      refine hgo r ?_ (Or.inr (Or.inr ⟨t, p, q, t1, t2, c, hp, c2, hq, c3, hr⟩))
      unfold f_H_make
      rw [c, if_neg (nI_ne0 (by omega) (by omega)), if_neg (c := nI t = (1 : Int32)) (fun z => by
        have := (nI_eqI (a := t) (b := 1) (by omega) (by omega)).mp z
        omega), c2, c3, ra_g_in (by omega) (by decide), ra_g_in (by omega) (by decide), nI_clamp (by omega), nI_clamp (by omega), nu_op t1 t2, hr]
      rfl
theorem ev_w25 {n : Nat} (hn : n ≤ 100) {F : ST_F} (x y t c : Int32) {B : ST_A} : ∀ (m j nf : Nat) (A : ST_A), j + m = 3 → m < nf → (∀ k, k ≠ 3 → A k = B k) → (∀ i, i < 3 + j → A 3 i = ev_in x y t c i) → ∃ A', f_H_work_L25 nf x y t c (nI j) F A = f_H_work_L68 400 x y t c 0 F A' ∧ (∀ k, k ≠ 3 → A' k = B k) ∧ ∀ i, i < 6 → A' 3 i = ev_in x y t c i := by
  intro m
  induction m with
  | zero =>
    intro j nf A hj hnf hA hi
    obtain ⟨nf, rfl⟩ : ∃ k, nf = k + 1 := ⟨nf - 1, by omega⟩
    rw [f_H_work_L25, if_pos (show (3 : Int32) ≤ nI j from nI_le (a := 3) (by omega) (by omega))]
    exact ⟨A, rfl, hA, fun i h6 => hi i (by omega)⟩
  | succ m ih =>
    intro j nf A hj hnf hA hi
    obtain ⟨nf, rfl⟩ : ∃ k, nf = k + 1 := ⟨nf - 1, by omega⟩
    rw [f_H_work_L25, if_neg (show ¬ (3 : Int32) ≤ nI j from nI_ge (b := 3) (by omega) (by omega)), show (3 : Int32) + nI j = nI (3 + j) from nI_add 3 j, ra_g_in (by omega) (by decide), nI_clamp (by omega), ← nI_succ]
    refine ih (j + 1) nf _ (by omega) (by omega) (fun k hk => by show (if k = 3 then _ else A k) = B k; rw [if_neg hk]; exact hA k hk) (fun i h3 => ?_)
    show upd (A 3) (3 + j) _ i = _
    unfold upd
    by_cases hij : i = 3 + j
    · rw [if_pos hij, hij]
      unfold ev_in
      rw [if_neg (by omega), if_neg (by omega), if_neg (by omega), show 3 + j - 3 = j by omega]
    · rw [if_neg hij]
      exact hi i (by omega)
theorem ev_work {n : Nat} (hn : n ≤ 100) {F : ST_F} (hF : F 3 = nI n) {A : ST_A} (hc : iv_code n (A 5) (A 6) (A 7)) (x y t c : Int32) : ∃ A', f_H_work x y t c F A = some (F, A') ∧ (∀ k, k ≠ 2 → k ≠ 3 → A' k = A k) ∧ ev_ok (A 5) (A 6) (A 7) (ev_in x y t c) n (A' 2) := by
  unfold f_H_work
  rw [ra_g0 (by decide) (by decide), ra_g1 (by decide) (by decide), ra_g2 (by decide) (by decide)]
  obtain ⟨A1, e1, e2, e3⟩ := ev_w25 hn (F := F) x y t c (B := A) 3 0 400 (va_up A 3 (upd (upd (upd (A 3) (0 : Int32).toNatClampNeg x) (1 : Int32).toNatClampNeg y) (2 : Int32).toNatClampNeg t)) (by omega) (by omega) (fun k hk => by show (if k = 3 then _ else A k) = A k; rw [if_neg hk]) (fun i hi => by
    rcases (show i = 0 ∨ i = 1 ∨ i = 2 by omega) with rfl | rfl | rfl <;> rfl)
  rw [nI_0] at e1
  rw [e1]
  have h5 := e2 5 (by decide)
  have h6 := e2 6 (by decide)
  have h7 := e2 7 (by decide)
  obtain ⟨A2, g1, g2, g3⟩ := ev_w68 hn hF (B := A1) (by rw [h5, h6, h7]; exact hc) e3 x y t c n 0 400 A1 (by omega) (by omega) (fun _ _ => rfl) (fun k hk => absurd hk (Nat.not_lt_zero k))
  rw [nI_0] at g1
  rw [h5, h6, h7] at g3
  exact ⟨A2, g1, fun k k2 k3 => by rw [g2 k k2, e2 k k3], g3⟩
theorem ev_m3 {n : Nat} (hn : n ≤ 100) (F : ST_F) {B : ST_A} (hc : iv_code n (B 1) (B 2) (B 3)) {u : Nat} (hu : u < n) (x y t c : Int32) : ∀ (m j nf : Nat) (A : ST_A), j + m = u + 1 → m < nf → (∀ k, k ≠ 18 → A k = B k) → ev_ok (B 1) (B 2) (B 3) (ev_in x y t c) j (A 18) → ∃ A', f_M_evaluate_L3 nf (nI u) x y t c (nI j) F A = some (F, A') ∧ (∀ k, k ≠ 18 → A' k = B k) ∧ ev_ok (B 1) (B 2) (B 3) (ev_in x y t c) (u + 1) (A' 18) := by
  intro m
  induction m with
  | zero =>
    intro j nf A hj hnf hA hv
    obtain ⟨nf, rfl⟩ : ∃ k, nf = k + 1 := ⟨nf - 1, by omega⟩
    have : j = u + 1 := by omega
    subst this
    rw [f_M_evaluate_L3, if_pos (nI_lt (by omega) (by omega))]
    exact ⟨A, rfl, hA, hv⟩
  | succ m ih =>
    intro j nf A hj hnf hA hv
    obtain ⟨nf, rfl⟩ : ∃ k, nf = k + 1 := ⟨nf - 1, by omega⟩
    have gj : ∀ {ρ : Type} (k : Option ρ), ra_g (nI j) 100 k = k := fun k => ra_g_in (by omega) (by decide) k
    have hgo : ∀ r, ((B 1 j = 0 ∧ r = B 2 j) ∨ (B 1 j = 1 ∧ ∃ i, i < 6 ∧ B 2 j = nI i ∧ r = ev_in x y t c i) ∨ ∃ t' p q, 2 ≤ t' ∧ t' ≤ 11 ∧ B 1 j = nI t' ∧ p < j ∧ B 2 j = nI p ∧ q < j ∧ B 3 j = nI q ∧ f_M_done (nI t') (A 18 p) (A 18 q) = some r) → ∃ A', f_M_evaluate_L3 nf (nI u) x y t c (nI (j + 1)) F (va_up A 18 (upd (A 18) j r)) = some (F, A') ∧ (∀ k, k ≠ 18 → A' k = B k) ∧ ev_ok (B 1) (B 2) (B 3) (ev_in x y t c) (u + 1) (A' 18) := fun r hr =>
      ih (j + 1) nf (va_up A 18 (upd (A 18) j r)) (by omega) (by omega) (fun k hk => by show (if k = 18 then _ else A k) = B k; rw [if_neg hk]; exact hA k hk) (ev_ext hv hr)
    rw [f_M_evaluate_L3, if_neg (nI_nlt (by omega) (by omega))]
    simp only [gj]
    rw [nI_clamp (by omega), hA 1 (by decide), hA 2 (by decide), hA 3 (by decide), ← nI_succ]
    rcases hc j (by omega) with c0 | ⟨c0, i, hi6, c2⟩ | ⟨⟨t', t1, t2, c0⟩, ⟨p, hp, c2⟩, q, hq, c3⟩
    · rw [if_pos c0]
      exact hgo (B 2 j) (Or.inl ⟨c0, rfl⟩)
    · have h1 := hgo (ev_in x y t c i) (Or.inr (Or.inl ⟨c0, i, hi6, c2, rfl⟩))
      rw [c0, if_neg (by decide), if_pos rfl, c2]
      rcases (show i = 0 ∨ i = 1 ∨ i = 2 ∨ i = 3 ∨ i = 4 ∨ i = 5 by omega) with rfl | rfl | rfl | rfl | rfl | rfl
      · rw [if_pos (by rfl)]; exact h1
      · rw [if_neg (by decide), if_pos (by rfl)]; exact h1
      · rw [if_neg (by decide), if_neg (by decide), if_pos (by rfl)]; exact h1
      · rw [if_neg (by decide), if_neg (by decide), if_neg (by decide), show ((40 : Int32) - 8 * nI 3) &&& 31 = (16 - 8 * nI (3 - 3)) &&& 31 by decide]; exact h1
      · rw [if_neg (by decide), if_neg (by decide), if_neg (by decide), show ((40 : Int32) - 8 * nI 4) &&& 31 = (16 - 8 * nI (4 - 3)) &&& 31 by decide]; exact h1
      · rw [if_neg (by decide), if_neg (by decide), if_neg (by decide), show ((40 : Int32) - 8 * nI 5) &&& 31 = (16 - 8 * nI (5 - 3)) &&& 31 by decide]; exact h1
    · obtain ⟨r, hr⟩ := nu_some t1 t2 (A 18 p) (A 18 q)
      rw [c0, if_neg (nI_ne0 (by omega) (by omega)), if_neg (c := nI t' = (1 : Int32)) (fun z => by
        have := (nI_eqI (a := t') (b := 1) (by omega) (by omega)).mp z
        omega), c2, c3, ra_g_in (by omega) (by decide), ra_g_in (by omega) (by decide), nI_clamp (by omega), nI_clamp (by omega), hr, Option.bind_some]
      exact hgo r (Or.inr (Or.inr ⟨t', p, q, t1, t2, c0, hp, c2, hq, c3, hr⟩))
theorem ev_eval {n : Nat} (hn : n ≤ 100) (F : ST_F) {A : ST_A} (hc : iv_code n (A 1) (A 2) (A 3)) {u : Nat} (hu : u < n) (x y t c : Int32) : ∃ A', f_M_evaluate (nI u) x y t c F A = some (F, A') ∧ (∀ k, k ≠ 18 → A' k = A k) ∧ ev_ok (A 1) (A 2) (A 3) (ev_in x y t c) (u + 1) (A' 18) := by
  obtain ⟨A', e1, e2, e3⟩ := ev_m3 hn F (B := A) hc hu x y t c (u + 1) 0 400 A (by omega) (by omega) (fun _ _ => rfl) (fun k hk => absurd hk (Nat.not_lt_zero k))
  exact ⟨A', e1, e2, e3⟩
theorem iv_codeM {n : Nat} {F : ST_F} {A : ST_A} {FM : ST_F} {AM : ST_A} (h : iv_ins n F A FM AM) : iv_code n (AM 1) (AM 2) (AM 3) := by
  intro k hk
  obtain ⟨e1, e2, e3⟩ := h.2.2.2.1 k hk
  have := h.2.2.2.2 k hk
  rw [e1, e2, e3] at this
  exact this
theorem Inv.value (w x y t c : Int32) : li_r Inv (f_P_value w x y t c) (f_M_value w x y t c) [(3, 1), (1, 2)] := by
  intro F A FM AM h
  obtain ⟨len, n, h1, h2, h3, h4, h5⟩ := id h
  have hn := h2.1
  have hF : (F 3).toInt = n := by rw [h2.2.1]; exact nI_toInt (by omega)
  have hM : (FM 2).toInt = n := by rw [h2.2.2.1]; exact nI_toInt (by omega)
  by_cases hw : 0 ≤ w.toInt ∧ w.toInt < n
  · obtain ⟨u, hu, rfl⟩ := i_nI (x := w) (n := n) (by omega) hw.1 hw.2
    have e1 : f_P_isInstruction (nI u) F A = some 1 := by
      unfold f_P_isInstruction
      rw [if_neg (nI_pos (by omega)), if_neg (by rw [h2.2.1]; exact nI_ge hu (by omega))]
    have hlt : nI u < FM 2 := by rw [h2.2.2.1]; exact nI_lt hu (by omega)
    unfold f_P_value f_M_value
    rw [e1, Option.bind_some, if_neg (by decide), if_neg (nI_pos (by omega)), if_pos hlt]
    rcases iv_color c with ⟨k1, k2⟩ | ⟨k1, k2⟩
    · right
      refine ⟨(1, 2), by simp, 0, upd FM 0 2, AM, ?_, ?_, rfl, h.code 2⟩
      · rw [k1, if_pos rfl]
      · rw [k2, if_neg (by decide)]
        unfold f_M_value_J30
        rw [if_neg (by decide)]
    · left
      obtain ⟨A9, p1, p2, p3⟩ := ev_work hn h2.2.1 h2.2.2.2.2 x y t c
      obtain ⟨A2, q1, q2, q3⟩ := ev_eval hn (upd FM 0 0) (iv_codeM h2) hu x y t c
      have hv : A9 2 u = A2 18 u := ev_ok.uniq hn (by omega) (fun k hk _ => h2.2.2.2.1 k hk) p3 q3 u hu (by omega)
      refine ⟨A9 2 u, F, A9, upd FM 0 0, A2, ?_, ?_, rfl, len, n, ⟨h1.1, h1.2.1, h1.2.2.1, ?_⟩, ⟨hn, h2.2.1, h2.2.2.1, ?_, ?_⟩, ⟨?_, ?_⟩, ?_, ?_⟩
      · rw [k1, if_neg (by decide)]
        unfold f_P_value_Z32
        rw [p1, ra_bv_s, ra_g_in (by omega) (by decide), nI_clamp (by omega)]
        rfl
      · rw [k2, if_pos rfl]
        unfold f_M_value_J30
        rw [if_pos (by decide), q1, ra_bv_s, ra_g_in (by omega) (by decide), nI_clamp (by omega), hv]
      · rw [p2 0 (by decide) (by decide), q2 0 (by decide)]; exact h1.2.2.2
      · rw [p2 5 (by decide) (by decide), p2 6 (by decide) (by decide), p2 7 (by decide) (by decide), q2 1 (by decide), q2 2 (by decide), q2 3 (by decide)]; exact h2.2.2.2.1
      · rw [p2 5 (by decide) (by decide), p2 6 (by decide) (by decide), p2 7 (by decide) (by decide)]; exact h2.2.2.2.2
      · rw [p2 8 (by decide) (by decide), q2 4 (by decide)]; exact h3.1
      · rw [p2 8 (by decide) (by decide)]; exact h3.2
      · rw [p2 9 (by decide) (by decide), q2 5 (by decide)]; exact h4
      · rw [p2 1 (by decide) (by decide), q2 16 (by decide)]; exact h5
  · right
    refine ⟨(3, 1), by simp, 0, upd FM 0 1, AM, ?_, ?_, rfl, h.code 1⟩
    · unfold f_P_value f_P_isInstruction
      by_cases c0 : w < 0
      · rw [if_pos c0]; rfl
      · rw [if_neg c0, if_pos]
        · rfl
        · rw [i_lt (k := 0) (by decide)] at c0
          rw [i_ge hF]
          omega
    · unfold f_M_value f_M_value_J13 f_M_value_J30
      by_cases c0 : w < 0
      · rw [if_pos c0, if_neg (by decide)]
      · rw [if_neg c0, if_neg, if_neg (by decide)]
        rw [i_lt (k := 0) (by decide)] at c0
        rw [Int32.lt_iff_toInt_lt, hM]
        omega
/-- colours -/
theorem co_ch (v : Int32) : (if (0 : Int32) < (if v >>> ((8 : Int32) &&& 31) < 255 then v >>> ((8 : Int32) &&& 31) else 255) then (if v >>> ((8 : Int32) &&& 31) < 255 then v >>> ((8 : Int32) &&& 31) else 255) else 0) = f_M_channel v := by
  unfold f_M_channel
  generalize v >>> ((8 : Int32) &&& 31) = w
  by_cases c1 : w < 255
  · rw [if_pos c1]
    rw [i_lt (k := 255) (by decide)] at c1
    by_cases c2 : (0 : Int32) < w
    · rw [if_pos c2, if_pos (by rw [i_gt (k := 0) (by decide)] at c2; rw [i_ge (k := 0) (by decide)]; omega), if_pos (by rw [i_le (k := 255) (by decide)]; omega)]
    · rw [if_neg c2]
      rw [i_gt (k := 0) (by decide)] at c2
      by_cases c3 : (0 : Int32) ≤ w
      · rw [if_pos c3, if_pos (by rw [i_le (k := 255) (by decide)]; omega)]
        rw [i_ge (k := 0) (by decide)] at c3
        apply Int32.toInt_inj.mp
        have h0 : (0 : Int32).toInt = 0 := by decide
        omega
      · rw [if_neg c3]
  · rw [if_neg c1, if_pos (by decide)]
    rw [i_lt (k := 255) (by decide)] at c1
    rw [if_pos (by rw [i_ge (k := 0) (by decide)]; omega)]
    by_cases c2 : w ≤ 255
    · rw [if_pos c2]
      rw [i_le (k := 255) (by decide)] at c2
      apply Int32.toInt_inj.mp
      have h0 : (255 : Int32).toInt = 255 := by decide
      omega
    · rw [if_neg c2]
theorem co_or (a b c : Int32) : (((((0 : Int32) <<< ((8 : Int32) &&& 31)) ||| a) <<< ((8 : Int32) &&& 31) ||| b) <<< ((8 : Int32) &&& 31)) ||| c = ((a <<< ((16 : Int32) &&& 31)) ||| (b <<< ((8 : Int32) &&& 31))) ||| c := by
  have h0 : ((0 : Int32) <<< ((8 : Int32) &&& 31)) ||| a = a := by
    rw [show (0 : Int32) <<< ((8 : Int32) &&& 31) = 0 by decide, Int32.zero_or]
  rw [h0]
  congr 1
  apply Int32.toBitVec_inj.mp
  show (((a.toBitVec <<< 8) ||| b.toBitVec) <<< 8) = (a.toBitVec <<< 16) ||| (b.toBitVec <<< 8)
  rw [BitVec.shiftLeft_or_distrib, ← BitVec.shiftLeft_add]
def co_of (v : Nat → Int32) (p : Nat → Nat) : Int32 := ((f_M_channel (v (p 0)) <<< ((16 : Int32) &&& 31)) ||| (f_M_channel (v (p 1)) <<< ((8 : Int32) &&& 31))) ||| f_M_channel (v (p 2))
theorem co_P {F : ST_F} {A : ST_A} {n : Nat} (hn : n ≤ 100) {p : Nat → Nat} (hp : ∀ i, i < 3 → p i < n ∧ A 8 i = nI (p i)) : f_H_colorOf F A = some (co_of (A 2) p, F, A) := by
  obtain ⟨p0, e0⟩ := hp 0 (by decide)
  obtain ⟨p1, e1⟩ := hp 1 (by decide)
  obtain ⟨p2, e2⟩ := hp 2 (by decide)
  have hstep : ∀ (nf i : Nat) (z : Int32), i < 3 → f_H_colorOf_L4 (nf + 1) z (nI i) F A = f_H_colorOf_L4 nf ((z <<< ((8 : Int32) &&& 31)) ||| f_M_channel (A 2 (p i))) (nI (i + 1)) F A := by
    intro nf i z hi
    obtain ⟨q1, q2⟩ := hp i hi
    rw [f_H_colorOf_L4, if_neg (show ¬ (3 : Int32) ≤ nI i from nI_ge (b := 3) (by omega) (by omega)), ra_g_in (by omega) (by decide), nI_clamp (by omega), q2, ra_g_in (by omega) (by decide), nI_clamp (by omega), co_ch, ← nI_succ]
  unfold f_H_colorOf
  have s0 := hstep 399 0 0 (by decide)
  rw [nI_0] at s0
  rw [s0, hstep 398 1 _ (by decide), hstep 397 2 _ (by decide), f_H_colorOf_L4, if_pos (by decide), co_or]
  rfl
/-- a point's new colour -/
def co_R (K F1 S : Nat → Int32) (p : Nat → Nat) (n : Nat) (t : Int32) (k : Nat) (c d : Int32) : Prop := ∃ v, ev_ok K F1 S (ev_in (nI (k % 8) * 65536) (nI (k / 8) * 65536) t c) n v ∧ d = co_of v p
theorem co_R.uniq {K F1 S K' F1' S' : Nat → Int32} {p : Nat → Nat} {n : Nat} (hn : n ≤ 100) (hp : ∀ i, i < 3 → p i < n) (hK : ∀ k, k < n → K k = K' k ∧ F1 k = F1' k ∧ S k = S' k) {t c d d' : Int32} {k : Nat} (h : co_R K F1 S p n t k c d) (h' : co_R K' F1' S' p n t k c d') : d = d' := by
  obtain ⟨v, a1, a2⟩ := h
  obtain ⟨v', b1, b2⟩ := h'
  have hu := ev_ok.uniq hn hn (fun k hk _ => hK k hk) a1 b1
  rw [a2, b2]
  unfold co_of
  rw [hu _ (hp 0 (by decide)) (hp 0 (by decide)), hu _ (hp 1 (by decide)) (hp 1 (by decide)), hu _ (hp 2 (by decide)) (hp 2 (by decide))]
/-- the picture with its first i points anew -/
def ru_P (n : Nat) (B : ST_A) (p : Nat → Nat) (t : Int32) (i : Nat) (A : ST_A) : Prop := (∀ k, k ≠ 1 → k ≠ 2 → k ≠ 3 → A k = B k) ∧ (∀ k, k < i → co_R (B 5) (B 6) (B 7) p n t k (B 1 k) (A 1 k)) ∧ ∀ k, i ≤ k → A 1 k = B 1 k
theorem ru_24 {n : Nat} (hn : n ≤ 100) {F : ST_F} (hF : F 3 = nI n) {B : ST_A} (hc : iv_code n (B 5) (B 6) (B 7)) {p : Nat → Nat} (hp : ∀ i, i < 3 → p i < n ∧ B 8 i = nI (p i)) (t : Int32) (kx : Int32 → Int32 → Int32 → ST_F → ST_A → Option (ST_F × ST_A)) {y : Nat} (hy : y < 4) : ∀ (m x nf : Nat) (A : ST_A), x + m = 8 → m < nf → ru_P n B p t (y * 8 + x) A → ∃ A', f_P_run_L24 kx nf t (nI y) (nI x) F A = kx t (nI y) (nI 8) F A' ∧ ru_P n B p t (y * 8 + 8) A' := by
  intro m
  induction m with
  | zero =>
    intro x nf A hx hnf hA
    obtain ⟨nf, rfl⟩ : ∃ k, nf = k + 1 := ⟨nf - 1, by omega⟩
    have : x = 8 := by omega
    subst this
    rw [f_P_run_L24, if_pos (by decide)]
    exact ⟨A, rfl, hA⟩
  | succ m ih =>
    intro x nf A hx hnf hA
    obtain ⟨nf, rfl⟩ : ∃ k, nf = k + 1 := ⟨nf - 1, by omega⟩
    obtain ⟨g1, g2, g3⟩ := hA
    have h5 := g1 5 (by decide) (by decide) (by decide)
    have h6 := g1 6 (by decide) (by decide) (by decide)
    have h7 := g1 7 (by decide) (by decide) (by decide)
    rw [f_P_run_L24, if_neg (show ¬ (8 : Int32) ≤ nI x from nI_ge (b := 8) (by omega) (by omega)), iv_ix1, ra_g_in (by omega) (by decide), nI_clamp (by omega), g3 _ (Nat.le_refl _)]
    obtain ⟨A1, e1, e2, e3⟩ := ev_work hn hF (A := A) (by rw [h5, h6, h7]; exact hc) (nI x * 65536) (nI y * 65536) t (B 1 (y * 8 + x))
    rw [h5, h6, h7] at e3
    have hp1 : ∀ i, i < 3 → p i < n ∧ A1 8 i = nI (p i) := fun i hi => by
      rw [e2 8 (by decide) (by decide), g1 8 (by decide) (by decide) (by decide)]
      exact hp i hi
    rw [e1, ra_bv_s, co_P hn hp1, ra_bi_s, ra_g_in (by omega) (by decide), ← nI_succ]
    refine ih (x + 1) nf _ (by omega) (by omega) ⟨fun k k1 k2 k3 => ?_, fun k hk => ?_, fun k hk => ?_⟩
    · show (if k = 1 then _ else A1 k) = B k
      rw [if_neg k1, e2 k k2 k3]
      exact g1 k k1 k2 k3
    · show co_R (B 5) (B 6) (B 7) p n t k (B 1 k) (upd (A1 1) (y * 8 + x) (co_of (A1 2) p) k)
      unfold upd
      by_cases hkx : k = y * 8 + x
      · rw [if_pos hkx]
        refine ⟨A1 2, ?_, rfl⟩
        rw [hkx, show (y * 8 + x) % 8 = x by omega, show (y * 8 + x) / 8 = y by omega]
        exact e3
      · rw [if_neg hkx, e2 1 (by decide) (by decide)]
        exact g2 k (by omega)
    · show upd (A1 1) (y * 8 + x) _ k = _
      unfold upd
      rw [if_neg (by omega), e2 1 (by decide) (by decide)]
      exact g3 k (by omega)
theorem ru_17 {n : Nat} (hn : n ≤ 100) {F : ST_F} (hF : F 3 = nI n) {B : ST_A} (hc : iv_code n (B 5) (B 6) (B 7)) {p : Nat → Nat} (hp : ∀ i, i < 3 → p i < n ∧ B 8 i = nI (p i)) (t : Int32) : ∀ (m y nf : Nat) (A : ST_A), y + m = 4 → m < nf → ru_P n B p t (y * 8) A → ∃ A', f_P_run_L17 nf t (nI y) F A = some (F, A') ∧ ru_P n B p t 32 A' := by
  intro m
  induction m with
  | zero =>
    intro y nf A hy hnf hA
    obtain ⟨nf, rfl⟩ : ∃ k, nf = k + 1 := ⟨nf - 1, by omega⟩
    have : y = 4 := by omega
    subst this
    rw [f_P_run_L17, if_pos (by decide)]
    exact ⟨A, rfl, hA⟩
  | succ m ih =>
    intro y nf A hy hnf hA
    obtain ⟨nf, rfl⟩ : ∃ k, nf = k + 1 := ⟨nf - 1, by omega⟩
    rw [f_P_run_L17, if_neg (show ¬ (4 : Int32) ≤ nI y from nI_ge (b := 4) (by omega) (by omega))]
    obtain ⟨A1, e1, e2⟩ := ru_24 hn hF hc hp t (fun y1_7 y2_7 y3_7 F7 A7 => f_P_run_L17 nf y1_7 (y2_7 + (1 : Int32)) F7 A7) (y := y) (by omega) 8 0 9 A (by omega) (by omega) hA
    rw [nI_0] at e1
    rw [e1, ← nI_succ]
    exact ih (y + 1) nf A1 (by omega) (by omega) (by rw [show (y + 1) * 8 = y * 8 + 8 by omega]; exact e2)
theorem ru_127 (x1 : Int32) (F : ST_F) : ∀ (m j nf : Nat) (A : ST_A), j + m = 32 → m < nf → ∃ A', f_M_run_L127 nf x1 (nI j) F A = some (F, A') ∧ (∀ k, k ≠ 16 → A' k = A k) ∧ (∀ i, i < j → A' 16 i = A 16 i) ∧ ∀ i, j ≤ i → i < 32 → A' 16 i = A 17 i := by
  intro m
  induction m with
  | zero =>
    intro j nf A hj hnf
    obtain ⟨nf, rfl⟩ : ∃ k, nf = k + 1 := ⟨nf - 1, by omega⟩
    rw [f_M_run_L127, if_pos (show (32 : Int32) ≤ nI j from nI_le (a := 32) (by omega) (by omega))]
    exact ⟨A, rfl, fun _ _ => rfl, fun _ _ => rfl, fun i h1 h2 => by omega⟩
  | succ m ih =>
    intro j nf A hj hnf
    obtain ⟨nf, rfl⟩ : ∃ k, nf = k + 1 := ⟨nf - 1, by omega⟩
    rw [f_M_run_L127, if_neg (show ¬ (32 : Int32) ≤ nI j from nI_ge (b := 32) (by omega) (by omega)), ra_g_in (by omega) (by decide), ra_g_in (by omega) (by decide), nI_clamp (by omega), ← nI_succ]
    obtain ⟨A', h1, h2, h3, h4⟩ := ih (j + 1) nf (va_up A 16 (upd (A 16) j (A 17 j))) (by omega) (by omega)
    refine ⟨A', h1, fun k hk => ?_, fun i hi => ?_, fun i hi hi2 => ?_⟩
    · rw [h2 k hk]; show (if k = 16 then _ else A k) = A k; rw [if_neg hk]
    · rw [h3 i (by omega)]; show upd (A 16) j _ i = A 16 i; unfold upd; rw [if_neg (by omega)]
    · by_cases hij : i = j
      · rw [h3 i (by omega), hij]; show upd (A 16) j _ j = _; unfold upd; rw [if_pos rfl]
      · exact h4 i (by omega) hi2
theorem ru_ix : ∀ i : Fin 32, nI i.val - nI i.val / 8 * 8 = nI (i.val % 8) ∧ nI i.val / 8 = nI (i.val / 8) := by decide
theorem ru_26 {n : Nat} (hn : n ≤ 100) (hn1 : 1 ≤ n) {F : ST_F} (hF : F 2 = nI n) {B : ST_A} (hc : iv_code n (B 1) (B 2) (B 3)) {p : Nat → Nat} (hp : ∀ i, i < 3 → p i < n ∧ B 4 i = nI (p i)) (t : Int32) : ∀ (m j nf : Nat) (A : ST_A), j + m = 32 → m < nf → (∀ k, k ≠ 17 → k ≠ 18 → A k = B k) → (∀ k, k < j → co_R (B 1) (B 2) (B 3) p n t k (B 16 k) (A 17 k)) → ∃ A', f_M_run_L26 nf t (nI j) F A = some (F, A') ∧ (∀ k, k ≠ 16 → k ≠ 17 → k ≠ 18 → A' k = B k) ∧ ∀ k, k < 32 → co_R (B 1) (B 2) (B 3) p n t k (B 16 k) (A' 16 k) := by
  intro m
  induction m with
  | zero =>
    intro j nf A hj hnf hA hR
    obtain ⟨nf, rfl⟩ : ∃ k, nf = k + 1 := ⟨nf - 1, by omega⟩
    rw [f_M_run_L26, if_pos (show (32 : Int32) ≤ nI j from nI_le (a := 32) (by omega) (by omega))]
    obtain ⟨A', h1, h2, h3, h4⟩ := ru_127 t F 32 0 400 A (by omega) (by omega)
    rw [nI_0] at h1
    refine ⟨A', h1, fun k k1 k2 k3 => by rw [h2 k k1]; exact hA k k2 k3, fun k hk => ?_⟩
    rw [h4 k (Nat.zero_le _) hk]
    exact hR k (by omega)
  | succ m ih =>
    intro j nf A hj hnf hA hR
    obtain ⟨nf, rfl⟩ : ∃ k, nf = k + 1 := ⟨nf - 1, by omega⟩
    obtain ⟨i1, i2⟩ := ru_ix ⟨j, by omega⟩
    have i1' : nI j - nI j / 8 * 8 = nI (j % 8) := i1
    have i2' : nI j / 8 = nI (j / 8) := i2
    have hs : F 2 - 1 = nI (n - 1) := by
      rw [hF, show (1 : Int32) = nI 1 from rfl, nI_subN hn1]
    have b1 := hA 1 (by decide) (by decide)
    have b2 := hA 2 (by decide) (by decide)
    have b3 := hA 3 (by decide) (by decide)
    have b4 := hA 4 (by decide) (by decide)
    have b16 := hA 16 (by decide) (by decide)
    rw [f_M_run_L26, if_neg (show ¬ (32 : Int32) ≤ nI j from nI_ge (b := 32) (by omega) (by omega)), ra_g_in (by omega) (by decide), i1', i2', hs, nI_clamp (by omega), b16]
    obtain ⟨A1, e1, e2, e3⟩ := ev_eval hn F (A := A) (by rw [b1, b2, b3]; exact hc) (u := n - 1) (by omega) (nI (j % 8) * 65536) (nI (j / 8) * 65536) t (B 16 j)
    rw [b1, b2, b3, show n - 1 + 1 = n by omega] at e3
    obtain ⟨p0, q0⟩ := hp 0 (by decide)
    obtain ⟨p1, q1⟩ := hp 1 (by decide)
    obtain ⟨p2, q2⟩ := hp 2 (by decide)
    have a4 : A1 4 = B 4 := by rw [e2 4 (by decide), b4]
    have z0 : A1 4 (0 : Int32).toNatClampNeg = nI (p 0) := by rw [a4]; exact q0
    have z1 : A1 4 (1 : Int32).toNatClampNeg = nI (p 1) := by rw [a4]; exact q1
    have z2 : A1 4 (2 : Int32).toNatClampNeg = nI (p 2) := by rw [a4]; exact q2
    rw [e1, ra_bv_s, ra_g0 (by decide) (by decide), z0, ra_g_in (by omega) (by decide), ra_g1 (by decide) (by decide), z1, ra_g_in (by omega) (by decide), ra_g2 (by decide) (by decide), z2, ra_g_in (by omega) (by decide), ra_g_in (by omega) (by decide), nI_clamp (by omega), nI_clamp (by omega), nI_clamp (by omega), ← nI_succ]
    refine ih (j + 1) nf _ (by omega) (by omega) (fun k k1 k2 => ?_) (fun k hk => ?_)
    · show (if k = 17 then _ else A1 k) = B k
      rw [if_neg k1, e2 k k2]
      exact hA k k1 k2
    · show co_R (B 1) (B 2) (B 3) p n t k (B 16 k) (upd (A1 17) j (co_of (A1 18) p) k)
      unfold upd
      by_cases hkj : k = j
      · rw [if_pos hkj, hkj]
        exact ⟨A1 18, e3, rfl⟩
      · rw [if_neg hkj, e2 17 (by decide)]
        exact hR k (by omega)
theorem Inv.run (w : Int32) : li_v Inv (f_P_run w) (f_M_run w) [(2, 1)] := by
  intro F A FM AM h
  obtain ⟨len, n, h1, h2, h3, h4, h5⟩ := id h
  have hn := h2.1
  unfold f_P_run f_P_hasCode f_M_run
  by_cases h0 : n = 0
  · right
    refine ⟨(2, 1), by simp, upd FM 0 1, AM, ?_, ?_, rfl, h.code 1⟩
    · rw [if_pos (by rw [h2.2.1, h0]; decide)]; rfl
    · rw [if_pos (by rw [h2.2.2.1, h0]; decide)]
  · left
    have hp : ¬ F 3 ≤ 0 := by rw [h2.2.1]; exact nI_nle (by omega) (by omega)
    have hm : ¬ FM 2 = 0 := by rw [h2.2.2.1]; exact nI_ne0 (by omega) (by omega)
    rw [if_neg hp, Option.bind_some, if_neg (by decide), if_neg hm]
    obtain ⟨r0, a0, b0⟩ := h3.2 (by omega) 0 (by decide)
    obtain ⟨r1, a1, b1⟩ := h3.2 (by omega) 1 (by decide)
    obtain ⟨r2, a2, b2⟩ := h3.2 (by omega) 2 (by decide)
    have hpP : ∀ i, i < 3 → (fun i => if i = 0 then r0 else if i = 1 then r1 else r2) i < n ∧ A 8 i = nI ((fun i => if i = 0 then r0 else if i = 1 then r1 else r2) i) := by
      intro i hi
      rcases (show i = 0 ∨ i = 1 ∨ i = 2 by omega) with rfl | rfl | rfl
      · exact ⟨a0, b0⟩
      · exact ⟨a1, b1⟩
      · exact ⟨a2, b2⟩
    generalize (fun i => if i = 0 then r0 else if i = 1 then r1 else r2) = p at hpP
    have hpM : ∀ i, i < 3 → p i < n ∧ AM 4 i = nI (p i) := fun i hi => ⟨(hpP i hi).1, by rw [← h3.1 i hi]; exact (hpP i hi).2⟩
    obtain ⟨A9, e1, e2, e3, e4⟩ := ru_17 hn h2.2.1 (B := A) h2.2.2.2.2 hpP w 4 0 5 A (by omega) (by omega) ⟨fun _ _ _ _ => rfl, fun k hk => absurd hk (by omega), fun _ _ => rfl⟩
    rw [nI_0] at e1
    obtain ⟨A2, g1, g2, g3⟩ := ru_26 hn (by omega) (F := upd FM 0 0) h2.2.2.1 (B := AM) (iv_codeM h2) hpM w 32 0 400 AM (by omega) (by omega) (fun _ _ _ => rfl) (fun k hk => absurd hk (Nat.not_lt_zero k))
    rw [nI_0] at g1
    refine ⟨F, A9, upd FM 0 0, A2, ?_, g1, rfl, len, n, ⟨h1.1, h1.2.1, h1.2.2.1, ?_⟩, ⟨hn, h2.2.1, h2.2.2.1, ?_, ?_⟩, ⟨?_, ?_⟩, ?_, ?_⟩
    · unfold f_P_run_Z15
      rw [e1]
      rfl
    · rw [e2 0 (by decide) (by decide) (by decide), g2 0 (by decide) (by decide) (by decide)]; exact h1.2.2.2
    · rw [e2 5 (by decide) (by decide) (by decide), e2 6 (by decide) (by decide) (by decide), e2 7 (by decide) (by decide) (by decide), g2 1 (by decide) (by decide) (by decide), g2 2 (by decide) (by decide) (by decide), g2 3 (by decide) (by decide) (by decide)]; exact h2.2.2.2.1
    · rw [e2 5 (by decide) (by decide) (by decide), e2 6 (by decide) (by decide) (by decide), e2 7 (by decide) (by decide) (by decide)]; exact h2.2.2.2.2
    · rw [e2 8 (by decide) (by decide) (by decide), g2 4 (by decide) (by decide) (by decide)]; exact h3.1
    · rw [e2 8 (by decide) (by decide) (by decide)]; exact h3.2
    · rw [e2 9 (by decide) (by decide) (by decide), g2 5 (by decide) (by decide) (by decide)]; exact h4
    · intro j hj
      have q1 := e3 j hj
      have q2 := g3 j hj
      rw [← h5 j hj] at q2
      exact co_R.uniq hn (fun i hi => (hpP i hi).1) h2.2.2.2.1 q1 q2
theorem Inv.all : lh_all Inv := ⟨Inv.type, Inv.erase, Inv.compile, Inv.size, Inv.instruction, Inv.result, Inv.typeOf, Inv.value, Inv.paint, Inv.run, Inv.pixel⟩
