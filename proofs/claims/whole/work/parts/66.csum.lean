/-! the class's part, unit, product, sum -/
section CX
variable {ch : Nat → Int32} {len : Nat} {vars : Nat → Option px_V}
variable {inner : Int32 → ST_F → ST_A → Option (Int32 × ST_F × ST_A)} {P : px_P}
theorem cx_part (hT : cx_T ch len) {u : Nat} (hin : (u < 5 ∧ cx_I ch len vars (inner (nI (u + 1))) P) ∨ (u = 5 ∧ ∀ at_ L, P at_ L = none)) : cx_I ch len vars (f_C_part inner (nI u)) (px_part ch vars P) := by
  intro at_ L tl F A hS ha
  have hbi : ∀ (g : Option (Int32 × ST_F × ST_A)), ra_bi g (fun r F A => some (r, F, A)) = g := fun g => by cases g <;> rfl
  unfold f_C_part px_part
  rw [cx_next hT hS (by omega), ra_bi_s, cx_isSmall]
  by_cases c1 : px_small (ch at_) = true
  · have hat := pxf_smalll hT.2.1 c1
    rw [if_pos c1, if_neg (by decide), if_pos c1, hbi]
    exact cx_O.fromQ (cx_letter (hS.go 1 (y := 1) rfl) c1) (by omega)
  · rw [if_neg c1, if_pos rfl, if_neg c1]
    rcases hin with ⟨hu, hin⟩ | ⟨hu, hin⟩
    · rw [if_pos (show nI u < (5 : Int32) from nI_lt (b := 5) hu (by decide))]
      rcases cx_takes hT hS (by omega) (c := 40) (by decide) with ⟨e1, e2, F2, e3, e4⟩ | ⟨e1, e3⟩
      · rw [e3, ra_bi_s, if_neg (by decide), if_pos e1, ← nI_succ]
        refine (hin (at_ + 1) L tl F2 A e4 (by omega)).seq (fun q at1 L1 t1 F1 A1 h1 h2 h3 h4 => ?_)
        refine (cx_J87 (inner := inner) hT h1 h2 h4 (nI u) (ch at_)).cast ?_
        cases q with
        | none => by_cases c : ch at1 = 41 <;> simp [c]
        | some v => rfl
      · rw [e3, ra_bi_s, if_pos rfl, if_neg e1]
        by_cases hl : at_ = len
        · subst hl
          have h0 := hT.2.1 at_ (Nat.le_refl _)
          rcases cx_takes hT (hS.go 1 (y := 1) rfl) (Nat.le_refl _) (c := 40) (by decide) with ⟨g1, g2, _⟩ | ⟨g1, g3⟩
          · omega
          · rw [g3, ra_bi_s, if_pos rfl, if_neg (fun z => by rw [h0] at z; exact absurd z.1 (by decide))]
            refine (cx_J87 (inner := inner) hT (hS.go 1 (y := 1) rfl) (Nat.le_refl _) (q := none) (fun v e => (nomatch e)) (nI u) (ch at_)).cast ?_
            by_cases c : ch (at_ + 1) = 41 <;> simp [c]
        · rcases cx_takes hT (hS.go 1 (y := 1) rfl) (by omega) (c := 40) (by decide) with ⟨g1, g2, F2, g3, g4⟩ | ⟨g1, g3⟩
          · rw [g3, ra_bi_s, if_neg (by decide), ← nI_succ]
            refine (cx_fn hT hin (ch at_) g4 (by omega) (nI u) (ch at_)).cast ?_
            by_cases c : px_isfn (ch at_) = true
            · rw [if_pos ⟨c, g1⟩, if_pos c]
              rfl
            · rw [if_neg (fun z => c z.1), if_neg c]
          · rw [g3, ra_bi_s, if_pos rfl, if_neg (fun z => g1 z.2)]
            refine (cx_J87 (inner := inner) hT (hS.go 1 (y := 1) rfl) (by omega) (q := none) (fun v e => (nomatch e)) (nI u) (ch at_)).cast ?_
            by_cases c : ch (at_ + 1) = 41 <;> simp [c]
    · rw [if_neg (show ¬ nI u < (5 : Int32) from by rw [hu]; decide)]
      refine (cx_O.no hS (by omega)).cast ?_
      by_cases c2 : ch at_ = 40
      · rw [if_pos c2, hin]; rfl
      · rw [if_neg c2]
        by_cases c3 : px_isfn (ch at_) = true ∧ ch (at_ + 1) = 40
        · rw [if_pos c3, px_args, hin]; rfl
        · rw [if_neg c3]
theorem cx_unit54N (n : Nat) (x1 : Int32) {k : Nat} (hk : k ≤ 160) (F : ST_F) (A : ST_A) : ∀ (m j n : Nat), j + m = k → m < n → f_C_unit_L54 inner n x1 (nI k) (-1) (nI j) F A = some (-1, F, A) := by
  intro m
  induction m with
  | zero =>
    intro j n hj hn
    obtain ⟨n, rfl⟩ : ∃ n', n = n' + 1 := ⟨n - 1, by omega⟩
    rw [f_C_unit_L54, if_pos (nI_le (by omega) (by omega))]
  | succ m ih =>
    intro j n hj hn
    obtain ⟨n, rfl⟩ : ∃ n', n = n' + 1 := ⟨n - 1, by omega⟩
    rw [f_C_unit_L54, if_neg (nI_ge (by omega) (by omega)), cx_eachN, ra_bi_s, ← nI_succ]
    exact ih (j + 1) n (by omega) (by omega)
theorem cx_unit54 (x1 : Int32) {k : Nat} (hk : k ≤ 160) {at_ : Nat} (ha : at_ ≤ len + 1) : ∀ (m j n : Nat) (v : px_V) (L : px_L) (tl : Bool) (F : ST_F) (A : ST_A), j + m = k → m < n → cx_S ch len vars at_ L tl F A → cx_o L v → cx_O ch len vars L tl (f_C_unit_L54 inner n x1 (nI k) (pv v) (nI j) F A) ((px_negs m v L).bind fun q => some (q.1, at_, q.2)) := by
  intro m
  induction m with
  | zero =>
    intro j n v L tl F A hj hn hS hv
    obtain ⟨n, rfl⟩ : ∃ n', n = n' + 1 := ⟨n - 1, by omega⟩
    rw [f_C_unit_L54, if_pos (nI_le (by omega) (by omega))]
    exact cx_O.yes hS ha hv
  | succ m ih =>
    intro j n v L tl F A hj hn hS hv
    obtain ⟨n, rfl⟩ : ∃ n', n = n' + 1 := ⟨n - 1, by omega⟩
    rw [f_C_unit_L54, if_neg (nI_ge (by omega) (by omega)), px_negs, ← nI_succ]
    refine cx_O.cast ((cx_each hS (t := 9) (by decide) (by decide) hv).seq (f := fun r => (px_negs m r.1 r.2).bind fun q => some (q.1, at_, q.2)) (fun q L1 t1 F1 A1 h1 h2 h3 => ?_)) (by
      show Option.bind (Option.bind (px_each 9 v L) _) _ = Option.bind (px_each 9 v L) _
      cases px_each 9 v L <;> rfl)
    cases q with
    | none =>
      show cx_O ch len vars L1 t1 (f_C_unit_L54 inner n x1 (nI k) (-1) (nI (j + 1)) F1 A1) none
      rw [cx_unit54N n x1 hk F1 A1 m (j + 1) n (by omega) (by omega)]
      exact cx_O.no h1 ha
    | some w => exact ih (j + 1) n w L1 t1 F1 A1 (by omega) (by omega) h1 (h3 w rfl)
theorem cx_unit24 (hT : cx_T ch len) {u : Nat} (hin : (u < 5 ∧ cx_I ch len vars (inner (nI (u + 1))) P) ∨ (u = 5 ∧ ∀ at_ L, P at_ L = none)) {at_ : Nat} {L : px_L} {tl : Bool} {F : ST_F} {A : ST_A} (hS : cx_S ch len vars at_ L tl F A) (ha : at_ ≤ len) {k : Nat} (hk : k ≤ 160) : cx_O ch len vars L tl (f_C_unit_J24 inner (nI u) (nI k) F A) ((px_core ch vars P at_ L).bind fun r => (px_negs k r.1 r.2.2).bind fun q => some (q.1, r.2.1, q.2)) := by
  have h54 : ∀ (q : Option px_V) (at1 : Nat) (L1 : px_L) (t1 : Bool) (F1 : ST_F) (A1 : ST_A), cx_S ch len vars at1 L1 t1 F1 A1 → at1 ≤ len + 1 → (∀ v, q = some v → cx_o L1 v) → cx_O ch len vars L1 t1 (f_C_unit_L54 inner 400 (nI u) (nI k) (cx_v q) 0 F1 A1) ((q.map fun v => (v, at1, L1)).bind fun r => (px_negs k r.1 r.2.2).bind fun q => some (q.1, r.2.1, q.2)) := by
    intro q at1 L1 t1 F1 A1 h1 h2 h4
    cases q with
    | none =>
      show cx_O ch len vars L1 t1 (f_C_unit_L54 inner 400 (nI u) (nI k) (-1) (nI 0) F1 A1) none
      rw [cx_unit54N 400 (nI u) hk F1 A1 k 0 400 (by omega) (by omega)]
      exact cx_O.no h1 h2
    | some v => exact cx_unit54 (nI u) hk h2 k 0 400 v L1 t1 F1 A1 (by omega) (by omega) h1 (h4 v rfl)
  unfold f_C_unit_J24 px_core
  rw [cx_next hT hS (by omega), ra_bi_s, cx_isDigit]
  by_cases c1 : px_dig (ch at_) = true
  · rw [if_pos c1, if_neg (by decide), if_pos c1]
    exact (cx_const hT hS ha).seq (fun q at1 L1 t1 F1 A1 h1 h2 h3 h4 => h54 q at1 L1 t1 F1 A1 h1 h2 h4)
  · rw [if_neg c1, if_pos rfl, if_neg c1]
    refine cx_O.cast ((cx_part hT hin at_ L tl F A hS ha).seq (f := fun r => ((px_pick ch r.1 r.2.1).bind fun q => some (q.1, q.2, r.2.2)).bind fun r => (px_negs k r.1 r.2.2).bind fun q => some (q.1, r.2.1, q.2)) (fun q at1 L1 t1 F1 A1 h1 h2 h3 h4 => ?_)) (by cases px_part ch vars P at_ L <;> rfl)
    cases q with
    | none =>
      show cx_O ch len vars L1 t1 (ra_bi (f_C_picked (-1) F1 A1) _) none
      rw [cx_pickedN, ra_bi_s]
      exact h54 none at1 L1 t1 F1 A1 h1 h2 (fun v e => (nomatch e))
    | some v =>
      exact (cx_picked hT h1 h2 (h4 v rfl)).seq (fun q at2 L2 t2 F2 A2 g1 g2 g3 g4 => h54 q at2 L2 t2 F2 A2 g1 g2 g4)
theorem cx_unit2 (hT : cx_T ch len) (x1 : Int32) {L : px_L} {tl : Bool} {A : ST_A} : ∀ (m j n at_ : Nat) (F : ST_F), j + m = 160 → m < n → cx_S ch len vars at_ L tl F A → at_ ≤ len → ∃ F', f_C_unit_L2 inner n x1 (nI j) F A = f_C_unit_J24 inner x1 (nI (px_signs ch m at_ j).1) F' A ∧ cx_S ch len vars (px_signs ch m at_ j).2 L tl F' A ∧ (px_signs ch m at_ j).2 ≤ len ∧ (px_signs ch m at_ j).1 ≤ 160 := by
  intro m
  induction m with
  | zero =>
    intro j n at_ F hj hn hS ha
    obtain ⟨n, rfl⟩ : ∃ n', n = n' + 1 := ⟨n - 1, by omega⟩
    rw [f_C_unit_L2, if_pos (show (160 : Int32) ≤ nI j from nI_le (a := 160) (by omega) (by omega))]
    exact ⟨F, rfl, hS, ha, by show j ≤ 160; omega⟩
  | succ m ih =>
    intro j n at_ F hj hn hS ha
    obtain ⟨n, rfl⟩ : ∃ n', n = n' + 1 := ⟨n - 1, by omega⟩
    rw [f_C_unit_L2, if_neg (show ¬ (160 : Int32) ≤ nI j from nI_ge (b := 160) (by omega) (by omega)), px_signs]
    rcases cx_takes hT hS (by omega) (c := 45) (by decide) with ⟨e1, e2, F2, e3, e4⟩ | ⟨e1, e3⟩
    · rw [e3, ra_bi_s, if_neg (by decide), if_pos e1, ← nI_succ]
      exact ih (j + 1) n (at_ + 1) F2 (by omega) (by omega) e4 (by omega)
    · rw [e3, ra_bi_s, if_pos rfl, if_neg e1]
      exact ⟨F, rfl, hS, ha, by show j ≤ 160; omega⟩
theorem cx_unit (hT : cx_T ch len) {u : Nat} (hin : (u < 5 ∧ cx_I ch len vars (inner (nI (u + 1))) P) ∨ (u = 5 ∧ ∀ at_ L, P at_ L = none)) : cx_I ch len vars (f_C_unit inner (nI u)) (px_unit ch vars P) := by
  intro at_ L tl F A hS ha
  unfold f_C_unit px_unit
  obtain ⟨F', h1, h2, h3, h4⟩ := cx_unit2 (inner := inner) hT (nI u) 160 0 400 at_ F (by omega) (by omega) hS ha
  rw [nI_0] at h1
  rw [h1]
  exact cx_unit24 hT hin h2 h3 h4
theorem cx_prodN (n : Nat) (x1 x3 : Int32) (F : ST_F) (A : ST_A) : f_C_product_L8 inner (n + 1) x1 (-1) x3 F A = some (-1, F, A) := by
  rw [f_C_product_L8]
  by_cases c : (160 : Int32) ≤ x3
  · rw [if_pos c]
  · rw [if_neg c, if_pos rfl]
theorem cx_prodL (hT : cx_T ch len) {u : Nat} (hin : (u < 5 ∧ cx_I ch len vars (inner (nI (u + 1))) P) ∨ (u = 5 ∧ ∀ at_ L, P at_ L = none)) : ∀ (m j n at_ : Nat) (v : px_V) (L : px_L) (tl : Bool) (F : ST_F) (A : ST_A), j + m = 160 → m < n → cx_S ch len vars at_ L tl F A → at_ ≤ len + 1 → cx_o L v → cx_O ch len vars L tl (f_C_product_L8 inner n (nI u) (pv v) (nI j) F A) (px_prodL ch vars P m v at_ L) := by
  have hU := cx_unit hT hin
  intro m
  induction m with
  | zero =>
    intro j n at_ v L tl F A hj hn hS ha hv
    obtain ⟨n, rfl⟩ : ∃ n', n = n' + 1 := ⟨n - 1, by omega⟩
    rw [f_C_product_L8, if_pos (show (160 : Int32) ≤ nI j from nI_le (a := 160) (by omega) (by omega))]
    exact cx_O.no hS ha
  | succ m ih =>
    intro j n at_ v L tl F A hj hn hS ha hv
    obtain ⟨n, rfl⟩ : ∃ n', n = n' + 1 := ⟨n - 1, by omega⟩
    have hn1 : ∃ n', n = n' + 1 := ⟨n - 1, by omega⟩
    rw [f_C_product_L8, if_neg (show ¬ (160 : Int32) ≤ nI j from nI_ge (b := 160) (by omega) (by omega)), if_neg (pv_ne (hv.ok hS.2.2.2.2.1.1)), px_prodL, ← nI_succ]
    have hgo : ∀ (c : Int32) (op : Int32 → Int32 → ST_F → ST_A → Option (Int32 × ST_F × ST_A)) (F2 : ST_F), (∀ y F A, op y (-1) F A = some (-1, F, A)) → (∀ (at1 : Nat) (L1 : px_L) (t1 : Bool) (F1 : ST_F) (A1 : ST_A) (w : px_V), cx_S ch len vars at1 L1 t1 F1 A1 → cx_o L1 v → cx_o L1 w → cx_Q ch len vars at1 L1 t1 (op (pv v) (pv w) F1 A1) (px_bin c v w L1)) → cx_S ch len vars (at_ + 1) L tl F2 A → at_ < len →
        cx_O ch len vars L tl (ra_bi (f_C_unit inner (nI u) F2 A) (fun r8 F8 A8 => ra_bi (op (pv v) r8 F8 A8) (fun r9 F9 A9 => f_C_product_L8 inner n (nI u) r9 (nI (j + 1)) F9 A9))) ((px_unit ch vars P (at_ + 1) L).bind fun r => (px_bin c v r.1 r.2.2).bind fun q => px_prodL ch vars P m q.1 r.2.1 q.2) := by
      intro c op F2 hop1 hop2 hS2 hlt
      obtain ⟨n, rfl⟩ := hn1
      refine (hU (at_ + 1) L tl F2 A hS2 (by omega)).seq (fun q at1 L1 t1 F1 A1 h1 h2 h3 h4 => ?_)
      cases q with
      | none =>
        show cx_O ch len vars L1 t1 (ra_bi (op (pv v) (-1) F1 A1) _) none
        rw [hop1, ra_bi_s, cx_prodN]
        exact cx_O.no h1 h2
      | some w =>
        refine (hop2 at1 L1 t1 F1 A1 w h1 (hv.mono h3) (h4 w rfl)).seq (fun q L2 t2 F2 A2 g1 g2 g3 => ?_)
        cases q with
        | none =>
          show cx_O ch len vars L2 t2 (f_C_product_L8 inner (n + 1) (nI u) (-1) (nI (j + 1)) F2 A2) none
          rw [cx_prodN]
          exact cx_O.no g1 h2
        | some x => exact ih (j + 1) (n + 1) at1 x L2 t2 F2 A2 (by omega) (by omega) g1 h2 (g3 x rfl)
    rcases cx_takes hT hS ha (c := 42) (by decide) with ⟨e1, e2, F2, e3, e4⟩ | ⟨e1, e3⟩
    · rw [e3, ra_bi_s, if_neg (by decide), if_pos (Or.inl e1)]
      exact hgo (ch at_) f_C_times F2 cx_timesN2 (fun at1 L1 t1 F1 A1 w h1 h2 h3 => by rw [e1]; exact cx_times h1 h2 h3) e4 e2
    · rw [e3, ra_bi_s, if_pos rfl]
      rcases cx_takes hT hS ha (c := 47) (by decide) with ⟨g1, g2, F2, g3, g4⟩ | ⟨g1, g3⟩
      · rw [g3, ra_bi_s, if_neg (by decide), if_pos (Or.inr g1)]
        exact hgo (ch at_) f_C_dividedBy F2 cx_divN2 (fun at1 L1 t1 F1 A1 w h1 h2 h3 => by rw [g1]; exact cx_div h1 h2 h3) g4 g2
      · rw [g3, ra_bi_s, if_pos rfl, if_neg (fun z => by rcases z with h | h; exact e1 h; exact g1 h)]
        exact cx_O.yes hS ha hv
theorem cx_prod (hT : cx_T ch len) {u : Nat} (hin : (u < 5 ∧ cx_I ch len vars (inner (nI (u + 1))) P) ∨ (u = 5 ∧ ∀ at_ L, P at_ L = none)) : cx_I ch len vars (f_C_product inner (nI u)) (px_prod ch vars P) := by
  intro at_ L tl F A hS ha
  unfold f_C_product px_prod
  refine (cx_unit hT hin at_ L tl F A hS ha).seq (fun q at1 L1 t1 F1 A1 h1 h2 h3 h4 => ?_)
  cases q with
  | none =>
    show cx_O ch len vars L1 t1 (f_C_product_L8 inner 400 (nI u) (-1) 0 F1 A1) none
    rw [cx_prodN]
    exact cx_O.no h1 h2
  | some v => exact cx_prodL hT hin 160 0 400 at1 v L1 t1 F1 A1 (by omega) (by omega) h1 h2 (h4 v rfl)
theorem cx_sumN (n : Nat) (x1 x3 : Int32) (F : ST_F) (A : ST_A) : f_C_sum_L8 inner (n + 1) x1 (-1) x3 F A = some (-1, F, A) := by
  rw [f_C_sum_L8]
  by_cases c : (160 : Int32) ≤ x3
  · rw [if_pos c]
  · rw [if_neg c, if_pos rfl]
theorem cx_sumL (hT : cx_T ch len) {u : Nat} (hin : (u < 5 ∧ cx_I ch len vars (inner (nI (u + 1))) P) ∨ (u = 5 ∧ ∀ at_ L, P at_ L = none)) : ∀ (m j n at_ : Nat) (v : px_V) (L : px_L) (tl : Bool) (F : ST_F) (A : ST_A), j + m = 160 → m < n → cx_S ch len vars at_ L tl F A → at_ ≤ len + 1 → cx_o L v → cx_O ch len vars L tl (f_C_sum_L8 inner n (nI u) (pv v) (nI j) F A) (px_sumL ch vars P m v at_ L) := by
  have hU := cx_prod hT hin
  intro m
  induction m with
  | zero =>
    intro j n at_ v L tl F A hj hn hS ha hv
    obtain ⟨n, rfl⟩ : ∃ n', n = n' + 1 := ⟨n - 1, by omega⟩
    rw [f_C_sum_L8, if_pos (show (160 : Int32) ≤ nI j from nI_le (a := 160) (by omega) (by omega))]
    exact cx_O.no hS ha
  | succ m ih =>
    intro j n at_ v L tl F A hj hn hS ha hv
    obtain ⟨n, rfl⟩ : ∃ n', n = n' + 1 := ⟨n - 1, by omega⟩
    have hn1 : ∃ n', n = n' + 1 := ⟨n - 1, by omega⟩
    rw [f_C_sum_L8, if_neg (show ¬ (160 : Int32) ≤ nI j from nI_ge (b := 160) (by omega) (by omega)), if_neg (pv_ne (hv.ok hS.2.2.2.2.1.1)), px_sumL, ← nI_succ]
    have hgo : ∀ (c : Int32) (t : Nat) (F2 : ST_F), 2 ≤ t → t ≤ 11 → (∀ w L, px_bin c v w L = px_pair (nI t) v w L) → cx_S ch len vars (at_ + 1) L tl F2 A → at_ < len →
        cx_O ch len vars L tl (ra_bi (f_C_product inner (nI u) F2 A) (fun r8 F8 A8 => ra_bi (f_C_pairwise (nI t) (pv v) r8 F8 A8) (fun r9 F9 A9 => f_C_sum_L8 inner n (nI u) r9 (nI (j + 1)) F9 A9))) ((px_prod ch vars P (at_ + 1) L).bind fun r => (px_bin c v r.1 r.2.2).bind fun q => px_sumL ch vars P m q.1 r.2.1 q.2) := by
      intro c t F2 ht ht' hop hS2 hlt
      obtain ⟨n, rfl⟩ := hn1
      refine (hU (at_ + 1) L tl F2 A hS2 (by omega)).seq (fun q at1 L1 t1 F1 A1 h1 h2 h3 h4 => ?_)
      cases q with
      | none =>
        show cx_O ch len vars L1 t1 (ra_bi (f_C_pairwise (nI t) (pv v) (-1) F1 A1) _) none
        rw [cx_pairN2, ra_bi_s, cx_sumN]
        exact cx_O.no h1 h2
      | some w =>
        show cx_O ch len vars L1 t1 (ra_bi (f_C_pairwise (nI t) (pv v) (pv w) F1 A1) _) ((px_bin c v w L1).bind fun q => px_sumL ch vars P m q.1 at1 q.2)
        rw [hop]
        refine (cx_pair h1 ht ht' (hv.mono h3) (h4 w rfl)).seq (fun q L2 t2 F2 A2 g1 g2 g3 => ?_)
        cases q with
        | none =>
          show cx_O ch len vars L2 t2 (f_C_sum_L8 inner (n + 1) (nI u) (-1) (nI (j + 1)) F2 A2) none
          rw [cx_sumN]
          exact cx_O.no g1 h2
        | some x => exact ih (j + 1) (n + 1) at1 x L2 t2 F2 A2 (by omega) (by omega) g1 h2 (g3 x rfl)
    rcases cx_takes hT hS ha (c := 43) (by decide) with ⟨e1, e2, F2, e3, e4⟩ | ⟨e1, e3⟩
    · rw [e3, ra_bi_s, if_neg (by decide), if_pos (Or.inl e1)]
      exact hgo (ch at_) 2 F2 (by decide) (by decide) (fun w L => by rw [e1]; rfl) e4 e2
    · rw [e3, ra_bi_s, if_pos rfl]
      rcases cx_takes hT hS ha (c := 45) (by decide) with ⟨g1, g2, F2, g3, g4⟩ | ⟨g1, g3⟩
      · rw [g3, ra_bi_s, if_neg (by decide), if_pos (Or.inr g1)]
        exact hgo (ch at_) 3 F2 (by decide) (by decide) (fun w L => by rw [g1]; rfl) g4 g2
      · rw [g3, ra_bi_s, if_pos rfl, if_neg (fun z => by rcases z with h | h; exact e1 h; exact g1 h)]
        exact cx_O.yes hS ha hv
theorem cx_sum (hT : cx_T ch len) {u : Nat} (hin : (u < 5 ∧ cx_I ch len vars (inner (nI (u + 1))) P) ∨ (u = 5 ∧ ∀ at_ L, P at_ L = none)) : cx_I ch len vars (f_C_sum inner (nI u)) (px_sum ch vars P) := by
  intro at_ L tl F A hS ha
  unfold f_C_sum px_sum
  refine (cx_prod hT hin at_ L tl F A hS ha).seq (fun q at1 L1 t1 F1 A1 h1 h2 h3 h4 => ?_)
  cases q with
  | none =>
    show cx_O ch len vars L1 t1 (f_C_sum_L8 inner 400 (nI u) (-1) 0 F1 A1) none
    rw [cx_sumN]
    exact cx_O.no h1 h2
  | some v => exact cx_sumL hT hin 160 0 400 at1 v L1 t1 F1 A1 (by omega) (by omega) h1 h2 (h4 v rfl)
theorem cx_sumD (hT : cx_T ch len) : ∀ (d u : Nat), d + u = 5 → cx_I ch len vars (f_C_sumD d (nI u)) (px_sumD ch vars d) := by
  intro d
  induction d with
  | zero =>
    intro u hu
    unfold f_C_sumD px_sumD
    exact cx_sum hT (Or.inr ⟨by omega, fun _ _ => rfl⟩)
  | succ d ih =>
    intro u hu
    unfold f_C_sumD px_sumD
    exact cx_sum hT (Or.inl ⟨by omega, ih (u + 1) (by omega)⟩)
end CX
