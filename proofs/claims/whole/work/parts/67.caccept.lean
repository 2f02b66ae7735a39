/-! the class's assignment, accepts, finish, start -/
theorem cx_vN : cx_v none = -1 := rfl
theorem cx_vS (v : px_V) : cx_v (some v) = pv v := rfl
def cx_ty : Option px_V → Int32
  | none => 0
  | some v => nI v.length
def cx_fin (x : px_R) (F : ST_F) (A : ST_A) : Prop := F 2 = nI x.2.1.length ∧ cx_L x.2.1 ∧ (∀ (k : Nat) (i : px_I), x.2.1[k]? = some i → A 2 k = i.1 ∧ A 3 k = i.2.1 ∧ A 4 k = i.2.2) ∧ cx_o x.2.1 x.1 ∧ (∀ i, i < 3 → A 5 i = nI (x.1.getD i 0)) ∧ ∀ j, j < 26 → A 6 j = cx_ty (x.2.2 j)
def cx_A (ch : Nat → Int32) (len : Nat) (tl : Bool) (res : Option (Int32 × ST_F × ST_A)) (p : Option px_R) : Prop :=
  ∃ (q : Option px_R) (F' : ST_F) (A' : ST_A), res = some ((match q with | none => 0 | some _ => 1), F', A') ∧ (∀ k, k < len → A' 1 k = ch k) ∧ (∀ x, q = some x → cx_fin x F' A') ∧ (tl = true → q = none) ∧ (tl = false → q = p)
section CX
variable {ch : Nat → Int32} {len : Nat} {vars : Nat → Option px_V}
theorem cx_A.no {at_ : Nat} {L : px_L} {tl t0 : Bool} {F : ST_F} {A : ST_A} {p : Option px_R} (h : cx_S ch len vars at_ L tl F A) (hp : t0 = false → p = none) : cx_A ch len t0 (some (0, F, A)) p :=
  ⟨none, F, A, rfl, h.2.2.2.2.2.1, fun x e => (nomatch e), fun _ => rfl, fun e => (hp e).symm⟩
theorem cx_finish29 (x1 : Int32) (F : ST_F) (hv : ∀ j v, vars j = some v → pv_ok v) : ∀ (m j n : Nat) (A : ST_A), j + m = 26 → m < n → (∀ i, i < 26 → A 0 i = cx_v (vars i)) → ∃ A', f_C_finish_L29 n x1 (nI j) F A = some (F, A') ∧ (∀ k, k ≠ 6 → A' k = A k) ∧ (∀ i, i < j → A' 6 i = A 6 i) ∧ ∀ i, j ≤ i → i < 26 → A' 6 i = cx_ty (vars i) := by
  intro m
  induction m with
  | zero =>
    intro j n A hj hn h0
    obtain ⟨n, rfl⟩ : ∃ n', n = n' + 1 := ⟨n - 1, by omega⟩
    rw [f_C_finish_L29, if_pos (show (26 : Int32) ≤ nI j from nI_le (a := 26) (by omega) (by omega))]
    exact ⟨A, rfl, fun _ _ => rfl, fun _ _ => rfl, fun i h1 h2 => by omega⟩
  | succ m ih =>
    intro j n A hj hn h0
    obtain ⟨n, rfl⟩ : ∃ n', n = n' + 1 := ⟨n - 1, by omega⟩
    rw [f_C_finish_L29, if_neg (show ¬ (26 : Int32) ≤ nI j from nI_ge (b := 26) (by omega) (by omega)), ra_g_in (by omega) (by decide), ra_g_in (by omega) (by decide), ra_g_in (by omega) (by decide), ra_g_in (by omega) (by decide), nI_clamp (by omega), h0 j (by omega), ← nI_succ]
    have hgo : ∀ y, y = cx_ty (vars j) → ∃ A', f_C_finish_L29 n x1 (nI (j + 1)) F (va_up A 6 (upd (A 6) j y)) = some (F, A') ∧ (∀ k, k ≠ 6 → A' k = A k) ∧ (∀ i, i < j → A' 6 i = A 6 i) ∧ ∀ i, j ≤ i → i < 26 → A' 6 i = cx_ty (vars i) := by
      intro y hy
      obtain ⟨A', h1, h2, h3, h4⟩ := ih (j + 1) n (va_up A 6 (upd (A 6) j y)) (by omega) (by omega) h0
      refine ⟨A', h1, fun k hk => ?_, fun i hi => ?_, fun i hi hi2 => ?_⟩
      · rw [h2 k hk]; show (if k = 6 then _ else A k) = A k; rw [if_neg hk]
      · rw [h3 i (by omega)]; show upd (A 6) j y i = A 6 i; unfold upd; rw [if_neg (by omega)]
      · by_cases hij : i = j
        · rw [h3 i (by omega), hij]; show upd (A 6) j y j = _; unfold upd; rw [if_pos rfl, hy]
        · exact h4 i (by omega) hi2
    cases hvj : vars j with
    | none =>
      rw [cx_vN, if_pos rfl]
      exact hgo 0 (by rw [hvj]; rfl)
    | some v =>
      have hk := hv j v hvj
      rw [cx_vS, if_neg (pv_ne hk)]
      show ∃ A', f_C_finish_L29 n x1 (nI (j + 1)) F (va_up A 6 (upd (A 6) j (f_V_typeIn (pv v)))) = _ ∧ _
      rw [cx_type hk]
      exact hgo _ (by rw [hvj]; rfl)
theorem cx_finish2 {v : px_V} (hk : pv_ok v) (F : ST_F) (hv : ∀ j v, vars j = some v → pv_ok v) : ∀ (m j n : Nat) (A : ST_A), j + m = 3 → m < n → (∀ i, i < 26 → A 0 i = cx_v (vars i)) → ∃ A', f_C_finish_L2 n (pv v) (nI j) F A = some (F, A') ∧ (∀ k, k ≠ 6 → k ≠ 5 → A' k = A k) ∧ (∀ i, i < j → A' 5 i = A 5 i) ∧ (∀ i, j ≤ i → i < 3 → A' 5 i = nI (v.getD i 0)) ∧ ∀ i, i < 26 → A' 6 i = cx_ty (vars i) := by
  intro m
  induction m with
  | zero =>
    intro j n A hj hn h0
    obtain ⟨n, rfl⟩ : ∃ n', n = n' + 1 := ⟨n - 1, by omega⟩
    rw [f_C_finish_L2, if_pos (show (3 : Int32) ≤ nI j from nI_le (a := 3) (by omega) (by omega))]
    obtain ⟨A', h1, h2, h3, h4⟩ := cx_finish29 (pv v) F hv 26 0 400 A (by omega) (by omega) h0
    exact ⟨A', h1, fun k hk _ => h2 k hk, fun i hi => by rw [h2 5 (by decide)], fun i h1 h2 => by omega, fun i hi => h4 i (Nat.zero_le _) hi⟩
  | succ m ih =>
    intro j n A hj hn h0
    obtain ⟨n, rfl⟩ : ∃ n', n = n' + 1 := ⟨n - 1, by omega⟩
    rw [f_C_finish_L2, if_neg (show ¬ (3 : Int32) ≤ nI j from nI_ge (b := 3) (by omega) (by omega)), ra_g_in (by omega) (by decide), nI_clamp (by omega), cx_num hk (by omega), ← nI_succ]
    obtain ⟨A', h1, h2, h3, h4, h5⟩ := ih (j + 1) n (va_up A 5 (upd (A 5) j (nI (v.getD j 0)))) (by omega) (by omega) h0
    refine ⟨A', h1, fun k hk1 hk2 => ?_, fun i hi => ?_, fun i hi hi2 => ?_, h5⟩
    · rw [h2 k hk1 hk2]; show (if k = 5 then _ else A k) = A k; rw [if_neg hk2]
    · rw [h3 i (by omega)]; show upd (A 5) j _ i = A 5 i; unfold upd; rw [if_neg (by omega)]
    · by_cases hij : i = j
      · rw [h3 i (by omega), hij]; show upd (A 5) j _ j = _; unfold upd; rw [if_pos rfl]
      · exact h4 i (by omega) hi2
theorem cx_vok {at_ : Nat} {L : px_L} {tl : Bool} {F : ST_F} {A : ST_A} (hS : cx_S ch len vars at_ L tl F A) : ∀ j v, vars j = some v → pv_ok v := fun j v h => (hS.2.2.2.2.2.2.2.2 j v h).ok hS.2.2.2.2.1.1
theorem cx_37 (hT : cx_T ch len) (x2 x3 : Int32) {at_ : Nat} {L : px_L} {tl : Bool} {F : ST_F} {A : ST_A} (hS : cx_S ch len vars at_ L tl F A) (ha : at_ ≤ len) : cx_A ch len tl (f_C_accepts_J37 x2 x3 F A) (px_fin ch len at_ vars L) := by
  have hl := hT.1
  unfold f_C_accepts_J37 px_fin
  obtain ⟨q, at1, L1, t1, F1, A1, h1, h2, h3, h4, h5, h6⟩ := cx_sumD (vars := vars) hT 5 0 rfl at_ L tl F A hS ha
  rw [nI_0] at h1
  rw [h1, ra_bi_s]
  cases q with
  | none =>
    refine ⟨none, F1, A1, by rw [cx_vN, if_pos rfl], h2.2.2.2.2.2.1, fun x e => (nomatch e), fun _ => rfl, fun e => ?_⟩
    rcases h6.2 e with ⟨_, e⟩ | ⟨_, e⟩ <;> (rw [e]; rfl)
  | some v =>
    have hv := h5 v rfl
    have hk := hv.ok h2.2.2.2.2.1.1
    have h4' := hk.2.1
    rw [cx_vS, if_neg (pv_ne hk), h2.1, h2.2.1, h2.2.2.2.1]
    show cx_A ch len tl (if nI at1 = nI len then (if f_V_typeIn (pv v) = 3 then _ else _) else _) _
    rw [cx_type hk]
    have hno : ∀ p : Option px_R, (tl = false → p = none) → cx_A ch len tl (some (0, F1, A1)) p := fun p hp => ⟨none, F1, A1, rfl, h2.2.2.2.2.2.1, fun x e => (nomatch e), fun _ => rfl, fun e => (hp e).symm⟩
    by_cases c1 : at1 = len
    · rw [if_pos (by rw [c1])]
      by_cases c2 : v.length = 3
      · rw [if_pos (by rw [c2]; rfl)]
        by_cases c3 : t1 = true
        · rw [if_neg (by rw [if_pos c3]; decide)]
          refine hno _ (fun e => ?_)
          rcases h6.2 e with ⟨_, e⟩ | ⟨e, _⟩
          · rw [e]; rfl
          · rw [c3] at e; cases e
        · rw [if_pos (by rw [if_neg c3])]
          obtain ⟨A2, g1, g2, g3, g4, g5⟩ := cx_finish2 hk F1 (cx_vok h2) 3 0 400 A1 (by omega) (by omega) h2.2.2.2.2.2.2.2.1
          have g1' : f_C_finish (pv v) F1 A1 = some (F1, A2) := g1
          show cx_A ch len tl (ra_bv (f_C_finish (pv v) F1 A1) _) _
          rw [g1', ra_bv_s]
          refine ⟨some (v, L1, vars), F1, A2, rfl, fun k hk => by rw [g2 1 (by decide) (by decide)]; exact h2.2.2.2.2.2.1 k hk, fun x e => ?_, fun e => absurd (h6.1 e) c3, fun e => ?_⟩
          · cases e
            refine ⟨h2.2.2.1, h2.2.2.2.2.1, fun k i hi => ?_, hv, fun i hi => g4 i (Nat.zero_le _) hi, g5⟩
            rw [g2 2 (by decide) (by decide), g2 3 (by decide) (by decide), g2 4 (by decide) (by decide)]
            exact h2.2.2.2.2.2.2.1 k i hi
          · rcases h6.2 e with ⟨e, _⟩ | ⟨_, e⟩
            · exact absurd e c3
            · rw [e]
              show _ = (if at1 = len ∧ v.length = 3 then some (v, L1, vars) else none)
              rw [if_pos ⟨c1, c2⟩]
      · rw [if_neg (c := nI v.length = (3 : Int32)) (fun z => c2 ((nI_eqI (b := 3) (by omega) (by omega)).mp z))]
        refine hno _ (fun e => ?_)
        rcases h6.2 e with ⟨_, e⟩ | ⟨_, e⟩
        · rw [e]; rfl
        · rw [e]; show (if at1 = len ∧ v.length = 3 then some (v, L1, vars) else none) = none; rw [if_neg (fun z => c2 z.2)]
    · rw [if_neg (fun z => c1 ((nI_eqI (by omega) (by omega)).mp z))]
      refine hno _ (fun e => ?_)
      rcases h6.2 e with ⟨_, e⟩ | ⟨_, e⟩
      · rw [e]; rfl
      · rw [e]; show (if at1 = len ∧ v.length = 3 then some (v, L1, vars) else none) = none; rw [if_neg (fun z => c1 z.1)]
theorem cx_isVar (c : Int32) : f_C_isVariable c = if px_given c = true then 0 else 1 := by
  unfold f_C_isVariable px_given
  rw [cx_isPlace]
  by_cases c1 : px_plc c = true
  · rw [if_pos c1, if_neg (by decide), if_pos (by rw [c1]; rfl)]
  · rw [if_neg c1, if_pos rfl]
    have c1' : px_plc c = false := by simpa using c1
    by_cases c2 : c = 116
    · rw [if_pos c2, if_pos (by rw [c2]; rfl)]
    · rw [if_neg c2]
      by_cases c3 : c = 99
      · rw [if_pos c3, if_pos (by rw [c3]; rfl)]
      · rw [if_neg c3, if_neg (by simp [c1', c2, c3])]
theorem cx_asg (hT : cx_T ch len) {at_ : Nat} {L : px_L} {tl : Bool} {F : ST_F} {A : ST_A} (hS : cx_S ch len vars at_ L tl F A) (ha : at_ ≤ len) : f_C_isAssignmentNext F A = some (if px_asg ch at_ = true then 1 else 0, F, A) ∧ (px_asg ch at_ = true → at_ + 1 < len ∧ px_small (ch at_) = true) := by
  have hl := hT.1
  have hasg : px_asg ch at_ = true ↔ px_small (ch at_) = true ∧ ch (at_ + 1) = 61 := by
    unfold px_asg
    simp
  unfold f_C_isAssignmentNext
  rw [hS.1, hS.2.1, ← nI_succ]
  by_cases c1 : len ≤ at_ + 1
  · have h0 := hT.2.1 (at_ + 1) c1
    have hn : ¬ px_asg ch at_ = true := fun z => by rw [hasg, h0] at z; exact absurd z.2 (by decide)
    rw [if_pos (nI_le c1 (by omega)), if_neg hn]
    exact ⟨rfl, fun z => absurd z hn⟩
  · rw [if_neg (nI_ge (by omega) (by omega)), ra_g_in (by omega) (by decide), nI_clamp (by omega), hS.2.2.2.2.2.1 _ (by omega), cx_isSmall, ra_g_in (by omega) (by decide), nI_clamp (by omega), hS.2.2.2.2.2.1 _ (by omega)]
    by_cases c2 : px_small (ch at_) = true
    · rw [if_pos c2, if_neg (by decide)]
      by_cases c3 : ch (at_ + 1) = 61
      · rw [if_pos c3, if_pos (hasg.mpr ⟨c2, c3⟩)]
        exact ⟨rfl, fun _ => ⟨by omega, c2⟩⟩
      · rw [if_neg c3, if_neg (fun z => c3 (hasg.mp z).2)]
        exact ⟨rfl, fun z => absurd (hasg.mp z).2 c3⟩
    · rw [if_neg c2, if_pos rfl, if_neg (fun z => c2 (hasg.mp z).1)]
      exact ⟨rfl, fun z => absurd (hasg.mp z).1 c2⟩
theorem cx_A.from {t0 t1 : Bool} {res : Option (Int32 × ST_F × ST_A)} {β : Type} {p : Option β} {x : β} {f : β → Option px_R} (hk : cx_k t0 t1 p (some x)) (h : cx_A ch len t1 res (f x)) : cx_A ch len t0 res (p.bind f) := by
  obtain ⟨q, F', A', h1, h2, h3, h4, h5⟩ := h
  refine ⟨q, F', A', h1, h2, h3, fun e => h4 (hk.1 e), fun e => ?_⟩
  rcases hk.2 e with ⟨e1, e2⟩ | ⟨e1, e2⟩
  · rw [e2]; exact h4 e1
  · rw [e2]; exact h5 e1
theorem cx_acc8 (hT : cx_T ch len) (x2 : Int32) : ∀ (m j n at_ : Nat) (vars : Nat → Option px_V) (L : px_L) (tl : Bool) (F : ST_F) (A : ST_A), j + m = 160 → m < n → cx_S ch len vars at_ L tl F A → at_ ≤ len → cx_A ch len tl (f_C_accepts_L8 n x2 (nI j) F A) (px_prog ch len m at_ vars L) := by
  have hl := hT.1
  intro m
  induction m with
  | zero =>
    intro j n at_ vars L tl F A hj hn hS ha
    obtain ⟨n, rfl⟩ : ∃ n', n = n' + 1 := ⟨n - 1, by omega⟩
    rw [f_C_accepts_L8, if_pos (show (160 : Int32) ≤ nI j from nI_le (a := 160) (by omega) (by omega))]
    exact cx_37 hT _ _ hS ha
  | succ m ih =>
    intro j n at_ vars L tl F A hj hn hS ha
    obtain ⟨n, rfl⟩ : ∃ n', n = n' + 1 := ⟨n - 1, by omega⟩
    obtain ⟨e1, e2⟩ := cx_asg hT hS ha
    rw [f_C_accepts_L8, if_neg (show ¬ (160 : Int32) ≤ nI j from nI_ge (b := 160) (by omega) (by omega)), e1, ra_bi_s, px_prog, ← nI_succ]
    by_cases c1 : px_asg ch at_ = true
    · obtain ⟨e3, e4⟩ := e2 c1
      rw [if_pos c1, if_neg (by decide), if_pos c1]
      unfold f_C_assignment
      rw [cx_next hT hS (by omega), ra_bi_s, cx_isVar]
      by_cases c2 : px_given (ch at_) = true
      · rw [if_pos c2, if_pos rfl, ra_bi_s, if_pos rfl, if_pos c2]
        exact cx_A.no (hS.go 2 (y := 2) rfl) (fun _ => rfl)
      · rw [if_neg c2, if_neg (by decide), if_neg c2]
        obtain ⟨q, at1, L1, t1, F1, A1, h1, h2, h3, h4, h5, h6⟩ := cx_sumD (vars := vars) hT 5 0 rfl (at_ + 2) L tl _ A (hS.go 2 (y := 2) rfl) (by omega)
        rw [nI_0] at h1
        rw [h1, ra_bi_s]
        cases q with
        | none =>
          rw [cx_vN, if_pos rfl, ra_bi_s, if_pos rfl]
          refine cx_A.no h2 (fun e => ?_)
          rcases h6.2 e with ⟨_, e⟩ | ⟨_, e⟩ <;> (rw [e]; rfl)
        | some v =>
          have hv := h5 v rfl
          have hk := hv.ok h2.2.2.2.2.1.1
          rw [cx_vS, if_neg (pv_ne hk)]
          refine cx_A.from h6 ?_
          rcases cx_takes hT h2 h3 (c := 59) (by decide) with ⟨g1, g2, F2, g3, g4⟩ | ⟨g1, g3⟩
          · obtain ⟨i1, i2⟩ := cx_ix e4
            rw [g3, ra_bi_s, if_neg (by decide), i1, ra_g_in i2 (by decide), nI_clamp (by omega), ra_bi_s, if_neg (by decide), if_pos g1]
            refine ih (j + 1) n (at1 + 1) (px_set vars (px_ix (ch at_)) v) L1 t1 F2 _ (by omega) (by omega) ?_ (by omega)
            obtain ⟨k0, k1, k2, k3, k4, k5, k6, k7, k8⟩ := g4
            refine ⟨k0, k1, k2, k3, k4, k5, k6, fun i hi => ?_, fun i w hw => ?_⟩
            · show upd (A1 0) (px_ix (ch at_)) (pv v) i = _
              unfold upd px_set
              by_cases hc : i = px_ix (ch at_)
              · rw [if_pos hc, if_pos hc]; rfl
              · rw [if_neg hc, if_neg hc]
                exact k7 i hi
            · unfold px_set at hw
              by_cases hc : i = px_ix (ch at_)
              · rw [if_pos hc] at hw
                cases hw
                exact hv
              · rw [if_neg hc] at hw
                exact k8 i w hw
          · rw [g3, ra_bi_s, if_pos rfl, ra_bi_s, if_pos rfl, if_neg g1]
            exact cx_A.no h2 (fun _ => rfl)
    · rw [if_neg c1, if_pos rfl, if_neg c1]
      exact cx_37 hT _ _ hS ha
theorem cx_start24 (x2 : Int32) (F : ST_F) : ∀ (m j n : Nat) (A : ST_A), j + m = 26 → m < n → ∃ A', f_C_start_L24 n x2 (nI j) F A = some (F, A') ∧ (∀ k, k ≠ 0 → A' k = A k) ∧ (∀ i, i < j → A' 0 i = A 0 i) ∧ ∀ i, j ≤ i → i < 26 → A' 0 i = -1 := by
  intro m
  induction m with
  | zero =>
    intro j n A hj hn
    obtain ⟨n, rfl⟩ : ∃ n', n = n' + 1 := ⟨n - 1, by omega⟩
    rw [f_C_start_L24, if_pos (show (26 : Int32) ≤ nI j from nI_le (a := 26) (by omega) (by omega))]
    exact ⟨A, rfl, fun _ _ => rfl, fun _ _ => rfl, fun i h1 h2 => by omega⟩
  | succ m ih =>
    intro j n A hj hn
    obtain ⟨n, rfl⟩ : ∃ n', n = n' + 1 := ⟨n - 1, by omega⟩
    rw [f_C_start_L24, if_neg (show ¬ (26 : Int32) ≤ nI j from nI_ge (b := 26) (by omega) (by omega)), ra_g_in (by omega) (by decide), nI_clamp (by omega), ← nI_succ]
    obtain ⟨A', h1, h2, h3, h4⟩ := ih (j + 1) n (va_up A 0 (upd (A 0) j (-1))) (by omega) (by omega)
    refine ⟨A', h1, fun k hk => ?_, fun i hi => ?_, fun i hi hi2 => ?_⟩
    · rw [h2 k hk]; show (if k = 0 then _ else A k) = A k; rw [if_neg hk]
    · rw [h3 i (by omega)]; show upd (A 0) j _ i = A 0 i; unfold upd; rw [if_neg (by omega)]
    · by_cases hij : i = j
      · rw [h3 i (by omega), hij]; show upd (A 0) j _ j = _; unfold upd; rw [if_pos rfl]
      · exact h4 i (by omega) hi2
/-- the class's compiler is the grammar -/
theorem cx_accepts (hT : cx_T ch len) (F : ST_F) (A : ST_A) (ht : ∀ k, k < len → A 1 k = ch k) : cx_A ch len false (f_C_accepts (nI len) F A) (px_prog ch len 160 0 (fun _ => none) []) := by
  unfold f_C_accepts f_C_start f_K_clear
  rw [ra_bv_s]
  obtain ⟨A', h1, h2, h3, h4⟩ := cx_start24 (nI len) (upd (upd (upd (upd F 0 (nI len)) 1 0) 2 0) 3 0) 26 0 400 A (by omega) (by omega)
  rw [nI_0] at h1
  rw [h1, ra_bv_s]
  exact cx_acc8 hT (nI len) 160 0 400 0 (fun _ => none) [] false _ A' (by omega) (by omega) ⟨rfl, rfl, rfl, rfl, ⟨by simp, fun k i h => by simp at h⟩, fun k hk => by rw [h2 1 (by decide)]; exact ht k hk, fun k i h => by simp at h, fun j hj => h4 j (Nat.zero_le _) hj, fun j v h => (nomatch h)⟩ (Nat.zero_le _)
end CX
