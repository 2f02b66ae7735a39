/-! the class's descent against the grammar -/
theorem px_args_pre {ch : Nat → Int32} {P : px_P} : ∀ (n : Nat) (acc : List px_V) (at_ : Nat) (L : px_L) (x : List px_V × Nat × px_L), px_args ch P n acc at_ L = some x → ∃ v t, x.1 = acc ++ v :: t := by
  intro n
  induction n with
  | zero => intro acc at_ L x h; cases h
  | succ n ih =>
    intro acc at_ L x h
    rw [px_args] at h
    cases hp : P at_ L with
    | none => rw [hp] at h; cases h
    | some r =>
      rw [hp, Option.bind_some] at h
      by_cases c1 : ch r.2.1 = 44
      · rw [if_pos c1] at h
        obtain ⟨v, t, e⟩ := ih _ _ _ _ h
        exact ⟨r.1, v :: t, by rw [e]; simp⟩
      · rw [if_neg c1] at h
        by_cases c2 : ch r.2.1 = 41
        · rw [if_pos c2] at h
          cases h
          exact ⟨r.1, [], rfl⟩
        · rw [if_neg c2] at h; cases h
theorem px_fn_one {f : Int32} (h : f = 65 ∨ f = 70) (a b : px_V) (t : List px_V) (L : px_L) : px_fn f (a :: b :: t) L = none := by
  cases t with
  | nil => rcases h with rfl | rfl <;> rfl
  | cons c t => rcases h with rfl | rfl <;> rfl
theorem px_fn_two1 {f : Int32} (h : f ≠ 86 ∧ f ≠ 65 ∧ f ≠ 70) (a : px_V) (L : px_L) : px_fn f [a] L = none := by
  unfold px_fn
  rw [if_neg h.1]
  show (if f = 65 then px_each 10 a L else if f = 70 then px_each 11 a L else none) = none
  rw [if_neg h.2.1, if_neg h.2.2]
theorem px_fn_two3 {f : Int32} (h : f ≠ 86) (a b c : px_V) (t : List px_V) (L : px_L) : px_fn f (a :: b :: c :: t) L = none := by
  unfold px_fn
  rw [if_neg h]
/-- the grammar behind the first argument -/
def px_tail (ch : Nat → Int32) (P : px_P) (n : Nat) (acc : List px_V) (at_ : Nat) (L : px_L) : Option (List px_V × Nat × px_L) := if ch at_ = 44 then px_args ch P n acc (at_ + 1) L else if ch at_ = 41 then some (acc, at_ + 1, L) else none
def px_call (f : Int32) (r : List px_V × Nat × px_L) : Option (px_V × Nat × px_L) := (px_fn f r.1 r.2.2).bind fun q => some (q.1, r.2.1, q.2)
section CX
variable {ch : Nat → Int32} {len : Nat} {vars : Nat → Option px_V}
def cx_I (ch : Nat → Int32) (len : Nat) (vars : Nat → Option px_V) (f : ST_F → ST_A → Option (Int32 × ST_F × ST_A)) (P : px_P) : Prop := ∀ (at_ : Nat) (L : px_L) (tl : Bool) (F : ST_F) (A : ST_A), cx_S ch len vars at_ L tl F A → at_ ≤ len → cx_O ch len vars L tl (f F A) (P at_ L)
variable {inner : Int32 → ST_F → ST_A → Option (Int32 × ST_F × ST_A)} {P : px_P}
theorem cx_J87 (hT : cx_T ch len) {at_ : Nat} {L : px_L} {tl : Bool} {F : ST_F} {A : ST_A} (hS : cx_S ch len vars at_ L tl F A) (ha : at_ ≤ len + 1) {q : Option px_V} (hq : ∀ v, q = some v → cx_o L v) (x1 x2 : Int32) : cx_O ch len vars L tl (f_C_part_J87 inner x1 x2 (cx_v q) F A) (if ch at_ = 41 then q.map (fun v => (v, at_ + 1, L)) else none) := by
  unfold f_C_part_J87
  rcases cx_takes hT hS ha (c := 41) (by decide) with ⟨e1, e2, F2, e3, e4⟩ | ⟨e1, e3⟩
  · rw [e3, ra_bi_s, if_neg (by decide), if_pos e1]
    cases q with
    | none => exact cx_O.no e4 (by omega)
    | some v => exact cx_O.yes e4 (by omega) (hq v rfl)
  · rw [e3, ra_bi_s, if_pos rfl, if_neg e1]
    exact cx_O.no hS ha
/-- an operation and the closing bracket -/
theorem cx_op87 (hT : cx_T ch len) {at_ : Nat} {L : px_L} {tl : Bool} {res : Option (Int32 × ST_F × ST_A)} {p : Option (px_V × px_L)} (h : cx_Q ch len vars at_ L tl res p) (ha : at_ ≤ len + 1) (x1 x2 : Int32) : cx_O ch len vars L tl (ra_bi res (fun r F A => f_C_part_J86 inner x1 x2 r F A)) (if ch at_ = 41 then p.bind fun q => some (q.1, at_ + 1, q.2) else none) := by
  by_cases c : ch at_ = 41
  · rw [if_pos c]
    refine h.seq (fun q L' tl' F' A' h1 h2 h3 => ?_)
    have := cx_J87 (inner := inner) hT h1 ha h3 x1 x2
    rw [if_pos c] at this
    refine this.cast ?_
    cases q <;> rfl
  · rw [if_neg c]
    have := h.seq (f := fun _ => none) (k := fun r F A => f_C_part_J86 inner x1 x2 r F A) (fun q L' tl' F' A' h1 h2 h3 => by
      have := cx_J87 (inner := inner) hT h1 ha h3 x1 x2
      rw [if_neg c] at this
      refine this.cast ?_
      cases q <;> rfl)
    refine this.cast ?_
    cases p <;> rfl
theorem cx_Q.noS {at_ : Nat} {L : px_L} {tl : Bool} {F : ST_F} {A : ST_A} (h : cx_S ch len vars at_ L tl F A) {res : Option (Int32 × ST_F × ST_A)} (e : res = some (-1, F, A)) : cx_Q ch len vars at_ L tl res none := by rw [e]; exact cx_Q.no h
theorem cx_fn1 (hT : cx_T ch len) {u : Nat} (hin : cx_I ch len vars (inner (nI (u + 1))) P) {f : Int32} (hf : f = 65 ∨ f = 70) {t : Nat} (ht : 2 ≤ t) (ht' : t ≤ 11) (hpf : ∀ v L, px_fn f [v] L = px_each (nI t) v L) {at_ : Nat} {L : px_L} {tl : Bool} {F : ST_F} {A : ST_A} (hS : cx_S ch len vars at_ L tl F A) (ha : at_ ≤ len) (x1 x2 : Int32) (n : Nat) :
    cx_O ch len vars L tl (ra_bi (ra_bi (inner (nI (u + 1)) F A) (fun r F A => ra_bi (f_C_each (nI t) r F A) (fun r F A => some (r, F, A)))) (fun r F A => f_C_part_J86 inner x1 x2 r F A)) ((px_args ch P (n + 1) [] at_ L).bind (px_call f)) := by
  have hbi : ∀ (g : Option (Int32 × ST_F × ST_A)), ra_bi g (fun r F A => some (r, F, A)) = g := fun g => by cases g <;> rfl
  have hbb : ∀ (g : Option (Int32 × ST_F × ST_A)) (k1 k2 : Int32 → ST_F → ST_A → Option (Int32 × ST_F × ST_A)), ra_bi (ra_bi g k1) k2 = ra_bi g (fun r F A => ra_bi (k1 r F A) k2) := fun g k1 k2 => by cases g <;> rfl
  simp only [hbi]
  rw [hbb, px_args]
  refine cx_O.cast ((hin at_ L tl F A hS ha).seq (f := fun r => (px_tail ch P n [r.1] r.2.1 r.2.2).bind (px_call f)) (fun q at1 L1 t1 F1 A1 h1 h2 h3 h4 => ?_)) (by
    cases P at_ L with
    | none => rfl
    | some r => rfl)
  cases q with
  | none =>
    have := cx_op87 (inner := inner) hT (cx_Q.noS h1 (cx_eachN (nI t) F1 A1)) h2 x1 x2
    refine this.cast ?_
    show none = _
    by_cases c : ch at1 = 41
    · rw [if_pos c]; rfl
    · rw [if_neg c]
  | some v =>
    have := cx_op87 (inner := inner) hT (cx_each h1 ht ht' (h4 v rfl)) h2 x1 x2
    refine this.cast ?_
    show (px_tail ch P n [v] at1 L1).bind (px_call f) = _
    unfold px_tail
    by_cases c1 : ch at1 = 44
    · rw [if_pos c1, if_neg (by rw [c1]; decide)]
      cases ha : px_args ch P n [v] (at1 + 1) L1 with
      | none => rfl
      | some x =>
        obtain ⟨w, t, e⟩ := px_args_pre _ _ _ _ _ ha
        show (px_fn f x.1 x.2.2).bind _ = none
        rw [e]
        show (px_fn f (v :: w :: t) x.2.2).bind _ = none
        rw [px_fn_one hf]
        rfl
    · rw [if_neg c1]
      by_cases c2 : ch at1 = 41
      · rw [if_pos c2, if_pos c2]
        show (px_fn f [v] L1).bind _ = _
        rw [hpf]
      · rw [if_neg c2, if_neg c2]
        rfl
theorem cx_J39N (inner : Int32 → ST_F → ST_A → Option (Int32 × ST_F × ST_A)) (x1 x3 : Int32) (F : ST_F) (A : ST_A) : f_C_vector_J39 inner x1 (-1) x3 F A = some (-1, F, A) := by
  unfold f_C_vector_J39
  rw [if_pos rfl]
/-- V goes on behind a wrong argument -/
theorem cx_vecN (hT : cx_T ch len) {u : Nat} (hin : cx_I ch len vars (inner (nI (u + 1))) P) (x1 x2 : Int32) : ∀ (m j n at_ : Nat) (L : px_L) (tl : Bool) (F : ST_F) (A : ST_A), j + m = 2 → m < n → cx_S ch len vars at_ L tl F A → at_ ≤ len + 1 → cx_O ch len vars L tl (ra_bi (f_C_vector_L8 inner n (nI (u + 1)) (-1) (nI j) F A) (fun r F A => f_C_part_J86 inner x1 x2 r F A)) none := by
  have hbb : ∀ (g : Option (Int32 × ST_F × ST_A)) (k1 k2 : Int32 → ST_F → ST_A → Option (Int32 × ST_F × ST_A)), ra_bi (ra_bi g k1) k2 = ra_bi g (fun r F A => ra_bi (k1 r F A) k2) := fun g k1 k2 => by cases g <;> rfl
  have h39 : ∀ (at_ : Nat) (L : px_L) (tl : Bool) (F : ST_F) (A : ST_A) (x3 : Int32), cx_S ch len vars at_ L tl F A → at_ ≤ len + 1 → cx_O ch len vars L tl (ra_bi (f_C_vector_J39 inner (nI (u + 1)) (-1) x3 F A) (fun r F A => f_C_part_J86 inner x1 x2 r F A)) none := by
    intro at_ L tl F A x3 hS ha
    have := cx_op87 (inner := inner) hT (cx_Q.noS hS (cx_J39N inner (nI (u + 1)) x3 F A)) ha x1 x2
    refine this.cast ?_
    by_cases c : ch at_ = 41
    · rw [if_pos c]; rfl
    · rw [if_neg c]
  intro m
  induction m with
  | zero =>
    intro j n at_ L tl F A hj hn hS ha
    obtain ⟨n, rfl⟩ : ∃ n', n = n' + 1 := ⟨n - 1, by omega⟩
    rw [f_C_vector_L8, if_pos (show (2 : Int32) ≤ nI j from nI_le (a := 2) (by omega) (by omega))]
    exact h39 at_ L tl F A (nI j) hS ha
  | succ m ih =>
    intro j n at_ L tl F A hj hn hS ha
    obtain ⟨n, rfl⟩ : ∃ n', n = n' + 1 := ⟨n - 1, by omega⟩
    rw [f_C_vector_L8, if_neg (show ¬ (2 : Int32) ≤ nI j from nI_ge (b := 2) (by omega) (by omega))]
    rcases cx_takes hT hS ha (c := 44) (by decide) with ⟨e1, e2, F2, e3, e4⟩ | ⟨e1, e3⟩
    · rw [e3, ra_bi_s, if_neg (by decide), hbb]
      refine cx_O.cast ((hin (at_ + 1) L tl F2 A e4 (by omega)).seq (f := fun _ => none) (fun q at1 L1 t1 F1 A1 h1 h2 h3 h4 => ?_)) (by cases P (at_ + 1) L <;> rfl)
      rw [cx_joinedN1, ra_bi_s, ← nI_succ]
      refine (ih (j + 1) n at1 L1 t1 F1 A1 (by omega) (by omega) h1 h2).cast ?_
      cases q <;> rfl
    · rw [e3, ra_bi_s, if_pos rfl]
      exact h39 at_ L tl F A (nI j) hS ha
theorem px_join_over {x : List px_V} {L : px_L} (h : 3 < x.length ∨ 3 < x.flatten.length) : px_join x L = none := by
  unfold px_join
  rw [if_neg (fun z => by rcases h with h | h <;> omega)]
theorem cx_vec (hT : cx_T ch len) {u : Nat} (hin : cx_I ch len vars (inner (nI (u + 1))) P) (x1 x2 : Int32) : ∀ (m j n k at_ : Nat) (acc : List px_V) (L : px_L) (tl : Bool) (F : ST_F) (A : ST_A), j + m = 2 → m < n → m < k → acc.length = j + 1 → acc.flatten.length ≤ 4 → (j ≠ 0 → acc.flatten.length ≤ 3) → cx_o L acc.flatten → cx_S ch len vars at_ L tl F A → at_ ≤ len + 1 →
    cx_O ch len vars L tl (ra_bi (f_C_vector_L8 inner n (nI (u + 1)) (pv acc.flatten) (nI j) F A) (fun r F A => f_C_part_J86 inner x1 x2 r F A)) ((px_tail ch P k acc at_ L).bind (px_call 86)) := by
  have hbb : ∀ (g : Option (Int32 × ST_F × ST_A)) (k1 k2 : Int32 → ST_F → ST_A → Option (Int32 × ST_F × ST_A)), ra_bi (ra_bi g k1) k2 = ra_bi g (fun r F A => ra_bi (k1 r F A) k2) := fun g k1 k2 => by cases g <;> rfl
  have h39 : ∀ (k at_ : Nat) (acc : List px_V) (L : px_L) (tl : Bool) (F : ST_F) (A : ST_A) (x3 : Int32), acc.length ≤ 3 → cx_o L acc.flatten → (ch at_ = 44 → 3 ≤ acc.length) → cx_S ch len vars at_ L tl F A → at_ ≤ len + 1 → cx_O ch len vars L tl (ra_bi (f_C_vector_J39 inner (nI (u + 1)) (pv acc.flatten) x3 F A) (fun r F A => f_C_part_J86 inner x1 x2 r F A)) ((px_tail ch P k acc at_ L).bind (px_call 86)) := by
    intro k at_ acc L tl F A x3 hl ho hc hS ha
    have hk := ho.ok hS.2.2.2.2.1.1
    have h4 := hk.2.1
    have h1 := hk.1
    have hQ : cx_Q ch len vars at_ L tl (f_C_vector_J39 inner (nI (u + 1)) (pv acc.flatten) x3 F A) (px_fn 86 acc L) := by
      unfold f_C_vector_J39
      rw [if_neg (pv_ne hk), cx_type hk]
      show cx_Q ch len vars at_ L tl _ (px_join acc L)
      unfold px_join
      by_cases c1 : acc.flatten.length = 1
      · rw [if_pos (by rw [c1]; rfl), if_neg (by omega)]
        exact cx_Q.no hS
      · rw [if_neg (c := nI acc.flatten.length = (1 : Int32)) (fun z => c1 ((nI_eqI (b := 1) (by omega) (by omega)).mp z))]
        by_cases c2 : acc.flatten.length = 4
        · rw [if_pos (by rw [c2]; rfl), if_neg (by omega)]
          exact cx_Q.no hS
        · rw [if_neg (c := nI acc.flatten.length = (4 : Int32)) (fun z => c2 ((nI_eqI (b := 4) (by omega) (by omega)).mp z)), if_pos (by omega)]
          exact cx_Q.yes hS ho
    refine (cx_op87 (inner := inner) hT hQ ha x1 x2).cast ?_
    unfold px_tail
    by_cases c1 : ch at_ = 44
    · rw [if_pos c1, if_neg (by rw [c1]; decide)]
      cases ha : px_args ch P k acc (at_ + 1) L with
      | none => rfl
      | some x =>
        obtain ⟨w, t, e⟩ := px_args_pre _ _ _ _ _ ha
        show (px_join x.1 x.2.2).bind _ = none
        rw [px_join_over (Or.inl (by rw [e, List.length_append, List.length_cons]; have := hc c1; omega))]
        rfl
    · rw [if_neg c1]
      by_cases c2 : ch at_ = 41
      · rw [if_pos c2, if_pos c2]
        rfl
      · rw [if_neg c2, if_neg c2]
        rfl
  intro m
  induction m with
  | zero =>
    intro j n k at_ acc L tl F A hj hn hk hl hf hf2 ho hS ha
    obtain ⟨n, rfl⟩ : ∃ n', n = n' + 1 := ⟨n - 1, by omega⟩
    rw [f_C_vector_L8, if_pos (show (2 : Int32) ≤ nI j from nI_le (a := 2) (by omega) (by omega))]
    exact h39 k at_ acc L tl F A (nI j) (by omega) ho (fun _ => by omega) hS ha
  | succ m ih =>
    intro j n k at_ acc L tl F A hj hn hk hl hf hf2 ho hS ha
    obtain ⟨n, rfl⟩ : ∃ n', n = n' + 1 := ⟨n - 1, by omega⟩
    obtain ⟨k, rfl⟩ : ∃ k', k = k' + 1 := ⟨k - 1, by omega⟩
    rw [f_C_vector_L8, if_neg (show ¬ (2 : Int32) ≤ nI j from nI_ge (b := 2) (by omega) (by omega))]
    rcases cx_takes hT hS ha (c := 44) (by decide) with ⟨e1, e2, F2, e3, e4⟩ | ⟨e1, e3⟩
    · rw [e3, ra_bi_s, if_neg (by decide), hbb]
      refine cx_O.cast ((hin (at_ + 1) L tl F2 A e4 (by omega)).seq (f := fun r => (px_tail ch P k (acc ++ [r.1]) r.2.1 r.2.2).bind (px_call 86)) (fun q at1 L1 t1 F1 A1 h1 h2 h3 h4 => ?_)) (by
        unfold px_tail
        rw [if_pos e1, px_args]
        cases P (at_ + 1) L <;> rfl)
      cases q with
      | none =>
        show cx_O ch len vars L1 t1 (ra_bi (ra_bi (f_C_joined (pv acc.flatten) (-1) F1 A1) _) _) none
        rw [cx_joinedN2, ra_bi_s, ← nI_succ]
        exact cx_vecN hT hin x1 x2 m (j + 1) n at1 L1 t1 F1 A1 (by omega) (by omega) h1 h2
      | some v =>
        show cx_O ch len vars L1 t1 (ra_bi (ra_bi (f_C_joined (pv acc.flatten) (pv v) F1 A1) _) _) ((px_tail ch P k (acc ++ [v]) at1 L1).bind (px_call 86))
        have hv := h4 v rfl
        have ho' := ho.mono h3
        have hfl : (acc ++ [v]).flatten = acc.flatten ++ v := by simp
        rw [cx_joined h1 ho' hv, ← nI_succ]
        by_cases c : acc.flatten.length + v.length ≤ 3
        · rw [if_pos c, ra_bi_s, ← hfl]
          exact ih (j + 1) n k at1 (acc ++ [v]) L1 t1 F1 A1 (by omega) (by omega) (by omega) (by rw [List.length_append, hl]; rfl) (by rw [hfl, List.length_append]; omega) (fun _ => by rw [hfl, List.length_append]; omega) (by rw [hfl]; exact cx_app ho' hv (by omega)) h1 h2
        · rw [if_neg c, ra_bi_s]
          refine (cx_vecN hT hin x1 x2 m (j + 1) n at1 L1 t1 F1 A1 (by omega) (by omega) h1 h2).cast ?_
          unfold px_tail
          by_cases c1 : ch at1 = 44
          · rw [if_pos c1]
            cases ha : px_args ch P k (acc ++ [v]) (at1 + 1) L1 with
            | none => rfl
            | some x =>
              obtain ⟨w, t, e⟩ := px_args_pre _ _ _ _ _ ha
              show (px_join x.1 x.2.2).bind _ = none
              rw [px_join_over (Or.inr (by rw [e, List.flatten_append, hfl, List.length_append, List.length_append]; omega))]
              rfl
          · rw [if_neg c1]
            by_cases c2 : ch at1 = 41
            · rw [if_pos c2]
              show (px_join (acc ++ [v]) L1).bind _ = none
              rw [px_join_over (Or.inr (by rw [hfl, List.length_append]; omega))]
              rfl
            · rw [if_neg c2]
              rfl
    · rw [e3, ra_bi_s, if_pos rfl]
      exact h39 (k + 1) at_ acc L tl F A (nI j) (by omega) ho (fun z => absurd z e1) hS ha
/-- functions of two -/
theorem cx_J24 {at_ : Nat} {L : px_L} {tl : Bool} {F : ST_F} {A : ST_A} (hS : cx_S ch len vars at_ L tl F A) {f : Int32} (hf : f ≠ 86 ∧ f ≠ 65 ∧ f ≠ 70) {q1 q2 : Option px_V} (h1 : ∀ v, q1 = some v → cx_o L v) (h2 : ∀ v, q2 = some v → cx_o L v) (x2 : Int32) : cx_Q ch len vars at_ L tl (f_C_functionOfTwo_J24 inner f x2 (cx_v q1) (cx_v q2) F A) (q1.bind fun a => q2.bind fun b => px_fn f [a, b] L) := by
  have hbi : ∀ (g : Option (Int32 × ST_F × ST_A)), ra_bi g (fun r F A => some (r, F, A)) = g := fun g => by cases g <;> rfl
  unfold f_C_functionOfTwo_J24
  simp only [hbi]
  have hp : ∀ t : Nat, 2 ≤ t → t ≤ 11 → cx_Q ch len vars at_ L tl (f_C_pairwise (nI t) (cx_v q1) (cx_v q2) F A) (q1.bind fun a => q2.bind fun b => px_pair (nI t) a b L) := by
    intro t ht ht'
    cases q1 with
    | none => exact cx_Q.noS hS (cx_pairN1 _ _ F A)
    | some a =>
      cases q2 with
      | none => exact cx_Q.noS hS (cx_pairN2 _ _ F A)
      | some b => exact cx_pair hS ht ht' (h1 a rfl) (h2 b rfl)
  have e : ∀ a b, px_fn f [a, b] L = if f = 78 then px_pair 6 a b L else if f = 88 then px_pair 7 a b L else if f = 83 then px_pair 8 a b L else if f = 68 then px_dot a b L
        else if f = 77 then (if a.length = 2 ∧ b.length = 2 then some (a ++ b, L) else none) else none := fun a b => by
    unfold px_fn
    rw [if_neg hf.1]
  simp only [e]
  by_cases c1 : f = 68
  · subst c1
    show cx_Q ch len vars at_ L tl (f_C_dotted (cx_v q1) (cx_v q2) F A) (q1.bind fun a => q2.bind fun b => px_dot a b L)
    cases q1 with
    | none => exact cx_Q.noS hS (cx_dotN1 _ F A)
    | some a =>
      cases q2 with
      | none => exact cx_Q.noS hS (cx_dotN2 _ F A)
      | some b => exact cx_dot hS (h1 a rfl) (h2 b rfl)
  · rw [if_neg c1]
    by_cases c2 : f = 77
    · subst c2
      show cx_Q ch len vars at_ L tl (f_C_matrix (cx_v q1) (cx_v q2) F A) (q1.bind fun a => q2.bind fun b => if a.length = 2 ∧ b.length = 2 then some (a ++ b, L) else none)
      cases q1 with
      | none => exact cx_Q.noS hS (cx_matrixN1 _ F A)
      | some a =>
        cases q2 with
        | none => exact cx_Q.noS hS (cx_matrixN2 _ F A)
        | some b => exact cx_matrix hS (h1 a rfl) (h2 b rfl)
    · rw [if_neg c2]
      by_cases c3 : f = 78
      · subst c3
        exact hp 6 (by decide) (by decide)
      · rw [if_neg c3]
        by_cases c4 : f = 83
        · subst c4
          exact hp 8 (by decide) (by decide)
        · rw [if_neg c4]
          by_cases c5 : f = 88
          · subst c5
            exact hp 7 (by decide) (by decide)
          · rw [if_neg c5]
            have e2 : (q1.bind fun a => q2.bind fun b => if f = 78 then px_pair 6 a b L else if f = 88 then px_pair 7 a b L else if f = 83 then px_pair 8 a b L else if f = 68 then px_dot a b L
        else if f = 77 then (if a.length = 2 ∧ b.length = 2 then some (a ++ b, L) else none) else none) = none := by
              simp only [if_neg c1, if_neg c2, if_neg c3, if_neg c4, if_neg c5]
              cases q1 <;> cases q2 <;> rfl
            rw [e2]
            exact cx_Q.no hS
theorem cx_fn2 (hT : cx_T ch len) {u : Nat} (hin : cx_I ch len vars (inner (nI (u + 1))) P) {f : Int32} (hf : f ≠ 86 ∧ f ≠ 65 ∧ f ≠ 70) {at_ : Nat} {L : px_L} {tl : Bool} {F : ST_F} {A : ST_A} (hS : cx_S ch len vars at_ L tl F A) (ha : at_ ≤ len) (x1 x2 : Int32) (n : Nat) :
    cx_O ch len vars L tl (ra_bi (f_C_functionOfTwo inner f (nI (u + 1)) F A) (fun r F A => f_C_part_J86 inner x1 x2 r F A)) ((px_args ch P (n + 2) [] at_ L).bind (px_call f)) := by
  have hbb : ∀ (g : Option (Int32 × ST_F × ST_A)) (k1 k2 : Int32 → ST_F → ST_A → Option (Int32 × ST_F × ST_A)), ra_bi (ra_bi g k1) k2 = ra_bi g (fun r F A => ra_bi (k1 r F A) k2) := fun g k1 k2 => by cases g <;> rfl
  unfold f_C_functionOfTwo
  rw [hbb, px_args]
  refine cx_O.cast ((hin at_ L tl F A hS ha).seq (f := fun r => (px_tail ch P (n + 1) [r.1] r.2.1 r.2.2).bind (px_call f)) (fun q at1 L1 t1 F1 A1 h1 h2 h3 h4 => ?_)) (by
    cases P at_ L with
    | none => rfl
    | some r => rfl)
  rcases cx_takes hT h1 h2 (c := 44) (by decide) with ⟨e1, e2, F2, e3, e4⟩ | ⟨e1, e3⟩
  · rw [e3, ra_bi_s, if_neg (by decide), hbb]
    refine cx_O.cast ((hin (at1 + 1) L1 t1 F2 A1 e4 (by omega)).seq (f := fun s => q.bind fun a => (px_tail ch P n [a, s.1] s.2.1 s.2.2).bind (px_call f)) (fun q2 at2 L2 t2 F2 A2 g1 g2 g3 g4 => ?_)) ?_
    · refine (cx_op87 (inner := inner) hT (cx_J24 (inner := inner) g1 hf (q1 := q) (q2 := q2) (fun v e => (h4 v e).mono g3) g4 (nI (u + 1))) g2 x1 x2).cast ?_
      cases q with
      | none => cases q2 <;> (by_cases c : ch at2 = 41 <;> simp [c])
      | some a =>
        cases q2 with
        | none => by_cases c : ch at2 = 41 <;> simp [c]
        | some b =>
          show (px_tail ch P n [a, b] at2 L2).bind (px_call f) = _
          unfold px_tail
          by_cases c1 : ch at2 = 44
          · rw [if_pos c1, if_neg (by rw [c1]; decide)]
            cases ha : px_args ch P n [a, b] (at2 + 1) L2 with
            | none => rfl
            | some x =>
              obtain ⟨w, t, e⟩ := px_args_pre _ _ _ _ _ ha
              show (px_fn f x.1 x.2.2).bind _ = none
              rw [e]
              show (px_fn f (a :: b :: w :: t) x.2.2).bind _ = none
              rw [px_fn_two3 hf.1]
              rfl
          · rw [if_neg c1]
            by_cases c2 : ch at2 = 41
            · rw [if_pos c2, if_pos c2]
              rfl
            · rw [if_neg c2, if_neg c2]
              rfl
    · cases q with
      | none => cases P (at1 + 1) L1 <;> rfl
      | some a =>
        show (px_tail ch P (n + 1) [a] at1 L1).bind (px_call f) = _
        unfold px_tail
        rw [if_pos e1, px_args]
        cases P (at1 + 1) L1 <;> rfl
  · rw [e3, ra_bi_s, if_pos rfl]
    refine (cx_op87 (inner := inner) hT (cx_J24 (inner := inner) h1 hf (q1 := q) (q2 := none) h4 (fun v e => (nomatch e)) (nI (u + 1))) h2 x1 x2).cast ?_
    cases q with
    | none => by_cases c : ch at1 = 41 <;> simp [c]
    | some a =>
      show (px_tail ch P (n + 1) [a] at1 L1).bind (px_call f) = _
      unfold px_tail
      rw [if_neg e1]
      by_cases c2 : ch at1 = 41
      · rw [if_pos c2, if_pos c2]
        show (px_fn f [a] L1).bind _ = _
        rw [px_fn_two1 hf]
        rfl
      · rw [if_neg c2, if_neg c2]
        rfl
/-- any function -/
theorem cx_fn (hT : cx_T ch len) {u : Nat} (hin : cx_I ch len vars (inner (nI (u + 1))) P) (f : Int32) {at_ : Nat} {L : px_L} {tl : Bool} {F : ST_F} {A : ST_A} (hS : cx_S ch len vars at_ L tl F A) (ha : at_ ≤ len) (x1 x2 : Int32) :
    cx_O ch len vars L tl (ra_bi (f_C_function inner f (nI (u + 1)) F A) (fun r F A => f_C_part_J86 inner x1 x2 r F A)) (if px_isfn f = true then (px_args ch P 161 [] at_ L).bind (px_call f) else none) := by
  have hbi : ∀ (g : Option (Int32 × ST_F × ST_A)), ra_bi g (fun r F A => some (r, F, A)) = g := fun g => by cases g <;> rfl
  have hbb : ∀ (g : Option (Int32 × ST_F × ST_A)) (k1 k2 : Int32 → ST_F → ST_A → Option (Int32 × ST_F × ST_A)), ra_bi (ra_bi g k1) k2 = ra_bi g (fun r F A => ra_bi (k1 r F A) k2) := fun g k1 k2 => by cases g <;> rfl
  unfold f_C_function
  by_cases c1 : f = 65
  · rw [if_pos c1, if_pos (by rw [c1]; rfl)]
    exact cx_fn1 hT hin (Or.inl c1) (t := 10) (by decide) (by decide) (fun v L => by rw [c1]; rfl) hS ha x1 x2 160
  · rw [if_neg c1]
    by_cases c2 : f = 70
    · rw [if_pos c2, if_pos (by rw [c2]; rfl)]
      exact cx_fn1 hT hin (Or.inr c2) (t := 11) (by decide) (by decide) (fun v L => by rw [c2]; rfl) hS ha x1 x2 160
    · rw [if_neg c2]
      by_cases c3 : f = 86
      · rw [if_pos c3, if_pos (by rw [c3]; rfl), hbi, c3]
        unfold f_C_vector
        rw [hbb, px_args]
        refine cx_O.cast ((hin at_ L tl F A hS ha).seq (f := fun r => (px_tail ch P 160 [r.1] r.2.1 r.2.2).bind (px_call 86)) (fun q at1 L1 t1 F1 A1 h1 h2 h3 h4 => ?_)) (by
          cases P at_ L with
          | none => rfl
          | some r => rfl)
        cases q with
        | none => exact cx_vecN hT hin x1 x2 2 0 400 at1 L1 t1 F1 A1 (by omega) (by omega) h1 h2
        | some v =>
          have hv := h4 v rfl
          have hfl : [v].flatten = v := by simp
          have := cx_vec hT hin x1 x2 2 0 400 160 at1 [v] L1 t1 F1 A1 (by omega) (by omega) (by omega) rfl (by rw [hfl]; exact hv.2.1) (fun h => absurd rfl h) (by rw [hfl]; exact hv) h1 h2
          rw [hfl] at this
          exact this
      · rw [if_neg c3, hbi]
        have := cx_fn2 hT hin (f := f) ⟨c3, c1, c2⟩ hS ha x1 x2 159
        by_cases c4 : px_isfn f = true
        · rw [if_pos c4]; exact this
        · rw [if_neg c4]
          refine this.cast ?_
          cases px_args ch P (159 + 2) [] at_ L with
          | none => rfl
          | some x =>
            show none = (px_fn f x.1 x.2.2).bind _
            have e : px_fn f x.1 x.2.2 = none := by
              have hne : f ≠ 78 ∧ f ≠ 88 ∧ f ≠ 83 ∧ f ≠ 68 ∧ f ≠ 77 := by
                unfold px_isfn at c4
                simp at c4
                exact ⟨c4.1.1.1.1.1.2, c4.1.1.1.1.2, c4.1.1.1.2, c4.1.1.2, c4.2⟩
              unfold px_fn
              rw [if_neg c3]
              split
              · rw [if_neg c1, if_neg c2]
              · rw [if_neg hne.1, if_neg hne.2.1, if_neg hne.2.2.1, if_neg hne.2.2.2.1, if_neg hne.2.2.2.2]
              · rfl
            rw [e]
            rfl
end CX
