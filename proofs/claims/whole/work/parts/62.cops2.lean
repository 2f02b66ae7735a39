/-! the class's operations against the grammar's -/
theorem ra_bi_s {ρ : Type} (r : Int32) (F : ST_F) (A : ST_A) (k : Int32 → ST_F → ST_A → Option ρ) : ra_bi (some (r, F, A)) k = k r F A := rfl
theorem ra_bv_s {ρ : Type} (F : ST_F) (A : ST_A) (k : ST_F → ST_A → Option ρ) : ra_bv (some (F, A)) k = k F A := rfl
section CX
variable {ch : Nat → Int32} {len : Nat} {vars : Nat → Option px_V}
def cx_Q (ch : Nat → Int32) (len : Nat) (vars : Nat → Option px_V) (at_ : Nat) (L : px_L) (tl : Bool) (res : Option (Int32 × ST_F × ST_A)) (p : Option (px_V × px_L)) : Prop :=
  ∃ q L' tl' F' A', res = some (cx_v q, F', A') ∧ cx_S ch len vars at_ L' tl' F' A' ∧ L.length ≤ L'.length ∧ (∀ v, q = some v → cx_o L' v) ∧ cx_k tl tl' p (q.map fun v => (v, L'))
theorem cx_Q.from {at_ : Nat} {L L' : px_L} {tl tl' : Bool} {res : Option (Int32 × ST_F × ST_A)} {p : Option (px_V × px_L)} {β : Type} {p0 : Option β} {x : β} {f : β → Option (px_V × px_L)} (hk : cx_k tl tl' p0 (some x)) (hle : L.length ≤ L'.length) (hQ : cx_Q ch len vars at_ L' tl' res (f x)) (e : p = p0.bind f) : cx_Q ch len vars at_ L tl res p := by
  obtain ⟨q, L2, t2, F2, A2, h1, h2, h3, h4, h5⟩ := hQ
  exact ⟨q, L2, t2, F2, A2, h1, h2, Nat.le_trans hle h3, h4, by rw [e]; exact hk.bind h5⟩
theorem cx_Q.no {at_ : Nat} {L : px_L} {tl : Bool} {F : ST_F} {A : ST_A} (h : cx_S ch len vars at_ L tl F A) : cx_Q ch len vars at_ L tl (some (-1, F, A)) none :=
  ⟨none, L, tl, F, A, rfl, h, Nat.le_refl _, fun v e => (nomatch e), cx_k.rf⟩
theorem cx_Q.yes {at_ : Nat} {L : px_L} {tl : Bool} {F : ST_F} {A : ST_A} (h : cx_S ch len vars at_ L tl F A) {v : px_V} (hv : cx_o L v) : cx_Q ch len vars at_ L tl (some (pv v, F, A)) (some (v, L)) :=
  ⟨some v, L, tl, F, A, rfl, h, Nat.le_refl _, fun v e => by cases e; exact hv, cx_k.rf⟩
theorem cx_type {v : px_V} (h : pv_ok v) : f_V_typeIn (pv v) = nI v.length := pv_type h
theorem cx_num {v : px_V} (h : pv_ok v) {i : Nat} (hi : i < 4) : f_V_number (pv v) (nI i) = nI (v.getD i 0) := pv_num h hi
theorem cx_sp {v : px_V} (h : pv_ok v) {i : Nat} (hi : i < 4) : f_V_spread (pv v) (nI i) = px_sp v i := by
  unfold f_V_spread px_sp px_at
  rw [cx_type h, show (1 : Int32) = nI 1 from rfl, show (0 : Int32) = nI 0 from rfl]
  have := h.2.1
  by_cases c : v.length = 1
  · rw [if_pos ((nI_eqI (by omega) (by omega)).mpr c), if_pos c, cx_num h (by omega)]
  · rw [if_neg (fun z => c ((nI_eqI (by omega) (by omega)).mp z)), if_neg c, cx_num h hi]
theorem cx_loop {at_ : Nat} {T : Nat} (hT : T ≤ 4) (hT1 : 1 ≤ T) {k : Int32} {a b : Int32 → Int32} {f : Nat → px_I} {g : Nat → Int32 → Int32 → ST_F → ST_A → Option (Int32 × ST_F × ST_A)}
    (hg : ∀ n acc i F A, g (n + 1) acc i F A = if nI T ≤ i then some (acc, F, A) else ra_bi (f_K_put k (a i) (b i) F A) (fun r F A => g n (f_V_withNumber acc i r) (i + 1) F A))
    (hf : ∀ i, i < T → f i = (k, a (nI i), b (nI i))) {n0 : Nat} (hi : ∀ i, i < T → cx_i n0 (f i)) :
    ∀ (m j n : Nat) (w : px_V) (L : px_L) (tl : Bool) (F : ST_F) (A : ST_A), j + m = T → w.length = j → m < n → n0 ≤ L.length → (∀ p ∈ w, p < L.length) → cx_S ch len vars at_ L tl F A → cx_Q ch len vars at_ L tl (g n (nI (T * 268435456 + pv_sum w)) (nI j) F A) ((px_puts L ((List.range' j m).map f)).map fun z => (w ++ z.1, z.2)) := by
  intro m
  induction m with
  | zero =>
    intro j n w L tl F A hj hw hn hn0 hp hS
    obtain ⟨n, rfl⟩ : ∃ n', n = n' + 1 := ⟨n - 1, by omega⟩
    have hjT : j = T := by omega
    rw [hg, if_pos (by rw [hjT]; exact nI_le (Nat.le_refl _) (by omega))]
    have e : nI (T * 268435456 + pv_sum w) = pv w := by unfold pv pv_n; rw [hw, hjT]
    rw [e]
    have := cx_Q.yes hS (v := w) ⟨by omega, by omega, hp⟩
    simpa [px_puts] using this
  | succ m ih =>
    intro j n w L tl F A hj hw hn hn0 hp hS
    obtain ⟨n, rfl⟩ : ∃ n', n = n' + 1 := ⟨n - 1, by omega⟩
    rw [hg, if_neg (nI_ge (by omega) (by omega))]
    have hfj := hf j (by omega)
    have hij := (hi j (by omega)).mono hn0
    obtain ⟨r, L', tl', F', A', h1, h2, h3, h4, h5⟩ := cx_put hS hij
    have h1' : f_K_put k (a (nI j)) (b (nI j)) F A = some (nI r, F', A') := by
      have e : f_K_put k (a (nI j)) (b (nI j)) F A = f_K_put (f j).1 (f j).2.1 (f j).2.2 F A := by rw [hfj]
      rw [e, h1]
    rw [h1']
    show cx_Q ch len vars at_ L tl (g n (f_V_withNumber (nI (T * 268435456 + pv_sum w)) (nI j) (nI r)) (nI j + 1) F' A') _
    have hl' : L'.length ≤ 100 := h2.2.2.2.2.1.1
    have hp' : ∀ p ∈ w, p < L'.length := fun p hp2 => by have := hp p hp2; omega
    unfold f_V_withNumber
    rw [pv_with (by omega) (by omega) hw (by omega) (fun q hq => by have := hp' q hq; omega), ← nI_succ]
    have hr := ih (j + 1) n (w ++ [r]) L' tl' F' A' (by omega) (by rw [List.length_append, hw]; rfl) (by omega) (by omega) (by
      intro p hp2
      rcases List.mem_append.mp hp2 with h | h
      · exact hp' p h
      · rw [List.mem_singleton.mp h]; exact h4) h2
    refine cx_Q.from (f := fun x => (px_puts x.2 ((List.range' (j + 1) m).map f)).map fun z => (w ++ [x.1] ++ z.1, z.2)) h5 h3 hr ?_
    rw [List.range'_succ, List.map_cons, px_puts]
    cases px_put L (f j) with
    | none => rfl
    | some x =>
      show ((px_puts x.2 ((List.range' (j + 1) m).map f)).bind _).map _ = (px_puts x.2 ((List.range' (j + 1) m).map f)).map _
      cases px_puts x.2 ((List.range' (j + 1) m).map f) with
      | none => rfl
      | some z => simp
/-- the loop from its start -/
theorem cx_loop0 {at_ : Nat} {T : Nat} (hT : T ≤ 4) (hT1 : 1 ≤ T) {k : Int32} {a b : Int32 → Int32} {f : Nat → px_I} {g : Nat → Int32 → Int32 → ST_F → ST_A → Option (Int32 × ST_F × ST_A)}
    (hg : ∀ n acc i F A, g (n + 1) acc i F A = if nI T ≤ i then some (acc, F, A) else ra_bi (f_K_put k (a i) (b i) F A) (fun r F A => g n (f_V_withNumber acc i r) (i + 1) F A))
    (hf : ∀ i, i < T → f i = (k, a (nI i), b (nI i))) {L : px_L} (hi : ∀ i, i < T → cx_i L.length (f i)) {tl : Bool} {F : ST_F} {A : ST_A} (hS : cx_S ch len vars at_ L tl F A) : cx_Q ch len vars at_ L tl (g 400 (f_V_ofType (nI T)) 0 F A) (px_puts L ((List.range T).map f)) := by
  have h := cx_loop (at_ := at_) (ch := ch) (len := len) (vars := vars) hT hT1 hg hf hi T 0 400 [] L tl F A (by omega) rfl (by omega) (Nat.le_refl _) (fun p hp => absurd hp List.not_mem_nil) hS
  unfold f_V_ofType
  rw [pv_of (by omega)]
  have e : ((px_puts L ((List.range' 0 T).map f)).map fun z => (([] : px_V) ++ z.1, z.2)) = px_puts L ((List.range T).map f) := by
    rw [List.range_eq_range']
    cases px_puts L ((List.range' 0 T).map f) <;> rfl
  rw [e, show T * 268435456 + pv_sum [] = T * 268435456 from Nat.add_zero _, nI_0] at h
  exact h
theorem cx_each {at_ : Nat} {L : px_L} {tl : Bool} {F : ST_F} {A : ST_A} (hS : cx_S ch len vars at_ L tl F A) {t : Nat} (ht : 2 ≤ t) (ht' : t ≤ 11) {v : px_V} (hv : cx_o L v) : cx_Q ch len vars at_ L tl (f_C_each (nI t) (pv v) F A) (px_each (nI t) v L) := by
  have hk := hv.ok hS.2.2.2.2.1.1
  unfold f_C_each
  rw [if_neg (pv_ne hk), cx_type hk]
  have h := cx_loop0 (f := fun i => (nI t, nI (v.getD i 0), 0)) (g := fun n acc i F A => f_C_each_L18 n (nI t) (pv v) acc i F A) (a := fun i => f_V_number (pv v) i) (b := fun _ => 0) (k := nI t) hv.2.1 hv.1 (fun n acc i F A => by show f_C_each_L18 (n + 1) (nI t) (pv v) acc i F A = _; rw [f_C_each_L18, cx_type hk]) (fun i hi => by rw [cx_num hk (by have := hv.2.1; omega)]) (fun i hi => cx_i2 ht ht' (hv.get hi) hv.pos rfl) hS
  have e : (List.range v.length).map (fun i => ((nI t, nI (v.getD i 0), 0) : px_I)) = v.map fun p => (nI t, nI p, 0) := by
    apply List.ext_getElem
    · simp
    · intro i h1 h2
      have hi : i < v.length := by simpa using h1
      simp [hi]
  unfold px_each
  rw [← e]
  exact h
theorem cx_eachN (k : Int32) (F : ST_F) (A : ST_A) : f_C_each k (-1) F A = some (-1, F, A) := by
  unfold f_C_each
  rw [if_pos rfl]
theorem cx_pair {at_ : Nat} {L : px_L} {tl : Bool} {F : ST_F} {A : ST_A} (hS : cx_S ch len vars at_ L tl F A) {t : Nat} (ht : 2 ≤ t) (ht' : t ≤ 11) {a b : px_V} (ha : cx_o L a) (hb : cx_o L b) : cx_Q ch len vars at_ L tl (f_C_pairwise (nI t) (pv a) (pv b) F A) (px_pair (nI t) a b L) := by
  have hka := ha.ok hS.2.2.2.2.1.1
  have hkb := hb.ok hS.2.2.2.2.1.1
  have la := hka.2.1
  have lb := hkb.2.1
  have la1 := hka.1
  have lb1 := hkb.1
  have hJ : cx_Q ch len vars at_ L tl (f_C_pairwise_J45 (nI t) (pv a) (pv b) (nI a.length) (nI b.length) F A) (px_puts L ((List.range (max a.length b.length)).map fun i => (nI t, px_sp a i, px_sp b i))) := by
    unfold f_C_pairwise_J45
    have hm : (if nI a.length < nI b.length then nI b.length else nI a.length) = nI (max a.length b.length) := by
      by_cases c : a.length < b.length
      · rw [if_pos (nI_lt c (by omega)), Nat.max_eq_right (by omega)]
      · rw [if_neg (nI_nlt (by omega) (by omega)), Nat.max_eq_left (by omega)]
    rw [hm]
    have hg : ∀ (v : px_V), cx_o L v → ∀ i, px_sp v i = nI (v.getD (if v.length = 1 then 0 else i) 0) := fun v _ i => rfl
    refine cx_loop0 (g := fun n acc i F A => f_C_pairwise_L64 n (nI t) (pv a) (pv b) (nI a.length) (nI b.length) (nI (max a.length b.length)) acc i F A) (a := fun i => f_V_spread (pv a) i) (b := fun i => f_V_spread (pv b) i) (k := nI t) (by omega) (by omega) (fun n acc i F A => by show f_C_pairwise_L64 (n + 1) _ _ _ _ _ _ acc i F A = _; rw [f_C_pairwise_L64]) (fun i hi => by rw [cx_sp hka (by omega), cx_sp hkb (by omega)]) (fun i hi => ?_) hS
    rw [hg a ha, hg b hb]
    exact cx_i2 ht ht' (ha.getA _) (hb.getA _) rfl
  unfold f_C_pairwise px_pair
  rw [if_neg (pv_ne hka), if_neg (pv_ne hkb), cx_type hka, cx_type hkb, show (1 : Int32) = nI 1 from rfl]
  by_cases c1 : a.length = b.length
  · rw [if_pos (by rw [c1]), if_neg (fun z => z.1 c1)]; exact hJ
  · rw [if_neg (fun z => c1 ((nI_eqI (by omega) (by omega)).mp z))]
    by_cases c2 : a.length = 1
    · rw [if_pos (by rw [c2]), if_neg (fun z => z.2.1 c2)]; exact hJ
    · rw [if_neg (fun z => c2 ((nI_eqI (by omega) (by omega)).mp z))]
      by_cases c3 : b.length = 1
      · rw [if_pos (by rw [c3]), if_neg (fun z => z.2.2 c3)]; exact hJ
      · rw [if_neg (fun z => c3 ((nI_eqI (by omega) (by omega)).mp z)), if_pos ⟨c1, c2, c3⟩]
        exact cx_Q.no hS
theorem cx_pairN1 (k : Int32) (y : Int32) (F : ST_F) (A : ST_A) : f_C_pairwise k (-1) y F A = some (-1, F, A) := by
  unfold f_C_pairwise
  rw [if_pos rfl]
theorem cx_pairN2 (k : Int32) (y : Int32) (F : ST_F) (A : ST_A) : f_C_pairwise k y (-1) F A = some (-1, F, A) := by
  unfold f_C_pairwise
  by_cases c : y = -1
  · rw [if_pos c]
  · rw [if_neg c, if_pos rfl]
theorem cx_cell {at_ : Nat} {L : px_L} {tl : Bool} {F : ST_F} {A : ST_A} (hS : cx_S ch len vars at_ L tl F A) {a b : px_V} (ha : cx_o L a) (hb : cx_o L b) {T j r n : Nat} {w : px_V} (hT : T ≤ 4) (hw : w.length = 2 * j + r) (hj : j < 2) (hr : r < 2) (hp : ∀ p ∈ w, p < L.length) (x3 : Int32) (kx : Int32 → Int32 → Int32 → Int32 → Int32 → Int32 → ST_F → ST_A → Option (Int32 × ST_F × ST_A)) :
    ∃ c L' tl' F' A', f_C_timesColumns_L25 kx (n + 1) (pv a) (pv b) x3 (nI (T * 268435456 + pv_sum w)) (nI (2 * j)) (nI r) F A = f_C_timesColumns_L25 kx n (pv a) (pv b) x3 (nI (T * 268435456 + pv_sum (w ++ [c]))) (nI (2 * j)) (nI (r + 1)) F' A' ∧ cx_S ch len vars at_ L' tl' F' A' ∧ L.length ≤ L'.length ∧ c < L'.length ∧ cx_k tl tl' (px_cell a b j r L) (some (c, L')) := by
  have hka := ha.ok hS.2.2.2.2.1.1
  have hkb := hb.ok hS.2.2.2.2.1.1
  obtain ⟨x, L1, t1, F1, A1, a1, a2, a3, a4, a5⟩ := cx_put hS (i := (4, nI (a.getD r 0), nI (b.getD (2 * j) 0))) (cx_i2 (t := 4) (by decide) (by decide) (ha.getA _) (hb.getA _) rfl)
  obtain ⟨y, L2, t2, F2, A2, b1, b2, b3, b4, b5⟩ := cx_put a2 (i := (4, nI (a.getD (2 + r) 0), nI (b.getD (2 * j + 1) 0))) (cx_i2 (t := 4) (by decide) (by decide) ((ha.mono a3).getA _) ((hb.mono a3).getA _) rfl)
  obtain ⟨z, L3, t3, F3, A3, c1, c2, c3, c4, c5⟩ := cx_put b2 (i := (2, nI x, nI y)) (cx_i2 (t := 2) (by decide) (by decide) (by omega) b4 rfl)
  have hl3 : L3.length ≤ 100 := c2.2.2.2.2.1.1
  refine ⟨z, L3, t3, F3, A3, ?_, c2, by omega, c4, ?_⟩
  · rw [f_C_timesColumns_L25, if_neg (show ¬ (2 : Int32) ≤ nI r from nI_ge (b := 2) hr (by decide)), show (2 : Int32) + nI r = nI (2 + r) from nI_add 2 r, show nI (2 * j) + (1 : Int32) = nI (2 * j + 1) from nI_add _ 1, cx_num hka (by omega), cx_num hkb (by omega), cx_num hka (by omega), cx_num hkb (by omega), nI_add]
    dsimp only at a1 b1 c1
    rw [a1, ra_bi_s, b1, ra_bi_s, c1, ra_bi_s]
    show f_C_timesColumns_L25 kx n (pv a) (pv b) x3 (f_V_withNumber (nI (T * 268435456 + pv_sum w)) (nI (2 * j + r)) (nI z)) (nI (2 * j)) (nI r + 1) F3 A3 = _
    unfold f_V_withNumber
    rw [pv_with (by omega) (by omega) hw (by omega) (fun q hq => by have := hp q hq; omega), ← nI_succ]
  · exact a5.bind (b5.bind c5)
theorem cx_times {at_ : Nat} {L : px_L} {tl : Bool} {F : ST_F} {A : ST_A} (hS : cx_S ch len vars at_ L tl F A) {a b : px_V} (ha : cx_o L a) (hb : cx_o L b) : cx_Q ch len vars at_ L tl (f_C_times (pv a) (pv b) F A) (px_times a b L) := by
  have hka := ha.ok hS.2.2.2.2.1.1
  have hkb := hb.ok hS.2.2.2.2.1.1
  have la := hka.2.1
  have lb := hkb.2.1
  have hbi : ∀ (g : Option (Int32 × ST_F × ST_A)), ra_bi g (fun r F A => some (r, F, A)) = g := fun g => by cases g <;> rfl
  have hP := cx_pair hS (t := 4) (by decide) (by decide) ha hb
  unfold f_C_times px_times
  simp only [hbi]
  rw [if_neg (pv_ne hka), if_neg (pv_ne hkb), cx_type hka, cx_type hkb, show (4 : Int32) = nI 4 from rfl, show (2 : Int32) = nI 2 from rfl]
  by_cases c1 : a.length = 4
  · rw [if_pos (by rw [c1])]
    by_cases c2 : b.length = 2
    · rw [if_pos (by rw [c2]), if_pos ⟨c1, Or.inl c2⟩, if_pos c2]
      unfold f_C_timesColumns f_V_ofType
      rw [cx_type hkb, c2, pv_of (by decide), f_C_timesColumns_L14, if_neg (by decide)]
      obtain ⟨x, L1, t1, F1, A1, a1, a2, a3, a4, a5⟩ := cx_cell hS ha hb (T := 2) (j := 0) (r := 0) (n := 3) (w := []) (by decide) rfl (by decide) (by decide) (fun p hp => absurd hp List.not_mem_nil) (nI 2) (fun y1_6 y2_6 y3_6 y4_6 y5_6 y6_6 F6 A6 => f_C_timesColumns_L14 3 y1_6 y2_6 y3_6 y4_6 (y5_6 + (2 : Int32)) F6 A6)
      obtain ⟨y, L2, t2, F2, A2, b1, b2, b3, b4, b5⟩ := cx_cell a2 (ha.mono a3) (hb.mono a3) (T := 2) (j := 0) (r := 1) (n := 2) (w := [x]) (by decide) rfl (by decide) (by decide) (fun p hp => by rw [List.mem_singleton.mp hp]; exact a4) (nI 2) (fun y1_6 y2_6 y3_6 y4_6 y5_6 y6_6 F6 A6 => f_C_timesColumns_L14 3 y1_6 y2_6 y3_6 y4_6 (y5_6 + (2 : Int32)) F6 A6)
      refine ⟨some [x, y], L2, t2, F2, A2, ?_, b2, by omega, fun v e => ?_, ?_⟩
      · exact (a1.trans (b1.trans (by rw [f_C_timesColumns_L25, if_pos (by decide), f_C_timesColumns_L14, if_pos (by decide)]; rfl)))
      · cases e
        refine ⟨by simp, by simp, fun p hp => ?_⟩
        rcases List.mem_cons.mp hp with h | h
        · omega
        · rw [List.mem_singleton.mp h]; exact b4
      · exact a5.bind (cx_k.bind (b5.bind cx_k.rf) cx_k.rf)
    · rw [if_neg (fun z => c2 ((nI_eqI (by omega) (by omega)).mp z))]
      by_cases c3 : b.length = 4
      · rw [if_pos (by rw [c3]), if_pos ⟨c1, Or.inr c3⟩, if_neg c2]
        unfold f_C_timesColumns f_V_ofType
        rw [cx_type hkb, c3, pv_of (by decide), f_C_timesColumns_L14, if_neg (by decide)]
        obtain ⟨x, L1, t1, F1, A1, a1, a2, a3, a4, a5⟩ := cx_cell hS ha hb (T := 4) (j := 0) (r := 0) (n := 3) (w := []) (by decide) rfl (by decide) (by decide) (fun p hp => absurd hp List.not_mem_nil) (nI 4) (fun y1_6 y2_6 y3_6 y4_6 y5_6 y6_6 F6 A6 => f_C_timesColumns_L14 3 y1_6 y2_6 y3_6 y4_6 (y5_6 + (2 : Int32)) F6 A6)
        obtain ⟨y, L2, t2, F2, A2, b1, b2, b3, b4, b5⟩ := cx_cell a2 (ha.mono a3) (hb.mono a3) (T := 4) (j := 0) (r := 1) (n := 2) (w := [x]) (by decide) rfl (by decide) (by decide) (fun p hp => by rw [List.mem_singleton.mp hp]; exact a4) (nI 4) (fun y1_6 y2_6 y3_6 y4_6 y5_6 y6_6 F6 A6 => f_C_timesColumns_L14 3 y1_6 y2_6 y3_6 y4_6 (y5_6 + (2 : Int32)) F6 A6)
        have m2 : ∀ p ∈ [x, y], p < L2.length := fun p hp => by
          rcases List.mem_cons.mp hp with h | h
          · omega
          · rw [List.mem_singleton.mp h]; exact b4
        obtain ⟨z, L3, t3, F3, A3, d1, d2, d3, d4, d5⟩ := cx_cell b2 (ha.mono (by omega)) (hb.mono (by omega)) (T := 4) (j := 1) (r := 0) (n := 3) (w := [x, y]) (by decide) rfl (by decide) (by decide) m2 (nI 4) (fun y1_6 y2_6 y3_6 y4_6 y5_6 y6_6 F6 A6 => f_C_timesColumns_L14 2 y1_6 y2_6 y3_6 y4_6 (y5_6 + (2 : Int32)) F6 A6)
        have m3 : ∀ p ∈ [x, y, z], p < L3.length := fun p hp => by
          rcases List.mem_cons.mp hp with h | h
          · omega
          · rcases List.mem_cons.mp h with h | h
            · omega
            · rw [List.mem_singleton.mp h]; exact d4
        obtain ⟨u, L4, t4, F4, A4, e1, e2, e3, e4, e5⟩ := cx_cell d2 (ha.mono (by omega)) (hb.mono (by omega)) (T := 4) (j := 1) (r := 1) (n := 2) (w := [x, y, z]) (by decide) rfl (by decide) (by decide) m3 (nI 4) (fun y1_6 y2_6 y3_6 y4_6 y5_6 y6_6 F6 A6 => f_C_timesColumns_L14 2 y1_6 y2_6 y3_6 y4_6 (y5_6 + (2 : Int32)) F6 A6)
        refine ⟨some [x, y, z, u], L4, t4, F4, A4, ?_, e2, by omega, fun v e => ?_, ?_⟩
        · refine a1.trans (b1.trans ?_)
          rw [f_C_timesColumns_L25, if_pos (by decide), f_C_timesColumns_L14, if_neg (by decide)]
          exact (d1.trans (e1.trans (by rw [f_C_timesColumns_L25, if_pos (by decide), f_C_timesColumns_L14, if_pos (by decide)]; rfl)))
        · cases e
          refine ⟨by simp, by simp, fun p hp => ?_⟩
          rcases List.mem_cons.mp hp with h | h
          · omega
          · rcases List.mem_cons.mp h with h | h
            · omega
            · rcases List.mem_cons.mp h with h | h
              · omega
              · rw [List.mem_singleton.mp h]; exact e4
        · exact a5.bind (cx_k.bind (b5.bind (cx_k.bind (d5.bind (cx_k.bind (e5.bind cx_k.rf) cx_k.rf)) cx_k.rf)) cx_k.rf)
      · rw [if_neg (fun z => c3 ((nI_eqI (by omega) (by omega)).mp z)), if_neg (fun z => by rcases z.2 with h | h; exact c2 h; exact c3 h)]
        exact hP
  · rw [if_neg (fun z => c1 ((nI_eqI (by omega) (by omega)).mp z)), if_neg (fun z => c1 z.1)]
    exact hP
theorem cx_timesN1 (y : Int32) (F : ST_F) (A : ST_A) : f_C_times (-1) y F A = some (-1, F, A) := by
  unfold f_C_times
  rw [if_pos rfl]
theorem cx_timesN2 (y : Int32) (F : ST_F) (A : ST_A) : f_C_times y (-1) F A = some (-1, F, A) := by
  unfold f_C_times
  by_cases c : y = -1
  · rw [if_pos c]
  · rw [if_neg c, if_pos rfl]
theorem cx_div {at_ : Nat} {L : px_L} {tl : Bool} {F : ST_F} {A : ST_A} (hS : cx_S ch len vars at_ L tl F A) {a b : px_V} (ha : cx_o L a) (hb : cx_o L b) : cx_Q ch len vars at_ L tl (f_C_dividedBy (pv a) (pv b) F A) (px_div a b L) := by
  have hkb := hb.ok hS.2.2.2.2.1.1
  have lb := hkb.2.1
  have hP := cx_pair hS (t := 5) (by decide) (by decide) ha hb
  have hbi : ∀ (g : Option (Int32 × ST_F × ST_A)), ra_bi g (fun r F A => some (r, F, A)) = g := fun g => by cases g <;> rfl
  unfold f_C_dividedBy px_div
  rw [hbi, if_neg (pv_ne hkb), cx_type hkb, show (4 : Int32) = nI 4 from rfl]
  by_cases c : b.length = 4
  · rw [if_pos (by rw [c]), if_pos c]
    exact cx_Q.no hS
  · rw [if_neg (fun z => c ((nI_eqI (by omega) (by omega)).mp z)), if_neg c]
    exact hP
theorem cx_divN2 (y : Int32) (F : ST_F) (A : ST_A) : f_C_dividedBy y (-1) F A = some (-1, F, A) := by
  unfold f_C_dividedBy
  rw [if_pos rfl]
end CX
