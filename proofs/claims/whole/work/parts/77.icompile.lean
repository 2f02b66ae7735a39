/-! compile: both sides -/
theorem mx_c37 (fu : Nat) (F : ST_F) : ∀ (m j n : Nat) (A : ST_A), j + m = 26 → m < n → ∃ A', f_M_compile_L37 fu n (nI j) F A = ra_bv (f_M_begin F A') (fun F2 A2 => f_M_compile_L62 fu fu 0 F2 A2) ∧ (∀ k, k ≠ 9 → A' k = A k) ∧ (∀ i, i < j → A' 9 i = A 9 i) ∧ ∀ i, j ≤ i → i < 26 → A' 9 i = 0 := by
  intro m
  induction m with
  | zero =>
    intro j n A hj hn
    obtain ⟨n, rfl⟩ : ∃ n', n = n' + 1 := ⟨n - 1, by omega⟩
    rw [f_M_compile_L37, if_pos (show (26 : Int32) ≤ nI j from nI_le (a := 26) (by omega) (by omega))]
    exact ⟨A, rfl, fun _ _ => rfl, fun _ _ => rfl, fun i h1 h2 => by omega⟩
  | succ m ih =>
    intro j n A hj hn
    obtain ⟨n, rfl⟩ : ∃ n', n = n' + 1 := ⟨n - 1, by omega⟩
    rw [f_M_compile_L37, if_neg (show ¬ (26 : Int32) ≤ nI j from nI_ge (b := 26) (by omega) (by omega)), ra_g_in (by omega) (by decide), nI_clamp (by omega), ← nI_succ]
    obtain ⟨A', h1, h2, h3, h4⟩ := ih (j + 1) n (va_up A 9 (upd (A 9) j 0)) (by omega) (by omega)
    refine ⟨A', h1, fun k hk => ?_, fun i hi => ?_, fun i hi hi2 => ?_⟩
    · rw [h2 k hk]; show (if k = 9 then _ else A k) = A k; rw [if_neg hk]
    · rw [h3 i (by omega)]; show upd (A 9) j _ i = A 9 i; unfold upd; rw [if_neg (by omega)]
    · by_cases hij : i = j
      · rw [h3 i (by omega), hij]; show upd (A 9) j _ j = _; unfold upd; rw [if_pos rfl]
      · exact h4 i (by omega) hi2
theorem mx_begin9 (F : ST_F) (A : ST_A) : f_M_begin F A = f_M_begin (upd F 9 (-1)) A := by
  unfold f_M_begin
  rw [upd_upd]
  rfl
theorem mx_compile {ch : Nat → Int32} {len : Nat} {F : ST_F} {A : ST_A} (hT : mx_T ch len A) (h1 : F 1 = nI len) : ∃ fu, mx_E F A (f_M_compile fu F A) (px_prog ch len 160 0 (fun _ => none) []) := by
  have hl := hT.1.1
  have hev := ev_prog (ch := ch) (len := len) hT.1.2.1 hl 160 0 (fun _ => none) [] (by omega)
  generalize px_prog ch len 160 0 (fun _ => none) [] = r at hev ⊢
  have hstart : ∀ fu, ∃ A', f_M_compile fu F A = ra_bv (f_M_begin (upd (upd (upd (upd (upd (upd (upd (upd F 0 0) 4 0) 5 0) 6 0) 7 0) 8 0) 3 0) 9 (-1)) A') (fun F2 A2 => f_M_compile_L62 fu fu 0 F2 A2) ∧ mx_C len F A (fun _ => none) 0 [] [] 0 none (upd (upd (upd (upd (upd (upd (upd (upd F 0 0) 4 0) 5 0) 6 0) 7 0) 8 0) 3 0) 9 (-1)) A' ∧ mx_D [] false (upd (upd (upd (upd (upd (upd (upd (upd F 0 0) 4 0) 5 0) 6 0) 7 0) 8 0) 3 0) 9 (-1)) A' := by
    intro fu
    obtain ⟨A', e1, e2, e3, e4⟩ := mx_c37 fu (upd (upd (upd (upd (upd (upd (upd F 0 0) 4 0) 5 0) 6 0) 7 0) 8 0) 3 0) 26 0 400 A (by omega) (by omega)
    rw [nI_0] at e1
    refine ⟨A', ?_, ⟨⟨h1, rfl, rfl, rfl, rfl, rfl⟩, ⟨⟨rfl, rfl⟩, fun k hk => e2 k (by omega)⟩, ⟨Nat.zero_le _, Nat.zero_le _⟩, trivial, trivial, fun k hk => e4 k (Nat.zero_le _) hk, fun k v hk hv => (nomatch hv)⟩, ⟨rfl, rfl, Nat.zero_le _, fun k i hi => by simp at hi⟩⟩
    rw [← mx_begin9]
    exact e1
  unfold px_EvB at hev
  by_cases c1 : px_asg ch 0 = true
  · rw [if_pos c1] at hev
    by_cases c2 : px_given (ch 0) = true
    · rw [if_pos c2] at hev
      refine ⟨1, ?_⟩
      obtain ⟨A', e1, e2, e3⟩ := hstart 1
      rw [e1, hev]
      rcases mx_begin hT e2 e3 (Nat.zero_le len) with ⟨t1, t2, F2, t3, t4, t5⟩ | ⟨t1, t2, _⟩ | ⟨t1, _⟩
      · rw [t3, ra_bv_s]
        exact mx_wrong t4 t5 1 0 0
      · exact absurd c2 t2
      · exact absurd c1 t1
    · rw [if_neg c2] at hev
      obtain ⟨n, hn⟩ := hev
      refine ⟨n + 1, ?_⟩
      obtain ⟨A', e1, e2, e3⟩ := hstart (n + 1)
      rw [e1]
      rcases mx_begin hT e2 e3 (Nat.zero_le len) with ⟨t1, t2, _⟩ | ⟨t1, t2, F2, t3, t4, t5, t6, t7⟩ | ⟨t1, _⟩
      · exact absurd t2 c2
      · rw [t3, ra_bv_s]
        exact mx_run hT (n + 1) n false (0 + 2) [] [] 0 (some (px_ix (ch 0))) (fun _ => none) [] r F2 A' hn t4 t5 ⟨⟨rfl, rfl, fun w hw => absurd hw List.not_mem_nil⟩, t6, Nat.zero_le _, Nat.zero_le _, rfl, fun l e => by cases e; exact t7⟩
      · exact absurd c1 t1
  · rw [if_neg c1] at hev
    obtain ⟨n, hn⟩ := hev
    refine ⟨n + 1, ?_⟩
    obtain ⟨A', e1, e2, e3⟩ := hstart (n + 1)
    rw [e1]
    rcases mx_begin hT e2 e3 (Nat.zero_le len) with ⟨t1, _⟩ | ⟨t1, _⟩ | ⟨t1, F2, t3, t4, t5⟩
    · exact absurd t1 c1
    · exact absurd t1 c1
    · rw [t3, ra_bv_s]
      exact mx_run hT (n + 1) n false 0 [] [] 0 none (fun _ => none) [] r F2 A' hn t4 t5 ⟨⟨rfl, rfl, fun w hw => absurd hw List.not_mem_nil⟩, Nat.zero_le _, Nat.zero_le _, Nat.zero_le _, rfl, fun l e => (nomatch e)⟩
theorem Inv.compile : li_c Inv := by
  intro F A FM AM h
  obtain ⟨len, n, ⟨hl, hF, hFM, htx⟩, hins, hres, h4, h5⟩ := h
  have hT : cx_T (fun k => if k < len then A 0 k else 0) len := by
    refine ⟨hl, fun k hk => ?_, fun k hk => ?_⟩
    · show (if k < len then A 0 k else 0) = 0
      rw [if_neg (by omega)]
    · show 33 ≤ (if k < len then A 0 k else 0) ∧ (if k < len then A 0 k else 0) ≤ 126
      rw [if_pos hk]
      exact (htx k hk).2
  have hTM : mx_T (fun k => if k < len then A 0 k else 0) len AM := ⟨hT, fun k hk => by show AM 0 k = (if k < len then A 0 k else 0); rw [if_pos hk]; exact (htx k hk).1.symm⟩
  obtain ⟨q, F1, A1, a1, a2, a3, a4, a5⟩ := cx_accepts hT (pc_F F) (pc_A A) (fun k hk => by show A 0 k = (if k < len then A 0 k else 0); rw [if_pos hk])
  obtain ⟨fu, hE⟩ := mx_compile (F := FM) hTM hFM
  rw [← a5 rfl] at hE
  have htx1 : ∀ k, k < len → A1 1 k = A 0 k := fun k hk => by
    rw [a2 k hk]
    show (if k < len then A 0 k else 0) = _
    rw [if_pos hk]
  cases q with
  | none =>
    obtain ⟨F2, A2, e1, e2, e3⟩ := hE
    refine ⟨fu, 0, pb_F F F1, pb_A A A1, F2, A2, ?_, e1, len, n, ⟨hl, hF, ?_, fun k hk => ?_⟩, ⟨hins.1, hins.2.1, ?_, fun k hk => ?_, hins.2.2.2.2⟩, ⟨fun i hi => ?_, hres.2⟩, fun j hj => ?_, fun j hj => ?_⟩
    · unfold f_P_compile
      rw [hF, a1, ra_bi_s, if_pos rfl]
    · rw [e2.2]; exact hFM
    · show A1 1 k = A2 0 k ∧ 33 ≤ A1 1 k ∧ A1 1 k ≤ 126
      rw [htx1 k hk, e3 0 (Or.inl (by decide))]
      exact htx k hk
    · rw [e2.1]; exact hins.2.2.1
    · show A 5 k = A2 1 k ∧ A 6 k = A2 2 k ∧ A 7 k = A2 3 k
      rw [e3 1 (Or.inl (by decide)), e3 2 (Or.inl (by decide)), e3 3 (Or.inl (by decide))]
      exact hins.2.2.2.1 k hk
    · show A 8 i = A2 4 i
      rw [e3 4 (Or.inl (by decide))]
      exact hres.1 i hi
    · show A 9 j = A2 5 j
      rw [e3 5 (Or.inl (by decide))]
      exact h4 j hj
    · show A 1 j = A2 16 j
      rw [e3 16 (Or.inr rfl)]
      exact h5 j hj
  | some x =>
    obtain ⟨F2, A2, e1, f1, f2, f3, f4, f5, f6, f7, f8⟩ := hE
    obtain ⟨g1, g2, g3, g4, g5, g6⟩ := a3 x rfl
    have hget : ∀ k, k < x.2.1.length → ∃ i, x.2.1[k]? = some i := fun k hk => ⟨_, List.getElem?_eq_getElem hk⟩
    refine ⟨fu, 1, sw_F (pb_F F F1), sw_A (pb_A A A1), F2, A2, ?_, e1, len, x.2.1.length, ⟨hl, hF, ?_, fun k hk => ?_⟩, ⟨f3, g1, f2, fun k hk => ?_, fun k hk => ?_⟩, ⟨fun i hi => ?_, fun _ i hi => ?_⟩, fun j hj => ?_, fun j hj => ?_⟩
    · unfold f_P_compile
      rw [hF, a1, ra_bi_s]
      exact if_neg (by show ¬ (1 : Int32) = 0; decide)
    · rw [f1]; exact hFM
    · show A1 1 k = A2 0 k ∧ 33 ≤ A1 1 k ∧ A1 1 k ≤ 126
      rw [htx1 k hk, f7]
      exact htx k hk
    · show A1 2 k = A2 1 k ∧ A1 3 k = A2 2 k ∧ A1 4 k = A2 3 k
      obtain ⟨i, hi⟩ := hget k hk
      obtain ⟨p1, p2, p3⟩ := g3 k i hi
      obtain ⟨q1, q2, q3⟩ := f4 k i hi
      rw [p1, p2, p3, q1, q2, q3]
      exact ⟨rfl, rfl, rfl⟩
    · obtain ⟨i, hi⟩ := hget k hk
      obtain ⟨p1, p2, p3⟩ := g3 k i hi
      have := g2.2 k i hi
      show A1 2 k = 0 ∨ (A1 2 k = 1 ∧ ∃ j, j < 6 ∧ A1 3 k = nI j) ∨ ((∃ t, 2 ≤ t ∧ t ≤ 11 ∧ A1 2 k = nI t) ∧ (∃ p, p < k ∧ A1 3 k = nI p) ∧ ∃ p, p < k ∧ A1 4 k = nI p)
      rw [p1, p2, p3]
      exact this
    · show A1 5 i = A2 4 i
      rw [g5 i hi, f5 i hi]
    · show ∃ p, p < x.2.1.length ∧ A1 5 i = nI p
      exact ⟨x.1.getD i 0, g4.getA i, g5 i hi⟩
    · show A1 6 j = A2 5 j
      rw [g6 j hj, f6 j hj]
    · show A 1 j = A2 16 j
      rw [f8]
      exact h5 j hj
