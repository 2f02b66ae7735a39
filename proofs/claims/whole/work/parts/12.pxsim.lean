/-! the grammar against the reference's run -/
section PXS
variable {ch : Nat → Int32} {len : Nat} {vs : List px_V} {ws : List (Int32 × Nat)} {op : Nat} {tg : Option Nat} {vars : Nat → Option px_V} {L : px_L} {r : Option px_R} {at_ : Nat}
theorem ev_neg (h : ch at_ = 45) (e : px_Ev ch len false (at_ + 1) vs ((126, 1) :: ws) op tg vars L r) : px_Ev ch len false at_ vs ws op tg vars L r := by
  obtain ⟨n, e⟩ := e
  exact ⟨n + 1, by rw [px_run, if_pos h]; exact e⟩
theorem ev_open (h : ch at_ = 40) (ho : op < 5) (e : px_Ev ch len false (at_ + 1) vs ((40, 1) :: ws) (op + 1) tg vars L r) : px_Ev ch len false at_ vs ws op tg vars L r := by
  obtain ⟨n, e⟩ := e
  exact ⟨n + 1, by rw [px_run, if_neg (by rw [h]; decide), if_pos h, if_neg (by omega)]; exact e⟩
theorem ev_open5 (h : ch at_ = 40) (ho : 5 ≤ op) : px_Ev ch len false at_ vs ws op tg vars L none :=
  ⟨0 + 1, by rw [px_run, if_neg (by rw [h]; decide), if_pos h, if_pos ho]⟩
theorem ev_fn (h : px_isfn (ch at_) = true ∧ ch (at_ + 1) = 40) (ho : op < 5) (e : px_Ev ch len false (at_ + 2) vs ((ch at_, 1) :: ws) (op + 1) tg vars L r) : px_Ev ch len false at_ vs ws op tg vars L r := by
  obtain ⟨n, e⟩ := e
  exact ⟨n + 1, by rw [px_run, if_neg (pxf_fn_ne h.1 (by decide)), if_neg (pxf_fn_ne h.1 (by decide)), if_pos h, if_neg (by omega)]; exact e⟩
theorem ev_fn5 (h : px_isfn (ch at_) = true ∧ ch (at_ + 1) = 40) (ho : 5 ≤ op) : px_Ev ch len false at_ vs ws op tg vars L none :=
  ⟨0 + 1, by rw [px_run, if_neg (pxf_fn_ne h.1 (by decide)), if_neg (pxf_fn_ne h.1 (by decide)), if_pos h, if_pos ho]⟩
theorem ev_bad (h1 : ch at_ ≠ 45) (h2 : ch at_ ≠ 40) (h3 : ¬ (px_isfn (ch at_) = true ∧ ch (at_ + 1) = 40)) (h4 : ¬ px_dig (ch at_) = true) (h5 : ¬ px_small (ch at_) = true) : px_Ev ch len false at_ vs ws op tg vars L none :=
  ⟨0 + 1, by rw [px_run, if_neg h1, if_neg h2, if_neg h3, if_neg h4, if_neg h5]⟩
theorem ev_junk (hl : at_ < len) (h1 : ch at_ ≠ 41) (h2 : px_nop (ch at_)) (h3 : ch at_ ≠ 44) (h4 : ch at_ ≠ 59) (e : px_Ev ch len true at_ vs ws op tg vars L r) : r = none := by
  obtain ⟨n, e⟩ := e
  cases n with
  | zero => rw [px_run] at e; cases e
  | succ n =>
    rw [px_run, if_neg (by omega), if_neg h1, if_neg (fun z => z.elim h2.2.2.1 h2.2.2.2), if_neg (fun z => z.elim h2.1 h2.2.1), if_neg h3, if_neg h4] at e
    exact (Option.some.inj e).symm
theorem ev_num (hz : ∀ k, len ≤ k → ch k = 0) {k : Nat} (hb : px_b0 ws) (hd : px_dig (ch at_) = true)
    (h : px_to (px_const ch at_) r fun x => px_to (px_put L (0, x.1, 0)) r fun y => px_to (px_negs k [y.1] y.2) r fun z => px_Ev ch len true x.2 (z.1 :: vs) ws op tg vars z.2 r) : px_Ev ch len false at_ vs (List.replicate k (126, 1) ++ ws) op tg vars L r := by
  have key : ∃ n, px_k (px_const ch at_) (fun x => if px_dig (ch x.2) = true ∨ ch x.2 = 46 then some none else
      px_k (px_put L (0, x.1, 0)) fun y => px_k (px_unneg (List.replicate k (126, 1) ++ ws) [y.1] y.2) fun q => px_run ch len n true x.2 (q.1 :: vs) q.2.2 op tg vars q.2.1) = some r := by
    refine px_k_ex (f := fun n x => if px_dig (ch x.2) = true ∨ ch x.2 = 46 then some none else
      px_k (px_put L (0, x.1, 0)) fun y => px_k (px_unneg (List.replicate k (126, 1) ++ ws) [y.1] y.2) fun q => px_run ch len n true x.2 (q.1 :: vs) q.2.2 op tg vars q.2.1) (px_to_imp h fun x hx hp => ?_)
    by_cases hj : px_dig (ch x.2) = true ∨ ch x.2 = 46
    · have hr : r = none := by
        have hlt : x.2 < len := hj.elim (fun q => pxf_digl hz q) (fun q => pxf_eql hz q (by decide))
        have hne : ∀ d : Int32, px_dig d = false → d ≠ 46 → ch x.2 ≠ d := fun d d1 d2 => hj.elim (fun q => pxf_dig_ne q d1) (fun q => by rw [q]; exact fun z => d2 z.symm)
        cases hu : px_put L (0, x.1, 0) with
        | none => rw [hu] at hp; exact hp
        | some y =>
          rw [hu] at hp
          have hp : px_to (px_negs k [y.1] y.2) r fun z => px_Ev ch len true x.2 (z.1 :: vs) ws op tg vars z.2 r := hp
          cases hv : px_negs k [y.1] y.2 with
          | none => rw [hv] at hp; exact hp
          | some z =>
            rw [hv] at hp
            exact ev_junk hlt (hne _ (by decide) (by decide)) ⟨hne _ (by decide) (by decide), hne _ (by decide) (by decide), hne _ (by decide) (by decide), hne _ (by decide) (by decide)⟩ (hne _ (by decide) (by decide)) (hne _ (by decide) (by decide)) hp
      exact ⟨0, by rw [if_pos hj, hr]⟩
    · have h2 : ∃ n, px_k (px_put L (0, x.1, 0)) (fun y => px_k (px_unneg (List.replicate k (126, 1) ++ ws) [y.1] y.2) fun q => px_run ch len n true x.2 (q.1 :: vs) q.2.2 op tg vars q.2.1) = some r := by
        refine px_k_ex (f := fun n y => px_k (px_unneg (List.replicate k (126, 1) ++ ws) [y.1] y.2) fun q => px_run ch len n true x.2 (q.1 :: vs) q.2.2 op tg vars q.2.1) (px_to_imp hp fun y hy hp => ?_)
        refine px_k_ex (f := fun n q => px_run ch len n true x.2 (q.1 :: vs) q.2.2 op tg vars q.2.1) (px_to_unneg hb hp)
      obtain ⟨n, e⟩ := h2
      exact ⟨n, by rw [if_neg hj]; exact e⟩
  obtain ⟨n, e⟩ := key
  exact ⟨n + 1, by rw [px_run, if_neg (pxf_dig_ne hd (by decide)), if_neg (pxf_dig_ne hd (by decide)), if_neg (fun q => pxf_dig_fn hd q.1), if_pos hd]; exact e⟩
theorem ev_let {k : Nat} (hb : px_b0 ws) (hd : px_small (ch at_) = true)
    (h : px_to (px_letter vars (ch at_) L) r fun x => px_to (px_pick ch x.1 (at_ + 1)) r fun y => px_to (px_negs k y.1 x.2) r fun z => px_Ev ch len true y.2 (z.1 :: vs) ws op tg vars z.2 r) : px_Ev ch len false at_ vs (List.replicate k (126, 1) ++ ws) op tg vars L r := by
  have key : ∃ n, px_k (px_letter vars (ch at_) L) (fun x => px_k (px_pick ch x.1 (at_ + 1)) fun s => px_k (px_unneg (List.replicate k (126, 1) ++ ws) s.1 x.2) fun q =>
      px_run ch len n true s.2 (q.1 :: vs) q.2.2 op tg vars q.2.1) = some r := by
    refine px_k_ex (f := fun n x => px_k (px_pick ch x.1 (at_ + 1)) fun s => px_k (px_unneg (List.replicate k (126, 1) ++ ws) s.1 x.2) fun q => px_run ch len n true s.2 (q.1 :: vs) q.2.2 op tg vars q.2.1) (px_to_imp h fun x hx hp => ?_)
    refine px_k_ex (f := fun n s => px_k (px_unneg (List.replicate k (126, 1) ++ ws) s.1 x.2) fun q => px_run ch len n true s.2 (q.1 :: vs) q.2.2 op tg vars q.2.1) (px_to_imp hp fun y hy hp => ?_)
    exact px_k_ex (f := fun n q => px_run ch len n true y.2 (q.1 :: vs) q.2.2 op tg vars q.2.1) (px_to_unneg hb hp)
  obtain ⟨n, e⟩ := key
  exact ⟨n + 1, by rw [px_run, if_neg (pxf_small_ne hd (by decide)), if_neg (pxf_small_ne hd (by decide)), if_neg (fun q => pxf_small_fn hd q.1), if_neg (pxf_small_dig hd), if_pos hd]; exact e⟩
/-- a bracket or a function closes -/
theorem ev_close {k : Nat} {w : Int32 × Nat} (hb : px_b0 ws) (hw : px_b2 (w :: (List.replicate k (126, 1) ++ ws))) (hl : at_ < len) (h : ch at_ = 41) {vs' : List px_V}
    (hc : px_to (px_close (w :: (List.replicate k (126, 1) ++ ws), vs, L)) r fun z => z.2.1 = List.replicate k (126, 1) ++ ws ∧ z.2.2.1 = vs' ∧ px_to (px_pick ch z.1 (at_ + 1)) r fun y => px_to (px_negs k y.1 z.2.2.2) r fun x => px_Ev ch len true y.2 (x.1 :: vs') ws (op - 1) tg vars x.2 r) :
    px_Ev ch len true at_ vs (w :: (List.replicate k (126, 1) ++ ws)) op tg vars L r := by
  have key : ∃ n, px_k (px_close (w :: (List.replicate k (126, 1) ++ ws), vs, L)) (fun z => px_k (px_pick ch z.1 (at_ + 1)) fun s => px_k (px_unneg z.2.1 s.1 z.2.2.2) fun y =>
      px_run ch len n true s.2 (y.1 :: z.2.2.1) y.2.2 (op - 1) tg vars y.2.1) = some r := by
    refine px_k_ex (f := fun n z => px_k (px_pick ch z.1 (at_ + 1)) fun s => px_k (px_unneg z.2.1 s.1 z.2.2.2) fun y => px_run ch len n true s.2 (y.1 :: z.2.2.1) y.2.2 (op - 1) tg vars y.2.1) (px_to_imp hc fun z hz hp => ?_)
    obtain ⟨e1, e2, hp⟩ := hp
    refine px_k_ex (f := fun n s => px_k (px_unneg z.2.1 s.1 z.2.2.2) fun y => px_run ch len n true s.2 (y.1 :: z.2.2.1) y.2.2 (op - 1) tg vars y.2.1) (px_to_imp hp fun y hy hp => ?_)
    rw [e1, e2]
    exact px_k_ex (f := fun n q => px_run ch len n true y.2 (q.1 :: vs') q.2.2 (op - 1) tg vars q.2.1) (px_to_unneg hb hp)
  obtain ⟨n, e⟩ := key
  exact ⟨n + 1, by rw [px_run, if_neg (by omega), if_pos h, px_settle_t hw]; exact e⟩
/-- a bracket is left open -/
theorem ev_left {w : Int32 × Nat} (hw : px_b2 (w :: ws)) (h1 : ch at_ ≠ 41) (h2 : px_nop (ch at_)) (h3 : ch at_ ≠ 44 ∨ px_isfn w.1 = false) : px_Ev ch len true at_ vs (w :: ws) op tg vars L none := by
  refine ⟨0 + 1, ?_⟩
  rw [px_run, px_settle_t hw]
  by_cases hl : len ≤ at_
  · rw [if_pos hl]
    rfl
  · rw [if_neg hl, if_neg h1, if_neg (fun z => z.elim h2.2.2.1 h2.2.2.2), if_neg (fun z => z.elim h2.1 h2.2.1)]
    by_cases h44 : ch at_ = 44
    · rw [if_pos h44]
      have h5 : px_isfn w.1 = false := h3.elim (fun q => absurd h44 q) id
      have h6 : px_comma (w :: ws) = none := by rw [px_comma, if_neg (by rw [h5]; decide)]
      show px_k (px_comma (w :: ws)) _ = some none
      rw [h6]
      rfl
    · rw [if_neg h44]
      by_cases h59 : ch at_ = 59
      · rw [if_pos h59]
        cases tg <;> rfl
      · rw [if_neg h59]
theorem ev_stop {v : px_V} (hl : at_ < len) (h2 : px_nop (ch at_)) (h3 : ch at_ ≠ 59 ∨ tg = none) : px_Ev ch len true at_ [v] [] op tg vars L none := by
  refine ⟨0 + 1, ?_⟩
  rw [px_run, if_neg (by omega)]
  by_cases h41 : ch at_ = 41
  · rw [if_pos h41]
    rfl
  · rw [if_neg h41, if_neg (fun z => z.elim h2.2.2.1 h2.2.2.2), if_neg (fun z => z.elim h2.1 h2.2.1)]
    by_cases h44 : ch at_ = 44
    · rw [if_pos h44]
      rfl
    · rw [if_neg h44]
      by_cases h59 : ch at_ = 59
      · rw [if_pos h59]
        have h5 : tg = none := h3.elim (fun q => absurd h59 q) id
        subst h5
        rfl
      · rw [if_neg h59]
theorem ev_comma {w : Int32 × Nat} (hw : px_b2 (w :: ws)) (hl : at_ < len) (h : ch at_ = 44) (hf : px_isfn w.1 = true) (e : px_Ev ch len false (at_ + 1) vs ((w.1, w.2 + 1) :: ws) op tg vars L r) : px_Ev ch len true at_ vs (w :: ws) op tg vars L r := by
  obtain ⟨n, e⟩ := e
  refine ⟨n + 1, ?_⟩
  rw [px_run, if_neg (by omega), if_neg (by rw [h]; decide), if_neg (by rw [h]; decide), if_neg (by rw [h]; decide), if_pos h, px_settle_t hw]
  have h6 : px_comma (w :: ws) = some ((w.1, w.2 + 1) :: ws) := by rw [px_comma, if_pos hf]
  show px_k (px_comma (w :: ws)) _ = some r
  rw [h6]
  exact e
theorem ev_mulOp (hw : px_b1 ws) (hl : at_ < len) (h : ch at_ = 42 ∨ ch at_ = 47) (e : px_Ev ch len false (at_ + 1) vs ((ch at_, 1) :: ws) op tg vars L r) : px_Ev ch len true at_ vs ws op tg vars L r := by
  obtain ⟨n, e⟩ := e
  have h1 : ch at_ ≠ 41 := by rcases h with h | h <;> rw [h] <;> decide
  have h2 : ¬ (ch at_ = 43 ∨ ch at_ = 45) := by rcases h with h | h <;> rw [h] <;> decide
  refine ⟨n + 1, ?_⟩
  rw [px_run, if_neg (by omega), if_neg h1, if_neg h2, if_pos h, px_settle_f hw]
  exact e
theorem ev_addOp (hw : px_b2 ws) (hl : at_ < len) (h : ch at_ = 43 ∨ ch at_ = 45) (e : px_Ev ch len false (at_ + 1) vs ((ch at_, 1) :: ws) op tg vars L r) : px_Ev ch len true at_ vs ws op tg vars L r := by
  obtain ⟨n, e⟩ := e
  have h1 : ch at_ ≠ 41 := by rcases h with h | h <;> rw [h] <;> decide
  refine ⟨n + 1, ?_⟩
  rw [px_run, if_neg (by omega), if_neg h1, if_pos h, px_settle_t hw]
  exact e
/-- a waiting '*' or '/' is settled at once, whatever comes; a waiting '+' or '-' if no '*' or '/' comes -/
theorem px_run_op {n : Nat} {c : Int32} {k : Nat} {a b : px_V} (hc : c = 42 ∨ c = 47 ∨ ((c = 43 ∨ c = 45) ∧ ch at_ ≠ 42 ∧ ch at_ ≠ 47)) :
    px_run ch len (n + 1) true at_ (b :: a :: vs) ((c, k) :: ws) op tg vars L = px_k (px_bin c a b L) fun q => px_run ch len (n + 1) true at_ (q.1 :: vs) ws op tg vars q.2 := by
  have ht : px_settle true ((c, k) :: ws) (b :: a :: vs) L = (px_bin c a b L).bind fun q => px_settle true ws (q.1 :: vs) q.2 := by
    rw [px_settle, if_pos]
    · rfl
    rcases hc with e | e | e
    · exact Or.inl e
    · exact Or.inr (Or.inl e)
    · exact Or.inr (Or.inr ⟨rfl, e.1⟩)
  have hf : ch at_ = 42 ∨ ch at_ = 47 → px_settle false ((c, k) :: ws) (b :: a :: vs) L = (px_bin c a b L).bind fun q => px_settle false ws (q.1 :: vs) q.2 := by
    intro hm
    rw [px_settle, if_pos]
    · rfl
    rcases hc with e | e | e
    · exact Or.inl e
    · exact Or.inr (Or.inl e)
    · exact absurd hm (fun z => z.elim e.2.1 e.2.2)
  by_cases hm : ch at_ = 42 ∨ ch at_ = 47
  · have hf := hf hm
    cases hb : px_bin c a b L with
    | none =>
      rw [hb] at ht hf
      rw [px_run, ht, hf]
      simp [px_k]
    | some q =>
      rw [hb] at ht hf
      show _ = px_run ch len (n + 1) true at_ (q.1 :: vs) ws op tg vars q.2
      rw [px_run, px_run, ht, hf]
      rfl
  · cases hb : px_bin c a b L with
    | none =>
      rw [hb] at ht
      rw [px_run, ht, if_neg (c := ch at_ = 42 ∨ ch at_ = 47) hm]
      simp [px_k]
    | some q =>
      rw [hb] at ht
      show _ = px_run ch len (n + 1) true at_ (q.1 :: vs) ws op tg vars q.2
      rw [px_run, px_run, ht, if_neg (c := ch at_ = 42 ∨ ch at_ = 47) hm, if_neg (c := ch at_ = 42 ∨ ch at_ = 47) hm]
      rfl
theorem ev_op {c : Int32} {k : Nat} {a b : px_V} (hc : c = 42 ∨ c = 47 ∨ ((c = 43 ∨ c = 45) ∧ ch at_ ≠ 42 ∧ ch at_ ≠ 47)) (h : px_to (px_bin c a b L) r fun q => px_Ev ch len true at_ (q.1 :: vs) ws op tg vars q.2 r) : px_Ev ch len true at_ (b :: a :: vs) ((c, k) :: ws) op tg vars L r := by
  cases hb : px_bin c a b L with
  | none =>
    rw [hb] at h
    have h : r = none := h
    exact ⟨0 + 1, by rw [px_run_op hc, hb, h]; rfl⟩
  | some q =>
    rw [hb] at h
    obtain ⟨n, e⟩ := h
    cases n with
    | zero => rw [px_run] at e; cases e
    | succ n => exact ⟨n + 1, by rw [px_run_op hc, hb]; exact e⟩
end PXS
/-- what it is to be simulated -/
def px_Good (ch : Nat → Int32) (len : Nat) (tg : Option Nat) (vars : Nat → Option px_V) (P : px_P) (op : Nat) (B : List (Int32 × Nat) → Prop) : Prop :=
  ∀ (at_ : Nat) (L : px_L) (vs : List px_V) (ws : List (Int32 × Nat)) (r : Option px_R), B ws → px_to (P at_ L) r (fun x => px_Ev ch len true x.2.1 (x.1 :: vs) ws op tg vars x.2.2 r) → px_Ev ch len false at_ vs ws op tg vars L r
section PXG
variable {ch : Nat → Int32} {len : Nat} {op : Nat} {tg : Option Nat} {vars : Nat → Option px_V} {inner : px_P}
theorem ev_args (hz : ∀ k, len ≤ k → ch k = 0) (hg : px_Good ch len tg vars inner (op + 1) px_b2) (hok : px_ok2 ch len inner) {f : Int32} (hf : px_isfn f = true) {k : Nat} {ws : List (Int32 × Nat)} (hb : px_b0 ws) {vs : List px_V} {r : Option px_R} :
    ∀ (n : Nat) (acc : List px_V) (at_ : Nat) (L : px_L), len < n + at_ →
      px_to (px_args ch inner n acc at_ L) r (fun x => px_to (px_fn f x.1 x.2.2) r fun q => px_to (px_pick ch q.1 x.2.1) r fun y => px_to (px_negs k y.1 q.2) r fun z => px_Ev ch len true y.2 (z.1 :: vs) ws op tg vars z.2 r) →
      px_Ev ch len false at_ (acc.reverse ++ vs) ((f, acc.length + 1) :: (List.replicate k (126, 1) ++ ws)) (op + 1) tg vars L r := by
  have hwf : ∀ j, px_b2 ((f, j) :: (List.replicate k (126, 1) ++ ws)) := by
    intro j w hw
    cases hw
    exact ⟨pxf_fn_ne hf (by decide), pxf_fn_ne hf (by decide), pxf_fn_ne hf (by decide), pxf_fn_ne hf (by decide), pxf_fn_ne hf (by decide)⟩
  intro n
  induction n with
  | zero =>
    intro acc at_ L hn h
    have h : r = none := h
    have h0 : ch at_ = 0 := hz at_ (by omega)
    rw [h]
    exact ev_bad (by rw [h0]; decide) (by rw [h0]; decide) (fun q => absurd q.1 (by rw [h0]; decide)) (by rw [h0]; decide) (by rw [h0]; decide)
  | succ n ih =>
    intro acc at_ L hn h
    refine hg at_ L _ _ r (hwf _) ?_
    rw [px_args, px_to_bind] at h
    refine px_to_imp h fun x hx hp => ?_
    have h1 := hok.1 _ _ _ hx
    have h2 := hok.2 _ _ _ hx
    by_cases h44 : ch x.2.1 = 44
    · rw [if_pos h44] at hp
      have h3 := pxf_eql hz h44 (by decide)
      have h4 := ih (acc ++ [x.1]) (x.2.1 + 1) x.2.2 (by omega) hp
      rw [List.reverse_append, List.length_append] at h4
      exact ev_comma (hwf _) h3 h44 hf h4
    · rw [if_neg h44] at hp
      by_cases h41 : ch x.2.1 = 41
      · rw [if_pos h41] at hp
        have h3 := pxf_eql hz h41 (by decide)
        refine ev_close (vs' := vs) hb (hwf _) h3 h41 ?_
        have he : px_close ((f, acc.length + 1) :: (List.replicate k (126, 1) ++ ws), x.1 :: (acc.reverse ++ vs), x.2.2) = (px_fn f (acc ++ [x.1]) x.2.2).bind fun q => some (q.1, List.replicate k (126, 1) ++ ws, vs, q.2) := by
          have e1 : (x.1 :: (acc.reverse ++ vs)).take (acc.length + 1) = x.1 :: acc.reverse := by
            rw [List.take_succ_cons, List.take_left' (List.length_reverse)]
          have e2 : (x.1 :: (acc.reverse ++ vs)).drop (acc.length + 1) = vs := by
            rw [List.drop_succ_cons, List.drop_left' (List.length_reverse)]
          unfold px_close
          dsimp only
          rw [if_neg (pxf_fn_ne hf (by decide)), if_pos ⟨hf, by simp⟩, e1, e2, List.reverse_cons, List.reverse_reverse]
        rw [he, px_to_bind]
        refine px_to_imp hp fun q hq hp => ?_
        exact ⟨rfl, rfl, hp⟩
      · rw [if_neg h41] at hp
        have hp : r = none := hp
        rw [hp]
        exact ev_left (hwf _) h41 h2 (Or.inl h44)
theorem good_unit (hz : ∀ k, len ≤ k → ch k = 0) (hlen : len ≤ 160) (hin : (5 ≤ op ∧ inner = fun _ _ => none) ∨ (op < 5 ∧ px_Good ch len tg vars inner (op + 1) px_b2)) (hok : px_ok2 ch len inner) :
    px_Good ch len tg vars (px_unit ch vars inner) op px_b0 := by
  intro at_ L vs ws r hb h
  have hsig : ∀ (n a k : Nat), px_Ev ch len false (px_signs ch n a k).2 vs (List.replicate (px_signs ch n a k).1 (126, 1) ++ ws) op tg vars L r → px_Ev ch len false a vs (List.replicate k (126, 1) ++ ws) op tg vars L r := by
    intro n
    induction n with
    | zero => intro a k e; exact e
    | succ n ih =>
      intro a k e
      rw [px_signs] at e
      by_cases h45 : ch a = 45
      · rw [if_pos h45] at e
        exact ev_neg h45 (ih (a + 1) (k + 1) e)
      · rw [if_neg h45] at e
        exact e
  have h45 := (pxf_signs hz 160 at_ 0).2 (by omega)
  refine hsig 160 at_ 0 ?_
  unfold px_unit at h
  rw [px_to_bind] at h
  generalize (px_signs ch 160 at_ 0).1 = k at h ⊢
  generalize (px_signs ch 160 at_ 0).2 = a at h h45 ⊢
  have h : px_to (px_core ch vars inner a L) r fun x => px_to (px_negs k x.1 x.2.2) r fun z => px_Ev ch len true x.2.1 (z.1 :: vs) ws op tg vars z.2 r := px_to_imp h fun x hx hp => px_to_bind.mp hp
  unfold px_core at h
  by_cases hd : px_dig (ch a) = true
  · rw [if_pos hd, px_to_bind] at h
    refine ev_num hz hb hd (px_to_imp h fun x hx hp => ?_)
    have hp := px_to_bind.mp hp
    exact hp
  · rw [if_neg hd, px_to_bind] at h
    have h : px_to (px_part ch vars inner a L) r fun x => px_to (px_pick ch x.1 x.2.1) r fun y => px_to (px_negs k y.1 x.2.2) r fun z => px_Ev ch len true y.2 (z.1 :: vs) ws op tg vars z.2 r := px_to_imp h fun x hx hp => px_to_bind.mp hp
    unfold px_part at h
    by_cases hs : px_small (ch a) = true
    · rw [if_pos hs, px_to_bind] at h
      exact ev_let hb hs h
    · rw [if_neg hs] at h
      by_cases h40 : ch a = 40
      · rw [if_pos h40, px_to_bind] at h
        rcases hin with ⟨h5, hi⟩ | ⟨h5, hg⟩
        · rw [hi] at h
          have h : r = none := h
          rw [h]
          exact ev_open5 h40 h5
        · have hw : px_b2 ((40, 1) :: (List.replicate k (126, 1) ++ ws)) := by
            intro w hw
            cases hw
            decide
          refine ev_open h40 h5 (hg _ _ _ _ r hw (px_to_imp h fun x hx hp => ?_))
          by_cases h41 : ch x.2.1 = 41
          · rw [if_pos h41] at hp
            have h3 := pxf_eql hz h41 (by decide)
            refine ev_close (vs' := vs) hb hw h3 h41 ?_
            exact ⟨rfl, rfl, hp⟩
          · rw [if_neg h41] at hp
            have hp : r = none := hp
            rw [hp]
            exact ev_left hw h41 (hok.2 _ _ _ hx) (Or.inr (by decide))
      · rw [if_neg h40] at h
        by_cases hf : px_isfn (ch a) = true ∧ ch (a + 1) = 40
        · rw [if_pos hf, px_to_bind] at h
          have h := px_to_imp h fun x hx hp => px_to_bind.mp hp
          rcases hin with ⟨h5, hi⟩ | ⟨h5, hg⟩
          · have hn : px_args ch inner 161 [] (a + 2) L = none := by rw [hi]; rfl
            rw [hn] at h
            have h : r = none := h
            rw [h]
            exact ev_fn5 hf h5
          · refine ev_fn hf h5 (ev_args hz hg hok hf.1 hb 161 [] (a + 2) L (by omega) h)
        · rw [if_neg hf] at h
          have h : r = none := h
          rw [h]
          exact ev_bad h45 h40 hf hd hs
theorem good_prod (hz : ∀ k, len ≤ k → ch k = 0) (hlen : len ≤ 160) (hok : px_ok1 len inner) (hu : px_Good ch len tg vars (px_unit ch vars inner) op px_b0) : px_Good ch len tg vars (px_prod ch vars inner) op px_b1 := by
  intro at_ L vs ws r hb h
  have hloop : ∀ (n : Nat) (v : px_V) (a : Nat) (L : px_L), a ≤ len → len < n + a → px_to (px_prodL ch vars inner n v a L) r (fun x => px_Ev ch len true x.2.1 (x.1 :: vs) ws op tg vars x.2.2 r) → px_Ev ch len true a (v :: vs) ws op tg vars L r := by
    intro n
    induction n with
    | zero => intro v a L h1 h2; omega
    | succ n ih =>
      intro v a L h1 h2 h
      rw [px_prodL] at h
      by_cases hc : ch a = 42 ∨ ch a = 47
      · rw [if_pos hc, px_to_bind] at h
        have hl : a < len := hc.elim (fun q => pxf_eql hz q (by decide)) (fun q => pxf_eql hz q (by decide))
        refine ev_mulOp hb hl hc (hu _ _ _ _ r ?_ (px_to_imp h fun x hx hp => ?_))
        · intro w hw
          cases hw
          show ch a ≠ 126
          rcases hc with q | q <;> rw [q] <;> decide
        · have h3 := pxf_unit hz hok _ _ _ hx
          refine ev_op (hc.elim (fun q => Or.inl q) (fun q => Or.inr (Or.inl q))) ?_
          refine px_to_imp (px_to_bind.mp hp) fun q hq hp => ?_
          exact ih _ _ _ h3.2 (by omega) hp
      · rw [if_neg hc] at h
        exact h
  unfold px_prod at h
  rw [px_to_bind] at h
  refine hu _ _ _ _ r hb.b0 (px_to_imp h fun x hx hp => ?_)
  have h3 := pxf_unit hz hok _ _ _ hx
  exact hloop 160 _ _ _ h3.2 (by omega) hp
theorem good_sum (hz : ∀ k, len ≤ k → ch k = 0) (hlen : len ≤ 160) (hok : px_ok1 len inner) (hu : px_Good ch len tg vars (px_prod ch vars inner) op px_b1) : px_Good ch len tg vars (px_sum ch vars inner) op px_b2 := by
  intro at_ L vs ws r hb h
  have hloop : ∀ (n : Nat) (v : px_V) (a : Nat) (L : px_L), a ≤ len → len < n + a → px_to (px_sumL ch vars inner n v a L) r (fun x => px_Ev ch len true x.2.1 (x.1 :: vs) ws op tg vars x.2.2 r) → px_Ev ch len true a (v :: vs) ws op tg vars L r := by
    intro n
    induction n with
    | zero => intro v a L h1 h2; omega
    | succ n ih =>
      intro v a L h1 h2 h
      rw [px_sumL] at h
      by_cases hc : ch a = 43 ∨ ch a = 45
      · rw [if_pos hc, px_to_bind] at h
        have hl : a < len := hc.elim (fun q => pxf_eql hz q (by decide)) (fun q => pxf_eql hz q (by decide))
        refine ev_addOp hb hl hc (hu _ _ _ _ r ?_ (px_to_imp h fun x hx hp => ?_))
        · intro w hw
          cases hw
          show ch a ≠ 126 ∧ ch a ≠ 42 ∧ ch a ≠ 47
          rcases hc with q | q <;> rw [q] <;> decide
        · have h3 := pxf_prod hz hok hx
          refine ev_op (Or.inr (Or.inr ⟨hc, h3.2.2⟩)) ?_
          refine px_to_imp (px_to_bind.mp hp) fun q hq hp => ?_
          exact ih _ _ _ h3.2.1 (by omega) hp
      · rw [if_neg hc] at h
        exact h
  unfold px_sum at h
  rw [px_to_bind] at h
  refine hu _ _ _ _ r hb.b1 (px_to_imp h fun x hx hp => ?_)
  have h3 := pxf_prod hz hok hx
  exact hloop 160 _ _ _ h3.2.1 (by omega) hp
theorem good_sumD (hz : ∀ k, len ≤ k → ch k = 0) (hlen : len ≤ 160) : ∀ (d op : Nat), d + op = 5 → px_Good ch len tg vars (px_sumD ch vars d) op px_b2 := by
  intro d
  induction d with
  | zero =>
    intro op ho
    have hok : px_ok2 ch len (fun _ _ => none) := ⟨fun _ _ _ h => (by cases h), fun _ _ _ h => (by cases h)⟩
    exact good_sum hz hlen hok.1 (good_prod hz hlen hok.1 (good_unit hz hlen (Or.inl ⟨by omega, rfl⟩) hok))
  | succ d ih =>
    intro op ho
    have hok : px_ok2 ch len (px_sumD ch vars d) := pxf_sumD hz d
    exact good_sum hz hlen hok.1 (good_prod hz hlen hok.1 (good_unit hz hlen (Or.inr ⟨by omega, ih (op + 1) (by omega)⟩) hok))
/-- a text's end, or its next assignment -/
def px_EvB (ch : Nat → Int32) (len : Nat) (at_ : Nat) (vars : Nat → Option px_V) (L : px_L) (r : Option px_R) : Prop :=
  if px_asg ch at_ = true then (if px_given (ch at_) = true then r = none else px_Ev ch len false (at_ + 2) [] [] 0 (some (px_ix (ch at_))) vars L r)
  else px_Ev ch len false at_ [] [] 0 none vars L r
theorem ev_semi {at_ : Nat} {v : px_V} {L : px_L} {r : Option px_R} {l : Nat} (hl : at_ < len) (h : ch at_ = 59) (e : px_EvB ch len (at_ + 1) (px_set vars l v) L r) : px_Ev ch len true at_ [v] [] 0 (some l) vars L r := by
  have hs : ∀ n, px_run ch len (n + 1) true at_ [v] [] 0 (some l) vars L = if px_asg ch (at_ + 1) = true then
            (if px_given (ch (at_ + 1)) = true then some none else px_run ch len n false (at_ + 3) [] [] 0 (some (px_ix (ch (at_ + 1)))) (px_set vars l v) L)
            else px_run ch len n false (at_ + 1) [] [] 0 none (px_set vars l v) L := by
    intro n
    rw [px_run, if_neg (by omega), if_neg (by rw [h]; decide), if_neg (by rw [h]; decide), if_neg (by rw [h]; decide), if_neg (by rw [h]; decide), if_pos h]
    rfl
  unfold px_EvB at e
  by_cases h1 : px_asg ch (at_ + 1) = true
  · rw [if_pos h1] at e
    by_cases h2 : px_given (ch (at_ + 1)) = true
    · rw [if_pos h2] at e
      exact ⟨0 + 1, by rw [hs, if_pos h1, if_pos h2, e]⟩
    · rw [if_neg h2] at e
      obtain ⟨n, e⟩ := e
      exact ⟨n + 1, by rw [hs, if_pos h1, if_neg h2]; exact e⟩
  · rw [if_neg h1] at e
    obtain ⟨n, e⟩ := e
    exact ⟨n + 1, by rw [hs, if_neg h1]; exact e⟩
theorem ev_fin (hz : ∀ k, len ≤ k → ch k = 0) (hlen : len ≤ 160) (at_ : Nat) (vars : Nat → Option px_V) (L : px_L) : px_Ev ch len false at_ [] [] 0 none vars L (px_fin ch len at_ vars L) := by
  refine good_sumD hz hlen 5 0 rfl at_ L [] [] _ (fun w hw => by cases hw) ?_
  unfold px_fin
  have hok := pxf_sumD (vars := vars) hz 5
  cases hx : px_sumD ch vars 5 at_ L with
  | none => rfl
  | some x =>
    have h1 := hok.1 _ _ _ hx
    have h2 := hok.2 _ _ _ hx
    show px_Ev ch len true x.2.1 [x.1] [] 0 none vars x.2.2 (if x.2.1 = len ∧ x.1.length = 3 then some (x.1, x.2.2, vars) else none)
    by_cases hl : len ≤ x.2.1
    · have e1 : x.2.1 = len := by omega
      refine ⟨0 + 1, ?_⟩
      rw [px_run, if_pos hl]
      show some (if (none : Option Nat) = none ∧ x.1.length = 3 then some (x.1, x.2.2, vars) else none) = _
      simp [e1]
    · rw [if_neg (c := x.2.1 = len ∧ x.1.length = 3) (fun q => hl (by omega))]
      exact ev_stop (by omega) h2 (Or.inr rfl)
theorem ev_prog (hz : ∀ k, len ≤ k → ch k = 0) (hlen : len ≤ 160) : ∀ (n at_ : Nat) (vars : Nat → Option px_V) (L : px_L), len ≤ n + at_ → px_EvB ch len at_ vars L (px_prog ch len n at_ vars L) := by
  intro n
  induction n with
  | zero =>
    intro at_ vars L hn
    have h0 : ch at_ = 0 := hz at_ (by omega)
    unfold px_EvB
    rw [if_neg (by unfold px_asg; rw [h0, show px_small 0 = false by decide]; simp), px_prog]
    exact ev_fin hz hlen at_ vars L
  | succ n ih =>
    intro at_ vars L hn
    unfold px_EvB
    rw [px_prog]
    by_cases h1 : px_asg ch at_ = true
    · rw [if_pos h1, if_pos h1]
      by_cases h2 : px_given (ch at_) = true
      · rw [if_pos h2, if_pos h2]
      · rw [if_neg h2, if_neg h2]
        refine good_sumD hz hlen 5 0 rfl (at_ + 2) L [] [] _ (fun w hw => by cases hw) ?_
        have hok := pxf_sumD (vars := vars) hz 5
        cases hx : px_sumD ch vars 5 (at_ + 2) L with
        | none => rfl
        | some x =>
          have h3 := hok.1 _ _ _ hx
          have h4 := hok.2 _ _ _ hx
          show px_Ev ch len true x.2.1 [x.1] [] 0 (some (px_ix (ch at_))) vars x.2.2 (if ch x.2.1 = 59 then px_prog ch len n (x.2.1 + 1) (px_set vars (px_ix (ch at_)) x.1) x.2.2 else none)
          by_cases h59 : ch x.2.1 = 59
          · rw [if_pos h59]
            exact ev_semi (pxf_eql hz h59 (by decide)) h59 (ih _ _ _ (by omega))
          · rw [if_neg h59]
            by_cases hl : len ≤ x.2.1
            · refine ⟨0 + 1, ?_⟩
              rw [px_run, if_pos hl]
              rfl
            · exact ev_stop (by omega) h4 (Or.inl h59)
    · rw [if_neg h1, if_neg h1]
      exact ev_fin hz hlen at_ vars L
end PXG
