/-! The pure layer: instructions, values, the grammar (recursive descent that stops at the first wrong piece), the reference's stacks. -/
abbrev px_I : Type := Int32 × Int32 × Int32
abbrev px_L : Type := List px_I
abbrev px_V : Type := List Nat
def px_find : px_L → px_I → Option Nat
  | [], _ => none
  | x :: l, i => if x = i then some 0 else (px_find l i).map (fun k => k + 1)
def px_put (L : px_L) (i : px_I) : Option (Nat × px_L) := match px_find L i with
  | some k => some (k, L)
  | none => if L.length = 100 then none else some (L.length, L ++ [i])
def px_puts : px_L → List px_I → Option (px_V × px_L)
  | L, [] => some ([], L)
  | L, i :: is => (px_put L i).bind fun r => (px_puts r.2 is).bind fun q => some (r.1 :: q.1, q.2)
def px_at (v : px_V) (i : Nat) : Int32 := nI (v.getD i 0)
def px_sp (v : px_V) (i : Nat) : Int32 := px_at v (if v.length = 1 then 0 else i)
def px_pair (kind : Int32) (a b : px_V) (L : px_L) : Option (px_V × px_L) :=
  if a.length ≠ b.length ∧ a.length ≠ 1 ∧ b.length ≠ 1 then none
  else px_puts L ((List.range (max a.length b.length)).map fun i => (kind, px_sp a i, px_sp b i))
def px_each (kind : Int32) (v : px_V) (L : px_L) : Option (px_V × px_L) := px_puts L (v.map fun p => (kind, nI p, 0))
def px_cell (a b : px_V) (j r : Nat) (L : px_L) : Option (Nat × px_L) :=
  (px_put L (4, px_at a r, px_at b (2 * j))).bind fun x => (px_put x.2 (4, px_at a (2 + r), px_at b (2 * j + 1))).bind fun y => px_put y.2 (2, nI x.1, nI y.1)
def px_cells (a b : px_V) : List (Nat × Nat) → px_L → Option (px_V × px_L)
  | [], L => some ([], L)
  | i :: is, L => (px_cell a b i.1 i.2 L).bind fun r => (px_cells a b is r.2).bind fun q => some (r.1 :: q.1, q.2)
def px_times (a b : px_V) (L : px_L) : Option (px_V × px_L) :=
  if a.length = 4 ∧ (b.length = 2 ∨ b.length = 4) then px_cells a b (if b.length = 2 then [(0, 0), (0, 1)] else [(0, 0), (0, 1), (1, 0), (1, 1)]) L
  else px_pair 4 a b L
def px_div (a b : px_V) (L : px_L) : Option (px_V × px_L) := if b.length = 4 then none else px_pair 5 a b L
def px_bin (c : Int32) (a b : px_V) (L : px_L) : Option (px_V × px_L) :=
  if c = 43 then px_pair 2 a b L else if c = 45 then px_pair 3 a b L else if c = 42 then px_times a b L else px_div a b L
def px_dotL (a b : px_V) : List Nat → Nat → px_L → Option (Nat × px_L)
  | [], t, L => some (t, L)
  | i :: is, t, L => (px_put L (4, px_at a i, px_at b i)).bind fun x => (px_put x.2 (2, nI t, nI x.1)).bind fun y => px_dotL a b is y.1 y.2
def px_dot (a b : px_V) (L : px_L) : Option (px_V × px_L) :=
  if a.length ≠ b.length ∨ 3 < a.length then none
  else (px_put L (4, px_at a 0, px_at b 0)).bind fun x => (px_dotL a b ((List.range (a.length - 1)).map (fun i => i + 1)) x.1 x.2).bind fun y => some ([y.1], y.2)
def px_join (args : List px_V) (L : px_L) : Option (px_V × px_L) :=
  if args.length ≤ 3 ∧ 2 ≤ args.flatten.length ∧ args.flatten.length ≤ 3 then some (args.flatten, L) else none
def px_fn (f : Int32) (args : List px_V) (L : px_L) : Option (px_V × px_L) :=
  if f = 86 then px_join args L
  else match args with
    | [a] => if f = 65 then px_each 10 a L else if f = 70 then px_each 11 a L else none
    | [a, b] => if f = 78 then px_pair 6 a b L else if f = 88 then px_pair 7 a b L else if f = 83 then px_pair 8 a b L else if f = 68 then px_dot a b L
        else if f = 77 then (if a.length = 2 ∧ b.length = 2 then some (a ++ b, L) else none) else none
    | _ => none
def px_dig (c : Int32) : Bool := decide (48 ≤ c) && decide (c ≤ 57)
def px_small (c : Int32) : Bool := decide (97 ≤ c) && decide (c ≤ 122)
def px_plc (c : Int32) : Bool := decide (120 ≤ c) && decide (c ≤ 122)
def px_isfn (c : Int32) : Bool := c == 65 || c == 70 || c == 78 || c == 88 || c == 83 || c == 68 || c == 86 || c == 77
def px_given (c : Int32) : Bool := px_plc c || c == 116 || c == 99
def px_ix (c : Int32) : Nat := (c - 97).toNatClampNeg
def px_letter (vars : Nat → Option px_V) (c : Int32) (L : px_L) : Option (px_V × px_L) :=
  if c = 120 then px_puts L [(1, 0, 0)] else if c = 121 then px_puts L [(1, 1, 0)] else if c = 116 then px_puts L [(1, 2, 0)]
  else if c = 99 then px_puts L [(1, 3, 0), (1, 4, 0), (1, 5, 0)]
  else (vars (px_ix c)).map fun v => (v, L)
section PX
variable (ch : Nat → Int32)
def px_digs : Nat → Nat → Int32 → Int32 → Nat × Int32 × Int32
  | 0, at_, a, s => (at_, a, s)
  | n + 1, at_, a, s => if px_dig (ch at_) = true then px_digs n (at_ + 1) (a * 10 + (ch at_ - 48)) (s * 10) else (at_, a, s)
def px_const (at_ : Nat) : Option (Int32 × Nat) :=
  if ch (px_digs ch 4 at_ 0 1).1 = 46 then
    (if (px_digs ch 4 ((px_digs ch 4 at_ 0 1).1 + 1) 0 1).1 = (px_digs ch 4 at_ 0 1).1 + 1 then none
     else some ((px_digs ch 4 at_ 0 1).2.1 * 65536 + (px_digs ch 4 ((px_digs ch 4 at_ 0 1).1 + 1) 0 1).2.1 * 65536 / (px_digs ch 4 ((px_digs ch 4 at_ 0 1).1 + 1) 0 1).2.2, (px_digs ch 4 ((px_digs ch 4 at_ 0 1).1 + 1) 0 1).1))
  else some ((px_digs ch 4 at_ 0 1).2.1 * 65536, (px_digs ch 4 at_ 0 1).1)
def px_places : Nat → Nat → List Nat
  | 0, _ => []
  | n + 1, at_ => if px_plc (ch at_) = true then (ch at_ - 120).toNatClampNeg :: px_places n (at_ + 1) else []
def px_pick (v : px_V) (at_ : Nat) : Option (px_V × Nat) :=
  if ch at_ = 46 then
    (if v.length = 4 ∨ px_places ch 3 (at_ + 1) = [] ∨ (px_places ch 3 (at_ + 1)).any (fun i => decide (v.length ≤ i)) = true then none
     else some ((px_places ch 3 (at_ + 1)).map (fun i => v.getD i 0), at_ + 1 + (px_places ch 3 (at_ + 1)).length))
  else some (v, at_)
def px_signs : Nat → Nat → Nat → Nat × Nat
  | 0, at_, k => (k, at_)
  | n + 1, at_, k => if ch at_ = 45 then px_signs n (at_ + 1) (k + 1) else (k, at_)
def px_negs : Nat → px_V → px_L → Option (px_V × px_L)
  | 0, v, L => some (v, L)
  | k + 1, v, L => (px_each 9 v L).bind fun r => px_negs k r.1 r.2
abbrev px_P : Type := Nat → px_L → Option (px_V × Nat × px_L)
def px_args (inner : px_P) : Nat → List px_V → Nat → px_L → Option (List px_V × Nat × px_L)
  | 0, _, _, _ => none
  | n + 1, acc, at_, L => (inner at_ L).bind fun r => if ch r.2.1 = 44 then px_args inner n (acc ++ [r.1]) (r.2.1 + 1) r.2.2
      else if ch r.2.1 = 41 then some (acc ++ [r.1], r.2.1 + 1, r.2.2) else none
variable (vars : Nat → Option px_V)
def px_part (inner : px_P) : px_P := fun at_ L =>
  if px_small (ch at_) = true then (px_letter vars (ch at_) L).bind fun r => some (r.1, at_ + 1, r.2)
  else if ch at_ = 40 then (inner (at_ + 1) L).bind fun r => if ch r.2.1 = 41 then some (r.1, r.2.1 + 1, r.2.2) else none
  else if px_isfn (ch at_) = true ∧ ch (at_ + 1) = 40 then (px_args ch inner 161 [] (at_ + 2) L).bind fun r => (px_fn (ch at_) r.1 r.2.2).bind fun q => some (q.1, r.2.1, q.2)
  else none
def px_core (inner : px_P) : px_P := fun at_ L =>
  if px_dig (ch at_) = true then (px_const ch at_).bind fun x => (px_put L (0, x.1, 0)).bind fun r => some ([r.1], x.2, r.2)
  else (px_part ch vars inner at_ L).bind fun r => (px_pick ch r.1 r.2.1).bind fun q => some (q.1, q.2, r.2.2)
def px_unit (inner : px_P) : px_P := fun at_ L =>
  (px_core ch vars inner (px_signs ch 160 at_ 0).2 L).bind fun r => (px_negs (px_signs ch 160 at_ 0).1 r.1 r.2.2).bind fun q => some (q.1, r.2.1, q.2)
def px_prodL (inner : px_P) : Nat → px_V → Nat → px_L → Option (px_V × Nat × px_L)
  | 0, _, _, _ => none
  | n + 1, v, at_, L => if ch at_ = 42 ∨ ch at_ = 47 then (px_unit ch vars inner (at_ + 1) L).bind fun r => (px_bin (ch at_) v r.1 r.2.2).bind fun q => px_prodL inner n q.1 r.2.1 q.2
      else some (v, at_, L)
def px_prod (inner : px_P) : px_P := fun at_ L => (px_unit ch vars inner at_ L).bind fun r => px_prodL ch vars inner 160 r.1 r.2.1 r.2.2
def px_sumL (inner : px_P) : Nat → px_V → Nat → px_L → Option (px_V × Nat × px_L)
  | 0, _, _, _ => none
  | n + 1, v, at_, L => if ch at_ = 43 ∨ ch at_ = 45 then (px_prod ch vars inner (at_ + 1) L).bind fun r => (px_bin (ch at_) v r.1 r.2.2).bind fun q => px_sumL inner n q.1 r.2.1 q.2
      else some (v, at_, L)
def px_sum (inner : px_P) : px_P := fun at_ L => (px_prod ch vars inner at_ L).bind fun r => px_sumL ch vars inner 160 r.1 r.2.1 r.2.2
def px_sumD : Nat → px_P
  | 0 => px_sum ch vars (fun _ _ => none)
  | d + 1 => px_sum ch vars (px_sumD d)
end PX
abbrev px_R : Type := px_V × px_L × (Nat → Option px_V)
def px_set (vars : Nat → Option px_V) (k : Nat) (v : px_V) : Nat → Option px_V := fun j => if j = k then some v else vars j
def px_asg (ch : Nat → Int32) (at_ : Nat) : Bool := px_small (ch at_) && (ch (at_ + 1) == 61)
def px_fin (ch : Nat → Int32) (len : Nat) (at_ : Nat) (vars : Nat → Option px_V) (L : px_L) : Option px_R :=
  (px_sumD ch vars 5 at_ L).bind fun x => if x.2.1 = len ∧ x.1.length = 3 then some (x.1, x.2.2, vars) else none
def px_prog (ch : Nat → Int32) (len : Nat) : Nat → Nat → (Nat → Option px_V) → px_L → Option px_R
  | 0, at_, vars, L => px_fin ch len at_ vars L
  | n + 1, at_, vars, L => if px_asg ch at_ = true then
      (if px_given (ch at_) = true then none else (px_sumD ch vars 5 (at_ + 2) L).bind fun x => if ch x.2.1 = 59 then px_prog ch len n (x.2.1 + 1) (px_set vars (px_ix (ch at_)) x.1) x.2.2 else none)
      else px_fin ch len at_ vars L
/-! the reference's run over its stacks (tops first) -/
def px_unneg : List (Int32 × Nat) → px_V → px_L → Option (px_V × px_L × List (Int32 × Nat))
  | [], v, L => some (v, L, [])
  | w :: ws, v, L => if w.1 = 126 then (px_each 9 v L).bind fun r => px_unneg ws r.1 r.2 else some (v, L, w :: ws)
def px_two : List px_V → Option (px_V × px_V × List px_V)
  | b :: a :: r => some (a, b, r)
  | _ => none
def px_settle (all : Bool) : List (Int32 × Nat) → List px_V → px_L → Option (List (Int32 × Nat) × List px_V × px_L)
  | [], vs, L => some ([], vs, L)
  | w :: ws, vs, L => if w.1 = 42 ∨ w.1 = 47 ∨ (all = true ∧ (w.1 = 43 ∨ w.1 = 45)) then
      (px_two vs).bind fun z => (px_bin w.1 z.1 z.2.1 L).bind fun q => px_settle all ws (q.1 :: z.2.2) q.2
      else some (w :: ws, vs, L)
def px_k {α ρ : Type} (x : Option α) (f : α → Option (Option ρ)) : Option (Option ρ) := match x with
  | none => some none
  | some a => f a
def px_close (q : List (Int32 × Nat) × List px_V × px_L) : Option (px_V × List (Int32 × Nat) × List px_V × px_L) := match q with
  | ([], _, _) => none
  | (w :: ws, vs, L) => if w.1 = 40 then (match vs with | [] => none | v :: r => some (v, ws, r, L))
      else if px_isfn w.1 = true ∧ w.2 ≤ vs.length then (px_fn w.1 (vs.take w.2).reverse L).bind fun r => some (r.1, ws, vs.drop w.2, r.2)
      else none
def px_end (tg : Option Nat) (vars : Nat → Option px_V) (q : List (Int32 × Nat) × List px_V × px_L) : Option px_R := match q with
  | ([], [v], L) => if tg = none ∧ v.length = 3 then some (v, L, vars) else none
  | _ => none
def px_comma : List (Int32 × Nat) → Option (List (Int32 × Nat))
  | [] => none
  | w :: ws => if px_isfn w.1 = true then some ((w.1, w.2 + 1) :: ws) else none
def px_semi : Option Nat → List (Int32 × Nat) × List px_V × px_L → Option (Nat × px_V × px_L)
  | some l, ([], [v], L) => some (l, v, L)
  | _, _ => none
def px_run (ch : Nat → Int32) (len : Nat) : Nat → Bool → Nat → List px_V → List (Int32 × Nat) → Nat → Option Nat → (Nat → Option px_V) → px_L → Option (Option px_R)
  | 0, _, _, _, _, _, _, _, _ => none
  | n + 1, false, at_, vs, ws, op, tg, vars, L =>
    if ch at_ = 45 then px_run ch len n false (at_ + 1) vs ((126, 1) :: ws) op tg vars L
    else if ch at_ = 40 then (if 5 ≤ op then some none else px_run ch len n false (at_ + 1) vs ((40, 1) :: ws) (op + 1) tg vars L)
    else if px_isfn (ch at_) = true ∧ ch (at_ + 1) = 40 then (if 5 ≤ op then some none else px_run ch len n false (at_ + 2) vs ((ch at_, 1) :: ws) (op + 1) tg vars L)
    else if px_dig (ch at_) = true then px_k (px_const ch at_) fun x => if px_dig (ch x.2) = true ∨ ch x.2 = 46 then some none else
      px_k (px_put L (0, x.1, 0)) fun r => px_k (px_unneg ws [r.1] r.2) fun q => px_run ch len n true x.2 (q.1 :: vs) q.2.2 op tg vars q.2.1
    else if px_small (ch at_) = true then px_k (px_letter vars (ch at_) L) fun r => px_k (px_pick ch r.1 (at_ + 1)) fun s => px_k (px_unneg ws s.1 r.2) fun q =>
      px_run ch len n true s.2 (q.1 :: vs) q.2.2 op tg vars q.2.1
    else some none
  | n + 1, true, at_, vs, ws, op, tg, vars, L =>
    if len ≤ at_ then px_k (px_settle true ws vs L) fun q => some (px_end tg vars q)
    else if ch at_ = 41 then px_k (px_settle true ws vs L) fun q => px_k (px_close q) fun z => px_k (px_pick ch z.1 (at_ + 1)) fun s => px_k (px_unneg z.2.1 s.1 z.2.2.2) fun y =>
      px_run ch len n true s.2 (y.1 :: z.2.2.1) y.2.2 (op - 1) tg vars y.2.1
    else if ch at_ = 43 ∨ ch at_ = 45 then px_k (px_settle true ws vs L) fun q => px_run ch len n false (at_ + 1) q.2.1 ((ch at_, 1) :: q.1) op tg vars q.2.2
    else if ch at_ = 42 ∨ ch at_ = 47 then px_k (px_settle false ws vs L) fun q => px_run ch len n false (at_ + 1) q.2.1 ((ch at_, 1) :: q.1) op tg vars q.2.2
    else if ch at_ = 44 then px_k (px_settle true ws vs L) fun q => px_k (px_comma q.1) fun ws' => px_run ch len n false (at_ + 1) q.2.1 ws' op tg vars q.2.2
    else if ch at_ = 59 then px_k (px_settle true ws vs L) fun q => px_k (px_semi tg q) fun z => if px_asg ch (at_ + 1) = true then
        (if px_given (ch (at_ + 1)) = true then some none else px_run ch len n false (at_ + 3) [] [] op (some (px_ix (ch (at_ + 1)))) (px_set vars z.1 z.2.1) z.2.2)
        else px_run ch len n false (at_ + 1) [] [] op none (px_set vars z.1 z.2.1) z.2.2
    else some none
