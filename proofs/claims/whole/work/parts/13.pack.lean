/-! a value in one int: four times 7 bits, the type above them -/
def pv_sum : px_V → Nat
  | [] => 0
  | p :: l => p + 128 * pv_sum l
def pv_n (v : px_V) : Nat := v.length * 268435456 + pv_sum v
def pv (v : px_V) : Int32 := nI (pv_n v)
/-- a value as the grammar makes it: one to four numbers, places of instructions -/
def pv_ok (v : px_V) : Prop := 1 ≤ v.length ∧ v.length ≤ 4 ∧ ∀ p ∈ v, p < 128
theorem pv_lt : ∀ (v : px_V), (∀ p ∈ v, p < 128) → pv_sum v < 128 ^ v.length := by
  intro v
  induction v with
  | nil => intro _; decide
  | cons p l ih =>
    intro h
    have h1 := ih (fun q hq => h q (List.mem_cons_of_mem _ hq))
    have h2 := h p List.mem_cons_self
    rw [pv_sum, List.length_cons, Nat.pow_succ]
    omega
theorem pv_lt4 {v : px_V} (h : pv_ok v) : pv_sum v < 268435456 := by
  have h1 := pv_lt v h.2.2
  have h2 : 128 ^ v.length ≤ 128 ^ 4 := Nat.pow_le_pow_right (by decide) h.2.1
  have h3 : (128 : Nat) ^ 4 = 268435456 := by decide
  omega
theorem pv_nlt {v : px_V} (h : pv_ok v) : pv_n v < 2 ^ 31 := by
  have h1 := pv_lt4 h
  have h2 := h.2.1
  unfold pv_n
  omega
theorem pv_ne {v : px_V} (h : pv_ok v) : ¬ pv v = -1 := by
  intro e
  have h1 : (pv v).toInt = pv_n v := nI_toInt (pv_nlt h)
  rw [e] at h1
  have h2 : ((-1 : Int32)).toInt = -1 := by decide
  omega
theorem pv_get : ∀ (v : px_V) (i : Nat), (∀ p ∈ v, p < 128) → pv_sum v / 128 ^ i % 128 = v.getD i 0 := by
  intro v
  induction v with
  | nil => intro i _; simp [pv_sum]
  | cons p l ih =>
    intro i h
    have h2 := h p List.mem_cons_self
    cases i with
    | zero =>
      rw [pv_sum]
      simp
      omega
    | succ i =>
      have h1 := ih i (fun q hq => h q (List.mem_cons_of_mem _ hq))
      rw [pv_sum, Nat.pow_succ, Nat.mul_comm (128 ^ i) 128, ← Nat.div_div_eq_div_mul, show (p + 128 * pv_sum l) / 128 = pv_sum l by omega, h1]
      simp
theorem pv_app : ∀ (v : px_V) (p : Nat), pv_sum (v ++ [p]) = pv_sum v + 128 ^ v.length * p := by
  intro v p
  induction v with
  | nil => simp [pv_sum]
  | cons q l ih =>
    rw [List.cons_append, pv_sum, ih, pv_sum, List.length_cons, Nat.pow_succ]
    rw [Nat.mul_add, Nat.mul_comm (128 ^ l.length) 128, Nat.mul_assoc]
    omega
theorem pv_or (a b : Nat) : nI a ||| nI b = nI (a ||| b) := by
  apply Int32.toBitVec_inj.mp
  show BitVec.ofNat 32 a ||| BitVec.ofNat 32 b = BitVec.ofNat 32 (a ||| b)
  apply BitVec.eq_of_toNat_eq
  simp [Nat.or_mod_two_pow]
theorem pv_type {v : px_V} (h : pv_ok v) : pv v >>> ((28 : Int32) &&& 31) = nI v.length := by
  have h1 := pv_lt4 h
  unfold pv
  rw [pk_shrN (pv_nlt h) _ 28 (by decide)]
  unfold pv_n
  rw [show (v.length * 268435456 + pv_sum v) / 2 ^ 28 = v.length by omega]
theorem pv_num {v : px_V} (h : pv_ok v) {i : Nat} (hi : i < 4) : (pv v >>> (((7 : Int32) * nI i) &&& 31)) &&& 127 = nI (v.getD i 0) := by
  have h1 := pv_get v i h.2.2
  have h2 := pv_nlt h
  have hk : ((((7 : Int32) * nI i) &&& 31).toBitVec.smod 32).toNat = 7 * i := by
    rcases (show i = 0 ∨ i = 1 ∨ i = 2 ∨ i = 3 by omega) with rfl | rfl | rfl | rfl <;> decide
  unfold pv
  rw [pk_shrN h2 _ _ hk, pk_andN (by have := Nat.div_le_self (pv_n v) (2 ^ (7 * i)); omega) 7 (by decide), ← h1]
  congr 1
  unfold pv_n
  rcases (show i = 0 ∨ i = 1 ∨ i = 2 ∨ i = 3 by omega) with rfl | rfl | rfl | rfl <;> simp <;> omega
/-- a number is set behind those that are set already -/
theorem pv_with {T i : Nat} {w : px_V} {p : Nat} (hT : T < 8) (hi : i < 4) (hw : w.length = i) (hp : p < 128) (hs : ∀ q ∈ w, q < 128) :
    nI (T * 268435456 + pv_sum w) ||| (nI p <<< (((7 : Int32) * nI i) &&& 31)) = nI (T * 268435456 + pv_sum (w ++ [p])) := by
  have h1 := pv_lt w hs
  rw [hw] at h1
  have hk : ((((7 : Int32) * nI i) &&& 31).toBitVec.smod 32).toNat = 7 * i := by
    rcases (show i = 0 ∨ i = 1 ∨ i = 2 ∨ i = 3 by omega) with rfl | rfl | rfl | rfl <;> decide
  have hpw : (2 : Nat) ^ (7 * i) = 128 ^ i := by rw [Nat.pow_mul]
  have h4 : 128 ^ (i + 1) ≤ 128 ^ 4 := Nat.pow_le_pow_right (by decide) (by omega)
  have h5 : (128 : Nat) ^ 4 = 268435456 := by decide
  have h6 : 128 ^ i * p + pv_sum w < 128 ^ (i + 1) := by
    rw [Nat.pow_succ]
    have : 128 ^ i * p ≤ 128 ^ i * 127 := Nat.mul_le_mul_left _ (by omega)
    omega
  rw [pk_shlN _ _ hk (by rw [hpw, Nat.mul_comm]; omega), pv_or, pv_app, hw, hpw]
  congr 1
  have e1 : T * 268435456 + pv_sum w = 2 ^ 28 * T ||| pv_sum w := by
    rw [← Nat.two_pow_add_eq_or_of_lt (by omega) T]
    omega
  have e2 : p * 128 ^ i ||| pv_sum w = 128 ^ i * p + pv_sum w := by
    rw [← hpw, Nat.mul_comm, ← Nat.two_pow_add_eq_or_of_lt (by rw [hpw]; exact h1) p]
  rw [e1, Nat.or_assoc, Nat.or_comm (pv_sum w), e2, ← Nat.two_pow_add_eq_or_of_lt (by omega) T]
  omega
theorem pv_of {T : Nat} (hT : T < 8) : nI T <<< ((28 : Int32) &&& 31) = nI (T * 268435456) := by
  rw [pk_shlN _ 28 (by decide) (by omega)]
