/-! the pure layer: the truths that wait, as bits -/
def hw_nb : List Bool → Nat
  | [] => 0
  | b :: r => (if b then 1 else 0) + 2 * hw_nb r
theorem hw_nb_lt : ∀ (l : List Bool) (k : Nat), l.length ≤ k → hw_nb l < 2 ^ k
  | [], k, _ => Nat.two_pow_pos k
  | b :: r, 0, h => absurd h (Nat.not_succ_le_zero _)
  | b :: r, k + 1, h => by
    have h1 := hw_nb_lt r k (Nat.le_of_succ_le_succ h)
    have h2 : 2 ^ (k + 1) = 2 * 2 ^ k := by rw [Nat.pow_succ, Nat.mul_comm]
    show (if b then 1 else 0) + 2 * hw_nb r < _
    cases b
    · simp only [Bool.false_eq_true, if_false]; omega
    · simp only [if_true]; omega
theorem hw_nb_14 {l : List Bool} (h : l.length ≤ 14) : hw_nb l < 16384 := hw_nb_lt l 14 h
theorem hw_shr1 {n : Nat} (h : n < 2 ^ 31) : nI n >>> ((1 : Int32) &&& 31) = nI (n / 2) := pk_shrN h _ 1 (by decide +kernel)
theorem hw_shr3 {n : Nat} (h : n < 2 ^ 31) : nI n >>> ((3 : Int32) &&& 31) = nI (n / 8) := pk_shrN h _ 3 (by decide +kernel)
theorem hw_shr6 {n : Nat} (h : n < 2 ^ 31) : nI n >>> ((6 : Int32) &&& 31) = nI (n / 64) := pk_shrN h _ 6 (by decide +kernel)
theorem hw_shr8 {n : Nat} (h : n < 2 ^ 31) : nI n >>> ((8 : Int32) &&& 31) = nI (n / 256) := pk_shrN h _ 8 (by decide +kernel)
theorem hw_shl1 {n : Nat} (h : n < 2 ^ 30) : nI n <<< ((1 : Int32) &&& 31) = nI (n * 2) := pk_shlN _ 1 (by decide +kernel) (by omega)
theorem hw_and1 {n : Nat} (h : n < 2 ^ 31) : nI n &&& (1 : Int32) = nI (n % 2) := pk_andN (by omega) 1 (by decide +kernel)
theorem hw_and7 {n : Nat} (h : n < 2 ^ 31) : nI n &&& (7 : Int32) = nI (n % 8) := pk_andN (by omega) 3 (by decide +kernel)
theorem hw_and3 {n : Nat} (h : n < 2 ^ 31) : nI n &&& (3 : Int32) = nI (n % 4) := pk_andN (by omega) 2 (by decide +kernel)
theorem hw_nand (a b : Nat) : nI a &&& nI b = nI (a &&& b) := by
  apply Int32.toBitVec_inj.1
  show BitVec.ofNat 32 a &&& BitVec.ofNat 32 b = BitVec.ofNat 32 (a &&& b)
  apply BitVec.eq_of_getLsbD_eq
  intro i hi
  simp [hi]
theorem hw_nxor (a b : Nat) : nI a ^^^ nI b = nI (a ^^^ b) := by
  apply Int32.toBitVec_inj.1
  show BitVec.ofNat 32 a ^^^ BitVec.ofNat 32 b = BitVec.ofNat 32 (a ^^^ b)
  apply BitVec.eq_of_getLsbD_eq
  intro i hi
  simp [hi]
theorem hw_nor (a b : Nat) : nI a ||| nI b = nI (a ||| b) := by
  apply Int32.toBitVec_inj.1
  show BitVec.ofNat 32 a ||| BitVec.ofNat 32 b = BitVec.ofNat 32 (a ||| b)
  apply BitVec.eq_of_getLsbD_eq
  intro i hi
  simp [hi]
theorem hw_b128 {P : Nat → Prop} (h : ∀ a, a < 128 → ∀ b, b < 128 → P (a * 128 + b)) {n : Nat} (hn : n < 16384) : P n := by
  have := h (n / 128) (by omega) (n % 128) (by omega)
  rw [show n / 128 * 128 + n % 128 = n by omega] at this
  exact this
theorem hw_x1 {n : Nat} (hn : n < 16384) : n ^^^ 1 = if n % 2 = 0 then n + 1 else n - 1 := hw_b128 (P := fun n => n ^^^ 1 = if n % 2 = 0 then n + 1 else n - 1) (by decide +kernel) hn
theorem hw_a2 {n : Nat} (hn : n < 16384) : n &&& 4294967294 = n - n % 2 := hw_b128 (P := fun n => n &&& 4294967294 = n - n % 2) (by decide +kernel) hn
theorem hw_o0 (n : Nat) : n ||| 0 = n := Nat.or_zero n
theorem hw_o1 {n : Nat} (hn : n < 16384) : n ||| 1 = if n % 2 = 0 then n + 1 else n := hw_b128 (P := fun n => n ||| 1 = if n % 2 = 0 then n + 1 else n) (by decide +kernel) hn
def hw_bn (b : Bool) : Nat := if b then 1 else 0
theorem hw_nb_c (b : Bool) (r : List Bool) : hw_nb (b :: r) = hw_bn b + 2 * hw_nb r := rfl
theorem hw_bn2 (b : Bool) : hw_bn b < 2 := by cases b <;> decide
theorem hw_t_push {st : List Bool} (h : st.length < 14) (b : Bool) : (nI (hw_nb st) <<< ((1 : Int32) &&& 31)) ||| nI (hw_bn b) = nI (hw_nb (b :: st)) := by
  have h1 : hw_nb st < 8192 := hw_nb_lt st 13 (by omega)
  rw [hw_shl1 (by omega), hw_nor, hw_nb_c]
  cases b
  · rw [show hw_bn false = 0 from rfl, hw_o0, Nat.zero_add, Nat.mul_comm]
  · rw [show hw_bn true = 1 from rfl, hw_o1 (by omega), if_pos (by omega), Nat.mul_comm, Nat.add_comm]
theorem hw_t_last {b : Bool} {r : List Bool} (h : r.length < 14) : nI (hw_nb (b :: r)) &&& (1 : Int32) = nI (hw_bn b) := by
  have h1 : hw_nb (b :: r) < 16384 := hw_nb_14 h
  have h2 := hw_bn2 b
  rw [hw_and1 (by omega), hw_nb_c]
  congr 1
  omega
theorem hw_t_not {b : Bool} {r : List Bool} (h : r.length < 14) : nI (hw_nb (b :: r)) ^^^ (1 : Int32) = nI (hw_nb ((!b) :: r)) := by
  have h1 : hw_nb (b :: r) < 16384 := hw_nb_14 h
  rw [show (1 : Int32) = nI 1 from rfl, hw_nxor, hw_x1 h1, hw_nb_c, hw_nb_c]
  cases b
  · rw [if_pos (by show (0 + 2 * hw_nb r) % 2 = 0; omega)]
    show nI (0 + 2 * hw_nb r + 1) = nI (1 + 2 * hw_nb r)
    congr 1
    omega
  · rw [if_neg (by show ¬ (1 + 2 * hw_nb r) % 2 = 0; omega)]
    show nI (1 + 2 * hw_nb r - 1) = nI (0 + 2 * hw_nb r)
    congr 1
    omega
theorem hw_t_pop {b : Bool} {r : List Bool} (h : r.length < 14) : nI (hw_nb (b :: r)) >>> ((1 : Int32) &&& 31) = nI (hw_nb r) := by
  have h1 : hw_nb (b :: r) < 16384 := hw_nb_14 h
  have h2 := hw_bn2 b
  rw [hw_shr1 (by omega), hw_nb_c]
  congr 1
  omega
theorem hw_mi1 (n : Nat) : nI n &&& (-1 : Int32) = nI n := by
  apply Int32.toBitVec_inj.1
  rw [Int32.toBitVec_and, show (-1 : Int32).toBitVec = BitVec.allOnes 32 by decide, BitVec.and_allOnes]
theorem hw_mi2 {n : Nat} (h : n < 16384) : nI n &&& (-2 : Int32) = nI (n - n % 2) := by
  rw [show (-2 : Int32) = nI 4294967294 by decide, hw_nand, hw_a2 h]
theorem hw_t_and {b a : Bool} {r : List Bool} (h : r.length < 13) : (nI (hw_nb (b :: a :: r)) >>> ((1 : Int32) &&& 31)) &&& (if b then (-1 : Int32) else (-2 : Int32)) = nI (hw_nb ((a && b) :: r)) := by
  have h1 : hw_nb (a :: r) < 16384 := hw_nb_14 (by show r.length + 1 ≤ 14; omega)
  rw [hw_t_pop (by show r.length + 1 < 14; omega)]
  cases b
  · show nI (hw_nb (a :: r)) &&& (-2 : Int32) = _
    rw [hw_mi2 h1, Bool.and_false, hw_nb_c, hw_nb_c]
    have h2 := hw_bn2 a
    congr 1
    show _ = 0 + 2 * hw_nb r
    omega
  · show nI (hw_nb (a :: r)) &&& (-1 : Int32) = _
    rw [hw_mi1, Bool.and_true]
theorem hw_t_or {b a : Bool} {r : List Bool} (h : r.length < 13) : (nI (hw_nb (b :: a :: r)) >>> ((1 : Int32) &&& 31)) ||| nI (hw_bn b) = nI (hw_nb ((a || b) :: r)) := by
  have h1 : hw_nb (a :: r) < 16384 := hw_nb_14 (by show r.length + 1 ≤ 14; omega)
  rw [hw_t_pop (by show r.length + 1 < 14; omega), hw_nor]
  cases b
  · rw [show hw_bn false = 0 from rfl, hw_o0, Bool.or_false]
  · rw [show hw_bn true = 1 from rfl, hw_o1 h1, Bool.or_true, hw_nb_c, hw_nb_c]
    cases a
    · rw [if_pos (by show (0 + 2 * hw_nb r) % 2 = 0; omega)]
      show nI (0 + 2 * hw_nb r + 1) = nI (1 + 2 * hw_nb r)
      congr 1
      omega
    · rw [if_neg (by show ¬ (1 + 2 * hw_nb r) % 2 = 0; omega)]
