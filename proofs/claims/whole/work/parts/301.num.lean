/-! the pure layer: numbers -/
theorem hw_lit (n : Nat) : (OfNat.ofNat n : Int32) = nI n := rfl
def hw_tb (p : Prop) [Decidable p] : Int32 := if p then 1 else 0
theorem hw_tb1 {p : Prop} [Decidable p] (h : p) : hw_tb p = 1 := if_pos h
theorem hw_tb0 {p : Prop} [Decidable p] (h : ¬ p) : hw_tb p = 0 := if_neg h
theorem hw_tb_z {p : Prop} [Decidable p] : hw_tb p = 0 ↔ ¬ p := by
  unfold hw_tb
  by_cases h : p
  · rw [if_pos h]; exact ⟨fun e => absurd e (by decide), fun e => absurd h e⟩
  · rw [if_neg h]; exact ⟨fun _ => h, fun _ => rfl⟩
theorem hw_tf_tb {p : Prop} [Decidable p] : hw_tf (hw_tb p) = some () := by
  unfold hw_tb hw_tf
  by_cases h : p
  · rw [if_pos h]; rfl
  · rw [if_neg h]; rfl
theorem hw_tf_0 : hw_tf 0 = some () := rfl
theorem hw_tf_1 : hw_tf 1 = some () := rfl
theorem hw_itb {α : Type} {p : Prop} [Decidable p] {x y : α} : (if hw_tb p = 0 then x else y) = if p then y else x := by
  by_cases h : p
  · rw [if_pos h, if_neg (fun e => absurd h (hw_tb_z.mp e))]
  · rw [if_neg h, if_pos (hw_tb_z.mpr h)]
theorem e11_isWithin (x lo hi : Int32) : m11_isWithin x lo hi = some (hw_tb (lo ≤ x ∧ x ≤ hi)) := by
  unfold m11_isWithin m11_isWithin_b14 m11_isWithin_b15
  by_cases h1 : x < lo
  · rw [if_pos h1, hw_tb0 (fun c => absurd h1 (Int32.not_lt.mpr c.1))]; rfl
  · rw [if_neg h1]
    by_cases h2 : hi < x
    · rw [if_pos h2, hw_tb0 (fun c => absurd h2 (Int32.not_lt.mpr c.2))]; rfl
    · rw [if_neg h2, hw_tb1 ⟨Int32.not_lt.mp h1, Int32.not_lt.mp h2⟩]; rfl
theorem e12_in (x lo hi : Int32) : m12_in x lo hi = some (hw_tb (lo ≤ x ∧ x ≤ hi)) := by
  unfold m12_in m12_in_b14 m12_in_b15
  by_cases h1 : x < lo
  · rw [if_pos h1, hw_tb0 (fun c => absurd h1 (Int32.not_lt.mpr c.1))]; rfl
  · rw [if_neg h1]
    by_cases h2 : hi < x
    · rw [if_pos h2, hw_tb0 (fun c => absurd h2 (Int32.not_lt.mpr c.2))]; rfl
    · rw [if_neg h2, hw_tb1 ⟨Int32.not_lt.mp h1, Int32.not_lt.mp h2⟩]; rfl
/-- whole numbers -/
def iI (z : Int) : Int32 := Int32.ofInt z
theorem iI_nI (n : Nat) : nI n = iI (n : Int) := (Int32.ofInt_eq_ofNat (n := n)).symm
theorem iI_toInt {z : Int} (h : -2147483648 ≤ z) (h2 : z < 2147483648) : (iI z).toInt = z := Int32.toInt_ofInt_of_le h h2
theorem iI_add (a b : Int) : iI a + iI b = iI (a + b) := (Int32.ofInt_add a b).symm
theorem iI_sub (a b : Int) : iI a - iI b = iI (a - b) := (Int32.ofInt_sub a b).symm
theorem iI_mul (a b : Int) : iI a * iI b = iI (a * b) := (Int32.ofInt_mul a b).symm
theorem iI_neg (a : Int) : -iI a = iI (-a) := (Int32.ofInt_neg a).symm
theorem iI_lt {a b : Int} (h : -2147483648 ≤ a) (h2 : a < 2147483648) (h3 : -2147483648 ≤ b) (h4 : b < 2147483648) : iI a < iI b ↔ a < b := by
  rw [Int32.lt_iff_toInt_lt, iI_toInt h h2, iI_toInt h3 h4]
theorem iI_le {a b : Int} (h : -2147483648 ≤ a) (h2 : a < 2147483648) (h3 : -2147483648 ≤ b) (h4 : b < 2147483648) : iI a ≤ iI b ↔ a ≤ b := by
  rw [Int32.le_iff_toInt_le, iI_toInt h h2, iI_toInt h3 h4]
theorem iI_eq {a b : Int} (h : -2147483648 ≤ a) (h2 : a < 2147483648) (h3 : -2147483648 ≤ b) (h4 : b < 2147483648) : iI a = iI b ↔ a = b :=
  ⟨fun e => by rw [← iI_toInt h h2, ← iI_toInt h3 h4, e], fun e => by rw [e]⟩
theorem iI_of (x : Int32) : ∃ z : Int, -2147483648 ≤ z ∧ z < 2147483648 ∧ x = iI z := ⟨x.toInt, Int32.le_toInt x, Int32.toInt_lt x, (Int32.ofInt_toInt x).symm⟩
theorem nI_mul (a b : Nat) : nI a * nI b = nI (a * b) := (Int32.ofNat_mul a b).symm
theorem nI_sub {a b : Nat} (h : b ≤ a) : nI a - nI b = nI (a - b) := by
  rw [iI_nI, iI_nI, iI_nI, iI_sub, Int.ofNat_sub h]
theorem nI_div {a b : Nat} (ha : a < 2 ^ 31) (hb : b < 2 ^ 31) : nI a / nI b = nI (a / b) := by
  have hab : a / b < 2 ^ 31 := Nat.lt_of_le_of_lt (Nat.div_le_self a b) ha
  apply Int32.toInt_inj.mp
  rw [Int32.toInt_div_of_ne_left _ _ (fun e => by
    have h1 := nI_toInt ha
    rw [e] at h1
    have h2 : Int32.minValue.toInt = -2147483648 := by decide
    omega), nI_toInt ha, nI_toInt hb, nI_toInt hab]
  exact (Int.ofNat_tdiv a b).symm
theorem hw_dvN {a b : Nat} (ha : a < 2 ^ 31) (hb : b < 2 ^ 31) (h0 : 0 < b) : hw_dv (nI a) (nI b) = some (nI (a / b)) := by
  unfold hw_dv
  rw [if_neg (nI_ne0 h0 hb), nI_div ha hb]
theorem hw_rmN {a b : Nat} (ha : a < 2 ^ 31) (hb : b < 2 ^ 31) (h0 : 0 < b) : hw_rm (nI a) (nI b) = some (nI (a % b)) := by
  unfold hw_rm
  rw [if_neg (nI_ne0 h0 hb), nI_div ha hb, nI_mul, nI_sub (Nat.div_mul_le_self a b)]
  have e : a - a / b * b = a % b := by
    have := Nat.div_add_mod a b
    rw [Nat.mul_comm] at this
    omega
  rw [e]
theorem hw_win {x : Int32} {lo hi : Nat} (hh : hi < 2 ^ 31) (hl : lo ≤ hi) (h : nI lo ≤ x ∧ x ≤ nI hi) : ∃ n : Nat, lo ≤ n ∧ n ≤ hi ∧ x = nI n := by
  have h0 : ¬ x < 0 := fun c => by
    have h1 := Int32.le_iff_toInt_le.mp h.1
    have h2 := Int32.lt_iff_toInt_lt.mp c
    rw [nI_toInt (by omega)] at h1
    rw [Int32.toInt_zero] at h2
    omega
  obtain ⟨n, hn, rfl⟩ := nI_of h0
  exact ⟨n, (nI_leI (by omega) hn).mp h.1, (nI_leI hn hh).mp h.2, rfl⟩
theorem hw_winN {n lo hi : Nat} (hn : n < 2 ^ 31) (hl : lo < 2 ^ 31) (hh : hi < 2 ^ 31) : (nI lo ≤ nI n ∧ nI n ≤ nI hi) ↔ (lo ≤ n ∧ n ≤ hi) := and_congr (nI_leI hl hn) (nI_leI hn hh)
theorem hw_minN {a b : Nat} (ha : a < 2 ^ 31) (hb : b < 2 ^ 31) : hw_min (nI a) (nI b) = nI (min a b) := by
  unfold hw_min
  by_cases h : b < a
  · rw [if_pos ((nI_ltI hb ha).mpr h), Nat.min_eq_right (Nat.le_of_lt h)]
  · rw [if_neg (fun c => h ((nI_ltI hb ha).mp c)), Nat.min_eq_left (Nat.not_lt.mp h)]
theorem hw_maxN {a b : Nat} (ha : a < 2 ^ 31) (hb : b < 2 ^ 31) : hw_max (nI a) (nI b) = nI (max a b) := by
  unfold hw_max
  by_cases h : a < b
  · rw [if_pos ((nI_ltI ha hb).mpr h), Nat.max_eq_right (Nat.le_of_lt h)]
  · rw [if_neg (fun c => h ((nI_ltI ha hb).mp c)), Nat.max_eq_left (Nat.not_lt.mp h)]
theorem e12_size (x : Int32) : m12_size x = some (hw_abs x) := by
  unfold m12_size m12_size_b10 hw_abs
  by_cases h : 0 ≤ x
  · rw [if_pos h, if_pos h]
  · rw [if_neg h, if_neg h, Int32.zero_sub]
/-! doings -/
def hw_dg (h f p : Nat) : Nat := 10000 * h + 100 * f + p
theorem hw_dg_h {h f p : Nat} (hf : f ≤ 20) (hp : p < 100) : hw_dg h f p / 10000 = h := by unfold hw_dg; omega
theorem hw_dg_f {h f p : Nat} (hf : f ≤ 20) (hp : p < 100) : hw_dg h f p / 100 % 100 = f := by unfold hw_dg; omega
theorem hw_dg_p {h f p : Nat} (hp : p < 100) : hw_dg h f p % 100 = p := by unfold hw_dg; omega
def hw_dok (d : Int32) : Prop := ∃ h f p : Nat, 1 ≤ h ∧ h ≤ 60 ∧ 1 ≤ f ∧ f ≤ 20 ∧ p < 100 ∧ d = nI (hw_dg h f p)
theorem e11_heightOf {n : Nat} (hn : n < 2 ^ 31) : m11_heightOf (nI n) = some (nI (n / 10000)) := by
  unfold m11_heightOf
  rw [show (10000 : Int32) = nI 10000 from rfl, hw_dvN hn (by decide) (by decide)]; rfl
theorem e11_flowOf {n : Nat} (hn : n < 2 ^ 31) : m11_flowOf (nI n) = some (nI (n / 100 % 100)) := by
  unfold m11_flowOf
  rw [show (100 : Int32) = nI 100 from rfl, hw_dvN hn (by decide) (by decide), Option.bind_some, hw_rmN (by omega) (by decide) (by decide)]; rfl
theorem e11_paceOf {n : Nat} (hn : n < 2 ^ 31) : m11_paceOf (nI n) = some (nI (n % 100)) := by
  unfold m11_paceOf
  rw [show (100 : Int32) = nI 100 from rfl, hw_rmN hn (by decide) (by decide)]; rfl
theorem e11_isHeight (x : Int32) : m11_isHeight x = some (hw_tb (nI 1 ≤ x ∧ x ≤ nI 60)) := by
  unfold m11_isHeight
  rw [e11_isWithin, Option.bind_some, hw_tf_tb]; rfl
theorem e11_isFlow (x : Int32) : m11_isFlow x = some (hw_tb (nI 1 ≤ x ∧ x ≤ nI 20)) := by
  unfold m11_isFlow
  rw [e11_isWithin, Option.bind_some, hw_tf_tb]; rfl
theorem e12_isFlow (x : Int32) : m12_isFlow x = some (hw_tb (nI 1 ≤ x ∧ x ≤ nI 20)) := by
  unfold m12_isFlow
  rw [e12_in, Option.bind_some, hw_tf_tb]; rfl
theorem hw_dok_of {n : Nat} (hn : n < 2 ^ 31) (h1 : 1 ≤ n / 10000) (h2 : n / 10000 ≤ 60) (h3 : 1 ≤ n / 100 % 100) (h4 : n / 100 % 100 ≤ 20) : hw_dok (nI n) :=
  ⟨n / 10000, n / 100 % 100, n % 100, h1, h2, h3, h4, by omega, by rw [show hw_dg (n / 10000) (n / 100 % 100) (n % 100) = n by unfold hw_dg; omega]⟩
theorem e11_isDoing_y {d : Int32} (h : hw_dok d) : m11_isDoing d = some 1 := by
  obtain ⟨h, f, p, h1, h2, h3, h4, h5, rfl⟩ := h
  have hb : hw_dg h f p < 2 ^ 31 := by unfold hw_dg; omega
  unfold m11_isDoing
  rw [if_neg (nI_pos hb), e11_heightOf hb, Option.bind_some, hw_dg_h h4 h5, e11_isHeight, Option.bind_some, hw_itb, if_pos ((hw_winN (by omega) (by decide) (by decide)).mpr ⟨h1, h2⟩), e11_flowOf hb, Option.bind_some, hw_dg_f h4 h5, e11_isFlow, Option.bind_some, hw_itb, if_pos ((hw_winN (by omega) (by decide) (by decide)).mpr ⟨h3, h4⟩)]
  rfl
theorem e11_isDoing_n {d : Int32} (h : ¬ hw_dok d) : m11_isDoing d = some 0 := by
  unfold m11_isDoing
  by_cases h0 : d < 0
  · rw [if_pos h0]; rfl
  · rw [if_neg h0]
    obtain ⟨n, hn, rfl⟩ := nI_of h0
    rw [e11_heightOf hn, Option.bind_some, e11_isHeight, Option.bind_some, hw_itb]
    by_cases h1 : nI 1 ≤ nI (n / 10000) ∧ nI (n / 10000) ≤ nI 60
    · rw [if_pos h1, e11_flowOf hn, Option.bind_some, e11_isFlow, Option.bind_some, hw_itb]
      have h1 := (hw_winN (by omega) (by decide) (by decide)).mp h1
      by_cases h2 : nI 1 ≤ nI (n / 100 % 100) ∧ nI (n / 100 % 100) ≤ nI 20
      · have h2 := (hw_winN (by omega) (by decide) (by decide)).mp h2
        exact absurd (hw_dok_of hn h1.1 h1.2 h2.1 h2.2) h
      · rw [if_neg h2]; rfl
    · rw [if_neg h1]; rfl
theorem e12_isDoing_y {d : Int32} (h : hw_dok d) : m12_isDoing d = some 1 := by
  obtain ⟨h, f, p, h1, h2, h3, h4, h5, rfl⟩ := h
  have hb : hw_dg h f p < 2 ^ 31 := by unfold hw_dg; omega
  unfold m12_isDoing
  rw [e12_in, Option.bind_some, hw_itb, if_pos (show (10000 : Int32) ≤ nI (hw_dg h f p) ∧ nI (hw_dg h f p) ≤ (609999 : Int32) from (hw_winN (lo := 10000) (hi := 609999) hb (by decide) (by decide)).mpr (by unfold hw_dg; omega)), show (100 : Int32) = nI 100 from rfl, hw_dvN hb (by decide) (by decide), Option.bind_some, hw_rmN (by omega) (by decide) (by decide), Option.bind_some, hw_dg_f h4 h5, e12_in, Option.bind_some, hw_itb, if_pos (show (1 : Int32) ≤ nI f ∧ nI f ≤ (20 : Int32) from (hw_winN (lo := 1) (hi := 20) (by omega) (by decide) (by decide)).mpr ⟨h3, h4⟩)]
  rfl
theorem e12_isDoing_n {d : Int32} (h : ¬ hw_dok d) : m12_isDoing d = some 0 := by
  unfold m12_isDoing
  rw [e12_in, Option.bind_some, hw_itb]
  by_cases h0 : (10000 : Int32) ≤ d ∧ d ≤ (609999 : Int32)
  · rw [if_pos h0]
    obtain ⟨n, n1, n2, rfl⟩ := hw_win (lo := 10000) (hi := 609999) (by decide) (by decide) h0
    rw [show (100 : Int32) = nI 100 from rfl, hw_dvN (by omega) (by decide) (by decide), Option.bind_some, hw_rmN (by omega) (by decide) (by decide), Option.bind_some, e12_in, Option.bind_some, hw_itb]
    by_cases h2 : (1 : Int32) ≤ nI (n / 100 % 100) ∧ nI (n / 100 % 100) ≤ (20 : Int32)
    · have h2 := (hw_winN (lo := 1) (hi := 20) (by omega) (by decide) (by decide)).mp h2
      exact absurd (hw_dok_of (by omega) (by omega) (by omega) h2.1 h2.2) h
    · rw [if_neg h2]; rfl
  · rw [if_neg h0]; rfl
