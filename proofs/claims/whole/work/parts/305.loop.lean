/-! the pure layer: the class's loop over a law's code -/
theorem sp_cmp_0 (x v : Int32) : sp_cmp 0 x v = decide (x < v) := rfl
theorem sp_cmp_1 (x v : Int32) : sp_cmp 1 x v = decide (x = v) := rfl
theorem sp_cmp_2 (x v : Int32) : sp_cmp 2 x v = decide (v < x) := rfl
theorem c3_truth_e {t g q : Nat} (ht : t < 5) (hg : g < 3) (hq : q < 100) (x : Int32) : m3_truth (nI (8 * t + 64 * g + 256 * q)) x = some (nI (hw_bn (sp_cmp g x (nI q)))) := by
  unfold m3_truth m3_truth_b46 m3_truth_b57 m3_truth_b68
  rw [hw_shr6 (by omega), hw_shr8 (by omega), hw_and3 (by omega), show (8 * t + 64 * g + 256 * q) / 64 % 4 = g by omega, show (8 * t + 64 * g + 256 * q) / 256 = q by omega]
  match g, hg with
  | 0, _ =>
    rw [if_pos (show nI 0 = 0 from rfl), sp_cmp_0]
    by_cases h : x < nI q
    · rw [if_neg (Int32.not_le.mpr h), decide_eq_true h]; rfl
    · rw [if_pos (Int32.not_lt.mp h), decide_eq_false h]; rfl
  | 1, _ =>
    rw [if_neg (show ¬ nI 1 = 0 by decide), if_pos (show nI 1 = 1 from rfl), sp_cmp_1]
    by_cases h : x = nI q
    · rw [if_pos h, decide_eq_true h]; rfl
    · rw [if_neg h, decide_eq_false h]; rfl
  | 2, _ =>
    rw [if_neg (show ¬ nI 2 = 0 by decide), if_neg (show ¬ nI 2 = 1 by decide), sp_cmp_2]
    by_cases h : nI q < x
    · rw [if_neg (Int32.not_le.mpr h), decide_eq_true h]; rfl
    · rw [if_pos (Int32.not_lt.mp h), decide_eq_false h]; rfl
theorem c3_tested_e {σ : hw_S} {B : Nat → Int32} {x y z : Int32} {sa t g q : Nat} (ht : t < 5) (hg : g < 3) (hq : q < 100) (h0 : B 0 = x) (h1 : B 1 = y) (h2 : B 2 = z) (hs : σ.1 sa = 10) (h3 : σ.2.2.1 sa 0 = B 3) (h4 : σ.2.2.1 sa 1 = B 4) : m3_tested (nI (8 * t + 64 * g + 256 * q)) x y z (some sa) σ = some (B t) := by
  unfold m3_tested
  rw [hw_shr3 (by omega), hw_and7 (by omega), show (8 * t + 64 * g + 256 * q) / 8 % 8 = t by omega]
  have hq9 : hw_q 9 (σ.1 sa) = true := by rw [hs]; decide
  match t, ht with
  | 0, _ => rw [if_pos (show nI 0 = 0 from rfl), h0]
  | 1, _ => rw [if_neg (show ¬ nI 1 = 0 by decide), if_pos (show nI 1 = 1 from rfl), h1]
  | 2, _ => rw [if_neg (show ¬ nI 2 = 0 by decide), if_neg (show ¬ nI 2 = 1 by decide), if_pos (show nI 2 = 2 from rfl), h2]
  | 3, _ => rw [if_neg (show ¬ nI 3 = 0 by decide), if_neg (show ¬ nI 3 = 1 by decide), if_neg (show ¬ nI 3 = 2 by decide), if_pos (show nI 3 = 3 from rfl), hw_gI_at hq9 h3]; rfl
  | 4, _ => rw [if_neg (show ¬ nI 4 = 0 by decide), if_neg (show ¬ nI 4 = 1 by decide), if_neg (show ¬ nI 4 = 2 by decide), if_neg (show ¬ nI 4 = 3 by decide), hw_gI_at hq9 h4]; rfl
theorem hw_bn_mul {b : Bool} {n : Nat} {z : Int} : iI z + nI (hw_bn b) * nI n = iI (z + (if b = true then (n : Int) else 0)) := by
  rw [nI_mul, iI_nI, iI_add]
  cases b
  · rw [show hw_bn false = 0 from rfl, Nat.zero_mul]; rfl
  · rw [show hw_bn true = 1 from rfl, Nat.one_mul]; rfl
theorem hw_bn_mulN {b : Bool} {n : Nat} {z : Int} : iI z - nI (hw_bn b) * nI n = iI (z + (if b = true then -(n : Int) else 0)) := by
  rw [nI_mul, iI_nI, iI_sub]
  cases b
  · rw [show hw_bn false = 0 from rfl, Nat.zero_mul]
    show iI (z - 0) = iI (z + 0)
    rw [Int.sub_zero, Int.add_zero]
  · rw [show hw_bn true = 1 from rfl, Nat.one_mul]; rfl
theorem c_base_loop {σ : hw_S} {a ac sa n : Nat} {x y z : Int32} {B f : Nat → Int32} (gp : hw_gP hw_qL 6 (some a) σ = some (some ac)) (al : hw_aL (some ac) σ = some (nI n)) (ai : ∀ j, j < n → hw_aI 0 (some ac) (nI j) σ = some (σ.2.2.1 ac j)) (hn : n ≤ 120) (ins : ∀ j, j < n → hw_ins (f j) (σ.2.2.1 ac j)) (ht : hw_ht f n ≠ none)
    (h0 : B 0 = x) (h1 : B 1 = y) (h2 : B 2 = z) (hs : σ.1 sa = 10) (h3 : σ.2.2.1 sa 0 = B 3) (h4 : σ.2.2.1 sa 1 = B 4) :
    ∀ d j fuel, j + d = n → d < fuel → m3_baseIn_b26 fuel a (some sa) x y z (iI (sp_run B f j).2) (nI (hw_nb (sp_run B f j).1)) (nI j) σ = some (hw_max 1 (iI (sp_run B f n).2)) := by
  intro d
  induction d with
  | zero =>
    intro j fuel e hf
    obtain ⟨fuel, rfl⟩ : ∃ k, fuel = k + 1 := ⟨fuel - 1, by omega⟩
    have e : j = n := e
    subst e
    rw [m3_baseIn_b26, gp, Option.bind_some, al, Option.bind_some, if_pos ((nI_leI (by omega) (by omega)).mpr (Nat.le_refl j))]
  | succ d ih =>
    intro j fuel e hf
    obtain ⟨fuel, rfl⟩ : ∃ k, fuel = k + 1 := ⟨fuel - 1, by omega⟩
    have hj : j < n := by omega
    have ih := ih (j + 1) fuel (by omega) (by omega)
    obtain ⟨h, g1, g2, g3, g4, g5⟩ := sp_run_ok (B := B) ins ht j (by omega)
    obtain ⟨k, hk⟩ := hw_ht_le ht (n - (j + 1)) (j + 1) (by omega)
    rw [show sp_run B f (j + 1) = sp_step B (f j) (sp_run B f j) from rfl] at ih
    rw [m3_baseIn_b26]
    simp only [gp, al, ai j hj, Option.bind_some]
    rw [if_neg (fun c => absurd ((nI_leI (by omega) (by omega)).mp c) (by omega))]
    generalize sp_run B f j = q at ih g2 g4 g5 ⊢
    obtain ⟨st, sum⟩ := q
    rcases ins j hj with ⟨t, g, m, a1, a2, a3, es, ec⟩ | ⟨es, ec⟩ | ⟨es, ec⟩ | ⟨es, ec⟩ | ⟨m, a3, es, ec⟩ | ⟨m, a3, es, ec⟩
    · rw [hw_ht_t a1 a2 a3 es g1] at hk
      by_cases hh : h < 14
      · rw [es, sp_step_t a1 a2 a3] at ih
        rw [ec, hw_and7 (by omega), show (8 * t + 64 * g + 256 * m) % 8 = 0 by omega, if_pos (show nI 0 = 0 from rfl), c3_tested_e a1 a2 a3 h0 h1 h2 hs h3 h4, Option.bind_some, c3_truth_e a1 a2 a3, Option.bind_some]
        show m3_baseIn_b26 fuel a (some sa) x y z (iI sum) ((nI (hw_nb st) <<< ((1 : Int32) &&& 31)) ||| nI (hw_bn (sp_cmp g (B t) (nI m)))) (nI j + 1) σ = _
        rw [nI_1, hw_t_push (by have : st.length = h := g2; omega)]
        exact ih
      · rw [if_neg hh] at hk; cases hk
    · rw [hw_ht_not es g1] at hk
      by_cases hh : 1 ≤ h
      · rw [es, sp_step_not] at ih
        obtain ⟨b, r, rfl⟩ : ∃ b r, st = b :: r := by
          cases st with
          | nil => have g2 : 0 = h := g2; omega
          | cons b r => exact ⟨b, r, rfl⟩
        have g2 : r.length + 1 = h := g2
        rw [ec, show nI 1 &&& (7 : Int32) = nI 1 by decide, if_neg (show ¬ nI 1 = 0 by decide), if_pos (show nI 1 = 1 from rfl)]
        show m3_baseIn_b26 fuel a (some sa) x y z (iI sum) (nI (hw_nb (b :: r)) ^^^ (1 : Int32)) (nI j + 1) σ = _
        rw [nI_1, hw_t_not (by omega)]
        exact ih
      · rw [if_neg hh] at hk; cases hk
    · rw [hw_ht_two (Or.inl es) g1] at hk
      by_cases hh : 2 ≤ h
      · rw [es, sp_step_and] at ih
        obtain ⟨b, a2, r, rfl⟩ : ∃ b a2 r, st = b :: a2 :: r := by
          match st, g2 with
          | [], g2 => have g2 : 0 = h := g2; omega
          | [b], g2 => have g2 : 1 = h := g2; omega
          | b :: a2 :: r, g2 => exact ⟨b, a2, r, rfl⟩
        have g2 : r.length + 1 + 1 = h := g2
        have hz := hw_t_and (b := b) (a := a2) (r := r) (by omega)
        rw [ec, show nI 2 &&& (7 : Int32) = nI 2 by decide, if_neg (show ¬ nI 2 = 0 by decide), if_neg (show ¬ nI 2 = 1 by decide), if_pos (show nI 2 = 2 from rfl), hw_t_last (by show r.length + 1 < 14; omega)]
        cases b
        · rw [if_neg (show ¬ nI (hw_bn false) = 1 by decide)]
          show m3_baseIn_b26 fuel a (some sa) x y z (iI sum) ((nI (hw_nb (false :: a2 :: r)) >>> ((1 : Int32) &&& 31)) &&& (-2 : Int32)) (nI j + 1) σ = _
          rw [nI_1, show (-2 : Int32) = (if false = true then (-1 : Int32) else (-2 : Int32)) from rfl, hz]
          exact ih
        · rw [if_pos (show nI (hw_bn true) = 1 from rfl)]
          show m3_baseIn_b26 fuel a (some sa) x y z (iI sum) ((nI (hw_nb (true :: a2 :: r)) >>> ((1 : Int32) &&& 31)) &&& (-1 : Int32)) (nI j + 1) σ = _
          rw [nI_1, show (-1 : Int32) = (if true = true then (-1 : Int32) else (-2 : Int32)) from rfl, hz]
          exact ih
      · rw [if_neg hh] at hk; cases hk
    · rw [hw_ht_two (Or.inr es) g1] at hk
      by_cases hh : 2 ≤ h
      · rw [es, sp_step_or] at ih
        obtain ⟨b, a2, r, rfl⟩ : ∃ b a2 r, st = b :: a2 :: r := by
          match st, g2 with
          | [], g2 => have g2 : 0 = h := g2; omega
          | [b], g2 => have g2 : 1 = h := g2; omega
          | b :: a2 :: r, g2 => exact ⟨b, a2, r, rfl⟩
        have g2 : r.length + 1 + 1 = h := g2
        rw [ec, show nI 3 &&& (7 : Int32) = nI 3 by decide, if_neg (show ¬ nI 3 = 0 by decide), if_neg (show ¬ nI 3 = 1 by decide), if_neg (show ¬ nI 3 = 2 by decide), if_pos (show nI 3 = 3 from rfl), hw_t_last (by show r.length + 1 < 14; omega)]
        show m3_baseIn_b26 fuel a (some sa) x y z (iI sum) ((nI (hw_nb (b :: a2 :: r)) >>> ((1 : Int32) &&& 31)) ||| nI (hw_bn b)) (nI j + 1) σ = _
        rw [nI_1, hw_t_or (by omega)]
        exact ih
      · rw [if_neg hh] at hk; cases hk
    · rw [hw_ht_end (-10 - m) (by omega) (by omega) es g1] at hk
      by_cases hh : h = 1
      · rw [es, sp_step_wind a3] at ih
        obtain ⟨b, rfl⟩ : ∃ b, st = [b] := by
          match st, g2 with
          | [], g2 => have g2 : 0 = h := g2; omega
          | [b], g2 => exact ⟨b, rfl⟩
          | b :: a2 :: r, g2 => have g2 : r.length + 1 + 1 = h := g2; omega
        rw [ec, hw_and7 (by omega), show (4 + 256 * m) % 8 = 4 by omega, if_neg (show ¬ nI 4 = 0 by decide), if_neg (show ¬ nI 4 = 1 by decide), if_neg (show ¬ nI 4 = 2 by decide), if_neg (show ¬ nI 4 = 3 by decide), if_pos (show nI 4 = 4 from rfl), hw_t_last (by show 0 < 14; omega), hw_shr8 (by omega), show (4 + 256 * m) / 256 = m by omega]
        show m3_baseIn_b26 fuel a (some sa) x y z (iI sum + nI (hw_bn b) * nI m) (0 : Int32) (nI j + 1) σ = _
        rw [nI_1, hw_bn_mul]
        exact ih
      · rw [if_neg hh] at hk; cases hk
    · rw [hw_ht_end (-200 - m) (by omega) (by omega) es g1] at hk
      by_cases hh : h = 1
      · rw [es, sp_step_ease a3] at ih
        obtain ⟨b, rfl⟩ : ∃ b, st = [b] := by
          match st, g2 with
          | [], g2 => have g2 : 0 = h := g2; omega
          | [b], g2 => exact ⟨b, rfl⟩
          | b :: a2 :: r, g2 => have g2 : r.length + 1 + 1 = h := g2; omega
        rw [ec, hw_and7 (by omega), show (5 + 256 * m) % 8 = 5 by omega, if_neg (show ¬ nI 5 = 0 by decide), if_neg (show ¬ nI 5 = 1 by decide), if_neg (show ¬ nI 5 = 2 by decide), if_neg (show ¬ nI 5 = 3 by decide), if_neg (show ¬ nI 5 = 4 by decide), if_pos (show nI 5 = 5 from rfl), hw_t_last (by show 0 < 14; omega), hw_shr8 (by omega), show (5 + 256 * m) / 256 = m by omega]
        show m3_baseIn_b26 fuel a (some sa) x y z (iI sum - nI (hw_bn b) * nI m) (0 : Int32) (nI j + 1) σ = _
        rw [nI_1, hw_bn_mulN]
        exact ih
      · rw [if_neg hh] at hk; cases hk
