/-! the pure layer: count, trace, as -/
theorem hw_ite0 {α : Type} {x : Int32} {a b : α} (h : x = 0) : (if x = 0 then a else b) = a := if_pos h
theorem j_count {σ : hw_S} (hJ : hw_Jv σ) (x : Int32) : ∃ r, m11_count 0 x σ = some r ∧ m12_count 41 x σ = some r := by
  obtain ⟨hF, p1, p2, ⟨c0, c1, c2, c3, c4, c5, hr⟩, him, n, hn, t1, t2, t3⟩ := id hJ
  obtain ⟨-, ⟨w0, w1, w2, w3, w4, w5⟩, ⟨s0, s1, s2, s3, s4, s5⟩, -⟩ := hr
  unfold m11_count m12_count
  have A : ∀ k, k < 6 → hw_aI 0 (some 42) (nI k) σ = some (σ.2.2.1 42 k) := fun k hk => hw_A_42 hF (by omega)
  by_cases h0 : x = 0
  · rw [if_pos h0, if_pos h0, hw_P_0_0 hF, Option.bind_some, hw_G_1 hF, Option.bind_some, hw_P_41_1 hF, Option.bind_some, show (0 : Int32) = nI 0 from rfl, A 0 (by decide), Option.bind_some, s0, w0]
    exact ⟨_, rfl, rfl⟩
  · rw [if_neg h0, if_neg h0]
    by_cases h1 : x = 1
    · rw [if_pos h1, if_pos h1, hw_P_0_0 hF, Option.bind_some, hw_G_1 hF, Option.bind_some, hw_P_41_1 hF, Option.bind_some, show (1 : Int32) = nI 1 from rfl, A 1 (by decide), Option.bind_some, s1, w1]
      exact ⟨_, rfl, rfl⟩
    · rw [if_neg h1, if_neg h1]
      by_cases h2 : x = 2
      · rw [if_pos h2, if_pos h2, hw_P_0_0 hF, Option.bind_some, hw_G_1 hF, Option.bind_some, hw_P_41_1 hF, Option.bind_some, show (2 : Int32) = nI 2 from rfl, A 2 (by decide), Option.bind_some, s2, w2]
        exact ⟨_, rfl, rfl⟩
      · rw [if_neg h2, if_neg h2]
        by_cases h3 : x = 3
        · rw [if_pos h3, if_pos h3, hw_P_0_0 hF, Option.bind_some, hw_G_1 hF, Option.bind_some, hw_P_41_1 hF, Option.bind_some, show (3 : Int32) = nI 3 from rfl, A 3 (by decide), Option.bind_some, s3, w3]
          exact ⟨_, rfl, rfl⟩
        · rw [if_neg h3, if_neg h3]
          by_cases h4 : x = 4
          · rw [if_pos h4, if_pos h4, hw_P_0_0 hF, Option.bind_some, hw_G_1 hF, Option.bind_some, hw_P_41_1 hF, Option.bind_some, show (4 : Int32) = nI 4 from rfl, A 4 (by decide), Option.bind_some, s4, w4]
            exact ⟨_, rfl, rfl⟩
          · rw [if_neg h4, if_neg h4]
            by_cases h5 : x = 5
            · rw [if_pos h5, if_pos h5, hw_P_0_0 hF, Option.bind_some, hw_G_1 hF, Option.bind_some, hw_P_41_1 hF, Option.bind_some, show (5 : Int32) = nI 5 from rfl, A 5 (by decide), Option.bind_some, s5, w5]
              exact ⟨_, rfl, rfl⟩
            · rw [if_neg h5, if_neg h5]
              by_cases h6 : x = 6
              · rw [if_pos h6, if_pos h6, hw_P_0_4 hF, Option.bind_some, hw_G_23 hF, Option.bind_some, hw_G_41 hF, Option.bind_some, t1, t2]
                exact ⟨_, rfl, rfl⟩
              · rw [if_neg h6, if_neg h6]
                exact ⟨_, rfl, rfl⟩
theorem j_trace {σ : hw_S} (hJ : hw_Jv σ) (x : Int32) : ∃ r, m11_trace 0 x σ = some r ∧ m12_trace 41 x σ = some r := by
  obtain ⟨hF, p1, p2, -, him, n, hn, t1, t2, t3⟩ := id hJ
  unfold m11_trace m10_bodyAt m10_bodyAt_b29 m12_trace m12_trace_b20 m12_trace_b38
  rw [hw_P_0_4 hF, Option.bind_some, hw_V_23 hF, Option.bind_some, hw_G_23 hF, Option.bind_some, t1, show (20 : Int32) = nI 20 from rfl, hw_minN (by omega) (by decide), hw_G_41 hF, Option.bind_some, t2, Option.bind_some, hw_P_23_0 hF, Option.bind_some, hw_P_41_21 hF, Option.bind_some, e11_isWithin, Option.bind_some, e12_in, Option.bind_some, e12_in, Option.bind_some, hw_itb, hw_itb, hw_itb]
  have key : (∃ r, (if (0 : Int32) ≤ x ∧ x ≤ nI (min n 20) - 1 then (hw_aI 0 (some 24) x σ).bind fun v24 => some v24 else some ((-1) : Int32)) = some r ∧ (if (0 : Int32) ≤ x ∧ x ≤ nI (min n 20) - 1 then (hw_aI 0 (some 54) x σ).bind fun v33 => some v33 else some ((-1) : Int32)) = some r) := by
    rcases hw_in0 (x := x) (c := min n 20) (by omega) with ⟨j, hj, rfl⟩ | ⟨-, h2⟩
    · have hin : (0 : Int32) ≤ nI j ∧ nI j ≤ nI (min n 20) - 1 := hw_in1 hj (show min n 20 < 2 ^ 31 by omega)
      rw [if_pos hin, if_pos hin, hw_A_24 hF (by omega), hw_A_54 hF (by omega), t3 j (by omega) (by omega)]
      exact ⟨_, rfl, rfl⟩
    · have h2 : ¬ ((0 : Int32) ≤ x ∧ x ≤ nI (min n 20) - 1) := h2
      rw [if_neg h2, if_neg h2]
      exact ⟨_, rfl, rfl⟩
  obtain ⟨r, k1, k2⟩ := key
  refine ⟨r, ?_, ?_⟩
  · rw [← k1]
    have ob : ∀ o : Option Int32, (o.bind fun v => some v) = o := fun o => by cases o <;> rfl
    exact ob _
  · rw [← k2]
    by_cases h : 20 ≤ n
    · rw [if_pos (nI_le h (by omega)), Nat.min_eq_right h]
    · rw [if_neg (nI_ge (by omega) (by decide)), Nat.min_eq_left (by omega)]
def sp_und (k j : Nat) : Bool := decide (j = 0) || decide (j = k) || (decide (j = 2) && (decide (k = 4) || decide (k = 5))) || (decide (j = 3) && decide (k = 6))
theorem r_isUnder {k j : Nat} (hk : k ≤ 6) (hj : j ≤ 6) : m12_isUnder (nI k) (nI j) = some (nI (hw_bn (sp_und k j))) := by
  have : ∀ k, k < 7 → ∀ j, j < 7 → m12_isUnder (nI k) (nI j) = some (nI (hw_bn (sp_und k j))) := by decide +kernel
  exact this k (by omega) j (by omega)
theorem hw_subt {k j : Nat} (hk : k ≤ 6) (hj : 1 ≤ j) (hj2 : j ≤ 6) : hw_sub (hw_tg k) (hw_tg j - 1) = sp_und k j := by
  have : ∀ k, k < 7 → ∀ j, j < 7 → 1 ≤ j → hw_sub (hw_tg k) (hw_tg j - 1) = sp_und k j := by decide +kernel
  exact this k (by omega) j (by omega) hj
theorem c_isOfKind {σ : hw_S} {a k j : Nat} (hk : k ≤ 6) (hj : j ≤ 6) (ht : σ.1 a = hw_tg k) (hq : hw_qL (σ.1 a) = true) : m11_isOfKind (some a) (nI j) σ = some (nI (hw_bn (sp_und k j))) := by
  have io : ∀ j, 1 ≤ j → j ≤ 6 → hw_io (hw_tg j - 1) (some a) σ = some (nI (hw_bn (sp_und k j))) := by
    intro j h1 h2
    show (if hw_qL (σ.1 a) = true then some (if hw_sub (σ.1 a) (hw_tg j - 1) = true then (1 : Int32) else 0) else none) = _
    rw [if_pos hq, ht, hw_subt hk h1 h2]
    cases sp_und k j <;> rfl
  have tf : ∀ b : Bool, hw_tf (nI (hw_bn b)) = some () := fun b => by cases b <;> rfl
  unfold m11_isOfKind
  match j, hj with
  | 0, _ => rfl
  | 1, _ => rw [if_neg (show ¬ nI 1 = 0 by decide), if_pos (show nI 1 = 1 from rfl), show hw_io 7 (some a) σ = _ from io 1 (by decide) (by decide), Option.bind_some, tf, Option.bind_some]
  | 2, _ => rw [if_neg (show ¬ nI 2 = 0 by decide), if_neg (show ¬ nI 2 = 1 by decide), if_pos (show nI 2 = 2 from rfl), show hw_io 2 (some a) σ = _ from io 2 (by decide) (by decide), Option.bind_some, tf, Option.bind_some]
  | 3, _ => rw [if_neg (show ¬ nI 3 = 0 by decide), if_neg (show ¬ nI 3 = 1 by decide), if_neg (show ¬ nI 3 = 2 by decide), if_pos (show nI 3 = 3 from rfl), show hw_io 1 (some a) σ = _ from io 3 (by decide) (by decide), Option.bind_some, tf, Option.bind_some]
  | 4, _ => rw [if_neg (show ¬ nI 4 = 0 by decide), if_neg (show ¬ nI 4 = 1 by decide), if_neg (show ¬ nI 4 = 2 by decide), if_neg (show ¬ nI 4 = 3 by decide), if_pos (show nI 4 = 4 from rfl), show hw_io 0 (some a) σ = _ from io 4 (by decide) (by decide), Option.bind_some, tf, Option.bind_some]
  | 5, _ => rw [if_neg (show ¬ nI 5 = 0 by decide), if_neg (show ¬ nI 5 = 1 by decide), if_neg (show ¬ nI 5 = 2 by decide), if_neg (show ¬ nI 5 = 3 by decide), if_neg (show ¬ nI 5 = 4 by decide), if_pos (show nI 5 = 5 from rfl), show hw_io 6 (some a) σ = _ from io 5 (by decide) (by decide), Option.bind_some, tf, Option.bind_some]
  | 6, _ => rw [if_neg (show ¬ nI 6 = 0 by decide), if_neg (show ¬ nI 6 = 1 by decide), if_neg (show ¬ nI 6 = 2 by decide), if_neg (show ¬ nI 6 = 3 by decide), if_neg (show ¬ nI 6 = 4 by decide), if_neg (show ¬ nI 6 = 5 by decide), if_pos (show nI 6 = 6 from rfl), show hw_io 5 (some a) σ = _ from io 6 (by decide) (by decide), Option.bind_some, tf, Option.bind_some]
theorem j_as {σ : hw_S} (hJ : hw_Jv σ) (x q : Int32) : ∃ r, m11_as 0 x q σ = some r ∧ m12_as 41 x q σ = some r := by
  obtain ⟨hF, p1, p2, ⟨c0, c1, c2, c3, c4, c5, hr⟩, him, htr⟩ := id hJ
  unfold m11_as m12_as m11_as_b20 m11_as_b39 m12_as_b18 m12_as_b52
  rcases x_law hF hr x with ⟨l, a, hlc, hl8, rfl, el, ml, hlw⟩ | ⟨-, el, ml⟩
  · simp only [hw_V_0 hF, hw_V_41 hF, Option.bind_some, el, ml σ hw_d.rf, hw_ifs, hw_if10, e11_isWithin, e12_in, hw_itb]
    by_cases hq : (0 : Int32) ≤ q ∧ q ≤ 6
    · obtain ⟨j, j1, j2, rfl⟩ := hw_win (lo := 0) (hi := 6) (by decide) (by decide) hq
      have g := hlw.q hl8
      have hk := (hlw.ml hl8).k
      have hv := (hlw.ml hl8).v
      have e1 : (148 : Int32) + nI l = nI (148 + l) := nI_add 148 l
      have e4 : (140 : Int32) + nI l = nI (140 + l) := nI_add 140 l
      rw [if_pos hq, if_pos hq, c_isOfKind hk.1 j2 g.2.2.1 g.1, Option.bind_some, hw_P_41_1 hF, Option.bind_some, Option.bind_some, e4, e1, hw_A_42 hF (by omega), hw_A_42 hF (by omega), Option.bind_some, Option.bind_some, hk.2, r_isUnder hk.1 j2, Option.bind_some, hw_gI_at g.1 g.2.1, Option.bind_some, hv.2.2]
      cases sp_und (sp_k (σ.2.2.1 42) l) j
      · rw [if_pos (show nI (hw_bn false) = 0 from rfl)]
        exact ⟨_, rfl, rfl⟩
      · rw [if_neg (show ¬ nI (hw_bn true) = 0 by decide)]
        exact ⟨_, rfl, rfl⟩
    · rw [if_neg hq, if_neg hq]
      exact ⟨_, rfl, rfl⟩
  · simp only [hw_V_0 hF, hw_V_41 hF, Option.bind_some, el, ml σ hw_d.rf, hw_ifn, hw_if00]
    exact ⟨_, rfl, rfl⟩
