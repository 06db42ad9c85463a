/-! the pure layer: the calls that only reckon -/
theorem hw_ifs {α : Type} {a : Nat} [Decidable ((some a : Option Nat) = none)] {x y : α} : (if (some a : Option Nat) = none then x else y) = y := if_neg (fun h => by cases h)
theorem hw_ifn {α : Type} [Decidable ((none : Option Nat) = none)] {x y : α} : (if (none : Option Nat) = none then x else y) = x := if_pos rfl
theorem hw_if10 {α : Type} {x y : α} : (if (1 : Int32) = 0 then x else y) = y := if_neg (by decide)
theorem hw_if00 {α : Type} {x y : α} : (if (0 : Int32) = 0 then x else y) = x := if_pos rfl
theorem hw_b2s {α β γ : Type} {v : α} {w : β} {f : α → β → Option γ} : hw_b2 (some (v, w)) f = f v w := rfl
theorem hw_dg1 {h f p : Nat} (h2 : h ≤ 60) (h4 : f ≤ 20) (h5 : p < 100) : hw_dv (nI (hw_dg h f p)) (10000 : Int32) = some (nI h) := by
  have hb : hw_dg h f p < 2 ^ 31 := by unfold hw_dg; omega
  have e := hw_dvN hb (show 10000 < 2 ^ 31 by decide) (show 0 < 10000 by decide)
  rw [hw_dg_h h4 h5] at e
  exact e
theorem hw_dg2 {h f p : Nat} (h2 : h ≤ 60) (h4 : f ≤ 20) (h5 : p < 100) : hw_dv (nI (hw_dg h f p)) (100 : Int32) = some (nI (hw_dg h f p / 100)) := by
  have hb : hw_dg h f p < 2 ^ 31 := by unfold hw_dg; omega
  exact hw_dvN hb (show 100 < 2 ^ 31 by decide) (show 0 < 100 by decide)
theorem hw_dg3 {h f p : Nat} (h2 : h ≤ 60) (h4 : f ≤ 20) (h5 : p < 100) : hw_rm (nI (hw_dg h f p / 100)) (100 : Int32) = some (nI f) := by
  have hb : hw_dg h f p < 2 ^ 31 := by unfold hw_dg; omega
  have e := hw_rmN (a := hw_dg h f p / 100) (by omega) (show 100 < 2 ^ 31 by decide) (show 0 < 100 by decide)
  rw [hw_dg_f h4 h5] at e
  exact e
theorem hw_dg4 {h f p : Nat} (h2 : h ≤ 60) (h4 : f ≤ 20) (h5 : p < 100) : hw_rm (nI (hw_dg h f p)) (100 : Int32) = some (nI p) := by
  have hb : hw_dg h f p < 2 ^ 31 := by unfold hw_dg; omega
  have e := hw_rmN hb (show 100 < 2 ^ 31 by decide) (show 0 < 100 by decide)
  rw [hw_dg_p h5] at e
  exact e
theorem j_winds {σ : hw_S} (hJ : hw_Jv σ) (x y d q : Int32) : ∃ r τ, m11_winds 0 x y d q σ = some r ∧ m12_winds 41 x y d q σ = some (r, τ) ∧ hw_Jv τ := by
  obtain ⟨hF, p1, p2, ⟨c0, c1, c2, c3, c4, c5, hr⟩, him, htr⟩ := id hJ
  unfold m11_winds m12_winds m11_winds_b34 m11_winds_b85 m12_winds_b26 m12_winds_b113
  rcases x_law hF hr x with ⟨l, a, hlc, hl8, rfl, el, ml, hlw⟩ | ⟨-, el, ml⟩
  · rcases x_stuff hF hr y with ⟨st, sa, hsc, hs5, rfl, es, ms, hsf⟩ | ⟨-, es, ms⟩
    · simp only [hw_V_0 hF, hw_V_41 hF, Option.bind_some, el, es, ml σ hw_d.rf, ms σ hw_d.rf, hw_ifs, hw_if10, e11_isWithin, e12_in, hw_itb]
      by_cases hq : (0 : Int32) ≤ q ∧ q ≤ 2
      · simp only [if_pos hq]
        by_cases hd : hw_dok d
        · rw [e11_isDoing_y hd, e12_isDoing_y hd, Option.bind_some, Option.bind_some, hw_if10, hw_if10]
          obtain ⟨h, f, p, h1, h2, h3, h4, h5, rfl⟩ := hd
          rw [hw_dg1 h2 h4 h5, Option.bind_some, hw_dg2 h2 h4 h5, Option.bind_some, hw_dg3 h2 h4 h5, Option.bind_some, hw_dg4 h2 h4 h5, Option.bind_some]
          have hml := hlw.ml hl8
          have hms := hsf.ms hs5
          obtain ⟨n, n1, n2, rfl⟩ := hw_win (lo := 0) (hi := 2) (by decide) (by decide) hq
          match n, n2 with
          | 0, _ =>
            obtain ⟨τ, g1, g2⟩ := r_baseOf (h := h) (f := f) (p := p) hF hml hms
            simp only [if_pos (show nI 0 = 0 from rfl), hw_rv_at (hlw.q hl8).1, Option.bind_some, c_baseIn hl8 hlw hsf h2 h4 h5, g1, hw_b2s]
            exact ⟨_, τ, rfl, rfl, (g2.mono hw_scr_45).Jv hJ⟩
          | 1, _ =>
            obtain ⟨τ, g1, g2⟩ := r_turnsOf (f := f) (p := p) hF hml hms h1 h2 h4
            simp only [if_neg (show ¬ nI 1 = 0 by decide), if_pos (show nI 1 = 1 from rfl), Option.bind_some, c11_turnsIn_e hl8 hs5 hlw hsf h2 h4 h5, g1, hw_b2s]
            exact ⟨_, τ, rfl, rfl, (g2.mono hw_scr_45).Jv hJ⟩
          | 2, _ =>
            obtain ⟨τ, g1, g2⟩ := r_formOf (f := f) (p := p) hF hml hms h1 h2 h4 h5
            simp only [if_neg (show ¬ nI 2 = 0 by decide), if_neg (show ¬ nI 2 = 1 by decide), Option.bind_some, c11_formIn_e hl8 hs5 hlw hsf h2 h4 h5, g1, hw_b2s]
            exact ⟨_, τ, rfl, rfl, (g2.mono hw_scr_45).Jv hJ⟩
        · rw [e11_isDoing_n hd, e12_isDoing_n hd, Option.bind_some, Option.bind_some, hw_if00, hw_if00]
          exact ⟨_, σ, rfl, rfl, hJ⟩
      · simp only [if_neg hq]
        exact ⟨_, σ, rfl, rfl, hJ⟩
    · simp only [hw_V_0 hF, hw_V_41 hF, Option.bind_some, el, es, ml σ hw_d.rf, ms σ hw_d.rf, hw_ifs, hw_ifn, hw_if10, hw_if00]
      exact ⟨_, σ, rfl, rfl, hJ⟩
  · obtain ⟨es, hes⟩ : ∃ v, m11_stuffAt 0 y σ = some v := by
      rcases x_stuff hF hr y with ⟨st, sa, -, -, -, es, -⟩ | ⟨-, es, -⟩
      · exact ⟨_, es⟩
      · exact ⟨_, es⟩
    simp only [hw_V_0 hF, hw_V_41 hF, Option.bind_some, el, hes, ml σ hw_d.rf, hw_ifn, hw_if00]
    exact ⟨_, σ, rfl, rfl, hJ⟩
theorem j_of {σ : hw_S} (hJ : hw_Jv σ) (x q : Int32) : ∃ r, m11_of 0 x q σ = some r ∧ m12_of 41 x q σ = some r := by
  obtain ⟨hF, p1, p2, ⟨c0, c1, c2, c3, c4, c5, hr⟩, him, htr⟩ := id hJ
  unfold m11_of m12_of m11_of_b19 m11_of_b36 m12_of_b34 m12_of_b35
  rcases x_stuff hF hr x with ⟨st, sa, hsc, hs5, rfl, es, ms, hsf⟩ | ⟨-, es, ms⟩
  · simp only [hw_V_0 hF, hw_V_41 hF, Option.bind_some, es, ms σ hw_d.rf, hw_ifs, hw_if10, e11_isWithin, e12_in, hw_itb]
    by_cases hq : (0 : Int32) ≤ q ∧ q ≤ 1
    · simp only [if_pos hq]
      obtain ⟨n, n1, n2, rfl⟩ := hw_win (lo := 0) (hi := 1) (by decide) (by decide) hq
      obtain ⟨sa', x, y, e, -, gs, -, -, s1, s2, s3, s4⟩ := hsf
      cases e
      have g9 : hw_q 9 (σ.1 sa) = true := by rw [gs]; decide
      match n, n2 with
      | 0, _ =>
        have e1 : ((130 : Int32) + ((5 : Int32) * nI 0)) + nI st = nI (130 + st) := by
          rw [show (130 : Int32) + ((5 : Int32) * nI 0) = nI 130 by decide, nI_add]
        simp only [if_pos (show nI 0 = 0 from rfl), hw_gI_at g9 s1, hw_P_41_1 hF, e1, hw_A_42 hF (show 130 + st < 1396 by omega), Option.bind_some, s3]
        exact ⟨_, rfl, rfl⟩
      | 1, _ =>
        have e1 : ((130 : Int32) + ((5 : Int32) * nI 1)) + nI st = nI (135 + st) := by
          rw [show (130 : Int32) + ((5 : Int32) * nI 1) = nI 135 by decide, nI_add]
        simp only [if_neg (show ¬ nI 1 = 0 by decide), hw_gI_at g9 s2, hw_P_41_1 hF, e1, hw_A_42 hF (show 135 + st < 1396 by omega), Option.bind_some, s4]
        exact ⟨_, rfl, rfl⟩
    · simp only [if_neg hq]
      exact ⟨_, rfl, rfl⟩
  · simp only [hw_V_0 hF, hw_V_41 hF, Option.bind_some, es, ms σ hw_d.rf, hw_ifn, hw_if00]
    exact ⟨_, rfl, rfl⟩
theorem j_told {σ : hw_S} (hJ : hw_Jv σ) (x q : Int32) : ∃ r, m11_told 0 x q σ = some r ∧ m12_told 41 x q σ = some r := by
  obtain ⟨hF, p1, p2, ⟨c0, c1, c2, c3, c4, c5, hr⟩, him, htr⟩ := id hJ
  unfold m11_told m12_told m12_told_b69
  rcases x_law hF hr x with ⟨l, a, hlc, hl8, rfl, el, ml, hlw⟩ | ⟨-, el, ml⟩
  · simp only [hw_V_0 hF, hw_V_41 hF, Option.bind_some, el, ml σ hw_d.rf, hw_ifs, hw_if10, e11_isWithin, e12_in, hw_itb]
    have hq1 := (hlw.q hl8).1
    obtain ⟨a', af, ac, as, k, v, n, hp, co, e, -, -, -, -, -, -, -, -, -, -, -, w1, w2, w3, w4, -, i0, -, i2, i3, i4, g5, -, -, gf, gf2, -, -, -, -, gF, -⟩ := hlw
    cases e
    have fld : ∀ j, j < 4 → ((140 : Int32) + ((8 : Int32) * nI j)) + nI l = nI (140 + 8 * j + l) := by
      intro j hj
      rw [show (8 : Int32) * nI j = nI (8 * j) from nI_mul 8 j, show (140 : Int32) + nI (8 * j) = nI (140 + 8 * j) from nI_add 140 (8 * j), nI_add]
    by_cases hq : (11 : Int32) ≤ q ∧ q ≤ 14
    · obtain ⟨m, m1, m2, rfl⟩ := hw_win (lo := 11) (hi := 14) (by decide) (by decide) hq
      have hn3 : ¬ ((0 : Int32) ≤ nI m ∧ nI m ≤ 3) := fun c => by
        have := (hw_winN (lo := 0) (hi := 3) (by omega) (by decide) (by decide)).mp c
        omega
      have e1 : nI m - (11 : Int32) = nI (m - 11) := nI_sub (b := 11) m1
      have e2 : (((172 : Int32) + ((4 : Int32) * nI l)) + nI m) - (11 : Int32) = nI (172 + 4 * l + (m - 11)) := by
        rw [show (4 : Int32) * nI l = nI (4 * l) from nI_mul 4 l, show (172 : Int32) + nI (4 * l) = nI (172 + 4 * l) from nI_add 172 (4 * l), nI_add, show nI (172 + 4 * l + m) - (11 : Int32) = nI (172 + 4 * l + m - 11) from nI_sub (b := 11) (by omega)]
        congr 1
        omega
      simp only [if_pos hq, if_neg hn3, hw_gP_at hq1 g5, e1, e2, hw_aI_at gf gf2 |> (fun z => z (show m - 11 < 4 by omega) (show 4 < 2 ^ 31 by decide)), hw_P_41_1 hF, hw_A_42 hF (show 172 + 4 * l + (m - 11) < 1396 by omega), Option.bind_some, (gF (m - 11) (by omega)).1]
      exact ⟨_, rfl, rfl⟩
    · simp only [if_neg hq]
      by_cases hq3 : (0 : Int32) ≤ q ∧ q ≤ 3
      · obtain ⟨m, m1, m2, rfl⟩ := hw_win (lo := 0) (hi := 3) (by decide) (by decide) hq3
        simp only [if_pos hq3, hw_P_41_1 hF, Option.bind_some, fld m (by omega), hw_A_42 hF (show 140 + 8 * m + l < 1396 by omega)]
        match m, m2 with
        | 0, _ =>
          simp only [if_pos (show nI 0 = 0 from rfl), hw_gI_at hq1 i0, Option.bind_some]
          exact ⟨_, rfl, by rw [show 140 + 8 * 0 + l = 140 + l by omega, w1]⟩
        | 1, _ =>
          simp only [if_neg (show ¬ nI 1 = 0 by decide), if_pos (show nI 1 = 1 from rfl), hw_gI_at hq1 i2, Option.bind_some]
          exact ⟨_, rfl, by rw [show 140 + 8 * 1 + l = 148 + l by omega, w2]⟩
        | 2, _ =>
          simp only [if_neg (show ¬ nI 2 = 0 by decide), if_neg (show ¬ nI 2 = 1 by decide), if_pos (show nI 2 = 2 from rfl), hw_gI_at hq1 i3, Option.bind_some]
          exact ⟨_, rfl, by rw [show 140 + 8 * 2 + l = 156 + l by omega, w3]⟩
        | 3, _ =>
          simp only [if_neg (show ¬ nI 3 = 0 by decide), if_neg (show ¬ nI 3 = 1 by decide), if_neg (show ¬ nI 3 = 2 by decide), if_pos (show nI 3 = 3 from rfl), hw_gI_at hq1 i4, Option.bind_some]
          exact ⟨_, rfl, by rw [show 140 + 8 * 3 + l = 164 + l by omega, w4]⟩
      · have ne : ∀ m : Nat, m ≤ 3 → ¬ q = nI m := fun m hm e => hq3 (by rw [e]; exact (hw_winN (lo := 0) (hi := 3) (by omega) (by decide) (by decide)).mpr ⟨by omega, hm⟩)
        simp only [if_neg hq3, if_neg (show ¬ q = 0 from ne 0 (by decide)), if_neg (show ¬ q = 1 from ne 1 (by decide)), if_neg (show ¬ q = 2 from ne 2 (by decide)), if_neg (show ¬ q = 3 from ne 3 (by decide))]
        exact ⟨_, rfl, rfl⟩
  · simp only [hw_V_0 hF, hw_V_41 hF, Option.bind_some, el, ml σ hw_d.rf, hw_ifn, hw_if00]
    exact ⟨_, rfl, rfl⟩
