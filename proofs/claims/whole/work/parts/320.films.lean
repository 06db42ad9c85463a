/-! the pure layer: films, two threads, the next film -/
theorem hw_60l {h : Nat} (h0 : 60 < h) (h1 : h < 2 ^ 31) : (60 : Int32) < nI h := nI_lt (a := 60) h0 h1
theorem hw_60n {h : Nat} (h0 : h ≤ 60) : ¬ (60 : Int32) < nI h := nI_nlt (a := 60) h0 (by decide)
theorem hw_100l {h : Nat} (h0 : 100 ≤ h) (h1 : h < 2 ^ 31) : (100 : Int32) ≤ nI h := nI_le (a := 100) h0 h1
theorem hw_100n {h : Nat} (h0 : h < 100) : ¬ (100 : Int32) ≤ nI h := nI_ge (b := 100) h0 (by decide)
theorem hw_Z_0 {σ : hw_S} (h : hw_F σ) : hw_aI 0 (some 42) (0 : Int32) σ = some (σ.2.2.1 42 0) := hw_A_42 (n := 0) h (by decide)
theorem hw_Z_1 {σ : hw_S} (h : hw_F σ) : hw_aI 0 (some 42) (1 : Int32) σ = some (σ.2.2.1 42 1) := hw_A_42 (n := 1) h (by decide)
theorem hw_Z_2 {σ : hw_S} (h : hw_F σ) : hw_aI 0 (some 42) (2 : Int32) σ = some (σ.2.2.1 42 2) := hw_A_42 (n := 2) h (by decide)
theorem hw_Z_3 {σ : hw_S} (h : hw_F σ) : hw_aI 0 (some 42) (3 : Int32) σ = some (σ.2.2.1 42 3) := hw_A_42 (n := 3) h (by decide)
theorem hw_Z_4 {σ : hw_S} (h : hw_F σ) : hw_aI 0 (some 42) (4 : Int32) σ = some (σ.2.2.1 42 4) := hw_A_42 (n := 4) h (by decide)
theorem hw_Z_5 {σ : hw_S} (h : hw_F σ) : hw_aI 0 (some 42) (5 : Int32) σ = some (σ.2.2.1 42 5) := hw_A_42 (n := 5) h (by decide)
theorem e11_doingOf (h f : Nat) : m11_doingOf (nI h) (nI f) = some (nI (hw_dg h f 0)) := by
  unfold m11_doingOf hw_dg
  rw [show (10000 : Int32) = nI 10000 from rfl, show (100 : Int32) = nI 100 from rfl, nI_mul, nI_mul, nI_add, show h * 10000 + f * 100 = 10000 * h + 100 * f + 0 by omega]
theorem hw_absN {a b : Nat} (ha : a < 2 ^ 30) (hb : b < 2 ^ 30) : hw_abs (nI a - nI b) = nI ((a - b) + (b - a)) := by
  unfold hw_abs
  by_cases h : b ≤ a
  · rw [nI_sub h, if_pos (nI_pos' (by omega)), show a - b + (b - a) = a - b by omega]
  · have h1 : ¬ (0 : Int32) ≤ nI a - nI b := Int32.not_le.mpr (pk_sneg hb (by omega))
    rw [if_neg h1, show (0 : Int32) = iI 0 from rfl, iI_nI a, iI_nI b, iI_nI, iI_sub, iI_sub]
    congr 1
    omega
theorem x_film_c {σ : hw_S} {l a i q sa h f p t : Nat} (hF : hw_F σ) (hl8 : l < 8) (hl : hw_lw σ (some a) l (σ.2.2.1 42)) (hi : i < 12) (hs5 : q < 5) (f1 : σ.2.2.1 7 i = nI q) (f2 : σ.2.2.1 8 i = nI (hw_dg h f p)) (f3 : σ.2.2.1 9 i = nI t) (es : m11_stuffAt 0 (nI q) σ = some (some sa)) (hsf : hw_sf σ (some sa) (σ.2.2.1 42 (130 + q)) (σ.2.2.1 42 (135 + q))) (h2 : h ≤ 60) (h4 : f ≤ 20) (h5 : p < 100) :
    m11_offFilm 0 (some a) (nI i) σ = some (hw_abs (nI (sp_to (σ.2.2.1 42) l q h f p) - nI t)) := by
  unfold m11_offFilm
  rw [hw_P_0_0 hF, Option.bind_some, hw_P_1_10 hF, Option.bind_some, hw_A_7 hF hi, Option.bind_some, hw_V_0 hF, Option.bind_some, f1, es, Option.bind_some, hw_ifs, Option.bind_some, hw_P_1_11 hF, Option.bind_some, hw_A_8 hF hi, Option.bind_some, f2, c11_turnsIn_e hl8 hs5 hl hsf h2 h4 h5, Option.bind_some, Option.bind_some, hw_P_1_12 hF, Option.bind_some, hw_A_9 hF hi, Option.bind_some, f3]
theorem x_film_r {τ υ : hw_S} {l i q h f p t : Nat} (Fτ : hw_F τ) (Fυ : hw_F υ) (hi : i < 12) (h1 : τ.2.2.1 42 (1360 + i) = nI q) (e2 : τ.2.2.1 42 (1372 + i) = nI (hw_dg h f p)) (e3 : υ.2.2.1 42 (1384 + i) = nI t) (h2 : h ≤ 60) (h4 : f ≤ 20) (h5 : p < 100) {T : Nat} (g : m12_turnsOf 41 (nI l) (nI q) (nI h) (nI f) (nI p) τ = some (nI T, υ)) :
    m12_offOf 41 (nI l) (nI i) τ = some (hw_abs (nI T - nI t), υ) := by
  have a1 : hw_aI 0 (some 42) ((1372 : Int32) + nI i) τ = some (nI (hw_dg h f p)) := by
    rw [show (1372 : Int32) = nI 1372 from rfl, nI_add, hw_A_42 Fτ (by omega), e2]
  have a2 : hw_aI 0 (some 42) ((1360 : Int32) + nI i) τ = some (nI q) := by
    rw [show (1360 : Int32) = nI 1360 from rfl, nI_add, hw_A_42 Fτ (by omega), h1]
  have a3 : hw_aI 0 (some 42) ((1384 : Int32) + nI i) υ = some (nI t) := by
    rw [show (1384 : Int32) = nI 1384 from rfl, nI_add, hw_A_42 Fυ (by omega), e3]
  unfold m12_offOf
  rw [hw_P_41_1 Fτ, Option.bind_some, a1, Option.bind_some, Option.bind_some, a2, Option.bind_some, hw_dg1 h2 h4 h5, Option.bind_some, hw_dg2 h2 h4 h5, Option.bind_some, hw_dg3 h2 h4 h5, Option.bind_some, hw_dg4 h2 h4 h5, Option.bind_some, hw_V_41 Fτ, Option.bind_some, g, hw_b2s, hw_P_41_1 Fυ, Option.bind_some, a3, Option.bind_some, e12_size, Option.bind_some]
theorem x_film {σ : hw_S} {c0 c1 c2 c3 c4 c5 l a i : Nat} (hF : hw_F σ) (hr : hw_rel σ 1 (σ.2.2.1 42) c0 c1 c2 c3 c4 c5) (hl8 : l < 8) (hl : hw_lw σ (some a) l (σ.2.2.1 42)) (hi : i < c2) :
    ∃ r, m11_offFilm 0 (some a) (nI i) σ = some r ∧ ∀ τ, hw_d hw_scr σ τ → ∃ υ, m12_offOf 41 (nI l) (nI i) τ = some (r, υ) ∧ hw_d hw_scr σ υ := by
  obtain ⟨⟨b0, b1, b2, b3, b4, b5⟩, -, -, -, -, -, -, -, hfm⟩ := id hr
  obtain ⟨f1, f2, f3, ⟨q, hq, eqq⟩, ⟨h, f, p, h1, h2, h3, h4, h5, ed⟩, t, ht, et⟩ := hfm i hi
  rcases x_stuff hF hr (nI q) with ⟨st, sa, hsc, hs5, e, es, ms, hsf⟩ | ⟨hno, -, -⟩
  · have e : q = st := (nI_eq (by omega) (by omega)).mp e
    subst e
    refine ⟨hw_abs (nI (sp_to (σ.2.2.1 42) l q h f p) - nI t), ?_, fun τ hd => ?_⟩
    · exact x_film_c hF hl8 hl (by omega) hs5 (f1.trans eqq) (f2.trans ed) (f3.trans et) es hsf h2 h4 h5
    · have Fτ := hd.F hF
      have e42 : τ.2.2.1 42 = σ.2.2.1 42 := hd.I (by omega)
      obtain ⟨υ, g1, g2⟩ := r_turnsOf (σ := τ) (l := l) (st := q) (h := h) (f := f) (p := p) Fτ (by rw [e42]; exact hl.ml hl8) (by rw [e42]; exact hsf.ms hs5) h1 h2 h4
      have hd2 := hd.tr (g2.mono hw_scr_45)
      have e42υ : υ.2.2.1 42 = σ.2.2.1 42 := hd2.I (by omega)
      rw [e42] at g1
      exact ⟨υ, x_film_r Fτ (hd2.F hF) (by omega) ((congrFun e42 _).trans eqq) ((congrFun e42 _).trans ed) ((congrFun e42υ _).trans et) h2 h4 h5 g1, hd2⟩
  · exact absurd rfl (hno q hq)
theorem x_offAll {σ : hw_S} {c0 c1 c2 c3 c4 c5 l a : Nat} (hF : hw_F σ) (hr : hw_rel σ 1 (σ.2.2.1 42) c0 c1 c2 c3 c4 c5) (hl8 : l < 8) (hl : hw_lw σ (some a) l (σ.2.2.1 42)) :
    ∃ r, m11_offAllFilms 0 (some a) σ = some r ∧ ∀ τ, hw_d hw_scr σ τ → ∃ υ, m12_offAll 41 (nI l) τ = some (r, υ) ∧ hw_d hw_scr σ υ := by
  have s2 : σ.2.2.1 1 13 = nI c2 := hr.2.2.1.2.2.1
  have w2 : σ.2.2.1 42 2 = nI c2 := hr.2.1.2.2.1
  have b2 : c2 ≤ 12 := hr.1.2.2.1
  have key : ∀ d j fuel fuel2 acc, j + d = c2 → d < fuel → d < fuel2 → ∃ r, m11_offAllFilms_b4 fuel 0 (some a) acc (nI j) σ = some r ∧ ∀ τ, hw_d hw_scr σ τ → ∃ υ, m12_offAll_b4 fuel2 41 (nI l) acc (nI j) τ = some (r, υ) ∧ hw_d hw_scr σ υ := by
    intro d
    induction d with
    | zero =>
      intro j fuel fuel2 acc e hf hf2
      obtain ⟨fuel, rfl⟩ : ∃ k, fuel = k + 1 := ⟨fuel - 1, by omega⟩
      obtain ⟨fuel2, rfl⟩ : ∃ k, fuel2 = k + 1 := ⟨fuel2 - 1, by omega⟩
      refine ⟨acc, ?_, fun τ hd => ⟨τ, ?_, hd⟩⟩
      · rw [m11_offAllFilms_b4, hw_P_0_0 hF, Option.bind_some, hw_G_1 hF, Option.bind_some, s2, if_pos (nI_le (by omega) (by omega))]
      · rw [m12_offAll_b4, hw_P_41_1 (hd.F hF), Option.bind_some, hw_Z_2 (hd.F hF), Option.bind_some, hd.I (a := 42) (by omega), w2, if_pos (nI_le (by omega) (by omega))]
    | succ d ih =>
      intro j fuel fuel2 acc e hf hf2
      obtain ⟨fuel, rfl⟩ : ∃ k, fuel = k + 1 := ⟨fuel - 1, by omega⟩
      obtain ⟨fuel2, rfl⟩ : ∃ k, fuel2 = k + 1 := ⟨fuel2 - 1, by omega⟩
      have hj : j < c2 := by omega
      obtain ⟨v, v1, v2⟩ := x_film hF hr hl8 hl hj
      obtain ⟨r, r1, r2⟩ := ih (j + 1) fuel fuel2 (acc + v) (by omega) (by omega) (by omega)
      refine ⟨r, ?_, fun τ hd => ?_⟩
      · rw [m11_offAllFilms_b4, hw_P_0_0 hF, Option.bind_some, hw_G_1 hF, Option.bind_some, s2, if_neg (nI_ge hj (by omega)), hw_V_0 hF, Option.bind_some, v1, Option.bind_some, nI_1]
        exact r1
      · obtain ⟨υ, g1, g2⟩ := v2 τ hd
        obtain ⟨ω, k1, k2⟩ := r2 υ g2
        refine ⟨ω, ?_, k2⟩
        rw [m12_offAll_b4, hw_P_41_1 (hd.F hF), Option.bind_some, hw_Z_2 (hd.F hF), Option.bind_some, hd.I (a := 42) (by omega), w2, if_neg (nI_ge hj (by omega)), hw_V_41 (hd.F hF), Option.bind_some, g1, hw_b2s, nI_1]
        exact k1
  exact key c2 0 hw_fu hw_fu 0 (by omega) (by show c2 < 4000; omega) (by show c2 < 4000; omega)
theorem j_off {σ : hw_S} (hJ : hw_Jv σ) (x : Int32) : ∃ r τ, m11_off 0 x σ = some r ∧ m12_off 41 x σ = some (r, τ) ∧ hw_Jv τ := by
  obtain ⟨hF, p1, p2, ⟨c0, c1, c2, c3, c4, c5, hr⟩, him, htr⟩ := id hJ
  unfold m11_off m12_off m12_off_b17
  rcases x_law hF hr x with ⟨l, a, hlc, hl8, rfl, el, ml, hlw⟩ | ⟨-, el, ml⟩
  · obtain ⟨r, v1, v2⟩ := x_offAll hF hr hl8 hlw
    obtain ⟨υ, g1, g2⟩ := v2 σ hw_d.rf
    simp only [hw_V_0 hF, hw_V_41 hF, Option.bind_some, el, ml σ hw_d.rf, hw_ifs, hw_if10, v1, g1, hw_b2s]
    exact ⟨_, υ, rfl, rfl, g2.Jv hJ⟩
  · simp only [hw_V_0 hF, hw_V_41 hF, Option.bind_some, el, ml σ hw_d.rf, hw_ifn, hw_if00]
    exact ⟨_, σ, rfl, rfl, hJ⟩
theorem j_fits {σ : hw_S} (hJ : hw_Jv σ) (x n : Int32) : ∃ r τ, m11_fits 0 x n σ = some r ∧ m12_fits 41 x n σ = some (r, τ) ∧ hw_Jv τ := by
  obtain ⟨hF, p1, p2, ⟨c0, c1, c2, c3, c4, c5, hr⟩, him, htr⟩ := id hJ
  have s2 : σ.2.2.1 1 13 = nI c2 := hr.2.2.1.2.2.1
  have w2 : σ.2.2.1 42 2 = nI c2 := hr.2.1.2.2.1
  have b2 : c2 ≤ 12 := hr.1.2.2.1
  unfold m11_fits m12_fits
  rcases x_law hF hr x with ⟨l, a, hlc, hl8, rfl, el, ml, hlw⟩ | ⟨-, el, ml⟩
  · simp only [hw_V_0 hF, hw_V_41 hF, Option.bind_some, el, ml σ hw_d.rf, hw_ifs, hw_if10, e11_isWithin, e12_in, hw_itb]
    by_cases hq : (0 : Int32) ≤ n ∧ n ≤ 99
    · rw [if_pos hq, if_pos hq]
      have key : ∀ d j fuel fuel2 acc, j + d = c2 → d < fuel → d < fuel2 → ∃ r, m11_fits_b31 fuel 0 n (some a) acc (nI j) σ = some r ∧ ∀ τ, hw_d hw_scr σ τ → ∃ υ, m12_fits_b28 fuel2 41 (nI l) n acc (nI j) τ = some (r, υ) ∧ hw_d hw_scr σ υ := by
        intro d
        induction d with
        | zero =>
          intro j fuel fuel2 acc e hf hf2
          obtain ⟨fuel, rfl⟩ : ∃ k, fuel = k + 1 := ⟨fuel - 1, by omega⟩
          obtain ⟨fuel2, rfl⟩ : ∃ k, fuel2 = k + 1 := ⟨fuel2 - 1, by omega⟩
          refine ⟨acc, ?_, fun τ hd => ⟨τ, ?_, hd⟩⟩
          · rw [m11_fits_b31, hw_P_0_0 hF, Option.bind_some, hw_G_1 hF, Option.bind_some, s2, if_pos (nI_le (by omega) (by omega))]
          · rw [m12_fits_b28, hw_P_41_1 (hd.F hF), Option.bind_some, hw_Z_2 (hd.F hF), Option.bind_some, hd.I (a := 42) (by omega), w2, if_pos (nI_le (by omega) (by omega))]
        | succ d ih =>
          intro j fuel fuel2 acc e hf hf2
          obtain ⟨fuel, rfl⟩ : ∃ k, fuel = k + 1 := ⟨fuel - 1, by omega⟩
          obtain ⟨fuel2, rfl⟩ : ∃ k, fuel2 = k + 1 := ⟨fuel2 - 1, by omega⟩
          have hj : j < c2 := by omega
          obtain ⟨v, v1, v2⟩ := x_film hF hr hl8 hlw hj
          obtain ⟨r, r1, r2⟩ := ih (j + 1) fuel fuel2 (if n < v then acc else acc ||| ((1 : Int32) <<< (nI j &&& 31))) (by omega) (by omega) (by omega)
          refine ⟨r, ?_, fun τ hd => ?_⟩
          · rw [m11_fits_b31, hw_P_0_0 hF, Option.bind_some, hw_G_1 hF, Option.bind_some, s2, if_neg (nI_ge hj (by omega)), hw_V_0 hF, Option.bind_some, v1, Option.bind_some]
            unfold m11_fits_b63
            rw [nI_1]
            by_cases hc : n < v
            · rw [if_pos hc] at r1 ⊢
              exact r1
            · rw [if_neg hc] at r1 ⊢
              exact r1
          · obtain ⟨υ, g1, g2⟩ := v2 τ hd
            obtain ⟨ω, k1, k2⟩ := r2 υ g2
            refine ⟨ω, ?_, k2⟩
            rw [m12_fits_b28, hw_P_41_1 (hd.F hF), Option.bind_some, hw_Z_2 (hd.F hF), Option.bind_some, hd.I (a := 42) (by omega), w2, if_neg (nI_ge hj (by omega)), hw_V_41 (hd.F hF), Option.bind_some, g1, hw_b2s]
            unfold m12_fits_b59
            rw [nI_1]
            by_cases hc : n < v
            · rw [if_pos hc] at k1 ⊢
              rw [Int32.or_zero]
              exact k1
            · rw [if_neg hc] at k1 ⊢
              exact k1
      obtain ⟨r, v1, v2⟩ := key c2 0 hw_fu hw_fu 0 (by omega) (by show c2 < 4000; omega) (by show c2 < 4000; omega)
      obtain ⟨υ, g1, g2⟩ := v2 σ hw_d.rf
      exact ⟨r, υ, v1, g1, g2.Jv hJ⟩
    · rw [if_neg hq, if_neg hq]
      exact ⟨_, σ, rfl, rfl, hJ⟩
  · simp only [hw_V_0 hF, hw_V_41 hF, Option.bind_some, el, ml σ hw_d.rf, hw_ifn, hw_if00]
    exact ⟨_, σ, rfl, rfl, hJ⟩
theorem j_which {σ : hw_S} (hJ : hw_Jv σ) : ∃ r τ, m11_which 0 σ = some r ∧ m12_which 41 σ = some (r, τ) ∧ hw_Jv τ := by
  obtain ⟨hF, p1, p2, ⟨c0, c1, c2, c3, c4, c5, hr⟩, him, htr⟩ := id hJ
  have s1 : σ.2.2.1 1 3 = nI c1 := hr.2.2.1.2.1
  have w1 : σ.2.2.1 42 1 = nI c1 := hr.2.1.2.1
  have b1 : c1 ≤ 8 := hr.1.2.1
  have key : ∀ d j fuel fuel2 be le, j + d = c1 → d < fuel → d < fuel2 → ∃ r, m11_which_b7 fuel 0 be le (nI j) σ = some r ∧ ∀ τ, hw_d hw_scr σ τ → ∃ υ, m12_which_b7 fuel2 41 be le (nI j) τ = some (r, υ) ∧ hw_d hw_scr σ υ := by
    intro d
    induction d with
    | zero =>
      intro j fuel fuel2 be le e hf hf2
      obtain ⟨fuel, rfl⟩ : ∃ k, fuel = k + 1 := ⟨fuel - 1, by omega⟩
      obtain ⟨fuel2, rfl⟩ : ∃ k, fuel2 = k + 1 := ⟨fuel2 - 1, by omega⟩
      refine ⟨be, ?_, fun τ hd => ⟨τ, ?_, hd⟩⟩
      · rw [m11_which_b7, hw_P_0_0 hF, Option.bind_some, hw_G_1 hF, Option.bind_some, s1, if_pos (nI_le (by omega) (by omega))]
      · rw [m12_which_b7, hw_P_41_1 (hd.F hF), Option.bind_some, hw_Z_1 (hd.F hF), Option.bind_some, hd.I (a := 42) (by omega), w1, if_pos (nI_le (by omega) (by omega))]
    | succ d ih =>
      intro j fuel fuel2 be le e hf hf2
      obtain ⟨fuel, rfl⟩ : ∃ k, fuel = k + 1 := ⟨fuel - 1, by omega⟩
      obtain ⟨fuel2, rfl⟩ : ∃ k, fuel2 = k + 1 := ⟨fuel2 - 1, by omega⟩
      have hj : j < c1 := by omega
      rcases x_law hF hr (nI j) with ⟨l, a, hlc, hl8, ej, el, ml, hlw⟩ | ⟨hno, -, -⟩
      · have ej : j = l := (nI_eq (by omega) (by omega)).mp ej
        subst ej
        obtain ⟨v, v1, v2⟩ := x_offAll hF hr hl8 hlw
        have st : ∃ be' le', (∀ k : Nat → Int32 → Int32 → Int32 → hw_S → Option Int32, m11_which_b41 k 0 be le (nI j) v σ = k 0 be' le' (nI (j + 1)) σ) ∧ ∀ (k : Nat → Int32 → Int32 → Int32 → hw_S → Option (Int32 × hw_S)) (υ : hw_S), (if be = ((-5) : Int32) then m12_which_b36 k 41 be le (nI j) v υ else (if le ≤ v then m12_which_b41 k 41 be le (nI j) v (0 : Int32) υ else m12_which_b36 k 41 be le (nI j) v υ)) = k 41 be' le' (nI (j + 1)) υ := by
          unfold m11_which_b41 m11_which_b55 m11_which_b60 m12_which_b36 m12_which_b41 m12_which_b53 m12_which_b65
          rw [nI_1]
          by_cases h5 : be = ((-5) : Int32)
          · simp only [if_pos h5, hw_if10]
            exact ⟨_, _, fun k => rfl, fun k υ => rfl⟩
          · simp only [if_neg h5]
            by_cases h6 : le ≤ v
            · simp only [if_pos h6, hw_if00]
              exact ⟨_, _, fun k => rfl, fun k υ => rfl⟩
            · simp only [if_neg h6, hw_if10]
              exact ⟨_, _, fun k => rfl, fun k υ => rfl⟩
        obtain ⟨be', le', st1, st2⟩ := st
        obtain ⟨r, r1, r2⟩ := ih (j + 1) fuel fuel2 be' le' (by omega) (by omega) (by omega)
        refine ⟨r, ?_, fun τ hd => ?_⟩
        · rw [m11_which_b7]
          simp only [hw_P_0_0 hF, Option.bind_some, hw_G_1 hF, s1, hw_V_0 hF, el, hw_ifs, v1]
          rw [if_neg (nI_ge hj (by omega)), st1]
          exact r1
        · obtain ⟨υ, g1, g2⟩ := v2 τ hd
          obtain ⟨ω, k1, k2⟩ := r2 υ g2
          refine ⟨ω, ?_, k2⟩
          rw [m12_which_b7, hw_P_41_1 (hd.F hF), Option.bind_some, hw_Z_1 (hd.F hF), Option.bind_some, hd.I (a := 42) (by omega), w1, if_neg (nI_ge hj (by omega)), hw_V_41 (hd.F hF), Option.bind_some, g1, hw_b2s, st2]
          exact k1
      · exact absurd rfl (hno j hj)
  obtain ⟨r, v1, v2⟩ := key c1 0 hw_fu hw_fu (-5) 0 (by omega) (by show c1 < 4000; omega) (by show c1 < 4000; omega)
  obtain ⟨υ, g1, g2⟩ := v2 σ hw_d.rf
  exact ⟨r, υ, v1, g1, g2.Jv hJ⟩
theorem hw_neg100 {x : Int32} (h : x < 0) : (∃ y, hw_dv x 100 = some y ∧ ¬ (nI 1 ≤ y ∧ y ≤ nI 20)) ∧ ∃ z, hw_rm x 100 = some z := by
  have n0 : ¬ (100 : Int32) = 0 := by decide
  refine ⟨⟨x / 100, by unfold hw_dv; rw [if_neg n0], fun c => ?_⟩, ⟨_, by unfold hw_rm; rw [if_neg n0]⟩⟩
  have h1 := Int32.le_iff_toInt_le.mp c.1
  have h2 := Int32.lt_iff_toInt_lt.mp h
  rw [Int32.toInt_zero] at h2
  rw [nI_toInt (by omega), Int32.toInt_div_of_ne_right _ _ (by decide), show (100 : Int32).toInt = 100 by decide] at h1
  obtain ⟨n, hn⟩ : ∃ n : Nat, x.toInt = -(n : Int) := ⟨(-x.toInt).toNat, by omega⟩
  rw [hn, Int.neg_tdiv, Int.natCast_tdiv_eq_ediv] at h1
  omega
