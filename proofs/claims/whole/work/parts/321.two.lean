/-! the pure layer: two threads, the next film -/
theorem hw_fl {x : Int32} (h : nI 1 ≤ x ∧ x ≤ nI 20) : ∃ f : Nat, 1 ≤ f ∧ f ≤ 20 ∧ x = nI f := hw_win (lo := 1) (hi := 20) (by decide) (by decide) h
theorem x_two {σ : hw_S} {l a st sa st2 sb dd f g : Nat} (hF : hw_F σ) (hl8 : l < 8) (hl : hw_lw σ (some a) l (σ.2.2.1 42)) (hs5 : st < 5) (hsf : hw_sf σ (some sa) (σ.2.2.1 42 (130 + st)) (σ.2.2.1 42 (135 + st))) (hs5b : st2 < 5) (hsfb : hw_sf σ (some sb) (σ.2.2.1 42 (130 + st2)) (σ.2.2.1 42 (135 + st2))) (hd : dd ≤ 99) (hf : f ≤ 20) (hg : g ≤ 20) :
    ∀ d h fuel fuel2, h + d = 61 → 1 ≤ h → d < fuel → d < fuel2 → ∃ r, m11_two_b85 fuel 0 (nI dd) (some a) (some sa) (some sb) (nI f) (nI g) (nI h) σ = some r ∧ ∀ τ, hw_d hw_scr σ τ → ∃ υ, m12_two_b77 fuel2 41 (nI l) (nI st) (nI st2) (nI dd) (nI (100 * f + g)) (nI h) τ = some (r, υ) ∧ hw_d hw_scr σ υ := by
  have hml := hl.ml hl8
  have hms := hsf.ms hs5
  have hmsb := hsfb.ms hs5b
  have d1 : hw_dv (nI (100 * f + g)) (100 : Int32) = some (nI f) := by
    have := hw_dvN (a := 100 * f + g) (b := 100) (by omega) (by decide) (by decide)
    rw [show (100 * f + g) / 100 = f by omega] at this
    exact this
  have d2 : hw_rm (nI (100 * f + g)) (100 : Int32) = some (nI g) := by
    have := hw_rmN (a := 100 * f + g) (b := 100) (by omega) (by decide) (by decide)
    rw [show (100 * f + g) % 100 = g by omega] at this
    exact this
  intro d
  induction d with
  | zero =>
    intro h fuel fuel2 e h1 hfu hfu2
    obtain ⟨fuel, rfl⟩ : ∃ k, fuel = k + 1 := ⟨fuel - 1, by omega⟩
    obtain ⟨fuel2, rfl⟩ : ∃ k, fuel2 = k + 1 := ⟨fuel2 - 1, by omega⟩
    refine ⟨(-5), ?_, fun τ hd => ⟨τ, ?_, hd⟩⟩
    · rw [m11_two_b85, if_pos (hw_60l (h := h) (by omega) (by omega))]
    · rw [m12_two_b77, if_pos (hw_60l (h := h) (by omega) (by omega))]
  | succ d ih =>
    intro h fuel fuel2 e h1 hfu hfu2
    obtain ⟨fuel, rfl⟩ : ∃ k, fuel = k + 1 := ⟨fuel - 1, by omega⟩
    obtain ⟨fuel2, rfl⟩ : ∃ k, fuel2 = k + 1 := ⟨fuel2 - 1, by omega⟩
    have hh : h ≤ 60 := by omega
    have ng : ¬ (60 : Int32) < nI h := hw_60n hh
    have t1 := sp_to_le hml st h f 0
    have t2 := sp_to_le hml st2 h g 0
    have e1 := c11_turnsIn_e (p := 0) hl8 hs5 hl hsf hh hf (by decide)
    have e2 := c11_turnsIn_e (p := 0) hl8 hs5b hl hsfb hh hg (by decide)
    have k1 : m11_cut (100 : Int32) (nI (sp_to (σ.2.2.1 42) l st h f 0)) = some (nI (100 / sp_to (σ.2.2.1 42) l st h f 0)) := e11_cut (a := 100) (by decide) (by omega)
    have k2 : m11_cut (100 : Int32) (nI (sp_to (σ.2.2.1 42) l st2 h g 0)) = some (nI (100 / sp_to (σ.2.2.1 42) l st2 h g 0)) := e11_cut (a := 100) (by decide) (by omega)
    have q1 : hw_dv (100 : Int32) (nI (sp_to (σ.2.2.1 42) l st h f 0)) = some (nI (100 / sp_to (σ.2.2.1 42) l st h f 0)) := hw_dvN (a := 100) (by decide) (by omega) t1.1
    have q2 : hw_dv (100 : Int32) (nI (sp_to (σ.2.2.1 42) l st2 h g 0)) = some (nI (100 / sp_to (σ.2.2.1 42) l st2 h g 0)) := hw_dvN (a := 100) (by decide) (by omega) t2.1
    have rf : ∀ τ, hw_d hw_scr σ τ → ∃ υ ω, hw_d hw_scr σ ω ∧ m12_turnsOf 41 (nI l) (nI st) (nI h) (nI f) (0 : Int32) τ = some (nI (sp_to (σ.2.2.1 42) l st h f 0), υ) ∧ m12_turnsOf 41 (nI l) (nI st2) (nI h) (nI g) (0 : Int32) υ = some (nI (sp_to (σ.2.2.1 42) l st2 h g 0), ω) ∧ hw_F τ ∧ hw_F υ := by
      intro τ hd
      have e42 : τ.2.2.1 42 = σ.2.2.1 42 := hd.I (by omega)
      obtain ⟨υ, g1, g2⟩ := r_turnsOf (σ := τ) (l := l) (st := st) (h := h) (f := f) (p := 0) (hd.F hF) (by rw [e42]; exact hml) (by rw [e42]; exact hms) h1 hh hf
      have hd2 := hd.tr (g2.mono hw_scr_45)
      have e42υ : υ.2.2.1 42 = σ.2.2.1 42 := hd2.I (by omega)
      obtain ⟨ω, g3, g4⟩ := r_turnsOf (σ := υ) (l := l) (st := st2) (h := h) (f := g) (p := 0) (hd2.F hF) (by rw [e42υ]; exact hml) (by rw [e42υ]; exact hmsb) h1 hh hg
      rw [e42] at g1
      rw [e42υ] at g3
      exact ⟨υ, ω, hd2.tr (g4.mono hw_scr_45), g1, g3, hd.F hF, hd2.F hF⟩
    obtain ⟨r, r1, r2⟩ := ih (h + 1) fuel fuel2 (by omega) (by omega) (by omega) (by omega)
    by_cases hc : dd ≤ 100 / sp_to (σ.2.2.1 42) l st h f 0 + 100 / sp_to (σ.2.2.1 42) l st2 h g 0
    · have l1 := hw_divle 100 (sp_to (σ.2.2.1 42) l st h f 0)
      have l2 := hw_divle 100 (sp_to (σ.2.2.1 42) l st2 h g 0)
      have hc2 := nI_le hc (by omega)
      refine ⟨r, ?_, fun τ hd => ?_⟩
      · rw [m11_two_b85, if_neg ng]
        simp only [e11_doingOf, Option.bind_some, e1, e2, k1, k2, nI_add, if_pos hc2, nI_1]
        exact r1
      · obtain ⟨υ, ω, b0, b1, b2, Fτ, Fυ⟩ := rf τ hd
        obtain ⟨χ, k3, k4⟩ := r2 ω b0
        refine ⟨χ, ?_, k4⟩
        rw [m12_two_b77, if_neg ng]
        simp only [d1, d2, Option.bind_some, hw_V_41 Fτ, hw_V_41 Fυ, b1, b2, hw_b2s, q1, q2, nI_add, if_pos hc2, nI_1]
        exact k3
    · have hc2 := nI_ge (Nat.lt_of_not_le hc) (by omega)
      refine ⟨nI h, ?_, fun τ hd => ?_⟩
      · rw [m11_two_b85, if_neg ng]
        simp only [e11_doingOf, Option.bind_some, e1, e2, k1, k2, nI_add, if_neg hc2]
      · obtain ⟨υ, ω, b0, b1, b2, Fτ, Fυ⟩ := rf τ hd
        refine ⟨ω, ?_, b0⟩
        rw [m12_two_b77, if_neg ng]
        simp only [d1, d2, Option.bind_some, hw_V_41 Fτ, hw_V_41 Fυ, b1, b2, hw_b2s, q1, q2, nI_add, if_neg hc2]
theorem r_two_h {σ : hw_S} {x y z d fs : Int32} (hF : hw_F σ) (m1 : m12_isLaw 41 x σ = some 1) (m2 : m12_isStuff 41 y σ = some 1) (m3 : m12_isStuff 41 z σ = some 1) : m12_two 41 x y z d fs σ = if (1 : Int32) ≤ d ∧ d ≤ 99 then (if (0 : Int32) ≤ fs ∧ fs ≤ 2099 then (hw_dv fs (100 : Int32)).bind fun v53 => (if nI 1 ≤ v53 ∧ v53 ≤ nI 20 then (hw_rm fs (100 : Int32)).bind fun v64 => (if nI 1 ≤ v64 ∧ v64 ≤ nI 20 then m12_two_b77 hw_fu 41 x y z d fs 1 σ else some ((-2), σ)) else some ((-2), σ)) else some ((-2), σ)) else some ((-2), σ) := by
  unfold m12_two m12_two_b24 m12_two_b71
  rw [hw_V_41 hF, Option.bind_some, m1, Option.bind_some, hw_if10, Option.bind_some, m2, Option.bind_some, hw_if10, Option.bind_some, m3, Option.bind_some, hw_if10, e12_in, Option.bind_some, hw_itb, e12_in, Option.bind_some, hw_itb]
  have e : ∀ v, m12_isFlow v = some (hw_tb (nI 1 ≤ v ∧ v ≤ nI 20)) := e12_isFlow
  simp only [e, Option.bind_some, hw_itb]
theorem c_two_h {σ : hw_S} {x y z d fs : Int32} {a b c : Nat} (hF : hw_F σ) (m1 : m11_lawAt 0 x σ = some (some a)) (m2 : m11_stuffAt 0 y σ = some (some b)) (m3 : m11_stuffAt 0 z σ = some (some c)) : m11_two 0 x y z d fs σ = (hw_dv fs (100 : Int32)).bind fun v42 => (hw_rm fs (100 : Int32)).bind fun v49 => (if (1 : Int32) ≤ d ∧ d ≤ 99 then (if nI 1 ≤ v42 ∧ v42 ≤ nI 20 then (if nI 1 ≤ v49 ∧ v49 ≤ nI 20 then m11_two_b85 hw_fu 0 d (some a) (some b) (some c) v42 v49 1 σ else some (-2)) else some (-2)) else some (-2)) := by
  unfold m11_two m11_two_b36 m11_two_b79
  rw [hw_V_0 hF, Option.bind_some, m1, Option.bind_some, Option.bind_some, m2, Option.bind_some, Option.bind_some, m3, Option.bind_some, hw_ifs, hw_ifs, hw_ifs]
  simp only [e11_isFlow, e11_isWithin, Option.bind_some, hw_itb]
theorem j_two {σ : hw_S} (hJ : hw_Jv σ) (x y z d fs : Int32) : ∃ r τ, m11_two 0 x y z d fs σ = some r ∧ m12_two 41 x y z d fs σ = some (r, τ) ∧ hw_Jv τ := by
  obtain ⟨hF, p1, p2, ⟨c0, c1, c2, c3, c4, c5, hr⟩, him, htr⟩ := id hJ
  have anys : ∀ y, ∃ v, m11_stuffAt 0 y σ = some v := by
    intro y
    rcases x_stuff hF hr y with ⟨st, sa, -, -, -, es, -⟩ | ⟨-, es, -⟩
    · exact ⟨_, es⟩
    · exact ⟨_, es⟩
  obtain ⟨vy, ey⟩ := anys y
  obtain ⟨vz, ez⟩ := anys z
  rcases x_law hF hr x with ⟨l, a, hlc, hl8, rfl, el, ml, hlw⟩ | ⟨-, el, ml⟩
  · rcases x_stuff hF hr y with ⟨st, sa, hsc, hs5, rfl, es, ms, hsf⟩ | ⟨-, es, ms⟩
    · rcases x_stuff hF hr z with ⟨st2, sb, hsc2, hs52, rfl, es2, ms2, hsf2⟩ | ⟨-, es2, ms2⟩
      · rw [c_two_h hF el es es2, r_two_h hF (ml σ hw_d.rf) (ms σ hw_d.rf) (ms2 σ hw_d.rf)]
        by_cases h0 : fs < 0
        · obtain ⟨⟨yy, g1, g2⟩, zz, g3⟩ := hw_neg100 h0
          have nin : ¬ ((0 : Int32) ≤ fs ∧ fs ≤ 2099) := fun c => absurd h0 (Int32.not_lt.mpr c.1)
          rw [g1, Option.bind_some, g3, Option.bind_some, if_neg g2, if_neg nin]
          by_cases hq : (1 : Int32) ≤ d ∧ d ≤ 99
          · rw [if_pos hq, if_pos hq]
            exact ⟨_, σ, rfl, rfl, hJ⟩
          · rw [if_neg hq, if_neg hq]
            exact ⟨_, σ, rfl, rfl, hJ⟩
        · obtain ⟨n, hn, rfl⟩ := nI_of h0
          have d1 : hw_dv (nI n) (100 : Int32) = some (nI (n / 100)) := hw_dvN (b := 100) hn (by decide) (by decide)
          have d2 : hw_rm (nI n) (100 : Int32) = some (nI (n % 100)) := hw_rmN (b := 100) hn (by decide) (by decide)
          rw [d1, Option.bind_some, d2, Option.bind_some, Option.bind_some, Option.bind_some]
          by_cases hq : (1 : Int32) ≤ d ∧ d ≤ 99
          · rw [if_pos hq, if_pos hq]
            obtain ⟨dd, dd1, dd2, rfl⟩ := hw_win (lo := 1) (hi := 99) (by decide) (by decide) hq
            by_cases hf : nI 1 ≤ nI (n / 100) ∧ nI (n / 100) ≤ nI 20
            · have hf2 := (hw_winN (lo := 1) (hi := 20) (by omega) (by decide) (by decide)).mp hf
              have hin : nI 0 ≤ nI n ∧ nI n ≤ nI 2099 := (hw_winN (lo := 0) (hi := 2099) hn (by decide) (by decide)).mpr (by omega)
              rw [if_pos hf, if_pos (show (0 : Int32) ≤ nI n ∧ nI n ≤ 2099 from hin), if_pos hf]
              by_cases hg : nI 1 ≤ nI (n % 100) ∧ nI (n % 100) ≤ nI 20
              · have hg2 := (hw_winN (lo := 1) (hi := 20) (by omega) (by decide) (by decide)).mp hg
                rw [if_pos hg, if_pos hg]
                obtain ⟨r, r1, r2⟩ := x_two (f := n / 100) (g := n % 100) hF hl8 hlw hs5 hsf hs52 hsf2 dd2 hf2.2 hg2.2 60 1 hw_fu hw_fu (by decide) (by decide) (by decide) (by decide)
                obtain ⟨υ, k1, k2⟩ := r2 σ hw_d.rf
                rw [show 100 * (n / 100) + n % 100 = n by omega] at k1
                exact ⟨r, υ, r1, k1, k2.Jv hJ⟩
              · rw [if_neg hg, if_neg hg]
                exact ⟨_, σ, rfl, rfl, hJ⟩
            · rw [if_neg hf, if_neg hf, ite_self]
              exact ⟨_, σ, rfl, rfl, hJ⟩
          · rw [if_neg hq, if_neg hq]
            exact ⟨_, σ, rfl, rfl, hJ⟩
      · unfold m11_two m12_two m11_two_b36 m12_two_b24
        simp only [hw_V_0 hF, hw_V_41 hF, Option.bind_some, el, es, es2, ml σ hw_d.rf, ms σ hw_d.rf, ms2 σ hw_d.rf, hw_ifs, hw_ifn, hw_if10, if_true]
        exact ⟨_, σ, rfl, rfl, hJ⟩
    · unfold m11_two m12_two m11_two_b36 m12_two_b24
      simp only [hw_V_0 hF, hw_V_41 hF, Option.bind_some, el, es, ez, ml σ hw_d.rf, ms σ hw_d.rf, hw_ifs, hw_ifn, hw_if10, if_true]
      exact ⟨_, σ, rfl, rfl, hJ⟩
  · unfold m11_two m12_two m11_two_b36 m12_two_b24
    simp only [hw_V_0 hF, hw_V_41 hF, Option.bind_some, el, ey, ez, ml σ hw_d.rf, hw_ifn, if_true]
    exact ⟨_, σ, rfl, rfl, hJ⟩
/-- how far apart the laws are at a height, by class and by model -/
theorem x_apart {σ : hw_S} {c0 c1 c2 c3 c4 c5 st sa f h : Nat} (hF : hw_F σ) (hr : hw_rel σ 1 (σ.2.2.1 42) c0 c1 c2 c3 c4 c5) (hs5 : st < 5) (hsf : hw_sf σ (some sa) (σ.2.2.1 42 (130 + st)) (σ.2.2.1 42 (135 + st))) (hf : f ≤ 20) (h1 : 1 ≤ h) (hh : h ≤ 60) (hc1 : 0 < c1) :
    ∃ ap : Nat, ap ≤ 999 ∧ m11_lawsApart 0 (some sa) (nI (hw_dg h f 0)) σ = some (nI ap) ∧ ∀ (k29 : Nat → Int32 → Int32 → Int32 → Int32 → Int32 → hw_S → Option (Int32 × hw_S)) (l3 l4 : Int32) τ, hw_d hw_scr σ τ → ∃ υ, hw_d hw_scr σ υ ∧ (hw_b2 (m12_turnsOf 41 (0 : Int32) (nI st) (nI h) (nI f) (0 : Int32) τ) fun v52 σ52 => m12_next_b64 k29 hw_fu 41 (nI st) (nI f) l3 l4 (nI h) v52 v52 (1 : Int32) σ52) = if nI ap ≤ l4 then k29 41 (nI st) (nI f) l3 l4 (nI (h + 1)) υ else k29 41 (nI st) (nI f) (nI h) (nI ap) (nI (h + 1)) υ := by
  have s1 : σ.2.2.1 1 3 = nI c1 := hr.2.2.1.2.1
  have w1 : σ.2.2.1 42 1 = nI c1 := hr.2.1.2.1
  have b1 : c1 ≤ 8 := hr.1.2.1
  have hms := hsf.ms hs5
  have one : ∀ j, j < c1 → ∃ a t, 1 ≤ t ∧ t ≤ 999 ∧ m11_lawAt 0 (nI j) σ = some (some a) ∧ m11_turnsIn (some a) (some sa) (nI (hw_dg h f 0)) σ = some (nI t) ∧ ∀ τ, hw_d hw_scr σ τ → ∃ υ, m12_turnsOf 41 (nI j) (nI st) (nI h) (nI f) (0 : Int32) τ = some (nI t, υ) ∧ hw_d hw_scr σ υ := by
    intro j hj
    rcases x_law hF hr (nI j) with ⟨l, a, hlc, hl8, ej, el, ml, hlw⟩ | ⟨hno, -, -⟩
    · have ej : j = l := (nI_eq (by omega) (by omega)).mp ej
      subst ej
      have hml := hlw.ml hl8
      have t1 := sp_to_le hml st h f 0
      refine ⟨a, sp_to (σ.2.2.1 42) j st h f 0, t1.1, t1.2, el, c11_turnsIn_e (p := 0) hl8 hs5 hlw hsf hh hf (by decide), fun τ hd => ?_⟩
      have e42 : τ.2.2.1 42 = σ.2.2.1 42 := hd.I (by omega)
      obtain ⟨υ, g1, g2⟩ := r_turnsOf (σ := τ) (l := j) (st := st) (h := h) (f := f) (p := 0) (hd.F hF) (by rw [e42]; exact hml) (by rw [e42]; exact hms) h1 hh hf
      rw [e42] at g1
      exact ⟨υ, g1, hd.tr (g2.mono hw_scr_45)⟩
    · exact absurd rfl (hno j hj)
  have key : ∀ d j fuel fuel2 lo hi, j + d = c1 → d < fuel → d < fuel2 → lo ≤ hi → hi ≤ 999 → ∃ ap : Nat, ap ≤ 999 ∧ m11_lawsApart_b10 fuel 0 (some sa) (nI (hw_dg h f 0)) (nI lo) (nI hi) (nI j) σ = some (nI ap) ∧ ∀ (k29 : Nat → Int32 → Int32 → Int32 → Int32 → Int32 → hw_S → Option (Int32 × hw_S)) (l3 l4 : Int32) τ, hw_d hw_scr σ τ → ∃ υ, hw_d hw_scr σ υ ∧ m12_next_b64 k29 fuel2 41 (nI st) (nI f) l3 l4 (nI h) (nI lo) (nI hi) (nI j) τ = if nI ap ≤ l4 then k29 41 (nI st) (nI f) l3 l4 (nI (h + 1)) υ else k29 41 (nI st) (nI f) (nI h) (nI ap) (nI (h + 1)) υ := by
    intro d
    induction d with
    | zero =>
      intro j fuel fuel2 lo hi e hf1 hf2 hlo hhi
      obtain ⟨fuel, rfl⟩ : ∃ k, fuel = k + 1 := ⟨fuel - 1, by omega⟩
      obtain ⟨fuel2, rfl⟩ : ∃ k, fuel2 = k + 1 := ⟨fuel2 - 1, by omega⟩
      refine ⟨hi - lo, by omega, ?_, fun k29 l3 l4 τ hd => ⟨τ, hd, ?_⟩⟩
      · rw [m11_lawsApart_b10, hw_P_0_0 hF, Option.bind_some, hw_G_1 hF, Option.bind_some, s1, if_pos (nI_le (by omega) (by omega)), nI_sub hlo]
      · rw [m12_next_b64, hw_P_41_1 (hd.F hF), Option.bind_some, hw_Z_1 (hd.F hF), Option.bind_some, hd.I (a := 42) (by omega), w1, if_pos (nI_le (by omega) (by omega)), nI_sub hlo]
        unfold m12_next_b142 m12_next_b163
        rw [nI_sub hlo, nI_1]
        by_cases hc : nI (hi - lo) ≤ l4
        · simp only [if_pos hc]
        · simp only [if_neg hc]
    | succ d ih =>
      intro j fuel fuel2 lo hi e hf1 hf2 hlo hhi
      obtain ⟨fuel, rfl⟩ : ∃ k, fuel = k + 1 := ⟨fuel - 1, by omega⟩
      obtain ⟨fuel2, rfl⟩ : ∃ k, fuel2 = k + 1 := ⟨fuel2 - 1, by omega⟩
      have hj : j < c1 := by omega
      obtain ⟨a, t, t1, t2, el, et, rt⟩ := one j hj
      obtain ⟨ap, ap1, r1, r2⟩ := ih (j + 1) fuel fuel2 (min lo t) (max hi t) (by omega) (by omega) (by omega) (by omega) (by omega)
      refine ⟨ap, ap1, ?_, fun k29 l3 l4 τ hd => ?_⟩
      · rw [m11_lawsApart_b10]
        simp only [hw_P_0_0 hF, Option.bind_some, hw_G_1 hF, s1, hw_V_0 hF, el, hw_ifs, et]
        rw [if_neg (nI_ge hj (by omega))]
        unfold m11_lawsApart_b60
        rw [hw_minN (by omega) (by omega), hw_maxN (by omega) (by omega), nI_1]
        exact r1
      · obtain ⟨υ, g1, g2⟩ := rt τ hd
        obtain ⟨ω, k1, k2⟩ := r2 k29 l3 l4 υ g2
        refine ⟨ω, k1, ?_⟩
        rw [m12_next_b64, hw_P_41_1 (hd.F hF), Option.bind_some, hw_Z_1 (hd.F hF), Option.bind_some, hd.I (a := 42) (by omega), w1, if_neg (nI_ge hj (by omega)), hw_V_41 (hd.F hF), Option.bind_some, g1, hw_b2s]
        unfold m12_next_b102 m12_next_b118
        rw [nI_1, ← k2]
        by_cases hc : lo ≤ t
        · rw [if_pos (nI_le hc (by omega)), Nat.min_eq_left hc]
          by_cases hc2 : t ≤ hi
          · rw [if_pos (nI_le hc2 (by omega)), Nat.max_eq_left hc2]
          · rw [if_neg (nI_ge (by omega) (by omega)), Nat.max_eq_right (by omega)]
        · rw [if_neg (nI_ge (by omega) (by omega)), Nat.min_eq_right (by omega)]
          by_cases hc2 : t ≤ hi
          · rw [if_pos (nI_le hc2 (by omega)), Nat.max_eq_left hc2]
          · rw [if_neg (nI_ge (by omega) (by omega)), Nat.max_eq_right (by omega)]
  obtain ⟨a, t, t1, t2, el, et, rt⟩ := one 0 hc1
  obtain ⟨ap, ap1, r1, r2⟩ := key (c1 - 1) 1 3999 hw_fu t t (by omega) (by omega) (by show c1 - 1 < 4000; omega) (Nat.le_refl t) t2
  refine ⟨ap, ap1, ?_, fun k29 l3 l4 τ hd => ?_⟩
  · have h0 : m11_lawsApart_b10 (3999 + 1) 0 (some sa) (nI (hw_dg h f 0)) (nI 999) (nI 0) (nI 0) σ = some (nI ap) := by
      rw [m11_lawsApart_b10]
      simp only [hw_P_0_0 hF, Option.bind_some, hw_G_1 hF, s1, hw_V_0 hF, el, hw_ifs, et]
      rw [if_neg (nI_ge hc1 (by omega))]
      unfold m11_lawsApart_b60
      rw [hw_minN (by omega) (by omega), hw_maxN (by omega) (by omega), nI_1, Nat.min_eq_right t2, Nat.max_eq_right (Nat.zero_le t)]
      exact r1
    exact h0
  · obtain ⟨υ, g1, g2⟩ := rt τ hd
    obtain ⟨ω, k1, k2⟩ := r2 k29 l3 l4 υ g2
    refine ⟨ω, k1, ?_⟩
    have g1 : m12_turnsOf 41 (0 : Int32) (nI st) (nI h) (nI f) (0 : Int32) τ = some (nI t, υ) := g1
    rw [g1, hw_b2s]
    exact k2
theorem x_next {σ : hw_S} {c0 c1 c2 c3 c4 c5 st sa f : Nat} (hF : hw_F σ) (hr : hw_rel σ 1 (σ.2.2.1 42) c0 c1 c2 c3 c4 c5) (hs5 : st < 5) (hsf : hw_sf σ (some sa) (σ.2.2.1 42 (130 + st)) (σ.2.2.1 42 (135 + st))) (hf : f ≤ 20) (hc1 : 0 < c1) :
    ∀ d h fuel fuel2 be mo, h + d = 61 → 1 ≤ h → d < fuel → d < fuel2 → ∃ r, m11_next_b44 fuel 0 (nI f) (some sa) be (nI mo) (nI h) σ = some r ∧ ∀ τ, hw_d hw_scr σ τ → ∃ υ, m12_next_b29 fuel2 41 (nI st) (nI f) be (nI mo) (nI h) τ = some (r, υ) ∧ hw_d hw_scr σ υ := by
  have w1 : σ.2.2.1 42 1 = nI c1 := hr.2.1.2.1
  have b1 : c1 ≤ 8 := hr.1.2.1
  intro d
  induction d with
  | zero =>
    intro h fuel fuel2 be mo e h1 hfu hfu2
    obtain ⟨fuel, rfl⟩ : ∃ k, fuel = k + 1 := ⟨fuel - 1, by omega⟩
    obtain ⟨fuel2, rfl⟩ : ∃ k, fuel2 = k + 1 := ⟨fuel2 - 1, by omega⟩
    refine ⟨be, ?_, fun τ hd => ⟨τ, ?_, hd⟩⟩
    · rw [m11_next_b44, if_pos (hw_60l (h := h) (by omega) (by omega))]
    · rw [m12_next_b29, if_pos (hw_60l (h := h) (by omega) (by omega))]
      rfl
  | succ d ih =>
    intro h fuel fuel2 be mo e h1 hfu hfu2
    obtain ⟨fuel, rfl⟩ : ∃ k, fuel = k + 1 := ⟨fuel - 1, by omega⟩
    obtain ⟨fuel2, rfl⟩ : ∃ k, fuel2 = k + 1 := ⟨fuel2 - 1, by omega⟩
    have hh : h ≤ 60 := by omega
    have ng : ¬ (60 : Int32) < nI h := hw_60n hh
    obtain ⟨ap, ap1, a1, a2⟩ := x_apart (f := f) hF hr hs5 hsf hf h1 hh hc1
    by_cases hc : nI ap ≤ nI mo
    · obtain ⟨r, r1, r2⟩ := ih (h + 1) fuel fuel2 be mo (by omega) (by omega) (by omega) (by omega)
      refine ⟨r, ?_, fun τ hd => ?_⟩
      · rw [m11_next_b44, if_neg ng]
        unfold m11_next_b79
        simp only [e11_doingOf, Option.bind_some, hw_V_0 hF, a1, if_pos hc, nI_1]
        exact r1
      · obtain ⟨υ, g1, g2⟩ := a2 (m12_next_b29 fuel2) be (nI mo) τ hd
        obtain ⟨ω, k1, k2⟩ := r2 υ g1
        refine ⟨ω, ?_, k2⟩
        rw [m12_next_b29, if_neg ng, hw_P_41_1 (hd.F hF), Option.bind_some, hw_Z_1 (hd.F hF), Option.bind_some, hd.I (a := 42) (by omega), w1, if_neg (show ¬ nI c1 ≤ 0 from nI_ge (a := 0) hc1 (by omega)), hw_V_41 (hd.F hF), Option.bind_some, g2, if_pos hc]
        exact k1
    · obtain ⟨r, r1, r2⟩ := ih (h + 1) fuel fuel2 (nI h) ap (by omega) (by omega) (by omega) (by omega)
      refine ⟨r, ?_, fun τ hd => ?_⟩
      · rw [m11_next_b44, if_neg ng]
        unfold m11_next_b79
        simp only [e11_doingOf, Option.bind_some, hw_V_0 hF, a1, if_neg hc, nI_1]
        exact r1
      · obtain ⟨υ, g1, g2⟩ := a2 (m12_next_b29 fuel2) be (nI mo) τ hd
        obtain ⟨ω, k1, k2⟩ := r2 υ g1
        refine ⟨ω, ?_, k2⟩
        rw [m12_next_b29, if_neg ng, hw_P_41_1 (hd.F hF), Option.bind_some, hw_Z_1 (hd.F hF), Option.bind_some, hd.I (a := 42) (by omega), w1, if_neg (show ¬ nI c1 ≤ 0 from nI_ge (a := 0) hc1 (by omega)), hw_V_41 (hd.F hF), Option.bind_some, g2, if_neg hc]
        exact k1
theorem j_next {σ : hw_S} (hJ : hw_Jv σ) (x q : Int32) : ∃ r τ, m11_next 0 x q σ = some r ∧ m12_next 41 x q σ = some (r, τ) ∧ hw_Jv τ := by
  obtain ⟨hF, p1, p2, ⟨c0, c1, c2, c3, c4, c5, hr⟩, him, htr⟩ := id hJ
  have s1 : σ.2.2.1 1 3 = nI c1 := hr.2.2.1.2.1
  have w1 : σ.2.2.1 42 1 = nI c1 := hr.2.1.2.1
  have b1 : c1 ≤ 8 := hr.1.2.1
  unfold m11_next m12_next
  rcases x_stuff hF hr x with ⟨st, sa, hsc, hs5, rfl, es, ms, hsf⟩ | ⟨-, es, ms⟩
  · simp only [hw_V_0 hF, hw_V_41 hF, Option.bind_some, es, ms σ hw_d.rf, hw_ifs, hw_if10, hw_itb, e11_isFlow, e12_isFlow]
    by_cases hq : nI 1 ≤ q ∧ q ≤ nI 20
    · obtain ⟨f, f1, f2, rfl⟩ := hw_fl hq
      simp only [if_pos hq, hw_P_0_0 hF, hw_G_1 hF, Option.bind_some, s1]
      by_cases hc : c1 = 0
      · subst hc
        rw [if_pos (show nI 0 = 0 from rfl)]
        refine ⟨_, σ, rfl, ?_, hJ⟩
        show m12_next_b29 (3999 + 1) 41 (nI st) (nI f) (-5) (-1) 1 σ = _
        rw [m12_next_b29, if_neg (by decide), hw_P_41_1 hF, Option.bind_some, hw_Z_1 hF, Option.bind_some, w1, if_pos (show nI 0 ≤ 0 by decide)]
        rfl
      · have hc1 : 0 < c1 := by omega
        rw [if_neg (nI_ne0 hc1 (by omega))]
        obtain ⟨ap, ap1, a1, a2⟩ := x_apart (f := f) (h := 1) hF hr hs5 hsf f2 (by decide) (by decide) hc1
        obtain ⟨r, r1, r2⟩ := x_next hF hr hs5 hsf f2 hc1 59 2 3999 3999 (nI 1) ap (by decide) (by decide) (by decide) (by decide)
        obtain ⟨υ, g1, g2⟩ := a2 (m12_next_b29 3999) (-5) (-1) σ hw_d.rf
        obtain ⟨ω, k1, k2⟩ := r2 υ g1
        refine ⟨r, ω, ?_, ?_, k2.Jv hJ⟩
        · show m11_next_b44 (3999 + 1) 0 (nI f) (some sa) (nI 1) (nI 0) (nI 1) σ = _
          rw [m11_next_b44, if_neg (show ¬ (60 : Int32) < nI 1 by decide)]
          unfold m11_next_b79
          simp only [e11_doingOf, Option.bind_some, hw_V_0 hF, a1, nI_1]
          by_cases h0 : ap = 0
          · subst h0
            rw [if_pos (nI_le (Nat.le_refl 0) (by decide))]
            exact r1
          · rw [if_neg (nI_ge (by omega) (by omega))]
            exact r1
        · show m12_next_b29 (3999 + 1) 41 (nI st) (nI f) (-5) (-1) (nI 1) σ = _
          rw [m12_next_b29, if_neg (show ¬ (60 : Int32) < nI 1 by decide), hw_P_41_1 hF, Option.bind_some, hw_Z_1 hF, Option.bind_some, w1, if_neg (show ¬ nI c1 ≤ 0 from nI_ge (a := 0) hc1 (by omega)), hw_V_41 hF, Option.bind_some, g2]
          have hm : ¬ nI ap ≤ (-1 : Int32) := fun c => by
            have h3 := Int32.le_iff_toInt_le.mp c
            rw [nI_toInt (by omega), show (-1 : Int32).toInt = -1 by decide] at h3
            omega
          rw [if_neg hm]
          exact k1
    · simp only [if_neg hq]
      exact ⟨_, σ, rfl, rfl, hJ⟩
  · simp only [hw_V_0 hF, hw_V_41 hF, Option.bind_some, es, ms σ hw_d.rf, hw_ifn, hw_if00]
    exact ⟨_, σ, rfl, rfl, hJ⟩
