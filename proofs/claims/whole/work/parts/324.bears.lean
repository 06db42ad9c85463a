/-! the pure layer: what bears a hand that shakes -/
theorem hw_n1 {x : Int32} {hi : Nat} (hh : hi < 2 ^ 31) (h : (-1 : Int32) ≤ x ∧ x ≤ nI hi) : x = -1 ∨ ∃ n : Nat, n ≤ hi ∧ x = nI n := by
  by_cases h0 : x < 0
  · left
    have h1 := Int32.le_iff_toInt_le.mp h.1
    have h2 := Int32.lt_iff_toInt_lt.mp h0
    rw [show (-1 : Int32).toInt = -1 by decide] at h1
    rw [Int32.toInt_zero] at h2
    apply Int32.toInt_inj.mp
    rw [show (-1 : Int32).toInt = -1 by decide]
    omega
  · right
    obtain ⟨n, hn, rfl⟩ := nI_of h0
    exact ⟨n, (nI_leI hn hh).mp h.2, rfl⟩
theorem hw_nn1 {n : Nat} (h : n < 2 ^ 31) : ¬ nI n = (-1 : Int32) := fun c => by
  have h1 := nI_toInt h
  rw [c, show (-1 : Int32).toInt = -1 by decide] at h1
  omega
theorem hw_n1in {n hi : Nat} (h : n ≤ hi) (hh : hi < 2 ^ 31) : (-1 : Int32) ≤ nI n ∧ nI n ≤ nI hi := by
  refine ⟨Int32.le_iff_toInt_le.mpr ?_, nI_le h hh⟩
  rw [nI_toInt (by omega), show (-1 : Int32).toInt = -1 by decide]
  omega
theorem hw_dgh (h H f p : Nat) : nI (hw_dg H f p) + ((nI h - nI H) * (10000 : Int32)) = nI (hw_dg h f p) := by
  rw [show (10000 : Int32) = iI 10000 from rfl, iI_nI, iI_nI, iI_nI, iI_nI, iI_sub, iI_mul, iI_add]
  congr 1
  unfold hw_dg
  omega
theorem hw_tfb (b : Bool) : hw_tf (nI (hw_bn b)) = some () := by cases b <;> rfl
theorem c_borne {σ : hw_S} {w : Nat → Int32} {l a st sa H f p : Nat} (hl8 : l < 8) (hl : hw_lw σ (some a) l w) (hs5 : st < 5) (hsf : hw_sf σ (some sa) (w (130 + st)) (w (135 + st))) (h1 : 1 ≤ H) (h2 : H ≤ 60) (h4 : f ≤ 20) (h5 : p < 100) :
    ∃ g : Nat, g ≤ 20 ∧ m11_greatestBorne (some a) (some sa) (nI (hw_dg H f p)) σ = some (nI g) ∧ ∀ n, n ≤ 20 → (n ≤ g ↔ ∀ h, 1 ≤ h → h ≤ 60 → h ≤ H + n → H ≤ h + n → sp_fo w l st h f p = sp_fo w l st H f p) := by
  have hb : hw_dg H f p < 2 ^ 31 := by unfold hw_dg; omega
  have key : ∀ d h fuel g0, h + d = min 60 (H + 20) + 1 → d < fuel → max 1 (H - 20) ≤ h → g0 ≤ 20 → (∀ n, n ≤ 20 → (n ≤ g0 ↔ ∀ h', 1 ≤ h' → h' < h → h' ≤ H + n → H ≤ h' + n → sp_fo w l st h' f p = sp_fo w l st H f p)) → ∃ g : Nat, g ≤ 20 ∧ m11_greatestBorne_b38 fuel (some a) (some sa) (nI (hw_dg H f p)) (nI H) (nI (sp_fo w l st H f p)) (nI g0) (nI (min 60 (H + 20))) (nI h) σ = some (nI g) ∧ ∀ n, n ≤ 20 → (n ≤ g ↔ ∀ h, 1 ≤ h → h ≤ 60 → h ≤ H + n → H ≤ h + n → sp_fo w l st h f p = sp_fo w l st H f p) := by
    intro d
    induction d with
    | zero =>
      intro h fuel g e hfu hlo hg hi
      obtain ⟨fuel, rfl⟩ : ∃ k, fuel = k + 1 := ⟨fuel - 1, by omega⟩
      refine ⟨g, hg, ?_, fun n hn => ?_⟩
      · rw [m11_greatestBorne_b38, if_pos (nI_lt (by omega) (by omega))]
      · rw [hi n hn]
        exact ⟨fun c h' a1 a2 a3 a4 => c h' a1 (by omega) a3 a4, fun c h' a1 a2 a3 a4 => c h' a1 (by omega) a3 a4⟩
    | succ d ih =>
      intro h fuel g e hfu hlo hg hi
      obtain ⟨fuel, rfl⟩ : ∃ k, fuel = k + 1 := ⟨fuel - 1, by omega⟩
      have hh : h ≤ 60 := by omega
      rw [m11_greatestBorne_b38, if_neg (nI_nlt (by omega) (by omega)), hw_dgh, c11_formIn_e hl8 hs5 hl hsf hh h4 h5, Option.bind_some]
      unfold m11_greatestBorne_b81
      rw [nI_1]
      by_cases hc : sp_fo w l st h f p = sp_fo w l st H f p
      · rw [if_pos (congrArg nI hc)]
        refine ih (h + 1) fuel g (by omega) (by omega) (by omega) hg (fun n hn => ?_)
        rw [hi n hn]
        refine ⟨fun c h' a1 a2 a3 a4 => ?_, fun c h' a1 a2 a3 a4 => c h' a1 (by omega) a3 a4⟩
        by_cases hx : h' = h
        · rw [hx]; exact hc
        · exact c h' a1 (by omega) a3 a4
      · have hne : h ≠ H := fun c => hc (by rw [c])
        have fo1 : sp_fo w l st h f p ≤ 4 := sp_form_le _ _ _ _
        have fo2 : sp_fo w l st H f p ≤ 4 := sp_form_le _ _ _ _
        have ed : hw_min (nI g) (hw_abs (nI h - nI H) - (1 : Int32)) = nI (min g ((h - H) + (H - h) - 1)) := by
          rw [hw_absN (by omega) (by omega), show nI (h - H + (H - h)) - (1 : Int32) = nI (h - H + (H - h) - 1) from nI_sub (b := 1) (by omega), hw_minN (by omega) (by omega)]
        rw [if_neg (fun c => hc ((nI_eq (by omega) (by omega)).mp c)), ed]
        refine ih (h + 1) fuel _ (by omega) (by omega) (by omega) (by omega) (fun n hn => ?_)
        refine ⟨fun c h' a1 a2 a3 a4 => ?_, fun c => ?_⟩
        · by_cases hx : h' = h
          · subst hx
            omega
          · exact (hi n hn).mp (by omega) h' a1 (by omega) a3 a4
        · have c1 := (hi n hn).mpr (fun h' a1 a2 a3 a4 => c h' a1 (by omega) a3 a4)
          have c2 : ¬ (h ≤ H + n ∧ H ≤ h + n) := fun cc => hc (c h (by omega) (by omega) cc.1 cc.2)
          omega
  obtain ⟨g, g1, g2, g3⟩ := key (min 60 (H + 20) + 1 - max 1 (H - 20)) (max 1 (H - 20)) hw_fu 20 (by omega) (by show _ < 4000; omega) (Nat.le_refl _) (Nat.le_refl _) (fun n hn => ⟨fun _ h' a1 a2 a3 a4 => by omega, fun _ => hn⟩)
  refine ⟨g, g1, ?_, g3⟩
  unfold m11_greatestBorne
  have e1 : hw_min (60 : Int32) (nI H + (20 : Int32)) = nI (min 60 (H + 20)) := by
    rw [show nI H + (20 : Int32) = nI (H + 20) from nI_add H 20]
    exact hw_minN (a := 60) (by decide) (by omega)
  have e2 : hw_max (1 : Int32) (nI H - (20 : Int32)) = nI (max 1 (H - 20)) := by
    rw [show (20 : Int32) = iI 20 from rfl, iI_nI H, iI_sub, hw_mxI (by omega) (by omega)]
    congr 1
    omega
  rw [e11_heightOf hb, Option.bind_some, hw_dg_h h4 h5, c11_formIn_e hl8 hs5 hl hsf h2 h4 h5, Option.bind_some, e1, e2]
  exact g2
theorem r_bear {σ : hw_S} {l st H f p n : Nat} (hF : hw_F σ) (hml : hw_ml (σ.2.2.1 42) l) (hms : hw_ms (σ.2.2.1 42) st) (h1 : 1 ≤ H) (h2 : H ≤ 60) (h3 : 1 ≤ f) (h4 : f ≤ 20) (h5 : p < 100) (hn : n ≤ 20) : ∀ τ, hw_d hw_scr σ τ → ∃ (b : Bool) (υ : hw_S), m12_doesBear 41 (nI l) (nI st) (nI (hw_dg H f p)) (nI n) τ = some (nI (hw_bn b), υ) ∧ hw_d hw_scr σ υ ∧ (b = true ↔ ∀ h, 1 ≤ h → h ≤ 60 → h ≤ H + n → H ≤ h + n → sp_fo (σ.2.2.1 42) l st h f p = sp_fo (σ.2.2.1 42) l st H f p) := by
  have fom : ∀ τ, hw_d hw_scr σ τ → ∀ h, 1 ≤ h → h ≤ 60 → ∃ υ, m12_formOf 41 (nI l) (nI st) (nI h) (nI f) (nI p) τ = some (nI (sp_fo (σ.2.2.1 42) l st h f p), υ) ∧ hw_d hw_scr σ υ := by
    intro τ hd h a1 a2
    have e42 : τ.2.2.1 42 = σ.2.2.1 42 := hd.I (by omega)
    obtain ⟨υ, g1, g2⟩ := r_formOf (σ := τ) (l := l) (st := st) (h := h) (f := f) (p := p) (hd.F hF) (by rw [e42]; exact hml) (by rw [e42]; exact hms) a1 a2 h4 h5
    rw [e42] at g1
    exact ⟨υ, g1, hd.tr (g2.mono hw_scr_45)⟩
  have fo2 : sp_fo (σ.2.2.1 42) l st H f p ≤ 4 := sp_form_le _ _ _ _
  have key : ∀ (d : Nat) (z : Int) (fuel : Nat) (τ : hw_S) (b : Bool), z + d = H + n + 1 → (H : Int) - n ≤ z → d < fuel → hw_d hw_scr σ τ → (b = true ↔ ∀ h : Nat, 1 ≤ h → h ≤ 60 → (h : Int) < z → H ≤ h + n → sp_fo (σ.2.2.1 42) l st h f p = sp_fo (σ.2.2.1 42) l st H f p) → ∃ (b' : Bool) (υ : hw_S), m12_doesBear_b38 fuel 41 (nI l) (nI st) (nI (hw_dg H f p)) (nI n) (nI H) (nI (sp_fo (σ.2.2.1 42) l st H f p)) (nI (hw_bn b)) (iI z) τ = some (nI (hw_bn b'), υ) ∧ hw_d hw_scr σ υ ∧ (b' = true ↔ ∀ h, 1 ≤ h → h ≤ 60 → h ≤ H + n → H ≤ h + n → sp_fo (σ.2.2.1 42) l st h f p = sp_fo (σ.2.2.1 42) l st H f p) := by
    intro d
    induction d with
    | zero =>
      intro z fuel τ b e hz hf hd hb
      obtain ⟨fuel, rfl⟩ : ∃ k, fuel = k + 1 := ⟨fuel - 1, by omega⟩
      refine ⟨b, τ, ?_, hd, ?_⟩
      · rw [m12_doesBear_b38, if_pos (show nI H + nI n < iI z by rw [nI_add, iI_nI, iI_lt (by omega) (by omega) (by omega) (by omega)]; omega), hw_tfb, Option.bind_some]
      · rw [hb]
        exact ⟨fun c h' a1 a2 a3 a4 => c h' a1 a2 (by omega) a4, fun c h' a1 a2 a3 a4 => c h' a1 a2 (by omega) a4⟩
    | succ d ih =>
      intro z fuel τ b e hz hf hd hb
      obtain ⟨fuel, rfl⟩ : ∃ k, fuel = k + 1 := ⟨fuel - 1, by omega⟩
      have ez : iI z + 1 = iI (z + 1) := iI_add z 1
      rw [m12_doesBear_b38, if_neg (show ¬ nI H + nI n < iI z by rw [nI_add, iI_nI, iI_lt (by omega) (by omega) (by omega) (by omega)]; omega)]
      unfold m12_doesBear_b88 m12_doesBear_b92 m12_doesBear_b93
      rw [ez]
      cases b with
      | false =>
        rw [if_pos (show nI (hw_bn false) = 0 from rfl)]
        refine ih (z + 1) fuel τ false (by omega) (by omega) (by omega) hd ⟨fun c => (by cases c), fun c => ?_⟩
        exact hb.mpr (fun h' a1 a2 a3 a4 => c h' a1 a2 (by omega) a4)
      | true =>
        rw [if_neg (show ¬ nI (hw_bn true) = 0 by decide), e12_in, Option.bind_some, hw_itb]
        have hbt := hb.mp rfl
        by_cases hin : (1 : Int32) ≤ iI z ∧ iI z ≤ 60
        · rw [if_pos hin]
          have hin2 : 1 ≤ z ∧ z ≤ 60 := by
            rw [show (1 : Int32) = iI 1 from rfl, show (60 : Int32) = iI 60 from rfl, iI_le (by omega) (by omega) (by omega) (by omega), iI_le (by omega) (by omega) (by omega) (by omega)] at hin
            exact hin
          obtain ⟨h, rfl⟩ : ∃ h : Nat, z = (h : Int) := ⟨z.toNat, by omega⟩
          obtain ⟨υ, g1, g2⟩ := fom τ hd h (by omega) (by omega)
          have fo1 : sp_fo (σ.2.2.1 42) l st h f p ≤ 4 := sp_form_le _ _ _ _
          rw [← iI_nI h, hw_dg2 h2 h4 h5, Option.bind_some, hw_dg3 h2 h4 h5, Option.bind_some, hw_dg4 h2 h4 h5, Option.bind_some, hw_V_41 (hd.F hF), Option.bind_some, g1, hw_b2s]
          by_cases hc : sp_fo (σ.2.2.1 42) l st h f p = sp_fo (σ.2.2.1 42) l st H f p
          · rw [if_pos (congrArg nI hc)]
            refine ih ((h : Int) + 1) fuel υ true (by omega) (by omega) (by omega) g2 ⟨fun _ h' a1 a2 a3 a4 => ?_, fun _ => rfl⟩
            by_cases hx : h' = h
            · rw [hx]; exact hc
            · exact hbt h' a1 a2 (by omega) a4
          · rw [if_neg (fun c => hc ((nI_eq (by omega) (by omega)).mp c))]
            refine ih ((h : Int) + 1) fuel υ false (by omega) (by omega) (by omega) g2 ⟨fun c => (by cases c), fun c => ?_⟩
            exact absurd (c h (by omega) (by omega) (by omega) (by omega)) hc
        · rw [if_neg hin]
          have hin2 : ¬ (1 ≤ z ∧ z ≤ 60) := by
            rw [show (1 : Int32) = iI 1 from rfl, show (60 : Int32) = iI 60 from rfl, iI_le (by omega) (by omega) (by omega) (by omega), iI_le (by omega) (by omega) (by omega) (by omega)] at hin
            exact hin
          refine ih (z + 1) fuel τ true (by omega) (by omega) (by omega) hd ⟨fun _ h' a1 a2 a3 a4 => hbt h' a1 a2 (by omega) a4, fun _ => rfl⟩
  intro τ hd
  obtain ⟨υ, g1, g2⟩ := fom τ hd H h1 h2
  obtain ⟨b, ω, k1, k2, k3⟩ := key (2 * n + 1) ((H : Int) - n) hw_fu υ true (by omega) (by omega) (by show _ < 4000; omega) g2 ⟨fun _ h' a1 a2 a3 a4 => by omega, fun _ => rfl⟩
  refine ⟨b, ω, ?_, k2, k3⟩
  unfold m12_doesBear
  rw [hw_dg1 h2 h4 h5, Option.bind_some, hw_dg2 h2 h4 h5, Option.bind_some, hw_dg3 h2 h4 h5, Option.bind_some, hw_dg4 h2 h4 h5, Option.bind_some, hw_V_41 (hd.F hF), Option.bind_some, g1, hw_b2s, show nI H - nI n = iI ((H : Int) - n) by rw [iI_nI, iI_nI, iI_sub]]
  exact k1
theorem j_bears {σ : hw_S} (hJ : hw_Jv σ) (x y d q : Int32) : ∃ r τ, m11_bears 0 x y d q σ = some r ∧ m12_bears 41 x y d q σ = some (r, τ) ∧ hw_Jv τ := by
  obtain ⟨hF, p1, p2, ⟨c0, c1, c2, c3, c4, c5, hr⟩, him, htr⟩ := id hJ
  unfold m11_bears m11_bears_b24 m11_bears_b44 m11_bears_b78 m12_bears m12_bears_b16 m12_bears_b36 m12_bears_b62
  rcases x_law hF hr x with ⟨l, a, hlc, hl8, rfl, el, ml, hlw⟩ | ⟨-, el, ml⟩
  · rcases x_stuff hF hr y with ⟨st, sa, hsc, hs5, rfl, es, ms, hsf⟩ | ⟨-, es, ms⟩
    · simp only [hw_V_0 hF, hw_V_41 hF, Option.bind_some, el, es, ml σ hw_d.rf, ms σ hw_d.rf, hw_ifs, hw_if10, hw_itb, e11_isWithin, e12_in]
      by_cases hd : hw_dok d
      · rw [e11_isDoing_y hd, e12_isDoing_y hd, Option.bind_some, Option.bind_some, hw_if10, hw_if10]
        by_cases hq : (-1 : Int32) ≤ q ∧ q ≤ 20
        · rw [if_pos hq, if_pos hq]
          obtain ⟨H, f, p, h1, h2, h3, h4, h5, rfl⟩ := hd
          have hml := hlw.ml hl8
          have hms := hsf.ms hs5
          obtain ⟨g, g1, g2, g3⟩ := c_borne (H := H) (f := f) (p := p) hl8 hlw hs5 hsf h1 h2 h4 h5
          rw [g2, Option.bind_some]
          rcases hw_n1 (hi := 20) (by decide) hq with rfl | ⟨n, hn, rfl⟩
          · rw [if_pos rfl, if_pos rfl]
            have key : ∀ e n fuel τ, n = g + e → n ≤ 20 → e < fuel → hw_d hw_scr σ τ → ∃ υ, m12_bears_b67 fuel 41 (nI l) (nI st) (nI (hw_dg H f p)) (nI n) τ = some (nI g, υ) ∧ hw_d hw_scr σ υ := by
              intro e
              induction e with
              | zero =>
                intro n fuel τ en hn hfu hd
                obtain ⟨fuel, rfl⟩ : ∃ k, fuel = k + 1 := ⟨fuel - 1, by omega⟩
                have en : n = g := en
                subst en
                obtain ⟨b, υ, b1, b2, b3⟩ := r_bear hF hml hms h1 h2 h3 h4 h5 hn τ hd
                have hb : b = true := b3.mpr ((g3 n hn).mp (Nat.le_refl n))
                subst hb
                refine ⟨υ, ?_, b2⟩
                rw [m12_bears_b67, hw_V_41 (hd.F hF), Option.bind_some, b1, hw_b2s, if_neg (show ¬ nI (hw_bn true) = 0 by decide)]
              | succ e ih =>
                intro n fuel τ en hn hfu hd
                obtain ⟨fuel, rfl⟩ : ∃ k, fuel = k + 1 := ⟨fuel - 1, by omega⟩
                obtain ⟨b, υ, b1, b2, b3⟩ := r_bear hF hml hms h1 h2 h3 h4 h5 hn τ hd
                have hb : b = false := by
                  cases b with
                  | false => rfl
                  | true =>
                    have := (g3 n hn).mpr (b3.mp rfl)
                    omega
                subst hb
                obtain ⟨n, rfl⟩ : ∃ k, n = k + 1 := ⟨n - 1, by omega⟩
                obtain ⟨ω, k1, k2⟩ := ih n fuel υ (by omega) (by omega) (by omega) b2
                refine ⟨ω, ?_, k2⟩
                rw [m12_bears_b67, hw_V_41 (hd.F hF), Option.bind_some, b1, hw_b2s, if_pos (show nI (hw_bn false) = 0 from rfl), pk_m1]
                exact k1
            obtain ⟨υ, k1, k2⟩ := key (20 - g) 20 hw_fu σ (by omega) (by omega) (by show _ < 4000; omega) hw_d.rf
            exact ⟨nI g, υ, rfl, k1, k2.Jv hJ⟩
          · obtain ⟨b, υ, b1, b2, b3⟩ := r_bear hF hml hms h1 h2 h3 h4 h5 hn σ hw_d.rf
            rw [if_neg (hw_nn1 (by omega)), if_neg (hw_nn1 (by omega)), b1, hw_b2s]
            cases b with
            | false =>
              have hc : ¬ n ≤ g := fun c => by have := b3.mpr ((g3 n hn).mp c); cases this
              rw [if_pos (nI_lt (by omega) (by omega)), if_pos (show nI (hw_bn false) = 0 from rfl)]
              exact ⟨_, υ, rfl, rfl, b2.Jv hJ⟩
            | true =>
              have hc : n ≤ g := (g3 n hn).mpr (b3.mp rfl)
              rw [if_neg (nI_nlt hc (by omega)), if_neg (show ¬ nI (hw_bn true) = 0 by decide)]
              exact ⟨_, υ, rfl, rfl, b2.Jv hJ⟩
        · rw [if_neg hq, if_neg hq]
          exact ⟨_, σ, rfl, rfl, hJ⟩
      · rw [e11_isDoing_n hd, e12_isDoing_n hd, Option.bind_some, Option.bind_some, hw_if00, hw_if00]
        exact ⟨_, σ, rfl, rfl, hJ⟩
    · simp only [hw_V_0 hF, hw_V_41 hF, Option.bind_some, el, es, ml σ hw_d.rf, ms σ hw_d.rf, hw_ifs, hw_ifn, hw_if10, hw_if00]
      exact ⟨_, σ, rfl, rfl, hJ⟩
  · obtain ⟨es, hes⟩ : ∃ v, m11_stuffAt 0 y σ = some v := by
      rcases x_stuff hF hr y with ⟨st, sa, -, -, -, es, -⟩ | ⟨-, es, -⟩
      · exact ⟨_, es⟩
      · exact ⟨_, es⟩
    simp only [hw_V_0 hF, hw_V_41 hF, Option.bind_some, el, hes, ml σ hw_d.rf, hw_ifn, hw_if00]
    exact ⟨_, σ, rfl, rfl, hJ⟩
