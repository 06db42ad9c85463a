/-! the pure layer: found -/
def hw_a31 (a _k : Nat) : Prop := a = 31
theorem c_b89 {σ : hw_S} {w : Nat → Int32} {a l st h f : Nat} {n i : Int32} (hF : hw_F σ) (hl8 : l < 8) (hl : hw_lw σ (some a) l w) (h30 : ∀ p, p < 100 → σ.2.2.1 30 p = nI (sp_to w l st h f p)) : ∃ τ, hw_d hw_a31 σ τ ∧ (∀ q, q < 100 → τ.2.2.1 31 q = nI (sp_fo w l st h f q)) ∧ ∃ fuel, m11_found_b89 hw_fu 0 n i (some a) 0 σ = m11_found_b89 (fuel + 1) 0 n i (some a) (nI 100) τ := by
  have hml := hl.ml hl8
  have key : ∀ d p fuel ρ, p + d = 100 → d < fuel → hw_d hw_a31 σ ρ → (∀ q, q < p → ρ.2.2.1 31 q = nI (sp_fo w l st h f q)) → ∃ τ, hw_d hw_a31 σ τ ∧ (∀ q, q < 100 → τ.2.2.1 31 q = nI (sp_fo w l st h f q)) ∧ ∃ fuel', m11_found_b89 fuel 0 n i (some a) (nI p) ρ = m11_found_b89 (fuel' + 1) 0 n i (some a) (nI 100) τ := by
    intro d
    induction d with
    | zero =>
      intro p fuel ρ e hf hd h31
      obtain ⟨fuel, rfl⟩ : ∃ k, fuel = k + 1 := ⟨fuel - 1, by omega⟩
      have e : p = 100 := e
      subst e
      exact ⟨ρ, hd, h31, fuel, rfl⟩
    | succ d ih =>
      intro p fuel ρ e hf hd h31
      obtain ⟨fuel, rfl⟩ : ∃ k, fuel = k + 1 := ⟨fuel - 1, by omega⟩
      have hp : p < 100 := by omega
      have hds : hw_d hw_scr σ ρ := hd.mono (fun a k h => by unfold hw_a31 at h; unfold hw_scr; omega)
      have Fρ := hds.F hF
      have t1 := sp_to_le hml st h f p
      have e30 : ρ.2.2.1 30 p = nI (sp_to w l st h f p) := by rw [hd.2.2.2 30 p (by unfold hw_a31; decide)]; exact h30 p hp
      obtain ⟨τ, g1, g2, fuel', g3⟩ := ih (p + 1) fuel (hw_wI 31 p (nI (sp_fo w l st h f p)) ρ) (by omega) (by omega) (hd.tr (hw_d.wI rfl)) (fun q hq => by
        by_cases hqp : q = p
        · rw [hqp, hw_wI_y]
        · rw [hw_wI_n (by omega)]; exact h31 q (by omega))
      refine ⟨τ, g1, g2, fuel', ?_⟩
      rw [← g3, m11_found_b89, if_neg (hw_100n hp), hw_P_0_11 Fρ, Option.bind_some, hw_P_0_10 Fρ, Option.bind_some, hw_A_30 Fρ hp, Option.bind_some, e30, hw_rv_at ((hds.lw hl).q hl8).1, Option.bind_some, c3_formAt_e (hds.lw hl) hl8 hp t1.2, Option.bind_some, hw_B_31 Fρ hp, Option.bind_some, nI_1]
      rfl
  obtain ⟨τ, g1, g2, fuel', g3⟩ := key 100 0 hw_fu σ (by decide) (by decide) hw_d.rf (fun q hq => absurd hq (Nat.not_lt_zero q))
  exact ⟨τ, g1, g2, fuel', g3⟩
theorem r_b59 {σ : hw_S} {l st h f p0 : Nat} {n i : Int32} (hF : hw_F σ) (hml : hw_ml (σ.2.2.1 42) l) (hms : hw_ms (σ.2.2.1 42) st) (h1 : 1 ≤ h) (h2 : h ≤ 60) (h4 : f ≤ 20) (h5 : p0 < 100) : ∀ τ, hw_d hw_scr σ τ → ∃ υ, hw_d hw_scr σ υ ∧ (∀ q, q < 100 → υ.2.2.1 51 q = nI (sp_fo (σ.2.2.1 42) l st h f q)) ∧ m12_found_b59 hw_fu 41 (nI l) (nI st) (nI (hw_dg h f p0)) n i 0 τ = (m12_looksAhead 41 n υ).bind fun σ102 => m12_found_b111 hw_fu 41 n i (-1) 0 σ102 := by
  have key : ∀ d p fuel τ, p + d = 100 → d < fuel → hw_d hw_scr σ τ → (∀ q, q < p → τ.2.2.1 51 q = nI (sp_fo (σ.2.2.1 42) l st h f q)) → ∃ υ, hw_d hw_scr σ υ ∧ (∀ q, q < 100 → υ.2.2.1 51 q = nI (sp_fo (σ.2.2.1 42) l st h f q)) ∧ m12_found_b59 fuel 41 (nI l) (nI st) (nI (hw_dg h f p0)) n i (nI p) τ = (m12_looksAhead 41 n υ).bind fun σ102 => m12_found_b111 hw_fu 41 n i (-1) 0 σ102 := by
    intro d
    induction d with
    | zero =>
      intro p fuel τ e hf hd h51
      obtain ⟨fuel, rfl⟩ : ∃ k, fuel = k + 1 := ⟨fuel - 1, by omega⟩
      refine ⟨τ, hd, fun q hq => h51 q (by omega), ?_⟩
      rw [m12_found_b59, if_pos (hw_100l (by omega) (by omega)), hw_V_41 (hd.F hF), Option.bind_some]
    | succ d ih =>
      intro p fuel τ e hf hd h51
      obtain ⟨fuel, rfl⟩ : ∃ k, fuel = k + 1 := ⟨fuel - 1, by omega⟩
      have hp : p < 100 := by omega
      have Fτ := hd.F hF
      have e42 : τ.2.2.1 42 = σ.2.2.1 42 := hd.I (by omega)
      obtain ⟨υ, g1, g2⟩ := r_formOf (σ := τ) (l := l) (st := st) (h := h) (f := f) (p := p) Fτ (by rw [e42]; exact hml) (by rw [e42]; exact hms) h1 h2 h4 hp
      rw [e42] at g1
      have hd2 := hd.tr (g2.mono hw_scr_45)
      obtain ⟨ω, k1, k2, k3⟩ := ih (p + 1) fuel (hw_wI 51 p (nI (sp_fo (σ.2.2.1 42) l st h f p)) υ) (by omega) (by omega) (hd2.tr (hw_d.wI (by unfold hw_scr; omega))) (fun q hq => by
        by_cases hqp : q = p
        · rw [hqp, hw_wI_y]
        · rw [hw_wI_n (by omega), g2.2.2.2 51 q (by unfold hw_a4445; omega)]; exact h51 q (by omega))
      refine ⟨ω, k1, k2, ?_⟩
      rw [m12_found_b59, if_neg (hw_100n hp), hw_P_41_18 Fτ, Option.bind_some, hw_dg1 h2 h4 h5, Option.bind_some, hw_dg2 h2 h4 h5, Option.bind_some, hw_dg3 h2 h4 h5, Option.bind_some, hw_V_41 Fτ, Option.bind_some, g1, hw_b2s, hw_B_51 (hd2.F hF) hp, Option.bind_some, nI_1]
      exact k3
  intro τ hd
  exact key 100 0 hw_fu τ (by decide) (by decide) hd (fun q hq => absurd hq (Nat.not_lt_zero q))
theorem hw_n1R {x : Int32} {R : Nat} (hR : R ≤ 8) (h : (-1 : Int32) ≤ x ∧ x ≤ nI R - 1) : x = -1 ∨ ∃ j : Nat, j < R ∧ x = nI j := by
  by_cases h0 : x < 0
  · left
    have h1 := Int32.le_iff_toInt_le.mp h.1
    have h2 := Int32.lt_iff_toInt_lt.mp h0
    rw [show (-1 : Int32).toInt = -1 by decide] at h1
    rw [Int32.toInt_zero] at h2
    apply Int32.toInt_inj.mp
    rw [show (-1 : Int32).toInt = -1 by decide]
    omega
  · right
    obtain ⟨n, hn, rfl⟩ := nI_of h0
    have h2 := h.2
    rw [show (1 : Int32) = iI 1 from rfl, iI_nI, iI_nI, iI_sub, iI_le (by omega) (by omega) (by omega) (by omega)] at h2
    exact ⟨n, by omega, rfl⟩
theorem j_found {σ : hw_S} (hJ : hw_Jv σ) (x y d n i : Int32) : ∃ r σ1 τ, m11_found 0 x y d n i σ = some (r, σ1) ∧ m12_found 41 x y d n i σ1 = some (r, τ) ∧ hw_Jv τ ∧ hw_F σ1 := by
  obtain ⟨hF, p1, p2, ⟨c0, c1, c2, c3, c4, c5, hr⟩, him, htr⟩ := id hJ
  have s4 : σ.2.2.1 1 9 = nI c4 := hr.2.2.1.2.2.2.2.1
  have w4 : σ.2.2.1 42 4 = nI c4 := hr.2.1.2.2.2.2.1
  have b4 : c4 ≤ 8 := hr.1.2.2.2.2.1
  have hrw : ∀ i, i < c4 → σ.2.2.1 6 i = σ.2.2.1 42 (1352 + i) ∧ ∃ q : Nat, q ≤ 4 ∧ σ.2.2.1 42 (1352 + i) = nI q := hr.2.2.2.2.2.2.2.1
  have ein1 : ∀ x : Int32, m11_isWithin x (0 : Int32) (99 : Int32) = some (hw_tb (nI 0 ≤ x ∧ x ≤ nI 99)) := fun x => e11_isWithin x 0 99
  have ein2 : ∀ x : Int32, m12_in x (0 : Int32) (99 : Int32) = some (hw_tb (nI 0 ≤ x ∧ x ≤ nI 99)) := fun x => e12_in x 0 99
  unfold m11_found m11_found_b42 m11_found_b62
  rcases x_law hF hr x with ⟨l, a, hlc, hl8, rfl, el, ml, hlw⟩ | ⟨-, el, ml⟩
  · rcases x_stuff hF hr y with ⟨st, sa, hsc, hs5, rfl, es, ms, hsf⟩ | ⟨-, es, ms⟩
    · have ref : ∀ τ, hw_d hw_scr σ τ → m12_found 41 (nI l) (nI st) d n i τ = if (-1 : Int32) ≤ i ∧ i ≤ nI c4 - 1 then (m12_isDoing d).bind fun v36 => (if v36 = 0 then some (-2, τ) else if nI 0 ≤ n ∧ n ≤ nI 99 then m12_found_b59 hw_fu 41 (nI l) (nI st) d n i 0 τ else some (-2, τ)) else some (-1, τ) := by
        intro τ hd
        have Fτ := hd.F hF
        unfold m12_found m12_found_b33 m12_found_b53
        rw [hw_V_41 Fτ, Option.bind_some, ml τ hd, Option.bind_some, hw_if10, Option.bind_some, ms τ hd, Option.bind_some, hw_if10, hw_P_41_1 Fτ, Option.bind_some, hw_Z_4 Fτ, Option.bind_some, hd.I (a := 42) (by omega), w4, e12_in, Option.bind_some, hw_itb, ein2]
        simp only [Option.bind_some, hw_itb]
      rw [hw_V_0 hF, Option.bind_some, el, Option.bind_some, Option.bind_some, es, Option.bind_some, hw_ifs, hw_ifs, hw_P_0_0 hF, Option.bind_some, hw_G_1 hF, Option.bind_some, s4, e11_isWithin, Option.bind_some, hw_itb]
      by_cases hi : (-1 : Int32) ≤ i ∧ i ≤ nI c4 - 1
      · rw [if_pos hi]
        by_cases hd : hw_dok d
        · rw [e11_isDoing_y hd, Option.bind_some, hw_if10, ein1, Option.bind_some, hw_itb]
          by_cases hnn : nI 0 ≤ n ∧ n ≤ nI 99
          · obtain ⟨nn, nn1, nn2, rfl⟩ := hw_win (lo := 0) (hi := 99) (by decide) (by decide) hnn
            obtain ⟨h, f, p, h1, h2, h3, h4, h5, rfl⟩ := id hd
            have hml := hlw.ml hl8
            have hms := hsf.ms hs5
            have hfo : ∀ q, sp_fo (σ.2.2.1 42) l st h f q ≤ 4 := fun q => sp_form_le _ _ _ _
            have hrw4 : ∀ k, min 4 (σ.2.2.1 42 (1352 + k)).toNatClampNeg ≤ 4 := fun k => Nat.min_le_left _ _
            have hrwe : ∀ k, k < c4 → σ.2.2.1 42 (1352 + k) = nI (min 4 (σ.2.2.1 42 (1352 + k)).toNatClampNeg) := fun k hk => by
              obtain ⟨-, q, q1, q2⟩ := hrw k hk
              rw [q2, nI_clamp (by omega), Nat.min_eq_right q1]
            rw [if_pos hnn, Option.bind_some, hw_G_1 hF, Option.bind_some, s4]
            by_cases hc0 : c4 = 0
            · subst hc0
              rw [if_pos (show nI 0 = 0 from rfl)]
              obtain ⟨υ, u1, u2, u3⟩ := r_b59 (n := nI nn) (i := i) (p0 := p) hF hml hms h1 h2 h4 h5 σ hw_d.rf
              have w4υ : υ.2.2.1 42 4 = nI 0 := by rw [u1.I (a := 42) (by omega)]; exact w4
              obtain ⟨φ, f1, f2, f3, -⟩ := r_lahd (fo := sp_fo (σ.2.2.1 42) l st h f) (rw := fun k => min 4 (σ.2.2.1 42 (1352 + k)).toNatClampNeg) (R := 0) nn2 (by decide) hfo hrw4 (u1.F hF) w4υ u2 (fun k hk => absurd hk (Nat.not_lt_zero k))
              have dφ : hw_d hw_scr σ φ := u1.tr (f2.mono (fun a k h => by unfold hw_a52 at h; unfold hw_scr; omega))
              have g := r_mn (G := fun _ => 0) (fun _ => by decide) (n := nI nn) (i := i) (dφ.F hF) (fun q hq => by have := f3 q hq; rw [show 100 * 0 + q = q by omega] at this; rw [this]; rfl)
              have m0 : mn (fun _ => 0) 100 = 0 := Nat.le_zero.mp (mn_lb (fun _ => 0) 100 0 (by decide))
              rw [m0, if_pos (by decide)] at g
              have i1 : i = -1 := by
                rcases hw_n1R (by decide) hi with e | ⟨j, hj, -⟩
                · exact e
                · exact absurd hj (Nat.not_lt_zero j)
              have w4φ : φ.2.2.1 42 4 = nI 0 := by rw [dφ.I (a := 42) (by omega)]; exact w4
              refine ⟨_, σ, φ, rfl, ?_, dφ.Jv hJ, hF⟩
              rw [ref σ hw_d.rf, if_pos hi, e12_isDoing_y hd, Option.bind_some, hw_if10, if_pos hnn, u3, f1, Option.bind_some, g]
              show m12_found_b177 (3999 + 1) 41 (nI nn) i (nI 0) (nI 0) (nI 0) φ = _
              rw [m12_found_b177, hw_P_41_1 (dφ.F hF), Option.bind_some, hw_Z_4 (dφ.F hF), Option.bind_some, w4φ, if_pos (show nI 0 ≤ nI 0 by decide), if_pos i1]
              rfl
            · rw [if_neg (nI_ne0 (by omega) (by omega))]
              obtain ⟨σ1, s1, s2, s3⟩ := c_paces (p0 := p) hF hl8 hlw hs5 hsf h2 h4 h5
              have F1 := s2.F hF
              obtain ⟨σ2, t1, t2, fuel, t3⟩ := c_b89 (n := nI nn) (i := i) (st := st) F1 hl8 (s2.lw hlw) s3
              have d2 : hw_d hw_scr σ σ2 := s2.tr (t1.mono (fun a k h => by unfold hw_a31 at h; unfold hw_scr; omega))
              have F2 := d2.F hF
              have K2 : ∀ a, a ≤ 18 → σ2.2.2.1 a = σ.2.2.1 a := fun a ha => d2.I (by omega)
              obtain ⟨σ3, v1, v2, v3⟩ := c_fill (fo := sp_fo (σ.2.2.1 42) l st h f) (rw := fun k => min 4 (σ.2.2.1 42 (1352 + k)).toNatClampNeg) (R := c4) nn2 b4 hfo hrw4 F2 t2 (fun k hk => by rw [K2 6 (by decide), (hrw k hk).1]; exact hrwe k hk) (by rw [K2 1 (by decide)]; exact s4)
              have d3 : hw_d hw_scr σ σ3 := d2.tr (v2.mono hw_arw_s)
              have F3 := d3.F hF
              have ch := FC_ch (sp_fo (σ.2.2.1 42) l st h f) (fun k => min 4 (σ.2.2.1 42 (1352 + k)).toNatClampNeg) nn c4
              obtain ⟨υ, u1, u2, u3⟩ := r_b59 (n := nI nn) (i := i) (p0 := p) hF hml hms h1 h2 h4 h5 σ3 d3
              obtain ⟨φ, f1, f2, f3, f4⟩ := r_lahd (fo := sp_fo (σ.2.2.1 42) l st h f) (rw := fun k => min 4 (σ.2.2.1 42 (1352 + k)).toNatClampNeg) (R := c4) nn2 b4 hfo hrw4 (u1.F hF) (by rw [u1.I (a := 42) (by omega)]; exact w4) u2 (fun k hk => by rw [u1.I (a := 42) (by omega)]; exact hrwe k hk)
              have dφ : hw_d hw_scr σ φ := u1.tr (f2.mono (fun a k h => by unfold hw_a52 at h; unfold hw_scr; omega))
              generalize FC (sp_fo (σ.2.2.1 42) l st h f) (fun k => min 4 (σ.2.2.1 42 (1352 + k)).toNatClampNeg) nn c4 = FF at v3 ch f4
              have l0 : ∀ q, FF 0 q ≤ 1000000 := fun q => ch.1 0 q (by omega)
              obtain ⟨b, hb, cb⟩ := c_cfp (F := FF) F3 (fun q hq => v3 0 (by omega) q hq) l0
              have lb := l0 b
              have g := r_mn (G := FF 0) l0 (n := nI nn) (i := i) (dφ.F hF) (fun q hq => by have := f4 0 (by omega) q hq; rw [show 100 * 0 + q = q by omega] at this; exact this)
              rw [mn_fp hb l0] at g
              have vb : σ3.2.2.1 33 b = nI (FF 0 b) := v3 0 (by omega) b hb.1
              rw [Option.bind_some, s1, Option.bind_some, t3, m11_found_b89, if_pos (show (100 : Int32) ≤ nI 100 by decide), hw_V_0 F2, Option.bind_some, v1, Option.bind_some, hw_V_0 F3, Option.bind_some, cb, Option.bind_some, hw_P_0_12 F3, Option.bind_some, rowP0 F3, Option.bind_some, rowA F3 (by decide) hb.1, Option.bind_some, vb]
              by_cases hv : FF 0 b < 1000000
              · rw [if_pos (show nI (FF 0 b) < (1000000 : Int32) from nI_lt (b := 1000000) hv (by decide))]
                rw [if_pos hv] at g
                obtain ⟨τ, k1, k2, k3⟩ := r_rows (i := i) (L := nI (FF 0 b)) nn2 b4 ch hb hv (dφ.F hF) (by rw [dφ.I (a := 42) (by omega)]; exact w4) f4
                have dτ : hw_d hw_scr σ τ := dφ.tr (k1.mono (fun a k h => by unfold hw_a53 at h; unfold hw_scr; omega))
                have rr : m12_found 41 (nI l) (nI st) (nI (hw_dg h f p)) (nI nn) i σ3 = (if i = (-1 : Int32) then some (nI (FF 0 b), τ) else (hw_aI 0 (some 53) i τ).bind fun v => some (v, τ)) := by
                  rw [ref σ3 d3, if_pos hi, e12_isDoing_y hd, Option.bind_some, hw_if10, if_pos hnn, u3, f1, Option.bind_some, g]
                  exact k3
                unfold m11_found_b180
                rcases hw_n1R b4 hi with rfl | ⟨j, hj, rfl⟩
                · rw [if_pos rfl, Option.bind_some, rowP0 F3, Option.bind_some, rowA F3 (by decide) hb.1, Option.bind_some, vb]
                  refine ⟨_, σ3, τ, rfl, ?_, dτ.Jv hJ, F3⟩
                  rw [rr, if_pos rfl]
                · rw [if_neg (hw_nn1 (by omega)), Option.bind_some, c_pir F3 b4 hj ch hb.1 hv nn2 v3, Option.bind_some]
                  refine ⟨_, σ3, τ, rfl, ?_, dτ.Jv hJ, F3⟩
                  rw [rr, if_neg (hw_nn1 (by omega)), hw_A_53 (dτ.F hF) (by omega), Option.bind_some, k2 j hj]
              · rw [if_neg (show ¬ nI (FF 0 b) < (1000000 : Int32) from nI_nlt (b := 1000000) (by omega) (by omega))]
                rw [if_neg hv] at g
                refine ⟨_, σ3, φ, rfl, ?_, dφ.Jv hJ, F3⟩
                rw [ref σ3 d3, if_pos hi, e12_isDoing_y hd, Option.bind_some, hw_if10, if_pos hnn, u3, f1, Option.bind_some, g]
          · rw [if_neg hnn]
            refine ⟨_, σ, σ, rfl, ?_, hJ, hF⟩
            rw [ref σ hw_d.rf, if_pos hi, e12_isDoing_y hd, Option.bind_some, hw_if10, if_neg hnn]
        · rw [e11_isDoing_n hd, Option.bind_some, hw_if00]
          refine ⟨_, σ, σ, rfl, ?_, hJ, hF⟩
          rw [ref σ hw_d.rf, if_pos hi, e12_isDoing_n hd, Option.bind_some, hw_if00]
      · rw [if_neg hi]
        refine ⟨_, σ, σ, rfl, ?_, hJ, hF⟩
        rw [ref σ hw_d.rf, if_neg hi]
    · rw [hw_V_0 hF, Option.bind_some, el, Option.bind_some, Option.bind_some, es, Option.bind_some, hw_ifs, hw_ifn]
      refine ⟨_, σ, σ, rfl, ?_, hJ, hF⟩
      unfold m12_found m12_found_b33
      rw [hw_V_41 hF, Option.bind_some, ml σ hw_d.rf, Option.bind_some, hw_if10, Option.bind_some, ms σ hw_d.rf, Option.bind_some, hw_if00]
  · obtain ⟨es, hes⟩ : ∃ v, m11_stuffAt 0 y σ = some v := by
      rcases x_stuff hF hr y with ⟨st, sa, -, -, -, es, -⟩ | ⟨-, es, -⟩
      · exact ⟨_, es⟩
      · exact ⟨_, es⟩
    rw [hw_V_0 hF, Option.bind_some, el, Option.bind_some, Option.bind_some, hes, Option.bind_some, hw_ifn]
    refine ⟨_, σ, σ, rfl, ?_, hJ, hF⟩
    unfold m12_found m12_found_b33
    rw [hw_V_41 hF, Option.bind_some, ml σ hw_d.rf, Option.bind_some, hw_if00]
