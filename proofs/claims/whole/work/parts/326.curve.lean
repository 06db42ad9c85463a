/-! the pure layer: curve, jumps, several -/
theorem j_curve {σ : hw_S} (hJ : hw_Jv σ) (x y fl hh up : Int32) : ∃ r σ1 τ, m11_curve 0 x y fl hh up σ = some (r, σ1) ∧ m12_curve 41 x y fl hh up σ1 = some (r, τ) ∧ hw_Jv τ ∧ hw_F σ1 := by
  obtain ⟨hF, p1, p2, ⟨c0, c1, c2, c3, c4, c5, hr⟩, him, htr⟩ := id hJ
  unfold m11_curve m11_curve_b24 m11_curve_b41
  rcases x_law hF hr x with ⟨l, a, hlc, hl8, rfl, el, ml, hlw⟩ | ⟨-, el, ml⟩
  · rcases x_stuff hF hr y with ⟨st, sa, hsc, hs5, rfl, es, ms, hsf⟩ | ⟨-, es, ms⟩
    · simp only [hw_V_0 hF, Option.bind_some, el, es, hw_ifs, hw_itb, e11_isFlow, e11_isHeight]
      have ref : ∀ τ, hw_d hw_scr σ τ → m12_curve 41 (nI l) (nI st) fl hh up τ = if nI 1 ≤ fl ∧ fl ≤ nI 20 then (if nI 1 ≤ hh ∧ hh ≤ nI 60 then ((m12_curves 41 (nI l) (nI st) fl τ).bind fun σ43 => if up = 0 then (hw_gP (hw_q 12) 17 (some 41) σ43).bind fun v62 => (hw_aI 0 v62 hh σ43).bind fun v67 => some (v67, σ43) else (hw_gP (hw_q 12) 16 (some 41) σ43).bind fun v62 => (hw_aI 0 v62 hh σ43).bind fun v67 => some (v67, σ43)) else some ((-2), τ)) else some ((-2), τ) := by
        intro τ hd
        unfold m12_curve m12_curve_b16 m12_curve_b36 m12_curve_b68
        simp only [hw_V_41 (hd.F hF), Option.bind_some, ml τ hd, ms τ hd, hw_if10, hw_itb, e12_in, e12_isFlow]
        rfl
      by_cases hf : nI 1 ≤ fl ∧ fl ≤ nI 20
      · by_cases hh1 : nI 1 ≤ hh ∧ hh ≤ nI 60
        · simp only [if_pos hf, if_pos hh1]
          obtain ⟨f, f1, f2, rfl⟩ := hw_fl hf
          obtain ⟨h, h1, h2, rfl⟩ := hw_win (lo := 1) (hi := 60) (by decide) (by decide) hh1
          have hml := hlw.ml hl8
          have hms := hsf.ms hs5
          have rr : ∀ σ1, hw_d hw_scr σ σ1 → ∃ τ, m12_curves 41 (nI l) (nI st) (nI f) σ1 = some τ ∧ hw_d hw_scr σ τ ∧ τ.2.2.1 49 h = nI (sp_cu (σ.2.2.1 42) l st f h) ∧ τ.2.2.1 50 h = nI (sp_cd (σ.2.2.1 42) l st f h) := by
            intro σ1 hd
            have e42 : σ1.2.2.1 42 = σ.2.2.1 42 := hd.I (by omega)
            obtain ⟨τ, t1, t2, t3⟩ := r_curves (σ := σ1) (l := l) (st := st) (f := f) (hd.F hF) (by rw [e42]; exact hml) (by rw [e42]; exact hms) f2
            have t3 := t3 h h1 h2
            rw [e42] at t3
            exact ⟨τ, t1, hd.tr (t2.mono hw_acv_s), t3.1, t3.2⟩
          by_cases hu : up = 0
          · rw [if_pos hu]
            obtain ⟨σ1, s1, s2, s3⟩ := c_goDown (f := f) hF hl8 hlw hs5 hsf f2
            have d1 := s2.mono hw_a29_s
            obtain ⟨τ, t1, t2, t3, t4⟩ := rr σ1 d1
            have F1 := d1.F hF
            have F2 := t2.F hF
            rw [s1, Option.bind_some, hw_P_0_9 F1, Option.bind_some, hw_A_29 F1 (by omega), Option.bind_some, s3 h h1 h2]
            refine ⟨_, σ1, τ, rfl, ?_, t2.Jv hJ, F1⟩
            rw [ref σ1 d1, if_pos hf, if_pos hh1, t1, Option.bind_some, if_pos hu, hw_P_41_17 F2, Option.bind_some, hw_A_50 F2 (by omega), Option.bind_some, t4]
          · rw [if_neg hu]
            obtain ⟨σ1, s1, s2, s3⟩ := c_goUp (f := f) hF hl8 hlw hs5 hsf f2
            have d1 := s2.mono hw_a28_s
            obtain ⟨τ, t1, t2, t3, t4⟩ := rr σ1 d1
            have F1 := d1.F hF
            have F2 := t2.F hF
            rw [s1, Option.bind_some, hw_P_0_8 F1, Option.bind_some, hw_A_28 F1 (by omega), Option.bind_some, s3 h h1 h2]
            refine ⟨_, σ1, τ, rfl, ?_, t2.Jv hJ, F1⟩
            rw [ref σ1 d1, if_pos hf, if_pos hh1, t1, Option.bind_some, if_neg hu, hw_P_41_16 F2, Option.bind_some, hw_A_49 F2 (by omega), Option.bind_some, t3]
        · simp only [if_pos hf, if_neg hh1]
          refine ⟨_, σ, σ, rfl, ?_, hJ, hF⟩
          rw [ref σ hw_d.rf, if_pos hf, if_neg hh1]
      · simp only [if_neg hf]
        refine ⟨_, σ, σ, rfl, ?_, hJ, hF⟩
        rw [ref σ hw_d.rf, if_neg hf]
    · unfold m12_curve m12_curve_b16
      simp only [hw_V_0 hF, Option.bind_some, el, es, hw_ifs, hw_ifn]
      refine ⟨_, σ, σ, rfl, ?_, hJ, hF⟩
      simp only [hw_V_41 hF, Option.bind_some, ml σ hw_d.rf, ms σ hw_d.rf, hw_if10, if_true]
  · obtain ⟨es, hes⟩ : ∃ v, m11_stuffAt 0 y σ = some v := by
      rcases x_stuff hF hr y with ⟨st, sa, -, -, -, es, -⟩ | ⟨-, es, -⟩
      · exact ⟨_, es⟩
      · exact ⟨_, es⟩
    unfold m12_curve m12_curve_b16
    simp only [hw_V_0 hF, Option.bind_some, el, hes, hw_ifn]
    refine ⟨_, σ, σ, rfl, ?_, hJ, hF⟩
    simp only [hw_V_41 hF, Option.bind_some, ml σ hw_d.rf, if_true]
/-- both curves' rows, by class and by model -/
theorem x_jumps {σ1 τ1 : hw_S} {A : Nat → Nat} {n q : Int32} (F1 : hw_F σ1) (F2 : hw_F τ1) (hA : ∀ h, h ≤ 60 → A h ≤ 999) (h1 : ∀ h, 1 ≤ h → h ≤ 60 → σ1.2.2.1 28 h = nI (A h)) (h2 : ∀ h, 1 ≤ h → h ≤ 60 → τ1.2.2.1 49 h = nI (A h)) :
    ∀ d h fuel fuel2 m fi, h + d = 61 → 2 ≤ h → d < fuel → d < fuel2 → hw_mf m fi → m + d ≤ 100 → ∃ r, m11_jumps_b76 fuel 0 n q (nI m) fi (nI h) σ1 = some (r, σ1) ∧ m12_jumps_b66 fuel2 41 n q (nI m) fi (nI h) τ1 = some (r, τ1) := by
  intro d
  induction d with
  | zero =>
    intro h fuel fuel2 m fi e hh2 hf1 hf2 hm hmb
    obtain ⟨fuel, rfl⟩ : ∃ k, fuel = k + 1 := ⟨fuel - 1, by omega⟩
    obtain ⟨fuel2, rfl⟩ : ∃ k, fuel2 = k + 1 := ⟨fuel2 - 1, by omega⟩
    have hh : (60 : Int32) < nI h := hw_60l (by omega) (by omega)
    rw [m11_jumps_b76, m12_jumps_b66, if_pos hh, if_pos hh]
    unfold m11_jumps_b144 m12_jumps_b159
    by_cases q0 : q = 0
    · rw [if_pos q0, if_pos q0]; exact ⟨_, rfl, rfl⟩
    · rw [if_neg q0, if_neg q0]; exact ⟨_, rfl, rfl⟩
  | succ d ih =>
    intro h fuel fuel2 m fi e hh2 hf1 hf2 hm hmb
    obtain ⟨fuel, rfl⟩ : ∃ k, fuel = k + 1 := ⟨fuel - 1, by omega⟩
    obtain ⟨fuel2, rfl⟩ : ∃ k, fuel2 = k + 1 := ⟨fuel2 - 1, by omega⟩
    have hh : ¬ (60 : Int32) < nI h := hw_60n (by omega)
    have a1 := hA h (by omega)
    have a2 := hA (h - 1) (by omega)
    have e1 : nI h - (1 : Int32) = nI (h - 1) := nI_sub (b := 1) (by omega)
    have b1 := hw_A_28 F1 (show h < 61 by omega)
    have b2 := hw_A_28 F1 (show h - 1 < 61 by omega)
    have b3 := hw_A_49 F2 (show h < 61 by omega)
    have b4 := hw_A_49 F2 (show h - 1 < 61 by omega)
    rw [h1 h (by omega) (by omega)] at b1
    rw [h1 (h - 1) (by omega) (by omega)] at b2
    rw [h2 h (by omega) (by omega)] at b3
    rw [h2 (h - 1) (by omega) (by omega)] at b4
    rw [m11_jumps_b76, m12_jumps_b66, if_neg hh, if_neg hh]
    simp only [hw_P_0_8 F1, hw_P_41_16 F2, Option.bind_some, b1, e1, b2, b3, b4, e12_size]
    unfold m11_jumps_b126 m11_jumps_b124 m12_jumps_b103 m12_jumps_b117 m12_jumps_b137 m12_jumps_b139
    unfold m11_jumps_b126
    have m0 : nI m + 0 = nI m := Int32.add_zero _
    by_cases hc : hw_abs (nI (A h) - nI (A (h - 1))) < n
    · simp only [if_pos hc, if_true, m0, nI_1]
      exact ih (h + 1) fuel fuel2 m fi (by omega) (by omega) (by omega) (by omega) hm (by omega)
    · obtain ⟨r, r1, r2⟩ := ih (h + 1) fuel fuel2 (m + 1) (if m = 0 then nI h else fi) (by omega) (by omega) (by omega) (by omega) (hw_mf_s hm (by omega)) (by omega)
      refine ⟨r, ?_, ?_⟩
      · rw [← r1]
        simp only [if_neg hc, nI_1, hw_m1e (show m < 2 ^ 30 by omega)]
        by_cases h0 : m = 0
        · simp only [if_pos h0]
        · simp only [if_neg h0]
      · rw [← r2]
        simp only [if_neg hc, nI_1, hw_if10, hw_mf_f hm]
        by_cases h0 : m = 0
        · simp only [if_pos h0]
        · simp only [if_neg h0]
theorem sp_cu_le {w : Nat → Int32} {l : Nat} (hl : hw_ml w l) (st f h : Nat) : sp_cu w l st f h ≤ 999 := (sp_turns_le hl _ _ _ _ _ _).2
theorem sp_cd_le {w : Nat → Int32} {l : Nat} (hl : hw_ml w l) (st f h : Nat) : sp_cd w l st f h ≤ 999 := (sp_turns_le hl _ _ _ _ _ _).2
theorem j_jumps {σ : hw_S} (hJ : hw_Jv σ) (x y fl n q : Int32) : ∃ r σ1 τ, m11_jumps 0 x y fl n q σ = some (r, σ1) ∧ m12_jumps 41 x y fl n q σ1 = some (r, τ) ∧ hw_Jv τ ∧ hw_F σ1 := by
  obtain ⟨hF, p1, p2, ⟨c0, c1, c2, c3, c4, c5, hr⟩, him, htr⟩ := id hJ
  unfold m11_jumps m11_jumps_b34 m11_jumps_b54
  rcases x_law hF hr x with ⟨l, a, hlc, hl8, rfl, el, ml, hlw⟩ | ⟨-, el, ml⟩
  · rcases x_stuff hF hr y with ⟨st, sa, hsc, hs5, rfl, es, ms, hsf⟩ | ⟨-, es, ms⟩
    · simp only [hw_V_0 hF, Option.bind_some, el, es, hw_ifs, hw_itb, e11_isFlow, e11_isWithin]
      have ref : ∀ τ, hw_d hw_scr σ τ → m12_jumps 41 (nI l) (nI st) fl n q τ = if (0 : Int32) ≤ q ∧ q ≤ 1 then (if nI 1 ≤ fl ∧ fl ≤ nI 20 then (if (1 : Int32) ≤ n ∧ n ≤ 99 then ((m12_curves 41 (nI l) (nI st) fl τ).bind fun σ53 => m12_jumps_b66 hw_fu 41 n q 0 (-5) 2 σ53) else some ((-2), τ)) else some ((-2), τ)) else some ((-1), τ) := by
        intro τ hd
        unfold m12_jumps m12_jumps_b26 m12_jumps_b46
        simp only [hw_V_41 (hd.F hF), Option.bind_some, ml τ hd, ms τ hd, hw_if10, hw_itb, e12_in, e12_isFlow]
      by_cases hq : (0 : Int32) ≤ q ∧ q ≤ 1
      · by_cases hf : nI 1 ≤ fl ∧ fl ≤ nI 20
        · by_cases hn : (1 : Int32) ≤ n ∧ n ≤ 99
          · simp only [if_pos hq, if_pos hf, if_pos hn]
            obtain ⟨f, f1, f2, rfl⟩ := hw_fl hf
            have hml := hlw.ml hl8
            have hms := hsf.ms hs5
            obtain ⟨σ1, s1, s2, s3⟩ := c_goUp (f := f) hF hl8 hlw hs5 hsf f2
            have d1 := s2.mono hw_a28_s
            have e42 : σ1.2.2.1 42 = σ.2.2.1 42 := d1.I (by omega)
            obtain ⟨τ, t1, t2, t3⟩ := r_curves (σ := σ1) (l := l) (st := st) (f := f) (d1.F hF) (by rw [e42]; exact hml) (by rw [e42]; exact hms) f2
            have d2 := d1.tr (t2.mono hw_acv_s)
            obtain ⟨r, r1, r2⟩ := x_jumps (n := n) (q := q) (A := fun h => sp_cu (σ.2.2.1 42) l st f h) (d1.F hF) (d2.F hF) (fun h _ => sp_cu_le hml st f h) s3 (fun h h1 h2 => by rw [(t3 h h1 h2).1, e42]) 59 2 hw_fu hw_fu 0 (-5) (by decide) (by decide) (by decide) (by decide) (Or.inl ⟨rfl, rfl⟩) (by decide)
            rw [s1, Option.bind_some]
            refine ⟨r, σ1, τ, r1, ?_, d2.Jv hJ, d1.F hF⟩
            rw [ref σ1 d1, if_pos hq, if_pos hf, if_pos hn, t1, Option.bind_some]
            exact r2
          · simp only [if_pos hq, if_pos hf, if_neg hn]
            refine ⟨_, σ, σ, rfl, ?_, hJ, hF⟩
            rw [ref σ hw_d.rf, if_pos hq, if_pos hf, if_neg hn]
        · simp only [if_pos hq, if_neg hf]
          refine ⟨_, σ, σ, rfl, ?_, hJ, hF⟩
          rw [ref σ hw_d.rf, if_pos hq, if_neg hf]
      · simp only [if_neg hq]
        refine ⟨_, σ, σ, rfl, ?_, hJ, hF⟩
        rw [ref σ hw_d.rf, if_neg hq]
    · unfold m12_jumps m12_jumps_b26
      simp only [hw_V_0 hF, Option.bind_some, el, es, hw_ifs, hw_ifn]
      refine ⟨_, σ, σ, rfl, ?_, hJ, hF⟩
      simp only [hw_V_41 hF, Option.bind_some, ml σ hw_d.rf, ms σ hw_d.rf, hw_if10, if_true]
  · obtain ⟨es, hes⟩ : ∃ v, m11_stuffAt 0 y σ = some v := by
      rcases x_stuff hF hr y with ⟨st, sa, -, -, -, es, -⟩ | ⟨-, es, -⟩
      · exact ⟨_, es⟩
      · exact ⟨_, es⟩
    unfold m12_jumps m12_jumps_b26
    simp only [hw_V_0 hF, Option.bind_some, el, hes, hw_ifn]
    refine ⟨_, σ, σ, rfl, ?_, hJ, hF⟩
    simp only [hw_V_41 hF, Option.bind_some, ml σ hw_d.rf, if_true]
theorem x_several {σ1 τ1 : hw_S} {A B : Nat → Nat} {q : Int32} (F1 : hw_F σ1) (F2 : hw_F τ1) (hA : ∀ h, h ≤ 60 → A h ≤ 999 ∧ B h ≤ 999) (h1 : ∀ h, 1 ≤ h → h ≤ 60 → σ1.2.2.1 28 h = nI (A h) ∧ σ1.2.2.1 29 h = nI (B h)) (h2 : ∀ h, 1 ≤ h → h ≤ 60 → τ1.2.2.1 49 h = nI (A h) ∧ τ1.2.2.1 50 h = nI (B h)) :
    ∀ d h fuel fuel2 m fi la, h + d = 61 → 1 ≤ h → d < fuel → d < fuel2 → hw_mf m fi → m + d ≤ 100 → ∃ r, m11_several_b78 fuel 0 q (nI m) fi la (nI h) σ1 = some (r, σ1) ∧ m12_several_b59 fuel2 41 q (nI m) fi la (nI h) τ1 = some (r, τ1) := by
  intro d
  induction d with
  | zero =>
    intro h fuel fuel2 m fi la e hh2 hf1 hf2 hm hmb
    obtain ⟨fuel, rfl⟩ : ∃ k, fuel = k + 1 := ⟨fuel - 1, by omega⟩
    obtain ⟨fuel2, rfl⟩ : ∃ k, fuel2 = k + 1 := ⟨fuel2 - 1, by omega⟩
    have hh : (60 : Int32) < nI h := hw_60l (by omega) (by omega)
    rw [m11_several_b78, m12_several_b59, if_pos hh, if_pos hh]
    unfold m11_pick m11_pick_b16 m12_several_b169
    by_cases q0 : q = 0
    · rw [if_pos q0, if_pos q0]; exact ⟨_, rfl, rfl⟩
    · rw [if_neg q0, if_neg q0]
      by_cases q1 : q = 1
      · rw [if_pos q1, if_pos q1]; exact ⟨_, rfl, rfl⟩
      · rw [if_neg q1, if_neg q1]; exact ⟨_, rfl, rfl⟩
  | succ d ih =>
    intro h fuel fuel2 m fi la e hh2 hf1 hf2 hm hmb
    obtain ⟨fuel, rfl⟩ : ∃ k, fuel = k + 1 := ⟨fuel - 1, by omega⟩
    obtain ⟨fuel2, rfl⟩ : ∃ k, fuel2 = k + 1 := ⟨fuel2 - 1, by omega⟩
    have hh : ¬ (60 : Int32) < nI h := hw_60n (by omega)
    have b1 := hw_A_28 F1 (show h < 61 by omega)
    have b2 := hw_A_29 F1 (show h < 61 by omega)
    have b3 := hw_A_49 F2 (show h < 61 by omega)
    have b4 := hw_A_50 F2 (show h < 61 by omega)
    rw [(h1 h (by omega) (by omega)).1] at b1
    rw [(h1 h (by omega) (by omega)).2] at b2
    rw [(h2 h (by omega) (by omega)).1] at b3
    rw [(h2 h (by omega) (by omega)).2] at b4
    rw [m11_several_b78, m12_several_b59, if_neg hh, if_neg hh]
    simp only [hw_P_0_8 F1, hw_P_0_9 F1, hw_P_41_16 F2, hw_P_41_17 F2, Option.bind_some, b1, b2, b3, b4]
    unfold m11_several_b118 m11_several_b124 m12_several_b88 m12_several_b102 m12_several_b122 m12_several_b124 m12_several_b138
    have m0 : nI m + 0 = nI m := Int32.add_zero _
    by_cases hc : nI (A h) = nI (B h)
    · simp only [if_pos hc, if_true, m0, nI_1]
      exact ih (h + 1) fuel fuel2 m fi la (by omega) (by omega) (by omega) (by omega) hm (by omega)
    · obtain ⟨r, r1, r2⟩ := ih (h + 1) fuel fuel2 (m + 1) (if m = 0 then nI h else fi) (nI h) (by omega) (by omega) (by omega) (by omega) (hw_mf_s hm (by omega)) (by omega)
      refine ⟨r, ?_, ?_⟩
      · rw [← r1]
        simp only [if_neg hc, nI_1, hw_m1e (show m < 2 ^ 30 by omega)]
        by_cases h0 : m = 0
        · simp only [if_pos h0]
        · simp only [if_neg h0]
      · rw [← r2]
        simp only [if_neg hc, nI_1, hw_if10, hw_mf_f hm]
        by_cases h0 : m = 0
        · simp only [if_pos h0]
        · simp only [if_neg h0]
theorem j_several {σ : hw_S} (hJ : hw_Jv σ) (x y fl q : Int32) : ∃ r σ1 τ, m11_several 0 x y fl q σ = some (r, σ1) ∧ m12_several 41 x y fl q σ1 = some (r, τ) ∧ hw_Jv τ ∧ hw_F σ1 := by
  obtain ⟨hF, p1, p2, ⟨c0, c1, c2, c3, c4, c5, hr⟩, him, htr⟩ := id hJ
  unfold m11_several m11_several_b34
  rcases x_law hF hr x with ⟨l, a, hlc, hl8, rfl, el, ml, hlw⟩ | ⟨-, el, ml⟩
  · rcases x_stuff hF hr y with ⟨st, sa, hsc, hs5, rfl, es, ms, hsf⟩ | ⟨-, es, ms⟩
    · simp only [hw_V_0 hF, Option.bind_some, el, es, hw_ifs, hw_itb, e11_isFlow, e11_isWithin]
      have ref : ∀ τ, hw_d hw_scr σ τ → m12_several 41 (nI l) (nI st) fl q τ = if (0 : Int32) ≤ q ∧ q ≤ 2 then (if nI 1 ≤ fl ∧ fl ≤ nI 20 then ((m12_curves 41 (nI l) (nI st) fl τ).bind fun σ53 => m12_several_b59 hw_fu 41 q 0 (-5) (-5) 1 σ53) else some ((-2), τ)) else some ((-1), τ) := by
        intro τ hd
        unfold m12_several m12_several_b26
        simp only [hw_V_41 (hd.F hF), Option.bind_some, ml τ hd, ms τ hd, hw_if10, hw_itb, e12_in, e12_isFlow]
      by_cases hq : (0 : Int32) ≤ q ∧ q ≤ 2
      · by_cases hf : nI 1 ≤ fl ∧ fl ≤ nI 20
        · simp only [if_pos hq, if_pos hf]
          obtain ⟨f, f1, f2, rfl⟩ := hw_fl hf
          have hml := hlw.ml hl8
          have hms := hsf.ms hs5
          obtain ⟨σ1, s1, s2, s3⟩ := c_goUp (f := f) hF hl8 hlw hs5 hsf f2
          have d1 := s2.mono hw_a28_s
          obtain ⟨σ2, s4, s5, s6⟩ := c_goDown (f := f) (d1.F hF) hl8 (d1.lw hlw) hs5 (d1.sf hsf) f2
          have d2 := d1.tr (s5.mono hw_a29_s)
          have e28 : ∀ h, σ2.2.2.1 28 h = σ1.2.2.1 28 h := fun h => s5.2.2.2 28 h (by unfold hw_a29; omega)
          have e42 : σ2.2.2.1 42 = σ.2.2.1 42 := d2.I (by omega)
          obtain ⟨τ, t1, t2, t3⟩ := r_curves (σ := σ2) (l := l) (st := st) (f := f) (d2.F hF) (by rw [e42]; exact hml) (by rw [e42]; exact hms) f2
          have d3 := d2.tr (t2.mono hw_acv_s)
          obtain ⟨r, r1, r2⟩ := x_several (q := q) (A := fun h => sp_cu (σ.2.2.1 42) l st f h) (B := fun h => sp_cd (σ.2.2.1 42) l st f h) (d2.F hF) (d3.F hF) (fun h _ => ⟨sp_cu_le hml st f h, sp_cd_le hml st f h⟩) (fun h h1 h2 => ⟨(e28 h).trans (s3 h h1 h2), s6 h h1 h2⟩) (fun h h1 h2 => by rw [(t3 h h1 h2).1, (t3 h h1 h2).2, e42]; exact ⟨rfl, rfl⟩) 60 1 hw_fu hw_fu 0 (-5) (-5) (by decide) (by decide) (by decide) (by decide) (Or.inl ⟨rfl, rfl⟩) (by decide)
          rw [s1, Option.bind_some, hw_V_0 (d1.F hF), Option.bind_some, s4, Option.bind_some]
          refine ⟨r, σ2, τ, r1, ?_, d3.Jv hJ, d2.F hF⟩
          rw [ref σ2 d2, if_pos hq, if_pos hf, t1, Option.bind_some]
          exact r2
        · simp only [if_pos hq, if_neg hf]
          refine ⟨_, σ, σ, rfl, ?_, hJ, hF⟩
          rw [ref σ hw_d.rf, if_pos hq, if_neg hf]
      · simp only [if_neg hq]
        refine ⟨_, σ, σ, rfl, ?_, hJ, hF⟩
        rw [ref σ hw_d.rf, if_neg hq]
    · unfold m12_several m12_several_b26
      simp only [hw_V_0 hF, Option.bind_some, el, es, hw_ifs, hw_ifn]
      refine ⟨_, σ, σ, rfl, ?_, hJ, hF⟩
      simp only [hw_V_41 hF, Option.bind_some, ml σ hw_d.rf, ms σ hw_d.rf, hw_if10, if_true]
  · obtain ⟨es, hes⟩ : ∃ v, m11_stuffAt 0 y σ = some v := by
      rcases x_stuff hF hr y with ⟨st, sa, -, -, -, es, -⟩ | ⟨-, es, -⟩
      · exact ⟨_, es⟩
      · exact ⟨_, es⟩
    unfold m12_several m12_several_b26
    simp only [hw_V_0 hF, Option.bind_some, el, hes, hw_ifn]
    refine ⟨_, σ, σ, rfl, ?_, hJ, hF⟩
    simp only [hw_V_41 hF, Option.bind_some, ml σ hw_d.rf, if_true]
