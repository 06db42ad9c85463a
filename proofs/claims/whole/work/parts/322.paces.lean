/-! the pure layer: paces; order -/
theorem e11_isForm (x : Int32) : m11_isForm x = some (hw_tb (nI 0 ≤ x ∧ x ≤ nI 4)) := by
  unfold m11_isForm
  rw [e11_isWithin, Option.bind_some, hw_tf_tb]; rfl
theorem sp_run_pace {w : Nat → Int32} {c : Nat → Int32} {l st h f p n : Nat} (hp : p + 1 < 100) (ins : ∀ j, j < n → hw_ins (sp_code w l j) (c j)) (hno : ∀ j, j < n → ∀ g q : Nat, g < 3 → q < 100 → sp_code w l j = nI (2 + 8 * g + 32 * q) → q ≠ p + 1 ∧ q + 1 ≠ p + 1) : ∀ j, j ≤ n → sp_run (sp_by w st h f (p + 1)) (sp_code w l) j = sp_run (sp_by w st h f p) (sp_code w l) j := by
  intro j
  induction j with
  | zero => intro _; rfl
  | succ j ih =>
    intro hj
    have ih := ih (by omega)
    show sp_step (sp_by w st h f (p + 1)) (sp_code w l j) (sp_run (sp_by w st h f (p + 1)) (sp_code w l) j) = sp_step (sp_by w st h f p) (sp_code w l j) (sp_run (sp_by w st h f p) (sp_code w l) j)
    rw [ih]
    have hn := hno j (by omega)
    rcases ins j (by omega) with ⟨t, g, m, a1, a2, a3, e, -⟩ | ⟨e, -⟩ | ⟨e, -⟩ | ⟨e, -⟩ | ⟨m, a3, e, -⟩ | ⟨m, a3, e, -⟩
    · rw [e, sp_step_t a1 a2 a3, sp_step_t a1 a2 a3]
      have e2 : sp_cmp g (sp_by w st h f (p + 1) t) (nI m) = sp_cmp g (sp_by w st h f p t) (nI m) := by
        match t, a1, e with
        | 0, _, _ => rfl
        | 1, _, _ => rfl
        | 2, _, e =>
          have hm := hn g m a2 a3 e
          show sp_cmp g (nI (p + 1)) (nI m) = sp_cmp g (nI p) (nI m)
          match g, a2 with
          | 0, _ =>
            rw [sp_cmp_0, sp_cmp_0]
            exact decide_eq_decide.mpr (by rw [nI_ltI (by omega) (by omega), nI_ltI (by omega) (by omega)]; omega)
          | 1, _ =>
            rw [sp_cmp_1, sp_cmp_1]
            exact decide_eq_decide.mpr (by rw [nI_eq (by omega) (by omega), nI_eq (by omega) (by omega)]; omega)
          | 2, _ =>
            rw [sp_cmp_2, sp_cmp_2]
            exact decide_eq_decide.mpr (by rw [nI_ltI (by omega) (by omega), nI_ltI (by omega) (by omega)]; omega)
        | 3, _, _ => rfl
        | 4, _, _ => rfl
      rw [e2]
    · rw [e, sp_step_not, sp_step_not]
    · rw [e, sp_step_and, sp_step_and]
    · rw [e, sp_step_or, sp_step_or]
    · rw [e, sp_step_wind a3, sp_step_wind a3]
    · rw [e, sp_step_ease a3, sp_step_ease a3]
def hw_a30 (a _k : Nat) : Prop := a = 30
theorem hw_a30_s : ∀ a k, hw_a30 a k → hw_scr a k := fun a k h => by unfold hw_a30 at h; unfold hw_scr; omega
theorem c_paces {σ : hw_S} {w : Nat → Int32} {a sa l st h f p0 : Nat} (hF : hw_F σ) (hl8 : l < 8) (hl : hw_lw σ (some a) l w) (hs5 : st < 5) (hsf : hw_sf σ (some sa) (w (130 + st)) (w (135 + st))) (hh : h ≤ 60) (hf : f ≤ 20) (hp0 : p0 < 100) :
    ∃ σ1, m11_goThroughPaces 0 (some a) (some sa) (nI (hw_dg h f p0)) σ = some σ1 ∧ hw_d hw_scr σ σ1 ∧ ∀ p, p < 100 → σ1.2.2.1 30 p = nI (sp_to w l st h f p) := by
  have hb : hw_dg h f p0 < 2 ^ 31 := by unfold hw_dg; omega
  have same : ∀ p, p + 1 < 100 → (∀ as, σ.2.2.2.1 a 7 = some as → σ.2.2.1 as (p + 1) = 0) → sp_to w l st h f (p + 1) = sp_to w l st h f p := by
    intro p hp hz
    obtain ⟨a', af, ac, as, k, v, n, hp', co, e, -, -, -, -, -, -, -, n120, -, -, -, -, -, -, -, wn, -, -, -, -, -, -, -, p7, -, -, -, -, -, -, -, ins, -, shf⟩ := hl
    cases e
    have sh := shf (p + 1) hp (hz as p7)
    have er := sp_run_pace (w := w) (st := st) (h := h) (f := f) hp (c := fun j => σ.2.2.1 ac j) ins (fun j hj g q hg hq e => sh j hj g q hg hq e) n (Nat.le_refl n)
    have en : sp_n w l = n := by unfold sp_n; rw [wn, nI_clamp (by omega)]
    unfold sp_to sp_turns sp_base
    rw [en, er]
  obtain ⟨as, p7, gs, gs2, as55⟩ : ∃ as, σ.2.2.2.1 a 7 = some as ∧ σ.1 as = 22 ∧ σ.2.1 as = 100 ∧ 55 ≤ as := by
    obtain ⟨a', af, ac, as, k, v, n, hp', co, e, -, -, -, has, -, -, -, -, -, -, -, -, -, -, -, -, -, -, -, -, -, -, -, p7, -, -, -, -, gs, gs2, -⟩ := hl
    cases e
    exact ⟨as, p7, gs, gs2, has.1⟩
  have same2 : ∀ p, p + 1 < 100 → σ.2.2.1 as (p + 1) = 0 → sp_to w l st h f (p + 1) = sp_to w l st h f p := fun p hp hz => same p hp (fun as' e => by rw [p7] at e; cases e; exact hz)
  have key : ∀ d p fuel ρ v, p + d = 100 → d < fuel → hw_d hw_a30 σ ρ → (p = 0 → v = sp_to w l st h f 0) → (∀ q, p = q + 1 → v = sp_to w l st h f q) → (∀ q, q < p → ρ.2.2.1 30 q = nI (sp_to w l st h f q)) → ∃ σ1, m11_goThroughPaces_b25 fuel 0 (some a) (some sa) (nI (hw_dg h f 0)) (nI v) (nI p) ρ = some σ1 ∧ hw_d hw_scr σ σ1 ∧ ∀ q, q < 100 → σ1.2.2.1 30 q = nI (sp_to w l st h f q) := by
    intro d
    induction d with
    | zero =>
      intro p fuel ρ v e hfu hd h0 h1 h2
      obtain ⟨fuel, rfl⟩ : ∃ k, fuel = k + 1 := ⟨fuel - 1, by omega⟩
      refine ⟨ρ, ?_, hd.mono hw_a30_s, fun q hq => h2 q (by omega)⟩
      rw [m11_goThroughPaces_b25, if_pos (hw_100l (h := p) (by omega) (by omega))]
    | succ d ih =>
      intro p fuel ρ v e hfu hd h0 h1 h2
      obtain ⟨fuel, rfl⟩ : ∃ k, fuel = k + 1 := ⟨fuel - 1, by omega⟩
      have hp : p < 100 := by omega
      have hds := hd.mono hw_a30_s
      have Fρ := hds.F hF
      have hlρ := hds.lw hl
      have hsρ := hds.sf hsf
      have p7ρ : ρ.2.2.2.1 a 7 = some as := by rw [hds.2.2.1]; exact p7
      have gsρ : ρ.1 as = 22 := by rw [hds.1]; exact gs
      have gs2ρ : ρ.2.1 as = 100 := by rw [hds.2.1]; exact gs2
      have eas : ρ.2.2.1 as p = σ.2.2.1 as p := congrFun (hds.I (a := as) (by omega)) p
      have fin : ∀ v', v' = sp_to w l st h f p → ∃ σ1, m11_goThroughPaces_b54 (m11_goThroughPaces_b25 fuel) 0 (some a) (some sa) (nI (hw_dg h f 0)) (nI v') (nI p) ρ = some σ1 ∧ hw_d hw_scr σ σ1 ∧ ∀ q, q < 100 → σ1.2.2.1 30 q = nI (sp_to w l st h f q) := by
        intro v' hv
        obtain ⟨σ1, g1, g2, g3⟩ := ih (p + 1) fuel (hw_wI 30 p (nI v') ρ) v' (by omega) (by omega) (hd.tr (hw_d.wI rfl)) (fun c => absurd c (Nat.succ_ne_zero p)) (fun q hq => by rw [hv]; congr 1; omega) (fun q hq => by
          rw [hw_wI_3]
          by_cases hqp : q = p
          · rw [if_pos ⟨rfl, hqp⟩, hv, hqp]
          · rw [if_neg (fun c => hqp c.2)]
            exact h2 q (by omega))
        refine ⟨σ1, ?_, g2, g3⟩
        unfold m11_goThroughPaces_b54
        rw [hw_P_0_10 Fρ, Option.bind_some, hw_B_30 Fρ hp, Option.bind_some, nI_1]
        exact g1
      rw [m11_goThroughPaces_b25, if_neg (show ¬ (100 : Int32) ≤ nI p from nI_ge hp (by decide)), hw_gP_at (hlρ.q hl8).1 p7ρ, Option.bind_some, hw_aI_at (t := 1) gsρ gs2ρ hp (by decide), Option.bind_some, eas]
      by_cases hz : σ.2.2.1 as p = 0
      · rw [if_pos hz]
        refine fin v ?_
        cases p with
        | zero => exact h0 rfl
        | succ q => rw [h1 q rfl]; exact (same2 q hp hz).symm
      · rw [if_neg hz]
        have e1 : nI (hw_dg h f 0) + nI p = nI (hw_dg h f p) := by
          rw [nI_add]
          congr 1
        rw [e1, c11_turnsIn_e hl8 hs5 hlρ hsρ hh hf hp, Option.bind_some]
        exact fin _ rfl
  obtain ⟨σ1, g1, g2, g3⟩ := key 100 0 hw_fu σ (sp_to w l st h f 0) (by decide) (by decide) hw_d.rf (fun _ => rfl) (fun q c => absurd c (Nat.succ_ne_zero q).symm) (fun q hq => absurd hq (Nat.not_lt_zero q))
  refine ⟨σ1, ?_, g2, g3⟩
  unfold m11_goThroughPaces
  rw [e11_heightOf hb, Option.bind_some, e11_flowOf hb, Option.bind_some, hw_dg_h hf hp0, hw_dg_f hf hp0, e11_doingOf, Option.bind_some, c11_turnsIn_e hl8 hs5 hl hsf hh hf (by decide), Option.bind_some]
  exact g1
theorem j_order {σ : hw_S} (hJ : hw_Jv σ) (x y d k : Int32) : ∃ r σ1 τ, m11_order 0 x y d k σ = some (r, σ1) ∧ m12_order 41 x y d k σ1 = some (r, τ) ∧ hw_Jv τ ∧ hw_F σ1 := by
  obtain ⟨hF, p1, p2, ⟨c0, c1, c2, c3, c4, c5, hr⟩, him, htr⟩ := id hJ
  unfold m11_order m11_order_b24 m11_order_b41
  rcases x_law hF hr x with ⟨l, a, hlc, hl8, rfl, el, ml, hlw⟩ | ⟨-, el, ml⟩
  · rcases x_stuff hF hr y with ⟨st, sa, hsc, hs5, rfl, es, ms, hsf⟩ | ⟨-, es, ms⟩
    · simp only [hw_V_0 hF, Option.bind_some, el, es, hw_ifs, hw_if10, hw_itb, e11_isForm]
      have ref : ∀ τ, hw_d hw_scr σ τ → m12_order 41 (nI l) (nI st) d k τ = (m12_isDoing d).bind fun v19 => (if v19 = 0 then some (((-2) : Int32), τ) else if nI 0 ≤ k ∧ k ≤ nI 4 then m12_order_b41 hw_fu 41 (nI l) (nI st) d k 0 τ else some (((-2) : Int32), τ)) := by
        intro τ hd
        unfold m12_order m12_order_b16 m12_order_b35
        simp only [hw_V_41 (hd.F hF), Option.bind_some, ml τ hd, ms τ hd, hw_if10, hw_itb, e12_in]
        rfl
      by_cases hd : hw_dok d
      · rw [e11_isDoing_y hd, Option.bind_some, hw_if10]
        by_cases hk : nI 0 ≤ k ∧ k ≤ nI 4
        · rw [if_pos hk]
          obtain ⟨h, f, p, h1, h2, h3, h4, h5, ed⟩ := id hd
          have hml := hlw.ml hl8
          have hms := hsf.ms hs5
          obtain ⟨σ1, s1, s2, s3⟩ := c_paces hF hl8 hlw hs5 hsf h2 h4 h5
          rw [ed, s1, Option.bind_some]
          have F1 := s2.F hF
          have key : ∀ dd q fuel fuel2, q + dd = 100 → dd < fuel → dd < fuel2 → ∃ r, m11_order_b56 fuel 0 k (some a) (nI q) σ1 = some (r, σ1) ∧ ∀ τ, hw_d hw_scr σ τ → ∃ υ, m12_order_b41 fuel2 41 (nI l) (nI st) d k (nI q) τ = some (r, υ) ∧ hw_d hw_scr σ υ := by
            intro dd
            induction dd with
            | zero =>
              intro q fuel fuel2 e hf1 hf2
              obtain ⟨fuel, rfl⟩ : ∃ k, fuel = k + 1 := ⟨fuel - 1, by omega⟩
              obtain ⟨fuel2, rfl⟩ : ∃ k, fuel2 = k + 1 := ⟨fuel2 - 1, by omega⟩
              have hq : (100 : Int32) ≤ nI q := hw_100l (by omega) (by omega)
              refine ⟨(-5), ?_, fun τ hd => ⟨τ, ?_, hd⟩⟩
              · rw [m11_order_b56, if_pos hq]
              · rw [m12_order_b41, if_pos hq]
            | succ dd ih =>
              intro q fuel fuel2 e hf1 hf2
              obtain ⟨fuel, rfl⟩ : ∃ k, fuel = k + 1 := ⟨fuel - 1, by omega⟩
              obtain ⟨fuel2, rfl⟩ : ∃ k, fuel2 = k + 1 := ⟨fuel2 - 1, by omega⟩
              have hq : q < 100 := by omega
              have nq : ¬ (100 : Int32) ≤ nI q := nI_ge hq (by decide)
              have cst : m11_order_b56 (fuel + 1) 0 k (some a) (nI q) σ1 = if nI (sp_fo (σ.2.2.1 42) l st h f q) = k then some (nI q, σ1) else m11_order_b56 fuel 0 k (some a) (nI (q + 1)) σ1 := by
                have t1 := sp_to_le hml st h f q
                rw [m11_order_b56, if_neg nq, hw_P_0_10 F1, Option.bind_some, hw_A_30 F1 hq, Option.bind_some, s3 q hq, hw_rv_at ((s2.lw hlw).q hl8).1, Option.bind_some, c3_formAt_e (s2.lw hlw) hl8 hq t1.2, Option.bind_some, nI_1]
                rfl
              have rst : ∀ τ, hw_d hw_scr σ τ → ∃ υ, hw_d hw_scr σ υ ∧ m12_order_b41 (fuel2 + 1) 41 (nI l) (nI st) d k (nI q) τ = if nI (sp_fo (σ.2.2.1 42) l st h f q) = k then some (nI q, υ) else m12_order_b41 fuel2 41 (nI l) (nI st) d k (nI (q + 1)) υ := by
                intro τ hd
                have e42 : τ.2.2.1 42 = σ.2.2.1 42 := hd.I (by omega)
                obtain ⟨υ, g1, g2⟩ := r_formOf (σ := τ) (l := l) (st := st) (h := h) (f := f) (p := q) (hd.F hF) (by rw [e42]; exact hml) (by rw [e42]; exact hms) h1 h2 h4 hq
                rw [e42] at g1
                refine ⟨υ, hd.tr (g2.mono hw_scr_45), ?_⟩
                rw [m12_order_b41, if_neg nq, ed, hw_dg1 h2 h4 h5, Option.bind_some, hw_dg2 h2 h4 h5, Option.bind_some, hw_dg3 h2 h4 h5, Option.bind_some, hw_V_41 (hd.F hF), Option.bind_some, g1, hw_b2s, nI_1]
              by_cases hc : nI (sp_fo (σ.2.2.1 42) l st h f q) = k
              · refine ⟨nI q, by rw [cst, if_pos hc], fun τ hd => ?_⟩
                obtain ⟨υ, u1, u2⟩ := rst τ hd
                exact ⟨υ, by rw [u2, if_pos hc], u1⟩
              · obtain ⟨r, r1, r2⟩ := ih (q + 1) fuel fuel2 (by omega) (by omega) (by omega)
                refine ⟨r, by rw [cst, if_neg hc]; exact r1, fun τ hd => ?_⟩
                obtain ⟨υ, u1, u2⟩ := rst τ hd
                obtain ⟨ω, k1, k2⟩ := r2 υ u1
                exact ⟨ω, by rw [u2, if_neg hc]; exact k1, k2⟩
          obtain ⟨r, r1, r2⟩ := key 100 0 hw_fu hw_fu (by decide) (by decide) (by decide)
          obtain ⟨υ, k1, k2⟩ := r2 σ1 s2
          refine ⟨r, σ1, υ, r1, ?_, k2.Jv hJ, F1⟩
          rw [← ed, ref σ1 s2, e12_isDoing_y hd, Option.bind_some, hw_if10, if_pos hk]
          exact k1
        · rw [if_neg hk]
          refine ⟨_, σ, σ, rfl, ?_, hJ, hF⟩
          rw [ref σ hw_d.rf, e12_isDoing_y hd, Option.bind_some, hw_if10, if_neg hk]
      · rw [e11_isDoing_n hd, Option.bind_some, hw_if00]
        refine ⟨_, σ, σ, rfl, ?_, hJ, hF⟩
        rw [ref σ hw_d.rf, e12_isDoing_n hd, Option.bind_some, hw_if00]
    · unfold m12_order m12_order_b16
      simp only [hw_V_0 hF, Option.bind_some, el, es, hw_ifs, hw_ifn]
      refine ⟨_, σ, σ, rfl, ?_, hJ, hF⟩
      simp only [hw_V_41 hF, Option.bind_some, ml σ hw_d.rf, ms σ hw_d.rf, hw_if10, if_true]
  · obtain ⟨es, hes⟩ : ∃ v, m11_stuffAt 0 y σ = some v := by
      rcases x_stuff hF hr y with ⟨st, sa, -, -, -, es, -⟩ | ⟨-, es, -⟩
      · exact ⟨_, es⟩
      · exact ⟨_, es⟩
    unfold m12_order m12_order_b16
    simp only [hw_V_0 hF, Option.bind_some, el, hes, hw_ifn]
    refine ⟨_, σ, σ, rfl, ?_, hJ, hF⟩
    simp only [hw_V_41 hF, Option.bind_some, ml σ hw_d.rf, if_true]
