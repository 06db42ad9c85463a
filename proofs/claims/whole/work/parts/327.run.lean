/-! the pure layer: runs -/
def sp_co (w : Nat → Int32) (l : Nat) : Nat := (w (164 + l)).toNatClampNeg
def sp_hp (w : Nat → Int32) (l : Nat) : Nat := (w (156 + l)).toNatClampNeg
def sp_dh (w : Nat → Int32) (t : Nat) : Nat := (w (1332 + t)).toNatClampNeg / 10000
def sp_df (w : Nat → Int32) (t : Nat) : Nat := (w (1332 + t)).toNatClampNeg / 100 % 100
def sp_dp (w : Nat → Int32) (t : Nat) : Nat := (w (1332 + t)).toNatClampNeg % 100
def sp_rh (w : Nat → Int32) (l : Nat) : Nat → Bool
  | 0 => false
  | t + 1 => sp_hi2 (sp_v w l) (sp_dh w t) (sp_rh w l t)
def sp_rs (w : Nat → Int32) (l st t : Nat) : Nat := if sp_k w l = 5 then min 99 (sp_s0 w st + sp_co w l * t) else sp_s0 w st
def sp_rt (w : Nat → Int32) (l st t : Nat) : Nat := sp_turns w l st (sp_dh w t) (sp_df w t) (sp_dp w t) (sp_rh w l (t + 1)) (sp_rs w l st t)
def sp_rf (w : Nat → Int32) (l st t : Nat) : Nat := sp_form w l (sp_dp w t) (sp_rt w l st t)
def sp_rq (w : Nat → Int32) (l st : Nat) : Nat → Nat
  | 0 => 0
  | t + 1 => if (if sp_rf w l st t = 0 then sp_rq w l st t + sp_df w t else if sp_rf w l st t = 4 then 0 else sp_rq w l st t) ≤ sp_hp w l then (if sp_rf w l st t = 0 then sp_rq w l st t + sp_df w t else if sp_rf w l st t = 4 then 0 else sp_rq w l st t) else 0
def sp_rb (w : Nat → Int32) (l st t : Nat) : Nat := if sp_rf w l st t = 0 then sp_rq w l st t + sp_df w t else if sp_rf w l st t = 4 then 0 else sp_rq w l st t
def sp_ro (w : Nat → Int32) (l st : Nat) : Nat → Nat
  | 0 => 0
  | t + 1 => sp_ro w l st t + (if sp_rb w l st t ≤ sp_hp w l then 0 else 1)
theorem sp_rq_s (w : Nat → Int32) (l st t : Nat) : sp_rq w l st (t + 1) = if sp_rb w l st t ≤ sp_hp w l then sp_rb w l st t else 0 := rfl
theorem sp_ro_s (w : Nat → Int32) (l st t : Nat) : sp_ro w l st (t + 1) = sp_ro w l st t + (if sp_rb w l st t ≤ sp_hp w l then 0 else 1) := rfl
theorem sp_ro_le (w : Nat → Int32) (l st : Nat) : ∀ t, sp_ro w l st t ≤ t
  | 0 => Nat.le_refl 0
  | t + 1 => by
    have := sp_ro_le w l st t
    rw [sp_ro_s]
    split <;> omega
theorem hw_ml.hc {w : Nat → Int32} {l : Nat} (h : hw_ml w l) : sp_hp w l < 100 ∧ w (156 + l) = nI (sp_hp w l) ∧ sp_co w l < 100 ∧ w (164 + l) = nI (sp_co w l) := by
  obtain ⟨hl, k, v, n, hp, co, c, h1, h2, h3, h4, h5, h6, h7, h8, h9, h10, -⟩ := h
  unfold sp_hp sp_co
  rw [h9, h10, nI_clamp (by omega), nI_clamp (by omega)]
  exact ⟨h5, rfl, h6, rfl⟩
/-- a doing of the run -/
theorem hw_rd {w : Nat → Int32} {t : Nat} (h : hw_dok (w (1332 + t))) : 1 ≤ sp_dh w t ∧ sp_dh w t ≤ 60 ∧ 1 ≤ sp_df w t ∧ sp_df w t ≤ 20 ∧ sp_dp w t < 100 ∧ w (1332 + t) = nI (hw_dg (sp_dh w t) (sp_df w t) (sp_dp w t)) := by
  obtain ⟨h, f, p, h1, h2, h3, h4, h5, e⟩ := h
  have hb : hw_dg h f p < 2 ^ 31 := by unfold hw_dg; omega
  unfold sp_dh sp_df sp_dp
  rw [e, nI_clamp hb, hw_dg_h h4 h5, hw_dg_f h4 h5, hw_dg_p h5]
  exact ⟨h1, h2, h3, h4, h5, rfl⟩
theorem sp_rs_le {w : Nat → Int32} {l st : Nat} (hs : hw_ms w st) (t : Nat) : 1 ≤ sp_rs w l st t ∧ sp_rs w l st t ≤ 99 ∧ (sp_k w l ≠ 5 → sp_rs w l st t = sp_s0 w st) := by
  have h := hs.s
  unfold sp_rs
  by_cases hk : sp_k w l = 5
  · rw [if_pos hk]
    exact ⟨by rw [Nat.le_min]; omega, Nat.min_le_left _ _, fun c => absurd hk c⟩
  · rw [if_neg hk]
    exact ⟨h.1, by omega, fun _ => rfl⟩
theorem sp_rq_le {w : Nat → Int32} {l : Nat} (hl : hw_ml w l) (st : Nat) : ∀ t, sp_rq w l st t ≤ 99
  | 0 => Nat.zero_le _
  | t + 1 => by
    have := hl.hc.1
    rw [sp_rq_s]
    split <;> omega
theorem sp_rb_le {w : Nat → Int32} {l : Nat} (hl : hw_ml w l) (st t : Nat) (hf : sp_df w t ≤ 20) : sp_rb w l st t ≤ 119 := by
  have := sp_rq_le hl st t
  unfold sp_rb
  split
  · omega
  · split <;> omega
theorem c_stiffAt {σ : hw_S} {w : Nat → Int32} {a sa l st t : Nat} (hl8 : l < 8) (hl : hw_lw σ (some a) l w) (hs5 : st < 5) (hsf : hw_sf σ (some sa) (w (130 + st)) (w (135 + st))) (ht : t ≤ 20) : mv_stiffAt a (some sa) (nI t) σ = some (nI (sp_rs w l st t)) := by
  have hs0 := (hsf.ms hs5).s
  have hg := hw_gs0 hs5 hsf
  have hq := hl.q hl8
  have hk := (hl.ml hl8).k
  have hc := (hl.ml hl8).hc
  have e3 : m3_stiffAt a (some sa) (nI t) σ = some (nI (sp_s0 w st)) := by
    unfold m3_stiffAt
    rw [hg, Option.bind_some]
  have gt := hq.2.2.1
  unfold sp_rs
  have hk6 := hk.1
  generalize sp_k w l = k at gt hk6
  match k, hk6 with
  | 0, _ => rw [if_neg (by decide), ← e3]; exact mv_stiffAt_3 gt
  | 1, _ => rw [if_neg (by decide), ← e3]; exact mv_stiffAt_7 gt
  | 2, _ => rw [if_neg (by decide), ← e3]; exact mv_stiffAt_2 gt
  | 3, _ => rw [if_neg (by decide), ← e3]; exact mv_stiffAt_1 gt
  | 4, _ => rw [if_neg (by decide), ← e3]; exact mv_stiffAt_0 gt
  | 5, _ =>
    rw [if_pos rfl, mv_stiffAt_6 gt]
    have i4 : σ.2.2.1 a 4 = nI (sp_co w l) := by
      obtain ⟨a', af, ac, as, k, v, n, hp', co, e, -, -, -, -, -, -, -, -, -, -, -, -, -, -, w164, -, -, -, -, -, i4, -⟩ := hl
      cases e
      rw [i4, ← w164, hc.2.2.2]
    have m1 : sp_co w l * t ≤ 99 * 20 := hw_mulle (by omega) ht
    unfold m6_stiffAt
    rw [hg, Option.bind_some, hw_gI_at hq.1 i4, Option.bind_some, nI_mul, nI_add]
    exact congrArg some (hw_minN (a := 99) (by decide) (by omega))
  | 6, _ => rw [if_neg (by decide), ← e3]; exact mv_stiffAt_5 gt
theorem e11_heapBehind {q f k : Nat} (hk : k ≤ 4) : m11_heapBehind (nI q) (nI k) (nI f) = some (nI (if k = 0 then q + f else if k = 4 then 0 else q)) := by
  unfold m11_heapBehind m11_heapBehind_b18
  match k, hk with
  | 0, _ => rw [if_pos (show nI 0 = 0 from rfl), nI_add]; rfl
  | 1, _ => rw [if_neg (show ¬ nI 1 = 0 by decide), if_neg (show ¬ nI 1 = 4 by decide)]; rfl
  | 2, _ => rw [if_neg (show ¬ nI 2 = 0 by decide), if_neg (show ¬ nI 2 = 4 by decide)]; rfl
  | 3, _ => rw [if_neg (show ¬ nI 3 = 0 by decide), if_neg (show ¬ nI 3 = 4 by decide)]; rfl
  | 4, _ => rw [if_neg (show ¬ nI 4 = 0 by decide), if_pos (show nI 4 = 4 from rfl)]; rfl
def hw_acr (a _k : Nat) : Prop := a = 25 ∨ a = 26 ∨ a = 27
theorem hw_acr_s : ∀ a k, hw_acr a k → hw_scr a k := fun a k h => by unfold hw_acr at h; unfold hw_scr; omega
theorem c_run {σ : hw_S} {c0 c1 c2 c3 c4 c5 a sa l st : Nat} (hF : hw_F σ) (hr : hw_rel σ 1 (σ.2.2.1 42) c0 c1 c2 c3 c4 c5) (hl8 : l < 8) (hl : hw_lw σ (some a) l (σ.2.2.1 42)) (hs5 : st < 5) (hsf : hw_sf σ (some sa) (σ.2.2.1 42 (130 + st)) (σ.2.2.1 42 (135 + st))) :
    ∃ σ1, m11_goThroughRun 0 (some a) (some sa) σ = some (nI (sp_ro (σ.2.2.1 42) l st c3), σ1) ∧ hw_d hw_acr σ σ1 ∧ ∀ q, q < c3 → σ1.2.2.1 26 q = nI (sp_rt (σ.2.2.1 42) l st q) ∧ σ1.2.2.1 25 q = nI (sp_rf (σ.2.2.1 42) l st q) ∧ σ1.2.2.1 27 q = nI (sp_rq (σ.2.2.1 42) l st (q + 1)) := by
  have s3 : σ.2.2.1 1 7 = nI c3 := hr.2.2.1.2.2.2.1
  have b3 : c3 ≤ 20 := hr.1.2.2.2.1
  have htk : ∀ i, i < c3 → σ.2.2.1 5 i = σ.2.2.1 42 (1332 + i) ∧ hw_dok (σ.2.2.1 42 (1332 + i)) := hr.2.2.2.2.2.2.1
  have hml := hl.ml hl8
  have hms := hsf.ms hs5
  have hc := hml.hc
  have key : ∀ d t fuel ρ, t + d = c3 → d < fuel → hw_d hw_acr σ ρ → (∀ q, q < t → ρ.2.2.1 26 q = nI (sp_rt (σ.2.2.1 42) l st q) ∧ ρ.2.2.1 25 q = nI (sp_rf (σ.2.2.1 42) l st q) ∧ ρ.2.2.1 27 q = nI (sp_rq (σ.2.2.1 42) l st (q + 1))) → ∃ σ1, m11_goThroughRun_b11 fuel 0 (some a) (some sa) (nI (hw_bn (sp_rh (σ.2.2.1 42) l t))) (nI (sp_rq (σ.2.2.1 42) l st t)) (nI (sp_ro (σ.2.2.1 42) l st t)) (nI t) ρ = some (nI (sp_ro (σ.2.2.1 42) l st c3), σ1) ∧ hw_d hw_acr σ σ1 ∧ ∀ q, q < c3 → σ1.2.2.1 26 q = nI (sp_rt (σ.2.2.1 42) l st q) ∧ σ1.2.2.1 25 q = nI (sp_rf (σ.2.2.1 42) l st q) ∧ σ1.2.2.1 27 q = nI (sp_rq (σ.2.2.1 42) l st (q + 1)) := by
    intro d
    induction d with
    | zero =>
      intro t fuel ρ e hfu hd h2
      obtain ⟨fuel, rfl⟩ : ∃ k, fuel = k + 1 := ⟨fuel - 1, by omega⟩
      have e : t = c3 := e
      have Fρ := (hd.mono hw_acr_s).F hF
      refine ⟨ρ, ?_, hd, fun q hq => h2 q (by omega)⟩
      rw [m11_goThroughRun_b11, hw_P_0_0 Fρ, Option.bind_some, hw_G_1 Fρ, Option.bind_some, hd.2.2.2 1 7 (by unfold hw_acr; omega), s3, if_pos (nI_le (by omega) (by omega)), e]
    | succ d ih =>
      intro t fuel ρ e hfu hd h2
      obtain ⟨fuel, rfl⟩ : ∃ k, fuel = k + 1 := ⟨fuel - 1, by omega⟩
      have ht : t < c3 := by omega
      have hds := hd.mono hw_acr_s
      have Fρ := hds.F hF
      have hlρ := hds.lw hl
      have hsρ := hds.sf hsf
      have hqρ := (hlρ.q hl8).1
      obtain ⟨r1, r2, r3, r4, r5, r6⟩ := hw_rd (htk t ht).2
      have hb : hw_dg (sp_dh (σ.2.2.1 42) t) (sp_df (σ.2.2.1 42) t) (sp_dp (σ.2.2.1 42) t) < 2 ^ 31 := by unfold hw_dg; omega
      have hsd := sp_rs_le (l := l) hms t
      have tle : sp_rt (σ.2.2.1 42) l st t ≤ 999 := (sp_turns_le hml _ _ _ _ _ _).2
      have fle : sp_rf (σ.2.2.1 42) l st t ≤ 4 := sp_form_le _ _ _ _
      have e5 : ρ.2.2.1 5 t = nI (hw_dg (sp_dh (σ.2.2.1 42) t) (sp_df (σ.2.2.1 42) t) (sp_dp (σ.2.2.1 42) t)) := by
        rw [hd.2.2.2 5 t (by unfold hw_acr; omega), (htk t ht).1, r6]
      have tn : m3_turnsIn a (some sa) (nI (sp_rs (σ.2.2.1 42) l st t)) (nI (hw_dg (sp_dh (σ.2.2.1 42) t) (sp_df (σ.2.2.1 42) t) (sp_dp (σ.2.2.1 42) t))) (nI (hw_bn (sp_hi2 (sp_v (σ.2.2.1 42) l) (sp_dh (σ.2.2.1 42) t) (sp_rh (σ.2.2.1 42) l t)))) ρ = some (nI (sp_rt (σ.2.2.1 42) l st t)) := c3_turnsIn_e hl8 hs5 hlρ hsρ r2 r4 r5 hsd.2.1 hsd.2.2
      have i3 : ρ.2.2.1 a 3 = nI (sp_hp (σ.2.2.1 42) l) := by
        obtain ⟨a', af, ac, as, k, v, n, hp', co, e, -, -, -, -, -, -, -, -, -, -, -, -, -, w156, -, -, -, -, -, i3, -⟩ := hlρ
        cases e
        rw [i3, ← w156, hc.2.1]
      have fm := c3_formAt_e hlρ hl8 r5 tle
      have fin : ∀ hp' to', nI hp' = nI (sp_rq (σ.2.2.1 42) l st (t + 1)) → to' = nI (sp_ro (σ.2.2.1 42) l st (t + 1)) → ∃ σ1, m11_goThroughRun_b105 (m11_goThroughRun_b11 fuel) 0 (some a) (some sa) (nI (hw_bn (sp_rh (σ.2.2.1 42) l (t + 1)))) (nI hp') to' (nI t) (nI (sp_rt (σ.2.2.1 42) l st t)) (nI (sp_rf (σ.2.2.1 42) l st t)) ρ = some (nI (sp_ro (σ.2.2.1 42) l st c3), σ1) ∧ hw_d hw_acr σ σ1 ∧ ∀ q, q < c3 → σ1.2.2.1 26 q = nI (sp_rt (σ.2.2.1 42) l st q) ∧ σ1.2.2.1 25 q = nI (sp_rf (σ.2.2.1 42) l st q) ∧ σ1.2.2.1 27 q = nI (sp_rq (σ.2.2.1 42) l st (q + 1)) := by
        intro hp' to' e1 e2
        rw [e1, e2]
        have F1 : hw_F (hw_wI 26 t (nI (sp_rt (σ.2.2.1 42) l st t)) ρ) := Fρ
        have F2 : hw_F (hw_wI 25 t (nI (sp_rf (σ.2.2.1 42) l st t)) (hw_wI 26 t (nI (sp_rt (σ.2.2.1 42) l st t)) ρ)) := Fρ
        obtain ⟨σ1, g1, g2, g3⟩ := ih (t + 1) fuel (hw_wI 27 t (nI (sp_rq (σ.2.2.1 42) l st (t + 1))) (hw_wI 25 t (nI (sp_rf (σ.2.2.1 42) l st t)) (hw_wI 26 t (nI (sp_rt (σ.2.2.1 42) l st t)) ρ))) (by omega) (by omega) (((hd.tr (hw_d.wI (Or.inr (Or.inl rfl)))).tr (hw_d.wI (Or.inl rfl))).tr (hw_d.wI (Or.inr (Or.inr rfl)))) (fun q hq => by
          by_cases hqp : q = t
          · rw [hqp]
            refine ⟨?_, ?_, ?_⟩
            · rw [hw_wI_3, if_neg (fun c => by omega), hw_wI_3, if_neg (fun c => by omega), hw_wI_3, if_pos ⟨rfl, rfl⟩]
            · rw [hw_wI_3, if_neg (fun c => by omega), hw_wI_3, if_pos ⟨rfl, rfl⟩]
            · rw [hw_wI_3, if_pos ⟨rfl, rfl⟩]
          · have := h2 q (by omega)
            refine ⟨?_, ?_, ?_⟩
            · rw [hw_wI_3, if_neg (fun c => hqp c.2), hw_wI_3, if_neg (fun c => hqp c.2), hw_wI_3, if_neg (fun c => hqp c.2)]; exact this.1
            · rw [hw_wI_3, if_neg (fun c => hqp c.2), hw_wI_3, if_neg (fun c => hqp c.2), hw_wI_3, if_neg (fun c => hqp c.2)]; exact this.2.1
            · rw [hw_wI_3, if_neg (fun c => hqp c.2), hw_wI_3, if_neg (fun c => hqp c.2), hw_wI_3, if_neg (fun c => hqp c.2)]; exact this.2.2)
        refine ⟨σ1, ?_, g2, g3⟩
        unfold m11_goThroughRun_b105
        rw [hw_P_0_6 Fρ, Option.bind_some, hw_B_26 Fρ (by omega), Option.bind_some, hw_P_0_5 F1, Option.bind_some, hw_B_25 F1 (by omega), Option.bind_some, hw_P_0_7 F2, Option.bind_some, hw_B_27 F2 (by omega), Option.bind_some, nI_1]
        exact g1
      have ble := sp_rb_le hml st t r4
      rw [m11_goThroughRun_b11, hw_P_0_0 Fρ, Option.bind_some, hw_G_1 Fρ, Option.bind_some, hd.2.2.2 1 7 (by unfold hw_acr; omega), s3, if_neg (nI_ge ht (by omega)), Option.bind_some, hw_P_1_6 Fρ, Option.bind_some, hw_A_5 Fρ (by omega), Option.bind_some, e5, e11_heightOf hb, Option.bind_some, hw_dg_h r4 r5, hw_rv_at hqρ, Option.bind_some, c3_isHighAfter_e hlρ hl8 r2, Option.bind_some, Option.bind_some, c_stiffAt hl8 hlρ hs5 hsρ (by omega), Option.bind_some, hw_rv_at hqρ, Option.bind_some, tn, Option.bind_some, e11_paceOf hb, Option.bind_some, hw_dg_p r5, Option.bind_some, fm, Option.bind_some, e11_flowOf hb, Option.bind_some, hw_dg_f r4 r5, show sp_form (σ.2.2.1 42) l (sp_dp (σ.2.2.1 42) t) (sp_rt (σ.2.2.1 42) l st t) = sp_rf (σ.2.2.1 42) l st t from rfl, e11_heapBehind fle, Option.bind_some, hw_gI_at hqρ i3, Option.bind_some]
      rw [show (if sp_rf (σ.2.2.1 42) l st t = 0 then sp_rq (σ.2.2.1 42) l st t + sp_df (σ.2.2.1 42) t else if sp_rf (σ.2.2.1 42) l st t = 4 then 0 else sp_rq (σ.2.2.1 42) l st t) = sp_rb (σ.2.2.1 42) l st t from rfl]
      by_cases hb2 : sp_rb (σ.2.2.1 42) l st t ≤ sp_hp (σ.2.2.1 42) l
      · rw [if_pos (nI_le hb2 (by omega))]
        exact fin _ _ (by rw [sp_rq_s, if_pos hb2]) (by rw [sp_ro_s, if_pos hb2]; rfl)
      · rw [if_neg (nI_ge (by omega) (by omega))]
        exact fin 0 _ (by rw [sp_rq_s, if_neg hb2]) (by rw [sp_ro_s, if_neg hb2, nI_1])
  obtain ⟨σ1, g1, g2, g3⟩ := key c3 0 hw_fu σ (by omega) (by show c3 < 4000; omega) hw_d.rf (fun q hq => absurd hq (Nat.not_lt_zero q))
  exact ⟨σ1, g1, g2, g3⟩
