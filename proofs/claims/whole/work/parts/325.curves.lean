/-! the pure layer: curves -/
/-- whether it is high behind h steps up from 1, and down from 60 -/
def sp_up (w : Nat → Int32) (l : Nat) : Nat → Bool
  | 0 => false
  | h + 1 => sp_hi2 (sp_v w l) (h + 1) (sp_up w l h)
def sp_dn (w : Nat → Int32) (l : Nat) : Nat → Bool
  | 0 => true
  | d + 1 => sp_hi2 (sp_v w l) (60 - d) (sp_dn w l d)
def sp_cu (w : Nat → Int32) (l st f h : Nat) : Nat := sp_turns w l st h f 0 (sp_up w l h) (sp_s0 w st)
def sp_cd (w : Nat → Int32) (l st f h : Nat) : Nat := sp_turns w l st h f 0 (sp_dn w l (61 - h)) (sp_s0 w st)
theorem hw_gs0 {σ : hw_S} {w : Nat → Int32} {sa st : Nat} (hs5 : st < 5) (hs : hw_sf σ (some sa) (w (130 + st)) (w (135 + st))) : hw_gI (hw_q 9) 0 (some sa) σ = some (nI (sp_s0 w st)) := by
  have hs0 := (hs.ms hs5).s
  obtain ⟨sa', x, y, e, -, gs, -, -, s1, s2, s3, s4⟩ := id hs
  cases e
  exact hw_gI_at (by rw [gs]; decide) (s1.trans (s3.symm.trans hs0.2.2))
def hw_a28 (a _k : Nat) : Prop := a = 28
def hw_a29 (a _k : Nat) : Prop := a = 29
theorem hw_a28_s : ∀ a k, hw_a28 a k → hw_scr a k := fun a k h => by unfold hw_a28 at h; unfold hw_scr; omega
theorem hw_a29_s : ∀ a k, hw_a29 a k → hw_scr a k := fun a k h => by unfold hw_a29 at h; unfold hw_scr; omega
theorem c_goUp {σ : hw_S} {w : Nat → Int32} {a sa l st f : Nat} (hF : hw_F σ) (hl8 : l < 8) (hl : hw_lw σ (some a) l w) (hs5 : st < 5) (hsf : hw_sf σ (some sa) (w (130 + st)) (w (135 + st))) (hf : f ≤ 20) :
    ∃ σ1, m11_goUp 0 (some a) (some sa) (nI f) σ = some σ1 ∧ hw_d hw_a28 σ σ1 ∧ ∀ h, 1 ≤ h → h ≤ 60 → σ1.2.2.1 28 h = nI (sp_cu w l st f h) := by
  have hs0 := (hsf.ms hs5).s
  have key : ∀ d h fuel ρ, h + d = 60 → d < fuel → hw_d hw_a28 σ ρ → (∀ q, 1 ≤ q → q ≤ h → ρ.2.2.1 28 q = nI (sp_cu w l st f q)) → ∃ σ1, m11_goUp_b6 fuel 0 (some a) (some sa) (nI f) (nI (hw_bn (sp_up w l h))) (nI (h + 1)) ρ = some σ1 ∧ hw_d hw_a28 σ σ1 ∧ ∀ q, 1 ≤ q → q ≤ 60 → σ1.2.2.1 28 q = nI (sp_cu w l st f q) := by
    intro d
    induction d with
    | zero =>
      intro h fuel ρ e hfu hd h2
      obtain ⟨fuel, rfl⟩ : ∃ k, fuel = k + 1 := ⟨fuel - 1, by omega⟩
      refine ⟨ρ, ?_, hd, fun q hq hq2 => h2 q hq (by omega)⟩
      rw [m11_goUp_b6, if_pos (hw_60l (h := (h + 1)) (by omega) (by omega))]
    | succ d ih =>
      intro h fuel ρ e hfu hd h2
      obtain ⟨fuel, rfl⟩ : ∃ k, fuel = k + 1 := ⟨fuel - 1, by omega⟩
      have hds := hd.mono hw_a28_s
      have Fρ := hds.F hF
      have hlρ := hds.lw hl
      have hsρ := hds.sf hsf
      have hb : h + 1 < 61 := by omega
      obtain ⟨σ1, g1, g2, g3⟩ := ih (h + 1) fuel (hw_wI 28 (h + 1) (nI (sp_cu w l st f (h + 1))) ρ) (by omega) (by omega) (hd.tr (hw_d.wI rfl)) (fun q hq hq2 => by
        rw [hw_wI_3]
        by_cases hqp : q = h + 1
        · rw [if_pos ⟨rfl, hqp⟩, hqp]
        · rw [if_neg (fun c => hqp c.2)]
          exact h2 q hq (by omega))
      refine ⟨σ1, ?_, g2, g3⟩
      rw [m11_goUp_b6, if_neg (hw_60n (h := (h + 1)) (by omega)), hw_rv_at (hlρ.q hl8).1, Option.bind_some, c3_isHighAfter_e hlρ hl8 (by omega), Option.bind_some, hw_P_0_8 Fρ, Option.bind_some, hw_gs0 hs5 hsρ, Option.bind_some, e11_doingOf, Option.bind_some, Option.bind_some, c3_turnsIn_e (p := 0) hl8 hs5 hlρ hsρ (by omega) hf (by decide) (by omega) (fun _ => rfl), Option.bind_some, hw_B_28 Fρ hb, Option.bind_some, nI_1 (h + 1)]
      exact g1
  obtain ⟨σ1, g1, g2, g3⟩ := key 60 0 hw_fu σ (by decide) (by decide) hw_d.rf (fun q hq hq2 => by omega)
  exact ⟨σ1, g1, g2, g3⟩
theorem c_goDown {σ : hw_S} {w : Nat → Int32} {a sa l st f : Nat} (hF : hw_F σ) (hl8 : l < 8) (hl : hw_lw σ (some a) l w) (hs5 : st < 5) (hsf : hw_sf σ (some sa) (w (130 + st)) (w (135 + st))) (hf : f ≤ 20) :
    ∃ σ1, m11_goDown 0 (some a) (some sa) (nI f) σ = some σ1 ∧ hw_d hw_a29 σ σ1 ∧ ∀ h, 1 ≤ h → h ≤ 60 → σ1.2.2.1 29 h = nI (sp_cd w l st f h) := by
  have hs0 := (hsf.ms hs5).s
  have key : ∀ h d fuel ρ, h + d = 60 → h < fuel → hw_d hw_a29 σ ρ → (∀ q, h < q → q ≤ 60 → ρ.2.2.1 29 q = nI (sp_cd w l st f q)) → ∃ σ1, m11_goDown_b7 fuel 0 (some a) (some sa) (nI f) (nI (hw_bn (sp_dn w l d))) (nI h) ρ = some σ1 ∧ hw_d hw_a29 σ σ1 ∧ ∀ q, 1 ≤ q → q ≤ 60 → σ1.2.2.1 29 q = nI (sp_cd w l st f q) := by
    intro h
    induction h with
    | zero =>
      intro d fuel ρ e hfu hd h2
      obtain ⟨fuel, rfl⟩ : ∃ k, fuel = k + 1 := ⟨fuel - 1, by omega⟩
      refine ⟨ρ, ?_, hd, fun q hq hq2 => h2 q (by omega) hq2⟩
      rw [m11_goDown_b7, if_pos (show nI 0 < (1 : Int32) from by decide)]
    | succ h ih =>
      intro d fuel ρ e hfu hd h2
      obtain ⟨fuel, rfl⟩ : ∃ k, fuel = k + 1 := ⟨fuel - 1, by omega⟩
      have hds := hd.mono hw_a29_s
      have Fρ := hds.F hF
      have hlρ := hds.lw hl
      have hsρ := hds.sf hsf
      have hb : h + 1 < 61 := by omega
      have ed : sp_dn w l (d + 1) = sp_hi2 (sp_v w l) (h + 1) (sp_dn w l d) := by
        show sp_hi2 (sp_v w l) (60 - d) (sp_dn w l d) = _
        rw [show 60 - d = h + 1 by omega]
      have ec : sp_cd w l st f (h + 1) = sp_turns w l st (h + 1) f 0 (sp_hi2 (sp_v w l) (h + 1) (sp_dn w l d)) (sp_s0 w st) := by
        unfold sp_cd
        rw [show 61 - (h + 1) = d + 1 by omega, ed]
      obtain ⟨σ1, g1, g2, g3⟩ := ih (d + 1) fuel (hw_wI 29 (h + 1) (nI (sp_cd w l st f (h + 1))) ρ) (by omega) (by omega) (hd.tr (hw_d.wI rfl)) (fun q hq hq2 => by
        rw [hw_wI_3]
        by_cases hqp : q = h + 1
        · rw [if_pos ⟨rfl, hqp⟩, hqp]
        · rw [if_neg (fun c => hqp c.2)]
          exact h2 q (by omega) hq2)
      rw [ed, ec] at g1
      refine ⟨σ1, ?_, g2, g3⟩
      rw [m11_goDown_b7, if_neg (show ¬ nI (h + 1) < (1 : Int32) from nI_nlt (b := 1) (by omega) (by omega)), hw_rv_at (hlρ.q hl8).1, Option.bind_some, c3_isHighAfter_e hlρ hl8 (by omega), Option.bind_some, hw_P_0_9 Fρ, Option.bind_some, hw_gs0 hs5 hsρ, Option.bind_some, e11_doingOf, Option.bind_some, Option.bind_some, c3_turnsIn_e (p := 0) hl8 hs5 hlρ hsρ (by omega) hf (by decide) (by omega) (fun _ => rfl), Option.bind_some, hw_B_29 Fρ hb, Option.bind_some, pk_m1]
      exact g1
  obtain ⟨σ1, g1, g2, g3⟩ := key 60 0 hw_fu σ (by decide) (by decide) hw_d.rf (fun q hq hq2 => by omega)
  exact ⟨σ1, g1, g2, g3⟩
/-- places that the model's curves write -/
def hw_acv (a k : Nat) : Prop := a = 44 ∨ a = 45 ∨ a = 49 ∨ a = 50 ∨ (a = 41 ∧ k = 15)
theorem hw_acv_s : ∀ a k, hw_acv a k → hw_scr a k := fun a k h => by unfold hw_acv at h; unfold hw_scr; omega
theorem r_curves {σ : hw_S} {l st f : Nat} (hF : hw_F σ) (hl : hw_ml (σ.2.2.1 42) l) (hs : hw_ms (σ.2.2.1 42) st) (hf : f ≤ 20) :
    ∃ τ, m12_curves 41 (nI l) (nI st) (nI f) σ = some τ ∧ hw_d hw_acv σ τ ∧ ∀ h, 1 ≤ h → h ≤ 60 → τ.2.2.1 49 h = nI (sp_cu (σ.2.2.1 42) l st f h) ∧ τ.2.2.1 50 h = nI (sp_cd (σ.2.2.1 42) l st f h) := by
  have hs0 := hs.s
  have hs5 := hs.1
  have e3 : (130 : Int32) + nI st = nI (130 + st) := nI_add 130 st
  have I42 : ∀ {τ}, hw_d hw_acv σ τ → τ.2.2.1 42 = σ.2.2.1 42 := fun hd => funext fun k => hd.2.2.2 42 k (by unfold hw_acv; omega)
  have mono : ∀ a k, hw_a4445 a k → hw_acv a k := fun a k h => by unfold hw_a4445 at h; unfold hw_acv; omega
  have down : ∀ h d fuel ρ, h + d = 60 → h < fuel → hw_d hw_acv σ ρ → ρ.2.2.1 41 15 = nI (hw_bn (sp_dn (σ.2.2.1 42) l d)) → (∀ q, 1 ≤ q → q ≤ 60 → ρ.2.2.1 49 q = nI (sp_cu (σ.2.2.1 42) l st f q)) → (∀ q, h < q → q ≤ 60 → ρ.2.2.1 50 q = nI (sp_cd (σ.2.2.1 42) l st f q)) → ∃ τ, m12_curves_b72 fuel 41 (nI l) (nI st) (nI f) (nI h) ρ = some τ ∧ hw_d hw_acv σ τ ∧ ∀ h, 1 ≤ h → h ≤ 60 → τ.2.2.1 49 h = nI (sp_cu (σ.2.2.1 42) l st f h) ∧ τ.2.2.1 50 h = nI (sp_cd (σ.2.2.1 42) l st f h) := by
    intro h
    induction h with
    | zero =>
      intro d fuel ρ e hfu hd hb hu h2
      obtain ⟨fuel, rfl⟩ : ∃ k, fuel = k + 1 := ⟨fuel - 1, by omega⟩
      refine ⟨ρ, ?_, hd, fun q hq hq2 => ⟨hu q hq hq2, h2 q (by omega) hq2⟩⟩
      rw [m12_curves_b72, if_pos (show nI 0 < (1 : Int32) from by decide)]
    | succ h ih =>
      intro d fuel ρ e hfu hd hb hu h2
      obtain ⟨fuel, rfl⟩ : ∃ k, fuel = k + 1 := ⟨fuel - 1, by omega⟩
      have Fρ := hd.F hF
      have eρ := I42 hd
      have ed : sp_dn (σ.2.2.1 42) l (d + 1) = sp_hi2 (sp_v (σ.2.2.1 42) l) (h + 1) (sp_dn (σ.2.2.1 42) l d) := by
        show sp_hi2 (sp_v (σ.2.2.1 42) l) (60 - d) (sp_dn (σ.2.2.1 42) l d) = _
        rw [show 60 - d = h + 1 by omega]
      have ec : sp_cd (σ.2.2.1 42) l st f (h + 1) = sp_turns (σ.2.2.1 42) l st (h + 1) f 0 (sp_dn (σ.2.2.1 42) l (d + 1)) (sp_s0 (σ.2.2.1 42) st) := by
        unfold sp_cd
        rw [show 61 - (h + 1) = d + 1 by omega]
      have bh := r_becomesHigh_e (h := h + 1) (b := sp_dn (σ.2.2.1 42) l d) Fρ (by rw [eρ]; exact hl) hb (by omega)
      rw [eρ, ← ed] at bh
      have d1 : hw_d hw_acv σ (hw_wI 41 15 (nI (hw_bn (sp_dn (σ.2.2.1 42) l (d + 1)))) ρ) := hd.tr (hw_d.wI (by unfold hw_acv; omega))
      have F1 := d1.F hF
      have e1 := I42 d1
      have b1 : (hw_wI 41 15 (nI (hw_bn (sp_dn (σ.2.2.1 42) l (d + 1)))) ρ).2.2.1 41 15 = nI (hw_bn (sp_dn (σ.2.2.1 42) l (d + 1))) := by rw [hw_wI_3, if_pos ⟨rfl, rfl⟩]
      have u1 : ∀ a q, a ≠ 41 → (hw_wI 41 15 (nI (hw_bn (sp_dn (σ.2.2.1 42) l (d + 1)))) ρ).2.2.1 a q = ρ.2.2.1 a q := fun a q ha => by rw [hw_wI_3, if_neg (fun c => ha c.1)]
      have w1 := hw_W_41 (k := 15) (v := nI (hw_bn (sp_dn (σ.2.2.1 42) l (d + 1)))) Fρ
      generalize hw_wI 41 15 (nI (hw_bn (sp_dn (σ.2.2.1 42) l (d + 1)))) ρ = ρ1 at d1 F1 e1 b1 u1 w1
      obtain ⟨τ, t1, t2⟩ := r_turnsAs (σ := ρ1) (l := l) (st := st) (h := h + 1) (f := f) (p := 0) (stf := sp_s0 (σ.2.2.1 42) st) (hi := sp_dn (σ.2.2.1 42) l (d + 1)) F1 (by rw [e1]; exact hl) (by rw [e1]; exact hs) (by omega) (by omega) hf hs0.1 (by omega)
      rw [e1, ← ec] at t1
      have d2 := d1.tr (t2.mono mono)
      have F2 := d2.F hF
      have k2 : ∀ a q, a ≠ 44 → a ≠ 45 → τ.2.2.1 a q = ρ1.2.2.1 a q := fun a q h4 h5 => t2.2.2.2 a q (by unfold hw_a4445; omega)
      obtain ⟨υ, g1, g2, g3⟩ := ih (d + 1) fuel (hw_wI 50 (h + 1) (nI (sp_cd (σ.2.2.1 42) l st f (h + 1))) τ) (by omega) (by omega) (d2.tr (hw_d.wI (by unfold hw_acv; omega))) (by rw [hw_wI_3, if_neg (fun c => by omega), k2 41 15 (by decide) (by decide), b1]) (fun q hq hq2 => by rw [hw_wI_3, if_neg (fun c => by omega), k2 49 q (by decide) (by decide), u1 49 q (by decide)]; exact hu q hq hq2) (fun q hq hq2 => by
        rw [hw_wI_3]
        by_cases hqp : q = h + 1
        · rw [if_pos ⟨rfl, hqp⟩, hqp]
        · rw [if_neg (fun c => hqp c.2), k2 50 q (by decide) (by decide), u1 50 q (by decide)]
          exact h2 q (by omega) hq2)
      refine ⟨υ, ?_, g2, g3⟩
      have t1 : m12_turnsAs 41 (nI l) (nI st) (nI (h + 1)) (nI f) (0 : Int32) (nI (hw_bn (sp_dn (σ.2.2.1 42) l (d + 1)))) (nI (sp_s0 (σ.2.2.1 42) st)) ρ1 = _ := t1
      rw [m12_curves_b72, if_neg (show ¬ nI (h + 1) < (1 : Int32) from nI_nlt (b := 1) (by omega) (by omega)), hw_V_41 Fρ, Option.bind_some, bh, Option.bind_some, hw_tfb, Option.bind_some, w1, Option.bind_some, hw_P_41_17 F1, Option.bind_some, hw_G_41 F1, Option.bind_some, b1, hw_P_41_1 F1, Option.bind_some, e3, hw_A_42 F1 (by omega), Option.bind_some, e1, hs0.2.2, hw_V_41 F1, Option.bind_some, t1, hw_b2s, hw_B_50 F2 (by omega), Option.bind_some, pk_m1]
      exact g1
  have up : ∀ d h fuel ρ, h + d = 60 → d < fuel → hw_d hw_acv σ ρ → ρ.2.2.1 41 15 = nI (hw_bn (sp_up (σ.2.2.1 42) l h)) → (∀ q, 1 ≤ q → q ≤ h → ρ.2.2.1 49 q = nI (sp_cu (σ.2.2.1 42) l st f q)) → ∃ τ, m12_curves_b8 fuel 41 (nI l) (nI st) (nI f) (nI (h + 1)) ρ = some τ ∧ hw_d hw_acv σ τ ∧ ∀ h, 1 ≤ h → h ≤ 60 → τ.2.2.1 49 h = nI (sp_cu (σ.2.2.1 42) l st f h) ∧ τ.2.2.1 50 h = nI (sp_cd (σ.2.2.1 42) l st f h) := by
    intro d
    induction d with
    | zero =>
      intro h fuel ρ e hfu hd hb h2
      obtain ⟨fuel, rfl⟩ : ∃ k, fuel = k + 1 := ⟨fuel - 1, by omega⟩
      have Fρ := hd.F hF
      obtain ⟨τ, g1, g2, g3⟩ := down 60 0 hw_fu (hw_wI 41 15 1 ρ) (by decide) (by decide) (hd.tr (hw_d.wI (by unfold hw_acv; omega))) (by rw [hw_wI_3, if_pos ⟨rfl, rfl⟩]; rfl) (fun q hq hq2 => by rw [hw_wI_3, if_neg (fun c => by omega)]; exact h2 q hq (by omega)) (fun q hq hq2 => by omega)
      refine ⟨τ, ?_, g2, g3⟩
      rw [m12_curves_b8, if_pos (hw_60l (h := (h + 1)) (by omega) (by omega)), hw_tf_1, Option.bind_some, hw_W_41 Fρ, Option.bind_some]
      exact g1
    | succ d ih =>
      intro h fuel ρ e hfu hd hb h2
      obtain ⟨fuel, rfl⟩ : ∃ k, fuel = k + 1 := ⟨fuel - 1, by omega⟩
      have Fρ := hd.F hF
      have eρ := I42 hd
      have ed : sp_up (σ.2.2.1 42) l (h + 1) = sp_hi2 (sp_v (σ.2.2.1 42) l) (h + 1) (sp_up (σ.2.2.1 42) l h) := rfl
      have ec : sp_cu (σ.2.2.1 42) l st f (h + 1) = sp_turns (σ.2.2.1 42) l st (h + 1) f 0 (sp_up (σ.2.2.1 42) l (h + 1)) (sp_s0 (σ.2.2.1 42) st) := rfl
      have bh := r_becomesHigh_e (h := h + 1) (b := sp_up (σ.2.2.1 42) l h) Fρ (by rw [eρ]; exact hl) hb (by omega)
      rw [eρ, ← ed] at bh
      have d1 : hw_d hw_acv σ (hw_wI 41 15 (nI (hw_bn (sp_up (σ.2.2.1 42) l (h + 1)))) ρ) := hd.tr (hw_d.wI (by unfold hw_acv; omega))
      have F1 := d1.F hF
      have e1 := I42 d1
      have b1 : (hw_wI 41 15 (nI (hw_bn (sp_up (σ.2.2.1 42) l (h + 1)))) ρ).2.2.1 41 15 = nI (hw_bn (sp_up (σ.2.2.1 42) l (h + 1))) := by rw [hw_wI_3, if_pos ⟨rfl, rfl⟩]
      have u1 : ∀ a q, a ≠ 41 → (hw_wI 41 15 (nI (hw_bn (sp_up (σ.2.2.1 42) l (h + 1)))) ρ).2.2.1 a q = ρ.2.2.1 a q := fun a q ha => by rw [hw_wI_3, if_neg (fun c => ha c.1)]
      have w1 := hw_W_41 (k := 15) (v := nI (hw_bn (sp_up (σ.2.2.1 42) l (h + 1)))) Fρ
      generalize hw_wI 41 15 (nI (hw_bn (sp_up (σ.2.2.1 42) l (h + 1)))) ρ = ρ1 at d1 F1 e1 b1 u1 w1
      obtain ⟨τ, t1, t2⟩ := r_turnsAs (σ := ρ1) (l := l) (st := st) (h := h + 1) (f := f) (p := 0) (stf := sp_s0 (σ.2.2.1 42) st) (hi := sp_up (σ.2.2.1 42) l (h + 1)) F1 (by rw [e1]; exact hl) (by rw [e1]; exact hs) (by omega) (by omega) hf hs0.1 (by omega)
      rw [e1, ← ec] at t1
      have d2 := d1.tr (t2.mono mono)
      have F2 := d2.F hF
      have k2 : ∀ a q, a ≠ 44 → a ≠ 45 → τ.2.2.1 a q = ρ1.2.2.1 a q := fun a q h4 h5 => t2.2.2.2 a q (by unfold hw_a4445; omega)
      obtain ⟨υ, g1, g2, g3⟩ := ih (h + 1) fuel (hw_wI 49 (h + 1) (nI (sp_cu (σ.2.2.1 42) l st f (h + 1))) τ) (by omega) (by omega) (d2.tr (hw_d.wI (by unfold hw_acv; omega))) (by rw [hw_wI_3, if_neg (fun c => by omega), k2 41 15 (by decide) (by decide), b1]) (fun q hq hq2 => by
        rw [hw_wI_3]
        by_cases hqp : q = h + 1
        · rw [if_pos ⟨rfl, hqp⟩, hqp]
        · rw [if_neg (fun c => hqp c.2), k2 49 q (by decide) (by decide), u1 49 q (by decide)]
          exact h2 q hq (by omega))
      refine ⟨υ, ?_, g2, g3⟩
      have t1 : m12_turnsAs 41 (nI l) (nI st) (nI (h + 1)) (nI f) (0 : Int32) (nI (hw_bn (sp_up (σ.2.2.1 42) l (h + 1)))) (nI (sp_s0 (σ.2.2.1 42) st)) ρ1 = _ := t1
      rw [m12_curves_b8, if_neg (hw_60n (h := (h + 1)) (by omega)), hw_V_41 Fρ, Option.bind_some, bh, Option.bind_some, hw_tfb, Option.bind_some, w1, Option.bind_some, hw_P_41_16 F1, Option.bind_some, hw_G_41 F1, Option.bind_some, b1, hw_P_41_1 F1, Option.bind_some, e3, hw_A_42 F1 (by omega), Option.bind_some, e1, hs0.2.2, hw_V_41 F1, Option.bind_some, t1, hw_b2s, hw_B_49 F2 (by omega), Option.bind_some, nI_1 (h + 1)]
      exact g1
  obtain ⟨τ, g1, g2, g3⟩ := up 60 0 hw_fu (hw_wI 41 15 0 σ) (by decide) (by decide) (hw_d.wI (by unfold hw_acv; omega)) (by rw [hw_wI_3, if_pos ⟨rfl, rfl⟩]; rfl) (fun q hq hq2 => by omega)
  refine ⟨τ, ?_, g2, g3⟩
  unfold m12_curves
  rw [hw_tf_0, Option.bind_some, hw_W_41 hF, Option.bind_some]
  exact g1
