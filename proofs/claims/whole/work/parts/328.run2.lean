/-! the pure layer: runs by the model -/
def hw_arr (a k : Nat) : Prop := a = 44 ∨ a = 45 ∨ a = 46 ∨ a = 47 ∨ a = 48 ∨ (a = 41 ∧ (k = 14 ∨ k = 15))
theorem hw_arr_s : ∀ a k, hw_arr a k → hw_scr a k := fun a k h => by unfold hw_arr at h; unfold hw_scr; omega
theorem r_run {σ : hw_S} {l st c3 : Nat} (hF : hw_F σ) (hml : hw_ml (σ.2.2.1 42) l) (hms : hw_ms (σ.2.2.1 42) st) (b3 : c3 ≤ 20) (w3 : σ.2.2.1 42 3 = nI c3) (htk : ∀ i, i < c3 → hw_dok (σ.2.2.1 42 (1332 + i))) :
    ∃ τ, m12_goesThrough 41 (nI l) (nI st) σ = some τ ∧ hw_d hw_arr σ τ ∧ τ.2.2.1 41 14 = nI (sp_ro (σ.2.2.1 42) l st c3) ∧ ∀ q, q < c3 → τ.2.2.1 47 q = nI (sp_rt (σ.2.2.1 42) l st q) ∧ τ.2.2.1 46 q = nI (sp_rf (σ.2.2.1 42) l st q) ∧ τ.2.2.1 48 q = nI (sp_rq (σ.2.2.1 42) l st (q + 1)) := by
  have hc := hml.hc
  have hs0 := hms.s
  have hk := hml.k
  have hs5 := hms.1
  have hl8 := hml.1
  have I42 : ∀ {τ}, hw_d hw_arr σ τ → τ.2.2.1 42 = σ.2.2.1 42 := fun hd => funext fun k => hd.2.2.2 42 k (by unfold hw_arr; omega)
  have mono : ∀ a k, hw_a4445 a k → hw_arr a k := fun a k h => by unfold hw_a4445 at h; unfold hw_arr; omega
  have e1 : (130 : Int32) + nI st = nI (130 + st) := nI_add 130 st
  have e2 : (164 : Int32) + nI l = nI (164 + l) := nI_add 164 l
  have e3 : (140 : Int32) + nI l = nI (140 + l) := nI_add 140 l
  have e4 : (156 : Int32) + nI l = nI (156 + l) := nI_add 156 l
  have key : ∀ d t fuel ρ, t + d = c3 → d < fuel → hw_d hw_arr σ ρ → ρ.2.2.1 41 15 = nI (hw_bn (sp_rh (σ.2.2.1 42) l t)) → ρ.2.2.1 41 14 = nI (sp_ro (σ.2.2.1 42) l st t) → (∀ q, q < t → ρ.2.2.1 47 q = nI (sp_rt (σ.2.2.1 42) l st q) ∧ ρ.2.2.1 46 q = nI (sp_rf (σ.2.2.1 42) l st q) ∧ ρ.2.2.1 48 q = nI (sp_rq (σ.2.2.1 42) l st (q + 1))) → ∃ τ, m12_goesThrough_b15 fuel 41 (nI l) (nI st) (nI (sp_rq (σ.2.2.1 42) l st t)) (nI t) ρ = some τ ∧ hw_d hw_arr σ τ ∧ τ.2.2.1 41 14 = nI (sp_ro (σ.2.2.1 42) l st c3) ∧ ∀ q, q < c3 → τ.2.2.1 47 q = nI (sp_rt (σ.2.2.1 42) l st q) ∧ τ.2.2.1 46 q = nI (sp_rf (σ.2.2.1 42) l st q) ∧ τ.2.2.1 48 q = nI (sp_rq (σ.2.2.1 42) l st (q + 1)) := by
    intro d
    induction d with
    | zero =>
      intro t fuel ρ e hfu hd hb ho h2
      obtain ⟨fuel, rfl⟩ : ∃ k, fuel = k + 1 := ⟨fuel - 1, by omega⟩
      have e : t = c3 := e
      have Fρ := hd.F hF
      refine ⟨ρ, ?_, hd, by rw [ho, e], fun q hq => h2 q (by omega)⟩
      rw [m12_goesThrough_b15, hw_P_41_1 Fρ, Option.bind_some, hw_Z_3 Fρ, Option.bind_some, I42 hd, w3, if_pos (nI_le (by omega) (by omega))]
    | succ d ih =>
      intro t fuel ρ e hfu hd hb ho h2
      obtain ⟨fuel, rfl⟩ : ∃ k, fuel = k + 1 := ⟨fuel - 1, by omega⟩
      have ht : t < c3 := by omega
      have Fρ := hd.F hF
      have eρ := I42 hd
      obtain ⟨r1, r2, r3, r4, r5, r6⟩ := hw_rd (htk t ht)
      have e5 : (1332 : Int32) + nI t = nI (1332 + t) := nI_add 1332 t
      have hsd := sp_rs_le (l := l) hms t
      have tle := sp_turns_le hml st (sp_dh (σ.2.2.1 42) t) (sp_df (σ.2.2.1 42) t) (sp_dp (σ.2.2.1 42) t) (sp_rh (σ.2.2.1 42) l (t + 1)) (sp_rs (σ.2.2.1 42) l st t)
      have fle : sp_rf (σ.2.2.1 42) l st t ≤ 4 := sp_form_le _ _ _ _
      have ble := sp_rb_le hml st t r4
      have qle := sp_rq_le hml st t
      have ole := sp_ro_le (σ.2.2.1 42) l st t
      have bh := r_becomesHigh_e (h := sp_dh (σ.2.2.1 42) t) (b := sp_rh (σ.2.2.1 42) l t) Fρ (by rw [eρ]; exact hml) hb r2
      rw [eρ, show sp_hi2 (sp_v (σ.2.2.1 42) l) (sp_dh (σ.2.2.1 42) t) (sp_rh (σ.2.2.1 42) l t) = sp_rh (σ.2.2.1 42) l (t + 1) from rfl] at bh
      rw [m12_goesThrough_b15, hw_P_41_1 Fρ, Option.bind_some, hw_Z_3 Fρ, Option.bind_some, eρ, w3, if_neg (nI_ge ht (by omega)), Option.bind_some, e5, hw_A_42 Fρ (by omega), Option.bind_some, eρ, r6, hw_dg1 r2 r4 r5, Option.bind_some, hw_dg2 r2 r4 r5, Option.bind_some, hw_dg3 r2 r4 r5, Option.bind_some, hw_dg4 r2 r4 r5, Option.bind_some, hw_V_41 Fρ, Option.bind_some, bh, Option.bind_some, hw_tfb, Option.bind_some, hw_W_41 Fρ, Option.bind_some]
      have d1 : hw_d hw_arr σ (hw_wI 41 15 (nI (hw_bn (sp_rh (σ.2.2.1 42) l (t + 1)))) ρ) := hd.tr (hw_d.wI (by unfold hw_arr; omega))
      have b1 : (hw_wI 41 15 (nI (hw_bn (sp_rh (σ.2.2.1 42) l (t + 1)))) ρ).2.2.1 41 15 = nI (hw_bn (sp_rh (σ.2.2.1 42) l (t + 1))) := by rw [hw_wI_3, if_pos ⟨rfl, rfl⟩]
      have o1 : (hw_wI 41 15 (nI (hw_bn (sp_rh (σ.2.2.1 42) l (t + 1)))) ρ).2.2.1 41 14 = nI (sp_ro (σ.2.2.1 42) l st t) := by rw [hw_wI_3, if_neg (fun c => by omega), ho]
      have g2 : ∀ q, q < t → (hw_wI 41 15 (nI (hw_bn (sp_rh (σ.2.2.1 42) l (t + 1)))) ρ).2.2.1 47 q = nI (sp_rt (σ.2.2.1 42) l st q) ∧ (hw_wI 41 15 (nI (hw_bn (sp_rh (σ.2.2.1 42) l (t + 1)))) ρ).2.2.1 46 q = nI (sp_rf (σ.2.2.1 42) l st q) ∧ (hw_wI 41 15 (nI (hw_bn (sp_rh (σ.2.2.1 42) l (t + 1)))) ρ).2.2.1 48 q = nI (sp_rq (σ.2.2.1 42) l st (q + 1)) := h2
      generalize hw_wI 41 15 (nI (hw_bn (sp_rh (σ.2.2.1 42) l (t + 1)))) ρ = ρ1 at d1 b1 o1 g2 ⊢
      have F1 := d1.F hF
      have i1 := I42 d1
      -- from the turns on
      have main : ∃ τ, m12_goesThrough_b142 (m12_goesThrough_b15 fuel) 41 (nI l) (nI st) (nI (sp_rq (σ.2.2.1 42) l st t)) (nI t) (nI (sp_dh (σ.2.2.1 42) t)) (nI (sp_df (σ.2.2.1 42) t)) (nI (sp_dp (σ.2.2.1 42) t)) (nI (sp_rs (σ.2.2.1 42) l st t)) ρ1 = some τ ∧ hw_d hw_arr σ τ ∧ τ.2.2.1 41 14 = nI (sp_ro (σ.2.2.1 42) l st c3) ∧ ∀ q, q < c3 → τ.2.2.1 47 q = nI (sp_rt (σ.2.2.1 42) l st q) ∧ τ.2.2.1 46 q = nI (sp_rf (σ.2.2.1 42) l st q) ∧ τ.2.2.1 48 q = nI (sp_rq (σ.2.2.1 42) l st (q + 1)) := by
        obtain ⟨ρ2, t1, t2⟩ := r_turnsAs (σ := ρ1) (l := l) (st := st) (h := sp_dh (σ.2.2.1 42) t) (f := sp_df (σ.2.2.1 42) t) (p := sp_dp (σ.2.2.1 42) t) (stf := sp_rs (σ.2.2.1 42) l st t) (hi := sp_rh (σ.2.2.1 42) l (t + 1)) F1 (by rw [i1]; exact hml) (by rw [i1]; exact hms) r1 r2 r4 hsd.1 hsd.2.1
        rw [i1, show sp_turns (σ.2.2.1 42) l st (sp_dh (σ.2.2.1 42) t) (sp_df (σ.2.2.1 42) t) (sp_dp (σ.2.2.1 42) t) (sp_rh (σ.2.2.1 42) l (t + 1)) (sp_rs (σ.2.2.1 42) l st t) = sp_rt (σ.2.2.1 42) l st t from rfl] at t1
        have tle : 1 ≤ sp_rt (σ.2.2.1 42) l st t ∧ sp_rt (σ.2.2.1 42) l st t ≤ 999 := tle
        have d2 := d1.tr (t2.mono mono)
        have k2 : ∀ a q, a ≠ 44 → a ≠ 45 → ρ2.2.2.1 a q = ρ1.2.2.1 a q := fun a q h4 h5 => t2.2.2.2 a q (by unfold hw_a4445; omega)
        have d3 : hw_d hw_arr σ (hw_wI 47 t (nI (sp_rt (σ.2.2.1 42) l st t)) ρ2) := d2.tr (hw_d.wI (by unfold hw_arr; omega))
        have F2 := d2.F hF
        have F3 := d3.F hF
        have v3 : (hw_wI 47 t (nI (sp_rt (σ.2.2.1 42) l st t)) ρ2).2.2.1 47 t = nI (sp_rt (σ.2.2.1 42) l st t) := by rw [hw_wI_3, if_pos ⟨rfl, rfl⟩]
        have fb := r_formBy_e (σ := hw_wI 47 t (nI (sp_rt (σ.2.2.1 42) l st t)) ρ2) (l := l) (p := sp_dp (σ.2.2.1 42) t) (t := sp_rt (σ.2.2.1 42) l st t) F3 hl8 r5 tle.1 tle.2
        rw [I42 d3, show sp_form (σ.2.2.1 42) l (sp_dp (σ.2.2.1 42) t) (sp_rt (σ.2.2.1 42) l st t) = sp_rf (σ.2.2.1 42) l st t from rfl] at fb
        have d4 : hw_d hw_arr σ (hw_wI 46 t (nI (sp_rf (σ.2.2.1 42) l st t)) (hw_wI 47 t (nI (sp_rt (σ.2.2.1 42) l st t)) ρ2)) := d3.tr (hw_d.wI (by unfold hw_arr; omega))
        have F4 := d4.F hF
        have v4 : (hw_wI 46 t (nI (sp_rf (σ.2.2.1 42) l st t)) (hw_wI 47 t (nI (sp_rt (σ.2.2.1 42) l st t)) ρ2)).2.2.1 46 t = nI (sp_rf (σ.2.2.1 42) l st t) := by rw [hw_wI_3, if_pos ⟨rfl, rfl⟩]
        unfold m12_goesThrough_b142
        rw [hw_P_41_12 F1, Option.bind_some, hw_G_41 F1, Option.bind_some, b1, hw_V_41 F1, Option.bind_some, t1, hw_b2s, hw_B_47 F2 (by omega), Option.bind_some, hw_P_41_11 F3, Option.bind_some, hw_P_41_12 F3, Option.bind_some, hw_A_47 F3 (by omega), Option.bind_some, v3, hw_V_41 F3, Option.bind_some, fb, Option.bind_some, hw_B_46 F3 (by omega), Option.bind_some, hw_P_41_11 F4, Option.bind_some, hw_A_46 F4 (by omega), Option.bind_some, v4]
        have o4 : (hw_wI 46 t (nI (sp_rf (σ.2.2.1 42) l st t)) (hw_wI 47 t (nI (sp_rt (σ.2.2.1 42) l st t)) ρ2)).2.2.1 41 14 = nI (sp_ro (σ.2.2.1 42) l st t) := by rw [hw_wI_3, if_neg (fun c => by omega), hw_wI_3, if_neg (fun c => by omega), k2 41 14 (by decide) (by decide), o1]
        have b4 : (hw_wI 46 t (nI (sp_rf (σ.2.2.1 42) l st t)) (hw_wI 47 t (nI (sp_rt (σ.2.2.1 42) l st t)) ρ2)).2.2.1 41 15 = nI (hw_bn (sp_rh (σ.2.2.1 42) l (t + 1))) := by rw [hw_wI_3, if_neg (fun c => by omega), hw_wI_3, if_neg (fun c => by omega), k2 41 15 (by decide) (by decide), b1]
        have g4 : ∀ q, q ≤ t → (hw_wI 46 t (nI (sp_rf (σ.2.2.1 42) l st t)) (hw_wI 47 t (nI (sp_rt (σ.2.2.1 42) l st t)) ρ2)).2.2.1 47 q = nI (sp_rt (σ.2.2.1 42) l st q) ∧ (hw_wI 46 t (nI (sp_rf (σ.2.2.1 42) l st t)) (hw_wI 47 t (nI (sp_rt (σ.2.2.1 42) l st t)) ρ2)).2.2.1 46 q = nI (sp_rf (σ.2.2.1 42) l st q) ∧ (q < t → (hw_wI 46 t (nI (sp_rf (σ.2.2.1 42) l st t)) (hw_wI 47 t (nI (sp_rt (σ.2.2.1 42) l st t)) ρ2)).2.2.1 48 q = nI (sp_rq (σ.2.2.1 42) l st (q + 1))) := by
          intro q hq
          by_cases hqp : q = t
          · rw [hqp]
            refine ⟨?_, ?_, fun c => absurd c (Nat.lt_irrefl _)⟩
            · rw [hw_wI_3, if_neg (fun c => by omega), hw_wI_3, if_pos ⟨rfl, rfl⟩]
            · rw [hw_wI_3, if_pos ⟨rfl, rfl⟩]
          · have g := g2 q (by omega)
            refine ⟨?_, ?_, fun c => ?_⟩
            · rw [hw_wI_3, if_neg (fun c => hqp c.2), hw_wI_3, if_neg (fun c => hqp c.2), k2 47 q (by decide) (by decide)]; exact g.1
            · rw [hw_wI_3, if_neg (fun c => hqp c.2), hw_wI_3, if_neg (fun c => hqp c.2), k2 46 q (by decide) (by decide)]; exact g.2.1
            · rw [hw_wI_3, if_neg (fun c => hqp c.2), hw_wI_3, if_neg (fun c => hqp c.2), k2 48 q (by decide) (by decide)]; exact g.2.2
        generalize hw_wI 46 t (nI (sp_rf (σ.2.2.1 42) l st t)) (hw_wI 47 t (nI (sp_rt (σ.2.2.1 42) l st t)) ρ2) = ρ4 at d4 F4 v4 o4 b4 g4 ⊢
        have i4 := I42 d4
        -- from the heap on
        have heap : ∃ τ, m12_goesThrough_b223 (m12_goesThrough_b15 fuel) 41 (nI l) (nI st) (nI t) (nI (sp_rb (σ.2.2.1 42) l st t)) ρ4 = some τ ∧ hw_d hw_arr σ τ ∧ τ.2.2.1 41 14 = nI (sp_ro (σ.2.2.1 42) l st c3) ∧ ∀ q, q < c3 → τ.2.2.1 47 q = nI (sp_rt (σ.2.2.1 42) l st q) ∧ τ.2.2.1 46 q = nI (sp_rf (σ.2.2.1 42) l st q) ∧ τ.2.2.1 48 q = nI (sp_rq (σ.2.2.1 42) l st (q + 1)) := by
          have fin : ∀ z : Int32, z = nI (sp_ro (σ.2.2.1 42) l st (t + 1)) → ∃ τ, m12_goesThrough_b271 (m12_goesThrough_b15 fuel) 41 (nI l) (nI st) (nI t) (nI (sp_rq (σ.2.2.1 42) l st (t + 1))) (hw_wI 41 14 z ρ4) = some τ ∧ hw_d hw_arr σ τ ∧ τ.2.2.1 41 14 = nI (sp_ro (σ.2.2.1 42) l st c3) ∧ ∀ q, q < c3 → τ.2.2.1 47 q = nI (sp_rt (σ.2.2.1 42) l st q) ∧ τ.2.2.1 46 q = nI (sp_rf (σ.2.2.1 42) l st q) ∧ τ.2.2.1 48 q = nI (sp_rq (σ.2.2.1 42) l st (q + 1)) := by
            intro z hz
            have F5 : hw_F (hw_wI 41 14 z ρ4) := F4
            obtain ⟨τ, k1, k2, k3⟩ := ih (t + 1) fuel (hw_wI 48 t (nI (sp_rq (σ.2.2.1 42) l st (t + 1))) (hw_wI 41 14 z ρ4)) (by omega) (by omega) ((d4.tr (hw_d.wI (by unfold hw_arr; omega))).tr (hw_d.wI (by unfold hw_arr; omega))) (by rw [hw_wI_3, if_neg (fun c => by omega), hw_wI_3, if_neg (fun c => by omega), b4]) (by rw [hw_wI_3, if_neg (fun c => by omega), hw_wI_3, if_pos ⟨rfl, rfl⟩, hz]) (fun q hq => by
              have g := g4 q (by omega)
              rw [hw_wI_3, if_neg (fun c => by omega), hw_wI_3, if_neg (fun c => by omega), hw_wI_3, if_neg (fun c => by omega), hw_wI_3, if_neg (fun c => by omega), hw_wI_3]
              by_cases hqp : q = t
              · rw [if_pos ⟨rfl, hqp⟩, hqp]
                rw [hqp] at g
                exact ⟨g.1, g.2.1, rfl⟩
              · rw [if_neg (fun c => hqp c.2), hw_wI_3, if_neg (fun c => by omega)]
                exact ⟨g.1, g.2.1, g.2.2 (by omega)⟩)
            refine ⟨τ, ?_, k2, k3⟩
            unfold m12_goesThrough_b271
            rw [hw_P_41_13 F5, Option.bind_some, hw_B_48 F5 (by omega), Option.bind_some, nI_1]
            exact k1
          have F5 : ∀ z, hw_F (hw_wI 41 14 z ρ4) := fun z => F4
          have i5 : ∀ z, (hw_wI 41 14 z ρ4).2.2.1 42 (156 + l) = nI (sp_hp (σ.2.2.1 42) l) := fun z => by rw [hw_wI_3, if_neg (fun c => by omega), i4, hc.2.1]
          unfold m12_goesThrough_b223 m12_goesThrough_b248
          rw [hw_G_41 F4, Option.bind_some, o4, hw_P_41_1 F4, Option.bind_some, e4, hw_A_42 F4 (by omega), Option.bind_some, i4, hc.2.1]
          by_cases hb2 : sp_rb (σ.2.2.1 42) l st t ≤ sp_hp (σ.2.2.1 42) l
          · have hb3 := nI_le hb2 (by omega)
            rw [if_pos hb3, hw_W_41 F4, Option.bind_some, hw_P_41_1 (F5 _), Option.bind_some, hw_A_42 (F5 _) (by omega), Option.bind_some, i5, if_pos hb3]
            have := fin (nI (sp_ro (σ.2.2.1 42) l st t) + 0) (by rw [sp_ro_s, if_pos hb2, Int32.add_zero]; rfl)
            rw [sp_rq_s, if_pos hb2] at this
            exact this
          · have hb3 := nI_ge (Nat.lt_of_not_le hb2) (show sp_rb (σ.2.2.1 42) l st t < 2 ^ 31 by omega)
            rw [if_neg hb3, hw_W_41 F4, Option.bind_some, hw_P_41_1 (F5 _), Option.bind_some, hw_A_42 (F5 _) (by omega), Option.bind_some, i5, if_neg hb3]
            have := fin (nI (sp_ro (σ.2.2.1 42) l st t) + 1) (by rw [sp_ro_s, if_neg hb2, nI_1])
            rw [sp_rq_s, if_neg hb2] at this
            exact this
        have eb : sp_rb (σ.2.2.1 42) l st t = if sp_rf (σ.2.2.1 42) l st t = 0 then sp_rq (σ.2.2.1 42) l st t + sp_df (σ.2.2.1 42) t else if sp_rf (σ.2.2.1 42) l st t = 4 then 0 else sp_rq (σ.2.2.1 42) l st t := rfl
        by_cases k0 : sp_rf (σ.2.2.1 42) l st t = 0
        · rw [if_pos k0] at eb
          rw [if_pos (show nI (sp_rf (σ.2.2.1 42) l st t) = 0 by rw [k0]; rfl), nI_add, ← eb]
          exact heap
        · rw [if_neg k0] at eb
          rw [if_neg (nI_ne0 (by omega) (by omega)), Option.bind_some, hw_A_46 F4 (by omega), Option.bind_some, v4]
          by_cases k4 : sp_rf (σ.2.2.1 42) l st t = 4
          · rw [if_pos k4] at eb
            rw [eb] at heap
            rw [if_pos (show nI (sp_rf (σ.2.2.1 42) l st t) = 4 by rw [k4]; rfl)]
            exact heap
          · rw [if_neg k4] at eb
            rw [if_neg (show ¬ nI (sp_rf (σ.2.2.1 42) l st t) = (4 : Int32) from fun c => k4 ((nI_eq (b := 4) (by omega) (by decide)).mp c)), ← eb]
            exact heap
      have hp5 : sp_k (σ.2.2.1 42) l = 5 ∨ ¬ sp_k (σ.2.2.1 42) l = 5 := Classical.em _
      have ers : sp_rs (σ.2.2.1 42) l st t = if sp_k (σ.2.2.1 42) l = 5 then min 99 (sp_s0 (σ.2.2.1 42) st + sp_co (σ.2.2.1 42) l * t) else sp_s0 (σ.2.2.1 42) st := rfl
      have m1 : sp_co (σ.2.2.1 42) l * t ≤ 99 * 20 := hw_mulle (by omega) (by omega)
      rw [hw_P_41_1 F1, Option.bind_some, e1, hw_A_42 F1 (by omega), Option.bind_some, i1, hs0.2.2, Option.bind_some, e2, hw_A_42 F1 (by omega), Option.bind_some, i1, hc.2.2.2, Option.bind_some, e3, hw_A_42 F1 (by omega), Option.bind_some, i1, hk.2, nI_mul, nI_add]
      by_cases k5 : sp_k (σ.2.2.1 42) l = 5
      · rw [if_pos k5] at ers
        rw [if_pos (show nI (sp_k (σ.2.2.1 42) l) = 5 by rw [k5]; rfl)]
        by_cases h99 : sp_s0 (σ.2.2.1 42) st + sp_co (σ.2.2.1 42) l * t ≤ 99
        · rw [if_pos (show nI (sp_s0 (σ.2.2.1 42) st + sp_co (σ.2.2.1 42) l * t) ≤ (99 : Int32) from nI_le (b := 99) h99 (by decide))]
          rw [Nat.min_eq_right h99] at ers
          rw [← ers]
          exact main
        · rw [if_neg (show ¬ nI (sp_s0 (σ.2.2.1 42) st + sp_co (σ.2.2.1 42) l * t) ≤ (99 : Int32) from nI_ge (a := 99) (by omega) (by omega))]
          rw [Nat.min_eq_left (by omega)] at ers
          rw [ers] at main
          exact main
      · rw [if_neg k5] at ers
        have hk6 := hk.1
        rw [if_neg (show ¬ nI (sp_k (σ.2.2.1 42) l) = (5 : Int32) from fun c => k5 ((nI_eq (b := 5) (by omega) (by decide)).mp c)), Option.bind_some, hw_A_42 F1 (by omega), Option.bind_some, i1, hs0.2.2, ← ers]
        exact main
  have F0 : hw_F (hw_wI 41 15 0 σ) := hF
  obtain ⟨τ, g1, g2, g3⟩ := key c3 0 hw_fu (hw_wI 41 14 0 (hw_wI 41 15 0 σ)) (by omega) (by show c3 < 4000; omega) ((hw_d.wI (by unfold hw_arr; omega)).tr (hw_d.wI (by unfold hw_arr; omega))) (by rw [hw_wI_3, if_neg (fun c => by omega), hw_wI_3, if_pos ⟨rfl, rfl⟩]; rfl) (by rw [hw_wI_3, if_pos ⟨rfl, rfl⟩]; rfl) (fun q hq => absurd hq (Nat.not_lt_zero q))
  refine ⟨τ, ?_, g2, g3⟩
  unfold m12_goesThrough
  rw [hw_tf_0, Option.bind_some, hw_W_41 hF, Option.bind_some, hw_W_41 F0, Option.bind_some]
  exact g1
