/-! the pure layer: tick, want, film, the calls -/
def hw_atk (a k : Nat) : Prop := (a = 1 ∧ k = 7) ∨ a = 5 ∨ (a = 42 ∧ (k = 3 ∨ (1332 ≤ k ∧ k < 1352)))
theorem rel_tk {σ τ : hw_S} {c0 c1 c2 c3 c4 c5 d3 : Nat} (h : hw_d hw_atk σ τ) (hr : hw_rel σ 1 (σ.2.2.1 42) c0 c1 c2 c3 c4 c5) (b3 : d3 ≤ 20) (w3 : τ.2.2.1 42 3 = nI d3) (s3 : τ.2.2.1 1 7 = nI d3) (r7 : ∀ i, i < d3 → τ.2.2.1 5 i = τ.2.2.1 42 (1332 + i) ∧ hw_dok (τ.2.2.1 42 (1332 + i))) : hw_R0 τ 1 (τ.2.2.1 42) := by
  obtain ⟨⟨-, -, g2, -, g4, g5⟩, ⟨-, -, w2, -, w4, w5⟩, ⟨-, -, s2, -, s4, s5⟩, -, -, r6, -, r8, r9⟩ := id hr
  have K : ∀ a k, ¬ hw_atk a k → τ.2.2.1 a k = σ.2.2.1 a k := h.2.2.2
  refine rel_d h (fun a k c => by unfold hw_atk at c; omega) hr (fun k c => by unfold hw_atk at c; omega) (fun k c => by unfold hw_atk at c; omega) (fun k c => by unfold hw_atk at c; omega) rfl rfl g2 b3 g4 g5 ((K 42 2 (by unfold hw_atk; omega)).trans w2) w3 ((K 42 4 (by unfold hw_atk; omega)).trans w4) ((K 42 5 (by unfold hw_atk; omega)).trans w5) ((K 1 13 (by unfold hw_atk; omega)).trans s2) s3 ((K 1 9 (by unfold hw_atk; omega)).trans s4) ((K 1 5 (by unfold hw_atk; omega)).trans s5) (fun i hi => ?_) r7 (fun i hi => ?_) (fun i hi => ?_)
  · rw [K 4 i (by unfold hw_atk; omega), K 42 (10 + i) (by unfold hw_atk; omega)]; exact r6 i hi
  · rw [K 6 i (by unfold hw_atk; omega), K 42 (1352 + i) (by unfold hw_atk; omega)]; exact r8 i hi
  · rw [K 7 i (by unfold hw_atk; omega), K 8 i (by unfold hw_atk; omega), K 9 i (by unfold hw_atk; omega), K 42 (1360 + i) (by unfold hw_atk; omega), K 42 (1372 + i) (by unfold hw_atk; omega), K 42 (1384 + i) (by unfold hw_atk; omega)]; exact r9 i hi
theorem j_tick {σ : hw_S} (hJ : hw_Jv σ) (d : Int32) : ∃ r σ1 τ, m11_tick 0 d σ = some (r, σ1) ∧ m12_tick 41 d σ1 = some (r, τ) ∧ hw_Jv τ ∧ hw_F σ1 := by
  obtain ⟨hF, p1, p2, ⟨c0, c1, c2, c3, c4, c5, hr⟩, him, htr⟩ := id hJ
  have s3 : σ.2.2.1 1 7 = nI c3 := hr.2.2.1.2.2.2.1
  have w3 : σ.2.2.1 42 3 = nI c3 := hr.2.1.2.2.2.1
  have b3 : c3 ≤ 20 := hr.1.2.2.2.1
  have htk : ∀ i, i < c3 → σ.2.2.1 5 i = σ.2.2.1 42 (1332 + i) ∧ hw_dok (σ.2.2.1 42 (1332 + i)) := hr.2.2.2.2.2.2.1
  have sA : ∀ a k, hw_atk a k → a = 1 ∨ (4 ≤ a ∧ a ≤ 9) ∨ a = 42 := fun a k c => by unfold hw_atk at c; omega
  unfold m11_tick m12_tick
  by_cases dm : d = (-1 : Int32)
  · rw [if_pos dm, hw_P_0_0 hF, Option.bind_some, hw_W_1 hF, Option.bind_some]
    have F1 : hw_F (hw_wI 1 7 0 σ) := hF
    have dd : hw_d hw_atk σ (hw_wI 42 3 0 (hw_wI 1 7 0 σ)) := (hw_d.wI (by unfold hw_atk; omega)).tr (hw_d.wI (by unfold hw_atk; omega))
    refine ⟨0, _, hw_wI 42 3 0 (hw_wI 1 7 0 σ), rfl, ?_, Jv_d hJ dd sA (rel_tk (d3 := 0) dd hr (by decide) hw_wI_y (by rw [hw_wI_n (by omega), hw_wI_y]; rfl) (fun i hi => absurd hi (Nat.not_lt_zero i))), F1⟩
    rw [if_pos dm, hw_P_41_1 F1, Option.bind_some, show (3 : Int32) = nI 3 from rfl, hw_B_42 F1 (by decide), Option.bind_some]
  · rw [if_neg dm]
    by_cases hd : hw_dok d
    · rw [e11_isDoing_y hd, Option.bind_some, hw_if10, hw_P_0_0 hF, Option.bind_some, hw_G_1 hF, Option.bind_some, s3, Option.bind_some]
      by_cases h20 : c3 < 20
      · have F1 : hw_F (hw_wI 5 c3 d σ) := hF
        have F2 : hw_F (hw_wI 1 7 (nI (c3 + 1)) (hw_wI 5 c3 d σ)) := hF
        have F3 : hw_F (hw_wI 42 (1332 + c3) d (hw_wI 1 7 (nI (c3 + 1)) (hw_wI 5 c3 d σ))) := hF
        have F4 : hw_F (hw_wI 42 3 (nI (c3 + 1)) (hw_wI 42 (1332 + c3) d (hw_wI 1 7 (nI (c3 + 1)) (hw_wI 5 c3 d σ)))) := hF
        have dd : hw_d hw_atk σ (hw_wI 42 3 (nI (c3 + 1)) (hw_wI 42 (1332 + c3) d (hw_wI 1 7 (nI (c3 + 1)) (hw_wI 5 c3 d σ)))) := (((hw_d.wI (by unfold hw_atk; omega)).tr (hw_d.wI (by unfold hw_atk; omega))).tr (hw_d.wI (by unfold hw_atk; omega))).tr (hw_d.wI (by unfold hw_atk; omega))
        rw [if_pos (show nI c3 < (20 : Int32) from nI_lt (b := 20) h20 (by decide)), hw_P_1_6 hF, Option.bind_some, Option.bind_some, hw_G_1 hF, Option.bind_some, s3, hw_B_5 hF h20, Option.bind_some, hw_P_0_0 F1, Option.bind_some, hw_G_1 F1, Option.bind_some, hw_wI_n (by omega), s3, nI_1, hw_W_1 F1, Option.bind_some, hw_P_0_0 F2, Option.bind_some, hw_G_1 F2, Option.bind_some, hw_wI_y]
        refine ⟨_, _, _, rfl, ?_, Jv_d hJ dd sA (rel_tk (d3 := c3 + 1) dd hr h20 hw_wI_y (by rw [hw_wI_n (by omega), hw_wI_n (by omega), hw_wI_y]) (fun i hi => ?_)), F2⟩
        · have a1 : (1332 : Int32) + nI c3 = nI (1332 + c3) := nI_add 1332 c3
          have z3 : (hw_wI 1 7 (nI (c3 + 1)) (hw_wI 5 c3 d σ)).2.2.1 42 3 = nI c3 := by rw [hw_wI_n (by omega), hw_wI_n (by omega), w3]
          have z4 : (hw_wI 42 (1332 + c3) d (hw_wI 1 7 (nI (c3 + 1)) (hw_wI 5 c3 d σ))).2.2.1 42 3 = nI c3 := by rw [hw_wI_n (by omega), z3]
          rw [if_neg dm, e12_isDoing_y hd, Option.bind_some, hw_if10, hw_P_41_1 F2, Option.bind_some, hw_Z_3 F2, Option.bind_some, z3, if_neg (show ¬ nI c3 = (20 : Int32) from fun c => by have := (nI_eq (b := 20) (by omega) (by decide)).mp c; omega), Option.bind_some, Option.bind_some, hw_Z_3 F2, Option.bind_some, z3, a1, hw_B_42 F2 (by omega), Option.bind_some, hw_P_41_1 F3, Option.bind_some, hw_Z_3 F3, Option.bind_some, z4, nI_1, show (3 : Int32) = nI 3 from rfl, hw_B_42 F3 (by decide), Option.bind_some, hw_P_41_1 F4, Option.bind_some, hw_A_42 F4 (by decide), Option.bind_some, hw_wI_y]
        · by_cases hi3 : i = c3
          · rw [hi3]
            have a : (hw_wI 42 3 (nI (c3 + 1)) (hw_wI 42 (1332 + c3) d (hw_wI 1 7 (nI (c3 + 1)) (hw_wI 5 c3 d σ)))).2.2.1 5 c3 = d := by rw [hw_wI_n (by omega), hw_wI_n (by omega), hw_wI_n (by omega), hw_wI_y]
            have b : (hw_wI 42 3 (nI (c3 + 1)) (hw_wI 42 (1332 + c3) d (hw_wI 1 7 (nI (c3 + 1)) (hw_wI 5 c3 d σ)))).2.2.1 42 (1332 + c3) = d := by rw [hw_wI_n (by omega), hw_wI_y]
            rw [a, b]
            exact ⟨rfl, hd⟩
          · have a : (hw_wI 42 3 (nI (c3 + 1)) (hw_wI 42 (1332 + c3) d (hw_wI 1 7 (nI (c3 + 1)) (hw_wI 5 c3 d σ)))).2.2.1 5 i = σ.2.2.1 5 i := by rw [hw_wI_n (by omega), hw_wI_n (by omega), hw_wI_n (by omega), hw_wI_n (by omega)]
            have b : (hw_wI 42 3 (nI (c3 + 1)) (hw_wI 42 (1332 + c3) d (hw_wI 1 7 (nI (c3 + 1)) (hw_wI 5 c3 d σ)))).2.2.1 42 (1332 + i) = σ.2.2.1 42 (1332 + i) := by rw [hw_wI_n (by omega), hw_wI_n (by omega), hw_wI_n (by omega), hw_wI_n (by omega)]
            rw [a, b]
            exact htk i (by omega)
      · rw [if_neg (show ¬ nI c3 < (20 : Int32) from nI_nlt (b := 20) (by omega) (by omega))]
        refine ⟨_, σ, σ, rfl, ?_, hJ, hF⟩
        have e20 : c3 = 20 := by omega
        subst e20
        rw [if_neg dm, e12_isDoing_y hd, Option.bind_some, hw_if10, hw_P_41_1 hF, Option.bind_some, hw_Z_3 hF, Option.bind_some, w3, if_pos (show nI 20 = (20 : Int32) from rfl)]
    · rw [e11_isDoing_n hd, Option.bind_some, hw_if00]
      refine ⟨_, σ, σ, rfl, ?_, hJ, hF⟩
      rw [if_neg dm, e12_isDoing_n hd, Option.bind_some, hw_if00]
def hw_awt (a k : Nat) : Prop := (a = 1 ∧ k = 9) ∨ a = 6 ∨ (a = 42 ∧ (k = 4 ∨ (1352 ≤ k ∧ k < 1360)))
theorem rel_wt {σ τ : hw_S} {c0 c1 c2 c3 c4 c5 d4 : Nat} (h : hw_d hw_awt σ τ) (hr : hw_rel σ 1 (σ.2.2.1 42) c0 c1 c2 c3 c4 c5) (b4 : d4 ≤ 8) (w4 : τ.2.2.1 42 4 = nI d4) (s4 : τ.2.2.1 1 9 = nI d4) (r8 : ∀ i, i < d4 → τ.2.2.1 6 i = τ.2.2.1 42 (1352 + i) ∧ ∃ q : Nat, q ≤ 4 ∧ τ.2.2.1 42 (1352 + i) = nI q) : hw_R0 τ 1 (τ.2.2.1 42) := by
  obtain ⟨⟨-, -, g2, g3, -, g5⟩, ⟨-, -, w2, w3, -, w5⟩, ⟨-, -, s2, s3, -, s5⟩, -, -, r6, r7, -, r9⟩ := id hr
  have K : ∀ a k, ¬ hw_awt a k → τ.2.2.1 a k = σ.2.2.1 a k := h.2.2.2
  refine rel_d h (fun a k c => by unfold hw_awt at c; omega) hr (fun k c => by unfold hw_awt at c; omega) (fun k c => by unfold hw_awt at c; omega) (fun k c => by unfold hw_awt at c; omega) rfl rfl g2 g3 b4 g5 ((K 42 2 (by unfold hw_awt; omega)).trans w2) ((K 42 3 (by unfold hw_awt; omega)).trans w3) w4 ((K 42 5 (by unfold hw_awt; omega)).trans w5) ((K 1 13 (by unfold hw_awt; omega)).trans s2) ((K 1 7 (by unfold hw_awt; omega)).trans s3) s4 ((K 1 5 (by unfold hw_awt; omega)).trans s5) (fun i hi => ?_) (fun i hi => ?_) r8 (fun i hi => ?_)
  · rw [K 4 i (by unfold hw_awt; omega), K 42 (10 + i) (by unfold hw_awt; omega)]; exact r6 i hi
  · rw [K 5 i (by unfold hw_awt; omega), K 42 (1332 + i) (by unfold hw_awt; omega)]; exact r7 i hi
  · rw [K 7 i (by unfold hw_awt; omega), K 8 i (by unfold hw_awt; omega), K 9 i (by unfold hw_awt; omega), K 42 (1360 + i) (by unfold hw_awt; omega), K 42 (1372 + i) (by unfold hw_awt; omega), K 42 (1384 + i) (by unfold hw_awt; omega)]; exact r9 i hi
theorem j_want {σ : hw_S} (hJ : hw_Jv σ) (d : Int32) : ∃ r σ1 τ, m11_want 0 d σ = some (r, σ1) ∧ m12_want 41 d σ1 = some (r, τ) ∧ hw_Jv τ ∧ hw_F σ1 := by
  obtain ⟨hF, p1, p2, ⟨c0, c1, c2, c3, c4, c5, hr⟩, him, htr⟩ := id hJ
  have s4 : σ.2.2.1 1 9 = nI c4 := hr.2.2.1.2.2.2.2.1
  have w4 : σ.2.2.1 42 4 = nI c4 := hr.2.1.2.2.2.2.1
  have b4 : c4 ≤ 8 := hr.1.2.2.2.2.1
  have hrw : ∀ i, i < c4 → σ.2.2.1 6 i = σ.2.2.1 42 (1352 + i) ∧ ∃ q : Nat, q ≤ 4 ∧ σ.2.2.1 42 (1352 + i) = nI q := hr.2.2.2.2.2.2.2.1
  have sA : ∀ a k, hw_awt a k → a = 1 ∨ (4 ≤ a ∧ a ≤ 9) ∨ a = 42 := fun a k c => by unfold hw_awt at c; omega
  unfold m11_want m12_want
  by_cases dm : d = (-1 : Int32)
  · rw [if_pos dm, hw_P_0_0 hF, Option.bind_some, hw_W_1 hF, Option.bind_some]
    have F1 : hw_F (hw_wI 1 9 0 σ) := hF
    have dd : hw_d hw_awt σ (hw_wI 42 4 0 (hw_wI 1 9 0 σ)) := (hw_d.wI (by unfold hw_awt; omega)).tr (hw_d.wI (by unfold hw_awt; omega))
    refine ⟨0, _, hw_wI 42 4 0 (hw_wI 1 9 0 σ), rfl, ?_, Jv_d hJ dd sA (rel_wt (d4 := 0) dd hr (by decide) hw_wI_y (by rw [hw_wI_n (by omega), hw_wI_y]; rfl) (fun i hi => absurd hi (Nat.not_lt_zero i))), F1⟩
    rw [if_pos dm, hw_P_41_1 F1, Option.bind_some, show (4 : Int32) = nI 4 from rfl, hw_B_42 F1 (by decide), Option.bind_some]
  · rw [if_neg dm, e11_isForm, Option.bind_some, hw_itb]
    have ein : m12_in d (0 : Int32) (4 : Int32) = some (hw_tb (nI 0 ≤ d ∧ d ≤ nI 4)) := e12_in d 0 4
    by_cases hd : nI 0 ≤ d ∧ d ≤ nI 4
    · rw [if_pos hd, hw_P_0_0 hF, Option.bind_some, hw_G_1 hF, Option.bind_some, s4, Option.bind_some]
      by_cases h20 : c4 < 8
      · have F1 : hw_F (hw_wI 6 c4 d σ) := hF
        have F2 : hw_F (hw_wI 1 9 (nI (c4 + 1)) (hw_wI 6 c4 d σ)) := hF
        have F3 : hw_F (hw_wI 42 (1352 + c4) d (hw_wI 1 9 (nI (c4 + 1)) (hw_wI 6 c4 d σ))) := hF
        have F4 : hw_F (hw_wI 42 4 (nI (c4 + 1)) (hw_wI 42 (1352 + c4) d (hw_wI 1 9 (nI (c4 + 1)) (hw_wI 6 c4 d σ)))) := hF
        have dd : hw_d hw_awt σ (hw_wI 42 4 (nI (c4 + 1)) (hw_wI 42 (1352 + c4) d (hw_wI 1 9 (nI (c4 + 1)) (hw_wI 6 c4 d σ)))) := (((hw_d.wI (by unfold hw_awt; omega)).tr (hw_d.wI (by unfold hw_awt; omega))).tr (hw_d.wI (by unfold hw_awt; omega))).tr (hw_d.wI (by unfold hw_awt; omega))
        rw [if_pos (show nI c4 < (8 : Int32) from nI_lt (b := 8) h20 (by decide)), hw_P_1_8 hF, Option.bind_some, Option.bind_some, hw_G_1 hF, Option.bind_some, s4, hw_B_6 hF h20, Option.bind_some, hw_P_0_0 F1, Option.bind_some, hw_G_1 F1, Option.bind_some, hw_wI_n (by omega), s4, nI_1, hw_W_1 F1, Option.bind_some, hw_P_0_0 F2, Option.bind_some, hw_G_1 F2, Option.bind_some, hw_wI_y]
        refine ⟨_, _, _, rfl, ?_, Jv_d hJ dd sA (rel_wt (d4 := c4 + 1) dd hr h20 hw_wI_y (by rw [hw_wI_n (by omega), hw_wI_n (by omega), hw_wI_y]) (fun i hi => ?_)), F2⟩
        · have a1 : (1352 : Int32) + nI c4 = nI (1352 + c4) := nI_add 1352 c4
          have z3 : (hw_wI 1 9 (nI (c4 + 1)) (hw_wI 6 c4 d σ)).2.2.1 42 4 = nI c4 := by rw [hw_wI_n (by omega), hw_wI_n (by omega), w4]
          have z4 : (hw_wI 42 (1352 + c4) d (hw_wI 1 9 (nI (c4 + 1)) (hw_wI 6 c4 d σ))).2.2.1 42 4 = nI c4 := by rw [hw_wI_n (by omega), z3]
          rw [if_neg dm, ein, Option.bind_some, hw_itb, if_pos hd, hw_P_41_1 F2, Option.bind_some, hw_Z_4 F2, Option.bind_some, z3, if_neg (show ¬ nI c4 = (8 : Int32) from fun c => by have := (nI_eq (b := 8) (by omega) (by decide)).mp c; omega), Option.bind_some, Option.bind_some, hw_Z_4 F2, Option.bind_some, z3, a1, hw_B_42 F2 (by omega), Option.bind_some, hw_P_41_1 F3, Option.bind_some, hw_Z_4 F3, Option.bind_some, z4, nI_1, show (4 : Int32) = nI 4 from rfl, hw_B_42 F3 (by decide), Option.bind_some, hw_P_41_1 F4, Option.bind_some, hw_A_42 F4 (by decide), Option.bind_some, hw_wI_y]
        · obtain ⟨q, q1, q2, rfl⟩ := hw_win (lo := 0) (hi := 4) (by decide) (by decide) hd
          by_cases hi3 : i = c4
          · rw [hi3]
            have a : (hw_wI 42 4 (nI (c4 + 1)) (hw_wI 42 (1352 + c4) (nI q) (hw_wI 1 9 (nI (c4 + 1)) (hw_wI 6 c4 (nI q) σ)))).2.2.1 6 c4 = nI q := by rw [hw_wI_n (by omega), hw_wI_n (by omega), hw_wI_n (by omega), hw_wI_y]
            have b : (hw_wI 42 4 (nI (c4 + 1)) (hw_wI 42 (1352 + c4) (nI q) (hw_wI 1 9 (nI (c4 + 1)) (hw_wI 6 c4 (nI q) σ)))).2.2.1 42 (1352 + c4) = nI q := by rw [hw_wI_n (by omega), hw_wI_y]
            rw [a, b]
            exact ⟨rfl, q, q2, rfl⟩
          · have a : (hw_wI 42 4 (nI (c4 + 1)) (hw_wI 42 (1352 + c4) (nI q) (hw_wI 1 9 (nI (c4 + 1)) (hw_wI 6 c4 (nI q) σ)))).2.2.1 6 i = σ.2.2.1 6 i := by rw [hw_wI_n (by omega), hw_wI_n (by omega), hw_wI_n (by omega), hw_wI_n (by omega)]
            have b : (hw_wI 42 4 (nI (c4 + 1)) (hw_wI 42 (1352 + c4) (nI q) (hw_wI 1 9 (nI (c4 + 1)) (hw_wI 6 c4 (nI q) σ)))).2.2.1 42 (1352 + i) = σ.2.2.1 42 (1352 + i) := by rw [hw_wI_n (by omega), hw_wI_n (by omega), hw_wI_n (by omega), hw_wI_n (by omega)]
            rw [a, b]
            exact hrw i (by omega)
      · rw [if_neg (show ¬ nI c4 < (8 : Int32) from nI_nlt (b := 8) (by omega) (by omega))]
        refine ⟨_, σ, σ, rfl, ?_, hJ, hF⟩
        have e20 : c4 = 8 := by omega
        subst e20
        rw [if_neg dm, ein, Option.bind_some, hw_itb, if_pos hd, hw_P_41_1 hF, Option.bind_some, hw_Z_4 hF, Option.bind_some, w4, if_pos (show nI 8 = (8 : Int32) from rfl)]
    · rw [if_neg hd]
      refine ⟨_, σ, σ, rfl, ?_, hJ, hF⟩
      rw [if_neg dm, ein, Option.bind_some, hw_itb, if_neg hd]
def hw_afm (a k : Nat) : Prop := (a = 1 ∧ k = 13) ∨ a = 7 ∨ a = 8 ∨ a = 9 ∨ (a = 42 ∧ (k = 2 ∨ (1360 ≤ k ∧ k < 1396)))
theorem rel_fm {σ τ : hw_S} {c0 c1 c2 c3 c4 c5 d2 : Nat} (h : hw_d hw_afm σ τ) (hr : hw_rel σ 1 (σ.2.2.1 42) c0 c1 c2 c3 c4 c5) (b2 : d2 ≤ 12) (w2 : τ.2.2.1 42 2 = nI d2) (s2 : τ.2.2.1 1 13 = nI d2) (r9 : ∀ i, i < d2 → τ.2.2.1 7 i = τ.2.2.1 42 (1360 + i) ∧ τ.2.2.1 8 i = τ.2.2.1 42 (1372 + i) ∧ τ.2.2.1 9 i = τ.2.2.1 42 (1384 + i) ∧ (∃ q : Nat, q < c0 ∧ τ.2.2.1 42 (1360 + i) = nI q) ∧ hw_dok (τ.2.2.1 42 (1372 + i)) ∧ ∃ q : Nat, q ≤ 999 ∧ τ.2.2.1 42 (1384 + i) = nI q) : hw_R0 τ 1 (τ.2.2.1 42) := by
  obtain ⟨⟨-, -, -, g3, g4, g5⟩, ⟨-, -, -, w3, w4, w5⟩, ⟨-, -, -, s3, s4, s5⟩, -, -, r6, r7, r8, -⟩ := id hr
  have K : ∀ a k, ¬ hw_afm a k → τ.2.2.1 a k = σ.2.2.1 a k := h.2.2.2
  refine rel_d h (fun a k c => by unfold hw_afm at c; omega) hr (fun k c => by unfold hw_afm at c; omega) (fun k c => by unfold hw_afm at c; omega) (fun k c => by unfold hw_afm at c; omega) rfl rfl b2 g3 g4 g5 w2 ((K 42 3 (by unfold hw_afm; omega)).trans w3) ((K 42 4 (by unfold hw_afm; omega)).trans w4) ((K 42 5 (by unfold hw_afm; omega)).trans w5) s2 ((K 1 7 (by unfold hw_afm; omega)).trans s3) ((K 1 9 (by unfold hw_afm; omega)).trans s4) ((K 1 5 (by unfold hw_afm; omega)).trans s5) (fun i hi => ?_) (fun i hi => ?_) (fun i hi => ?_) r9
  · rw [K 4 i (by unfold hw_afm; omega), K 42 (10 + i) (by unfold hw_afm; omega)]; exact r6 i hi
  · rw [K 5 i (by unfold hw_afm; omega), K 42 (1332 + i) (by unfold hw_afm; omega)]; exact r7 i hi
  · rw [K 6 i (by unfold hw_afm; omega), K 42 (1352 + i) (by unfold hw_afm; omega)]; exact r8 i hi
theorem j_film {σ : hw_S} (hJ : hw_Jv σ) (x d t : Int32) : ∃ r σ1 τ, m11_film 0 x d t σ = some (r, σ1) ∧ m12_film 41 x d t σ1 = some (r, τ) ∧ hw_Jv τ ∧ hw_F σ1 := by
  obtain ⟨hF, p1, p2, ⟨c0, c1, c2, c3, c4, c5, hr⟩, him, htr⟩ := id hJ
  have s2 : σ.2.2.1 1 13 = nI c2 := hr.2.2.1.2.2.1
  have w2 : σ.2.2.1 42 2 = nI c2 := hr.2.1.2.2.1
  have b2 : c2 ≤ 12 := hr.1.2.2.1
  have hfm : ∀ i, i < c2 → σ.2.2.1 7 i = σ.2.2.1 42 (1360 + i) ∧ σ.2.2.1 8 i = σ.2.2.1 42 (1372 + i) ∧ σ.2.2.1 9 i = σ.2.2.1 42 (1384 + i) ∧ (∃ q : Nat, q < c0 ∧ σ.2.2.1 42 (1360 + i) = nI q) ∧ hw_dok (σ.2.2.1 42 (1372 + i)) ∧ ∃ q : Nat, q ≤ 999 ∧ σ.2.2.1 42 (1384 + i) = nI q := hr.2.2.2.2.2.2.2.2
  have sA : ∀ a k, hw_afm a k → a = 1 ∨ (4 ≤ a ∧ a ≤ 9) ∨ a = 42 := fun a k c => by unfold hw_afm at c; omega
  have ein1 : m11_isWithin t (0 : Int32) (999 : Int32) = some (hw_tb (nI 0 ≤ t ∧ t ≤ nI 999)) := e11_isWithin t 0 999
  have ein : m12_in t (0 : Int32) (999 : Int32) = some (hw_tb (nI 0 ≤ t ∧ t ≤ nI 999)) := e12_in t 0 999
  unfold m11_film m12_film m11_film_b32 m12_film_b28
  rcases x_stuff hF hr x with ⟨st, sa, hsc, hs5, rfl, es, ms, hsf⟩ | ⟨-, es, ms⟩
  · rw [hw_V_0 hF, Option.bind_some, es, Option.bind_some, hw_ifs]
    by_cases hd : hw_dok d
    · rw [e11_isDoing_y hd, Option.bind_some, hw_if10, ein1, Option.bind_some, hw_itb]
      by_cases ht : nI 0 ≤ t ∧ t ≤ nI 999
      · rw [if_pos ht, hw_P_0_0 hF, Option.bind_some, hw_G_1 hF, Option.bind_some, s2, Option.bind_some]
        by_cases h12 : c2 < 12
        · have F1 : hw_F (hw_wI 7 c2 (nI st) σ) := hF
          have F2 : hw_F (hw_wI 8 c2 d (hw_wI 7 c2 (nI st) σ)) := hF
          have F3 : hw_F (hw_wI 9 c2 t (hw_wI 8 c2 d (hw_wI 7 c2 (nI st) σ))) := hF
          have F4 : hw_F (hw_wI 1 13 (nI (c2 + 1)) (hw_wI 9 c2 t (hw_wI 8 c2 d (hw_wI 7 c2 (nI st) σ)))) := hF
          have d4 : hw_d hw_afm σ (hw_wI 1 13 (nI (c2 + 1)) (hw_wI 9 c2 t (hw_wI 8 c2 d (hw_wI 7 c2 (nI st) σ)))) := (((hw_d.wI (by unfold hw_afm; omega)).tr (hw_d.wI (by unfold hw_afm; omega))).tr (hw_d.wI (by unfold hw_afm; omega))).tr (hw_d.wI (by unfold hw_afm; omega))
          have y1 : (hw_wI 7 c2 (nI st) σ).2.2.1 1 13 = nI c2 := by rw [hw_wI_n (by omega), s2]
          have y2 : (hw_wI 8 c2 d (hw_wI 7 c2 (nI st) σ)).2.2.1 1 13 = nI c2 := by rw [hw_wI_n (by omega), y1]
          have y3 : (hw_wI 9 c2 t (hw_wI 8 c2 d (hw_wI 7 c2 (nI st) σ))).2.2.1 1 13 = nI c2 := by rw [hw_wI_n (by omega), y2]
          rw [if_pos (show nI c2 < (12 : Int32) from nI_lt (b := 12) h12 (by decide)), hw_P_1_10 hF, Option.bind_some, Option.bind_some, hw_G_1 hF, Option.bind_some, s2, hw_B_7 hF h12, Option.bind_some, hw_P_0_0 F1, Option.bind_some, hw_P_1_11 F1, Option.bind_some, Option.bind_some, hw_G_1 F1, Option.bind_some, y1, hw_B_8 F1 h12, Option.bind_some, hw_P_0_0 F2, Option.bind_some, hw_P_1_12 F2, Option.bind_some, Option.bind_some, hw_G_1 F2, Option.bind_some, y2, hw_B_9 F2 h12, Option.bind_some, hw_P_0_0 F3, Option.bind_some, hw_G_1 F3, Option.bind_some, y3, nI_1, hw_W_1 F3, Option.bind_some]
          have isS : ∀ τ, hw_d hw_afm σ τ → m12_isStuff 41 (nI st) τ = some 1 := by
            intro τ hd
            unfold m12_isStuff
            rw [hw_P_41_1 (hd.F hF), Option.bind_some, hw_Z_0 (hd.F hF), Option.bind_some, hd.2.2.2 42 0 (by unfold hw_afm; omega), hr.2.1.1, e12_in, Option.bind_some, hw_tf_tb, Option.bind_some, hw_tb1 (show (0 : Int32) ≤ nI st ∧ nI st ≤ nI c0 - 1 from hw_in1 hsc (by have := hr.1.1; omega))]
          have m1 := isS _ d4
          have v2 : (hw_wI 1 13 (nI (c2 + 1)) (hw_wI 9 c2 t (hw_wI 8 c2 d (hw_wI 7 c2 (nI st) σ)))).2.2.1 42 2 = nI c2 := by rw [hw_wI_n (by omega), hw_wI_n (by omega), hw_wI_n (by omega), hw_wI_n (by omega), w2]
          have K42 : ∀ k, 1000 ≤ k → (hw_wI 1 13 (nI (c2 + 1)) (hw_wI 9 c2 t (hw_wI 8 c2 d (hw_wI 7 c2 (nI st) σ)))).2.2.1 42 k = σ.2.2.1 42 k := fun k _ => by rw [hw_wI_n (by omega), hw_wI_n (by omega), hw_wI_n (by omega), hw_wI_n (by omega)]
          have j13 : (hw_wI 1 13 (nI (c2 + 1)) (hw_wI 9 c2 t (hw_wI 8 c2 d (hw_wI 7 c2 (nI st) σ)))).2.2.1 1 13 = nI (c2 + 1) := hw_wI_y
          have K : ∀ i, i ≤ c2 → (hw_wI 1 13 (nI (c2 + 1)) (hw_wI 9 c2 t (hw_wI 8 c2 d (hw_wI 7 c2 (nI st) σ)))).2.2.1 7 i = (if i = c2 then nI st else σ.2.2.1 7 i) ∧ (hw_wI 1 13 (nI (c2 + 1)) (hw_wI 9 c2 t (hw_wI 8 c2 d (hw_wI 7 c2 (nI st) σ)))).2.2.1 8 i = (if i = c2 then d else σ.2.2.1 8 i) ∧ (hw_wI 1 13 (nI (c2 + 1)) (hw_wI 9 c2 t (hw_wI 8 c2 d (hw_wI 7 c2 (nI st) σ)))).2.2.1 9 i = (if i = c2 then t else σ.2.2.1 9 i) := by
            intro i hi
            by_cases hic : i = c2
            · subst hic
              rw [if_pos rfl, if_pos rfl, if_pos rfl]
              refine ⟨?_, ?_, ?_⟩
              · rw [hw_wI_n (by omega), hw_wI_n (by omega), hw_wI_n (by omega), hw_wI_y]
              · rw [hw_wI_n (by omega), hw_wI_n (by omega), hw_wI_y]
              · rw [hw_wI_n (by omega), hw_wI_y]
            · rw [if_neg hic, if_neg hic, if_neg hic]
              refine ⟨?_, ?_, ?_⟩
              · rw [hw_wI_n (by omega), hw_wI_n (by omega), hw_wI_n (by omega), hw_wI_n (by omega)]
              · rw [hw_wI_n (by omega), hw_wI_n (by omega), hw_wI_n (by omega), hw_wI_n (by omega)]
              · rw [hw_wI_n (by omega), hw_wI_n (by omega), hw_wI_n (by omega), hw_wI_n (by omega)]
          generalize hw_wI 1 13 (nI (c2 + 1)) (hw_wI 9 c2 t (hw_wI 8 c2 d (hw_wI 7 c2 (nI st) σ))) = ρ at d4 F4 m1 v2 j13 K K42 ⊢
          have F5 : hw_F (hw_wI 42 (1360 + c2) (nI st) ρ) := F4
          have F6 : hw_F (hw_wI 42 (1372 + c2) d (hw_wI 42 (1360 + c2) (nI st) ρ)) := F4
          have F7 : hw_F (hw_wI 42 (1384 + c2) t (hw_wI 42 (1372 + c2) d (hw_wI 42 (1360 + c2) (nI st) ρ))) := F4
          have F8 : hw_F (hw_wI 42 2 (nI (c2 + 1)) (hw_wI 42 (1384 + c2) t (hw_wI 42 (1372 + c2) d (hw_wI 42 (1360 + c2) (nI st) ρ)))) := F4
          have d8 : hw_d hw_afm σ (hw_wI 42 2 (nI (c2 + 1)) (hw_wI 42 (1384 + c2) t (hw_wI 42 (1372 + c2) d (hw_wI 42 (1360 + c2) (nI st) ρ)))) := (((d4.tr (hw_d.wI (by unfold hw_afm; omega))).tr (hw_d.wI (by unfold hw_afm; omega))).tr (hw_d.wI (by unfold hw_afm; omega))).tr (hw_d.wI (by unfold hw_afm; omega))
          have v5 : (hw_wI 42 (1360 + c2) (nI st) ρ).2.2.1 42 2 = nI c2 := by rw [hw_wI_n (by omega), v2]
          have v6 : (hw_wI 42 (1372 + c2) d (hw_wI 42 (1360 + c2) (nI st) ρ)).2.2.1 42 2 = nI c2 := by rw [hw_wI_n (by omega), v5]
          have v7 : (hw_wI 42 (1384 + c2) t (hw_wI 42 (1372 + c2) d (hw_wI 42 (1360 + c2) (nI st) ρ))).2.2.1 42 2 = nI c2 := by rw [hw_wI_n (by omega), v6]
          refine ⟨nI c2, ρ, hw_wI 42 2 (nI (c2 + 1)) (hw_wI 42 (1384 + c2) t (hw_wI 42 (1372 + c2) d (hw_wI 42 (1360 + c2) (nI st) ρ))), rfl, ?_, Jv_d hJ d8 sA (rel_fm (d2 := c2 + 1) d8 hr h12 hw_wI_y (by rw [hw_wI_n (by omega), hw_wI_n (by omega), hw_wI_n (by omega), hw_wI_n (by omega), j13]) (fun i hi => ?_)), F4⟩
          · have a1 : (1360 : Int32) + nI c2 = nI (1360 + c2) := nI_add 1360 c2
            have a2 : (1372 : Int32) + nI c2 = nI (1372 + c2) := nI_add 1372 c2
            have a3 : (1384 : Int32) + nI c2 = nI (1384 + c2) := nI_add 1384 c2
            rw [hw_V_41 F4, Option.bind_some, m1, Option.bind_some, hw_if10, e12_isDoing_y hd, Option.bind_some, hw_if10, ein, Option.bind_some, hw_itb, if_pos ht, hw_P_41_1 F4, Option.bind_some, hw_Z_2 F4, Option.bind_some, v2, if_neg (show ¬ nI c2 = (12 : Int32) from fun c => by have := (nI_eq (b := 12) (by omega) (by decide)).mp c; omega), Option.bind_some, Option.bind_some, hw_Z_2 F4, Option.bind_some, v2, a1, hw_B_42 F4 (by omega), Option.bind_some, hw_P_41_1 F5, Option.bind_some, Option.bind_some, hw_Z_2 F5, Option.bind_some, v5, a2, hw_B_42 F5 (by omega), Option.bind_some, hw_P_41_1 F6, Option.bind_some, Option.bind_some, hw_Z_2 F6, Option.bind_some, v6, a3, hw_B_42 F6 (by omega), Option.bind_some, hw_P_41_1 F7, Option.bind_some, hw_Z_2 F7, Option.bind_some, v7, nI_1, show (2 : Int32) = nI 2 from rfl, hw_B_42 F7 (by decide), Option.bind_some, hw_P_41_1 F8, Option.bind_some, hw_A_42 F8 (by decide), Option.bind_some, hw_wI_y, show nI (c2 + 1) - (1 : Int32) = nI c2 from nI_pred c2]
          · have k := K i (by omega)
            have N : ∀ a, a ≠ 42 → (hw_wI 42 2 (nI (c2 + 1)) (hw_wI 42 (1384 + c2) t (hw_wI 42 (1372 + c2) d (hw_wI 42 (1360 + c2) (nI st) ρ)))).2.2.1 a i = ρ.2.2.1 a i := fun a ha => by rw [hw_wI_n (by omega), hw_wI_n (by omega), hw_wI_n (by omega), hw_wI_n (by omega)]
            rw [N 7 (by decide), N 8 (by decide), N 9 (by decide), k.1, k.2.1, k.2.2]
            obtain ⟨tt, tt1, tt2, rfl⟩ := hw_win (lo := 0) (hi := 999) (by decide) (by decide) ht
            by_cases hic : i = c2
            · rw [if_pos hic, if_pos hic, if_pos hic, hic]
              have z1 : (hw_wI 42 2 (nI (c2 + 1)) (hw_wI 42 (1384 + c2) (nI tt) (hw_wI 42 (1372 + c2) d (hw_wI 42 (1360 + c2) (nI st) ρ)))).2.2.1 42 (1360 + c2) = nI st := by rw [hw_wI_n (by omega), hw_wI_n (by omega), hw_wI_n (by omega), hw_wI_y]
              have z2 : (hw_wI 42 2 (nI (c2 + 1)) (hw_wI 42 (1384 + c2) (nI tt) (hw_wI 42 (1372 + c2) d (hw_wI 42 (1360 + c2) (nI st) ρ)))).2.2.1 42 (1372 + c2) = d := by rw [hw_wI_n (by omega), hw_wI_n (by omega), hw_wI_y]
              have z3 : (hw_wI 42 2 (nI (c2 + 1)) (hw_wI 42 (1384 + c2) (nI tt) (hw_wI 42 (1372 + c2) d (hw_wI 42 (1360 + c2) (nI st) ρ)))).2.2.1 42 (1384 + c2) = nI tt := by rw [hw_wI_n (by omega), hw_wI_y]
              rw [z1, z2, z3]
              exact ⟨rfl, rfl, rfl, ⟨st, hsc, rfl⟩, hd, tt, tt2, rfl⟩
            · rw [if_neg hic, if_neg hic, if_neg hic]
              have z : ∀ b, b = 1360 ∨ b = 1372 ∨ b = 1384 → (hw_wI 42 2 (nI (c2 + 1)) (hw_wI 42 (1384 + c2) (nI tt) (hw_wI 42 (1372 + c2) d (hw_wI 42 (1360 + c2) (nI st) ρ)))).2.2.1 42 (b + i) = σ.2.2.1 42 (b + i) := fun b hb => by rw [hw_wI_n (by omega), hw_wI_n (by omega), hw_wI_n (by omega), hw_wI_n (by omega), K42 (b + i) (by omega)]
              rw [z 1360 (by decide), z 1372 (by decide), z 1384 (by decide)]
              exact hfm i (by omega)
        · rw [if_neg (show ¬ nI c2 < (12 : Int32) from nI_nlt (b := 12) (by omega) (by omega))]
          refine ⟨_, σ, σ, rfl, ?_, hJ, hF⟩
          have e20 : c2 = 12 := by omega
          subst e20
          rw [hw_V_41 hF, Option.bind_some, ms σ hw_d.rf, Option.bind_some, hw_if10, e12_isDoing_y hd, Option.bind_some, hw_if10, ein, Option.bind_some, hw_itb, if_pos ht, hw_P_41_1 hF, Option.bind_some, hw_Z_2 hF, Option.bind_some, w2, if_pos (show nI 12 = (12 : Int32) from rfl)]
      · rw [if_neg ht]
        refine ⟨_, σ, σ, rfl, ?_, hJ, hF⟩
        rw [hw_V_41 hF, Option.bind_some, ms σ hw_d.rf, Option.bind_some, hw_if10, e12_isDoing_y hd, Option.bind_some, hw_if10, ein, Option.bind_some, hw_itb, if_neg ht]
    · rw [e11_isDoing_n hd, Option.bind_some, hw_if00]
      refine ⟨_, σ, σ, rfl, ?_, hJ, hF⟩
      rw [hw_V_41 hF, Option.bind_some, ms σ hw_d.rf, Option.bind_some, hw_if10, e12_isDoing_n hd, Option.bind_some, hw_if00]
  · rw [hw_V_0 hF, Option.bind_some, es, Option.bind_some, hw_ifn]
    refine ⟨_, σ, σ, rfl, ?_, hJ, hF⟩
    rw [hw_V_41 hF, Option.bind_some, ms σ hw_d.rf, Option.bind_some, hw_if00]
