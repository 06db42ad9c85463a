/-! the pure layer: image, undo, the calls -/
theorem r_image : ∀ d i fuel ρ, i + d = 1396 → d < fuel → hw_F ρ → ∃ τ, m12_image_b2 fuel 41 (nI i) ρ = some (ρ.2.2.1 42 1, τ) ∧ hw_d (fun a k => a = 43 ∨ (a = 41 ∧ k = 3)) ρ τ ∧ τ.2.2.1 41 3 = 1 ∧ (∀ k, i ≤ k → k < 1396 → τ.2.2.1 43 k = ρ.2.2.1 42 k) ∧ ∀ k, k < i → τ.2.2.1 43 k = ρ.2.2.1 43 k := by
  intro d
  induction d with
  | zero =>
    intro i fuel ρ e hf hF
    obtain ⟨fuel, rfl⟩ : ∃ k, fuel = k + 1 := ⟨fuel - 1, by omega⟩
    have F1 : hw_F (hw_wI 41 3 1 ρ) := hF
    refine ⟨hw_wI 41 3 1 ρ, ?_, hw_d.wI (Or.inr ⟨rfl, rfl⟩), hw_wI_y, fun k h1 h2 => by omega, fun k hk => by rw [hw_wI_n (by omega)]⟩
    rw [m12_image_b2, if_pos (show (1396 : Int32) ≤ nI i from nI_le (a := 1396) (by omega) (by omega)), hw_tf_1, Option.bind_some, hw_W_41 hF, Option.bind_some, hw_P_41_1 F1, Option.bind_some, hw_Z_1 F1, Option.bind_some, hw_wI_n (by omega)]
  | succ d ih =>
    intro i fuel ρ e hf hF
    obtain ⟨fuel, rfl⟩ : ∃ k, fuel = k + 1 := ⟨fuel - 1, by omega⟩
    have hi : i < 1396 := by omega
    obtain ⟨τ, g1, g2, g3, g4, g5⟩ := ih (i + 1) fuel (hw_wI 43 i (ρ.2.2.1 42 i) ρ) (by omega) (by omega) hF
    refine ⟨τ, ?_, (hw_d.wI (A := fun a k => a = 43 ∨ (a = 41 ∧ k = 3)) (Or.inl rfl)).tr g2, g3, fun k h1 h2 => ?_, fun k hk => ?_⟩
    · rw [m12_image_b2, if_neg (show ¬ (1396 : Int32) ≤ nI i from nI_ge (b := 1396) hi (by decide)), hw_P_41_2 hF, Option.bind_some, hw_P_41_1 hF, Option.bind_some, hw_A_42 hF hi, Option.bind_some, hw_B_43 hF hi, Option.bind_some, nI_1, g1, hw_wI_n (by omega)]
    · by_cases hki : k = i
      · rw [hki, g5 i (by omega), hw_wI_y]
      · rw [g4 k (by omega) h2, hw_wI_n (by omega)]
    · rw [g5 k (by omega), hw_wI_n (by omega)]
theorem r_undo : ∀ d i fuel ρ, i + d = 1396 → d < fuel → hw_F ρ → ∃ τ, m12_undo_b12 fuel 41 (nI i) ρ = some (τ.2.2.1 42 1, τ) ∧ hw_d (fun a _ => a = 42) ρ τ ∧ (∀ k, i ≤ k → k < 1396 → τ.2.2.1 42 k = ρ.2.2.1 43 k) ∧ ∀ k, k < i → τ.2.2.1 42 k = ρ.2.2.1 42 k := by
  intro d
  induction d with
  | zero =>
    intro i fuel ρ e hf hF
    obtain ⟨fuel, rfl⟩ : ∃ k, fuel = k + 1 := ⟨fuel - 1, by omega⟩
    refine ⟨ρ, ?_, hw_d.rf, fun k h1 h2 => by omega, fun k hk => rfl⟩
    rw [m12_undo_b12, if_pos (show (1396 : Int32) ≤ nI i from nI_le (a := 1396) (by omega) (by omega)), hw_P_41_1 hF, Option.bind_some, hw_Z_1 hF, Option.bind_some]
  | succ d ih =>
    intro i fuel ρ e hf hF
    obtain ⟨fuel, rfl⟩ : ∃ k, fuel = k + 1 := ⟨fuel - 1, by omega⟩
    have hi : i < 1396 := by omega
    obtain ⟨τ, g1, g2, g4, g5⟩ := ih (i + 1) fuel (hw_wI 42 i (ρ.2.2.1 43 i) ρ) (by omega) (by omega) hF
    refine ⟨τ, ?_, (hw_d.wI (A := fun a _ => a = 42) rfl).tr g2, fun k h1 h2 => ?_, fun k hk => ?_⟩
    · rw [m12_undo_b12, if_neg (show ¬ (1396 : Int32) ≤ nI i from nI_ge (b := 1396) hi (by decide)), hw_P_41_1 hF, Option.bind_some, hw_P_41_2 hF, Option.bind_some, hw_A_43 hF hi, Option.bind_some, hw_B_42 hF hi, Option.bind_some, nI_1, g1]
    · by_cases hki : k = i
      · rw [hki, g5 i (by omega), hw_wI_y]
      · rw [g4 k (by omega) h2, hw_wI_n (by omega)]
    · rw [g5 k (by omega), hw_wI_n (by omega)]
theorem j_image {σ : hw_S} (hJ : hw_Jv σ) : ∃ r σ1 τ, m11_image 0 σ = some (r, σ1) ∧ m12_image 41 σ1 = some (r, τ) ∧ hw_Jv τ ∧ hw_F σ1 := by
  obtain ⟨hF, p1, p2, ⟨c0, c1, c2, c3, c4, c5, hr⟩, him, n, hn, t1, t2, t3⟩ := id hJ
  obtain ⟨σ1, g1, ⟨g2, g3, g4, g5, g6⟩⟩ := c_bl10 hF p1
  have F1 : hw_F σ1 := g2.F hw_pb10_i hF
  have F2 : hw_F (hw_wI 0 2 1 σ1) := F1
  obtain ⟨τ, k1, k2, k3, k4, k5⟩ := r_image 1396 0 hw_fu (hw_wI 0 2 1 σ1) (by decide) (by decide) F2
  have C : hw_c (fun a k => hw_ab10 a k ∨ (a = 0 ∧ k = 2) ∨ a = 43 ∨ (a = 41 ∧ k = 3)) hw_pb10 σ τ := by
    have x1 : hw_c (fun a k => hw_ab10 a k ∨ (a = 0 ∧ k = 2) ∨ a = 43 ∨ (a = 41 ∧ k = 3)) hw_pb10 σ σ1 := g2.mono (fun a k h => Or.inl h) (fun _ _ h => h)
    have x2 : hw_c (fun a k => hw_ab10 a k ∨ (a = 0 ∧ k = 2) ∨ a = 43 ∨ (a = 41 ∧ k = 3)) hw_pb10 σ1 (hw_wI 0 2 1 σ1) := hw_c.wI (Or.inr (Or.inl ⟨rfl, rfl⟩))
    have x3 : hw_d (fun a k => hw_ab10 a k ∨ (a = 0 ∧ k = 2) ∨ a = 43 ∨ (a = 41 ∧ k = 3)) (hw_wI 0 2 1 σ1) τ := k2.mono (fun a k h => Or.inr (Or.inr h))
    exact (x1.tr x2).tr x3.c
  have Ci : ∀ a k, ¬ (hw_ab10 a k ∨ (a = 0 ∧ k = 2) ∨ a = 43 ∨ (a = 41 ∧ k = 3)) → τ.2.2.1 a k = σ.2.2.1 a k := C.2.2.2.1
  have Cp : ∀ a k, ¬ hw_pb10 a k → τ.2.2.2.1 a k = σ.2.2.2.1 a k := C.2.2.2.2
  have hk : hw_k σ τ := C.k (fun a k h => by unfold hw_ab10 at h; omega) (fun a k h => by unfold hw_pb10 at h; omega)
  have w1 : σ.2.2.1 42 1 = nI c1 := hr.2.1.2.1
  have s1 : σ.2.2.1 1 3 = nI c1 := hr.2.2.1.2.1
  have e1 : (hw_wI 0 2 1 σ1).2.2.1 42 1 = nI c1 := by rw [hw_wI_n (by omega), g2.2.2.2.1 42 1 (by unfold hw_ab10; omega), w1]
  have e2 : (hw_wI 0 2 1 σ1).2.2.1 1 3 = nI c1 := by rw [hw_wI_n (by omega), g2.2.2.2.1 1 3 (by unfold hw_ab10; omega), s1]
  -- numbers of τ at the kept State
  have T1 : ∀ a k, a ≠ 43 → a ≠ 41 → a ≠ 0 → τ.2.2.1 a k = σ1.2.2.1 a k := fun a k h1 h2 h3 => by rw [k2.2.2.2 a k (by omega), hw_wI_n (by omega)]
  have T2 : ∀ a k, τ.2.2.2.1 a k = σ1.2.2.2.1 a k := fun a k => by rw [k2.2.2.1]; rfl
  refine ⟨nI c1, hw_wI 0 2 1 σ1, τ, ?_, ?_, ⟨(C.F (fun a k h => hw_pb10_i a k h) hF), ?_, ?_, ⟨c0, c1, c2, c3, c4, c5, ?_⟩, Or.inr ⟨?_, k3, c0, c1, c2, c3, c4, c5, ?_⟩, n, hn, ?_, ?_, ?_⟩, F2⟩
  · unfold m11_image
    rw [hw_P_0_1 hF, Option.bind_some, hw_P_0_0 hF, Option.bind_some, hw_V_10 hF, Option.bind_some, g1, Option.bind_some, hw_tf_1, Option.bind_some, hw_W_0 F1, Option.bind_some, hw_P_0_0 F2, Option.bind_some, hw_G_1 F2, Option.bind_some, e2]
  · rw [e1] at k1
    exact k1
  · exact hw_pt_k hk (fun a k ha => Cp (1 + a) k (by unfold hw_pb10; omega)) p1
  · refine ⟨fun i hi a ha => ?_, fun i hi a ha => ?_⟩
    · have ha : τ.2.2.2.1 11 i = some a := ha
      rw [T2, g3 i hi] at ha
      have g := p1.1 i hi a ha
      rw [C.1, C.2.2.1]
      exact g
    · have ha : τ.2.2.2.1 12 i = some a := ha
      rw [T2, g4 i hi] at ha
      have g := p1.2 i hi a ha
      rw [C.1, C.2.2.1]
      exact g
  · exact hw_R0_k hk (fun k _ => Ci 42 k (by unfold hw_ab10; omega)) (fun k _ => Ci 1 k (by unfold hw_ab10; omega)) (fun d k h3 h8 _ => Ci (1 + d) k (by unfold hw_ab10; omega)) ⟨fun k _ => Cp 2 k (by unfold hw_pb10; omega), fun k _ => Cp 3 k (by unfold hw_pb10; omega)⟩ hr
  · rw [k2.2.2.2 0 2 (by omega), hw_wI_y]
  · refine hw_R0_k hk (fun k hk => ?_) (fun k hk => ?_) (fun d k h3 h8 hk => ?_) ⟨fun k hk => ?_, fun k hk => ?_⟩ hr
    · rw [k4 k (Nat.zero_le k) hk, hw_wI_n (by omega), g2.2.2.2.1 42 k (by unfold hw_ab10; omega)]
    · rw [T1 10 k (by decide) (by decide) (by decide)]; exact g5 k hk
    · rw [T1 (10 + d) k (by omega) (by omega) (by omega)]; exact g6 d k h3 h8 hk
    · rw [T2]; exact g3 k hk
    · rw [T2]; exact g4 k hk
  · rw [Ci 23 1 (by unfold hw_ab10; omega)]; exact t1
  · rw [Ci 41 22 (by unfold hw_ab10; omega)]; exact t2
  · intro i h1 h2
    rw [Ci 24 i (by unfold hw_ab10; omega), Ci 54 i (by unfold hw_ab10; omega)]
    exact t3 i h1 h2
theorem j_undo {σ : hw_S} (hJ : hw_Jv σ) : ∃ r σ1 τ, m11_undo 0 σ = some (r, σ1) ∧ m12_undo 41 σ1 = some (r, τ) ∧ hw_Jv τ ∧ hw_F σ1 := by
  obtain ⟨hF, p1, p2, -, him, htr⟩ := id hJ
  unfold m11_undo m12_undo
  rw [hw_G_0 hF, Option.bind_some]
  rcases him with ⟨a1, a2⟩ | ⟨a1, a2, c0, c1, c2, c3, c4, c5, hr⟩
  · rw [a1, hw_if00]
    refine ⟨_, σ, σ, rfl, ?_, hJ, hF⟩
    rw [hw_G_41 hF, Option.bind_some, a2, hw_if00]
  · obtain ⟨σ1, g1, ⟨g2, g3, g4, g5, g6⟩⟩ := c_bl1 hF p2
    have F1 : hw_F σ1 := g2.F hw_pb1_i hF
    obtain ⟨τ, k1, k2, k4, k5⟩ := r_undo 1396 0 hw_fu σ1 (by decide) (by decide) F1
    have C : hw_c (fun a k => hw_ab1 a k ∨ a = 42) hw_pb1 σ τ := by
      have x1 : hw_c (fun a k => hw_ab1 a k ∨ a = 42) hw_pb1 σ σ1 := g2.mono (fun a k h => Or.inl h) (fun _ _ h => h)
      have x3 : hw_d (fun a k => hw_ab1 a k ∨ a = 42) σ1 τ := k2.mono (fun a k h => Or.inr h)
      exact x1.tr x3.c
    have Ci : ∀ a k, ¬ (hw_ab1 a k ∨ a = 42) → τ.2.2.1 a k = σ.2.2.1 a k := C.2.2.2.1
    have Cp : ∀ a k, ¬ hw_pb1 a k → τ.2.2.2.1 a k = σ.2.2.2.1 a k := C.2.2.2.2
    have hk : hw_k σ τ := C.k (fun a k h => by unfold hw_ab1 at h; omega) (fun a k h => by unfold hw_pb1 at h; omega)
    have w1 : σ.2.2.1 43 1 = nI c1 := hr.2.1.2.1
    have s1 : σ.2.2.1 10 3 = nI c1 := hr.2.2.1.2.1
    have e2 : σ1.2.2.1 1 3 = nI c1 := (g5 3 (by omega)).trans s1
    have e1 : τ.2.2.1 42 1 = nI c1 := by rw [k4 1 (by decide) (by decide), g2.2.2.2.1 43 1 (by unfold hw_ab1; omega), w1]
    have T1 : ∀ a k, a ≠ 42 → τ.2.2.1 a k = σ1.2.2.1 a k := fun a k h1 => k2.2.2.2 a k h1
    have T2 : ∀ a k, τ.2.2.2.1 a k = σ1.2.2.2.1 a k := fun a k => by rw [k2.2.2.1]
    rw [a1, hw_if10, hw_P_0_0 hF, Option.bind_some, hw_P_0_1 hF, Option.bind_some, hw_V_1 hF, Option.bind_some, g1, Option.bind_some, hw_P_0_0 F1, Option.bind_some, hw_G_1 F1, Option.bind_some, e2]
    refine ⟨nI c1, σ1, τ, rfl, ?_, Jv_now hJ hk (C.F (fun a k h => hw_pb1_i a k h) hF) ?_ ?_ ⟨c0, c1, c2, c3, c4, c5, ?_⟩, F1⟩
    · rw [hw_G_41 F1, Option.bind_some, g2.2.2.2.1 41 3 (by unfold hw_ab1; omega), a2, hw_if10]
      rw [e1] at k1
      exact k1
    · refine ⟨fun i hi a ha => ?_, fun i hi a ha => ?_⟩
      · have ha : τ.2.2.2.1 2 i = some a := ha
        rw [T2, g3 i hi] at ha
        have g := p2.1 i hi a ha
        rw [C.1, C.2.2.1]
        exact g
      · have ha : τ.2.2.2.1 3 i = some a := ha
        rw [T2, g4 i hi] at ha
        have g := p2.2 i hi a ha
        rw [C.1, C.2.2.1]
        exact g
    · exact ⟨fun a k h => Ci a k (by unfold hw_ab1; omega), fun a k h => Cp a k (by unfold hw_pb1; omega)⟩
    · refine hw_R0_k (S := 10) (S' := 1) hk (fun k hk => ?_) (fun k hk => ?_) (fun d k h3 h8 hk => ?_) ⟨fun k hk => ?_, fun k hk => ?_⟩ hr
      · rw [k4 k (Nat.zero_le k) hk, g2.2.2.2.1 43 k (by unfold hw_ab1; omega)]
      · rw [T1 1 k (by decide)]; exact g5 k hk
      · rw [T1 (1 + d) k (by omega)]; exact g6 d k h3 h8 hk
      · rw [T2]; exact g3 k hk
      · rw [T2]; exact g4 k hk
