/-! the pure layer: the tape, read by class and by model: where they begin -/
def fmz (j : Nat) : Int32 := nI (3 * (j + 1))
def cI (n : Nat) (σ : hw_S) : hw_S := hw_wI 22 3 (fmz 3) (hw_wI 22 2 (fmz 2) (hw_wI 22 1 (fmz 1) (hw_wI 22 0 (fmz 0) (hw_wI 19 7 0 (hw_wI 19 6 20 (hw_wI 19 4 0 (hw_wI 19 2 0 (hw_wI 19 1 (nI n) σ))))))))
def rH (l n : Nat) (k v : Int32) (τ : hw_S) : hw_S := hw_wI 42 (148 + l) v (hw_wI 42 (140 + l) k (hw_wI 42 5 0 (hw_wI 41 6 (nI n) (hw_wI 41 4 (nI l) τ))))
def rI (l : Nat) (τ : hw_S) : hw_S := hw_wI 41 8 0 (hw_wI 41 7 0 (hw_wI 41 5 0 (hw_wI 42 (172 + 4 * l + 3) (fmz 3) (hw_wI 42 (172 + 4 * l + 2) (fmz 2) (hw_wI 42 (172 + 4 * l + 1) (fmz 1) (hw_wI 42 (172 + 4 * l + 0) (fmz 0) (hw_wI 42 (204 + l) 0 (hw_wI 42 (164 + l) 0 (hw_wI 42 (156 + l) 20 τ)))))))))
theorem Gd_0 : Gd fmz 20 0 := ⟨fun j hj => ⟨3 * (j + 1), by omega, rfl⟩, ⟨20, by decide, rfl⟩, 0, by decide, rfl⟩
theorem cI_ok {σ : hw_S} {n : Nat} (hF : hw_F σ) (h0 : σ.2.2.2.1 19 0 = some 4) (C : Nat → Int32) : cS (fun i => σ.2.2.1 4 i) n σ fmz 20 0 (cI n σ) 0 0 C := by
  unfold cI
  refine ⟨(((((((((hw_d.wI (by unfold hw_ard; omega)).tr (hw_d.wI (by unfold hw_ard; omega))).tr (hw_d.wI (by unfold hw_ard; omega))).tr (hw_d.wI (by unfold hw_ard; omega))).tr (hw_d.wI (by unfold hw_ard; omega))).tr (hw_d.wI (by unfold hw_ard; omega))).tr (hw_d.wI (by unfold hw_ard; omega))).tr (hw_d.wI (by unfold hw_ard; omega))).tr (hw_d.wI (by unfold hw_ard; omega))), hF, h0, ?_, ?_, ?_, fun i hi => ?_, fun j hj => ?_, ?_, ?_, fun j hj => absurd hj (Nat.not_lt_zero j)⟩
  · rw [hw_wI_n (by omega), hw_wI_n (by omega), hw_wI_n (by omega), hw_wI_n (by omega), hw_wI_n (by omega), hw_wI_n (by omega), hw_wI_n (by omega), hw_wI_n (by omega), hw_wI_y]
  · rw [hw_wI_n (by omega), hw_wI_n (by omega), hw_wI_n (by omega), hw_wI_n (by omega), hw_wI_n (by omega), hw_wI_n (by omega), hw_wI_n (by omega), hw_wI_y]; rfl
  · rw [hw_wI_n (by omega), hw_wI_n (by omega), hw_wI_n (by omega), hw_wI_n (by omega), hw_wI_n (by omega), hw_wI_n (by omega), hw_wI_y]; rfl
  · rw [hw_wI_n (by omega), hw_wI_n (by omega), hw_wI_n (by omega), hw_wI_n (by omega), hw_wI_n (by omega), hw_wI_n (by omega), hw_wI_n (by omega), hw_wI_n (by omega), hw_wI_n (by omega)]
  · rcases (show j = 0 ∨ j = 1 ∨ j = 2 ∨ j = 3 by omega) with rfl | rfl | rfl | rfl
    · rw [hw_wI_n (by omega), hw_wI_n (by omega), hw_wI_n (by omega), hw_wI_y]
    · rw [hw_wI_n (by omega), hw_wI_n (by omega), hw_wI_y]
    · rw [hw_wI_n (by omega), hw_wI_y]
    · rw [hw_wI_y]
  · rw [hw_wI_n (by omega), hw_wI_n (by omega), hw_wI_n (by omega), hw_wI_n (by omega), hw_wI_n (by omega), hw_wI_y]
  · rw [hw_wI_n (by omega), hw_wI_n (by omega), hw_wI_n (by omega), hw_wI_n (by omega), hw_wI_y]
theorem rI_ok {τ : hw_S} {l n : Nat} (hF : hw_F τ) (hl : l < 8) (hn : n ≤ 120) (h4 : τ.2.2.1 41 4 = nI l) (h6 : τ.2.2.1 41 6 = nI n) {T : Nat → Int32} (hT : ∀ i, i < n → τ.2.2.1 42 (10 + i) = T i) (S : Nat → Int32) : rS T n l τ fmz 20 0 (rI l τ) 0 0 0 S := by
  unfold rI
  refine ⟨(((((((((hw_d.wI (by unfold hw_arf hw_il; omega)).tr (hw_d.wI (by unfold hw_arf hw_il; omega))).tr (hw_d.wI (by unfold hw_arf hw_il; omega))).tr (hw_d.wI (by unfold hw_arf hw_il; omega))).tr (hw_d.wI (by unfold hw_arf hw_il; omega))).tr (hw_d.wI (by unfold hw_arf hw_il; omega))).tr (hw_d.wI (by unfold hw_arf hw_il; omega))).tr (hw_d.wI (by unfold hw_arf hw_il; omega))).tr (hw_d.wI (by unfold hw_arf hw_il; omega))).tr (hw_d.wI (by unfold hw_arf hw_il; omega)), hF, ?_, ?_, ?_, ?_, ?_, ?_, fun i hi => ?_, fun j hj => ?_, ?_, ?_, fun j hj => absurd hj (Nat.not_lt_zero j)⟩
  · rw [hw_wI_n (by omega), hw_wI_n (by omega), hw_wI_n (by omega), hw_wI_n (by omega), hw_wI_n (by omega), hw_wI_n (by omega), hw_wI_n (by omega), hw_wI_n (by omega), hw_wI_n (by omega), hw_wI_n (by omega)]; exact h4
  · rw [hw_wI_n (by omega), hw_wI_n (by omega), hw_wI_y]; rfl
  · rw [hw_wI_n (by omega), hw_wI_n (by omega), hw_wI_n (by omega), hw_wI_n (by omega), hw_wI_n (by omega), hw_wI_n (by omega), hw_wI_n (by omega), hw_wI_n (by omega), hw_wI_n (by omega), hw_wI_n (by omega)]; exact h6
  · rw [hw_wI_n (by omega), hw_wI_y]
  · rw [hw_wI_y]; rfl
  · rw [hw_wI_n (by omega), hw_wI_n (by omega), hw_wI_n (by omega), hw_wI_n (by omega), hw_wI_n (by omega), hw_wI_n (by omega), hw_wI_n (by omega), hw_wI_y]; rfl
  · rw [hw_wI_n (by omega), hw_wI_n (by omega), hw_wI_n (by omega), hw_wI_n (by omega), hw_wI_n (by omega), hw_wI_n (by omega), hw_wI_n (by omega), hw_wI_n (by omega), hw_wI_n (by omega), hw_wI_n (by omega)]; exact hT i hi
  · rcases (show j = 0 ∨ j = 1 ∨ j = 2 ∨ j = 3 by omega) with rfl | rfl | rfl | rfl
    · rw [hw_wI_n (by omega), hw_wI_n (by omega), hw_wI_n (by omega), hw_wI_n (by omega), hw_wI_n (by omega), hw_wI_n (by omega), hw_wI_y]
    · rw [hw_wI_n (by omega), hw_wI_n (by omega), hw_wI_n (by omega), hw_wI_n (by omega), hw_wI_n (by omega), hw_wI_y]
    · rw [hw_wI_n (by omega), hw_wI_n (by omega), hw_wI_n (by omega), hw_wI_n (by omega), hw_wI_y]
    · rw [hw_wI_n (by omega), hw_wI_n (by omega), hw_wI_n (by omega), hw_wI_y]
  · rw [hw_wI_n (by omega), hw_wI_n (by omega), hw_wI_n (by omega), hw_wI_n (by omega), hw_wI_n (by omega), hw_wI_n (by omega), hw_wI_n (by omega), hw_wI_n (by omega), hw_wI_n (by omega), hw_wI_y]
  · rw [hw_wI_n (by omega), hw_wI_n (by omega), hw_wI_n (by omega), hw_wI_n (by omega), hw_wI_n (by omega), hw_wI_n (by omega), hw_wI_n (by omega), hw_wI_n (by omega), hw_wI_y]
theorem c_f1 {σ : hw_S} (hF : hw_F σ) {j : Nat} (hj : j < 4) (fuel : Nat) : m4_isLaw_b38 (fuel + 1) 19 (nI j) σ = m4_isLaw_b38 fuel 19 (nI (j + 1)) (hw_wI 22 j (fmz j) σ) := by
  have e : (3 : Int32) * nI (j + 1) = fmz j := nI_mul 3 (j + 1)
  rw [m4_isLaw_b38, if_neg (show ¬ (4 : Int32) ≤ nI j from nI_ge (b := 4) hj (by decide)), hw_P_19_5 hF, Option.bind_some, nI_1, e, hw_B_22 hF hj, Option.bind_some]
theorem c_law0 {σ : hw_S} {n : Nat} (hF : hw_F σ) (hn : n ≤ 120) : m4_isLaw 19 (some 4) (nI n) σ = m4_isLaw_b62 hw_fu 19 (nI 1) (cI n (hw_wP 19 0 (some 4) σ)) := by
  have F0 : hw_F (hw_wP 19 0 (some 4) σ) := hw_F_wP hF (by omega)
  have e0 : hw_pP (hw_q 4) 0 (some 19) (some 4) σ = some (hw_wP 19 0 (some 4) σ) := by
    show (if hw_q 4 (σ.1 19) = true then _ else _) = _
    rw [hF.1 19 (by decide), if_pos (by decide)]
  have e1 : hw_aL (some 4) (hw_wP 19 0 (some 4) σ) = some (nI 120) := hw_aL_at (by rw [F0.1 4 (by decide)]; decide) (by rw [F0.1 4 (by decide)]; decide) (by rw [F0.2.1 4 (by decide)]; decide)
  have e2 : hw_min (nI n) (nI 120) = nI n := by rw [hw_minN (by omega) (by decide), Nat.min_eq_left hn]
  unfold m4_isLaw
  rw [e0, Option.bind_some, e1, Option.bind_some, e2]
  generalize hw_wP 19 0 (some 4) σ = s at F0
  have F1 : hw_F (hw_wI 19 1 (nI n) s) := F0
  have F2 : hw_F (hw_wI 19 2 0 (hw_wI 19 1 (nI n) s)) := F0
  have F3 : hw_F (hw_wI 19 4 0 (hw_wI 19 2 0 (hw_wI 19 1 (nI n) s))) := F0
  have F4 : hw_F (hw_wI 19 6 20 (hw_wI 19 4 0 (hw_wI 19 2 0 (hw_wI 19 1 (nI n) s)))) := F0
  have F5 : hw_F (hw_wI 19 7 0 (hw_wI 19 6 20 (hw_wI 19 4 0 (hw_wI 19 2 0 (hw_wI 19 1 (nI n) s))))) := F0
  rw [hw_W_19 F0, Option.bind_some, hw_W_19 F1, Option.bind_some, hw_W_19 F2, Option.bind_some, hw_W_19 F3, Option.bind_some, hw_W_19 F4, Option.bind_some]
  unfold cI
  generalize hw_wI 19 7 0 (hw_wI 19 6 20 (hw_wI 19 4 0 (hw_wI 19 2 0 (hw_wI 19 1 (nI n) s)))) = t at F5
  have G1 : hw_F (hw_wI 22 0 (fmz 0) t) := F5
  have G2 : hw_F (hw_wI 22 1 (fmz 1) (hw_wI 22 0 (fmz 0) t)) := F5
  have G3 : hw_F (hw_wI 22 2 (fmz 2) (hw_wI 22 1 (fmz 1) (hw_wI 22 0 (fmz 0) t))) := F5
  show m4_isLaw_b38 (3995 + 1 + 1 + 1 + 1 + 1) 19 (nI 0) t = _
  rw [c_f1 F5 (by decide), c_f1 G1 (by decide), c_f1 G2 (by decide), c_f1 G3 (by decide), m4_isLaw_b38, if_pos (by decide)]
  rfl
theorem r_f1 {τ : hw_S} (hF : hw_F τ) {j l : Nat} (hl : l < 8) (h4 : τ.2.2.1 41 4 = nI l) (hj : j < 4) (fuel : Nat) : m12_law_b139 (fuel + 1) 41 (nI j) τ = m12_law_b139 fuel 41 (nI (j + 1)) (hw_wI 42 (172 + 4 * l + j) (fmz j) τ) := by
  have ei : (((172 : Int32) + ((4 : Int32) * nI l)) + nI j) = nI (172 + 4 * l + j) := by
    rw [show (4 : Int32) * nI l = nI (4 * l) from nI_mul 4 l, show (172 : Int32) + nI (4 * l) = nI (172 + 4 * l) from nI_add 172 (4 * l), nI_add]
  have e3 : ((3 : Int32) * nI j) + (3 : Int32) = fmz j := by
    rw [show (3 : Int32) * nI j = nI (3 * j) from nI_mul 3 j]
    exact nI_add (3 * j) 3
  rw [m12_law_b139, if_neg (show ¬ (4 : Int32) ≤ nI j from nI_ge (b := 4) hj (by decide)), hw_P_41_1 hF, Option.bind_some, hw_G_41 hF, Option.bind_some, h4, ei, e3, hw_B_42 hF (by omega), Option.bind_some, nI_1]
theorem r_law0 {τ : hw_S} {l n : Nat} {k v : Int32} (hF : hw_F τ) (hl : l < 8) (hk : nI 0 ≤ k ∧ k ≤ nI 6) (hv : nI 1 ≤ v ∧ v ≤ nI 9) (h1 : τ.2.2.1 42 1 = nI l) (h5 : τ.2.2.1 42 5 = nI n) : m12_law 41 k v τ = (m12_clauseHere 41 (rI l (rH l n k v τ))).bind fun s => m12_law_b193 hw_fu 41 (nI 1) s := by
  have ek : m12_in k (0 : Int32) (6 : Int32) = some (hw_tb (nI 0 ≤ k ∧ k ≤ nI 6)) := e12_in k 0 6
  have ev : m12_in v (1 : Int32) (9 : Int32) = some (hw_tb (nI 1 ≤ v ∧ v ≤ nI 9)) := e12_in v 1 9
  have a1 : ∀ τ, hw_F τ → hw_aI 0 (some 42) (1 : Int32) τ = some (τ.2.2.1 42 1) := fun τ h => hw_A_42 (n := 1) h (by decide)
  have a5 : ∀ τ, hw_F τ → hw_aI 0 (some 42) (5 : Int32) τ = some (τ.2.2.1 42 5) := fun τ h => hw_A_42 (n := 5) h (by decide)
  have b5 : ∀ τ, hw_F τ → hw_sI (some 42) (5 : Int32) (0 : Int32) τ = some (hw_wI 42 5 0 τ) := fun τ h => hw_B_42 (n := 5) h (by decide)
  have w4 : ∀ (τ : hw_S) j (x : Int32), (hw_wI 42 j x τ).2.2.1 41 4 = τ.2.2.1 41 4 := fun τ j x => hw_wI_n (by omega)
  have s140 : (140 : Int32) + nI l = nI (140 + l) := nI_add 140 l
  have s148 : (148 : Int32) + nI l = nI (148 + l) := nI_add 148 l
  have s156 : (156 : Int32) + nI l = nI (156 + l) := nI_add 156 l
  have s164 : (164 : Int32) + nI l = nI (164 + l) := nI_add 164 l
  have s204 : (204 : Int32) + nI l = nI (204 + l) := nI_add 204 l
  have F2 : hw_F (hw_wI 41 4 (nI l) τ) := hF
  have F3 : hw_F (hw_wI 41 6 (nI n) (hw_wI 41 4 (nI l) τ)) := hF
  have F4 : hw_F (hw_wI 42 5 0 (hw_wI 41 6 (nI n) (hw_wI 41 4 (nI l) τ))) := hF
  have v5 : (hw_wI 41 4 (nI l) τ).2.2.1 42 5 = nI n := by rw [hw_wI_n (by omega)]; exact h5
  have v4 : (hw_wI 42 5 0 (hw_wI 41 6 (nI n) (hw_wI 41 4 (nI l) τ))).2.2.1 41 4 = nI l := by rw [w4, hw_wI_n (by omega), hw_wI_y]
  unfold m12_law
  rw [ek, Option.bind_some, hw_itb, if_pos hk, ev, Option.bind_some, hw_itb, if_pos hv, hw_P_41_1 hF, Option.bind_some, a1 _ hF, Option.bind_some, h1, if_neg (show ¬ nI l = (8 : Int32) from fun c => by have := (nI_eq (b := 8) (by omega) (by decide)).mp c; omega), Option.bind_some, a1 _ hF, Option.bind_some, h1, hw_W_41 hF, Option.bind_some, hw_P_41_1 F2, Option.bind_some, a5 _ F2, Option.bind_some, v5, hw_W_41 F2, Option.bind_some, hw_P_41_1 F3, Option.bind_some, b5 _ F3, Option.bind_some]
  unfold rH
  generalize hw_wI 42 5 0 (hw_wI 41 6 (nI n) (hw_wI 41 4 (nI l) τ)) = s at F4 v4 ⊢
  have F5 : hw_F (hw_wI 42 (140 + l) k s) := F4
  have F6 : hw_F (hw_wI 42 (148 + l) v (hw_wI 42 (140 + l) k s)) := F4
  have v6 : (hw_wI 42 (148 + l) v (hw_wI 42 (140 + l) k s)).2.2.1 41 4 = nI l := by rw [w4, w4, v4]
  rw [hw_P_41_1 F4, Option.bind_some, hw_G_41 F4, Option.bind_some, v4, s140, hw_B_42 F4 (by omega), Option.bind_some, hw_P_41_1 F5, Option.bind_some, hw_G_41 F5, Option.bind_some, w4, v4, s148, hw_B_42 F5 (by omega), Option.bind_some]
  generalize hw_wI 42 (148 + l) v (hw_wI 42 (140 + l) k s) = t at F6 v6 ⊢
  have F7 : hw_F (hw_wI 42 (156 + l) 20 t) := F6
  have F8 : hw_F (hw_wI 42 (164 + l) 0 (hw_wI 42 (156 + l) 20 t)) := F6
  have F9 : hw_F (hw_wI 42 (204 + l) 0 (hw_wI 42 (164 + l) 0 (hw_wI 42 (156 + l) 20 t))) := F6
  have v9 : (hw_wI 42 (204 + l) 0 (hw_wI 42 (164 + l) 0 (hw_wI 42 (156 + l) 20 t))).2.2.1 41 4 = nI l := by rw [w4, w4, w4, v6]
  rw [hw_P_41_1 F6, Option.bind_some, hw_G_41 F6, Option.bind_some, v6, s156, hw_B_42 F6 (by omega), Option.bind_some, hw_P_41_1 F7, Option.bind_some, hw_G_41 F7, Option.bind_some, w4, v6, s164, hw_B_42 F7 (by omega), Option.bind_some, hw_P_41_1 F8, Option.bind_some, hw_G_41 F8, Option.bind_some, w4, w4, v6, s204, hw_B_42 F8 (by omega), Option.bind_some]
  unfold rI
  generalize hw_wI 42 (204 + l) 0 (hw_wI 42 (164 + l) 0 (hw_wI 42 (156 + l) 20 t)) = u at F9 v9 ⊢
  have G1 : hw_F (hw_wI 42 (172 + 4 * l + 0) (fmz 0) u) := F9
  have G2 : hw_F (hw_wI 42 (172 + 4 * l + 1) (fmz 1) (hw_wI 42 (172 + 4 * l + 0) (fmz 0) u)) := F9
  have G3 : hw_F (hw_wI 42 (172 + 4 * l + 2) (fmz 2) (hw_wI 42 (172 + 4 * l + 1) (fmz 1) (hw_wI 42 (172 + 4 * l + 0) (fmz 0) u))) := F9
  have G4 : hw_F (hw_wI 42 (172 + 4 * l + 3) (fmz 3) (hw_wI 42 (172 + 4 * l + 2) (fmz 2) (hw_wI 42 (172 + 4 * l + 1) (fmz 1) (hw_wI 42 (172 + 4 * l + 0) (fmz 0) u)))) := F9
  show m12_law_b139 (3995 + 1 + 1 + 1 + 1 + 1) 41 (nI 0) u = _
  rw [r_f1 F9 hl v9 (by decide), r_f1 G1 hl (by rw [w4]; exact v9) (by decide), r_f1 G2 hl (by rw [w4, w4]; exact v9) (by decide), r_f1 G3 hl (by rw [w4, w4, w4]; exact v9) (by decide), m12_law_b139, if_pos (by decide)]
  generalize hw_wI 42 (172 + 4 * l + 3) (fmz 3) (hw_wI 42 (172 + 4 * l + 2) (fmz 2) (hw_wI 42 (172 + 4 * l + 1) (fmz 1) (hw_wI 42 (172 + 4 * l + 0) (fmz 0) u))) = w at G4 ⊢
  have H1 : hw_F (hw_wI 41 5 0 w) := G4
  have H2 : hw_F (hw_wI 41 7 0 (hw_wI 41 5 0 w)) := G4
  have H3 : hw_F (hw_wI 41 8 0 (hw_wI 41 7 0 (hw_wI 41 5 0 w))) := G4
  rw [hw_W_41 G4, Option.bind_some, hw_tf_0, Option.bind_some, hw_W_41 H1, Option.bind_some, hw_W_41 H2, Option.bind_some, hw_V_41 H3, Option.bind_some]
  rfl
/-- class and model read the whole tape alike -/
theorem x_parse {σ τ : hw_S} {l n : Nat} {k v : Int32} (hF : hw_F σ) (hF2 : hw_F τ) (hn : n ≤ 120) (hl : l < 8) (hk : nI 0 ≤ k ∧ k ≤ nI 6) (hv : nI 1 ≤ v ∧ v ≤ nI 9) (h1 : τ.2.2.1 42 1 = nI l) (h5 : τ.2.2.1 42 5 = nI n) (hT : ∀ i, i < n → τ.2.2.1 42 (10 + i) = σ.2.2.1 4 i) : RLw (fun i => σ.2.2.1 4 i) n l (hw_wP 19 0 (some 4) σ) (rH l n k v τ) (m4_isLaw 19 (some 4) (nI n) σ) (m12_law 41 k v τ) := by
  have F0 : hw_F (hw_wP 19 0 (some 4) σ) := hw_F_wP hF (by omega)
  have F1 : hw_F (rH l n k v τ) := hF2
  rw [c_law0 hF hn, r_law0 hF2 hl hk hv h1 h5]
  have t1 : (rH l n k v τ).2.2.1 42 1 = nI l := by
    unfold rH
    rw [hw_wI_n (by omega), hw_wI_n (by omega), hw_wI_n (by omega), hw_wI_n (by omega), hw_wI_n (by omega)]; exact h1
  have t4 : (rH l n k v τ).2.2.1 41 4 = nI l := by
    unfold rH
    rw [hw_wI_n (by omega), hw_wI_n (by omega), hw_wI_n (by omega), hw_wI_n (by omega), hw_wI_y]
  have t6 : (rH l n k v τ).2.2.1 41 6 = nI n := by
    unfold rH
    rw [hw_wI_n (by omega), hw_wI_n (by omega), hw_wI_n (by omega), hw_wI_y]
  have tT : ∀ i, i < n → (rH l n k v τ).2.2.1 42 (10 + i) = σ.2.2.1 4 i := fun i hi => by
    unfold rH
    rw [hw_wI_n (by omega), hw_wI_n (by omega), hw_wI_n (by omega), hw_wI_n (by omega), hw_wI_n (by omega)]; exact hT i hi
  exact x_loop hn hl t1 9 1 hw_fu hw_fu fmz 20 0 _ _ 0 0 (by decide) (by decide) (by decide) Gd_0 ⟨fun _ => 0, fun _ => 0, cI_ok (n := n) F0 hw_wP_y _, rI_ok F1 hl hn t4 t6 tT _, fun j hj => absurd hj (Nat.not_lt_zero j), rfl, Nat.zero_le _, Nat.le_refl _⟩
