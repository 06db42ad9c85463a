/-! the pure layer: the row of paces that is chosen, by the model -/
def mn (G : Nat → Nat) : Nat → Nat
  | 0 => 1000000
  | q + 1 => min (mn G q) (G q)
theorem mn_le (G : Nat → Nat) : ∀ m, mn G m ≤ 1000000
  | 0 => Nat.le_refl _
  | m + 1 => Nat.le_trans (Nat.min_le_left _ _) (mn_le G m)
theorem mn_lb (G : Nat → Nat) : ∀ m q, q < m → mn G m ≤ G q
  | 0, q, h => absurd h (Nat.not_lt_zero q)
  | m + 1, q, h => by
    by_cases e : q = m
    · rw [e]; exact Nat.min_le_right _ _
    · exact Nat.le_trans (Nat.min_le_left _ _) (mn_lb G m q (by omega))
theorem mn_at (G : Nat → Nat) : ∀ m, mn G m = 1000000 ∨ ∃ q, q < m ∧ mn G m = G q
  | 0 => Or.inl rfl
  | m + 1 => by
    show min (mn G m) (G m) = 1000000 ∨ ∃ q, q < m + 1 ∧ min (mn G m) (G m) = G q
    by_cases h : mn G m ≤ G m
    · rw [Nat.min_eq_left h]
      rcases mn_at G m with e | ⟨q, a, b⟩
      · exact Or.inl e
      · exact Or.inr ⟨q, by omega, b⟩
    · rw [Nat.min_eq_right (by omega)]
      exact Or.inr ⟨m, Nat.lt_succ_self m, rfl⟩
theorem mn_fp {F : Nat → Nat → Nat} {b : Nat} (h : hw_fp F b) (hl : ∀ q, F 0 q ≤ 1000000) : mn (F 0) 100 = F 0 b := by
  have h1 := mn_lb (F 0) 100 b h.1
  rcases mn_at (F 0) 100 with e | ⟨q, a, c⟩
  · have := hl b; omega
  · have := h.2.1 q a; omega
theorem r_mn {G : Nat → Nat} (hG : ∀ q, G q ≤ 1000000) {n i : Int32} {σ : hw_S} (hF : hw_F σ) (h52 : ∀ q, q < 100 → σ.2.2.1 52 q = en (G q)) : m12_found_b111 hw_fu 41 n i (-1) 0 σ = if mn G 100 < 1000000 then m12_found_b177 hw_fu 41 n i (nI (mn G 100)) (nI (mn G 100)) 0 σ else some (-5, σ) := by
  have key : ∀ d p fuel, p + d = 100 → d < fuel → m12_found_b111 fuel 41 n i (en (mn G p)) (nI p) σ = if mn G 100 < 1000000 then m12_found_b177 hw_fu 41 n i (nI (mn G 100)) (nI (mn G 100)) 0 σ else some (-5, σ) := by
    intro d
    induction d with
    | zero =>
      intro p fuel e hf
      obtain ⟨fuel, rfl⟩ : ∃ k, fuel = k + 1 := ⟨fuel - 1, by omega⟩
      have e : p = 100 := e
      subst e
      rw [m12_found_b111, if_pos (show (100 : Int32) ≤ nI 100 by decide)]
      by_cases h : mn G 100 < 1000000
      · rw [if_neg (fun c => (en_z.mp c) h), if_pos h, en_1 h]
      · rw [if_pos (en_z.mpr h), if_neg h]
    | succ d ih =>
      intro p fuel e hf
      obtain ⟨fuel, rfl⟩ : ∃ k, fuel = k + 1 := ⟨fuel - 1, by omega⟩
      have hp : p < 100 := by omega
      have ih := ih (p + 1) fuel (by omega) (by omega)
      have es : mn G (p + 1) = min (mn G p) (G p) := rfl
      have l1 := mn_le G p
      have l2 := hG p
      rw [← ih, m12_found_b111, if_neg (hw_100n hp), hw_P_41_19 hF, Option.bind_some, hw_A_52 hF (by omega), Option.bind_some, h52 p hp]
      unfold m12_found_b151 m12_found_b146 m12_found_b153
      rw [nI_1, es]
      by_cases hv : G p < 1000000
      · rw [if_neg (fun c => (en_z.mp c) hv), en_1 hv]
        by_cases hm : mn G p < 1000000
        · rw [if_neg (fun c => (en_z.mp c) hm), en_1 hm]
          by_cases hle : mn G p ≤ G p
          · rw [if_pos (nI_le hle (by omega)), Nat.min_eq_left hle, en_1 hm]
          · rw [if_neg (nI_ge (by omega) (by omega)), Nat.min_eq_right (by omega), en_1 hv]
        · rw [if_pos (en_z.mpr hm), Nat.min_eq_right (by omega), en_1 hv]
      · rw [if_pos (en_z.mpr hv), Nat.min_eq_left (by omega)]
  exact key 100 0 hw_fu (by decide) (by decide)
def hw_left (F : Nat → Nat → Nat) (nn b : Nat) : Nat → Nat
  | 0 => F 0 b
  | j + 1 => F j (PW F nn b j)
theorem r_row {F : Nat → Nat → Nat} {nn R b k : Nat} {i L : Int32} (hn : nn ≤ 99) (hR : R ≤ 8) (hk : k < R) (h : hw_ch F nn R) (hb : hw_fp F b) (hv : F 0 b < 1000000) {σ : hw_S} (hF : hw_F σ) (h52 : ∀ k, k < R → ∀ q, q < 100 → σ.2.2.1 52 (100 * k + q) = en (F k q)) (h53 : ∀ j, j < k → σ.2.2.1 53 j = nI (PW F nn b j)) (k177 : Nat → Int32 → Int32 → Int32 → Int32 → Int32 → hw_S → Option (Int32 × hw_S)) : m12_found_b191 k177 hw_fu 41 (nI nn) i L (nI (hw_left F nn b k)) (nI k) 0 σ = k177 41 (nI nn) i L (nI (F k (PW F nn b k))) (nI (k + 1)) (hw_wI 53 k (nI (PW F nn b k)) σ) := by
  have hP := PW_ok h hb.1 hv
  have hPk := hP k hk
  -- what is asked of a pace of this row
  have ask : ∃ c : Nat → Bool, (∀ q, q < PW F nn b k → c q = false) ∧ c (PW F nn b k) = true ∧ ∀ q, c q = true ↔ (match k with | 0 => F 0 q = F 0 b | j + 1 => ds (PW F nn b j) q ≤ nn ∧ ds (PW F nn b j) q + F (j + 1) q = F j (PW F nn b j)) := by
    cases k with
    | zero =>
      refine ⟨fun q => decide (F 0 q = F 0 b), fun q hq => ?_, decide_eq_true rfl, fun q => decide_eq_true_iff⟩
      have hq : q < b := hq
      have := hb.2.2 q hq
      exact decide_eq_false (by omega)
    | succ j =>
      obtain ⟨x, x1, x2⟩ := h.2 j _ hk (hP j (by omega)).2
      obtain ⟨-, r2, r3, r4⟩ := sr_ok (cn F nn j (PW F nn b j)) 100 0 ⟨x, Nat.zero_le x, by omega, x2⟩
      exact ⟨cn F nn j (PW F nn b j), fun q hq => r4 q (Nat.zero_le q) hq, r3, fun q => decide_eq_true_iff⟩
  obtain ⟨c, c1, c2, c3⟩ := ask
  have l1 : ∀ q, F k q ≤ 1000000 := fun q => h.1 k q hk
  have key : ∀ d q fuel, q + d = PW F nn b k → d < fuel → m12_found_b191 k177 fuel 41 (nI nn) i L (nI (hw_left F nn b k)) (nI k) (nI q) σ = k177 41 (nI nn) i L (nI (F k (PW F nn b k))) (nI (k + 1)) (hw_wI 53 k (nI (PW F nn b k)) σ) := by
    intro d
    induction d with
    | zero =>
      intro q fuel e hf
      obtain ⟨fuel, rfl⟩ : ∃ k, fuel = k + 1 := ⟨fuel - 1, by omega⟩
      have e : q = PW F nn b k := e
      have cq := (c3 q).mp (by rw [e]; exact c2)
      have vq : F k q < 1000000 := by rw [e]; exact hPk.2
      have hq : q < 100 := by rw [e]; exact hPk.1
      have hF2 : hw_F (hw_wI 53 k (nI q) σ) := hF
      have v2 : (hw_wI 53 k (nI q) σ).2.2.1 52 (100 * k + q) = nI (F k q) := by rw [hw_wI_n (by omega), h52 k hk q hq, en_1 vq]
      rw [← e]
      rw [m12_found_b191, hw_P_41_19 hF, Option.bind_some, hw_100, hw_A_52 hF (by omega), Option.bind_some, h52 k hk q hq, if_neg (fun c => (en_z.mp c) vq)]
      unfold m12_found_b233 m12_found_b270
      cases k with
      | zero =>
        have cq : F 0 q = F 0 b := cq
        rw [if_pos (show nI 0 ≤ 0 by decide), hw_P_41_19 hF, Option.bind_some, hw_100, hw_A_52 hF (by omega), Option.bind_some, h52 0 hk q hq, en_1 vq, if_pos (show nI 0 ≤ 0 by decide), Int32.add_zero, if_pos (show nI (F 0 q) = nI (hw_left F nn b 0) from congrArg nI cq), hw_P_41_20 hF, Option.bind_some, hw_B_53 hF (by omega), Option.bind_some, hw_P_41_19 hF2, Option.bind_some, hw_A_52 hF2 (by omega), Option.bind_some, v2, nI_1]
      | succ j =>
        have cq : ds (PW F nn b j) q ≤ nn ∧ ds (PW F nn b j) q + F (j + 1) q = F j (PW F nn b j) := cq
        have pj := hP j (by omega)
        have nk : ¬ nI (j + 1) ≤ 0 := nI_nle (Nat.succ_pos j) (by omega)
        have ed : hw_abs (nI q - nI (PW F nn b j)) = nI (ds (PW F nn b j) q) := by
          rw [hw_absN (by omega) (by omega)]
          congr 1
          unfold ds
          omega
        rw [if_neg nk, hw_P_41_20 hF, Option.bind_some, show nI (j + 1) - (1 : Int32) = nI j from nI_pred j, hw_A_53 hF (by omega), Option.bind_some, h53 j (Nat.lt_succ_self j), e12_size, Option.bind_some, ed, if_neg (nI_nlt cq.1 (by omega)), hw_P_41_19 hF, Option.bind_some, hw_100, hw_A_52 hF (by omega), Option.bind_some, h52 (j + 1) hk q hq, en_1 vq, if_neg nk, Option.bind_some, hw_A_53 hF (by omega), Option.bind_some, h53 j (Nat.lt_succ_self j), e12_size, Option.bind_some, ed, nI_add, if_pos (show nI (F (j + 1) q + ds (PW F nn b j) q) = nI (hw_left F nn b (j + 1)) by rw [Nat.add_comm]; exact congrArg nI cq.2), Option.bind_some, hw_B_53 hF (by omega), Option.bind_some, hw_P_41_19 hF2, Option.bind_some, hw_A_52 hF2 (by omega), Option.bind_some, v2, nI_1]
    | succ d ih =>
      intro q fuel e hf
      obtain ⟨fuel, rfl⟩ : ∃ k, fuel = k + 1 := ⟨fuel - 1, by omega⟩
      have ih := ih (q + 1) fuel (by omega) (by omega)
      have hq : q < 100 := by omega
      have cq : ¬ _ := fun cc => by
        have := (c3 q).mpr cc
        rw [c1 q (by omega)] at this
        cases this
      rw [m12_found_b191, hw_P_41_19 hF, Option.bind_some, hw_100, hw_A_52 hF (by omega), Option.bind_some, h52 k hk q hq]
      have nx : m12_found_b276 k177 (m12_found_b191 k177 fuel) 41 (nI nn) i L (nI (hw_left F nn b k)) (nI k) (nI q) σ = k177 41 (nI nn) i L (nI (F k (PW F nn b k))) (nI (k + 1)) (hw_wI 53 k (nI (PW F nn b k)) σ) := by
        unfold m12_found_b276
        rw [nI_1]
        exact ih
      by_cases vq : F k q < 1000000
      · rw [if_neg (fun c => (en_z.mp c) vq)]
        unfold m12_found_b233 m12_found_b270
        cases k with
        | zero =>
          have cq : ¬ F 0 q = F 0 b := cq
          rw [if_pos (show nI 0 ≤ 0 by decide), hw_P_41_19 hF, Option.bind_some, hw_100, hw_A_52 hF (by omega), Option.bind_some, h52 0 hk q hq, en_1 vq, if_pos (show nI 0 ≤ 0 by decide), Int32.add_zero, if_neg (show ¬ nI (F 0 q) = nI (hw_left F nn b 0) from fun cc => cq ((nI_eq (b := F 0 b) (by omega) (by omega)).mp cc))]
          exact nx
        | succ j =>
          have cq : ¬ (ds (PW F nn b j) q ≤ nn ∧ ds (PW F nn b j) q + F (j + 1) q = F j (PW F nn b j)) := cq
          have pj := hP j (by omega)
          have nk : ¬ nI (j + 1) ≤ 0 := nI_nle (Nat.succ_pos j) (by omega)
          have ed : hw_abs (nI q - nI (PW F nn b j)) = nI (ds (PW F nn b j) q) := by
            rw [hw_absN (by omega) (by omega)]
            congr 1
            unfold ds
            omega
          have ld : ds (PW F nn b j) q ≤ 200 := by unfold ds; omega
          rw [if_neg nk, hw_P_41_20 hF, Option.bind_some, show nI (j + 1) - (1 : Int32) = nI j from nI_pred j, hw_A_53 hF (by omega), Option.bind_some, h53 j (Nat.lt_succ_self j), e12_size, Option.bind_some, ed]
          by_cases hd : ds (PW F nn b j) q ≤ nn
          · rw [if_neg (nI_nlt hd (by omega)), hw_P_41_19 hF, Option.bind_some, hw_100, hw_A_52 hF (by omega), Option.bind_some, h52 (j + 1) hk q hq, en_1 vq, if_neg nk, Option.bind_some, hw_A_53 hF (by omega), Option.bind_some, h53 j (Nat.lt_succ_self j), e12_size, Option.bind_some, ed, nI_add, if_neg (show ¬ nI (F (j + 1) q + ds (PW F nn b j) q) = nI (hw_left F nn b (j + 1)) from fun cc => cq ⟨hd, by
              have := (nI_eq (b := F j (PW F nn b j)) (by omega) (by omega)).mp cc
              omega⟩)]
            exact nx
          · rw [if_pos (nI_lt (by omega) (by omega))]
            exact nx
      · rw [if_pos (en_z.mpr vq)]
        exact nx
  exact key (PW F nn b k) 0 hw_fu (by omega) (by show _ < 4000; omega)
def hw_a53 (a _k : Nat) : Prop := a = 53
theorem r_rows {F : Nat → Nat → Nat} {nn R b : Nat} {i L : Int32} (hn : nn ≤ 99) (hR : R ≤ 8) (h : hw_ch F nn R) (hb : hw_fp F b) (hv : F 0 b < 1000000) {σ : hw_S} (hF : hw_F σ) (w4 : σ.2.2.1 42 4 = nI R) (h52 : ∀ k, k < R → ∀ q, q < 100 → σ.2.2.1 52 (100 * k + q) = en (F k q)) : ∃ τ, hw_d hw_a53 σ τ ∧ (∀ j, j < R → τ.2.2.1 53 j = nI (PW F nn b j)) ∧ m12_found_b177 hw_fu 41 (nI nn) i L (nI (F 0 b)) 0 σ = (if i = (-1 : Int32) then some (L, τ) else (hw_aI 0 (some 53) i τ).bind fun v => some (v, τ)) := by
  have key : ∀ d k fuel ρ, k + d = R → d < fuel → hw_d hw_a53 σ ρ → (∀ j, j < k → ρ.2.2.1 53 j = nI (PW F nn b j)) → ∃ τ, hw_d hw_a53 σ τ ∧ (∀ j, j < R → τ.2.2.1 53 j = nI (PW F nn b j)) ∧ m12_found_b177 fuel 41 (nI nn) i L (nI (hw_left F nn b k)) (nI k) ρ = (if i = (-1 : Int32) then some (L, τ) else (hw_aI 0 (some 53) i τ).bind fun v => some (v, τ)) := by
    intro d
    induction d with
    | zero =>
      intro k fuel ρ e hf hd h53
      obtain ⟨fuel, rfl⟩ : ∃ k, fuel = k + 1 := ⟨fuel - 1, by omega⟩
      have Fρ := hd.F hF
      have w4ρ : ρ.2.2.1 42 4 = nI R := by rw [hd.2.2.2 42 4 (by unfold hw_a53; decide)]; exact w4
      refine ⟨ρ, hd, fun j hj => h53 j (by omega), ?_⟩
      rw [m12_found_b177, hw_P_41_1 Fρ, Option.bind_some, hw_Z_4 Fρ, Option.bind_some, w4ρ, if_pos (nI_le (by omega) (by omega)), hw_P_41_20 Fρ, Option.bind_some]
      rfl
    | succ d ih =>
      intro k fuel ρ e hf hd h53
      obtain ⟨fuel, rfl⟩ : ∃ k, fuel = k + 1 := ⟨fuel - 1, by omega⟩
      have Fρ := hd.F hF
      have w4ρ : ρ.2.2.1 42 4 = nI R := by rw [hd.2.2.2 42 4 (by unfold hw_a53; decide)]; exact w4
      obtain ⟨τ, g1, g2, g3⟩ := ih (k + 1) fuel (hw_wI 53 k (nI (PW F nn b k)) ρ) (by omega) (by omega) (hd.tr (hw_d.wI rfl)) (fun j hj => by
        by_cases hjk : j = k
        · rw [hjk, hw_wI_y]
        · rw [hw_wI_n (by omega)]; exact h53 j (by omega))
      refine ⟨τ, g1, g2, ?_⟩
      rw [m12_found_b177, hw_P_41_1 Fρ, Option.bind_some, hw_Z_4 Fρ, Option.bind_some, w4ρ, if_neg (nI_ge (by omega) (by omega)), r_row hn hR (show k < R by omega) h hb hv Fρ (fun k hk q hq => by rw [hd.2.2.2 52 _ (by unfold hw_a53; omega)]; exact h52 k hk q hq) h53]
      exact g3
  exact key R 0 hw_fu σ (by omega) (by show R < 4000; omega) hw_d.rf (fun j hj => absurd hj (Nat.not_lt_zero j))
