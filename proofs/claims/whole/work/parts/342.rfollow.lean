/-! the pure layer: what a row of paces costs, by the model -/
def en (v : Nat) : Int32 := if v < 1000000 then nI v else -1
theorem en_1 {v : Nat} (h : v < 1000000) : en v = nI v := if_pos h
theorem en_0 {v : Nat} (h : ¬ v < 1000000) : en v = -1 := if_neg h
theorem en_z {v : Nat} : en v = (-1 : Int32) ↔ ¬ v < 1000000 := by
  by_cases h : v < 1000000
  · rw [en_1 h]
    exact ⟨fun c => absurd c (hw_nn1 (by omega)), fun c => absurd h c⟩
  · rw [en_0 h]
    exact ⟨fun _ => h, fun _ => rfl⟩
/-- the least so far, among the q that may follow -/
theorem hw_m1l {v : Nat} (hv : v < 2 ^ 31) : ¬ nI v ≤ (-1 : Int32) := fun c => by
  have h := Int32.le_iff_toInt_le.mp c
  rw [nI_toInt hv, show (-1 : Int32).toInt = -1 by decide] at h
  omega
theorem r_la_q {fo rw : Nat → Nat} {nn R k p : Nat} (hn : nn ≤ 99) (hR : R ≤ 8) (hk : k + 1 < R) (hp : p < 100) : ∀ d q fuel σ, q + d = 100 → d < fuel → hw_F σ → σ.2.2.1 42 4 = nI R → (∀ q, q < 100 → σ.2.2.1 52 (100 * (k + 1) + q) = en (FC fo rw nn R (k + 1) q)) → ∀ (k40 : Nat → Int32 → Int32 → hw_S → Option hw_S) (k46 : Nat → Int32 → Int32 → Int32 → hw_S → Option hw_S), m12_looksAhead_b58 k40 k46 fuel 41 (nI nn) (nI k) (nI p) (en (bst (FC fo rw nn R (k + 1)) nn p q)) (nI q) σ = m12_looksAhead_b58 k40 k46 (fuel - d) 41 (nI nn) (nI k) (nI p) (en (bst (FC fo rw nn R (k + 1)) nn p 100)) (nI 100) σ := by
  intro d
  induction d with
  | zero =>
    intro q fuel σ e hf hF w4 h53 k40 k46
    have e : q = 100 := e
    rw [e]
    rfl
  | succ d ih =>
    intro q fuel σ e hf hF w4 h53 k40 k46
    obtain ⟨fuel, rfl⟩ : ∃ k, fuel = k + 1 := ⟨fuel - 1, by omega⟩
    have hq : q < 100 := by omega
    have ih := ih (q + 1) fuel σ (by omega) (by omega) hF w4 h53 k40 k46
    rw [show fuel + 1 - (d + 1) = fuel - d by omega, ← ih, m12_looksAhead_b58, if_neg (hw_100n hq), hw_P_41_1 hF, Option.bind_some, hw_Z_4 hF, Option.bind_some, w4, show nI k + (1 : Int32) = nI (k + 1) from nI_1 k, if_neg (show ¬ nI (k + 1) = nI R from fun c => by have := (nI_eq (by omega) (by omega)).mp c; omega), e12_size, Option.bind_some, hw_absN (by omega) (by omega)]
    have es : bst (FC fo rw nn R (k + 1)) nn p (q + 1) = if ds p q ≤ nn then min (bst (FC fo rw nn R (k + 1)) nn p q) (ds p q + FC fo rw nn R (k + 1) q) else bst (FC fo rw nn R (k + 1)) nn p q := rfl
    have l1 := bst_le (FC fo rw nn R (k + 1)) nn p q
    have l2 := FC_le fo rw nn R (k + 1) q hk
    have ld : ds p q ≤ 200 := by unfold ds; omega
    have ed : nI (p - q + (q - p)) = nI (ds p q) := rfl
    unfold m12_looksAhead_b124 m12_looksAhead_b125 m12_looksAhead_b158 m12_looksAhead_b183 m12_looksAhead_b178 m12_looksAhead_b185
    rw [ed, nI_1]
    by_cases hd : ds p q ≤ nn
    · rw [if_neg (nI_nlt hd (by omega)), hw_P_41_19 hF, Option.bind_some, hw_100, hw_A_52 hF (by omega), Option.bind_some, h53 q hq]
      rw [if_pos hd] at es
      by_cases hv : FC fo rw nn R (k + 1) q < 1000000
      · rw [if_neg (fun c => (en_z.mp c) hv), hw_if10, e12_size, Option.bind_some, hw_absN (by omega) (by omega), ed, Option.bind_some, show nI k + (1 : Int32) = nI (k + 1) from nI_1 k, hw_100, hw_A_52 hF (by omega), Option.bind_some, h53 q hq, en_1 hv, nI_add, hw_if10]
        by_cases hb : bst (FC fo rw nn R (k + 1)) nn p q < 1000000
        · rw [en_1 hb, if_neg (hw_nn1 (by omega))]
          by_cases hle : bst (FC fo rw nn R (k + 1)) nn p q ≤ ds p q + FC fo rw nn R (k + 1) q
          · rw [if_pos (nI_le hle (by omega)), es, Nat.min_eq_left hle, en_1 hb]
          · rw [if_neg (nI_ge (by omega) (by omega)), es, Nat.min_eq_right (by omega), en_1 (by omega)]
        · have hb2 : bst (FC fo rw nn R (k + 1)) nn p q = 1000000 := by omega
          rw [en_0 hb, if_pos rfl, es]
          by_cases hs : ds p q + FC fo rw nn R (k + 1) q < 1000000
          · rw [Nat.min_eq_right (by omega), en_1 hs]
          · have := FC_small fo rw hn (R - 1 - (k + 1)) (k + 1) q rfl hk hv
            omega
      · have hv2 : FC fo rw nn R (k + 1) q = 1000000 := by omega
        rw [if_pos (en_z.mpr hv), hw_if00, hw_if00, es, Nat.min_eq_left (by omega)]
    · rw [if_neg hd] at es
      rw [if_pos (nI_lt (by omega) (by omega)), hw_if00, hw_if00, es]
theorem r_la_0 {nn R k p : Nat} (hR : R ≤ 8) (hk : k + 1 = R) (hp : p < 100) : ∀ d q fuel σ, q + d = 100 → d < fuel → hw_F σ → σ.2.2.1 42 4 = nI R → (∀ q, q < 100 → σ.2.2.1 52 (100 * (k + 1) + q) = 0) → ∀ (k40 : Nat → Int32 → Int32 → hw_S → Option hw_S) (k46 : Nat → Int32 → Int32 → Int32 → hw_S → Option hw_S), m12_looksAhead_b58 k40 k46 fuel 41 (nI nn) (nI k) (nI p) (if p < q then nI 0 else -1) (nI q) σ = m12_looksAhead_b58 k40 k46 (fuel - d) 41 (nI nn) (nI k) (nI p) (nI 0) (nI 100) σ := by
  intro d
  induction d with
  | zero =>
    intro q fuel σ e hf hF w4 h53 k40 k46
    have e : q = 100 := e
    rw [e, if_pos hp]
    rfl
  | succ d ih =>
    intro q fuel σ e hf hF w4 h53 k40 k46
    obtain ⟨fuel, rfl⟩ : ∃ k, fuel = k + 1 := ⟨fuel - 1, by omega⟩
    have hq : q < 100 := by omega
    have ih := ih (q + 1) fuel σ (by omega) (by omega) hF w4 h53 k40 k46
    rw [show fuel + 1 - (d + 1) = fuel - d by omega, ← ih, m12_looksAhead_b58, if_neg (hw_100n hq), hw_P_41_1 hF, Option.bind_some, hw_Z_4 hF, Option.bind_some, w4, show nI k + (1 : Int32) = nI (k + 1) from nI_1 k, if_pos (congrArg nI hk)]
    unfold m12_looksAhead_b125 m12_looksAhead_b158 m12_looksAhead_b183 m12_looksAhead_b178 m12_looksAhead_b185
    rw [nI_1]
    by_cases hqp : q = p
    · subst hqp
      rw [if_pos rfl, hw_if10, e12_size, Option.bind_some, hw_absN (by omega) (by omega), hw_P_41_19 hF, Option.bind_some, show nI k + (1 : Int32) = nI (k + 1) from nI_1 k, hw_100, hw_A_52 hF (by omega), Option.bind_some, h53 q hq, hw_if10, if_neg (Nat.lt_irrefl q), if_pos rfl, if_pos (Nat.lt_succ_self q), show q - q + (q - q) = 0 by omega]
      rfl
    · rw [if_neg (fun c => hqp ((nI_eq (by omega) (by omega)).mp c)), hw_if00, hw_if00]
      by_cases h1 : p < q
      · rw [if_pos h1, if_pos (by omega)]
      · rw [if_neg h1, if_neg (by omega)]
/-- one pace of one row -/
theorem r_la_1 {fo rw : Nat → Nat} {nn R k p : Nat} (hn : nn ≤ 99) (hR : R ≤ 8) (hk : k < R) (hp : p < 100) (hfo : fo p ≤ 4) (hrw : rw k ≤ 4) {σ : hw_S} (hF : hw_F σ) (w4 : σ.2.2.1 42 4 = nI R) (h52 : σ.2.2.1 51 p = nI (fo p)) (hw : σ.2.2.1 42 (1352 + k) = nI (rw k)) (h53 : k + 1 < R → ∀ q, q < 100 → σ.2.2.1 52 (100 * (k + 1) + q) = en (FC fo rw nn R (k + 1) q)) (h0 : ∀ q, q < 100 → σ.2.2.1 52 (100 * R + q) = 0) (k40 : Nat → Int32 → Int32 → hw_S → Option hw_S) (k46 : Nat → Int32 → Int32 → Int32 → hw_S → Option hw_S) : m12_looksAhead_b58 k40 k46 hw_fu 41 (nI nn) (nI k) (nI p) (-1) (0 : Int32) σ = k46 41 (nI nn) (nI k) (nI (p + 1)) (hw_wI 52 (100 * k + p) (en (FC fo rw nn R k p)) σ) := by
  have fin : ∀ fuel (L : Int32), (fo p = rw k → L = en (FC fo rw nn R k p)) → m12_looksAhead_b58 k40 k46 (fuel + 1) 41 (nI nn) (nI k) (nI p) L (nI 100) σ = k46 41 (nI nn) (nI k) (nI (p + 1)) (hw_wI 52 (100 * k + p) (en (FC fo rw nn R k p)) σ) := by
    intro fuel L hL
    have a1 : (1352 : Int32) + nI k = nI (1352 + k) := nI_add 1352 k
    rw [m12_looksAhead_b58, if_pos (show (100 : Int32) ≤ nI 100 by decide), hw_P_41_19 hF, Option.bind_some, hw_P_41_18 hF, Option.bind_some, hw_A_51 hF hp, Option.bind_some, h52, hw_P_41_1 hF, Option.bind_some, a1, hw_A_42 hF (by omega), Option.bind_some, hw]
    unfold m12_looksAhead_b228
    rw [hw_100, nI_1]
    by_cases hc : fo p = rw k
    · rw [if_pos (congrArg nI hc), hw_B_52 hF (by omega), Option.bind_some, hL hc]
    · have ei : FC fo rw nn R k p = 1000000 := by
        by_cases hl : k + 1 = R
        · rw [FC_last _ _ _ _ _ _ hl, if_neg hc]
        · rw [FC_step _ _ _ _ _ _ (by omega), if_neg hc]
      rw [if_neg (fun c => hc ((nI_eq (by omega) (by omega)).mp c)), hw_B_52 hF (by omega), Option.bind_some, ei, en_0 (by decide)]
  by_cases hl : k + 1 = R
  · have g := r_la_0 (nn := nn) hR hl hp 100 0 hw_fu σ (by decide) (by decide) hF w4 (fun q hq => by rw [hl]; exact h0 q hq) k40 k46
    rw [if_neg (Nat.not_lt_zero p)] at g
    have g : m12_looksAhead_b58 k40 k46 hw_fu 41 (nI nn) (nI k) (nI p) (-1) (0 : Int32) σ = m12_looksAhead_b58 k40 k46 (3899 + 1) 41 (nI nn) (nI k) (nI p) (nI 0) (nI 100) σ := g
    rw [g]
    refine fin 3899 (nI 0) (fun hc => ?_)
    rw [FC_last _ _ _ _ _ _ hl, if_pos hc]
    rfl
  · have g := r_la_q (fo := fo) (rw := rw) hn hR (show k + 1 < R by omega) hp 100 0 hw_fu σ (by decide) (by decide) hF w4 (h53 (by omega)) k40 k46
    have g : m12_looksAhead_b58 k40 k46 hw_fu 41 (nI nn) (nI k) (nI p) (-1) (0 : Int32) σ = m12_looksAhead_b58 k40 k46 (3899 + 1) 41 (nI nn) (nI k) (nI p) (en (bst (FC fo rw nn R (k + 1)) nn p 100)) (nI 100) σ := g
    rw [g]
    refine fin 3899 _ (fun hc => ?_)
    rw [FC_step _ _ _ _ _ _ (show k + 1 < R by omega), if_pos hc]
theorem r_la_p {fo rw : Nat → Nat} {nn R k : Nat} (hn : nn ≤ 99) (hR : R ≤ 8) (hk : k < R) (hfo : ∀ p, fo p ≤ 4) (hrw : ∀ p, rw p ≤ 4) : ∀ d p fuel σ, p + d = 100 → d < fuel → hw_F σ → σ.2.2.1 42 4 = nI R → (∀ q, q < 100 → σ.2.2.1 51 q = nI (fo q)) → σ.2.2.1 42 (1352 + k) = nI (rw k) → (k + 1 < R → ∀ q, q < 100 → σ.2.2.1 52 (100 * (k + 1) + q) = en (FC fo rw nn R (k + 1) q)) → (∀ q, q < 100 → σ.2.2.1 52 (100 * R + q) = 0) → (∀ q, q < p → σ.2.2.1 52 (100 * k + q) = en (FC fo rw nn R k q)) → ∃ τ, (∀ k40, m12_looksAhead_b46 k40 fuel 41 (nI nn) (nI k) (nI p) σ = k40 41 (nI nn) (nI k + (-1)) τ) ∧ hw_d (fun a j => a = 52 ∧ 100 * k ≤ j ∧ j < 100 * k + 100) σ τ ∧ ∀ q, q < 100 → τ.2.2.1 52 (100 * k + q) = en (FC fo rw nn R k q) := by
  intro d
  induction d with
  | zero =>
    intro p fuel σ e hf hF w4 h52 hw h53 h0 hdn
    obtain ⟨fuel, rfl⟩ : ∃ k, fuel = k + 1 := ⟨fuel - 1, by omega⟩
    refine ⟨σ, fun k40 => ?_, hw_d.rf, fun q hq => hdn q (by omega)⟩
    rw [m12_looksAhead_b46, if_pos (hw_100l (by omega) (by omega))]
  | succ d ih =>
    intro p fuel σ e hf hF w4 h52 hw h53 h0 hdn
    obtain ⟨fuel, rfl⟩ : ∃ k, fuel = k + 1 := ⟨fuel - 1, by omega⟩
    have hp : p < 100 := by omega
    obtain ⟨τ, g1, g2, g3⟩ := ih (p + 1) fuel (hw_wI 52 (100 * k + p) (en (FC fo rw nn R k p)) σ) (by omega) (by omega) hF (by rw [hw_wI_n (by omega)]; exact w4) (fun q hq => by rw [hw_wI_n (by omega)]; exact h52 q hq) (by rw [hw_wI_n (by omega)]; exact hw) (fun h q hq => by rw [hw_wI_n (by omega)]; exact h53 h q hq) (fun q hq => by rw [hw_wI_n (by omega)]; exact h0 q hq) (fun q hq => by
      by_cases hqp : q = p
      · rw [hqp, hw_wI_y]
      · rw [hw_wI_n (by omega)]; exact hdn q (by omega))
    refine ⟨τ, fun k40 => ?_, (hw_d.wI (A := fun a j => a = 52 ∧ 100 * k ≤ j ∧ j < 100 * k + 100) ⟨rfl, by omega, by omega⟩).tr g2, g3⟩
    rw [m12_looksAhead_b46, if_neg (hw_100n hp), r_la_1 hn hR hk hp (hfo p) (hrw k) hF w4 (h52 p hp) hw h53 h0]
    exact g1 k40
def hw_a52 (a _k : Nat) : Prop := a = 52
theorem r_lahd {fo rw : Nat → Nat} {nn R : Nat} (hn : nn ≤ 99) (hR : R ≤ 8) (hfo : ∀ p, fo p ≤ 4) (hrw : ∀ p, rw p ≤ 4) {σ : hw_S} (hF : hw_F σ) (w4 : σ.2.2.1 42 4 = nI R) (h52 : ∀ q, q < 100 → σ.2.2.1 51 q = nI (fo q)) (hw : ∀ k, k < R → σ.2.2.1 42 (1352 + k) = nI (rw k)) : ∃ τ, m12_looksAhead 41 (nI nn) σ = some τ ∧ hw_d hw_a52 σ τ ∧ (∀ q, q < 100 → τ.2.2.1 52 (100 * R + q) = 0) ∧ ∀ k, k < R → ∀ q, q < 100 → τ.2.2.1 52 (100 * k + q) = en (FC fo rw nn R k q) := by
  have rows : ∀ m fuel ρ, m ≤ R → m < fuel → hw_d hw_a52 σ ρ → (∀ q, q < 100 → ρ.2.2.1 52 (100 * R + q) = 0) → (∀ k, m ≤ k → k < R → ∀ q, q < 100 → ρ.2.2.1 52 (100 * k + q) = en (FC fo rw nn R k q)) → ∃ τ, m12_looksAhead_b40 fuel 41 (nI nn) (nI m - (1 : Int32)) ρ = some τ ∧ hw_d hw_a52 σ τ ∧ (∀ q, q < 100 → τ.2.2.1 52 (100 * R + q) = 0) ∧ ∀ k, k < R → ∀ q, q < 100 → τ.2.2.1 52 (100 * k + q) = en (FC fo rw nn R k q) := by
    intro m
    induction m with
    | zero =>
      intro fuel ρ _ hf hd h0 h
      obtain ⟨fuel, rfl⟩ : ∃ k, fuel = k + 1 := ⟨fuel - 1, by omega⟩
      refine ⟨ρ, ?_, hd, h0, fun k hk => h k (Nat.zero_le k) hk⟩
      rw [m12_looksAhead_b40, if_pos (show nI 0 - (1 : Int32) < 0 by decide)]
    | succ m ih =>
      intro fuel ρ hm hf hd h0 h
      obtain ⟨fuel, rfl⟩ : ∃ k, fuel = k + 1 := ⟨fuel - 1, by omega⟩
      have K : ∀ a k, a ≠ 52 → ρ.2.2.1 a k = σ.2.2.1 a k := fun a k ha => hd.2.2.2 a k ha
      obtain ⟨τ, g1, g2, g3⟩ := r_la_p (k := m) hn hR (by omega) hfo hrw 100 0 hw_fu ρ (by decide) (by decide) (hd.F hF) (by rw [K 42 4 (by decide)]; exact w4) (fun q hq => by rw [K 51 q (by decide)]; exact h52 q hq) (by rw [K 42 _ (by decide)]; exact hw m (by omega)) (fun h2 => h (m + 1) (Nat.le_refl _) h2) h0 (fun q hq => absurd hq (Nat.not_lt_zero q))
      obtain ⟨υ, u1, u2, u3, u4⟩ := ih fuel τ (by omega) (by omega) (hd.tr (g2.mono (fun a k h => h.1))) (fun q hq => by rw [g2.2.2.2 52 _ (by omega)]; exact h0 q hq) (fun k hk hk2 q hq => by
        by_cases hkm : k = m
        · rw [hkm]; exact g3 q hq
        · rw [g2.2.2.2 52 _ (by omega)]; exact h k (by omega) hk2 q hq)
      refine ⟨υ, ?_, u2, u3, u4⟩
      rw [m12_looksAhead_b40, show nI (m + 1) - (1 : Int32) = nI m from nI_pred m, if_neg (nI_pos (by omega))]
      refine (g1 _).trans ?_
      rw [hw_mm]
      exact u1
  have zero : ∀ d p fuel ρ, p + d = 100 → d < fuel → hw_d hw_a52 σ ρ → (∀ q, q < p → ρ.2.2.1 52 (100 * R + q) = 0) → ∃ τ, m12_looksAhead_b2 fuel 41 (nI nn) (nI p) ρ = some τ ∧ hw_d hw_a52 σ τ ∧ (∀ q, q < 100 → τ.2.2.1 52 (100 * R + q) = 0) ∧ ∀ k, k < R → ∀ q, q < 100 → τ.2.2.1 52 (100 * k + q) = en (FC fo rw nn R k q) := by
    intro d
    induction d with
    | zero =>
      intro p fuel ρ e hf hd h0
      obtain ⟨fuel, rfl⟩ : ∃ k, fuel = k + 1 := ⟨fuel - 1, by omega⟩
      have w4ρ : ρ.2.2.1 42 4 = nI R := by rw [hd.2.2.2 42 4 (by unfold hw_a52; decide)]; exact w4
      obtain ⟨τ, g1, g2⟩ := rows R hw_fu ρ (Nat.le_refl R) (by show R < 4000; omega) hd (fun q hq => h0 q (by omega)) (fun k h1 h2 => by omega)
      refine ⟨τ, ?_, g2⟩
      rw [m12_looksAhead_b2, if_pos (hw_100l (by omega) (by omega)), hw_P_41_1 (hd.F hF), Option.bind_some, hw_Z_4 (hd.F hF), Option.bind_some, w4ρ]
      exact g1
    | succ d ih =>
      intro p fuel ρ e hf hd h0
      obtain ⟨fuel, rfl⟩ : ∃ k, fuel = k + 1 := ⟨fuel - 1, by omega⟩
      have hp : p < 100 := by omega
      have w4ρ : ρ.2.2.1 42 4 = nI R := by rw [hd.2.2.2 42 4 (by unfold hw_a52; decide)]; exact w4
      obtain ⟨τ, g1, g2⟩ := ih (p + 1) fuel (hw_wI 52 (100 * R + p) 0 ρ) (by omega) (by omega) (hd.tr (hw_d.wI rfl)) (fun q hq => by
        by_cases hqp : q = p
        · rw [hqp, hw_wI_y]
        · rw [hw_wI_n (by omega)]; exact h0 q (by omega))
      refine ⟨τ, ?_, g2⟩
      rw [m12_looksAhead_b2, if_neg (hw_100n hp), hw_P_41_19 (hd.F hF), Option.bind_some, hw_P_41_1 (hd.F hF), Option.bind_some, hw_Z_4 (hd.F hF), Option.bind_some, w4ρ, hw_100, hw_B_52 (hd.F hF) (by omega), Option.bind_some, nI_1]
      exact g1
  exact zero 100 0 hw_fu σ (by decide) (by decide) hw_d.rf (fun q hq => absurd hq (Nat.not_lt_zero q))
