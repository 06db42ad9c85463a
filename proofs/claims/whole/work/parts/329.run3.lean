/-! the pure layer: run -/
def sp_sm (A : Nat → Nat) : Nat → Nat
  | 0 => 0
  | n + 1 => sp_sm A n + A n
def sp_cg (B : Nat → Nat) : Nat → Nat
  | 0 => 0
  | n + 1 => sp_cg B n + (if n = 0 ∨ B n = B (n - 1) then 0 else 1)
theorem sp_sm_le {A : Nat → Nat} {n : Nat} (h : ∀ q, A q ≤ 999) : ∀ j, sp_sm A j ≤ 999 * j
  | 0 => Nat.le_refl 0
  | j + 1 => by
    have h1 := sp_sm_le (n := n) h j
    have h2 := h j
    show sp_sm A j + A j ≤ _
    omega
theorem c_all {σ1 : hw_S} {A : Nat → Nat} {c3 : Nat} (F1 : hw_F σ1) (b3 : c3 ≤ 20) (s3 : σ1.2.2.1 1 7 = nI c3) (h : ∀ q, q < c3 → σ1.2.2.1 26 q = nI (A q)) : m11_allRunTurns 0 σ1 = some (nI (sp_sm A c3)) := by
  have key : ∀ d j fuel, j + d = c3 → d < fuel → m11_allRunTurns_b4 fuel 0 (nI (sp_sm A j)) (nI j) σ1 = some (nI (sp_sm A c3)) := by
    intro d
    induction d with
    | zero =>
      intro j fuel e hf
      obtain ⟨fuel, rfl⟩ : ∃ k, fuel = k + 1 := ⟨fuel - 1, by omega⟩
      have e : j = c3 := e
      rw [m11_allRunTurns_b4, hw_P_0_0 F1, Option.bind_some, hw_G_1 F1, Option.bind_some, s3, if_pos (nI_le (by omega) (by omega)), e]
    | succ d ih =>
      intro j fuel e hf
      obtain ⟨fuel, rfl⟩ : ∃ k, fuel = k + 1 := ⟨fuel - 1, by omega⟩
      rw [m11_allRunTurns_b4, hw_P_0_0 F1, Option.bind_some, hw_G_1 F1, Option.bind_some, s3, if_neg (nI_ge (by omega) (by omega)), hw_P_0_6 F1, Option.bind_some, hw_A_26 F1 (by omega), Option.bind_some, h j (by omega), nI_add, nI_1]
      exact ih (j + 1) fuel (by omega) (by omega)
  exact key c3 0 hw_fu (by omega) (by show c3 < 4000; omega)
theorem c_chg {σ1 : hw_S} {B : Nat → Nat} {c3 : Nat} (F1 : hw_F σ1) (b3 : c3 ≤ 20) (s3 : σ1.2.2.1 1 7 = nI c3) (hB : ∀ q, B q ≤ 4) (h : ∀ q, q < c3 → σ1.2.2.1 25 q = nI (B q)) : m11_runFormChanges 0 σ1 = some (nI (sp_cg B c3)) := by
  have key : ∀ d j fuel, j + 1 + d = c3 → d < fuel → m11_runFormChanges_b4 fuel 0 (nI (sp_cg B (j + 1))) (nI (j + 1)) σ1 = some (nI (sp_cg B c3)) := by
    intro d
    induction d with
    | zero =>
      intro j fuel e hf
      obtain ⟨fuel, rfl⟩ : ∃ k, fuel = k + 1 := ⟨fuel - 1, by omega⟩
      have e : j + 1 = c3 := e
      rw [m11_runFormChanges_b4, hw_P_0_0 F1, Option.bind_some, hw_G_1 F1, Option.bind_some, s3, if_pos (nI_le (by omega) (by omega)), e]
    | succ d ih =>
      intro j fuel e hf
      obtain ⟨fuel, rfl⟩ : ∃ k, fuel = k + 1 := ⟨fuel - 1, by omega⟩
      have ih := ih (j + 1) fuel (by omega) (by omega)
      have h1 := hB (j + 1)
      have h2 := hB j
      rw [m11_runFormChanges_b4, hw_P_0_0 F1, Option.bind_some, hw_G_1 F1, Option.bind_some, s3, if_neg (nI_ge (by omega) (by omega)), hw_P_0_5 F1, Option.bind_some, hw_A_25 F1 (by omega), Option.bind_some, h (j + 1) (by omega), Option.bind_some, show nI (j + 1) - (1 : Int32) = nI j from nI_pred j, hw_A_25 F1 (by omega), Option.bind_some, h j (by omega)]
      unfold m11_runFormChanges_b35
      rw [nI_1]
      have es : sp_cg B (j + 1 + 1) = sp_cg B (j + 1) + (if j + 1 = 0 ∨ B (j + 1) = B (j + 1 - 1) then 0 else 1) := rfl
      rw [show j + 1 - 1 = j from rfl] at es
      by_cases hc : B (j + 1) = B j
      · rw [if_pos (congrArg nI hc)]
        rw [es, if_pos (Or.inr hc)] at ih
        exact ih
      · rw [if_neg (fun c => hc ((nI_eq (by omega) (by omega)).mp c)), nI_1]
        rw [es, if_neg (fun c => c.elim (Nat.succ_ne_zero j) hc)] at ih
        exact ih
  by_cases h0 : c3 = 0
  · subst h0
    show m11_runFormChanges_b4 (3999 + 1) 0 (nI 0) (nI 1) σ1 = _
    rw [m11_runFormChanges_b4, hw_P_0_0 F1, Option.bind_some, hw_G_1 F1, Option.bind_some, s3, if_pos (by decide)]
    rfl
  · exact key (c3 - 1) 0 hw_fu (by omega) (by show c3 - 1 < 4000; omega)
theorem r_allchg {τ1 : hw_S} {A B : Nat → Nat} {c3 : Nat} {q : Int32} (F2 : hw_F τ1) (b3 : c3 ≤ 20) (hB : ∀ q, B q ≤ 4) (h1 : ∀ q, q < c3 → τ1.2.2.1 47 q = nI (A q)) (h2 : ∀ q, q < c3 → τ1.2.2.1 46 q = nI (B q)) : m12_run_b166 hw_fu 41 q (nI c3 - (1 : Int32)) (0 : Int32) (0 : Int32) (0 : Int32) τ1 = some (if q = 0 then τ1.2.2.1 41 14 else if q = 1 then nI (sp_sm A c3) else nI (sp_cg B c3), τ1) := by
  have lt : ∀ j, j ≤ c3 → (nI c3 - (1 : Int32) < nI j ↔ c3 ≤ j) := by
    intro j hj
    rw [show (1 : Int32) = iI 1 from rfl, iI_nI, iI_nI, iI_sub, iI_lt (by omega) (by omega) (by omega) (by omega)]
    omega
  have key : ∀ d j fuel, j + d = c3 → d < fuel → m12_run_b166 fuel 41 q (nI c3 - (1 : Int32)) (nI (sp_sm A j)) (nI (sp_cg B j)) (nI j) τ1 = some (if q = 0 then τ1.2.2.1 41 14 else if q = 1 then nI (sp_sm A c3) else nI (sp_cg B c3), τ1) := by
    intro d
    induction d with
    | zero =>
      intro j fuel e hf
      obtain ⟨fuel, rfl⟩ : ∃ k, fuel = k + 1 := ⟨fuel - 1, by omega⟩
      have e : j = c3 := e
      rw [m12_run_b166, if_pos ((lt j (by omega)).mpr (by omega)), hw_G_41 F2, Option.bind_some, e]
      unfold m12_run_b248
      by_cases q0 : q = 0
      · rw [if_pos q0, if_pos q0]
      · rw [if_neg q0, if_neg q0]
        by_cases q1 : q = 1
        · rw [if_pos q1, if_pos q1]
        · rw [if_neg q1, if_neg q1]
    | succ d ih =>
      intro j fuel e hf
      obtain ⟨fuel, rfl⟩ : ∃ k, fuel = k + 1 := ⟨fuel - 1, by omega⟩
      have ih := ih (j + 1) fuel (by omega) (by omega)
      rw [m12_run_b166, if_neg (fun c => absurd ((lt j (by omega)).mp c) (by omega)), hw_P_41_12 F2, Option.bind_some, hw_A_47 F2 (by omega), Option.bind_some, h1 j (by omega), nI_add]
      unfold m12_run_b215 m12_run_b216
      have es : sp_cg B (j + 1) = sp_cg B j + (if j = 0 ∨ B j = B (j - 1) then 0 else 1) := rfl
      rw [es, show sp_sm A (j + 1) = sp_sm A j + A j from rfl] at ih
      by_cases j0 : j = 0
      · rw [if_pos (show nI j ≤ 0 by rw [j0]; decide), nI_1, Int32.add_zero]
        rw [if_pos (Or.inl j0)] at ih
        exact ih
      · have e1 : nI j - (1 : Int32) = nI (j - 1) := nI_sub (b := 1) (by omega)
        have g1 := hB j
        have g2 := hB (j - 1)
        rw [if_neg (show ¬ nI j ≤ 0 from nI_nle (by omega) (by omega)), hw_P_41_11 F2, Option.bind_some, hw_A_46 F2 (by omega), Option.bind_some, h2 j (by omega), Option.bind_some, e1, hw_A_46 F2 (by omega), Option.bind_some, h2 (j - 1) (by omega)]
        by_cases hc : B j = B (j - 1)
        · rw [if_pos (congrArg nI hc), nI_1, Int32.add_zero]
          rw [if_pos (Or.inr hc)] at ih
          exact ih
        · rw [if_neg (fun c => hc ((nI_eq (by omega) (by omega)).mp c)), nI_1, nI_1]
          rw [if_neg (fun c => c.elim j0 hc)] at ih
          exact ih
  exact key c3 0 hw_fu (by omega) (by show c3 < 4000; omega)
def sp_tl (c3 n : Nat) : Prop := n ≤ 2 ∨ (100 ≤ n ∧ n ≤ 399 ∧ n % 100 < c3)
theorem c_told_n {σ : hw_S} {x : Int32} (h : x < 0) : m11_isToldOfRun 0 x σ = some 0 := by
  have n1 : ¬ ((0 : Int32) ≤ x ∧ x ≤ 2) := fun c => absurd h (Int32.not_lt.mpr c.1)
  have n2 : ¬ ((100 : Int32) ≤ x ∧ x ≤ 399) := fun c => absurd h (Int32.not_lt.mpr (Int32.le_trans (by decide) c.1))
  unfold m11_isToldOfRun m11_isToldOfRun_b41 m11_isToldOfRun_b42
  rw [e11_isWithin, Option.bind_some, hw_itb, if_neg n1, e11_isWithin, Option.bind_some, hw_itb, if_neg n2]
  rfl
theorem c_told {σ : hw_S} {c3 n : Nat} (hF : hw_F σ) (s3 : σ.2.2.1 1 7 = nI c3) (b3 : c3 ≤ 20) (hn : n < 2 ^ 31) : (sp_tl c3 n ∧ m11_isToldOfRun 0 (nI n) σ = some 1) ∨ (¬ sp_tl c3 n ∧ m11_isToldOfRun 0 (nI n) σ = some 0) := by
  unfold m11_isToldOfRun m11_isToldOfRun_b41 m11_isToldOfRun_b42
  rw [e11_isWithin, Option.bind_some, hw_itb, e11_isWithin, Option.bind_some, hw_itb]
  by_cases h1 : nI 0 ≤ nI n ∧ nI n ≤ nI 2
  · left
    have h2 := (hw_winN hn (by decide) (by decide)).mp h1
    refine ⟨Or.inl h2.2, ?_⟩
    rw [if_pos (show (0 : Int32) ≤ nI n ∧ nI n ≤ 2 from h1)]
    rfl
  · have h2 : ¬ n ≤ 2 := fun c => h1 ((hw_winN hn (by decide) (by decide)).mpr ⟨Nat.zero_le _, c⟩)
    rw [if_neg (show ¬ ((0 : Int32) ≤ nI n ∧ nI n ≤ 2) from h1)]
    by_cases h3 : nI 100 ≤ nI n ∧ nI n ≤ nI 399
    · have h4 := (hw_winN hn (by decide) (by decide)).mp h3
      rw [if_pos (show (100 : Int32) ≤ nI n ∧ nI n ≤ 399 from h3), show hw_rm (nI n) (100 : Int32) = some (nI (n % 100)) from hw_rmN (b := 100) hn (by decide) (by decide), Option.bind_some, hw_P_0_0 hF, Option.bind_some, hw_G_1 hF, Option.bind_some, s3]
      by_cases h5 : n % 100 < c3
      · left
        rw [if_neg (nI_ge h5 (by omega))]
        exact ⟨Or.inr ⟨h4.1, h4.2, h5⟩, rfl⟩
      · right
        rw [if_pos (nI_le (by omega) (by omega))]
        exact ⟨fun c => c.elim h2 (fun c => h5 c.2.2), rfl⟩
    · right
      have h4 : ¬ (100 ≤ n ∧ n ≤ 399) := fun c => h3 ((hw_winN hn (by decide) (by decide)).mpr c)
      rw [if_neg (show ¬ ((100 : Int32) ≤ nI n ∧ nI n ≤ 399) from h3)]
      exact ⟨fun c => c.elim h2 (fun c => h4 ⟨c.1, c.2.1⟩), rfl⟩
theorem hw_lastin {e c3 n : Nat} (b3 : c3 ≤ 20) (he : e < 1000) (hn : n < 2 ^ 31) : (nI e ≤ nI n ∧ nI n ≤ nI e + (nI c3 - (1 : Int32))) ↔ (e ≤ n ∧ n < e + c3) := by
  rw [show (1 : Int32) = iI 1 from rfl, iI_nI, iI_nI, iI_nI, iI_sub, iI_add, iI_le (by omega) (by omega) (by omega) (by omega), iI_le (by omega) (by omega) (by omega) (by omega)]
  omega
/-- the model's way to a run's answer -/
theorem r_told {τ : hw_S} {x y : Int32} {c3 n : Nat} (F : hw_F τ) (w3 : τ.2.2.1 42 3 = nI c3) (b3 : c3 ≤ 20) (hn : n < 2 ^ 31) : (sp_tl c3 n ∧ m12_run 41 x y (nI n) τ = m12_run_b70 41 x y (nI n) (nI c3 - (1 : Int32)) 1 τ) ∨ (¬ sp_tl c3 n ∧ m12_run 41 x y (nI n) τ = m12_run_b70 41 x y (nI n) (nI c3 - (1 : Int32)) 0 τ) := by
  unfold m12_run m12_run_b65
  rw [hw_P_41_1 F, Option.bind_some, hw_Z_3 F, Option.bind_some, w3, e12_in, Option.bind_some, hw_itb, e12_in, Option.bind_some, hw_itb, e12_in, Option.bind_some, hw_itb, e12_in, Option.bind_some, hw_itb]
  have i0 : ((0 : Int32) ≤ nI n ∧ nI n ≤ 2) ↔ (0 ≤ n ∧ n ≤ 2) := hw_winN (lo := 0) (hi := 2) hn (by decide) (by decide)
  have i1 : ((100 : Int32) ≤ nI n ∧ nI n ≤ (100 : Int32) + (nI c3 - (1 : Int32))) ↔ (100 ≤ n ∧ n < 100 + c3) := hw_lastin (e := 100) b3 (by decide) hn
  have i2 : ((200 : Int32) ≤ nI n ∧ nI n ≤ (200 : Int32) + (nI c3 - (1 : Int32))) ↔ (200 ≤ n ∧ n < 200 + c3) := hw_lastin (e := 200) b3 (by decide) hn
  have i3 : ((300 : Int32) ≤ nI n ∧ nI n ≤ (300 : Int32) + (nI c3 - (1 : Int32))) ↔ (300 ≤ n ∧ n < 300 + c3) := hw_lastin (e := 300) b3 (by decide) hn
  unfold sp_tl
  by_cases h0 : n ≤ 2
  · left
    rw [if_pos (i0.mpr ⟨Nat.zero_le _, h0⟩)]
    exact ⟨Or.inl h0, rfl⟩
  · rw [if_neg (fun c => h0 (i0.mp c).2)]
    by_cases h1 : 100 ≤ n ∧ n < 100 + c3
    · left
      rw [if_pos (i1.mpr h1)]
      exact ⟨Or.inr (by omega), rfl⟩
    · rw [if_neg (fun c => h1 (i1.mp c))]
      by_cases h2 : 200 ≤ n ∧ n < 200 + c3
      · left
        rw [if_pos (i2.mpr h2)]
        exact ⟨Or.inr (by omega), rfl⟩
      · rw [if_neg (fun c => h2 (i2.mp c))]
        by_cases h3 : 300 ≤ n ∧ n < 300 + c3
        · left
          rw [if_pos (i3.mpr h3)]
          exact ⟨Or.inr (by omega), rfl⟩
        · right
          rw [if_neg (fun c => h3 (i3.mp c))]
          exact ⟨by omega, rfl⟩
theorem r_told_n {τ : hw_S} {x y z : Int32} {c3 : Nat} (F : hw_F τ) (w3 : τ.2.2.1 42 3 = nI c3) (h : z < 0) : m12_run 41 x y z τ = m12_run_b70 41 x y z (nI c3 - (1 : Int32)) 0 τ := by
  have ng : ∀ e : Int32, 0 ≤ e → ∀ u : Int32, ¬ (e ≤ z ∧ z ≤ u) := fun e he u c => absurd h (Int32.not_lt.mpr (Int32.le_trans he c.1))
  unfold m12_run m12_run_b65
  rw [hw_P_41_1 F, Option.bind_some, hw_Z_3 F, Option.bind_some, w3, e12_in, Option.bind_some, hw_itb, e12_in, Option.bind_some, hw_itb, e12_in, Option.bind_some, hw_itb, e12_in, Option.bind_some, hw_itb, if_neg (ng 0 (by decide) _), if_neg (ng 100 (by decide) _), if_neg (ng 200 (by decide) _), if_neg (ng 300 (by decide) _)]
theorem j_run {σ : hw_S} (hJ : hw_Jv σ) (x y z : Int32) : ∃ r σ1 τ, m11_run 0 x y z σ = some (r, σ1) ∧ m12_run 41 x y z σ1 = some (r, τ) ∧ hw_Jv τ ∧ hw_F σ1 := by
  obtain ⟨hF, p1, p2, ⟨c0, c1, c2, c3, c4, c5, hr⟩, him, htr⟩ := id hJ
  have s3 : σ.2.2.1 1 7 = nI c3 := hr.2.2.1.2.2.2.1
  have w3 : σ.2.2.1 42 3 = nI c3 := hr.2.1.2.2.2.1
  have b3 : c3 ≤ 20 := hr.1.2.2.2.1
  have htk : ∀ i, i < c3 → σ.2.2.1 5 i = σ.2.2.1 42 (1332 + i) ∧ hw_dok (σ.2.2.1 42 (1332 + i)) := hr.2.2.2.2.2.2.1
  -- the refusals of the model
  have refn : ∀ l4 t, (m12_isLaw 41 x σ = some 0 ∨ m12_isStuff 41 y σ = some 0 ∨ t = 0) → (∃ b, m12_isLaw 41 x σ = some (nI (hw_bn b))) → (∃ b, m12_isStuff 41 y σ = some (nI (hw_bn b))) → m12_run_b70 41 x y z l4 t σ = some (-1, σ) := by
    intro l4 t h ⟨b1, e1⟩ ⟨b2, e2⟩
    unfold m12_run_b70 m12_run_b93
    rw [hw_V_41 hF, Option.bind_some, e1, Option.bind_some]
    cases b1
    · rw [if_pos (show nI (hw_bn false) = 0 from rfl)]
    · rw [if_neg (show ¬ nI (hw_bn true) = 0 by decide), Option.bind_some, e2, Option.bind_some]
      cases b2
      · rw [if_pos (show nI (hw_bn false) = 0 from rfl)]
      · rw [if_neg (show ¬ nI (hw_bn true) = 0 by decide)]
        rcases h with h | h | h
        · rw [e1] at h; cases h
        · rw [e2] at h; cases h
        · rw [if_pos h]
  have bl : ∃ b, m12_isLaw 41 x σ = some (nI (hw_bn b)) := by
    rcases x_law hF hr x with ⟨l, a, hlc, hl8, -, el, ml, hlw⟩ | ⟨-, el, ml⟩
    · exact ⟨true, ml σ hw_d.rf⟩
    · exact ⟨false, ml σ hw_d.rf⟩
  have bs : ∃ b, m12_isStuff 41 y σ = some (nI (hw_bn b)) := by
    rcases x_stuff hF hr y with ⟨l, a, hlc, hl8, -, el, ml, hlw⟩ | ⟨-, el, ml⟩
    · exact ⟨true, ml σ hw_d.rf⟩
    · exact ⟨false, ml σ hw_d.rf⟩
  have refr : (m12_isLaw 41 x σ = some 0 ∨ m12_isStuff 41 y σ = some 0) → m12_run 41 x y z σ = some (-1, σ) := by
    intro h
    have h' : ∀ t : Int32, (m12_isLaw 41 x σ = some 0 ∨ m12_isStuff 41 y σ = some 0 ∨ t = 0) := fun t => h.elim Or.inl (fun c => Or.inr (Or.inl c))
    by_cases z0 : z < 0
    · rw [r_told_n hF w3 z0]
      exact refn _ _ (h' 0) bl bs
    · obtain ⟨n, hn, rfl⟩ := nI_of z0
      rcases r_told (x := x) (y := y) hF w3 b3 hn with ⟨-, e⟩ | ⟨-, e⟩
      · rw [e]
        exact refn _ _ (h' 1) bl bs
      · rw [e]
        exact refn _ _ (h' 0) bl bs
  unfold m11_run m11_run_b32
  rcases x_law hF hr x with ⟨l, a, hlc, hl8, rfl, el, ml, hlw⟩ | ⟨-, el, ml⟩
  · rcases x_stuff hF hr y with ⟨st, sa, hsc, hs5, rfl, es, ms, hsf⟩ | ⟨-, es, ms⟩
    · rw [hw_V_0 hF, Option.bind_some, el, Option.bind_some, Option.bind_some, es, Option.bind_some, hw_ifs, hw_ifs, Option.bind_some]
      by_cases z0 : z < 0
      · rw [c_told_n z0, Option.bind_some, hw_if00]
        refine ⟨_, σ, σ, rfl, ?_, hJ, hF⟩
        rw [r_told_n hF w3 z0]
        exact refn _ _ (Or.inr (Or.inr rfl)) bl bs
      · obtain ⟨n, hn, rfl⟩ := nI_of z0
        rcases c_told hF s3 b3 hn with ⟨ht, ec⟩ | ⟨ht, ec⟩
        · have hml := hlw.ml hl8
          have hms := hsf.ms hs5
          obtain ⟨σ1, g1, g2, g3⟩ := c_run hF hr hl8 hlw hs5 hsf
          have d1 := g2.mono hw_acr_s
          have F1 := d1.F hF
          have e42 : σ1.2.2.1 42 = σ.2.2.1 42 := d1.I (by omega)
          have s31 : σ1.2.2.1 1 7 = nI c3 := by rw [d1.I (a := 1) (by omega)]; exact s3
          obtain ⟨τ, k1, k2, k3, k4⟩ := r_run (σ := σ1) (l := l) (st := st) (c3 := c3) F1 (by rw [e42]; exact hml) (by rw [e42]; exact hms) b3 (by rw [e42]; exact w3) (fun i hi => by rw [e42]; exact (htk i hi).2)
          rw [e42] at k3 k4
          have d2 := d1.tr (k2.mono hw_arr_s)
          have F2 := d2.F hF
          have tle : ∀ q, sp_rt (σ.2.2.1 42) l st q ≤ 999 := fun q => (sp_turns_le hml _ _ _ _ _ _).2
          have fle : ∀ q, sp_rf (σ.2.2.1 42) l st q ≤ 4 := fun q => sp_form_le _ _ _ _
          have refy : m12_run 41 (nI l) (nI st) (nI n) σ1 = (if nI n < (100 : Int32) then m12_run_b166 hw_fu 41 (nI n) (nI c3 - (1 : Int32)) 0 0 0 τ else if (200 : Int32) ≤ nI n then (if (300 : Int32) ≤ nI n then (hw_aI 0 (some 48) (nI n - (300 : Int32)) τ).bind fun v => some (v, τ) else (hw_aI 0 (some 47) (nI n - (200 : Int32)) τ).bind fun v => some (v, τ)) else (hw_aI 0 (some 46) (nI n - (100 : Int32)) τ).bind fun v => some (v, τ)) := by
            rcases r_told (x := nI l) (y := nI st) F1 (by rw [e42]; exact w3) b3 hn with ⟨-, e⟩ | ⟨h2, -⟩
            · rw [e]
              unfold m12_run_b70 m12_run_b156
              rw [hw_V_41 F1, Option.bind_some, ml σ1 d1, Option.bind_some, hw_if10, Option.bind_some, ms σ1 d1, Option.bind_some, hw_if10, hw_if10, Option.bind_some, k1, Option.bind_some, hw_P_41_13 F2, Option.bind_some, hw_P_41_12 F2, Option.bind_some, hw_P_41_11 F2, Option.bind_some]
            · exact absurd ht h2
          rw [ec, Option.bind_some, hw_if10, Option.bind_some, g1, hw_b2s, show hw_rm (nI n) (100 : Int32) = some (nI (n % 100)) from hw_rmN (b := 100) hn (by decide) (by decide), Option.bind_some, show hw_dv (nI n) (100 : Int32) = some (nI (n / 100)) from hw_dvN (b := 100) hn (by decide) (by decide), Option.bind_some]
          rcases ht with hn2 | ⟨a1, a2, a3⟩
          · have n0 : n / 100 = 0 := by omega
            have rr := r_allchg (q := nI n) (A := sp_rt (σ.2.2.1 42) l st) (B := sp_rf (σ.2.2.1 42) l st) F2 b3 fle (fun q hq => (k4 q hq).1) (fun q hq => (k4 q hq).2.1)
            rw [k3] at rr
            have lt : nI n < (100 : Int32) := nI_lt (b := 100) (by omega) (by decide)
            rw [n0, if_neg (show ¬ nI 0 = 1 by decide), if_neg (show ¬ nI 0 = 2 by decide), if_neg (show ¬ nI 0 = 3 by decide), hw_V_0 F1, Option.bind_some, Option.bind_some, c_all F1 b3 s31 (fun q hq => (g3 q hq).1), Option.bind_some, c_chg F1 b3 s31 fle (fun q hq => (g3 q hq).2.1), Option.bind_some]
            unfold m11_run_b127
            by_cases q0 : nI n = 0
            · rw [if_pos q0]
              refine ⟨_, σ1, τ, rfl, ?_, d2.Jv hJ, F1⟩
              rw [refy, if_pos lt, rr, if_pos q0]
            · rw [if_neg q0]
              by_cases q1 : nI n = 1
              · rw [if_pos q1]
                refine ⟨_, σ1, τ, rfl, ?_, d2.Jv hJ, F1⟩
                rw [refy, if_pos lt, rr, if_neg q0, if_pos q1]
              · rw [if_neg q1]
                refine ⟨_, σ1, τ, rfl, ?_, d2.Jv hJ, F1⟩
                rw [refy, if_pos lt, rr, if_neg q0, if_neg q1]
          · have g := g3 (n % 100) a3
            have k := k4 (n % 100) a3
            have nlt : ¬ nI n < (100 : Int32) := nI_nlt (b := 100) a1 (by omega)
            rcases (show n / 100 = 1 ∨ n / 100 = 2 ∨ n / 100 = 3 by omega) with e | e | e
            · rw [e, if_pos (show nI 1 = 1 from rfl), hw_P_0_5 F1, Option.bind_some, hw_A_25 F1 (by omega), Option.bind_some, g.2.1]
              refine ⟨_, σ1, τ, rfl, ?_, d2.Jv hJ, F1⟩
              rw [refy, if_neg nlt, if_neg (show ¬ (200 : Int32) ≤ nI n from nI_ge (b := 200) (by omega) (by decide)), show nI n - (100 : Int32) = nI (n % 100) by rw [show n % 100 = n - 100 by omega]; exact nI_sub (b := 100) (by omega), hw_A_46 F2 (by omega), Option.bind_some, k.2.1]
            · rw [e, if_neg (show ¬ nI 2 = 1 by decide), if_pos (show nI 2 = 2 from rfl), hw_P_0_6 F1, Option.bind_some, hw_A_26 F1 (by omega), Option.bind_some, g.1]
              refine ⟨_, σ1, τ, rfl, ?_, d2.Jv hJ, F1⟩
              rw [refy, if_neg nlt, if_pos (show (200 : Int32) ≤ nI n from nI_le (a := 200) (by omega) (by omega)), if_neg (show ¬ (300 : Int32) ≤ nI n from nI_ge (b := 300) (by omega) (by decide)), show nI n - (200 : Int32) = nI (n % 100) by rw [show n % 100 = n - 200 by omega]; exact nI_sub (b := 200) (by omega), hw_A_47 F2 (by omega), Option.bind_some, k.1]
            · rw [e, if_neg (show ¬ nI 3 = 1 by decide), if_neg (show ¬ nI 3 = 2 by decide), if_pos (show nI 3 = 3 from rfl), hw_P_0_7 F1, Option.bind_some, hw_A_27 F1 (by omega), Option.bind_some, g.2.2]
              refine ⟨_, σ1, τ, rfl, ?_, d2.Jv hJ, F1⟩
              rw [refy, if_neg nlt, if_pos (show (200 : Int32) ≤ nI n from nI_le (a := 200) (by omega) (by omega)), if_pos (show (300 : Int32) ≤ nI n from nI_le (a := 300) (by omega) (by omega)), show nI n - (300 : Int32) = nI (n % 100) by rw [show n % 100 = n - 300 by omega]; exact nI_sub (b := 300) (by omega), hw_A_48 F2 (by omega), Option.bind_some, k.2.2]
        · rw [ec, Option.bind_some, hw_if00]
          refine ⟨_, σ, σ, rfl, ?_, hJ, hF⟩
          rcases r_told (x := nI l) (y := nI st) hF w3 b3 hn with ⟨h2, -⟩ | ⟨-, e⟩
          · exact absurd h2 ht
          · rw [e]
            exact refn _ _ (Or.inr (Or.inr rfl)) bl bs
    · rw [hw_V_0 hF, Option.bind_some, el, Option.bind_some, Option.bind_some, es, Option.bind_some, hw_ifs, hw_ifn]
      exact ⟨_, σ, σ, rfl, refr (Or.inr (ms σ hw_d.rf)), hJ, hF⟩
  · obtain ⟨es, hes⟩ : ∃ v, m11_stuffAt 0 y σ = some v := by
      rcases x_stuff hF hr y with ⟨st, sa, -, -, -, es, -⟩ | ⟨-, es, -⟩
      · exact ⟨_, es⟩
      · exact ⟨_, es⟩
    rw [hw_V_0 hF, Option.bind_some, el, Option.bind_some, Option.bind_some, hes, Option.bind_some, hw_ifn]
    exact ⟨_, σ, σ, rfl, refr (Or.inl (ml σ hw_d.rf)), hJ, hF⟩
