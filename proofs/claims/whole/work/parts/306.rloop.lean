/-! the pure layer: the model's loop over a law's steps -/
/-- from σ to τ nothing has changed but numbers at the places A -/
def hw_d (A : Nat → Nat → Prop) (σ τ : hw_S) : Prop := τ.1 = σ.1 ∧ τ.2.1 = σ.2.1 ∧ τ.2.2.2 = σ.2.2.2 ∧ ∀ a k, ¬ A a k → τ.2.2.1 a k = σ.2.2.1 a k
theorem hw_d.rf {A : Nat → Nat → Prop} {σ : hw_S} : hw_d A σ σ := ⟨rfl, rfl, rfl, fun _ _ _ => rfl⟩
theorem hw_d.tr {A : Nat → Nat → Prop} {σ τ υ : hw_S} (h : hw_d A σ τ) (h2 : hw_d A τ υ) : hw_d A σ υ := ⟨h2.1.trans h.1, h2.2.1.trans h.2.1, h2.2.2.1.trans h.2.2.1, fun a k n => (h2.2.2.2 a k n).trans (h.2.2.2 a k n)⟩
theorem hw_d.mono {A B : Nat → Nat → Prop} {σ τ : hw_S} (h : hw_d A σ τ) (hAB : ∀ a k, A a k → B a k) : hw_d B σ τ := ⟨h.1, h.2.1, h.2.2.1, fun a k n => h.2.2.2 a k (fun c => n (hAB a k c))⟩
theorem hw_d.wI {A : Nat → Nat → Prop} {σ : hw_S} {a k : Nat} {v : Int32} (h : A a k) : hw_d A σ (hw_wI a k v σ) := ⟨rfl, rfl, rfl, fun x j n => by rw [hw_wI_3, if_neg (fun c => n (by rw [c.1, c.2]; exact h))]⟩
theorem hw_d.F {A : Nat → Nat → Prop} {σ τ : hw_S} (h : hw_d A σ τ) (hF : hw_F σ) : hw_F τ := by
  unfold hw_F
  rw [h.1, h.2.1, h.2.2.1]
  exact hF
def hw_a45 (a _k : Nat) : Prop := a = 45
def hw_tv (σ : hw_S) : List Bool → Prop
  | [] => True
  | b :: r => σ.2.2.1 45 r.length = nI (hw_bn b) ∧ hw_tv σ r
theorem hw_tv_w {σ : hw_S} {k : Nat} {v : Int32} : ∀ {r : List Bool}, r.length ≤ k → hw_tv σ r → hw_tv (hw_wI 45 k v σ) r
  | [], _, _ => trivial
  | b :: r, h, ht => by
    have h : r.length + 1 ≤ k := h
    refine ⟨?_, hw_tv_w (by omega) ht.2⟩
    rw [hw_wI_3, if_neg (fun c => by have := c.2; omega)]
    exact ht.1
theorem hw_tv_s {σ : hw_S} {r : List Bool} (b : Bool) (h : hw_tv σ r) : hw_tv (hw_wI 45 r.length (nI (hw_bn b)) σ) (b :: r) := ⟨by rw [hw_wI_3, if_pos ⟨rfl, rfl⟩], hw_tv_w (Nat.le_refl _) h⟩
theorem hw_A_45 {σ : hw_S} {n : Nat} (h : hw_F σ) (hn : n < 64) : hw_aI 1 (some 45) (nI n) σ = some (σ.2.2.1 45 n) := hw_Fai h (by decide) (by decide) hn (by decide)
theorem hw_B_45 {σ : hw_S} {n : Nat} {b : Bool} (h : hw_F σ) (hn : n < 64) : hw_sZ (some 45) (nI n) (nI (hw_bn b)) σ = some (hw_wI 45 n (nI (hw_bn b)) σ) := by
  show (if (σ.1 45 = 22 ∧ ¬ (nI n < 0 ∨ σ.2.1 45 ≤ (nI n).toNatClampNeg)) ∧ (nI (hw_bn b) = 0 ∨ nI (hw_bn b) = 1) then _ else _) = _
  rw [h.1 45 (by decide), h.2.1 45 (by decide), if_pos ⟨⟨by decide, hw_nIx (L := 64) hn (by decide)⟩, by cases b; exact Or.inl rfl; exact Or.inr rfl⟩, nI_clamp (by omega)]
theorem hw_max1 (y : Int32) : hw_max 1 y = if 1 ≤ y then y else 1 := by
  unfold hw_max
  by_cases h : (1 : Int32) < y
  · rw [if_pos h, if_pos (Int32.le_of_lt h)]
  · rw [if_neg h]
    by_cases h2 : (1 : Int32) ≤ y
    · rw [if_pos h2]
      exact Int32.le_antisymm h2 (Int32.not_lt.mp h)
    · rw [if_neg h2]
theorem hw_m_1 : iI (-1) = (-1 : Int32) := by decide
theorem hw_m_2 : iI (-2) = (-2 : Int32) := by decide
theorem hw_m_3 : iI (-3) = (-3 : Int32) := by decide
theorem hw_m_10 : iI (-10) = (-10 : Int32) := by decide
theorem hw_m_200 : iI (-200) = (-200 : Int32) := by decide
theorem hw_neg0 (z : Int) (h : -400 ≤ z) (h2 : z < 0) : iI z < 0 := by
  rw [show (0 : Int32) = iI 0 from rfl, iI_lt (by omega) (by omega) (by omega) (by omega)]
  omega
theorem r_base_loop {l n : Nat} {f c B : Nat → Int32} (hl : l < 8) (hn : n ≤ 120) (ins : ∀ j, j < n → hw_ins (f j) (c j)) (ht : hw_ht f n ≠ none) :
    ∀ d j fuel σ, j + d = n → d < fuel → hw_F σ → (∀ j, j < n → σ.2.2.1 42 (212 + 140 * l + j) = f j) → σ.2.2.1 42 (204 + l) = nI n → (∀ t, t < 5 → σ.2.2.1 44 t = B t) → hw_tv σ (sp_run B f j).1 →
      ∃ τ, m12_base_b15 fuel 41 (nI l) (iI (sp_run B f j).2) (nI (sp_run B f j).1.length) (nI (212 + 140 * l + j)) σ = some (hw_max 1 (iI (sp_run B f n).2), τ) ∧ hw_d hw_a45 σ τ := by
  have e1 : (204 : Int32) + nI l = nI (204 + l) := nI_add 204 l
  have e2 : (212 : Int32) + (140 : Int32) * nI l = nI (212 + 140 * l) := by
    rw [show (140 : Int32) * nI l = nI (140 * l) from nI_mul 140 l]
    exact nI_add 212 (140 * l)
  intro d
  induction d with
  | zero =>
    intro j fuel σ e hf hF h1 h2 h3 h4
    obtain ⟨fuel, rfl⟩ : ∃ k, fuel = k + 1 := ⟨fuel - 1, by omega⟩
    have e : j = n := e
    subst e
    refine ⟨σ, ?_, hw_d.rf⟩
    rw [m12_base_b15]
    simp only [hw_P_41_1 hF, e1, e2, hw_A_42 hF (show 204 + l < 1396 by omega), Option.bind_some, h2, nI_add]
    rw [if_pos (nI_le (by omega) (by omega)), hw_max1]
    unfold m12_base_b317
    by_cases h : (1 : Int32) ≤ iI (sp_run B f j).2
    · rw [if_pos h, if_pos h]
    · rw [if_neg h, if_neg h]
  | succ d ih =>
    intro j fuel σ e hf hF h1 h2 h3 h4
    obtain ⟨fuel, rfl⟩ : ∃ k, fuel = k + 1 := ⟨fuel - 1, by omega⟩
    have hj : j < n := by omega
    have ih : ∀ σ', hw_d hw_a45 σ σ' → hw_tv σ' (sp_run B f (j + 1)).1 → ∃ τ, m12_base_b15 fuel 41 (nI l) (iI (sp_run B f (j + 1)).2) (nI (sp_run B f (j + 1)).1.length) (nI (212 + 140 * l + j) + 1) σ' = some (hw_max 1 (iI (sp_run B f n).2), τ) ∧ hw_d hw_a45 σ τ := by
      intro σ' hd htv
      obtain ⟨τ, g1, g2⟩ := ih (j + 1) fuel σ' (by omega) (by omega) (hd.F hF) (fun j hj => (hd.2.2.2 42 _ (by unfold hw_a45; omega)).trans (h1 j hj)) ((hd.2.2.2 42 _ (by unfold hw_a45; omega)).trans h2) (fun t ht => (hd.2.2.2 44 _ (by unfold hw_a45; omega)).trans (h3 t ht)) htv
      exact ⟨τ, by rw [nI_1]; exact g1, hd.tr g2⟩
    obtain ⟨h, g1, g2, g3, g4, g5⟩ := sp_run_ok (B := B) ins ht j (by omega)
    obtain ⟨k, hk⟩ := hw_ht_le ht (n - (j + 1)) (j + 1) (by omega)
    rw [show sp_run B f (j + 1) = sp_step B (f j) (sp_run B f j) from rfl] at ih
    rw [m12_base_b15]
    simp only [hw_P_41_1 hF, e1, e2, hw_A_42 hF (show 204 + l < 1396 by omega), Option.bind_some, h2, nI_add]
    rw [if_neg (nI_ge (by omega) (by omega))]
    simp only [hw_A_42 hF (show 212 + 140 * l + j < 1396 by omega), Option.bind_some, h1 j hj]
    generalize sp_run B f j = q at ih g2 g4 g5 h4 ⊢
    obtain ⟨st, sum⟩ := q
    have h4 : hw_tv σ st := h4
    have g2 : st.length = h := g2
    rcases ins j hj with ⟨t, g, m, a1, a2, a3, es, -⟩ | ⟨es, -⟩ | ⟨es, -⟩ | ⟨es, -⟩ | ⟨m, a3, es, -⟩ | ⟨m, a3, es, -⟩
    · rw [hw_ht_t a1 a2 a3 es g1] at hk
      by_cases hh : h < 14
      · rw [es, sp_step_t a1 a2 a3] at ih
        rw [es, if_neg (nI_pos (by omega))]
        simp only [hw_P_41_9 hF, hw_P_41_10 hF, show (8 : Int32) = nI 8 from rfl, show (4 : Int32) = nI 4 from rfl, show (32 : Int32) = nI 32 from rfl, hw_rmN (show t + 8 * g + 32 * m < 2 ^ 31 by omega) (show 8 < 2 ^ 31 by decide) (show 0 < 8 by decide), hw_dvN (show t + 8 * g + 32 * m < 2 ^ 31 by omega) (show 8 < 2 ^ 31 by decide) (show 0 < 8 by decide), hw_dvN (show t + 8 * g + 32 * m < 2 ^ 31 by omega) (show 32 < 2 ^ 31 by decide) (show 0 < 32 by decide), hw_rmN (show (t + 8 * g + 32 * m) / 8 < 2 ^ 31 by omega) (show 4 < 2 ^ 31 by decide) (show 0 < 4 by decide), Option.bind_some, show (t + 8 * g + 32 * m) % 8 = t by omega, show (t + 8 * g + 32 * m) / 8 % 4 = g by omega, show (t + 8 * g + 32 * m) / 32 = m by omega, hw_A_44 hF a1, h3 t a1]
        have fin : ∀ b, b = sp_cmp g (B t) (nI m) → ∃ τ, m12_base_b140 (m12_base_b15 fuel) 41 (nI l) (iI sum) (nI st.length) (nI (212 + 140 * l + j)) (some 45) (nI st.length) (nI (hw_bn b)) σ = some (hw_max 1 (iI (sp_run B f n).2), τ) ∧ hw_d hw_a45 σ τ := by
          intro b hb
          unfold m12_base_b140 m12_base_b301
          rw [hw_B_45 hF (by omega), Option.bind_some, nI_1 st.length]
          have := ih (hw_wI 45 st.length (nI (hw_bn b)) σ) (hw_d.wI rfl) (by rw [← hb]; exact hw_tv_s b h4)
          exact this
        match g, a2 with
        | 0, _ =>
          rw [if_pos (show nI 0 = 0 from rfl)]
          by_cases hc : B t < nI m
          · rw [if_neg (Int32.not_le.mpr hc)]
            exact fin true (by rw [sp_cmp_0, decide_eq_true hc])
          · rw [if_pos (Int32.not_lt.mp hc)]
            exact fin false (by rw [sp_cmp_0, decide_eq_false hc])
        | 1, _ =>
          rw [if_neg (show ¬ nI 1 = 0 by decide), if_pos (show nI 1 = 1 from rfl)]
          by_cases hc : B t = nI m
          · rw [if_pos hc]
            exact fin true (by rw [sp_cmp_1, decide_eq_true hc])
          · rw [if_neg hc]
            exact fin false (by rw [sp_cmp_1, decide_eq_false hc])
        | 2, _ =>
          rw [if_neg (show ¬ nI 2 = 0 by decide), if_neg (show ¬ nI 2 = 1 by decide)]
          by_cases hc : nI m < B t
          · rw [if_neg (Int32.not_le.mpr hc)]
            exact fin true (by rw [sp_cmp_2, decide_eq_true hc])
          · rw [if_pos (Int32.not_lt.mp hc)]
            exact fin false (by rw [sp_cmp_2, decide_eq_false hc])
      · rw [if_neg hh] at hk; cases hk
    · rw [hw_ht_not es g1] at hk
      by_cases hh : 1 ≤ h
      · rw [es, sp_step_not] at ih
        obtain ⟨b, r, rfl⟩ : ∃ b r, st = b :: r := by
          cases st with
          | nil => have g2 : 0 = h := g2; omega
          | cons b r => exact ⟨b, r, rfl⟩
        have g2 : r.length + 1 = h := g2
        rw [es, if_pos (hw_neg0 _ (by omega) (by omega)), if_pos hw_m_1]
        have ei : nI (b :: r).length - (1 : Int32) = nI r.length := nI_sub (a := r.length + 1) (b := 1) (by omega)
        simp only [hw_P_41_10 hF, Option.bind_some, ei, hw_A_45 hF (show r.length < 64 by omega), h4.1]
        have fin : ∃ τ, m12_base_b176 (m12_base_b15 fuel) 41 (nI l) (iI sum) (nI (b :: r).length) (nI (212 + 140 * l + j)) (some 45) (nI r.length) (nI (hw_bn (!b))) σ = some (hw_max 1 (iI (sp_run B f n).2), τ) ∧ hw_d hw_a45 σ τ := by
          unfold m12_base_b176 m12_base_b301
          rw [hw_B_45 hF (by omega), Option.bind_some]
          exact ih (hw_wI 45 r.length (nI (hw_bn (!b))) σ) (hw_d.wI rfl) (hw_tv_s (!b) h4.2)
        cases b
        · rw [if_pos (show nI (hw_bn false) = 0 from rfl)]; exact fin
        · rw [if_neg (show ¬ nI (hw_bn true) = 0 by decide)]; exact fin
      · rw [if_neg hh] at hk; cases hk
    · rw [hw_ht_two (Or.inl es) g1] at hk
      by_cases hh : 2 ≤ h
      · rw [es, sp_step_and] at ih
        obtain ⟨b, a2, r, rfl⟩ : ∃ b a2 r, st = b :: a2 :: r := by
          match st, g2 with
          | [], g2 => have g2 : 0 = h := g2; omega
          | [b], g2 => have g2 : 1 = h := g2; omega
          | b :: a2 :: r, g2 => exact ⟨b, a2, r, rfl⟩
        have g2 : r.length + 1 + 1 = h := g2
        have h41 : σ.2.2.1 45 (r.length + 1) = nI (hw_bn b) := h4.1
        rw [es, if_pos (hw_neg0 _ (by omega) (by omega)), if_neg (by rw [← hw_m_1]; exact hw_s_ne _ _ (by omega) (by omega) (by omega) (by omega) (by omega)), if_neg (by rw [← hw_m_10, iI_le (by omega) (by omega) (by omega) (by omega)]; omega)]
        have ei : nI (b :: a2 :: r).length + (-1 : Int32) = nI (r.length + 1) := pk_m1 (r.length + 1)
        have ei2 : nI (r.length + 1) - (1 : Int32) = nI r.length := nI_sub (a := r.length + 1) (b := 1) (by omega)
        simp only [hw_P_41_10 hF, Option.bind_some, if_pos hw_m_2, ei, ei2, hw_A_45 hF (show r.length < 64 by omega), hw_A_45 hF (show r.length + 1 < 64 by omega), h4.2.1, h41]
        have fin : ∀ c, c = (a2 && b) → ∃ τ, m12_base_b257 (m12_base_b15 fuel) 41 (nI l) (iI sum) (nI (r.length + 1)) (nI (212 + 140 * l + j)) (some 45) (nI r.length) (nI (hw_bn c)) σ = some (hw_max 1 (iI (sp_run B f n).2), τ) ∧ hw_d hw_a45 σ τ := by
          intro c hc
          unfold m12_base_b257 m12_base_b301
          rw [hw_B_45 hF (by omega), Option.bind_some]
          exact ih (hw_wI 45 r.length (nI (hw_bn c)) σ) (hw_d.wI rfl) (by rw [show sp_and (b :: a2 :: r) = (a2 && b) :: r from rfl, ← hc]; exact hw_tv_s c h4.2.2)
        cases a2
        · rw [if_pos (show nI (hw_bn false) = 0 from rfl)]; exact fin false rfl
        · rw [if_neg (show ¬ nI (hw_bn true) = 0 by decide)]
          cases b
          · rw [if_pos (show nI (hw_bn false) = 0 from rfl)]; exact fin false rfl
          · rw [if_neg (show ¬ nI (hw_bn true) = 0 by decide)]; exact fin true rfl
      · rw [if_neg hh] at hk; cases hk
    · rw [hw_ht_two (Or.inr es) g1] at hk
      by_cases hh : 2 ≤ h
      · rw [es, sp_step_or] at ih
        obtain ⟨b, a2, r, rfl⟩ : ∃ b a2 r, st = b :: a2 :: r := by
          match st, g2 with
          | [], g2 => have g2 : 0 = h := g2; omega
          | [b], g2 => have g2 : 1 = h := g2; omega
          | b :: a2 :: r, g2 => exact ⟨b, a2, r, rfl⟩
        have g2 : r.length + 1 + 1 = h := g2
        have h41 : σ.2.2.1 45 (r.length + 1) = nI (hw_bn b) := h4.1
        rw [es, if_pos (hw_neg0 _ (by omega) (by omega)), if_neg (by rw [← hw_m_1]; exact hw_s_ne _ _ (by omega) (by omega) (by omega) (by omega) (by omega)), if_neg (by rw [← hw_m_10, iI_le (by omega) (by omega) (by omega) (by omega)]; omega)]
        have ei : nI (b :: a2 :: r).length + (-1 : Int32) = nI (r.length + 1) := pk_m1 (r.length + 1)
        have ei2 : nI (r.length + 1) - (1 : Int32) = nI r.length := nI_sub (a := r.length + 1) (b := 1) (by omega)
        have n2 : ¬ iI (-3) = (-2 : Int32) := by decide
        simp only [hw_P_41_10 hF, Option.bind_some, if_neg n2, ei, ei2, hw_A_45 hF (show r.length < 64 by omega), hw_A_45 hF (show r.length + 1 < 64 by omega), h4.2.1, h41]
        have fin : ∀ c, c = (a2 || b) → ∃ τ, m12_base_b257 (m12_base_b15 fuel) 41 (nI l) (iI sum) (nI (r.length + 1)) (nI (212 + 140 * l + j)) (some 45) (nI r.length) (nI (hw_bn c)) σ = some (hw_max 1 (iI (sp_run B f n).2), τ) ∧ hw_d hw_a45 σ τ := by
          intro c hc
          unfold m12_base_b257 m12_base_b301
          rw [hw_B_45 hF (by omega), Option.bind_some]
          exact ih (hw_wI 45 r.length (nI (hw_bn c)) σ) (hw_d.wI rfl) (by rw [show sp_or (b :: a2 :: r) = (a2 || b) :: r from rfl, ← hc]; exact hw_tv_s c h4.2.2)
        unfold m12_base_b252
        cases a2
        · rw [if_pos (show nI (hw_bn false) = 0 from rfl)]
          cases b
          · rw [if_pos (show nI (hw_bn false) = 0 from rfl)]; exact fin false rfl
          · rw [if_neg (show ¬ nI (hw_bn true) = 0 by decide)]; exact fin true rfl
        · rw [if_neg (show ¬ nI (hw_bn true) = 0 by decide)]; exact fin true rfl
      · rw [if_neg hh] at hk; cases hk
    · rw [hw_ht_end (-10 - m) (by omega) (by omega) es g1] at hk
      by_cases hh : h = 1
      · rw [es, sp_step_wind a3] at ih
        obtain ⟨b, rfl⟩ : ∃ b, st = [b] := by
          match st, g2 with
          | [], g2 => have g2 : 0 = h := g2; omega
          | [b], g2 => exact ⟨b, rfl⟩
          | b :: a2 :: r, g2 => have g2 : r.length + 1 + 1 = h := g2; omega
        have h41 : σ.2.2.1 45 0 = nI (hw_bn b) := h4.1
        rw [es, if_pos (hw_neg0 _ (by omega) (by omega)), if_neg (by rw [← hw_m_1]; exact hw_s_ne _ _ (by omega) (by omega) (by omega) (by omega) (by omega)), if_pos (by rw [← hw_m_10, iI_le (by omega) (by omega) (by omega) (by omega)]; omega)]
        simp only [hw_P_41_10 hF, Option.bind_some, show (0 : Int32) = nI 0 from rfl, hw_A_45 hF (show 0 < 64 by decide), h41]
        unfold m12_base_b299 m12_base_b301
        have ih := ih σ hw_d.rf trivial
        cases b
        · rw [if_pos (show nI (hw_bn false) = nI 0 from rfl)]
          rw [show iI sum + nI 0 = iI (sum + 0) from iI_add sum 0]
          exact ih
        · rw [if_neg (show ¬ nI (hw_bn true) = nI 0 by decide), if_neg (by rw [← hw_m_200, iI_le (by omega) (by omega) (by omega) (by omega)]; omega)]
          rw [← hw_m_10, iI_sub, iI_add, show (-10 : Int) - (-10 - (m : Int)) = m by omega]
          exact ih
      · rw [if_neg hh] at hk; cases hk
    · rw [hw_ht_end (-200 - m) (by omega) (by omega) es g1] at hk
      by_cases hh : h = 1
      · rw [es, sp_step_ease a3] at ih
        obtain ⟨b, rfl⟩ : ∃ b, st = [b] := by
          match st, g2 with
          | [], g2 => have g2 : 0 = h := g2; omega
          | [b], g2 => exact ⟨b, rfl⟩
          | b :: a2 :: r, g2 => have g2 : r.length + 1 + 1 = h := g2; omega
        have h41 : σ.2.2.1 45 0 = nI (hw_bn b) := h4.1
        rw [es, if_pos (hw_neg0 _ (by omega) (by omega)), if_neg (by rw [← hw_m_1]; exact hw_s_ne _ _ (by omega) (by omega) (by omega) (by omega) (by omega)), if_pos (by rw [← hw_m_10, iI_le (by omega) (by omega) (by omega) (by omega)]; omega)]
        simp only [hw_P_41_10 hF, Option.bind_some, show (0 : Int32) = nI 0 from rfl, hw_A_45 hF (show 0 < 64 by decide), h41]
        unfold m12_base_b299 m12_base_b301
        have ih := ih σ hw_d.rf trivial
        cases b
        · rw [if_pos (show nI (hw_bn false) = nI 0 from rfl)]
          rw [show iI sum + nI 0 = iI (sum + 0) from iI_add sum 0]
          exact ih
        · rw [if_neg (show ¬ nI (hw_bn true) = nI 0 by decide), if_pos (by rw [← hw_m_200, iI_le (by omega) (by omega) (by omega) (by omega)]; omega)]
          rw [← hw_m_200, iI_sub, iI_add, show (-200 : Int) - (m : Int) - -200 = -m by omega]
          exact ih
      · rw [if_neg hh] at hk; cases hk
