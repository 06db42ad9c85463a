/-! the pure layer: act -/
def cA (v : Int32) (σ : hw_S) : hw_S := hw_wI 23 1 (σ.2.2.1 23 1 + 1) (if 20 ≤ σ.2.2.1 23 1 then σ else hw_wI 24 (σ.2.2.1 23 1).toNatClampNeg v σ)
def rA (v : Int32) (σ : hw_S) : hw_S := hw_wI 41 22 (σ.2.2.1 41 22 + 1) (if 20 ≤ σ.2.2.1 41 22 then σ else hw_wI 54 (σ.2.2.1 41 22).toNatClampNeg v σ)
def cAs : List Int32 → hw_S → hw_S
  | [], σ => σ
  | v :: r, σ => cAs r (cA v σ)
def rAs : List Int32 → hw_S → hw_S
  | [], σ => σ
  | v :: r, σ => rAs r (rA v σ)
theorem cAs_app : ∀ (l r : List Int32) (σ : hw_S), cAs (l ++ r) σ = cAs r (cAs l σ)
  | [], _, _ => rfl
  | v :: l, r, σ => cAs_app l r (cA v σ)
theorem rAs_app : ∀ (l r : List Int32) (σ : hw_S), rAs (l ++ r) σ = rAs r (rAs l σ)
  | [], _, _ => rfl
  | v :: l, r, σ => rAs_app l r (rA v σ)
def hw_a23 (a _k : Nat) : Prop := a = 23 ∨ a = 24
def hw_a54 (a k : Nat) : Prop := (a = 41 ∧ (k = 22 ∨ k = 23 ∨ k = 24 ∨ k = 25)) ∨ a = 54
theorem cA_d (v : Int32) (σ : hw_S) : hw_d hw_a23 σ (cA v σ) := by
  unfold cA
  split
  · exact hw_d.wI (Or.inl rfl)
  · exact (hw_d.wI (Or.inr rfl)).tr (hw_d.wI (Or.inl rfl))
theorem rA_d (v : Int32) (σ : hw_S) : hw_d hw_a54 σ (rA v σ) := by
  unfold rA
  split
  · exact hw_d.wI (Or.inl ⟨rfl, Or.inl rfl⟩)
  · exact (hw_d.wI (Or.inr rfl)).tr (hw_d.wI (Or.inl ⟨rfl, Or.inl rfl⟩))
theorem cAs_d : ∀ (l : List Int32) (σ : hw_S), hw_d hw_a23 σ (cAs l σ)
  | [], _ => hw_d.rf
  | v :: l, σ => (cA_d v σ).tr (cAs_d l (cA v σ))
theorem rAs_d : ∀ (l : List Int32) (σ : hw_S), hw_d hw_a54 σ (rAs l σ)
  | [], _ => hw_d.rf
  | v :: l, σ => (rA_d v σ).tr (rAs_d l (rA v σ))
theorem cA_n {σ : hw_S} {n : Nat} (v : Int32) (h : σ.2.2.1 23 1 = nI n) : (cA v σ).2.2.1 23 1 = nI (n + 1) := by
  unfold cA
  rw [hw_wI_3, if_pos ⟨rfl, rfl⟩, h]
  exact nI_1 n
theorem rA_n {σ : hw_S} {n : Nat} (v : Int32) (h : σ.2.2.1 41 22 = nI n) : (rA v σ).2.2.1 41 22 = nI (n + 1) := by
  unfold rA
  rw [hw_wI_3, if_pos ⟨rfl, rfl⟩, h]
  exact nI_1 n
theorem hw_n20 {n : Nat} (h : ¬ 20 ≤ n) : ¬ (20 : Int32) ≤ nI n := nI_ge (a := n) (b := 20) (by omega) (by decide)
theorem cA_e {σ : hw_S} {n : Nat} (v : Int32) (hF : hw_F σ) (hn : n ≤ 100) (h : σ.2.2.1 23 1 = nI n) : m10_add 23 v σ = some (cA v σ) := by
  unfold m10_add m10_add_b19 cA
  rw [hw_G_23 hF, Option.bind_some, h]
  by_cases hc : 20 ≤ n
  · rw [if_pos (show (20 : Int32) ≤ nI n from nI_le hc (by omega)), if_pos (show (20 : Int32) ≤ nI n from nI_le hc (by omega)), Option.bind_some, hw_W_23 hF]
    rfl
  · have hF2 : hw_F (hw_wI 24 n v σ) := hF
    have e2 : (hw_wI 24 n v σ).2.2.1 23 1 = nI n := by rw [hw_wI_3, if_neg (fun c => by omega), h]
    rw [if_neg (hw_n20 hc), if_neg (hw_n20 hc), hw_P_23_0 hF, Option.bind_some, Option.bind_some, hw_B_24 hF (by omega), Option.bind_some, hw_G_23 hF2, e2, Option.bind_some, hw_W_23 hF2, nI_clamp (by omega)]
    rfl
theorem rA_e {σ : hw_S} {n : Nat} (v : Int32) (hF : hw_F σ) (hn : n ≤ 100) (h : σ.2.2.1 41 22 = nI n) : m12_ranBody 41 v σ = some (rA v σ) := by
  unfold m12_ranBody m12_ranBody_b19 rA
  rw [hw_G_41 hF, Option.bind_some, h]
  by_cases hc : 20 ≤ n
  · rw [if_pos (show (20 : Int32) ≤ nI n from nI_le hc (by omega)), if_pos (show (20 : Int32) ≤ nI n from nI_le hc (by omega)), Option.bind_some, hw_W_41 hF]
    rfl
  · have hF2 : hw_F (hw_wI 54 n v σ) := hF
    have e2 : (hw_wI 54 n v σ).2.2.1 41 22 = nI n := by rw [hw_wI_3, if_neg (fun c => by omega), h]
    rw [if_neg (hw_n20 hc), if_neg (hw_n20 hc), hw_P_41_21 hF, Option.bind_some, Option.bind_some, hw_B_54 hF (by omega), Option.bind_some, hw_G_41 hF2, e2, Option.bind_some, hw_W_41 hF2, nI_clamp (by omega)]
    rfl
/-- class and model have the same bodies -/
def hw_tw (σ τ : hw_S) (n : Nat) : Prop := σ.2.2.1 23 1 = nI n ∧ τ.2.2.1 41 22 = nI n ∧ ∀ i, i < n → i < 20 → σ.2.2.1 24 i = τ.2.2.1 54 i
theorem hw_tw_s {σ τ : hw_S} {n : Nat} (v : Int32) (hn : n ≤ 100) (h : hw_tw σ τ n) : hw_tw (cA v σ) (rA v τ) (n + 1) := by
  obtain ⟨h1, h2, h3⟩ := h
  refine ⟨cA_n v h1, rA_n v h2, fun i hi hi2 => ?_⟩
  unfold cA rA
  rw [h1, h2, hw_wI_3, hw_wI_3, if_neg (show ¬ (24 = 23 ∧ i = 1) by omega), if_neg (show ¬ (54 = 41 ∧ i = 22) by omega)]
  by_cases hc : 20 ≤ n
  · rw [if_pos (show (20 : Int32) ≤ nI n from nI_le hc (by omega)), if_pos (show (20 : Int32) ≤ nI n from nI_le hc (by omega))]
    exact h3 i (by omega) hi2
  · rw [if_neg (hw_n20 hc), if_neg (hw_n20 hc), nI_clamp (by omega), hw_wI_3, hw_wI_3]
    by_cases e : i = n
    · rw [if_pos ⟨rfl, e⟩, if_pos ⟨rfl, e⟩]
    · rw [if_neg (fun c => e c.2), if_neg (fun c => e c.2)]
      exact h3 i (by omega) hi2
theorem hw_tw_ss : ∀ (l : List Int32) {σ τ : hw_S} {n : Nat}, n + l.length ≤ 100 → hw_tw σ τ n → hw_tw (cAs l σ) (rAs l τ) (n + l.length)
  | [], _, _, _, _, h => h
  | v :: l, σ, τ, n, hn, h => by
    have hn : n + (l.length + 1) ≤ 100 := hn
    have := hw_tw_ss l (by omega) (hw_tw_s v (by omega) h)
    rw [show n + (v :: l).length = n + 1 + l.length by show n + (l.length + 1) = _; omega]
    exact this
def hw_ca (σ : hw_S) (a k : Nat) (num v : Int32) (n : Nat) : Prop := hw_F σ ∧ σ.2.2.1 23 1 = nI n ∧ 55 ≤ a ∧ k ≤ 6 ∧ hw_qL (σ.1 a) = true ∧ σ.1 a = hw_tg k ∧ σ.2.2.1 a 1 = num ∧ σ.2.2.1 a 2 = v
def hw_cr (σ : hw_S) (k : Nat) (num v : Int32) (n : Nat) : Prop := hw_F σ ∧ σ.2.2.1 41 22 = nI n ∧ k ≤ 6 ∧ σ.2.2.1 41 23 = nI k ∧ σ.2.2.1 41 24 = num ∧ σ.2.2.1 41 25 = v
theorem hw_ca.a {σ : hw_S} {a k n : Nat} {num v : Int32} (h : hw_ca σ a k num v n) (b : Int32) : hw_ca (cA b σ) a k num v (n + 1) := by
  obtain ⟨h1, h2, h3, h4, h5, h6, h7, h8⟩ := h
  have d := cA_d b σ
  refine ⟨d.F h1, cA_n b h2, h3, h4, by rw [d.1]; exact h5, by rw [d.1]; exact h6, (d.2.2.2 a 1 (by unfold hw_a23; omega)).trans h7, (d.2.2.2 a 2 (by unfold hw_a23; omega)).trans h8⟩
theorem hw_cr.a {σ : hw_S} {k n : Nat} {num v : Int32} (h : hw_cr σ k num v n) (b : Int32) : hw_cr (rA b σ) k num v (n + 1) := by
  obtain ⟨h1, h2, h4, h5, h6, h7⟩ := h
  have d := rA_d b σ
  have e : ∀ j, j ≠ 22 → (rA b σ).2.2.1 41 j = σ.2.2.1 41 j := by
    intro j hj
    unfold rA
    rw [hw_wI_3, if_neg (fun c => hj c.2)]
    split
    · rfl
    · rw [hw_wI_3, if_neg (fun c => by omega)]
  exact ⟨d.F h1, rA_n b h2, h4, (e 23 (by decide)).trans h5, (e 24 (by decide)).trans h6, (e 25 (by decide)).trans h7⟩
theorem hw_ca.s : ∀ (l : List Int32) {σ : hw_S} {a k n : Nat} {num v : Int32}, hw_ca σ a k num v n → hw_ca (cAs l σ) a k num v (n + l.length)
  | [], _, _, _, _, _, _, h => h
  | b :: l, σ, a, k, n, num, v, h => by
    have := hw_ca.s l (h.a b)
    rw [show n + (b :: l).length = n + 1 + l.length by show n + (l.length + 1) = _; omega]
    exact this
theorem hw_cr.s : ∀ (l : List Int32) {σ : hw_S} {k n : Nat} {num v : Int32}, hw_cr σ k num v n → hw_cr (rAs l σ) k num v (n + l.length)
  | [], _, _, _, _, _, h => h
  | b :: l, σ, k, n, num, v, h => by
    have := hw_cr.s l (h.a b)
    rw [show n + (b :: l).length = n + 1 + l.length by show n + (l.length + 1) = _; omega]
    exact this
def sp_fL (k : Nat) : List Int32 := if k = 1 then [11, 1] else if k = 5 then [51, 1] else [1]
def sp_fV (k : Nat) (num x : Int32) : Int32 := if k = 1 then x * 3 + num else if k = 5 then (x + num) ^^^ num else x + num
def sp_w1 (k : Nat) : List Int32 := 2 :: sp_fL k
def sp_wL (k : Nat) : List Int32 := if k = 2 ∨ k = 4 ∨ k = 5 then 21 :: sp_w1 k else if k = 6 then 61 :: sp_w1 k else sp_w1 k
def sp_wV (k : Nat) (num v x : Int32) : Int32 := if k = 2 ∨ k = 4 ∨ k = 5 then -(sp_fV k num x - v) else if k = 6 then sp_fV k num x - v + v else sp_fV k num x - v
def sp_l1 (k : Nat) : List Int32 := 3 :: sp_wL k
def sp_lL (k : Nat) : List Int32 := if k = 3 ∨ k = 6 then 31 :: sp_l1 k else if k = 4 then 41 :: (sp_l1 k ++ sp_fL k) else sp_l1 k
def sp_lV (k : Nat) (num v x : Int32) : Int32 := if k = 3 ∨ k = 6 then (sp_wV k num v x * 2) ^^^ 7 else if k = 4 then sp_wV k num v (x - 1) * 2 + sp_fV k num 2 else sp_wV k num v x * 2
theorem c_f3 {σ : hw_S} {a k n : Nat} {num v : Int32} (h : hw_ca σ a k num v n) (hn : n ≤ 100) (x : Int32) : m3_fallen a x (some 23) σ = some (x + num, cA 1 σ) := by
  have h2 := h.a 1
  unfold m3_fallen
  rw [hw_V_23 h.1, Option.bind_some, cA_e 1 h.1 hn h.2.1, Option.bind_some, hw_gI_at h2.2.2.2.2.1 h2.2.2.2.2.2.2.1]
  rfl
theorem c_fallen {σ : hw_S} {a k n : Nat} {num v : Int32} (h : hw_ca σ a k num v n) (hn : n ≤ 90) (x : Int32) : mv_fallen a x (some 23) σ = some (sp_fV k num x, cAs (sp_fL k) σ) := by
  have ht := h.2.2.2.2.2.1
  have hk := h.2.2.2.1
  match k, hk with
  | 0, _ => rw [mv_fallen_3 ht, c_f3 h (by omega)]; rfl
  | 1, _ =>
    have h1 := h.a 11
    rw [mv_fallen_7 ht]
    unfold m7_fallen
    rw [hw_V_23 h.1, Option.bind_some, cA_e 11 h.1 (by omega) h.2.1, Option.bind_some, hw_rv_at h1.2.2.2.2.1, Option.bind_some, c_f3 h1 (by omega)]
    rfl
  | 2, _ => rw [mv_fallen_2 ht, c_f3 h (by omega)]; rfl
  | 3, _ => rw [mv_fallen_1 ht, c_f3 h (by omega)]; rfl
  | 4, _ => rw [mv_fallen_0 ht, c_f3 h (by omega)]; rfl
  | 5, _ =>
    have h1 := h.a 51
    have h2 := h1.a 1
    rw [mv_fallen_6 ht]
    unfold m6_fallen
    rw [hw_V_23 h.1, Option.bind_some, cA_e 51 h.1 (by omega) h.2.1, Option.bind_some, hw_rv_at h1.2.2.2.2.1, Option.bind_some, c_f3 h1 (by omega), hw_b2s, hw_gI_at h2.2.2.2.2.1 h2.2.2.2.2.2.2.1]
    rfl
  | 6, _ => rw [mv_fallen_5 ht, c_f3 h (by omega)]; rfl
theorem c_w3 {σ : hw_S} {a k n : Nat} {num v : Int32} (h : hw_ca σ a k num v n) (hn : n ≤ 80) (x : Int32) : m3_wound a x (some 23) σ = some (sp_fV k num x - v, cAs (sp_w1 k) σ) := by
  have h1 := h.a 2
  have h2 := h1.s (sp_fL k)
  unfold m3_wound
  rw [hw_V_23 h.1, Option.bind_some, cA_e 2 h.1 (by omega) h.2.1, Option.bind_some, hw_rv_at h1.2.2.2.2.1, Option.bind_some, c_fallen h1 (by omega), hw_b2s, hw_gI_at h2.2.2.2.2.1 h2.2.2.2.2.2.2.2]
  rfl
theorem c_wound {σ : hw_S} {a k n : Nat} {num v : Int32} (h : hw_ca σ a k num v n) (hn : n ≤ 70) (x : Int32) : mv_wound a x (some 23) σ = some (sp_wV k num v x, cAs (sp_wL k) σ) := by
  have ht := h.2.2.2.2.2.1
  have hk := h.2.2.2.1
  have h21 := h.a 21
  have h61 := h.a 61
  have two : m2_wound a x (some 23) σ = some (-(sp_fV k num x - v), cAs (21 :: sp_w1 k) σ) := by
    unfold m2_wound
    rw [hw_V_23 h.1, Option.bind_some, cA_e 21 h.1 (by omega) h.2.1, Option.bind_some, hw_rv_at h21.2.2.2.2.1, Option.bind_some, c_w3 h21 (by omega), hw_b2s]
    rfl
  match k, hk with
  | 0, _ => rw [mv_wound_3 ht, c_w3 h (by omega)]; rfl
  | 1, _ => rw [mv_wound_7 ht, c_w3 h (by omega)]; rfl
  | 2, _ => rw [mv_wound_2 ht, two]; rfl
  | 3, _ => rw [mv_wound_1 ht, c_w3 h (by omega)]; rfl
  | 4, _ => rw [mv_wound_0 ht, two]; rfl
  | 5, _ => rw [mv_wound_6 ht, two]; rfl
  | 6, _ =>
    have h2 := h61.s (sp_w1 6)
    rw [mv_wound_5 ht]
    unfold m5_wound
    rw [hw_V_23 h.1, Option.bind_some, cA_e 61 h.1 (by omega) h.2.1, Option.bind_some, hw_rv_at h61.2.2.2.2.1, Option.bind_some, c_w3 h61 (by omega), hw_b2s, hw_gI_at h2.2.2.2.2.1 h2.2.2.2.2.2.2.2]
    rfl
theorem c_l3 {σ : hw_S} {a k n : Nat} {num v : Int32} (h : hw_ca σ a k num v n) (hn : n ≤ 60) (x : Int32) : m3_laid a x (some 23) σ = some (sp_wV k num v x * 2, cAs (sp_l1 k) σ) := by
  have h1 := h.a 3
  unfold m3_laid
  rw [hw_V_23 h.1, Option.bind_some, cA_e 3 h.1 (by omega) h.2.1, Option.bind_some, hw_rv_at h1.2.2.2.2.1, Option.bind_some, c_wound h1 (by omega), hw_b2s]
  rfl
theorem c_laid {σ : hw_S} {a k n : Nat} {num v : Int32} (h : hw_ca σ a k num v n) (hn : n ≤ 40) (x : Int32) : mv_laid a x (some 23) σ = some (sp_lV k num v x, cAs (sp_lL k) σ) := by
  have ht := h.2.2.2.2.2.1
  have hk := h.2.2.2.1
  have h31 := h.a 31
  have one : m1_laid a x (some 23) σ = some ((sp_wV k num v x * 2) ^^^ 7, cAs (31 :: sp_l1 k) σ) := by
    unfold m1_laid
    rw [hw_V_23 h.1, Option.bind_some, cA_e 31 h.1 (by omega) h.2.1, Option.bind_some, hw_rv_at h31.2.2.2.2.1, Option.bind_some, c_l3 h31 (by omega), hw_b2s]
    rfl
  match k, hk with
  | 0, _ => rw [mv_laid_3 ht, c_l3 h (by omega)]; rfl
  | 1, _ => rw [mv_laid_7 ht, c_l3 h (by omega)]; rfl
  | 2, _ => rw [mv_laid_2 ht, c_l3 h (by omega)]; rfl
  | 3, _ => rw [mv_laid_1 ht, one]; rfl
  | 4, _ =>
    have h41 := h.a 41
    have h2 := h41.s (sp_l1 4)
    have hl : (sp_l1 4).length = 4 := rfl
    rw [mv_laid_0 ht]
    unfold m0_laid
    rw [hw_V_23 h.1, Option.bind_some, cA_e 41 h.1 (by omega) h.2.1, Option.bind_some, hw_rv_at h41.2.2.2.2.1, Option.bind_some, c_l3 h41 (by omega), hw_b2s, hw_rv_at (q := hw_q 0) (by rw [h2.2.2.2.2.2.1]; decide), Option.bind_some, c_f3 h2 (by omega), hw_b2s]
    rfl
  | 5, _ => rw [mv_laid_6 ht, c_l3 h (by omega)]; rfl
  | 6, _ => rw [mv_laid_5 ht, one]; rfl
theorem r_pf {σ : hw_S} {k n : Nat} {num v : Int32} (h : hw_cr σ k num v n) (hn : n ≤ 100) (x : Int32) : m12_plainFalls 41 x σ = some (x + num, rA 1 σ) := by
  have h2 := h.a 1
  unfold m12_plainFalls
  rw [hw_V_41 h.1, Option.bind_some, rA_e 1 h.1 hn h.2.1, Option.bind_some, hw_G_41 h2.1, h2.2.2.2.2.1]
  rfl
theorem hw_kne {k j : Nat} (hk : k ≤ 6) (hj : j ≤ 6) (h : k ≠ j) : ¬ nI k = nI j := fun e => h ((nI_eq (by omega) (by omega)).mp e)
theorem r_fa {σ : hw_S} {k n : Nat} {num v : Int32} (h : hw_cr σ k num v n) (hn : n ≤ 90) (x : Int32) : m12_fallsActs 41 x σ = some (sp_fV k num x, rAs (sp_fL k) σ) := by
  have hk := h.2.2.1
  unfold m12_fallsActs sp_fV sp_fL
  rw [hw_G_41 h.1, h.2.2.2.1, Option.bind_some]
  by_cases h1 : k = 1
  · subst h1
    have g := h.a 11
    rw [if_pos (show nI 1 = 1 from rfl), if_pos rfl, if_pos rfl, hw_V_41 h.1, Option.bind_some, rA_e 11 h.1 (by omega) h.2.1, Option.bind_some, hw_V_41 g.1, Option.bind_some, r_pf g (by omega)]
    rfl
  · rw [if_neg (show ¬ nI k = 1 from hw_kne hk (by decide) h1), if_neg h1, if_neg h1, Option.bind_some]
    by_cases h5 : k = 5
    · subst h5
      have g := h.a 51
      have g2 := g.a 1
      rw [if_pos (show nI 5 = 5 from rfl), if_pos rfl, if_pos rfl, hw_V_41 h.1, Option.bind_some, rA_e 51 h.1 (by omega) h.2.1, Option.bind_some, hw_V_41 g.1, Option.bind_some, r_pf g (by omega), hw_b2s, hw_G_41 g2.1, g2.2.2.2.2.1]
      rfl
    · rw [if_neg (show ¬ nI k = 5 from hw_kne hk (by decide) h5), if_neg h5, if_neg h5, hw_V_41 h.1, Option.bind_some, r_pf h (by omega)]
      rfl
theorem r_pw {σ : hw_S} {k n : Nat} {num v : Int32} (h : hw_cr σ k num v n) (hn : n ≤ 80) (x : Int32) : m12_plainWinds 41 x σ = some (sp_fV k num x - v, rAs (sp_w1 k) σ) := by
  have h1 := h.a 2
  have h2 := h1.s (sp_fL k)
  unfold m12_plainWinds
  rw [hw_V_41 h.1, Option.bind_some, rA_e 2 h.1 (by omega) h.2.1, Option.bind_some, hw_V_41 h1.1, Option.bind_some, r_fa h1 (by omega), hw_b2s, hw_G_41 h2.1, h2.2.2.2.2.2]
  rfl
theorem sp_und2 {k : Nat} (hk : k ≤ 6) : sp_und k 2 = decide (k = 2 ∨ k = 4 ∨ k = 5) := by
  have : ∀ k, k < 7 → sp_und k 2 = decide (k = 2 ∨ k = 4 ∨ k = 5) := by decide +kernel
  exact this k (by omega)
theorem sp_und3 {k : Nat} (hk : k ≤ 6) : sp_und k 3 = decide (k = 3 ∨ k = 6) := by
  have : ∀ k, k < 7 → sp_und k 3 = decide (k = 3 ∨ k = 6) := by decide +kernel
  exact this k (by omega)
theorem r_wa {σ : hw_S} {k n : Nat} {num v : Int32} (h : hw_cr σ k num v n) (hn : n ≤ 70) (x : Int32) : m12_windsActs 41 x σ = some (sp_wV k num v x, rAs (sp_wL k) σ) := by
  have hk := h.2.2.1
  unfold m12_windsActs sp_wV sp_wL
  rw [hw_G_41 h.1, h.2.2.2.1, Option.bind_some, show (2 : Int32) = nI 2 from rfl, r_isUnder hk (by decide), Option.bind_some, sp_und2 hk]
  by_cases h1 : k = 2 ∨ k = 4 ∨ k = 5
  · have g := h.a 21
    rw [decide_eq_true h1, if_neg (show ¬ nI (hw_bn true) = 0 by decide), if_pos h1, if_pos h1, hw_V_41 h.1, Option.bind_some, rA_e 21 h.1 (by omega) h.2.1, Option.bind_some, hw_V_41 g.1, Option.bind_some, r_pw g (by omega)]
    rfl
  · rw [decide_eq_false h1, if_pos (show nI (hw_bn false) = 0 from rfl), if_neg h1, if_neg h1, Option.bind_some]
    by_cases h6 : k = 6
    · subst h6
      have g := h.a 61
      have g2 := g.s (sp_w1 6)
      rw [if_pos (show nI 6 = 6 from rfl), if_pos rfl, if_pos rfl, hw_V_41 h.1, Option.bind_some, rA_e 61 h.1 (by omega) h.2.1, Option.bind_some, hw_V_41 g.1, Option.bind_some, r_pw g (by omega), hw_b2s, hw_G_41 g2.1, g2.2.2.2.2.2]
      rfl
    · rw [if_neg (show ¬ nI k = 6 from hw_kne hk (by decide) h6), if_neg h6, if_neg h6, hw_V_41 h.1, Option.bind_some, r_pw h (by omega)]
      rfl
theorem r_pl {σ : hw_S} {k n : Nat} {num v : Int32} (h : hw_cr σ k num v n) (hn : n ≤ 60) (x : Int32) : m12_plainLies 41 x σ = some (sp_wV k num v x * 2, rAs (sp_l1 k) σ) := by
  have h1 := h.a 3
  unfold m12_plainLies
  rw [hw_V_41 h.1, Option.bind_some, rA_e 3 h.1 (by omega) h.2.1, Option.bind_some, hw_V_41 h1.1, Option.bind_some, r_wa h1 (by omega), hw_b2s]
  rfl
theorem r_la {σ : hw_S} {k n : Nat} {num v : Int32} (h : hw_cr σ k num v n) (hn : n ≤ 40) (x : Int32) : m12_liesActs 41 x σ = some (sp_lV k num v x, rAs (sp_lL k) σ) := by
  have hk := h.2.2.1
  unfold m12_liesActs sp_lV sp_lL
  rw [hw_G_41 h.1, h.2.2.2.1, Option.bind_some, show (3 : Int32) = nI 3 from rfl, r_isUnder hk (by decide), Option.bind_some, sp_und3 hk]
  by_cases h1 : k = 3 ∨ k = 6
  · have g := h.a 31
    rw [decide_eq_true h1, if_neg (show ¬ nI (hw_bn true) = 0 by decide), if_pos h1, if_pos h1, hw_V_41 h.1, Option.bind_some, rA_e 31 h.1 (by omega) h.2.1, Option.bind_some, hw_V_41 g.1, Option.bind_some, r_pl g (by omega)]
    rfl
  · rw [decide_eq_false h1, if_pos (show nI (hw_bn false) = 0 from rfl), if_neg h1, if_neg h1, Option.bind_some]
    by_cases h4 : k = 4
    · subst h4
      have g := h.a 41
      have g2 := g.s (sp_l1 4)
      have hl : (sp_l1 4).length = 4 := rfl
      rw [if_pos (show nI 4 = 4 from rfl), if_pos rfl, if_pos rfl, hw_V_41 h.1, Option.bind_some, rA_e 41 h.1 (by omega) h.2.1, Option.bind_some, hw_V_41 g.1, Option.bind_some, r_pl g (by omega), hw_b2s, hw_V_41 g2.1, Option.bind_some, r_fa g2 (by omega)]
      rfl
    · rw [if_neg (show ¬ nI k = 4 from hw_kne hk (by decide) h4), if_neg h4, if_neg h4, hw_V_41 h.1, Option.bind_some, r_pl h (by omega)]
      rfl
