/-! the pure layer: what a row of paces costs -/
def ds (a b : Nat) : Nat := (a - b) + (b - a)
def bst (g : Nat → Nat) (nn p : Nat) : Nat → Nat
  | 0 => 1000000
  | q + 1 => if ds p q ≤ nn then min (bst g nn p q) (ds p q + g q) else bst g nn p q
theorem bst_le (g : Nat → Nat) (nn p : Nat) : ∀ m, bst g nn p m ≤ 1000000
  | 0 => Nat.le_refl _
  | q + 1 => by
    have ih := bst_le g nn p q
    show (if ds p q ≤ nn then min (bst g nn p q) (ds p q + g q) else bst g nn p q) ≤ _
    split
    · exact Nat.le_trans (Nat.min_le_left _ _) ih
    · exact ih
theorem bst_lb (g : Nat → Nat) (nn p : Nat) : ∀ m q, q < m → ds p q ≤ nn → bst g nn p m ≤ ds p q + g q
  | 0, q, h, _ => absurd h (Nat.not_lt_zero q)
  | m + 1, q, h, h2 => by
    show (if ds p m ≤ nn then min (bst g nn p m) (ds p m + g m) else bst g nn p m) ≤ _
    by_cases e : q = m
    · subst e
      rw [if_pos h2]
      exact Nat.min_le_right _ _
    · have ih := bst_lb g nn p m q (by omega) h2
      split
      · exact Nat.le_trans (Nat.min_le_left _ _) ih
      · exact ih
theorem bst_at (g : Nat → Nat) (nn p : Nat) : ∀ m, bst g nn p m = 1000000 ∨ ∃ q, q < m ∧ ds p q ≤ nn ∧ bst g nn p m = ds p q + g q
  | 0 => Or.inl rfl
  | m + 1 => by
    have ih := bst_at g nn p m
    show (if ds p m ≤ nn then min (bst g nn p m) (ds p m + g m) else bst g nn p m) = _ ∨ ∃ q, q < m + 1 ∧ ds p q ≤ nn ∧ (if ds p m ≤ nn then min (bst g nn p m) (ds p m + g m) else bst g nn p m) = ds p q + g q
    by_cases h : ds p m ≤ nn
    · rw [if_pos h]
      by_cases h2 : bst g nn p m ≤ ds p m + g m
      · rw [Nat.min_eq_left h2]
        rcases ih with ih | ⟨q, a, b, c⟩
        · exact Or.inl ih
        · exact Or.inr ⟨q, by omega, b, c⟩
      · rw [Nat.min_eq_right (by omega)]
        exact Or.inr ⟨m, Nat.lt_succ_self m, h, rfl⟩
    · rw [if_neg h]
      rcases ih with ih | ⟨q, a, b, c⟩
      · exact Or.inl ih
      · exact Or.inr ⟨q, by omega, b, c⟩
theorem bst_u {g : Nat → Nat} {nn p m r : Nat} (h1 : r ≤ 1000000) (h2 : ∀ q, q < m → ds p q ≤ nn → r ≤ ds p q + g q) (h3 : r = 1000000 ∨ ∃ q, q < m ∧ ds p q ≤ nn ∧ r = ds p q + g q) : r = bst g nn p m := by
  have l1 := bst_le g nn p m
  apply Nat.le_antisymm
  · rcases bst_at g nn p m with e | ⟨q, a, b, c⟩
    · omega
    · rw [c]; exact h2 q a b
  · rcases h3 with e | ⟨q, a, b, c⟩
    · omega
    · rw [c]; exact bst_lb g nn p m q a b
def fc (fo rw : Nat → Nat) (nn R : Nat) : Nat → Nat → Nat
  | 0 => fun p => if fo p = rw (R - 1) then 0 else 1000000
  | j + 1 => fun p => if fo p = rw (R - 2 - j) then bst (fc fo rw nn R j) nn p 100 else 1000000
def FC (fo rw : Nat → Nat) (nn R i : Nat) : Nat → Nat := fc fo rw nn R (R - 1 - i)
theorem FC_last (fo rw : Nat → Nat) (nn R i p : Nat) (h : i + 1 = R) : FC fo rw nn R i p = if fo p = rw i then 0 else 1000000 := by
  subst h
  unfold FC
  rw [show i + 1 - 1 - i = 0 by omega]
  show (if fo p = rw (i + 1 - 1) then 0 else 1000000) = _
  rw [show i + 1 - 1 = i by omega]
theorem FC_step (fo rw : Nat → Nat) (nn R i p : Nat) (h : i + 1 < R) : FC fo rw nn R i p = if fo p = rw i then bst (FC fo rw nn R (i + 1)) nn p 100 else 1000000 := by
  unfold FC
  obtain ⟨j, hj⟩ : ∃ j, R - 1 - i = j + 1 := ⟨R - 1 - i - 1, by omega⟩
  rw [hj, show R - 1 - (i + 1) = j by omega]
  show (if fo p = rw (R - 2 - j) then bst (fc fo rw nn R j) nn p 100 else 1000000) = _
  rw [show R - 2 - j = i by omega]
theorem FC_le (fo rw : Nat → Nat) (nn R i p : Nat) (h : i < R) : FC fo rw nn R i p ≤ 1000000 := by
  by_cases h2 : i + 1 = R
  · rw [FC_last _ _ _ _ _ _ h2]
    split <;> decide
  · rw [FC_step _ _ _ _ _ _ (by omega)]
    split
    · exact bst_le _ _ _ _
    · exact Nat.le_refl _
theorem FC_small (fo rw : Nat → Nat) {nn R : Nat} (hn : nn ≤ 99) : ∀ j k p, R - 1 - k = j → k < R → FC fo rw nn R k p < 1000000 → FC fo rw nn R k p ≤ 99 * j := by
  intro j
  induction j with
  | zero =>
    intro k p e hk hv
    have el := FC_last fo rw nn R k p (by omega)
    by_cases hc : fo p = rw k
    · rw [if_pos hc] at el; omega
    · rw [if_neg hc] at el; omega
  | succ j ih =>
    intro k p e hk hv
    have el := FC_step fo rw nn R k p (by omega)
    by_cases hc : fo p = rw k
    · rw [if_pos hc] at el
      rcases bst_at (FC fo rw nn R (k + 1)) nn p 100 with h | ⟨q, h1, h2, h3⟩
      · omega
      · have := ih (k + 1) q (by omega) (by omega) (by omega)
        omega
    · rw [if_neg hc] at el; omega
theorem rowA {σ : hw_S} (h : hw_F σ) {A q : Nat} (hA : 33 ≤ A ∧ A ≤ 40) (hq : q < 100) : hw_aI 0 (some A) (nI q) σ = some (σ.2.2.1 A q) := by
  have : A = 33 ∨ A = 34 ∨ A = 35 ∨ A = 36 ∨ A = 37 ∨ A = 38 ∨ A = 39 ∨ A = 40 := by omega
  rcases this with rfl | rfl | rfl | rfl | rfl | rfl | rfl | rfl
  · exact hw_A_33 h hq
  · exact hw_A_34 h hq
  · exact hw_A_35 h hq
  · exact hw_A_36 h hq
  · exact hw_A_37 h hq
  · exact hw_A_38 h hq
  · exact hw_A_39 h hq
  · exact hw_A_40 h hq
theorem rowB {σ : hw_S} (h : hw_F σ) {A q : Nat} {v : Int32} (hA : 33 ≤ A ∧ A ≤ 40) (hq : q < 100) : hw_sI (some A) (nI q) v σ = some (hw_wI A q v σ) := by
  have : A = 33 ∨ A = 34 ∨ A = 35 ∨ A = 36 ∨ A = 37 ∨ A = 38 ∨ A = 39 ∨ A = 40 := by omega
  rcases this with rfl | rfl | rfl | rfl | rfl | rfl | rfl | rfl
  · exact hw_B_33 h hq
  · exact hw_B_34 h hq
  · exact hw_B_35 h hq
  · exact hw_B_36 h hq
  · exact hw_B_37 h hq
  · exact hw_B_38 h hq
  · exact hw_B_39 h hq
  · exact hw_B_40 h hq
theorem rowP {σ : hw_S} (h : hw_F σ) {i : Nat} (hi : i < 8) : hw_aP 4 (some 32) (nI i) σ = some (some (33 + i)) := by
  rw [hw_Fap (t := 4) h (by decide) (by decide) (show i < 8 from hi) (by decide)]
  have e : σ.2.2.2.1 32 i = some (33 + i) := by
    have : i = 0 ∨ i = 1 ∨ i = 2 ∨ i = 3 ∨ i = 4 ∨ i = 5 ∨ i = 6 ∨ i = 7 := by omega
    rcases this with rfl | rfl | rfl | rfl | rfl | rfl | rfl | rfl
    · exact h.2.2.1 (32, 0, 33) (by decide)
    · exact h.2.2.1 (32, 1, 34) (by decide)
    · exact h.2.2.1 (32, 2, 35) (by decide)
    · exact h.2.2.1 (32, 3, 36) (by decide)
    · exact h.2.2.1 (32, 4, 37) (by decide)
    · exact h.2.2.1 (32, 5, 38) (by decide)
    · exact h.2.2.1 (32, 6, 39) (by decide)
    · exact h.2.2.1 (32, 7, 40) (by decide)
  rw [e]
theorem c_cgo {σ : hw_S} {g : Nat → Nat} {A p nn : Nat} (hF : hw_F σ) (hA : 33 ≤ A ∧ A ≤ 40) (hg : ∀ q, q < 100 → σ.2.2.1 A q = nI (g q)) (hgl : ∀ q, g q ≤ 1000000) (hp : p < 100) (hn : nn ≤ 99) : m11_cheapestGoingOn (some A) (nI p) (nI nn) σ = some (nI (bst g nn p 100)) := by
  have key : ∀ m d fuel b, d + m = nn + 1 → m < fuel → b ≤ 1000000 → (∀ q, q < 100 → ds p q < d → ds p q ≤ nn → b ≤ ds p q + g q) → (b = 1000000 ∨ ∃ q, q < 100 ∧ ds p q ≤ nn ∧ b = ds p q + g q) → m11_cheapestGoingOn_b6 fuel (some A) (nI p) (nI nn) (nI b) (nI d) σ = some (nI (bst g nn p 100)) := by
    intro m
    induction m with
    | zero =>
      intro d fuel b e hf h1 h2 h3
      obtain ⟨fuel, rfl⟩ : ∃ k, fuel = k + 1 := ⟨fuel - 1, by omega⟩
      rw [m11_cheapestGoingOn_b6, if_pos (nI_lt (by omega) (by omega))]
      unfold m11_cheapestGoingOn_b68
      rw [bst_u h1 (fun q a c => h2 q a (by omega) c) h3]
    | succ m ih =>
      intro d fuel b e hf h1 h2 h3
      obtain ⟨fuel, rfl⟩ : ∃ k, fuel = k + 1 := ⟨fuel - 1, by omega⟩
      rw [m11_cheapestGoingOn_b6, if_neg (nI_nlt (by omega) (by omega))]
      by_cases hb : b ≤ d
      · rw [if_pos (nI_le hb (by omega))]
        unfold m11_cheapestGoingOn_b68
        rw [bst_u h1 (fun q a c => ?_) h3]
        by_cases hq : ds p q < d
        · exact h2 q a hq c
        · omega
      · rw [if_neg (nI_ge (by omega) (by omega))]
        -- the near side
        have side : ∀ b1, b1 ≤ b → (∀ q, q < 100 → ds p q < d → ds p q ≤ nn → b1 ≤ ds p q + g q) → (b1 = 1000000 ∨ ∃ q, q < 100 ∧ ds p q ≤ nn ∧ b1 = ds p q + g q) → (∀ q, q < 100 → q ≤ p → ds p q = d → b1 ≤ ds p q + g q) → m11_cheapestGoingOn_b39 (m11_cheapestGoingOn_b6 fuel) (some A) (nI p) (nI nn) (nI b1) (nI d) σ = some (nI (bst g nn p 100)) := by
          intro b1 k1 k2 k3 k4
          unfold m11_cheapestGoingOn_b39 m11_cheapestGoingOn_b62
          rw [nI_add, nI_1]
          by_cases hpd : p + d < 100
          · rw [if_neg (hw_100n hpd), rowA hF hA hpd, Option.bind_some, hg _ hpd, nI_add, hw_minN (by omega) (by have := hgl (p + d); omega)]
            have dd : ds p (p + d) = d := by unfold ds; omega
            refine ih (d + 1) fuel _ (by omega) (by omega) (by omega) (fun q a c c2 => ?_) ?_
            · by_cases hq : ds p q < d
              · exact Nat.le_trans (Nat.min_le_left _ _) (k2 q a hq c2)
              · have hq2 : ds p q = d := by omega
                by_cases hqp : q ≤ p
                · exact Nat.le_trans (Nat.min_le_left _ _) (k4 q a hqp hq2)
                · have : q = p + d := by unfold ds at hq2; omega
                  rw [this, dd]
                  exact Nat.min_le_right _ _
            · by_cases hm : b1 ≤ d + g (p + d)
              · rw [Nat.min_eq_left hm]; exact k3
              · rw [Nat.min_eq_right (by omega)]
                exact Or.inr ⟨p + d, hpd, by omega, by rw [dd]⟩
          · rw [if_pos (hw_100l (by omega) (by omega))]
            refine ih (d + 1) fuel b1 (by omega) (by omega) (by omega) (fun q a c c2 => ?_) k3
            by_cases hq : ds p q < d
            · exact k2 q a hq c2
            · have hq2 : ds p q = d := by omega
              by_cases hqp : q ≤ p
              · exact k4 q a hqp hq2
              · unfold ds at hq2; omega
        by_cases hpd : d ≤ p
        · have dd : ds p (p - d) = d := by unfold ds; omega
          rw [nI_sub hpd, if_neg (nI_pos (by omega)), rowA hF hA (by omega), Option.bind_some, hg _ (by omega), nI_add, hw_minN (by omega) (by have := hgl (p - d); omega)]
          refine side _ (Nat.min_le_left _ _) (fun q a c c2 => Nat.le_trans (Nat.min_le_left _ _) (h2 q a c c2)) ?_ (fun q a c c2 => ?_)
          · by_cases hm : b ≤ d + g (p - d)
            · rw [Nat.min_eq_left hm]; exact h3
            · rw [Nat.min_eq_right (by omega)]
              exact Or.inr ⟨p - d, by omega, by omega, by rw [dd]⟩
          · have : q = p - d := by unfold ds at c2; omega
            rw [this, dd]
            exact Nat.min_le_right _ _
        · rw [if_pos (pk_sneg (by omega) (by omega))]
          exact side b (Nat.le_refl b) h2 h3 (fun q a c c2 => by unfold ds at c2; omega)
  exact key (nn + 1) 0 hw_fu 1000000 (by omega) (by show nn + 1 < 4000; omega) (Nat.le_refl _) (fun q a c c2 => absurd c (Nat.not_lt_zero _)) (Or.inl rfl)
def hw_arw (a _k : Nat) : Prop := 33 ≤ a ∧ a ≤ 40
theorem hw_arw_s : ∀ a k, hw_arw a k → hw_scr a k := fun a k h => by unfold hw_arw at h; unfold hw_scr; omega
theorem c_fill_in {fo rw : Nat → Nat} {nn R i : Nat} (hn : nn ≤ 99) (hR : R ≤ 8) (hi : i < R) (hfo : ∀ p, fo p ≤ 4) (hrw : ∀ p, rw p ≤ 4) : ∀ d p fuel σ, p + d = 100 → d < fuel → hw_F σ → (∀ q, q < 100 → σ.2.2.1 31 q = nI (fo q)) → σ.2.2.1 6 i = nI (rw i) → σ.2.2.1 1 9 = nI R → (i + 1 < R → ∀ q, q < 100 → σ.2.2.1 (33 + (i + 1)) q = nI (FC fo rw nn R (i + 1) q)) → (∀ q, q < p → σ.2.2.1 (33 + i) q = nI (FC fo rw nn R i q)) → ∃ τ, (∀ k10, m11_fillRowCosts_b16 k10 fuel 0 (nI nn) (nI i) (nI p) σ = k10 0 (nI nn) (nI i + (-1)) τ) ∧ hw_d (fun a _ => a = 33 + i) σ τ ∧ ∀ q, q < 100 → τ.2.2.1 (33 + i) q = nI (FC fo rw nn R i q) := by
  intro d
  induction d with
  | zero =>
    intro p fuel σ e hf hF h31 h6 h9 hnx hdn
    obtain ⟨fuel, rfl⟩ : ∃ k, fuel = k + 1 := ⟨fuel - 1, by omega⟩
    refine ⟨σ, fun k10 => ?_, hw_d.rf, fun q hq => hdn q (by omega)⟩
    rw [m11_fillRowCosts_b16, if_pos (hw_100l (by omega) (by omega))]
  | succ d ih =>
    intro p fuel σ e hf hF h31 h6 h9 hnx hdn
    obtain ⟨fuel, rfl⟩ : ∃ k, fuel = k + 1 := ⟨fuel - 1, by omega⟩
    have hp : p < 100 := by omega
    have hA : 33 ≤ 33 + i ∧ 33 + i ≤ 40 := by omega
    have go : ∃ τ, (∀ k10, m11_fillRowCosts_b16 k10 fuel 0 (nI nn) (nI i) (nI (p + 1)) (hw_wI (33 + i) p (nI (FC fo rw nn R i p)) σ) = k10 0 (nI nn) (nI i + (-1)) τ) ∧ hw_d (fun a _ => a = 33 + i) (hw_wI (33 + i) p (nI (FC fo rw nn R i p)) σ) τ ∧ ∀ q, q < 100 → τ.2.2.1 (33 + i) q = nI (FC fo rw nn R i q) := by
      refine ih (p + 1) fuel _ (by omega) (by omega) hF (fun q hq => by rw [hw_wI_n (by omega)]; exact h31 q hq) (by rw [hw_wI_n (by omega)]; exact h6) (by rw [hw_wI_n (by omega)]; exact h9) (fun h q hq => by rw [hw_wI_n (by omega)]; exact hnx h q hq) (fun q hq => ?_)
      by_cases hqp : q = p
      · rw [hqp, hw_wI_y]
      · rw [hw_wI_n (by omega)]; exact hdn q (by omega)
    obtain ⟨τ, g1, g2, g3⟩ := go
    refine ⟨τ, fun k10 => ?_, (hw_d.wI (A := fun a _ => a = 33 + i) rfl).tr g2, g3⟩
    rw [m11_fillRowCosts_b16, if_neg (hw_100n hp), hw_P_0_11 hF, Option.bind_some, hw_A_31 hF hp, Option.bind_some, h31 p hp, hw_P_0_0 hF, Option.bind_some, hw_P_1_8 hF, Option.bind_some, hw_A_6 hF (by omega), Option.bind_some, h6]
    unfold m11_fillRowCosts_b99
    rw [nI_1]
    have f1 := hfo p
    have f2 := hrw i
    by_cases hc : fo p = rw i
    · rw [if_pos (congrArg nI hc), Option.bind_some, hw_G_1 hF, Option.bind_some, h9, show nI R - (1 : Int32) = nI (R - 1) from nI_sub (b := 1) (by omega)]
      by_cases hl : i + 1 = R
      · rw [if_pos (show nI i = nI (R - 1) by rw [← hl]; rfl), hw_P_0_12 hF, Option.bind_some, rowP hF (by omega), Option.bind_some, show (0 : Int32) = nI 0 from rfl, rowB hF hA hp, Option.bind_some]
        have eF : FC fo rw nn R i p = 0 := by rw [FC_last _ _ _ _ _ _ hl, if_pos hc]
        rw [← g1 k10, eF]
      · rw [if_neg (show ¬ nI i = nI (R - 1) from fun c => by have := (nI_eq (by omega) (by omega)).mp c; omega), hw_P_0_12 hF, Option.bind_some, rowP hF (by omega), Option.bind_some, Option.bind_some, show nI i + (1 : Int32) = nI (i + 1) from nI_1 i, rowP hF (by omega), Option.bind_some, c_cgo (g := FC fo rw nn R (i + 1)) hF (by omega) (hnx (by omega)) (fun q => FC_le _ _ _ _ _ _ (by omega)) hp hn, Option.bind_some, rowB hF hA hp, Option.bind_some]
        have eF : FC fo rw nn R i p = bst (FC fo rw nn R (i + 1)) nn p 100 := by rw [FC_step _ _ _ _ _ _ (by omega), if_pos hc]
        rw [← g1 k10, eF]
    · rw [if_neg (fun c => hc ((nI_eq (by omega) (by omega)).mp c)), hw_P_0_12 hF, Option.bind_some, rowP hF (by omega), Option.bind_some, show (1000000 : Int32) = nI 1000000 from rfl, rowB hF hA hp, Option.bind_some]
      have eF : FC fo rw nn R i p = 1000000 := by
        by_cases hl : i + 1 = R
        · rw [FC_last _ _ _ _ _ _ hl, if_neg hc]
        · rw [FC_step _ _ _ _ _ _ (by omega), if_neg hc]
      rw [← g1 k10, eF]
theorem c_fill {fo rw : Nat → Nat} {nn R : Nat} (hn : nn ≤ 99) (hR : R ≤ 8) (hfo : ∀ p, fo p ≤ 4) (hrw : ∀ p, rw p ≤ 4) {σ : hw_S} (hF : hw_F σ) (h31 : ∀ q, q < 100 → σ.2.2.1 31 q = nI (fo q)) (h6 : ∀ i, i < R → σ.2.2.1 6 i = nI (rw i)) (h9 : σ.2.2.1 1 9 = nI R) : ∃ τ, m11_fillRowCosts 0 (nI nn) σ = some τ ∧ hw_d hw_arw σ τ ∧ ∀ k, k < R → ∀ q, q < 100 → τ.2.2.1 (33 + k) q = nI (FC fo rw nn R k q) := by
  have key : ∀ m fuel ρ, m ≤ R → m < fuel → hw_d hw_arw σ ρ → (∀ k, m ≤ k → k < R → ∀ q, q < 100 → ρ.2.2.1 (33 + k) q = nI (FC fo rw nn R k q)) → ∃ τ, m11_fillRowCosts_b10 fuel 0 (nI nn) (nI m - (1 : Int32)) ρ = some τ ∧ hw_d hw_arw σ τ ∧ ∀ k, k < R → ∀ q, q < 100 → τ.2.2.1 (33 + k) q = nI (FC fo rw nn R k q) := by
    intro m
    induction m with
    | zero =>
      intro fuel ρ _ hf hd h
      obtain ⟨fuel, rfl⟩ : ∃ k, fuel = k + 1 := ⟨fuel - 1, by omega⟩
      refine ⟨ρ, ?_, hd, fun k hk => h k (Nat.zero_le k) hk⟩
      rw [m11_fillRowCosts_b10, if_pos (show nI 0 - (1 : Int32) < 0 by decide)]
    | succ m ih =>
      intro fuel ρ hm hf hd h
      obtain ⟨fuel, rfl⟩ : ∃ k, fuel = k + 1 := ⟨fuel - 1, by omega⟩
      have K : ∀ a k, a < 33 → ρ.2.2.1 a k = σ.2.2.1 a k := fun a k ha => hd.2.2.2 a k (by unfold hw_arw; omega)
      obtain ⟨τ, g1, g2, g3⟩ := c_fill_in (i := m) hn hR (by omega) hfo hrw 100 0 hw_fu ρ (by decide) (by decide) (hd.F hF) (fun q hq => by rw [K 31 q (by decide)]; exact h31 q hq) (by rw [K 6 m (by decide)]; exact h6 m (by omega)) (by rw [K 1 9 (by decide)]; exact h9) (fun h2 => h (m + 1) (Nat.le_refl _) h2) (fun q hq => absurd hq (Nat.not_lt_zero q))
      obtain ⟨υ, u1, u2, u3⟩ := ih fuel τ (by omega) (by omega) (hd.tr (g2.mono (fun a k h => by unfold hw_arw; omega))) (fun k hk hk2 q hq => by
        by_cases hkm : k = m
        · rw [hkm]; exact g3 q hq
        · rw [g2.2.2.2 (33 + k) q (by omega)]; exact h k (by omega) hk2 q hq)
      refine ⟨υ, ?_, u2, u3⟩
      rw [m11_fillRowCosts_b10, show nI (m + 1) - (1 : Int32) = nI m from nI_pred m, if_neg (nI_pos (by omega))]
      refine (g1 _).trans ?_
      rw [hw_mm]
      exact u1
  obtain ⟨τ, g1, g2, g3⟩ := key R hw_fu σ (Nat.le_refl R) (by show R < 4000; omega) hw_d.rf (fun k h1 h2 => by omega)
  refine ⟨τ, ?_, g2, g3⟩
  unfold m11_fillRowCosts
  rw [hw_P_0_0 hF, Option.bind_some, hw_G_1 hF, Option.bind_some, h9]
  exact g1
