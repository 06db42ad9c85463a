/-! the pure layer: the row of paces that is chosen -/
/-- the first q from q0 on with c -/
def sr (c : Nat → Bool) : Nat → Nat → Nat
  | 0, q => q
  | d + 1, q => if c q = true then q else sr c d (q + 1)
theorem sr_ok (c : Nat → Bool) : ∀ d q, (∃ x, q ≤ x ∧ x < q + d ∧ c x = true) → q ≤ sr c d q ∧ sr c d q < q + d ∧ c (sr c d q) = true ∧ ∀ x, q ≤ x → x < sr c d q → c x = false
  | 0, q, h => by obtain ⟨x, h1, h2, _⟩ := h; omega
  | d + 1, q, h => by
    show q ≤ (if c q = true then q else sr c d (q + 1)) ∧ (if c q = true then q else sr c d (q + 1)) < q + (d + 1) ∧ c (if c q = true then q else sr c d (q + 1)) = true ∧ ∀ x, q ≤ x → x < (if c q = true then q else sr c d (q + 1)) → c x = false
    by_cases hq : c q = true
    · rw [if_pos hq]
      exact ⟨Nat.le_refl q, by omega, hq, fun x h1 h2 => by omega⟩
    · rw [if_neg hq]
      obtain ⟨x, h1, h2, h3⟩ := h
      have hx : q ≠ x := fun e => hq (by rw [e]; exact h3)
      obtain ⟨g1, g2, g3, g4⟩ := sr_ok c d (q + 1) ⟨x, by omega, by omega, h3⟩
      refine ⟨by omega, by omega, g3, fun y y1 y2 => ?_⟩
      by_cases hy : y = q
      · rw [hy]; exact Bool.eq_false_iff.mpr hq
      · exact g4 y (by omega) y2
theorem sr_u (c : Nat → Bool) {d q r : Nat} (h1 : q ≤ r) (h2 : r < q + d) (h3 : c r = true) (h4 : ∀ x, q ≤ x → x < r → c x = false) : sr c d q = r := by
  obtain ⟨g1, g2, g3, g4⟩ := sr_ok c d q ⟨r, h1, h2, h3⟩
  by_cases hlt : sr c d q < r
  · rw [h4 _ g1 hlt] at g3; cases g3
  · by_cases hgt : r < sr c d q
    · rw [g4 r h1 hgt] at h3; cases h3
    · omega
/-- pace q may come behind pace p of row k -/
def cn (F : Nat → Nat → Nat) (nn k p q : Nat) : Bool := decide (ds p q ≤ nn ∧ ds p q + F (k + 1) q = F k p)
def PW (F : Nat → Nat → Nat) (nn b : Nat) : Nat → Nat
  | 0 => b
  | k + 1 => sr (cn F nn k (PW F nn b k)) 100 0
theorem c_fgo {σ : hw_S} {F : Nat → Nat → Nat} {k p nn : Nat} (hF : hw_F σ) (hk : k + 1 < 8) (hg : ∀ q, q < 100 → σ.2.2.1 (33 + (k + 1)) q = nI (F (k + 1) q)) (hgl : ∀ q, q < 100 → F (k + 1) q ≤ 1000000) (hv : F k p < 1000000) (hp : p < 100) (hn : nn ≤ 99) (hex : ∃ x, x < 100 ∧ cn F nn k p x = true) : m11_firstGoingOn (some (33 + (k + 1))) (nI p) (nI nn) (nI (F k p)) σ = some (nI (sr (cn F nn k p) 100 0)) := by
  obtain ⟨x, hx, hcx⟩ := hex
  obtain ⟨-, r2, r3, r4⟩ := sr_ok (cn F nn k p) 100 0 ⟨x, Nat.zero_le x, by omega, hcx⟩
  have r3 := of_decide_eq_true r3
  have key : ∀ m q fuel, q + m = sr (cn F nn k p) 100 0 → m < fuel → p - nn ≤ q → m11_firstGoingOn_b19 fuel (some (33 + (k + 1))) (nI p) (nI (F k p)) (nI (min 99 (p + nn))) (nI q) σ = some (nI (sr (cn F nn k p) 100 0)) := by
    intro m
    induction m with
    | zero =>
      intro q fuel e hf hq
      obtain ⟨fuel, rfl⟩ : ∃ k, fuel = k + 1 := ⟨fuel - 1, by omega⟩
      have e : q = sr (cn F nn k p) 100 0 := e
      have hds : ds p q ≤ nn ∧ ds p q + F (k + 1) q = F k p := by rw [e]; exact r3
      have hq2 : q ≤ p + nn := by have := hds.1; unfold ds at this; omega
      have l1 := hgl q (by omega)
      rw [m11_firstGoingOn_b19, if_neg (nI_nlt (by omega) (by omega)), rowA hF (by omega) (by omega), Option.bind_some, hg q (by omega), hw_absN (by omega) (by omega), nI_add, show p - q + (q - p) = ds p q from rfl, if_pos (congrArg nI hds.2), e]
    | succ m ih =>
      intro q fuel e hf hq
      obtain ⟨fuel, rfl⟩ : ∃ k, fuel = k + 1 := ⟨fuel - 1, by omega⟩
      have hc : ¬ (ds p q ≤ nn ∧ ds p q + F (k + 1) q = F k p) := of_decide_eq_false (r4 q (Nat.zero_le q) (by omega))
      have hr : sr (cn F nn k p) 100 0 ≤ p + nn := by
        have := r3.1
        have e2 : ds p (sr (cn F nn k p) 100 0) = (p - sr (cn F nn k p) 100 0) + (sr (cn F nn k p) 100 0 - p) := rfl
        omega
      have hdq : ds p q ≤ nn := by unfold ds; omega
      have l1 := hgl q (by omega)
      have ld : ds p q ≤ 200 := by unfold ds; omega
      rw [m11_firstGoingOn_b19, if_neg (nI_nlt (by omega) (by omega)), rowA hF (by omega) (by omega), Option.bind_some, hg q (by omega), hw_absN (by omega) (by omega), nI_add, show p - q + (q - p) = ds p q from rfl, if_neg (fun c => hc ⟨hdq, (nI_eq (a := ds p q + F (k + 1) q) (by omega) (by omega)).mp c⟩), nI_1]
      exact ih (q + 1) fuel (by omega) (by omega) (by omega)
  unfold m11_firstGoingOn
  have e1 : hw_min (99 : Int32) (nI p + nI nn) = nI (min 99 (p + nn)) := by
    rw [nI_add]
    exact hw_minN (a := 99) (by decide) (by omega)
  have e2 : hw_max (0 : Int32) (nI p - nI nn) = nI (p - nn) := by
    unfold hw_max
    by_cases h : nn ≤ p
    · rw [nI_sub h]
      by_cases h0 : p - nn = 0
      · rw [h0, if_neg (by decide)]; rfl
      · rw [if_pos (show (0 : Int32) < nI (p - nn) from nI_lt (a := 0) (by omega) (by omega))]
    · have h2 := pk_sneg (a := p) (b := nn) (by omega) (by omega)
      rw [if_neg (Int32.not_lt.mpr (Int32.le_of_lt h2)), show p - nn = 0 by omega]
      rfl
  rw [e1, e2]
  have lo : p - nn ≤ sr (cn F nn k p) 100 0 := by
    have := r3.1
    have e3 : ds p (sr (cn F nn k p) 100 0) = (p - sr (cn F nn k p) 100 0) + (sr (cn F nn k p) 100 0 - p) := rfl
    omega
  exact key (sr (cn F nn k p) 100 0 - (p - nn)) (p - nn) hw_fu (by omega) (by show _ < 4000; omega) (Nat.le_refl _)
/-- the costs hang together -/
def hw_ch (F : Nat → Nat → Nat) (nn R : Nat) : Prop := (∀ k q, k < R → F k q ≤ 1000000) ∧ ∀ k p, k + 1 < R → F k p < 1000000 → ∃ q, q < 100 ∧ cn F nn k p q = true
theorem FC_ch (fo rw : Nat → Nat) (nn R : Nat) : hw_ch (FC fo rw nn R) nn R := by
  refine ⟨fun k q h => FC_le _ _ _ _ _ _ h, fun k p hk hv => ?_⟩
  have e := FC_step fo rw nn R k p hk
  by_cases hc : fo p = rw k
  · rw [if_pos hc] at e
    rcases bst_at (FC fo rw nn R (k + 1)) nn p 100 with h | ⟨q, h1, h2, h3⟩
    · omega
    · exact ⟨q, h1, decide_eq_true ⟨h2, by rw [e, h3]⟩⟩
  · rw [if_neg hc] at e
    omega
theorem PW_ok {F : Nat → Nat → Nat} {nn R b : Nat} (h : hw_ch F nn R) (hb : b < 100) (hv : F 0 b < 1000000) : ∀ k, k < R → PW F nn b k < 100 ∧ F k (PW F nn b k) < 1000000
  | 0, _ => ⟨hb, hv⟩
  | k + 1, hk => by
    obtain ⟨g1, g2⟩ := PW_ok h hb hv k (by omega)
    obtain ⟨q, q1, q2⟩ := h.2 k _ hk g2
    obtain ⟨-, r2, r3, -⟩ := sr_ok (cn F nn k (PW F nn b k)) 100 0 ⟨q, Nat.zero_le q, by omega, q2⟩
    have r3 := of_decide_eq_true r3
    refine ⟨by show sr _ 100 0 < 100; omega, ?_⟩
    show F (k + 1) (sr (cn F nn k (PW F nn b k)) 100 0) < 1000000
    omega
theorem c_pir {σ : hw_S} {F : Nat → Nat → Nat} {nn R b i : Nat} (hF : hw_F σ) (hR : R ≤ 8) (hi : i < R) (h : hw_ch F nn R) (hb : b < 100) (hv : F 0 b < 1000000) (hn : nn ≤ 99) (hg : ∀ k, k < R → ∀ q, q < 100 → σ.2.2.1 (33 + k) q = nI (F k q)) : m11_paceInRow 0 (nI b) (nI nn) (nI i) σ = some (nI (PW F nn b i)) := by
  have key : ∀ d k fuel, k + d = i → d < fuel → m11_paceInRow_b6 fuel 0 (nI nn) (nI i) (nI (PW F nn b k)) (nI k) σ = some (nI (PW F nn b i)) := by
    intro d
    induction d with
    | zero =>
      intro k fuel e hf
      obtain ⟨fuel, rfl⟩ : ∃ k, fuel = k + 1 := ⟨fuel - 1, by omega⟩
      have e : k = i := e
      rw [m11_paceInRow_b6, if_pos (nI_le (by omega) (by omega)), e]
    | succ d ih =>
      intro k fuel e hf
      obtain ⟨fuel, rfl⟩ : ∃ k, fuel = k + 1 := ⟨fuel - 1, by omega⟩
      obtain ⟨g1, g2⟩ := PW_ok h hb hv k (by omega)
      rw [m11_paceInRow_b6, if_neg (nI_ge (by omega) (by omega)), hw_P_0_12 hF, Option.bind_some, show nI k + (1 : Int32) = nI (k + 1) from nI_1 k, rowP hF (by omega), Option.bind_some, Option.bind_some, rowP hF (by omega), Option.bind_some, rowA hF (by omega) g1, Option.bind_some, hg k (by omega) _ g1, c_fgo hF (by omega) (hg (k + 1) (by omega)) (fun q _ => h.1 (k + 1) q (by omega)) g2 g1 hn (h.2 k _ (by omega) g2), Option.bind_some]
      exact ih (k + 1) fuel (by omega) (by omega)
  exact key i 0 hw_fu (by omega) (by show i < 4000; omega)
/-- the first pace: the least cost, of several the first -/
def hw_fp (F : Nat → Nat → Nat) (b : Nat) : Prop := b < 100 ∧ (∀ q, q < 100 → F 0 b ≤ F 0 q) ∧ ∀ q, q < b → F 0 b < F 0 q
theorem rowP0 {σ : hw_S} (h : hw_F σ) : hw_aP 4 (some 32) (0 : Int32) σ = some (some 33) := rowP h (i := 0) (by decide)
theorem c_cfp {σ : hw_S} {F : Nat → Nat → Nat} (hF : hw_F σ) (hg : ∀ q, q < 100 → σ.2.2.1 33 q = nI (F 0 q)) (hl : ∀ q, F 0 q ≤ 1000000) : ∃ b, hw_fp F b ∧ m11_cheapestFirstPace 0 σ = some (nI b) := by
  have key : ∀ d p fuel b, p + d = 100 → d < fuel → b < p → (∀ q, q < p → F 0 b ≤ F 0 q) → (∀ q, q < b → F 0 b < F 0 q) → ∃ b', hw_fp F b' ∧ m11_cheapestFirstPace_b4 fuel 0 (nI b) (nI p) σ = some (nI b') := by
    intro d
    induction d with
    | zero =>
      intro p fuel b e hf hb h1 h2
      obtain ⟨fuel, rfl⟩ : ∃ k, fuel = k + 1 := ⟨fuel - 1, by omega⟩
      refine ⟨b, ⟨by omega, fun q hq => h1 q (by omega), h2⟩, ?_⟩
      rw [m11_cheapestFirstPace_b4, if_pos (hw_100l (by omega) (by omega))]
    | succ d ih =>
      intro p fuel b e hf hb h1 h2
      obtain ⟨fuel, rfl⟩ : ∃ k, fuel = k + 1 := ⟨fuel - 1, by omega⟩
      have hp : p < 100 := by omega
      have l1 := hl p
      have l2 := hl b
      rw [m11_cheapestFirstPace_b4, if_neg (hw_100n hp), hw_P_0_12 hF, Option.bind_some, rowP0 hF, Option.bind_some, rowA hF (by decide) hp, Option.bind_some, hg p hp, Option.bind_some, rowP0 hF, Option.bind_some, rowA hF (by decide) (by omega), Option.bind_some, hg b (by omega)]
      unfold m11_cheapestFirstPace_b31
      rw [nI_1]
      by_cases hc : F 0 b ≤ F 0 p
      · rw [if_pos (nI_le hc (by omega))]
        refine ih (p + 1) fuel b (by omega) (by omega) (by omega) (fun q hq => ?_) h2
        by_cases hqp : q = p
        · rw [hqp]; exact hc
        · exact h1 q (by omega)
      · rw [if_neg (nI_ge (by omega) (by omega))]
        refine ih (p + 1) fuel p (by omega) (by omega) (by omega) (fun q hq => ?_) (fun q hq => ?_)
        · by_cases hqp : q = p
          · rw [hqp]; exact Nat.le_refl _
          · have := h1 q (by omega); omega
        · have := h1 q (by omega); omega
  exact key 99 1 hw_fu 0 (by decide) (by decide) (by decide) (fun q hq => by rw [show q = 0 by omega]; exact Nat.le_refl _) (fun q hq => absurd hq (Nat.not_lt_zero q))
