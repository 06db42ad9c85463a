/-! the pure layer: turns and forms -/
def sp_by (w : Nat → Int32) (st h f p : Nat) (t : Nat) : Int32 := if t = 0 then nI h else if t = 1 then nI f else if t = 2 then nI p else if t = 3 then w (130 + st) else w (135 + st)
def sp_code (w : Nat → Int32) (l j : Nat) : Int32 := w (212 + 140 * l + j)
def sp_n (w : Nat → Int32) (l : Nat) : Nat := (w (204 + l)).toNatClampNeg
def sp_base (w : Nat → Int32) (l st h f p : Nat) : Nat := (max 1 (sp_run (sp_by w st h f p) (sp_code w l) (sp_n w l)).2).toNat
/-- what of a law, in the model's row, reckoning needs -/
def hw_ml (w : Nat → Int32) (l : Nat) : Prop := l < 8 ∧ ∃ (k v n hp co : Nat) (c : Nat → Int32), k ≤ 6 ∧ 1 ≤ v ∧ v ≤ 9 ∧ n ≤ 120 ∧ hp < 100 ∧ co < 100 ∧ w (140 + l) = nI k ∧ w (148 + l) = nI v ∧ w (156 + l) = nI hp ∧ w (164 + l) = nI co ∧ w (204 + l) = nI n ∧ (∀ j, j < 4 → ∃ q : Nat, q < 100 ∧ w (172 + 4 * l + j) = nI q) ∧ (∀ j, j < n → hw_ins (sp_code w l j) (c j)) ∧ hw_ht (sp_code w l) n ≠ none
def hw_ms (w : Nat → Int32) (st : Nat) : Prop := st < 5 ∧ ∃ p q : Nat, (1 ≤ p ∧ p ≤ 20) ∧ (1 ≤ q ∧ q ≤ 20) ∧ w (130 + st) = nI p ∧ w (135 + st) = nI q
theorem hw_lw.ml {σ : hw_S} {r : Option Nat} {l : Nat} {w : Nat → Int32} (hl : l < 8) (h : hw_lw σ r l w) : hw_ml w l := by
  obtain ⟨a, af, ac, as, k, v, n, hp, co, -, -, -, -, -, h1, h2, h3, h4, h5, h6, -, h7, h8, h9, h10, h11, -, -, -, -, -, -, -, -, -, -, -, -, -, -, h12, h13, h14, -⟩ := h
  exact ⟨hl, k, v, n, hp, co, σ.2.2.1 ac, h1, h2, h3, h4, h5, h6, h7, h8, h9, h10, h11, fun j hj => by obtain ⟨e, q, hq, e2⟩ := h12 j hj; exact ⟨q, hq, e.trans e2⟩, h13, h14⟩
theorem hw_sf.ms {σ : hw_S} {r : Option Nat} {st : Nat} {w : Nat → Int32} (hs : st < 5) (h : hw_sf σ r (w (130 + st)) (w (135 + st))) : hw_ms w st := by
  obtain ⟨a, p, q, -, -, -, h1, h2, -, -, h3, h4⟩ := h
  exact ⟨hs, p, q, h1, h2, h3, h4⟩
theorem hw_mxI {z : Int} (h : z < 2147483648) (h2 : -2147483648 ≤ z) : hw_max 1 (iI z) = nI (max 1 z).toNat := by
  rw [hw_max1, show (1 : Int32) = iI 1 from rfl]
  by_cases h1 : 1 ≤ z
  · rw [if_pos ((iI_le (by omega) (by omega) h2 h).mpr h1), iI_nI, Int.max_eq_right h1, Int.toNat_of_nonneg (by omega)]
  · rw [if_neg (fun c => h1 ((iI_le (by omega) (by omega) h2 h).mp c)), Int.max_eq_left (by omega)]
    rfl
theorem sp_base_le {w : Nat → Int32} {l : Nat} (h : hw_ml w l) (st a b p : Nat) : 1 ≤ sp_base w l st a b p ∧ sp_base w l st a b p ≤ 11880 := by
  obtain ⟨hl, k, v, n, hp, co, c, h1, h2, h3, h4, h5, h6, h7, h8, h9, h10, h11, h12, h13, h14⟩ := h
  have en : sp_n w l = n := by unfold sp_n; rw [h11, nI_clamp (by omega)]
  obtain ⟨q, -, -, -, g1, g2⟩ := sp_run_ok (B := sp_by w st a b p) h13 h14 n (Nat.le_refl n)
  unfold sp_base
  rw [en]
  omega
theorem sp_base_e {w : Nat → Int32} {l n : Nat} (h : hw_ml w l) (hn : w (204 + l) = nI n) (hn2 : n ≤ 120) (st a b p : Nat) : hw_max 1 (iI (sp_run (sp_by w st a b p) (sp_code w l) n).2) = nI (sp_base w l st a b p) := by
  obtain ⟨hl, k, v, n', hp, co, c, h1, h2, h3, h4, h5, h6, h7, h8, h9, h10, h11, h12, h13, h14⟩ := h
  have e0 : n' = n := (nI_eq (by omega) (by omega)).mp (h11.symm.trans hn)
  subst e0
  have en : sp_n w l = n' := by unfold sp_n; rw [h11, nI_clamp (by omega)]
  obtain ⟨q, -, -, -, g1, g2⟩ := sp_run_ok (B := sp_by w st a b p) h13 h14 n' (Nat.le_refl n')
  unfold sp_base
  rw [en, hw_mxI (by omega) (by omega)]
theorem c_baseIn {σ : hw_S} {w : Nat → Int32} {a sa l st h f p : Nat} (hl8 : l < 8) (hl : hw_lw σ (some a) l w) (hs : hw_sf σ (some sa) (w (130 + st)) (w (135 + st))) (h1 : h ≤ 60) (h2 : f ≤ 20) (h3 : p < 100) : m3_baseIn a (some sa) (nI (hw_dg h f p)) σ = some (nI (sp_base w l st h f p)) := by
  have hml := hl.ml hl8
  obtain ⟨a', af, ac, as, k, v, n, hp, co, e, -, -, -, -, g1, g2, g3, g4, -, -, gt, -, -, -, -, g5, -, -, -, -, -, -, g6, -, -, -, g7, g8, -, -, -, g9, g10, -⟩ := hl
  cases e
  obtain ⟨sa', x, y, e, -, gs, -, -, s1, s2, s3, s4⟩ := hs
  cases e
  have hb : hw_dg h f p < 2 ^ 31 := by unfold hw_dg; omega
  have hq : hw_qL (σ.1 a) = true := by
    rw [gt]
    match k, g1 with
    | 0, _ => decide
    | 1, _ => decide
    | 2, _ => decide
    | 3, _ => decide
    | 4, _ => decide
    | 5, _ => decide
    | 6, _ => decide
  unfold m3_baseIn
  rw [e11_heightOf hb, Option.bind_some, e11_flowOf hb, Option.bind_some, e11_paceOf hb, Option.bind_some, hw_dg_h h2 h3, hw_dg_f h2 h3, hw_dg_p h3]
  have := c_base_loop (B := sp_by w st h f p) (f := sp_code w l) (x := nI h) (y := nI f) (z := nI p) (sa := sa) (hw_gP_at hq g6) (hw_aL_at (by omega) (by omega) g8) (fun j hj => hw_aI_at g7 (by rw [g8]) hj (by omega)) g4 g9 g10 rfl rfl rfl gs (s1.trans s3.symm) (s2.trans s4.symm) n 0 hw_fu (by omega) (by show n < 4000; omega)
  rw [← sp_base_e hml g5 g4]
  exact this
def hw_a4445 (a _k : Nat) : Prop := a = 44 ∨ a = 45
theorem r_baseOf {σ : hw_S} {l st h f p : Nat} (hF : hw_F σ) (hl : hw_ml (σ.2.2.1 42) l) (hs : hw_ms (σ.2.2.1 42) st) : ∃ τ, m12_baseOf 41 (nI l) (nI st) (nI h) (nI f) (nI p) σ = some (nI (sp_base (σ.2.2.1 42) l st h f p), τ) ∧ hw_d hw_a4445 σ τ := by
  have hml := hl
  obtain ⟨hl8, k, v, n, hp, co, c, -, -, -, h4, -, -, -, -, -, -, h11, -, h13, h14⟩ := hl
  obtain ⟨hs5, x, y, -, -, s3, s4⟩ := hs
  unfold m12_baseOf
  have e1 : (130 : Int32) + nI st = nI (130 + st) := nI_add 130 st
  have e2 : (135 : Int32) + nI st = nI (135 + st) := nI_add 135 st
  have l0 : (0 : Int32) = nI 0 := rfl
  have l1 : (1 : Int32) = nI 1 := rfl
  have l2 : (2 : Int32) = nI 2 := rfl
  have l3 : (3 : Int32) = nI 3 := rfl
  have l4 : (4 : Int32) = nI 4 := rfl
  have F1 : hw_F (hw_wI 44 0 (nI h) σ) := hF
  have F2 : hw_F (hw_wI 44 1 (nI f) (hw_wI 44 0 (nI h) σ)) := hF
  have F3 : hw_F (hw_wI 44 2 (nI p) (hw_wI 44 1 (nI f) (hw_wI 44 0 (nI h) σ))) := hF
  have F4 : hw_F (hw_wI 44 3 (σ.2.2.1 42 (130 + st)) (hw_wI 44 2 (nI p) (hw_wI 44 1 (nI f) (hw_wI 44 0 (nI h) σ)))) := hF
  have F5 : hw_F (hw_wI 44 4 (σ.2.2.1 42 (135 + st)) (hw_wI 44 3 (σ.2.2.1 42 (130 + st)) (hw_wI 44 2 (nI p) (hw_wI 44 1 (nI f) (hw_wI 44 0 (nI h) σ))))) := hF
  have n42 : ∀ (k j : Nat) (v : Int32) (ρ : hw_S), (hw_wI 44 k v ρ).2.2.1 42 j = ρ.2.2.1 42 j := fun k j v ρ => by rw [hw_wI_3, if_neg (fun c => by omega)]
  rw [l0, l1, l2, l3, l4]
  simp only [hw_P_41_9 hF, Option.bind_some, hw_B_44 hF (show 0 < 5 by decide), hw_P_41_9 F1, hw_B_44 F1 (show 1 < 5 by decide), hw_P_41_9 F2, hw_B_44 F2 (show 2 < 5 by decide), hw_P_41_9 F3, hw_P_41_1 F3, e1, hw_A_42 F3 (show 130 + st < 1396 by omega), n42, hw_B_44 F3 (show 3 < 5 by decide), hw_P_41_9 F4, hw_P_41_1 F4, e2, hw_A_42 F4 (show 135 + st < 1396 by omega), hw_B_44 F4 (show 4 < 5 by decide), hw_V_41 F5]
  have hd : hw_d hw_a4445 σ (hw_wI 44 4 (σ.2.2.1 42 (135 + st)) (hw_wI 44 3 (σ.2.2.1 42 (130 + st)) (hw_wI 44 2 (nI p) (hw_wI 44 1 (nI f) (hw_wI 44 0 (nI h) σ))))) := (((((hw_d.wI (Or.inl rfl))).tr (hw_d.wI (Or.inl rfl))).tr (hw_d.wI (Or.inl rfl))).tr (hw_d.wI (Or.inl rfl))).tr (hw_d.wI (Or.inl rfl))
  have hby : ∀ t, t < 5 → (hw_wI 44 4 (σ.2.2.1 42 (135 + st)) (hw_wI 44 3 (σ.2.2.1 42 (130 + st)) (hw_wI 44 2 (nI p) (hw_wI 44 1 (nI f) (hw_wI 44 0 (nI h) σ))))).2.2.1 44 t = sp_by (σ.2.2.1 42) st h f p t := by
    intro t ht
    simp only [hw_wI_3]
    match t, ht with
    | 0, _ => rfl
    | 1, _ => rfl
    | 2, _ => rfl
    | 3, _ => rfl
    | 4, _ => rfl
  generalize (hw_wI 44 4 (σ.2.2.1 42 (135 + st)) (hw_wI 44 3 (σ.2.2.1 42 (130 + st)) (hw_wI 44 2 (nI p) (hw_wI 44 1 (nI f) (hw_wI 44 0 (nI h) σ))))) = ρ at F5 hd hby
  have h42 : ∀ j, ρ.2.2.1 42 j = σ.2.2.1 42 j := fun j => hd.2.2.2 42 j (by unfold hw_a4445; omega)
  obtain ⟨τ, g1, g2⟩ := r_base_loop (B := sp_by (σ.2.2.1 42) st h f p) hl8 h4 h13 h14 n 0 hw_fu ρ (by omega) (by show n < 4000; omega) F5 (fun j _ => h42 _) ((h42 _).trans h11) hby trivial
  refine ⟨τ, ?_, hd.tr (g2.mono (fun a k h => Or.inr h))⟩
  unfold m12_base
  have e3 : (212 : Int32) + (140 : Int32) * nI l = nI (212 + 140 * l + 0) := by
    rw [show (140 : Int32) * nI l = nI (140 * l) from nI_mul 140 l]
    exact nI_add 212 (140 * l)
  rw [e3]
  have g1 : m12_base_b15 hw_fu 41 (nI l) (nI 0) (nI 0) (nI (212 + 140 * l + 0)) ρ = some (hw_max 1 (iI (sp_run (sp_by (σ.2.2.1 42) st h f p) (sp_code (σ.2.2.1 42) l) n).2), τ) := g1
  rw [l0, g1, sp_base_e hml h11 h4]
  rfl
theorem e11_cut {a b : Nat} (ha : a < 2 ^ 31) (hb : b < 2 ^ 31) : m11_cut (nI a) (nI b) = some (nI (a / b)) := by
  unfold m11_cut m11_cut_b11
  by_cases h : b = 0
  · subst h
    rw [if_pos (show nI 0 = 0 from rfl), Nat.div_zero]; rfl
  · rw [if_neg (nI_ne0 (by omega) hb), hw_dvN ha hb (by omega)]; rfl
