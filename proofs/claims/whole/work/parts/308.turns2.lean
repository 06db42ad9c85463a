/-! the pure layer: turns -/
def sp_tn (k v wt s0 b h f : Nat) (hi : Bool) (stf : Nat) : Nat :=
  min 999 (if k = 1 then b + v * f / h else if k = 2 ∨ k = 5 then b + wt * v / stf else if k = 3 then b + h * f / (10 * s0) else if k = 4 then b + wt * v / stf + (if hi = true then v else 0) else if k = 6 then min (b + h * f / (10 * s0)) (b + 9 * v) else b)
def sp_k (w : Nat → Int32) (l : Nat) : Nat := (w (140 + l)).toNatClampNeg
def sp_v (w : Nat → Int32) (l : Nat) : Nat := (w (148 + l)).toNatClampNeg
def sp_wt (w : Nat → Int32) (st : Nat) : Nat := (w (135 + st)).toNatClampNeg
def sp_s0 (w : Nat → Int32) (st : Nat) : Nat := (w (130 + st)).toNatClampNeg
def sp_turns (w : Nat → Int32) (l st h f p : Nat) (hi : Bool) (stf : Nat) : Nat := sp_tn (sp_k w l) (sp_v w l) (sp_wt w st) (sp_s0 w st) (sp_base w l st h f p) h f hi stf
theorem hw_ml.k {w : Nat → Int32} {l : Nat} (h : hw_ml w l) : sp_k w l ≤ 6 ∧ w (140 + l) = nI (sp_k w l) := by
  obtain ⟨hl, k, v, n, hp, co, c, h1, h2, h3, h4, h5, h6, h7, h8, -⟩ := h
  unfold sp_k
  rw [h7, nI_clamp (by omega)]
  exact ⟨h1, rfl⟩
theorem hw_ml.v {w : Nat → Int32} {l : Nat} (h : hw_ml w l) : 1 ≤ sp_v w l ∧ sp_v w l ≤ 9 ∧ w (148 + l) = nI (sp_v w l) := by
  obtain ⟨hl, k, v, n, hp, co, c, h1, h2, h3, h4, h5, h6, h7, h8, -⟩ := h
  unfold sp_v
  rw [h8, nI_clamp (by omega)]
  exact ⟨h2, h3, rfl⟩
theorem hw_ms.s {w : Nat → Int32} {st : Nat} (h : hw_ms w st) : 1 ≤ sp_s0 w st ∧ sp_s0 w st ≤ 20 ∧ w (130 + st) = nI (sp_s0 w st) := by
  obtain ⟨hs, p, q, h1, h2, h3, h4⟩ := h
  unfold sp_s0
  rw [h3, nI_clamp (by omega)]
  exact ⟨h1.1, h1.2, rfl⟩
theorem hw_ms.w {w : Nat → Int32} {st : Nat} (h : hw_ms w st) : 1 ≤ sp_wt w st ∧ sp_wt w st ≤ 20 ∧ w (135 + st) = nI (sp_wt w st) := by
  obtain ⟨hs, p, q, h1, h2, h3, h4⟩ := h
  unfold sp_wt
  rw [h4, nI_clamp (by omega)]
  exact ⟨h2.1, h2.2, rfl⟩
theorem hw_mulle {a b x y : Nat} (h : a ≤ x) (h2 : b ≤ y) : a * b ≤ x * y := Nat.mul_le_mul h h2
theorem hw_divle (a b : Nat) : a / b ≤ a := Nat.div_le_self a b
theorem sp_tn_le {k v wt s0 b h f stf : Nat} {hi : Bool} (hb : 1 ≤ b) : 1 ≤ sp_tn k v wt s0 b h f hi stf ∧ sp_tn k v wt s0 b h f hi stf ≤ 999 := by
  unfold sp_tn
  refine ⟨?_, Nat.min_le_left _ _⟩
  rw [Nat.le_min]
  refine ⟨by decide, ?_⟩
  split
  · exact Nat.le_trans hb (Nat.le_add_right _ _)
  · split
    · exact Nat.le_trans hb (Nat.le_add_right _ _)
    · split
      · exact Nat.le_trans hb (Nat.le_add_right _ _)
      · split
        · exact Nat.le_trans hb (Nat.le_trans (Nat.le_add_right _ _) (Nat.le_add_right _ _))
        · split
          · rw [Nat.le_min]; exact ⟨Nat.le_trans hb (Nat.le_add_right _ _), Nat.le_trans hb (Nat.le_add_right _ _)⟩
          · exact hb
theorem sp_turns_le {w : Nat → Int32} {l : Nat} (h : hw_ml w l) (st a b p : Nat) (hi : Bool) (stf : Nat) : 1 ≤ sp_turns w l st a b p hi stf ∧ sp_turns w l st a b p hi stf ≤ 999 := sp_tn_le (sp_base_le h st a b p).1
theorem c_spun {σ : hw_S} {a k v wt s0 b h f p stf : Nat} {hi : Bool} (hk : k ≤ 6) (gt : σ.1 a = hw_tg k) (gv : σ.2.2.1 a 2 = nI v) (hv : v ≤ 9) (hb : b ≤ 11880) (h1 : h ≤ 60) (h2 : f ≤ 20) (h3 : p < 100) (hw : wt ≤ 20) (hs : stf ≤ 99) (hst : k ≠ 5 → stf = s0) :
    ∃ t : Nat, mv_spun a (nI b) (nI wt) (nI stf) (nI (hw_dg h f p)) (nI (hw_bn hi)) σ = some (nI t) ∧ min 999 t = sp_tn k v wt s0 b h f hi stf ∧ t < 100000 := by
  have hd : hw_dg h f p < 2 ^ 31 := by unfold hw_dg; omega
  have m1 : v * f ≤ 9 * 20 := hw_mulle hv h2
  have m2 : wt * v ≤ 20 * 9 := hw_mulle hw hv
  have m3 : h * f ≤ 60 * 20 := hw_mulle h1 h2
  have d1 := hw_divle (v * f) h
  have d2 := hw_divle (wt * v) stf
  have d3 := hw_divle (h * f) (10 * stf)
  unfold sp_tn
  match k, hk with
  | 0, _ =>
    rw [mv_spun_3 gt]
    exact ⟨b, rfl, rfl, by omega⟩
  | 1, _ =>
    rw [mv_spun_7 gt]
    have hq : hw_qL (σ.1 a) = true := by rw [gt]; decide
    refine ⟨b + v * f / h, ?_, rfl, by omega⟩
    unfold m7_spun
    rw [hw_gI_at hq gv, Option.bind_some, e11_flowOf hd, Option.bind_some, e11_heightOf hd, Option.bind_some, hw_dg_f h2 h3, hw_dg_h h2 h3, nI_mul, e11_cut (by omega) (by omega), Option.bind_some, nI_add]
  | 2, _ =>
    rw [mv_spun_2 gt]
    have hq : hw_qL (σ.1 a) = true := by rw [gt]; decide
    refine ⟨b + wt * v / stf, ?_, rfl, by omega⟩
    unfold m2_spun
    rw [hw_gI_at hq gv, Option.bind_some, nI_mul, e11_cut (by omega) (by omega), Option.bind_some, nI_add]
  | 3, _ =>
    rw [mv_spun_1 gt]
    have hst := hst (by decide)
    subst hst
    refine ⟨b + h * f / (10 * stf), ?_, rfl, by omega⟩
    unfold m1_spun
    rw [e11_heightOf hd, Option.bind_some, e11_flowOf hd, Option.bind_some, hw_dg_f h2 h3, hw_dg_h h2 h3, nI_mul, show (10 : Int32) * nI stf = nI (10 * stf) from nI_mul 10 stf, e11_cut (by omega) (by omega), Option.bind_some, nI_add]
  | 4, _ =>
    rw [mv_spun_0 gt]
    have hq : hw_qL (σ.1 a) = true := by rw [gt]; decide
    refine ⟨b + wt * v / stf + (if hi = true then v else 0), ?_, rfl, by split <;> omega⟩
    unfold m0_spun m2_spun m0_spun_b24
    rw [hw_rv_at hq, Option.bind_some, hw_gI_at hq gv, Option.bind_some, nI_mul, e11_cut (by omega) (by omega), Option.bind_some, nI_add, Option.bind_some]
    cases hi
    · rw [if_pos (show nI (hw_bn false) = 0 from rfl), show (0 : Int32) = nI 0 from rfl, nI_add]; rfl
    · rw [if_neg (show ¬ nI (hw_bn true) = 0 by decide), Option.bind_some, nI_add]; rfl
  | 5, _ =>
    rw [mv_spun_6 gt]
    have hq : hw_qL (σ.1 a) = true := by rw [gt]; decide
    refine ⟨b + wt * v / stf, ?_, rfl, by omega⟩
    unfold m2_spun
    rw [hw_gI_at hq gv, Option.bind_some, nI_mul, e11_cut (by omega) (by omega), Option.bind_some, nI_add]
  | 6, _ =>
    rw [mv_spun_5 gt]
    have hq : hw_qL (σ.1 a) = true := by rw [gt]; decide
    have hst := hst (by decide)
    subst hst
    refine ⟨min (b + h * f / (10 * stf)) (b + 9 * v), ?_, rfl, Nat.lt_of_le_of_lt (Nat.min_le_left _ _) (by omega)⟩
    unfold m5_spun m1_spun
    rw [hw_rv_at hq, Option.bind_some, e11_heightOf hd, Option.bind_some, e11_flowOf hd, Option.bind_some, hw_dg_f h2 h3, hw_dg_h h2 h3, nI_mul, show (10 : Int32) * nI stf = nI (10 * stf) from nI_mul 10 stf, e11_cut (by omega) (by omega), Option.bind_some, nI_add, Option.bind_some, hw_gI_at hq gv, Option.bind_some, show (9 : Int32) * nI v = nI (9 * v) from nI_mul 9 v, nI_add, hw_minN (by omega) (by omega)]
theorem c3_turnsIn_e {σ : hw_S} {w : Nat → Int32} {a sa l st h f p stf : Nat} {hi : Bool} (hl8 : l < 8) (hs5 : st < 5) (hl : hw_lw σ (some a) l w) (hs : hw_sf σ (some sa) (w (130 + st)) (w (135 + st))) (h1 : h ≤ 60) (h2 : f ≤ 20) (h3 : p < 100) (h4 : stf ≤ 99) (h5 : sp_k w l ≠ 5 → stf = sp_s0 w st) :
    m3_turnsIn a (some sa) (nI stf) (nI (hw_dg h f p)) (nI (hw_bn hi)) σ = some (nI (sp_turns w l st h f p hi stf)) := by
  have hml := hl.ml hl8
  have hms := hs.ms hs5
  have hb := c_baseIn hl8 hl hs h1 h2 h3
  have hk := hml.k
  have hv := hml.v
  have hwt := hms.w
  have hbl := sp_base_le hml st h f p
  obtain ⟨a', af, ac, as, k, v, n, hp, co, e, -, -, -, -, g1, g2, g3, g4, -, -, gt, k1, v1, -, -, g5, -, -, gv, -, -, -, -, -, -, -, -, -, -, -, -, -, -, -⟩ := hl
  cases e
  obtain ⟨sa', x, y, e, -, gs, -, -, s1, s2, s3, s4⟩ := hs
  cases e
  have ek : k = sp_k w l := (nI_eq (by omega) (by omega)).mp (k1.symm.trans hk.2)
  have ev : v = sp_v w l := (nI_eq (by omega) (by omega)).mp (v1.symm.trans hv.2.2)
  subst ek; subst ev
  obtain ⟨t, t1, t2, t3⟩ := c_spun (s0 := sp_s0 w st) (wt := sp_wt w st) (hi := hi) (p := p) hk.1 gt gv hv.2.1 hbl.2 h1 h2 h3 hwt.2.1 h4 h5
  have hq : hw_qL (σ.1 a) = true := by
    rw [gt]
    generalize sp_k w l = k at g1
    match k, g1 with
    | 0, _ => decide
    | 1, _ => decide
    | 2, _ => decide
    | 3, _ => decide
    | 4, _ => decide
    | 5, _ => decide
    | 6, _ => decide
  unfold m3_turnsIn
  rw [hw_rv_at hq, Option.bind_some, hb, Option.bind_some, hw_gI_at (q := hw_q 9) (by rw [gs]; decide) (s2.trans (s4.symm.trans hwt.2.2)), Option.bind_some, Option.bind_some, t1, Option.bind_some, show (999 : Int32) = nI 999 from rfl, hw_minN (by decide) (by omega), t2]
  rfl
theorem r_turnsAs {σ : hw_S} {l st h f p stf : Nat} {hi : Bool} (hF : hw_F σ) (hl : hw_ml (σ.2.2.1 42) l) (hs : hw_ms (σ.2.2.1 42) st) (h0 : 1 ≤ h) (h1 : h ≤ 60) (h2 : f ≤ 20) (h4 : 1 ≤ stf) (h5 : stf ≤ 99) :
    ∃ τ, m12_turnsAs 41 (nI l) (nI st) (nI h) (nI f) (nI p) (nI (hw_bn hi)) (nI stf) σ = some (nI (sp_turns (σ.2.2.1 42) l st h f p hi stf), τ) ∧ hw_d hw_a4445 σ τ := by
  obtain ⟨τ, b1, b2⟩ := r_baseOf (h := h) (f := f) (p := p) hF hl hs
  have hk := hl.k
  have hv := hl.v
  have hwt := hs.w
  have hs0 := hs.s
  have hbl := sp_base_le hl st h f p
  have Fτ := b2.F hF
  have h42 : ∀ j, τ.2.2.1 42 j = σ.2.2.1 42 j := fun j => b2.2.2.2 42 j (by unfold hw_a4445; omega)
  have hl8 := hl.1
  have hs5 := hs.1
  refine ⟨τ, ?_, b2⟩
  unfold m12_turnsAs
  have e1 : (148 : Int32) + nI l = nI (148 + l) := nI_add 148 l
  have e2 : (135 : Int32) + nI st = nI (135 + st) := nI_add 135 st
  have e3 : (130 : Int32) + nI st = nI (130 + st) := nI_add 130 st
  have e4 : (140 : Int32) + nI l = nI (140 + l) := nI_add 140 l
  simp only [hw_V_41 hF, Option.bind_some, b1, hw_b2, hw_P_41_1 Fτ, e1, e2, e3, e4, hw_A_42 Fτ (show 148 + l < 1396 by omega), hw_A_42 Fτ (show 135 + st < 1396 by omega), hw_A_42 Fτ (show 130 + st < 1396 by omega), hw_A_42 Fτ (show 140 + l < 1396 by omega), h42, hv.2.2, hwt.2.2, hs0.2.2, hk.2]
  unfold sp_turns sp_tn
  generalize sp_base (σ.2.2.1 42) l st h f p = b at hbl ⊢
  generalize sp_k (σ.2.2.1 42) l = k at hk ⊢
  generalize sp_v (σ.2.2.1 42) l = v at hv ⊢
  generalize sp_wt (σ.2.2.1 42) st = wt at hwt ⊢
  generalize sp_s0 (σ.2.2.1 42) st = s0 at hs0 ⊢
  have m1 : v * f ≤ 9 * 20 := hw_mulle hv.2.1 h2
  have m2 : wt * v ≤ 20 * 9 := hw_mulle hwt.2.1 hv.2.1
  have m3 : h * f ≤ 60 * 20 := hw_mulle h1 h2
  have d1 := hw_divle (v * f) h
  have d2 := hw_divle (wt * v) stf
  have d3 := hw_divle (h * f) (10 * s0)
  have e5 : (10 : Int32) * nI s0 = nI (10 * s0) := nI_mul 10 s0
  have e6 : (9 : Int32) * nI v = nI (9 * v) := nI_mul 9 v
  simp only [nI_mul, e5, hw_dvN (show wt * v < 2 ^ 31 by omega) (show stf < 2 ^ 31 by omega) h4, hw_dvN (show h * f < 2 ^ 31 by omega) (show 10 * s0 < 2 ^ 31 by omega) (show 0 < 10 * s0 by omega), Option.bind_some]
  have fin : ∀ t, t < 100000 → m12_turnsAs_b199 41 (nI t) τ = some (nI (min 999 t), τ) := by
    intro t ht
    unfold m12_turnsAs_b199 m12_turnsAs_b215
    rw [show (999 : Int32) = nI 999 from rfl]
    by_cases hc : t ≤ 999
    · rw [if_pos (nI_le hc (by decide)), Nat.min_eq_right hc]
    · rw [if_neg (nI_ge (by omega) (by omega)), Nat.min_eq_left (by omega)]
  unfold m12_turnsAs_b135 m12_turnsAs_b162 m12_turnsAs_b194
  match k, hk.1 with
  | 0, _ => exact fin b (by omega)
  | 1, _ =>
    rw [if_pos (show nI 1 = 1 from rfl), hw_dvN (by omega) (by omega) h0, Option.bind_some, nI_add]
    exact fin _ (by omega)
  | 2, _ =>
    rw [if_neg (show ¬ nI 2 = 1 by decide), if_pos (show nI 2 = 2 from rfl), nI_add]
    exact fin _ (by omega)
  | 3, _ =>
    rw [if_neg (show ¬ nI 3 = 1 by decide), if_neg (show ¬ nI 3 = 2 by decide), if_pos (show nI 3 = 3 from rfl), nI_add]
    exact fin _ (by omega)
  | 4, _ =>
    rw [if_neg (show ¬ nI 4 = 1 by decide), if_neg (show ¬ nI 4 = 2 by decide), if_neg (show ¬ nI 4 = 3 by decide), if_pos (show nI 4 = 4 from rfl), nI_add]
    cases hi
    · rw [if_pos (show nI (hw_bn false) = 0 from rfl), show (0 : Int32) = nI 0 from rfl, nI_add]
      exact fin _ (by omega)
    · rw [if_neg (show ¬ nI (hw_bn true) = 0 by decide), nI_add]
      exact fin _ (by omega)
  | 5, _ =>
    rw [if_neg (show ¬ nI 5 = 1 by decide), if_neg (show ¬ nI 5 = 2 by decide), if_neg (show ¬ nI 5 = 3 by decide), if_neg (show ¬ nI 5 = 4 by decide), if_pos (show nI 5 = 5 from rfl), nI_add]
    exact fin _ (by omega)
  | 6, _ =>
    rw [if_neg (show ¬ nI 6 = 1 by decide), if_neg (show ¬ nI 6 = 2 by decide), if_neg (show ¬ nI 6 = 3 by decide), if_neg (show ¬ nI 6 = 4 by decide), if_neg (show ¬ nI 6 = 5 by decide), if_pos (show nI 6 = 6 from rfl), e6, nI_add, nI_add]
    show _ = some (nI (min 999 (min (b + h * f / (10 * s0)) (b + 9 * v))), τ)
    by_cases hc : b + h * f / (10 * s0) ≤ b + 9 * v
    · rw [if_pos (nI_le hc (by omega)), Nat.min_eq_left hc]
      exact fin _ (by omega)
    · have hc2 : b + 9 * v ≤ b + h * f / (10 * s0) := by omega
      rw [if_neg (nI_ge (by omega) (by omega)), Nat.min_eq_right hc2]
      exact fin (b + 9 * v) (by omega)
