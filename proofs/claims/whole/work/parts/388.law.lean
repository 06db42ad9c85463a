/-! the pure layer: law -/
theorem b_id {α : Type} (x : Option α) : (x.bind fun y => some y) = x := by cases x <;> rfl
theorem lk_e {s : hw_S} {k : Nat} {l v : Int32} (hF : hw_F s) (hk : k ≤ 6) : m11_lawOfKind 0 (nI k) l v s = (m3_init s.2.2.2.2 (nI k) l v (some 19) (hw_nw (hw_tg k) 0 s)).bind fun τ => some (some s.2.2.2.2, τ) := by
  have p : ∀ t, hw_gP (hw_q 11) 3 (some 0) (hw_nw t 0 s) = some (some 19) := fun t => hw_P_0_3 (hw_F_nw hF)
  unfold m11_lawOfKind m7_init m2_init m1_init m0_init m6_init m5_init hw_nwO
  rcases (show k = 0 ∨ k = 1 ∨ k = 2 ∨ k = 3 ∨ k = 4 ∨ k = 5 ∨ k = 6 by omega) with rfl | rfl | rfl | rfl | rfl | rfl | rfl
  · rw [if_neg (by decide), if_neg (by decide), if_neg (by decide), if_neg (by decide), if_neg (by decide), if_neg (by decide), hw_b2s, p, Option.bind_some]
    rfl
  · rw [if_pos (by decide), hw_b2s, p, Option.bind_some, b_id]
    rfl
  · rw [if_neg (by decide), if_pos (by decide), hw_b2s, p, Option.bind_some, b_id]
    rfl
  · rw [if_neg (by decide), if_neg (by decide), if_pos (by decide), hw_b2s, p, Option.bind_some, b_id]
    rfl
  · rw [if_neg (by decide), if_neg (by decide), if_neg (by decide), if_pos (by decide), hw_b2s, p, Option.bind_some]
    unfold m2_init
    rw [b_id, b_id]
    rfl
  · rw [if_neg (by decide), if_neg (by decide), if_neg (by decide), if_neg (by decide), if_pos (by decide), hw_b2s, p, Option.bind_some]
    unfold m2_init
    rw [b_id, b_id]
    rfl
  · rw [if_neg (by decide), if_neg (by decide), if_neg (by decide), if_neg (by decide), if_neg (by decide), if_pos (by decide), hw_b2s, p, Option.bind_some]
    unfold m1_init
    rw [b_id, b_id]
    rfl
theorem hw_tg_L : ∀ k, k ≤ 6 → hw_qL (hw_tg k) = true := by decide
theorem ins_2 {s c : Int32} {g q : Nat} (h : hw_ins s c) (hg : g < 3) (hq : q < 100) (e : s = nI (2 + 8 * g + 32 * q)) : c = nI (16 + 64 * g + 256 * q) := by
  have neg : ∀ z : Int, -1000 < z → z < 0 → ¬ s = iI z := fun z h1 h2 c => by
    rw [e, iI_nI] at c
    have := (iI_eq (by omega) (by omega) (by omega) (by omega)).mp c
    omega
  rcases h with ⟨t, g', q', h5, h3, h100, es, ec⟩ | ⟨es, -⟩ | ⟨es, -⟩ | ⟨es, -⟩ | ⟨y, hy, es, -⟩ | ⟨y, hy, es, -⟩
  · rw [es] at e
    have := (nI_eq (by omega) (by omega)).mp e
    have t2 : t = 2 := by omega
    have g2 : g' = g := by omega
    have q2 : q' = q := by omega
    rw [ec, t2, g2, q2]
  · exact absurd es (neg _ (by omega) (by omega))
  · exact absurd es (neg _ (by omega) (by omega))
  · exact absurd es (neg _ (by omega) (by omega))
  · exact absurd es (neg _ (by omega) (by omega))
  · exact absurd es (neg _ (by omega) (by omega))
/-- what the model's reading leaves as it was -/
theorem rH_Q {l n : Nat} {k v : Int32} {s t : hw_S} (h : hw_d (hw_arf l) (rH l n k v s) t) (hl : l < 8) : (∀ a j, ¬ (a = 41 ∧ 4 ≤ j ∧ j ≤ 8) → ¬ (a = 42 ∧ (j = 5 ∨ hw_il l j)) → t.2.2.1 a j = s.2.2.1 a j) ∧ t.1 = s.1 ∧ t.2.1 = s.2.1 ∧ t.2.2.2 = s.2.2.2 ∧ t.2.2.1 42 (140 + l) = k ∧ t.2.2.1 42 (148 + l) = v ∧ t.2.2.1 42 5 = 0 := by
  refine ⟨fun a j h1 h2 => ?_, h.1, h.2.1, h.2.2.1, ?_, ?_, ?_⟩
  · unfold hw_il at h2
    rw [h.2.2.2 a j (by unfold hw_arf hw_il; omega)]
    unfold rH
    rw [hw_wI_n (by omega), hw_wI_n (by omega), hw_wI_n (by omega), hw_wI_n (by omega), hw_wI_n (by omega)]
  · rw [h.2.2.2 42 (140 + l) (by unfold hw_arf; omega)]
    unfold rH
    rw [hw_wI_n (by omega), hw_wI_y]
  · rw [h.2.2.2 42 (148 + l) (by unfold hw_arf; omega)]
    unfold rH
    rw [hw_wI_y]
  · rw [h.2.2.2 42 5 (by unfold hw_arf hw_il; omega)]
    unfold rH
    rw [hw_wI_n (by omega), hw_wI_n (by omega), hw_wI_y]
/-- a relation after law: the tape is empty, the laws are as many or one more -/
theorem law_R {σ τ : hw_S} {c0 c1 c2 c3 c4 c5 d1 : Nat} (hJ : hw_Jv σ) (hr : hw_rel σ 1 (σ.2.2.1 42) c0 c1 c2 c3 c4 c5) (hc : c1 < 8) (hd : d1 = c1 ∨ d1 = c1 + 1) (F : hw_F τ) (hk : hw_k σ τ) (Q : ∀ a j, a < 55 → ¬ (a = 1 ∧ (j = 3 ∨ j = 5)) → ¬ a = 19 → ¬ a = 21 → ¬ a = 22 → ¬ (a = 41 ∧ 4 ≤ j ∧ j ≤ 8) → ¬ (a = 42 ∧ (j = 1 ∨ j = 5 ∨ hw_il c1 j)) → τ.2.2.1 a j = σ.2.2.1 a j) (P : ∀ a j, a < 55 → ¬ (a = 19 ∧ j = 0) → ¬ (d1 = c1 + 1 ∧ a = 3 ∧ j = c1) → τ.2.2.2.1 a j = σ.2.2.2.1 a j) (w1 : τ.2.2.1 42 1 = nI d1) (w5 : τ.2.2.1 42 5 = nI 0) (s3 : τ.2.2.1 1 3 = nI d1) (s5 : τ.2.2.1 1 5 = nI 0) (new : d1 = c1 + 1 → (∀ a, τ.2.2.2.1 3 c1 = some a → (55 ≤ a ∧ a < τ.2.2.2.2) ∧ hw_qL (τ.1 a) = true) ∧ hw_lw τ (τ.2.2.2.1 3 c1) c1 (τ.2.2.1 42)) : hw_Jv τ := by
  obtain ⟨hF, p1, p2, -, him, htr⟩ := id hJ
  obtain ⟨⟨g0, -, -, -, -, -⟩, ⟨w0, -, -, -, -, -⟩, ⟨s0, -, -, -, -, -⟩, r4, r5, -, -, -, -⟩ := id hr
  have zz := hk.1
  refine Jv_now hJ hk F ⟨fun i hi a ha => ?_, fun i hi a ha => ?_⟩ ⟨fun a j h => ?_, fun a j h => P a j (by omega) (by omega) (by omega)⟩ (rel_k (d0 := c0) (d1 := d1) (d5 := 0) hr (fun a j h1 h2 => Q a j (by omega) (by omega) (by omega) (by omega) (by omega) (by omega) (by omega)) (fun j h => Q 1 j (by omega) (by omega) (by omega) (by omega) (by omega) (by omega) (by omega)) (fun j h => Q 42 j (by omega) (by omega) (by omega) (by omega) (by omega) (by omega) (by unfold hw_il; omega)) (Nat.le_refl _) g0 (by omega) (Nat.zero_le _) ((Q 42 0 (by omega) (by omega) (by omega) (by omega) (by omega) (by omega) (by unfold hw_il; omega)).trans w0) w1 w5 ((Q 1 1 (by omega) (by omega) (by omega) (by omega) (by omega) (by omega) (by omega)).trans s0) s3 s5 (fun i hi => ?_) (fun i hi => ?_))
  · have ha : τ.2.2.2.1 2 i = some a := ha
    rw [P 2 i (by omega) (by omega) (by omega)] at ha
    have g := p1.1 i hi a ha
    exact ⟨⟨g.1.1, by omega⟩, by rw [(hk.2 a g.1.1 g.1.2).1]; exact g.2⟩
  · have ha : τ.2.2.2.1 3 i = some a := ha
    by_cases hic : d1 = c1 + 1 ∧ i = c1
    · rw [hic.2] at ha
      exact (new hic.1).1 a ha
    · rw [P 3 i (by omega) (by omega) (by omega)] at ha
      have g := p1.2 i hi a ha
      exact ⟨⟨g.1.1, by omega⟩, by rw [(hk.2 a g.1.1 g.1.2).1]; exact g.2⟩
  · exact Q a j (by omega) (by omega) (by omega) (by omega) (by omega) (by omega) (by omega)
  · rw [P 2 i (by omega) (by omega) (by omega), Q 42 (130 + i) (by omega) (by omega) (by omega) (by omega) (by omega) (by omega) (by unfold hw_il; omega), Q 42 (135 + i) (by omega) (by omega) (by omega) (by omega) (by omega) (by omega) (by unfold hw_il; omega)]
    exact hk.sf (r4 i hi)
  · by_cases hic : i = c1
    · rw [hic]
      exact (new (by omega)).2
    · rw [P 3 i (by omega) (by omega) (by omega)]
      exact hk.lw (fun j hj => Q 42 j (by omega) (by omega) (by omega) (by omega) (by omega) (by omega) (by unfold hw_il at hj ⊢; omega)) (r5 i (by omega))
theorem j_law {σ : hw_S} (hJ : hw_Jv σ) (x y : Int32) : ∃ r σ1 τ, m11_law 0 x y σ = some (r, σ1) ∧ m12_law 41 x y σ1 = some (r, τ) ∧ hw_Jv τ ∧ hw_F σ1 := by
  obtain ⟨hF, p1, p2, ⟨c0, c1, c2, c3, c4, c5, hr⟩, him, htr⟩ := id hJ
  have s3 : σ.2.2.1 1 3 = nI c1 := hr.2.2.1.2.1
  have s5 : σ.2.2.1 1 5 = nI c5 := hr.2.2.1.2.2.2.2.2
  have w1 : σ.2.2.1 42 1 = nI c1 := hr.2.1.2.1
  have w5 : σ.2.2.1 42 5 = nI c5 := hr.2.1.2.2.2.2.2
  have b1 : c1 ≤ 8 := hr.1.2.1
  have b5 : c5 ≤ 120 := hr.1.2.2.2.2.2
  have r6 := hr.2.2.2.2.2.1
  have ex1 : m11_isWithin x (0 : Int32) (6 : Int32) = some (hw_tb (nI 0 ≤ x ∧ x ≤ nI 6)) := e11_isWithin x 0 6
  have ey1 : m11_isWithin y (1 : Int32) (9 : Int32) = some (hw_tb (nI 1 ≤ y ∧ y ≤ nI 9)) := e11_isWithin y 1 9
  have ex2 : m12_in x (0 : Int32) (6 : Int32) = some (hw_tb (nI 0 ≤ x ∧ x ≤ nI 6)) := e12_in x 0 6
  have ey2 : m12_in y (1 : Int32) (9 : Int32) = some (hw_tb (nI 1 ≤ y ∧ y ≤ nI 9)) := e12_in y 1 9
  unfold m11_law
  rw [ex1, Option.bind_some, hw_itb]
  by_cases hx : nI 0 ≤ x ∧ x ≤ nI 6
  · rw [if_pos hx, ey1, Option.bind_some, hw_itb]
    by_cases hy : nI 1 ≤ y ∧ y ≤ nI 9
    · rw [if_pos hy, hw_P_0_0 hF, Option.bind_some, hw_G_1 hF, Option.bind_some, s3]
      by_cases hc : c1 < 8
      · have Fa : hw_F (hw_wI 1 5 0 σ) := hF
        rw [if_pos (show nI c1 < (8 : Int32) from nI_lt (b := 8) hc (by decide)), Option.bind_some, hw_G_1 hF, Option.bind_some, s5, Option.bind_some, hw_W_1 hF, Option.bind_some, hw_P_0_3 Fa, Option.bind_some, hw_P_0_0 Fa, Option.bind_some, hw_P_1_4 Fa, Option.bind_some, hw_V_19 Fa, Option.bind_some]
        have parse : ∀ τ, hw_F τ → (∀ j, j = 1 ∨ j = 5 ∨ (10 ≤ j ∧ j < 130) → τ.2.2.1 42 j = σ.2.2.1 42 j) → RLw (fun i => (hw_wI 1 5 0 σ).2.2.1 4 i) c5 c1 (hw_wP 19 0 (some 4) (hw_wI 1 5 0 σ)) (rH c1 c5 x y τ) (m4_isLaw 19 (some 4) (nI c5) (hw_wI 1 5 0 σ)) (m12_law 41 x y τ) := fun τ h e => x_parse Fa h b5 hc hx hy ((e 1 (by omega)).trans w1) ((e 5 (by omega)).trans w5) (fun i hi => by
          rw [e (10 + i) (by omega), hw_wI_n (by omega)]
          exact (r6 i hi).1.symm)
        have hz := hF.2.2.2
        have dQ : ∀ s, hw_d hw_ard (hw_wP 19 0 (some 4) (hw_wI 1 5 0 σ)) s → ∀ a j, ¬ (a = 1 ∧ j = 5) → ¬ a = 19 → ¬ a = 21 → ¬ a = 22 → s.2.2.1 a j = σ.2.2.1 a j := fun s h a j h1 h2 h3 h4 => by
          rw [h.2.2.2 a j (by unfold hw_ard; omega), hw_wP_i, hw_wI_n h1]
        have dP : ∀ s, hw_d hw_ard (hw_wP 19 0 (some 4) (hw_wI 1 5 0 σ)) s → ∀ a j, ¬ (a = 19 ∧ j = 0) → s.2.2.2.1 a j = σ.2.2.2.1 a j := fun s h a j h1 => by
          rw [h.2.2.1, hw_wP_n h1, hw_wI_p]
        have d15 : ∀ s, hw_d hw_ard (hw_wP 19 0 (some 4) (hw_wI 1 5 0 σ)) s → s.2.2.1 1 5 = 0 := fun s h => by
          rw [h.2.2.2 1 5 (by unfold hw_ard; omega), hw_wP_i, hw_wI_y]
        have dE : ∀ s, hw_d hw_ard (hw_wP 19 0 (some 4) (hw_wI 1 5 0 σ)) s → ∀ a, 55 ≤ a → hw_eq σ s a := fun s h a ha => eq_tr (eq_tr (eq_wI (by omega)) (eq_wP (by omega))) (eq_d h (fun k => by unfold hw_ard; omega))
        have dz : ∀ s, hw_d hw_ard (hw_wP 19 0 (some 4) (hw_wI 1 5 0 σ)) s → s.2.2.2.2 = σ.2.2.2.2 := fun s h => by rw [h.2.2.1]; rfl
        rcases parse σ hF (fun _ _ => rfl) with ⟨fm, hv, cv, σb, τb, k, a1, a2, xb, gb⟩ | ⟨σb, τb, q, a1, a2, a3, a4, a5, a6, a7⟩
        · -- the law is right
          have db := xb.dc
          have Fb := xb.cF
          have kb : k ≤ 120 := by have := xb.kp; omega
          have s3b : σb.2.2.1 1 3 = nI c1 := (dQ σb db 1 3 (by omega) (by omega) (by omega) (by omega)).trans s3
          obtain ⟨C, S, hC, hS, hins, hht, -, -⟩ := id xb
          obtain ⟨kk, -, kk6, rfl⟩ := hw_win (lo := 0) (hi := 6) (by decide) (by decide) hx
          obtain ⟨vv, vv1, vv9, rfl⟩ := hw_win (lo := 1) (hi := 9) (by decide) (by decide) hy
          obtain ⟨τc, c1', c2', c3'⟩ := m3_bl (s := σb) (tag := hw_tg kk) (kn := k) (k := nI kk) (l := nI c1) (v := nI vv) Fb (hw_tg_L kk kk6) hC.2.2.2.2.2.1 kb
          have zb : σb.2.2.2.2 = σ.2.2.2.2 := dz σb db
          rw [zb] at c1' c2'
          generalize hzz : σ.2.2.2.2 = z at hz c1' c2' zb
          obtain ⟨e1, e2, ⟨t0, t1, l1, t2, l2, t3, l3⟩, ⟨i0, i1, i2, i3, i4⟩, ⟨q5, q6, q7⟩, f2, f3⟩ := id c2'
          have code : ∀ j, j < k → τc.2.2.1 (z + 3) j = C j := fun j hj => (f3 j hj).trans (hC.2.2.2.2.2.2.2.2.2.2 j hj)
          obtain ⟨τd, g1, g2, g3⟩ := sh_loop (u := τc) (z := z) (kn := k) (by rw [t0]; exact hw_tg_L kk kk6) t1 l1 t3 l3 q6 q7 kb (fun j hj => ⟨S j, by rw [code j hj]; exact hins j hj⟩) 100 0 hw_fu τc (Nat.zero_add 100) (show 100 < 4000 by decide) hw_d.rf (fun y hy => absurd hy (Nat.not_lt_zero y))
          have Fd : hw_F τd := g2.F c3'
          have tz : τd.1 z = hw_tg kk := by rw [g2.1]; exact t0
          have Fe : hw_F (hw_wP 3 c1 (some z) τd) := hw_F_wP Fd (by omega)
          have okP : hw_okP 2 (some z) τd = true := by
            show hw_qL (τd.1 z) = true
            rw [tz]
            exact hw_tg_L kk kk6
          have esP : hw_sP 2 (some 3) (nI c1) (some z) τd = some (hw_wP 3 c1 (some z) τd) := by
            show (if (τd.1 3 = 2 + 21 ∧ ¬ (nI c1 < 0 ∨ τd.2.1 3 ≤ (nI c1).toNatClampNeg)) ∧ hw_okP 2 (some z) τd = true then _ else _) = _
            rw [Fd.1 3 (by decide), Fd.2.1 3 (by decide), if_pos ⟨⟨by decide, hw_nIx (L := 8) hc (by decide)⟩, okP⟩, nI_clamp (by omega)]
          have v13 : (hw_wP 3 c1 (some z) τd).2.2.1 1 3 = nI c1 := by
            rw [hw_wP_i, g2.2.2.2 1 3 (by omega), (e2 1 (by omega)).2.2.1]
            exact s3b
          have F1 : hw_F (hw_wI 1 3 (nI (c1 + 1)) (hw_wP 3 c1 (some z) τd)) := Fe
          have cls : (hw_b2 (m4_isLaw 19 (some 4) (nI c5) (hw_wI 1 5 0 σ)) fun v68 σ68 => if v68 = 0 then (hw_gP (hw_q 11) 3 (some 0) σ68).bind fun v77 => (hw_gI (hw_q 4) 2 v77 σ68).bind fun v80 => some ((((-10) : Int32) - v80), σ68) else (hw_gP (hw_q 11) 0 (some 0) σ68).bind fun v86 => (hw_gP (hw_q 8) 2 v86 σ68).bind fun v89 => (hw_gP (hw_q 11) 0 (some 0) σ68).bind fun v93 => (hw_gI (hw_q 8) 3 v93 σ68).bind fun v96 => (hw_gP (hw_q 11) 0 (some 0) σ68).bind fun v102 => (hw_gI (hw_q 8) 3 v102 σ68).bind fun v105 => (hw_rv (hw_q 11) (some 0) σ68).bind fun a109 => hw_b2 (m11_lawOfKind 0 (nI kk) v105 (nI vv) σ68) fun v109 σ109 => (hw_sP 2 v89 v96 v109 σ109).bind fun σ112 => (hw_gP (hw_q 11) 0 (some 0) σ112).bind fun v114 => (hw_gI (hw_q 8) 3 v114 σ112).bind fun v118 => (hw_pI (hw_q 8) 3 v114 (v118 + (1 : Int32)) σ112).bind fun σ124 => some (v118, σ124)) = some (nI c1, hw_wI 1 3 (nI (c1 + 1)) (hw_wP 3 c1 (some z) τd)) := by
            have g1 : m3_init_b78 hw_fu z (0 : Int32) τc = some τd := g1
            rw [a1, hw_b2s, hw_if10, hw_P_0_0 Fb, Option.bind_some, hw_P_1_2 Fb, Option.bind_some, Option.bind_some, hw_G_1 Fb, Option.bind_some, s3b, Option.bind_some, hw_G_1 Fb, Option.bind_some, s3b, hw_V_0 Fb, Option.bind_some, lk_e Fb kk6, zb, c1', g1, Option.bind_some, hw_b2s, esP, Option.bind_some, hw_P_0_0 Fe, Option.bind_some, hw_G_1 Fe, Option.bind_some, v13, nI_1, hw_W_1 Fe, Option.bind_some]
          rw [cls]
          -- the frame
          have QC : ∀ a j, a < z → ¬ (a = 1 ∧ (j = 3 ∨ j = 5)) → ¬ a = 19 → ¬ a = 21 → ¬ a = 22 → (hw_wI 1 3 (nI (c1 + 1)) (hw_wP 3 c1 (some z) τd)).2.2.1 a j = σ.2.2.1 a j := fun a j ha h1 h2 h3 h4 => by
            rw [hw_wI_n (by omega), hw_wP_i, g2.2.2.2 a j (by omega), (e2 a ha).2.2.1]
            exact dQ σb db a j (by omega) h2 h3 h4
          rcases parse (hw_wI 1 3 (nI (c1 + 1)) (hw_wP 3 c1 (some z) τd)) F1 (fun j hj => QC 42 j (by omega) (by omega) (by omega) (by omega) (by omega)) with ⟨fm', hv', cv', σb', τ', k', a1', a2', xb', gb'⟩ | ⟨σb', τ', q, a1', -, -, -, -, -, -⟩
          · have ab := Option.some.inj (a1.symm.trans a1')
            have ab : σb = σb' := congrArg Prod.snd ab
            subst ab
            obtain ⟨C', S', hC', hS', hins', hht', -, -⟩ := id xb'
            have ek : k = k' := by
              have h := hC.2.2.2.2.2.1.symm.trans hC'.2.2.2.2.2.1
              exact (nI_eq (by omega) (by have := xb'.kp; omega)).mp h
            subst ek
            obtain ⟨m1, m2, m3, m4, m5, m6, m7⟩ := rH_Q xb'.dr hc
            have Q1 : ∀ a j, ¬ (a = 41 ∧ 4 ≤ j ∧ j ≤ 8) → ¬ (a = 42 ∧ (j = 1 ∨ j = 5 ∨ hw_il c1 j)) → (hw_wI 42 1 (nI (c1 + 1)) τ').2.2.1 a j = (hw_wI 1 3 (nI (c1 + 1)) (hw_wP 3 c1 (some z) τd)).2.2.1 a j := fun a j h1 h2 => by
              rw [hw_wI_n (fun c => h2 ⟨c.1, Or.inl c.2⟩)]
              exact m1 a j h1 (fun c => h2 ⟨c.1, Or.inr c.2⟩)
            have Q2 : ∀ j, ¬ j = 1 → (hw_wI 42 1 (nI (c1 + 1)) τ').2.2.1 42 j = τ'.2.2.1 42 j := fun j h => hw_wI_n (by omega)
            have fT : (hw_wI 42 1 (nI (c1 + 1)) τ').1 = τd.1 := m2
            have fL : (hw_wI 42 1 (nI (c1 + 1)) τ').2.1 = τd.2.1 := m3
            have fP : (hw_wI 42 1 (nI (c1 + 1)) τ').2.2.2.1 = (hw_wP 3 c1 (some z) τd).2.2.2.1 := congrArg Prod.fst m4
            have fZ : (hw_wI 42 1 (nI (c1 + 1)) τ').2.2.2.2 = z + 4 := by
              have h0 := congrArg Prod.snd m4
              have h : (hw_wI 42 1 (nI (c1 + 1)) τ').2.2.2.2 = τd.2.2.2.2 := h0
              rw [h, g2.2.2.1]
              exact e1
            have Dz : ∀ a, a < z → hw_eq σb τd a := fun a ha => eq_tr (e2 a ha) (eq_d g2 (fun j => by omega))
            have NZ : ∀ a j, z ≤ a → (hw_wI 42 1 (nI (c1 + 1)) τ').2.2.1 a j = τd.2.2.1 a j := fun a j ha => by
              rw [Q1 a j (by omega) (by omega), hw_wI_n (by omega), hw_wP_i]
            have NP : ∀ a j, z ≤ a → (hw_wI 42 1 (nI (c1 + 1)) τ').2.2.2.1 a j = τd.2.2.2.1 a j := fun a j ha => by
              rw [fP, hw_wP_n (by omega)]
            have hk : hw_k σ (hw_wI 42 1 (nI (c1 + 1)) τ') := by
              refine ⟨by rw [fZ, hzz]; omega, fun a h1 h2 => ?_⟩
              rw [hzz] at h2
              have h := eq_tr (dE σb db a h1) (Dz a h2)
              refine ⟨by rw [fT]; exact h.1, by rw [fL]; exact h.2.1, funext fun j => ?_, funext fun j => ?_⟩
              · rw [Q1 a j (by omega) (by omega), hw_wI_n (by omega), hw_wP_i, h.2.2.1]
              · rw [fP, hw_wP_n (by omega), h.2.2.2]
            refine ⟨_, _, _, rfl, a2', ?_, F1⟩
            refine law_R (d1 := c1 + 1) hJ hr hc (Or.inr rfl) xb'.rF hk (fun a j h1 h2 h3 h4 h5 h6 h7 => ?_) (fun a j h1 h2 h3 => ?_) hw_wI_y ((Q2 5 (by omega)).trans m7) ?_ ?_ (fun _ => ⟨fun a ha => ?_, ?_⟩)
            · rw [Q1 a j h6 h7]
              exact QC a j (by omega) h2 h3 h4 h5
            · rw [fP, hw_wP_n (by omega), (Dz a (by omega)).2.2.2]
              exact dP σb db a j h2
            · rw [Q1 1 3 (by omega) (by omega), hw_wI_y]
            · rw [Q1 1 5 (by omega) (by omega), hw_wI_n (by omega), hw_wP_i, (Dz 1 (by omega)).2.2.1]
              exact d15 σb db
            · rw [fP, hw_wP_y] at ha
              cases ha
              rw [fZ, fT, tz]
              exact ⟨⟨hz, by omega⟩, hw_tg_L kk kk6⟩
            · rw [fP, hw_wP_y]
              obtain ⟨gf, ⟨hp, hp1, rfl⟩, ⟨co, co1, rfl⟩⟩ := gb'
              have fo : ∀ j, j < 4 → (hw_wI 42 1 (nI (c1 + 1)) τ').2.2.1 (z + 2) j = fm' j := fun j hj => by
                rw [NZ _ _ (by omega), g2.2.2.2 (z + 2) j (by omega), f2 j hj]
                exact hC'.2.2.2.2.2.2.2.1 j hj
              have cd : ∀ j, j < k → (hw_wI 42 1 (nI (c1 + 1)) τ').2.2.1 (z + 3) j = C' j := fun j hj => by
                rw [NZ _ _ (by omega), g2.2.2.2 (z + 3) j (by omega), f3 j hj]
                exact hC'.2.2.2.2.2.2.2.2.2.2 j hj
              have st : ∀ j, j < k → (hw_wI 42 1 (nI (c1 + 1)) τ').2.2.1 42 (212 + 140 * c1 + j) = S' j := fun j hj => by
                rw [Q2 _ (by omega)]
                exact hS'.2.2.2.2.2.2.2.2.2.2.2.2 j hj
              refine ⟨z, z + 2, z + 3, z + 1, kk, vv, k, hp, co, rfl, ⟨hz, by omega⟩, ⟨by omega, by omega⟩, ⟨by omega, by omega⟩, ⟨by omega, by omega⟩, kk6, vv1, vv9, kb, hp1, co1, ?_, ?_, ?_, ?_, ?_, ?_, ?_, ?_, ?_, ?_, ?_, ?_, ?_, ?_, ?_, ?_, ?_, ?_, ?_, ?_, fun j hj => ⟨?_, ?_⟩, fun j hj => ?_, ?_, fun p hp hs j hj g q hg hq e => ?_⟩
              · rw [fT, tz]
              · exact (Q2 _ (by omega)).trans m5
              · exact (Q2 _ (by omega)).trans m6
              · exact (Q2 _ (by omega)).trans hS'.2.2.2.2.2.2.2.2.2.2.1
              · exact (Q2 _ (by omega)).trans hS'.2.2.2.2.2.2.2.2.2.2.2.1
              · exact (Q2 _ (by omega)).trans hS'.2.2.2.2.2.2.2.1
              · rw [NZ _ _ (Nat.le_refl _), g2.2.2.2 z 0 (by omega)]; exact i0
              · rw [NZ _ _ (Nat.le_refl _), g2.2.2.2 z 1 (by omega)]; exact i1
              · rw [NZ _ _ (Nat.le_refl _), g2.2.2.2 z 2 (by omega)]; exact i2
              · rw [NZ _ _ (Nat.le_refl _), g2.2.2.2 z 3 (by omega), i3]; exact hC'.2.2.2.2.2.2.2.2.1
              · rw [NZ _ _ (Nat.le_refl _), g2.2.2.2 z 4 (by omega), i4]; exact hC'.2.2.2.2.2.2.2.2.2.1
              · rw [NP _ _ (Nat.le_refl _), g2.2.2.1]; exact q5
              · rw [NP _ _ (Nat.le_refl _), g2.2.2.1]; exact q6
              · rw [NP _ _ (Nat.le_refl _), g2.2.2.1]; exact q7
              · rw [fT, g2.1]; exact t2
              · rw [fL, g2.2.1]; exact l2
              · rw [fT, g2.1]; exact t3
              · rw [fL, g2.2.1]; exact l3
              · rw [fT, g2.1]; exact t1
              · rw [fL, g2.2.1]; exact l1
              · rw [fo j hj, Q2 _ (by omega)]
                exact hS'.2.2.2.2.2.2.2.2.2.1 j hj
              · rw [fo j hj]
                exact gf j hj
              · rw [st j hj, cd j hj]
                exact hins' j hj
              · rw [hw_ht_congr (g := S') (fun j hj => st j hj), hht']
                exact Option.some_ne_none 0
              · rw [st j hj] at e
                have ec := ins_2 (hins' j hj) hg hq e
                rw [NZ _ _ (by omega)] at hs
                have g4 := g3 j hj g q hg hq (by rw [f3 j hj, hC'.2.2.2.2.2.2.2.2.2.2 j hj]; exact ec)
                exact ⟨fun c => g4.1 (by rw [c]; exact hs), fun c => g4.2 (by omega) (by rw [c]; exact hs)⟩
          · rw [a1] at a1'
            have h : (1 : Int32) = 0 := congrArg Prod.fst (Option.some.inj a1')
            exact absurd h (by decide)
        · -- the law has a fault
          rw [a1, hw_b2s, if_pos rfl, hw_P_0_3 a4, Option.bind_some, hw_G_19 a4, Option.bind_some, a5]
          rcases parse σb a4 (fun j hj => dQ σb a3 42 j (by omega) (by omega) (by omega) (by omega)) with ⟨fm', hv', cv', σb', τ', k', a1', -, -, -⟩ | ⟨σb', τ', q', a1', a2', a3', a4', a5', a6', a7'⟩
          · rw [a1] at a1'
            have h : (0 : Int32) = 1 := congrArg Prod.fst (Option.some.inj a1')
            exact absurd h (by decide)
          · have ab := Option.some.inj (a1.symm.trans a1')
            have ab : σb = σb' := congrArg Prod.snd ab
            subst ab
            obtain ⟨m1, m2, m3, m4, m5, m6, m7⟩ := rH_Q a6' hc
            refine ⟨_, _, _, rfl, by rw [a2', a5.symm.trans a5'], ?_, a4⟩
            have zt : τ'.2.2.2.2 = σ.2.2.2.2 := by rw [m4]; exact dz σb a3
            have hk : hw_k σ τ' := by
              refine ⟨by rw [zt]; exact Nat.le_refl _, fun a h1 h2 => ?_⟩
              have h := dE σb a3 a h1
              refine ⟨by rw [m2]; exact h.1, by rw [m3]; exact h.2.1, funext fun j => ?_, ?_⟩
              · rw [m1 a j (by omega) (by omega), h.2.2.1]
              · rw [m4]; exact h.2.2.2
            refine law_R (d1 := c1) hJ hr hc (Or.inl rfl) a7' hk (fun a j h1 h2 h3 h4 h5 h6 h7 => ?_) (fun a j h1 h2 h3 => ?_) ?_ m7 ?_ ?_ (fun c => by omega)
            · rw [m1 a j h6 (fun c => h7 ⟨c.1, Or.inr c.2⟩)]
              exact dQ σb a3 a j (by omega) h3 h4 h5
            · rw [m4]
              exact dP σb a3 a j h2
            · rw [m1 42 1 (by omega) (by unfold hw_il; omega), dQ σb a3 42 1 (by omega) (by omega) (by omega) (by omega)]
              exact w1
            · rw [m1 1 3 (by omega) (by omega), dQ σb a3 1 3 (by omega) (by omega) (by omega) (by omega)]
              exact s3
            · rw [m1 1 5 (by omega) (by omega)]
              exact d15 σb a3
      · have e8 : c1 = 8 := by omega
        rw [if_neg (show ¬ nI c1 < (8 : Int32) from nI_nlt (b := 8) (by omega) (by omega))]
        refine ⟨_, σ, σ, rfl, ?_, hJ, hF⟩
        subst e8
        have a1 : hw_aI 0 (some 42) (1 : Int32) σ = some (σ.2.2.1 42 1) := hw_A_42 (n := 1) hF (by decide)
        unfold m12_law
        rw [ex2, Option.bind_some, hw_itb, if_pos hx, ey2, Option.bind_some, hw_itb, if_pos hy, hw_P_41_1 hF, Option.bind_some, a1, Option.bind_some, w1, if_pos (show nI 8 = (8 : Int32) from rfl)]
    · rw [if_neg hy]
      refine ⟨_, σ, σ, rfl, ?_, hJ, hF⟩
      unfold m12_law
      rw [ex2, Option.bind_some, hw_itb, if_pos hx, ey2, Option.bind_some, hw_itb, if_neg hy]
  · rw [if_neg hx]
    refine ⟨_, σ, σ, rfl, ?_, hJ, hF⟩
    unfold m12_law
    rw [ex2, Option.bind_some, hw_itb, if_neg hx]
