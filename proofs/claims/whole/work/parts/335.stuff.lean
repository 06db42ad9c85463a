/-! the pure layer: stuff -/
theorem hw_PT_ok : ∀ q ∈ hw_PT, q.1 < 55 ∧ q.1 ≠ 2 ∧ q.1 ≠ 3 ∧ q.1 ≠ 11 ∧ q.1 ≠ 12 ∧ ¬ (q.1 = 19 ∧ q.2.1 = 0) := by decide +kernel
theorem hw_F_k {σ τ : hw_S} (h : hw_F σ) (ht : ∀ a, a < 55 → τ.1 a = σ.1 a ∧ τ.2.1 a = σ.2.1 a) (hp : ∀ a k, a < 55 → a ≠ 2 → a ≠ 3 → a ≠ 11 → a ≠ 12 → ¬ (a = 19 ∧ k = 0) → τ.2.2.2.1 a k = σ.2.2.2.1 a k) (hz : σ.2.2.2.2 ≤ τ.2.2.2.2) : hw_F τ :=
  ⟨fun a ha => (ht a ha).1.trans (h.1 a ha), fun a ha => (ht a ha).2.trans (h.2.1 a ha), fun q hq => by
    have g := hw_PT_ok q hq
    rw [hp q.1 q.2.1 g.1 g.2.1 g.2.2.1 g.2.2.2.1 g.2.2.2.2.1 g.2.2.2.2.2]
    exact h.2.2.1 q hq, Nat.le_trans h.2.2.2 hz⟩
theorem hw_F_nw {σ : hw_S} {tag n : Nat} (h : hw_F σ) : hw_F (hw_nw tag n σ) := by
  have hz := h.2.2.2
  refine hw_F_k h (fun a ha => ?_) (fun a k ha _ _ _ _ _ => ?_) (Nat.le_succ _)
  · have e := hw_nw_eq (σ := σ) (tag := tag) (n := n) (x := a) (by omega)
    exact ⟨e.1, e.2.1⟩
  · have e := hw_nw_eq (σ := σ) (tag := tag) (n := n) (x := a) (by omega)
    rw [e.2.2.2]
theorem hw_wP_3 {a k x j : Nat} {v : Option Nat} {σ : hw_S} : (hw_wP a k v σ).2.2.2.1 x j = if x = a ∧ j = k then v else σ.2.2.2.1 x j := by
  show (if x = a then (fun j => if j = k then v else σ.2.2.2.1 a j) else σ.2.2.2.1 x) j = _
  by_cases hx : x = a
  · rw [if_pos hx]
    subst hx
    by_cases hj : j = k
    · simp [hj]
    · simp [hj]
  · rw [if_neg hx, if_neg (fun h => hx h.1)]
theorem hw_wP_n {a k x j : Nat} {v : Option Nat} {σ : hw_S} (h : ¬ (x = a ∧ j = k)) : (hw_wP a k v σ).2.2.2.1 x j = σ.2.2.2.1 x j := by rw [hw_wP_3, if_neg h]
theorem hw_wP_y {a k : Nat} {v : Option Nat} {σ : hw_S} : (hw_wP a k v σ).2.2.2.1 a k = v := by rw [hw_wP_3, if_pos ⟨rfl, rfl⟩]
theorem hw_F_wP {σ : hw_S} {a k : Nat} {v : Option Nat} (h : hw_F σ) (ha : a = 2 ∨ a = 3 ∨ a = 11 ∨ a = 12 ∨ (a = 19 ∧ k = 0) ∨ 55 ≤ a) : hw_F (hw_wP a k v σ) := by
  refine hw_F_k h (fun a _ => ⟨rfl, rfl⟩) (fun x j hx h2 h3 h11 h12 h19 => ?_) (Nat.le_refl _)
  rw [hw_wP_n (fun c => by have c1 := c.1; have c2 := c.2; omega)]
theorem hw_wP_i {a k : Nat} {v : Option Nat} {σ : hw_S} : (hw_wP a k v σ).2.2.1 = σ.2.2.1 := rfl
theorem hw_wI_p {a k : Nat} {v : Int32} {σ : hw_S} : (hw_wI a k v σ).2.2.2.1 = σ.2.2.2.1 := rfl
/-- a new relation, where stuffs and laws may be more and the tape less -/
theorem rel_k {σ τ : hw_S} {c0 c1 c2 c3 c4 c5 d0 d1 d5 : Nat} (hr : hw_rel σ 1 (σ.2.2.1 42) c0 c1 c2 c3 c4 c5) (K : ∀ a k, 4 ≤ a → a ≤ 9 → τ.2.2.1 a k = σ.2.2.1 a k) (K1 : ∀ k, k = 7 ∨ k = 9 ∨ k = 13 → τ.2.2.1 1 k = σ.2.2.1 1 k) (K42 : ∀ k, k = 2 ∨ k = 3 ∨ k = 4 ∨ (10 ≤ k ∧ k < 130) ∨ 1332 ≤ k → τ.2.2.1 42 k = σ.2.2.1 42 k) (b0 : c0 ≤ d0) (b0' : d0 ≤ 5) (b1 : d1 ≤ 8) (b5 : d5 ≤ c5) (w0 : τ.2.2.1 42 0 = nI d0) (w1 : τ.2.2.1 42 1 = nI d1) (w5 : τ.2.2.1 42 5 = nI d5) (s0 : τ.2.2.1 1 1 = nI d0) (s1 : τ.2.2.1 1 3 = nI d1) (s5 : τ.2.2.1 1 5 = nI d5)
    (r4 : ∀ i, i < d0 → hw_sf τ (τ.2.2.2.1 2 i) (τ.2.2.1 42 (130 + i)) (τ.2.2.1 42 (135 + i))) (r5 : ∀ i, i < d1 → hw_lw τ (τ.2.2.2.1 3 i) i (τ.2.2.1 42)) : hw_R0 τ 1 (τ.2.2.1 42) := by
  obtain ⟨⟨-, -, g2, g3, g4, g5⟩, ⟨-, -, w2, w3, w4, -⟩, ⟨-, -, s2, s3, s4, -⟩, -, -, r6, r7, r8, r9⟩ := id hr
  refine ⟨d0, d1, c2, c3, c4, d5, ⟨b0', b1, g2, g3, g4, by omega⟩, ⟨w0, w1, (K42 2 (by omega)).trans w2, (K42 3 (by omega)).trans w3, (K42 4 (by omega)).trans w4, w5⟩, ⟨s0, s1, (K1 13 (by omega)).trans s2, (K1 7 (by omega)).trans s3, (K1 9 (by omega)).trans s4, s5⟩, r4, r5, fun i hi => ?_, fun i hi => ?_, fun i hi => ?_, fun i hi => ?_⟩
  · show τ.2.2.1 4 i = _ ∧ _
    rw [K 4 i (by decide) (by decide), K42 (10 + i) (by omega)]
    exact r6 i (by omega)
  · show τ.2.2.1 5 i = _ ∧ _
    rw [K 5 i (by decide) (by decide), K42 (1332 + i) (by omega)]
    exact r7 i hi
  · show τ.2.2.1 6 i = _ ∧ _
    rw [K 6 i (by decide) (by decide), K42 (1352 + i) (by omega)]
    exact r8 i hi
  · show τ.2.2.1 7 i = _ ∧ τ.2.2.1 8 i = _ ∧ τ.2.2.1 9 i = _ ∧ _
    rw [K 7 i (by decide) (by decide), K 8 i (by decide) (by decide), K 9 i (by decide) (by decide), K42 (1360 + i) (by omega), K42 (1372 + i) (by omega), K42 (1384 + i) (by omega)]
    obtain ⟨f1, f2, f3, ⟨q, hq, eq1⟩, f5, f6⟩ := r9 i hi
    exact ⟨f1, f2, f3, ⟨q, by omega, eq1⟩, f5, f6⟩
theorem j_stuff {σ : hw_S} (hJ : hw_Jv σ) (x y : Int32) : ∃ r σ1 τ, m11_stuff 0 x y σ = some (r, σ1) ∧ m12_stuff 41 x y σ1 = some (r, τ) ∧ hw_Jv τ ∧ hw_F σ1 := by
  obtain ⟨hF, p1, p2, ⟨c0, c1, c2, c3, c4, c5, hr⟩, him, htr⟩ := id hJ
  have s0 : σ.2.2.1 1 1 = nI c0 := hr.2.2.1.1
  have w0 : σ.2.2.1 42 0 = nI c0 := hr.2.1.1
  have b0 : c0 ≤ 5 := hr.1.1
  have ex1 : m11_isWithin x (1 : Int32) (20 : Int32) = some (hw_tb (nI 1 ≤ x ∧ x ≤ nI 20)) := e11_isWithin x 1 20
  have ey1 : m11_isWithin y (1 : Int32) (20 : Int32) = some (hw_tb (nI 1 ≤ y ∧ y ≤ nI 20)) := e11_isWithin y 1 20
  have ex2 : m12_in x (1 : Int32) (20 : Int32) = some (hw_tb (nI 1 ≤ x ∧ x ≤ nI 20)) := e12_in x 1 20
  have ey2 : m12_in y (1 : Int32) (20 : Int32) = some (hw_tb (nI 1 ≤ y ∧ y ≤ nI 20)) := e12_in y 1 20
  unfold m11_stuff m12_stuff m11_stuff_b20 m12_stuff_b20
  rw [ex1, Option.bind_some, hw_itb]
  by_cases hx : nI 1 ≤ x ∧ x ≤ nI 20
  · rw [if_pos hx, ey1, Option.bind_some, hw_itb]
    by_cases hy : nI 1 ≤ y ∧ y ≤ nI 20
    · rw [if_pos hy, hw_P_0_0 hF, Option.bind_some, hw_G_1 hF, Option.bind_some, s0]
      by_cases hc : c0 < 5
      · rw [if_pos (show nI c0 < (5 : Int32) from nI_lt (b := 5) hc (by decide)), Option.bind_some, hw_P_1_0 hF, Option.bind_some, Option.bind_some, hw_G_1 hF, Option.bind_some, s0]
        have hz := hF.2.2.2
        have Fa : hw_F (hw_nw 10 0 σ) := hw_F_nw hF
        have ta : (hw_nw 10 0 σ).1 σ.2.2.2.2 = 10 := if_pos rfl
        have na : ∀ a, a ≠ σ.2.2.2.2 → hw_eq σ (hw_nw 10 0 σ) a := fun a h => hw_nw_eq h
        have za : (hw_nw 10 0 σ).2.2.2.2 = σ.2.2.2.2 + 1 := rfl
        unfold hw_nwO
        rw [hw_b2s]
        unfold m9_init
        generalize hzz : σ.2.2.2.2 = z at hz ta na za ⊢
        generalize hw_nw 10 0 σ = σa at Fa ta na za ⊢
        have q9 : hw_q 9 (σa.1 z) = true := by rw [ta]; decide
        have e1 : hw_pI (hw_q 9) 0 (some z) x σa = some (hw_wI z 0 x σa) := by
          show (if hw_q 9 (σa.1 z) = true then _ else _) = _
          rw [if_pos q9]
        have e2 : hw_pI (hw_q 9) 1 (some z) y (hw_wI z 0 x σa) = some (hw_wI z 1 y (hw_wI z 0 x σa)) := by
          show (if hw_q 9 (σa.1 z) = true then _ else _) = _
          rw [if_pos q9]
        have Fc : hw_F (hw_wI z 1 y (hw_wI z 0 x σa)) := Fa
        have e3 : hw_sP 3 (some 2) (nI c0) (some z) (hw_wI z 1 y (hw_wI z 0 x σa)) = some (hw_wP 2 c0 (some z) (hw_wI z 1 y (hw_wI z 0 x σa))) := by
          show (if ((hw_wI z 1 y (hw_wI z 0 x σa)).1 2 = 3 + 21 ∧ ¬ (nI c0 < 0 ∨ (hw_wI z 1 y (hw_wI z 0 x σa)).2.1 2 ≤ (nI c0).toNatClampNeg)) ∧ hw_okP 3 (some z) (hw_wI z 1 y (hw_wI z 0 x σa)) = true then _ else _) = _
          rw [Fc.1 2 (by decide), Fc.2.1 2 (by decide), if_pos ⟨⟨by decide, hw_nIx (L := 5) hc (by decide)⟩, q9⟩, nI_clamp (by omega)]
        have Fd : hw_F (hw_wP 2 c0 (some z) (hw_wI z 1 y (hw_wI z 0 x σa))) := hw_F_wP Fc (Or.inl rfl)
        have Fe : hw_F (hw_wI 1 1 (nI (c0 + 1)) (hw_wP 2 c0 (some z) (hw_wI z 1 y (hw_wI z 0 x σa)))) := Fd
        have i1 : ∀ a k, a ≠ z → (hw_wP 2 c0 (some z) (hw_wI z 1 y (hw_wI z 0 x σa))).2.2.1 a k = σ.2.2.1 a k := fun a k h => by
          rw [hw_wP_i, hw_wI_n (fun c => h c.1), hw_wI_n (fun c => h c.1), (na a h).2.2.1]
        have i2 : (hw_wP 2 c0 (some z) (hw_wI z 1 y (hw_wI z 0 x σa))).2.2.1 z 0 = x ∧ (hw_wP 2 c0 (some z) (hw_wI z 1 y (hw_wI z 0 x σa))).2.2.1 z 1 = y := by
          rw [hw_wP_i]
          exact ⟨by rw [hw_wI_n (by omega), hw_wI_y], hw_wI_y⟩
        have i3 : ∀ a k, a ≠ z → ¬ (a = 2 ∧ k = c0) → (hw_wP 2 c0 (some z) (hw_wI z 1 y (hw_wI z 0 x σa))).2.2.2.1 a k = σ.2.2.2.1 a k := fun a k h h2 => by
          rw [hw_wP_n h2, hw_wI_p, hw_wI_p, (na a h).2.2.2]
        have i4 : (hw_wP 2 c0 (some z) (hw_wI z 1 y (hw_wI z 0 x σa))).2.2.2.1 2 c0 = some z := hw_wP_y
        have i5 : ∀ a, a ≠ z → (hw_wP 2 c0 (some z) (hw_wI z 1 y (hw_wI z 0 x σa))).1 a = σ.1 a ∧ (hw_wP 2 c0 (some z) (hw_wI z 1 y (hw_wI z 0 x σa))).2.1 a = σ.2.1 a := fun a h => ⟨(na a h).1, (na a h).2.1⟩
        have i6 : (hw_wP 2 c0 (some z) (hw_wI z 1 y (hw_wI z 0 x σa))).1 z = 10 := ta
        have i7 : (hw_wP 2 c0 (some z) (hw_wI z 1 y (hw_wI z 0 x σa))).2.2.2.2 = z + 1 := za
        rw [e1, Option.bind_some, e2, Option.bind_some, Option.bind_some, e3, Option.bind_some, hw_P_0_0 Fd, Option.bind_some, hw_G_1 Fd, Option.bind_some, i1 1 1 (by omega), s0, nI_1, hw_W_1 Fd, Option.bind_some]
        generalize hw_wP 2 c0 (some z) (hw_wI z 1 y (hw_wI z 0 x σa)) = ρ at Fd Fe i1 i2 i3 i4 i5 i6 i7 ⊢
        have F1 : hw_F (hw_wI 42 (130 + c0) x (hw_wI 1 1 (nI (c0 + 1)) ρ)) := Fe
        have F2 : hw_F (hw_wI 42 (135 + c0) y (hw_wI 42 (130 + c0) x (hw_wI 1 1 (nI (c0 + 1)) ρ))) := Fe
        have F3 : hw_F (hw_wI 42 0 (nI (c0 + 1)) (hw_wI 42 (135 + c0) y (hw_wI 42 (130 + c0) x (hw_wI 1 1 (nI (c0 + 1)) ρ)))) := Fe
        have v1 : (hw_wI 1 1 (nI (c0 + 1)) ρ).2.2.1 42 0 = nI c0 := by rw [hw_wI_n (by omega), i1 42 0 (by omega), w0]
        have v2 : (hw_wI 42 (130 + c0) x (hw_wI 1 1 (nI (c0 + 1)) ρ)).2.2.1 42 0 = nI c0 := by rw [hw_wI_n (by omega), v1]
        have v3 : (hw_wI 42 (135 + c0) y (hw_wI 42 (130 + c0) x (hw_wI 1 1 (nI (c0 + 1)) ρ))).2.2.1 42 0 = nI c0 := by rw [hw_wI_n (by omega), v2]
        have Q : ∀ a k, a ≠ z → ¬ (a = 1 ∧ k = 1) → ¬ (a = 42 ∧ (k = 0 ∨ k = 130 + c0 ∨ k = 135 + c0)) → (hw_wI 42 0 (nI (c0 + 1)) (hw_wI 42 (135 + c0) y (hw_wI 42 (130 + c0) x (hw_wI 1 1 (nI (c0 + 1)) ρ)))).2.2.1 a k = σ.2.2.1 a k := fun a k h h2 h3 => by
          rw [hw_wI_n (by omega), hw_wI_n (by omega), hw_wI_n (by omega), hw_wI_n (by omega), i1 a k h]
        have hk : hw_k σ (hw_wI 42 0 (nI (c0 + 1)) (hw_wI 42 (135 + c0) y (hw_wI 42 (130 + c0) x (hw_wI 1 1 (nI (c0 + 1)) ρ)))) := by
          refine ⟨?_, fun a h1 h2 => ?_⟩
          · rw [hzz]; show z ≤ ρ.2.2.2.2; rw [i7]; exact Nat.le_succ z
          · rw [hzz] at h2
            exact ⟨(i5 a (by omega)).1, (i5 a (by omega)).2, funext fun k => Q a k (by omega) (by omega) (by omega), funext fun k => i3 a k (by omega) (by omega)⟩
        refine ⟨nI c0, _, hw_wI 42 0 (nI (c0 + 1)) (hw_wI 42 (135 + c0) y (hw_wI 42 (130 + c0) x (hw_wI 1 1 (nI (c0 + 1)) ρ))), rfl, ?_, Jv_now hJ hk F3 ?_ ?_ ?_, Fe⟩
        · have a1 : (130 : Int32) + nI c0 = nI (130 + c0) := nI_add 130 c0
          have a2 : (135 : Int32) + nI c0 = nI (135 + c0) := nI_add 135 c0
          rw [ex2, Option.bind_some, hw_itb, if_pos hx, ey2, Option.bind_some, hw_itb, if_pos hy, hw_P_41_1 Fe, Option.bind_some, hw_Z_0 Fe, Option.bind_some, v1, if_neg (show ¬ nI c0 = (5 : Int32) from fun c => by have := (nI_eq (b := 5) (by omega) (by decide)).mp c; omega), Option.bind_some, Option.bind_some, hw_Z_0 Fe, Option.bind_some, v1, a1, hw_B_42 Fe (by omega), Option.bind_some, hw_P_41_1 F1, Option.bind_some, Option.bind_some, hw_Z_0 F1, Option.bind_some, v2, a2, hw_B_42 F1 (by omega), Option.bind_some, hw_P_41_1 F2, Option.bind_some, hw_Z_0 F2, Option.bind_some, v3, nI_1, show (0 : Int32) = nI 0 from rfl, hw_B_42 F2 (by decide), Option.bind_some, hw_P_41_1 F3, Option.bind_some, hw_A_42 F3 (by decide), Option.bind_some, hw_wI_y, show nI (c0 + 1) - (1 : Int32) = nI c0 from nI_pred c0]
        · refine ⟨fun i hi a ha => ?_, fun i hi a ha => ?_⟩
          · have ha : ρ.2.2.2.1 2 i = some a := ha
            show (55 ≤ a ∧ a < ρ.2.2.2.2) ∧ ρ.1 a = 10
            rw [i7]
            by_cases hic : i = c0
            · rw [hic, i4] at ha
              cases ha
              exact ⟨⟨hz, Nat.lt_succ_self _⟩, i6⟩
            · rw [i3 2 i (by omega) (by omega)] at ha
              have g := p1.1 i hi a ha
              rw [hzz] at g
              exact ⟨⟨g.1.1, by omega⟩, by rw [(i5 a (by omega)).1]; exact g.2⟩
          · have ha : ρ.2.2.2.1 3 i = some a := ha
            show (55 ≤ a ∧ a < ρ.2.2.2.2) ∧ hw_qL (ρ.1 a) = true
            rw [i7]
            rw [i3 3 i (by omega) (by omega)] at ha
            have g := p1.2 i hi a ha
            rw [hzz] at g
            exact ⟨⟨g.1.1, by omega⟩, by rw [(i5 a (by omega)).1]; exact g.2⟩
        · exact ⟨fun a k h => Q a k (by omega) (by omega) (by omega), fun a k h => i3 a k (by omega) (by omega)⟩
        · obtain ⟨-, ⟨-, w1, -, -, -, w5⟩, ⟨-, s1, -, -, -, s5⟩, r4, r5, -, -, -, -⟩ := id hr
          refine rel_k (d0 := c0 + 1) (d1 := c1) (d5 := c5) hr (fun a k h1 h2 => Q a k (by omega) (by omega) (by omega)) (fun k h => Q 1 k (by omega) (by omega) (by omega)) (fun k h => Q 42 k (by omega) (by omega) (by omega)) (Nat.le_succ c0) hc hr.1.2.1 (Nat.le_refl _) hw_wI_y ((Q 42 1 (by omega) (by omega) (by omega)).trans w1) ((Q 42 5 (by omega) (by omega) (by omega)).trans w5) ?_ ((Q 1 3 (by omega) (by omega) (by omega)).trans s1) ((Q 1 5 (by omega) (by omega) (by omega)).trans s5) (fun i hi => ?_) ?_
          · rw [hw_wI_n (by omega), hw_wI_n (by omega), hw_wI_n (by omega), hw_wI_y]
          · by_cases hic : i = c0
            · rw [hic]
              have g1 : (hw_wI 42 0 (nI (c0 + 1)) (hw_wI 42 (135 + c0) y (hw_wI 42 (130 + c0) x (hw_wI 1 1 (nI (c0 + 1)) ρ)))).2.2.1 42 (130 + c0) = x := by rw [hw_wI_n (by omega), hw_wI_n (by omega), hw_wI_y]
              have g2 : (hw_wI 42 0 (nI (c0 + 1)) (hw_wI 42 (135 + c0) y (hw_wI 42 (130 + c0) x (hw_wI 1 1 (nI (c0 + 1)) ρ)))).2.2.1 42 (135 + c0) = y := by rw [hw_wI_n (by omega), hw_wI_y]
              have g3 : (hw_wI 42 0 (nI (c0 + 1)) (hw_wI 42 (135 + c0) y (hw_wI 42 (130 + c0) x (hw_wI 1 1 (nI (c0 + 1)) ρ)))).2.2.2.1 2 c0 = some z := i4
              rw [g1, g2, g3]
              obtain ⟨p, pp1, pp2, rfl⟩ := hw_win (lo := 1) (hi := 20) (by decide) (by decide) hx
              obtain ⟨q, qq1, qq2, rfl⟩ := hw_win (lo := 1) (hi := 20) (by decide) (by decide) hy
              refine ⟨z, p, q, rfl, ⟨hz, ?_⟩, i6, ⟨pp1, pp2⟩, ⟨qq1, qq2⟩, ?_, ?_, rfl, rfl⟩
              · show z < ρ.2.2.2.2
                rw [i7]
                exact Nat.lt_succ_self z
              · rw [hw_wI_n (by omega), hw_wI_n (by omega), hw_wI_n (by omega), hw_wI_n (by omega)]; exact i2.1
              · rw [hw_wI_n (by omega), hw_wI_n (by omega), hw_wI_n (by omega), hw_wI_n (by omega)]; exact i2.2
            · rw [Q 42 (130 + i) (by omega) (by omega) (by omega), Q 42 (135 + i) (by omega) (by omega) (by omega)]
              have g3 : (hw_wI 42 0 (nI (c0 + 1)) (hw_wI 42 (135 + c0) y (hw_wI 42 (130 + c0) x (hw_wI 1 1 (nI (c0 + 1)) ρ)))).2.2.2.1 2 i = σ.2.2.2.1 2 i := i3 2 i (by omega) (by omega)
              rw [g3]
              exact hk.sf (r4 i (by omega))
          · exact k5_lw (S := 1) (S' := 1) hk (fun i hi => ⟨i3 3 i (by omega) (by omega), fun k hk => Q 42 k (by omega) (by omega) (by unfold hw_il at hk; omega)⟩) r5
      · rw [if_neg (show ¬ nI c0 < (5 : Int32) from nI_nlt (b := 5) (by omega) (by omega))]
        refine ⟨_, σ, σ, rfl, ?_, hJ, hF⟩
        have e20 : c0 = 5 := by omega
        subst e20
        rw [ex2, Option.bind_some, hw_itb, if_pos hx, ey2, Option.bind_some, hw_itb, if_pos hy, hw_P_41_1 hF, Option.bind_some, hw_Z_0 hF, Option.bind_some, w0, if_pos (show nI 5 = (5 : Int32) from rfl)]
    · rw [if_neg hy]
      refine ⟨_, σ, σ, rfl, ?_, hJ, hF⟩
      rw [ex2, Option.bind_some, hw_itb, if_pos hx, ey2, Option.bind_some, hw_itb, if_neg hy]
  · rw [if_neg hx]
    refine ⟨_, σ, σ, rfl, ?_, hJ, hF⟩
    rw [ex2, Option.bind_some, hw_itb, if_neg hx]
