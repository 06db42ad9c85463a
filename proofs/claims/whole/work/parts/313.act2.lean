/-! the pure layer: act, whole -/
def hw_sc2 (a _k : Nat) : Prop := (19 ≤ a ∧ a ≤ 41) ∨ (44 ≤ a ∧ a ≤ 54)
theorem hw_sc2_n {a k : Nat} (h : a ≤ 18 ∨ a = 42 ∨ a = 43 ∨ 55 ≤ a) : ¬ hw_sc2 a k := by unfold hw_sc2; omega
theorem hw_d.I2 {σ τ : hw_S} (h : hw_d hw_sc2 σ τ) {a : Nat} (ha : a ≤ 18 ∨ a = 42 ∨ a = 43 ∨ 55 ≤ a) : τ.2.2.1 a = σ.2.2.1 a := funext fun k => h.2.2.2 a k (hw_sc2_n ha)
theorem hw_d.lw2 {σ τ : hw_S} (h : hw_d hw_sc2 σ τ) {r : Option Nat} {i : Nat} {w : Nat → Int32} (hl : hw_lw σ r i w) : hw_lw τ r i w := by
  obtain ⟨a, af, ac, as, k, v, n, hp, co, h0, h1, h2, h3, h4, hr⟩ := hl
  refine ⟨a, af, ac, as, k, v, n, hp, co, h0, ?_, ?_, ?_, ?_, ?_⟩
  · rw [h.2.2.1]; exact h1
  · rw [h.2.2.1]; exact h2
  · rw [h.2.2.1]; exact h3
  · rw [h.2.2.1]; exact h4
  · rw [h.1, h.2.1, h.2.2.1, h.I2 (a := a) (by omega), h.I2 (a := af) (by omega), h.I2 (a := ac) (by omega), h.I2 (a := as) (by omega)]
    exact hr
theorem hw_d.sf2 {σ τ : hw_S} (h : hw_d hw_sc2 σ τ) {r : Option Nat} {x y : Int32} (hl : hw_sf σ r x y) : hw_sf τ r x y := by
  obtain ⟨a, p, q, h0, h1, hr⟩ := hl
  refine ⟨a, p, q, h0, ?_, ?_⟩
  · rw [h.2.2.1]; exact h1
  · rw [h.1, h.I2 (a := a) (by omega)]
    exact hr
theorem hw_d.rel2 {σ τ : hw_S} (h : hw_d hw_sc2 σ τ) {S : Nat} (hS : S = 1 ∨ S = 10) {w : Nat → Int32} {c0 c1 c2 c3 c4 c5 : Nat} (hr : hw_rel σ S w c0 c1 c2 c3 c4 c5) : hw_rel τ S w c0 c1 c2 c3 c4 c5 := by
  obtain ⟨h1, h2, h3, h4, h5, h6⟩ := hr
  refine ⟨h1, h2, ?_, ?_, ?_, ?_⟩
  · rw [h.I2 (a := S) (by omega)]; exact h3
  · intro i hi
    rw [h.2.2.1]
    exact h.sf2 (h4 i hi)
  · intro i hi
    rw [h.2.2.1]
    exact h.lw2 (h5 i hi)
  · rw [h.I2 (a := S + 3) (by omega), h.I2 (a := S + 4) (by omega), h.I2 (a := S + 5) (by omega), h.I2 (a := S + 6) (by omega), h.I2 (a := S + 7) (by omega), h.I2 (a := S + 8) (by omega)]
    exact h6
/-- all of the invariant but the bodies, when (41,3) is kept -/
theorem hw_d.Jv2 {σ τ : hw_S} (h : hw_d hw_sc2 σ τ) (h3 : τ.2.2.1 41 3 = σ.2.2.1 41 3) (hJ : hw_Jv σ) (ht : hw_tr τ) : hw_Jv τ := by
  obtain ⟨hF, p1, p2, ⟨c0, c1, c2, c3, c4, c5, hr⟩, him, -⟩ := hJ
  refine ⟨h.F hF, h.pt p1, h.pt p2, ⟨c0, c1, c2, c3, c4, c5, ?_⟩, ?_, ht⟩
  · rw [h.I2 (a := 42) (by omega)]
    exact h.rel2 (Or.inl rfl) hr
  · have e1 : τ.2.2.1 0 2 = σ.2.2.1 0 2 := h.2.2.2 0 2 (hw_sc2_n (by omega))
    rcases him with ⟨a1, a2⟩ | ⟨a1, a2, d0, d1, d2, d3, d4, d5, hr2⟩
    · exact Or.inl ⟨e1.trans a1, h3.trans a2⟩
    · refine Or.inr ⟨e1.trans a1, h3.trans a2, d0, d1, d2, d3, d4, d5, ?_⟩
      rw [h.I2 (a := 43) (by omega)]
      exact h.rel2 (Or.inr rfl) hr2
theorem hw_a23_2 : ∀ a k, hw_a23 a k → hw_sc2 a k := fun a k h => by unfold hw_a23 at h; unfold hw_sc2; omega
theorem hw_a54_2 : ∀ a k, hw_a54 a k → hw_sc2 a k := fun a k h => by unfold hw_a54 at h; unfold hw_sc2; omega
theorem sp_L_len {k : Nat} (hk : k ≤ 6) : (sp_fL k).length ≤ 10 ∧ (sp_wL k).length ≤ 10 ∧ (sp_lL k).length ≤ 10 := by
  have : ∀ k, k < 7 → (sp_fL k).length ≤ 10 ∧ (sp_wL k).length ≤ 10 ∧ (sp_lL k).length ≤ 10 := by decide +kernel
  exact this k (by omega)
theorem j_act {σ : hw_S} (hJ : hw_Jv σ) (x q y : Int32) : ∃ r σ1 τ, m11_act 0 x q y σ = some (r, σ1) ∧ m12_act 41 x q y σ1 = some (r, τ) ∧ hw_Jv τ ∧ hw_F σ1 := by
  obtain ⟨hF, p1, p2, ⟨c0, c1, c2, c3, c4, c5, hr⟩, him, htr⟩ := id hJ
  have F4 : hw_F (hw_wI 23 1 (nI 0) σ) := hF
  have d4 : hw_d hw_a23 σ (hw_wI 23 1 (nI 0) σ) := hw_d.wI (Or.inl rfl)
  have r4 := (d4.mono hw_a23_2).rel2 (Or.inl rfl) hr
  have n4 : (hw_wI 23 1 (nI 0) σ).2.2.1 23 1 = nI 0 := by rw [hw_wI_3, if_pos ⟨rfl, rfl⟩]
  unfold m11_act m10_begin
  rw [hw_P_0_4 hF, Option.bind_some, hw_V_23 hF, Option.bind_some, show (0 : Int32) = nI 0 from rfl, hw_W_23 hF, Option.bind_some, Option.bind_some, hw_V_0 F4, Option.bind_some]
  generalize hw_wI 23 1 (nI 0) σ = ρ at F4 d4 r4 n4 ⊢
  have e42 : ρ.2.2.1 42 = σ.2.2.1 42 := (d4.mono hw_a23_2).I2 (by omega)
  rw [← e42] at r4
  -- the model's beginning, from any state that differs from ρ in bodies alone
  have ref0 : ∀ υ, hw_d hw_a23 ρ υ → hw_F υ ∧ hw_rel υ 1 (υ.2.2.1 42) c0 c1 c2 c3 c4 c5 ∧ υ.2.2.1 42 = ρ.2.2.1 42 := by
    intro υ hd
    have e : υ.2.2.1 42 = ρ.2.2.1 42 := (hd.mono hw_a23_2).I2 (by omega)
    refine ⟨hd.F F4, ?_, e⟩
    rw [e]
    exact (hd.mono hw_a23_2).rel2 (Or.inl rfl) r4
  -- the end, where nothing ran
  have fin0 : hw_Jv (hw_wI 41 22 (nI 0) ρ) := by
    have d : hw_d hw_sc2 σ (hw_wI 41 22 (nI 0) ρ) := (d4.mono hw_a23_2).tr (hw_d.wI (by unfold hw_sc2; omega))
    refine d.Jv2 ?_ hJ ⟨0, by omega, ?_, ?_, fun i hi => absurd hi (Nat.not_lt_zero i)⟩
    · rw [hw_wI_3, if_neg (fun c => by omega)]
      exact d4.2.2.2 41 3 (by unfold hw_a23; omega)
    · rw [hw_wI_3, if_neg (fun c => by omega), n4]
    · rw [hw_wI_3, if_pos ⟨rfl, rfl⟩]
  rcases x_law F4 r4 x with ⟨l, a, hlc, hl8, rfl, el, ml, hlw⟩ | ⟨hno, el, ml⟩
  · have g := hlw.q hl8
    have hk := (hlw.ml hl8).k
    have hv := (hlw.ml hl8).v
    have hca : hw_ca ρ a (sp_k (ρ.2.2.1 42) l) (nI l) (nI (sp_v (ρ.2.2.1 42) l)) 0 := by
      refine ⟨F4, n4, g.2.2.2.1, hk.1, g.1, g.2.2.1, ?_, g.2.1⟩
      obtain ⟨a', af, ac, as, k, v, n, hp, co, e, -, -, -, -, -, -, -, -, -, -, -, -, -, -, -, -, -, i1, -⟩ := hlw
      cases e
      exact i1
    have hlen := sp_L_len hk.1
    -- the model's run, for each of the three acts
    have ref : ∀ (L : List Int32), L.length ≤ 10 → ∃ ρ0, hw_d hw_a54 (cAs L ρ) ρ0 ∧ hw_cr ρ0 (sp_k (ρ.2.2.1 42) l) (nI l) (nI (sp_v (ρ.2.2.1 42) l)) 0 ∧ (∀ (q y : Int32), m12_act 41 (nI l) q y (cAs L ρ) = if (0 : Int32) ≤ q ∧ q ≤ 2 then (if q = 0 then hw_b2 (m12_fallsActs 41 y ρ0) fun v τ => some (v, τ) else if q = 1 then hw_b2 (m12_windsActs 41 y ρ0) fun v τ => some (v, τ) else hw_b2 (m12_liesActs 41 y ρ0) fun v τ => some (v, τ)) else some (0, hw_wI 41 22 (nI 0) (cAs L ρ))) ∧ hw_tw ρ ρ0 0 := by
      intro L hL
      obtain ⟨Fυ, rυ, eυ⟩ := ref0 (cAs L ρ) (cAs_d L ρ)
      generalize cAs L ρ = υ at Fυ rυ eυ ⊢
      have F1 : hw_F (hw_wI 41 22 (nI 0) υ) := Fυ
      have d1 : hw_d hw_a54 υ (hw_wI 41 22 (nI 0) υ) := hw_d.wI (Or.inl ⟨rfl, Or.inl rfl⟩)
      have e1 : (hw_wI 41 22 (nI 0) υ).2.2.1 42 = ρ.2.2.1 42 := by
        rw [(d1.mono hw_a54_2).I2 (a := 42) (by omega), eυ]
      have r1 : hw_rel (hw_wI 41 22 (nI 0) υ) 1 ((hw_wI 41 22 (nI 0) υ).2.2.1 42) c0 c1 c2 c3 c4 c5 := by
        rw [e1, ← eυ]
        exact (d1.mono hw_a54_2).rel2 (Or.inl rfl) rυ
      have isl : m12_isLaw 41 (nI l) (hw_wI 41 22 (nI 0) υ) = some 1 := by
        rcases x_law F1 r1 (nI l) with ⟨l', a', hlc', hl8', el', -, ml', -⟩ | ⟨hno, -, -⟩
        · exact ml' _ hw_d.rf
        · exact absurd rfl (hno l hlc)
      have F2 : hw_F (hw_wI 41 23 (nI (sp_k (ρ.2.2.1 42) l)) (hw_wI 41 22 (nI 0) υ)) := Fυ
      have F3 : hw_F (hw_wI 41 24 (nI l) (hw_wI 41 23 (nI (sp_k (ρ.2.2.1 42) l)) (hw_wI 41 22 (nI 0) υ))) := Fυ
      have F5 : hw_F (hw_wI 41 25 (nI (sp_v (ρ.2.2.1 42) l)) (hw_wI 41 24 (nI l) (hw_wI 41 23 (nI (sp_k (ρ.2.2.1 42) l)) (hw_wI 41 22 (nI 0) υ)))) := Fυ
      refine ⟨hw_wI 41 25 (nI (sp_v (ρ.2.2.1 42) l)) (hw_wI 41 24 (nI l) (hw_wI 41 23 (nI (sp_k (ρ.2.2.1 42) l)) (hw_wI 41 22 (nI 0) υ))), ?_, ?_, ?_, ?_⟩
      · exact ((d1.tr (hw_d.wI (Or.inl ⟨rfl, Or.inr (Or.inl rfl)⟩))).tr (hw_d.wI (Or.inl ⟨rfl, Or.inr (Or.inr (Or.inl rfl))⟩))).tr (hw_d.wI (Or.inl ⟨rfl, Or.inr (Or.inr (Or.inr rfl))⟩))
      · refine ⟨F5, ?_, hk.1, ?_, ?_, ?_⟩
        · simp only [hw_wI_3]; rfl
        · simp only [hw_wI_3]; rfl
        · simp only [hw_wI_3]; rfl
        · simp only [hw_wI_3]; rfl
      · intro q y
        have ek : (148 : Int32) + nI l = nI (148 + l) := nI_add 148 l
        have e4 : (140 : Int32) + nI l = nI (140 + l) := nI_add 140 l
        have e42b : (hw_wI 41 24 (nI l) (hw_wI 41 23 (nI (sp_k (ρ.2.2.1 42) l)) (hw_wI 41 22 (nI 0) υ))).2.2.1 42 (148 + l) = nI (sp_v (ρ.2.2.1 42) l) := by
          rw [hw_wI_3, if_neg (fun c => by omega), hw_wI_3, if_neg (fun c => by omega), e1, hv.2.2]
        unfold m12_act m12_act_b22 m12_act_b87
        rw [show (0 : Int32) = nI 0 from rfl, hw_W_41 Fυ, Option.bind_some, hw_V_41 F1, Option.bind_some, isl, Option.bind_some, if_neg (show ¬ (1 : Int32) = nI 0 by decide), e12_in, Option.bind_some, show nI 0 = (0 : Int32) from rfl, hw_itb]
        by_cases hq : (0 : Int32) ≤ q ∧ q ≤ 2
        · rw [if_pos hq, if_pos hq, show (0 : Int32) = nI 0 from rfl, hw_P_41_1 F1, Option.bind_some, e4, hw_A_42 F1 (by omega), Option.bind_some, e1, hk.2, hw_W_41 F1, Option.bind_some, hw_W_41 F2, Option.bind_some, hw_P_41_1 F3, Option.bind_some, ek, hw_A_42 F3 (by omega), e42b, Option.bind_some, hw_W_41 F3, Option.bind_some, hw_V_41 F5, Option.bind_some, Option.bind_some, Option.bind_some]
        · rw [if_neg hq, if_neg hq]
      · refine ⟨n4, ?_, fun i hi => absurd hi (Nat.not_lt_zero i)⟩
        simp only [hw_wI_3]; rfl
    have fin : ∀ (L : List Int32) (ρ0 : hw_S), L.length ≤ 10 → hw_d hw_a54 (cAs L ρ) ρ0 → hw_tw ρ ρ0 0 → (rAs L ρ0).2.2.1 41 3 = ρ0.2.2.1 41 3 → hw_Jv (rAs L ρ0) := by
      intro L ρ0 hL hd htw h413
      have t := hw_tw_ss L (n := 0) (by omega) htw
      have dr := rAs_d L ρ0
      have d : hw_d hw_sc2 σ (rAs L ρ0) := (((d4.tr (cAs_d L ρ)).mono hw_a23_2).tr (hd.mono hw_a54_2)).tr (dr.mono hw_a54_2)
      refine d.Jv2 ?_ hJ ⟨0 + L.length, by omega, ?_, t.2.1, fun i hi hi2 => ?_⟩
      · rw [h413, hd.2.2.2 41 3 (by unfold hw_a54; omega), (cAs_d L ρ).2.2.2 41 3 (by unfold hw_a23; omega), d4.2.2.2 41 3 (by unfold hw_a23; omega)]
      · rw [dr.2.2.2 23 1 (by unfold hw_a54; omega), hd.2.2.2 23 1 (by unfold hw_a54; omega)]
        exact t.1
      · rw [dr.2.2.2 24 i (by unfold hw_a54; omega), hd.2.2.2 24 i (by unfold hw_a54; omega)]
        exact t.2.2 i hi hi2
    have k413 : ∀ (L : List Int32) (ρ0 : hw_S), (rAs L ρ0).2.2.1 41 3 = ρ0.2.2.1 41 3 := fun L ρ0 => (rAs_d L ρ0).2.2.2 41 3 (by unfold hw_a54; omega)
    rw [el, Option.bind_some, hw_ifs]
    by_cases q0 : q = 0
    · obtain ⟨ρ0, b1, b2, b3, b4⟩ := ref (sp_fL (sp_k (ρ.2.2.1 42) l)) hlen.1
      subst q0
      have hin : (0 : Int32) ≤ 0 ∧ (0 : Int32) ≤ 2 := by decide
      refine ⟨sp_fV (sp_k (ρ.2.2.1 42) l) (nI l) y, cAs (sp_fL (sp_k (ρ.2.2.1 42) l)) ρ, rAs (sp_fL (sp_k (ρ.2.2.1 42) l)) ρ0, ?_, ?_, fin _ ρ0 hlen.1 b1 b4 (k413 _ _), (cAs_d _ _).F F4⟩
      · rw [if_pos (show (0 : Int32) = nI 0 from rfl), hw_P_0_4 F4, Option.bind_some, hw_rv_at g.1, Option.bind_some, c_fallen hca (by omega), hw_b2s]
      · rw [b3, if_pos hin, if_pos rfl, r_fa b2 (by omega)]
        rfl
    · by_cases q1 : q = 1
      · obtain ⟨ρ0, b1, b2, b3, b4⟩ := ref (sp_wL (sp_k (ρ.2.2.1 42) l)) hlen.2.1
        subst q1
        have hin : (0 : Int32) ≤ 1 ∧ (1 : Int32) ≤ 2 := by decide
        refine ⟨sp_wV (sp_k (ρ.2.2.1 42) l) (nI l) (nI (sp_v (ρ.2.2.1 42) l)) y, cAs (sp_wL (sp_k (ρ.2.2.1 42) l)) ρ, rAs (sp_wL (sp_k (ρ.2.2.1 42) l)) ρ0, ?_, ?_, fin _ ρ0 hlen.2.1 b1 b4 (k413 _ _), (cAs_d _ _).F F4⟩
        · rw [if_neg (show ¬ (1 : Int32) = nI 0 by decide), if_pos rfl, hw_P_0_4 F4, Option.bind_some, hw_rv_at g.1, Option.bind_some, c_wound hca (by omega), hw_b2s]
        · rw [b3, if_pos hin, if_neg (by decide), if_pos rfl, r_wa b2 (by omega)]
          rfl
      · by_cases q2 : q = 2
        · obtain ⟨ρ0, b1, b2, b3, b4⟩ := ref (sp_lL (sp_k (ρ.2.2.1 42) l)) hlen.2.2
          subst q2
          have hin : (0 : Int32) ≤ 2 ∧ (2 : Int32) ≤ 2 := by decide
          refine ⟨sp_lV (sp_k (ρ.2.2.1 42) l) (nI l) (nI (sp_v (ρ.2.2.1 42) l)) y, cAs (sp_lL (sp_k (ρ.2.2.1 42) l)) ρ, rAs (sp_lL (sp_k (ρ.2.2.1 42) l)) ρ0, ?_, ?_, fin _ ρ0 hlen.2.2 b1 b4 (k413 _ _), (cAs_d _ _).F F4⟩
          · rw [if_neg (show ¬ (2 : Int32) = nI 0 by decide), if_neg (by decide), if_pos rfl, hw_P_0_4 F4, Option.bind_some, hw_rv_at g.1, Option.bind_some, c_laid hca (by omega), hw_b2s]
          · rw [b3, if_pos hin, if_neg (by decide), if_neg (by decide), r_la b2 (by omega)]
            rfl
        · obtain ⟨ρ0, b1, b2, b3, b4⟩ := ref [] (by decide)
          have hin : ¬ ((0 : Int32) ≤ q ∧ q ≤ 2) := fun c => by
            obtain ⟨n, n1, n2, e⟩ := hw_win (lo := 0) (hi := 2) (by decide) (by decide) c
            match n, n2, e with
            | 0, _, e => exact q0 e
            | 1, _, e => exact q1 e
            | 2, _, e => exact q2 e
          refine ⟨nI 0, ρ, hw_wI 41 22 (nI 0) ρ, ?_, ?_, fin0, F4⟩
          · rw [if_neg (show ¬ q = nI 0 from q0), if_neg q1, if_neg q2]
          · rw [show ρ = cAs [] ρ from rfl, b3, if_neg hin]
            rfl
  · obtain ⟨-, -, -⟩ := ref0 ρ hw_d.rf
    have F1 : hw_F (hw_wI 41 22 (nI 0) ρ) := F4
    have d1 : hw_d hw_sc2 ρ (hw_wI 41 22 (nI 0) ρ) := hw_d.wI (by unfold hw_sc2; omega)
    have r1 : hw_rel (hw_wI 41 22 (nI 0) ρ) 1 ((hw_wI 41 22 (nI 0) ρ).2.2.1 42) c0 c1 c2 c3 c4 c5 := by
      rw [d1.I2 (a := 42) (by omega)]
      exact d1.rel2 (Or.inl rfl) r4
    have isl : m12_isLaw 41 x (hw_wI 41 22 (nI 0) ρ) = some 0 := by
      rcases x_law F1 r1 x with ⟨l', a', hlc', hl8', el', -, ml', -⟩ | ⟨-, -, ml'⟩
      · exact absurd el' (hno l' hlc')
      · exact ml' _ hw_d.rf
    refine ⟨nI 0, ρ, hw_wI 41 22 (nI 0) ρ, ?_, ?_, fin0, F4⟩
    · rw [el, Option.bind_some, hw_ifn]
    · unfold m12_act m12_act_b22
      rw [show (0 : Int32) = nI 0 from rfl, hw_W_41 F4, Option.bind_some, hw_V_41 F1, Option.bind_some, isl, Option.bind_some, if_pos (show (0 : Int32) = nI 0 from rfl)]
