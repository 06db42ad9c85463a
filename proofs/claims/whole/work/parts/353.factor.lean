/-! the pure layer: the tape, read by class and by model: a part -/
section FACT
variable {T : Nat → Int32} {n l : Nat} {σ0 τ0 : hw_S} {fm : Nat → Int32} {hv cv : Int32} {σ τ : hw_S} {p k o h : Nat} {C S : Nat → Int32}
theorem d_101 (kM : Nat → hw_S → Option hw_S) (hx : dS l τ0 τ p) : ∃ τ', m12_factorF_b101 kM 41 τ = some τ' ∧ dS l τ0 τ' p := by
  refine ⟨_, ?_, d_8 hx (τ.2.2.1 41 8 - 1)⟩
  unfold m12_factorF_b101
  rw [hw_G_41 hx.2.1, Option.bind_some, hw_W_41 hx.2.1, Option.bind_some]
theorem lv_101 (kM : Nat → hw_S → Option hw_S) (hx : LV T n l σ0 τ0 fm hv cv σ τ p k (o + 1) h) : ∃ τ', m12_factorF_b101 kM 41 τ = some τ' ∧ LV T n l σ0 τ0 fm hv cv σ τ' p k o h := by
  refine ⟨_, ?_, lv_o hx o⟩
  unfold m12_factorF_b101
  rw [hw_G_41 hx.rF, Option.bind_some, hx.r8, show nI (o + 1) - (1 : Int32) = nI o from nI_pred o, hw_W_41 hx.rF, Option.bind_some]
/-- too deep: both stop here -/
theorem d_b69 {kM : Nat → hw_S → Option hw_S} (hD : ∀ τ q, dS l τ0 τ q → kM 41 τ = some τ) (hx : dS l τ0 τ p) (c : Int32) : ∃ τ', m12_factorF_b69 kM 41 c 41 (nI p) 0 τ = some τ' ∧ dS l τ0 τ' p := by
  have h5 := d_5 hx
  unfold m12_factorF_b69
  rw [Int32.add_zero, hw_W_41 hx.2.1, Option.bind_some]
  by_cases hc : c = 33
  · rw [if_pos hc, hw_V_41 h5.2.1, Option.bind_some, hD _ _ h5, Option.bind_some, hw_V_41 h5.2.1, Option.bind_some, d_emt h5, Option.bind_some]
    exact d_101 kM h5
  · obtain ⟨τ', e, d⟩ := d_mst h5 41
    rw [if_neg hc, hw_V_41 h5.2.1, Option.bind_some, d_sme hD h5, Option.bind_some, hw_V_41 h5.2.1, Option.bind_some, e, Option.bind_some]
    exact d_101 kM d
theorem x_prt {kP : Nat → Int32 → hw_S → Option (Int32 × hw_S)} {kM : Nat → hw_S → Option hw_S} (hn : n ≤ 120) (hl : l < 8) (ho : o ≤ 5) (hK : o < 5 → ∀ σ τ p k h, LV T n l σ0 τ0 fm hv cv σ τ p k (o + 1) h → h ≤ 2 * o + 4 → RS T n l σ0 τ0 fm hv cv (kP 19 (nI (o + 1)) σ) (kM 41 τ) p k (o + 1) (h + 1)) (hD : ∀ τ q, dS l τ0 τ q → kM 41 τ = some τ) (hx : LV T n l σ0 τ0 fm hv cv σ τ p k o h) (hh : h ≤ 2 * o + 2) : RS T n l σ0 τ0 fm hv cv (m4_isPartF kP 19 (nI o) σ) (m12_factorF kM 41 τ) p k o (h + 1) := by
  have hpn := hx.pn
  have hkp := hx.kp
  by_cases hc : hd T n p = 33 ∨ hd T n p = 40
  · have hp : p < n := by
      rcases hc with c | c
      · exact hd_lt (c := 33) (by decide) c
      · exact hd_lt (c := 40) (by decide) c
    have e1 : m4_isPartF kP 19 (nI o) σ = m4_isPartF_b23 kP 19 (nI o) σ := by
      unfold m4_isPartF
      rw [hw_V_19 hx.cF, Option.bind_some, lv_ahd hx hn, Option.bind_some, Option.bind_some, Option.bind_some]
      by_cases c : hd T n p = 33
      · rw [if_pos c]
      · rw [if_neg c, if_pos (hc.resolve_left c)]
    have e2 : m12_factorF kM 41 τ = m12_factorF_b25 kM 41 (hd T n p) τ := by
      unfold m12_factorF
      rw [hw_G_41 hx.rF, Option.bind_some, hx.r7, hw_if00, hw_V_41 hx.rF, Option.bind_some, lv_hr hx hn, Option.bind_some]
      by_cases c : hd T n p = 33
      · rw [if_pos c]
      · rw [if_neg c, if_pos (hc.resolve_left c)]
    rw [e1, e2]
    by_cases h5 : o < 5
    · have ne5 : ¬ nI o = (5 : Int32) := fun c => by
        have := (nI_eq (b := 5) (by omega) (by omega)).mp c
        omega
      have lt5 : nI o < (5 : Int32) := nI_lt (b := 5) h5 (by decide)
      have x0 := lv_w0 hx
      have x1 := lv_o x0 (o + 1)
      have x2 := lv_pl x1 hp
      have e3 : m12_factorF_b25 kM 41 (hd T n p) τ = (if hd T n p = (33 : Int32) then (kM 41 (hw_wI 41 5 (nI (p + 1)) (hw_wI 41 8 (nI (o + 1)) (hw_wI 41 7 0 τ)))).bind fun σ80 => (hw_rv (hw_q 12) (some 41) σ80).bind fun a85 => (m12_emits 41 ((-1) : Int32) σ80).bind fun σ85 => m12_factorF_b101 kM 41 σ85 else (m12_some kM 41 (hw_wI 41 5 (nI (p + 1)) (hw_wI 41 8 (nI (o + 1)) (hw_wI 41 7 0 τ)))).bind fun σ92 => (hw_rv (hw_q 12) (some 41) σ92).bind fun a98 => (m12_must 41 (41 : Int32) σ92).bind fun σ98 => m12_factorF_b101 kM 41 σ98) := by
        unfold m12_factorF_b25 m12_factorF_b39
        rw [hw_G_41 hx.rF, Option.bind_some, hx.r8, if_neg ne5, hw_tf_0, Option.bind_some, hw_W_41 hx.rF, Option.bind_some, hw_G_41 x0.rF, Option.bind_some, x0.r8, nI_1, hw_W_41 x0.rF, Option.bind_some, hw_G_41 x1.rF, Option.bind_some, x1.r5, hw_G_41 x1.rF, Option.bind_some, x1.r7, hw_if00]
        unfold m12_factorF_b69
        rw [nI_1, hw_W_41 x1.rF, Option.bind_some, hw_V_41 x2.rF, Option.bind_some, Option.bind_some]
      by_cases c : hd T n p = 33
      · -- not
        have n40 : ¬ hd T n p = 40 := by rw [c]; decide
        have e4 : m4_isPartF_b23 kP 19 (nI o) σ = hw_b2 (kP 19 (nI (o + 1)) (hw_wI 19 2 (nI (p + 1)) σ)) fun v78 σ78 => (if v78 = 0 then some ((0 : Int32), σ78) else (hw_rv (hw_q 4) (some 19) σ78).bind fun a88 => (m4_add 19 (1 : Int32) σ78).bind fun σ88 => some ((1 : Int32), σ88)) := by
          unfold m4_isPartF_b23
          rw [if_pos lt5, hw_V_19 hx.cF, Option.bind_some, lv_com hx hn, if_neg n40, hw_b2s, hw_if00, hw_G_19 hx.cF, Option.bind_some, hx.c2, nI_1, hw_W_19 hx.cF, Option.bind_some, hw_V_19 x2.cF, Option.bind_some, nI_1, hw_tf_0, hw_tf_1]
          rfl
        rw [e4, e3, if_pos c]
        rcases hK h5 _ _ _ _ _ x2 (by omega) with ⟨σ', τ', p', k', a1, a2, a3, a4, a5⟩ | ⟨σ', τ', q, a1, a2, a3⟩
        · obtain ⟨σ2, τ2, w1, w2, w3⟩ := lv_ad a3 hn hl (by omega) (s := iI (-1)) (c := nI 1) (Or.inr (Or.inl ⟨rfl, rfl⟩)) (hst_1 (by omega))
          obtain ⟨τ3, g1, g2⟩ := lv_101 kM w3
          refine Or.inl ⟨σ2, τ3, p', k' + 1, ?_, ?_, g2, by omega, by omega⟩
          · rw [a1, hw_b2s, hw_if10, hw_V_19 a3.cF, Option.bind_some]
            exact (congrArg (fun x => Option.bind x fun σ88 => some ((1 : Int32), σ88)) w1).trans rfl
          · rw [a2, Option.bind_some, hw_V_41 a3.rF, Option.bind_some, show (-1 : Int32) = iI (-1) by decide, w2, Option.bind_some, g1]
        · obtain ⟨τ3, g1, g2⟩ := d_101 kM a3.2.2.2
          refine Or.inr ⟨σ', τ3, q, ?_, ?_, a3.1, a3.2.1, a3.2.2.1, g2⟩
          · rw [a1, hw_b2s, if_pos rfl]
          · rw [a2, Option.bind_some, hw_V_41 a3.2.2.2.2.1, Option.bind_some, d_emt a3.2.2.2, Option.bind_some, g1]
      · -- in brackets
        have c40 := hc.resolve_left c
        have e4 : m4_isPartF_b23 kP 19 (nI o) σ = hw_b2 (m4_isAny kP 19 (nI (o + 1)) (hw_wI 19 2 (nI (p + 1)) σ)) fun v43 σ43 => (if v43 = 0 then some ((0 : Int32), σ43) else (hw_rv (hw_q 4) (some 19) σ43).bind fun a52 => hw_b2 (m4_comes 19 (41 : Int32) σ43) fun v52 σ52 => (if v52 = 0 then some ((0 : Int32), σ52) else some ((1 : Int32), σ52))) := by
          unfold m4_isPartF_b23 m4_isPartF_b62 m4_isPartF_b63
          rw [if_pos lt5, hw_V_19 hx.cF, Option.bind_some, lv_com hx hn, if_pos c40, hw_b2s, hw_if10, hw_V_19 x2.cF, Option.bind_some, nI_1, hw_tf_0, hw_tf_1]
          rfl
        rw [e4, e3, if_neg c]
        rcases x_any (H := 2 * o + 4) hn hl (fun σ τ p k h y1 y2 => x_all (H := 2 * o + 4) hn hl (fun σ τ p k h y3 y4 => hK h5 σ τ p k h y3 (by omega)) (by omega) y1) (by omega) x2 with ⟨σ', τ', p', k', a1, a2, a3, a4, a5⟩ | ⟨σ', τ', q, a1, a2, a3⟩
        · obtain ⟨m1, m2⟩ := lv_mst a3 hn 41
          by_cases c41 : hd T n p' = 41
          · have hp' : p' < n := hd_lt (c := 41) (by decide) c41
            obtain ⟨τ2, b1, b2⟩ := m1 c41
            obtain ⟨τ3, g1, g2⟩ := lv_101 kM (b2 hp')
            refine Or.inl ⟨_, τ3, p' + 1, k', ?_, ?_, g2, by omega, by omega⟩
            · rw [a1, hw_b2s, hw_if10, hw_V_19 a3.cF, Option.bind_some, lv_com a3 hn, if_pos c41, hw_b2s, hw_if10]
            · rw [a2, Option.bind_some, hw_V_41 a3.rF, Option.bind_some, b1, Option.bind_some, g1]
          · obtain ⟨τ2, b1, b2⟩ := m2 c41
            obtain ⟨τ3, g1, g2⟩ := d_101 kM b2
            refine Or.inr ⟨_, τ3, p', ?_, ?_, lv_dd a3 g2⟩
            · rw [a1, hw_b2s, hw_if10, hw_V_19 a3.cF, Option.bind_some, lv_com a3 hn, if_neg c41, hw_b2s, hw_if00]
            · rw [a2, Option.bind_some, hw_V_41 a3.rF, Option.bind_some, b1, Option.bind_some, g1]
        · obtain ⟨τ2, b1, b2⟩ := d_mst a3.2.2.2 41
          obtain ⟨τ3, g1, g2⟩ := d_101 kM b2
          refine Or.inr ⟨σ', τ3, q, ?_, ?_, a3.1, a3.2.1, a3.2.2.1, g2⟩
          · rw [a1, hw_b2s, if_pos rfl]
          · rw [a2, Option.bind_some, hw_V_41 a3.2.2.2.2.1, Option.bind_some, b1, Option.bind_some, g1]
    · have o5 : o = 5 := by omega
      subst o5
      have d1 := lv_dead hx
      have d2 := d_8 d1 (nI 5 + 1)
      obtain ⟨τ', g1, g2⟩ := d_b69 hD d2 (hd T n p)
      refine Or.inr ⟨σ, τ', p, ?_, ?_, lv_dd hx g2⟩
      · unfold m4_isPartF_b23
        rw [if_neg (show ¬ nI 5 < (5 : Int32) by decide), hw_tf_0, Option.bind_some]
      · unfold m12_factorF_b25 m12_factorF_b39
        rw [hw_G_41 hx.rF, Option.bind_some, hx.r8, if_pos (show nI 5 = (5 : Int32) from rfl), hw_tf_1, Option.bind_some, hw_W_41 hx.rF, Option.bind_some, hw_G_41 d1.2.1, Option.bind_some, hw_wI_n (by omega), hx.r8, hw_W_41 d1.2.1, Option.bind_some, hw_G_41 d2.2.1, Option.bind_some, d2.2.2.2, hw_G_41 d2.2.1, Option.bind_some, d2.2.2.1, hw_if10, g1]
  · have e1 : m4_isPartF kP 19 (nI o) σ = hw_b2 (m4_isTest 19 σ) fun v19 σ19 => (hw_tf v19).bind fun _ => some (v19, σ19) := by
      unfold m4_isPartF
      rw [hw_V_19 hx.cF, Option.bind_some, lv_ahd hx hn, Option.bind_some, Option.bind_some, Option.bind_some, if_neg (fun c => hc (Or.inl c)), if_neg (fun c => hc (Or.inr c)), Option.bind_some]
    have e2 : m12_factorF kM 41 τ = hw_b2 (m12_among 41 (some 5) τ) fun v115 σ115 => (if v115 = ((-1) : Int32) then m12_factorF_b130 kM 41 v115 41 (1 : Int32) σ115 else m12_factorF_b130 kM 41 v115 41 (0 : Int32) σ115) := by
      unfold m12_factorF
      rw [hw_G_41 hx.rF, Option.bind_some, hx.r7, hw_if00, hw_V_41 hx.rF, Option.bind_some, lv_hr hx hn, Option.bind_some, if_neg (fun c => hc (Or.inl c)), if_neg (fun c => hc (Or.inr c)), Option.bind_some]
    rw [e1, e2]
    rcases x_tst kM hx hn hl (by omega) with ⟨σ', τ', p', k', a1, a2, a3⟩ | ⟨σ', τ', q, a1, a2, a3⟩
    · exact Or.inl ⟨σ', τ', p', k', by rw [a1, hw_b2s, hw_tf_1, Option.bind_some], a2, a3⟩
    · exact Or.inr ⟨σ', τ', q, by rw [a1, hw_b2s, hw_tf_0, Option.bind_some], a2, a3⟩
theorem x_fac (hn : n ≤ 120) (hl : l < 8) : ∀ d o N M, o + d = 5 → d < N → d + 1 < M → ∀ σ τ p k h, LV T n l σ0 τ0 fm hv cv σ τ p k o h → h ≤ 2 * o + 2 → RS T n l σ0 τ0 fm hv cv (m4_isPart N 19 (nI o) σ) (m12_factor M 41 τ) p k o (h + 1) := by
  intro d
  induction d with
  | zero =>
    intro o N M e h1 h2 σ τ p k h hx hh
    obtain ⟨N, rfl⟩ : ∃ k, N = k + 1 := ⟨N - 1, by omega⟩
    obtain ⟨M, rfl⟩ : ∃ k, M = k + 1 + 1 := ⟨M - 2, by omega⟩
    exact x_prt hn hl (by omega) (fun c => by omega) (fun τ q y => d_fac M y) hx hh
  | succ d ih =>
    intro o N M e h1 h2 σ τ p k h hx hh
    obtain ⟨N, rfl⟩ : ∃ k, N = k + 1 := ⟨N - 1, by omega⟩
    obtain ⟨M, rfl⟩ : ∃ k, M = k + 1 + 1 := ⟨M - 2, by omega⟩
    exact x_prt hn hl (by omega) (fun _ σ τ p k h y1 y2 => ih (o + 1) N (M + 1) (by omega) (by omega) (by omega) σ τ p k h y1 (by omega)) (fun τ q y => d_fac M y) hx hh
/-- a whole test, from nothing: both read it, or both stop at one place -/
theorem x_sme (hn : n ≤ 120) (hl : l < 8) (hx : LV T n l σ0 τ0 fm hv cv σ τ p k 0 0) : RS T n l σ0 τ0 fm hv cv (m4_isAny (m4_isPart 8) 19 0 σ) (m12_some (m12_factor 8) 41 τ) p k 0 1 :=
  x_any (o := 0) (H := 2) hn hl (fun σ τ p k h y1 y2 => x_all (H := 2) hn hl (fun σ τ p k h y3 y4 => x_fac hn hl 5 0 8 8 (by decide) (by decide) (by decide) σ τ p k h y3 (by omega)) (by omega) y1) (by decide) hx
theorem d_some8 (hx : dS l τ0 τ p) : m12_some (m12_factor 8) 41 τ = some τ := d_sme (fun τ q y => d_fac 7 y) hx
end FACT
