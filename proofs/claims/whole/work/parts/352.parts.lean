/-! the pure layer: the tape, read by class and by model: parts, alls and anys -/
section PARTS
variable {T : Nat → Int32} {n l : Nat} {σ0 τ0 : hw_S} {fm : Nat → Int32} {hv cv : Int32} {σ τ : hw_S} {p k o h : Nat} {C S : Nat → Int32}
theorem RS.tr {cr : Option (Int32 × hw_S)} {mr : Option hw_S} {p' k' : Nat} (hx : RS T n l σ0 τ0 fm hv cv cr mr p' k' o h) (h1 : p ≤ p') (h2 : k' + p ≤ p' + k) : RS T n l σ0 τ0 fm hv cv cr mr p k o h := by
  rcases hx with ⟨σ', τ', q, j, a, b, c, d, e⟩ | hx
  · exact Or.inl ⟨σ', τ', q, j, a, b, c, by omega, by omega⟩
  · exact Or.inr hx
theorem RS.ok {cr : Option (Int32 × hw_S)} {mr : Option hw_S} (a : cr = some (1, σ)) (b : mr = some τ) (hx : LV T n l σ0 τ0 fm hv cv σ τ p k o h) : RS T n l σ0 τ0 fm hv cv cr mr p k o h := Or.inl ⟨σ, τ, p, k, a, b, hx, Nat.le_refl _, Nat.le_of_eq (Nat.add_comm _ _)⟩
theorem lv_pl (hx : LV T n l σ0 τ0 fm hv cv σ τ p k o h) (hp : p < n) : LV T n l σ0 τ0 fm hv cv (hw_wI 19 2 (nI (p + 1)) σ) (hw_wI 41 5 (nI (p + 1)) τ) (p + 1) k o h := by
  obtain ⟨C, S, hc, hr, hi, ht, -, hk⟩ := hx
  exact ⟨C, S, c_plc hc _, r_spt hr _, hi, ht, hp, by omega⟩
theorem lv_w0 (hx : LV T n l σ0 τ0 fm hv cv σ τ p k o h) : LV T n l σ0 τ0 fm hv cv σ (hw_wI 41 7 0 τ) p k o h := by
  obtain ⟨C, S, hc, hr, hi, ht, hp, hk⟩ := hx
  exact ⟨C, S, hc, r_w0 hr, hi, ht, hp, hk⟩
theorem lv_o (hx : LV T n l σ0 τ0 fm hv cv σ τ p k o h) (q : Nat) : LV T n l σ0 τ0 fm hv cv σ (hw_wI 41 8 (nI q) τ) p k q h := by
  obtain ⟨C, S, hc, hr, hi, ht, hp, hk⟩ := hx
  exact ⟨C, S, hc, r_o hr q, hi, ht, hp, hk⟩
theorem LV.cF (hx : LV T n l σ0 τ0 fm hv cv σ τ p k o h) : hw_F σ := by obtain ⟨C, S, hc, hr, hi, ht, hp, hk⟩ := hx; exact hc.F
theorem LV.rF (hx : LV T n l σ0 τ0 fm hv cv σ τ p k o h) : hw_F τ := by obtain ⟨C, S, hc, hr, hi, ht, hp, hk⟩ := hx; exact hr.F
theorem LV.c2 (hx : LV T n l σ0 τ0 fm hv cv σ τ p k o h) : σ.2.2.1 19 2 = nI p := by obtain ⟨C, S, hc, hr, hi, ht, hp, hk⟩ := hx; exact hc.pl
theorem LV.r5 (hx : LV T n l σ0 τ0 fm hv cv σ τ p k o h) : τ.2.2.1 41 5 = nI p := by obtain ⟨C, S, hc, hr, hi, ht, hp, hk⟩ := hx; exact hr.pl
theorem LV.r7 (hx : LV T n l σ0 τ0 fm hv cv σ τ p k o h) : τ.2.2.1 41 7 = 0 := by obtain ⟨C, S, hc, hr, hi, ht, hp, hk⟩ := hx; exact hr.wr
theorem LV.r8 (hx : LV T n l σ0 τ0 fm hv cv σ τ p k o h) : τ.2.2.1 41 8 = nI o := by obtain ⟨C, S, hc, hr, hi, ht, hp, hk⟩ := hx; exact hr.op
theorem LV.pn (hx : LV T n l σ0 τ0 fm hv cv σ τ p k o h) : p ≤ n := by obtain ⟨C, S, hc, hr, hi, ht, hp, hk⟩ := hx; exact hp
theorem LV.kp (hx : LV T n l σ0 τ0 fm hv cv σ τ p k o h) : k ≤ p := by obtain ⟨C, S, hc, hr, hi, ht, hp, hk⟩ := hx; exact hk
theorem lv_com (hx : LV T n l σ0 τ0 fm hv cv σ τ p k o h) (hn : n ≤ 120) (c : Int32) : m4_comes 19 c σ = if hd T n p = c then some (1, hw_wI 19 2 (nI (p + 1)) σ) else some (0, σ) := by obtain ⟨C, S, hc, hr, hi, ht, hp, hk⟩ := hx; exact c_com hc hn hp c
theorem lv_ahd (hx : LV T n l σ0 τ0 fm hv cv σ τ p k o h) (hn : n ≤ 120) : m4_ahead 19 σ = some (hd T n p) := by obtain ⟨C, S, hc, hr, hi, ht, hp, hk⟩ := hx; exact c_ahd hc hn hp
theorem lv_hr (hx : LV T n l σ0 τ0 fm hv cv σ τ p k o h) (hn : n ≤ 120) : m12_here 41 τ = some (hd T n p) := by obtain ⟨C, S, hc, hr, hi, ht, hp, hk⟩ := hx; exact r_hr hr hn hp
theorem lv_dd (hx : LV T n l σ0 τ0 fm hv cv σ τ p k o h) {τ' : hw_S} (hd : dS l τ0 τ' p) : DD l σ0 τ0 σ τ' p := by obtain ⟨C, S, hc, hr, hi, ht, hp, hk⟩ := hx; exact DD.of hc hd
theorem lv_dead (hx : LV T n l σ0 τ0 fm hv cv σ τ p k o h) : dS l τ0 (hw_wI 41 7 1 τ) p := by obtain ⟨C, S, hc, hr, hi, ht, hp, hk⟩ := hx; exact r_dead hr
theorem lv_mst (hx : LV T n l σ0 τ0 fm hv cv σ τ p k o h) (hn : n ≤ 120) (c : Int32) : (hd T n p = c → ∃ τ', m12_must 41 c τ = some τ' ∧ (p < n → LV T n l σ0 τ0 fm hv cv (hw_wI 19 2 (nI (p + 1)) σ) τ' (p + 1) k o h)) ∧ (¬ hd T n p = c → ∃ τ', m12_must 41 c τ = some τ' ∧ dS l τ0 τ' p) := by
  obtain ⟨C, S, hc, hr, hi, ht, hp, hk⟩ := hx
  obtain ⟨a, b⟩ := r_mst hr hn hp c
  refine ⟨fun e => ?_, b⟩
  obtain ⟨τ', a1, a2⟩ := a e
  exact ⟨τ', a1, fun hpn => ⟨C, S, c_plc hc _, a2, hi, ht, hpn, by omega⟩⟩
theorem d_e4 (kM : Nat → hw_S → Option hw_S) (h : dS l τ0 τ p) (fuel : Nat) : m12_every_b4 kM (fuel + 1) 41 τ = some τ := by
  rw [m12_every_b4, hw_G_41 h.2.1, Option.bind_some, h.2.2.1, hw_if10]
  rfl
theorem d_s4 (kM : Nat → hw_S → Option hw_S) (h : dS l τ0 τ p) (fuel : Nat) : m12_some_b4 kM (fuel + 1) 41 τ = some τ := by
  rw [m12_some_b4, hw_G_41 h.2.1, Option.bind_some, h.2.2.1, hw_if10]
  rfl
theorem d_evr {kM : Nat → hw_S → Option hw_S} (hD : ∀ τ q, dS l τ0 τ q → kM 41 τ = some τ) (h : dS l τ0 τ p) : m12_every kM 41 τ = some τ := by
  unfold m12_every
  rw [hw_V_41 h.2.1, Option.bind_some, hD τ p h, Option.bind_some]
  exact d_e4 kM h 3999
theorem d_sme {kM : Nat → hw_S → Option hw_S} (hD : ∀ τ q, dS l τ0 τ q → kM 41 τ = some τ) (h : dS l τ0 τ p) : m12_some kM 41 τ = some τ := by
  unfold m12_some
  rw [hw_V_41 h.2.1, Option.bind_some, d_evr hD h, Option.bind_some]
  exact d_s4 kM h 3999
theorem d_fac (M : Nat) (h : dS l τ0 τ p) : m12_factor (M + 1) 41 τ = some τ := by
  rw [m12_factor]
  unfold m12_factorF
  rw [hw_G_41 h.2.1, Option.bind_some, h.2.2.1, hw_if10]
theorem x_all_b {kP : Nat → Int32 → hw_S → Option (Int32 × hw_S)} {kM : Nat → hw_S → Option hw_S} {H : Nat} (hn : n ≤ 120) (hl : l < 8) (hK : ∀ σ τ p k h, LV T n l σ0 τ0 fm hv cv σ τ p k o h → h + 0 ≤ H → RS T n l σ0 τ0 fm hv cv (kP 19 (nI o) σ) (kM 41 τ) p k o (h + 1)) (hh : h + 1 + 0 ≤ H) : ∀ m j fc fr σ τ p k, n - p ≤ m → m < fc → m < fr → j ≤ p → LV T n l σ0 τ0 fm hv cv σ τ p k o (h + 1) → RS T n l σ0 τ0 fm hv cv (m4_isAll_b12 kP fc 19 (nI o) (nI j) σ) (m12_every_b4 kM fr 41 τ) p k o (h + 1) := by
  intro m
  induction m with
  | zero =>
    intro j fc fr σ τ p k hm h1 h2 hj hx
    obtain ⟨fc, rfl⟩ : ∃ k, fc = k + 1 := ⟨fc - 1, by omega⟩
    obtain ⟨fr, rfl⟩ : ∃ k, fr = k + 1 := ⟨fr - 1, by omega⟩
    have hpn := hx.pn
    have eh : ¬ hd T n p = 38 := fun c => by
      have := hd_lt (c := 38) (by decide) c
      omega
    refine RS.ok ?_ ?_ hx
    · rw [m4_isAll_b12]
      unfold m4_isAll_b48
      rw [hw_tf_1, Option.bind_some, hw_V_19 hx.cF, Option.bind_some, lv_com hx hn, if_neg eh, hw_b2s, hw_if00, Option.bind_some, ite_self]
    · rw [m12_every_b4, hw_G_41 hx.rF, Option.bind_some, hx.r7, hw_if00, hw_V_41 hx.rF, Option.bind_some, lv_hr hx hn, Option.bind_some, if_neg eh]
      rfl
  | succ m ih =>
    intro j fc fr σ τ p k hm h1 h2 hj hx
    obtain ⟨fc, rfl⟩ : ∃ k, fc = k + 1 := ⟨fc - 1, by omega⟩
    obtain ⟨fr, rfl⟩ : ∃ k, fr = k + 1 := ⟨fr - 1, by omega⟩
    have hpn := hx.pn
    have hkp := hx.kp
    by_cases eh : hd T n p = 38
    · have hp : p < n := hd_lt (c := 38) (by decide) eh
      have x1 := lv_pl hx hp
      have e1 : m4_isAll_b12 kP (fc + 1) 19 (nI o) (nI j) σ = hw_b2 (kP 19 (nI o) (hw_wI 19 2 (nI (p + 1)) σ)) fun v29 σ29 => (if v29 = 0 then some ((0 : Int32), σ29) else (hw_rv (hw_q 4) (some 19) σ29).bind fun a39 => (m4_add 19 (2 : Int32) σ29).bind fun σ39 => m4_isAll_b12 kP fc 19 (nI o) (nI (j + 1)) σ39) := by
        rw [m4_isAll_b12, if_neg (show ¬ (120 : Int32) ≤ nI j from nI_ge (b := 120) (by omega) (by decide)), hw_V_19 hx.cF, Option.bind_some, lv_com hx hn, if_pos eh, hw_b2s, hw_if10, hw_V_19 x1.cF, Option.bind_some, nI_1]
        simp only [hw_tf_0, Option.bind_some]
      have e2 : m12_every_b4 kM (fr + 1) 41 τ = (kM 41 (hw_wI 41 5 (nI (p + 1)) τ)).bind fun σ31 => (hw_rv (hw_q 12) (some 41) σ31).bind fun a37 => (m12_emits 41 ((-2) : Int32) σ31).bind fun σ37 => m12_every_b4 kM fr 41 σ37 := by
        rw [m12_every_b4, hw_G_41 hx.rF, Option.bind_some, hx.r7, hw_if00, hw_V_41 hx.rF, Option.bind_some, lv_hr hx hn, Option.bind_some, if_pos eh, hw_G_41 hx.rF, Option.bind_some, hx.r5, nI_1, hw_W_41 hx.rF, Option.bind_some, hw_V_41 x1.rF, Option.bind_some]
      rcases hK _ _ _ _ _ x1 hh with ⟨σ', τ', p', k', a1, a2, a3, a4, a5⟩ | ⟨σ', τ', q, a1, a2, a3⟩
      · obtain ⟨σ2, τ2, w1, w2, w3⟩ := lv_ad a3 hn hl (by omega) (s := iI (-2)) (c := nI 2) (Or.inr (Or.inr (Or.inl ⟨rfl, rfl⟩))) (hst_2 (by omega))
        rw [e1, e2, a1, a2, hw_b2s, Option.bind_some, hw_if10, hw_V_19 a3.cF, Option.bind_some, hw_V_41 a3.rF, Option.bind_some, show (2 : Int32) = nI 2 from rfl, w1, Option.bind_some, show (-nI 2 : Int32) = iI (-2) by decide, w2, Option.bind_some]
        exact (ih (j + 1) fc fr σ2 τ2 p' (k' + 1) (by omega) (by omega) (by omega) (by omega) w3).tr (by omega) (by omega)
      · right
        refine ⟨σ', τ', q, ?_, ?_, a3⟩
        · rw [e1, a1, hw_b2s, if_pos rfl]
        · rw [e2, a2, Option.bind_some, hw_V_41 a3.2.2.2.2.1, Option.bind_some, d_emt a3.2.2.2, Option.bind_some]
          obtain ⟨fr, rfl⟩ : ∃ k, fr = k + 1 := ⟨fr - 1, by omega⟩
          exact d_e4 kM a3.2.2.2 fr
    · refine RS.ok ?_ ?_ hx
      · rw [m4_isAll_b12]
        unfold m4_isAll_b48
        rw [hw_tf_1, Option.bind_some, hw_V_19 hx.cF, Option.bind_some, lv_com hx hn, if_neg eh, hw_b2s, hw_if00, Option.bind_some, ite_self]
      · rw [m12_every_b4, hw_G_41 hx.rF, Option.bind_some, hx.r7, hw_if00, hw_V_41 hx.rF, Option.bind_some, lv_hr hx hn, Option.bind_some, if_neg eh]
        rfl
theorem x_all {kP : Nat → Int32 → hw_S → Option (Int32 × hw_S)} {kM : Nat → hw_S → Option hw_S} {H : Nat} (hn : n ≤ 120) (hl : l < 8) (hK : ∀ σ τ p k h, LV T n l σ0 τ0 fm hv cv σ τ p k o h → h + 0 ≤ H → RS T n l σ0 τ0 fm hv cv (kP 19 (nI o) σ) (kM 41 τ) p k o (h + 1)) (hh : h + 1 + 0 ≤ H) (hx : LV T n l σ0 τ0 fm hv cv σ τ p k o h) : RS T n l σ0 τ0 fm hv cv (m4_isAll kP 19 (nI o) σ) (m12_every kM 41 τ) p k o (h + 1) := by
  rcases hK _ _ _ _ _ hx (by omega) with ⟨σ', τ', p', k', a1, a2, a3, a4, a5⟩ | ⟨σ', τ', q, a1, a2, a3⟩
  · unfold m4_isAll m12_every
    rw [hw_V_19 hx.cF, Option.bind_some, hw_V_41 hx.rF, Option.bind_some, a1, a2, hw_b2s, hw_if10, Option.bind_some]
    have hpn := a3.pn
    exact (x_all_b hn hl hK hh 3999 0 hw_fu hw_fu σ' τ' p' k' (by omega) (by decide) (by decide) (Nat.zero_le _) a3).tr (by omega) (by omega)
  · right
    refine ⟨σ', τ', q, ?_, ?_, a3⟩
    · unfold m4_isAll
      rw [hw_V_19 hx.cF, Option.bind_some, a1, hw_b2s, if_pos rfl, hw_tf_0, Option.bind_some]
    · unfold m12_every
      rw [hw_V_41 hx.rF, Option.bind_some, a2, Option.bind_some]
      exact d_e4 kM a3.2.2.2 3999
theorem x_any_b {kP : Nat → Int32 → hw_S → Option (Int32 × hw_S)} {kM : Nat → hw_S → Option hw_S} {H : Nat} (hn : n ≤ 120) (hl : l < 8) (hK : ∀ σ τ p k h, LV T n l σ0 τ0 fm hv cv σ τ p k o h → h + 1 ≤ H → RS T n l σ0 τ0 fm hv cv (m4_isAll kP 19 (nI o) σ) (m12_every kM 41 τ) p k o (h + 1)) (hh : h + 1 + 1 ≤ H) : ∀ m j fc fr σ τ p k, n - p ≤ m → m < fc → m < fr → j ≤ p → LV T n l σ0 τ0 fm hv cv σ τ p k o (h + 1) → RS T n l σ0 τ0 fm hv cv (m4_isAny_b12 kP fc 19 (nI o) (nI j) σ) (m12_some_b4 kM fr 41 τ) p k o (h + 1) := by
  intro m
  induction m with
  | zero =>
    intro j fc fr σ τ p k hm h1 h2 hj hx
    obtain ⟨fc, rfl⟩ : ∃ k, fc = k + 1 := ⟨fc - 1, by omega⟩
    obtain ⟨fr, rfl⟩ : ∃ k, fr = k + 1 := ⟨fr - 1, by omega⟩
    have hpn := hx.pn
    have eh : ¬ hd T n p = 124 := fun c => by
      have := hd_lt (c := 124) (by decide) c
      omega
    refine RS.ok ?_ ?_ hx
    · rw [m4_isAny_b12]
      unfold m4_isAny_b48
      rw [hw_tf_1, Option.bind_some, hw_V_19 hx.cF, Option.bind_some, lv_com hx hn, if_neg eh, hw_b2s, hw_if00, Option.bind_some, ite_self]
    · rw [m12_some_b4, hw_G_41 hx.rF, Option.bind_some, hx.r7, hw_if00, hw_V_41 hx.rF, Option.bind_some, lv_hr hx hn, Option.bind_some, if_neg eh]
      rfl
  | succ m ih =>
    intro j fc fr σ τ p k hm h1 h2 hj hx
    obtain ⟨fc, rfl⟩ : ∃ k, fc = k + 1 := ⟨fc - 1, by omega⟩
    obtain ⟨fr, rfl⟩ : ∃ k, fr = k + 1 := ⟨fr - 1, by omega⟩
    have hpn := hx.pn
    have hkp := hx.kp
    by_cases eh : hd T n p = 124
    · have hp : p < n := hd_lt (c := 124) (by decide) eh
      have x1 := lv_pl hx hp
      have e1 : m4_isAny_b12 kP (fc + 1) 19 (nI o) (nI j) σ = hw_b2 (m4_isAll kP 19 (nI o) (hw_wI 19 2 (nI (p + 1)) σ)) fun v29 σ29 => (if v29 = 0 then some ((0 : Int32), σ29) else (hw_rv (hw_q 4) (some 19) σ29).bind fun a39 => (m4_add 19 (3 : Int32) σ29).bind fun σ39 => m4_isAny_b12 kP fc 19 (nI o) (nI (j + 1)) σ39) := by
        rw [m4_isAny_b12, if_neg (show ¬ (120 : Int32) ≤ nI j from nI_ge (b := 120) (by omega) (by decide)), hw_V_19 hx.cF, Option.bind_some, lv_com hx hn, if_pos eh, hw_b2s, hw_if10, hw_V_19 x1.cF, Option.bind_some, nI_1]
        simp only [hw_tf_0, Option.bind_some]
      have e2 : m12_some_b4 kM (fr + 1) 41 τ = (m12_every kM 41 (hw_wI 41 5 (nI (p + 1)) τ)).bind fun σ31 => (hw_rv (hw_q 12) (some 41) σ31).bind fun a37 => (m12_emits 41 ((-3) : Int32) σ31).bind fun σ37 => m12_some_b4 kM fr 41 σ37 := by
        rw [m12_some_b4, hw_G_41 hx.rF, Option.bind_some, hx.r7, hw_if00, hw_V_41 hx.rF, Option.bind_some, lv_hr hx hn, Option.bind_some, if_pos eh, hw_G_41 hx.rF, Option.bind_some, hx.r5, nI_1, hw_W_41 hx.rF, Option.bind_some, hw_V_41 x1.rF, Option.bind_some]
      rcases hK _ _ _ _ _ x1 hh with ⟨σ', τ', p', k', a1, a2, a3, a4, a5⟩ | ⟨σ', τ', q, a1, a2, a3⟩
      · obtain ⟨σ2, τ2, w1, w2, w3⟩ := lv_ad a3 hn hl (by omega) (s := iI (-3)) (c := nI 3) (Or.inr (Or.inr (Or.inr (Or.inl ⟨rfl, rfl⟩)))) (hst_3 (by omega))
        rw [e1, e2, a1, a2, hw_b2s, Option.bind_some, hw_if10, hw_V_19 a3.cF, Option.bind_some, hw_V_41 a3.rF, Option.bind_some, show (3 : Int32) = nI 3 from rfl, w1, Option.bind_some, show (-nI 3 : Int32) = iI (-3) by decide, w2, Option.bind_some]
        exact (ih (j + 1) fc fr σ2 τ2 p' (k' + 1) (by omega) (by omega) (by omega) (by omega) w3).tr (by omega) (by omega)
      · right
        refine ⟨σ', τ', q, ?_, ?_, a3⟩
        · rw [e1, a1, hw_b2s, if_pos rfl]
        · rw [e2, a2, Option.bind_some, hw_V_41 a3.2.2.2.2.1, Option.bind_some, d_emt a3.2.2.2, Option.bind_some]
          obtain ⟨fr, rfl⟩ : ∃ k, fr = k + 1 := ⟨fr - 1, by omega⟩
          exact d_s4 kM a3.2.2.2 fr
    · refine RS.ok ?_ ?_ hx
      · rw [m4_isAny_b12]
        unfold m4_isAny_b48
        rw [hw_tf_1, Option.bind_some, hw_V_19 hx.cF, Option.bind_some, lv_com hx hn, if_neg eh, hw_b2s, hw_if00, Option.bind_some, ite_self]
      · rw [m12_some_b4, hw_G_41 hx.rF, Option.bind_some, hx.r7, hw_if00, hw_V_41 hx.rF, Option.bind_some, lv_hr hx hn, Option.bind_some, if_neg eh]
        rfl
theorem x_any {kP : Nat → Int32 → hw_S → Option (Int32 × hw_S)} {kM : Nat → hw_S → Option hw_S} {H : Nat} (hn : n ≤ 120) (hl : l < 8) (hK : ∀ σ τ p k h, LV T n l σ0 τ0 fm hv cv σ τ p k o h → h + 1 ≤ H → RS T n l σ0 τ0 fm hv cv (m4_isAll kP 19 (nI o) σ) (m12_every kM 41 τ) p k o (h + 1)) (hh : h + 1 + 1 ≤ H) (hx : LV T n l σ0 τ0 fm hv cv σ τ p k o h) : RS T n l σ0 τ0 fm hv cv (m4_isAny kP 19 (nI o) σ) (m12_some kM 41 τ) p k o (h + 1) := by
  rcases hK _ _ _ _ _ hx (by omega) with ⟨σ', τ', p', k', a1, a2, a3, a4, a5⟩ | ⟨σ', τ', q, a1, a2, a3⟩
  · unfold m4_isAny m12_some
    rw [hw_V_19 hx.cF, Option.bind_some, hw_V_41 hx.rF, Option.bind_some, a1, a2, hw_b2s, hw_if10, Option.bind_some]
    have hpn := a3.pn
    exact (x_any_b hn hl hK hh 3999 0 hw_fu hw_fu σ' τ' p' k' (by omega) (by decide) (by decide) (Nat.zero_le _) a3).tr (by omega) (by omega)
  · right
    refine ⟨σ', τ', q, ?_, ?_, a3⟩
    · unfold m4_isAny
      rw [hw_V_19 hx.cF, Option.bind_some, a1, hw_b2s, if_pos rfl, hw_tf_0, Option.bind_some]
    · unfold m12_some
      rw [hw_V_41 hx.rF, Option.bind_some, a2, Option.bind_some]
      exact d_s4 kM a3.2.2.2 3999
end PARTS
