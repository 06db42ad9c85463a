/-! the pure layer: what may change while one only reckons; laws and stuffs by their numbers -/
def hw_scr (a k : Nat) : Prop := (19 ≤ a ∧ a ≤ 22) ∨ (25 ≤ a ∧ a ≤ 40) ∨ (44 ≤ a ∧ a ≤ 53) ∨ (a = 41 ∧ k ≠ 3 ∧ k ≠ 22)
theorem hw_scr_n {a k : Nat} (h : a ≤ 18 ∨ a = 23 ∨ a = 24 ∨ a = 42 ∨ a = 43 ∨ 54 ≤ a) : ¬ hw_scr a k := by unfold hw_scr; omega
theorem hw_scr_45 : ∀ a k, hw_a4445 a k → hw_scr a k := fun a k h => by unfold hw_a4445 at h; unfold hw_scr; omega
theorem hw_d.I {σ τ : hw_S} (h : hw_d hw_scr σ τ) {a : Nat} (ha : a ≤ 18 ∨ a = 23 ∨ a = 24 ∨ a = 42 ∨ a = 43 ∨ 54 ≤ a) : τ.2.2.1 a = σ.2.2.1 a := funext fun k => h.2.2.2 a k (hw_scr_n ha)
theorem hw_d.lw {σ τ : hw_S} (h : hw_d hw_scr σ τ) {r : Option Nat} {i : Nat} {w : Nat → Int32} (hl : hw_lw σ r i w) : hw_lw τ r i w := by
  obtain ⟨a, af, ac, as, k, v, n, hp, co, h0, h1, h2, h3, h4, hr⟩ := hl
  refine ⟨a, af, ac, as, k, v, n, hp, co, h0, ?_, ?_, ?_, ?_, ?_⟩
  · rw [h.2.2.1]; exact h1
  · rw [h.2.2.1]; exact h2
  · rw [h.2.2.1]; exact h3
  · rw [h.2.2.1]; exact h4
  · rw [h.1, h.2.1, h.2.2.1, h.I (a := a) (by omega), h.I (a := af) (by omega), h.I (a := ac) (by omega), h.I (a := as) (by omega)]
    exact hr
theorem hw_d.sf {σ τ : hw_S} (h : hw_d hw_scr σ τ) {r : Option Nat} {x y : Int32} (hl : hw_sf σ r x y) : hw_sf τ r x y := by
  obtain ⟨a, p, q, h0, h1, hr⟩ := hl
  refine ⟨a, p, q, h0, ?_, ?_⟩
  · rw [h.2.2.1]; exact h1
  · rw [h.1, h.I (a := a) (by omega)]
    exact hr
theorem hw_d.rel {σ τ : hw_S} (h : hw_d hw_scr σ τ) {S : Nat} (hS : S = 1 ∨ S = 10) {w : Nat → Int32} {c0 c1 c2 c3 c4 c5 : Nat} (hr : hw_rel σ S w c0 c1 c2 c3 c4 c5) : hw_rel τ S w c0 c1 c2 c3 c4 c5 := by
  obtain ⟨h1, h2, h3, h4, h5, h6⟩ := hr
  refine ⟨h1, h2, ?_, ?_, ?_, ?_⟩
  · rw [h.I (a := S) (by omega)]; exact h3
  · intro i hi
    rw [h.2.2.1]
    exact h.sf (h4 i hi)
  · intro i hi
    rw [h.2.2.1]
    exact h.lw (h5 i hi)
  · rw [h.I (a := S + 3) (by omega), h.I (a := S + 4) (by omega), h.I (a := S + 5) (by omega), h.I (a := S + 6) (by omega), h.I (a := S + 7) (by omega), h.I (a := S + 8) (by omega)]
    exact h6
theorem hw_d.pt {A : Nat → Nat → Prop} {σ τ : hw_S} (h : hw_d A σ τ) {S : Nat} (hp : hw_pt σ S) : hw_pt τ S := by
  unfold hw_pt
  rw [h.1, h.2.2.1]
  exact hp
theorem hw_d.Jv {σ τ : hw_S} (h : hw_d hw_scr σ τ) (hJ : hw_Jv σ) : hw_Jv τ := by
  obtain ⟨hF, p1, p2, ⟨c0, c1, c2, c3, c4, c5, hr⟩, him, n, hn, t1, t2, t3⟩ := hJ
  refine ⟨h.F hF, h.pt p1, h.pt p2, ⟨c0, c1, c2, c3, c4, c5, ?_⟩, ?_, n, hn, ?_, ?_, ?_⟩
  · rw [h.I (a := 42) (by omega)]
    exact h.rel (Or.inl rfl) hr
  · have e1 : τ.2.2.1 0 2 = σ.2.2.1 0 2 := h.2.2.2 0 2 (hw_scr_n (by omega))
    have e2 : τ.2.2.1 41 3 = σ.2.2.1 41 3 := h.2.2.2 41 3 (by unfold hw_scr; omega)
    rcases him with ⟨a1, a2⟩ | ⟨a1, a2, d0, d1, d2, d3, d4, d5, hr2⟩
    · exact Or.inl ⟨e1.trans a1, e2.trans a2⟩
    · refine Or.inr ⟨e1.trans a1, e2.trans a2, d0, d1, d2, d3, d4, d5, ?_⟩
      rw [h.I (a := 43) (by omega)]
      exact h.rel (Or.inr rfl) hr2
  · exact (h.2.2.2 23 1 (hw_scr_n (by omega))).trans t1
  · exact (h.2.2.2 41 22 (by unfold hw_scr; omega)).trans t2
  · rw [h.I (a := 24) (by omega), h.I (a := 54) (by omega)]
    exact t3
theorem hw_in0 {x : Int32} {c : Nat} (hc : c < 2 ^ 31) : (∃ n, n < c ∧ x = nI n) ∨ ((∀ n, n < c → x ≠ nI n) ∧ ¬ (nI 0 ≤ x ∧ x ≤ nI c - nI 1)) := by
  by_cases h : ∃ n, n < c ∧ x = nI n
  · exact Or.inl h
  · refine Or.inr ⟨fun n hn e => h ⟨n, hn, e⟩, fun hh => ?_⟩
    by_cases hx : x < 0
    · exact absurd hh.1 (Int32.not_le.mpr hx)
    · obtain ⟨n, hn, rfl⟩ := nI_of hx
      have h2 := hh.2
      by_cases h0 : c = 0
      · subst h0
        rw [iI_nI, iI_nI, iI_nI, iI_sub, iI_le (by omega) (by omega) (by omega) (by omega)] at h2
        omega
      · rw [nI_sub (by omega), nI_leI hn (by omega)] at h2
        exact h ⟨n, by omega, rfl⟩
theorem hw_in1 {n c : Nat} (h : n < c) (hc : c < 2 ^ 31) : nI 0 ≤ nI n ∧ nI n ≤ nI c - nI 1 := by
  rw [nI_sub (by omega)]
  exact ⟨nI_le (by omega) (by omega), nI_le (by omega) (by omega)⟩
theorem x_law {σ : hw_S} {c0 c1 c2 c3 c4 c5 : Nat} (hF : hw_F σ) (hr : hw_rel σ 1 (σ.2.2.1 42) c0 c1 c2 c3 c4 c5) (x : Int32) :
    (∃ l a, l < c1 ∧ l < 8 ∧ x = nI l ∧ m11_lawAt 0 x σ = some (some a) ∧ (∀ τ, hw_d hw_scr σ τ → m12_isLaw 41 x τ = some 1) ∧ hw_lw σ (some a) l (σ.2.2.1 42)) ∨ ((∀ n, n < c1 → x ≠ nI n) ∧ m11_lawAt 0 x σ = some none ∧ ∀ τ, hw_d hw_scr σ τ → m12_isLaw 41 x τ = some 0) := by
  obtain ⟨⟨-, b1, -⟩, ⟨-, w1, -⟩, ⟨-, s1, -⟩, -, hl, -⟩ := hr
  have ec : m11_lawAt 0 x σ = (if hw_tb (nI 0 ≤ x ∧ x ≤ nI c1 - nI 1) = 0 then some none else hw_aP 2 (some 3) x σ) := by
    unfold m11_lawAt m11_lawAt_b30
    simp only [hw_P_0_0 hF, hw_G_1 hF, s1, Option.bind_some, e11_isWithin, hw_P_1_2 hF]
    show (if hw_tb (nI 0 ≤ x ∧ x ≤ nI c1 - nI 1) = 0 then some none else (hw_aP 2 (some 3) x σ).bind fun v => some v) = _
    rw [show ((hw_aP 2 (some 3) x σ).bind fun v => some v) = hw_aP 2 (some 3) x σ by cases hw_aP 2 (some 3) x σ <;> rfl]
  have er : ∀ τ, hw_d hw_scr σ τ → m12_isLaw 41 x τ = some (hw_tb (nI 0 ≤ x ∧ x ≤ nI c1 - nI 1)) := by
    intro τ hd
    have hFτ := hd.F hF
    unfold m12_isLaw
    have e1 : hw_aI 0 (some 42) (1 : Int32) τ = some (nI c1) := by
      rw [show (1 : Int32) = nI 1 from rfl, hw_A_42 hFτ (by decide), hd.I (a := 42) (by omega), w1]
    rw [hw_P_41_1 hFτ, Option.bind_some, e1, Option.bind_some, e12_in, Option.bind_some, hw_tf_tb]
    rfl
  rcases hw_in0 (x := x) (c := c1) (by omega) with ⟨n, hn, rfl⟩ | ⟨h1, h2⟩
  · left
    have hin := hw_in1 hn (show c1 < 2 ^ 31 by omega)
    obtain ⟨a, he⟩ : ∃ a, σ.2.2.2.1 3 n = some a := by
      obtain ⟨a, af, ac, as, k, v, m, hp, co, h0, -⟩ := hl n hn
      exact ⟨a, h0⟩
    refine ⟨n, a, hn, by omega, rfl, ?_, fun τ hd => by rw [er τ hd, hw_tb1 hin], ?_⟩
    · rw [ec, hw_itb, if_pos hin, hw_A_3 hF (by omega), he]
    · have := hl n hn
      rw [show (1 + 2 : Nat) = 3 from rfl, he] at this
      exact this
  · right
    exact ⟨h1, by rw [ec, hw_itb, if_neg h2], fun τ hd => by rw [er τ hd, hw_tb0 h2]⟩
theorem x_stuff {σ : hw_S} {c0 c1 c2 c3 c4 c5 : Nat} (hF : hw_F σ) (hr : hw_rel σ 1 (σ.2.2.1 42) c0 c1 c2 c3 c4 c5) (x : Int32) :
    (∃ st a, st < c0 ∧ st < 5 ∧ x = nI st ∧ m11_stuffAt 0 x σ = some (some a) ∧ (∀ τ, hw_d hw_scr σ τ → m12_isStuff 41 x τ = some 1) ∧ hw_sf σ (some a) (σ.2.2.1 42 (130 + st)) (σ.2.2.1 42 (135 + st))) ∨ ((∀ n, n < c0 → x ≠ nI n) ∧ m11_stuffAt 0 x σ = some none ∧ ∀ τ, hw_d hw_scr σ τ → m12_isStuff 41 x τ = some 0) := by
  obtain ⟨⟨b0, -⟩, ⟨w0, -⟩, ⟨s0, -⟩, hl, -⟩ := hr
  have ec : m11_stuffAt 0 x σ = (if hw_tb (nI 0 ≤ x ∧ x ≤ nI c0 - nI 1) = 0 then some none else hw_aP 3 (some 2) x σ) := by
    unfold m11_stuffAt m11_stuffAt_b30
    simp only [hw_P_0_0 hF, hw_G_1 hF, s0, Option.bind_some, e11_isWithin, hw_P_1_0 hF]
    show (if hw_tb (nI 0 ≤ x ∧ x ≤ nI c0 - nI 1) = 0 then some none else (hw_aP 3 (some 2) x σ).bind fun v => some v) = _
    rw [show ((hw_aP 3 (some 2) x σ).bind fun v => some v) = hw_aP 3 (some 2) x σ by cases hw_aP 3 (some 2) x σ <;> rfl]
  have er : ∀ τ, hw_d hw_scr σ τ → m12_isStuff 41 x τ = some (hw_tb (nI 0 ≤ x ∧ x ≤ nI c0 - nI 1)) := by
    intro τ hd
    have hFτ := hd.F hF
    unfold m12_isStuff
    have e1 : hw_aI 0 (some 42) (0 : Int32) τ = some (nI c0) := by
      rw [show (0 : Int32) = nI 0 from rfl, hw_A_42 hFτ (by decide), hd.I (a := 42) (by omega), w0]
    rw [hw_P_41_1 hFτ, Option.bind_some, e1, Option.bind_some, e12_in, Option.bind_some, hw_tf_tb]
    rfl
  rcases hw_in0 (x := x) (c := c0) (by omega) with ⟨n, hn, rfl⟩ | ⟨h1, h2⟩
  · left
    have hin := hw_in1 hn (show c0 < 2 ^ 31 by omega)
    obtain ⟨a, he⟩ : ∃ a, σ.2.2.2.1 2 n = some a := by
      obtain ⟨a, p, q, h0, -⟩ := hl n hn
      exact ⟨a, h0⟩
    refine ⟨n, a, hn, by omega, rfl, ?_, fun τ hd => by rw [er τ hd, hw_tb1 hin], ?_⟩
    · rw [ec, hw_itb, if_pos hin, hw_A_2 hF (by omega), he]
    · have := hl n hn
      rw [show (1 + 1 : Nat) = 2 from rfl, he] at this
      exact this
  · right
    exact ⟨h1, by rw [ec, hw_itb, if_neg h2], fun τ hd => by rw [er τ hd, hw_tb0 h2]⟩
-- high, turns, forms
def sp_hi (v h : Nat) : Bool := decide (10 * v < h)
def sp_hi2 (v h : Nat) (b : Bool) : Bool := sp_hi v h || (b && decide (5 * v ≤ h))
theorem hw_lw.q {σ : hw_S} {a l : Nat} {w : Nat → Int32} (h : hw_lw σ (some a) l w) (hl : l < 8) : hw_qL (σ.1 a) = true ∧ σ.2.2.1 a 2 = nI (sp_v w l) ∧ σ.1 a = hw_tg (sp_k w l) ∧ (55 ≤ a ∧ a < σ.2.2.2.2) := by
  have hv := (h.ml hl).v
  have hk := (h.ml hl).k
  obtain ⟨a', af, ac, as, k, v, n, hp, co, e, ha, -, -, -, g1, g2, g3, g4, -, -, gt, k1, v1, -, -, g5, -, -, gv, -⟩ := h
  cases e
  have ek : k = sp_k w l := (nI_eq (by omega) (by omega)).mp (k1.symm.trans hk.2)
  have ev : v = sp_v w l := (nI_eq (by omega) (by omega)).mp (v1.symm.trans hv.2.2)
  rw [← ev, ← ek]
  refine ⟨?_, gv, gt, ha⟩
  rw [gt]
  clear ek gt k1
  match k, g1 with
  | 0, _ => decide
  | 1, _ => decide
  | 2, _ => decide
  | 3, _ => decide
  | 4, _ => decide
  | 5, _ => decide
  | 6, _ => decide
theorem c3_isHighAt_e {σ : hw_S} {a l h : Nat} {w : Nat → Int32} (hl : hw_lw σ (some a) l w) (hl8 : l < 8) (hh : h ≤ 60) : m3_isHighAt a (nI h) σ = some (nI (hw_bn (sp_hi (sp_v w l) h))) := by
  have hq := hl.q hl8
  have hv := (hl.ml hl8).v
  unfold m3_isHighAt m3_isHighAt_b16 sp_hi
  rw [hw_gI_at hq.1 hq.2.1, Option.bind_some, show (10 : Int32) * nI (sp_v w l) = nI (10 * sp_v w l) from nI_mul 10 _]
  by_cases hc : 10 * sp_v w l < h
  · rw [if_neg (nI_ge hc (by omega)), decide_eq_true hc]; rfl
  · rw [if_pos (nI_le (by omega) (by omega)), decide_eq_false hc]; rfl
theorem c3_isHighAfter_e {σ : hw_S} {a l h : Nat} {b : Bool} {w : Nat → Int32} (hl : hw_lw σ (some a) l w) (hl8 : l < 8) (hh : h ≤ 60) : m3_isHighAfter a (nI (hw_bn b)) (nI h) σ = some (nI (hw_bn (sp_hi2 (sp_v w l) h b))) := by
  have hq := hl.q hl8
  have hv := (hl.ml hl8).v
  unfold m3_isHighAfter m3_isHighAfter_b26 m3_isHighAfter_b22 m3_isHighAfter_b27 sp_hi2
  rw [hw_rv_at hq.1, Option.bind_some, c3_isHighAt_e hl hl8 hh, Option.bind_some]
  cases sp_hi (sp_v w l) h
  · rw [if_pos (show nI (hw_bn false) = 0 from rfl)]
    cases b
    · rw [if_pos (show nI (hw_bn false) = 0 from rfl)]; rfl
    · rw [if_neg (show ¬ nI (hw_bn true) = 0 by decide), hw_gI_at hq.1 hq.2.1, Option.bind_some, show (5 : Int32) * nI (sp_v w l) = nI (5 * sp_v w l) from nI_mul 5 _]
      by_cases hc : 5 * sp_v w l ≤ h
      · rw [if_neg (nI_nlt hc (by omega)), decide_eq_true hc]; rfl
      · rw [if_pos (nI_lt (by omega) (by omega)), decide_eq_false hc]; rfl
  · rw [if_neg (show ¬ nI (hw_bn true) = 0 by decide)]; rfl
theorem r_becomesHigh_e {σ : hw_S} {l h : Nat} {b : Bool} (hF : hw_F σ) (hl : hw_ml (σ.2.2.1 42) l) (hb : σ.2.2.1 41 15 = nI (hw_bn b)) (hh : h ≤ 60) : m12_becomesHigh 41 (nI l) (nI h) σ = some (nI (hw_bn (sp_hi2 (sp_v (σ.2.2.1 42) l) h b))) := by
  have hv := hl.v
  have hl8 := hl.1
  unfold m12_becomesHigh m12_becomesHigh_b40 m12_becomesHigh_b44 m12_becomesHigh_b45 sp_hi2 sp_hi
  have e1 : (148 : Int32) + nI l = nI (148 + l) := nI_add 148 l
  simp only [hw_P_41_1 hF, e1, hw_A_42 hF (show 148 + l < 1396 by omega), Option.bind_some, hv.2.2, hw_G_41 hF, hb]
  rw [show (10 : Int32) * nI (sp_v (σ.2.2.1 42) l) = nI (10 * sp_v (σ.2.2.1 42) l) from nI_mul 10 _, show (5 : Int32) * nI (sp_v (σ.2.2.1 42) l) = nI (5 * sp_v (σ.2.2.1 42) l) from nI_mul 5 _]
  by_cases hc : 10 * sp_v (σ.2.2.1 42) l < h
  · rw [if_pos (nI_lt hc (by omega)), decide_eq_true hc]; rfl
  · rw [if_neg (nI_nlt (by omega) (by omega)), decide_eq_false hc]
    cases b
    · rw [if_pos (show nI (hw_bn false) = 0 from rfl)]; rfl
    · rw [if_neg (show ¬ nI (hw_bn true) = 0 by decide)]
      by_cases hd : 5 * sp_v (σ.2.2.1 42) l ≤ h
      · rw [if_neg (nI_nlt hd (by omega)), decide_eq_true hd]; rfl
      · rw [if_pos (nI_lt (by omega) (by omega)), decide_eq_false hd]; rfl
def sp_to (w : Nat → Int32) (l st h f p : Nat) : Nat := sp_turns w l st h f p (sp_hi (sp_v w l) h) (sp_s0 w st)
theorem sp_to_le {w : Nat → Int32} {l : Nat} (h : hw_ml w l) (st a b p : Nat) : 1 ≤ sp_to w l st a b p ∧ sp_to w l st a b p ≤ 999 := sp_turns_le h _ _ _ _ _ _
theorem c11_turnsIn_e {σ : hw_S} {w : Nat → Int32} {a sa l st h f p : Nat} (hl8 : l < 8) (hs5 : st < 5) (hl : hw_lw σ (some a) l w) (hs : hw_sf σ (some sa) (w (130 + st)) (w (135 + st))) (h1 : h ≤ 60) (h2 : f ≤ 20) (h3 : p < 100) :
    m11_turnsIn (some a) (some sa) (nI (hw_dg h f p)) σ = some (nI (sp_to w l st h f p)) := by
  have hd : hw_dg h f p < 2 ^ 31 := by unfold hw_dg; omega
  have hq := hl.q hl8
  have hs0 := (hs.ms hs5).s
  have hg : hw_gI (hw_q 9) 0 (some sa) σ = some (nI (sp_s0 w st)) := by
    obtain ⟨sa', x, y, e, -, gs, -, -, s1, s2, s3, s4⟩ := id hs
    cases e
    exact hw_gI_at (by rw [gs]; decide) (s1.trans (s3.symm.trans hs0.2.2))
  unfold m11_turnsIn
  rw [hg, Option.bind_some, e11_heightOf hd, Option.bind_some, hw_dg_h h2 h3, hw_rv_at hq.1, Option.bind_some, c3_isHighAt_e hl hl8 h1, Option.bind_some, hw_rv_at hq.1, Option.bind_some, c3_turnsIn_e hl8 hs5 hl hs h1 h2 h3 (by omega) (fun _ => rfl), Option.bind_some]
  rfl
theorem r_turnsOf {σ : hw_S} {l st h f p : Nat} (hF : hw_F σ) (hl : hw_ml (σ.2.2.1 42) l) (hs : hw_ms (σ.2.2.1 42) st) (h0 : 1 ≤ h) (h1 : h ≤ 60) (h2 : f ≤ 20) :
    ∃ τ, m12_turnsOf 41 (nI l) (nI st) (nI h) (nI f) (nI p) σ = some (nI (sp_to (σ.2.2.1 42) l st h f p), τ) ∧ hw_d hw_a4445 σ τ := by
  have hs0 := hs.s
  have hv := hl.v
  have hl8 := hl.1
  have hs5 := hs.1
  obtain ⟨τ, g1, g2⟩ := r_turnsAs (f := f) (p := p) (hi := sp_hi (sp_v (σ.2.2.1 42) l) h) (stf := sp_s0 (σ.2.2.1 42) st) hF hl hs h0 h1 h2 hs0.1 (by omega)
  refine ⟨τ, ?_, g2⟩
  unfold m12_turnsOf m12_turnsOf_b30
  have e1 : (148 : Int32) + nI l = nI (148 + l) := nI_add 148 l
  have e3 : (130 : Int32) + nI st = nI (130 + st) := nI_add 130 st
  simp only [hw_P_41_1 hF, e1, e3, hw_A_42 hF (show 148 + l < 1396 by omega), hw_A_42 hF (show 130 + st < 1396 by omega), Option.bind_some, hv.2.2, hs0.2.2, hw_V_41 hF]
  rw [show (10 : Int32) * nI (sp_v (σ.2.2.1 42) l) = nI (10 * sp_v (σ.2.2.1 42) l) from nI_mul 10 _]
  unfold sp_to
  unfold sp_hi at g1 ⊢
  by_cases hc : 10 * sp_v (σ.2.2.1 42) l < h
  · rw [if_neg (nI_ge hc (by omega))]
    rw [decide_eq_true hc] at g1 ⊢
    rw [show (1 : Int32) = nI (hw_bn true) from rfl, g1]
    rfl
  · rw [if_pos (nI_le (by omega) (by omega))]
    rw [decide_eq_false hc] at g1 ⊢
    rw [show (0 : Int32) = nI (hw_bn false) from rfl, g1]
    rfl
def sp_fm (F : Nat → Int32) (q : Int32) : Nat := if q < F 0 then 0 else if q < F 1 then 1 else if q < F 2 then 2 else if q < F 3 then 3 else 4
def sp_form (w : Nat → Int32) (l p t : Nat) : Nat := sp_fm (fun k => w (172 + 4 * l + k)) (nI (10 * p / t))
theorem c3_formAt_e {σ : hw_S} {a l p t : Nat} {w : Nat → Int32} (hl : hw_lw σ (some a) l w) (hl8 : l < 8) (hp : p < 100) (ht : t ≤ 999) : m3_formAt a (nI t) (nI p) σ = some (nI (sp_form w l p t)) := by
  have hq := hl.q hl8
  obtain ⟨a', af, ac, as, k, v, n, hp', co, e, -, -, -, -, -, -, -, -, -, -, -, -, -, -, -, -, -, -, -, -, -, g5, -, -, gf, gf2, -, -, -, -, gF, -⟩ := hl
  cases e
  have hd := hw_divle (10 * p) t
  unfold m3_formAt
  rw [show (10 : Int32) * nI p = nI (10 * p) from nI_mul 10 p, e11_cut (by omega) (by omega), Option.bind_some]
  have hs : ∀ j fuel x, j < 4 → m3_formAt_b15 (fuel + 1) a (nI (10 * p / t)) x (nI j) σ = if nI (10 * p / t) < w (172 + 4 * l + j) then some x else m3_formAt_b15 fuel a (nI (10 * p / t)) (nI (j + 1)) (nI (j + 1)) σ := by
    intro j fuel x hj
    rw [m3_formAt_b15, if_neg (show ¬ (4 : Int32) ≤ nI j from nI_ge hj (by decide)), hw_gP_at hq.1 g5, Option.bind_some, hw_aI_at gf gf2 |> (fun z => z hj (by decide)), Option.bind_some, ← (gF j hj).1]
    unfold m3_formAt_b44
    rw [show nI j + (1 : Int32) = nI (j + 1) from nI_1 j]
  have h4 : ∀ fuel, m3_formAt_b15 (fuel + 1) a (nI (10 * p / t)) (nI 4) (nI 4) σ = some (nI 4) := by
    intro fuel
    rw [m3_formAt_b15, if_pos (show (4 : Int32) ≤ nI 4 from nI_le (Nat.le_refl 4) (by decide))]
    rfl
  unfold sp_form sp_fm
  show m3_formAt_b15 (3999 + 1) a (nI (10 * p / t)) (nI 0) (nI 0) σ = _
  rw [hs 0 3999 (nI 0) (by decide)]
  by_cases h0 : nI (10 * p / t) < w (172 + 4 * l + 0)
  · rw [if_pos h0, if_pos h0]
  · rw [if_neg h0, if_neg h0, hs 1 3998 (nI 1) (by decide)]
    by_cases h1 : nI (10 * p / t) < w (172 + 4 * l + 1)
    · rw [if_pos h1, if_pos h1]
    · rw [if_neg h1, if_neg h1, hs 2 3997 (nI 2) (by decide)]
      by_cases h2 : nI (10 * p / t) < w (172 + 4 * l + 2)
      · rw [if_pos h2, if_pos h2]
      · rw [if_neg h2, if_neg h2, hs 3 3996 (nI 3) (by decide)]
        by_cases h3 : nI (10 * p / t) < w (172 + 4 * l + 3)
        · rw [if_pos h3, if_pos h3]
        · rw [if_neg h3, if_neg h3]
          exact h4 3995
theorem r_formBy_e {σ : hw_S} {l p t : Nat} (hF : hw_F σ) (hl : l < 8) (hp : p < 100) (h0 : 1 ≤ t) (ht : t ≤ 999) : m12_formBy 41 (nI l) (nI p) (nI t) σ = some (nI (sp_form (σ.2.2.1 42) l p t)) := by
  have hd := hw_divle (10 * p) t
  unfold m12_formBy
  rw [show (10 : Int32) * nI p = nI (10 * p) from nI_mul 10 p, hw_dvN (by omega) (by omega) h0, Option.bind_some]
  have e1 : (172 : Int32) + (4 : Int32) * nI l = nI (172 + 4 * l) := by
    rw [show (4 : Int32) * nI l = nI (4 * l) from nI_mul 4 l]
    exact nI_add 172 (4 * l)
  have hs : ∀ j fuel, j < 4 → m12_formBy_b11 (fuel + 1) 41 (nI l) (nI (10 * p / t)) (nI j) σ = if nI (10 * p / t) < σ.2.2.1 42 (172 + 4 * l + j) then some (nI j) else m12_formBy_b11 fuel 41 (nI l) (nI (10 * p / t)) (nI (j + 1)) σ := by
    intro j fuel hj
    rw [m12_formBy_b11, if_neg (show ¬ (4 : Int32) ≤ nI j from nI_ge hj (by decide)), hw_P_41_1 hF, Option.bind_some, e1, nI_add, hw_A_42 hF (by omega), Option.bind_some]
    unfold m12_formBy_b43
    rw [nI_1]
  have h4 : ∀ fuel, m12_formBy_b11 (fuel + 1) 41 (nI l) (nI (10 * p / t)) (nI 4) σ = some (nI 4) := by
    intro fuel
    rw [m12_formBy_b11, if_pos (show (4 : Int32) ≤ nI 4 from nI_le (Nat.le_refl 4) (by decide))]
    rfl
  unfold sp_form sp_fm
  show m12_formBy_b11 (3999 + 1) 41 (nI l) (nI (10 * p / t)) (nI 0) σ = _
  rw [hs 0 3999 (by decide)]
  by_cases h0 : nI (10 * p / t) < σ.2.2.1 42 (172 + 4 * l + 0)
  · rw [if_pos h0, if_pos h0]
  · rw [if_neg h0, if_neg h0, hs 1 3998 (by decide)]
    by_cases h1 : nI (10 * p / t) < σ.2.2.1 42 (172 + 4 * l + 1)
    · rw [if_pos h1, if_pos h1]
    · rw [if_neg h1, if_neg h1, hs 2 3997 (by decide)]
      by_cases h2 : nI (10 * p / t) < σ.2.2.1 42 (172 + 4 * l + 2)
      · rw [if_pos h2, if_pos h2]
      · rw [if_neg h2, if_neg h2, hs 3 3996 (by decide)]
        by_cases h3 : nI (10 * p / t) < σ.2.2.1 42 (172 + 4 * l + 3)
        · rw [if_pos h3, if_pos h3]
        · rw [if_neg h3, if_neg h3]
          exact h4 3995
def sp_fo (w : Nat → Int32) (l st h f p : Nat) : Nat := sp_form w l p (sp_to w l st h f p)
theorem c11_formIn_e {σ : hw_S} {w : Nat → Int32} {a sa l st h f p : Nat} (hl8 : l < 8) (hs5 : st < 5) (hl : hw_lw σ (some a) l w) (hs : hw_sf σ (some sa) (w (130 + st)) (w (135 + st))) (h1 : h ≤ 60) (h2 : f ≤ 20) (h3 : p < 100) :
    m11_formIn (some a) (some sa) (nI (hw_dg h f p)) σ = some (nI (sp_fo w l st h f p)) := by
  have hd : hw_dg h f p < 2 ^ 31 := by unfold hw_dg; omega
  unfold m11_formIn
  rw [c11_turnsIn_e hl8 hs5 hl hs h1 h2 h3, Option.bind_some, e11_paceOf hd, Option.bind_some, hw_dg_p h3, hw_rv_at (hl.q hl8).1, Option.bind_some, c3_formAt_e hl hl8 h3 (sp_to_le (hl.ml hl8) st h f p).2]
  rfl
theorem r_formOf {σ : hw_S} {l st h f p : Nat} (hF : hw_F σ) (hl : hw_ml (σ.2.2.1 42) l) (hs : hw_ms (σ.2.2.1 42) st) (h0 : 1 ≤ h) (h1 : h ≤ 60) (h2 : f ≤ 20) (h3 : p < 100) :
    ∃ τ, m12_formOf 41 (nI l) (nI st) (nI h) (nI f) (nI p) σ = some (nI (sp_fo (σ.2.2.1 42) l st h f p), τ) ∧ hw_d hw_a4445 σ τ := by
  obtain ⟨τ, g1, g2⟩ := r_turnsOf (p := p) hF hl hs h0 h1 h2
  refine ⟨τ, ?_, g2⟩
  have h42 : τ.2.2.1 42 = σ.2.2.1 42 := funext fun j => g2.2.2.2 42 j (by unfold hw_a4445; omega)
  have ht := sp_to_le hl st h f p
  have e := r_formBy_e (p := p) (g2.F hF) hl.1 h3 ht.1 ht.2
  rw [h42] at e
  unfold m12_formOf
  rw [hw_V_41 hF, Option.bind_some, g1]
  show (hw_rv (hw_q 12) (some 41) τ).bind _ = _
  rw [hw_V_41 (g2.F hF), Option.bind_some, e]
  rfl
