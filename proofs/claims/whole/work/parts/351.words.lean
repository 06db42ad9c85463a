/-! the pure layer: the tape, read by class and by model: words and tests -/
def hst (s : Int32) (h : Nat) : Option Nat := if 0 ≤ s then (if h < 14 then some (h + 1) else none) else if s = iI (-1) then (if 1 ≤ h then some h else none) else if s = iI (-2) ∨ s = iI (-3) then (if 2 ≤ h then some (h - 1) else none) else (if h = 1 then some 0 else none)
theorem ht_s (f : Nat → Int32) (j : Nat) : hw_ht f (j + 1) = (hw_ht f j).bind (hst (f j)) := rfl
theorem hst_n {q h : Nat} (hq : q < 2 ^ 31) (hh : h < 14) : hst (nI q) h = some (h + 1) := by
  unfold hst
  rw [if_pos (show (0 : Int32) ≤ nI q from nI_le (a := 0) (Nat.zero_le q) hq), if_pos hh]
theorem hst_1 {h : Nat} (hh : 1 ≤ h) : hst (iI (-1)) h = some h := by
  unfold hst
  rw [if_neg (by decide), if_pos rfl, if_pos hh]
theorem hst_2 {h : Nat} (hh : 2 ≤ h) : hst (iI (-2)) h = some (h - 1) := by
  unfold hst
  rw [if_neg (by decide), if_neg (by decide), if_pos (Or.inl rfl), if_pos hh]
theorem hst_3 {h : Nat} (hh : 2 ≤ h) : hst (iI (-3)) h = some (h - 1) := by
  unfold hst
  rw [if_neg (by decide), if_neg (by decide), if_pos (Or.inr rfl), if_pos hh]
theorem hst_w {z : Int} (h1 : -1000 < z) (h2 : z < -3) : hst (iI z) 1 = some 0 := by
  unfold hst
  have e : ∀ y : Int, -3 ≤ y → y < 0 → ¬ iI z = iI y := fun y a b c => by
    have := (iI_eq (by omega) (by omega) (by omega) (by omega)).mp c
    omega
  have e0 : ¬ (0 : Int32) ≤ iI z := fun c => by
    have c : iI 0 ≤ iI z := c
    have := (iI_le (by omega) (by omega) (by omega) (by omega)).mp c
    omega
  rw [if_neg e0, if_neg (e (-1) (by omega) (by omega)), if_neg (fun c => c.elim (e (-2) (by omega) (by omega)) (e (-3) (by omega) (by omega))), if_pos rfl]
def LV (T : Nat → Int32) (n l : Nat) (σ0 τ0 : hw_S) (fm : Nat → Int32) (hv cv : Int32) (σ τ : hw_S) (p k o h : Nat) : Prop := ∃ C S : Nat → Int32, cS T n σ0 fm hv cv σ p k C ∧ rS T n l τ0 fm hv cv τ p k o S ∧ (∀ j, j < k → hw_ins (S j) (C j)) ∧ hw_ht S k = some h ∧ p ≤ n ∧ k ≤ p
def DD (l : Nat) (σ0 τ0 σ τ : hw_S) (q : Nat) : Prop := hw_d hw_ard σ0 σ ∧ hw_F σ ∧ σ.2.2.1 19 2 = nI q ∧ dS l τ0 τ q
def RS (T : Nat → Int32) (n l : Nat) (σ0 τ0 : hw_S) (fm : Nat → Int32) (hv cv : Int32) (cr : Option (Int32 × hw_S)) (mr : Option hw_S) (p k o h : Nat) : Prop := (∃ σ' τ' p' k', cr = some (1, σ') ∧ mr = some τ' ∧ LV T n l σ0 τ0 fm hv cv σ' τ' p' k' o h ∧ p ≤ p' ∧ k' + p ≤ p' + k) ∨ (∃ σ' τ' q, cr = some (0, σ') ∧ mr = some τ' ∧ DD l σ0 τ0 σ' τ' q)
section WORDS
variable {T : Nat → Int32} {n l : Nat} {σ0 τ0 : hw_S} {fm : Nat → Int32} {hv cv : Int32} {σ τ : hw_S} {p k o h : Nat} {C S : Nat → Int32}
theorem DD.of (hc : cS T n σ0 fm hv cv σ p k C) (hd : dS l τ0 τ p) : DD l σ0 τ0 σ τ p := ⟨hc.1, hc.2.1, hc.pl, hd⟩
/-- both write down one step -/
theorem lv_ad (h0 : LV T n l σ0 τ0 fm hv cv σ τ p k o h) (hn : n ≤ 120) (hl : l < 8) (hk : k < p) {s c : Int32} {h1 : Nat} (hi : hw_ins s c) (hh : hst s h = some h1) : ∃ σ' τ', m4_add 19 c σ = some σ' ∧ m12_emits 41 s τ = some τ' ∧ LV T n l σ0 τ0 fm hv cv σ' τ' p (k + 1) o h1 := by
  obtain ⟨C, S, hc, hr, hi0, ht, hp, -⟩ := h0
  obtain ⟨σ', a1, a2⟩ := c_ad hc (show k < 120 by omega) c
  obtain ⟨τ', b1, b2⟩ := r_emt hr hn hl (show k < 120 by omega) s
  refine ⟨σ', τ', a1, b1, _, _, a2, b2, fun j hj => ?_, ?_, hp, hk⟩
  · show hw_ins (if j = k then s else S j) (if j = k then c else C j)
    by_cases e : j = k
    · rw [if_pos e, if_pos e]; exact hi
    · rw [if_neg e, if_neg e]; exact hi0 j (by omega)
  · rw [ht_s, hw_ht_congr (g := S) (fun j hj => if_neg (by omega)), ht, Option.bind_some, if_pos rfl, hh]
theorem c_ab (x : Int32) : m4_aboutOf x = some (if x = 104 then 0 else if x = 102 then 1 else if x = 112 then 2 else if x = 115 then 3 else if x = 103 then 4 else (-1)) := by
  by_cases h0 : x = 104
  · rw [if_pos h0, h0]; rfl
  by_cases h1 : x = 102
  · rw [if_neg h0, if_pos h1, h1]; rfl
  by_cases h2 : x = 112
  · rw [if_neg h0, if_neg h1, if_pos h2, h2]; rfl
  by_cases h3 : x = 115
  · rw [if_neg h0, if_neg h1, if_neg h2, if_pos h3, h3]; rfl
  by_cases h4 : x = 103
  · rw [if_neg h0, if_neg h1, if_neg h2, if_neg h3, if_pos h4, h4]; rfl
  rw [if_neg h0, if_neg h1, if_neg h2, if_neg h3, if_neg h4]
  unfold m4_aboutOf m4_aboutOf_b82
  rw [if_neg h1, if_neg h4, if_neg h0, if_neg h2, if_neg h3, ite_self, ite_self, ite_self, ite_self, ite_self, ite_self, ite_self, ite_self, ite_self]
theorem r_am1 (hr : rS T n l τ0 fm hv cv τ p k o S) (hn : n ≤ 120) (hp : p ≤ n) {w m j : Nat} (hw : hw_sl (some w) = some (nI m)) (hm : m < 10) (hj : j < m) {c : Int32} (hc : hw_sc (some w) (nI j) = some c) (fuel : Nat) : m12_among_b2 (fuel + 1) 41 (some w) (nI j) τ = if hd T n p = c then some (nI j, hw_wI 41 5 (nI (p + 1)) τ) else m12_among_b2 fuel 41 (some w) (nI (j + 1)) τ := by
  rw [m12_among_b2, hw, Option.bind_some, if_neg (nI_ge hj (by omega)), hw_V_41 hr.F, Option.bind_some, r_hr hr hn hp, Option.bind_some, hc, Option.bind_some, hw_G_41 hr.F, Option.bind_some, hr.pl, nI_1, nI_1, hw_W_41 hr.F, Option.bind_some]
theorem r_am0 {w m : Nat} (hw : hw_sl (some w) = some (nI m)) (fuel : Nat) : m12_among_b2 (fuel + 1) 41 (some w) (nI m) τ = some (-1, τ) := by
  rw [m12_among_b2, hw, Option.bind_some, if_pos (Int32.le_refl _)]
theorem r_am5 (hr : rS T n l τ0 fm hv cv τ p k o S) (hn : n ≤ 120) (hp : p ≤ n) : m12_among 41 (some 5) τ = if hd T n p = 104 then some (nI 0, hw_wI 41 5 (nI (p + 1)) τ) else if hd T n p = 102 then some (nI 1, hw_wI 41 5 (nI (p + 1)) τ) else if hd T n p = 112 then some (nI 2, hw_wI 41 5 (nI (p + 1)) τ) else if hd T n p = 115 then some (nI 3, hw_wI 41 5 (nI (p + 1)) τ) else if hd T n p = 103 then some (nI 4, hw_wI 41 5 (nI (p + 1)) τ) else some (-1, τ) := by
  have hw : hw_sl (some 5) = some (nI 5) := rfl
  show m12_among_b2 (3994 + 1 + 1 + 1 + 1 + 1 + 1) 41 (some 5) (nI 0) τ = _
  rw [r_am1 hr hn hp hw (by decide) (show 0 < 5 by decide) (c := 104) (by decide), r_am1 hr hn hp hw (by decide) (show 0 + 1 < 5 by decide) (c := 102) (by decide), r_am1 hr hn hp hw (by decide) (show 0 + 1 + 1 < 5 by decide) (c := 112) (by decide), r_am1 hr hn hp hw (by decide) (show 0 + 1 + 1 + 1 < 5 by decide) (c := 115) (by decide), r_am1 hr hn hp hw (by decide) (show 0 + 1 + 1 + 1 + 1 < 5 by decide) (c := 103) (by decide), show (0 + 1 + 1 + 1 + 1 + 1 : Nat) = 5 from rfl, r_am0 hw]
theorem r_am6 (hr : rS T n l τ0 fm hv cv τ p k o S) (hn : n ≤ 120) (hp : p ≤ n) : m12_among 41 (some 6) τ = if hd T n p = 60 then some (nI 0, hw_wI 41 5 (nI (p + 1)) τ) else if hd T n p = 61 then some (nI 1, hw_wI 41 5 (nI (p + 1)) τ) else if hd T n p = 62 then some (nI 2, hw_wI 41 5 (nI (p + 1)) τ) else some (-1, τ) := by
  have hw : hw_sl (some 6) = some (nI 3) := rfl
  show m12_among_b2 (3996 + 1 + 1 + 1 + 1) 41 (some 6) (nI 0) τ = _
  rw [r_am1 hr hn hp hw (by decide) (show 0 < 3 by decide) (c := 60) (by decide), r_am1 hr hn hp hw (by decide) (show 0 + 1 < 3 by decide) (c := 61) (by decide), r_am1 hr hn hp hw (by decide) (show 0 + 1 + 1 < 3 by decide) (c := 62) (by decide), show (0 + 1 + 1 + 1 : Nat) = 3 from rfl, r_am0 hw]
/-- what a test is about: both know it, or both don't -/
theorem x_ab (hr : rS T n l τ0 fm hv cv τ p k o S) (hn : n ≤ 120) (hp : p ≤ n) : (∃ t, t < 5 ∧ p < n ∧ m4_aboutOf (hd T n p) = some (nI t) ∧ m12_among 41 (some 5) τ = some (nI t, hw_wI 41 5 (nI (p + 1)) τ)) ∨ (m4_aboutOf (hd T n p) = some (-1) ∧ m12_among 41 (some 5) τ = some (-1, τ)) := by
  rw [c_ab, r_am5 hr hn hp]
  by_cases h0 : hd T n p = 104
  · exact Or.inl ⟨0, by decide, hd_lt (c := 104) (by decide) h0, by rw [if_pos h0]; rfl, by rw [if_pos h0]⟩
  by_cases h1 : hd T n p = 102
  · exact Or.inl ⟨1, by decide, hd_lt (c := 102) (by decide) h1, by rw [if_neg h0, if_pos h1]; rfl, by rw [if_neg h0, if_pos h1]⟩
  by_cases h2 : hd T n p = 112
  · exact Or.inl ⟨2, by decide, hd_lt (c := 112) (by decide) h2, by rw [if_neg h0, if_neg h1, if_pos h2]; rfl, by rw [if_neg h0, if_neg h1, if_pos h2]⟩
  by_cases h3 : hd T n p = 115
  · exact Or.inl ⟨3, by decide, hd_lt (c := 115) (by decide) h3, by rw [if_neg h0, if_neg h1, if_neg h2, if_pos h3]; rfl, by rw [if_neg h0, if_neg h1, if_neg h2, if_pos h3]⟩
  by_cases h4 : hd T n p = 103
  · exact Or.inl ⟨4, by decide, hd_lt (c := 103) (by decide) h4, by rw [if_neg h0, if_neg h1, if_neg h2, if_neg h3, if_pos h4]; rfl, by rw [if_neg h0, if_neg h1, if_neg h2, if_neg h3, if_pos h4]⟩
  right
  rw [if_neg h0, if_neg h1, if_neg h2, if_neg h3, if_neg h4, if_neg h0, if_neg h1, if_neg h2, if_neg h3, if_neg h4]
  exact ⟨rfl, rfl⟩
theorem x_sg (hr : rS T n l τ0 fm hv cv τ p k o S) (hn : n ≤ 120) (hp : p ≤ n) : (∃ t, t < 3 ∧ p < n ∧ m4_signOf (hd T n p) = some (nI t) ∧ m12_among 41 (some 6) τ = some (nI t, hw_wI 41 5 (nI (p + 1)) τ)) ∨ (m4_signOf (hd T n p) = some (-1) ∧ m12_among 41 (some 6) τ = some (-1, τ)) := by
  unfold m4_signOf
  rw [r_am6 hr hn hp]
  by_cases h0 : hd T n p = 60
  · exact Or.inl ⟨0, by decide, hd_lt (c := 60) (by decide) h0, by rw [if_pos h0]; rfl, by rw [if_pos h0]⟩
  by_cases h1 : hd T n p = 61
  · exact Or.inl ⟨1, by decide, hd_lt (c := 61) (by decide) h1, by rw [if_neg h0, if_pos h1]; rfl, by rw [if_neg h0, if_pos h1]⟩
  by_cases h2 : hd T n p = 62
  · exact Or.inl ⟨2, by decide, hd_lt (c := 62) (by decide) h2, by rw [if_neg h0, if_neg h1, if_pos h2]; rfl, by rw [if_neg h0, if_neg h1, if_pos h2]⟩
  right
  rw [if_neg h0, if_neg h1, if_neg h2, if_neg h0, if_neg h1, if_neg h2]
  exact ⟨rfl, rfl⟩
theorem tst_c : ∀ t, t < 5 → ∀ g, g < 3 → ∀ v, v < 100 → (((0 : Int32) ||| (nI t <<< ((3 : Int32) &&& 31))) ||| (nI g <<< ((6 : Int32) &&& 31))) ||| (nI v <<< ((8 : Int32) &&& 31)) = nI (8 * t + 64 * g + 256 * v) := by decide +kernel
theorem wnd_c : ∀ v, v < 100 → (4 : Int32) ||| (nI v <<< ((8 : Int32) &&& 31)) = nI (4 + 256 * v) := by decide +kernel
theorem eas_c : ∀ v, v < 100 → (5 : Int32) ||| (nI v <<< ((8 : Int32) &&& 31)) = nI (5 + 256 * v) := by decide +kernel
theorem nI_pos0 {q : Nat} (h : q < 2 ^ 31) : (0 : Int32) ≤ nI q := nI_le (a := 0) (Nat.zero_le q) h
/-- from a fault on, the model's test moves nothing -/
theorem d_t169 (kP : Nat → hw_S → Option hw_S) (h : dS l τ0 τ p) (a b v : Int32) : ∃ τ', m12_factorF_b169 kP 41 a b 41 1 τ = some τ' ∧ dS l τ0 τ' p := by
  obtain ⟨z, τ', e, d⟩ := d_fig (d_7 h)
  refine ⟨τ', ?_, d⟩
  unfold m12_factorF_b169
  rw [hw_tf_1, Option.bind_some, hw_W_41 h.2.1, Option.bind_some, hw_V_41 (d_7 h).2.1, Option.bind_some, e, hw_b2s, hw_V_41 d.2.1, Option.bind_some, d_emt d, Option.bind_some]
theorem x_tst (kP : Nat → hw_S → Option hw_S) (h0 : LV T n l σ0 τ0 fm hv cv σ τ p k o h) (hn : n ≤ 120) (hl : l < 8) (hh : h < 14) : RS T n l σ0 τ0 fm hv cv (m4_isTest 19 σ) (hw_b2 (m12_among 41 (some 5) τ) fun v115 σ115 => (if v115 = ((-1) : Int32) then m12_factorF_b130 kP 41 v115 41 (1 : Int32) σ115 else m12_factorF_b130 kP 41 v115 41 (0 : Int32) σ115)) p k o (h + 1) := by
  obtain ⟨C, S, hc, hr, hi0, ht, hp, hk⟩ := h0
  have m1 : ¬ (0 : Int32) ≤ -1 := by decide
  rcases x_ab hr hn hp with ⟨t, t5, hpn, e1, e2⟩ | ⟨e1, e2⟩
  · have c1 := c_plc hc (p + 1)
    have r1 := r_spt hr (p + 1)
    have r2 := r_w0 r1
    rcases x_sg r2 hn hpn with ⟨g, g3, hpn2, e3, e4⟩ | ⟨e3, e4⟩
    · have c2 := c_plc c1 (p + 1 + 1)
      have r3 := r_spt r2 (p + 1 + 1)
      have r4 := r_w0 r3
      rcases x_num c2 r4 hn hpn2 with ⟨v, q, σ', τ', v1, v2, v3, v4, v5, v6, v7⟩ | ⟨z, τ', z1, z2, z3⟩
      · left
        obtain ⟨σ2, τ2, w1, w2, w3⟩ := lv_ad (σ := σ') (τ := τ') (p := q) (k := k) (o := o) ⟨C, S, v6, v7, hi0, ht, v3, by omega⟩ hn hl (by omega) (s := nI (t + 8 * g + 32 * v)) (c := nI (8 * t + 64 * g + 256 * v)) (Or.inl ⟨t, g, v, t5, g3, v1, rfl, rfl⟩) (hst_n (by omega) hh)
        refine ⟨σ2, τ2, q, k + 1, ?_, ?_, w3, by omega, by omega⟩
        · unfold m4_isTest
          rw [hw_V_19 hc.F, Option.bind_some, c_ahd hc hn hp, Option.bind_some, e1, Option.bind_some, if_pos (nI_pos0 (by omega)), hw_G_19 hc.F, Option.bind_some, hc.pl, nI_1, hw_W_19 hc.F, Option.bind_some, hw_V_19 c1.F, Option.bind_some, c_ahd c1 hn hpn, Option.bind_some, e3, Option.bind_some, if_pos (nI_pos0 (by omega)), hw_G_19 c1.F, Option.bind_some, c1.pl, nI_1, hw_W_19 c1.F, Option.bind_some, hw_V_19 c2.F, Option.bind_some, v4, hw_b2s, if_pos (nI_pos0 (by omega)), hw_V_19 v6.F, Option.bind_some, tst_c t t5 g g3 v v1, w1, Option.bind_some, hw_tf_1, Option.bind_some]
        · unfold m12_factorF_b130 m12_factorF_b150 m12_factorF_b169
          rw [e2, hw_b2s, if_neg (hw_nn1 (by omega)), hw_tf_0, Option.bind_some, hw_W_41 r1.F, Option.bind_some, hw_G_41 r2.F, Option.bind_some, r2.wr, hw_if00, hw_V_41 r2.F, Option.bind_some, e4, hw_b2s, hw_G_41 r3.F, Option.bind_some, r3.wr, hw_if00, if_neg (hw_nn1 (by omega)), Option.bind_some, hw_W_41 r3.F, Option.bind_some, hw_V_41 r4.F, Option.bind_some, v5, hw_b2s, hw_V_41 v7.F, Option.bind_some, show (8 : Int32) * nI g = nI (8 * g) from nI_mul 8 g, show (32 : Int32) * nI v = nI (32 * v) from nI_mul 32 v, nI_add, nI_add, w2, Option.bind_some]
      · right
        refine ⟨_, _, p + 1 + 1, ?_, ?_, DD.of c2 z3⟩
        · unfold m4_isTest
          rw [hw_V_19 hc.F, Option.bind_some, c_ahd hc hn hp, Option.bind_some, e1, Option.bind_some, if_pos (nI_pos0 (by omega)), hw_G_19 hc.F, Option.bind_some, hc.pl, nI_1, hw_W_19 hc.F, Option.bind_some, hw_V_19 c1.F, Option.bind_some, c_ahd c1 hn hpn, Option.bind_some, e3, Option.bind_some, if_pos (nI_pos0 (by omega)), hw_G_19 c1.F, Option.bind_some, c1.pl, nI_1, hw_W_19 c1.F, Option.bind_some, hw_V_19 c2.F, Option.bind_some, z1, hw_b2s, if_neg m1, hw_tf_0, Option.bind_some]
        · unfold m12_factorF_b130 m12_factorF_b150 m12_factorF_b169
          rw [e2, hw_b2s, if_neg (hw_nn1 (by omega)), hw_tf_0, Option.bind_some, hw_W_41 r1.F, Option.bind_some, hw_G_41 r2.F, Option.bind_some, r2.wr, hw_if00, hw_V_41 r2.F, Option.bind_some, e4, hw_b2s, hw_G_41 r3.F, Option.bind_some, r3.wr, hw_if00, if_neg (hw_nn1 (by omega)), Option.bind_some, hw_W_41 r3.F, Option.bind_some, hw_V_41 r4.F, Option.bind_some, z2, hw_b2s, hw_V_41 z3.2.1, Option.bind_some, d_emt z3, Option.bind_some]
    · right
      obtain ⟨z, τ', f1, f2⟩ := d_fig (r_dead r2)
      refine ⟨_, τ', p + 1, ?_, ?_, DD.of c1 f2⟩
      · unfold m4_isTest
        rw [hw_V_19 hc.F, Option.bind_some, c_ahd hc hn hp, Option.bind_some, e1, Option.bind_some, if_pos (nI_pos0 (by omega)), hw_G_19 hc.F, Option.bind_some, hc.pl, nI_1, hw_W_19 hc.F, Option.bind_some, hw_V_19 c1.F, Option.bind_some, c_ahd c1 hn hpn, Option.bind_some, e3, Option.bind_some, if_neg m1, hw_tf_0, Option.bind_some]
      · unfold m12_factorF_b130 m12_factorF_b150 m12_factorF_b164 m12_factorF_b169
        rw [e2, hw_b2s, if_neg (hw_nn1 (by omega)), hw_tf_0, Option.bind_some, hw_W_41 r1.F, Option.bind_some, hw_G_41 r2.F, Option.bind_some, r2.wr, hw_if00, hw_V_41 r2.F, Option.bind_some, e4, hw_b2s, hw_G_41 r2.F, Option.bind_some, r2.wr, hw_if00, if_pos rfl, hw_tf_1, Option.bind_some, hw_W_41 r2.F, Option.bind_some, hw_V_41 (r_dead r2).2.1, Option.bind_some, f1, hw_b2s, hw_V_41 f2.2.1, Option.bind_some, d_emt f2, Option.bind_some]
  · right
    have d1 := r_dead hr
    obtain ⟨τ', f1, f2⟩ := d_t169 kP d1 (-1) 0 0
    refine ⟨σ, τ', p, ?_, ?_, DD.of hc f2⟩
    · unfold m4_isTest
      rw [hw_V_19 hc.F, Option.bind_some, c_ahd hc hn hp, Option.bind_some, e1, Option.bind_some, if_neg m1, hw_tf_0, Option.bind_some]
    · rw [e2, hw_b2s, if_pos rfl]
      unfold m12_factorF_b130 m12_factorF_b150 m12_factorF_b164
      rw [hw_tf_1, Option.bind_some, hw_W_41 hr.F, Option.bind_some, hw_G_41 d1.2.1, Option.bind_some, d1.2.2.1, hw_if10, Option.bind_some, hw_if10, f1]
end WORDS
