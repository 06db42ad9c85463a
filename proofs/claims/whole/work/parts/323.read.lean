/-! the pure layer: read -/
/-- how many there are and the first of them -/
def hw_mf (m : Nat) (fi : Int32) : Prop := (m = 0 ∧ fi = -5) ∨ (0 < m ∧ ∃ q : Nat, q < 1000000 ∧ fi = nI q)
theorem hw_n5 {q : Nat} (h : q < 1000000) : ¬ nI q = (-5 : Int32) := fun c => by
  have h1 := nI_toInt (show q < 2 ^ 31 by omega)
  rw [c, show (-5 : Int32).toInt = -5 by decide] at h1
  omega
theorem hw_mf_f {m : Nat} {fi : Int32} (h : hw_mf m fi) : fi = (-5 : Int32) ↔ m = 0 := by
  rcases h with ⟨h1, h2⟩ | ⟨h1, q, hq, h2⟩
  · exact ⟨fun _ => h1, fun _ => h2⟩
  · exact ⟨fun c => absurd (h2.symm.trans c) (hw_n5 hq), fun c => by omega⟩
theorem hw_m1e {m : Nat} (h : m < 2 ^ 30) : nI (m + 1) = (1 : Int32) ↔ m = 0 := by
  rw [show (1 : Int32) = nI 1 from rfl, nI_eq (by omega) (by omega)]
  omega
theorem hw_mf_s {m q : Nat} {fi : Int32} (h : hw_mf m fi) (hq : q < 1000000) : hw_mf (m + 1) (if m = 0 then nI q else fi) := by
  right
  refine ⟨Nat.succ_pos m, ?_⟩
  rcases h with ⟨h1, h2⟩ | ⟨h1, q', hq', h2⟩
  · exact ⟨q, hq, if_pos h1⟩
  · exact ⟨q', hq', by rw [if_neg (by omega)]; exact h2⟩
theorem hw_100 (h p : Nat) : ((100 : Int32) * nI h) + nI p = nI (100 * h + p) := by
  rw [show (100 : Int32) * nI h = nI (100 * h) from nI_mul 100 h, nI_add]
theorem sp_form_le (w : Nat → Int32) (l p t : Nat) : sp_form w l p t ≤ 4 := by
  unfold sp_form sp_fm
  split
  · decide
  · split
    · decide
    · split
      · decide
      · split
        · decide
        · decide
theorem x_read_in {σ σ1 : hw_S} {l a st sa h f t k : Nat} {q : Int32} (hF : hw_F σ) (hl8 : l < 8) (hl : hw_lw σ (some a) l (σ.2.2.1 42)) (hs5 : st < 5) (hsf : hw_sf σ (some sa) (σ.2.2.1 42 (130 + st)) (σ.2.2.1 42 (135 + st))) (h1 : 1 ≤ h) (h2 : h ≤ 60) (h4 : f ≤ 20) (ht : t ≤ 999) (hk : k ≤ 4) (s2 : hw_d hw_scr σ σ1) (s3 : ∀ p, p < 100 → σ1.2.2.1 30 p = nI (sp_to (σ.2.2.1 42) l st h f p)) :
    ∀ d p fuel fuel2 m fi la, p + d = 100 → d < fuel → d < fuel2 → hw_mf m fi → m + d ≤ 10000 → ∃ m' fi' la', hw_mf m' fi' ∧ m' ≤ m + d ∧ (∀ k80, m11_read_b104 k80 fuel 0 (nI f) (nI t) (nI k) q (some a) (some sa) (nI m) fi la (nI h) (nI p) σ1 = k80 0 (nI f) (nI t) (nI k) q (some a) (some sa) (nI m') fi' la' (nI (h + 1)) σ1) ∧ ∀ k74 τ, hw_d hw_scr σ τ → ∃ υ, hw_d hw_scr σ υ ∧ m12_read_b84 k74 fuel2 41 (nI l) (nI st) (nI f) (nI t) (nI k) q (nI m) fi la (nI h) (nI p) τ = k74 41 (nI l) (nI st) (nI f) (nI t) (nI k) q (nI m') fi' la' (nI (h + 1)) υ := by
  have hml := hl.ml hl8
  have hms := hsf.ms hs5
  have F1 := s2.F hF
  intro d
  induction d with
  | zero =>
    intro p fuel fuel2 m fi la e hf1 hf2 hm hmb
    obtain ⟨fuel, rfl⟩ : ∃ k, fuel = k + 1 := ⟨fuel - 1, by omega⟩
    obtain ⟨fuel2, rfl⟩ : ∃ k, fuel2 = k + 1 := ⟨fuel2 - 1, by omega⟩
    have hp : (100 : Int32) ≤ nI p := hw_100l (by omega) (by omega)
    refine ⟨m, fi, la, hm, by omega, fun k80 => ?_, fun k74 τ hd => ⟨τ, hd, ?_⟩⟩
    · rw [m11_read_b104, if_pos hp, nI_1]
    · rw [m12_read_b84, if_pos hp, nI_1]
  | succ d ih =>
    intro p fuel fuel2 m fi la e hf1 hf2 hm hmb
    obtain ⟨fuel, rfl⟩ : ∃ k, fuel = k + 1 := ⟨fuel - 1, by omega⟩
    obtain ⟨fuel2, rfl⟩ : ∃ k, fuel2 = k + 1 := ⟨fuel2 - 1, by omega⟩
    have hp : p < 100 := by omega
    have np : ¬ (100 : Int32) ≤ nI p := nI_ge hp (by decide)
    have t1 := sp_to_le hml st h f p
    have rt : ∀ τ, hw_d hw_scr σ τ → ∃ υ, hw_d hw_scr σ υ ∧ hw_F υ ∧ m12_turnsOf 41 (nI l) (nI st) (nI h) (nI f) (nI p) τ = some (nI (sp_to (σ.2.2.1 42) l st h f p), υ) ∧ m12_formBy 41 (nI l) (nI p) (nI (sp_to (σ.2.2.1 42) l st h f p)) υ = some (nI (sp_form (σ.2.2.1 42) l p (sp_to (σ.2.2.1 42) l st h f p))) := by
      intro τ hd
      have e42 : τ.2.2.1 42 = σ.2.2.1 42 := hd.I (by omega)
      obtain ⟨υ, g1, g2⟩ := r_turnsOf (σ := τ) (l := l) (st := st) (h := h) (f := f) (p := p) (hd.F hF) (by rw [e42]; exact hml) (by rw [e42]; exact hms) h1 h2 h4
      rw [e42] at g1
      have hd2 := hd.tr (g2.mono hw_scr_45)
      have e42υ : υ.2.2.1 42 = σ.2.2.1 42 := hd2.I (by omega)
      have e := r_formBy_e (p := p) (hd2.F hF) hl8 hp t1.1 t1.2
      rw [e42υ] at e
      exact ⟨υ, hd2, hd2.F hF, g1, e⟩
    by_cases hc : sp_to (σ.2.2.1 42) l st h f p = t ∧ sp_form (σ.2.2.1 42) l p t = k
    · obtain ⟨hc1, hc2⟩ := hc
      obtain ⟨m', fi', la', g1, g2, g3, g4⟩ := ih (p + 1) fuel fuel2 (m + 1) (if m = 0 then nI (100 * h + p) else fi) (nI (100 * h + p)) (by omega) (by omega) (by omega) (hw_mf_s hm (by omega)) (by omega)
      refine ⟨m', fi', la', g1, by omega, fun k80 => ?_, fun k74 τ hd => ?_⟩
      · rw [m11_read_b104, if_neg np]
        simp only [hw_P_0_10 F1, hw_A_30 F1 hp, Option.bind_some, s3 p hp, hc1, if_true, hw_rv_at ((s2.lw hl).q hl8).1, c3_formAt_e (s2.lw hl) hl8 hp ht, hc2]
        unfold m11_read_b163 m11_read_b165
        rw [← g3 k80]
        simp only [hw_100, hw_m1e (show m < 2 ^ 30 by omega), nI_1]
        by_cases h0 : m = 0
        · simp only [if_pos h0]
        · simp only [if_neg h0]
      · obtain ⟨υ, u1, u2, u3, u4⟩ := rt τ hd
        obtain ⟨ω, k1, k2⟩ := g4 k74 υ u1
        refine ⟨ω, k1, ?_⟩
        rw [hc1] at u3 u4
        rw [hc2] at u4
        rw [m12_read_b84, if_neg np]
        simp only [hw_V_41 (hd.F hF), hw_V_41 u2, Option.bind_some, u3, hw_b2s, u4, if_true]
        unfold m12_read_b130 m12_read_b144 m12_read_b170 m12_read_b172 m12_read_b192
        rw [← k2]
        simp only [hw_if10, hw_100, hw_mf_f hm, nI_1]
        by_cases h0 : m = 0
        · simp only [if_pos h0]
        · simp only [if_neg h0]
    · obtain ⟨m', fi', la', g1, g2, g3, g4⟩ := ih (p + 1) fuel fuel2 m fi la (by omega) (by omega) (by omega) hm (by omega)
      have m0 : nI m + 0 = nI m := Int32.add_zero _
      refine ⟨m', fi', la', g1, by omega, fun k80 => ?_, fun k74 τ hd => ?_⟩
      · rw [m11_read_b104, if_neg np]
        simp only [hw_P_0_10 F1, hw_A_30 F1 hp, Option.bind_some, s3 p hp]
        unfold m11_read_b165
        rw [← g3 k80]
        by_cases hc1 : sp_to (σ.2.2.1 42) l st h f p = t
        · have hc2 : ¬ nI (sp_form (σ.2.2.1 42) l p t) = nI k := fun c => hc ⟨hc1, (nI_eq (by have := sp_form_le (σ.2.2.1 42) l p t; omega) (by omega)).mp c⟩
          rw [if_pos (show nI (sp_to (σ.2.2.1 42) l st h f p) = nI t by rw [hc1]), hw_rv_at ((s2.lw hl).q hl8).1, Option.bind_some, c3_formAt_e (s2.lw hl) hl8 hp ht, Option.bind_some, if_neg hc2, nI_1]
        · rw [if_neg (fun c => hc1 ((nI_eq (by omega) (by omega)).mp c)), nI_1]
      · obtain ⟨υ, u1, u2, u3, u4⟩ := rt τ hd
        obtain ⟨ω, k1, k2⟩ := g4 k74 υ u1
        refine ⟨ω, k1, ?_⟩
        rw [m12_read_b84, if_neg np]
        simp only [hw_V_41 (hd.F hF), hw_V_41 u2, Option.bind_some, u3, hw_b2s]
        unfold m12_read_b129 m12_read_b130 m12_read_b144 m12_read_b170 m12_read_b172 m12_read_b192
        rw [← k2]
        by_cases hc1 : sp_to (σ.2.2.1 42) l st h f p = t
        · have hc2 : ¬ nI (sp_form (σ.2.2.1 42) l p t) = nI k := fun c => hc ⟨hc1, (nI_eq (by have := sp_form_le (σ.2.2.1 42) l p t; omega) (by omega)).mp c⟩
          rw [hc1] at u4
          rw [hc1, if_pos rfl, u4, Option.bind_some, if_neg hc2]
          simp only [if_true, m0, nI_1]
        · rw [if_neg (fun c => hc1 ((nI_eq (by omega) (by omega)).mp c))]
          simp only [if_true, m0, nI_1]
theorem x_read {σ : hw_S} {l a st sa f t k : Nat} {q : Int32} (hF : hw_F σ) (hl8 : l < 8) (hl : hw_lw σ (some a) l (σ.2.2.1 42)) (hs5 : st < 5) (hsf : hw_sf σ (some sa) (σ.2.2.1 42 (130 + st)) (σ.2.2.1 42 (135 + st))) (h4 : f ≤ 20) (ht : t ≤ 999) (hk : k ≤ 4) :
    ∀ d h fuel fuel2 m fi la σ1, h + d = 61 → 1 ≤ h → d < fuel → d < fuel2 → hw_mf m fi → m + 100 * d ≤ 10000 → hw_d hw_scr σ σ1 → ∃ r σ2, m11_read_b80 fuel 0 (nI f) (nI t) (nI k) q (some a) (some sa) (nI m) fi la (nI h) σ1 = some (r, σ2) ∧ hw_d hw_scr σ σ2 ∧ ∀ τ, hw_d hw_scr σ τ → ∃ υ, m12_read_b74 fuel2 41 (nI l) (nI st) (nI f) (nI t) (nI k) q (nI m) fi la (nI h) τ = some (r, υ) ∧ hw_d hw_scr σ υ := by
  intro d
  induction d with
  | zero =>
    intro h fuel fuel2 m fi la σ1 e h1 hf1 hf2 hm hmb hd1
    obtain ⟨fuel, rfl⟩ : ∃ k, fuel = k + 1 := ⟨fuel - 1, by omega⟩
    obtain ⟨fuel2, rfl⟩ : ∃ k, fuel2 = k + 1 := ⟨fuel2 - 1, by omega⟩
    have hh : (60 : Int32) < nI h := hw_60l (by omega) (by omega)
    refine ⟨if q = 0 then nI m else if q = 1 then fi else la, σ1, ?_, hd1, fun τ hd => ⟨τ, ?_, hd⟩⟩
    · rw [m11_read_b80, if_pos hh]
      unfold m11_pick m11_pick_b16
      by_cases q0 : q = 0
      · rw [if_pos q0, if_pos q0]; rfl
      · rw [if_neg q0, if_neg q0]
        by_cases q1 : q = 1
        · rw [if_pos q1, if_pos q1]; rfl
        · rw [if_neg q1, if_neg q1]; rfl
    · rw [m12_read_b74, if_pos hh]
      unfold m12_read_b229
      by_cases q0 : q = 0
      · rw [if_pos q0, if_pos q0]
      · rw [if_neg q0, if_neg q0]
        by_cases q1 : q = 1
        · rw [if_pos q1, if_pos q1]
        · rw [if_neg q1, if_neg q1]
  | succ d ih =>
    intro h fuel fuel2 m fi la σ1 e h1 hf1 hf2 hm hmb hd1
    obtain ⟨fuel, rfl⟩ : ∃ k, fuel = k + 1 := ⟨fuel - 1, by omega⟩
    obtain ⟨fuel2, rfl⟩ : ∃ k, fuel2 = k + 1 := ⟨fuel2 - 1, by omega⟩
    have hh : h ≤ 60 := by omega
    have ng : ¬ (60 : Int32) < nI h := hw_60n hh
    obtain ⟨σ2, s1, s2, s3⟩ := c_paces (p0 := 0) (h := h) (f := f) (hd1.F hF) hl8 (hd1.lw hl) hs5 (hd1.sf hsf) hh h4 (by decide)
    have hd2 := hd1.tr s2
    obtain ⟨m', fi', la', g1, g2, g3, g4⟩ := x_read_in (t := t) (k := k) (q := q) hF hl8 hl hs5 hsf h1 hh h4 ht hk hd2 s3 100 0 hw_fu hw_fu m fi la (by decide) (by decide) (by decide) hm (by omega)
    obtain ⟨r, σ3, r1, r2, r3⟩ := ih (h + 1) fuel fuel2 m' fi' la' σ2 (by omega) (by omega) (by omega) (by omega) g1 (by omega) hd2
    refine ⟨r, σ3, ?_, r2, fun τ hd => ?_⟩
    · rw [m11_read_b80, if_neg ng, e11_doingOf, Option.bind_some, hw_V_0 (hd1.F hF), Option.bind_some, s1, Option.bind_some]
      rw [← r1]
      exact g3 _
    · obtain ⟨υ, u1, u2⟩ := g4 (m12_read_b74 fuel2) τ hd
      obtain ⟨ω, w1, w2⟩ := r3 υ u1
      refine ⟨ω, ?_, w2⟩
      rw [m12_read_b74, if_neg ng, ← w1]
      exact u2
theorem j_read {σ : hw_S} (hJ : hw_Jv σ) (x y fl tn fm q : Int32) : ∃ r σ1 τ, m11_read 0 x y fl tn fm q σ = some (r, σ1) ∧ m12_read 41 x y fl tn fm q σ1 = some (r, τ) ∧ hw_Jv τ ∧ hw_F σ1 := by
  obtain ⟨hF, p1, p2, ⟨c0, c1, c2, c3, c4, c5, hr⟩, him, htr⟩ := id hJ
  unfold m11_read m11_read_b34 m11_read_b63
  rcases x_law hF hr x with ⟨l, a, hlc, hl8, rfl, el, ml, hlw⟩ | ⟨-, el, ml⟩
  · rcases x_stuff hF hr y with ⟨st, sa, hsc, hs5, rfl, es, ms, hsf⟩ | ⟨-, es, ms⟩
    · simp only [hw_V_0 hF, Option.bind_some, el, es, hw_ifs, hw_if10, hw_itb, e11_isWithin, e11_isForm, e11_isFlow]
      have ref : ∀ τ, hw_d hw_scr σ τ → m12_read 41 (nI l) (nI st) fl tn fm q τ = if (0 : Int32) ≤ q ∧ q ≤ 2 then (if nI 1 ≤ fl ∧ fl ≤ nI 20 then (if (0 : Int32) ≤ tn ∧ tn ≤ 999 then (if nI 0 ≤ fm ∧ fm ≤ nI 4 then m12_read_b74 hw_fu 41 (nI l) (nI st) fl tn fm q 0 (-5) (-5) 1 τ else some ((-2), τ)) else some ((-2), τ)) else some ((-2), τ)) else some ((-1), τ) := by
        intro τ hd
        unfold m12_read m12_read_b26 m12_read_b57
        simp only [hw_V_41 (hd.F hF), Option.bind_some, ml τ hd, ms τ hd, hw_if10, hw_itb, e12_in, e12_isFlow]
        rfl
      by_cases hq : (0 : Int32) ≤ q ∧ q ≤ 2
      · by_cases hf : nI 1 ≤ fl ∧ fl ≤ nI 20
        · by_cases ht : (0 : Int32) ≤ tn ∧ tn ≤ 999
          · by_cases hk : nI 0 ≤ fm ∧ fm ≤ nI 4
            · obtain ⟨f, f1, f2, rfl⟩ := hw_fl hf
              obtain ⟨t, t1, t2, rfl⟩ := hw_win (lo := 0) (hi := 999) (by decide) (by decide) ht
              obtain ⟨k, k1, k2, rfl⟩ := hw_win (lo := 0) (hi := 4) (by decide) (by decide) hk
              obtain ⟨r, σ1, r1, r2, r3⟩ := x_read (q := q) hF hl8 hlw hs5 hsf f2 t2 k2 60 1 hw_fu hw_fu 0 (-5) (-5) σ (by decide) (by decide) (by decide) (by decide) (Or.inl ⟨rfl, rfl⟩) (by decide) hw_d.rf
              obtain ⟨υ, u1, u2⟩ := r3 σ1 r2
              simp only [if_pos hq, if_pos hf, if_pos ht, if_pos hk]
              refine ⟨r, σ1, υ, r1, ?_, u2.Jv hJ, r2.F hF⟩
              rw [ref σ1 r2]
              simp only [if_pos hq, if_pos hf, if_pos ht, if_pos hk]
              exact u1
            · simp only [if_pos hq, if_pos hf, if_pos ht, if_neg hk]
              refine ⟨_, σ, σ, rfl, ?_, hJ, hF⟩
              rw [ref σ hw_d.rf]
              simp only [if_pos hq, if_pos hf, if_pos ht, if_neg hk]
          · simp only [if_pos hq, if_pos hf, if_neg ht]
            refine ⟨_, σ, σ, rfl, ?_, hJ, hF⟩
            rw [ref σ hw_d.rf]
            simp only [if_pos hq, if_pos hf, if_neg ht]
        · simp only [if_pos hq, if_neg hf]
          refine ⟨_, σ, σ, rfl, ?_, hJ, hF⟩
          rw [ref σ hw_d.rf]
          simp only [if_pos hq, if_neg hf]
      · simp only [if_neg hq]
        refine ⟨_, σ, σ, rfl, ?_, hJ, hF⟩
        rw [ref σ hw_d.rf]
        simp only [if_neg hq]
    · unfold m12_read m12_read_b26
      simp only [hw_V_0 hF, Option.bind_some, el, es, hw_ifs, hw_ifn]
      refine ⟨_, σ, σ, rfl, ?_, hJ, hF⟩
      simp only [hw_V_41 hF, Option.bind_some, ml σ hw_d.rf, ms σ hw_d.rf, hw_if10, if_true]
  · obtain ⟨es, hes⟩ : ∃ v, m11_stuffAt 0 y σ = some v := by
      rcases x_stuff hF hr y with ⟨st, sa, -, -, -, es, -⟩ | ⟨-, es, -⟩
      · exact ⟨_, es⟩
      · exact ⟨_, es⟩
    unfold m12_read m12_read_b26
    simp only [hw_V_0 hF, Option.bind_some, el, hes, hw_ifn]
    refine ⟨_, σ, σ, rfl, ?_, hJ, hF⟩
    simp only [hw_V_41 hF, Option.bind_some, ml σ hw_d.rf, if_true]
