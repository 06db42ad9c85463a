/-! the pure layer: the tape, read by class and by model: all clauses -/
def RLw (T : Nat → Int32) (n l : Nat) (σ0 τ0 : hw_S) (cr : Option (Int32 × hw_S)) (mr : Option (Int32 × hw_S)) : Prop := (∃ fm hv cv σ' τ' k, cr = some (1, σ') ∧ mr = some (nI l, hw_wI 42 1 (nI (l + 1)) τ') ∧ LV T n l σ0 τ0 fm hv cv σ' τ' n k 0 0 ∧ Gd fm hv cv) ∨ (∃ σ' τ' q, cr = some (0, σ') ∧ mr = some ((-10 : Int32) - nI q, τ') ∧ hw_d hw_ard σ0 σ' ∧ hw_F σ' ∧ σ'.2.2.1 19 2 = nI q ∧ hw_d (hw_arf l) τ0 τ' ∧ hw_F τ')
section LAWLOOP
variable {T : Nat → Int32} {n l : Nat} {σ0 τ0 : hw_S} {fm : Nat → Int32} {hv cv : Int32} {σ τ : hw_S} {p k o h : Nat} {C S : Nat → Int32}
theorem LV.c1 (hx : LV T n l σ0 τ0 fm hv cv σ τ p k o h) : σ.2.2.1 19 1 = nI n := by obtain ⟨C, S, hc, hr, hi, ht, hp, hk⟩ := hx; exact hc.2.2.2.1
theorem LV.r6 (hx : LV T n l σ0 τ0 fm hv cv σ τ p k o h) : τ.2.2.1 41 6 = nI n := by obtain ⟨C, S, hc, hr, hi, ht, hp, hk⟩ := hx; exact hr.2.2.2.2.1
theorem LV.dc (hx : LV T n l σ0 τ0 fm hv cv σ τ p k o h) : hw_d hw_ard σ0 σ := by obtain ⟨C, S, hc, hr, hi, ht, hp, hk⟩ := hx; exact hc.1
theorem LV.dr (hx : LV T n l σ0 τ0 fm hv cv σ τ p k o h) : hw_d (hw_arf l) τ0 τ := by obtain ⟨C, S, hc, hr, hi, ht, hp, hk⟩ := hx; exact hr.1
theorem d_193 (hx : dS l τ0 τ p) (fr : Nat) (j : Int32) : m12_law_b193 (fr + 1) 41 j τ = some ((-10 : Int32) - nI p, τ) := by
  rw [m12_law_b193, hw_G_41 hx.2.1, Option.bind_some, hx.2.2.1, hw_if10]
  unfold m12_law_b235 m12_law_b253
  rw [hw_G_41 hx.2.1, Option.bind_some, hx.2.2.1, hw_if10, hw_G_41 hx.2.1, Option.bind_some, hx.2.2.2]
theorem lv_235 (hn : n ≤ 120) (hx : LV T n l σ0 τ0 fm hv cv σ τ p k o h) (hpn : ¬ p = n) : m12_law_b235 41 τ = some ((-10 : Int32) - nI p, τ) := by
  have hp := hx.pn
  unfold m12_law_b235 m12_law_b253
  rw [hw_G_41 hx.rF, Option.bind_some, hx.r7, hw_if00, hw_G_41 hx.rF, Option.bind_some, hx.r5, hw_G_41 hx.rF, Option.bind_some, hx.r6, if_neg (fun c => hpn ((nI_eq (by omega) (by omega)).mp c)), Option.bind_some]
theorem lv_235y (hl : l < 8) (ht0 : τ0.2.2.1 42 1 = nI l) (hx : LV T n l σ0 τ0 fm hv cv σ τ n k o h) : m12_law_b235 41 τ = some (nI l, hw_wI 42 1 (nI (l + 1)) τ) := by
  have h1 : τ.2.2.1 42 1 = nI l := (hx.dr.2.2.2 42 1 (by unfold hw_arf hw_il; omega)).trans ht0
  have F1 : hw_F (hw_wI 42 1 (nI (l + 1)) τ) := hx.rF
  have i1 : hw_aI 0 (some 42) (1 : Int32) τ = some (τ.2.2.1 42 1) := hw_A_42 (n := 1) hx.rF (by decide)
  have i2 : hw_sI (some 42) (1 : Int32) (nI (l + 1)) τ = some (hw_wI 42 1 (nI (l + 1)) τ) := hw_B_42 (n := 1) hx.rF (by decide)
  unfold m12_law_b235
  rw [hw_G_41 hx.rF, Option.bind_some, hx.r7, hw_if00, hw_G_41 hx.rF, Option.bind_some, hx.r5, hw_G_41 hx.rF, Option.bind_some, hx.r6, if_pos rfl, hw_P_41_1 hx.rF, Option.bind_some, i1, Option.bind_some, h1, nI_1, i2, Option.bind_some, hw_G_41 F1, Option.bind_some, hw_wI_n (by omega), hx.r4]
theorem x_step (hn : n ≤ 120) (hl : l < 8) (ht0 : τ0.2.2.1 42 1 = nI l) {j fc fr : Nat} (j10 : j ≤ 10) (hnext : j < 10 → ∀ fm hv cv σ τ p k, Gd fm hv cv → LV T n l σ0 τ0 fm hv cv σ τ p k 0 0 → RLw T n l σ0 τ0 (m4_isLaw_b62 fc 19 (nI (j + 1)) σ) ((m12_clauseHere 41 τ).bind fun s => m12_law_b193 fr 41 (nI (j + 1)) s)) (hg : Gd fm hv cv) (hx : LV T n l σ0 τ0 fm hv cv σ τ p k 0 0) : RLw T n l σ0 τ0 (m4_isLaw_b62 (fc + 1) 19 (nI j) σ) ((m12_clauseHere 41 τ).bind fun s => m12_law_b193 (fr + 1) 41 (nI j) s) := by
  have E0 : m4_isLaw_b62 (fc + 1) 19 (nI j) σ = hw_b2 (m4_isClause 19 σ) fun v69 σ69 => (if v69 = 0 then some ((0 : Int32), σ69) else (hw_gI (hw_q 4) 2 (some 19) σ69).bind fun v78 => (hw_gI (hw_q 4) 1 (some 19) σ69).bind fun v82 => (if v78 = v82 then some ((1 : Int32), σ69) else (if nI j = (10 : Int32) then some ((0 : Int32), σ69) else (hw_rv (hw_q 4) (some 19) σ69).bind fun a99 => hw_b2 (m4_comes 19 (59 : Int32) σ69) fun v99 σ99 => (if v99 = 0 then some ((0 : Int32), σ99) else m4_isLaw_b62 fc 19 (nI (j + 1)) σ99)))) := by
    rw [m4_isLaw_b62, if_neg (show ¬ (10 : Int32) < nI j from nI_nlt (a := 10) (b := j) (by omega) (by omega)), hw_V_19 hx.cF, Option.bind_some, nI_1]
    unfold m4_isLaw_b105
    simp only [hw_tf_0, hw_tf_1, Option.bind_some]
  rw [E0]
  rcases x_cls hn hl hg hx with ⟨fm', hv', cv', σ1, τ1, p1, k1, a1, a2, x1, g1⟩ | ⟨σ1, τ1, q, a1, a2, a3⟩
  · have hp1 := x1.pn
    have E1 : m12_law_b193 (fr + 1) 41 (nI j) τ1 = (if (10 : Int32) ≤ nI j then m12_law_b235 41 τ1 else (if hd T n p1 = (59 : Int32) then (m12_clauseHere 41 (hw_wI 41 5 (nI (p1 + 1)) τ1)).bind fun s => m12_law_b193 fr 41 (nI (j + 1)) s else m12_law_b235 41 τ1)) := by
      have F1 : hw_F (hw_wI 41 5 (nI (p1 + 1)) τ1) := x1.rF
      rw [m12_law_b193, hw_G_41 x1.rF, Option.bind_some, x1.r7, hw_if00, hw_V_41 x1.rF, Option.bind_some, lv_hr x1 hn, Option.bind_some, hw_G_41 x1.rF, Option.bind_some, x1.r5, nI_1, hw_W_41 x1.rF, Option.bind_some, hw_V_41 F1, Option.bind_some, nI_1]
    rw [a1, a2, hw_b2s, Option.bind_some, hw_if10, hw_G_19 x1.cF, Option.bind_some, x1.c2, hw_G_19 x1.cF, Option.bind_some, x1.c1, E1]
    by_cases hpn : p1 = n
    · left
      rw [hpn] at x1 ⊢
      refine ⟨fm', hv', cv', σ1, τ1, k1, by rw [if_pos rfl], ?_, x1, g1⟩
      have n59 : ¬ hd T n n = 59 := fun c => by
        have := hd_lt (c := 59) (by decide) c
        omega
      rw [if_neg n59, ite_self, lv_235y hl ht0 x1]
    · rw [if_neg (fun c => hpn ((nI_eq (by omega) (by omega)).mp c))]
      by_cases h10 : j = 10
      · right
        subst h10
        refine ⟨σ1, τ1, p1, by rw [if_pos (show nI 10 = (10 : Int32) from rfl)], ?_, x1.dc, x1.cF, x1.c2, x1.dr, x1.rF⟩
        rw [if_pos (show (10 : Int32) ≤ nI 10 by decide), lv_235 hn x1 hpn]
      · rw [if_neg (show ¬ nI j = (10 : Int32) from fun c => h10 ((nI_eq (b := 10) (by omega) (by omega)).mp c)), if_neg (show ¬ (10 : Int32) ≤ nI j from nI_ge (b := 10) (by omega) (by omega)), hw_V_19 x1.cF, Option.bind_some, lv_com x1 hn]
        by_cases h59 : hd T n p1 = 59
        · rw [if_pos h59, hw_b2s, hw_if10, if_pos h59]
          exact hnext (by omega) fm' hv' cv' _ _ _ _ g1 (lv_pl x1 (by omega))
        · right
          refine ⟨σ1, τ1, p1, ?_, ?_, x1.dc, x1.cF, x1.c2, x1.dr, x1.rF⟩
          · rw [if_neg h59, hw_b2s, hw_if00]
          · rw [if_neg h59, lv_235 hn x1 hpn]
  · right
    refine ⟨σ1, τ1, q, ?_, ?_, a3.1, a3.2.1, a3.2.2.1, a3.2.2.2.1, a3.2.2.2.2.1⟩
    · rw [a1, hw_b2s, if_pos rfl]
    · rw [a2, Option.bind_some, d_193 a3.2.2.2]
theorem x_loop (hn : n ≤ 120) (hl : l < 8) (ht0 : τ0.2.2.1 42 1 = nI l) : ∀ d j fc fr fm hv cv σ τ p k, j + d = 10 → d < fc → d < fr → Gd fm hv cv → LV T n l σ0 τ0 fm hv cv σ τ p k 0 0 → RLw T n l σ0 τ0 (m4_isLaw_b62 fc 19 (nI j) σ) ((m12_clauseHere 41 τ).bind fun s => m12_law_b193 fr 41 (nI j) s) := by
  intro d
  induction d with
  | zero =>
    intro j fc fr fm hv cv σ τ p k e h1 h2 hg hx
    obtain ⟨fc, rfl⟩ : ∃ k, fc = k + 1 := ⟨fc - 1, by omega⟩
    obtain ⟨fr, rfl⟩ : ∃ k, fr = k + 1 := ⟨fr - 1, by omega⟩
    exact x_step hn hl ht0 (by omega) (fun c => by omega) hg hx
  | succ d ih =>
    intro j fc fr fm hv cv σ τ p k e h1 h2 hg hx
    obtain ⟨fc, rfl⟩ : ∃ k, fc = k + 1 := ⟨fc - 1, by omega⟩
    obtain ⟨fr, rfl⟩ : ∃ k, fr = k + 1 := ⟨fr - 1, by omega⟩
    exact x_step hn hl ht0 (by omega) (fun _ fm hv cv σ τ p k g x => ih (j + 1) fc fr fm hv cv σ τ p k (by omega) (by omega) (by omega) g x) hg hx
end LAWLOOP
