/-! the pure layer: the tape, read by class and by model: the other clauses -/
section CLS
variable {T : Nat → Int32} {n l : Nat} {σ0 τ0 : hw_S} {fm : Nat → Int32} {hv cv : Int32} {σ τ : hw_S} {p k o h : Nat} {C S : Nat → Int32}
theorem lv_hv (hn : n ≤ 120) (hl : l < 8) (hx : LV T n l σ0 τ0 fm hv cv σ τ p k o h) (v : Int32) : LV T n l σ0 τ0 fm v cv (hw_wI 19 6 v σ) (hw_wI 42 (156 + l) v τ) p k o h := by
  obtain ⟨C, S, hc, hr, hi, ht, hp, hk⟩ := hx
  exact ⟨C, S, c_hv hc v, r_hv hr hn hl (by omega) v, hi, ht, hp, hk⟩
theorem lv_cv (hn : n ≤ 120) (hl : l < 8) (hx : LV T n l σ0 τ0 fm hv cv σ τ p k o h) (v : Int32) : LV T n l σ0 τ0 fm hv v (hw_wI 19 7 v σ) (hw_wI 42 (164 + l) v τ) p k o h := by
  obtain ⟨C, S, hc, hr, hi, ht, hp, hk⟩ := hx
  exact ⟨C, S, c_cv hc v, r_cv hr hn hl (by omega) v, hi, ht, hp, hk⟩
theorem lv_fm (hn : n ≤ 120) (hl : l < 8) (hx : LV T n l σ0 τ0 fm hv cv σ τ p k o h) {i : Nat} (hi : i < 4) (v : Int32) : LV T n l σ0 τ0 (fun j => if j = i then v else fm j) hv cv (hw_wI 22 i v σ) (hw_wI 42 (172 + 4 * l + i) v τ) p k o h := by
  obtain ⟨C, S, hc, hr, hi0, ht, hp, hk⟩ := hx
  exact ⟨C, S, c_fm hc i v, r_fm hr hn hl (by omega) hi v, hi0, ht, hp, hk⟩
theorem LV.r4 (hx : LV T n l σ0 τ0 fm hv cv σ τ p k o h) : τ.2.2.1 41 4 = nI l := by obtain ⟨C, S, hc, hr, hi, ht, hp, hk⟩ := hx; exact hr.2.2.1
theorem d_tl (hx : dS l τ0 τ p) (b v : Int32) : ((hw_gI (hw_q 12) 7 (some 41) τ).bind fun v11 => (if v11 = 0 then (hw_gP (hw_q 12) 1 (some 41) τ).bind fun v18 => (hw_gI (hw_q 12) 4 (some 41) τ).bind fun v23 => (hw_sI v18 (b + v23) v τ).bind fun σ28 => m12_tellsHere_b29 41 σ28 else m12_tellsHere_b29 41 τ)) = some τ := by
  rw [hw_G_41 hx.2.1, Option.bind_some, hx.2.2.1, hw_if10]
  rfl
theorem x_tel (hn : n ≤ 120) (hl : l < 8) {L B : Int32} {fld w bN : Nat} (hw : w < 5) (hB : B = nI bN) (hbN : bN + 8 ≤ 204) (hc51 : ∀ v σ, (0 : Int32) ≤ v → m4_isClause_b51 19 L 0 v σ = (hw_pI (hw_q 4) fld (some 19) v σ).bind fun σ117 => (hw_tf (1 : Int32)).bind fun _ => some ((1 : Int32), σ117)) (hpw : ∀ v σ, hw_F σ → hw_pI (hw_q 4) fld (some 19) v σ = some (hw_wI 19 fld v σ)) (hlv : ∀ σ τ p k (v : Nat), v < 100 → LV T n l σ0 τ0 fm hv cv σ τ p k 0 0 → ∃ hv' cv', Gd fm hv' cv' ∧ LV T n l σ0 τ0 fm hv' cv' (hw_wI 19 fld (nI v) σ) (hw_wI 42 (bN + l) (nI v) τ) p k 0 0) (hx : LV T n l σ0 τ0 fm hv cv σ τ p k 0 0) : RQ T n l σ0 τ0 (hw_b2 (m4_comesWord 19 (some w) σ) fun v16 σ16 => (if v16 = 0 then m4_isClause_b22 19 σ16 else m4_isClause_b38 19 L (0 : Int32) σ16)) (m12_tellsHere 41 B (some w) τ) := by
  have z0 : (0 : Int32) ≤ 0 := by decide
  have m1 : ¬ (0 : Int32) ≤ -1 := by decide
  rcases x_word hn hw hx with ⟨σ1, τ1, p1, k1, a1, a2, a3, a4, a5⟩ | ⟨σ1, τ1, q, a1, a2, a3⟩
  · have E1 : (hw_b2 (m4_comesWord 19 (some w) σ) fun v16 σ16 => (if v16 = 0 then m4_isClause_b22 19 σ16 else m4_isClause_b38 19 L (0 : Int32) σ16)) = hw_b2 (m4_number 19 σ1) fun v48 σ48 => m4_isClause_b51 19 L 0 v48 σ48 := by
      rw [a1, hw_b2s, hw_if10]
      unfold m4_isClause_b38
      rw [if_pos z0, hw_V_19 a3.cF, Option.bind_some]
    rw [E1]
    unfold m12_tellsHere
    rw [hw_V_41 hx.rF, Option.bind_some, a2, Option.bind_some, hw_V_41 a3.rF, Option.bind_some]
    rcases lv_num hn a3 with ⟨v, q, σ2, τ2, v1, v2, v3, v4, x2⟩ | ⟨z, τ2, z1, z2, z3⟩
    · obtain ⟨hv', cv', g, x3⟩ := hlv σ2 τ2 q k1 v v1 x2
      refine Or.inl ⟨fm, hv', cv', _, _, q, k1, ?_, ?_, x3, g⟩
      · rw [v3, hw_b2s, hc51 _ _ (nI_pos0 (by omega)), hpw _ _ x2.cF, Option.bind_some, hw_tf_1, Option.bind_some]
      · rw [v4, hw_b2s, hw_G_41 x2.rF, Option.bind_some, x2.r7, hw_if00, hw_P_41_1 x2.rF, Option.bind_some, hw_G_41 x2.rF, Option.bind_some, x2.r4, hB, nI_add, hw_B_42 x2.rF (by omega), Option.bind_some]
        rfl
    · refine Or.inr ⟨σ1, τ2, p1, ?_, ?_, z3⟩
      · rw [z1, hw_b2s]
        unfold m4_isClause_b51
        rw [if_neg m1, hw_tf_0, Option.bind_some]
      · rw [z2, hw_b2s]
        exact d_tl z3.2.2.2 B z
  · obtain ⟨z, τ2, f1, f2⟩ := d_fig a3.2.2.2
    refine Or.inr ⟨σ1, τ2, q, ?_, ?_, a3.1, a3.2.1, a3.2.2.1, f2⟩
    · rw [a1, hw_b2s, if_pos rfl]
      unfold m4_isClause_b22
      rw [hw_tf_0, Option.bind_some]
    · unfold m12_tellsHere
      rw [hw_V_41 hx.rF, Option.bind_some, a2, Option.bind_some, hw_V_41 a3.2.2.2.2.1, Option.bind_some, f1, hw_b2s]
      exact d_tl f2 B z
end CLS
