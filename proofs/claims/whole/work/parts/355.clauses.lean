/-! the pure layer: the tape, read by class and by model: the other clauses -/
section CLS
variable {T : Nat → Int32} {n l : Nat} {σ0 τ0 : hw_S} {fm : Nat → Int32} {hv cv : Int32} {σ τ : hw_S} {p k o h : Nat} {C S : Nat → Int32}
theorem lv_hv (hn : n ≤ 120) (hl : l < 8) (hx : LV T n l σ0 τ0 fm hv cv σ τ p k o h) (v : Int32) : LV T n l σ0 τ0 fm v cv (hw_wI 19 6 v σ) (hw_wI 42 (156 + l) v τ) p k o h := by
  obtain ⟨C, S, hc, hr, hi, ht, hp, hk⟩ := hx
  exact ⟨C, S, c_hv hc v, r_hv hr hn hl (by omega) v, hi, ht, hp, hk⟩
theorem lv_cv (hn : n ≤ 120) (hl : l < 8) (hx : LV T n l σ0 τ0 fm hv cv σ τ p k o h) (v : Int32) : LV T n l σ0 τ0 fm hv v (hw_wI 19 7 v σ) (hw_wI 42 (164 + l) v τ) p k o h := by
  obtain ⟨C, S, hc, hr, hi, ht, hp, hk⟩ := hx
  exact ⟨C, S, c_cv hc v, r_cv hr hn hl (by omega) v, hi, ht, hp, hk⟩
theorem lv_fm (hn : n ≤ 120) (hl : l < 8) (hx : LV T n l σ0 τ0 fm hv cv σ τ p k o h) {i : Nat} (hi : i < 4) (v : Int32) : LV T n l σ0 τ0 (fun j => if j = i then v else fm j) hv cv (hw_wI 22 i v σ) (hw_wI 42 (172 + 4 * l + i) v τ) p k o h := by
  obtain ⟨C, S, hc, hr, hi0, ht, hp, hk⟩ := hx
  exact ⟨C, S, c_fm hc i v, r_fm hr hn hl (by omega) hi v, hi0, ht, hp, hk⟩
theorem LV.r4 (hx : LV T n l σ0 τ0 fm hv cv σ τ p k o h) : τ.2.2.1 41 4 = nI l := by obtain ⟨C, S, hc, hr, hi, ht, hp, hk⟩ := hx; exact hr.2.2.1
theorem d_tl (hx : dS l τ0 τ p) (b v : Int32) : ((hw_gI (hw_q 12) 7 (some 41) τ).bind fun v11 => (if v11 = 0 then (hw_gP (hw_q 12) 1 (some 41) τ).bind fun v18 => (hw_gI (hw_q 12) 4 (some 41) τ).bind fun v23 => (hw_sI v18 (b + v23) v τ).bind fun σ28 => m12_tellsHere_b29 41 σ28 else m12_tellsHere_b29 41 τ)) = some τ := by
  rw [hw_G_41 hx.2.1, Option.bind_some, hx.2.2.1, hw_if10]
  rfl
theorem x_tel (hn : n ≤ 120) (hl : l < 8) (hg : Gd fm hv cv) {L B : Int32} {fld w bN : Nat} (hw : w < 5) (hB : B = nI bN) (hbN : bN + 8 ≤ 204) (hc51 : ∀ v σ, (0 : Int32) ≤ v → m4_isClause_b51 19 L 0 v σ = (hw_pI (hw_q 4) fld (some 19) v σ).bind fun σ117 => (hw_tf (1 : Int32)).bind fun _ => some ((1 : Int32), σ117)) (hpw : ∀ v σ, hw_F σ → hw_pI (hw_q 4) fld (some 19) v σ = some (hw_wI 19 fld v σ)) (hlv : ∀ σ τ p (v : Nat), v < 100 → LV T n l σ0 τ0 fm hv cv σ τ p k 0 0 → ∃ hv' cv', Gd fm hv' cv' ∧ LV T n l σ0 τ0 fm hv' cv' (hw_wI 19 fld (nI v) σ) (hw_wI 42 (bN + l) (nI v) τ) p k 0 0) (hx : LV T n l σ0 τ0 fm hv cv σ τ p k 0 0) : RQ T n l σ0 τ0 (hw_b2 (m4_comesWord 19 (some w) σ) fun v16 σ16 => (if v16 = 0 then m4_isClause_b22 19 σ16 else m4_isClause_b38 19 L (0 : Int32) σ16)) (m12_tellsHere 41 B (some w) τ) := by
  sorry
end CLS
