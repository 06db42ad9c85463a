/-! the pure layer: the tape, read by class and by model: the clause of a form; any clause -/
section CLF
variable {T : Nat → Int32} {n l : Nat} {σ0 τ0 : hw_S} {fm : Nat → Int32} {hv cv : Int32} {σ τ : hw_S} {p k o h : Nat} {C S : Nat → Int32}
theorem d_b54 (hx : dS l τ0 τ p) (t : Int32) : ∃ τ', m12_formHere_b54 41 t τ = some τ' ∧ dS l τ0 τ' p := by
  have h5 := d_5 hx
  obtain ⟨τ1, b1, b2⟩ := d_mst h5 32
  obtain ⟨z, τ2, f1, f2⟩ := d_fig b2
  refine ⟨τ2, ?_, f2⟩
  unfold m12_formHere_b54 m12_formHere_b72 m12_formHere_b114
  rw [hw_G_41 hx.2.1, Option.bind_some, hx.2.2.2, hw_G_41 hx.2.1, Option.bind_some, hx.2.2.1, hw_if10, Int32.add_zero, hw_W_41 hx.2.1, Option.bind_some, hw_V_41 h5.2.1, Option.bind_some, b1, Option.bind_some, hw_V_41 b2.2.1, Option.bind_some, f1, hw_b2s, hw_G_41 f2.2.1, Option.bind_some, f2.2.2.1, hw_if10]
theorem d_b28 (hF : hw_F τ) (hx : dS l τ0 (hw_wI 41 7 1 τ) p) : ∃ τ', m12_formHere_b28 41 41 τ = some τ' ∧ dS l τ0 τ' p := by
  obtain ⟨τ', e, d⟩ := d_b54 hx 1
  refine ⟨τ', ?_, d⟩
  unfold m12_formHere_b28 m12_formHere_b33
  rw [hw_tf_1, Option.bind_some, hw_W_41 hF, Option.bind_some, hw_G_41 hx.2.1, Option.bind_some, hx.2.2.1, hw_if10, e]
theorem Gd.fq {i v : Nat} (hg : Gd fm hv cv) (hv' : v < 100) : Gd (fun j => if j = i then nI v else fm j) hv cv := by
  obtain ⟨g1, g2⟩ := hg
  refine ⟨fun j hj => ?_, g2⟩
  by_cases e : j = i
  · exact ⟨v, hv', if_pos e⟩
  · obtain ⟨q, q1, q2⟩ := g1 j hj
    exact ⟨q, q1, (if_neg e).trans q2⟩
theorem x_frm (hn : n ≤ 120) (hl : l < 8) (hg : Gd fm hv cv) (hx : LV T n l σ0 τ0 fm hv cv σ τ p k 0 0) : RQ T n l σ0 τ0 (hw_b2 (m4_comesWord 19 (some 2) σ) fun v16 σ16 => (if v16 = 0 then m4_isClause_b22 19 σ16 else (hw_rv (hw_q 4) (some 19) σ16).bind fun a31 => hw_b2 (m4_formTold 19 σ16) fun v31 σ31 => m4_isClause_b38 19 (102 : Int32) v31 σ31)) (m12_formHere 41 τ) := by
  have m1 : ¬ (0 : Int32) ≤ -1 := by decide
  have bad : ∀ σ, m4_isClause_b38 19 (102 : Int32) (-1) σ = some (0, σ) := fun σ => by
    unfold m4_isClause_b38 m4_isClause_b51
    rw [if_neg m1, if_neg m1, hw_tf_0, Option.bind_some]
  rcases x_word hn (w := 2) (by decide) hx with ⟨σ1, τ1, p1, k1, a1, a2, a3, a4, a5⟩ | ⟨σ1, τ1, q, a1, a2, a3⟩
  · have E1 : (hw_b2 (m4_comesWord 19 (some 2) σ) fun v16 σ16 => (if v16 = 0 then m4_isClause_b22 19 σ16 else (hw_rv (hw_q 4) (some 19) σ16).bind fun a31 => hw_b2 (m4_formTold 19 σ16) fun v31 σ31 => m4_isClause_b38 19 (102 : Int32) v31 σ31)) = hw_b2 (m4_formTold 19 σ1) fun v31 σ31 => m4_isClause_b38 19 (102 : Int32) v31 σ31 := by
      rw [a1, hw_b2s, hw_if10, hw_V_19 a3.cF, Option.bind_some]
    have w1 : m11_isWithin (hd T n p1 - (49 : Int32)) (0 : Int32) (3 : Int32) = some (hw_tb (nI 0 ≤ hd T n p1 - (49 : Int32) ∧ hd T n p1 - (49 : Int32) ≤ nI 3)) := e11_isWithin _ _ _
    have w2 : m12_in (hd T n p1) (49 : Int32) (52 : Int32) = some (hw_tb (nI 49 ≤ hd T n p1 ∧ hd T n p1 ≤ nI 52)) := e12_in _ _ _
    rw [E1]
    unfold m12_formHere m4_formTold
    rw [hw_V_41 hx.rF, Option.bind_some, a2, Option.bind_some, hw_G_41 a3.rF, Option.bind_some, a3.r7, hw_if00, hw_V_41 a3.rF, Option.bind_some, lv_hr a3 hn, Option.bind_some, hw_V_19 a3.cF, Option.bind_some, lv_ahd a3 hn, Option.bind_some, w1, w2, Option.bind_some, Option.bind_some, hw_itb, hw_itb]
    by_cases hc : nI 49 ≤ hd T n p1 ∧ hd T n p1 ≤ nI 52
    · obtain ⟨c, c1, c2, ec⟩ := hw_win (lo := 49) (hi := 52) (by decide) (by decide) hc
      obtain ⟨i, rfl⟩ : ∃ i, c = 49 + i := ⟨c - 49, by omega⟩
      have hp : p1 < n := hd_lt (c := 49 + i) (by omega) ec
      have s49 : hd T n p1 - (49 : Int32) = nI i := by
        rw [ec, show (49 : Int32) = nI 49 from rfl, nI_sub (by omega)]
        congr 1
        omega
      have s48 : hd T n p1 - (48 : Int32) = nI (i + 1) := by
        rw [ec, show (48 : Int32) = nI 48 from rfl, nI_sub (by omega)]
        congr 1
        omega
      have hc' : nI 0 ≤ hd T n p1 - (49 : Int32) ∧ hd T n p1 - (49 : Int32) ≤ nI 3 := by
        rw [s49]
        exact ⟨nI_pos0 (by omega), nI_le (by omega) (by omega)⟩
      have x0 := lv_w0 a3
      have x1 := lv_pl x0 hp
      have M : m12_formHere_b33 41 41 0 τ1 = (m12_must 41 (32 : Int32) (hw_wI 41 5 (nI (p1 + 1)) (hw_wI 41 7 0 τ1))).bind fun σ79 => (hw_rv (hw_q 12) (some 41) σ79).bind fun a83 => hw_b2 (m12_figures 41 σ79) fun v83 σ83 => (hw_gI (hw_q 12) 7 (some 41) σ83).bind fun v88 => (if v88 = 0 then (hw_gP (hw_q 12) 1 (some 41) σ83).bind fun v95 => (hw_gI (hw_q 12) 4 (some 41) σ83).bind fun v103 => (hw_sI v95 ((((172 : Int32) + ((4 : Int32) * v103)) + nI (i + 1)) - (1 : Int32)) v83 σ83).bind fun σ113 => some σ113 else some σ83) := by
        unfold m12_formHere_b33 m12_formHere_b54
        rw [hw_tf_0, Option.bind_some, hw_W_41 a3.rF, Option.bind_some, hw_G_41 x0.rF, Option.bind_some, x0.r7, hw_if00, hw_V_41 x0.rF, Option.bind_some, lv_hr x0 hn, Option.bind_some, s48, hw_G_41 x0.rF, Option.bind_some, x0.r5, Option.bind_some, hw_if00]
        unfold m12_formHere_b72 m12_formHere_b114
        rw [nI_1, hw_W_41 x0.rF, Option.bind_some, hw_V_41 x1.rF, Option.bind_some]
      rw [if_pos hc, if_pos hc', M, s49, hw_G_19 a3.cF, Option.bind_some, a3.c2, nI_1, hw_W_19 a3.cF, Option.bind_some, hw_V_19 x1.cF, Option.bind_some, lv_com x1 hn]
      obtain ⟨g1, g2⟩ := lv_mst x1 hn 32
      by_cases h32 : hd T n (p1 + 1) = 32
      · have hp2 : p1 + 1 < n := hd_lt (c := 32) (by decide) h32
        obtain ⟨τ2, b1, b2⟩ := g1 h32
        have x2 := b2 hp2
        unfold m4_formTold_b43
        rw [if_pos h32, hw_b2s, hw_if10, hw_b2s, b1, Option.bind_some, hw_V_41 x2.rF, Option.bind_some]
        unfold m4_isClause_b38
        rw [if_pos (nI_pos0 (by omega)), hw_V_19 x2.cF, Option.bind_some]
        rcases lv_num hn x2 with ⟨v, q, σ3, τ3, v1, v2, v3, v4, x3⟩ | ⟨z, τ3, z1, z2, z3⟩
        · have x4 := lv_fm hn hl x3 (i := i) (by omega) (nI v)
          refine Or.inl ⟨_, hv, cv, _, _, q, k1, ?_, ?_, x4, hg.fq v1⟩
          · rw [v3, hw_b2s]
            unfold m4_isClause_b51
            rw [if_pos (nI_pos0 (by omega)), if_neg (show ¬ (102 : Int32) = 99 by decide), if_pos rfl, hw_P_19_5 x3.cF, Option.bind_some, hw_B_22 x3.cF (by omega), Option.bind_some, hw_tf_1, Option.bind_some]
          · have ei : ((((172 : Int32) + ((4 : Int32) * nI l)) + nI (i + 1)) - (1 : Int32)) = nI (172 + 4 * l + i) := by
              rw [show (4 : Int32) * nI l = nI (4 * l) from nI_mul 4 l, show (172 : Int32) + nI (4 * l) = nI (172 + 4 * l) from nI_add 172 (4 * l), nI_add]
              exact nI_pred (172 + 4 * l + i)
            rw [v4, hw_b2s, hw_G_41 x3.rF, Option.bind_some, x3.r7, hw_if00, hw_P_41_1 x3.rF, Option.bind_some, hw_G_41 x3.rF, Option.bind_some, x3.r4, ei, hw_B_42 x3.rF (by omega), Option.bind_some]
        · refine Or.inr ⟨_, τ3, p1 + 1 + 1, ?_, ?_, z3⟩
          · rw [z1, hw_b2s]
            unfold m4_isClause_b51
            rw [if_neg m1, hw_tf_0, Option.bind_some]
          · rw [z2, hw_b2s, hw_G_41 z3.2.2.2.2.1, Option.bind_some, z3.2.2.2.2.2.1, hw_if10]
      · obtain ⟨τ2, b1, b2⟩ := g2 h32
        obtain ⟨z, τ3, f1, f2⟩ := d_fig b2
        unfold m4_formTold_b43
        rw [if_neg h32, hw_b2s, hw_if00, hw_b2s, bad, b1, Option.bind_some, hw_V_41 b2.2.1, Option.bind_some, f1, hw_b2s, hw_G_41 f2.2.1, Option.bind_some, f2.2.2.1, hw_if10]
        exact Or.inr ⟨_, τ3, p1 + 1, rfl, rfl, lv_dd x1 f2⟩
    · have hc' : ¬ (nI 0 ≤ hd T n p1 - (49 : Int32) ∧ hd T n p1 - (49 : Int32) ≤ nI 3) := fun c => by
        obtain ⟨i, c1, c2, ec⟩ := hw_win (lo := 0) (hi := 3) (by decide) (by decide) c
        apply hc
        have e : hd T n p1 = nI (i + 49) := by
          rw [← Int32.sub_add_cancel (hd T n p1) 49, ec]
          exact nI_add i 49
        rw [e]
        exact ⟨nI_le (by omega) (by omega), nI_le (by omega) (by omega)⟩
      obtain ⟨τ', e, d⟩ := d_b28 a3.rF (lv_dead a3)
      rw [if_neg hc, if_neg hc', hw_b2s, bad, e]
      exact Or.inr ⟨σ1, τ', p1, rfl, rfl, lv_dd a3 d⟩
  · obtain ⟨τ', e, d⟩ := d_b28 a3.2.2.2.2.1 (d_7 a3.2.2.2)
    refine Or.inr ⟨σ1, τ', q, ?_, ?_, a3.1, a3.2.1, a3.2.2.1, d⟩
    · rw [a1, hw_b2s, if_pos rfl]
      unfold m4_isClause_b22
      rw [hw_tf_0, Option.bind_some]
    · unfold m12_formHere
      rw [hw_V_41 hx.rF, Option.bind_some, a2, Option.bind_some, hw_G_41 a3.2.2.2.2.1, Option.bind_some, a3.2.2.2.2.2.1, hw_if10, e]
theorem RQ.m {cr : Option (Int32 × hw_S)} {a b : Option hw_S} (hx : RQ T n l σ0 τ0 cr a) (e : b = a.bind some) : RQ T n l σ0 τ0 cr b := by
  rw [e, Option.bind_fun_some]; exact hx
/-- a clause: both read it, or both stop at one place -/
theorem x_cls (hn : n ≤ 120) (hl : l < 8) (hg : Gd fm hv cv) (hx : LV T n l σ0 τ0 fm hv cv σ τ p k 0 0) : RQ T n l σ0 τ0 (m4_isClause 19 σ) (m12_clauseHere 41 τ) := by
  have E1 : ∀ w, m4_wordOf (hd T n p) σ = some (some w) → ¬ hd T n p = 102 → m4_isClause 19 σ = hw_b2 (m4_comesWord 19 (some w) σ) fun v16 σ16 => (if v16 = 0 then m4_isClause_b22 19 σ16 else m4_isClause_b38 19 (hd T n p) (0 : Int32) σ16) := fun w e ne => by
    unfold m4_isClause
    rw [hw_V_19 hx.cF, Option.bind_some, lv_ahd hx hn, Option.bind_some, e, Option.bind_some, if_neg (Option.some_ne_none w), Option.bind_some]
    simp only [if_neg ne]
  by_cases h0 : hd T n p = 99
  · have ew : m4_wordOf (hd T n p) σ = some (some 4) := by unfold m4_wordOf; rw [if_pos h0]
    rw [E1 4 ew (by rw [h0]; decide), h0]
    refine (x_tel hn hl (L := 99) (B := 164) (fld := 7) (w := 4) (bN := 164) (by decide) rfl (by decide) (fun v σ hv => ?_) (fun v σ hF => hw_W_19 hF) (fun σ τ p k v hv' hx => ⟨hv, nI v, ⟨hg.1, hg.2.1, v, hv', rfl⟩, lv_cv hn hl hx (nI v)⟩) hx).m ?_
    · unfold m4_isClause_b51
      rw [if_pos hv, if_pos rfl]
    · unfold m12_clauseHere m12_clauseHere_b115
      rw [hw_V_41 hx.rF, Option.bind_some, lv_hr hx hn, Option.bind_some, if_pos h0, Option.bind_some]
  by_cases h1 : hd T n p = 101
  · have ew : m4_wordOf (hd T n p) σ = some (some 1) := by unfold m4_wordOf; rw [if_neg h0, if_pos h1]
    rw [E1 1 ew (by rw [h1]; decide), h1]
    refine (x_mch hn hl hg (L := 101) (cc := 5) (b := -200) (cN := 5) (w := 1) (by decide) (by decide) (by decide) (by decide) (fun v σ => by rw [if_neg (by decide)]) eas_c (fun v hv => ins_e hv) (fun v hv => hst_w (by omega) (by omega)) hx).m ?_
    · unfold m12_clauseHere m12_clauseHere_b115
      rw [hw_V_41 hx.rF, Option.bind_some, lv_hr hx hn, Option.bind_some, if_neg h0, if_pos h1, Option.bind_some]
      rfl
  by_cases h2 : hd T n p = 102
  · have ew : m4_wordOf (hd T n p) σ = some (some 2) := by unfold m4_wordOf; rw [if_neg h0, if_neg h1, if_pos h2]
    have e2 : m4_isClause 19 σ = hw_b2 (m4_comesWord 19 (some 2) σ) fun v16 σ16 => (if v16 = 0 then m4_isClause_b22 19 σ16 else (hw_rv (hw_q 4) (some 19) σ16).bind fun a31 => hw_b2 (m4_formTold 19 σ16) fun v31 σ31 => m4_isClause_b38 19 (102 : Int32) v31 σ31) := by
      unfold m4_isClause
      rw [hw_V_19 hx.cF, Option.bind_some, lv_ahd hx hn, Option.bind_some, ew, Option.bind_some, if_neg (Option.some_ne_none 2), Option.bind_some, h2]
      simp only [if_true]
    rw [e2]
    refine (x_frm hn hl hg hx).m ?_
    unfold m12_clauseHere m12_clauseHere_b115
    rw [hw_V_41 hx.rF, Option.bind_some, lv_hr hx hn, Option.bind_some, if_neg h0, if_neg h1, if_pos h2, Option.bind_some]
  by_cases h3 : hd T n p = 104
  · have ew : m4_wordOf (hd T n p) σ = some (some 3) := by unfold m4_wordOf; rw [if_neg h0, if_neg h1, if_neg h2, if_pos h3]
    rw [E1 3 ew h2, h3]
    refine (x_tel hn hl (L := 104) (B := 156) (fld := 6) (w := 3) (bN := 156) (by decide) rfl (by decide) (fun v σ hv => ?_) (fun v σ hF => hw_W_19 hF) (fun σ τ p k v hv' hx => ⟨nI v, cv, ⟨hg.1, ⟨v, hv', rfl⟩, hg.2.2⟩, lv_hv hn hl hx (nI v)⟩) hx).m ?_
    · unfold m4_isClause_b51
      rw [if_pos hv, if_neg (by decide), if_neg (by decide), if_pos rfl]
    · unfold m12_clauseHere m12_clauseHere_b115
      rw [hw_V_41 hx.rF, Option.bind_some, lv_hr hx hn, Option.bind_some, if_neg h0, if_neg h1, if_neg h2, if_pos h3, Option.bind_some]
  by_cases h4 : hd T n p = 119
  · have ew : m4_wordOf (hd T n p) σ = some (some 0) := by unfold m4_wordOf; rw [if_neg h0, if_neg h1, if_neg h2, if_neg h3, if_pos h4]
    rw [E1 0 ew h2, h4]
    refine (x_mch hn hl hg (L := 119) (cc := 4) (b := -10) (cN := 4) (w := 0) (by decide) (by decide) (by decide) (by decide) (fun v σ => by rw [if_pos rfl]) wnd_c (fun v hv => ins_w hv) (fun v hv => hst_w (by omega) (by omega)) hx).m ?_
    · unfold m12_clauseHere m12_clauseHere_b115
      rw [hw_V_41 hx.rF, Option.bind_some, lv_hr hx hn, Option.bind_some, if_neg h0, if_neg h1, if_neg h2, if_neg h3, if_pos h4, Option.bind_some]
      rfl
  · have ew : m4_wordOf (hd T n p) σ = some none := by unfold m4_wordOf; rw [if_neg h0, if_neg h1, if_neg h2, if_neg h3, if_neg h4]
    refine Or.inr ⟨σ, hw_wI 41 7 1 τ, p, ?_, ?_, lv_dd hx (lv_dead hx)⟩
    · unfold m4_isClause m4_isClause_b22
      rw [hw_V_19 hx.cF, Option.bind_some, lv_ahd hx hn, Option.bind_some, ew, Option.bind_some, if_pos rfl, hw_tf_0, Option.bind_some]
    · unfold m12_clauseHere m12_clauseHere_b115
      rw [hw_V_41 hx.rF, Option.bind_some, lv_hr hx hn, Option.bind_some, if_neg h0, if_neg h1, if_neg h2, if_neg h3, if_neg h4, hw_tf_1, Option.bind_some, hw_W_41 hx.rF, Option.bind_some]
end CLF
