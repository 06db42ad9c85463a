/-! my own layer: stores of references, instanceof, super calls of inherited methods, arrays of references, copies -/
def hw_okP (t : Nat) (v : Option Nat) (σ : hw_S) : Bool := match v with
  | none => true
  | some z => if t = 2 then hw_qL (σ.1 z) else hw_q 9 (σ.1 z)
def hw_sP (t : Nat) (x : Option Nat) (i : Int32) (v : Option Nat) (σ : hw_S) : Option hw_S := match x with
  | none => none
  | some a => if (σ.1 a = t + 21 ∧ ¬ (i < 0 ∨ σ.2.1 a ≤ i.toNatClampNeg)) ∧ hw_okP t v σ = true then some (hw_wP a i.toNatClampNeg v σ) else none
def hw_sub (t ci : Nat) : Bool := t == ci + 1 || (ci == 2 && (t == 1 || t == 7)) || (ci == 1 && t == 6) || ci == 3
def hw_io (ci : Nat) (x : Option Nat) (σ : hw_S) : Option Int32 := match x with
  | none => some 0
  | some a => if hw_qL (σ.1 a) = true then some (if hw_sub (σ.1 a) ci = true then 1 else 0) else none
def hw_anO (t : Nat) (n : Int32) (σ : hw_S) : Option (Nat × hw_S) := hw_naO (t + 21) n σ
def hw_cpI (x y : Option Nat) (n : Int32) (σ : hw_S) : Option hw_S := match x, y with
  | some a, some c => if (σ.1 a = 21 ∧ σ.1 c = 21) ∧ (¬ n < 0 ∧ n.toNatClampNeg ≤ σ.2.1 a ∧ n.toNatClampNeg ≤ σ.2.1 c) then some (σ.1, σ.2.1, (fun z => if z = c then (fun j => if j < n.toNatClampNeg then σ.2.2.1 a j else σ.2.2.1 c j) else σ.2.2.1 z), σ.2.2.2) else none
  | _, _ => none
theorem hw_df0 : ∀ k, k < 8 → defaultValue (tyX0 k) = if hw_isR 0 k = true then .null else .int 0 := fun k hk => by
  match k, hk with
  | 0, _ => rfl
  | 1, _ => rfl
  | 2, _ => rfl
  | 3, _ => rfl
  | 4, _ => rfl
  | 5, _ => rfl
  | 6, _ => rfl
  | 7, _ => rfl
theorem hw_df1 : ∀ k, k < 8 → defaultValue (tyX1 k) = if hw_isR 1 k = true then .null else .int 0 := fun k hk => by
  match k, hk with
  | 0, _ => rfl
  | 1, _ => rfl
  | 2, _ => rfl
  | 3, _ => rfl
  | 4, _ => rfl
  | 5, _ => rfl
  | 6, _ => rfl
  | 7, _ => rfl
theorem hw_df2 : ∀ k, k < 8 → defaultValue (tyX2 k) = if hw_isR 2 k = true then .null else .int 0 := fun k hk => by
  match k, hk with
  | 0, _ => rfl
  | 1, _ => rfl
  | 2, _ => rfl
  | 3, _ => rfl
  | 4, _ => rfl
  | 5, _ => rfl
  | 6, _ => rfl
  | 7, _ => rfl
theorem hw_df3 : ∀ k, k < 8 → defaultValue (tyX3 k) = if hw_isR 3 k = true then .null else .int 0 := fun k hk => by
  match k, hk with
  | 0, _ => rfl
  | 1, _ => rfl
  | 2, _ => rfl
  | 3, _ => rfl
  | 4, _ => rfl
  | 5, _ => rfl
  | 6, _ => rfl
  | 7, _ => rfl
theorem hw_df4 : ∀ k, k < 8 → defaultValue (tyX4 k) = if hw_isR 4 k = true then .null else .int 0 := fun k hk => by
  match k, hk with
  | 0, _ => rfl
  | 1, _ => rfl
  | 2, _ => rfl
  | 3, _ => rfl
  | 4, _ => rfl
  | 5, _ => rfl
  | 6, _ => rfl
  | 7, _ => rfl
theorem hw_df5 : ∀ k, k < 8 → defaultValue (tyX5 k) = if hw_isR 5 k = true then .null else .int 0 := fun k hk => by
  match k, hk with
  | 0, _ => rfl
  | 1, _ => rfl
  | 2, _ => rfl
  | 3, _ => rfl
  | 4, _ => rfl
  | 5, _ => rfl
  | 6, _ => rfl
  | 7, _ => rfl
theorem hw_df6 : ∀ k, k < 8 → defaultValue (tyX6 k) = if hw_isR 6 k = true then .null else .int 0 := fun k hk => by
  match k, hk with
  | 0, _ => rfl
  | 1, _ => rfl
  | 2, _ => rfl
  | 3, _ => rfl
  | 4, _ => rfl
  | 5, _ => rfl
  | 6, _ => rfl
  | 7, _ => rfl
theorem hw_df7 : ∀ k, k < 8 → defaultValue (tyX7 k) = if hw_isR 7 k = true then .null else .int 0 := fun k hk => by
  match k, hk with
  | 0, _ => rfl
  | 1, _ => rfl
  | 2, _ => rfl
  | 3, _ => rfl
  | 4, _ => rfl
  | 5, _ => rfl
  | 6, _ => rfl
  | 7, _ => rfl
theorem hw_df8 : ∀ k, k < 14 → defaultValue (tyX8 k) = if hw_isR 8 k = true then .null else .int 0 := fun k hk => by
  match k, hk with
  | 0, _ => rfl
  | 1, _ => rfl
  | 2, _ => rfl
  | 3, _ => rfl
  | 4, _ => rfl
  | 5, _ => rfl
  | 6, _ => rfl
  | 7, _ => rfl
  | 8, _ => rfl
  | 9, _ => rfl
  | 10, _ => rfl
  | 11, _ => rfl
  | 12, _ => rfl
  | 13, _ => rfl
theorem hw_df9 : ∀ k, k < 2 → defaultValue (tyX9 k) = if hw_isR 9 k = true then .null else .int 0 := fun k hk => by
  match k, hk with
  | 0, _ => rfl
  | 1, _ => rfl
theorem hw_df10 : ∀ k, k < 2 → defaultValue (tyX10 k) = if hw_isR 10 k = true then .null else .int 0 := fun k hk => by
  match k, hk with
  | 0, _ => rfl
  | 1, _ => rfl
theorem hw_df11 : ∀ k, k < 13 → defaultValue (tyX11 k) = if hw_isR 11 k = true then .null else .int 0 := fun k hk => by
  match k, hk with
  | 0, _ => rfl
  | 1, _ => rfl
  | 2, _ => rfl
  | 3, _ => rfl
  | 4, _ => rfl
  | 5, _ => rfl
  | 6, _ => rfl
  | 7, _ => rfl
  | 8, _ => rfl
  | 9, _ => rfl
  | 10, _ => rfl
  | 11, _ => rfl
  | 12, _ => rfl
theorem hw_df12 : ∀ k, k < 26 → defaultValue (tyX12 k) = if hw_isR 12 k = true then .null else .int 0 := fun k hk => by
  match k, hk with
  | 0, _ => rfl
  | 1, _ => rfl
  | 2, _ => rfl
  | 3, _ => rfl
  | 4, _ => rfl
  | 5, _ => rfl
  | 6, _ => rfl
  | 7, _ => rfl
  | 8, _ => rfl
  | 9, _ => rfl
  | 10, _ => rfl
  | 11, _ => rfl
  | 12, _ => rfl
  | 13, _ => rfl
  | 14, _ => rfl
  | 15, _ => rfl
  | 16, _ => rfl
  | 17, _ => rfl
  | 18, _ => rfl
  | 19, _ => rfl
  | 20, _ => rfl
  | 21, _ => rfl
  | 22, _ => rfl
  | 23, _ => rfl
  | 24, _ => rfl
  | 25, _ => rfl
  | k + 26, h => exact absurd h (Nat.not_lt.mpr (Nat.le_add_left 26 k))
theorem hE_ra {U : State} {cA : ClassId} {t : FieldType} {C : String} (h : va_RA U cA t) (e : t = .object C) : U.vm.findClass ("[" ++ (FieldType.object C).toString) = some cA := by
  subst e
  obtain ⟨-, -, -, -, -, h4⟩ := h
  exact h4
section HW6
variable {p : Program} {l : Launch} {e : Env} {R : Room} {s : State} {m : MethodId} {args : Array Value} {below : List Frame} {meth : Method} {c : Code} {H : Heap} {locs : List Loc} {cells slots : Nat} {Q : State → Prop}
variable {cc : ByteArray} {pc : Nat} {ls : Array Slot} {rest : List Value} {D : hw_D} {b : Nat} {σ τ : hw_S} {own : String} {index nL j : Nat} {H0 : Heap} {lv lv' : List (Nat × Value)}
theorem hw_wP_arr {a k : Nat} {v : Option Nat} (hR : hw_R D b σ H) {H1 : Heap} (z : H1.size = H.size) (oq : ∀ q : Nat, q ≠ b + a → H1[q]? = H[q]?) {t : Nat} (ht : σ.1 a = t + 21) (h2 : ¬ t < 2) (g : H1[b + a]? = some ((vp_cell (D.2 t) (hw_ac b σ t a)).setSlot k (hw_vr b v))) : hw_R D b (hw_wP a k v σ) H1 := by
  refine hR.put rfl z oq (fun x h => hw_wP_eq h) ⟨fun ci h3 h4 => ?_, fun t' h3 h4 => ?_⟩
  · have h3 : σ.1 a = ci + 1 := h3
    omega
  · have h3 : σ.1 a = t' + 21 := h3
    have e0 : t' = t := by omega
    subst e0
    rw [g]
    have e1 : hw_ac b σ t' a = (σ.2.1 a, .inr (.inr (.inr (.inr (fun j => (σ.2.2.2.1 a j).map (fun q => b + q)))))) := by unfold hw_ac; rw [if_neg h2]
    have e2 : hw_ac b (hw_wP a k v σ) t' a = (σ.2.1 a, .inr (.inr (.inr (.inr (fun j => (if j = k then v else σ.2.2.2.1 a j).map (fun q => b + q)))))) := by unfold hw_ac hw_wP; rw [if_neg h2]; simp
    rw [e1, e2, vp_cell_q, vp_cell_q, arrV_store]
    congr 2
    funext j
    by_cases hj : j = k
    · subst hj; simp [updV, hw_vr]
    · simp [updV, hj]
theorem hw_cast {C E : String} (hE : hw_E D s) (h : (C, E) ∈ hw_casts) : va_Nw (.castable C E) s := hE.2.2.1 (C, E) h
theorem hw_nocast {C E : String} (hE : hw_E D s) (h : (C, E) ∈ hw_nocasts) : va_Nc C E s := hE.2.2.2.1 (C, E) h
/-- a law's object may be stored among the laws -/
theorem hw_asg (hE : hw_E D s) {t : Nat} (h : hw_qL t = true) : ∃ (ci : Nat) (C : String), t = ci + 1 ∧ ci < 13 ∧ vwCl[ci]? = some (C, TX3, 8) ∧ ∀ comp, s.vm.findClass RX3 = some comp → s.vm.assignable (D.1.1 ci) comp = true := by
  rcases hw_qL_or h with rfl | rfl | rfl | rfl | rfl | rfl | rfl
  · exact ⟨0, RX0, rfl, by decide, by rw [← hw_T0]; rfl, fun comp h => vb_asgC (hw_cast hE (List.mem_of_getElem? (i := 7) rfl)) comp _ h (hE.1.1 0 _ (rfl : vwCl[0]? = some (RX0, TX0, 8))).2.1⟩
  · exact ⟨1, RX1, rfl, by decide, by rw [← hw_T1]; rfl, fun comp h => vb_asgC (hw_cast hE (List.mem_of_getElem? (i := 6) rfl)) comp _ h (hE.1.1 1 _ (rfl : vwCl[1]? = some (RX1, TX1, 8))).2.1⟩
  · exact ⟨2, RX2, rfl, by decide, by rw [← hw_T2]; rfl, fun comp h => vb_asgC (hw_cast hE (List.mem_of_getElem? (i := 5) rfl)) comp _ h (hE.1.1 2 _ (rfl : vwCl[2]? = some (RX2, TX2, 8))).2.1⟩
  · exact ⟨3, RX3, rfl, by decide, rfl, fun comp h => by
      have h1 := (hE.1.1 3 _ (rfl : vwCl[3]? = some (RX3, TX3, 8))).2
      cases h.symm.trans h1.1
      exact va_assign h1⟩
  · exact ⟨5, RX5, rfl, by decide, by rw [← hw_T5]; rfl, fun comp h => vb_asgC (hw_cast hE (List.mem_of_getElem? (i := 9) rfl)) comp _ h (hE.1.1 5 _ (rfl : vwCl[5]? = some (RX5, TX5, 8))).2.1⟩
  · exact ⟨6, RX6, rfl, by decide, by rw [← hw_T6]; rfl, fun comp h => vb_asgC (hw_cast hE (List.mem_of_getElem? (i := 8) rfl)) comp _ h (hE.1.1 6 _ (rfl : vwCl[6]? = some (RX6, TX6, 8))).2.1⟩
  · exact ⟨7, RX7, rfl, by decide, by rw [← hw_T7]; rfl, fun comp h => vb_asgC (hw_cast hE (List.mem_of_getElem? (i := 4) rfl)) comp _ h (hE.1.1 7 _ (rfl : vwCl[7]? = some (RX7, TX7, 8))).2.1⟩
theorem hw_aast {t : Nat} {C : String} (htC : hw_ty t = .object C) (h2 : ¬ t < 2) (h5 : t < 5) (hx : p.tables.exec = Jvm.exec) (hb : c.code = cc) (hE : hw_E D s) (hR : hw_R D b σ H) (hS : va_S (fun q => b ≤ q) H0 H locs) {x v : Option Nat} {i : Int32} (he : hw_sP t x i v σ = some τ)
    (hv : ∀ z, v = some z → ∃ (ci : Nat) (r : vw_C), ci < 13 ∧ σ.1 z = ci + 1 ∧ vwCl[ci]? = some r ∧ ∀ comp, s.vm.findClass C = some comp → s.vm.assignable (D.1.1 ci) comp = true) (hdg : decode cc pc = .ok (.aastore, 1))
    (kk : ∀ (H1 : Heap) (locs1 : List Loc), hw_R D b τ H1 → va_S (fun q => b ≤ q) H0 H1 locs1 → W p l e R s m args below meth c H1 locs1 cells slots Q (F0 m (pc + 1) ls rest)) : W p l e R s m args below meth c H locs cells slots Q (F0 m pc ls (hw_vr b v :: .int i :: hw_vr b x :: rest)) := by
  cases x with
  | none => cases he
  | some a =>
    unfold hw_sP at he
    by_cases hq : (σ.1 a = t + 21 ∧ ¬ (i < 0 ∨ σ.2.1 a ≤ i.toNatClampNeg)) ∧ hw_okP t v σ = true
    · simp only [if_pos hq] at he
      cases he
      obtain ⟨⟨ht, hin⟩, -⟩ := hq
      have hc := (hR.2 a).2 t ht h5
      have e1 : hw_ac b σ t a = (σ.2.1 a, .inr (.inr (.inr (.inr (fun j => (σ.2.2.2.1 a j).map (fun q => b + q)))))) := by unfold hw_ac; rw [if_neg h2]
      have hc2 := hc
      rw [e1] at hc2
      have hkt := hE.1.2 t _ (hw_tys_at D h5)
      rw [htC] at hkt
      have hsz : (vp_cell (D.2 t) (σ.2.1 a, .inr (.inr (.inr (.inr (fun j => (σ.2.2.2.1 a j).map (fun q => b + q))))))).slots.size = σ.2.1 a := by show (arrV _ _ _).slots.size = _; rw [arrV_size]
      cases v with
      | none =>
        refine va_WaastN (C := C) hx hb hc2 (hkt.1 (σ.2.1 a) (fun j => va_rf ((σ.2.2.2.1 a j).map (fun q => b + q)))) (fun h => by cases h) (by rw [hsz]; exact hin) rfl rfl hdg fun H1 g z oq => ?_
        exact kk H1 _ (hw_wP_arr hR z oq ht h2 (by rw [g, e1]; rfl)) (hS.put z oq (Nat.le_add_right b a))
      | some w =>
        obtain ⟨ci, r, h13, hw, hcl, hasg⟩ := hv w rfl
        obtain ⟨cell, g1, g2, g3, -⟩ := (hR.2 w).1 ci hw h13
        obtain ⟨kA, comp, k1, k2, k3, -⟩ := hkt.2
        obtain ⟨-, kC, hkC, -⟩ := (hE.1.1 ci r hcl).2
        have h0 : ¬ i < 0 := fun q => hin (Or.inl q)
        have hlt : i.toNatClampNeg < σ.2.1 a := Nat.not_le.mp fun q => hin (Or.inr q)
        have hcc := hasg comp k3
        obtain ⟨kc2, hkc2⟩ : ∃ k, s.vm.classes[comp]? = some k := by
          obtain ⟨C3, hC3⟩ : ∃ q : Nat × vw_C, vwCl[q.1]? = some q.2 ∧ q.2.1 = C := by
            match t, h2, h5 with
            | 2, _, _ => cases htC; exact ⟨(3, (RX3, TX3, 8)), rfl, rfl⟩
            | 3, _, _ => cases htC; exact ⟨(9, (RX9, TX9, 2)), rfl, rfl⟩
            | 4, _, _ => cases htC
          obtain ⟨f1, kk2, f2, -⟩ := (hE.1.1 C3.1 C3.2 hC3.1).2
          rw [hC3.2] at f1
          cases k3.symm.trans f1
          exact ⟨kk2, f2⟩
        refine W.aast hx hb hc2 (fun q h => by cases h) (fun h => by cases h) k1 k2 rfl hkc2 ⟨h0, by rw [hsz]; exact hlt⟩ g1 (fun q h => by rw [g3] at h; cases h) (by rw [g2]; exact hkC) (by rw [g2]; exact hcc) rfl rfl hdg fun H1 g z oq => ?_
        exact kk H1 _ (hw_wP_arr hR z oq ht h2 (by rw [g, e1]; rfl)) (hS.put z oq (Nat.le_add_right b a))
    · simp only [if_neg hq] at he; cases he
theorem hw_sP_ok {t : Nat} {x v : Option Nat} {i : Int32} (he : hw_sP t x i v σ = some τ) : hw_okP t v σ = true := by
  cases x with
  | none => cases he
  | some a =>
    unfold hw_sP at he
    by_cases hq : (σ.1 a = t + 21 ∧ ¬ (i < 0 ∨ σ.2.1 a ≤ i.toNatClampNeg)) ∧ hw_okP t v σ = true
    · exact hq.2
    · simp only [if_neg hq] at he; cases he
theorem hw_aast2 (hx : p.tables.exec = Jvm.exec) (hb : c.code = cc) (hE : hw_E D s) (hR : hw_R D b σ H) (hS : va_S (fun q => b ≤ q) H0 H locs) {x v : Option Nat} {i : Int32} (he : hw_sP 2 x i v σ = some τ) (hdg : decode cc pc = .ok (.aastore, 1))
    (kk : ∀ (H1 : Heap) (locs1 : List Loc), hw_R D b τ H1 → va_S (fun q => b ≤ q) H0 H1 locs1 → W p l e R s m args below meth c H1 locs1 cells slots Q (F0 m (pc + 1) ls rest)) : W p l e R s m args below meth c H locs cells slots Q (F0 m pc ls (hw_vr b v :: .int i :: hw_vr b x :: rest)) :=
  hw_aast (C := RX3) rfl (by decide) (by decide) hx hb hE hR hS he (fun z hz => by
    have h1 := hw_sP_ok he
    subst hz
    obtain ⟨ci, C, h2, h3, h4, h5⟩ := hw_asg hE (show hw_qL (σ.1 z) = true from h1)
    exact ⟨ci, _, h3, h2, h4, h5⟩) hdg kk
theorem hw_aast3 (hx : p.tables.exec = Jvm.exec) (hb : c.code = cc) (hE : hw_E D s) (hR : hw_R D b σ H) (hS : va_S (fun q => b ≤ q) H0 H locs) {x v : Option Nat} {i : Int32} (he : hw_sP 3 x i v σ = some τ) (hdg : decode cc pc = .ok (.aastore, 1))
    (kk : ∀ (H1 : Heap) (locs1 : List Loc), hw_R D b τ H1 → va_S (fun q => b ≤ q) H0 H1 locs1 → W p l e R s m args below meth c H1 locs1 cells slots Q (F0 m (pc + 1) ls rest)) : W p l e R s m args below meth c H locs cells slots Q (F0 m pc ls (hw_vr b v :: .int i :: hw_vr b x :: rest)) :=
  hw_aast (C := RX9) rfl (by decide) (by decide) hx hb hE hR hS he (fun z hz => by
    have h1 := hw_sP_ok he
    subst hz
    refine ⟨9, (RX9, TX9, 2), by decide, hw_q_of (show hw_q 9 (σ.1 z) = true from h1), rfl, fun comp h => ?_⟩
    have h2 := (hE.1.1 9 _ (rfl : vwCl[9]? = some (RX9, TX9, 2))).2
    cases h.symm.trans h2.1
    exact va_assign h2) hdg kk
theorem hw_inst7 (hx : p.tables.exec = Jvm.exec) (hb : c.code = cc) (hown : s.vm.findClass own = some m.cls) (hE : hw_E D s) (hR : hw_R D b σ H) {x : Option Nat} {v : Int32} (he : hw_io 7 x σ = some v) (hlink : (Cond.classLink own index RX7).before args s = true) (hdg : decode cc pc = .ok (.instanceof index, 3))
    (kk : W p l e R s m args below meth c H locs cells slots Q (F0 m (pc + 3) ls (.int v :: rest))) : W p l e R s m args below meth c H locs cells slots Q (F0 m pc ls (hw_vr b x :: rest)) := by
  cases x with
  | none => cases he; exact lv_instN hx hb hdg kk
  | some a =>
    unfold hw_io at he
    by_cases hq : hw_qL (σ.1 a) = true
    · simp only [if_pos hq] at he
      rcases hw_qL_or hq with h | h | h | h | h | h | h
      · have ev : v = 0 := by rw [h] at he; exact (Option.some.inj he).symm
        subst ev
        exact va_instNo (C := RX0) hx hb hown hlink (hw_nocast hE (List.mem_of_getElem? (i := 2) rfl)) (hw_recv hE hR (rfl : vwCl[0]? = some (RX0, TX0, 8)) (by decide) h) hdg kk
      · have ev : v = 0 := by rw [h] at he; exact (Option.some.inj he).symm
        subst ev
        exact va_instNo (C := RX1) hx hb hown hlink (hw_nocast hE (List.mem_of_getElem? (i := 1) rfl)) (hw_recv hE hR (rfl : vwCl[1]? = some (RX1, TX1, 8)) (by decide) h) hdg kk
      · have ev : v = 0 := by rw [h] at he; exact (Option.some.inj he).symm
        subst ev
        exact va_instNo (C := RX2) hx hb hown hlink (hw_nocast hE (List.mem_of_getElem? (i := 0) rfl)) (hw_recv hE hR (rfl : vwCl[2]? = some (RX2, TX2, 8)) (by decide) h) hdg kk
      · have ev : v = 0 := by rw [h] at he; exact (Option.some.inj he).symm
        subst ev
        exact va_instNo (C := RX3) hx hb hown hlink (hw_nocast hE (List.mem_of_getElem? (i := 5) rfl)) (hw_recv hE hR (rfl : vwCl[3]? = some (RX3, TX3, 8)) (by decide) h) hdg kk
      · have ev : v = 0 := by rw [h] at he; exact (Option.some.inj he).symm
        subst ev
        exact va_instNo (C := RX5) hx hb hown hlink (hw_nocast hE (List.mem_of_getElem? (i := 4) rfl)) (hw_recv hE hR (rfl : vwCl[5]? = some (RX5, TX5, 8)) (by decide) h) hdg kk
      · have ev : v = 0 := by rw [h] at he; exact (Option.some.inj he).symm
        subst ev
        exact va_instNo (C := RX6) hx hb hown hlink (hw_nocast hE (List.mem_of_getElem? (i := 3) rfl)) (hw_recv hE hR (rfl : vwCl[6]? = some (RX6, TX6, 8)) (by decide) h) hdg kk
      · have ev : v = 1 := by rw [h] at he; exact (Option.some.inj he).symm
        subst ev
        exact va_instS hx hb hown hlink (hE.1.1 7 _ (rfl : vwCl[7]? = some (RX7, TX7, 8))).2 (hw_recv hE hR (rfl : vwCl[7]? = some (RX7, TX7, 8)) (by decide) h) hdg kk
    · simp only [if_neg hq] at he; cases he
theorem hw_inst2 (hx : p.tables.exec = Jvm.exec) (hb : c.code = cc) (hown : s.vm.findClass own = some m.cls) (hE : hw_E D s) (hR : hw_R D b σ H) {x : Option Nat} {v : Int32} (he : hw_io 2 x σ = some v) (hlink : (Cond.classLink own index RX2).before args s = true) (hdg : decode cc pc = .ok (.instanceof index, 3))
    (kk : W p l e R s m args below meth c H locs cells slots Q (F0 m (pc + 3) ls (.int v :: rest))) : W p l e R s m args below meth c H locs cells slots Q (F0 m pc ls (hw_vr b x :: rest)) := by
  cases x with
  | none => cases he; exact lv_instN hx hb hdg kk
  | some a =>
    unfold hw_io at he
    by_cases hq : hw_qL (σ.1 a) = true
    · simp only [if_pos hq] at he
      rcases hw_qL_or hq with h | h | h | h | h | h | h
      · have ev : v = 1 := by rw [h] at he; exact (Option.some.inj he).symm
        subst ev
        exact va_instY (C := RX0) hx hb hown hlink (hw_cast hE (List.mem_of_getElem? (i := 1) rfl)) (hw_recv hE hR (rfl : vwCl[0]? = some (RX0, TX0, 8)) (by decide) h) hdg kk
      · have ev : v = 0 := by rw [h] at he; exact (Option.some.inj he).symm
        subst ev
        exact va_instNo (C := RX1) hx hb hown hlink (hw_nocast hE (List.mem_of_getElem? (i := 7) rfl)) (hw_recv hE hR (rfl : vwCl[1]? = some (RX1, TX1, 8)) (by decide) h) hdg kk
      · have ev : v = 1 := by rw [h] at he; exact (Option.some.inj he).symm
        subst ev
        exact va_instS hx hb hown hlink (hE.1.1 2 _ (rfl : vwCl[2]? = some (RX2, TX2, 8))).2 (hw_recv hE hR (rfl : vwCl[2]? = some (RX2, TX2, 8)) (by decide) h) hdg kk
      · have ev : v = 0 := by rw [h] at he; exact (Option.some.inj he).symm
        subst ev
        exact va_instNo (C := RX3) hx hb hown hlink (hw_nocast hE (List.mem_of_getElem? (i := 9) rfl)) (hw_recv hE hR (rfl : vwCl[3]? = some (RX3, TX3, 8)) (by decide) h) hdg kk
      · have ev : v = 0 := by rw [h] at he; exact (Option.some.inj he).symm
        subst ev
        exact va_instNo (C := RX5) hx hb hown hlink (hw_nocast hE (List.mem_of_getElem? (i := 8) rfl)) (hw_recv hE hR (rfl : vwCl[5]? = some (RX5, TX5, 8)) (by decide) h) hdg kk
      · have ev : v = 1 := by rw [h] at he; exact (Option.some.inj he).symm
        subst ev
        exact va_instY (C := RX6) hx hb hown hlink (hw_cast hE (List.mem_of_getElem? (i := 2) rfl)) (hw_recv hE hR (rfl : vwCl[6]? = some (RX6, TX6, 8)) (by decide) h) hdg kk
      · have ev : v = 0 := by rw [h] at he; exact (Option.some.inj he).symm
        subst ev
        exact va_instNo (C := RX7) hx hb hown hlink (hw_nocast hE (List.mem_of_getElem? (i := 6) rfl)) (hw_recv hE hR (rfl : vwCl[7]? = some (RX7, TX7, 8)) (by decide) h) hdg kk
    · simp only [if_neg hq] at he; cases he
theorem hw_inst1 (hx : p.tables.exec = Jvm.exec) (hb : c.code = cc) (hown : s.vm.findClass own = some m.cls) (hE : hw_E D s) (hR : hw_R D b σ H) {x : Option Nat} {v : Int32} (he : hw_io 1 x σ = some v) (hlink : (Cond.classLink own index RX1).before args s = true) (hdg : decode cc pc = .ok (.instanceof index, 3))
    (kk : W p l e R s m args below meth c H locs cells slots Q (F0 m (pc + 3) ls (.int v :: rest))) : W p l e R s m args below meth c H locs cells slots Q (F0 m pc ls (hw_vr b x :: rest)) := by
  cases x with
  | none => cases he; exact lv_instN hx hb hdg kk
  | some a =>
    unfold hw_io at he
    by_cases hq : hw_qL (σ.1 a) = true
    · simp only [if_pos hq] at he
      rcases hw_qL_or hq with h | h | h | h | h | h | h
      · have ev : v = 0 := by rw [h] at he; exact (Option.some.inj he).symm
        subst ev
        exact va_instNo (C := RX0) hx hb hown hlink (hw_nocast hE (List.mem_of_getElem? (i := 12) rfl)) (hw_recv hE hR (rfl : vwCl[0]? = some (RX0, TX0, 8)) (by decide) h) hdg kk
      · have ev : v = 1 := by rw [h] at he; exact (Option.some.inj he).symm
        subst ev
        exact va_instS hx hb hown hlink (hE.1.1 1 _ (rfl : vwCl[1]? = some (RX1, TX1, 8))).2 (hw_recv hE hR (rfl : vwCl[1]? = some (RX1, TX1, 8)) (by decide) h) hdg kk
      · have ev : v = 0 := by rw [h] at he; exact (Option.some.inj he).symm
        subst ev
        exact va_instNo (C := RX2) hx hb hown hlink (hw_nocast hE (List.mem_of_getElem? (i := 11) rfl)) (hw_recv hE hR (rfl : vwCl[2]? = some (RX2, TX2, 8)) (by decide) h) hdg kk
      · have ev : v = 0 := by rw [h] at he; exact (Option.some.inj he).symm
        subst ev
        exact va_instNo (C := RX3) hx hb hown hlink (hw_nocast hE (List.mem_of_getElem? (i := 14) rfl)) (hw_recv hE hR (rfl : vwCl[3]? = some (RX3, TX3, 8)) (by decide) h) hdg kk
      · have ev : v = 1 := by rw [h] at he; exact (Option.some.inj he).symm
        subst ev
        exact va_instY (C := RX5) hx hb hown hlink (hw_cast hE (List.mem_of_getElem? (i := 3) rfl)) (hw_recv hE hR (rfl : vwCl[5]? = some (RX5, TX5, 8)) (by decide) h) hdg kk
      · have ev : v = 0 := by rw [h] at he; exact (Option.some.inj he).symm
        subst ev
        exact va_instNo (C := RX6) hx hb hown hlink (hw_nocast hE (List.mem_of_getElem? (i := 13) rfl)) (hw_recv hE hR (rfl : vwCl[6]? = some (RX6, TX6, 8)) (by decide) h) hdg kk
      · have ev : v = 0 := by rw [h] at he; exact (Option.some.inj he).symm
        subst ev
        exact va_instNo (C := RX7) hx hb hown hlink (hw_nocast hE (List.mem_of_getElem? (i := 10) rfl)) (hw_recv hE hR (rfl : vwCl[7]? = some (RX7, TX7, 8)) (by decide) h) hdg kk
    · simp only [if_neg hq] at he; cases he
theorem hw_inst0 (hx : p.tables.exec = Jvm.exec) (hb : c.code = cc) (hown : s.vm.findClass own = some m.cls) (hE : hw_E D s) (hR : hw_R D b σ H) {x : Option Nat} {v : Int32} (he : hw_io 0 x σ = some v) (hlink : (Cond.classLink own index RX0).before args s = true) (hdg : decode cc pc = .ok (.instanceof index, 3))
    (kk : W p l e R s m args below meth c H locs cells slots Q (F0 m (pc + 3) ls (.int v :: rest))) : W p l e R s m args below meth c H locs cells slots Q (F0 m pc ls (hw_vr b x :: rest)) := by
  cases x with
  | none => cases he; exact lv_instN hx hb hdg kk
  | some a =>
    unfold hw_io at he
    by_cases hq : hw_qL (σ.1 a) = true
    · simp only [if_pos hq] at he
      rcases hw_qL_or hq with h | h | h | h | h | h | h
      · have ev : v = 1 := by rw [h] at he; exact (Option.some.inj he).symm
        subst ev
        exact va_instS hx hb hown hlink (hE.1.1 0 _ (rfl : vwCl[0]? = some (RX0, TX0, 8))).2 (hw_recv hE hR (rfl : vwCl[0]? = some (RX0, TX0, 8)) (by decide) h) hdg kk
      · have ev : v = 0 := by rw [h] at he; exact (Option.some.inj he).symm
        subst ev
        exact va_instNo (C := RX1) hx hb hown hlink (hw_nocast hE (List.mem_of_getElem? (i := 17) rfl)) (hw_recv hE hR (rfl : vwCl[1]? = some (RX1, TX1, 8)) (by decide) h) hdg kk
      · have ev : v = 0 := by rw [h] at he; exact (Option.some.inj he).symm
        subst ev
        exact va_instNo (C := RX2) hx hb hown hlink (hw_nocast hE (List.mem_of_getElem? (i := 16) rfl)) (hw_recv hE hR (rfl : vwCl[2]? = some (RX2, TX2, 8)) (by decide) h) hdg kk
      · have ev : v = 0 := by rw [h] at he; exact (Option.some.inj he).symm
        subst ev
        exact va_instNo (C := RX3) hx hb hown hlink (hw_nocast hE (List.mem_of_getElem? (i := 20) rfl)) (hw_recv hE hR (rfl : vwCl[3]? = some (RX3, TX3, 8)) (by decide) h) hdg kk
      · have ev : v = 0 := by rw [h] at he; exact (Option.some.inj he).symm
        subst ev
        exact va_instNo (C := RX5) hx hb hown hlink (hw_nocast hE (List.mem_of_getElem? (i := 19) rfl)) (hw_recv hE hR (rfl : vwCl[5]? = some (RX5, TX5, 8)) (by decide) h) hdg kk
      · have ev : v = 0 := by rw [h] at he; exact (Option.some.inj he).symm
        subst ev
        exact va_instNo (C := RX6) hx hb hown hlink (hw_nocast hE (List.mem_of_getElem? (i := 18) rfl)) (hw_recv hE hR (rfl : vwCl[6]? = some (RX6, TX6, 8)) (by decide) h) hdg kk
      · have ev : v = 0 := by rw [h] at he; exact (Option.some.inj he).symm
        subst ev
        exact va_instNo (C := RX7) hx hb hown hlink (hw_nocast hE (List.mem_of_getElem? (i := 15) rfl)) (hw_recv hE hR (rfl : vwCl[7]? = some (RX7, TX7, 8)) (by decide) h) hdg kk
    · simp only [if_neg hq] at he; cases he
theorem hw_inst6 (hx : p.tables.exec = Jvm.exec) (hb : c.code = cc) (hown : s.vm.findClass own = some m.cls) (hE : hw_E D s) (hR : hw_R D b σ H) {x : Option Nat} {v : Int32} (he : hw_io 6 x σ = some v) (hlink : (Cond.classLink own index RX6).before args s = true) (hdg : decode cc pc = .ok (.instanceof index, 3))
    (kk : W p l e R s m args below meth c H locs cells slots Q (F0 m (pc + 3) ls (.int v :: rest))) : W p l e R s m args below meth c H locs cells slots Q (F0 m pc ls (hw_vr b x :: rest)) := by
  cases x with
  | none => cases he; exact lv_instN hx hb hdg kk
  | some a =>
    unfold hw_io at he
    by_cases hq : hw_qL (σ.1 a) = true
    · simp only [if_pos hq] at he
      rcases hw_qL_or hq with h | h | h | h | h | h | h
      · have ev : v = 0 := by rw [h] at he; exact (Option.some.inj he).symm
        subst ev
        exact va_instNo (C := RX0) hx hb hown hlink (hw_nocast hE (List.mem_of_getElem? (i := 24) rfl)) (hw_recv hE hR (rfl : vwCl[0]? = some (RX0, TX0, 8)) (by decide) h) hdg kk
      · have ev : v = 0 := by rw [h] at he; exact (Option.some.inj he).symm
        subst ev
        exact va_instNo (C := RX1) hx hb hown hlink (hw_nocast hE (List.mem_of_getElem? (i := 23) rfl)) (hw_recv hE hR (rfl : vwCl[1]? = some (RX1, TX1, 8)) (by decide) h) hdg kk
      · have ev : v = 0 := by rw [h] at he; exact (Option.some.inj he).symm
        subst ev
        exact va_instNo (C := RX2) hx hb hown hlink (hw_nocast hE (List.mem_of_getElem? (i := 22) rfl)) (hw_recv hE hR (rfl : vwCl[2]? = some (RX2, TX2, 8)) (by decide) h) hdg kk
      · have ev : v = 0 := by rw [h] at he; exact (Option.some.inj he).symm
        subst ev
        exact va_instNo (C := RX3) hx hb hown hlink (hw_nocast hE (List.mem_of_getElem? (i := 26) rfl)) (hw_recv hE hR (rfl : vwCl[3]? = some (RX3, TX3, 8)) (by decide) h) hdg kk
      · have ev : v = 0 := by rw [h] at he; exact (Option.some.inj he).symm
        subst ev
        exact va_instNo (C := RX5) hx hb hown hlink (hw_nocast hE (List.mem_of_getElem? (i := 25) rfl)) (hw_recv hE hR (rfl : vwCl[5]? = some (RX5, TX5, 8)) (by decide) h) hdg kk
      · have ev : v = 1 := by rw [h] at he; exact (Option.some.inj he).symm
        subst ev
        exact va_instS hx hb hown hlink (hE.1.1 6 _ (rfl : vwCl[6]? = some (RX6, TX6, 8))).2 (hw_recv hE hR (rfl : vwCl[6]? = some (RX6, TX6, 8)) (by decide) h) hdg kk
      · have ev : v = 0 := by rw [h] at he; exact (Option.some.inj he).symm
        subst ev
        exact va_instNo (C := RX7) hx hb hown hlink (hw_nocast hE (List.mem_of_getElem? (i := 21) rfl)) (hw_recv hE hR (rfl : vwCl[7]? = some (RX7, TX7, 8)) (by decide) h) hdg kk
    · simp only [if_neg hq] at he; cases he
theorem hw_inst5 (hx : p.tables.exec = Jvm.exec) (hb : c.code = cc) (hown : s.vm.findClass own = some m.cls) (hE : hw_E D s) (hR : hw_R D b σ H) {x : Option Nat} {v : Int32} (he : hw_io 5 x σ = some v) (hlink : (Cond.classLink own index RX5).before args s = true) (hdg : decode cc pc = .ok (.instanceof index, 3))
    (kk : W p l e R s m args below meth c H locs cells slots Q (F0 m (pc + 3) ls (.int v :: rest))) : W p l e R s m args below meth c H locs cells slots Q (F0 m pc ls (hw_vr b x :: rest)) := by
  cases x with
  | none => cases he; exact lv_instN hx hb hdg kk
  | some a =>
    unfold hw_io at he
    by_cases hq : hw_qL (σ.1 a) = true
    · simp only [if_pos hq] at he
      rcases hw_qL_or hq with h | h | h | h | h | h | h
      · have ev : v = 0 := by rw [h] at he; exact (Option.some.inj he).symm
        subst ev
        exact va_instNo (C := RX0) hx hb hown hlink (hw_nocast hE (List.mem_of_getElem? (i := 30) rfl)) (hw_recv hE hR (rfl : vwCl[0]? = some (RX0, TX0, 8)) (by decide) h) hdg kk
      · have ev : v = 0 := by rw [h] at he; exact (Option.some.inj he).symm
        subst ev
        exact va_instNo (C := RX1) hx hb hown hlink (hw_nocast hE (List.mem_of_getElem? (i := 29) rfl)) (hw_recv hE hR (rfl : vwCl[1]? = some (RX1, TX1, 8)) (by decide) h) hdg kk
      · have ev : v = 0 := by rw [h] at he; exact (Option.some.inj he).symm
        subst ev
        exact va_instNo (C := RX2) hx hb hown hlink (hw_nocast hE (List.mem_of_getElem? (i := 28) rfl)) (hw_recv hE hR (rfl : vwCl[2]? = some (RX2, TX2, 8)) (by decide) h) hdg kk
      · have ev : v = 0 := by rw [h] at he; exact (Option.some.inj he).symm
        subst ev
        exact va_instNo (C := RX3) hx hb hown hlink (hw_nocast hE (List.mem_of_getElem? (i := 32) rfl)) (hw_recv hE hR (rfl : vwCl[3]? = some (RX3, TX3, 8)) (by decide) h) hdg kk
      · have ev : v = 1 := by rw [h] at he; exact (Option.some.inj he).symm
        subst ev
        exact va_instS hx hb hown hlink (hE.1.1 5 _ (rfl : vwCl[5]? = some (RX5, TX5, 8))).2 (hw_recv hE hR (rfl : vwCl[5]? = some (RX5, TX5, 8)) (by decide) h) hdg kk
      · have ev : v = 0 := by rw [h] at he; exact (Option.some.inj he).symm
        subst ev
        exact va_instNo (C := RX6) hx hb hown hlink (hw_nocast hE (List.mem_of_getElem? (i := 31) rfl)) (hw_recv hE hR (rfl : vwCl[6]? = some (RX6, TX6, 8)) (by decide) h) hdg kk
      · have ev : v = 0 := by rw [h] at he; exact (Option.some.inj he).symm
        subst ev
        exact va_instNo (C := RX7) hx hb hown hlink (hw_nocast hE (List.mem_of_getElem? (i := 27) rfl)) (hw_recv hE hR (rfl : vwCl[7]? = some (RX7, TX7, 8)) (by decide) h) hdg kk
    · simp only [if_neg hq] at he; cases he
theorem hw_anew {t : Nat} {C : String} {a : Nat} (htC : hw_ty t = .object C) (h2 : ¬ t < 2) (h5 : t < 5) (hx : p.tables.exec = Jvm.exec) (hb : c.code = cc) (hown : s.vm.findClass own = some m.cls) (hclink : (Cond.classLink own index C).before args s = true) (hover : va_AO C s) (hK : va_K D.1 vwCl (hw_tys D) s) (hR : hw_R D b σ H) (hS : va_S (fun q => b ≤ q) H0 H locs) {n : Int32} {N : Nat} (he : hw_anO t n σ = some (a, τ)) (hN : n.toNatClampNeg ≤ N) (hcells : cells + 1 ≤ R.cells) (hslots : slots + N ≤ R.slots) (hdg : decode cc pc = .ok (.anewarray index, 3))
    (kk : ∀ H1 : Heap, hw_R D b τ H1 → va_S (fun q => b ≤ q) H0 H1 locs → W p l e R s m args below meth c H1 locs (cells + 1) (slots + N) Q (F0 m (pc + 3) ls (hw_vr b (some a) :: rest))) : W p l e R s m args below meth c H locs cells slots Q (F0 m pc ls (.int n :: rest)) := by
  unfold hw_anO hw_naO at he
  by_cases hq : n < 0 ∨ 100000 < n.toNatClampNeg
  · rw [if_pos hq] at he; cases he
  · rw [if_neg hq] at he
    injection he with he
    injection he with h1 h3
    subst h1; subst h3
    have h6 : n.toNatClampNeg ≤ 100000 := Nat.not_lt.mp (fun h => hq (Or.inr h))
    refine W.anew hx hb hown hclink (va_AO.use hover) rfl hdg rfl (fun h => hq (Or.inl h)) (by omega) hcells (by omega) fun cA kA comp f1 f2 f3 f4 => ?_
    have hkt := (hE_ra (hK.2 t _ (hw_tys_at D h5)).2 htC)
    have ecA : cA = D.2 t := Option.some.inj (f1.symm.trans hkt)
    subst ecA
    have hz : H.size = b + σ.2.2.2.2 := hR.1
    generalize hH1 : H.push ({ cls := D.2 t, slots := Array.replicate n.toNatClampNeg .null, vm := .none } : Cell) = H1
    have z1 : H1.size = H.size + 1 := by rw [← hH1, Array.size_push]
    have e1 : H1[H.size]? = some (arrV (D.2 t) n.toNatClampNeg (fun _ => .null)) := by rw [← hH1, Array.getElem?_push_size, ← arrV_new]
    have o1 : ∀ q : Nat, q < H.size → H1[q]? = H[q]? := fun q hq => by rw [← hH1, Array.getElem?_push, if_neg (Nat.ne_of_lt hq)]
    have ez : (Value.ref H.size :: rest) = (hw_vr b (some σ.2.2.2.2) :: rest) := by rw [hz]; rfl
    rw [ez]
    refine W.widen (Nat.le_refl _) (by omega) (kk H1 (hw_nw_arr hR h5 z1 o1 (by rw [e1, if_neg h2])) ⟨Nat.le_trans hS.1 (by omega), fun x g1 g2 => (o1 x (by have := hS.1; omega)).trans (hS.2.1 x g1 g2), hS.2.2⟩)
theorem hw_copyI (hx : p.tables.exec = Jvm.exec) (hb : c.code = cc) (hml : c.maxLocals = nL) (hl : hw_L ls nL j lv) (hown : s.vm.findClass own = some m.cls) (hlink : (Cond.methodLink own index arraycopyName).before args s = true) (hnat : (Cond.native arraycopyName).before args s = true) (hstat : (Cond.static arraycopyName).before args s = true) (hini : (Cond.initialized "java/lang/System").before args s = true)
    (hK : va_K D.1 vwCl (hw_tys D) s) (hR : hw_R D b σ H) (hS : va_S (fun q => b ≤ q) H0 H locs) {x y : Option Nat} {n : Int32} (he : hw_cpI x y n σ = some τ) (hframes : 1 ≤ R.frames) (hlocals : (rest.map fun v => v.category).sum ≤ 8 ∧ 8 + (nativeFrameWords "java/lang/System" "arraycopy" 5 + 11) ≤ R.locals) (hdg : decode cc pc = .ok (.invokestatic index, 3))
    (kk : ∀ (H1 : Heap) (locs1 : List Loc), hw_R D b τ H1 → va_S (fun q => b ≤ q) H0 H1 locs1 → W p l e R s m args below meth c H1 locs1 cells slots Q (F0 m (pc + 3) ls rest)) : W p l e R s m args below meth c H locs cells slots Q (F0 m pc ls (.int n :: .int 0 :: hw_vr b y :: .int 0 :: hw_vr b x :: rest)) := by
  cases x with
  | none => cases he
  | some a =>
    cases y with
    | none => cases he
    | some d =>
      unfold hw_cpI at he
      by_cases hq : (σ.1 a = 21 ∧ σ.1 d = 21) ∧ (¬ n < 0 ∧ n.toNatClampNeg ≤ σ.2.1 a ∧ n.toNatClampNeg ≤ σ.2.1 d)
      · simp only [if_pos hq] at he
        cases he
        obtain ⟨⟨ha, hd⟩, h3, h4, h5⟩ := hq
        have hc0 : H[b + a]? = some (vp_cell (D.2 0) (σ.2.1 a, .inl (σ.2.2.1 a))) := (hR.2 a).2 0 ha (by decide)
        have hc1 : H[b + d]? = some (vp_cell (D.2 0) (σ.2.1 d, .inl (σ.2.2.1 d))) := (hR.2 d).2 0 hd (by decide)
        have nn : ∀ z : Int32, ¬ z < 0 → z.toInt = (z.toNatClampNeg : Int) := by
          intro z hz
          have hz0 : (0 : Int) ≤ z.toInt := by
            have := Int32.not_lt.mp hz
            simpa using Int32.le_iff_toInt_le.mp this
          show z.toInt = ((z.toInt.toNat : Nat) : Int)
          omega
        have hk0 := (hK.2 0 _ (hw_tys_at D (t := 0) (by decide))).1
        intro T hT X
        obtain ⟨-, k0, hk0, cm0, hkk0⟩ := hk0 (σ.2.1 a) (fun j => .int (σ.2.2.1 a j))
        have h1 : ¬ (0 : Int32) < 0 := by decide
        have ec0 : (0 : Int32).toNatClampNeg = 0 := by decide
        obtain ⟨vm', X', step⟩ := X.arraycopy hx hown hlink hnat hstat hini (src := b + a) (dst := b + d) (cs := vp_cell (D.2 0) (σ.2.1 a, .inl (σ.2.2.1 a))) (cd := vp_cell (D.2 0) (σ.2.1 d, .inl (σ.2.2.1 d))) (srcPos := 0) (destPos := 0) (n := n) (by rw [hT]; exact hc0) (by rw [hT]; exact hc1)
          (fun _ h => by cases h) (fun _ h => by cases h) (fun h => by cases h) (fun h => by cases h) hk0 hk0 hkk0 hkk0 (by simp [hw_ty]) h1 h1 h3
          (by rw [nn n h3]; show ¬ _ > ((arrV _ _ (fun j => .int (σ.2.2.1 a j))).slots.size : Int); rw [arrV_size]; simp; omega)
          (by rw [nn n h3]; show ¬ _ > ((arrV _ _ (fun j => .int (σ.2.2.1 d j))).slots.size : Int); rw [arrV_size]; simp; omega)
          (fun vm₁ _ i hi => by
            have e : (vp_cell (D.2 0) (σ.2.1 a, .inl (σ.2.2.1 a))).slots.getD ((0 : Int32).toNatClampNeg + i) .null = .int (σ.2.2.1 a ((0 : Int32).toNatClampNeg + i)) := by
              show (arrV (D.2 0) (σ.2.1 a) (fun j => .int (σ.2.2.1 a j))).slots.getD _ _ = _
              rw [Array.getD_eq_getD_getElem?, arrV_read _ _ (by omega)]
              rfl
            refine ⟨?_, ?_⟩
            · rw [e]
              rfl
            · rw [e]
              exact trivial)
          (g := F0 m pc ls (.int n :: .int 0 :: .ref (b + d) :: .int 0 :: .ref (b + a) :: rest)) rfl (by rw [hml]; exact hl.sz) (rest := rest) rfl (by rw [hb]; exact hdg) hframes (by show 2 * 0 + _ + _ ≤ _; omega)
        have e1 : copied (vp_cell (D.2 0) (σ.2.1 a, .inl (σ.2.2.1 a))) (vp_cell (D.2 0) (σ.2.1 d, .inl (σ.2.2.1 d))) 0 0 n = vp_cell (D.2 0) (σ.2.1 d, .inl (va_cpy (σ.2.2.1 a) (σ.2.2.1 d) (0 : Int32).toNatClampNeg (0 : Int32).toNatClampNeg n.toNatClampNeg)) := va_copied (fun z => .int z) (D.2 0) (D.2 0) (σ.2.2.1 a) (σ.2.2.1 d) (by omega)
        rw [e1] at X' step
        have hl2 : b + d < H.size := (Array.getElem?_eq_some_iff.mp hc1).1
        have hheap : ((T.setVm vm').setCell (b + d) (vp_cell (D.2 0) (σ.2.1 d, .inl (va_cpy (σ.2.2.1 a) (σ.2.2.1 d) (0 : Int32).toNatClampNeg (0 : Int32).toNatClampNeg n.toNatClampNeg)))).heap = H.setIfInBounds (b + d) (vp_cell (D.2 0) (σ.2.1 d, .inl (va_cpy (σ.2.2.1 a) (σ.2.2.1 d) (0 : Int32).toNatClampNeg (0 : Int32).toNatClampNeg n.toNatClampNeg))) := by rw [← hT]; rfl
        have oq : ∀ q : Nat, q ≠ b + d → (H.setIfInBounds (b + d) (vp_cell (D.2 0) (σ.2.1 d, .inl (va_cpy (σ.2.2.1 a) (σ.2.2.1 d) (0 : Int32).toNatClampNeg (0 : Int32).toNatClampNeg n.toNatClampNeg))))[q]? = H[q]? := fun q hq => by simp [Array.getElem?_setIfInBounds, Ne.symm hq]
        have hnew : hw_R D b (σ.1, σ.2.1, (fun z => if z = d then (fun j => if j < n.toNatClampNeg then σ.2.2.1 a j else σ.2.2.1 d j) else σ.2.2.1 z), σ.2.2.2) (H.setIfInBounds (b + d) (vp_cell (D.2 0) (σ.2.1 d, .inl (va_cpy (σ.2.2.1 a) (σ.2.2.1 d) (0 : Int32).toNatClampNeg (0 : Int32).toNatClampNeg n.toNatClampNeg)))) := by
          refine hR.put rfl (by simp) oq (fun z h => ⟨rfl, rfl, by show (if z = d then _ else _) = _; rw [if_neg h], rfl⟩) ⟨fun ci g1 g2 => ?_, fun t g1 g2 => ?_⟩
          · have g1 : σ.1 d = ci + 1 := g1
            omega
          · have g1 : σ.1 d = t + 21 := g1
            have e0 : t = 0 := by omega
            subst e0
            have e5 : va_cpy (σ.2.2.1 a) (σ.2.2.1 d) (0 : Int32).toNatClampNeg (0 : Int32).toNatClampNeg n.toNatClampNeg = (fun j => if j < n.toNatClampNeg then σ.2.2.1 a j else σ.2.2.1 d j) := by
              funext j
              rw [ec0]
              unfold va_cpy
              by_cases hj : j < n.toNatClampNeg
              · simp [hj]
              · simp [hj]
            rw [e5]
            unfold hw_ac
            simp [Array.getElem?_setIfInBounds, hl2]
        obtain ⟨t, a1, b1⟩ := kk _ _ hnew ⟨by simp; exact hS.1, fun q g1 g2 => by
            rw [oq q (fun e => g2 (by rw [e]; exact Nat.le_add_right b d))]
            exact hS.2.1 q g1 g2, fun q hq => by
            rcases List.mem_append.mp hq with h | h
            · exact hS.2.2 q h
            · obtain ⟨z, -, hz⟩ := List.mem_map.mp h
              rw [← hz]
              exact Nat.le_add_right b d⟩ _ hheap X'
        exact ⟨t, step t a1, b1⟩
      · simp only [if_neg hq] at he; cases he
end HW6
section HW7
variable {p : Program} {l : Launch} {e : Env} {R : Room} {s : State} {m : MethodId} {args : Array Value} {below : List Frame} {meth : Method} {c : Code}
theorem hw_sub1 {A B : String} {vm : State} {args : Array Value} {ca cb : ClassId} (h : (Cond.superclass A B).before args vm = true) (ha : vm.vm.findClass A = some ca) (hb : vm.vm.findClass B = some cb) : vm.vm.isSubclass ca cb = true := by
  obtain ⟨ps, dk, kp, hps, hdk, hkp, hsuper, -, -, -⟩ := Cond.superclass_spec ha h
  cases hb.symm.trans hps
  have hlt := (Array.getElem?_eq_some_iff.mp hdk).1
  obtain ⟨n, hn⟩ : ∃ n, vm.vm.classes.size = n + 1 := ⟨vm.vm.classes.size - 1, by omega⟩
  unfold Vm.isSubclass
  rw [hn]
  simp [Vm.isSubclassAux, hdk, hsuper]
theorem hw_callSU2 {T : State} {locs : List Loc} {cells slots : Nat} (X : Stand p l e R s m args below meth c T locs cells slots) (hexec : p.tables.exec = Jvm.exec) {own : String} {index : Nat} {x y : MethodName} {bytes : ByteArray} {maxL : Nat} {ret : Option FieldType}
    (hown : s.vm.findClass own = some m.cls) (hlink : (Cond.methodLink own index x).before args s = true) (hsame : (Cond.sameMethod x.cls y.cls x.name x.desc).before args s = true) (hsup : (Cond.superclass own x.cls).before args s = true) (hsup2 : (Cond.superclass x.cls y.cls).before args s = true)
    (hxy : y = ⟨y.cls, x.name, x.desc⟩) (hinst : (Cond.instanceMethod y).before args s = true) (hcode : (Cond.code y bytes maxL ret).before args s = true) (hno : x.name ≠ "<init>")
    {W : Nat} {Pre : Pt → Array Value → Prop} {Post : Pt → Array Value → Option Value → Pt → Prop} (hK : Back l R p e below s args y 3 W Pre Post)
    {b : Addr} {cellB : Cell} {kB : Class} (hcell : T.heap[b]? = some cellB) (hobj : cellB.vm.isStatics = false) (hkB : s.vm.classes[cellB.cls]? = some kB)
    {g : JFrame} (hg : g.method = m) (hsize : g.locals.size = c.maxLocals) {argsL rest : List Value} (hlen : ∀ sig, parseMethodDescriptor y.desc = some sig → argsL.length = sig.parameters.length)
    (hstack : g.stack = argsL.reverse ++ .ref b :: rest) (hW : 2 * g.monitorRoom + (rest.map fun v => v.category).sum ≤ W) (hdg : decode c.code g.pc = .ok (.invokespecial index, 3))
    (hpre : ∀ vm₁, s.WarmedH vm₁ → Pre ⟨T.setVm vm₁, locs, cells, slots⟩ (Value.ref b :: argsL).toArray) :
    ∃ (v : Option Value) (vm₁ : Vm) (B : Pt), s.WarmedH vm₁ ∧ Stand p l e R s m args below meth c B.U B.locs B.cells B.slots ∧ Post ⟨T.setVm vm₁, locs, cells, slots⟩ (Value.ref b :: argsL).toArray v B ∧
      ∀ target, Steps p.tables e below (B.U.setTop { g with pc := g.pc + 3, stack := v.toList ++ rest }) target → Steps p.tables e below (T.setTop g) target := by
  obtain ⟨mk, methM, hnamed, hmethM, hstM, habM⟩ := Cond.instanceMethod_spec hinst
  obtain ⟨methM', cM, hmethM', -, -, -, -, -, -, hsigM⟩ := Cond.code_spec hnamed hcode
  cases hmethM.symm.trans hmethM'
  obtain ⟨ps, dk, kp, hps, hdk, hkp, hsuper, -, -, hnid⟩ := Cond.superclass_spec hown hsup
  have hn : s.methodNamed? ⟨y.cls, x.name, x.desc⟩ = some mk := by rw [← hxy]; exact hnamed
  have hsub : s.vm.isSubclass ps mk.cls = true := hw_sub1 hsup2 hps (findClass_of_methodNamed hnamed)
  obtain ⟨vm₁, X₁, hstep₁⟩ := X.invokespecialUp hexec hown hlink hsame hn hmethM hstM habM hno hdk hnid hps hsuper hsub (a := b) (cell := cellB) hcell
    (fun z h => by rw [h] at hobj; cases hobj) hkB (g := g) hg (argsL := argsL) (rest := rest) (hlen _ hsigM) hstack hdg
  obtain ⟨v, B, X', hpost, hsteps⟩ := hK m meth c ⟨T.setVm vm₁, locs, cells, slots⟩ { g with stack := rest } (.invokespecial index) mk (Value.ref b :: argsL).toArray X₁ hg hsize hdg hW (X₁.named hnamed) (hpre vm₁ X₁.warmed)
  exact ⟨v, vm₁, B, X₁.warmed, X', hpost, fun target h => hstep₁ _ (by rw [doInvoke_state]; exact hsteps.trans h)⟩
theorem hw_runSU2 {H : Heap} {locs : List Loc} {cells slots : Nat} {x y : MethodName} {bytes cc : ByteArray} {maxL nL mc ms index : Nat} {ret : Option FieldType} {ws' : List Cond} {rm : Room} {Pc : Array Value → State → Prop} {Qc : Array Value → State → Outcome → State → Prop} {free : Addr → Prop} {own C : String} {cC : ClassId} {b : Addr} {As rest : List Value} {g : JFrame}
    (hat : ClassAt s C cC) (S : CallFix p m c cc nL s args wsL_law own) (hM : Met l y (Cond.code y bytes maxL ret :: ws') rm Pc Qc mc ms free) (n : Nat) (hlink : (Cond.methodLink own index x).before args s = true) (hsame : (Cond.sameMethod x.cls y.cls x.name x.desc).before args s = true) (hsup : (Cond.superclass own x.cls).before args s = true) (hsup2 : (Cond.superclass x.cls y.cls).before args s = true) (hinst : (Cond.instanceMethod y).before args s = true) (hini : (Cond.initialized y.cls).before args s = true) (hG : GoodIn wsL_law (Cond.code y bytes maxL ret :: ws'))
    (hd : y = ⟨y.cls, x.name, x.desc⟩ ∧ x.name ≠ "<init>" ∧ (parseMethodDescriptor y.desc).map (fun d => d.parameters.length) = some n) (hfr : rm.frames + 1 ≤ R.frames) (hlo : 8 + (maxL + 11) + rm.locals ≤ R.locals) (hp : PreV s H C b Pc As)
    (hg : g.method = m) (hn : As.length = n) (hsize : g.locals.size = nL) (hstack : g.stack = As.reverse ++ .ref b :: rest) (hW : 2 * g.monitorRoom + (rest.map fun v => v.category).sum ≤ 8) (hdg : decode cc g.pc = .ok (.invokespecial index, 3)) (hf : cells + mc ≤ R.cells ∧ slots + ms ≤ R.slots) (hrc : rm.cells = mc := by rfl) (hrs : rm.slots = ms := by rfl) :
    va_Run p l e R s m args below meth c H locs cells slots mc ms g rest (Qc (Value.ref b :: As).toArray) (free) := by
  obtain ⟨hx, hb, hml, ho, ht⟩ := S
  have hcw : Cond.code y bytes maxL ret ∈ (Cond.code y bytes maxL ret :: ws') := List.mem_cons_self
  have hcode := ht _ (hG _ hcw).1
  have hlen : ∀ sig, parseMethodDescriptor y.desc = some sig → n = sig.parameters.length := fun sig h => by
    have h2 := hd.2.2
    rw [h] at h2
    exact (Option.some.inj h2).symm
  have hK : Back l R p e below s args y 3 8 (PreOf R mc ms Pc) (PostOf Qc mc ms free) := back_of (bytes := bytes) (maxL := maxL) (ret := ret) hM hp.1 hrc hrs hfr hlo (pay_in ht hG) hcw (fun a' U hW => word_at hW (Or.inl (by first | rfl | simp [Cond.onTables, Cond.keeps, Cond.steady])) hini)
  obtain ⟨-, ⟨cellB, hcB, hoB, hclB⟩, hPc⟩ := hp
  obtain ⟨hfc, kB, hkB, -⟩ := hat
  cases hfc.symm.trans hclB
  intro T hT X
  obtain ⟨v, vm₁, ⟨U', l2, c2, s2⟩, hW₁, X', ⟨g', mk, t, L, e1, e2, hq, h1, hL, h2, h3⟩, st⟩ := hw_callSU2 X hx (bytes := bytes) (maxL := maxL) (ret := ret) ho hlink hsame hsup hsup2 hd.1 hinst hcode hd.2.1 hK (by rw [hT]; exact hcB) hoB hkB hg (hsize.trans hml.symm) (argsL := As) (rest := rest) (fun sig h => hn.trans (hlen sig h)) hstack hW (by rw [hb]; exact hdg)
    (fun vm₁ hW₁ => ⟨hf.1, hf.2, hPc (T.setVm vm₁) hT hW₁⟩)
  dsimp only [Pt.U, Pt.locs, Pt.cells, Pt.slots] at X' e1 e2 h1 h2 h3 st
  subst h1; subst h2; subst h3
  exact ⟨v, (T.setVm vm₁).calling g' mk (Value.ref b :: As).toArray, t, U', L, hT, X', hL, e1, e2, hq, st⟩
end HW7
