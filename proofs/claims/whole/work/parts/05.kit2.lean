theorem hw_vr_or (b : Nat) (r : Option Nat) : hw_vr b r = .null ∨ ∃ a, hw_vr b r = .ref a := va_rf_or _
theorem hw_vr_cat (b : Nat) (r : Option Nat) : (hw_vr b r).category = 1 := by cases r <;> rfl
theorem hw_eq_at {t : Nat} {σ : hw_S} {a : Nat} (h : σ.1 a = t + 21) (D : hw_D) (b : Nat) {H : Heap} (ht : t < 5) (hR : hw_R D b σ H) : H[b + a]? = some (vp_cell (D.2 t) (hw_ac b σ t a)) := (hR.2 a).2 t h ht
section HW2
variable {p : Program} {l : Launch} {e : Env} {R : Room} {s : State} {m : MethodId} {args : Array Value} {below : List Frame} {meth : Method} {c : Code} {H : Heap} {locs : List Loc} {cells slots : Nat} {Q : State → Prop}
variable {cc : ByteArray} {pc : Nat} {ls : Array Slot} {rest : List Value} {D : hw_D} {b : Nat} {σ : hw_S} {own : String} {index : Nat} {H0 : Heap}
theorem hw_aload_n (hx : p.tables.exec = Jvm.exec) (hb : c.code = cc) {k : Fin 4} {i : Nat} {x : Option Nat} (hdg : decode cc pc = .ok (.aload_n k, 1)) (hi : (k : Nat) = i) (hl : ls[i]? = some (.val (hw_vr b x)))
    (kk : W p l e R s m args below meth c H locs cells slots Q (F0 m (pc + 1) ls (hw_vr b x :: rest))) : W p l e R s m args below meth c H locs cells slots Q (F0 m pc ls rest) := by
  cases x with
  | none => exact lv_aload_nN hx hb hdg hi hl kk
  | some a => exact lv_aload_n hx hb hdg hi hl kk
theorem hw_aload (hx : p.tables.exec = Jvm.exec) (hb : c.code = cc) {i : Nat} {x : Option Nat} (hdg : decode cc pc = .ok (.aload i, 2)) (hl : ls[i]? = some (.val (hw_vr b x)))
    (kk : W p l e R s m args below meth c H locs cells slots Q (F0 m (pc + 2) ls (hw_vr b x :: rest))) : W p l e R s m args below meth c H locs cells slots Q (F0 m pc ls rest) := by
  cases x with
  | none => exact lv_aloadN hx hb hdg hl kk
  | some a => exact lv_aload hx hb hdg hl kk
theorem hw_astore_n (hx : p.tables.exec = Jvm.exec) (hb : c.code = cc) {k : Fin 4} {i nL : Nat} {x : Option Nat} {lv lv' : List (Nat × Value)} (hdg : decode cc pc = .ok (.astore_n k, 1)) (hi : (k : Nat) = i) (h : lv_has ls nL lv) (hn : i < nL) (hl : (i, hw_vr b x) :: lv.filter (fun q => !(q.1 == i) && !(q.1 + 1 == i && q.2.category == 2)) = lv')
    (kk : ∀ ls' : Array Slot, lv_has ls' nL lv' → W p l e R s m args below meth c H locs cells slots Q (F0 m (pc + 1) ls' rest)) : W p l e R s m args below meth c H locs cells slots Q (F0 m pc ls (hw_vr b x :: rest)) := by
  cases x with
  | none => exact lv_astore_nN hx hb hdg hi h hn hl kk
  | some a => exact lv_astore_n hx hb hdg hi h hn hl kk
theorem hw_astore (hx : p.tables.exec = Jvm.exec) (hb : c.code = cc) {i nL : Nat} {x : Option Nat} {lv lv' : List (Nat × Value)} (hdg : decode cc pc = .ok (.astore i, 2)) (h : lv_has ls nL lv) (hn : i < nL) (hl : (i, hw_vr b x) :: lv.filter (fun q => !(q.1 == i) && !(q.1 + 1 == i && q.2.category == 2)) = lv')
    (kk : ∀ ls' : Array Slot, lv_has ls' nL lv' → W p l e R s m args below meth c H locs cells slots Q (F0 m (pc + 2) ls' rest)) : W p l e R s m args below meth c H locs cells slots Q (F0 m pc ls (hw_vr b x :: rest)) := by
  cases x with
  | none => exact lv_astoreN hx hb hdg h hn hl kk
  | some a => exact lv_astore hx hb hdg h hn hl kk
theorem hw_ifnull (hx : p.tables.exec = Jvm.exec) (hb : c.code = cc) {x : Option Nat} {off : Int} {tgt : Nat} (hdg : decode cc pc = .ok (.ifnull off, 3)) (ht : (pc : Int) + off = (tgt : Int))
    (k1 : x = none → W p l e R s m args below meth c H locs cells slots Q (F0 m tgt ls rest)) (k2 : ¬ x = none → W p l e R s m args below meth c H locs cells slots Q (F0 m (pc + 3) ls rest)) : W p l e R s m args below meth c H locs cells slots Q (F0 m pc ls (hw_vr b x :: rest)) := by
  cases x with
  | none => exact lv_ifnullN hx hb hdg ht (k1 rfl)
  | some a => exact lv_ifnull hx hb hdg (k2 (fun h => by cases h))
theorem hw_ifnonnull (hx : p.tables.exec = Jvm.exec) (hb : c.code = cc) {x : Option Nat} {off : Int} {tgt : Nat} (hdg : decode cc pc = .ok (.ifnonnull off, 3)) (ht : (pc : Int) + off = (tgt : Int))
    (k1 : ¬ x = none → W p l e R s m args below meth c H locs cells slots Q (F0 m tgt ls rest)) (k2 : x = none → W p l e R s m args below meth c H locs cells slots Q (F0 m (pc + 3) ls rest)) : W p l e R s m args below meth c H locs cells slots Q (F0 m pc ls (hw_vr b x :: rest)) := by
  cases x with
  | none => exact lv_ifnonnullN hx hb hdg (k2 rfl)
  | some a => exact lv_ifnonnull hx hb hdg ht (k1 (fun h => by cases h))
theorem hw_null (hx : p.tables.exec = Jvm.exec) (hb : c.code = cc) (b : Nat) (hdg : decode cc pc = .ok (.aconst_null, 1)) (kk : W p l e R s m args below meth c H locs cells slots Q (F0 m (pc + 1) ls (hw_vr b none :: rest))) : W p l e R s m args below meth c H locs cells slots Q (F0 m pc ls rest) := lv_null hx hb hdg kk
-- arrays
theorem hw_aI_of {t : Nat} {x : Option Nat} {i v : Int32} (h : hw_aI t x i σ = some v) : ∃ a, x = some a ∧ σ.1 a = t + 21 ∧ vp_in i (σ.2.1 a) ∧ v = σ.2.2.1 a i.toNatClampNeg := by
  cases x with
  | none => cases h
  | some a =>
    unfold hw_aI at h
    by_cases hq : σ.1 a = t + 21 ∧ ¬ (i < 0 ∨ σ.2.1 a ≤ i.toNatClampNeg)
    · simp only [if_pos hq] at h; cases h; exact ⟨a, rfl, hq.1, hq.2, rfl⟩
    · simp only [if_neg hq] at h; cases h
theorem hw_aP_of {t : Nat} {x : Option Nat} {i : Int32} {v : Option Nat} (h : hw_aP t x i σ = some v) : ∃ a, x = some a ∧ σ.1 a = t + 21 ∧ vp_in i (σ.2.1 a) ∧ v = σ.2.2.2.1 a i.toNatClampNeg := by
  cases x with
  | none => cases h
  | some a =>
    unfold hw_aP at h
    by_cases hq : σ.1 a = t + 21 ∧ ¬ (i < 0 ∨ σ.2.1 a ≤ i.toNatClampNeg)
    · simp only [if_pos hq] at h; cases h; exact ⟨a, rfl, hq.1, hq.2, rfl⟩
    · simp only [if_neg hq] at h; cases h
theorem hw_iald (hx : p.tables.exec = Jvm.exec) (hb : c.code = cc) (hK : va_K D.1 vwCl (hw_tys D) s) (hR : hw_R D b σ H) {x : Option Nat} {i v : Int32} (he : hw_aI 0 x i σ = some v) (hdg : decode cc pc = .ok (.iaload, 1))
    (kk : W p l e R s m args below meth c H locs cells slots Q (F0 m (pc + 1) ls (.int v :: rest))) : W p l e R s m args below meth c H locs cells slots Q (F0 m pc ls (.int i :: hw_vr b x :: rest)) := by
  obtain ⟨a, rfl, ht, hin, rfl⟩ := hw_aI_of he
  have hc := (hR.2 a).2 0 ht (by decide)
  rw [show hw_ac b σ 0 a = (σ.2.1 a, .inl (σ.2.2.1 a)) from rfl] at hc
  have hlt : i.toNatClampNeg < σ.2.1 a := Nat.not_le.mp fun q => hin (Or.inr q)
  exact W.iald (v := .int (σ.2.2.1 a i.toNatClampNeg)) hx hb hc ((hK.2 0 _ (hw_tys_at D (t := 0) (by decide))).1 (σ.2.1 a) (fun j => .int (σ.2.2.1 a j))) (fun q => by cases q) (by show ¬ (i < 0 ∨ (arrV _ _ _).slots.size ≤ _); rw [arrV_size]; exact hin) (by show (arrV _ _ _).slots[_]? = _; rw [arrV_read _ _ hlt]) rfl rfl hdg kk
theorem hw_zald (hx : p.tables.exec = Jvm.exec) (hb : c.code = cc) (hK : va_K D.1 vwCl (hw_tys D) s) (hR : hw_R D b σ H) {x : Option Nat} {i v : Int32} (he : hw_aI 1 x i σ = some v) (hdg : decode cc pc = .ok (.baload, 1))
    (kk : W p l e R s m args below meth c H locs cells slots Q (F0 m (pc + 1) ls (.int v :: rest))) : W p l e R s m args below meth c H locs cells slots Q (F0 m pc ls (.int i :: hw_vr b x :: rest)) := by
  obtain ⟨a, rfl, ht, hin, rfl⟩ := hw_aI_of he
  have hc := (hR.2 a).2 1 ht (by decide)
  rw [show hw_ac b σ 1 a = (σ.2.1 a, .inl (σ.2.2.1 a)) from rfl] at hc
  have hlt : i.toNatClampNeg < σ.2.1 a := Nat.not_le.mp fun q => hin (Or.inr q)
  exact W.zald (v := .int (σ.2.2.1 a i.toNatClampNeg)) hx hb hc ((hK.2 1 _ (hw_tys_at D (t := 1) (by decide))).1 (σ.2.1 a) (fun j => .int (σ.2.2.1 a j))) (fun q => by cases q) (by show ¬ (i < 0 ∨ (arrV _ _ _).slots.size ≤ _); rw [arrV_size]; exact hin) (by show (arrV _ _ _).slots[_]? = _; rw [arrV_read _ _ hlt]) rfl rfl hdg kk
theorem hw_aald {t : Nat} (h2 : 2 ≤ t) (h5 : t < 5) (hx : p.tables.exec = Jvm.exec) (hb : c.code = cc) (hK : va_K D.1 vwCl (hw_tys D) s) (hR : hw_R D b σ H) {x : Option Nat} {i : Int32} {v : Option Nat} (he : hw_aP t x i σ = some v) (hdg : decode cc pc = .ok (.aaload, 1))
    (kk : W p l e R s m args below meth c H locs cells slots Q (F0 m (pc + 1) ls (hw_vr b v :: rest))) : W p l e R s m args below meth c H locs cells slots Q (F0 m pc ls (.int i :: hw_vr b x :: rest)) := by
  obtain ⟨a, rfl, ht, hin, rfl⟩ := hw_aP_of he
  have hc := (hR.2 a).2 t ht h5
  have e1 : hw_ac b σ t a = (σ.2.1 a, .inr (.inr (.inr (.inr (fun j => (σ.2.2.2.1 a j).map (fun q => b + q)))))) := by unfold hw_ac; rw [if_neg (by omega)]
  rw [e1] at hc
  have hlt : i.toNatClampNeg < σ.2.1 a := Nat.not_le.mp fun q => hin (Or.inr q)
  exact W.aald (v := hw_vr b (σ.2.2.2.1 a i.toNatClampNeg)) (ty := hw_ty t) hx hb hc ((hK.2 t _ (hw_tys_at D h5)).1 (σ.2.1 a) (fun j => va_rf ((σ.2.2.2.1 a j).map (fun q => b + q)))) (by match t, h2, h5 with | 2, _, _ => rfl | 3, _, _ => rfl | 4, _, _ => rfl) (fun q => by cases q) (by show ¬ (i < 0 ∨ (arrV _ _ _).slots.size ≤ _); rw [arrV_size]; exact hin) (by show (arrV _ _ _).slots[_]? = _; rw [arrV_read _ _ hlt]; rfl) rfl rfl hdg kk
theorem hw_alen (hx : p.tables.exec = Jvm.exec) (hb : c.code = cc) (hK : va_K D.1 vwCl (hw_tys D) s) (hR : hw_R D b σ H) {x : Option Nat} {v : Int32} (he : hw_aL x σ = some v) (hdg : decode cc pc = .ok (.arraylength, 1))
    (kk : W p l e R s m args below meth c H locs cells slots Q (F0 m (pc + 1) ls (.int v :: rest))) : W p l e R s m args below meth c H locs cells slots Q (F0 m pc ls (hw_vr b x :: rest)) := by
  cases x with
  | none => cases he
  | some a =>
    unfold hw_aL at he
    by_cases hq : 21 ≤ σ.1 a ∧ σ.1 a < 26
    · simp only [if_pos hq] at he
      cases he
      obtain ⟨t, ht⟩ : ∃ t, σ.1 a = t + 21 := ⟨σ.1 a - 21, by omega⟩
      have h5 : t < 5 := by omega
      have hc := (hR.2 a).2 t ht h5
      by_cases h2 : t < 2
      · have e1 : hw_ac b σ t a = (σ.2.1 a, .inl (σ.2.2.1 a)) := by unfold hw_ac; rw [if_pos h2]
        rw [e1] at hc
        exact W.alen (n := Int32.ofNat (σ.2.1 a)) hx hb hc ((hK.2 t _ (hw_tys_at D h5)).1 (σ.2.1 a) (fun j => .int (σ.2.2.1 a j))) (by rw [vp_cell_i, arrV_size] <;> rfl) rfl rfl hdg kk
      · have e1 : hw_ac b σ t a = (σ.2.1 a, .inr (.inr (.inr (.inr (fun j => (σ.2.2.2.1 a j).map (fun q => b + q)))))) := by unfold hw_ac; rw [if_neg h2]
        rw [e1] at hc
        exact W.alen (n := Int32.ofNat (σ.2.1 a)) hx hb hc ((hK.2 t _ (hw_tys_at D h5)).1 (σ.2.1 a) (fun j => va_rf ((σ.2.2.2.1 a j).map (fun q => b + q)))) (by rw [vp_cell_q, arrV_size] <;> rfl) rfl rfl hdg kk
    · simp only [if_neg hq] at he; cases he
theorem hw_wI_arr {a k : Nat} {v : Int32} (hR : hw_R D b σ H) {H1 : Heap} (z : H1.size = H.size) (oq : ∀ q : Nat, q ≠ b + a → H1[q]? = H[q]?) {t : Nat} (ht : σ.1 a = t + 21) (h2 : t < 2) (g : H1[b + a]? = some ((vp_cell (D.2 t) (hw_ac b σ t a)).setSlot k (.int v))) : hw_R D b (hw_wI a k v σ) H1 := by
  refine hR.put rfl z oq (fun x h => hw_wI_eq h) ⟨fun ci h3 h4 => ?_, fun t' h3 h4 => ?_⟩
  · have h3 : σ.1 a = ci + 1 := h3
    omega
  · have h3 : σ.1 a = t' + 21 := h3
    have e0 : t' = t := by omega
    subst e0
    rw [g]
    have e1 : hw_ac b σ t' a = (σ.2.1 a, .inl (σ.2.2.1 a)) := by unfold hw_ac; rw [if_pos h2]
    have e2 : hw_ac b (hw_wI a k v σ) t' a = (σ.2.1 a, .inl (fun j => if j = k then v else σ.2.2.1 a j)) := by unfold hw_ac hw_wI; rw [if_pos h2]; simp
    rw [e1, e2, vp_cell_i, vp_cell_i, arrV_store]
    congr 2
    funext j
    by_cases hj : j = k
    · subst hj; simp [updV]
    · simp [updV, hj]
theorem hw_iast (hx : p.tables.exec = Jvm.exec) (hb : c.code = cc) (hK : va_K D.1 vwCl (hw_tys D) s) (hR : hw_R D b σ H) (hS : va_S (fun q => b ≤ q) H0 H locs) {x : Option Nat} {i v : Int32} {τ : hw_S} (he : hw_sI x i v σ = some τ) (hdg : decode cc pc = .ok (.iastore, 1))
    (kk : ∀ (H1 : Heap) (locs1 : List Loc), hw_R D b τ H1 → va_S (fun q => b ≤ q) H0 H1 locs1 → W p l e R s m args below meth c H1 locs1 cells slots Q (F0 m (pc + 1) ls rest)) : W p l e R s m args below meth c H locs cells slots Q (F0 m pc ls (.int v :: .int i :: hw_vr b x :: rest)) := by
  cases x with
  | none => cases he
  | some a =>
    unfold hw_sI at he
    by_cases hq : σ.1 a = 21 ∧ ¬ (i < 0 ∨ σ.2.1 a ≤ i.toNatClampNeg)
    · simp only [if_pos hq] at he
      cases he
      obtain ⟨ht, hin⟩ := hq
      have hc := (hR.2 a).2 0 ht (by decide)
      refine W.iast hx hb hc ((hK.2 0 _ (hw_tys_at D (t := 0) (by decide))).1 (σ.2.1 a) (fun j => .int (σ.2.2.1 a j))) (fun q => by cases q) (by show ¬ (i < 0 ∨ (arrV _ _ _).slots.size ≤ _); rw [arrV_size]; exact hin) rfl rfl hdg fun H1 g z oq => ?_
      exact kk H1 _ (hw_wI_arr hR z oq ht (by decide) g) (hS.put z oq (Nat.le_add_right b a))
    · simp only [if_neg hq] at he; cases he
theorem hw_zast (hx : p.tables.exec = Jvm.exec) (hb : c.code = cc) (hK : va_K D.1 vwCl (hw_tys D) s) (hR : hw_R D b σ H) (hS : va_S (fun q => b ≤ q) H0 H locs) {x : Option Nat} {i v : Int32} {τ : hw_S} (he : hw_sZ x i v σ = some τ) (hdg : decode cc pc = .ok (.bastore, 1))
    (kk : ∀ (H1 : Heap) (locs1 : List Loc), hw_R D b τ H1 → va_S (fun q => b ≤ q) H0 H1 locs1 → W p l e R s m args below meth c H1 locs1 cells slots Q (F0 m (pc + 1) ls rest)) : W p l e R s m args below meth c H locs cells slots Q (F0 m pc ls (.int v :: .int i :: hw_vr b x :: rest)) := by
  cases x with
  | none => cases he
  | some a =>
    unfold hw_sZ at he
    by_cases hq : (σ.1 a = 22 ∧ ¬ (i < 0 ∨ σ.2.1 a ≤ i.toNatClampNeg)) ∧ (v = 0 ∨ v = 1)
    · simp only [if_pos hq] at he
      cases he
      obtain ⟨⟨ht, hin⟩, hv⟩ := hq
      have hc := (hR.2 a).2 1 ht (by decide)
      refine W.zast hx hb hc ((hK.2 1 _ (hw_tys_at D (t := 1) (by decide))).1 (σ.2.1 a) (fun j => .int (σ.2.2.1 a j))) (fun q => by cases q) (by show ¬ (i < 0 ∨ (arrV _ _ _).slots.size ≤ _); rw [arrV_size]; exact hin) rfl rfl hdg fun H1 g z oq => ?_
      have en : narrow .boolean (.int v) = .int v := by rcases hv with rfl | rfl <;> rfl
      rw [en] at g
      exact kk H1 _ (hw_wI_arr hR z oq ht (by decide) g) (hS.put z oq (Nat.le_add_right b a))
    · simp only [if_neg hq] at he; cases he
-- new cells
def hw_nw (tag n : Nat) (σ : hw_S) : hw_S := ((fun x => if x = σ.2.2.2.2 then tag else σ.1 x), (fun x => if x = σ.2.2.2.2 then n else σ.2.1 x), (fun x => if x = σ.2.2.2.2 then (fun _ => 0) else σ.2.2.1 x), (fun x => if x = σ.2.2.2.2 then (fun _ => none) else σ.2.2.2.1 x), σ.2.2.2.2 + 1)
theorem hw_nw_eq {tag n x : Nat} (h : x ≠ σ.2.2.2.2) : hw_eq σ (hw_nw tag n σ) x := ⟨if_neg h, if_neg h, if_neg h, if_neg h⟩
theorem hw_at.lt {a : Nat} (h : hw_at D b σ a H) (h13 : σ.1 a ≠ 0) (h26 : σ.1 a < 14 ∨ (21 ≤ σ.1 a ∧ σ.1 a < 26)) : b + a < H.size := by
  rcases h26 with h1 | h1
  · obtain ⟨cell, q1, -⟩ := h.1 (σ.1 a - 1) (by omega) (by omega)
    exact (Array.getElem?_eq_some_iff.mp q1).1
  · exact (Array.getElem?_eq_some_iff.mp (h.2 (σ.1 a - 21) (by omega) (by omega))).1
theorem hw_R.push (hR : hw_R D b σ H) {tag n : Nat} {H1 : Heap} (z : H1.size = H.size + 1) (o1 : ∀ q : Nat, q < H.size → H1[q]? = H[q]?) (ha : hw_at D b (hw_nw tag n σ) σ.2.2.2.2 H1) : hw_R D b (hw_nw tag n σ) H1 := by
  refine ⟨by rw [z, hR.1]; rfl, fun x => ?_⟩
  by_cases hx : x = σ.2.2.2.2
  · rw [hx]; exact ha
  · have he := hw_nw_eq (σ := σ) (tag := tag) (n := n) hx
    refine ⟨fun ci h1 h2 => ?_, fun t h1 h2 => ?_⟩
    · have h3 : σ.1 x = ci + 1 := by rw [← he.1]; exact h1
      have hl := (hR.2 x).lt (by omega) (Or.inl (by omega))
      exact ((hR.2 x).kept he (o1 _ hl)).1 ci h1 h2
    · have h3 : σ.1 x = t + 21 := by rw [← he.1]; exact h1
      have hl := (hR.2 x).lt (by omega) (Or.inr (by omega))
      exact ((hR.2 x).kept he (o1 _ hl)).2 t h1 h2
theorem hw_new {ci N : Nat} {C : String} {T : u_T} {ty : Nat → FieldType} (hx : p.tables.exec = Jvm.exec) (hb : c.code = cc) (hc : vwCl[ci]? = some (C, T, N)) (h13 : ci < 13) (hin : ∀ w ∈ u_ws C T N, w ∈ wsL_law) (hn : hw_nf ci = N) (hty : ∀ k, k < N → parseFieldDescriptor (T k).2.2.1 = some (ty k)) (hdf : ∀ k, k < N → defaultValue (ty k) = if hw_isR ci k = true then .null else .int 0) (hts : ∀ w ∈ wsL_law, w.before args s = true) (hown : s.vm.findClass own = some m.cls) (hK : va_K D.1 vwCl (hw_tys D) s) (hR : hw_R D b σ H) (hS : va_S (fun q => b ≤ q) H0 H locs)
    (hcl : (Cond.classLink own index C).before args s = true) (hinst : (Cond.instantiable C N).before args s = true) (hini : (Cond.initialized C).before args s = true) (hcells : cells + 1 ≤ R.cells) (hslots : slots + N ≤ R.slots) (hdg : decode cc pc = .ok (.new index, 3))
    (kk : ∀ H1 : Heap, hw_R D b (hw_nw (ci + 1) 0 σ) H1 → va_S (fun q => b ≤ q) H0 H1 locs → W p l e R s m args below meth c H1 locs (cells + 1) (slots + N) Q (F0 m (pc + 3) ls (hw_vr b (some σ.2.2.2.2) :: rest))) : W p l e R s m args below meth c H locs cells slots Q (F0 m pc ls rest) := by
  have hKn := hK.1 ci _ hc
  have hz : H.size = b + σ.2.2.2.2 := hR.1
  refine W.newcK hx hb hown hcl hinst hini rfl hdg hcells hslots hKn.2.1 hz fun H1 kC hkC e1 z1 o1 => ?_
  refine kk H1 (hR.push (by rw [z1, hz]) (fun q hq => o1 q (by rw [← hz]; exact hq)) ⟨fun ci2 h2 h3 => ?_, fun t h2 h3 => ?_⟩) ⟨Nat.le_trans hS.1 (by rw [z1, hz]; omega), fun x h1 h2 => (o1 x (by have := hS.1; omega)).trans (hS.2.1 x h1 h2), hS.2.2⟩
  · have h2 : (if σ.2.2.2.2 = σ.2.2.2.2 then ci + 1 else σ.1 σ.2.2.2.2) = ci2 + 1 := h2
    rw [if_pos rfl] at h2
    have e0 : ci2 = ci := by omega
    subst e0
    rw [hn]
    refine (u_born ty hts hin hKn hkC e1 hty).to fun k hk => ?_
    rw [hdf k hk]
    unfold hw_fv hw_nw
    by_cases hr : hw_isR ci2 k = true
    · simp [hr, hw_vr, va_rf]
    · simp [hr]
  · have h2 : (if σ.2.2.2.2 = σ.2.2.2.2 then ci + 1 else σ.1 σ.2.2.2.2) = t + 21 := h2
    rw [if_pos rfl] at h2
    omega
theorem hw_nw_arr (hR : hw_R D b σ H) {t n : Nat} (h5 : t < 5) {H1 : Heap} (z : H1.size = H.size + 1) (o1 : ∀ q : Nat, q < H.size → H1[q]? = H[q]?) (g : H1[H.size]? = some (arrV (D.2 t) n (fun _ => if t < 2 then .int 0 else .null))) : hw_R D b (hw_nw (t + 21) n σ) H1 := by
  refine hR.push z o1 ⟨fun ci h2 h3 => ?_, fun t2 h2 h3 => ?_⟩
  · have h2 : (if σ.2.2.2.2 = σ.2.2.2.2 then t + 21 else σ.1 σ.2.2.2.2) = ci + 1 := h2
    rw [if_pos rfl] at h2
    omega
  · have h2 : (if σ.2.2.2.2 = σ.2.2.2.2 then t + 21 else σ.1 σ.2.2.2.2) = t2 + 21 := h2
    rw [if_pos rfl] at h2
    have e0 : t2 = t := by omega
    subst e0
    rw [← hR.1, g]
    by_cases h2 : t2 < 2
    · unfold hw_ac hw_nw; simp [h2, vp_cell_i]
    · unfold hw_ac hw_nw; simp [h2, vp_cell_q, va_rf]
theorem hw_newarr {t : Nat} (ht2 : t < 2) {atype : ArrayType} (hx : p.tables.exec = Jvm.exec) (hb : c.code = cc) (hty : newarray.typeOf atype = hw_ty t) (harr : (Cond.arrayClass (newarray.typeOf atype)).before args s = true) (hK : va_K D.1 vwCl (hw_tys D) s) (hR : hw_R D b σ H) (hS : va_S (fun q => b ≤ q) H0 H locs) {n : Int32} {N : Nat} (hn : ¬ n < 0) (hN : n.toNatClampNeg = N) (hbytes : N * componentBytes (hw_ty t) ≤ 536870912) (hcells : cells + 1 ≤ R.cells) (hslots : slots + N ≤ R.slots) (hdg : decode cc pc = .ok (.newarray atype, 2))
    (kk : ∀ H1 : Heap, hw_R D b (hw_nw (t + 21) N σ) H1 → va_S (fun q => b ≤ q) H0 H1 locs → W p l e R s m args below meth c H1 locs (cells + 1) (slots + N) Q (F0 m (pc + 2) ls (hw_vr b (some σ.2.2.2.2) :: rest))) : W p l e R s m args below meth c H locs cells slots Q (F0 m pc ls (.int n :: rest)) := by
  refine va_newaK hx hb harr rfl hdg rfl hn hN (by rw [hty]; exact hbytes) hcells hslots (h := b + σ.2.2.2.2) hR.1 fun H1 cA e1 z1 o1 hAr hNm => ?_
  have hkt := (hK.2 t _ (hw_tys_at D (by omega))).2
  have ecA : cA = D.2 t := by
    rw [hty] at hNm
    match t, ht2 with
    | 0, _ => exact Option.some.inj (hNm.symm.trans hkt)
    | 1, _ => exact Option.some.inj (hNm.symm.trans hkt)
  subst ecA
  refine kk H1 (hw_nw_arr hR (by omega) (by rw [z1, hR.1]) (fun q hq => o1 q (by rw [← hR.1]; exact hq)) ?_) ⟨Nat.le_trans hS.1 (by rw [z1, hR.1]; omega), fun x h1 h2 => (o1 x (by have := hS.1; have := hR.1; omega)).trans (hS.2.1 x h1 h2), hS.2.2⟩
  rw [hR.1, e1, hty]
  match t, ht2 with
  | 0, _ => rfl
  | 1, _ => rfl
end HW2
