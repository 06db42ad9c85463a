/-! my own layer: the state as functions of addresses (offsets from b), tags, and the rows over it -/
abbrev hw_S : Type := (Nat → Nat) × (Nat → Nat) × (Nat → Nat → Int32) × (Nat → Nat → Option Nat) × Nat
abbrev hw_D : Type := va_G × (Nat → ClassId)
def hw_isR (ci k : Nat) : Bool := (([[5,6,7],[5,6,7],[5,6,7],[5,6,7],[0,3,5],[5,6,7],[5,6,7],[5,6,7],[0,2,4,6,8,10,11,12],[],[0],[0,1,3,4,5,6,7,8,9,10,11,12],[1,2,9,10,11,12,13,16,17,18,19,20,21]] : List (List Nat)).getD ci []).contains k
def hw_nf (ci : Nat) : Nat := ([8,8,8,8,8,8,8,8,14,2,2,13,26] : List Nat).getD ci 0
def hw_vr (b : Nat) (r : Option Nat) : Value := va_rf (r.map (fun a => b + a))
def hw_fv (b : Nat) (σ : hw_S) (ci a k : Nat) : Value := if hw_isR ci k = true then hw_vr b (σ.2.2.2.1 a k) else .int (σ.2.2.1 a k)
def hw_ac (b : Nat) (σ : hw_S) (t a : Nat) : vp_A := if t < 2 then (σ.2.1 a, .inl (σ.2.2.1 a)) else (σ.2.1 a, .inr (.inr (.inr (.inr (fun j => (σ.2.2.2.1 a j).map (fun q => b + q))))))
def hw_at (D : hw_D) (b : Nat) (σ : hw_S) (a : Nat) (H : Heap) : Prop := (∀ ci, σ.1 a = ci + 1 → ci < 13 → t_OB (b + a) (D.1.1 ci) (hw_nf ci) (D.1.2 ci) H (hw_fv b σ ci a)) ∧ ∀ t, σ.1 a = t + 21 → t < 5 → H[b + a]? = some (vp_cell (D.2 t) (hw_ac b σ t a))
def hw_R (D : hw_D) (b : Nat) (σ : hw_S) (H : Heap) : Prop := H.size = b + σ.2.2.2.2 ∧ ∀ a, hw_at D b σ a H
def hw_ty : Nat → FieldType := fun t => match t with
  | 0 => .int
  | 1 => .boolean
  | 2 => .object "HoneyWinds$Laying"
  | 3 => .object "HoneyWinds$Stuff"
  | _ => .array .int
def hw_tys (D : hw_D) : List (ClassId × FieldType) := [(D.2 0, .int), (D.2 1, .boolean), (D.2 2, .object "HoneyWinds$Laying"), (D.2 3, .object "HoneyWinds$Stuff"), (D.2 4, .array .int)]
theorem hw_tys_at (D : hw_D) {t : Nat} (h : t < 5) : (hw_tys D)[t]? = some (D.2 t, hw_ty t) := by
  match t, h with
  | 0, _ => rfl
  | 1, _ => rfl
  | 2, _ => rfl
  | 3, _ => rfl
  | 4, _ => rfl
/-- what a state keeps for those who look on: same at an address -/
def hw_eq (σ τ : hw_S) (a : Nat) : Prop := τ.1 a = σ.1 a ∧ τ.2.1 a = σ.2.1 a ∧ τ.2.2.1 a = σ.2.2.1 a ∧ τ.2.2.2.1 a = σ.2.2.2.1 a
theorem hw_at.kept {D : hw_D} {b a : Nat} {σ τ : hw_S} {H H1 : Heap} (h : hw_at D b σ a H) (he : hw_eq σ τ a) (hq : H1[b + a]? = H[b + a]?) : hw_at D b τ a H1 := by
  obtain ⟨e1, e2, e3, e4⟩ := he
  refine ⟨fun ci h1 h2 => ?_, fun t h1 h2 => ?_⟩
  · have h3 := h.1 ci (by rw [← e1]; exact h1) h2
    have e : hw_fv b τ ci a = hw_fv b σ ci a := by funext k; unfold hw_fv; rw [e3, e4]
    rw [e]
    exact h3.kept hq
  · have h3 := h.2 t (by rw [← e1]; exact h1) h2
    have e : hw_ac b τ t a = hw_ac b σ t a := by unfold hw_ac; rw [e2, e3, e4]
    rw [hq, e]
    exact h3
theorem hw_R.put {D : hw_D} {b a : Nat} {σ τ : hw_S} {H H1 : Heap} (h : hw_R D b σ H) (hz : τ.2.2.2.2 = σ.2.2.2.2) (z : H1.size = H.size) (oq : ∀ q : Nat, q ≠ b + a → H1[q]? = H[q]?) (he : ∀ x, x ≠ a → hw_eq σ τ x) (ha : hw_at D b τ a H1) : hw_R D b τ H1 := by
  refine ⟨by rw [z, hz]; exact h.1, fun x => ?_⟩
  by_cases hx : x = a
  · rw [hx]; exact ha
  · exact (h.2 x).kept (he x hx) (oq _ (by omega))
-- reads
def hw_gI (q : Nat → Bool) (k : Nat) (x : Option Nat) (σ : hw_S) : Option Int32 := match x with
  | none => none
  | some a => if q (σ.1 a) = true then some (σ.2.2.1 a k) else none
def hw_gP (q : Nat → Bool) (k : Nat) (x : Option Nat) (σ : hw_S) : Option (Option Nat) := match x with
  | none => none
  | some a => if q (σ.1 a) = true then some (σ.2.2.2.1 a k) else none
def hw_aI (t : Nat) (x : Option Nat) (i : Int32) (σ : hw_S) : Option Int32 := match x with
  | none => none
  | some a => if σ.1 a = t + 21 ∧ ¬ (i < 0 ∨ σ.2.1 a ≤ i.toNatClampNeg) then some (σ.2.2.1 a i.toNatClampNeg) else none
def hw_aP (t : Nat) (x : Option Nat) (i : Int32) (σ : hw_S) : Option (Option Nat) := match x with
  | none => none
  | some a => if σ.1 a = t + 21 ∧ ¬ (i < 0 ∨ σ.2.1 a ≤ i.toNatClampNeg) then some (σ.2.2.2.1 a i.toNatClampNeg) else none
def hw_aL (x : Option Nat) (σ : hw_S) : Option Int32 := match x with
  | none => none
  | some a => if 21 ≤ σ.1 a ∧ σ.1 a < 26 then some (Int32.ofNat (σ.2.1 a)) else none
-- writes
def hw_wI (a k : Nat) (v : Int32) (σ : hw_S) : hw_S := (σ.1, σ.2.1, (fun x => if x = a then (fun j => if j = k then v else σ.2.2.1 a j) else σ.2.2.1 x), σ.2.2.2)
def hw_wP (a k : Nat) (v : Option Nat) (σ : hw_S) : hw_S := (σ.1, σ.2.1, σ.2.2.1, (fun x => if x = a then (fun j => if j = k then v else σ.2.2.2.1 a j) else σ.2.2.2.1 x), σ.2.2.2.2)
def hw_pI (q : Nat → Bool) (k : Nat) (x : Option Nat) (v : Int32) (σ : hw_S) : Option hw_S := match x with
  | none => none
  | some a => if q (σ.1 a) = true then some (hw_wI a k v σ) else none
def hw_pP (q : Nat → Bool) (k : Nat) (x : Option Nat) (v : Option Nat) (σ : hw_S) : Option hw_S := match x with
  | none => none
  | some a => if q (σ.1 a) = true then some (hw_wP a k v σ) else none
/-- a truth stored or answered: 0 or 1 -/
def hw_tf (v : Int32) : Option Unit := if v = 0 ∨ v = 1 then some () else none
def hw_sI (x : Option Nat) (i v : Int32) (σ : hw_S) : Option hw_S := match x with
  | none => none
  | some a => if σ.1 a = 21 ∧ ¬ (i < 0 ∨ σ.2.1 a ≤ i.toNatClampNeg) then some (hw_wI a i.toNatClampNeg v σ) else none
def hw_sZ (x : Option Nat) (i v : Int32) (σ : hw_S) : Option hw_S := match x with
  | none => none
  | some a => if (σ.1 a = 22 ∧ ¬ (i < 0 ∨ σ.2.1 a ≤ i.toNatClampNeg)) ∧ (v = 0 ∨ v = 1) then some (hw_wI a i.toNatClampNeg v σ) else none
/-- a class's facts, of all classes that q allows -/
def hw_CF (q : Nat → Bool) (T : u_T) (N : Nat) (rr : Nat → Bool) (ty : Nat → FieldType) : Prop := (∀ t, q t = true → ∃ (ci : Nat) (C : String), t = ci + 1 ∧ ci < 13 ∧ vwCl[ci]? = some (C, T, N) ∧ (∀ w ∈ u_ws C T N, w ∈ wsL_law) ∧ hw_nf ci = N ∧ ∀ k, hw_isR ci k = rr k) ∧ (∀ k, k < N → parseFieldDescriptor (T k).2.2.1 = some (ty k)) ∧ ∀ a, a < N → ∀ b, b < N → a ≠ b → (T a).2.1 ≠ (T b).2.1
def hw_q (ci : Nat) : Nat → Bool := fun t => t == ci + 1
def hw_qL : Nat → Bool := fun t => ([1,2,3,4,6,7,8] : List Nat).contains t
theorem hw_cf_of {ci N : Nat} {C : String} {T : u_T} {ty : Nat → FieldType} (h13 : ci < 13) (hc : vwCl[ci]? = some (C, T, N)) (hin : ∀ w ∈ u_ws C T N, w ∈ wsL_law) (hn : hw_nf ci = N) (hty : ∀ k, k < N → parseFieldDescriptor (T k).2.2.1 = some (ty k)) (hnm : ∀ a, a < N → ∀ b, b < N → a ≠ b → (T a).2.1 ≠ (T b).2.1) : hw_CF (hw_q ci) T N (hw_isR ci) ty :=
  ⟨fun t ht => ⟨ci, C, by simpa [hw_q] using ht, h13, hc, hin, hn, fun _ => rfl⟩, hty, hnm⟩
theorem hw_cf4 : hw_CF (hw_q 4) TX4 8 (hw_isR 4) tyX4 := hw_cf_of (by decide) rfl inlX4 rfl tyX4_ok nmX4
theorem hw_cf8 : hw_CF (hw_q 8) TX8 14 (hw_isR 8) tyX8 := hw_cf_of (by decide) rfl inlX8 rfl tyX8_ok nmX8
theorem hw_cf9 : hw_CF (hw_q 9) TX9 2 (hw_isR 9) tyX9 := hw_cf_of (by decide) rfl inlX9 rfl tyX9_ok nmX9
theorem hw_cf10 : hw_CF (hw_q 10) TX10 2 (hw_isR 10) tyX10 := hw_cf_of (by decide) rfl inlX10 rfl tyX10_ok nmX10
theorem hw_cf11 : hw_CF (hw_q 11) TX11 13 (hw_isR 11) tyX11 := hw_cf_of (by decide) rfl inlX11 rfl tyX11_ok nmX11
theorem hw_cf12 : hw_CF (hw_q 12) TX12 26 (hw_isR 12) tyX12 := hw_cf_of (by decide) rfl inlX12 rfl tyX12_ok nmX12
theorem hw_T0 : TX0 = TX3 := by funext k; unfold TX0 TX3; match k with | 0 => rfl | 1 => rfl | 2 => rfl | 3 => rfl | 4 => rfl | 5 => rfl | 6 => rfl | _ + 7 => rfl
theorem hw_T1 : TX1 = TX3 := by funext k; unfold TX1 TX3; match k with | 0 => rfl | 1 => rfl | 2 => rfl | 3 => rfl | 4 => rfl | 5 => rfl | 6 => rfl | _ + 7 => rfl
theorem hw_T2 : TX2 = TX3 := by funext k; unfold TX2 TX3; match k with | 0 => rfl | 1 => rfl | 2 => rfl | 3 => rfl | 4 => rfl | 5 => rfl | 6 => rfl | _ + 7 => rfl
theorem hw_T5 : TX5 = TX3 := by funext k; unfold TX5 TX3; match k with | 0 => rfl | 1 => rfl | 2 => rfl | 3 => rfl | 4 => rfl | 5 => rfl | 6 => rfl | _ + 7 => rfl
theorem hw_T6 : TX6 = TX3 := by funext k; unfold TX6 TX3; match k with | 0 => rfl | 1 => rfl | 2 => rfl | 3 => rfl | 4 => rfl | 5 => rfl | 6 => rfl | _ + 7 => rfl
theorem hw_T7 : TX7 = TX3 := by funext k; unfold TX7 TX3; match k with | 0 => rfl | 1 => rfl | 2 => rfl | 3 => rfl | 4 => rfl | 5 => rfl | 6 => rfl | _ + 7 => rfl
theorem hw_qL_or {t : Nat} (h : hw_qL t = true) : t = 1 ∨ t = 2 ∨ t = 3 ∨ t = 4 ∨ t = 6 ∨ t = 7 ∨ t = 8 := by simpa [hw_qL] using h
theorem hw_cfL : hw_CF hw_qL TX3 8 (hw_isR 3) tyX3 := by
  refine ⟨fun t ht => ?_, tyX3_ok, nmX3⟩
  rcases hw_qL_or ht with rfl | rfl | rfl | rfl | rfl | rfl | rfl
  · exact ⟨0, RX0, rfl, by decide, by rw [← hw_T0]; rfl, by rw [← hw_T0]; exact inlX0, rfl, fun _ => rfl⟩
  · exact ⟨1, RX1, rfl, by decide, by rw [← hw_T1]; rfl, by rw [← hw_T1]; exact inlX1, rfl, fun _ => rfl⟩
  · exact ⟨2, RX2, rfl, by decide, by rw [← hw_T2]; rfl, by rw [← hw_T2]; exact inlX2, rfl, fun _ => rfl⟩
  · exact ⟨3, RX3, rfl, by decide, rfl, inlX3, rfl, fun _ => rfl⟩
  · exact ⟨5, RX5, rfl, by decide, by rw [← hw_T5]; rfl, by rw [← hw_T5]; exact inlX5, rfl, fun _ => rfl⟩
  · exact ⟨6, RX6, rfl, by decide, by rw [← hw_T6]; rfl, by rw [← hw_T6]; exact inlX6, rfl, fun _ => rfl⟩
  · exact ⟨7, RX7, rfl, by decide, by rw [← hw_T7]; rfl, by rw [← hw_T7]; exact inlX7, rfl, fun _ => rfl⟩
-- small steps of the models
theorem hw_bs {α β : Type} {x : Option α} {f : α → Option β} {y : β} (h : x.bind f = some y) : ∃ v, x = some v ∧ f v = some y := by
  cases x with
  | none => cases h
  | some v => exact ⟨v, rfl, h⟩
theorem hw_ip {c : Prop} [Decidable c] {α : Type} {a b y : α} (h : (if c then a else b) = y) (hc : c) : a = y := by rw [if_pos hc] at h; exact h
theorem hw_in {c : Prop} [Decidable c] {α : Type} {a b y : α} (h : (if c then a else b) = y) (hc : ¬ c) : b = y := by rw [if_neg hc] at h; exact h
theorem hw_tf_of {v : Int32} {u : Unit} (h : hw_tf v = some u) : v = 0 ∨ v = 1 := by
  unfold hw_tf at h
  by_cases hv : v = 0 ∨ v = 1
  · exact hv
  · rw [if_neg hv] at h; cases h
section HW1
variable {p : Program} {l : Launch} {e : Env} {R : Room} {s : State} {m : MethodId} {args : Array Value} {below : List Frame} {meth : Method} {c : Code} {H : Heap} {locs : List Loc} {cells slots : Nat} {Q : State → Prop}
variable {cc : ByteArray} {pc : Nat} {ls : Array Slot} {rest : List Value} {D : hw_D} {b : Nat} {σ : hw_S} {own ref : String} {q : Nat → Bool} {T : u_T} {N index : Nat} {rr : Nat → Bool} {ty : Nat → FieldType} {H0 : Heap}
theorem hw_gI_of {k : Nat} {x : Option Nat} {v : Int32} (h : hw_gI q k x σ = some v) : ∃ a, x = some a ∧ q (σ.1 a) = true ∧ v = σ.2.2.1 a k := by
  cases x with
  | none => cases h
  | some a =>
    unfold hw_gI at h
    by_cases hq : q (σ.1 a) = true
    · simp only [hq, if_true] at h; cases h; exact ⟨a, rfl, hq, rfl⟩
    · simp only [hq] at h; cases h
theorem hw_gP_of {k : Nat} {x : Option Nat} {v : Option Nat} (h : hw_gP q k x σ = some v) : ∃ a, x = some a ∧ q (σ.1 a) = true ∧ v = σ.2.2.2.1 a k := by
  cases x with
  | none => cases h
  | some a =>
    unfold hw_gP at h
    by_cases hq : q (σ.1 a) = true
    · simp only [hq, if_true] at h; cases h; exact ⟨a, rfl, hq, rfl⟩
    · simp only [hq] at h; cases h
theorem hw_getV (hx : p.tables.exec = Jvm.exec) (hb : c.code = cc) (hcf : hw_CF q T N rr ty) (hts : ∀ w ∈ wsL_law, w.before args s = true) (hown : s.vm.findClass own = some m.cls) (hK : va_K D.1 vwCl (hw_tys D) s) (hR : hw_R D b σ H) {a : Nat} (ht : q (σ.1 a) = true) (k : Nat) (hk : k < N) (hlink : (Cond.fieldLink own index ref (T k).2.1 (T k).2.2.1).before args s = true) (hsame : ∀ x, s.fieldFound? (T k).1 (T k).2.1 (T k).2.2.1 = some x → s.fieldFound? ref (T k).2.1 (T k).2.2.1 = some x) (hdg : decode cc pc = .ok (.getfield index, 3))
    (kk : ∀ ci, (∀ k, hw_isR ci k = rr k) → W p l e R s m args below meth c H locs cells slots Q (F0 m (pc + 3) ls (hw_fv b σ ci a k :: rest))) : W p l e R s m args below meth c H locs cells slots Q (F0 m pc ls (.ref (b + a) :: rest)) := by
  obtain ⟨ci, C, e1, h13, hc, hin, hn, hr⟩ := hcf.1 _ ht
  obtain ⟨cell, q1, q2, q3, q4⟩ := (hR.2 a).1 ci e1 h13
  obtain ⟨hS, hfc, kC, hkC, hkind⟩ := hK.1 ci _ hc
  obtain ⟨cf, kf, fi, f, hi, hsl⟩ := hS k hk
  refine W.getf hx hb hown hlink (hsame _ hi) (u_facts hfc hkC (u_lays hts hin hk) hi).1 q1 (by rw [q3]; exact fun h => by cases h) (v := hw_fv b σ ci a k) ?_ rfl rfl hdg (kk ci hr)
  rw [hsl, q4 k (by rw [hn]; exact hk)]
theorem hw_getI (hx : p.tables.exec = Jvm.exec) (hb : c.code = cc) (hcf : hw_CF q T N rr ty) (hts : ∀ w ∈ wsL_law, w.before args s = true) (hown : s.vm.findClass own = some m.cls) (hK : va_K D.1 vwCl (hw_tys D) s) (hR : hw_R D b σ H) {x : Option Nat} {v : Int32} {k : Nat} (he : hw_gI q k x σ = some v) (hk : k < N) (hrr : rr k = false) (hlink : (Cond.fieldLink own index ref (T k).2.1 (T k).2.2.1).before args s = true) (hsame : ∀ x, s.fieldFound? (T k).1 (T k).2.1 (T k).2.2.1 = some x → s.fieldFound? ref (T k).2.1 (T k).2.2.1 = some x) (hdg : decode cc pc = .ok (.getfield index, 3))
    (kk : W p l e R s m args below meth c H locs cells slots Q (F0 m (pc + 3) ls (.int v :: rest))) : W p l e R s m args below meth c H locs cells slots Q (F0 m pc ls (hw_vr b x :: rest)) := by
  obtain ⟨a, rfl, hq, rfl⟩ := hw_gI_of he
  refine hw_getV hx hb hcf hts hown hK hR hq k hk hlink hsame hdg fun ci hr => ?_
  have e : hw_fv b σ ci a k = .int (σ.2.2.1 a k) := by unfold hw_fv; rw [hr k, hrr]; rfl
  rw [e]
  exact kk
theorem hw_getP (hx : p.tables.exec = Jvm.exec) (hb : c.code = cc) (hcf : hw_CF q T N rr ty) (hts : ∀ w ∈ wsL_law, w.before args s = true) (hown : s.vm.findClass own = some m.cls) (hK : va_K D.1 vwCl (hw_tys D) s) (hR : hw_R D b σ H) {x : Option Nat} {v : Option Nat} {k : Nat} (he : hw_gP q k x σ = some v) (hk : k < N) (hrr : rr k = true) (hlink : (Cond.fieldLink own index ref (T k).2.1 (T k).2.2.1).before args s = true) (hsame : ∀ x, s.fieldFound? (T k).1 (T k).2.1 (T k).2.2.1 = some x → s.fieldFound? ref (T k).2.1 (T k).2.2.1 = some x) (hdg : decode cc pc = .ok (.getfield index, 3))
    (kk : W p l e R s m args below meth c H locs cells slots Q (F0 m (pc + 3) ls (hw_vr b v :: rest))) : W p l e R s m args below meth c H locs cells slots Q (F0 m pc ls (hw_vr b x :: rest)) := by
  obtain ⟨a, rfl, hq, rfl⟩ := hw_gP_of he
  refine hw_getV hx hb hcf hts hown hK hR hq k hk hlink hsame hdg fun ci hr => ?_
  have e : hw_fv b σ ci a k = hw_vr b (σ.2.2.2.1 a k) := by unfold hw_fv; rw [hr k, hrr]; rfl
  rw [e]
  exact kk
theorem hw_wI_eq {a k : Nat} {v : Int32} {x : Nat} (h : x ≠ a) : hw_eq σ (hw_wI a k v σ) x := ⟨rfl, rfl, by show (if x = a then _ else _) = _; rw [if_neg h], rfl⟩
theorem hw_wP_eq {a k : Nat} {v : Option Nat} {x : Nat} (h : x ≠ a) : hw_eq σ (hw_wP a k v σ) x := ⟨rfl, rfl, rfl, by show (if x = a then _ else _) = _; rw [if_neg h]⟩
theorem hw_wI_fv {a k ci j : Nat} {v : Int32} (h : hw_isR ci k = false) : updV (hw_fv b σ ci a) k (.int v) j = hw_fv b (hw_wI a k v σ) ci a j := by
  unfold updV hw_fv hw_wI
  by_cases hj : j = k
  · subst hj; simp [h]
  · simp [hj]
theorem hw_wP_fv {a k ci j : Nat} {v : Option Nat} (h : hw_isR ci k = true) : updV (hw_fv b σ ci a) k (hw_vr b v) j = hw_fv b (hw_wP a k v σ) ci a j := by
  unfold updV hw_fv hw_wP
  by_cases hj : j = k
  · subst hj; simp [h]
  · simp [hj]
/-- a field's store, whatever the value -/
theorem hw_putV (hx : p.tables.exec = Jvm.exec) (hb : c.code = cc) (hcf : hw_CF q T N rr ty) (hts : ∀ w ∈ wsL_law, w.before args s = true) (hown : s.vm.findClass own = some m.cls) (hK : va_K D.1 vwCl (hw_tys D) s) (hR : hw_R D b σ H) (hS0 : va_S (fun q => b ≤ q) H0 H locs) {a : Nat} (ht : q (σ.1 a) = true) (k : Nat) (hk : k < N) (hlink : (Cond.fieldLink own index ref (T k).2.1 (T k).2.2.1).before args s = true) (hsame : ∀ x, s.fieldFound? (T k).1 (T k).2.1 (T k).2.2.1 = some x → s.fieldFound? ref (T k).2.1 (T k).2.2.1 = some x)
    (hfin : (T k).2.2.2 = false ∨ ((T k).2.2.2 = true ∧ meth.name = "<init>" ∧ (T k).1 = own)) {v : Value} (hn : narrow (ty k) v = v) (hfit : fits (ty k) v = true) {τ : hw_S} (h1 : τ.1 = σ.1) (hz : τ.2.2.2.2 = σ.2.2.2.2) (he : ∀ x, x ≠ a → hw_eq σ τ x) (hv : ∀ ci j, (∀ k, hw_isR ci k = rr k) → updV (hw_fv b σ ci a) k v j = hw_fv b τ ci a j) (hdg : decode cc pc = .ok (.putfield index, 3))
    (kk : ∀ (H1 : Heap) (locs1 : List Loc), hw_R D b τ H1 → va_S (fun q => b ≤ q) H0 H1 locs1 → W p l e R s m args below meth c H1 locs1 cells slots Q (F0 m (pc + 3) ls rest)) : W p l e R s m args below meth c H locs cells slots Q (F0 m pc ls (v :: .ref (b + a) :: rest)) := by
  obtain ⟨ci, C, e1, h13, hc, hin, hnf, hr⟩ := hcf.1 _ ht
  have hap := va_apart (own := own) hts hin ty hcf.2.1 hcf.2.2 hK hc
  obtain ⟨cell, q1, q2, q3, q4⟩ := (hR.2 a).1 ci e1 h13
  rw [hnf] at q4
  obtain ⟨hS, hfc, kC, hkC, hkind⟩ := hK.1 ci _ hc
  obtain ⟨cf, kf, fi, f, hi, hsl⟩ := hS k hk
  have hlay := hts _ (hin _ (u_in_lay hk))
  have hst := (u_facts hfc hkC (u_lays hts hin hk) hi).1
  have fin : ∀ H' : Heap, H'[b + a]? = some (cell.setSlot f.slot v) → H'.size = H.size → (∀ q, q ≠ b + a → H'[q]? = H[q]?) → W p l e R s m args below meth c H' (locs ++ [⟨b + a, f.slot⟩]) cells slots Q (F0 m (pc + 3) ls rest) := by
    intro H' g1 g2 g3
    rw [hsl] at g1 ⊢
    refine kk H' _ (hR.put hz g2 g3 he ⟨fun ci2 h2 h3 => ?_, fun t h2 h3 => ?_⟩) (hS0.put g2 g3 (Nat.le_add_right b a))
    · have hce : ci2 = ci := by rw [h1, e1] at h2; omega
      subst hce
      refine t_OB.to (V := updV (hw_fv b σ ci2 a) k v) ⟨_, g1, q2, q3, ?_⟩ (fun j _ => hv ci2 j hr)
      rw [hnf]
      exact t_set q4 hap hk v
    · rw [h1, e1] at h2; omega
  rcases hfin with hfin | ⟨hfin, hini, hdecl⟩
  · unfold u_lay at hlay
    rw [if_neg (by rw [hfin]; decide)] at hlay
    have h6 := u_store hfc hkC hkind hlay hi (hcf.2.1 k hk) hn hfit
    exact W.putK hx hb (f := f) ⟨hown, hlink, ⟨_, _, _, hsame _ hi⟩, hst⟩ (by rw [q2]; exact h6) q1 q3 (by rw [hsl]; exact k2_hasslot (q4 k hk)) rfl rfl hdg fin
  · unfold u_lay at hlay
    rw [if_pos hfin] at hlay
    have hcf2 : m.cls = cf := by
      obtain ⟨_, _, c', _, _, _, -, -, hf', -, -, -, hown2, -⟩ := Cond.laysFinal_spec hlay
      have e1 : c' = cf := by have := hi.symm.trans hf'; simp at this; exact this.1.symm
      rw [hdecl] at hown2
      rw [← e1]; exact Option.some.inj (hown.symm.trans hown2)
    have h6 := u_fits hfc hkC hkind (Or.inr hlay) hi (hcf.2.1 k hk) hn hfit
    exact W.putFinK hx hb hown hlink (hsame _ hi) hst hcf2 hini (by rw [q2]; exact h6) q1 q3 (by rw [hsl]; exact k2_hasslot (q4 k hk)) rfl rfl hdg fin
theorem hw_pI_of {k : Nat} {x : Option Nat} {v : Int32} {τ : hw_S} (h : hw_pI q k x v σ = some τ) : ∃ a, x = some a ∧ q (σ.1 a) = true ∧ τ = hw_wI a k v σ := by
  cases x with
  | none => cases h
  | some a =>
    unfold hw_pI at h
    by_cases hq : q (σ.1 a) = true
    · simp only [hq, if_true] at h; cases h; exact ⟨a, rfl, hq, rfl⟩
    · simp only [hq] at h; cases h
theorem hw_pP_of {k : Nat} {x : Option Nat} {v : Option Nat} {τ : hw_S} (h : hw_pP q k x v σ = some τ) : ∃ a, x = some a ∧ q (σ.1 a) = true ∧ τ = hw_wP a k v σ := by
  cases x with
  | none => cases h
  | some a =>
    unfold hw_pP at h
    by_cases hq : q (σ.1 a) = true
    · simp only [hq, if_true] at h; cases h; exact ⟨a, rfl, hq, rfl⟩
    · simp only [hq] at h; cases h
theorem hw_putI (hx : p.tables.exec = Jvm.exec) (hb : c.code = cc) (hcf : hw_CF q T N rr ty) (hts : ∀ w ∈ wsL_law, w.before args s = true) (hown : s.vm.findClass own = some m.cls) (hK : va_K D.1 vwCl (hw_tys D) s) (hR : hw_R D b σ H) (hS0 : va_S (fun q => b ≤ q) H0 H locs) {x : Option Nat} {v : Int32} {τ : hw_S} {k : Nat} (he : hw_pI q k x v σ = some τ) (hk : k < N) (hrr : rr k = false) (hty : ty k = .int) (hlink : (Cond.fieldLink own index ref (T k).2.1 (T k).2.2.1).before args s = true) (hsame : ∀ x, s.fieldFound? (T k).1 (T k).2.1 (T k).2.2.1 = some x → s.fieldFound? ref (T k).2.1 (T k).2.2.1 = some x)
    (hfin : (T k).2.2.2 = false ∨ ((T k).2.2.2 = true ∧ meth.name = "<init>" ∧ (T k).1 = own)) (hdg : decode cc pc = .ok (.putfield index, 3))
    (kk : ∀ (H1 : Heap) (locs1 : List Loc), hw_R D b τ H1 → va_S (fun q => b ≤ q) H0 H1 locs1 → W p l e R s m args below meth c H1 locs1 cells slots Q (F0 m (pc + 3) ls rest)) : W p l e R s m args below meth c H locs cells slots Q (F0 m pc ls (.int v :: hw_vr b x :: rest)) := by
  obtain ⟨a, rfl, hq, rfl⟩ := hw_pI_of he
  exact hw_putV (τ := hw_wI a k v σ) hx hb hcf hts hown hK hR hS0 hq k hk hlink hsame hfin (by rw [hty]; rfl) (by rw [hty]; rfl) rfl rfl (fun x h => hw_wI_eq h) (fun ci j hr => hw_wI_fv (by rw [hr, hrr])) hdg kk
theorem hw_putZ (hx : p.tables.exec = Jvm.exec) (hb : c.code = cc) (hcf : hw_CF q T N rr ty) (hts : ∀ w ∈ wsL_law, w.before args s = true) (hown : s.vm.findClass own = some m.cls) (hK : va_K D.1 vwCl (hw_tys D) s) (hR : hw_R D b σ H) (hS0 : va_S (fun q => b ≤ q) H0 H locs) {x : Option Nat} {v : Int32} {u : Unit} (hv : hw_tf v = some u) {τ : hw_S} {k : Nat} (he : hw_pI q k x v σ = some τ) (hk : k < N) (hrr : rr k = false) (hty : ty k = .boolean) (hlink : (Cond.fieldLink own index ref (T k).2.1 (T k).2.2.1).before args s = true) (hsame : ∀ x, s.fieldFound? (T k).1 (T k).2.1 (T k).2.2.1 = some x → s.fieldFound? ref (T k).2.1 (T k).2.2.1 = some x)
    (hfin : (T k).2.2.2 = false ∨ ((T k).2.2.2 = true ∧ meth.name = "<init>" ∧ (T k).1 = own)) (hdg : decode cc pc = .ok (.putfield index, 3))
    (kk : ∀ (H1 : Heap) (locs1 : List Loc), hw_R D b τ H1 → va_S (fun q => b ≤ q) H0 H1 locs1 → W p l e R s m args below meth c H1 locs1 cells slots Q (F0 m (pc + 3) ls rest)) : W p l e R s m args below meth c H locs cells slots Q (F0 m pc ls (.int v :: hw_vr b x :: rest)) := by
  obtain ⟨a, rfl, hq, rfl⟩ := hw_pI_of he
  have h01 := hw_tf_of hv
  exact hw_putV (τ := hw_wI a k v σ) hx hb hcf hts hown hK hR hS0 hq k hk hlink hsame hfin (by rw [hty]; rcases h01 with rfl | rfl <;> rfl) (by rw [hty]; rcases h01 with rfl | rfl <;> rfl) rfl rfl (fun x h => hw_wI_eq h) (fun ci j hr => hw_wI_fv (by rw [hr, hrr])) hdg kk
theorem hw_putP (hx : p.tables.exec = Jvm.exec) (hb : c.code = cc) (hcf : hw_CF q T N rr ty) (hts : ∀ w ∈ wsL_law, w.before args s = true) (hown : s.vm.findClass own = some m.cls) (hK : va_K D.1 vwCl (hw_tys D) s) (hR : hw_R D b σ H) (hS0 : va_S (fun q => b ≤ q) H0 H locs) {x : Option Nat} {v : Option Nat} {τ : hw_S} {k : Nat} (he : hw_pP q k x v σ = some τ) (hk : k < N) (hrr : rr k = true) (hty : (ty k).isReference = true) (hlink : (Cond.fieldLink own index ref (T k).2.1 (T k).2.2.1).before args s = true) (hsame : ∀ x, s.fieldFound? (T k).1 (T k).2.1 (T k).2.2.1 = some x → s.fieldFound? ref (T k).2.1 (T k).2.2.1 = some x)
    (hfin : (T k).2.2.2 = false ∨ ((T k).2.2.2 = true ∧ meth.name = "<init>" ∧ (T k).1 = own)) (hdg : decode cc pc = .ok (.putfield index, 3))
    (kk : ∀ (H1 : Heap) (locs1 : List Loc), hw_R D b τ H1 → va_S (fun q => b ≤ q) H0 H1 locs1 → W p l e R s m args below meth c H1 locs1 cells slots Q (F0 m (pc + 3) ls rest)) : W p l e R s m args below meth c H locs cells slots Q (F0 m pc ls (hw_vr b v :: hw_vr b x :: rest)) := by
  obtain ⟨a, rfl, hq, rfl⟩ := hw_pP_of he
  refine hw_putV (τ := hw_wP a k v σ) hx hb hcf hts hown hK hR hS0 hq k hk hlink hsame hfin ?_ ?_ rfl rfl (fun x h => hw_wP_eq h) (fun ci j hr => hw_wP_fv (by rw [hr, hrr])) hdg kk
  · generalize ty k = t at hty
    cases v <;> cases t <;> first | rfl | (cases hty)
  · generalize ty k = t at hty
    cases v <;> cases t <;> first | rfl | (cases hty)
end HW1
