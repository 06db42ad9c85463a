/-! my own layer: the locals, stores, switches, objects of the laws' kinds -/
def hw_L (ls : Array Slot) (nL j : Nat) (lv : List (Nat × Value)) : Prop := lv_has ls nL lv ∧ ∀ q ∈ lv, q.2.category = 2 → q.1 = j
theorem hw_L.at {ls : Array Slot} {nL j : Nat} {lv : List (Nat × Value)} (h : hw_L ls nL j lv) (k : Nat) {i : Nat} {v : Value} (hk : lv[k]? = some (i, v)) : ls[i]? = some (.val v) := lv_at h.1 k hk
theorem hw_L.sz {ls : Array Slot} {nL j : Nat} {lv : List (Nat × Value)} (h : hw_L ls nL j lv) : ls.size = nL := h.1.1
theorem hw_L.sub {ls : Array Slot} {nL j : Nat} {lv lv' : List (Nat × Value)} (h : hw_L ls nL j lv) (ks : List Nat) (hl : lv_pick lv ks = lv') : hw_L ls nL j lv' := by
  refine ⟨lv_sub h.1 ks hl, fun q hq => ?_⟩
  rw [← hl] at hq
  obtain ⟨k, -, hk⟩ := List.mem_filterMap.mp hq
  exact h.2 q (List.mem_of_getElem? hk)
theorem hw_L.st {ls : Array Slot} {nL j i : Nat} {v : Value} {lv lv' : List (Nat × Value)} (h : ∀ q ∈ lv, q.2.category = 2 → q.1 = j) (hij : i ≠ j + 1) (hv : v.category = 1) (he : (i, v) :: lv.filter (fun q => !(q.1 == i)) = lv') (h2 : lv_has ls nL ((i, v) :: lv.filter (fun q => !(q.1 == i) && !(q.1 + 1 == i && q.2.category == 2)))) : hw_L ls nL j lv' := by
  have e : lv.filter (fun q => !(q.1 == i) && !(q.1 + 1 == i && q.2.category == 2)) = lv.filter (fun q => !(q.1 == i)) := by
    apply List.filter_congr
    intro q hq
    by_cases hc : q.2.category = 2
    · have := h q hq hc
      have h3 : ¬ q.1 + 1 = i := by omega
      simp [h3]
    · simp [hc]
  rw [e, he] at h2
  refine ⟨h2, fun q hq hc => ?_⟩
  rw [← he] at hq
  rcases List.mem_cons.mp hq with rfl | h4
  · have hc : v.category = 2 := hc
    omega
  · exact h q ((List.mem_filter.mp h4).1) hc
section HW4
variable {p : Program} {l : Launch} {e : Env} {R : Room} {s : State} {m : MethodId} {args : Array Value} {below : List Frame} {meth : Method} {c : Code} {H : Heap} {locs : List Loc} {cells slots : Nat} {Q : State → Prop}
variable {cc : ByteArray} {pc : Nat} {ls : Array Slot} {rest : List Value} {D : hw_D} {b : Nat} {σ : hw_S} {own : String} {index nL j : Nat} {H0 : Heap} {lv lv' : List (Nat × Value)}
theorem hw_istore_n (hx : p.tables.exec = Jvm.exec) (hb : c.code = cc) {k : Fin 4} {i : Nat} {x : Int32} (hdg : decode cc pc = .ok (.istore_n k, 1)) (hi : (k : Nat) = i) (h : hw_L ls nL j lv) (hn : i < nL) (hij : i ≠ j + 1) (he : (i, Value.int x) :: lv.filter (fun q => !(q.1 == i)) = lv')
    (kk : ∀ ls' : Array Slot, hw_L ls' nL j lv' → W p l e R s m args below meth c H locs cells slots Q (F0 m (pc + 1) ls' rest)) : W p l e R s m args below meth c H locs cells slots Q (F0 m pc ls (.int x :: rest)) :=
  lv_istore_n hx hb hdg hi h.1 hn rfl (fun ls' h2 => kk ls' (hw_L.st h.2 hij rfl he h2))
theorem hw_istore (hx : p.tables.exec = Jvm.exec) (hb : c.code = cc) {i : Nat} {x : Int32} (hdg : decode cc pc = .ok (.istore i, 2)) (h : hw_L ls nL j lv) (hn : i < nL) (hij : i ≠ j + 1) (he : (i, Value.int x) :: lv.filter (fun q => !(q.1 == i)) = lv')
    (kk : ∀ ls' : Array Slot, hw_L ls' nL j lv' → W p l e R s m args below meth c H locs cells slots Q (F0 m (pc + 2) ls' rest)) : W p l e R s m args below meth c H locs cells slots Q (F0 m pc ls (.int x :: rest)) :=
  lv_istore hx hb hdg h.1 hn rfl (fun ls' h2 => kk ls' (hw_L.st h.2 hij rfl he h2))
theorem hw_iinc (hx : p.tables.exec = Jvm.exec) (hb : c.code = cc) {i k : Nat} {n : Int} {x v : Int32} (hdg : decode cc pc = .ok (.iinc i n, 3)) (h : hw_L ls nL j lv) (hk : lv[k]? = some (i, .int x)) (hv : x + Int32.ofInt n = v) (hn : i < nL) (hij : i ≠ j + 1) (he : (i, Value.int v) :: lv.filter (fun q => !(q.1 == i)) = lv')
    (kk : ∀ ls' : Array Slot, hw_L ls' nL j lv' → W p l e R s m args below meth c H locs cells slots Q (F0 m (pc + 3) ls' rest)) : W p l e R s m args below meth c H locs cells slots Q (F0 m pc ls rest) :=
  lv_iinc hx hb hdg h.1 hk hv hn rfl (fun ls' h2 => kk ls' (hw_L.st h.2 hij rfl he h2))
theorem hw_asto_n (hx : p.tables.exec = Jvm.exec) (hb : c.code = cc) {k : Fin 4} {i : Nat} {x : Option Nat} (hdg : decode cc pc = .ok (.astore_n k, 1)) (hi : (k : Nat) = i) (h : hw_L ls nL j lv) (hn : i < nL) (hij : i ≠ j + 1) (he : (i, hw_vr b x) :: lv.filter (fun q => !(q.1 == i)) = lv')
    (kk : ∀ ls' : Array Slot, hw_L ls' nL j lv' → W p l e R s m args below meth c H locs cells slots Q (F0 m (pc + 1) ls' rest)) : W p l e R s m args below meth c H locs cells slots Q (F0 m pc ls (hw_vr b x :: rest)) :=
  hw_astore_n hx hb hdg hi h.1 hn rfl (fun ls' h2 => kk ls' (hw_L.st h.2 hij (hw_vr_cat b x) he h2))
theorem hw_asto (hx : p.tables.exec = Jvm.exec) (hb : c.code = cc) {i : Nat} {x : Option Nat} (hdg : decode cc pc = .ok (.astore i, 2)) (h : hw_L ls nL j lv) (hn : i < nL) (hij : i ≠ j + 1) (he : (i, hw_vr b x) :: lv.filter (fun q => !(q.1 == i)) = lv')
    (kk : ∀ ls' : Array Slot, hw_L ls' nL j lv' → W p l e R s m args below meth c H locs cells slots Q (F0 m (pc + 2) ls' rest)) : W p l e R s m args below meth c H locs cells slots Q (F0 m pc ls (hw_vr b x :: rest)) :=
  hw_astore hx hb hdg h.1 hn rfl (fun ls' h2 => kk ls' (hw_L.st h.2 hij (hw_vr_cat b x) he h2))
theorem hw_case {P : Prop} (x k : Int32) (h1 : x = k → P) (h2 : ¬ x = k → P) : P := (Classical.em (x = k)).elim h1 h2
theorem hw_ne {x k : Int32} (n : Int) (h : ¬ x = k) (hk : k.toInt = n) : x.toInt ≠ n := fun h2 => h (Int32.toInt_inj.mp (h2.trans hk.symm))
theorem hw_div {x y r : Int32} (h : (if y = 0 then none else some (x / y)) = some r) : ¬ y = 0 ∧ r = x / y := by
  by_cases hy : y = 0
  · rw [if_pos hy] at h; cases h
  · rw [if_neg hy] at h; exact ⟨hy, (Option.some.inj h).symm⟩
def hw_dv (x y : Int32) : Option Int32 := if y = 0 then none else some (x / y)
def hw_rm (x y : Int32) : Option Int32 := if y = 0 then none else some (x - x / y * y)
theorem hw_idiv (hx : p.tables.exec = Jvm.exec) (hb : c.code = cc) {x y r : Int32} (h : hw_dv x y = some r) (hdg : decode cc pc = .ok (.idiv, 1))
    (kk : W p l e R s m args below meth c H locs cells slots Q (F0 m (pc + 1) ls (.int r :: rest))) : W p l e R s m args below meth c H locs cells slots Q (F0 m pc ls (.int y :: .int x :: rest)) := by
  unfold hw_dv at h
  by_cases hy : y = 0
  · rw [if_pos hy] at h; cases h
  · rw [if_neg hy] at h; cases h; exact lv_idiv hx hb hdg hy kk
theorem hw_irem (hx : p.tables.exec = Jvm.exec) (hb : c.code = cc) {x y r : Int32} (h : hw_rm x y = some r) (hdg : decode cc pc = .ok (.irem, 1))
    (kk : W p l e R s m args below meth c H locs cells slots Q (F0 m (pc + 1) ls (.int r :: rest))) : W p l e R s m args below meth c H locs cells slots Q (F0 m pc ls (.int y :: .int x :: rest)) := by
  unfold hw_rm at h
  by_cases hy : y = 0
  · rw [if_pos hy] at h; cases h
  · rw [if_neg hy] at h; cases h; exact lv_irem hx hb hdg hy kk
def hw_min (x y : Int32) : Int32 := if y < x then y else x
def hw_max (x y : Int32) : Int32 := if x < y then y else x
def hw_abs (x : Int32) : Int32 := if 0 ≤ x then x else 0 - x
-- the laws' objects
theorem hw_lawci {t : Nat} (h : hw_qL t = true) : ∃ (ci : Nat) (C : String), t = ci + 1 ∧ ci < 13 ∧ vwCl[ci]? = some (C, TX3, 8) := by
  obtain ⟨ci, C, h1, h2, h3, -⟩ := hw_cfL.1 t h
  exact ⟨ci, C, h1, h2, h3⟩
theorem hw_sel7 {x : MethodName} {y : Nat → MethodName} {t : Nat} (h : hw_qL t = true) (h0 : Cond.selects RX0 x (y 0) ∈ wsL_law) (h1 : Cond.selects RX1 x (y 1) ∈ wsL_law) (h2 : Cond.selects RX2 x (y 2) ∈ wsL_law) (h3 : Cond.selects RX3 x (y 3) ∈ wsL_law) (h5 : Cond.selects RX5 x (y 5) ∈ wsL_law) (h6 : Cond.selects RX6 x (y 6) ∈ wsL_law) (h7 : Cond.selects RX7 x (y 7) ∈ wsL_law) : ∃ (ci : Nat) (C : String), t = ci + 1 ∧ ci < 13 ∧ vwCl[ci]? = some (C, TX3, 8) ∧ Cond.selects C x (y ci) ∈ wsL_law := by
  rcases hw_qL_or h with rfl | rfl | rfl | rfl | rfl | rfl | rfl
  · exact ⟨0, RX0, rfl, by decide, by rw [← hw_T0]; rfl, h0⟩
  · exact ⟨1, RX1, rfl, by decide, by rw [← hw_T1]; rfl, h1⟩
  · exact ⟨2, RX2, rfl, by decide, by rw [← hw_T2]; rfl, h2⟩
  · exact ⟨3, RX3, rfl, by decide, rfl, h3⟩
  · exact ⟨5, RX5, rfl, by decide, by rw [← hw_T5]; rfl, h5⟩
  · exact ⟨6, RX6, rfl, by decide, by rw [← hw_T6]; rfl, h6⟩
  · exact ⟨7, RX7, rfl, by decide, by rw [← hw_T7]; rfl, h7⟩
theorem hw_preL {x : Nat} {av : List Value} (hE : hw_E D s) (hR : hw_R D b σ H) (ht : hw_qL (σ.1 x) = true) : ∃ (C : String) (cC : ClassId), ClassAt s C cC ∧ PreV s H C (b + x) (hw_P1 D b σ (.ref (b + x) :: av)) av := by
  obtain ⟨ci, C, h1, h2, h3⟩ := hw_lawci ht
  exact ⟨C, _, (hE.1.1 ci _ h3).2, hw_preV hE hR h3 h2 h1⟩
end HW4
def hw_rv (q : Nat → Bool) (x : Option Nat) (σ : hw_S) : Option Nat := match x with
  | none => none
  | some a => if q (σ.1 a) = true then some a else none
theorem hw_rv_of {q : Nat → Bool} {x : Option Nat} {σ : hw_S} {a : Nat} (h : hw_rv q x σ = some a) : x = some a ∧ q (σ.1 a) = true := by
  cases x with
  | none => cases h
  | some z =>
    unfold hw_rv at h
    by_cases hq : q (σ.1 z) = true
    · simp only [hq, if_true] at h; cases h; exact ⟨rfl, hq⟩
    · simp only [hq] at h; cases h
theorem hw_rv_th {q : Nat → Bool} {x : Nat} {σ : hw_S} {a : Nat} (h : hw_rv q (some x) σ = some a) : x = a ∧ q (σ.1 x) = true := by
  obtain ⟨h1, h2⟩ := hw_rv_of h
  cases h1
  exact ⟨rfl, h2⟩
theorem hw_q_of {ci t : Nat} (h : hw_q ci t = true) : t = ci + 1 := by simpa [hw_q] using h
def hw_b2 {α β γ : Type} (x : Option (α × β)) (f : α → β → Option γ) : Option γ := match x with
  | none => none
  | some v => f v.1 v.2
theorem hw_bs2 {α β γ : Type} {x : Option (α × β)} {f : α → β → Option γ} {y : γ} (h : hw_b2 x f = some y) : ∃ v w, x = some (v, w) ∧ f v w = some y := by
  cases x with
  | none => cases h
  | some v => exact ⟨v.1, v.2, rfl, h⟩
def hw_nwO (tag n : Nat) (σ : hw_S) : Option (Nat × hw_S) := some (σ.2.2.2.2, hw_nw tag n σ)
def hw_naO (tag : Nat) (n : Int32) (σ : hw_S) : Option (Nat × hw_S) := if n < 0 ∨ 100000 < n.toNatClampNeg then none else some (σ.2.2.2.2, hw_nw tag n.toNatClampNeg σ)
section HW5
variable {p : Program} {l : Launch} {e : Env} {R : Room} {s : State} {m : MethodId} {args : Array Value} {below : List Frame} {meth : Method} {c : Code} {H : Heap} {locs : List Loc} {cells slots : Nat} {Q : State → Prop}
variable {cc : ByteArray} {pc : Nat} {ls : Array Slot} {rest : List Value} {D : hw_D} {b : Nat} {σ τ : hw_S} {own : String} {index nL j : Nat} {H0 : Heap} {lv lv' : List (Nat × Value)}
theorem hw_mmin (hx : p.tables.exec = Jvm.exec) (hb : c.code = cc) (hml : c.maxLocals = nL) (hl : hw_L ls nL j lv) (hown : s.vm.findClass own = some m.cls) (hlink : (Cond.methodLink own index Lib.Math.min.name).before args s = true) (hstat : (Cond.static Lib.Math.min.name).before args s = true) (hini : (Cond.initialized "java/lang/Math").before args s = true) (hcode : (Cond.code Lib.Math.min.name Lib.Math.min.code 2 (some .int)).before args s = true)
    (hframes : 1 ≤ R.frames) (hlocals : (rest.map fun v => v.category).sum ≤ 8 ∧ 21 ≤ R.locals) (hc : cells ≤ R.cells) (hs : slots ≤ R.slots) {x y : Int32} (hdg : decode cc pc = .ok (.invokestatic index, 3))
    (kk : W p l e R s m args below meth c H locs cells slots Q (F0 m (pc + 3) ls (.int (hw_min x y) :: rest))) : W p l e R s m args below meth c H locs cells slots Q (F0 m pc ls (.int y :: .int x :: rest)) :=
  va_mmin hx hb (hml.trans hl.sz.symm) hown hlink hstat hini hcode hframes (by omega) hc hs hdg kk
theorem hw_mmax (hx : p.tables.exec = Jvm.exec) (hb : c.code = cc) (hml : c.maxLocals = nL) (hl : hw_L ls nL j lv) (hown : s.vm.findClass own = some m.cls) (hlink : (Cond.methodLink own index Lib.Math.max.name).before args s = true) (hstat : (Cond.static Lib.Math.max.name).before args s = true) (hini : (Cond.initialized "java/lang/Math").before args s = true) (hcode : (Cond.code Lib.Math.max.name Lib.Math.max.code 2 (some .int)).before args s = true)
    (hframes : 1 ≤ R.frames) (hlocals : (rest.map fun v => v.category).sum ≤ 8 ∧ 21 ≤ R.locals) (hc : cells ≤ R.cells) (hs : slots ≤ R.slots) {x y : Int32} (hdg : decode cc pc = .ok (.invokestatic index, 3))
    (kk : W p l e R s m args below meth c H locs cells slots Q (F0 m (pc + 3) ls (.int (hw_max x y) :: rest))) : W p l e R s m args below meth c H locs cells slots Q (F0 m pc ls (.int y :: .int x :: rest)) :=
  va_mmax hx hb (hml.trans hl.sz.symm) hown hlink hstat hini hcode hframes (by omega) hc hs hdg kk
theorem hw_mabs (hx : p.tables.exec = Jvm.exec) (hb : c.code = cc) (hml : c.maxLocals = nL) (hl : hw_L ls nL j lv) (hown : s.vm.findClass own = some m.cls) (hlink : (Cond.methodLink own index Lib.Math.abs.name).before args s = true) (hstat : (Cond.static Lib.Math.abs.name).before args s = true) (hini : (Cond.initialized "java/lang/Math").before args s = true) (hcode : (Cond.code Lib.Math.abs.name Lib.Math.abs.code 1 (some .int)).before args s = true)
    (hframes : 1 ≤ R.frames) (hlocals : (rest.map fun v => v.category).sum ≤ 8 ∧ 21 ≤ R.locals) (hc : cells ≤ R.cells) (hs : slots ≤ R.slots) {x : Int32} (hdg : decode cc pc = .ok (.invokestatic index, 3))
    (kk : W p l e R s m args below meth c H locs cells slots Q (F0 m (pc + 3) ls (.int (hw_abs x) :: rest))) : W p l e R s m args below meth c H locs cells slots Q (F0 m pc ls (.int x :: rest)) :=
  va_mabs hx hb (hml.trans hl.sz.symm) hown hlink hstat hini hcode hframes (by omega) hc hs hdg kk
theorem hw_newO {ci N a : Nat} {C : String} {T : u_T} {ty : Nat → FieldType} (hx : p.tables.exec = Jvm.exec) (hb : c.code = cc) (hc : vwCl[ci]? = some (C, T, N)) (h13 : ci < 13) (hin : ∀ w ∈ u_ws C T N, w ∈ wsL_law) (hn : hw_nf ci = N) (hty : ∀ k, k < N → parseFieldDescriptor (T k).2.2.1 = some (ty k)) (hdf : ∀ k, k < N → defaultValue (ty k) = if hw_isR ci k = true then .null else .int 0) (hts : ∀ w ∈ wsL_law, w.before args s = true) (hown : s.vm.findClass own = some m.cls) (hK : va_K D.1 vwCl (hw_tys D) s) (hR : hw_R D b σ H) (hS : va_S (fun q => b ≤ q) H0 H locs)
    (hcl : (Cond.classLink own index C).before args s = true) (hinst : (Cond.instantiable C N).before args s = true) (hini : (Cond.initialized C).before args s = true) (he : hw_nwO (ci + 1) 0 σ = some (a, τ)) (hcells : cells + 1 ≤ R.cells) (hslots : slots + N ≤ R.slots) (hdg : decode cc pc = .ok (.new index, 3))
    (kk : ∀ H1 : Heap, hw_R D b τ H1 → va_S (fun q => b ≤ q) H0 H1 locs → W p l e R s m args below meth c H1 locs (cells + 1) (slots + N) Q (F0 m (pc + 3) ls (hw_vr b (some a) :: rest))) : W p l e R s m args below meth c H locs cells slots Q (F0 m pc ls rest) := by
  cases he
  exact hw_new hx hb hc h13 hin hn hty hdf hts hown hK hR hS hcl hinst hini hcells hslots hdg kk
theorem hw_newaO {t a : Nat} (ht2 : t < 2) {atype : ArrayType} (hx : p.tables.exec = Jvm.exec) (hb : c.code = cc) (hty : newarray.typeOf atype = hw_ty t) (harr : (Cond.arrayClass (newarray.typeOf atype)).before args s = true) (hK : va_K D.1 vwCl (hw_tys D) s) (hR : hw_R D b σ H) (hS : va_S (fun q => b ≤ q) H0 H locs) {n : Int32} {N : Nat} (he : hw_naO (t + 21) n σ = some (a, τ)) (hN : n.toNatClampNeg ≤ N) (hcells : cells + 1 ≤ R.cells) (hslots : slots + N ≤ R.slots) (hdg : decode cc pc = .ok (.newarray atype, 2))
    (kk : ∀ H1 : Heap, hw_R D b τ H1 → va_S (fun q => b ≤ q) H0 H1 locs → W p l e R s m args below meth c H1 locs (cells + 1) (slots + N) Q (F0 m (pc + 2) ls (hw_vr b (some a) :: rest))) : W p l e R s m args below meth c H locs cells slots Q (F0 m pc ls (.int n :: rest)) := by
  unfold hw_naO at he
  by_cases hq : n < 0 ∨ 100000 < n.toNatClampNeg
  · rw [if_pos hq] at he; cases he
  · rw [if_neg hq] at he
    injection he with he
    injection he with h1 h2
    subst h1; subst h2
    refine hw_newarr ht2 hx hb hty harr hK hR hS (fun h => hq (Or.inl h)) rfl ?_ hcells (by omega) hdg (fun H1 h1 h2 => W.widen (Nat.le_refl _) (by omega) (kk H1 h1 h2))
    have hcb : componentBytes (hw_ty t) ≤ 4 := by
      match t, ht2 with
      | 0, _ => exact Nat.le_of_ble_eq_true rfl
      | 1, _ => exact Nat.le_of_ble_eq_true rfl
    have h5 : n.toNatClampNeg ≤ 100000 := Nat.not_lt.mp (fun h => hq (Or.inr h))
    exact Nat.le_trans (Nat.mul_le_mul h5 hcb) (Nat.le_of_ble_eq_true rfl)
end HW5
theorem hw_sm {st : List Value} (h : ∀ v ∈ st, v.category = 1) (hn : st.length ≤ 8) : (st.map fun v => v.category).sum ≤ 8 := by
  have e : (st.map fun v => v.category).sum = st.length := by
    clear hn
    induction st with
    | nil => rfl
    | cons v st ih =>
      rw [List.map_cons, List.sum_cons, ih (fun w hw => h w (List.mem_cons_of_mem _ hw)), h v List.mem_cons_self, List.length_cons]
      omega
  omega
/-- fuel of every loop -/
def hw_fu : Nat := 4000
