/-! my own layer: Arrays.copyOf on rows of ints -/
def hw_cpO (n z : Nat) (f : Nat → Int32) (σ : hw_S) : hw_S := ((fun x => if x = z then 21 else σ.1 x), (fun x => if x = z then n else σ.2.1 x), (fun x => if x = z then f else σ.2.2.1 x), (fun x => if x = z then (fun _ => none) else σ.2.2.2.1 x), σ.2.2.2.2 + 1)
def m7J_copyOf (x : Option Nat) (n : Int32) (σ : hw_S) : Option (Option Nat × hw_S) := match x with
  | none => none
  | some a => if (σ.1 a = 21 ∧ a < σ.2.2.2.2 ∧ σ.2.1 a ≤ 120) ∧ (¬ n < 0 ∧ n.toNatClampNeg ≤ 120) then some (some σ.2.2.2.2, hw_cpO n.toNatClampNeg σ.2.2.2.2 (fun j => if j < n.toNatClampNeg ∧ j < σ.2.1 a then σ.2.2.1 a j else 0) σ) else none
theorem hw_arrV (c : ClassId) {N : Nat} {f g : Nat → Value} (h : ∀ j, j < N → f j = g j) : arrV c N f = arrV c N g := by
  unfold arrV
  rw [show (fun j : Fin N => f j.val) = (fun j : Fin N => g j.val) from funext fun j => h j.val j.isLt]
section HW10
variable {p : Program} {l : Launch} {e : Env} {R : Room} {s : State} {m : MethodId} {args : Array Value} {below : List Frame} {meth : Method} {c : Code} {H : Heap} {locs : List Loc} {cells slots : Nat} {Q : State → Prop}
variable {cc : ByteArray} {pc : Nat} {ls : Array Slot} {rest : List Value} {D : hw_D} {b : Nat} {σ τ : hw_S} {own : String} {index nL j : Nat} {H0 : Heap} {lv lv' : List (Nat × Value)}
theorem hw_cpO_R (hR : hw_R D b σ H) {n : Nat} {f : Nat → Int32} {H1 : Heap} (z : H1.size = H.size + 1) (o1 : ∀ q : Nat, q < H.size → H1[q]? = H[q]?) (g : H1[H.size]? = some (vp_cell (D.2 0) (n, .inl f))) : hw_R D b (hw_cpO n σ.2.2.2.2 f σ) H1 := by
  have h0 : hw_R D b (hw_cpO n σ.2.2.2.2 f σ) H1 := by
    refine ⟨by rw [z, hR.1]; rfl, fun x => ?_⟩
    by_cases hx : x = σ.2.2.2.2
    · refine ⟨fun ci h2 h3 => ?_, fun t2 h2 h3 => ?_⟩
      · have h2 : (if x = σ.2.2.2.2 then 21 else σ.1 x) = ci + 1 := h2
        rw [if_pos hx] at h2
        omega
      · have h2 : (if x = σ.2.2.2.2 then 21 else σ.1 x) = t2 + 21 := h2
        rw [if_pos hx] at h2
        have e0 : t2 = 0 := by omega
        subst e0
        rw [hx, ← hR.1, g]
        unfold hw_ac hw_cpO
        simp
    · have he : hw_eq σ (hw_cpO n σ.2.2.2.2 f σ) x := ⟨if_neg hx, if_neg hx, if_neg hx, if_neg hx⟩
      refine ⟨fun ci h1 h2 => ?_, fun t h1 h2 => ?_⟩
      · have h3 : σ.1 x = ci + 1 := by rw [← he.1]; exact h1
        have hl := (hR.2 x).lt (by omega) (Or.inl (by omega))
        exact ((hR.2 x).kept he (o1 _ hl)).1 ci h1 h2
      · have h3 : σ.1 x = t + 21 := by rw [← he.1]; exact h1
        have hl := (hR.2 x).lt (by omega) (Or.inr (by omega))
        exact ((hR.2 x).kept he (o1 _ hl)).2 t h1 h2
  exact h0
theorem hw_clone (hx : p.tables.exec = Jvm.exec) (hb : c.code = cc) (hml : c.maxLocals = nL) (hl : hw_L ls nL j lv) (hown : s.vm.findClass own = some m.cls)
    (hlink : (Cond.methodLink own index ⟨"[I", "clone", "()Ljava/lang/Object;"⟩).before args s = true) (hsame : (Cond.sameMethod "[I" "java/lang/Object" "clone" "()Ljava/lang/Object;").before args s = true)
    (hnat : (Cond.native ⟨"java/lang/Object", "clone", "()Ljava/lang/Object;"⟩).before args s = true) (hinst : (Cond.instanceMethod ⟨"java/lang/Object", "clone", "()Ljava/lang/Object;"⟩).before args s = true)
    (hsel : (Cond.selects "[I" ⟨"[I", "clone", "()Ljava/lang/Object;"⟩ ⟨"java/lang/Object", "clone", "()Ljava/lang/Object;"⟩).before args s = true)
    (hE : hw_E D s) (hR : hw_R D b σ H) (hS : va_S (fun q => b ≤ q) H0 H locs) {a : Nat} (ha : σ.1 a = 21) {N : Nat} (hN : σ.2.1 a ≤ N) (hframes : 1 ≤ R.frames) (hlocals : (rest.map fun v => v.category).sum + 14 ≤ R.locals) (hcells : cells + 1 ≤ R.cells) (hslots : slots + N ≤ R.slots) (hdg : decode cc pc = .ok (.invokevirtual index, 3))
    (kk : ∀ H1 : Heap, hw_R D b (hw_cpO (σ.2.1 a) σ.2.2.2.2 (σ.2.2.1 a) σ) H1 → va_S (fun q => b ≤ q) H0 H1 locs → W p l e R s m args below meth c H1 locs (cells + 1) (slots + N) Q (F0 m (pc + 3) ls (hw_vr b (some σ.2.2.2.2) :: rest))) : W p l e R s m args below meth c H locs cells slots Q (F0 m pc ls (hw_vr b (some a) :: rest)) := by
  have hc0 : H[b + a]? = some (vp_cell (D.2 0) (σ.2.1 a, .inl (σ.2.2.1 a))) := (hR.2 a).2 0 ha (by decide)
  have hk := hE.1.2 0 _ (hw_tys_at D (t := 0) (by decide))
  have hnm : s.vm.findClass "[I" = some (D.2 0) := va_nm_int hk.2
  obtain ⟨c0, t0', f1, f2, f3⟩ := Cond.castable_spec (va_Nw.use (A := args) rfl (hw_cast hE (List.mem_of_getElem? (i := 0) rfl)))
  cases hnm.symm.trans f1
  have hsz : (vp_cell (D.2 0) (σ.2.1 a, .inl (σ.2.2.1 a))).slots.size = σ.2.1 a := arrV_size _ _ _
  intro T hT X
  obtain ⟨-, kA, hkA, comp, hkind⟩ := State.isArrayOf_alike X.warmed.alike (hk.1 0 (fun _ => .null))
  obtain ⟨-, kS, hkS, compS, hkindS⟩ := hk.1 0 (fun _ => .null)
  obtain ⟨vm', X', st⟩ := X.cloneArray hx hown hlink hsame hnat hinst hsel (a := b + a) (cell := vp_cell (D.2 0) (σ.2.1 a, .inl (σ.2.2.1 a))) (by rw [hT]; exact hc0) (fun k h => by cases h) (fun h => by cases h) hnm f2 f3
    (fun i v hv => by
      have hk' : T.vm.classes[D.2 0]? = some kA := hkA
      have hfit : fits .int v = true := va_fit (cA := D.2 0) (n := σ.2.1 a) (F := fun j => .int (σ.2.2.1 a j)) (fun _ _ => rfl) i v hv
      simpa [State.fitsSlot, State.slotType?, hk', hkind, vp_cell_i, arrV, hw_ty] using hfit)
    (g := F0 m pc ls (.ref (b + a) :: rest)) rfl (by rw [hml]; exact hl.sz) rfl (by rw [hb]; exact hdg) hframes (by show 2 * 0 + _ + 14 ≤ _; omega) hcells (by rw [hsz]; omega) (hloader := Vm.clonesLoader_of_array hkS hkindS)
  have hcellE : ({ cls := (vp_cell (D.2 0) (σ.2.1 a, .inl (σ.2.2.1 a))).cls, slots := (vp_cell (D.2 0) (σ.2.1 a, .inl (σ.2.2.1 a))).slots } : Cell) = vp_cell (D.2 0) (σ.2.1 a, .inl (σ.2.2.1 a)) := rfl
  rw [hcellE, hsz] at X'
  have hz : H.size = b + σ.2.2.2.2 := hR.1
  generalize hH1 : H.push (vp_cell (D.2 0) (σ.2.1 a, .inl (σ.2.2.1 a))) = H1
  have z1 : H1.size = H.size + 1 := by rw [← hH1, Array.size_push]
  have e1 : H1[H.size]? = some (vp_cell (D.2 0) (σ.2.1 a, .inl (σ.2.2.1 a))) := by rw [← hH1, Array.getElem?_push_size]
  have o1 : ∀ q : Nat, q < H.size → H1[q]? = H[q]? := fun q hq => by rw [← hH1, Array.getElem?_push, if_neg (Nat.ne_of_lt hq)]
  have ez : (hw_vr b (some σ.2.2.2.2) :: rest) = (Value.ref H.size :: rest) := by rw [hz]; rfl
  rw [ez] at kk
  obtain ⟨t, b1, b2⟩ := (W.widen (Nat.le_refl (cells + 1)) (show slots + σ.2.1 a ≤ slots + N by omega) (kk H1 (hw_cpO_R hR z1 o1 e1) ⟨Nat.le_trans hS.1 (by omega), fun x g1 g2 => (o1 x (by have := hS.1; omega)).trans (hS.2.1 x g1 g2), hS.2.2⟩)) ((T.setVm vm').pushCell (vp_cell (D.2 0) (σ.2.1 a, .inl (σ.2.2.1 a)))) (by rw [← hH1, ← hT]; rfl) X'
  refine ⟨t, st t ?_, b2⟩
  rw [hcellE, hT]
  exact b1
theorem hw_castI (hx : p.tables.exec = Jvm.exec) (hb : c.code = cc) (hown : s.vm.findClass own = some m.cls) (hlink : (Cond.classLink own index "[I").before args s = true) (hE : hw_E D s) (hR : hw_R D b σ H) {a : Nat} (ha : σ.1 a = 21) (hdg : decode cc pc = .ok (.checkcast index, 3))
    (kk : W p l e R s m args below meth c H locs cells slots Q (F0 m (pc + 3) ls (hw_vr b (some a) :: rest))) : W p l e R s m args below meth c H locs cells slots Q (F0 m pc ls (hw_vr b (some a) :: rest)) := by
  have hc0 : H[b + a]? = some (vp_cell (D.2 0) (σ.2.1 a, .inl (σ.2.2.1 a))) := (hR.2 a).2 0 ha (by decide)
  have hnm : s.vm.findClass "[I" = some (D.2 0) := va_nm_int (hE.1.2 0 _ (hw_tys_at D (t := 0) (by decide))).2
  intro T hT X
  obtain ⟨vm', X', st⟩ := X.checkcastYes hx hown hlink (by rw [hT]; exact hc0) rfl hnm (va_asg _ _) (g := F0 m pc ls (.ref (b + a) :: rest)) rfl rfl (by rw [hb]; exact hdg)
  obtain ⟨t, a1, b1⟩ := kk (T.setVm vm') hT X'
  exact ⟨t, st t a1, b1⟩
end HW10
abbrev rm7J_copyOf : Room := { frames := 1, cells := 1, slots := 120, locals := 60 }
theorem hw_R_ext {D : hw_D} {b : Nat} {σ : hw_S} {H : Heap} {n z : Nat} {f f' : Nat → Int32} (hf : ∀ j, j < n → f j = f' j) (h : hw_R D b (hw_cpO n z f σ) H) : hw_R D b (hw_cpO n z f' σ) H := by
  refine ⟨h.1, fun x => ?_⟩
  by_cases hx : x = z
  · refine ⟨fun ci h2 h3 => ?_, fun t2 h2 h3 => ?_⟩
    · have h2 : (if x = z then 21 else σ.1 x) = ci + 1 := h2
      rw [if_pos hx] at h2
      omega
    · have h4 := (h.2 x).2 t2 h2 h3
      have h2 : (if x = z then 21 else σ.1 x) = t2 + 21 := h2
      rw [if_pos hx] at h2
      have e0 : t2 = 0 := by omega
      subst e0
      rw [h4]
      refine congrArg some ?_
      unfold hw_ac hw_cpO
      simp only [if_pos hx, if_pos (show (0 : Nat) < 2 by decide)]
      exact hw_arrV (f := fun j => Value.int (f j)) (g := fun j => Value.int (f' j)) _ (fun j hj => by show Value.int (f j) = Value.int (f' j); rw [hf j hj])
  · have he : hw_eq (hw_cpO n z f σ) (hw_cpO n z f' σ) x := ⟨rfl, rfl, by show (if x = z then f' else _) = (if x = z then f else _); rw [if_neg hx, if_neg hx], rfl⟩
    exact (h.2 x).kept he rfl
theorem c7J_copyOf (l : Launch) (D : hw_D) (b : Nat) {x : Option Nat} {n : Int32} {σ : hw_S} {r : Option Nat} {τ : hw_S} (hm : m7J_copyOf x n σ = some (r, τ)) : Met l yJ7_copyOf_59c91 (Cond.code yJ7_copyOf_59c91 cJ7_copyOf_59c91 3 (some (.array .int)) :: wsL_law) rm7J_copyOf (hw_P1 D b σ [hw_vr b x, .int n]) (hw_QP D b τ r) 1 120 (fun q => b ≤ q) := by
  cases x with
  | none => cases hm
  | some a =>
  unfold m7J_copyOf at hm
  by_cases hq : (σ.1 a = 21 ∧ a < σ.2.2.2.2 ∧ σ.2.1 a ≤ 120) ∧ (¬ n < 0 ∧ n.toNatClampNeg ≤ 120)
  · simp only [if_pos hq] at hm
    obtain ⟨⟨ha, haz, h120⟩, hn0, hn⟩ := hq
    refine hw_start1 (by decide +kernel) (Nat.le_of_ble_eq_true rfl) ?_
    intro p e s m below meth c ls C0 hR hS hl
    have hl : lv_has ls 3 [(0, hw_vr b (some a)), (1, .int n)] := hl
    obtain ⟨hx, hb, hml, hr, hown, hts, hlk, hE, hnm⟩ := id C0
    have hown : s.vm.findClass RJ7 = some m.cls := hown
    have hK := hE.1
    have hl : hw_L ls 3 255 [(0, hw_vr b (some a)), (1, .int n)] := ⟨hl, (List.forall_mem_cons.mpr ⟨(fun h => by cases h), (List.forall_mem_cons.mpr ⟨(fun h => by cases h), (fun _ h => absurd h List.not_mem_nil)⟩)⟩)⟩
    have hlen : hw_aL (some a) σ = some (Int32.ofNat (σ.2.1 a)) := by
      show (if 21 ≤ σ.1 a ∧ σ.1 a < 26 then _ else _) = _
      rw [if_pos ⟨by omega, by omega⟩]
    refine lv_iload_n hx hb dJ7_copyOf_59c91_0 rfl (hl.at 1 rfl) ?_
    refine hw_aload_n hx hb dJ7_copyOf_59c91_1 rfl (hl.at 0 rfl) ?_
    refine hw_alen hx hb hK hR hlen dJ7_copyOf_59c91_2 ?_
    refine lv_icmp_ne (tgt := 14) hx hb dJ7_copyOf_59c91_3 (by decide) (fun hne => ?_) (fun heq => ?_)
    · refine lv_iload_n hx hb dJ7_copyOf_59c91_14 rfl (hl.at 1 rfl) ?_
      have e1 : hw_naO 21 n σ = some (σ.2.2.2.2, hw_nw 21 n.toNatClampNeg σ) := by
        unfold hw_naO
        rw [if_neg (fun h => h.elim hn0 (fun h => by omega))]
      refine hw_newaO (atype := .int) (t := 0) (N := 120) (by decide) hx hb rfl (hts _ hw_m27) hK hR hS e1 hn (Nat.le_of_ble_eq_true rfl) (Nat.le_of_ble_eq_true rfl) dJ7_copyOf_59c91_15 (fun H1 hR hS => ?_)
      refine hw_asto_n (lv' := [(2, hw_vr b (some σ.2.2.2.2)), (0, hw_vr b (some a)), (1, .int n)]) hx hb dJ7_copyOf_59c91_17 rfl hl (by decide) (by decide) rfl (fun ls hl => ?_)
      refine hw_aload_n hx hb dJ7_copyOf_59c91_18 rfl (hl.at 1 rfl) ?_
      refine lv_iconst (v := 0) hx hb dJ7_copyOf_59c91_19 (by decide) ?_
      refine hw_aload_n hx hb dJ7_copyOf_59c91_20 rfl (hl.at 0 rfl) ?_
      refine lv_iconst (v := 0) hx hb dJ7_copyOf_59c91_21 (by decide) ?_
      refine hw_aload_n hx hb dJ7_copyOf_59c91_22 rfl (hl.at 1 rfl) ?_
      have hne0 : a ≠ σ.2.2.2.2 := by omega
      have hlen2 : hw_aL (some a) (hw_nw 21 n.toNatClampNeg σ) = some (Int32.ofNat (σ.2.1 a)) := by
        have e1 := (hw_nw_eq (tag := 21) (n := n.toNatClampNeg) hne0).1
        have e2 := (hw_nw_eq (tag := 21) (n := n.toNatClampNeg) hne0).2.1
        show (if 21 ≤ (hw_nw 21 n.toNatClampNeg σ).1 a ∧ (hw_nw 21 n.toNatClampNeg σ).1 a < 26 then some (Int32.ofNat ((hw_nw 21 n.toNatClampNeg σ).2.1 a)) else _) = _
        rw [e1, e2, if_pos ⟨by omega, by omega⟩]
      refine hw_alen hx hb hK hR hlen2 dJ7_copyOf_59c91_23 ?_
      refine lv_iload_n hx hb dJ7_copyOf_59c91_24 rfl (hl.at 2 rfl) ?_
      refine hw_mmin hx hb hml hl hown (hts _ hw_m316) (hts _ hw_m156) (hts _ hw_m157) (hts _ hw_m158) (Nat.le_of_ble_eq_true rfl) ⟨hw_sm (List.forall_mem_cons.mpr ⟨rfl, List.forall_mem_cons.mpr ⟨hw_vr_cat _ _, List.forall_mem_cons.mpr ⟨rfl, List.forall_mem_cons.mpr ⟨hw_vr_cat _ _, fun _ h => absurd h List.not_mem_nil⟩⟩⟩⟩) (Nat.le_of_ble_eq_true rfl), Nat.le_of_ble_eq_true rfl⟩ (Nat.le_of_ble_eq_true rfl) (Nat.le_of_ble_eq_true rfl) dJ7_copyOf_59c91_25 ?_
      obtain ⟨k, hk, hkn⟩ := nI_of hn0
      have hkn : n = nI k := hkn
      have ekn : n.toNatClampNeg = k := by rw [hkn, nI_clamp hk]
      have hmin : ∃ q : Nat, hw_min (Int32.ofNat (σ.2.1 a)) n = Int32.ofNat q ∧ q ≤ σ.2.1 a ∧ q ≤ n.toNatClampNeg ∧ (σ.2.1 a ≤ q ∨ n.toNatClampNeg ≤ q) := by
        unfold hw_min
        by_cases hlt : n < Int32.ofNat (σ.2.1 a)
        · rw [if_pos hlt]
          refine ⟨k, hkn, ?_, by omega, Or.inr (by omega)⟩
          have h3 : ¬ σ.2.1 a ≤ k := fun h => absurd hlt (by rw [hkn]; exact fun h5 => absurd ((nI_ltI (by omega) (by omega)).mp h5) (by omega))
          omega
        · rw [if_neg hlt]
          refine ⟨σ.2.1 a, rfl, Nat.le_refl _, ?_, Or.inl (Nat.le_refl _)⟩
          have h3 : ¬ n.toNatClampNeg < σ.2.1 a := fun h => hlt (by rw [hkn]; exact nI_lt (by omega) (by omega))
          omega
      obtain ⟨q, eq1, q1, q2, q3⟩ := hmin
      have eqc : (Int32.ofNat q).toNatClampNeg = q := nI_clamp (by omega)
      have hq0 : ¬ Int32.ofNat q < 0 := nI_pos (by omega)
      rw [eq1]
      have hcp : hw_cpI (some a) (some σ.2.2.2.2) (Int32.ofNat q) (hw_nw 21 n.toNatClampNeg σ) = some (hw_cpO n.toNatClampNeg σ.2.2.2.2 (fun j => if j < q then σ.2.2.1 a j else 0) σ) := by
        have e1 := (hw_nw_eq (tag := 21) (n := n.toNatClampNeg) hne0).1
        have e2 := (hw_nw_eq (tag := 21) (n := n.toNatClampNeg) hne0).2.1
        have e3 := (hw_nw_eq (tag := 21) (n := n.toNatClampNeg) hne0).2.2.1
        have z1 : (hw_nw 21 n.toNatClampNeg σ).1 σ.2.2.2.2 = 21 := if_pos rfl
        have z2 : (hw_nw 21 n.toNatClampNeg σ).2.1 σ.2.2.2.2 = n.toNatClampNeg := if_pos rfl
        have z3 : (hw_nw 21 n.toNatClampNeg σ).2.2.1 σ.2.2.2.2 = (fun _ => 0) := if_pos rfl
        unfold hw_cpI
        simp only [e1, e2, e3, z1, z2, z3, eqc]
        rw [if_pos ⟨⟨ha, trivial⟩, hq0, q1, q2⟩]
        refine congrArg some (Prod.ext rfl (Prod.ext rfl (Prod.ext (funext fun x => ?_) rfl)))
        show (if x = σ.2.2.2.2 then _ else (hw_nw 21 n.toNatClampNeg σ).2.2.1 x) = (if x = σ.2.2.2.2 then _ else σ.2.2.1 x)
        by_cases hxz : x = σ.2.2.2.2
        · rw [if_pos hxz, if_pos hxz]
        · rw [if_neg hxz, if_neg hxz, (hw_nw_eq (tag := 21) (n := n.toNatClampNeg) hxz).2.2.1]
      refine hw_copyI hx hb hml hl hown (hts _ hw_m317) (hts _ hw_m318) (hts _ hw_m319) (hts _ hw_m320) hK hR hS hcp (Nat.le_of_ble_eq_true rfl) ⟨Nat.le_of_ble_eq_true rfl, Nat.le_of_ble_eq_true rfl⟩ dJ7_copyOf_59c91_28 (fun H2 L2 hR hS => ?_)
      refine hw_aload_n hx hb dJ7_copyOf_59c91_31 rfl (hl.at 0 rfl) ?_
      refine hw_rWP hx hb hr (Or.inr ⟨_, rfl⟩) hlk (hw_R_ext (f' := fun j => if j < n.toNatClampNeg ∧ j < σ.2.1 a then σ.2.2.1 a j else 0) (fun j hj => ?_) hR) hS hm dJ7_copyOf_59c91_32
      by_cases hjq : j < q
      · rw [if_pos hjq, if_pos ⟨hj, by omega⟩]
      · rw [if_neg hjq, if_neg (fun h => hjq (by omega))]
    · refine hw_aload_n hx hb dJ7_copyOf_59c91_6 rfl (hl.at 0 rfl) ?_
      have en : σ.2.1 a = n.toNatClampNeg := by
        have heq : n = Int32.ofNat (σ.2.1 a) := heq
        rw [heq]; exact (nI_clamp (by omega)).symm
      refine hw_clone (N := 120) hx hb hml hl hown (hts _ hw_m310) (hts _ hw_m311) (hts _ hw_m312) (hts _ hw_m313) (hts _ hw_m314) hE hR hS ha h120 (Nat.le_of_ble_eq_true rfl) (Nat.le_of_ble_eq_true rfl) (Nat.le_of_ble_eq_true rfl) (Nat.le_of_ble_eq_true rfl) dJ7_copyOf_59c91_7 (fun H1 hR hS => ?_)
      refine hw_castI hx hb hown (hts _ hw_m315) hE hR (if_pos rfl) dJ7_copyOf_59c91_10 ?_
      rw [en] at hR
      refine hw_rWP hx hb hr (Or.inr ⟨_, rfl⟩) hlk (hw_R_ext (f' := fun j => if j < n.toNatClampNeg ∧ j < σ.2.1 a then σ.2.2.1 a j else 0) (fun j hj => ?_) hR) hS hm dJ7_copyOf_59c91_13
      rw [if_pos ⟨hj, by omega⟩]
  · simp only [if_neg hq] at hm; cases hm
/-- new int[8][100] -/
def hw_mnO (z : Nat) (σ : hw_S) : hw_S := ((fun x => if x = z then 25 else if z < x ∧ x ≤ z + 8 then 21 else σ.1 x), (fun x => if x = z then 8 else if z < x ∧ x ≤ z + 8 then 100 else σ.2.1 x), (fun x => if z ≤ x ∧ x ≤ z + 8 then (fun _ => 0) else σ.2.2.1 x), (fun x => if x = z then (fun j => if j < 8 then some (z + 1 + j) else none) else if z < x ∧ x ≤ z + 8 then (fun _ => none) else σ.2.2.2.1 x), z + 9)
def hw_mn2 (n k : Int32) (σ : hw_S) : Option (Nat × hw_S) := if n = 8 ∧ k = 100 then some (σ.2.2.2.2, hw_mnO σ.2.2.2.2 σ) else none
