/-! my own layer: what holds of the machine's tables beside the words; contracts; calls; returns -/
theorem hw_R.of {D : hw_D} {b : Nat} {σ : hw_S} {H : Heap} {t : State} (h : hw_R D b σ H) (ht : t.heap = H) : hw_R D b σ t.heap := by rw [ht]; exact h
def hw_nests : List (String × Nat × MethodName) := [("HoneyWinds", 9, yX8_init), ("HoneyWinds", 25, yX4_init), ("HoneyWinds", 32, yX10_init), ("HoneyWinds$Reader", 87, yX11_isWithin), ("HoneyWinds$Laying", 61, yX11_heightOf), ("HoneyWinds$Laying", 65, yX11_flowOf), ("HoneyWinds$Laying", 68, yX11_paceOf), ("HoneyWinds$Hanging", 13, yX11_cut), ("HoneyWinds$Flung", 7, yX11_heightOf), ("HoneyWinds$Flung", 13, yX11_flowOf), ("HoneyWinds$Flung", 16, yX11_cut), ("HoneyWinds$Slow", 13, yX11_flowOf), ("HoneyWinds$Slow", 19, yX11_heightOf), ("HoneyWinds$Slow", 22, yX11_cut), ("HoneyWinds$Laying", 106, yX11_cut), ("HoneyWinds$Trace", 25, yX11_isWithin), ("HoneyWinds$Laying", 57, yX11_isWithin)]
def hw_casts : List (String × String) := [("[I", "java/lang/Cloneable"), (RX0, RX2), (RX6, RX2), (RX5, RX1), (RX7, RX3), (RX2, RX3), (RX1, RX3), (RX0, RX3), (RX6, RX3), (RX5, RX3)]
def hw_nocasts : List (String × String) := [(RX2, RX7), (RX1, RX7), (RX0, RX7), (RX6, RX7), (RX5, RX7), (RX3, RX7), (RX7, RX2), (RX1, RX2), (RX5, RX2), (RX3, RX2), (RX7, RX1), (RX2, RX1), (RX0, RX1), (RX6, RX1), (RX3, RX1), (RX7, RX0), (RX2, RX0), (RX1, RX0), (RX6, RX0), (RX5, RX0), (RX3, RX0), (RX7, RX6), (RX2, RX6), (RX1, RX6), (RX0, RX6), (RX5, RX6), (RX3, RX6), (RX7, RX5), (RX2, RX5), (RX1, RX5), (RX0, RX5), (RX6, RX5), (RX3, RX5)]
-- rows of rows of ints have their class
def hw_AOA (U : State) : Prop := (Cond.arrayOver (.array .int)).before #[] U = true
theorem hw_AOA.use {A : Array Value} {U : State} (h : hw_AOA U) : (Cond.arrayOver (.array .int)).before A U = true := h
theorem hw_AOA.moved {u U : State} (hvm : u.vm.Alike U.vm) (h : hw_AOA u) : hw_AOA U := by
  unfold hw_AOA Cond.before Cond.holds at h
  simp only [Cond.value, beq_iff_eq] at h
  unfold hw_AOA Cond.before Cond.holds
  simp only [Cond.value]
  rw [← hvm.findClass (FieldType.array FieldType.int).toString] at h
  cases hc : U.vm.findClass (FieldType.array FieldType.int).toString with
  | none => rw [hc] at h; cases h
  | some comp =>
    rw [hc, Option.bind_some] at h
    rw [Option.bind_some]
    simp only [Option.bind_eq_some_iff, Option.map_eq_some_iff] at h
    obtain ⟨c, hi, k, hk, hb⟩ := h
    obtain ⟨k', hk', he⟩ := hvm.2.2 _ _ hk
    have hi2 : (U.vm.classes.findIdx? fun (x : Class) => match x.kind with | .array component _ => component == comp | _ => false) = some c := by
      refine (va_idx_bare U.vm comp).symm.trans ?_
      first | rw [hvm.bare_eq] | rw [← hvm.bare_eq]
      exact (va_idx_bare u.vm comp).trans hi
    refine (congrArg (fun o : Option Nat => (o.bind (fun c => (U.vm.classes[c]?).map fun (k : Class) => match k.kind with | .array _ ty => decide (ty = FieldType.array .int) && decide (U.vm.findClass ("[" ++ (FieldType.array .int).toString) = some c) | _ => false) == some true)) hi2).trans ?_
    rw [Option.bind_some, hk', Option.map_some]
    rw [← hvm.findClass] at hb
    rw [he]
    refine (congrArg (fun z : Bool => (some z == some true)) (show _ = true from ?_)).trans rfl
    exact hb
def hw_E (D : hw_D) (U : State) : Prop := va_K D.1 vwCl (hw_tys D) U ∧ (∀ q ∈ hw_nests, va_Nw (.methodLinkNest q.1 q.2.1 q.2.2 "HoneyWinds") U) ∧ (∀ q ∈ hw_casts, va_Nw (.castable q.1 q.2) U) ∧ (∀ q ∈ hw_nocasts, va_Nc q.1 q.2 U) ∧ va_AO "HoneyWinds$Laying" U ∧ va_AO "HoneyWinds$Stuff" U ∧ hw_AOA U
theorem hw_E.warm {D : hw_D} {s U : State} (hW : s.WarmedH U.vm) (h : hw_E D s) : hw_E D U := ⟨va_K.moved hW.alike h.1, fun q hq => va_Nw.warmM hW (h.2.1 q hq), fun q hq => va_Nw.warmC hW (h.2.2.1 q hq), fun q hq => (h.2.2.2.1 q hq).moved hW.alike, h.2.2.2.2.1.moved hW.alike, h.2.2.2.2.2.1.moved hW.alike, h.2.2.2.2.2.2.moved hW.alike⟩
theorem hw_E.same {D : hw_D} {u U : State} (hv : u.vm = U.vm) (h : hw_E D u) : hw_E D U := ⟨va_K.moved (by rw [hv]; exact Vm.Alike.refl U.vm) h.1, fun q hq => va_Nw.same rfl hv (h.2.1 q hq), fun q hq => va_Nw.same rfl hv (h.2.2.1 q hq), fun q hq => (h.2.2.2.1 q hq).moved (by rw [hv]; exact Vm.Alike.refl U.vm), h.2.2.2.2.1.moved (by rw [hv]; exact Vm.Alike.refl U.vm), h.2.2.2.2.2.1.moved (by rw [hv]; exact Vm.Alike.refl U.vm), h.2.2.2.2.2.2.moved (by rw [hv]; exact Vm.Alike.refl U.vm)⟩
theorem hw_good1 {w : Cond} (h : w ∈ wsL_law) : (w.onTables && w.keeps) = true ∨ ∃ ty, w = .arrayClass ty := good_of_word (List.all_eq_true.mp hw_good w h)
theorem hw_gC {y : MethodName} {cc : ByteArray} {n : Nat} {r : Option FieldType} (h : Cond.code y cc n r ∈ wsL_law) : GoodIn wsL_law (Cond.code y cc n r :: wsL_law) := fun w hw => by
  rcases List.mem_cons.mp hw with rfl | h1
  · exact ⟨h, hw_good1 h⟩
  · exact ⟨h1, hw_good1 h1⟩
theorem hw_gAll {ws : List Cond} (h : ∀ w ∈ ws, w ∈ wsL_law) : GoodIn wsL_law ws := fun w hw => ⟨h w hw, hw_good1 (h w hw)⟩
theorem hw_gS {own : String} {idx : Nat} {y : MethodName} {cc : ByteArray} {n : Nat} {r : Option FieldType} (h1 : Cond.methodLink own idx y ∈ wsL_law) (h2 : Cond.static y ∈ wsL_law) (h3 : Cond.initialized own ∈ wsL_law) (h4 : Cond.code y cc n r ∈ wsL_law) : GoodIn wsL_law (wsS own idx y (Cond.code y cc n r :: wsL_law)) := hw_gAll fun w hw => by
  simp only [wsS, List.mem_append, List.mem_cons, List.not_mem_nil, or_false] at hw
  rcases hw with (rfl | rfl | rfl) | rfl | h <;> assumption
theorem hw_gV {own C : String} {idx : Nat} {y : MethodName} {cc : ByteArray} {n : Nat} {r : Option FieldType} (h1 : Cond.methodLink own idx y ∈ wsL_law) (h2 : Cond.instanceMethod y ∈ wsL_law) (h3 : Cond.selects C y y ∈ wsL_law) (h5 : Cond.initialized C ∈ wsL_law) (h4 : Cond.code y cc n r ∈ wsL_law) : GoodIn wsL_law (wsV own idx C y (Cond.code y cc n r :: wsL_law)) := hw_gAll fun w hw => by
  simp only [wsV, List.mem_append, List.mem_cons, List.not_mem_nil, or_false] at hw
  rcases hw with (rfl | rfl | rfl | rfl) | rfl | h <;> assumption
theorem hw_gU {own C owner : String} {idx : Nat} {x y : MethodName} {cc : ByteArray} {n : Nat} {r : Option FieldType} (h1 : Cond.methodLink own idx x ∈ wsL_law) (h2 : Cond.sameMethod x.cls owner x.name x.desc ∈ wsL_law) (h3 : Cond.selects C x y ∈ wsL_law) (h5 : Cond.instanceMethod y ∈ wsL_law) (h6 : Cond.initialized y.cls ∈ wsL_law) (h4 : Cond.code y cc n r ∈ wsL_law) : GoodIn wsL_law (va_wsU own idx C owner x y (Cond.code y cc n r :: wsL_law)) := hw_gAll fun w hw => by
  simp only [va_wsU, List.mem_append, List.mem_cons, List.not_mem_nil, or_false] at hw
  rcases hw with (rfl | rfl | rfl | rfl | rfl) | rfl | h <;> assumption
theorem hw_gO {own C owner : String} {idx : Nat} {x y : MethodName} {cc : ByteArray} {n : Nat} {r : Option FieldType} (h1 : Cond.methodLink own idx x ∈ wsL_law) (h2 : Cond.sameMethod x.cls owner x.name x.desc ∈ wsL_law) (h7 : Cond.instanceMethod ⟨owner, x.name, x.desc⟩ ∈ wsL_law) (h3 : Cond.selects C x y ∈ wsL_law) (h5 : Cond.instanceMethod y ∈ wsL_law) (h6 : Cond.initialized y.cls ∈ wsL_law) (h4 : Cond.code y cc n r ∈ wsL_law) : GoodIn wsL_law (va_wsO own idx C owner x y (Cond.code y cc n r :: wsL_law)) := hw_gAll fun w hw => by
  simp only [va_wsO, List.mem_append, List.mem_cons, List.not_mem_nil, or_false] at hw
  rcases hw with (rfl | rfl | rfl | rfl | rfl | rfl) | rfl | h <;> assumption
theorem hw_gSU {own : String} {idx : Nat} {y : MethodName} {cc : ByteArray} {n : Nat} {r : Option FieldType} (h1 : Cond.methodLink own idx y ∈ wsL_law) (h2 : Cond.sameMethod y.cls y.cls y.name y.desc ∈ wsL_law) (h3 : Cond.superclass own y.cls ∈ wsL_law) (h5 : Cond.instanceMethod y ∈ wsL_law) (h6 : Cond.initialized y.cls ∈ wsL_law) (h4 : Cond.code y cc n r ∈ wsL_law) : GoodIn wsL_law (va_wsSU own idx y (Cond.code y cc n r :: wsL_law)) := hw_gAll fun w hw => by
  simp only [va_wsSU, List.mem_append, List.mem_cons, List.not_mem_nil, or_false] at hw
  rcases hw with (rfl | rfl | rfl | rfl | rfl) | rfl | h <;> assumption
/-- what holds at a method's start, of the tables -/
def hw_C (p : Program) (s : State) (m : MethodId) (args : Array Value) (meth : Method) (c : Code) (D : hw_D) (y : MethodName) (cc : ByteArray) (nL : Nat) (ret : Option FieldType) : Prop :=
  p.tables.exec = Jvm.exec ∧ c.code = cc ∧ c.maxLocals = nL ∧ meth.sig.returnType = ret ∧ s.vm.findClass y.cls = some m.cls ∧ (∀ w ∈ wsL_law, w.before args s = true) ∧ meth.locks = false ∧ hw_E D s ∧ meth.name = y.name
/-- starts: without a heap, with one -/
def hw_P0 (D : hw_D) (av : List Value) : Array Value → State → Prop := fun v U => v = av.toArray ∧ hw_E D U
def hw_P1 (D : hw_D) (b : Nat) (σ : hw_S) (av : List Value) : Array Value → State → Prop := fun v U => v = av.toArray ∧ hw_E D U ∧ hw_R D b σ U.heap
theorem hw_P0_bl {D : hw_D} {av : List Value} : FrameBlind (hw_P0 D av) := fun a U g mk q => ⟨q.1, hw_E.same (U := U.calling g mk a) rfl q.2⟩
theorem hw_P1_bl {D : hw_D} {b : Nat} {σ : hw_S} {av : List Value} : FrameBlind (hw_P1 D b σ av) := fun a U g mk q => ⟨q.1, hw_E.same (U := U.calling g mk a) rfl q.2.1, q.2.2⟩
theorem hw_pre0 {D : hw_D} {s : State} {H : Heap} {av : List Value} (hE : hw_E D s) : PreS s H (hw_P0 D av) av := ⟨hw_P0_bl, fun U _ hW => ⟨rfl, hE.warm hW⟩⟩
theorem hw_pre1 {D : hw_D} {b : Nat} {σ : hw_S} {s : State} {H : Heap} {av : List Value} (hE : hw_E D s) (hR : hw_R D b σ H) : PreS s H (hw_P1 D b σ av) av := ⟨hw_P1_bl, fun U hU hW => ⟨rfl, hE.warm hW, by rw [hU]; exact hR⟩⟩
/-- ends -/
def hw_QI (D : hw_D) (b : Nat) (τ : hw_S) (r : Int32) : Array Value → State → Outcome → State → Prop := va_Qi (fun z (_ : Unit) => z = r) (fun _ t => hw_R D b τ t.heap) (fun q => b ≤ q)
def hw_QP (D : hw_D) (b : Nat) (τ : hw_S) (r : Option Nat) : Array Value → State → Outcome → State → Prop := va_Qq (fun z (_ : Unit) => z = r.map (fun a => b + a)) (fun _ t => hw_R D b τ t.heap) (fun q => b ≤ q)
def hw_QV (D : hw_D) (b : Nat) (τ : hw_S) : Array Value → State → Outcome → State → Prop := va_Qv (fun (_ : Unit) => True) (fun _ t => hw_R D b τ t.heap) (fun q => b ≤ q)
def hw_RI (r : Int32) : Array Value → State → Outcome → State → Prop := vp_Si (fun z => z = r)
def hw_RP (b : Nat) (r : Option Nat) : Array Value → State → Outcome → State → Prop := va_Sq (fun z => z = r.map (fun a => b + a))
abbrev hw_nof : Addr → Prop := fun _ => False
section HW3
variable {p : Program} {l : Launch} {e : Env} {R : Room} {s : State} {m : MethodId} {args : Array Value} {below : List Frame} {meth : Method} {c : Code} {H : Heap} {locs : List Loc} {cells slots : Nat} {Q : State → Prop}
variable {cc : ByteArray} {pc : Nat} {ls : Array Slot} {rest st0 : List Value} {D : hw_D} {b : Nat} {σ τ : hw_S} {a : Array Value} {H0 : Heap} {mc ms : Nat}
theorem hw_cRI {r : Int32} (hr : va_Run p l e R s m args below meth c H locs cells slots 0 0 (F0 m pc ls st0) rest (hw_RI r a) hw_nof)
    (kk : W p l e R s m args below meth c H locs cells slots Q (F0 m (pc + 3) ls (.int r :: rest))) : W p l e R s m args below meth c H locs cells slots Q (F0 m pc ls st0) :=
  vp_callSi hr.run (fun z hz => by rw [hz]; exact kk)
theorem hw_cRP {r : Option Nat} (hr : va_Run p l e R s m args below meth c H locs cells slots 0 0 (F0 m pc ls st0) rest (hw_RP b r a) hw_nof)
    (kk : W p l e R s m args below meth c H locs cells slots Q (F0 m (pc + 3) ls (hw_vr b r :: rest))) : W p l e R s m args below meth c H locs cells slots Q (F0 m pc ls st0) :=
  va_csq hr.run (fun z hz => by rw [hz]; exact kk)
theorem hw_cWI {r : Int32} (hr : va_Run p l e R s m args below meth c H locs cells slots mc ms (F0 m pc ls st0) rest (hw_QI D b τ r a) (fun q => b ≤ q)) (hS : va_S (fun q => b ≤ q) H0 H locs)
    (kk : ∀ (H1 : Heap) (locs1 : List Loc), hw_R D b τ H1 → va_S (fun q => b ≤ q) H0 H1 locs1 → W p l e R s m args below meth c H1 locs1 (cells + mc) (slots + ms) Q (F0 m (pc + 3) ls (.int r :: rest))) : W p l e R s m args below meth c H locs cells slots Q (F0 m pc ls st0) :=
  va_calli hr hS (fun _ _ h => h) (fun _ h => h) (fun z u t H1 locs1 ht _ hz hB _ _ hS1 => by rw [hz]; exact kk H1 locs1 (by rw [← ht]; exact hB) hS1)
theorem hw_cWP {r : Option Nat} (hr : va_Run p l e R s m args below meth c H locs cells slots mc ms (F0 m pc ls st0) rest (hw_QP D b τ r a) (fun q => b ≤ q)) (hS : va_S (fun q => b ≤ q) H0 H locs)
    (kk : ∀ (H1 : Heap) (locs1 : List Loc), hw_R D b τ H1 → va_S (fun q => b ≤ q) H0 H1 locs1 → W p l e R s m args below meth c H1 locs1 (cells + mc) (slots + ms) Q (F0 m (pc + 3) ls (hw_vr b r :: rest))) : W p l e R s m args below meth c H locs cells slots Q (F0 m pc ls st0) :=
  va_callq hr hS (fun _ _ h => h) (fun _ h => h) (fun z u t H1 locs1 ht _ hz hB _ _ hS1 => by rw [hz]; exact kk H1 locs1 (by rw [← ht]; exact hB) hS1)
theorem hw_cWV (hr : va_Run p l e R s m args below meth c H locs cells slots mc ms (F0 m pc ls st0) rest (hw_QV D b τ a) (fun q => b ≤ q)) (hS : va_S (fun q => b ≤ q) H0 H locs)
    (kk : ∀ (H1 : Heap) (locs1 : List Loc), hw_R D b τ H1 → va_S (fun q => b ≤ q) H0 H1 locs1 → W p l e R s m args below meth c H1 locs1 (cells + mc) (slots + ms) Q (F0 m (pc + 3) ls rest)) : W p l e R s m args below meth c H locs cells slots Q (F0 m pc ls st0) :=
  va_callv hr hS (fun _ _ h => h) (fun _ h => h) (fun u t H1 locs1 ht _ hz hB _ _ hS1 => kk H1 locs1 (by rw [← ht]; exact hB) hS1)
/-- the receiver's cell -/
theorem hw_recv {ci N a : Nat} {C : String} {T : u_T} (hE : hw_E D s) (hR : hw_R D b σ H) (hc : vwCl[ci]? = some (C, T, N)) (h13 : ci < 13) (ht : σ.1 a = ci + 1) : ∃ cellB : Cell, H[b + a]? = some cellB ∧ cellB.vm.isStatics = false ∧ s.vm.findClass C = some cellB.cls := by
  obtain ⟨cell, q1, q2, q3, -⟩ := (hR.2 a).1 ci ht h13
  exact ⟨cell, q1, by rw [q3]; rfl, by rw [q2]; exact (hE.1.1 ci _ hc).2.1⟩
theorem hw_preV {ci N x : Nat} {C : String} {T : u_T} {av : List Value} (hE : hw_E D s) (hR : hw_R D b σ H) (hc : vwCl[ci]? = some (C, T, N)) (h13 : ci < 13) (ht : σ.1 x = ci + 1) : PreV s H C (b + x) (hw_P1 D b σ (.ref (b + x) :: av)) av :=
  ⟨hw_P1_bl, hw_recv hE hR hc h13 ht, fun U hU hW => ⟨rfl, hE.warm hW, by rw [hU]; exact hR⟩⟩
-- returns
theorem hw_rRI {r v : Int32} (hx : p.tables.exec = Jvm.exec) (hb : c.code = cc) (hr : meth.sig.returnType = some .int) (hlocks : meth.locks = false) (hv : some v = some r) (hdg : decode cc pc = .ok (.ireturn, 1)) : W p l e R s m args below meth c s.heap [] 0 0 (MQ below (hw_RI r) args s 0 0 hw_nof) (F0 m pc ls [.int v]) :=
  W.iret (v := v) hx hb hr (fun t ht _ => ⟨v, rfl, Option.some.inj hv, ht⟩) (fun q h => by cases h) hdg
theorem hw_rRZ {r v : Int32} {u : Unit} (hx : p.tables.exec = Jvm.exec) (hb : c.code = cc) (hr : meth.sig.returnType = some .boolean) (hlocks : meth.locks = false) (h01 : hw_tf v = some u) (hv : some v = some r) (hdg : decode cc pc = .ok (.ireturn, 1)) : W p l e R s m args below meth c s.heap [] 0 0 (MQ below (hw_RI r) args s 0 0 hw_nof) (F0 m pc ls [.int v]) :=
  W.zret (v := v) hx hb hr (by rcases hw_tf_of h01 with rfl | rfl <;> rfl) (fun t ht _ => ⟨v, rfl, Option.some.inj hv, ht⟩) (fun q h => by cases h) hdg
theorem hw_rRP {rt : FieldType} {r v : Option Nat} (hx : p.tables.exec = Jvm.exec) (hb : c.code = cc) (hr : meth.sig.returnType = some rt) (hrt : (∃ n, rt = .object n) ∨ ∃ t, rt = .array t) (hlocks : meth.locks = false) (hv : some v = some r) (hdg : decode cc pc = .ok (.areturn, 1)) : W p l e R s m args below meth c s.heap [] 0 0 (MQ below (hw_RP b r) args s 0 0 hw_nof) (F0 m pc ls [hw_vr b v]) :=
  W.aret (v := hw_vr b v) hx hb hr hrt (hw_vr_or b v) (fun t ht _ => ⟨v.map (fun a => b + a), rfl, by rw [Option.some.inj hv], ht⟩) (fun q h => by cases h) hdg
theorem hw_rWI {r v : Int32} (hx : p.tables.exec = Jvm.exec) (hb : c.code = cc) (hr : meth.sig.returnType = some .int) (hlocks : meth.locks = false) (hR : hw_R D b σ H) (hS : va_S (fun q => b ≤ q) s.heap H locs) (hv : some (v, σ) = some (r, τ)) (hdg : decode cc pc = .ok (.ireturn, 1)) : W p l e R s m args below meth c H locs mc ms (MQ below (hw_QI D b τ r) args s mc ms (fun q => b ≤ q)) (F0 m pc ls [.int v]) := by
  injection hv with hv
  injection hv with h1 h2
  subst h1
  subst h2
  exact W.iret (v := v) hx hb hr (fun t ht _ => ⟨⟨v, (), rfl, rfl, hR.of ht⟩, hS.F ht⟩) hS.2.2 hdg
theorem hw_rWZ {r v : Int32} {u : Unit} (hx : p.tables.exec = Jvm.exec) (hb : c.code = cc) (hr : meth.sig.returnType = some .boolean) (hlocks : meth.locks = false) (hR : hw_R D b σ H) (hS : va_S (fun q => b ≤ q) s.heap H locs) (h01 : hw_tf v = some u) (hv : some (v, σ) = some (r, τ)) (hdg : decode cc pc = .ok (.ireturn, 1)) : W p l e R s m args below meth c H locs mc ms (MQ below (hw_QI D b τ r) args s mc ms (fun q => b ≤ q)) (F0 m pc ls [.int v]) := by
  injection hv with hv
  injection hv with h1 h2
  subst h1
  subst h2
  exact W.zret (v := v) hx hb hr (by rcases hw_tf_of h01 with rfl | rfl <;> rfl) (fun t ht _ => ⟨⟨v, (), rfl, rfl, hR.of ht⟩, hS.F ht⟩) hS.2.2 hdg
theorem hw_rWP {rt : FieldType} {r v : Option Nat} (hx : p.tables.exec = Jvm.exec) (hb : c.code = cc) (hr : meth.sig.returnType = some rt) (hrt : (∃ n, rt = .object n) ∨ ∃ t, rt = .array t) (hlocks : meth.locks = false) (hR : hw_R D b σ H) (hS : va_S (fun q => b ≤ q) s.heap H locs) (hv : some (v, σ) = some (r, τ)) (hdg : decode cc pc = .ok (.areturn, 1)) : W p l e R s m args below meth c H locs mc ms (MQ below (hw_QP D b τ r) args s mc ms (fun q => b ≤ q)) (F0 m pc ls [hw_vr b v]) := by
  injection hv with hv
  injection hv with h1 h2
  subst h1
  subst h2
  exact W.aret (v := hw_vr b v) hx hb hr hrt (hw_vr_or b v) (fun t ht _ => ⟨⟨v.map (fun a => b + a), (), rfl, rfl, hR.of ht⟩, hS.F ht⟩) hS.2.2 hdg
theorem hw_rWV (hx : p.tables.exec = Jvm.exec) (hb : c.code = cc) (hr : meth.sig.returnType = none) (hlocks : meth.locks = false) (hR : hw_R D b σ H) (hS : va_S (fun q => b ≤ q) s.heap H locs) (hv : some σ = some τ) (hdg : decode cc pc = .ok (.return_, 1)) : W p l e R s m args below meth c H locs mc ms (MQ below (hw_QV D b τ) args s mc ms (fun q => b ≤ q)) (F0 m pc ls []) := by
  injection hv with h1
  subst h1
  exact W.vret hx hb hr (fun t ht _ => ⟨⟨(), rfl, trivial, hR.of ht⟩, hS.F ht⟩) hS.2.2 hdg
end HW3
/-- a method's start, from what its caller gives -/
theorem hw_start0 {l : Launch} {y : MethodName} {cc : ByteArray} {nL : Nat} {ret : Option FieldType} {rm : Room} {D : hw_D} {av : List Value} {Qc : Array Value → State → Outcome → State → Prop} {mc ms : Nat} {free : Addr → Prop} (hy : plainName y.cls = true) (hlen : (lg_sl av).length ≤ nL)
    (body : ∀ (p : Program) (e : Env) (s : State) (m : MethodId) (below : List Frame) (meth : Method) (c : Code) (ls : Array Slot), hw_C p s m av.toArray meth c D y cc nL ret → lv_has ls nL (lv_args 0 av) → W p l e rm s m av.toArray below meth c s.heap [] 0 0 (MQ below Qc av.toArray s mc ms free) (F0 m 0 ls [])) : Met l y (Cond.code y cc nL ret :: wsL_law) rm (hw_P0 D av) Qc mc ms free := by
  refine Met.ofW (cc := cc) (maxL := nL) (ret := ret) hy rfl ?_
  intro p e s m args below meth c s₁ B hml hv
  obtain ⟨rfl, hE⟩ := hv
  have hts := atoms_spec (ws := Cond.code y cc nL ret :: wsL_law) B.pre
  have hl := lv_entry av (n := nL) hlen
  rw [lg_entry_eq]
  generalize (lg_sl av ++ List.replicate (nL - (lg_sl av).length) Slot.unset).toArray = ls at hl ⊢
  exact body p e s m below meth c ls ⟨B.exec, B.bytes, hml, B.returns, findClass_of_methodNamed B.named, fun w hw => hts w (List.mem_cons_of_mem _ hw), B.notSynchronized, hE, (name_of_methodNamed B.named B.method).1⟩ hl
theorem hw_start1 {l : Launch} {y : MethodName} {cc : ByteArray} {nL : Nat} {ret : Option FieldType} {rm : Room} {D : hw_D} {b : Nat} {σ : hw_S} {av : List Value} {Qc : Array Value → State → Outcome → State → Prop} {mc ms : Nat} {free : Addr → Prop} (hy : plainName y.cls = true) (hlen : (lg_sl av).length ≤ nL)
    (body : ∀ (p : Program) (e : Env) (s : State) (m : MethodId) (below : List Frame) (meth : Method) (c : Code) (ls : Array Slot), hw_C p s m av.toArray meth c D y cc nL ret → hw_R D b σ s.heap → va_S (fun q => b ≤ q) s.heap s.heap [] → lv_has ls nL (lv_args 0 av) → W p l e rm s m av.toArray below meth c s.heap [] 0 0 (MQ below Qc av.toArray s mc ms free) (F0 m 0 ls [])) : Met l y (Cond.code y cc nL ret :: wsL_law) rm (hw_P1 D b σ av) Qc mc ms free := by
  refine Met.ofW (cc := cc) (maxL := nL) (ret := ret) hy rfl ?_
  intro p e s m args below meth c s₁ B hml hv
  obtain ⟨rfl, hE, hR⟩ := hv
  have hts := atoms_spec (ws := Cond.code y cc nL ret :: wsL_law) B.pre
  have hl := lv_entry av (n := nL) hlen
  rw [lg_entry_eq]
  generalize (lg_sl av ++ List.replicate (nL - (lg_sl av).length) Slot.unset).toArray = ls at hl ⊢
  exact body p e s m below meth c ls ⟨B.exec, B.bytes, hml, B.returns, findClass_of_methodNamed B.named, fun w hw => hts w (List.mem_cons_of_mem _ hw), B.notSynchronized, hE, (name_of_methodNamed B.named B.method).1⟩ hR va_S.rf hl
