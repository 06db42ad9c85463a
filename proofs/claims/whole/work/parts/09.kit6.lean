/-! my own layer: String constants and the JDK's methods on them -/
abbrev hw_Sd : Type := (Nat → Nat) × (Nat → Nat)
def hw_strs : List (List Int32) := [[119,105,110,100,32],[101,97,115,101,32],[102,111,114,109,32],[104,101,97,112,32],[99,111,111,108,32],[104,102,112,115,103],[60,61,62]]
def hw_slen : List Nat := [5,5,5,5,5,5,3]
def hw_sids : List (String × Nat × String × Nat) := [("HoneyWinds$Reader", 77, "wind ", 0), ("HoneyWinds$Reader", 79, "ease ", 1), ("HoneyWinds$Reader", 81, "form ", 2), ("HoneyWinds$Reader", 83, "heap ", 3), ("HoneyWinds$Reader", 85, "cool ", 4), ("HoneyWindsModel", 127, "wind ", 0), ("HoneyWindsModel", 133, "ease ", 1), ("HoneyWindsModel", 125, "form ", 2), ("HoneyWindsModel", 138, "heap ", 3), ("HoneyWindsModel", 143, "cool ", 4), ("HoneyWindsModel", 107, "hfpsg", 5), ("HoneyWindsModel", 113, "<=>", 6)]
def hw_G (g : hw_Sd) (b : Nat) (U : State) (H : Heap) : Prop := vk_S 7 hw_slen hw_strs g.1 g.2 (fun q => b ≤ q) U H ∧ (∀ q ∈ hw_sids, vk_R q.1 q.2.1 q.2.2.1 (g.1 q.2.2.2) U) ∧ va_Z "java/lang/String" "COMPACT_STRINGS" "Z" (.int 1) (fun q => b ≤ q) U H ∧ va_Zq "jdk/internal/util/Preconditions" "SIOOBE_FORMATTER" "Ljava/util/function/BiFunction;" (fun q => b ≤ q) U H
theorem hw_G.warm {g : hw_Sd} {b : Nat} {s U : State} {H : Heap} (hW : s.WarmedH U.vm) (h : hw_G g b s H) : hw_G g b U H := ⟨h.1.moved hW.alike, fun q hq => vk_R.warm hW (h.2.1 q hq), h.2.2.1.moved hW.alike, h.2.2.2.moved hW.alike⟩
theorem hw_G.same {g : hw_Sd} {b : Nat} {s U : State} {H : Heap} (hv : s.vm = U.vm) (h : hw_G g b s H) : hw_G g b U H := ⟨h.1.moved (by rw [hv]; exact Vm.Alike.refl U.vm), fun q hq => vk_R.same hv.symm (h.2.1 q hq), h.2.2.1.moved (by rw [hv]; exact Vm.Alike.refl U.vm), h.2.2.2.moved (by rw [hv]; exact Vm.Alike.refl U.vm)⟩
theorem hw_G.kept {g : hw_Sd} {b : Nat} {U : State} {H H1 : Heap} (h : hw_G g b U H) (hq : ∀ a : Nat, a < H.size → ¬ b ≤ a → H1[a]? = H[a]?) : hw_G g b U H1 := ⟨h.1.kept hq, h.2.1, h.2.2.1.kept hq, h.2.2.2.kept hq⟩
/-- a String, by its number -/
def hw_vs (g : hw_Sd) (w : Option Nat) : Value := va_rf (w.map g.1)
theorem hw_vs_cat (g : hw_Sd) (w : Option Nat) : (hw_vs g w).category = 1 := by cases w <;> rfl
theorem hw_vs_or (g : hw_Sd) (w : Option Nat) : hw_vs g w = .null ∨ ∃ a, hw_vs g w = .ref a := va_rf_or _
def hw_sl (w : Option Nat) : Option Int32 := match w with
  | none => none
  | some i => if i < 7 then some (Int32.ofNat (hw_slen.getD i 0)) else none
def hw_sc (w : Option Nat) (k : Int32) : Option Int32 := match w with
  | none => none
  | some i => if i < 7 ∧ ¬ (k < 0 ∨ hw_slen.getD i 0 ≤ k.toNatClampNeg) then some ((hw_strs.getD i []).getD k.toNatClampNeg 0) else none
theorem hw_strs_ok : ∀ i, i < 7 → ∀ k, k < hw_slen.getD i 0 → ((((hw_strs.getD i []).getD k 0) &&& 255).toUInt32 % 65536).toInt32 = (hw_strs.getD i []).getD k 0 := by decide +kernel
theorem hw_strs_nc : ∀ i, i < 7 → ∀ k, k < hw_slen.getD i 0 → vp_nar .char ((hw_strs.getD i []).getD k 0) = (hw_strs.getD i []).getD k 0 := by decide +kernel
def hw_P2 (D : hw_D) (g : hw_Sd) (b : Nat) (σ : hw_S) (av : List Value) : Array Value → State → Prop := fun v U => v = av.toArray ∧ hw_E D U ∧ hw_R D b σ U.heap ∧ hw_G g b U U.heap
def hw_P3 (g : hw_Sd) (b : Nat) (av : List Value) : Array Value → State → Prop := fun v U => v = av.toArray ∧ hw_G g b U U.heap
theorem hw_P2_bl {D : hw_D} {g : hw_Sd} {b : Nat} {σ : hw_S} {av : List Value} : FrameBlind (hw_P2 D g b σ av) := fun a U f mk q => ⟨q.1, hw_E.same (U := U.calling f mk a) rfl q.2.1, q.2.2.1, hw_G.same (U := U.calling f mk a) rfl q.2.2.2⟩
theorem hw_P3_bl {g : hw_Sd} {b : Nat} {av : List Value} : FrameBlind (hw_P3 g b av) := fun a U f mk q => ⟨q.1, hw_G.same (U := U.calling f mk a) rfl q.2⟩
section HW8
variable {p : Program} {l : Launch} {e : Env} {R : Room} {s : State} {m : MethodId} {args : Array Value} {below : List Frame} {meth : Method} {c : Code} {H : Heap} {locs : List Loc} {cells slots : Nat} {Q : State → Prop}
variable {cc : ByteArray} {pc : Nat} {ls : Array Slot} {rest : List Value} {D : hw_D} {g : hw_Sd} {b : Nat} {σ τ : hw_S} {own : String} {index nL j : Nat} {H0 : Heap} {lv lv' : List (Nat × Value)}
theorem hw_G.at (hG : hw_G g b s s.heap) (hS : va_S (fun q => b ≤ q) s.heap H locs) : hw_G g b s H := hG.kept (fun a h1 h2 => hS.2.1 a h1 h2)
theorem hw_pre2 {av : List Value} (hE : hw_E D s) (hR : hw_R D b σ H) (hG : hw_G g b s H) : PreS s H (hw_P2 D g b σ av) av := ⟨hw_P2_bl, fun U hU hW => ⟨rfl, hE.warm hW, by rw [hU]; exact hR, by rw [hU]; exact hG.warm hW⟩⟩
theorem hw_pre3 {av : List Value} (hG : hw_G g b s H) : PreS s H (hw_P3 g b av) av := ⟨hw_P3_bl, fun U hU hW => ⟨rfl, by rw [hU]; exact hG.warm hW⟩⟩
theorem hw_preV2 {ci N x : Nat} {C : String} {T : u_T} {av : List Value} (hE : hw_E D s) (hR : hw_R D b σ H) (hG : hw_G g b s H) (hc : vwCl[ci]? = some (C, T, N)) (h13 : ci < 13) (ht : σ.1 x = ci + 1) : PreV s H C (b + x) (hw_P2 D g b σ (.ref (b + x) :: av)) av :=
  ⟨hw_P2_bl, hw_recv hE hR hc h13 ht, fun U hU hW => ⟨rfl, hE.warm hW, by rw [hU]; exact hR, by rw [hU]; exact hG.warm hW⟩⟩
theorem hw_preV3 {i : Nat} {av : List Value} (hG : hw_G g b s H) (hi : i < 7) : PreV s H "java/lang/String" (g.1 i) (hw_P3 g b (.ref (g.1 i) :: av)) av := by
  obtain ⟨cell, h1, h2, h3, -⟩ := (hG.1.1 i hi).1
  exact ⟨hw_P3_bl, ⟨cell, h1, h2, h3⟩, fun U hU hW => ⟨rfl, by rw [hU]; exact hG.warm hW⟩⟩
-- loads, stores, tests of Strings
theorem hw_sload_n (hx : p.tables.exec = Jvm.exec) (hb : c.code = cc) {k : Fin 4} {i : Nat} {w : Option Nat} (hdg : decode cc pc = .ok (.aload_n k, 1)) (hi : (k : Nat) = i) (hl : ls[i]? = some (.val (hw_vs g w)))
    (kk : W p l e R s m args below meth c H locs cells slots Q (F0 m (pc + 1) ls (hw_vs g w :: rest))) : W p l e R s m args below meth c H locs cells slots Q (F0 m pc ls rest) := by
  cases w with
  | none => exact lv_aload_nN hx hb hdg hi hl kk
  | some a => exact lv_aload_n hx hb hdg hi hl kk
theorem hw_ssto_n (hx : p.tables.exec = Jvm.exec) (hb : c.code = cc) {k : Fin 4} {i : Nat} {w : Option Nat} (hdg : decode cc pc = .ok (.astore_n k, 1)) (hi : (k : Nat) = i) (h : hw_L ls nL j lv) (hn : i < nL) (hij : i ≠ j + 1) (he : (i, hw_vs g w) :: lv.filter (fun q => !(q.1 == i)) = lv')
    (kk : ∀ ls' : Array Slot, hw_L ls' nL j lv' → W p l e R s m args below meth c H locs cells slots Q (F0 m (pc + 1) ls' rest)) : W p l e R s m args below meth c H locs cells slots Q (F0 m pc ls (hw_vs g w :: rest)) := by
  cases w with
  | none => exact lv_astore_nN hx hb hdg hi h.1 hn rfl (fun ls' h2 => kk ls' (hw_L.st h.2 hij (hw_vs_cat g none) he h2))
  | some a => exact lv_astore_n hx hb hdg hi h.1 hn rfl (fun ls' h2 => kk ls' (hw_L.st h.2 hij (hw_vs_cat g (some a)) he h2))
theorem hw_sifnonnull (hx : p.tables.exec = Jvm.exec) (hb : c.code = cc) {w : Option Nat} {off : Int} {tgt : Nat} (hdg : decode cc pc = .ok (.ifnonnull off, 3)) (ht : (pc : Int) + off = (tgt : Int))
    (k1 : ¬ w = none → W p l e R s m args below meth c H locs cells slots Q (F0 m tgt ls rest)) (k2 : w = none → W p l e R s m args below meth c H locs cells slots Q (F0 m (pc + 3) ls rest)) : W p l e R s m args below meth c H locs cells slots Q (F0 m pc ls (hw_vs g w :: rest)) := by
  cases w with
  | none => exact lv_ifnonnullN hx hb hdg (k2 rfl)
  | some a => exact lv_ifnonnull hx hb hdg ht (k1 (fun h => by cases h))
theorem hw_sifnull (hx : p.tables.exec = Jvm.exec) (hb : c.code = cc) {w : Option Nat} {off : Int} {tgt : Nat} (hdg : decode cc pc = .ok (.ifnull off, 3)) (ht : (pc : Int) + off = (tgt : Int))
    (k1 : w = none → W p l e R s m args below meth c H locs cells slots Q (F0 m tgt ls rest)) (k2 : ¬ w = none → W p l e R s m args below meth c H locs cells slots Q (F0 m (pc + 3) ls rest)) : W p l e R s m args below meth c H locs cells slots Q (F0 m pc ls (hw_vs g w :: rest)) := by
  cases w with
  | none => exact lv_ifnullN hx hb hdg ht (k1 rfl)
  | some a => exact lv_ifnull hx hb hdg (k2 (fun h => by cases h))
theorem hw_ldcS (hx : p.tables.exec = Jvm.exec) (hb : c.code = cc) {tx : String} {id : Nat} (hown : s.vm.findClass own = some m.cls) (hG : hw_G g b s s.heap) (hq : (own, index, tx, id) ∈ hw_sids) (hdg : decode cc pc = .ok (.ldc index, 2))
    (kk : W p l e R s m args below meth c H locs cells slots Q (F0 m (pc + 2) ls (hw_vs g (some id) :: rest))) : W p l e R s m args below meth c H locs cells slots Q (F0 m pc ls rest) :=
  va_ldcS hx hb hown (hG.2.1 _ hq) hdg kk
theorem hw_rSP {rt : FieldType} {r v : Option Nat} (hx : p.tables.exec = Jvm.exec) (hb : c.code = cc) (hr : meth.sig.returnType = some rt) (hrt : (∃ n, rt = .object n) ∨ ∃ t, rt = .array t) (hlocks : meth.locks = false) (hv : some v = some r) (hdg : decode cc pc = .ok (.areturn, 1)) : W p l e R s m args below meth c s.heap [] 0 0 (MQ below (va_Sq (fun z => z = r.map g.1)) args s 0 0 hw_nof) (F0 m pc ls [hw_vs g v]) :=
  W.aret (v := hw_vs g v) hx hb hr hrt (hw_vs_or g v) (fun t ht _ => ⟨v.map g.1, rfl, by rw [Option.some.inj hv], ht⟩) (fun q h => by cases h) hdg
theorem hw_cSP {r : Option Nat} {st0 : List Value} {a : Array Value} (hr : va_Run p l e R s m args below meth c H locs cells slots 0 0 (F0 m pc ls st0) rest (va_Sq (fun z => z = r.map g.1) a) hw_nof)
    (kk : W p l e R s m args below meth c H locs cells slots Q (F0 m (pc + 3) ls (hw_vs g r :: rest))) : W p l e R s m args below meth c H locs cells slots Q (F0 m pc ls st0) :=
  va_csq hr.run (fun z hz => by rw [hz]; exact kk)
end HW8
theorem hw_start2 {l : Launch} {y : MethodName} {cc : ByteArray} {nL : Nat} {ret : Option FieldType} {rm : Room} {D : hw_D} {g : hw_Sd} {b : Nat} {σ : hw_S} {av : List Value} {Qc : Array Value → State → Outcome → State → Prop} {mc ms : Nat} {free : Addr → Prop} (hy : plainName y.cls = true) (hlen : (lg_sl av).length ≤ nL)
    (body : ∀ (p : Program) (e : Env) (s : State) (m : MethodId) (below : List Frame) (meth : Method) (c : Code) (ls : Array Slot), hw_C p s m av.toArray meth c D y cc nL ret → hw_R D b σ s.heap → va_S (fun q => b ≤ q) s.heap s.heap [] → hw_G g b s s.heap → lv_has ls nL (lv_args 0 av) → W p l e rm s m av.toArray below meth c s.heap [] 0 0 (MQ below Qc av.toArray s mc ms free) (F0 m 0 ls [])) : Met l y (Cond.code y cc nL ret :: wsL_law) rm (hw_P2 D g b σ av) Qc mc ms free := by
  refine Met.ofW (cc := cc) (maxL := nL) (ret := ret) hy rfl ?_
  intro p e s m args below meth c s₁ B hml hv
  obtain ⟨rfl, hE, hR, hG⟩ := hv
  have hts := atoms_spec (ws := Cond.code y cc nL ret :: wsL_law) B.pre
  have hl := lv_entry av (n := nL) hlen
  rw [lg_entry_eq]
  generalize (lg_sl av ++ List.replicate (nL - (lg_sl av).length) Slot.unset).toArray = ls at hl ⊢
  exact body p e s m below meth c ls ⟨B.exec, B.bytes, hml, B.returns, findClass_of_methodNamed B.named, fun w hw => hts w (List.mem_cons_of_mem _ hw), B.notSynchronized, hE, (name_of_methodNamed B.named B.method).1⟩ hR va_S.rf hG hl
/-- what holds at the start of a method of the JDK -/
def hw_J (p : Program) (s : State) (m : MethodId) (args : Array Value) (meth : Method) (c : Code) (y : MethodName) (cc : ByteArray) (nL : Nat) (ret : Option FieldType) : Prop :=
  p.tables.exec = Jvm.exec ∧ c.code = cc ∧ c.maxLocals = nL ∧ meth.sig.returnType = ret ∧ s.vm.findClass y.cls = some m.cls ∧ (∀ w ∈ wsL_law, w.before args s = true) ∧ meth.locks = false
theorem hw_startJ {l : Launch} {y : MethodName} {cc : ByteArray} {nL : Nat} {ret : Option FieldType} {rm : Room} {av : List Value} {P : State → Prop} {Qc : Array Value → State → Outcome → State → Prop} {mc ms : Nat} {free : Addr → Prop} (hy : plainName y.cls = true) (hlen : (lg_sl av).length ≤ nL)
    (body : ∀ (p : Program) (e : Env) (s : State) (m : MethodId) (below : List Frame) (meth : Method) (c : Code) (ls : Array Slot), hw_J p s m av.toArray meth c y cc nL ret → P s → lv_has ls nL (lv_args 0 av) → W p l e rm s m av.toArray below meth c s.heap [] 0 0 (MQ below Qc av.toArray s mc ms free) (F0 m 0 ls [])) : Met l y (Cond.code y cc nL ret :: wsL_law) rm (fun v U => v = av.toArray ∧ P U) Qc mc ms free := by
  refine Met.ofW (cc := cc) (maxL := nL) (ret := ret) hy rfl ?_
  intro p e s m args below meth c s₁ B hml hv
  obtain ⟨rfl, hG⟩ := hv
  have hts := atoms_spec (ws := Cond.code y cc nL ret :: wsL_law) B.pre
  have hl := lv_entry av (n := nL) hlen
  rw [lg_entry_eq]
  generalize (lg_sl av ++ List.replicate (nL - (lg_sl av).length) Slot.unset).toArray = ls at hl ⊢
  exact body p e s m below meth c ls ⟨B.exec, B.bytes, hml, B.returns, findClass_of_methodNamed B.named, fun w hw => hts w (List.mem_cons_of_mem _ hw), B.notSynchronized⟩ hG hl
theorem hw_rJ {p : Program} {l : Launch} {e : Env} {R : Room} {s : State} {m : MethodId} {args : Array Value} {below : List Frame} {meth : Method} {c : Code} {cc : ByteArray} {pc : Nat} {ls : Array Slot} {ty : FieldType} {r v : Int32} (hx : p.tables.exec = Jvm.exec) (hb : c.code = cc) (hr : meth.sig.returnType = some ty) (hlocks : meth.locks = false) (hn : narrow ty (.int v) = .int v) (hv : v = r) (hdg : decode cc pc = .ok (.ireturn, 1)) : W p l e R s m args below meth c s.heap [] 0 0 (MQ below (hw_RI r) args s 0 0 hw_nof) (F0 m pc ls [.int v]) :=
  W.zret (v := v) hx hb hr hn (fun t ht _ => ⟨v, rfl, hv, ht⟩) (fun q h => by cases h) hdg
theorem hw_nch {v : Int32} (h : vp_nar .char v = v) : narrow .char (.int v) = .int v := by
  have e : narrow .char (.int v) = .int (vp_nar .char v) := rfl
  rw [e, h]
-- the JDK's methods
abbrev rmJ0 : Room := { frames := 0, cells := 0, slots := 0, locals := 0 }
theorem cJ_coder (l : Launch) (g : hw_Sd) (b : Nat) {i : Nat} (hi : i < 7) : Met l yJ0_coder_7d493 (Cond.code yJ0_coder_7d493 cJ0_coder_7d493 1 (some .byte) :: wsL_law) rmJ0 (hw_P3 g b [.ref (g.1 i)]) (hw_RI 0) 0 0 hw_nof := by
  refine hw_startJ (P := fun U => hw_G g b U U.heap) (by decide +kernel) (Nat.le_of_ble_eq_true rfl) ?_
  intro p e s m below meth c ls C0 hG hl
  obtain ⟨hx, hb, hml, hr, hown, hts, hlk⟩ := id C0
  have hown : s.vm.findClass "java/lang/String" = some m.cls := hown
  have hl : lv_has ls 1 [(0, .ref (g.1 i))] := hl
  refine va_gets hx hb hG.2.2.1 va_S.rf hown (hts _ hw_m184) (fun _ h9 => h9) dJ0_coder_7d493_0 ?_
  refine lv_if_eq (tgt := 13) hx hb dJ0_coder_7d493_3 (by decide) (fun h => absurd h (by decide)) (fun _ => ?_)
  refine lv_aload_n hx hb dJ0_coder_7d493_6 rfl (lv_at hl 0 rfl) ?_
  refine vk_getf hx hb (hG.1.1 i hi).2.1 va_S.rf hown (hts _ hw_m185) (fun _ h9 => h9) dJ0_coder_7d493_7 ?_
  refine lv_goto (tgt := 14) hx hb dJ0_coder_7d493_10 (by decide) ?_
  exact hw_rJ hx hb hr hlk rfl rfl dJ0_coder_7d493_14
theorem cJ_isLatin1 (l : Launch) (g : hw_Sd) (b : Nat) {i : Nat} (hi : i < 7) : Met l yJ0_isLatin1_aae02 (Cond.code yJ0_isLatin1_aae02 cJ0_isLatin1_aae02 1 (some .boolean) :: wsL_law) rmJ0 (hw_P3 g b [.ref (g.1 i)]) (hw_RI 1) 0 0 hw_nof := by
  refine hw_startJ (P := fun U => hw_G g b U U.heap) (by decide +kernel) (Nat.le_of_ble_eq_true rfl) ?_
  intro p e s m below meth c ls C0 hG hl
  obtain ⟨hx, hb, hml, hr, hown, hts, hlk⟩ := id C0
  have hown : s.vm.findClass "java/lang/String" = some m.cls := hown
  have hl : lv_has ls 1 [(0, .ref (g.1 i))] := hl
  refine va_gets hx hb hG.2.2.1 va_S.rf hown (hts _ hw_m184) (fun _ h9 => h9) dJ0_isLatin1_aae02_0 ?_
  refine lv_if_eq (tgt := 17) hx hb dJ0_isLatin1_aae02_3 (by decide) (fun h => absurd h (by decide)) (fun _ => ?_)
  refine lv_aload_n hx hb dJ0_isLatin1_aae02_6 rfl (lv_at hl 0 rfl) ?_
  refine vk_getf hx hb (hG.1.1 i hi).2.1 va_S.rf hown (hts _ hw_m185) (fun _ h9 => h9) dJ0_isLatin1_aae02_7 ?_
  refine lv_if_ne (tgt := 17) hx hb dJ0_isLatin1_aae02_10 (by decide) (fun h => absurd rfl h) (fun _ => ?_)
  refine lv_iconst (v := 1) hx hb dJ0_isLatin1_aae02_13 (by decide) ?_
  refine lv_goto (tgt := 18) hx hb dJ0_isLatin1_aae02_14 (by decide) ?_
  exact hw_rJ hx hb hr hlk rfl rfl dJ0_isLatin1_aae02_18
abbrev rmJ1 : Room := { frames := 1, cells := 0, slots := 0, locals := 20 }
theorem cJ_length (l : Launch) (g : hw_Sd) (b : Nat) {w : Nat} {r : Int32} (hm : hw_sl (some w) = some r) : Met l yJ0_length_8abf5 (Cond.code yJ0_length_8abf5 cJ0_length_8abf5 1 (some .int) :: wsL_law) rmJ1 (hw_P3 g b [.ref (g.1 w)]) (hw_RI r) 0 0 hw_nof := by
  unfold hw_sl at hm
  have hi : w < 7 := by
    by_cases h : w < 7
    · exact h
    · simp only [if_neg h] at hm; cases hm
  simp only [if_pos hi] at hm
  refine hw_startJ (P := fun U => hw_G g b U U.heap) (by decide +kernel) (Nat.le_of_ble_eq_true rfl) ?_
  intro p e s m below meth c ls C0 hG hl
  obtain ⟨hx, hb, hml, hr, hown, hts, hlk⟩ := id C0
  have hown : s.vm.findClass "java/lang/String" = some m.cls := hown
  have hl : lv_has ls 1 [(0, .ref (g.1 w))] := hl
  refine lv_aload_n hx hb dJ0_length_8abf5_0 rfl (lv_at hl 0 rfl) ?_
  refine vk_getf hx hb (hG.1.1 w hi).2.2.1 va_S.rf hown (hts _ hw_m179) (fun _ h9 => h9) dJ0_length_8abf5_1 ?_
  refine va_tlen hx hb (hG.1.1 w hi).2.2.2 va_S.rf rfl dJ0_length_8abf5_4 ?_
  refine lv_aload_n hx hb dJ0_length_8abf5_5 rfl (lv_at hl 0 rfl) ?_
  refine hw_cRI (va_runV (As := []) (rest := [.int (Int32.ofNat (hw_slen.getD w 0))]) ⟨hx, hb, hml, hown, hts⟩ (cJ_coder l g b hi) (cwV 0 hts (hw_gV hw_m180 hw_m181 hw_m182 hw_m177 hw_m183) rfl rfl rfl (by decide +kernel) ⟨Nat.le_of_ble_eq_true rfl, Nat.le_of_ble_eq_true rfl⟩) (hw_preV3 hG hi) rfl rfl hl.1 rfl (lv_room (Nat.le_of_ble_eq_true rfl)) dJ0_length_8abf5_6 ⟨Nat.le_of_ble_eq_true rfl, Nat.le_of_ble_eq_true rfl⟩) ?_
  refine lv_ishr hx hb dJ0_length_8abf5_9 ?_
  exact hw_rJ hx hb hr hlk rfl ((sb_shr0 _).trans (Option.some.inj hm)) dJ0_length_8abf5_10
theorem cJ_pre (l : Launch) {k n : Int32} {r : Option Nat} (h0 : ¬ k < 0) (h1 : k < n) : Met l yJ3_checkIndex_8e157 (Cond.code yJ3_checkIndex_8e157 cJ3_checkIndex_8e157 3 (some .int) :: wsL_law) rmJ0 (fun v U => v = [Value.int k, .int n, va_rf r].toArray ∧ True) (hw_RI k) 0 0 hw_nof := by
  refine hw_startJ (P := fun _ => True) (by decide +kernel) (by cases r <;> exact Nat.le_of_ble_eq_true rfl) ?_
  intro p e s m below meth c ls C0 _ hl
  obtain ⟨hx, hb, hml, hr, hown, hts, hlk⟩ := id C0
  have hl : lv_has ls 3 [(0, .int k), (1, .int n), (2, va_rf r)] := by cases r <;> exact hl
  refine lv_iload_n hx hb dJ3_checkIndex_8e157_0 rfl (lv_at hl 0 rfl) ?_
  refine lv_if_lt (tgt := 9) hx hb dJ3_checkIndex_8e157_1 (by decide) (fun h => absurd h h0) (fun _ => ?_)
  refine lv_iload_n hx hb dJ3_checkIndex_8e157_4 rfl (lv_at hl 0 rfl) ?_
  refine lv_iload_n hx hb dJ3_checkIndex_8e157_5 rfl (lv_at hl 1 rfl) ?_
  refine lv_icmp_lt (tgt := 16) hx hb dJ3_checkIndex_8e157_6 (by decide) (fun _ => ?_) (fun h => absurd h1 h)
  refine lv_iload_n hx hb dJ3_checkIndex_8e157_16 rfl (lv_at hl 0 rfl) ?_
  exact hw_rJ hx hb hr hlk rfl rfl dJ3_checkIndex_8e157_17
abbrev rmJ2 : Room := { frames := 1, cells := 0, slots := 0, locals := 22 }
theorem cJ_check (l : Launch) (g : hw_Sd) (b : Nat) {k n : Int32} (h0 : ¬ k < 0) (h1 : k < n) : Met l yJ0_checkIndex_df160 (Cond.code yJ0_checkIndex_df160 cJ0_checkIndex_df160 2 none :: wsL_law) rmJ2 (hw_P3 g b [.int k, .int n]) (va_Sv (fun _ => True)) 0 0 hw_nof := by
  refine hw_startJ (P := fun U => hw_G g b U U.heap) (by decide +kernel) (Nat.le_of_ble_eq_true rfl) ?_
  intro p e s m below meth c ls C0 hG hl
  obtain ⟨hx, hb, hml, hr, hown, hts, hlk⟩ := id C0
  have hown : s.vm.findClass "java/lang/String" = some m.cls := hown
  have hl : lv_has ls 2 [(0, .int k), (1, .int n)] := hl
  refine lv_iload_n hx hb dJ0_checkIndex_df160_0 rfl (lv_at hl 0 rfl) ?_
  refine lv_iload_n hx hb dJ0_checkIndex_df160_1 rfl (lv_at hl 1 rfl) ?_
  obtain ⟨r, hZ⟩ : ∃ r : Option Nat, va_Z "jdk/internal/util/Preconditions" "SIOOBE_FORMATTER" "Ljava/util/function/BiFunction;" (va_rf r) (fun q => b ≤ q) s s.heap := by
    rcases hG.2.2.2 with h | ⟨t, h⟩
    · exact ⟨none, h⟩
    · exact ⟨some t, h⟩
  refine va_gets hx hb hZ va_S.rf hown (hts _ hw_m201) (fun _ h9 => h9) dJ0_checkIndex_df160_2 ?_
  refine hw_cRI (va_runS (As := [.int k, .int n, va_rf r]) (rest := []) ⟨hx, hb, hml, hown, hts⟩ (cJ_pre l h0 h1) (by
    refine ⟨callB_of 3 hts (hw_gC hw_m205) rfl rfl rfl (hts _ hw_m204) (hts _ hw_m202) (by decide +kernel) ⟨Nat.le_of_ble_eq_true rfl, Nat.le_of_ble_eq_true rfl⟩, hts _ hw_m203⟩) ⟨fun a U f mk q => q, fun U _ _ => ⟨rfl, trivial⟩⟩ rfl rfl hl.1 rfl (lv_room (Nat.le_of_ble_eq_true rfl)) dJ0_checkIndex_df160_5 ⟨Nat.le_of_ble_eq_true rfl, Nat.le_of_ble_eq_true rfl⟩) ?_
  refine lv_pop hx hb dJ0_checkIndex_df160_8 rfl ?_
  exact W.vret hx hb hr (fun t ht _ => ⟨rfl, trivial, ht⟩) (fun q h => by cases h) dJ0_checkIndex_df160_9
abbrev rmJ3 : Room := { frames := 2, cells := 0, slots := 0, locals := 44 }
theorem cJ_latin (l : Launch) (g : hw_Sd) (b : Nat) {w : Nat} (hi : w < 7) {k : Int32} (hk : vp_in k (hw_slen.getD w 0)) : Met l yJ1_charAt_3b067 (Cond.code yJ1_charAt_3b067 cJ1_charAt_3b067 2 (some .char) :: wsL_law) rmJ3 (hw_P3 g b [.ref (g.2 w), .int k]) (hw_RI ((hw_strs.getD w []).getD k.toNatClampNeg 0)) 0 0 hw_nof := by
  refine hw_startJ (P := fun U => hw_G g b U U.heap) (by decide +kernel) (Nat.le_of_ble_eq_true rfl) ?_
  intro p e s m below meth c ls C0 hG hl
  obtain ⟨hx, hb, hml, hr, hown, hts, hlk⟩ := id C0
  have hown : s.vm.findClass "java/lang/StringLatin1" = some m.cls := hown
  have hl : lv_has ls 2 [(0, .ref (g.2 w)), (1, .int k)] := hl
  have h0 : ¬ k < 0 := fun h => hk (Or.inl h)
  have hlt : k.toNatClampNeg < hw_slen.getD w 0 := Nat.not_le.mp (fun h => hk (Or.inr h))
  have hlen : hw_slen.getD w 0 ≤ 5 := by
    match w, hi with
    | 0, _ => decide
    | 1, _ => decide
    | 2, _ => decide
    | 3, _ => decide
    | 4, _ => decide
    | 5, _ => decide
    | 6, _ => decide
  have h1 : k < Int32.ofNat (hw_slen.getD w 0) := by
    obtain ⟨j, hj, rfl⟩ := nI_of h0
    rw [nI_clamp hj] at hlt
    exact nI_lt hlt (by omega)
  refine lv_iload_n hx hb dJ1_charAt_3b067_0 rfl (lv_at hl 1 rfl) ?_
  refine lv_aload_n hx hb dJ1_charAt_3b067_1 rfl (lv_at hl 0 rfl) ?_
  refine va_tlen hx hb (hG.1.1 w hi).2.2.2 va_S.rf rfl dJ1_charAt_3b067_2 ?_
  refine va_csv (post := fun _ => True) (rest := []) (a := [Value.int k, .int (Int32.ofNat (hw_slen.getD w 0))].toArray) (va_Run.run (va_runS (As := [.int k, .int (Int32.ofNat (hw_slen.getD w 0))]) (rest := []) ⟨hx, hb, hml, hown, hts⟩ (cJ_check l g b h0 h1) (by
    refine ⟨callB_of 2 hts (hw_gC hw_m200) rfl rfl rfl (hts _ hw_m177) (hts _ hw_m198) (by decide +kernel) ⟨Nat.le_of_ble_eq_true rfl, Nat.le_of_ble_eq_true rfl⟩, hts _ hw_m199⟩) (hw_pre3 hG) rfl rfl hl.1 rfl (lv_room (Nat.le_of_ble_eq_true rfl)) dJ1_charAt_3b067_3 ⟨Nat.le_of_ble_eq_true rfl, Nat.le_of_ble_eq_true rfl⟩)) (fun _ => ?_)
  refine lv_aload_n hx hb dJ1_charAt_3b067_6 rfl (lv_at hl 0 rfl) ?_
  refine lv_iload_n hx hb dJ1_charAt_3b067_7 rfl (lv_at hl 1 rfl) ?_
  refine va_tb hx hb (hG.1.1 w hi).2.2.2 va_S.rf hk rfl dJ1_charAt_3b067_8 ?_
  refine lv_sipush (v := 255) hx hb dJ1_charAt_3b067_9 (by decide) ?_
  refine lv_iand hx hb dJ1_charAt_3b067_12 ?_
  refine lv_i2c hx hb dJ1_charAt_3b067_13 rfl ?_
  exact hw_rJ hx hb hr hlk (pk_nc _) (hw_strs_ok w hi _ hlt) dJ1_charAt_3b067_14
abbrev rmJ4 : Room := { frames := 3, cells := 0, slots := 0, locals := 66 }
theorem cJ_charAt (l : Launch) (g : hw_Sd) (b : Nat) {w : Nat} {k r : Int32} (hm : hw_sc (some w) k = some r) : Met l yJ0_charAt_5068e (Cond.code yJ0_charAt_5068e cJ0_charAt_5068e 2 (some .char) :: wsL_law) rmJ4 (hw_P3 g b [.ref (g.1 w), .int k]) (hw_RI r) 0 0 hw_nof := by
  unfold hw_sc at hm
  have hik : w < 7 ∧ ¬ (k < 0 ∨ hw_slen.getD w 0 ≤ k.toNatClampNeg) := by
    by_cases h : w < 7 ∧ ¬ (k < 0 ∨ hw_slen.getD w 0 ≤ k.toNatClampNeg)
    · exact h
    · simp only [if_neg h] at hm; cases hm
  simp only [if_pos hik] at hm
  obtain ⟨hi, hk⟩ := hik
  have hlt : k.toNatClampNeg < hw_slen.getD w 0 := Nat.not_le.mp (fun h => hk (Or.inr h))
  refine hw_startJ (P := fun U => hw_G g b U U.heap) (by decide +kernel) (Nat.le_of_ble_eq_true rfl) ?_
  intro p e s m below meth c ls C0 hG hl
  obtain ⟨hx, hb, hml, hr, hown, hts, hlk⟩ := id C0
  have hown : s.vm.findClass "java/lang/String" = some m.cls := hown
  have hl : lv_has ls 2 [(0, .ref (g.1 w)), (1, .int k)] := hl
  refine lv_aload_n hx hb dJ0_charAt_5068e_0 rfl (lv_at hl 0 rfl) ?_
  refine hw_cRI (va_runV (As := []) (rest := []) ⟨hx, hb, hml, hown, hts⟩ (cJ_isLatin1 l g b hi) (cwV 0 hts (hw_gV hw_m190 hw_m191 hw_m192 hw_m177 hw_m193) rfl rfl rfl (by decide +kernel) ⟨Nat.le_of_ble_eq_true rfl, Nat.le_of_ble_eq_true rfl⟩) (hw_preV3 hG hi) rfl rfl hl.1 rfl (lv_room (Nat.le_of_ble_eq_true rfl)) dJ0_charAt_5068e_1 ⟨Nat.le_of_ble_eq_true rfl, Nat.le_of_ble_eq_true rfl⟩) ?_
  refine lv_if_eq (tgt := 16) hx hb dJ0_charAt_5068e_4 (by decide) (fun h => absurd h (by decide)) (fun _ => ?_)
  refine lv_aload_n hx hb dJ0_charAt_5068e_7 rfl (lv_at hl 0 rfl) ?_
  refine vk_getf hx hb (hG.1.1 w hi).2.2.1 va_S.rf hown (hts _ hw_m179) (fun _ h9 => h9) dJ0_charAt_5068e_8 ?_
  refine lv_iload_n hx hb dJ0_charAt_5068e_11 rfl (lv_at hl 1 rfl) ?_
  refine hw_cRI (va_runS (As := [.ref (g.2 w), .int k]) (rest := []) ⟨hx, hb, hml, hown, hts⟩ (cJ_latin l g b hi hk) (by
    refine ⟨callB_of 2 hts (hw_gC hw_m197) rfl rfl rfl (hts _ hw_m196) (hts _ hw_m194) (by decide +kernel) ⟨Nat.le_of_ble_eq_true rfl, Nat.le_of_ble_eq_true rfl⟩, hts _ hw_m195⟩) (hw_pre3 hG) rfl rfl hl.1 rfl (lv_room (Nat.le_of_ble_eq_true rfl)) dJ0_charAt_5068e_12 ⟨Nat.le_of_ble_eq_true rfl, Nat.le_of_ble_eq_true rfl⟩) ?_
  refine hw_rJ hx hb hr hlk ?_ (Option.some.inj hm) dJ0_charAt_5068e_15
  have := hw_strs_nc w hi _ hlt
  exact hw_nch this
theorem hw_sl_of {w : Option Nat} {v : Int32} (h : hw_sl w = some v) : ∃ i, w = some i ∧ i < 7 ∧ hw_sl (some i) = some v := by
  cases w with
  | none => cases h
  | some i =>
    refine ⟨i, rfl, ?_, h⟩
    by_cases h7 : i < 7
    · exact h7
    · unfold hw_sl at h; simp only [if_neg h7] at h; cases h
theorem hw_sc_of {w : Option Nat} {k v : Int32} (h : hw_sc w k = some v) : ∃ i, w = some i ∧ i < 7 ∧ hw_sc (some i) k = some v := by
  cases w with
  | none => cases h
  | some i =>
    refine ⟨i, rfl, ?_, h⟩
    by_cases h7 : i < 7
    · exact h7
    · unfold hw_sc at h; simp only [if_neg (fun c => h7 c.1 : ¬ (i < 7 ∧ ¬ (k < 0 ∨ hw_slen.getD i 0 ≤ k.toNatClampNeg)))] at h; cases h
abbrev hw_rk (f l : Nat) : Room := { frames := f, cells := 0, slots := 0, locals := l }
