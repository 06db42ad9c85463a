/-! my own layer: the law at its entry, its script, its end -/
def hw_CL (p : Program) (s : State) (m : MethodId) (meth : Method) (c : Code) (D : hw_D) (b scr N : Nat) (xs : Nat → Int32) : Prop :=
  p.tables.exec = Jvm.exec ∧ c.code = cL_law ∧ c.maxLocals = 4 ∧ meth.sig.returnType = ret ∧ s.vm.findClass RL = some m.cls ∧ (∀ w ∈ wsL_law, w.before #[Value.ref scr] s = true) ∧ meth.locks = false ∧ hw_E D s ∧ b = s.heap.size ∧ scr < b ∧ va_X scr N xs s s.heap
section HWL
variable {p : Program} {l : Launch} {e : Env} {R : Room} {s : State} {m : MethodId} {args : Array Value} {below : List Frame} {meth : Method} {c : Code} {H : Heap} {locs : List Loc} {cells slots : Nat} {Q : State → Prop}
variable {cc : ByteArray} {pc : Nat} {ls : Array Slot} {rest : List Value} {b scr N : Nat} {xs : Nat → Int32} {σ τ : hw_S}
theorem hw_sxr (hx : p.tables.exec = Jvm.exec) (hb : c.code = cc) (hX : va_X scr N xs s s.heap) (hS : va_S (fun q => b ≤ q) s.heap H locs) (hsb : scr < b) (hsz : scr < s.heap.size) {i v : Int32} (he : hw_sx xs N i = some v) (hdg : decode cc pc = .ok (.iaload, 1))
    (kk : W p l e R s m args below meth c H locs cells slots Q (F0 m (pc + 1) ls (.int v :: rest))) : W p l e R s m args below meth c H locs cells slots Q (F0 m pc ls (.int i :: .ref scr :: rest)) := by
  unfold hw_sx at he
  by_cases h : i < 0 ∨ N ≤ i.toNatClampNeg
  · rw [if_pos h] at he; cases he
  · rw [if_neg h] at he
    cases he
    exact va_sld hx hb hX hsz (Nat.not_le.mpr hsb) hS h hdg kk
theorem hw_sxl (hx : p.tables.exec = Jvm.exec) (hb : c.code = cc) (hX : va_X scr N xs s s.heap) (hS : va_S (fun q => b ≤ q) s.heap H locs) (hsb : scr < b) (hsz : scr < s.heap.size) (hdg : decode cc pc = .ok (.arraylength, 1))
    (kk : W p l e R s m args below meth c H locs cells slots Q (F0 m (pc + 1) ls (.int (Int32.ofNat N) :: rest))) : W p l e R s m args below meth c H locs cells slots Q (F0 m pc ls (.ref scr :: rest)) :=
  va_slen hx hb hX hsz (Nat.not_le.mpr hsb) hS hdg kk
theorem hw_lret (hx : p.tables.exec = Jvm.exec) (hb : c.code = cL_law) (hr : meth.sig.returnType = ret) (hlk : meth.locks = false) (hS : va_S (fun q => b ≤ q) s.heap H locs) (hbs : b = s.heap.size) (hc : cells ≤ 600000) (hs : slots ≤ 7302250) {v : Int32} (hm : some (v, σ) = some ((1 : Int32), τ)) (hdg : decode cL_law pc = .ok (.ireturn, 1)) :
    W p l e room_1 s m #[Value.ref scr] below meth c H locs cells slots (lw_Z below #[Value.ref scr] s) (F0 m pc ls [.int v]) := by
  injection hm with hm
  injection hm with h1 h2
  subst h1
  exact va_forget (fun q h => hbs ▸ hS.2.2 q h) (W.widen hc hs (lw_ret hx hb hr hlk hdg))
end HWL
