section HWM
variable {p : Program} {l : Launch} {e : Env} {R : Room} {s : State} {m : MethodId} {args : Array Value} {below : List Frame} {meth : Method} {c : Code} {H : Heap} {locs : List Loc} {cells slots : Nat} {Q : State → Prop}
variable {cc : ByteArray} {pc : Nat} {ls : Array Slot} {rest : List Value} {D : hw_D} {a b : Nat} {σ τ : hw_S} {own : String} {index : Nat} {H0 : Heap}
theorem hw_mna (hx : p.tables.exec = Jvm.exec) (hb : c.code = cc) (hown : s.vm.findClass own = some m.cls) (hclink : (Cond.classLink own index "[[I").before args s = true) (harr : (Cond.arrayClass .int).before args s = true) (hover : hw_AOA s) (hK : va_K D.1 vwCl (hw_tys D) s) (hR : hw_R D b σ H) (hS : va_S (fun q => b ≤ q) H0 H locs) {n k : Int32} (he : hw_mn2 n k σ = some (a, τ)) (hcells : cells + 9 ≤ R.cells) (hslots : slots + 808 ≤ R.slots) (hdg : decode cc pc = .ok (.multianewarray index 2, 4))
    (kk : ∀ H1 : Heap, hw_R D b τ H1 → va_S (fun q => b ≤ q) H0 H1 locs → W p l e R s m args below meth c H1 locs (cells + 9) (slots + 808) Q (F0 m (pc + 4) ls (hw_vr b (some a) :: rest))) : W p l e R s m args below meth c H locs cells slots Q (F0 m pc ls (.int k :: .int n :: rest)) := by
  sorry
end HWM
