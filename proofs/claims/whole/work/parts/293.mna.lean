theorem vr_outer (c : ClassId) (N h0 : Nat) : ∀ i : Nat, Jvm.Free.Multi.outerC c N h0 i = arrV c N (fun j => va_rf (if j < i then some (h0 + 1 + j) else none))
  | 0 => by
    show ({ cls := c, slots := Array.replicate N .null, vm := .none } : Cell) = _
    rw [arrV_new]
    refine congrArg (arrV c N) (funext fun j => ?_)
    simp [va_rf]
  | i + 1 => by
    show (Jvm.Free.Multi.outerC c N h0 i).setSlot i (.ref (h0 + 1 + i)) = _
    rw [vr_outer c N h0 i, arrV_store]
    refine congrArg (arrV c N) (funext fun j => ?_)
    by_cases e : j = i
    · subst e
      simp [updV, va_rf]
    · by_cases h : j < i
      · simp [updV, e, h, Nat.lt_succ_of_lt h]
      · simp [updV, e, h, show ¬ j < i + 1 by omega]
section HWM
variable {p : Program} {l : Launch} {e : Env} {R : Room} {s : State} {m : MethodId} {args : Array Value} {below : List Frame} {meth : Method} {c : Code} {H : Heap} {locs : List Loc} {cells slots : Nat} {Q : State → Prop}
variable {cc : ByteArray} {pc : Nat} {ls : Array Slot} {rest : List Value} {D : hw_D} {a b : Nat} {σ τ : hw_S} {own : String} {index : Nat} {H0 : Heap}
theorem hw_mna (hx : p.tables.exec = Jvm.exec) (hb : c.code = cc) (hown : s.vm.findClass own = some m.cls) (hclink : (Cond.classLink own index "[[I").before args s = true) (harr : (Cond.arrayClass .int).before args s = true) (hover : hw_AOA s) (hK : va_K D.1 vwCl (hw_tys D) s) (hR : hw_R D b σ H) (hS : va_S (fun q => b ≤ q) H0 H locs) {n k : Int32} (he : hw_mn2 n k σ = some (a, τ)) (hcells : cells + 9 ≤ R.cells) (hslots : slots + 808 ≤ R.slots) (hdg : decode cc pc = .ok (.multianewarray index 2, 4))
    (kk : ∀ H1 : Heap, hw_R D b τ H1 → va_S (fun q => b ≤ q) H0 H1 locs → W p l e R s m args below meth c H1 locs (cells + 9) (slots + 808) Q (F0 m (pc + 4) ls (hw_vr b (some a) :: rest))) : W p l e R s m args below meth c H locs cells slots Q (F0 m pc ls (.int k :: .int n :: rest)) := by
  unfold hw_mn2 at he
  by_cases hq : n = 8 ∧ k = 100
  · rw [if_pos hq] at he
    obtain ⟨rfl, rfl⟩ := hq
    injection he with he
    injection he with h1 h2
    subst h1; subst h2
    have e8 : (8 : Int32).toNatClampNeg = 8 := by decide
    have e100 : (100 : Int32).toNatClampNeg = 100 := by decide
    have en : "[" ++ (FieldType.array FieldType.int).toString = "[[I" := by decide +kernel
    intro T hT Xs
    obtain ⟨vm₁, cA, comp, -, fA, fC, hO, -, X', step⟩ := Xs.multianewarray2F hx hown (ty := .int) (by rw [en]; exact hclink) (hw_AOA.use hover) harr (g := F0 m pc ls (.int 100 :: .int 8 :: rest)) rfl (by rw [hb]; exact hdg) rfl (by decide) (by decide) (by rw [e8]; decide) (by rw [e100]; decide) (by rw [e100]; decide) rfl rfl (by rw [e8]; exact hcells) (by rw [e8, e100]; omega)
    rw [e8, e100] at X' step
    have hcA : cA = D.2 4 := Option.some.inj (fA.symm.trans (hK.2 4 _ (hw_tys_at D (t := 4) (by decide))).2)
    have hcC : comp = D.2 0 := Option.some.inj (fC.symm.trans (hK.2 0 _ (hw_tys_at D (t := 0) (by decide))).2)
    subst hcA; subst hcC
    have hTh : (T.setVm vm₁).heap = H := hT
    obtain ⟨f1, f2, -, -⟩ := Jvm.Free.Multi.fill_facts (T.setVm vm₁) (D.2 4) (D.2 0) 8 100 (defaultValue .int) 8
    have hold : ∀ x : Nat, x < H.size → (Jvm.Free.Multi.fill (T.setVm vm₁) (D.2 4) (D.2 0) 8 100 (defaultValue .int) 8).heap[x]? = H[x]? := fun x hx => by
      have := Jvm.Free.Multi.fill_old (T.setVm vm₁) (D.2 4) (D.2 0) 8 100 (defaultValue .int) (a := x) (by rw [hTh]; exact hx) 8
      rw [hTh] at this
      exact this
    have hrow : ∀ j : Nat, j < 8 → (Jvm.Free.Multi.fill (T.setVm vm₁) (D.2 4) (D.2 0) 8 100 (defaultValue .int) 8).heap[H.size + 1 + j]? = some (arrV (D.2 0) 100 (fun _ => .int 0)) := fun j hj => by
      have := Jvm.Free.Multi.fill_inner (T.setVm vm₁) (D.2 4) (D.2 0) 8 100 (defaultValue .int) 8 j hj
      rw [hTh] at this
      rw [this, ← arrV_new]
      rfl
    rw [hTh] at f1 f2
    generalize hF : Jvm.Free.Multi.fill (T.setVm vm₁) (D.2 4) (D.2 0) 8 100 (defaultValue .int) 8 = F at X' step f1 f2 hold hrow
    have hz : H.size = b + σ.2.2.2.2 := hR.1
    have f1 : F.heap.size = H.size + 1 + 8 := f1
    rw [vr_outer] at f2
    have hRn : hw_R D b (hw_mnO σ.2.2.2.2 σ) F.heap := by
      refine ⟨by rw [f1, hz]; show _ = b + (σ.2.2.2.2 + 9); omega, fun x => ?_⟩
      by_cases hx : x = σ.2.2.2.2
      · refine ⟨fun ci h2 h3 => ?_, fun t2 h2 h3 => ?_⟩
        · have h2 : (if x = σ.2.2.2.2 then 25 else if σ.2.2.2.2 < x ∧ x ≤ σ.2.2.2.2 + 8 then 21 else σ.1 x) = ci + 1 := h2
          rw [if_pos hx] at h2
          omega
        · have h2 : (if x = σ.2.2.2.2 then 25 else if σ.2.2.2.2 < x ∧ x ≤ σ.2.2.2.2 + 8 then 21 else σ.1 x) = t2 + 21 := h2
          rw [if_pos hx] at h2
          have e0 : t2 = 4 := by omega
          subst e0
          rw [hx, ← hz, f2, hx.symm]
          refine congrArg some ?_
          unfold hw_ac hw_mnO
          simp only [if_neg (show ¬ (4 : Nat) < 2 by decide), if_pos hx]
          rw [vp_cell_q]
          refine hw_arrV _ (fun j hj => ?_)
          rw [if_pos hj]
          simp only [if_true, if_pos hj]
          show va_rf (some (H.size + 1 + j)) = va_rf (some (b + (x + 1 + j)))
          rw [hz, hx, show b + σ.2.2.2.2 + 1 + j = b + (σ.2.2.2.2 + 1 + j) by omega]
      · by_cases hx2 : σ.2.2.2.2 < x ∧ x ≤ σ.2.2.2.2 + 8
        · refine ⟨fun ci h2 h3 => ?_, fun t2 h2 h3 => ?_⟩
          · have h2 : (if x = σ.2.2.2.2 then 25 else if σ.2.2.2.2 < x ∧ x ≤ σ.2.2.2.2 + 8 then 21 else σ.1 x) = ci + 1 := h2
            rw [if_neg hx, if_pos hx2] at h2
            omega
          · have h2 : (if x = σ.2.2.2.2 then 25 else if σ.2.2.2.2 < x ∧ x ≤ σ.2.2.2.2 + 8 then 21 else σ.1 x) = t2 + 21 := h2
            rw [if_neg hx, if_pos hx2] at h2
            have e0 : t2 = 0 := by omega
            subst e0
            have hr := hrow (x - σ.2.2.2.2 - 1) (by omega)
            rw [show H.size + 1 + (x - σ.2.2.2.2 - 1) = b + x by omega] at hr
            rw [hr]
            refine congrArg some ?_
            unfold hw_ac hw_mnO
            simp only [if_pos (show (0 : Nat) < 2 by decide), if_neg hx, if_pos hx2, if_pos (show σ.2.2.2.2 ≤ x ∧ x ≤ σ.2.2.2.2 + 8 from ⟨Nat.le_of_lt hx2.1, hx2.2⟩)]
            rw [vp_cell_i]
        · have he : hw_eq σ (hw_mnO σ.2.2.2.2 σ) x := by
            refine ⟨?_, ?_, ?_, ?_⟩
            · show (if x = σ.2.2.2.2 then 25 else if σ.2.2.2.2 < x ∧ x ≤ σ.2.2.2.2 + 8 then 21 else σ.1 x) = _
              rw [if_neg hx, if_neg hx2]
            · show (if x = σ.2.2.2.2 then 8 else if σ.2.2.2.2 < x ∧ x ≤ σ.2.2.2.2 + 8 then 100 else σ.2.1 x) = _
              rw [if_neg hx, if_neg hx2]
            · show (if σ.2.2.2.2 ≤ x ∧ x ≤ σ.2.2.2.2 + 8 then _ else σ.2.2.1 x) = _
              rw [if_neg (fun h => hx2 ⟨by omega, h.2⟩)]
            · show (if x = σ.2.2.2.2 then _ else if σ.2.2.2.2 < x ∧ x ≤ σ.2.2.2.2 + 8 then _ else σ.2.2.2.1 x) = _
              rw [if_neg hx, if_neg hx2]
          refine ⟨fun ci h1 h2 => ?_, fun t h1 h2 => ?_⟩
          · have h3 : σ.1 x = ci + 1 := by rw [← he.1]; exact h1
            have hl := (hR.2 x).lt (by omega) (Or.inl (by omega))
            exact ((hR.2 x).kept he (hold _ hl)).1 ci h1 h2
          · have h3 : σ.1 x = t + 21 := by rw [← he.1]; exact h1
            have hl := (hR.2 x).lt (by omega) (Or.inr (by omega))
            exact ((hR.2 x).kept he (hold _ hl)).2 t h1 h2
    have ez : (hw_vr b (some σ.2.2.2.2) :: rest) = (Value.ref H.size :: rest) := by rw [hz]; rfl
    rw [ez] at kk
    obtain ⟨t, a1, b1⟩ := kk F.heap hRn ⟨Nat.le_trans hS.1 (by omega), fun q g1 g2 => (hold q (by have := hS.1; omega)).trans (hS.2.1 q g1 g2), hS.2.2⟩ F rfl X'
    refine ⟨t, step t ?_, b1⟩
    rw [hT]
    exact a1
  · rw [if_neg hq] at he; cases he
end HWM
