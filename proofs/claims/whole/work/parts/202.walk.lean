abbrev rm12_figures : Room := { frames := 1, cells := 0, slots := 0, locals := 22 }
def m12_figures_b97 (x0 : Nat) (l1 : Int32) (σ : hw_S) : Option (Int32 × hw_S) :=
  some (l1, σ)
set_option maxRecDepth 100000 in
theorem w12_figures_b97 {p : Program} {l : Launch} {e : Env} {s : State} {m : MethodId} {args : Array Value} {below : List Frame} {meth : Method} {c : Code} {D : hw_D} {b : Nat} {r : Int32} {τ : hw_S} (C0 : hw_C p s m args meth c D yX12_figures cX12_figures 3 (some .int)) {x0 : Nat} {l1 : Int32} {σ : hw_S} {H : Heap} {locs : List Loc} (hm : m12_figures_b97 x0 l1 σ = some (r, τ)) (hR : hw_R D b σ H) (hS : va_S (fun q => b ≤ q) s.heap H locs) {ls : Array Slot} (hl : hw_L ls 3 255 [(0, hw_vr b (some x0)), (1, .int l1)]) : W p l e rm12_figures s m args below meth c H locs 0 0 (MQ below (hw_QI D b τ r) args s 0 0 (fun q => b ≤ q)) (F0 m 97 ls []) := by
  obtain ⟨hx, hb, hml, hr, hown, hts, hlk, hE, hnm⟩ := id C0
  have hown : s.vm.findClass RX12 = some m.cls := hown
  have hK := hE.1
  unfold m12_figures_b97 at hm
  refine lv_iload_n hx hb dX12_figures_97 rfl (hl.at 1 rfl) ?_
  exact hw_rWI hx hb hr hlk hR hS hm dX12_figures_98
def m12_figures_b68 (k34 : Nat → Int32 → Int32 → hw_S → Option (Int32 × hw_S)) (x0 : Nat) (l1 : Int32) (l2 : Int32) (σ : hw_S) : Option (Int32 × hw_S) :=
  (hw_rv (hw_q 12) (some x0) σ).bind fun a73 =>
  (m12_here x0 σ).bind fun v73 =>
  (hw_gI (hw_q 12) 5 (some x0) σ).bind fun v83 =>
  (hw_pI (hw_q 12) 5 (some x0) (v83 + (1 : Int32)) σ).bind fun σ88 =>
  k34 x0 ((((10 : Int32) * l1) + v73) - (48 : Int32)) (l2 + 1) σ88
set_option maxRecDepth 100000 in
theorem w12_figures_b68 {p : Program} {l : Launch} {e : Env} {s : State} {m : MethodId} {args : Array Value} {below : List Frame} {meth : Method} {c : Code} {D : hw_D} {b : Nat} {k34 : Nat → Int32 → Int32 → hw_S → Option (Int32 × hw_S)} {r : Int32} {τ : hw_S} (C0 : hw_C p s m args meth c D yX12_figures cX12_figures 3 (some .int)) (hk34 : ∀ {x0 : Nat} {l1 : Int32} {l2 : Int32} {σ : hw_S} {H : Heap} {locs : List Loc} {ls : Array Slot}, k34 x0 l1 l2 σ = some (r, τ) → hw_R D b σ H → va_S (fun q => b ≤ q) s.heap H locs → hw_L ls 3 255 [(0, hw_vr b (some x0)), (1, .int l1), (2, .int l2)] → W p l e rm12_figures s m args below meth c H locs 0 0 (MQ below (hw_QI D b τ r) args s 0 0 (fun q => b ≤ q)) (F0 m 34 ls [])) {x0 : Nat} {l1 : Int32} {l2 : Int32} {σ : hw_S} {H : Heap} {locs : List Loc} (hm : m12_figures_b68 k34 x0 l1 l2 σ = some (r, τ)) (hR : hw_R D b σ H) (hS : va_S (fun q => b ≤ q) s.heap H locs) {ls : Array Slot} (hl : hw_L ls 3 255 [(0, hw_vr b (some x0)), (1, .int l1), (2, .int l2)]) : W p l e rm12_figures s m args below meth c H locs 0 0 (MQ below (hw_QI D b τ r) args s 0 0 (fun q => b ≤ q)) (F0 m 68 ls []) := by
  obtain ⟨hx, hb, hml, hr, hown, hts, hlk, hE, hnm⟩ := id C0
  have hown : s.vm.findClass RX12 = some m.cls := hown
  have hK := hE.1
  unfold m12_figures_b68 at hm
  refine lv_bipush (v := 10) hx hb dX12_figures_68 (by decide) ?_
  refine lv_iload_n hx hb dX12_figures_70 rfl (hl.at 1 rfl) ?_
  refine lv_imul hx hb dX12_figures_71 ?_
  refine hw_aload_n hx hb dX12_figures_72 rfl (hl.at 0 rfl) ?_
  obtain ⟨a73, g73, hm⟩ := hw_bs hm
  obtain ⟨rfl, ht73⟩ := hw_rv_th g73
  obtain ⟨v73, e73, hm⟩ := hw_bs hm
  refine hw_cRI (va_runV (As := []) (rest := [.int ((10 : Int32) * l1)]) ⟨hx, hb, hml, hown, hts⟩ (c12_here l D b e73) (cwV 0 hts (hw_gV hw_m367 hw_m368 hw_m369 hw_m5 hw_m370) rfl rfl rfl (by decide +kernel) ⟨(Nat.le_of_ble_eq_true rfl), (Nat.le_of_ble_eq_true rfl)⟩) (hw_preV (ci := 12) hE hR rfl (by decide) (hw_q_of ht73)) rfl rfl hl.sz rfl (lv_room (Nat.le_of_ble_eq_true rfl)) dX12_figures_73 ⟨(Nat.le_of_ble_eq_true rfl), (Nat.le_of_ble_eq_true rfl)⟩) ?_
  refine lv_iadd hx hb dX12_figures_76 ?_
  refine lv_bipush (v := 48) hx hb dX12_figures_77 (by decide) ?_
  refine lv_isub hx hb dX12_figures_79 ?_
  refine hw_istore_n (lv' := [(1, .int ((((10 : Int32) * l1) + v73) - (48 : Int32))), (0, hw_vr b (some x0)), (2, .int l2)]) hx hb dX12_figures_80 rfl hl (by decide) (by decide) rfl (fun ls hl => ?_)
  refine hw_aload_n hx hb dX12_figures_81 rfl (hl.at 1 rfl) ?_
  refine lv_dup hx hb dX12_figures_82 (hw_vr_cat _ _) ?_
  obtain ⟨v83, e83, hm⟩ := hw_bs hm
  refine hw_getI hx hb hw_cf12 hts hown hK hR e83 (by decide) rfl (hts _ hw_m360) (fun _ h9 => h9) dX12_figures_83 ?_
  refine lv_iconst (v := 1) hx hb dX12_figures_86 (by decide) ?_
  refine lv_iadd hx hb dX12_figures_87 ?_
  obtain ⟨σ88, e88, hm⟩ := hw_bs hm
  refine hw_putI hx hb hw_cf12 hts hown hK hR hS e88 (by decide) rfl rfl (hts _ hw_m360) (fun _ h9 => h9) (Or.inl rfl) dX12_figures_88 (fun _ _ hR hS => ?_)
  refine hw_iinc (v := (l2 + 1)) (lv' := [(2, .int (l2 + 1)), (1, .int ((((10 : Int32) * l1) + v73) - (48 : Int32))), (0, hw_vr b (some x0))]) hx hb dX12_figures_91 hl (k := 2) rfl rfl (by decide) (by decide) rfl (fun ls hl => ?_)
  refine lv_goto (tgt := 34) hx hb dX12_figures_94 (by decide) ?_
  exact hk34 hm hR hS (hl.sub [2, 1, 0] rfl)
def m12_figures_b34 : Nat → Nat → Int32 → Int32 → hw_S → Option (Int32 × hw_S)
  | 0, _, _, _, _ => none
  | n + 1, x0, l1, l2, σ =>
  (if (2 : Int32) ≤ l2 then
  m12_figures_b97 x0 l1 σ
  else
  (hw_gI (hw_q 12) 7 (some x0) σ).bind fun v40 =>
  (if v40 = 0 then
  (hw_rv (hw_q 12) (some x0) σ).bind fun a47 =>
  (m12_here x0 σ).bind fun v47 =>
  (m12_in v47 (48 : Int32) (57 : Int32)).bind fun v54 =>
  (if v54 = 0 then
  m12_figures_b97 x0 l1 σ
  else
  (if l2 = 0 then
  m12_figures_b68 (m12_figures_b34 n) x0 l1 l2 σ
  else
  (if l1 ≤ 0 then
  m12_figures_b97 x0 l1 σ
  else
  m12_figures_b68 (m12_figures_b34 n) x0 l1 l2 σ)))
  else
  m12_figures_b97 x0 l1 σ))
set_option maxRecDepth 100000 in
theorem w12_figures_b34 {p : Program} {l : Launch} {e : Env} {s : State} {m : MethodId} {args : Array Value} {below : List Frame} {meth : Method} {c : Code} {D : hw_D} {b : Nat} {r : Int32} {τ : hw_S} (C0 : hw_C p s m args meth c D yX12_figures cX12_figures 3 (some .int)) : ∀ (n : Nat) {x0 : Nat} {l1 : Int32} {l2 : Int32} {σ : hw_S} {H : Heap} {locs : List Loc} {ls : Array Slot}, m12_figures_b34 n x0 l1 l2 σ = some (r, τ) → hw_R D b σ H → va_S (fun q => b ≤ q) s.heap H locs → hw_L ls 3 255 [(0, hw_vr b (some x0)), (1, .int l1), (2, .int l2)] → W p l e rm12_figures s m args below meth c H locs 0 0 (MQ below (hw_QI D b τ r) args s 0 0 (fun q => b ≤ q)) (F0 m 34 ls []) := by
  obtain ⟨hx, hb, hml, hr, hown, hts, hlk, hE, hnm⟩ := id C0
  have hown : s.vm.findClass RX12 = some m.cls := hown
  have hK := hE.1
  intro n
  induction n with
  | zero => intro _ _ _ _ _ _ _ hm; cases hm
  | succ n ih =>
    intro x0 l1 l2 σ H locs ls hm hR hS hl
    rw [m12_figures_b34] at hm
    refine lv_iload_n hx hb dX12_figures_34 rfl (hl.at 2 rfl) ?_
    refine lv_iconst (v := 2) hx hb dX12_figures_35 (by decide) ?_
    refine lv_icmp_ge (tgt := 97) hx hb dX12_figures_36 (by decide) (fun c36 => ?_) (fun c36 => ?_)
    · have hm := hw_ip hm c36
      exact w12_figures_b97 C0 hm hR hS (hl.sub [0, 1] rfl)
    · have hm := hw_in hm c36
      refine hw_aload_n hx hb dX12_figures_39 rfl (hl.at 0 rfl) ?_
      obtain ⟨v40, e40, hm⟩ := hw_bs hm
      refine hw_getI hx hb hw_cf12 hts hown hK hR e40 (by decide) rfl (hts _ hw_m361) (fun _ h9 => h9) dX12_figures_40 ?_
      refine lv_if_ne (tgt := 97) hx hb dX12_figures_43 (by decide) (fun c43 => ?_) (fun c43 => ?_)
      · have hm := hw_in hm c43
        exact w12_figures_b97 C0 hm hR hS (hl.sub [0, 1] rfl)
      · have hm := hw_ip hm c43
        refine hw_aload_n hx hb dX12_figures_46 rfl (hl.at 0 rfl) ?_
        obtain ⟨a47, g47, hm⟩ := hw_bs hm
        obtain ⟨rfl, ht47⟩ := hw_rv_th g47
        obtain ⟨v47, e47, hm⟩ := hw_bs hm
        refine hw_cRI (va_runV (As := []) (rest := []) ⟨hx, hb, hml, hown, hts⟩ (c12_here l D b e47) (cwV 0 hts (hw_gV hw_m367 hw_m368 hw_m369 hw_m5 hw_m370) rfl rfl rfl (by decide +kernel) ⟨(Nat.le_of_ble_eq_true rfl), (Nat.le_of_ble_eq_true rfl)⟩) (hw_preV (ci := 12) hE hR rfl (by decide) (hw_q_of ht47)) rfl rfl hl.sz rfl (lv_room (Nat.le_of_ble_eq_true rfl)) dX12_figures_47 ⟨(Nat.le_of_ble_eq_true rfl), (Nat.le_of_ble_eq_true rfl)⟩) ?_
        refine lv_bipush (v := 48) hx hb dX12_figures_50 (by decide) ?_
        refine lv_bipush (v := 57) hx hb dX12_figures_52 (by decide) ?_
        obtain ⟨v54, e54, hm⟩ := hw_bs hm
        refine hw_cRI (va_runS (As := [.int v47, .int (48 : Int32), .int (57 : Int32)]) (rest := []) ⟨hx, hb, hml, hown, hts⟩ (c12_in l D e54) (cwS 3 hts (hw_gS hw_m112 hw_m113 hw_m5 hw_m114) rfl rfl rfl (by decide +kernel) ⟨(Nat.le_of_ble_eq_true rfl), (Nat.le_of_ble_eq_true rfl)⟩) (hw_pre0 hE) rfl rfl hl.sz rfl (lv_room (Nat.le_of_ble_eq_true rfl)) dX12_figures_54 ⟨(Nat.le_of_ble_eq_true rfl), (Nat.le_of_ble_eq_true rfl)⟩) ?_
        refine lv_if_eq (tgt := 97) hx hb dX12_figures_57 (by decide) (fun c57 => ?_) (fun c57 => ?_)
        · have hm := hw_ip hm c57
          exact w12_figures_b97 C0 hm hR hS (hl.sub [0, 1] rfl)
        · have hm := hw_in hm c57
          refine lv_iload_n hx hb dX12_figures_60 rfl (hl.at 2 rfl) ?_
          refine lv_if_eq (tgt := 68) hx hb dX12_figures_61 (by decide) (fun c61 => ?_) (fun c61 => ?_)
          · have hm := hw_ip hm c61
            exact w12_figures_b68 C0 ih hm hR hS (hl.sub [0, 1, 2] rfl)
          · have hm := hw_in hm c61
            refine lv_iload_n hx hb dX12_figures_64 rfl (hl.at 1 rfl) ?_
            refine lv_if_le (tgt := 97) hx hb dX12_figures_65 (by decide) (fun c65 => ?_) (fun c65 => ?_)
            · have hm := hw_ip hm c65
              exact w12_figures_b97 C0 hm hR hS (hl.sub [0, 1] rfl)
            · have hm := hw_in hm c65
              exact w12_figures_b68 C0 ih hm hR hS (hl.sub [0, 1, 2] rfl)
def m12_figures_b27 (x0 : Nat) (t0 : Nat) (t1 : Int32) (σ : hw_S) : Option (Int32 × hw_S) :=
  (hw_tf t1).bind fun _ =>
  (hw_pI (hw_q 12) 7 (some t0) t1 σ).bind fun σ27 =>
  m12_figures_b34 hw_fu x0 (0 : Int32) (0 : Int32) σ27
set_option maxRecDepth 100000 in
theorem w12_figures_b27 {p : Program} {l : Launch} {e : Env} {s : State} {m : MethodId} {args : Array Value} {below : List Frame} {meth : Method} {c : Code} {D : hw_D} {b : Nat} {r : Int32} {τ : hw_S} (C0 : hw_C p s m args meth c D yX12_figures cX12_figures 3 (some .int)) {x0 : Nat} {t0 : Nat} {t1 : Int32} {σ : hw_S} {H : Heap} {locs : List Loc} (hm : m12_figures_b27 x0 t0 t1 σ = some (r, τ)) (hR : hw_R D b σ H) (hS : va_S (fun q => b ≤ q) s.heap H locs) {ls : Array Slot} (hl : hw_L ls 3 255 [(0, hw_vr b (some x0))]) : W p l e rm12_figures s m args below meth c H locs 0 0 (MQ below (hw_QI D b τ r) args s 0 0 (fun q => b ≤ q)) (F0 m 27 ls [.int t1, hw_vr b (some t0)]) := by
  obtain ⟨hx, hb, hml, hr, hown, hts, hlk, hE, hnm⟩ := id C0
  have hown : s.vm.findClass RX12 = some m.cls := hown
  have hK := hE.1
  unfold m12_figures_b27 at hm
  obtain ⟨_, z27, hm⟩ := hw_bs hm
  obtain ⟨σ27, e27, hm⟩ := hw_bs hm
  refine hw_putZ hx hb hw_cf12 hts hown hK hR hS z27 e27 (by decide) rfl rfl (hts _ hw_m361) (fun _ h9 => h9) (Or.inl rfl) dX12_figures_27 (fun _ _ hR hS => ?_)
  refine lv_iconst (v := 0) hx hb dX12_figures_30 (by decide) ?_
  refine hw_istore_n (lv' := [(1, .int (0 : Int32)), (0, hw_vr b (some x0))]) hx hb dX12_figures_31 rfl hl (by decide) (by decide) rfl (fun ls hl => ?_)
  refine lv_iconst (v := 0) hx hb dX12_figures_32 (by decide) ?_
  refine hw_istore_n (lv' := [(2, .int (0 : Int32)), (1, .int (0 : Int32)), (0, hw_vr b (some x0))]) hx hb dX12_figures_33 rfl hl (by decide) (by decide) rfl (fun ls hl => ?_)
  exact w12_figures_b34 C0 hw_fu hm hR hS (hl.sub [2, 1, 0] rfl)
def m12_figures_b22 (x0 : Nat) (t0 : Nat) (σ : hw_S) : Option (Int32 × hw_S) :=
  m12_figures_b27 x0 t0 (1 : Int32) σ
set_option maxRecDepth 100000 in
theorem w12_figures_b22 {p : Program} {l : Launch} {e : Env} {s : State} {m : MethodId} {args : Array Value} {below : List Frame} {meth : Method} {c : Code} {D : hw_D} {b : Nat} {r : Int32} {τ : hw_S} (C0 : hw_C p s m args meth c D yX12_figures cX12_figures 3 (some .int)) {x0 : Nat} {t0 : Nat} {σ : hw_S} {H : Heap} {locs : List Loc} (hm : m12_figures_b22 x0 t0 σ = some (r, τ)) (hR : hw_R D b σ H) (hS : va_S (fun q => b ≤ q) s.heap H locs) {ls : Array Slot} (hl : hw_L ls 3 255 [(0, hw_vr b (some x0))]) : W p l e rm12_figures s m args below meth c H locs 0 0 (MQ below (hw_QI D b τ r) args s 0 0 (fun q => b ≤ q)) (F0 m 22 ls [hw_vr b (some t0)]) := by
  obtain ⟨hx, hb, hml, hr, hown, hts, hlk, hE, hnm⟩ := id C0
  have hown : s.vm.findClass RX12 = some m.cls := hown
  have hK := hE.1
  unfold m12_figures_b22 at hm
  refine lv_iconst (v := 1) hx hb dX12_figures_22 (by decide) ?_
  refine lv_goto (tgt := 27) hx hb dX12_figures_23 (by decide) ?_
  exact w12_figures_b27 C0 hm hR hS (hl.sub [0] rfl)
def m12_figures (x0 : Nat) (σ : hw_S) : Option (Int32 × hw_S) :=
  (hw_gI (hw_q 12) 7 (some x0) σ).bind fun v2 =>
  (if v2 = 0 then
  (hw_rv (hw_q 12) (some x0) σ).bind fun a9 =>
  (m12_here x0 σ).bind fun v9 =>
  (m12_in v9 (48 : Int32) (57 : Int32)).bind fun v16 =>
  (if v16 = 0 then
  m12_figures_b22 x0 x0 σ
  else
  m12_figures_b27 x0 x0 (0 : Int32) σ)
  else
  m12_figures_b22 x0 x0 σ)
set_option maxRecDepth 100000 in
theorem w12_figures_s {p : Program} {l : Launch} {e : Env} {s : State} {m : MethodId} {args : Array Value} {below : List Frame} {meth : Method} {c : Code} {D : hw_D} {b : Nat} {x0 : Nat} {σ : hw_S} {r : Int32} {τ : hw_S} {H : Heap} {locs : List Loc} (hm : m12_figures x0 σ = some (r, τ)) (C0 : hw_C p s m args meth c D yX12_figures cX12_figures 3 (some .int)) (hR : hw_R D b σ H) (hS : va_S (fun q => b ≤ q) s.heap H locs) {ls : Array Slot} (hl : hw_L ls 3 255 [(0, hw_vr b (some x0))]) : W p l e rm12_figures s m args below meth c H locs 0 0 (MQ below (hw_QI D b τ r) args s 0 0 (fun q => b ≤ q)) (F0 m 0 ls []) := by
  obtain ⟨hx, hb, hml, hr, hown, hts, hlk, hE, hnm⟩ := id C0
  have hown : s.vm.findClass RX12 = some m.cls := hown
  have hK := hE.1
  unfold m12_figures at hm
  refine hw_aload_n hx hb dX12_figures_0 rfl (hl.at 0 rfl) ?_
  refine hw_aload_n hx hb dX12_figures_1 rfl (hl.at 0 rfl) ?_
  obtain ⟨v2, e2, hm⟩ := hw_bs hm
  refine hw_getI hx hb hw_cf12 hts hown hK hR e2 (by decide) rfl (hts _ hw_m361) (fun _ h9 => h9) dX12_figures_2 ?_
  refine lv_if_ne (tgt := 22) hx hb dX12_figures_5 (by decide) (fun c5 => ?_) (fun c5 => ?_)
  · have hm := hw_in hm c5
    exact w12_figures_b22 C0 hm hR hS (hl.sub [0] rfl)
  · have hm := hw_ip hm c5
    refine hw_aload_n hx hb dX12_figures_8 rfl (hl.at 0 rfl) ?_
    obtain ⟨a9, g9, hm⟩ := hw_bs hm
    obtain ⟨rfl, ht9⟩ := hw_rv_th g9
    obtain ⟨v9, e9, hm⟩ := hw_bs hm
    refine hw_cRI (va_runV (As := []) (rest := [hw_vr b (some x0)]) ⟨hx, hb, hml, hown, hts⟩ (c12_here l D b e9) (cwV 0 hts (hw_gV hw_m367 hw_m368 hw_m369 hw_m5 hw_m370) rfl rfl rfl (by decide +kernel) ⟨(Nat.le_of_ble_eq_true rfl), (Nat.le_of_ble_eq_true rfl)⟩) (hw_preV (ci := 12) hE hR rfl (by decide) (hw_q_of ht9)) rfl rfl hl.sz rfl (lv_room (hw_sm (List.forall_mem_cons.mpr ⟨(hw_vr_cat _ _), (fun _ h => absurd h List.not_mem_nil)⟩) (Nat.le_of_ble_eq_true rfl))) dX12_figures_9 ⟨(Nat.le_of_ble_eq_true rfl), (Nat.le_of_ble_eq_true rfl)⟩) ?_
    refine lv_bipush (v := 48) hx hb dX12_figures_12 (by decide) ?_
    refine lv_bipush (v := 57) hx hb dX12_figures_14 (by decide) ?_
    obtain ⟨v16, e16, hm⟩ := hw_bs hm
    refine hw_cRI (va_runS (As := [.int v9, .int (48 : Int32), .int (57 : Int32)]) (rest := [hw_vr b (some x0)]) ⟨hx, hb, hml, hown, hts⟩ (c12_in l D e16) (cwS 3 hts (hw_gS hw_m112 hw_m113 hw_m5 hw_m114) rfl rfl rfl (by decide +kernel) ⟨(Nat.le_of_ble_eq_true rfl), (Nat.le_of_ble_eq_true rfl)⟩) (hw_pre0 hE) rfl rfl hl.sz rfl (lv_room (hw_sm (List.forall_mem_cons.mpr ⟨(hw_vr_cat _ _), (fun _ h => absurd h List.not_mem_nil)⟩) (Nat.le_of_ble_eq_true rfl))) dX12_figures_16 ⟨(Nat.le_of_ble_eq_true rfl), (Nat.le_of_ble_eq_true rfl)⟩) ?_
    refine lv_if_ne (tgt := 26) hx hb dX12_figures_19 (by decide) (fun c19 => ?_) (fun c19 => ?_)
    · have hm := hw_in hm c19
      refine lv_iconst (v := 0) hx hb dX12_figures_26 (by decide) ?_
      exact w12_figures_b27 C0 hm hR hS (hl.sub [0] rfl)
    · have hm := hw_ip hm c19
      exact w12_figures_b22 C0 hm hR hS (hl.sub [0] rfl)
set_option maxRecDepth 100000 in
theorem c12_figures (l : Launch) (D : hw_D) (b : Nat) {x0 : Nat} {σ : hw_S} {r : Int32} {τ : hw_S} (hm : m12_figures x0 σ = some (r, τ)) : Met l yX12_figures (Cond.code yX12_figures cX12_figures 3 (some .int) :: wsL_law) rm12_figures (hw_P1 D b σ [hw_vr b (some x0)]) (hw_QI D b τ r) 0 0 (fun q => b ≤ q) := by
  refine hw_start1 (by decide +kernel) (by exact Nat.le_of_ble_eq_true rfl) ?_
  intro p e s m below meth c ls C0 hR hS hl
  have hl : lv_has ls 3 [(0, hw_vr b (some x0))] := by exact hl
  exact w12_figures_s hm C0 hR hS ⟨hl, (List.forall_mem_cons.mpr ⟨(fun h => by rw [show (hw_vr b (some x0) : Value).category = 1 from (hw_vr_cat _ _)] at h; cases h), (fun _ h => absurd h List.not_mem_nil)⟩)⟩

abbrev rm12_emits : Room := { frames := 0, cells := 0, slots := 0, locals := 0 }
def m12_emits_b56 (x0 : Nat) (σ : hw_S) : Option hw_S :=
  some σ
set_option maxRecDepth 100000 in
theorem w12_emits_b56 {p : Program} {l : Launch} {e : Env} {s : State} {m : MethodId} {args : Array Value} {below : List Frame} {meth : Method} {c : Code} {D : hw_D} {b : Nat} {τ : hw_S} (C0 : hw_C p s m args meth c D yX12_emits cX12_emits 2 none) {x0 : Nat} {σ : hw_S} {H : Heap} {locs : List Loc} (hm : m12_emits_b56 x0 σ = some τ) (hR : hw_R D b σ H) (hS : va_S (fun q => b ≤ q) s.heap H locs) {ls : Array Slot} (hl : hw_L ls 2 255 [(0, hw_vr b (some x0))]) : W p l e rm12_emits s m args below meth c H locs 0 0 (MQ below (hw_QV D b τ) args s 0 0 (fun q => b ≤ q)) (F0 m 56 ls []) := by
  obtain ⟨hx, hb, hml, hr, hown, hts, hlk, hE, hnm⟩ := id C0
  have hown : s.vm.findClass RX12 = some m.cls := hown
  have hK := hE.1
  unfold m12_emits_b56 at hm
  exact hw_rWV hx hb hr hlk hR hS hm dX12_emits_56
def m12_emits (x0 : Nat) (l1 : Int32) (σ : hw_S) : Option hw_S :=
  (hw_gI (hw_q 12) 7 (some x0) σ).bind fun v1 =>
  (if v1 = 0 then
  (hw_gP (hw_q 12) 1 (some x0) σ).bind fun v8 =>
  (hw_gI (hw_q 12) 4 (some x0) σ).bind fun v18 =>
  (hw_gP (hw_q 12) 1 (some x0) σ).bind fun v24 =>
  (hw_gI (hw_q 12) 4 (some x0) σ).bind fun v31 =>
  (hw_aI 0 v24 ((204 : Int32) + v31) σ).bind fun v35 =>
  (hw_sI v8 (((212 : Int32) + ((140 : Int32) * v18)) + v35) l1 σ).bind fun σ38 =>
  (hw_gP (hw_q 12) 1 (some x0) σ38).bind fun v40 =>
  (hw_gI (hw_q 12) 4 (some x0) σ38).bind fun v47 =>
  (hw_aI 0 v40 ((204 : Int32) + v47) σ38).bind fun v52 =>
  (hw_sI v40 ((204 : Int32) + v47) (v52 + (1 : Int32)) σ38).bind fun σ55 =>
  m12_emits_b56 x0 σ55
  else
  m12_emits_b56 x0 σ)
set_option maxRecDepth 100000 in
theorem w12_emits_s {p : Program} {l : Launch} {e : Env} {s : State} {m : MethodId} {args : Array Value} {below : List Frame} {meth : Method} {c : Code} {D : hw_D} {b : Nat} {x0 : Nat} {l1 : Int32} {σ : hw_S} {τ : hw_S} {H : Heap} {locs : List Loc} (hm : m12_emits x0 l1 σ = some τ) (C0 : hw_C p s m args meth c D yX12_emits cX12_emits 2 none) (hR : hw_R D b σ H) (hS : va_S (fun q => b ≤ q) s.heap H locs) {ls : Array Slot} (hl : hw_L ls 2 255 [(0, hw_vr b (some x0)), (1, .int l1)]) : W p l e rm12_emits s m args below meth c H locs 0 0 (MQ below (hw_QV D b τ) args s 0 0 (fun q => b ≤ q)) (F0 m 0 ls []) := by
  obtain ⟨hx, hb, hml, hr, hown, hts, hlk, hE, hnm⟩ := id C0
  have hown : s.vm.findClass RX12 = some m.cls := hown
  have hK := hE.1
  unfold m12_emits at hm
  refine hw_aload_n hx hb dX12_emits_0 rfl (hl.at 0 rfl) ?_
  obtain ⟨v1, e1, hm⟩ := hw_bs hm
  refine hw_getI hx hb hw_cf12 hts hown hK hR e1 (by decide) rfl (hts _ hw_m361) (fun _ h9 => h9) dX12_emits_1 ?_
  refine lv_if_ne (tgt := 56) hx hb dX12_emits_4 (by decide) (fun c4 => ?_) (fun c4 => ?_)
  · have hm := hw_in hm c4
    exact w12_emits_b56 C0 hm hR hS (hl.sub [0] rfl)
  · have hm := hw_ip hm c4
    refine hw_aload_n hx hb dX12_emits_7 rfl (hl.at 0 rfl) ?_
    obtain ⟨v8, e8, hm⟩ := hw_bs hm
    refine hw_getP hx hb hw_cf12 hts hown hK hR e8 (by decide) rfl (hts _ hw_m76) (fun _ h9 => h9) dX12_emits_8 ?_
    refine lv_sipush (v := 212) hx hb dX12_emits_11 (by decide) ?_
    refine lv_sipush (v := 140) hx hb dX12_emits_14 (by decide) ?_
    refine hw_aload_n hx hb dX12_emits_17 rfl (hl.at 0 rfl) ?_
    obtain ⟨v18, e18, hm⟩ := hw_bs hm
    refine hw_getI hx hb hw_cf12 hts hown hK hR e18 (by decide) rfl (hts _ hw_m358) (fun _ h9 => h9) dX12_emits_18 ?_
    refine lv_imul hx hb dX12_emits_21 ?_
    refine lv_iadd hx hb dX12_emits_22 ?_
    refine hw_aload_n hx hb dX12_emits_23 rfl (hl.at 0 rfl) ?_
    obtain ⟨v24, e24, hm⟩ := hw_bs hm
    refine hw_getP hx hb hw_cf12 hts hown hK hR e24 (by decide) rfl (hts _ hw_m76) (fun _ h9 => h9) dX12_emits_24 ?_
    refine lv_sipush (v := 204) hx hb dX12_emits_27 (by decide) ?_
    refine hw_aload_n hx hb dX12_emits_30 rfl (hl.at 0 rfl) ?_
    obtain ⟨v31, e31, hm⟩ := hw_bs hm
    refine hw_getI hx hb hw_cf12 hts hown hK hR e31 (by decide) rfl (hts _ hw_m358) (fun _ h9 => h9) dX12_emits_31 ?_
    refine lv_iadd hx hb dX12_emits_34 ?_
    obtain ⟨v35, e35, hm⟩ := hw_bs hm
    refine hw_iald hx hb hK hR e35 dX12_emits_35 ?_
    refine lv_iadd hx hb dX12_emits_36 ?_
    refine lv_iload_n hx hb dX12_emits_37 rfl (hl.at 1 rfl) ?_
    obtain ⟨σ38, e38, hm⟩ := hw_bs hm
    refine hw_iast hx hb hK hR hS e38 dX12_emits_38 (fun _ _ hR hS => ?_)
    refine hw_aload_n hx hb dX12_emits_39 rfl (hl.at 0 rfl) ?_
    obtain ⟨v40, e40, hm⟩ := hw_bs hm
    refine hw_getP hx hb hw_cf12 hts hown hK hR e40 (by decide) rfl (hts _ hw_m76) (fun _ h9 => h9) dX12_emits_40 ?_
    refine lv_sipush (v := 204) hx hb dX12_emits_43 (by decide) ?_
    refine hw_aload_n hx hb dX12_emits_46 rfl (hl.at 0 rfl) ?_
    obtain ⟨v47, e47, hm⟩ := hw_bs hm
    refine hw_getI hx hb hw_cf12 hts hown hK hR e47 (by decide) rfl (hts _ hw_m358) (fun _ h9 => h9) dX12_emits_47 ?_
    refine lv_iadd hx hb dX12_emits_50 ?_
    refine lv_dup2_11 hx hb dX12_emits_51 rfl (hw_vr_cat _ _) ?_
    obtain ⟨v52, e52, hm⟩ := hw_bs hm
    refine hw_iald hx hb hK hR e52 dX12_emits_52 ?_
    refine lv_iconst (v := 1) hx hb dX12_emits_53 (by decide) ?_
    refine lv_iadd hx hb dX12_emits_54 ?_
    obtain ⟨σ55, e55, hm⟩ := hw_bs hm
    refine hw_iast hx hb hK hR hS e55 dX12_emits_55 (fun _ _ hR hS => ?_)
    exact w12_emits_b56 C0 hm hR hS (hl.sub [0] rfl)
set_option maxRecDepth 100000 in
theorem c12_emits (l : Launch) (D : hw_D) (b : Nat) {x0 : Nat} {l1 : Int32} {σ : hw_S} {τ : hw_S} (hm : m12_emits x0 l1 σ = some τ) : Met l yX12_emits (Cond.code yX12_emits cX12_emits 2 none :: wsL_law) rm12_emits (hw_P1 D b σ [hw_vr b (some x0), .int l1]) (hw_QV D b τ) 0 0 (fun q => b ≤ q) := by
  refine hw_start1 (by decide +kernel) (by exact Nat.le_of_ble_eq_true rfl) ?_
  intro p e s m below meth c ls C0 hR hS hl
  have hl : lv_has ls 2 [(0, hw_vr b (some x0)), (1, .int l1)] := by exact hl
  exact w12_emits_s hm C0 hR hS ⟨hl, (List.forall_mem_cons.mpr ⟨(fun h => by rw [show (hw_vr b (some x0) : Value).category = 1 from (hw_vr_cat _ _)] at h; cases h), (List.forall_mem_cons.mpr ⟨(fun h => absurd (show (1 : Nat) = 2 from h) (by decide)), (fun _ h => absurd h List.not_mem_nil)⟩)⟩)⟩

abbrev rm12_every (RF RL : Nat) : Room := { frames := RF + 1, cells := 0, slots := 0, locals := RL + 24 }
def m12_every_b43 (kP : Nat → hw_S → Option hw_S) (x0 : Nat) (σ : hw_S) : Option hw_S :=
  some σ
set_option maxRecDepth 100000 in
theorem w12_every_b43 {p : Program} {l : Launch} {e : Env} {s : State} {m : MethodId} {args : Array Value} {below : List Frame} {meth : Method} {c : Code} {D : hw_D} {b : Nat} {g : hw_Sd} {RF RL : Nat} {kP : Nat → hw_S → Option hw_S} {τ : hw_S} (C0 : hw_C p s m args meth c D yX12_every cX12_every 1 none) (hG : hw_G g b s s.heap) (hP : ∀ {x0 : Nat} {σ : hw_S} {τ : hw_S}, kP x0 σ = some τ → Met l yX12_factor (Cond.code yX12_factor cX12_factor 5 none :: wsL_law) (hw_rk RF RL) (hw_P2 D g b σ [hw_vr b (some x0)]) (hw_QV D b τ) 0 0 (fun q => b ≤ q)) {x0 : Nat} {σ : hw_S} {H : Heap} {locs : List Loc} (hm : m12_every_b43 kP x0 σ = some τ) (hR : hw_R D b σ H) (hS : va_S (fun q => b ≤ q) s.heap H locs) {ls : Array Slot} (hl : hw_L ls 1 255 [(0, hw_vr b (some x0))]) : W p l e (rm12_every RF RL) s m args below meth c H locs 0 0 (MQ below (hw_QV D b τ) args s 0 0 (fun q => b ≤ q)) (F0 m 43 ls []) := by
  obtain ⟨hx, hb, hml, hr, hown, hts, hlk, hE, hnm⟩ := id C0
  have hown : s.vm.findClass RX12 = some m.cls := hown
  have hK := hE.1
  unfold m12_every_b43 at hm
  exact hw_rWV hx hb hr hlk hR hS hm dX12_every_43
def m12_every_b4 (kP : Nat → hw_S → Option hw_S) : Nat → Nat → hw_S → Option hw_S
  | 0, _, _ => none
  | n + 1, x0, σ =>
  (hw_gI (hw_q 12) 7 (some x0) σ).bind fun v5 =>
  (if v5 = 0 then
  (hw_rv (hw_q 12) (some x0) σ).bind fun a12 =>
  (m12_here x0 σ).bind fun v12 =>
  (if v12 = (38 : Int32) then
  (hw_gI (hw_q 12) 5 (some x0) σ).bind fun v22 =>
  (hw_pI (hw_q 12) 5 (some x0) (v22 + (1 : Int32)) σ).bind fun σ27 =>
  (hw_rv (hw_q 12) (some x0) σ27).bind fun a31 =>
  (kP x0 σ27).bind fun σ31 =>
  (hw_rv (hw_q 12) (some x0) σ31).bind fun a37 =>
  (m12_emits x0 ((-2) : Int32) σ31).bind fun σ37 =>
  m12_every_b4 kP n x0 σ37
  else
  m12_every_b43 kP x0 σ)
  else
  m12_every_b43 kP x0 σ)
set_option maxRecDepth 100000 in
theorem w12_every_b4 {p : Program} {l : Launch} {e : Env} {s : State} {m : MethodId} {args : Array Value} {below : List Frame} {meth : Method} {c : Code} {D : hw_D} {b : Nat} {g : hw_Sd} {RF RL : Nat} {kP : Nat → hw_S → Option hw_S} {τ : hw_S} (C0 : hw_C p s m args meth c D yX12_every cX12_every 1 none) (hG : hw_G g b s s.heap) (hP : ∀ {x0 : Nat} {σ : hw_S} {τ : hw_S}, kP x0 σ = some τ → Met l yX12_factor (Cond.code yX12_factor cX12_factor 5 none :: wsL_law) (hw_rk RF RL) (hw_P2 D g b σ [hw_vr b (some x0)]) (hw_QV D b τ) 0 0 (fun q => b ≤ q)) : ∀ (n : Nat) {x0 : Nat} {σ : hw_S} {H : Heap} {locs : List Loc} {ls : Array Slot}, m12_every_b4 kP n x0 σ = some τ → hw_R D b σ H → va_S (fun q => b ≤ q) s.heap H locs → hw_L ls 1 255 [(0, hw_vr b (some x0))] → W p l e (rm12_every RF RL) s m args below meth c H locs 0 0 (MQ below (hw_QV D b τ) args s 0 0 (fun q => b ≤ q)) (F0 m 4 ls []) := by
  obtain ⟨hx, hb, hml, hr, hown, hts, hlk, hE, hnm⟩ := id C0
  have hown : s.vm.findClass RX12 = some m.cls := hown
  have hK := hE.1
  intro n
  induction n with
  | zero => intro _ _ _ _ _ hm; cases hm
  | succ n ih =>
    intro x0 σ H locs ls hm hR hS hl
    rw [m12_every_b4] at hm
    refine hw_aload_n hx hb dX12_every_4 rfl (hl.at 0 rfl) ?_
    obtain ⟨v5, e5, hm⟩ := hw_bs hm
    refine hw_getI hx hb hw_cf12 hts hown hK hR e5 (by decide) rfl (hts _ hw_m361) (fun _ h9 => h9) dX12_every_5 ?_
    refine lv_if_ne (tgt := 43) hx hb dX12_every_8 (by decide) (fun c8 => ?_) (fun c8 => ?_)
    · have hm := hw_in hm c8
      exact w12_every_b43 C0 hG hP hm hR hS (hl.sub [0] rfl)
    · have hm := hw_ip hm c8
      refine hw_aload_n hx hb dX12_every_11 rfl (hl.at 0 rfl) ?_
      obtain ⟨a12, g12, hm⟩ := hw_bs hm
      obtain ⟨rfl, ht12⟩ := hw_rv_th g12
      obtain ⟨v12, e12, hm⟩ := hw_bs hm
      refine hw_cRI (va_runV (As := []) (rest := []) ⟨hx, hb, hml, hown, hts⟩ (c12_here l D b e12) (cwV 0 hts (hw_gV hw_m367 hw_m368 hw_m369 hw_m5 hw_m370) rfl rfl rfl (by decide +kernel) ⟨(by first | (dsimp only [hw_rk, rm12_emits, rm12_every, rm12_here]; omega) | dsimp only [hw_rk, rm12_emits, rm12_every, rm12_here]), (by first | (dsimp only [hw_rk, rm12_emits, rm12_every, rm12_here]; omega) | dsimp only [hw_rk, rm12_emits, rm12_every, rm12_here])⟩) (hw_preV (ci := 12) hE hR rfl (by decide) (hw_q_of ht12)) rfl rfl hl.sz rfl (lv_room (Nat.le_of_ble_eq_true rfl)) dX12_every_12 ⟨(Nat.le_of_ble_eq_true rfl), (Nat.le_of_ble_eq_true rfl)⟩) ?_
      refine lv_bipush (v := 38) hx hb dX12_every_15 (by decide) ?_
      refine lv_icmp_ne (tgt := 43) hx hb dX12_every_17 (by decide) (fun c17 => ?_) (fun c17 => ?_)
      · have hm := hw_in hm c17
        exact w12_every_b43 C0 hG hP hm hR hS (hl.sub [0] rfl)
      · have hm := hw_ip hm c17
        refine hw_aload_n hx hb dX12_every_20 rfl (hl.at 0 rfl) ?_
        refine lv_dup hx hb dX12_every_21 (hw_vr_cat _ _) ?_
        obtain ⟨v22, e22, hm⟩ := hw_bs hm
        refine hw_getI hx hb hw_cf12 hts hown hK hR e22 (by decide) rfl (hts _ hw_m360) (fun _ h9 => h9) dX12_every_22 ?_
        refine lv_iconst (v := 1) hx hb dX12_every_25 (by decide) ?_
        refine lv_iadd hx hb dX12_every_26 ?_
        obtain ⟨σ27, e27, hm⟩ := hw_bs hm
        refine hw_putI hx hb hw_cf12 hts hown hK hR hS e27 (by decide) rfl rfl (hts _ hw_m360) (fun _ h9 => h9) (Or.inl rfl) dX12_every_27 (fun _ _ hR hS => ?_)
        refine hw_aload_n hx hb dX12_every_30 rfl (hl.at 0 rfl) ?_
        obtain ⟨a31, g31, hm⟩ := hw_bs hm
        obtain ⟨rfl, ht31⟩ := hw_rv_th g31
        obtain ⟨σ31, e31, hm⟩ := hw_bs hm
        refine hw_cWV (va_runV (As := []) (rest := []) ⟨hx, hb, hml, hown, hts⟩ (hP e31) (cwV 0 hts (hw_gV hw_m401 hw_m402 hw_m403 hw_m5 hw_m404) rfl rfl rfl (by decide +kernel) ⟨(by first | (dsimp only [hw_rk, rm12_emits, rm12_every, rm12_here]; omega) | dsimp only [hw_rk, rm12_emits, rm12_every, rm12_here]), (by first | (dsimp only [hw_rk, rm12_emits, rm12_every, rm12_here]; omega) | dsimp only [hw_rk, rm12_emits, rm12_every, rm12_here])⟩) (hw_preV2 (ci := 12) hE hR (hG.at hS) rfl (by decide) (hw_q_of ht31)) rfl rfl hl.sz rfl (lv_room (Nat.le_of_ble_eq_true rfl)) dX12_every_31 ⟨(Nat.le_of_ble_eq_true rfl), (Nat.le_of_ble_eq_true rfl)⟩) hS (fun _ _ hR hS => ?_)
        refine hw_aload_n hx hb dX12_every_34 rfl (hl.at 0 rfl) ?_
        refine lv_bipush (v := (-2)) hx hb dX12_every_35 (by decide) ?_
        obtain ⟨a37, g37, hm⟩ := hw_bs hm
        obtain ⟨rfl, ht37⟩ := hw_rv_th g37
        obtain ⟨σ37, e37, hm⟩ := hw_bs hm
        refine hw_cWV (va_runV (As := [.int ((-2) : Int32)]) (rest := []) ⟨hx, hb, hml, hown, hts⟩ (c12_emits l D b e37) (cwV 1 hts (hw_gV hw_m396 hw_m397 hw_m398 hw_m5 hw_m399) rfl rfl rfl (by decide +kernel) ⟨(by first | (dsimp only [hw_rk, rm12_emits, rm12_every, rm12_here]; omega) | dsimp only [hw_rk, rm12_emits, rm12_every, rm12_here]), (by first | (dsimp only [hw_rk, rm12_emits, rm12_every, rm12_here]; omega) | dsimp only [hw_rk, rm12_emits, rm12_every, rm12_here])⟩) (hw_preV (ci := 12) hE hR rfl (by decide) (hw_q_of ht37)) rfl rfl hl.sz rfl (lv_room (Nat.le_of_ble_eq_true rfl)) dX12_every_37 ⟨(Nat.le_of_ble_eq_true rfl), (Nat.le_of_ble_eq_true rfl)⟩) hS (fun _ _ hR hS => ?_)
        refine lv_goto (tgt := 4) hx hb dX12_every_40 (by decide) ?_
        exact ih hm hR hS (hl.sub [0] rfl)
def m12_every (kP : Nat → hw_S → Option hw_S) (x0 : Nat) (σ : hw_S) : Option hw_S :=
  (hw_rv (hw_q 12) (some x0) σ).bind fun a1 =>
  (kP x0 σ).bind fun σ1 =>
  m12_every_b4 kP hw_fu x0 σ1
set_option maxRecDepth 100000 in
theorem w12_every_s {p : Program} {l : Launch} {e : Env} {s : State} {m : MethodId} {args : Array Value} {below : List Frame} {meth : Method} {c : Code} {D : hw_D} {b : Nat} {g : hw_Sd} {RF RL : Nat} {kP : Nat → hw_S → Option hw_S} {x0 : Nat} {σ : hw_S} {τ : hw_S} {H : Heap} {locs : List Loc} (hm : m12_every kP x0 σ = some τ) (C0 : hw_C p s m args meth c D yX12_every cX12_every 1 none) (hG : hw_G g b s s.heap) (hP : ∀ {x0 : Nat} {σ : hw_S} {τ : hw_S}, kP x0 σ = some τ → Met l yX12_factor (Cond.code yX12_factor cX12_factor 5 none :: wsL_law) (hw_rk RF RL) (hw_P2 D g b σ [hw_vr b (some x0)]) (hw_QV D b τ) 0 0 (fun q => b ≤ q)) (hR : hw_R D b σ H) (hS : va_S (fun q => b ≤ q) s.heap H locs) {ls : Array Slot} (hl : hw_L ls 1 255 [(0, hw_vr b (some x0))]) : W p l e (rm12_every RF RL) s m args below meth c H locs 0 0 (MQ below (hw_QV D b τ) args s 0 0 (fun q => b ≤ q)) (F0 m 0 ls []) := by
  obtain ⟨hx, hb, hml, hr, hown, hts, hlk, hE, hnm⟩ := id C0
  have hown : s.vm.findClass RX12 = some m.cls := hown
  have hK := hE.1
  unfold m12_every at hm
  refine hw_aload_n hx hb dX12_every_0 rfl (hl.at 0 rfl) ?_
  obtain ⟨a1, g1, hm⟩ := hw_bs hm
  obtain ⟨rfl, ht1⟩ := hw_rv_th g1
  obtain ⟨σ1, e1, hm⟩ := hw_bs hm
  refine hw_cWV (va_runV (As := []) (rest := []) ⟨hx, hb, hml, hown, hts⟩ (hP e1) (cwV 0 hts (hw_gV hw_m401 hw_m402 hw_m403 hw_m5 hw_m404) rfl rfl rfl (by decide +kernel) ⟨(by first | (dsimp only [hw_rk, rm12_emits, rm12_every, rm12_here]; omega) | dsimp only [hw_rk, rm12_emits, rm12_every, rm12_here]), (by first | (dsimp only [hw_rk, rm12_emits, rm12_every, rm12_here]; omega) | dsimp only [hw_rk, rm12_emits, rm12_every, rm12_here])⟩) (hw_preV2 (ci := 12) hE hR (hG.at hS) rfl (by decide) (hw_q_of ht1)) rfl rfl hl.sz rfl (lv_room (Nat.le_of_ble_eq_true rfl)) dX12_every_1 ⟨(Nat.le_of_ble_eq_true rfl), (Nat.le_of_ble_eq_true rfl)⟩) hS (fun _ _ hR hS => ?_)
  exact w12_every_b4 C0 hG hP hw_fu hm hR hS (hl.sub [0] rfl)
set_option maxRecDepth 100000 in
theorem c12_every (l : Launch) (D : hw_D) (g : hw_Sd) (b : Nat) {RF RL : Nat} {kP : Nat → hw_S → Option hw_S} (hP : ∀ {x0 : Nat} {σ : hw_S} {τ : hw_S}, kP x0 σ = some τ → Met l yX12_factor (Cond.code yX12_factor cX12_factor 5 none :: wsL_law) (hw_rk RF RL) (hw_P2 D g b σ [hw_vr b (some x0)]) (hw_QV D b τ) 0 0 (fun q => b ≤ q)) {x0 : Nat} {σ : hw_S} {τ : hw_S} (hm : m12_every kP x0 σ = some τ) : Met l yX12_every (Cond.code yX12_every cX12_every 1 none :: wsL_law) (rm12_every RF RL) (hw_P2 D g b σ [hw_vr b (some x0)]) (hw_QV D b τ) 0 0 (fun q => b ≤ q) := by
  refine hw_start2 (by decide +kernel) (by exact Nat.le_of_ble_eq_true rfl) ?_
  intro p e s m below meth c ls C0 hR hS hG hl
  have hl : lv_has ls 1 [(0, hw_vr b (some x0))] := by exact hl
  exact w12_every_s hm C0 hG hP hR hS ⟨hl, (List.forall_mem_cons.mpr ⟨(fun h => by rw [show (hw_vr b (some x0) : Value).category = 1 from (hw_vr_cat _ _)] at h; cases h), (fun _ h => absurd h List.not_mem_nil)⟩)⟩

abbrev rm12_some (RF RL : Nat) : Room := { frames := RF + 2, cells := 0, slots := 0, locals := RL + 44 }
def m12_some_b43 (kP : Nat → hw_S → Option hw_S) (x0 : Nat) (σ : hw_S) : Option hw_S :=
  some σ
set_option maxRecDepth 100000 in
theorem w12_some_b43 {p : Program} {l : Launch} {e : Env} {s : State} {m : MethodId} {args : Array Value} {below : List Frame} {meth : Method} {c : Code} {D : hw_D} {b : Nat} {g : hw_Sd} {RF RL : Nat} {kP : Nat → hw_S → Option hw_S} {τ : hw_S} (C0 : hw_C p s m args meth c D yX12_some cX12_some 1 none) (hG : hw_G g b s s.heap) (hP : ∀ {x0 : Nat} {σ : hw_S} {τ : hw_S}, kP x0 σ = some τ → Met l yX12_factor (Cond.code yX12_factor cX12_factor 5 none :: wsL_law) (hw_rk RF RL) (hw_P2 D g b σ [hw_vr b (some x0)]) (hw_QV D b τ) 0 0 (fun q => b ≤ q)) {x0 : Nat} {σ : hw_S} {H : Heap} {locs : List Loc} (hm : m12_some_b43 kP x0 σ = some τ) (hR : hw_R D b σ H) (hS : va_S (fun q => b ≤ q) s.heap H locs) {ls : Array Slot} (hl : hw_L ls 1 255 [(0, hw_vr b (some x0))]) : W p l e (rm12_some RF RL) s m args below meth c H locs 0 0 (MQ below (hw_QV D b τ) args s 0 0 (fun q => b ≤ q)) (F0 m 43 ls []) := by
  obtain ⟨hx, hb, hml, hr, hown, hts, hlk, hE, hnm⟩ := id C0
  have hown : s.vm.findClass RX12 = some m.cls := hown
  have hK := hE.1
  unfold m12_some_b43 at hm
  exact hw_rWV hx hb hr hlk hR hS hm dX12_some_43
def m12_some_b4 (kP : Nat → hw_S → Option hw_S) : Nat → Nat → hw_S → Option hw_S
  | 0, _, _ => none
  | n + 1, x0, σ =>
  (hw_gI (hw_q 12) 7 (some x0) σ).bind fun v5 =>
  (if v5 = 0 then
  (hw_rv (hw_q 12) (some x0) σ).bind fun a12 =>
  (m12_here x0 σ).bind fun v12 =>
  (if v12 = (124 : Int32) then
  (hw_gI (hw_q 12) 5 (some x0) σ).bind fun v22 =>
  (hw_pI (hw_q 12) 5 (some x0) (v22 + (1 : Int32)) σ).bind fun σ27 =>
  (hw_rv (hw_q 12) (some x0) σ27).bind fun a31 =>
  (m12_every kP x0 σ27).bind fun σ31 =>
  (hw_rv (hw_q 12) (some x0) σ31).bind fun a37 =>
  (m12_emits x0 ((-3) : Int32) σ31).bind fun σ37 =>
  m12_some_b4 kP n x0 σ37
  else
  m12_some_b43 kP x0 σ)
  else
  m12_some_b43 kP x0 σ)
set_option maxRecDepth 100000 in
theorem w12_some_b4 {p : Program} {l : Launch} {e : Env} {s : State} {m : MethodId} {args : Array Value} {below : List Frame} {meth : Method} {c : Code} {D : hw_D} {b : Nat} {g : hw_Sd} {RF RL : Nat} {kP : Nat → hw_S → Option hw_S} {τ : hw_S} (C0 : hw_C p s m args meth c D yX12_some cX12_some 1 none) (hG : hw_G g b s s.heap) (hP : ∀ {x0 : Nat} {σ : hw_S} {τ : hw_S}, kP x0 σ = some τ → Met l yX12_factor (Cond.code yX12_factor cX12_factor 5 none :: wsL_law) (hw_rk RF RL) (hw_P2 D g b σ [hw_vr b (some x0)]) (hw_QV D b τ) 0 0 (fun q => b ≤ q)) : ∀ (n : Nat) {x0 : Nat} {σ : hw_S} {H : Heap} {locs : List Loc} {ls : Array Slot}, m12_some_b4 kP n x0 σ = some τ → hw_R D b σ H → va_S (fun q => b ≤ q) s.heap H locs → hw_L ls 1 255 [(0, hw_vr b (some x0))] → W p l e (rm12_some RF RL) s m args below meth c H locs 0 0 (MQ below (hw_QV D b τ) args s 0 0 (fun q => b ≤ q)) (F0 m 4 ls []) := by
  obtain ⟨hx, hb, hml, hr, hown, hts, hlk, hE, hnm⟩ := id C0
  have hown : s.vm.findClass RX12 = some m.cls := hown
  have hK := hE.1
  intro n
  induction n with
  | zero => intro _ _ _ _ _ hm; cases hm
  | succ n ih =>
    intro x0 σ H locs ls hm hR hS hl
    rw [m12_some_b4] at hm
    refine hw_aload_n hx hb dX12_some_4 rfl (hl.at 0 rfl) ?_
    obtain ⟨v5, e5, hm⟩ := hw_bs hm
    refine hw_getI hx hb hw_cf12 hts hown hK hR e5 (by decide) rfl (hts _ hw_m361) (fun _ h9 => h9) dX12_some_5 ?_
    refine lv_if_ne (tgt := 43) hx hb dX12_some_8 (by decide) (fun c8 => ?_) (fun c8 => ?_)
    · have hm := hw_in hm c8
      exact w12_some_b43 C0 hG hP hm hR hS (hl.sub [0] rfl)
    · have hm := hw_ip hm c8
      refine hw_aload_n hx hb dX12_some_11 rfl (hl.at 0 rfl) ?_
      obtain ⟨a12, g12, hm⟩ := hw_bs hm
      obtain ⟨rfl, ht12⟩ := hw_rv_th g12
      obtain ⟨v12, e12, hm⟩ := hw_bs hm
      refine hw_cRI (va_runV (As := []) (rest := []) ⟨hx, hb, hml, hown, hts⟩ (c12_here l D b e12) (cwV 0 hts (hw_gV hw_m367 hw_m368 hw_m369 hw_m5 hw_m370) rfl rfl rfl (by decide +kernel) ⟨(by first | (dsimp only [hw_rk, rm12_emits, rm12_every, rm12_here, rm12_some]; omega) | dsimp only [hw_rk, rm12_emits, rm12_every, rm12_here, rm12_some]), (by first | (dsimp only [hw_rk, rm12_emits, rm12_every, rm12_here, rm12_some]; omega) | dsimp only [hw_rk, rm12_emits, rm12_every, rm12_here, rm12_some])⟩) (hw_preV (ci := 12) hE hR rfl (by decide) (hw_q_of ht12)) rfl rfl hl.sz rfl (lv_room (Nat.le_of_ble_eq_true rfl)) dX12_some_12 ⟨(Nat.le_of_ble_eq_true rfl), (Nat.le_of_ble_eq_true rfl)⟩) ?_
      refine lv_bipush (v := 124) hx hb dX12_some_15 (by decide) ?_
      refine lv_icmp_ne (tgt := 43) hx hb dX12_some_17 (by decide) (fun c17 => ?_) (fun c17 => ?_)
      · have hm := hw_in hm c17
        exact w12_some_b43 C0 hG hP hm hR hS (hl.sub [0] rfl)
      · have hm := hw_ip hm c17
        refine hw_aload_n hx hb dX12_some_20 rfl (hl.at 0 rfl) ?_
        refine lv_dup hx hb dX12_some_21 (hw_vr_cat _ _) ?_
        obtain ⟨v22, e22, hm⟩ := hw_bs hm
        refine hw_getI hx hb hw_cf12 hts hown hK hR e22 (by decide) rfl (hts _ hw_m360) (fun _ h9 => h9) dX12_some_22 ?_
        refine lv_iconst (v := 1) hx hb dX12_some_25 (by decide) ?_
        refine lv_iadd hx hb dX12_some_26 ?_
        obtain ⟨σ27, e27, hm⟩ := hw_bs hm
        refine hw_putI hx hb hw_cf12 hts hown hK hR hS e27 (by decide) rfl rfl (hts _ hw_m360) (fun _ h9 => h9) (Or.inl rfl) dX12_some_27 (fun _ _ hR hS => ?_)
        refine hw_aload_n hx hb dX12_some_30 rfl (hl.at 0 rfl) ?_
        obtain ⟨a31, g31, hm⟩ := hw_bs hm
        obtain ⟨rfl, ht31⟩ := hw_rv_th g31
        obtain ⟨σ31, e31, hm⟩ := hw_bs hm
        refine hw_cWV (va_runV (As := []) (rest := []) ⟨hx, hb, hml, hown, hts⟩ (c12_every l D g b hP e31) (cwV 0 hts (hw_gV hw_m393 hw_m394 hw_m395 hw_m5 hw_m400) rfl rfl rfl (by decide +kernel) ⟨(by first | (dsimp only [hw_rk, rm12_emits, rm12_every, rm12_here, rm12_some]; omega) | dsimp only [hw_rk, rm12_emits, rm12_every, rm12_here, rm12_some]), (by first | (dsimp only [hw_rk, rm12_emits, rm12_every, rm12_here, rm12_some]; omega) | dsimp only [hw_rk, rm12_emits, rm12_every, rm12_here, rm12_some])⟩) (hw_preV2 (ci := 12) hE hR (hG.at hS) rfl (by decide) (hw_q_of ht31)) rfl rfl hl.sz rfl (lv_room (Nat.le_of_ble_eq_true rfl)) dX12_some_31 ⟨(Nat.le_of_ble_eq_true rfl), (Nat.le_of_ble_eq_true rfl)⟩) hS (fun _ _ hR hS => ?_)
        refine hw_aload_n hx hb dX12_some_34 rfl (hl.at 0 rfl) ?_
        refine lv_bipush (v := (-3)) hx hb dX12_some_35 (by decide) ?_
        obtain ⟨a37, g37, hm⟩ := hw_bs hm
        obtain ⟨rfl, ht37⟩ := hw_rv_th g37
        obtain ⟨σ37, e37, hm⟩ := hw_bs hm
        refine hw_cWV (va_runV (As := [.int ((-3) : Int32)]) (rest := []) ⟨hx, hb, hml, hown, hts⟩ (c12_emits l D b e37) (cwV 1 hts (hw_gV hw_m396 hw_m397 hw_m398 hw_m5 hw_m399) rfl rfl rfl (by decide +kernel) ⟨(by first | (dsimp only [hw_rk, rm12_emits, rm12_every, rm12_here, rm12_some]; omega) | dsimp only [hw_rk, rm12_emits, rm12_every, rm12_here, rm12_some]), (by first | (dsimp only [hw_rk, rm12_emits, rm12_every, rm12_here, rm12_some]; omega) | dsimp only [hw_rk, rm12_emits, rm12_every, rm12_here, rm12_some])⟩) (hw_preV (ci := 12) hE hR rfl (by decide) (hw_q_of ht37)) rfl rfl hl.sz rfl (lv_room (Nat.le_of_ble_eq_true rfl)) dX12_some_37 ⟨(Nat.le_of_ble_eq_true rfl), (Nat.le_of_ble_eq_true rfl)⟩) hS (fun _ _ hR hS => ?_)
        refine lv_goto (tgt := 4) hx hb dX12_some_40 (by decide) ?_
        exact ih hm hR hS (hl.sub [0] rfl)
def m12_some (kP : Nat → hw_S → Option hw_S) (x0 : Nat) (σ : hw_S) : Option hw_S :=
  (hw_rv (hw_q 12) (some x0) σ).bind fun a1 =>
  (m12_every kP x0 σ).bind fun σ1 =>
  m12_some_b4 kP hw_fu x0 σ1
set_option maxRecDepth 100000 in
theorem w12_some_s {p : Program} {l : Launch} {e : Env} {s : State} {m : MethodId} {args : Array Value} {below : List Frame} {meth : Method} {c : Code} {D : hw_D} {b : Nat} {g : hw_Sd} {RF RL : Nat} {kP : Nat → hw_S → Option hw_S} {x0 : Nat} {σ : hw_S} {τ : hw_S} {H : Heap} {locs : List Loc} (hm : m12_some kP x0 σ = some τ) (C0 : hw_C p s m args meth c D yX12_some cX12_some 1 none) (hG : hw_G g b s s.heap) (hP : ∀ {x0 : Nat} {σ : hw_S} {τ : hw_S}, kP x0 σ = some τ → Met l yX12_factor (Cond.code yX12_factor cX12_factor 5 none :: wsL_law) (hw_rk RF RL) (hw_P2 D g b σ [hw_vr b (some x0)]) (hw_QV D b τ) 0 0 (fun q => b ≤ q)) (hR : hw_R D b σ H) (hS : va_S (fun q => b ≤ q) s.heap H locs) {ls : Array Slot} (hl : hw_L ls 1 255 [(0, hw_vr b (some x0))]) : W p l e (rm12_some RF RL) s m args below meth c H locs 0 0 (MQ below (hw_QV D b τ) args s 0 0 (fun q => b ≤ q)) (F0 m 0 ls []) := by
  obtain ⟨hx, hb, hml, hr, hown, hts, hlk, hE, hnm⟩ := id C0
  have hown : s.vm.findClass RX12 = some m.cls := hown
  have hK := hE.1
  unfold m12_some at hm
  refine hw_aload_n hx hb dX12_some_0 rfl (hl.at 0 rfl) ?_
  obtain ⟨a1, g1, hm⟩ := hw_bs hm
  obtain ⟨rfl, ht1⟩ := hw_rv_th g1
  obtain ⟨σ1, e1, hm⟩ := hw_bs hm
  refine hw_cWV (va_runV (As := []) (rest := []) ⟨hx, hb, hml, hown, hts⟩ (c12_every l D g b hP e1) (cwV 0 hts (hw_gV hw_m393 hw_m394 hw_m395 hw_m5 hw_m400) rfl rfl rfl (by decide +kernel) ⟨(by first | (dsimp only [hw_rk, rm12_emits, rm12_every, rm12_here, rm12_some]; omega) | dsimp only [hw_rk, rm12_emits, rm12_every, rm12_here, rm12_some]), (by first | (dsimp only [hw_rk, rm12_emits, rm12_every, rm12_here, rm12_some]; omega) | dsimp only [hw_rk, rm12_emits, rm12_every, rm12_here, rm12_some])⟩) (hw_preV2 (ci := 12) hE hR (hG.at hS) rfl (by decide) (hw_q_of ht1)) rfl rfl hl.sz rfl (lv_room (Nat.le_of_ble_eq_true rfl)) dX12_some_1 ⟨(Nat.le_of_ble_eq_true rfl), (Nat.le_of_ble_eq_true rfl)⟩) hS (fun _ _ hR hS => ?_)
  exact w12_some_b4 C0 hG hP hw_fu hm hR hS (hl.sub [0] rfl)
set_option maxRecDepth 100000 in
theorem c12_some (l : Launch) (D : hw_D) (g : hw_Sd) (b : Nat) {RF RL : Nat} {kP : Nat → hw_S → Option hw_S} (hP : ∀ {x0 : Nat} {σ : hw_S} {τ : hw_S}, kP x0 σ = some τ → Met l yX12_factor (Cond.code yX12_factor cX12_factor 5 none :: wsL_law) (hw_rk RF RL) (hw_P2 D g b σ [hw_vr b (some x0)]) (hw_QV D b τ) 0 0 (fun q => b ≤ q)) {x0 : Nat} {σ : hw_S} {τ : hw_S} (hm : m12_some kP x0 σ = some τ) : Met l yX12_some (Cond.code yX12_some cX12_some 1 none :: wsL_law) (rm12_some RF RL) (hw_P2 D g b σ [hw_vr b (some x0)]) (hw_QV D b τ) 0 0 (fun q => b ≤ q) := by
  refine hw_start2 (by decide +kernel) (by exact Nat.le_of_ble_eq_true rfl) ?_
  intro p e s m below meth c ls C0 hR hS hG hl
  have hl : lv_has ls 1 [(0, hw_vr b (some x0))] := by exact hl
  exact w12_some_s hm C0 hG hP hR hS ⟨hl, (List.forall_mem_cons.mpr ⟨(fun h => by rw [show (hw_vr b (some x0) : Value).category = 1 from (hw_vr_cat _ _)] at h; cases h), (fun _ h => absurd h List.not_mem_nil)⟩)⟩

abbrev rm12_among : Room := { frames := 4, cells := 0, slots := 0, locals := 87 }
def m12_among_b2 : Nat → Nat → Option Nat → Int32 → hw_S → Option (Int32 × hw_S)
  | 0, _, _, _, _ => none
  | n + 1, x0, l1, l2, σ =>
  (hw_sl l1).bind fun v4 =>
  (if v4 ≤ l2 then
  some (((-1) : Int32), σ)
  else
  (hw_rv (hw_q 12) (some x0) σ).bind fun a11 =>
  (m12_here x0 σ).bind fun v11 =>
  (hw_sc l1 l2).bind fun v16 =>
  (if v11 = v16 then
  (hw_gI (hw_q 12) 5 (some x0) σ).bind fun v24 =>
  (hw_pI (hw_q 12) 5 (some x0) (v24 + (1 : Int32)) σ).bind fun σ29 =>
  some (l2, σ29)
  else
  m12_among_b2 n x0 l1 (l2 + 1) σ))
set_option maxRecDepth 100000 in
theorem w12_among_b2 {p : Program} {l : Launch} {e : Env} {s : State} {m : MethodId} {args : Array Value} {below : List Frame} {meth : Method} {c : Code} {D : hw_D} {b : Nat} {g : hw_Sd} {r : Int32} {τ : hw_S} (C0 : hw_C p s m args meth c D yX12_among cX12_among 3 (some .int)) (hG : hw_G g b s s.heap) : ∀ (n : Nat) {x0 : Nat} {l1 : Option Nat} {l2 : Int32} {σ : hw_S} {H : Heap} {locs : List Loc} {ls : Array Slot}, m12_among_b2 n x0 l1 l2 σ = some (r, τ) → hw_R D b σ H → va_S (fun q => b ≤ q) s.heap H locs → hw_L ls 3 255 [(0, hw_vr b (some x0)), (1, hw_vs g l1), (2, .int l2)] → W p l e rm12_among s m args below meth c H locs 0 0 (MQ below (hw_QI D b τ r) args s 0 0 (fun q => b ≤ q)) (F0 m 2 ls []) := by
  obtain ⟨hx, hb, hml, hr, hown, hts, hlk, hE, hnm⟩ := id C0
  have hown : s.vm.findClass RX12 = some m.cls := hown
  have hK := hE.1
  intro n
  induction n with
  | zero => intro _ _ _ _ _ _ _ hm; cases hm
  | succ n ih =>
    intro x0 l1 l2 σ H locs ls hm hR hS hl
    rw [m12_among_b2] at hm
    refine lv_iload_n hx hb dX12_among_2 rfl (hl.at 2 rfl) ?_
    refine hw_sload_n hx hb dX12_among_3 rfl (hl.at 1 rfl) ?_
    obtain ⟨v4, e4, hm⟩ := hw_bs hm
    obtain ⟨a4, h4, i4, f4⟩ := hw_sl_of e4
    rw [h4]
    refine hw_cRI (va_runV (As := []) (rest := [.int l2]) ⟨hx, hb, hml, hown, hts⟩ (cJ_length l g b f4) (cwV 0 hts (hw_gV hw_m379 hw_m175 hw_m176 hw_m177 hw_m178) rfl rfl rfl (by decide +kernel) ⟨(Nat.le_of_ble_eq_true rfl), (Nat.le_of_ble_eq_true rfl)⟩) (hw_preV3 (hG.at hS) i4) rfl rfl hl.sz rfl (lv_room (Nat.le_of_ble_eq_true rfl)) dX12_among_4 ⟨(Nat.le_of_ble_eq_true rfl), (Nat.le_of_ble_eq_true rfl)⟩) ?_
    refine lv_icmp_ge (tgt := 40) hx hb dX12_among_7 (by decide) (fun c7 => ?_) (fun c7 => ?_)
    · have hm := hw_ip hm c7
      refine lv_iconst (v := (-1)) hx hb dX12_among_40 (by decide) ?_
      exact hw_rWI hx hb hr hlk hR hS hm dX12_among_41
    · have hm := hw_in hm c7
      refine hw_aload_n hx hb dX12_among_10 rfl (hl.at 0 rfl) ?_
      obtain ⟨a11, g11, hm⟩ := hw_bs hm
      obtain ⟨rfl, ht11⟩ := hw_rv_th g11
      obtain ⟨v11, e11, hm⟩ := hw_bs hm
      refine hw_cRI (va_runV (As := []) (rest := []) ⟨hx, hb, hml, hown, hts⟩ (c12_here l D b e11) (cwV 0 hts (hw_gV hw_m367 hw_m368 hw_m369 hw_m5 hw_m370) rfl rfl rfl (by decide +kernel) ⟨(Nat.le_of_ble_eq_true rfl), (Nat.le_of_ble_eq_true rfl)⟩) (hw_preV (ci := 12) hE hR rfl (by decide) (hw_q_of ht11)) rfl rfl hl.sz rfl (lv_room (Nat.le_of_ble_eq_true rfl)) dX12_among_11 ⟨(Nat.le_of_ble_eq_true rfl), (Nat.le_of_ble_eq_true rfl)⟩) ?_
      refine hw_sload_n hx hb dX12_among_14 rfl (hl.at 1 rfl) ?_
      refine lv_iload_n hx hb dX12_among_15 rfl (hl.at 2 rfl) ?_
      obtain ⟨v16, e16, hm⟩ := hw_bs hm
      obtain ⟨a16, h16, i16, f16⟩ := hw_sc_of e16
      rw [h16]
      refine hw_cRI (va_runV (As := [.int l2]) (rest := [.int v11]) ⟨hx, hb, hml, hown, hts⟩ (cJ_charAt l g b f16) (cwV 1 hts (hw_gV hw_m380 hw_m187 hw_m188 hw_m177 hw_m189) rfl rfl rfl (by decide +kernel) ⟨(Nat.le_of_ble_eq_true rfl), (Nat.le_of_ble_eq_true rfl)⟩) (hw_preV3 (hG.at hS) i16) rfl rfl hl.sz rfl (lv_room (Nat.le_of_ble_eq_true rfl)) dX12_among_16 ⟨(Nat.le_of_ble_eq_true rfl), (Nat.le_of_ble_eq_true rfl)⟩) ?_
      refine lv_icmp_ne (tgt := 34) hx hb dX12_among_19 (by decide) (fun c19 => ?_) (fun c19 => ?_)
      · have hm := hw_in hm c19
        refine hw_iinc (v := (l2 + 1)) (lv' := [(2, .int (l2 + 1)), (0, hw_vr b (some x0)), (1, hw_vs g l1)]) hx hb dX12_among_34 hl (k := 2) rfl rfl (by decide) (by decide) rfl (fun ls hl => ?_)
        refine lv_goto (tgt := 2) hx hb dX12_among_37 (by decide) ?_
        exact ih hm hR hS (hl.sub [1, 2, 0] rfl)
      · have hm := hw_ip hm c19
        refine hw_aload_n hx hb dX12_among_22 rfl (hl.at 0 rfl) ?_
        refine lv_dup hx hb dX12_among_23 (hw_vr_cat _ _) ?_
        obtain ⟨v24, e24, hm⟩ := hw_bs hm
        refine hw_getI hx hb hw_cf12 hts hown hK hR e24 (by decide) rfl (hts _ hw_m360) (fun _ h9 => h9) dX12_among_24 ?_
        refine lv_iconst (v := 1) hx hb dX12_among_27 (by decide) ?_
        refine lv_iadd hx hb dX12_among_28 ?_
        obtain ⟨σ29, e29, hm⟩ := hw_bs hm
        refine hw_putI hx hb hw_cf12 hts hown hK hR hS e29 (by decide) rfl rfl (hts _ hw_m360) (fun _ h9 => h9) (Or.inl rfl) dX12_among_29 (fun _ _ hR hS => ?_)
        refine lv_iload_n hx hb dX12_among_32 rfl (hl.at 2 rfl) ?_
        exact hw_rWI hx hb hr hlk hR hS hm dX12_among_33
def m12_among (x0 : Nat) (l1 : Option Nat) (σ : hw_S) : Option (Int32 × hw_S) :=
  m12_among_b2 hw_fu x0 l1 (0 : Int32) σ
set_option maxRecDepth 100000 in
theorem w12_among_s {p : Program} {l : Launch} {e : Env} {s : State} {m : MethodId} {args : Array Value} {below : List Frame} {meth : Method} {c : Code} {D : hw_D} {b : Nat} {g : hw_Sd} {x0 : Nat} {l1 : Option Nat} {σ : hw_S} {r : Int32} {τ : hw_S} {H : Heap} {locs : List Loc} (hm : m12_among x0 l1 σ = some (r, τ)) (C0 : hw_C p s m args meth c D yX12_among cX12_among 3 (some .int)) (hG : hw_G g b s s.heap) (hR : hw_R D b σ H) (hS : va_S (fun q => b ≤ q) s.heap H locs) {ls : Array Slot} (hl : hw_L ls 3 255 [(0, hw_vr b (some x0)), (1, hw_vs g l1)]) : W p l e rm12_among s m args below meth c H locs 0 0 (MQ below (hw_QI D b τ r) args s 0 0 (fun q => b ≤ q)) (F0 m 0 ls []) := by
  obtain ⟨hx, hb, hml, hr, hown, hts, hlk, hE, hnm⟩ := id C0
  have hown : s.vm.findClass RX12 = some m.cls := hown
  have hK := hE.1
  unfold m12_among at hm
  refine lv_iconst (v := 0) hx hb dX12_among_0 (by decide) ?_
  refine hw_istore_n (lv' := [(2, .int (0 : Int32)), (0, hw_vr b (some x0)), (1, hw_vs g l1)]) hx hb dX12_among_1 rfl hl (by decide) (by decide) rfl (fun ls hl => ?_)
  exact w12_among_b2 C0 hG hw_fu hm hR hS (hl.sub [1, 2, 0] rfl)
set_option maxRecDepth 100000 in
theorem c12_among (l : Launch) (D : hw_D) (g : hw_Sd) (b : Nat) {x0 : Nat} {l1 : Option Nat} {σ : hw_S} {r : Int32} {τ : hw_S} (hm : m12_among x0 l1 σ = some (r, τ)) : Met l yX12_among (Cond.code yX12_among cX12_among 3 (some .int) :: wsL_law) rm12_among (hw_P2 D g b σ [hw_vr b (some x0), hw_vs g l1]) (hw_QI D b τ r) 0 0 (fun q => b ≤ q) := by
  refine hw_start2 (by decide +kernel) (by cases l1 <;> exact Nat.le_of_ble_eq_true rfl) ?_
  intro p e s m below meth c ls C0 hR hS hG hl
  have hl : lv_has ls 3 [(0, hw_vr b (some x0)), (1, hw_vs g l1)] := by cases l1 <;> exact hl
  exact w12_among_s hm C0 hG hR hS ⟨hl, (List.forall_mem_cons.mpr ⟨(fun h => by rw [show (hw_vr b (some x0) : Value).category = 1 from (hw_vr_cat _ _)] at h; cases h), (List.forall_mem_cons.mpr ⟨(fun h => by rw [show (hw_vs g l1 : Value).category = 1 from (hw_vs_cat _ _)] at h; cases h), (fun _ h => absurd h List.not_mem_nil)⟩)⟩)⟩

abbrev rm12_factorF (RF RL : Nat) : Room := { frames := RF + 5, cells := 0, slots := 0, locals := RL + 109 }
def m12_factorF_b101 (kP : Nat → hw_S → Option hw_S) (x0 : Nat) (σ : hw_S) : Option hw_S :=
  (hw_gI (hw_q 12) 8 (some x0) σ).bind fun v103 =>
  (hw_pI (hw_q 12) 8 (some x0) (v103 - (1 : Int32)) σ).bind fun σ108 =>
  some σ108
set_option maxRecDepth 100000 in
theorem w12_factorF_b101 {p : Program} {l : Launch} {e : Env} {s : State} {m : MethodId} {args : Array Value} {below : List Frame} {meth : Method} {c : Code} {D : hw_D} {b : Nat} {g : hw_Sd} {RF RL : Nat} {kP : Nat → hw_S → Option hw_S} {τ : hw_S} (C0 : hw_C p s m args meth c D yX12_factor cX12_factor 5 none) (hG : hw_G g b s s.heap) (hP : ∀ {x0 : Nat} {σ : hw_S} {τ : hw_S}, kP x0 σ = some τ → Met l yX12_factor (Cond.code yX12_factor cX12_factor 5 none :: wsL_law) (hw_rk RF RL) (hw_P2 D g b σ [hw_vr b (some x0)]) (hw_QV D b τ) 0 0 (fun q => b ≤ q)) {x0 : Nat} {σ : hw_S} {H : Heap} {locs : List Loc} (hm : m12_factorF_b101 kP x0 σ = some τ) (hR : hw_R D b σ H) (hS : va_S (fun q => b ≤ q) s.heap H locs) {ls : Array Slot} (hl : hw_L ls 5 255 [(0, hw_vr b (some x0))]) : W p l e (rm12_factorF RF RL) s m args below meth c H locs 0 0 (MQ below (hw_QV D b τ) args s 0 0 (fun q => b ≤ q)) (F0 m 101 ls []) := by
  obtain ⟨hx, hb, hml, hr, hown, hts, hlk, hE, hnm⟩ := id C0
  have hown : s.vm.findClass RX12 = some m.cls := hown
  have hK := hE.1
  unfold m12_factorF_b101 at hm
  refine hw_aload_n hx hb dX12_factor_101 rfl (hl.at 0 rfl) ?_
  refine lv_dup hx hb dX12_factor_102 (hw_vr_cat _ _) ?_
  obtain ⟨v103, e103, hm⟩ := hw_bs hm
  refine hw_getI hx hb hw_cf12 hts hown hK hR e103 (by decide) rfl (hts _ hw_m362) (fun _ h9 => h9) dX12_factor_103 ?_
  refine lv_iconst (v := 1) hx hb dX12_factor_106 (by decide) ?_
  refine lv_isub hx hb dX12_factor_107 ?_
  obtain ⟨σ108, e108, hm⟩ := hw_bs hm
  refine hw_putI hx hb hw_cf12 hts hown hK hR hS e108 (by decide) rfl rfl (hts _ hw_m362) (fun _ h9 => h9) (Or.inl rfl) dX12_factor_108 (fun _ _ hR hS => ?_)
  exact hw_rWV hx hb hr hlk hR hS hm dX12_factor_111
def m12_factorF_b69 (kP : Nat → hw_S → Option hw_S) (x0 : Nat) (l1 : Int32) (t0 : Nat) (t1 : Int32) (t2 : Int32) (σ : hw_S) : Option hw_S :=
  (hw_pI (hw_q 12) 5 (some t0) (t1 + t2) σ).bind fun σ70 =>
  (if l1 = (33 : Int32) then
  (hw_rv (hw_q 12) (some x0) σ70).bind fun a80 =>
  (kP x0 σ70).bind fun σ80 =>
  (hw_rv (hw_q 12) (some x0) σ80).bind fun a85 =>
  (m12_emits x0 ((-1) : Int32) σ80).bind fun σ85 =>
  m12_factorF_b101 kP x0 σ85
  else
  (hw_rv (hw_q 12) (some x0) σ70).bind fun a92 =>
  (m12_some kP x0 σ70).bind fun σ92 =>
  (hw_rv (hw_q 12) (some x0) σ92).bind fun a98 =>
  (m12_must x0 (41 : Int32) σ92).bind fun σ98 =>
  m12_factorF_b101 kP x0 σ98)
set_option maxRecDepth 100000 in
theorem w12_factorF_b69 {p : Program} {l : Launch} {e : Env} {s : State} {m : MethodId} {args : Array Value} {below : List Frame} {meth : Method} {c : Code} {D : hw_D} {b : Nat} {g : hw_Sd} {RF RL : Nat} {kP : Nat → hw_S → Option hw_S} {τ : hw_S} (C0 : hw_C p s m args meth c D yX12_factor cX12_factor 5 none) (hG : hw_G g b s s.heap) (hP : ∀ {x0 : Nat} {σ : hw_S} {τ : hw_S}, kP x0 σ = some τ → Met l yX12_factor (Cond.code yX12_factor cX12_factor 5 none :: wsL_law) (hw_rk RF RL) (hw_P2 D g b σ [hw_vr b (some x0)]) (hw_QV D b τ) 0 0 (fun q => b ≤ q)) {x0 : Nat} {l1 : Int32} {t0 : Nat} {t1 : Int32} {t2 : Int32} {σ : hw_S} {H : Heap} {locs : List Loc} (hm : m12_factorF_b69 kP x0 l1 t0 t1 t2 σ = some τ) (hR : hw_R D b σ H) (hS : va_S (fun q => b ≤ q) s.heap H locs) {ls : Array Slot} (hl : hw_L ls 5 255 [(0, hw_vr b (some x0)), (1, .int l1)]) : W p l e (rm12_factorF RF RL) s m args below meth c H locs 0 0 (MQ below (hw_QV D b τ) args s 0 0 (fun q => b ≤ q)) (F0 m 69 ls [.int t2, .int t1, hw_vr b (some t0)]) := by
  obtain ⟨hx, hb, hml, hr, hown, hts, hlk, hE, hnm⟩ := id C0
  have hown : s.vm.findClass RX12 = some m.cls := hown
  have hK := hE.1
  unfold m12_factorF_b69 at hm
  refine lv_iadd hx hb dX12_factor_69 ?_
  obtain ⟨σ70, e70, hm⟩ := hw_bs hm
  refine hw_putI hx hb hw_cf12 hts hown hK hR hS e70 (by decide) rfl rfl (hts _ hw_m360) (fun _ h9 => h9) (Or.inl rfl) dX12_factor_70 (fun _ _ hR hS => ?_)
  refine lv_iload_n hx hb dX12_factor_73 rfl (hl.at 1 rfl) ?_
  refine lv_bipush (v := 33) hx hb dX12_factor_74 (by decide) ?_
  refine lv_icmp_ne (tgt := 91) hx hb dX12_factor_76 (by decide) (fun c76 => ?_) (fun c76 => ?_)
  · have hm := hw_in hm c76
    refine hw_aload_n hx hb dX12_factor_91 rfl (hl.at 0 rfl) ?_
    obtain ⟨a92, g92, hm⟩ := hw_bs hm
    obtain ⟨rfl, ht92⟩ := hw_rv_th g92
    obtain ⟨σ92, e92, hm⟩ := hw_bs hm
    refine hw_cWV (va_runV (As := []) (rest := []) ⟨hx, hb, hml, hown, hts⟩ (c12_some l D g b hP e92) (cwV 0 hts (hw_gV hw_m389 hw_m390 hw_m391 hw_m5 hw_m392) rfl rfl rfl (by decide +kernel) ⟨(by first | (dsimp only [hw_rk, rm12_among, rm12_emits, rm12_factorF, rm12_figures, rm12_here, rm12_must, rm12_some]; omega) | dsimp only [hw_rk, rm12_among, rm12_emits, rm12_factorF, rm12_figures, rm12_here, rm12_must, rm12_some]), (by first | (dsimp only [hw_rk, rm12_among, rm12_emits, rm12_factorF, rm12_figures, rm12_here, rm12_must, rm12_some]; omega) | dsimp only [hw_rk, rm12_among, rm12_emits, rm12_factorF, rm12_figures, rm12_here, rm12_must, rm12_some])⟩) (hw_preV2 (ci := 12) hE hR (hG.at hS) rfl (by decide) (hw_q_of ht92)) rfl rfl hl.sz rfl (lv_room (Nat.le_of_ble_eq_true rfl)) dX12_factor_92 ⟨(Nat.le_of_ble_eq_true rfl), (Nat.le_of_ble_eq_true rfl)⟩) hS (fun _ _ hR hS => ?_)
    refine hw_aload_n hx hb dX12_factor_95 rfl (hl.at 0 rfl) ?_
    refine lv_bipush (v := 41) hx hb dX12_factor_96 (by decide) ?_
    obtain ⟨a98, g98, hm⟩ := hw_bs hm
    obtain ⟨rfl, ht98⟩ := hw_rv_th g98
    obtain ⟨σ98, e98, hm⟩ := hw_bs hm
    refine hw_cWV (va_runV (As := [.int (41 : Int32)]) (rest := []) ⟨hx, hb, hml, hown, hts⟩ (c12_must l D b e98) (cwV 1 hts (hw_gV hw_m381 hw_m382 hw_m383 hw_m5 hw_m384) rfl rfl rfl (by decide +kernel) ⟨(by first | (dsimp only [hw_rk, rm12_among, rm12_emits, rm12_factorF, rm12_figures, rm12_here, rm12_must, rm12_some]; omega) | dsimp only [hw_rk, rm12_among, rm12_emits, rm12_factorF, rm12_figures, rm12_here, rm12_must, rm12_some]), (by first | (dsimp only [hw_rk, rm12_among, rm12_emits, rm12_factorF, rm12_figures, rm12_here, rm12_must, rm12_some]; omega) | dsimp only [hw_rk, rm12_among, rm12_emits, rm12_factorF, rm12_figures, rm12_here, rm12_must, rm12_some])⟩) (hw_preV (ci := 12) hE hR rfl (by decide) (hw_q_of ht98)) rfl rfl hl.sz rfl (lv_room (Nat.le_of_ble_eq_true rfl)) dX12_factor_98 ⟨(Nat.le_of_ble_eq_true rfl), (Nat.le_of_ble_eq_true rfl)⟩) hS (fun _ _ hR hS => ?_)
    exact w12_factorF_b101 C0 hG hP hm hR hS (hl.sub [0] rfl)
  · have hm := hw_ip hm c76
    refine hw_aload_n hx hb dX12_factor_79 rfl (hl.at 0 rfl) ?_
    obtain ⟨a80, g80, hm⟩ := hw_bs hm
    obtain ⟨rfl, ht80⟩ := hw_rv_th g80
    obtain ⟨σ80, e80, hm⟩ := hw_bs hm
    refine hw_cWV (va_runV (As := []) (rest := []) ⟨hx, hb, hml, hown, hts⟩ (hP e80) (cwV 0 hts (hw_gV hw_m401 hw_m402 hw_m403 hw_m5 hw_m404) rfl rfl rfl (by decide +kernel) ⟨(by first | (dsimp only [hw_rk, rm12_among, rm12_emits, rm12_factorF, rm12_figures, rm12_here, rm12_must, rm12_some]; omega) | dsimp only [hw_rk, rm12_among, rm12_emits, rm12_factorF, rm12_figures, rm12_here, rm12_must, rm12_some]), (by first | (dsimp only [hw_rk, rm12_among, rm12_emits, rm12_factorF, rm12_figures, rm12_here, rm12_must, rm12_some]; omega) | dsimp only [hw_rk, rm12_among, rm12_emits, rm12_factorF, rm12_figures, rm12_here, rm12_must, rm12_some])⟩) (hw_preV2 (ci := 12) hE hR (hG.at hS) rfl (by decide) (hw_q_of ht80)) rfl rfl hl.sz rfl (lv_room (Nat.le_of_ble_eq_true rfl)) dX12_factor_80 ⟨(Nat.le_of_ble_eq_true rfl), (Nat.le_of_ble_eq_true rfl)⟩) hS (fun _ _ hR hS => ?_)
    refine hw_aload_n hx hb dX12_factor_83 rfl (hl.at 0 rfl) ?_
    refine lv_iconst (v := (-1)) hx hb dX12_factor_84 (by decide) ?_
    obtain ⟨a85, g85, hm⟩ := hw_bs hm
    obtain ⟨rfl, ht85⟩ := hw_rv_th g85
    obtain ⟨σ85, e85, hm⟩ := hw_bs hm
    refine hw_cWV (va_runV (As := [.int ((-1) : Int32)]) (rest := []) ⟨hx, hb, hml, hown, hts⟩ (c12_emits l D b e85) (cwV 1 hts (hw_gV hw_m396 hw_m397 hw_m398 hw_m5 hw_m399) rfl rfl rfl (by decide +kernel) ⟨(by first | (dsimp only [hw_rk, rm12_among, rm12_emits, rm12_factorF, rm12_figures, rm12_here, rm12_must, rm12_some]; omega) | dsimp only [hw_rk, rm12_among, rm12_emits, rm12_factorF, rm12_figures, rm12_here, rm12_must, rm12_some]), (by first | (dsimp only [hw_rk, rm12_among, rm12_emits, rm12_factorF, rm12_figures, rm12_here, rm12_must, rm12_some]; omega) | dsimp only [hw_rk, rm12_among, rm12_emits, rm12_factorF, rm12_figures, rm12_here, rm12_must, rm12_some])⟩) (hw_preV (ci := 12) hE hR rfl (by decide) (hw_q_of ht85)) rfl rfl hl.sz rfl (lv_room (Nat.le_of_ble_eq_true rfl)) dX12_factor_85 ⟨(Nat.le_of_ble_eq_true rfl), (Nat.le_of_ble_eq_true rfl)⟩) hS (fun _ _ hR hS => ?_)
    refine lv_goto (tgt := 101) hx hb dX12_factor_88 (by decide) ?_
    exact w12_factorF_b101 C0 hG hP hm hR hS (hl.sub [0] rfl)
def m12_factorF_b39 (kP : Nat → hw_S → Option hw_S) (x0 : Nat) (l1 : Int32) (t0 : Nat) (t1 : Int32) (σ : hw_S) : Option hw_S :=
  (hw_tf t1).bind fun _ =>
  (hw_pI (hw_q 12) 7 (some t0) t1 σ).bind fun σ39 =>
  (hw_gI (hw_q 12) 8 (some x0) σ39).bind fun v44 =>
  (hw_pI (hw_q 12) 8 (some x0) (v44 + (1 : Int32)) σ39).bind fun σ49 =>
  (hw_gI (hw_q 12) 5 (some x0) σ49).bind fun v54 =>
  (hw_gI (hw_q 12) 7 (some x0) σ49).bind fun v58 =>
  (if v58 = 0 then
  m12_factorF_b69 kP x0 l1 x0 v54 (1 : Int32) σ49
  else
  m12_factorF_b69 kP x0 l1 x0 v54 (0 : Int32) σ49)
set_option maxRecDepth 100000 in
theorem w12_factorF_b39 {p : Program} {l : Launch} {e : Env} {s : State} {m : MethodId} {args : Array Value} {below : List Frame} {meth : Method} {c : Code} {D : hw_D} {b : Nat} {g : hw_Sd} {RF RL : Nat} {kP : Nat → hw_S → Option hw_S} {τ : hw_S} (C0 : hw_C p s m args meth c D yX12_factor cX12_factor 5 none) (hG : hw_G g b s s.heap) (hP : ∀ {x0 : Nat} {σ : hw_S} {τ : hw_S}, kP x0 σ = some τ → Met l yX12_factor (Cond.code yX12_factor cX12_factor 5 none :: wsL_law) (hw_rk RF RL) (hw_P2 D g b σ [hw_vr b (some x0)]) (hw_QV D b τ) 0 0 (fun q => b ≤ q)) {x0 : Nat} {l1 : Int32} {t0 : Nat} {t1 : Int32} {σ : hw_S} {H : Heap} {locs : List Loc} (hm : m12_factorF_b39 kP x0 l1 t0 t1 σ = some τ) (hR : hw_R D b σ H) (hS : va_S (fun q => b ≤ q) s.heap H locs) {ls : Array Slot} (hl : hw_L ls 5 255 [(0, hw_vr b (some x0)), (1, .int l1)]) : W p l e (rm12_factorF RF RL) s m args below meth c H locs 0 0 (MQ below (hw_QV D b τ) args s 0 0 (fun q => b ≤ q)) (F0 m 39 ls [.int t1, hw_vr b (some t0)]) := by
  obtain ⟨hx, hb, hml, hr, hown, hts, hlk, hE, hnm⟩ := id C0
  have hown : s.vm.findClass RX12 = some m.cls := hown
  have hK := hE.1
  unfold m12_factorF_b39 at hm
  obtain ⟨_, z39, hm⟩ := hw_bs hm
  obtain ⟨σ39, e39, hm⟩ := hw_bs hm
  refine hw_putZ hx hb hw_cf12 hts hown hK hR hS z39 e39 (by decide) rfl rfl (hts _ hw_m361) (fun _ h9 => h9) (Or.inl rfl) dX12_factor_39 (fun _ _ hR hS => ?_)
  refine hw_aload_n hx hb dX12_factor_42 rfl (hl.at 0 rfl) ?_
  refine lv_dup hx hb dX12_factor_43 (hw_vr_cat _ _) ?_
  obtain ⟨v44, e44, hm⟩ := hw_bs hm
  refine hw_getI hx hb hw_cf12 hts hown hK hR e44 (by decide) rfl (hts _ hw_m362) (fun _ h9 => h9) dX12_factor_44 ?_
  refine lv_iconst (v := 1) hx hb dX12_factor_47 (by decide) ?_
  refine lv_iadd hx hb dX12_factor_48 ?_
  obtain ⟨σ49, e49, hm⟩ := hw_bs hm
  refine hw_putI hx hb hw_cf12 hts hown hK hR hS e49 (by decide) rfl rfl (hts _ hw_m362) (fun _ h9 => h9) (Or.inl rfl) dX12_factor_49 (fun _ _ hR hS => ?_)
  refine hw_aload_n hx hb dX12_factor_52 rfl (hl.at 0 rfl) ?_
  refine lv_dup hx hb dX12_factor_53 (hw_vr_cat _ _) ?_
  obtain ⟨v54, e54, hm⟩ := hw_bs hm
  refine hw_getI hx hb hw_cf12 hts hown hK hR e54 (by decide) rfl (hts _ hw_m360) (fun _ h9 => h9) dX12_factor_54 ?_
  refine hw_aload_n hx hb dX12_factor_57 rfl (hl.at 0 rfl) ?_
  obtain ⟨v58, e58, hm⟩ := hw_bs hm
  refine hw_getI hx hb hw_cf12 hts hown hK hR e58 (by decide) rfl (hts _ hw_m361) (fun _ h9 => h9) dX12_factor_58 ?_
  refine lv_if_eq (tgt := 68) hx hb dX12_factor_61 (by decide) (fun c61 => ?_) (fun c61 => ?_)
  · have hm := hw_ip hm c61
    refine lv_iconst (v := 1) hx hb dX12_factor_68 (by decide) ?_
    exact w12_factorF_b69 C0 hG hP hm hR hS (hl.sub [0, 1] rfl)
  · have hm := hw_in hm c61
    refine lv_iconst (v := 0) hx hb dX12_factor_64 (by decide) ?_
    refine lv_goto (tgt := 69) hx hb dX12_factor_65 (by decide) ?_
    exact w12_factorF_b69 C0 hG hP hm hR hS (hl.sub [0, 1] rfl)
def m12_factorF_b25 (kP : Nat → hw_S → Option hw_S) (x0 : Nat) (l1 : Int32) (σ : hw_S) : Option hw_S :=
  (hw_gI (hw_q 12) 8 (some x0) σ).bind fun v27 =>
  (if v27 = (5 : Int32) then
  m12_factorF_b39 kP x0 l1 x0 (1 : Int32) σ
  else
  m12_factorF_b39 kP x0 l1 x0 (0 : Int32) σ)
set_option maxRecDepth 100000 in
theorem w12_factorF_b25 {p : Program} {l : Launch} {e : Env} {s : State} {m : MethodId} {args : Array Value} {below : List Frame} {meth : Method} {c : Code} {D : hw_D} {b : Nat} {g : hw_Sd} {RF RL : Nat} {kP : Nat → hw_S → Option hw_S} {τ : hw_S} (C0 : hw_C p s m args meth c D yX12_factor cX12_factor 5 none) (hG : hw_G g b s s.heap) (hP : ∀ {x0 : Nat} {σ : hw_S} {τ : hw_S}, kP x0 σ = some τ → Met l yX12_factor (Cond.code yX12_factor cX12_factor 5 none :: wsL_law) (hw_rk RF RL) (hw_P2 D g b σ [hw_vr b (some x0)]) (hw_QV D b τ) 0 0 (fun q => b ≤ q)) {x0 : Nat} {l1 : Int32} {σ : hw_S} {H : Heap} {locs : List Loc} (hm : m12_factorF_b25 kP x0 l1 σ = some τ) (hR : hw_R D b σ H) (hS : va_S (fun q => b ≤ q) s.heap H locs) {ls : Array Slot} (hl : hw_L ls 5 255 [(0, hw_vr b (some x0)), (1, .int l1)]) : W p l e (rm12_factorF RF RL) s m args below meth c H locs 0 0 (MQ below (hw_QV D b τ) args s 0 0 (fun q => b ≤ q)) (F0 m 25 ls []) := by
  obtain ⟨hx, hb, hml, hr, hown, hts, hlk, hE, hnm⟩ := id C0
  have hown : s.vm.findClass RX12 = some m.cls := hown
  have hK := hE.1
  unfold m12_factorF_b25 at hm
  refine hw_aload_n hx hb dX12_factor_25 rfl (hl.at 0 rfl) ?_
  refine hw_aload_n hx hb dX12_factor_26 rfl (hl.at 0 rfl) ?_
  obtain ⟨v27, e27, hm⟩ := hw_bs hm
  refine hw_getI hx hb hw_cf12 hts hown hK hR e27 (by decide) rfl (hts _ hw_m362) (fun _ h9 => h9) dX12_factor_27 ?_
  refine lv_iconst (v := 5) hx hb dX12_factor_30 (by decide) ?_
  refine lv_icmp_ne (tgt := 38) hx hb dX12_factor_31 (by decide) (fun c31 => ?_) (fun c31 => ?_)
  · have hm := hw_in hm c31
    refine lv_iconst (v := 0) hx hb dX12_factor_38 (by decide) ?_
    exact w12_factorF_b39 C0 hG hP hm hR hS (hl.sub [0, 1] rfl)
  · have hm := hw_ip hm c31
    refine lv_iconst (v := 1) hx hb dX12_factor_34 (by decide) ?_
    refine lv_goto (tgt := 39) hx hb dX12_factor_35 (by decide) ?_
    exact w12_factorF_b39 C0 hG hP hm hR hS (hl.sub [0, 1] rfl)
def m12_factorF_b169 (kP : Nat → hw_S → Option hw_S) (x0 : Nat) (l2 : Int32) (l3 : Int32) (t0 : Nat) (t1 : Int32) (σ : hw_S) : Option hw_S :=
  (hw_tf t1).bind fun _ =>
  (hw_pI (hw_q 12) 7 (some t0) t1 σ).bind fun σ169 =>
  (hw_rv (hw_q 12) (some x0) σ169).bind fun a173 =>
  hw_b2 (m12_figures x0 σ169) fun v173 σ173 =>
  (hw_rv (hw_q 12) (some x0) σ173).bind fun a191 =>
  (m12_emits x0 ((l2 + ((8 : Int32) * l3)) + ((32 : Int32) * v173)) σ173).bind fun σ191 =>
  some σ191
set_option maxRecDepth 100000 in
theorem w12_factorF_b169 {p : Program} {l : Launch} {e : Env} {s : State} {m : MethodId} {args : Array Value} {below : List Frame} {meth : Method} {c : Code} {D : hw_D} {b : Nat} {g : hw_Sd} {RF RL : Nat} {kP : Nat → hw_S → Option hw_S} {τ : hw_S} (C0 : hw_C p s m args meth c D yX12_factor cX12_factor 5 none) (hG : hw_G g b s s.heap) (hP : ∀ {x0 : Nat} {σ : hw_S} {τ : hw_S}, kP x0 σ = some τ → Met l yX12_factor (Cond.code yX12_factor cX12_factor 5 none :: wsL_law) (hw_rk RF RL) (hw_P2 D g b σ [hw_vr b (some x0)]) (hw_QV D b τ) 0 0 (fun q => b ≤ q)) {x0 : Nat} {l2 : Int32} {l3 : Int32} {t0 : Nat} {t1 : Int32} {σ : hw_S} {H : Heap} {locs : List Loc} (hm : m12_factorF_b169 kP x0 l2 l3 t0 t1 σ = some τ) (hR : hw_R D b σ H) (hS : va_S (fun q => b ≤ q) s.heap H locs) {ls : Array Slot} (hl : hw_L ls 5 255 [(0, hw_vr b (some x0)), (2, .int l2), (3, .int l3)]) : W p l e (rm12_factorF RF RL) s m args below meth c H locs 0 0 (MQ below (hw_QV D b τ) args s 0 0 (fun q => b ≤ q)) (F0 m 169 ls [.int t1, hw_vr b (some t0)]) := by
  obtain ⟨hx, hb, hml, hr, hown, hts, hlk, hE, hnm⟩ := id C0
  have hown : s.vm.findClass RX12 = some m.cls := hown
  have hK := hE.1
  unfold m12_factorF_b169 at hm
  obtain ⟨_, z169, hm⟩ := hw_bs hm
  obtain ⟨σ169, e169, hm⟩ := hw_bs hm
  refine hw_putZ hx hb hw_cf12 hts hown hK hR hS z169 e169 (by decide) rfl rfl (hts _ hw_m361) (fun _ h9 => h9) (Or.inl rfl) dX12_factor_169 (fun _ _ hR hS => ?_)
  refine hw_aload_n hx hb dX12_factor_172 rfl (hl.at 0 rfl) ?_
  obtain ⟨a173, g173, hm⟩ := hw_bs hm
  obtain ⟨rfl, ht173⟩ := hw_rv_th g173
  obtain ⟨v173, σ173, e173, hm⟩ := hw_bs2 hm
  refine hw_cWI (va_runV (As := []) (rest := []) ⟨hx, hb, hml, hown, hts⟩ (c12_figures l D b e173) (cwV 0 hts (hw_gV hw_m385 hw_m386 hw_m387 hw_m5 hw_m388) rfl rfl rfl (by decide +kernel) ⟨(by first | (dsimp only [hw_rk, rm12_among, rm12_emits, rm12_factorF, rm12_figures, rm12_here, rm12_must, rm12_some]; omega) | dsimp only [hw_rk, rm12_among, rm12_emits, rm12_factorF, rm12_figures, rm12_here, rm12_must, rm12_some]), (by first | (dsimp only [hw_rk, rm12_among, rm12_emits, rm12_factorF, rm12_figures, rm12_here, rm12_must, rm12_some]; omega) | dsimp only [hw_rk, rm12_among, rm12_emits, rm12_factorF, rm12_figures, rm12_here, rm12_must, rm12_some])⟩) (hw_preV (ci := 12) hE hR rfl (by decide) (hw_q_of ht173)) rfl rfl hl.sz rfl (lv_room (Nat.le_of_ble_eq_true rfl)) dX12_factor_173 ⟨(Nat.le_of_ble_eq_true rfl), (Nat.le_of_ble_eq_true rfl)⟩) hS (fun _ _ hR hS => ?_)
  refine hw_istore (lv' := [(4, .int v173), (0, hw_vr b (some x0)), (2, .int l2), (3, .int l3)]) hx hb dX12_factor_176 hl (by decide) (by decide) rfl (fun ls hl => ?_)
  refine hw_aload_n hx hb dX12_factor_178 rfl (hl.at 1 rfl) ?_
  refine lv_iload_n hx hb dX12_factor_179 rfl (hl.at 2 rfl) ?_
  refine lv_bipush (v := 8) hx hb dX12_factor_180 (by decide) ?_
  refine lv_iload_n hx hb dX12_factor_182 rfl (hl.at 3 rfl) ?_
  refine lv_imul hx hb dX12_factor_183 ?_
  refine lv_iadd hx hb dX12_factor_184 ?_
  refine lv_bipush (v := 32) hx hb dX12_factor_185 (by decide) ?_
  refine lv_iload hx hb dX12_factor_187 (hl.at 0 rfl) ?_
  refine lv_imul hx hb dX12_factor_189 ?_
  refine lv_iadd hx hb dX12_factor_190 ?_
  obtain ⟨a191, g191, hm⟩ := hw_bs hm
  obtain ⟨rfl, ht191⟩ := hw_rv_th g191
  obtain ⟨σ191, e191, hm⟩ := hw_bs hm
  refine hw_cWV (va_runV (As := [.int ((l2 + ((8 : Int32) * l3)) + ((32 : Int32) * v173))]) (rest := []) ⟨hx, hb, hml, hown, hts⟩ (c12_emits l D b e191) (cwV 1 hts (hw_gV hw_m396 hw_m397 hw_m398 hw_m5 hw_m399) rfl rfl rfl (by decide +kernel) ⟨(by first | (dsimp only [hw_rk, rm12_among, rm12_emits, rm12_factorF, rm12_figures, rm12_here, rm12_must, rm12_some]; omega) | dsimp only [hw_rk, rm12_among, rm12_emits, rm12_factorF, rm12_figures, rm12_here, rm12_must, rm12_some]), (by first | (dsimp only [hw_rk, rm12_among, rm12_emits, rm12_factorF, rm12_figures, rm12_here, rm12_must, rm12_some]; omega) | dsimp only [hw_rk, rm12_among, rm12_emits, rm12_factorF, rm12_figures, rm12_here, rm12_must, rm12_some])⟩) (hw_preV (ci := 12) hE hR rfl (by decide) (hw_q_of ht191)) rfl rfl hl.sz rfl (lv_room (Nat.le_of_ble_eq_true rfl)) dX12_factor_191 ⟨(Nat.le_of_ble_eq_true rfl), (Nat.le_of_ble_eq_true rfl)⟩) hS (fun _ _ hR hS => ?_)
  exact hw_rWV hx hb hr hlk hR hS hm dX12_factor_194
def m12_factorF_b164 (kP : Nat → hw_S → Option hw_S) (x0 : Nat) (l2 : Int32) (l3 : Int32) (t0 : Nat) (σ : hw_S) : Option hw_S :=
  m12_factorF_b169 kP x0 l2 l3 t0 (1 : Int32) σ
set_option maxRecDepth 100000 in
theorem w12_factorF_b164 {p : Program} {l : Launch} {e : Env} {s : State} {m : MethodId} {args : Array Value} {below : List Frame} {meth : Method} {c : Code} {D : hw_D} {b : Nat} {g : hw_Sd} {RF RL : Nat} {kP : Nat → hw_S → Option hw_S} {τ : hw_S} (C0 : hw_C p s m args meth c D yX12_factor cX12_factor 5 none) (hG : hw_G g b s s.heap) (hP : ∀ {x0 : Nat} {σ : hw_S} {τ : hw_S}, kP x0 σ = some τ → Met l yX12_factor (Cond.code yX12_factor cX12_factor 5 none :: wsL_law) (hw_rk RF RL) (hw_P2 D g b σ [hw_vr b (some x0)]) (hw_QV D b τ) 0 0 (fun q => b ≤ q)) {x0 : Nat} {l2 : Int32} {l3 : Int32} {t0 : Nat} {σ : hw_S} {H : Heap} {locs : List Loc} (hm : m12_factorF_b164 kP x0 l2 l3 t0 σ = some τ) (hR : hw_R D b σ H) (hS : va_S (fun q => b ≤ q) s.heap H locs) {ls : Array Slot} (hl : hw_L ls 5 255 [(0, hw_vr b (some x0)), (2, .int l2), (3, .int l3)]) : W p l e (rm12_factorF RF RL) s m args below meth c H locs 0 0 (MQ below (hw_QV D b τ) args s 0 0 (fun q => b ≤ q)) (F0 m 164 ls [hw_vr b (some t0)]) := by
  obtain ⟨hx, hb, hml, hr, hown, hts, hlk, hE, hnm⟩ := id C0
  have hown : s.vm.findClass RX12 = some m.cls := hown
  have hK := hE.1
  unfold m12_factorF_b164 at hm
  refine lv_iconst (v := 1) hx hb dX12_factor_164 (by decide) ?_
  refine lv_goto (tgt := 169) hx hb dX12_factor_165 (by decide) ?_
  exact w12_factorF_b169 C0 hG hP hm hR hS (hl.sub [0, 1, 2] rfl)
def m12_factorF_b150 (kP : Nat → hw_S → Option hw_S) (x0 : Nat) (l2 : Int32) (t0 : Int32) (σ : hw_S) : Option hw_S :=
  (hw_gI (hw_q 12) 7 (some x0) σ).bind fun v153 =>
  (if v153 = 0 then
  (if t0 = ((-1) : Int32) then
  m12_factorF_b164 kP x0 l2 t0 x0 σ
  else
  m12_factorF_b169 kP x0 l2 t0 x0 (0 : Int32) σ)
  else
  m12_factorF_b164 kP x0 l2 t0 x0 σ)
set_option maxRecDepth 100000 in
theorem w12_factorF_b150 {p : Program} {l : Launch} {e : Env} {s : State} {m : MethodId} {args : Array Value} {below : List Frame} {meth : Method} {c : Code} {D : hw_D} {b : Nat} {g : hw_Sd} {RF RL : Nat} {kP : Nat → hw_S → Option hw_S} {τ : hw_S} (C0 : hw_C p s m args meth c D yX12_factor cX12_factor 5 none) (hG : hw_G g b s s.heap) (hP : ∀ {x0 : Nat} {σ : hw_S} {τ : hw_S}, kP x0 σ = some τ → Met l yX12_factor (Cond.code yX12_factor cX12_factor 5 none :: wsL_law) (hw_rk RF RL) (hw_P2 D g b σ [hw_vr b (some x0)]) (hw_QV D b τ) 0 0 (fun q => b ≤ q)) {x0 : Nat} {l2 : Int32} {t0 : Int32} {σ : hw_S} {H : Heap} {locs : List Loc} (hm : m12_factorF_b150 kP x0 l2 t0 σ = some τ) (hR : hw_R D b σ H) (hS : va_S (fun q => b ≤ q) s.heap H locs) {ls : Array Slot} (hl : hw_L ls 5 255 [(0, hw_vr b (some x0)), (2, .int l2)]) : W p l e (rm12_factorF RF RL) s m args below meth c H locs 0 0 (MQ below (hw_QV D b τ) args s 0 0 (fun q => b ≤ q)) (F0 m 150 ls [.int t0]) := by
  obtain ⟨hx, hb, hml, hr, hown, hts, hlk, hE, hnm⟩ := id C0
  have hown : s.vm.findClass RX12 = some m.cls := hown
  have hK := hE.1
  unfold m12_factorF_b150 at hm
  refine hw_istore_n (lv' := [(3, .int t0), (0, hw_vr b (some x0)), (2, .int l2)]) hx hb dX12_factor_150 rfl hl (by decide) (by decide) rfl (fun ls hl => ?_)
  refine hw_aload_n hx hb dX12_factor_151 rfl (hl.at 1 rfl) ?_
  refine hw_aload_n hx hb dX12_factor_152 rfl (hl.at 1 rfl) ?_
  obtain ⟨v153, e153, hm⟩ := hw_bs hm
  refine hw_getI hx hb hw_cf12 hts hown hK hR e153 (by decide) rfl (hts _ hw_m361) (fun _ h9 => h9) dX12_factor_153 ?_
  refine lv_if_ne (tgt := 164) hx hb dX12_factor_156 (by decide) (fun c156 => ?_) (fun c156 => ?_)
  · have hm := hw_in hm c156
    exact w12_factorF_b164 C0 hG hP hm hR hS (hl.sub [1, 2, 0] rfl)
  · have hm := hw_ip hm c156
    refine lv_iload_n hx hb dX12_factor_159 rfl (hl.at 0 rfl) ?_
    refine lv_iconst (v := (-1)) hx hb dX12_factor_160 (by decide) ?_
    refine lv_icmp_ne (tgt := 168) hx hb dX12_factor_161 (by decide) (fun c161 => ?_) (fun c161 => ?_)
    · have hm := hw_in hm c161
      refine lv_iconst (v := 0) hx hb dX12_factor_168 (by decide) ?_
      exact w12_factorF_b169 C0 hG hP hm hR hS (hl.sub [1, 2, 0] rfl)
    · have hm := hw_ip hm c161
      exact w12_factorF_b164 C0 hG hP hm hR hS (hl.sub [1, 2, 0] rfl)
def m12_factorF_b130 (kP : Nat → hw_S → Option hw_S) (x0 : Nat) (l2 : Int32) (t0 : Nat) (t1 : Int32) (σ : hw_S) : Option hw_S :=
  (hw_tf t1).bind fun _ =>
  (hw_pI (hw_q 12) 7 (some t0) t1 σ).bind fun σ130 =>
  (hw_gI (hw_q 12) 7 (some x0) σ130).bind fun v134 =>
  (if v134 = 0 then
  (hw_rv (hw_q 12) (some x0) σ130).bind fun a147 =>
  hw_b2 (m12_among x0 (some 6) σ130) fun v147 σ147 =>
  m12_factorF_b150 kP x0 l2 v147 σ147
  else
  m12_factorF_b150 kP x0 l2 (0 : Int32) σ130)
set_option maxRecDepth 100000 in
theorem w12_factorF_b130 {p : Program} {l : Launch} {e : Env} {s : State} {m : MethodId} {args : Array Value} {below : List Frame} {meth : Method} {c : Code} {D : hw_D} {b : Nat} {g : hw_Sd} {RF RL : Nat} {kP : Nat → hw_S → Option hw_S} {τ : hw_S} (C0 : hw_C p s m args meth c D yX12_factor cX12_factor 5 none) (hG : hw_G g b s s.heap) (hP : ∀ {x0 : Nat} {σ : hw_S} {τ : hw_S}, kP x0 σ = some τ → Met l yX12_factor (Cond.code yX12_factor cX12_factor 5 none :: wsL_law) (hw_rk RF RL) (hw_P2 D g b σ [hw_vr b (some x0)]) (hw_QV D b τ) 0 0 (fun q => b ≤ q)) {x0 : Nat} {l2 : Int32} {t0 : Nat} {t1 : Int32} {σ : hw_S} {H : Heap} {locs : List Loc} (hm : m12_factorF_b130 kP x0 l2 t0 t1 σ = some τ) (hR : hw_R D b σ H) (hS : va_S (fun q => b ≤ q) s.heap H locs) {ls : Array Slot} (hl : hw_L ls 5 255 [(0, hw_vr b (some x0)), (2, .int l2)]) : W p l e (rm12_factorF RF RL) s m args below meth c H locs 0 0 (MQ below (hw_QV D b τ) args s 0 0 (fun q => b ≤ q)) (F0 m 130 ls [.int t1, hw_vr b (some t0)]) := by
  obtain ⟨hx, hb, hml, hr, hown, hts, hlk, hE, hnm⟩ := id C0
  have hown : s.vm.findClass RX12 = some m.cls := hown
  have hK := hE.1
  unfold m12_factorF_b130 at hm
  obtain ⟨_, z130, hm⟩ := hw_bs hm
  obtain ⟨σ130, e130, hm⟩ := hw_bs hm
  refine hw_putZ hx hb hw_cf12 hts hown hK hR hS z130 e130 (by decide) rfl rfl (hts _ hw_m361) (fun _ h9 => h9) (Or.inl rfl) dX12_factor_130 (fun _ _ hR hS => ?_)
  refine hw_aload_n hx hb dX12_factor_133 rfl (hl.at 0 rfl) ?_
  obtain ⟨v134, e134, hm⟩ := hw_bs hm
  refine hw_getI hx hb hw_cf12 hts hown hK hR e134 (by decide) rfl (hts _ hw_m361) (fun _ h9 => h9) dX12_factor_134 ?_
  refine lv_if_eq (tgt := 144) hx hb dX12_factor_137 (by decide) (fun c137 => ?_) (fun c137 => ?_)
  · have hm := hw_ip hm c137
    refine hw_aload_n hx hb dX12_factor_144 rfl (hl.at 0 rfl) ?_
    refine hw_ldcS (id := 6) hx hb hown hG (List.mem_of_getElem? (i := 11) rfl) dX12_factor_145 ?_
    obtain ⟨a147, g147, hm⟩ := hw_bs hm
    obtain ⟨rfl, ht147⟩ := hw_rv_th g147
    obtain ⟨v147, σ147, e147, hm⟩ := hw_bs2 hm
    refine hw_cWI (va_runV (As := [hw_vs g (some 6)]) (rest := []) ⟨hx, hb, hml, hown, hts⟩ (c12_among l D g b e147) (cwV 1 hts (hw_gV hw_m405 hw_m406 hw_m407 hw_m5 hw_m408) rfl rfl rfl (by decide +kernel) ⟨(by first | (dsimp only [hw_rk, rm12_among, rm12_emits, rm12_factorF, rm12_figures, rm12_here, rm12_must, rm12_some]; omega) | dsimp only [hw_rk, rm12_among, rm12_emits, rm12_factorF, rm12_figures, rm12_here, rm12_must, rm12_some]), (by first | (dsimp only [hw_rk, rm12_among, rm12_emits, rm12_factorF, rm12_figures, rm12_here, rm12_must, rm12_some]; omega) | dsimp only [hw_rk, rm12_among, rm12_emits, rm12_factorF, rm12_figures, rm12_here, rm12_must, rm12_some])⟩) (hw_preV2 (ci := 12) hE hR (hG.at hS) rfl (by decide) (hw_q_of ht147)) rfl rfl hl.sz rfl (lv_room (Nat.le_of_ble_eq_true rfl)) dX12_factor_147 ⟨(Nat.le_of_ble_eq_true rfl), (Nat.le_of_ble_eq_true rfl)⟩) hS (fun _ _ hR hS => ?_)
    exact w12_factorF_b150 C0 hG hP hm hR hS (hl.sub [0, 1] rfl)
  · have hm := hw_in hm c137
    refine lv_iconst (v := 0) hx hb dX12_factor_140 (by decide) ?_
    refine lv_goto (tgt := 150) hx hb dX12_factor_141 (by decide) ?_
    exact w12_factorF_b150 C0 hG hP hm hR hS (hl.sub [0, 1] rfl)
def m12_factorF (kP : Nat → hw_S → Option hw_S) (x0 : Nat) (σ : hw_S) : Option hw_S :=
  (hw_gI (hw_q 12) 7 (some x0) σ).bind fun v1 =>
  (if v1 = 0 then
  (hw_rv (hw_q 12) (some x0) σ).bind fun a9 =>
  (m12_here x0 σ).bind fun v9 =>
  (if v9 = (33 : Int32) then
  m12_factorF_b25 kP x0 v9 σ
  else
  (if v9 = (40 : Int32) then
  m12_factorF_b25 kP x0 v9 σ
  else
  (hw_rv (hw_q 12) (some x0) σ).bind fun a115 =>
  hw_b2 (m12_among x0 (some 5) σ) fun v115 σ115 =>
  (if v115 = ((-1) : Int32) then
  m12_factorF_b130 kP x0 v115 x0 (1 : Int32) σ115
  else
  m12_factorF_b130 kP x0 v115 x0 (0 : Int32) σ115)))
  else
  some σ)
set_option maxRecDepth 100000 in
theorem w12_factorF_s {p : Program} {l : Launch} {e : Env} {s : State} {m : MethodId} {args : Array Value} {below : List Frame} {meth : Method} {c : Code} {D : hw_D} {b : Nat} {g : hw_Sd} {RF RL : Nat} {kP : Nat → hw_S → Option hw_S} {x0 : Nat} {σ : hw_S} {τ : hw_S} {H : Heap} {locs : List Loc} (hm : m12_factorF kP x0 σ = some τ) (C0 : hw_C p s m args meth c D yX12_factor cX12_factor 5 none) (hG : hw_G g b s s.heap) (hP : ∀ {x0 : Nat} {σ : hw_S} {τ : hw_S}, kP x0 σ = some τ → Met l yX12_factor (Cond.code yX12_factor cX12_factor 5 none :: wsL_law) (hw_rk RF RL) (hw_P2 D g b σ [hw_vr b (some x0)]) (hw_QV D b τ) 0 0 (fun q => b ≤ q)) (hR : hw_R D b σ H) (hS : va_S (fun q => b ≤ q) s.heap H locs) {ls : Array Slot} (hl : hw_L ls 5 255 [(0, hw_vr b (some x0))]) : W p l e (rm12_factorF RF RL) s m args below meth c H locs 0 0 (MQ below (hw_QV D b τ) args s 0 0 (fun q => b ≤ q)) (F0 m 0 ls []) := by
  obtain ⟨hx, hb, hml, hr, hown, hts, hlk, hE, hnm⟩ := id C0
  have hown : s.vm.findClass RX12 = some m.cls := hown
  have hK := hE.1
  unfold m12_factorF at hm
  refine hw_aload_n hx hb dX12_factor_0 rfl (hl.at 0 rfl) ?_
  obtain ⟨v1, e1, hm⟩ := hw_bs hm
  refine hw_getI hx hb hw_cf12 hts hown hK hR e1 (by decide) rfl (hts _ hw_m361) (fun _ h9 => h9) dX12_factor_1 ?_
  refine lv_if_eq (tgt := 8) hx hb dX12_factor_4 (by decide) (fun c4 => ?_) (fun c4 => ?_)
  · have hm := hw_ip hm c4
    refine hw_aload_n hx hb dX12_factor_8 rfl (hl.at 0 rfl) ?_
    obtain ⟨a9, g9, hm⟩ := hw_bs hm
    obtain ⟨rfl, ht9⟩ := hw_rv_th g9
    obtain ⟨v9, e9, hm⟩ := hw_bs hm
    refine hw_cRI (va_runV (As := []) (rest := []) ⟨hx, hb, hml, hown, hts⟩ (c12_here l D b e9) (cwV 0 hts (hw_gV hw_m367 hw_m368 hw_m369 hw_m5 hw_m370) rfl rfl rfl (by decide +kernel) ⟨(by first | (dsimp only [hw_rk, rm12_among, rm12_emits, rm12_factorF, rm12_figures, rm12_here, rm12_must, rm12_some]; omega) | dsimp only [hw_rk, rm12_among, rm12_emits, rm12_factorF, rm12_figures, rm12_here, rm12_must, rm12_some]), (by first | (dsimp only [hw_rk, rm12_among, rm12_emits, rm12_factorF, rm12_figures, rm12_here, rm12_must, rm12_some]; omega) | dsimp only [hw_rk, rm12_among, rm12_emits, rm12_factorF, rm12_figures, rm12_here, rm12_must, rm12_some])⟩) (hw_preV (ci := 12) hE hR rfl (by decide) (hw_q_of ht9)) rfl rfl hl.sz rfl (lv_room (Nat.le_of_ble_eq_true rfl)) dX12_factor_9 ⟨(Nat.le_of_ble_eq_true rfl), (Nat.le_of_ble_eq_true rfl)⟩) ?_
    refine hw_istore_n (lv' := [(1, .int v9), (0, hw_vr b (some x0))]) hx hb dX12_factor_12 rfl hl (by decide) (by decide) rfl (fun ls hl => ?_)
    refine lv_iload_n hx hb dX12_factor_13 rfl (hl.at 0 rfl) ?_
    refine lv_bipush (v := 33) hx hb dX12_factor_14 (by decide) ?_
    refine lv_icmp_eq (tgt := 25) hx hb dX12_factor_16 (by decide) (fun c16 => ?_) (fun c16 => ?_)
    · have hm := hw_ip hm c16
      exact w12_factorF_b25 C0 hG hP hm hR hS (hl.sub [1, 0] rfl)
    · have hm := hw_in hm c16
      refine lv_iload_n hx hb dX12_factor_19 rfl (hl.at 0 rfl) ?_
      refine lv_bipush (v := 40) hx hb dX12_factor_20 (by decide) ?_
      refine lv_icmp_ne (tgt := 112) hx hb dX12_factor_22 (by decide) (fun c22 => ?_) (fun c22 => ?_)
      · have hm := hw_in hm c22
        refine hw_aload_n hx hb dX12_factor_112 rfl (hl.at 1 rfl) ?_
        refine hw_ldcS (id := 5) hx hb hown hG (List.mem_of_getElem? (i := 10) rfl) dX12_factor_113 ?_
        obtain ⟨a115, g115, hm⟩ := hw_bs hm
        obtain ⟨rfl, ht115⟩ := hw_rv_th g115
        obtain ⟨v115, σ115, e115, hm⟩ := hw_bs2 hm
        refine hw_cWI (va_runV (As := [hw_vs g (some 5)]) (rest := []) ⟨hx, hb, hml, hown, hts⟩ (c12_among l D g b e115) (cwV 1 hts (hw_gV hw_m405 hw_m406 hw_m407 hw_m5 hw_m408) rfl rfl rfl (by decide +kernel) ⟨(by first | (dsimp only [hw_rk, rm12_among, rm12_emits, rm12_factorF, rm12_figures, rm12_here, rm12_must, rm12_some]; omega) | dsimp only [hw_rk, rm12_among, rm12_emits, rm12_factorF, rm12_figures, rm12_here, rm12_must, rm12_some]), (by first | (dsimp only [hw_rk, rm12_among, rm12_emits, rm12_factorF, rm12_figures, rm12_here, rm12_must, rm12_some]; omega) | dsimp only [hw_rk, rm12_among, rm12_emits, rm12_factorF, rm12_figures, rm12_here, rm12_must, rm12_some])⟩) (hw_preV2 (ci := 12) hE hR (hG.at hS) rfl (by decide) (hw_q_of ht115)) rfl rfl hl.sz rfl (lv_room (Nat.le_of_ble_eq_true rfl)) dX12_factor_115 ⟨(Nat.le_of_ble_eq_true rfl), (Nat.le_of_ble_eq_true rfl)⟩) hS (fun _ _ hR hS => ?_)
        refine hw_istore_n (lv' := [(2, .int v115), (1, .int v9), (0, hw_vr b (some x0))]) hx hb dX12_factor_118 rfl hl (by decide) (by decide) rfl (fun ls hl => ?_)
        refine hw_aload_n hx hb dX12_factor_119 rfl (hl.at 2 rfl) ?_
        refine lv_iload_n hx hb dX12_factor_120 rfl (hl.at 0 rfl) ?_
        refine lv_iconst (v := (-1)) hx hb dX12_factor_121 (by decide) ?_
        refine lv_icmp_ne (tgt := 129) hx hb dX12_factor_122 (by decide) (fun c122 => ?_) (fun c122 => ?_)
        · have hm := hw_in hm c122
          refine lv_iconst (v := 0) hx hb dX12_factor_129 (by decide) ?_
          exact w12_factorF_b130 C0 hG hP hm hR hS (hl.sub [2, 0] rfl)
        · have hm := hw_ip hm c122
          refine lv_iconst (v := 1) hx hb dX12_factor_125 (by decide) ?_
          refine lv_goto (tgt := 130) hx hb dX12_factor_126 (by decide) ?_
          exact w12_factorF_b130 C0 hG hP hm hR hS (hl.sub [2, 0] rfl)
      · have hm := hw_ip hm c22
        exact w12_factorF_b25 C0 hG hP hm hR hS (hl.sub [1, 0] rfl)
  · have hm := hw_in hm c4
    exact hw_rWV hx hb hr hlk hR hS hm dX12_factor_7
set_option maxRecDepth 100000 in
theorem c12_factorF (l : Launch) (D : hw_D) (g : hw_Sd) (b : Nat) {RF RL : Nat} {kP : Nat → hw_S → Option hw_S} (hP : ∀ {x0 : Nat} {σ : hw_S} {τ : hw_S}, kP x0 σ = some τ → Met l yX12_factor (Cond.code yX12_factor cX12_factor 5 none :: wsL_law) (hw_rk RF RL) (hw_P2 D g b σ [hw_vr b (some x0)]) (hw_QV D b τ) 0 0 (fun q => b ≤ q)) {x0 : Nat} {σ : hw_S} {τ : hw_S} (hm : m12_factorF kP x0 σ = some τ) : Met l yX12_factor (Cond.code yX12_factor cX12_factor 5 none :: wsL_law) (rm12_factorF RF RL) (hw_P2 D g b σ [hw_vr b (some x0)]) (hw_QV D b τ) 0 0 (fun q => b ≤ q) := by
  refine hw_start2 (by decide +kernel) (by exact Nat.le_of_ble_eq_true rfl) ?_
  intro p e s m below meth c ls C0 hR hS hG hl
  have hl : lv_has ls 5 [(0, hw_vr b (some x0))] := by exact hl
  exact w12_factorF_s hm C0 hG hP hR hS ⟨hl, (List.forall_mem_cons.mpr ⟨(fun h => by rw [show (hw_vr b (some x0) : Value).category = 1 from (hw_vr_cat _ _)] at h; cases h), (fun _ h => absurd h List.not_mem_nil)⟩)⟩
def m12_factor : Nat → Nat → hw_S → Option hw_S
  | 0, _, _ => none
  | n + 1, x0, σ => m12_factorF (m12_factor n) x0 σ
theorem c12_factor (l : Launch) (D : hw_D) (g : hw_Sd) (b : Nat) : ∀ (n : Nat), ∀ {x0 : Nat} {σ : hw_S} {τ : hw_S}, m12_factor n x0 σ = some τ → Met l yX12_factor (Cond.code yX12_factor cX12_factor 5 none :: wsL_law) (hw_rk (5 * n) (109 * n)) (hw_P2 D g b σ [hw_vr b (some x0)]) (hw_QV D b τ) 0 0 (fun q => b ≤ q) := by
  intro n
  induction n with
  | zero => intro _ _ _ h; cases h
  | succ n ih => intro _ _ _ h; exact c12_factorF l D g b ih h

abbrev rm12_much : Room := { frames := 43, cells := 0, slots := 0, locals := 936 }
def m12_much (x0 : Nat) (l1 : Int32) (l2 : Option Nat) (σ : hw_S) : Option hw_S :=
  (hw_rv (hw_q 12) (some x0) σ).bind fun a2 =>
  (m12_spells x0 l2 σ).bind fun σ2 =>
  (hw_rv (hw_q 12) (some x0) σ2).bind fun a6 =>
  hw_b2 (m12_figures x0 σ2) fun v6 σ6 =>
  (hw_rv (hw_q 12) (some x0) σ6).bind fun a13 =>
  (m12_must x0 (32 : Int32) σ6).bind fun σ13 =>
  (hw_rv (hw_q 12) (some x0) σ13).bind fun a17 =>
  (m12_some (m12_factor 8) x0 σ13).bind fun σ17 =>
  (hw_rv (hw_q 12) (some x0) σ17).bind fun a24 =>
  (m12_emits x0 (l1 - v6) σ17).bind fun σ24 =>
  some σ24
set_option maxRecDepth 100000 in
theorem w12_much_s {p : Program} {l : Launch} {e : Env} {s : State} {m : MethodId} {args : Array Value} {below : List Frame} {meth : Method} {c : Code} {D : hw_D} {b : Nat} {g : hw_Sd} {x0 : Nat} {l1 : Int32} {l2 : Option Nat} {σ : hw_S} {τ : hw_S} {H : Heap} {locs : List Loc} (hm : m12_much x0 l1 l2 σ = some τ) (C0 : hw_C p s m args meth c D yX12_much cX12_much 4 none) (hG : hw_G g b s s.heap) (hR : hw_R D b σ H) (hS : va_S (fun q => b ≤ q) s.heap H locs) {ls : Array Slot} (hl : hw_L ls 4 255 [(0, hw_vr b (some x0)), (1, .int l1), (2, hw_vs g l2)]) : W p l e rm12_much s m args below meth c H locs 0 0 (MQ below (hw_QV D b τ) args s 0 0 (fun q => b ≤ q)) (F0 m 0 ls []) := by
  obtain ⟨hx, hb, hml, hr, hown, hts, hlk, hE, hnm⟩ := id C0
  have hown : s.vm.findClass RX12 = some m.cls := hown
  have hK := hE.1
  unfold m12_much at hm
  refine hw_aload_n hx hb dX12_much_0 rfl (hl.at 0 rfl) ?_
  refine hw_sload_n hx hb dX12_much_1 rfl (hl.at 2 rfl) ?_
  obtain ⟨a2, g2, hm⟩ := hw_bs hm
  obtain ⟨rfl, ht2⟩ := hw_rv_th g2
  obtain ⟨σ2, e2, hm⟩ := hw_bs hm
  refine hw_cWV (va_runV (As := [hw_vs g l2]) (rest := []) ⟨hx, hb, hml, hown, hts⟩ (c12_spells l D g b e2) (cwV 1 hts (hw_gV hw_m375 hw_m376 hw_m377 hw_m5 hw_m378) rfl rfl rfl (by decide +kernel) ⟨(Nat.le_of_ble_eq_true rfl), (Nat.le_of_ble_eq_true rfl)⟩) (hw_preV2 (ci := 12) hE hR (hG.at hS) rfl (by decide) (hw_q_of ht2)) rfl rfl hl.sz rfl (lv_room (Nat.le_of_ble_eq_true rfl)) dX12_much_2 ⟨(Nat.le_of_ble_eq_true rfl), (Nat.le_of_ble_eq_true rfl)⟩) hS (fun _ _ hR hS => ?_)
  refine hw_aload_n hx hb dX12_much_5 rfl (hl.at 0 rfl) ?_
  obtain ⟨a6, g6, hm⟩ := hw_bs hm
  obtain ⟨rfl, ht6⟩ := hw_rv_th g6
  obtain ⟨v6, σ6, e6, hm⟩ := hw_bs2 hm
  refine hw_cWI (va_runV (As := []) (rest := []) ⟨hx, hb, hml, hown, hts⟩ (c12_figures l D b e6) (cwV 0 hts (hw_gV hw_m385 hw_m386 hw_m387 hw_m5 hw_m388) rfl rfl rfl (by decide +kernel) ⟨(Nat.le_of_ble_eq_true rfl), (Nat.le_of_ble_eq_true rfl)⟩) (hw_preV (ci := 12) hE hR rfl (by decide) (hw_q_of ht6)) rfl rfl hl.sz rfl (lv_room (Nat.le_of_ble_eq_true rfl)) dX12_much_6 ⟨(Nat.le_of_ble_eq_true rfl), (Nat.le_of_ble_eq_true rfl)⟩) hS (fun _ _ hR hS => ?_)
  refine hw_istore_n (lv' := [(3, .int v6), (0, hw_vr b (some x0)), (1, .int l1), (2, hw_vs g l2)]) hx hb dX12_much_9 rfl hl (by decide) (by decide) rfl (fun ls hl => ?_)
  refine hw_aload_n hx hb dX12_much_10 rfl (hl.at 1 rfl) ?_
  refine lv_bipush (v := 32) hx hb dX12_much_11 (by decide) ?_
  obtain ⟨a13, g13, hm⟩ := hw_bs hm
  obtain ⟨rfl, ht13⟩ := hw_rv_th g13
  obtain ⟨σ13, e13, hm⟩ := hw_bs hm
  refine hw_cWV (va_runV (As := [.int (32 : Int32)]) (rest := []) ⟨hx, hb, hml, hown, hts⟩ (c12_must l D b e13) (cwV 1 hts (hw_gV hw_m381 hw_m382 hw_m383 hw_m5 hw_m384) rfl rfl rfl (by decide +kernel) ⟨(Nat.le_of_ble_eq_true rfl), (Nat.le_of_ble_eq_true rfl)⟩) (hw_preV (ci := 12) hE hR rfl (by decide) (hw_q_of ht13)) rfl rfl hl.sz rfl (lv_room (Nat.le_of_ble_eq_true rfl)) dX12_much_13 ⟨(Nat.le_of_ble_eq_true rfl), (Nat.le_of_ble_eq_true rfl)⟩) hS (fun _ _ hR hS => ?_)
  refine hw_aload_n hx hb dX12_much_16 rfl (hl.at 1 rfl) ?_
  obtain ⟨a17, g17, hm⟩ := hw_bs hm
  obtain ⟨rfl, ht17⟩ := hw_rv_th g17
  obtain ⟨σ17, e17, hm⟩ := hw_bs hm
  refine hw_cWV (va_runV (As := []) (rest := []) ⟨hx, hb, hml, hown, hts⟩ (c12_some l D g b (c12_factor l D g b 8) e17) (cwV 0 hts (hw_gV hw_m389 hw_m390 hw_m391 hw_m5 hw_m392) rfl rfl rfl (by decide +kernel) ⟨(Nat.le_of_ble_eq_true rfl), (Nat.le_of_ble_eq_true rfl)⟩) (hw_preV2 (ci := 12) hE hR (hG.at hS) rfl (by decide) (hw_q_of ht17)) rfl rfl hl.sz rfl (lv_room (Nat.le_of_ble_eq_true rfl)) dX12_much_17 ⟨(Nat.le_of_ble_eq_true rfl), (Nat.le_of_ble_eq_true rfl)⟩) hS (fun _ _ hR hS => ?_)
  refine hw_aload_n hx hb dX12_much_20 rfl (hl.at 1 rfl) ?_
  refine lv_iload_n hx hb dX12_much_21 rfl (hl.at 2 rfl) ?_
  refine lv_iload_n hx hb dX12_much_22 rfl (hl.at 0 rfl) ?_
  refine lv_isub hx hb dX12_much_23 ?_
  obtain ⟨a24, g24, hm⟩ := hw_bs hm
  obtain ⟨rfl, ht24⟩ := hw_rv_th g24
  obtain ⟨σ24, e24, hm⟩ := hw_bs hm
  refine hw_cWV (va_runV (As := [.int (l1 - v6)]) (rest := []) ⟨hx, hb, hml, hown, hts⟩ (c12_emits l D b e24) (cwV 1 hts (hw_gV hw_m396 hw_m397 hw_m398 hw_m5 hw_m399) rfl rfl rfl (by decide +kernel) ⟨(Nat.le_of_ble_eq_true rfl), (Nat.le_of_ble_eq_true rfl)⟩) (hw_preV (ci := 12) hE hR rfl (by decide) (hw_q_of ht24)) rfl rfl hl.sz rfl (lv_room (Nat.le_of_ble_eq_true rfl)) dX12_much_24 ⟨(Nat.le_of_ble_eq_true rfl), (Nat.le_of_ble_eq_true rfl)⟩) hS (fun _ _ hR hS => ?_)
  exact hw_rWV hx hb hr hlk hR hS hm dX12_much_27
set_option maxRecDepth 100000 in
theorem c12_much (l : Launch) (D : hw_D) (g : hw_Sd) (b : Nat) {x0 : Nat} {l1 : Int32} {l2 : Option Nat} {σ : hw_S} {τ : hw_S} (hm : m12_much x0 l1 l2 σ = some τ) : Met l yX12_much (Cond.code yX12_much cX12_much 4 none :: wsL_law) rm12_much (hw_P2 D g b σ [hw_vr b (some x0), .int l1, hw_vs g l2]) (hw_QV D b τ) 0 0 (fun q => b ≤ q) := by
  refine hw_start2 (by decide +kernel) (by cases l2 <;> exact Nat.le_of_ble_eq_true rfl) ?_
  intro p e s m below meth c ls C0 hR hS hG hl
  have hl : lv_has ls 4 [(0, hw_vr b (some x0)), (1, .int l1), (2, hw_vs g l2)] := by cases l2 <;> exact hl
  exact w12_much_s hm C0 hG hR hS ⟨hl, (List.forall_mem_cons.mpr ⟨(fun h => by rw [show (hw_vr b (some x0) : Value).category = 1 from (hw_vr_cat _ _)] at h; cases h), (List.forall_mem_cons.mpr ⟨(fun h => absurd (show (1 : Nat) = 2 from h) (by decide)), (List.forall_mem_cons.mpr ⟨(fun h => by rw [show (hw_vs g l2 : Value).category = 1 from (hw_vs_cat _ _)] at h; cases h), (fun _ h => absurd h List.not_mem_nil)⟩)⟩)⟩)⟩

abbrev rm12_formHere : Room := { frames := 5, cells := 0, slots := 0, locals := 109 }
def m12_formHere_b114 (x0 : Nat) (σ : hw_S) : Option hw_S :=
  some σ
set_option maxRecDepth 100000 in
theorem w12_formHere_b114 {p : Program} {l : Launch} {e : Env} {s : State} {m : MethodId} {args : Array Value} {below : List Frame} {meth : Method} {c : Code} {D : hw_D} {b : Nat} {g : hw_Sd} {τ : hw_S} (C0 : hw_C p s m args meth c D yX12_formHere cX12_formHere 3 none) (hG : hw_G g b s s.heap) {x0 : Nat} {σ : hw_S} {H : Heap} {locs : List Loc} (hm : m12_formHere_b114 x0 σ = some τ) (hR : hw_R D b σ H) (hS : va_S (fun q => b ≤ q) s.heap H locs) {ls : Array Slot} (hl : hw_L ls 3 255 [(0, hw_vr b (some x0))]) : W p l e rm12_formHere s m args below meth c H locs 0 0 (MQ below (hw_QV D b τ) args s 0 0 (fun q => b ≤ q)) (F0 m 114 ls []) := by
  obtain ⟨hx, hb, hml, hr, hown, hts, hlk, hE, hnm⟩ := id C0
  have hown : s.vm.findClass RX12 = some m.cls := hown
  have hK := hE.1
  unfold m12_formHere_b114 at hm
  exact hw_rWV hx hb hr hlk hR hS hm dX12_formHere_114
def m12_formHere_b72 (x0 : Nat) (l1 : Int32) (t0 : Nat) (t1 : Int32) (t2 : Int32) (σ : hw_S) : Option hw_S :=
  (hw_pI (hw_q 12) 5 (some t0) (t1 + t2) σ).bind fun σ73 =>
  (hw_rv (hw_q 12) (some x0) σ73).bind fun a79 =>
  (m12_must x0 (32 : Int32) σ73).bind fun σ79 =>
  (hw_rv (hw_q 12) (some x0) σ79).bind fun a83 =>
  hw_b2 (m12_figures x0 σ79) fun v83 σ83 =>
  (hw_gI (hw_q 12) 7 (some x0) σ83).bind fun v88 =>
  (if v88 = 0 then
  (hw_gP (hw_q 12) 1 (some x0) σ83).bind fun v95 =>
  (hw_gI (hw_q 12) 4 (some x0) σ83).bind fun v103 =>
  (hw_sI v95 ((((172 : Int32) + ((4 : Int32) * v103)) + l1) - (1 : Int32)) v83 σ83).bind fun σ113 =>
  m12_formHere_b114 x0 σ113
  else
  m12_formHere_b114 x0 σ83)
set_option maxRecDepth 100000 in
theorem w12_formHere_b72 {p : Program} {l : Launch} {e : Env} {s : State} {m : MethodId} {args : Array Value} {below : List Frame} {meth : Method} {c : Code} {D : hw_D} {b : Nat} {g : hw_Sd} {τ : hw_S} (C0 : hw_C p s m args meth c D yX12_formHere cX12_formHere 3 none) (hG : hw_G g b s s.heap) {x0 : Nat} {l1 : Int32} {t0 : Nat} {t1 : Int32} {t2 : Int32} {σ : hw_S} {H : Heap} {locs : List Loc} (hm : m12_formHere_b72 x0 l1 t0 t1 t2 σ = some τ) (hR : hw_R D b σ H) (hS : va_S (fun q => b ≤ q) s.heap H locs) {ls : Array Slot} (hl : hw_L ls 3 255 [(0, hw_vr b (some x0)), (1, .int l1)]) : W p l e rm12_formHere s m args below meth c H locs 0 0 (MQ below (hw_QV D b τ) args s 0 0 (fun q => b ≤ q)) (F0 m 72 ls [.int t2, .int t1, hw_vr b (some t0)]) := by
  obtain ⟨hx, hb, hml, hr, hown, hts, hlk, hE, hnm⟩ := id C0
  have hown : s.vm.findClass RX12 = some m.cls := hown
  have hK := hE.1
  unfold m12_formHere_b72 at hm
  refine lv_iadd hx hb dX12_formHere_72 ?_
  obtain ⟨σ73, e73, hm⟩ := hw_bs hm
  refine hw_putI hx hb hw_cf12 hts hown hK hR hS e73 (by decide) rfl rfl (hts _ hw_m360) (fun _ h9 => h9) (Or.inl rfl) dX12_formHere_73 (fun _ _ hR hS => ?_)
  refine hw_aload_n hx hb dX12_formHere_76 rfl (hl.at 0 rfl) ?_
  refine lv_bipush (v := 32) hx hb dX12_formHere_77 (by decide) ?_
  obtain ⟨a79, g79, hm⟩ := hw_bs hm
  obtain ⟨rfl, ht79⟩ := hw_rv_th g79
  obtain ⟨σ79, e79, hm⟩ := hw_bs hm
  refine hw_cWV (va_runV (As := [.int (32 : Int32)]) (rest := []) ⟨hx, hb, hml, hown, hts⟩ (c12_must l D b e79) (cwV 1 hts (hw_gV hw_m381 hw_m382 hw_m383 hw_m5 hw_m384) rfl rfl rfl (by decide +kernel) ⟨(Nat.le_of_ble_eq_true rfl), (Nat.le_of_ble_eq_true rfl)⟩) (hw_preV (ci := 12) hE hR rfl (by decide) (hw_q_of ht79)) rfl rfl hl.sz rfl (lv_room (Nat.le_of_ble_eq_true rfl)) dX12_formHere_79 ⟨(Nat.le_of_ble_eq_true rfl), (Nat.le_of_ble_eq_true rfl)⟩) hS (fun _ _ hR hS => ?_)
  refine hw_aload_n hx hb dX12_formHere_82 rfl (hl.at 0 rfl) ?_
  obtain ⟨a83, g83, hm⟩ := hw_bs hm
  obtain ⟨rfl, ht83⟩ := hw_rv_th g83
  obtain ⟨v83, σ83, e83, hm⟩ := hw_bs2 hm
  refine hw_cWI (va_runV (As := []) (rest := []) ⟨hx, hb, hml, hown, hts⟩ (c12_figures l D b e83) (cwV 0 hts (hw_gV hw_m385 hw_m386 hw_m387 hw_m5 hw_m388) rfl rfl rfl (by decide +kernel) ⟨(Nat.le_of_ble_eq_true rfl), (Nat.le_of_ble_eq_true rfl)⟩) (hw_preV (ci := 12) hE hR rfl (by decide) (hw_q_of ht83)) rfl rfl hl.sz rfl (lv_room (Nat.le_of_ble_eq_true rfl)) dX12_formHere_83 ⟨(Nat.le_of_ble_eq_true rfl), (Nat.le_of_ble_eq_true rfl)⟩) hS (fun _ _ hR hS => ?_)
  refine hw_istore_n (lv' := [(2, .int v83), (0, hw_vr b (some x0)), (1, .int l1)]) hx hb dX12_formHere_86 rfl hl (by decide) (by decide) rfl (fun ls hl => ?_)
  refine hw_aload_n hx hb dX12_formHere_87 rfl (hl.at 1 rfl) ?_
  obtain ⟨v88, e88, hm⟩ := hw_bs hm
  refine hw_getI hx hb hw_cf12 hts hown hK hR e88 (by decide) rfl (hts _ hw_m361) (fun _ h9 => h9) dX12_formHere_88 ?_
  refine lv_if_ne (tgt := 114) hx hb dX12_formHere_91 (by decide) (fun c91 => ?_) (fun c91 => ?_)
  · have hm := hw_in hm c91
    exact w12_formHere_b114 C0 hG hm hR hS (hl.sub [1] rfl)
  · have hm := hw_ip hm c91
    refine hw_aload_n hx hb dX12_formHere_94 rfl (hl.at 1 rfl) ?_
    obtain ⟨v95, e95, hm⟩ := hw_bs hm
    refine hw_getP hx hb hw_cf12 hts hown hK hR e95 (by decide) rfl (hts _ hw_m76) (fun _ h9 => h9) dX12_formHere_95 ?_
    refine lv_sipush (v := 172) hx hb dX12_formHere_98 (by decide) ?_
    refine lv_iconst (v := 4) hx hb dX12_formHere_101 (by decide) ?_
    refine hw_aload_n hx hb dX12_formHere_102 rfl (hl.at 1 rfl) ?_
    obtain ⟨v103, e103, hm⟩ := hw_bs hm
    refine hw_getI hx hb hw_cf12 hts hown hK hR e103 (by decide) rfl (hts _ hw_m358) (fun _ h9 => h9) dX12_formHere_103 ?_
    refine lv_imul hx hb dX12_formHere_106 ?_
    refine lv_iadd hx hb dX12_formHere_107 ?_
    refine lv_iload_n hx hb dX12_formHere_108 rfl (hl.at 2 rfl) ?_
    refine lv_iadd hx hb dX12_formHere_109 ?_
    refine lv_iconst (v := 1) hx hb dX12_formHere_110 (by decide) ?_
    refine lv_isub hx hb dX12_formHere_111 ?_
    refine lv_iload_n hx hb dX12_formHere_112 rfl (hl.at 0 rfl) ?_
    obtain ⟨σ113, e113, hm⟩ := hw_bs hm
    refine hw_iast hx hb hK hR hS e113 dX12_formHere_113 (fun _ _ hR hS => ?_)
    exact w12_formHere_b114 C0 hG hm hR hS (hl.sub [1] rfl)
def m12_formHere_b54 (x0 : Nat) (t0 : Int32) (σ : hw_S) : Option hw_S :=
  (hw_gI (hw_q 12) 5 (some x0) σ).bind fun v57 =>
  (hw_gI (hw_q 12) 7 (some x0) σ).bind fun v61 =>
  (if v61 = 0 then
  m12_formHere_b72 x0 t0 x0 v57 (1 : Int32) σ
  else
  m12_formHere_b72 x0 t0 x0 v57 (0 : Int32) σ)
set_option maxRecDepth 100000 in
theorem w12_formHere_b54 {p : Program} {l : Launch} {e : Env} {s : State} {m : MethodId} {args : Array Value} {below : List Frame} {meth : Method} {c : Code} {D : hw_D} {b : Nat} {g : hw_Sd} {τ : hw_S} (C0 : hw_C p s m args meth c D yX12_formHere cX12_formHere 3 none) (hG : hw_G g b s s.heap) {x0 : Nat} {t0 : Int32} {σ : hw_S} {H : Heap} {locs : List Loc} (hm : m12_formHere_b54 x0 t0 σ = some τ) (hR : hw_R D b σ H) (hS : va_S (fun q => b ≤ q) s.heap H locs) {ls : Array Slot} (hl : hw_L ls 3 255 [(0, hw_vr b (some x0))]) : W p l e rm12_formHere s m args below meth c H locs 0 0 (MQ below (hw_QV D b τ) args s 0 0 (fun q => b ≤ q)) (F0 m 54 ls [.int t0]) := by
  obtain ⟨hx, hb, hml, hr, hown, hts, hlk, hE, hnm⟩ := id C0
  have hown : s.vm.findClass RX12 = some m.cls := hown
  have hK := hE.1
  unfold m12_formHere_b54 at hm
  refine hw_istore_n (lv' := [(1, .int t0), (0, hw_vr b (some x0))]) hx hb dX12_formHere_54 rfl hl (by decide) (by decide) rfl (fun ls hl => ?_)
  refine hw_aload_n hx hb dX12_formHere_55 rfl (hl.at 1 rfl) ?_
  refine lv_dup hx hb dX12_formHere_56 (hw_vr_cat _ _) ?_
  obtain ⟨v57, e57, hm⟩ := hw_bs hm
  refine hw_getI hx hb hw_cf12 hts hown hK hR e57 (by decide) rfl (hts _ hw_m360) (fun _ h9 => h9) dX12_formHere_57 ?_
  refine hw_aload_n hx hb dX12_formHere_60 rfl (hl.at 1 rfl) ?_
  obtain ⟨v61, e61, hm⟩ := hw_bs hm
  refine hw_getI hx hb hw_cf12 hts hown hK hR e61 (by decide) rfl (hts _ hw_m361) (fun _ h9 => h9) dX12_formHere_61 ?_
  refine lv_if_eq (tgt := 71) hx hb dX12_formHere_64 (by decide) (fun c64 => ?_) (fun c64 => ?_)
  · have hm := hw_ip hm c64
    refine lv_iconst (v := 1) hx hb dX12_formHere_71 (by decide) ?_
    exact w12_formHere_b72 C0 hG hm hR hS (hl.sub [1, 0] rfl)
  · have hm := hw_in hm c64
    refine lv_iconst (v := 0) hx hb dX12_formHere_67 (by decide) ?_
    refine lv_goto (tgt := 72) hx hb dX12_formHere_68 (by decide) ?_
    exact w12_formHere_b72 C0 hG hm hR hS (hl.sub [1, 0] rfl)
def m12_formHere_b33 (x0 : Nat) (t0 : Nat) (t1 : Int32) (σ : hw_S) : Option hw_S :=
  (hw_tf t1).bind fun _ =>
  (hw_pI (hw_q 12) 7 (some t0) t1 σ).bind fun σ33 =>
  (hw_gI (hw_q 12) 7 (some x0) σ33).bind fun v37 =>
  (if v37 = 0 then
  (hw_rv (hw_q 12) (some x0) σ33).bind fun a48 =>
  (m12_here x0 σ33).bind fun v48 =>
  m12_formHere_b54 x0 (v48 - (48 : Int32)) σ33
  else
  m12_formHere_b54 x0 (1 : Int32) σ33)
set_option maxRecDepth 100000 in
theorem w12_formHere_b33 {p : Program} {l : Launch} {e : Env} {s : State} {m : MethodId} {args : Array Value} {below : List Frame} {meth : Method} {c : Code} {D : hw_D} {b : Nat} {g : hw_Sd} {τ : hw_S} (C0 : hw_C p s m args meth c D yX12_formHere cX12_formHere 3 none) (hG : hw_G g b s s.heap) {x0 : Nat} {t0 : Nat} {t1 : Int32} {σ : hw_S} {H : Heap} {locs : List Loc} (hm : m12_formHere_b33 x0 t0 t1 σ = some τ) (hR : hw_R D b σ H) (hS : va_S (fun q => b ≤ q) s.heap H locs) {ls : Array Slot} (hl : hw_L ls 3 255 [(0, hw_vr b (some x0))]) : W p l e rm12_formHere s m args below meth c H locs 0 0 (MQ below (hw_QV D b τ) args s 0 0 (fun q => b ≤ q)) (F0 m 33 ls [.int t1, hw_vr b (some t0)]) := by
  obtain ⟨hx, hb, hml, hr, hown, hts, hlk, hE, hnm⟩ := id C0
  have hown : s.vm.findClass RX12 = some m.cls := hown
  have hK := hE.1
  unfold m12_formHere_b33 at hm
  obtain ⟨_, z33, hm⟩ := hw_bs hm
  obtain ⟨σ33, e33, hm⟩ := hw_bs hm
  refine hw_putZ hx hb hw_cf12 hts hown hK hR hS z33 e33 (by decide) rfl rfl (hts _ hw_m361) (fun _ h9 => h9) (Or.inl rfl) dX12_formHere_33 (fun _ _ hR hS => ?_)
  refine hw_aload_n hx hb dX12_formHere_36 rfl (hl.at 0 rfl) ?_
  obtain ⟨v37, e37, hm⟩ := hw_bs hm
  refine hw_getI hx hb hw_cf12 hts hown hK hR e37 (by decide) rfl (hts _ hw_m361) (fun _ h9 => h9) dX12_formHere_37 ?_
  refine lv_if_eq (tgt := 47) hx hb dX12_formHere_40 (by decide) (fun c40 => ?_) (fun c40 => ?_)
  · have hm := hw_ip hm c40
    refine hw_aload_n hx hb dX12_formHere_47 rfl (hl.at 0 rfl) ?_
    obtain ⟨a48, g48, hm⟩ := hw_bs hm
    obtain ⟨rfl, ht48⟩ := hw_rv_th g48
    obtain ⟨v48, e48, hm⟩ := hw_bs hm
    refine hw_cRI (va_runV (As := []) (rest := []) ⟨hx, hb, hml, hown, hts⟩ (c12_here l D b e48) (cwV 0 hts (hw_gV hw_m367 hw_m368 hw_m369 hw_m5 hw_m370) rfl rfl rfl (by decide +kernel) ⟨(Nat.le_of_ble_eq_true rfl), (Nat.le_of_ble_eq_true rfl)⟩) (hw_preV (ci := 12) hE hR rfl (by decide) (hw_q_of ht48)) rfl rfl hl.sz rfl (lv_room (Nat.le_of_ble_eq_true rfl)) dX12_formHere_48 ⟨(Nat.le_of_ble_eq_true rfl), (Nat.le_of_ble_eq_true rfl)⟩) ?_
    refine lv_bipush (v := 48) hx hb dX12_formHere_51 (by decide) ?_
    refine lv_isub hx hb dX12_formHere_53 ?_
    exact w12_formHere_b54 C0 hG hm hR hS (hl.sub [0] rfl)
  · have hm := hw_in hm c40
    refine lv_iconst (v := 1) hx hb dX12_formHere_43 (by decide) ?_
    refine lv_goto (tgt := 54) hx hb dX12_formHere_44 (by decide) ?_
    exact w12_formHere_b54 C0 hG hm hR hS (hl.sub [0] rfl)
def m12_formHere_b28 (x0 : Nat) (t0 : Nat) (σ : hw_S) : Option hw_S :=
  m12_formHere_b33 x0 t0 (1 : Int32) σ
set_option maxRecDepth 100000 in
theorem w12_formHere_b28 {p : Program} {l : Launch} {e : Env} {s : State} {m : MethodId} {args : Array Value} {below : List Frame} {meth : Method} {c : Code} {D : hw_D} {b : Nat} {g : hw_Sd} {τ : hw_S} (C0 : hw_C p s m args meth c D yX12_formHere cX12_formHere 3 none) (hG : hw_G g b s s.heap) {x0 : Nat} {t0 : Nat} {σ : hw_S} {H : Heap} {locs : List Loc} (hm : m12_formHere_b28 x0 t0 σ = some τ) (hR : hw_R D b σ H) (hS : va_S (fun q => b ≤ q) s.heap H locs) {ls : Array Slot} (hl : hw_L ls 3 255 [(0, hw_vr b (some x0))]) : W p l e rm12_formHere s m args below meth c H locs 0 0 (MQ below (hw_QV D b τ) args s 0 0 (fun q => b ≤ q)) (F0 m 28 ls [hw_vr b (some t0)]) := by
  obtain ⟨hx, hb, hml, hr, hown, hts, hlk, hE, hnm⟩ := id C0
  have hown : s.vm.findClass RX12 = some m.cls := hown
  have hK := hE.1
  unfold m12_formHere_b28 at hm
  refine lv_iconst (v := 1) hx hb dX12_formHere_28 (by decide) ?_
  refine lv_goto (tgt := 33) hx hb dX12_formHere_29 (by decide) ?_
  exact w12_formHere_b33 C0 hG hm hR hS (hl.sub [0] rfl)
def m12_formHere (x0 : Nat) (σ : hw_S) : Option hw_S :=
  (hw_rv (hw_q 12) (some x0) σ).bind fun a3 =>
  (m12_spells x0 (some 2) σ).bind fun σ3 =>
  (hw_gI (hw_q 12) 7 (some x0) σ3).bind fun v8 =>
  (if v8 = 0 then
  (hw_rv (hw_q 12) (some x0) σ3).bind fun a15 =>
  (m12_here x0 σ3).bind fun v15 =>
  (m12_in v15 (49 : Int32) (52 : Int32)).bind fun v22 =>
  (if v22 = 0 then
  m12_formHere_b28 x0 x0 σ3
  else
  m12_formHere_b33 x0 x0 (0 : Int32) σ3)
  else
  m12_formHere_b28 x0 x0 σ3)
set_option maxRecDepth 100000 in
theorem w12_formHere_s {p : Program} {l : Launch} {e : Env} {s : State} {m : MethodId} {args : Array Value} {below : List Frame} {meth : Method} {c : Code} {D : hw_D} {b : Nat} {g : hw_Sd} {x0 : Nat} {σ : hw_S} {τ : hw_S} {H : Heap} {locs : List Loc} (hm : m12_formHere x0 σ = some τ) (C0 : hw_C p s m args meth c D yX12_formHere cX12_formHere 3 none) (hG : hw_G g b s s.heap) (hR : hw_R D b σ H) (hS : va_S (fun q => b ≤ q) s.heap H locs) {ls : Array Slot} (hl : hw_L ls 3 255 [(0, hw_vr b (some x0))]) : W p l e rm12_formHere s m args below meth c H locs 0 0 (MQ below (hw_QV D b τ) args s 0 0 (fun q => b ≤ q)) (F0 m 0 ls []) := by
  obtain ⟨hx, hb, hml, hr, hown, hts, hlk, hE, hnm⟩ := id C0
  have hown : s.vm.findClass RX12 = some m.cls := hown
  have hK := hE.1
  unfold m12_formHere at hm
  refine hw_aload_n hx hb dX12_formHere_0 rfl (hl.at 0 rfl) ?_
  refine hw_ldcS (id := 2) hx hb hown hG (List.mem_of_getElem? (i := 7) rfl) dX12_formHere_1 ?_
  obtain ⟨a3, g3, hm⟩ := hw_bs hm
  obtain ⟨rfl, ht3⟩ := hw_rv_th g3
  obtain ⟨σ3, e3, hm⟩ := hw_bs hm
  refine hw_cWV (va_runV (As := [hw_vs g (some 2)]) (rest := []) ⟨hx, hb, hml, hown, hts⟩ (c12_spells l D g b e3) (cwV 1 hts (hw_gV hw_m375 hw_m376 hw_m377 hw_m5 hw_m378) rfl rfl rfl (by decide +kernel) ⟨(Nat.le_of_ble_eq_true rfl), (Nat.le_of_ble_eq_true rfl)⟩) (hw_preV2 (ci := 12) hE hR (hG.at hS) rfl (by decide) (hw_q_of ht3)) rfl rfl hl.sz rfl (lv_room (Nat.le_of_ble_eq_true rfl)) dX12_formHere_3 ⟨(Nat.le_of_ble_eq_true rfl), (Nat.le_of_ble_eq_true rfl)⟩) hS (fun _ _ hR hS => ?_)
  refine hw_aload_n hx hb dX12_formHere_6 rfl (hl.at 0 rfl) ?_
  refine hw_aload_n hx hb dX12_formHere_7 rfl (hl.at 0 rfl) ?_
  obtain ⟨v8, e8, hm⟩ := hw_bs hm
  refine hw_getI hx hb hw_cf12 hts hown hK hR e8 (by decide) rfl (hts _ hw_m361) (fun _ h9 => h9) dX12_formHere_8 ?_
  refine lv_if_ne (tgt := 28) hx hb dX12_formHere_11 (by decide) (fun c11 => ?_) (fun c11 => ?_)
  · have hm := hw_in hm c11
    exact w12_formHere_b28 C0 hG hm hR hS (hl.sub [0] rfl)
  · have hm := hw_ip hm c11
    refine hw_aload_n hx hb dX12_formHere_14 rfl (hl.at 0 rfl) ?_
    obtain ⟨a15, g15, hm⟩ := hw_bs hm
    obtain ⟨rfl, ht15⟩ := hw_rv_th g15
    obtain ⟨v15, e15, hm⟩ := hw_bs hm
    refine hw_cRI (va_runV (As := []) (rest := [hw_vr b (some x0)]) ⟨hx, hb, hml, hown, hts⟩ (c12_here l D b e15) (cwV 0 hts (hw_gV hw_m367 hw_m368 hw_m369 hw_m5 hw_m370) rfl rfl rfl (by decide +kernel) ⟨(Nat.le_of_ble_eq_true rfl), (Nat.le_of_ble_eq_true rfl)⟩) (hw_preV (ci := 12) hE hR rfl (by decide) (hw_q_of ht15)) rfl rfl hl.sz rfl (lv_room (hw_sm (List.forall_mem_cons.mpr ⟨(hw_vr_cat _ _), (fun _ h => absurd h List.not_mem_nil)⟩) (Nat.le_of_ble_eq_true rfl))) dX12_formHere_15 ⟨(Nat.le_of_ble_eq_true rfl), (Nat.le_of_ble_eq_true rfl)⟩) ?_
    refine lv_bipush (v := 49) hx hb dX12_formHere_18 (by decide) ?_
    refine lv_bipush (v := 52) hx hb dX12_formHere_20 (by decide) ?_
    obtain ⟨v22, e22, hm⟩ := hw_bs hm
    refine hw_cRI (va_runS (As := [.int v15, .int (49 : Int32), .int (52 : Int32)]) (rest := [hw_vr b (some x0)]) ⟨hx, hb, hml, hown, hts⟩ (c12_in l D e22) (cwS 3 hts (hw_gS hw_m112 hw_m113 hw_m5 hw_m114) rfl rfl rfl (by decide +kernel) ⟨(Nat.le_of_ble_eq_true rfl), (Nat.le_of_ble_eq_true rfl)⟩) (hw_pre0 hE) rfl rfl hl.sz rfl (lv_room (hw_sm (List.forall_mem_cons.mpr ⟨(hw_vr_cat _ _), (fun _ h => absurd h List.not_mem_nil)⟩) (Nat.le_of_ble_eq_true rfl))) dX12_formHere_22 ⟨(Nat.le_of_ble_eq_true rfl), (Nat.le_of_ble_eq_true rfl)⟩) ?_
    refine lv_if_ne (tgt := 32) hx hb dX12_formHere_25 (by decide) (fun c25 => ?_) (fun c25 => ?_)
    · have hm := hw_in hm c25
      refine lv_iconst (v := 0) hx hb dX12_formHere_32 (by decide) ?_
      exact w12_formHere_b33 C0 hG hm hR hS (hl.sub [0] rfl)
    · have hm := hw_ip hm c25
      exact w12_formHere_b28 C0 hG hm hR hS (hl.sub [0] rfl)
set_option maxRecDepth 100000 in
theorem c12_formHere (l : Launch) (D : hw_D) (g : hw_Sd) (b : Nat) {x0 : Nat} {σ : hw_S} {τ : hw_S} (hm : m12_formHere x0 σ = some τ) : Met l yX12_formHere (Cond.code yX12_formHere cX12_formHere 3 none :: wsL_law) rm12_formHere (hw_P2 D g b σ [hw_vr b (some x0)]) (hw_QV D b τ) 0 0 (fun q => b ≤ q) := by
  refine hw_start2 (by decide +kernel) (by exact Nat.le_of_ble_eq_true rfl) ?_
  intro p e s m below meth c ls C0 hR hS hG hl
  have hl : lv_has ls 3 [(0, hw_vr b (some x0))] := by exact hl
  exact w12_formHere_s hm C0 hG hR hS ⟨hl, (List.forall_mem_cons.mpr ⟨(fun h => by rw [show (hw_vr b (some x0) : Value).category = 1 from (hw_vr_cat _ _)] at h; cases h), (fun _ h => absurd h List.not_mem_nil)⟩)⟩

abbrev rm12_tellsHere : Room := { frames := 5, cells := 0, slots := 0, locals := 109 }
def m12_tellsHere_b29 (x0 : Nat) (σ : hw_S) : Option hw_S :=
  some σ
set_option maxRecDepth 100000 in
theorem w12_tellsHere_b29 {p : Program} {l : Launch} {e : Env} {s : State} {m : MethodId} {args : Array Value} {below : List Frame} {meth : Method} {c : Code} {D : hw_D} {b : Nat} {g : hw_Sd} {τ : hw_S} (C0 : hw_C p s m args meth c D yX12_tellsHere cX12_tellsHere 4 none) (hG : hw_G g b s s.heap) {x0 : Nat} {σ : hw_S} {H : Heap} {locs : List Loc} (hm : m12_tellsHere_b29 x0 σ = some τ) (hR : hw_R D b σ H) (hS : va_S (fun q => b ≤ q) s.heap H locs) {ls : Array Slot} (hl : hw_L ls 4 255 [(0, hw_vr b (some x0))]) : W p l e rm12_tellsHere s m args below meth c H locs 0 0 (MQ below (hw_QV D b τ) args s 0 0 (fun q => b ≤ q)) (F0 m 29 ls []) := by
  obtain ⟨hx, hb, hml, hr, hown, hts, hlk, hE, hnm⟩ := id C0
  have hown : s.vm.findClass RX12 = some m.cls := hown
  have hK := hE.1
  unfold m12_tellsHere_b29 at hm
  exact hw_rWV hx hb hr hlk hR hS hm dX12_tellsHere_29
def m12_tellsHere (x0 : Nat) (l1 : Int32) (l2 : Option Nat) (σ : hw_S) : Option hw_S :=
  (hw_rv (hw_q 12) (some x0) σ).bind fun a2 =>
  (m12_spells x0 l2 σ).bind fun σ2 =>
  (hw_rv (hw_q 12) (some x0) σ2).bind fun a6 =>
  hw_b2 (m12_figures x0 σ2) fun v6 σ6 =>
  (hw_gI (hw_q 12) 7 (some x0) σ6).bind fun v11 =>
  (if v11 = 0 then
  (hw_gP (hw_q 12) 1 (some x0) σ6).bind fun v18 =>
  (hw_gI (hw_q 12) 4 (some x0) σ6).bind fun v23 =>
  (hw_sI v18 (l1 + v23) v6 σ6).bind fun σ28 =>
  m12_tellsHere_b29 x0 σ28
  else
  m12_tellsHere_b29 x0 σ6)
set_option maxRecDepth 100000 in
theorem w12_tellsHere_s {p : Program} {l : Launch} {e : Env} {s : State} {m : MethodId} {args : Array Value} {below : List Frame} {meth : Method} {c : Code} {D : hw_D} {b : Nat} {g : hw_Sd} {x0 : Nat} {l1 : Int32} {l2 : Option Nat} {σ : hw_S} {τ : hw_S} {H : Heap} {locs : List Loc} (hm : m12_tellsHere x0 l1 l2 σ = some τ) (C0 : hw_C p s m args meth c D yX12_tellsHere cX12_tellsHere 4 none) (hG : hw_G g b s s.heap) (hR : hw_R D b σ H) (hS : va_S (fun q => b ≤ q) s.heap H locs) {ls : Array Slot} (hl : hw_L ls 4 255 [(0, hw_vr b (some x0)), (1, .int l1), (2, hw_vs g l2)]) : W p l e rm12_tellsHere s m args below meth c H locs 0 0 (MQ below (hw_QV D b τ) args s 0 0 (fun q => b ≤ q)) (F0 m 0 ls []) := by
  obtain ⟨hx, hb, hml, hr, hown, hts, hlk, hE, hnm⟩ := id C0
  have hown : s.vm.findClass RX12 = some m.cls := hown
  have hK := hE.1
  unfold m12_tellsHere at hm
  refine hw_aload_n hx hb dX12_tellsHere_0 rfl (hl.at 0 rfl) ?_
  refine hw_sload_n hx hb dX12_tellsHere_1 rfl (hl.at 2 rfl) ?_
  obtain ⟨a2, g2, hm⟩ := hw_bs hm
  obtain ⟨rfl, ht2⟩ := hw_rv_th g2
  obtain ⟨σ2, e2, hm⟩ := hw_bs hm
  refine hw_cWV (va_runV (As := [hw_vs g l2]) (rest := []) ⟨hx, hb, hml, hown, hts⟩ (c12_spells l D g b e2) (cwV 1 hts (hw_gV hw_m375 hw_m376 hw_m377 hw_m5 hw_m378) rfl rfl rfl (by decide +kernel) ⟨(Nat.le_of_ble_eq_true rfl), (Nat.le_of_ble_eq_true rfl)⟩) (hw_preV2 (ci := 12) hE hR (hG.at hS) rfl (by decide) (hw_q_of ht2)) rfl rfl hl.sz rfl (lv_room (Nat.le_of_ble_eq_true rfl)) dX12_tellsHere_2 ⟨(Nat.le_of_ble_eq_true rfl), (Nat.le_of_ble_eq_true rfl)⟩) hS (fun _ _ hR hS => ?_)
  refine hw_aload_n hx hb dX12_tellsHere_5 rfl (hl.at 0 rfl) ?_
  obtain ⟨a6, g6, hm⟩ := hw_bs hm
  obtain ⟨rfl, ht6⟩ := hw_rv_th g6
  obtain ⟨v6, σ6, e6, hm⟩ := hw_bs2 hm
  refine hw_cWI (va_runV (As := []) (rest := []) ⟨hx, hb, hml, hown, hts⟩ (c12_figures l D b e6) (cwV 0 hts (hw_gV hw_m385 hw_m386 hw_m387 hw_m5 hw_m388) rfl rfl rfl (by decide +kernel) ⟨(Nat.le_of_ble_eq_true rfl), (Nat.le_of_ble_eq_true rfl)⟩) (hw_preV (ci := 12) hE hR rfl (by decide) (hw_q_of ht6)) rfl rfl hl.sz rfl (lv_room (Nat.le_of_ble_eq_true rfl)) dX12_tellsHere_6 ⟨(Nat.le_of_ble_eq_true rfl), (Nat.le_of_ble_eq_true rfl)⟩) hS (fun _ _ hR hS => ?_)
  refine hw_istore_n (lv' := [(3, .int v6), (0, hw_vr b (some x0)), (1, .int l1), (2, hw_vs g l2)]) hx hb dX12_tellsHere_9 rfl hl (by decide) (by decide) rfl (fun ls hl => ?_)
  refine hw_aload_n hx hb dX12_tellsHere_10 rfl (hl.at 1 rfl) ?_
  obtain ⟨v11, e11, hm⟩ := hw_bs hm
  refine hw_getI hx hb hw_cf12 hts hown hK hR e11 (by decide) rfl (hts _ hw_m361) (fun _ h9 => h9) dX12_tellsHere_11 ?_
  refine lv_if_ne (tgt := 29) hx hb dX12_tellsHere_14 (by decide) (fun c14 => ?_) (fun c14 => ?_)
  · have hm := hw_in hm c14
    exact w12_tellsHere_b29 C0 hG hm hR hS (hl.sub [1] rfl)
  · have hm := hw_ip hm c14
    refine hw_aload_n hx hb dX12_tellsHere_17 rfl (hl.at 1 rfl) ?_
    obtain ⟨v18, e18, hm⟩ := hw_bs hm
    refine hw_getP hx hb hw_cf12 hts hown hK hR e18 (by decide) rfl (hts _ hw_m76) (fun _ h9 => h9) dX12_tellsHere_18 ?_
    refine lv_iload_n hx hb dX12_tellsHere_21 rfl (hl.at 2 rfl) ?_
    refine hw_aload_n hx hb dX12_tellsHere_22 rfl (hl.at 1 rfl) ?_
    obtain ⟨v23, e23, hm⟩ := hw_bs hm
    refine hw_getI hx hb hw_cf12 hts hown hK hR e23 (by decide) rfl (hts _ hw_m358) (fun _ h9 => h9) dX12_tellsHere_23 ?_
    refine lv_iadd hx hb dX12_tellsHere_26 ?_
    refine lv_iload_n hx hb dX12_tellsHere_27 rfl (hl.at 0 rfl) ?_
    obtain ⟨σ28, e28, hm⟩ := hw_bs hm
    refine hw_iast hx hb hK hR hS e28 dX12_tellsHere_28 (fun _ _ hR hS => ?_)
    exact w12_tellsHere_b29 C0 hG hm hR hS (hl.sub [1] rfl)
set_option maxRecDepth 100000 in
theorem c12_tellsHere (l : Launch) (D : hw_D) (g : hw_Sd) (b : Nat) {x0 : Nat} {l1 : Int32} {l2 : Option Nat} {σ : hw_S} {τ : hw_S} (hm : m12_tellsHere x0 l1 l2 σ = some τ) : Met l yX12_tellsHere (Cond.code yX12_tellsHere cX12_tellsHere 4 none :: wsL_law) rm12_tellsHere (hw_P2 D g b σ [hw_vr b (some x0), .int l1, hw_vs g l2]) (hw_QV D b τ) 0 0 (fun q => b ≤ q) := by
  refine hw_start2 (by decide +kernel) (by cases l2 <;> exact Nat.le_of_ble_eq_true rfl) ?_
  intro p e s m below meth c ls C0 hR hS hG hl
  have hl : lv_has ls 4 [(0, hw_vr b (some x0)), (1, .int l1), (2, hw_vs g l2)] := by cases l2 <;> exact hl
  exact w12_tellsHere_s hm C0 hG hR hS ⟨hl, (List.forall_mem_cons.mpr ⟨(fun h => by rw [show (hw_vr b (some x0) : Value).category = 1 from (hw_vr_cat _ _)] at h; cases h), (List.forall_mem_cons.mpr ⟨(fun h => absurd (show (1 : Nat) = 2 from h) (by decide)), (List.forall_mem_cons.mpr ⟨(fun h => by rw [show (hw_vs g l2 : Value).category = 1 from (hw_vs_cat _ _)] at h; cases h), (fun _ h => absurd h List.not_mem_nil)⟩)⟩)⟩)⟩

abbrev rm12_clauseHere : Room := { frames := 44, cells := 0, slots := 0, locals := 959 }
def m12_clauseHere_b115 (x0 : Nat) (σ : hw_S) : Option hw_S :=
  some σ
set_option maxRecDepth 100000 in
theorem w12_clauseHere_b115 {p : Program} {l : Launch} {e : Env} {s : State} {m : MethodId} {args : Array Value} {below : List Frame} {meth : Method} {c : Code} {D : hw_D} {b : Nat} {g : hw_Sd} {τ : hw_S} (C0 : hw_C p s m args meth c D yX12_clauseHere cX12_clauseHere 1 none) (hG : hw_G g b s s.heap) {x0 : Nat} {σ : hw_S} {H : Heap} {locs : List Loc} (hm : m12_clauseHere_b115 x0 σ = some τ) (hR : hw_R D b σ H) (hS : va_S (fun q => b ≤ q) s.heap H locs) {ls : Array Slot} (hl : hw_L ls 1 255 [(0, hw_vr b (some x0))]) : W p l e rm12_clauseHere s m args below meth c H locs 0 0 (MQ below (hw_QV D b τ) args s 0 0 (fun q => b ≤ q)) (F0 m 115 ls []) := by
  obtain ⟨hx, hb, hml, hr, hown, hts, hlk, hE, hnm⟩ := id C0
  have hown : s.vm.findClass RX12 = some m.cls := hown
  have hK := hE.1
  unfold m12_clauseHere_b115 at hm
  exact hw_rWV hx hb hr hlk hR hS hm dX12_clauseHere_115
def m12_clauseHere (x0 : Nat) (σ : hw_S) : Option hw_S :=
  (hw_rv (hw_q 12) (some x0) σ).bind fun a1 =>
  (m12_here x0 σ).bind fun v1 =>
  (if v1 = 99 then
  (hw_rv (hw_q 12) (some x0) σ).bind fun a104 =>
  (m12_tellsHere x0 (164 : Int32) (some 4) σ).bind fun σ104 =>
  m12_clauseHere_b115 x0 σ104
  else
  (if v1 = 101 then
  (hw_rv (hw_q 12) (some x0) σ).bind fun a73 =>
  (m12_much x0 ((-200) : Int32) (some 1) σ).bind fun σ73 =>
  m12_clauseHere_b115 x0 σ73
  else
  (if v1 = 102 then
  (hw_rv (hw_q 12) (some x0) σ).bind fun a80 =>
  (m12_formHere x0 σ).bind fun σ80 =>
  m12_clauseHere_b115 x0 σ80
  else
  (if v1 = 104 then
  (hw_rv (hw_q 12) (some x0) σ).bind fun a92 =>
  (m12_tellsHere x0 (156 : Int32) (some 3) σ).bind fun σ92 =>
  m12_clauseHere_b115 x0 σ92
  else
  (if v1 = 119 then
  (hw_rv (hw_q 12) (some x0) σ).bind fun a61 =>
  (m12_much x0 ((-10) : Int32) (some 0) σ).bind fun σ61 =>
  m12_clauseHere_b115 x0 σ61
  else
  (hw_tf (1 : Int32)).bind fun _ =>
  (hw_pI (hw_q 12) 7 (some x0) (1 : Int32) σ).bind fun σ112 =>
  m12_clauseHere_b115 x0 σ112)))))
set_option maxRecDepth 100000 in
theorem w12_clauseHere_s {p : Program} {l : Launch} {e : Env} {s : State} {m : MethodId} {args : Array Value} {below : List Frame} {meth : Method} {c : Code} {D : hw_D} {b : Nat} {g : hw_Sd} {x0 : Nat} {σ : hw_S} {τ : hw_S} {H : Heap} {locs : List Loc} (hm : m12_clauseHere x0 σ = some τ) (C0 : hw_C p s m args meth c D yX12_clauseHere cX12_clauseHere 1 none) (hG : hw_G g b s s.heap) (hR : hw_R D b σ H) (hS : va_S (fun q => b ≤ q) s.heap H locs) {ls : Array Slot} (hl : hw_L ls 1 255 [(0, hw_vr b (some x0))]) : W p l e rm12_clauseHere s m args below meth c H locs 0 0 (MQ below (hw_QV D b τ) args s 0 0 (fun q => b ≤ q)) (F0 m 0 ls []) := by
  obtain ⟨hx, hb, hml, hr, hown, hts, hlk, hE, hnm⟩ := id C0
  have hown : s.vm.findClass RX12 = some m.cls := hown
  have hK := hE.1
  unfold m12_clauseHere at hm
  refine hw_aload_n hx hb dX12_clauseHere_0 rfl (hl.at 0 rfl) ?_
  obtain ⟨a1, g1, hm⟩ := hw_bs hm
  obtain ⟨rfl, ht1⟩ := hw_rv_th g1
  obtain ⟨v1, e1, hm⟩ := hw_bs hm
  refine hw_cRI (va_runV (As := []) (rest := []) ⟨hx, hb, hml, hown, hts⟩ (c12_here l D b e1) (cwV 0 hts (hw_gV hw_m367 hw_m368 hw_m369 hw_m5 hw_m370) rfl rfl rfl (by decide +kernel) ⟨(Nat.le_of_ble_eq_true rfl), (Nat.le_of_ble_eq_true rfl)⟩) (hw_preV (ci := 12) hE hR rfl (by decide) (hw_q_of ht1)) rfl rfl hl.sz rfl (lv_room (Nat.le_of_ble_eq_true rfl)) dX12_clauseHere_1 ⟨(Nat.le_of_ble_eq_true rfl), (Nat.le_of_ble_eq_true rfl)⟩) ?_
  refine hw_case v1 (99) (fun c4_0 => ?_) (fun c4_0 => ?_)
  · have hm := hw_ip hm c4_0
    refine lv_lookup (off := 94) (tgt := 98) hx hb dX12_clauseHere_4 (by decide) (by rw [c4_0]; decide) (by decide) ?_
    refine hw_aload_n hx hb dX12_clauseHere_98 rfl (hl.at 0 rfl) ?_
    refine lv_sipush (v := 164) hx hb dX12_clauseHere_99 (by decide) ?_
    refine hw_ldcS (id := 4) hx hb hown hG (List.mem_of_getElem? (i := 9) rfl) dX12_clauseHere_102 ?_
    obtain ⟨a104, g104, hm⟩ := hw_bs hm
    obtain ⟨rfl, ht104⟩ := hw_rv_th g104
    obtain ⟨σ104, e104, hm⟩ := hw_bs hm
    refine hw_cWV (va_runV (As := [.int (164 : Int32), hw_vs g (some 4)]) (rest := []) ⟨hx, hb, hml, hown, hts⟩ (c12_tellsHere l D g b e104) (cwV 2 hts (hw_gV hw_m413 hw_m414 hw_m415 hw_m5 hw_m416) rfl rfl rfl (by decide +kernel) ⟨(Nat.le_of_ble_eq_true rfl), (Nat.le_of_ble_eq_true rfl)⟩) (hw_preV2 (ci := 12) hE hR (hG.at hS) rfl (by decide) (hw_q_of ht104)) rfl rfl hl.sz rfl (lv_room (Nat.le_of_ble_eq_true rfl)) dX12_clauseHere_104 ⟨(Nat.le_of_ble_eq_true rfl), (Nat.le_of_ble_eq_true rfl)⟩) hS (fun _ _ hR hS => ?_)
    refine lv_goto (tgt := 115) hx hb dX12_clauseHere_107 (by decide) ?_
    exact w12_clauseHere_b115 C0 hG hm hR hS (hl.sub [0] rfl)
  · have hm := hw_in hm c4_0
    refine hw_case v1 (101) (fun c4_1 => ?_) (fun c4_1 => ?_)
    · have hm := hw_ip hm c4_1
      refine lv_lookup (off := 63) (tgt := 67) hx hb dX12_clauseHere_4 (by decide) (by rw [c4_1]; decide) (by decide) ?_
      refine hw_aload_n hx hb dX12_clauseHere_67 rfl (hl.at 0 rfl) ?_
      refine lv_sipush (v := (-200)) hx hb dX12_clauseHere_68 (by decide) ?_
      refine hw_ldcS (id := 1) hx hb hown hG (List.mem_of_getElem? (i := 6) rfl) dX12_clauseHere_71 ?_
      obtain ⟨a73, g73, hm⟩ := hw_bs hm
      obtain ⟨rfl, ht73⟩ := hw_rv_th g73
      obtain ⟨σ73, e73, hm⟩ := hw_bs hm
      refine hw_cWV (va_runV (As := [.int ((-200) : Int32), hw_vs g (some 1)]) (rest := []) ⟨hx, hb, hml, hown, hts⟩ (c12_much l D g b e73) (cwV 2 hts (hw_gV hw_m371 hw_m372 hw_m373 hw_m5 hw_m374) rfl rfl rfl (by decide +kernel) ⟨(Nat.le_of_ble_eq_true rfl), (Nat.le_of_ble_eq_true rfl)⟩) (hw_preV2 (ci := 12) hE hR (hG.at hS) rfl (by decide) (hw_q_of ht73)) rfl rfl hl.sz rfl (lv_room (Nat.le_of_ble_eq_true rfl)) dX12_clauseHere_73 ⟨(Nat.le_of_ble_eq_true rfl), (Nat.le_of_ble_eq_true rfl)⟩) hS (fun _ _ hR hS => ?_)
      refine lv_goto (tgt := 115) hx hb dX12_clauseHere_76 (by decide) ?_
      exact w12_clauseHere_b115 C0 hG hm hR hS (hl.sub [0] rfl)
    · have hm := hw_in hm c4_1
      refine hw_case v1 (102) (fun c4_2 => ?_) (fun c4_2 => ?_)
      · have hm := hw_ip hm c4_2
        refine lv_lookup (off := 75) (tgt := 79) hx hb dX12_clauseHere_4 (by decide) (by rw [c4_2]; decide) (by decide) ?_
        refine hw_aload_n hx hb dX12_clauseHere_79 rfl (hl.at 0 rfl) ?_
        obtain ⟨a80, g80, hm⟩ := hw_bs hm
        obtain ⟨rfl, ht80⟩ := hw_rv_th g80
        obtain ⟨σ80, e80, hm⟩ := hw_bs hm
        refine hw_cWV (va_runV (As := []) (rest := []) ⟨hx, hb, hml, hown, hts⟩ (c12_formHere l D g b e80) (cwV 0 hts (hw_gV hw_m409 hw_m410 hw_m411 hw_m5 hw_m412) rfl rfl rfl (by decide +kernel) ⟨(Nat.le_of_ble_eq_true rfl), (Nat.le_of_ble_eq_true rfl)⟩) (hw_preV2 (ci := 12) hE hR (hG.at hS) rfl (by decide) (hw_q_of ht80)) rfl rfl hl.sz rfl (lv_room (Nat.le_of_ble_eq_true rfl)) dX12_clauseHere_80 ⟨(Nat.le_of_ble_eq_true rfl), (Nat.le_of_ble_eq_true rfl)⟩) hS (fun _ _ hR hS => ?_)
        refine lv_goto (tgt := 115) hx hb dX12_clauseHere_83 (by decide) ?_
        exact w12_clauseHere_b115 C0 hG hm hR hS (hl.sub [0] rfl)
      · have hm := hw_in hm c4_2
        refine hw_case v1 (104) (fun c4_3 => ?_) (fun c4_3 => ?_)
        · have hm := hw_ip hm c4_3
          refine lv_lookup (off := 82) (tgt := 86) hx hb dX12_clauseHere_4 (by decide) (by rw [c4_3]; decide) (by decide) ?_
          refine hw_aload_n hx hb dX12_clauseHere_86 rfl (hl.at 0 rfl) ?_
          refine lv_sipush (v := 156) hx hb dX12_clauseHere_87 (by decide) ?_
          refine hw_ldcS (id := 3) hx hb hown hG (List.mem_of_getElem? (i := 8) rfl) dX12_clauseHere_90 ?_
          obtain ⟨a92, g92, hm⟩ := hw_bs hm
          obtain ⟨rfl, ht92⟩ := hw_rv_th g92
          obtain ⟨σ92, e92, hm⟩ := hw_bs hm
          refine hw_cWV (va_runV (As := [.int (156 : Int32), hw_vs g (some 3)]) (rest := []) ⟨hx, hb, hml, hown, hts⟩ (c12_tellsHere l D g b e92) (cwV 2 hts (hw_gV hw_m413 hw_m414 hw_m415 hw_m5 hw_m416) rfl rfl rfl (by decide +kernel) ⟨(Nat.le_of_ble_eq_true rfl), (Nat.le_of_ble_eq_true rfl)⟩) (hw_preV2 (ci := 12) hE hR (hG.at hS) rfl (by decide) (hw_q_of ht92)) rfl rfl hl.sz rfl (lv_room (Nat.le_of_ble_eq_true rfl)) dX12_clauseHere_92 ⟨(Nat.le_of_ble_eq_true rfl), (Nat.le_of_ble_eq_true rfl)⟩) hS (fun _ _ hR hS => ?_)
          refine lv_goto (tgt := 115) hx hb dX12_clauseHere_95 (by decide) ?_
          exact w12_clauseHere_b115 C0 hG hm hR hS (hl.sub [0] rfl)
        · have hm := hw_in hm c4_3
          refine hw_case v1 (119) (fun c4_4 => ?_) (fun c4_4 => ?_)
          · have hm := hw_ip hm c4_4
            refine lv_lookup (off := 52) (tgt := 56) hx hb dX12_clauseHere_4 (by decide) (by rw [c4_4]; decide) (by decide) ?_
            refine hw_aload_n hx hb dX12_clauseHere_56 rfl (hl.at 0 rfl) ?_
            refine lv_bipush (v := (-10)) hx hb dX12_clauseHere_57 (by decide) ?_
            refine hw_ldcS (id := 0) hx hb hown hG (List.mem_of_getElem? (i := 5) rfl) dX12_clauseHere_59 ?_
            obtain ⟨a61, g61, hm⟩ := hw_bs hm
            obtain ⟨rfl, ht61⟩ := hw_rv_th g61
            obtain ⟨σ61, e61, hm⟩ := hw_bs hm
            refine hw_cWV (va_runV (As := [.int ((-10) : Int32), hw_vs g (some 0)]) (rest := []) ⟨hx, hb, hml, hown, hts⟩ (c12_much l D g b e61) (cwV 2 hts (hw_gV hw_m371 hw_m372 hw_m373 hw_m5 hw_m374) rfl rfl rfl (by decide +kernel) ⟨(Nat.le_of_ble_eq_true rfl), (Nat.le_of_ble_eq_true rfl)⟩) (hw_preV2 (ci := 12) hE hR (hG.at hS) rfl (by decide) (hw_q_of ht61)) rfl rfl hl.sz rfl (lv_room (Nat.le_of_ble_eq_true rfl)) dX12_clauseHere_61 ⟨(Nat.le_of_ble_eq_true rfl), (Nat.le_of_ble_eq_true rfl)⟩) hS (fun _ _ hR hS => ?_)
            refine lv_goto (tgt := 115) hx hb dX12_clauseHere_64 (by decide) ?_
            exact w12_clauseHere_b115 C0 hG hm hR hS (hl.sub [0] rfl)
          · have hm := hw_in hm c4_4
            refine lv_lookup (off := 106) (tgt := 110) hx hb dX12_clauseHere_4 (by decide) (by show Op.lookupswitch.offset [(99, 94), (101, 63), (102, 75), (104, 82), (119, 52)] _ _ = _; rw [lv_osw c4_0 (a := 99) rfl, lv_osw c4_1 (a := 101) rfl, lv_osw c4_2 (a := 102) rfl, lv_osw c4_3 (a := 104) rfl, lv_osw c4_4 (a := 119) rfl]; rfl) (by decide) ?_
            refine hw_aload_n hx hb dX12_clauseHere_110 rfl (hl.at 0 rfl) ?_
            refine lv_iconst (v := 1) hx hb dX12_clauseHere_111 (by decide) ?_
            obtain ⟨_, z112, hm⟩ := hw_bs hm
            obtain ⟨σ112, e112, hm⟩ := hw_bs hm
            refine hw_putZ hx hb hw_cf12 hts hown hK hR hS z112 e112 (by decide) rfl rfl (hts _ hw_m361) (fun _ h9 => h9) (Or.inl rfl) dX12_clauseHere_112 (fun _ _ hR hS => ?_)
            exact w12_clauseHere_b115 C0 hG hm hR hS (hl.sub [0] rfl)
set_option maxRecDepth 100000 in
theorem c12_clauseHere (l : Launch) (D : hw_D) (g : hw_Sd) (b : Nat) {x0 : Nat} {σ : hw_S} {τ : hw_S} (hm : m12_clauseHere x0 σ = some τ) : Met l yX12_clauseHere (Cond.code yX12_clauseHere cX12_clauseHere 1 none :: wsL_law) rm12_clauseHere (hw_P2 D g b σ [hw_vr b (some x0)]) (hw_QV D b τ) 0 0 (fun q => b ≤ q) := by
  refine hw_start2 (by decide +kernel) (by exact Nat.le_of_ble_eq_true rfl) ?_
  intro p e s m below meth c ls C0 hR hS hG hl
  have hl : lv_has ls 1 [(0, hw_vr b (some x0))] := by exact hl
  exact w12_clauseHere_s hm C0 hG hR hS ⟨hl, (List.forall_mem_cons.mpr ⟨(fun h => by rw [show (hw_vr b (some x0) : Value).category = 1 from (hw_vr_cat _ _)] at h; cases h), (fun _ h => absurd h List.not_mem_nil)⟩)⟩

abbrev rm12_law : Room := { frames := 45, cells := 0, slots := 0, locals := 979 }
def m12_law_b253 (x0 : Nat) (σ : hw_S) : Option (Int32 × hw_S) :=
  (hw_gI (hw_q 12) 5 (some x0) σ).bind fun v256 =>
  some ((((-10) : Int32) - v256), σ)
set_option maxRecDepth 100000 in
theorem w12_law_b253 {p : Program} {l : Launch} {e : Env} {s : State} {m : MethodId} {args : Array Value} {below : List Frame} {meth : Method} {c : Code} {D : hw_D} {b : Nat} {g : hw_Sd} {r : Int32} {τ : hw_S} (C0 : hw_C p s m args meth c D yX12_law cX12_law 4 (some .int)) (hG : hw_G g b s s.heap) {x0 : Nat} {σ : hw_S} {H : Heap} {locs : List Loc} (hm : m12_law_b253 x0 σ = some (r, τ)) (hR : hw_R D b σ H) (hS : va_S (fun q => b ≤ q) s.heap H locs) {ls : Array Slot} (hl : hw_L ls 4 255 [(0, hw_vr b (some x0))]) : W p l e rm12_law s m args below meth c H locs 0 0 (MQ below (hw_QI D b τ r) args s 0 0 (fun q => b ≤ q)) (F0 m 253 ls []) := by
  obtain ⟨hx, hb, hml, hr, hown, hts, hlk, hE, hnm⟩ := id C0
  have hown : s.vm.findClass RX12 = some m.cls := hown
  have hK := hE.1
  unfold m12_law_b253 at hm
  refine lv_bipush (v := (-10)) hx hb dX12_law_253 (by decide) ?_
  refine hw_aload_n hx hb dX12_law_255 rfl (hl.at 0 rfl) ?_
  obtain ⟨v256, e256, hm⟩ := hw_bs hm
  refine hw_getI hx hb hw_cf12 hts hown hK hR e256 (by decide) rfl (hts _ hw_m360) (fun _ h9 => h9) dX12_law_256 ?_
  refine lv_isub hx hb dX12_law_259 ?_
  exact hw_rWI hx hb hr hlk hR hS hm dX12_law_260
def m12_law_b235 (x0 : Nat) (σ : hw_S) : Option (Int32 × hw_S) :=
  (hw_gI (hw_q 12) 7 (some x0) σ).bind fun v236 =>
  (if v236 = 0 then
  (hw_gI (hw_q 12) 5 (some x0) σ).bind fun v243 =>
  (hw_gI (hw_q 12) 6 (some x0) σ).bind fun v247 =>
  (if v243 = v247 then
  (hw_gP (hw_q 12) 1 (some x0) σ).bind fun v262 =>
  (hw_aI 0 v262 (1 : Int32) σ).bind fun v267 =>
  (hw_sI v262 (1 : Int32) (v267 + (1 : Int32)) σ).bind fun σ270 =>
  (hw_gI (hw_q 12) 4 (some x0) σ270).bind fun v272 =>
  some (v272, σ270)
  else
  m12_law_b253 x0 σ)
  else
  m12_law_b253 x0 σ)
set_option maxRecDepth 100000 in
theorem w12_law_b235 {p : Program} {l : Launch} {e : Env} {s : State} {m : MethodId} {args : Array Value} {below : List Frame} {meth : Method} {c : Code} {D : hw_D} {b : Nat} {g : hw_Sd} {r : Int32} {τ : hw_S} (C0 : hw_C p s m args meth c D yX12_law cX12_law 4 (some .int)) (hG : hw_G g b s s.heap) {x0 : Nat} {σ : hw_S} {H : Heap} {locs : List Loc} (hm : m12_law_b235 x0 σ = some (r, τ)) (hR : hw_R D b σ H) (hS : va_S (fun q => b ≤ q) s.heap H locs) {ls : Array Slot} (hl : hw_L ls 4 255 [(0, hw_vr b (some x0))]) : W p l e rm12_law s m args below meth c H locs 0 0 (MQ below (hw_QI D b τ r) args s 0 0 (fun q => b ≤ q)) (F0 m 235 ls []) := by
  obtain ⟨hx, hb, hml, hr, hown, hts, hlk, hE, hnm⟩ := id C0
  have hown : s.vm.findClass RX12 = some m.cls := hown
  have hK := hE.1
  unfold m12_law_b235 at hm
  refine hw_aload_n hx hb dX12_law_235 rfl (hl.at 0 rfl) ?_
  obtain ⟨v236, e236, hm⟩ := hw_bs hm
  refine hw_getI hx hb hw_cf12 hts hown hK hR e236 (by decide) rfl (hts _ hw_m361) (fun _ h9 => h9) dX12_law_236 ?_
  refine lv_if_ne (tgt := 253) hx hb dX12_law_239 (by decide) (fun c239 => ?_) (fun c239 => ?_)
  · have hm := hw_in hm c239
    exact w12_law_b253 C0 hG hm hR hS (hl.sub [0] rfl)
  · have hm := hw_ip hm c239
    refine hw_aload_n hx hb dX12_law_242 rfl (hl.at 0 rfl) ?_
    obtain ⟨v243, e243, hm⟩ := hw_bs hm
    refine hw_getI hx hb hw_cf12 hts hown hK hR e243 (by decide) rfl (hts _ hw_m360) (fun _ h9 => h9) dX12_law_243 ?_
    refine hw_aload_n hx hb dX12_law_246 rfl (hl.at 0 rfl) ?_
    obtain ⟨v247, e247, hm⟩ := hw_bs hm
    refine hw_getI hx hb hw_cf12 hts hown hK hR e247 (by decide) rfl (hts _ hw_m359) (fun _ h9 => h9) dX12_law_247 ?_
    refine lv_icmp_eq (tgt := 261) hx hb dX12_law_250 (by decide) (fun c250 => ?_) (fun c250 => ?_)
    · have hm := hw_ip hm c250
      refine hw_aload_n hx hb dX12_law_261 rfl (hl.at 0 rfl) ?_
      obtain ⟨v262, e262, hm⟩ := hw_bs hm
      refine hw_getP hx hb hw_cf12 hts hown hK hR e262 (by decide) rfl (hts _ hw_m76) (fun _ h9 => h9) dX12_law_262 ?_
      refine lv_iconst (v := 1) hx hb dX12_law_265 (by decide) ?_
      refine lv_dup2_11 hx hb dX12_law_266 rfl (hw_vr_cat _ _) ?_
      obtain ⟨v267, e267, hm⟩ := hw_bs hm
      refine hw_iald hx hb hK hR e267 dX12_law_267 ?_
      refine lv_iconst (v := 1) hx hb dX12_law_268 (by decide) ?_
      refine lv_iadd hx hb dX12_law_269 ?_
      obtain ⟨σ270, e270, hm⟩ := hw_bs hm
      refine hw_iast hx hb hK hR hS e270 dX12_law_270 (fun _ _ hR hS => ?_)
      refine hw_aload_n hx hb dX12_law_271 rfl (hl.at 0 rfl) ?_
      obtain ⟨v272, e272, hm⟩ := hw_bs hm
      refine hw_getI hx hb hw_cf12 hts hown hK hR e272 (by decide) rfl (hts _ hw_m358) (fun _ h9 => h9) dX12_law_272 ?_
      exact hw_rWI hx hb hr hlk hR hS hm dX12_law_275
    · have hm := hw_in hm c250
      exact w12_law_b253 C0 hG hm hR hS (hl.sub [0] rfl)
def m12_law_b193 : Nat → Nat → Int32 → hw_S → Option (Int32 × hw_S)
  | 0, _, _, _ => none
  | n + 1, x0, l3, σ =>
  (hw_gI (hw_q 12) 7 (some x0) σ).bind fun v194 =>
  (if v194 = 0 then
  (if (10 : Int32) ≤ l3 then
  m12_law_b235 x0 σ
  else
  (hw_rv (hw_q 12) (some x0) σ).bind fun a207 =>
  (m12_here x0 σ).bind fun v207 =>
  (if v207 = (59 : Int32) then
  (hw_gI (hw_q 12) 5 (some x0) σ).bind fun v217 =>
  (hw_pI (hw_q 12) 5 (some x0) (v217 + (1 : Int32)) σ).bind fun σ222 =>
  (hw_rv (hw_q 12) (some x0) σ222).bind fun a226 =>
  (m12_clauseHere x0 σ222).bind fun σ226 =>
  m12_law_b193 n x0 (l3 + 1) σ226
  else
  m12_law_b235 x0 σ))
  else
  m12_law_b235 x0 σ)
set_option maxRecDepth 100000 in
theorem w12_law_b193 {p : Program} {l : Launch} {e : Env} {s : State} {m : MethodId} {args : Array Value} {below : List Frame} {meth : Method} {c : Code} {D : hw_D} {b : Nat} {g : hw_Sd} {r : Int32} {τ : hw_S} (C0 : hw_C p s m args meth c D yX12_law cX12_law 4 (some .int)) (hG : hw_G g b s s.heap) : ∀ (n : Nat) {x0 : Nat} {l3 : Int32} {σ : hw_S} {H : Heap} {locs : List Loc} {ls : Array Slot}, m12_law_b193 n x0 l3 σ = some (r, τ) → hw_R D b σ H → va_S (fun q => b ≤ q) s.heap H locs → hw_L ls 4 255 [(0, hw_vr b (some x0)), (3, .int l3)] → W p l e rm12_law s m args below meth c H locs 0 0 (MQ below (hw_QI D b τ r) args s 0 0 (fun q => b ≤ q)) (F0 m 193 ls []) := by
  obtain ⟨hx, hb, hml, hr, hown, hts, hlk, hE, hnm⟩ := id C0
  have hown : s.vm.findClass RX12 = some m.cls := hown
  have hK := hE.1
  intro n
  induction n with
  | zero => intro _ _ _ _ _ _ hm; cases hm
  | succ n ih =>
    intro x0 l3 σ H locs ls hm hR hS hl
    rw [m12_law_b193] at hm
    refine hw_aload_n hx hb dX12_law_193 rfl (hl.at 0 rfl) ?_
    obtain ⟨v194, e194, hm⟩ := hw_bs hm
    refine hw_getI hx hb hw_cf12 hts hown hK hR e194 (by decide) rfl (hts _ hw_m361) (fun _ h9 => h9) dX12_law_194 ?_
    refine lv_if_ne (tgt := 235) hx hb dX12_law_197 (by decide) (fun c197 => ?_) (fun c197 => ?_)
    · have hm := hw_in hm c197
      exact w12_law_b235 C0 hG hm hR hS (hl.sub [0] rfl)
    · have hm := hw_ip hm c197
      refine lv_iload_n hx hb dX12_law_200 rfl (hl.at 1 rfl) ?_
      refine lv_bipush (v := 10) hx hb dX12_law_201 (by decide) ?_
      refine lv_icmp_ge (tgt := 235) hx hb dX12_law_203 (by decide) (fun c203 => ?_) (fun c203 => ?_)
      · have hm := hw_ip hm c203
        exact w12_law_b235 C0 hG hm hR hS (hl.sub [0] rfl)
      · have hm := hw_in hm c203
        refine hw_aload_n hx hb dX12_law_206 rfl (hl.at 0 rfl) ?_
        obtain ⟨a207, g207, hm⟩ := hw_bs hm
        obtain ⟨rfl, ht207⟩ := hw_rv_th g207
        obtain ⟨v207, e207, hm⟩ := hw_bs hm
        refine hw_cRI (va_runV (As := []) (rest := []) ⟨hx, hb, hml, hown, hts⟩ (c12_here l D b e207) (cwV 0 hts (hw_gV hw_m367 hw_m368 hw_m369 hw_m5 hw_m370) rfl rfl rfl (by decide +kernel) ⟨(Nat.le_of_ble_eq_true rfl), (Nat.le_of_ble_eq_true rfl)⟩) (hw_preV (ci := 12) hE hR rfl (by decide) (hw_q_of ht207)) rfl rfl hl.sz rfl (lv_room (Nat.le_of_ble_eq_true rfl)) dX12_law_207 ⟨(Nat.le_of_ble_eq_true rfl), (Nat.le_of_ble_eq_true rfl)⟩) ?_
        refine lv_bipush (v := 59) hx hb dX12_law_210 (by decide) ?_
        refine lv_icmp_ne (tgt := 235) hx hb dX12_law_212 (by decide) (fun c212 => ?_) (fun c212 => ?_)
        · have hm := hw_in hm c212
          exact w12_law_b235 C0 hG hm hR hS (hl.sub [0] rfl)
        · have hm := hw_ip hm c212
          refine hw_aload_n hx hb dX12_law_215 rfl (hl.at 0 rfl) ?_
          refine lv_dup hx hb dX12_law_216 (hw_vr_cat _ _) ?_
          obtain ⟨v217, e217, hm⟩ := hw_bs hm
          refine hw_getI hx hb hw_cf12 hts hown hK hR e217 (by decide) rfl (hts _ hw_m360) (fun _ h9 => h9) dX12_law_217 ?_
          refine lv_iconst (v := 1) hx hb dX12_law_220 (by decide) ?_
          refine lv_iadd hx hb dX12_law_221 ?_
          obtain ⟨σ222, e222, hm⟩ := hw_bs hm
          refine hw_putI hx hb hw_cf12 hts hown hK hR hS e222 (by decide) rfl rfl (hts _ hw_m360) (fun _ h9 => h9) (Or.inl rfl) dX12_law_222 (fun _ _ hR hS => ?_)
          refine hw_aload_n hx hb dX12_law_225 rfl (hl.at 0 rfl) ?_
          obtain ⟨a226, g226, hm⟩ := hw_bs hm
          obtain ⟨rfl, ht226⟩ := hw_rv_th g226
          obtain ⟨σ226, e226, hm⟩ := hw_bs hm
          refine hw_cWV (va_runV (As := []) (rest := []) ⟨hx, hb, hml, hown, hts⟩ (c12_clauseHere l D g b e226) (cwV 0 hts (hw_gV hw_m363 hw_m364 hw_m365 hw_m5 hw_m366) rfl rfl rfl (by decide +kernel) ⟨(Nat.le_of_ble_eq_true rfl), (Nat.le_of_ble_eq_true rfl)⟩) (hw_preV2 (ci := 12) hE hR (hG.at hS) rfl (by decide) (hw_q_of ht226)) rfl rfl hl.sz rfl (lv_room (Nat.le_of_ble_eq_true rfl)) dX12_law_226 ⟨(Nat.le_of_ble_eq_true rfl), (Nat.le_of_ble_eq_true rfl)⟩) hS (fun _ _ hR hS => ?_)
          refine hw_iinc (v := (l3 + 1)) (lv' := [(3, .int (l3 + 1)), (0, hw_vr b (some x0))]) hx hb dX12_law_229 hl (k := 1) rfl rfl (by decide) (by decide) rfl (fun ls hl => ?_)
          refine lv_goto (tgt := 193) hx hb dX12_law_232 (by decide) ?_
          exact ih hm hR hS (hl.sub [1, 0] rfl)
def m12_law_b139 : Nat → Nat → Int32 → hw_S → Option (Int32 × hw_S)
  | 0, _, _, _ => none
  | n + 1, x0, l3, σ =>
  (if (4 : Int32) ≤ l3 then
  (hw_pI (hw_q 12) 5 (some x0) (0 : Int32) σ).bind fun σ174 =>
  (hw_tf (0 : Int32)).bind fun _ =>
  (hw_pI (hw_q 12) 7 (some x0) (0 : Int32) σ174).bind fun σ179 =>
  (hw_pI (hw_q 12) 8 (some x0) (0 : Int32) σ179).bind fun σ184 =>
  (hw_rv (hw_q 12) (some x0) σ184).bind fun a190 =>
  (m12_clauseHere x0 σ184).bind fun σ190 =>
  m12_law_b193 hw_fu x0 (1 : Int32) σ190
  else
  (hw_gP (hw_q 12) 1 (some x0) σ).bind fun v145 =>
  (hw_gI (hw_q 12) 4 (some x0) σ).bind fun v153 =>
  (hw_sI v145 (((172 : Int32) + ((4 : Int32) * v153)) + l3) (((3 : Int32) * l3) + (3 : Int32)) σ).bind fun σ165 =>
  m12_law_b139 n x0 (l3 + 1) σ165)
set_option maxRecDepth 100000 in
theorem w12_law_b139 {p : Program} {l : Launch} {e : Env} {s : State} {m : MethodId} {args : Array Value} {below : List Frame} {meth : Method} {c : Code} {D : hw_D} {b : Nat} {g : hw_Sd} {r : Int32} {τ : hw_S} (C0 : hw_C p s m args meth c D yX12_law cX12_law 4 (some .int)) (hG : hw_G g b s s.heap) : ∀ (n : Nat) {x0 : Nat} {l3 : Int32} {σ : hw_S} {H : Heap} {locs : List Loc} {ls : Array Slot}, m12_law_b139 n x0 l3 σ = some (r, τ) → hw_R D b σ H → va_S (fun q => b ≤ q) s.heap H locs → hw_L ls 4 255 [(0, hw_vr b (some x0)), (3, .int l3)] → W p l e rm12_law s m args below meth c H locs 0 0 (MQ below (hw_QI D b τ r) args s 0 0 (fun q => b ≤ q)) (F0 m 139 ls []) := by
  obtain ⟨hx, hb, hml, hr, hown, hts, hlk, hE, hnm⟩ := id C0
  have hown : s.vm.findClass RX12 = some m.cls := hown
  have hK := hE.1
  intro n
  induction n with
  | zero => intro _ _ _ _ _ _ hm; cases hm
  | succ n ih =>
    intro x0 l3 σ H locs ls hm hR hS hl
    rw [m12_law_b139] at hm
    refine lv_iload_n hx hb dX12_law_139 rfl (hl.at 1 rfl) ?_
    refine lv_iconst (v := 4) hx hb dX12_law_140 (by decide) ?_
    refine lv_icmp_ge (tgt := 172) hx hb dX12_law_141 (by decide) (fun c141 => ?_) (fun c141 => ?_)
    · have hm := hw_ip hm c141
      refine hw_aload_n hx hb dX12_law_172 rfl (hl.at 0 rfl) ?_
      refine lv_iconst (v := 0) hx hb dX12_law_173 (by decide) ?_
      obtain ⟨σ174, e174, hm⟩ := hw_bs hm
      refine hw_putI hx hb hw_cf12 hts hown hK hR hS e174 (by decide) rfl rfl (hts _ hw_m360) (fun _ h9 => h9) (Or.inl rfl) dX12_law_174 (fun _ _ hR hS => ?_)
      refine hw_aload_n hx hb dX12_law_177 rfl (hl.at 0 rfl) ?_
      refine lv_iconst (v := 0) hx hb dX12_law_178 (by decide) ?_
      obtain ⟨_, z179, hm⟩ := hw_bs hm
      obtain ⟨σ179, e179, hm⟩ := hw_bs hm
      refine hw_putZ hx hb hw_cf12 hts hown hK hR hS z179 e179 (by decide) rfl rfl (hts _ hw_m361) (fun _ h9 => h9) (Or.inl rfl) dX12_law_179 (fun _ _ hR hS => ?_)
      refine hw_aload_n hx hb dX12_law_182 rfl (hl.at 0 rfl) ?_
      refine lv_iconst (v := 0) hx hb dX12_law_183 (by decide) ?_
      obtain ⟨σ184, e184, hm⟩ := hw_bs hm
      refine hw_putI hx hb hw_cf12 hts hown hK hR hS e184 (by decide) rfl rfl (hts _ hw_m362) (fun _ h9 => h9) (Or.inl rfl) dX12_law_184 (fun _ _ hR hS => ?_)
      refine lv_iconst (v := 1) hx hb dX12_law_187 (by decide) ?_
      refine hw_istore_n (lv' := [(3, .int (1 : Int32)), (0, hw_vr b (some x0))]) hx hb dX12_law_188 rfl hl (by decide) (by decide) rfl (fun ls hl => ?_)
      refine hw_aload_n hx hb dX12_law_189 rfl (hl.at 1 rfl) ?_
      obtain ⟨a190, g190, hm⟩ := hw_bs hm
      obtain ⟨rfl, ht190⟩ := hw_rv_th g190
      obtain ⟨σ190, e190, hm⟩ := hw_bs hm
      refine hw_cWV (va_runV (As := []) (rest := []) ⟨hx, hb, hml, hown, hts⟩ (c12_clauseHere l D g b e190) (cwV 0 hts (hw_gV hw_m363 hw_m364 hw_m365 hw_m5 hw_m366) rfl rfl rfl (by decide +kernel) ⟨(Nat.le_of_ble_eq_true rfl), (Nat.le_of_ble_eq_true rfl)⟩) (hw_preV2 (ci := 12) hE hR (hG.at hS) rfl (by decide) (hw_q_of ht190)) rfl rfl hl.sz rfl (lv_room (Nat.le_of_ble_eq_true rfl)) dX12_law_190 ⟨(Nat.le_of_ble_eq_true rfl), (Nat.le_of_ble_eq_true rfl)⟩) hS (fun _ _ hR hS => ?_)
      exact w12_law_b193 C0 hG hw_fu hm hR hS (hl.sub [1, 0] rfl)
    · have hm := hw_in hm c141
      refine hw_aload_n hx hb dX12_law_144 rfl (hl.at 0 rfl) ?_
      obtain ⟨v145, e145, hm⟩ := hw_bs hm
      refine hw_getP hx hb hw_cf12 hts hown hK hR e145 (by decide) rfl (hts _ hw_m76) (fun _ h9 => h9) dX12_law_145 ?_
      refine lv_sipush (v := 172) hx hb dX12_law_148 (by decide) ?_
      refine lv_iconst (v := 4) hx hb dX12_law_151 (by decide) ?_
      refine hw_aload_n hx hb dX12_law_152 rfl (hl.at 0 rfl) ?_
      obtain ⟨v153, e153, hm⟩ := hw_bs hm
      refine hw_getI hx hb hw_cf12 hts hown hK hR e153 (by decide) rfl (hts _ hw_m358) (fun _ h9 => h9) dX12_law_153 ?_
      refine lv_imul hx hb dX12_law_156 ?_
      refine lv_iadd hx hb dX12_law_157 ?_
      refine lv_iload_n hx hb dX12_law_158 rfl (hl.at 1 rfl) ?_
      refine lv_iadd hx hb dX12_law_159 ?_
      refine lv_iconst (v := 3) hx hb dX12_law_160 (by decide) ?_
      refine lv_iload_n hx hb dX12_law_161 rfl (hl.at 1 rfl) ?_
      refine lv_imul hx hb dX12_law_162 ?_
      refine lv_iconst (v := 3) hx hb dX12_law_163 (by decide) ?_
      refine lv_iadd hx hb dX12_law_164 ?_
      obtain ⟨σ165, e165, hm⟩ := hw_bs hm
      refine hw_iast hx hb hK hR hS e165 dX12_law_165 (fun _ _ hR hS => ?_)
      refine hw_iinc (v := (l3 + 1)) (lv' := [(3, .int (l3 + 1)), (0, hw_vr b (some x0))]) hx hb dX12_law_166 hl (k := 1) rfl rfl (by decide) (by decide) rfl (fun ls hl => ?_)
      refine lv_goto (tgt := 139) hx hb dX12_law_169 (by decide) ?_
      exact ih hm hR hS (hl.sub [1, 0] rfl)
def m12_law (x0 : Nat) (l1 : Int32) (l2 : Int32) (σ : hw_S) : Option (Int32 × hw_S) :=
  (m12_in l1 (0 : Int32) (6 : Int32)).bind fun v4 =>
  (if v4 = 0 then
  some (((-1) : Int32), σ)
  else
  (m12_in l2 (1 : Int32) (9 : Int32)).bind fun v16 =>
  (if v16 = 0 then
  some (((-2) : Int32), σ)
  else
  (hw_gP (hw_q 12) 1 (some x0) σ).bind fun v26 =>
  (hw_aI 0 v26 (1 : Int32) σ).bind fun v30 =>
  (if v30 = (8 : Int32) then
  some (((-4) : Int32), σ)
  else
  (hw_gP (hw_q 12) 1 (some x0) σ).bind fun v41 =>
  (hw_aI 0 v41 (1 : Int32) σ).bind fun v45 =>
  (hw_pI (hw_q 12) 4 (some x0) v45 σ).bind fun σ46 =>
  (hw_gP (hw_q 12) 1 (some x0) σ46).bind fun v51 =>
  (hw_aI 0 v51 (5 : Int32) σ46).bind fun v55 =>
  (hw_pI (hw_q 12) 6 (some x0) v55 σ46).bind fun σ56 =>
  (hw_gP (hw_q 12) 1 (some x0) σ56).bind fun v60 =>
  (hw_sI v60 (5 : Int32) (0 : Int32) σ56).bind fun σ65 =>
  (hw_gP (hw_q 12) 1 (some x0) σ65).bind fun v67 =>
  (hw_gI (hw_q 12) 4 (some x0) σ65).bind fun v74 =>
  (hw_sI v67 ((140 : Int32) + v74) l1 σ65).bind fun σ79 =>
  (hw_gP (hw_q 12) 1 (some x0) σ79).bind fun v81 =>
  (hw_gI (hw_q 12) 4 (some x0) σ79).bind fun v88 =>
  (hw_sI v81 ((148 : Int32) + v88) l2 σ79).bind fun σ93 =>
  (hw_gP (hw_q 12) 1 (some x0) σ93).bind fun v95 =>
  (hw_gI (hw_q 12) 4 (some x0) σ93).bind fun v102 =>
  (hw_sI v95 ((156 : Int32) + v102) (20 : Int32) σ93).bind fun σ108 =>
  (hw_gP (hw_q 12) 1 (some x0) σ108).bind fun v110 =>
  (hw_gI (hw_q 12) 4 (some x0) σ108).bind fun v117 =>
  (hw_sI v110 ((164 : Int32) + v117) (0 : Int32) σ108).bind fun σ122 =>
  (hw_gP (hw_q 12) 1 (some x0) σ122).bind fun v124 =>
  (hw_gI (hw_q 12) 4 (some x0) σ122).bind fun v131 =>
  (hw_sI v124 ((204 : Int32) + v131) (0 : Int32) σ122).bind fun σ136 =>
  m12_law_b139 hw_fu x0 (0 : Int32) σ136)))
set_option maxRecDepth 100000 in
theorem w12_law_s {p : Program} {l : Launch} {e : Env} {s : State} {m : MethodId} {args : Array Value} {below : List Frame} {meth : Method} {c : Code} {D : hw_D} {b : Nat} {g : hw_Sd} {x0 : Nat} {l1 : Int32} {l2 : Int32} {σ : hw_S} {r : Int32} {τ : hw_S} {H : Heap} {locs : List Loc} (hm : m12_law x0 l1 l2 σ = some (r, τ)) (C0 : hw_C p s m args meth c D yX12_law cX12_law 4 (some .int)) (hG : hw_G g b s s.heap) (hR : hw_R D b σ H) (hS : va_S (fun q => b ≤ q) s.heap H locs) {ls : Array Slot} (hl : hw_L ls 4 255 [(0, hw_vr b (some x0)), (1, .int l1), (2, .int l2)]) : W p l e rm12_law s m args below meth c H locs 0 0 (MQ below (hw_QI D b τ r) args s 0 0 (fun q => b ≤ q)) (F0 m 0 ls []) := by
  obtain ⟨hx, hb, hml, hr, hown, hts, hlk, hE, hnm⟩ := id C0
  have hown : s.vm.findClass RX12 = some m.cls := hown
  have hK := hE.1
  unfold m12_law at hm
  refine lv_iload_n hx hb dX12_law_0 rfl (hl.at 1 rfl) ?_
  refine lv_iconst (v := 0) hx hb dX12_law_1 (by decide) ?_
  refine lv_bipush (v := 6) hx hb dX12_law_2 (by decide) ?_
  obtain ⟨v4, e4, hm⟩ := hw_bs hm
  refine hw_cRI (va_runS (As := [.int l1, .int (0 : Int32), .int (6 : Int32)]) (rest := []) ⟨hx, hb, hml, hown, hts⟩ (c12_in l D e4) (cwS 3 hts (hw_gS hw_m112 hw_m113 hw_m5 hw_m114) rfl rfl rfl (by decide +kernel) ⟨(Nat.le_of_ble_eq_true rfl), (Nat.le_of_ble_eq_true rfl)⟩) (hw_pre0 hE) rfl rfl hl.sz rfl (lv_room (Nat.le_of_ble_eq_true rfl)) dX12_law_4 ⟨(Nat.le_of_ble_eq_true rfl), (Nat.le_of_ble_eq_true rfl)⟩) ?_
  refine lv_if_ne (tgt := 12) hx hb dX12_law_7 (by decide) (fun c7 => ?_) (fun c7 => ?_)
  · have hm := hw_in hm c7
    refine lv_iload_n hx hb dX12_law_12 rfl (hl.at 2 rfl) ?_
    refine lv_iconst (v := 1) hx hb dX12_law_13 (by decide) ?_
    refine lv_bipush (v := 9) hx hb dX12_law_14 (by decide) ?_
    obtain ⟨v16, e16, hm⟩ := hw_bs hm
    refine hw_cRI (va_runS (As := [.int l2, .int (1 : Int32), .int (9 : Int32)]) (rest := []) ⟨hx, hb, hml, hown, hts⟩ (c12_in l D e16) (cwS 3 hts (hw_gS hw_m112 hw_m113 hw_m5 hw_m114) rfl rfl rfl (by decide +kernel) ⟨(Nat.le_of_ble_eq_true rfl), (Nat.le_of_ble_eq_true rfl)⟩) (hw_pre0 hE) rfl rfl hl.sz rfl (lv_room (Nat.le_of_ble_eq_true rfl)) dX12_law_16 ⟨(Nat.le_of_ble_eq_true rfl), (Nat.le_of_ble_eq_true rfl)⟩) ?_
    refine lv_if_ne (tgt := 25) hx hb dX12_law_19 (by decide) (fun c19 => ?_) (fun c19 => ?_)
    · have hm := hw_in hm c19
      refine hw_aload_n hx hb dX12_law_25 rfl (hl.at 0 rfl) ?_
      obtain ⟨v26, e26, hm⟩ := hw_bs hm
      refine hw_getP hx hb hw_cf12 hts hown hK hR e26 (by decide) rfl (hts _ hw_m76) (fun _ h9 => h9) dX12_law_26 ?_
      refine lv_iconst (v := 1) hx hb dX12_law_29 (by decide) ?_
      obtain ⟨v30, e30, hm⟩ := hw_bs hm
      refine hw_iald hx hb hK hR e30 dX12_law_30 ?_
      refine lv_bipush (v := 8) hx hb dX12_law_31 (by decide) ?_
      refine lv_icmp_ne (tgt := 39) hx hb dX12_law_33 (by decide) (fun c33 => ?_) (fun c33 => ?_)
      · have hm := hw_in hm c33
        refine hw_aload_n hx hb dX12_law_39 rfl (hl.at 0 rfl) ?_
        refine hw_aload_n hx hb dX12_law_40 rfl (hl.at 0 rfl) ?_
        obtain ⟨v41, e41, hm⟩ := hw_bs hm
        refine hw_getP hx hb hw_cf12 hts hown hK hR e41 (by decide) rfl (hts _ hw_m76) (fun _ h9 => h9) dX12_law_41 ?_
        refine lv_iconst (v := 1) hx hb dX12_law_44 (by decide) ?_
        obtain ⟨v45, e45, hm⟩ := hw_bs hm
        refine hw_iald hx hb hK hR e45 dX12_law_45 ?_
        obtain ⟨σ46, e46, hm⟩ := hw_bs hm
        refine hw_putI hx hb hw_cf12 hts hown hK hR hS e46 (by decide) rfl rfl (hts _ hw_m358) (fun _ h9 => h9) (Or.inl rfl) dX12_law_46 (fun _ _ hR hS => ?_)
        refine hw_aload_n hx hb dX12_law_49 rfl (hl.at 0 rfl) ?_
        refine hw_aload_n hx hb dX12_law_50 rfl (hl.at 0 rfl) ?_
        obtain ⟨v51, e51, hm⟩ := hw_bs hm
        refine hw_getP hx hb hw_cf12 hts hown hK hR e51 (by decide) rfl (hts _ hw_m76) (fun _ h9 => h9) dX12_law_51 ?_
        refine lv_iconst (v := 5) hx hb dX12_law_54 (by decide) ?_
        obtain ⟨v55, e55, hm⟩ := hw_bs hm
        refine hw_iald hx hb hK hR e55 dX12_law_55 ?_
        obtain ⟨σ56, e56, hm⟩ := hw_bs hm
        refine hw_putI hx hb hw_cf12 hts hown hK hR hS e56 (by decide) rfl rfl (hts _ hw_m359) (fun _ h9 => h9) (Or.inl rfl) dX12_law_56 (fun _ _ hR hS => ?_)
        refine hw_aload_n hx hb dX12_law_59 rfl (hl.at 0 rfl) ?_
        obtain ⟨v60, e60, hm⟩ := hw_bs hm
        refine hw_getP hx hb hw_cf12 hts hown hK hR e60 (by decide) rfl (hts _ hw_m76) (fun _ h9 => h9) dX12_law_60 ?_
        refine lv_iconst (v := 5) hx hb dX12_law_63 (by decide) ?_
        refine lv_iconst (v := 0) hx hb dX12_law_64 (by decide) ?_
        obtain ⟨σ65, e65, hm⟩ := hw_bs hm
        refine hw_iast hx hb hK hR hS e65 dX12_law_65 (fun _ _ hR hS => ?_)
        refine hw_aload_n hx hb dX12_law_66 rfl (hl.at 0 rfl) ?_
        obtain ⟨v67, e67, hm⟩ := hw_bs hm
        refine hw_getP hx hb hw_cf12 hts hown hK hR e67 (by decide) rfl (hts _ hw_m76) (fun _ h9 => h9) dX12_law_67 ?_
        refine lv_sipush (v := 140) hx hb dX12_law_70 (by decide) ?_
        refine hw_aload_n hx hb dX12_law_73 rfl (hl.at 0 rfl) ?_
        obtain ⟨v74, e74, hm⟩ := hw_bs hm
        refine hw_getI hx hb hw_cf12 hts hown hK hR e74 (by decide) rfl (hts _ hw_m358) (fun _ h9 => h9) dX12_law_74 ?_
        refine lv_iadd hx hb dX12_law_77 ?_
        refine lv_iload_n hx hb dX12_law_78 rfl (hl.at 1 rfl) ?_
        obtain ⟨σ79, e79, hm⟩ := hw_bs hm
        refine hw_iast hx hb hK hR hS e79 dX12_law_79 (fun _ _ hR hS => ?_)
        refine hw_aload_n hx hb dX12_law_80 rfl (hl.at 0 rfl) ?_
        obtain ⟨v81, e81, hm⟩ := hw_bs hm
        refine hw_getP hx hb hw_cf12 hts hown hK hR e81 (by decide) rfl (hts _ hw_m76) (fun _ h9 => h9) dX12_law_81 ?_
        refine lv_sipush (v := 148) hx hb dX12_law_84 (by decide) ?_
        refine hw_aload_n hx hb dX12_law_87 rfl (hl.at 0 rfl) ?_
        obtain ⟨v88, e88, hm⟩ := hw_bs hm
        refine hw_getI hx hb hw_cf12 hts hown hK hR e88 (by decide) rfl (hts _ hw_m358) (fun _ h9 => h9) dX12_law_88 ?_
        refine lv_iadd hx hb dX12_law_91 ?_
        refine lv_iload_n hx hb dX12_law_92 rfl (hl.at 2 rfl) ?_
        obtain ⟨σ93, e93, hm⟩ := hw_bs hm
        refine hw_iast hx hb hK hR hS e93 dX12_law_93 (fun _ _ hR hS => ?_)
        refine hw_aload_n hx hb dX12_law_94 rfl (hl.at 0 rfl) ?_
        obtain ⟨v95, e95, hm⟩ := hw_bs hm
        refine hw_getP hx hb hw_cf12 hts hown hK hR e95 (by decide) rfl (hts _ hw_m76) (fun _ h9 => h9) dX12_law_95 ?_
        refine lv_sipush (v := 156) hx hb dX12_law_98 (by decide) ?_
        refine hw_aload_n hx hb dX12_law_101 rfl (hl.at 0 rfl) ?_
        obtain ⟨v102, e102, hm⟩ := hw_bs hm
        refine hw_getI hx hb hw_cf12 hts hown hK hR e102 (by decide) rfl (hts _ hw_m358) (fun _ h9 => h9) dX12_law_102 ?_
        refine lv_iadd hx hb dX12_law_105 ?_
        refine lv_bipush (v := 20) hx hb dX12_law_106 (by decide) ?_
        obtain ⟨σ108, e108, hm⟩ := hw_bs hm
        refine hw_iast hx hb hK hR hS e108 dX12_law_108 (fun _ _ hR hS => ?_)
        refine hw_aload_n hx hb dX12_law_109 rfl (hl.at 0 rfl) ?_
        obtain ⟨v110, e110, hm⟩ := hw_bs hm
        refine hw_getP hx hb hw_cf12 hts hown hK hR e110 (by decide) rfl (hts _ hw_m76) (fun _ h9 => h9) dX12_law_110 ?_
        refine lv_sipush (v := 164) hx hb dX12_law_113 (by decide) ?_
        refine hw_aload_n hx hb dX12_law_116 rfl (hl.at 0 rfl) ?_
        obtain ⟨v117, e117, hm⟩ := hw_bs hm
        refine hw_getI hx hb hw_cf12 hts hown hK hR e117 (by decide) rfl (hts _ hw_m358) (fun _ h9 => h9) dX12_law_117 ?_
        refine lv_iadd hx hb dX12_law_120 ?_
        refine lv_iconst (v := 0) hx hb dX12_law_121 (by decide) ?_
        obtain ⟨σ122, e122, hm⟩ := hw_bs hm
        refine hw_iast hx hb hK hR hS e122 dX12_law_122 (fun _ _ hR hS => ?_)
        refine hw_aload_n hx hb dX12_law_123 rfl (hl.at 0 rfl) ?_
        obtain ⟨v124, e124, hm⟩ := hw_bs hm
        refine hw_getP hx hb hw_cf12 hts hown hK hR e124 (by decide) rfl (hts _ hw_m76) (fun _ h9 => h9) dX12_law_124 ?_
        refine lv_sipush (v := 204) hx hb dX12_law_127 (by decide) ?_
        refine hw_aload_n hx hb dX12_law_130 rfl (hl.at 0 rfl) ?_
        obtain ⟨v131, e131, hm⟩ := hw_bs hm
        refine hw_getI hx hb hw_cf12 hts hown hK hR e131 (by decide) rfl (hts _ hw_m358) (fun _ h9 => h9) dX12_law_131 ?_
        refine lv_iadd hx hb dX12_law_134 ?_
        refine lv_iconst (v := 0) hx hb dX12_law_135 (by decide) ?_
        obtain ⟨σ136, e136, hm⟩ := hw_bs hm
        refine hw_iast hx hb hK hR hS e136 dX12_law_136 (fun _ _ hR hS => ?_)
        refine lv_iconst (v := 0) hx hb dX12_law_137 (by decide) ?_
        refine hw_istore_n (lv' := [(3, .int (0 : Int32)), (0, hw_vr b (some x0)), (1, .int l1), (2, .int l2)]) hx hb dX12_law_138 rfl hl (by decide) (by decide) rfl (fun ls hl => ?_)
        exact w12_law_b139 C0 hG hw_fu hm hR hS (hl.sub [1, 0] rfl)
      · have hm := hw_ip hm c33
        refine lv_bipush (v := (-4)) hx hb dX12_law_36 (by decide) ?_
        exact hw_rWI hx hb hr hlk hR hS hm dX12_law_38
    · have hm := hw_ip hm c19
      refine lv_bipush (v := (-2)) hx hb dX12_law_22 (by decide) ?_
      exact hw_rWI hx hb hr hlk hR hS hm dX12_law_24
  · have hm := hw_ip hm c7
    refine lv_iconst (v := (-1)) hx hb dX12_law_10 (by decide) ?_
    exact hw_rWI hx hb hr hlk hR hS hm dX12_law_11
set_option maxRecDepth 100000 in
theorem c12_law (l : Launch) (D : hw_D) (g : hw_Sd) (b : Nat) {x0 : Nat} {l1 : Int32} {l2 : Int32} {σ : hw_S} {r : Int32} {τ : hw_S} (hm : m12_law x0 l1 l2 σ = some (r, τ)) : Met l yX12_law (Cond.code yX12_law cX12_law 4 (some .int) :: wsL_law) rm12_law (hw_P2 D g b σ [hw_vr b (some x0), .int l1, .int l2]) (hw_QI D b τ r) 0 0 (fun q => b ≤ q) := by
  refine hw_start2 (by decide +kernel) (by exact Nat.le_of_ble_eq_true rfl) ?_
  intro p e s m below meth c ls C0 hR hS hG hl
  have hl : lv_has ls 4 [(0, hw_vr b (some x0)), (1, .int l1), (2, .int l2)] := by exact hl
  exact w12_law_s hm C0 hG hR hS ⟨hl, (List.forall_mem_cons.mpr ⟨(fun h => by rw [show (hw_vr b (some x0) : Value).category = 1 from (hw_vr_cat _ _)] at h; cases h), (List.forall_mem_cons.mpr ⟨(fun h => absurd (show (1 : Nat) = 2 from h) (by decide)), (List.forall_mem_cons.mpr ⟨(fun h => absurd (show (1 : Nat) = 2 from h) (by decide)), (fun _ h => absurd h List.not_mem_nil)⟩)⟩)⟩)⟩

abbrev rm11_lawAt : Room := { frames := 1, cells := 0, slots := 0, locals := 22 }
def m11_lawAt_b30 (x0 : Nat) (t0 : Option Nat) (σ : hw_S) : Option (Option Nat) :=
  some t0
set_option maxRecDepth 100000 in
theorem w11_lawAt_b30 {p : Program} {l : Launch} {e : Env} {s : State} {m : MethodId} {args : Array Value} {below : List Frame} {meth : Method} {c : Code} {D : hw_D} {b : Nat} {r : Option Nat} (C0 : hw_C p s m args meth c D yX11_lawAt cX11_lawAt 2 (some (.object "HoneyWinds$Laying"))) {x0 : Nat} {t0 : Option Nat} {σ : hw_S} (hm : m11_lawAt_b30 x0 t0 σ = some r) (hR : hw_R D b σ s.heap) {ls : Array Slot} (hl : hw_L ls 2 255 [(0, hw_vr b (some x0))]) : W p l e rm11_lawAt s m args below meth c s.heap [] 0 0 (MQ below (hw_RP b r) args s 0 0 hw_nof) (F0 m 30 ls [hw_vr b t0]) := by
  obtain ⟨hx, hb, hml, hr, hown, hts, hlk, hE, hnm⟩ := id C0
  have hown : s.vm.findClass RX11 = some m.cls := hown
  have hK := hE.1
  unfold m11_lawAt_b30 at hm
  exact hw_rRP hx hb hr (Or.inl ⟨_, rfl⟩) hlk hm dX11_lawAt_30
def m11_lawAt (x0 : Nat) (l1 : Int32) (σ : hw_S) : Option (Option Nat) :=
  (hw_gP (hw_q 11) 0 (some x0) σ).bind fun v3 =>
  (hw_gI (hw_q 8) 3 v3 σ).bind fun v6 =>
  (m11_isWithin l1 (0 : Int32) (v6 - (1 : Int32))).bind fun v11 =>
  (if v11 = 0 then
  m11_lawAt_b30 x0 none σ
  else
  (hw_gP (hw_q 11) 0 (some x0) σ).bind fun v18 =>
  (hw_gP (hw_q 8) 2 v18 σ).bind fun v21 =>
  (hw_aP 2 v21 l1 σ).bind fun v25 =>
  m11_lawAt_b30 x0 v25 σ)
set_option maxRecDepth 100000 in
theorem w11_lawAt_s {p : Program} {l : Launch} {e : Env} {s : State} {m : MethodId} {args : Array Value} {below : List Frame} {meth : Method} {c : Code} {D : hw_D} {b : Nat} {x0 : Nat} {l1 : Int32} {σ : hw_S} {r : Option Nat} (hm : m11_lawAt x0 l1 σ = some r) (C0 : hw_C p s m args meth c D yX11_lawAt cX11_lawAt 2 (some (.object "HoneyWinds$Laying"))) (hR : hw_R D b σ s.heap) {ls : Array Slot} (hl : hw_L ls 2 255 [(0, hw_vr b (some x0)), (1, .int l1)]) : W p l e rm11_lawAt s m args below meth c s.heap [] 0 0 (MQ below (hw_RP b r) args s 0 0 hw_nof) (F0 m 0 ls []) := by
  obtain ⟨hx, hb, hml, hr, hown, hts, hlk, hE, hnm⟩ := id C0
  have hown : s.vm.findClass RX11 = some m.cls := hown
  have hK := hE.1
  unfold m11_lawAt at hm
  refine lv_iload_n hx hb dX11_lawAt_0 rfl (hl.at 1 rfl) ?_
  refine lv_iconst (v := 0) hx hb dX11_lawAt_1 (by decide) ?_
  refine hw_aload_n hx hb dX11_lawAt_2 rfl (hl.at 0 rfl) ?_
  obtain ⟨v3, e3, hm⟩ := hw_bs hm
  refine hw_getP hx hb hw_cf11 hts hown hK hR e3 (by decide) rfl (hts _ hw_m16) (fun _ h9 => h9) dX11_lawAt_3 ?_
  obtain ⟨v6, e6, hm⟩ := hw_bs hm
  refine hw_getI hx hb hw_cf8 hts hown hK hR e6 (by decide) rfl (hts _ hw_m148) (fun _ h9 => h9) dX11_lawAt_6 ?_
  refine lv_iconst (v := 1) hx hb dX11_lawAt_9 (by decide) ?_
  refine lv_isub hx hb dX11_lawAt_10 ?_
  obtain ⟨v11, e11, hm⟩ := hw_bs hm
  refine hw_cRI (va_runS (As := [.int l1, .int (0 : Int32), .int (v6 - (1 : Int32))]) (rest := []) ⟨hx, hb, hml, hown, hts⟩ (c11_isWithin l D e11) (cwS 3 hts (hw_gS hw_m99 hw_m100 hw_m2 hw_m101) rfl rfl rfl (by decide +kernel) ⟨(Nat.le_of_ble_eq_true rfl), (Nat.le_of_ble_eq_true rfl)⟩) (hw_pre0 hE) rfl rfl hl.sz rfl (lv_room (Nat.le_of_ble_eq_true rfl)) dX11_lawAt_11 ⟨(Nat.le_of_ble_eq_true rfl), (Nat.le_of_ble_eq_true rfl)⟩) ?_
  refine lv_if_eq (tgt := 29) hx hb dX11_lawAt_14 (by decide) (fun c14 => ?_) (fun c14 => ?_)
  · have hm := hw_ip hm c14
    refine hw_null hx hb b dX11_lawAt_29 ?_
    exact w11_lawAt_b30 C0 hm hR (hl.sub [0] rfl)
  · have hm := hw_in hm c14
    refine hw_aload_n hx hb dX11_lawAt_17 rfl (hl.at 0 rfl) ?_
    obtain ⟨v18, e18, hm⟩ := hw_bs hm
    refine hw_getP hx hb hw_cf11 hts hown hK hR e18 (by decide) rfl (hts _ hw_m16) (fun _ h9 => h9) dX11_lawAt_18 ?_
    obtain ⟨v21, e21, hm⟩ := hw_bs hm
    refine hw_getP hx hb hw_cf8 hts hown hK hR e21 (by decide) rfl (hts _ hw_m150) (fun _ h9 => h9) dX11_lawAt_21 ?_
    refine lv_iload_n hx hb dX11_lawAt_24 rfl (hl.at 1 rfl) ?_
    obtain ⟨v25, e25, hm⟩ := hw_bs hm
    refine hw_aald (by decide) (by decide) hx hb hK hR e25 dX11_lawAt_25 ?_
    refine lv_goto (tgt := 30) hx hb dX11_lawAt_26 (by decide) ?_
    exact w11_lawAt_b30 C0 hm hR (hl.sub [0] rfl)
set_option maxRecDepth 100000 in
theorem c11_lawAt (l : Launch) (D : hw_D) (b : Nat) {x0 : Nat} {l1 : Int32} {σ : hw_S} {r : Option Nat} (hm : m11_lawAt x0 l1 σ = some r) : Met l yX11_lawAt (Cond.code yX11_lawAt cX11_lawAt 2 (some (.object "HoneyWinds$Laying")) :: wsL_law) rm11_lawAt (hw_P1 D b σ [hw_vr b (some x0), .int l1]) (hw_RP b r) 0 0 hw_nof := by
  refine hw_start1 (by decide +kernel) (by exact Nat.le_of_ble_eq_true rfl) ?_
  intro p e s m below meth c ls C0 hR hS hl
  have hl : lv_has ls 2 [(0, hw_vr b (some x0)), (1, .int l1)] := by exact hl
  exact w11_lawAt_s hm C0 hR ⟨hl, (List.forall_mem_cons.mpr ⟨(fun h => by rw [show (hw_vr b (some x0) : Value).category = 1 from (hw_vr_cat _ _)] at h; cases h), (List.forall_mem_cons.mpr ⟨(fun h => absurd (show (1 : Nat) = 2 from h) (by decide)), (fun _ h => absurd h List.not_mem_nil)⟩)⟩)⟩

abbrev rm11_told : Room := { frames := 2, cells := 0, slots := 0, locals := 43 }
def m11_told (x0 : Nat) (l1 : Int32) (l2 : Int32) (σ : hw_S) : Option Int32 :=
  (hw_rv (hw_q 11) (some x0) σ).bind fun a2 =>
  (m11_lawAt x0 l1 σ).bind fun v2 =>
  (if v2 = none then
  some ((-1) : Int32)
  else
  (m11_isWithin l2 (11 : Int32) (14 : Int32)).bind fun v17 =>
  (if v17 = 0 then
  (if l2 = 0 then
  (hw_gI hw_qL 0 v2 σ).bind fun v65 =>
  some v65
  else
  (if l2 = 1 then
  (hw_gI hw_qL 2 v2 σ).bind fun v70 =>
  some v70
  else
  (if l2 = 2 then
  (hw_gI hw_qL 3 v2 σ).bind fun v75 =>
  some v75
  else
  (if l2 = 3 then
  (hw_gI hw_qL 4 v2 σ).bind fun v80 =>
  some v80
  else
  some ((-1) : Int32)))))
  else
  (hw_gP hw_qL 5 v2 σ).bind fun v24 =>
  (hw_aI 0 v24 (l2 - (11 : Int32)) σ).bind fun v31 =>
  some v31))
set_option maxRecDepth 100000 in
theorem w11_told_s {p : Program} {l : Launch} {e : Env} {s : State} {m : MethodId} {args : Array Value} {below : List Frame} {meth : Method} {c : Code} {D : hw_D} {b : Nat} {x0 : Nat} {l1 : Int32} {l2 : Int32} {σ : hw_S} {r : Int32} (hm : m11_told x0 l1 l2 σ = some r) (C0 : hw_C p s m args meth c D yX11_told cX11_told 4 (some .int)) (hR : hw_R D b σ s.heap) {ls : Array Slot} (hl : hw_L ls 4 255 [(0, hw_vr b (some x0)), (1, .int l1), (2, .int l2)]) : W p l e rm11_told s m args below meth c s.heap [] 0 0 (MQ below (hw_RI r) args s 0 0 hw_nof) (F0 m 0 ls []) := by
  obtain ⟨hx, hb, hml, hr, hown, hts, hlk, hE, hnm⟩ := id C0
  have hown : s.vm.findClass RX11 = some m.cls := hown
  have hK := hE.1
  unfold m11_told at hm
  refine hw_aload_n hx hb dX11_told_0 rfl (hl.at 0 rfl) ?_
  refine lv_iload_n hx hb dX11_told_1 rfl (hl.at 1 rfl) ?_
  obtain ⟨a2, g2, hm⟩ := hw_bs hm
  obtain ⟨rfl, ht2⟩ := hw_rv_th g2
  obtain ⟨v2, e2, hm⟩ := hw_bs hm
  refine hw_cRP (va_runV (As := [.int l1]) (rest := []) ⟨hx, hb, hml, hown, hts⟩ (c11_lawAt l D b e2) (cwV 1 hts (hw_gV hw_m426 hw_m427 hw_m428 hw_m2 hw_m429) rfl rfl rfl (by decide +kernel) ⟨(Nat.le_of_ble_eq_true rfl), (Nat.le_of_ble_eq_true rfl)⟩) (hw_preV (ci := 11) hE hR rfl (by decide) (hw_q_of ht2)) rfl rfl hl.sz rfl (lv_room (Nat.le_of_ble_eq_true rfl)) dX11_told_2 ⟨(Nat.le_of_ble_eq_true rfl), (Nat.le_of_ble_eq_true rfl)⟩) ?_
  refine hw_asto_n (lv' := [(3, hw_vr b v2), (0, hw_vr b (some x0)), (1, .int l1), (2, .int l2)]) hx hb dX11_told_5 rfl hl (by decide) (by decide) rfl (fun ls hl => ?_)
  refine hw_aload_n hx hb dX11_told_6 rfl (hl.at 0 rfl) ?_
  refine hw_ifnonnull (tgt := 12) hx hb dX11_told_7 (by decide) (fun c7 => ?_) (fun c7 => ?_)
  · have hm := hw_in hm c7
    refine lv_iload_n hx hb dX11_told_12 rfl (hl.at 3 rfl) ?_
    refine lv_bipush (v := 11) hx hb dX11_told_13 (by decide) ?_
    refine lv_bipush (v := 14) hx hb dX11_told_15 (by decide) ?_
    obtain ⟨v17, e17, hm⟩ := hw_bs hm
    refine hw_cRI (va_runS (As := [.int l2, .int (11 : Int32), .int (14 : Int32)]) (rest := []) ⟨hx, hb, hml, hown, hts⟩ (c11_isWithin l D e17) (cwS 3 hts (hw_gS hw_m99 hw_m100 hw_m2 hw_m101) rfl rfl rfl (by decide +kernel) ⟨(Nat.le_of_ble_eq_true rfl), (Nat.le_of_ble_eq_true rfl)⟩) (hw_pre0 hE) rfl rfl hl.sz rfl (lv_room (Nat.le_of_ble_eq_true rfl)) dX11_told_17 ⟨(Nat.le_of_ble_eq_true rfl), (Nat.le_of_ble_eq_true rfl)⟩) ?_
    refine lv_if_eq (tgt := 33) hx hb dX11_told_20 (by decide) (fun c20 => ?_) (fun c20 => ?_)
    · have hm := hw_ip hm c20
      refine lv_iload_n hx hb dX11_told_33 rfl (hl.at 3 rfl) ?_
      refine hw_case l2 (0) (fun c34_0 => ?_) (fun c34_0 => ?_)
      · have hm := hw_ip hm c34_0
        refine lv_tableIn (off := 30) (tgt := 64) hx hb dX11_told_34 (by rw [c34_0]; decide) (by rw [c34_0]; decide) (by rw [c34_0]; rfl) (by decide) ?_
        refine hw_aload_n hx hb dX11_told_64 rfl (hl.at 0 rfl) ?_
        obtain ⟨v65, e65, hm⟩ := hw_bs hm
        refine hw_getI hx hb hw_cfL hts hown hK hR e65 (by decide) rfl (hts _ hw_m422) (fun _ h9 => h9) dX11_told_65 ?_
        exact hw_rRI hx hb hr hlk hm dX11_told_68
      · have hm := hw_in hm c34_0
        refine hw_case l2 (1) (fun c34_1 => ?_) (fun c34_1 => ?_)
        · have hm := hw_ip hm c34_1
          refine lv_tableIn (off := 35) (tgt := 69) hx hb dX11_told_34 (by rw [c34_1]; decide) (by rw [c34_1]; decide) (by rw [c34_1]; rfl) (by decide) ?_
          refine hw_aload_n hx hb dX11_told_69 rfl (hl.at 0 rfl) ?_
          obtain ⟨v70, e70, hm⟩ := hw_bs hm
          refine hw_getI hx hb hw_cfL hts hown hK hR e70 (by decide) rfl (hts _ hw_m423) (fun _ h9 => h9) dX11_told_70 ?_
          exact hw_rRI hx hb hr hlk hm dX11_told_73
        · have hm := hw_in hm c34_1
          refine hw_case l2 (2) (fun c34_2 => ?_) (fun c34_2 => ?_)
          · have hm := hw_ip hm c34_2
            refine lv_tableIn (off := 40) (tgt := 74) hx hb dX11_told_34 (by rw [c34_2]; decide) (by rw [c34_2]; decide) (by rw [c34_2]; rfl) (by decide) ?_
            refine hw_aload_n hx hb dX11_told_74 rfl (hl.at 0 rfl) ?_
            obtain ⟨v75, e75, hm⟩ := hw_bs hm
            refine hw_getI hx hb hw_cfL hts hown hK hR e75 (by decide) rfl (hts _ hw_m424) (fun _ h9 => h9) dX11_told_75 ?_
            exact hw_rRI hx hb hr hlk hm dX11_told_78
          · have hm := hw_in hm c34_2
            refine hw_case l2 (3) (fun c34_3 => ?_) (fun c34_3 => ?_)
            · have hm := hw_ip hm c34_3
              refine lv_tableIn (off := 45) (tgt := 79) hx hb dX11_told_34 (by rw [c34_3]; decide) (by rw [c34_3]; decide) (by rw [c34_3]; rfl) (by decide) ?_
              refine hw_aload_n hx hb dX11_told_79 rfl (hl.at 0 rfl) ?_
              obtain ⟨v80, e80, hm⟩ := hw_bs hm
              refine hw_getI hx hb hw_cfL hts hown hK hR e80 (by decide) rfl (hts _ hw_m425) (fun _ h9 => h9) dX11_told_80 ?_
              exact hw_rRI hx hb hr hlk hm dX11_told_83
            · have hm := hw_in hm c34_3
              refine lv_tableOut (tgt := 84) hx hb dX11_told_34 (by have h0 := hw_ne (0) c34_0 rfl; have h1 := hw_ne (1) c34_1 rfl; have h2 := hw_ne (2) c34_2 rfl; have h3 := hw_ne (3) c34_3 rfl; omega) (by decide) ?_
              refine lv_iconst (v := (-1)) hx hb dX11_told_84 (by decide) ?_
              exact hw_rRI hx hb hr hlk hm dX11_told_85
    · have hm := hw_in hm c20
      refine hw_aload_n hx hb dX11_told_23 rfl (hl.at 0 rfl) ?_
      obtain ⟨v24, e24, hm⟩ := hw_bs hm
      refine hw_getP hx hb hw_cfL hts hown hK hR e24 (by decide) rfl (hts _ hw_m421) (fun _ h9 => h9) dX11_told_24 ?_
      refine lv_iload_n hx hb dX11_told_27 rfl (hl.at 3 rfl) ?_
      refine lv_bipush (v := 11) hx hb dX11_told_28 (by decide) ?_
      refine lv_isub hx hb dX11_told_30 ?_
      obtain ⟨v31, e31, hm⟩ := hw_bs hm
      refine hw_iald hx hb hK hR e31 dX11_told_31 ?_
      exact hw_rRI hx hb hr hlk hm dX11_told_32
  · have hm := hw_ip hm c7
    refine lv_iconst (v := (-1)) hx hb dX11_told_10 (by decide) ?_
    exact hw_rRI hx hb hr hlk hm dX11_told_11
set_option maxRecDepth 100000 in
theorem c11_told (l : Launch) (D : hw_D) (b : Nat) {x0 : Nat} {l1 : Int32} {l2 : Int32} {σ : hw_S} {r : Int32} (hm : m11_told x0 l1 l2 σ = some r) : Met l yX11_told (Cond.code yX11_told cX11_told 4 (some .int) :: wsL_law) rm11_told (hw_P1 D b σ [hw_vr b (some x0), .int l1, .int l2]) (hw_RI r) 0 0 hw_nof := by
  refine hw_start1 (by decide +kernel) (by exact Nat.le_of_ble_eq_true rfl) ?_
  intro p e s m below meth c ls C0 hR hS hl
  have hl : lv_has ls 4 [(0, hw_vr b (some x0)), (1, .int l1), (2, .int l2)] := by exact hl
  exact w11_told_s hm C0 hR ⟨hl, (List.forall_mem_cons.mpr ⟨(fun h => by rw [show (hw_vr b (some x0) : Value).category = 1 from (hw_vr_cat _ _)] at h; cases h), (List.forall_mem_cons.mpr ⟨(fun h => absurd (show (1 : Nat) = 2 from h) (by decide)), (List.forall_mem_cons.mpr ⟨(fun h => absurd (show (1 : Nat) = 2 from h) (by decide)), (fun _ h => absurd h List.not_mem_nil)⟩)⟩)⟩)⟩

abbrev rm12_isLaw : Room := { frames := 1, cells := 0, slots := 0, locals := 22 }
def m12_isLaw (x0 : Nat) (l1 : Int32) (σ : hw_S) : Option Int32 :=
  (hw_gP (hw_q 12) 1 (some x0) σ).bind fun v3 =>
  (hw_aI 0 v3 (1 : Int32) σ).bind fun v7 =>
  (m12_in l1 (0 : Int32) (v7 - (1 : Int32))).bind fun v10 =>
  (hw_tf v10).bind fun _ =>
  some v10
set_option maxRecDepth 100000 in
theorem w12_isLaw_s {p : Program} {l : Launch} {e : Env} {s : State} {m : MethodId} {args : Array Value} {below : List Frame} {meth : Method} {c : Code} {D : hw_D} {b : Nat} {x0 : Nat} {l1 : Int32} {σ : hw_S} {r : Int32} (hm : m12_isLaw x0 l1 σ = some r) (C0 : hw_C p s m args meth c D yX12_isLaw cX12_isLaw 2 (some .boolean)) (hR : hw_R D b σ s.heap) {ls : Array Slot} (hl : hw_L ls 2 255 [(0, hw_vr b (some x0)), (1, .int l1)]) : W p l e rm12_isLaw s m args below meth c s.heap [] 0 0 (MQ below (hw_RI r) args s 0 0 hw_nof) (F0 m 0 ls []) := by
  obtain ⟨hx, hb, hml, hr, hown, hts, hlk, hE, hnm⟩ := id C0
  have hown : s.vm.findClass RX12 = some m.cls := hown
  have hK := hE.1
  unfold m12_isLaw at hm
  refine lv_iload_n hx hb dX12_isLaw_0 rfl (hl.at 1 rfl) ?_
  refine lv_iconst (v := 0) hx hb dX12_isLaw_1 (by decide) ?_
  refine hw_aload_n hx hb dX12_isLaw_2 rfl (hl.at 0 rfl) ?_
  obtain ⟨v3, e3, hm⟩ := hw_bs hm
  refine hw_getP hx hb hw_cf12 hts hown hK hR e3 (by decide) rfl (hts _ hw_m76) (fun _ h9 => h9) dX12_isLaw_3 ?_
  refine lv_iconst (v := 1) hx hb dX12_isLaw_6 (by decide) ?_
  obtain ⟨v7, e7, hm⟩ := hw_bs hm
  refine hw_iald hx hb hK hR e7 dX12_isLaw_7 ?_
  refine lv_iconst (v := 1) hx hb dX12_isLaw_8 (by decide) ?_
  refine lv_isub hx hb dX12_isLaw_9 ?_
  obtain ⟨v10, e10, hm⟩ := hw_bs hm
  refine hw_cRI (va_runS (As := [.int l1, .int (0 : Int32), .int (v7 - (1 : Int32))]) (rest := []) ⟨hx, hb, hml, hown, hts⟩ (c12_in l D e10) (cwS 3 hts (hw_gS hw_m112 hw_m113 hw_m5 hw_m114) rfl rfl rfl (by decide +kernel) ⟨(Nat.le_of_ble_eq_true rfl), (Nat.le_of_ble_eq_true rfl)⟩) (hw_pre0 hE) rfl rfl hl.sz rfl (lv_room (Nat.le_of_ble_eq_true rfl)) dX12_isLaw_10 ⟨(Nat.le_of_ble_eq_true rfl), (Nat.le_of_ble_eq_true rfl)⟩) ?_
  obtain ⟨_, z13, hm⟩ := hw_bs hm
  exact hw_rRZ hx hb hr hlk z13 hm dX12_isLaw_13
set_option maxRecDepth 100000 in
theorem c12_isLaw (l : Launch) (D : hw_D) (b : Nat) {x0 : Nat} {l1 : Int32} {σ : hw_S} {r : Int32} (hm : m12_isLaw x0 l1 σ = some r) : Met l yX12_isLaw (Cond.code yX12_isLaw cX12_isLaw 2 (some .boolean) :: wsL_law) rm12_isLaw (hw_P1 D b σ [hw_vr b (some x0), .int l1]) (hw_RI r) 0 0 hw_nof := by
  refine hw_start1 (by decide +kernel) (by exact Nat.le_of_ble_eq_true rfl) ?_
  intro p e s m below meth c ls C0 hR hS hl
  have hl : lv_has ls 2 [(0, hw_vr b (some x0)), (1, .int l1)] := by exact hl
  exact w12_isLaw_s hm C0 hR ⟨hl, (List.forall_mem_cons.mpr ⟨(fun h => by rw [show (hw_vr b (some x0) : Value).category = 1 from (hw_vr_cat _ _)] at h; cases h), (List.forall_mem_cons.mpr ⟨(fun h => absurd (show (1 : Nat) = 2 from h) (by decide)), (fun _ h => absurd h List.not_mem_nil)⟩)⟩)⟩
