set_option maxRecDepth 100000 in
theorem w11_init_s {p : Program} {l : Launch} {e : Env} {s : State} {m : MethodId} {args : Array Value} {below : List Frame} {meth : Method} {c : Code} {D : hw_D} {b : Nat} {x0 : Nat} {σ : hw_S} {τ : hw_S} {H : Heap} {locs : List Loc} (hm : m11_init x0 σ = some τ) (C0 : hw_C p s m args meth c D yX11_init cX11_init 1 none) (hR : hw_R D b σ H) (hS : va_S (fun q => b ≤ q) s.heap H locs) {ls : Array Slot} (hl : hw_L ls 1 255 [(0, hw_vr b (some x0))]) : W p l e rm11_init s m args below meth c H locs 0 0 (MQ below (hw_QV D b τ) args s 40 1766 (fun q => b ≤ q)) (F0 m 0 ls []) := by
  obtain ⟨hx, hb, hml, hr, hown, hts, hlk, hE, hnm⟩ := id C0
  have hown : s.vm.findClass RX11 = some m.cls := hown
  have hK := hE.1
  have hAOA := hE.2.2.2.2.2.2
  unfold m11_init at hm
  refine hw_aload_n hx hb dX11_init_0 rfl (hl.at 0 rfl) ?_
  refine W.objInit hx hb hown (hts _ hw_m10) (hts _ hw_m11) (hts _ hw_m12) rfl (hl.sz.trans hml.symm) rfl dX11_init_1 (Nat.le_of_ble_eq_true rfl) (by simp [hw_vr_cat, Value.category, JFrame.monitorRoom]) ?_
  refine W.eq (g2 := F0 m 4 ls []) rfl ?_
  refine hw_aload_n hx hb dX11_init_4 rfl (hl.at 0 rfl) ?_
  obtain ⟨v5, σ5, e5, hm⟩ := hw_bs2 hm
  refine hw_newO (ci := 8) (N := 14) (C := RX8) (T := TX8) (ty := tyX8) hx hb rfl (by decide) inlX8 rfl tyX8_ok (hw_df8) hts hown hK hR hS (hts _ hw_m13) (hts _ hw_m14) (hts _ hw_m15) e5 (Nat.le_of_ble_eq_true rfl) (Nat.le_of_ble_eq_true rfl) dX11_init_5 (fun _ hR hS => ?_)
  refine lv_dup hx hb dX11_init_8 (hw_vr_cat _ _) ?_
  obtain ⟨σ9, e9, hm⟩ := hw_bs hm
  refine hw_cWV (va_runIN (As := []) (rest := [hw_vr b (some v5), hw_vr b (some x0)]) ⟨hx, hb, hml, hown, hts⟩ (c8_init l D b e9) ⟨va_cnB 0 hts (hw_gC hw_m38) rfl rfl rfl (hE.2.1 _ (List.mem_of_getElem? (i := 0) rfl)) (hts _ hw_m15) (by decide +kernel) ⟨(Nat.le_of_ble_eq_true rfl), (Nat.le_of_ble_eq_true rfl)⟩, rfl, hts _ hw_m37⟩ (hw_pre1 hE hR) rfl rfl hl.sz rfl (lv_room (hw_sm (List.forall_mem_cons.mpr ⟨(hw_vr_cat _ _), (List.forall_mem_cons.mpr ⟨(hw_vr_cat _ _), (fun _ h => absurd h List.not_mem_nil)⟩)⟩) (Nat.le_of_ble_eq_true rfl))) dX11_init_9 ⟨(Nat.le_of_ble_eq_true rfl), (Nat.le_of_ble_eq_true rfl)⟩) hS (fun _ _ hR hS => ?_)
  obtain ⟨σ12, e12, hm⟩ := hw_bs hm
  refine hw_putP hx hb hw_cf11 hts hown hK hR hS e12 (by decide) rfl rfl (hts _ hw_m16) (fun _ h9 => h9) (Or.inr ⟨rfl, hnm, rfl⟩) dX11_init_12 (fun _ _ hR hS => ?_)
  refine hw_aload_n hx hb dX11_init_15 rfl (hl.at 0 rfl) ?_
  obtain ⟨v16, σ16, e16, hm⟩ := hw_bs2 hm
  refine hw_newO (ci := 8) (N := 14) (C := RX8) (T := TX8) (ty := tyX8) hx hb rfl (by decide) inlX8 rfl tyX8_ok (hw_df8) hts hown hK hR hS (hts _ hw_m13) (hts _ hw_m14) (hts _ hw_m15) e16 (Nat.le_of_ble_eq_true rfl) (Nat.le_of_ble_eq_true rfl) dX11_init_16 (fun _ hR hS => ?_)
  refine lv_dup hx hb dX11_init_19 (hw_vr_cat _ _) ?_
  obtain ⟨σ20, e20, hm⟩ := hw_bs hm
  refine hw_cWV (va_runIN (As := []) (rest := [hw_vr b (some v16), hw_vr b (some x0)]) ⟨hx, hb, hml, hown, hts⟩ (c8_init l D b e20) ⟨va_cnB 0 hts (hw_gC hw_m38) rfl rfl rfl (hE.2.1 _ (List.mem_of_getElem? (i := 0) rfl)) (hts _ hw_m15) (by decide +kernel) ⟨(Nat.le_of_ble_eq_true rfl), (Nat.le_of_ble_eq_true rfl)⟩, rfl, hts _ hw_m37⟩ (hw_pre1 hE hR) rfl rfl hl.sz rfl (lv_room (hw_sm (List.forall_mem_cons.mpr ⟨(hw_vr_cat _ _), (List.forall_mem_cons.mpr ⟨(hw_vr_cat _ _), (fun _ h => absurd h List.not_mem_nil)⟩)⟩) (Nat.le_of_ble_eq_true rfl))) dX11_init_20 ⟨(Nat.le_of_ble_eq_true rfl), (Nat.le_of_ble_eq_true rfl)⟩) hS (fun _ _ hR hS => ?_)
  obtain ⟨σ23, e23, hm⟩ := hw_bs hm
  refine hw_putP hx hb hw_cf11 hts hown hK hR hS e23 (by decide) rfl rfl (hts _ hw_m17) (fun _ h9 => h9) (Or.inr ⟨rfl, hnm, rfl⟩) dX11_init_23 (fun _ _ hR hS => ?_)
  refine hw_aload_n hx hb dX11_init_26 rfl (hl.at 0 rfl) ?_
  refine lv_iconst (v := 0) hx hb dX11_init_27 (by decide) ?_
  obtain ⟨_, z28, hm⟩ := hw_bs hm
  obtain ⟨σ28, e28, hm⟩ := hw_bs hm
  refine hw_putZ hx hb hw_cf11 hts hown hK hR hS z28 e28 (by decide) rfl rfl (hts _ hw_m18) (fun _ h9 => h9) (Or.inl rfl) dX11_init_28 (fun _ _ hR hS => ?_)
  refine hw_aload_n hx hb dX11_init_31 rfl (hl.at 0 rfl) ?_
  obtain ⟨v32, σ32, e32, hm⟩ := hw_bs2 hm
  refine hw_newO (ci := 4) (N := 8) (C := RX4) (T := TX4) (ty := tyX4) hx hb rfl (by decide) inlX4 rfl tyX4_ok (hw_df4) hts hown hK hR hS (hts _ hw_m19) (hts _ hw_m20) (hts _ hw_m21) e32 (Nat.le_of_ble_eq_true rfl) (Nat.le_of_ble_eq_true rfl) dX11_init_32 (fun _ hR hS => ?_)
  refine lv_dup hx hb dX11_init_35 (hw_vr_cat _ _) ?_
  obtain ⟨σ36, e36, hm⟩ := hw_bs hm
  refine hw_cWV (va_runIN (As := []) (rest := [hw_vr b (some v32), hw_vr b (some x0)]) ⟨hx, hb, hml, hown, hts⟩ (c4_init l D b e36) ⟨va_cnB 0 hts (hw_gC hw_m57) rfl rfl rfl (hE.2.1 _ (List.mem_of_getElem? (i := 1) rfl)) (hts _ hw_m21) (by decide +kernel) ⟨(Nat.le_of_ble_eq_true rfl), (Nat.le_of_ble_eq_true rfl)⟩, rfl, hts _ hw_m56⟩ (hw_pre1 hE hR) rfl rfl hl.sz rfl (lv_room (hw_sm (List.forall_mem_cons.mpr ⟨(hw_vr_cat _ _), (List.forall_mem_cons.mpr ⟨(hw_vr_cat _ _), (fun _ h => absurd h List.not_mem_nil)⟩)⟩) (Nat.le_of_ble_eq_true rfl))) dX11_init_36 ⟨(Nat.le_of_ble_eq_true rfl), (Nat.le_of_ble_eq_true rfl)⟩) hS (fun _ _ hR hS => ?_)
  obtain ⟨σ39, e39, hm⟩ := hw_bs hm
  refine hw_putP hx hb hw_cf11 hts hown hK hR hS e39 (by decide) rfl rfl (hts _ hw_m22) (fun _ h9 => h9) (Or.inr ⟨rfl, hnm, rfl⟩) dX11_init_39 (fun _ _ hR hS => ?_)
  refine hw_aload_n hx hb dX11_init_42 rfl (hl.at 0 rfl) ?_
  obtain ⟨v43, σ43, e43, hm⟩ := hw_bs2 hm
  refine hw_newO (ci := 10) (N := 2) (C := RX10) (T := TX10) (ty := tyX10) hx hb rfl (by decide) inlX10 rfl tyX10_ok (hw_df10) hts hown hK hR hS (hts _ hw_m23) (hts _ hw_m24) (hts _ hw_m25) e43 (Nat.le_of_ble_eq_true rfl) (Nat.le_of_ble_eq_true rfl) dX11_init_43 (fun _ hR hS => ?_)
  refine lv_dup hx hb dX11_init_46 (hw_vr_cat _ _) ?_
  obtain ⟨σ47, e47, hm⟩ := hw_bs hm
  refine hw_cWV (va_runIN (As := []) (rest := [hw_vr b (some v43), hw_vr b (some x0)]) ⟨hx, hb, hml, hown, hts⟩ (c10_init l D b e47) ⟨va_cnB 0 hts (hw_gC hw_m68) rfl rfl rfl (hE.2.1 _ (List.mem_of_getElem? (i := 2) rfl)) (hts _ hw_m25) (by decide +kernel) ⟨(Nat.le_of_ble_eq_true rfl), (Nat.le_of_ble_eq_true rfl)⟩, rfl, hts _ hw_m67⟩ (hw_pre1 hE hR) rfl rfl hl.sz rfl (lv_room (hw_sm (List.forall_mem_cons.mpr ⟨(hw_vr_cat _ _), (List.forall_mem_cons.mpr ⟨(hw_vr_cat _ _), (fun _ h => absurd h List.not_mem_nil)⟩)⟩) (Nat.le_of_ble_eq_true rfl))) dX11_init_47 ⟨(Nat.le_of_ble_eq_true rfl), (Nat.le_of_ble_eq_true rfl)⟩) hS (fun _ _ hR hS => ?_)
  obtain ⟨σ50, e50, hm⟩ := hw_bs hm
  refine hw_putP hx hb hw_cf11 hts hown hK hR hS e50 (by decide) rfl rfl (hts _ hw_m26) (fun _ h9 => h9) (Or.inr ⟨rfl, hnm, rfl⟩) dX11_init_50 (fun _ _ hR hS => ?_)
  refine hw_aload_n hx hb dX11_init_53 rfl (hl.at 0 rfl) ?_
  refine lv_bipush (v := 20) hx hb dX11_init_54 (by decide) ?_
  obtain ⟨v56, σ56, e56, hm⟩ := hw_bs2 hm
  refine hw_newaO (atype := .int) (t := 0) (N := 20) (by decide) hx hb rfl (hts _ hw_m27) hK hR hS e56 (Nat.le_of_ble_eq_true rfl) (Nat.le_of_ble_eq_true rfl) (Nat.le_of_ble_eq_true rfl) dX11_init_56 (fun _ hR hS => ?_)
  obtain ⟨σ58, e58, hm⟩ := hw_bs hm
  refine hw_putP hx hb hw_cf11 hts hown hK hR hS e58 (by decide) rfl rfl (hts _ hw_m28) (fun _ h9 => h9) (Or.inr ⟨rfl, hnm, rfl⟩) dX11_init_58 (fun _ _ hR hS => ?_)
  refine hw_aload_n hx hb dX11_init_61 rfl (hl.at 0 rfl) ?_
  refine lv_bipush (v := 20) hx hb dX11_init_62 (by decide) ?_
  obtain ⟨v64, σ64, e64, hm⟩ := hw_bs2 hm
  refine hw_newaO (atype := .int) (t := 0) (N := 20) (by decide) hx hb rfl (hts _ hw_m27) hK hR hS e64 (Nat.le_of_ble_eq_true rfl) (Nat.le_of_ble_eq_true rfl) (Nat.le_of_ble_eq_true rfl) dX11_init_64 (fun _ hR hS => ?_)
  obtain ⟨σ66, e66, hm⟩ := hw_bs hm
  refine hw_putP hx hb hw_cf11 hts hown hK hR hS e66 (by decide) rfl rfl (hts _ hw_m29) (fun _ h9 => h9) (Or.inr ⟨rfl, hnm, rfl⟩) dX11_init_66 (fun _ _ hR hS => ?_)
  refine hw_aload_n hx hb dX11_init_69 rfl (hl.at 0 rfl) ?_
  refine lv_bipush (v := 20) hx hb dX11_init_70 (by decide) ?_
  obtain ⟨v72, σ72, e72, hm⟩ := hw_bs2 hm
  refine hw_newaO (atype := .int) (t := 0) (N := 20) (by decide) hx hb rfl (hts _ hw_m27) hK hR hS e72 (Nat.le_of_ble_eq_true rfl) (Nat.le_of_ble_eq_true rfl) (Nat.le_of_ble_eq_true rfl) dX11_init_72 (fun _ hR hS => ?_)
  obtain ⟨σ74, e74, hm⟩ := hw_bs hm
  refine hw_putP hx hb hw_cf11 hts hown hK hR hS e74 (by decide) rfl rfl (hts _ hw_m30) (fun _ h9 => h9) (Or.inr ⟨rfl, hnm, rfl⟩) dX11_init_74 (fun _ _ hR hS => ?_)
  refine hw_aload_n hx hb dX11_init_77 rfl (hl.at 0 rfl) ?_
  refine lv_bipush (v := 61) hx hb dX11_init_78 (by decide) ?_
  obtain ⟨v80, σ80, e80, hm⟩ := hw_bs2 hm
  refine hw_newaO (atype := .int) (t := 0) (N := 61) (by decide) hx hb rfl (hts _ hw_m27) hK hR hS e80 (Nat.le_of_ble_eq_true rfl) (Nat.le_of_ble_eq_true rfl) (Nat.le_of_ble_eq_true rfl) dX11_init_80 (fun _ hR hS => ?_)
  obtain ⟨σ82, e82, hm⟩ := hw_bs hm
  refine hw_putP hx hb hw_cf11 hts hown hK hR hS e82 (by decide) rfl rfl (hts _ hw_m31) (fun _ h9 => h9) (Or.inr ⟨rfl, hnm, rfl⟩) dX11_init_82 (fun _ _ hR hS => ?_)
  refine hw_aload_n hx hb dX11_init_85 rfl (hl.at 0 rfl) ?_
  refine lv_bipush (v := 61) hx hb dX11_init_86 (by decide) ?_
  obtain ⟨v88, σ88, e88, hm⟩ := hw_bs2 hm
  refine hw_newaO (atype := .int) (t := 0) (N := 61) (by decide) hx hb rfl (hts _ hw_m27) hK hR hS e88 (Nat.le_of_ble_eq_true rfl) (Nat.le_of_ble_eq_true rfl) (Nat.le_of_ble_eq_true rfl) dX11_init_88 (fun _ hR hS => ?_)
  obtain ⟨σ90, e90, hm⟩ := hw_bs hm
  refine hw_putP hx hb hw_cf11 hts hown hK hR hS e90 (by decide) rfl rfl (hts _ hw_m32) (fun _ h9 => h9) (Or.inr ⟨rfl, hnm, rfl⟩) dX11_init_90 (fun _ _ hR hS => ?_)
  refine hw_aload_n hx hb dX11_init_93 rfl (hl.at 0 rfl) ?_
  refine lv_bipush (v := 100) hx hb dX11_init_94 (by decide) ?_
  obtain ⟨v96, σ96, e96, hm⟩ := hw_bs2 hm
  refine hw_newaO (atype := .int) (t := 0) (N := 100) (by decide) hx hb rfl (hts _ hw_m27) hK hR hS e96 (Nat.le_of_ble_eq_true rfl) (Nat.le_of_ble_eq_true rfl) (Nat.le_of_ble_eq_true rfl) dX11_init_96 (fun _ hR hS => ?_)
  obtain ⟨σ98, e98, hm⟩ := hw_bs hm
  refine hw_putP hx hb hw_cf11 hts hown hK hR hS e98 (by decide) rfl rfl (hts _ hw_m33) (fun _ h9 => h9) (Or.inr ⟨rfl, hnm, rfl⟩) dX11_init_98 (fun _ _ hR hS => ?_)
  refine hw_aload_n hx hb dX11_init_101 rfl (hl.at 0 rfl) ?_
  refine lv_bipush (v := 100) hx hb dX11_init_102 (by decide) ?_
  obtain ⟨v104, σ104, e104, hm⟩ := hw_bs2 hm
  refine hw_newaO (atype := .int) (t := 0) (N := 100) (by decide) hx hb rfl (hts _ hw_m27) hK hR hS e104 (Nat.le_of_ble_eq_true rfl) (Nat.le_of_ble_eq_true rfl) (Nat.le_of_ble_eq_true rfl) dX11_init_104 (fun _ hR hS => ?_)
  obtain ⟨σ106, e106, hm⟩ := hw_bs hm
  refine hw_putP hx hb hw_cf11 hts hown hK hR hS e106 (by decide) rfl rfl (hts _ hw_m34) (fun _ h9 => h9) (Or.inr ⟨rfl, hnm, rfl⟩) dX11_init_106 (fun _ _ hR hS => ?_)
  refine hw_aload_n hx hb dX11_init_109 rfl (hl.at 0 rfl) ?_
  refine lv_bipush (v := 8) hx hb dX11_init_110 (by decide) ?_
  refine lv_bipush (v := 100) hx hb dX11_init_112 (by decide) ?_
  obtain ⟨v114, σ114, e114, hm⟩ := hw_bs2 hm
  refine hw_mna hx hb hown (hts _ hw_m35) (hts _ hw_m27) hAOA hK hR hS e114 (Nat.le_of_ble_eq_true rfl) (Nat.le_of_ble_eq_true rfl) dX11_init_114 (fun _ hR hS => ?_)
  obtain ⟨σ118, e118, hm⟩ := hw_bs hm
  refine hw_putP hx hb hw_cf11 hts hown hK hR hS e118 (by decide) rfl rfl (hts _ hw_m36) (fun _ h9 => h9) (Or.inr ⟨rfl, hnm, rfl⟩) dX11_init_118 (fun _ _ hR hS => ?_)
  exact hw_rWV hx hb hr hlk hR hS hm dX11_init_121
set_option maxRecDepth 100000 in
theorem c11_init (l : Launch) (D : hw_D) (b : Nat) {x0 : Nat} {σ : hw_S} {τ : hw_S} (hm : m11_init x0 σ = some τ) : Met l yX11_init (Cond.code yX11_init cX11_init 1 none :: wsL_law) rm11_init (hw_P1 D b σ [hw_vr b (some x0)]) (hw_QV D b τ) 40 1766 (fun q => b ≤ q) := by
  refine hw_start1 (by decide +kernel) (by exact Nat.le_of_ble_eq_true rfl) ?_
  intro p e s m below meth c ls C0 hR hS hl
  have hl : lv_has ls 1 [(0, hw_vr b (some x0))] := by exact hl
  exact w11_init_s hm C0 hR hS ⟨hl, (List.forall_mem_cons.mpr ⟨(fun h => by rw [show (hw_vr b (some x0) : Value).category = 1 from (hw_vr_cat _ _)] at h; cases h), (fun _ h => absurd h List.not_mem_nil)⟩)⟩
