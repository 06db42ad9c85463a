abbrev rm8_init : Room := { frames := 1, cells := 8, slots := 197, locals := 24 }
def m8_init (x0 : Nat) (σ : hw_S) : Option hw_S :=
  hw_b2 (hw_anO 3 (5 : Int32) σ) fun v6 σ6 =>
  (hw_pP (hw_q 8) 0 (some x0) (some v6) σ6).bind fun σ9 =>
  (hw_pI (hw_q 8) 1 (some x0) (0 : Int32) σ9).bind fun σ14 =>
  hw_b2 (hw_anO 2 (8 : Int32) σ14) fun v20 σ20 =>
  (hw_pP (hw_q 8) 2 (some x0) (some v20) σ20).bind fun σ23 =>
  (hw_pI (hw_q 8) 3 (some x0) (0 : Int32) σ23).bind fun σ28 =>
  hw_b2 (hw_naO 21 (120 : Int32) σ28) fun v34 σ34 =>
  (hw_pP (hw_q 8) 4 (some x0) (some v34) σ34).bind fun σ36 =>
  (hw_pI (hw_q 8) 5 (some x0) (0 : Int32) σ36).bind fun σ41 =>
  hw_b2 (hw_naO 21 (20 : Int32) σ41) fun v47 σ47 =>
  (hw_pP (hw_q 8) 6 (some x0) (some v47) σ47).bind fun σ49 =>
  (hw_pI (hw_q 8) 7 (some x0) (0 : Int32) σ49).bind fun σ54 =>
  hw_b2 (hw_naO 21 (8 : Int32) σ54) fun v60 σ60 =>
  (hw_pP (hw_q 8) 8 (some x0) (some v60) σ60).bind fun σ62 =>
  (hw_pI (hw_q 8) 9 (some x0) (0 : Int32) σ62).bind fun σ67 =>
  hw_b2 (hw_naO 21 (12 : Int32) σ67) fun v73 σ73 =>
  (hw_pP (hw_q 8) 10 (some x0) (some v73) σ73).bind fun σ75 =>
  hw_b2 (hw_naO 21 (12 : Int32) σ75) fun v81 σ81 =>
  (hw_pP (hw_q 8) 11 (some x0) (some v81) σ81).bind fun σ83 =>
  hw_b2 (hw_naO 21 (12 : Int32) σ83) fun v89 σ89 =>
  (hw_pP (hw_q 8) 12 (some x0) (some v89) σ89).bind fun σ91 =>
  (hw_pI (hw_q 8) 13 (some x0) (0 : Int32) σ91).bind fun σ96 =>
  some σ96
set_option maxRecDepth 100000 in
theorem w8_init_s {p : Program} {l : Launch} {e : Env} {s : State} {m : MethodId} {args : Array Value} {below : List Frame} {meth : Method} {c : Code} {D : hw_D} {b : Nat} {x0 : Nat} {σ : hw_S} {τ : hw_S} {H : Heap} {locs : List Loc} (hm : m8_init x0 σ = some τ) (C0 : hw_C p s m args meth c D yX8_init cX8_init 1 none) (hR : hw_R D b σ H) (hS : va_S (fun q => b ≤ q) s.heap H locs) {ls : Array Slot} (hl : hw_L ls 1 255 [(0, hw_vr b (some x0))]) : W p l e rm8_init s m args below meth c H locs 0 0 (MQ below (hw_QV D b τ) args s 8 197 (fun q => b ≤ q)) (F0 m 0 ls []) := by
  obtain ⟨hx, hb, hml, hr, hown, hts, hlk, hE, hnm⟩ := id C0
  have hown : s.vm.findClass RX8 = some m.cls := hown
  have hK := hE.1
  unfold m8_init at hm
  refine hw_aload_n hx hb dX8_init_0 rfl (hl.at 0 rfl) ?_
  refine W.objInit hx hb hown (hts _ hw_m39) (hts _ hw_m11) (hts _ hw_m12) rfl (hl.sz.trans hml.symm) rfl dX8_init_1 (Nat.le_of_ble_eq_true rfl) (by simp [hw_vr_cat, Value.category, JFrame.monitorRoom]) ?_
  refine W.eq (g2 := F0 m 4 ls []) rfl ?_
  refine hw_aload_n hx hb dX8_init_4 rfl (hl.at 0 rfl) ?_
  refine lv_iconst (v := 5) hx hb dX8_init_5 (by decide) ?_
  obtain ⟨v6, σ6, e6, hm⟩ := hw_bs2 hm
  refine hw_anew (t := 3) (N := 5) (C := RX9) rfl (by decide) (by decide) hx hb hown (hts _ hw_m40) hE.2.2.2.2.2.1 hK hR hS e6 (Nat.le_of_ble_eq_true rfl) (Nat.le_of_ble_eq_true rfl) (Nat.le_of_ble_eq_true rfl) dX8_init_6 (fun _ hR hS => ?_)
  obtain ⟨σ9, e9, hm⟩ := hw_bs hm
  refine hw_putP hx hb hw_cf8 hts hown hK hR hS e9 (by decide) rfl rfl (hts _ hw_m41) (fun _ h9 => h9) (Or.inr ⟨rfl, hnm, rfl⟩) dX8_init_9 (fun _ _ hR hS => ?_)
  refine hw_aload_n hx hb dX8_init_12 rfl (hl.at 0 rfl) ?_
  refine lv_iconst (v := 0) hx hb dX8_init_13 (by decide) ?_
  obtain ⟨σ14, e14, hm⟩ := hw_bs hm
  refine hw_putI hx hb hw_cf8 hts hown hK hR hS e14 (by decide) rfl rfl (hts _ hw_m42) (fun _ h9 => h9) (Or.inl rfl) dX8_init_14 (fun _ _ hR hS => ?_)
  refine hw_aload_n hx hb dX8_init_17 rfl (hl.at 0 rfl) ?_
  refine lv_bipush (v := 8) hx hb dX8_init_18 (by decide) ?_
  obtain ⟨v20, σ20, e20, hm⟩ := hw_bs2 hm
  refine hw_anew (t := 2) (N := 8) (C := RX3) rfl (by decide) (by decide) hx hb hown (hts _ hw_m43) hE.2.2.2.2.1 hK hR hS e20 (Nat.le_of_ble_eq_true rfl) (Nat.le_of_ble_eq_true rfl) (Nat.le_of_ble_eq_true rfl) dX8_init_20 (fun _ hR hS => ?_)
  obtain ⟨σ23, e23, hm⟩ := hw_bs hm
  refine hw_putP hx hb hw_cf8 hts hown hK hR hS e23 (by decide) rfl rfl (hts _ hw_m44) (fun _ h9 => h9) (Or.inr ⟨rfl, hnm, rfl⟩) dX8_init_23 (fun _ _ hR hS => ?_)
  refine hw_aload_n hx hb dX8_init_26 rfl (hl.at 0 rfl) ?_
  refine lv_iconst (v := 0) hx hb dX8_init_27 (by decide) ?_
  obtain ⟨σ28, e28, hm⟩ := hw_bs hm
  refine hw_putI hx hb hw_cf8 hts hown hK hR hS e28 (by decide) rfl rfl (hts _ hw_m45) (fun _ h9 => h9) (Or.inl rfl) dX8_init_28 (fun _ _ hR hS => ?_)
  refine hw_aload_n hx hb dX8_init_31 rfl (hl.at 0 rfl) ?_
  refine lv_bipush (v := 120) hx hb dX8_init_32 (by decide) ?_
  obtain ⟨v34, σ34, e34, hm⟩ := hw_bs2 hm
  refine hw_newaO (atype := .int) (t := 0) (N := 120) (by decide) hx hb rfl (hts _ hw_m27) hK hR hS e34 (Nat.le_of_ble_eq_true rfl) (Nat.le_of_ble_eq_true rfl) (Nat.le_of_ble_eq_true rfl) dX8_init_34 (fun _ hR hS => ?_)
  obtain ⟨σ36, e36, hm⟩ := hw_bs hm
  refine hw_putP hx hb hw_cf8 hts hown hK hR hS e36 (by decide) rfl rfl (hts _ hw_m46) (fun _ h9 => h9) (Or.inr ⟨rfl, hnm, rfl⟩) dX8_init_36 (fun _ _ hR hS => ?_)
  refine hw_aload_n hx hb dX8_init_39 rfl (hl.at 0 rfl) ?_
  refine lv_iconst (v := 0) hx hb dX8_init_40 (by decide) ?_
  obtain ⟨σ41, e41, hm⟩ := hw_bs hm
  refine hw_putI hx hb hw_cf8 hts hown hK hR hS e41 (by decide) rfl rfl (hts _ hw_m47) (fun _ h9 => h9) (Or.inl rfl) dX8_init_41 (fun _ _ hR hS => ?_)
  refine hw_aload_n hx hb dX8_init_44 rfl (hl.at 0 rfl) ?_
  refine lv_bipush (v := 20) hx hb dX8_init_45 (by decide) ?_
  obtain ⟨v47, σ47, e47, hm⟩ := hw_bs2 hm
  refine hw_newaO (atype := .int) (t := 0) (N := 20) (by decide) hx hb rfl (hts _ hw_m27) hK hR hS e47 (Nat.le_of_ble_eq_true rfl) (Nat.le_of_ble_eq_true rfl) (Nat.le_of_ble_eq_true rfl) dX8_init_47 (fun _ hR hS => ?_)
  obtain ⟨σ49, e49, hm⟩ := hw_bs hm
  refine hw_putP hx hb hw_cf8 hts hown hK hR hS e49 (by decide) rfl rfl (hts _ hw_m48) (fun _ h9 => h9) (Or.inr ⟨rfl, hnm, rfl⟩) dX8_init_49 (fun _ _ hR hS => ?_)
  refine hw_aload_n hx hb dX8_init_52 rfl (hl.at 0 rfl) ?_
  refine lv_iconst (v := 0) hx hb dX8_init_53 (by decide) ?_
  obtain ⟨σ54, e54, hm⟩ := hw_bs hm
  refine hw_putI hx hb hw_cf8 hts hown hK hR hS e54 (by decide) rfl rfl (hts _ hw_m49) (fun _ h9 => h9) (Or.inl rfl) dX8_init_54 (fun _ _ hR hS => ?_)
  refine hw_aload_n hx hb dX8_init_57 rfl (hl.at 0 rfl) ?_
  refine lv_bipush (v := 8) hx hb dX8_init_58 (by decide) ?_
  obtain ⟨v60, σ60, e60, hm⟩ := hw_bs2 hm
  refine hw_newaO (atype := .int) (t := 0) (N := 8) (by decide) hx hb rfl (hts _ hw_m27) hK hR hS e60 (Nat.le_of_ble_eq_true rfl) (Nat.le_of_ble_eq_true rfl) (Nat.le_of_ble_eq_true rfl) dX8_init_60 (fun _ hR hS => ?_)
  obtain ⟨σ62, e62, hm⟩ := hw_bs hm
  refine hw_putP hx hb hw_cf8 hts hown hK hR hS e62 (by decide) rfl rfl (hts _ hw_m50) (fun _ h9 => h9) (Or.inr ⟨rfl, hnm, rfl⟩) dX8_init_62 (fun _ _ hR hS => ?_)
  refine hw_aload_n hx hb dX8_init_65 rfl (hl.at 0 rfl) ?_
  refine lv_iconst (v := 0) hx hb dX8_init_66 (by decide) ?_
  obtain ⟨σ67, e67, hm⟩ := hw_bs hm
  refine hw_putI hx hb hw_cf8 hts hown hK hR hS e67 (by decide) rfl rfl (hts _ hw_m51) (fun _ h9 => h9) (Or.inl rfl) dX8_init_67 (fun _ _ hR hS => ?_)
  refine hw_aload_n hx hb dX8_init_70 rfl (hl.at 0 rfl) ?_
  refine lv_bipush (v := 12) hx hb dX8_init_71 (by decide) ?_
  obtain ⟨v73, σ73, e73, hm⟩ := hw_bs2 hm
  refine hw_newaO (atype := .int) (t := 0) (N := 12) (by decide) hx hb rfl (hts _ hw_m27) hK hR hS e73 (Nat.le_of_ble_eq_true rfl) (Nat.le_of_ble_eq_true rfl) (Nat.le_of_ble_eq_true rfl) dX8_init_73 (fun _ hR hS => ?_)
  obtain ⟨σ75, e75, hm⟩ := hw_bs hm
  refine hw_putP hx hb hw_cf8 hts hown hK hR hS e75 (by decide) rfl rfl (hts _ hw_m52) (fun _ h9 => h9) (Or.inr ⟨rfl, hnm, rfl⟩) dX8_init_75 (fun _ _ hR hS => ?_)
  refine hw_aload_n hx hb dX8_init_78 rfl (hl.at 0 rfl) ?_
  refine lv_bipush (v := 12) hx hb dX8_init_79 (by decide) ?_
  obtain ⟨v81, σ81, e81, hm⟩ := hw_bs2 hm
  refine hw_newaO (atype := .int) (t := 0) (N := 12) (by decide) hx hb rfl (hts _ hw_m27) hK hR hS e81 (Nat.le_of_ble_eq_true rfl) (Nat.le_of_ble_eq_true rfl) (Nat.le_of_ble_eq_true rfl) dX8_init_81 (fun _ hR hS => ?_)
  obtain ⟨σ83, e83, hm⟩ := hw_bs hm
  refine hw_putP hx hb hw_cf8 hts hown hK hR hS e83 (by decide) rfl rfl (hts _ hw_m53) (fun _ h9 => h9) (Or.inr ⟨rfl, hnm, rfl⟩) dX8_init_83 (fun _ _ hR hS => ?_)
  refine hw_aload_n hx hb dX8_init_86 rfl (hl.at 0 rfl) ?_
  refine lv_bipush (v := 12) hx hb dX8_init_87 (by decide) ?_
  obtain ⟨v89, σ89, e89, hm⟩ := hw_bs2 hm
  refine hw_newaO (atype := .int) (t := 0) (N := 12) (by decide) hx hb rfl (hts _ hw_m27) hK hR hS e89 (Nat.le_of_ble_eq_true rfl) (Nat.le_of_ble_eq_true rfl) (Nat.le_of_ble_eq_true rfl) dX8_init_89 (fun _ hR hS => ?_)
  obtain ⟨σ91, e91, hm⟩ := hw_bs hm
  refine hw_putP hx hb hw_cf8 hts hown hK hR hS e91 (by decide) rfl rfl (hts _ hw_m54) (fun _ h9 => h9) (Or.inr ⟨rfl, hnm, rfl⟩) dX8_init_91 (fun _ _ hR hS => ?_)
  refine hw_aload_n hx hb dX8_init_94 rfl (hl.at 0 rfl) ?_
  refine lv_iconst (v := 0) hx hb dX8_init_95 (by decide) ?_
  obtain ⟨σ96, e96, hm⟩ := hw_bs hm
  refine hw_putI hx hb hw_cf8 hts hown hK hR hS e96 (by decide) rfl rfl (hts _ hw_m55) (fun _ h9 => h9) (Or.inl rfl) dX8_init_96 (fun _ _ hR hS => ?_)
  exact hw_rWV hx hb hr hlk hR hS hm dX8_init_99
set_option maxRecDepth 100000 in
theorem c8_init (l : Launch) (D : hw_D) (b : Nat) {x0 : Nat} {σ : hw_S} {τ : hw_S} (hm : m8_init x0 σ = some τ) : Met l yX8_init (Cond.code yX8_init cX8_init 1 none :: wsL_law) rm8_init (hw_P1 D b σ [hw_vr b (some x0)]) (hw_QV D b τ) 8 197 (fun q => b ≤ q) := by
  refine hw_start1 (by decide +kernel) (by exact Nat.le_of_ble_eq_true rfl) ?_
  intro p e s m below meth c ls C0 hR hS hl
  have hl : lv_has ls 1 [(0, hw_vr b (some x0))] := by exact hl
  exact w8_init_s hm C0 hR hS ⟨hl, (List.forall_mem_cons.mpr ⟨(fun h => by rw [show (hw_vr b (some x0) : Value).category = 1 from (hw_vr_cat _ _)] at h; cases h), (fun _ h => absurd h List.not_mem_nil)⟩)⟩

abbrev rm4_init : Room := { frames := 1, cells := 3, slots := 124, locals := 24 }
def m4_init (x0 : Nat) (σ : hw_S) : Option hw_S :=
  hw_b2 (hw_naO 21 (0 : Int32) σ) fun v6 σ6 =>
  (hw_pP (hw_q 4) 0 (some x0) (some v6) σ6).bind fun σ8 =>
  (hw_pI (hw_q 4) 1 (some x0) (0 : Int32) σ8).bind fun σ13 =>
  (hw_pI (hw_q 4) 2 (some x0) (0 : Int32) σ13).bind fun σ18 =>
  hw_b2 (hw_naO 21 (120 : Int32) σ18) fun v24 σ24 =>
  (hw_pP (hw_q 4) 3 (some x0) (some v24) σ24).bind fun σ26 =>
  (hw_pI (hw_q 4) 4 (some x0) (0 : Int32) σ26).bind fun σ31 =>
  hw_b2 (hw_naO 21 (4 : Int32) σ31) fun v36 σ36 =>
  (hw_pP (hw_q 4) 5 (some x0) (some v36) σ36).bind fun σ38 =>
  (hw_pI (hw_q 4) 6 (some x0) (0 : Int32) σ38).bind fun σ43 =>
  (hw_pI (hw_q 4) 7 (some x0) (0 : Int32) σ43).bind fun σ48 =>
  some σ48
set_option maxRecDepth 100000 in
theorem w4_init_s {p : Program} {l : Launch} {e : Env} {s : State} {m : MethodId} {args : Array Value} {below : List Frame} {meth : Method} {c : Code} {D : hw_D} {b : Nat} {x0 : Nat} {σ : hw_S} {τ : hw_S} {H : Heap} {locs : List Loc} (hm : m4_init x0 σ = some τ) (C0 : hw_C p s m args meth c D yX4_init cX4_init 1 none) (hR : hw_R D b σ H) (hS : va_S (fun q => b ≤ q) s.heap H locs) {ls : Array Slot} (hl : hw_L ls 1 255 [(0, hw_vr b (some x0))]) : W p l e rm4_init s m args below meth c H locs 0 0 (MQ below (hw_QV D b τ) args s 3 124 (fun q => b ≤ q)) (F0 m 0 ls []) := by
  obtain ⟨hx, hb, hml, hr, hown, hts, hlk, hE, hnm⟩ := id C0
  have hown : s.vm.findClass RX4 = some m.cls := hown
  have hK := hE.1
  unfold m4_init at hm
  refine hw_aload_n hx hb dX4_init_0 rfl (hl.at 0 rfl) ?_
  refine W.objInit hx hb hown (hts _ hw_m58) (hts _ hw_m11) (hts _ hw_m12) rfl (hl.sz.trans hml.symm) rfl dX4_init_1 (Nat.le_of_ble_eq_true rfl) (by simp [hw_vr_cat, Value.category, JFrame.monitorRoom]) ?_
  refine W.eq (g2 := F0 m 4 ls []) rfl ?_
  refine hw_aload_n hx hb dX4_init_4 rfl (hl.at 0 rfl) ?_
  refine lv_iconst (v := 0) hx hb dX4_init_5 (by decide) ?_
  obtain ⟨v6, σ6, e6, hm⟩ := hw_bs2 hm
  refine hw_newaO (atype := .int) (t := 0) (N := 0) (by decide) hx hb rfl (hts _ hw_m27) hK hR hS e6 (Nat.le_of_ble_eq_true rfl) (Nat.le_of_ble_eq_true rfl) (Nat.le_of_ble_eq_true rfl) dX4_init_6 (fun _ hR hS => ?_)
  obtain ⟨σ8, e8, hm⟩ := hw_bs hm
  refine hw_putP hx hb hw_cf4 hts hown hK hR hS e8 (by decide) rfl rfl (hts _ hw_m59) (fun _ h9 => h9) (Or.inl rfl) dX4_init_8 (fun _ _ hR hS => ?_)
  refine hw_aload_n hx hb dX4_init_11 rfl (hl.at 0 rfl) ?_
  refine lv_iconst (v := 0) hx hb dX4_init_12 (by decide) ?_
  obtain ⟨σ13, e13, hm⟩ := hw_bs hm
  refine hw_putI hx hb hw_cf4 hts hown hK hR hS e13 (by decide) rfl rfl (hts _ hw_m60) (fun _ h9 => h9) (Or.inl rfl) dX4_init_13 (fun _ _ hR hS => ?_)
  refine hw_aload_n hx hb dX4_init_16 rfl (hl.at 0 rfl) ?_
  refine lv_iconst (v := 0) hx hb dX4_init_17 (by decide) ?_
  obtain ⟨σ18, e18, hm⟩ := hw_bs hm
  refine hw_putI hx hb hw_cf4 hts hown hK hR hS e18 (by decide) rfl rfl (hts _ hw_m61) (fun _ h9 => h9) (Or.inl rfl) dX4_init_18 (fun _ _ hR hS => ?_)
  refine hw_aload_n hx hb dX4_init_21 rfl (hl.at 0 rfl) ?_
  refine lv_bipush (v := 120) hx hb dX4_init_22 (by decide) ?_
  obtain ⟨v24, σ24, e24, hm⟩ := hw_bs2 hm
  refine hw_newaO (atype := .int) (t := 0) (N := 120) (by decide) hx hb rfl (hts _ hw_m27) hK hR hS e24 (Nat.le_of_ble_eq_true rfl) (Nat.le_of_ble_eq_true rfl) (Nat.le_of_ble_eq_true rfl) dX4_init_24 (fun _ hR hS => ?_)
  obtain ⟨σ26, e26, hm⟩ := hw_bs hm
  refine hw_putP hx hb hw_cf4 hts hown hK hR hS e26 (by decide) rfl rfl (hts _ hw_m62) (fun _ h9 => h9) (Or.inr ⟨rfl, hnm, rfl⟩) dX4_init_26 (fun _ _ hR hS => ?_)
  refine hw_aload_n hx hb dX4_init_29 rfl (hl.at 0 rfl) ?_
  refine lv_iconst (v := 0) hx hb dX4_init_30 (by decide) ?_
  obtain ⟨σ31, e31, hm⟩ := hw_bs hm
  refine hw_putI hx hb hw_cf4 hts hown hK hR hS e31 (by decide) rfl rfl (hts _ hw_m63) (fun _ h9 => h9) (Or.inl rfl) dX4_init_31 (fun _ _ hR hS => ?_)
  refine hw_aload_n hx hb dX4_init_34 rfl (hl.at 0 rfl) ?_
  refine lv_iconst (v := 4) hx hb dX4_init_35 (by decide) ?_
  obtain ⟨v36, σ36, e36, hm⟩ := hw_bs2 hm
  refine hw_newaO (atype := .int) (t := 0) (N := 4) (by decide) hx hb rfl (hts _ hw_m27) hK hR hS e36 (Nat.le_of_ble_eq_true rfl) (Nat.le_of_ble_eq_true rfl) (Nat.le_of_ble_eq_true rfl) dX4_init_36 (fun _ hR hS => ?_)
  obtain ⟨σ38, e38, hm⟩ := hw_bs hm
  refine hw_putP hx hb hw_cf4 hts hown hK hR hS e38 (by decide) rfl rfl (hts _ hw_m64) (fun _ h9 => h9) (Or.inr ⟨rfl, hnm, rfl⟩) dX4_init_38 (fun _ _ hR hS => ?_)
  refine hw_aload_n hx hb dX4_init_41 rfl (hl.at 0 rfl) ?_
  refine lv_iconst (v := 0) hx hb dX4_init_42 (by decide) ?_
  obtain ⟨σ43, e43, hm⟩ := hw_bs hm
  refine hw_putI hx hb hw_cf4 hts hown hK hR hS e43 (by decide) rfl rfl (hts _ hw_m65) (fun _ h9 => h9) (Or.inl rfl) dX4_init_43 (fun _ _ hR hS => ?_)
  refine hw_aload_n hx hb dX4_init_46 rfl (hl.at 0 rfl) ?_
  refine lv_iconst (v := 0) hx hb dX4_init_47 (by decide) ?_
  obtain ⟨σ48, e48, hm⟩ := hw_bs hm
  refine hw_putI hx hb hw_cf4 hts hown hK hR hS e48 (by decide) rfl rfl (hts _ hw_m66) (fun _ h9 => h9) (Or.inl rfl) dX4_init_48 (fun _ _ hR hS => ?_)
  exact hw_rWV hx hb hr hlk hR hS hm dX4_init_51
set_option maxRecDepth 100000 in
theorem c4_init (l : Launch) (D : hw_D) (b : Nat) {x0 : Nat} {σ : hw_S} {τ : hw_S} (hm : m4_init x0 σ = some τ) : Met l yX4_init (Cond.code yX4_init cX4_init 1 none :: wsL_law) rm4_init (hw_P1 D b σ [hw_vr b (some x0)]) (hw_QV D b τ) 3 124 (fun q => b ≤ q) := by
  refine hw_start1 (by decide +kernel) (by exact Nat.le_of_ble_eq_true rfl) ?_
  intro p e s m below meth c ls C0 hR hS hl
  have hl : lv_has ls 1 [(0, hw_vr b (some x0))] := by exact hl
  exact w4_init_s hm C0 hR hS ⟨hl, (List.forall_mem_cons.mpr ⟨(fun h => by rw [show (hw_vr b (some x0) : Value).category = 1 from (hw_vr_cat _ _)] at h; cases h), (fun _ h => absurd h List.not_mem_nil)⟩)⟩

abbrev rm10_init : Room := { frames := 1, cells := 1, slots := 20, locals := 24 }
def m10_init (x0 : Nat) (σ : hw_S) : Option hw_S :=
  hw_b2 (hw_naO 21 (20 : Int32) σ) fun v7 σ7 =>
  (hw_pP (hw_q 10) 0 (some x0) (some v7) σ7).bind fun σ9 =>
  (hw_pI (hw_q 10) 1 (some x0) (0 : Int32) σ9).bind fun σ14 =>
  some σ14
set_option maxRecDepth 100000 in
theorem w10_init_s {p : Program} {l : Launch} {e : Env} {s : State} {m : MethodId} {args : Array Value} {below : List Frame} {meth : Method} {c : Code} {D : hw_D} {b : Nat} {x0 : Nat} {σ : hw_S} {τ : hw_S} {H : Heap} {locs : List Loc} (hm : m10_init x0 σ = some τ) (C0 : hw_C p s m args meth c D yX10_init cX10_init 1 none) (hR : hw_R D b σ H) (hS : va_S (fun q => b ≤ q) s.heap H locs) {ls : Array Slot} (hl : hw_L ls 1 255 [(0, hw_vr b (some x0))]) : W p l e rm10_init s m args below meth c H locs 0 0 (MQ below (hw_QV D b τ) args s 1 20 (fun q => b ≤ q)) (F0 m 0 ls []) := by
  obtain ⟨hx, hb, hml, hr, hown, hts, hlk, hE, hnm⟩ := id C0
  have hown : s.vm.findClass RX10 = some m.cls := hown
  have hK := hE.1
  unfold m10_init at hm
  refine hw_aload_n hx hb dX10_init_0 rfl (hl.at 0 rfl) ?_
  refine W.objInit hx hb hown (hts _ hw_m69) (hts _ hw_m11) (hts _ hw_m12) rfl (hl.sz.trans hml.symm) rfl dX10_init_1 (Nat.le_of_ble_eq_true rfl) (by simp [hw_vr_cat, Value.category, JFrame.monitorRoom]) ?_
  refine W.eq (g2 := F0 m 4 ls []) rfl ?_
  refine hw_aload_n hx hb dX10_init_4 rfl (hl.at 0 rfl) ?_
  refine lv_bipush (v := 20) hx hb dX10_init_5 (by decide) ?_
  obtain ⟨v7, σ7, e7, hm⟩ := hw_bs2 hm
  refine hw_newaO (atype := .int) (t := 0) (N := 20) (by decide) hx hb rfl (hts _ hw_m27) hK hR hS e7 (Nat.le_of_ble_eq_true rfl) (Nat.le_of_ble_eq_true rfl) (Nat.le_of_ble_eq_true rfl) dX10_init_7 (fun _ hR hS => ?_)
  obtain ⟨σ9, e9, hm⟩ := hw_bs hm
  refine hw_putP hx hb hw_cf10 hts hown hK hR hS e9 (by decide) rfl rfl (hts _ hw_m70) (fun _ h9 => h9) (Or.inr ⟨rfl, hnm, rfl⟩) dX10_init_9 (fun _ _ hR hS => ?_)
  refine hw_aload_n hx hb dX10_init_12 rfl (hl.at 0 rfl) ?_
  refine lv_iconst (v := 0) hx hb dX10_init_13 (by decide) ?_
  obtain ⟨σ14, e14, hm⟩ := hw_bs hm
  refine hw_putI hx hb hw_cf10 hts hown hK hR hS e14 (by decide) rfl rfl (hts _ hw_m71) (fun _ h9 => h9) (Or.inl rfl) dX10_init_14 (fun _ _ hR hS => ?_)
  exact hw_rWV hx hb hr hlk hR hS hm dX10_init_17
set_option maxRecDepth 100000 in
theorem c10_init (l : Launch) (D : hw_D) (b : Nat) {x0 : Nat} {σ : hw_S} {τ : hw_S} (hm : m10_init x0 σ = some τ) : Met l yX10_init (Cond.code yX10_init cX10_init 1 none :: wsL_law) rm10_init (hw_P1 D b σ [hw_vr b (some x0)]) (hw_QV D b τ) 1 20 (fun q => b ≤ q) := by
  refine hw_start1 (by decide +kernel) (by exact Nat.le_of_ble_eq_true rfl) ?_
  intro p e s m below meth c ls C0 hR hS hl
  have hl : lv_has ls 1 [(0, hw_vr b (some x0))] := by exact hl
  exact w10_init_s hm C0 hR hS ⟨hl, (List.forall_mem_cons.mpr ⟨(fun h => by rw [show (hw_vr b (some x0) : Value).category = 1 from (hw_vr_cat _ _)] at h; cases h), (fun _ h => absurd h List.not_mem_nil)⟩)⟩

abbrev rm11_init : Room := { frames := 2, cells := 40, slots := 1766, locals := 44 }
def m11_init (x0 : Nat) (σ : hw_S) : Option hw_S :=
  hw_b2 (hw_nwO 9 0 σ) fun v5 σ5 =>
  (m8_init v5 σ5).bind fun σ9 =>
  (hw_pP (hw_q 11) 0 (some x0) (some v5) σ9).bind fun σ12 =>
  hw_b2 (hw_nwO 9 0 σ12) fun v16 σ16 =>
  (m8_init v16 σ16).bind fun σ20 =>
  (hw_pP (hw_q 11) 1 (some x0) (some v16) σ20).bind fun σ23 =>
  (hw_tf (0 : Int32)).bind fun _ =>
  (hw_pI (hw_q 11) 2 (some x0) (0 : Int32) σ23).bind fun σ28 =>
  hw_b2 (hw_nwO 5 0 σ28) fun v32 σ32 =>
  (m4_init v32 σ32).bind fun σ36 =>
  (hw_pP (hw_q 11) 3 (some x0) (some v32) σ36).bind fun σ39 =>
  hw_b2 (hw_nwO 11 0 σ39) fun v43 σ43 =>
  (m10_init v43 σ43).bind fun σ47 =>
  (hw_pP (hw_q 11) 4 (some x0) (some v43) σ47).bind fun σ50 =>
  hw_b2 (hw_naO 21 (20 : Int32) σ50) fun v56 σ56 =>
  (hw_pP (hw_q 11) 5 (some x0) (some v56) σ56).bind fun σ58 =>
  hw_b2 (hw_naO 21 (20 : Int32) σ58) fun v64 σ64 =>
  (hw_pP (hw_q 11) 6 (some x0) (some v64) σ64).bind fun σ66 =>
  hw_b2 (hw_naO 21 (20 : Int32) σ66) fun v72 σ72 =>
  (hw_pP (hw_q 11) 7 (some x0) (some v72) σ72).bind fun σ74 =>
  hw_b2 (hw_naO 21 (61 : Int32) σ74) fun v80 σ80 =>
  (hw_pP (hw_q 11) 8 (some x0) (some v80) σ80).bind fun σ82 =>
  hw_b2 (hw_naO 21 (61 : Int32) σ82) fun v88 σ88 =>
  (hw_pP (hw_q 11) 9 (some x0) (some v88) σ88).bind fun σ90 =>
  hw_b2 (hw_naO 21 (100 : Int32) σ90) fun v96 σ96 =>
  (hw_pP (hw_q 11) 10 (some x0) (some v96) σ96).bind fun σ98 =>
  hw_b2 (hw_naO 21 (100 : Int32) σ98) fun v104 σ104 =>
  (hw_pP (hw_q 11) 11 (some x0) (some v104) σ104).bind fun σ106 =>
  hw_b2 (hw_mn2 (8 : Int32) (100 : Int32) σ106) fun v114 σ114 =>
  (hw_pP (hw_q 11) 12 (some x0) (some v114) σ114).bind fun σ118 =>
  some σ118

abbrev rm12_init : Room := { frames := 1, cells := 13, slots := 4071, locals := 24 }
def m12_init (x0 : Nat) (σ : hw_S) : Option hw_S :=
  hw_b2 (hw_naO 21 (1396 : Int32) σ) fun v8 σ8 =>
  (hw_pP (hw_q 12) 1 (some x0) (some v8) σ8).bind fun σ10 =>
  hw_b2 (hw_naO 21 (1396 : Int32) σ10) fun v17 σ17 =>
  (hw_pP (hw_q 12) 2 (some x0) (some v17) σ17).bind fun σ19 =>
  hw_b2 (hw_naO 21 (5 : Int32) σ19) fun v24 σ24 =>
  (hw_pP (hw_q 12) 9 (some x0) (some v24) σ24).bind fun σ26 =>
  hw_b2 (hw_naO 22 (64 : Int32) σ26) fun v32 σ32 =>
  (hw_pP (hw_q 12) 10 (some x0) (some v32) σ32).bind fun σ34 =>
  hw_b2 (hw_naO 21 (20 : Int32) σ34) fun v40 σ40 =>
  (hw_pP (hw_q 12) 11 (some x0) (some v40) σ40).bind fun σ42 =>
  hw_b2 (hw_naO 21 (20 : Int32) σ42) fun v48 σ48 =>
  (hw_pP (hw_q 12) 12 (some x0) (some v48) σ48).bind fun σ50 =>
  hw_b2 (hw_naO 21 (20 : Int32) σ50) fun v56 σ56 =>
  (hw_pP (hw_q 12) 13 (some x0) (some v56) σ56).bind fun σ58 =>
  hw_b2 (hw_naO 21 (61 : Int32) σ58) fun v64 σ64 =>
  (hw_pP (hw_q 12) 16 (some x0) (some v64) σ64).bind fun σ66 =>
  hw_b2 (hw_naO 21 (61 : Int32) σ66) fun v72 σ72 =>
  (hw_pP (hw_q 12) 17 (some x0) (some v72) σ72).bind fun σ74 =>
  hw_b2 (hw_naO 21 (100 : Int32) σ74) fun v80 σ80 =>
  (hw_pP (hw_q 12) 18 (some x0) (some v80) σ80).bind fun σ82 =>
  hw_b2 (hw_naO 21 (900 : Int32) σ82) fun v89 σ89 =>
  (hw_pP (hw_q 12) 19 (some x0) (some v89) σ89).bind fun σ91 =>
  hw_b2 (hw_naO 21 (8 : Int32) σ91) fun v97 σ97 =>
  (hw_pP (hw_q 12) 20 (some x0) (some v97) σ97).bind fun σ99 =>
  hw_b2 (hw_naO 21 (20 : Int32) σ99) fun v105 σ105 =>
  (hw_pP (hw_q 12) 21 (some x0) (some v105) σ105).bind fun σ107 =>
  some σ107
set_option maxRecDepth 100000 in
theorem w12_init_s {p : Program} {l : Launch} {e : Env} {s : State} {m : MethodId} {args : Array Value} {below : List Frame} {meth : Method} {c : Code} {D : hw_D} {b : Nat} {x0 : Nat} {σ : hw_S} {τ : hw_S} {H : Heap} {locs : List Loc} (hm : m12_init x0 σ = some τ) (C0 : hw_C p s m args meth c D yX12_init cX12_init 1 none) (hR : hw_R D b σ H) (hS : va_S (fun q => b ≤ q) s.heap H locs) {ls : Array Slot} (hl : hw_L ls 1 255 [(0, hw_vr b (some x0))]) : W p l e rm12_init s m args below meth c H locs 0 0 (MQ below (hw_QV D b τ) args s 13 4071 (fun q => b ≤ q)) (F0 m 0 ls []) := by
  obtain ⟨hx, hb, hml, hr, hown, hts, hlk, hE, hnm⟩ := id C0
  have hown : s.vm.findClass RX12 = some m.cls := hown
  have hK := hE.1
  unfold m12_init at hm
  refine hw_aload_n hx hb dX12_init_0 rfl (hl.at 0 rfl) ?_
  refine W.objInit hx hb hown (hts _ hw_m75) (hts _ hw_m11) (hts _ hw_m12) rfl (hl.sz.trans hml.symm) rfl dX12_init_1 (Nat.le_of_ble_eq_true rfl) (by simp [hw_vr_cat, Value.category, JFrame.monitorRoom]) ?_
  refine W.eq (g2 := F0 m 4 ls []) rfl ?_
  refine hw_aload_n hx hb dX12_init_4 rfl (hl.at 0 rfl) ?_
  refine lv_sipush (v := 1396) hx hb dX12_init_5 (by decide) ?_
  obtain ⟨v8, σ8, e8, hm⟩ := hw_bs2 hm
  refine hw_newaO (atype := .int) (t := 0) (N := 1396) (by decide) hx hb rfl (hts _ hw_m27) hK hR hS e8 (Nat.le_of_ble_eq_true rfl) (Nat.le_of_ble_eq_true rfl) (Nat.le_of_ble_eq_true rfl) dX12_init_8 (fun _ hR hS => ?_)
  obtain ⟨σ10, e10, hm⟩ := hw_bs hm
  refine hw_putP hx hb hw_cf12 hts hown hK hR hS e10 (by decide) rfl rfl (hts _ hw_m76) (fun _ h9 => h9) (Or.inr ⟨rfl, hnm, rfl⟩) dX12_init_10 (fun _ _ hR hS => ?_)
  refine hw_aload_n hx hb dX12_init_13 rfl (hl.at 0 rfl) ?_
  refine lv_sipush (v := 1396) hx hb dX12_init_14 (by decide) ?_
  obtain ⟨v17, σ17, e17, hm⟩ := hw_bs2 hm
  refine hw_newaO (atype := .int) (t := 0) (N := 1396) (by decide) hx hb rfl (hts _ hw_m27) hK hR hS e17 (Nat.le_of_ble_eq_true rfl) (Nat.le_of_ble_eq_true rfl) (Nat.le_of_ble_eq_true rfl) dX12_init_17 (fun _ hR hS => ?_)
  obtain ⟨σ19, e19, hm⟩ := hw_bs hm
  refine hw_putP hx hb hw_cf12 hts hown hK hR hS e19 (by decide) rfl rfl (hts _ hw_m77) (fun _ h9 => h9) (Or.inr ⟨rfl, hnm, rfl⟩) dX12_init_19 (fun _ _ hR hS => ?_)
  refine hw_aload_n hx hb dX12_init_22 rfl (hl.at 0 rfl) ?_
  refine lv_iconst (v := 5) hx hb dX12_init_23 (by decide) ?_
  obtain ⟨v24, σ24, e24, hm⟩ := hw_bs2 hm
  refine hw_newaO (atype := .int) (t := 0) (N := 5) (by decide) hx hb rfl (hts _ hw_m27) hK hR hS e24 (Nat.le_of_ble_eq_true rfl) (Nat.le_of_ble_eq_true rfl) (Nat.le_of_ble_eq_true rfl) dX12_init_24 (fun _ hR hS => ?_)
  obtain ⟨σ26, e26, hm⟩ := hw_bs hm
  refine hw_putP hx hb hw_cf12 hts hown hK hR hS e26 (by decide) rfl rfl (hts _ hw_m78) (fun _ h9 => h9) (Or.inr ⟨rfl, hnm, rfl⟩) dX12_init_26 (fun _ _ hR hS => ?_)
  refine hw_aload_n hx hb dX12_init_29 rfl (hl.at 0 rfl) ?_
  refine lv_bipush (v := 64) hx hb dX12_init_30 (by decide) ?_
  obtain ⟨v32, σ32, e32, hm⟩ := hw_bs2 hm
  refine hw_newaO (atype := .boolean) (t := 1) (N := 64) (by decide) hx hb rfl (hts _ hw_m79) hK hR hS e32 (Nat.le_of_ble_eq_true rfl) (Nat.le_of_ble_eq_true rfl) (Nat.le_of_ble_eq_true rfl) dX12_init_32 (fun _ hR hS => ?_)
  obtain ⟨σ34, e34, hm⟩ := hw_bs hm
  refine hw_putP hx hb hw_cf12 hts hown hK hR hS e34 (by decide) rfl rfl (hts _ hw_m80) (fun _ h9 => h9) (Or.inr ⟨rfl, hnm, rfl⟩) dX12_init_34 (fun _ _ hR hS => ?_)
  refine hw_aload_n hx hb dX12_init_37 rfl (hl.at 0 rfl) ?_
  refine lv_bipush (v := 20) hx hb dX12_init_38 (by decide) ?_
  obtain ⟨v40, σ40, e40, hm⟩ := hw_bs2 hm
  refine hw_newaO (atype := .int) (t := 0) (N := 20) (by decide) hx hb rfl (hts _ hw_m27) hK hR hS e40 (Nat.le_of_ble_eq_true rfl) (Nat.le_of_ble_eq_true rfl) (Nat.le_of_ble_eq_true rfl) dX12_init_40 (fun _ hR hS => ?_)
  obtain ⟨σ42, e42, hm⟩ := hw_bs hm
  refine hw_putP hx hb hw_cf12 hts hown hK hR hS e42 (by decide) rfl rfl (hts _ hw_m81) (fun _ h9 => h9) (Or.inr ⟨rfl, hnm, rfl⟩) dX12_init_42 (fun _ _ hR hS => ?_)
  refine hw_aload_n hx hb dX12_init_45 rfl (hl.at 0 rfl) ?_
  refine lv_bipush (v := 20) hx hb dX12_init_46 (by decide) ?_
  obtain ⟨v48, σ48, e48, hm⟩ := hw_bs2 hm
  refine hw_newaO (atype := .int) (t := 0) (N := 20) (by decide) hx hb rfl (hts _ hw_m27) hK hR hS e48 (Nat.le_of_ble_eq_true rfl) (Nat.le_of_ble_eq_true rfl) (Nat.le_of_ble_eq_true rfl) dX12_init_48 (fun _ hR hS => ?_)
  obtain ⟨σ50, e50, hm⟩ := hw_bs hm
  refine hw_putP hx hb hw_cf12 hts hown hK hR hS e50 (by decide) rfl rfl (hts _ hw_m82) (fun _ h9 => h9) (Or.inr ⟨rfl, hnm, rfl⟩) dX12_init_50 (fun _ _ hR hS => ?_)
  refine hw_aload_n hx hb dX12_init_53 rfl (hl.at 0 rfl) ?_
  refine lv_bipush (v := 20) hx hb dX12_init_54 (by decide) ?_
  obtain ⟨v56, σ56, e56, hm⟩ := hw_bs2 hm
  refine hw_newaO (atype := .int) (t := 0) (N := 20) (by decide) hx hb rfl (hts _ hw_m27) hK hR hS e56 (Nat.le_of_ble_eq_true rfl) (Nat.le_of_ble_eq_true rfl) (Nat.le_of_ble_eq_true rfl) dX12_init_56 (fun _ hR hS => ?_)
  obtain ⟨σ58, e58, hm⟩ := hw_bs hm
  refine hw_putP hx hb hw_cf12 hts hown hK hR hS e58 (by decide) rfl rfl (hts _ hw_m83) (fun _ h9 => h9) (Or.inr ⟨rfl, hnm, rfl⟩) dX12_init_58 (fun _ _ hR hS => ?_)
  refine hw_aload_n hx hb dX12_init_61 rfl (hl.at 0 rfl) ?_
  refine lv_bipush (v := 61) hx hb dX12_init_62 (by decide) ?_
  obtain ⟨v64, σ64, e64, hm⟩ := hw_bs2 hm
  refine hw_newaO (atype := .int) (t := 0) (N := 61) (by decide) hx hb rfl (hts _ hw_m27) hK hR hS e64 (Nat.le_of_ble_eq_true rfl) (Nat.le_of_ble_eq_true rfl) (Nat.le_of_ble_eq_true rfl) dX12_init_64 (fun _ hR hS => ?_)
  obtain ⟨σ66, e66, hm⟩ := hw_bs hm
  refine hw_putP hx hb hw_cf12 hts hown hK hR hS e66 (by decide) rfl rfl (hts _ hw_m84) (fun _ h9 => h9) (Or.inr ⟨rfl, hnm, rfl⟩) dX12_init_66 (fun _ _ hR hS => ?_)
  refine hw_aload_n hx hb dX12_init_69 rfl (hl.at 0 rfl) ?_
  refine lv_bipush (v := 61) hx hb dX12_init_70 (by decide) ?_
  obtain ⟨v72, σ72, e72, hm⟩ := hw_bs2 hm
  refine hw_newaO (atype := .int) (t := 0) (N := 61) (by decide) hx hb rfl (hts _ hw_m27) hK hR hS e72 (Nat.le_of_ble_eq_true rfl) (Nat.le_of_ble_eq_true rfl) (Nat.le_of_ble_eq_true rfl) dX12_init_72 (fun _ hR hS => ?_)
  obtain ⟨σ74, e74, hm⟩ := hw_bs hm
  refine hw_putP hx hb hw_cf12 hts hown hK hR hS e74 (by decide) rfl rfl (hts _ hw_m85) (fun _ h9 => h9) (Or.inr ⟨rfl, hnm, rfl⟩) dX12_init_74 (fun _ _ hR hS => ?_)
  refine hw_aload_n hx hb dX12_init_77 rfl (hl.at 0 rfl) ?_
  refine lv_bipush (v := 100) hx hb dX12_init_78 (by decide) ?_
  obtain ⟨v80, σ80, e80, hm⟩ := hw_bs2 hm
  refine hw_newaO (atype := .int) (t := 0) (N := 100) (by decide) hx hb rfl (hts _ hw_m27) hK hR hS e80 (Nat.le_of_ble_eq_true rfl) (Nat.le_of_ble_eq_true rfl) (Nat.le_of_ble_eq_true rfl) dX12_init_80 (fun _ hR hS => ?_)
  obtain ⟨σ82, e82, hm⟩ := hw_bs hm
  refine hw_putP hx hb hw_cf12 hts hown hK hR hS e82 (by decide) rfl rfl (hts _ hw_m86) (fun _ h9 => h9) (Or.inr ⟨rfl, hnm, rfl⟩) dX12_init_82 (fun _ _ hR hS => ?_)
  refine hw_aload_n hx hb dX12_init_85 rfl (hl.at 0 rfl) ?_
  refine lv_sipush (v := 900) hx hb dX12_init_86 (by decide) ?_
  obtain ⟨v89, σ89, e89, hm⟩ := hw_bs2 hm
  refine hw_newaO (atype := .int) (t := 0) (N := 900) (by decide) hx hb rfl (hts _ hw_m27) hK hR hS e89 (Nat.le_of_ble_eq_true rfl) (Nat.le_of_ble_eq_true rfl) (Nat.le_of_ble_eq_true rfl) dX12_init_89 (fun _ hR hS => ?_)
  obtain ⟨σ91, e91, hm⟩ := hw_bs hm
  refine hw_putP hx hb hw_cf12 hts hown hK hR hS e91 (by decide) rfl rfl (hts _ hw_m87) (fun _ h9 => h9) (Or.inr ⟨rfl, hnm, rfl⟩) dX12_init_91 (fun _ _ hR hS => ?_)
  refine hw_aload_n hx hb dX12_init_94 rfl (hl.at 0 rfl) ?_
  refine lv_bipush (v := 8) hx hb dX12_init_95 (by decide) ?_
  obtain ⟨v97, σ97, e97, hm⟩ := hw_bs2 hm
  refine hw_newaO (atype := .int) (t := 0) (N := 8) (by decide) hx hb rfl (hts _ hw_m27) hK hR hS e97 (Nat.le_of_ble_eq_true rfl) (Nat.le_of_ble_eq_true rfl) (Nat.le_of_ble_eq_true rfl) dX12_init_97 (fun _ hR hS => ?_)
  obtain ⟨σ99, e99, hm⟩ := hw_bs hm
  refine hw_putP hx hb hw_cf12 hts hown hK hR hS e99 (by decide) rfl rfl (hts _ hw_m88) (fun _ h9 => h9) (Or.inr ⟨rfl, hnm, rfl⟩) dX12_init_99 (fun _ _ hR hS => ?_)
  refine hw_aload_n hx hb dX12_init_102 rfl (hl.at 0 rfl) ?_
  refine lv_bipush (v := 20) hx hb dX12_init_103 (by decide) ?_
  obtain ⟨v105, σ105, e105, hm⟩ := hw_bs2 hm
  refine hw_newaO (atype := .int) (t := 0) (N := 20) (by decide) hx hb rfl (hts _ hw_m27) hK hR hS e105 (Nat.le_of_ble_eq_true rfl) (Nat.le_of_ble_eq_true rfl) (Nat.le_of_ble_eq_true rfl) dX12_init_105 (fun _ hR hS => ?_)
  obtain ⟨σ107, e107, hm⟩ := hw_bs hm
  refine hw_putP hx hb hw_cf12 hts hown hK hR hS e107 (by decide) rfl rfl (hts _ hw_m89) (fun _ h9 => h9) (Or.inr ⟨rfl, hnm, rfl⟩) dX12_init_107 (fun _ _ hR hS => ?_)
  exact hw_rWV hx hb hr hlk hR hS hm dX12_init_110
set_option maxRecDepth 100000 in
theorem c12_init (l : Launch) (D : hw_D) (b : Nat) {x0 : Nat} {σ : hw_S} {τ : hw_S} (hm : m12_init x0 σ = some τ) : Met l yX12_init (Cond.code yX12_init cX12_init 1 none :: wsL_law) rm12_init (hw_P1 D b σ [hw_vr b (some x0)]) (hw_QV D b τ) 13 4071 (fun q => b ≤ q) := by
  refine hw_start1 (by decide +kernel) (by exact Nat.le_of_ble_eq_true rfl) ?_
  intro p e s m below meth c ls C0 hR hS hl
  have hl : lv_has ls 1 [(0, hw_vr b (some x0))] := by exact hl
  exact w12_init_s hm C0 hR hS ⟨hl, (List.forall_mem_cons.mpr ⟨(fun h => by rw [show (hw_vr b (some x0) : Value).category = 1 from (hw_vr_cat _ _)] at h; cases h), (fun _ h => absurd h List.not_mem_nil)⟩)⟩

abbrev rm11_isWithin : Room := { frames := 0, cells := 0, slots := 0, locals := 0 }
def m11_isWithin_b15 (t0 : Int32) : Option Int32 :=
  (hw_tf t0).bind fun _ =>
  some t0
set_option maxRecDepth 100000 in
theorem w11_isWithin_b15 {p : Program} {l : Launch} {e : Env} {s : State} {m : MethodId} {args : Array Value} {below : List Frame} {meth : Method} {c : Code} {D : hw_D} {r : Int32} (C0 : hw_C p s m args meth c D yX11_isWithin cX11_isWithin 3 (some .boolean)) {t0 : Int32} (hm : m11_isWithin_b15 t0 = some r) {ls : Array Slot} (hl : hw_L ls 3 255 []) : W p l e rm11_isWithin s m args below meth c s.heap [] 0 0 (MQ below (hw_RI r) args s 0 0 hw_nof) (F0 m 15 ls [.int t0]) := by
  obtain ⟨hx, hb, hml, hr, hown, hts, hlk, hE, hnm⟩ := id C0
  have hown : s.vm.findClass RX11 = some m.cls := hown
  unfold m11_isWithin_b15 at hm
  obtain ⟨_, z15, hm⟩ := hw_bs hm
  exact hw_rRZ hx hb hr hlk z15 hm dX11_isWithin_15
def m11_isWithin_b14 : Option Int32 :=
  m11_isWithin_b15 (0 : Int32)
set_option maxRecDepth 100000 in
theorem w11_isWithin_b14 {p : Program} {l : Launch} {e : Env} {s : State} {m : MethodId} {args : Array Value} {below : List Frame} {meth : Method} {c : Code} {D : hw_D} {r : Int32} (C0 : hw_C p s m args meth c D yX11_isWithin cX11_isWithin 3 (some .boolean)) (hm : m11_isWithin_b14  = some r) {ls : Array Slot} (hl : hw_L ls 3 255 []) : W p l e rm11_isWithin s m args below meth c s.heap [] 0 0 (MQ below (hw_RI r) args s 0 0 hw_nof) (F0 m 14 ls []) := by
  obtain ⟨hx, hb, hml, hr, hown, hts, hlk, hE, hnm⟩ := id C0
  have hown : s.vm.findClass RX11 = some m.cls := hown
  unfold m11_isWithin_b14 at hm
  refine lv_iconst (v := 0) hx hb dX11_isWithin_14 (by decide) ?_
  exact w11_isWithin_b15 C0 hm (hl.sub [] rfl)
def m11_isWithin (l0 : Int32) (l1 : Int32) (l2 : Int32) : Option Int32 :=
  (if l0 < l1 then
  m11_isWithin_b14 
  else
  (if l2 < l0 then
  m11_isWithin_b14 
  else
  m11_isWithin_b15 (1 : Int32)))
set_option maxRecDepth 100000 in
theorem w11_isWithin_s {p : Program} {l : Launch} {e : Env} {s : State} {m : MethodId} {args : Array Value} {below : List Frame} {meth : Method} {c : Code} {D : hw_D} {l0 : Int32} {l1 : Int32} {l2 : Int32} {r : Int32} (hm : m11_isWithin l0 l1 l2 = some r) (C0 : hw_C p s m args meth c D yX11_isWithin cX11_isWithin 3 (some .boolean)) {ls : Array Slot} (hl : hw_L ls 3 255 [(0, .int l0), (1, .int l1), (2, .int l2)]) : W p l e rm11_isWithin s m args below meth c s.heap [] 0 0 (MQ below (hw_RI r) args s 0 0 hw_nof) (F0 m 0 ls []) := by
  obtain ⟨hx, hb, hml, hr, hown, hts, hlk, hE, hnm⟩ := id C0
  have hown : s.vm.findClass RX11 = some m.cls := hown
  unfold m11_isWithin at hm
  refine lv_iload_n hx hb dX11_isWithin_0 rfl (hl.at 0 rfl) ?_
  refine lv_iload_n hx hb dX11_isWithin_1 rfl (hl.at 1 rfl) ?_
  refine lv_icmp_lt (tgt := 14) hx hb dX11_isWithin_2 (by decide) (fun c2 => ?_) (fun c2 => ?_)
  · have hm := hw_ip hm c2
    exact w11_isWithin_b14 C0 hm (hl.sub [] rfl)
  · have hm := hw_in hm c2
    refine lv_iload_n hx hb dX11_isWithin_5 rfl (hl.at 0 rfl) ?_
    refine lv_iload_n hx hb dX11_isWithin_6 rfl (hl.at 2 rfl) ?_
    refine lv_icmp_gt (tgt := 14) hx hb dX11_isWithin_7 (by decide) (fun c7 => ?_) (fun c7 => ?_)
    · have hm := hw_ip hm c7
      exact w11_isWithin_b14 C0 hm (hl.sub [] rfl)
    · have hm := hw_in hm c7
      refine lv_iconst (v := 1) hx hb dX11_isWithin_10 (by decide) ?_
      refine lv_goto (tgt := 15) hx hb dX11_isWithin_11 (by decide) ?_
      exact w11_isWithin_b15 C0 hm (hl.sub [] rfl)
set_option maxRecDepth 100000 in
theorem c11_isWithin (l : Launch) (D : hw_D) {l0 : Int32} {l1 : Int32} {l2 : Int32} {r : Int32} (hm : m11_isWithin l0 l1 l2 = some r) : Met l yX11_isWithin (Cond.code yX11_isWithin cX11_isWithin 3 (some .boolean) :: wsL_law) rm11_isWithin (hw_P0 D [.int l0, .int l1, .int l2]) (hw_RI r) 0 0 hw_nof := by
  refine hw_start0 (by decide +kernel) (by exact Nat.le_of_ble_eq_true rfl) ?_
  intro p e s m below meth c ls C0 hl
  have hl : lv_has ls 3 [(0, .int l0), (1, .int l1), (2, .int l2)] := by exact hl
  exact w11_isWithin_s hm C0 ⟨hl, (List.forall_mem_cons.mpr ⟨(fun h => absurd (show (1 : Nat) = 2 from h) (by decide)), (List.forall_mem_cons.mpr ⟨(fun h => absurd (show (1 : Nat) = 2 from h) (by decide)), (List.forall_mem_cons.mpr ⟨(fun h => absurd (show (1 : Nat) = 2 from h) (by decide)), (fun _ h => absurd h List.not_mem_nil)⟩)⟩)⟩)⟩

abbrev rm9_init : Room := { frames := 1, cells := 0, slots := 0, locals := 24 }
def m9_init (x0 : Nat) (l1 : Int32) (l2 : Int32) (σ : hw_S) : Option hw_S :=
  (hw_pI (hw_q 9) 0 (some x0) l1 σ).bind fun σ6 =>
  (hw_pI (hw_q 9) 1 (some x0) l2 σ6).bind fun σ11 =>
  some σ11
set_option maxRecDepth 100000 in
theorem w9_init_s {p : Program} {l : Launch} {e : Env} {s : State} {m : MethodId} {args : Array Value} {below : List Frame} {meth : Method} {c : Code} {D : hw_D} {b : Nat} {x0 : Nat} {l1 : Int32} {l2 : Int32} {σ : hw_S} {τ : hw_S} {H : Heap} {locs : List Loc} (hm : m9_init x0 l1 l2 σ = some τ) (C0 : hw_C p s m args meth c D yX9_init cX9_init 3 none) (hR : hw_R D b σ H) (hS : va_S (fun q => b ≤ q) s.heap H locs) {ls : Array Slot} (hl : hw_L ls 3 255 [(0, hw_vr b (some x0)), (1, .int l1), (2, .int l2)]) : W p l e rm9_init s m args below meth c H locs 0 0 (MQ below (hw_QV D b τ) args s 0 0 (fun q => b ≤ q)) (F0 m 0 ls []) := by
  obtain ⟨hx, hb, hml, hr, hown, hts, hlk, hE, hnm⟩ := id C0
  have hown : s.vm.findClass RX9 = some m.cls := hown
  have hK := hE.1
  unfold m9_init at hm
  refine hw_aload_n hx hb dX9_init_0 rfl (hl.at 0 rfl) ?_
  refine W.objInit hx hb hown (hts _ hw_m105) (hts _ hw_m11) (hts _ hw_m12) rfl (hl.sz.trans hml.symm) rfl dX9_init_1 (Nat.le_of_ble_eq_true rfl) (by simp [hw_vr_cat, Value.category, JFrame.monitorRoom]) ?_
  refine W.eq (g2 := F0 m 4 ls []) rfl ?_
  refine hw_aload_n hx hb dX9_init_4 rfl (hl.at 0 rfl) ?_
  refine lv_iload_n hx hb dX9_init_5 rfl (hl.at 1 rfl) ?_
  obtain ⟨σ6, e6, hm⟩ := hw_bs hm
  refine hw_putI hx hb hw_cf9 hts hown hK hR hS e6 (by decide) rfl rfl (hts _ hw_m106) (fun _ h9 => h9) (Or.inr ⟨rfl, hnm, rfl⟩) dX9_init_6 (fun _ _ hR hS => ?_)
  refine hw_aload_n hx hb dX9_init_9 rfl (hl.at 0 rfl) ?_
  refine lv_iload_n hx hb dX9_init_10 rfl (hl.at 2 rfl) ?_
  obtain ⟨σ11, e11, hm⟩ := hw_bs hm
  refine hw_putI hx hb hw_cf9 hts hown hK hR hS e11 (by decide) rfl rfl (hts _ hw_m107) (fun _ h9 => h9) (Or.inr ⟨rfl, hnm, rfl⟩) dX9_init_11 (fun _ _ hR hS => ?_)
  exact hw_rWV hx hb hr hlk hR hS hm dX9_init_14
set_option maxRecDepth 100000 in
theorem c9_init (l : Launch) (D : hw_D) (b : Nat) {x0 : Nat} {l1 : Int32} {l2 : Int32} {σ : hw_S} {τ : hw_S} (hm : m9_init x0 l1 l2 σ = some τ) : Met l yX9_init (Cond.code yX9_init cX9_init 3 none :: wsL_law) rm9_init (hw_P1 D b σ [hw_vr b (some x0), .int l1, .int l2]) (hw_QV D b τ) 0 0 (fun q => b ≤ q) := by
  refine hw_start1 (by decide +kernel) (by exact Nat.le_of_ble_eq_true rfl) ?_
  intro p e s m below meth c ls C0 hR hS hl
  have hl : lv_has ls 3 [(0, hw_vr b (some x0)), (1, .int l1), (2, .int l2)] := by exact hl
  exact w9_init_s hm C0 hR hS ⟨hl, (List.forall_mem_cons.mpr ⟨(fun h => by rw [show (hw_vr b (some x0) : Value).category = 1 from (hw_vr_cat _ _)] at h; cases h), (List.forall_mem_cons.mpr ⟨(fun h => absurd (show (1 : Nat) = 2 from h) (by decide)), (List.forall_mem_cons.mpr ⟨(fun h => absurd (show (1 : Nat) = 2 from h) (by decide)), (fun _ h => absurd h List.not_mem_nil)⟩)⟩)⟩)⟩

abbrev rm11_stuff : Room := { frames := 2, cells := 1, slots := 2, locals := 46 }
def m11_stuff_b20 (x0 : Nat) (σ : hw_S) : Option (Int32 × hw_S) :=
  some (((-2) : Int32), σ)
set_option maxRecDepth 100000 in
theorem w11_stuff_b20 {p : Program} {l : Launch} {e : Env} {s : State} {m : MethodId} {args : Array Value} {below : List Frame} {meth : Method} {c : Code} {D : hw_D} {b : Nat} {r : Int32} {τ : hw_S} (C0 : hw_C p s m args meth c D yX11_stuff cX11_stuff 3 (some .int)) {x0 : Nat} {σ : hw_S} {H : Heap} {locs : List Loc} (hm : m11_stuff_b20 x0 σ = some (r, τ)) (hR : hw_R D b σ H) (hS : va_S (fun q => b ≤ q) s.heap H locs) {ls : Array Slot} (hl : hw_L ls 3 255 [(0, hw_vr b (some x0))]) : W p l e rm11_stuff s m args below meth c H locs 0 0 (MQ below (hw_QI D b τ r) args s 1 2 (fun q => b ≤ q)) (F0 m 20 ls []) := by
  obtain ⟨hx, hb, hml, hr, hown, hts, hlk, hE, hnm⟩ := id C0
  have hown : s.vm.findClass RX11 = some m.cls := hown
  have hK := hE.1
  unfold m11_stuff_b20 at hm
  refine lv_bipush (v := (-2)) hx hb dX11_stuff_20 (by decide) ?_
  refine W.widen (k := 1) (n := 2) (Nat.le_of_ble_eq_true rfl) (Nat.le_of_ble_eq_true rfl) ?_
  exact hw_rWI hx hb hr hlk hR hS hm dX11_stuff_22
def m11_stuff (x0 : Nat) (l1 : Int32) (l2 : Int32) (σ : hw_S) : Option (Int32 × hw_S) :=
  (m11_isWithin l1 (1 : Int32) (20 : Int32)).bind fun v4 =>
  (if v4 = 0 then
  m11_stuff_b20 x0 σ
  else
  (m11_isWithin l2 (1 : Int32) (20 : Int32)).bind fun v14 =>
  (if v14 = 0 then
  m11_stuff_b20 x0 σ
  else
  (hw_gP (hw_q 11) 0 (some x0) σ).bind fun v24 =>
  (hw_gI (hw_q 8) 1 v24 σ).bind fun v27 =>
  (if v27 < (5 : Int32) then
  (hw_gP (hw_q 11) 0 (some x0) σ).bind fun v38 =>
  (hw_gP (hw_q 8) 0 v38 σ).bind fun v41 =>
  (hw_gP (hw_q 11) 0 (some x0) σ).bind fun v45 =>
  (hw_gI (hw_q 8) 1 v45 σ).bind fun v48 =>
  hw_b2 (hw_nwO 10 0 σ) fun v51 σ51 =>
  (m9_init v51 l1 l2 σ51).bind fun σ57 =>
  (hw_sP 3 v41 v48 v51 σ57).bind fun σ60 =>
  (hw_gP (hw_q 11) 0 (some x0) σ60).bind fun v62 =>
  (hw_gI (hw_q 8) 1 v62 σ60).bind fun v66 =>
  (hw_pI (hw_q 8) 1 v62 (v66 + (1 : Int32)) σ60).bind fun σ72 =>
  some (v66, σ72)
  else
  some (((-4) : Int32), σ))))
set_option maxRecDepth 100000 in
theorem w11_stuff_s {p : Program} {l : Launch} {e : Env} {s : State} {m : MethodId} {args : Array Value} {below : List Frame} {meth : Method} {c : Code} {D : hw_D} {b : Nat} {x0 : Nat} {l1 : Int32} {l2 : Int32} {σ : hw_S} {r : Int32} {τ : hw_S} {H : Heap} {locs : List Loc} (hm : m11_stuff x0 l1 l2 σ = some (r, τ)) (C0 : hw_C p s m args meth c D yX11_stuff cX11_stuff 3 (some .int)) (hR : hw_R D b σ H) (hS : va_S (fun q => b ≤ q) s.heap H locs) {ls : Array Slot} (hl : hw_L ls 3 255 [(0, hw_vr b (some x0)), (1, .int l1), (2, .int l2)]) : W p l e rm11_stuff s m args below meth c H locs 0 0 (MQ below (hw_QI D b τ r) args s 1 2 (fun q => b ≤ q)) (F0 m 0 ls []) := by
  obtain ⟨hx, hb, hml, hr, hown, hts, hlk, hE, hnm⟩ := id C0
  have hown : s.vm.findClass RX11 = some m.cls := hown
  have hK := hE.1
  unfold m11_stuff at hm
  refine lv_iload_n hx hb dX11_stuff_0 rfl (hl.at 1 rfl) ?_
  refine lv_iconst (v := 1) hx hb dX11_stuff_1 (by decide) ?_
  refine lv_bipush (v := 20) hx hb dX11_stuff_2 (by decide) ?_
  obtain ⟨v4, e4, hm⟩ := hw_bs hm
  refine hw_cRI (va_runS (As := [.int l1, .int (1 : Int32), .int (20 : Int32)]) (rest := []) ⟨hx, hb, hml, hown, hts⟩ (c11_isWithin l D e4) (cwS 3 hts (hw_gS hw_m99 hw_m100 hw_m2 hw_m101) rfl rfl rfl (by decide +kernel) ⟨(Nat.le_of_ble_eq_true rfl), (Nat.le_of_ble_eq_true rfl)⟩) (hw_pre0 hE) rfl rfl hl.sz rfl (lv_room (Nat.le_of_ble_eq_true rfl)) dX11_stuff_4 ⟨(Nat.le_of_ble_eq_true rfl), (Nat.le_of_ble_eq_true rfl)⟩) ?_
  refine lv_if_eq (tgt := 20) hx hb dX11_stuff_7 (by decide) (fun c7 => ?_) (fun c7 => ?_)
  · have hm := hw_ip hm c7
    exact w11_stuff_b20 C0 hm hR hS (hl.sub [0] rfl)
  · have hm := hw_in hm c7
    refine lv_iload_n hx hb dX11_stuff_10 rfl (hl.at 2 rfl) ?_
    refine lv_iconst (v := 1) hx hb dX11_stuff_11 (by decide) ?_
    refine lv_bipush (v := 20) hx hb dX11_stuff_12 (by decide) ?_
    obtain ⟨v14, e14, hm⟩ := hw_bs hm
    refine hw_cRI (va_runS (As := [.int l2, .int (1 : Int32), .int (20 : Int32)]) (rest := []) ⟨hx, hb, hml, hown, hts⟩ (c11_isWithin l D e14) (cwS 3 hts (hw_gS hw_m99 hw_m100 hw_m2 hw_m101) rfl rfl rfl (by decide +kernel) ⟨(Nat.le_of_ble_eq_true rfl), (Nat.le_of_ble_eq_true rfl)⟩) (hw_pre0 hE) rfl rfl hl.sz rfl (lv_room (Nat.le_of_ble_eq_true rfl)) dX11_stuff_14 ⟨(Nat.le_of_ble_eq_true rfl), (Nat.le_of_ble_eq_true rfl)⟩) ?_
    refine lv_if_ne (tgt := 23) hx hb dX11_stuff_17 (by decide) (fun c17 => ?_) (fun c17 => ?_)
    · have hm := hw_in hm c17
      refine hw_aload_n hx hb dX11_stuff_23 rfl (hl.at 0 rfl) ?_
      obtain ⟨v24, e24, hm⟩ := hw_bs hm
      refine hw_getP hx hb hw_cf11 hts hown hK hR e24 (by decide) rfl (hts _ hw_m16) (fun _ h9 => h9) dX11_stuff_24 ?_
      obtain ⟨v27, e27, hm⟩ := hw_bs hm
      refine hw_getI hx hb hw_cf8 hts hown hK hR e27 (by decide) rfl (hts _ hw_m94) (fun _ h9 => h9) dX11_stuff_27 ?_
      refine lv_iconst (v := 5) hx hb dX11_stuff_30 (by decide) ?_
      refine lv_icmp_lt (tgt := 37) hx hb dX11_stuff_31 (by decide) (fun c31 => ?_) (fun c31 => ?_)
      · have hm := hw_ip hm c31
        refine hw_aload_n hx hb dX11_stuff_37 rfl (hl.at 0 rfl) ?_
        obtain ⟨v38, e38, hm⟩ := hw_bs hm
        refine hw_getP hx hb hw_cf11 hts hown hK hR e38 (by decide) rfl (hts _ hw_m16) (fun _ h9 => h9) dX11_stuff_38 ?_
        obtain ⟨v41, e41, hm⟩ := hw_bs hm
        refine hw_getP hx hb hw_cf8 hts hown hK hR e41 (by decide) rfl (hts _ hw_m95) (fun _ h9 => h9) dX11_stuff_41 ?_
        refine hw_aload_n hx hb dX11_stuff_44 rfl (hl.at 0 rfl) ?_
        obtain ⟨v45, e45, hm⟩ := hw_bs hm
        refine hw_getP hx hb hw_cf11 hts hown hK hR e45 (by decide) rfl (hts _ hw_m16) (fun _ h9 => h9) dX11_stuff_45 ?_
        obtain ⟨v48, e48, hm⟩ := hw_bs hm
        refine hw_getI hx hb hw_cf8 hts hown hK hR e48 (by decide) rfl (hts _ hw_m94) (fun _ h9 => h9) dX11_stuff_48 ?_
        obtain ⟨v51, σ51, e51, hm⟩ := hw_bs2 hm
        refine hw_newO (ci := 9) (N := 2) (C := RX9) (T := TX9) (ty := tyX9) hx hb rfl (by decide) inlX9 rfl tyX9_ok (hw_df9) hts hown hK hR hS (hts _ hw_m96) (hts _ hw_m97) (hts _ hw_m98) e51 (Nat.le_of_ble_eq_true rfl) (Nat.le_of_ble_eq_true rfl) dX11_stuff_51 (fun _ hR hS => ?_)
        refine lv_dup hx hb dX11_stuff_54 (hw_vr_cat _ _) ?_
        refine lv_iload_n hx hb dX11_stuff_55 rfl (hl.at 1 rfl) ?_
        refine lv_iload_n hx hb dX11_stuff_56 rfl (hl.at 2 rfl) ?_
        obtain ⟨σ57, e57, hm⟩ := hw_bs hm
        refine hw_cWV (va_runI (As := [.int l1, .int l2]) (rest := [hw_vr b (some v51), .int v48, hw_vr b v41]) ⟨hx, hb, hml, hown, hts⟩ (c9_init l D b e57) (cwI 2 hts (hw_gC hw_m104) rfl rfl rfl (hts _ hw_m98) (hts _ hw_m102) (hts _ hw_m103) rfl (by decide +kernel) ⟨(Nat.le_of_ble_eq_true rfl), (Nat.le_of_ble_eq_true rfl)⟩) (hw_pre1 hE hR) rfl rfl hl.sz rfl (lv_room (hw_sm (List.forall_mem_cons.mpr ⟨(hw_vr_cat _ _), (List.forall_mem_cons.mpr ⟨rfl, (List.forall_mem_cons.mpr ⟨(hw_vr_cat _ _), (fun _ h => absurd h List.not_mem_nil)⟩)⟩)⟩) (Nat.le_of_ble_eq_true rfl))) dX11_stuff_57 ⟨(Nat.le_of_ble_eq_true rfl), (Nat.le_of_ble_eq_true rfl)⟩) hS (fun _ _ hR hS => ?_)
        obtain ⟨σ60, e60, hm⟩ := hw_bs hm
        refine hw_aast3 hx hb hE hR hS e60 dX11_stuff_60 (fun _ _ hR hS => ?_)
        refine hw_aload_n hx hb dX11_stuff_61 rfl (hl.at 0 rfl) ?_
        obtain ⟨v62, e62, hm⟩ := hw_bs hm
        refine hw_getP hx hb hw_cf11 hts hown hK hR e62 (by decide) rfl (hts _ hw_m16) (fun _ h9 => h9) dX11_stuff_62 ?_
        refine lv_dup hx hb dX11_stuff_65 (hw_vr_cat _ _) ?_
        obtain ⟨v66, e66, hm⟩ := hw_bs hm
        refine hw_getI hx hb hw_cf8 hts hown hK hR e66 (by decide) rfl (hts _ hw_m94) (fun _ h9 => h9) dX11_stuff_66 ?_
        refine lv_dup_x1 hx hb dX11_stuff_69 rfl (hw_vr_cat _ _) ?_
        refine lv_iconst (v := 1) hx hb dX11_stuff_70 (by decide) ?_
        refine lv_iadd hx hb dX11_stuff_71 ?_
        obtain ⟨σ72, e72, hm⟩ := hw_bs hm
        refine hw_putI hx hb hw_cf8 hts hown hK hR hS e72 (by decide) rfl rfl (hts _ hw_m94) (fun _ h9 => h9) (Or.inl rfl) dX11_stuff_72 (fun _ _ hR hS => ?_)
        exact hw_rWI hx hb hr hlk hR hS hm dX11_stuff_75
      · have hm := hw_in hm c31
        refine lv_bipush (v := (-4)) hx hb dX11_stuff_34 (by decide) ?_
        refine W.widen (k := 1) (n := 2) (Nat.le_of_ble_eq_true rfl) (Nat.le_of_ble_eq_true rfl) ?_
        exact hw_rWI hx hb hr hlk hR hS hm dX11_stuff_36
    · have hm := hw_ip hm c17
      exact w11_stuff_b20 C0 hm hR hS (hl.sub [0] rfl)
set_option maxRecDepth 100000 in
theorem c11_stuff (l : Launch) (D : hw_D) (b : Nat) {x0 : Nat} {l1 : Int32} {l2 : Int32} {σ : hw_S} {r : Int32} {τ : hw_S} (hm : m11_stuff x0 l1 l2 σ = some (r, τ)) : Met l yX11_stuff (Cond.code yX11_stuff cX11_stuff 3 (some .int) :: wsL_law) rm11_stuff (hw_P1 D b σ [hw_vr b (some x0), .int l1, .int l2]) (hw_QI D b τ r) 1 2 (fun q => b ≤ q) := by
  refine hw_start1 (by decide +kernel) (by exact Nat.le_of_ble_eq_true rfl) ?_
  intro p e s m below meth c ls C0 hR hS hl
  have hl : lv_has ls 3 [(0, hw_vr b (some x0)), (1, .int l1), (2, .int l2)] := by exact hl
  exact w11_stuff_s hm C0 hR hS ⟨hl, (List.forall_mem_cons.mpr ⟨(fun h => by rw [show (hw_vr b (some x0) : Value).category = 1 from (hw_vr_cat _ _)] at h; cases h), (List.forall_mem_cons.mpr ⟨(fun h => absurd (show (1 : Nat) = 2 from h) (by decide)), (List.forall_mem_cons.mpr ⟨(fun h => absurd (show (1 : Nat) = 2 from h) (by decide)), (fun _ h => absurd h List.not_mem_nil)⟩)⟩)⟩)⟩

abbrev rm12_in : Room := { frames := 0, cells := 0, slots := 0, locals := 0 }
def m12_in_b15 (t0 : Int32) : Option Int32 :=
  (hw_tf t0).bind fun _ =>
  some t0
set_option maxRecDepth 100000 in
theorem w12_in_b15 {p : Program} {l : Launch} {e : Env} {s : State} {m : MethodId} {args : Array Value} {below : List Frame} {meth : Method} {c : Code} {D : hw_D} {r : Int32} (C0 : hw_C p s m args meth c D yX12_in cX12_in 3 (some .boolean)) {t0 : Int32} (hm : m12_in_b15 t0 = some r) {ls : Array Slot} (hl : hw_L ls 3 255 []) : W p l e rm12_in s m args below meth c s.heap [] 0 0 (MQ below (hw_RI r) args s 0 0 hw_nof) (F0 m 15 ls [.int t0]) := by
  obtain ⟨hx, hb, hml, hr, hown, hts, hlk, hE, hnm⟩ := id C0
  have hown : s.vm.findClass RX12 = some m.cls := hown
  unfold m12_in_b15 at hm
  obtain ⟨_, z15, hm⟩ := hw_bs hm
  exact hw_rRZ hx hb hr hlk z15 hm dX12_in_15
def m12_in_b14 : Option Int32 :=
  m12_in_b15 (0 : Int32)
set_option maxRecDepth 100000 in
theorem w12_in_b14 {p : Program} {l : Launch} {e : Env} {s : State} {m : MethodId} {args : Array Value} {below : List Frame} {meth : Method} {c : Code} {D : hw_D} {r : Int32} (C0 : hw_C p s m args meth c D yX12_in cX12_in 3 (some .boolean)) (hm : m12_in_b14  = some r) {ls : Array Slot} (hl : hw_L ls 3 255 []) : W p l e rm12_in s m args below meth c s.heap [] 0 0 (MQ below (hw_RI r) args s 0 0 hw_nof) (F0 m 14 ls []) := by
  obtain ⟨hx, hb, hml, hr, hown, hts, hlk, hE, hnm⟩ := id C0
  have hown : s.vm.findClass RX12 = some m.cls := hown
  unfold m12_in_b14 at hm
  refine lv_iconst (v := 0) hx hb dX12_in_14 (by decide) ?_
  exact w12_in_b15 C0 hm (hl.sub [] rfl)
def m12_in (l0 : Int32) (l1 : Int32) (l2 : Int32) : Option Int32 :=
  (if l0 < l1 then
  m12_in_b14 
  else
  (if l2 < l0 then
  m12_in_b14 
  else
  m12_in_b15 (1 : Int32)))
set_option maxRecDepth 100000 in
theorem w12_in_s {p : Program} {l : Launch} {e : Env} {s : State} {m : MethodId} {args : Array Value} {below : List Frame} {meth : Method} {c : Code} {D : hw_D} {l0 : Int32} {l1 : Int32} {l2 : Int32} {r : Int32} (hm : m12_in l0 l1 l2 = some r) (C0 : hw_C p s m args meth c D yX12_in cX12_in 3 (some .boolean)) {ls : Array Slot} (hl : hw_L ls 3 255 [(0, .int l0), (1, .int l1), (2, .int l2)]) : W p l e rm12_in s m args below meth c s.heap [] 0 0 (MQ below (hw_RI r) args s 0 0 hw_nof) (F0 m 0 ls []) := by
  obtain ⟨hx, hb, hml, hr, hown, hts, hlk, hE, hnm⟩ := id C0
  have hown : s.vm.findClass RX12 = some m.cls := hown
  unfold m12_in at hm
  refine lv_iload_n hx hb dX12_in_0 rfl (hl.at 0 rfl) ?_
  refine lv_iload_n hx hb dX12_in_1 rfl (hl.at 1 rfl) ?_
  refine lv_icmp_lt (tgt := 14) hx hb dX12_in_2 (by decide) (fun c2 => ?_) (fun c2 => ?_)
  · have hm := hw_ip hm c2
    exact w12_in_b14 C0 hm (hl.sub [] rfl)
  · have hm := hw_in hm c2
    refine lv_iload_n hx hb dX12_in_5 rfl (hl.at 0 rfl) ?_
    refine lv_iload_n hx hb dX12_in_6 rfl (hl.at 2 rfl) ?_
    refine lv_icmp_gt (tgt := 14) hx hb dX12_in_7 (by decide) (fun c7 => ?_) (fun c7 => ?_)
    · have hm := hw_ip hm c7
      exact w12_in_b14 C0 hm (hl.sub [] rfl)
    · have hm := hw_in hm c7
      refine lv_iconst (v := 1) hx hb dX12_in_10 (by decide) ?_
      refine lv_goto (tgt := 15) hx hb dX12_in_11 (by decide) ?_
      exact w12_in_b15 C0 hm (hl.sub [] rfl)
set_option maxRecDepth 100000 in
theorem c12_in (l : Launch) (D : hw_D) {l0 : Int32} {l1 : Int32} {l2 : Int32} {r : Int32} (hm : m12_in l0 l1 l2 = some r) : Met l yX12_in (Cond.code yX12_in cX12_in 3 (some .boolean) :: wsL_law) rm12_in (hw_P0 D [.int l0, .int l1, .int l2]) (hw_RI r) 0 0 hw_nof := by
  refine hw_start0 (by decide +kernel) (by exact Nat.le_of_ble_eq_true rfl) ?_
  intro p e s m below meth c ls C0 hl
  have hl : lv_has ls 3 [(0, .int l0), (1, .int l1), (2, .int l2)] := by exact hl
  exact w12_in_s hm C0 ⟨hl, (List.forall_mem_cons.mpr ⟨(fun h => absurd (show (1 : Nat) = 2 from h) (by decide)), (List.forall_mem_cons.mpr ⟨(fun h => absurd (show (1 : Nat) = 2 from h) (by decide)), (List.forall_mem_cons.mpr ⟨(fun h => absurd (show (1 : Nat) = 2 from h) (by decide)), (fun _ h => absurd h List.not_mem_nil)⟩)⟩)⟩)⟩

abbrev rm12_stuff : Room := { frames := 1, cells := 0, slots := 0, locals := 22 }
def m12_stuff_b20 (x0 : Nat) (σ : hw_S) : Option (Int32 × hw_S) :=
  some (((-2) : Int32), σ)
set_option maxRecDepth 100000 in
theorem w12_stuff_b20 {p : Program} {l : Launch} {e : Env} {s : State} {m : MethodId} {args : Array Value} {below : List Frame} {meth : Method} {c : Code} {D : hw_D} {b : Nat} {r : Int32} {τ : hw_S} (C0 : hw_C p s m args meth c D yX12_stuff cX12_stuff 3 (some .int)) {x0 : Nat} {σ : hw_S} {H : Heap} {locs : List Loc} (hm : m12_stuff_b20 x0 σ = some (r, τ)) (hR : hw_R D b σ H) (hS : va_S (fun q => b ≤ q) s.heap H locs) {ls : Array Slot} (hl : hw_L ls 3 255 [(0, hw_vr b (some x0))]) : W p l e rm12_stuff s m args below meth c H locs 0 0 (MQ below (hw_QI D b τ r) args s 0 0 (fun q => b ≤ q)) (F0 m 20 ls []) := by
  obtain ⟨hx, hb, hml, hr, hown, hts, hlk, hE, hnm⟩ := id C0
  have hown : s.vm.findClass RX12 = some m.cls := hown
  have hK := hE.1
  unfold m12_stuff_b20 at hm
  refine lv_bipush (v := (-2)) hx hb dX12_stuff_20 (by decide) ?_
  exact hw_rWI hx hb hr hlk hR hS hm dX12_stuff_22
def m12_stuff (x0 : Nat) (l1 : Int32) (l2 : Int32) (σ : hw_S) : Option (Int32 × hw_S) :=
  (m12_in l1 (1 : Int32) (20 : Int32)).bind fun v4 =>
  (if v4 = 0 then
  m12_stuff_b20 x0 σ
  else
  (m12_in l2 (1 : Int32) (20 : Int32)).bind fun v14 =>
  (if v14 = 0 then
  m12_stuff_b20 x0 σ
  else
  (hw_gP (hw_q 12) 1 (some x0) σ).bind fun v24 =>
  (hw_aI 0 v24 (0 : Int32) σ).bind fun v28 =>
  (if v28 = (5 : Int32) then
  some (((-4) : Int32), σ)
  else
  (hw_gP (hw_q 12) 1 (some x0) σ).bind fun v37 =>
  (hw_gP (hw_q 12) 1 (some x0) σ).bind fun v44 =>
  (hw_aI 0 v44 (0 : Int32) σ).bind fun v48 =>
  (hw_sI v37 ((130 : Int32) + v48) l1 σ).bind fun σ51 =>
  (hw_gP (hw_q 12) 1 (some x0) σ51).bind fun v53 =>
  (hw_gP (hw_q 12) 1 (some x0) σ51).bind fun v60 =>
  (hw_aI 0 v60 (0 : Int32) σ51).bind fun v64 =>
  (hw_sI v53 ((135 : Int32) + v64) l2 σ51).bind fun σ67 =>
  (hw_gP (hw_q 12) 1 (some x0) σ67).bind fun v69 =>
  (hw_aI 0 v69 (0 : Int32) σ67).bind fun v74 =>
  (hw_sI v69 (0 : Int32) (v74 + (1 : Int32)) σ67).bind fun σ77 =>
  (hw_gP (hw_q 12) 1 (some x0) σ77).bind fun v79 =>
  (hw_aI 0 v79 (0 : Int32) σ77).bind fun v83 =>
  some ((v83 - (1 : Int32)), σ77))))
set_option maxRecDepth 100000 in
theorem w12_stuff_s {p : Program} {l : Launch} {e : Env} {s : State} {m : MethodId} {args : Array Value} {below : List Frame} {meth : Method} {c : Code} {D : hw_D} {b : Nat} {x0 : Nat} {l1 : Int32} {l2 : Int32} {σ : hw_S} {r : Int32} {τ : hw_S} {H : Heap} {locs : List Loc} (hm : m12_stuff x0 l1 l2 σ = some (r, τ)) (C0 : hw_C p s m args meth c D yX12_stuff cX12_stuff 3 (some .int)) (hR : hw_R D b σ H) (hS : va_S (fun q => b ≤ q) s.heap H locs) {ls : Array Slot} (hl : hw_L ls 3 255 [(0, hw_vr b (some x0)), (1, .int l1), (2, .int l2)]) : W p l e rm12_stuff s m args below meth c H locs 0 0 (MQ below (hw_QI D b τ r) args s 0 0 (fun q => b ≤ q)) (F0 m 0 ls []) := by
  obtain ⟨hx, hb, hml, hr, hown, hts, hlk, hE, hnm⟩ := id C0
  have hown : s.vm.findClass RX12 = some m.cls := hown
  have hK := hE.1
  unfold m12_stuff at hm
  refine lv_iload_n hx hb dX12_stuff_0 rfl (hl.at 1 rfl) ?_
  refine lv_iconst (v := 1) hx hb dX12_stuff_1 (by decide) ?_
  refine lv_bipush (v := 20) hx hb dX12_stuff_2 (by decide) ?_
  obtain ⟨v4, e4, hm⟩ := hw_bs hm
  refine hw_cRI (va_runS (As := [.int l1, .int (1 : Int32), .int (20 : Int32)]) (rest := []) ⟨hx, hb, hml, hown, hts⟩ (c12_in l D e4) (cwS 3 hts (hw_gS hw_m112 hw_m113 hw_m5 hw_m114) rfl rfl rfl (by decide +kernel) ⟨(Nat.le_of_ble_eq_true rfl), (Nat.le_of_ble_eq_true rfl)⟩) (hw_pre0 hE) rfl rfl hl.sz rfl (lv_room (Nat.le_of_ble_eq_true rfl)) dX12_stuff_4 ⟨(Nat.le_of_ble_eq_true rfl), (Nat.le_of_ble_eq_true rfl)⟩) ?_
  refine lv_if_eq (tgt := 20) hx hb dX12_stuff_7 (by decide) (fun c7 => ?_) (fun c7 => ?_)
  · have hm := hw_ip hm c7
    exact w12_stuff_b20 C0 hm hR hS (hl.sub [0] rfl)
  · have hm := hw_in hm c7
    refine lv_iload_n hx hb dX12_stuff_10 rfl (hl.at 2 rfl) ?_
    refine lv_iconst (v := 1) hx hb dX12_stuff_11 (by decide) ?_
    refine lv_bipush (v := 20) hx hb dX12_stuff_12 (by decide) ?_
    obtain ⟨v14, e14, hm⟩ := hw_bs hm
    refine hw_cRI (va_runS (As := [.int l2, .int (1 : Int32), .int (20 : Int32)]) (rest := []) ⟨hx, hb, hml, hown, hts⟩ (c12_in l D e14) (cwS 3 hts (hw_gS hw_m112 hw_m113 hw_m5 hw_m114) rfl rfl rfl (by decide +kernel) ⟨(Nat.le_of_ble_eq_true rfl), (Nat.le_of_ble_eq_true rfl)⟩) (hw_pre0 hE) rfl rfl hl.sz rfl (lv_room (Nat.le_of_ble_eq_true rfl)) dX12_stuff_14 ⟨(Nat.le_of_ble_eq_true rfl), (Nat.le_of_ble_eq_true rfl)⟩) ?_
    refine lv_if_ne (tgt := 23) hx hb dX12_stuff_17 (by decide) (fun c17 => ?_) (fun c17 => ?_)
    · have hm := hw_in hm c17
      refine hw_aload_n hx hb dX12_stuff_23 rfl (hl.at 0 rfl) ?_
      obtain ⟨v24, e24, hm⟩ := hw_bs hm
      refine hw_getP hx hb hw_cf12 hts hown hK hR e24 (by decide) rfl (hts _ hw_m76) (fun _ h9 => h9) dX12_stuff_24 ?_
      refine lv_iconst (v := 0) hx hb dX12_stuff_27 (by decide) ?_
      obtain ⟨v28, e28, hm⟩ := hw_bs hm
      refine hw_iald hx hb hK hR e28 dX12_stuff_28 ?_
      refine lv_iconst (v := 5) hx hb dX12_stuff_29 (by decide) ?_
      refine lv_icmp_ne (tgt := 36) hx hb dX12_stuff_30 (by decide) (fun c30 => ?_) (fun c30 => ?_)
      · have hm := hw_in hm c30
        refine hw_aload_n hx hb dX12_stuff_36 rfl (hl.at 0 rfl) ?_
        obtain ⟨v37, e37, hm⟩ := hw_bs hm
        refine hw_getP hx hb hw_cf12 hts hown hK hR e37 (by decide) rfl (hts _ hw_m76) (fun _ h9 => h9) dX12_stuff_37 ?_
        refine lv_sipush (v := 130) hx hb dX12_stuff_40 (by decide) ?_
        refine hw_aload_n hx hb dX12_stuff_43 rfl (hl.at 0 rfl) ?_
        obtain ⟨v44, e44, hm⟩ := hw_bs hm
        refine hw_getP hx hb hw_cf12 hts hown hK hR e44 (by decide) rfl (hts _ hw_m76) (fun _ h9 => h9) dX12_stuff_44 ?_
        refine lv_iconst (v := 0) hx hb dX12_stuff_47 (by decide) ?_
        obtain ⟨v48, e48, hm⟩ := hw_bs hm
        refine hw_iald hx hb hK hR e48 dX12_stuff_48 ?_
        refine lv_iadd hx hb dX12_stuff_49 ?_
        refine lv_iload_n hx hb dX12_stuff_50 rfl (hl.at 1 rfl) ?_
        obtain ⟨σ51, e51, hm⟩ := hw_bs hm
        refine hw_iast hx hb hK hR hS e51 dX12_stuff_51 (fun _ _ hR hS => ?_)
        refine hw_aload_n hx hb dX12_stuff_52 rfl (hl.at 0 rfl) ?_
        obtain ⟨v53, e53, hm⟩ := hw_bs hm
        refine hw_getP hx hb hw_cf12 hts hown hK hR e53 (by decide) rfl (hts _ hw_m76) (fun _ h9 => h9) dX12_stuff_53 ?_
        refine lv_sipush (v := 135) hx hb dX12_stuff_56 (by decide) ?_
        refine hw_aload_n hx hb dX12_stuff_59 rfl (hl.at 0 rfl) ?_
        obtain ⟨v60, e60, hm⟩ := hw_bs hm
        refine hw_getP hx hb hw_cf12 hts hown hK hR e60 (by decide) rfl (hts _ hw_m76) (fun _ h9 => h9) dX12_stuff_60 ?_
        refine lv_iconst (v := 0) hx hb dX12_stuff_63 (by decide) ?_
        obtain ⟨v64, e64, hm⟩ := hw_bs hm
        refine hw_iald hx hb hK hR e64 dX12_stuff_64 ?_
        refine lv_iadd hx hb dX12_stuff_65 ?_
        refine lv_iload_n hx hb dX12_stuff_66 rfl (hl.at 2 rfl) ?_
        obtain ⟨σ67, e67, hm⟩ := hw_bs hm
        refine hw_iast hx hb hK hR hS e67 dX12_stuff_67 (fun _ _ hR hS => ?_)
        refine hw_aload_n hx hb dX12_stuff_68 rfl (hl.at 0 rfl) ?_
        obtain ⟨v69, e69, hm⟩ := hw_bs hm
        refine hw_getP hx hb hw_cf12 hts hown hK hR e69 (by decide) rfl (hts _ hw_m76) (fun _ h9 => h9) dX12_stuff_69 ?_
        refine lv_iconst (v := 0) hx hb dX12_stuff_72 (by decide) ?_
        refine lv_dup2_11 hx hb dX12_stuff_73 rfl (hw_vr_cat _ _) ?_
        obtain ⟨v74, e74, hm⟩ := hw_bs hm
        refine hw_iald hx hb hK hR e74 dX12_stuff_74 ?_
        refine lv_iconst (v := 1) hx hb dX12_stuff_75 (by decide) ?_
        refine lv_iadd hx hb dX12_stuff_76 ?_
        obtain ⟨σ77, e77, hm⟩ := hw_bs hm
        refine hw_iast hx hb hK hR hS e77 dX12_stuff_77 (fun _ _ hR hS => ?_)
        refine hw_aload_n hx hb dX12_stuff_78 rfl (hl.at 0 rfl) ?_
        obtain ⟨v79, e79, hm⟩ := hw_bs hm
        refine hw_getP hx hb hw_cf12 hts hown hK hR e79 (by decide) rfl (hts _ hw_m76) (fun _ h9 => h9) dX12_stuff_79 ?_
        refine lv_iconst (v := 0) hx hb dX12_stuff_82 (by decide) ?_
        obtain ⟨v83, e83, hm⟩ := hw_bs hm
        refine hw_iald hx hb hK hR e83 dX12_stuff_83 ?_
        refine lv_iconst (v := 1) hx hb dX12_stuff_84 (by decide) ?_
        refine lv_isub hx hb dX12_stuff_85 ?_
        exact hw_rWI hx hb hr hlk hR hS hm dX12_stuff_86
      · have hm := hw_ip hm c30
        refine lv_bipush (v := (-4)) hx hb dX12_stuff_33 (by decide) ?_
        exact hw_rWI hx hb hr hlk hR hS hm dX12_stuff_35
    · have hm := hw_ip hm c17
      exact w12_stuff_b20 C0 hm hR hS (hl.sub [0] rfl)
set_option maxRecDepth 100000 in
theorem c12_stuff (l : Launch) (D : hw_D) (b : Nat) {x0 : Nat} {l1 : Int32} {l2 : Int32} {σ : hw_S} {r : Int32} {τ : hw_S} (hm : m12_stuff x0 l1 l2 σ = some (r, τ)) : Met l yX12_stuff (Cond.code yX12_stuff cX12_stuff 3 (some .int) :: wsL_law) rm12_stuff (hw_P1 D b σ [hw_vr b (some x0), .int l1, .int l2]) (hw_QI D b τ r) 0 0 (fun q => b ≤ q) := by
  refine hw_start1 (by decide +kernel) (by exact Nat.le_of_ble_eq_true rfl) ?_
  intro p e s m below meth c ls C0 hR hS hl
  have hl : lv_has ls 3 [(0, hw_vr b (some x0)), (1, .int l1), (2, .int l2)] := by exact hl
  exact w12_stuff_s hm C0 hR hS ⟨hl, (List.forall_mem_cons.mpr ⟨(fun h => by rw [show (hw_vr b (some x0) : Value).category = 1 from (hw_vr_cat _ _)] at h; cases h), (List.forall_mem_cons.mpr ⟨(fun h => absurd (show (1 : Nat) = 2 from h) (by decide)), (List.forall_mem_cons.mpr ⟨(fun h => absurd (show (1 : Nat) = 2 from h) (by decide)), (fun _ h => absurd h List.not_mem_nil)⟩)⟩)⟩)⟩

abbrev rm11_stuffAt : Room := { frames := 1, cells := 0, slots := 0, locals := 22 }
def m11_stuffAt_b30 (x0 : Nat) (t0 : Option Nat) (σ : hw_S) : Option (Option Nat) :=
  some t0
set_option maxRecDepth 100000 in
theorem w11_stuffAt_b30 {p : Program} {l : Launch} {e : Env} {s : State} {m : MethodId} {args : Array Value} {below : List Frame} {meth : Method} {c : Code} {D : hw_D} {b : Nat} {r : Option Nat} (C0 : hw_C p s m args meth c D yX11_stuffAt cX11_stuffAt 2 (some (.object "HoneyWinds$Stuff"))) {x0 : Nat} {t0 : Option Nat} {σ : hw_S} (hm : m11_stuffAt_b30 x0 t0 σ = some r) (hR : hw_R D b σ s.heap) {ls : Array Slot} (hl : hw_L ls 2 255 [(0, hw_vr b (some x0))]) : W p l e rm11_stuffAt s m args below meth c s.heap [] 0 0 (MQ below (hw_RP b r) args s 0 0 hw_nof) (F0 m 30 ls [hw_vr b t0]) := by
  obtain ⟨hx, hb, hml, hr, hown, hts, hlk, hE, hnm⟩ := id C0
  have hown : s.vm.findClass RX11 = some m.cls := hown
  have hK := hE.1
  unfold m11_stuffAt_b30 at hm
  exact hw_rRP hx hb hr (Or.inl ⟨_, rfl⟩) hlk hm dX11_stuffAt_30
def m11_stuffAt (x0 : Nat) (l1 : Int32) (σ : hw_S) : Option (Option Nat) :=
  (hw_gP (hw_q 11) 0 (some x0) σ).bind fun v3 =>
  (hw_gI (hw_q 8) 1 v3 σ).bind fun v6 =>
  (m11_isWithin l1 (0 : Int32) (v6 - (1 : Int32))).bind fun v11 =>
  (if v11 = 0 then
  m11_stuffAt_b30 x0 none σ
  else
  (hw_gP (hw_q 11) 0 (some x0) σ).bind fun v18 =>
  (hw_gP (hw_q 8) 0 v18 σ).bind fun v21 =>
  (hw_aP 3 v21 l1 σ).bind fun v25 =>
  m11_stuffAt_b30 x0 v25 σ)
set_option maxRecDepth 100000 in
theorem w11_stuffAt_s {p : Program} {l : Launch} {e : Env} {s : State} {m : MethodId} {args : Array Value} {below : List Frame} {meth : Method} {c : Code} {D : hw_D} {b : Nat} {x0 : Nat} {l1 : Int32} {σ : hw_S} {r : Option Nat} (hm : m11_stuffAt x0 l1 σ = some r) (C0 : hw_C p s m args meth c D yX11_stuffAt cX11_stuffAt 2 (some (.object "HoneyWinds$Stuff"))) (hR : hw_R D b σ s.heap) {ls : Array Slot} (hl : hw_L ls 2 255 [(0, hw_vr b (some x0)), (1, .int l1)]) : W p l e rm11_stuffAt s m args below meth c s.heap [] 0 0 (MQ below (hw_RP b r) args s 0 0 hw_nof) (F0 m 0 ls []) := by
  obtain ⟨hx, hb, hml, hr, hown, hts, hlk, hE, hnm⟩ := id C0
  have hown : s.vm.findClass RX11 = some m.cls := hown
  have hK := hE.1
  unfold m11_stuffAt at hm
  refine lv_iload_n hx hb dX11_stuffAt_0 rfl (hl.at 1 rfl) ?_
  refine lv_iconst (v := 0) hx hb dX11_stuffAt_1 (by decide) ?_
  refine hw_aload_n hx hb dX11_stuffAt_2 rfl (hl.at 0 rfl) ?_
  obtain ⟨v3, e3, hm⟩ := hw_bs hm
  refine hw_getP hx hb hw_cf11 hts hown hK hR e3 (by decide) rfl (hts _ hw_m16) (fun _ h9 => h9) dX11_stuffAt_3 ?_
  obtain ⟨v6, e6, hm⟩ := hw_bs hm
  refine hw_getI hx hb hw_cf8 hts hown hK hR e6 (by decide) rfl (hts _ hw_m94) (fun _ h9 => h9) dX11_stuffAt_6 ?_
  refine lv_iconst (v := 1) hx hb dX11_stuffAt_9 (by decide) ?_
  refine lv_isub hx hb dX11_stuffAt_10 ?_
  obtain ⟨v11, e11, hm⟩ := hw_bs hm
  refine hw_cRI (va_runS (As := [.int l1, .int (0 : Int32), .int (v6 - (1 : Int32))]) (rest := []) ⟨hx, hb, hml, hown, hts⟩ (c11_isWithin l D e11) (cwS 3 hts (hw_gS hw_m99 hw_m100 hw_m2 hw_m101) rfl rfl rfl (by decide +kernel) ⟨(Nat.le_of_ble_eq_true rfl), (Nat.le_of_ble_eq_true rfl)⟩) (hw_pre0 hE) rfl rfl hl.sz rfl (lv_room (Nat.le_of_ble_eq_true rfl)) dX11_stuffAt_11 ⟨(Nat.le_of_ble_eq_true rfl), (Nat.le_of_ble_eq_true rfl)⟩) ?_
  refine lv_if_eq (tgt := 29) hx hb dX11_stuffAt_14 (by decide) (fun c14 => ?_) (fun c14 => ?_)
  · have hm := hw_ip hm c14
    refine hw_null hx hb b dX11_stuffAt_29 ?_
    exact w11_stuffAt_b30 C0 hm hR (hl.sub [0] rfl)
  · have hm := hw_in hm c14
    refine hw_aload_n hx hb dX11_stuffAt_17 rfl (hl.at 0 rfl) ?_
    obtain ⟨v18, e18, hm⟩ := hw_bs hm
    refine hw_getP hx hb hw_cf11 hts hown hK hR e18 (by decide) rfl (hts _ hw_m16) (fun _ h9 => h9) dX11_stuffAt_18 ?_
    obtain ⟨v21, e21, hm⟩ := hw_bs hm
    refine hw_getP hx hb hw_cf8 hts hown hK hR e21 (by decide) rfl (hts _ hw_m95) (fun _ h9 => h9) dX11_stuffAt_21 ?_
    refine lv_iload_n hx hb dX11_stuffAt_24 rfl (hl.at 1 rfl) ?_
    obtain ⟨v25, e25, hm⟩ := hw_bs hm
    refine hw_aald (by decide) (by decide) hx hb hK hR e25 dX11_stuffAt_25 ?_
    refine lv_goto (tgt := 30) hx hb dX11_stuffAt_26 (by decide) ?_
    exact w11_stuffAt_b30 C0 hm hR (hl.sub [0] rfl)
set_option maxRecDepth 100000 in
theorem c11_stuffAt (l : Launch) (D : hw_D) (b : Nat) {x0 : Nat} {l1 : Int32} {σ : hw_S} {r : Option Nat} (hm : m11_stuffAt x0 l1 σ = some r) : Met l yX11_stuffAt (Cond.code yX11_stuffAt cX11_stuffAt 2 (some (.object "HoneyWinds$Stuff")) :: wsL_law) rm11_stuffAt (hw_P1 D b σ [hw_vr b (some x0), .int l1]) (hw_RP b r) 0 0 hw_nof := by
  refine hw_start1 (by decide +kernel) (by exact Nat.le_of_ble_eq_true rfl) ?_
  intro p e s m below meth c ls C0 hR hS hl
  have hl : lv_has ls 2 [(0, hw_vr b (some x0)), (1, .int l1)] := by exact hl
  exact w11_stuffAt_s hm C0 hR ⟨hl, (List.forall_mem_cons.mpr ⟨(fun h => by rw [show (hw_vr b (some x0) : Value).category = 1 from (hw_vr_cat _ _)] at h; cases h), (List.forall_mem_cons.mpr ⟨(fun h => absurd (show (1 : Nat) = 2 from h) (by decide)), (fun _ h => absurd h List.not_mem_nil)⟩)⟩)⟩

abbrev rm11_of : Room := { frames := 2, cells := 0, slots := 0, locals := 43 }
def m11_of_b19 (x0 : Nat) (σ : hw_S) : Option Int32 :=
  some ((-1) : Int32)
set_option maxRecDepth 100000 in
theorem w11_of_b19 {p : Program} {l : Launch} {e : Env} {s : State} {m : MethodId} {args : Array Value} {below : List Frame} {meth : Method} {c : Code} {D : hw_D} {b : Nat} {r : Int32} (C0 : hw_C p s m args meth c D yX11_of cX11_of 4 (some .int)) {x0 : Nat} {σ : hw_S} (hm : m11_of_b19 x0 σ = some r) (hR : hw_R D b σ s.heap) {ls : Array Slot} (hl : hw_L ls 4 255 [(0, hw_vr b (some x0))]) : W p l e rm11_of s m args below meth c s.heap [] 0 0 (MQ below (hw_RI r) args s 0 0 hw_nof) (F0 m 19 ls []) := by
  obtain ⟨hx, hb, hml, hr, hown, hts, hlk, hE, hnm⟩ := id C0
  have hown : s.vm.findClass RX11 = some m.cls := hown
  have hK := hE.1
  unfold m11_of_b19 at hm
  refine lv_iconst (v := (-1)) hx hb dX11_of_19 (by decide) ?_
  exact hw_rRI hx hb hr hlk hm dX11_of_20
def m11_of_b36 (x0 : Nat) (t0 : Int32) (σ : hw_S) : Option Int32 :=
  some t0
set_option maxRecDepth 100000 in
theorem w11_of_b36 {p : Program} {l : Launch} {e : Env} {s : State} {m : MethodId} {args : Array Value} {below : List Frame} {meth : Method} {c : Code} {D : hw_D} {b : Nat} {r : Int32} (C0 : hw_C p s m args meth c D yX11_of cX11_of 4 (some .int)) {x0 : Nat} {t0 : Int32} {σ : hw_S} (hm : m11_of_b36 x0 t0 σ = some r) (hR : hw_R D b σ s.heap) {ls : Array Slot} (hl : hw_L ls 4 255 [(0, hw_vr b (some x0))]) : W p l e rm11_of s m args below meth c s.heap [] 0 0 (MQ below (hw_RI r) args s 0 0 hw_nof) (F0 m 36 ls [.int t0]) := by
  obtain ⟨hx, hb, hml, hr, hown, hts, hlk, hE, hnm⟩ := id C0
  have hown : s.vm.findClass RX11 = some m.cls := hown
  have hK := hE.1
  unfold m11_of_b36 at hm
  exact hw_rRI hx hb hr hlk hm dX11_of_36
def m11_of (x0 : Nat) (l1 : Int32) (l2 : Int32) (σ : hw_S) : Option Int32 :=
  (hw_rv (hw_q 11) (some x0) σ).bind fun a2 =>
  (m11_stuffAt x0 l1 σ).bind fun v2 =>
  (if v2 = none then
  m11_of_b19 x0 σ
  else
  (m11_isWithin l2 (0 : Int32) (1 : Int32)).bind fun v13 =>
  (if v13 = 0 then
  m11_of_b19 x0 σ
  else
  (if l2 = 0 then
  (hw_gI (hw_q 9) 0 v2 σ).bind fun v26 =>
  m11_of_b36 x0 v26 σ
  else
  (hw_gI (hw_q 9) 1 v2 σ).bind fun v33 =>
  m11_of_b36 x0 v33 σ)))
set_option maxRecDepth 100000 in
theorem w11_of_s {p : Program} {l : Launch} {e : Env} {s : State} {m : MethodId} {args : Array Value} {below : List Frame} {meth : Method} {c : Code} {D : hw_D} {b : Nat} {x0 : Nat} {l1 : Int32} {l2 : Int32} {σ : hw_S} {r : Int32} (hm : m11_of x0 l1 l2 σ = some r) (C0 : hw_C p s m args meth c D yX11_of cX11_of 4 (some .int)) (hR : hw_R D b σ s.heap) {ls : Array Slot} (hl : hw_L ls 4 255 [(0, hw_vr b (some x0)), (1, .int l1), (2, .int l2)]) : W p l e rm11_of s m args below meth c s.heap [] 0 0 (MQ below (hw_RI r) args s 0 0 hw_nof) (F0 m 0 ls []) := by
  obtain ⟨hx, hb, hml, hr, hown, hts, hlk, hE, hnm⟩ := id C0
  have hown : s.vm.findClass RX11 = some m.cls := hown
  have hK := hE.1
  unfold m11_of at hm
  refine hw_aload_n hx hb dX11_of_0 rfl (hl.at 0 rfl) ?_
  refine lv_iload_n hx hb dX11_of_1 rfl (hl.at 1 rfl) ?_
  obtain ⟨a2, g2, hm⟩ := hw_bs hm
  obtain ⟨rfl, ht2⟩ := hw_rv_th g2
  obtain ⟨v2, e2, hm⟩ := hw_bs hm
  refine hw_cRP (va_runV (As := [.int l1]) (rest := []) ⟨hx, hb, hml, hown, hts⟩ (c11_stuffAt l D b e2) (cwV 1 hts (hw_gV hw_m121 hw_m122 hw_m123 hw_m2 hw_m124) rfl rfl rfl (by decide +kernel) ⟨(Nat.le_of_ble_eq_true rfl), (Nat.le_of_ble_eq_true rfl)⟩) (hw_preV (ci := 11) hE hR rfl (by decide) (hw_q_of ht2)) rfl rfl hl.sz rfl (lv_room (Nat.le_of_ble_eq_true rfl)) dX11_of_2 ⟨(Nat.le_of_ble_eq_true rfl), (Nat.le_of_ble_eq_true rfl)⟩) ?_
  refine hw_asto_n (lv' := [(3, hw_vr b v2), (0, hw_vr b (some x0)), (1, .int l1), (2, .int l2)]) hx hb dX11_of_5 rfl hl (by decide) (by decide) rfl (fun ls hl => ?_)
  refine hw_aload_n hx hb dX11_of_6 rfl (hl.at 0 rfl) ?_
  refine hw_ifnull (tgt := 19) hx hb dX11_of_7 (by decide) (fun c7 => ?_) (fun c7 => ?_)
  · have hm := hw_ip hm c7
    exact w11_of_b19 C0 hm hR (hl.sub [1] rfl)
  · have hm := hw_in hm c7
    refine lv_iload_n hx hb dX11_of_10 rfl (hl.at 3 rfl) ?_
    refine lv_iconst (v := 0) hx hb dX11_of_11 (by decide) ?_
    refine lv_iconst (v := 1) hx hb dX11_of_12 (by decide) ?_
    obtain ⟨v13, e13, hm⟩ := hw_bs hm
    refine hw_cRI (va_runS (As := [.int l2, .int (0 : Int32), .int (1 : Int32)]) (rest := []) ⟨hx, hb, hml, hown, hts⟩ (c11_isWithin l D e13) (cwS 3 hts (hw_gS hw_m99 hw_m100 hw_m2 hw_m101) rfl rfl rfl (by decide +kernel) ⟨(Nat.le_of_ble_eq_true rfl), (Nat.le_of_ble_eq_true rfl)⟩) (hw_pre0 hE) rfl rfl hl.sz rfl (lv_room (Nat.le_of_ble_eq_true rfl)) dX11_of_13 ⟨(Nat.le_of_ble_eq_true rfl), (Nat.le_of_ble_eq_true rfl)⟩) ?_
    refine lv_if_ne (tgt := 21) hx hb dX11_of_16 (by decide) (fun c16 => ?_) (fun c16 => ?_)
    · have hm := hw_in hm c16
      refine lv_iload_n hx hb dX11_of_21 rfl (hl.at 3 rfl) ?_
      refine lv_if_ne (tgt := 32) hx hb dX11_of_22 (by decide) (fun c22 => ?_) (fun c22 => ?_)
      · have hm := hw_in hm c22
        refine hw_aload_n hx hb dX11_of_32 rfl (hl.at 0 rfl) ?_
        obtain ⟨v33, e33, hm⟩ := hw_bs hm
        refine hw_getI hx hb hw_cf9 hts hown hK hR e33 (by decide) rfl (hts _ hw_m120) (fun _ h9 => h9) dX11_of_33 ?_
        exact w11_of_b36 C0 hm hR (hl.sub [1] rfl)
      · have hm := hw_ip hm c22
        refine hw_aload_n hx hb dX11_of_25 rfl (hl.at 0 rfl) ?_
        obtain ⟨v26, e26, hm⟩ := hw_bs hm
        refine hw_getI hx hb hw_cf9 hts hown hK hR e26 (by decide) rfl (hts _ hw_m119) (fun _ h9 => h9) dX11_of_26 ?_
        refine lv_goto (tgt := 36) hx hb dX11_of_29 (by decide) ?_
        exact w11_of_b36 C0 hm hR (hl.sub [1] rfl)
    · have hm := hw_ip hm c16
      exact w11_of_b19 C0 hm hR (hl.sub [1] rfl)
set_option maxRecDepth 100000 in
theorem c11_of (l : Launch) (D : hw_D) (b : Nat) {x0 : Nat} {l1 : Int32} {l2 : Int32} {σ : hw_S} {r : Int32} (hm : m11_of x0 l1 l2 σ = some r) : Met l yX11_of (Cond.code yX11_of cX11_of 4 (some .int) :: wsL_law) rm11_of (hw_P1 D b σ [hw_vr b (some x0), .int l1, .int l2]) (hw_RI r) 0 0 hw_nof := by
  refine hw_start1 (by decide +kernel) (by exact Nat.le_of_ble_eq_true rfl) ?_
  intro p e s m below meth c ls C0 hR hS hl
  have hl : lv_has ls 4 [(0, hw_vr b (some x0)), (1, .int l1), (2, .int l2)] := by exact hl
  exact w11_of_s hm C0 hR ⟨hl, (List.forall_mem_cons.mpr ⟨(fun h => by rw [show (hw_vr b (some x0) : Value).category = 1 from (hw_vr_cat _ _)] at h; cases h), (List.forall_mem_cons.mpr ⟨(fun h => absurd (show (1 : Nat) = 2 from h) (by decide)), (List.forall_mem_cons.mpr ⟨(fun h => absurd (show (1 : Nat) = 2 from h) (by decide)), (fun _ h => absurd h List.not_mem_nil)⟩)⟩)⟩)⟩

abbrev rm12_isStuff : Room := { frames := 1, cells := 0, slots := 0, locals := 22 }
def m12_isStuff (x0 : Nat) (l1 : Int32) (σ : hw_S) : Option Int32 :=
  (hw_gP (hw_q 12) 1 (some x0) σ).bind fun v3 =>
  (hw_aI 0 v3 (0 : Int32) σ).bind fun v7 =>
  (m12_in l1 (0 : Int32) (v7 - (1 : Int32))).bind fun v10 =>
  (hw_tf v10).bind fun _ =>
  some v10
set_option maxRecDepth 100000 in
theorem w12_isStuff_s {p : Program} {l : Launch} {e : Env} {s : State} {m : MethodId} {args : Array Value} {below : List Frame} {meth : Method} {c : Code} {D : hw_D} {b : Nat} {x0 : Nat} {l1 : Int32} {σ : hw_S} {r : Int32} (hm : m12_isStuff x0 l1 σ = some r) (C0 : hw_C p s m args meth c D yX12_isStuff cX12_isStuff 2 (some .boolean)) (hR : hw_R D b σ s.heap) {ls : Array Slot} (hl : hw_L ls 2 255 [(0, hw_vr b (some x0)), (1, .int l1)]) : W p l e rm12_isStuff s m args below meth c s.heap [] 0 0 (MQ below (hw_RI r) args s 0 0 hw_nof) (F0 m 0 ls []) := by
  obtain ⟨hx, hb, hml, hr, hown, hts, hlk, hE, hnm⟩ := id C0
  have hown : s.vm.findClass RX12 = some m.cls := hown
  have hK := hE.1
  unfold m12_isStuff at hm
  refine lv_iload_n hx hb dX12_isStuff_0 rfl (hl.at 1 rfl) ?_
  refine lv_iconst (v := 0) hx hb dX12_isStuff_1 (by decide) ?_
  refine hw_aload_n hx hb dX12_isStuff_2 rfl (hl.at 0 rfl) ?_
  obtain ⟨v3, e3, hm⟩ := hw_bs hm
  refine hw_getP hx hb hw_cf12 hts hown hK hR e3 (by decide) rfl (hts _ hw_m76) (fun _ h9 => h9) dX12_isStuff_3 ?_
  refine lv_iconst (v := 0) hx hb dX12_isStuff_6 (by decide) ?_
  obtain ⟨v7, e7, hm⟩ := hw_bs hm
  refine hw_iald hx hb hK hR e7 dX12_isStuff_7 ?_
  refine lv_iconst (v := 1) hx hb dX12_isStuff_8 (by decide) ?_
  refine lv_isub hx hb dX12_isStuff_9 ?_
  obtain ⟨v10, e10, hm⟩ := hw_bs hm
  refine hw_cRI (va_runS (As := [.int l1, .int (0 : Int32), .int (v7 - (1 : Int32))]) (rest := []) ⟨hx, hb, hml, hown, hts⟩ (c12_in l D e10) (cwS 3 hts (hw_gS hw_m112 hw_m113 hw_m5 hw_m114) rfl rfl rfl (by decide +kernel) ⟨(Nat.le_of_ble_eq_true rfl), (Nat.le_of_ble_eq_true rfl)⟩) (hw_pre0 hE) rfl rfl hl.sz rfl (lv_room (Nat.le_of_ble_eq_true rfl)) dX12_isStuff_10 ⟨(Nat.le_of_ble_eq_true rfl), (Nat.le_of_ble_eq_true rfl)⟩) ?_
  obtain ⟨_, z13, hm⟩ := hw_bs hm
  exact hw_rRZ hx hb hr hlk z13 hm dX12_isStuff_13
set_option maxRecDepth 100000 in
theorem c12_isStuff (l : Launch) (D : hw_D) (b : Nat) {x0 : Nat} {l1 : Int32} {σ : hw_S} {r : Int32} (hm : m12_isStuff x0 l1 σ = some r) : Met l yX12_isStuff (Cond.code yX12_isStuff cX12_isStuff 2 (some .boolean) :: wsL_law) rm12_isStuff (hw_P1 D b σ [hw_vr b (some x0), .int l1]) (hw_RI r) 0 0 hw_nof := by
  refine hw_start1 (by decide +kernel) (by exact Nat.le_of_ble_eq_true rfl) ?_
  intro p e s m below meth c ls C0 hR hS hl
  have hl : lv_has ls 2 [(0, hw_vr b (some x0)), (1, .int l1)] := by exact hl
  exact w12_isStuff_s hm C0 hR ⟨hl, (List.forall_mem_cons.mpr ⟨(fun h => by rw [show (hw_vr b (some x0) : Value).category = 1 from (hw_vr_cat _ _)] at h; cases h), (List.forall_mem_cons.mpr ⟨(fun h => absurd (show (1 : Nat) = 2 from h) (by decide)), (fun _ h => absurd h List.not_mem_nil)⟩)⟩)⟩

abbrev rm12_of : Room := { frames := 2, cells := 0, slots := 0, locals := 43 }
def m12_of_b35 (x0 : Nat) (t0 : Int32) (σ : hw_S) : Option Int32 :=
  some t0
set_option maxRecDepth 100000 in
theorem w12_of_b35 {p : Program} {l : Launch} {e : Env} {s : State} {m : MethodId} {args : Array Value} {below : List Frame} {meth : Method} {c : Code} {D : hw_D} {b : Nat} {r : Int32} (C0 : hw_C p s m args meth c D yX12_of cX12_of 3 (some .int)) {x0 : Nat} {t0 : Int32} {σ : hw_S} (hm : m12_of_b35 x0 t0 σ = some r) (hR : hw_R D b σ s.heap) {ls : Array Slot} (hl : hw_L ls 3 255 [(0, hw_vr b (some x0))]) : W p l e rm12_of s m args below meth c s.heap [] 0 0 (MQ below (hw_RI r) args s 0 0 hw_nof) (F0 m 35 ls [.int t0]) := by
  obtain ⟨hx, hb, hml, hr, hown, hts, hlk, hE, hnm⟩ := id C0
  have hown : s.vm.findClass RX12 = some m.cls := hown
  have hK := hE.1
  unfold m12_of_b35 at hm
  exact hw_rRI hx hb hr hlk hm dX12_of_35
def m12_of_b34 (x0 : Nat) (σ : hw_S) : Option Int32 :=
  m12_of_b35 x0 ((-1) : Int32) σ
set_option maxRecDepth 100000 in
theorem w12_of_b34 {p : Program} {l : Launch} {e : Env} {s : State} {m : MethodId} {args : Array Value} {below : List Frame} {meth : Method} {c : Code} {D : hw_D} {b : Nat} {r : Int32} (C0 : hw_C p s m args meth c D yX12_of cX12_of 3 (some .int)) {x0 : Nat} {σ : hw_S} (hm : m12_of_b34 x0 σ = some r) (hR : hw_R D b σ s.heap) {ls : Array Slot} (hl : hw_L ls 3 255 [(0, hw_vr b (some x0))]) : W p l e rm12_of s m args below meth c s.heap [] 0 0 (MQ below (hw_RI r) args s 0 0 hw_nof) (F0 m 34 ls []) := by
  obtain ⟨hx, hb, hml, hr, hown, hts, hlk, hE, hnm⟩ := id C0
  have hown : s.vm.findClass RX12 = some m.cls := hown
  have hK := hE.1
  unfold m12_of_b34 at hm
  refine lv_iconst (v := (-1)) hx hb dX12_of_34 (by decide) ?_
  exact w12_of_b35 C0 hm hR (hl.sub [0] rfl)
def m12_of (x0 : Nat) (l1 : Int32) (l2 : Int32) (σ : hw_S) : Option Int32 :=
  (hw_rv (hw_q 12) (some x0) σ).bind fun a2 =>
  (m12_isStuff x0 l1 σ).bind fun v2 =>
  (if v2 = 0 then
  m12_of_b34 x0 σ
  else
  (m12_in l2 (0 : Int32) (1 : Int32)).bind fun v11 =>
  (if v11 = 0 then
  m12_of_b34 x0 σ
  else
  (hw_gP (hw_q 12) 1 (some x0) σ).bind fun v18 =>
  (hw_aI 0 v18 (((130 : Int32) + ((5 : Int32) * l2)) + l1) σ).bind fun v30 =>
  m12_of_b35 x0 v30 σ))
set_option maxRecDepth 100000 in
theorem w12_of_s {p : Program} {l : Launch} {e : Env} {s : State} {m : MethodId} {args : Array Value} {below : List Frame} {meth : Method} {c : Code} {D : hw_D} {b : Nat} {x0 : Nat} {l1 : Int32} {l2 : Int32} {σ : hw_S} {r : Int32} (hm : m12_of x0 l1 l2 σ = some r) (C0 : hw_C p s m args meth c D yX12_of cX12_of 3 (some .int)) (hR : hw_R D b σ s.heap) {ls : Array Slot} (hl : hw_L ls 3 255 [(0, hw_vr b (some x0)), (1, .int l1), (2, .int l2)]) : W p l e rm12_of s m args below meth c s.heap [] 0 0 (MQ below (hw_RI r) args s 0 0 hw_nof) (F0 m 0 ls []) := by
  obtain ⟨hx, hb, hml, hr, hown, hts, hlk, hE, hnm⟩ := id C0
  have hown : s.vm.findClass RX12 = some m.cls := hown
  have hK := hE.1
  unfold m12_of at hm
  refine hw_aload_n hx hb dX12_of_0 rfl (hl.at 0 rfl) ?_
  refine lv_iload_n hx hb dX12_of_1 rfl (hl.at 1 rfl) ?_
  obtain ⟨a2, g2, hm⟩ := hw_bs hm
  obtain ⟨rfl, ht2⟩ := hw_rv_th g2
  obtain ⟨v2, e2, hm⟩ := hw_bs hm
  refine hw_cRI (va_runV (As := [.int l1]) (rest := []) ⟨hx, hb, hml, hown, hts⟩ (c12_isStuff l D b e2) (cwV 1 hts (hw_gV hw_m129 hw_m130 hw_m131 hw_m5 hw_m132) rfl rfl rfl (by decide +kernel) ⟨(Nat.le_of_ble_eq_true rfl), (Nat.le_of_ble_eq_true rfl)⟩) (hw_preV (ci := 12) hE hR rfl (by decide) (hw_q_of ht2)) rfl rfl hl.sz rfl (lv_room (Nat.le_of_ble_eq_true rfl)) dX12_of_2 ⟨(Nat.le_of_ble_eq_true rfl), (Nat.le_of_ble_eq_true rfl)⟩) ?_
  refine lv_if_eq (tgt := 34) hx hb dX12_of_5 (by decide) (fun c5 => ?_) (fun c5 => ?_)
  · have hm := hw_ip hm c5
    exact w12_of_b34 C0 hm hR (hl.sub [0] rfl)
  · have hm := hw_in hm c5
    refine lv_iload_n hx hb dX12_of_8 rfl (hl.at 2 rfl) ?_
    refine lv_iconst (v := 0) hx hb dX12_of_9 (by decide) ?_
    refine lv_iconst (v := 1) hx hb dX12_of_10 (by decide) ?_
    obtain ⟨v11, e11, hm⟩ := hw_bs hm
    refine hw_cRI (va_runS (As := [.int l2, .int (0 : Int32), .int (1 : Int32)]) (rest := []) ⟨hx, hb, hml, hown, hts⟩ (c12_in l D e11) (cwS 3 hts (hw_gS hw_m112 hw_m113 hw_m5 hw_m114) rfl rfl rfl (by decide +kernel) ⟨(Nat.le_of_ble_eq_true rfl), (Nat.le_of_ble_eq_true rfl)⟩) (hw_pre0 hE) rfl rfl hl.sz rfl (lv_room (Nat.le_of_ble_eq_true rfl)) dX12_of_11 ⟨(Nat.le_of_ble_eq_true rfl), (Nat.le_of_ble_eq_true rfl)⟩) ?_
    refine lv_if_eq (tgt := 34) hx hb dX12_of_14 (by decide) (fun c14 => ?_) (fun c14 => ?_)
    · have hm := hw_ip hm c14
      exact w12_of_b34 C0 hm hR (hl.sub [0] rfl)
    · have hm := hw_in hm c14
      refine hw_aload_n hx hb dX12_of_17 rfl (hl.at 0 rfl) ?_
      obtain ⟨v18, e18, hm⟩ := hw_bs hm
      refine hw_getP hx hb hw_cf12 hts hown hK hR e18 (by decide) rfl (hts _ hw_m76) (fun _ h9 => h9) dX12_of_18 ?_
      refine lv_sipush (v := 130) hx hb dX12_of_21 (by decide) ?_
      refine lv_iconst (v := 5) hx hb dX12_of_24 (by decide) ?_
      refine lv_iload_n hx hb dX12_of_25 rfl (hl.at 2 rfl) ?_
      refine lv_imul hx hb dX12_of_26 ?_
      refine lv_iadd hx hb dX12_of_27 ?_
      refine lv_iload_n hx hb dX12_of_28 rfl (hl.at 1 rfl) ?_
      refine lv_iadd hx hb dX12_of_29 ?_
      obtain ⟨v30, e30, hm⟩ := hw_bs hm
      refine hw_iald hx hb hK hR e30 dX12_of_30 ?_
      refine lv_goto (tgt := 35) hx hb dX12_of_31 (by decide) ?_
      exact w12_of_b35 C0 hm hR (hl.sub [0] rfl)
set_option maxRecDepth 100000 in
theorem c12_of (l : Launch) (D : hw_D) (b : Nat) {x0 : Nat} {l1 : Int32} {l2 : Int32} {σ : hw_S} {r : Int32} (hm : m12_of x0 l1 l2 σ = some r) : Met l yX12_of (Cond.code yX12_of cX12_of 3 (some .int) :: wsL_law) rm12_of (hw_P1 D b σ [hw_vr b (some x0), .int l1, .int l2]) (hw_RI r) 0 0 hw_nof := by
  refine hw_start1 (by decide +kernel) (by exact Nat.le_of_ble_eq_true rfl) ?_
  intro p e s m below meth c ls C0 hR hS hl
  have hl : lv_has ls 3 [(0, hw_vr b (some x0)), (1, .int l1), (2, .int l2)] := by exact hl
  exact w12_of_s hm C0 hR ⟨hl, (List.forall_mem_cons.mpr ⟨(fun h => by rw [show (hw_vr b (some x0) : Value).category = 1 from (hw_vr_cat _ _)] at h; cases h), (List.forall_mem_cons.mpr ⟨(fun h => absurd (show (1 : Nat) = 2 from h) (by decide)), (List.forall_mem_cons.mpr ⟨(fun h => absurd (show (1 : Nat) = 2 from h) (by decide)), (fun _ h => absurd h List.not_mem_nil)⟩)⟩)⟩)⟩

abbrev rm11_feed : Room := { frames := 1, cells := 0, slots := 0, locals := 22 }
def m11_feed_b35 : Nat → Nat → Int64 → Int32 → hw_S → Option (Int32 × hw_S)
  | 0, _, _, _, _ => none
  | n + 1, x0, l1, l4, σ =>
  (if l4 < 0 then
  (hw_gP (hw_q 11) 0 (some x0) σ).bind fun v87 =>
  (hw_gI (hw_q 8) 5 v87 σ).bind fun v90 =>
  some (v90, σ)
  else
  (hw_gP (hw_q 11) 0 (some x0) σ).bind fun v41 =>
  (hw_gP (hw_q 8) 4 v41 σ).bind fun v44 =>
  (hw_gP (hw_q 11) 0 (some x0) σ).bind fun v48 =>
  (hw_gI (hw_q 8) 5 v48 σ).bind fun v51 =>
  (hw_sI v44 v51 ((Int64.toInt32 ((Int64.toUInt64 l1 >>> ((Int32.toInt64 ((8 : Int32) * l4)).toUInt64 &&& Int64.toUInt64 63)).toInt64)) &&& (255 : Int32)) σ).bind fun σ66 =>
  (hw_gP (hw_q 11) 0 (some x0) σ66).bind fun v68 =>
  (hw_gI (hw_q 8) 5 v68 σ66).bind fun v72 =>
  (hw_pI (hw_q 8) 5 v68 (v72 + (1 : Int32)) σ66).bind fun σ77 =>
  m11_feed_b35 n x0 l1 (l4 + (-1)) σ77)
set_option maxRecDepth 100000 in
theorem w11_feed_b35 {p : Program} {l : Launch} {e : Env} {s : State} {m : MethodId} {args : Array Value} {below : List Frame} {meth : Method} {c : Code} {D : hw_D} {b : Nat} {r : Int32} {τ : hw_S} (C0 : hw_C p s m args meth c D yX11_feed cX11_feed 5 (some .int)) : ∀ (n : Nat) {x0 : Nat} {l1 : Int64} {l4 : Int32} {σ : hw_S} {H : Heap} {locs : List Loc} {ls : Array Slot}, m11_feed_b35 n x0 l1 l4 σ = some (r, τ) → hw_R D b σ H → va_S (fun q => b ≤ q) s.heap H locs → hw_L ls 5 1 [(0, hw_vr b (some x0)), (1, .long l1), (4, .int l4)] → W p l e rm11_feed s m args below meth c H locs 0 0 (MQ below (hw_QI D b τ r) args s 0 0 (fun q => b ≤ q)) (F0 m 35 ls []) := by
  obtain ⟨hx, hb, hml, hr, hown, hts, hlk, hE, hnm⟩ := id C0
  have hown : s.vm.findClass RX11 = some m.cls := hown
  have hK := hE.1
  intro n
  induction n with
  | zero => intro _ _ _ _ _ _ _ hm; cases hm
  | succ n ih =>
    intro x0 l1 l4 σ H locs ls hm hR hS hl
    rw [m11_feed_b35] at hm
    refine lv_iload hx hb dX11_feed_35 (hl.at 2 rfl) ?_
    refine lv_if_lt (tgt := 86) hx hb dX11_feed_37 (by decide) (fun c37 => ?_) (fun c37 => ?_)
    · have hm := hw_ip hm c37
      refine hw_aload_n hx hb dX11_feed_86 rfl (hl.at 0 rfl) ?_
      obtain ⟨v87, e87, hm⟩ := hw_bs hm
      refine hw_getP hx hb hw_cf11 hts hown hK hR e87 (by decide) rfl (hts _ hw_m16) (fun _ h9 => h9) dX11_feed_87 ?_
      obtain ⟨v90, e90, hm⟩ := hw_bs hm
      refine hw_getI hx hb hw_cf8 hts hown hK hR e90 (by decide) rfl (hts _ hw_m137) (fun _ h9 => h9) dX11_feed_90 ?_
      exact hw_rWI hx hb hr hlk hR hS hm dX11_feed_93
    · have hm := hw_in hm c37
      refine hw_aload_n hx hb dX11_feed_40 rfl (hl.at 0 rfl) ?_
      obtain ⟨v41, e41, hm⟩ := hw_bs hm
      refine hw_getP hx hb hw_cf11 hts hown hK hR e41 (by decide) rfl (hts _ hw_m16) (fun _ h9 => h9) dX11_feed_41 ?_
      obtain ⟨v44, e44, hm⟩ := hw_bs hm
      refine hw_getP hx hb hw_cf8 hts hown hK hR e44 (by decide) rfl (hts _ hw_m138) (fun _ h9 => h9) dX11_feed_44 ?_
      refine hw_aload_n hx hb dX11_feed_47 rfl (hl.at 0 rfl) ?_
      obtain ⟨v48, e48, hm⟩ := hw_bs hm
      refine hw_getP hx hb hw_cf11 hts hown hK hR e48 (by decide) rfl (hts _ hw_m16) (fun _ h9 => h9) dX11_feed_48 ?_
      obtain ⟨v51, e51, hm⟩ := hw_bs hm
      refine hw_getI hx hb hw_cf8 hts hown hK hR e51 (by decide) rfl (hts _ hw_m137) (fun _ h9 => h9) dX11_feed_51 ?_
      refine lv_lload_n hx hb dX11_feed_54 rfl (hl.at 1 rfl) ?_
      refine lv_bipush (v := 8) hx hb dX11_feed_55 (by decide) ?_
      refine lv_iload hx hb dX11_feed_57 (hl.at 2 rfl) ?_
      refine lv_imul hx hb dX11_feed_59 ?_
      refine lv_lushr (v := ((Int64.toUInt64 l1 >>> ((Int32.toInt64 ((8 : Int32) * l4)).toUInt64 &&& Int64.toUInt64 63)).toInt64)) hx hb dX11_feed_60 rfl ?_
      refine lv_l2i hx hb dX11_feed_61 rfl ?_
      refine lv_sipush (v := 255) hx hb dX11_feed_62 (by decide) ?_
      refine lv_iand hx hb dX11_feed_65 ?_
      obtain ⟨σ66, e66, hm⟩ := hw_bs hm
      refine hw_iast hx hb hK hR hS e66 dX11_feed_66 (fun _ _ hR hS => ?_)
      refine hw_aload_n hx hb dX11_feed_67 rfl (hl.at 0 rfl) ?_
      obtain ⟨v68, e68, hm⟩ := hw_bs hm
      refine hw_getP hx hb hw_cf11 hts hown hK hR e68 (by decide) rfl (hts _ hw_m16) (fun _ h9 => h9) dX11_feed_68 ?_
      refine lv_dup hx hb dX11_feed_71 (hw_vr_cat _ _) ?_
      obtain ⟨v72, e72, hm⟩ := hw_bs hm
      refine hw_getI hx hb hw_cf8 hts hown hK hR e72 (by decide) rfl (hts _ hw_m137) (fun _ h9 => h9) dX11_feed_72 ?_
      refine lv_iconst (v := 1) hx hb dX11_feed_75 (by decide) ?_
      refine lv_iadd hx hb dX11_feed_76 ?_
      obtain ⟨σ77, e77, hm⟩ := hw_bs hm
      refine hw_putI hx hb hw_cf8 hts hown hK hR hS e77 (by decide) rfl rfl (hts _ hw_m137) (fun _ h9 => h9) (Or.inl rfl) dX11_feed_77 (fun _ _ hR hS => ?_)
      refine hw_iinc (v := (l4 + (-1))) (lv' := [(4, .int (l4 + (-1))), (0, hw_vr b (some x0)), (1, .long l1)]) hx hb dX11_feed_80 hl (k := 2) rfl rfl (by decide) (by decide) rfl (fun ls hl => ?_)
      refine lv_goto (tgt := 35) hx hb dX11_feed_83 (by decide) ?_
      exact ih hm hR hS (hl.sub [1, 2, 0] rfl)
def m11_feed (x0 : Nat) (l1 : Int64) (l3 : Int32) (σ : hw_S) : Option (Int32 × hw_S) :=
  (m11_isWithin l3 (1 : Int32) (8 : Int32)).bind fun v4 =>
  (if v4 = 0 then
  some (((-2) : Int32), σ)
  else
  (hw_gP (hw_q 11) 0 (some x0) σ).bind fun v14 =>
  (hw_gI (hw_q 8) 5 v14 σ).bind fun v17 =>
  (if (v17 + l3) ≤ (120 : Int32) then
  m11_feed_b35 hw_fu x0 l1 (l3 - (1 : Int32)) σ
  else
  some (((-4) : Int32), σ)))
set_option maxRecDepth 100000 in
theorem w11_feed_s {p : Program} {l : Launch} {e : Env} {s : State} {m : MethodId} {args : Array Value} {below : List Frame} {meth : Method} {c : Code} {D : hw_D} {b : Nat} {x0 : Nat} {l1 : Int64} {l3 : Int32} {σ : hw_S} {r : Int32} {τ : hw_S} {H : Heap} {locs : List Loc} (hm : m11_feed x0 l1 l3 σ = some (r, τ)) (C0 : hw_C p s m args meth c D yX11_feed cX11_feed 5 (some .int)) (hR : hw_R D b σ H) (hS : va_S (fun q => b ≤ q) s.heap H locs) {ls : Array Slot} (hl : hw_L ls 5 1 [(0, hw_vr b (some x0)), (1, .long l1), (3, .int l3)]) : W p l e rm11_feed s m args below meth c H locs 0 0 (MQ below (hw_QI D b τ r) args s 0 0 (fun q => b ≤ q)) (F0 m 0 ls []) := by
  obtain ⟨hx, hb, hml, hr, hown, hts, hlk, hE, hnm⟩ := id C0
  have hown : s.vm.findClass RX11 = some m.cls := hown
  have hK := hE.1
  unfold m11_feed at hm
  refine lv_iload_n hx hb dX11_feed_0 rfl (hl.at 2 rfl) ?_
  refine lv_iconst (v := 1) hx hb dX11_feed_1 (by decide) ?_
  refine lv_bipush (v := 8) hx hb dX11_feed_2 (by decide) ?_
  obtain ⟨v4, e4, hm⟩ := hw_bs hm
  refine hw_cRI (va_runS (As := [.int l3, .int (1 : Int32), .int (8 : Int32)]) (rest := []) ⟨hx, hb, hml, hown, hts⟩ (c11_isWithin l D e4) (cwS 3 hts (hw_gS hw_m99 hw_m100 hw_m2 hw_m101) rfl rfl rfl (by decide +kernel) ⟨(Nat.le_of_ble_eq_true rfl), (Nat.le_of_ble_eq_true rfl)⟩) (hw_pre0 hE) rfl rfl hl.sz rfl (lv_room (Nat.le_of_ble_eq_true rfl)) dX11_feed_4 ⟨(Nat.le_of_ble_eq_true rfl), (Nat.le_of_ble_eq_true rfl)⟩) ?_
  refine lv_if_ne (tgt := 13) hx hb dX11_feed_7 (by decide) (fun c7 => ?_) (fun c7 => ?_)
  · have hm := hw_in hm c7
    refine hw_aload_n hx hb dX11_feed_13 rfl (hl.at 0 rfl) ?_
    obtain ⟨v14, e14, hm⟩ := hw_bs hm
    refine hw_getP hx hb hw_cf11 hts hown hK hR e14 (by decide) rfl (hts _ hw_m16) (fun _ h9 => h9) dX11_feed_14 ?_
    obtain ⟨v17, e17, hm⟩ := hw_bs hm
    refine hw_getI hx hb hw_cf8 hts hown hK hR e17 (by decide) rfl (hts _ hw_m137) (fun _ h9 => h9) dX11_feed_17 ?_
    refine lv_iload_n hx hb dX11_feed_20 rfl (hl.at 2 rfl) ?_
    refine lv_iadd hx hb dX11_feed_21 ?_
    refine lv_bipush (v := 120) hx hb dX11_feed_22 (by decide) ?_
    refine lv_icmp_le (tgt := 30) hx hb dX11_feed_24 (by decide) (fun c24 => ?_) (fun c24 => ?_)
    · have hm := hw_ip hm c24
      refine lv_iload_n hx hb dX11_feed_30 rfl (hl.at 2 rfl) ?_
      refine lv_iconst (v := 1) hx hb dX11_feed_31 (by decide) ?_
      refine lv_isub hx hb dX11_feed_32 ?_
      refine hw_istore (lv' := [(4, .int (l3 - (1 : Int32))), (0, hw_vr b (some x0)), (1, .long l1), (3, .int l3)]) hx hb dX11_feed_33 hl (by decide) (by decide) rfl (fun ls hl => ?_)
      exact w11_feed_b35 C0 hw_fu hm hR hS (hl.sub [1, 2, 0] rfl)
    · have hm := hw_in hm c24
      refine lv_bipush (v := (-4)) hx hb dX11_feed_27 (by decide) ?_
      exact hw_rWI hx hb hr hlk hR hS hm dX11_feed_29
  · have hm := hw_ip hm c7
    refine lv_bipush (v := (-2)) hx hb dX11_feed_10 (by decide) ?_
    exact hw_rWI hx hb hr hlk hR hS hm dX11_feed_12
set_option maxRecDepth 100000 in
theorem c11_feed (l : Launch) (D : hw_D) (b : Nat) {x0 : Nat} {l1 : Int64} {l3 : Int32} {σ : hw_S} {r : Int32} {τ : hw_S} (hm : m11_feed x0 l1 l3 σ = some (r, τ)) : Met l yX11_feed (Cond.code yX11_feed cX11_feed 5 (some .int) :: wsL_law) rm11_feed (hw_P1 D b σ [hw_vr b (some x0), .long l1, .int l3]) (hw_QI D b τ r) 0 0 (fun q => b ≤ q) := by
  refine hw_start1 (by decide +kernel) (by exact Nat.le_of_ble_eq_true rfl) ?_
  intro p e s m below meth c ls C0 hR hS hl
  have hl : lv_has ls 5 [(0, hw_vr b (some x0)), (1, .long l1), (3, .int l3)] := by exact hl
  exact w11_feed_s hm C0 hR hS ⟨hl, (List.forall_mem_cons.mpr ⟨(fun h => by rw [show (hw_vr b (some x0) : Value).category = 1 from (hw_vr_cat _ _)] at h; cases h), (List.forall_mem_cons.mpr ⟨(fun _ => rfl), (List.forall_mem_cons.mpr ⟨(fun h => absurd (show (1 : Nat) = 2 from h) (by decide)), (fun _ h => absurd h List.not_mem_nil)⟩)⟩)⟩)⟩

abbrev rm12_feed : Room := { frames := 1, cells := 0, slots := 0, locals := 22 }
def m12_feed_b34 : Nat → Nat → Int64 → Int32 → hw_S → Option (Int32 × hw_S)
  | 0, _, _, _, _ => none
  | n + 1, x0, l1, l4, σ =>
  (if l4 < 0 then
  (hw_gP (hw_q 12) 1 (some x0) σ).bind fun v82 =>
  (hw_aI 0 v82 (5 : Int32) σ).bind fun v86 =>
  some (v86, σ)
  else
  (hw_gP (hw_q 12) 1 (some x0) σ).bind fun v40 =>
  (hw_gP (hw_q 12) 1 (some x0) σ).bind fun v46 =>
  (hw_aI 0 v46 (5 : Int32) σ).bind fun v50 =>
  (hw_sI v40 ((10 : Int32) + v50) (Int64.toInt32 ((l1 >>> ((Int32.toInt64 ((8 : Int32) * l4)) &&& 63)) &&& (255 : Int64))) σ).bind fun σ64 =>
  (hw_gP (hw_q 12) 1 (some x0) σ64).bind fun v66 =>
  (hw_aI 0 v66 (5 : Int32) σ64).bind fun v71 =>
  (hw_sI v66 (5 : Int32) (v71 + (1 : Int32)) σ64).bind fun σ74 =>
  m12_feed_b34 n x0 l1 (l4 + (-1)) σ74)
set_option maxRecDepth 100000 in
theorem w12_feed_b34 {p : Program} {l : Launch} {e : Env} {s : State} {m : MethodId} {args : Array Value} {below : List Frame} {meth : Method} {c : Code} {D : hw_D} {b : Nat} {r : Int32} {τ : hw_S} (C0 : hw_C p s m args meth c D yX12_feed cX12_feed 5 (some .int)) : ∀ (n : Nat) {x0 : Nat} {l1 : Int64} {l4 : Int32} {σ : hw_S} {H : Heap} {locs : List Loc} {ls : Array Slot}, m12_feed_b34 n x0 l1 l4 σ = some (r, τ) → hw_R D b σ H → va_S (fun q => b ≤ q) s.heap H locs → hw_L ls 5 1 [(0, hw_vr b (some x0)), (1, .long l1), (4, .int l4)] → W p l e rm12_feed s m args below meth c H locs 0 0 (MQ below (hw_QI D b τ r) args s 0 0 (fun q => b ≤ q)) (F0 m 34 ls []) := by
  obtain ⟨hx, hb, hml, hr, hown, hts, hlk, hE, hnm⟩ := id C0
  have hown : s.vm.findClass RX12 = some m.cls := hown
  have hK := hE.1
  intro n
  induction n with
  | zero => intro _ _ _ _ _ _ _ hm; cases hm
  | succ n ih =>
    intro x0 l1 l4 σ H locs ls hm hR hS hl
    rw [m12_feed_b34] at hm
    refine lv_iload hx hb dX12_feed_34 (hl.at 2 rfl) ?_
    refine lv_if_lt (tgt := 81) hx hb dX12_feed_36 (by decide) (fun c36 => ?_) (fun c36 => ?_)
    · have hm := hw_ip hm c36
      refine hw_aload_n hx hb dX12_feed_81 rfl (hl.at 0 rfl) ?_
      obtain ⟨v82, e82, hm⟩ := hw_bs hm
      refine hw_getP hx hb hw_cf12 hts hown hK hR e82 (by decide) rfl (hts _ hw_m76) (fun _ h9 => h9) dX12_feed_82 ?_
      refine lv_iconst (v := 5) hx hb dX12_feed_85 (by decide) ?_
      obtain ⟨v86, e86, hm⟩ := hw_bs hm
      refine hw_iald hx hb hK hR e86 dX12_feed_86 ?_
      exact hw_rWI hx hb hr hlk hR hS hm dX12_feed_87
    · have hm := hw_in hm c36
      refine hw_aload_n hx hb dX12_feed_39 rfl (hl.at 0 rfl) ?_
      obtain ⟨v40, e40, hm⟩ := hw_bs hm
      refine hw_getP hx hb hw_cf12 hts hown hK hR e40 (by decide) rfl (hts _ hw_m76) (fun _ h9 => h9) dX12_feed_40 ?_
      refine lv_bipush (v := 10) hx hb dX12_feed_43 (by decide) ?_
      refine hw_aload_n hx hb dX12_feed_45 rfl (hl.at 0 rfl) ?_
      obtain ⟨v46, e46, hm⟩ := hw_bs hm
      refine hw_getP hx hb hw_cf12 hts hown hK hR e46 (by decide) rfl (hts _ hw_m76) (fun _ h9 => h9) dX12_feed_46 ?_
      refine lv_iconst (v := 5) hx hb dX12_feed_49 (by decide) ?_
      obtain ⟨v50, e50, hm⟩ := hw_bs hm
      refine hw_iald hx hb hK hR e50 dX12_feed_50 ?_
      refine lv_iadd hx hb dX12_feed_51 ?_
      refine lv_lload_n hx hb dX12_feed_52 rfl (hl.at 1 rfl) ?_
      refine lv_bipush (v := 8) hx hb dX12_feed_53 (by decide) ?_
      refine lv_iload hx hb dX12_feed_55 (hl.at 2 rfl) ?_
      refine lv_imul hx hb dX12_feed_57 ?_
      refine lv_lshr (v := (l1 >>> ((Int32.toInt64 ((8 : Int32) * l4)) &&& 63))) hx hb dX12_feed_58 rfl ?_
      refine lv_ldc2 (v := 255) hx hb hown (hts _ hw_m143) dX12_feed_59 ?_
      refine lv_land hx hb dX12_feed_62 ?_
      refine lv_l2i hx hb dX12_feed_63 rfl ?_
      obtain ⟨σ64, e64, hm⟩ := hw_bs hm
      refine hw_iast hx hb hK hR hS e64 dX12_feed_64 (fun _ _ hR hS => ?_)
      refine hw_aload_n hx hb dX12_feed_65 rfl (hl.at 0 rfl) ?_
      obtain ⟨v66, e66, hm⟩ := hw_bs hm
      refine hw_getP hx hb hw_cf12 hts hown hK hR e66 (by decide) rfl (hts _ hw_m76) (fun _ h9 => h9) dX12_feed_66 ?_
      refine lv_iconst (v := 5) hx hb dX12_feed_69 (by decide) ?_
      refine lv_dup2_11 hx hb dX12_feed_70 rfl (hw_vr_cat _ _) ?_
      obtain ⟨v71, e71, hm⟩ := hw_bs hm
      refine hw_iald hx hb hK hR e71 dX12_feed_71 ?_
      refine lv_iconst (v := 1) hx hb dX12_feed_72 (by decide) ?_
      refine lv_iadd hx hb dX12_feed_73 ?_
      obtain ⟨σ74, e74, hm⟩ := hw_bs hm
      refine hw_iast hx hb hK hR hS e74 dX12_feed_74 (fun _ _ hR hS => ?_)
      refine hw_iinc (v := (l4 + (-1))) (lv' := [(4, .int (l4 + (-1))), (0, hw_vr b (some x0)), (1, .long l1)]) hx hb dX12_feed_75 hl (k := 2) rfl rfl (by decide) (by decide) rfl (fun ls hl => ?_)
      refine lv_goto (tgt := 34) hx hb dX12_feed_78 (by decide) ?_
      exact ih hm hR hS (hl.sub [1, 2, 0] rfl)
def m12_feed (x0 : Nat) (l1 : Int64) (l3 : Int32) (σ : hw_S) : Option (Int32 × hw_S) :=
  (m12_in l3 (1 : Int32) (8 : Int32)).bind fun v4 =>
  (if v4 = 0 then
  some (((-2) : Int32), σ)
  else
  (hw_gP (hw_q 12) 1 (some x0) σ).bind fun v14 =>
  (hw_aI 0 v14 (5 : Int32) σ).bind fun v18 =>
  (if (v18 + l3) ≤ (120 : Int32) then
  m12_feed_b34 hw_fu x0 l1 (l3 - (1 : Int32)) σ
  else
  some (((-4) : Int32), σ)))
set_option maxRecDepth 100000 in
theorem w12_feed_s {p : Program} {l : Launch} {e : Env} {s : State} {m : MethodId} {args : Array Value} {below : List Frame} {meth : Method} {c : Code} {D : hw_D} {b : Nat} {x0 : Nat} {l1 : Int64} {l3 : Int32} {σ : hw_S} {r : Int32} {τ : hw_S} {H : Heap} {locs : List Loc} (hm : m12_feed x0 l1 l3 σ = some (r, τ)) (C0 : hw_C p s m args meth c D yX12_feed cX12_feed 5 (some .int)) (hR : hw_R D b σ H) (hS : va_S (fun q => b ≤ q) s.heap H locs) {ls : Array Slot} (hl : hw_L ls 5 1 [(0, hw_vr b (some x0)), (1, .long l1), (3, .int l3)]) : W p l e rm12_feed s m args below meth c H locs 0 0 (MQ below (hw_QI D b τ r) args s 0 0 (fun q => b ≤ q)) (F0 m 0 ls []) := by
  obtain ⟨hx, hb, hml, hr, hown, hts, hlk, hE, hnm⟩ := id C0
  have hown : s.vm.findClass RX12 = some m.cls := hown
  have hK := hE.1
  unfold m12_feed at hm
  refine lv_iload_n hx hb dX12_feed_0 rfl (hl.at 2 rfl) ?_
  refine lv_iconst (v := 1) hx hb dX12_feed_1 (by decide) ?_
  refine lv_bipush (v := 8) hx hb dX12_feed_2 (by decide) ?_
  obtain ⟨v4, e4, hm⟩ := hw_bs hm
  refine hw_cRI (va_runS (As := [.int l3, .int (1 : Int32), .int (8 : Int32)]) (rest := []) ⟨hx, hb, hml, hown, hts⟩ (c12_in l D e4) (cwS 3 hts (hw_gS hw_m112 hw_m113 hw_m5 hw_m114) rfl rfl rfl (by decide +kernel) ⟨(Nat.le_of_ble_eq_true rfl), (Nat.le_of_ble_eq_true rfl)⟩) (hw_pre0 hE) rfl rfl hl.sz rfl (lv_room (Nat.le_of_ble_eq_true rfl)) dX12_feed_4 ⟨(Nat.le_of_ble_eq_true rfl), (Nat.le_of_ble_eq_true rfl)⟩) ?_
  refine lv_if_ne (tgt := 13) hx hb dX12_feed_7 (by decide) (fun c7 => ?_) (fun c7 => ?_)
  · have hm := hw_in hm c7
    refine hw_aload_n hx hb dX12_feed_13 rfl (hl.at 0 rfl) ?_
    obtain ⟨v14, e14, hm⟩ := hw_bs hm
    refine hw_getP hx hb hw_cf12 hts hown hK hR e14 (by decide) rfl (hts _ hw_m76) (fun _ h9 => h9) dX12_feed_14 ?_
    refine lv_iconst (v := 5) hx hb dX12_feed_17 (by decide) ?_
    obtain ⟨v18, e18, hm⟩ := hw_bs hm
    refine hw_iald hx hb hK hR e18 dX12_feed_18 ?_
    refine lv_iload_n hx hb dX12_feed_19 rfl (hl.at 2 rfl) ?_
    refine lv_iadd hx hb dX12_feed_20 ?_
    refine lv_bipush (v := 120) hx hb dX12_feed_21 (by decide) ?_
    refine lv_icmp_le (tgt := 29) hx hb dX12_feed_23 (by decide) (fun c23 => ?_) (fun c23 => ?_)
    · have hm := hw_ip hm c23
      refine lv_iload_n hx hb dX12_feed_29 rfl (hl.at 2 rfl) ?_
      refine lv_iconst (v := 1) hx hb dX12_feed_30 (by decide) ?_
      refine lv_isub hx hb dX12_feed_31 ?_
      refine hw_istore (lv' := [(4, .int (l3 - (1 : Int32))), (0, hw_vr b (some x0)), (1, .long l1), (3, .int l3)]) hx hb dX12_feed_32 hl (by decide) (by decide) rfl (fun ls hl => ?_)
      exact w12_feed_b34 C0 hw_fu hm hR hS (hl.sub [1, 2, 0] rfl)
    · have hm := hw_in hm c23
      refine lv_bipush (v := (-4)) hx hb dX12_feed_26 (by decide) ?_
      exact hw_rWI hx hb hr hlk hR hS hm dX12_feed_28
  · have hm := hw_ip hm c7
    refine lv_bipush (v := (-2)) hx hb dX12_feed_10 (by decide) ?_
    exact hw_rWI hx hb hr hlk hR hS hm dX12_feed_12
set_option maxRecDepth 100000 in
theorem c12_feed (l : Launch) (D : hw_D) (b : Nat) {x0 : Nat} {l1 : Int64} {l3 : Int32} {σ : hw_S} {r : Int32} {τ : hw_S} (hm : m12_feed x0 l1 l3 σ = some (r, τ)) : Met l yX12_feed (Cond.code yX12_feed cX12_feed 5 (some .int) :: wsL_law) rm12_feed (hw_P1 D b σ [hw_vr b (some x0), .long l1, .int l3]) (hw_QI D b τ r) 0 0 (fun q => b ≤ q) := by
  refine hw_start1 (by decide +kernel) (by exact Nat.le_of_ble_eq_true rfl) ?_
  intro p e s m below meth c ls C0 hR hS hl
  have hl : lv_has ls 5 [(0, hw_vr b (some x0)), (1, .long l1), (3, .int l3)] := by exact hl
  exact w12_feed_s hm C0 hR hS ⟨hl, (List.forall_mem_cons.mpr ⟨(fun h => by rw [show (hw_vr b (some x0) : Value).category = 1 from (hw_vr_cat _ _)] at h; cases h), (List.forall_mem_cons.mpr ⟨(fun _ => rfl), (List.forall_mem_cons.mpr ⟨(fun h => absurd (show (1 : Nat) = 2 from h) (by decide)), (fun _ h => absurd h List.not_mem_nil)⟩)⟩)⟩)⟩

abbrev rm4_ahead : Room := { frames := 0, cells := 0, slots := 0, locals := 0 }
def m4_ahead_b31 (x0 : Nat) (t0 : Int32) (σ : hw_S) : Option Int32 :=
  some t0
set_option maxRecDepth 100000 in
theorem w4_ahead_b31 {p : Program} {l : Launch} {e : Env} {s : State} {m : MethodId} {args : Array Value} {below : List Frame} {meth : Method} {c : Code} {D : hw_D} {b : Nat} {r : Int32} (C0 : hw_C p s m args meth c D yX4_ahead cX4_ahead 1 (some .int)) {x0 : Nat} {t0 : Int32} {σ : hw_S} (hm : m4_ahead_b31 x0 t0 σ = some r) (hR : hw_R D b σ s.heap) {ls : Array Slot} (hl : hw_L ls 1 255 [(0, hw_vr b (some x0))]) : W p l e rm4_ahead s m args below meth c s.heap [] 0 0 (MQ below (hw_RI r) args s 0 0 hw_nof) (F0 m 31 ls [.int t0]) := by
  obtain ⟨hx, hb, hml, hr, hown, hts, hlk, hE, hnm⟩ := id C0
  have hown : s.vm.findClass RX4 = some m.cls := hown
  have hK := hE.1
  unfold m4_ahead_b31 at hm
  exact hw_rRI hx hb hr hlk hm dX4_ahead_31
def m4_ahead_b30 (x0 : Nat) (σ : hw_S) : Option Int32 :=
  m4_ahead_b31 x0 ((-1) : Int32) σ
set_option maxRecDepth 100000 in
theorem w4_ahead_b30 {p : Program} {l : Launch} {e : Env} {s : State} {m : MethodId} {args : Array Value} {below : List Frame} {meth : Method} {c : Code} {D : hw_D} {b : Nat} {r : Int32} (C0 : hw_C p s m args meth c D yX4_ahead cX4_ahead 1 (some .int)) {x0 : Nat} {σ : hw_S} (hm : m4_ahead_b30 x0 σ = some r) (hR : hw_R D b σ s.heap) {ls : Array Slot} (hl : hw_L ls 1 255 [(0, hw_vr b (some x0))]) : W p l e rm4_ahead s m args below meth c s.heap [] 0 0 (MQ below (hw_RI r) args s 0 0 hw_nof) (F0 m 30 ls []) := by
  obtain ⟨hx, hb, hml, hr, hown, hts, hlk, hE, hnm⟩ := id C0
  have hown : s.vm.findClass RX4 = some m.cls := hown
  have hK := hE.1
  unfold m4_ahead_b30 at hm
  refine lv_iconst (v := (-1)) hx hb dX4_ahead_30 (by decide) ?_
  exact w4_ahead_b31 C0 hm hR (hl.sub [0] rfl)
def m4_ahead (x0 : Nat) (σ : hw_S) : Option Int32 :=
  (hw_gI (hw_q 4) 2 (some x0) σ).bind fun v1 =>
  (if v1 < 0 then
  m4_ahead_b30 x0 σ
  else
  (hw_gI (hw_q 4) 2 (some x0) σ).bind fun v8 =>
  (hw_gI (hw_q 4) 1 (some x0) σ).bind fun v12 =>
  (if v12 ≤ v8 then
  m4_ahead_b30 x0 σ
  else
  (hw_gP (hw_q 4) 0 (some x0) σ).bind fun v19 =>
  (hw_gI (hw_q 4) 2 (some x0) σ).bind fun v23 =>
  (hw_aI 0 v19 v23 σ).bind fun v26 =>
  m4_ahead_b31 x0 v26 σ))
set_option maxRecDepth 100000 in
theorem w4_ahead_s {p : Program} {l : Launch} {e : Env} {s : State} {m : MethodId} {args : Array Value} {below : List Frame} {meth : Method} {c : Code} {D : hw_D} {b : Nat} {x0 : Nat} {σ : hw_S} {r : Int32} (hm : m4_ahead x0 σ = some r) (C0 : hw_C p s m args meth c D yX4_ahead cX4_ahead 1 (some .int)) (hR : hw_R D b σ s.heap) {ls : Array Slot} (hl : hw_L ls 1 255 [(0, hw_vr b (some x0))]) : W p l e rm4_ahead s m args below meth c s.heap [] 0 0 (MQ below (hw_RI r) args s 0 0 hw_nof) (F0 m 0 ls []) := by
  obtain ⟨hx, hb, hml, hr, hown, hts, hlk, hE, hnm⟩ := id C0
  have hown : s.vm.findClass RX4 = some m.cls := hown
  have hK := hE.1
  unfold m4_ahead at hm
  refine hw_aload_n hx hb dX4_ahead_0 rfl (hl.at 0 rfl) ?_
  obtain ⟨v1, e1, hm⟩ := hw_bs hm
  refine hw_getI hx hb hw_cf4 hts hown hK hR e1 (by decide) rfl (hts _ hw_m61) (fun _ h9 => h9) dX4_ahead_1 ?_
  refine lv_if_lt (tgt := 30) hx hb dX4_ahead_4 (by decide) (fun c4 => ?_) (fun c4 => ?_)
  · have hm := hw_ip hm c4
    exact w4_ahead_b30 C0 hm hR (hl.sub [0] rfl)
  · have hm := hw_in hm c4
    refine hw_aload_n hx hb dX4_ahead_7 rfl (hl.at 0 rfl) ?_
    obtain ⟨v8, e8, hm⟩ := hw_bs hm
    refine hw_getI hx hb hw_cf4 hts hown hK hR e8 (by decide) rfl (hts _ hw_m61) (fun _ h9 => h9) dX4_ahead_8 ?_
    refine hw_aload_n hx hb dX4_ahead_11 rfl (hl.at 0 rfl) ?_
    obtain ⟨v12, e12, hm⟩ := hw_bs hm
    refine hw_getI hx hb hw_cf4 hts hown hK hR e12 (by decide) rfl (hts _ hw_m60) (fun _ h9 => h9) dX4_ahead_12 ?_
    refine lv_icmp_ge (tgt := 30) hx hb dX4_ahead_15 (by decide) (fun c15 => ?_) (fun c15 => ?_)
    · have hm := hw_ip hm c15
      exact w4_ahead_b30 C0 hm hR (hl.sub [0] rfl)
    · have hm := hw_in hm c15
      refine hw_aload_n hx hb dX4_ahead_18 rfl (hl.at 0 rfl) ?_
      obtain ⟨v19, e19, hm⟩ := hw_bs hm
      refine hw_getP hx hb hw_cf4 hts hown hK hR e19 (by decide) rfl (hts _ hw_m59) (fun _ h9 => h9) dX4_ahead_19 ?_
      refine hw_aload_n hx hb dX4_ahead_22 rfl (hl.at 0 rfl) ?_
      obtain ⟨v23, e23, hm⟩ := hw_bs hm
      refine hw_getI hx hb hw_cf4 hts hown hK hR e23 (by decide) rfl (hts _ hw_m61) (fun _ h9 => h9) dX4_ahead_23 ?_
      obtain ⟨v26, e26, hm⟩ := hw_bs hm
      refine hw_iald hx hb hK hR e26 dX4_ahead_26 ?_
      refine lv_goto (tgt := 31) hx hb dX4_ahead_27 (by decide) ?_
      exact w4_ahead_b31 C0 hm hR (hl.sub [0] rfl)
set_option maxRecDepth 100000 in
theorem c4_ahead (l : Launch) (D : hw_D) (b : Nat) {x0 : Nat} {σ : hw_S} {r : Int32} (hm : m4_ahead x0 σ = some r) : Met l yX4_ahead (Cond.code yX4_ahead cX4_ahead 1 (some .int) :: wsL_law) rm4_ahead (hw_P1 D b σ [hw_vr b (some x0)]) (hw_RI r) 0 0 hw_nof := by
  refine hw_start1 (by decide +kernel) (by exact Nat.le_of_ble_eq_true rfl) ?_
  intro p e s m below meth c ls C0 hR hS hl
  have hl : lv_has ls 1 [(0, hw_vr b (some x0))] := by exact hl
  exact w4_ahead_s hm C0 hR ⟨hl, (List.forall_mem_cons.mpr ⟨(fun h => by rw [show (hw_vr b (some x0) : Value).category = 1 from (hw_vr_cat _ _)] at h; cases h), (fun _ h => absurd h List.not_mem_nil)⟩)⟩

abbrev rm4_wordOf : Room := { frames := 0, cells := 0, slots := 0, locals := 0 }
def m4_wordOf (l0 : Int32) (σ : hw_S) : Option (Option Nat) :=
  (if l0 = 99 then
  some (some 4)
  else
  (if l0 = 101 then
  some (some 1)
  else
  (if l0 = 102 then
  some (some 2)
  else
  (if l0 = 104 then
  some (some 3)
  else
  (if l0 = 119 then
  some (some 0)
  else
  some none)))))
set_option maxRecDepth 100000 in
theorem w4_wordOf_s {p : Program} {l : Launch} {e : Env} {s : State} {m : MethodId} {args : Array Value} {below : List Frame} {meth : Method} {c : Code} {D : hw_D} {b : Nat} {g : hw_Sd} {l0 : Int32} {σ : hw_S} {r : Option Nat} (hm : m4_wordOf l0 σ = some r) (C0 : hw_C p s m args meth c D yX4_wordOf cX4_wordOf 1 (some (.object "java/lang/String"))) (hG : hw_G g b s s.heap) (hR : hw_R D b σ s.heap) {ls : Array Slot} (hl : hw_L ls 1 255 [(0, .int l0)]) : W p l e rm4_wordOf s m args below meth c s.heap [] 0 0 (MQ below (va_Sq (fun z => z = r.map g.1)) args s 0 0 hw_nof) (F0 m 0 ls []) := by
  obtain ⟨hx, hb, hml, hr, hown, hts, hlk, hE, hnm⟩ := id C0
  have hown : s.vm.findClass RX4 = some m.cls := hown
  have hK := hE.1
  unfold m4_wordOf at hm
  refine lv_iload_n hx hb dX4_wordOf_0 rfl (hl.at 0 rfl) ?_
  refine hw_case l0 (99) (fun c1_0 => ?_) (fun c1_0 => ?_)
  · have hm := hw_ip hm c1_0
    refine lv_lookup (off := 63) (tgt := 64) hx hb dX4_wordOf_1 (by decide) (by rw [c1_0]; decide) (by decide) ?_
    refine hw_ldcS (id := 4) hx hb hown hG (List.mem_of_getElem? (i := 4) rfl) dX4_wordOf_64 ?_
    exact hw_rSP (g := g) (v := (some 4)) hx hb hr (Or.inl ⟨_, rfl⟩) hlk hm dX4_wordOf_66
  · have hm := hw_in hm c1_0
    refine hw_case l0 (101) (fun c1_1 => ?_) (fun c1_1 => ?_)
    · have hm := hw_ip hm c1_1
      refine lv_lookup (off := 54) (tgt := 55) hx hb dX4_wordOf_1 (by decide) (by rw [c1_1]; decide) (by decide) ?_
      refine hw_ldcS (id := 1) hx hb hown hG (List.mem_of_getElem? (i := 1) rfl) dX4_wordOf_55 ?_
      exact hw_rSP (g := g) (v := (some 1)) hx hb hr (Or.inl ⟨_, rfl⟩) hlk hm dX4_wordOf_57
    · have hm := hw_in hm c1_1
      refine hw_case l0 (102) (fun c1_2 => ?_) (fun c1_2 => ?_)
      · have hm := hw_ip hm c1_2
        refine lv_lookup (off := 57) (tgt := 58) hx hb dX4_wordOf_1 (by decide) (by rw [c1_2]; decide) (by decide) ?_
        refine hw_ldcS (id := 2) hx hb hown hG (List.mem_of_getElem? (i := 2) rfl) dX4_wordOf_58 ?_
        exact hw_rSP (g := g) (v := (some 2)) hx hb hr (Or.inl ⟨_, rfl⟩) hlk hm dX4_wordOf_60
      · have hm := hw_in hm c1_2
        refine hw_case l0 (104) (fun c1_3 => ?_) (fun c1_3 => ?_)
        · have hm := hw_ip hm c1_3
          refine lv_lookup (off := 60) (tgt := 61) hx hb dX4_wordOf_1 (by decide) (by rw [c1_3]; decide) (by decide) ?_
          refine hw_ldcS (id := 3) hx hb hown hG (List.mem_of_getElem? (i := 3) rfl) dX4_wordOf_61 ?_
          exact hw_rSP (g := g) (v := (some 3)) hx hb hr (Or.inl ⟨_, rfl⟩) hlk hm dX4_wordOf_63
        · have hm := hw_in hm c1_3
          refine hw_case l0 (119) (fun c1_4 => ?_) (fun c1_4 => ?_)
          · have hm := hw_ip hm c1_4
            refine lv_lookup (off := 51) (tgt := 52) hx hb dX4_wordOf_1 (by decide) (by rw [c1_4]; decide) (by decide) ?_
            refine hw_ldcS (id := 0) hx hb hown hG (List.mem_of_getElem? (i := 0) rfl) dX4_wordOf_52 ?_
            exact hw_rSP (g := g) (v := (some 0)) hx hb hr (Or.inl ⟨_, rfl⟩) hlk hm dX4_wordOf_54
          · have hm := hw_in hm c1_4
            refine lv_lookup (off := 66) (tgt := 67) hx hb dX4_wordOf_1 (by decide) (by show Op.lookupswitch.offset [(99, 63), (101, 54), (102, 57), (104, 60), (119, 51)] _ _ = _; rw [lv_osw c1_0 (a := 99) rfl, lv_osw c1_1 (a := 101) rfl, lv_osw c1_2 (a := 102) rfl, lv_osw c1_3 (a := 104) rfl, lv_osw c1_4 (a := 119) rfl]; rfl) (by decide) ?_
            refine hw_null hx hb b dX4_wordOf_67 ?_
            exact hw_rSP (g := g) (v := none) hx hb hr (Or.inl ⟨_, rfl⟩) hlk hm dX4_wordOf_68
set_option maxRecDepth 100000 in
theorem c4_wordOf (l : Launch) (D : hw_D) (g : hw_Sd) (b : Nat) {l0 : Int32} {σ : hw_S} {r : Option Nat} (hm : m4_wordOf l0 σ = some r) : Met l yX4_wordOf (Cond.code yX4_wordOf cX4_wordOf 1 (some (.object "java/lang/String")) :: wsL_law) rm4_wordOf (hw_P2 D g b σ [.int l0]) (va_Sq (fun z => z = r.map g.1)) 0 0 hw_nof := by
  refine hw_start2 (by decide +kernel) (by exact Nat.le_of_ble_eq_true rfl) ?_
  intro p e s m below meth c ls C0 hR hS hG hl
  have hl : lv_has ls 1 [(0, .int l0)] := by exact hl
  exact w4_wordOf_s hm C0 hG hR ⟨hl, (List.forall_mem_cons.mpr ⟨(fun h => absurd (show (1 : Nat) = 2 from h) (by decide)), (fun _ h => absurd h List.not_mem_nil)⟩)⟩

abbrev rm4_comes : Room := { frames := 1, cells := 0, slots := 0, locals := 20 }
def m4_comes (x0 : Nat) (l1 : Int32) (σ : hw_S) : Option (Int32 × hw_S) :=
  (hw_rv (hw_q 4) (some x0) σ).bind fun a1 =>
  (m4_ahead x0 σ).bind fun v1 =>
  (if v1 = l1 then
  (hw_gI (hw_q 4) 2 (some x0) σ).bind fun v12 =>
  (hw_pI (hw_q 4) 2 (some x0) (v12 + (1 : Int32)) σ).bind fun σ17 =>
  (hw_tf (1 : Int32)).bind fun _ =>
  some ((1 : Int32), σ17)
  else
  (hw_tf (0 : Int32)).bind fun _ =>
  some ((0 : Int32), σ))
set_option maxRecDepth 100000 in
theorem w4_comes_s {p : Program} {l : Launch} {e : Env} {s : State} {m : MethodId} {args : Array Value} {below : List Frame} {meth : Method} {c : Code} {D : hw_D} {b : Nat} {x0 : Nat} {l1 : Int32} {σ : hw_S} {r : Int32} {τ : hw_S} {H : Heap} {locs : List Loc} (hm : m4_comes x0 l1 σ = some (r, τ)) (C0 : hw_C p s m args meth c D yX4_comes cX4_comes 2 (some .boolean)) (hR : hw_R D b σ H) (hS : va_S (fun q => b ≤ q) s.heap H locs) {ls : Array Slot} (hl : hw_L ls 2 255 [(0, hw_vr b (some x0)), (1, .int l1)]) : W p l e rm4_comes s m args below meth c H locs 0 0 (MQ below (hw_QI D b τ r) args s 0 0 (fun q => b ≤ q)) (F0 m 0 ls []) := by
  obtain ⟨hx, hb, hml, hr, hown, hts, hlk, hE, hnm⟩ := id C0
  have hown : s.vm.findClass RX4 = some m.cls := hown
  have hK := hE.1
  unfold m4_comes at hm
  refine hw_aload_n hx hb dX4_comes_0 rfl (hl.at 0 rfl) ?_
  obtain ⟨a1, g1, hm⟩ := hw_bs hm
  obtain ⟨rfl, ht1⟩ := hw_rv_th g1
  obtain ⟨v1, e1, hm⟩ := hw_bs hm
  refine hw_cRI (va_runV (As := []) (rest := []) ⟨hx, hb, hml, hown, hts⟩ (c4_ahead l D b e1) (cwV 0 hts (hw_gV hw_m163 hw_m164 hw_m165 hw_m21 hw_m166) rfl rfl rfl (by decide +kernel) ⟨(Nat.le_of_ble_eq_true rfl), (Nat.le_of_ble_eq_true rfl)⟩) (hw_preV (ci := 4) hE hR rfl (by decide) (hw_q_of ht1)) rfl rfl hl.sz rfl (lv_room (Nat.le_of_ble_eq_true rfl)) dX4_comes_1 ⟨(Nat.le_of_ble_eq_true rfl), (Nat.le_of_ble_eq_true rfl)⟩) ?_
  refine lv_iload_n hx hb dX4_comes_4 rfl (hl.at 1 rfl) ?_
  refine lv_icmp_eq (tgt := 10) hx hb dX4_comes_5 (by decide) (fun c5 => ?_) (fun c5 => ?_)
  · have hm := hw_ip hm c5
    refine hw_aload_n hx hb dX4_comes_10 rfl (hl.at 0 rfl) ?_
    refine lv_dup hx hb dX4_comes_11 (hw_vr_cat _ _) ?_
    obtain ⟨v12, e12, hm⟩ := hw_bs hm
    refine hw_getI hx hb hw_cf4 hts hown hK hR e12 (by decide) rfl (hts _ hw_m61) (fun _ h9 => h9) dX4_comes_12 ?_
    refine lv_iconst (v := 1) hx hb dX4_comes_15 (by decide) ?_
    refine lv_iadd hx hb dX4_comes_16 ?_
    obtain ⟨σ17, e17, hm⟩ := hw_bs hm
    refine hw_putI hx hb hw_cf4 hts hown hK hR hS e17 (by decide) rfl rfl (hts _ hw_m61) (fun _ h9 => h9) (Or.inl rfl) dX4_comes_17 (fun _ _ hR hS => ?_)
    refine lv_iconst (v := 1) hx hb dX4_comes_20 (by decide) ?_
    obtain ⟨_, z21, hm⟩ := hw_bs hm
    exact hw_rWZ hx hb hr hlk hR hS z21 hm dX4_comes_21
  · have hm := hw_in hm c5
    refine lv_iconst (v := 0) hx hb dX4_comes_8 (by decide) ?_
    obtain ⟨_, z9, hm⟩ := hw_bs hm
    exact hw_rWZ hx hb hr hlk hR hS z9 hm dX4_comes_9
set_option maxRecDepth 100000 in
theorem c4_comes (l : Launch) (D : hw_D) (b : Nat) {x0 : Nat} {l1 : Int32} {σ : hw_S} {r : Int32} {τ : hw_S} (hm : m4_comes x0 l1 σ = some (r, τ)) : Met l yX4_comes (Cond.code yX4_comes cX4_comes 2 (some .boolean) :: wsL_law) rm4_comes (hw_P1 D b σ [hw_vr b (some x0), .int l1]) (hw_QI D b τ r) 0 0 (fun q => b ≤ q) := by
  refine hw_start1 (by decide +kernel) (by exact Nat.le_of_ble_eq_true rfl) ?_
  intro p e s m below meth c ls C0 hR hS hl
  have hl : lv_has ls 2 [(0, hw_vr b (some x0)), (1, .int l1)] := by exact hl
  exact w4_comes_s hm C0 hR hS ⟨hl, (List.forall_mem_cons.mpr ⟨(fun h => by rw [show (hw_vr b (some x0) : Value).category = 1 from (hw_vr_cat _ _)] at h; cases h), (List.forall_mem_cons.mpr ⟨(fun h => absurd (show (1 : Nat) = 2 from h) (by decide)), (fun _ h => absurd h List.not_mem_nil)⟩)⟩)⟩

abbrev rm4_comesWord : Room := { frames := 4, cells := 0, slots := 0, locals := 87 }
def m4_comesWord_b2 : Nat → Nat → Option Nat → Int32 → hw_S → Option (Int32 × hw_S)
  | 0, _, _, _, _ => none
  | n + 1, x0, l1, l2, σ =>
  (hw_sl l1).bind fun v4 =>
  (if v4 ≤ l2 then
  (hw_tf (1 : Int32)).bind fun _ =>
  some ((1 : Int32), σ)
  else
  (hw_sc l1 l2).bind fun v13 =>
  (hw_rv (hw_q 4) (some x0) σ).bind fun a16 =>
  hw_b2 (m4_comes x0 v13 σ) fun v16 σ16 =>
  (if v16 = 0 then
  (hw_tf (0 : Int32)).bind fun _ =>
  some ((0 : Int32), σ16)
  else
  m4_comesWord_b2 n x0 l1 (l2 + 1) σ16))
set_option maxRecDepth 100000 in
theorem w4_comesWord_b2 {p : Program} {l : Launch} {e : Env} {s : State} {m : MethodId} {args : Array Value} {below : List Frame} {meth : Method} {c : Code} {D : hw_D} {b : Nat} {g : hw_Sd} {r : Int32} {τ : hw_S} (C0 : hw_C p s m args meth c D yX4_comesWord cX4_comesWord 3 (some .boolean)) (hG : hw_G g b s s.heap) : ∀ (n : Nat) {x0 : Nat} {l1 : Option Nat} {l2 : Int32} {σ : hw_S} {H : Heap} {locs : List Loc} {ls : Array Slot}, m4_comesWord_b2 n x0 l1 l2 σ = some (r, τ) → hw_R D b σ H → va_S (fun q => b ≤ q) s.heap H locs → hw_L ls 3 255 [(0, hw_vr b (some x0)), (1, hw_vs g l1), (2, .int l2)] → W p l e rm4_comesWord s m args below meth c H locs 0 0 (MQ below (hw_QI D b τ r) args s 0 0 (fun q => b ≤ q)) (F0 m 2 ls []) := by
  obtain ⟨hx, hb, hml, hr, hown, hts, hlk, hE, hnm⟩ := id C0
  have hown : s.vm.findClass RX4 = some m.cls := hown
  have hK := hE.1
  intro n
  induction n with
  | zero => intro _ _ _ _ _ _ _ hm; cases hm
  | succ n ih =>
    intro x0 l1 l2 σ H locs ls hm hR hS hl
    rw [m4_comesWord_b2] at hm
    refine lv_iload_n hx hb dX4_comesWord_2 rfl (hl.at 2 rfl) ?_
    refine hw_sload_n hx hb dX4_comesWord_3 rfl (hl.at 1 rfl) ?_
    obtain ⟨v4, e4, hm⟩ := hw_bs hm
    obtain ⟨a4, h4, i4, f4⟩ := hw_sl_of e4
    rw [h4]
    refine hw_cRI (va_runV (As := []) (rest := [.int l2]) ⟨hx, hb, hml, hown, hts⟩ (cJ_length l g b f4) (cwV 0 hts (hw_gV hw_m174 hw_m175 hw_m176 hw_m177 hw_m178) rfl rfl rfl (by decide +kernel) ⟨(Nat.le_of_ble_eq_true rfl), (Nat.le_of_ble_eq_true rfl)⟩) (hw_preV3 (hG.at hS) i4) rfl rfl hl.sz rfl (lv_room (Nat.le_of_ble_eq_true rfl)) dX4_comesWord_4 ⟨(Nat.le_of_ble_eq_true rfl), (Nat.le_of_ble_eq_true rfl)⟩) ?_
    refine lv_icmp_ge (tgt := 30) hx hb dX4_comesWord_7 (by decide) (fun c7 => ?_) (fun c7 => ?_)
    · have hm := hw_ip hm c7
      refine lv_iconst (v := 1) hx hb dX4_comesWord_30 (by decide) ?_
      obtain ⟨_, z31, hm⟩ := hw_bs hm
      exact hw_rWZ hx hb hr hlk hR hS z31 hm dX4_comesWord_31
    · have hm := hw_in hm c7
      refine hw_aload_n hx hb dX4_comesWord_10 rfl (hl.at 0 rfl) ?_
      refine hw_sload_n hx hb dX4_comesWord_11 rfl (hl.at 1 rfl) ?_
      refine lv_iload_n hx hb dX4_comesWord_12 rfl (hl.at 2 rfl) ?_
      obtain ⟨v13, e13, hm⟩ := hw_bs hm
      obtain ⟨a13, h13, i13, f13⟩ := hw_sc_of e13
      rw [h13]
      refine hw_cRI (va_runV (As := [.int l2]) (rest := [hw_vr b (some x0)]) ⟨hx, hb, hml, hown, hts⟩ (cJ_charAt l g b f13) (cwV 1 hts (hw_gV hw_m186 hw_m187 hw_m188 hw_m177 hw_m189) rfl rfl rfl (by decide +kernel) ⟨(Nat.le_of_ble_eq_true rfl), (Nat.le_of_ble_eq_true rfl)⟩) (hw_preV3 (hG.at hS) i13) rfl rfl hl.sz rfl (lv_room (hw_sm (List.forall_mem_cons.mpr ⟨(hw_vr_cat _ _), (fun _ h => absurd h List.not_mem_nil)⟩) (Nat.le_of_ble_eq_true rfl))) dX4_comesWord_13 ⟨(Nat.le_of_ble_eq_true rfl), (Nat.le_of_ble_eq_true rfl)⟩) ?_
      obtain ⟨a16, g16, hm⟩ := hw_bs hm
      obtain ⟨rfl, ht16⟩ := hw_rv_th g16
      obtain ⟨v16, σ16, e16, hm⟩ := hw_bs2 hm
      refine hw_cWI (va_runV (As := [.int v13]) (rest := []) ⟨hx, hb, hml, hown, hts⟩ (c4_comes l D b e16) (cwV 1 hts (hw_gV hw_m223 hw_m224 hw_m225 hw_m21 hw_m226) rfl rfl rfl (by decide +kernel) ⟨(Nat.le_of_ble_eq_true rfl), (Nat.le_of_ble_eq_true rfl)⟩) (hw_preV (ci := 4) hE hR rfl (by decide) (hw_q_of ht16)) rfl rfl hl.sz rfl (lv_room (Nat.le_of_ble_eq_true rfl)) dX4_comesWord_16 ⟨(Nat.le_of_ble_eq_true rfl), (Nat.le_of_ble_eq_true rfl)⟩) hS (fun _ _ hR hS => ?_)
      refine lv_if_ne (tgt := 24) hx hb dX4_comesWord_19 (by decide) (fun c19 => ?_) (fun c19 => ?_)
      · have hm := hw_in hm c19
        refine hw_iinc (v := (l2 + 1)) (lv' := [(2, .int (l2 + 1)), (0, hw_vr b (some x0)), (1, hw_vs g l1)]) hx hb dX4_comesWord_24 hl (k := 2) rfl rfl (by decide) (by decide) rfl (fun ls hl => ?_)
        refine lv_goto (tgt := 2) hx hb dX4_comesWord_27 (by decide) ?_
        exact ih hm hR hS (hl.sub [1, 2, 0] rfl)
      · have hm := hw_ip hm c19
        refine lv_iconst (v := 0) hx hb dX4_comesWord_22 (by decide) ?_
        obtain ⟨_, z23, hm⟩ := hw_bs hm
        exact hw_rWZ hx hb hr hlk hR hS z23 hm dX4_comesWord_23
def m4_comesWord (x0 : Nat) (l1 : Option Nat) (σ : hw_S) : Option (Int32 × hw_S) :=
  m4_comesWord_b2 hw_fu x0 l1 (0 : Int32) σ
set_option maxRecDepth 100000 in
theorem w4_comesWord_s {p : Program} {l : Launch} {e : Env} {s : State} {m : MethodId} {args : Array Value} {below : List Frame} {meth : Method} {c : Code} {D : hw_D} {b : Nat} {g : hw_Sd} {x0 : Nat} {l1 : Option Nat} {σ : hw_S} {r : Int32} {τ : hw_S} {H : Heap} {locs : List Loc} (hm : m4_comesWord x0 l1 σ = some (r, τ)) (C0 : hw_C p s m args meth c D yX4_comesWord cX4_comesWord 3 (some .boolean)) (hG : hw_G g b s s.heap) (hR : hw_R D b σ H) (hS : va_S (fun q => b ≤ q) s.heap H locs) {ls : Array Slot} (hl : hw_L ls 3 255 [(0, hw_vr b (some x0)), (1, hw_vs g l1)]) : W p l e rm4_comesWord s m args below meth c H locs 0 0 (MQ below (hw_QI D b τ r) args s 0 0 (fun q => b ≤ q)) (F0 m 0 ls []) := by
  obtain ⟨hx, hb, hml, hr, hown, hts, hlk, hE, hnm⟩ := id C0
  have hown : s.vm.findClass RX4 = some m.cls := hown
  have hK := hE.1
  unfold m4_comesWord at hm
  refine lv_iconst (v := 0) hx hb dX4_comesWord_0 (by decide) ?_
  refine hw_istore_n (lv' := [(2, .int (0 : Int32)), (0, hw_vr b (some x0)), (1, hw_vs g l1)]) hx hb dX4_comesWord_1 rfl hl (by decide) (by decide) rfl (fun ls hl => ?_)
  exact w4_comesWord_b2 C0 hG hw_fu hm hR hS (hl.sub [1, 2, 0] rfl)
set_option maxRecDepth 100000 in
theorem c4_comesWord (l : Launch) (D : hw_D) (g : hw_Sd) (b : Nat) {x0 : Nat} {l1 : Option Nat} {σ : hw_S} {r : Int32} {τ : hw_S} (hm : m4_comesWord x0 l1 σ = some (r, τ)) : Met l yX4_comesWord (Cond.code yX4_comesWord cX4_comesWord 3 (some .boolean) :: wsL_law) rm4_comesWord (hw_P2 D g b σ [hw_vr b (some x0), hw_vs g l1]) (hw_QI D b τ r) 0 0 (fun q => b ≤ q) := by
  refine hw_start2 (by decide +kernel) (by cases l1 <;> exact Nat.le_of_ble_eq_true rfl) ?_
  intro p e s m below meth c ls C0 hR hS hG hl
  have hl : lv_has ls 3 [(0, hw_vr b (some x0)), (1, hw_vs g l1)] := by cases l1 <;> exact hl
  exact w4_comesWord_s hm C0 hG hR hS ⟨hl, (List.forall_mem_cons.mpr ⟨(fun h => by rw [show (hw_vr b (some x0) : Value).category = 1 from (hw_vr_cat _ _)] at h; cases h), (List.forall_mem_cons.mpr ⟨(fun h => by rw [show (hw_vs g l1 : Value).category = 1 from (hw_vs_cat _ _)] at h; cases h), (fun _ h => absurd h List.not_mem_nil)⟩)⟩)⟩

abbrev rm4_formTold : Room := { frames := 2, cells := 0, slots := 0, locals := 41 }
def m4_formTold_b43 (x0 : Nat) (t0 : Int32) (σ : hw_S) : Option (Int32 × hw_S) :=
  some (t0, σ)
set_option maxRecDepth 100000 in
theorem w4_formTold_b43 {p : Program} {l : Launch} {e : Env} {s : State} {m : MethodId} {args : Array Value} {below : List Frame} {meth : Method} {c : Code} {D : hw_D} {b : Nat} {r : Int32} {τ : hw_S} (C0 : hw_C p s m args meth c D yX4_formTold cX4_formTold 2 (some .int)) {x0 : Nat} {t0 : Int32} {σ : hw_S} {H : Heap} {locs : List Loc} (hm : m4_formTold_b43 x0 t0 σ = some (r, τ)) (hR : hw_R D b σ H) (hS : va_S (fun q => b ≤ q) s.heap H locs) {ls : Array Slot} (hl : hw_L ls 2 255 [(0, hw_vr b (some x0))]) : W p l e rm4_formTold s m args below meth c H locs 0 0 (MQ below (hw_QI D b τ r) args s 0 0 (fun q => b ≤ q)) (F0 m 43 ls [.int t0]) := by
  obtain ⟨hx, hb, hml, hr, hown, hts, hlk, hE, hnm⟩ := id C0
  have hown : s.vm.findClass RX4 = some m.cls := hown
  have hK := hE.1
  unfold m4_formTold_b43 at hm
  exact hw_rWI hx hb hr hlk hR hS hm dX4_formTold_43
def m4_formTold (x0 : Nat) (σ : hw_S) : Option (Int32 × hw_S) :=
  (hw_rv (hw_q 4) (some x0) σ).bind fun a1 =>
  (m4_ahead x0 σ).bind fun v1 =>
  (m11_isWithin (v1 - (49 : Int32)) (0 : Int32) (3 : Int32)).bind fun v11 =>
  (if v11 = 0 then
  some (((-1) : Int32), σ)
  else
  (hw_gI (hw_q 4) 2 (some x0) σ).bind fun v21 =>
  (hw_pI (hw_q 4) 2 (some x0) (v21 + (1 : Int32)) σ).bind fun σ26 =>
  (hw_rv (hw_q 4) (some x0) σ26).bind fun a32 =>
  hw_b2 (m4_comes x0 (32 : Int32) σ26) fun v32 σ32 =>
  (if v32 = 0 then
  m4_formTold_b43 x0 ((-1) : Int32) σ32
  else
  m4_formTold_b43 x0 (v1 - (49 : Int32)) σ32))
set_option maxRecDepth 100000 in
theorem w4_formTold_s {p : Program} {l : Launch} {e : Env} {s : State} {m : MethodId} {args : Array Value} {below : List Frame} {meth : Method} {c : Code} {D : hw_D} {b : Nat} {x0 : Nat} {σ : hw_S} {r : Int32} {τ : hw_S} {H : Heap} {locs : List Loc} (hm : m4_formTold x0 σ = some (r, τ)) (C0 : hw_C p s m args meth c D yX4_formTold cX4_formTold 2 (some .int)) (hR : hw_R D b σ H) (hS : va_S (fun q => b ≤ q) s.heap H locs) {ls : Array Slot} (hl : hw_L ls 2 255 [(0, hw_vr b (some x0))]) : W p l e rm4_formTold s m args below meth c H locs 0 0 (MQ below (hw_QI D b τ r) args s 0 0 (fun q => b ≤ q)) (F0 m 0 ls []) := by
  obtain ⟨hx, hb, hml, hr, hown, hts, hlk, hE, hnm⟩ := id C0
  have hown : s.vm.findClass RX4 = some m.cls := hown
  have hK := hE.1
  unfold m4_formTold at hm
  refine hw_aload_n hx hb dX4_formTold_0 rfl (hl.at 0 rfl) ?_
  obtain ⟨a1, g1, hm⟩ := hw_bs hm
  obtain ⟨rfl, ht1⟩ := hw_rv_th g1
  obtain ⟨v1, e1, hm⟩ := hw_bs hm
  refine hw_cRI (va_runV (As := []) (rest := []) ⟨hx, hb, hml, hown, hts⟩ (c4_ahead l D b e1) (cwV 0 hts (hw_gV hw_m163 hw_m164 hw_m165 hw_m21 hw_m166) rfl rfl rfl (by decide +kernel) ⟨(Nat.le_of_ble_eq_true rfl), (Nat.le_of_ble_eq_true rfl)⟩) (hw_preV (ci := 4) hE hR rfl (by decide) (hw_q_of ht1)) rfl rfl hl.sz rfl (lv_room (Nat.le_of_ble_eq_true rfl)) dX4_formTold_1 ⟨(Nat.le_of_ble_eq_true rfl), (Nat.le_of_ble_eq_true rfl)⟩) ?_
  refine lv_bipush (v := 49) hx hb dX4_formTold_4 (by decide) ?_
  refine lv_isub hx hb dX4_formTold_6 ?_
  refine hw_istore_n (lv' := [(1, .int (v1 - (49 : Int32))), (0, hw_vr b (some x0))]) hx hb dX4_formTold_7 rfl hl (by decide) (by decide) rfl (fun ls hl => ?_)
  refine lv_iload_n hx hb dX4_formTold_8 rfl (hl.at 0 rfl) ?_
  refine lv_iconst (v := 0) hx hb dX4_formTold_9 (by decide) ?_
  refine lv_iconst (v := 3) hx hb dX4_formTold_10 (by decide) ?_
  obtain ⟨v11, e11, hm⟩ := hw_bs hm
  refine hw_cRI (va_runSN (As := [.int (v1 - (49 : Int32)), .int (0 : Int32), .int (3 : Int32)]) (rest := []) ⟨hx, hb, hml, hown, hts⟩ (c11_isWithin l D e11) ⟨va_cnB 3 hts (hw_gC hw_m101) rfl rfl rfl (hE.2.1 _ (List.mem_of_getElem? (i := 3) rfl)) (hts _ hw_m2) (by decide +kernel) ⟨(Nat.le_of_ble_eq_true rfl), (Nat.le_of_ble_eq_true rfl)⟩, hts _ hw_m100, trivial⟩ (hw_pre0 hE) rfl rfl hl.sz rfl (lv_room (Nat.le_of_ble_eq_true rfl)) dX4_formTold_11 ⟨(Nat.le_of_ble_eq_true rfl), (Nat.le_of_ble_eq_true rfl)⟩) ?_
  refine lv_if_ne (tgt := 19) hx hb dX4_formTold_14 (by decide) (fun c14 => ?_) (fun c14 => ?_)
  · have hm := hw_in hm c14
    refine hw_aload_n hx hb dX4_formTold_19 rfl (hl.at 1 rfl) ?_
    refine lv_dup hx hb dX4_formTold_20 (hw_vr_cat _ _) ?_
    obtain ⟨v21, e21, hm⟩ := hw_bs hm
    refine hw_getI hx hb hw_cf4 hts hown hK hR e21 (by decide) rfl (hts _ hw_m61) (fun _ h9 => h9) dX4_formTold_21 ?_
    refine lv_iconst (v := 1) hx hb dX4_formTold_24 (by decide) ?_
    refine lv_iadd hx hb dX4_formTold_25 ?_
    obtain ⟨σ26, e26, hm⟩ := hw_bs hm
    refine hw_putI hx hb hw_cf4 hts hown hK hR hS e26 (by decide) rfl rfl (hts _ hw_m61) (fun _ h9 => h9) (Or.inl rfl) dX4_formTold_26 (fun _ _ hR hS => ?_)
    refine hw_aload_n hx hb dX4_formTold_29 rfl (hl.at 1 rfl) ?_
    refine lv_bipush (v := 32) hx hb dX4_formTold_30 (by decide) ?_
    obtain ⟨a32, g32, hm⟩ := hw_bs hm
    obtain ⟨rfl, ht32⟩ := hw_rv_th g32
    obtain ⟨v32, σ32, e32, hm⟩ := hw_bs2 hm
    refine hw_cWI (va_runV (As := [.int (32 : Int32)]) (rest := []) ⟨hx, hb, hml, hown, hts⟩ (c4_comes l D b e32) (cwV 1 hts (hw_gV hw_m223 hw_m224 hw_m225 hw_m21 hw_m226) rfl rfl rfl (by decide +kernel) ⟨(Nat.le_of_ble_eq_true rfl), (Nat.le_of_ble_eq_true rfl)⟩) (hw_preV (ci := 4) hE hR rfl (by decide) (hw_q_of ht32)) rfl rfl hl.sz rfl (lv_room (Nat.le_of_ble_eq_true rfl)) dX4_formTold_32 ⟨(Nat.le_of_ble_eq_true rfl), (Nat.le_of_ble_eq_true rfl)⟩) hS (fun _ _ hR hS => ?_)
    refine lv_if_eq (tgt := 42) hx hb dX4_formTold_35 (by decide) (fun c35 => ?_) (fun c35 => ?_)
    · have hm := hw_ip hm c35
      refine lv_iconst (v := (-1)) hx hb dX4_formTold_42 (by decide) ?_
      exact w4_formTold_b43 C0 hm hR hS (hl.sub [1] rfl)
    · have hm := hw_in hm c35
      refine lv_iload_n hx hb dX4_formTold_38 rfl (hl.at 0 rfl) ?_
      refine lv_goto (tgt := 43) hx hb dX4_formTold_39 (by decide) ?_
      exact w4_formTold_b43 C0 hm hR hS (hl.sub [1] rfl)
  · have hm := hw_ip hm c14
    refine lv_iconst (v := (-1)) hx hb dX4_formTold_17 (by decide) ?_
    exact hw_rWI hx hb hr hlk hR hS hm dX4_formTold_18
set_option maxRecDepth 100000 in
theorem c4_formTold (l : Launch) (D : hw_D) (b : Nat) {x0 : Nat} {σ : hw_S} {r : Int32} {τ : hw_S} (hm : m4_formTold x0 σ = some (r, τ)) : Met l yX4_formTold (Cond.code yX4_formTold cX4_formTold 2 (some .int) :: wsL_law) rm4_formTold (hw_P1 D b σ [hw_vr b (some x0)]) (hw_QI D b τ r) 0 0 (fun q => b ≤ q) := by
  refine hw_start1 (by decide +kernel) (by exact Nat.le_of_ble_eq_true rfl) ?_
  intro p e s m below meth c ls C0 hR hS hl
  have hl : lv_has ls 2 [(0, hw_vr b (some x0))] := by exact hl
  exact w4_formTold_s hm C0 hR hS ⟨hl, (List.forall_mem_cons.mpr ⟨(fun h => by rw [show (hw_vr b (some x0) : Value).category = 1 from (hw_vr_cat _ _)] at h; cases h), (fun _ h => absurd h List.not_mem_nil)⟩)⟩

abbrev rm4_number : Room := { frames := 1, cells := 0, slots := 0, locals := 22 }
def m4_number_b75 (x0 : Nat) (l1 : Int32) (σ : hw_S) : Option (Int32 × hw_S) :=
  some (l1, σ)
set_option maxRecDepth 100000 in
theorem w4_number_b75 {p : Program} {l : Launch} {e : Env} {s : State} {m : MethodId} {args : Array Value} {below : List Frame} {meth : Method} {c : Code} {D : hw_D} {b : Nat} {r : Int32} {τ : hw_S} (C0 : hw_C p s m args meth c D yX4_number cX4_number 2 (some .int)) {x0 : Nat} {l1 : Int32} {σ : hw_S} {H : Heap} {locs : List Loc} (hm : m4_number_b75 x0 l1 σ = some (r, τ)) (hR : hw_R D b σ H) (hS : va_S (fun q => b ≤ q) s.heap H locs) {ls : Array Slot} (hl : hw_L ls 2 255 [(0, hw_vr b (some x0)), (1, .int l1)]) : W p l e rm4_number s m args below meth c H locs 0 0 (MQ below (hw_QI D b τ r) args s 0 0 (fun q => b ≤ q)) (F0 m 75 ls []) := by
  obtain ⟨hx, hb, hml, hr, hown, hts, hlk, hE, hnm⟩ := id C0
  have hown : s.vm.findClass RX4 = some m.cls := hown
  have hK := hE.1
  unfold m4_number_b75 at hm
  refine lv_iload_n hx hb dX4_number_75 rfl (hl.at 1 rfl) ?_
  exact hw_rWI hx hb hr hlk hR hS hm dX4_number_76
def m4_number (x0 : Nat) (σ : hw_S) : Option (Int32 × hw_S) :=
  (hw_rv (hw_q 4) (some x0) σ).bind fun a1 =>
  (m4_ahead x0 σ).bind fun v1 =>
  (m11_isWithin v1 (48 : Int32) (57 : Int32)).bind fun v8 =>
  (if v8 = 0 then
  some (((-1) : Int32), σ)
  else
  (hw_rv (hw_q 4) (some x0) σ).bind fun a17 =>
  (m4_ahead x0 σ).bind fun v17 =>
  (hw_gI (hw_q 4) 2 (some x0) σ).bind fun v26 =>
  (hw_pI (hw_q 4) 2 (some x0) (v26 + (1 : Int32)) σ).bind fun σ31 =>
  (if (v17 - (48 : Int32)) ≤ 0 then
  m4_number_b75 x0 (v17 - (48 : Int32)) σ31
  else
  (hw_rv (hw_q 4) (some x0) σ31).bind fun a39 =>
  (m4_ahead x0 σ31).bind fun v39 =>
  (m11_isWithin v39 (48 : Int32) (57 : Int32)).bind fun v46 =>
  (if v46 = 0 then
  m4_number_b75 x0 (v17 - (48 : Int32)) σ31
  else
  (hw_rv (hw_q 4) (some x0) σ31).bind fun a57 =>
  (m4_ahead x0 σ31).bind fun v57 =>
  (hw_gI (hw_q 4) 2 (some x0) σ31).bind fun v67 =>
  (hw_pI (hw_q 4) 2 (some x0) (v67 + (1 : Int32)) σ31).bind fun σ72 =>
  m4_number_b75 x0 ((((10 : Int32) * (v17 - (48 : Int32))) + v57) - (48 : Int32)) σ72)))
set_option maxRecDepth 100000 in
theorem w4_number_s {p : Program} {l : Launch} {e : Env} {s : State} {m : MethodId} {args : Array Value} {below : List Frame} {meth : Method} {c : Code} {D : hw_D} {b : Nat} {x0 : Nat} {σ : hw_S} {r : Int32} {τ : hw_S} {H : Heap} {locs : List Loc} (hm : m4_number x0 σ = some (r, τ)) (C0 : hw_C p s m args meth c D yX4_number cX4_number 2 (some .int)) (hR : hw_R D b σ H) (hS : va_S (fun q => b ≤ q) s.heap H locs) {ls : Array Slot} (hl : hw_L ls 2 255 [(0, hw_vr b (some x0))]) : W p l e rm4_number s m args below meth c H locs 0 0 (MQ below (hw_QI D b τ r) args s 0 0 (fun q => b ≤ q)) (F0 m 0 ls []) := by
  obtain ⟨hx, hb, hml, hr, hown, hts, hlk, hE, hnm⟩ := id C0
  have hown : s.vm.findClass RX4 = some m.cls := hown
  have hK := hE.1
  unfold m4_number at hm
  refine hw_aload_n hx hb dX4_number_0 rfl (hl.at 0 rfl) ?_
  obtain ⟨a1, g1, hm⟩ := hw_bs hm
  obtain ⟨rfl, ht1⟩ := hw_rv_th g1
  obtain ⟨v1, e1, hm⟩ := hw_bs hm
  refine hw_cRI (va_runV (As := []) (rest := []) ⟨hx, hb, hml, hown, hts⟩ (c4_ahead l D b e1) (cwV 0 hts (hw_gV hw_m163 hw_m164 hw_m165 hw_m21 hw_m166) rfl rfl rfl (by decide +kernel) ⟨(Nat.le_of_ble_eq_true rfl), (Nat.le_of_ble_eq_true rfl)⟩) (hw_preV (ci := 4) hE hR rfl (by decide) (hw_q_of ht1)) rfl rfl hl.sz rfl (lv_room (Nat.le_of_ble_eq_true rfl)) dX4_number_1 ⟨(Nat.le_of_ble_eq_true rfl), (Nat.le_of_ble_eq_true rfl)⟩) ?_
  refine lv_bipush (v := 48) hx hb dX4_number_4 (by decide) ?_
  refine lv_bipush (v := 57) hx hb dX4_number_6 (by decide) ?_
  obtain ⟨v8, e8, hm⟩ := hw_bs hm
  refine hw_cRI (va_runSN (As := [.int v1, .int (48 : Int32), .int (57 : Int32)]) (rest := []) ⟨hx, hb, hml, hown, hts⟩ (c11_isWithin l D e8) ⟨va_cnB 3 hts (hw_gC hw_m101) rfl rfl rfl (hE.2.1 _ (List.mem_of_getElem? (i := 3) rfl)) (hts _ hw_m2) (by decide +kernel) ⟨(Nat.le_of_ble_eq_true rfl), (Nat.le_of_ble_eq_true rfl)⟩, hts _ hw_m100, trivial⟩ (hw_pre0 hE) rfl rfl hl.sz rfl (lv_room (Nat.le_of_ble_eq_true rfl)) dX4_number_8 ⟨(Nat.le_of_ble_eq_true rfl), (Nat.le_of_ble_eq_true rfl)⟩) ?_
  refine lv_if_ne (tgt := 16) hx hb dX4_number_11 (by decide) (fun c11 => ?_) (fun c11 => ?_)
  · have hm := hw_in hm c11
    refine hw_aload_n hx hb dX4_number_16 rfl (hl.at 0 rfl) ?_
    obtain ⟨a17, g17, hm⟩ := hw_bs hm
    obtain ⟨rfl, ht17⟩ := hw_rv_th g17
    obtain ⟨v17, e17, hm⟩ := hw_bs hm
    refine hw_cRI (va_runV (As := []) (rest := []) ⟨hx, hb, hml, hown, hts⟩ (c4_ahead l D b e17) (cwV 0 hts (hw_gV hw_m163 hw_m164 hw_m165 hw_m21 hw_m166) rfl rfl rfl (by decide +kernel) ⟨(Nat.le_of_ble_eq_true rfl), (Nat.le_of_ble_eq_true rfl)⟩) (hw_preV (ci := 4) hE hR rfl (by decide) (hw_q_of ht17)) rfl rfl hl.sz rfl (lv_room (Nat.le_of_ble_eq_true rfl)) dX4_number_17 ⟨(Nat.le_of_ble_eq_true rfl), (Nat.le_of_ble_eq_true rfl)⟩) ?_
    refine lv_bipush (v := 48) hx hb dX4_number_20 (by decide) ?_
    refine lv_isub hx hb dX4_number_22 ?_
    refine hw_istore_n (lv' := [(1, .int (v17 - (48 : Int32))), (0, hw_vr b (some x0))]) hx hb dX4_number_23 rfl hl (by decide) (by decide) rfl (fun ls hl => ?_)
    refine hw_aload_n hx hb dX4_number_24 rfl (hl.at 1 rfl) ?_
    refine lv_dup hx hb dX4_number_25 (hw_vr_cat _ _) ?_
    obtain ⟨v26, e26, hm⟩ := hw_bs hm
    refine hw_getI hx hb hw_cf4 hts hown hK hR e26 (by decide) rfl (hts _ hw_m61) (fun _ h9 => h9) dX4_number_26 ?_
    refine lv_iconst (v := 1) hx hb dX4_number_29 (by decide) ?_
    refine lv_iadd hx hb dX4_number_30 ?_
    obtain ⟨σ31, e31, hm⟩ := hw_bs hm
    refine hw_putI hx hb hw_cf4 hts hown hK hR hS e31 (by decide) rfl rfl (hts _ hw_m61) (fun _ h9 => h9) (Or.inl rfl) dX4_number_31 (fun _ _ hR hS => ?_)
    refine lv_iload_n hx hb dX4_number_34 rfl (hl.at 0 rfl) ?_
    refine lv_if_le (tgt := 75) hx hb dX4_number_35 (by decide) (fun c35 => ?_) (fun c35 => ?_)
    · have hm := hw_ip hm c35
      exact w4_number_b75 C0 hm hR hS (hl.sub [1, 0] rfl)
    · have hm := hw_in hm c35
      refine hw_aload_n hx hb dX4_number_38 rfl (hl.at 1 rfl) ?_
      obtain ⟨a39, g39, hm⟩ := hw_bs hm
      obtain ⟨rfl, ht39⟩ := hw_rv_th g39
      obtain ⟨v39, e39, hm⟩ := hw_bs hm
      refine hw_cRI (va_runV (As := []) (rest := []) ⟨hx, hb, hml, hown, hts⟩ (c4_ahead l D b e39) (cwV 0 hts (hw_gV hw_m163 hw_m164 hw_m165 hw_m21 hw_m166) rfl rfl rfl (by decide +kernel) ⟨(Nat.le_of_ble_eq_true rfl), (Nat.le_of_ble_eq_true rfl)⟩) (hw_preV (ci := 4) hE hR rfl (by decide) (hw_q_of ht39)) rfl rfl hl.sz rfl (lv_room (Nat.le_of_ble_eq_true rfl)) dX4_number_39 ⟨(Nat.le_of_ble_eq_true rfl), (Nat.le_of_ble_eq_true rfl)⟩) ?_
      refine lv_bipush (v := 48) hx hb dX4_number_42 (by decide) ?_
      refine lv_bipush (v := 57) hx hb dX4_number_44 (by decide) ?_
      obtain ⟨v46, e46, hm⟩ := hw_bs hm
      refine hw_cRI (va_runSN (As := [.int v39, .int (48 : Int32), .int (57 : Int32)]) (rest := []) ⟨hx, hb, hml, hown, hts⟩ (c11_isWithin l D e46) ⟨va_cnB 3 hts (hw_gC hw_m101) rfl rfl rfl (hE.2.1 _ (List.mem_of_getElem? (i := 3) rfl)) (hts _ hw_m2) (by decide +kernel) ⟨(Nat.le_of_ble_eq_true rfl), (Nat.le_of_ble_eq_true rfl)⟩, hts _ hw_m100, trivial⟩ (hw_pre0 hE) rfl rfl hl.sz rfl (lv_room (Nat.le_of_ble_eq_true rfl)) dX4_number_46 ⟨(Nat.le_of_ble_eq_true rfl), (Nat.le_of_ble_eq_true rfl)⟩) ?_
      refine lv_if_eq (tgt := 75) hx hb dX4_number_49 (by decide) (fun c49 => ?_) (fun c49 => ?_)
      · have hm := hw_ip hm c49
        exact w4_number_b75 C0 hm hR hS (hl.sub [1, 0] rfl)
      · have hm := hw_in hm c49
        refine lv_bipush (v := 10) hx hb dX4_number_52 (by decide) ?_
        refine lv_iload_n hx hb dX4_number_54 rfl (hl.at 0 rfl) ?_
        refine lv_imul hx hb dX4_number_55 ?_
        refine hw_aload_n hx hb dX4_number_56 rfl (hl.at 1 rfl) ?_
        obtain ⟨a57, g57, hm⟩ := hw_bs hm
        obtain ⟨rfl, ht57⟩ := hw_rv_th g57
        obtain ⟨v57, e57, hm⟩ := hw_bs hm
        refine hw_cRI (va_runV (As := []) (rest := [.int ((10 : Int32) * (v17 - (48 : Int32)))]) ⟨hx, hb, hml, hown, hts⟩ (c4_ahead l D b e57) (cwV 0 hts (hw_gV hw_m163 hw_m164 hw_m165 hw_m21 hw_m166) rfl rfl rfl (by decide +kernel) ⟨(Nat.le_of_ble_eq_true rfl), (Nat.le_of_ble_eq_true rfl)⟩) (hw_preV (ci := 4) hE hR rfl (by decide) (hw_q_of ht57)) rfl rfl hl.sz rfl (lv_room (Nat.le_of_ble_eq_true rfl)) dX4_number_57 ⟨(Nat.le_of_ble_eq_true rfl), (Nat.le_of_ble_eq_true rfl)⟩) ?_
        refine lv_iadd hx hb dX4_number_60 ?_
        refine lv_bipush (v := 48) hx hb dX4_number_61 (by decide) ?_
        refine lv_isub hx hb dX4_number_63 ?_
        refine hw_istore_n (lv' := [(1, .int ((((10 : Int32) * (v17 - (48 : Int32))) + v57) - (48 : Int32))), (0, hw_vr b (some x0))]) hx hb dX4_number_64 rfl hl (by decide) (by decide) rfl (fun ls hl => ?_)
        refine hw_aload_n hx hb dX4_number_65 rfl (hl.at 1 rfl) ?_
        refine lv_dup hx hb dX4_number_66 (hw_vr_cat _ _) ?_
        obtain ⟨v67, e67, hm⟩ := hw_bs hm
        refine hw_getI hx hb hw_cf4 hts hown hK hR e67 (by decide) rfl (hts _ hw_m61) (fun _ h9 => h9) dX4_number_67 ?_
        refine lv_iconst (v := 1) hx hb dX4_number_70 (by decide) ?_
        refine lv_iadd hx hb dX4_number_71 ?_
        obtain ⟨σ72, e72, hm⟩ := hw_bs hm
        refine hw_putI hx hb hw_cf4 hts hown hK hR hS e72 (by decide) rfl rfl (hts _ hw_m61) (fun _ h9 => h9) (Or.inl rfl) dX4_number_72 (fun _ _ hR hS => ?_)
        exact w4_number_b75 C0 hm hR hS (hl.sub [1, 0] rfl)
  · have hm := hw_ip hm c11
    refine lv_iconst (v := (-1)) hx hb dX4_number_14 (by decide) ?_
    exact hw_rWI hx hb hr hlk hR hS hm dX4_number_15
set_option maxRecDepth 100000 in
theorem c4_number (l : Launch) (D : hw_D) (b : Nat) {x0 : Nat} {σ : hw_S} {r : Int32} {τ : hw_S} (hm : m4_number x0 σ = some (r, τ)) : Met l yX4_number (Cond.code yX4_number cX4_number 2 (some .int) :: wsL_law) rm4_number (hw_P1 D b σ [hw_vr b (some x0)]) (hw_QI D b τ r) 0 0 (fun q => b ≤ q) := by
  refine hw_start1 (by decide +kernel) (by exact Nat.le_of_ble_eq_true rfl) ?_
  intro p e s m below meth c ls C0 hR hS hl
  have hl : lv_has ls 2 [(0, hw_vr b (some x0))] := by exact hl
  exact w4_number_s hm C0 hR hS ⟨hl, (List.forall_mem_cons.mpr ⟨(fun h => by rw [show (hw_vr b (some x0) : Value).category = 1 from (hw_vr_cat _ _)] at h; cases h), (fun _ h => absurd h List.not_mem_nil)⟩)⟩

abbrev rm4_aboutOf : Room := { frames := 0, cells := 0, slots := 0, locals := 0 }
def m4_aboutOf_b82 : Option Int32 :=
  some ((-1) : Int32)
set_option maxRecDepth 100000 in
theorem w4_aboutOf_b82 {p : Program} {l : Launch} {e : Env} {s : State} {m : MethodId} {args : Array Value} {below : List Frame} {meth : Method} {c : Code} {D : hw_D} {r : Int32} (C0 : hw_C p s m args meth c D yX4_aboutOf cX4_aboutOf 1 (some .int)) (hm : m4_aboutOf_b82  = some r) {ls : Array Slot} (hl : hw_L ls 1 255 []) : W p l e rm4_aboutOf s m args below meth c s.heap [] 0 0 (MQ below (hw_RI r) args s 0 0 hw_nof) (F0 m 82 ls []) := by
  obtain ⟨hx, hb, hml, hr, hown, hts, hlk, hE, hnm⟩ := id C0
  have hown : s.vm.findClass RX4 = some m.cls := hown
  unfold m4_aboutOf_b82 at hm
  refine lv_iconst (v := (-1)) hx hb dX4_aboutOf_82 (by decide) ?_
  exact hw_rRI hx hb hr hlk hm dX4_aboutOf_83
def m4_aboutOf (l0 : Int32) : Option Int32 :=
  (if l0 = 102 then
  some (1 : Int32)
  else
  (if l0 = 103 then
  some (4 : Int32)
  else
  (if l0 = 104 then
  some (0 : Int32)
  else
  (if l0 = 105 then
  m4_aboutOf_b82 
  else
  (if l0 = 106 then
  m4_aboutOf_b82 
  else
  (if l0 = 107 then
  m4_aboutOf_b82 
  else
  (if l0 = 108 then
  m4_aboutOf_b82 
  else
  (if l0 = 109 then
  m4_aboutOf_b82 
  else
  (if l0 = 110 then
  m4_aboutOf_b82 
  else
  (if l0 = 111 then
  m4_aboutOf_b82 
  else
  (if l0 = 112 then
  some (2 : Int32)
  else
  (if l0 = 113 then
  m4_aboutOf_b82 
  else
  (if l0 = 114 then
  m4_aboutOf_b82 
  else
  (if l0 = 115 then
  some (3 : Int32)
  else
  m4_aboutOf_b82 ))))))))))))))
set_option maxRecDepth 100000 in
theorem w4_aboutOf_s {p : Program} {l : Launch} {e : Env} {s : State} {m : MethodId} {args : Array Value} {below : List Frame} {meth : Method} {c : Code} {D : hw_D} {l0 : Int32} {r : Int32} (hm : m4_aboutOf l0 = some r) (C0 : hw_C p s m args meth c D yX4_aboutOf cX4_aboutOf 1 (some .int)) {ls : Array Slot} (hl : hw_L ls 1 255 [(0, .int l0)]) : W p l e rm4_aboutOf s m args below meth c s.heap [] 0 0 (MQ below (hw_RI r) args s 0 0 hw_nof) (F0 m 0 ls []) := by
  obtain ⟨hx, hb, hml, hr, hown, hts, hlk, hE, hnm⟩ := id C0
  have hown : s.vm.findClass RX4 = some m.cls := hown
  unfold m4_aboutOf at hm
  refine lv_iload_n hx hb dX4_aboutOf_0 rfl (hl.at 0 rfl) ?_
  refine hw_case l0 (102) (fun c1_0 => ?_) (fun c1_0 => ?_)
  · have hm := hw_ip hm c1_0
    refine lv_tableIn (off := 73) (tgt := 74) hx hb dX4_aboutOf_1 (by rw [c1_0]; decide) (by rw [c1_0]; decide) (by rw [c1_0]; rfl) (by decide) ?_
    refine lv_iconst (v := 1) hx hb dX4_aboutOf_74 (by decide) ?_
    exact hw_rRI hx hb hr hlk hm dX4_aboutOf_75
  · have hm := hw_in hm c1_0
    refine hw_case l0 (103) (fun c1_1 => ?_) (fun c1_1 => ?_)
    · have hm := hw_ip hm c1_1
      refine lv_tableIn (off := 79) (tgt := 80) hx hb dX4_aboutOf_1 (by rw [c1_1]; decide) (by rw [c1_1]; decide) (by rw [c1_1]; rfl) (by decide) ?_
      refine lv_iconst (v := 4) hx hb dX4_aboutOf_80 (by decide) ?_
      exact hw_rRI hx hb hr hlk hm dX4_aboutOf_81
    · have hm := hw_in hm c1_1
      refine hw_case l0 (104) (fun c1_2 => ?_) (fun c1_2 => ?_)
      · have hm := hw_ip hm c1_2
        refine lv_tableIn (off := 71) (tgt := 72) hx hb dX4_aboutOf_1 (by rw [c1_2]; decide) (by rw [c1_2]; decide) (by rw [c1_2]; rfl) (by decide) ?_
        refine lv_iconst (v := 0) hx hb dX4_aboutOf_72 (by decide) ?_
        exact hw_rRI hx hb hr hlk hm dX4_aboutOf_73
      · have hm := hw_in hm c1_2
        refine hw_case l0 (105) (fun c1_3 => ?_) (fun c1_3 => ?_)
        · have hm := hw_ip hm c1_3
          refine lv_tableIn (off := 81) (tgt := 82) hx hb dX4_aboutOf_1 (by rw [c1_3]; decide) (by rw [c1_3]; decide) (by rw [c1_3]; rfl) (by decide) ?_
          exact w4_aboutOf_b82 C0 hm (hl.sub [] rfl)
        · have hm := hw_in hm c1_3
          refine hw_case l0 (106) (fun c1_4 => ?_) (fun c1_4 => ?_)
          · have hm := hw_ip hm c1_4
            refine lv_tableIn (off := 81) (tgt := 82) hx hb dX4_aboutOf_1 (by rw [c1_4]; decide) (by rw [c1_4]; decide) (by rw [c1_4]; rfl) (by decide) ?_
            exact w4_aboutOf_b82 C0 hm (hl.sub [] rfl)
          · have hm := hw_in hm c1_4
            refine hw_case l0 (107) (fun c1_5 => ?_) (fun c1_5 => ?_)
            · have hm := hw_ip hm c1_5
              refine lv_tableIn (off := 81) (tgt := 82) hx hb dX4_aboutOf_1 (by rw [c1_5]; decide) (by rw [c1_5]; decide) (by rw [c1_5]; rfl) (by decide) ?_
              exact w4_aboutOf_b82 C0 hm (hl.sub [] rfl)
            · have hm := hw_in hm c1_5
              refine hw_case l0 (108) (fun c1_6 => ?_) (fun c1_6 => ?_)
              · have hm := hw_ip hm c1_6
                refine lv_tableIn (off := 81) (tgt := 82) hx hb dX4_aboutOf_1 (by rw [c1_6]; decide) (by rw [c1_6]; decide) (by rw [c1_6]; rfl) (by decide) ?_
                exact w4_aboutOf_b82 C0 hm (hl.sub [] rfl)
              · have hm := hw_in hm c1_6
                refine hw_case l0 (109) (fun c1_7 => ?_) (fun c1_7 => ?_)
                · have hm := hw_ip hm c1_7
                  refine lv_tableIn (off := 81) (tgt := 82) hx hb dX4_aboutOf_1 (by rw [c1_7]; decide) (by rw [c1_7]; decide) (by rw [c1_7]; rfl) (by decide) ?_
                  exact w4_aboutOf_b82 C0 hm (hl.sub [] rfl)
                · have hm := hw_in hm c1_7
                  refine hw_case l0 (110) (fun c1_8 => ?_) (fun c1_8 => ?_)
                  · have hm := hw_ip hm c1_8
                    refine lv_tableIn (off := 81) (tgt := 82) hx hb dX4_aboutOf_1 (by rw [c1_8]; decide) (by rw [c1_8]; decide) (by rw [c1_8]; rfl) (by decide) ?_
                    exact w4_aboutOf_b82 C0 hm (hl.sub [] rfl)
                  · have hm := hw_in hm c1_8
                    refine hw_case l0 (111) (fun c1_9 => ?_) (fun c1_9 => ?_)
                    · have hm := hw_ip hm c1_9
                      refine lv_tableIn (off := 81) (tgt := 82) hx hb dX4_aboutOf_1 (by rw [c1_9]; decide) (by rw [c1_9]; decide) (by rw [c1_9]; rfl) (by decide) ?_
                      exact w4_aboutOf_b82 C0 hm (hl.sub [] rfl)
                    · have hm := hw_in hm c1_9
                      refine hw_case l0 (112) (fun c1_10 => ?_) (fun c1_10 => ?_)
                      · have hm := hw_ip hm c1_10
                        refine lv_tableIn (off := 75) (tgt := 76) hx hb dX4_aboutOf_1 (by rw [c1_10]; decide) (by rw [c1_10]; decide) (by rw [c1_10]; rfl) (by decide) ?_
                        refine lv_iconst (v := 2) hx hb dX4_aboutOf_76 (by decide) ?_
                        exact hw_rRI hx hb hr hlk hm dX4_aboutOf_77
                      · have hm := hw_in hm c1_10
                        refine hw_case l0 (113) (fun c1_11 => ?_) (fun c1_11 => ?_)
                        · have hm := hw_ip hm c1_11
                          refine lv_tableIn (off := 81) (tgt := 82) hx hb dX4_aboutOf_1 (by rw [c1_11]; decide) (by rw [c1_11]; decide) (by rw [c1_11]; rfl) (by decide) ?_
                          exact w4_aboutOf_b82 C0 hm (hl.sub [] rfl)
                        · have hm := hw_in hm c1_11
                          refine hw_case l0 (114) (fun c1_12 => ?_) (fun c1_12 => ?_)
                          · have hm := hw_ip hm c1_12
                            refine lv_tableIn (off := 81) (tgt := 82) hx hb dX4_aboutOf_1 (by rw [c1_12]; decide) (by rw [c1_12]; decide) (by rw [c1_12]; rfl) (by decide) ?_
                            exact w4_aboutOf_b82 C0 hm (hl.sub [] rfl)
                          · have hm := hw_in hm c1_12
                            refine hw_case l0 (115) (fun c1_13 => ?_) (fun c1_13 => ?_)
                            · have hm := hw_ip hm c1_13
                              refine lv_tableIn (off := 77) (tgt := 78) hx hb dX4_aboutOf_1 (by rw [c1_13]; decide) (by rw [c1_13]; decide) (by rw [c1_13]; rfl) (by decide) ?_
                              refine lv_iconst (v := 3) hx hb dX4_aboutOf_78 (by decide) ?_
                              exact hw_rRI hx hb hr hlk hm dX4_aboutOf_79
                            · have hm := hw_in hm c1_13
                              refine lv_tableOut (tgt := 82) hx hb dX4_aboutOf_1 (by have h0 := hw_ne (102) c1_0 rfl; have h1 := hw_ne (103) c1_1 rfl; have h2 := hw_ne (104) c1_2 rfl; have h3 := hw_ne (105) c1_3 rfl; have h4 := hw_ne (106) c1_4 rfl; have h5 := hw_ne (107) c1_5 rfl; have h6 := hw_ne (108) c1_6 rfl; have h7 := hw_ne (109) c1_7 rfl; have h8 := hw_ne (110) c1_8 rfl; have h9 := hw_ne (111) c1_9 rfl; have h10 := hw_ne (112) c1_10 rfl; have h11 := hw_ne (113) c1_11 rfl; have h12 := hw_ne (114) c1_12 rfl; have h13 := hw_ne (115) c1_13 rfl; omega) (by decide) ?_
                              exact w4_aboutOf_b82 C0 hm (hl.sub [] rfl)
set_option maxRecDepth 100000 in
theorem c4_aboutOf (l : Launch) (D : hw_D) {l0 : Int32} {r : Int32} (hm : m4_aboutOf l0 = some r) : Met l yX4_aboutOf (Cond.code yX4_aboutOf cX4_aboutOf 1 (some .int) :: wsL_law) rm4_aboutOf (hw_P0 D [.int l0]) (hw_RI r) 0 0 hw_nof := by
  refine hw_start0 (by decide +kernel) (by exact Nat.le_of_ble_eq_true rfl) ?_
  intro p e s m below meth c ls C0 hl
  have hl : lv_has ls 1 [(0, .int l0)] := by exact hl
  exact w4_aboutOf_s hm C0 ⟨hl, (List.forall_mem_cons.mpr ⟨(fun h => absurd (show (1 : Nat) = 2 from h) (by decide)), (fun _ h => absurd h List.not_mem_nil)⟩)⟩

abbrev rm4_signOf : Room := { frames := 0, cells := 0, slots := 0, locals := 0 }
def m4_signOf (l0 : Int32) : Option Int32 :=
  (if l0 = 60 then
  some (0 : Int32)
  else
  (if l0 = 61 then
  some (1 : Int32)
  else
  (if l0 = 62 then
  some (2 : Int32)
  else
  some ((-1) : Int32))))
set_option maxRecDepth 100000 in
theorem w4_signOf_s {p : Program} {l : Launch} {e : Env} {s : State} {m : MethodId} {args : Array Value} {below : List Frame} {meth : Method} {c : Code} {D : hw_D} {l0 : Int32} {r : Int32} (hm : m4_signOf l0 = some r) (C0 : hw_C p s m args meth c D yX4_signOf cX4_signOf 1 (some .int)) {ls : Array Slot} (hl : hw_L ls 1 255 [(0, .int l0)]) : W p l e rm4_signOf s m args below meth c s.heap [] 0 0 (MQ below (hw_RI r) args s 0 0 hw_nof) (F0 m 0 ls []) := by
  obtain ⟨hx, hb, hml, hr, hown, hts, hlk, hE, hnm⟩ := id C0
  have hown : s.vm.findClass RX4 = some m.cls := hown
  unfold m4_signOf at hm
  refine lv_iload_n hx hb dX4_signOf_0 rfl (hl.at 0 rfl) ?_
  refine hw_case l0 (60) (fun c1_0 => ?_) (fun c1_0 => ?_)
  · have hm := hw_ip hm c1_0
    refine lv_tableIn (off := 27) (tgt := 28) hx hb dX4_signOf_1 (by rw [c1_0]; decide) (by rw [c1_0]; decide) (by rw [c1_0]; rfl) (by decide) ?_
    refine lv_iconst (v := 0) hx hb dX4_signOf_28 (by decide) ?_
    exact hw_rRI hx hb hr hlk hm dX4_signOf_29
  · have hm := hw_in hm c1_0
    refine hw_case l0 (61) (fun c1_1 => ?_) (fun c1_1 => ?_)
    · have hm := hw_ip hm c1_1
      refine lv_tableIn (off := 29) (tgt := 30) hx hb dX4_signOf_1 (by rw [c1_1]; decide) (by rw [c1_1]; decide) (by rw [c1_1]; rfl) (by decide) ?_
      refine lv_iconst (v := 1) hx hb dX4_signOf_30 (by decide) ?_
      exact hw_rRI hx hb hr hlk hm dX4_signOf_31
    · have hm := hw_in hm c1_1
      refine hw_case l0 (62) (fun c1_2 => ?_) (fun c1_2 => ?_)
      · have hm := hw_ip hm c1_2
        refine lv_tableIn (off := 31) (tgt := 32) hx hb dX4_signOf_1 (by rw [c1_2]; decide) (by rw [c1_2]; decide) (by rw [c1_2]; rfl) (by decide) ?_
        refine lv_iconst (v := 2) hx hb dX4_signOf_32 (by decide) ?_
        exact hw_rRI hx hb hr hlk hm dX4_signOf_33
      · have hm := hw_in hm c1_2
        refine lv_tableOut (tgt := 34) hx hb dX4_signOf_1 (by have h0 := hw_ne (60) c1_0 rfl; have h1 := hw_ne (61) c1_1 rfl; have h2 := hw_ne (62) c1_2 rfl; omega) (by decide) ?_
        refine lv_iconst (v := (-1)) hx hb dX4_signOf_34 (by decide) ?_
        exact hw_rRI hx hb hr hlk hm dX4_signOf_35
set_option maxRecDepth 100000 in
theorem c4_signOf (l : Launch) (D : hw_D) {l0 : Int32} {r : Int32} (hm : m4_signOf l0 = some r) : Met l yX4_signOf (Cond.code yX4_signOf cX4_signOf 1 (some .int) :: wsL_law) rm4_signOf (hw_P0 D [.int l0]) (hw_RI r) 0 0 hw_nof := by
  refine hw_start0 (by decide +kernel) (by exact Nat.le_of_ble_eq_true rfl) ?_
  intro p e s m below meth c ls C0 hl
  have hl : lv_has ls 1 [(0, .int l0)] := by exact hl
  exact w4_signOf_s hm C0 ⟨hl, (List.forall_mem_cons.mpr ⟨(fun h => absurd (show (1 : Nat) = 2 from h) (by decide)), (fun _ h => absurd h List.not_mem_nil)⟩)⟩

abbrev rm4_add : Room := { frames := 0, cells := 0, slots := 0, locals := 0 }
def m4_add_b29 (x0 : Nat) (σ : hw_S) : Option hw_S :=
  some σ
set_option maxRecDepth 100000 in
theorem w4_add_b29 {p : Program} {l : Launch} {e : Env} {s : State} {m : MethodId} {args : Array Value} {below : List Frame} {meth : Method} {c : Code} {D : hw_D} {b : Nat} {τ : hw_S} (C0 : hw_C p s m args meth c D yX4_add cX4_add 2 none) {x0 : Nat} {σ : hw_S} {H : Heap} {locs : List Loc} (hm : m4_add_b29 x0 σ = some τ) (hR : hw_R D b σ H) (hS : va_S (fun q => b ≤ q) s.heap H locs) {ls : Array Slot} (hl : hw_L ls 2 255 [(0, hw_vr b (some x0))]) : W p l e rm4_add s m args below meth c H locs 0 0 (MQ below (hw_QV D b τ) args s 0 0 (fun q => b ≤ q)) (F0 m 29 ls []) := by
  obtain ⟨hx, hb, hml, hr, hown, hts, hlk, hE, hnm⟩ := id C0
  have hown : s.vm.findClass RX4 = some m.cls := hown
  have hK := hE.1
  unfold m4_add_b29 at hm
  exact hw_rWV hx hb hr hlk hR hS hm dX4_add_29
def m4_add (x0 : Nat) (l1 : Int32) (σ : hw_S) : Option hw_S :=
  (hw_gI (hw_q 4) 4 (some x0) σ).bind fun v1 =>
  (if (120 : Int32) ≤ v1 then
  m4_add_b29 x0 σ
  else
  (hw_gP (hw_q 4) 3 (some x0) σ).bind fun v10 =>
  (hw_gI (hw_q 4) 4 (some x0) σ).bind fun v14 =>
  (hw_sI v10 v14 l1 σ).bind fun σ18 =>
  (hw_gI (hw_q 4) 4 (some x0) σ18).bind fun v21 =>
  (hw_pI (hw_q 4) 4 (some x0) (v21 + (1 : Int32)) σ18).bind fun σ26 =>
  m4_add_b29 x0 σ26)
set_option maxRecDepth 100000 in
theorem w4_add_s {p : Program} {l : Launch} {e : Env} {s : State} {m : MethodId} {args : Array Value} {below : List Frame} {meth : Method} {c : Code} {D : hw_D} {b : Nat} {x0 : Nat} {l1 : Int32} {σ : hw_S} {τ : hw_S} {H : Heap} {locs : List Loc} (hm : m4_add x0 l1 σ = some τ) (C0 : hw_C p s m args meth c D yX4_add cX4_add 2 none) (hR : hw_R D b σ H) (hS : va_S (fun q => b ≤ q) s.heap H locs) {ls : Array Slot} (hl : hw_L ls 2 255 [(0, hw_vr b (some x0)), (1, .int l1)]) : W p l e rm4_add s m args below meth c H locs 0 0 (MQ below (hw_QV D b τ) args s 0 0 (fun q => b ≤ q)) (F0 m 0 ls []) := by
  obtain ⟨hx, hb, hml, hr, hown, hts, hlk, hE, hnm⟩ := id C0
  have hown : s.vm.findClass RX4 = some m.cls := hown
  have hK := hE.1
  unfold m4_add at hm
  refine hw_aload_n hx hb dX4_add_0 rfl (hl.at 0 rfl) ?_
  obtain ⟨v1, e1, hm⟩ := hw_bs hm
  refine hw_getI hx hb hw_cf4 hts hown hK hR e1 (by decide) rfl (hts _ hw_m63) (fun _ h9 => h9) dX4_add_1 ?_
  refine lv_bipush (v := 120) hx hb dX4_add_4 (by decide) ?_
  refine lv_icmp_ge (tgt := 29) hx hb dX4_add_6 (by decide) (fun c6 => ?_) (fun c6 => ?_)
  · have hm := hw_ip hm c6
    exact w4_add_b29 C0 hm hR hS (hl.sub [0] rfl)
  · have hm := hw_in hm c6
    refine hw_aload_n hx hb dX4_add_9 rfl (hl.at 0 rfl) ?_
    obtain ⟨v10, e10, hm⟩ := hw_bs hm
    refine hw_getP hx hb hw_cf4 hts hown hK hR e10 (by decide) rfl (hts _ hw_m62) (fun _ h9 => h9) dX4_add_10 ?_
    refine hw_aload_n hx hb dX4_add_13 rfl (hl.at 0 rfl) ?_
    obtain ⟨v14, e14, hm⟩ := hw_bs hm
    refine hw_getI hx hb hw_cf4 hts hown hK hR e14 (by decide) rfl (hts _ hw_m63) (fun _ h9 => h9) dX4_add_14 ?_
    refine lv_iload_n hx hb dX4_add_17 rfl (hl.at 1 rfl) ?_
    obtain ⟨σ18, e18, hm⟩ := hw_bs hm
    refine hw_iast hx hb hK hR hS e18 dX4_add_18 (fun _ _ hR hS => ?_)
    refine hw_aload_n hx hb dX4_add_19 rfl (hl.at 0 rfl) ?_
    refine lv_dup hx hb dX4_add_20 (hw_vr_cat _ _) ?_
    obtain ⟨v21, e21, hm⟩ := hw_bs hm
    refine hw_getI hx hb hw_cf4 hts hown hK hR e21 (by decide) rfl (hts _ hw_m63) (fun _ h9 => h9) dX4_add_21 ?_
    refine lv_iconst (v := 1) hx hb dX4_add_24 (by decide) ?_
    refine lv_iadd hx hb dX4_add_25 ?_
    obtain ⟨σ26, e26, hm⟩ := hw_bs hm
    refine hw_putI hx hb hw_cf4 hts hown hK hR hS e26 (by decide) rfl rfl (hts _ hw_m63) (fun _ h9 => h9) (Or.inl rfl) dX4_add_26 (fun _ _ hR hS => ?_)
    exact w4_add_b29 C0 hm hR hS (hl.sub [0] rfl)
set_option maxRecDepth 100000 in
theorem c4_add (l : Launch) (D : hw_D) (b : Nat) {x0 : Nat} {l1 : Int32} {σ : hw_S} {τ : hw_S} (hm : m4_add x0 l1 σ = some τ) : Met l yX4_add (Cond.code yX4_add cX4_add 2 none :: wsL_law) rm4_add (hw_P1 D b σ [hw_vr b (some x0), .int l1]) (hw_QV D b τ) 0 0 (fun q => b ≤ q) := by
  refine hw_start1 (by decide +kernel) (by exact Nat.le_of_ble_eq_true rfl) ?_
  intro p e s m below meth c ls C0 hR hS hl
  have hl : lv_has ls 2 [(0, hw_vr b (some x0)), (1, .int l1)] := by exact hl
  exact w4_add_s hm C0 hR hS ⟨hl, (List.forall_mem_cons.mpr ⟨(fun h => by rw [show (hw_vr b (some x0) : Value).category = 1 from (hw_vr_cat _ _)] at h; cases h), (List.forall_mem_cons.mpr ⟨(fun h => absurd (show (1 : Nat) = 2 from h) (by decide)), (fun _ h => absurd h List.not_mem_nil)⟩)⟩)⟩
