theorem hw_sel_priv {y : MethodName} {C : String} {s : State} {args : Array Value} {n k : Nat} (hy : y.cls ≠ "java/lang/invoke/MethodHandle" ∧ y.cls ≠ "java/lang/invoke/VarHandle") (hC : (Cond.instantiable C n).before args s = true)
    (hins : (Cond.instantiable y.cls k).before args s = true) (hpriv : (Cond.privateMethod y).before args s = true) (hinst : (Cond.instanceMethod y).before args s = true) : (Cond.selects C y y).before args s = true := by
  obtain ⟨c, kc, hc, hk, -, hniab, -, -⟩ := Cond.instantiable_spec hins
  have hni : kc.isInterface = false := (Bool.or_eq_false_iff.mp hniab).1
  obtain ⟨d, kd, hd, -, -, -, -, -⟩ := Cond.instantiable_spec hC
  obtain ⟨mk, methM, hnamed, hmethM, -, -⟩ := Cond.instanceMethod_spec hinst
  have hfound : s.methodFound? y.cls y.name y.desc = some mk := State.methodFound?_of_named hnamed hy
  have hcls : mk.cls = c := Option.some.inj ((findClass_of_methodNamed hnamed).symm.trans hc)
  have hsel : selectMethod {} s.vm d mk = .method mk := selectMethod_private hmethM (Cond.privateMethod_at hpriv mk methM hnamed hmethM)
  simp only [Cond.before, Cond.holds, Cond.value, hd, hfound, hnamed, hsel, hcls, hk]
  simp
  exact hni
theorem hw_tbi {w : Cond} (h : w ∈ tables_1) : w ∈ lw_tbl := List.mem_append_right _ h
def hw_more : List Cond := [Cond.selects "HoneyWinds$Either" (⟨"HoneyWinds$Laying", "isTestedAt", "(I)Z"⟩ : MethodName) (⟨"HoneyWinds$Laying", "isTestedAt", "(I)Z"⟩ : MethodName), Cond.selects "HoneyWinds$Flung" (⟨"HoneyWinds$Laying", "isTestedAt", "(I)Z"⟩ : MethodName) (⟨"HoneyWinds$Laying", "isTestedAt", "(I)Z"⟩ : MethodName), Cond.selects "HoneyWinds$Hanging" (⟨"HoneyWinds$Laying", "isTestedAt", "(I)Z"⟩ : MethodName) (⟨"HoneyWinds$Laying", "isTestedAt", "(I)Z"⟩ : MethodName), Cond.selects "HoneyWinds$Sewn" (⟨"HoneyWinds$Laying", "isTestedAt", "(I)Z"⟩ : MethodName) (⟨"HoneyWinds$Laying", "isTestedAt", "(I)Z"⟩ : MethodName), Cond.selects "HoneyWinds$Skinned" (⟨"HoneyWinds$Laying", "isTestedAt", "(I)Z"⟩ : MethodName) (⟨"HoneyWinds$Laying", "isTestedAt", "(I)Z"⟩ : MethodName), Cond.selects "HoneyWinds$Slow" (⟨"HoneyWinds$Laying", "isTestedAt", "(I)Z"⟩ : MethodName) (⟨"HoneyWinds$Laying", "isTestedAt", "(I)Z"⟩ : MethodName)]
set_option maxRecDepth 20000 in
theorem hw_more_ok {s : State} {args : Array Value} (h : ∀ w ∈ lw_tbl, w.before args s = true) : ∀ w ∈ hw_more, w.before args s = true := by
  unfold hw_more
  exact List.forall_mem_cons.mpr ⟨hw_sel_priv (n := 8) (k := 8) (y := (⟨"HoneyWinds$Laying", "isTestedAt", "(I)Z"⟩ : MethodName)) ⟨by decide +kernel, by decide +kernel⟩ (h _ (hw_tbi (List.mem_of_getElem? (i := 454) (by decide +kernel)))) (h _ (hw_tbi (List.mem_of_getElem? (i := 375) (by decide +kernel)))) (h _ (hw_tbi (List.mem_of_getElem? (i := 373) (by decide +kernel)))) (h _ (hw_tbi (List.mem_of_getElem? (i := 374) (by decide +kernel)))),
    List.forall_mem_cons.mpr ⟨hw_sel_priv (n := 8) (k := 8) (y := (⟨"HoneyWinds$Laying", "isTestedAt", "(I)Z"⟩ : MethodName)) ⟨by decide +kernel, by decide +kernel⟩ (h _ (hw_tbi (List.mem_of_getElem? (i := 439) (by decide +kernel)))) (h _ (hw_tbi (List.mem_of_getElem? (i := 375) (by decide +kernel)))) (h _ (hw_tbi (List.mem_of_getElem? (i := 373) (by decide +kernel)))) (h _ (hw_tbi (List.mem_of_getElem? (i := 374) (by decide +kernel)))),
    List.forall_mem_cons.mpr ⟨hw_sel_priv (n := 8) (k := 8) (y := (⟨"HoneyWinds$Laying", "isTestedAt", "(I)Z"⟩ : MethodName)) ⟨by decide +kernel, by decide +kernel⟩ (h _ (hw_tbi (List.mem_of_getElem? (i := 424) (by decide +kernel)))) (h _ (hw_tbi (List.mem_of_getElem? (i := 375) (by decide +kernel)))) (h _ (hw_tbi (List.mem_of_getElem? (i := 373) (by decide +kernel)))) (h _ (hw_tbi (List.mem_of_getElem? (i := 374) (by decide +kernel)))),
    List.forall_mem_cons.mpr ⟨hw_sel_priv (n := 8) (k := 8) (y := (⟨"HoneyWinds$Laying", "isTestedAt", "(I)Z"⟩ : MethodName)) ⟨by decide +kernel, by decide +kernel⟩ (h _ (hw_tbi (List.mem_of_getElem? (i := 484) (by decide +kernel)))) (h _ (hw_tbi (List.mem_of_getElem? (i := 375) (by decide +kernel)))) (h _ (hw_tbi (List.mem_of_getElem? (i := 373) (by decide +kernel)))) (h _ (hw_tbi (List.mem_of_getElem? (i := 374) (by decide +kernel)))),
    List.forall_mem_cons.mpr ⟨hw_sel_priv (n := 8) (k := 8) (y := (⟨"HoneyWinds$Laying", "isTestedAt", "(I)Z"⟩ : MethodName)) ⟨by decide +kernel, by decide +kernel⟩ (h _ (hw_tbi (List.mem_of_getElem? (i := 469) (by decide +kernel)))) (h _ (hw_tbi (List.mem_of_getElem? (i := 375) (by decide +kernel)))) (h _ (hw_tbi (List.mem_of_getElem? (i := 373) (by decide +kernel)))) (h _ (hw_tbi (List.mem_of_getElem? (i := 374) (by decide +kernel)))),
    List.forall_mem_cons.mpr ⟨hw_sel_priv (n := 8) (k := 8) (y := (⟨"HoneyWinds$Laying", "isTestedAt", "(I)Z"⟩ : MethodName)) ⟨by decide +kernel, by decide +kernel⟩ (h _ (hw_tbi (List.mem_of_getElem? (i := 350) (by decide +kernel)))) (h _ (hw_tbi (List.mem_of_getElem? (i := 375) (by decide +kernel)))) (h _ (hw_tbi (List.mem_of_getElem? (i := 373) (by decide +kernel)))) (h _ (hw_tbi (List.mem_of_getElem? (i := 374) (by decide +kernel)))),
    fun _ h => absurd h List.not_mem_nil⟩⟩⟩⟩⟩⟩
def hw_tb2 : List Cond := lw_tbl ++ hw_more
theorem hw_tb2_ok {s : State} {args : Array Value} (h : ∀ w ∈ lw_tbl, w.before args s = true) : ∀ w ∈ hw_tb2, w.before args s = true := List.forall_mem_append.mpr ⟨h, hw_more_ok h⟩
set_option maxRecDepth 20000 in
theorem hw_t1 : ∀ w ∈ wsL_law_r1, w ∈ hw_tb2 := fun w h => (goodIn_p wsL_law_r1 [88, 91] (by decide +kernel) (by decide +kernel) w h).1
set_option maxRecDepth 20000 in
theorem hw_t2 : ∀ w ∈ wsL_law_r2, w ∈ hw_tb2 := fun w h => (goodIn_p wsL_law_r2 [96] (by decide +kernel) (by decide +kernel) w h).1
set_option maxRecDepth 20000 in
theorem hw_t3 : ∀ w ∈ wsL_law_r3, w ∈ hw_tb2 := fun w h => (goodIn_p wsL_law_r3 [164, 201] (by decide +kernel) (by decide +kernel) w h).1
set_option maxRecDepth 20000 in
theorem hw_t4 : ∀ w ∈ wsL_law_r4, w ∈ hw_tb2 := fun w h => (goodIn_p wsL_law_r4 [988, 256] (by decide +kernel) (by decide +kernel) w h).1
set_option maxRecDepth 20000 in
theorem hw_t5 : ∀ w ∈ wsL_law_r5, w ∈ hw_tb2 := fun w h => (goodIn_p wsL_law_r5 [259, 264, 1071, 1074, 281] (by decide +kernel) (by decide +kernel) w h).1
set_option maxRecDepth 20000 in
theorem hw_t6 : ∀ w ∈ wsL_law_r6, w ∈ hw_tb2 := fun w h => (goodIn_p wsL_law_r6 [285, 1078, 1082, 289, 1086] (by decide +kernel) (by decide +kernel) w h).1
set_option maxRecDepth 20000 in
theorem hw_t7 : ∀ w ∈ wsL_law_r7, w ∈ hw_tb2 := fun w h => (goodIn_p wsL_law_r7 [293, 297, 300, 304, 308] (by decide +kernel) (by decide +kernel) w h).1
set_option maxRecDepth 20000 in
theorem hw_t8 : ∀ w ∈ wsL_law_r8, w ∈ hw_tb2 := fun w h => (goodIn_p wsL_law_r8 [311, 320, 324, 328, 334] (by decide +kernel) (by decide +kernel) w h).1
set_option maxRecDepth 20000 in
theorem hw_t9 : ∀ w ∈ wsL_law_r9, w ∈ hw_tb2 := fun w h => (goodIn_p wsL_law_r9 [338, 341, 344, 349, 352, 355, 358] (by decide +kernel) (by decide +kernel) w h).1
set_option maxRecDepth 20000 in
theorem hw_t10 : ∀ w ∈ wsL_law_r10, w ∈ hw_tb2 := fun w h => (goodIn_p wsL_law_r10 [362, 372, 376, 381, 385] (by decide +kernel) (by decide +kernel) w h).1
set_option maxRecDepth 20000 in
theorem hw_t11 : ∀ w ∈ wsL_law_r11, w ∈ hw_tb2 := fun w h => (goodIn_p wsL_law_r11 [407, 389, 393, 397, 400, 403] (by decide +kernel) (by decide +kernel) w h).1
set_option maxRecDepth 20000 in
theorem hw_t12 : ∀ w ∈ wsL_law_r12, w ∈ hw_tb2 := fun w h => (goodIn_p wsL_law_r12 [411] (by decide +kernel) (by decide +kernel) w h).1
set_option maxRecDepth 20000 in
theorem hw_t13 : ∀ w ∈ wsL_law_r13, w ∈ hw_tb2 := fun w h => (goodIn_p wsL_law_r13 [416, 419, 423] (by decide +kernel) (by decide +kernel) w h).1
set_option maxRecDepth 20000 in
theorem hw_t14 : ∀ w ∈ wsL_law_r14, w ∈ hw_tb2 := fun w h => (goodIn_p wsL_law_r14 [439, 490] (by decide +kernel) (by decide +kernel) w h).1
set_option maxRecDepth 20000 in
theorem hw_t15 : ∀ w ∈ wsL_law_r15, w ∈ hw_tb2 := fun w h => (goodIn_p wsL_law_r15 [505, 520, 535, 550, 1091] (by decide +kernel) (by decide +kernel) w h).1
set_option maxRecDepth 20000 in
theorem hw_t16 : ∀ w ∈ wsL_law_r16, w ∈ hw_tb2 := fun w h => (goodIn_p wsL_law_r16 [1095, 1099, 1104, 1108] (by decide +kernel) (by decide +kernel) w h).1
set_option maxRecDepth 20000 in
theorem hw_t17 : ∀ w ∈ wsL_law_r17, w ∈ hw_tb2 := fun w h => (goodIn_p wsL_law_r17 [1114, 1118, 1122, 1134, 1126, 1130] (by decide +kernel) (by decide +kernel) w h).1
set_option maxRecDepth 20000 in
theorem hw_t18 : ∀ w ∈ wsL_law_r18, w ∈ hw_tb2 := fun w h => (goodIn_p wsL_law_r18 [1139, 1145, 1151, 575, 579] (by decide +kernel) (by decide +kernel) w h).1
set_option maxRecDepth 20000 in
theorem hw_t19 : ∀ w ∈ wsL_law_r19, w ∈ hw_tb2 := fun w h => (goodIn_p wsL_law_r19 [1156, 1160, 583, 586, 589, 592, 595] (by decide +kernel) (by decide +kernel) w h).1
