set_option maxRecDepth 20000 in
theorem hw_t40 : ∀ w ∈ wsL_law_r40, w ∈ hw_tb2 := fun w h => (goodIn_p wsL_law_r40 [916, 931, 948, 941] (by decide +kernel) (by decide +kernel) w h).1
set_option maxRecDepth 20000 in
theorem hw_t41 : ∀ w ∈ wsL_law_r41, w ∈ hw_tb2 := fun w h => (goodIn_p wsL_law_r41 [1294, 1298] (by decide +kernel) (by decide +kernel) w h).1
set_option maxRecDepth 20000 in
theorem hw_t42 : ∀ w ∈ wsL_law_r42, w ∈ hw_tb2 := fun w h => (goodIn_p wsL_law_r42 [1302, 1306, 1310, 1313, 1317, 1321] (by decide +kernel) (by decide +kernel) w h).1
set_option maxRecDepth 20000 in
theorem hw_t43 : ∀ w ∈ wsL_law_r43, w ∈ hw_tb2 := fun w h => (goodIn_p wsL_law_r43 [1325, 953, 957, 1329, 963, 966] (by decide +kernel) (by decide +kernel) w h).1
set_option maxRecDepth 20000 in
theorem hw_t44 : ∀ w ∈ wsL_law_r44, w ∈ hw_tb2 := fun w h => (goodIn_p wsL_law_r44 [1333, 970, 974, 1337] (by decide +kernel) (by decide +kernel) w h).1
set_option maxRecDepth 20000 in
theorem hw_t45 : ∀ w ∈ wsL_law_r45, w ∈ hw_tb2 := fun w h => (goodIn_p wsL_law_r45 [979, 1341, 983, 1345] (by decide +kernel) (by decide +kernel) w h).1
set_option maxRecDepth 20000 in
theorem hw_t_wsX110 : ∀ w ∈ wsX110, w ∈ hw_tb2 := fun w h => (goodIn_p wsX110 [] (by decide +kernel) (by decide +kernel) w h).1
set_option maxRecDepth 20000 in
theorem hw_t_wsX120 : ∀ w ∈ wsX120, w ∈ hw_tb2 := fun w h => (goodIn_p wsX120 [] (by decide +kernel) (by decide +kernel) w h).1
set_option maxRecDepth 20000 in
theorem hw_t_wsX80 : ∀ w ∈ wsX80, w ∈ hw_tb2 := fun w h => (goodIn_p wsX80 [] (by decide +kernel) (by decide +kernel) w h).1
set_option maxRecDepth 20000 in
theorem hw_t_wsX40 : ∀ w ∈ wsX40, w ∈ hw_tb2 := fun w h => (goodIn_p wsX40 [] (by decide +kernel) (by decide +kernel) w h).1
set_option maxRecDepth 20000 in
theorem hw_t_wsX100 : ∀ w ∈ wsX100, w ∈ hw_tb2 := fun w h => (goodIn_p wsX100 [] (by decide +kernel) (by decide +kernel) w h).1
set_option maxRecDepth 20000 in
theorem hw_t_wsX90 : ∀ w ∈ wsX90, w ∈ hw_tb2 := fun w h => (goodIn_p wsX90 [] (by decide +kernel) (by decide +kernel) w h).1
set_option maxRecDepth 20000 in
theorem hw_t_wsX70 : ∀ w ∈ wsX70, w ∈ hw_tb2 := fun w h => (goodIn_p wsX70 [] (by decide +kernel) (by decide +kernel) w h).1
set_option maxRecDepth 20000 in
theorem hw_t_wsX20 : ∀ w ∈ wsX20, w ∈ hw_tb2 := fun w h => (goodIn_p wsX20 [] (by decide +kernel) (by decide +kernel) w h).1
set_option maxRecDepth 20000 in
theorem hw_t_wsX10 : ∀ w ∈ wsX10, w ∈ hw_tb2 := fun w h => (goodIn_p wsX10 [] (by decide +kernel) (by decide +kernel) w h).1
set_option maxRecDepth 20000 in
theorem hw_t_wsX00 : ∀ w ∈ wsX00, w ∈ hw_tb2 := fun w h => (goodIn_p wsX00 [] (by decide +kernel) (by decide +kernel) w h).1
set_option maxRecDepth 20000 in
theorem hw_t_wsX60 : ∀ w ∈ wsX60, w ∈ hw_tb2 := fun w h => (goodIn_p wsX60 [] (by decide +kernel) (by decide +kernel) w h).1
set_option maxRecDepth 20000 in
theorem hw_t_wsX50 : ∀ w ∈ wsX50, w ∈ hw_tb2 := fun w h => (goodIn_p wsX50 [] (by decide +kernel) (by decide +kernel) w h).1
set_option maxRecDepth 20000 in
theorem hw_t_wsX30 : ∀ w ∈ wsX30, w ∈ hw_tb2 := fun w h => (goodIn_p wsX30 [] (by decide +kernel) (by decide +kernel) w h).1
set_option maxRecDepth 20000 in
theorem hw_t_wsL_law_x : ∀ w ∈ wsL_law_x, w ∈ hw_tb2 := fun w h => (goodIn_p wsL_law_x [] (by decide +kernel) (by decide +kernel) w h).1
theorem wsL_law_in : ∀ w ∈ wsL_law, w ∈ hw_tb2 := (List.forall_mem_append.mpr ⟨(List.forall_mem_append.mpr ⟨(List.forall_mem_append.mpr ⟨(List.forall_mem_append.mpr ⟨(List.forall_mem_append.mpr ⟨(List.forall_mem_append.mpr ⟨(List.forall_mem_append.mpr ⟨(List.forall_mem_append.mpr ⟨(List.forall_mem_append.mpr ⟨(List.forall_mem_append.mpr ⟨(List.forall_mem_append.mpr ⟨(List.forall_mem_append.mpr ⟨(List.forall_mem_append.mpr ⟨(List.forall_mem_append.mpr ⟨(List.forall_mem_append.mpr ⟨hw_t1, (List.forall_mem_append.mpr ⟨hw_t2, (List.forall_mem_append.mpr ⟨hw_t3, (List.forall_mem_append.mpr ⟨hw_t4, (List.forall_mem_append.mpr ⟨hw_t5, (List.forall_mem_append.mpr ⟨hw_t6, (List.forall_mem_append.mpr ⟨hw_t7, (List.forall_mem_append.mpr ⟨hw_t8, (List.forall_mem_append.mpr ⟨hw_t9, (List.forall_mem_append.mpr ⟨hw_t10, (List.forall_mem_append.mpr ⟨hw_t11, (List.forall_mem_append.mpr ⟨hw_t12, (List.forall_mem_append.mpr ⟨hw_t13, (List.forall_mem_append.mpr ⟨hw_t14, (List.forall_mem_append.mpr ⟨hw_t15, (List.forall_mem_append.mpr ⟨hw_t16, (List.forall_mem_append.mpr ⟨hw_t17, (List.forall_mem_append.mpr ⟨hw_t18, (List.forall_mem_append.mpr ⟨hw_t19, (List.forall_mem_append.mpr ⟨hw_t20, (List.forall_mem_append.mpr ⟨hw_t21, (List.forall_mem_append.mpr ⟨hw_t22, (List.forall_mem_append.mpr ⟨hw_t23, (List.forall_mem_append.mpr ⟨hw_t24, (List.forall_mem_append.mpr ⟨hw_t25, (List.forall_mem_append.mpr ⟨hw_t26, (List.forall_mem_append.mpr ⟨hw_t27, (List.forall_mem_append.mpr ⟨hw_t28, (List.forall_mem_append.mpr ⟨hw_t29, (List.forall_mem_append.mpr ⟨hw_t30, (List.forall_mem_append.mpr ⟨hw_t31, (List.forall_mem_append.mpr ⟨hw_t32, (List.forall_mem_append.mpr ⟨hw_t33, (List.forall_mem_append.mpr ⟨hw_t34, (List.forall_mem_append.mpr ⟨hw_t35, (List.forall_mem_append.mpr ⟨hw_t36, (List.forall_mem_append.mpr ⟨hw_t37, (List.forall_mem_append.mpr ⟨hw_t38, (List.forall_mem_append.mpr ⟨hw_t39, (List.forall_mem_append.mpr ⟨hw_t40, (List.forall_mem_append.mpr ⟨hw_t41, (List.forall_mem_append.mpr ⟨hw_t42, (List.forall_mem_append.mpr ⟨hw_t43, (List.forall_mem_append.mpr ⟨hw_t44, hw_t45⟩)⟩)⟩)⟩)⟩)⟩)⟩)⟩)⟩)⟩)⟩)⟩)⟩)⟩)⟩)⟩)⟩)⟩)⟩)⟩)⟩)⟩)⟩)⟩)⟩)⟩)⟩)⟩)⟩)⟩)⟩)⟩)⟩)⟩)⟩)⟩)⟩)⟩)⟩)⟩)⟩)⟩)⟩)⟩), hw_t_wsX110⟩), hw_t_wsX120⟩), hw_t_wsX80⟩), hw_t_wsX40⟩), hw_t_wsX100⟩), hw_t_wsX90⟩), hw_t_wsX70⟩), hw_t_wsX20⟩), hw_t_wsX10⟩), hw_t_wsX00⟩), hw_t_wsX60⟩), hw_t_wsX50⟩), hw_t_wsX30⟩), hw_t_wsL_law_x⟩)
