set_option maxRecDepth 20000 in
theorem hw_t20 : ∀ w ∈ wsL_law_r20, w ∈ hw_tb2 := fun w h => (goodIn_p wsL_law_r20 [598, 609, 623, 614, 617, 620] (by decide +kernel) (by decide +kernel) w h).1
set_option maxRecDepth 20000 in
theorem hw_t21 : ∀ w ∈ wsL_law_r21, w ∈ hw_tb2 := fun w h => (goodIn_p wsL_law_r21 [626, 637, 648] (by decide +kernel) (by decide +kernel) w h).1
set_option maxRecDepth 20000 in
theorem hw_t22 : ∀ w ∈ wsL_law_r22, w ∈ hw_tb2 := fun w h => (goodIn_p wsL_law_r22 [656, 659, 662, 682, 665] (by decide +kernel) (by decide +kernel) w h).1
set_option maxRecDepth 20000 in
theorem hw_t23 : ∀ w ∈ wsL_law_r23, w ∈ hw_tb2 := fun w h => (goodIn_p wsL_law_r23 [672, 678] (by decide +kernel) (by decide +kernel) w h).1
set_option maxRecDepth 20000 in
theorem hw_t24 : ∀ w ∈ wsL_law_r24, w ∈ hw_tb2 := fun w h => (goodIn_p wsL_law_r24 [686, 698, 1164, 1167] (by decide +kernel) (by decide +kernel) w h).1
set_option maxRecDepth 20000 in
theorem hw_t25 : ∀ w ∈ wsL_law_r25, w ∈ hw_tb2 := fun w h => (goodIn_p wsL_law_r25 [1172, 1176, 1180, 1184, 1188, 1192] (by decide +kernel) (by decide +kernel) w h).1
set_option maxRecDepth 20000 in
theorem hw_t26 : ∀ w ∈ wsL_law_r26, w ∈ hw_tb2 := fun w h => (goodIn_p wsL_law_r26 [703, 1196, 707, 711, 715] (by decide +kernel) (by decide +kernel) w h).1
set_option maxRecDepth 20000 in
theorem hw_t27 : ∀ w ∈ wsL_law_r27, w ∈ hw_tb2 := fun w h => (goodIn_p wsL_law_r27 [726, 741] (by decide +kernel) (by decide +kernel) w h).1
set_option maxRecDepth 20000 in
theorem hw_t28 : ∀ w ∈ wsL_law_r28, w ∈ hw_tb2 := fun w h => (goodIn_p wsL_law_r28 [738, 744, 748, 752, 1200] (by decide +kernel) (by decide +kernel) w h).1
set_option maxRecDepth 20000 in
theorem hw_t29 : ∀ w ∈ wsL_law_r29, w ∈ hw_tb2 := fun w h => (goodIn_p wsL_law_r29 [1204, 1208, 756, 760, 763, 767] (by decide +kernel) (by decide +kernel) w h).1
set_option maxRecDepth 20000 in
theorem hw_t30 : ∀ w ∈ wsL_law_r30, w ∈ hw_tb2 := fun w h => (goodIn_p wsL_law_r30 [1212, 1215, 1219, 771, 774, 1223, 1226] (by decide +kernel) (by decide +kernel) w h).1
set_option maxRecDepth 20000 in
theorem hw_t31 : ∀ w ∈ wsL_law_r31, w ∈ hw_tb2 := fun w h => (goodIn_p wsL_law_r31 [778, 781, 1230, 785, 788, 792] (by decide +kernel) (by decide +kernel) w h).1
set_option maxRecDepth 20000 in
theorem hw_t32 : ∀ w ∈ wsL_law_r32, w ∈ hw_tb2 := fun w h => (goodIn_p wsL_law_r32 [1234, 796, 1238, 800, 804] (by decide +kernel) (by decide +kernel) w h).1
set_option maxRecDepth 20000 in
theorem hw_t33 : ∀ w ∈ wsL_law_r33, w ∈ hw_tb2 := fun w h => (goodIn_p wsL_law_r33 [808, 813, 817, 820, 1242, 1246] (by decide +kernel) (by decide +kernel) w h).1
set_option maxRecDepth 20000 in
theorem hw_t34 : ∀ w ∈ wsL_law_r34, w ∈ hw_tb2 := fun w h => (goodIn_p wsL_law_r34 [825, 828, 1250, 1254, 832] (by decide +kernel) (by decide +kernel) w h).1
set_option maxRecDepth 20000 in
theorem hw_t35 : ∀ w ∈ wsL_law_r35, w ∈ hw_tb2 := fun w h => (goodIn_p wsL_law_r35 [1258, 836, 840, 844, 1262, 1266] (by decide +kernel) (by decide +kernel) w h).1
set_option maxRecDepth 20000 in
theorem hw_t36 : ∀ w ∈ wsL_law_r36, w ∈ hw_tb2 := fun w h => (goodIn_p wsL_law_r36 [1270, 848, 1274, 852, 1278, 856] (by decide +kernel) (by decide +kernel) w h).1
set_option maxRecDepth 20000 in
theorem hw_t37 : ∀ w ∈ wsL_law_r37, w ∈ hw_tb2 := fun w h => (goodIn_p wsL_law_r37 [1282, 860, 864, 1286, 868, 1290] (by decide +kernel) (by decide +kernel) w h).1
set_option maxRecDepth 20000 in
theorem hw_t38 : ∀ w ∈ wsL_law_r38, w ∈ hw_tb2 := fun w h => (goodIn_p wsL_law_r38 [873, 877, 901, 892, 888] (by decide +kernel) (by decide +kernel) w h).1
set_option maxRecDepth 20000 in
theorem hw_t39 : ∀ w ∈ wsL_law_r39, w ∈ hw_tb2 := fun w h => (goodIn_p wsL_law_r39 [898, 909, 923] (by decide +kernel) (by decide +kernel) w h).1
