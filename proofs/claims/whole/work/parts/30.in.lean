/-- words by their places, or by search -/
theorem in_p {big : List Cond} (ws : List Cond) (ps : List Nat) (hp : ws.filter k2_isCode = ps.filterMap (fun i => big[i]?)) (h : (ws.filter (fun w => !k2_isCode w)).all (fun w => decide (w ∈ big)) = true) : ∀ w ∈ ws, w ∈ big := by
  intro w hw
  by_cases hc : k2_isCode w = true
  · have h1 : w ∈ ws.filter k2_isCode := List.mem_filter.mpr ⟨hw, hc⟩
    rw [hp] at h1
    obtain ⟨i, -, hi⟩ := List.mem_filterMap.mp h1
    exact List.mem_of_getElem? hi
  · exact of_decide_eq_true (List.all_eq_true.mp h w (List.mem_filter.mpr ⟨hw, by simpa using hc⟩))
set_option maxRecDepth 20000 in
theorem IN_1 : ∀ w ∈ wsL_law0_r1, w ∈ lw_tbl := in_p _ [91, 94] (by decide +kernel) (by decide +kernel)
set_option maxRecDepth 20000 in
theorem IN_2 : ∀ w ∈ wsL_law0_r2, w ∈ lw_tbl := in_p _ [99, 174] (by decide +kernel) (by decide +kernel)
set_option maxRecDepth 20000 in
theorem IN_3 : ∀ w ∈ wsL_law0_r3, w ∈ lw_tbl := in_p _ [180] (by decide +kernel) (by decide +kernel)
set_option maxRecDepth 20000 in
theorem IN_4 : ∀ w ∈ wsL_law0_r4, w ∈ lw_tbl := in_p _ [212, 271, 344] (by decide +kernel) (by decide +kernel)
set_option maxRecDepth 20000 in
theorem IN_5 : ∀ w ∈ wsL_law0_r5, w ∈ lw_tbl := in_p _ [918] (by decide +kernel) (by decide +kernel)
set_option maxRecDepth 20000 in
theorem IN_6 : ∀ w ∈ wsL_law0_r6, w ∈ lw_tbl := in_p _ [637, 640, 711, 565] (by decide +kernel) (by decide +kernel)
set_option maxRecDepth 20000 in
theorem IN_7 : ∀ w ∈ wsL_law0_r7, w ∈ lw_tbl := in_p _ [516, 520, 561, 1015] (by decide +kernel) (by decide +kernel)
set_option maxRecDepth 20000 in
theorem IN_8 : ∀ w ∈ wsL_law0_r8, w ∈ lw_tbl := in_p _ [1018, 1021, 1025, 1029, 1032, 1036] (by decide +kernel) (by decide +kernel)
set_option maxRecDepth 20000 in
theorem IN_9 : ∀ w ∈ wsL_law0_r9, w ∈ lw_tbl := in_p _ [1040, 1011, 751, 755, 760, 1044] (by decide +kernel) (by decide +kernel)
set_option maxRecDepth 20000 in
theorem IN_10 : ∀ w ∈ wsL_law0_r10, w ∈ lw_tbl := in_p _ [1048, 1052, 767, 1056] (by decide +kernel) (by decide +kernel)
set_option maxRecDepth 20000 in
theorem IN_11 : ∀ w ∈ wsL_law0_r11, w ∈ lw_tbl := in_p _ [1060, 774, 777, 782, 408, 412] (by decide +kernel) (by decide +kernel)
set_option maxRecDepth 20000 in
theorem IN_12 : ∀ w ∈ wsL_law0_r12, w ∈ lw_tbl := in_p _ [1064, 1068, 1072, 1076, 790] (by decide +kernel) (by decide +kernel)
set_option maxRecDepth 20000 in
theorem IN_13 : ∀ w ∈ wsL_law0_r13, w ∈ lw_tbl := in_p _ [1080, 1083, 798, 1087] (by decide +kernel) (by decide +kernel)
set_option maxRecDepth 20000 in
theorem IN_14 : ∀ w ∈ wsL_law0_r14, w ∈ lw_tbl := in_p _ [1091, 805, 1095, 813] (by decide +kernel) (by decide +kernel)
set_option maxRecDepth 20000 in
theorem IN_15 : ∀ w ∈ wsL_law0_r15, w ∈ lw_tbl := in_p _ [818, 823, 827, 1099, 834, 400] (by decide +kernel) (by decide +kernel)
set_option maxRecDepth 20000 in
theorem IN_16 : ∀ w ∈ wsL_law0_r16, w ∈ lw_tbl := in_p _ [404, 416, 420] (by decide +kernel) (by decide +kernel)
set_option maxRecDepth 20000 in
theorem IN_17 : ∀ w ∈ wsL_law0_r17, w ∈ lw_tbl := in_p _ [424, 428, 432, 447] (by decide +kernel) (by decide +kernel)
set_option maxRecDepth 20000 in
theorem IN_18 : ∀ w ∈ wsL_law0_r18, w ∈ lw_tbl := in_p _ [436, 440, 444, 451, 455] (by decide +kernel) (by decide +kernel)
set_option maxRecDepth 20000 in
theorem IN_19 : ∀ w ∈ wsL_law0_r19, w ∈ lw_tbl := in_p _ [459, 463, 467, 471] (by decide +kernel) (by decide +kernel)
set_option maxRecDepth 20000 in
theorem IN_20 : ∀ w ∈ wsL_law0_r20, w ∈ lw_tbl := in_p _ [475, 480, 487, 484] (by decide +kernel) (by decide +kernel)
set_option maxRecDepth 20000 in
theorem IN_21 : ∀ w ∈ wsL_law0_r21, w ∈ lw_tbl := in_p _ [491, 495, 500, 576, 1103] (by decide +kernel) (by decide +kernel)
set_option maxRecDepth 20000 in
theorem IN_22 : ∀ w ∈ wsL_law0_r22, w ∈ lw_tbl := in_p _ [1107, 1111, 1115, 1119] (by decide +kernel) (by decide +kernel)
set_option maxRecDepth 20000 in
theorem IN_23 : ∀ w ∈ wsL_law0_r23, w ∈ lw_tbl := in_p _ [1123, 1127, 1131, 1135, 1139, 1143] (by decide +kernel) (by decide +kernel)
set_option maxRecDepth 20000 in
theorem IN_24 : ∀ w ∈ wsL_law0_r24, w ∈ lw_tbl := in_p _ [1147, 1151, 1155, 1159, 1163, 1167] (by decide +kernel) (by decide +kernel)
set_option maxRecDepth 20000 in
theorem IN_25 : ∀ w ∈ wsL_law0_r25, w ∈ lw_tbl := in_p _ [1171, 1175, 841, 600] (by decide +kernel) (by decide +kernel)
set_option maxRecDepth 20000 in
theorem IN_26 : ∀ w ∈ wsL_law0_r26, w ∈ lw_tbl := in_p _ [605, 1179, 1183] (by decide +kernel) (by decide +kernel)
set_option maxRecDepth 20000 in
theorem IN_27 : ∀ w ∈ wsL_law0_r27, w ∈ lw_tbl := in_p _ [1187, 1191, 848, 584, 588] (by decide +kernel) (by decide +kernel)
set_option maxRecDepth 20000 in
theorem IN_28 : ∀ w ∈ wsL_law0_r28, w ∈ lw_tbl := in_p _ [592, 1195, 1199, 1203, 396, 1207] (by decide +kernel) (by decide +kernel)
set_option maxRecDepth 20000 in
theorem IN_29 : ∀ w ∈ wsL_law0_r29, w ∈ lw_tbl := in_p _ [855, 614, 1211, 1215] (by decide +kernel) (by decide +kernel)
set_option maxRecDepth 20000 in
theorem IN_30 : ∀ w ∈ wsL_law0_r30, w ∈ lw_tbl := in_p _ [863, 618, 1219, 1223, 870] (by decide +kernel) (by decide +kernel)
set_option maxRecDepth 20000 in
theorem IN_31 : ∀ w ∈ wsL_law0_r31, w ∈ lw_tbl := in_p _ [622, 626, 1227, 1231, 504] (by decide +kernel) (by decide +kernel)
set_option maxRecDepth 20000 in
theorem IN_32 : ∀ w ∈ wsL_law0_r32, w ∈ lw_tbl := in_p _ [1235, 508, 1239, 877, 1243] (by decide +kernel) (by decide +kernel)
set_option maxRecDepth 20000 in
theorem IN_33 : ∀ w ∈ wsL_law0_r33, w ∈ lw_tbl := in_p _ [512, 1247, 884, 1251] (by decide +kernel) (by decide +kernel)
set_option maxRecDepth 20000 in
theorem IN_34 : ∀ w ∈ wsL_law0_r34, w ∈ lw_tbl := in_p _ [893, 1255, 900, 905, 1259] (by decide +kernel) (by decide +kernel)
set_option maxRecDepth 20000 in
theorem IN_35 : ∀ w ∈ wsL_law0_r35, w ∈ lw_tbl := in_p _ [529, 1263, 533, 537, 541] (by decide +kernel) (by decide +kernel)
set_option maxRecDepth 20000 in
theorem IN_36 : ∀ w ∈ wsL_law0_r36, w ∈ lw_tbl := in_p _ [545, 549, 553, 557, 1267] (by decide +kernel) (by decide +kernel)
set_option maxRecDepth 20000 in
theorem IN_37 : ∀ w ∈ wsL_law0_r37, w ∈ lw_tbl := in_p _ [1271, 1275, 1279, 1283, 912] (by decide +kernel) (by decide +kernel)
set_option maxRecDepth 20000 in
theorem IN_38 : ∀ w ∈ wsL_law0_r38, w ∈ lw_tbl := in_p _ [1287, 570, 580, 596, 610, 1291] (by decide +kernel) (by decide +kernel)
set_option maxRecDepth 20000 in
theorem IN_39 : ∀ w ∈ wsL_law0_r39, w ∈ lw_tbl := in_p _ [1296, 1301] (by decide +kernel) (by decide +kernel)
theorem IN_x0 : ∀ w ∈ (vx_atS RX6 56 "java/lang/IllegalStateException" ["java/lang/RuntimeException", "java/lang/Exception"]).filter goodWord, w ∈ lw_tbl := by decide +kernel
theorem IN_x1 : ∀ w ∈ (vx_atS RX6 110 "java/lang/IndexOutOfBoundsException" ["java/lang/RuntimeException", "java/lang/Exception"]).filter goodWord, w ∈ lw_tbl := by decide +kernel
theorem IN_x2 : ∀ w ∈ (vx_atS RX6 96 "java/lang/IllegalArgumentException" ["java/lang/RuntimeException", "java/lang/Exception"]).filter goodWord, w ∈ lw_tbl := by decide +kernel
theorem IN_0 : ∀ w ∈ wsL_law0, w ∈ lw_tbl := List.forall_mem_append.mpr ⟨IN_1, List.forall_mem_append.mpr ⟨IN_2, List.forall_mem_append.mpr ⟨IN_3, List.forall_mem_append.mpr ⟨IN_4, List.forall_mem_append.mpr ⟨IN_5, List.forall_mem_append.mpr ⟨IN_6, List.forall_mem_append.mpr ⟨IN_7, List.forall_mem_append.mpr ⟨IN_8, List.forall_mem_append.mpr ⟨IN_9, List.forall_mem_append.mpr ⟨IN_10, List.forall_mem_append.mpr ⟨IN_11, List.forall_mem_append.mpr ⟨IN_12, List.forall_mem_append.mpr ⟨IN_13, List.forall_mem_append.mpr ⟨IN_14, List.forall_mem_append.mpr ⟨IN_15, List.forall_mem_append.mpr ⟨IN_16, List.forall_mem_append.mpr ⟨IN_17, List.forall_mem_append.mpr ⟨IN_18, List.forall_mem_append.mpr ⟨IN_19, List.forall_mem_append.mpr ⟨IN_20, List.forall_mem_append.mpr ⟨IN_21, List.forall_mem_append.mpr ⟨IN_22, List.forall_mem_append.mpr ⟨IN_23, List.forall_mem_append.mpr ⟨IN_24, List.forall_mem_append.mpr ⟨IN_25, List.forall_mem_append.mpr ⟨IN_26, List.forall_mem_append.mpr ⟨IN_27, List.forall_mem_append.mpr ⟨IN_28, List.forall_mem_append.mpr ⟨IN_29, List.forall_mem_append.mpr ⟨IN_30, List.forall_mem_append.mpr ⟨IN_31, List.forall_mem_append.mpr ⟨IN_32, List.forall_mem_append.mpr ⟨IN_33, List.forall_mem_append.mpr ⟨IN_34, List.forall_mem_append.mpr ⟨IN_35, List.forall_mem_append.mpr ⟨IN_36, List.forall_mem_append.mpr ⟨IN_37, List.forall_mem_append.mpr ⟨IN_38, IN_39⟩⟩⟩⟩⟩⟩⟩⟩⟩⟩⟩⟩⟩⟩⟩⟩⟩⟩⟩⟩⟩⟩⟩⟩⟩⟩⟩⟩⟩⟩⟩⟩⟩⟩⟩⟩⟩⟩
theorem IN_all : ∀ w ∈ wsL_law, w ∈ lw_tbl := List.forall_mem_append.mpr ⟨List.forall_mem_append.mpr ⟨List.forall_mem_append.mpr ⟨IN_0, IN_x0⟩, IN_x1⟩, IN_x2⟩
