set_option maxRecDepth 20000 in
theorem ggX6_init_X3_init : GoodIn wsX6_init wsX3_init := goodIn_r _ [21, 22, 2, 3, 23, 24, 25, 26, 27, 28, 29, 30, 31, 32, 33, 34, 35, 87, 88, 89, 90, 91, 92, 93, 94, 95, 96, 97, 98, 99] (by decide +kernel) (by decide +kernel)
set_option maxRecDepth 20000 in
theorem gX6_init_X3_init : GoodIn wsX6_init (wsX3_init) := ggX6_init_X3_init
set_option maxRecDepth 20000 in
theorem ggX6_init_X1_init : GoodIn wsX6_init wsX1_init := goodIn_r _ [37, 38, 2, 3, 39, 40, 41, 42, 43, 44, 45, 46, 47, 48, 49, 50, 51, 52, 53, 54, 55, 56, 57, 23, 58, 59, 60, 61, 62, 63, 64, 65, 66, 67, 68, 69, 70, 71, 72, 73, 74, 75, 76, 77, 78, 79, 108, 109, 110, 111, 112, 113, 114, 115, 116, 117, 118, 119, 125, 126, 127, 128, 129, 130, 131, 132, 133, 134, 135, 136, 137, 138, 139, 140, 141, 142, 143, 144, 145, 146, 147, 148, 149, 150] (by decide +kernel) (by decide +kernel)
set_option maxRecDepth 20000 in
theorem gX6_init_X1_init_n18 : GoodIn wsX6_init (wsX1_init) := ggX6_init_X1_init
set_option maxRecDepth 20000 in
theorem ggX6_init_X5_init : GoodIn wsX6_init wsX5_init := goodIn_r _ [81, 82, 2, 3, 23, 83, 84, 5, 6, 85, 86, 20, 21, 22, 24, 25, 26, 27, 28, 29, 30, 31, 32, 33, 34, 35, 120, 121, 122, 123, 124, 87, 88, 89, 90, 91, 92, 93, 94, 95, 96, 97, 98, 99] (by decide +kernel) (by decide +kernel)
set_option maxRecDepth 20000 in
theorem gX6_init_X5_init_n31 : GoodIn wsX6_init (wsX5_init) := ggX6_init_X5_init
theorem dX6_init_0 : decode cX6_init 0 = .ok (.aload_n 0, 1) := by decide +kernel
theorem dX6_init_1 : decode cX6_init 1 = .ok (.invokespecial 1, 3) := by decide +kernel
theorem dX6_init_4 : decode cX6_init 4 = .ok (.aload_n 0, 1) := by decide +kernel
theorem dX6_init_5 : decode cX6_init 5 = .ok (.new 7, 3) := by decide +kernel
theorem dX6_init_8 : decode cX6_init 8 = .ok (.dup, 1) := by decide +kernel
theorem dX6_init_9 : decode cX6_init 9 = .ok (.invokespecial 9, 3) := by decide +kernel
theorem dX6_init_12 : decode cX6_init 12 = .ok (.putfield 10, 3) := by decide +kernel
theorem dX6_init_15 : decode cX6_init 15 = .ok (.aload_n 0, 1) := by decide +kernel
theorem dX6_init_16 : decode cX6_init 16 = .ok (.new 16, 3) := by decide +kernel
theorem dX6_init_19 : decode cX6_init 19 = .ok (.dup, 1) := by decide +kernel
theorem dX6_init_20 : decode cX6_init 20 = .ok (.invokespecial 18, 3) := by decide +kernel
theorem dX6_init_23 : decode cX6_init 23 = .ok (.putfield 19, 3) := by decide +kernel
theorem dX6_init_26 : decode cX6_init 26 = .ok (.aload_n 0, 1) := by decide +kernel
theorem dX6_init_27 : decode cX6_init 27 = .ok (.new 7, 3) := by decide +kernel
theorem dX6_init_30 : decode cX6_init 30 = .ok (.dup, 1) := by decide +kernel
theorem dX6_init_31 : decode cX6_init 31 = .ok (.invokespecial 9, 3) := by decide +kernel
theorem dX6_init_34 : decode cX6_init 34 = .ok (.putfield 23, 3) := by decide +kernel
theorem dX6_init_37 : decode cX6_init 37 = .ok (.aload_n 0, 1) := by decide +kernel
theorem dX6_init_38 : decode cX6_init 38 = .ok (.new 16, 3) := by decide +kernel
theorem dX6_init_41 : decode cX6_init 41 = .ok (.dup, 1) := by decide +kernel
theorem dX6_init_42 : decode cX6_init 42 = .ok (.invokespecial 18, 3) := by decide +kernel
theorem dX6_init_45 : decode cX6_init 45 = .ok (.putfield 26, 3) := by decide +kernel
theorem dX6_init_48 : decode cX6_init 48 = .ok (.aload_n 0, 1) := by decide +kernel
theorem dX6_init_49 : decode cX6_init 49 = .ok (.new 29, 3) := by decide +kernel
theorem dX6_init_52 : decode cX6_init 52 = .ok (.dup, 1) := by decide +kernel
theorem dX6_init_53 : decode cX6_init 53 = .ok (.invokespecial 31, 3) := by decide +kernel
theorem dX6_init_56 : decode cX6_init 56 = .ok (.putfield 32, 3) := by decide +kernel
theorem dX6_init_59 : decode cX6_init 59 = .ok (.aload_n 0, 1) := by decide +kernel
theorem dX6_init_60 : decode cX6_init 60 = .ok (.iconst 4, 1) := by decide +kernel
theorem dX6_init_61 : decode cX6_init 61 = .ok (.anewarray 7, 3) := by decide +kernel
theorem dX6_init_64 : decode cX6_init 64 = .ok (.putfield 36, 3) := by decide +kernel
theorem dX6_init_67 : decode cX6_init 67 = .ok (.iconst 0, 1) := by decide +kernel
theorem dX6_init_68 : decode cX6_init 68 = .ok (.istore_n 1, 1) := by decide +kernel
theorem dX6_init_69 : decode cX6_init 69 = .ok (.iload_n 1, 1) := by decide +kernel
theorem dX6_init_70 : decode cX6_init 70 = .ok (.iconst 4, 1) := by decide +kernel
theorem dX6_init_71 : decode cX6_init 71 = .ok (.if_icmp .ge 22, 3) := by decide +kernel
theorem dX6_init_74 : decode cX6_init 74 = .ok (.aload_n 0, 1) := by decide +kernel
theorem dX6_init_75 : decode cX6_init 75 = .ok (.getfield 36, 3) := by decide +kernel
theorem dX6_init_78 : decode cX6_init 78 = .ok (.iload_n 1, 1) := by decide +kernel
theorem dX6_init_79 : decode cX6_init 79 = .ok (.new 7, 3) := by decide +kernel
theorem dX6_init_82 : decode cX6_init 82 = .ok (.dup, 1) := by decide +kernel
theorem dX6_init_83 : decode cX6_init 83 = .ok (.invokespecial 9, 3) := by decide +kernel
theorem dX6_init_86 : decode cX6_init 86 = .ok (.aastore, 1) := by decide +kernel
theorem dX6_init_87 : decode cX6_init 87 = .ok (.iinc 1 1, 3) := by decide +kernel
theorem dX6_init_90 : decode cX6_init 90 = .ok (.goto (-21), 3) := by decide +kernel
theorem dX6_init_93 : decode cX6_init 93 = .ok (.return_, 1) := by decide +kernel
set_option maxRecDepth 20000 in
theorem ggX6_addSign_X6_demandKind : GoodIn wsX6_addSign wsX6_demandKind := goodIn_ca (goodIn_r _ [8, 9, 10] (by decide +kernel) (by decide +kernel)) (goodIn_sub (fun _ h => List.mem_cons_of_mem _ (List.mem_append_left _ (List.mem_append_right _ h))) (by decide +kernel))
set_option maxRecDepth 20000 in
theorem gX6_addSign_X6_demandKind : GoodIn wsX6_addSign (va_wsS RX6 40 yX6_demandKind wsX6_demandKind) := goodIn_app (goodIn_of _ (by decide +kernel)) ggX6_addSign_X6_demandKind
set_option maxRecDepth 20000 in
theorem ggX6_addSign_X6_demandBelow : GoodIn wsX6_addSign wsX6_demandBelow := goodIn_ca (goodIn_r _ [13, 14, 15] (by decide +kernel) (by decide +kernel)) (goodIn_sub (fun _ h => List.mem_cons_of_mem _ (List.mem_append_right _ h)) (by decide +kernel))
set_option maxRecDepth 20000 in
theorem gX6_addSign_X6_demandBelow : GoodIn wsX6_addSign (va_wsS RX6 44 yX6_demandBelow wsX6_demandBelow) := goodIn_app (goodIn_of _ (by decide +kernel)) ggX6_addSign_X6_demandBelow
set_option maxRecDepth 20000 in
theorem ggX6_addSign_X6_saveState : GoodIn wsX6_addSign wsX6_saveState := goodIn_r _ [19, 20, 21, 22, 3, 23, 24, 25, 26, 27, 28, 29, 30, 31, 32, 33, 34, 35, 36, 37, 38, 39, 40, 41, 42, 43, 44, 45, 46, 47, 48, 49, 50, 55, 56, 57, 58, 59, 60, 61, 62, 76, 77, 78, 79, 80, 81, 82, 83, 84, 85, 86, 87, 63, 64, 65, 66, 67, 68, 69, 70, 71, 72, 73, 74, 75] (by decide +kernel) (by decide +kernel)
set_option maxRecDepth 20000 in
theorem gX6_addSign_X6_saveState : GoodIn wsX6_addSign (wsV RX6 59 RX6 yX6_saveState wsX6_saveState) := goodIn_app (goodIn_of _ (by decide +kernel)) ggX6_addSign_X6_saveState
set_option maxRecDepth 20000 in
theorem ggX6_addSign_X3_putSign : GoodIn wsX6_addSign wsX3_putSign := goodIn_r _ [54, 50, 45, 46, 47, 48, 49, 63, 64, 65, 66, 67, 68, 69, 70, 71, 72, 73, 74, 75] (by decide +kernel) (by decide +kernel)
set_option maxRecDepth 20000 in
theorem gX6_addSign_X3_putSign : GoodIn wsX6_addSign (wsV RX6 62 RX3 yX3_putSign wsX3_putSign) := goodIn_app (goodIn_of _ (by decide +kernel)) ggX6_addSign_X3_putSign
theorem dX6_addSign_0 : decode cX6_addSign 0 = .ok (.iload_n 1, 1) := by decide +kernel
theorem dX6_addSign_1 : decode cX6_addSign 1 = .ok (.invokestatic 40, 3) := by decide +kernel
theorem dX6_addSign_4 : decode cX6_addSign 4 = .ok (.iload_n 2, 1) := by decide +kernel
theorem dX6_addSign_5 : decode cX6_addSign 5 = .ok (.sipush 200, 3) := by decide +kernel
theorem dX6_addSign_8 : decode cX6_addSign 8 = .ok (.invokestatic 44, 3) := by decide +kernel
theorem dX6_addSign_11 : decode cX6_addSign 11 = .ok (.iload_n 3, 1) := by decide +kernel
theorem dX6_addSign_12 : decode cX6_addSign 12 = .ok (.sipush 200, 3) := by decide +kernel
theorem dX6_addSign_15 : decode cX6_addSign 15 = .ok (.invokestatic 44, 3) := by decide +kernel
theorem dX6_addSign_18 : decode cX6_addSign 18 = .ok (.iload 4, 2) := by decide +kernel
theorem dX6_addSign_20 : decode cX6_addSign 20 = .ok (.sipush 10000, 3) := by decide +kernel
theorem dX6_addSign_23 : decode cX6_addSign 23 = .ok (.invokestatic 44, 3) := by decide +kernel
theorem dX6_addSign_26 : decode cX6_addSign 26 = .ok (.iload 5, 2) := by decide +kernel
theorem dX6_addSign_28 : decode cX6_addSign 28 = .ok (.bipush 6, 2) := by decide +kernel
theorem dX6_addSign_30 : decode cX6_addSign 30 = .ok (.invokestatic 44, 3) := by decide +kernel
theorem dX6_addSign_33 : decode cX6_addSign 33 = .ok (.aload_n 0, 1) := by decide +kernel
theorem dX6_addSign_34 : decode cX6_addSign 34 = .ok (.getfield 10, 3) := by decide +kernel
theorem dX6_addSign_37 : decode cX6_addSign 37 = .ok (.getfield 48, 3) := by decide +kernel
theorem dX6_addSign_40 : decode cX6_addSign 40 = .ok (.bipush 40, 2) := by decide +kernel
theorem dX6_addSign_42 : decode cX6_addSign 42 = .ok (.if_icmp .lt 13, 3) := by decide +kernel
theorem dX6_addSign_45 : decode cX6_addSign 45 = .ok (.new 52, 3) := by decide +kernel
theorem dX6_addSign_48 : decode cX6_addSign 48 = .ok (.dup, 1) := by decide +kernel
theorem dX6_addSign_49 : decode cX6_addSign 49 = .ok (.ldc 54, 2) := by decide +kernel
theorem dX6_addSign_51 : decode cX6_addSign 51 = .ok (.invokespecial 56, 3) := by decide +kernel
theorem dX6_addSign_54 : decode cX6_addSign 54 = .ok (.athrow, 1) := by decide +kernel
theorem dX6_addSign_55 : decode cX6_addSign 55 = .ok (.aload_n 0, 1) := by decide +kernel
theorem dX6_addSign_56 : decode cX6_addSign 56 = .ok (.invokevirtual 59, 3) := by decide +kernel
theorem dX6_addSign_59 : decode cX6_addSign 59 = .ok (.aload_n 0, 1) := by decide +kernel
theorem dX6_addSign_60 : decode cX6_addSign 60 = .ok (.getfield 10, 3) := by decide +kernel
theorem dX6_addSign_63 : decode cX6_addSign 63 = .ok (.iload_n 1, 1) := by decide +kernel
theorem dX6_addSign_64 : decode cX6_addSign 64 = .ok (.iload_n 2, 1) := by decide +kernel
theorem dX6_addSign_65 : decode cX6_addSign 65 = .ok (.iload_n 3, 1) := by decide +kernel
theorem dX6_addSign_66 : decode cX6_addSign 66 = .ok (.iload 4, 2) := by decide +kernel
theorem dX6_addSign_68 : decode cX6_addSign 68 = .ok (.iload 5, 2) := by decide +kernel
theorem dX6_addSign_70 : decode cX6_addSign 70 = .ok (.invokevirtual 62, 3) := by decide +kernel
theorem dX6_addSign_73 : decode cX6_addSign 73 = .ok (.aload_n 0, 1) := by decide +kernel
theorem dX6_addSign_74 : decode cX6_addSign 74 = .ok (.getfield 10, 3) := by decide +kernel
theorem dX6_addSign_77 : decode cX6_addSign 77 = .ok (.getfield 48, 3) := by decide +kernel
theorem dX6_addSign_80 : decode cX6_addSign 80 = .ok (.iconst 1, 1) := by decide +kernel
theorem dX6_addSign_81 : decode cX6_addSign 81 = .ok (.isub, 1) := by decide +kernel
theorem dX6_addSign_82 : decode cX6_addSign 82 = .ok (.ireturn, 1) := by decide +kernel
set_option maxRecDepth 20000 in
theorem ggX6_removeSign_X6_demandSign : GoodIn wsX6_removeSign wsX6_demandSign := goodIn_ca (goodIn_r _ [7, 8, 9, 1, 2, 49, 50, 51, 52, 53, 54, 55, 56, 57, 58, 59, 60, 61, 62, 63, 64, 65, 66, 67, 68, 69] (by decide +kernel) (by decide +kernel)) (goodIn_sub (fun _ h => List.mem_cons_of_mem _ (List.mem_append_right _ h)) (by decide +kernel))
set_option maxRecDepth 20000 in
theorem gX6_removeSign_X6_demandSign : GoodIn wsX6_removeSign (wsV RX6 66 RX6 yX6_demandSign wsX6_demandSign) := goodIn_app (goodIn_of _ (by decide +kernel)) ggX6_removeSign_X6_demandSign
set_option maxRecDepth 20000 in
theorem ggX6_removeSign_X6_saveState : GoodIn wsX6_removeSign wsX6_saveState := goodIn_r _ [13, 14, 15, 16, 1, 17, 18, 19, 20, 21, 22, 23, 24, 25, 26, 27, 28, 29, 30, 31, 32, 33, 34, 35, 36, 37, 38, 39, 40, 41, 42, 43, 44, 49, 50, 51, 52, 53, 54, 55, 56, 70, 71, 72, 73, 74, 75, 76, 77, 78, 79, 80, 81, 57, 58, 59, 60, 61, 62, 63, 64, 65, 66, 67, 68, 69] (by decide +kernel) (by decide +kernel)
set_option maxRecDepth 20000 in
theorem gX6_removeSign_X6_saveState : GoodIn wsX6_removeSign (wsV RX6 59 RX6 yX6_saveState wsX6_saveState) := goodIn_app (goodIn_of _ (by decide +kernel)) ggX6_removeSign_X6_saveState
set_option maxRecDepth 20000 in
theorem ggX6_removeSign_X3_dropSign : GoodIn wsX6_removeSign wsX3_dropSign := goodIn_r _ [48, 44, 39, 40, 41, 42, 43, 57, 58, 59, 60, 61, 62, 63, 64, 65, 66, 67, 68, 69] (by decide +kernel) (by decide +kernel)
set_option maxRecDepth 20000 in
theorem gX6_removeSign_X3_dropSign : GoodIn wsX6_removeSign (wsV RX6 69 RX3 yX3_dropSign wsX3_dropSign) := goodIn_app (goodIn_of _ (by decide +kernel)) ggX6_removeSign_X3_dropSign
theorem dX6_removeSign_0 : decode cX6_removeSign 0 = .ok (.aload_n 0, 1) := by decide +kernel
theorem dX6_removeSign_1 : decode cX6_removeSign 1 = .ok (.iload_n 1, 1) := by decide +kernel
theorem dX6_removeSign_2 : decode cX6_removeSign 2 = .ok (.invokevirtual 66, 3) := by decide +kernel
theorem dX6_removeSign_5 : decode cX6_removeSign 5 = .ok (.aload_n 0, 1) := by decide +kernel
theorem dX6_removeSign_6 : decode cX6_removeSign 6 = .ok (.invokevirtual 59, 3) := by decide +kernel
theorem dX6_removeSign_9 : decode cX6_removeSign 9 = .ok (.aload_n 0, 1) := by decide +kernel
theorem dX6_removeSign_10 : decode cX6_removeSign 10 = .ok (.getfield 10, 3) := by decide +kernel
theorem dX6_removeSign_13 : decode cX6_removeSign 13 = .ok (.iload_n 1, 1) := by decide +kernel
theorem dX6_removeSign_14 : decode cX6_removeSign 14 = .ok (.invokevirtual 69, 3) := by decide +kernel
theorem dX6_removeSign_17 : decode cX6_removeSign 17 = .ok (.aload_n 0, 1) := by decide +kernel
theorem dX6_removeSign_18 : decode cX6_removeSign 18 = .ok (.getfield 10, 3) := by decide +kernel
theorem dX6_removeSign_21 : decode cX6_removeSign 21 = .ok (.getfield 48, 3) := by decide +kernel
theorem dX6_removeSign_24 : decode cX6_removeSign 24 = .ok (.ireturn, 1) := by decide +kernel
set_option maxRecDepth 20000 in
theorem ggX6_moveSign_X6_demandSign : GoodIn wsX6_moveSign wsX6_demandSign := goodIn_ca (goodIn_r _ [8, 9, 10, 1, 11, 52, 53, 54, 55, 56, 57, 58, 59, 60, 61, 62, 63, 64, 65, 66, 67, 68, 69, 70, 71, 72] (by decide +kernel) (by decide +kernel)) (goodIn_sub (fun _ h => List.mem_cons_of_mem _ (List.mem_append_left _ (List.mem_append_right _ h))) (by decide +kernel))
set_option maxRecDepth 20000 in
theorem gX6_moveSign_X6_demandSign : GoodIn wsX6_moveSign (wsV RX6 66 RX6 yX6_demandSign wsX6_demandSign) := goodIn_app (goodIn_of _ (by decide +kernel)) ggX6_moveSign_X6_demandSign
set_option maxRecDepth 20000 in
theorem ggX6_moveSign_X6_demandBelow : GoodIn wsX6_moveSign wsX6_demandBelow := goodIn_ca (goodIn_r _ [14, 15, 16] (by decide +kernel) (by decide +kernel)) (goodIn_sub (fun _ h => List.mem_cons_of_mem _ (List.mem_append_right _ h)) (by decide +kernel))
set_option maxRecDepth 20000 in
theorem gX6_moveSign_X6_demandBelow : GoodIn wsX6_moveSign (va_wsS RX6 44 yX6_demandBelow wsX6_demandBelow) := goodIn_app (goodIn_of _ (by decide +kernel)) ggX6_moveSign_X6_demandBelow
set_option maxRecDepth 20000 in
theorem ggX6_moveSign_X6_saveState : GoodIn wsX6_moveSign wsX6_saveState := goodIn_r _ [20, 21, 22, 23, 1, 24, 25, 26, 27, 28, 29, 30, 31, 32, 33, 34, 35, 36, 37, 38, 39, 40, 41, 42, 43, 44, 45, 46, 47, 48, 49, 50, 51, 52, 53, 54, 55, 56, 57, 58, 59, 73, 74, 75, 76, 77, 78, 79, 80, 81, 82, 83, 84, 60, 61, 62, 63, 64, 65, 66, 67, 68, 69, 70, 71, 72] (by decide +kernel) (by decide +kernel)
set_option maxRecDepth 20000 in
theorem gX6_moveSign_X6_saveState : GoodIn wsX6_moveSign (wsV RX6 59 RX6 yX6_saveState wsX6_saveState) := goodIn_app (goodIn_of _ (by decide +kernel)) ggX6_moveSign_X6_saveState
theorem dX6_moveSign_0 : decode cX6_moveSign 0 = .ok (.aload_n 0, 1) := by decide +kernel
theorem dX6_moveSign_1 : decode cX6_moveSign 1 = .ok (.iload_n 1, 1) := by decide +kernel
theorem dX6_moveSign_2 : decode cX6_moveSign 2 = .ok (.invokevirtual 66, 3) := by decide +kernel
theorem dX6_moveSign_5 : decode cX6_moveSign 5 = .ok (.iload_n 2, 1) := by decide +kernel
theorem dX6_moveSign_6 : decode cX6_moveSign 6 = .ok (.sipush 200, 3) := by decide +kernel
theorem dX6_moveSign_9 : decode cX6_moveSign 9 = .ok (.invokestatic 44, 3) := by decide +kernel
theorem dX6_moveSign_12 : decode cX6_moveSign 12 = .ok (.iload_n 3, 1) := by decide +kernel
theorem dX6_moveSign_13 : decode cX6_moveSign 13 = .ok (.sipush 200, 3) := by decide +kernel
theorem dX6_moveSign_16 : decode cX6_moveSign 16 = .ok (.invokestatic 44, 3) := by decide +kernel
theorem dX6_moveSign_19 : decode cX6_moveSign 19 = .ok (.aload_n 0, 1) := by decide +kernel
theorem dX6_moveSign_20 : decode cX6_moveSign 20 = .ok (.invokevirtual 59, 3) := by decide +kernel
theorem dX6_moveSign_23 : decode cX6_moveSign 23 = .ok (.aload_n 0, 1) := by decide +kernel
theorem dX6_moveSign_24 : decode cX6_moveSign 24 = .ok (.getfield 10, 3) := by decide +kernel
theorem dX6_moveSign_27 : decode cX6_moveSign 27 = .ok (.getfield 72, 3) := by decide +kernel
theorem dX6_moveSign_30 : decode cX6_moveSign 30 = .ok (.iload_n 1, 1) := by decide +kernel
theorem dX6_moveSign_31 : decode cX6_moveSign 31 = .ok (.iaload, 1) := by decide +kernel
theorem dX6_moveSign_32 : decode cX6_moveSign 32 = .ok (.istore 4, 2) := by decide +kernel
theorem dX6_moveSign_34 : decode cX6_moveSign 34 = .ok (.aload_n 0, 1) := by decide +kernel
theorem dX6_moveSign_35 : decode cX6_moveSign 35 = .ok (.getfield 10, 3) := by decide +kernel
theorem dX6_moveSign_38 : decode cX6_moveSign 38 = .ok (.getfield 72, 3) := by decide +kernel
theorem dX6_moveSign_41 : decode cX6_moveSign 41 = .ok (.iload_n 1, 1) := by decide +kernel
theorem dX6_moveSign_42 : decode cX6_moveSign 42 = .ok (.iload_n 2, 1) := by decide +kernel
theorem dX6_moveSign_43 : decode cX6_moveSign 43 = .ok (.iastore, 1) := by decide +kernel
theorem dX6_moveSign_44 : decode cX6_moveSign 44 = .ok (.aload_n 0, 1) := by decide +kernel
theorem dX6_moveSign_45 : decode cX6_moveSign 45 = .ok (.getfield 10, 3) := by decide +kernel
theorem dX6_moveSign_48 : decode cX6_moveSign 48 = .ok (.getfield 76, 3) := by decide +kernel
theorem dX6_moveSign_51 : decode cX6_moveSign 51 = .ok (.iload_n 1, 1) := by decide +kernel
theorem dX6_moveSign_52 : decode cX6_moveSign 52 = .ok (.iload_n 3, 1) := by decide +kernel
theorem dX6_moveSign_53 : decode cX6_moveSign 53 = .ok (.iastore, 1) := by decide +kernel
theorem dX6_moveSign_54 : decode cX6_moveSign 54 = .ok (.iload 4, 2) := by decide +kernel
theorem dX6_moveSign_56 : decode cX6_moveSign 56 = .ok (.ireturn, 1) := by decide +kernel
set_option maxRecDepth 20000 in
theorem ggX6_setWindow_X6_demandBelow : GoodIn wsX6_setWindow wsX6_demandBelow := goodIn_ca (goodIn_r _ [6, 7, 8] (by decide +kernel) (by decide +kernel)) (goodIn_sub (fun _ h => List.mem_cons_of_mem _ (List.mem_append_right _ h)) (by decide +kernel))
set_option maxRecDepth 20000 in
theorem gX6_setWindow_X6_demandBelow : GoodIn wsX6_setWindow (va_wsS RX6 44 yX6_demandBelow wsX6_demandBelow) := goodIn_app (goodIn_of _ (by decide +kernel)) ggX6_setWindow_X6_demandBelow
set_option maxRecDepth 20000 in
theorem ggX6_setWindow_X6_demandSpan : GoodIn wsX6_setWindow wsX6_demandSpan := goodIn_ca (goodIn_r _ [11, 7, 8] (by decide +kernel) (by decide +kernel)) (goodIn_sub (fun _ h => List.mem_cons_of_mem _ (List.mem_append_right _ h)) (by decide +kernel))
set_option maxRecDepth 20000 in
theorem gX6_setWindow_X6_demandSpan : GoodIn wsX6_setWindow (va_wsS RX6 79 yX6_demandSpan wsX6_demandSpan) := goodIn_app (goodIn_of _ (by decide +kernel)) ggX6_setWindow_X6_demandSpan
set_option maxRecDepth 20000 in
theorem ggX6_setWindow_X6_saveState : GoodIn wsX6_setWindow wsX6_saveState := goodIn_r _ [15, 16, 17, 18, 1, 19, 20, 21, 22, 23, 24, 25, 26, 27, 28, 29, 30, 31, 32, 33, 34, 35, 36, 37, 38, 39, 40, 41, 42, 43, 44, 45, 46, 59, 60, 61, 62, 63, 64, 65, 66, 80, 81, 82, 83, 84, 85, 86, 87, 88, 89, 90, 91, 67, 68, 69, 70, 71, 72, 73, 74, 75, 76, 77, 78, 79] (by decide +kernel) (by decide +kernel)
set_option maxRecDepth 20000 in
theorem gX6_setWindow_X6_saveState : GoodIn wsX6_setWindow (wsV RX6 59 RX6 yX6_saveState wsX6_saveState) := goodIn_app (goodIn_of _ (by decide +kernel)) ggX6_setWindow_X6_saveState
set_option maxRecDepth 20000 in
theorem ggX6_setWindow_X3_countShown : GoodIn wsX6_setWindow wsX3_countShown := goodIn_r _ [50, 46, 51, 52, 53, 24, 54, 45, 35, 55, 56, 57, 58, 42, 43, 67, 68, 69, 70, 71, 72, 73, 74, 75, 76, 77, 78, 79] (by decide +kernel) (by decide +kernel)
set_option maxRecDepth 20000 in
theorem gX6_setWindow_X3_countShown : GoodIn wsX6_setWindow (wsV RX6 85 RX3 yX3_countShown wsX3_countShown) := goodIn_app (goodIn_of _ (by decide +kernel)) ggX6_setWindow_X3_countShown
theorem dX6_setWindow_0 : decode cX6_setWindow 0 = .ok (.iload_n 1, 1) := by decide +kernel
theorem dX6_setWindow_1 : decode cX6_setWindow 1 = .ok (.sipush 200, 3) := by decide +kernel
theorem dX6_setWindow_4 : decode cX6_setWindow 4 = .ok (.invokestatic 44, 3) := by decide +kernel
theorem dX6_setWindow_7 : decode cX6_setWindow 7 = .ok (.iload_n 2, 1) := by decide +kernel
theorem dX6_setWindow_8 : decode cX6_setWindow 8 = .ok (.sipush 200, 3) := by decide +kernel
theorem dX6_setWindow_11 : decode cX6_setWindow 11 = .ok (.invokestatic 44, 3) := by decide +kernel
theorem dX6_setWindow_14 : decode cX6_setWindow 14 = .ok (.iload_n 3, 1) := by decide +kernel
theorem dX6_setWindow_15 : decode cX6_setWindow 15 = .ok (.invokestatic 79, 3) := by decide +kernel
theorem dX6_setWindow_18 : decode cX6_setWindow 18 = .ok (.iload 4, 2) := by decide +kernel
theorem dX6_setWindow_20 : decode cX6_setWindow 20 = .ok (.invokestatic 79, 3) := by decide +kernel
theorem dX6_setWindow_23 : decode cX6_setWindow 23 = .ok (.iload 5, 2) := by decide +kernel
theorem dX6_setWindow_25 : decode cX6_setWindow 25 = .ok (.bipush 6, 2) := by decide +kernel
theorem dX6_setWindow_27 : decode cX6_setWindow 27 = .ok (.invokestatic 44, 3) := by decide +kernel
theorem dX6_setWindow_30 : decode cX6_setWindow 30 = .ok (.aload_n 0, 1) := by decide +kernel
theorem dX6_setWindow_31 : decode cX6_setWindow 31 = .ok (.invokevirtual 59, 3) := by decide +kernel
theorem dX6_setWindow_34 : decode cX6_setWindow 34 = .ok (.aload_n 0, 1) := by decide +kernel
theorem dX6_setWindow_35 : decode cX6_setWindow 35 = .ok (.getfield 10, 3) := by decide +kernel
theorem dX6_setWindow_38 : decode cX6_setWindow 38 = .ok (.getfield 82, 3) := by decide +kernel
theorem dX6_setWindow_41 : decode cX6_setWindow 41 = .ok (.iconst 0, 1) := by decide +kernel
theorem dX6_setWindow_42 : decode cX6_setWindow 42 = .ok (.iload_n 1, 1) := by decide +kernel
theorem dX6_setWindow_43 : decode cX6_setWindow 43 = .ok (.iastore, 1) := by decide +kernel
theorem dX6_setWindow_44 : decode cX6_setWindow 44 = .ok (.aload_n 0, 1) := by decide +kernel
theorem dX6_setWindow_45 : decode cX6_setWindow 45 = .ok (.getfield 10, 3) := by decide +kernel
theorem dX6_setWindow_48 : decode cX6_setWindow 48 = .ok (.getfield 82, 3) := by decide +kernel
theorem dX6_setWindow_51 : decode cX6_setWindow 51 = .ok (.iconst 1, 1) := by decide +kernel
theorem dX6_setWindow_52 : decode cX6_setWindow 52 = .ok (.iload_n 2, 1) := by decide +kernel
theorem dX6_setWindow_53 : decode cX6_setWindow 53 = .ok (.iastore, 1) := by decide +kernel
theorem dX6_setWindow_54 : decode cX6_setWindow 54 = .ok (.aload_n 0, 1) := by decide +kernel
theorem dX6_setWindow_55 : decode cX6_setWindow 55 = .ok (.getfield 10, 3) := by decide +kernel
theorem dX6_setWindow_58 : decode cX6_setWindow 58 = .ok (.getfield 82, 3) := by decide +kernel
theorem dX6_setWindow_61 : decode cX6_setWindow 61 = .ok (.iconst 2, 1) := by decide +kernel
theorem dX6_setWindow_62 : decode cX6_setWindow 62 = .ok (.iload_n 3, 1) := by decide +kernel
theorem dX6_setWindow_63 : decode cX6_setWindow 63 = .ok (.iastore, 1) := by decide +kernel
theorem dX6_setWindow_64 : decode cX6_setWindow 64 = .ok (.aload_n 0, 1) := by decide +kernel
theorem dX6_setWindow_65 : decode cX6_setWindow 65 = .ok (.getfield 10, 3) := by decide +kernel
theorem dX6_setWindow_68 : decode cX6_setWindow 68 = .ok (.getfield 82, 3) := by decide +kernel
theorem dX6_setWindow_71 : decode cX6_setWindow 71 = .ok (.iconst 3, 1) := by decide +kernel
theorem dX6_setWindow_72 : decode cX6_setWindow 72 = .ok (.iload 4, 2) := by decide +kernel
theorem dX6_setWindow_74 : decode cX6_setWindow 74 = .ok (.iastore, 1) := by decide +kernel
theorem dX6_setWindow_75 : decode cX6_setWindow 75 = .ok (.aload_n 0, 1) := by decide +kernel
theorem dX6_setWindow_76 : decode cX6_setWindow 76 = .ok (.getfield 10, 3) := by decide +kernel
theorem dX6_setWindow_79 : decode cX6_setWindow 79 = .ok (.getfield 82, 3) := by decide +kernel
theorem dX6_setWindow_82 : decode cX6_setWindow 82 = .ok (.iconst 4, 1) := by decide +kernel
theorem dX6_setWindow_83 : decode cX6_setWindow 83 = .ok (.iload 5, 2) := by decide +kernel
theorem dX6_setWindow_85 : decode cX6_setWindow 85 = .ok (.iastore, 1) := by decide +kernel
theorem dX6_setWindow_86 : decode cX6_setWindow 86 = .ok (.aload_n 0, 1) := by decide +kernel
theorem dX6_setWindow_87 : decode cX6_setWindow 87 = .ok (.getfield 10, 3) := by decide +kernel
theorem dX6_setWindow_90 : decode cX6_setWindow 90 = .ok (.invokevirtual 85, 3) := by decide +kernel
theorem dX6_setWindow_93 : decode cX6_setWindow 93 = .ok (.ireturn, 1) := by decide +kernel
set_option maxRecDepth 20000 in
theorem ggX6_set_X6_demandBelow : GoodIn wsX6_set wsX6_demandBelow := goodIn_ca (goodIn_r _ [9, 1, 2] (by decide +kernel) (by decide +kernel)) (goodIn_sub (fun _ h => List.mem_cons_of_mem _ (List.mem_append_right _ h)) (by decide +kernel))
set_option maxRecDepth 20000 in
theorem gX6_set_X6_demandBelow : GoodIn wsX6_set (va_wsS RX6 44 yX6_demandBelow wsX6_demandBelow) := goodIn_app (goodIn_of _ (by decide +kernel)) ggX6_set_X6_demandBelow
set_option maxRecDepth 20000 in
theorem ggX6_set_X6_saveState : GoodIn wsX6_set wsX6_saveState := goodIn_r _ [13, 14, 15, 16, 4, 17, 18, 19, 20, 21, 22, 23, 24, 25, 26, 27, 28, 29, 30, 31, 32, 33, 34, 35, 36, 37, 38, 39, 40, 41, 42, 43, 44, 45, 46, 47, 48, 49, 50, 51, 52, 66, 67, 68, 69, 70, 71, 72, 73, 74, 75, 76, 77, 53, 54, 55, 56, 57, 58, 59, 60, 61, 62, 63, 64, 65] (by decide +kernel) (by decide +kernel)
set_option maxRecDepth 20000 in
theorem gX6_set_X6_saveState : GoodIn wsX6_set (wsV RX6 59 RX6 yX6_saveState wsX6_saveState) := goodIn_app (goodIn_of _ (by decide +kernel)) ggX6_set_X6_saveState
theorem dX6_set_0 : decode cX6_set 0 = .ok (.iload_n 1, 1) := by decide +kernel
theorem dX6_set_1 : decode cX6_set 1 = .ok (.iconst 4, 1) := by decide +kernel
theorem dX6_set_2 : decode cX6_set 2 = .ok (.invokestatic 44, 3) := by decide +kernel
theorem dX6_set_5 : decode cX6_set 5 = .ok (.iload_n 2, 1) := by decide +kernel
theorem dX6_set_6 : decode cX6_set 6 = .ok (.iconst 1, 1) := by decide +kernel
theorem dX6_set_7 : decode cX6_set 7 = .ok (.if_icmp .lt 12, 3) := by decide +kernel
theorem dX6_set_10 : decode cX6_set 10 = .ok (.iload_n 2, 1) := by decide +kernel
theorem dX6_set_11 : decode cX6_set 11 = .ok (.getstatic 89, 3) := by decide +kernel
theorem dX6_set_14 : decode cX6_set 14 = .ok (.iload_n 1, 1) := by decide +kernel
theorem dX6_set_15 : decode cX6_set 15 = .ok (.iaload, 1) := by decide +kernel
theorem dX6_set_16 : decode cX6_set 16 = .ok (.if_icmp .le 13, 3) := by decide +kernel
theorem dX6_set_19 : decode cX6_set 19 = .ok (.new 92, 3) := by decide +kernel
theorem dX6_set_22 : decode cX6_set 22 = .ok (.dup, 1) := by decide +kernel
theorem dX6_set_23 : decode cX6_set 23 = .ok (.ldc 94, 2) := by decide +kernel
theorem dX6_set_25 : decode cX6_set 25 = .ok (.invokespecial 96, 3) := by decide +kernel
theorem dX6_set_28 : decode cX6_set 28 = .ok (.athrow, 1) := by decide +kernel
theorem dX6_set_29 : decode cX6_set 29 = .ok (.aload_n 0, 1) := by decide +kernel
theorem dX6_set_30 : decode cX6_set 30 = .ok (.invokevirtual 59, 3) := by decide +kernel
theorem dX6_set_33 : decode cX6_set 33 = .ok (.aload_n 0, 1) := by decide +kernel
theorem dX6_set_34 : decode cX6_set 34 = .ok (.getfield 10, 3) := by decide +kernel
theorem dX6_set_37 : decode cX6_set 37 = .ok (.getfield 97, 3) := by decide +kernel
theorem dX6_set_40 : decode cX6_set 40 = .ok (.iload_n 1, 1) := by decide +kernel
theorem dX6_set_41 : decode cX6_set 41 = .ok (.iaload, 1) := by decide +kernel
theorem dX6_set_42 : decode cX6_set 42 = .ok (.istore_n 3, 1) := by decide +kernel
theorem dX6_set_43 : decode cX6_set 43 = .ok (.aload_n 0, 1) := by decide +kernel
theorem dX6_set_44 : decode cX6_set 44 = .ok (.getfield 10, 3) := by decide +kernel
theorem dX6_set_47 : decode cX6_set 47 = .ok (.getfield 97, 3) := by decide +kernel
theorem dX6_set_50 : decode cX6_set 50 = .ok (.iload_n 1, 1) := by decide +kernel
theorem dX6_set_51 : decode cX6_set 51 = .ok (.iload_n 2, 1) := by decide +kernel
theorem dX6_set_52 : decode cX6_set 52 = .ok (.iastore, 1) := by decide +kernel
theorem dX6_set_53 : decode cX6_set 53 = .ok (.iload_n 3, 1) := by decide +kernel
theorem dX6_set_54 : decode cX6_set 54 = .ok (.ireturn, 1) := by decide +kernel
set_option maxRecDepth 20000 in
theorem ggX6_setKind_X6_demandKind : GoodIn wsX6_setKind wsX6_demandKind := goodIn_ca (goodIn_r _ [7, 8, 9] (by decide +kernel) (by decide +kernel)) (goodIn_sub (fun _ h => List.mem_cons_of_mem _ (List.mem_append_left _ (List.mem_append_right _ h))) (by decide +kernel))
set_option maxRecDepth 20000 in
theorem gX6_setKind_X6_demandKind : GoodIn wsX6_setKind (va_wsS RX6 40 yX6_demandKind wsX6_demandKind) := goodIn_app (goodIn_of _ (by decide +kernel)) ggX6_setKind_X6_demandKind
set_option maxRecDepth 20000 in
theorem ggX6_setKind_X6_demandBelow : GoodIn wsX6_setKind wsX6_demandBelow := goodIn_ca (goodIn_r _ [12, 13, 14] (by decide +kernel) (by decide +kernel)) (goodIn_sub (fun _ h => List.mem_cons_of_mem _ (List.mem_append_right _ h)) (by decide +kernel))
set_option maxRecDepth 20000 in
theorem gX6_setKind_X6_demandBelow : GoodIn wsX6_setKind (va_wsS RX6 44 yX6_demandBelow wsX6_demandBelow) := goodIn_app (goodIn_of _ (by decide +kernel)) ggX6_setKind_X6_demandBelow
set_option maxRecDepth 20000 in
theorem ggX6_setKind_X6_saveState : GoodIn wsX6_setKind wsX6_saveState := goodIn_r _ [18, 19, 20, 21, 1, 22, 23, 24, 25, 26, 27, 28, 29, 30, 31, 32, 33, 34, 35, 36, 37, 38, 39, 40, 41, 42, 43, 44, 45, 46, 47, 48, 49, 50, 51, 52, 53, 54, 55, 56, 57, 71, 72, 73, 74, 75, 76, 77, 78, 79, 80, 81, 82, 58, 59, 60, 61, 62, 63, 64, 65, 66, 67, 68, 69, 70] (by decide +kernel) (by decide +kernel)
set_option maxRecDepth 20000 in
theorem gX6_setKind_X6_saveState : GoodIn wsX6_setKind (wsV RX6 59 RX6 yX6_saveState wsX6_saveState) := goodIn_app (goodIn_of _ (by decide +kernel)) ggX6_setKind_X6_saveState
theorem dX6_setKind_0 : decode cX6_setKind 0 = .ok (.iload_n 1, 1) := by decide +kernel
theorem dX6_setKind_1 : decode cX6_setKind 1 = .ok (.invokestatic 40, 3) := by decide +kernel
theorem dX6_setKind_4 : decode cX6_setKind 4 = .ok (.iload_n 2, 1) := by decide +kernel
theorem dX6_setKind_5 : decode cX6_setKind 5 = .ok (.bipush 100, 2) := by decide +kernel
theorem dX6_setKind_7 : decode cX6_setKind 7 = .ok (.invokestatic 44, 3) := by decide +kernel
theorem dX6_setKind_10 : decode cX6_setKind 10 = .ok (.iload_n 3, 1) := by decide +kernel
theorem dX6_setKind_11 : decode cX6_setKind 11 = .ok (.iconst (-1), 1) := by decide +kernel
theorem dX6_setKind_12 : decode cX6_setKind 12 = .ok (.if_icmp .eq 8, 3) := by decide +kernel
theorem dX6_setKind_15 : decode cX6_setKind 15 = .ok (.iload_n 3, 1) := by decide +kernel
theorem dX6_setKind_16 : decode cX6_setKind 16 = .ok (.iconst 5, 1) := by decide +kernel
theorem dX6_setKind_17 : decode cX6_setKind 17 = .ok (.invokestatic 44, 3) := by decide +kernel
theorem dX6_setKind_20 : decode cX6_setKind 20 = .ok (.aload_n 0, 1) := by decide +kernel
theorem dX6_setKind_21 : decode cX6_setKind 21 = .ok (.invokevirtual 59, 3) := by decide +kernel
theorem dX6_setKind_24 : decode cX6_setKind 24 = .ok (.aload_n 0, 1) := by decide +kernel
theorem dX6_setKind_25 : decode cX6_setKind 25 = .ok (.getfield 10, 3) := by decide +kernel
theorem dX6_setKind_28 : decode cX6_setKind 28 = .ok (.getfield 100, 3) := by decide +kernel
theorem dX6_setKind_31 : decode cX6_setKind 31 = .ok (.iload_n 1, 1) := by decide +kernel
theorem dX6_setKind_32 : decode cX6_setKind 32 = .ok (.iaload, 1) := by decide +kernel
theorem dX6_setKind_33 : decode cX6_setKind 33 = .ok (.istore 4, 2) := by decide +kernel
theorem dX6_setKind_35 : decode cX6_setKind 35 = .ok (.aload_n 0, 1) := by decide +kernel
theorem dX6_setKind_36 : decode cX6_setKind 36 = .ok (.getfield 10, 3) := by decide +kernel
theorem dX6_setKind_39 : decode cX6_setKind 39 = .ok (.getfield 100, 3) := by decide +kernel
theorem dX6_setKind_42 : decode cX6_setKind 42 = .ok (.iload_n 1, 1) := by decide +kernel
theorem dX6_setKind_43 : decode cX6_setKind 43 = .ok (.iload_n 2, 1) := by decide +kernel
theorem dX6_setKind_44 : decode cX6_setKind 44 = .ok (.iastore, 1) := by decide +kernel
theorem dX6_setKind_45 : decode cX6_setKind 45 = .ok (.aload_n 0, 1) := by decide +kernel
theorem dX6_setKind_46 : decode cX6_setKind 46 = .ok (.getfield 10, 3) := by decide +kernel
theorem dX6_setKind_49 : decode cX6_setKind 49 = .ok (.getfield 103, 3) := by decide +kernel
theorem dX6_setKind_52 : decode cX6_setKind 52 = .ok (.iload_n 1, 1) := by decide +kernel
theorem dX6_setKind_53 : decode cX6_setKind 53 = .ok (.iload_n 3, 1) := by decide +kernel
theorem dX6_setKind_54 : decode cX6_setKind 54 = .ok (.iastore, 1) := by decide +kernel
theorem dX6_setKind_55 : decode cX6_setKind 55 = .ok (.iload 4, 2) := by decide +kernel
theorem dX6_setKind_57 : decode cX6_setKind 57 = .ok (.ireturn, 1) := by decide +kernel
set_option maxRecDepth 20000 in
theorem ggX6_setWay_X6_demandBelow : GoodIn wsX6_setWay wsX6_demandBelow := goodIn_ca (goodIn_r _ [8, 9, 10] (by decide +kernel) (by decide +kernel)) (goodIn_sub (fun _ h => List.mem_cons_of_mem _ (List.mem_append_right _ h)) (by decide +kernel))
set_option maxRecDepth 20000 in
theorem gX6_setWay_X6_demandBelow : GoodIn wsX6_setWay (va_wsS RX6 44 yX6_demandBelow wsX6_demandBelow) := goodIn_app (goodIn_of _ (by decide +kernel)) ggX6_setWay_X6_demandBelow
set_option maxRecDepth 20000 in
theorem ggX6_setWay_X6_saveState : GoodIn wsX6_setWay wsX6_saveState := goodIn_r _ [14, 15, 16, 17, 3, 18, 19, 20, 21, 22, 23, 24, 25, 26, 27, 28, 29, 30, 31, 32, 33, 34, 35, 36, 37, 38, 39, 40, 41, 42, 43, 44, 45, 46, 47, 48, 49, 50, 51, 52, 53, 67, 68, 69, 70, 71, 72, 73, 74, 75, 76, 77, 78, 54, 55, 56, 57, 58, 59, 60, 61, 62, 63, 64, 65, 66] (by decide +kernel) (by decide +kernel)
set_option maxRecDepth 20000 in
theorem gX6_setWay_X6_saveState : GoodIn wsX6_setWay (wsV RX6 59 RX6 yX6_saveState wsX6_saveState) := goodIn_app (goodIn_of _ (by decide +kernel)) ggX6_setWay_X6_saveState
theorem dX6_setWay_0 : decode cX6_setWay 0 = .ok (.iload_n 1, 1) := by decide +kernel
theorem dX6_setWay_1 : decode cX6_setWay 1 = .ok (.ifCond .lt 8, 3) := by decide +kernel
theorem dX6_setWay_4 : decode cX6_setWay 4 = .ok (.iload_n 1, 1) := by decide +kernel
theorem dX6_setWay_5 : decode cX6_setWay 5 = .ok (.iconst 5, 1) := by decide +kernel
theorem dX6_setWay_6 : decode cX6_setWay 6 = .ok (.if_icmp .lt 13, 3) := by decide +kernel
theorem dX6_setWay_9 : decode cX6_setWay 9 = .ok (.new 106, 3) := by decide +kernel
theorem dX6_setWay_12 : decode cX6_setWay 12 = .ok (.dup, 1) := by decide +kernel
theorem dX6_setWay_13 : decode cX6_setWay 13 = .ok (.ldc 108, 2) := by decide +kernel
theorem dX6_setWay_15 : decode cX6_setWay 15 = .ok (.invokespecial 110, 3) := by decide +kernel
theorem dX6_setWay_18 : decode cX6_setWay 18 = .ok (.athrow, 1) := by decide +kernel
theorem dX6_setWay_19 : decode cX6_setWay 19 = .ok (.iload_n 2, 1) := by decide +kernel
theorem dX6_setWay_20 : decode cX6_setWay 20 = .ok (.iconst 2, 1) := by decide +kernel
theorem dX6_setWay_21 : decode cX6_setWay 21 = .ok (.invokestatic 44, 3) := by decide +kernel
theorem dX6_setWay_24 : decode cX6_setWay 24 = .ok (.aload_n 0, 1) := by decide +kernel
theorem dX6_setWay_25 : decode cX6_setWay 25 = .ok (.invokevirtual 59, 3) := by decide +kernel
theorem dX6_setWay_28 : decode cX6_setWay 28 = .ok (.aload_n 0, 1) := by decide +kernel
theorem dX6_setWay_29 : decode cX6_setWay 29 = .ok (.getfield 10, 3) := by decide +kernel
theorem dX6_setWay_32 : decode cX6_setWay 32 = .ok (.getfield 111, 3) := by decide +kernel
theorem dX6_setWay_35 : decode cX6_setWay 35 = .ok (.iload_n 1, 1) := by decide +kernel
theorem dX6_setWay_36 : decode cX6_setWay 36 = .ok (.iaload, 1) := by decide +kernel
theorem dX6_setWay_37 : decode cX6_setWay 37 = .ok (.istore_n 3, 1) := by decide +kernel
theorem dX6_setWay_38 : decode cX6_setWay 38 = .ok (.aload_n 0, 1) := by decide +kernel
theorem dX6_setWay_39 : decode cX6_setWay 39 = .ok (.getfield 10, 3) := by decide +kernel
theorem dX6_setWay_42 : decode cX6_setWay 42 = .ok (.getfield 111, 3) := by decide +kernel
theorem dX6_setWay_45 : decode cX6_setWay 45 = .ok (.iload_n 1, 1) := by decide +kernel
theorem dX6_setWay_46 : decode cX6_setWay 46 = .ok (.iload_n 2, 1) := by decide +kernel
theorem dX6_setWay_47 : decode cX6_setWay 47 = .ok (.iastore, 1) := by decide +kernel
theorem dX6_setWay_48 : decode cX6_setWay 48 = .ok (.iload_n 3, 1) := by decide +kernel
theorem dX6_setWay_49 : decode cX6_setWay 49 = .ok (.ireturn, 1) := by decide +kernel
set_option maxRecDepth 20000 in
theorem ggX6_limit_X6_demandKind : GoodIn wsX6_limit wsX6_demandKind := goodIn_ca (goodIn_r _ [10, 11, 12] (by decide +kernel) (by decide +kernel)) (goodIn_sub (fun _ h => List.mem_cons_of_mem _ (List.mem_append_right _ h)) (by decide +kernel))
set_option maxRecDepth 20000 in
theorem gX6_limit_X6_demandKind : GoodIn wsX6_limit (va_wsS RX6 40 yX6_demandKind wsX6_demandKind) := goodIn_app (goodIn_of _ (by decide +kernel)) ggX6_limit_X6_demandKind
set_option maxRecDepth 20000 in
theorem ggX6_limit_X3_hasLimit : GoodIn wsX6_limit wsX3_hasLimit := goodIn_r _ [17, 18, 19, 68, 69, 70, 71, 72, 73, 74, 75, 76, 77, 78, 79, 80] (by decide +kernel) (by decide +kernel)
set_option maxRecDepth 20000 in
theorem gX6_limit_X3_hasLimit : GoodIn wsX6_limit (wsV RX6 116 RX3 yX3_hasLimit wsX3_hasLimit) := goodIn_app (goodIn_of _ (by decide +kernel)) ggX6_limit_X3_hasLimit
set_option maxRecDepth 20000 in
theorem ggX6_limit_X6_saveState : GoodIn wsX6_limit wsX6_saveState := goodIn_r _ [23, 24, 25, 26, 5, 27, 28, 29, 30, 31, 16, 32, 33, 34, 35, 36, 37, 38, 18, 19, 39, 40, 41, 42, 43, 44, 45, 46, 47, 48, 49, 50, 51, 60, 61, 62, 63, 64, 65, 66, 67, 81, 82, 83, 84, 85, 86, 87, 88, 89, 90, 91, 92, 68, 69, 70, 71, 72, 73, 74, 75, 76, 77, 78, 79, 80] (by decide +kernel) (by decide +kernel)
set_option maxRecDepth 20000 in
theorem gX6_limit_X6_saveState : GoodIn wsX6_limit (wsV RX6 59 RX6 yX6_saveState wsX6_saveState) := goodIn_app (goodIn_of _ (by decide +kernel)) ggX6_limit_X6_saveState
set_option maxRecDepth 20000 in
theorem ggX6_limit_X3_dropLimit : GoodIn wsX6_limit wsX3_dropLimit := goodIn_r _ [55, 18, 19, 68, 69, 70, 71, 72, 73, 74, 75, 76, 77, 78, 79, 80] (by decide +kernel) (by decide +kernel)
set_option maxRecDepth 20000 in
theorem gX6_limit_X3_dropLimit : GoodIn wsX6_limit (wsV RX6 125 RX3 yX3_dropLimit wsX3_dropLimit) := goodIn_app (goodIn_of _ (by decide +kernel)) ggX6_limit_X3_dropLimit
set_option maxRecDepth 20000 in
theorem ggX6_limit_X3_putLimit : GoodIn wsX6_limit wsX3_putLimit := goodIn_r _ [59, 18, 19, 68, 69, 70, 71, 72, 73, 74, 75, 76, 77, 78, 79, 80] (by decide +kernel) (by decide +kernel)
set_option maxRecDepth 20000 in
theorem gX6_limit_X3_putLimit : GoodIn wsX6_limit (wsV RX6 128 RX3 yX3_putLimit wsX3_putLimit) := goodIn_app (goodIn_of _ (by decide +kernel)) ggX6_limit_X3_putLimit
theorem dX6_limit_0 : decode cX6_limit 0 = .ok (.iload_n 1, 1) := by decide +kernel
theorem dX6_limit_1 : decode cX6_limit 1 = .ok (.invokestatic 40, 3) := by decide +kernel
theorem dX6_limit_4 : decode cX6_limit 4 = .ok (.iload_n 2, 1) := by decide +kernel
theorem dX6_limit_5 : decode cX6_limit 5 = .ok (.iconst 1, 1) := by decide +kernel
theorem dX6_limit_6 : decode cX6_limit 6 = .ok (.if_icmp .lt 10, 3) := by decide +kernel
theorem dX6_limit_9 : decode cX6_limit 9 = .ok (.iload_n 2, 1) := by decide +kernel
theorem dX6_limit_10 : decode cX6_limit 10 = .ok (.sipush 10000, 3) := by decide +kernel
theorem dX6_limit_13 : decode cX6_limit 13 = .ok (.if_icmp .lt 13, 3) := by decide +kernel
theorem dX6_limit_16 : decode cX6_limit 16 = .ok (.new 92, 3) := by decide +kernel
theorem dX6_limit_19 : decode cX6_limit 19 = .ok (.dup, 1) := by decide +kernel
theorem dX6_limit_20 : decode cX6_limit 20 = .ok (.ldc 114, 2) := by decide +kernel
theorem dX6_limit_22 : decode cX6_limit 22 = .ok (.invokespecial 96, 3) := by decide +kernel
theorem dX6_limit_25 : decode cX6_limit 25 = .ok (.athrow, 1) := by decide +kernel
theorem dX6_limit_26 : decode cX6_limit 26 = .ok (.aload_n 0, 1) := by decide +kernel
theorem dX6_limit_27 : decode cX6_limit 27 = .ok (.getfield 10, 3) := by decide +kernel
theorem dX6_limit_30 : decode cX6_limit 30 = .ok (.iload_n 1, 1) := by decide +kernel
theorem dX6_limit_31 : decode cX6_limit 31 = .ok (.iload_n 2, 1) := by decide +kernel
theorem dX6_limit_32 : decode cX6_limit 32 = .ok (.invokevirtual 116, 3) := by decide +kernel
theorem dX6_limit_35 : decode cX6_limit 35 = .ok (.istore_n 3, 1) := by decide +kernel
theorem dX6_limit_36 : decode cX6_limit 36 = .ok (.iload_n 3, 1) := by decide +kernel
theorem dX6_limit_37 : decode cX6_limit 37 = .ok (.ifCond .ne 26, 3) := by decide +kernel
theorem dX6_limit_40 : decode cX6_limit 40 = .ok (.aload_n 0, 1) := by decide +kernel
theorem dX6_limit_41 : decode cX6_limit 41 = .ok (.getfield 10, 3) := by decide +kernel
theorem dX6_limit_44 : decode cX6_limit 44 = .ok (.getfield 120, 3) := by decide +kernel
theorem dX6_limit_47 : decode cX6_limit 47 = .ok (.iload_n 1, 1) := by decide +kernel
theorem dX6_limit_48 : decode cX6_limit 48 = .ok (.iaload, 1) := by decide +kernel
theorem dX6_limit_49 : decode cX6_limit 49 = .ok (.iconst 5, 1) := by decide +kernel
theorem dX6_limit_50 : decode cX6_limit 50 = .ok (.if_icmp .lt 13, 3) := by decide +kernel
theorem dX6_limit_53 : decode cX6_limit 53 = .ok (.new 52, 3) := by decide +kernel
theorem dX6_limit_56 : decode cX6_limit 56 = .ok (.dup, 1) := by decide +kernel
theorem dX6_limit_57 : decode cX6_limit 57 = .ok (.ldc 123, 2) := by decide +kernel
theorem dX6_limit_59 : decode cX6_limit 59 = .ok (.invokespecial 56, 3) := by decide +kernel
theorem dX6_limit_62 : decode cX6_limit 62 = .ok (.athrow, 1) := by decide +kernel
theorem dX6_limit_63 : decode cX6_limit 63 = .ok (.aload_n 0, 1) := by decide +kernel
theorem dX6_limit_64 : decode cX6_limit 64 = .ok (.invokevirtual 59, 3) := by decide +kernel
theorem dX6_limit_67 : decode cX6_limit 67 = .ok (.iload_n 3, 1) := by decide +kernel
theorem dX6_limit_68 : decode cX6_limit 68 = .ok (.ifCond .eq 15, 3) := by decide +kernel
theorem dX6_limit_71 : decode cX6_limit 71 = .ok (.aload_n 0, 1) := by decide +kernel
theorem dX6_limit_72 : decode cX6_limit 72 = .ok (.getfield 10, 3) := by decide +kernel
theorem dX6_limit_75 : decode cX6_limit 75 = .ok (.iload_n 1, 1) := by decide +kernel
theorem dX6_limit_76 : decode cX6_limit 76 = .ok (.iload_n 2, 1) := by decide +kernel
theorem dX6_limit_77 : decode cX6_limit 77 = .ok (.invokevirtual 125, 3) := by decide +kernel
theorem dX6_limit_80 : decode cX6_limit 80 = .ok (.goto 12, 3) := by decide +kernel
theorem dX6_limit_83 : decode cX6_limit 83 = .ok (.aload_n 0, 1) := by decide +kernel
theorem dX6_limit_84 : decode cX6_limit 84 = .ok (.getfield 10, 3) := by decide +kernel
theorem dX6_limit_87 : decode cX6_limit 87 = .ok (.iload_n 1, 1) := by decide +kernel
theorem dX6_limit_88 : decode cX6_limit 88 = .ok (.iload_n 2, 1) := by decide +kernel
theorem dX6_limit_89 : decode cX6_limit 89 = .ok (.invokevirtual 128, 3) := by decide +kernel
theorem dX6_limit_92 : decode cX6_limit 92 = .ok (.aload_n 0, 1) := by decide +kernel
theorem dX6_limit_93 : decode cX6_limit 93 = .ok (.getfield 10, 3) := by decide +kernel
theorem dX6_limit_96 : decode cX6_limit 96 = .ok (.getfield 120, 3) := by decide +kernel
theorem dX6_limit_99 : decode cX6_limit 99 = .ok (.iload_n 1, 1) := by decide +kernel
theorem dX6_limit_100 : decode cX6_limit 100 = .ok (.iaload, 1) := by decide +kernel
theorem dX6_limit_101 : decode cX6_limit 101 = .ok (.ireturn, 1) := by decide +kernel
set_option maxRecDepth 20000 in
theorem ggX6_value_X6_demandBelow : GoodIn wsX6_value wsX6_demandBelow := goodIn_ca (goodIn_r _ [6, 7, 8] (by decide +kernel) (by decide +kernel)) (goodIn_sub (fun _ h => List.mem_cons_of_mem _ (List.mem_append_right _ h)) (by decide +kernel))
set_option maxRecDepth 20000 in
theorem gX6_value_X6_demandBelow : GoodIn wsX6_value (va_wsS RX6 44 yX6_demandBelow wsX6_demandBelow) := goodIn_app (goodIn_of _ (by decide +kernel)) ggX6_value_X6_demandBelow
set_option maxRecDepth 20000 in
theorem ggX6_value_X1_make : GoodIn wsX6_value wsX1_make := goodIn_r _ [13, 14, 15, 16, 17, 18, 19, 20, 12, 21, 22, 23, 24, 25, 26, 27, 28, 29, 30, 31, 32, 33, 34, 35, 36, 37, 38, 39, 40, 41, 42, 43, 44, 45, 46, 47, 48, 49, 50, 51, 52, 53, 54, 55, 56, 57, 58, 59, 60, 61, 62, 63, 64, 65, 66, 67, 68, 69, 70, 71, 72, 73, 74, 75, 76, 77, 78, 79, 80, 81, 82, 83, 84, 85, 86, 87, 88, 89, 90, 91, 92, 93, 94, 95, 96, 97, 98, 99, 100, 101, 102, 103, 104, 105, 106, 107, 108, 109, 110, 111, 112, 113, 114, 115, 116, 117, 118, 119, 120, 121, 122, 123, 124, 125, 126, 127, 128, 129, 130, 131, 132, 133, 134, 135, 136, 137, 138, 139, 140, 141, 142, 143, 144, 145, 146, 147, 148, 149, 150, 151, 152, 153, 154, 155, 156, 157, 158, 159, 160, 161, 162, 163, 164, 165, 166, 167, 168, 169, 170, 171, 172, 173, 174, 175, 176, 177, 178, 179, 180, 181, 182, 183, 184, 185, 186, 204, 205, 206, 207, 208, 209, 210, 211, 212, 213, 214, 215, 216, 217, 218, 219, 220, 221, 222, 223, 224, 225, 226, 227, 228, 229, 230, 231, 232, 233, 234, 235, 236, 237, 238, 239, 240, 241, 242, 243, 244, 245, 246, 247, 248, 249, 250, 251, 252, 253, 254] (by decide +kernel) (by decide +kernel)
set_option maxRecDepth 20000 in
theorem gX6_value_X1_make : GoodIn wsX6_value (wsV RX6 131 RX1 yX1_make wsX1_make) := goodIn_app (goodIn_of _ (by decide +kernel)) ggX6_value_X1_make
set_option maxRecDepth 20000 in
theorem ggX6_value_X6_numberOf : GoodIn wsX6_value wsX6_numberOf := goodIn_r _ [190, 2, 191, 192, 193, 1, 194, 195, 196, 197, 198, 199, 200, 201, 202, 203, 216, 217, 218, 219, 220, 221, 222, 223, 224, 225, 226, 227, 228, 204, 205, 206, 207, 208, 209, 210, 211, 212, 213, 214, 215] (by decide +kernel) (by decide +kernel)
set_option maxRecDepth 20000 in
theorem gX6_value_X6_numberOf : GoodIn wsX6_value (wsV RX6 135 RX6 yX6_numberOf wsX6_numberOf) := goodIn_app (goodIn_of _ (by decide +kernel)) ggX6_value_X6_numberOf
theorem dX6_value_0 : decode cX6_value 0 = .ok (.iload_n 1, 1) := by decide +kernel
theorem dX6_value_1 : decode cX6_value 1 = .ok (.bipush 12, 2) := by decide +kernel
theorem dX6_value_3 : decode cX6_value 3 = .ok (.invokestatic 44, 3) := by decide +kernel
theorem dX6_value_6 : decode cX6_value 6 = .ok (.aload_n 0, 1) := by decide +kernel
theorem dX6_value_7 : decode cX6_value 7 = .ok (.getfield 19, 3) := by decide +kernel
theorem dX6_value_10 : decode cX6_value 10 = .ok (.aload_n 0, 1) := by decide +kernel
theorem dX6_value_11 : decode cX6_value 11 = .ok (.getfield 10, 3) := by decide +kernel
theorem dX6_value_14 : decode cX6_value 14 = .ok (.invokevirtual 131, 3) := by decide +kernel
theorem dX6_value_17 : decode cX6_value 17 = .ok (.aload_n 0, 1) := by decide +kernel
theorem dX6_value_18 : decode cX6_value 18 = .ok (.iload_n 1, 1) := by decide +kernel
theorem dX6_value_19 : decode cX6_value 19 = .ok (.invokevirtual 135, 3) := by decide +kernel
theorem dX6_value_22 : decode cX6_value 22 = .ok (.ireturn, 1) := by decide +kernel
set_option maxRecDepth 20000 in
theorem ggX6_sign_X6_demandSign : GoodIn wsX6_sign wsX6_demandSign := goodIn_ca (goodIn_r _ [7, 8, 9, 2, 10, 218, 219, 220, 221, 222, 223, 224, 225, 226, 227, 228, 229, 230, 231, 232, 233, 234, 235, 236, 237, 238] (by decide +kernel) (by decide +kernel)) (goodIn_sub (fun _ h => List.mem_cons_of_mem _ (List.mem_append_left _ (List.mem_append_right _ h))) (by decide +kernel))
set_option maxRecDepth 20000 in
theorem gX6_sign_X6_demandSign : GoodIn wsX6_sign (wsV RX6 66 RX6 yX6_demandSign wsX6_demandSign) := goodIn_app (goodIn_of _ (by decide +kernel)) ggX6_sign_X6_demandSign
set_option maxRecDepth 20000 in
theorem ggX6_sign_X6_demandBelow : GoodIn wsX6_sign wsX6_demandBelow := goodIn_ca (goodIn_r _ [13, 14, 15] (by decide +kernel) (by decide +kernel)) (goodIn_sub (fun _ h => List.mem_cons_of_mem _ (List.mem_append_right _ h)) (by decide +kernel))
set_option maxRecDepth 20000 in
theorem gX6_sign_X6_demandBelow : GoodIn wsX6_sign (va_wsS RX6 44 yX6_demandBelow wsX6_demandBelow) := goodIn_app (goodIn_of _ (by decide +kernel)) ggX6_sign_X6_demandBelow
set_option maxRecDepth 20000 in
theorem ggX6_sign_X1_make : GoodIn wsX6_sign wsX1_make := goodIn_r _ [20, 21, 22, 23, 24, 25, 26, 27, 19, 28, 29, 30, 31, 32, 33, 34, 35, 36, 37, 38, 39, 40, 41, 42, 43, 44, 45, 46, 47, 48, 49, 50, 51, 52, 53, 54, 55, 56, 57, 58, 59, 60, 61, 62, 63, 64, 65, 66, 67, 68, 69, 70, 71, 72, 73, 74, 75, 76, 77, 78, 79, 80, 81, 82, 83, 84, 85, 86, 87, 88, 89, 90, 91, 92, 93, 94, 95, 96, 97, 98, 99, 100, 101, 102, 103, 104, 105, 106, 107, 108, 109, 110, 111, 112, 113, 114, 115, 116, 117, 118, 119, 120, 121, 122, 123, 124, 125, 126, 127, 128, 129, 130, 131, 132, 133, 134, 135, 136, 137, 138, 139, 140, 141, 142, 143, 144, 145, 146, 147, 148, 149, 150, 151, 152, 153, 154, 155, 156, 157, 158, 159, 160, 161, 162, 163, 164, 165, 166, 167, 168, 169, 170, 171, 172, 173, 174, 175, 176, 177, 178, 179, 180, 181, 182, 183, 184, 185, 186, 187, 188, 189, 190, 191, 192, 193, 239, 240, 241, 242, 243, 244, 245, 246, 247, 248, 249, 250, 226, 227, 228, 229, 230, 231, 232, 233, 234, 235, 236, 237, 238, 251, 252, 253, 254, 255, 256, 257, 258, 259, 260, 261, 262, 263, 264, 265, 266, 267, 268, 269, 270, 271, 272, 273, 274, 275, 276] (by decide +kernel) (by decide +kernel)
set_option maxRecDepth 20000 in
theorem gX6_sign_X1_make : GoodIn wsX6_sign (wsV RX6 131 RX1 yX1_make wsX1_make) := goodIn_app (goodIn_of _ (by decide +kernel)) ggX6_sign_X1_make
set_option maxRecDepth 20000 in
theorem ggX6_sign_X6_signFact : GoodIn wsX6_sign wsX6_signFact := goodIn_r _ [197, 2, 198, 199, 200, 201, 202, 1, 203, 204, 205, 104, 105, 35, 106, 107, 108, 109, 110, 206, 207, 208, 19, 209, 24, 210, 67, 71, 211, 212, 213, 214, 215, 216, 217, 218, 219, 220, 221, 222, 223, 224, 225, 226, 227, 228, 229, 230, 231, 232, 233, 234, 235, 236, 237, 238, 239, 240, 241, 242, 243, 244, 245, 246, 247, 248, 249, 250, 257, 258, 259, 260, 261, 262, 263, 264, 265, 266, 267, 268, 269, 270] (by decide +kernel) (by decide +kernel)
set_option maxRecDepth 20000 in
theorem gX6_sign_X6_signFact : GoodIn wsX6_sign (wsV RX6 139 RX6 yX6_signFact wsX6_signFact) := goodIn_app (goodIn_of _ (by decide +kernel)) ggX6_sign_X6_signFact
theorem dX6_sign_0 : decode cX6_sign 0 = .ok (.aload_n 0, 1) := by decide +kernel
theorem dX6_sign_1 : decode cX6_sign 1 = .ok (.iload_n 1, 1) := by decide +kernel
theorem dX6_sign_2 : decode cX6_sign 2 = .ok (.invokevirtual 66, 3) := by decide +kernel
theorem dX6_sign_5 : decode cX6_sign 5 = .ok (.iload_n 2, 1) := by decide +kernel
theorem dX6_sign_6 : decode cX6_sign 6 = .ok (.bipush 9, 2) := by decide +kernel
theorem dX6_sign_8 : decode cX6_sign 8 = .ok (.invokestatic 44, 3) := by decide +kernel
theorem dX6_sign_11 : decode cX6_sign 11 = .ok (.aload_n 0, 1) := by decide +kernel
theorem dX6_sign_12 : decode cX6_sign 12 = .ok (.getfield 19, 3) := by decide +kernel
theorem dX6_sign_15 : decode cX6_sign 15 = .ok (.aload_n 0, 1) := by decide +kernel
theorem dX6_sign_16 : decode cX6_sign 16 = .ok (.getfield 10, 3) := by decide +kernel
theorem dX6_sign_19 : decode cX6_sign 19 = .ok (.invokevirtual 131, 3) := by decide +kernel
theorem dX6_sign_22 : decode cX6_sign 22 = .ok (.aload_n 0, 1) := by decide +kernel
theorem dX6_sign_23 : decode cX6_sign 23 = .ok (.iload_n 1, 1) := by decide +kernel
theorem dX6_sign_24 : decode cX6_sign 24 = .ok (.iload_n 2, 1) := by decide +kernel
theorem dX6_sign_25 : decode cX6_sign 25 = .ok (.invokevirtual 139, 3) := by decide +kernel
theorem dX6_sign_28 : decode cX6_sign 28 = .ok (.ireturn, 1) := by decide +kernel
set_option maxRecDepth 20000 in
theorem ggX6_kind_X6_demandKind : GoodIn wsX6_kind wsX6_demandKind := goodIn_ca (goodIn_r _ [6, 7, 8] (by decide +kernel) (by decide +kernel)) (goodIn_sub (fun _ h => List.mem_cons_of_mem _ (List.mem_append_left _ (List.mem_append_right _ h))) (by decide +kernel))
set_option maxRecDepth 20000 in
theorem gX6_kind_X6_demandKind : GoodIn wsX6_kind (va_wsS RX6 40 yX6_demandKind wsX6_demandKind) := goodIn_app (goodIn_of _ (by decide +kernel)) ggX6_kind_X6_demandKind
set_option maxRecDepth 20000 in
theorem ggX6_kind_X6_demandBelow : GoodIn wsX6_kind wsX6_demandBelow := goodIn_ca (goodIn_r _ [11, 12, 13] (by decide +kernel) (by decide +kernel)) (goodIn_sub (fun _ h => List.mem_cons_of_mem _ (List.mem_append_right _ h)) (by decide +kernel))
set_option maxRecDepth 20000 in
theorem gX6_kind_X6_demandBelow : GoodIn wsX6_kind (va_wsS RX6 44 yX6_demandBelow wsX6_demandBelow) := goodIn_app (goodIn_of _ (by decide +kernel)) ggX6_kind_X6_demandBelow
set_option maxRecDepth 20000 in
theorem ggX6_kind_X1_make : GoodIn wsX6_kind wsX1_make := goodIn_r _ [18, 19, 20, 21, 22, 23, 24, 25, 17, 26, 27, 28, 29, 30, 31, 32, 33, 34, 35, 36, 37, 38, 39, 40, 41, 42, 43, 44, 45, 46, 47, 48, 49, 50, 51, 52, 53, 54, 55, 56, 57, 58, 59, 60, 61, 62, 63, 64, 65, 66, 67, 68, 69, 70, 71, 72, 73, 74, 75, 76, 77, 78, 79, 80, 81, 82, 83, 84, 85, 86, 87, 88, 89, 90, 91, 92, 93, 94, 95, 96, 97, 98, 99, 100, 101, 102, 103, 104, 105, 106, 107, 108, 109, 110, 111, 112, 113, 114, 115, 116, 117, 118, 119, 120, 121, 122, 123, 124, 125, 126, 127, 128, 129, 130, 131, 132, 133, 134, 135, 136, 137, 138, 139, 140, 141, 142, 143, 144, 145, 146, 147, 148, 149, 150, 151, 152, 153, 154, 155, 156, 157, 158, 159, 160, 161, 162, 163, 164, 165, 166, 167, 168, 169, 170, 171, 172, 173, 174, 175, 176, 177, 178, 179, 180, 181, 182, 183, 184, 185, 186, 187, 188, 189, 190, 191, 218, 219, 220, 221, 222, 223, 224, 225, 226, 227, 228, 229, 230, 231, 232, 233, 234, 235, 236, 237, 238, 239, 240, 241, 242, 243, 244, 245, 246, 247, 248, 249, 250, 251, 252, 253, 254, 255, 256, 257, 258, 259, 260, 261, 262, 263, 264, 265, 266, 267, 268] (by decide +kernel) (by decide +kernel)
set_option maxRecDepth 20000 in
theorem gX6_kind_X1_make : GoodIn wsX6_kind (wsV RX6 131 RX1 yX1_make wsX1_make) := goodIn_app (goodIn_of _ (by decide +kernel)) ggX6_kind_X1_make
set_option maxRecDepth 20000 in
theorem ggX6_kind_X6_kindFact : GoodIn wsX6_kind wsX6_kindFact := goodIn_r _ [195, 2, 196, 197, 198, 1, 199, 200, 201, 202, 203, 204, 74, 205, 76, 77, 78, 206, 207, 208, 33, 209, 106, 107, 210, 211, 212, 213, 214, 215, 216, 217, 230, 231, 232, 233, 234, 235, 236, 237, 238, 239, 240, 241, 242, 218, 219, 220, 221, 222, 223, 224, 225, 226, 227, 228, 229, 263, 264, 265, 266, 267, 268, 249, 250, 251, 252, 253, 254, 255, 256, 257, 258, 259, 260, 261, 262] (by decide +kernel) (by decide +kernel)
set_option maxRecDepth 20000 in
theorem gX6_kind_X6_kindFact : GoodIn wsX6_kind (wsV RX6 143 RX6 yX6_kindFact wsX6_kindFact) := goodIn_app (goodIn_of _ (by decide +kernel)) ggX6_kind_X6_kindFact
theorem dX6_kind_0 : decode cX6_kind 0 = .ok (.iload_n 1, 1) := by decide +kernel
theorem dX6_kind_1 : decode cX6_kind 1 = .ok (.invokestatic 40, 3) := by decide +kernel
theorem dX6_kind_4 : decode cX6_kind 4 = .ok (.iload_n 2, 1) := by decide +kernel
theorem dX6_kind_5 : decode cX6_kind 5 = .ok (.bipush 10, 2) := by decide +kernel
theorem dX6_kind_7 : decode cX6_kind 7 = .ok (.invokestatic 44, 3) := by decide +kernel
theorem dX6_kind_10 : decode cX6_kind 10 = .ok (.aload_n 0, 1) := by decide +kernel
theorem dX6_kind_11 : decode cX6_kind 11 = .ok (.getfield 19, 3) := by decide +kernel
theorem dX6_kind_14 : decode cX6_kind 14 = .ok (.aload_n 0, 1) := by decide +kernel
theorem dX6_kind_15 : decode cX6_kind 15 = .ok (.getfield 10, 3) := by decide +kernel
theorem dX6_kind_18 : decode cX6_kind 18 = .ok (.invokevirtual 131, 3) := by decide +kernel
theorem dX6_kind_21 : decode cX6_kind 21 = .ok (.aload_n 0, 1) := by decide +kernel
theorem dX6_kind_22 : decode cX6_kind 22 = .ok (.iload_n 1, 1) := by decide +kernel
theorem dX6_kind_23 : decode cX6_kind 23 = .ok (.iload_n 2, 1) := by decide +kernel
theorem dX6_kind_24 : decode cX6_kind 24 = .ok (.invokevirtual 143, 3) := by decide +kernel
theorem dX6_kind_27 : decode cX6_kind 27 = .ok (.ireturn, 1) := by decide +kernel
set_option maxRecDepth 20000 in
theorem ggX6_lines_X1_make : GoodIn wsX6_lines wsX1_make := goodIn_r _ [9, 10, 11, 12, 13, 14, 15, 16, 8, 17, 18, 19, 20, 21, 22, 23, 24, 25, 26, 27, 28, 29, 30, 31, 32, 33, 34, 35, 36, 37, 38, 39, 40, 41, 42, 43, 44, 45, 46, 47, 48, 49, 50, 51, 52, 53, 54, 55, 56, 57, 58, 59, 60, 61, 62, 63, 64, 65, 66, 67, 68, 69, 70, 71, 72, 73, 74, 75, 76, 77, 78, 79, 80, 81, 82, 83, 84, 85, 86, 87, 88, 89, 90, 91, 92, 93, 94, 95, 96, 97, 98, 99, 100, 101, 102, 103, 104, 105, 106, 107, 108, 109, 110, 111, 112, 113, 114, 115, 116, 117, 118, 119, 120, 121, 122, 123, 124, 125, 126, 127, 128, 129, 130, 131, 132, 133, 134, 135, 136, 137, 138, 139, 140, 141, 142, 143, 144, 145, 146, 147, 148, 149, 150, 151, 152, 153, 154, 155, 156, 157, 158, 159, 160, 161, 162, 163, 164, 165, 166, 167, 168, 169, 170, 171, 172, 173, 174, 175, 176, 177, 178, 179, 180, 181, 182, 191, 192, 193, 194, 195, 196, 197, 198, 199, 200, 201, 202, 217, 218, 219, 220, 221, 222, 223, 224, 225, 226, 227, 228, 229, 230, 231, 232, 233, 234, 235, 203, 204, 205, 206, 207, 208, 209, 210, 211, 212, 213, 214, 215, 216, 236, 237, 238, 239, 240, 241] (by decide +kernel) (by decide +kernel)
set_option maxRecDepth 20000 in
theorem gX6_lines_X1_make : GoodIn wsX6_lines (wsV RX6 131 RX1 yX1_make wsX1_make) := goodIn_app (goodIn_of _ (by decide +kernel)) ggX6_lines_X1_make
theorem dX6_lines_0 : decode cX6_lines 0 = .ok (.aload_n 0, 1) := by decide +kernel
theorem dX6_lines_1 : decode cX6_lines 1 = .ok (.getfield 19, 3) := by decide +kernel
theorem dX6_lines_4 : decode cX6_lines 4 = .ok (.aload_n 0, 1) := by decide +kernel
theorem dX6_lines_5 : decode cX6_lines 5 = .ok (.getfield 10, 3) := by decide +kernel
theorem dX6_lines_8 : decode cX6_lines 8 = .ok (.invokevirtual 131, 3) := by decide +kernel
theorem dX6_lines_11 : decode cX6_lines 11 = .ok (.aload_n 0, 1) := by decide +kernel
theorem dX6_lines_12 : decode cX6_lines 12 = .ok (.getfield 19, 3) := by decide +kernel
theorem dX6_lines_15 : decode cX6_lines 15 = .ok (.getfield 146, 3) := by decide +kernel
theorem dX6_lines_18 : decode cX6_lines 18 = .ok (.getfield 150, 3) := by decide +kernel
theorem dX6_lines_21 : decode cX6_lines 21 = .ok (.ireturn, 1) := by decide +kernel
set_option maxRecDepth 20000 in
theorem ggX6_line_X1_make : GoodIn wsX6_line wsX1_make := goodIn_r _ [11, 12, 13, 14, 15, 16, 17, 18, 10, 19, 20, 21, 22, 23, 24, 25, 26, 27, 28, 29, 30, 31, 32, 33, 34, 35, 36, 37, 38, 39, 40, 41, 42, 43, 44, 45, 46, 47, 48, 49, 50, 51, 52, 53, 54, 55, 56, 57, 58, 59, 60, 61, 62, 63, 64, 65, 66, 67, 68, 69, 70, 71, 72, 73, 74, 75, 76, 77, 78, 79, 80, 81, 82, 83, 84, 85, 86, 87, 88, 89, 90, 91, 92, 93, 94, 95, 96, 97, 98, 99, 100, 101, 102, 103, 104, 105, 106, 107, 108, 109, 110, 111, 112, 113, 114, 115, 116, 117, 118, 119, 120, 121, 122, 123, 124, 125, 126, 127, 128, 129, 130, 131, 132, 133, 134, 135, 136, 137, 138, 139, 140, 141, 142, 143, 144, 145, 146, 147, 148, 149, 150, 151, 152, 153, 154, 155, 156, 157, 158, 159, 160, 161, 162, 163, 164, 165, 166, 167, 168, 169, 170, 171, 172, 173, 174, 175, 176, 177, 178, 179, 180, 181, 182, 183, 184, 203, 204, 205, 206, 207, 208, 209, 210, 211, 212, 213, 214, 229, 230, 231, 232, 233, 234, 235, 236, 237, 238, 239, 240, 241, 242, 243, 244, 245, 246, 247, 215, 216, 217, 218, 219, 220, 221, 222, 223, 224, 225, 226, 227, 228, 248, 249, 250, 251, 252, 253] (by decide +kernel) (by decide +kernel)
set_option maxRecDepth 20000 in
theorem gX6_line_X1_make : GoodIn wsX6_line (wsV RX6 131 RX1 yX1_make wsX1_make) := goodIn_app (goodIn_of _ (by decide +kernel)) ggX6_line_X1_make
set_option maxRecDepth 20000 in
theorem ggX6_line_X6_demandBelow : GoodIn wsX6_line wsX6_demandBelow := goodIn_ca (goodIn_r _ [188, 189, 190] (by decide +kernel) (by decide +kernel)) (goodIn_sub (fun _ h => List.mem_cons_of_mem _ (List.mem_append_right _ h)) (by decide +kernel))
set_option maxRecDepth 20000 in
theorem gX6_line_X6_demandBelow : GoodIn wsX6_line (va_wsS RX6 44 yX6_demandBelow wsX6_demandBelow) := goodIn_app (goodIn_of _ (by decide +kernel)) ggX6_line_X6_demandBelow
set_option maxRecDepth 20000 in
theorem ggX6_line_X2_fact : GoodIn wsX6_line wsX2_fact := goodIn_r _ [194, 69, 70, 71, 72, 73, 74, 138, 150, 151, 215, 216, 217, 218, 219, 220, 221, 222, 223, 224, 225, 226, 227, 228] (by decide +kernel) (by decide +kernel)
set_option maxRecDepth 20000 in
theorem gX6_line_X2_fact : GoodIn wsX6_line (wsV RX6 157 RX2 yX2_fact wsX2_fact) := goodIn_app (goodIn_of _ (by decide +kernel)) ggX6_line_X2_fact
theorem dX6_line_0 : decode cX6_line 0 = .ok (.aload_n 0, 1) := by decide +kernel
theorem dX6_line_1 : decode cX6_line 1 = .ok (.getfield 19, 3) := by decide +kernel
theorem dX6_line_4 : decode cX6_line 4 = .ok (.aload_n 0, 1) := by decide +kernel
theorem dX6_line_5 : decode cX6_line 5 = .ok (.getfield 10, 3) := by decide +kernel
theorem dX6_line_8 : decode cX6_line 8 = .ok (.invokevirtual 131, 3) := by decide +kernel
theorem dX6_line_11 : decode cX6_line 11 = .ok (.iload_n 1, 1) := by decide +kernel
theorem dX6_line_12 : decode cX6_line 12 = .ok (.ifCond .lt 17, 3) := by decide +kernel
theorem dX6_line_15 : decode cX6_line 15 = .ok (.iload_n 1, 1) := by decide +kernel
theorem dX6_line_16 : decode cX6_line 16 = .ok (.aload_n 0, 1) := by decide +kernel
theorem dX6_line_17 : decode cX6_line 17 = .ok (.getfield 19, 3) := by decide +kernel
theorem dX6_line_20 : decode cX6_line 20 = .ok (.getfield 146, 3) := by decide +kernel
theorem dX6_line_23 : decode cX6_line 23 = .ok (.getfield 150, 3) := by decide +kernel
theorem dX6_line_26 : decode cX6_line 26 = .ok (.if_icmp .lt 13, 3) := by decide +kernel
theorem dX6_line_29 : decode cX6_line 29 = .ok (.new 106, 3) := by decide +kernel
theorem dX6_line_32 : decode cX6_line 32 = .ok (.dup, 1) := by decide +kernel
theorem dX6_line_33 : decode cX6_line 33 = .ok (.ldc 155, 2) := by decide +kernel
theorem dX6_line_35 : decode cX6_line 35 = .ok (.invokespecial 110, 3) := by decide +kernel
theorem dX6_line_38 : decode cX6_line 38 = .ok (.athrow, 1) := by decide +kernel
theorem dX6_line_39 : decode cX6_line 39 = .ok (.iload_n 2, 1) := by decide +kernel
theorem dX6_line_40 : decode cX6_line 40 = .ok (.bipush 8, 2) := by decide +kernel
theorem dX6_line_42 : decode cX6_line 42 = .ok (.invokestatic 44, 3) := by decide +kernel
theorem dX6_line_45 : decode cX6_line 45 = .ok (.aload_n 0, 1) := by decide +kernel
theorem dX6_line_46 : decode cX6_line 46 = .ok (.getfield 19, 3) := by decide +kernel
theorem dX6_line_49 : decode cX6_line 49 = .ok (.getfield 146, 3) := by decide +kernel
theorem dX6_line_52 : decode cX6_line 52 = .ok (.iload_n 1, 1) := by decide +kernel
theorem dX6_line_53 : decode cX6_line 53 = .ok (.iload_n 2, 1) := by decide +kernel
theorem dX6_line_54 : decode cX6_line 54 = .ok (.invokevirtual 157, 3) := by decide +kernel
theorem dX6_line_57 : decode cX6_line 57 = .ok (.ireturn, 1) := by decide +kernel
set_option maxRecDepth 20000 in
theorem ggX6_box_X6_demandBelow : GoodIn wsX6_box wsX6_demandBelow := goodIn_ca (goodIn_r _ [7, 8, 9] (by decide +kernel) (by decide +kernel)) (goodIn_sub (fun _ h => List.mem_cons_of_mem _ (List.mem_append_right _ h)) (by decide +kernel))
set_option maxRecDepth 20000 in
theorem gX6_box_X6_demandBelow : GoodIn wsX6_box (va_wsS RX6 44 yX6_demandBelow wsX6_demandBelow) := goodIn_app (goodIn_of _ (by decide +kernel)) ggX6_box_X6_demandBelow
set_option maxRecDepth 20000 in
theorem ggX6_box_X1_make : GoodIn wsX6_box wsX1_make := goodIn_r _ [14, 15, 16, 17, 18, 19, 20, 21, 13, 22, 23, 24, 25, 26, 27, 28, 29, 30, 31, 32, 33, 34, 35, 36, 37, 38, 39, 40, 41, 42, 43, 44, 45, 46, 47, 48, 49, 50, 51, 52, 53, 54, 55, 56, 57, 58, 59, 60, 61, 62, 63, 64, 65, 66, 67, 68, 69, 70, 71, 72, 73, 74, 75, 76, 77, 78, 79, 80, 81, 82, 83, 84, 85, 86, 87, 88, 89, 90, 91, 92, 93, 94, 95, 96, 97, 98, 99, 100, 101, 102, 103, 104, 105, 106, 107, 108, 109, 110, 111, 112, 113, 114, 115, 116, 117, 118, 119, 120, 121, 122, 123, 124, 125, 126, 127, 128, 129, 130, 131, 132, 133, 134, 135, 136, 137, 138, 139, 140, 141, 142, 143, 144, 145, 146, 147, 148, 149, 150, 151, 152, 153, 154, 155, 156, 157, 158, 159, 160, 161, 162, 163, 164, 165, 166, 167, 168, 169, 170, 171, 172, 173, 174, 175, 176, 177, 178, 179, 180, 181, 182, 183, 184, 185, 186, 187, 200, 201, 202, 203, 204, 205, 206, 207, 208, 209, 210, 211, 212, 213, 214, 215, 216, 217, 218, 219, 220, 221, 222, 223, 224, 225, 226, 227, 228, 229, 230, 231, 232, 233, 234, 235, 236, 237, 238, 239, 240, 241, 242, 243, 244, 245, 246, 247, 248, 249, 250] (by decide +kernel) (by decide +kernel)
set_option maxRecDepth 20000 in
theorem gX6_box_X1_make : GoodIn wsX6_box (wsV RX6 131 RX1 yX1_make wsX1_make) := goodIn_app (goodIn_of _ (by decide +kernel)) ggX6_box_X1_make
set_option maxRecDepth 20000 in
theorem ggX6_box_X0_fact : GoodIn wsX6_box wsX0_fact := goodIn_r _ [191, 53, 50, 52, 54, 55, 169, 225, 226, 227, 228, 229, 230] (by decide +kernel) (by decide +kernel)
set_option maxRecDepth 20000 in
theorem gX6_box_X0_fact : GoodIn wsX6_box (wsV RX6 164 RX0 yX0_fact wsX0_fact) := goodIn_app (goodIn_of _ (by decide +kernel)) ggX6_box_X0_fact
theorem dX6_box_0 : decode cX6_box 0 = .ok (.iload_n 1, 1) := by decide +kernel
theorem dX6_box_1 : decode cX6_box 1 = .ok (.bipush 6, 2) := by decide +kernel
theorem dX6_box_3 : decode cX6_box 3 = .ok (.invokestatic 44, 3) := by decide +kernel
theorem dX6_box_6 : decode cX6_box 6 = .ok (.aload_n 0, 1) := by decide +kernel
theorem dX6_box_7 : decode cX6_box 7 = .ok (.getfield 19, 3) := by decide +kernel
theorem dX6_box_10 : decode cX6_box 10 = .ok (.aload_n 0, 1) := by decide +kernel
theorem dX6_box_11 : decode cX6_box 11 = .ok (.getfield 10, 3) := by decide +kernel
theorem dX6_box_14 : decode cX6_box 14 = .ok (.invokevirtual 131, 3) := by decide +kernel
theorem dX6_box_17 : decode cX6_box 17 = .ok (.aload_n 0, 1) := by decide +kernel
theorem dX6_box_18 : decode cX6_box 18 = .ok (.getfield 19, 3) := by decide +kernel
theorem dX6_box_21 : decode cX6_box 21 = .ok (.getfield 160, 3) := by decide +kernel
theorem dX6_box_24 : decode cX6_box 24 = .ok (.iload_n 1, 1) := by decide +kernel
theorem dX6_box_25 : decode cX6_box 25 = .ok (.invokevirtual 164, 3) := by decide +kernel
theorem dX6_box_28 : decode cX6_box 28 = .ok (.ireturn, 1) := by decide +kernel
set_option maxRecDepth 20000 in
theorem ggX6_rounds_X6_demandBelow : GoodIn wsX6_rounds wsX6_demandBelow := goodIn_ca (goodIn_r _ [6, 7, 8] (by decide +kernel) (by decide +kernel)) (goodIn_sub (fun _ h => List.mem_cons_of_mem _ (List.mem_append_right _ h)) (by decide +kernel))
set_option maxRecDepth 20000 in
theorem gX6_rounds_X6_demandBelow : GoodIn wsX6_rounds (va_wsS RX6 44 yX6_demandBelow wsX6_demandBelow) := goodIn_app (goodIn_of _ (by decide +kernel)) ggX6_rounds_X6_demandBelow
set_option maxRecDepth 20000 in
theorem ggX6_rounds_X1_make : GoodIn wsX6_rounds wsX1_make := goodIn_r _ [13, 14, 15, 16, 17, 18, 19, 20, 12, 21, 22, 23, 24, 25, 26, 27, 28, 29, 30, 31, 32, 33, 34, 35, 36, 37, 38, 39, 40, 41, 42, 43, 44, 45, 46, 47, 48, 49, 50, 51, 52, 53, 54, 55, 56, 57, 58, 59, 60, 61, 62, 63, 64, 65, 66, 67, 68, 69, 70, 71, 72, 73, 74, 75, 76, 77, 78, 79, 80, 81, 82, 83, 84, 85, 86, 87, 88, 89, 90, 91, 92, 93, 94, 95, 96, 97, 98, 99, 100, 101, 102, 103, 104, 105, 106, 107, 108, 109, 110, 111, 112, 113, 114, 115, 116, 117, 118, 119, 120, 121, 122, 123, 124, 125, 126, 127, 128, 129, 130, 131, 132, 133, 134, 135, 136, 137, 138, 139, 140, 141, 142, 143, 144, 145, 146, 147, 148, 149, 150, 151, 152, 153, 154, 155, 156, 157, 158, 159, 160, 161, 162, 163, 164, 165, 166, 167, 168, 169, 170, 171, 172, 173, 174, 175, 176, 177, 178, 179, 180, 181, 182, 183, 184, 185, 186, 206, 207, 208, 209, 210, 211, 212, 213, 214, 215, 216, 217, 218, 219, 220, 221, 222, 223, 224, 225, 226, 227, 228, 229, 230, 231, 232, 233, 234, 235, 236, 237, 238, 239, 240, 241, 242, 243, 244, 245, 246, 247, 248, 249, 250, 251, 252, 253, 254, 255, 256] (by decide +kernel) (by decide +kernel)
set_option maxRecDepth 20000 in
theorem gX6_rounds_X1_make : GoodIn wsX6_rounds (wsV RX6 131 RX1 yX1_make wsX1_make) := goodIn_app (goodIn_of _ (by decide +kernel)) ggX6_rounds_X1_make
set_option maxRecDepth 20000 in
theorem ggX6_rounds_X6_roundFact : GoodIn wsX6_rounds wsX6_roundFact := goodIn_r _ [190, 1, 191, 192, 2, 193, 194, 195, 12, 196, 42, 17, 197, 178, 179, 46, 180, 181, 182, 44, 45, 47, 48, 49, 50, 51, 52, 53, 54, 198, 199, 200, 201, 202, 203, 204, 205, 206, 207, 208, 209, 210, 211, 212, 213, 214, 215, 216, 217, 218, 219, 220, 221, 222, 223, 224, 225, 226, 227, 228, 229, 230, 231, 232, 233, 234, 235, 236] (by decide +kernel) (by decide +kernel)
set_option maxRecDepth 20000 in
theorem gX6_rounds_X6_roundFact : GoodIn wsX6_rounds (wsV RX6 168 RX6 yX6_roundFact wsX6_roundFact) := goodIn_app (goodIn_of _ (by decide +kernel)) ggX6_rounds_X6_roundFact
theorem dX6_rounds_0 : decode cX6_rounds 0 = .ok (.iload_n 1, 1) := by decide +kernel
theorem dX6_rounds_1 : decode cX6_rounds 1 = .ok (.iconst 3, 1) := by decide +kernel
theorem dX6_rounds_2 : decode cX6_rounds 2 = .ok (.invokestatic 44, 3) := by decide +kernel
theorem dX6_rounds_5 : decode cX6_rounds 5 = .ok (.aload_n 0, 1) := by decide +kernel
theorem dX6_rounds_6 : decode cX6_rounds 6 = .ok (.getfield 19, 3) := by decide +kernel
theorem dX6_rounds_9 : decode cX6_rounds 9 = .ok (.aload_n 0, 1) := by decide +kernel
theorem dX6_rounds_10 : decode cX6_rounds 10 = .ok (.getfield 10, 3) := by decide +kernel
theorem dX6_rounds_13 : decode cX6_rounds 13 = .ok (.invokevirtual 131, 3) := by decide +kernel
theorem dX6_rounds_16 : decode cX6_rounds 16 = .ok (.aload_n 0, 1) := by decide +kernel
theorem dX6_rounds_17 : decode cX6_rounds 17 = .ok (.iload_n 1, 1) := by decide +kernel
theorem dX6_rounds_18 : decode cX6_rounds 18 = .ok (.invokevirtual 168, 3) := by decide +kernel
theorem dX6_rounds_21 : decode cX6_rounds 21 = .ok (.ireturn, 1) := by decide +kernel
set_option maxRecDepth 20000 in
theorem ggX6_firstLines_X1_make : GoodIn wsX6_firstLines wsX1_make := goodIn_r _ [8, 9, 10, 11, 12, 13, 14, 15, 7, 16, 17, 18, 19, 20, 21, 22, 23, 24, 25, 26, 27, 28, 29, 30, 31, 32, 33, 34, 35, 36, 37, 38, 39, 40, 41, 42, 43, 44, 45, 46, 47, 48, 49, 50, 51, 52, 53, 54, 55, 56, 57, 58, 59, 60, 61, 62, 63, 64, 65, 66, 67, 68, 69, 70, 71, 72, 73, 74, 75, 76, 77, 78, 79, 80, 81, 82, 83, 84, 85, 86, 87, 88, 89, 90, 91, 92, 93, 94, 95, 96, 97, 98, 99, 100, 101, 102, 103, 104, 105, 106, 107, 108, 109, 110, 111, 112, 113, 114, 115, 116, 117, 118, 119, 120, 121, 122, 123, 124, 125, 126, 127, 128, 129, 130, 131, 132, 133, 134, 135, 136, 137, 138, 139, 140, 141, 142, 143, 144, 145, 146, 147, 148, 149, 150, 151, 152, 153, 154, 155, 156, 157, 158, 159, 160, 161, 162, 163, 164, 165, 166, 167, 168, 169, 170, 171, 172, 173, 174, 175, 176, 177, 178, 179, 180, 181, 190, 191, 192, 193, 194, 195, 196, 197, 198, 199, 200, 201, 202, 203, 204, 205, 206, 207, 208, 209, 210, 211, 212, 213, 214, 215, 216, 217, 218, 219, 220, 221, 222, 223, 224, 225, 226, 227, 228, 229, 230, 231, 232, 233, 234, 235, 236, 237, 238, 239, 240] (by decide +kernel) (by decide +kernel)
set_option maxRecDepth 20000 in
theorem gX6_firstLines_X1_make : GoodIn wsX6_firstLines (wsV RX6 131 RX1 yX1_make wsX1_make) := goodIn_app (goodIn_of _ (by decide +kernel)) ggX6_firstLines_X1_make
theorem dX6_firstLines_0 : decode cX6_firstLines 0 = .ok (.aload_n 0, 1) := by decide +kernel
theorem dX6_firstLines_1 : decode cX6_firstLines 1 = .ok (.getfield 19, 3) := by decide +kernel
theorem dX6_firstLines_4 : decode cX6_firstLines 4 = .ok (.aload_n 0, 1) := by decide +kernel
theorem dX6_firstLines_5 : decode cX6_firstLines 5 = .ok (.getfield 10, 3) := by decide +kernel
theorem dX6_firstLines_8 : decode cX6_firstLines 8 = .ok (.invokevirtual 131, 3) := by decide +kernel
theorem dX6_firstLines_11 : decode cX6_firstLines 11 = .ok (.aload_n 0, 1) := by decide +kernel
theorem dX6_firstLines_12 : decode cX6_firstLines 12 = .ok (.getfield 19, 3) := by decide +kernel
theorem dX6_firstLines_15 : decode cX6_firstLines 15 = .ok (.getfield 171, 3) := by decide +kernel
theorem dX6_firstLines_18 : decode cX6_firstLines 18 = .ok (.ireturn, 1) := by decide +kernel
set_option maxRecDepth 20000 in
theorem ggX6_explained_X1_make : GoodIn wsX6_explained wsX1_make := goodIn_r _ [9, 10, 11, 12, 13, 14, 15, 16, 8, 17, 18, 19, 20, 21, 22, 23, 24, 25, 26, 27, 28, 29, 30, 31, 32, 33, 34, 35, 36, 37, 38, 39, 40, 41, 42, 43, 44, 45, 46, 47, 48, 49, 50, 51, 52, 53, 54, 55, 56, 57, 58, 59, 60, 61, 62, 63, 64, 65, 66, 67, 68, 69, 70, 71, 72, 73, 74, 75, 76, 77, 78, 79, 80, 81, 82, 83, 84, 85, 86, 87, 88, 89, 90, 91, 92, 93, 94, 95, 96, 97, 98, 99, 100, 101, 102, 103, 104, 105, 106, 107, 108, 109, 110, 111, 112, 113, 114, 115, 116, 117, 118, 119, 120, 121, 122, 123, 124, 125, 126, 127, 128, 129, 130, 131, 132, 133, 134, 135, 136, 137, 138, 139, 140, 141, 142, 143, 144, 145, 146, 147, 148, 149, 150, 151, 152, 153, 154, 155, 156, 157, 158, 159, 160, 161, 162, 163, 164, 165, 166, 167, 168, 169, 170, 171, 172, 173, 174, 175, 176, 177, 178, 179, 180, 181, 182, 191, 192, 193, 194, 195, 196, 197, 198, 199, 200, 201, 202, 203, 204, 205, 206, 207, 208, 209, 210, 211, 212, 213, 214, 215, 216, 217, 218, 219, 220, 221, 222, 223, 224, 225, 226, 227, 228, 229, 230, 231, 232, 233, 234, 235, 236, 237, 238, 239, 240, 241] (by decide +kernel) (by decide +kernel)
set_option maxRecDepth 20000 in
theorem gX6_explained_X1_make : GoodIn wsX6_explained (wsV RX6 131 RX1 yX1_make wsX1_make) := goodIn_app (goodIn_of _ (by decide +kernel)) ggX6_explained_X1_make
theorem dX6_explained_0 : decode cX6_explained 0 = .ok (.aload_n 0, 1) := by decide +kernel
theorem dX6_explained_1 : decode cX6_explained 1 = .ok (.getfield 19, 3) := by decide +kernel
theorem dX6_explained_4 : decode cX6_explained 4 = .ok (.aload_n 0, 1) := by decide +kernel
theorem dX6_explained_5 : decode cX6_explained 5 = .ok (.getfield 10, 3) := by decide +kernel
theorem dX6_explained_8 : decode cX6_explained 8 = .ok (.invokevirtual 131, 3) := by decide +kernel
theorem dX6_explained_11 : decode cX6_explained 11 = .ok (.aload_n 0, 1) := by decide +kernel
theorem dX6_explained_12 : decode cX6_explained 12 = .ok (.getfield 19, 3) := by decide +kernel
theorem dX6_explained_15 : decode cX6_explained 15 = .ok (.getfield 174, 3) := by decide +kernel
theorem dX6_explained_18 : decode cX6_explained 18 = .ok (.istore_n 1, 1) := by decide +kernel
theorem dX6_explained_19 : decode cX6_explained 19 = .ok (.iload_n 1, 1) := by decide +kernel
theorem dX6_explained_20 : decode cX6_explained 20 = .ok (.ifCond .le 17, 3) := by decide +kernel
theorem dX6_explained_23 : decode cX6_explained 23 = .ok (.aload_n 0, 1) := by decide +kernel
theorem dX6_explained_24 : decode cX6_explained 24 = .ok (.getfield 19, 3) := by decide +kernel
theorem dX6_explained_27 : decode cX6_explained 27 = .ok (.getfield 177, 3) := by decide +kernel
theorem dX6_explained_30 : decode cX6_explained 30 = .ok (.i2d, 1) := by decide +kernel
theorem dX6_explained_31 : decode cX6_explained 31 = .ok (.iload_n 1, 1) := by decide +kernel
theorem dX6_explained_32 : decode cX6_explained 32 = .ok (.i2d, 1) := by decide +kernel
theorem dX6_explained_33 : decode cX6_explained 33 = .ok (.ddiv, 1) := by decide +kernel
theorem dX6_explained_34 : decode cX6_explained 34 = .ok (.goto 4, 3) := by decide +kernel
theorem dX6_explained_37 : decode cX6_explained 37 = .ok (.dconst 1, 1) := by decide +kernel
theorem dX6_explained_38 : decode cX6_explained 38 = .ok (.dreturn, 1) := by decide +kernel
set_option maxRecDepth 20000 in
theorem ggX6_linesAt_X6_demandBelow : GoodIn wsX6_linesAt wsX6_demandBelow := goodIn_ca (goodIn_r _ [11, 12, 13] (by decide +kernel) (by decide +kernel)) (goodIn_sub (fun _ h => List.mem_cons_of_mem _ (List.mem_append_right _ h)) (by decide +kernel))
set_option maxRecDepth 20000 in
theorem gX6_linesAt_X6_demandBelow : GoodIn wsX6_linesAt (va_wsS RX6 44 yX6_demandBelow wsX6_demandBelow) := goodIn_app (goodIn_of _ (by decide +kernel)) ggX6_linesAt_X6_demandBelow
set_option maxRecDepth 20000 in
theorem ggX6_linesAt_X3_copyFrom : GoodIn wsX6_linesAt wsX3_copyFrom := goodIn_r _ [18, 19, 20, 21, 22, 23, 24, 25, 26, 27, 28, 29, 30, 31, 32, 17, 33, 34, 35, 36, 37, 38, 39, 217, 218, 219, 220, 221, 222, 223, 224, 225, 226, 227, 228, 229] (by decide +kernel) (by decide +kernel)
set_option maxRecDepth 20000 in
theorem gX6_linesAt_X3_copyFrom : GoodIn wsX6_linesAt (wsV RX6 180 RX3 yX3_copyFrom wsX3_copyFrom) := goodIn_app (goodIn_of _ (by decide +kernel)) ggX6_linesAt_X3_copyFrom
set_option maxRecDepth 20000 in
theorem ggX6_linesAt_X1_make : GoodIn wsX6_linesAt wsX1_make := goodIn_r _ [44, 45, 46, 47, 48, 49, 50, 51, 43, 52, 53, 54, 55, 56, 57, 58, 17, 59, 38, 28, 60, 61, 62, 63, 35, 36, 64, 65, 66, 67, 68, 69, 70, 71, 72, 73, 74, 75, 76, 77, 78, 79, 80, 81, 82, 83, 84, 85, 86, 87, 88, 89, 90, 91, 92, 93, 94, 95, 96, 97, 98, 99, 100, 101, 102, 103, 104, 105, 106, 107, 108, 109, 110, 111, 112, 113, 114, 115, 116, 117, 118, 119, 120, 121, 122, 123, 124, 125, 34, 25, 26, 37, 126, 127, 128, 129, 130, 131, 132, 133, 134, 135, 136, 137, 138, 139, 140, 141, 142, 143, 144, 145, 146, 147, 148, 149, 150, 151, 152, 153, 154, 155, 156, 157, 158, 159, 160, 161, 162, 163, 164, 165, 166, 167, 168, 169, 170, 171, 172, 173, 174, 175, 176, 177, 178, 179, 180, 181, 182, 183, 184, 185, 186, 187, 188, 189, 190, 191, 192, 193, 194, 195, 196, 197, 198, 199, 200, 201, 202, 203, 204, 205, 206, 207, 208, 230, 231, 232, 233, 234, 235, 236, 237, 238, 239, 240, 241, 217, 218, 219, 220, 221, 222, 223, 224, 225, 226, 227, 228, 229, 256, 257, 258, 259, 260, 261, 242, 243, 244, 245, 246, 247, 248, 249, 250, 251, 252, 253, 254, 255, 262, 263, 264, 265, 266, 267] (by decide +kernel) (by decide +kernel)
set_option maxRecDepth 20000 in
theorem gX6_linesAt_X1_make : GoodIn wsX6_linesAt (wsV RX6 131 RX1 yX1_make wsX1_make) := goodIn_app (goodIn_of _ (by decide +kernel)) ggX6_linesAt_X1_make
theorem dX6_linesAt_0 : decode cX6_linesAt 0 = .ok (.iload_n 1, 1) := by decide +kernel
theorem dX6_linesAt_1 : decode cX6_linesAt 1 = .ok (.sipush 200, 3) := by decide +kernel
theorem dX6_linesAt_4 : decode cX6_linesAt 4 = .ok (.invokestatic 44, 3) := by decide +kernel
theorem dX6_linesAt_7 : decode cX6_linesAt 7 = .ok (.iload_n 2, 1) := by decide +kernel
theorem dX6_linesAt_8 : decode cX6_linesAt 8 = .ok (.sipush 200, 3) := by decide +kernel
theorem dX6_linesAt_11 : decode cX6_linesAt 11 = .ok (.invokestatic 44, 3) := by decide +kernel
theorem dX6_linesAt_14 : decode cX6_linesAt 14 = .ok (.aload_n 0, 1) := by decide +kernel
theorem dX6_linesAt_15 : decode cX6_linesAt 15 = .ok (.getfield 23, 3) := by decide +kernel
theorem dX6_linesAt_18 : decode cX6_linesAt 18 = .ok (.aload_n 0, 1) := by decide +kernel
theorem dX6_linesAt_19 : decode cX6_linesAt 19 = .ok (.getfield 10, 3) := by decide +kernel
theorem dX6_linesAt_22 : decode cX6_linesAt 22 = .ok (.invokevirtual 180, 3) := by decide +kernel
theorem dX6_linesAt_25 : decode cX6_linesAt 25 = .ok (.aload_n 0, 1) := by decide +kernel
theorem dX6_linesAt_26 : decode cX6_linesAt 26 = .ok (.getfield 23, 3) := by decide +kernel
theorem dX6_linesAt_29 : decode cX6_linesAt 29 = .ok (.getfield 82, 3) := by decide +kernel
theorem dX6_linesAt_32 : decode cX6_linesAt 32 = .ok (.iconst 0, 1) := by decide +kernel
theorem dX6_linesAt_33 : decode cX6_linesAt 33 = .ok (.iload_n 1, 1) := by decide +kernel
theorem dX6_linesAt_34 : decode cX6_linesAt 34 = .ok (.iastore, 1) := by decide +kernel
theorem dX6_linesAt_35 : decode cX6_linesAt 35 = .ok (.aload_n 0, 1) := by decide +kernel
theorem dX6_linesAt_36 : decode cX6_linesAt 36 = .ok (.getfield 23, 3) := by decide +kernel
theorem dX6_linesAt_39 : decode cX6_linesAt 39 = .ok (.getfield 82, 3) := by decide +kernel
theorem dX6_linesAt_42 : decode cX6_linesAt 42 = .ok (.iconst 1, 1) := by decide +kernel
theorem dX6_linesAt_43 : decode cX6_linesAt 43 = .ok (.iload_n 2, 1) := by decide +kernel
theorem dX6_linesAt_44 : decode cX6_linesAt 44 = .ok (.iastore, 1) := by decide +kernel
theorem dX6_linesAt_45 : decode cX6_linesAt 45 = .ok (.aload_n 0, 1) := by decide +kernel
theorem dX6_linesAt_46 : decode cX6_linesAt 46 = .ok (.getfield 26, 3) := by decide +kernel
theorem dX6_linesAt_49 : decode cX6_linesAt 49 = .ok (.iconst 0, 1) := by decide +kernel
theorem dX6_linesAt_50 : decode cX6_linesAt 50 = .ok (.putfield 183, 3) := by decide +kernel
theorem dX6_linesAt_53 : decode cX6_linesAt 53 = .ok (.aload_n 0, 1) := by decide +kernel
theorem dX6_linesAt_54 : decode cX6_linesAt 54 = .ok (.getfield 26, 3) := by decide +kernel
theorem dX6_linesAt_57 : decode cX6_linesAt 57 = .ok (.aload_n 0, 1) := by decide +kernel
theorem dX6_linesAt_58 : decode cX6_linesAt 58 = .ok (.getfield 23, 3) := by decide +kernel
theorem dX6_linesAt_61 : decode cX6_linesAt 61 = .ok (.invokevirtual 131, 3) := by decide +kernel
theorem dX6_linesAt_64 : decode cX6_linesAt 64 = .ok (.aload_n 0, 1) := by decide +kernel
theorem dX6_linesAt_65 : decode cX6_linesAt 65 = .ok (.getfield 26, 3) := by decide +kernel
theorem dX6_linesAt_68 : decode cX6_linesAt 68 = .ok (.getfield 146, 3) := by decide +kernel
theorem dX6_linesAt_71 : decode cX6_linesAt 71 = .ok (.getfield 150, 3) := by decide +kernel
theorem dX6_linesAt_74 : decode cX6_linesAt 74 = .ok (.ireturn, 1) := by decide +kernel
set_option maxRecDepth 20000 in
theorem ggX6_bestColumns_X3_copyFrom : GoodIn wsX6_bestColumns wsX3_copyFrom := goodIn_r _ [12, 13, 14, 15, 16, 17, 18, 19, 20, 21, 22, 23, 24, 25, 26, 11, 27, 28, 29, 30, 31, 32, 33, 211, 212, 213, 214, 215, 216, 217, 218, 219, 220, 221, 222, 223] (by decide +kernel) (by decide +kernel)
set_option maxRecDepth 20000 in
theorem gX6_bestColumns_X3_copyFrom : GoodIn wsX6_bestColumns (wsV RX6 180 RX3 yX3_copyFrom wsX3_copyFrom) := goodIn_app (goodIn_of _ (by decide +kernel)) ggX6_bestColumns_X3_copyFrom
set_option maxRecDepth 20000 in
theorem ggX6_bestColumns_X1_make : GoodIn wsX6_bestColumns wsX1_make := goodIn_r _ [38, 39, 40, 41, 42, 43, 44, 45, 37, 46, 47, 48, 49, 50, 51, 52, 11, 53, 32, 22, 54, 55, 56, 57, 29, 30, 58, 59, 60, 61, 62, 63, 64, 65, 66, 67, 68, 69, 70, 71, 72, 73, 74, 75, 76, 77, 78, 79, 80, 81, 82, 83, 84, 85, 86, 87, 88, 89, 90, 91, 92, 93, 94, 95, 96, 97, 98, 99, 100, 101, 102, 103, 104, 105, 106, 107, 108, 109, 110, 111, 112, 113, 114, 115, 116, 117, 118, 119, 28, 19, 20, 31, 120, 121, 122, 123, 124, 125, 126, 127, 128, 129, 130, 131, 132, 133, 134, 135, 136, 137, 138, 139, 140, 141, 142, 143, 144, 145, 146, 147, 148, 149, 150, 151, 152, 153, 154, 155, 156, 157, 158, 159, 160, 161, 162, 163, 164, 165, 166, 167, 168, 169, 170, 171, 172, 173, 174, 175, 176, 177, 178, 179, 180, 181, 182, 183, 184, 185, 186, 187, 188, 189, 190, 191, 192, 193, 194, 195, 196, 197, 198, 199, 200, 201, 202, 224, 225, 226, 227, 228, 229, 230, 231, 232, 233, 234, 235, 211, 212, 213, 214, 215, 216, 217, 218, 219, 220, 221, 222, 223, 236, 237, 238, 239, 240, 241, 242, 243, 244, 245, 246, 247, 248, 249, 250, 251, 252, 253, 254, 255, 256, 257, 258, 259, 260, 261] (by decide +kernel) (by decide +kernel)
set_option maxRecDepth 20000 in
theorem gX6_bestColumns_X1_make : GoodIn wsX6_bestColumns (wsV RX6 131 RX1 yX1_make wsX1_make) := goodIn_app (goodIn_of _ (by decide +kernel)) ggX6_bestColumns_X1_make
theorem dX6_bestColumns_0 : decode cX6_bestColumns 0 = .ok (.aload_n 0, 1) := by decide +kernel
theorem dX6_bestColumns_1 : decode cX6_bestColumns 1 = .ok (.getfield 23, 3) := by decide +kernel
theorem dX6_bestColumns_4 : decode cX6_bestColumns 4 = .ok (.aload_n 0, 1) := by decide +kernel
theorem dX6_bestColumns_5 : decode cX6_bestColumns 5 = .ok (.getfield 10, 3) := by decide +kernel
theorem dX6_bestColumns_8 : decode cX6_bestColumns 8 = .ok (.invokevirtual 180, 3) := by decide +kernel
theorem dX6_bestColumns_11 : decode cX6_bestColumns 11 = .ok (.iconst 0, 1) := by decide +kernel
theorem dX6_bestColumns_12 : decode cX6_bestColumns 12 = .ok (.istore_n 1, 1) := by decide +kernel
theorem dX6_bestColumns_13 : decode cX6_bestColumns 13 = .ok (.iconst (-1), 1) := by decide +kernel
theorem dX6_bestColumns_14 : decode cX6_bestColumns 14 = .ok (.istore_n 2, 1) := by decide +kernel
theorem dX6_bestColumns_15 : decode cX6_bestColumns 15 = .ok (.iconst 1, 1) := by decide +kernel
theorem dX6_bestColumns_16 : decode cX6_bestColumns 16 = .ok (.istore_n 3, 1) := by decide +kernel
theorem dX6_bestColumns_17 : decode cX6_bestColumns 17 = .ok (.iload_n 3, 1) := by decide +kernel
theorem dX6_bestColumns_18 : decode cX6_bestColumns 18 = .ok (.getstatic 89, 3) := by decide +kernel
theorem dX6_bestColumns_21 : decode cX6_bestColumns 21 = .ok (.iconst 1, 1) := by decide +kernel
theorem dX6_bestColumns_22 : decode cX6_bestColumns 22 = .ok (.iaload, 1) := by decide +kernel
theorem dX6_bestColumns_23 : decode cX6_bestColumns 23 = .ok (.if_icmp .gt 59, 3) := by decide +kernel
theorem dX6_bestColumns_26 : decode cX6_bestColumns 26 = .ok (.aload_n 0, 1) := by decide +kernel
theorem dX6_bestColumns_27 : decode cX6_bestColumns 27 = .ok (.getfield 23, 3) := by decide +kernel
theorem dX6_bestColumns_30 : decode cX6_bestColumns 30 = .ok (.getfield 97, 3) := by decide +kernel
theorem dX6_bestColumns_33 : decode cX6_bestColumns 33 = .ok (.iconst 1, 1) := by decide +kernel
theorem dX6_bestColumns_34 : decode cX6_bestColumns 34 = .ok (.iload_n 3, 1) := by decide +kernel
theorem dX6_bestColumns_35 : decode cX6_bestColumns 35 = .ok (.iastore, 1) := by decide +kernel
theorem dX6_bestColumns_36 : decode cX6_bestColumns 36 = .ok (.aload_n 0, 1) := by decide +kernel
theorem dX6_bestColumns_37 : decode cX6_bestColumns 37 = .ok (.getfield 26, 3) := by decide +kernel
theorem dX6_bestColumns_40 : decode cX6_bestColumns 40 = .ok (.iconst 0, 1) := by decide +kernel
theorem dX6_bestColumns_41 : decode cX6_bestColumns 41 = .ok (.putfield 183, 3) := by decide +kernel
theorem dX6_bestColumns_44 : decode cX6_bestColumns 44 = .ok (.aload_n 0, 1) := by decide +kernel
theorem dX6_bestColumns_45 : decode cX6_bestColumns 45 = .ok (.getfield 26, 3) := by decide +kernel
theorem dX6_bestColumns_48 : decode cX6_bestColumns 48 = .ok (.aload_n 0, 1) := by decide +kernel
theorem dX6_bestColumns_49 : decode cX6_bestColumns 49 = .ok (.getfield 23, 3) := by decide +kernel
theorem dX6_bestColumns_52 : decode cX6_bestColumns 52 = .ok (.invokevirtual 131, 3) := by decide +kernel
theorem dX6_bestColumns_55 : decode cX6_bestColumns 55 = .ok (.aload_n 0, 1) := by decide +kernel
theorem dX6_bestColumns_56 : decode cX6_bestColumns 56 = .ok (.getfield 26, 3) := by decide +kernel
theorem dX6_bestColumns_59 : decode cX6_bestColumns 59 = .ok (.getfield 177, 3) := by decide +kernel
theorem dX6_bestColumns_62 : decode cX6_bestColumns 62 = .ok (.iload_n 2, 1) := by decide +kernel
theorem dX6_bestColumns_63 : decode cX6_bestColumns 63 = .ok (.if_icmp .le 13, 3) := by decide +kernel
theorem dX6_bestColumns_66 : decode cX6_bestColumns 66 = .ok (.aload_n 0, 1) := by decide +kernel
theorem dX6_bestColumns_67 : decode cX6_bestColumns 67 = .ok (.getfield 26, 3) := by decide +kernel
theorem dX6_bestColumns_70 : decode cX6_bestColumns 70 = .ok (.getfield 177, 3) := by decide +kernel
theorem dX6_bestColumns_73 : decode cX6_bestColumns 73 = .ok (.istore_n 2, 1) := by decide +kernel
theorem dX6_bestColumns_74 : decode cX6_bestColumns 74 = .ok (.iload_n 3, 1) := by decide +kernel
theorem dX6_bestColumns_75 : decode cX6_bestColumns 75 = .ok (.istore_n 1, 1) := by decide +kernel
theorem dX6_bestColumns_76 : decode cX6_bestColumns 76 = .ok (.iinc 3 1, 3) := by decide +kernel
theorem dX6_bestColumns_79 : decode cX6_bestColumns 79 = .ok (.goto (-62), 3) := by decide +kernel
theorem dX6_bestColumns_82 : decode cX6_bestColumns 82 = .ok (.iload_n 1, 1) := by decide +kernel
theorem dX6_bestColumns_83 : decode cX6_bestColumns 83 = .ok (.ireturn, 1) := by decide +kernel
set_option maxRecDepth 20000 in
theorem ggX6_zoomFor_X6_demandKind : GoodIn wsX6_zoomFor wsX6_demandKind := goodIn_ca (goodIn_r _ [12, 13, 14] (by decide +kernel) (by decide +kernel)) (goodIn_sub (fun _ h => List.mem_cons_of_mem _ (List.mem_append_right _ h)) (by decide +kernel))
set_option maxRecDepth 20000 in
theorem gX6_zoomFor_X6_demandKind : GoodIn wsX6_zoomFor (va_wsS RX6 40 yX6_demandKind wsX6_demandKind) := goodIn_app (goodIn_of _ (by decide +kernel)) ggX6_zoomFor_X6_demandKind
set_option maxRecDepth 20000 in
theorem ggX6_zoomFor_X3_isInWindow : GoodIn wsX6_zoomFor wsX3_isInWindow := goodIn_r _ [19, 20, 21, 22, 31, 32, 33, 34, 35, 36, 37, 38, 39, 40, 41, 42, 43] (by decide +kernel) (by decide +kernel)
set_option maxRecDepth 20000 in
theorem gX6_zoomFor_X3_isInWindow : GoodIn wsX6_zoomFor (wsV RX6 190 RX3 yX3_isInWindow wsX3_isInWindow) := goodIn_app (goodIn_of _ (by decide +kernel)) ggX6_zoomFor_X3_isInWindow
theorem dX6_zoomFor_0 : decode cX6_zoomFor 0 = .ok (.iload_n 1, 1) := by decide +kernel
theorem dX6_zoomFor_1 : decode cX6_zoomFor 1 = .ok (.invokestatic 40, 3) := by decide +kernel
theorem dX6_zoomFor_4 : decode cX6_zoomFor 4 = .ok (.iconst 0, 1) := by decide +kernel
theorem dX6_zoomFor_5 : decode cX6_zoomFor 5 = .ok (.istore_n 2, 1) := by decide +kernel
theorem dX6_zoomFor_6 : decode cX6_zoomFor 6 = .ok (.iconst 0, 1) := by decide +kernel
theorem dX6_zoomFor_7 : decode cX6_zoomFor 7 = .ok (.istore_n 3, 1) := by decide +kernel
theorem dX6_zoomFor_8 : decode cX6_zoomFor 8 = .ok (.iload_n 3, 1) := by decide +kernel
theorem dX6_zoomFor_9 : decode cX6_zoomFor 9 = .ok (.aload_n 0, 1) := by decide +kernel
theorem dX6_zoomFor_10 : decode cX6_zoomFor 10 = .ok (.getfield 10, 3) := by decide +kernel
theorem dX6_zoomFor_13 : decode cX6_zoomFor 13 = .ok (.getfield 48, 3) := by decide +kernel
theorem dX6_zoomFor_16 : decode cX6_zoomFor 16 = .ok (.if_icmp .ge 47, 3) := by decide +kernel
theorem dX6_zoomFor_19 : decode cX6_zoomFor 19 = .ok (.aload_n 0, 1) := by decide +kernel
theorem dX6_zoomFor_20 : decode cX6_zoomFor 20 = .ok (.getfield 10, 3) := by decide +kernel
theorem dX6_zoomFor_23 : decode cX6_zoomFor 23 = .ok (.getfield 187, 3) := by decide +kernel
theorem dX6_zoomFor_26 : decode cX6_zoomFor 26 = .ok (.iload_n 3, 1) := by decide +kernel
theorem dX6_zoomFor_27 : decode cX6_zoomFor 27 = .ok (.iaload, 1) := by decide +kernel
theorem dX6_zoomFor_28 : decode cX6_zoomFor 28 = .ok (.iload_n 1, 1) := by decide +kernel
theorem dX6_zoomFor_29 : decode cX6_zoomFor 29 = .ok (.if_icmp .ne 28, 3) := by decide +kernel
theorem dX6_zoomFor_32 : decode cX6_zoomFor 32 = .ok (.aload_n 0, 1) := by decide +kernel
theorem dX6_zoomFor_33 : decode cX6_zoomFor 33 = .ok (.getfield 10, 3) := by decide +kernel
theorem dX6_zoomFor_36 : decode cX6_zoomFor 36 = .ok (.iload_n 3, 1) := by decide +kernel
theorem dX6_zoomFor_37 : decode cX6_zoomFor 37 = .ok (.invokevirtual 190, 3) := by decide +kernel
theorem dX6_zoomFor_40 : decode cX6_zoomFor 40 = .ok (.ifCond .eq 17, 3) := by decide +kernel
theorem dX6_zoomFor_43 : decode cX6_zoomFor 43 = .ok (.iload_n 2, 1) := by decide +kernel
theorem dX6_zoomFor_44 : decode cX6_zoomFor 44 = .ok (.aload_n 0, 1) := by decide +kernel
theorem dX6_zoomFor_45 : decode cX6_zoomFor 45 = .ok (.getfield 10, 3) := by decide +kernel
theorem dX6_zoomFor_48 : decode cX6_zoomFor 48 = .ok (.getfield 194, 3) := by decide +kernel
theorem dX6_zoomFor_51 : decode cX6_zoomFor 51 = .ok (.iload_n 3, 1) := by decide +kernel
theorem dX6_zoomFor_52 : decode cX6_zoomFor 52 = .ok (.iaload, 1) := by decide +kernel
theorem dX6_zoomFor_53 : decode cX6_zoomFor 53 = .ok (.invokestatic 197, 3) := by decide +kernel
theorem dX6_zoomFor_56 : decode cX6_zoomFor 56 = .ok (.istore_n 2, 1) := by decide +kernel
theorem dX6_zoomFor_57 : decode cX6_zoomFor 57 = .ok (.iinc 3 1, 3) := by decide +kernel
theorem dX6_zoomFor_60 : decode cX6_zoomFor 60 = .ok (.goto (-52), 3) := by decide +kernel
theorem dX6_zoomFor_63 : decode cX6_zoomFor 63 = .ok (.iload_n 2, 1) := by decide +kernel
theorem dX6_zoomFor_64 : decode cX6_zoomFor 64 = .ok (.ireturn, 1) := by decide +kernel
set_option maxRecDepth 20000 in
theorem ggX6_linesSaved_X6_demandSign : GoodIn wsX6_linesSaved wsX6_demandSign := goodIn_ca (goodIn_r _ [12, 13, 14, 2, 15, 215, 216, 217, 218, 219, 220, 221, 222, 249, 250, 251, 252, 253, 254, 255, 256, 257, 258, 259, 260, 261] (by decide +kernel) (by decide +kernel)) (goodIn_sub (fun _ h => List.mem_cons_of_mem _ (List.mem_append_right _ h)) (by decide +kernel))
set_option maxRecDepth 20000 in
theorem gX6_linesSaved_X6_demandSign : GoodIn wsX6_linesSaved (wsV RX6 66 RX6 yX6_demandSign wsX6_demandSign) := goodIn_app (goodIn_of _ (by decide +kernel)) ggX6_linesSaved_X6_demandSign
set_option maxRecDepth 20000 in
theorem ggX6_linesSaved_X1_make : GoodIn wsX6_linesSaved wsX1_make := goodIn_r _ [20, 21, 22, 23, 24, 25, 26, 27, 19, 28, 29, 30, 31, 32, 33, 34, 35, 36, 37, 38, 39, 40, 41, 42, 43, 44, 45, 46, 47, 48, 49, 50, 51, 52, 53, 54, 55, 56, 57, 58, 59, 60, 61, 62, 63, 64, 65, 66, 67, 68, 69, 70, 71, 72, 73, 74, 75, 76, 77, 78, 79, 80, 81, 82, 83, 84, 85, 86, 87, 88, 89, 90, 91, 92, 93, 94, 95, 96, 97, 98, 99, 100, 101, 102, 103, 104, 105, 106, 107, 108, 109, 110, 111, 112, 113, 114, 115, 116, 117, 118, 119, 120, 121, 122, 123, 124, 125, 126, 127, 128, 129, 130, 131, 132, 133, 134, 135, 136, 137, 138, 139, 140, 141, 142, 143, 144, 145, 146, 147, 148, 149, 150, 151, 152, 153, 154, 155, 156, 157, 158, 159, 160, 161, 162, 163, 164, 165, 166, 167, 168, 169, 170, 171, 172, 173, 174, 175, 176, 177, 178, 179, 180, 181, 182, 183, 184, 185, 186, 187, 188, 189, 190, 191, 192, 193, 223, 224, 225, 226, 227, 228, 229, 230, 231, 232, 233, 234, 249, 250, 251, 252, 253, 254, 255, 256, 257, 258, 259, 260, 261, 262, 263, 264, 265, 266, 267, 235, 236, 237, 238, 239, 240, 241, 242, 243, 244, 245, 246, 247, 248, 268, 269, 270, 271, 272, 273] (by decide +kernel) (by decide +kernel)
set_option maxRecDepth 20000 in
theorem gX6_linesSaved_X1_make : GoodIn wsX6_linesSaved (wsV RX6 131 RX1 yX1_make wsX1_make) := goodIn_app (goodIn_of _ (by decide +kernel)) ggX6_linesSaved_X1_make
set_option maxRecDepth 20000 in
theorem ggX6_linesSaved_X3_copyFrom : GoodIn wsX6_linesSaved wsX3_copyFrom := goodIn_r _ [197, 198, 199, 200, 201, 202, 203, 108, 109, 204, 38, 205, 206, 207, 208, 35, 209, 107, 43, 44, 110, 37, 210, 249, 250, 251, 252, 253, 254, 255, 256, 257, 258, 259, 260, 261] (by decide +kernel) (by decide +kernel)
set_option maxRecDepth 20000 in
theorem gX6_linesSaved_X3_copyFrom : GoodIn wsX6_linesSaved (wsV RX6 180 RX3 yX3_copyFrom wsX3_copyFrom) := goodIn_app (goodIn_of _ (by decide +kernel)) ggX6_linesSaved_X3_copyFrom
set_option maxRecDepth 20000 in
theorem ggX6_linesSaved_X3_dropSign : GoodIn wsX6_linesSaved wsX3_dropSign := goodIn_r _ [214, 210, 107, 43, 44, 110, 37, 249, 250, 251, 252, 253, 254, 255, 256, 257, 258, 259, 260, 261] (by decide +kernel) (by decide +kernel)
set_option maxRecDepth 20000 in
theorem gX6_linesSaved_X3_dropSign : GoodIn wsX6_linesSaved (wsV RX6 69 RX3 yX3_dropSign wsX3_dropSign) := goodIn_app (goodIn_of _ (by decide +kernel)) ggX6_linesSaved_X3_dropSign
theorem dX6_linesSaved_0 : decode cX6_linesSaved 0 = .ok (.aload_n 0, 1) := by decide +kernel
theorem dX6_linesSaved_1 : decode cX6_linesSaved 1 = .ok (.iload_n 1, 1) := by decide +kernel
theorem dX6_linesSaved_2 : decode cX6_linesSaved 2 = .ok (.invokevirtual 66, 3) := by decide +kernel
theorem dX6_linesSaved_5 : decode cX6_linesSaved 5 = .ok (.aload_n 0, 1) := by decide +kernel
theorem dX6_linesSaved_6 : decode cX6_linesSaved 6 = .ok (.getfield 19, 3) := by decide +kernel
theorem dX6_linesSaved_9 : decode cX6_linesSaved 9 = .ok (.aload_n 0, 1) := by decide +kernel
theorem dX6_linesSaved_10 : decode cX6_linesSaved 10 = .ok (.getfield 10, 3) := by decide +kernel
theorem dX6_linesSaved_13 : decode cX6_linesSaved 13 = .ok (.invokevirtual 131, 3) := by decide +kernel
theorem dX6_linesSaved_16 : decode cX6_linesSaved 16 = .ok (.aload_n 0, 1) := by decide +kernel
theorem dX6_linesSaved_17 : decode cX6_linesSaved 17 = .ok (.getfield 23, 3) := by decide +kernel
theorem dX6_linesSaved_20 : decode cX6_linesSaved 20 = .ok (.aload_n 0, 1) := by decide +kernel
theorem dX6_linesSaved_21 : decode cX6_linesSaved 21 = .ok (.getfield 10, 3) := by decide +kernel
theorem dX6_linesSaved_24 : decode cX6_linesSaved 24 = .ok (.invokevirtual 180, 3) := by decide +kernel
theorem dX6_linesSaved_27 : decode cX6_linesSaved 27 = .ok (.aload_n 0, 1) := by decide +kernel
theorem dX6_linesSaved_28 : decode cX6_linesSaved 28 = .ok (.getfield 23, 3) := by decide +kernel
theorem dX6_linesSaved_31 : decode cX6_linesSaved 31 = .ok (.iload_n 1, 1) := by decide +kernel
theorem dX6_linesSaved_32 : decode cX6_linesSaved 32 = .ok (.invokevirtual 69, 3) := by decide +kernel
theorem dX6_linesSaved_35 : decode cX6_linesSaved 35 = .ok (.aload_n 0, 1) := by decide +kernel
theorem dX6_linesSaved_36 : decode cX6_linesSaved 36 = .ok (.getfield 26, 3) := by decide +kernel
theorem dX6_linesSaved_39 : decode cX6_linesSaved 39 = .ok (.iconst 0, 1) := by decide +kernel
theorem dX6_linesSaved_40 : decode cX6_linesSaved 40 = .ok (.putfield 183, 3) := by decide +kernel
theorem dX6_linesSaved_43 : decode cX6_linesSaved 43 = .ok (.aload_n 0, 1) := by decide +kernel
theorem dX6_linesSaved_44 : decode cX6_linesSaved 44 = .ok (.getfield 26, 3) := by decide +kernel
theorem dX6_linesSaved_47 : decode cX6_linesSaved 47 = .ok (.aload_n 0, 1) := by decide +kernel
theorem dX6_linesSaved_48 : decode cX6_linesSaved 48 = .ok (.getfield 23, 3) := by decide +kernel
theorem dX6_linesSaved_51 : decode cX6_linesSaved 51 = .ok (.invokevirtual 131, 3) := by decide +kernel
theorem dX6_linesSaved_54 : decode cX6_linesSaved 54 = .ok (.aload_n 0, 1) := by decide +kernel
theorem dX6_linesSaved_55 : decode cX6_linesSaved 55 = .ok (.getfield 19, 3) := by decide +kernel
theorem dX6_linesSaved_58 : decode cX6_linesSaved 58 = .ok (.getfield 146, 3) := by decide +kernel
theorem dX6_linesSaved_61 : decode cX6_linesSaved 61 = .ok (.getfield 150, 3) := by decide +kernel
theorem dX6_linesSaved_64 : decode cX6_linesSaved 64 = .ok (.aload_n 0, 1) := by decide +kernel
theorem dX6_linesSaved_65 : decode cX6_linesSaved 65 = .ok (.getfield 26, 3) := by decide +kernel
theorem dX6_linesSaved_68 : decode cX6_linesSaved 68 = .ok (.getfield 146, 3) := by decide +kernel
theorem dX6_linesSaved_71 : decode cX6_linesSaved 71 = .ok (.getfield 150, 3) := by decide +kernel
theorem dX6_linesSaved_74 : decode cX6_linesSaved 74 = .ok (.isub, 1) := by decide +kernel
theorem dX6_linesSaved_75 : decode cX6_linesSaved 75 = .ok (.ireturn, 1) := by decide +kernel
set_option maxRecDepth 20000 in
theorem ggX6_append_X6_demandBelow : GoodIn wsX6_append wsX6_demandBelow := goodIn_ca (goodIn_r _ [8, 9, 10] (by decide +kernel) (by decide +kernel)) (goodIn_sub (fun _ h => List.mem_cons_of_mem _ (List.mem_append_right _ h)) (by decide +kernel))
set_option maxRecDepth 20000 in
theorem gX6_append_X6_demandBelow : GoodIn wsX6_append (va_wsS RX6 44 yX6_demandBelow wsX6_demandBelow) := goodIn_app (goodIn_of _ (by decide +kernel)) ggX6_append_X6_demandBelow
set_option maxRecDepth 20000 in
theorem ggX6_append_X5_put : GoodIn wsX6_append wsX5_put := goodIn_r _ [15, 16, 17, 26, 27, 28, 29, 30] (by decide +kernel) (by decide +kernel)
set_option maxRecDepth 20000 in
theorem gX6_append_X5_put : GoodIn wsX6_append (wsV RX6 207 RX5 yX5_put wsX5_put) := goodIn_app (goodIn_of _ (by decide +kernel)) ggX6_append_X5_put
theorem dX6_append_0 : decode cX6_append 0 = .ok (.iload_n 1, 1) := by decide +kernel
theorem dX6_append_1 : decode cX6_append 1 = .ok (.sipush 128, 3) := by decide +kernel
theorem dX6_append_4 : decode cX6_append 4 = .ok (.invokestatic 44, 3) := by decide +kernel
theorem dX6_append_7 : decode cX6_append 7 = .ok (.aload_n 0, 1) := by decide +kernel
theorem dX6_append_8 : decode cX6_append 8 = .ok (.getfield 32, 3) := by decide +kernel
theorem dX6_append_11 : decode cX6_append 11 = .ok (.getfield 202, 3) := by decide +kernel
theorem dX6_append_14 : decode cX6_append 14 = .ok (.sipush 160, 3) := by decide +kernel
theorem dX6_append_17 : decode cX6_append 17 = .ok (.if_icmp .lt 13, 3) := by decide +kernel
theorem dX6_append_20 : decode cX6_append 20 = .ok (.new 52, 3) := by decide +kernel
theorem dX6_append_23 : decode cX6_append 23 = .ok (.dup, 1) := by decide +kernel
theorem dX6_append_24 : decode cX6_append 24 = .ok (.ldc 205, 2) := by decide +kernel
theorem dX6_append_26 : decode cX6_append 26 = .ok (.invokespecial 56, 3) := by decide +kernel
theorem dX6_append_29 : decode cX6_append 29 = .ok (.athrow, 1) := by decide +kernel
theorem dX6_append_30 : decode cX6_append 30 = .ok (.aload_n 0, 1) := by decide +kernel
theorem dX6_append_31 : decode cX6_append 31 = .ok (.getfield 32, 3) := by decide +kernel
theorem dX6_append_34 : decode cX6_append 34 = .ok (.iload_n 1, 1) := by decide +kernel
theorem dX6_append_35 : decode cX6_append 35 = .ok (.invokevirtual 207, 3) := by decide +kernel
theorem dX6_append_38 : decode cX6_append 38 = .ok (.aload_n 0, 1) := by decide +kernel
theorem dX6_append_39 : decode cX6_append 39 = .ok (.getfield 32, 3) := by decide +kernel
theorem dX6_append_42 : decode cX6_append 42 = .ok (.getfield 202, 3) := by decide +kernel
theorem dX6_append_45 : decode cX6_append 45 = .ok (.ireturn, 1) := by decide +kernel
theorem dX6_clearText_0 : decode cX6_clearText 0 = .ok (.aload_n 0, 1) := by decide +kernel
theorem dX6_clearText_1 : decode cX6_clearText 1 = .ok (.getfield 32, 3) := by decide +kernel
theorem dX6_clearText_4 : decode cX6_clearText 4 = .ok (.getfield 202, 3) := by decide +kernel
theorem dX6_clearText_7 : decode cX6_clearText 7 = .ok (.istore_n 1, 1) := by decide +kernel
theorem dX6_clearText_8 : decode cX6_clearText 8 = .ok (.aload_n 0, 1) := by decide +kernel
theorem dX6_clearText_9 : decode cX6_clearText 9 = .ok (.getfield 32, 3) := by decide +kernel
theorem dX6_clearText_12 : decode cX6_clearText 12 = .ok (.iconst 0, 1) := by decide +kernel
theorem dX6_clearText_13 : decode cX6_clearText 13 = .ok (.putfield 202, 3) := by decide +kernel
theorem dX6_clearText_16 : decode cX6_clearText 16 = .ok (.iload_n 1, 1) := by decide +kernel
theorem dX6_clearText_17 : decode cX6_clearText 17 = .ok (.ireturn, 1) := by decide +kernel
set_option maxRecDepth 20000 in
theorem ggX6_parse_X5_read : GoodIn wsX6_parse wsX5_read := goodIn_r _ [10, 11, 12, 13, 14, 15, 16, 17, 18, 9, 19, 20, 21, 22, 23, 24, 25, 26, 27, 28, 29, 30, 31, 32, 33, 34, 35, 36, 37, 38, 39, 40, 41, 42, 43, 44, 45, 46, 47, 86, 87, 88, 89, 90, 91, 92, 93, 94, 95, 96, 97, 98, 99, 100, 101, 102, 103] (by decide +kernel) (by decide +kernel)
set_option maxRecDepth 20000 in
theorem gX6_parse_X5_read : GoodIn wsX6_parse (wsV RX6 210 RX5 yX5_read wsX5_read) := goodIn_app (goodIn_of _ (by decide +kernel)) ggX6_parse_X5_read
set_option maxRecDepth 20000 in
theorem ggX6_parse_X6_saveState : GoodIn wsX6_parse wsX6_saveState := goodIn_r _ [52, 53, 54, 55, 3, 56, 57, 58, 59, 60, 40, 61, 62, 63, 64, 65, 66, 67, 68, 69, 70, 71, 72, 73, 74, 75, 76, 43, 44, 45, 46, 47, 42, 78, 79, 80, 81, 82, 83, 84, 85, 104, 105, 106, 107, 108, 109, 110, 111, 112, 113, 114, 115, 91, 92, 93, 94, 95, 96, 97, 98, 99, 100, 101, 102, 103] (by decide +kernel) (by decide +kernel)
set_option maxRecDepth 20000 in
theorem gX6_parse_X6_saveState : GoodIn wsX6_parse (wsV RX6 59 RX6 yX6_saveState wsX6_saveState) := goodIn_app (goodIn_of _ (by decide +kernel)) ggX6_parse_X6_saveState
set_option maxRecDepth 20000 in
theorem ggX6_parse_X3_takeSigns : GoodIn wsX6_parse wsX3_takeSigns := goodIn_r _ [76, 43, 63, 64, 65, 66, 44, 45, 46, 47, 42, 91, 92, 93, 94, 95, 96, 97, 98, 99, 100, 101, 102, 103] (by decide +kernel) (by decide +kernel)
set_option maxRecDepth 20000 in
theorem gX6_parse_X3_takeSigns : GoodIn wsX6_parse (wsV RX6 219 RX3 yX3_takeSigns wsX3_takeSigns) := goodIn_app (goodIn_of _ (by decide +kernel)) ggX6_parse_X3_takeSigns
theorem dX6_parse_0 : decode cX6_parse 0 = .ok (.aload_n 0, 1) := by decide +kernel
theorem dX6_parse_1 : decode cX6_parse 1 = .ok (.getfield 32, 3) := by decide +kernel
theorem dX6_parse_4 : decode cX6_parse 4 = .ok (.invokevirtual 210, 3) := by decide +kernel
theorem dX6_parse_7 : decode cX6_parse 7 = .ok (.aload_n 0, 1) := by decide +kernel
theorem dX6_parse_8 : decode cX6_parse 8 = .ok (.getfield 32, 3) := by decide +kernel
theorem dX6_parse_11 : decode cX6_parse 11 = .ok (.getfield 213, 3) := by decide +kernel
theorem dX6_parse_14 : decode cX6_parse 14 = .ok (.iconst (-1), 1) := by decide +kernel
theorem dX6_parse_15 : decode cX6_parse 15 = .ok (.if_icmp .eq 14, 3) := by decide +kernel
theorem dX6_parse_18 : decode cX6_parse 18 = .ok (.bipush (-10), 2) := by decide +kernel
theorem dX6_parse_20 : decode cX6_parse 20 = .ok (.aload_n 0, 1) := by decide +kernel
theorem dX6_parse_21 : decode cX6_parse 21 = .ok (.getfield 32, 3) := by decide +kernel
theorem dX6_parse_24 : decode cX6_parse 24 = .ok (.getfield 213, 3) := by decide +kernel
theorem dX6_parse_27 : decode cX6_parse 27 = .ok (.isub, 1) := by decide +kernel
theorem dX6_parse_28 : decode cX6_parse 28 = .ok (.ireturn, 1) := by decide +kernel
theorem dX6_parse_29 : decode cX6_parse 29 = .ok (.aload_n 0, 1) := by decide +kernel
theorem dX6_parse_30 : decode cX6_parse 30 = .ok (.invokevirtual 59, 3) := by decide +kernel
theorem dX6_parse_33 : decode cX6_parse 33 = .ok (.aload_n 0, 1) := by decide +kernel
theorem dX6_parse_34 : decode cX6_parse 34 = .ok (.getfield 10, 3) := by decide +kernel
theorem dX6_parse_37 : decode cX6_parse 37 = .ok (.aload_n 0, 1) := by decide +kernel
theorem dX6_parse_38 : decode cX6_parse 38 = .ok (.getfield 32, 3) := by decide +kernel
theorem dX6_parse_41 : decode cX6_parse 41 = .ok (.getfield 216, 3) := by decide +kernel
theorem dX6_parse_44 : decode cX6_parse 44 = .ok (.invokevirtual 219, 3) := by decide +kernel
theorem dX6_parse_47 : decode cX6_parse 47 = .ok (.aload_n 0, 1) := by decide +kernel
theorem dX6_parse_48 : decode cX6_parse 48 = .ok (.getfield 10, 3) := by decide +kernel
theorem dX6_parse_51 : decode cX6_parse 51 = .ok (.getfield 48, 3) := by decide +kernel
theorem dX6_parse_54 : decode cX6_parse 54 = .ok (.ireturn, 1) := by decide +kernel
set_option maxRecDepth 20000 in
theorem ggX6_undo_X3_copyFrom : GoodIn wsX6_undo wsX3_copyFrom := goodIn_r _ [13, 14, 15, 16, 17, 18, 19, 20, 21, 22, 23, 24, 25, 26, 27, 12, 28, 29, 30, 31, 32, 33, 34, 55, 56, 57, 58, 59, 60, 61, 62, 63, 64, 65, 66, 67] (by decide +kernel) (by decide +kernel)
set_option maxRecDepth 20000 in
theorem gX6_undo_X3_copyFrom : GoodIn wsX6_undo (wsV RX6 180 RX3 yX3_copyFrom wsX3_copyFrom) := goodIn_app (goodIn_of _ (by decide +kernel)) ggX6_undo_X3_copyFrom
theorem dX6_undo_0 : decode cX6_undo 0 = .ok (.aload_n 0, 1) := by decide +kernel
theorem dX6_undo_1 : decode cX6_undo 1 = .ok (.getfield 222, 3) := by decide +kernel
theorem dX6_undo_4 : decode cX6_undo 4 = .ok (.ifCond .gt 13, 3) := by decide +kernel
theorem dX6_undo_7 : decode cX6_undo 7 = .ok (.new 52, 3) := by decide +kernel
theorem dX6_undo_10 : decode cX6_undo 10 = .ok (.dup, 1) := by decide +kernel
theorem dX6_undo_11 : decode cX6_undo 11 = .ok (.ldc 225, 2) := by decide +kernel
theorem dX6_undo_13 : decode cX6_undo 13 = .ok (.invokespecial 56, 3) := by decide +kernel
theorem dX6_undo_16 : decode cX6_undo 16 = .ok (.athrow, 1) := by decide +kernel
theorem dX6_undo_17 : decode cX6_undo 17 = .ok (.aload_n 0, 1) := by decide +kernel
theorem dX6_undo_18 : decode cX6_undo 18 = .ok (.dup, 1) := by decide +kernel
theorem dX6_undo_19 : decode cX6_undo 19 = .ok (.getfield 222, 3) := by decide +kernel
theorem dX6_undo_22 : decode cX6_undo 22 = .ok (.iconst 1, 1) := by decide +kernel
theorem dX6_undo_23 : decode cX6_undo 23 = .ok (.isub, 1) := by decide +kernel
theorem dX6_undo_24 : decode cX6_undo 24 = .ok (.putfield 222, 3) := by decide +kernel
theorem dX6_undo_27 : decode cX6_undo 27 = .ok (.aload_n 0, 1) := by decide +kernel
theorem dX6_undo_28 : decode cX6_undo 28 = .ok (.getfield 36, 3) := by decide +kernel
theorem dX6_undo_31 : decode cX6_undo 31 = .ok (.aload_n 0, 1) := by decide +kernel
theorem dX6_undo_32 : decode cX6_undo 32 = .ok (.getfield 227, 3) := by decide +kernel
theorem dX6_undo_35 : decode cX6_undo 35 = .ok (.aload_n 0, 1) := by decide +kernel
theorem dX6_undo_36 : decode cX6_undo 36 = .ok (.getfield 222, 3) := by decide +kernel
theorem dX6_undo_39 : decode cX6_undo 39 = .ok (.iadd, 1) := by decide +kernel
theorem dX6_undo_40 : decode cX6_undo 40 = .ok (.iconst 4, 1) := by decide +kernel
theorem dX6_undo_41 : decode cX6_undo 41 = .ok (.irem, 1) := by decide +kernel
theorem dX6_undo_42 : decode cX6_undo 42 = .ok (.aaload, 1) := by decide +kernel
theorem dX6_undo_43 : decode cX6_undo 43 = .ok (.astore_n 1, 1) := by decide +kernel
theorem dX6_undo_44 : decode cX6_undo 44 = .ok (.aload_n 1, 1) := by decide +kernel
theorem dX6_undo_45 : decode cX6_undo 45 = .ok (.ifnull 11, 3) := by decide +kernel
theorem dX6_undo_48 : decode cX6_undo 48 = .ok (.aload_n 0, 1) := by decide +kernel
theorem dX6_undo_49 : decode cX6_undo 49 = .ok (.getfield 10, 3) := by decide +kernel
theorem dX6_undo_52 : decode cX6_undo 52 = .ok (.aload_n 1, 1) := by decide +kernel
theorem dX6_undo_53 : decode cX6_undo 53 = .ok (.invokevirtual 180, 3) := by decide +kernel
theorem dX6_undo_56 : decode cX6_undo 56 = .ok (.aload_n 0, 1) := by decide +kernel
theorem dX6_undo_57 : decode cX6_undo 57 = .ok (.getfield 19, 3) := by decide +kernel
theorem dX6_undo_60 : decode cX6_undo 60 = .ok (.iconst 0, 1) := by decide +kernel
theorem dX6_undo_61 : decode cX6_undo 61 = .ok (.putfield 183, 3) := by decide +kernel
theorem dX6_undo_64 : decode cX6_undo 64 = .ok (.aload_n 0, 1) := by decide +kernel
theorem dX6_undo_65 : decode cX6_undo 65 = .ok (.getfield 222, 3) := by decide +kernel
theorem dX6_undo_68 : decode cX6_undo 68 = .ok (.ireturn, 1) := by decide +kernel
set_option maxRecDepth 20000 in
theorem ggX6_digest_X1_make : GoodIn wsX6_digest wsX1_make := goodIn_r _ [14, 15, 16, 17, 18, 19, 20, 21, 13, 22, 23, 24, 25, 26, 27, 28, 29, 30, 31, 32, 33, 34, 35, 36, 37, 38, 39, 40, 41, 42, 43, 44, 45, 46, 47, 48, 49, 50, 51, 52, 53, 54, 55, 56, 57, 58, 59, 60, 61, 62, 63, 64, 65, 66, 67, 68, 69, 70, 71, 72, 73, 74, 75, 76, 77, 78, 79, 80, 81, 82, 83, 84, 85, 86, 87, 88, 89, 90, 91, 92, 93, 94, 95, 96, 97, 98, 99, 100, 101, 102, 103, 104, 105, 106, 107, 108, 109, 110, 111, 112, 113, 114, 115, 116, 117, 118, 119, 120, 121, 122, 123, 124, 125, 126, 127, 128, 129, 130, 131, 132, 133, 134, 135, 136, 137, 138, 139, 140, 141, 142, 143, 144, 145, 146, 147, 148, 149, 150, 151, 152, 153, 154, 155, 156, 157, 158, 159, 160, 161, 162, 163, 164, 165, 166, 167, 168, 169, 170, 171, 172, 173, 174, 175, 176, 177, 178, 179, 180, 181, 182, 183, 184, 185, 186, 187, 298, 299, 300, 301, 302, 303, 304, 305, 306, 307, 308, 309, 285, 286, 287, 288, 289, 290, 291, 292, 293, 294, 295, 296, 297, 310, 311, 312, 313, 314, 315, 316, 317, 318, 319, 320, 321, 322, 323, 324, 325, 326, 327, 328, 329, 330, 331, 332, 333, 334, 335] (by decide +kernel) (by decide +kernel)
set_option maxRecDepth 20000 in
theorem gX6_digest_X1_make : GoodIn wsX6_digest (wsV RX6 131 RX1 yX1_make wsX1_make) := goodIn_app (goodIn_of _ (by decide +kernel)) ggX6_digest_X1_make
set_option maxRecDepth 20000 in
theorem ggX6_digest_X6_numberOf : GoodIn wsX6_digest wsX6_numberOf := goodIn_r _ [192, 2, 193, 194, 195, 1, 196, 197, 272, 273, 274, 275, 276, 277, 278, 279, 285, 286, 287, 288, 289, 290, 291, 292, 293, 294, 295, 296, 297, 298, 299, 300, 301, 302, 303, 304, 305, 306, 307, 308, 309] (by decide +kernel) (by decide +kernel)
set_option maxRecDepth 20000 in
theorem gX6_digest_X6_numberOf : GoodIn wsX6_digest (wsV RX6 135 RX6 yX6_numberOf wsX6_numberOf) := goodIn_app (goodIn_of _ (by decide +kernel)) ggX6_digest_X6_numberOf
set_option maxRecDepth 20000 in
theorem ggX6_digest_X6_hashOfKinds : GoodIn wsX6_digest wsX6_hashOfKinds := goodIn_r _ [201, 6, 202, 203, 204, 191, 205, 2, 206, 207, 208, 1, 209, 210, 211, 212, 213, 214, 70, 215, 72, 73, 74, 216, 217, 218, 29, 219, 102, 103, 272, 273, 274, 275, 276, 277, 278, 279, 285, 286, 287, 288, 289, 290, 291, 292, 293, 294, 295, 296, 297, 298, 299, 300, 301, 302, 303, 304, 305, 306, 307, 308, 309, 330, 331, 332, 333, 334, 335, 316, 317, 318, 319, 320, 321, 322, 323, 324, 325, 326, 327, 328, 329] (by decide +kernel) (by decide +kernel)
set_option maxRecDepth 20000 in
theorem gX6_digest_X6_hashOfKinds : GoodIn wsX6_digest (wsV RX6 234 RX6 yX6_hashOfKinds wsX6_hashOfKinds) := goodIn_app (goodIn_of _ (by decide +kernel)) ggX6_digest_X6_hashOfKinds
set_option maxRecDepth 20000 in
theorem ggX6_digest_X6_hashOfSigns : GoodIn wsX6_digest wsX6_hashOfSigns := goodIn_r _ [223, 2, 195, 6, 224, 225, 226, 191, 227, 228, 229, 230, 231, 232, 1, 233, 234, 235, 98, 99, 29, 100, 101, 102, 103, 104, 236, 237, 238, 13, 239, 18, 240, 61, 65, 241, 242, 243, 244, 245, 246, 247, 272, 273, 274, 275, 276, 277, 278, 279, 285, 286, 287, 288, 289, 290, 291, 292, 293, 294, 295, 296, 297, 298, 299, 300, 301, 302, 303, 304, 305, 306, 307, 308, 309, 316, 317, 318, 319, 320, 321, 322, 323, 324, 325, 326, 327, 328, 329] (by decide +kernel) (by decide +kernel)
set_option maxRecDepth 20000 in
theorem gX6_digest_X6_hashOfSigns : GoodIn wsX6_digest (wsV RX6 238 RX6 yX6_hashOfSigns wsX6_hashOfSigns) := goodIn_app (goodIn_of _ (by decide +kernel)) ggX6_digest_X6_hashOfSigns
set_option maxRecDepth 20000 in
theorem ggX6_digest_X6_hashOfLines : GoodIn wsX6_digest wsX6_hashOfLines := goodIn_r _ [251, 1, 209, 252, 6, 253, 254, 255, 70, 256, 72, 73, 74, 75, 76, 77, 141, 153, 154, 272, 273, 274, 275, 276, 277, 278, 279, 298, 299, 300, 301, 302, 303, 304, 305, 306, 307, 308, 309, 316, 317, 318, 319, 320, 321, 322, 323, 324, 325, 326, 327, 328, 329] (by decide +kernel) (by decide +kernel)
set_option maxRecDepth 20000 in
theorem gX6_digest_X6_hashOfLines : GoodIn wsX6_digest (wsV RX6 241 RX6 yX6_hashOfLines wsX6_hashOfLines) := goodIn_app (goodIn_of _ (by decide +kernel)) ggX6_digest_X6_hashOfLines
set_option maxRecDepth 20000 in
theorem ggX6_digest_X0_fact : GoodIn wsX6_digest wsX0_fact := goodIn_r _ [260, 53, 50, 52, 54, 55, 169, 310, 311, 312, 313, 314, 315] (by decide +kernel) (by decide +kernel)
set_option maxRecDepth 20000 in
theorem gX6_digest_X0_fact : GoodIn wsX6_digest (wsV RX6 164 RX0 yX0_fact wsX0_fact) := goodIn_app (goodIn_of _ (by decide +kernel)) ggX6_digest_X0_fact
set_option maxRecDepth 20000 in
theorem ggX6_digest_X6_roundFact : GoodIn wsX6_digest wsX6_roundFact := goodIn_r _ [264, 1, 265, 266, 2, 267, 268, 269, 13, 270, 43, 18, 271, 179, 180, 47, 181, 182, 183, 45, 46, 48, 49, 50, 51, 52, 53, 54, 55, 272, 273, 274, 275, 276, 277, 278, 279, 298, 299, 300, 301, 302, 303, 304, 305, 306, 307, 308, 309, 285, 286, 287, 288, 289, 290, 291, 292, 293, 294, 295, 296, 297, 310, 311, 312, 313, 314, 315] (by decide +kernel) (by decide +kernel)
set_option maxRecDepth 20000 in
theorem gX6_digest_X6_roundFact : GoodIn wsX6_digest (wsV RX6 168 RX6 yX6_roundFact wsX6_roundFact) := goodIn_app (goodIn_of _ (by decide +kernel)) ggX6_digest_X6_roundFact
theorem dX6_digest_0 : decode cX6_digest 0 = .ok (.aload_n 0, 1) := by decide +kernel
theorem dX6_digest_1 : decode cX6_digest 1 = .ok (.getfield 19, 3) := by decide +kernel
theorem dX6_digest_4 : decode cX6_digest 4 = .ok (.aload_n 0, 1) := by decide +kernel
theorem dX6_digest_5 : decode cX6_digest 5 = .ok (.getfield 10, 3) := by decide +kernel
theorem dX6_digest_8 : decode cX6_digest 8 = .ok (.invokevirtual 131, 3) := by decide +kernel
theorem dX6_digest_11 : decode cX6_digest 11 = .ok (.ldc2_w 230, 3) := by decide +kernel
theorem dX6_digest_14 : decode cX6_digest 14 = .ok (.aload_n 0, 1) := by decide +kernel
theorem dX6_digest_15 : decode cX6_digest 15 = .ok (.getfield 32, 3) := by decide +kernel
theorem dX6_digest_18 : decode cX6_digest 18 = .ok (.getfield 202, 3) := by decide +kernel
theorem dX6_digest_21 : decode cX6_digest 21 = .ok (.i2l, 1) := by decide +kernel
theorem dX6_digest_22 : decode cX6_digest 22 = .ok (.ladd, 1) := by decide +kernel
theorem dX6_digest_23 : decode cX6_digest 23 = .ok (.lstore_n 1, 1) := by decide +kernel
theorem dX6_digest_24 : decode cX6_digest 24 = .ok (.iconst 0, 1) := by decide +kernel
theorem dX6_digest_25 : decode cX6_digest 25 = .ok (.istore_n 3, 1) := by decide +kernel
theorem dX6_digest_26 : decode cX6_digest 26 = .ok (.iload_n 3, 1) := by decide +kernel
theorem dX6_digest_27 : decode cX6_digest 27 = .ok (.bipush 12, 2) := by decide +kernel
theorem dX6_digest_29 : decode cX6_digest 29 = .ok (.if_icmp .ge 22, 3) := by decide +kernel
theorem dX6_digest_32 : decode cX6_digest 32 = .ok (.ldc2_w 232, 3) := by decide +kernel
theorem dX6_digest_35 : decode cX6_digest 35 = .ok (.lload_n 1, 1) := by decide +kernel
theorem dX6_digest_36 : decode cX6_digest 36 = .ok (.lmul, 1) := by decide +kernel
theorem dX6_digest_37 : decode cX6_digest 37 = .ok (.aload_n 0, 1) := by decide +kernel
theorem dX6_digest_38 : decode cX6_digest 38 = .ok (.iload_n 3, 1) := by decide +kernel
theorem dX6_digest_39 : decode cX6_digest 39 = .ok (.invokevirtual 135, 3) := by decide +kernel
theorem dX6_digest_42 : decode cX6_digest 42 = .ok (.i2l, 1) := by decide +kernel
theorem dX6_digest_43 : decode cX6_digest 43 = .ok (.ladd, 1) := by decide +kernel
theorem dX6_digest_44 : decode cX6_digest 44 = .ok (.lstore_n 1, 1) := by decide +kernel
theorem dX6_digest_45 : decode cX6_digest 45 = .ok (.iinc 3 1, 3) := by decide +kernel
theorem dX6_digest_48 : decode cX6_digest 48 = .ok (.goto (-22), 3) := by decide +kernel
theorem dX6_digest_51 : decode cX6_digest 51 = .ok (.iconst 0, 1) := by decide +kernel
theorem dX6_digest_52 : decode cX6_digest 52 = .ok (.istore_n 3, 1) := by decide +kernel
theorem dX6_digest_53 : decode cX6_digest 53 = .ok (.iload_n 3, 1) := by decide +kernel
theorem dX6_digest_54 : decode cX6_digest 54 = .ok (.iconst 5, 1) := by decide +kernel
theorem dX6_digest_55 : decode cX6_digest 55 = .ok (.if_icmp .ge 26, 3) := by decide +kernel
theorem dX6_digest_58 : decode cX6_digest 58 = .ok (.ldc2_w 232, 3) := by decide +kernel
theorem dX6_digest_61 : decode cX6_digest 61 = .ok (.lload_n 1, 1) := by decide +kernel
theorem dX6_digest_62 : decode cX6_digest 62 = .ok (.lmul, 1) := by decide +kernel
theorem dX6_digest_63 : decode cX6_digest 63 = .ok (.aload_n 0, 1) := by decide +kernel
theorem dX6_digest_64 : decode cX6_digest 64 = .ok (.getfield 10, 3) := by decide +kernel
theorem dX6_digest_67 : decode cX6_digest 67 = .ok (.getfield 111, 3) := by decide +kernel
theorem dX6_digest_70 : decode cX6_digest 70 = .ok (.iload_n 3, 1) := by decide +kernel
theorem dX6_digest_71 : decode cX6_digest 71 = .ok (.iaload, 1) := by decide +kernel
theorem dX6_digest_72 : decode cX6_digest 72 = .ok (.i2l, 1) := by decide +kernel
theorem dX6_digest_73 : decode cX6_digest 73 = .ok (.ladd, 1) := by decide +kernel
theorem dX6_digest_74 : decode cX6_digest 74 = .ok (.lstore_n 1, 1) := by decide +kernel
theorem dX6_digest_75 : decode cX6_digest 75 = .ok (.iinc 3 1, 3) := by decide +kernel
theorem dX6_digest_78 : decode cX6_digest 78 = .ok (.goto (-25), 3) := by decide +kernel
theorem dX6_digest_81 : decode cX6_digest 81 = .ok (.aload_n 0, 1) := by decide +kernel
theorem dX6_digest_82 : decode cX6_digest 82 = .ok (.lload_n 1, 1) := by decide +kernel
theorem dX6_digest_83 : decode cX6_digest 83 = .ok (.invokevirtual 234, 3) := by decide +kernel
theorem dX6_digest_86 : decode cX6_digest 86 = .ok (.lstore_n 1, 1) := by decide +kernel
theorem dX6_digest_87 : decode cX6_digest 87 = .ok (.aload_n 0, 1) := by decide +kernel
theorem dX6_digest_88 : decode cX6_digest 88 = .ok (.lload_n 1, 1) := by decide +kernel
theorem dX6_digest_89 : decode cX6_digest 89 = .ok (.invokevirtual 238, 3) := by decide +kernel
theorem dX6_digest_92 : decode cX6_digest 92 = .ok (.lstore_n 1, 1) := by decide +kernel
theorem dX6_digest_93 : decode cX6_digest 93 = .ok (.aload_n 0, 1) := by decide +kernel
theorem dX6_digest_94 : decode cX6_digest 94 = .ok (.lload_n 1, 1) := by decide +kernel
theorem dX6_digest_95 : decode cX6_digest 95 = .ok (.invokevirtual 241, 3) := by decide +kernel
theorem dX6_digest_98 : decode cX6_digest 98 = .ok (.lstore_n 1, 1) := by decide +kernel
theorem dX6_digest_99 : decode cX6_digest 99 = .ok (.iconst 0, 1) := by decide +kernel
theorem dX6_digest_100 : decode cX6_digest 100 = .ok (.istore_n 3, 1) := by decide +kernel
theorem dX6_digest_101 : decode cX6_digest 101 = .ok (.iload_n 3, 1) := by decide +kernel
theorem dX6_digest_102 : decode cX6_digest 102 = .ok (.bipush 6, 2) := by decide +kernel
theorem dX6_digest_104 : decode cX6_digest 104 = .ok (.if_icmp .ge 28, 3) := by decide +kernel
theorem dX6_digest_107 : decode cX6_digest 107 = .ok (.ldc2_w 232, 3) := by decide +kernel
theorem dX6_digest_110 : decode cX6_digest 110 = .ok (.lload_n 1, 1) := by decide +kernel
theorem dX6_digest_111 : decode cX6_digest 111 = .ok (.lmul, 1) := by decide +kernel
theorem dX6_digest_112 : decode cX6_digest 112 = .ok (.aload_n 0, 1) := by decide +kernel
theorem dX6_digest_113 : decode cX6_digest 113 = .ok (.getfield 19, 3) := by decide +kernel
theorem dX6_digest_116 : decode cX6_digest 116 = .ok (.getfield 160, 3) := by decide +kernel
theorem dX6_digest_119 : decode cX6_digest 119 = .ok (.iload_n 3, 1) := by decide +kernel
theorem dX6_digest_120 : decode cX6_digest 120 = .ok (.invokevirtual 164, 3) := by decide +kernel
theorem dX6_digest_123 : decode cX6_digest 123 = .ok (.i2l, 1) := by decide +kernel
theorem dX6_digest_124 : decode cX6_digest 124 = .ok (.ladd, 1) := by decide +kernel
theorem dX6_digest_125 : decode cX6_digest 125 = .ok (.lstore_n 1, 1) := by decide +kernel
theorem dX6_digest_126 : decode cX6_digest 126 = .ok (.iinc 3 1, 3) := by decide +kernel
theorem dX6_digest_129 : decode cX6_digest 129 = .ok (.goto (-28), 3) := by decide +kernel
theorem dX6_digest_132 : decode cX6_digest 132 = .ok (.iconst 0, 1) := by decide +kernel
theorem dX6_digest_133 : decode cX6_digest 133 = .ok (.istore_n 3, 1) := by decide +kernel
theorem dX6_digest_134 : decode cX6_digest 134 = .ok (.iload_n 3, 1) := by decide +kernel
theorem dX6_digest_135 : decode cX6_digest 135 = .ok (.iconst 3, 1) := by decide +kernel
theorem dX6_digest_136 : decode cX6_digest 136 = .ok (.if_icmp .ge 22, 3) := by decide +kernel
theorem dX6_digest_139 : decode cX6_digest 139 = .ok (.ldc2_w 232, 3) := by decide +kernel
theorem dX6_digest_142 : decode cX6_digest 142 = .ok (.lload_n 1, 1) := by decide +kernel
theorem dX6_digest_143 : decode cX6_digest 143 = .ok (.lmul, 1) := by decide +kernel
theorem dX6_digest_144 : decode cX6_digest 144 = .ok (.aload_n 0, 1) := by decide +kernel
theorem dX6_digest_145 : decode cX6_digest 145 = .ok (.iload_n 3, 1) := by decide +kernel
theorem dX6_digest_146 : decode cX6_digest 146 = .ok (.invokevirtual 168, 3) := by decide +kernel
theorem dX6_digest_149 : decode cX6_digest 149 = .ok (.i2l, 1) := by decide +kernel
theorem dX6_digest_150 : decode cX6_digest 150 = .ok (.ladd, 1) := by decide +kernel
theorem dX6_digest_151 : decode cX6_digest 151 = .ok (.lstore_n 1, 1) := by decide +kernel
theorem dX6_digest_152 : decode cX6_digest 152 = .ok (.iinc 3 1, 3) := by decide +kernel
theorem dX6_digest_155 : decode cX6_digest 155 = .ok (.goto (-21), 3) := by decide +kernel
theorem dX6_digest_158 : decode cX6_digest 158 = .ok (.ldc2_w 232, 3) := by decide +kernel
theorem dX6_digest_161 : decode cX6_digest 161 = .ok (.lload_n 1, 1) := by decide +kernel
theorem dX6_digest_162 : decode cX6_digest 162 = .ok (.lmul, 1) := by decide +kernel
theorem dX6_digest_163 : decode cX6_digest 163 = .ok (.aload_n 0, 1) := by decide +kernel
theorem dX6_digest_164 : decode cX6_digest 164 = .ok (.getfield 222, 3) := by decide +kernel
theorem dX6_digest_167 : decode cX6_digest 167 = .ok (.i2l, 1) := by decide +kernel
theorem dX6_digest_168 : decode cX6_digest 168 = .ok (.ladd, 1) := by decide +kernel
theorem dX6_digest_169 : decode cX6_digest 169 = .ok (.lreturn, 1) := by decide +kernel
set_option maxRecDepth 20000 in
theorem ggX6_hashOfKinds_X6_kindFact : GoodIn wsX6_hashOfKinds wsX6_kindFact := goodIn_r _ [6, 7, 8, 9, 10, 11, 12, 13, 14, 15, 16, 17, 18, 19, 20, 21, 22, 23, 24, 25, 26, 27, 28, 29, 30, 31, 32, 33, 34, 35, 36, 37, 38, 39, 40, 41, 42, 43, 44, 45, 46, 47, 48, 49, 50, 51, 52, 53, 54, 55, 56, 57, 58, 59, 60, 61, 62, 63, 64, 65, 66, 67, 68, 69, 70, 71, 72, 73, 74, 75, 76, 77, 78, 79, 80, 81, 82] (by decide +kernel) (by decide +kernel)
set_option maxRecDepth 20000 in
theorem gX6_hashOfKinds_X6_kindFact : GoodIn wsX6_hashOfKinds (wsV RX6 143 RX6 yX6_kindFact wsX6_kindFact) := goodIn_app (goodIn_of _ (by decide +kernel)) ggX6_hashOfKinds_X6_kindFact
theorem dX6_hashOfKinds_0 : decode cX6_hashOfKinds 0 = .ok (.lload_n 1, 1) := by decide +kernel
theorem dX6_hashOfKinds_1 : decode cX6_hashOfKinds 1 = .ok (.lstore_n 3, 1) := by decide +kernel
theorem dX6_hashOfKinds_2 : decode cX6_hashOfKinds 2 = .ok (.iconst 0, 1) := by decide +kernel
theorem dX6_hashOfKinds_3 : decode cX6_hashOfKinds 3 = .ok (.istore 5, 2) := by decide +kernel
theorem dX6_hashOfKinds_5 : decode cX6_hashOfKinds 5 = .ok (.iload 5, 2) := by decide +kernel
theorem dX6_hashOfKinds_7 : decode cX6_hashOfKinds 7 = .ok (.bipush 12, 2) := by decide +kernel
theorem dX6_hashOfKinds_9 : decode cX6_hashOfKinds 9 = .ok (.if_icmp .ge 41, 3) := by decide +kernel
theorem dX6_hashOfKinds_12 : decode cX6_hashOfKinds 12 = .ok (.iconst 0, 1) := by decide +kernel
theorem dX6_hashOfKinds_13 : decode cX6_hashOfKinds 13 = .ok (.istore 6, 2) := by decide +kernel
theorem dX6_hashOfKinds_15 : decode cX6_hashOfKinds 15 = .ok (.iload 6, 2) := by decide +kernel
theorem dX6_hashOfKinds_17 : decode cX6_hashOfKinds 17 = .ok (.bipush 10, 2) := by decide +kernel
theorem dX6_hashOfKinds_19 : decode cX6_hashOfKinds 19 = .ok (.if_icmp .ge 25, 3) := by decide +kernel
theorem dX6_hashOfKinds_22 : decode cX6_hashOfKinds 22 = .ok (.ldc2_w 232, 3) := by decide +kernel
theorem dX6_hashOfKinds_25 : decode cX6_hashOfKinds 25 = .ok (.lload_n 3, 1) := by decide +kernel
theorem dX6_hashOfKinds_26 : decode cX6_hashOfKinds 26 = .ok (.lmul, 1) := by decide +kernel
theorem dX6_hashOfKinds_27 : decode cX6_hashOfKinds 27 = .ok (.aload_n 0, 1) := by decide +kernel
theorem dX6_hashOfKinds_28 : decode cX6_hashOfKinds 28 = .ok (.iload 5, 2) := by decide +kernel
theorem dX6_hashOfKinds_30 : decode cX6_hashOfKinds 30 = .ok (.iload 6, 2) := by decide +kernel
theorem dX6_hashOfKinds_32 : decode cX6_hashOfKinds 32 = .ok (.invokevirtual 143, 3) := by decide +kernel
theorem dX6_hashOfKinds_35 : decode cX6_hashOfKinds 35 = .ok (.i2l, 1) := by decide +kernel
theorem dX6_hashOfKinds_36 : decode cX6_hashOfKinds 36 = .ok (.ladd, 1) := by decide +kernel
theorem dX6_hashOfKinds_37 : decode cX6_hashOfKinds 37 = .ok (.lstore_n 3, 1) := by decide +kernel
theorem dX6_hashOfKinds_38 : decode cX6_hashOfKinds 38 = .ok (.iinc 6 1, 3) := by decide +kernel
theorem dX6_hashOfKinds_41 : decode cX6_hashOfKinds 41 = .ok (.goto (-26), 3) := by decide +kernel
theorem dX6_hashOfKinds_44 : decode cX6_hashOfKinds 44 = .ok (.iinc 5 1, 3) := by decide +kernel
theorem dX6_hashOfKinds_47 : decode cX6_hashOfKinds 47 = .ok (.goto (-42), 3) := by decide +kernel
theorem dX6_hashOfKinds_50 : decode cX6_hashOfKinds 50 = .ok (.lload_n 3, 1) := by decide +kernel
theorem dX6_hashOfKinds_51 : decode cX6_hashOfKinds 51 = .ok (.lreturn, 1) := by decide +kernel
set_option maxRecDepth 20000 in
theorem ggX6_hashOfSigns_X6_signFact : GoodIn wsX6_hashOfSigns wsX6_signFact := goodIn_r _ [8, 1, 9, 10, 11, 12, 13, 14, 15, 16, 17, 18, 19, 20, 21, 22, 23, 24, 25, 26, 27, 28, 29, 30, 31, 32, 33, 34, 35, 36, 37, 38, 39, 40, 41, 42, 43, 44, 45, 46, 47, 48, 49, 50, 51, 52, 53, 54, 55, 56, 57, 58, 59, 60, 61, 62, 63, 64, 65, 66, 67, 68, 69, 70, 71, 72, 73, 74, 75, 76, 77, 78, 79, 80, 81, 82, 83, 84, 85, 86, 87, 88] (by decide +kernel) (by decide +kernel)
set_option maxRecDepth 20000 in
theorem gX6_hashOfSigns_X6_signFact : GoodIn wsX6_hashOfSigns (wsV RX6 139 RX6 yX6_signFact wsX6_signFact) := goodIn_app (goodIn_of _ (by decide +kernel)) ggX6_hashOfSigns_X6_signFact
theorem dX6_hashOfSigns_0 : decode cX6_hashOfSigns 0 = .ok (.lload_n 1, 1) := by decide +kernel
theorem dX6_hashOfSigns_1 : decode cX6_hashOfSigns 1 = .ok (.lstore_n 3, 1) := by decide +kernel
theorem dX6_hashOfSigns_2 : decode cX6_hashOfSigns 2 = .ok (.iconst 0, 1) := by decide +kernel
theorem dX6_hashOfSigns_3 : decode cX6_hashOfSigns 3 = .ok (.istore 5, 2) := by decide +kernel
theorem dX6_hashOfSigns_5 : decode cX6_hashOfSigns 5 = .ok (.iload 5, 2) := by decide +kernel
theorem dX6_hashOfSigns_7 : decode cX6_hashOfSigns 7 = .ok (.aload_n 0, 1) := by decide +kernel
theorem dX6_hashOfSigns_8 : decode cX6_hashOfSigns 8 = .ok (.getfield 10, 3) := by decide +kernel
theorem dX6_hashOfSigns_11 : decode cX6_hashOfSigns 11 = .ok (.getfield 48, 3) := by decide +kernel
theorem dX6_hashOfSigns_14 : decode cX6_hashOfSigns 14 = .ok (.if_icmp .ge 41, 3) := by decide +kernel
theorem dX6_hashOfSigns_17 : decode cX6_hashOfSigns 17 = .ok (.iconst 0, 1) := by decide +kernel
theorem dX6_hashOfSigns_18 : decode cX6_hashOfSigns 18 = .ok (.istore 6, 2) := by decide +kernel
theorem dX6_hashOfSigns_20 : decode cX6_hashOfSigns 20 = .ok (.iload 6, 2) := by decide +kernel
theorem dX6_hashOfSigns_22 : decode cX6_hashOfSigns 22 = .ok (.bipush 9, 2) := by decide +kernel
theorem dX6_hashOfSigns_24 : decode cX6_hashOfSigns 24 = .ok (.if_icmp .ge 25, 3) := by decide +kernel
theorem dX6_hashOfSigns_27 : decode cX6_hashOfSigns 27 = .ok (.ldc2_w 232, 3) := by decide +kernel
theorem dX6_hashOfSigns_30 : decode cX6_hashOfSigns 30 = .ok (.lload_n 3, 1) := by decide +kernel
theorem dX6_hashOfSigns_31 : decode cX6_hashOfSigns 31 = .ok (.lmul, 1) := by decide +kernel
theorem dX6_hashOfSigns_32 : decode cX6_hashOfSigns 32 = .ok (.aload_n 0, 1) := by decide +kernel
theorem dX6_hashOfSigns_33 : decode cX6_hashOfSigns 33 = .ok (.iload 5, 2) := by decide +kernel
theorem dX6_hashOfSigns_35 : decode cX6_hashOfSigns 35 = .ok (.iload 6, 2) := by decide +kernel
theorem dX6_hashOfSigns_37 : decode cX6_hashOfSigns 37 = .ok (.invokevirtual 139, 3) := by decide +kernel
theorem dX6_hashOfSigns_40 : decode cX6_hashOfSigns 40 = .ok (.i2l, 1) := by decide +kernel
theorem dX6_hashOfSigns_41 : decode cX6_hashOfSigns 41 = .ok (.ladd, 1) := by decide +kernel
theorem dX6_hashOfSigns_42 : decode cX6_hashOfSigns 42 = .ok (.lstore_n 3, 1) := by decide +kernel
theorem dX6_hashOfSigns_43 : decode cX6_hashOfSigns 43 = .ok (.iinc 6 1, 3) := by decide +kernel
theorem dX6_hashOfSigns_46 : decode cX6_hashOfSigns 46 = .ok (.goto (-26), 3) := by decide +kernel
theorem dX6_hashOfSigns_49 : decode cX6_hashOfSigns 49 = .ok (.iinc 5 1, 3) := by decide +kernel
theorem dX6_hashOfSigns_52 : decode cX6_hashOfSigns 52 = .ok (.goto (-47), 3) := by decide +kernel
theorem dX6_hashOfSigns_55 : decode cX6_hashOfSigns 55 = .ok (.lload_n 3, 1) := by decide +kernel
theorem dX6_hashOfSigns_56 : decode cX6_hashOfSigns 56 = .ok (.lreturn, 1) := by decide +kernel
set_option maxRecDepth 20000 in
theorem ggX6_hashOfLines_X2_fact : GoodIn wsX6_hashOfLines wsX2_fact := goodIn_r _ [9, 10, 11, 12, 13, 14, 15, 16, 17, 18, 39, 40, 41, 42, 43, 44, 45, 46, 47, 48, 49, 50, 51, 52] (by decide +kernel) (by decide +kernel)
set_option maxRecDepth 20000 in
theorem gX6_hashOfLines_X2_fact : GoodIn wsX6_hashOfLines (wsV RX6 157 RX2 yX2_fact wsX2_fact) := goodIn_app (goodIn_of _ (by decide +kernel)) ggX6_hashOfLines_X2_fact
theorem dX6_hashOfLines_0 : decode cX6_hashOfLines 0 = .ok (.lload_n 1, 1) := by decide +kernel
theorem dX6_hashOfLines_1 : decode cX6_hashOfLines 1 = .ok (.lstore_n 3, 1) := by decide +kernel
theorem dX6_hashOfLines_2 : decode cX6_hashOfLines 2 = .ok (.iconst 0, 1) := by decide +kernel
theorem dX6_hashOfLines_3 : decode cX6_hashOfLines 3 = .ok (.istore 5, 2) := by decide +kernel
theorem dX6_hashOfLines_5 : decode cX6_hashOfLines 5 = .ok (.iload 5, 2) := by decide +kernel
theorem dX6_hashOfLines_7 : decode cX6_hashOfLines 7 = .ok (.aload_n 0, 1) := by decide +kernel
theorem dX6_hashOfLines_8 : decode cX6_hashOfLines 8 = .ok (.getfield 19, 3) := by decide +kernel
theorem dX6_hashOfLines_11 : decode cX6_hashOfLines 11 = .ok (.getfield 146, 3) := by decide +kernel
theorem dX6_hashOfLines_14 : decode cX6_hashOfLines 14 = .ok (.getfield 150, 3) := by decide +kernel
theorem dX6_hashOfLines_17 : decode cX6_hashOfLines 17 = .ok (.if_icmp .ge 47, 3) := by decide +kernel
theorem dX6_hashOfLines_20 : decode cX6_hashOfLines 20 = .ok (.iconst 0, 1) := by decide +kernel
theorem dX6_hashOfLines_21 : decode cX6_hashOfLines 21 = .ok (.istore 6, 2) := by decide +kernel
theorem dX6_hashOfLines_23 : decode cX6_hashOfLines 23 = .ok (.iload 6, 2) := by decide +kernel
theorem dX6_hashOfLines_25 : decode cX6_hashOfLines 25 = .ok (.bipush 8, 2) := by decide +kernel
theorem dX6_hashOfLines_27 : decode cX6_hashOfLines 27 = .ok (.if_icmp .ge 31, 3) := by decide +kernel
theorem dX6_hashOfLines_30 : decode cX6_hashOfLines 30 = .ok (.ldc2_w 232, 3) := by decide +kernel
theorem dX6_hashOfLines_33 : decode cX6_hashOfLines 33 = .ok (.lload_n 3, 1) := by decide +kernel
theorem dX6_hashOfLines_34 : decode cX6_hashOfLines 34 = .ok (.lmul, 1) := by decide +kernel
theorem dX6_hashOfLines_35 : decode cX6_hashOfLines 35 = .ok (.aload_n 0, 1) := by decide +kernel
theorem dX6_hashOfLines_36 : decode cX6_hashOfLines 36 = .ok (.getfield 19, 3) := by decide +kernel
theorem dX6_hashOfLines_39 : decode cX6_hashOfLines 39 = .ok (.getfield 146, 3) := by decide +kernel
theorem dX6_hashOfLines_42 : decode cX6_hashOfLines 42 = .ok (.iload 5, 2) := by decide +kernel
theorem dX6_hashOfLines_44 : decode cX6_hashOfLines 44 = .ok (.iload 6, 2) := by decide +kernel
theorem dX6_hashOfLines_46 : decode cX6_hashOfLines 46 = .ok (.invokevirtual 157, 3) := by decide +kernel
theorem dX6_hashOfLines_49 : decode cX6_hashOfLines 49 = .ok (.i2l, 1) := by decide +kernel
theorem dX6_hashOfLines_50 : decode cX6_hashOfLines 50 = .ok (.ladd, 1) := by decide +kernel
theorem dX6_hashOfLines_51 : decode cX6_hashOfLines 51 = .ok (.lstore_n 3, 1) := by decide +kernel
theorem dX6_hashOfLines_52 : decode cX6_hashOfLines 52 = .ok (.iinc 6 1, 3) := by decide +kernel
theorem dX6_hashOfLines_55 : decode cX6_hashOfLines 55 = .ok (.goto (-32), 3) := by decide +kernel
theorem dX6_hashOfLines_58 : decode cX6_hashOfLines 58 = .ok (.iinc 5 1, 3) := by decide +kernel
theorem dX6_hashOfLines_61 : decode cX6_hashOfLines 61 = .ok (.goto (-56), 3) := by decide +kernel
theorem dX6_hashOfLines_64 : decode cX6_hashOfLines 64 = .ok (.lload_n 3, 1) := by decide +kernel
theorem dX6_hashOfLines_65 : decode cX6_hashOfLines 65 = .ok (.lreturn, 1) := by decide +kernel
set_option maxRecDepth 20000 in
theorem ggX6_saveState_X3_copyFrom : GoodIn wsX6_saveState wsX3_copyFrom := goodIn_r _ [11, 12, 13, 14, 15, 16, 17, 18, 19, 20, 21, 22, 23, 24, 25, 10, 26, 27, 28, 29, 30, 31, 32, 53, 54, 55, 56, 57, 58, 59, 60, 61, 62, 63, 64, 65] (by decide +kernel) (by decide +kernel)
set_option maxRecDepth 20000 in
theorem gX6_saveState_X3_copyFrom : GoodIn wsX6_saveState (wsV RX6 180 RX3 yX3_copyFrom wsX3_copyFrom) := goodIn_app (goodIn_of _ (by decide +kernel)) ggX6_saveState_X3_copyFrom
theorem dX6_saveState_0 : decode cX6_saveState 0 = .ok (.aload_n 0, 1) := by decide +kernel
theorem dX6_saveState_1 : decode cX6_saveState 1 = .ok (.getfield 222, 3) := by decide +kernel
theorem dX6_saveState_4 : decode cX6_saveState 4 = .ok (.iconst 4, 1) := by decide +kernel
theorem dX6_saveState_5 : decode cX6_saveState 5 = .ok (.if_icmp .ne 25, 3) := by decide +kernel
theorem dX6_saveState_8 : decode cX6_saveState 8 = .ok (.aload_n 0, 1) := by decide +kernel
theorem dX6_saveState_9 : decode cX6_saveState 9 = .ok (.aload_n 0, 1) := by decide +kernel
theorem dX6_saveState_10 : decode cX6_saveState 10 = .ok (.getfield 227, 3) := by decide +kernel
theorem dX6_saveState_13 : decode cX6_saveState 13 = .ok (.iconst 1, 1) := by decide +kernel
theorem dX6_saveState_14 : decode cX6_saveState 14 = .ok (.iadd, 1) := by decide +kernel
theorem dX6_saveState_15 : decode cX6_saveState 15 = .ok (.iconst 4, 1) := by decide +kernel
theorem dX6_saveState_16 : decode cX6_saveState 16 = .ok (.irem, 1) := by decide +kernel
theorem dX6_saveState_17 : decode cX6_saveState 17 = .ok (.putfield 227, 3) := by decide +kernel
theorem dX6_saveState_20 : decode cX6_saveState 20 = .ok (.aload_n 0, 1) := by decide +kernel
theorem dX6_saveState_21 : decode cX6_saveState 21 = .ok (.dup, 1) := by decide +kernel
theorem dX6_saveState_22 : decode cX6_saveState 22 = .ok (.getfield 222, 3) := by decide +kernel
theorem dX6_saveState_25 : decode cX6_saveState 25 = .ok (.iconst 1, 1) := by decide +kernel
theorem dX6_saveState_26 : decode cX6_saveState 26 = .ok (.isub, 1) := by decide +kernel
theorem dX6_saveState_27 : decode cX6_saveState 27 = .ok (.putfield 222, 3) := by decide +kernel
theorem dX6_saveState_30 : decode cX6_saveState 30 = .ok (.aload_n 0, 1) := by decide +kernel
theorem dX6_saveState_31 : decode cX6_saveState 31 = .ok (.getfield 36, 3) := by decide +kernel
theorem dX6_saveState_34 : decode cX6_saveState 34 = .ok (.aload_n 0, 1) := by decide +kernel
theorem dX6_saveState_35 : decode cX6_saveState 35 = .ok (.getfield 227, 3) := by decide +kernel
theorem dX6_saveState_38 : decode cX6_saveState 38 = .ok (.aload_n 0, 1) := by decide +kernel
theorem dX6_saveState_39 : decode cX6_saveState 39 = .ok (.getfield 222, 3) := by decide +kernel
theorem dX6_saveState_42 : decode cX6_saveState 42 = .ok (.iadd, 1) := by decide +kernel
theorem dX6_saveState_43 : decode cX6_saveState 43 = .ok (.iconst 4, 1) := by decide +kernel
theorem dX6_saveState_44 : decode cX6_saveState 44 = .ok (.irem, 1) := by decide +kernel
theorem dX6_saveState_45 : decode cX6_saveState 45 = .ok (.aaload, 1) := by decide +kernel
theorem dX6_saveState_46 : decode cX6_saveState 46 = .ok (.astore_n 1, 1) := by decide +kernel
theorem dX6_saveState_47 : decode cX6_saveState 47 = .ok (.aload_n 1, 1) := by decide +kernel
theorem dX6_saveState_48 : decode cX6_saveState 48 = .ok (.ifnull 11, 3) := by decide +kernel
theorem dX6_saveState_51 : decode cX6_saveState 51 = .ok (.aload_n 1, 1) := by decide +kernel
theorem dX6_saveState_52 : decode cX6_saveState 52 = .ok (.aload_n 0, 1) := by decide +kernel
theorem dX6_saveState_53 : decode cX6_saveState 53 = .ok (.getfield 10, 3) := by decide +kernel
theorem dX6_saveState_56 : decode cX6_saveState 56 = .ok (.invokevirtual 180, 3) := by decide +kernel
theorem dX6_saveState_59 : decode cX6_saveState 59 = .ok (.aload_n 0, 1) := by decide +kernel
theorem dX6_saveState_60 : decode cX6_saveState 60 = .ok (.dup, 1) := by decide +kernel
theorem dX6_saveState_61 : decode cX6_saveState 61 = .ok (.getfield 222, 3) := by decide +kernel
theorem dX6_saveState_64 : decode cX6_saveState 64 = .ok (.iconst 1, 1) := by decide +kernel
theorem dX6_saveState_65 : decode cX6_saveState 65 = .ok (.iadd, 1) := by decide +kernel
theorem dX6_saveState_66 : decode cX6_saveState 66 = .ok (.putfield 222, 3) := by decide +kernel
theorem dX6_saveState_69 : decode cX6_saveState 69 = .ok (.aload_n 0, 1) := by decide +kernel
theorem dX6_saveState_70 : decode cX6_saveState 70 = .ok (.getfield 19, 3) := by decide +kernel
theorem dX6_saveState_73 : decode cX6_saveState 73 = .ok (.iconst 0, 1) := by decide +kernel
theorem dX6_saveState_74 : decode cX6_saveState 74 = .ok (.putfield 183, 3) := by decide +kernel
theorem dX6_saveState_77 : decode cX6_saveState 77 = .ok (.return_, 1) := by decide +kernel
theorem dX6_numberOf_0 : decode cX6_numberOf 0 = .ok (.iload_n 1, 1) := by decide +kernel
theorem dX6_numberOf_1 : decode cX6_numberOf 1 = .ok (.iconst 4, 1) := by decide +kernel
theorem dX6_numberOf_2 : decode cX6_numberOf 2 = .ok (.if_icmp .ge 21, 3) := by decide +kernel
theorem dX6_numberOf_5 : decode cX6_numberOf 5 = .ok (.iload_n 1, 1) := by decide +kernel
theorem dX6_numberOf_6 : decode cX6_numberOf 6 = .ok (.ifCond .lt 15, 3) := by decide +kernel
theorem dX6_numberOf_9 : decode cX6_numberOf 9 = .ok (.aload_n 0, 1) := by decide +kernel
theorem dX6_numberOf_10 : decode cX6_numberOf 10 = .ok (.getfield 10, 3) := by decide +kernel
theorem dX6_numberOf_13 : decode cX6_numberOf 13 = .ok (.getfield 97, 3) := by decide +kernel
theorem dX6_numberOf_16 : decode cX6_numberOf 16 = .ok (.iload_n 1, 1) := by decide +kernel
theorem dX6_numberOf_17 : decode cX6_numberOf 17 = .ok (.iaload, 1) := by decide +kernel
theorem dX6_numberOf_18 : decode cX6_numberOf 18 = .ok (.goto 4, 3) := by decide +kernel
theorem dX6_numberOf_21 : decode cX6_numberOf 21 = .ok (.iconst (-1), 1) := by decide +kernel
theorem dX6_numberOf_22 : decode cX6_numberOf 22 = .ok (.ireturn, 1) := by decide +kernel
theorem dX6_numberOf_23 : decode cX6_numberOf 23 = .ok (.iload_n 1, 1) := by decide +kernel
theorem dX6_numberOf_24 : decode cX6_numberOf 24 = .ok (.bipush 9, 2) := by decide +kernel
theorem dX6_numberOf_26 : decode cX6_numberOf 26 = .ok (.if_icmp .ge 15, 3) := by decide +kernel
theorem dX6_numberOf_29 : decode cX6_numberOf 29 = .ok (.aload_n 0, 1) := by decide +kernel
theorem dX6_numberOf_30 : decode cX6_numberOf 30 = .ok (.getfield 10, 3) := by decide +kernel
theorem dX6_numberOf_33 : decode cX6_numberOf 33 = .ok (.getfield 82, 3) := by decide +kernel
theorem dX6_numberOf_36 : decode cX6_numberOf 36 = .ok (.iload_n 1, 1) := by decide +kernel
theorem dX6_numberOf_37 : decode cX6_numberOf 37 = .ok (.iconst 4, 1) := by decide +kernel
theorem dX6_numberOf_38 : decode cX6_numberOf 38 = .ok (.isub, 1) := by decide +kernel
theorem dX6_numberOf_39 : decode cX6_numberOf 39 = .ok (.iaload, 1) := by decide +kernel
theorem dX6_numberOf_40 : decode cX6_numberOf 40 = .ok (.ireturn, 1) := by decide +kernel
theorem dX6_numberOf_41 : decode cX6_numberOf 41 = .ok (.iload_n 1, 1) := by decide +kernel
theorem dX6_numberOf_42 : decode cX6_numberOf 42 = .ok (.lookupswitch 42 #[(9, 26), (10, 34)], 26) := by decide +kernel
theorem dX6_numberOf_68 : decode cX6_numberOf 68 = .ok (.aload_n 0, 1) := by decide +kernel
theorem dX6_numberOf_69 : decode cX6_numberOf 69 = .ok (.getfield 10, 3) := by decide +kernel
theorem dX6_numberOf_72 : decode cX6_numberOf 72 = .ok (.getfield 48, 3) := by decide +kernel
theorem dX6_numberOf_75 : decode cX6_numberOf 75 = .ok (.ireturn, 1) := by decide +kernel
theorem dX6_numberOf_76 : decode cX6_numberOf 76 = .ok (.aload_n 0, 1) := by decide +kernel
theorem dX6_numberOf_77 : decode cX6_numberOf 77 = .ok (.getfield 19, 3) := by decide +kernel
theorem dX6_numberOf_80 : decode cX6_numberOf 80 = .ok (.getfield 174, 3) := by decide +kernel
theorem dX6_numberOf_83 : decode cX6_numberOf 83 = .ok (.ireturn, 1) := by decide +kernel
theorem dX6_numberOf_84 : decode cX6_numberOf 84 = .ok (.aload_n 0, 1) := by decide +kernel
theorem dX6_numberOf_85 : decode cX6_numberOf 85 = .ok (.getfield 19, 3) := by decide +kernel
theorem dX6_numberOf_88 : decode cX6_numberOf 88 = .ok (.getfield 177, 3) := by decide +kernel
theorem dX6_numberOf_91 : decode cX6_numberOf 91 = .ok (.ireturn, 1) := by decide +kernel
set_option maxRecDepth 20000 in
theorem ggX6_signFact_X3_classOf : GoodIn wsX6_signFact wsX3_classOf := goodIn_r _ [14, 15, 16, 17, 18, 43, 44, 45, 46, 47, 48, 49, 50, 51, 52, 53, 54, 55] (by decide +kernel) (by decide +kernel)
set_option maxRecDepth 20000 in
theorem gX6_signFact_X3_classOf : GoodIn wsX6_signFact (wsV RX6 247 RX3 yX3_classOf wsX3_classOf) := goodIn_app (goodIn_of _ (by decide +kernel)) ggX6_signFact_X3_classOf
set_option maxRecDepth 20000 in
theorem ggX6_signFact_X1_lineOf : GoodIn wsX6_signFact wsX1_lineOf := goodIn_r _ [23, 24, 25, 26, 27, 28, 29, 30, 31, 32, 33, 34, 11, 12, 13, 14, 15, 16, 17, 18, 56, 57, 58, 59, 60, 61, 62, 63, 64, 65, 66, 67, 43, 44, 45, 46, 47, 48, 49, 50, 51, 52, 53, 54, 55, 68, 69, 70, 71, 72, 73, 74, 75, 76, 77, 78, 79, 80, 81] (by decide +kernel) (by decide +kernel)
set_option maxRecDepth 20000 in
theorem gX6_signFact_X1_lineOf : GoodIn wsX6_signFact (wsV RX6 257 RX1 yX1_lineOf wsX1_lineOf) := goodIn_app (goodIn_of _ (by decide +kernel)) ggX6_signFact_X1_lineOf
theorem dX6_signFact_0 : decode cX6_signFact 0 = .ok (.iload_n 1, 1) := by decide +kernel
theorem dX6_signFact_1 : decode cX6_signFact 1 = .ok (.ifCond .lt 9, 3) := by decide +kernel
theorem dX6_signFact_4 : decode cX6_signFact 4 = .ok (.iload_n 1, 1) := by decide +kernel
theorem dX6_signFact_5 : decode cX6_signFact 5 = .ok (.bipush 40, 2) := by decide +kernel
theorem dX6_signFact_7 : decode cX6_signFact 7 = .ok (.if_icmp .lt 5, 3) := by decide +kernel
theorem dX6_signFact_10 : decode cX6_signFact 10 = .ok (.iconst (-1), 1) := by decide +kernel
theorem dX6_signFact_11 : decode cX6_signFact 11 = .ok (.ireturn, 1) := by decide +kernel
theorem dX6_signFact_12 : decode cX6_signFact 12 = .ok (.iload_n 2, 1) := by decide +kernel
theorem dX6_signFact_13 : decode cX6_signFact 13 = .ok (.tableswitch 142 0 7 #[47, 57, 67, 77, 87, 97, 106, 124], 47) := by decide +kernel
theorem dX6_signFact_60 : decode cX6_signFact 60 = .ok (.aload_n 0, 1) := by decide +kernel
theorem dX6_signFact_61 : decode cX6_signFact 61 = .ok (.getfield 10, 3) := by decide +kernel
theorem dX6_signFact_64 : decode cX6_signFact 64 = .ok (.getfield 187, 3) := by decide +kernel
theorem dX6_signFact_67 : decode cX6_signFact 67 = .ok (.iload_n 1, 1) := by decide +kernel
theorem dX6_signFact_68 : decode cX6_signFact 68 = .ok (.iaload, 1) := by decide +kernel
theorem dX6_signFact_69 : decode cX6_signFact 69 = .ok (.ireturn, 1) := by decide +kernel
theorem dX6_signFact_70 : decode cX6_signFact 70 = .ok (.aload_n 0, 1) := by decide +kernel
theorem dX6_signFact_71 : decode cX6_signFact 71 = .ok (.getfield 10, 3) := by decide +kernel
theorem dX6_signFact_74 : decode cX6_signFact 74 = .ok (.getfield 72, 3) := by decide +kernel
theorem dX6_signFact_77 : decode cX6_signFact 77 = .ok (.iload_n 1, 1) := by decide +kernel
theorem dX6_signFact_78 : decode cX6_signFact 78 = .ok (.iaload, 1) := by decide +kernel
theorem dX6_signFact_79 : decode cX6_signFact 79 = .ok (.ireturn, 1) := by decide +kernel
theorem dX6_signFact_80 : decode cX6_signFact 80 = .ok (.aload_n 0, 1) := by decide +kernel
theorem dX6_signFact_81 : decode cX6_signFact 81 = .ok (.getfield 10, 3) := by decide +kernel
theorem dX6_signFact_84 : decode cX6_signFact 84 = .ok (.getfield 76, 3) := by decide +kernel
theorem dX6_signFact_87 : decode cX6_signFact 87 = .ok (.iload_n 1, 1) := by decide +kernel
theorem dX6_signFact_88 : decode cX6_signFact 88 = .ok (.iaload, 1) := by decide +kernel
theorem dX6_signFact_89 : decode cX6_signFact 89 = .ok (.ireturn, 1) := by decide +kernel
theorem dX6_signFact_90 : decode cX6_signFact 90 = .ok (.aload_n 0, 1) := by decide +kernel
theorem dX6_signFact_91 : decode cX6_signFact 91 = .ok (.getfield 10, 3) := by decide +kernel
theorem dX6_signFact_94 : decode cX6_signFact 94 = .ok (.getfield 244, 3) := by decide +kernel
theorem dX6_signFact_97 : decode cX6_signFact 97 = .ok (.iload_n 1, 1) := by decide +kernel
theorem dX6_signFact_98 : decode cX6_signFact 98 = .ok (.iaload, 1) := by decide +kernel
theorem dX6_signFact_99 : decode cX6_signFact 99 = .ok (.ireturn, 1) := by decide +kernel
theorem dX6_signFact_100 : decode cX6_signFact 100 = .ok (.aload_n 0, 1) := by decide +kernel
theorem dX6_signFact_101 : decode cX6_signFact 101 = .ok (.getfield 10, 3) := by decide +kernel
theorem dX6_signFact_104 : decode cX6_signFact 104 = .ok (.getfield 194, 3) := by decide +kernel
theorem dX6_signFact_107 : decode cX6_signFact 107 = .ok (.iload_n 1, 1) := by decide +kernel
theorem dX6_signFact_108 : decode cX6_signFact 108 = .ok (.iaload, 1) := by decide +kernel
theorem dX6_signFact_109 : decode cX6_signFact 109 = .ok (.ireturn, 1) := by decide +kernel
theorem dX6_signFact_110 : decode cX6_signFact 110 = .ok (.aload_n 0, 1) := by decide +kernel
theorem dX6_signFact_111 : decode cX6_signFact 111 = .ok (.getfield 10, 3) := by decide +kernel
theorem dX6_signFact_114 : decode cX6_signFact 114 = .ok (.iload_n 1, 1) := by decide +kernel
theorem dX6_signFact_115 : decode cX6_signFact 115 = .ok (.invokevirtual 247, 3) := by decide +kernel
theorem dX6_signFact_118 : decode cX6_signFact 118 = .ok (.ireturn, 1) := by decide +kernel
theorem dX6_signFact_119 : decode cX6_signFact 119 = .ok (.aload_n 0, 1) := by decide +kernel
theorem dX6_signFact_120 : decode cX6_signFact 120 = .ok (.getfield 19, 3) := by decide +kernel
theorem dX6_signFact_123 : decode cX6_signFact 123 = .ok (.getfield 250, 3) := by decide +kernel
theorem dX6_signFact_126 : decode cX6_signFact 126 = .ok (.iload_n 1, 1) := by decide +kernel
theorem dX6_signFact_127 : decode cX6_signFact 127 = .ok (.baload, 1) := by decide +kernel
theorem dX6_signFact_128 : decode cX6_signFact 128 = .ok (.ifCond .eq 7, 3) := by decide +kernel
theorem dX6_signFact_131 : decode cX6_signFact 131 = .ok (.iconst 1, 1) := by decide +kernel
theorem dX6_signFact_132 : decode cX6_signFact 132 = .ok (.goto 4, 3) := by decide +kernel
theorem dX6_signFact_135 : decode cX6_signFact 135 = .ok (.iconst 0, 1) := by decide +kernel
theorem dX6_signFact_136 : decode cX6_signFact 136 = .ok (.ireturn, 1) := by decide +kernel
theorem dX6_signFact_137 : decode cX6_signFact 137 = .ok (.aload_n 0, 1) := by decide +kernel
theorem dX6_signFact_138 : decode cX6_signFact 138 = .ok (.getfield 19, 3) := by decide +kernel
theorem dX6_signFact_141 : decode cX6_signFact 141 = .ok (.getfield 254, 3) := by decide +kernel
theorem dX6_signFact_144 : decode cX6_signFact 144 = .ok (.iload_n 1, 1) := by decide +kernel
theorem dX6_signFact_145 : decode cX6_signFact 145 = .ok (.baload, 1) := by decide +kernel
theorem dX6_signFact_146 : decode cX6_signFact 146 = .ok (.ifCond .eq 7, 3) := by decide +kernel
theorem dX6_signFact_149 : decode cX6_signFact 149 = .ok (.iconst 1, 1) := by decide +kernel
theorem dX6_signFact_150 : decode cX6_signFact 150 = .ok (.goto 4, 3) := by decide +kernel
theorem dX6_signFact_153 : decode cX6_signFact 153 = .ok (.iconst 0, 1) := by decide +kernel
theorem dX6_signFact_154 : decode cX6_signFact 154 = .ok (.ireturn, 1) := by decide +kernel
theorem dX6_signFact_155 : decode cX6_signFact 155 = .ok (.aload_n 0, 1) := by decide +kernel
theorem dX6_signFact_156 : decode cX6_signFact 156 = .ok (.getfield 19, 3) := by decide +kernel
theorem dX6_signFact_159 : decode cX6_signFact 159 = .ok (.aload_n 0, 1) := by decide +kernel
theorem dX6_signFact_160 : decode cX6_signFact 160 = .ok (.getfield 10, 3) := by decide +kernel
theorem dX6_signFact_163 : decode cX6_signFact 163 = .ok (.iload_n 1, 1) := by decide +kernel
theorem dX6_signFact_164 : decode cX6_signFact 164 = .ok (.invokevirtual 257, 3) := by decide +kernel
theorem dX6_signFact_167 : decode cX6_signFact 167 = .ok (.ireturn, 1) := by decide +kernel
set_option maxRecDepth 20000 in
theorem ggX6_kindFact_X2_countOfKind : GoodIn wsX6_kindFact wsX2_countOfKind := goodIn_r _ [13, 14, 15, 16, 63, 64, 65, 66, 67, 68, 69, 70, 71, 72, 73, 74, 75, 76] (by decide +kernel) (by decide +kernel)
set_option maxRecDepth 20000 in
theorem gX6_kindFact_X2_countOfKind : GoodIn wsX6_kindFact (wsV RX6 261 RX2 yX2_countOfKind wsX2_countOfKind) := goodIn_app (goodIn_of _ (by decide +kernel)) ggX6_kindFact_X2_countOfKind
set_option maxRecDepth 20000 in
theorem ggX6_kindFact_X3_limitAt : GoodIn wsX6_kindFact wsX3_limitAt := goodIn_r _ [21, 22, 23, 32, 33, 34, 35, 36, 37, 38, 39, 40, 41, 42, 43, 44] (by decide +kernel) (by decide +kernel)
set_option maxRecDepth 20000 in
theorem gX6_kindFact_X3_limitAt : GoodIn wsX6_kindFact (wsV RX6 273 RX3 yX3_limitAt wsX3_limitAt) := goodIn_app (goodIn_of _ (by decide +kernel)) ggX6_kindFact_X3_limitAt
theorem dX6_kindFact_0 : decode cX6_kindFact 0 = .ok (.iload_n 1, 1) := by decide +kernel
theorem dX6_kindFact_1 : decode cX6_kindFact 1 = .ok (.ifCond .lt 9, 3) := by decide +kernel
theorem dX6_kindFact_4 : decode cX6_kindFact 4 = .ok (.iload_n 1, 1) := by decide +kernel
theorem dX6_kindFact_5 : decode cX6_kindFact 5 = .ok (.bipush 12, 2) := by decide +kernel
theorem dX6_kindFact_7 : decode cX6_kindFact 7 = .ok (.if_icmp .lt 5, 3) := by decide +kernel
theorem dX6_kindFact_10 : decode cX6_kindFact 10 = .ok (.iconst (-1), 1) := by decide +kernel
theorem dX6_kindFact_11 : decode cX6_kindFact 11 = .ok (.ireturn, 1) := by decide +kernel
theorem dX6_kindFact_12 : decode cX6_kindFact 12 = .ok (.iload_n 2, 1) := by decide +kernel
theorem dX6_kindFact_13 : decode cX6_kindFact 13 = .ok (.tableswitch 110 0 9 #[55, 65, 75, 110, 110, 110, 110, 110, 85, 97], 55) := by decide +kernel
theorem dX6_kindFact_68 : decode cX6_kindFact 68 = .ok (.aload_n 0, 1) := by decide +kernel
theorem dX6_kindFact_69 : decode cX6_kindFact 69 = .ok (.getfield 10, 3) := by decide +kernel
theorem dX6_kindFact_72 : decode cX6_kindFact 72 = .ok (.getfield 100, 3) := by decide +kernel
theorem dX6_kindFact_75 : decode cX6_kindFact 75 = .ok (.iload_n 1, 1) := by decide +kernel
theorem dX6_kindFact_76 : decode cX6_kindFact 76 = .ok (.iaload, 1) := by decide +kernel
theorem dX6_kindFact_77 : decode cX6_kindFact 77 = .ok (.ireturn, 1) := by decide +kernel
theorem dX6_kindFact_78 : decode cX6_kindFact 78 = .ok (.aload_n 0, 1) := by decide +kernel
theorem dX6_kindFact_79 : decode cX6_kindFact 79 = .ok (.getfield 10, 3) := by decide +kernel
theorem dX6_kindFact_82 : decode cX6_kindFact 82 = .ok (.getfield 103, 3) := by decide +kernel
theorem dX6_kindFact_85 : decode cX6_kindFact 85 = .ok (.iload_n 1, 1) := by decide +kernel
theorem dX6_kindFact_86 : decode cX6_kindFact 86 = .ok (.iaload, 1) := by decide +kernel
theorem dX6_kindFact_87 : decode cX6_kindFact 87 = .ok (.ireturn, 1) := by decide +kernel
theorem dX6_kindFact_88 : decode cX6_kindFact 88 = .ok (.aload_n 0, 1) := by decide +kernel
theorem dX6_kindFact_89 : decode cX6_kindFact 89 = .ok (.getfield 10, 3) := by decide +kernel
theorem dX6_kindFact_92 : decode cX6_kindFact 92 = .ok (.getfield 120, 3) := by decide +kernel
theorem dX6_kindFact_95 : decode cX6_kindFact 95 = .ok (.iload_n 1, 1) := by decide +kernel
theorem dX6_kindFact_96 : decode cX6_kindFact 96 = .ok (.iaload, 1) := by decide +kernel
theorem dX6_kindFact_97 : decode cX6_kindFact 97 = .ok (.ireturn, 1) := by decide +kernel
theorem dX6_kindFact_98 : decode cX6_kindFact 98 = .ok (.aload_n 0, 1) := by decide +kernel
theorem dX6_kindFact_99 : decode cX6_kindFact 99 = .ok (.getfield 19, 3) := by decide +kernel
theorem dX6_kindFact_102 : decode cX6_kindFact 102 = .ok (.getfield 146, 3) := by decide +kernel
theorem dX6_kindFact_105 : decode cX6_kindFact 105 = .ok (.iload_n 1, 1) := by decide +kernel
theorem dX6_kindFact_106 : decode cX6_kindFact 106 = .ok (.invokevirtual 261, 3) := by decide +kernel
theorem dX6_kindFact_109 : decode cX6_kindFact 109 = .ok (.ireturn, 1) := by decide +kernel
theorem dX6_kindFact_110 : decode cX6_kindFact 110 = .ok (.aload_n 0, 1) := by decide +kernel
theorem dX6_kindFact_111 : decode cX6_kindFact 111 = .ok (.getfield 19, 3) := by decide +kernel
theorem dX6_kindFact_114 : decode cX6_kindFact 114 = .ok (.getfield 264, 3) := by decide +kernel
theorem dX6_kindFact_117 : decode cX6_kindFact 117 = .ok (.getfield 268, 3) := by decide +kernel
theorem dX6_kindFact_120 : decode cX6_kindFact 120 = .ok (.iload_n 1, 1) := by decide +kernel
theorem dX6_kindFact_121 : decode cX6_kindFact 121 = .ok (.iaload, 1) := by decide +kernel
theorem dX6_kindFact_122 : decode cX6_kindFact 122 = .ok (.ireturn, 1) := by decide +kernel
theorem dX6_kindFact_123 : decode cX6_kindFact 123 = .ok (.aload_n 0, 1) := by decide +kernel
theorem dX6_kindFact_124 : decode cX6_kindFact 124 = .ok (.getfield 10, 3) := by decide +kernel
theorem dX6_kindFact_127 : decode cX6_kindFact 127 = .ok (.iload_n 1, 1) := by decide +kernel
theorem dX6_kindFact_128 : decode cX6_kindFact 128 = .ok (.iload_n 2, 1) := by decide +kernel
theorem dX6_kindFact_129 : decode cX6_kindFact 129 = .ok (.iconst 3, 1) := by decide +kernel
theorem dX6_kindFact_130 : decode cX6_kindFact 130 = .ok (.isub, 1) := by decide +kernel
theorem dX6_kindFact_131 : decode cX6_kindFact 131 = .ok (.invokevirtual 273, 3) := by decide +kernel
theorem dX6_kindFact_134 : decode cX6_kindFact 134 = .ok (.ireturn, 1) := by decide +kernel
set_option maxRecDepth 20000 in
theorem ggX6_roundFact_X1_countCoveredInSight : GoodIn wsX6_roundFact wsX1_countCoveredInSight := goodIn_r _ [9, 10, 11, 12, 13, 14, 15, 16, 17, 18, 19, 20, 21, 22, 23, 24, 25, 26, 27, 28, 37, 38, 39, 40, 41, 42, 43, 44, 45, 46, 47, 48, 49, 50, 51, 52, 53, 54, 55, 56, 57, 58, 59, 60, 61, 62, 63, 64, 65, 66, 67] (by decide +kernel) (by decide +kernel)
set_option maxRecDepth 20000 in
theorem gX6_roundFact_X1_countCoveredInSight : GoodIn wsX6_roundFact (wsV RX6 282 RX1 yX1_countCoveredInSight wsX1_countCoveredInSight) := goodIn_app (goodIn_of _ (by decide +kernel)) ggX6_roundFact_X1_countCoveredInSight
theorem dX6_roundFact_0 : decode cX6_roundFact 0 = .ok (.iload_n 1, 1) := by decide +kernel
theorem dX6_roundFact_1 : decode cX6_roundFact 1 = .ok (.lookupswitch 51 #[(0, 27), (1, 35)], 27) := by decide +kernel
theorem dX6_roundFact_28 : decode cX6_roundFact 28 = .ok (.aload_n 0, 1) := by decide +kernel
theorem dX6_roundFact_29 : decode cX6_roundFact 29 = .ok (.getfield 19, 3) := by decide +kernel
theorem dX6_roundFact_32 : decode cX6_roundFact 32 = .ok (.getfield 276, 3) := by decide +kernel
theorem dX6_roundFact_35 : decode cX6_roundFact 35 = .ok (.ireturn, 1) := by decide +kernel
theorem dX6_roundFact_36 : decode cX6_roundFact 36 = .ok (.aload_n 0, 1) := by decide +kernel
theorem dX6_roundFact_37 : decode cX6_roundFact 37 = .ok (.getfield 19, 3) := by decide +kernel
theorem dX6_roundFact_40 : decode cX6_roundFact 40 = .ok (.getfield 279, 3) := by decide +kernel
theorem dX6_roundFact_43 : decode cX6_roundFact 43 = .ok (.ifCond .eq 7, 3) := by decide +kernel
theorem dX6_roundFact_46 : decode cX6_roundFact 46 = .ok (.iconst 1, 1) := by decide +kernel
theorem dX6_roundFact_47 : decode cX6_roundFact 47 = .ok (.goto 4, 3) := by decide +kernel
theorem dX6_roundFact_50 : decode cX6_roundFact 50 = .ok (.iconst 0, 1) := by decide +kernel
theorem dX6_roundFact_51 : decode cX6_roundFact 51 = .ok (.ireturn, 1) := by decide +kernel
theorem dX6_roundFact_52 : decode cX6_roundFact 52 = .ok (.aload_n 0, 1) := by decide +kernel
theorem dX6_roundFact_53 : decode cX6_roundFact 53 = .ok (.getfield 19, 3) := by decide +kernel
theorem dX6_roundFact_56 : decode cX6_roundFact 56 = .ok (.aload_n 0, 1) := by decide +kernel
theorem dX6_roundFact_57 : decode cX6_roundFact 57 = .ok (.getfield 10, 3) := by decide +kernel
theorem dX6_roundFact_60 : decode cX6_roundFact 60 = .ok (.invokevirtual 282, 3) := by decide +kernel
theorem dX6_roundFact_63 : decode cX6_roundFact 63 = .ok (.ireturn, 1) := by decide +kernel
theorem dX6_demandSign_0 : decode cX6_demandSign 0 = .ok (.iload_n 1, 1) := by decide +kernel
theorem dX6_demandSign_1 : decode cX6_demandSign 1 = .ok (.ifCond .lt 14, 3) := by decide +kernel
theorem dX6_demandSign_4 : decode cX6_demandSign 4 = .ok (.iload_n 1, 1) := by decide +kernel
theorem dX6_demandSign_5 : decode cX6_demandSign 5 = .ok (.aload_n 0, 1) := by decide +kernel
theorem dX6_demandSign_6 : decode cX6_demandSign 6 = .ok (.getfield 10, 3) := by decide +kernel
theorem dX6_demandSign_9 : decode cX6_demandSign 9 = .ok (.getfield 48, 3) := by decide +kernel
theorem dX6_demandSign_12 : decode cX6_demandSign 12 = .ok (.if_icmp .lt 14, 3) := by decide +kernel
theorem dX6_demandSign_15 : decode cX6_demandSign 15 = .ok (.new 106, 3) := by decide +kernel
theorem dX6_demandSign_18 : decode cX6_demandSign 18 = .ok (.dup, 1) := by decide +kernel
theorem dX6_demandSign_19 : decode cX6_demandSign 19 = .ok (.ldc_w 286, 3) := by decide +kernel
theorem dX6_demandSign_22 : decode cX6_demandSign 22 = .ok (.invokespecial 110, 3) := by decide +kernel
theorem dX6_demandSign_25 : decode cX6_demandSign 25 = .ok (.athrow, 1) := by decide +kernel
theorem dX6_demandSign_26 : decode cX6_demandSign 26 = .ok (.return_, 1) := by decide +kernel
theorem dX6_demandKind_0 : decode cX6_demandKind 0 = .ok (.iload_n 0, 1) := by decide +kernel
theorem dX6_demandKind_1 : decode cX6_demandKind 1 = .ok (.ifCond .lt 9, 3) := by decide +kernel
theorem dX6_demandKind_4 : decode cX6_demandKind 4 = .ok (.iload_n 0, 1) := by decide +kernel
theorem dX6_demandKind_5 : decode cX6_demandKind 5 = .ok (.bipush 12, 2) := by decide +kernel
theorem dX6_demandKind_7 : decode cX6_demandKind 7 = .ok (.if_icmp .lt 14, 3) := by decide +kernel
theorem dX6_demandKind_10 : decode cX6_demandKind 10 = .ok (.new 106, 3) := by decide +kernel
theorem dX6_demandKind_13 : decode cX6_demandKind 13 = .ok (.dup, 1) := by decide +kernel
theorem dX6_demandKind_14 : decode cX6_demandKind 14 = .ok (.ldc_w 288, 3) := by decide +kernel
theorem dX6_demandKind_17 : decode cX6_demandKind 17 = .ok (.invokespecial 110, 3) := by decide +kernel
theorem dX6_demandKind_20 : decode cX6_demandKind 20 = .ok (.athrow, 1) := by decide +kernel
theorem dX6_demandKind_21 : decode cX6_demandKind 21 = .ok (.return_, 1) := by decide +kernel
theorem dX6_demandBelow_0 : decode cX6_demandBelow 0 = .ok (.iload_n 0, 1) := by decide +kernel
theorem dX6_demandBelow_1 : decode cX6_demandBelow 1 = .ok (.ifCond .lt 8, 3) := by decide +kernel
theorem dX6_demandBelow_4 : decode cX6_demandBelow 4 = .ok (.iload_n 0, 1) := by decide +kernel
theorem dX6_demandBelow_5 : decode cX6_demandBelow 5 = .ok (.iload_n 1, 1) := by decide +kernel
theorem dX6_demandBelow_6 : decode cX6_demandBelow 6 = .ok (.if_icmp .lt 14, 3) := by decide +kernel
theorem dX6_demandBelow_9 : decode cX6_demandBelow 9 = .ok (.new 92, 3) := by decide +kernel
theorem dX6_demandBelow_12 : decode cX6_demandBelow 12 = .ok (.dup, 1) := by decide +kernel
theorem dX6_demandBelow_13 : decode cX6_demandBelow 13 = .ok (.ldc_w 290, 3) := by decide +kernel
theorem dX6_demandBelow_16 : decode cX6_demandBelow 16 = .ok (.invokespecial 96, 3) := by decide +kernel
theorem dX6_demandBelow_19 : decode cX6_demandBelow 19 = .ok (.athrow, 1) := by decide +kernel
theorem dX6_demandBelow_20 : decode cX6_demandBelow 20 = .ok (.return_, 1) := by decide +kernel
theorem dX6_demandSpan_0 : decode cX6_demandSpan 0 = .ok (.iload_n 0, 1) := by decide +kernel
theorem dX6_demandSpan_1 : decode cX6_demandSpan 1 = .ok (.bipush 10, 2) := by decide +kernel
theorem dX6_demandSpan_3 : decode cX6_demandSpan 3 = .ok (.if_icmp .lt 10, 3) := by decide +kernel
theorem dX6_demandSpan_6 : decode cX6_demandSpan 6 = .ok (.iload_n 0, 1) := by decide +kernel
theorem dX6_demandSpan_7 : decode cX6_demandSpan 7 = .ok (.sipush 200, 3) := by decide +kernel
theorem dX6_demandSpan_10 : decode cX6_demandSpan 10 = .ok (.if_icmp .le 14, 3) := by decide +kernel
theorem dX6_demandSpan_13 : decode cX6_demandSpan 13 = .ok (.new 92, 3) := by decide +kernel
theorem dX6_demandSpan_16 : decode cX6_demandSpan 16 = .ok (.dup, 1) := by decide +kernel
theorem dX6_demandSpan_17 : decode cX6_demandSpan 17 = .ok (.ldc_w 292, 3) := by decide +kernel
theorem dX6_demandSpan_20 : decode cX6_demandSpan 20 = .ok (.invokespecial 96, 3) := by decide +kernel
theorem dX6_demandSpan_23 : decode cX6_demandSpan 23 = .ok (.athrow, 1) := by decide +kernel
theorem dX6_demandSpan_24 : decode cX6_demandSpan 24 = .ok (.return_, 1) := by decide +kernel
