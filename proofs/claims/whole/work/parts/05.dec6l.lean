theorem dX6_init_0 : decode cX6_init 0 = .ok (.aload_n 0, 1) := by decide +kernel
theorem dX6_init_1 : decode cX6_init 1 = .ok (.invokespecial 1, 3) := by decide +kernel
theorem dX6_init_4 : decode cX6_init 4 = .ok (.aload_n 0, 1) := by decide +kernel
theorem dX6_init_5 : decode cX6_init 5 = .ok (.new 7, 3) := by decide +kernel
theorem dX6_init_8 : decode cX6_init 8 = .ok (.dup, 1) := by decide +kernel
theorem dX6_init_9 : decode cX6_init 9 = .ok (.invokespecial 9, 3) := by decide +kernel
theorem dX6_init_12 : decode cX6_init 12 = .ok (.putfield 10, 3) := by decide +kernel
theorem dX6_init_15 : decode cX6_init 15 = .ok (.aload_n 0, 1) := by decide +kernel
theorem dX6_init_16 : decode cX6_init 16 = .ok (.new 16, 3) := by decide +kernel
theorem dX6_init_19 : decode cX6_init 19 = .ok (.dup, 1) := by decide +kernel
theorem dX6_init_20 : decode cX6_init 20 = .ok (.invokespecial 18, 3) := by decide +kernel
theorem dX6_init_23 : decode cX6_init 23 = .ok (.putfield 19, 3) := by decide +kernel
theorem dX6_init_26 : decode cX6_init 26 = .ok (.aload_n 0, 1) := by decide +kernel
theorem dX6_init_27 : decode cX6_init 27 = .ok (.new 7, 3) := by decide +kernel
theorem dX6_init_30 : decode cX6_init 30 = .ok (.dup, 1) := by decide +kernel
theorem dX6_init_31 : decode cX6_init 31 = .ok (.invokespecial 9, 3) := by decide +kernel
theorem dX6_init_34 : decode cX6_init 34 = .ok (.putfield 23, 3) := by decide +kernel
theorem dX6_init_37 : decode cX6_init 37 = .ok (.aload_n 0, 1) := by decide +kernel
theorem dX6_init_38 : decode cX6_init 38 = .ok (.new 16, 3) := by decide +kernel
theorem dX6_init_41 : decode cX6_init 41 = .ok (.dup, 1) := by decide +kernel
theorem dX6_init_42 : decode cX6_init 42 = .ok (.invokespecial 18, 3) := by decide +kernel
theorem dX6_init_45 : decode cX6_init 45 = .ok (.putfield 26, 3) := by decide +kernel
theorem dX6_init_48 : decode cX6_init 48 = .ok (.aload_n 0, 1) := by decide +kernel
theorem dX6_init_49 : decode cX6_init 49 = .ok (.new 29, 3) := by decide +kernel
theorem dX6_init_52 : decode cX6_init 52 = .ok (.dup, 1) := by decide +kernel
theorem dX6_init_53 : decode cX6_init 53 = .ok (.invokespecial 31, 3) := by decide +kernel
theorem dX6_init_56 : decode cX6_init 56 = .ok (.putfield 32, 3) := by decide +kernel
theorem dX6_init_59 : decode cX6_init 59 = .ok (.aload_n 0, 1) := by decide +kernel
theorem dX6_init_60 : decode cX6_init 60 = .ok (.iconst 4, 1) := by decide +kernel
theorem dX6_init_61 : decode cX6_init 61 = .ok (.anewarray 7, 3) := by decide +kernel
theorem dX6_init_64 : decode cX6_init 64 = .ok (.putfield 36, 3) := by decide +kernel
theorem dX6_init_67 : decode cX6_init 67 = .ok (.iconst 0, 1) := by decide +kernel
theorem dX6_init_68 : decode cX6_init 68 = .ok (.istore_n 1, 1) := by decide +kernel
theorem dX6_init_69 : decode cX6_init 69 = .ok (.iload_n 1, 1) := by decide +kernel
theorem dX6_init_70 : decode cX6_init 70 = .ok (.iconst 4, 1) := by decide +kernel
theorem dX6_init_71 : decode cX6_init 71 = .ok (.if_icmp .ge 22, 3) := by decide +kernel
theorem dX6_init_74 : decode cX6_init 74 = .ok (.aload_n 0, 1) := by decide +kernel
theorem dX6_init_75 : decode cX6_init 75 = .ok (.getfield 36, 3) := by decide +kernel
theorem dX6_init_78 : decode cX6_init 78 = .ok (.iload_n 1, 1) := by decide +kernel
theorem dX6_init_79 : decode cX6_init 79 = .ok (.new 7, 3) := by decide +kernel
theorem dX6_init_82 : decode cX6_init 82 = .ok (.dup, 1) := by decide +kernel
theorem dX6_init_83 : decode cX6_init 83 = .ok (.invokespecial 9, 3) := by decide +kernel
theorem dX6_init_86 : decode cX6_init 86 = .ok (.aastore, 1) := by decide +kernel
theorem dX6_init_87 : decode cX6_init 87 = .ok (.iinc 1 1, 3) := by decide +kernel
theorem dX6_init_90 : decode cX6_init 90 = .ok (.goto (-21), 3) := by decide +kernel
theorem dX6_init_93 : decode cX6_init 93 = .ok (.return_, 1) := by decide +kernel
theorem dX6_addSign_0 : decode cX6_addSign 0 = .ok (.iload_n 1, 1) := by decide +kernel
theorem dX6_addSign_1 : decode cX6_addSign 1 = .ok (.invokestatic 40, 3) := by decide +kernel
theorem dX6_addSign_4 : decode cX6_addSign 4 = .ok (.iload_n 2, 1) := by decide +kernel
theorem dX6_addSign_5 : decode cX6_addSign 5 = .ok (.sipush 200, 3) := by decide +kernel
theorem dX6_addSign_8 : decode cX6_addSign 8 = .ok (.invokestatic 44, 3) := by decide +kernel
theorem dX6_addSign_11 : decode cX6_addSign 11 = .ok (.iload_n 3, 1) := by decide +kernel
theorem dX6_addSign_12 : decode cX6_addSign 12 = .ok (.sipush 200, 3) := by decide +kernel
theorem dX6_addSign_15 : decode cX6_addSign 15 = .ok (.invokestatic 44, 3) := by decide +kernel
theorem dX6_addSign_18 : decode cX6_addSign 18 = .ok (.iload 4, 2) := by decide +kernel
theorem dX6_addSign_20 : decode cX6_addSign 20 = .ok (.sipush 10000, 3) := by decide +kernel
theorem dX6_addSign_23 : decode cX6_addSign 23 = .ok (.invokestatic 44, 3) := by decide +kernel
theorem dX6_addSign_26 : decode cX6_addSign 26 = .ok (.iload 5, 2) := by decide +kernel
theorem dX6_addSign_28 : decode cX6_addSign 28 = .ok (.bipush 6, 2) := by decide +kernel
theorem dX6_addSign_30 : decode cX6_addSign 30 = .ok (.invokestatic 44, 3) := by decide +kernel
theorem dX6_addSign_33 : decode cX6_addSign 33 = .ok (.aload_n 0, 1) := by decide +kernel
theorem dX6_addSign_34 : decode cX6_addSign 34 = .ok (.getfield 10, 3) := by decide +kernel
theorem dX6_addSign_37 : decode cX6_addSign 37 = .ok (.getfield 48, 3) := by decide +kernel
theorem dX6_addSign_40 : decode cX6_addSign 40 = .ok (.bipush 40, 2) := by decide +kernel
theorem dX6_addSign_42 : decode cX6_addSign 42 = .ok (.if_icmp .lt 13, 3) := by decide +kernel
theorem dX6_addSign_45 : decode cX6_addSign 45 = .ok (.new 52, 3) := by decide +kernel
theorem dX6_addSign_48 : decode cX6_addSign 48 = .ok (.dup, 1) := by decide +kernel
theorem dX6_addSign_49 : decode cX6_addSign 49 = .ok (.ldc 54, 2) := by decide +kernel
theorem dX6_addSign_51 : decode cX6_addSign 51 = .ok (.invokespecial 56, 3) := by decide +kernel
theorem dX6_addSign_54 : decode cX6_addSign 54 = .ok (.athrow, 1) := by decide +kernel
theorem dX6_addSign_55 : decode cX6_addSign 55 = .ok (.aload_n 0, 1) := by decide +kernel
theorem dX6_addSign_56 : decode cX6_addSign 56 = .ok (.invokevirtual 59, 3) := by decide +kernel
theorem dX6_addSign_59 : decode cX6_addSign 59 = .ok (.aload_n 0, 1) := by decide +kernel
theorem dX6_addSign_60 : decode cX6_addSign 60 = .ok (.getfield 10, 3) := by decide +kernel
theorem dX6_addSign_63 : decode cX6_addSign 63 = .ok (.iload_n 1, 1) := by decide +kernel
theorem dX6_addSign_64 : decode cX6_addSign 64 = .ok (.iload_n 2, 1) := by decide +kernel
theorem dX6_addSign_65 : decode cX6_addSign 65 = .ok (.iload_n 3, 1) := by decide +kernel
theorem dX6_addSign_66 : decode cX6_addSign 66 = .ok (.iload 4, 2) := by decide +kernel
theorem dX6_addSign_68 : decode cX6_addSign 68 = .ok (.iload 5, 2) := by decide +kernel
theorem dX6_addSign_70 : decode cX6_addSign 70 = .ok (.invokevirtual 62, 3) := by decide +kernel
theorem dX6_addSign_73 : decode cX6_addSign 73 = .ok (.aload_n 0, 1) := by decide +kernel
theorem dX6_addSign_74 : decode cX6_addSign 74 = .ok (.getfield 10, 3) := by decide +kernel
theorem dX6_addSign_77 : decode cX6_addSign 77 = .ok (.getfield 48, 3) := by decide +kernel
theorem dX6_addSign_80 : decode cX6_addSign 80 = .ok (.iconst 1, 1) := by decide +kernel
theorem dX6_addSign_81 : decode cX6_addSign 81 = .ok (.isub, 1) := by decide +kernel
theorem dX6_addSign_82 : decode cX6_addSign 82 = .ok (.ireturn, 1) := by decide +kernel
theorem dX6_removeSign_0 : decode cX6_removeSign 0 = .ok (.aload_n 0, 1) := by decide +kernel
theorem dX6_removeSign_1 : decode cX6_removeSign 1 = .ok (.iload_n 1, 1) := by decide +kernel
theorem dX6_removeSign_2 : decode cX6_removeSign 2 = .ok (.invokevirtual 66, 3) := by decide +kernel
theorem dX6_removeSign_5 : decode cX6_removeSign 5 = .ok (.aload_n 0, 1) := by decide +kernel
theorem dX6_removeSign_6 : decode cX6_removeSign 6 = .ok (.invokevirtual 59, 3) := by decide +kernel
theorem dX6_removeSign_9 : decode cX6_removeSign 9 = .ok (.aload_n 0, 1) := by decide +kernel
theorem dX6_removeSign_10 : decode cX6_removeSign 10 = .ok (.getfield 10, 3) := by decide +kernel
theorem dX6_removeSign_13 : decode cX6_removeSign 13 = .ok (.iload_n 1, 1) := by decide +kernel
theorem dX6_removeSign_14 : decode cX6_removeSign 14 = .ok (.invokevirtual 69, 3) := by decide +kernel
theorem dX6_removeSign_17 : decode cX6_removeSign 17 = .ok (.aload_n 0, 1) := by decide +kernel
theorem dX6_removeSign_18 : decode cX6_removeSign 18 = .ok (.getfield 10, 3) := by decide +kernel
theorem dX6_removeSign_21 : decode cX6_removeSign 21 = .ok (.getfield 48, 3) := by decide +kernel
theorem dX6_removeSign_24 : decode cX6_removeSign 24 = .ok (.ireturn, 1) := by decide +kernel
theorem dX6_moveSign_0 : decode cX6_moveSign 0 = .ok (.aload_n 0, 1) := by decide +kernel
theorem dX6_moveSign_1 : decode cX6_moveSign 1 = .ok (.iload_n 1, 1) := by decide +kernel
theorem dX6_moveSign_2 : decode cX6_moveSign 2 = .ok (.invokevirtual 66, 3) := by decide +kernel
theorem dX6_moveSign_5 : decode cX6_moveSign 5 = .ok (.iload_n 2, 1) := by decide +kernel
theorem dX6_moveSign_6 : decode cX6_moveSign 6 = .ok (.sipush 200, 3) := by decide +kernel
theorem dX6_moveSign_9 : decode cX6_moveSign 9 = .ok (.invokestatic 44, 3) := by decide +kernel
theorem dX6_moveSign_12 : decode cX6_moveSign 12 = .ok (.iload_n 3, 1) := by decide +kernel
theorem dX6_moveSign_13 : decode cX6_moveSign 13 = .ok (.sipush 200, 3) := by decide +kernel
theorem dX6_moveSign_16 : decode cX6_moveSign 16 = .ok (.invokestatic 44, 3) := by decide +kernel
theorem dX6_moveSign_19 : decode cX6_moveSign 19 = .ok (.aload_n 0, 1) := by decide +kernel
theorem dX6_moveSign_20 : decode cX6_moveSign 20 = .ok (.invokevirtual 59, 3) := by decide +kernel
theorem dX6_moveSign_23 : decode cX6_moveSign 23 = .ok (.aload_n 0, 1) := by decide +kernel
theorem dX6_moveSign_24 : decode cX6_moveSign 24 = .ok (.getfield 10, 3) := by decide +kernel
theorem dX6_moveSign_27 : decode cX6_moveSign 27 = .ok (.getfield 72, 3) := by decide +kernel
theorem dX6_moveSign_30 : decode cX6_moveSign 30 = .ok (.iload_n 1, 1) := by decide +kernel
theorem dX6_moveSign_31 : decode cX6_moveSign 31 = .ok (.iaload, 1) := by decide +kernel
theorem dX6_moveSign_32 : decode cX6_moveSign 32 = .ok (.istore 4, 2) := by decide +kernel
theorem dX6_moveSign_34 : decode cX6_moveSign 34 = .ok (.aload_n 0, 1) := by decide +kernel
theorem dX6_moveSign_35 : decode cX6_moveSign 35 = .ok (.getfield 10, 3) := by decide +kernel
theorem dX6_moveSign_38 : decode cX6_moveSign 38 = .ok (.getfield 72, 3) := by decide +kernel
theorem dX6_moveSign_41 : decode cX6_moveSign 41 = .ok (.iload_n 1, 1) := by decide +kernel
theorem dX6_moveSign_42 : decode cX6_moveSign 42 = .ok (.iload_n 2, 1) := by decide +kernel
theorem dX6_moveSign_43 : decode cX6_moveSign 43 = .ok (.iastore, 1) := by decide +kernel
theorem dX6_moveSign_44 : decode cX6_moveSign 44 = .ok (.aload_n 0, 1) := by decide +kernel
theorem dX6_moveSign_45 : decode cX6_moveSign 45 = .ok (.getfield 10, 3) := by decide +kernel
theorem dX6_moveSign_48 : decode cX6_moveSign 48 = .ok (.getfield 76, 3) := by decide +kernel
theorem dX6_moveSign_51 : decode cX6_moveSign 51 = .ok (.iload_n 1, 1) := by decide +kernel
theorem dX6_moveSign_52 : decode cX6_moveSign 52 = .ok (.iload_n 3, 1) := by decide +kernel
theorem dX6_moveSign_53 : decode cX6_moveSign 53 = .ok (.iastore, 1) := by decide +kernel
theorem dX6_moveSign_54 : decode cX6_moveSign 54 = .ok (.iload 4, 2) := by decide +kernel
theorem dX6_moveSign_56 : decode cX6_moveSign 56 = .ok (.ireturn, 1) := by decide +kernel
theorem dX6_setWindow_0 : decode cX6_setWindow 0 = .ok (.iload_n 1, 1) := by decide +kernel
theorem dX6_setWindow_1 : decode cX6_setWindow 1 = .ok (.sipush 200, 3) := by decide +kernel
theorem dX6_setWindow_4 : decode cX6_setWindow 4 = .ok (.invokestatic 44, 3) := by decide +kernel
theorem dX6_setWindow_7 : decode cX6_setWindow 7 = .ok (.iload_n 2, 1) := by decide +kernel
theorem dX6_setWindow_8 : decode cX6_setWindow 8 = .ok (.sipush 200, 3) := by decide +kernel
theorem dX6_setWindow_11 : decode cX6_setWindow 11 = .ok (.invokestatic 44, 3) := by decide +kernel
theorem dX6_setWindow_14 : decode cX6_setWindow 14 = .ok (.iload_n 3, 1) := by decide +kernel
theorem dX6_setWindow_15 : decode cX6_setWindow 15 = .ok (.invokestatic 79, 3) := by decide +kernel
theorem dX6_setWindow_18 : decode cX6_setWindow 18 = .ok (.iload 4, 2) := by decide +kernel
theorem dX6_setWindow_20 : decode cX6_setWindow 20 = .ok (.invokestatic 79, 3) := by decide +kernel
theorem dX6_setWindow_23 : decode cX6_setWindow 23 = .ok (.iload 5, 2) := by decide +kernel
theorem dX6_setWindow_25 : decode cX6_setWindow 25 = .ok (.bipush 6, 2) := by decide +kernel
theorem dX6_setWindow_27 : decode cX6_setWindow 27 = .ok (.invokestatic 44, 3) := by decide +kernel
theorem dX6_setWindow_30 : decode cX6_setWindow 30 = .ok (.aload_n 0, 1) := by decide +kernel
theorem dX6_setWindow_31 : decode cX6_setWindow 31 = .ok (.invokevirtual 59, 3) := by decide +kernel
theorem dX6_setWindow_34 : decode cX6_setWindow 34 = .ok (.aload_n 0, 1) := by decide +kernel
theorem dX6_setWindow_35 : decode cX6_setWindow 35 = .ok (.getfield 10, 3) := by decide +kernel
theorem dX6_setWindow_38 : decode cX6_setWindow 38 = .ok (.getfield 82, 3) := by decide +kernel
theorem dX6_setWindow_41 : decode cX6_setWindow 41 = .ok (.iconst 0, 1) := by decide +kernel
theorem dX6_setWindow_42 : decode cX6_setWindow 42 = .ok (.iload_n 1, 1) := by decide +kernel
theorem dX6_setWindow_43 : decode cX6_setWindow 43 = .ok (.iastore, 1) := by decide +kernel
theorem dX6_setWindow_44 : decode cX6_setWindow 44 = .ok (.aload_n 0, 1) := by decide +kernel
theorem dX6_setWindow_45 : decode cX6_setWindow 45 = .ok (.getfield 10, 3) := by decide +kernel
theorem dX6_setWindow_48 : decode cX6_setWindow 48 = .ok (.getfield 82, 3) := by decide +kernel
theorem dX6_setWindow_51 : decode cX6_setWindow 51 = .ok (.iconst 1, 1) := by decide +kernel
theorem dX6_setWindow_52 : decode cX6_setWindow 52 = .ok (.iload_n 2, 1) := by decide +kernel
theorem dX6_setWindow_53 : decode cX6_setWindow 53 = .ok (.iastore, 1) := by decide +kernel
theorem dX6_setWindow_54 : decode cX6_setWindow 54 = .ok (.aload_n 0, 1) := by decide +kernel
theorem dX6_setWindow_55 : decode cX6_setWindow 55 = .ok (.getfield 10, 3) := by decide +kernel
theorem dX6_setWindow_58 : decode cX6_setWindow 58 = .ok (.getfield 82, 3) := by decide +kernel
theorem dX6_setWindow_61 : decode cX6_setWindow 61 = .ok (.iconst 2, 1) := by decide +kernel
theorem dX6_setWindow_62 : decode cX6_setWindow 62 = .ok (.iload_n 3, 1) := by decide +kernel
theorem dX6_setWindow_63 : decode cX6_setWindow 63 = .ok (.iastore, 1) := by decide +kernel
theorem dX6_setWindow_64 : decode cX6_setWindow 64 = .ok (.aload_n 0, 1) := by decide +kernel
theorem dX6_setWindow_65 : decode cX6_setWindow 65 = .ok (.getfield 10, 3) := by decide +kernel
theorem dX6_setWindow_68 : decode cX6_setWindow 68 = .ok (.getfield 82, 3) := by decide +kernel
theorem dX6_setWindow_71 : decode cX6_setWindow 71 = .ok (.iconst 3, 1) := by decide +kernel
theorem dX6_setWindow_72 : decode cX6_setWindow 72 = .ok (.iload 4, 2) := by decide +kernel
theorem dX6_setWindow_74 : decode cX6_setWindow 74 = .ok (.iastore, 1) := by decide +kernel
theorem dX6_setWindow_75 : decode cX6_setWindow 75 = .ok (.aload_n 0, 1) := by decide +kernel
theorem dX6_setWindow_76 : decode cX6_setWindow 76 = .ok (.getfield 10, 3) := by decide +kernel
theorem dX6_setWindow_79 : decode cX6_setWindow 79 = .ok (.getfield 82, 3) := by decide +kernel
theorem dX6_setWindow_82 : decode cX6_setWindow 82 = .ok (.iconst 4, 1) := by decide +kernel
theorem dX6_setWindow_83 : decode cX6_setWindow 83 = .ok (.iload 5, 2) := by decide +kernel
theorem dX6_setWindow_85 : decode cX6_setWindow 85 = .ok (.iastore, 1) := by decide +kernel
theorem dX6_setWindow_86 : decode cX6_setWindow 86 = .ok (.aload_n 0, 1) := by decide +kernel
theorem dX6_setWindow_87 : decode cX6_setWindow 87 = .ok (.getfield 10, 3) := by decide +kernel
theorem dX6_setWindow_90 : decode cX6_setWindow 90 = .ok (.invokevirtual 85, 3) := by decide +kernel
theorem dX6_setWindow_93 : decode cX6_setWindow 93 = .ok (.ireturn, 1) := by decide +kernel
theorem dX6_set_0 : decode cX6_set 0 = .ok (.iload_n 1, 1) := by decide +kernel
theorem dX6_set_1 : decode cX6_set 1 = .ok (.iconst 4, 1) := by decide +kernel
theorem dX6_set_2 : decode cX6_set 2 = .ok (.invokestatic 44, 3) := by decide +kernel
theorem dX6_set_5 : decode cX6_set 5 = .ok (.iload_n 2, 1) := by decide +kernel
theorem dX6_set_6 : decode cX6_set 6 = .ok (.iconst 1, 1) := by decide +kernel
theorem dX6_set_7 : decode cX6_set 7 = .ok (.if_icmp .lt 12, 3) := by decide +kernel
theorem dX6_set_10 : decode cX6_set 10 = .ok (.iload_n 2, 1) := by decide +kernel
theorem dX6_set_11 : decode cX6_set 11 = .ok (.getstatic 89, 3) := by decide +kernel
theorem dX6_set_14 : decode cX6_set 14 = .ok (.iload_n 1, 1) := by decide +kernel
theorem dX6_set_15 : decode cX6_set 15 = .ok (.iaload, 1) := by decide +kernel
theorem dX6_set_16 : decode cX6_set 16 = .ok (.if_icmp .le 13, 3) := by decide +kernel
theorem dX6_set_19 : decode cX6_set 19 = .ok (.new 92, 3) := by decide +kernel
theorem dX6_set_22 : decode cX6_set 22 = .ok (.dup, 1) := by decide +kernel
theorem dX6_set_23 : decode cX6_set 23 = .ok (.ldc 94, 2) := by decide +kernel
theorem dX6_set_25 : decode cX6_set 25 = .ok (.invokespecial 96, 3) := by decide +kernel
theorem dX6_set_28 : decode cX6_set 28 = .ok (.athrow, 1) := by decide +kernel
theorem dX6_set_29 : decode cX6_set 29 = .ok (.aload_n 0, 1) := by decide +kernel
theorem dX6_set_30 : decode cX6_set 30 = .ok (.invokevirtual 59, 3) := by decide +kernel
theorem dX6_set_33 : decode cX6_set 33 = .ok (.aload_n 0, 1) := by decide +kernel
theorem dX6_set_34 : decode cX6_set 34 = .ok (.getfield 10, 3) := by decide +kernel
theorem dX6_set_37 : decode cX6_set 37 = .ok (.getfield 97, 3) := by decide +kernel
theorem dX6_set_40 : decode cX6_set 40 = .ok (.iload_n 1, 1) := by decide +kernel
theorem dX6_set_41 : decode cX6_set 41 = .ok (.iaload, 1) := by decide +kernel
theorem dX6_set_42 : decode cX6_set 42 = .ok (.istore_n 3, 1) := by decide +kernel
theorem dX6_set_43 : decode cX6_set 43 = .ok (.aload_n 0, 1) := by decide +kernel
theorem dX6_set_44 : decode cX6_set 44 = .ok (.getfield 10, 3) := by decide +kernel
theorem dX6_set_47 : decode cX6_set 47 = .ok (.getfield 97, 3) := by decide +kernel
theorem dX6_set_50 : decode cX6_set 50 = .ok (.iload_n 1, 1) := by decide +kernel
theorem dX6_set_51 : decode cX6_set 51 = .ok (.iload_n 2, 1) := by decide +kernel
theorem dX6_set_52 : decode cX6_set 52 = .ok (.iastore, 1) := by decide +kernel
theorem dX6_set_53 : decode cX6_set 53 = .ok (.iload_n 3, 1) := by decide +kernel
theorem dX6_set_54 : decode cX6_set 54 = .ok (.ireturn, 1) := by decide +kernel
theorem dX6_setKind_0 : decode cX6_setKind 0 = .ok (.iload_n 1, 1) := by decide +kernel
theorem dX6_setKind_1 : decode cX6_setKind 1 = .ok (.invokestatic 40, 3) := by decide +kernel
theorem dX6_setKind_4 : decode cX6_setKind 4 = .ok (.iload_n 2, 1) := by decide +kernel
theorem dX6_setKind_5 : decode cX6_setKind 5 = .ok (.bipush 100, 2) := by decide +kernel
theorem dX6_setKind_7 : decode cX6_setKind 7 = .ok (.invokestatic 44, 3) := by decide +kernel
theorem dX6_setKind_10 : decode cX6_setKind 10 = .ok (.iload_n 3, 1) := by decide +kernel
theorem dX6_setKind_11 : decode cX6_setKind 11 = .ok (.iconst (-1), 1) := by decide +kernel
theorem dX6_setKind_12 : decode cX6_setKind 12 = .ok (.if_icmp .eq 8, 3) := by decide +kernel
theorem dX6_setKind_15 : decode cX6_setKind 15 = .ok (.iload_n 3, 1) := by decide +kernel
theorem dX6_setKind_16 : decode cX6_setKind 16 = .ok (.iconst 5, 1) := by decide +kernel
theorem dX6_setKind_17 : decode cX6_setKind 17 = .ok (.invokestatic 44, 3) := by decide +kernel
theorem dX6_setKind_20 : decode cX6_setKind 20 = .ok (.aload_n 0, 1) := by decide +kernel
theorem dX6_setKind_21 : decode cX6_setKind 21 = .ok (.invokevirtual 59, 3) := by decide +kernel
theorem dX6_setKind_24 : decode cX6_setKind 24 = .ok (.aload_n 0, 1) := by decide +kernel
theorem dX6_setKind_25 : decode cX6_setKind 25 = .ok (.getfield 10, 3) := by decide +kernel
theorem dX6_setKind_28 : decode cX6_setKind 28 = .ok (.getfield 100, 3) := by decide +kernel
theorem dX6_setKind_31 : decode cX6_setKind 31 = .ok (.iload_n 1, 1) := by decide +kernel
theorem dX6_setKind_32 : decode cX6_setKind 32 = .ok (.iaload, 1) := by decide +kernel
theorem dX6_setKind_33 : decode cX6_setKind 33 = .ok (.istore 4, 2) := by decide +kernel
theorem dX6_setKind_35 : decode cX6_setKind 35 = .ok (.aload_n 0, 1) := by decide +kernel
theorem dX6_setKind_36 : decode cX6_setKind 36 = .ok (.getfield 10, 3) := by decide +kernel
theorem dX6_setKind_39 : decode cX6_setKind 39 = .ok (.getfield 100, 3) := by decide +kernel
theorem dX6_setKind_42 : decode cX6_setKind 42 = .ok (.iload_n 1, 1) := by decide +kernel
theorem dX6_setKind_43 : decode cX6_setKind 43 = .ok (.iload_n 2, 1) := by decide +kernel
theorem dX6_setKind_44 : decode cX6_setKind 44 = .ok (.iastore, 1) := by decide +kernel
theorem dX6_setKind_45 : decode cX6_setKind 45 = .ok (.aload_n 0, 1) := by decide +kernel
theorem dX6_setKind_46 : decode cX6_setKind 46 = .ok (.getfield 10, 3) := by decide +kernel
theorem dX6_setKind_49 : decode cX6_setKind 49 = .ok (.getfield 103, 3) := by decide +kernel
theorem dX6_setKind_52 : decode cX6_setKind 52 = .ok (.iload_n 1, 1) := by decide +kernel
theorem dX6_setKind_53 : decode cX6_setKind 53 = .ok (.iload_n 3, 1) := by decide +kernel
theorem dX6_setKind_54 : decode cX6_setKind 54 = .ok (.iastore, 1) := by decide +kernel
theorem dX6_setKind_55 : decode cX6_setKind 55 = .ok (.iload 4, 2) := by decide +kernel
theorem dX6_setKind_57 : decode cX6_setKind 57 = .ok (.ireturn, 1) := by decide +kernel
theorem dX6_setWay_0 : decode cX6_setWay 0 = .ok (.iload_n 1, 1) := by decide +kernel
theorem dX6_setWay_1 : decode cX6_setWay 1 = .ok (.ifCond .lt 8, 3) := by decide +kernel
theorem dX6_setWay_4 : decode cX6_setWay 4 = .ok (.iload_n 1, 1) := by decide +kernel
theorem dX6_setWay_5 : decode cX6_setWay 5 = .ok (.iconst 5, 1) := by decide +kernel
theorem dX6_setWay_6 : decode cX6_setWay 6 = .ok (.if_icmp .lt 13, 3) := by decide +kernel
theorem dX6_setWay_9 : decode cX6_setWay 9 = .ok (.new 106, 3) := by decide +kernel
theorem dX6_setWay_12 : decode cX6_setWay 12 = .ok (.dup, 1) := by decide +kernel
theorem dX6_setWay_13 : decode cX6_setWay 13 = .ok (.ldc 108, 2) := by decide +kernel
theorem dX6_setWay_15 : decode cX6_setWay 15 = .ok (.invokespecial 110, 3) := by decide +kernel
theorem dX6_setWay_18 : decode cX6_setWay 18 = .ok (.athrow, 1) := by decide +kernel
theorem dX6_setWay_19 : decode cX6_setWay 19 = .ok (.iload_n 2, 1) := by decide +kernel
theorem dX6_setWay_20 : decode cX6_setWay 20 = .ok (.iconst 2, 1) := by decide +kernel
theorem dX6_setWay_21 : decode cX6_setWay 21 = .ok (.invokestatic 44, 3) := by decide +kernel
theorem dX6_setWay_24 : decode cX6_setWay 24 = .ok (.aload_n 0, 1) := by decide +kernel
theorem dX6_setWay_25 : decode cX6_setWay 25 = .ok (.invokevirtual 59, 3) := by decide +kernel
theorem dX6_setWay_28 : decode cX6_setWay 28 = .ok (.aload_n 0, 1) := by decide +kernel
theorem dX6_setWay_29 : decode cX6_setWay 29 = .ok (.getfield 10, 3) := by decide +kernel
theorem dX6_setWay_32 : decode cX6_setWay 32 = .ok (.getfield 111, 3) := by decide +kernel
theorem dX6_setWay_35 : decode cX6_setWay 35 = .ok (.iload_n 1, 1) := by decide +kernel
theorem dX6_setWay_36 : decode cX6_setWay 36 = .ok (.iaload, 1) := by decide +kernel
theorem dX6_setWay_37 : decode cX6_setWay 37 = .ok (.istore_n 3, 1) := by decide +kernel
theorem dX6_setWay_38 : decode cX6_setWay 38 = .ok (.aload_n 0, 1) := by decide +kernel
theorem dX6_setWay_39 : decode cX6_setWay 39 = .ok (.getfield 10, 3) := by decide +kernel
theorem dX6_setWay_42 : decode cX6_setWay 42 = .ok (.getfield 111, 3) := by decide +kernel
theorem dX6_setWay_45 : decode cX6_setWay 45 = .ok (.iload_n 1, 1) := by decide +kernel
theorem dX6_setWay_46 : decode cX6_setWay 46 = .ok (.iload_n 2, 1) := by decide +kernel
theorem dX6_setWay_47 : decode cX6_setWay 47 = .ok (.iastore, 1) := by decide +kernel
theorem dX6_setWay_48 : decode cX6_setWay 48 = .ok (.iload_n 3, 1) := by decide +kernel
theorem dX6_setWay_49 : decode cX6_setWay 49 = .ok (.ireturn, 1) := by decide +kernel
theorem dX6_limit_0 : decode cX6_limit 0 = .ok (.iload_n 1, 1) := by decide +kernel
theorem dX6_limit_1 : decode cX6_limit 1 = .ok (.invokestatic 40, 3) := by decide +kernel
theorem dX6_limit_4 : decode cX6_limit 4 = .ok (.iload_n 2, 1) := by decide +kernel
theorem dX6_limit_5 : decode cX6_limit 5 = .ok (.iconst 1, 1) := by decide +kernel
theorem dX6_limit_6 : decode cX6_limit 6 = .ok (.if_icmp .lt 10, 3) := by decide +kernel
theorem dX6_limit_9 : decode cX6_limit 9 = .ok (.iload_n 2, 1) := by decide +kernel
theorem dX6_limit_10 : decode cX6_limit 10 = .ok (.sipush 10000, 3) := by decide +kernel
theorem dX6_limit_13 : decode cX6_limit 13 = .ok (.if_icmp .lt 13, 3) := by decide +kernel
theorem dX6_limit_16 : decode cX6_limit 16 = .ok (.new 92, 3) := by decide +kernel
theorem dX6_limit_19 : decode cX6_limit 19 = .ok (.dup, 1) := by decide +kernel
theorem dX6_limit_20 : decode cX6_limit 20 = .ok (.ldc 114, 2) := by decide +kernel
theorem dX6_limit_22 : decode cX6_limit 22 = .ok (.invokespecial 96, 3) := by decide +kernel
theorem dX6_limit_25 : decode cX6_limit 25 = .ok (.athrow, 1) := by decide +kernel
theorem dX6_limit_26 : decode cX6_limit 26 = .ok (.aload_n 0, 1) := by decide +kernel
theorem dX6_limit_27 : decode cX6_limit 27 = .ok (.getfield 10, 3) := by decide +kernel
theorem dX6_limit_30 : decode cX6_limit 30 = .ok (.iload_n 1, 1) := by decide +kernel
theorem dX6_limit_31 : decode cX6_limit 31 = .ok (.iload_n 2, 1) := by decide +kernel
theorem dX6_limit_32 : decode cX6_limit 32 = .ok (.invokevirtual 116, 3) := by decide +kernel
theorem dX6_limit_35 : decode cX6_limit 35 = .ok (.istore_n 3, 1) := by decide +kernel
theorem dX6_limit_36 : decode cX6_limit 36 = .ok (.iload_n 3, 1) := by decide +kernel
theorem dX6_limit_37 : decode cX6_limit 37 = .ok (.ifCond .ne 26, 3) := by decide +kernel
theorem dX6_limit_40 : decode cX6_limit 40 = .ok (.aload_n 0, 1) := by decide +kernel
theorem dX6_limit_41 : decode cX6_limit 41 = .ok (.getfield 10, 3) := by decide +kernel
theorem dX6_limit_44 : decode cX6_limit 44 = .ok (.getfield 120, 3) := by decide +kernel
theorem dX6_limit_47 : decode cX6_limit 47 = .ok (.iload_n 1, 1) := by decide +kernel
theorem dX6_limit_48 : decode cX6_limit 48 = .ok (.iaload, 1) := by decide +kernel
theorem dX6_limit_49 : decode cX6_limit 49 = .ok (.iconst 5, 1) := by decide +kernel
theorem dX6_limit_50 : decode cX6_limit 50 = .ok (.if_icmp .lt 13, 3) := by decide +kernel
theorem dX6_limit_53 : decode cX6_limit 53 = .ok (.new 52, 3) := by decide +kernel
theorem dX6_limit_56 : decode cX6_limit 56 = .ok (.dup, 1) := by decide +kernel
theorem dX6_limit_57 : decode cX6_limit 57 = .ok (.ldc 123, 2) := by decide +kernel
theorem dX6_limit_59 : decode cX6_limit 59 = .ok (.invokespecial 56, 3) := by decide +kernel
theorem dX6_limit_62 : decode cX6_limit 62 = .ok (.athrow, 1) := by decide +kernel
theorem dX6_limit_63 : decode cX6_limit 63 = .ok (.aload_n 0, 1) := by decide +kernel
theorem dX6_limit_64 : decode cX6_limit 64 = .ok (.invokevirtual 59, 3) := by decide +kernel
theorem dX6_limit_67 : decode cX6_limit 67 = .ok (.iload_n 3, 1) := by decide +kernel
theorem dX6_limit_68 : decode cX6_limit 68 = .ok (.ifCond .eq 15, 3) := by decide +kernel
theorem dX6_limit_71 : decode cX6_limit 71 = .ok (.aload_n 0, 1) := by decide +kernel
theorem dX6_limit_72 : decode cX6_limit 72 = .ok (.getfield 10, 3) := by decide +kernel
theorem dX6_limit_75 : decode cX6_limit 75 = .ok (.iload_n 1, 1) := by decide +kernel
theorem dX6_limit_76 : decode cX6_limit 76 = .ok (.iload_n 2, 1) := by decide +kernel
theorem dX6_limit_77 : decode cX6_limit 77 = .ok (.invokevirtual 125, 3) := by decide +kernel
theorem dX6_limit_80 : decode cX6_limit 80 = .ok (.goto 12, 3) := by decide +kernel
theorem dX6_limit_83 : decode cX6_limit 83 = .ok (.aload_n 0, 1) := by decide +kernel
theorem dX6_limit_84 : decode cX6_limit 84 = .ok (.getfield 10, 3) := by decide +kernel
theorem dX6_limit_87 : decode cX6_limit 87 = .ok (.iload_n 1, 1) := by decide +kernel
theorem dX6_limit_88 : decode cX6_limit 88 = .ok (.iload_n 2, 1) := by decide +kernel
theorem dX6_limit_89 : decode cX6_limit 89 = .ok (.invokevirtual 128, 3) := by decide +kernel
theorem dX6_limit_92 : decode cX6_limit 92 = .ok (.aload_n 0, 1) := by decide +kernel
theorem dX6_limit_93 : decode cX6_limit 93 = .ok (.getfield 10, 3) := by decide +kernel
theorem dX6_limit_96 : decode cX6_limit 96 = .ok (.getfield 120, 3) := by decide +kernel
theorem dX6_limit_99 : decode cX6_limit 99 = .ok (.iload_n 1, 1) := by decide +kernel
theorem dX6_limit_100 : decode cX6_limit 100 = .ok (.iaload, 1) := by decide +kernel
theorem dX6_limit_101 : decode cX6_limit 101 = .ok (.ireturn, 1) := by decide +kernel
theorem dX6_value_0 : decode cX6_value 0 = .ok (.iload_n 1, 1) := by decide +kernel
theorem dX6_value_1 : decode cX6_value 1 = .ok (.bipush 12, 2) := by decide +kernel
theorem dX6_value_3 : decode cX6_value 3 = .ok (.invokestatic 44, 3) := by decide +kernel
theorem dX6_value_6 : decode cX6_value 6 = .ok (.aload_n 0, 1) := by decide +kernel
theorem dX6_value_7 : decode cX6_value 7 = .ok (.getfield 19, 3) := by decide +kernel
theorem dX6_value_10 : decode cX6_value 10 = .ok (.aload_n 0, 1) := by decide +kernel
theorem dX6_value_11 : decode cX6_value 11 = .ok (.getfield 10, 3) := by decide +kernel
theorem dX6_value_14 : decode cX6_value 14 = .ok (.invokevirtual 131, 3) := by decide +kernel
theorem dX6_value_17 : decode cX6_value 17 = .ok (.aload_n 0, 1) := by decide +kernel
theorem dX6_value_18 : decode cX6_value 18 = .ok (.iload_n 1, 1) := by decide +kernel
theorem dX6_value_19 : decode cX6_value 19 = .ok (.invokevirtual 135, 3) := by decide +kernel
theorem dX6_value_22 : decode cX6_value 22 = .ok (.ireturn, 1) := by decide +kernel
theorem dX6_sign_0 : decode cX6_sign 0 = .ok (.aload_n 0, 1) := by decide +kernel
theorem dX6_sign_1 : decode cX6_sign 1 = .ok (.iload_n 1, 1) := by decide +kernel
theorem dX6_sign_2 : decode cX6_sign 2 = .ok (.invokevirtual 66, 3) := by decide +kernel
theorem dX6_sign_5 : decode cX6_sign 5 = .ok (.iload_n 2, 1) := by decide +kernel
theorem dX6_sign_6 : decode cX6_sign 6 = .ok (.bipush 9, 2) := by decide +kernel
theorem dX6_sign_8 : decode cX6_sign 8 = .ok (.invokestatic 44, 3) := by decide +kernel
theorem dX6_sign_11 : decode cX6_sign 11 = .ok (.aload_n 0, 1) := by decide +kernel
theorem dX6_sign_12 : decode cX6_sign 12 = .ok (.getfield 19, 3) := by decide +kernel
theorem dX6_sign_15 : decode cX6_sign 15 = .ok (.aload_n 0, 1) := by decide +kernel
theorem dX6_sign_16 : decode cX6_sign 16 = .ok (.getfield 10, 3) := by decide +kernel
theorem dX6_sign_19 : decode cX6_sign 19 = .ok (.invokevirtual 131, 3) := by decide +kernel
theorem dX6_sign_22 : decode cX6_sign 22 = .ok (.aload_n 0, 1) := by decide +kernel
theorem dX6_sign_23 : decode cX6_sign 23 = .ok (.iload_n 1, 1) := by decide +kernel
theorem dX6_sign_24 : decode cX6_sign 24 = .ok (.iload_n 2, 1) := by decide +kernel
theorem dX6_sign_25 : decode cX6_sign 25 = .ok (.invokevirtual 139, 3) := by decide +kernel
theorem dX6_sign_28 : decode cX6_sign 28 = .ok (.ireturn, 1) := by decide +kernel
theorem dX6_kind_0 : decode cX6_kind 0 = .ok (.iload_n 1, 1) := by decide +kernel
theorem dX6_kind_1 : decode cX6_kind 1 = .ok (.invokestatic 40, 3) := by decide +kernel
theorem dX6_kind_4 : decode cX6_kind 4 = .ok (.iload_n 2, 1) := by decide +kernel
theorem dX6_kind_5 : decode cX6_kind 5 = .ok (.bipush 10, 2) := by decide +kernel
theorem dX6_kind_7 : decode cX6_kind 7 = .ok (.invokestatic 44, 3) := by decide +kernel
theorem dX6_kind_10 : decode cX6_kind 10 = .ok (.aload_n 0, 1) := by decide +kernel
theorem dX6_kind_11 : decode cX6_kind 11 = .ok (.getfield 19, 3) := by decide +kernel
theorem dX6_kind_14 : decode cX6_kind 14 = .ok (.aload_n 0, 1) := by decide +kernel
theorem dX6_kind_15 : decode cX6_kind 15 = .ok (.getfield 10, 3) := by decide +kernel
theorem dX6_kind_18 : decode cX6_kind 18 = .ok (.invokevirtual 131, 3) := by decide +kernel
theorem dX6_kind_21 : decode cX6_kind 21 = .ok (.aload_n 0, 1) := by decide +kernel
theorem dX6_kind_22 : decode cX6_kind 22 = .ok (.iload_n 1, 1) := by decide +kernel
theorem dX6_kind_23 : decode cX6_kind 23 = .ok (.iload_n 2, 1) := by decide +kernel
theorem dX6_kind_24 : decode cX6_kind 24 = .ok (.invokevirtual 143, 3) := by decide +kernel
theorem dX6_kind_27 : decode cX6_kind 27 = .ok (.ireturn, 1) := by decide +kernel
theorem dX6_lines_0 : decode cX6_lines 0 = .ok (.aload_n 0, 1) := by decide +kernel
theorem dX6_lines_1 : decode cX6_lines 1 = .ok (.getfield 19, 3) := by decide +kernel
theorem dX6_lines_4 : decode cX6_lines 4 = .ok (.aload_n 0, 1) := by decide +kernel
theorem dX6_lines_5 : decode cX6_lines 5 = .ok (.getfield 10, 3) := by decide +kernel
theorem dX6_lines_8 : decode cX6_lines 8 = .ok (.invokevirtual 131, 3) := by decide +kernel
theorem dX6_lines_11 : decode cX6_lines 11 = .ok (.aload_n 0, 1) := by decide +kernel
theorem dX6_lines_12 : decode cX6_lines 12 = .ok (.getfield 19, 3) := by decide +kernel
theorem dX6_lines_15 : decode cX6_lines 15 = .ok (.getfield 146, 3) := by decide +kernel
theorem dX6_lines_18 : decode cX6_lines 18 = .ok (.getfield 150, 3) := by decide +kernel
theorem dX6_lines_21 : decode cX6_lines 21 = .ok (.ireturn, 1) := by decide +kernel
theorem dX6_line_0 : decode cX6_line 0 = .ok (.aload_n 0, 1) := by decide +kernel
theorem dX6_line_1 : decode cX6_line 1 = .ok (.getfield 19, 3) := by decide +kernel
theorem dX6_line_4 : decode cX6_line 4 = .ok (.aload_n 0, 1) := by decide +kernel
theorem dX6_line_5 : decode cX6_line 5 = .ok (.getfield 10, 3) := by decide +kernel
theorem dX6_line_8 : decode cX6_line 8 = .ok (.invokevirtual 131, 3) := by decide +kernel
theorem dX6_line_11 : decode cX6_line 11 = .ok (.iload_n 1, 1) := by decide +kernel
theorem dX6_line_12 : decode cX6_line 12 = .ok (.ifCond .lt 17, 3) := by decide +kernel
theorem dX6_line_15 : decode cX6_line 15 = .ok (.iload_n 1, 1) := by decide +kernel
theorem dX6_line_16 : decode cX6_line 16 = .ok (.aload_n 0, 1) := by decide +kernel
theorem dX6_line_17 : decode cX6_line 17 = .ok (.getfield 19, 3) := by decide +kernel
theorem dX6_line_20 : decode cX6_line 20 = .ok (.getfield 146, 3) := by decide +kernel
theorem dX6_line_23 : decode cX6_line 23 = .ok (.getfield 150, 3) := by decide +kernel
theorem dX6_line_26 : decode cX6_line 26 = .ok (.if_icmp .lt 13, 3) := by decide +kernel
theorem dX6_line_29 : decode cX6_line 29 = .ok (.new 106, 3) := by decide +kernel
theorem dX6_line_32 : decode cX6_line 32 = .ok (.dup, 1) := by decide +kernel
theorem dX6_line_33 : decode cX6_line 33 = .ok (.ldc 155, 2) := by decide +kernel
theorem dX6_line_35 : decode cX6_line 35 = .ok (.invokespecial 110, 3) := by decide +kernel
theorem dX6_line_38 : decode cX6_line 38 = .ok (.athrow, 1) := by decide +kernel
theorem dX6_line_39 : decode cX6_line 39 = .ok (.iload_n 2, 1) := by decide +kernel
theorem dX6_line_40 : decode cX6_line 40 = .ok (.bipush 8, 2) := by decide +kernel
theorem dX6_line_42 : decode cX6_line 42 = .ok (.invokestatic 44, 3) := by decide +kernel
theorem dX6_line_45 : decode cX6_line 45 = .ok (.aload_n 0, 1) := by decide +kernel
theorem dX6_line_46 : decode cX6_line 46 = .ok (.getfield 19, 3) := by decide +kernel
theorem dX6_line_49 : decode cX6_line 49 = .ok (.getfield 146, 3) := by decide +kernel
theorem dX6_line_52 : decode cX6_line 52 = .ok (.iload_n 1, 1) := by decide +kernel
theorem dX6_line_53 : decode cX6_line 53 = .ok (.iload_n 2, 1) := by decide +kernel
theorem dX6_line_54 : decode cX6_line 54 = .ok (.invokevirtual 157, 3) := by decide +kernel
theorem dX6_line_57 : decode cX6_line 57 = .ok (.ireturn, 1) := by decide +kernel
theorem dX6_box_0 : decode cX6_box 0 = .ok (.iload_n 1, 1) := by decide +kernel
theorem dX6_box_1 : decode cX6_box 1 = .ok (.bipush 6, 2) := by decide +kernel
theorem dX6_box_3 : decode cX6_box 3 = .ok (.invokestatic 44, 3) := by decide +kernel
theorem dX6_box_6 : decode cX6_box 6 = .ok (.aload_n 0, 1) := by decide +kernel
theorem dX6_box_7 : decode cX6_box 7 = .ok (.getfield 19, 3) := by decide +kernel
theorem dX6_box_10 : decode cX6_box 10 = .ok (.aload_n 0, 1) := by decide +kernel
theorem dX6_box_11 : decode cX6_box 11 = .ok (.getfield 10, 3) := by decide +kernel
theorem dX6_box_14 : decode cX6_box 14 = .ok (.invokevirtual 131, 3) := by decide +kernel
theorem dX6_box_17 : decode cX6_box 17 = .ok (.aload_n 0, 1) := by decide +kernel
theorem dX6_box_18 : decode cX6_box 18 = .ok (.getfield 19, 3) := by decide +kernel
theorem dX6_box_21 : decode cX6_box 21 = .ok (.getfield 160, 3) := by decide +kernel
theorem dX6_box_24 : decode cX6_box 24 = .ok (.iload_n 1, 1) := by decide +kernel
theorem dX6_box_25 : decode cX6_box 25 = .ok (.invokevirtual 164, 3) := by decide +kernel
theorem dX6_box_28 : decode cX6_box 28 = .ok (.ireturn, 1) := by decide +kernel
theorem dX6_rounds_0 : decode cX6_rounds 0 = .ok (.iload_n 1, 1) := by decide +kernel
theorem dX6_rounds_1 : decode cX6_rounds 1 = .ok (.iconst 3, 1) := by decide +kernel
theorem dX6_rounds_2 : decode cX6_rounds 2 = .ok (.invokestatic 44, 3) := by decide +kernel
theorem dX6_rounds_5 : decode cX6_rounds 5 = .ok (.aload_n 0, 1) := by decide +kernel
theorem dX6_rounds_6 : decode cX6_rounds 6 = .ok (.getfield 19, 3) := by decide +kernel
theorem dX6_rounds_9 : decode cX6_rounds 9 = .ok (.aload_n 0, 1) := by decide +kernel
theorem dX6_rounds_10 : decode cX6_rounds 10 = .ok (.getfield 10, 3) := by decide +kernel
theorem dX6_rounds_13 : decode cX6_rounds 13 = .ok (.invokevirtual 131, 3) := by decide +kernel
theorem dX6_rounds_16 : decode cX6_rounds 16 = .ok (.aload_n 0, 1) := by decide +kernel
theorem dX6_rounds_17 : decode cX6_rounds 17 = .ok (.iload_n 1, 1) := by decide +kernel
theorem dX6_rounds_18 : decode cX6_rounds 18 = .ok (.invokevirtual 168, 3) := by decide +kernel
theorem dX6_rounds_21 : decode cX6_rounds 21 = .ok (.ireturn, 1) := by decide +kernel
theorem dX6_firstLines_0 : decode cX6_firstLines 0 = .ok (.aload_n 0, 1) := by decide +kernel
theorem dX6_firstLines_1 : decode cX6_firstLines 1 = .ok (.getfield 19, 3) := by decide +kernel
theorem dX6_firstLines_4 : decode cX6_firstLines 4 = .ok (.aload_n 0, 1) := by decide +kernel
theorem dX6_firstLines_5 : decode cX6_firstLines 5 = .ok (.getfield 10, 3) := by decide +kernel
theorem dX6_firstLines_8 : decode cX6_firstLines 8 = .ok (.invokevirtual 131, 3) := by decide +kernel
theorem dX6_firstLines_11 : decode cX6_firstLines 11 = .ok (.aload_n 0, 1) := by decide +kernel
theorem dX6_firstLines_12 : decode cX6_firstLines 12 = .ok (.getfield 19, 3) := by decide +kernel
theorem dX6_firstLines_15 : decode cX6_firstLines 15 = .ok (.getfield 171, 3) := by decide +kernel
theorem dX6_firstLines_18 : decode cX6_firstLines 18 = .ok (.ireturn, 1) := by decide +kernel
theorem dX6_explained_0 : decode cX6_explained 0 = .ok (.aload_n 0, 1) := by decide +kernel
theorem dX6_explained_1 : decode cX6_explained 1 = .ok (.getfield 19, 3) := by decide +kernel
theorem dX6_explained_4 : decode cX6_explained 4 = .ok (.aload_n 0, 1) := by decide +kernel
theorem dX6_explained_5 : decode cX6_explained 5 = .ok (.getfield 10, 3) := by decide +kernel
theorem dX6_explained_8 : decode cX6_explained 8 = .ok (.invokevirtual 131, 3) := by decide +kernel
theorem dX6_explained_11 : decode cX6_explained 11 = .ok (.aload_n 0, 1) := by decide +kernel
theorem dX6_explained_12 : decode cX6_explained 12 = .ok (.getfield 19, 3) := by decide +kernel
theorem dX6_explained_15 : decode cX6_explained 15 = .ok (.getfield 174, 3) := by decide +kernel
theorem dX6_explained_18 : decode cX6_explained 18 = .ok (.istore_n 1, 1) := by decide +kernel
theorem dX6_explained_19 : decode cX6_explained 19 = .ok (.iload_n 1, 1) := by decide +kernel
theorem dX6_explained_20 : decode cX6_explained 20 = .ok (.ifCond .le 17, 3) := by decide +kernel
theorem dX6_explained_23 : decode cX6_explained 23 = .ok (.aload_n 0, 1) := by decide +kernel
theorem dX6_explained_24 : decode cX6_explained 24 = .ok (.getfield 19, 3) := by decide +kernel
theorem dX6_explained_27 : decode cX6_explained 27 = .ok (.getfield 177, 3) := by decide +kernel
theorem dX6_explained_30 : decode cX6_explained 30 = .ok (.i2d, 1) := by decide +kernel
theorem dX6_explained_31 : decode cX6_explained 31 = .ok (.iload_n 1, 1) := by decide +kernel
theorem dX6_explained_32 : decode cX6_explained 32 = .ok (.i2d, 1) := by decide +kernel
theorem dX6_explained_33 : decode cX6_explained 33 = .ok (.ddiv, 1) := by decide +kernel
theorem dX6_explained_34 : decode cX6_explained 34 = .ok (.goto 4, 3) := by decide +kernel
theorem dX6_explained_37 : decode cX6_explained 37 = .ok (.dconst 1, 1) := by decide +kernel
theorem dX6_explained_38 : decode cX6_explained 38 = .ok (.dreturn, 1) := by decide +kernel
theorem dX6_linesAt_0 : decode cX6_linesAt 0 = .ok (.iload_n 1, 1) := by decide +kernel
theorem dX6_linesAt_1 : decode cX6_linesAt 1 = .ok (.sipush 200, 3) := by decide +kernel
theorem dX6_linesAt_4 : decode cX6_linesAt 4 = .ok (.invokestatic 44, 3) := by decide +kernel
theorem dX6_linesAt_7 : decode cX6_linesAt 7 = .ok (.iload_n 2, 1) := by decide +kernel
theorem dX6_linesAt_8 : decode cX6_linesAt 8 = .ok (.sipush 200, 3) := by decide +kernel
theorem dX6_linesAt_11 : decode cX6_linesAt 11 = .ok (.invokestatic 44, 3) := by decide +kernel
theorem dX6_linesAt_14 : decode cX6_linesAt 14 = .ok (.aload_n 0, 1) := by decide +kernel
theorem dX6_linesAt_15 : decode cX6_linesAt 15 = .ok (.getfield 23, 3) := by decide +kernel
theorem dX6_linesAt_18 : decode cX6_linesAt 18 = .ok (.aload_n 0, 1) := by decide +kernel
theorem dX6_linesAt_19 : decode cX6_linesAt 19 = .ok (.getfield 10, 3) := by decide +kernel
theorem dX6_linesAt_22 : decode cX6_linesAt 22 = .ok (.invokevirtual 180, 3) := by decide +kernel
theorem dX6_linesAt_25 : decode cX6_linesAt 25 = .ok (.aload_n 0, 1) := by decide +kernel
theorem dX6_linesAt_26 : decode cX6_linesAt 26 = .ok (.getfield 23, 3) := by decide +kernel
theorem dX6_linesAt_29 : decode cX6_linesAt 29 = .ok (.getfield 82, 3) := by decide +kernel
theorem dX6_linesAt_32 : decode cX6_linesAt 32 = .ok (.iconst 0, 1) := by decide +kernel
theorem dX6_linesAt_33 : decode cX6_linesAt 33 = .ok (.iload_n 1, 1) := by decide +kernel
theorem dX6_linesAt_34 : decode cX6_linesAt 34 = .ok (.iastore, 1) := by decide +kernel
theorem dX6_linesAt_35 : decode cX6_linesAt 35 = .ok (.aload_n 0, 1) := by decide +kernel
theorem dX6_linesAt_36 : decode cX6_linesAt 36 = .ok (.getfield 23, 3) := by decide +kernel
theorem dX6_linesAt_39 : decode cX6_linesAt 39 = .ok (.getfield 82, 3) := by decide +kernel
theorem dX6_linesAt_42 : decode cX6_linesAt 42 = .ok (.iconst 1, 1) := by decide +kernel
theorem dX6_linesAt_43 : decode cX6_linesAt 43 = .ok (.iload_n 2, 1) := by decide +kernel
theorem dX6_linesAt_44 : decode cX6_linesAt 44 = .ok (.iastore, 1) := by decide +kernel
theorem dX6_linesAt_45 : decode cX6_linesAt 45 = .ok (.aload_n 0, 1) := by decide +kernel
theorem dX6_linesAt_46 : decode cX6_linesAt 46 = .ok (.getfield 26, 3) := by decide +kernel
theorem dX6_linesAt_49 : decode cX6_linesAt 49 = .ok (.iconst 0, 1) := by decide +kernel
theorem dX6_linesAt_50 : decode cX6_linesAt 50 = .ok (.putfield 183, 3) := by decide +kernel
theorem dX6_linesAt_53 : decode cX6_linesAt 53 = .ok (.aload_n 0, 1) := by decide +kernel
theorem dX6_linesAt_54 : decode cX6_linesAt 54 = .ok (.getfield 26, 3) := by decide +kernel
theorem dX6_linesAt_57 : decode cX6_linesAt 57 = .ok (.aload_n 0, 1) := by decide +kernel
theorem dX6_linesAt_58 : decode cX6_linesAt 58 = .ok (.getfield 23, 3) := by decide +kernel
theorem dX6_linesAt_61 : decode cX6_linesAt 61 = .ok (.invokevirtual 131, 3) := by decide +kernel
theorem dX6_linesAt_64 : decode cX6_linesAt 64 = .ok (.aload_n 0, 1) := by decide +kernel
theorem dX6_linesAt_65 : decode cX6_linesAt 65 = .ok (.getfield 26, 3) := by decide +kernel
theorem dX6_linesAt_68 : decode cX6_linesAt 68 = .ok (.getfield 146, 3) := by decide +kernel
theorem dX6_linesAt_71 : decode cX6_linesAt 71 = .ok (.getfield 150, 3) := by decide +kernel
theorem dX6_linesAt_74 : decode cX6_linesAt 74 = .ok (.ireturn, 1) := by decide +kernel
theorem dX6_bestColumns_0 : decode cX6_bestColumns 0 = .ok (.aload_n 0, 1) := by decide +kernel
theorem dX6_bestColumns_1 : decode cX6_bestColumns 1 = .ok (.getfield 23, 3) := by decide +kernel
theorem dX6_bestColumns_4 : decode cX6_bestColumns 4 = .ok (.aload_n 0, 1) := by decide +kernel
theorem dX6_bestColumns_5 : decode cX6_bestColumns 5 = .ok (.getfield 10, 3) := by decide +kernel
theorem dX6_bestColumns_8 : decode cX6_bestColumns 8 = .ok (.invokevirtual 180, 3) := by decide +kernel
theorem dX6_bestColumns_11 : decode cX6_bestColumns 11 = .ok (.iconst 0, 1) := by decide +kernel
theorem dX6_bestColumns_12 : decode cX6_bestColumns 12 = .ok (.istore_n 1, 1) := by decide +kernel
theorem dX6_bestColumns_13 : decode cX6_bestColumns 13 = .ok (.iconst (-1), 1) := by decide +kernel
theorem dX6_bestColumns_14 : decode cX6_bestColumns 14 = .ok (.istore_n 2, 1) := by decide +kernel
theorem dX6_bestColumns_15 : decode cX6_bestColumns 15 = .ok (.iconst 1, 1) := by decide +kernel
theorem dX6_bestColumns_16 : decode cX6_bestColumns 16 = .ok (.istore_n 3, 1) := by decide +kernel
theorem dX6_bestColumns_17 : decode cX6_bestColumns 17 = .ok (.iload_n 3, 1) := by decide +kernel
theorem dX6_bestColumns_18 : decode cX6_bestColumns 18 = .ok (.getstatic 89, 3) := by decide +kernel
theorem dX6_bestColumns_21 : decode cX6_bestColumns 21 = .ok (.iconst 1, 1) := by decide +kernel
theorem dX6_bestColumns_22 : decode cX6_bestColumns 22 = .ok (.iaload, 1) := by decide +kernel
theorem dX6_bestColumns_23 : decode cX6_bestColumns 23 = .ok (.if_icmp .gt 59, 3) := by decide +kernel
theorem dX6_bestColumns_26 : decode cX6_bestColumns 26 = .ok (.aload_n 0, 1) := by decide +kernel
theorem dX6_bestColumns_27 : decode cX6_bestColumns 27 = .ok (.getfield 23, 3) := by decide +kernel
theorem dX6_bestColumns_30 : decode cX6_bestColumns 30 = .ok (.getfield 97, 3) := by decide +kernel
theorem dX6_bestColumns_33 : decode cX6_bestColumns 33 = .ok (.iconst 1, 1) := by decide +kernel
theorem dX6_bestColumns_34 : decode cX6_bestColumns 34 = .ok (.iload_n 3, 1) := by decide +kernel
theorem dX6_bestColumns_35 : decode cX6_bestColumns 35 = .ok (.iastore, 1) := by decide +kernel
theorem dX6_bestColumns_36 : decode cX6_bestColumns 36 = .ok (.aload_n 0, 1) := by decide +kernel
theorem dX6_bestColumns_37 : decode cX6_bestColumns 37 = .ok (.getfield 26, 3) := by decide +kernel
theorem dX6_bestColumns_40 : decode cX6_bestColumns 40 = .ok (.iconst 0, 1) := by decide +kernel
theorem dX6_bestColumns_41 : decode cX6_bestColumns 41 = .ok (.putfield 183, 3) := by decide +kernel
theorem dX6_bestColumns_44 : decode cX6_bestColumns 44 = .ok (.aload_n 0, 1) := by decide +kernel
theorem dX6_bestColumns_45 : decode cX6_bestColumns 45 = .ok (.getfield 26, 3) := by decide +kernel
theorem dX6_bestColumns_48 : decode cX6_bestColumns 48 = .ok (.aload_n 0, 1) := by decide +kernel
theorem dX6_bestColumns_49 : decode cX6_bestColumns 49 = .ok (.getfield 23, 3) := by decide +kernel
theorem dX6_bestColumns_52 : decode cX6_bestColumns 52 = .ok (.invokevirtual 131, 3) := by decide +kernel
theorem dX6_bestColumns_55 : decode cX6_bestColumns 55 = .ok (.aload_n 0, 1) := by decide +kernel
theorem dX6_bestColumns_56 : decode cX6_bestColumns 56 = .ok (.getfield 26, 3) := by decide +kernel
theorem dX6_bestColumns_59 : decode cX6_bestColumns 59 = .ok (.getfield 177, 3) := by decide +kernel
theorem dX6_bestColumns_62 : decode cX6_bestColumns 62 = .ok (.iload_n 2, 1) := by decide +kernel
theorem dX6_bestColumns_63 : decode cX6_bestColumns 63 = .ok (.if_icmp .le 13, 3) := by decide +kernel
theorem dX6_bestColumns_66 : decode cX6_bestColumns 66 = .ok (.aload_n 0, 1) := by decide +kernel
theorem dX6_bestColumns_67 : decode cX6_bestColumns 67 = .ok (.getfield 26, 3) := by decide +kernel
theorem dX6_bestColumns_70 : decode cX6_bestColumns 70 = .ok (.getfield 177, 3) := by decide +kernel
theorem dX6_bestColumns_73 : decode cX6_bestColumns 73 = .ok (.istore_n 2, 1) := by decide +kernel
theorem dX6_bestColumns_74 : decode cX6_bestColumns 74 = .ok (.iload_n 3, 1) := by decide +kernel
theorem dX6_bestColumns_75 : decode cX6_bestColumns 75 = .ok (.istore_n 1, 1) := by decide +kernel
theorem dX6_bestColumns_76 : decode cX6_bestColumns 76 = .ok (.iinc 3 1, 3) := by decide +kernel
theorem dX6_bestColumns_79 : decode cX6_bestColumns 79 = .ok (.goto (-62), 3) := by decide +kernel
theorem dX6_bestColumns_82 : decode cX6_bestColumns 82 = .ok (.iload_n 1, 1) := by decide +kernel
theorem dX6_bestColumns_83 : decode cX6_bestColumns 83 = .ok (.ireturn, 1) := by decide +kernel
theorem dX6_zoomFor_0 : decode cX6_zoomFor 0 = .ok (.iload_n 1, 1) := by decide +kernel
theorem dX6_zoomFor_1 : decode cX6_zoomFor 1 = .ok (.invokestatic 40, 3) := by decide +kernel
theorem dX6_zoomFor_4 : decode cX6_zoomFor 4 = .ok (.iconst 0, 1) := by decide +kernel
theorem dX6_zoomFor_5 : decode cX6_zoomFor 5 = .ok (.istore_n 2, 1) := by decide +kernel
theorem dX6_zoomFor_6 : decode cX6_zoomFor 6 = .ok (.iconst 0, 1) := by decide +kernel
theorem dX6_zoomFor_7 : decode cX6_zoomFor 7 = .ok (.istore_n 3, 1) := by decide +kernel
theorem dX6_zoomFor_8 : decode cX6_zoomFor 8 = .ok (.iload_n 3, 1) := by decide +kernel
theorem dX6_zoomFor_9 : decode cX6_zoomFor 9 = .ok (.aload_n 0, 1) := by decide +kernel
theorem dX6_zoomFor_10 : decode cX6_zoomFor 10 = .ok (.getfield 10, 3) := by decide +kernel
theorem dX6_zoomFor_13 : decode cX6_zoomFor 13 = .ok (.getfield 48, 3) := by decide +kernel
theorem dX6_zoomFor_16 : decode cX6_zoomFor 16 = .ok (.if_icmp .ge 47, 3) := by decide +kernel
theorem dX6_zoomFor_19 : decode cX6_zoomFor 19 = .ok (.aload_n 0, 1) := by decide +kernel
theorem dX6_zoomFor_20 : decode cX6_zoomFor 20 = .ok (.getfield 10, 3) := by decide +kernel
theorem dX6_zoomFor_23 : decode cX6_zoomFor 23 = .ok (.getfield 187, 3) := by decide +kernel
theorem dX6_zoomFor_26 : decode cX6_zoomFor 26 = .ok (.iload_n 3, 1) := by decide +kernel
theorem dX6_zoomFor_27 : decode cX6_zoomFor 27 = .ok (.iaload, 1) := by decide +kernel
theorem dX6_zoomFor_28 : decode cX6_zoomFor 28 = .ok (.iload_n 1, 1) := by decide +kernel
theorem dX6_zoomFor_29 : decode cX6_zoomFor 29 = .ok (.if_icmp .ne 28, 3) := by decide +kernel
theorem dX6_zoomFor_32 : decode cX6_zoomFor 32 = .ok (.aload_n 0, 1) := by decide +kernel
theorem dX6_zoomFor_33 : decode cX6_zoomFor 33 = .ok (.getfield 10, 3) := by decide +kernel
theorem dX6_zoomFor_36 : decode cX6_zoomFor 36 = .ok (.iload_n 3, 1) := by decide +kernel
theorem dX6_zoomFor_37 : decode cX6_zoomFor 37 = .ok (.invokevirtual 190, 3) := by decide +kernel
theorem dX6_zoomFor_40 : decode cX6_zoomFor 40 = .ok (.ifCond .eq 17, 3) := by decide +kernel
theorem dX6_zoomFor_43 : decode cX6_zoomFor 43 = .ok (.iload_n 2, 1) := by decide +kernel
theorem dX6_zoomFor_44 : decode cX6_zoomFor 44 = .ok (.aload_n 0, 1) := by decide +kernel
theorem dX6_zoomFor_45 : decode cX6_zoomFor 45 = .ok (.getfield 10, 3) := by decide +kernel
theorem dX6_zoomFor_48 : decode cX6_zoomFor 48 = .ok (.getfield 194, 3) := by decide +kernel
theorem dX6_zoomFor_51 : decode cX6_zoomFor 51 = .ok (.iload_n 3, 1) := by decide +kernel
theorem dX6_zoomFor_52 : decode cX6_zoomFor 52 = .ok (.iaload, 1) := by decide +kernel
theorem dX6_zoomFor_53 : decode cX6_zoomFor 53 = .ok (.invokestatic 197, 3) := by decide +kernel
theorem dX6_zoomFor_56 : decode cX6_zoomFor 56 = .ok (.istore_n 2, 1) := by decide +kernel
theorem dX6_zoomFor_57 : decode cX6_zoomFor 57 = .ok (.iinc 3 1, 3) := by decide +kernel
theorem dX6_zoomFor_60 : decode cX6_zoomFor 60 = .ok (.goto (-52), 3) := by decide +kernel
theorem dX6_zoomFor_63 : decode cX6_zoomFor 63 = .ok (.iload_n 2, 1) := by decide +kernel
theorem dX6_zoomFor_64 : decode cX6_zoomFor 64 = .ok (.ireturn, 1) := by decide +kernel
theorem dX6_linesSaved_0 : decode cX6_linesSaved 0 = .ok (.aload_n 0, 1) := by decide +kernel
theorem dX6_linesSaved_1 : decode cX6_linesSaved 1 = .ok (.iload_n 1, 1) := by decide +kernel
theorem dX6_linesSaved_2 : decode cX6_linesSaved 2 = .ok (.invokevirtual 66, 3) := by decide +kernel
theorem dX6_linesSaved_5 : decode cX6_linesSaved 5 = .ok (.aload_n 0, 1) := by decide +kernel
theorem dX6_linesSaved_6 : decode cX6_linesSaved 6 = .ok (.getfield 19, 3) := by decide +kernel
theorem dX6_linesSaved_9 : decode cX6_linesSaved 9 = .ok (.aload_n 0, 1) := by decide +kernel
theorem dX6_linesSaved_10 : decode cX6_linesSaved 10 = .ok (.getfield 10, 3) := by decide +kernel
theorem dX6_linesSaved_13 : decode cX6_linesSaved 13 = .ok (.invokevirtual 131, 3) := by decide +kernel
theorem dX6_linesSaved_16 : decode cX6_linesSaved 16 = .ok (.aload_n 0, 1) := by decide +kernel
theorem dX6_linesSaved_17 : decode cX6_linesSaved 17 = .ok (.getfield 23, 3) := by decide +kernel
theorem dX6_linesSaved_20 : decode cX6_linesSaved 20 = .ok (.aload_n 0, 1) := by decide +kernel
theorem dX6_linesSaved_21 : decode cX6_linesSaved 21 = .ok (.getfield 10, 3) := by decide +kernel
theorem dX6_linesSaved_24 : decode cX6_linesSaved 24 = .ok (.invokevirtual 180, 3) := by decide +kernel
theorem dX6_linesSaved_27 : decode cX6_linesSaved 27 = .ok (.aload_n 0, 1) := by decide +kernel
theorem dX6_linesSaved_28 : decode cX6_linesSaved 28 = .ok (.getfield 23, 3) := by decide +kernel
theorem dX6_linesSaved_31 : decode cX6_linesSaved 31 = .ok (.iload_n 1, 1) := by decide +kernel
theorem dX6_linesSaved_32 : decode cX6_linesSaved 32 = .ok (.invokevirtual 69, 3) := by decide +kernel
theorem dX6_linesSaved_35 : decode cX6_linesSaved 35 = .ok (.aload_n 0, 1) := by decide +kernel
theorem dX6_linesSaved_36 : decode cX6_linesSaved 36 = .ok (.getfield 26, 3) := by decide +kernel
theorem dX6_linesSaved_39 : decode cX6_linesSaved 39 = .ok (.iconst 0, 1) := by decide +kernel
theorem dX6_linesSaved_40 : decode cX6_linesSaved 40 = .ok (.putfield 183, 3) := by decide +kernel
theorem dX6_linesSaved_43 : decode cX6_linesSaved 43 = .ok (.aload_n 0, 1) := by decide +kernel
theorem dX6_linesSaved_44 : decode cX6_linesSaved 44 = .ok (.getfield 26, 3) := by decide +kernel
theorem dX6_linesSaved_47 : decode cX6_linesSaved 47 = .ok (.aload_n 0, 1) := by decide +kernel
theorem dX6_linesSaved_48 : decode cX6_linesSaved 48 = .ok (.getfield 23, 3) := by decide +kernel
theorem dX6_linesSaved_51 : decode cX6_linesSaved 51 = .ok (.invokevirtual 131, 3) := by decide +kernel
theorem dX6_linesSaved_54 : decode cX6_linesSaved 54 = .ok (.aload_n 0, 1) := by decide +kernel
theorem dX6_linesSaved_55 : decode cX6_linesSaved 55 = .ok (.getfield 19, 3) := by decide +kernel
theorem dX6_linesSaved_58 : decode cX6_linesSaved 58 = .ok (.getfield 146, 3) := by decide +kernel
theorem dX6_linesSaved_61 : decode cX6_linesSaved 61 = .ok (.getfield 150, 3) := by decide +kernel
theorem dX6_linesSaved_64 : decode cX6_linesSaved 64 = .ok (.aload_n 0, 1) := by decide +kernel
theorem dX6_linesSaved_65 : decode cX6_linesSaved 65 = .ok (.getfield 26, 3) := by decide +kernel
theorem dX6_linesSaved_68 : decode cX6_linesSaved 68 = .ok (.getfield 146, 3) := by decide +kernel
theorem dX6_linesSaved_71 : decode cX6_linesSaved 71 = .ok (.getfield 150, 3) := by decide +kernel
theorem dX6_linesSaved_74 : decode cX6_linesSaved 74 = .ok (.isub, 1) := by decide +kernel
theorem dX6_linesSaved_75 : decode cX6_linesSaved 75 = .ok (.ireturn, 1) := by decide +kernel
theorem dX6_append_0 : decode cX6_append 0 = .ok (.iload_n 1, 1) := by decide +kernel
theorem dX6_append_1 : decode cX6_append 1 = .ok (.sipush 128, 3) := by decide +kernel
theorem dX6_append_4 : decode cX6_append 4 = .ok (.invokestatic 44, 3) := by decide +kernel
theorem dX6_append_7 : decode cX6_append 7 = .ok (.aload_n 0, 1) := by decide +kernel
theorem dX6_append_8 : decode cX6_append 8 = .ok (.getfield 32, 3) := by decide +kernel
theorem dX6_append_11 : decode cX6_append 11 = .ok (.getfield 202, 3) := by decide +kernel
theorem dX6_append_14 : decode cX6_append 14 = .ok (.sipush 160, 3) := by decide +kernel
theorem dX6_append_17 : decode cX6_append 17 = .ok (.if_icmp .lt 13, 3) := by decide +kernel
theorem dX6_append_20 : decode cX6_append 20 = .ok (.new 52, 3) := by decide +kernel
theorem dX6_append_23 : decode cX6_append 23 = .ok (.dup, 1) := by decide +kernel
theorem dX6_append_24 : decode cX6_append 24 = .ok (.ldc 205, 2) := by decide +kernel
theorem dX6_append_26 : decode cX6_append 26 = .ok (.invokespecial 56, 3) := by decide +kernel
theorem dX6_append_29 : decode cX6_append 29 = .ok (.athrow, 1) := by decide +kernel
theorem dX6_append_30 : decode cX6_append 30 = .ok (.aload_n 0, 1) := by decide +kernel
theorem dX6_append_31 : decode cX6_append 31 = .ok (.getfield 32, 3) := by decide +kernel
theorem dX6_append_34 : decode cX6_append 34 = .ok (.iload_n 1, 1) := by decide +kernel
theorem dX6_append_35 : decode cX6_append 35 = .ok (.invokevirtual 207, 3) := by decide +kernel
theorem dX6_append_38 : decode cX6_append 38 = .ok (.aload_n 0, 1) := by decide +kernel
theorem dX6_append_39 : decode cX6_append 39 = .ok (.getfield 32, 3) := by decide +kernel
theorem dX6_append_42 : decode cX6_append 42 = .ok (.getfield 202, 3) := by decide +kernel
theorem dX6_append_45 : decode cX6_append 45 = .ok (.ireturn, 1) := by decide +kernel
theorem dX6_clearText_0 : decode cX6_clearText 0 = .ok (.aload_n 0, 1) := by decide +kernel
theorem dX6_clearText_1 : decode cX6_clearText 1 = .ok (.getfield 32, 3) := by decide +kernel
theorem dX6_clearText_4 : decode cX6_clearText 4 = .ok (.getfield 202, 3) := by decide +kernel
theorem dX6_clearText_7 : decode cX6_clearText 7 = .ok (.istore_n 1, 1) := by decide +kernel
theorem dX6_clearText_8 : decode cX6_clearText 8 = .ok (.aload_n 0, 1) := by decide +kernel
theorem dX6_clearText_9 : decode cX6_clearText 9 = .ok (.getfield 32, 3) := by decide +kernel
theorem dX6_clearText_12 : decode cX6_clearText 12 = .ok (.iconst 0, 1) := by decide +kernel
theorem dX6_clearText_13 : decode cX6_clearText 13 = .ok (.putfield 202, 3) := by decide +kernel
theorem dX6_clearText_16 : decode cX6_clearText 16 = .ok (.iload_n 1, 1) := by decide +kernel
theorem dX6_clearText_17 : decode cX6_clearText 17 = .ok (.ireturn, 1) := by decide +kernel
theorem dX6_parse_0 : decode cX6_parse 0 = .ok (.aload_n 0, 1) := by decide +kernel
theorem dX6_parse_1 : decode cX6_parse 1 = .ok (.getfield 32, 3) := by decide +kernel
theorem dX6_parse_4 : decode cX6_parse 4 = .ok (.invokevirtual 210, 3) := by decide +kernel
theorem dX6_parse_7 : decode cX6_parse 7 = .ok (.aload_n 0, 1) := by decide +kernel
theorem dX6_parse_8 : decode cX6_parse 8 = .ok (.getfield 32, 3) := by decide +kernel
theorem dX6_parse_11 : decode cX6_parse 11 = .ok (.getfield 213, 3) := by decide +kernel
theorem dX6_parse_14 : decode cX6_parse 14 = .ok (.iconst (-1), 1) := by decide +kernel
theorem dX6_parse_15 : decode cX6_parse 15 = .ok (.if_icmp .eq 14, 3) := by decide +kernel
theorem dX6_parse_18 : decode cX6_parse 18 = .ok (.bipush (-10), 2) := by decide +kernel
theorem dX6_parse_20 : decode cX6_parse 20 = .ok (.aload_n 0, 1) := by decide +kernel
theorem dX6_parse_21 : decode cX6_parse 21 = .ok (.getfield 32, 3) := by decide +kernel
theorem dX6_parse_24 : decode cX6_parse 24 = .ok (.getfield 213, 3) := by decide +kernel
theorem dX6_parse_27 : decode cX6_parse 27 = .ok (.isub, 1) := by decide +kernel
theorem dX6_parse_28 : decode cX6_parse 28 = .ok (.ireturn, 1) := by decide +kernel
theorem dX6_parse_29 : decode cX6_parse 29 = .ok (.aload_n 0, 1) := by decide +kernel
theorem dX6_parse_30 : decode cX6_parse 30 = .ok (.invokevirtual 59, 3) := by decide +kernel
theorem dX6_parse_33 : decode cX6_parse 33 = .ok (.aload_n 0, 1) := by decide +kernel
theorem dX6_parse_34 : decode cX6_parse 34 = .ok (.getfield 10, 3) := by decide +kernel
theorem dX6_parse_37 : decode cX6_parse 37 = .ok (.aload_n 0, 1) := by decide +kernel
theorem dX6_parse_38 : decode cX6_parse 38 = .ok (.getfield 32, 3) := by decide +kernel
theorem dX6_parse_41 : decode cX6_parse 41 = .ok (.getfield 216, 3) := by decide +kernel
theorem dX6_parse_44 : decode cX6_parse 44 = .ok (.invokevirtual 219, 3) := by decide +kernel
theorem dX6_parse_47 : decode cX6_parse 47 = .ok (.aload_n 0, 1) := by decide +kernel
theorem dX6_parse_48 : decode cX6_parse 48 = .ok (.getfield 10, 3) := by decide +kernel
theorem dX6_parse_51 : decode cX6_parse 51 = .ok (.getfield 48, 3) := by decide +kernel
theorem dX6_parse_54 : decode cX6_parse 54 = .ok (.ireturn, 1) := by decide +kernel
theorem dX6_undo_0 : decode cX6_undo 0 = .ok (.aload_n 0, 1) := by decide +kernel
theorem dX6_undo_1 : decode cX6_undo 1 = .ok (.getfield 222, 3) := by decide +kernel
theorem dX6_undo_4 : decode cX6_undo 4 = .ok (.ifCond .gt 13, 3) := by decide +kernel
theorem dX6_undo_7 : decode cX6_undo 7 = .ok (.new 52, 3) := by decide +kernel
theorem dX6_undo_10 : decode cX6_undo 10 = .ok (.dup, 1) := by decide +kernel
theorem dX6_undo_11 : decode cX6_undo 11 = .ok (.ldc 225, 2) := by decide +kernel
theorem dX6_undo_13 : decode cX6_undo 13 = .ok (.invokespecial 56, 3) := by decide +kernel
theorem dX6_undo_16 : decode cX6_undo 16 = .ok (.athrow, 1) := by decide +kernel
theorem dX6_undo_17 : decode cX6_undo 17 = .ok (.aload_n 0, 1) := by decide +kernel
theorem dX6_undo_18 : decode cX6_undo 18 = .ok (.dup, 1) := by decide +kernel
theorem dX6_undo_19 : decode cX6_undo 19 = .ok (.getfield 222, 3) := by decide +kernel
theorem dX6_undo_22 : decode cX6_undo 22 = .ok (.iconst 1, 1) := by decide +kernel
theorem dX6_undo_23 : decode cX6_undo 23 = .ok (.isub, 1) := by decide +kernel
theorem dX6_undo_24 : decode cX6_undo 24 = .ok (.putfield 222, 3) := by decide +kernel
theorem dX6_undo_27 : decode cX6_undo 27 = .ok (.aload_n 0, 1) := by decide +kernel
theorem dX6_undo_28 : decode cX6_undo 28 = .ok (.getfield 36, 3) := by decide +kernel
theorem dX6_undo_31 : decode cX6_undo 31 = .ok (.aload_n 0, 1) := by decide +kernel
theorem dX6_undo_32 : decode cX6_undo 32 = .ok (.getfield 227, 3) := by decide +kernel
theorem dX6_undo_35 : decode cX6_undo 35 = .ok (.aload_n 0, 1) := by decide +kernel
theorem dX6_undo_36 : decode cX6_undo 36 = .ok (.getfield 222, 3) := by decide +kernel
theorem dX6_undo_39 : decode cX6_undo 39 = .ok (.iadd, 1) := by decide +kernel
theorem dX6_undo_40 : decode cX6_undo 40 = .ok (.iconst 4, 1) := by decide +kernel
theorem dX6_undo_41 : decode cX6_undo 41 = .ok (.irem, 1) := by decide +kernel
theorem dX6_undo_42 : decode cX6_undo 42 = .ok (.aaload, 1) := by decide +kernel
theorem dX6_undo_43 : decode cX6_undo 43 = .ok (.astore_n 1, 1) := by decide +kernel
theorem dX6_undo_44 : decode cX6_undo 44 = .ok (.aload_n 1, 1) := by decide +kernel
theorem dX6_undo_45 : decode cX6_undo 45 = .ok (.ifnull 11, 3) := by decide +kernel
theorem dX6_undo_48 : decode cX6_undo 48 = .ok (.aload_n 0, 1) := by decide +kernel
theorem dX6_undo_49 : decode cX6_undo 49 = .ok (.getfield 10, 3) := by decide +kernel
theorem dX6_undo_52 : decode cX6_undo 52 = .ok (.aload_n 1, 1) := by decide +kernel
theorem dX6_undo_53 : decode cX6_undo 53 = .ok (.invokevirtual 180, 3) := by decide +kernel
theorem dX6_undo_56 : decode cX6_undo 56 = .ok (.aload_n 0, 1) := by decide +kernel
theorem dX6_undo_57 : decode cX6_undo 57 = .ok (.getfield 19, 3) := by decide +kernel
theorem dX6_undo_60 : decode cX6_undo 60 = .ok (.iconst 0, 1) := by decide +kernel
theorem dX6_undo_61 : decode cX6_undo 61 = .ok (.putfield 183, 3) := by decide +kernel
theorem dX6_undo_64 : decode cX6_undo 64 = .ok (.aload_n 0, 1) := by decide +kernel
theorem dX6_undo_65 : decode cX6_undo 65 = .ok (.getfield 222, 3) := by decide +kernel
theorem dX6_undo_68 : decode cX6_undo 68 = .ok (.ireturn, 1) := by decide +kernel
theorem dX6_digest_0 : decode cX6_digest 0 = .ok (.aload_n 0, 1) := by decide +kernel
theorem dX6_digest_1 : decode cX6_digest 1 = .ok (.getfield 19, 3) := by decide +kernel
theorem dX6_digest_4 : decode cX6_digest 4 = .ok (.aload_n 0, 1) := by decide +kernel
theorem dX6_digest_5 : decode cX6_digest 5 = .ok (.getfield 10, 3) := by decide +kernel
theorem dX6_digest_8 : decode cX6_digest 8 = .ok (.invokevirtual 131, 3) := by decide +kernel
theorem dX6_digest_11 : decode cX6_digest 11 = .ok (.ldc2_w 230, 3) := by decide +kernel
theorem dX6_digest_14 : decode cX6_digest 14 = .ok (.aload_n 0, 1) := by decide +kernel
theorem dX6_digest_15 : decode cX6_digest 15 = .ok (.getfield 32, 3) := by decide +kernel
theorem dX6_digest_18 : decode cX6_digest 18 = .ok (.getfield 202, 3) := by decide +kernel
theorem dX6_digest_21 : decode cX6_digest 21 = .ok (.i2l, 1) := by decide +kernel
theorem dX6_digest_22 : decode cX6_digest 22 = .ok (.ladd, 1) := by decide +kernel
theorem dX6_digest_23 : decode cX6_digest 23 = .ok (.lstore_n 1, 1) := by decide +kernel
theorem dX6_digest_24 : decode cX6_digest 24 = .ok (.iconst 0, 1) := by decide +kernel
theorem dX6_digest_25 : decode cX6_digest 25 = .ok (.istore_n 3, 1) := by decide +kernel
theorem dX6_digest_26 : decode cX6_digest 26 = .ok (.iload_n 3, 1) := by decide +kernel
theorem dX6_digest_27 : decode cX6_digest 27 = .ok (.bipush 12, 2) := by decide +kernel
theorem dX6_digest_29 : decode cX6_digest 29 = .ok (.if_icmp .ge 22, 3) := by decide +kernel
theorem dX6_digest_32 : decode cX6_digest 32 = .ok (.ldc2_w 232, 3) := by decide +kernel
theorem dX6_digest_35 : decode cX6_digest 35 = .ok (.lload_n 1, 1) := by decide +kernel
theorem dX6_digest_36 : decode cX6_digest 36 = .ok (.lmul, 1) := by decide +kernel
theorem dX6_digest_37 : decode cX6_digest 37 = .ok (.aload_n 0, 1) := by decide +kernel
theorem dX6_digest_38 : decode cX6_digest 38 = .ok (.iload_n 3, 1) := by decide +kernel
theorem dX6_digest_39 : decode cX6_digest 39 = .ok (.invokevirtual 135, 3) := by decide +kernel
theorem dX6_digest_42 : decode cX6_digest 42 = .ok (.i2l, 1) := by decide +kernel
theorem dX6_digest_43 : decode cX6_digest 43 = .ok (.ladd, 1) := by decide +kernel
theorem dX6_digest_44 : decode cX6_digest 44 = .ok (.lstore_n 1, 1) := by decide +kernel
theorem dX6_digest_45 : decode cX6_digest 45 = .ok (.iinc 3 1, 3) := by decide +kernel
theorem dX6_digest_48 : decode cX6_digest 48 = .ok (.goto (-22), 3) := by decide +kernel
theorem dX6_digest_51 : decode cX6_digest 51 = .ok (.iconst 0, 1) := by decide +kernel
theorem dX6_digest_52 : decode cX6_digest 52 = .ok (.istore_n 3, 1) := by decide +kernel
theorem dX6_digest_53 : decode cX6_digest 53 = .ok (.iload_n 3, 1) := by decide +kernel
theorem dX6_digest_54 : decode cX6_digest 54 = .ok (.iconst 5, 1) := by decide +kernel
theorem dX6_digest_55 : decode cX6_digest 55 = .ok (.if_icmp .ge 26, 3) := by decide +kernel
theorem dX6_digest_58 : decode cX6_digest 58 = .ok (.ldc2_w 232, 3) := by decide +kernel
theorem dX6_digest_61 : decode cX6_digest 61 = .ok (.lload_n 1, 1) := by decide +kernel
theorem dX6_digest_62 : decode cX6_digest 62 = .ok (.lmul, 1) := by decide +kernel
theorem dX6_digest_63 : decode cX6_digest 63 = .ok (.aload_n 0, 1) := by decide +kernel
theorem dX6_digest_64 : decode cX6_digest 64 = .ok (.getfield 10, 3) := by decide +kernel
theorem dX6_digest_67 : decode cX6_digest 67 = .ok (.getfield 111, 3) := by decide +kernel
theorem dX6_digest_70 : decode cX6_digest 70 = .ok (.iload_n 3, 1) := by decide +kernel
theorem dX6_digest_71 : decode cX6_digest 71 = .ok (.iaload, 1) := by decide +kernel
theorem dX6_digest_72 : decode cX6_digest 72 = .ok (.i2l, 1) := by decide +kernel
theorem dX6_digest_73 : decode cX6_digest 73 = .ok (.ladd, 1) := by decide +kernel
theorem dX6_digest_74 : decode cX6_digest 74 = .ok (.lstore_n 1, 1) := by decide +kernel
theorem dX6_digest_75 : decode cX6_digest 75 = .ok (.iinc 3 1, 3) := by decide +kernel
theorem dX6_digest_78 : decode cX6_digest 78 = .ok (.goto (-25), 3) := by decide +kernel
theorem dX6_digest_81 : decode cX6_digest 81 = .ok (.aload_n 0, 1) := by decide +kernel
theorem dX6_digest_82 : decode cX6_digest 82 = .ok (.lload_n 1, 1) := by decide +kernel
theorem dX6_digest_83 : decode cX6_digest 83 = .ok (.invokevirtual 234, 3) := by decide +kernel
theorem dX6_digest_86 : decode cX6_digest 86 = .ok (.lstore_n 1, 1) := by decide +kernel
theorem dX6_digest_87 : decode cX6_digest 87 = .ok (.aload_n 0, 1) := by decide +kernel
theorem dX6_digest_88 : decode cX6_digest 88 = .ok (.lload_n 1, 1) := by decide +kernel
theorem dX6_digest_89 : decode cX6_digest 89 = .ok (.invokevirtual 238, 3) := by decide +kernel
theorem dX6_digest_92 : decode cX6_digest 92 = .ok (.lstore_n 1, 1) := by decide +kernel
theorem dX6_digest_93 : decode cX6_digest 93 = .ok (.aload_n 0, 1) := by decide +kernel
theorem dX6_digest_94 : decode cX6_digest 94 = .ok (.lload_n 1, 1) := by decide +kernel
theorem dX6_digest_95 : decode cX6_digest 95 = .ok (.invokevirtual 241, 3) := by decide +kernel
theorem dX6_digest_98 : decode cX6_digest 98 = .ok (.lstore_n 1, 1) := by decide +kernel
theorem dX6_digest_99 : decode cX6_digest 99 = .ok (.iconst 0, 1) := by decide +kernel
theorem dX6_digest_100 : decode cX6_digest 100 = .ok (.istore_n 3, 1) := by decide +kernel
theorem dX6_digest_101 : decode cX6_digest 101 = .ok (.iload_n 3, 1) := by decide +kernel
theorem dX6_digest_102 : decode cX6_digest 102 = .ok (.bipush 6, 2) := by decide +kernel
theorem dX6_digest_104 : decode cX6_digest 104 = .ok (.if_icmp .ge 28, 3) := by decide +kernel
theorem dX6_digest_107 : decode cX6_digest 107 = .ok (.ldc2_w 232, 3) := by decide +kernel
theorem dX6_digest_110 : decode cX6_digest 110 = .ok (.lload_n 1, 1) := by decide +kernel
theorem dX6_digest_111 : decode cX6_digest 111 = .ok (.lmul, 1) := by decide +kernel
theorem dX6_digest_112 : decode cX6_digest 112 = .ok (.aload_n 0, 1) := by decide +kernel
theorem dX6_digest_113 : decode cX6_digest 113 = .ok (.getfield 19, 3) := by decide +kernel
theorem dX6_digest_116 : decode cX6_digest 116 = .ok (.getfield 160, 3) := by decide +kernel
theorem dX6_digest_119 : decode cX6_digest 119 = .ok (.iload_n 3, 1) := by decide +kernel
theorem dX6_digest_120 : decode cX6_digest 120 = .ok (.invokevirtual 164, 3) := by decide +kernel
theorem dX6_digest_123 : decode cX6_digest 123 = .ok (.i2l, 1) := by decide +kernel
theorem dX6_digest_124 : decode cX6_digest 124 = .ok (.ladd, 1) := by decide +kernel
theorem dX6_digest_125 : decode cX6_digest 125 = .ok (.lstore_n 1, 1) := by decide +kernel
theorem dX6_digest_126 : decode cX6_digest 126 = .ok (.iinc 3 1, 3) := by decide +kernel
theorem dX6_digest_129 : decode cX6_digest 129 = .ok (.goto (-28), 3) := by decide +kernel
theorem dX6_digest_132 : decode cX6_digest 132 = .ok (.iconst 0, 1) := by decide +kernel
theorem dX6_digest_133 : decode cX6_digest 133 = .ok (.istore_n 3, 1) := by decide +kernel
theorem dX6_digest_134 : decode cX6_digest 134 = .ok (.iload_n 3, 1) := by decide +kernel
theorem dX6_digest_135 : decode cX6_digest 135 = .ok (.iconst 3, 1) := by decide +kernel
theorem dX6_digest_136 : decode cX6_digest 136 = .ok (.if_icmp .ge 22, 3) := by decide +kernel
theorem dX6_digest_139 : decode cX6_digest 139 = .ok (.ldc2_w 232, 3) := by decide +kernel
theorem dX6_digest_142 : decode cX6_digest 142 = .ok (.lload_n 1, 1) := by decide +kernel
theorem dX6_digest_143 : decode cX6_digest 143 = .ok (.lmul, 1) := by decide +kernel
theorem dX6_digest_144 : decode cX6_digest 144 = .ok (.aload_n 0, 1) := by decide +kernel
theorem dX6_digest_145 : decode cX6_digest 145 = .ok (.iload_n 3, 1) := by decide +kernel
theorem dX6_digest_146 : decode cX6_digest 146 = .ok (.invokevirtual 168, 3) := by decide +kernel
theorem dX6_digest_149 : decode cX6_digest 149 = .ok (.i2l, 1) := by decide +kernel
theorem dX6_digest_150 : decode cX6_digest 150 = .ok (.ladd, 1) := by decide +kernel
theorem dX6_digest_151 : decode cX6_digest 151 = .ok (.lstore_n 1, 1) := by decide +kernel
theorem dX6_digest_152 : decode cX6_digest 152 = .ok (.iinc 3 1, 3) := by decide +kernel
theorem dX6_digest_155 : decode cX6_digest 155 = .ok (.goto (-21), 3) := by decide +kernel
theorem dX6_digest_158 : decode cX6_digest 158 = .ok (.ldc2_w 232, 3) := by decide +kernel
theorem dX6_digest_161 : decode cX6_digest 161 = .ok (.lload_n 1, 1) := by decide +kernel
theorem dX6_digest_162 : decode cX6_digest 162 = .ok (.lmul, 1) := by decide +kernel
theorem dX6_digest_163 : decode cX6_digest 163 = .ok (.aload_n 0, 1) := by decide +kernel
theorem dX6_digest_164 : decode cX6_digest 164 = .ok (.getfield 222, 3) := by decide +kernel
theorem dX6_digest_167 : decode cX6_digest 167 = .ok (.i2l, 1) := by decide +kernel
theorem dX6_digest_168 : decode cX6_digest 168 = .ok (.ladd, 1) := by decide +kernel
theorem dX6_digest_169 : decode cX6_digest 169 = .ok (.lreturn, 1) := by decide +kernel
theorem dX6_hashOfKinds_0 : decode cX6_hashOfKinds 0 = .ok (.lload_n 1, 1) := by decide +kernel
theorem dX6_hashOfKinds_1 : decode cX6_hashOfKinds 1 = .ok (.lstore_n 3, 1) := by decide +kernel
theorem dX6_hashOfKinds_2 : decode cX6_hashOfKinds 2 = .ok (.iconst 0, 1) := by decide +kernel
theorem dX6_hashOfKinds_3 : decode cX6_hashOfKinds 3 = .ok (.istore 5, 2) := by decide +kernel
theorem dX6_hashOfKinds_5 : decode cX6_hashOfKinds 5 = .ok (.iload 5, 2) := by decide +kernel
theorem dX6_hashOfKinds_7 : decode cX6_hashOfKinds 7 = .ok (.bipush 12, 2) := by decide +kernel
theorem dX6_hashOfKinds_9 : decode cX6_hashOfKinds 9 = .ok (.if_icmp .ge 41, 3) := by decide +kernel
theorem dX6_hashOfKinds_12 : decode cX6_hashOfKinds 12 = .ok (.iconst 0, 1) := by decide +kernel
theorem dX6_hashOfKinds_13 : decode cX6_hashOfKinds 13 = .ok (.istore 6, 2) := by decide +kernel
theorem dX6_hashOfKinds_15 : decode cX6_hashOfKinds 15 = .ok (.iload 6, 2) := by decide +kernel
theorem dX6_hashOfKinds_17 : decode cX6_hashOfKinds 17 = .ok (.bipush 10, 2) := by decide +kernel
theorem dX6_hashOfKinds_19 : decode cX6_hashOfKinds 19 = .ok (.if_icmp .ge 25, 3) := by decide +kernel
theorem dX6_hashOfKinds_22 : decode cX6_hashOfKinds 22 = .ok (.ldc2_w 232, 3) := by decide +kernel
theorem dX6_hashOfKinds_25 : decode cX6_hashOfKinds 25 = .ok (.lload_n 3, 1) := by decide +kernel
theorem dX6_hashOfKinds_26 : decode cX6_hashOfKinds 26 = .ok (.lmul, 1) := by decide +kernel
theorem dX6_hashOfKinds_27 : decode cX6_hashOfKinds 27 = .ok (.aload_n 0, 1) := by decide +kernel
theorem dX6_hashOfKinds_28 : decode cX6_hashOfKinds 28 = .ok (.iload 5, 2) := by decide +kernel
theorem dX6_hashOfKinds_30 : decode cX6_hashOfKinds 30 = .ok (.iload 6, 2) := by decide +kernel
theorem dX6_hashOfKinds_32 : decode cX6_hashOfKinds 32 = .ok (.invokevirtual 143, 3) := by decide +kernel
theorem dX6_hashOfKinds_35 : decode cX6_hashOfKinds 35 = .ok (.i2l, 1) := by decide +kernel
theorem dX6_hashOfKinds_36 : decode cX6_hashOfKinds 36 = .ok (.ladd, 1) := by decide +kernel
theorem dX6_hashOfKinds_37 : decode cX6_hashOfKinds 37 = .ok (.lstore_n 3, 1) := by decide +kernel
theorem dX6_hashOfKinds_38 : decode cX6_hashOfKinds 38 = .ok (.iinc 6 1, 3) := by decide +kernel
theorem dX6_hashOfKinds_41 : decode cX6_hashOfKinds 41 = .ok (.goto (-26), 3) := by decide +kernel
theorem dX6_hashOfKinds_44 : decode cX6_hashOfKinds 44 = .ok (.iinc 5 1, 3) := by decide +kernel
theorem dX6_hashOfKinds_47 : decode cX6_hashOfKinds 47 = .ok (.goto (-42), 3) := by decide +kernel
theorem dX6_hashOfKinds_50 : decode cX6_hashOfKinds 50 = .ok (.lload_n 3, 1) := by decide +kernel
theorem dX6_hashOfKinds_51 : decode cX6_hashOfKinds 51 = .ok (.lreturn, 1) := by decide +kernel
theorem dX6_hashOfSigns_0 : decode cX6_hashOfSigns 0 = .ok (.lload_n 1, 1) := by decide +kernel
theorem dX6_hashOfSigns_1 : decode cX6_hashOfSigns 1 = .ok (.lstore_n 3, 1) := by decide +kernel
theorem dX6_hashOfSigns_2 : decode cX6_hashOfSigns 2 = .ok (.iconst 0, 1) := by decide +kernel
theorem dX6_hashOfSigns_3 : decode cX6_hashOfSigns 3 = .ok (.istore 5, 2) := by decide +kernel
theorem dX6_hashOfSigns_5 : decode cX6_hashOfSigns 5 = .ok (.iload 5, 2) := by decide +kernel
theorem dX6_hashOfSigns_7 : decode cX6_hashOfSigns 7 = .ok (.aload_n 0, 1) := by decide +kernel
theorem dX6_hashOfSigns_8 : decode cX6_hashOfSigns 8 = .ok (.getfield 10, 3) := by decide +kernel
theorem dX6_hashOfSigns_11 : decode cX6_hashOfSigns 11 = .ok (.getfield 48, 3) := by decide +kernel
theorem dX6_hashOfSigns_14 : decode cX6_hashOfSigns 14 = .ok (.if_icmp .ge 41, 3) := by decide +kernel
theorem dX6_hashOfSigns_17 : decode cX6_hashOfSigns 17 = .ok (.iconst 0, 1) := by decide +kernel
theorem dX6_hashOfSigns_18 : decode cX6_hashOfSigns 18 = .ok (.istore 6, 2) := by decide +kernel
theorem dX6_hashOfSigns_20 : decode cX6_hashOfSigns 20 = .ok (.iload 6, 2) := by decide +kernel
theorem dX6_hashOfSigns_22 : decode cX6_hashOfSigns 22 = .ok (.bipush 9, 2) := by decide +kernel
theorem dX6_hashOfSigns_24 : decode cX6_hashOfSigns 24 = .ok (.if_icmp .ge 25, 3) := by decide +kernel
theorem dX6_hashOfSigns_27 : decode cX6_hashOfSigns 27 = .ok (.ldc2_w 232, 3) := by decide +kernel
theorem dX6_hashOfSigns_30 : decode cX6_hashOfSigns 30 = .ok (.lload_n 3, 1) := by decide +kernel
theorem dX6_hashOfSigns_31 : decode cX6_hashOfSigns 31 = .ok (.lmul, 1) := by decide +kernel
theorem dX6_hashOfSigns_32 : decode cX6_hashOfSigns 32 = .ok (.aload_n 0, 1) := by decide +kernel
theorem dX6_hashOfSigns_33 : decode cX6_hashOfSigns 33 = .ok (.iload 5, 2) := by decide +kernel
theorem dX6_hashOfSigns_35 : decode cX6_hashOfSigns 35 = .ok (.iload 6, 2) := by decide +kernel
theorem dX6_hashOfSigns_37 : decode cX6_hashOfSigns 37 = .ok (.invokevirtual 139, 3) := by decide +kernel
theorem dX6_hashOfSigns_40 : decode cX6_hashOfSigns 40 = .ok (.i2l, 1) := by decide +kernel
theorem dX6_hashOfSigns_41 : decode cX6_hashOfSigns 41 = .ok (.ladd, 1) := by decide +kernel
theorem dX6_hashOfSigns_42 : decode cX6_hashOfSigns 42 = .ok (.lstore_n 3, 1) := by decide +kernel
theorem dX6_hashOfSigns_43 : decode cX6_hashOfSigns 43 = .ok (.iinc 6 1, 3) := by decide +kernel
theorem dX6_hashOfSigns_46 : decode cX6_hashOfSigns 46 = .ok (.goto (-26), 3) := by decide +kernel
theorem dX6_hashOfSigns_49 : decode cX6_hashOfSigns 49 = .ok (.iinc 5 1, 3) := by decide +kernel
theorem dX6_hashOfSigns_52 : decode cX6_hashOfSigns 52 = .ok (.goto (-47), 3) := by decide +kernel
theorem dX6_hashOfSigns_55 : decode cX6_hashOfSigns 55 = .ok (.lload_n 3, 1) := by decide +kernel
theorem dX6_hashOfSigns_56 : decode cX6_hashOfSigns 56 = .ok (.lreturn, 1) := by decide +kernel
theorem dX6_hashOfLines_0 : decode cX6_hashOfLines 0 = .ok (.lload_n 1, 1) := by decide +kernel
theorem dX6_hashOfLines_1 : decode cX6_hashOfLines 1 = .ok (.lstore_n 3, 1) := by decide +kernel
theorem dX6_hashOfLines_2 : decode cX6_hashOfLines 2 = .ok (.iconst 0, 1) := by decide +kernel
theorem dX6_hashOfLines_3 : decode cX6_hashOfLines 3 = .ok (.istore 5, 2) := by decide +kernel
theorem dX6_hashOfLines_5 : decode cX6_hashOfLines 5 = .ok (.iload 5, 2) := by decide +kernel
theorem dX6_hashOfLines_7 : decode cX6_hashOfLines 7 = .ok (.aload_n 0, 1) := by decide +kernel
theorem dX6_hashOfLines_8 : decode cX6_hashOfLines 8 = .ok (.getfield 19, 3) := by decide +kernel
theorem dX6_hashOfLines_11 : decode cX6_hashOfLines 11 = .ok (.getfield 146, 3) := by decide +kernel
theorem dX6_hashOfLines_14 : decode cX6_hashOfLines 14 = .ok (.getfield 150, 3) := by decide +kernel
theorem dX6_hashOfLines_17 : decode cX6_hashOfLines 17 = .ok (.if_icmp .ge 47, 3) := by decide +kernel
theorem dX6_hashOfLines_20 : decode cX6_hashOfLines 20 = .ok (.iconst 0, 1) := by decide +kernel
theorem dX6_hashOfLines_21 : decode cX6_hashOfLines 21 = .ok (.istore 6, 2) := by decide +kernel
theorem dX6_hashOfLines_23 : decode cX6_hashOfLines 23 = .ok (.iload 6, 2) := by decide +kernel
theorem dX6_hashOfLines_25 : decode cX6_hashOfLines 25 = .ok (.bipush 8, 2) := by decide +kernel
theorem dX6_hashOfLines_27 : decode cX6_hashOfLines 27 = .ok (.if_icmp .ge 31, 3) := by decide +kernel
theorem dX6_hashOfLines_30 : decode cX6_hashOfLines 30 = .ok (.ldc2_w 232, 3) := by decide +kernel
theorem dX6_hashOfLines_33 : decode cX6_hashOfLines 33 = .ok (.lload_n 3, 1) := by decide +kernel
theorem dX6_hashOfLines_34 : decode cX6_hashOfLines 34 = .ok (.lmul, 1) := by decide +kernel
theorem dX6_hashOfLines_35 : decode cX6_hashOfLines 35 = .ok (.aload_n 0, 1) := by decide +kernel
theorem dX6_hashOfLines_36 : decode cX6_hashOfLines 36 = .ok (.getfield 19, 3) := by decide +kernel
theorem dX6_hashOfLines_39 : decode cX6_hashOfLines 39 = .ok (.getfield 146, 3) := by decide +kernel
theorem dX6_hashOfLines_42 : decode cX6_hashOfLines 42 = .ok (.iload 5, 2) := by decide +kernel
theorem dX6_hashOfLines_44 : decode cX6_hashOfLines 44 = .ok (.iload 6, 2) := by decide +kernel
theorem dX6_hashOfLines_46 : decode cX6_hashOfLines 46 = .ok (.invokevirtual 157, 3) := by decide +kernel
theorem dX6_hashOfLines_49 : decode cX6_hashOfLines 49 = .ok (.i2l, 1) := by decide +kernel
theorem dX6_hashOfLines_50 : decode cX6_hashOfLines 50 = .ok (.ladd, 1) := by decide +kernel
theorem dX6_hashOfLines_51 : decode cX6_hashOfLines 51 = .ok (.lstore_n 3, 1) := by decide +kernel
theorem dX6_hashOfLines_52 : decode cX6_hashOfLines 52 = .ok (.iinc 6 1, 3) := by decide +kernel
theorem dX6_hashOfLines_55 : decode cX6_hashOfLines 55 = .ok (.goto (-32), 3) := by decide +kernel
theorem dX6_hashOfLines_58 : decode cX6_hashOfLines 58 = .ok (.iinc 5 1, 3) := by decide +kernel
theorem dX6_hashOfLines_61 : decode cX6_hashOfLines 61 = .ok (.goto (-56), 3) := by decide +kernel
theorem dX6_hashOfLines_64 : decode cX6_hashOfLines 64 = .ok (.lload_n 3, 1) := by decide +kernel
theorem dX6_hashOfLines_65 : decode cX6_hashOfLines 65 = .ok (.lreturn, 1) := by decide +kernel
theorem dX6_saveState_0 : decode cX6_saveState 0 = .ok (.aload_n 0, 1) := by decide +kernel
theorem dX6_saveState_1 : decode cX6_saveState 1 = .ok (.getfield 222, 3) := by decide +kernel
theorem dX6_saveState_4 : decode cX6_saveState 4 = .ok (.iconst 4, 1) := by decide +kernel
theorem dX6_saveState_5 : decode cX6_saveState 5 = .ok (.if_icmp .ne 25, 3) := by decide +kernel
theorem dX6_saveState_8 : decode cX6_saveState 8 = .ok (.aload_n 0, 1) := by decide +kernel
theorem dX6_saveState_9 : decode cX6_saveState 9 = .ok (.aload_n 0, 1) := by decide +kernel
theorem dX6_saveState_10 : decode cX6_saveState 10 = .ok (.getfield 227, 3) := by decide +kernel
theorem dX6_saveState_13 : decode cX6_saveState 13 = .ok (.iconst 1, 1) := by decide +kernel
theorem dX6_saveState_14 : decode cX6_saveState 14 = .ok (.iadd, 1) := by decide +kernel
theorem dX6_saveState_15 : decode cX6_saveState 15 = .ok (.iconst 4, 1) := by decide +kernel
theorem dX6_saveState_16 : decode cX6_saveState 16 = .ok (.irem, 1) := by decide +kernel
theorem dX6_saveState_17 : decode cX6_saveState 17 = .ok (.putfield 227, 3) := by decide +kernel
theorem dX6_saveState_20 : decode cX6_saveState 20 = .ok (.aload_n 0, 1) := by decide +kernel
theorem dX6_saveState_21 : decode cX6_saveState 21 = .ok (.dup, 1) := by decide +kernel
theorem dX6_saveState_22 : decode cX6_saveState 22 = .ok (.getfield 222, 3) := by decide +kernel
theorem dX6_saveState_25 : decode cX6_saveState 25 = .ok (.iconst 1, 1) := by decide +kernel
theorem dX6_saveState_26 : decode cX6_saveState 26 = .ok (.isub, 1) := by decide +kernel
theorem dX6_saveState_27 : decode cX6_saveState 27 = .ok (.putfield 222, 3) := by decide +kernel
theorem dX6_saveState_30 : decode cX6_saveState 30 = .ok (.aload_n 0, 1) := by decide +kernel
theorem dX6_saveState_31 : decode cX6_saveState 31 = .ok (.getfield 36, 3) := by decide +kernel
theorem dX6_saveState_34 : decode cX6_saveState 34 = .ok (.aload_n 0, 1) := by decide +kernel
theorem dX6_saveState_35 : decode cX6_saveState 35 = .ok (.getfield 227, 3) := by decide +kernel
theorem dX6_saveState_38 : decode cX6_saveState 38 = .ok (.aload_n 0, 1) := by decide +kernel
theorem dX6_saveState_39 : decode cX6_saveState 39 = .ok (.getfield 222, 3) := by decide +kernel
theorem dX6_saveState_42 : decode cX6_saveState 42 = .ok (.iadd, 1) := by decide +kernel
theorem dX6_saveState_43 : decode cX6_saveState 43 = .ok (.iconst 4, 1) := by decide +kernel
theorem dX6_saveState_44 : decode cX6_saveState 44 = .ok (.irem, 1) := by decide +kernel
theorem dX6_saveState_45 : decode cX6_saveState 45 = .ok (.aaload, 1) := by decide +kernel
theorem dX6_saveState_46 : decode cX6_saveState 46 = .ok (.astore_n 1, 1) := by decide +kernel
theorem dX6_saveState_47 : decode cX6_saveState 47 = .ok (.aload_n 1, 1) := by decide +kernel
theorem dX6_saveState_48 : decode cX6_saveState 48 = .ok (.ifnull 11, 3) := by decide +kernel
theorem dX6_saveState_51 : decode cX6_saveState 51 = .ok (.aload_n 1, 1) := by decide +kernel
theorem dX6_saveState_52 : decode cX6_saveState 52 = .ok (.aload_n 0, 1) := by decide +kernel
theorem dX6_saveState_53 : decode cX6_saveState 53 = .ok (.getfield 10, 3) := by decide +kernel
theorem dX6_saveState_56 : decode cX6_saveState 56 = .ok (.invokevirtual 180, 3) := by decide +kernel
theorem dX6_saveState_59 : decode cX6_saveState 59 = .ok (.aload_n 0, 1) := by decide +kernel
theorem dX6_saveState_60 : decode cX6_saveState 60 = .ok (.dup, 1) := by decide +kernel
theorem dX6_saveState_61 : decode cX6_saveState 61 = .ok (.getfield 222, 3) := by decide +kernel
theorem dX6_saveState_64 : decode cX6_saveState 64 = .ok (.iconst 1, 1) := by decide +kernel
theorem dX6_saveState_65 : decode cX6_saveState 65 = .ok (.iadd, 1) := by decide +kernel
theorem dX6_saveState_66 : decode cX6_saveState 66 = .ok (.putfield 222, 3) := by decide +kernel
theorem dX6_saveState_69 : decode cX6_saveState 69 = .ok (.aload_n 0, 1) := by decide +kernel
theorem dX6_saveState_70 : decode cX6_saveState 70 = .ok (.getfield 19, 3) := by decide +kernel
theorem dX6_saveState_73 : decode cX6_saveState 73 = .ok (.iconst 0, 1) := by decide +kernel
theorem dX6_saveState_74 : decode cX6_saveState 74 = .ok (.putfield 183, 3) := by decide +kernel
theorem dX6_saveState_77 : decode cX6_saveState 77 = .ok (.return_, 1) := by decide +kernel
theorem dX6_numberOf_0 : decode cX6_numberOf 0 = .ok (.iload_n 1, 1) := by decide +kernel
theorem dX6_numberOf_1 : decode cX6_numberOf 1 = .ok (.iconst 4, 1) := by decide +kernel
theorem dX6_numberOf_2 : decode cX6_numberOf 2 = .ok (.if_icmp .ge 21, 3) := by decide +kernel
theorem dX6_numberOf_5 : decode cX6_numberOf 5 = .ok (.iload_n 1, 1) := by decide +kernel
theorem dX6_numberOf_6 : decode cX6_numberOf 6 = .ok (.ifCond .lt 15, 3) := by decide +kernel
theorem dX6_numberOf_9 : decode cX6_numberOf 9 = .ok (.aload_n 0, 1) := by decide +kernel
theorem dX6_numberOf_10 : decode cX6_numberOf 10 = .ok (.getfield 10, 3) := by decide +kernel
theorem dX6_numberOf_13 : decode cX6_numberOf 13 = .ok (.getfield 97, 3) := by decide +kernel
theorem dX6_numberOf_16 : decode cX6_numberOf 16 = .ok (.iload_n 1, 1) := by decide +kernel
theorem dX6_numberOf_17 : decode cX6_numberOf 17 = .ok (.iaload, 1) := by decide +kernel
theorem dX6_numberOf_18 : decode cX6_numberOf 18 = .ok (.goto 4, 3) := by decide +kernel
theorem dX6_numberOf_21 : decode cX6_numberOf 21 = .ok (.iconst (-1), 1) := by decide +kernel
theorem dX6_numberOf_22 : decode cX6_numberOf 22 = .ok (.ireturn, 1) := by decide +kernel
theorem dX6_numberOf_23 : decode cX6_numberOf 23 = .ok (.iload_n 1, 1) := by decide +kernel
theorem dX6_numberOf_24 : decode cX6_numberOf 24 = .ok (.bipush 9, 2) := by decide +kernel
theorem dX6_numberOf_26 : decode cX6_numberOf 26 = .ok (.if_icmp .ge 15, 3) := by decide +kernel
theorem dX6_numberOf_29 : decode cX6_numberOf 29 = .ok (.aload_n 0, 1) := by decide +kernel
theorem dX6_numberOf_30 : decode cX6_numberOf 30 = .ok (.getfield 10, 3) := by decide +kernel
theorem dX6_numberOf_33 : decode cX6_numberOf 33 = .ok (.getfield 82, 3) := by decide +kernel
theorem dX6_numberOf_36 : decode cX6_numberOf 36 = .ok (.iload_n 1, 1) := by decide +kernel
theorem dX6_numberOf_37 : decode cX6_numberOf 37 = .ok (.iconst 4, 1) := by decide +kernel
theorem dX6_numberOf_38 : decode cX6_numberOf 38 = .ok (.isub, 1) := by decide +kernel
theorem dX6_numberOf_39 : decode cX6_numberOf 39 = .ok (.iaload, 1) := by decide +kernel
theorem dX6_numberOf_40 : decode cX6_numberOf 40 = .ok (.ireturn, 1) := by decide +kernel
theorem dX6_numberOf_41 : decode cX6_numberOf 41 = .ok (.iload_n 1, 1) := by decide +kernel
theorem dX6_numberOf_42 : decode cX6_numberOf 42 = .ok (.lookupswitch 42 #[(9, 26), (10, 34)], 26) := by decide +kernel
theorem dX6_numberOf_68 : decode cX6_numberOf 68 = .ok (.aload_n 0, 1) := by decide +kernel
theorem dX6_numberOf_69 : decode cX6_numberOf 69 = .ok (.getfield 10, 3) := by decide +kernel
theorem dX6_numberOf_72 : decode cX6_numberOf 72 = .ok (.getfield 48, 3) := by decide +kernel
theorem dX6_numberOf_75 : decode cX6_numberOf 75 = .ok (.ireturn, 1) := by decide +kernel
theorem dX6_numberOf_76 : decode cX6_numberOf 76 = .ok (.aload_n 0, 1) := by decide +kernel
theorem dX6_numberOf_77 : decode cX6_numberOf 77 = .ok (.getfield 19, 3) := by decide +kernel
theorem dX6_numberOf_80 : decode cX6_numberOf 80 = .ok (.getfield 174, 3) := by decide +kernel
theorem dX6_numberOf_83 : decode cX6_numberOf 83 = .ok (.ireturn, 1) := by decide +kernel
theorem dX6_numberOf_84 : decode cX6_numberOf 84 = .ok (.aload_n 0, 1) := by decide +kernel
theorem dX6_numberOf_85 : decode cX6_numberOf 85 = .ok (.getfield 19, 3) := by decide +kernel
theorem dX6_numberOf_88 : decode cX6_numberOf 88 = .ok (.getfield 177, 3) := by decide +kernel
theorem dX6_numberOf_91 : decode cX6_numberOf 91 = .ok (.ireturn, 1) := by decide +kernel
theorem dX6_signFact_0 : decode cX6_signFact 0 = .ok (.iload_n 1, 1) := by decide +kernel
theorem dX6_signFact_1 : decode cX6_signFact 1 = .ok (.ifCond .lt 9, 3) := by decide +kernel
theorem dX6_signFact_4 : decode cX6_signFact 4 = .ok (.iload_n 1, 1) := by decide +kernel
theorem dX6_signFact_5 : decode cX6_signFact 5 = .ok (.bipush 40, 2) := by decide +kernel
theorem dX6_signFact_7 : decode cX6_signFact 7 = .ok (.if_icmp .lt 5, 3) := by decide +kernel
theorem dX6_signFact_10 : decode cX6_signFact 10 = .ok (.iconst (-1), 1) := by decide +kernel
theorem dX6_signFact_11 : decode cX6_signFact 11 = .ok (.ireturn, 1) := by decide +kernel
theorem dX6_signFact_12 : decode cX6_signFact 12 = .ok (.iload_n 2, 1) := by decide +kernel
theorem dX6_signFact_13 : decode cX6_signFact 13 = .ok (.tableswitch 142 0 7 #[47, 57, 67, 77, 87, 97, 106, 124], 47) := by decide +kernel
theorem dX6_signFact_60 : decode cX6_signFact 60 = .ok (.aload_n 0, 1) := by decide +kernel
theorem dX6_signFact_61 : decode cX6_signFact 61 = .ok (.getfield 10, 3) := by decide +kernel
theorem dX6_signFact_64 : decode cX6_signFact 64 = .ok (.getfield 187, 3) := by decide +kernel
theorem dX6_signFact_67 : decode cX6_signFact 67 = .ok (.iload_n 1, 1) := by decide +kernel
theorem dX6_signFact_68 : decode cX6_signFact 68 = .ok (.iaload, 1) := by decide +kernel
theorem dX6_signFact_69 : decode cX6_signFact 69 = .ok (.ireturn, 1) := by decide +kernel
theorem dX6_signFact_70 : decode cX6_signFact 70 = .ok (.aload_n 0, 1) := by decide +kernel
theorem dX6_signFact_71 : decode cX6_signFact 71 = .ok (.getfield 10, 3) := by decide +kernel
theorem dX6_signFact_74 : decode cX6_signFact 74 = .ok (.getfield 72, 3) := by decide +kernel
theorem dX6_signFact_77 : decode cX6_signFact 77 = .ok (.iload_n 1, 1) := by decide +kernel
theorem dX6_signFact_78 : decode cX6_signFact 78 = .ok (.iaload, 1) := by decide +kernel
theorem dX6_signFact_79 : decode cX6_signFact 79 = .ok (.ireturn, 1) := by decide +kernel
theorem dX6_signFact_80 : decode cX6_signFact 80 = .ok (.aload_n 0, 1) := by decide +kernel
theorem dX6_signFact_81 : decode cX6_signFact 81 = .ok (.getfield 10, 3) := by decide +kernel
theorem dX6_signFact_84 : decode cX6_signFact 84 = .ok (.getfield 76, 3) := by decide +kernel
theorem dX6_signFact_87 : decode cX6_signFact 87 = .ok (.iload_n 1, 1) := by decide +kernel
theorem dX6_signFact_88 : decode cX6_signFact 88 = .ok (.iaload, 1) := by decide +kernel
theorem dX6_signFact_89 : decode cX6_signFact 89 = .ok (.ireturn, 1) := by decide +kernel
theorem dX6_signFact_90 : decode cX6_signFact 90 = .ok (.aload_n 0, 1) := by decide +kernel
theorem dX6_signFact_91 : decode cX6_signFact 91 = .ok (.getfield 10, 3) := by decide +kernel
theorem dX6_signFact_94 : decode cX6_signFact 94 = .ok (.getfield 244, 3) := by decide +kernel
theorem dX6_signFact_97 : decode cX6_signFact 97 = .ok (.iload_n 1, 1) := by decide +kernel
theorem dX6_signFact_98 : decode cX6_signFact 98 = .ok (.iaload, 1) := by decide +kernel
theorem dX6_signFact_99 : decode cX6_signFact 99 = .ok (.ireturn, 1) := by decide +kernel
theorem dX6_signFact_100 : decode cX6_signFact 100 = .ok (.aload_n 0, 1) := by decide +kernel
theorem dX6_signFact_101 : decode cX6_signFact 101 = .ok (.getfield 10, 3) := by decide +kernel
theorem dX6_signFact_104 : decode cX6_signFact 104 = .ok (.getfield 194, 3) := by decide +kernel
theorem dX6_signFact_107 : decode cX6_signFact 107 = .ok (.iload_n 1, 1) := by decide +kernel
theorem dX6_signFact_108 : decode cX6_signFact 108 = .ok (.iaload, 1) := by decide +kernel
theorem dX6_signFact_109 : decode cX6_signFact 109 = .ok (.ireturn, 1) := by decide +kernel
theorem dX6_signFact_110 : decode cX6_signFact 110 = .ok (.aload_n 0, 1) := by decide +kernel
theorem dX6_signFact_111 : decode cX6_signFact 111 = .ok (.getfield 10, 3) := by decide +kernel
theorem dX6_signFact_114 : decode cX6_signFact 114 = .ok (.iload_n 1, 1) := by decide +kernel
theorem dX6_signFact_115 : decode cX6_signFact 115 = .ok (.invokevirtual 247, 3) := by decide +kernel
theorem dX6_signFact_118 : decode cX6_signFact 118 = .ok (.ireturn, 1) := by decide +kernel
theorem dX6_signFact_119 : decode cX6_signFact 119 = .ok (.aload_n 0, 1) := by decide +kernel
theorem dX6_signFact_120 : decode cX6_signFact 120 = .ok (.getfield 19, 3) := by decide +kernel
theorem dX6_signFact_123 : decode cX6_signFact 123 = .ok (.getfield 250, 3) := by decide +kernel
theorem dX6_signFact_126 : decode cX6_signFact 126 = .ok (.iload_n 1, 1) := by decide +kernel
theorem dX6_signFact_127 : decode cX6_signFact 127 = .ok (.baload, 1) := by decide +kernel
theorem dX6_signFact_128 : decode cX6_signFact 128 = .ok (.ifCond .eq 7, 3) := by decide +kernel
theorem dX6_signFact_131 : decode cX6_signFact 131 = .ok (.iconst 1, 1) := by decide +kernel
theorem dX6_signFact_132 : decode cX6_signFact 132 = .ok (.goto 4, 3) := by decide +kernel
theorem dX6_signFact_135 : decode cX6_signFact 135 = .ok (.iconst 0, 1) := by decide +kernel
theorem dX6_signFact_136 : decode cX6_signFact 136 = .ok (.ireturn, 1) := by decide +kernel
theorem dX6_signFact_137 : decode cX6_signFact 137 = .ok (.aload_n 0, 1) := by decide +kernel
theorem dX6_signFact_138 : decode cX6_signFact 138 = .ok (.getfield 19, 3) := by decide +kernel
theorem dX6_signFact_141 : decode cX6_signFact 141 = .ok (.getfield 254, 3) := by decide +kernel
theorem dX6_signFact_144 : decode cX6_signFact 144 = .ok (.iload_n 1, 1) := by decide +kernel
theorem dX6_signFact_145 : decode cX6_signFact 145 = .ok (.baload, 1) := by decide +kernel
theorem dX6_signFact_146 : decode cX6_signFact 146 = .ok (.ifCond .eq 7, 3) := by decide +kernel
theorem dX6_signFact_149 : decode cX6_signFact 149 = .ok (.iconst 1, 1) := by decide +kernel
theorem dX6_signFact_150 : decode cX6_signFact 150 = .ok (.goto 4, 3) := by decide +kernel
theorem dX6_signFact_153 : decode cX6_signFact 153 = .ok (.iconst 0, 1) := by decide +kernel
theorem dX6_signFact_154 : decode cX6_signFact 154 = .ok (.ireturn, 1) := by decide +kernel
theorem dX6_signFact_155 : decode cX6_signFact 155 = .ok (.aload_n 0, 1) := by decide +kernel
theorem dX6_signFact_156 : decode cX6_signFact 156 = .ok (.getfield 19, 3) := by decide +kernel
theorem dX6_signFact_159 : decode cX6_signFact 159 = .ok (.aload_n 0, 1) := by decide +kernel
theorem dX6_signFact_160 : decode cX6_signFact 160 = .ok (.getfield 10, 3) := by decide +kernel
theorem dX6_signFact_163 : decode cX6_signFact 163 = .ok (.iload_n 1, 1) := by decide +kernel
theorem dX6_signFact_164 : decode cX6_signFact 164 = .ok (.invokevirtual 257, 3) := by decide +kernel
theorem dX6_signFact_167 : decode cX6_signFact 167 = .ok (.ireturn, 1) := by decide +kernel
theorem dX6_kindFact_0 : decode cX6_kindFact 0 = .ok (.iload_n 1, 1) := by decide +kernel
theorem dX6_kindFact_1 : decode cX6_kindFact 1 = .ok (.ifCond .lt 9, 3) := by decide +kernel
theorem dX6_kindFact_4 : decode cX6_kindFact 4 = .ok (.iload_n 1, 1) := by decide +kernel
theorem dX6_kindFact_5 : decode cX6_kindFact 5 = .ok (.bipush 12, 2) := by decide +kernel
theorem dX6_kindFact_7 : decode cX6_kindFact 7 = .ok (.if_icmp .lt 5, 3) := by decide +kernel
theorem dX6_kindFact_10 : decode cX6_kindFact 10 = .ok (.iconst (-1), 1) := by decide +kernel
theorem dX6_kindFact_11 : decode cX6_kindFact 11 = .ok (.ireturn, 1) := by decide +kernel
theorem dX6_kindFact_12 : decode cX6_kindFact 12 = .ok (.iload_n 2, 1) := by decide +kernel
theorem dX6_kindFact_13 : decode cX6_kindFact 13 = .ok (.tableswitch 110 0 9 #[55, 65, 75, 110, 110, 110, 110, 110, 85, 97], 55) := by decide +kernel
theorem dX6_kindFact_68 : decode cX6_kindFact 68 = .ok (.aload_n 0, 1) := by decide +kernel
theorem dX6_kindFact_69 : decode cX6_kindFact 69 = .ok (.getfield 10, 3) := by decide +kernel
theorem dX6_kindFact_72 : decode cX6_kindFact 72 = .ok (.getfield 100, 3) := by decide +kernel
theorem dX6_kindFact_75 : decode cX6_kindFact 75 = .ok (.iload_n 1, 1) := by decide +kernel
theorem dX6_kindFact_76 : decode cX6_kindFact 76 = .ok (.iaload, 1) := by decide +kernel
theorem dX6_kindFact_77 : decode cX6_kindFact 77 = .ok (.ireturn, 1) := by decide +kernel
theorem dX6_kindFact_78 : decode cX6_kindFact 78 = .ok (.aload_n 0, 1) := by decide +kernel
theorem dX6_kindFact_79 : decode cX6_kindFact 79 = .ok (.getfield 10, 3) := by decide +kernel
theorem dX6_kindFact_82 : decode cX6_kindFact 82 = .ok (.getfield 103, 3) := by decide +kernel
theorem dX6_kindFact_85 : decode cX6_kindFact 85 = .ok (.iload_n 1, 1) := by decide +kernel
theorem dX6_kindFact_86 : decode cX6_kindFact 86 = .ok (.iaload, 1) := by decide +kernel
theorem dX6_kindFact_87 : decode cX6_kindFact 87 = .ok (.ireturn, 1) := by decide +kernel
theorem dX6_kindFact_88 : decode cX6_kindFact 88 = .ok (.aload_n 0, 1) := by decide +kernel
theorem dX6_kindFact_89 : decode cX6_kindFact 89 = .ok (.getfield 10, 3) := by decide +kernel
theorem dX6_kindFact_92 : decode cX6_kindFact 92 = .ok (.getfield 120, 3) := by decide +kernel
theorem dX6_kindFact_95 : decode cX6_kindFact 95 = .ok (.iload_n 1, 1) := by decide +kernel
theorem dX6_kindFact_96 : decode cX6_kindFact 96 = .ok (.iaload, 1) := by decide +kernel
theorem dX6_kindFact_97 : decode cX6_kindFact 97 = .ok (.ireturn, 1) := by decide +kernel
theorem dX6_kindFact_98 : decode cX6_kindFact 98 = .ok (.aload_n 0, 1) := by decide +kernel
theorem dX6_kindFact_99 : decode cX6_kindFact 99 = .ok (.getfield 19, 3) := by decide +kernel
theorem dX6_kindFact_102 : decode cX6_kindFact 102 = .ok (.getfield 146, 3) := by decide +kernel
theorem dX6_kindFact_105 : decode cX6_kindFact 105 = .ok (.iload_n 1, 1) := by decide +kernel
theorem dX6_kindFact_106 : decode cX6_kindFact 106 = .ok (.invokevirtual 261, 3) := by decide +kernel
theorem dX6_kindFact_109 : decode cX6_kindFact 109 = .ok (.ireturn, 1) := by decide +kernel
theorem dX6_kindFact_110 : decode cX6_kindFact 110 = .ok (.aload_n 0, 1) := by decide +kernel
theorem dX6_kindFact_111 : decode cX6_kindFact 111 = .ok (.getfield 19, 3) := by decide +kernel
theorem dX6_kindFact_114 : decode cX6_kindFact 114 = .ok (.getfield 264, 3) := by decide +kernel
theorem dX6_kindFact_117 : decode cX6_kindFact 117 = .ok (.getfield 268, 3) := by decide +kernel
theorem dX6_kindFact_120 : decode cX6_kindFact 120 = .ok (.iload_n 1, 1) := by decide +kernel
theorem dX6_kindFact_121 : decode cX6_kindFact 121 = .ok (.iaload, 1) := by decide +kernel
theorem dX6_kindFact_122 : decode cX6_kindFact 122 = .ok (.ireturn, 1) := by decide +kernel
theorem dX6_kindFact_123 : decode cX6_kindFact 123 = .ok (.aload_n 0, 1) := by decide +kernel
theorem dX6_kindFact_124 : decode cX6_kindFact 124 = .ok (.getfield 10, 3) := by decide +kernel
theorem dX6_kindFact_127 : decode cX6_kindFact 127 = .ok (.iload_n 1, 1) := by decide +kernel
theorem dX6_kindFact_128 : decode cX6_kindFact 128 = .ok (.iload_n 2, 1) := by decide +kernel
theorem dX6_kindFact_129 : decode cX6_kindFact 129 = .ok (.iconst 3, 1) := by decide +kernel
theorem dX6_kindFact_130 : decode cX6_kindFact 130 = .ok (.isub, 1) := by decide +kernel
theorem dX6_kindFact_131 : decode cX6_kindFact 131 = .ok (.invokevirtual 273, 3) := by decide +kernel
theorem dX6_kindFact_134 : decode cX6_kindFact 134 = .ok (.ireturn, 1) := by decide +kernel
theorem dX6_roundFact_0 : decode cX6_roundFact 0 = .ok (.iload_n 1, 1) := by decide +kernel
theorem dX6_roundFact_1 : decode cX6_roundFact 1 = .ok (.lookupswitch 51 #[(0, 27), (1, 35)], 27) := by decide +kernel
theorem dX6_roundFact_28 : decode cX6_roundFact 28 = .ok (.aload_n 0, 1) := by decide +kernel
theorem dX6_roundFact_29 : decode cX6_roundFact 29 = .ok (.getfield 19, 3) := by decide +kernel
theorem dX6_roundFact_32 : decode cX6_roundFact 32 = .ok (.getfield 276, 3) := by decide +kernel
theorem dX6_roundFact_35 : decode cX6_roundFact 35 = .ok (.ireturn, 1) := by decide +kernel
theorem dX6_roundFact_36 : decode cX6_roundFact 36 = .ok (.aload_n 0, 1) := by decide +kernel
theorem dX6_roundFact_37 : decode cX6_roundFact 37 = .ok (.getfield 19, 3) := by decide +kernel
theorem dX6_roundFact_40 : decode cX6_roundFact 40 = .ok (.getfield 279, 3) := by decide +kernel
theorem dX6_roundFact_43 : decode cX6_roundFact 43 = .ok (.ifCond .eq 7, 3) := by decide +kernel
theorem dX6_roundFact_46 : decode cX6_roundFact 46 = .ok (.iconst 1, 1) := by decide +kernel
theorem dX6_roundFact_47 : decode cX6_roundFact 47 = .ok (.goto 4, 3) := by decide +kernel
theorem dX6_roundFact_50 : decode cX6_roundFact 50 = .ok (.iconst 0, 1) := by decide +kernel
theorem dX6_roundFact_51 : decode cX6_roundFact 51 = .ok (.ireturn, 1) := by decide +kernel
theorem dX6_roundFact_52 : decode cX6_roundFact 52 = .ok (.aload_n 0, 1) := by decide +kernel
theorem dX6_roundFact_53 : decode cX6_roundFact 53 = .ok (.getfield 19, 3) := by decide +kernel
theorem dX6_roundFact_56 : decode cX6_roundFact 56 = .ok (.aload_n 0, 1) := by decide +kernel
theorem dX6_roundFact_57 : decode cX6_roundFact 57 = .ok (.getfield 10, 3) := by decide +kernel
theorem dX6_roundFact_60 : decode cX6_roundFact 60 = .ok (.invokevirtual 282, 3) := by decide +kernel
theorem dX6_roundFact_63 : decode cX6_roundFact 63 = .ok (.ireturn, 1) := by decide +kernel
theorem dX6_demandSign_0 : decode cX6_demandSign 0 = .ok (.iload_n 1, 1) := by decide +kernel
theorem dX6_demandSign_1 : decode cX6_demandSign 1 = .ok (.ifCond .lt 14, 3) := by decide +kernel
theorem dX6_demandSign_4 : decode cX6_demandSign 4 = .ok (.iload_n 1, 1) := by decide +kernel
theorem dX6_demandSign_5 : decode cX6_demandSign 5 = .ok (.aload_n 0, 1) := by decide +kernel
theorem dX6_demandSign_6 : decode cX6_demandSign 6 = .ok (.getfield 10, 3) := by decide +kernel
theorem dX6_demandSign_9 : decode cX6_demandSign 9 = .ok (.getfield 48, 3) := by decide +kernel
theorem dX6_demandSign_12 : decode cX6_demandSign 12 = .ok (.if_icmp .lt 14, 3) := by decide +kernel
theorem dX6_demandSign_15 : decode cX6_demandSign 15 = .ok (.new 106, 3) := by decide +kernel
theorem dX6_demandSign_18 : decode cX6_demandSign 18 = .ok (.dup, 1) := by decide +kernel
theorem dX6_demandSign_19 : decode cX6_demandSign 19 = .ok (.ldc_w 286, 3) := by decide +kernel
theorem dX6_demandSign_22 : decode cX6_demandSign 22 = .ok (.invokespecial 110, 3) := by decide +kernel
theorem dX6_demandSign_25 : decode cX6_demandSign 25 = .ok (.athrow, 1) := by decide +kernel
theorem dX6_demandSign_26 : decode cX6_demandSign 26 = .ok (.return_, 1) := by decide +kernel
theorem dX6_demandKind_0 : decode cX6_demandKind 0 = .ok (.iload_n 0, 1) := by decide +kernel
theorem dX6_demandKind_1 : decode cX6_demandKind 1 = .ok (.ifCond .lt 9, 3) := by decide +kernel
theorem dX6_demandKind_4 : decode cX6_demandKind 4 = .ok (.iload_n 0, 1) := by decide +kernel
theorem dX6_demandKind_5 : decode cX6_demandKind 5 = .ok (.bipush 12, 2) := by decide +kernel
theorem dX6_demandKind_7 : decode cX6_demandKind 7 = .ok (.if_icmp .lt 14, 3) := by decide +kernel
theorem dX6_demandKind_10 : decode cX6_demandKind 10 = .ok (.new 106, 3) := by decide +kernel
theorem dX6_demandKind_13 : decode cX6_demandKind 13 = .ok (.dup, 1) := by decide +kernel
theorem dX6_demandKind_14 : decode cX6_demandKind 14 = .ok (.ldc_w 288, 3) := by decide +kernel
theorem dX6_demandKind_17 : decode cX6_demandKind 17 = .ok (.invokespecial 110, 3) := by decide +kernel
theorem dX6_demandKind_20 : decode cX6_demandKind 20 = .ok (.athrow, 1) := by decide +kernel
theorem dX6_demandKind_21 : decode cX6_demandKind 21 = .ok (.return_, 1) := by decide +kernel
theorem dX6_demandBelow_0 : decode cX6_demandBelow 0 = .ok (.iload_n 0, 1) := by decide +kernel
theorem dX6_demandBelow_1 : decode cX6_demandBelow 1 = .ok (.ifCond .lt 8, 3) := by decide +kernel
theorem dX6_demandBelow_4 : decode cX6_demandBelow 4 = .ok (.iload_n 0, 1) := by decide +kernel
theorem dX6_demandBelow_5 : decode cX6_demandBelow 5 = .ok (.iload_n 1, 1) := by decide +kernel
theorem dX6_demandBelow_6 : decode cX6_demandBelow 6 = .ok (.if_icmp .lt 14, 3) := by decide +kernel
theorem dX6_demandBelow_9 : decode cX6_demandBelow 9 = .ok (.new 92, 3) := by decide +kernel
theorem dX6_demandBelow_12 : decode cX6_demandBelow 12 = .ok (.dup, 1) := by decide +kernel
theorem dX6_demandBelow_13 : decode cX6_demandBelow 13 = .ok (.ldc_w 290, 3) := by decide +kernel
theorem dX6_demandBelow_16 : decode cX6_demandBelow 16 = .ok (.invokespecial 96, 3) := by decide +kernel
theorem dX6_demandBelow_19 : decode cX6_demandBelow 19 = .ok (.athrow, 1) := by decide +kernel
theorem dX6_demandBelow_20 : decode cX6_demandBelow 20 = .ok (.return_, 1) := by decide +kernel
theorem dX6_demandSpan_0 : decode cX6_demandSpan 0 = .ok (.iload_n 0, 1) := by decide +kernel
theorem dX6_demandSpan_1 : decode cX6_demandSpan 1 = .ok (.bipush 10, 2) := by decide +kernel
theorem dX6_demandSpan_3 : decode cX6_demandSpan 3 = .ok (.if_icmp .lt 10, 3) := by decide +kernel
theorem dX6_demandSpan_6 : decode cX6_demandSpan 6 = .ok (.iload_n 0, 1) := by decide +kernel
theorem dX6_demandSpan_7 : decode cX6_demandSpan 7 = .ok (.sipush 200, 3) := by decide +kernel
theorem dX6_demandSpan_10 : decode cX6_demandSpan 10 = .ok (.if_icmp .le 14, 3) := by decide +kernel
theorem dX6_demandSpan_13 : decode cX6_demandSpan 13 = .ok (.new 92, 3) := by decide +kernel
theorem dX6_demandSpan_16 : decode cX6_demandSpan 16 = .ok (.dup, 1) := by decide +kernel
theorem dX6_demandSpan_17 : decode cX6_demandSpan 17 = .ok (.ldc_w 292, 3) := by decide +kernel
theorem dX6_demandSpan_20 : decode cX6_demandSpan 20 = .ok (.invokespecial 96, 3) := by decide +kernel
theorem dX6_demandSpan_23 : decode cX6_demandSpan 23 = .ok (.athrow, 1) := by decide +kernel
theorem dX6_demandSpan_24 : decode cX6_demandSpan 24 = .ok (.return_, 1) := by decide +kernel
theorem dL_addSign_0 : decode cL_addSign 0 = .ok (.aload 6, 2) := by decide +kernel
theorem dL_addSign_2 : decode cL_addSign 2 = .ok (.iconst 0, 1) := by decide +kernel
theorem dL_addSign_3 : decode cL_addSign 3 = .ok (.aload_n 0, 1) := by decide +kernel
theorem dL_addSign_4 : decode cL_addSign 4 = .ok (.iload_n 1, 1) := by decide +kernel
theorem dL_addSign_5 : decode cL_addSign 5 = .ok (.iload_n 2, 1) := by decide +kernel
theorem dL_addSign_6 : decode cL_addSign 6 = .ok (.iload_n 3, 1) := by decide +kernel
theorem dL_addSign_7 : decode cL_addSign 7 = .ok (.iload 4, 2) := by decide +kernel
theorem dL_addSign_9 : decode cL_addSign 9 = .ok (.iload 5, 2) := by decide +kernel
theorem dL_addSign_11 : decode cL_addSign 11 = .ok (.invokevirtual 7, 3) := by decide +kernel
theorem dL_addSign_14 : decode cL_addSign 14 = .ok (.i2l, 1) := by decide +kernel
theorem dL_addSign_15 : decode cL_addSign 15 = .ok (.lastore, 1) := by decide +kernel
theorem dL_addSign_16 : decode cL_addSign 16 = .ok (.goto 15, 3) := by decide +kernel
theorem dL_addSign_19 : decode cL_addSign 19 = .ok (.astore 7, 2) := by decide +kernel
theorem dL_addSign_21 : decode cL_addSign 21 = .ok (.iconst 1, 1) := by decide +kernel
theorem dL_addSign_22 : decode cL_addSign 22 = .ok (.ireturn, 1) := by decide +kernel
theorem dL_addSign_23 : decode cL_addSign 23 = .ok (.astore 7, 2) := by decide +kernel
theorem dL_addSign_25 : decode cL_addSign 25 = .ok (.iconst 2, 1) := by decide +kernel
theorem dL_addSign_26 : decode cL_addSign 26 = .ok (.ireturn, 1) := by decide +kernel
theorem dL_addSign_27 : decode cL_addSign 27 = .ok (.astore 7, 2) := by decide +kernel
theorem dL_addSign_29 : decode cL_addSign 29 = .ok (.iconst 3, 1) := by decide +kernel
theorem dL_addSign_30 : decode cL_addSign 30 = .ok (.ireturn, 1) := by decide +kernel
theorem dL_addSign_31 : decode cL_addSign 31 = .ok (.iconst 0, 1) := by decide +kernel
theorem dL_addSign_32 : decode cL_addSign 32 = .ok (.ireturn, 1) := by decide +kernel
theorem dL_removeSign_0 : decode cL_removeSign 0 = .ok (.aload_n 2, 1) := by decide +kernel
theorem dL_removeSign_1 : decode cL_removeSign 1 = .ok (.iconst 0, 1) := by decide +kernel
theorem dL_removeSign_2 : decode cL_removeSign 2 = .ok (.aload_n 0, 1) := by decide +kernel
theorem dL_removeSign_3 : decode cL_removeSign 3 = .ok (.iload_n 1, 1) := by decide +kernel
theorem dL_removeSign_4 : decode cL_removeSign 4 = .ok (.invokevirtual 19, 3) := by decide +kernel
theorem dL_removeSign_7 : decode cL_removeSign 7 = .ok (.i2l, 1) := by decide +kernel
theorem dL_removeSign_8 : decode cL_removeSign 8 = .ok (.lastore, 1) := by decide +kernel
theorem dL_removeSign_9 : decode cL_removeSign 9 = .ok (.goto 6, 3) := by decide +kernel
theorem dL_removeSign_12 : decode cL_removeSign 12 = .ok (.astore_n 3, 1) := by decide +kernel
theorem dL_removeSign_13 : decode cL_removeSign 13 = .ok (.iconst 1, 1) := by decide +kernel
theorem dL_removeSign_14 : decode cL_removeSign 14 = .ok (.ireturn, 1) := by decide +kernel
theorem dL_removeSign_15 : decode cL_removeSign 15 = .ok (.iconst 0, 1) := by decide +kernel
theorem dL_removeSign_16 : decode cL_removeSign 16 = .ok (.ireturn, 1) := by decide +kernel
theorem dL_moveSign_0 : decode cL_moveSign 0 = .ok (.aload 4, 2) := by decide +kernel
theorem dL_moveSign_2 : decode cL_moveSign 2 = .ok (.iconst 0, 1) := by decide +kernel
theorem dL_moveSign_3 : decode cL_moveSign 3 = .ok (.aload_n 0, 1) := by decide +kernel
theorem dL_moveSign_4 : decode cL_moveSign 4 = .ok (.iload_n 1, 1) := by decide +kernel
theorem dL_moveSign_5 : decode cL_moveSign 5 = .ok (.iload_n 2, 1) := by decide +kernel
theorem dL_moveSign_6 : decode cL_moveSign 6 = .ok (.iload_n 3, 1) := by decide +kernel
theorem dL_moveSign_7 : decode cL_moveSign 7 = .ok (.invokevirtual 23, 3) := by decide +kernel
theorem dL_moveSign_10 : decode cL_moveSign 10 = .ok (.i2l, 1) := by decide +kernel
theorem dL_moveSign_11 : decode cL_moveSign 11 = .ok (.lastore, 1) := by decide +kernel
theorem dL_moveSign_12 : decode cL_moveSign 12 = .ok (.goto 11, 3) := by decide +kernel
theorem dL_moveSign_15 : decode cL_moveSign 15 = .ok (.astore 5, 2) := by decide +kernel
theorem dL_moveSign_17 : decode cL_moveSign 17 = .ok (.iconst 1, 1) := by decide +kernel
theorem dL_moveSign_18 : decode cL_moveSign 18 = .ok (.ireturn, 1) := by decide +kernel
theorem dL_moveSign_19 : decode cL_moveSign 19 = .ok (.astore 5, 2) := by decide +kernel
theorem dL_moveSign_21 : decode cL_moveSign 21 = .ok (.iconst 2, 1) := by decide +kernel
theorem dL_moveSign_22 : decode cL_moveSign 22 = .ok (.ireturn, 1) := by decide +kernel
theorem dL_moveSign_23 : decode cL_moveSign 23 = .ok (.iconst 0, 1) := by decide +kernel
theorem dL_moveSign_24 : decode cL_moveSign 24 = .ok (.ireturn, 1) := by decide +kernel
theorem dL_setWindow_0 : decode cL_setWindow 0 = .ok (.aload 6, 2) := by decide +kernel
theorem dL_setWindow_2 : decode cL_setWindow 2 = .ok (.iconst 0, 1) := by decide +kernel
theorem dL_setWindow_3 : decode cL_setWindow 3 = .ok (.aload_n 0, 1) := by decide +kernel
theorem dL_setWindow_4 : decode cL_setWindow 4 = .ok (.iload_n 1, 1) := by decide +kernel
theorem dL_setWindow_5 : decode cL_setWindow 5 = .ok (.iload_n 2, 1) := by decide +kernel
theorem dL_setWindow_6 : decode cL_setWindow 6 = .ok (.iload_n 3, 1) := by decide +kernel
theorem dL_setWindow_7 : decode cL_setWindow 7 = .ok (.iload 4, 2) := by decide +kernel
theorem dL_setWindow_9 : decode cL_setWindow 9 = .ok (.iload 5, 2) := by decide +kernel
theorem dL_setWindow_11 : decode cL_setWindow 11 = .ok (.invokevirtual 27, 3) := by decide +kernel
theorem dL_setWindow_14 : decode cL_setWindow 14 = .ok (.i2l, 1) := by decide +kernel
theorem dL_setWindow_15 : decode cL_setWindow 15 = .ok (.lastore, 1) := by decide +kernel
theorem dL_setWindow_16 : decode cL_setWindow 16 = .ok (.goto 7, 3) := by decide +kernel
theorem dL_setWindow_19 : decode cL_setWindow 19 = .ok (.astore 7, 2) := by decide +kernel
theorem dL_setWindow_21 : decode cL_setWindow 21 = .ok (.iconst 1, 1) := by decide +kernel
theorem dL_setWindow_22 : decode cL_setWindow 22 = .ok (.ireturn, 1) := by decide +kernel
theorem dL_setWindow_23 : decode cL_setWindow 23 = .ok (.iconst 0, 1) := by decide +kernel
theorem dL_setWindow_24 : decode cL_setWindow 24 = .ok (.ireturn, 1) := by decide +kernel
theorem dL_set_0 : decode cL_set 0 = .ok (.aload_n 3, 1) := by decide +kernel
theorem dL_set_1 : decode cL_set 1 = .ok (.iconst 0, 1) := by decide +kernel
theorem dL_set_2 : decode cL_set 2 = .ok (.aload_n 0, 1) := by decide +kernel
theorem dL_set_3 : decode cL_set 3 = .ok (.iload_n 1, 1) := by decide +kernel
theorem dL_set_4 : decode cL_set 4 = .ok (.iload_n 2, 1) := by decide +kernel
theorem dL_set_5 : decode cL_set 5 = .ok (.invokevirtual 30, 3) := by decide +kernel
theorem dL_set_8 : decode cL_set 8 = .ok (.i2l, 1) := by decide +kernel
theorem dL_set_9 : decode cL_set 9 = .ok (.lastore, 1) := by decide +kernel
theorem dL_set_10 : decode cL_set 10 = .ok (.goto 7, 3) := by decide +kernel
theorem dL_set_13 : decode cL_set 13 = .ok (.astore 4, 2) := by decide +kernel
theorem dL_set_15 : decode cL_set 15 = .ok (.iconst 1, 1) := by decide +kernel
theorem dL_set_16 : decode cL_set 16 = .ok (.ireturn, 1) := by decide +kernel
theorem dL_set_17 : decode cL_set 17 = .ok (.iconst 0, 1) := by decide +kernel
theorem dL_set_18 : decode cL_set 18 = .ok (.ireturn, 1) := by decide +kernel
theorem dL_setKind_0 : decode cL_setKind 0 = .ok (.aload 4, 2) := by decide +kernel
theorem dL_setKind_2 : decode cL_setKind 2 = .ok (.iconst 0, 1) := by decide +kernel
theorem dL_setKind_3 : decode cL_setKind 3 = .ok (.aload_n 0, 1) := by decide +kernel
theorem dL_setKind_4 : decode cL_setKind 4 = .ok (.iload_n 1, 1) := by decide +kernel
theorem dL_setKind_5 : decode cL_setKind 5 = .ok (.iload_n 2, 1) := by decide +kernel
theorem dL_setKind_6 : decode cL_setKind 6 = .ok (.iload_n 3, 1) := by decide +kernel
theorem dL_setKind_7 : decode cL_setKind 7 = .ok (.invokevirtual 34, 3) := by decide +kernel
theorem dL_setKind_10 : decode cL_setKind 10 = .ok (.i2l, 1) := by decide +kernel
theorem dL_setKind_11 : decode cL_setKind 11 = .ok (.lastore, 1) := by decide +kernel
theorem dL_setKind_12 : decode cL_setKind 12 = .ok (.goto 11, 3) := by decide +kernel
theorem dL_setKind_15 : decode cL_setKind 15 = .ok (.astore 5, 2) := by decide +kernel
theorem dL_setKind_17 : decode cL_setKind 17 = .ok (.iconst 1, 1) := by decide +kernel
theorem dL_setKind_18 : decode cL_setKind 18 = .ok (.ireturn, 1) := by decide +kernel
theorem dL_setKind_19 : decode cL_setKind 19 = .ok (.astore 5, 2) := by decide +kernel
theorem dL_setKind_21 : decode cL_setKind 21 = .ok (.iconst 2, 1) := by decide +kernel
theorem dL_setKind_22 : decode cL_setKind 22 = .ok (.ireturn, 1) := by decide +kernel
theorem dL_setKind_23 : decode cL_setKind 23 = .ok (.iconst 0, 1) := by decide +kernel
theorem dL_setKind_24 : decode cL_setKind 24 = .ok (.ireturn, 1) := by decide +kernel
theorem dL_setWay_0 : decode cL_setWay 0 = .ok (.aload_n 3, 1) := by decide +kernel
theorem dL_setWay_1 : decode cL_setWay 1 = .ok (.iconst 0, 1) := by decide +kernel
theorem dL_setWay_2 : decode cL_setWay 2 = .ok (.aload_n 0, 1) := by decide +kernel
theorem dL_setWay_3 : decode cL_setWay 3 = .ok (.iload_n 1, 1) := by decide +kernel
theorem dL_setWay_4 : decode cL_setWay 4 = .ok (.iload_n 2, 1) := by decide +kernel
theorem dL_setWay_5 : decode cL_setWay 5 = .ok (.invokevirtual 37, 3) := by decide +kernel
theorem dL_setWay_8 : decode cL_setWay 8 = .ok (.i2l, 1) := by decide +kernel
theorem dL_setWay_9 : decode cL_setWay 9 = .ok (.lastore, 1) := by decide +kernel
theorem dL_setWay_10 : decode cL_setWay 10 = .ok (.goto 11, 3) := by decide +kernel
theorem dL_setWay_13 : decode cL_setWay 13 = .ok (.astore 4, 2) := by decide +kernel
theorem dL_setWay_15 : decode cL_setWay 15 = .ok (.iconst 1, 1) := by decide +kernel
theorem dL_setWay_16 : decode cL_setWay 16 = .ok (.ireturn, 1) := by decide +kernel
theorem dL_setWay_17 : decode cL_setWay 17 = .ok (.astore 4, 2) := by decide +kernel
theorem dL_setWay_19 : decode cL_setWay 19 = .ok (.iconst 2, 1) := by decide +kernel
theorem dL_setWay_20 : decode cL_setWay 20 = .ok (.ireturn, 1) := by decide +kernel
theorem dL_setWay_21 : decode cL_setWay 21 = .ok (.iconst 0, 1) := by decide +kernel
theorem dL_setWay_22 : decode cL_setWay 22 = .ok (.ireturn, 1) := by decide +kernel
theorem dL_limit_0 : decode cL_limit 0 = .ok (.aload_n 3, 1) := by decide +kernel
theorem dL_limit_1 : decode cL_limit 1 = .ok (.iconst 0, 1) := by decide +kernel
theorem dL_limit_2 : decode cL_limit 2 = .ok (.aload_n 0, 1) := by decide +kernel
theorem dL_limit_3 : decode cL_limit 3 = .ok (.iload_n 1, 1) := by decide +kernel
theorem dL_limit_4 : decode cL_limit 4 = .ok (.iload_n 2, 1) := by decide +kernel
theorem dL_limit_5 : decode cL_limit 5 = .ok (.invokevirtual 40, 3) := by decide +kernel
theorem dL_limit_8 : decode cL_limit 8 = .ok (.i2l, 1) := by decide +kernel
theorem dL_limit_9 : decode cL_limit 9 = .ok (.lastore, 1) := by decide +kernel
theorem dL_limit_10 : decode cL_limit 10 = .ok (.goto 15, 3) := by decide +kernel
theorem dL_limit_13 : decode cL_limit 13 = .ok (.astore 4, 2) := by decide +kernel
theorem dL_limit_15 : decode cL_limit 15 = .ok (.iconst 1, 1) := by decide +kernel
theorem dL_limit_16 : decode cL_limit 16 = .ok (.ireturn, 1) := by decide +kernel
theorem dL_limit_17 : decode cL_limit 17 = .ok (.astore 4, 2) := by decide +kernel
theorem dL_limit_19 : decode cL_limit 19 = .ok (.iconst 2, 1) := by decide +kernel
theorem dL_limit_20 : decode cL_limit 20 = .ok (.ireturn, 1) := by decide +kernel
theorem dL_limit_21 : decode cL_limit 21 = .ok (.astore 4, 2) := by decide +kernel
theorem dL_limit_23 : decode cL_limit 23 = .ok (.iconst 3, 1) := by decide +kernel
theorem dL_limit_24 : decode cL_limit 24 = .ok (.ireturn, 1) := by decide +kernel
theorem dL_limit_25 : decode cL_limit 25 = .ok (.iconst 0, 1) := by decide +kernel
theorem dL_limit_26 : decode cL_limit 26 = .ok (.ireturn, 1) := by decide +kernel
theorem dL_value_0 : decode cL_value 0 = .ok (.aload_n 2, 1) := by decide +kernel
theorem dL_value_1 : decode cL_value 1 = .ok (.iconst 0, 1) := by decide +kernel
theorem dL_value_2 : decode cL_value 2 = .ok (.aload_n 0, 1) := by decide +kernel
theorem dL_value_3 : decode cL_value 3 = .ok (.iload_n 1, 1) := by decide +kernel
theorem dL_value_4 : decode cL_value 4 = .ok (.invokevirtual 43, 3) := by decide +kernel
theorem dL_value_7 : decode cL_value 7 = .ok (.i2l, 1) := by decide +kernel
theorem dL_value_8 : decode cL_value 8 = .ok (.lastore, 1) := by decide +kernel
theorem dL_value_9 : decode cL_value 9 = .ok (.goto 6, 3) := by decide +kernel
theorem dL_value_12 : decode cL_value 12 = .ok (.astore_n 3, 1) := by decide +kernel
theorem dL_value_13 : decode cL_value 13 = .ok (.iconst 1, 1) := by decide +kernel
theorem dL_value_14 : decode cL_value 14 = .ok (.ireturn, 1) := by decide +kernel
theorem dL_value_15 : decode cL_value 15 = .ok (.iconst 0, 1) := by decide +kernel
theorem dL_value_16 : decode cL_value 16 = .ok (.ireturn, 1) := by decide +kernel
theorem dL_sign_0 : decode cL_sign 0 = .ok (.aload_n 3, 1) := by decide +kernel
theorem dL_sign_1 : decode cL_sign 1 = .ok (.iconst 0, 1) := by decide +kernel
theorem dL_sign_2 : decode cL_sign 2 = .ok (.aload_n 0, 1) := by decide +kernel
theorem dL_sign_3 : decode cL_sign 3 = .ok (.iload_n 1, 1) := by decide +kernel
theorem dL_sign_4 : decode cL_sign 4 = .ok (.iload_n 2, 1) := by decide +kernel
theorem dL_sign_5 : decode cL_sign 5 = .ok (.invokevirtual 46, 3) := by decide +kernel
theorem dL_sign_8 : decode cL_sign 8 = .ok (.i2l, 1) := by decide +kernel
theorem dL_sign_9 : decode cL_sign 9 = .ok (.lastore, 1) := by decide +kernel
theorem dL_sign_10 : decode cL_sign 10 = .ok (.goto 11, 3) := by decide +kernel
theorem dL_sign_13 : decode cL_sign 13 = .ok (.astore 4, 2) := by decide +kernel
theorem dL_sign_15 : decode cL_sign 15 = .ok (.iconst 1, 1) := by decide +kernel
theorem dL_sign_16 : decode cL_sign 16 = .ok (.ireturn, 1) := by decide +kernel
theorem dL_sign_17 : decode cL_sign 17 = .ok (.astore 4, 2) := by decide +kernel
theorem dL_sign_19 : decode cL_sign 19 = .ok (.iconst 2, 1) := by decide +kernel
theorem dL_sign_20 : decode cL_sign 20 = .ok (.ireturn, 1) := by decide +kernel
theorem dL_sign_21 : decode cL_sign 21 = .ok (.iconst 0, 1) := by decide +kernel
theorem dL_sign_22 : decode cL_sign 22 = .ok (.ireturn, 1) := by decide +kernel
theorem dL_kind_0 : decode cL_kind 0 = .ok (.aload_n 3, 1) := by decide +kernel
theorem dL_kind_1 : decode cL_kind 1 = .ok (.iconst 0, 1) := by decide +kernel
theorem dL_kind_2 : decode cL_kind 2 = .ok (.aload_n 0, 1) := by decide +kernel
theorem dL_kind_3 : decode cL_kind 3 = .ok (.iload_n 1, 1) := by decide +kernel
theorem dL_kind_4 : decode cL_kind 4 = .ok (.iload_n 2, 1) := by decide +kernel
theorem dL_kind_5 : decode cL_kind 5 = .ok (.invokevirtual 49, 3) := by decide +kernel
theorem dL_kind_8 : decode cL_kind 8 = .ok (.i2l, 1) := by decide +kernel
theorem dL_kind_9 : decode cL_kind 9 = .ok (.lastore, 1) := by decide +kernel
theorem dL_kind_10 : decode cL_kind 10 = .ok (.goto 11, 3) := by decide +kernel
theorem dL_kind_13 : decode cL_kind 13 = .ok (.astore 4, 2) := by decide +kernel
theorem dL_kind_15 : decode cL_kind 15 = .ok (.iconst 1, 1) := by decide +kernel
theorem dL_kind_16 : decode cL_kind 16 = .ok (.ireturn, 1) := by decide +kernel
theorem dL_kind_17 : decode cL_kind 17 = .ok (.astore 4, 2) := by decide +kernel
theorem dL_kind_19 : decode cL_kind 19 = .ok (.iconst 2, 1) := by decide +kernel
theorem dL_kind_20 : decode cL_kind 20 = .ok (.ireturn, 1) := by decide +kernel
theorem dL_kind_21 : decode cL_kind 21 = .ok (.iconst 0, 1) := by decide +kernel
theorem dL_kind_22 : decode cL_kind 22 = .ok (.ireturn, 1) := by decide +kernel
theorem dL_line_0 : decode cL_line 0 = .ok (.aload_n 3, 1) := by decide +kernel
theorem dL_line_1 : decode cL_line 1 = .ok (.iconst 0, 1) := by decide +kernel
theorem dL_line_2 : decode cL_line 2 = .ok (.aload_n 0, 1) := by decide +kernel
theorem dL_line_3 : decode cL_line 3 = .ok (.iload_n 1, 1) := by decide +kernel
theorem dL_line_4 : decode cL_line 4 = .ok (.iload_n 2, 1) := by decide +kernel
theorem dL_line_5 : decode cL_line 5 = .ok (.invokevirtual 52, 3) := by decide +kernel
theorem dL_line_8 : decode cL_line 8 = .ok (.i2l, 1) := by decide +kernel
theorem dL_line_9 : decode cL_line 9 = .ok (.lastore, 1) := by decide +kernel
theorem dL_line_10 : decode cL_line 10 = .ok (.goto 11, 3) := by decide +kernel
theorem dL_line_13 : decode cL_line 13 = .ok (.astore 4, 2) := by decide +kernel
theorem dL_line_15 : decode cL_line 15 = .ok (.iconst 1, 1) := by decide +kernel
theorem dL_line_16 : decode cL_line 16 = .ok (.ireturn, 1) := by decide +kernel
theorem dL_line_17 : decode cL_line 17 = .ok (.astore 4, 2) := by decide +kernel
theorem dL_line_19 : decode cL_line 19 = .ok (.iconst 2, 1) := by decide +kernel
theorem dL_line_20 : decode cL_line 20 = .ok (.ireturn, 1) := by decide +kernel
theorem dL_line_21 : decode cL_line 21 = .ok (.iconst 0, 1) := by decide +kernel
theorem dL_line_22 : decode cL_line 22 = .ok (.ireturn, 1) := by decide +kernel
theorem dL_box_0 : decode cL_box 0 = .ok (.aload_n 2, 1) := by decide +kernel
theorem dL_box_1 : decode cL_box 1 = .ok (.iconst 0, 1) := by decide +kernel
theorem dL_box_2 : decode cL_box 2 = .ok (.aload_n 0, 1) := by decide +kernel
theorem dL_box_3 : decode cL_box 3 = .ok (.iload_n 1, 1) := by decide +kernel
theorem dL_box_4 : decode cL_box 4 = .ok (.invokevirtual 55, 3) := by decide +kernel
theorem dL_box_7 : decode cL_box 7 = .ok (.i2l, 1) := by decide +kernel
theorem dL_box_8 : decode cL_box 8 = .ok (.lastore, 1) := by decide +kernel
theorem dL_box_9 : decode cL_box 9 = .ok (.goto 6, 3) := by decide +kernel
theorem dL_box_12 : decode cL_box 12 = .ok (.astore_n 3, 1) := by decide +kernel
theorem dL_box_13 : decode cL_box 13 = .ok (.iconst 1, 1) := by decide +kernel
theorem dL_box_14 : decode cL_box 14 = .ok (.ireturn, 1) := by decide +kernel
theorem dL_box_15 : decode cL_box 15 = .ok (.iconst 0, 1) := by decide +kernel
theorem dL_box_16 : decode cL_box 16 = .ok (.ireturn, 1) := by decide +kernel
theorem dL_rounds_0 : decode cL_rounds 0 = .ok (.aload_n 2, 1) := by decide +kernel
theorem dL_rounds_1 : decode cL_rounds 1 = .ok (.iconst 0, 1) := by decide +kernel
theorem dL_rounds_2 : decode cL_rounds 2 = .ok (.aload_n 0, 1) := by decide +kernel
theorem dL_rounds_3 : decode cL_rounds 3 = .ok (.iload_n 1, 1) := by decide +kernel
theorem dL_rounds_4 : decode cL_rounds 4 = .ok (.invokevirtual 58, 3) := by decide +kernel
theorem dL_rounds_7 : decode cL_rounds 7 = .ok (.i2l, 1) := by decide +kernel
theorem dL_rounds_8 : decode cL_rounds 8 = .ok (.lastore, 1) := by decide +kernel
theorem dL_rounds_9 : decode cL_rounds 9 = .ok (.goto 6, 3) := by decide +kernel
theorem dL_rounds_12 : decode cL_rounds 12 = .ok (.astore_n 3, 1) := by decide +kernel
theorem dL_rounds_13 : decode cL_rounds 13 = .ok (.iconst 1, 1) := by decide +kernel
theorem dL_rounds_14 : decode cL_rounds 14 = .ok (.ireturn, 1) := by decide +kernel
theorem dL_rounds_15 : decode cL_rounds 15 = .ok (.iconst 0, 1) := by decide +kernel
theorem dL_rounds_16 : decode cL_rounds 16 = .ok (.ireturn, 1) := by decide +kernel
theorem dL_linesAt_0 : decode cL_linesAt 0 = .ok (.aload_n 3, 1) := by decide +kernel
theorem dL_linesAt_1 : decode cL_linesAt 1 = .ok (.iconst 0, 1) := by decide +kernel
theorem dL_linesAt_2 : decode cL_linesAt 2 = .ok (.aload_n 0, 1) := by decide +kernel
theorem dL_linesAt_3 : decode cL_linesAt 3 = .ok (.iload_n 1, 1) := by decide +kernel
theorem dL_linesAt_4 : decode cL_linesAt 4 = .ok (.iload_n 2, 1) := by decide +kernel
theorem dL_linesAt_5 : decode cL_linesAt 5 = .ok (.invokevirtual 61, 3) := by decide +kernel
theorem dL_linesAt_8 : decode cL_linesAt 8 = .ok (.i2l, 1) := by decide +kernel
theorem dL_linesAt_9 : decode cL_linesAt 9 = .ok (.lastore, 1) := by decide +kernel
theorem dL_linesAt_10 : decode cL_linesAt 10 = .ok (.goto 7, 3) := by decide +kernel
theorem dL_linesAt_13 : decode cL_linesAt 13 = .ok (.astore 4, 2) := by decide +kernel
theorem dL_linesAt_15 : decode cL_linesAt 15 = .ok (.iconst 1, 1) := by decide +kernel
theorem dL_linesAt_16 : decode cL_linesAt 16 = .ok (.ireturn, 1) := by decide +kernel
theorem dL_linesAt_17 : decode cL_linesAt 17 = .ok (.iconst 0, 1) := by decide +kernel
theorem dL_linesAt_18 : decode cL_linesAt 18 = .ok (.ireturn, 1) := by decide +kernel
theorem dL_zoomFor_0 : decode cL_zoomFor 0 = .ok (.aload_n 2, 1) := by decide +kernel
theorem dL_zoomFor_1 : decode cL_zoomFor 1 = .ok (.iconst 0, 1) := by decide +kernel
theorem dL_zoomFor_2 : decode cL_zoomFor 2 = .ok (.aload_n 0, 1) := by decide +kernel
theorem dL_zoomFor_3 : decode cL_zoomFor 3 = .ok (.iload_n 1, 1) := by decide +kernel
theorem dL_zoomFor_4 : decode cL_zoomFor 4 = .ok (.invokevirtual 64, 3) := by decide +kernel
theorem dL_zoomFor_7 : decode cL_zoomFor 7 = .ok (.i2l, 1) := by decide +kernel
theorem dL_zoomFor_8 : decode cL_zoomFor 8 = .ok (.lastore, 1) := by decide +kernel
theorem dL_zoomFor_9 : decode cL_zoomFor 9 = .ok (.goto 6, 3) := by decide +kernel
theorem dL_zoomFor_12 : decode cL_zoomFor 12 = .ok (.astore_n 3, 1) := by decide +kernel
theorem dL_zoomFor_13 : decode cL_zoomFor 13 = .ok (.iconst 1, 1) := by decide +kernel
theorem dL_zoomFor_14 : decode cL_zoomFor 14 = .ok (.ireturn, 1) := by decide +kernel
theorem dL_zoomFor_15 : decode cL_zoomFor 15 = .ok (.iconst 0, 1) := by decide +kernel
theorem dL_zoomFor_16 : decode cL_zoomFor 16 = .ok (.ireturn, 1) := by decide +kernel
theorem dL_linesSaved_0 : decode cL_linesSaved 0 = .ok (.aload_n 2, 1) := by decide +kernel
theorem dL_linesSaved_1 : decode cL_linesSaved 1 = .ok (.iconst 0, 1) := by decide +kernel
theorem dL_linesSaved_2 : decode cL_linesSaved 2 = .ok (.aload_n 0, 1) := by decide +kernel
theorem dL_linesSaved_3 : decode cL_linesSaved 3 = .ok (.iload_n 1, 1) := by decide +kernel
theorem dL_linesSaved_4 : decode cL_linesSaved 4 = .ok (.invokevirtual 67, 3) := by decide +kernel
theorem dL_linesSaved_7 : decode cL_linesSaved 7 = .ok (.i2l, 1) := by decide +kernel
theorem dL_linesSaved_8 : decode cL_linesSaved 8 = .ok (.lastore, 1) := by decide +kernel
theorem dL_linesSaved_9 : decode cL_linesSaved 9 = .ok (.goto 6, 3) := by decide +kernel
theorem dL_linesSaved_12 : decode cL_linesSaved 12 = .ok (.astore_n 3, 1) := by decide +kernel
theorem dL_linesSaved_13 : decode cL_linesSaved 13 = .ok (.iconst 1, 1) := by decide +kernel
theorem dL_linesSaved_14 : decode cL_linesSaved 14 = .ok (.ireturn, 1) := by decide +kernel
theorem dL_linesSaved_15 : decode cL_linesSaved 15 = .ok (.iconst 0, 1) := by decide +kernel
theorem dL_linesSaved_16 : decode cL_linesSaved 16 = .ok (.ireturn, 1) := by decide +kernel
theorem dL_append_0 : decode cL_append 0 = .ok (.aload_n 2, 1) := by decide +kernel
theorem dL_append_1 : decode cL_append 1 = .ok (.iconst 0, 1) := by decide +kernel
theorem dL_append_2 : decode cL_append 2 = .ok (.aload_n 0, 1) := by decide +kernel
theorem dL_append_3 : decode cL_append 3 = .ok (.iload_n 1, 1) := by decide +kernel
theorem dL_append_4 : decode cL_append 4 = .ok (.invokevirtual 70, 3) := by decide +kernel
theorem dL_append_7 : decode cL_append 7 = .ok (.i2l, 1) := by decide +kernel
theorem dL_append_8 : decode cL_append 8 = .ok (.lastore, 1) := by decide +kernel
theorem dL_append_9 : decode cL_append 9 = .ok (.goto 9, 3) := by decide +kernel
theorem dL_append_12 : decode cL_append 12 = .ok (.astore_n 3, 1) := by decide +kernel
theorem dL_append_13 : decode cL_append 13 = .ok (.iconst 1, 1) := by decide +kernel
theorem dL_append_14 : decode cL_append 14 = .ok (.ireturn, 1) := by decide +kernel
theorem dL_append_15 : decode cL_append 15 = .ok (.astore_n 3, 1) := by decide +kernel
theorem dL_append_16 : decode cL_append 16 = .ok (.iconst 2, 1) := by decide +kernel
theorem dL_append_17 : decode cL_append 17 = .ok (.ireturn, 1) := by decide +kernel
theorem dL_append_18 : decode cL_append 18 = .ok (.iconst 0, 1) := by decide +kernel
theorem dL_append_19 : decode cL_append 19 = .ok (.ireturn, 1) := by decide +kernel
theorem dL_undo_0 : decode cL_undo 0 = .ok (.aload_n 1, 1) := by decide +kernel
theorem dL_undo_1 : decode cL_undo 1 = .ok (.iconst 0, 1) := by decide +kernel
theorem dL_undo_2 : decode cL_undo 2 = .ok (.aload_n 0, 1) := by decide +kernel
theorem dL_undo_3 : decode cL_undo 3 = .ok (.invokevirtual 73, 3) := by decide +kernel
theorem dL_undo_6 : decode cL_undo 6 = .ok (.i2l, 1) := by decide +kernel
theorem dL_undo_7 : decode cL_undo 7 = .ok (.lastore, 1) := by decide +kernel
theorem dL_undo_8 : decode cL_undo 8 = .ok (.goto 6, 3) := by decide +kernel
theorem dL_undo_11 : decode cL_undo 11 = .ok (.astore_n 2, 1) := by decide +kernel
theorem dL_undo_12 : decode cL_undo 12 = .ok (.iconst 1, 1) := by decide +kernel
theorem dL_undo_13 : decode cL_undo 13 = .ok (.ireturn, 1) := by decide +kernel
theorem dL_undo_14 : decode cL_undo 14 = .ok (.iconst 0, 1) := by decide +kernel
theorem dL_undo_15 : decode cL_undo 15 = .ok (.ireturn, 1) := by decide +kernel
theorem dL_law_0 : decode cL_law 0 = .ok (.new 8, 3) := by decide +kernel
theorem dL_law_3 : decode cL_law 3 = .ok (.dup, 1) := by decide +kernel
theorem dL_law_4 : decode cL_law 4 = .ok (.invokespecial 77, 3) := by decide +kernel
theorem dL_law_7 : decode cL_law 7 = .ok (.astore_n 1, 1) := by decide +kernel
theorem dL_law_8 : decode cL_law 8 = .ok (.new 78, 3) := by decide +kernel
theorem dL_law_11 : decode cL_law 11 = .ok (.dup, 1) := by decide +kernel
theorem dL_law_12 : decode cL_law 12 = .ok (.invokespecial 80, 3) := by decide +kernel
theorem dL_law_15 : decode cL_law 15 = .ok (.astore_n 2, 1) := by decide +kernel
theorem dL_law_16 : decode cL_law 16 = .ok (.iconst 1, 1) := by decide +kernel
theorem dL_law_17 : decode cL_law 17 = .ok (.newarray .long, 2) := by decide +kernel
theorem dL_law_19 : decode cL_law 19 = .ok (.astore_n 3, 1) := by decide +kernel
theorem dL_law_20 : decode cL_law 20 = .ok (.iconst 0, 1) := by decide +kernel
theorem dL_law_21 : decode cL_law 21 = .ok (.istore 4, 2) := by decide +kernel
theorem dL_law_23 : decode cL_law 23 = .ok (.iload 4, 2) := by decide +kernel
theorem dL_law_25 : decode cL_law 25 = .ok (.aload_n 0, 1) := by decide +kernel
theorem dL_law_26 : decode cL_law 26 = .ok (.arraylength, 1) := by decide +kernel
theorem dL_law_27 : decode cL_law 27 = .ok (.bipush 6, 2) := by decide +kernel
theorem dL_law_29 : decode cL_law 29 = .ok (.isub, 1) := by decide +kernel
theorem dL_law_30 : decode cL_law 30 = .ok (.if_icmp .gt 1536, 3) := by decide +kernel
theorem dL_law_33 : decode cL_law 33 = .ok (.aload_n 0, 1) := by decide +kernel
theorem dL_law_34 : decode cL_law 34 = .ok (.iload 4, 2) := by decide +kernel
theorem dL_law_36 : decode cL_law 36 = .ok (.iaload, 1) := by decide +kernel
theorem dL_law_37 : decode cL_law 37 = .ok (.bipush 31, 2) := by decide +kernel
theorem dL_law_39 : decode cL_law 39 = .ok (.iand, 1) := by decide +kernel
theorem dL_law_40 : decode cL_law 40 = .ok (.tableswitch 1520 0 25 #[120, 224, 280, 360, 464, 532, 612, 680, 748, 804, 872, 940, 953, 1021, 1077, 1133, 1146, 1187, 1255, 1268, 1324, 1380, 1436, 1449, 1462, 1506], 120) := by decide +kernel
theorem dL_law_160 : decode cL_law 160 = .ok (.aload_n 1, 1) := by decide +kernel
theorem dL_law_161 : decode cL_law 161 = .ok (.aload_n 0, 1) := by decide +kernel
theorem dL_law_162 : decode cL_law 162 = .ok (.iload 4, 2) := by decide +kernel
theorem dL_law_164 : decode cL_law 164 = .ok (.iconst 1, 1) := by decide +kernel
theorem dL_law_165 : decode cL_law 165 = .ok (.iadd, 1) := by decide +kernel
theorem dL_law_166 : decode cL_law 166 = .ok (.iaload, 1) := by decide +kernel
theorem dL_law_167 : decode cL_law 167 = .ok (.aload_n 0, 1) := by decide +kernel
theorem dL_law_168 : decode cL_law 168 = .ok (.iload 4, 2) := by decide +kernel
theorem dL_law_170 : decode cL_law 170 = .ok (.iconst 2, 1) := by decide +kernel
theorem dL_law_171 : decode cL_law 171 = .ok (.iadd, 1) := by decide +kernel
theorem dL_law_172 : decode cL_law 172 = .ok (.iaload, 1) := by decide +kernel
theorem dL_law_173 : decode cL_law 173 = .ok (.aload_n 0, 1) := by decide +kernel
theorem dL_law_174 : decode cL_law 174 = .ok (.iload 4, 2) := by decide +kernel
theorem dL_law_176 : decode cL_law 176 = .ok (.iconst 3, 1) := by decide +kernel
theorem dL_law_177 : decode cL_law 177 = .ok (.iadd, 1) := by decide +kernel
theorem dL_law_178 : decode cL_law 178 = .ok (.iaload, 1) := by decide +kernel
theorem dL_law_179 : decode cL_law 179 = .ok (.aload_n 0, 1) := by decide +kernel
theorem dL_law_180 : decode cL_law 180 = .ok (.iload 4, 2) := by decide +kernel
theorem dL_law_182 : decode cL_law 182 = .ok (.iconst 4, 1) := by decide +kernel
theorem dL_law_183 : decode cL_law 183 = .ok (.iadd, 1) := by decide +kernel
theorem dL_law_184 : decode cL_law 184 = .ok (.iaload, 1) := by decide +kernel
theorem dL_law_185 : decode cL_law 185 = .ok (.aload_n 0, 1) := by decide +kernel
theorem dL_law_186 : decode cL_law 186 = .ok (.iload 4, 2) := by decide +kernel
theorem dL_law_188 : decode cL_law 188 = .ok (.iconst 5, 1) := by decide +kernel
theorem dL_law_189 : decode cL_law 189 = .ok (.iadd, 1) := by decide +kernel
theorem dL_law_190 : decode cL_law 190 = .ok (.iaload, 1) := by decide +kernel
theorem dL_law_191 : decode cL_law 191 = .ok (.aload_n 3, 1) := by decide +kernel
theorem dL_law_192 : decode cL_law 192 = .ok (.invokestatic 81, 3) := by decide +kernel
theorem dL_law_195 : decode cL_law 195 = .ok (.istore 5, 2) := by decide +kernel
theorem dL_law_197 : decode cL_law 197 = .ok (.aload_n 2, 1) := by decide +kernel
theorem dL_law_198 : decode cL_law 198 = .ok (.aload_n 0, 1) := by decide +kernel
theorem dL_law_199 : decode cL_law 199 = .ok (.iload 4, 2) := by decide +kernel
theorem dL_law_201 : decode cL_law 201 = .ok (.iconst 1, 1) := by decide +kernel
theorem dL_law_202 : decode cL_law 202 = .ok (.iadd, 1) := by decide +kernel
theorem dL_law_203 : decode cL_law 203 = .ok (.iaload, 1) := by decide +kernel
theorem dL_law_204 : decode cL_law 204 = .ok (.aload_n 0, 1) := by decide +kernel
theorem dL_law_205 : decode cL_law 205 = .ok (.iload 4, 2) := by decide +kernel
theorem dL_law_207 : decode cL_law 207 = .ok (.iconst 2, 1) := by decide +kernel
theorem dL_law_208 : decode cL_law 208 = .ok (.iadd, 1) := by decide +kernel
theorem dL_law_209 : decode cL_law 209 = .ok (.iaload, 1) := by decide +kernel
theorem dL_law_210 : decode cL_law 210 = .ok (.aload_n 0, 1) := by decide +kernel
theorem dL_law_211 : decode cL_law 211 = .ok (.iload 4, 2) := by decide +kernel
theorem dL_law_213 : decode cL_law 213 = .ok (.iconst 3, 1) := by decide +kernel
theorem dL_law_214 : decode cL_law 214 = .ok (.iadd, 1) := by decide +kernel
theorem dL_law_215 : decode cL_law 215 = .ok (.iaload, 1) := by decide +kernel
theorem dL_law_216 : decode cL_law 216 = .ok (.aload_n 0, 1) := by decide +kernel
theorem dL_law_217 : decode cL_law 217 = .ok (.iload 4, 2) := by decide +kernel
theorem dL_law_219 : decode cL_law 219 = .ok (.iconst 4, 1) := by decide +kernel
theorem dL_law_220 : decode cL_law 220 = .ok (.iadd, 1) := by decide +kernel
theorem dL_law_221 : decode cL_law 221 = .ok (.iaload, 1) := by decide +kernel
theorem dL_law_222 : decode cL_law 222 = .ok (.aload_n 0, 1) := by decide +kernel
theorem dL_law_223 : decode cL_law 223 = .ok (.iload 4, 2) := by decide +kernel
theorem dL_law_225 : decode cL_law 225 = .ok (.iconst 5, 1) := by decide +kernel
theorem dL_law_226 : decode cL_law 226 = .ok (.iadd, 1) := by decide +kernel
theorem dL_law_227 : decode cL_law 227 = .ok (.iaload, 1) := by decide +kernel
theorem dL_law_228 : decode cL_law 228 = .ok (.invokevirtual 86, 3) := by decide +kernel
theorem dL_law_231 : decode cL_law 231 = .ok (.istore 6, 2) := by decide +kernel
theorem dL_law_233 : decode cL_law 233 = .ok (.aload_n 2, 1) := by decide +kernel
theorem dL_law_234 : decode cL_law 234 = .ok (.invokevirtual 87, 3) := by decide +kernel
theorem dL_law_237 : decode cL_law 237 = .ok (.iload 5, 2) := by decide +kernel
theorem dL_law_239 : decode cL_law 239 = .ok (.if_icmp .eq 5, 3) := by decide +kernel
theorem dL_law_242 : decode cL_law 242 = .ok (.iconst 0, 1) := by decide +kernel
theorem dL_law_243 : decode cL_law 243 = .ok (.ireturn, 1) := by decide +kernel
theorem dL_law_244 : decode cL_law 244 = .ok (.iload 5, 2) := by decide +kernel
theorem dL_law_246 : decode cL_law 246 = .ok (.ifCond .ne 15, 3) := by decide +kernel
theorem dL_law_249 : decode cL_law 249 = .ok (.aload_n 3, 1) := by decide +kernel
theorem dL_law_250 : decode cL_law 250 = .ok (.iconst 0, 1) := by decide +kernel
theorem dL_law_251 : decode cL_law 251 = .ok (.laload, 1) := by decide +kernel
theorem dL_law_252 : decode cL_law 252 = .ok (.iload 6, 2) := by decide +kernel
theorem dL_law_254 : decode cL_law 254 = .ok (.i2l, 1) := by decide +kernel
theorem dL_law_255 : decode cL_law 255 = .ok (.lcmp, 1) := by decide +kernel
theorem dL_law_256 : decode cL_law 256 = .ok (.ifCond .eq 5, 3) := by decide +kernel
theorem dL_law_259 : decode cL_law 259 = .ok (.iconst 0, 1) := by decide +kernel
theorem dL_law_260 : decode cL_law 260 = .ok (.ireturn, 1) := by decide +kernel
theorem dL_law_261 : decode cL_law 261 = .ok (.goto 1299, 3) := by decide +kernel
theorem dL_law_264 : decode cL_law 264 = .ok (.aload_n 1, 1) := by decide +kernel
theorem dL_law_265 : decode cL_law 265 = .ok (.aload_n 0, 1) := by decide +kernel
theorem dL_law_266 : decode cL_law 266 = .ok (.iload 4, 2) := by decide +kernel
theorem dL_law_268 : decode cL_law 268 = .ok (.iconst 1, 1) := by decide +kernel
theorem dL_law_269 : decode cL_law 269 = .ok (.iadd, 1) := by decide +kernel
theorem dL_law_270 : decode cL_law 270 = .ok (.iaload, 1) := by decide +kernel
theorem dL_law_271 : decode cL_law 271 = .ok (.aload_n 3, 1) := by decide +kernel
theorem dL_law_272 : decode cL_law 272 = .ok (.invokestatic 90, 3) := by decide +kernel
theorem dL_law_275 : decode cL_law 275 = .ok (.istore 5, 2) := by decide +kernel
theorem dL_law_277 : decode cL_law 277 = .ok (.aload_n 2, 1) := by decide +kernel
theorem dL_law_278 : decode cL_law 278 = .ok (.aload_n 0, 1) := by decide +kernel
theorem dL_law_279 : decode cL_law 279 = .ok (.iload 4, 2) := by decide +kernel
theorem dL_law_281 : decode cL_law 281 = .ok (.iconst 1, 1) := by decide +kernel
theorem dL_law_282 : decode cL_law 282 = .ok (.iadd, 1) := by decide +kernel
theorem dL_law_283 : decode cL_law 283 = .ok (.iaload, 1) := by decide +kernel
theorem dL_law_284 : decode cL_law 284 = .ok (.invokevirtual 93, 3) := by decide +kernel
theorem dL_law_287 : decode cL_law 287 = .ok (.istore 6, 2) := by decide +kernel
theorem dL_law_289 : decode cL_law 289 = .ok (.aload_n 2, 1) := by decide +kernel
theorem dL_law_290 : decode cL_law 290 = .ok (.invokevirtual 87, 3) := by decide +kernel
theorem dL_law_293 : decode cL_law 293 = .ok (.iload 5, 2) := by decide +kernel
theorem dL_law_295 : decode cL_law 295 = .ok (.if_icmp .eq 5, 3) := by decide +kernel
theorem dL_law_298 : decode cL_law 298 = .ok (.iconst 0, 1) := by decide +kernel
theorem dL_law_299 : decode cL_law 299 = .ok (.ireturn, 1) := by decide +kernel
theorem dL_law_300 : decode cL_law 300 = .ok (.iload 5, 2) := by decide +kernel
theorem dL_law_302 : decode cL_law 302 = .ok (.ifCond .ne 15, 3) := by decide +kernel
theorem dL_law_305 : decode cL_law 305 = .ok (.aload_n 3, 1) := by decide +kernel
theorem dL_law_306 : decode cL_law 306 = .ok (.iconst 0, 1) := by decide +kernel
theorem dL_law_307 : decode cL_law 307 = .ok (.laload, 1) := by decide +kernel
theorem dL_law_308 : decode cL_law 308 = .ok (.iload 6, 2) := by decide +kernel
theorem dL_law_310 : decode cL_law 310 = .ok (.i2l, 1) := by decide +kernel
theorem dL_law_311 : decode cL_law 311 = .ok (.lcmp, 1) := by decide +kernel
theorem dL_law_312 : decode cL_law 312 = .ok (.ifCond .eq 5, 3) := by decide +kernel
theorem dL_law_315 : decode cL_law 315 = .ok (.iconst 0, 1) := by decide +kernel
theorem dL_law_316 : decode cL_law 316 = .ok (.ireturn, 1) := by decide +kernel
theorem dL_law_317 : decode cL_law 317 = .ok (.goto 1243, 3) := by decide +kernel
theorem dL_law_320 : decode cL_law 320 = .ok (.aload_n 1, 1) := by decide +kernel
theorem dL_law_321 : decode cL_law 321 = .ok (.aload_n 0, 1) := by decide +kernel
theorem dL_law_322 : decode cL_law 322 = .ok (.iload 4, 2) := by decide +kernel
theorem dL_law_324 : decode cL_law 324 = .ok (.iconst 1, 1) := by decide +kernel
theorem dL_law_325 : decode cL_law 325 = .ok (.iadd, 1) := by decide +kernel
theorem dL_law_326 : decode cL_law 326 = .ok (.iaload, 1) := by decide +kernel
theorem dL_law_327 : decode cL_law 327 = .ok (.aload_n 0, 1) := by decide +kernel
theorem dL_law_328 : decode cL_law 328 = .ok (.iload 4, 2) := by decide +kernel
theorem dL_law_330 : decode cL_law 330 = .ok (.iconst 2, 1) := by decide +kernel
theorem dL_law_331 : decode cL_law 331 = .ok (.iadd, 1) := by decide +kernel
theorem dL_law_332 : decode cL_law 332 = .ok (.iaload, 1) := by decide +kernel
theorem dL_law_333 : decode cL_law 333 = .ok (.aload_n 0, 1) := by decide +kernel
theorem dL_law_334 : decode cL_law 334 = .ok (.iload 4, 2) := by decide +kernel
theorem dL_law_336 : decode cL_law 336 = .ok (.iconst 3, 1) := by decide +kernel
theorem dL_law_337 : decode cL_law 337 = .ok (.iadd, 1) := by decide +kernel
theorem dL_law_338 : decode cL_law 338 = .ok (.iaload, 1) := by decide +kernel
theorem dL_law_339 : decode cL_law 339 = .ok (.aload_n 3, 1) := by decide +kernel
theorem dL_law_340 : decode cL_law 340 = .ok (.invokestatic 94, 3) := by decide +kernel
theorem dL_law_343 : decode cL_law 343 = .ok (.istore 5, 2) := by decide +kernel
theorem dL_law_345 : decode cL_law 345 = .ok (.aload_n 2, 1) := by decide +kernel
theorem dL_law_346 : decode cL_law 346 = .ok (.aload_n 0, 1) := by decide +kernel
theorem dL_law_347 : decode cL_law 347 = .ok (.iload 4, 2) := by decide +kernel
theorem dL_law_349 : decode cL_law 349 = .ok (.iconst 1, 1) := by decide +kernel
theorem dL_law_350 : decode cL_law 350 = .ok (.iadd, 1) := by decide +kernel
theorem dL_law_351 : decode cL_law 351 = .ok (.iaload, 1) := by decide +kernel
theorem dL_law_352 : decode cL_law 352 = .ok (.aload_n 0, 1) := by decide +kernel
theorem dL_law_353 : decode cL_law 353 = .ok (.iload 4, 2) := by decide +kernel
theorem dL_law_355 : decode cL_law 355 = .ok (.iconst 2, 1) := by decide +kernel
theorem dL_law_356 : decode cL_law 356 = .ok (.iadd, 1) := by decide +kernel
theorem dL_law_357 : decode cL_law 357 = .ok (.iaload, 1) := by decide +kernel
theorem dL_law_358 : decode cL_law 358 = .ok (.aload_n 0, 1) := by decide +kernel
theorem dL_law_359 : decode cL_law 359 = .ok (.iload 4, 2) := by decide +kernel
theorem dL_law_361 : decode cL_law 361 = .ok (.iconst 3, 1) := by decide +kernel
theorem dL_law_362 : decode cL_law 362 = .ok (.iadd, 1) := by decide +kernel
theorem dL_law_363 : decode cL_law 363 = .ok (.iaload, 1) := by decide +kernel
theorem dL_law_364 : decode cL_law 364 = .ok (.invokevirtual 97, 3) := by decide +kernel
theorem dL_law_367 : decode cL_law 367 = .ok (.istore 6, 2) := by decide +kernel
theorem dL_law_369 : decode cL_law 369 = .ok (.aload_n 2, 1) := by decide +kernel
theorem dL_law_370 : decode cL_law 370 = .ok (.invokevirtual 87, 3) := by decide +kernel
theorem dL_law_373 : decode cL_law 373 = .ok (.iload 5, 2) := by decide +kernel
theorem dL_law_375 : decode cL_law 375 = .ok (.if_icmp .eq 5, 3) := by decide +kernel
theorem dL_law_378 : decode cL_law 378 = .ok (.iconst 0, 1) := by decide +kernel
theorem dL_law_379 : decode cL_law 379 = .ok (.ireturn, 1) := by decide +kernel
theorem dL_law_380 : decode cL_law 380 = .ok (.iload 5, 2) := by decide +kernel
theorem dL_law_382 : decode cL_law 382 = .ok (.ifCond .ne 15, 3) := by decide +kernel
theorem dL_law_385 : decode cL_law 385 = .ok (.aload_n 3, 1) := by decide +kernel
theorem dL_law_386 : decode cL_law 386 = .ok (.iconst 0, 1) := by decide +kernel
theorem dL_law_387 : decode cL_law 387 = .ok (.laload, 1) := by decide +kernel
theorem dL_law_388 : decode cL_law 388 = .ok (.iload 6, 2) := by decide +kernel
theorem dL_law_390 : decode cL_law 390 = .ok (.i2l, 1) := by decide +kernel
theorem dL_law_391 : decode cL_law 391 = .ok (.lcmp, 1) := by decide +kernel
theorem dL_law_392 : decode cL_law 392 = .ok (.ifCond .eq 5, 3) := by decide +kernel
theorem dL_law_395 : decode cL_law 395 = .ok (.iconst 0, 1) := by decide +kernel
theorem dL_law_396 : decode cL_law 396 = .ok (.ireturn, 1) := by decide +kernel
theorem dL_law_397 : decode cL_law 397 = .ok (.goto 1163, 3) := by decide +kernel
theorem dL_law_400 : decode cL_law 400 = .ok (.aload_n 1, 1) := by decide +kernel
theorem dL_law_401 : decode cL_law 401 = .ok (.aload_n 0, 1) := by decide +kernel
theorem dL_law_402 : decode cL_law 402 = .ok (.iload 4, 2) := by decide +kernel
theorem dL_law_404 : decode cL_law 404 = .ok (.iconst 1, 1) := by decide +kernel
theorem dL_law_405 : decode cL_law 405 = .ok (.iadd, 1) := by decide +kernel
theorem dL_law_406 : decode cL_law 406 = .ok (.iaload, 1) := by decide +kernel
theorem dL_law_407 : decode cL_law 407 = .ok (.aload_n 0, 1) := by decide +kernel
theorem dL_law_408 : decode cL_law 408 = .ok (.iload 4, 2) := by decide +kernel
theorem dL_law_410 : decode cL_law 410 = .ok (.iconst 2, 1) := by decide +kernel
theorem dL_law_411 : decode cL_law 411 = .ok (.iadd, 1) := by decide +kernel
theorem dL_law_412 : decode cL_law 412 = .ok (.iaload, 1) := by decide +kernel
theorem dL_law_413 : decode cL_law 413 = .ok (.aload_n 0, 1) := by decide +kernel
theorem dL_law_414 : decode cL_law 414 = .ok (.iload 4, 2) := by decide +kernel
theorem dL_law_416 : decode cL_law 416 = .ok (.iconst 3, 1) := by decide +kernel
theorem dL_law_417 : decode cL_law 417 = .ok (.iadd, 1) := by decide +kernel
theorem dL_law_418 : decode cL_law 418 = .ok (.iaload, 1) := by decide +kernel
theorem dL_law_419 : decode cL_law 419 = .ok (.aload_n 0, 1) := by decide +kernel
theorem dL_law_420 : decode cL_law 420 = .ok (.iload 4, 2) := by decide +kernel
theorem dL_law_422 : decode cL_law 422 = .ok (.iconst 4, 1) := by decide +kernel
theorem dL_law_423 : decode cL_law 423 = .ok (.iadd, 1) := by decide +kernel
theorem dL_law_424 : decode cL_law 424 = .ok (.iaload, 1) := by decide +kernel
theorem dL_law_425 : decode cL_law 425 = .ok (.aload_n 0, 1) := by decide +kernel
theorem dL_law_426 : decode cL_law 426 = .ok (.iload 4, 2) := by decide +kernel
theorem dL_law_428 : decode cL_law 428 = .ok (.iconst 5, 1) := by decide +kernel
theorem dL_law_429 : decode cL_law 429 = .ok (.iadd, 1) := by decide +kernel
theorem dL_law_430 : decode cL_law 430 = .ok (.iaload, 1) := by decide +kernel
theorem dL_law_431 : decode cL_law 431 = .ok (.aload_n 3, 1) := by decide +kernel
theorem dL_law_432 : decode cL_law 432 = .ok (.invokestatic 98, 3) := by decide +kernel
theorem dL_law_435 : decode cL_law 435 = .ok (.istore 5, 2) := by decide +kernel
theorem dL_law_437 : decode cL_law 437 = .ok (.aload_n 2, 1) := by decide +kernel
theorem dL_law_438 : decode cL_law 438 = .ok (.aload_n 0, 1) := by decide +kernel
theorem dL_law_439 : decode cL_law 439 = .ok (.iload 4, 2) := by decide +kernel
theorem dL_law_441 : decode cL_law 441 = .ok (.iconst 1, 1) := by decide +kernel
theorem dL_law_442 : decode cL_law 442 = .ok (.iadd, 1) := by decide +kernel
theorem dL_law_443 : decode cL_law 443 = .ok (.iaload, 1) := by decide +kernel
theorem dL_law_444 : decode cL_law 444 = .ok (.aload_n 0, 1) := by decide +kernel
theorem dL_law_445 : decode cL_law 445 = .ok (.iload 4, 2) := by decide +kernel
theorem dL_law_447 : decode cL_law 447 = .ok (.iconst 2, 1) := by decide +kernel
theorem dL_law_448 : decode cL_law 448 = .ok (.iadd, 1) := by decide +kernel
theorem dL_law_449 : decode cL_law 449 = .ok (.iaload, 1) := by decide +kernel
theorem dL_law_450 : decode cL_law 450 = .ok (.aload_n 0, 1) := by decide +kernel
theorem dL_law_451 : decode cL_law 451 = .ok (.iload 4, 2) := by decide +kernel
theorem dL_law_453 : decode cL_law 453 = .ok (.iconst 3, 1) := by decide +kernel
theorem dL_law_454 : decode cL_law 454 = .ok (.iadd, 1) := by decide +kernel
theorem dL_law_455 : decode cL_law 455 = .ok (.iaload, 1) := by decide +kernel
theorem dL_law_456 : decode cL_law 456 = .ok (.aload_n 0, 1) := by decide +kernel
theorem dL_law_457 : decode cL_law 457 = .ok (.iload 4, 2) := by decide +kernel
theorem dL_law_459 : decode cL_law 459 = .ok (.iconst 4, 1) := by decide +kernel
theorem dL_law_460 : decode cL_law 460 = .ok (.iadd, 1) := by decide +kernel
theorem dL_law_461 : decode cL_law 461 = .ok (.iaload, 1) := by decide +kernel
theorem dL_law_462 : decode cL_law 462 = .ok (.aload_n 0, 1) := by decide +kernel
theorem dL_law_463 : decode cL_law 463 = .ok (.iload 4, 2) := by decide +kernel
theorem dL_law_465 : decode cL_law 465 = .ok (.iconst 5, 1) := by decide +kernel
theorem dL_law_466 : decode cL_law 466 = .ok (.iadd, 1) := by decide +kernel
theorem dL_law_467 : decode cL_law 467 = .ok (.iaload, 1) := by decide +kernel
theorem dL_law_468 : decode cL_law 468 = .ok (.invokevirtual 100, 3) := by decide +kernel
theorem dL_law_471 : decode cL_law 471 = .ok (.istore 6, 2) := by decide +kernel
theorem dL_law_473 : decode cL_law 473 = .ok (.aload_n 2, 1) := by decide +kernel
theorem dL_law_474 : decode cL_law 474 = .ok (.invokevirtual 87, 3) := by decide +kernel
theorem dL_law_477 : decode cL_law 477 = .ok (.iload 5, 2) := by decide +kernel
theorem dL_law_479 : decode cL_law 479 = .ok (.if_icmp .eq 5, 3) := by decide +kernel
theorem dL_law_482 : decode cL_law 482 = .ok (.iconst 0, 1) := by decide +kernel
theorem dL_law_483 : decode cL_law 483 = .ok (.ireturn, 1) := by decide +kernel
theorem dL_law_484 : decode cL_law 484 = .ok (.iload 5, 2) := by decide +kernel
theorem dL_law_486 : decode cL_law 486 = .ok (.ifCond .ne 15, 3) := by decide +kernel
theorem dL_law_489 : decode cL_law 489 = .ok (.aload_n 3, 1) := by decide +kernel
theorem dL_law_490 : decode cL_law 490 = .ok (.iconst 0, 1) := by decide +kernel
theorem dL_law_491 : decode cL_law 491 = .ok (.laload, 1) := by decide +kernel
theorem dL_law_492 : decode cL_law 492 = .ok (.iload 6, 2) := by decide +kernel
theorem dL_law_494 : decode cL_law 494 = .ok (.i2l, 1) := by decide +kernel
theorem dL_law_495 : decode cL_law 495 = .ok (.lcmp, 1) := by decide +kernel
theorem dL_law_496 : decode cL_law 496 = .ok (.ifCond .eq 5, 3) := by decide +kernel
theorem dL_law_499 : decode cL_law 499 = .ok (.iconst 0, 1) := by decide +kernel
theorem dL_law_500 : decode cL_law 500 = .ok (.ireturn, 1) := by decide +kernel
theorem dL_law_501 : decode cL_law 501 = .ok (.goto 1059, 3) := by decide +kernel
theorem dL_law_504 : decode cL_law 504 = .ok (.aload_n 1, 1) := by decide +kernel
theorem dL_law_505 : decode cL_law 505 = .ok (.aload_n 0, 1) := by decide +kernel
theorem dL_law_506 : decode cL_law 506 = .ok (.iload 4, 2) := by decide +kernel
theorem dL_law_508 : decode cL_law 508 = .ok (.iconst 1, 1) := by decide +kernel
theorem dL_law_509 : decode cL_law 509 = .ok (.iadd, 1) := by decide +kernel
theorem dL_law_510 : decode cL_law 510 = .ok (.iaload, 1) := by decide +kernel
theorem dL_law_511 : decode cL_law 511 = .ok (.aload_n 0, 1) := by decide +kernel
theorem dL_law_512 : decode cL_law 512 = .ok (.iload 4, 2) := by decide +kernel
theorem dL_law_514 : decode cL_law 514 = .ok (.iconst 2, 1) := by decide +kernel
theorem dL_law_515 : decode cL_law 515 = .ok (.iadd, 1) := by decide +kernel
theorem dL_law_516 : decode cL_law 516 = .ok (.iaload, 1) := by decide +kernel
theorem dL_law_517 : decode cL_law 517 = .ok (.aload_n 3, 1) := by decide +kernel
theorem dL_law_518 : decode cL_law 518 = .ok (.invokestatic 101, 3) := by decide +kernel
theorem dL_law_521 : decode cL_law 521 = .ok (.istore 5, 2) := by decide +kernel
theorem dL_law_523 : decode cL_law 523 = .ok (.aload_n 2, 1) := by decide +kernel
theorem dL_law_524 : decode cL_law 524 = .ok (.aload_n 0, 1) := by decide +kernel
theorem dL_law_525 : decode cL_law 525 = .ok (.iload 4, 2) := by decide +kernel
theorem dL_law_527 : decode cL_law 527 = .ok (.iconst 1, 1) := by decide +kernel
theorem dL_law_528 : decode cL_law 528 = .ok (.iadd, 1) := by decide +kernel
theorem dL_law_529 : decode cL_law 529 = .ok (.iaload, 1) := by decide +kernel
theorem dL_law_530 : decode cL_law 530 = .ok (.aload_n 0, 1) := by decide +kernel
theorem dL_law_531 : decode cL_law 531 = .ok (.iload 4, 2) := by decide +kernel
theorem dL_law_533 : decode cL_law 533 = .ok (.iconst 2, 1) := by decide +kernel
theorem dL_law_534 : decode cL_law 534 = .ok (.iadd, 1) := by decide +kernel
theorem dL_law_535 : decode cL_law 535 = .ok (.iaload, 1) := by decide +kernel
theorem dL_law_536 : decode cL_law 536 = .ok (.invokevirtual 104, 3) := by decide +kernel
theorem dL_law_539 : decode cL_law 539 = .ok (.istore 6, 2) := by decide +kernel
theorem dL_law_541 : decode cL_law 541 = .ok (.aload_n 2, 1) := by decide +kernel
theorem dL_law_542 : decode cL_law 542 = .ok (.invokevirtual 87, 3) := by decide +kernel
theorem dL_law_545 : decode cL_law 545 = .ok (.iload 5, 2) := by decide +kernel
theorem dL_law_547 : decode cL_law 547 = .ok (.if_icmp .eq 5, 3) := by decide +kernel
theorem dL_law_550 : decode cL_law 550 = .ok (.iconst 0, 1) := by decide +kernel
theorem dL_law_551 : decode cL_law 551 = .ok (.ireturn, 1) := by decide +kernel
theorem dL_law_552 : decode cL_law 552 = .ok (.iload 5, 2) := by decide +kernel
theorem dL_law_554 : decode cL_law 554 = .ok (.ifCond .ne 15, 3) := by decide +kernel
theorem dL_law_557 : decode cL_law 557 = .ok (.aload_n 3, 1) := by decide +kernel
theorem dL_law_558 : decode cL_law 558 = .ok (.iconst 0, 1) := by decide +kernel
theorem dL_law_559 : decode cL_law 559 = .ok (.laload, 1) := by decide +kernel
theorem dL_law_560 : decode cL_law 560 = .ok (.iload 6, 2) := by decide +kernel
theorem dL_law_562 : decode cL_law 562 = .ok (.i2l, 1) := by decide +kernel
theorem dL_law_563 : decode cL_law 563 = .ok (.lcmp, 1) := by decide +kernel
theorem dL_law_564 : decode cL_law 564 = .ok (.ifCond .eq 5, 3) := by decide +kernel
theorem dL_law_567 : decode cL_law 567 = .ok (.iconst 0, 1) := by decide +kernel
theorem dL_law_568 : decode cL_law 568 = .ok (.ireturn, 1) := by decide +kernel
theorem dL_law_569 : decode cL_law 569 = .ok (.goto 991, 3) := by decide +kernel
theorem dL_law_572 : decode cL_law 572 = .ok (.aload_n 1, 1) := by decide +kernel
theorem dL_law_573 : decode cL_law 573 = .ok (.aload_n 0, 1) := by decide +kernel
theorem dL_law_574 : decode cL_law 574 = .ok (.iload 4, 2) := by decide +kernel
theorem dL_law_576 : decode cL_law 576 = .ok (.iconst 1, 1) := by decide +kernel
theorem dL_law_577 : decode cL_law 577 = .ok (.iadd, 1) := by decide +kernel
theorem dL_law_578 : decode cL_law 578 = .ok (.iaload, 1) := by decide +kernel
theorem dL_law_579 : decode cL_law 579 = .ok (.aload_n 0, 1) := by decide +kernel
theorem dL_law_580 : decode cL_law 580 = .ok (.iload 4, 2) := by decide +kernel
theorem dL_law_582 : decode cL_law 582 = .ok (.iconst 2, 1) := by decide +kernel
theorem dL_law_583 : decode cL_law 583 = .ok (.iadd, 1) := by decide +kernel
theorem dL_law_584 : decode cL_law 584 = .ok (.iaload, 1) := by decide +kernel
theorem dL_law_585 : decode cL_law 585 = .ok (.aload_n 0, 1) := by decide +kernel
theorem dL_law_586 : decode cL_law 586 = .ok (.iload 4, 2) := by decide +kernel
theorem dL_law_588 : decode cL_law 588 = .ok (.iconst 3, 1) := by decide +kernel
theorem dL_law_589 : decode cL_law 589 = .ok (.iadd, 1) := by decide +kernel
theorem dL_law_590 : decode cL_law 590 = .ok (.iaload, 1) := by decide +kernel
theorem dL_law_591 : decode cL_law 591 = .ok (.aload_n 3, 1) := by decide +kernel
theorem dL_law_592 : decode cL_law 592 = .ok (.invokestatic 105, 3) := by decide +kernel
theorem dL_law_595 : decode cL_law 595 = .ok (.istore 5, 2) := by decide +kernel
theorem dL_law_597 : decode cL_law 597 = .ok (.aload_n 2, 1) := by decide +kernel
theorem dL_law_598 : decode cL_law 598 = .ok (.aload_n 0, 1) := by decide +kernel
theorem dL_law_599 : decode cL_law 599 = .ok (.iload 4, 2) := by decide +kernel
theorem dL_law_601 : decode cL_law 601 = .ok (.iconst 1, 1) := by decide +kernel
theorem dL_law_602 : decode cL_law 602 = .ok (.iadd, 1) := by decide +kernel
theorem dL_law_603 : decode cL_law 603 = .ok (.iaload, 1) := by decide +kernel
theorem dL_law_604 : decode cL_law 604 = .ok (.aload_n 0, 1) := by decide +kernel
theorem dL_law_605 : decode cL_law 605 = .ok (.iload 4, 2) := by decide +kernel
theorem dL_law_607 : decode cL_law 607 = .ok (.iconst 2, 1) := by decide +kernel
theorem dL_law_608 : decode cL_law 608 = .ok (.iadd, 1) := by decide +kernel
theorem dL_law_609 : decode cL_law 609 = .ok (.iaload, 1) := by decide +kernel
theorem dL_law_610 : decode cL_law 610 = .ok (.aload_n 0, 1) := by decide +kernel
theorem dL_law_611 : decode cL_law 611 = .ok (.iload 4, 2) := by decide +kernel
theorem dL_law_613 : decode cL_law 613 = .ok (.iconst 3, 1) := by decide +kernel
theorem dL_law_614 : decode cL_law 614 = .ok (.iadd, 1) := by decide +kernel
theorem dL_law_615 : decode cL_law 615 = .ok (.iaload, 1) := by decide +kernel
theorem dL_law_616 : decode cL_law 616 = .ok (.invokevirtual 107, 3) := by decide +kernel
theorem dL_law_619 : decode cL_law 619 = .ok (.istore 6, 2) := by decide +kernel
theorem dL_law_621 : decode cL_law 621 = .ok (.aload_n 2, 1) := by decide +kernel
theorem dL_law_622 : decode cL_law 622 = .ok (.invokevirtual 87, 3) := by decide +kernel
theorem dL_law_625 : decode cL_law 625 = .ok (.iload 5, 2) := by decide +kernel
theorem dL_law_627 : decode cL_law 627 = .ok (.if_icmp .eq 5, 3) := by decide +kernel
theorem dL_law_630 : decode cL_law 630 = .ok (.iconst 0, 1) := by decide +kernel
theorem dL_law_631 : decode cL_law 631 = .ok (.ireturn, 1) := by decide +kernel
theorem dL_law_632 : decode cL_law 632 = .ok (.iload 5, 2) := by decide +kernel
theorem dL_law_634 : decode cL_law 634 = .ok (.ifCond .ne 15, 3) := by decide +kernel
theorem dL_law_637 : decode cL_law 637 = .ok (.aload_n 3, 1) := by decide +kernel
theorem dL_law_638 : decode cL_law 638 = .ok (.iconst 0, 1) := by decide +kernel
theorem dL_law_639 : decode cL_law 639 = .ok (.laload, 1) := by decide +kernel
theorem dL_law_640 : decode cL_law 640 = .ok (.iload 6, 2) := by decide +kernel
theorem dL_law_642 : decode cL_law 642 = .ok (.i2l, 1) := by decide +kernel
theorem dL_law_643 : decode cL_law 643 = .ok (.lcmp, 1) := by decide +kernel
theorem dL_law_644 : decode cL_law 644 = .ok (.ifCond .eq 5, 3) := by decide +kernel
theorem dL_law_647 : decode cL_law 647 = .ok (.iconst 0, 1) := by decide +kernel
theorem dL_law_648 : decode cL_law 648 = .ok (.ireturn, 1) := by decide +kernel
theorem dL_law_649 : decode cL_law 649 = .ok (.goto 911, 3) := by decide +kernel
theorem dL_law_652 : decode cL_law 652 = .ok (.aload_n 1, 1) := by decide +kernel
theorem dL_law_653 : decode cL_law 653 = .ok (.aload_n 0, 1) := by decide +kernel
theorem dL_law_654 : decode cL_law 654 = .ok (.iload 4, 2) := by decide +kernel
theorem dL_law_656 : decode cL_law 656 = .ok (.iconst 1, 1) := by decide +kernel
theorem dL_law_657 : decode cL_law 657 = .ok (.iadd, 1) := by decide +kernel
theorem dL_law_658 : decode cL_law 658 = .ok (.iaload, 1) := by decide +kernel
theorem dL_law_659 : decode cL_law 659 = .ok (.aload_n 0, 1) := by decide +kernel
theorem dL_law_660 : decode cL_law 660 = .ok (.iload 4, 2) := by decide +kernel
theorem dL_law_662 : decode cL_law 662 = .ok (.iconst 2, 1) := by decide +kernel
theorem dL_law_663 : decode cL_law 663 = .ok (.iadd, 1) := by decide +kernel
theorem dL_law_664 : decode cL_law 664 = .ok (.iaload, 1) := by decide +kernel
theorem dL_law_665 : decode cL_law 665 = .ok (.aload_n 3, 1) := by decide +kernel
theorem dL_law_666 : decode cL_law 666 = .ok (.invokestatic 108, 3) := by decide +kernel
theorem dL_law_669 : decode cL_law 669 = .ok (.istore 5, 2) := by decide +kernel
theorem dL_law_671 : decode cL_law 671 = .ok (.aload_n 2, 1) := by decide +kernel
theorem dL_law_672 : decode cL_law 672 = .ok (.aload_n 0, 1) := by decide +kernel
theorem dL_law_673 : decode cL_law 673 = .ok (.iload 4, 2) := by decide +kernel
theorem dL_law_675 : decode cL_law 675 = .ok (.iconst 1, 1) := by decide +kernel
theorem dL_law_676 : decode cL_law 676 = .ok (.iadd, 1) := by decide +kernel
theorem dL_law_677 : decode cL_law 677 = .ok (.iaload, 1) := by decide +kernel
theorem dL_law_678 : decode cL_law 678 = .ok (.aload_n 0, 1) := by decide +kernel
theorem dL_law_679 : decode cL_law 679 = .ok (.iload 4, 2) := by decide +kernel
theorem dL_law_681 : decode cL_law 681 = .ok (.iconst 2, 1) := by decide +kernel
theorem dL_law_682 : decode cL_law 682 = .ok (.iadd, 1) := by decide +kernel
theorem dL_law_683 : decode cL_law 683 = .ok (.iaload, 1) := by decide +kernel
theorem dL_law_684 : decode cL_law 684 = .ok (.invokevirtual 110, 3) := by decide +kernel
theorem dL_law_687 : decode cL_law 687 = .ok (.istore 6, 2) := by decide +kernel
theorem dL_law_689 : decode cL_law 689 = .ok (.aload_n 2, 1) := by decide +kernel
theorem dL_law_690 : decode cL_law 690 = .ok (.invokevirtual 87, 3) := by decide +kernel
theorem dL_law_693 : decode cL_law 693 = .ok (.iload 5, 2) := by decide +kernel
theorem dL_law_695 : decode cL_law 695 = .ok (.if_icmp .eq 5, 3) := by decide +kernel
theorem dL_law_698 : decode cL_law 698 = .ok (.iconst 0, 1) := by decide +kernel
theorem dL_law_699 : decode cL_law 699 = .ok (.ireturn, 1) := by decide +kernel
theorem dL_law_700 : decode cL_law 700 = .ok (.iload 5, 2) := by decide +kernel
theorem dL_law_702 : decode cL_law 702 = .ok (.ifCond .ne 15, 3) := by decide +kernel
theorem dL_law_705 : decode cL_law 705 = .ok (.aload_n 3, 1) := by decide +kernel
theorem dL_law_706 : decode cL_law 706 = .ok (.iconst 0, 1) := by decide +kernel
theorem dL_law_707 : decode cL_law 707 = .ok (.laload, 1) := by decide +kernel
theorem dL_law_708 : decode cL_law 708 = .ok (.iload 6, 2) := by decide +kernel
theorem dL_law_710 : decode cL_law 710 = .ok (.i2l, 1) := by decide +kernel
theorem dL_law_711 : decode cL_law 711 = .ok (.lcmp, 1) := by decide +kernel
theorem dL_law_712 : decode cL_law 712 = .ok (.ifCond .eq 5, 3) := by decide +kernel
theorem dL_law_715 : decode cL_law 715 = .ok (.iconst 0, 1) := by decide +kernel
theorem dL_law_716 : decode cL_law 716 = .ok (.ireturn, 1) := by decide +kernel
theorem dL_law_717 : decode cL_law 717 = .ok (.goto 843, 3) := by decide +kernel
theorem dL_law_720 : decode cL_law 720 = .ok (.aload_n 1, 1) := by decide +kernel
theorem dL_law_721 : decode cL_law 721 = .ok (.aload_n 0, 1) := by decide +kernel
theorem dL_law_722 : decode cL_law 722 = .ok (.iload 4, 2) := by decide +kernel
theorem dL_law_724 : decode cL_law 724 = .ok (.iconst 1, 1) := by decide +kernel
theorem dL_law_725 : decode cL_law 725 = .ok (.iadd, 1) := by decide +kernel
theorem dL_law_726 : decode cL_law 726 = .ok (.iaload, 1) := by decide +kernel
theorem dL_law_727 : decode cL_law 727 = .ok (.aload_n 0, 1) := by decide +kernel
theorem dL_law_728 : decode cL_law 728 = .ok (.iload 4, 2) := by decide +kernel
theorem dL_law_730 : decode cL_law 730 = .ok (.iconst 2, 1) := by decide +kernel
theorem dL_law_731 : decode cL_law 731 = .ok (.iadd, 1) := by decide +kernel
theorem dL_law_732 : decode cL_law 732 = .ok (.iaload, 1) := by decide +kernel
theorem dL_law_733 : decode cL_law 733 = .ok (.aload_n 3, 1) := by decide +kernel
theorem dL_law_734 : decode cL_law 734 = .ok (.invokestatic 111, 3) := by decide +kernel
theorem dL_law_737 : decode cL_law 737 = .ok (.istore 5, 2) := by decide +kernel
theorem dL_law_739 : decode cL_law 739 = .ok (.aload_n 2, 1) := by decide +kernel
theorem dL_law_740 : decode cL_law 740 = .ok (.aload_n 0, 1) := by decide +kernel
theorem dL_law_741 : decode cL_law 741 = .ok (.iload 4, 2) := by decide +kernel
theorem dL_law_743 : decode cL_law 743 = .ok (.iconst 1, 1) := by decide +kernel
theorem dL_law_744 : decode cL_law 744 = .ok (.iadd, 1) := by decide +kernel
theorem dL_law_745 : decode cL_law 745 = .ok (.iaload, 1) := by decide +kernel
theorem dL_law_746 : decode cL_law 746 = .ok (.aload_n 0, 1) := by decide +kernel
theorem dL_law_747 : decode cL_law 747 = .ok (.iload 4, 2) := by decide +kernel
theorem dL_law_749 : decode cL_law 749 = .ok (.iconst 2, 1) := by decide +kernel
theorem dL_law_750 : decode cL_law 750 = .ok (.iadd, 1) := by decide +kernel
theorem dL_law_751 : decode cL_law 751 = .ok (.iaload, 1) := by decide +kernel
theorem dL_law_752 : decode cL_law 752 = .ok (.invokevirtual 113, 3) := by decide +kernel
theorem dL_law_755 : decode cL_law 755 = .ok (.istore 6, 2) := by decide +kernel
theorem dL_law_757 : decode cL_law 757 = .ok (.aload_n 2, 1) := by decide +kernel
theorem dL_law_758 : decode cL_law 758 = .ok (.invokevirtual 87, 3) := by decide +kernel
theorem dL_law_761 : decode cL_law 761 = .ok (.iload 5, 2) := by decide +kernel
theorem dL_law_763 : decode cL_law 763 = .ok (.if_icmp .eq 5, 3) := by decide +kernel
theorem dL_law_766 : decode cL_law 766 = .ok (.iconst 0, 1) := by decide +kernel
theorem dL_law_767 : decode cL_law 767 = .ok (.ireturn, 1) := by decide +kernel
theorem dL_law_768 : decode cL_law 768 = .ok (.iload 5, 2) := by decide +kernel
theorem dL_law_770 : decode cL_law 770 = .ok (.ifCond .ne 15, 3) := by decide +kernel
theorem dL_law_773 : decode cL_law 773 = .ok (.aload_n 3, 1) := by decide +kernel
theorem dL_law_774 : decode cL_law 774 = .ok (.iconst 0, 1) := by decide +kernel
theorem dL_law_775 : decode cL_law 775 = .ok (.laload, 1) := by decide +kernel
theorem dL_law_776 : decode cL_law 776 = .ok (.iload 6, 2) := by decide +kernel
theorem dL_law_778 : decode cL_law 778 = .ok (.i2l, 1) := by decide +kernel
theorem dL_law_779 : decode cL_law 779 = .ok (.lcmp, 1) := by decide +kernel
theorem dL_law_780 : decode cL_law 780 = .ok (.ifCond .eq 5, 3) := by decide +kernel
theorem dL_law_783 : decode cL_law 783 = .ok (.iconst 0, 1) := by decide +kernel
theorem dL_law_784 : decode cL_law 784 = .ok (.ireturn, 1) := by decide +kernel
theorem dL_law_785 : decode cL_law 785 = .ok (.goto 775, 3) := by decide +kernel
theorem dL_law_788 : decode cL_law 788 = .ok (.aload_n 1, 1) := by decide +kernel
theorem dL_law_789 : decode cL_law 789 = .ok (.aload_n 0, 1) := by decide +kernel
theorem dL_law_790 : decode cL_law 790 = .ok (.iload 4, 2) := by decide +kernel
theorem dL_law_792 : decode cL_law 792 = .ok (.iconst 1, 1) := by decide +kernel
theorem dL_law_793 : decode cL_law 793 = .ok (.iadd, 1) := by decide +kernel
theorem dL_law_794 : decode cL_law 794 = .ok (.iaload, 1) := by decide +kernel
theorem dL_law_795 : decode cL_law 795 = .ok (.aload_n 3, 1) := by decide +kernel
theorem dL_law_796 : decode cL_law 796 = .ok (.invokestatic 114, 3) := by decide +kernel
theorem dL_law_799 : decode cL_law 799 = .ok (.istore 5, 2) := by decide +kernel
theorem dL_law_801 : decode cL_law 801 = .ok (.aload_n 2, 1) := by decide +kernel
theorem dL_law_802 : decode cL_law 802 = .ok (.aload_n 0, 1) := by decide +kernel
theorem dL_law_803 : decode cL_law 803 = .ok (.iload 4, 2) := by decide +kernel
theorem dL_law_805 : decode cL_law 805 = .ok (.iconst 1, 1) := by decide +kernel
theorem dL_law_806 : decode cL_law 806 = .ok (.iadd, 1) := by decide +kernel
theorem dL_law_807 : decode cL_law 807 = .ok (.iaload, 1) := by decide +kernel
theorem dL_law_808 : decode cL_law 808 = .ok (.invokevirtual 116, 3) := by decide +kernel
theorem dL_law_811 : decode cL_law 811 = .ok (.istore 6, 2) := by decide +kernel
theorem dL_law_813 : decode cL_law 813 = .ok (.aload_n 2, 1) := by decide +kernel
theorem dL_law_814 : decode cL_law 814 = .ok (.invokevirtual 87, 3) := by decide +kernel
theorem dL_law_817 : decode cL_law 817 = .ok (.iload 5, 2) := by decide +kernel
theorem dL_law_819 : decode cL_law 819 = .ok (.if_icmp .eq 5, 3) := by decide +kernel
theorem dL_law_822 : decode cL_law 822 = .ok (.iconst 0, 1) := by decide +kernel
theorem dL_law_823 : decode cL_law 823 = .ok (.ireturn, 1) := by decide +kernel
theorem dL_law_824 : decode cL_law 824 = .ok (.iload 5, 2) := by decide +kernel
theorem dL_law_826 : decode cL_law 826 = .ok (.ifCond .ne 15, 3) := by decide +kernel
theorem dL_law_829 : decode cL_law 829 = .ok (.aload_n 3, 1) := by decide +kernel
theorem dL_law_830 : decode cL_law 830 = .ok (.iconst 0, 1) := by decide +kernel
theorem dL_law_831 : decode cL_law 831 = .ok (.laload, 1) := by decide +kernel
theorem dL_law_832 : decode cL_law 832 = .ok (.iload 6, 2) := by decide +kernel
theorem dL_law_834 : decode cL_law 834 = .ok (.i2l, 1) := by decide +kernel
theorem dL_law_835 : decode cL_law 835 = .ok (.lcmp, 1) := by decide +kernel
theorem dL_law_836 : decode cL_law 836 = .ok (.ifCond .eq 5, 3) := by decide +kernel
theorem dL_law_839 : decode cL_law 839 = .ok (.iconst 0, 1) := by decide +kernel
theorem dL_law_840 : decode cL_law 840 = .ok (.ireturn, 1) := by decide +kernel
theorem dL_law_841 : decode cL_law 841 = .ok (.goto 719, 3) := by decide +kernel
theorem dL_law_844 : decode cL_law 844 = .ok (.aload_n 1, 1) := by decide +kernel
theorem dL_law_845 : decode cL_law 845 = .ok (.aload_n 0, 1) := by decide +kernel
theorem dL_law_846 : decode cL_law 846 = .ok (.iload 4, 2) := by decide +kernel
theorem dL_law_848 : decode cL_law 848 = .ok (.iconst 1, 1) := by decide +kernel
theorem dL_law_849 : decode cL_law 849 = .ok (.iadd, 1) := by decide +kernel
theorem dL_law_850 : decode cL_law 850 = .ok (.iaload, 1) := by decide +kernel
theorem dL_law_851 : decode cL_law 851 = .ok (.aload_n 0, 1) := by decide +kernel
theorem dL_law_852 : decode cL_law 852 = .ok (.iload 4, 2) := by decide +kernel
theorem dL_law_854 : decode cL_law 854 = .ok (.iconst 2, 1) := by decide +kernel
theorem dL_law_855 : decode cL_law 855 = .ok (.iadd, 1) := by decide +kernel
theorem dL_law_856 : decode cL_law 856 = .ok (.iaload, 1) := by decide +kernel
theorem dL_law_857 : decode cL_law 857 = .ok (.aload_n 3, 1) := by decide +kernel
theorem dL_law_858 : decode cL_law 858 = .ok (.invokestatic 117, 3) := by decide +kernel
theorem dL_law_861 : decode cL_law 861 = .ok (.istore 5, 2) := by decide +kernel
theorem dL_law_863 : decode cL_law 863 = .ok (.aload_n 2, 1) := by decide +kernel
theorem dL_law_864 : decode cL_law 864 = .ok (.aload_n 0, 1) := by decide +kernel
theorem dL_law_865 : decode cL_law 865 = .ok (.iload 4, 2) := by decide +kernel
theorem dL_law_867 : decode cL_law 867 = .ok (.iconst 1, 1) := by decide +kernel
theorem dL_law_868 : decode cL_law 868 = .ok (.iadd, 1) := by decide +kernel
theorem dL_law_869 : decode cL_law 869 = .ok (.iaload, 1) := by decide +kernel
theorem dL_law_870 : decode cL_law 870 = .ok (.aload_n 0, 1) := by decide +kernel
theorem dL_law_871 : decode cL_law 871 = .ok (.iload 4, 2) := by decide +kernel
theorem dL_law_873 : decode cL_law 873 = .ok (.iconst 2, 1) := by decide +kernel
theorem dL_law_874 : decode cL_law 874 = .ok (.iadd, 1) := by decide +kernel
theorem dL_law_875 : decode cL_law 875 = .ok (.iaload, 1) := by decide +kernel
theorem dL_law_876 : decode cL_law 876 = .ok (.invokevirtual 119, 3) := by decide +kernel
theorem dL_law_879 : decode cL_law 879 = .ok (.istore 6, 2) := by decide +kernel
theorem dL_law_881 : decode cL_law 881 = .ok (.aload_n 2, 1) := by decide +kernel
theorem dL_law_882 : decode cL_law 882 = .ok (.invokevirtual 87, 3) := by decide +kernel
theorem dL_law_885 : decode cL_law 885 = .ok (.iload 5, 2) := by decide +kernel
theorem dL_law_887 : decode cL_law 887 = .ok (.if_icmp .eq 5, 3) := by decide +kernel
theorem dL_law_890 : decode cL_law 890 = .ok (.iconst 0, 1) := by decide +kernel
theorem dL_law_891 : decode cL_law 891 = .ok (.ireturn, 1) := by decide +kernel
theorem dL_law_892 : decode cL_law 892 = .ok (.iload 5, 2) := by decide +kernel
theorem dL_law_894 : decode cL_law 894 = .ok (.ifCond .ne 15, 3) := by decide +kernel
theorem dL_law_897 : decode cL_law 897 = .ok (.aload_n 3, 1) := by decide +kernel
theorem dL_law_898 : decode cL_law 898 = .ok (.iconst 0, 1) := by decide +kernel
theorem dL_law_899 : decode cL_law 899 = .ok (.laload, 1) := by decide +kernel
theorem dL_law_900 : decode cL_law 900 = .ok (.iload 6, 2) := by decide +kernel
theorem dL_law_902 : decode cL_law 902 = .ok (.i2l, 1) := by decide +kernel
theorem dL_law_903 : decode cL_law 903 = .ok (.lcmp, 1) := by decide +kernel
theorem dL_law_904 : decode cL_law 904 = .ok (.ifCond .eq 5, 3) := by decide +kernel
theorem dL_law_907 : decode cL_law 907 = .ok (.iconst 0, 1) := by decide +kernel
theorem dL_law_908 : decode cL_law 908 = .ok (.ireturn, 1) := by decide +kernel
theorem dL_law_909 : decode cL_law 909 = .ok (.goto 651, 3) := by decide +kernel
theorem dL_law_912 : decode cL_law 912 = .ok (.aload_n 1, 1) := by decide +kernel
theorem dL_law_913 : decode cL_law 913 = .ok (.aload_n 0, 1) := by decide +kernel
theorem dL_law_914 : decode cL_law 914 = .ok (.iload 4, 2) := by decide +kernel
theorem dL_law_916 : decode cL_law 916 = .ok (.iconst 1, 1) := by decide +kernel
theorem dL_law_917 : decode cL_law 917 = .ok (.iadd, 1) := by decide +kernel
theorem dL_law_918 : decode cL_law 918 = .ok (.iaload, 1) := by decide +kernel
theorem dL_law_919 : decode cL_law 919 = .ok (.aload_n 0, 1) := by decide +kernel
theorem dL_law_920 : decode cL_law 920 = .ok (.iload 4, 2) := by decide +kernel
theorem dL_law_922 : decode cL_law 922 = .ok (.iconst 2, 1) := by decide +kernel
theorem dL_law_923 : decode cL_law 923 = .ok (.iadd, 1) := by decide +kernel
theorem dL_law_924 : decode cL_law 924 = .ok (.iaload, 1) := by decide +kernel
theorem dL_law_925 : decode cL_law 925 = .ok (.aload_n 3, 1) := by decide +kernel
theorem dL_law_926 : decode cL_law 926 = .ok (.invokestatic 120, 3) := by decide +kernel
theorem dL_law_929 : decode cL_law 929 = .ok (.istore 5, 2) := by decide +kernel
theorem dL_law_931 : decode cL_law 931 = .ok (.aload_n 2, 1) := by decide +kernel
theorem dL_law_932 : decode cL_law 932 = .ok (.aload_n 0, 1) := by decide +kernel
theorem dL_law_933 : decode cL_law 933 = .ok (.iload 4, 2) := by decide +kernel
theorem dL_law_935 : decode cL_law 935 = .ok (.iconst 1, 1) := by decide +kernel
theorem dL_law_936 : decode cL_law 936 = .ok (.iadd, 1) := by decide +kernel
theorem dL_law_937 : decode cL_law 937 = .ok (.iaload, 1) := by decide +kernel
theorem dL_law_938 : decode cL_law 938 = .ok (.aload_n 0, 1) := by decide +kernel
theorem dL_law_939 : decode cL_law 939 = .ok (.iload 4, 2) := by decide +kernel
theorem dL_law_941 : decode cL_law 941 = .ok (.iconst 2, 1) := by decide +kernel
theorem dL_law_942 : decode cL_law 942 = .ok (.iadd, 1) := by decide +kernel
theorem dL_law_943 : decode cL_law 943 = .ok (.iaload, 1) := by decide +kernel
theorem dL_law_944 : decode cL_law 944 = .ok (.invokevirtual 122, 3) := by decide +kernel
theorem dL_law_947 : decode cL_law 947 = .ok (.istore 6, 2) := by decide +kernel
theorem dL_law_949 : decode cL_law 949 = .ok (.aload_n 2, 1) := by decide +kernel
theorem dL_law_950 : decode cL_law 950 = .ok (.invokevirtual 87, 3) := by decide +kernel
theorem dL_law_953 : decode cL_law 953 = .ok (.iload 5, 2) := by decide +kernel
theorem dL_law_955 : decode cL_law 955 = .ok (.if_icmp .eq 5, 3) := by decide +kernel
theorem dL_law_958 : decode cL_law 958 = .ok (.iconst 0, 1) := by decide +kernel
theorem dL_law_959 : decode cL_law 959 = .ok (.ireturn, 1) := by decide +kernel
theorem dL_law_960 : decode cL_law 960 = .ok (.iload 5, 2) := by decide +kernel
theorem dL_law_962 : decode cL_law 962 = .ok (.ifCond .ne 15, 3) := by decide +kernel
theorem dL_law_965 : decode cL_law 965 = .ok (.aload_n 3, 1) := by decide +kernel
theorem dL_law_966 : decode cL_law 966 = .ok (.iconst 0, 1) := by decide +kernel
theorem dL_law_967 : decode cL_law 967 = .ok (.laload, 1) := by decide +kernel
theorem dL_law_968 : decode cL_law 968 = .ok (.iload 6, 2) := by decide +kernel
theorem dL_law_970 : decode cL_law 970 = .ok (.i2l, 1) := by decide +kernel
theorem dL_law_971 : decode cL_law 971 = .ok (.lcmp, 1) := by decide +kernel
theorem dL_law_972 : decode cL_law 972 = .ok (.ifCond .eq 5, 3) := by decide +kernel
theorem dL_law_975 : decode cL_law 975 = .ok (.iconst 0, 1) := by decide +kernel
theorem dL_law_976 : decode cL_law 976 = .ok (.ireturn, 1) := by decide +kernel
theorem dL_law_977 : decode cL_law 977 = .ok (.goto 583, 3) := by decide +kernel
theorem dL_law_980 : decode cL_law 980 = .ok (.aload_n 1, 1) := by decide +kernel
theorem dL_law_981 : decode cL_law 981 = .ok (.invokevirtual 123, 3) := by decide +kernel
theorem dL_law_984 : decode cL_law 984 = .ok (.aload_n 2, 1) := by decide +kernel
theorem dL_law_985 : decode cL_law 985 = .ok (.invokevirtual 126, 3) := by decide +kernel
theorem dL_law_988 : decode cL_law 988 = .ok (.if_icmp .eq 572, 3) := by decide +kernel
theorem dL_law_991 : decode cL_law 991 = .ok (.iconst 0, 1) := by decide +kernel
theorem dL_law_992 : decode cL_law 992 = .ok (.ireturn, 1) := by decide +kernel
theorem dL_law_993 : decode cL_law 993 = .ok (.aload_n 1, 1) := by decide +kernel
theorem dL_law_994 : decode cL_law 994 = .ok (.aload_n 0, 1) := by decide +kernel
theorem dL_law_995 : decode cL_law 995 = .ok (.iload 4, 2) := by decide +kernel
theorem dL_law_997 : decode cL_law 997 = .ok (.iconst 1, 1) := by decide +kernel
theorem dL_law_998 : decode cL_law 998 = .ok (.iadd, 1) := by decide +kernel
theorem dL_law_999 : decode cL_law 999 = .ok (.iaload, 1) := by decide +kernel
theorem dL_law_1000 : decode cL_law 1000 = .ok (.aload_n 0, 1) := by decide +kernel
theorem dL_law_1001 : decode cL_law 1001 = .ok (.iload 4, 2) := by decide +kernel
theorem dL_law_1003 : decode cL_law 1003 = .ok (.iconst 2, 1) := by decide +kernel
theorem dL_law_1004 : decode cL_law 1004 = .ok (.iadd, 1) := by decide +kernel
theorem dL_law_1005 : decode cL_law 1005 = .ok (.iaload, 1) := by decide +kernel
theorem dL_law_1006 : decode cL_law 1006 = .ok (.aload_n 3, 1) := by decide +kernel
theorem dL_law_1007 : decode cL_law 1007 = .ok (.invokestatic 127, 3) := by decide +kernel
theorem dL_law_1010 : decode cL_law 1010 = .ok (.istore 5, 2) := by decide +kernel
theorem dL_law_1012 : decode cL_law 1012 = .ok (.aload_n 2, 1) := by decide +kernel
theorem dL_law_1013 : decode cL_law 1013 = .ok (.aload_n 0, 1) := by decide +kernel
theorem dL_law_1014 : decode cL_law 1014 = .ok (.iload 4, 2) := by decide +kernel
theorem dL_law_1016 : decode cL_law 1016 = .ok (.iconst 1, 1) := by decide +kernel
theorem dL_law_1017 : decode cL_law 1017 = .ok (.iadd, 1) := by decide +kernel
theorem dL_law_1018 : decode cL_law 1018 = .ok (.iaload, 1) := by decide +kernel
theorem dL_law_1019 : decode cL_law 1019 = .ok (.aload_n 0, 1) := by decide +kernel
theorem dL_law_1020 : decode cL_law 1020 = .ok (.iload 4, 2) := by decide +kernel
theorem dL_law_1022 : decode cL_law 1022 = .ok (.iconst 2, 1) := by decide +kernel
theorem dL_law_1023 : decode cL_law 1023 = .ok (.iadd, 1) := by decide +kernel
theorem dL_law_1024 : decode cL_law 1024 = .ok (.iaload, 1) := by decide +kernel
theorem dL_law_1025 : decode cL_law 1025 = .ok (.invokevirtual 129, 3) := by decide +kernel
theorem dL_law_1028 : decode cL_law 1028 = .ok (.istore 6, 2) := by decide +kernel
theorem dL_law_1030 : decode cL_law 1030 = .ok (.aload_n 2, 1) := by decide +kernel
theorem dL_law_1031 : decode cL_law 1031 = .ok (.invokevirtual 87, 3) := by decide +kernel
theorem dL_law_1034 : decode cL_law 1034 = .ok (.iload 5, 2) := by decide +kernel
theorem dL_law_1036 : decode cL_law 1036 = .ok (.if_icmp .eq 5, 3) := by decide +kernel
theorem dL_law_1039 : decode cL_law 1039 = .ok (.iconst 0, 1) := by decide +kernel
theorem dL_law_1040 : decode cL_law 1040 = .ok (.ireturn, 1) := by decide +kernel
theorem dL_law_1041 : decode cL_law 1041 = .ok (.iload 5, 2) := by decide +kernel
theorem dL_law_1043 : decode cL_law 1043 = .ok (.ifCond .ne 15, 3) := by decide +kernel
theorem dL_law_1046 : decode cL_law 1046 = .ok (.aload_n 3, 1) := by decide +kernel
theorem dL_law_1047 : decode cL_law 1047 = .ok (.iconst 0, 1) := by decide +kernel
theorem dL_law_1048 : decode cL_law 1048 = .ok (.laload, 1) := by decide +kernel
theorem dL_law_1049 : decode cL_law 1049 = .ok (.iload 6, 2) := by decide +kernel
theorem dL_law_1051 : decode cL_law 1051 = .ok (.i2l, 1) := by decide +kernel
theorem dL_law_1052 : decode cL_law 1052 = .ok (.lcmp, 1) := by decide +kernel
theorem dL_law_1053 : decode cL_law 1053 = .ok (.ifCond .eq 5, 3) := by decide +kernel
theorem dL_law_1056 : decode cL_law 1056 = .ok (.iconst 0, 1) := by decide +kernel
theorem dL_law_1057 : decode cL_law 1057 = .ok (.ireturn, 1) := by decide +kernel
theorem dL_law_1058 : decode cL_law 1058 = .ok (.goto 502, 3) := by decide +kernel
theorem dL_law_1061 : decode cL_law 1061 = .ok (.aload_n 1, 1) := by decide +kernel
theorem dL_law_1062 : decode cL_law 1062 = .ok (.aload_n 0, 1) := by decide +kernel
theorem dL_law_1063 : decode cL_law 1063 = .ok (.iload 4, 2) := by decide +kernel
theorem dL_law_1065 : decode cL_law 1065 = .ok (.iconst 1, 1) := by decide +kernel
theorem dL_law_1066 : decode cL_law 1066 = .ok (.iadd, 1) := by decide +kernel
theorem dL_law_1067 : decode cL_law 1067 = .ok (.iaload, 1) := by decide +kernel
theorem dL_law_1068 : decode cL_law 1068 = .ok (.aload_n 3, 1) := by decide +kernel
theorem dL_law_1069 : decode cL_law 1069 = .ok (.invokestatic 130, 3) := by decide +kernel
theorem dL_law_1072 : decode cL_law 1072 = .ok (.istore 5, 2) := by decide +kernel
theorem dL_law_1074 : decode cL_law 1074 = .ok (.aload_n 2, 1) := by decide +kernel
theorem dL_law_1075 : decode cL_law 1075 = .ok (.aload_n 0, 1) := by decide +kernel
theorem dL_law_1076 : decode cL_law 1076 = .ok (.iload 4, 2) := by decide +kernel
theorem dL_law_1078 : decode cL_law 1078 = .ok (.iconst 1, 1) := by decide +kernel
theorem dL_law_1079 : decode cL_law 1079 = .ok (.iadd, 1) := by decide +kernel
theorem dL_law_1080 : decode cL_law 1080 = .ok (.iaload, 1) := by decide +kernel
theorem dL_law_1081 : decode cL_law 1081 = .ok (.invokevirtual 132, 3) := by decide +kernel
theorem dL_law_1084 : decode cL_law 1084 = .ok (.istore 6, 2) := by decide +kernel
theorem dL_law_1086 : decode cL_law 1086 = .ok (.aload_n 2, 1) := by decide +kernel
theorem dL_law_1087 : decode cL_law 1087 = .ok (.invokevirtual 87, 3) := by decide +kernel
theorem dL_law_1090 : decode cL_law 1090 = .ok (.iload 5, 2) := by decide +kernel
theorem dL_law_1092 : decode cL_law 1092 = .ok (.if_icmp .eq 5, 3) := by decide +kernel
theorem dL_law_1095 : decode cL_law 1095 = .ok (.iconst 0, 1) := by decide +kernel
theorem dL_law_1096 : decode cL_law 1096 = .ok (.ireturn, 1) := by decide +kernel
theorem dL_law_1097 : decode cL_law 1097 = .ok (.iload 5, 2) := by decide +kernel
theorem dL_law_1099 : decode cL_law 1099 = .ok (.ifCond .ne 15, 3) := by decide +kernel
theorem dL_law_1102 : decode cL_law 1102 = .ok (.aload_n 3, 1) := by decide +kernel
theorem dL_law_1103 : decode cL_law 1103 = .ok (.iconst 0, 1) := by decide +kernel
theorem dL_law_1104 : decode cL_law 1104 = .ok (.laload, 1) := by decide +kernel
theorem dL_law_1105 : decode cL_law 1105 = .ok (.iload 6, 2) := by decide +kernel
theorem dL_law_1107 : decode cL_law 1107 = .ok (.i2l, 1) := by decide +kernel
theorem dL_law_1108 : decode cL_law 1108 = .ok (.lcmp, 1) := by decide +kernel
theorem dL_law_1109 : decode cL_law 1109 = .ok (.ifCond .eq 5, 3) := by decide +kernel
theorem dL_law_1112 : decode cL_law 1112 = .ok (.iconst 0, 1) := by decide +kernel
theorem dL_law_1113 : decode cL_law 1113 = .ok (.ireturn, 1) := by decide +kernel
theorem dL_law_1114 : decode cL_law 1114 = .ok (.goto 446, 3) := by decide +kernel
theorem dL_law_1117 : decode cL_law 1117 = .ok (.aload_n 1, 1) := by decide +kernel
theorem dL_law_1118 : decode cL_law 1118 = .ok (.aload_n 0, 1) := by decide +kernel
theorem dL_law_1119 : decode cL_law 1119 = .ok (.iload 4, 2) := by decide +kernel
theorem dL_law_1121 : decode cL_law 1121 = .ok (.iconst 1, 1) := by decide +kernel
theorem dL_law_1122 : decode cL_law 1122 = .ok (.iadd, 1) := by decide +kernel
theorem dL_law_1123 : decode cL_law 1123 = .ok (.iaload, 1) := by decide +kernel
theorem dL_law_1124 : decode cL_law 1124 = .ok (.aload_n 3, 1) := by decide +kernel
theorem dL_law_1125 : decode cL_law 1125 = .ok (.invokestatic 133, 3) := by decide +kernel
theorem dL_law_1128 : decode cL_law 1128 = .ok (.istore 5, 2) := by decide +kernel
theorem dL_law_1130 : decode cL_law 1130 = .ok (.aload_n 2, 1) := by decide +kernel
theorem dL_law_1131 : decode cL_law 1131 = .ok (.aload_n 0, 1) := by decide +kernel
theorem dL_law_1132 : decode cL_law 1132 = .ok (.iload 4, 2) := by decide +kernel
theorem dL_law_1134 : decode cL_law 1134 = .ok (.iconst 1, 1) := by decide +kernel
theorem dL_law_1135 : decode cL_law 1135 = .ok (.iadd, 1) := by decide +kernel
theorem dL_law_1136 : decode cL_law 1136 = .ok (.iaload, 1) := by decide +kernel
theorem dL_law_1137 : decode cL_law 1137 = .ok (.invokevirtual 135, 3) := by decide +kernel
theorem dL_law_1140 : decode cL_law 1140 = .ok (.istore 6, 2) := by decide +kernel
theorem dL_law_1142 : decode cL_law 1142 = .ok (.aload_n 2, 1) := by decide +kernel
theorem dL_law_1143 : decode cL_law 1143 = .ok (.invokevirtual 87, 3) := by decide +kernel
theorem dL_law_1146 : decode cL_law 1146 = .ok (.iload 5, 2) := by decide +kernel
theorem dL_law_1148 : decode cL_law 1148 = .ok (.if_icmp .eq 5, 3) := by decide +kernel
theorem dL_law_1151 : decode cL_law 1151 = .ok (.iconst 0, 1) := by decide +kernel
theorem dL_law_1152 : decode cL_law 1152 = .ok (.ireturn, 1) := by decide +kernel
theorem dL_law_1153 : decode cL_law 1153 = .ok (.iload 5, 2) := by decide +kernel
theorem dL_law_1155 : decode cL_law 1155 = .ok (.ifCond .ne 15, 3) := by decide +kernel
theorem dL_law_1158 : decode cL_law 1158 = .ok (.aload_n 3, 1) := by decide +kernel
theorem dL_law_1159 : decode cL_law 1159 = .ok (.iconst 0, 1) := by decide +kernel
theorem dL_law_1160 : decode cL_law 1160 = .ok (.laload, 1) := by decide +kernel
theorem dL_law_1161 : decode cL_law 1161 = .ok (.iload 6, 2) := by decide +kernel
theorem dL_law_1163 : decode cL_law 1163 = .ok (.i2l, 1) := by decide +kernel
theorem dL_law_1164 : decode cL_law 1164 = .ok (.lcmp, 1) := by decide +kernel
theorem dL_law_1165 : decode cL_law 1165 = .ok (.ifCond .eq 5, 3) := by decide +kernel
theorem dL_law_1168 : decode cL_law 1168 = .ok (.iconst 0, 1) := by decide +kernel
theorem dL_law_1169 : decode cL_law 1169 = .ok (.ireturn, 1) := by decide +kernel
theorem dL_law_1170 : decode cL_law 1170 = .ok (.goto 390, 3) := by decide +kernel
theorem dL_law_1173 : decode cL_law 1173 = .ok (.aload_n 1, 1) := by decide +kernel
theorem dL_law_1174 : decode cL_law 1174 = .ok (.invokevirtual 136, 3) := by decide +kernel
theorem dL_law_1177 : decode cL_law 1177 = .ok (.aload_n 2, 1) := by decide +kernel
theorem dL_law_1178 : decode cL_law 1178 = .ok (.invokevirtual 139, 3) := by decide +kernel
theorem dL_law_1181 : decode cL_law 1181 = .ok (.if_icmp .eq 379, 3) := by decide +kernel
theorem dL_law_1184 : decode cL_law 1184 = .ok (.iconst 0, 1) := by decide +kernel
theorem dL_law_1185 : decode cL_law 1185 = .ok (.ireturn, 1) := by decide +kernel
theorem dL_law_1186 : decode cL_law 1186 = .ok (.aload_n 1, 1) := by decide +kernel
theorem dL_law_1187 : decode cL_law 1187 = .ok (.invokevirtual 140, 3) := by decide +kernel
theorem dL_law_1190 : decode cL_law 1190 = .ok (.dstore 5, 2) := by decide +kernel
theorem dL_law_1192 : decode cL_law 1192 = .ok (.aload_n 2, 1) := by decide +kernel
theorem dL_law_1193 : decode cL_law 1193 = .ok (.invokevirtual 144, 3) := by decide +kernel
theorem dL_law_1196 : decode cL_law 1196 = .ok (.dstore 7, 2) := by decide +kernel
theorem dL_law_1198 : decode cL_law 1198 = .ok (.dload 5, 2) := by decide +kernel
theorem dL_law_1200 : decode cL_law 1200 = .ok (.dload 7, 2) := by decide +kernel
theorem dL_law_1202 : decode cL_law 1202 = .ok (.dcmp .l, 1) := by decide +kernel
theorem dL_law_1203 : decode cL_law 1203 = .ok (.ifCond .eq 21, 3) := by decide +kernel
theorem dL_law_1206 : decode cL_law 1206 = .ok (.dload 5, 2) := by decide +kernel
theorem dL_law_1208 : decode cL_law 1208 = .ok (.dload 5, 2) := by decide +kernel
theorem dL_law_1210 : decode cL_law 1210 = .ok (.dcmp .l, 1) := by decide +kernel
theorem dL_law_1211 : decode cL_law 1211 = .ok (.ifCond .eq 11, 3) := by decide +kernel
theorem dL_law_1214 : decode cL_law 1214 = .ok (.dload 7, 2) := by decide +kernel
theorem dL_law_1216 : decode cL_law 1216 = .ok (.dload 7, 2) := by decide +kernel
theorem dL_law_1218 : decode cL_law 1218 = .ok (.dcmp .l, 1) := by decide +kernel
theorem dL_law_1219 : decode cL_law 1219 = .ok (.ifCond .ne 5, 3) := by decide +kernel
theorem dL_law_1222 : decode cL_law 1222 = .ok (.iconst 0, 1) := by decide +kernel
theorem dL_law_1223 : decode cL_law 1223 = .ok (.ireturn, 1) := by decide +kernel
theorem dL_law_1224 : decode cL_law 1224 = .ok (.goto 336, 3) := by decide +kernel
theorem dL_law_1227 : decode cL_law 1227 = .ok (.aload_n 1, 1) := by decide +kernel
theorem dL_law_1228 : decode cL_law 1228 = .ok (.aload_n 0, 1) := by decide +kernel
theorem dL_law_1229 : decode cL_law 1229 = .ok (.iload 4, 2) := by decide +kernel
theorem dL_law_1231 : decode cL_law 1231 = .ok (.iconst 1, 1) := by decide +kernel
theorem dL_law_1232 : decode cL_law 1232 = .ok (.iadd, 1) := by decide +kernel
theorem dL_law_1233 : decode cL_law 1233 = .ok (.iaload, 1) := by decide +kernel
theorem dL_law_1234 : decode cL_law 1234 = .ok (.aload_n 0, 1) := by decide +kernel
theorem dL_law_1235 : decode cL_law 1235 = .ok (.iload 4, 2) := by decide +kernel
theorem dL_law_1237 : decode cL_law 1237 = .ok (.iconst 2, 1) := by decide +kernel
theorem dL_law_1238 : decode cL_law 1238 = .ok (.iadd, 1) := by decide +kernel
theorem dL_law_1239 : decode cL_law 1239 = .ok (.iaload, 1) := by decide +kernel
theorem dL_law_1240 : decode cL_law 1240 = .ok (.aload_n 3, 1) := by decide +kernel
theorem dL_law_1241 : decode cL_law 1241 = .ok (.invokestatic 145, 3) := by decide +kernel
theorem dL_law_1244 : decode cL_law 1244 = .ok (.istore 5, 2) := by decide +kernel
theorem dL_law_1246 : decode cL_law 1246 = .ok (.aload_n 2, 1) := by decide +kernel
theorem dL_law_1247 : decode cL_law 1247 = .ok (.aload_n 0, 1) := by decide +kernel
theorem dL_law_1248 : decode cL_law 1248 = .ok (.iload 4, 2) := by decide +kernel
theorem dL_law_1250 : decode cL_law 1250 = .ok (.iconst 1, 1) := by decide +kernel
theorem dL_law_1251 : decode cL_law 1251 = .ok (.iadd, 1) := by decide +kernel
theorem dL_law_1252 : decode cL_law 1252 = .ok (.iaload, 1) := by decide +kernel
theorem dL_law_1253 : decode cL_law 1253 = .ok (.aload_n 0, 1) := by decide +kernel
theorem dL_law_1254 : decode cL_law 1254 = .ok (.iload 4, 2) := by decide +kernel
theorem dL_law_1256 : decode cL_law 1256 = .ok (.iconst 2, 1) := by decide +kernel
theorem dL_law_1257 : decode cL_law 1257 = .ok (.iadd, 1) := by decide +kernel
theorem dL_law_1258 : decode cL_law 1258 = .ok (.iaload, 1) := by decide +kernel
theorem dL_law_1259 : decode cL_law 1259 = .ok (.invokevirtual 147, 3) := by decide +kernel
theorem dL_law_1262 : decode cL_law 1262 = .ok (.istore 6, 2) := by decide +kernel
theorem dL_law_1264 : decode cL_law 1264 = .ok (.aload_n 2, 1) := by decide +kernel
theorem dL_law_1265 : decode cL_law 1265 = .ok (.invokevirtual 87, 3) := by decide +kernel
theorem dL_law_1268 : decode cL_law 1268 = .ok (.iload 5, 2) := by decide +kernel
theorem dL_law_1270 : decode cL_law 1270 = .ok (.if_icmp .eq 5, 3) := by decide +kernel
theorem dL_law_1273 : decode cL_law 1273 = .ok (.iconst 0, 1) := by decide +kernel
theorem dL_law_1274 : decode cL_law 1274 = .ok (.ireturn, 1) := by decide +kernel
theorem dL_law_1275 : decode cL_law 1275 = .ok (.iload 5, 2) := by decide +kernel
theorem dL_law_1277 : decode cL_law 1277 = .ok (.ifCond .ne 15, 3) := by decide +kernel
theorem dL_law_1280 : decode cL_law 1280 = .ok (.aload_n 3, 1) := by decide +kernel
theorem dL_law_1281 : decode cL_law 1281 = .ok (.iconst 0, 1) := by decide +kernel
theorem dL_law_1282 : decode cL_law 1282 = .ok (.laload, 1) := by decide +kernel
theorem dL_law_1283 : decode cL_law 1283 = .ok (.iload 6, 2) := by decide +kernel
theorem dL_law_1285 : decode cL_law 1285 = .ok (.i2l, 1) := by decide +kernel
theorem dL_law_1286 : decode cL_law 1286 = .ok (.lcmp, 1) := by decide +kernel
theorem dL_law_1287 : decode cL_law 1287 = .ok (.ifCond .eq 5, 3) := by decide +kernel
theorem dL_law_1290 : decode cL_law 1290 = .ok (.iconst 0, 1) := by decide +kernel
theorem dL_law_1291 : decode cL_law 1291 = .ok (.ireturn, 1) := by decide +kernel
theorem dL_law_1292 : decode cL_law 1292 = .ok (.goto 268, 3) := by decide +kernel
theorem dL_law_1295 : decode cL_law 1295 = .ok (.aload_n 1, 1) := by decide +kernel
theorem dL_law_1296 : decode cL_law 1296 = .ok (.invokevirtual 148, 3) := by decide +kernel
theorem dL_law_1299 : decode cL_law 1299 = .ok (.aload_n 2, 1) := by decide +kernel
theorem dL_law_1300 : decode cL_law 1300 = .ok (.invokevirtual 151, 3) := by decide +kernel
theorem dL_law_1303 : decode cL_law 1303 = .ok (.if_icmp .eq 257, 3) := by decide +kernel
theorem dL_law_1306 : decode cL_law 1306 = .ok (.iconst 0, 1) := by decide +kernel
theorem dL_law_1307 : decode cL_law 1307 = .ok (.ireturn, 1) := by decide +kernel
theorem dL_law_1308 : decode cL_law 1308 = .ok (.aload_n 1, 1) := by decide +kernel
theorem dL_law_1309 : decode cL_law 1309 = .ok (.aload_n 0, 1) := by decide +kernel
theorem dL_law_1310 : decode cL_law 1310 = .ok (.iload 4, 2) := by decide +kernel
theorem dL_law_1312 : decode cL_law 1312 = .ok (.iconst 1, 1) := by decide +kernel
theorem dL_law_1313 : decode cL_law 1313 = .ok (.iadd, 1) := by decide +kernel
theorem dL_law_1314 : decode cL_law 1314 = .ok (.iaload, 1) := by decide +kernel
theorem dL_law_1315 : decode cL_law 1315 = .ok (.aload_n 3, 1) := by decide +kernel
theorem dL_law_1316 : decode cL_law 1316 = .ok (.invokestatic 152, 3) := by decide +kernel
theorem dL_law_1319 : decode cL_law 1319 = .ok (.istore 5, 2) := by decide +kernel
theorem dL_law_1321 : decode cL_law 1321 = .ok (.aload_n 2, 1) := by decide +kernel
theorem dL_law_1322 : decode cL_law 1322 = .ok (.aload_n 0, 1) := by decide +kernel
theorem dL_law_1323 : decode cL_law 1323 = .ok (.iload 4, 2) := by decide +kernel
theorem dL_law_1325 : decode cL_law 1325 = .ok (.iconst 1, 1) := by decide +kernel
theorem dL_law_1326 : decode cL_law 1326 = .ok (.iadd, 1) := by decide +kernel
theorem dL_law_1327 : decode cL_law 1327 = .ok (.iaload, 1) := by decide +kernel
theorem dL_law_1328 : decode cL_law 1328 = .ok (.invokevirtual 154, 3) := by decide +kernel
theorem dL_law_1331 : decode cL_law 1331 = .ok (.istore 6, 2) := by decide +kernel
theorem dL_law_1333 : decode cL_law 1333 = .ok (.aload_n 2, 1) := by decide +kernel
theorem dL_law_1334 : decode cL_law 1334 = .ok (.invokevirtual 87, 3) := by decide +kernel
theorem dL_law_1337 : decode cL_law 1337 = .ok (.iload 5, 2) := by decide +kernel
theorem dL_law_1339 : decode cL_law 1339 = .ok (.if_icmp .eq 5, 3) := by decide +kernel
theorem dL_law_1342 : decode cL_law 1342 = .ok (.iconst 0, 1) := by decide +kernel
theorem dL_law_1343 : decode cL_law 1343 = .ok (.ireturn, 1) := by decide +kernel
theorem dL_law_1344 : decode cL_law 1344 = .ok (.iload 5, 2) := by decide +kernel
theorem dL_law_1346 : decode cL_law 1346 = .ok (.ifCond .ne 15, 3) := by decide +kernel
theorem dL_law_1349 : decode cL_law 1349 = .ok (.aload_n 3, 1) := by decide +kernel
theorem dL_law_1350 : decode cL_law 1350 = .ok (.iconst 0, 1) := by decide +kernel
theorem dL_law_1351 : decode cL_law 1351 = .ok (.laload, 1) := by decide +kernel
theorem dL_law_1352 : decode cL_law 1352 = .ok (.iload 6, 2) := by decide +kernel
theorem dL_law_1354 : decode cL_law 1354 = .ok (.i2l, 1) := by decide +kernel
theorem dL_law_1355 : decode cL_law 1355 = .ok (.lcmp, 1) := by decide +kernel
theorem dL_law_1356 : decode cL_law 1356 = .ok (.ifCond .eq 5, 3) := by decide +kernel
theorem dL_law_1359 : decode cL_law 1359 = .ok (.iconst 0, 1) := by decide +kernel
theorem dL_law_1360 : decode cL_law 1360 = .ok (.ireturn, 1) := by decide +kernel
theorem dL_law_1361 : decode cL_law 1361 = .ok (.goto 199, 3) := by decide +kernel
theorem dL_law_1364 : decode cL_law 1364 = .ok (.aload_n 1, 1) := by decide +kernel
theorem dL_law_1365 : decode cL_law 1365 = .ok (.aload_n 0, 1) := by decide +kernel
theorem dL_law_1366 : decode cL_law 1366 = .ok (.iload 4, 2) := by decide +kernel
theorem dL_law_1368 : decode cL_law 1368 = .ok (.iconst 1, 1) := by decide +kernel
theorem dL_law_1369 : decode cL_law 1369 = .ok (.iadd, 1) := by decide +kernel
theorem dL_law_1370 : decode cL_law 1370 = .ok (.iaload, 1) := by decide +kernel
theorem dL_law_1371 : decode cL_law 1371 = .ok (.aload_n 3, 1) := by decide +kernel
theorem dL_law_1372 : decode cL_law 1372 = .ok (.invokestatic 155, 3) := by decide +kernel
theorem dL_law_1375 : decode cL_law 1375 = .ok (.istore 5, 2) := by decide +kernel
theorem dL_law_1377 : decode cL_law 1377 = .ok (.aload_n 2, 1) := by decide +kernel
theorem dL_law_1378 : decode cL_law 1378 = .ok (.aload_n 0, 1) := by decide +kernel
theorem dL_law_1379 : decode cL_law 1379 = .ok (.iload 4, 2) := by decide +kernel
theorem dL_law_1381 : decode cL_law 1381 = .ok (.iconst 1, 1) := by decide +kernel
theorem dL_law_1382 : decode cL_law 1382 = .ok (.iadd, 1) := by decide +kernel
theorem dL_law_1383 : decode cL_law 1383 = .ok (.iaload, 1) := by decide +kernel
theorem dL_law_1384 : decode cL_law 1384 = .ok (.invokevirtual 157, 3) := by decide +kernel
theorem dL_law_1387 : decode cL_law 1387 = .ok (.istore 6, 2) := by decide +kernel
theorem dL_law_1389 : decode cL_law 1389 = .ok (.aload_n 2, 1) := by decide +kernel
theorem dL_law_1390 : decode cL_law 1390 = .ok (.invokevirtual 87, 3) := by decide +kernel
theorem dL_law_1393 : decode cL_law 1393 = .ok (.iload 5, 2) := by decide +kernel
theorem dL_law_1395 : decode cL_law 1395 = .ok (.if_icmp .eq 5, 3) := by decide +kernel
theorem dL_law_1398 : decode cL_law 1398 = .ok (.iconst 0, 1) := by decide +kernel
theorem dL_law_1399 : decode cL_law 1399 = .ok (.ireturn, 1) := by decide +kernel
theorem dL_law_1400 : decode cL_law 1400 = .ok (.iload 5, 2) := by decide +kernel
theorem dL_law_1402 : decode cL_law 1402 = .ok (.ifCond .ne 15, 3) := by decide +kernel
theorem dL_law_1405 : decode cL_law 1405 = .ok (.aload_n 3, 1) := by decide +kernel
theorem dL_law_1406 : decode cL_law 1406 = .ok (.iconst 0, 1) := by decide +kernel
theorem dL_law_1407 : decode cL_law 1407 = .ok (.laload, 1) := by decide +kernel
theorem dL_law_1408 : decode cL_law 1408 = .ok (.iload 6, 2) := by decide +kernel
theorem dL_law_1410 : decode cL_law 1410 = .ok (.i2l, 1) := by decide +kernel
theorem dL_law_1411 : decode cL_law 1411 = .ok (.lcmp, 1) := by decide +kernel
theorem dL_law_1412 : decode cL_law 1412 = .ok (.ifCond .eq 5, 3) := by decide +kernel
theorem dL_law_1415 : decode cL_law 1415 = .ok (.iconst 0, 1) := by decide +kernel
theorem dL_law_1416 : decode cL_law 1416 = .ok (.ireturn, 1) := by decide +kernel
theorem dL_law_1417 : decode cL_law 1417 = .ok (.goto 143, 3) := by decide +kernel
theorem dL_law_1420 : decode cL_law 1420 = .ok (.aload_n 1, 1) := by decide +kernel
theorem dL_law_1421 : decode cL_law 1421 = .ok (.aload_n 0, 1) := by decide +kernel
theorem dL_law_1422 : decode cL_law 1422 = .ok (.iload 4, 2) := by decide +kernel
theorem dL_law_1424 : decode cL_law 1424 = .ok (.iconst 1, 1) := by decide +kernel
theorem dL_law_1425 : decode cL_law 1425 = .ok (.iadd, 1) := by decide +kernel
theorem dL_law_1426 : decode cL_law 1426 = .ok (.iaload, 1) := by decide +kernel
theorem dL_law_1427 : decode cL_law 1427 = .ok (.aload_n 3, 1) := by decide +kernel
theorem dL_law_1428 : decode cL_law 1428 = .ok (.invokestatic 158, 3) := by decide +kernel
theorem dL_law_1431 : decode cL_law 1431 = .ok (.istore 5, 2) := by decide +kernel
theorem dL_law_1433 : decode cL_law 1433 = .ok (.aload_n 2, 1) := by decide +kernel
theorem dL_law_1434 : decode cL_law 1434 = .ok (.aload_n 0, 1) := by decide +kernel
theorem dL_law_1435 : decode cL_law 1435 = .ok (.iload 4, 2) := by decide +kernel
theorem dL_law_1437 : decode cL_law 1437 = .ok (.iconst 1, 1) := by decide +kernel
theorem dL_law_1438 : decode cL_law 1438 = .ok (.iadd, 1) := by decide +kernel
theorem dL_law_1439 : decode cL_law 1439 = .ok (.iaload, 1) := by decide +kernel
theorem dL_law_1440 : decode cL_law 1440 = .ok (.invokevirtual 160, 3) := by decide +kernel
theorem dL_law_1443 : decode cL_law 1443 = .ok (.istore 6, 2) := by decide +kernel
theorem dL_law_1445 : decode cL_law 1445 = .ok (.aload_n 2, 1) := by decide +kernel
theorem dL_law_1446 : decode cL_law 1446 = .ok (.invokevirtual 87, 3) := by decide +kernel
theorem dL_law_1449 : decode cL_law 1449 = .ok (.iload 5, 2) := by decide +kernel
theorem dL_law_1451 : decode cL_law 1451 = .ok (.if_icmp .eq 5, 3) := by decide +kernel
theorem dL_law_1454 : decode cL_law 1454 = .ok (.iconst 0, 1) := by decide +kernel
theorem dL_law_1455 : decode cL_law 1455 = .ok (.ireturn, 1) := by decide +kernel
theorem dL_law_1456 : decode cL_law 1456 = .ok (.iload 5, 2) := by decide +kernel
theorem dL_law_1458 : decode cL_law 1458 = .ok (.ifCond .ne 15, 3) := by decide +kernel
theorem dL_law_1461 : decode cL_law 1461 = .ok (.aload_n 3, 1) := by decide +kernel
theorem dL_law_1462 : decode cL_law 1462 = .ok (.iconst 0, 1) := by decide +kernel
theorem dL_law_1463 : decode cL_law 1463 = .ok (.laload, 1) := by decide +kernel
theorem dL_law_1464 : decode cL_law 1464 = .ok (.iload 6, 2) := by decide +kernel
theorem dL_law_1466 : decode cL_law 1466 = .ok (.i2l, 1) := by decide +kernel
theorem dL_law_1467 : decode cL_law 1467 = .ok (.lcmp, 1) := by decide +kernel
theorem dL_law_1468 : decode cL_law 1468 = .ok (.ifCond .eq 5, 3) := by decide +kernel
theorem dL_law_1471 : decode cL_law 1471 = .ok (.iconst 0, 1) := by decide +kernel
theorem dL_law_1472 : decode cL_law 1472 = .ok (.ireturn, 1) := by decide +kernel
theorem dL_law_1473 : decode cL_law 1473 = .ok (.goto 87, 3) := by decide +kernel
theorem dL_law_1476 : decode cL_law 1476 = .ok (.aload_n 1, 1) := by decide +kernel
theorem dL_law_1477 : decode cL_law 1477 = .ok (.invokevirtual 161, 3) := by decide +kernel
theorem dL_law_1480 : decode cL_law 1480 = .ok (.aload_n 2, 1) := by decide +kernel
theorem dL_law_1481 : decode cL_law 1481 = .ok (.invokevirtual 164, 3) := by decide +kernel
theorem dL_law_1484 : decode cL_law 1484 = .ok (.if_icmp .eq 76, 3) := by decide +kernel
theorem dL_law_1487 : decode cL_law 1487 = .ok (.iconst 0, 1) := by decide +kernel
theorem dL_law_1488 : decode cL_law 1488 = .ok (.ireturn, 1) := by decide +kernel
theorem dL_law_1489 : decode cL_law 1489 = .ok (.aload_n 1, 1) := by decide +kernel
theorem dL_law_1490 : decode cL_law 1490 = .ok (.invokevirtual 165, 3) := by decide +kernel
theorem dL_law_1493 : decode cL_law 1493 = .ok (.aload_n 2, 1) := by decide +kernel
theorem dL_law_1494 : decode cL_law 1494 = .ok (.invokevirtual 168, 3) := by decide +kernel
theorem dL_law_1497 : decode cL_law 1497 = .ok (.if_icmp .eq 63, 3) := by decide +kernel
theorem dL_law_1500 : decode cL_law 1500 = .ok (.iconst 0, 1) := by decide +kernel
theorem dL_law_1501 : decode cL_law 1501 = .ok (.ireturn, 1) := by decide +kernel
theorem dL_law_1502 : decode cL_law 1502 = .ok (.aload_n 1, 1) := by decide +kernel
theorem dL_law_1503 : decode cL_law 1503 = .ok (.aload_n 3, 1) := by decide +kernel
theorem dL_law_1504 : decode cL_law 1504 = .ok (.invokestatic 169, 3) := by decide +kernel
theorem dL_law_1507 : decode cL_law 1507 = .ok (.istore 5, 2) := by decide +kernel
theorem dL_law_1509 : decode cL_law 1509 = .ok (.aload_n 2, 1) := by decide +kernel
theorem dL_law_1510 : decode cL_law 1510 = .ok (.invokevirtual 172, 3) := by decide +kernel
theorem dL_law_1513 : decode cL_law 1513 = .ok (.istore 6, 2) := by decide +kernel
theorem dL_law_1515 : decode cL_law 1515 = .ok (.aload_n 2, 1) := by decide +kernel
theorem dL_law_1516 : decode cL_law 1516 = .ok (.invokevirtual 87, 3) := by decide +kernel
theorem dL_law_1519 : decode cL_law 1519 = .ok (.iload 5, 2) := by decide +kernel
theorem dL_law_1521 : decode cL_law 1521 = .ok (.if_icmp .eq 5, 3) := by decide +kernel
theorem dL_law_1524 : decode cL_law 1524 = .ok (.iconst 0, 1) := by decide +kernel
theorem dL_law_1525 : decode cL_law 1525 = .ok (.ireturn, 1) := by decide +kernel
theorem dL_law_1526 : decode cL_law 1526 = .ok (.iload 5, 2) := by decide +kernel
theorem dL_law_1528 : decode cL_law 1528 = .ok (.ifCond .ne 15, 3) := by decide +kernel
theorem dL_law_1531 : decode cL_law 1531 = .ok (.aload_n 3, 1) := by decide +kernel
theorem dL_law_1532 : decode cL_law 1532 = .ok (.iconst 0, 1) := by decide +kernel
theorem dL_law_1533 : decode cL_law 1533 = .ok (.laload, 1) := by decide +kernel
theorem dL_law_1534 : decode cL_law 1534 = .ok (.iload 6, 2) := by decide +kernel
theorem dL_law_1536 : decode cL_law 1536 = .ok (.i2l, 1) := by decide +kernel
theorem dL_law_1537 : decode cL_law 1537 = .ok (.lcmp, 1) := by decide +kernel
theorem dL_law_1538 : decode cL_law 1538 = .ok (.ifCond .eq 5, 3) := by decide +kernel
theorem dL_law_1541 : decode cL_law 1541 = .ok (.iconst 0, 1) := by decide +kernel
theorem dL_law_1542 : decode cL_law 1542 = .ok (.ireturn, 1) := by decide +kernel
theorem dL_law_1543 : decode cL_law 1543 = .ok (.goto 17, 3) := by decide +kernel
theorem dL_law_1546 : decode cL_law 1546 = .ok (.aload_n 1, 1) := by decide +kernel
theorem dL_law_1547 : decode cL_law 1547 = .ok (.invokevirtual 173, 3) := by decide +kernel
theorem dL_law_1550 : decode cL_law 1550 = .ok (.aload_n 2, 1) := by decide +kernel
theorem dL_law_1551 : decode cL_law 1551 = .ok (.invokevirtual 177, 3) := by decide +kernel
theorem dL_law_1554 : decode cL_law 1554 = .ok (.lcmp, 1) := by decide +kernel
theorem dL_law_1555 : decode cL_law 1555 = .ok (.ifCond .eq 5, 3) := by decide +kernel
theorem dL_law_1558 : decode cL_law 1558 = .ok (.iconst 0, 1) := by decide +kernel
theorem dL_law_1559 : decode cL_law 1559 = .ok (.ireturn, 1) := by decide +kernel
theorem dL_law_1560 : decode cL_law 1560 = .ok (.iinc 4 6, 3) := by decide +kernel
theorem dL_law_1563 : decode cL_law 1563 = .ok (.goto (-1540), 3) := by decide +kernel
theorem dL_law_1566 : decode cL_law 1566 = .ok (.iconst 1, 1) := by decide +kernel
theorem dL_law_1567 : decode cL_law 1567 = .ok (.ireturn, 1) := by decide +kernel
