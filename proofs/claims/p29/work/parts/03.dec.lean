theorem dX0_init_0 : decode cX0_init 0 = .ok (.aload_n 0, 1) := by decide +kernel
theorem dX0_init_1 : decode cX0_init 1 = .ok (.invokespecial 3, 3) := by decide +kernel
theorem dX0_init_4 : decode cX0_init 4 = .ok (.return_, 1) := by decide +kernel
theorem dX0_place_0 : decode cX0_place 0 = .ok (.aload_n 2, 1) := by decide +kernel
theorem dX0_place_1 : decode cX0_place 1 = .ok (.getfield 9, 3) := by decide +kernel
theorem dX0_place_4 : decode cX0_place 4 = .ok (.ifCond .gt 8, 3) := by decide +kernel
theorem dX0_place_7 : decode cX0_place 7 = .ok (.aload_n 0, 1) := by decide +kernel
theorem dX0_place_8 : decode cX0_place 8 = .ok (.invokevirtual 15, 3) := by decide +kernel
theorem dX0_place_11 : decode cX0_place 11 = .ok (.return_, 1) := by decide +kernel
theorem dX0_place_12 : decode cX0_place 12 = .ok (.aload_n 0, 1) := by decide +kernel
theorem dX0_place_13 : decode cX0_place 13 = .ok (.aload_n 1, 1) := by decide +kernel
theorem dX0_place_14 : decode cX0_place 14 = .ok (.getfield 20, 3) := by decide +kernel
theorem dX0_place_17 : decode cX0_place 17 = .ok (.iconst 2, 1) := by decide +kernel
theorem dX0_place_18 : decode cX0_place 18 = .ok (.iaload, 1) := by decide +kernel
theorem dX0_place_19 : decode cX0_place 19 = .ok (.aload_n 2, 1) := by decide +kernel
theorem dX0_place_20 : decode cX0_place 20 = .ok (.getfield 26, 3) := by decide +kernel
theorem dX0_place_23 : decode cX0_place 23 = .ok (.imul, 1) := by decide +kernel
theorem dX0_place_24 : decode cX0_place 24 = .ok (.aload_n 1, 1) := by decide +kernel
theorem dX0_place_25 : decode cX0_place 25 = .ok (.getfield 29, 3) := by decide +kernel
theorem dX0_place_28 : decode cX0_place 28 = .ok (.iconst 2, 1) := by decide +kernel
theorem dX0_place_29 : decode cX0_place 29 = .ok (.iaload, 1) := by decide +kernel
theorem dX0_place_30 : decode cX0_place 30 = .ok (.invokestatic 32, 3) := by decide +kernel
theorem dX0_place_33 : decode cX0_place 33 = .ok (.putfield 38, 3) := by decide +kernel
theorem dX0_place_36 : decode cX0_place 36 = .ok (.aload_n 0, 1) := by decide +kernel
theorem dX0_place_37 : decode cX0_place 37 = .ok (.aload_n 1, 1) := by decide +kernel
theorem dX0_place_38 : decode cX0_place 38 = .ok (.getfield 20, 3) := by decide +kernel
theorem dX0_place_41 : decode cX0_place 41 = .ok (.iconst 3, 1) := by decide +kernel
theorem dX0_place_42 : decode cX0_place 42 = .ok (.iaload, 1) := by decide +kernel
theorem dX0_place_43 : decode cX0_place 43 = .ok (.aload_n 2, 1) := by decide +kernel
theorem dX0_place_44 : decode cX0_place 44 = .ok (.getfield 41, 3) := by decide +kernel
theorem dX0_place_47 : decode cX0_place 47 = .ok (.imul, 1) := by decide +kernel
theorem dX0_place_48 : decode cX0_place 48 = .ok (.aload_n 1, 1) := by decide +kernel
theorem dX0_place_49 : decode cX0_place 49 = .ok (.getfield 29, 3) := by decide +kernel
theorem dX0_place_52 : decode cX0_place 52 = .ok (.iconst 3, 1) := by decide +kernel
theorem dX0_place_53 : decode cX0_place 53 = .ok (.iaload, 1) := by decide +kernel
theorem dX0_place_54 : decode cX0_place 54 = .ok (.invokestatic 32, 3) := by decide +kernel
theorem dX0_place_57 : decode cX0_place 57 = .ok (.putfield 44, 3) := by decide +kernel
theorem dX0_place_60 : decode cX0_place 60 = .ok (.iconst 0, 1) := by decide +kernel
theorem dX0_place_61 : decode cX0_place 61 = .ok (.istore 4, 2) := by decide +kernel
theorem dX0_place_63 : decode cX0_place 63 = .ok (.bipush 41, 2) := by decide +kernel
theorem dX0_place_65 : decode cX0_place 65 = .ok (.istore 5, 2) := by decide +kernel
theorem dX0_place_67 : decode cX0_place 67 = .ok (.iconst 0, 1) := by decide +kernel
theorem dX0_place_68 : decode cX0_place 68 = .ok (.istore 6, 2) := by decide +kernel
theorem dX0_place_70 : decode cX0_place 70 = .ok (.iload 6, 2) := by decide +kernel
theorem dX0_place_72 : decode cX0_place 72 = .ok (.iconst 4, 1) := by decide +kernel
theorem dX0_place_73 : decode cX0_place 73 = .ok (.if_icmp .ge 39, 3) := by decide +kernel
theorem dX0_place_76 : decode cX0_place 76 = .ok (.aload_n 0, 1) := by decide +kernel
theorem dX0_place_77 : decode cX0_place 77 = .ok (.aload_n 1, 1) := by decide +kernel
theorem dX0_place_78 : decode cX0_place 78 = .ok (.iload 6, 2) := by decide +kernel
theorem dX0_place_80 : decode cX0_place 80 = .ok (.invokevirtual 47, 3) := by decide +kernel
theorem dX0_place_83 : decode cX0_place 83 = .ok (.aload_n 0, 1) := by decide +kernel
theorem dX0_place_84 : decode cX0_place 84 = .ok (.aload_n 1, 1) := by decide +kernel
theorem dX0_place_85 : decode cX0_place 85 = .ok (.aload_n 3, 1) := by decide +kernel
theorem dX0_place_86 : decode cX0_place 86 = .ok (.invokevirtual 51, 3) := by decide +kernel
theorem dX0_place_89 : decode cX0_place 89 = .ok (.istore 7, 2) := by decide +kernel
theorem dX0_place_91 : decode cX0_place 91 = .ok (.iload 7, 2) := by decide +kernel
theorem dX0_place_93 : decode cX0_place 93 = .ok (.iload 5, 2) := by decide +kernel
theorem dX0_place_95 : decode cX0_place 95 = .ok (.if_icmp .ge 11, 3) := by decide +kernel
theorem dX0_place_98 : decode cX0_place 98 = .ok (.iload 7, 2) := by decide +kernel
theorem dX0_place_100 : decode cX0_place 100 = .ok (.istore 5, 2) := by decide +kernel
theorem dX0_place_102 : decode cX0_place 102 = .ok (.iload 6, 2) := by decide +kernel
theorem dX0_place_104 : decode cX0_place 104 = .ok (.istore 4, 2) := by decide +kernel
theorem dX0_place_106 : decode cX0_place 106 = .ok (.iinc 6 1, 3) := by decide +kernel
theorem dX0_place_109 : decode cX0_place 109 = .ok (.goto (-39), 3) := by decide +kernel
theorem dX0_place_112 : decode cX0_place 112 = .ok (.aload_n 0, 1) := by decide +kernel
theorem dX0_place_113 : decode cX0_place 113 = .ok (.aload_n 1, 1) := by decide +kernel
theorem dX0_place_114 : decode cX0_place 114 = .ok (.iload 4, 2) := by decide +kernel
theorem dX0_place_116 : decode cX0_place 116 = .ok (.invokevirtual 47, 3) := by decide +kernel
theorem dX0_place_119 : decode cX0_place 119 = .ok (.aload_n 0, 1) := by decide +kernel
theorem dX0_place_120 : decode cX0_place 120 = .ok (.iload 5, 2) := by decide +kernel
theorem dX0_place_122 : decode cX0_place 122 = .ok (.putfield 55, 3) := by decide +kernel
theorem dX0_place_125 : decode cX0_place 125 = .ok (.return_, 1) := by decide +kernel
theorem dX0_vanish_0 : decode cX0_vanish 0 = .ok (.aload_n 0, 1) := by decide +kernel
theorem dX0_vanish_1 : decode cX0_vanish 1 = .ok (.iconst (-1), 1) := by decide +kernel
theorem dX0_vanish_2 : decode cX0_vanish 2 = .ok (.putfield 58, 3) := by decide +kernel
theorem dX0_vanish_5 : decode cX0_vanish 5 = .ok (.aload_n 0, 1) := by decide +kernel
theorem dX0_vanish_6 : decode cX0_vanish 6 = .ok (.iconst (-1), 1) := by decide +kernel
theorem dX0_vanish_7 : decode cX0_vanish 7 = .ok (.putfield 61, 3) := by decide +kernel
theorem dX0_vanish_10 : decode cX0_vanish 10 = .ok (.aload_n 0, 1) := by decide +kernel
theorem dX0_vanish_11 : decode cX0_vanish 11 = .ok (.iconst (-1), 1) := by decide +kernel
theorem dX0_vanish_12 : decode cX0_vanish 12 = .ok (.putfield 64, 3) := by decide +kernel
theorem dX0_vanish_15 : decode cX0_vanish 15 = .ok (.aload_n 0, 1) := by decide +kernel
theorem dX0_vanish_16 : decode cX0_vanish 16 = .ok (.iconst (-1), 1) := by decide +kernel
theorem dX0_vanish_17 : decode cX0_vanish 17 = .ok (.putfield 38, 3) := by decide +kernel
theorem dX0_vanish_20 : decode cX0_vanish 20 = .ok (.aload_n 0, 1) := by decide +kernel
theorem dX0_vanish_21 : decode cX0_vanish 21 = .ok (.iconst (-1), 1) := by decide +kernel
theorem dX0_vanish_22 : decode cX0_vanish 22 = .ok (.putfield 44, 3) := by decide +kernel
theorem dX0_vanish_25 : decode cX0_vanish 25 = .ok (.aload_n 0, 1) := by decide +kernel
theorem dX0_vanish_26 : decode cX0_vanish 26 = .ok (.iconst (-1), 1) := by decide +kernel
theorem dX0_vanish_27 : decode cX0_vanish 27 = .ok (.putfield 55, 3) := by decide +kernel
theorem dX0_vanish_30 : decode cX0_vanish 30 = .ok (.return_, 1) := by decide +kernel
theorem dX0_moveTo_0 : decode cX0_moveTo 0 = .ok (.aload_n 0, 1) := by decide +kernel
theorem dX0_moveTo_1 : decode cX0_moveTo 1 = .ok (.iload_n 2, 1) := by decide +kernel
theorem dX0_moveTo_2 : decode cX0_moveTo 2 = .ok (.putfield 58, 3) := by decide +kernel
theorem dX0_moveTo_5 : decode cX0_moveTo 5 = .ok (.iload_n 2, 1) := by decide +kernel
theorem dX0_moveTo_6 : decode cX0_moveTo 6 = .ok (.iconst 1, 1) := by decide +kernel
theorem dX0_moveTo_7 : decode cX0_moveTo 7 = .ok (.if_icmp .eq 8, 3) := by decide +kernel
theorem dX0_moveTo_10 : decode cX0_moveTo 10 = .ok (.iload_n 2, 1) := by decide +kernel
theorem dX0_moveTo_11 : decode cX0_moveTo 11 = .ok (.iconst 3, 1) := by decide +kernel
theorem dX0_moveTo_12 : decode cX0_moveTo 12 = .ok (.if_icmp .ne 7, 3) := by decide +kernel
theorem dX0_moveTo_15 : decode cX0_moveTo 15 = .ok (.iconst 1, 1) := by decide +kernel
theorem dX0_moveTo_16 : decode cX0_moveTo 16 = .ok (.goto 4, 3) := by decide +kernel
theorem dX0_moveTo_19 : decode cX0_moveTo 19 = .ok (.iconst 0, 1) := by decide +kernel
theorem dX0_moveTo_20 : decode cX0_moveTo 20 = .ok (.istore_n 3, 1) := by decide +kernel
theorem dX0_moveTo_21 : decode cX0_moveTo 21 = .ok (.iload_n 2, 1) := by decide +kernel
theorem dX0_moveTo_22 : decode cX0_moveTo 22 = .ok (.iconst 2, 1) := by decide +kernel
theorem dX0_moveTo_23 : decode cX0_moveTo 23 = .ok (.if_icmp .eq 8, 3) := by decide +kernel
theorem dX0_moveTo_26 : decode cX0_moveTo 26 = .ok (.iload_n 2, 1) := by decide +kernel
theorem dX0_moveTo_27 : decode cX0_moveTo 27 = .ok (.iconst 3, 1) := by decide +kernel
theorem dX0_moveTo_28 : decode cX0_moveTo 28 = .ok (.if_icmp .ne 7, 3) := by decide +kernel
theorem dX0_moveTo_31 : decode cX0_moveTo 31 = .ok (.iconst 1, 1) := by decide +kernel
theorem dX0_moveTo_32 : decode cX0_moveTo 32 = .ok (.goto 4, 3) := by decide +kernel
theorem dX0_moveTo_35 : decode cX0_moveTo 35 = .ok (.iconst 0, 1) := by decide +kernel
theorem dX0_moveTo_36 : decode cX0_moveTo 36 = .ok (.istore 4, 2) := by decide +kernel
theorem dX0_moveTo_38 : decode cX0_moveTo 38 = .ok (.aload_n 0, 1) := by decide +kernel
theorem dX0_moveTo_39 : decode cX0_moveTo 39 = .ok (.aload_n 1, 1) := by decide +kernel
theorem dX0_moveTo_40 : decode cX0_moveTo 40 = .ok (.getfield 29, 3) := by decide +kernel
theorem dX0_moveTo_43 : decode cX0_moveTo 43 = .ok (.iconst 0, 1) := by decide +kernel
theorem dX0_moveTo_44 : decode cX0_moveTo 44 = .ok (.iaload, 1) := by decide +kernel
theorem dX0_moveTo_45 : decode cX0_moveTo 45 = .ok (.iload_n 3, 1) := by decide +kernel
theorem dX0_moveTo_46 : decode cX0_moveTo 46 = .ok (.ifCond .eq 17, 3) := by decide +kernel
theorem dX0_moveTo_49 : decode cX0_moveTo 49 = .ok (.aload_n 1, 1) := by decide +kernel
theorem dX0_moveTo_50 : decode cX0_moveTo 50 = .ok (.getfield 29, 3) := by decide +kernel
theorem dX0_moveTo_53 : decode cX0_moveTo 53 = .ok (.iconst 2, 1) := by decide +kernel
theorem dX0_moveTo_54 : decode cX0_moveTo 54 = .ok (.iaload, 1) := by decide +kernel
theorem dX0_moveTo_55 : decode cX0_moveTo 55 = .ok (.aload_n 0, 1) := by decide +kernel
theorem dX0_moveTo_56 : decode cX0_moveTo 56 = .ok (.getfield 38, 3) := by decide +kernel
theorem dX0_moveTo_59 : decode cX0_moveTo 59 = .ok (.isub, 1) := by decide +kernel
theorem dX0_moveTo_60 : decode cX0_moveTo 60 = .ok (.goto 4, 3) := by decide +kernel
theorem dX0_moveTo_63 : decode cX0_moveTo 63 = .ok (.iconst 0, 1) := by decide +kernel
theorem dX0_moveTo_64 : decode cX0_moveTo 64 = .ok (.iadd, 1) := by decide +kernel
theorem dX0_moveTo_65 : decode cX0_moveTo 65 = .ok (.putfield 61, 3) := by decide +kernel
theorem dX0_moveTo_68 : decode cX0_moveTo 68 = .ok (.aload_n 0, 1) := by decide +kernel
theorem dX0_moveTo_69 : decode cX0_moveTo 69 = .ok (.aload_n 1, 1) := by decide +kernel
theorem dX0_moveTo_70 : decode cX0_moveTo 70 = .ok (.getfield 29, 3) := by decide +kernel
theorem dX0_moveTo_73 : decode cX0_moveTo 73 = .ok (.iconst 1, 1) := by decide +kernel
theorem dX0_moveTo_74 : decode cX0_moveTo 74 = .ok (.iaload, 1) := by decide +kernel
theorem dX0_moveTo_75 : decode cX0_moveTo 75 = .ok (.iload 4, 2) := by decide +kernel
theorem dX0_moveTo_77 : decode cX0_moveTo 77 = .ok (.ifCond .eq 17, 3) := by decide +kernel
theorem dX0_moveTo_80 : decode cX0_moveTo 80 = .ok (.aload_n 1, 1) := by decide +kernel
theorem dX0_moveTo_81 : decode cX0_moveTo 81 = .ok (.getfield 29, 3) := by decide +kernel
theorem dX0_moveTo_84 : decode cX0_moveTo 84 = .ok (.iconst 3, 1) := by decide +kernel
theorem dX0_moveTo_85 : decode cX0_moveTo 85 = .ok (.iaload, 1) := by decide +kernel
theorem dX0_moveTo_86 : decode cX0_moveTo 86 = .ok (.aload_n 0, 1) := by decide +kernel
theorem dX0_moveTo_87 : decode cX0_moveTo 87 = .ok (.getfield 44, 3) := by decide +kernel
theorem dX0_moveTo_90 : decode cX0_moveTo 90 = .ok (.isub, 1) := by decide +kernel
theorem dX0_moveTo_91 : decode cX0_moveTo 91 = .ok (.goto 4, 3) := by decide +kernel
theorem dX0_moveTo_94 : decode cX0_moveTo 94 = .ok (.iconst 0, 1) := by decide +kernel
theorem dX0_moveTo_95 : decode cX0_moveTo 95 = .ok (.iadd, 1) := by decide +kernel
theorem dX0_moveTo_96 : decode cX0_moveTo 96 = .ok (.putfield 64, 3) := by decide +kernel
theorem dX0_moveTo_99 : decode cX0_moveTo 99 = .ok (.return_, 1) := by decide +kernel
theorem dX0_countCovered_0 : decode cX0_countCovered 0 = .ok (.iconst 0, 1) := by decide +kernel
theorem dX0_countCovered_1 : decode cX0_countCovered 1 = .ok (.istore_n 3, 1) := by decide +kernel
theorem dX0_countCovered_2 : decode cX0_countCovered 2 = .ok (.iconst 0, 1) := by decide +kernel
theorem dX0_countCovered_3 : decode cX0_countCovered 3 = .ok (.istore 4, 2) := by decide +kernel
theorem dX0_countCovered_5 : decode cX0_countCovered 5 = .ok (.iload 4, 2) := by decide +kernel
theorem dX0_countCovered_7 : decode cX0_countCovered 7 = .ok (.aload_n 1, 1) := by decide +kernel
theorem dX0_countCovered_8 : decode cX0_countCovered 8 = .ok (.getfield 67, 3) := by decide +kernel
theorem dX0_countCovered_11 : decode cX0_countCovered 11 = .ok (.if_icmp .ge 29, 3) := by decide +kernel
theorem dX0_countCovered_14 : decode cX0_countCovered 14 = .ok (.aload_n 2, 1) := by decide +kernel
theorem dX0_countCovered_15 : decode cX0_countCovered 15 = .ok (.iload 4, 2) := by decide +kernel
theorem dX0_countCovered_17 : decode cX0_countCovered 17 = .ok (.baload, 1) := by decide +kernel
theorem dX0_countCovered_18 : decode cX0_countCovered 18 = .ok (.ifCond .eq 16, 3) := by decide +kernel
theorem dX0_countCovered_21 : decode cX0_countCovered 21 = .ok (.aload_n 0, 1) := by decide +kernel
theorem dX0_countCovered_22 : decode cX0_countCovered 22 = .ok (.aload_n 1, 1) := by decide +kernel
theorem dX0_countCovered_23 : decode cX0_countCovered 23 = .ok (.iload 4, 2) := by decide +kernel
theorem dX0_countCovered_25 : decode cX0_countCovered 25 = .ok (.invokevirtual 70, 3) := by decide +kernel
theorem dX0_countCovered_28 : decode cX0_countCovered 28 = .ok (.ifCond .eq 6, 3) := by decide +kernel
theorem dX0_countCovered_31 : decode cX0_countCovered 31 = .ok (.iinc 3 1, 3) := by decide +kernel
theorem dX0_countCovered_34 : decode cX0_countCovered 34 = .ok (.iinc 4 1, 3) := by decide +kernel
theorem dX0_countCovered_37 : decode cX0_countCovered 37 = .ok (.goto (-32), 3) := by decide +kernel
theorem dX0_countCovered_40 : decode cX0_countCovered 40 = .ok (.iload_n 3, 1) := by decide +kernel
theorem dX0_countCovered_41 : decode cX0_countCovered 41 = .ok (.ireturn, 1) := by decide +kernel
theorem dX0_covers_0 : decode cX0_covers 0 = .ok (.aload_n 1, 1) := by decide +kernel
theorem dX0_covers_1 : decode cX0_covers 1 = .ok (.getfield 74, 3) := by decide +kernel
theorem dX0_covers_4 : decode cX0_covers 4 = .ok (.iload_n 2, 1) := by decide +kernel
theorem dX0_covers_5 : decode cX0_covers 5 = .ok (.iaload, 1) := by decide +kernel
theorem dX0_covers_6 : decode cX0_covers 6 = .ok (.aload_n 0, 1) := by decide +kernel
theorem dX0_covers_7 : decode cX0_covers 7 = .ok (.getfield 61, 3) := by decide +kernel
theorem dX0_covers_10 : decode cX0_covers 10 = .ok (.isub, 1) := by decide +kernel
theorem dX0_covers_11 : decode cX0_covers 11 = .ok (.istore_n 3, 1) := by decide +kernel
theorem dX0_covers_12 : decode cX0_covers 12 = .ok (.aload_n 1, 1) := by decide +kernel
theorem dX0_covers_13 : decode cX0_covers 13 = .ok (.getfield 77, 3) := by decide +kernel
theorem dX0_covers_16 : decode cX0_covers 16 = .ok (.iload_n 2, 1) := by decide +kernel
theorem dX0_covers_17 : decode cX0_covers 17 = .ok (.iaload, 1) := by decide +kernel
theorem dX0_covers_18 : decode cX0_covers 18 = .ok (.aload_n 0, 1) := by decide +kernel
theorem dX0_covers_19 : decode cX0_covers 19 = .ok (.getfield 64, 3) := by decide +kernel
theorem dX0_covers_22 : decode cX0_covers 22 = .ok (.isub, 1) := by decide +kernel
theorem dX0_covers_23 : decode cX0_covers 23 = .ok (.istore 4, 2) := by decide +kernel
theorem dX0_covers_25 : decode cX0_covers 25 = .ok (.aload_n 0, 1) := by decide +kernel
theorem dX0_covers_26 : decode cX0_covers 26 = .ok (.getfield 58, 3) := by decide +kernel
theorem dX0_covers_29 : decode cX0_covers 29 = .ok (.iconst (-1), 1) := by decide +kernel
theorem dX0_covers_30 : decode cX0_covers 30 = .ok (.if_icmp .eq 33, 3) := by decide +kernel
theorem dX0_covers_33 : decode cX0_covers 33 = .ok (.iload_n 3, 1) := by decide +kernel
theorem dX0_covers_34 : decode cX0_covers 34 = .ok (.ifCond .lt 29, 3) := by decide +kernel
theorem dX0_covers_37 : decode cX0_covers 37 = .ok (.iload_n 3, 1) := by decide +kernel
theorem dX0_covers_38 : decode cX0_covers 38 = .ok (.aload_n 0, 1) := by decide +kernel
theorem dX0_covers_39 : decode cX0_covers 39 = .ok (.getfield 38, 3) := by decide +kernel
theorem dX0_covers_42 : decode cX0_covers 42 = .ok (.if_icmp .ge 21, 3) := by decide +kernel
theorem dX0_covers_45 : decode cX0_covers 45 = .ok (.iload 4, 2) := by decide +kernel
theorem dX0_covers_47 : decode cX0_covers 47 = .ok (.ifCond .lt 16, 3) := by decide +kernel
theorem dX0_covers_50 : decode cX0_covers 50 = .ok (.iload 4, 2) := by decide +kernel
theorem dX0_covers_52 : decode cX0_covers 52 = .ok (.aload_n 0, 1) := by decide +kernel
theorem dX0_covers_53 : decode cX0_covers 53 = .ok (.getfield 44, 3) := by decide +kernel
theorem dX0_covers_56 : decode cX0_covers 56 = .ok (.if_icmp .ge 7, 3) := by decide +kernel
theorem dX0_covers_59 : decode cX0_covers 59 = .ok (.iconst 1, 1) := by decide +kernel
theorem dX0_covers_60 : decode cX0_covers 60 = .ok (.goto 4, 3) := by decide +kernel
theorem dX0_covers_63 : decode cX0_covers 63 = .ok (.iconst 0, 1) := by decide +kernel
theorem dX0_covers_64 : decode cX0_covers 64 = .ok (.ireturn, 1) := by decide +kernel
theorem dX0_fact_0 : decode cX0_fact 0 = .ok (.iload_n 1, 1) := by decide +kernel
theorem dX0_fact_1 : decode cX0_fact 1 = .ok (.tableswitch 60 0 4 #[35, 40, 45, 50, 55], 35) := by decide +kernel
theorem dX0_fact_36 : decode cX0_fact 36 = .ok (.aload_n 0, 1) := by decide +kernel
theorem dX0_fact_37 : decode cX0_fact 37 = .ok (.getfield 58, 3) := by decide +kernel
theorem dX0_fact_40 : decode cX0_fact 40 = .ok (.ireturn, 1) := by decide +kernel
theorem dX0_fact_41 : decode cX0_fact 41 = .ok (.aload_n 0, 1) := by decide +kernel
theorem dX0_fact_42 : decode cX0_fact 42 = .ok (.getfield 61, 3) := by decide +kernel
theorem dX0_fact_45 : decode cX0_fact 45 = .ok (.ireturn, 1) := by decide +kernel
theorem dX0_fact_46 : decode cX0_fact 46 = .ok (.aload_n 0, 1) := by decide +kernel
theorem dX0_fact_47 : decode cX0_fact 47 = .ok (.getfield 64, 3) := by decide +kernel
theorem dX0_fact_50 : decode cX0_fact 50 = .ok (.ireturn, 1) := by decide +kernel
theorem dX0_fact_51 : decode cX0_fact 51 = .ok (.aload_n 0, 1) := by decide +kernel
theorem dX0_fact_52 : decode cX0_fact 52 = .ok (.getfield 38, 3) := by decide +kernel
theorem dX0_fact_55 : decode cX0_fact 55 = .ok (.ireturn, 1) := by decide +kernel
theorem dX0_fact_56 : decode cX0_fact 56 = .ok (.aload_n 0, 1) := by decide +kernel
theorem dX0_fact_57 : decode cX0_fact 57 = .ok (.getfield 44, 3) := by decide +kernel
theorem dX0_fact_60 : decode cX0_fact 60 = .ok (.ireturn, 1) := by decide +kernel
theorem dX0_fact_61 : decode cX0_fact 61 = .ok (.aload_n 0, 1) := by decide +kernel
theorem dX0_fact_62 : decode cX0_fact 62 = .ok (.getfield 55, 3) := by decide +kernel
theorem dX0_fact_65 : decode cX0_fact 65 = .ok (.ireturn, 1) := by decide +kernel
theorem dX1_init_0 : decode cX1_init 0 = .ok (.aload_n 0, 1) := by decide +kernel
theorem dX1_init_1 : decode cX1_init 1 = .ok (.invokespecial 3, 3) := by decide +kernel
theorem dX1_init_4 : decode cX1_init 4 = .ok (.aload_n 0, 1) := by decide +kernel
theorem dX1_init_5 : decode cX1_init 5 = .ok (.bipush 40, 2) := by decide +kernel
theorem dX1_init_7 : decode cX1_init 7 = .ok (.newarray .boolean, 2) := by decide +kernel
theorem dX1_init_9 : decode cX1_init 9 = .ok (.putfield 9, 3) := by decide +kernel
theorem dX1_init_12 : decode cX1_init 12 = .ok (.aload_n 0, 1) := by decide +kernel
theorem dX1_init_13 : decode cX1_init 13 = .ok (.bipush 40, 2) := by decide +kernel
theorem dX1_init_15 : decode cX1_init 15 = .ok (.newarray .boolean, 2) := by decide +kernel
theorem dX1_init_17 : decode cX1_init 17 = .ok (.putfield 15, 3) := by decide +kernel
theorem dX1_init_20 : decode cX1_init 20 = .ok (.aload_n 0, 1) := by decide +kernel
theorem dX1_init_21 : decode cX1_init 21 = .ok (.new 18, 3) := by decide +kernel
theorem dX1_init_24 : decode cX1_init 24 = .ok (.dup, 1) := by decide +kernel
theorem dX1_init_25 : decode cX1_init 25 = .ok (.invokespecial 20, 3) := by decide +kernel
theorem dX1_init_28 : decode cX1_init 28 = .ok (.putfield 21, 3) := by decide +kernel
theorem dX1_init_31 : decode cX1_init 31 = .ok (.aload_n 0, 1) := by decide +kernel
theorem dX1_init_32 : decode cX1_init 32 = .ok (.new 25, 3) := by decide +kernel
theorem dX1_init_35 : decode cX1_init 35 = .ok (.dup, 1) := by decide +kernel
theorem dX1_init_36 : decode cX1_init 36 = .ok (.invokespecial 27, 3) := by decide +kernel
theorem dX1_init_39 : decode cX1_init 39 = .ok (.putfield 28, 3) := by decide +kernel
theorem dX1_init_42 : decode cX1_init 42 = .ok (.aload_n 0, 1) := by decide +kernel
theorem dX1_init_43 : decode cX1_init 43 = .ok (.new 25, 3) := by decide +kernel
theorem dX1_init_46 : decode cX1_init 46 = .ok (.dup, 1) := by decide +kernel
theorem dX1_init_47 : decode cX1_init 47 = .ok (.invokespecial 27, 3) := by decide +kernel
theorem dX1_init_50 : decode cX1_init 50 = .ok (.putfield 32, 3) := by decide +kernel
theorem dX1_init_53 : decode cX1_init 53 = .ok (.aload_n 0, 1) := by decide +kernel
theorem dX1_init_54 : decode cX1_init 54 = .ok (.new 35, 3) := by decide +kernel
theorem dX1_init_57 : decode cX1_init 57 = .ok (.dup, 1) := by decide +kernel
theorem dX1_init_58 : decode cX1_init 58 = .ok (.invokespecial 37, 3) := by decide +kernel
theorem dX1_init_61 : decode cX1_init 61 = .ok (.putfield 38, 3) := by decide +kernel
theorem dX1_init_64 : decode cX1_init 64 = .ok (.return_, 1) := by decide +kernel
theorem dX1_make_0 : decode cX1_make 0 = .ok (.aload_n 0, 1) := by decide +kernel
theorem dX1_make_1 : decode cX1_make 1 = .ok (.getfield 42, 3) := by decide +kernel
theorem dX1_make_4 : decode cX1_make 4 = .ok (.ifCond .eq 4, 3) := by decide +kernel
theorem dX1_make_7 : decode cX1_make 7 = .ok (.return_, 1) := by decide +kernel
theorem dX1_make_8 : decode cX1_make 8 = .ok (.aload_n 0, 1) := by decide +kernel
theorem dX1_make_9 : decode cX1_make 9 = .ok (.aload_n 1, 1) := by decide +kernel
theorem dX1_make_10 : decode cX1_make 10 = .ok (.invokevirtual 46, 3) := by decide +kernel
theorem dX1_make_13 : decode cX1_make 13 = .ok (.aload_n 0, 1) := by decide +kernel
theorem dX1_make_14 : decode cX1_make 14 = .ok (.iconst 0, 1) := by decide +kernel
theorem dX1_make_15 : decode cX1_make 15 = .ok (.putfield 50, 3) := by decide +kernel
theorem dX1_make_18 : decode cX1_make 18 = .ok (.iconst 1, 1) := by decide +kernel
theorem dX1_make_19 : decode cX1_make 19 = .ok (.istore_n 2, 1) := by decide +kernel
theorem dX1_make_20 : decode cX1_make 20 = .ok (.iload_n 2, 1) := by decide +kernel
theorem dX1_make_21 : decode cX1_make 21 = .ok (.bipush 8, 2) := by decide +kernel
theorem dX1_make_23 : decode cX1_make 23 = .ok (.if_icmp .gt 32, 3) := by decide +kernel
theorem dX1_make_26 : decode cX1_make 26 = .ok (.aload_n 0, 1) := by decide +kernel
theorem dX1_make_27 : decode cX1_make 27 = .ok (.getfield 50, 3) := by decide +kernel
theorem dX1_make_30 : decode cX1_make 30 = .ok (.ifCond .ne 25, 3) := by decide +kernel
theorem dX1_make_33 : decode cX1_make 33 = .ok (.iload_n 2, 1) := by decide +kernel
theorem dX1_make_34 : decode cX1_make 34 = .ok (.iconst 1, 1) := by decide +kernel
theorem dX1_make_35 : decode cX1_make 35 = .ok (.if_icmp .le 8, 3) := by decide +kernel
theorem dX1_make_38 : decode cX1_make 38 = .ok (.aload_n 0, 1) := by decide +kernel
theorem dX1_make_39 : decode cX1_make 39 = .ok (.aload_n 1, 1) := by decide +kernel
theorem dX1_make_40 : decode cX1_make 40 = .ok (.invokevirtual 53, 3) := by decide +kernel
theorem dX1_make_43 : decode cX1_make 43 = .ok (.aload_n 0, 1) := by decide +kernel
theorem dX1_make_44 : decode cX1_make 44 = .ok (.aload_n 1, 1) := by decide +kernel
theorem dX1_make_45 : decode cX1_make 45 = .ok (.iload_n 2, 1) := by decide +kernel
theorem dX1_make_46 : decode cX1_make 46 = .ok (.invokevirtual 56, 3) := by decide +kernel
theorem dX1_make_49 : decode cX1_make 49 = .ok (.iinc 2 1, 3) := by decide +kernel
theorem dX1_make_52 : decode cX1_make 52 = .ok (.goto (-32), 3) := by decide +kernel
theorem dX1_make_55 : decode cX1_make 55 = .ok (.aload_n 0, 1) := by decide +kernel
theorem dX1_make_56 : decode cX1_make 56 = .ok (.iconst 0, 1) := by decide +kernel
theorem dX1_make_57 : decode cX1_make 57 = .ok (.putfield 60, 3) := by decide +kernel
theorem dX1_make_60 : decode cX1_make 60 = .ok (.iconst 0, 1) := by decide +kernel
theorem dX1_make_61 : decode cX1_make 61 = .ok (.istore_n 2, 1) := by decide +kernel
theorem dX1_make_62 : decode cX1_make 62 = .ok (.iload_n 2, 1) := by decide +kernel
theorem dX1_make_63 : decode cX1_make 63 = .ok (.bipush 40, 2) := by decide +kernel
theorem dX1_make_65 : decode cX1_make 65 = .ok (.if_icmp .ge 32, 3) := by decide +kernel
theorem dX1_make_68 : decode cX1_make 68 = .ok (.aload_n 0, 1) := by decide +kernel
theorem dX1_make_69 : decode cX1_make 69 = .ok (.dup, 1) := by decide +kernel
theorem dX1_make_70 : decode cX1_make 70 = .ok (.getfield 60, 3) := by decide +kernel
theorem dX1_make_73 : decode cX1_make 73 = .ok (.aload_n 0, 1) := by decide +kernel
theorem dX1_make_74 : decode cX1_make 74 = .ok (.getfield 15, 3) := by decide +kernel
theorem dX1_make_77 : decode cX1_make 77 = .ok (.iload_n 2, 1) := by decide +kernel
theorem dX1_make_78 : decode cX1_make 78 = .ok (.baload, 1) := by decide +kernel
theorem dX1_make_79 : decode cX1_make 79 = .ok (.ifCond .eq 7, 3) := by decide +kernel
theorem dX1_make_82 : decode cX1_make 82 = .ok (.iconst 1, 1) := by decide +kernel
theorem dX1_make_83 : decode cX1_make 83 = .ok (.goto 4, 3) := by decide +kernel
theorem dX1_make_86 : decode cX1_make 86 = .ok (.iconst 0, 1) := by decide +kernel
theorem dX1_make_87 : decode cX1_make 87 = .ok (.iadd, 1) := by decide +kernel
theorem dX1_make_88 : decode cX1_make 88 = .ok (.putfield 60, 3) := by decide +kernel
theorem dX1_make_91 : decode cX1_make 91 = .ok (.iinc 2 1, 3) := by decide +kernel
theorem dX1_make_94 : decode cX1_make 94 = .ok (.goto (-32), 3) := by decide +kernel
theorem dX1_make_97 : decode cX1_make 97 = .ok (.aload_n 0, 1) := by decide +kernel
theorem dX1_make_98 : decode cX1_make 98 = .ok (.iconst 1, 1) := by decide +kernel
theorem dX1_make_99 : decode cX1_make 99 = .ok (.putfield 42, 3) := by decide +kernel
theorem dX1_make_102 : decode cX1_make 102 = .ok (.return_, 1) := by decide +kernel
theorem dX1_seeAllShown_0 : decode cX1_seeAllShown 0 = .ok (.aload_n 0, 1) := by decide +kernel
theorem dX1_seeAllShown_1 : decode cX1_seeAllShown 1 = .ok (.iconst 0, 1) := by decide +kernel
theorem dX1_seeAllShown_2 : decode cX1_seeAllShown 2 = .ok (.putfield 64, 3) := by decide +kernel
theorem dX1_seeAllShown_5 : decode cX1_seeAllShown 5 = .ok (.iconst 0, 1) := by decide +kernel
theorem dX1_seeAllShown_6 : decode cX1_seeAllShown 6 = .ok (.istore_n 2, 1) := by decide +kernel
theorem dX1_seeAllShown_7 : decode cX1_seeAllShown 7 = .ok (.iload_n 2, 1) := by decide +kernel
theorem dX1_seeAllShown_8 : decode cX1_seeAllShown 8 = .ok (.bipush 40, 2) := by decide +kernel
theorem dX1_seeAllShown_10 : decode cX1_seeAllShown 10 = .ok (.if_icmp .ge 71, 3) := by decide +kernel
theorem dX1_seeAllShown_13 : decode cX1_seeAllShown 13 = .ok (.aload_n 0, 1) := by decide +kernel
theorem dX1_seeAllShown_14 : decode cX1_seeAllShown 14 = .ok (.getfield 9, 3) := by decide +kernel
theorem dX1_seeAllShown_17 : decode cX1_seeAllShown 17 = .ok (.iload_n 2, 1) := by decide +kernel
theorem dX1_seeAllShown_18 : decode cX1_seeAllShown 18 = .ok (.iload_n 2, 1) := by decide +kernel
theorem dX1_seeAllShown_19 : decode cX1_seeAllShown 19 = .ok (.aload_n 1, 1) := by decide +kernel
theorem dX1_seeAllShown_20 : decode cX1_seeAllShown 20 = .ok (.getfield 67, 3) := by decide +kernel
theorem dX1_seeAllShown_23 : decode cX1_seeAllShown 23 = .ok (.if_icmp .ge 15, 3) := by decide +kernel
theorem dX1_seeAllShown_26 : decode cX1_seeAllShown 26 = .ok (.aload_n 1, 1) := by decide +kernel
theorem dX1_seeAllShown_27 : decode cX1_seeAllShown 27 = .ok (.iload_n 2, 1) := by decide +kernel
theorem dX1_seeAllShown_28 : decode cX1_seeAllShown 28 = .ok (.invokevirtual 72, 3) := by decide +kernel
theorem dX1_seeAllShown_31 : decode cX1_seeAllShown 31 = .ok (.ifCond .eq 7, 3) := by decide +kernel
theorem dX1_seeAllShown_34 : decode cX1_seeAllShown 34 = .ok (.iconst 1, 1) := by decide +kernel
theorem dX1_seeAllShown_35 : decode cX1_seeAllShown 35 = .ok (.goto 4, 3) := by decide +kernel
theorem dX1_seeAllShown_38 : decode cX1_seeAllShown 38 = .ok (.iconst 0, 1) := by decide +kernel
theorem dX1_seeAllShown_39 : decode cX1_seeAllShown 39 = .ok (.bastore, 1) := by decide +kernel
theorem dX1_seeAllShown_40 : decode cX1_seeAllShown 40 = .ok (.aload_n 0, 1) := by decide +kernel
theorem dX1_seeAllShown_41 : decode cX1_seeAllShown 41 = .ok (.getfield 15, 3) := by decide +kernel
theorem dX1_seeAllShown_44 : decode cX1_seeAllShown 44 = .ok (.iload_n 2, 1) := by decide +kernel
theorem dX1_seeAllShown_45 : decode cX1_seeAllShown 45 = .ok (.aload_n 0, 1) := by decide +kernel
theorem dX1_seeAllShown_46 : decode cX1_seeAllShown 46 = .ok (.getfield 9, 3) := by decide +kernel
theorem dX1_seeAllShown_49 : decode cX1_seeAllShown 49 = .ok (.iload_n 2, 1) := by decide +kernel
theorem dX1_seeAllShown_50 : decode cX1_seeAllShown 50 = .ok (.baload, 1) := by decide +kernel
theorem dX1_seeAllShown_51 : decode cX1_seeAllShown 51 = .ok (.bastore, 1) := by decide +kernel
theorem dX1_seeAllShown_52 : decode cX1_seeAllShown 52 = .ok (.aload_n 0, 1) := by decide +kernel
theorem dX1_seeAllShown_53 : decode cX1_seeAllShown 53 = .ok (.dup, 1) := by decide +kernel
theorem dX1_seeAllShown_54 : decode cX1_seeAllShown 54 = .ok (.getfield 64, 3) := by decide +kernel
theorem dX1_seeAllShown_57 : decode cX1_seeAllShown 57 = .ok (.aload_n 0, 1) := by decide +kernel
theorem dX1_seeAllShown_58 : decode cX1_seeAllShown 58 = .ok (.getfield 9, 3) := by decide +kernel
theorem dX1_seeAllShown_61 : decode cX1_seeAllShown 61 = .ok (.iload_n 2, 1) := by decide +kernel
theorem dX1_seeAllShown_62 : decode cX1_seeAllShown 62 = .ok (.baload, 1) := by decide +kernel
theorem dX1_seeAllShown_63 : decode cX1_seeAllShown 63 = .ok (.ifCond .eq 7, 3) := by decide +kernel
theorem dX1_seeAllShown_66 : decode cX1_seeAllShown 66 = .ok (.iconst 1, 1) := by decide +kernel
theorem dX1_seeAllShown_67 : decode cX1_seeAllShown 67 = .ok (.goto 4, 3) := by decide +kernel
theorem dX1_seeAllShown_70 : decode cX1_seeAllShown 70 = .ok (.iconst 0, 1) := by decide +kernel
theorem dX1_seeAllShown_71 : decode cX1_seeAllShown 71 = .ok (.iadd, 1) := by decide +kernel
theorem dX1_seeAllShown_72 : decode cX1_seeAllShown 72 = .ok (.putfield 64, 3) := by decide +kernel
theorem dX1_seeAllShown_75 : decode cX1_seeAllShown 75 = .ok (.iinc 2 1, 3) := by decide +kernel
theorem dX1_seeAllShown_78 : decode cX1_seeAllShown 78 = .ok (.goto (-71), 3) := by decide +kernel
theorem dX1_seeAllShown_81 : decode cX1_seeAllShown 81 = .ok (.return_, 1) := by decide +kernel
theorem dX1_hideCovered_0 : decode cX1_hideCovered 0 = .ok (.iconst 0, 1) := by decide +kernel
theorem dX1_hideCovered_1 : decode cX1_hideCovered 1 = .ok (.istore_n 2, 1) := by decide +kernel
theorem dX1_hideCovered_2 : decode cX1_hideCovered 2 = .ok (.iload_n 2, 1) := by decide +kernel
theorem dX1_hideCovered_3 : decode cX1_hideCovered 3 = .ok (.bipush 40, 2) := by decide +kernel
theorem dX1_hideCovered_5 : decode cX1_hideCovered 5 = .ok (.if_icmp .ge 41, 3) := by decide +kernel
theorem dX1_hideCovered_8 : decode cX1_hideCovered 8 = .ok (.aload_n 0, 1) := by decide +kernel
theorem dX1_hideCovered_9 : decode cX1_hideCovered 9 = .ok (.getfield 15, 3) := by decide +kernel
theorem dX1_hideCovered_12 : decode cX1_hideCovered 12 = .ok (.iload_n 2, 1) := by decide +kernel
theorem dX1_hideCovered_13 : decode cX1_hideCovered 13 = .ok (.aload_n 0, 1) := by decide +kernel
theorem dX1_hideCovered_14 : decode cX1_hideCovered 14 = .ok (.getfield 9, 3) := by decide +kernel
theorem dX1_hideCovered_17 : decode cX1_hideCovered 17 = .ok (.iload_n 2, 1) := by decide +kernel
theorem dX1_hideCovered_18 : decode cX1_hideCovered 18 = .ok (.baload, 1) := by decide +kernel
theorem dX1_hideCovered_19 : decode cX1_hideCovered 19 = .ok (.ifCond .eq 19, 3) := by decide +kernel
theorem dX1_hideCovered_22 : decode cX1_hideCovered 22 = .ok (.aload_n 0, 1) := by decide +kernel
theorem dX1_hideCovered_23 : decode cX1_hideCovered 23 = .ok (.getfield 38, 3) := by decide +kernel
theorem dX1_hideCovered_26 : decode cX1_hideCovered 26 = .ok (.aload_n 1, 1) := by decide +kernel
theorem dX1_hideCovered_27 : decode cX1_hideCovered 27 = .ok (.iload_n 2, 1) := by decide +kernel
theorem dX1_hideCovered_28 : decode cX1_hideCovered 28 = .ok (.invokevirtual 76, 3) := by decide +kernel
theorem dX1_hideCovered_31 : decode cX1_hideCovered 31 = .ok (.ifCond .ne 7, 3) := by decide +kernel
theorem dX1_hideCovered_34 : decode cX1_hideCovered 34 = .ok (.iconst 1, 1) := by decide +kernel
theorem dX1_hideCovered_35 : decode cX1_hideCovered 35 = .ok (.goto 4, 3) := by decide +kernel
theorem dX1_hideCovered_38 : decode cX1_hideCovered 38 = .ok (.iconst 0, 1) := by decide +kernel
theorem dX1_hideCovered_39 : decode cX1_hideCovered 39 = .ok (.bastore, 1) := by decide +kernel
theorem dX1_hideCovered_40 : decode cX1_hideCovered 40 = .ok (.iinc 2 1, 3) := by decide +kernel
theorem dX1_hideCovered_43 : decode cX1_hideCovered 43 = .ok (.goto (-41), 3) := by decide +kernel
theorem dX1_hideCovered_46 : decode cX1_hideCovered 46 = .ok (.return_, 1) := by decide +kernel
theorem dX1_makeRound_0 : decode cX1_makeRound 0 = .ok (.aload_n 0, 1) := by decide +kernel
theorem dX1_makeRound_1 : decode cX1_makeRound 1 = .ok (.getfield 32, 3) := by decide +kernel
theorem dX1_makeRound_4 : decode cX1_makeRound 4 = .ok (.aload_n 0, 1) := by decide +kernel
theorem dX1_makeRound_5 : decode cX1_makeRound 5 = .ok (.getfield 28, 3) := by decide +kernel
theorem dX1_makeRound_8 : decode cX1_makeRound 8 = .ok (.invokevirtual 80, 3) := by decide +kernel
theorem dX1_makeRound_11 : decode cX1_makeRound 11 = .ok (.aload_n 0, 1) := by decide +kernel
theorem dX1_makeRound_12 : decode cX1_makeRound 12 = .ok (.getfield 21, 3) := by decide +kernel
theorem dX1_makeRound_15 : decode cX1_makeRound 15 = .ok (.aload_n 1, 1) := by decide +kernel
theorem dX1_makeRound_16 : decode cX1_makeRound 16 = .ok (.aload_n 0, 1) := by decide +kernel
theorem dX1_makeRound_17 : decode cX1_makeRound 17 = .ok (.getfield 15, 3) := by decide +kernel
theorem dX1_makeRound_20 : decode cX1_makeRound 20 = .ok (.invokevirtual 84, 3) := by decide +kernel
theorem dX1_makeRound_23 : decode cX1_makeRound 23 = .ok (.aload_n 0, 1) := by decide +kernel
theorem dX1_makeRound_24 : decode cX1_makeRound 24 = .ok (.getfield 28, 3) := by decide +kernel
theorem dX1_makeRound_27 : decode cX1_makeRound 27 = .ok (.aload_n 1, 1) := by decide +kernel
theorem dX1_makeRound_28 : decode cX1_makeRound 28 = .ok (.aload_n 0, 1) := by decide +kernel
theorem dX1_makeRound_29 : decode cX1_makeRound 29 = .ok (.getfield 21, 3) := by decide +kernel
theorem dX1_makeRound_32 : decode cX1_makeRound 32 = .ok (.invokevirtual 88, 3) := by decide +kernel
theorem dX1_makeRound_35 : decode cX1_makeRound 35 = .ok (.aload_n 0, 1) := by decide +kernel
theorem dX1_makeRound_36 : decode cX1_makeRound 36 = .ok (.getfield 28, 3) := by decide +kernel
theorem dX1_makeRound_39 : decode cX1_makeRound 39 = .ok (.aload_n 1, 1) := by decide +kernel
theorem dX1_makeRound_40 : decode cX1_makeRound 40 = .ok (.getfield 92, 3) := by decide +kernel
theorem dX1_makeRound_43 : decode cX1_makeRound 43 = .ok (.iconst 1, 1) := by decide +kernel
theorem dX1_makeRound_44 : decode cX1_makeRound 44 = .ok (.iaload, 1) := by decide +kernel
theorem dX1_makeRound_45 : decode cX1_makeRound 45 = .ok (.invokevirtual 96, 3) := by decide +kernel
theorem dX1_makeRound_48 : decode cX1_makeRound 48 = .ok (.aload_n 0, 1) := by decide +kernel
theorem dX1_makeRound_49 : decode cX1_makeRound 49 = .ok (.getfield 38, 3) := by decide +kernel
theorem dX1_makeRound_52 : decode cX1_makeRound 52 = .ok (.aload_n 1, 1) := by decide +kernel
theorem dX1_makeRound_53 : decode cX1_makeRound 53 = .ok (.aload_n 0, 1) := by decide +kernel
theorem dX1_makeRound_54 : decode cX1_makeRound 54 = .ok (.getfield 28, 3) := by decide +kernel
theorem dX1_makeRound_57 : decode cX1_makeRound 57 = .ok (.aload_n 0, 1) := by decide +kernel
theorem dX1_makeRound_58 : decode cX1_makeRound 58 = .ok (.getfield 9, 3) := by decide +kernel
theorem dX1_makeRound_61 : decode cX1_makeRound 61 = .ok (.invokevirtual 100, 3) := by decide +kernel
theorem dX1_makeRound_64 : decode cX1_makeRound 64 = .ok (.aload_n 0, 1) := by decide +kernel
theorem dX1_makeRound_65 : decode cX1_makeRound 65 = .ok (.iload_n 2, 1) := by decide +kernel
theorem dX1_makeRound_66 : decode cX1_makeRound 66 = .ok (.putfield 104, 3) := by decide +kernel
theorem dX1_makeRound_69 : decode cX1_makeRound 69 = .ok (.iload_n 2, 1) := by decide +kernel
theorem dX1_makeRound_70 : decode cX1_makeRound 70 = .ok (.iconst 1, 1) := by decide +kernel
theorem dX1_makeRound_71 : decode cX1_makeRound 71 = .ok (.if_icmp .ne 17, 3) := by decide +kernel
theorem dX1_makeRound_74 : decode cX1_makeRound 74 = .ok (.aload_n 0, 1) := by decide +kernel
theorem dX1_makeRound_75 : decode cX1_makeRound 75 = .ok (.aload_n 0, 1) := by decide +kernel
theorem dX1_makeRound_76 : decode cX1_makeRound 76 = .ok (.getfield 28, 3) := by decide +kernel
theorem dX1_makeRound_79 : decode cX1_makeRound 79 = .ok (.getfield 107, 3) := by decide +kernel
theorem dX1_makeRound_82 : decode cX1_makeRound 82 = .ok (.putfield 110, 3) := by decide +kernel
theorem dX1_makeRound_85 : decode cX1_makeRound 85 = .ok (.goto 18, 3) := by decide +kernel
theorem dX1_makeRound_88 : decode cX1_makeRound 88 = .ok (.aload_n 0, 1) := by decide +kernel
theorem dX1_makeRound_89 : decode cX1_makeRound 89 = .ok (.aload_n 0, 1) := by decide +kernel
theorem dX1_makeRound_90 : decode cX1_makeRound 90 = .ok (.getfield 28, 3) := by decide +kernel
theorem dX1_makeRound_93 : decode cX1_makeRound 93 = .ok (.aload_n 0, 1) := by decide +kernel
theorem dX1_makeRound_94 : decode cX1_makeRound 94 = .ok (.getfield 32, 3) := by decide +kernel
theorem dX1_makeRound_97 : decode cX1_makeRound 97 = .ok (.invokevirtual 113, 3) := by decide +kernel
theorem dX1_makeRound_100 : decode cX1_makeRound 100 = .ok (.putfield 50, 3) := by decide +kernel
theorem dX1_makeRound_103 : decode cX1_makeRound 103 = .ok (.return_, 1) := by decide +kernel
theorem dX1_countCoveredInSight_0 : decode cX1_countCoveredInSight 0 = .ok (.aload_n 0, 1) := by decide +kernel
theorem dX1_countCoveredInSight_1 : decode cX1_countCoveredInSight 1 = .ok (.getfield 38, 3) := by decide +kernel
theorem dX1_countCoveredInSight_4 : decode cX1_countCoveredInSight 4 = .ok (.aload_n 1, 1) := by decide +kernel
theorem dX1_countCoveredInSight_5 : decode cX1_countCoveredInSight 5 = .ok (.aload_n 0, 1) := by decide +kernel
theorem dX1_countCoveredInSight_6 : decode cX1_countCoveredInSight 6 = .ok (.getfield 15, 3) := by decide +kernel
theorem dX1_countCoveredInSight_9 : decode cX1_countCoveredInSight 9 = .ok (.invokevirtual 117, 3) := by decide +kernel
theorem dX1_countCoveredInSight_12 : decode cX1_countCoveredInSight 12 = .ok (.ireturn, 1) := by decide +kernel
theorem dX1_lineOf_0 : decode cX1_lineOf 0 = .ok (.aload_n 0, 1) := by decide +kernel
theorem dX1_lineOf_1 : decode cX1_lineOf 1 = .ok (.getfield 15, 3) := by decide +kernel
theorem dX1_lineOf_4 : decode cX1_lineOf 4 = .ok (.iload_n 2, 1) := by decide +kernel
theorem dX1_lineOf_5 : decode cX1_lineOf 5 = .ok (.baload, 1) := by decide +kernel
theorem dX1_lineOf_6 : decode cX1_lineOf 6 = .ok (.ifCond .ne 5, 3) := by decide +kernel
theorem dX1_lineOf_9 : decode cX1_lineOf 9 = .ok (.iconst (-1), 1) := by decide +kernel
theorem dX1_lineOf_10 : decode cX1_lineOf 10 = .ok (.ireturn, 1) := by decide +kernel
theorem dX1_lineOf_11 : decode cX1_lineOf 11 = .ok (.aload_n 1, 1) := by decide +kernel
theorem dX1_lineOf_12 : decode cX1_lineOf 12 = .ok (.getfield 121, 3) := by decide +kernel
theorem dX1_lineOf_15 : decode cX1_lineOf 15 = .ok (.iload_n 2, 1) := by decide +kernel
theorem dX1_lineOf_16 : decode cX1_lineOf 16 = .ok (.iaload, 1) := by decide +kernel
theorem dX1_lineOf_17 : decode cX1_lineOf 17 = .ok (.istore_n 3, 1) := by decide +kernel
theorem dX1_lineOf_18 : decode cX1_lineOf 18 = .ok (.aload_n 1, 1) := by decide +kernel
theorem dX1_lineOf_19 : decode cX1_lineOf 19 = .ok (.iload_n 2, 1) := by decide +kernel
theorem dX1_lineOf_20 : decode cX1_lineOf 20 = .ok (.invokevirtual 124, 3) := by decide +kernel
theorem dX1_lineOf_23 : decode cX1_lineOf 23 = .ok (.istore 4, 2) := by decide +kernel
theorem dX1_lineOf_25 : decode cX1_lineOf 25 = .ok (.iconst 0, 1) := by decide +kernel
theorem dX1_lineOf_26 : decode cX1_lineOf 26 = .ok (.istore 5, 2) := by decide +kernel
theorem dX1_lineOf_28 : decode cX1_lineOf 28 = .ok (.iload 5, 2) := by decide +kernel
theorem dX1_lineOf_30 : decode cX1_lineOf 30 = .ok (.aload_n 0, 1) := by decide +kernel
theorem dX1_lineOf_31 : decode cX1_lineOf 31 = .ok (.getfield 28, 3) := by decide +kernel
theorem dX1_lineOf_34 : decode cX1_lineOf 34 = .ok (.getfield 107, 3) := by decide +kernel
theorem dX1_lineOf_37 : decode cX1_lineOf 37 = .ok (.if_icmp .ge 92, 3) := by decide +kernel
theorem dX1_lineOf_40 : decode cX1_lineOf 40 = .ok (.aload_n 0, 1) := by decide +kernel
theorem dX1_lineOf_41 : decode cX1_lineOf 41 = .ok (.getfield 28, 3) := by decide +kernel
theorem dX1_lineOf_44 : decode cX1_lineOf 44 = .ok (.getfield 128, 3) := by decide +kernel
theorem dX1_lineOf_47 : decode cX1_lineOf 47 = .ok (.iload 5, 2) := by decide +kernel
theorem dX1_lineOf_49 : decode cX1_lineOf 49 = .ok (.iaload, 1) := by decide +kernel
theorem dX1_lineOf_50 : decode cX1_lineOf 50 = .ok (.iconst 2, 1) := by decide +kernel
theorem dX1_lineOf_51 : decode cX1_lineOf 51 = .ok (.if_icmp .ne 25, 3) := by decide +kernel
theorem dX1_lineOf_54 : decode cX1_lineOf 54 = .ok (.aload_n 0, 1) := by decide +kernel
theorem dX1_lineOf_55 : decode cX1_lineOf 55 = .ok (.getfield 28, 3) := by decide +kernel
theorem dX1_lineOf_58 : decode cX1_lineOf 58 = .ok (.getfield 131, 3) := by decide +kernel
theorem dX1_lineOf_61 : decode cX1_lineOf 61 = .ok (.iload 5, 2) := by decide +kernel
theorem dX1_lineOf_63 : decode cX1_lineOf 63 = .ok (.iaload, 1) := by decide +kernel
theorem dX1_lineOf_64 : decode cX1_lineOf 64 = .ok (.aload_n 1, 1) := by decide +kernel
theorem dX1_lineOf_65 : decode cX1_lineOf 65 = .ok (.getfield 134, 3) := by decide +kernel
theorem dX1_lineOf_68 : decode cX1_lineOf 68 = .ok (.iload_n 3, 1) := by decide +kernel
theorem dX1_lineOf_69 : decode cX1_lineOf 69 = .ok (.iaload, 1) := by decide +kernel
theorem dX1_lineOf_70 : decode cX1_lineOf 70 = .ok (.if_icmp .ne 6, 3) := by decide +kernel
theorem dX1_lineOf_73 : decode cX1_lineOf 73 = .ok (.iload 5, 2) := by decide +kernel
theorem dX1_lineOf_75 : decode cX1_lineOf 75 = .ok (.ireturn, 1) := by decide +kernel
theorem dX1_lineOf_76 : decode cX1_lineOf 76 = .ok (.aload_n 0, 1) := by decide +kernel
theorem dX1_lineOf_77 : decode cX1_lineOf 77 = .ok (.getfield 28, 3) := by decide +kernel
theorem dX1_lineOf_80 : decode cX1_lineOf 80 = .ok (.getfield 135, 3) := by decide +kernel
theorem dX1_lineOf_83 : decode cX1_lineOf 83 = .ok (.iload 5, 2) := by decide +kernel
theorem dX1_lineOf_85 : decode cX1_lineOf 85 = .ok (.iaload, 1) := by decide +kernel
theorem dX1_lineOf_86 : decode cX1_lineOf 86 = .ok (.iload_n 3, 1) := by decide +kernel
theorem dX1_lineOf_87 : decode cX1_lineOf 87 = .ok (.if_icmp .ne 36, 3) := by decide +kernel
theorem dX1_lineOf_90 : decode cX1_lineOf 90 = .ok (.aload_n 0, 1) := by decide +kernel
theorem dX1_lineOf_91 : decode cX1_lineOf 91 = .ok (.getfield 28, 3) := by decide +kernel
theorem dX1_lineOf_94 : decode cX1_lineOf 94 = .ok (.getfield 138, 3) := by decide +kernel
theorem dX1_lineOf_97 : decode cX1_lineOf 97 = .ok (.iload 5, 2) := by decide +kernel
theorem dX1_lineOf_99 : decode cX1_lineOf 99 = .ok (.iaload, 1) := by decide +kernel
theorem dX1_lineOf_100 : decode cX1_lineOf 100 = .ok (.iload 4, 2) := by decide +kernel
theorem dX1_lineOf_102 : decode cX1_lineOf 102 = .ok (.if_icmp .gt 21, 3) := by decide +kernel
theorem dX1_lineOf_105 : decode cX1_lineOf 105 = .ok (.iload 4, 2) := by decide +kernel
theorem dX1_lineOf_107 : decode cX1_lineOf 107 = .ok (.aload_n 0, 1) := by decide +kernel
theorem dX1_lineOf_108 : decode cX1_lineOf 108 = .ok (.getfield 28, 3) := by decide +kernel
theorem dX1_lineOf_111 : decode cX1_lineOf 111 = .ok (.getfield 141, 3) := by decide +kernel
theorem dX1_lineOf_114 : decode cX1_lineOf 114 = .ok (.iload 5, 2) := by decide +kernel
theorem dX1_lineOf_116 : decode cX1_lineOf 116 = .ok (.iaload, 1) := by decide +kernel
theorem dX1_lineOf_117 : decode cX1_lineOf 117 = .ok (.if_icmp .gt 6, 3) := by decide +kernel
theorem dX1_lineOf_120 : decode cX1_lineOf 120 = .ok (.iload 5, 2) := by decide +kernel
theorem dX1_lineOf_122 : decode cX1_lineOf 122 = .ok (.ireturn, 1) := by decide +kernel
theorem dX1_lineOf_123 : decode cX1_lineOf 123 = .ok (.iinc 5 1, 3) := by decide +kernel
theorem dX1_lineOf_126 : decode cX1_lineOf 126 = .ok (.goto (-98), 3) := by decide +kernel
theorem dX1_lineOf_129 : decode cX1_lineOf 129 = .ok (.iconst (-1), 1) := by decide +kernel
theorem dX1_lineOf_130 : decode cX1_lineOf 130 = .ok (.ireturn, 1) := by decide +kernel
theorem dX2_init_0 : decode cX2_init 0 = .ok (.aload_n 0, 1) := by decide +kernel
theorem dX2_init_1 : decode cX2_init 1 = .ok (.invokespecial 3, 3) := by decide +kernel
theorem dX2_init_4 : decode cX2_init 4 = .ok (.aload_n 0, 1) := by decide +kernel
theorem dX2_init_5 : decode cX2_init 5 = .ok (.bipush 77, 2) := by decide +kernel
theorem dX2_init_7 : decode cX2_init 7 = .ok (.newarray .int, 2) := by decide +kernel
theorem dX2_init_9 : decode cX2_init 9 = .ok (.putfield 9, 3) := by decide +kernel
theorem dX2_init_12 : decode cX2_init 12 = .ok (.aload_n 0, 1) := by decide +kernel
theorem dX2_init_13 : decode cX2_init 13 = .ok (.bipush 77, 2) := by decide +kernel
theorem dX2_init_15 : decode cX2_init 15 = .ok (.newarray .int, 2) := by decide +kernel
theorem dX2_init_17 : decode cX2_init 17 = .ok (.putfield 15, 3) := by decide +kernel
theorem dX2_init_20 : decode cX2_init 20 = .ok (.aload_n 0, 1) := by decide +kernel
theorem dX2_init_21 : decode cX2_init 21 = .ok (.bipush 77, 2) := by decide +kernel
theorem dX2_init_23 : decode cX2_init 23 = .ok (.newarray .int, 2) := by decide +kernel
theorem dX2_init_25 : decode cX2_init 25 = .ok (.putfield 18, 3) := by decide +kernel
theorem dX2_init_28 : decode cX2_init 28 = .ok (.aload_n 0, 1) := by decide +kernel
theorem dX2_init_29 : decode cX2_init 29 = .ok (.bipush 77, 2) := by decide +kernel
theorem dX2_init_31 : decode cX2_init 31 = .ok (.newarray .int, 2) := by decide +kernel
theorem dX2_init_33 : decode cX2_init 33 = .ok (.putfield 21, 3) := by decide +kernel
theorem dX2_init_36 : decode cX2_init 36 = .ok (.aload_n 0, 1) := by decide +kernel
theorem dX2_init_37 : decode cX2_init 37 = .ok (.bipush 77, 2) := by decide +kernel
theorem dX2_init_39 : decode cX2_init 39 = .ok (.newarray .int, 2) := by decide +kernel
theorem dX2_init_41 : decode cX2_init 41 = .ok (.putfield 24, 3) := by decide +kernel
theorem dX2_init_44 : decode cX2_init 44 = .ok (.aload_n 0, 1) := by decide +kernel
theorem dX2_init_45 : decode cX2_init 45 = .ok (.bipush 77, 2) := by decide +kernel
theorem dX2_init_47 : decode cX2_init 47 = .ok (.newarray .int, 2) := by decide +kernel
theorem dX2_init_49 : decode cX2_init 49 = .ok (.putfield 27, 3) := by decide +kernel
theorem dX2_init_52 : decode cX2_init 52 = .ok (.aload_n 0, 1) := by decide +kernel
theorem dX2_init_53 : decode cX2_init 53 = .ok (.bipush 77, 2) := by decide +kernel
theorem dX2_init_55 : decode cX2_init 55 = .ok (.newarray .int, 2) := by decide +kernel
theorem dX2_init_57 : decode cX2_init 57 = .ok (.putfield 30, 3) := by decide +kernel
theorem dX2_init_60 : decode cX2_init 60 = .ok (.aload_n 0, 1) := by decide +kernel
theorem dX2_init_61 : decode cX2_init 61 = .ok (.bipush 77, 2) := by decide +kernel
theorem dX2_init_63 : decode cX2_init 63 = .ok (.newarray .int, 2) := by decide +kernel
theorem dX2_init_65 : decode cX2_init 65 = .ok (.putfield 33, 3) := by decide +kernel
theorem dX2_init_68 : decode cX2_init 68 = .ok (.aload_n 0, 1) := by decide +kernel
theorem dX2_init_69 : decode cX2_init 69 = .ok (.bipush 12, 2) := by decide +kernel
theorem dX2_init_71 : decode cX2_init 71 = .ok (.newarray .int, 2) := by decide +kernel
theorem dX2_init_73 : decode cX2_init 73 = .ok (.putfield 36, 3) := by decide +kernel
theorem dX2_init_76 : decode cX2_init 76 = .ok (.aload_n 0, 1) := by decide +kernel
theorem dX2_init_77 : decode cX2_init 77 = .ok (.iconst 5, 1) := by decide +kernel
theorem dX2_init_78 : decode cX2_init 78 = .ok (.newarray .boolean, 2) := by decide +kernel
theorem dX2_init_80 : decode cX2_init 80 = .ok (.putfield 39, 3) := by decide +kernel
theorem dX2_init_83 : decode cX2_init 83 = .ok (.return_, 1) := by decide +kernel
theorem dX2_copyFrom_0 : decode cX2_copyFrom 0 = .ok (.aload_n 0, 1) := by decide +kernel
theorem dX2_copyFrom_1 : decode cX2_copyFrom 1 = .ok (.aload_n 1, 1) := by decide +kernel
theorem dX2_copyFrom_2 : decode cX2_copyFrom 2 = .ok (.getfield 43, 3) := by decide +kernel
theorem dX2_copyFrom_5 : decode cX2_copyFrom 5 = .ok (.putfield 43, 3) := by decide +kernel
theorem dX2_copyFrom_8 : decode cX2_copyFrom 8 = .ok (.iconst 0, 1) := by decide +kernel
theorem dX2_copyFrom_9 : decode cX2_copyFrom 9 = .ok (.istore_n 2, 1) := by decide +kernel
theorem dX2_copyFrom_10 : decode cX2_copyFrom 10 = .ok (.iload_n 2, 1) := by decide +kernel
theorem dX2_copyFrom_11 : decode cX2_copyFrom 11 = .ok (.aload_n 0, 1) := by decide +kernel
theorem dX2_copyFrom_12 : decode cX2_copyFrom 12 = .ok (.getfield 43, 3) := by decide +kernel
theorem dX2_copyFrom_15 : decode cX2_copyFrom 15 = .ok (.if_icmp .ge 69, 3) := by decide +kernel
theorem dX2_copyFrom_18 : decode cX2_copyFrom 18 = .ok (.aload_n 0, 1) := by decide +kernel
theorem dX2_copyFrom_19 : decode cX2_copyFrom 19 = .ok (.getfield 9, 3) := by decide +kernel
theorem dX2_copyFrom_22 : decode cX2_copyFrom 22 = .ok (.iload_n 2, 1) := by decide +kernel
theorem dX2_copyFrom_23 : decode cX2_copyFrom 23 = .ok (.aload_n 1, 1) := by decide +kernel
theorem dX2_copyFrom_24 : decode cX2_copyFrom 24 = .ok (.getfield 9, 3) := by decide +kernel
theorem dX2_copyFrom_27 : decode cX2_copyFrom 27 = .ok (.iload_n 2, 1) := by decide +kernel
theorem dX2_copyFrom_28 : decode cX2_copyFrom 28 = .ok (.iaload, 1) := by decide +kernel
theorem dX2_copyFrom_29 : decode cX2_copyFrom 29 = .ok (.iastore, 1) := by decide +kernel
theorem dX2_copyFrom_30 : decode cX2_copyFrom 30 = .ok (.aload_n 0, 1) := by decide +kernel
theorem dX2_copyFrom_31 : decode cX2_copyFrom 31 = .ok (.getfield 15, 3) := by decide +kernel
theorem dX2_copyFrom_34 : decode cX2_copyFrom 34 = .ok (.iload_n 2, 1) := by decide +kernel
theorem dX2_copyFrom_35 : decode cX2_copyFrom 35 = .ok (.aload_n 1, 1) := by decide +kernel
theorem dX2_copyFrom_36 : decode cX2_copyFrom 36 = .ok (.getfield 15, 3) := by decide +kernel
theorem dX2_copyFrom_39 : decode cX2_copyFrom 39 = .ok (.iload_n 2, 1) := by decide +kernel
theorem dX2_copyFrom_40 : decode cX2_copyFrom 40 = .ok (.iaload, 1) := by decide +kernel
theorem dX2_copyFrom_41 : decode cX2_copyFrom 41 = .ok (.iastore, 1) := by decide +kernel
theorem dX2_copyFrom_42 : decode cX2_copyFrom 42 = .ok (.aload_n 0, 1) := by decide +kernel
theorem dX2_copyFrom_43 : decode cX2_copyFrom 43 = .ok (.getfield 18, 3) := by decide +kernel
theorem dX2_copyFrom_46 : decode cX2_copyFrom 46 = .ok (.iload_n 2, 1) := by decide +kernel
theorem dX2_copyFrom_47 : decode cX2_copyFrom 47 = .ok (.aload_n 1, 1) := by decide +kernel
theorem dX2_copyFrom_48 : decode cX2_copyFrom 48 = .ok (.getfield 18, 3) := by decide +kernel
theorem dX2_copyFrom_51 : decode cX2_copyFrom 51 = .ok (.iload_n 2, 1) := by decide +kernel
theorem dX2_copyFrom_52 : decode cX2_copyFrom 52 = .ok (.iaload, 1) := by decide +kernel
theorem dX2_copyFrom_53 : decode cX2_copyFrom 53 = .ok (.iastore, 1) := by decide +kernel
theorem dX2_copyFrom_54 : decode cX2_copyFrom 54 = .ok (.aload_n 0, 1) := by decide +kernel
theorem dX2_copyFrom_55 : decode cX2_copyFrom 55 = .ok (.getfield 21, 3) := by decide +kernel
theorem dX2_copyFrom_58 : decode cX2_copyFrom 58 = .ok (.iload_n 2, 1) := by decide +kernel
theorem dX2_copyFrom_59 : decode cX2_copyFrom 59 = .ok (.aload_n 1, 1) := by decide +kernel
theorem dX2_copyFrom_60 : decode cX2_copyFrom 60 = .ok (.getfield 21, 3) := by decide +kernel
theorem dX2_copyFrom_63 : decode cX2_copyFrom 63 = .ok (.iload_n 2, 1) := by decide +kernel
theorem dX2_copyFrom_64 : decode cX2_copyFrom 64 = .ok (.iaload, 1) := by decide +kernel
theorem dX2_copyFrom_65 : decode cX2_copyFrom 65 = .ok (.iastore, 1) := by decide +kernel
theorem dX2_copyFrom_66 : decode cX2_copyFrom 66 = .ok (.aload_n 0, 1) := by decide +kernel
theorem dX2_copyFrom_67 : decode cX2_copyFrom 67 = .ok (.getfield 24, 3) := by decide +kernel
theorem dX2_copyFrom_70 : decode cX2_copyFrom 70 = .ok (.iload_n 2, 1) := by decide +kernel
theorem dX2_copyFrom_71 : decode cX2_copyFrom 71 = .ok (.aload_n 1, 1) := by decide +kernel
theorem dX2_copyFrom_72 : decode cX2_copyFrom 72 = .ok (.getfield 24, 3) := by decide +kernel
theorem dX2_copyFrom_75 : decode cX2_copyFrom 75 = .ok (.iload_n 2, 1) := by decide +kernel
theorem dX2_copyFrom_76 : decode cX2_copyFrom 76 = .ok (.iaload, 1) := by decide +kernel
theorem dX2_copyFrom_77 : decode cX2_copyFrom 77 = .ok (.iastore, 1) := by decide +kernel
theorem dX2_copyFrom_78 : decode cX2_copyFrom 78 = .ok (.iinc 2 1, 3) := by decide +kernel
theorem dX2_copyFrom_81 : decode cX2_copyFrom 81 = .ok (.goto (-71), 3) := by decide +kernel
theorem dX2_copyFrom_84 : decode cX2_copyFrom 84 = .ok (.return_, 1) := by decide +kernel
theorem dX2_isSameAs_0 : decode cX2_isSameAs 0 = .ok (.aload_n 0, 1) := by decide +kernel
theorem dX2_isSameAs_1 : decode cX2_isSameAs 1 = .ok (.getfield 43, 3) := by decide +kernel
theorem dX2_isSameAs_4 : decode cX2_isSameAs 4 = .ok (.aload_n 1, 1) := by decide +kernel
theorem dX2_isSameAs_5 : decode cX2_isSameAs 5 = .ok (.getfield 43, 3) := by decide +kernel
theorem dX2_isSameAs_8 : decode cX2_isSameAs 8 = .ok (.if_icmp .eq 5, 3) := by decide +kernel
theorem dX2_isSameAs_11 : decode cX2_isSameAs 11 = .ok (.iconst 0, 1) := by decide +kernel
theorem dX2_isSameAs_12 : decode cX2_isSameAs 12 = .ok (.ireturn, 1) := by decide +kernel
theorem dX2_isSameAs_13 : decode cX2_isSameAs 13 = .ok (.iconst 0, 1) := by decide +kernel
theorem dX2_isSameAs_14 : decode cX2_isSameAs 14 = .ok (.istore_n 2, 1) := by decide +kernel
theorem dX2_isSameAs_15 : decode cX2_isSameAs 15 = .ok (.iload_n 2, 1) := by decide +kernel
theorem dX2_isSameAs_16 : decode cX2_isSameAs 16 = .ok (.aload_n 0, 1) := by decide +kernel
theorem dX2_isSameAs_17 : decode cX2_isSameAs 17 = .ok (.getfield 43, 3) := by decide +kernel
theorem dX2_isSameAs_20 : decode cX2_isSameAs 20 = .ok (.if_icmp .ge 86, 3) := by decide +kernel
theorem dX2_isSameAs_23 : decode cX2_isSameAs 23 = .ok (.aload_n 0, 1) := by decide +kernel
theorem dX2_isSameAs_24 : decode cX2_isSameAs 24 = .ok (.getfield 9, 3) := by decide +kernel
theorem dX2_isSameAs_27 : decode cX2_isSameAs 27 = .ok (.iload_n 2, 1) := by decide +kernel
theorem dX2_isSameAs_28 : decode cX2_isSameAs 28 = .ok (.iaload, 1) := by decide +kernel
theorem dX2_isSameAs_29 : decode cX2_isSameAs 29 = .ok (.aload_n 1, 1) := by decide +kernel
theorem dX2_isSameAs_30 : decode cX2_isSameAs 30 = .ok (.getfield 9, 3) := by decide +kernel
theorem dX2_isSameAs_33 : decode cX2_isSameAs 33 = .ok (.iload_n 2, 1) := by decide +kernel
theorem dX2_isSameAs_34 : decode cX2_isSameAs 34 = .ok (.iaload, 1) := by decide +kernel
theorem dX2_isSameAs_35 : decode cX2_isSameAs 35 = .ok (.if_icmp .ne 63, 3) := by decide +kernel
theorem dX2_isSameAs_38 : decode cX2_isSameAs 38 = .ok (.aload_n 0, 1) := by decide +kernel
theorem dX2_isSameAs_39 : decode cX2_isSameAs 39 = .ok (.getfield 15, 3) := by decide +kernel
theorem dX2_isSameAs_42 : decode cX2_isSameAs 42 = .ok (.iload_n 2, 1) := by decide +kernel
theorem dX2_isSameAs_43 : decode cX2_isSameAs 43 = .ok (.iaload, 1) := by decide +kernel
theorem dX2_isSameAs_44 : decode cX2_isSameAs 44 = .ok (.aload_n 1, 1) := by decide +kernel
theorem dX2_isSameAs_45 : decode cX2_isSameAs 45 = .ok (.getfield 15, 3) := by decide +kernel
theorem dX2_isSameAs_48 : decode cX2_isSameAs 48 = .ok (.iload_n 2, 1) := by decide +kernel
theorem dX2_isSameAs_49 : decode cX2_isSameAs 49 = .ok (.iaload, 1) := by decide +kernel
theorem dX2_isSameAs_50 : decode cX2_isSameAs 50 = .ok (.if_icmp .ne 48, 3) := by decide +kernel
theorem dX2_isSameAs_53 : decode cX2_isSameAs 53 = .ok (.aload_n 0, 1) := by decide +kernel
theorem dX2_isSameAs_54 : decode cX2_isSameAs 54 = .ok (.getfield 18, 3) := by decide +kernel
theorem dX2_isSameAs_57 : decode cX2_isSameAs 57 = .ok (.iload_n 2, 1) := by decide +kernel
theorem dX2_isSameAs_58 : decode cX2_isSameAs 58 = .ok (.iaload, 1) := by decide +kernel
theorem dX2_isSameAs_59 : decode cX2_isSameAs 59 = .ok (.aload_n 1, 1) := by decide +kernel
theorem dX2_isSameAs_60 : decode cX2_isSameAs 60 = .ok (.getfield 18, 3) := by decide +kernel
theorem dX2_isSameAs_63 : decode cX2_isSameAs 63 = .ok (.iload_n 2, 1) := by decide +kernel
theorem dX2_isSameAs_64 : decode cX2_isSameAs 64 = .ok (.iaload, 1) := by decide +kernel
theorem dX2_isSameAs_65 : decode cX2_isSameAs 65 = .ok (.if_icmp .ne 33, 3) := by decide +kernel
theorem dX2_isSameAs_68 : decode cX2_isSameAs 68 = .ok (.aload_n 0, 1) := by decide +kernel
theorem dX2_isSameAs_69 : decode cX2_isSameAs 69 = .ok (.getfield 21, 3) := by decide +kernel
theorem dX2_isSameAs_72 : decode cX2_isSameAs 72 = .ok (.iload_n 2, 1) := by decide +kernel
theorem dX2_isSameAs_73 : decode cX2_isSameAs 73 = .ok (.iaload, 1) := by decide +kernel
theorem dX2_isSameAs_74 : decode cX2_isSameAs 74 = .ok (.aload_n 1, 1) := by decide +kernel
theorem dX2_isSameAs_75 : decode cX2_isSameAs 75 = .ok (.getfield 21, 3) := by decide +kernel
theorem dX2_isSameAs_78 : decode cX2_isSameAs 78 = .ok (.iload_n 2, 1) := by decide +kernel
theorem dX2_isSameAs_79 : decode cX2_isSameAs 79 = .ok (.iaload, 1) := by decide +kernel
theorem dX2_isSameAs_80 : decode cX2_isSameAs 80 = .ok (.if_icmp .ne 18, 3) := by decide +kernel
theorem dX2_isSameAs_83 : decode cX2_isSameAs 83 = .ok (.aload_n 0, 1) := by decide +kernel
theorem dX2_isSameAs_84 : decode cX2_isSameAs 84 = .ok (.getfield 24, 3) := by decide +kernel
theorem dX2_isSameAs_87 : decode cX2_isSameAs 87 = .ok (.iload_n 2, 1) := by decide +kernel
theorem dX2_isSameAs_88 : decode cX2_isSameAs 88 = .ok (.iaload, 1) := by decide +kernel
theorem dX2_isSameAs_89 : decode cX2_isSameAs 89 = .ok (.aload_n 1, 1) := by decide +kernel
theorem dX2_isSameAs_90 : decode cX2_isSameAs 90 = .ok (.getfield 24, 3) := by decide +kernel
theorem dX2_isSameAs_93 : decode cX2_isSameAs 93 = .ok (.iload_n 2, 1) := by decide +kernel
theorem dX2_isSameAs_94 : decode cX2_isSameAs 94 = .ok (.iaload, 1) := by decide +kernel
theorem dX2_isSameAs_95 : decode cX2_isSameAs 95 = .ok (.if_icmp .eq 5, 3) := by decide +kernel
theorem dX2_isSameAs_98 : decode cX2_isSameAs 98 = .ok (.iconst 0, 1) := by decide +kernel
theorem dX2_isSameAs_99 : decode cX2_isSameAs 99 = .ok (.ireturn, 1) := by decide +kernel
theorem dX2_isSameAs_100 : decode cX2_isSameAs 100 = .ok (.iinc 2 1, 3) := by decide +kernel
theorem dX2_isSameAs_103 : decode cX2_isSameAs 103 = .ok (.goto (-88), 3) := by decide +kernel
theorem dX2_isSameAs_106 : decode cX2_isSameAs 106 = .ok (.iconst 1, 1) := by decide +kernel
theorem dX2_isSameAs_107 : decode cX2_isSameAs 107 = .ok (.ireturn, 1) := by decide +kernel
theorem dX2_compose_0 : decode cX2_compose 0 = .ok (.aload_n 0, 1) := by decide +kernel
theorem dX2_compose_1 : decode cX2_compose 1 = .ok (.iconst 0, 1) := by decide +kernel
theorem dX2_compose_2 : decode cX2_compose 2 = .ok (.putfield 43, 3) := by decide +kernel
theorem dX2_compose_5 : decode cX2_compose 5 = .ok (.aload_n 0, 1) := by decide +kernel
theorem dX2_compose_6 : decode cX2_compose 6 = .ok (.aload_n 1, 1) := by decide +kernel
theorem dX2_compose_7 : decode cX2_compose 7 = .ok (.aload_n 2, 1) := by decide +kernel
theorem dX2_compose_8 : decode cX2_compose 8 = .ok (.invokevirtual 47, 3) := by decide +kernel
theorem dX2_compose_11 : decode cX2_compose 11 = .ok (.iconst 0, 1) := by decide +kernel
theorem dX2_compose_12 : decode cX2_compose 12 = .ok (.istore_n 3, 1) := by decide +kernel
theorem dX2_compose_13 : decode cX2_compose 13 = .ok (.iload_n 3, 1) := by decide +kernel
theorem dX2_compose_14 : decode cX2_compose 14 = .ok (.iconst 5, 1) := by decide +kernel
theorem dX2_compose_15 : decode cX2_compose 15 = .ok (.if_icmp .ge 16, 3) := by decide +kernel
theorem dX2_compose_18 : decode cX2_compose 18 = .ok (.aload_n 0, 1) := by decide +kernel
theorem dX2_compose_19 : decode cX2_compose 19 = .ok (.getfield 39, 3) := by decide +kernel
theorem dX2_compose_22 : decode cX2_compose 22 = .ok (.iload_n 3, 1) := by decide +kernel
theorem dX2_compose_23 : decode cX2_compose 23 = .ok (.iconst 0, 1) := by decide +kernel
theorem dX2_compose_24 : decode cX2_compose 24 = .ok (.bastore, 1) := by decide +kernel
theorem dX2_compose_25 : decode cX2_compose 25 = .ok (.iinc 3 1, 3) := by decide +kernel
theorem dX2_compose_28 : decode cX2_compose 28 = .ok (.goto (-15), 3) := by decide +kernel
theorem dX2_compose_31 : decode cX2_compose 31 = .ok (.iconst 0, 1) := by decide +kernel
theorem dX2_compose_32 : decode cX2_compose 32 = .ok (.istore_n 3, 1) := by decide +kernel
theorem dX2_compose_33 : decode cX2_compose 33 = .ok (.iload_n 3, 1) := by decide +kernel
theorem dX2_compose_34 : decode cX2_compose 34 = .ok (.aload_n 0, 1) := by decide +kernel
theorem dX2_compose_35 : decode cX2_compose 35 = .ok (.getfield 51, 3) := by decide +kernel
theorem dX2_compose_38 : decode cX2_compose 38 = .ok (.if_icmp .ge 74, 3) := by decide +kernel
theorem dX2_compose_41 : decode cX2_compose 41 = .ok (.aload_n 0, 1) := by decide +kernel
theorem dX2_compose_42 : decode cX2_compose 42 = .ok (.getfield 36, 3) := by decide +kernel
theorem dX2_compose_45 : decode cX2_compose 45 = .ok (.iload_n 3, 1) := by decide +kernel
theorem dX2_compose_46 : decode cX2_compose 46 = .ok (.iaload, 1) := by decide +kernel
theorem dX2_compose_47 : decode cX2_compose 47 = .ok (.istore 4, 2) := by decide +kernel
theorem dX2_compose_49 : decode cX2_compose 49 = .ok (.aload_n 1, 1) := by decide +kernel
theorem dX2_compose_50 : decode cX2_compose 50 = .ok (.getfield 54, 3) := by decide +kernel
theorem dX2_compose_53 : decode cX2_compose 53 = .ok (.iload 4, 2) := by decide +kernel
theorem dX2_compose_55 : decode cX2_compose 55 = .ok (.iaload, 1) := by decide +kernel
theorem dX2_compose_56 : decode cX2_compose 56 = .ok (.istore 5, 2) := by decide +kernel
theorem dX2_compose_58 : decode cX2_compose 58 = .ok (.iload 5, 2) := by decide +kernel
theorem dX2_compose_60 : decode cX2_compose 60 = .ok (.ifCond .lt 9, 3) := by decide +kernel
theorem dX2_compose_63 : decode cX2_compose 63 = .ok (.iload 5, 2) := by decide +kernel
theorem dX2_compose_65 : decode cX2_compose 65 = .ok (.iconst 5, 1) := by decide +kernel
theorem dX2_compose_66 : decode cX2_compose 66 = .ok (.if_icmp .lt 14, 3) := by decide +kernel
theorem dX2_compose_69 : decode cX2_compose 69 = .ok (.aload_n 0, 1) := by decide +kernel
theorem dX2_compose_70 : decode cX2_compose 70 = .ok (.iload 4, 2) := by decide +kernel
theorem dX2_compose_72 : decode cX2_compose 72 = .ok (.iconst (-1), 1) := by decide +kernel
theorem dX2_compose_73 : decode cX2_compose 73 = .ok (.aload_n 2, 1) := by decide +kernel
theorem dX2_compose_74 : decode cX2_compose 74 = .ok (.invokevirtual 57, 3) := by decide +kernel
theorem dX2_compose_77 : decode cX2_compose 77 = .ok (.goto 29, 3) := by decide +kernel
theorem dX2_compose_80 : decode cX2_compose 80 = .ok (.aload_n 0, 1) := by decide +kernel
theorem dX2_compose_81 : decode cX2_compose 81 = .ok (.getfield 39, 3) := by decide +kernel
theorem dX2_compose_84 : decode cX2_compose 84 = .ok (.iload 5, 2) := by decide +kernel
theorem dX2_compose_86 : decode cX2_compose 86 = .ok (.baload, 1) := by decide +kernel
theorem dX2_compose_87 : decode cX2_compose 87 = .ok (.ifCond .ne 19, 3) := by decide +kernel
theorem dX2_compose_90 : decode cX2_compose 90 = .ok (.aload_n 0, 1) := by decide +kernel
theorem dX2_compose_91 : decode cX2_compose 91 = .ok (.getfield 39, 3) := by decide +kernel
theorem dX2_compose_94 : decode cX2_compose 94 = .ok (.iload 5, 2) := by decide +kernel
theorem dX2_compose_96 : decode cX2_compose 96 = .ok (.iconst 1, 1) := by decide +kernel
theorem dX2_compose_97 : decode cX2_compose 97 = .ok (.bastore, 1) := by decide +kernel
theorem dX2_compose_98 : decode cX2_compose 98 = .ok (.aload_n 0, 1) := by decide +kernel
theorem dX2_compose_99 : decode cX2_compose 99 = .ok (.aload_n 1, 1) := by decide +kernel
theorem dX2_compose_100 : decode cX2_compose 100 = .ok (.iload 5, 2) := by decide +kernel
theorem dX2_compose_102 : decode cX2_compose 102 = .ok (.aload_n 2, 1) := by decide +kernel
theorem dX2_compose_103 : decode cX2_compose 103 = .ok (.invokevirtual 61, 3) := by decide +kernel
theorem dX2_compose_106 : decode cX2_compose 106 = .ok (.iinc 3 1, 3) := by decide +kernel
theorem dX2_compose_109 : decode cX2_compose 109 = .ok (.goto (-76), 3) := by decide +kernel
theorem dX2_compose_112 : decode cX2_compose 112 = .ok (.return_, 1) := by decide +kernel
theorem dX2_orderKinds_0 : decode cX2_orderKinds 0 = .ok (.aload_n 0, 1) := by decide +kernel
theorem dX2_orderKinds_1 : decode cX2_orderKinds 1 = .ok (.iconst 0, 1) := by decide +kernel
theorem dX2_orderKinds_2 : decode cX2_orderKinds 2 = .ok (.putfield 51, 3) := by decide +kernel
theorem dX2_orderKinds_5 : decode cX2_orderKinds 5 = .ok (.iconst 0, 1) := by decide +kernel
theorem dX2_orderKinds_6 : decode cX2_orderKinds 6 = .ok (.istore_n 3, 1) := by decide +kernel
theorem dX2_orderKinds_7 : decode cX2_orderKinds 7 = .ok (.iload_n 3, 1) := by decide +kernel
theorem dX2_orderKinds_8 : decode cX2_orderKinds 8 = .ok (.bipush 12, 2) := by decide +kernel
theorem dX2_orderKinds_10 : decode cX2_orderKinds 10 = .ok (.if_icmp .ge 92, 3) := by decide +kernel
theorem dX2_orderKinds_13 : decode cX2_orderKinds 13 = .ok (.aload_n 2, 1) := by decide +kernel
theorem dX2_orderKinds_14 : decode cX2_orderKinds 14 = .ok (.getfield 65, 3) := by decide +kernel
theorem dX2_orderKinds_17 : decode cX2_orderKinds 17 = .ok (.iload_n 3, 1) := by decide +kernel
theorem dX2_orderKinds_18 : decode cX2_orderKinds 18 = .ok (.iaload, 1) := by decide +kernel
theorem dX2_orderKinds_19 : decode cX2_orderKinds 19 = .ok (.ifCond .le 77, 3) := by decide +kernel
theorem dX2_orderKinds_22 : decode cX2_orderKinds 22 = .ok (.aload_n 0, 1) := by decide +kernel
theorem dX2_orderKinds_23 : decode cX2_orderKinds 23 = .ok (.getfield 51, 3) := by decide +kernel
theorem dX2_orderKinds_26 : decode cX2_orderKinds 26 = .ok (.istore 4, 2) := by decide +kernel
theorem dX2_orderKinds_28 : decode cX2_orderKinds 28 = .ok (.iload 4, 2) := by decide +kernel
theorem dX2_orderKinds_30 : decode cX2_orderKinds 30 = .ok (.ifCond .le 48, 3) := by decide +kernel
theorem dX2_orderKinds_33 : decode cX2_orderKinds 33 = .ok (.aload_n 1, 1) := by decide +kernel
theorem dX2_orderKinds_34 : decode cX2_orderKinds 34 = .ok (.getfield 69, 3) := by decide +kernel
theorem dX2_orderKinds_37 : decode cX2_orderKinds 37 = .ok (.aload_n 0, 1) := by decide +kernel
theorem dX2_orderKinds_38 : decode cX2_orderKinds 38 = .ok (.getfield 36, 3) := by decide +kernel
theorem dX2_orderKinds_41 : decode cX2_orderKinds 41 = .ok (.iload 4, 2) := by decide +kernel
theorem dX2_orderKinds_43 : decode cX2_orderKinds 43 = .ok (.iconst 1, 1) := by decide +kernel
theorem dX2_orderKinds_44 : decode cX2_orderKinds 44 = .ok (.isub, 1) := by decide +kernel
theorem dX2_orderKinds_45 : decode cX2_orderKinds 45 = .ok (.iaload, 1) := by decide +kernel
theorem dX2_orderKinds_46 : decode cX2_orderKinds 46 = .ok (.iaload, 1) := by decide +kernel
theorem dX2_orderKinds_47 : decode cX2_orderKinds 47 = .ok (.aload_n 1, 1) := by decide +kernel
theorem dX2_orderKinds_48 : decode cX2_orderKinds 48 = .ok (.getfield 69, 3) := by decide +kernel
theorem dX2_orderKinds_51 : decode cX2_orderKinds 51 = .ok (.iload_n 3, 1) := by decide +kernel
theorem dX2_orderKinds_52 : decode cX2_orderKinds 52 = .ok (.iaload, 1) := by decide +kernel
theorem dX2_orderKinds_53 : decode cX2_orderKinds 53 = .ok (.if_icmp .le 25, 3) := by decide +kernel
theorem dX2_orderKinds_56 : decode cX2_orderKinds 56 = .ok (.aload_n 0, 1) := by decide +kernel
theorem dX2_orderKinds_57 : decode cX2_orderKinds 57 = .ok (.getfield 36, 3) := by decide +kernel
theorem dX2_orderKinds_60 : decode cX2_orderKinds 60 = .ok (.iload 4, 2) := by decide +kernel
theorem dX2_orderKinds_62 : decode cX2_orderKinds 62 = .ok (.aload_n 0, 1) := by decide +kernel
theorem dX2_orderKinds_63 : decode cX2_orderKinds 63 = .ok (.getfield 36, 3) := by decide +kernel
theorem dX2_orderKinds_66 : decode cX2_orderKinds 66 = .ok (.iload 4, 2) := by decide +kernel
theorem dX2_orderKinds_68 : decode cX2_orderKinds 68 = .ok (.iconst 1, 1) := by decide +kernel
theorem dX2_orderKinds_69 : decode cX2_orderKinds 69 = .ok (.isub, 1) := by decide +kernel
theorem dX2_orderKinds_70 : decode cX2_orderKinds 70 = .ok (.iaload, 1) := by decide +kernel
theorem dX2_orderKinds_71 : decode cX2_orderKinds 71 = .ok (.iastore, 1) := by decide +kernel
theorem dX2_orderKinds_72 : decode cX2_orderKinds 72 = .ok (.iinc 4 (-1), 3) := by decide +kernel
theorem dX2_orderKinds_75 : decode cX2_orderKinds 75 = .ok (.goto (-47), 3) := by decide +kernel
theorem dX2_orderKinds_78 : decode cX2_orderKinds 78 = .ok (.aload_n 0, 1) := by decide +kernel
theorem dX2_orderKinds_79 : decode cX2_orderKinds 79 = .ok (.getfield 36, 3) := by decide +kernel
theorem dX2_orderKinds_82 : decode cX2_orderKinds 82 = .ok (.iload 4, 2) := by decide +kernel
theorem dX2_orderKinds_84 : decode cX2_orderKinds 84 = .ok (.iload_n 3, 1) := by decide +kernel
theorem dX2_orderKinds_85 : decode cX2_orderKinds 85 = .ok (.iastore, 1) := by decide +kernel
theorem dX2_orderKinds_86 : decode cX2_orderKinds 86 = .ok (.aload_n 0, 1) := by decide +kernel
theorem dX2_orderKinds_87 : decode cX2_orderKinds 87 = .ok (.dup, 1) := by decide +kernel
theorem dX2_orderKinds_88 : decode cX2_orderKinds 88 = .ok (.getfield 51, 3) := by decide +kernel
theorem dX2_orderKinds_91 : decode cX2_orderKinds 91 = .ok (.iconst 1, 1) := by decide +kernel
theorem dX2_orderKinds_92 : decode cX2_orderKinds 92 = .ok (.iadd, 1) := by decide +kernel
theorem dX2_orderKinds_93 : decode cX2_orderKinds 93 = .ok (.putfield 51, 3) := by decide +kernel
theorem dX2_orderKinds_96 : decode cX2_orderKinds 96 = .ok (.iinc 3 1, 3) := by decide +kernel
theorem dX2_orderKinds_99 : decode cX2_orderKinds 99 = .ok (.goto (-92), 3) := by decide +kernel
theorem dX2_orderKinds_102 : decode cX2_orderKinds 102 = .ok (.return_, 1) := by decide +kernel
theorem dX2_addGroup_0 : decode cX2_addGroup 0 = .ok (.iconst 0, 1) := by decide +kernel
theorem dX2_addGroup_1 : decode cX2_addGroup 1 = .ok (.istore 4, 2) := by decide +kernel
theorem dX2_addGroup_3 : decode cX2_addGroup 3 = .ok (.iconst 0, 1) := by decide +kernel
theorem dX2_addGroup_4 : decode cX2_addGroup 4 = .ok (.istore 5, 2) := by decide +kernel
theorem dX2_addGroup_6 : decode cX2_addGroup 6 = .ok (.iconst 0, 1) := by decide +kernel
theorem dX2_addGroup_7 : decode cX2_addGroup 7 = .ok (.istore 6, 2) := by decide +kernel
theorem dX2_addGroup_9 : decode cX2_addGroup 9 = .ok (.iconst 0, 1) := by decide +kernel
theorem dX2_addGroup_10 : decode cX2_addGroup 10 = .ok (.istore 7, 2) := by decide +kernel
theorem dX2_addGroup_12 : decode cX2_addGroup 12 = .ok (.iload 7, 2) := by decide +kernel
theorem dX2_addGroup_14 : decode cX2_addGroup 14 = .ok (.bipush 12, 2) := by decide +kernel
theorem dX2_addGroup_16 : decode cX2_addGroup 16 = .ok (.if_icmp .ge 55, 3) := by decide +kernel
theorem dX2_addGroup_19 : decode cX2_addGroup 19 = .ok (.aload_n 1, 1) := by decide +kernel
theorem dX2_addGroup_20 : decode cX2_addGroup 20 = .ok (.getfield 54, 3) := by decide +kernel
theorem dX2_addGroup_23 : decode cX2_addGroup 23 = .ok (.iload 7, 2) := by decide +kernel
theorem dX2_addGroup_25 : decode cX2_addGroup 25 = .ok (.iaload, 1) := by decide +kernel
theorem dX2_addGroup_26 : decode cX2_addGroup 26 = .ok (.iload_n 2, 1) := by decide +kernel
theorem dX2_addGroup_27 : decode cX2_addGroup 27 = .ok (.if_icmp .ne 38, 3) := by decide +kernel
theorem dX2_addGroup_30 : decode cX2_addGroup 30 = .ok (.iinc 4 1, 3) := by decide +kernel
theorem dX2_addGroup_33 : decode cX2_addGroup 33 = .ok (.iload 5, 2) := by decide +kernel
theorem dX2_addGroup_35 : decode cX2_addGroup 35 = .ok (.aload_n 3, 1) := by decide +kernel
theorem dX2_addGroup_36 : decode cX2_addGroup 36 = .ok (.getfield 65, 3) := by decide +kernel
theorem dX2_addGroup_39 : decode cX2_addGroup 39 = .ok (.iload 7, 2) := by decide +kernel
theorem dX2_addGroup_41 : decode cX2_addGroup 41 = .ok (.iaload, 1) := by decide +kernel
theorem dX2_addGroup_42 : decode cX2_addGroup 42 = .ok (.ifCond .le 7, 3) := by decide +kernel
theorem dX2_addGroup_45 : decode cX2_addGroup 45 = .ok (.iconst 1, 1) := by decide +kernel
theorem dX2_addGroup_46 : decode cX2_addGroup 46 = .ok (.goto 4, 3) := by decide +kernel
theorem dX2_addGroup_49 : decode cX2_addGroup 49 = .ok (.iconst 0, 1) := by decide +kernel
theorem dX2_addGroup_50 : decode cX2_addGroup 50 = .ok (.iadd, 1) := by decide +kernel
theorem dX2_addGroup_51 : decode cX2_addGroup 51 = .ok (.istore 5, 2) := by decide +kernel
theorem dX2_addGroup_53 : decode cX2_addGroup 53 = .ok (.iload 6, 2) := by decide +kernel
theorem dX2_addGroup_55 : decode cX2_addGroup 55 = .ok (.aload_n 3, 1) := by decide +kernel
theorem dX2_addGroup_56 : decode cX2_addGroup 56 = .ok (.getfield 72, 3) := by decide +kernel
theorem dX2_addGroup_59 : decode cX2_addGroup 59 = .ok (.iload 7, 2) := by decide +kernel
theorem dX2_addGroup_61 : decode cX2_addGroup 61 = .ok (.iaload, 1) := by decide +kernel
theorem dX2_addGroup_62 : decode cX2_addGroup 62 = .ok (.iadd, 1) := by decide +kernel
theorem dX2_addGroup_63 : decode cX2_addGroup 63 = .ok (.istore 6, 2) := by decide +kernel
theorem dX2_addGroup_65 : decode cX2_addGroup 65 = .ok (.iinc 7 1, 3) := by decide +kernel
theorem dX2_addGroup_68 : decode cX2_addGroup 68 = .ok (.goto (-56), 3) := by decide +kernel
theorem dX2_addGroup_71 : decode cX2_addGroup 71 = .ok (.aload_n 1, 1) := by decide +kernel
theorem dX2_addGroup_72 : decode cX2_addGroup 72 = .ok (.getfield 75, 3) := by decide +kernel
theorem dX2_addGroup_75 : decode cX2_addGroup 75 = .ok (.iload_n 2, 1) := by decide +kernel
theorem dX2_addGroup_76 : decode cX2_addGroup 76 = .ok (.iaload, 1) := by decide +kernel
theorem dX2_addGroup_77 : decode cX2_addGroup 77 = .ok (.iconst 1, 1) := by decide +kernel
theorem dX2_addGroup_78 : decode cX2_addGroup 78 = .ok (.if_icmp .ne 28, 3) := by decide +kernel
theorem dX2_addGroup_81 : decode cX2_addGroup 81 = .ok (.iload 5, 2) := by decide +kernel
theorem dX2_addGroup_83 : decode cX2_addGroup 83 = .ok (.iconst 2, 1) := by decide +kernel
theorem dX2_addGroup_84 : decode cX2_addGroup 84 = .ok (.if_icmp .lt 22, 3) := by decide +kernel
theorem dX2_addGroup_87 : decode cX2_addGroup 87 = .ok (.iload 5, 2) := by decide +kernel
theorem dX2_addGroup_89 : decode cX2_addGroup 89 = .ok (.iload 4, 2) := by decide +kernel
theorem dX2_addGroup_91 : decode cX2_addGroup 91 = .ok (.if_icmp .ne 15, 3) := by decide +kernel
theorem dX2_addGroup_94 : decode cX2_addGroup 94 = .ok (.aload_n 0, 1) := by decide +kernel
theorem dX2_addGroup_95 : decode cX2_addGroup 95 = .ok (.iconst 2, 1) := by decide +kernel
theorem dX2_addGroup_96 : decode cX2_addGroup 96 = .ok (.iconst (-1), 1) := by decide +kernel
theorem dX2_addGroup_97 : decode cX2_addGroup 97 = .ok (.iload_n 2, 1) := by decide +kernel
theorem dX2_addGroup_98 : decode cX2_addGroup 98 = .ok (.iconst (-1), 1) := by decide +kernel
theorem dX2_addGroup_99 : decode cX2_addGroup 99 = .ok (.iconst (-1), 1) := by decide +kernel
theorem dX2_addGroup_100 : decode cX2_addGroup 100 = .ok (.iload 6, 2) := by decide +kernel
theorem dX2_addGroup_102 : decode cX2_addGroup 102 = .ok (.invokevirtual 78, 3) := by decide +kernel
theorem dX2_addGroup_105 : decode cX2_addGroup 105 = .ok (.return_, 1) := by decide +kernel
theorem dX2_addGroup_106 : decode cX2_addGroup 106 = .ok (.iload 5, 2) := by decide +kernel
theorem dX2_addGroup_108 : decode cX2_addGroup 108 = .ok (.iconst 2, 1) := by decide +kernel
theorem dX2_addGroup_109 : decode cX2_addGroup 109 = .ok (.if_icmp .lt 13, 3) := by decide +kernel
theorem dX2_addGroup_112 : decode cX2_addGroup 112 = .ok (.aload_n 0, 1) := by decide +kernel
theorem dX2_addGroup_113 : decode cX2_addGroup 113 = .ok (.iconst 1, 1) := by decide +kernel
theorem dX2_addGroup_114 : decode cX2_addGroup 114 = .ok (.iconst (-1), 1) := by decide +kernel
theorem dX2_addGroup_115 : decode cX2_addGroup 115 = .ok (.iload_n 2, 1) := by decide +kernel
theorem dX2_addGroup_116 : decode cX2_addGroup 116 = .ok (.iconst (-1), 1) := by decide +kernel
theorem dX2_addGroup_117 : decode cX2_addGroup 117 = .ok (.iconst (-1), 1) := by decide +kernel
theorem dX2_addGroup_118 : decode cX2_addGroup 118 = .ok (.iconst 0, 1) := by decide +kernel
theorem dX2_addGroup_119 : decode cX2_addGroup 119 = .ok (.invokevirtual 78, 3) := by decide +kernel
theorem dX2_addGroup_122 : decode cX2_addGroup 122 = .ok (.iconst 0, 1) := by decide +kernel
theorem dX2_addGroup_123 : decode cX2_addGroup 123 = .ok (.istore 7, 2) := by decide +kernel
theorem dX2_addGroup_125 : decode cX2_addGroup 125 = .ok (.iload 7, 2) := by decide +kernel
theorem dX2_addGroup_127 : decode cX2_addGroup 127 = .ok (.aload_n 0, 1) := by decide +kernel
theorem dX2_addGroup_128 : decode cX2_addGroup 128 = .ok (.getfield 51, 3) := by decide +kernel
theorem dX2_addGroup_131 : decode cX2_addGroup 131 = .ok (.if_icmp .ge 38, 3) := by decide +kernel
theorem dX2_addGroup_134 : decode cX2_addGroup 134 = .ok (.aload_n 1, 1) := by decide +kernel
theorem dX2_addGroup_135 : decode cX2_addGroup 135 = .ok (.getfield 54, 3) := by decide +kernel
theorem dX2_addGroup_138 : decode cX2_addGroup 138 = .ok (.aload_n 0, 1) := by decide +kernel
theorem dX2_addGroup_139 : decode cX2_addGroup 139 = .ok (.getfield 36, 3) := by decide +kernel
theorem dX2_addGroup_142 : decode cX2_addGroup 142 = .ok (.iload 7, 2) := by decide +kernel
theorem dX2_addGroup_144 : decode cX2_addGroup 144 = .ok (.iaload, 1) := by decide +kernel
theorem dX2_addGroup_145 : decode cX2_addGroup 145 = .ok (.iaload, 1) := by decide +kernel
theorem dX2_addGroup_146 : decode cX2_addGroup 146 = .ok (.iload_n 2, 1) := by decide +kernel
theorem dX2_addGroup_147 : decode cX2_addGroup 147 = .ok (.if_icmp .ne 16, 3) := by decide +kernel
theorem dX2_addGroup_150 : decode cX2_addGroup 150 = .ok (.aload_n 0, 1) := by decide +kernel
theorem dX2_addGroup_151 : decode cX2_addGroup 151 = .ok (.aload_n 0, 1) := by decide +kernel
theorem dX2_addGroup_152 : decode cX2_addGroup 152 = .ok (.getfield 36, 3) := by decide +kernel
theorem dX2_addGroup_155 : decode cX2_addGroup 155 = .ok (.iload 7, 2) := by decide +kernel
theorem dX2_addGroup_157 : decode cX2_addGroup 157 = .ok (.iaload, 1) := by decide +kernel
theorem dX2_addGroup_158 : decode cX2_addGroup 158 = .ok (.iload_n 2, 1) := by decide +kernel
theorem dX2_addGroup_159 : decode cX2_addGroup 159 = .ok (.aload_n 3, 1) := by decide +kernel
theorem dX2_addGroup_160 : decode cX2_addGroup 160 = .ok (.invokevirtual 57, 3) := by decide +kernel
theorem dX2_addGroup_163 : decode cX2_addGroup 163 = .ok (.iinc 7 1, 3) := by decide +kernel
theorem dX2_addGroup_166 : decode cX2_addGroup 166 = .ok (.goto (-41), 3) := by decide +kernel
theorem dX2_addGroup_169 : decode cX2_addGroup 169 = .ok (.return_, 1) := by decide +kernel
theorem dX2_addKindLines_0 : decode cX2_addKindLines 0 = .ok (.iload_n 1, 1) := by decide +kernel
theorem dX2_addKindLines_1 : decode cX2_addKindLines 1 = .ok (.bipush 6, 2) := by decide +kernel
theorem dX2_addKindLines_3 : decode cX2_addKindLines 3 = .ok (.imul, 1) := by decide +kernel
theorem dX2_addKindLines_4 : decode cX2_addKindLines 4 = .ok (.istore 4, 2) := by decide +kernel
theorem dX2_addKindLines_6 : decode cX2_addKindLines 6 = .ok (.iload 4, 2) := by decide +kernel
theorem dX2_addKindLines_8 : decode cX2_addKindLines 8 = .ok (.istore 5, 2) := by decide +kernel
theorem dX2_addKindLines_10 : decode cX2_addKindLines 10 = .ok (.iload 5, 2) := by decide +kernel
theorem dX2_addKindLines_12 : decode cX2_addKindLines 12 = .ok (.iload 4, 2) := by decide +kernel
theorem dX2_addKindLines_14 : decode cX2_addKindLines 14 = .ok (.aload_n 3, 1) := by decide +kernel
theorem dX2_addKindLines_15 : decode cX2_addKindLines 15 = .ok (.getfield 65, 3) := by decide +kernel
theorem dX2_addKindLines_18 : decode cX2_addKindLines 18 = .ok (.iload_n 1, 1) := by decide +kernel
theorem dX2_addKindLines_19 : decode cX2_addKindLines 19 = .ok (.iaload, 1) := by decide +kernel
theorem dX2_addKindLines_20 : decode cX2_addKindLines 20 = .ok (.iadd, 1) := by decide +kernel
theorem dX2_addKindLines_21 : decode cX2_addKindLines 21 = .ok (.if_icmp .ge 37, 3) := by decide +kernel
theorem dX2_addKindLines_24 : decode cX2_addKindLines 24 = .ok (.aload_n 0, 1) := by decide +kernel
theorem dX2_addKindLines_25 : decode cX2_addKindLines 25 = .ok (.iconst 0, 1) := by decide +kernel
theorem dX2_addKindLines_26 : decode cX2_addKindLines 26 = .ok (.iload_n 1, 1) := by decide +kernel
theorem dX2_addKindLines_27 : decode cX2_addKindLines 27 = .ok (.iload_n 2, 1) := by decide +kernel
theorem dX2_addKindLines_28 : decode cX2_addKindLines 28 = .ok (.aload_n 3, 1) := by decide +kernel
theorem dX2_addKindLines_29 : decode cX2_addKindLines 29 = .ok (.getfield 82, 3) := by decide +kernel
theorem dX2_addKindLines_32 : decode cX2_addKindLines 32 = .ok (.iload 5, 2) := by decide +kernel
theorem dX2_addKindLines_34 : decode cX2_addKindLines 34 = .ok (.iaload, 1) := by decide +kernel
theorem dX2_addKindLines_35 : decode cX2_addKindLines 35 = .ok (.aload_n 3, 1) := by decide +kernel
theorem dX2_addKindLines_36 : decode cX2_addKindLines 36 = .ok (.getfield 83, 3) := by decide +kernel
theorem dX2_addKindLines_39 : decode cX2_addKindLines 39 = .ok (.iload 5, 2) := by decide +kernel
theorem dX2_addKindLines_41 : decode cX2_addKindLines 41 = .ok (.iaload, 1) := by decide +kernel
theorem dX2_addKindLines_42 : decode cX2_addKindLines 42 = .ok (.aload_n 3, 1) := by decide +kernel
theorem dX2_addKindLines_43 : decode cX2_addKindLines 43 = .ok (.getfield 84, 3) := by decide +kernel
theorem dX2_addKindLines_46 : decode cX2_addKindLines 46 = .ok (.iload 5, 2) := by decide +kernel
theorem dX2_addKindLines_48 : decode cX2_addKindLines 48 = .ok (.iaload, 1) := by decide +kernel
theorem dX2_addKindLines_49 : decode cX2_addKindLines 49 = .ok (.invokevirtual 78, 3) := by decide +kernel
theorem dX2_addKindLines_52 : decode cX2_addKindLines 52 = .ok (.iinc 5 1, 3) := by decide +kernel
theorem dX2_addKindLines_55 : decode cX2_addKindLines 55 = .ok (.goto (-45), 3) := by decide +kernel
theorem dX2_addKindLines_58 : decode cX2_addKindLines 58 = .ok (.return_, 1) := by decide +kernel
theorem dX2_add_0 : decode cX2_add 0 = .ok (.aload_n 0, 1) := by decide +kernel
theorem dX2_add_1 : decode cX2_add 1 = .ok (.getfield 43, 3) := by decide +kernel
theorem dX2_add_4 : decode cX2_add 4 = .ok (.bipush 77, 2) := by decide +kernel
theorem dX2_add_6 : decode cX2_add 6 = .ok (.if_icmp .lt 4, 3) := by decide +kernel
theorem dX2_add_9 : decode cX2_add 9 = .ok (.return_, 1) := by decide +kernel
theorem dX2_add_10 : decode cX2_add 10 = .ok (.aload_n 0, 1) := by decide +kernel
theorem dX2_add_11 : decode cX2_add 11 = .ok (.getfield 9, 3) := by decide +kernel
theorem dX2_add_14 : decode cX2_add 14 = .ok (.aload_n 0, 1) := by decide +kernel
theorem dX2_add_15 : decode cX2_add 15 = .ok (.getfield 43, 3) := by decide +kernel
theorem dX2_add_18 : decode cX2_add 18 = .ok (.iload_n 1, 1) := by decide +kernel
theorem dX2_add_19 : decode cX2_add 19 = .ok (.iastore, 1) := by decide +kernel
theorem dX2_add_20 : decode cX2_add 20 = .ok (.aload_n 0, 1) := by decide +kernel
theorem dX2_add_21 : decode cX2_add 21 = .ok (.getfield 15, 3) := by decide +kernel
theorem dX2_add_24 : decode cX2_add 24 = .ok (.aload_n 0, 1) := by decide +kernel
theorem dX2_add_25 : decode cX2_add 25 = .ok (.getfield 43, 3) := by decide +kernel
theorem dX2_add_28 : decode cX2_add 28 = .ok (.iload_n 2, 1) := by decide +kernel
theorem dX2_add_29 : decode cX2_add 29 = .ok (.iastore, 1) := by decide +kernel
theorem dX2_add_30 : decode cX2_add 30 = .ok (.aload_n 0, 1) := by decide +kernel
theorem dX2_add_31 : decode cX2_add 31 = .ok (.getfield 18, 3) := by decide +kernel
theorem dX2_add_34 : decode cX2_add 34 = .ok (.aload_n 0, 1) := by decide +kernel
theorem dX2_add_35 : decode cX2_add 35 = .ok (.getfield 43, 3) := by decide +kernel
theorem dX2_add_38 : decode cX2_add 38 = .ok (.iload_n 3, 1) := by decide +kernel
theorem dX2_add_39 : decode cX2_add 39 = .ok (.iastore, 1) := by decide +kernel
theorem dX2_add_40 : decode cX2_add 40 = .ok (.aload_n 0, 1) := by decide +kernel
theorem dX2_add_41 : decode cX2_add 41 = .ok (.getfield 21, 3) := by decide +kernel
theorem dX2_add_44 : decode cX2_add 44 = .ok (.aload_n 0, 1) := by decide +kernel
theorem dX2_add_45 : decode cX2_add 45 = .ok (.getfield 43, 3) := by decide +kernel
theorem dX2_add_48 : decode cX2_add 48 = .ok (.iload 4, 2) := by decide +kernel
theorem dX2_add_50 : decode cX2_add 50 = .ok (.iastore, 1) := by decide +kernel
theorem dX2_add_51 : decode cX2_add 51 = .ok (.aload_n 0, 1) := by decide +kernel
theorem dX2_add_52 : decode cX2_add 52 = .ok (.getfield 24, 3) := by decide +kernel
theorem dX2_add_55 : decode cX2_add 55 = .ok (.aload_n 0, 1) := by decide +kernel
theorem dX2_add_56 : decode cX2_add 56 = .ok (.getfield 43, 3) := by decide +kernel
theorem dX2_add_59 : decode cX2_add 59 = .ok (.iload 5, 2) := by decide +kernel
theorem dX2_add_61 : decode cX2_add 61 = .ok (.iastore, 1) := by decide +kernel
theorem dX2_add_62 : decode cX2_add 62 = .ok (.aload_n 0, 1) := by decide +kernel
theorem dX2_add_63 : decode cX2_add 63 = .ok (.getfield 27, 3) := by decide +kernel
theorem dX2_add_66 : decode cX2_add 66 = .ok (.aload_n 0, 1) := by decide +kernel
theorem dX2_add_67 : decode cX2_add 67 = .ok (.getfield 43, 3) := by decide +kernel
theorem dX2_add_70 : decode cX2_add 70 = .ok (.iload 6, 2) := by decide +kernel
theorem dX2_add_72 : decode cX2_add 72 = .ok (.iastore, 1) := by decide +kernel
theorem dX2_add_73 : decode cX2_add 73 = .ok (.aload_n 0, 1) := by decide +kernel
theorem dX2_add_74 : decode cX2_add 74 = .ok (.dup, 1) := by decide +kernel
theorem dX2_add_75 : decode cX2_add 75 = .ok (.getfield 43, 3) := by decide +kernel
theorem dX2_add_78 : decode cX2_add 78 = .ok (.iconst 1, 1) := by decide +kernel
theorem dX2_add_79 : decode cX2_add 79 = .ok (.iadd, 1) := by decide +kernel
theorem dX2_add_80 : decode cX2_add 80 = .ok (.putfield 43, 3) := by decide +kernel
theorem dX2_add_83 : decode cX2_add 83 = .ok (.return_, 1) := by decide +kernel
theorem dX2_layOut_0 : decode cX2_layOut 0 = .ok (.iload_n 1, 1) := by decide +kernel
theorem dX2_layOut_1 : decode cX2_layOut 1 = .ok (.ifCond .le 16, 3) := by decide +kernel
theorem dX2_layOut_4 : decode cX2_layOut 4 = .ok (.aload_n 0, 1) := by decide +kernel
theorem dX2_layOut_5 : decode cX2_layOut 5 = .ok (.getfield 43, 3) := by decide +kernel
theorem dX2_layOut_8 : decode cX2_layOut 8 = .ok (.iload_n 1, 1) := by decide +kernel
theorem dX2_layOut_9 : decode cX2_layOut 9 = .ok (.iadd, 1) := by decide +kernel
theorem dX2_layOut_10 : decode cX2_layOut 10 = .ok (.iconst 1, 1) := by decide +kernel
theorem dX2_layOut_11 : decode cX2_layOut 11 = .ok (.isub, 1) := by decide +kernel
theorem dX2_layOut_12 : decode cX2_layOut 12 = .ok (.iload_n 1, 1) := by decide +kernel
theorem dX2_layOut_13 : decode cX2_layOut 13 = .ok (.idiv, 1) := by decide +kernel
theorem dX2_layOut_14 : decode cX2_layOut 14 = .ok (.goto 7, 3) := by decide +kernel
theorem dX2_layOut_17 : decode cX2_layOut 17 = .ok (.aload_n 0, 1) := by decide +kernel
theorem dX2_layOut_18 : decode cX2_layOut 18 = .ok (.getfield 43, 3) := by decide +kernel
theorem dX2_layOut_21 : decode cX2_layOut 21 = .ok (.istore_n 2, 1) := by decide +kernel
theorem dX2_layOut_22 : decode cX2_layOut 22 = .ok (.iconst 0, 1) := by decide +kernel
theorem dX2_layOut_23 : decode cX2_layOut 23 = .ok (.istore_n 3, 1) := by decide +kernel
theorem dX2_layOut_24 : decode cX2_layOut 24 = .ok (.iconst 0, 1) := by decide +kernel
theorem dX2_layOut_25 : decode cX2_layOut 25 = .ok (.istore 4, 2) := by decide +kernel
theorem dX2_layOut_27 : decode cX2_layOut 27 = .ok (.aload_n 0, 1) := by decide +kernel
theorem dX2_layOut_28 : decode cX2_layOut 28 = .ok (.iconst 0, 1) := by decide +kernel
theorem dX2_layOut_29 : decode cX2_layOut 29 = .ok (.putfield 85, 3) := by decide +kernel
theorem dX2_layOut_32 : decode cX2_layOut 32 = .ok (.iconst 0, 1) := by decide +kernel
theorem dX2_layOut_33 : decode cX2_layOut 33 = .ok (.istore 5, 2) := by decide +kernel
theorem dX2_layOut_35 : decode cX2_layOut 35 = .ok (.iload 5, 2) := by decide +kernel
theorem dX2_layOut_37 : decode cX2_layOut 37 = .ok (.aload_n 0, 1) := by decide +kernel
theorem dX2_layOut_38 : decode cX2_layOut 38 = .ok (.getfield 43, 3) := by decide +kernel
theorem dX2_layOut_41 : decode cX2_layOut 41 = .ok (.if_icmp .ge 98, 3) := by decide +kernel
theorem dX2_layOut_44 : decode cX2_layOut 44 = .ok (.iload 4, 2) := by decide +kernel
theorem dX2_layOut_46 : decode cX2_layOut 46 = .ok (.iload_n 2, 1) := by decide +kernel
theorem dX2_layOut_47 : decode cX2_layOut 47 = .ok (.if_icmp .ge 28, 3) := by decide +kernel
theorem dX2_layOut_50 : decode cX2_layOut 50 = .ok (.aload_n 0, 1) := by decide +kernel
theorem dX2_layOut_51 : decode cX2_layOut 51 = .ok (.getfield 9, 3) := by decide +kernel
theorem dX2_layOut_54 : decode cX2_layOut 54 = .ok (.iload 5, 2) := by decide +kernel
theorem dX2_layOut_56 : decode cX2_layOut 56 = .ok (.iaload, 1) := by decide +kernel
theorem dX2_layOut_57 : decode cX2_layOut 57 = .ok (.iconst 1, 1) := by decide +kernel
theorem dX2_layOut_58 : decode cX2_layOut 58 = .ok (.if_icmp .ne 21, 3) := by decide +kernel
theorem dX2_layOut_61 : decode cX2_layOut 61 = .ok (.iload 4, 2) := by decide +kernel
theorem dX2_layOut_63 : decode cX2_layOut 63 = .ok (.iconst 1, 1) := by decide +kernel
theorem dX2_layOut_64 : decode cX2_layOut 64 = .ok (.if_icmp .lt 15, 3) := by decide +kernel
theorem dX2_layOut_67 : decode cX2_layOut 67 = .ok (.iload 4, 2) := by decide +kernel
theorem dX2_layOut_69 : decode cX2_layOut 69 = .ok (.iload_n 2, 1) := by decide +kernel
theorem dX2_layOut_70 : decode cX2_layOut 70 = .ok (.iconst 1, 1) := by decide +kernel
theorem dX2_layOut_71 : decode cX2_layOut 71 = .ok (.isub, 1) := by decide +kernel
theorem dX2_layOut_72 : decode cX2_layOut 72 = .ok (.if_icmp .lt 7, 3) := by decide +kernel
theorem dX2_layOut_75 : decode cX2_layOut 75 = .ok (.iconst 1, 1) := by decide +kernel
theorem dX2_layOut_76 : decode cX2_layOut 76 = .ok (.goto 4, 3) := by decide +kernel
theorem dX2_layOut_79 : decode cX2_layOut 79 = .ok (.iconst 0, 1) := by decide +kernel
theorem dX2_layOut_80 : decode cX2_layOut 80 = .ok (.istore 6, 2) := by decide +kernel
theorem dX2_layOut_82 : decode cX2_layOut 82 = .ok (.iload 6, 2) := by decide +kernel
theorem dX2_layOut_84 : decode cX2_layOut 84 = .ok (.ifCond .eq 16, 3) := by decide +kernel
theorem dX2_layOut_87 : decode cX2_layOut 87 = .ok (.iload_n 3, 1) := by decide +kernel
theorem dX2_layOut_88 : decode cX2_layOut 88 = .ok (.iload_n 1, 1) := by decide +kernel
theorem dX2_layOut_89 : decode cX2_layOut 89 = .ok (.iconst 1, 1) := by decide +kernel
theorem dX2_layOut_90 : decode cX2_layOut 90 = .ok (.isub, 1) := by decide +kernel
theorem dX2_layOut_91 : decode cX2_layOut 91 = .ok (.if_icmp .ge 9, 3) := by decide +kernel
theorem dX2_layOut_94 : decode cX2_layOut 94 = .ok (.iinc 3 1, 3) := by decide +kernel
theorem dX2_layOut_97 : decode cX2_layOut 97 = .ok (.iconst 0, 1) := by decide +kernel
theorem dX2_layOut_98 : decode cX2_layOut 98 = .ok (.istore 4, 2) := by decide +kernel
theorem dX2_layOut_100 : decode cX2_layOut 100 = .ok (.aload_n 0, 1) := by decide +kernel
theorem dX2_layOut_101 : decode cX2_layOut 101 = .ok (.getfield 30, 3) := by decide +kernel
theorem dX2_layOut_104 : decode cX2_layOut 104 = .ok (.iload 5, 2) := by decide +kernel
theorem dX2_layOut_106 : decode cX2_layOut 106 = .ok (.iload_n 3, 1) := by decide +kernel
theorem dX2_layOut_107 : decode cX2_layOut 107 = .ok (.iastore, 1) := by decide +kernel
theorem dX2_layOut_108 : decode cX2_layOut 108 = .ok (.aload_n 0, 1) := by decide +kernel
theorem dX2_layOut_109 : decode cX2_layOut 109 = .ok (.getfield 33, 3) := by decide +kernel
theorem dX2_layOut_112 : decode cX2_layOut 112 = .ok (.iload 5, 2) := by decide +kernel
theorem dX2_layOut_114 : decode cX2_layOut 114 = .ok (.iload 4, 2) := by decide +kernel
theorem dX2_layOut_116 : decode cX2_layOut 116 = .ok (.iastore, 1) := by decide +kernel
theorem dX2_layOut_117 : decode cX2_layOut 117 = .ok (.iinc 4 1, 3) := by decide +kernel
theorem dX2_layOut_120 : decode cX2_layOut 120 = .ok (.aload_n 0, 1) := by decide +kernel
theorem dX2_layOut_121 : decode cX2_layOut 121 = .ok (.aload_n 0, 1) := by decide +kernel
theorem dX2_layOut_122 : decode cX2_layOut 122 = .ok (.getfield 85, 3) := by decide +kernel
theorem dX2_layOut_125 : decode cX2_layOut 125 = .ok (.iload 4, 2) := by decide +kernel
theorem dX2_layOut_127 : decode cX2_layOut 127 = .ok (.invokestatic 88, 3) := by decide +kernel
theorem dX2_layOut_130 : decode cX2_layOut 130 = .ok (.putfield 85, 3) := by decide +kernel
theorem dX2_layOut_133 : decode cX2_layOut 133 = .ok (.iinc 5 1, 3) := by decide +kernel
theorem dX2_layOut_136 : decode cX2_layOut 136 = .ok (.goto (-101), 3) := by decide +kernel
theorem dX2_layOut_139 : decode cX2_layOut 139 = .ok (.aload_n 0, 1) := by decide +kernel
theorem dX2_layOut_140 : decode cX2_layOut 140 = .ok (.aload_n 0, 1) := by decide +kernel
theorem dX2_layOut_141 : decode cX2_layOut 141 = .ok (.getfield 43, 3) := by decide +kernel
theorem dX2_layOut_144 : decode cX2_layOut 144 = .ok (.ifCond .le 9, 3) := by decide +kernel
theorem dX2_layOut_147 : decode cX2_layOut 147 = .ok (.iload_n 3, 1) := by decide +kernel
theorem dX2_layOut_148 : decode cX2_layOut 148 = .ok (.iconst 1, 1) := by decide +kernel
theorem dX2_layOut_149 : decode cX2_layOut 149 = .ok (.iadd, 1) := by decide +kernel
theorem dX2_layOut_150 : decode cX2_layOut 150 = .ok (.goto 4, 3) := by decide +kernel
theorem dX2_layOut_153 : decode cX2_layOut 153 = .ok (.iconst 0, 1) := by decide +kernel
theorem dX2_layOut_154 : decode cX2_layOut 154 = .ok (.putfield 94, 3) := by decide +kernel
theorem dX2_layOut_157 : decode cX2_layOut 157 = .ok (.return_, 1) := by decide +kernel
theorem dX2_countOfKind_0 : decode cX2_countOfKind 0 = .ok (.iconst 0, 1) := by decide +kernel
theorem dX2_countOfKind_1 : decode cX2_countOfKind 1 = .ok (.istore_n 2, 1) := by decide +kernel
theorem dX2_countOfKind_2 : decode cX2_countOfKind 2 = .ok (.iconst 0, 1) := by decide +kernel
theorem dX2_countOfKind_3 : decode cX2_countOfKind 3 = .ok (.istore_n 3, 1) := by decide +kernel
theorem dX2_countOfKind_4 : decode cX2_countOfKind 4 = .ok (.iload_n 3, 1) := by decide +kernel
theorem dX2_countOfKind_5 : decode cX2_countOfKind 5 = .ok (.aload_n 0, 1) := by decide +kernel
theorem dX2_countOfKind_6 : decode cX2_countOfKind 6 = .ok (.getfield 43, 3) := by decide +kernel
theorem dX2_countOfKind_9 : decode cX2_countOfKind 9 = .ok (.if_icmp .ge 31, 3) := by decide +kernel
theorem dX2_countOfKind_12 : decode cX2_countOfKind 12 = .ok (.aload_n 0, 1) := by decide +kernel
theorem dX2_countOfKind_13 : decode cX2_countOfKind 13 = .ok (.getfield 9, 3) := by decide +kernel
theorem dX2_countOfKind_16 : decode cX2_countOfKind 16 = .ok (.iload_n 3, 1) := by decide +kernel
theorem dX2_countOfKind_17 : decode cX2_countOfKind 17 = .ok (.iaload, 1) := by decide +kernel
theorem dX2_countOfKind_18 : decode cX2_countOfKind 18 = .ok (.ifCond .ne 16, 3) := by decide +kernel
theorem dX2_countOfKind_21 : decode cX2_countOfKind 21 = .ok (.aload_n 0, 1) := by decide +kernel
theorem dX2_countOfKind_22 : decode cX2_countOfKind 22 = .ok (.getfield 15, 3) := by decide +kernel
theorem dX2_countOfKind_25 : decode cX2_countOfKind 25 = .ok (.iload_n 3, 1) := by decide +kernel
theorem dX2_countOfKind_26 : decode cX2_countOfKind 26 = .ok (.iaload, 1) := by decide +kernel
theorem dX2_countOfKind_27 : decode cX2_countOfKind 27 = .ok (.iload_n 1, 1) := by decide +kernel
theorem dX2_countOfKind_28 : decode cX2_countOfKind 28 = .ok (.if_icmp .ne 6, 3) := by decide +kernel
theorem dX2_countOfKind_31 : decode cX2_countOfKind 31 = .ok (.iinc 2 1, 3) := by decide +kernel
theorem dX2_countOfKind_34 : decode cX2_countOfKind 34 = .ok (.iinc 3 1, 3) := by decide +kernel
theorem dX2_countOfKind_37 : decode cX2_countOfKind 37 = .ok (.goto (-33), 3) := by decide +kernel
theorem dX2_countOfKind_40 : decode cX2_countOfKind 40 = .ok (.iload_n 2, 1) := by decide +kernel
theorem dX2_countOfKind_41 : decode cX2_countOfKind 41 = .ok (.ireturn, 1) := by decide +kernel
theorem dX2_fact_0 : decode cX2_fact 0 = .ok (.iload_n 1, 1) := by decide +kernel
theorem dX2_fact_1 : decode cX2_fact 1 = .ok (.ifCond .lt 11, 3) := by decide +kernel
theorem dX2_fact_4 : decode cX2_fact 4 = .ok (.iload_n 1, 1) := by decide +kernel
theorem dX2_fact_5 : decode cX2_fact 5 = .ok (.aload_n 0, 1) := by decide +kernel
theorem dX2_fact_6 : decode cX2_fact 6 = .ok (.getfield 43, 3) := by decide +kernel
theorem dX2_fact_9 : decode cX2_fact 9 = .ok (.if_icmp .lt 5, 3) := by decide +kernel
theorem dX2_fact_12 : decode cX2_fact 12 = .ok (.iconst (-1), 1) := by decide +kernel
theorem dX2_fact_13 : decode cX2_fact 13 = .ok (.ireturn, 1) := by decide +kernel
theorem dX2_fact_14 : decode cX2_fact 14 = .ok (.iload_n 2, 1) := by decide +kernel
theorem dX2_fact_15 : decode cX2_fact 15 = .ok (.tableswitch 90 0 6 #[41, 48, 55, 62, 69, 76, 83], 41) := by decide +kernel
theorem dX2_fact_56 : decode cX2_fact 56 = .ok (.aload_n 0, 1) := by decide +kernel
theorem dX2_fact_57 : decode cX2_fact 57 = .ok (.getfield 9, 3) := by decide +kernel
theorem dX2_fact_60 : decode cX2_fact 60 = .ok (.iload_n 1, 1) := by decide +kernel
theorem dX2_fact_61 : decode cX2_fact 61 = .ok (.iaload, 1) := by decide +kernel
theorem dX2_fact_62 : decode cX2_fact 62 = .ok (.ireturn, 1) := by decide +kernel
theorem dX2_fact_63 : decode cX2_fact 63 = .ok (.aload_n 0, 1) := by decide +kernel
theorem dX2_fact_64 : decode cX2_fact 64 = .ok (.getfield 15, 3) := by decide +kernel
theorem dX2_fact_67 : decode cX2_fact 67 = .ok (.iload_n 1, 1) := by decide +kernel
theorem dX2_fact_68 : decode cX2_fact 68 = .ok (.iaload, 1) := by decide +kernel
theorem dX2_fact_69 : decode cX2_fact 69 = .ok (.ireturn, 1) := by decide +kernel
theorem dX2_fact_70 : decode cX2_fact 70 = .ok (.aload_n 0, 1) := by decide +kernel
theorem dX2_fact_71 : decode cX2_fact 71 = .ok (.getfield 18, 3) := by decide +kernel
theorem dX2_fact_74 : decode cX2_fact 74 = .ok (.iload_n 1, 1) := by decide +kernel
theorem dX2_fact_75 : decode cX2_fact 75 = .ok (.iaload, 1) := by decide +kernel
theorem dX2_fact_76 : decode cX2_fact 76 = .ok (.ireturn, 1) := by decide +kernel
theorem dX2_fact_77 : decode cX2_fact 77 = .ok (.aload_n 0, 1) := by decide +kernel
theorem dX2_fact_78 : decode cX2_fact 78 = .ok (.getfield 21, 3) := by decide +kernel
theorem dX2_fact_81 : decode cX2_fact 81 = .ok (.iload_n 1, 1) := by decide +kernel
theorem dX2_fact_82 : decode cX2_fact 82 = .ok (.iaload, 1) := by decide +kernel
theorem dX2_fact_83 : decode cX2_fact 83 = .ok (.ireturn, 1) := by decide +kernel
theorem dX2_fact_84 : decode cX2_fact 84 = .ok (.aload_n 0, 1) := by decide +kernel
theorem dX2_fact_85 : decode cX2_fact 85 = .ok (.getfield 24, 3) := by decide +kernel
theorem dX2_fact_88 : decode cX2_fact 88 = .ok (.iload_n 1, 1) := by decide +kernel
theorem dX2_fact_89 : decode cX2_fact 89 = .ok (.iaload, 1) := by decide +kernel
theorem dX2_fact_90 : decode cX2_fact 90 = .ok (.ireturn, 1) := by decide +kernel
theorem dX2_fact_91 : decode cX2_fact 91 = .ok (.aload_n 0, 1) := by decide +kernel
theorem dX2_fact_92 : decode cX2_fact 92 = .ok (.getfield 27, 3) := by decide +kernel
theorem dX2_fact_95 : decode cX2_fact 95 = .ok (.iload_n 1, 1) := by decide +kernel
theorem dX2_fact_96 : decode cX2_fact 96 = .ok (.iaload, 1) := by decide +kernel
theorem dX2_fact_97 : decode cX2_fact 97 = .ok (.ireturn, 1) := by decide +kernel
theorem dX2_fact_98 : decode cX2_fact 98 = .ok (.aload_n 0, 1) := by decide +kernel
theorem dX2_fact_99 : decode cX2_fact 99 = .ok (.getfield 30, 3) := by decide +kernel
theorem dX2_fact_102 : decode cX2_fact 102 = .ok (.iload_n 1, 1) := by decide +kernel
theorem dX2_fact_103 : decode cX2_fact 103 = .ok (.iaload, 1) := by decide +kernel
theorem dX2_fact_104 : decode cX2_fact 104 = .ok (.ireturn, 1) := by decide +kernel
theorem dX2_fact_105 : decode cX2_fact 105 = .ok (.aload_n 0, 1) := by decide +kernel
theorem dX2_fact_106 : decode cX2_fact 106 = .ok (.getfield 33, 3) := by decide +kernel
theorem dX2_fact_109 : decode cX2_fact 109 = .ok (.iload_n 1, 1) := by decide +kernel
theorem dX2_fact_110 : decode cX2_fact 110 = .ok (.iaload, 1) := by decide +kernel
theorem dX2_fact_111 : decode cX2_fact 111 = .ok (.ireturn, 1) := by decide +kernel
theorem dX3_init_0 : decode cX3_init 0 = .ok (.aload_n 0, 1) := by decide +kernel
theorem dX3_init_1 : decode cX3_init 1 = .ok (.invokespecial 3, 3) := by decide +kernel
theorem dX3_init_4 : decode cX3_init 4 = .ok (.aload_n 0, 1) := by decide +kernel
theorem dX3_init_5 : decode cX3_init 5 = .ok (.bipush 40, 2) := by decide +kernel
theorem dX3_init_7 : decode cX3_init 7 = .ok (.newarray .int, 2) := by decide +kernel
theorem dX3_init_9 : decode cX3_init 9 = .ok (.putfield 9, 3) := by decide +kernel
theorem dX3_init_12 : decode cX3_init 12 = .ok (.aload_n 0, 1) := by decide +kernel
theorem dX3_init_13 : decode cX3_init 13 = .ok (.bipush 40, 2) := by decide +kernel
theorem dX3_init_15 : decode cX3_init 15 = .ok (.newarray .int, 2) := by decide +kernel
theorem dX3_init_17 : decode cX3_init 17 = .ok (.putfield 15, 3) := by decide +kernel
theorem dX3_init_20 : decode cX3_init 20 = .ok (.aload_n 0, 1) := by decide +kernel
theorem dX3_init_21 : decode cX3_init 21 = .ok (.bipush 40, 2) := by decide +kernel
theorem dX3_init_23 : decode cX3_init 23 = .ok (.newarray .int, 2) := by decide +kernel
theorem dX3_init_25 : decode cX3_init 25 = .ok (.putfield 18, 3) := by decide +kernel
theorem dX3_init_28 : decode cX3_init 28 = .ok (.aload_n 0, 1) := by decide +kernel
theorem dX3_init_29 : decode cX3_init 29 = .ok (.bipush 40, 2) := by decide +kernel
theorem dX3_init_31 : decode cX3_init 31 = .ok (.newarray .int, 2) := by decide +kernel
theorem dX3_init_33 : decode cX3_init 33 = .ok (.putfield 21, 3) := by decide +kernel
theorem dX3_init_36 : decode cX3_init 36 = .ok (.aload_n 0, 1) := by decide +kernel
theorem dX3_init_37 : decode cX3_init 37 = .ok (.bipush 40, 2) := by decide +kernel
theorem dX3_init_39 : decode cX3_init 39 = .ok (.newarray .int, 2) := by decide +kernel
theorem dX3_init_41 : decode cX3_init 41 = .ok (.putfield 24, 3) := by decide +kernel
theorem dX3_init_44 : decode cX3_init 44 = .ok (.aload_n 0, 1) := by decide +kernel
theorem dX3_init_45 : decode cX3_init 45 = .ok (.bipush 12, 2) := by decide +kernel
theorem dX3_init_47 : decode cX3_init 47 = .ok (.newarray .int, 2) := by decide +kernel
theorem dX3_init_49 : decode cX3_init 49 = .ok (.putfield 27, 3) := by decide +kernel
theorem dX3_init_52 : decode cX3_init 52 = .ok (.aload_n 0, 1) := by decide +kernel
theorem dX3_init_53 : decode cX3_init 53 = .ok (.bipush 12, 2) := by decide +kernel
theorem dX3_init_55 : decode cX3_init 55 = .ok (.newarray .int, 2) := by decide +kernel
theorem dX3_init_57 : decode cX3_init 57 = .ok (.putfield 30, 3) := by decide +kernel
theorem dX3_init_60 : decode cX3_init 60 = .ok (.aload_n 0, 1) := by decide +kernel
theorem dX3_init_61 : decode cX3_init 61 = .ok (.bipush 12, 2) := by decide +kernel
theorem dX3_init_63 : decode cX3_init 63 = .ok (.newarray .int, 2) := by decide +kernel
theorem dX3_init_65 : decode cX3_init 65 = .ok (.putfield 33, 3) := by decide +kernel
theorem dX3_init_68 : decode cX3_init 68 = .ok (.aload_n 0, 1) := by decide +kernel
theorem dX3_init_69 : decode cX3_init 69 = .ok (.bipush 60, 2) := by decide +kernel
theorem dX3_init_71 : decode cX3_init 71 = .ok (.newarray .int, 2) := by decide +kernel
theorem dX3_init_73 : decode cX3_init 73 = .ok (.putfield 36, 3) := by decide +kernel
theorem dX3_init_76 : decode cX3_init 76 = .ok (.aload_n 0, 1) := by decide +kernel
theorem dX3_init_77 : decode cX3_init 77 = .ok (.iconst 5, 1) := by decide +kernel
theorem dX3_init_78 : decode cX3_init 78 = .ok (.newarray .int, 2) := by decide +kernel
theorem dX3_init_80 : decode cX3_init 80 = .ok (.putfield 39, 3) := by decide +kernel
theorem dX3_init_83 : decode cX3_init 83 = .ok (.aload_n 0, 1) := by decide +kernel
theorem dX3_init_84 : decode cX3_init 84 = .ok (.iconst 5, 1) := by decide +kernel
theorem dX3_init_85 : decode cX3_init 85 = .ok (.newarray .int, 2) := by decide +kernel
theorem dX3_init_87 : decode cX3_init 87 = .ok (.putfield 42, 3) := by decide +kernel
theorem dX3_init_90 : decode cX3_init 90 = .ok (.aload_n 0, 1) := by decide +kernel
theorem dX3_init_91 : decode cX3_init 91 = .ok (.iconst 4, 1) := by decide +kernel
theorem dX3_init_92 : decode cX3_init 92 = .ok (.newarray .int, 2) := by decide +kernel
theorem dX3_init_94 : decode cX3_init 94 = .ok (.putfield 45, 3) := by decide +kernel
theorem dX3_init_97 : decode cX3_init 97 = .ok (.iconst 0, 1) := by decide +kernel
theorem dX3_init_98 : decode cX3_init 98 = .ok (.istore_n 1, 1) := by decide +kernel
theorem dX3_init_99 : decode cX3_init 99 = .ok (.iload_n 1, 1) := by decide +kernel
theorem dX3_init_100 : decode cX3_init 100 = .ok (.bipush 12, 2) := by decide +kernel
theorem dX3_init_102 : decode cX3_init 102 = .ok (.if_icmp .ge 23, 3) := by decide +kernel
theorem dX3_init_105 : decode cX3_init 105 = .ok (.aload_n 0, 1) := by decide +kernel
theorem dX3_init_106 : decode cX3_init 106 = .ok (.getfield 27, 3) := by decide +kernel
theorem dX3_init_109 : decode cX3_init 109 = .ok (.iload_n 1, 1) := by decide +kernel
theorem dX3_init_110 : decode cX3_init 110 = .ok (.iload_n 1, 1) := by decide +kernel
theorem dX3_init_111 : decode cX3_init 111 = .ok (.iastore, 1) := by decide +kernel
theorem dX3_init_112 : decode cX3_init 112 = .ok (.aload_n 0, 1) := by decide +kernel
theorem dX3_init_113 : decode cX3_init 113 = .ok (.getfield 30, 3) := by decide +kernel
theorem dX3_init_116 : decode cX3_init 116 = .ok (.iload_n 1, 1) := by decide +kernel
theorem dX3_init_117 : decode cX3_init 117 = .ok (.iconst (-1), 1) := by decide +kernel
theorem dX3_init_118 : decode cX3_init 118 = .ok (.iastore, 1) := by decide +kernel
theorem dX3_init_119 : decode cX3_init 119 = .ok (.iinc 1 1, 3) := by decide +kernel
theorem dX3_init_122 : decode cX3_init 122 = .ok (.goto (-23), 3) := by decide +kernel
theorem dX3_init_125 : decode cX3_init 125 = .ok (.aload_n 0, 1) := by decide +kernel
theorem dX3_init_126 : decode cX3_init 126 = .ok (.getfield 42, 3) := by decide +kernel
theorem dX3_init_129 : decode cX3_init 129 = .ok (.iconst 2, 1) := by decide +kernel
theorem dX3_init_130 : decode cX3_init 130 = .ok (.bipush 100, 2) := by decide +kernel
theorem dX3_init_132 : decode cX3_init 132 = .ok (.iastore, 1) := by decide +kernel
theorem dX3_init_133 : decode cX3_init 133 = .ok (.aload_n 0, 1) := by decide +kernel
theorem dX3_init_134 : decode cX3_init 134 = .ok (.getfield 42, 3) := by decide +kernel
theorem dX3_init_137 : decode cX3_init 137 = .ok (.iconst 3, 1) := by decide +kernel
theorem dX3_init_138 : decode cX3_init 138 = .ok (.bipush 100, 2) := by decide +kernel
theorem dX3_init_140 : decode cX3_init 140 = .ok (.iastore, 1) := by decide +kernel
theorem dX3_init_141 : decode cX3_init 141 = .ok (.aload_n 0, 1) := by decide +kernel
theorem dX3_init_142 : decode cX3_init 142 = .ok (.getfield 42, 3) := by decide +kernel
theorem dX3_init_145 : decode cX3_init 145 = .ok (.iconst 4, 1) := by decide +kernel
theorem dX3_init_146 : decode cX3_init 146 = .ok (.iconst 5, 1) := by decide +kernel
theorem dX3_init_147 : decode cX3_init 147 = .ok (.iastore, 1) := by decide +kernel
theorem dX3_init_148 : decode cX3_init 148 = .ok (.aload_n 0, 1) := by decide +kernel
theorem dX3_init_149 : decode cX3_init 149 = .ok (.getfield 45, 3) := by decide +kernel
theorem dX3_init_152 : decode cX3_init 152 = .ok (.iconst 0, 1) := by decide +kernel
theorem dX3_init_153 : decode cX3_init 153 = .ok (.iconst 3, 1) := by decide +kernel
theorem dX3_init_154 : decode cX3_init 154 = .ok (.iastore, 1) := by decide +kernel
theorem dX3_init_155 : decode cX3_init 155 = .ok (.aload_n 0, 1) := by decide +kernel
theorem dX3_init_156 : decode cX3_init 156 = .ok (.getfield 45, 3) := by decide +kernel
theorem dX3_init_159 : decode cX3_init 159 = .ok (.iconst 1, 1) := by decide +kernel
theorem dX3_init_160 : decode cX3_init 160 = .ok (.iconst 1, 1) := by decide +kernel
theorem dX3_init_161 : decode cX3_init 161 = .ok (.iastore, 1) := by decide +kernel
theorem dX3_init_162 : decode cX3_init 162 = .ok (.aload_n 0, 1) := by decide +kernel
theorem dX3_init_163 : decode cX3_init 163 = .ok (.getfield 45, 3) := by decide +kernel
theorem dX3_init_166 : decode cX3_init 166 = .ok (.iconst 2, 1) := by decide +kernel
theorem dX3_init_167 : decode cX3_init 167 = .ok (.bipush 20, 2) := by decide +kernel
theorem dX3_init_169 : decode cX3_init 169 = .ok (.iastore, 1) := by decide +kernel
theorem dX3_init_170 : decode cX3_init 170 = .ok (.aload_n 0, 1) := by decide +kernel
theorem dX3_init_171 : decode cX3_init 171 = .ok (.getfield 45, 3) := by decide +kernel
theorem dX3_init_174 : decode cX3_init 174 = .ok (.iconst 3, 1) := by decide +kernel
theorem dX3_init_175 : decode cX3_init 175 = .ok (.iconst 5, 1) := by decide +kernel
theorem dX3_init_176 : decode cX3_init 176 = .ok (.iastore, 1) := by decide +kernel
theorem dX3_init_177 : decode cX3_init 177 = .ok (.return_, 1) := by decide +kernel
theorem dX3_copyFrom_0 : decode cX3_copyFrom 0 = .ok (.aload_n 0, 1) := by decide +kernel
theorem dX3_copyFrom_1 : decode cX3_copyFrom 1 = .ok (.aload_n 1, 1) := by decide +kernel
theorem dX3_copyFrom_2 : decode cX3_copyFrom 2 = .ok (.invokevirtual 48, 3) := by decide +kernel
theorem dX3_copyFrom_5 : decode cX3_copyFrom 5 = .ok (.aload_n 1, 1) := by decide +kernel
theorem dX3_copyFrom_6 : decode cX3_copyFrom 6 = .ok (.getfield 27, 3) := by decide +kernel
theorem dX3_copyFrom_9 : decode cX3_copyFrom 9 = .ok (.iconst 0, 1) := by decide +kernel
theorem dX3_copyFrom_10 : decode cX3_copyFrom 10 = .ok (.aload_n 0, 1) := by decide +kernel
theorem dX3_copyFrom_11 : decode cX3_copyFrom 11 = .ok (.getfield 27, 3) := by decide +kernel
theorem dX3_copyFrom_14 : decode cX3_copyFrom 14 = .ok (.iconst 0, 1) := by decide +kernel
theorem dX3_copyFrom_15 : decode cX3_copyFrom 15 = .ok (.bipush 12, 2) := by decide +kernel
theorem dX3_copyFrom_17 : decode cX3_copyFrom 17 = .ok (.invokestatic 52, 3) := by decide +kernel
theorem dX3_copyFrom_20 : decode cX3_copyFrom 20 = .ok (.aload_n 1, 1) := by decide +kernel
theorem dX3_copyFrom_21 : decode cX3_copyFrom 21 = .ok (.getfield 30, 3) := by decide +kernel
theorem dX3_copyFrom_24 : decode cX3_copyFrom 24 = .ok (.iconst 0, 1) := by decide +kernel
theorem dX3_copyFrom_25 : decode cX3_copyFrom 25 = .ok (.aload_n 0, 1) := by decide +kernel
theorem dX3_copyFrom_26 : decode cX3_copyFrom 26 = .ok (.getfield 30, 3) := by decide +kernel
theorem dX3_copyFrom_29 : decode cX3_copyFrom 29 = .ok (.iconst 0, 1) := by decide +kernel
theorem dX3_copyFrom_30 : decode cX3_copyFrom 30 = .ok (.bipush 12, 2) := by decide +kernel
theorem dX3_copyFrom_32 : decode cX3_copyFrom 32 = .ok (.invokestatic 52, 3) := by decide +kernel
theorem dX3_copyFrom_35 : decode cX3_copyFrom 35 = .ok (.aload_n 1, 1) := by decide +kernel
theorem dX3_copyFrom_36 : decode cX3_copyFrom 36 = .ok (.getfield 33, 3) := by decide +kernel
theorem dX3_copyFrom_39 : decode cX3_copyFrom 39 = .ok (.iconst 0, 1) := by decide +kernel
theorem dX3_copyFrom_40 : decode cX3_copyFrom 40 = .ok (.aload_n 0, 1) := by decide +kernel
theorem dX3_copyFrom_41 : decode cX3_copyFrom 41 = .ok (.getfield 33, 3) := by decide +kernel
theorem dX3_copyFrom_44 : decode cX3_copyFrom 44 = .ok (.iconst 0, 1) := by decide +kernel
theorem dX3_copyFrom_45 : decode cX3_copyFrom 45 = .ok (.bipush 12, 2) := by decide +kernel
theorem dX3_copyFrom_47 : decode cX3_copyFrom 47 = .ok (.invokestatic 52, 3) := by decide +kernel
theorem dX3_copyFrom_50 : decode cX3_copyFrom 50 = .ok (.aload_n 1, 1) := by decide +kernel
theorem dX3_copyFrom_51 : decode cX3_copyFrom 51 = .ok (.getfield 36, 3) := by decide +kernel
theorem dX3_copyFrom_54 : decode cX3_copyFrom 54 = .ok (.iconst 0, 1) := by decide +kernel
theorem dX3_copyFrom_55 : decode cX3_copyFrom 55 = .ok (.aload_n 0, 1) := by decide +kernel
theorem dX3_copyFrom_56 : decode cX3_copyFrom 56 = .ok (.getfield 36, 3) := by decide +kernel
theorem dX3_copyFrom_59 : decode cX3_copyFrom 59 = .ok (.iconst 0, 1) := by decide +kernel
theorem dX3_copyFrom_60 : decode cX3_copyFrom 60 = .ok (.bipush 60, 2) := by decide +kernel
theorem dX3_copyFrom_62 : decode cX3_copyFrom 62 = .ok (.invokestatic 52, 3) := by decide +kernel
theorem dX3_copyFrom_65 : decode cX3_copyFrom 65 = .ok (.aload_n 1, 1) := by decide +kernel
theorem dX3_copyFrom_66 : decode cX3_copyFrom 66 = .ok (.getfield 39, 3) := by decide +kernel
theorem dX3_copyFrom_69 : decode cX3_copyFrom 69 = .ok (.iconst 0, 1) := by decide +kernel
theorem dX3_copyFrom_70 : decode cX3_copyFrom 70 = .ok (.aload_n 0, 1) := by decide +kernel
theorem dX3_copyFrom_71 : decode cX3_copyFrom 71 = .ok (.getfield 39, 3) := by decide +kernel
theorem dX3_copyFrom_74 : decode cX3_copyFrom 74 = .ok (.iconst 0, 1) := by decide +kernel
theorem dX3_copyFrom_75 : decode cX3_copyFrom 75 = .ok (.iconst 5, 1) := by decide +kernel
theorem dX3_copyFrom_76 : decode cX3_copyFrom 76 = .ok (.invokestatic 52, 3) := by decide +kernel
theorem dX3_copyFrom_79 : decode cX3_copyFrom 79 = .ok (.aload_n 1, 1) := by decide +kernel
theorem dX3_copyFrom_80 : decode cX3_copyFrom 80 = .ok (.getfield 42, 3) := by decide +kernel
theorem dX3_copyFrom_83 : decode cX3_copyFrom 83 = .ok (.iconst 0, 1) := by decide +kernel
theorem dX3_copyFrom_84 : decode cX3_copyFrom 84 = .ok (.aload_n 0, 1) := by decide +kernel
theorem dX3_copyFrom_85 : decode cX3_copyFrom 85 = .ok (.getfield 42, 3) := by decide +kernel
theorem dX3_copyFrom_88 : decode cX3_copyFrom 88 = .ok (.iconst 0, 1) := by decide +kernel
theorem dX3_copyFrom_89 : decode cX3_copyFrom 89 = .ok (.iconst 5, 1) := by decide +kernel
theorem dX3_copyFrom_90 : decode cX3_copyFrom 90 = .ok (.invokestatic 52, 3) := by decide +kernel
theorem dX3_copyFrom_93 : decode cX3_copyFrom 93 = .ok (.aload_n 1, 1) := by decide +kernel
theorem dX3_copyFrom_94 : decode cX3_copyFrom 94 = .ok (.getfield 45, 3) := by decide +kernel
theorem dX3_copyFrom_97 : decode cX3_copyFrom 97 = .ok (.iconst 0, 1) := by decide +kernel
theorem dX3_copyFrom_98 : decode cX3_copyFrom 98 = .ok (.aload_n 0, 1) := by decide +kernel
theorem dX3_copyFrom_99 : decode cX3_copyFrom 99 = .ok (.getfield 45, 3) := by decide +kernel
theorem dX3_copyFrom_102 : decode cX3_copyFrom 102 = .ok (.iconst 0, 1) := by decide +kernel
theorem dX3_copyFrom_103 : decode cX3_copyFrom 103 = .ok (.iconst 4, 1) := by decide +kernel
theorem dX3_copyFrom_104 : decode cX3_copyFrom 104 = .ok (.invokestatic 52, 3) := by decide +kernel
theorem dX3_copyFrom_107 : decode cX3_copyFrom 107 = .ok (.return_, 1) := by decide +kernel
theorem dX3_takeSigns_0 : decode cX3_takeSigns 0 = .ok (.aload_n 1, 1) := by decide +kernel
theorem dX3_takeSigns_1 : decode cX3_takeSigns 1 = .ok (.getfield 9, 3) := by decide +kernel
theorem dX3_takeSigns_4 : decode cX3_takeSigns 4 = .ok (.iconst 0, 1) := by decide +kernel
theorem dX3_takeSigns_5 : decode cX3_takeSigns 5 = .ok (.aload_n 0, 1) := by decide +kernel
theorem dX3_takeSigns_6 : decode cX3_takeSigns 6 = .ok (.getfield 9, 3) := by decide +kernel
theorem dX3_takeSigns_9 : decode cX3_takeSigns 9 = .ok (.iconst 0, 1) := by decide +kernel
theorem dX3_takeSigns_10 : decode cX3_takeSigns 10 = .ok (.bipush 40, 2) := by decide +kernel
theorem dX3_takeSigns_12 : decode cX3_takeSigns 12 = .ok (.invokestatic 52, 3) := by decide +kernel
theorem dX3_takeSigns_15 : decode cX3_takeSigns 15 = .ok (.aload_n 1, 1) := by decide +kernel
theorem dX3_takeSigns_16 : decode cX3_takeSigns 16 = .ok (.getfield 15, 3) := by decide +kernel
theorem dX3_takeSigns_19 : decode cX3_takeSigns 19 = .ok (.iconst 0, 1) := by decide +kernel
theorem dX3_takeSigns_20 : decode cX3_takeSigns 20 = .ok (.aload_n 0, 1) := by decide +kernel
theorem dX3_takeSigns_21 : decode cX3_takeSigns 21 = .ok (.getfield 15, 3) := by decide +kernel
theorem dX3_takeSigns_24 : decode cX3_takeSigns 24 = .ok (.iconst 0, 1) := by decide +kernel
theorem dX3_takeSigns_25 : decode cX3_takeSigns 25 = .ok (.bipush 40, 2) := by decide +kernel
theorem dX3_takeSigns_27 : decode cX3_takeSigns 27 = .ok (.invokestatic 52, 3) := by decide +kernel
theorem dX3_takeSigns_30 : decode cX3_takeSigns 30 = .ok (.aload_n 1, 1) := by decide +kernel
theorem dX3_takeSigns_31 : decode cX3_takeSigns 31 = .ok (.getfield 18, 3) := by decide +kernel
theorem dX3_takeSigns_34 : decode cX3_takeSigns 34 = .ok (.iconst 0, 1) := by decide +kernel
theorem dX3_takeSigns_35 : decode cX3_takeSigns 35 = .ok (.aload_n 0, 1) := by decide +kernel
theorem dX3_takeSigns_36 : decode cX3_takeSigns 36 = .ok (.getfield 18, 3) := by decide +kernel
theorem dX3_takeSigns_39 : decode cX3_takeSigns 39 = .ok (.iconst 0, 1) := by decide +kernel
theorem dX3_takeSigns_40 : decode cX3_takeSigns 40 = .ok (.bipush 40, 2) := by decide +kernel
theorem dX3_takeSigns_42 : decode cX3_takeSigns 42 = .ok (.invokestatic 52, 3) := by decide +kernel
theorem dX3_takeSigns_45 : decode cX3_takeSigns 45 = .ok (.aload_n 1, 1) := by decide +kernel
theorem dX3_takeSigns_46 : decode cX3_takeSigns 46 = .ok (.getfield 21, 3) := by decide +kernel
theorem dX3_takeSigns_49 : decode cX3_takeSigns 49 = .ok (.iconst 0, 1) := by decide +kernel
theorem dX3_takeSigns_50 : decode cX3_takeSigns 50 = .ok (.aload_n 0, 1) := by decide +kernel
theorem dX3_takeSigns_51 : decode cX3_takeSigns 51 = .ok (.getfield 21, 3) := by decide +kernel
theorem dX3_takeSigns_54 : decode cX3_takeSigns 54 = .ok (.iconst 0, 1) := by decide +kernel
theorem dX3_takeSigns_55 : decode cX3_takeSigns 55 = .ok (.bipush 40, 2) := by decide +kernel
theorem dX3_takeSigns_57 : decode cX3_takeSigns 57 = .ok (.invokestatic 52, 3) := by decide +kernel
theorem dX3_takeSigns_60 : decode cX3_takeSigns 60 = .ok (.aload_n 1, 1) := by decide +kernel
theorem dX3_takeSigns_61 : decode cX3_takeSigns 61 = .ok (.getfield 24, 3) := by decide +kernel
theorem dX3_takeSigns_64 : decode cX3_takeSigns 64 = .ok (.iconst 0, 1) := by decide +kernel
theorem dX3_takeSigns_65 : decode cX3_takeSigns 65 = .ok (.aload_n 0, 1) := by decide +kernel
theorem dX3_takeSigns_66 : decode cX3_takeSigns 66 = .ok (.getfield 24, 3) := by decide +kernel
theorem dX3_takeSigns_69 : decode cX3_takeSigns 69 = .ok (.iconst 0, 1) := by decide +kernel
theorem dX3_takeSigns_70 : decode cX3_takeSigns 70 = .ok (.bipush 40, 2) := by decide +kernel
theorem dX3_takeSigns_72 : decode cX3_takeSigns 72 = .ok (.invokestatic 52, 3) := by decide +kernel
theorem dX3_takeSigns_75 : decode cX3_takeSigns 75 = .ok (.aload_n 0, 1) := by decide +kernel
theorem dX3_takeSigns_76 : decode cX3_takeSigns 76 = .ok (.aload_n 1, 1) := by decide +kernel
theorem dX3_takeSigns_77 : decode cX3_takeSigns 77 = .ok (.getfield 58, 3) := by decide +kernel
theorem dX3_takeSigns_80 : decode cX3_takeSigns 80 = .ok (.putfield 58, 3) := by decide +kernel
theorem dX3_takeSigns_83 : decode cX3_takeSigns 83 = .ok (.return_, 1) := by decide +kernel
theorem dX3_putSign_0 : decode cX3_putSign 0 = .ok (.aload_n 0, 1) := by decide +kernel
theorem dX3_putSign_1 : decode cX3_putSign 1 = .ok (.getfield 58, 3) := by decide +kernel
theorem dX3_putSign_4 : decode cX3_putSign 4 = .ok (.ifCond .lt 12, 3) := by decide +kernel
theorem dX3_putSign_7 : decode cX3_putSign 7 = .ok (.aload_n 0, 1) := by decide +kernel
theorem dX3_putSign_8 : decode cX3_putSign 8 = .ok (.getfield 58, 3) := by decide +kernel
theorem dX3_putSign_11 : decode cX3_putSign 11 = .ok (.bipush 40, 2) := by decide +kernel
theorem dX3_putSign_13 : decode cX3_putSign 13 = .ok (.if_icmp .lt 4, 3) := by decide +kernel
theorem dX3_putSign_16 : decode cX3_putSign 16 = .ok (.return_, 1) := by decide +kernel
theorem dX3_putSign_17 : decode cX3_putSign 17 = .ok (.aload_n 0, 1) := by decide +kernel
theorem dX3_putSign_18 : decode cX3_putSign 18 = .ok (.getfield 9, 3) := by decide +kernel
theorem dX3_putSign_21 : decode cX3_putSign 21 = .ok (.aload_n 0, 1) := by decide +kernel
theorem dX3_putSign_22 : decode cX3_putSign 22 = .ok (.getfield 58, 3) := by decide +kernel
theorem dX3_putSign_25 : decode cX3_putSign 25 = .ok (.iload_n 1, 1) := by decide +kernel
theorem dX3_putSign_26 : decode cX3_putSign 26 = .ok (.iastore, 1) := by decide +kernel
theorem dX3_putSign_27 : decode cX3_putSign 27 = .ok (.aload_n 0, 1) := by decide +kernel
theorem dX3_putSign_28 : decode cX3_putSign 28 = .ok (.getfield 15, 3) := by decide +kernel
theorem dX3_putSign_31 : decode cX3_putSign 31 = .ok (.aload_n 0, 1) := by decide +kernel
theorem dX3_putSign_32 : decode cX3_putSign 32 = .ok (.getfield 58, 3) := by decide +kernel
theorem dX3_putSign_35 : decode cX3_putSign 35 = .ok (.iload_n 2, 1) := by decide +kernel
theorem dX3_putSign_36 : decode cX3_putSign 36 = .ok (.iastore, 1) := by decide +kernel
theorem dX3_putSign_37 : decode cX3_putSign 37 = .ok (.aload_n 0, 1) := by decide +kernel
theorem dX3_putSign_38 : decode cX3_putSign 38 = .ok (.getfield 18, 3) := by decide +kernel
theorem dX3_putSign_41 : decode cX3_putSign 41 = .ok (.aload_n 0, 1) := by decide +kernel
theorem dX3_putSign_42 : decode cX3_putSign 42 = .ok (.getfield 58, 3) := by decide +kernel
theorem dX3_putSign_45 : decode cX3_putSign 45 = .ok (.iload_n 3, 1) := by decide +kernel
theorem dX3_putSign_46 : decode cX3_putSign 46 = .ok (.iastore, 1) := by decide +kernel
theorem dX3_putSign_47 : decode cX3_putSign 47 = .ok (.aload_n 0, 1) := by decide +kernel
theorem dX3_putSign_48 : decode cX3_putSign 48 = .ok (.getfield 21, 3) := by decide +kernel
theorem dX3_putSign_51 : decode cX3_putSign 51 = .ok (.aload_n 0, 1) := by decide +kernel
theorem dX3_putSign_52 : decode cX3_putSign 52 = .ok (.getfield 58, 3) := by decide +kernel
theorem dX3_putSign_55 : decode cX3_putSign 55 = .ok (.iload 4, 2) := by decide +kernel
theorem dX3_putSign_57 : decode cX3_putSign 57 = .ok (.iastore, 1) := by decide +kernel
theorem dX3_putSign_58 : decode cX3_putSign 58 = .ok (.aload_n 0, 1) := by decide +kernel
theorem dX3_putSign_59 : decode cX3_putSign 59 = .ok (.getfield 24, 3) := by decide +kernel
theorem dX3_putSign_62 : decode cX3_putSign 62 = .ok (.aload_n 0, 1) := by decide +kernel
theorem dX3_putSign_63 : decode cX3_putSign 63 = .ok (.getfield 58, 3) := by decide +kernel
theorem dX3_putSign_66 : decode cX3_putSign 66 = .ok (.iload 5, 2) := by decide +kernel
theorem dX3_putSign_68 : decode cX3_putSign 68 = .ok (.iastore, 1) := by decide +kernel
theorem dX3_putSign_69 : decode cX3_putSign 69 = .ok (.aload_n 0, 1) := by decide +kernel
theorem dX3_putSign_70 : decode cX3_putSign 70 = .ok (.dup, 1) := by decide +kernel
theorem dX3_putSign_71 : decode cX3_putSign 71 = .ok (.getfield 58, 3) := by decide +kernel
theorem dX3_putSign_74 : decode cX3_putSign 74 = .ok (.iconst 1, 1) := by decide +kernel
theorem dX3_putSign_75 : decode cX3_putSign 75 = .ok (.iadd, 1) := by decide +kernel
theorem dX3_putSign_76 : decode cX3_putSign 76 = .ok (.putfield 58, 3) := by decide +kernel
theorem dX3_putSign_79 : decode cX3_putSign 79 = .ok (.return_, 1) := by decide +kernel
theorem dX3_dropSign_0 : decode cX3_dropSign 0 = .ok (.iload_n 1, 1) := by decide +kernel
theorem dX3_dropSign_1 : decode cX3_dropSign 1 = .ok (.ifCond .lt 11, 3) := by decide +kernel
theorem dX3_dropSign_4 : decode cX3_dropSign 4 = .ok (.iload_n 1, 1) := by decide +kernel
theorem dX3_dropSign_5 : decode cX3_dropSign 5 = .ok (.aload_n 0, 1) := by decide +kernel
theorem dX3_dropSign_6 : decode cX3_dropSign 6 = .ok (.getfield 58, 3) := by decide +kernel
theorem dX3_dropSign_9 : decode cX3_dropSign 9 = .ok (.if_icmp .lt 4, 3) := by decide +kernel
theorem dX3_dropSign_12 : decode cX3_dropSign 12 = .ok (.return_, 1) := by decide +kernel
theorem dX3_dropSign_13 : decode cX3_dropSign 13 = .ok (.iload_n 1, 1) := by decide +kernel
theorem dX3_dropSign_14 : decode cX3_dropSign 14 = .ok (.istore_n 2, 1) := by decide +kernel
theorem dX3_dropSign_15 : decode cX3_dropSign 15 = .ok (.iload_n 2, 1) := by decide +kernel
theorem dX3_dropSign_16 : decode cX3_dropSign 16 = .ok (.iconst 1, 1) := by decide +kernel
theorem dX3_dropSign_17 : decode cX3_dropSign 17 = .ok (.iadd, 1) := by decide +kernel
theorem dX3_dropSign_18 : decode cX3_dropSign 18 = .ok (.aload_n 0, 1) := by decide +kernel
theorem dX3_dropSign_19 : decode cX3_dropSign 19 = .ok (.getfield 58, 3) := by decide +kernel
theorem dX3_dropSign_22 : decode cX3_dropSign 22 = .ok (.if_icmp .ge 79, 3) := by decide +kernel
theorem dX3_dropSign_25 : decode cX3_dropSign 25 = .ok (.aload_n 0, 1) := by decide +kernel
theorem dX3_dropSign_26 : decode cX3_dropSign 26 = .ok (.getfield 9, 3) := by decide +kernel
theorem dX3_dropSign_29 : decode cX3_dropSign 29 = .ok (.iload_n 2, 1) := by decide +kernel
theorem dX3_dropSign_30 : decode cX3_dropSign 30 = .ok (.aload_n 0, 1) := by decide +kernel
theorem dX3_dropSign_31 : decode cX3_dropSign 31 = .ok (.getfield 9, 3) := by decide +kernel
theorem dX3_dropSign_34 : decode cX3_dropSign 34 = .ok (.iload_n 2, 1) := by decide +kernel
theorem dX3_dropSign_35 : decode cX3_dropSign 35 = .ok (.iconst 1, 1) := by decide +kernel
theorem dX3_dropSign_36 : decode cX3_dropSign 36 = .ok (.iadd, 1) := by decide +kernel
theorem dX3_dropSign_37 : decode cX3_dropSign 37 = .ok (.iaload, 1) := by decide +kernel
theorem dX3_dropSign_38 : decode cX3_dropSign 38 = .ok (.iastore, 1) := by decide +kernel
theorem dX3_dropSign_39 : decode cX3_dropSign 39 = .ok (.aload_n 0, 1) := by decide +kernel
theorem dX3_dropSign_40 : decode cX3_dropSign 40 = .ok (.getfield 15, 3) := by decide +kernel
theorem dX3_dropSign_43 : decode cX3_dropSign 43 = .ok (.iload_n 2, 1) := by decide +kernel
theorem dX3_dropSign_44 : decode cX3_dropSign 44 = .ok (.aload_n 0, 1) := by decide +kernel
theorem dX3_dropSign_45 : decode cX3_dropSign 45 = .ok (.getfield 15, 3) := by decide +kernel
theorem dX3_dropSign_48 : decode cX3_dropSign 48 = .ok (.iload_n 2, 1) := by decide +kernel
theorem dX3_dropSign_49 : decode cX3_dropSign 49 = .ok (.iconst 1, 1) := by decide +kernel
theorem dX3_dropSign_50 : decode cX3_dropSign 50 = .ok (.iadd, 1) := by decide +kernel
theorem dX3_dropSign_51 : decode cX3_dropSign 51 = .ok (.iaload, 1) := by decide +kernel
theorem dX3_dropSign_52 : decode cX3_dropSign 52 = .ok (.iastore, 1) := by decide +kernel
theorem dX3_dropSign_53 : decode cX3_dropSign 53 = .ok (.aload_n 0, 1) := by decide +kernel
theorem dX3_dropSign_54 : decode cX3_dropSign 54 = .ok (.getfield 18, 3) := by decide +kernel
theorem dX3_dropSign_57 : decode cX3_dropSign 57 = .ok (.iload_n 2, 1) := by decide +kernel
theorem dX3_dropSign_58 : decode cX3_dropSign 58 = .ok (.aload_n 0, 1) := by decide +kernel
theorem dX3_dropSign_59 : decode cX3_dropSign 59 = .ok (.getfield 18, 3) := by decide +kernel
theorem dX3_dropSign_62 : decode cX3_dropSign 62 = .ok (.iload_n 2, 1) := by decide +kernel
theorem dX3_dropSign_63 : decode cX3_dropSign 63 = .ok (.iconst 1, 1) := by decide +kernel
theorem dX3_dropSign_64 : decode cX3_dropSign 64 = .ok (.iadd, 1) := by decide +kernel
theorem dX3_dropSign_65 : decode cX3_dropSign 65 = .ok (.iaload, 1) := by decide +kernel
theorem dX3_dropSign_66 : decode cX3_dropSign 66 = .ok (.iastore, 1) := by decide +kernel
theorem dX3_dropSign_67 : decode cX3_dropSign 67 = .ok (.aload_n 0, 1) := by decide +kernel
theorem dX3_dropSign_68 : decode cX3_dropSign 68 = .ok (.getfield 21, 3) := by decide +kernel
theorem dX3_dropSign_71 : decode cX3_dropSign 71 = .ok (.iload_n 2, 1) := by decide +kernel
theorem dX3_dropSign_72 : decode cX3_dropSign 72 = .ok (.aload_n 0, 1) := by decide +kernel
theorem dX3_dropSign_73 : decode cX3_dropSign 73 = .ok (.getfield 21, 3) := by decide +kernel
theorem dX3_dropSign_76 : decode cX3_dropSign 76 = .ok (.iload_n 2, 1) := by decide +kernel
theorem dX3_dropSign_77 : decode cX3_dropSign 77 = .ok (.iconst 1, 1) := by decide +kernel
theorem dX3_dropSign_78 : decode cX3_dropSign 78 = .ok (.iadd, 1) := by decide +kernel
theorem dX3_dropSign_79 : decode cX3_dropSign 79 = .ok (.iaload, 1) := by decide +kernel
theorem dX3_dropSign_80 : decode cX3_dropSign 80 = .ok (.iastore, 1) := by decide +kernel
theorem dX3_dropSign_81 : decode cX3_dropSign 81 = .ok (.aload_n 0, 1) := by decide +kernel
theorem dX3_dropSign_82 : decode cX3_dropSign 82 = .ok (.getfield 24, 3) := by decide +kernel
theorem dX3_dropSign_85 : decode cX3_dropSign 85 = .ok (.iload_n 2, 1) := by decide +kernel
theorem dX3_dropSign_86 : decode cX3_dropSign 86 = .ok (.aload_n 0, 1) := by decide +kernel
theorem dX3_dropSign_87 : decode cX3_dropSign 87 = .ok (.getfield 24, 3) := by decide +kernel
theorem dX3_dropSign_90 : decode cX3_dropSign 90 = .ok (.iload_n 2, 1) := by decide +kernel
theorem dX3_dropSign_91 : decode cX3_dropSign 91 = .ok (.iconst 1, 1) := by decide +kernel
theorem dX3_dropSign_92 : decode cX3_dropSign 92 = .ok (.iadd, 1) := by decide +kernel
theorem dX3_dropSign_93 : decode cX3_dropSign 93 = .ok (.iaload, 1) := by decide +kernel
theorem dX3_dropSign_94 : decode cX3_dropSign 94 = .ok (.iastore, 1) := by decide +kernel
theorem dX3_dropSign_95 : decode cX3_dropSign 95 = .ok (.iinc 2 1, 3) := by decide +kernel
theorem dX3_dropSign_98 : decode cX3_dropSign 98 = .ok (.goto (-83), 3) := by decide +kernel
theorem dX3_dropSign_101 : decode cX3_dropSign 101 = .ok (.aload_n 0, 1) := by decide +kernel
theorem dX3_dropSign_102 : decode cX3_dropSign 102 = .ok (.dup, 1) := by decide +kernel
theorem dX3_dropSign_103 : decode cX3_dropSign 103 = .ok (.getfield 58, 3) := by decide +kernel
theorem dX3_dropSign_106 : decode cX3_dropSign 106 = .ok (.iconst 1, 1) := by decide +kernel
theorem dX3_dropSign_107 : decode cX3_dropSign 107 = .ok (.isub, 1) := by decide +kernel
theorem dX3_dropSign_108 : decode cX3_dropSign 108 = .ok (.putfield 58, 3) := by decide +kernel
theorem dX3_dropSign_111 : decode cX3_dropSign 111 = .ok (.return_, 1) := by decide +kernel
theorem dX3_isInWindow_0 : decode cX3_isInWindow 0 = .ok (.aload_n 0, 1) := by decide +kernel
theorem dX3_isInWindow_1 : decode cX3_isInWindow 1 = .ok (.getfield 15, 3) := by decide +kernel
theorem dX3_isInWindow_4 : decode cX3_isInWindow 4 = .ok (.iload_n 1, 1) := by decide +kernel
theorem dX3_isInWindow_5 : decode cX3_isInWindow 5 = .ok (.iaload, 1) := by decide +kernel
theorem dX3_isInWindow_6 : decode cX3_isInWindow 6 = .ok (.aload_n 0, 1) := by decide +kernel
theorem dX3_isInWindow_7 : decode cX3_isInWindow 7 = .ok (.getfield 42, 3) := by decide +kernel
theorem dX3_isInWindow_10 : decode cX3_isInWindow 10 = .ok (.iconst 0, 1) := by decide +kernel
theorem dX3_isInWindow_11 : decode cX3_isInWindow 11 = .ok (.iaload, 1) := by decide +kernel
theorem dX3_isInWindow_12 : decode cX3_isInWindow 12 = .ok (.isub, 1) := by decide +kernel
theorem dX3_isInWindow_13 : decode cX3_isInWindow 13 = .ok (.istore_n 2, 1) := by decide +kernel
theorem dX3_isInWindow_14 : decode cX3_isInWindow 14 = .ok (.aload_n 0, 1) := by decide +kernel
theorem dX3_isInWindow_15 : decode cX3_isInWindow 15 = .ok (.getfield 18, 3) := by decide +kernel
theorem dX3_isInWindow_18 : decode cX3_isInWindow 18 = .ok (.iload_n 1, 1) := by decide +kernel
theorem dX3_isInWindow_19 : decode cX3_isInWindow 19 = .ok (.iaload, 1) := by decide +kernel
theorem dX3_isInWindow_20 : decode cX3_isInWindow 20 = .ok (.aload_n 0, 1) := by decide +kernel
theorem dX3_isInWindow_21 : decode cX3_isInWindow 21 = .ok (.getfield 42, 3) := by decide +kernel
theorem dX3_isInWindow_24 : decode cX3_isInWindow 24 = .ok (.iconst 1, 1) := by decide +kernel
theorem dX3_isInWindow_25 : decode cX3_isInWindow 25 = .ok (.iaload, 1) := by decide +kernel
theorem dX3_isInWindow_26 : decode cX3_isInWindow 26 = .ok (.isub, 1) := by decide +kernel
theorem dX3_isInWindow_27 : decode cX3_isInWindow 27 = .ok (.istore_n 3, 1) := by decide +kernel
theorem dX3_isInWindow_28 : decode cX3_isInWindow 28 = .ok (.iload_n 2, 1) := by decide +kernel
theorem dX3_isInWindow_29 : decode cX3_isInWindow 29 = .ok (.ifCond .lt 31, 3) := by decide +kernel
theorem dX3_isInWindow_32 : decode cX3_isInWindow 32 = .ok (.iload_n 2, 1) := by decide +kernel
theorem dX3_isInWindow_33 : decode cX3_isInWindow 33 = .ok (.aload_n 0, 1) := by decide +kernel
theorem dX3_isInWindow_34 : decode cX3_isInWindow 34 = .ok (.getfield 42, 3) := by decide +kernel
theorem dX3_isInWindow_37 : decode cX3_isInWindow 37 = .ok (.iconst 2, 1) := by decide +kernel
theorem dX3_isInWindow_38 : decode cX3_isInWindow 38 = .ok (.iaload, 1) := by decide +kernel
theorem dX3_isInWindow_39 : decode cX3_isInWindow 39 = .ok (.if_icmp .ge 21, 3) := by decide +kernel
theorem dX3_isInWindow_42 : decode cX3_isInWindow 42 = .ok (.iload_n 3, 1) := by decide +kernel
theorem dX3_isInWindow_43 : decode cX3_isInWindow 43 = .ok (.ifCond .lt 17, 3) := by decide +kernel
theorem dX3_isInWindow_46 : decode cX3_isInWindow 46 = .ok (.iload_n 3, 1) := by decide +kernel
theorem dX3_isInWindow_47 : decode cX3_isInWindow 47 = .ok (.aload_n 0, 1) := by decide +kernel
theorem dX3_isInWindow_48 : decode cX3_isInWindow 48 = .ok (.getfield 42, 3) := by decide +kernel
theorem dX3_isInWindow_51 : decode cX3_isInWindow 51 = .ok (.iconst 3, 1) := by decide +kernel
theorem dX3_isInWindow_52 : decode cX3_isInWindow 52 = .ok (.iaload, 1) := by decide +kernel
theorem dX3_isInWindow_53 : decode cX3_isInWindow 53 = .ok (.if_icmp .ge 7, 3) := by decide +kernel
theorem dX3_isInWindow_56 : decode cX3_isInWindow 56 = .ok (.iconst 1, 1) := by decide +kernel
theorem dX3_isInWindow_57 : decode cX3_isInWindow 57 = .ok (.goto 4, 3) := by decide +kernel
theorem dX3_isInWindow_60 : decode cX3_isInWindow 60 = .ok (.iconst 0, 1) := by decide +kernel
theorem dX3_isInWindow_61 : decode cX3_isInWindow 61 = .ok (.ireturn, 1) := by decide +kernel
theorem dX3_isShown_0 : decode cX3_isShown 0 = .ok (.aload_n 0, 1) := by decide +kernel
theorem dX3_isShown_1 : decode cX3_isShown 1 = .ok (.getfield 24, 3) := by decide +kernel
theorem dX3_isShown_4 : decode cX3_isShown 4 = .ok (.iload_n 1, 1) := by decide +kernel
theorem dX3_isShown_5 : decode cX3_isShown 5 = .ok (.iaload, 1) := by decide +kernel
theorem dX3_isShown_6 : decode cX3_isShown 6 = .ok (.aload_n 0, 1) := by decide +kernel
theorem dX3_isShown_7 : decode cX3_isShown 7 = .ok (.getfield 42, 3) := by decide +kernel
theorem dX3_isShown_10 : decode cX3_isShown 10 = .ok (.iconst 4, 1) := by decide +kernel
theorem dX3_isShown_11 : decode cX3_isShown 11 = .ok (.iaload, 1) := by decide +kernel
theorem dX3_isShown_12 : decode cX3_isShown 12 = .ok (.if_icmp .gt 15, 3) := by decide +kernel
theorem dX3_isShown_15 : decode cX3_isShown 15 = .ok (.aload_n 0, 1) := by decide +kernel
theorem dX3_isShown_16 : decode cX3_isShown 16 = .ok (.iload_n 1, 1) := by decide +kernel
theorem dX3_isShown_17 : decode cX3_isShown 17 = .ok (.invokevirtual 62, 3) := by decide +kernel
theorem dX3_isShown_20 : decode cX3_isShown 20 = .ok (.ifCond .eq 7, 3) := by decide +kernel
theorem dX3_isShown_23 : decode cX3_isShown 23 = .ok (.iconst 1, 1) := by decide +kernel
theorem dX3_isShown_24 : decode cX3_isShown 24 = .ok (.goto 4, 3) := by decide +kernel
theorem dX3_isShown_27 : decode cX3_isShown 27 = .ok (.iconst 0, 1) := by decide +kernel
theorem dX3_isShown_28 : decode cX3_isShown 28 = .ok (.ireturn, 1) := by decide +kernel
theorem dX3_countShown_0 : decode cX3_countShown 0 = .ok (.iconst 0, 1) := by decide +kernel
theorem dX3_countShown_1 : decode cX3_countShown 1 = .ok (.istore_n 1, 1) := by decide +kernel
theorem dX3_countShown_2 : decode cX3_countShown 2 = .ok (.iconst 0, 1) := by decide +kernel
theorem dX3_countShown_3 : decode cX3_countShown 3 = .ok (.istore_n 2, 1) := by decide +kernel
theorem dX3_countShown_4 : decode cX3_countShown 4 = .ok (.iload_n 2, 1) := by decide +kernel
theorem dX3_countShown_5 : decode cX3_countShown 5 = .ok (.aload_n 0, 1) := by decide +kernel
theorem dX3_countShown_6 : decode cX3_countShown 6 = .ok (.getfield 58, 3) := by decide +kernel
theorem dX3_countShown_9 : decode cX3_countShown 9 = .ok (.if_icmp .ge 20, 3) := by decide +kernel
theorem dX3_countShown_12 : decode cX3_countShown 12 = .ok (.aload_n 0, 1) := by decide +kernel
theorem dX3_countShown_13 : decode cX3_countShown 13 = .ok (.iload_n 2, 1) := by decide +kernel
theorem dX3_countShown_14 : decode cX3_countShown 14 = .ok (.invokevirtual 66, 3) := by decide +kernel
theorem dX3_countShown_17 : decode cX3_countShown 17 = .ok (.ifCond .eq 6, 3) := by decide +kernel
theorem dX3_countShown_20 : decode cX3_countShown 20 = .ok (.iinc 1 1, 3) := by decide +kernel
theorem dX3_countShown_23 : decode cX3_countShown 23 = .ok (.iinc 2 1, 3) := by decide +kernel
theorem dX3_countShown_26 : decode cX3_countShown 26 = .ok (.goto (-22), 3) := by decide +kernel
theorem dX3_countShown_29 : decode cX3_countShown 29 = .ok (.iload_n 1, 1) := by decide +kernel
theorem dX3_countShown_30 : decode cX3_countShown 30 = .ok (.ireturn, 1) := by decide +kernel
theorem dX3_classOf_0 : decode cX3_classOf 0 = .ok (.aload_n 0, 1) := by decide +kernel
theorem dX3_classOf_1 : decode cX3_classOf 1 = .ok (.getfield 9, 3) := by decide +kernel
theorem dX3_classOf_4 : decode cX3_classOf 4 = .ok (.iload_n 1, 1) := by decide +kernel
theorem dX3_classOf_5 : decode cX3_classOf 5 = .ok (.iaload, 1) := by decide +kernel
theorem dX3_classOf_6 : decode cX3_classOf 6 = .ok (.istore_n 2, 1) := by decide +kernel
theorem dX3_classOf_7 : decode cX3_classOf 7 = .ok (.iconst 0, 1) := by decide +kernel
theorem dX3_classOf_8 : decode cX3_classOf 8 = .ok (.istore_n 3, 1) := by decide +kernel
theorem dX3_classOf_9 : decode cX3_classOf 9 = .ok (.iconst 0, 1) := by decide +kernel
theorem dX3_classOf_10 : decode cX3_classOf 10 = .ok (.istore 4, 2) := by decide +kernel
theorem dX3_classOf_12 : decode cX3_classOf 12 = .ok (.iload 4, 2) := by decide +kernel
theorem dX3_classOf_14 : decode cX3_classOf 14 = .ok (.aload_n 0, 1) := by decide +kernel
theorem dX3_classOf_15 : decode cX3_classOf 15 = .ok (.getfield 33, 3) := by decide +kernel
theorem dX3_classOf_18 : decode cX3_classOf 18 = .ok (.iload_n 2, 1) := by decide +kernel
theorem dX3_classOf_19 : decode cX3_classOf 19 = .ok (.iaload, 1) := by decide +kernel
theorem dX3_classOf_20 : decode cX3_classOf 20 = .ok (.if_icmp .ge 32, 3) := by decide +kernel
theorem dX3_classOf_23 : decode cX3_classOf 23 = .ok (.aload_n 0, 1) := by decide +kernel
theorem dX3_classOf_24 : decode cX3_classOf 24 = .ok (.getfield 36, 3) := by decide +kernel
theorem dX3_classOf_27 : decode cX3_classOf 27 = .ok (.iload_n 2, 1) := by decide +kernel
theorem dX3_classOf_28 : decode cX3_classOf 28 = .ok (.iconst 5, 1) := by decide +kernel
theorem dX3_classOf_29 : decode cX3_classOf 29 = .ok (.imul, 1) := by decide +kernel
theorem dX3_classOf_30 : decode cX3_classOf 30 = .ok (.iload 4, 2) := by decide +kernel
theorem dX3_classOf_32 : decode cX3_classOf 32 = .ok (.iadd, 1) := by decide +kernel
theorem dX3_classOf_33 : decode cX3_classOf 33 = .ok (.iaload, 1) := by decide +kernel
theorem dX3_classOf_34 : decode cX3_classOf 34 = .ok (.aload_n 0, 1) := by decide +kernel
theorem dX3_classOf_35 : decode cX3_classOf 35 = .ok (.getfield 21, 3) := by decide +kernel
theorem dX3_classOf_38 : decode cX3_classOf 38 = .ok (.iload_n 1, 1) := by decide +kernel
theorem dX3_classOf_39 : decode cX3_classOf 39 = .ok (.iaload, 1) := by decide +kernel
theorem dX3_classOf_40 : decode cX3_classOf 40 = .ok (.if_icmp .gt 6, 3) := by decide +kernel
theorem dX3_classOf_43 : decode cX3_classOf 43 = .ok (.iinc 3 1, 3) := by decide +kernel
theorem dX3_classOf_46 : decode cX3_classOf 46 = .ok (.iinc 4 1, 3) := by decide +kernel
theorem dX3_classOf_49 : decode cX3_classOf 49 = .ok (.goto (-37), 3) := by decide +kernel
theorem dX3_classOf_52 : decode cX3_classOf 52 = .ok (.iload_n 3, 1) := by decide +kernel
theorem dX3_classOf_53 : decode cX3_classOf 53 = .ok (.ireturn, 1) := by decide +kernel
theorem dX3_limitAt_0 : decode cX3_limitAt 0 = .ok (.iload_n 2, 1) := by decide +kernel
theorem dX3_limitAt_1 : decode cX3_limitAt 1 = .ok (.ifCond .lt 26, 3) := by decide +kernel
theorem dX3_limitAt_4 : decode cX3_limitAt 4 = .ok (.iload_n 2, 1) := by decide +kernel
theorem dX3_limitAt_5 : decode cX3_limitAt 5 = .ok (.aload_n 0, 1) := by decide +kernel
theorem dX3_limitAt_6 : decode cX3_limitAt 6 = .ok (.getfield 33, 3) := by decide +kernel
theorem dX3_limitAt_9 : decode cX3_limitAt 9 = .ok (.iload_n 1, 1) := by decide +kernel
theorem dX3_limitAt_10 : decode cX3_limitAt 10 = .ok (.iaload, 1) := by decide +kernel
theorem dX3_limitAt_11 : decode cX3_limitAt 11 = .ok (.if_icmp .ge 16, 3) := by decide +kernel
theorem dX3_limitAt_14 : decode cX3_limitAt 14 = .ok (.aload_n 0, 1) := by decide +kernel
theorem dX3_limitAt_15 : decode cX3_limitAt 15 = .ok (.getfield 36, 3) := by decide +kernel
theorem dX3_limitAt_18 : decode cX3_limitAt 18 = .ok (.iload_n 1, 1) := by decide +kernel
theorem dX3_limitAt_19 : decode cX3_limitAt 19 = .ok (.iconst 5, 1) := by decide +kernel
theorem dX3_limitAt_20 : decode cX3_limitAt 20 = .ok (.imul, 1) := by decide +kernel
theorem dX3_limitAt_21 : decode cX3_limitAt 21 = .ok (.iload_n 2, 1) := by decide +kernel
theorem dX3_limitAt_22 : decode cX3_limitAt 22 = .ok (.iadd, 1) := by decide +kernel
theorem dX3_limitAt_23 : decode cX3_limitAt 23 = .ok (.iaload, 1) := by decide +kernel
theorem dX3_limitAt_24 : decode cX3_limitAt 24 = .ok (.goto 4, 3) := by decide +kernel
theorem dX3_limitAt_27 : decode cX3_limitAt 27 = .ok (.iconst (-1), 1) := by decide +kernel
theorem dX3_limitAt_28 : decode cX3_limitAt 28 = .ok (.ireturn, 1) := by decide +kernel
theorem dX3_hasLimit_0 : decode cX3_hasLimit 0 = .ok (.iconst 0, 1) := by decide +kernel
theorem dX3_hasLimit_1 : decode cX3_hasLimit 1 = .ok (.istore_n 3, 1) := by decide +kernel
theorem dX3_hasLimit_2 : decode cX3_hasLimit 2 = .ok (.iload_n 3, 1) := by decide +kernel
theorem dX3_hasLimit_3 : decode cX3_hasLimit 3 = .ok (.aload_n 0, 1) := by decide +kernel
theorem dX3_hasLimit_4 : decode cX3_hasLimit 4 = .ok (.getfield 33, 3) := by decide +kernel
theorem dX3_hasLimit_7 : decode cX3_hasLimit 7 = .ok (.iload_n 1, 1) := by decide +kernel
theorem dX3_hasLimit_8 : decode cX3_hasLimit 8 = .ok (.iaload, 1) := by decide +kernel
theorem dX3_hasLimit_9 : decode cX3_hasLimit 9 = .ok (.if_icmp .ge 25, 3) := by decide +kernel
theorem dX3_hasLimit_12 : decode cX3_hasLimit 12 = .ok (.aload_n 0, 1) := by decide +kernel
theorem dX3_hasLimit_13 : decode cX3_hasLimit 13 = .ok (.getfield 36, 3) := by decide +kernel
theorem dX3_hasLimit_16 : decode cX3_hasLimit 16 = .ok (.iload_n 1, 1) := by decide +kernel
theorem dX3_hasLimit_17 : decode cX3_hasLimit 17 = .ok (.iconst 5, 1) := by decide +kernel
theorem dX3_hasLimit_18 : decode cX3_hasLimit 18 = .ok (.imul, 1) := by decide +kernel
theorem dX3_hasLimit_19 : decode cX3_hasLimit 19 = .ok (.iload_n 3, 1) := by decide +kernel
theorem dX3_hasLimit_20 : decode cX3_hasLimit 20 = .ok (.iadd, 1) := by decide +kernel
theorem dX3_hasLimit_21 : decode cX3_hasLimit 21 = .ok (.iaload, 1) := by decide +kernel
theorem dX3_hasLimit_22 : decode cX3_hasLimit 22 = .ok (.iload_n 2, 1) := by decide +kernel
theorem dX3_hasLimit_23 : decode cX3_hasLimit 23 = .ok (.if_icmp .ne 5, 3) := by decide +kernel
theorem dX3_hasLimit_26 : decode cX3_hasLimit 26 = .ok (.iconst 1, 1) := by decide +kernel
theorem dX3_hasLimit_27 : decode cX3_hasLimit 27 = .ok (.ireturn, 1) := by decide +kernel
theorem dX3_hasLimit_28 : decode cX3_hasLimit 28 = .ok (.iinc 3 1, 3) := by decide +kernel
theorem dX3_hasLimit_31 : decode cX3_hasLimit 31 = .ok (.goto (-29), 3) := by decide +kernel
theorem dX3_hasLimit_34 : decode cX3_hasLimit 34 = .ok (.iconst 0, 1) := by decide +kernel
theorem dX3_hasLimit_35 : decode cX3_hasLimit 35 = .ok (.ireturn, 1) := by decide +kernel
theorem dX3_putLimit_0 : decode cX3_putLimit 0 = .ok (.aload_n 0, 1) := by decide +kernel
theorem dX3_putLimit_1 : decode cX3_putLimit 1 = .ok (.getfield 33, 3) := by decide +kernel
theorem dX3_putLimit_4 : decode cX3_putLimit 4 = .ok (.iload_n 1, 1) := by decide +kernel
theorem dX3_putLimit_5 : decode cX3_putLimit 5 = .ok (.iaload, 1) := by decide +kernel
theorem dX3_putLimit_6 : decode cX3_putLimit 6 = .ok (.iconst 5, 1) := by decide +kernel
theorem dX3_putLimit_7 : decode cX3_putLimit 7 = .ok (.if_icmp .lt 4, 3) := by decide +kernel
theorem dX3_putLimit_10 : decode cX3_putLimit 10 = .ok (.return_, 1) := by decide +kernel
theorem dX3_putLimit_11 : decode cX3_putLimit 11 = .ok (.iload_n 1, 1) := by decide +kernel
theorem dX3_putLimit_12 : decode cX3_putLimit 12 = .ok (.iconst 5, 1) := by decide +kernel
theorem dX3_putLimit_13 : decode cX3_putLimit 13 = .ok (.imul, 1) := by decide +kernel
theorem dX3_putLimit_14 : decode cX3_putLimit 14 = .ok (.istore_n 3, 1) := by decide +kernel
theorem dX3_putLimit_15 : decode cX3_putLimit 15 = .ok (.iload_n 3, 1) := by decide +kernel
theorem dX3_putLimit_16 : decode cX3_putLimit 16 = .ok (.aload_n 0, 1) := by decide +kernel
theorem dX3_putLimit_17 : decode cX3_putLimit 17 = .ok (.getfield 33, 3) := by decide +kernel
theorem dX3_putLimit_20 : decode cX3_putLimit 20 = .ok (.iload_n 1, 1) := by decide +kernel
theorem dX3_putLimit_21 : decode cX3_putLimit 21 = .ok (.iaload, 1) := by decide +kernel
theorem dX3_putLimit_22 : decode cX3_putLimit 22 = .ok (.iadd, 1) := by decide +kernel
theorem dX3_putLimit_23 : decode cX3_putLimit 23 = .ok (.istore 4, 2) := by decide +kernel
theorem dX3_putLimit_25 : decode cX3_putLimit 25 = .ok (.iload 4, 2) := by decide +kernel
theorem dX3_putLimit_27 : decode cX3_putLimit 27 = .ok (.iload_n 3, 1) := by decide +kernel
theorem dX3_putLimit_28 : decode cX3_putLimit 28 = .ok (.if_icmp .le 38, 3) := by decide +kernel
theorem dX3_putLimit_31 : decode cX3_putLimit 31 = .ok (.aload_n 0, 1) := by decide +kernel
theorem dX3_putLimit_32 : decode cX3_putLimit 32 = .ok (.getfield 36, 3) := by decide +kernel
theorem dX3_putLimit_35 : decode cX3_putLimit 35 = .ok (.iload 4, 2) := by decide +kernel
theorem dX3_putLimit_37 : decode cX3_putLimit 37 = .ok (.iconst 1, 1) := by decide +kernel
theorem dX3_putLimit_38 : decode cX3_putLimit 38 = .ok (.isub, 1) := by decide +kernel
theorem dX3_putLimit_39 : decode cX3_putLimit 39 = .ok (.iaload, 1) := by decide +kernel
theorem dX3_putLimit_40 : decode cX3_putLimit 40 = .ok (.iload_n 2, 1) := by decide +kernel
theorem dX3_putLimit_41 : decode cX3_putLimit 41 = .ok (.if_icmp .le 25, 3) := by decide +kernel
theorem dX3_putLimit_44 : decode cX3_putLimit 44 = .ok (.aload_n 0, 1) := by decide +kernel
theorem dX3_putLimit_45 : decode cX3_putLimit 45 = .ok (.getfield 36, 3) := by decide +kernel
theorem dX3_putLimit_48 : decode cX3_putLimit 48 = .ok (.iload 4, 2) := by decide +kernel
theorem dX3_putLimit_50 : decode cX3_putLimit 50 = .ok (.aload_n 0, 1) := by decide +kernel
theorem dX3_putLimit_51 : decode cX3_putLimit 51 = .ok (.getfield 36, 3) := by decide +kernel
theorem dX3_putLimit_54 : decode cX3_putLimit 54 = .ok (.iload 4, 2) := by decide +kernel
theorem dX3_putLimit_56 : decode cX3_putLimit 56 = .ok (.iconst 1, 1) := by decide +kernel
theorem dX3_putLimit_57 : decode cX3_putLimit 57 = .ok (.isub, 1) := by decide +kernel
theorem dX3_putLimit_58 : decode cX3_putLimit 58 = .ok (.iaload, 1) := by decide +kernel
theorem dX3_putLimit_59 : decode cX3_putLimit 59 = .ok (.iastore, 1) := by decide +kernel
theorem dX3_putLimit_60 : decode cX3_putLimit 60 = .ok (.iinc 4 (-1), 3) := by decide +kernel
theorem dX3_putLimit_63 : decode cX3_putLimit 63 = .ok (.goto (-38), 3) := by decide +kernel
theorem dX3_putLimit_66 : decode cX3_putLimit 66 = .ok (.aload_n 0, 1) := by decide +kernel
theorem dX3_putLimit_67 : decode cX3_putLimit 67 = .ok (.getfield 36, 3) := by decide +kernel
theorem dX3_putLimit_70 : decode cX3_putLimit 70 = .ok (.iload 4, 2) := by decide +kernel
theorem dX3_putLimit_72 : decode cX3_putLimit 72 = .ok (.iload_n 2, 1) := by decide +kernel
theorem dX3_putLimit_73 : decode cX3_putLimit 73 = .ok (.iastore, 1) := by decide +kernel
theorem dX3_putLimit_74 : decode cX3_putLimit 74 = .ok (.aload_n 0, 1) := by decide +kernel
theorem dX3_putLimit_75 : decode cX3_putLimit 75 = .ok (.getfield 33, 3) := by decide +kernel
theorem dX3_putLimit_78 : decode cX3_putLimit 78 = .ok (.iload_n 1, 1) := by decide +kernel
theorem dX3_putLimit_79 : decode cX3_putLimit 79 = .ok (.dup2, 1) := by decide +kernel
theorem dX3_putLimit_80 : decode cX3_putLimit 80 = .ok (.iaload, 1) := by decide +kernel
theorem dX3_putLimit_81 : decode cX3_putLimit 81 = .ok (.iconst 1, 1) := by decide +kernel
theorem dX3_putLimit_82 : decode cX3_putLimit 82 = .ok (.iadd, 1) := by decide +kernel
theorem dX3_putLimit_83 : decode cX3_putLimit 83 = .ok (.iastore, 1) := by decide +kernel
theorem dX3_putLimit_84 : decode cX3_putLimit 84 = .ok (.return_, 1) := by decide +kernel
theorem dX3_dropLimit_0 : decode cX3_dropLimit 0 = .ok (.iload_n 1, 1) := by decide +kernel
theorem dX3_dropLimit_1 : decode cX3_dropLimit 1 = .ok (.iconst 5, 1) := by decide +kernel
theorem dX3_dropLimit_2 : decode cX3_dropLimit 2 = .ok (.imul, 1) := by decide +kernel
theorem dX3_dropLimit_3 : decode cX3_dropLimit 3 = .ok (.istore_n 3, 1) := by decide +kernel
theorem dX3_dropLimit_4 : decode cX3_dropLimit 4 = .ok (.iconst 0, 1) := by decide +kernel
theorem dX3_dropLimit_5 : decode cX3_dropLimit 5 = .ok (.istore 4, 2) := by decide +kernel
theorem dX3_dropLimit_7 : decode cX3_dropLimit 7 = .ok (.iconst 0, 1) := by decide +kernel
theorem dX3_dropLimit_8 : decode cX3_dropLimit 8 = .ok (.istore 5, 2) := by decide +kernel
theorem dX3_dropLimit_10 : decode cX3_dropLimit 10 = .ok (.iload 5, 2) := by decide +kernel
theorem dX3_dropLimit_12 : decode cX3_dropLimit 12 = .ok (.aload_n 0, 1) := by decide +kernel
theorem dX3_dropLimit_13 : decode cX3_dropLimit 13 = .ok (.getfield 33, 3) := by decide +kernel
theorem dX3_dropLimit_16 : decode cX3_dropLimit 16 = .ok (.iload_n 1, 1) := by decide +kernel
theorem dX3_dropLimit_17 : decode cX3_dropLimit 17 = .ok (.iaload, 1) := by decide +kernel
theorem dX3_dropLimit_18 : decode cX3_dropLimit 18 = .ok (.if_icmp .ge 40, 3) := by decide +kernel
theorem dX3_dropLimit_21 : decode cX3_dropLimit 21 = .ok (.aload_n 0, 1) := by decide +kernel
theorem dX3_dropLimit_22 : decode cX3_dropLimit 22 = .ok (.getfield 36, 3) := by decide +kernel
theorem dX3_dropLimit_25 : decode cX3_dropLimit 25 = .ok (.iload_n 3, 1) := by decide +kernel
theorem dX3_dropLimit_26 : decode cX3_dropLimit 26 = .ok (.iload 5, 2) := by decide +kernel
theorem dX3_dropLimit_28 : decode cX3_dropLimit 28 = .ok (.iadd, 1) := by decide +kernel
theorem dX3_dropLimit_29 : decode cX3_dropLimit 29 = .ok (.iaload, 1) := by decide +kernel
theorem dX3_dropLimit_30 : decode cX3_dropLimit 30 = .ok (.istore 6, 2) := by decide +kernel
theorem dX3_dropLimit_32 : decode cX3_dropLimit 32 = .ok (.iload 6, 2) := by decide +kernel
theorem dX3_dropLimit_34 : decode cX3_dropLimit 34 = .ok (.iload_n 2, 1) := by decide +kernel
theorem dX3_dropLimit_35 : decode cX3_dropLimit 35 = .ok (.if_icmp .eq 17, 3) := by decide +kernel
theorem dX3_dropLimit_38 : decode cX3_dropLimit 38 = .ok (.aload_n 0, 1) := by decide +kernel
theorem dX3_dropLimit_39 : decode cX3_dropLimit 39 = .ok (.getfield 36, 3) := by decide +kernel
theorem dX3_dropLimit_42 : decode cX3_dropLimit 42 = .ok (.iload_n 3, 1) := by decide +kernel
theorem dX3_dropLimit_43 : decode cX3_dropLimit 43 = .ok (.iload 4, 2) := by decide +kernel
theorem dX3_dropLimit_45 : decode cX3_dropLimit 45 = .ok (.iadd, 1) := by decide +kernel
theorem dX3_dropLimit_46 : decode cX3_dropLimit 46 = .ok (.iload 6, 2) := by decide +kernel
theorem dX3_dropLimit_48 : decode cX3_dropLimit 48 = .ok (.iastore, 1) := by decide +kernel
theorem dX3_dropLimit_49 : decode cX3_dropLimit 49 = .ok (.iinc 4 1, 3) := by decide +kernel
theorem dX3_dropLimit_52 : decode cX3_dropLimit 52 = .ok (.iinc 5 1, 3) := by decide +kernel
theorem dX3_dropLimit_55 : decode cX3_dropLimit 55 = .ok (.goto (-45), 3) := by decide +kernel
theorem dX3_dropLimit_58 : decode cX3_dropLimit 58 = .ok (.aload_n 0, 1) := by decide +kernel
theorem dX3_dropLimit_59 : decode cX3_dropLimit 59 = .ok (.getfield 33, 3) := by decide +kernel
theorem dX3_dropLimit_62 : decode cX3_dropLimit 62 = .ok (.iload_n 1, 1) := by decide +kernel
theorem dX3_dropLimit_63 : decode cX3_dropLimit 63 = .ok (.iload 4, 2) := by decide +kernel
theorem dX3_dropLimit_65 : decode cX3_dropLimit 65 = .ok (.iastore, 1) := by decide +kernel
theorem dX3_dropLimit_66 : decode cX3_dropLimit 66 = .ok (.return_, 1) := by decide +kernel
theorem dX4_init_0 : decode cX4_init 0 = .ok (.aload_n 0, 1) := by decide +kernel
theorem dX4_init_1 : decode cX4_init 1 = .ok (.invokespecial 3, 3) := by decide +kernel
theorem dX4_init_4 : decode cX4_init 4 = .ok (.aload_n 0, 1) := by decide +kernel
theorem dX4_init_5 : decode cX4_init 5 = .ok (.bipush 12, 2) := by decide +kernel
theorem dX4_init_7 : decode cX4_init 7 = .ok (.newarray .int, 2) := by decide +kernel
theorem dX4_init_9 : decode cX4_init 9 = .ok (.putfield 9, 3) := by decide +kernel
theorem dX4_init_12 : decode cX4_init 12 = .ok (.aload_n 0, 1) := by decide +kernel
theorem dX4_init_13 : decode cX4_init 13 = .ok (.bipush 72, 2) := by decide +kernel
theorem dX4_init_15 : decode cX4_init 15 = .ok (.newarray .int, 2) := by decide +kernel
theorem dX4_init_17 : decode cX4_init 17 = .ok (.putfield 15, 3) := by decide +kernel
theorem dX4_init_20 : decode cX4_init 20 = .ok (.aload_n 0, 1) := by decide +kernel
theorem dX4_init_21 : decode cX4_init 21 = .ok (.bipush 12, 2) := by decide +kernel
theorem dX4_init_23 : decode cX4_init 23 = .ok (.newarray .int, 2) := by decide +kernel
theorem dX4_init_25 : decode cX4_init 25 = .ok (.putfield 18, 3) := by decide +kernel
theorem dX4_init_28 : decode cX4_init 28 = .ok (.aload_n 0, 1) := by decide +kernel
theorem dX4_init_29 : decode cX4_init 29 = .ok (.bipush 72, 2) := by decide +kernel
theorem dX4_init_31 : decode cX4_init 31 = .ok (.newarray .int, 2) := by decide +kernel
theorem dX4_init_33 : decode cX4_init 33 = .ok (.putfield 21, 3) := by decide +kernel
theorem dX4_init_36 : decode cX4_init 36 = .ok (.aload_n 0, 1) := by decide +kernel
theorem dX4_init_37 : decode cX4_init 37 = .ok (.bipush 72, 2) := by decide +kernel
theorem dX4_init_39 : decode cX4_init 39 = .ok (.newarray .int, 2) := by decide +kernel
theorem dX4_init_41 : decode cX4_init 41 = .ok (.putfield 24, 3) := by decide +kernel
theorem dX4_init_44 : decode cX4_init 44 = .ok (.aload_n 0, 1) := by decide +kernel
theorem dX4_init_45 : decode cX4_init 45 = .ok (.bipush 72, 2) := by decide +kernel
theorem dX4_init_47 : decode cX4_init 47 = .ok (.newarray .int, 2) := by decide +kernel
theorem dX4_init_49 : decode cX4_init 49 = .ok (.putfield 27, 3) := by decide +kernel
theorem dX4_init_52 : decode cX4_init 52 = .ok (.return_, 1) := by decide +kernel
theorem dX4_build_0 : decode cX4_build 0 = .ok (.aload_n 0, 1) := by decide +kernel
theorem dX4_build_1 : decode cX4_build 1 = .ok (.aload_n 1, 1) := by decide +kernel
theorem dX4_build_2 : decode cX4_build 2 = .ok (.aload_n 2, 1) := by decide +kernel
theorem dX4_build_3 : decode cX4_build 3 = .ok (.invokevirtual 30, 3) := by decide +kernel
theorem dX4_build_6 : decode cX4_build 6 = .ok (.iconst 0, 1) := by decide +kernel
theorem dX4_build_7 : decode cX4_build 7 = .ok (.istore_n 3, 1) := by decide +kernel
theorem dX4_build_8 : decode cX4_build 8 = .ok (.iload_n 3, 1) := by decide +kernel
theorem dX4_build_9 : decode cX4_build 9 = .ok (.bipush 12, 2) := by decide +kernel
theorem dX4_build_11 : decode cX4_build 11 = .ok (.if_icmp .ge 58, 3) := by decide +kernel
theorem dX4_build_14 : decode cX4_build 14 = .ok (.aload_n 0, 1) := by decide +kernel
theorem dX4_build_15 : decode cX4_build 15 = .ok (.iload_n 3, 1) := by decide +kernel
theorem dX4_build_16 : decode cX4_build 16 = .ok (.invokevirtual 34, 3) := by decide +kernel
theorem dX4_build_19 : decode cX4_build 19 = .ok (.aload_n 1, 1) := by decide +kernel
theorem dX4_build_20 : decode cX4_build 20 = .ok (.getfield 38, 3) := by decide +kernel
theorem dX4_build_23 : decode cX4_build 23 = .ok (.iconst 0, 1) := by decide +kernel
theorem dX4_build_24 : decode cX4_build 24 = .ok (.iaload, 1) := by decide +kernel
theorem dX4_build_25 : decode cX4_build 25 = .ok (.iconst 1, 1) := by decide +kernel
theorem dX4_build_26 : decode cX4_build 26 = .ok (.invokestatic 43, 3) := by decide +kernel
theorem dX4_build_29 : decode cX4_build 29 = .ok (.istore 4, 2) := by decide +kernel
theorem dX4_build_31 : decode cX4_build 31 = .ok (.iconst 0, 1) := by decide +kernel
theorem dX4_build_32 : decode cX4_build 32 = .ok (.istore 5, 2) := by decide +kernel
theorem dX4_build_34 : decode cX4_build 34 = .ok (.iload 5, 2) := by decide +kernel
theorem dX4_build_36 : decode cX4_build 36 = .ok (.bipush 6, 2) := by decide +kernel
theorem dX4_build_38 : decode cX4_build 38 = .ok (.if_icmp .ge 25, 3) := by decide +kernel
theorem dX4_build_41 : decode cX4_build 41 = .ok (.aload_n 0, 1) := by decide +kernel
theorem dX4_build_42 : decode cX4_build 42 = .ok (.getfield 18, 3) := by decide +kernel
theorem dX4_build_45 : decode cX4_build 45 = .ok (.iload_n 3, 1) := by decide +kernel
theorem dX4_build_46 : decode cX4_build 46 = .ok (.iaload, 1) := by decide +kernel
theorem dX4_build_47 : decode cX4_build 47 = .ok (.iload 4, 2) := by decide +kernel
theorem dX4_build_49 : decode cX4_build 49 = .ok (.if_icmp .le 14, 3) := by decide +kernel
theorem dX4_build_52 : decode cX4_build 52 = .ok (.aload_n 0, 1) := by decide +kernel
theorem dX4_build_53 : decode cX4_build 53 = .ok (.iload_n 3, 1) := by decide +kernel
theorem dX4_build_54 : decode cX4_build 54 = .ok (.invokevirtual 49, 3) := by decide +kernel
theorem dX4_build_57 : decode cX4_build 57 = .ok (.iinc 5 1, 3) := by decide +kernel
theorem dX4_build_60 : decode cX4_build 60 = .ok (.goto (-26), 3) := by decide +kernel
theorem dX4_build_63 : decode cX4_build 63 = .ok (.iinc 3 1, 3) := by decide +kernel
theorem dX4_build_66 : decode cX4_build 66 = .ok (.goto (-58), 3) := by decide +kernel
theorem dX4_build_69 : decode cX4_build 69 = .ok (.return_, 1) := by decide +kernel
theorem dX4_countSigns_0 : decode cX4_countSigns 0 = .ok (.iconst 0, 1) := by decide +kernel
theorem dX4_countSigns_1 : decode cX4_countSigns 1 = .ok (.istore_n 3, 1) := by decide +kernel
theorem dX4_countSigns_2 : decode cX4_countSigns 2 = .ok (.iload_n 3, 1) := by decide +kernel
theorem dX4_countSigns_3 : decode cX4_countSigns 3 = .ok (.bipush 12, 2) := by decide +kernel
theorem dX4_countSigns_5 : decode cX4_countSigns 5 = .ok (.if_icmp .ge 16, 3) := by decide +kernel
theorem dX4_countSigns_8 : decode cX4_countSigns 8 = .ok (.aload_n 0, 1) := by decide +kernel
theorem dX4_countSigns_9 : decode cX4_countSigns 9 = .ok (.getfield 9, 3) := by decide +kernel
theorem dX4_countSigns_12 : decode cX4_countSigns 12 = .ok (.iload_n 3, 1) := by decide +kernel
theorem dX4_countSigns_13 : decode cX4_countSigns 13 = .ok (.iconst 0, 1) := by decide +kernel
theorem dX4_countSigns_14 : decode cX4_countSigns 14 = .ok (.iastore, 1) := by decide +kernel
theorem dX4_countSigns_15 : decode cX4_countSigns 15 = .ok (.iinc 3 1, 3) := by decide +kernel
theorem dX4_countSigns_18 : decode cX4_countSigns 18 = .ok (.goto (-16), 3) := by decide +kernel
theorem dX4_countSigns_21 : decode cX4_countSigns 21 = .ok (.iconst 0, 1) := by decide +kernel
theorem dX4_countSigns_22 : decode cX4_countSigns 22 = .ok (.istore_n 3, 1) := by decide +kernel
theorem dX4_countSigns_23 : decode cX4_countSigns 23 = .ok (.iload_n 3, 1) := by decide +kernel
theorem dX4_countSigns_24 : decode cX4_countSigns 24 = .ok (.bipush 72, 2) := by decide +kernel
theorem dX4_countSigns_26 : decode cX4_countSigns 26 = .ok (.if_icmp .ge 16, 3) := by decide +kernel
theorem dX4_countSigns_29 : decode cX4_countSigns 29 = .ok (.aload_n 0, 1) := by decide +kernel
theorem dX4_countSigns_30 : decode cX4_countSigns 30 = .ok (.getfield 15, 3) := by decide +kernel
theorem dX4_countSigns_33 : decode cX4_countSigns 33 = .ok (.iload_n 3, 1) := by decide +kernel
theorem dX4_countSigns_34 : decode cX4_countSigns 34 = .ok (.iconst 0, 1) := by decide +kernel
theorem dX4_countSigns_35 : decode cX4_countSigns 35 = .ok (.iastore, 1) := by decide +kernel
theorem dX4_countSigns_36 : decode cX4_countSigns 36 = .ok (.iinc 3 1, 3) := by decide +kernel
theorem dX4_countSigns_39 : decode cX4_countSigns 39 = .ok (.goto (-16), 3) := by decide +kernel
theorem dX4_countSigns_42 : decode cX4_countSigns 42 = .ok (.iconst 0, 1) := by decide +kernel
theorem dX4_countSigns_43 : decode cX4_countSigns 43 = .ok (.istore_n 3, 1) := by decide +kernel
theorem dX4_countSigns_44 : decode cX4_countSigns 44 = .ok (.iload_n 3, 1) := by decide +kernel
theorem dX4_countSigns_45 : decode cX4_countSigns 45 = .ok (.aload_n 1, 1) := by decide +kernel
theorem dX4_countSigns_46 : decode cX4_countSigns 46 = .ok (.getfield 52, 3) := by decide +kernel
theorem dX4_countSigns_49 : decode cX4_countSigns 49 = .ok (.if_icmp .ge 54, 3) := by decide +kernel
theorem dX4_countSigns_52 : decode cX4_countSigns 52 = .ok (.aload_n 2, 1) := by decide +kernel
theorem dX4_countSigns_53 : decode cX4_countSigns 53 = .ok (.iload_n 3, 1) := by decide +kernel
theorem dX4_countSigns_54 : decode cX4_countSigns 54 = .ok (.baload, 1) := by decide +kernel
theorem dX4_countSigns_55 : decode cX4_countSigns 55 = .ok (.ifCond .eq 42, 3) := by decide +kernel
theorem dX4_countSigns_58 : decode cX4_countSigns 58 = .ok (.aload_n 1, 1) := by decide +kernel
theorem dX4_countSigns_59 : decode cX4_countSigns 59 = .ok (.getfield 56, 3) := by decide +kernel
theorem dX4_countSigns_62 : decode cX4_countSigns 62 = .ok (.iload_n 3, 1) := by decide +kernel
theorem dX4_countSigns_63 : decode cX4_countSigns 63 = .ok (.iaload, 1) := by decide +kernel
theorem dX4_countSigns_64 : decode cX4_countSigns 64 = .ok (.istore 4, 2) := by decide +kernel
theorem dX4_countSigns_66 : decode cX4_countSigns 66 = .ok (.aload_n 0, 1) := by decide +kernel
theorem dX4_countSigns_67 : decode cX4_countSigns 67 = .ok (.getfield 9, 3) := by decide +kernel
theorem dX4_countSigns_70 : decode cX4_countSigns 70 = .ok (.iload 4, 2) := by decide +kernel
theorem dX4_countSigns_72 : decode cX4_countSigns 72 = .ok (.dup2, 1) := by decide +kernel
theorem dX4_countSigns_73 : decode cX4_countSigns 73 = .ok (.iaload, 1) := by decide +kernel
theorem dX4_countSigns_74 : decode cX4_countSigns 74 = .ok (.iconst 1, 1) := by decide +kernel
theorem dX4_countSigns_75 : decode cX4_countSigns 75 = .ok (.iadd, 1) := by decide +kernel
theorem dX4_countSigns_76 : decode cX4_countSigns 76 = .ok (.iastore, 1) := by decide +kernel
theorem dX4_countSigns_77 : decode cX4_countSigns 77 = .ok (.aload_n 0, 1) := by decide +kernel
theorem dX4_countSigns_78 : decode cX4_countSigns 78 = .ok (.getfield 15, 3) := by decide +kernel
theorem dX4_countSigns_81 : decode cX4_countSigns 81 = .ok (.iload 4, 2) := by decide +kernel
theorem dX4_countSigns_83 : decode cX4_countSigns 83 = .ok (.bipush 6, 2) := by decide +kernel
theorem dX4_countSigns_85 : decode cX4_countSigns 85 = .ok (.imul, 1) := by decide +kernel
theorem dX4_countSigns_86 : decode cX4_countSigns 86 = .ok (.aload_n 1, 1) := by decide +kernel
theorem dX4_countSigns_87 : decode cX4_countSigns 87 = .ok (.iload_n 3, 1) := by decide +kernel
theorem dX4_countSigns_88 : decode cX4_countSigns 88 = .ok (.invokevirtual 59, 3) := by decide +kernel
theorem dX4_countSigns_91 : decode cX4_countSigns 91 = .ok (.iadd, 1) := by decide +kernel
theorem dX4_countSigns_92 : decode cX4_countSigns 92 = .ok (.dup2, 1) := by decide +kernel
theorem dX4_countSigns_93 : decode cX4_countSigns 93 = .ok (.iaload, 1) := by decide +kernel
theorem dX4_countSigns_94 : decode cX4_countSigns 94 = .ok (.iconst 1, 1) := by decide +kernel
theorem dX4_countSigns_95 : decode cX4_countSigns 95 = .ok (.iadd, 1) := by decide +kernel
theorem dX4_countSigns_96 : decode cX4_countSigns 96 = .ok (.iastore, 1) := by decide +kernel
theorem dX4_countSigns_97 : decode cX4_countSigns 97 = .ok (.iinc 3 1, 3) := by decide +kernel
theorem dX4_countSigns_100 : decode cX4_countSigns 100 = .ok (.goto (-56), 3) := by decide +kernel
theorem dX4_countSigns_103 : decode cX4_countSigns 103 = .ok (.return_, 1) := by decide +kernel
theorem dX4_takeClasses_0 : decode cX4_takeClasses 0 = .ok (.iload_n 1, 1) := by decide +kernel
theorem dX4_takeClasses_1 : decode cX4_takeClasses 1 = .ok (.bipush 6, 2) := by decide +kernel
theorem dX4_takeClasses_3 : decode cX4_takeClasses 3 = .ok (.imul, 1) := by decide +kernel
theorem dX4_takeClasses_4 : decode cX4_takeClasses 4 = .ok (.istore_n 2, 1) := by decide +kernel
theorem dX4_takeClasses_5 : decode cX4_takeClasses 5 = .ok (.aload_n 0, 1) := by decide +kernel
theorem dX4_takeClasses_6 : decode cX4_takeClasses 6 = .ok (.getfield 18, 3) := by decide +kernel
theorem dX4_takeClasses_9 : decode cX4_takeClasses 9 = .ok (.iload_n 1, 1) := by decide +kernel
theorem dX4_takeClasses_10 : decode cX4_takeClasses 10 = .ok (.iconst 0, 1) := by decide +kernel
theorem dX4_takeClasses_11 : decode cX4_takeClasses 11 = .ok (.iastore, 1) := by decide +kernel
theorem dX4_takeClasses_12 : decode cX4_takeClasses 12 = .ok (.iconst 0, 1) := by decide +kernel
theorem dX4_takeClasses_13 : decode cX4_takeClasses 13 = .ok (.istore_n 3, 1) := by decide +kernel
theorem dX4_takeClasses_14 : decode cX4_takeClasses 14 = .ok (.iload_n 3, 1) := by decide +kernel
theorem dX4_takeClasses_15 : decode cX4_takeClasses 15 = .ok (.bipush 6, 2) := by decide +kernel
theorem dX4_takeClasses_17 : decode cX4_takeClasses 17 = .ok (.if_icmp .ge 71, 3) := by decide +kernel
theorem dX4_takeClasses_20 : decode cX4_takeClasses 20 = .ok (.aload_n 0, 1) := by decide +kernel
theorem dX4_takeClasses_21 : decode cX4_takeClasses 21 = .ok (.getfield 15, 3) := by decide +kernel
theorem dX4_takeClasses_24 : decode cX4_takeClasses 24 = .ok (.iload_n 2, 1) := by decide +kernel
theorem dX4_takeClasses_25 : decode cX4_takeClasses 25 = .ok (.iload_n 3, 1) := by decide +kernel
theorem dX4_takeClasses_26 : decode cX4_takeClasses 26 = .ok (.iadd, 1) := by decide +kernel
theorem dX4_takeClasses_27 : decode cX4_takeClasses 27 = .ok (.iaload, 1) := by decide +kernel
theorem dX4_takeClasses_28 : decode cX4_takeClasses 28 = .ok (.ifCond .le 54, 3) := by decide +kernel
theorem dX4_takeClasses_31 : decode cX4_takeClasses 31 = .ok (.iload_n 2, 1) := by decide +kernel
theorem dX4_takeClasses_32 : decode cX4_takeClasses 32 = .ok (.aload_n 0, 1) := by decide +kernel
theorem dX4_takeClasses_33 : decode cX4_takeClasses 33 = .ok (.getfield 18, 3) := by decide +kernel
theorem dX4_takeClasses_36 : decode cX4_takeClasses 36 = .ok (.iload_n 1, 1) := by decide +kernel
theorem dX4_takeClasses_37 : decode cX4_takeClasses 37 = .ok (.iaload, 1) := by decide +kernel
theorem dX4_takeClasses_38 : decode cX4_takeClasses 38 = .ok (.iadd, 1) := by decide +kernel
theorem dX4_takeClasses_39 : decode cX4_takeClasses 39 = .ok (.istore 4, 2) := by decide +kernel
theorem dX4_takeClasses_41 : decode cX4_takeClasses 41 = .ok (.aload_n 0, 1) := by decide +kernel
theorem dX4_takeClasses_42 : decode cX4_takeClasses 42 = .ok (.getfield 21, 3) := by decide +kernel
theorem dX4_takeClasses_45 : decode cX4_takeClasses 45 = .ok (.iload 4, 2) := by decide +kernel
theorem dX4_takeClasses_47 : decode cX4_takeClasses 47 = .ok (.iload_n 3, 1) := by decide +kernel
theorem dX4_takeClasses_48 : decode cX4_takeClasses 48 = .ok (.iastore, 1) := by decide +kernel
theorem dX4_takeClasses_49 : decode cX4_takeClasses 49 = .ok (.aload_n 0, 1) := by decide +kernel
theorem dX4_takeClasses_50 : decode cX4_takeClasses 50 = .ok (.getfield 24, 3) := by decide +kernel
theorem dX4_takeClasses_53 : decode cX4_takeClasses 53 = .ok (.iload 4, 2) := by decide +kernel
theorem dX4_takeClasses_55 : decode cX4_takeClasses 55 = .ok (.iload_n 3, 1) := by decide +kernel
theorem dX4_takeClasses_56 : decode cX4_takeClasses 56 = .ok (.iastore, 1) := by decide +kernel
theorem dX4_takeClasses_57 : decode cX4_takeClasses 57 = .ok (.aload_n 0, 1) := by decide +kernel
theorem dX4_takeClasses_58 : decode cX4_takeClasses 58 = .ok (.getfield 27, 3) := by decide +kernel
theorem dX4_takeClasses_61 : decode cX4_takeClasses 61 = .ok (.iload 4, 2) := by decide +kernel
theorem dX4_takeClasses_63 : decode cX4_takeClasses 63 = .ok (.aload_n 0, 1) := by decide +kernel
theorem dX4_takeClasses_64 : decode cX4_takeClasses 64 = .ok (.getfield 15, 3) := by decide +kernel
theorem dX4_takeClasses_67 : decode cX4_takeClasses 67 = .ok (.iload_n 2, 1) := by decide +kernel
theorem dX4_takeClasses_68 : decode cX4_takeClasses 68 = .ok (.iload_n 3, 1) := by decide +kernel
theorem dX4_takeClasses_69 : decode cX4_takeClasses 69 = .ok (.iadd, 1) := by decide +kernel
theorem dX4_takeClasses_70 : decode cX4_takeClasses 70 = .ok (.iaload, 1) := by decide +kernel
theorem dX4_takeClasses_71 : decode cX4_takeClasses 71 = .ok (.iastore, 1) := by decide +kernel
theorem dX4_takeClasses_72 : decode cX4_takeClasses 72 = .ok (.aload_n 0, 1) := by decide +kernel
theorem dX4_takeClasses_73 : decode cX4_takeClasses 73 = .ok (.getfield 18, 3) := by decide +kernel
theorem dX4_takeClasses_76 : decode cX4_takeClasses 76 = .ok (.iload_n 1, 1) := by decide +kernel
theorem dX4_takeClasses_77 : decode cX4_takeClasses 77 = .ok (.dup2, 1) := by decide +kernel
theorem dX4_takeClasses_78 : decode cX4_takeClasses 78 = .ok (.iaload, 1) := by decide +kernel
theorem dX4_takeClasses_79 : decode cX4_takeClasses 79 = .ok (.iconst 1, 1) := by decide +kernel
theorem dX4_takeClasses_80 : decode cX4_takeClasses 80 = .ok (.iadd, 1) := by decide +kernel
theorem dX4_takeClasses_81 : decode cX4_takeClasses 81 = .ok (.iastore, 1) := by decide +kernel
theorem dX4_takeClasses_82 : decode cX4_takeClasses 82 = .ok (.iinc 3 1, 3) := by decide +kernel
theorem dX4_takeClasses_85 : decode cX4_takeClasses 85 = .ok (.goto (-71), 3) := by decide +kernel
theorem dX4_takeClasses_88 : decode cX4_takeClasses 88 = .ok (.return_, 1) := by decide +kernel
theorem dX4_joinFewest_0 : decode cX4_joinFewest 0 = .ok (.iload_n 1, 1) := by decide +kernel
theorem dX4_joinFewest_1 : decode cX4_joinFewest 1 = .ok (.bipush 6, 2) := by decide +kernel
theorem dX4_joinFewest_3 : decode cX4_joinFewest 3 = .ok (.imul, 1) := by decide +kernel
theorem dX4_joinFewest_4 : decode cX4_joinFewest 4 = .ok (.istore_n 2, 1) := by decide +kernel
theorem dX4_joinFewest_5 : decode cX4_joinFewest 5 = .ok (.iload_n 2, 1) := by decide +kernel
theorem dX4_joinFewest_6 : decode cX4_joinFewest 6 = .ok (.aload_n 0, 1) := by decide +kernel
theorem dX4_joinFewest_7 : decode cX4_joinFewest 7 = .ok (.getfield 18, 3) := by decide +kernel
theorem dX4_joinFewest_10 : decode cX4_joinFewest 10 = .ok (.iload_n 1, 1) := by decide +kernel
theorem dX4_joinFewest_11 : decode cX4_joinFewest 11 = .ok (.iaload, 1) := by decide +kernel
theorem dX4_joinFewest_12 : decode cX4_joinFewest 12 = .ok (.iadd, 1) := by decide +kernel
theorem dX4_joinFewest_13 : decode cX4_joinFewest 13 = .ok (.istore_n 3, 1) := by decide +kernel
theorem dX4_joinFewest_14 : decode cX4_joinFewest 14 = .ok (.iload_n 2, 1) := by decide +kernel
theorem dX4_joinFewest_15 : decode cX4_joinFewest 15 = .ok (.istore 4, 2) := by decide +kernel
theorem dX4_joinFewest_17 : decode cX4_joinFewest 17 = .ok (.iload_n 2, 1) := by decide +kernel
theorem dX4_joinFewest_18 : decode cX4_joinFewest 18 = .ok (.iconst 1, 1) := by decide +kernel
theorem dX4_joinFewest_19 : decode cX4_joinFewest 19 = .ok (.iadd, 1) := by decide +kernel
theorem dX4_joinFewest_20 : decode cX4_joinFewest 20 = .ok (.istore 5, 2) := by decide +kernel
theorem dX4_joinFewest_22 : decode cX4_joinFewest 22 = .ok (.iload 5, 2) := by decide +kernel
theorem dX4_joinFewest_24 : decode cX4_joinFewest 24 = .ok (.iconst 1, 1) := by decide +kernel
theorem dX4_joinFewest_25 : decode cX4_joinFewest 25 = .ok (.iadd, 1) := by decide +kernel
theorem dX4_joinFewest_26 : decode cX4_joinFewest 26 = .ok (.iload_n 3, 1) := by decide +kernel
theorem dX4_joinFewest_27 : decode cX4_joinFewest 27 = .ok (.if_icmp .ge 50, 3) := by decide +kernel
theorem dX4_joinFewest_30 : decode cX4_joinFewest 30 = .ok (.aload_n 0, 1) := by decide +kernel
theorem dX4_joinFewest_31 : decode cX4_joinFewest 31 = .ok (.getfield 27, 3) := by decide +kernel
theorem dX4_joinFewest_34 : decode cX4_joinFewest 34 = .ok (.iload 5, 2) := by decide +kernel
theorem dX4_joinFewest_36 : decode cX4_joinFewest 36 = .ok (.iaload, 1) := by decide +kernel
theorem dX4_joinFewest_37 : decode cX4_joinFewest 37 = .ok (.aload_n 0, 1) := by decide +kernel
theorem dX4_joinFewest_38 : decode cX4_joinFewest 38 = .ok (.getfield 27, 3) := by decide +kernel
theorem dX4_joinFewest_41 : decode cX4_joinFewest 41 = .ok (.iload 5, 2) := by decide +kernel
theorem dX4_joinFewest_43 : decode cX4_joinFewest 43 = .ok (.iconst 1, 1) := by decide +kernel
theorem dX4_joinFewest_44 : decode cX4_joinFewest 44 = .ok (.iadd, 1) := by decide +kernel
theorem dX4_joinFewest_45 : decode cX4_joinFewest 45 = .ok (.iaload, 1) := by decide +kernel
theorem dX4_joinFewest_46 : decode cX4_joinFewest 46 = .ok (.iadd, 1) := by decide +kernel
theorem dX4_joinFewest_47 : decode cX4_joinFewest 47 = .ok (.aload_n 0, 1) := by decide +kernel
theorem dX4_joinFewest_48 : decode cX4_joinFewest 48 = .ok (.getfield 27, 3) := by decide +kernel
theorem dX4_joinFewest_51 : decode cX4_joinFewest 51 = .ok (.iload 4, 2) := by decide +kernel
theorem dX4_joinFewest_53 : decode cX4_joinFewest 53 = .ok (.iaload, 1) := by decide +kernel
theorem dX4_joinFewest_54 : decode cX4_joinFewest 54 = .ok (.aload_n 0, 1) := by decide +kernel
theorem dX4_joinFewest_55 : decode cX4_joinFewest 55 = .ok (.getfield 27, 3) := by decide +kernel
theorem dX4_joinFewest_58 : decode cX4_joinFewest 58 = .ok (.iload 4, 2) := by decide +kernel
theorem dX4_joinFewest_60 : decode cX4_joinFewest 60 = .ok (.iconst 1, 1) := by decide +kernel
theorem dX4_joinFewest_61 : decode cX4_joinFewest 61 = .ok (.iadd, 1) := by decide +kernel
theorem dX4_joinFewest_62 : decode cX4_joinFewest 62 = .ok (.iaload, 1) := by decide +kernel
theorem dX4_joinFewest_63 : decode cX4_joinFewest 63 = .ok (.iadd, 1) := by decide +kernel
theorem dX4_joinFewest_64 : decode cX4_joinFewest 64 = .ok (.if_icmp .ge 7, 3) := by decide +kernel
theorem dX4_joinFewest_67 : decode cX4_joinFewest 67 = .ok (.iload 5, 2) := by decide +kernel
theorem dX4_joinFewest_69 : decode cX4_joinFewest 69 = .ok (.istore 4, 2) := by decide +kernel
theorem dX4_joinFewest_71 : decode cX4_joinFewest 71 = .ok (.iinc 5 1, 3) := by decide +kernel
theorem dX4_joinFewest_74 : decode cX4_joinFewest 74 = .ok (.goto (-52), 3) := by decide +kernel
theorem dX4_joinFewest_77 : decode cX4_joinFewest 77 = .ok (.aload_n 0, 1) := by decide +kernel
theorem dX4_joinFewest_78 : decode cX4_joinFewest 78 = .ok (.getfield 24, 3) := by decide +kernel
theorem dX4_joinFewest_81 : decode cX4_joinFewest 81 = .ok (.iload 4, 2) := by decide +kernel
theorem dX4_joinFewest_83 : decode cX4_joinFewest 83 = .ok (.aload_n 0, 1) := by decide +kernel
theorem dX4_joinFewest_84 : decode cX4_joinFewest 84 = .ok (.getfield 24, 3) := by decide +kernel
theorem dX4_joinFewest_87 : decode cX4_joinFewest 87 = .ok (.iload 4, 2) := by decide +kernel
theorem dX4_joinFewest_89 : decode cX4_joinFewest 89 = .ok (.iconst 1, 1) := by decide +kernel
theorem dX4_joinFewest_90 : decode cX4_joinFewest 90 = .ok (.iadd, 1) := by decide +kernel
theorem dX4_joinFewest_91 : decode cX4_joinFewest 91 = .ok (.iaload, 1) := by decide +kernel
theorem dX4_joinFewest_92 : decode cX4_joinFewest 92 = .ok (.iastore, 1) := by decide +kernel
theorem dX4_joinFewest_93 : decode cX4_joinFewest 93 = .ok (.aload_n 0, 1) := by decide +kernel
theorem dX4_joinFewest_94 : decode cX4_joinFewest 94 = .ok (.getfield 27, 3) := by decide +kernel
theorem dX4_joinFewest_97 : decode cX4_joinFewest 97 = .ok (.iload 4, 2) := by decide +kernel
theorem dX4_joinFewest_99 : decode cX4_joinFewest 99 = .ok (.dup2, 1) := by decide +kernel
theorem dX4_joinFewest_100 : decode cX4_joinFewest 100 = .ok (.iaload, 1) := by decide +kernel
theorem dX4_joinFewest_101 : decode cX4_joinFewest 101 = .ok (.aload_n 0, 1) := by decide +kernel
theorem dX4_joinFewest_102 : decode cX4_joinFewest 102 = .ok (.getfield 27, 3) := by decide +kernel
theorem dX4_joinFewest_105 : decode cX4_joinFewest 105 = .ok (.iload 4, 2) := by decide +kernel
theorem dX4_joinFewest_107 : decode cX4_joinFewest 107 = .ok (.iconst 1, 1) := by decide +kernel
theorem dX4_joinFewest_108 : decode cX4_joinFewest 108 = .ok (.iadd, 1) := by decide +kernel
theorem dX4_joinFewest_109 : decode cX4_joinFewest 109 = .ok (.iaload, 1) := by decide +kernel
theorem dX4_joinFewest_110 : decode cX4_joinFewest 110 = .ok (.iadd, 1) := by decide +kernel
theorem dX4_joinFewest_111 : decode cX4_joinFewest 111 = .ok (.iastore, 1) := by decide +kernel
theorem dX4_joinFewest_112 : decode cX4_joinFewest 112 = .ok (.iload 4, 2) := by decide +kernel
theorem dX4_joinFewest_114 : decode cX4_joinFewest 114 = .ok (.iconst 1, 1) := by decide +kernel
theorem dX4_joinFewest_115 : decode cX4_joinFewest 115 = .ok (.iadd, 1) := by decide +kernel
theorem dX4_joinFewest_116 : decode cX4_joinFewest 116 = .ok (.istore 5, 2) := by decide +kernel
theorem dX4_joinFewest_118 : decode cX4_joinFewest 118 = .ok (.iload 5, 2) := by decide +kernel
theorem dX4_joinFewest_120 : decode cX4_joinFewest 120 = .ok (.iconst 1, 1) := by decide +kernel
theorem dX4_joinFewest_121 : decode cX4_joinFewest 121 = .ok (.iadd, 1) := by decide +kernel
theorem dX4_joinFewest_122 : decode cX4_joinFewest 122 = .ok (.iload_n 3, 1) := by decide +kernel
theorem dX4_joinFewest_123 : decode cX4_joinFewest 123 = .ok (.if_icmp .ge 57, 3) := by decide +kernel
theorem dX4_joinFewest_126 : decode cX4_joinFewest 126 = .ok (.aload_n 0, 1) := by decide +kernel
theorem dX4_joinFewest_127 : decode cX4_joinFewest 127 = .ok (.getfield 21, 3) := by decide +kernel
theorem dX4_joinFewest_130 : decode cX4_joinFewest 130 = .ok (.iload 5, 2) := by decide +kernel
theorem dX4_joinFewest_132 : decode cX4_joinFewest 132 = .ok (.aload_n 0, 1) := by decide +kernel
theorem dX4_joinFewest_133 : decode cX4_joinFewest 133 = .ok (.getfield 21, 3) := by decide +kernel
theorem dX4_joinFewest_136 : decode cX4_joinFewest 136 = .ok (.iload 5, 2) := by decide +kernel
theorem dX4_joinFewest_138 : decode cX4_joinFewest 138 = .ok (.iconst 1, 1) := by decide +kernel
theorem dX4_joinFewest_139 : decode cX4_joinFewest 139 = .ok (.iadd, 1) := by decide +kernel
theorem dX4_joinFewest_140 : decode cX4_joinFewest 140 = .ok (.iaload, 1) := by decide +kernel
theorem dX4_joinFewest_141 : decode cX4_joinFewest 141 = .ok (.iastore, 1) := by decide +kernel
theorem dX4_joinFewest_142 : decode cX4_joinFewest 142 = .ok (.aload_n 0, 1) := by decide +kernel
theorem dX4_joinFewest_143 : decode cX4_joinFewest 143 = .ok (.getfield 24, 3) := by decide +kernel
theorem dX4_joinFewest_146 : decode cX4_joinFewest 146 = .ok (.iload 5, 2) := by decide +kernel
theorem dX4_joinFewest_148 : decode cX4_joinFewest 148 = .ok (.aload_n 0, 1) := by decide +kernel
theorem dX4_joinFewest_149 : decode cX4_joinFewest 149 = .ok (.getfield 24, 3) := by decide +kernel
theorem dX4_joinFewest_152 : decode cX4_joinFewest 152 = .ok (.iload 5, 2) := by decide +kernel
theorem dX4_joinFewest_154 : decode cX4_joinFewest 154 = .ok (.iconst 1, 1) := by decide +kernel
theorem dX4_joinFewest_155 : decode cX4_joinFewest 155 = .ok (.iadd, 1) := by decide +kernel
theorem dX4_joinFewest_156 : decode cX4_joinFewest 156 = .ok (.iaload, 1) := by decide +kernel
theorem dX4_joinFewest_157 : decode cX4_joinFewest 157 = .ok (.iastore, 1) := by decide +kernel
theorem dX4_joinFewest_158 : decode cX4_joinFewest 158 = .ok (.aload_n 0, 1) := by decide +kernel
theorem dX4_joinFewest_159 : decode cX4_joinFewest 159 = .ok (.getfield 27, 3) := by decide +kernel
theorem dX4_joinFewest_162 : decode cX4_joinFewest 162 = .ok (.iload 5, 2) := by decide +kernel
theorem dX4_joinFewest_164 : decode cX4_joinFewest 164 = .ok (.aload_n 0, 1) := by decide +kernel
theorem dX4_joinFewest_165 : decode cX4_joinFewest 165 = .ok (.getfield 27, 3) := by decide +kernel
theorem dX4_joinFewest_168 : decode cX4_joinFewest 168 = .ok (.iload 5, 2) := by decide +kernel
theorem dX4_joinFewest_170 : decode cX4_joinFewest 170 = .ok (.iconst 1, 1) := by decide +kernel
theorem dX4_joinFewest_171 : decode cX4_joinFewest 171 = .ok (.iadd, 1) := by decide +kernel
theorem dX4_joinFewest_172 : decode cX4_joinFewest 172 = .ok (.iaload, 1) := by decide +kernel
theorem dX4_joinFewest_173 : decode cX4_joinFewest 173 = .ok (.iastore, 1) := by decide +kernel
theorem dX4_joinFewest_174 : decode cX4_joinFewest 174 = .ok (.iinc 5 1, 3) := by decide +kernel
theorem dX4_joinFewest_177 : decode cX4_joinFewest 177 = .ok (.goto (-59), 3) := by decide +kernel
theorem dX4_joinFewest_180 : decode cX4_joinFewest 180 = .ok (.aload_n 0, 1) := by decide +kernel
theorem dX4_joinFewest_181 : decode cX4_joinFewest 181 = .ok (.getfield 18, 3) := by decide +kernel
theorem dX4_joinFewest_184 : decode cX4_joinFewest 184 = .ok (.iload_n 1, 1) := by decide +kernel
theorem dX4_joinFewest_185 : decode cX4_joinFewest 185 = .ok (.dup2, 1) := by decide +kernel
theorem dX4_joinFewest_186 : decode cX4_joinFewest 186 = .ok (.iaload, 1) := by decide +kernel
theorem dX4_joinFewest_187 : decode cX4_joinFewest 187 = .ok (.iconst 1, 1) := by decide +kernel
theorem dX4_joinFewest_188 : decode cX4_joinFewest 188 = .ok (.isub, 1) := by decide +kernel
theorem dX4_joinFewest_189 : decode cX4_joinFewest 189 = .ok (.iastore, 1) := by decide +kernel
theorem dX4_joinFewest_190 : decode cX4_joinFewest 190 = .ok (.return_, 1) := by decide +kernel
theorem dX5_init_0 : decode cX5_init 0 = .ok (.aload_n 0, 1) := by decide +kernel
theorem dX5_init_1 : decode cX5_init 1 = .ok (.invokespecial 3, 3) := by decide +kernel
theorem dX5_init_4 : decode cX5_init 4 = .ok (.aload_n 0, 1) := by decide +kernel
theorem dX5_init_5 : decode cX5_init 5 = .ok (.sipush 160, 3) := by decide +kernel
theorem dX5_init_8 : decode cX5_init 8 = .ok (.newarray .int, 2) := by decide +kernel
theorem dX5_init_10 : decode cX5_init 10 = .ok (.putfield 9, 3) := by decide +kernel
theorem dX5_init_13 : decode cX5_init 13 = .ok (.aload_n 0, 1) := by decide +kernel
theorem dX5_init_14 : decode cX5_init 14 = .ok (.new 15, 3) := by decide +kernel
theorem dX5_init_17 : decode cX5_init 17 = .ok (.dup, 1) := by decide +kernel
theorem dX5_init_18 : decode cX5_init 18 = .ok (.invokespecial 17, 3) := by decide +kernel
theorem dX5_init_21 : decode cX5_init 21 = .ok (.putfield 18, 3) := by decide +kernel
theorem dX5_init_24 : decode cX5_init 24 = .ok (.return_, 1) := by decide +kernel
theorem dX6_init_0 : decode cX6_init 0 = .ok (.aload_n 0, 1) := by decide +kernel
theorem dX6_init_1 : decode cX6_init 1 = .ok (.invokespecial 1, 3) := by decide +kernel
theorem dX6_init_4 : decode cX6_init 4 = .ok (.aload_n 0, 1) := by decide +kernel
theorem dX6_init_5 : decode cX6_init 5 = .ok (.new 7, 3) := by decide +kernel
theorem dX6_init_8 : decode cX6_init 8 = .ok (.dup, 1) := by decide +kernel
theorem dX6_init_9 : decode cX6_init 9 = .ok (.invokespecial 9, 3) := by decide +kernel
theorem dX6_init_12 : decode cX6_init 12 = .ok (.putfield 10, 3) := by decide +kernel
theorem dX6_init_15 : decode cX6_init 15 = .ok (.aload_n 0, 1) := by decide +kernel
theorem dX6_init_16 : decode cX6_init 16 = .ok (.new 16, 3) := by decide +kernel
theorem dX6_init_19 : decode cX6_init 19 = .ok (.dup, 1) := by decide +kernel
theorem dX6_init_20 : decode cX6_init 20 = .ok (.invokespecial 18, 3) := by decide +kernel
theorem dX6_init_23 : decode cX6_init 23 = .ok (.putfield 19, 3) := by decide +kernel
theorem dX6_init_26 : decode cX6_init 26 = .ok (.aload_n 0, 1) := by decide +kernel
theorem dX6_init_27 : decode cX6_init 27 = .ok (.new 7, 3) := by decide +kernel
theorem dX6_init_30 : decode cX6_init 30 = .ok (.dup, 1) := by decide +kernel
theorem dX6_init_31 : decode cX6_init 31 = .ok (.invokespecial 9, 3) := by decide +kernel
theorem dX6_init_34 : decode cX6_init 34 = .ok (.putfield 23, 3) := by decide +kernel
theorem dX6_init_37 : decode cX6_init 37 = .ok (.aload_n 0, 1) := by decide +kernel
theorem dX6_init_38 : decode cX6_init 38 = .ok (.new 16, 3) := by decide +kernel
theorem dX6_init_41 : decode cX6_init 41 = .ok (.dup, 1) := by decide +kernel
theorem dX6_init_42 : decode cX6_init 42 = .ok (.invokespecial 18, 3) := by decide +kernel
theorem dX6_init_45 : decode cX6_init 45 = .ok (.putfield 26, 3) := by decide +kernel
theorem dX6_init_48 : decode cX6_init 48 = .ok (.aload_n 0, 1) := by decide +kernel
theorem dX6_init_49 : decode cX6_init 49 = .ok (.new 29, 3) := by decide +kernel
theorem dX6_init_52 : decode cX6_init 52 = .ok (.dup, 1) := by decide +kernel
theorem dX6_init_53 : decode cX6_init 53 = .ok (.invokespecial 31, 3) := by decide +kernel
theorem dX6_init_56 : decode cX6_init 56 = .ok (.putfield 32, 3) := by decide +kernel
theorem dX6_init_59 : decode cX6_init 59 = .ok (.aload_n 0, 1) := by decide +kernel
theorem dX6_init_60 : decode cX6_init 60 = .ok (.iconst 4, 1) := by decide +kernel
theorem dX6_init_61 : decode cX6_init 61 = .ok (.anewarray 7, 3) := by decide +kernel
theorem dX6_init_64 : decode cX6_init 64 = .ok (.putfield 36, 3) := by decide +kernel
theorem dX6_init_67 : decode cX6_init 67 = .ok (.iconst 0, 1) := by decide +kernel
theorem dX6_init_68 : decode cX6_init 68 = .ok (.istore_n 1, 1) := by decide +kernel
theorem dX6_init_69 : decode cX6_init 69 = .ok (.iload_n 1, 1) := by decide +kernel
theorem dX6_init_70 : decode cX6_init 70 = .ok (.iconst 4, 1) := by decide +kernel
theorem dX6_init_71 : decode cX6_init 71 = .ok (.if_icmp .ge 22, 3) := by decide +kernel
theorem dX6_init_74 : decode cX6_init 74 = .ok (.aload_n 0, 1) := by decide +kernel
theorem dX6_init_75 : decode cX6_init 75 = .ok (.getfield 36, 3) := by decide +kernel
theorem dX6_init_78 : decode cX6_init 78 = .ok (.iload_n 1, 1) := by decide +kernel
theorem dX6_init_79 : decode cX6_init 79 = .ok (.new 7, 3) := by decide +kernel
theorem dX6_init_82 : decode cX6_init 82 = .ok (.dup, 1) := by decide +kernel
theorem dX6_init_83 : decode cX6_init 83 = .ok (.invokespecial 9, 3) := by decide +kernel
theorem dX6_init_86 : decode cX6_init 86 = .ok (.aastore, 1) := by decide +kernel
theorem dX6_init_87 : decode cX6_init 87 = .ok (.iinc 1 1, 3) := by decide +kernel
theorem dX6_init_90 : decode cX6_init 90 = .ok (.goto (-21), 3) := by decide +kernel
theorem dX6_init_93 : decode cX6_init 93 = .ok (.return_, 1) := by decide +kernel
theorem dX6_addSign_0 : decode cX6_addSign 0 = .ok (.iload_n 1, 1) := by decide +kernel
theorem dX6_addSign_1 : decode cX6_addSign 1 = .ok (.invokestatic 40, 3) := by decide +kernel
theorem dX6_addSign_4 : decode cX6_addSign 4 = .ok (.iload_n 2, 1) := by decide +kernel
theorem dX6_addSign_5 : decode cX6_addSign 5 = .ok (.sipush 200, 3) := by decide +kernel
theorem dX6_addSign_8 : decode cX6_addSign 8 = .ok (.invokestatic 44, 3) := by decide +kernel
theorem dX6_addSign_11 : decode cX6_addSign 11 = .ok (.iload_n 3, 1) := by decide +kernel
theorem dX6_addSign_12 : decode cX6_addSign 12 = .ok (.sipush 200, 3) := by decide +kernel
theorem dX6_addSign_15 : decode cX6_addSign 15 = .ok (.invokestatic 44, 3) := by decide +kernel
theorem dX6_addSign_18 : decode cX6_addSign 18 = .ok (.iload 4, 2) := by decide +kernel
theorem dX6_addSign_20 : decode cX6_addSign 20 = .ok (.sipush 10000, 3) := by decide +kernel
theorem dX6_addSign_23 : decode cX6_addSign 23 = .ok (.invokestatic 44, 3) := by decide +kernel
theorem dX6_addSign_26 : decode cX6_addSign 26 = .ok (.iload 5, 2) := by decide +kernel
theorem dX6_addSign_28 : decode cX6_addSign 28 = .ok (.bipush 6, 2) := by decide +kernel
theorem dX6_addSign_30 : decode cX6_addSign 30 = .ok (.invokestatic 44, 3) := by decide +kernel
theorem dX6_addSign_33 : decode cX6_addSign 33 = .ok (.aload_n 0, 1) := by decide +kernel
theorem dX6_addSign_34 : decode cX6_addSign 34 = .ok (.getfield 10, 3) := by decide +kernel
theorem dX6_addSign_37 : decode cX6_addSign 37 = .ok (.getfield 48, 3) := by decide +kernel
theorem dX6_addSign_40 : decode cX6_addSign 40 = .ok (.bipush 40, 2) := by decide +kernel
theorem dX6_addSign_42 : decode cX6_addSign 42 = .ok (.if_icmp .lt 13, 3) := by decide +kernel
theorem dX6_addSign_45 : decode cX6_addSign 45 = .ok (.new 52, 3) := by decide +kernel
theorem dX6_addSign_48 : decode cX6_addSign 48 = .ok (.dup, 1) := by decide +kernel
theorem dX6_addSign_49 : decode cX6_addSign 49 = .ok (.ldc 54, 2) := by decide +kernel
theorem dX6_addSign_51 : decode cX6_addSign 51 = .ok (.invokespecial 56, 3) := by decide +kernel
theorem dX6_addSign_54 : decode cX6_addSign 54 = .ok (.athrow, 1) := by decide +kernel
theorem dX6_addSign_55 : decode cX6_addSign 55 = .ok (.aload_n 0, 1) := by decide +kernel
theorem dX6_addSign_56 : decode cX6_addSign 56 = .ok (.invokevirtual 59, 3) := by decide +kernel
theorem dX6_addSign_59 : decode cX6_addSign 59 = .ok (.aload_n 0, 1) := by decide +kernel
theorem dX6_addSign_60 : decode cX6_addSign 60 = .ok (.getfield 10, 3) := by decide +kernel
theorem dX6_addSign_63 : decode cX6_addSign 63 = .ok (.iload_n 1, 1) := by decide +kernel
theorem dX6_addSign_64 : decode cX6_addSign 64 = .ok (.iload_n 2, 1) := by decide +kernel
theorem dX6_addSign_65 : decode cX6_addSign 65 = .ok (.iload_n 3, 1) := by decide +kernel
theorem dX6_addSign_66 : decode cX6_addSign 66 = .ok (.iload 4, 2) := by decide +kernel
theorem dX6_addSign_68 : decode cX6_addSign 68 = .ok (.iload 5, 2) := by decide +kernel
theorem dX6_addSign_70 : decode cX6_addSign 70 = .ok (.invokevirtual 62, 3) := by decide +kernel
theorem dX6_addSign_73 : decode cX6_addSign 73 = .ok (.aload_n 0, 1) := by decide +kernel
theorem dX6_addSign_74 : decode cX6_addSign 74 = .ok (.getfield 10, 3) := by decide +kernel
theorem dX6_addSign_77 : decode cX6_addSign 77 = .ok (.getfield 48, 3) := by decide +kernel
theorem dX6_addSign_80 : decode cX6_addSign 80 = .ok (.iconst 1, 1) := by decide +kernel
theorem dX6_addSign_81 : decode cX6_addSign 81 = .ok (.isub, 1) := by decide +kernel
theorem dX6_addSign_82 : decode cX6_addSign 82 = .ok (.ireturn, 1) := by decide +kernel
theorem dX6_removeSign_0 : decode cX6_removeSign 0 = .ok (.aload_n 0, 1) := by decide +kernel
theorem dX6_removeSign_1 : decode cX6_removeSign 1 = .ok (.iload_n 1, 1) := by decide +kernel
theorem dX6_removeSign_2 : decode cX6_removeSign 2 = .ok (.invokevirtual 66, 3) := by decide +kernel
theorem dX6_removeSign_5 : decode cX6_removeSign 5 = .ok (.aload_n 0, 1) := by decide +kernel
theorem dX6_removeSign_6 : decode cX6_removeSign 6 = .ok (.invokevirtual 59, 3) := by decide +kernel
theorem dX6_removeSign_9 : decode cX6_removeSign 9 = .ok (.aload_n 0, 1) := by decide +kernel
theorem dX6_removeSign_10 : decode cX6_removeSign 10 = .ok (.getfield 10, 3) := by decide +kernel
theorem dX6_removeSign_13 : decode cX6_removeSign 13 = .ok (.iload_n 1, 1) := by decide +kernel
theorem dX6_removeSign_14 : decode cX6_removeSign 14 = .ok (.invokevirtual 69, 3) := by decide +kernel
theorem dX6_removeSign_17 : decode cX6_removeSign 17 = .ok (.aload_n 0, 1) := by decide +kernel
theorem dX6_removeSign_18 : decode cX6_removeSign 18 = .ok (.getfield 10, 3) := by decide +kernel
theorem dX6_removeSign_21 : decode cX6_removeSign 21 = .ok (.getfield 48, 3) := by decide +kernel
theorem dX6_removeSign_24 : decode cX6_removeSign 24 = .ok (.ireturn, 1) := by decide +kernel
theorem dX6_moveSign_0 : decode cX6_moveSign 0 = .ok (.aload_n 0, 1) := by decide +kernel
theorem dX6_moveSign_1 : decode cX6_moveSign 1 = .ok (.iload_n 1, 1) := by decide +kernel
theorem dX6_moveSign_2 : decode cX6_moveSign 2 = .ok (.invokevirtual 66, 3) := by decide +kernel
theorem dX6_moveSign_5 : decode cX6_moveSign 5 = .ok (.iload_n 2, 1) := by decide +kernel
theorem dX6_moveSign_6 : decode cX6_moveSign 6 = .ok (.sipush 200, 3) := by decide +kernel
theorem dX6_moveSign_9 : decode cX6_moveSign 9 = .ok (.invokestatic 44, 3) := by decide +kernel
theorem dX6_moveSign_12 : decode cX6_moveSign 12 = .ok (.iload_n 3, 1) := by decide +kernel
theorem dX6_moveSign_13 : decode cX6_moveSign 13 = .ok (.sipush 200, 3) := by decide +kernel
theorem dX6_moveSign_16 : decode cX6_moveSign 16 = .ok (.invokestatic 44, 3) := by decide +kernel
theorem dX6_moveSign_19 : decode cX6_moveSign 19 = .ok (.aload_n 0, 1) := by decide +kernel
theorem dX6_moveSign_20 : decode cX6_moveSign 20 = .ok (.invokevirtual 59, 3) := by decide +kernel
theorem dX6_moveSign_23 : decode cX6_moveSign 23 = .ok (.aload_n 0, 1) := by decide +kernel
theorem dX6_moveSign_24 : decode cX6_moveSign 24 = .ok (.getfield 10, 3) := by decide +kernel
theorem dX6_moveSign_27 : decode cX6_moveSign 27 = .ok (.getfield 72, 3) := by decide +kernel
theorem dX6_moveSign_30 : decode cX6_moveSign 30 = .ok (.iload_n 1, 1) := by decide +kernel
theorem dX6_moveSign_31 : decode cX6_moveSign 31 = .ok (.iaload, 1) := by decide +kernel
theorem dX6_moveSign_32 : decode cX6_moveSign 32 = .ok (.istore 4, 2) := by decide +kernel
theorem dX6_moveSign_34 : decode cX6_moveSign 34 = .ok (.aload_n 0, 1) := by decide +kernel
theorem dX6_moveSign_35 : decode cX6_moveSign 35 = .ok (.getfield 10, 3) := by decide +kernel
theorem dX6_moveSign_38 : decode cX6_moveSign 38 = .ok (.getfield 72, 3) := by decide +kernel
theorem dX6_moveSign_41 : decode cX6_moveSign 41 = .ok (.iload_n 1, 1) := by decide +kernel
theorem dX6_moveSign_42 : decode cX6_moveSign 42 = .ok (.iload_n 2, 1) := by decide +kernel
theorem dX6_moveSign_43 : decode cX6_moveSign 43 = .ok (.iastore, 1) := by decide +kernel
theorem dX6_moveSign_44 : decode cX6_moveSign 44 = .ok (.aload_n 0, 1) := by decide +kernel
theorem dX6_moveSign_45 : decode cX6_moveSign 45 = .ok (.getfield 10, 3) := by decide +kernel
theorem dX6_moveSign_48 : decode cX6_moveSign 48 = .ok (.getfield 76, 3) := by decide +kernel
theorem dX6_moveSign_51 : decode cX6_moveSign 51 = .ok (.iload_n 1, 1) := by decide +kernel
theorem dX6_moveSign_52 : decode cX6_moveSign 52 = .ok (.iload_n 3, 1) := by decide +kernel
theorem dX6_moveSign_53 : decode cX6_moveSign 53 = .ok (.iastore, 1) := by decide +kernel
theorem dX6_moveSign_54 : decode cX6_moveSign 54 = .ok (.iload 4, 2) := by decide +kernel
theorem dX6_moveSign_56 : decode cX6_moveSign 56 = .ok (.ireturn, 1) := by decide +kernel
theorem dX6_setWindow_0 : decode cX6_setWindow 0 = .ok (.iload_n 1, 1) := by decide +kernel
theorem dX6_setWindow_1 : decode cX6_setWindow 1 = .ok (.sipush 200, 3) := by decide +kernel
theorem dX6_setWindow_4 : decode cX6_setWindow 4 = .ok (.invokestatic 44, 3) := by decide +kernel
theorem dX6_setWindow_7 : decode cX6_setWindow 7 = .ok (.iload_n 2, 1) := by decide +kernel
theorem dX6_setWindow_8 : decode cX6_setWindow 8 = .ok (.sipush 200, 3) := by decide +kernel
theorem dX6_setWindow_11 : decode cX6_setWindow 11 = .ok (.invokestatic 44, 3) := by decide +kernel
theorem dX6_setWindow_14 : decode cX6_setWindow 14 = .ok (.iload_n 3, 1) := by decide +kernel
theorem dX6_setWindow_15 : decode cX6_setWindow 15 = .ok (.invokestatic 79, 3) := by decide +kernel
theorem dX6_setWindow_18 : decode cX6_setWindow 18 = .ok (.iload 4, 2) := by decide +kernel
theorem dX6_setWindow_20 : decode cX6_setWindow 20 = .ok (.invokestatic 79, 3) := by decide +kernel
theorem dX6_setWindow_23 : decode cX6_setWindow 23 = .ok (.iload 5, 2) := by decide +kernel
theorem dX6_setWindow_25 : decode cX6_setWindow 25 = .ok (.bipush 6, 2) := by decide +kernel
theorem dX6_setWindow_27 : decode cX6_setWindow 27 = .ok (.invokestatic 44, 3) := by decide +kernel
theorem dX6_setWindow_30 : decode cX6_setWindow 30 = .ok (.aload_n 0, 1) := by decide +kernel
theorem dX6_setWindow_31 : decode cX6_setWindow 31 = .ok (.invokevirtual 59, 3) := by decide +kernel
theorem dX6_setWindow_34 : decode cX6_setWindow 34 = .ok (.aload_n 0, 1) := by decide +kernel
theorem dX6_setWindow_35 : decode cX6_setWindow 35 = .ok (.getfield 10, 3) := by decide +kernel
theorem dX6_setWindow_38 : decode cX6_setWindow 38 = .ok (.getfield 82, 3) := by decide +kernel
theorem dX6_setWindow_41 : decode cX6_setWindow 41 = .ok (.iconst 0, 1) := by decide +kernel
theorem dX6_setWindow_42 : decode cX6_setWindow 42 = .ok (.iload_n 1, 1) := by decide +kernel
theorem dX6_setWindow_43 : decode cX6_setWindow 43 = .ok (.iastore, 1) := by decide +kernel
theorem dX6_setWindow_44 : decode cX6_setWindow 44 = .ok (.aload_n 0, 1) := by decide +kernel
theorem dX6_setWindow_45 : decode cX6_setWindow 45 = .ok (.getfield 10, 3) := by decide +kernel
theorem dX6_setWindow_48 : decode cX6_setWindow 48 = .ok (.getfield 82, 3) := by decide +kernel
theorem dX6_setWindow_51 : decode cX6_setWindow 51 = .ok (.iconst 1, 1) := by decide +kernel
theorem dX6_setWindow_52 : decode cX6_setWindow 52 = .ok (.iload_n 2, 1) := by decide +kernel
theorem dX6_setWindow_53 : decode cX6_setWindow 53 = .ok (.iastore, 1) := by decide +kernel
theorem dX6_setWindow_54 : decode cX6_setWindow 54 = .ok (.aload_n 0, 1) := by decide +kernel
theorem dX6_setWindow_55 : decode cX6_setWindow 55 = .ok (.getfield 10, 3) := by decide +kernel
theorem dX6_setWindow_58 : decode cX6_setWindow 58 = .ok (.getfield 82, 3) := by decide +kernel
theorem dX6_setWindow_61 : decode cX6_setWindow 61 = .ok (.iconst 2, 1) := by decide +kernel
theorem dX6_setWindow_62 : decode cX6_setWindow 62 = .ok (.iload_n 3, 1) := by decide +kernel
theorem dX6_setWindow_63 : decode cX6_setWindow 63 = .ok (.iastore, 1) := by decide +kernel
theorem dX6_setWindow_64 : decode cX6_setWindow 64 = .ok (.aload_n 0, 1) := by decide +kernel
theorem dX6_setWindow_65 : decode cX6_setWindow 65 = .ok (.getfield 10, 3) := by decide +kernel
theorem dX6_setWindow_68 : decode cX6_setWindow 68 = .ok (.getfield 82, 3) := by decide +kernel
theorem dX6_setWindow_71 : decode cX6_setWindow 71 = .ok (.iconst 3, 1) := by decide +kernel
theorem dX6_setWindow_72 : decode cX6_setWindow 72 = .ok (.iload 4, 2) := by decide +kernel
theorem dX6_setWindow_74 : decode cX6_setWindow 74 = .ok (.iastore, 1) := by decide +kernel
theorem dX6_setWindow_75 : decode cX6_setWindow 75 = .ok (.aload_n 0, 1) := by decide +kernel
theorem dX6_setWindow_76 : decode cX6_setWindow 76 = .ok (.getfield 10, 3) := by decide +kernel
theorem dX6_setWindow_79 : decode cX6_setWindow 79 = .ok (.getfield 82, 3) := by decide +kernel
theorem dX6_setWindow_82 : decode cX6_setWindow 82 = .ok (.iconst 4, 1) := by decide +kernel
theorem dX6_setWindow_83 : decode cX6_setWindow 83 = .ok (.iload 5, 2) := by decide +kernel
theorem dX6_setWindow_85 : decode cX6_setWindow 85 = .ok (.iastore, 1) := by decide +kernel
theorem dX6_setWindow_86 : decode cX6_setWindow 86 = .ok (.aload_n 0, 1) := by decide +kernel
theorem dX6_setWindow_87 : decode cX6_setWindow 87 = .ok (.getfield 10, 3) := by decide +kernel
theorem dX6_setWindow_90 : decode cX6_setWindow 90 = .ok (.invokevirtual 85, 3) := by decide +kernel
theorem dX6_setWindow_93 : decode cX6_setWindow 93 = .ok (.ireturn, 1) := by decide +kernel
theorem dX6_set_0 : decode cX6_set 0 = .ok (.iload_n 1, 1) := by decide +kernel
theorem dX6_set_1 : decode cX6_set 1 = .ok (.iconst 4, 1) := by decide +kernel
theorem dX6_set_2 : decode cX6_set 2 = .ok (.invokestatic 44, 3) := by decide +kernel
theorem dX6_set_5 : decode cX6_set 5 = .ok (.iload_n 2, 1) := by decide +kernel
theorem dX6_set_6 : decode cX6_set 6 = .ok (.iconst 1, 1) := by decide +kernel
theorem dX6_set_7 : decode cX6_set 7 = .ok (.if_icmp .lt 12, 3) := by decide +kernel
theorem dX6_set_10 : decode cX6_set 10 = .ok (.iload_n 2, 1) := by decide +kernel
theorem dX6_set_11 : decode cX6_set 11 = .ok (.getstatic 89, 3) := by decide +kernel
theorem dX6_set_14 : decode cX6_set 14 = .ok (.iload_n 1, 1) := by decide +kernel
theorem dX6_set_15 : decode cX6_set 15 = .ok (.iaload, 1) := by decide +kernel
theorem dX6_set_16 : decode cX6_set 16 = .ok (.if_icmp .le 13, 3) := by decide +kernel
theorem dX6_set_19 : decode cX6_set 19 = .ok (.new 92, 3) := by decide +kernel
theorem dX6_set_22 : decode cX6_set 22 = .ok (.dup, 1) := by decide +kernel
theorem dX6_set_23 : decode cX6_set 23 = .ok (.ldc 94, 2) := by decide +kernel
theorem dX6_set_25 : decode cX6_set 25 = .ok (.invokespecial 96, 3) := by decide +kernel
theorem dX6_set_28 : decode cX6_set 28 = .ok (.athrow, 1) := by decide +kernel
theorem dX6_set_29 : decode cX6_set 29 = .ok (.aload_n 0, 1) := by decide +kernel
theorem dX6_set_30 : decode cX6_set 30 = .ok (.invokevirtual 59, 3) := by decide +kernel
theorem dX6_set_33 : decode cX6_set 33 = .ok (.aload_n 0, 1) := by decide +kernel
theorem dX6_set_34 : decode cX6_set 34 = .ok (.getfield 10, 3) := by decide +kernel
theorem dX6_set_37 : decode cX6_set 37 = .ok (.getfield 97, 3) := by decide +kernel
theorem dX6_set_40 : decode cX6_set 40 = .ok (.iload_n 1, 1) := by decide +kernel
theorem dX6_set_41 : decode cX6_set 41 = .ok (.iaload, 1) := by decide +kernel
theorem dX6_set_42 : decode cX6_set 42 = .ok (.istore_n 3, 1) := by decide +kernel
theorem dX6_set_43 : decode cX6_set 43 = .ok (.aload_n 0, 1) := by decide +kernel
theorem dX6_set_44 : decode cX6_set 44 = .ok (.getfield 10, 3) := by decide +kernel
theorem dX6_set_47 : decode cX6_set 47 = .ok (.getfield 97, 3) := by decide +kernel
theorem dX6_set_50 : decode cX6_set 50 = .ok (.iload_n 1, 1) := by decide +kernel
theorem dX6_set_51 : decode cX6_set 51 = .ok (.iload_n 2, 1) := by decide +kernel
theorem dX6_set_52 : decode cX6_set 52 = .ok (.iastore, 1) := by decide +kernel
theorem dX6_set_53 : decode cX6_set 53 = .ok (.iload_n 3, 1) := by decide +kernel
theorem dX6_set_54 : decode cX6_set 54 = .ok (.ireturn, 1) := by decide +kernel
theorem dX6_setKind_0 : decode cX6_setKind 0 = .ok (.iload_n 1, 1) := by decide +kernel
theorem dX6_setKind_1 : decode cX6_setKind 1 = .ok (.invokestatic 40, 3) := by decide +kernel
theorem dX6_setKind_4 : decode cX6_setKind 4 = .ok (.iload_n 2, 1) := by decide +kernel
theorem dX6_setKind_5 : decode cX6_setKind 5 = .ok (.bipush 100, 2) := by decide +kernel
theorem dX6_setKind_7 : decode cX6_setKind 7 = .ok (.invokestatic 44, 3) := by decide +kernel
theorem dX6_setKind_10 : decode cX6_setKind 10 = .ok (.iload_n 3, 1) := by decide +kernel
theorem dX6_setKind_11 : decode cX6_setKind 11 = .ok (.iconst (-1), 1) := by decide +kernel
theorem dX6_setKind_12 : decode cX6_setKind 12 = .ok (.if_icmp .eq 8, 3) := by decide +kernel
theorem dX6_setKind_15 : decode cX6_setKind 15 = .ok (.iload_n 3, 1) := by decide +kernel
theorem dX6_setKind_16 : decode cX6_setKind 16 = .ok (.iconst 5, 1) := by decide +kernel
theorem dX6_setKind_17 : decode cX6_setKind 17 = .ok (.invokestatic 44, 3) := by decide +kernel
theorem dX6_setKind_20 : decode cX6_setKind 20 = .ok (.aload_n 0, 1) := by decide +kernel
theorem dX6_setKind_21 : decode cX6_setKind 21 = .ok (.invokevirtual 59, 3) := by decide +kernel
theorem dX6_setKind_24 : decode cX6_setKind 24 = .ok (.aload_n 0, 1) := by decide +kernel
theorem dX6_setKind_25 : decode cX6_setKind 25 = .ok (.getfield 10, 3) := by decide +kernel
theorem dX6_setKind_28 : decode cX6_setKind 28 = .ok (.getfield 100, 3) := by decide +kernel
theorem dX6_setKind_31 : decode cX6_setKind 31 = .ok (.iload_n 1, 1) := by decide +kernel
theorem dX6_setKind_32 : decode cX6_setKind 32 = .ok (.iaload, 1) := by decide +kernel
theorem dX6_setKind_33 : decode cX6_setKind 33 = .ok (.istore 4, 2) := by decide +kernel
theorem dX6_setKind_35 : decode cX6_setKind 35 = .ok (.aload_n 0, 1) := by decide +kernel
theorem dX6_setKind_36 : decode cX6_setKind 36 = .ok (.getfield 10, 3) := by decide +kernel
theorem dX6_setKind_39 : decode cX6_setKind 39 = .ok (.getfield 100, 3) := by decide +kernel
theorem dX6_setKind_42 : decode cX6_setKind 42 = .ok (.iload_n 1, 1) := by decide +kernel
theorem dX6_setKind_43 : decode cX6_setKind 43 = .ok (.iload_n 2, 1) := by decide +kernel
theorem dX6_setKind_44 : decode cX6_setKind 44 = .ok (.iastore, 1) := by decide +kernel
theorem dX6_setKind_45 : decode cX6_setKind 45 = .ok (.aload_n 0, 1) := by decide +kernel
theorem dX6_setKind_46 : decode cX6_setKind 46 = .ok (.getfield 10, 3) := by decide +kernel
theorem dX6_setKind_49 : decode cX6_setKind 49 = .ok (.getfield 103, 3) := by decide +kernel
theorem dX6_setKind_52 : decode cX6_setKind 52 = .ok (.iload_n 1, 1) := by decide +kernel
theorem dX6_setKind_53 : decode cX6_setKind 53 = .ok (.iload_n 3, 1) := by decide +kernel
theorem dX6_setKind_54 : decode cX6_setKind 54 = .ok (.iastore, 1) := by decide +kernel
theorem dX6_setKind_55 : decode cX6_setKind 55 = .ok (.iload 4, 2) := by decide +kernel
theorem dX6_setKind_57 : decode cX6_setKind 57 = .ok (.ireturn, 1) := by decide +kernel
theorem dX6_setWay_0 : decode cX6_setWay 0 = .ok (.iload_n 1, 1) := by decide +kernel
theorem dX6_setWay_1 : decode cX6_setWay 1 = .ok (.ifCond .lt 8, 3) := by decide +kernel
theorem dX6_setWay_4 : decode cX6_setWay 4 = .ok (.iload_n 1, 1) := by decide +kernel
theorem dX6_setWay_5 : decode cX6_setWay 5 = .ok (.iconst 5, 1) := by decide +kernel
theorem dX6_setWay_6 : decode cX6_setWay 6 = .ok (.if_icmp .lt 13, 3) := by decide +kernel
theorem dX6_setWay_9 : decode cX6_setWay 9 = .ok (.new 106, 3) := by decide +kernel
theorem dX6_setWay_12 : decode cX6_setWay 12 = .ok (.dup, 1) := by decide +kernel
theorem dX6_setWay_13 : decode cX6_setWay 13 = .ok (.ldc 108, 2) := by decide +kernel
theorem dX6_setWay_15 : decode cX6_setWay 15 = .ok (.invokespecial 110, 3) := by decide +kernel
theorem dX6_setWay_18 : decode cX6_setWay 18 = .ok (.athrow, 1) := by decide +kernel
theorem dX6_setWay_19 : decode cX6_setWay 19 = .ok (.iload_n 2, 1) := by decide +kernel
theorem dX6_setWay_20 : decode cX6_setWay 20 = .ok (.iconst 2, 1) := by decide +kernel
theorem dX6_setWay_21 : decode cX6_setWay 21 = .ok (.invokestatic 44, 3) := by decide +kernel
theorem dX6_setWay_24 : decode cX6_setWay 24 = .ok (.aload_n 0, 1) := by decide +kernel
theorem dX6_setWay_25 : decode cX6_setWay 25 = .ok (.invokevirtual 59, 3) := by decide +kernel
theorem dX6_setWay_28 : decode cX6_setWay 28 = .ok (.aload_n 0, 1) := by decide +kernel
theorem dX6_setWay_29 : decode cX6_setWay 29 = .ok (.getfield 10, 3) := by decide +kernel
theorem dX6_setWay_32 : decode cX6_setWay 32 = .ok (.getfield 111, 3) := by decide +kernel
theorem dX6_setWay_35 : decode cX6_setWay 35 = .ok (.iload_n 1, 1) := by decide +kernel
theorem dX6_setWay_36 : decode cX6_setWay 36 = .ok (.iaload, 1) := by decide +kernel
theorem dX6_setWay_37 : decode cX6_setWay 37 = .ok (.istore_n 3, 1) := by decide +kernel
theorem dX6_setWay_38 : decode cX6_setWay 38 = .ok (.aload_n 0, 1) := by decide +kernel
theorem dX6_setWay_39 : decode cX6_setWay 39 = .ok (.getfield 10, 3) := by decide +kernel
theorem dX6_setWay_42 : decode cX6_setWay 42 = .ok (.getfield 111, 3) := by decide +kernel
theorem dX6_setWay_45 : decode cX6_setWay 45 = .ok (.iload_n 1, 1) := by decide +kernel
theorem dX6_setWay_46 : decode cX6_setWay 46 = .ok (.iload_n 2, 1) := by decide +kernel
theorem dX6_setWay_47 : decode cX6_setWay 47 = .ok (.iastore, 1) := by decide +kernel
theorem dX6_setWay_48 : decode cX6_setWay 48 = .ok (.iload_n 3, 1) := by decide +kernel
theorem dX6_setWay_49 : decode cX6_setWay 49 = .ok (.ireturn, 1) := by decide +kernel
theorem dX6_limit_0 : decode cX6_limit 0 = .ok (.iload_n 1, 1) := by decide +kernel
theorem dX6_limit_1 : decode cX6_limit 1 = .ok (.invokestatic 40, 3) := by decide +kernel
theorem dX6_limit_4 : decode cX6_limit 4 = .ok (.iload_n 2, 1) := by decide +kernel
theorem dX6_limit_5 : decode cX6_limit 5 = .ok (.iconst 1, 1) := by decide +kernel
theorem dX6_limit_6 : decode cX6_limit 6 = .ok (.if_icmp .lt 10, 3) := by decide +kernel
theorem dX6_limit_9 : decode cX6_limit 9 = .ok (.iload_n 2, 1) := by decide +kernel
theorem dX6_limit_10 : decode cX6_limit 10 = .ok (.sipush 10000, 3) := by decide +kernel
theorem dX6_limit_13 : decode cX6_limit 13 = .ok (.if_icmp .lt 13, 3) := by decide +kernel
theorem dX6_limit_16 : decode cX6_limit 16 = .ok (.new 92, 3) := by decide +kernel
theorem dX6_limit_19 : decode cX6_limit 19 = .ok (.dup, 1) := by decide +kernel
theorem dX6_limit_20 : decode cX6_limit 20 = .ok (.ldc 114, 2) := by decide +kernel
theorem dX6_limit_22 : decode cX6_limit 22 = .ok (.invokespecial 96, 3) := by decide +kernel
theorem dX6_limit_25 : decode cX6_limit 25 = .ok (.athrow, 1) := by decide +kernel
theorem dX6_limit_26 : decode cX6_limit 26 = .ok (.aload_n 0, 1) := by decide +kernel
theorem dX6_limit_27 : decode cX6_limit 27 = .ok (.getfield 10, 3) := by decide +kernel
theorem dX6_limit_30 : decode cX6_limit 30 = .ok (.iload_n 1, 1) := by decide +kernel
theorem dX6_limit_31 : decode cX6_limit 31 = .ok (.iload_n 2, 1) := by decide +kernel
theorem dX6_limit_32 : decode cX6_limit 32 = .ok (.invokevirtual 116, 3) := by decide +kernel
theorem dX6_limit_35 : decode cX6_limit 35 = .ok (.istore_n 3, 1) := by decide +kernel
theorem dX6_limit_36 : decode cX6_limit 36 = .ok (.iload_n 3, 1) := by decide +kernel
theorem dX6_limit_37 : decode cX6_limit 37 = .ok (.ifCond .ne 26, 3) := by decide +kernel
theorem dX6_limit_40 : decode cX6_limit 40 = .ok (.aload_n 0, 1) := by decide +kernel
theorem dX6_limit_41 : decode cX6_limit 41 = .ok (.getfield 10, 3) := by decide +kernel
theorem dX6_limit_44 : decode cX6_limit 44 = .ok (.getfield 120, 3) := by decide +kernel
theorem dX6_limit_47 : decode cX6_limit 47 = .ok (.iload_n 1, 1) := by decide +kernel
theorem dX6_limit_48 : decode cX6_limit 48 = .ok (.iaload, 1) := by decide +kernel
theorem dX6_limit_49 : decode cX6_limit 49 = .ok (.iconst 5, 1) := by decide +kernel
theorem dX6_limit_50 : decode cX6_limit 50 = .ok (.if_icmp .lt 13, 3) := by decide +kernel
theorem dX6_limit_53 : decode cX6_limit 53 = .ok (.new 52, 3) := by decide +kernel
theorem dX6_limit_56 : decode cX6_limit 56 = .ok (.dup, 1) := by decide +kernel
theorem dX6_limit_57 : decode cX6_limit 57 = .ok (.ldc 123, 2) := by decide +kernel
theorem dX6_limit_59 : decode cX6_limit 59 = .ok (.invokespecial 56, 3) := by decide +kernel
theorem dX6_limit_62 : decode cX6_limit 62 = .ok (.athrow, 1) := by decide +kernel
theorem dX6_limit_63 : decode cX6_limit 63 = .ok (.aload_n 0, 1) := by decide +kernel
theorem dX6_limit_64 : decode cX6_limit 64 = .ok (.invokevirtual 59, 3) := by decide +kernel
theorem dX6_limit_67 : decode cX6_limit 67 = .ok (.iload_n 3, 1) := by decide +kernel
theorem dX6_limit_68 : decode cX6_limit 68 = .ok (.ifCond .eq 15, 3) := by decide +kernel
theorem dX6_limit_71 : decode cX6_limit 71 = .ok (.aload_n 0, 1) := by decide +kernel
theorem dX6_limit_72 : decode cX6_limit 72 = .ok (.getfield 10, 3) := by decide +kernel
theorem dX6_limit_75 : decode cX6_limit 75 = .ok (.iload_n 1, 1) := by decide +kernel
theorem dX6_limit_76 : decode cX6_limit 76 = .ok (.iload_n 2, 1) := by decide +kernel
theorem dX6_limit_77 : decode cX6_limit 77 = .ok (.invokevirtual 125, 3) := by decide +kernel
theorem dX6_limit_80 : decode cX6_limit 80 = .ok (.goto 12, 3) := by decide +kernel
theorem dX6_limit_83 : decode cX6_limit 83 = .ok (.aload_n 0, 1) := by decide +kernel
theorem dX6_limit_84 : decode cX6_limit 84 = .ok (.getfield 10, 3) := by decide +kernel
theorem dX6_limit_87 : decode cX6_limit 87 = .ok (.iload_n 1, 1) := by decide +kernel
theorem dX6_limit_88 : decode cX6_limit 88 = .ok (.iload_n 2, 1) := by decide +kernel
theorem dX6_limit_89 : decode cX6_limit 89 = .ok (.invokevirtual 128, 3) := by decide +kernel
theorem dX6_limit_92 : decode cX6_limit 92 = .ok (.aload_n 0, 1) := by decide +kernel
theorem dX6_limit_93 : decode cX6_limit 93 = .ok (.getfield 10, 3) := by decide +kernel
theorem dX6_limit_96 : decode cX6_limit 96 = .ok (.getfield 120, 3) := by decide +kernel
theorem dX6_limit_99 : decode cX6_limit 99 = .ok (.iload_n 1, 1) := by decide +kernel
theorem dX6_limit_100 : decode cX6_limit 100 = .ok (.iaload, 1) := by decide +kernel
theorem dX6_limit_101 : decode cX6_limit 101 = .ok (.ireturn, 1) := by decide +kernel
theorem dX6_value_0 : decode cX6_value 0 = .ok (.iload_n 1, 1) := by decide +kernel
theorem dX6_value_1 : decode cX6_value 1 = .ok (.bipush 12, 2) := by decide +kernel
theorem dX6_value_3 : decode cX6_value 3 = .ok (.invokestatic 44, 3) := by decide +kernel
theorem dX6_value_6 : decode cX6_value 6 = .ok (.aload_n 0, 1) := by decide +kernel
theorem dX6_value_7 : decode cX6_value 7 = .ok (.getfield 19, 3) := by decide +kernel
theorem dX6_value_10 : decode cX6_value 10 = .ok (.aload_n 0, 1) := by decide +kernel
theorem dX6_value_11 : decode cX6_value 11 = .ok (.getfield 10, 3) := by decide +kernel
theorem dX6_value_14 : decode cX6_value 14 = .ok (.invokevirtual 131, 3) := by decide +kernel
theorem dX6_value_17 : decode cX6_value 17 = .ok (.aload_n 0, 1) := by decide +kernel
theorem dX6_value_18 : decode cX6_value 18 = .ok (.iload_n 1, 1) := by decide +kernel
theorem dX6_value_19 : decode cX6_value 19 = .ok (.invokevirtual 135, 3) := by decide +kernel
theorem dX6_value_22 : decode cX6_value 22 = .ok (.ireturn, 1) := by decide +kernel
theorem dX6_sign_0 : decode cX6_sign 0 = .ok (.aload_n 0, 1) := by decide +kernel
theorem dX6_sign_1 : decode cX6_sign 1 = .ok (.iload_n 1, 1) := by decide +kernel
theorem dX6_sign_2 : decode cX6_sign 2 = .ok (.invokevirtual 66, 3) := by decide +kernel
theorem dX6_sign_5 : decode cX6_sign 5 = .ok (.iload_n 2, 1) := by decide +kernel
theorem dX6_sign_6 : decode cX6_sign 6 = .ok (.bipush 9, 2) := by decide +kernel
theorem dX6_sign_8 : decode cX6_sign 8 = .ok (.invokestatic 44, 3) := by decide +kernel
theorem dX6_sign_11 : decode cX6_sign 11 = .ok (.aload_n 0, 1) := by decide +kernel
theorem dX6_sign_12 : decode cX6_sign 12 = .ok (.getfield 19, 3) := by decide +kernel
theorem dX6_sign_15 : decode cX6_sign 15 = .ok (.aload_n 0, 1) := by decide +kernel
theorem dX6_sign_16 : decode cX6_sign 16 = .ok (.getfield 10, 3) := by decide +kernel
theorem dX6_sign_19 : decode cX6_sign 19 = .ok (.invokevirtual 131, 3) := by decide +kernel
theorem dX6_sign_22 : decode cX6_sign 22 = .ok (.aload_n 0, 1) := by decide +kernel
theorem dX6_sign_23 : decode cX6_sign 23 = .ok (.iload_n 1, 1) := by decide +kernel
theorem dX6_sign_24 : decode cX6_sign 24 = .ok (.iload_n 2, 1) := by decide +kernel
theorem dX6_sign_25 : decode cX6_sign 25 = .ok (.invokevirtual 139, 3) := by decide +kernel
theorem dX6_sign_28 : decode cX6_sign 28 = .ok (.ireturn, 1) := by decide +kernel
theorem dX6_kind_0 : decode cX6_kind 0 = .ok (.iload_n 1, 1) := by decide +kernel
theorem dX6_kind_1 : decode cX6_kind 1 = .ok (.invokestatic 40, 3) := by decide +kernel
theorem dX6_kind_4 : decode cX6_kind 4 = .ok (.iload_n 2, 1) := by decide +kernel
theorem dX6_kind_5 : decode cX6_kind 5 = .ok (.bipush 10, 2) := by decide +kernel
theorem dX6_kind_7 : decode cX6_kind 7 = .ok (.invokestatic 44, 3) := by decide +kernel
theorem dX6_kind_10 : decode cX6_kind 10 = .ok (.aload_n 0, 1) := by decide +kernel
theorem dX6_kind_11 : decode cX6_kind 11 = .ok (.getfield 19, 3) := by decide +kernel
theorem dX6_kind_14 : decode cX6_kind 14 = .ok (.aload_n 0, 1) := by decide +kernel
theorem dX6_kind_15 : decode cX6_kind 15 = .ok (.getfield 10, 3) := by decide +kernel
theorem dX6_kind_18 : decode cX6_kind 18 = .ok (.invokevirtual 131, 3) := by decide +kernel
theorem dX6_kind_21 : decode cX6_kind 21 = .ok (.aload_n 0, 1) := by decide +kernel
theorem dX6_kind_22 : decode cX6_kind 22 = .ok (.iload_n 1, 1) := by decide +kernel
theorem dX6_kind_23 : decode cX6_kind 23 = .ok (.iload_n 2, 1) := by decide +kernel
theorem dX6_kind_24 : decode cX6_kind 24 = .ok (.invokevirtual 143, 3) := by decide +kernel
theorem dX6_kind_27 : decode cX6_kind 27 = .ok (.ireturn, 1) := by decide +kernel
theorem dX6_lines_0 : decode cX6_lines 0 = .ok (.aload_n 0, 1) := by decide +kernel
theorem dX6_lines_1 : decode cX6_lines 1 = .ok (.getfield 19, 3) := by decide +kernel
theorem dX6_lines_4 : decode cX6_lines 4 = .ok (.aload_n 0, 1) := by decide +kernel
theorem dX6_lines_5 : decode cX6_lines 5 = .ok (.getfield 10, 3) := by decide +kernel
theorem dX6_lines_8 : decode cX6_lines 8 = .ok (.invokevirtual 131, 3) := by decide +kernel
theorem dX6_lines_11 : decode cX6_lines 11 = .ok (.aload_n 0, 1) := by decide +kernel
theorem dX6_lines_12 : decode cX6_lines 12 = .ok (.getfield 19, 3) := by decide +kernel
theorem dX6_lines_15 : decode cX6_lines 15 = .ok (.getfield 146, 3) := by decide +kernel
theorem dX6_lines_18 : decode cX6_lines 18 = .ok (.getfield 150, 3) := by decide +kernel
theorem dX6_lines_21 : decode cX6_lines 21 = .ok (.ireturn, 1) := by decide +kernel
theorem dX6_line_0 : decode cX6_line 0 = .ok (.aload_n 0, 1) := by decide +kernel
theorem dX6_line_1 : decode cX6_line 1 = .ok (.getfield 19, 3) := by decide +kernel
theorem dX6_line_4 : decode cX6_line 4 = .ok (.aload_n 0, 1) := by decide +kernel
theorem dX6_line_5 : decode cX6_line 5 = .ok (.getfield 10, 3) := by decide +kernel
theorem dX6_line_8 : decode cX6_line 8 = .ok (.invokevirtual 131, 3) := by decide +kernel
theorem dX6_line_11 : decode cX6_line 11 = .ok (.iload_n 1, 1) := by decide +kernel
theorem dX6_line_12 : decode cX6_line 12 = .ok (.ifCond .lt 17, 3) := by decide +kernel
theorem dX6_line_15 : decode cX6_line 15 = .ok (.iload_n 1, 1) := by decide +kernel
theorem dX6_line_16 : decode cX6_line 16 = .ok (.aload_n 0, 1) := by decide +kernel
theorem dX6_line_17 : decode cX6_line 17 = .ok (.getfield 19, 3) := by decide +kernel
theorem dX6_line_20 : decode cX6_line 20 = .ok (.getfield 146, 3) := by decide +kernel
theorem dX6_line_23 : decode cX6_line 23 = .ok (.getfield 150, 3) := by decide +kernel
theorem dX6_line_26 : decode cX6_line 26 = .ok (.if_icmp .lt 13, 3) := by decide +kernel
theorem dX6_line_29 : decode cX6_line 29 = .ok (.new 106, 3) := by decide +kernel
theorem dX6_line_32 : decode cX6_line 32 = .ok (.dup, 1) := by decide +kernel
theorem dX6_line_33 : decode cX6_line 33 = .ok (.ldc 155, 2) := by decide +kernel
theorem dX6_line_35 : decode cX6_line 35 = .ok (.invokespecial 110, 3) := by decide +kernel
theorem dX6_line_38 : decode cX6_line 38 = .ok (.athrow, 1) := by decide +kernel
theorem dX6_line_39 : decode cX6_line 39 = .ok (.iload_n 2, 1) := by decide +kernel
theorem dX6_line_40 : decode cX6_line 40 = .ok (.bipush 8, 2) := by decide +kernel
theorem dX6_line_42 : decode cX6_line 42 = .ok (.invokestatic 44, 3) := by decide +kernel
theorem dX6_line_45 : decode cX6_line 45 = .ok (.aload_n 0, 1) := by decide +kernel
theorem dX6_line_46 : decode cX6_line 46 = .ok (.getfield 19, 3) := by decide +kernel
theorem dX6_line_49 : decode cX6_line 49 = .ok (.getfield 146, 3) := by decide +kernel
theorem dX6_line_52 : decode cX6_line 52 = .ok (.iload_n 1, 1) := by decide +kernel
theorem dX6_line_53 : decode cX6_line 53 = .ok (.iload_n 2, 1) := by decide +kernel
theorem dX6_line_54 : decode cX6_line 54 = .ok (.invokevirtual 157, 3) := by decide +kernel
theorem dX6_line_57 : decode cX6_line 57 = .ok (.ireturn, 1) := by decide +kernel
theorem dX6_box_0 : decode cX6_box 0 = .ok (.iload_n 1, 1) := by decide +kernel
theorem dX6_box_1 : decode cX6_box 1 = .ok (.bipush 6, 2) := by decide +kernel
theorem dX6_box_3 : decode cX6_box 3 = .ok (.invokestatic 44, 3) := by decide +kernel
theorem dX6_box_6 : decode cX6_box 6 = .ok (.aload_n 0, 1) := by decide +kernel
theorem dX6_box_7 : decode cX6_box 7 = .ok (.getfield 19, 3) := by decide +kernel
theorem dX6_box_10 : decode cX6_box 10 = .ok (.aload_n 0, 1) := by decide +kernel
theorem dX6_box_11 : decode cX6_box 11 = .ok (.getfield 10, 3) := by decide +kernel
theorem dX6_box_14 : decode cX6_box 14 = .ok (.invokevirtual 131, 3) := by decide +kernel
theorem dX6_box_17 : decode cX6_box 17 = .ok (.aload_n 0, 1) := by decide +kernel
theorem dX6_box_18 : decode cX6_box 18 = .ok (.getfield 19, 3) := by decide +kernel
theorem dX6_box_21 : decode cX6_box 21 = .ok (.getfield 160, 3) := by decide +kernel
theorem dX6_box_24 : decode cX6_box 24 = .ok (.iload_n 1, 1) := by decide +kernel
theorem dX6_box_25 : decode cX6_box 25 = .ok (.invokevirtual 164, 3) := by decide +kernel
theorem dX6_box_28 : decode cX6_box 28 = .ok (.ireturn, 1) := by decide +kernel
theorem dX6_rounds_0 : decode cX6_rounds 0 = .ok (.iload_n 1, 1) := by decide +kernel
theorem dX6_rounds_1 : decode cX6_rounds 1 = .ok (.iconst 3, 1) := by decide +kernel
theorem dX6_rounds_2 : decode cX6_rounds 2 = .ok (.invokestatic 44, 3) := by decide +kernel
theorem dX6_rounds_5 : decode cX6_rounds 5 = .ok (.aload_n 0, 1) := by decide +kernel
theorem dX6_rounds_6 : decode cX6_rounds 6 = .ok (.getfield 19, 3) := by decide +kernel
theorem dX6_rounds_9 : decode cX6_rounds 9 = .ok (.aload_n 0, 1) := by decide +kernel
theorem dX6_rounds_10 : decode cX6_rounds 10 = .ok (.getfield 10, 3) := by decide +kernel
theorem dX6_rounds_13 : decode cX6_rounds 13 = .ok (.invokevirtual 131, 3) := by decide +kernel
theorem dX6_rounds_16 : decode cX6_rounds 16 = .ok (.aload_n 0, 1) := by decide +kernel
theorem dX6_rounds_17 : decode cX6_rounds 17 = .ok (.iload_n 1, 1) := by decide +kernel
theorem dX6_rounds_18 : decode cX6_rounds 18 = .ok (.invokevirtual 168, 3) := by decide +kernel
theorem dX6_rounds_21 : decode cX6_rounds 21 = .ok (.ireturn, 1) := by decide +kernel
theorem dX6_firstLines_0 : decode cX6_firstLines 0 = .ok (.aload_n 0, 1) := by decide +kernel
theorem dX6_firstLines_1 : decode cX6_firstLines 1 = .ok (.getfield 19, 3) := by decide +kernel
theorem dX6_firstLines_4 : decode cX6_firstLines 4 = .ok (.aload_n 0, 1) := by decide +kernel
theorem dX6_firstLines_5 : decode cX6_firstLines 5 = .ok (.getfield 10, 3) := by decide +kernel
theorem dX6_firstLines_8 : decode cX6_firstLines 8 = .ok (.invokevirtual 131, 3) := by decide +kernel
theorem dX6_firstLines_11 : decode cX6_firstLines 11 = .ok (.aload_n 0, 1) := by decide +kernel
theorem dX6_firstLines_12 : decode cX6_firstLines 12 = .ok (.getfield 19, 3) := by decide +kernel
theorem dX6_firstLines_15 : decode cX6_firstLines 15 = .ok (.getfield 171, 3) := by decide +kernel
theorem dX6_firstLines_18 : decode cX6_firstLines 18 = .ok (.ireturn, 1) := by decide +kernel
theorem dX6_explained_0 : decode cX6_explained 0 = .ok (.aload_n 0, 1) := by decide +kernel
theorem dX6_explained_1 : decode cX6_explained 1 = .ok (.getfield 19, 3) := by decide +kernel
theorem dX6_explained_4 : decode cX6_explained 4 = .ok (.aload_n 0, 1) := by decide +kernel
theorem dX6_explained_5 : decode cX6_explained 5 = .ok (.getfield 10, 3) := by decide +kernel
theorem dX6_explained_8 : decode cX6_explained 8 = .ok (.invokevirtual 131, 3) := by decide +kernel
theorem dX6_explained_11 : decode cX6_explained 11 = .ok (.aload_n 0, 1) := by decide +kernel
theorem dX6_explained_12 : decode cX6_explained 12 = .ok (.getfield 19, 3) := by decide +kernel
theorem dX6_explained_15 : decode cX6_explained 15 = .ok (.getfield 174, 3) := by decide +kernel
theorem dX6_explained_18 : decode cX6_explained 18 = .ok (.istore_n 1, 1) := by decide +kernel
theorem dX6_explained_19 : decode cX6_explained 19 = .ok (.iload_n 1, 1) := by decide +kernel
theorem dX6_explained_20 : decode cX6_explained 20 = .ok (.ifCond .le 17, 3) := by decide +kernel
theorem dX6_explained_23 : decode cX6_explained 23 = .ok (.aload_n 0, 1) := by decide +kernel
theorem dX6_explained_24 : decode cX6_explained 24 = .ok (.getfield 19, 3) := by decide +kernel
theorem dX6_explained_27 : decode cX6_explained 27 = .ok (.getfield 177, 3) := by decide +kernel
theorem dX6_explained_30 : decode cX6_explained 30 = .ok (.i2d, 1) := by decide +kernel
theorem dX6_explained_31 : decode cX6_explained 31 = .ok (.iload_n 1, 1) := by decide +kernel
theorem dX6_explained_32 : decode cX6_explained 32 = .ok (.i2d, 1) := by decide +kernel
theorem dX6_explained_33 : decode cX6_explained 33 = .ok (.ddiv, 1) := by decide +kernel
theorem dX6_explained_34 : decode cX6_explained 34 = .ok (.goto 4, 3) := by decide +kernel
theorem dX6_explained_37 : decode cX6_explained 37 = .ok (.dconst 1, 1) := by decide +kernel
theorem dX6_explained_38 : decode cX6_explained 38 = .ok (.dreturn, 1) := by decide +kernel
theorem dX6_saveState_0 : decode cX6_saveState 0 = .ok (.aload_n 0, 1) := by decide +kernel
theorem dX6_saveState_1 : decode cX6_saveState 1 = .ok (.getfield 222, 3) := by decide +kernel
theorem dX6_saveState_4 : decode cX6_saveState 4 = .ok (.iconst 4, 1) := by decide +kernel
theorem dX6_saveState_5 : decode cX6_saveState 5 = .ok (.if_icmp .ne 25, 3) := by decide +kernel
theorem dX6_saveState_8 : decode cX6_saveState 8 = .ok (.aload_n 0, 1) := by decide +kernel
theorem dX6_saveState_9 : decode cX6_saveState 9 = .ok (.aload_n 0, 1) := by decide +kernel
theorem dX6_saveState_10 : decode cX6_saveState 10 = .ok (.getfield 227, 3) := by decide +kernel
theorem dX6_saveState_13 : decode cX6_saveState 13 = .ok (.iconst 1, 1) := by decide +kernel
theorem dX6_saveState_14 : decode cX6_saveState 14 = .ok (.iadd, 1) := by decide +kernel
theorem dX6_saveState_15 : decode cX6_saveState 15 = .ok (.iconst 4, 1) := by decide +kernel
theorem dX6_saveState_16 : decode cX6_saveState 16 = .ok (.irem, 1) := by decide +kernel
theorem dX6_saveState_17 : decode cX6_saveState 17 = .ok (.putfield 227, 3) := by decide +kernel
theorem dX6_saveState_20 : decode cX6_saveState 20 = .ok (.aload_n 0, 1) := by decide +kernel
theorem dX6_saveState_21 : decode cX6_saveState 21 = .ok (.dup, 1) := by decide +kernel
theorem dX6_saveState_22 : decode cX6_saveState 22 = .ok (.getfield 222, 3) := by decide +kernel
theorem dX6_saveState_25 : decode cX6_saveState 25 = .ok (.iconst 1, 1) := by decide +kernel
theorem dX6_saveState_26 : decode cX6_saveState 26 = .ok (.isub, 1) := by decide +kernel
theorem dX6_saveState_27 : decode cX6_saveState 27 = .ok (.putfield 222, 3) := by decide +kernel
theorem dX6_saveState_30 : decode cX6_saveState 30 = .ok (.aload_n 0, 1) := by decide +kernel
theorem dX6_saveState_31 : decode cX6_saveState 31 = .ok (.getfield 36, 3) := by decide +kernel
theorem dX6_saveState_34 : decode cX6_saveState 34 = .ok (.aload_n 0, 1) := by decide +kernel
theorem dX6_saveState_35 : decode cX6_saveState 35 = .ok (.getfield 227, 3) := by decide +kernel
theorem dX6_saveState_38 : decode cX6_saveState 38 = .ok (.aload_n 0, 1) := by decide +kernel
theorem dX6_saveState_39 : decode cX6_saveState 39 = .ok (.getfield 222, 3) := by decide +kernel
theorem dX6_saveState_42 : decode cX6_saveState 42 = .ok (.iadd, 1) := by decide +kernel
theorem dX6_saveState_43 : decode cX6_saveState 43 = .ok (.iconst 4, 1) := by decide +kernel
theorem dX6_saveState_44 : decode cX6_saveState 44 = .ok (.irem, 1) := by decide +kernel
theorem dX6_saveState_45 : decode cX6_saveState 45 = .ok (.aaload, 1) := by decide +kernel
theorem dX6_saveState_46 : decode cX6_saveState 46 = .ok (.astore_n 1, 1) := by decide +kernel
theorem dX6_saveState_47 : decode cX6_saveState 47 = .ok (.aload_n 1, 1) := by decide +kernel
theorem dX6_saveState_48 : decode cX6_saveState 48 = .ok (.ifnull 11, 3) := by decide +kernel
theorem dX6_saveState_51 : decode cX6_saveState 51 = .ok (.aload_n 1, 1) := by decide +kernel
theorem dX6_saveState_52 : decode cX6_saveState 52 = .ok (.aload_n 0, 1) := by decide +kernel
theorem dX6_saveState_53 : decode cX6_saveState 53 = .ok (.getfield 10, 3) := by decide +kernel
theorem dX6_saveState_56 : decode cX6_saveState 56 = .ok (.invokevirtual 180, 3) := by decide +kernel
theorem dX6_saveState_59 : decode cX6_saveState 59 = .ok (.aload_n 0, 1) := by decide +kernel
theorem dX6_saveState_60 : decode cX6_saveState 60 = .ok (.dup, 1) := by decide +kernel
theorem dX6_saveState_61 : decode cX6_saveState 61 = .ok (.getfield 222, 3) := by decide +kernel
theorem dX6_saveState_64 : decode cX6_saveState 64 = .ok (.iconst 1, 1) := by decide +kernel
theorem dX6_saveState_65 : decode cX6_saveState 65 = .ok (.iadd, 1) := by decide +kernel
theorem dX6_saveState_66 : decode cX6_saveState 66 = .ok (.putfield 222, 3) := by decide +kernel
theorem dX6_saveState_69 : decode cX6_saveState 69 = .ok (.aload_n 0, 1) := by decide +kernel
theorem dX6_saveState_70 : decode cX6_saveState 70 = .ok (.getfield 19, 3) := by decide +kernel
theorem dX6_saveState_73 : decode cX6_saveState 73 = .ok (.iconst 0, 1) := by decide +kernel
theorem dX6_saveState_74 : decode cX6_saveState 74 = .ok (.putfield 183, 3) := by decide +kernel
theorem dX6_saveState_77 : decode cX6_saveState 77 = .ok (.return_, 1) := by decide +kernel
theorem dX6_numberOf_0 : decode cX6_numberOf 0 = .ok (.iload_n 1, 1) := by decide +kernel
theorem dX6_numberOf_1 : decode cX6_numberOf 1 = .ok (.iconst 4, 1) := by decide +kernel
theorem dX6_numberOf_2 : decode cX6_numberOf 2 = .ok (.if_icmp .ge 21, 3) := by decide +kernel
theorem dX6_numberOf_5 : decode cX6_numberOf 5 = .ok (.iload_n 1, 1) := by decide +kernel
theorem dX6_numberOf_6 : decode cX6_numberOf 6 = .ok (.ifCond .lt 15, 3) := by decide +kernel
theorem dX6_numberOf_9 : decode cX6_numberOf 9 = .ok (.aload_n 0, 1) := by decide +kernel
theorem dX6_numberOf_10 : decode cX6_numberOf 10 = .ok (.getfield 10, 3) := by decide +kernel
theorem dX6_numberOf_13 : decode cX6_numberOf 13 = .ok (.getfield 97, 3) := by decide +kernel
theorem dX6_numberOf_16 : decode cX6_numberOf 16 = .ok (.iload_n 1, 1) := by decide +kernel
theorem dX6_numberOf_17 : decode cX6_numberOf 17 = .ok (.iaload, 1) := by decide +kernel
theorem dX6_numberOf_18 : decode cX6_numberOf 18 = .ok (.goto 4, 3) := by decide +kernel
theorem dX6_numberOf_21 : decode cX6_numberOf 21 = .ok (.iconst (-1), 1) := by decide +kernel
theorem dX6_numberOf_22 : decode cX6_numberOf 22 = .ok (.ireturn, 1) := by decide +kernel
theorem dX6_numberOf_23 : decode cX6_numberOf 23 = .ok (.iload_n 1, 1) := by decide +kernel
theorem dX6_numberOf_24 : decode cX6_numberOf 24 = .ok (.bipush 9, 2) := by decide +kernel
theorem dX6_numberOf_26 : decode cX6_numberOf 26 = .ok (.if_icmp .ge 15, 3) := by decide +kernel
theorem dX6_numberOf_29 : decode cX6_numberOf 29 = .ok (.aload_n 0, 1) := by decide +kernel
theorem dX6_numberOf_30 : decode cX6_numberOf 30 = .ok (.getfield 10, 3) := by decide +kernel
theorem dX6_numberOf_33 : decode cX6_numberOf 33 = .ok (.getfield 82, 3) := by decide +kernel
theorem dX6_numberOf_36 : decode cX6_numberOf 36 = .ok (.iload_n 1, 1) := by decide +kernel
theorem dX6_numberOf_37 : decode cX6_numberOf 37 = .ok (.iconst 4, 1) := by decide +kernel
theorem dX6_numberOf_38 : decode cX6_numberOf 38 = .ok (.isub, 1) := by decide +kernel
theorem dX6_numberOf_39 : decode cX6_numberOf 39 = .ok (.iaload, 1) := by decide +kernel
theorem dX6_numberOf_40 : decode cX6_numberOf 40 = .ok (.ireturn, 1) := by decide +kernel
theorem dX6_numberOf_41 : decode cX6_numberOf 41 = .ok (.iload_n 1, 1) := by decide +kernel
theorem dX6_numberOf_42 : decode cX6_numberOf 42 = .ok (.lookupswitch 42 #[(9, 26), (10, 34)], 26) := by decide +kernel
theorem dX6_numberOf_68 : decode cX6_numberOf 68 = .ok (.aload_n 0, 1) := by decide +kernel
theorem dX6_numberOf_69 : decode cX6_numberOf 69 = .ok (.getfield 10, 3) := by decide +kernel
theorem dX6_numberOf_72 : decode cX6_numberOf 72 = .ok (.getfield 48, 3) := by decide +kernel
theorem dX6_numberOf_75 : decode cX6_numberOf 75 = .ok (.ireturn, 1) := by decide +kernel
theorem dX6_numberOf_76 : decode cX6_numberOf 76 = .ok (.aload_n 0, 1) := by decide +kernel
theorem dX6_numberOf_77 : decode cX6_numberOf 77 = .ok (.getfield 19, 3) := by decide +kernel
theorem dX6_numberOf_80 : decode cX6_numberOf 80 = .ok (.getfield 174, 3) := by decide +kernel
theorem dX6_numberOf_83 : decode cX6_numberOf 83 = .ok (.ireturn, 1) := by decide +kernel
theorem dX6_numberOf_84 : decode cX6_numberOf 84 = .ok (.aload_n 0, 1) := by decide +kernel
theorem dX6_numberOf_85 : decode cX6_numberOf 85 = .ok (.getfield 19, 3) := by decide +kernel
theorem dX6_numberOf_88 : decode cX6_numberOf 88 = .ok (.getfield 177, 3) := by decide +kernel
theorem dX6_numberOf_91 : decode cX6_numberOf 91 = .ok (.ireturn, 1) := by decide +kernel
theorem dX6_signFact_0 : decode cX6_signFact 0 = .ok (.iload_n 1, 1) := by decide +kernel
theorem dX6_signFact_1 : decode cX6_signFact 1 = .ok (.ifCond .lt 9, 3) := by decide +kernel
theorem dX6_signFact_4 : decode cX6_signFact 4 = .ok (.iload_n 1, 1) := by decide +kernel
theorem dX6_signFact_5 : decode cX6_signFact 5 = .ok (.bipush 40, 2) := by decide +kernel
theorem dX6_signFact_7 : decode cX6_signFact 7 = .ok (.if_icmp .lt 5, 3) := by decide +kernel
theorem dX6_signFact_10 : decode cX6_signFact 10 = .ok (.iconst (-1), 1) := by decide +kernel
theorem dX6_signFact_11 : decode cX6_signFact 11 = .ok (.ireturn, 1) := by decide +kernel
theorem dX6_signFact_12 : decode cX6_signFact 12 = .ok (.iload_n 2, 1) := by decide +kernel
theorem dX6_signFact_13 : decode cX6_signFact 13 = .ok (.tableswitch 142 0 7 #[47, 57, 67, 77, 87, 97, 106, 124], 47) := by decide +kernel
theorem dX6_signFact_60 : decode cX6_signFact 60 = .ok (.aload_n 0, 1) := by decide +kernel
theorem dX6_signFact_61 : decode cX6_signFact 61 = .ok (.getfield 10, 3) := by decide +kernel
theorem dX6_signFact_64 : decode cX6_signFact 64 = .ok (.getfield 187, 3) := by decide +kernel
theorem dX6_signFact_67 : decode cX6_signFact 67 = .ok (.iload_n 1, 1) := by decide +kernel
theorem dX6_signFact_68 : decode cX6_signFact 68 = .ok (.iaload, 1) := by decide +kernel
theorem dX6_signFact_69 : decode cX6_signFact 69 = .ok (.ireturn, 1) := by decide +kernel
theorem dX6_signFact_70 : decode cX6_signFact 70 = .ok (.aload_n 0, 1) := by decide +kernel
theorem dX6_signFact_71 : decode cX6_signFact 71 = .ok (.getfield 10, 3) := by decide +kernel
theorem dX6_signFact_74 : decode cX6_signFact 74 = .ok (.getfield 72, 3) := by decide +kernel
theorem dX6_signFact_77 : decode cX6_signFact 77 = .ok (.iload_n 1, 1) := by decide +kernel
theorem dX6_signFact_78 : decode cX6_signFact 78 = .ok (.iaload, 1) := by decide +kernel
theorem dX6_signFact_79 : decode cX6_signFact 79 = .ok (.ireturn, 1) := by decide +kernel
theorem dX6_signFact_80 : decode cX6_signFact 80 = .ok (.aload_n 0, 1) := by decide +kernel
theorem dX6_signFact_81 : decode cX6_signFact 81 = .ok (.getfield 10, 3) := by decide +kernel
theorem dX6_signFact_84 : decode cX6_signFact 84 = .ok (.getfield 76, 3) := by decide +kernel
theorem dX6_signFact_87 : decode cX6_signFact 87 = .ok (.iload_n 1, 1) := by decide +kernel
theorem dX6_signFact_88 : decode cX6_signFact 88 = .ok (.iaload, 1) := by decide +kernel
theorem dX6_signFact_89 : decode cX6_signFact 89 = .ok (.ireturn, 1) := by decide +kernel
theorem dX6_signFact_90 : decode cX6_signFact 90 = .ok (.aload_n 0, 1) := by decide +kernel
theorem dX6_signFact_91 : decode cX6_signFact 91 = .ok (.getfield 10, 3) := by decide +kernel
theorem dX6_signFact_94 : decode cX6_signFact 94 = .ok (.getfield 244, 3) := by decide +kernel
theorem dX6_signFact_97 : decode cX6_signFact 97 = .ok (.iload_n 1, 1) := by decide +kernel
theorem dX6_signFact_98 : decode cX6_signFact 98 = .ok (.iaload, 1) := by decide +kernel
theorem dX6_signFact_99 : decode cX6_signFact 99 = .ok (.ireturn, 1) := by decide +kernel
theorem dX6_signFact_100 : decode cX6_signFact 100 = .ok (.aload_n 0, 1) := by decide +kernel
theorem dX6_signFact_101 : decode cX6_signFact 101 = .ok (.getfield 10, 3) := by decide +kernel
theorem dX6_signFact_104 : decode cX6_signFact 104 = .ok (.getfield 194, 3) := by decide +kernel
theorem dX6_signFact_107 : decode cX6_signFact 107 = .ok (.iload_n 1, 1) := by decide +kernel
theorem dX6_signFact_108 : decode cX6_signFact 108 = .ok (.iaload, 1) := by decide +kernel
theorem dX6_signFact_109 : decode cX6_signFact 109 = .ok (.ireturn, 1) := by decide +kernel
theorem dX6_signFact_110 : decode cX6_signFact 110 = .ok (.aload_n 0, 1) := by decide +kernel
theorem dX6_signFact_111 : decode cX6_signFact 111 = .ok (.getfield 10, 3) := by decide +kernel
theorem dX6_signFact_114 : decode cX6_signFact 114 = .ok (.iload_n 1, 1) := by decide +kernel
theorem dX6_signFact_115 : decode cX6_signFact 115 = .ok (.invokevirtual 247, 3) := by decide +kernel
theorem dX6_signFact_118 : decode cX6_signFact 118 = .ok (.ireturn, 1) := by decide +kernel
theorem dX6_signFact_119 : decode cX6_signFact 119 = .ok (.aload_n 0, 1) := by decide +kernel
theorem dX6_signFact_120 : decode cX6_signFact 120 = .ok (.getfield 19, 3) := by decide +kernel
theorem dX6_signFact_123 : decode cX6_signFact 123 = .ok (.getfield 250, 3) := by decide +kernel
theorem dX6_signFact_126 : decode cX6_signFact 126 = .ok (.iload_n 1, 1) := by decide +kernel
theorem dX6_signFact_127 : decode cX6_signFact 127 = .ok (.baload, 1) := by decide +kernel
theorem dX6_signFact_128 : decode cX6_signFact 128 = .ok (.ifCond .eq 7, 3) := by decide +kernel
theorem dX6_signFact_131 : decode cX6_signFact 131 = .ok (.iconst 1, 1) := by decide +kernel
theorem dX6_signFact_132 : decode cX6_signFact 132 = .ok (.goto 4, 3) := by decide +kernel
theorem dX6_signFact_135 : decode cX6_signFact 135 = .ok (.iconst 0, 1) := by decide +kernel
theorem dX6_signFact_136 : decode cX6_signFact 136 = .ok (.ireturn, 1) := by decide +kernel
theorem dX6_signFact_137 : decode cX6_signFact 137 = .ok (.aload_n 0, 1) := by decide +kernel
theorem dX6_signFact_138 : decode cX6_signFact 138 = .ok (.getfield 19, 3) := by decide +kernel
theorem dX6_signFact_141 : decode cX6_signFact 141 = .ok (.getfield 254, 3) := by decide +kernel
theorem dX6_signFact_144 : decode cX6_signFact 144 = .ok (.iload_n 1, 1) := by decide +kernel
theorem dX6_signFact_145 : decode cX6_signFact 145 = .ok (.baload, 1) := by decide +kernel
theorem dX6_signFact_146 : decode cX6_signFact 146 = .ok (.ifCond .eq 7, 3) := by decide +kernel
theorem dX6_signFact_149 : decode cX6_signFact 149 = .ok (.iconst 1, 1) := by decide +kernel
theorem dX6_signFact_150 : decode cX6_signFact 150 = .ok (.goto 4, 3) := by decide +kernel
theorem dX6_signFact_153 : decode cX6_signFact 153 = .ok (.iconst 0, 1) := by decide +kernel
theorem dX6_signFact_154 : decode cX6_signFact 154 = .ok (.ireturn, 1) := by decide +kernel
theorem dX6_signFact_155 : decode cX6_signFact 155 = .ok (.aload_n 0, 1) := by decide +kernel
theorem dX6_signFact_156 : decode cX6_signFact 156 = .ok (.getfield 19, 3) := by decide +kernel
theorem dX6_signFact_159 : decode cX6_signFact 159 = .ok (.aload_n 0, 1) := by decide +kernel
theorem dX6_signFact_160 : decode cX6_signFact 160 = .ok (.getfield 10, 3) := by decide +kernel
theorem dX6_signFact_163 : decode cX6_signFact 163 = .ok (.iload_n 1, 1) := by decide +kernel
theorem dX6_signFact_164 : decode cX6_signFact 164 = .ok (.invokevirtual 257, 3) := by decide +kernel
theorem dX6_signFact_167 : decode cX6_signFact 167 = .ok (.ireturn, 1) := by decide +kernel
theorem dX6_kindFact_0 : decode cX6_kindFact 0 = .ok (.iload_n 1, 1) := by decide +kernel
theorem dX6_kindFact_1 : decode cX6_kindFact 1 = .ok (.ifCond .lt 9, 3) := by decide +kernel
theorem dX6_kindFact_4 : decode cX6_kindFact 4 = .ok (.iload_n 1, 1) := by decide +kernel
theorem dX6_kindFact_5 : decode cX6_kindFact 5 = .ok (.bipush 12, 2) := by decide +kernel
theorem dX6_kindFact_7 : decode cX6_kindFact 7 = .ok (.if_icmp .lt 5, 3) := by decide +kernel
theorem dX6_kindFact_10 : decode cX6_kindFact 10 = .ok (.iconst (-1), 1) := by decide +kernel
theorem dX6_kindFact_11 : decode cX6_kindFact 11 = .ok (.ireturn, 1) := by decide +kernel
theorem dX6_kindFact_12 : decode cX6_kindFact 12 = .ok (.iload_n 2, 1) := by decide +kernel
theorem dX6_kindFact_13 : decode cX6_kindFact 13 = .ok (.tableswitch 110 0 9 #[55, 65, 75, 110, 110, 110, 110, 110, 85, 97], 55) := by decide +kernel
theorem dX6_kindFact_68 : decode cX6_kindFact 68 = .ok (.aload_n 0, 1) := by decide +kernel
theorem dX6_kindFact_69 : decode cX6_kindFact 69 = .ok (.getfield 10, 3) := by decide +kernel
theorem dX6_kindFact_72 : decode cX6_kindFact 72 = .ok (.getfield 100, 3) := by decide +kernel
theorem dX6_kindFact_75 : decode cX6_kindFact 75 = .ok (.iload_n 1, 1) := by decide +kernel
theorem dX6_kindFact_76 : decode cX6_kindFact 76 = .ok (.iaload, 1) := by decide +kernel
theorem dX6_kindFact_77 : decode cX6_kindFact 77 = .ok (.ireturn, 1) := by decide +kernel
theorem dX6_kindFact_78 : decode cX6_kindFact 78 = .ok (.aload_n 0, 1) := by decide +kernel
theorem dX6_kindFact_79 : decode cX6_kindFact 79 = .ok (.getfield 10, 3) := by decide +kernel
theorem dX6_kindFact_82 : decode cX6_kindFact 82 = .ok (.getfield 103, 3) := by decide +kernel
theorem dX6_kindFact_85 : decode cX6_kindFact 85 = .ok (.iload_n 1, 1) := by decide +kernel
theorem dX6_kindFact_86 : decode cX6_kindFact 86 = .ok (.iaload, 1) := by decide +kernel
theorem dX6_kindFact_87 : decode cX6_kindFact 87 = .ok (.ireturn, 1) := by decide +kernel
theorem dX6_kindFact_88 : decode cX6_kindFact 88 = .ok (.aload_n 0, 1) := by decide +kernel
theorem dX6_kindFact_89 : decode cX6_kindFact 89 = .ok (.getfield 10, 3) := by decide +kernel
theorem dX6_kindFact_92 : decode cX6_kindFact 92 = .ok (.getfield 120, 3) := by decide +kernel
theorem dX6_kindFact_95 : decode cX6_kindFact 95 = .ok (.iload_n 1, 1) := by decide +kernel
theorem dX6_kindFact_96 : decode cX6_kindFact 96 = .ok (.iaload, 1) := by decide +kernel
theorem dX6_kindFact_97 : decode cX6_kindFact 97 = .ok (.ireturn, 1) := by decide +kernel
theorem dX6_kindFact_98 : decode cX6_kindFact 98 = .ok (.aload_n 0, 1) := by decide +kernel
theorem dX6_kindFact_99 : decode cX6_kindFact 99 = .ok (.getfield 19, 3) := by decide +kernel
theorem dX6_kindFact_102 : decode cX6_kindFact 102 = .ok (.getfield 146, 3) := by decide +kernel
theorem dX6_kindFact_105 : decode cX6_kindFact 105 = .ok (.iload_n 1, 1) := by decide +kernel
theorem dX6_kindFact_106 : decode cX6_kindFact 106 = .ok (.invokevirtual 261, 3) := by decide +kernel
theorem dX6_kindFact_109 : decode cX6_kindFact 109 = .ok (.ireturn, 1) := by decide +kernel
theorem dX6_kindFact_110 : decode cX6_kindFact 110 = .ok (.aload_n 0, 1) := by decide +kernel
theorem dX6_kindFact_111 : decode cX6_kindFact 111 = .ok (.getfield 19, 3) := by decide +kernel
theorem dX6_kindFact_114 : decode cX6_kindFact 114 = .ok (.getfield 264, 3) := by decide +kernel
theorem dX6_kindFact_117 : decode cX6_kindFact 117 = .ok (.getfield 268, 3) := by decide +kernel
theorem dX6_kindFact_120 : decode cX6_kindFact 120 = .ok (.iload_n 1, 1) := by decide +kernel
theorem dX6_kindFact_121 : decode cX6_kindFact 121 = .ok (.iaload, 1) := by decide +kernel
theorem dX6_kindFact_122 : decode cX6_kindFact 122 = .ok (.ireturn, 1) := by decide +kernel
theorem dX6_kindFact_123 : decode cX6_kindFact 123 = .ok (.aload_n 0, 1) := by decide +kernel
theorem dX6_kindFact_124 : decode cX6_kindFact 124 = .ok (.getfield 10, 3) := by decide +kernel
theorem dX6_kindFact_127 : decode cX6_kindFact 127 = .ok (.iload_n 1, 1) := by decide +kernel
theorem dX6_kindFact_128 : decode cX6_kindFact 128 = .ok (.iload_n 2, 1) := by decide +kernel
theorem dX6_kindFact_129 : decode cX6_kindFact 129 = .ok (.iconst 3, 1) := by decide +kernel
theorem dX6_kindFact_130 : decode cX6_kindFact 130 = .ok (.isub, 1) := by decide +kernel
theorem dX6_kindFact_131 : decode cX6_kindFact 131 = .ok (.invokevirtual 273, 3) := by decide +kernel
theorem dX6_kindFact_134 : decode cX6_kindFact 134 = .ok (.ireturn, 1) := by decide +kernel
theorem dX6_roundFact_0 : decode cX6_roundFact 0 = .ok (.iload_n 1, 1) := by decide +kernel
theorem dX6_roundFact_1 : decode cX6_roundFact 1 = .ok (.lookupswitch 51 #[(0, 27), (1, 35)], 27) := by decide +kernel
theorem dX6_roundFact_28 : decode cX6_roundFact 28 = .ok (.aload_n 0, 1) := by decide +kernel
theorem dX6_roundFact_29 : decode cX6_roundFact 29 = .ok (.getfield 19, 3) := by decide +kernel
theorem dX6_roundFact_32 : decode cX6_roundFact 32 = .ok (.getfield 276, 3) := by decide +kernel
theorem dX6_roundFact_35 : decode cX6_roundFact 35 = .ok (.ireturn, 1) := by decide +kernel
theorem dX6_roundFact_36 : decode cX6_roundFact 36 = .ok (.aload_n 0, 1) := by decide +kernel
theorem dX6_roundFact_37 : decode cX6_roundFact 37 = .ok (.getfield 19, 3) := by decide +kernel
theorem dX6_roundFact_40 : decode cX6_roundFact 40 = .ok (.getfield 279, 3) := by decide +kernel
theorem dX6_roundFact_43 : decode cX6_roundFact 43 = .ok (.ifCond .eq 7, 3) := by decide +kernel
theorem dX6_roundFact_46 : decode cX6_roundFact 46 = .ok (.iconst 1, 1) := by decide +kernel
theorem dX6_roundFact_47 : decode cX6_roundFact 47 = .ok (.goto 4, 3) := by decide +kernel
theorem dX6_roundFact_50 : decode cX6_roundFact 50 = .ok (.iconst 0, 1) := by decide +kernel
theorem dX6_roundFact_51 : decode cX6_roundFact 51 = .ok (.ireturn, 1) := by decide +kernel
theorem dX6_roundFact_52 : decode cX6_roundFact 52 = .ok (.aload_n 0, 1) := by decide +kernel
theorem dX6_roundFact_53 : decode cX6_roundFact 53 = .ok (.getfield 19, 3) := by decide +kernel
theorem dX6_roundFact_56 : decode cX6_roundFact 56 = .ok (.aload_n 0, 1) := by decide +kernel
theorem dX6_roundFact_57 : decode cX6_roundFact 57 = .ok (.getfield 10, 3) := by decide +kernel
theorem dX6_roundFact_60 : decode cX6_roundFact 60 = .ok (.invokevirtual 282, 3) := by decide +kernel
theorem dX6_roundFact_63 : decode cX6_roundFact 63 = .ok (.ireturn, 1) := by decide +kernel
theorem dX6_demandSign_0 : decode cX6_demandSign 0 = .ok (.iload_n 1, 1) := by decide +kernel
theorem dX6_demandSign_1 : decode cX6_demandSign 1 = .ok (.ifCond .lt 14, 3) := by decide +kernel
theorem dX6_demandSign_4 : decode cX6_demandSign 4 = .ok (.iload_n 1, 1) := by decide +kernel
theorem dX6_demandSign_5 : decode cX6_demandSign 5 = .ok (.aload_n 0, 1) := by decide +kernel
theorem dX6_demandSign_6 : decode cX6_demandSign 6 = .ok (.getfield 10, 3) := by decide +kernel
theorem dX6_demandSign_9 : decode cX6_demandSign 9 = .ok (.getfield 48, 3) := by decide +kernel
theorem dX6_demandSign_12 : decode cX6_demandSign 12 = .ok (.if_icmp .lt 14, 3) := by decide +kernel
theorem dX6_demandSign_15 : decode cX6_demandSign 15 = .ok (.new 106, 3) := by decide +kernel
theorem dX6_demandSign_18 : decode cX6_demandSign 18 = .ok (.dup, 1) := by decide +kernel
theorem dX6_demandSign_19 : decode cX6_demandSign 19 = .ok (.ldc_w 286, 3) := by decide +kernel
theorem dX6_demandSign_22 : decode cX6_demandSign 22 = .ok (.invokespecial 110, 3) := by decide +kernel
theorem dX6_demandSign_25 : decode cX6_demandSign 25 = .ok (.athrow, 1) := by decide +kernel
theorem dX6_demandSign_26 : decode cX6_demandSign 26 = .ok (.return_, 1) := by decide +kernel
theorem dX6_demandKind_0 : decode cX6_demandKind 0 = .ok (.iload_n 0, 1) := by decide +kernel
theorem dX6_demandKind_1 : decode cX6_demandKind 1 = .ok (.ifCond .lt 9, 3) := by decide +kernel
theorem dX6_demandKind_4 : decode cX6_demandKind 4 = .ok (.iload_n 0, 1) := by decide +kernel
theorem dX6_demandKind_5 : decode cX6_demandKind 5 = .ok (.bipush 12, 2) := by decide +kernel
theorem dX6_demandKind_7 : decode cX6_demandKind 7 = .ok (.if_icmp .lt 14, 3) := by decide +kernel
theorem dX6_demandKind_10 : decode cX6_demandKind 10 = .ok (.new 106, 3) := by decide +kernel
theorem dX6_demandKind_13 : decode cX6_demandKind 13 = .ok (.dup, 1) := by decide +kernel
theorem dX6_demandKind_14 : decode cX6_demandKind 14 = .ok (.ldc_w 288, 3) := by decide +kernel
theorem dX6_demandKind_17 : decode cX6_demandKind 17 = .ok (.invokespecial 110, 3) := by decide +kernel
theorem dX6_demandKind_20 : decode cX6_demandKind 20 = .ok (.athrow, 1) := by decide +kernel
theorem dX6_demandKind_21 : decode cX6_demandKind 21 = .ok (.return_, 1) := by decide +kernel
theorem dX6_demandBelow_0 : decode cX6_demandBelow 0 = .ok (.iload_n 0, 1) := by decide +kernel
theorem dX6_demandBelow_1 : decode cX6_demandBelow 1 = .ok (.ifCond .lt 8, 3) := by decide +kernel
theorem dX6_demandBelow_4 : decode cX6_demandBelow 4 = .ok (.iload_n 0, 1) := by decide +kernel
theorem dX6_demandBelow_5 : decode cX6_demandBelow 5 = .ok (.iload_n 1, 1) := by decide +kernel
theorem dX6_demandBelow_6 : decode cX6_demandBelow 6 = .ok (.if_icmp .lt 14, 3) := by decide +kernel
theorem dX6_demandBelow_9 : decode cX6_demandBelow 9 = .ok (.new 92, 3) := by decide +kernel
theorem dX6_demandBelow_12 : decode cX6_demandBelow 12 = .ok (.dup, 1) := by decide +kernel
theorem dX6_demandBelow_13 : decode cX6_demandBelow 13 = .ok (.ldc_w 290, 3) := by decide +kernel
theorem dX6_demandBelow_16 : decode cX6_demandBelow 16 = .ok (.invokespecial 96, 3) := by decide +kernel
theorem dX6_demandBelow_19 : decode cX6_demandBelow 19 = .ok (.athrow, 1) := by decide +kernel
theorem dX6_demandBelow_20 : decode cX6_demandBelow 20 = .ok (.return_, 1) := by decide +kernel
theorem dX6_demandSpan_0 : decode cX6_demandSpan 0 = .ok (.iload_n 0, 1) := by decide +kernel
theorem dX6_demandSpan_1 : decode cX6_demandSpan 1 = .ok (.bipush 10, 2) := by decide +kernel
theorem dX6_demandSpan_3 : decode cX6_demandSpan 3 = .ok (.if_icmp .lt 10, 3) := by decide +kernel
theorem dX6_demandSpan_6 : decode cX6_demandSpan 6 = .ok (.iload_n 0, 1) := by decide +kernel
theorem dX6_demandSpan_7 : decode cX6_demandSpan 7 = .ok (.sipush 200, 3) := by decide +kernel
theorem dX6_demandSpan_10 : decode cX6_demandSpan 10 = .ok (.if_icmp .le 14, 3) := by decide +kernel
theorem dX6_demandSpan_13 : decode cX6_demandSpan 13 = .ok (.new 92, 3) := by decide +kernel
theorem dX6_demandSpan_16 : decode cX6_demandSpan 16 = .ok (.dup, 1) := by decide +kernel
theorem dX6_demandSpan_17 : decode cX6_demandSpan 17 = .ok (.ldc_w 292, 3) := by decide +kernel
theorem dX6_demandSpan_20 : decode cX6_demandSpan 20 = .ok (.invokespecial 96, 3) := by decide +kernel
theorem dX6_demandSpan_23 : decode cX6_demandSpan 23 = .ok (.athrow, 1) := by decide +kernel
theorem dX6_demandSpan_24 : decode cX6_demandSpan 24 = .ok (.return_, 1) := by decide +kernel
theorem dJ9_max_7cf53_0 : decode cJ9_max_7cf53 0 = .ok (.iload_n 0, 1) := by decide +kernel
theorem dJ9_max_7cf53_1 : decode cJ9_max_7cf53 1 = .ok (.iload_n 1, 1) := by decide +kernel
theorem dJ9_max_7cf53_2 : decode cJ9_max_7cf53 2 = .ok (.if_icmp .lt 7, 3) := by decide +kernel
theorem dJ9_max_7cf53_5 : decode cJ9_max_7cf53 5 = .ok (.iload_n 0, 1) := by decide +kernel
theorem dJ9_max_7cf53_6 : decode cJ9_max_7cf53 6 = .ok (.goto 4, 3) := by decide +kernel
theorem dJ9_max_7cf53_9 : decode cJ9_max_7cf53 9 = .ok (.iload_n 1, 1) := by decide +kernel
theorem dJ9_max_7cf53_10 : decode cJ9_max_7cf53 10 = .ok (.ireturn, 1) := by decide +kernel
theorem dJ9_min_7cf53_0 : decode cJ9_min_7cf53 0 = .ok (.iload_n 0, 1) := by decide +kernel
theorem dJ9_min_7cf53_1 : decode cJ9_min_7cf53 1 = .ok (.iload_n 1, 1) := by decide +kernel
theorem dJ9_min_7cf53_2 : decode cJ9_min_7cf53 2 = .ok (.if_icmp .gt 7, 3) := by decide +kernel
theorem dJ9_min_7cf53_5 : decode cJ9_min_7cf53 5 = .ok (.iload_n 0, 1) := by decide +kernel
theorem dJ9_min_7cf53_6 : decode cJ9_min_7cf53 6 = .ok (.goto 4, 3) := by decide +kernel
theorem dJ9_min_7cf53_9 : decode cJ9_min_7cf53 9 = .ok (.iload_n 1, 1) := by decide +kernel
theorem dJ9_min_7cf53_10 : decode cJ9_min_7cf53 10 = .ok (.ireturn, 1) := by decide +kernel
