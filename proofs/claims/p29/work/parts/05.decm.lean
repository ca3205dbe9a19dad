theorem dL_cell_0 : decode cL_cell 0 = .ok (.iload_n 1, 1) := by decide +kernel
theorem dL_cell_1 : decode cL_cell 1 = .ok (.aload_n 0, 1) := by decide +kernel
theorem dL_cell_2 : decode cL_cell 2 = .ok (.arraylength, 1) := by decide +kernel
theorem dL_cell_3 : decode cL_cell 3 = .ok (.if_icmp .ge 9, 3) := by decide +kernel
theorem dL_cell_6 : decode cL_cell 6 = .ok (.aload_n 0, 1) := by decide +kernel
theorem dL_cell_7 : decode cL_cell 7 = .ok (.iload_n 1, 1) := by decide +kernel
theorem dL_cell_8 : decode cL_cell 8 = .ok (.iaload, 1) := by decide +kernel
theorem dL_cell_9 : decode cL_cell 9 = .ok (.goto 9, 3) := by decide +kernel
theorem dL_cell_12 : decode cL_cell 12 = .ok (.ldc 7, 2) := by decide +kernel
theorem dL_cell_14 : decode cL_cell 14 = .ok (.iload_n 1, 1) := by decide +kernel
theorem dL_cell_15 : decode cL_cell 15 = .ok (.iconst 3, 1) := by decide +kernel
theorem dL_cell_16 : decode cL_cell 16 = .ok (.iadd, 1) := by decide +kernel
theorem dL_cell_17 : decode cL_cell 17 = .ok (.imul, 1) := by decide +kernel
theorem dL_cell_18 : decode cL_cell 18 = .ok (.ireturn, 1) := by decide +kernel
theorem dL_low_0 : decode cL_low 0 = .ok (.iload_n 0, 1) := by decide +kernel
theorem dL_low_1 : decode cL_low 1 = .ok (.ldc 8, 2) := by decide +kernel
theorem dL_low_3 : decode cL_low 3 = .ok (.iand, 1) := by decide +kernel
theorem dL_low_4 : decode cL_low 4 = .ok (.iload_n 1, 1) := by decide +kernel
theorem dL_low_5 : decode cL_low 5 = .ok (.irem, 1) := by decide +kernel
theorem dL_low_6 : decode cL_low 6 = .ok (.ireturn, 1) := by decide +kernel
theorem dL_classOf_0 : decode cL_classOf 0 = .ok (.bipush 8, 2) := by decide +kernel
theorem dL_classOf_2 : decode cL_classOf 2 = .ok (.aload_n 1, 1) := by decide +kernel
theorem dL_classOf_3 : decode cL_classOf 3 = .ok (.iconst 5, 1) := by decide +kernel
theorem dL_classOf_4 : decode cL_classOf 4 = .ok (.iload_n 2, 1) := by decide +kernel
theorem dL_classOf_5 : decode cL_classOf 5 = .ok (.imul, 1) := by decide +kernel
theorem dL_classOf_6 : decode cL_classOf 6 = .ok (.iaload, 1) := by decide +kernel
theorem dL_classOf_7 : decode cL_classOf 7 = .ok (.imul, 1) := by decide +kernel
theorem dL_classOf_8 : decode cL_classOf 8 = .ok (.istore_n 3, 1) := by decide +kernel
theorem dL_classOf_9 : decode cL_classOf 9 = .ok (.iconst 0, 1) := by decide +kernel
theorem dL_classOf_10 : decode cL_classOf 10 = .ok (.istore 4, 2) := by decide +kernel
theorem dL_classOf_12 : decode cL_classOf 12 = .ok (.iload 4, 2) := by decide +kernel
theorem dL_classOf_14 : decode cL_classOf 14 = .ok (.aload_n 0, 1) := by decide +kernel
theorem dL_classOf_15 : decode cL_classOf 15 = .ok (.iload_n 3, 1) := by decide +kernel
theorem dL_classOf_16 : decode cL_classOf 16 = .ok (.iconst 2, 1) := by decide +kernel
theorem dL_classOf_17 : decode cL_classOf 17 = .ok (.iadd, 1) := by decide +kernel
theorem dL_classOf_18 : decode cL_classOf 18 = .ok (.iaload, 1) := by decide +kernel
theorem dL_classOf_19 : decode cL_classOf 19 = .ok (.if_icmp .ge 27, 3) := by decide +kernel
theorem dL_classOf_22 : decode cL_classOf 22 = .ok (.aload_n 0, 1) := by decide +kernel
theorem dL_classOf_23 : decode cL_classOf 23 = .ok (.iload_n 3, 1) := by decide +kernel
theorem dL_classOf_24 : decode cL_classOf 24 = .ok (.iconst 3, 1) := by decide +kernel
theorem dL_classOf_25 : decode cL_classOf 25 = .ok (.iadd, 1) := by decide +kernel
theorem dL_classOf_26 : decode cL_classOf 26 = .ok (.iload 4, 2) := by decide +kernel
theorem dL_classOf_28 : decode cL_classOf 28 = .ok (.iadd, 1) := by decide +kernel
theorem dL_classOf_29 : decode cL_classOf 29 = .ok (.iaload, 1) := by decide +kernel
theorem dL_classOf_30 : decode cL_classOf 30 = .ok (.aload_n 1, 1) := by decide +kernel
theorem dL_classOf_31 : decode cL_classOf 31 = .ok (.iconst 5, 1) := by decide +kernel
theorem dL_classOf_32 : decode cL_classOf 32 = .ok (.iload_n 2, 1) := by decide +kernel
theorem dL_classOf_33 : decode cL_classOf 33 = .ok (.imul, 1) := by decide +kernel
theorem dL_classOf_34 : decode cL_classOf 34 = .ok (.iconst 3, 1) := by decide +kernel
theorem dL_classOf_35 : decode cL_classOf 35 = .ok (.iadd, 1) := by decide +kernel
theorem dL_classOf_36 : decode cL_classOf 36 = .ok (.iaload, 1) := by decide +kernel
theorem dL_classOf_37 : decode cL_classOf 37 = .ok (.if_icmp .gt 9, 3) := by decide +kernel
theorem dL_classOf_40 : decode cL_classOf 40 = .ok (.iinc 4 1, 3) := by decide +kernel
theorem dL_classOf_43 : decode cL_classOf 43 = .ok (.goto (-31), 3) := by decide +kernel
theorem dL_classOf_46 : decode cL_classOf 46 = .ok (.iload 4, 2) := by decide +kernel
theorem dL_classOf_48 : decode cL_classOf 48 = .ok (.ireturn, 1) := by decide +kernel
theorem dL_within_0 : decode cL_within 0 = .ok (.aload_n 1, 1) := by decide +kernel
theorem dL_within_1 : decode cL_within 1 = .ok (.iconst 5, 1) := by decide +kernel
theorem dL_within_2 : decode cL_within 2 = .ok (.iload_n 2, 1) := by decide +kernel
theorem dL_within_3 : decode cL_within 3 = .ok (.imul, 1) := by decide +kernel
theorem dL_within_4 : decode cL_within 4 = .ok (.iconst 1, 1) := by decide +kernel
theorem dL_within_5 : decode cL_within 5 = .ok (.iadd, 1) := by decide +kernel
theorem dL_within_6 : decode cL_within 6 = .ok (.iaload, 1) := by decide +kernel
theorem dL_within_7 : decode cL_within 7 = .ok (.aload_n 0, 1) := by decide +kernel
theorem dL_within_8 : decode cL_within 8 = .ok (.iconst 4, 1) := by decide +kernel
theorem dL_within_9 : decode cL_within 9 = .ok (.iaload, 1) := by decide +kernel
theorem dL_within_10 : decode cL_within 10 = .ok (.if_icmp .lt 56, 3) := by decide +kernel
theorem dL_within_13 : decode cL_within 13 = .ok (.aload_n 1, 1) := by decide +kernel
theorem dL_within_14 : decode cL_within 14 = .ok (.iconst 5, 1) := by decide +kernel
theorem dL_within_15 : decode cL_within 15 = .ok (.iload_n 2, 1) := by decide +kernel
theorem dL_within_16 : decode cL_within 16 = .ok (.imul, 1) := by decide +kernel
theorem dL_within_17 : decode cL_within 17 = .ok (.iconst 1, 1) := by decide +kernel
theorem dL_within_18 : decode cL_within 18 = .ok (.iadd, 1) := by decide +kernel
theorem dL_within_19 : decode cL_within 19 = .ok (.iaload, 1) := by decide +kernel
theorem dL_within_20 : decode cL_within 20 = .ok (.aload_n 0, 1) := by decide +kernel
theorem dL_within_21 : decode cL_within 21 = .ok (.iconst 4, 1) := by decide +kernel
theorem dL_within_22 : decode cL_within 22 = .ok (.iaload, 1) := by decide +kernel
theorem dL_within_23 : decode cL_within 23 = .ok (.aload_n 0, 1) := by decide +kernel
theorem dL_within_24 : decode cL_within 24 = .ok (.bipush 6, 2) := by decide +kernel
theorem dL_within_26 : decode cL_within 26 = .ok (.iaload, 1) := by decide +kernel
theorem dL_within_27 : decode cL_within 27 = .ok (.iadd, 1) := by decide +kernel
theorem dL_within_28 : decode cL_within 28 = .ok (.if_icmp .ge 38, 3) := by decide +kernel
theorem dL_within_31 : decode cL_within 31 = .ok (.aload_n 1, 1) := by decide +kernel
theorem dL_within_32 : decode cL_within 32 = .ok (.iconst 5, 1) := by decide +kernel
theorem dL_within_33 : decode cL_within 33 = .ok (.iload_n 2, 1) := by decide +kernel
theorem dL_within_34 : decode cL_within 34 = .ok (.imul, 1) := by decide +kernel
theorem dL_within_35 : decode cL_within 35 = .ok (.iconst 2, 1) := by decide +kernel
theorem dL_within_36 : decode cL_within 36 = .ok (.iadd, 1) := by decide +kernel
theorem dL_within_37 : decode cL_within 37 = .ok (.iaload, 1) := by decide +kernel
theorem dL_within_38 : decode cL_within 38 = .ok (.aload_n 0, 1) := by decide +kernel
theorem dL_within_39 : decode cL_within 39 = .ok (.iconst 5, 1) := by decide +kernel
theorem dL_within_40 : decode cL_within 40 = .ok (.iaload, 1) := by decide +kernel
theorem dL_within_41 : decode cL_within 41 = .ok (.if_icmp .lt 25, 3) := by decide +kernel
theorem dL_within_44 : decode cL_within 44 = .ok (.aload_n 1, 1) := by decide +kernel
theorem dL_within_45 : decode cL_within 45 = .ok (.iconst 5, 1) := by decide +kernel
theorem dL_within_46 : decode cL_within 46 = .ok (.iload_n 2, 1) := by decide +kernel
theorem dL_within_47 : decode cL_within 47 = .ok (.imul, 1) := by decide +kernel
theorem dL_within_48 : decode cL_within 48 = .ok (.iconst 2, 1) := by decide +kernel
theorem dL_within_49 : decode cL_within 49 = .ok (.iadd, 1) := by decide +kernel
theorem dL_within_50 : decode cL_within 50 = .ok (.iaload, 1) := by decide +kernel
theorem dL_within_51 : decode cL_within 51 = .ok (.aload_n 0, 1) := by decide +kernel
theorem dL_within_52 : decode cL_within 52 = .ok (.iconst 5, 1) := by decide +kernel
theorem dL_within_53 : decode cL_within 53 = .ok (.iaload, 1) := by decide +kernel
theorem dL_within_54 : decode cL_within 54 = .ok (.aload_n 0, 1) := by decide +kernel
theorem dL_within_55 : decode cL_within 55 = .ok (.bipush 7, 2) := by decide +kernel
theorem dL_within_57 : decode cL_within 57 = .ok (.iaload, 1) := by decide +kernel
theorem dL_within_58 : decode cL_within 58 = .ok (.iadd, 1) := by decide +kernel
theorem dL_within_59 : decode cL_within 59 = .ok (.if_icmp .ge 7, 3) := by decide +kernel
theorem dL_within_62 : decode cL_within 62 = .ok (.iconst 1, 1) := by decide +kernel
theorem dL_within_63 : decode cL_within 63 = .ok (.goto 4, 3) := by decide +kernel
theorem dL_within_66 : decode cL_within 66 = .ok (.iconst 0, 1) := by decide +kernel
theorem dL_within_67 : decode cL_within 67 = .ok (.ireturn, 1) := by decide +kernel
theorem dL_shown_0 : decode cL_shown 0 = .ok (.iconst 0, 1) := by decide +kernel
theorem dL_shown_1 : decode cL_shown 1 = .ok (.istore_n 2, 1) := by decide +kernel
theorem dL_shown_2 : decode cL_shown 2 = .ok (.iconst 0, 1) := by decide +kernel
theorem dL_shown_3 : decode cL_shown 3 = .ok (.istore_n 3, 1) := by decide +kernel
theorem dL_shown_4 : decode cL_shown 4 = .ok (.iload_n 3, 1) := by decide +kernel
theorem dL_shown_5 : decode cL_shown 5 = .ok (.aload_n 0, 1) := by decide +kernel
theorem dL_shown_6 : decode cL_shown 6 = .ok (.bipush 9, 2) := by decide +kernel
theorem dL_shown_8 : decode cL_shown 8 = .ok (.iaload, 1) := by decide +kernel
theorem dL_shown_9 : decode cL_shown 9 = .ok (.if_icmp .ge 42, 3) := by decide +kernel
theorem dL_shown_12 : decode cL_shown 12 = .ok (.iload_n 2, 1) := by decide +kernel
theorem dL_shown_13 : decode cL_shown 13 = .ok (.aload_n 0, 1) := by decide +kernel
theorem dL_shown_14 : decode cL_shown 14 = .ok (.aload_n 1, 1) := by decide +kernel
theorem dL_shown_15 : decode cL_shown 15 = .ok (.iload_n 3, 1) := by decide +kernel
theorem dL_shown_16 : decode cL_shown 16 = .ok (.invokestatic 9, 3) := by decide +kernel
theorem dL_shown_19 : decode cL_shown 19 = .ok (.ifCond .eq 23, 3) := by decide +kernel
theorem dL_shown_22 : decode cL_shown 22 = .ok (.aload_n 1, 1) := by decide +kernel
theorem dL_shown_23 : decode cL_shown 23 = .ok (.iconst 5, 1) := by decide +kernel
theorem dL_shown_24 : decode cL_shown 24 = .ok (.iload_n 3, 1) := by decide +kernel
theorem dL_shown_25 : decode cL_shown 25 = .ok (.imul, 1) := by decide +kernel
theorem dL_shown_26 : decode cL_shown 26 = .ok (.iconst 4, 1) := by decide +kernel
theorem dL_shown_27 : decode cL_shown 27 = .ok (.iadd, 1) := by decide +kernel
theorem dL_shown_28 : decode cL_shown 28 = .ok (.iaload, 1) := by decide +kernel
theorem dL_shown_29 : decode cL_shown 29 = .ok (.aload_n 0, 1) := by decide +kernel
theorem dL_shown_30 : decode cL_shown 30 = .ok (.bipush 8, 2) := by decide +kernel
theorem dL_shown_32 : decode cL_shown 32 = .ok (.iaload, 1) := by decide +kernel
theorem dL_shown_33 : decode cL_shown 33 = .ok (.if_icmp .gt 9, 3) := by decide +kernel
theorem dL_shown_36 : decode cL_shown 36 = .ok (.iconst 1, 1) := by decide +kernel
theorem dL_shown_37 : decode cL_shown 37 = .ok (.iload_n 3, 1) := by decide +kernel
theorem dL_shown_38 : decode cL_shown 38 = .ok (.ishl, 1) := by decide +kernel
theorem dL_shown_39 : decode cL_shown 39 = .ok (.goto 4, 3) := by decide +kernel
theorem dL_shown_42 : decode cL_shown 42 = .ok (.iconst 0, 1) := by decide +kernel
theorem dL_shown_43 : decode cL_shown 43 = .ok (.ior, 1) := by decide +kernel
theorem dL_shown_44 : decode cL_shown 44 = .ok (.istore_n 2, 1) := by decide +kernel
theorem dL_shown_45 : decode cL_shown 45 = .ok (.iinc 3 1, 3) := by decide +kernel
theorem dL_shown_48 : decode cL_shown 48 = .ok (.goto (-44), 3) := by decide +kernel
theorem dL_shown_51 : decode cL_shown 51 = .ok (.iload_n 2, 1) := by decide +kernel
theorem dL_shown_52 : decode cL_shown 52 = .ok (.ireturn, 1) := by decide +kernel
theorem dL_bits_0 : decode cL_bits 0 = .ok (.iconst 0, 1) := by decide +kernel
theorem dL_bits_1 : decode cL_bits 1 = .ok (.istore_n 1, 1) := by decide +kernel
theorem dL_bits_2 : decode cL_bits 2 = .ok (.iload_n 0, 1) := by decide +kernel
theorem dL_bits_3 : decode cL_bits 3 = .ok (.istore_n 2, 1) := by decide +kernel
theorem dL_bits_4 : decode cL_bits 4 = .ok (.iload_n 2, 1) := by decide +kernel
theorem dL_bits_5 : decode cL_bits 5 = .ok (.ifCond .le 15, 3) := by decide +kernel
theorem dL_bits_8 : decode cL_bits 8 = .ok (.iinc 1 1, 3) := by decide +kernel
theorem dL_bits_11 : decode cL_bits 11 = .ok (.iload_n 2, 1) := by decide +kernel
theorem dL_bits_12 : decode cL_bits 12 = .ok (.iload_n 2, 1) := by decide +kernel
theorem dL_bits_13 : decode cL_bits 13 = .ok (.iconst 1, 1) := by decide +kernel
theorem dL_bits_14 : decode cL_bits 14 = .ok (.isub, 1) := by decide +kernel
theorem dL_bits_15 : decode cL_bits 15 = .ok (.iand, 1) := by decide +kernel
theorem dL_bits_16 : decode cL_bits 16 = .ok (.istore_n 2, 1) := by decide +kernel
theorem dL_bits_17 : decode cL_bits 17 = .ok (.goto (-13), 3) := by decide +kernel
theorem dL_bits_20 : decode cL_bits 20 = .ok (.iload_n 1, 1) := by decide +kernel
theorem dL_bits_21 : decode cL_bits 21 = .ok (.ireturn, 1) := by decide +kernel
theorem dL_key_0 : decode cL_key 0 = .ok (.iconst 4, 1) := by decide +kernel
theorem dL_key_1 : decode cL_key 1 = .ok (.aload_n 0, 1) := by decide +kernel
theorem dL_key_2 : decode cL_key 2 = .ok (.bipush 8, 2) := by decide +kernel
theorem dL_key_4 : decode cL_key 4 = .ok (.iload_n 1, 1) := by decide +kernel
theorem dL_key_5 : decode cL_key 5 = .ok (.imul, 1) := by decide +kernel
theorem dL_key_6 : decode cL_key 6 = .ok (.iaload, 1) := by decide +kernel
theorem dL_key_7 : decode cL_key 7 = .ok (.imul, 1) := by decide +kernel
theorem dL_key_8 : decode cL_key 8 = .ok (.iload_n 1, 1) := by decide +kernel
theorem dL_key_9 : decode cL_key 9 = .ok (.iadd, 1) := by decide +kernel
theorem dL_key_10 : decode cL_key 10 = .ok (.ireturn, 1) := by decide +kernel
theorem dL_block_0 : decode cL_block 0 = .ok (.aload_n 0, 1) := by decide +kernel
theorem dL_block_1 : decode cL_block 1 = .ok (.iload_n 2, 1) := by decide +kernel
theorem dL_block_2 : decode cL_block 2 = .ok (.invokestatic 15, 3) := by decide +kernel
theorem dL_block_5 : decode cL_block 5 = .ok (.istore_n 3, 1) := by decide +kernel
theorem dL_block_6 : decode cL_block 6 = .ok (.iconst 0, 1) := by decide +kernel
theorem dL_block_7 : decode cL_block 7 = .ok (.istore 4, 2) := by decide +kernel
theorem dL_block_9 : decode cL_block 9 = .ok (.iload 4, 2) := by decide +kernel
theorem dL_block_11 : decode cL_block 11 = .ok (.iconst 4, 1) := by decide +kernel
theorem dL_block_12 : decode cL_block 12 = .ok (.if_icmp .ge 83, 3) := by decide +kernel
theorem dL_block_15 : decode cL_block 15 = .ok (.iload_n 1, 1) := by decide +kernel
theorem dL_block_16 : decode cL_block 16 = .ok (.iload 4, 2) := by decide +kernel
theorem dL_block_18 : decode cL_block 18 = .ok (.ishr, 1) := by decide +kernel
theorem dL_block_19 : decode cL_block 19 = .ok (.iconst 1, 1) := by decide +kernel
theorem dL_block_20 : decode cL_block 20 = .ok (.iand, 1) := by decide +kernel
theorem dL_block_21 : decode cL_block 21 = .ok (.iconst 1, 1) := by decide +kernel
theorem dL_block_22 : decode cL_block 22 = .ok (.if_icmp .ne 38, 3) := by decide +kernel
theorem dL_block_25 : decode cL_block 25 = .ok (.aload_n 0, 1) := by decide +kernel
theorem dL_block_26 : decode cL_block 26 = .ok (.bipush 8, 2) := by decide +kernel
theorem dL_block_28 : decode cL_block 28 = .ok (.iload_n 2, 1) := by decide +kernel
theorem dL_block_29 : decode cL_block 29 = .ok (.imul, 1) := by decide +kernel
theorem dL_block_30 : decode cL_block 30 = .ok (.iconst 1, 1) := by decide +kernel
theorem dL_block_31 : decode cL_block 31 = .ok (.iadd, 1) := by decide +kernel
theorem dL_block_32 : decode cL_block 32 = .ok (.iaload, 1) := by decide +kernel
theorem dL_block_33 : decode cL_block 33 = .ok (.ifCond .lt 27, 3) := by decide +kernel
theorem dL_block_36 : decode cL_block 36 = .ok (.aload_n 0, 1) := by decide +kernel
theorem dL_block_37 : decode cL_block 37 = .ok (.bipush 8, 2) := by decide +kernel
theorem dL_block_39 : decode cL_block 39 = .ok (.iload 4, 2) := by decide +kernel
theorem dL_block_41 : decode cL_block 41 = .ok (.imul, 1) := by decide +kernel
theorem dL_block_42 : decode cL_block 42 = .ok (.iconst 1, 1) := by decide +kernel
theorem dL_block_43 : decode cL_block 43 = .ok (.iadd, 1) := by decide +kernel
theorem dL_block_44 : decode cL_block 44 = .ok (.iaload, 1) := by decide +kernel
theorem dL_block_45 : decode cL_block 45 = .ok (.aload_n 0, 1) := by decide +kernel
theorem dL_block_46 : decode cL_block 46 = .ok (.bipush 8, 2) := by decide +kernel
theorem dL_block_48 : decode cL_block 48 = .ok (.iload_n 2, 1) := by decide +kernel
theorem dL_block_49 : decode cL_block 49 = .ok (.imul, 1) := by decide +kernel
theorem dL_block_50 : decode cL_block 50 = .ok (.iconst 1, 1) := by decide +kernel
theorem dL_block_51 : decode cL_block 51 = .ok (.iadd, 1) := by decide +kernel
theorem dL_block_52 : decode cL_block 52 = .ok (.iaload, 1) := by decide +kernel
theorem dL_block_53 : decode cL_block 53 = .ok (.if_icmp .ne 7, 3) := by decide +kernel
theorem dL_block_56 : decode cL_block 56 = .ok (.iconst 1, 1) := by decide +kernel
theorem dL_block_57 : decode cL_block 57 = .ok (.goto 4, 3) := by decide +kernel
theorem dL_block_60 : decode cL_block 60 = .ok (.iconst 0, 1) := by decide +kernel
theorem dL_block_61 : decode cL_block 61 = .ok (.istore 5, 2) := by decide +kernel
theorem dL_block_63 : decode cL_block 63 = .ok (.iload 5, 2) := by decide +kernel
theorem dL_block_65 : decode cL_block 65 = .ok (.ifCond .eq 22, 3) := by decide +kernel
theorem dL_block_68 : decode cL_block 68 = .ok (.aload_n 0, 1) := by decide +kernel
theorem dL_block_69 : decode cL_block 69 = .ok (.iload 4, 2) := by decide +kernel
theorem dL_block_71 : decode cL_block 71 = .ok (.invokestatic 15, 3) := by decide +kernel
theorem dL_block_74 : decode cL_block 74 = .ok (.iload_n 3, 1) := by decide +kernel
theorem dL_block_75 : decode cL_block 75 = .ok (.if_icmp .ge 12, 3) := by decide +kernel
theorem dL_block_78 : decode cL_block 78 = .ok (.aload_n 0, 1) := by decide +kernel
theorem dL_block_79 : decode cL_block 79 = .ok (.iload 4, 2) := by decide +kernel
theorem dL_block_81 : decode cL_block 81 = .ok (.invokestatic 15, 3) := by decide +kernel
theorem dL_block_84 : decode cL_block 84 = .ok (.goto 4, 3) := by decide +kernel
theorem dL_block_87 : decode cL_block 87 = .ok (.iload_n 3, 1) := by decide +kernel
theorem dL_block_88 : decode cL_block 88 = .ok (.istore_n 3, 1) := by decide +kernel
theorem dL_block_89 : decode cL_block 89 = .ok (.iinc 4 1, 3) := by decide +kernel
theorem dL_block_92 : decode cL_block 92 = .ok (.goto (-83), 3) := by decide +kernel
theorem dL_block_95 : decode cL_block 95 = .ok (.iload_n 3, 1) := by decide +kernel
theorem dL_block_96 : decode cL_block 96 = .ok (.ireturn, 1) := by decide +kernel
theorem dL_member_0 : decode cL_member 0 = .ok (.iconst 0, 1) := by decide +kernel
theorem dL_member_1 : decode cL_member 1 = .ok (.istore_n 3, 1) := by decide +kernel
theorem dL_member_2 : decode cL_member 2 = .ok (.iconst 0, 1) := by decide +kernel
theorem dL_member_3 : decode cL_member 3 = .ok (.istore 4, 2) := by decide +kernel
theorem dL_member_5 : decode cL_member 5 = .ok (.iload 4, 2) := by decide +kernel
theorem dL_member_7 : decode cL_member 7 = .ok (.iconst 4, 1) := by decide +kernel
theorem dL_member_8 : decode cL_member 8 = .ok (.if_icmp .ge 40, 3) := by decide +kernel
theorem dL_member_11 : decode cL_member 11 = .ok (.iload_n 3, 1) := by decide +kernel
theorem dL_member_12 : decode cL_member 12 = .ok (.aload_n 0, 1) := by decide +kernel
theorem dL_member_13 : decode cL_member 13 = .ok (.bipush 8, 2) := by decide +kernel
theorem dL_member_15 : decode cL_member 15 = .ok (.iload 4, 2) := by decide +kernel
theorem dL_member_17 : decode cL_member 17 = .ok (.imul, 1) := by decide +kernel
theorem dL_member_18 : decode cL_member 18 = .ok (.iconst 1, 1) := by decide +kernel
theorem dL_member_19 : decode cL_member 19 = .ok (.iadd, 1) := by decide +kernel
theorem dL_member_20 : decode cL_member 20 = .ok (.iaload, 1) := by decide +kernel
theorem dL_member_21 : decode cL_member 21 = .ok (.iload_n 2, 1) := by decide +kernel
theorem dL_member_22 : decode cL_member 22 = .ok (.if_icmp .ne 17, 3) := by decide +kernel
theorem dL_member_25 : decode cL_member 25 = .ok (.iload_n 1, 1) := by decide +kernel
theorem dL_member_26 : decode cL_member 26 = .ok (.iload 4, 2) := by decide +kernel
theorem dL_member_28 : decode cL_member 28 = .ok (.ishr, 1) := by decide +kernel
theorem dL_member_29 : decode cL_member 29 = .ok (.iconst 1, 1) := by decide +kernel
theorem dL_member_30 : decode cL_member 30 = .ok (.iand, 1) := by decide +kernel
theorem dL_member_31 : decode cL_member 31 = .ok (.iconst 1, 1) := by decide +kernel
theorem dL_member_32 : decode cL_member 32 = .ok (.if_icmp .ne 7, 3) := by decide +kernel
theorem dL_member_35 : decode cL_member 35 = .ok (.iconst 1, 1) := by decide +kernel
theorem dL_member_36 : decode cL_member 36 = .ok (.goto 4, 3) := by decide +kernel
theorem dL_member_39 : decode cL_member 39 = .ok (.iconst 0, 1) := by decide +kernel
theorem dL_member_40 : decode cL_member 40 = .ok (.iadd, 1) := by decide +kernel
theorem dL_member_41 : decode cL_member 41 = .ok (.istore_n 3, 1) := by decide +kernel
theorem dL_member_42 : decode cL_member 42 = .ok (.iinc 4 1, 3) := by decide +kernel
theorem dL_member_45 : decode cL_member 45 = .ok (.goto (-40), 3) := by decide +kernel
theorem dL_member_48 : decode cL_member 48 = .ok (.iload_n 3, 1) := by decide +kernel
theorem dL_member_49 : decode cL_member 49 = .ok (.ireturn, 1) := by decide +kernel
theorem dL_code_0 : decode cL_code 0 = .ok (.iload_n 0, 1) := by decide +kernel
theorem dL_code_1 : decode cL_code 1 = .ok (.bipush 20, 2) := by decide +kernel
theorem dL_code_3 : decode cL_code 3 = .ok (.imul, 1) := by decide +kernel
theorem dL_code_4 : decode cL_code 4 = .ok (.iload_n 1, 1) := by decide +kernel
theorem dL_code_5 : decode cL_code 5 = .ok (.iadd, 1) := by decide +kernel
theorem dL_code_6 : decode cL_code 6 = .ok (.iconst 1, 1) := by decide +kernel
theorem dL_code_7 : decode cL_code 7 = .ok (.iadd, 1) := by decide +kernel
theorem dL_code_8 : decode cL_code 8 = .ok (.bipush 10, 2) := by decide +kernel
theorem dL_code_10 : decode cL_code 10 = .ok (.imul, 1) := by decide +kernel
theorem dL_code_11 : decode cL_code 11 = .ok (.iload_n 2, 1) := by decide +kernel
theorem dL_code_12 : decode cL_code 12 = .ok (.iadd, 1) := by decide +kernel
theorem dL_code_13 : decode cL_code 13 = .ok (.iconst 1, 1) := by decide +kernel
theorem dL_code_14 : decode cL_code 14 = .ok (.iadd, 1) := by decide +kernel
theorem dL_code_15 : decode cL_code 15 = .ok (.bipush 10, 2) := by decide +kernel
theorem dL_code_17 : decode cL_code 17 = .ok (.imul, 1) := by decide +kernel
theorem dL_code_18 : decode cL_code 18 = .ok (.iload_n 3, 1) := by decide +kernel
theorem dL_code_19 : decode cL_code 19 = .ok (.iadd, 1) := by decide +kernel
theorem dL_code_20 : decode cL_code 20 = .ok (.iconst 1, 1) := by decide +kernel
theorem dL_code_21 : decode cL_code 21 = .ok (.iadd, 1) := by decide +kernel
theorem dL_code_22 : decode cL_code 22 = .ok (.bipush 10, 2) := by decide +kernel
theorem dL_code_24 : decode cL_code 24 = .ok (.imul, 1) := by decide +kernel
theorem dL_code_25 : decode cL_code 25 = .ok (.iload 4, 2) := by decide +kernel
theorem dL_code_27 : decode cL_code 27 = .ok (.iadd, 1) := by decide +kernel
theorem dL_code_28 : decode cL_code 28 = .ok (.iconst 1, 1) := by decide +kernel
theorem dL_code_29 : decode cL_code 29 = .ok (.iadd, 1) := by decide +kernel
theorem dL_code_30 : decode cL_code 30 = .ok (.ireturn, 1) := by decide +kernel
theorem dL_signs_0 : decode cL_signs 0 = .ok (.iconst 0, 1) := by decide +kernel
theorem dL_signs_1 : decode cL_signs 1 = .ok (.istore 6, 2) := by decide +kernel
theorem dL_signs_3 : decode cL_signs 3 = .ok (.iconst 0, 1) := by decide +kernel
theorem dL_signs_4 : decode cL_signs 4 = .ok (.istore 7, 2) := by decide +kernel
theorem dL_signs_6 : decode cL_signs 6 = .ok (.iload 7, 2) := by decide +kernel
theorem dL_signs_8 : decode cL_signs 8 = .ok (.bipush 12, 2) := by decide +kernel
theorem dL_signs_10 : decode cL_signs 10 = .ok (.if_icmp .ge 63, 3) := by decide +kernel
theorem dL_signs_13 : decode cL_signs 13 = .ok (.iload 6, 2) := by decide +kernel
theorem dL_signs_15 : decode cL_signs 15 = .ok (.iload_n 2, 1) := by decide +kernel
theorem dL_signs_16 : decode cL_signs 16 = .ok (.iload 7, 2) := by decide +kernel
theorem dL_signs_18 : decode cL_signs 18 = .ok (.ishr, 1) := by decide +kernel
theorem dL_signs_19 : decode cL_signs 19 = .ok (.iconst 1, 1) := by decide +kernel
theorem dL_signs_20 : decode cL_signs 20 = .ok (.iand, 1) := by decide +kernel
theorem dL_signs_21 : decode cL_signs 21 = .ok (.iconst 1, 1) := by decide +kernel
theorem dL_signs_22 : decode cL_signs 22 = .ok (.if_icmp .ne 41, 3) := by decide +kernel
theorem dL_signs_25 : decode cL_signs 25 = .ok (.aload_n 1, 1) := by decide +kernel
theorem dL_signs_26 : decode cL_signs 26 = .ok (.iconst 5, 1) := by decide +kernel
theorem dL_signs_27 : decode cL_signs 27 = .ok (.iload 7, 2) := by decide +kernel
theorem dL_signs_29 : decode cL_signs 29 = .ok (.imul, 1) := by decide +kernel
theorem dL_signs_30 : decode cL_signs 30 = .ok (.iaload, 1) := by decide +kernel
theorem dL_signs_31 : decode cL_signs 31 = .ok (.iload_n 3, 1) := by decide +kernel
theorem dL_signs_32 : decode cL_signs 32 = .ok (.if_icmp .ne 31, 3) := by decide +kernel
theorem dL_signs_35 : decode cL_signs 35 = .ok (.aload_n 0, 1) := by decide +kernel
theorem dL_signs_36 : decode cL_signs 36 = .ok (.aload_n 1, 1) := by decide +kernel
theorem dL_signs_37 : decode cL_signs 37 = .ok (.iload 7, 2) := by decide +kernel
theorem dL_signs_39 : decode cL_signs 39 = .ok (.invokestatic 19, 3) := by decide +kernel
theorem dL_signs_42 : decode cL_signs 42 = .ok (.iload 4, 2) := by decide +kernel
theorem dL_signs_44 : decode cL_signs 44 = .ok (.if_icmp .lt 19, 3) := by decide +kernel
theorem dL_signs_47 : decode cL_signs 47 = .ok (.aload_n 0, 1) := by decide +kernel
theorem dL_signs_48 : decode cL_signs 48 = .ok (.aload_n 1, 1) := by decide +kernel
theorem dL_signs_49 : decode cL_signs 49 = .ok (.iload 7, 2) := by decide +kernel
theorem dL_signs_51 : decode cL_signs 51 = .ok (.invokestatic 19, 3) := by decide +kernel
theorem dL_signs_54 : decode cL_signs 54 = .ok (.iload 5, 2) := by decide +kernel
theorem dL_signs_56 : decode cL_signs 56 = .ok (.if_icmp .gt 7, 3) := by decide +kernel
theorem dL_signs_59 : decode cL_signs 59 = .ok (.iconst 1, 1) := by decide +kernel
theorem dL_signs_60 : decode cL_signs 60 = .ok (.goto 4, 3) := by decide +kernel
theorem dL_signs_63 : decode cL_signs 63 = .ok (.iconst 0, 1) := by decide +kernel
theorem dL_signs_64 : decode cL_signs 64 = .ok (.iadd, 1) := by decide +kernel
theorem dL_signs_65 : decode cL_signs 65 = .ok (.istore 6, 2) := by decide +kernel
theorem dL_signs_67 : decode cL_signs 67 = .ok (.iinc 7 1, 3) := by decide +kernel
theorem dL_signs_70 : decode cL_signs 70 = .ok (.goto (-64), 3) := by decide +kernel
theorem dL_signs_73 : decode cL_signs 73 = .ok (.iload 6, 2) := by decide +kernel
theorem dL_signs_75 : decode cL_signs 75 = .ok (.ireturn, 1) := by decide +kernel
theorem dL_linesOf_0 : decode cL_linesOf 0 = .ok (.bipush 12, 2) := by decide +kernel
theorem dL_linesOf_2 : decode cL_linesOf 2 = .ok (.newarray .int, 2) := by decide +kernel
theorem dL_linesOf_4 : decode cL_linesOf 4 = .ok (.astore 6, 2) := by decide +kernel
theorem dL_linesOf_6 : decode cL_linesOf 6 = .ok (.iconst 0, 1) := by decide +kernel
theorem dL_linesOf_7 : decode cL_linesOf 7 = .ok (.istore 7, 2) := by decide +kernel
theorem dL_linesOf_9 : decode cL_linesOf 9 = .ok (.iconst 0, 1) := by decide +kernel
theorem dL_linesOf_10 : decode cL_linesOf 10 = .ok (.istore 8, 2) := by decide +kernel
theorem dL_linesOf_12 : decode cL_linesOf 12 = .ok (.iload 8, 2) := by decide +kernel
theorem dL_linesOf_14 : decode cL_linesOf 14 = .ok (.bipush 6, 2) := by decide +kernel
theorem dL_linesOf_16 : decode cL_linesOf 16 = .ok (.if_icmp .ge 49, 3) := by decide +kernel
theorem dL_linesOf_19 : decode cL_linesOf 19 = .ok (.aload_n 1, 1) := by decide +kernel
theorem dL_linesOf_20 : decode cL_linesOf 20 = .ok (.aload_n 2, 1) := by decide +kernel
theorem dL_linesOf_21 : decode cL_linesOf 21 = .ok (.aload_n 3, 1) := by decide +kernel
theorem dL_linesOf_22 : decode cL_linesOf 22 = .ok (.iconst 3, 1) := by decide +kernel
theorem dL_linesOf_23 : decode cL_linesOf 23 = .ok (.iaload, 1) := by decide +kernel
theorem dL_linesOf_24 : decode cL_linesOf 24 = .ok (.iload 5, 2) := by decide +kernel
theorem dL_linesOf_26 : decode cL_linesOf 26 = .ok (.iload 8, 2) := by decide +kernel
theorem dL_linesOf_28 : decode cL_linesOf 28 = .ok (.iload 8, 2) := by decide +kernel
theorem dL_linesOf_30 : decode cL_linesOf 30 = .ok (.invokestatic 23, 3) := by decide +kernel
theorem dL_linesOf_33 : decode cL_linesOf 33 = .ok (.ifCond .le 26, 3) := by decide +kernel
theorem dL_linesOf_36 : decode cL_linesOf 36 = .ok (.aload 6, 2) := by decide +kernel
theorem dL_linesOf_38 : decode cL_linesOf 38 = .ok (.iconst 2, 1) := by decide +kernel
theorem dL_linesOf_39 : decode cL_linesOf 39 = .ok (.iload 7, 2) := by decide +kernel
theorem dL_linesOf_41 : decode cL_linesOf 41 = .ok (.imul, 1) := by decide +kernel
theorem dL_linesOf_42 : decode cL_linesOf 42 = .ok (.iload 8, 2) := by decide +kernel
theorem dL_linesOf_44 : decode cL_linesOf 44 = .ok (.iastore, 1) := by decide +kernel
theorem dL_linesOf_45 : decode cL_linesOf 45 = .ok (.aload 6, 2) := by decide +kernel
theorem dL_linesOf_47 : decode cL_linesOf 47 = .ok (.iconst 2, 1) := by decide +kernel
theorem dL_linesOf_48 : decode cL_linesOf 48 = .ok (.iload 7, 2) := by decide +kernel
theorem dL_linesOf_50 : decode cL_linesOf 50 = .ok (.imul, 1) := by decide +kernel
theorem dL_linesOf_51 : decode cL_linesOf 51 = .ok (.iconst 1, 1) := by decide +kernel
theorem dL_linesOf_52 : decode cL_linesOf 52 = .ok (.iadd, 1) := by decide +kernel
theorem dL_linesOf_53 : decode cL_linesOf 53 = .ok (.iload 8, 2) := by decide +kernel
theorem dL_linesOf_55 : decode cL_linesOf 55 = .ok (.iastore, 1) := by decide +kernel
theorem dL_linesOf_56 : decode cL_linesOf 56 = .ok (.iinc 7 1, 3) := by decide +kernel
theorem dL_linesOf_59 : decode cL_linesOf 59 = .ok (.iinc 8 1, 3) := by decide +kernel
theorem dL_linesOf_62 : decode cL_linesOf 62 = .ok (.goto (-50), 3) := by decide +kernel
theorem dL_linesOf_65 : decode cL_linesOf 65 = .ok (.iload 7, 2) := by decide +kernel
theorem dL_linesOf_67 : decode cL_linesOf 67 = .ok (.aload_n 0, 1) := by decide +kernel
theorem dL_linesOf_68 : decode cL_linesOf 68 = .ok (.iconst 0, 1) := by decide +kernel
theorem dL_linesOf_69 : decode cL_linesOf 69 = .ok (.iaload, 1) := by decide +kernel
theorem dL_linesOf_70 : decode cL_linesOf 70 = .ok (.if_icmp .le 169, 3) := by decide +kernel
theorem dL_linesOf_73 : decode cL_linesOf 73 = .ok (.iload 7, 2) := by decide +kernel
theorem dL_linesOf_75 : decode cL_linesOf 75 = .ok (.iconst 2, 1) := by decide +kernel
theorem dL_linesOf_76 : decode cL_linesOf 76 = .ok (.isub, 1) := by decide +kernel
theorem dL_linesOf_77 : decode cL_linesOf 77 = .ok (.istore 8, 2) := by decide +kernel
theorem dL_linesOf_79 : decode cL_linesOf 79 = .ok (.iload 7, 2) := by decide +kernel
theorem dL_linesOf_81 : decode cL_linesOf 81 = .ok (.iconst 3, 1) := by decide +kernel
theorem dL_linesOf_82 : decode cL_linesOf 82 = .ok (.isub, 1) := by decide +kernel
theorem dL_linesOf_83 : decode cL_linesOf 83 = .ok (.istore 9, 2) := by decide +kernel
theorem dL_linesOf_85 : decode cL_linesOf 85 = .ok (.iload 9, 2) := by decide +kernel
theorem dL_linesOf_87 : decode cL_linesOf 87 = .ok (.ifCond .lt 73, 3) := by decide +kernel
theorem dL_linesOf_90 : decode cL_linesOf 90 = .ok (.aload_n 1, 1) := by decide +kernel
theorem dL_linesOf_91 : decode cL_linesOf 91 = .ok (.aload_n 2, 1) := by decide +kernel
theorem dL_linesOf_92 : decode cL_linesOf 92 = .ok (.aload_n 3, 1) := by decide +kernel
theorem dL_linesOf_93 : decode cL_linesOf 93 = .ok (.iconst 3, 1) := by decide +kernel
theorem dL_linesOf_94 : decode cL_linesOf 94 = .ok (.iaload, 1) := by decide +kernel
theorem dL_linesOf_95 : decode cL_linesOf 95 = .ok (.iload 5, 2) := by decide +kernel
theorem dL_linesOf_97 : decode cL_linesOf 97 = .ok (.aload 6, 2) := by decide +kernel
theorem dL_linesOf_99 : decode cL_linesOf 99 = .ok (.iconst 2, 1) := by decide +kernel
theorem dL_linesOf_100 : decode cL_linesOf 100 = .ok (.iload 9, 2) := by decide +kernel
theorem dL_linesOf_102 : decode cL_linesOf 102 = .ok (.imul, 1) := by decide +kernel
theorem dL_linesOf_103 : decode cL_linesOf 103 = .ok (.iaload, 1) := by decide +kernel
theorem dL_linesOf_104 : decode cL_linesOf 104 = .ok (.aload 6, 2) := by decide +kernel
theorem dL_linesOf_106 : decode cL_linesOf 106 = .ok (.iconst 2, 1) := by decide +kernel
theorem dL_linesOf_107 : decode cL_linesOf 107 = .ok (.iload 9, 2) := by decide +kernel
theorem dL_linesOf_109 : decode cL_linesOf 109 = .ok (.imul, 1) := by decide +kernel
theorem dL_linesOf_110 : decode cL_linesOf 110 = .ok (.iconst 3, 1) := by decide +kernel
theorem dL_linesOf_111 : decode cL_linesOf 111 = .ok (.iadd, 1) := by decide +kernel
theorem dL_linesOf_112 : decode cL_linesOf 112 = .ok (.iaload, 1) := by decide +kernel
theorem dL_linesOf_113 : decode cL_linesOf 113 = .ok (.invokestatic 23, 3) := by decide +kernel
theorem dL_linesOf_116 : decode cL_linesOf 116 = .ok (.aload_n 1, 1) := by decide +kernel
theorem dL_linesOf_117 : decode cL_linesOf 117 = .ok (.aload_n 2, 1) := by decide +kernel
theorem dL_linesOf_118 : decode cL_linesOf 118 = .ok (.aload_n 3, 1) := by decide +kernel
theorem dL_linesOf_119 : decode cL_linesOf 119 = .ok (.iconst 3, 1) := by decide +kernel
theorem dL_linesOf_120 : decode cL_linesOf 120 = .ok (.iaload, 1) := by decide +kernel
theorem dL_linesOf_121 : decode cL_linesOf 121 = .ok (.iload 5, 2) := by decide +kernel
theorem dL_linesOf_123 : decode cL_linesOf 123 = .ok (.aload 6, 2) := by decide +kernel
theorem dL_linesOf_125 : decode cL_linesOf 125 = .ok (.iconst 2, 1) := by decide +kernel
theorem dL_linesOf_126 : decode cL_linesOf 126 = .ok (.iload 8, 2) := by decide +kernel
theorem dL_linesOf_128 : decode cL_linesOf 128 = .ok (.imul, 1) := by decide +kernel
theorem dL_linesOf_129 : decode cL_linesOf 129 = .ok (.iaload, 1) := by decide +kernel
theorem dL_linesOf_130 : decode cL_linesOf 130 = .ok (.aload 6, 2) := by decide +kernel
theorem dL_linesOf_132 : decode cL_linesOf 132 = .ok (.iconst 2, 1) := by decide +kernel
theorem dL_linesOf_133 : decode cL_linesOf 133 = .ok (.iload 8, 2) := by decide +kernel
theorem dL_linesOf_135 : decode cL_linesOf 135 = .ok (.imul, 1) := by decide +kernel
theorem dL_linesOf_136 : decode cL_linesOf 136 = .ok (.iconst 3, 1) := by decide +kernel
theorem dL_linesOf_137 : decode cL_linesOf 137 = .ok (.iadd, 1) := by decide +kernel
theorem dL_linesOf_138 : decode cL_linesOf 138 = .ok (.iaload, 1) := by decide +kernel
theorem dL_linesOf_139 : decode cL_linesOf 139 = .ok (.invokestatic 23, 3) := by decide +kernel
theorem dL_linesOf_142 : decode cL_linesOf 142 = .ok (.if_icmp .gt 8, 3) := by decide +kernel
theorem dL_linesOf_145 : decode cL_linesOf 145 = .ok (.iload 9, 2) := by decide +kernel
theorem dL_linesOf_147 : decode cL_linesOf 147 = .ok (.goto 5, 3) := by decide +kernel
theorem dL_linesOf_150 : decode cL_linesOf 150 = .ok (.iload 8, 2) := by decide +kernel
theorem dL_linesOf_152 : decode cL_linesOf 152 = .ok (.istore 8, 2) := by decide +kernel
theorem dL_linesOf_154 : decode cL_linesOf 154 = .ok (.iinc 9 (-1), 3) := by decide +kernel
theorem dL_linesOf_157 : decode cL_linesOf 157 = .ok (.goto (-72), 3) := by decide +kernel
theorem dL_linesOf_160 : decode cL_linesOf 160 = .ok (.aload 6, 2) := by decide +kernel
theorem dL_linesOf_162 : decode cL_linesOf 162 = .ok (.iconst 2, 1) := by decide +kernel
theorem dL_linesOf_163 : decode cL_linesOf 163 = .ok (.iload 8, 2) := by decide +kernel
theorem dL_linesOf_165 : decode cL_linesOf 165 = .ok (.imul, 1) := by decide +kernel
theorem dL_linesOf_166 : decode cL_linesOf 166 = .ok (.iconst 1, 1) := by decide +kernel
theorem dL_linesOf_167 : decode cL_linesOf 167 = .ok (.iadd, 1) := by decide +kernel
theorem dL_linesOf_168 : decode cL_linesOf 168 = .ok (.aload 6, 2) := by decide +kernel
theorem dL_linesOf_170 : decode cL_linesOf 170 = .ok (.iconst 2, 1) := by decide +kernel
theorem dL_linesOf_171 : decode cL_linesOf 171 = .ok (.iload 8, 2) := by decide +kernel
theorem dL_linesOf_173 : decode cL_linesOf 173 = .ok (.imul, 1) := by decide +kernel
theorem dL_linesOf_174 : decode cL_linesOf 174 = .ok (.iconst 3, 1) := by decide +kernel
theorem dL_linesOf_175 : decode cL_linesOf 175 = .ok (.iadd, 1) := by decide +kernel
theorem dL_linesOf_176 : decode cL_linesOf 176 = .ok (.iaload, 1) := by decide +kernel
theorem dL_linesOf_177 : decode cL_linesOf 177 = .ok (.iastore, 1) := by decide +kernel
theorem dL_linesOf_178 : decode cL_linesOf 178 = .ok (.iload 8, 2) := by decide +kernel
theorem dL_linesOf_180 : decode cL_linesOf 180 = .ok (.iconst 1, 1) := by decide +kernel
theorem dL_linesOf_181 : decode cL_linesOf 181 = .ok (.iadd, 1) := by decide +kernel
theorem dL_linesOf_182 : decode cL_linesOf 182 = .ok (.istore 9, 2) := by decide +kernel
theorem dL_linesOf_184 : decode cL_linesOf 184 = .ok (.iload 9, 2) := by decide +kernel
theorem dL_linesOf_186 : decode cL_linesOf 186 = .ok (.iconst 1, 1) := by decide +kernel
theorem dL_linesOf_187 : decode cL_linesOf 187 = .ok (.iadd, 1) := by decide +kernel
theorem dL_linesOf_188 : decode cL_linesOf 188 = .ok (.iload 7, 2) := by decide +kernel
theorem dL_linesOf_190 : decode cL_linesOf 190 = .ok (.if_icmp .ge 43, 3) := by decide +kernel
theorem dL_linesOf_193 : decode cL_linesOf 193 = .ok (.aload 6, 2) := by decide +kernel
theorem dL_linesOf_195 : decode cL_linesOf 195 = .ok (.iconst 2, 1) := by decide +kernel
theorem dL_linesOf_196 : decode cL_linesOf 196 = .ok (.iload 9, 2) := by decide +kernel
theorem dL_linesOf_198 : decode cL_linesOf 198 = .ok (.imul, 1) := by decide +kernel
theorem dL_linesOf_199 : decode cL_linesOf 199 = .ok (.aload 6, 2) := by decide +kernel
theorem dL_linesOf_201 : decode cL_linesOf 201 = .ok (.iconst 2, 1) := by decide +kernel
theorem dL_linesOf_202 : decode cL_linesOf 202 = .ok (.iload 9, 2) := by decide +kernel
theorem dL_linesOf_204 : decode cL_linesOf 204 = .ok (.imul, 1) := by decide +kernel
theorem dL_linesOf_205 : decode cL_linesOf 205 = .ok (.iconst 2, 1) := by decide +kernel
theorem dL_linesOf_206 : decode cL_linesOf 206 = .ok (.iadd, 1) := by decide +kernel
theorem dL_linesOf_207 : decode cL_linesOf 207 = .ok (.iaload, 1) := by decide +kernel
theorem dL_linesOf_208 : decode cL_linesOf 208 = .ok (.iastore, 1) := by decide +kernel
theorem dL_linesOf_209 : decode cL_linesOf 209 = .ok (.aload 6, 2) := by decide +kernel
theorem dL_linesOf_211 : decode cL_linesOf 211 = .ok (.iconst 2, 1) := by decide +kernel
theorem dL_linesOf_212 : decode cL_linesOf 212 = .ok (.iload 9, 2) := by decide +kernel
theorem dL_linesOf_214 : decode cL_linesOf 214 = .ok (.imul, 1) := by decide +kernel
theorem dL_linesOf_215 : decode cL_linesOf 215 = .ok (.iconst 1, 1) := by decide +kernel
theorem dL_linesOf_216 : decode cL_linesOf 216 = .ok (.iadd, 1) := by decide +kernel
theorem dL_linesOf_217 : decode cL_linesOf 217 = .ok (.aload 6, 2) := by decide +kernel
theorem dL_linesOf_219 : decode cL_linesOf 219 = .ok (.iconst 2, 1) := by decide +kernel
theorem dL_linesOf_220 : decode cL_linesOf 220 = .ok (.iload 9, 2) := by decide +kernel
theorem dL_linesOf_222 : decode cL_linesOf 222 = .ok (.imul, 1) := by decide +kernel
theorem dL_linesOf_223 : decode cL_linesOf 223 = .ok (.iconst 3, 1) := by decide +kernel
theorem dL_linesOf_224 : decode cL_linesOf 224 = .ok (.iadd, 1) := by decide +kernel
theorem dL_linesOf_225 : decode cL_linesOf 225 = .ok (.iaload, 1) := by decide +kernel
theorem dL_linesOf_226 : decode cL_linesOf 226 = .ok (.iastore, 1) := by decide +kernel
theorem dL_linesOf_227 : decode cL_linesOf 227 = .ok (.iinc 9 1, 3) := by decide +kernel
theorem dL_linesOf_230 : decode cL_linesOf 230 = .ok (.goto (-46), 3) := by decide +kernel
theorem dL_linesOf_233 : decode cL_linesOf 233 = .ok (.iinc 7 (-1), 3) := by decide +kernel
theorem dL_linesOf_236 : decode cL_linesOf 236 = .ok (.goto (-171), 3) := by decide +kernel
theorem dL_linesOf_239 : decode cL_linesOf 239 = .ok (.iconst 0, 1) := by decide +kernel
theorem dL_linesOf_240 : decode cL_linesOf 240 = .ok (.istore 8, 2) := by decide +kernel
theorem dL_linesOf_242 : decode cL_linesOf 242 = .ok (.iload 8, 2) := by decide +kernel
theorem dL_linesOf_244 : decode cL_linesOf 244 = .ok (.iload 7, 2) := by decide +kernel
theorem dL_linesOf_246 : decode cL_linesOf 246 = .ok (.if_icmp .ge 47, 3) := by decide +kernel
theorem dL_linesOf_249 : decode cL_linesOf 249 = .ok (.aload_n 3, 1) := by decide +kernel
theorem dL_linesOf_250 : decode cL_linesOf 250 = .ok (.iload 4, 2) := by decide +kernel
theorem dL_linesOf_252 : decode cL_linesOf 252 = .ok (.iload 8, 2) := by decide +kernel
theorem dL_linesOf_254 : decode cL_linesOf 254 = .ok (.iadd, 1) := by decide +kernel
theorem dL_linesOf_255 : decode cL_linesOf 255 = .ok (.iconst 0, 1) := by decide +kernel
theorem dL_linesOf_256 : decode cL_linesOf 256 = .ok (.iload 5, 2) := by decide +kernel
theorem dL_linesOf_258 : decode cL_linesOf 258 = .ok (.aload_n 1, 1) := by decide +kernel
theorem dL_linesOf_259 : decode cL_linesOf 259 = .ok (.bipush 8, 2) := by decide +kernel
theorem dL_linesOf_261 : decode cL_linesOf 261 = .ok (.iload 5, 2) := by decide +kernel
theorem dL_linesOf_263 : decode cL_linesOf 263 = .ok (.imul, 1) := by decide +kernel
theorem dL_linesOf_264 : decode cL_linesOf 264 = .ok (.iconst 1, 1) := by decide +kernel
theorem dL_linesOf_265 : decode cL_linesOf 265 = .ok (.iadd, 1) := by decide +kernel
theorem dL_linesOf_266 : decode cL_linesOf 266 = .ok (.iaload, 1) := by decide +kernel
theorem dL_linesOf_267 : decode cL_linesOf 267 = .ok (.aload 6, 2) := by decide +kernel
theorem dL_linesOf_269 : decode cL_linesOf 269 = .ok (.iconst 2, 1) := by decide +kernel
theorem dL_linesOf_270 : decode cL_linesOf 270 = .ok (.iload 8, 2) := by decide +kernel
theorem dL_linesOf_272 : decode cL_linesOf 272 = .ok (.imul, 1) := by decide +kernel
theorem dL_linesOf_273 : decode cL_linesOf 273 = .ok (.iaload, 1) := by decide +kernel
theorem dL_linesOf_274 : decode cL_linesOf 274 = .ok (.aload 6, 2) := by decide +kernel
theorem dL_linesOf_276 : decode cL_linesOf 276 = .ok (.iconst 2, 1) := by decide +kernel
theorem dL_linesOf_277 : decode cL_linesOf 277 = .ok (.iload 8, 2) := by decide +kernel
theorem dL_linesOf_279 : decode cL_linesOf 279 = .ok (.imul, 1) := by decide +kernel
theorem dL_linesOf_280 : decode cL_linesOf 280 = .ok (.iconst 1, 1) := by decide +kernel
theorem dL_linesOf_281 : decode cL_linesOf 281 = .ok (.iadd, 1) := by decide +kernel
theorem dL_linesOf_282 : decode cL_linesOf 282 = .ok (.iaload, 1) := by decide +kernel
theorem dL_linesOf_283 : decode cL_linesOf 283 = .ok (.invokestatic 27, 3) := by decide +kernel
theorem dL_linesOf_286 : decode cL_linesOf 286 = .ok (.iastore, 1) := by decide +kernel
theorem dL_linesOf_287 : decode cL_linesOf 287 = .ok (.iinc 8 1, 3) := by decide +kernel
theorem dL_linesOf_290 : decode cL_linesOf 290 = .ok (.goto (-48), 3) := by decide +kernel
theorem dL_linesOf_293 : decode cL_linesOf 293 = .ok (.iload 7, 2) := by decide +kernel
theorem dL_linesOf_295 : decode cL_linesOf 295 = .ok (.ireturn, 1) := by decide +kernel
theorem dL_lists_0 : decode cL_lists 0 = .ok (.iconst 0, 1) := by decide +kernel
theorem dL_lists_1 : decode cL_lists 1 = .ok (.istore 4, 2) := by decide +kernel
theorem dL_lists_3 : decode cL_lists 3 = .ok (.iconst 0, 1) := by decide +kernel
theorem dL_lists_4 : decode cL_lists 4 = .ok (.istore 5, 2) := by decide +kernel
theorem dL_lists_6 : decode cL_lists 6 = .ok (.iload 5, 2) := by decide +kernel
theorem dL_lists_8 : decode cL_lists 8 = .ok (.bipush 12, 2) := by decide +kernel
theorem dL_lists_10 : decode cL_lists 10 = .ok (.if_icmp .ge 38, 3) := by decide +kernel
theorem dL_lists_13 : decode cL_lists 13 = .ok (.iload 4, 2) := by decide +kernel
theorem dL_lists_15 : decode cL_lists 15 = .ok (.aload_n 3, 1) := by decide +kernel
theorem dL_lists_16 : decode cL_lists 16 = .ok (.iconst 3, 1) := by decide +kernel
theorem dL_lists_17 : decode cL_lists 17 = .ok (.iaload, 1) := by decide +kernel
theorem dL_lists_18 : decode cL_lists 18 = .ok (.iload 5, 2) := by decide +kernel
theorem dL_lists_20 : decode cL_lists 20 = .ok (.ishr, 1) := by decide +kernel
theorem dL_lists_21 : decode cL_lists 21 = .ok (.iconst 1, 1) := by decide +kernel
theorem dL_lists_22 : decode cL_lists 22 = .ok (.iand, 1) := by decide +kernel
theorem dL_lists_23 : decode cL_lists 23 = .ok (.iconst 1, 1) := by decide +kernel
theorem dL_lists_24 : decode cL_lists 24 = .ok (.if_icmp .ne 14, 3) := by decide +kernel
theorem dL_lists_27 : decode cL_lists 27 = .ok (.iconst 1, 1) := by decide +kernel
theorem dL_lists_28 : decode cL_lists 28 = .ok (.aload_n 2, 1) := by decide +kernel
theorem dL_lists_29 : decode cL_lists 29 = .ok (.iconst 5, 1) := by decide +kernel
theorem dL_lists_30 : decode cL_lists 30 = .ok (.iload 5, 2) := by decide +kernel
theorem dL_lists_32 : decode cL_lists 32 = .ok (.imul, 1) := by decide +kernel
theorem dL_lists_33 : decode cL_lists 33 = .ok (.iaload, 1) := by decide +kernel
theorem dL_lists_34 : decode cL_lists 34 = .ok (.ishl, 1) := by decide +kernel
theorem dL_lists_35 : decode cL_lists 35 = .ok (.goto 4, 3) := by decide +kernel
theorem dL_lists_38 : decode cL_lists 38 = .ok (.iconst 0, 1) := by decide +kernel
theorem dL_lists_39 : decode cL_lists 39 = .ok (.ior, 1) := by decide +kernel
theorem dL_lists_40 : decode cL_lists 40 = .ok (.istore 4, 2) := by decide +kernel
theorem dL_lists_42 : decode cL_lists 42 = .ok (.iinc 5 1, 3) := by decide +kernel
theorem dL_lists_45 : decode cL_lists 45 = .ok (.goto (-39), 3) := by decide +kernel
theorem dL_lists_48 : decode cL_lists 48 = .ok (.aload_n 3, 1) := by decide +kernel
theorem dL_lists_49 : decode cL_lists 49 = .ok (.iconst 0, 1) := by decide +kernel
theorem dL_lists_50 : decode cL_lists 50 = .ok (.iconst 0, 1) := by decide +kernel
theorem dL_lists_51 : decode cL_lists 51 = .ok (.iastore, 1) := by decide +kernel
theorem dL_lists_52 : decode cL_lists 52 = .ok (.iconst (-1), 1) := by decide +kernel
theorem dL_lists_53 : decode cL_lists 53 = .ok (.istore 5, 2) := by decide +kernel
theorem dL_lists_55 : decode cL_lists 55 = .ok (.iconst (-1), 1) := by decide +kernel
theorem dL_lists_56 : decode cL_lists 56 = .ok (.istore 6, 2) := by decide +kernel
theorem dL_lists_58 : decode cL_lists 58 = .ok (.iload 4, 2) := by decide +kernel
theorem dL_lists_60 : decode cL_lists 60 = .ok (.invokestatic 31, 3) := by decide +kernel
theorem dL_lists_63 : decode cL_lists 63 = .ok (.istore 7, 2) := by decide +kernel
theorem dL_lists_65 : decode cL_lists 65 = .ok (.iload 7, 2) := by decide +kernel
theorem dL_lists_67 : decode cL_lists 67 = .ok (.ifCond .le 245, 3) := by decide +kernel
theorem dL_lists_70 : decode cL_lists 70 = .ok (.iconst (-1), 1) := by decide +kernel
theorem dL_lists_71 : decode cL_lists 71 = .ok (.istore 8, 2) := by decide +kernel
theorem dL_lists_73 : decode cL_lists 73 = .ok (.iconst 0, 1) := by decide +kernel
theorem dL_lists_74 : decode cL_lists 74 = .ok (.istore 9, 2) := by decide +kernel
theorem dL_lists_76 : decode cL_lists 76 = .ok (.iconst 0, 1) := by decide +kernel
theorem dL_lists_77 : decode cL_lists 77 = .ok (.istore 10, 2) := by decide +kernel
theorem dL_lists_79 : decode cL_lists 79 = .ok (.iload 10, 2) := by decide +kernel
theorem dL_lists_81 : decode cL_lists 81 = .ok (.iconst 4, 1) := by decide +kernel
theorem dL_lists_82 : decode cL_lists 82 = .ok (.if_icmp .ge 68, 3) := by decide +kernel
theorem dL_lists_85 : decode cL_lists 85 = .ok (.sipush 1000, 3) := by decide +kernel
theorem dL_lists_88 : decode cL_lists 88 = .ok (.aload_n 1, 1) := by decide +kernel
theorem dL_lists_89 : decode cL_lists 89 = .ok (.iload 4, 2) := by decide +kernel
theorem dL_lists_91 : decode cL_lists 91 = .ok (.iload 10, 2) := by decide +kernel
theorem dL_lists_93 : decode cL_lists 93 = .ok (.invokestatic 35, 3) := by decide +kernel
theorem dL_lists_96 : decode cL_lists 96 = .ok (.imul, 1) := by decide +kernel
theorem dL_lists_97 : decode cL_lists 97 = .ok (.aload_n 1, 1) := by decide +kernel
theorem dL_lists_98 : decode cL_lists 98 = .ok (.iload 10, 2) := by decide +kernel
theorem dL_lists_100 : decode cL_lists 100 = .ok (.invokestatic 15, 3) := by decide +kernel
theorem dL_lists_103 : decode cL_lists 103 = .ok (.iadd, 1) := by decide +kernel
theorem dL_lists_104 : decode cL_lists 104 = .ok (.istore 11, 2) := by decide +kernel
theorem dL_lists_106 : decode cL_lists 106 = .ok (.iload 4, 2) := by decide +kernel
theorem dL_lists_108 : decode cL_lists 108 = .ok (.iload 10, 2) := by decide +kernel
theorem dL_lists_110 : decode cL_lists 110 = .ok (.ishr, 1) := by decide +kernel
theorem dL_lists_111 : decode cL_lists 111 = .ok (.iconst 1, 1) := by decide +kernel
theorem dL_lists_112 : decode cL_lists 112 = .ok (.iand, 1) := by decide +kernel
theorem dL_lists_113 : decode cL_lists 113 = .ok (.iconst 1, 1) := by decide +kernel
theorem dL_lists_114 : decode cL_lists 114 = .ok (.if_icmp .ne 30, 3) := by decide +kernel
theorem dL_lists_117 : decode cL_lists 117 = .ok (.iload 11, 2) := by decide +kernel
theorem dL_lists_119 : decode cL_lists 119 = .ok (.iload 5, 2) := by decide +kernel
theorem dL_lists_121 : decode cL_lists 121 = .ok (.if_icmp .le 23, 3) := by decide +kernel
theorem dL_lists_124 : decode cL_lists 124 = .ok (.iload 8, 2) := by decide +kernel
theorem dL_lists_126 : decode cL_lists 126 = .ok (.ifCond .lt 10, 3) := by decide +kernel
theorem dL_lists_129 : decode cL_lists 129 = .ok (.iload 11, 2) := by decide +kernel
theorem dL_lists_131 : decode cL_lists 131 = .ok (.iload 9, 2) := by decide +kernel
theorem dL_lists_133 : decode cL_lists 133 = .ok (.if_icmp .ge 11, 3) := by decide +kernel
theorem dL_lists_136 : decode cL_lists 136 = .ok (.iload 10, 2) := by decide +kernel
theorem dL_lists_138 : decode cL_lists 138 = .ok (.istore 8, 2) := by decide +kernel
theorem dL_lists_140 : decode cL_lists 140 = .ok (.iload 11, 2) := by decide +kernel
theorem dL_lists_142 : decode cL_lists 142 = .ok (.istore 9, 2) := by decide +kernel
theorem dL_lists_144 : decode cL_lists 144 = .ok (.iinc 10 1, 3) := by decide +kernel
theorem dL_lists_147 : decode cL_lists 147 = .ok (.goto (-68), 3) := by decide +kernel
theorem dL_lists_150 : decode cL_lists 150 = .ok (.iload 9, 2) := by decide +kernel
theorem dL_lists_152 : decode cL_lists 152 = .ok (.istore 5, 2) := by decide +kernel
theorem dL_lists_154 : decode cL_lists 154 = .ok (.aload_n 1, 1) := by decide +kernel
theorem dL_lists_155 : decode cL_lists 155 = .ok (.bipush 8, 2) := by decide +kernel
theorem dL_lists_157 : decode cL_lists 157 = .ok (.iload 8, 2) := by decide +kernel
theorem dL_lists_159 : decode cL_lists 159 = .ok (.imul, 1) := by decide +kernel
theorem dL_lists_160 : decode cL_lists 160 = .ok (.iconst 1, 1) := by decide +kernel
theorem dL_lists_161 : decode cL_lists 161 = .ok (.iadd, 1) := by decide +kernel
theorem dL_lists_162 : decode cL_lists 162 = .ok (.iaload, 1) := by decide +kernel
theorem dL_lists_163 : decode cL_lists 163 = .ok (.istore 10, 2) := by decide +kernel
theorem dL_lists_165 : decode cL_lists 165 = .ok (.iload 10, 2) := by decide +kernel
theorem dL_lists_167 : decode cL_lists 167 = .ok (.ifCond .ge 7, 3) := by decide +kernel
theorem dL_lists_170 : decode cL_lists 170 = .ok (.iconst 1, 1) := by decide +kernel
theorem dL_lists_171 : decode cL_lists 171 = .ok (.goto 11, 3) := by decide +kernel
theorem dL_lists_174 : decode cL_lists 174 = .ok (.aload_n 1, 1) := by decide +kernel
theorem dL_lists_175 : decode cL_lists 175 = .ok (.iload 4, 2) := by decide +kernel
theorem dL_lists_177 : decode cL_lists 177 = .ok (.iload 10, 2) := by decide +kernel
theorem dL_lists_179 : decode cL_lists 179 = .ok (.invokestatic 39, 3) := by decide +kernel
theorem dL_lists_182 : decode cL_lists 182 = .ok (.istore 11, 2) := by decide +kernel
theorem dL_lists_184 : decode cL_lists 184 = .ok (.iload 10, 2) := by decide +kernel
theorem dL_lists_186 : decode cL_lists 186 = .ok (.ifCond .lt 37, 3) := by decide +kernel
theorem dL_lists_189 : decode cL_lists 189 = .ok (.iload 11, 2) := by decide +kernel
theorem dL_lists_191 : decode cL_lists 191 = .ok (.iconst 1, 1) := by decide +kernel
theorem dL_lists_192 : decode cL_lists 192 = .ok (.if_icmp .le 31, 3) := by decide +kernel
theorem dL_lists_195 : decode cL_lists 195 = .ok (.aload_n 0, 1) := by decide +kernel
theorem dL_lists_196 : decode cL_lists 196 = .ok (.bipush 10, 2) := by decide +kernel
theorem dL_lists_198 : decode cL_lists 198 = .ok (.iload 10, 2) := by decide +kernel
theorem dL_lists_200 : decode cL_lists 200 = .ok (.iadd, 1) := by decide +kernel
theorem dL_lists_201 : decode cL_lists 201 = .ok (.iaload, 1) := by decide +kernel
theorem dL_lists_202 : decode cL_lists 202 = .ok (.iconst 1, 1) := by decide +kernel
theorem dL_lists_203 : decode cL_lists 203 = .ok (.if_icmp .ne 20, 3) := by decide +kernel
theorem dL_lists_206 : decode cL_lists 206 = .ok (.iload 11, 2) := by decide +kernel
theorem dL_lists_208 : decode cL_lists 208 = .ok (.aload_n 1, 1) := by decide +kernel
theorem dL_lists_209 : decode cL_lists 209 = .ok (.bipush 15, 2) := by decide +kernel
theorem dL_lists_211 : decode cL_lists 211 = .ok (.iload 10, 2) := by decide +kernel
theorem dL_lists_213 : decode cL_lists 213 = .ok (.invokestatic 39, 3) := by decide +kernel
theorem dL_lists_216 : decode cL_lists 216 = .ok (.if_icmp .ne 7, 3) := by decide +kernel
theorem dL_lists_219 : decode cL_lists 219 = .ok (.iconst 1, 1) := by decide +kernel
theorem dL_lists_220 : decode cL_lists 220 = .ok (.goto 4, 3) := by decide +kernel
theorem dL_lists_223 : decode cL_lists 223 = .ok (.iconst 0, 1) := by decide +kernel
theorem dL_lists_224 : decode cL_lists 224 = .ok (.istore 12, 2) := by decide +kernel
theorem dL_lists_226 : decode cL_lists 226 = .ok (.iload 11, 2) := by decide +kernel
theorem dL_lists_228 : decode cL_lists 228 = .ok (.iconst 1, 1) := by decide +kernel
theorem dL_lists_229 : decode cL_lists 229 = .ok (.if_icmp .le 43, 3) := by decide +kernel
theorem dL_lists_232 : decode cL_lists 232 = .ok (.iload 10, 2) := by decide +kernel
theorem dL_lists_234 : decode cL_lists 234 = .ok (.iload 6, 2) := by decide +kernel
theorem dL_lists_236 : decode cL_lists 236 = .ok (.if_icmp .eq 36, 3) := by decide +kernel
theorem dL_lists_239 : decode cL_lists 239 = .ok (.aload_n 3, 1) := by decide +kernel
theorem dL_lists_240 : decode cL_lists 240 = .ok (.bipush 10, 2) := by decide +kernel
theorem dL_lists_242 : decode cL_lists 242 = .ok (.aload_n 3, 1) := by decide +kernel
theorem dL_lists_243 : decode cL_lists 243 = .ok (.iconst 0, 1) := by decide +kernel
theorem dL_lists_244 : decode cL_lists 244 = .ok (.iaload, 1) := by decide +kernel
theorem dL_lists_245 : decode cL_lists 245 = .ok (.iadd, 1) := by decide +kernel
theorem dL_lists_246 : decode cL_lists 246 = .ok (.iload 12, 2) := by decide +kernel
theorem dL_lists_248 : decode cL_lists 248 = .ok (.ifCond .eq 7, 3) := by decide +kernel
theorem dL_lists_251 : decode cL_lists 251 = .ok (.iconst 2, 1) := by decide +kernel
theorem dL_lists_252 : decode cL_lists 252 = .ok (.goto 4, 3) := by decide +kernel
theorem dL_lists_255 : decode cL_lists 255 = .ok (.iconst 1, 1) := by decide +kernel
theorem dL_lists_256 : decode cL_lists 256 = .ok (.iconst (-1), 1) := by decide +kernel
theorem dL_lists_257 : decode cL_lists 257 = .ok (.iload 10, 2) := by decide +kernel
theorem dL_lists_259 : decode cL_lists 259 = .ok (.iconst (-1), 1) := by decide +kernel
theorem dL_lists_260 : decode cL_lists 260 = .ok (.iconst (-1), 1) := by decide +kernel
theorem dL_lists_261 : decode cL_lists 261 = .ok (.invokestatic 27, 3) := by decide +kernel
theorem dL_lists_264 : decode cL_lists 264 = .ok (.iastore, 1) := by decide +kernel
theorem dL_lists_265 : decode cL_lists 265 = .ok (.aload_n 3, 1) := by decide +kernel
theorem dL_lists_266 : decode cL_lists 266 = .ok (.iconst 0, 1) := by decide +kernel
theorem dL_lists_267 : decode cL_lists 267 = .ok (.dup2, 1) := by decide +kernel
theorem dL_lists_268 : decode cL_lists 268 = .ok (.iaload, 1) := by decide +kernel
theorem dL_lists_269 : decode cL_lists 269 = .ok (.iconst 1, 1) := by decide +kernel
theorem dL_lists_270 : decode cL_lists 270 = .ok (.iadd, 1) := by decide +kernel
theorem dL_lists_271 : decode cL_lists 271 = .ok (.iastore, 1) := by decide +kernel
theorem dL_lists_272 : decode cL_lists 272 = .ok (.iload 10, 2) := by decide +kernel
theorem dL_lists_274 : decode cL_lists 274 = .ok (.istore 6, 2) := by decide +kernel
theorem dL_lists_276 : decode cL_lists 276 = .ok (.aload_n 3, 1) := by decide +kernel
theorem dL_lists_277 : decode cL_lists 277 = .ok (.iconst 0, 1) := by decide +kernel
theorem dL_lists_278 : decode cL_lists 278 = .ok (.dup2, 1) := by decide +kernel
theorem dL_lists_279 : decode cL_lists 279 = .ok (.iaload, 1) := by decide +kernel
theorem dL_lists_280 : decode cL_lists 280 = .ok (.iload 12, 2) := by decide +kernel
theorem dL_lists_282 : decode cL_lists 282 = .ok (.ifCond .eq 7, 3) := by decide +kernel
theorem dL_lists_285 : decode cL_lists 285 = .ok (.iconst 0, 1) := by decide +kernel
theorem dL_lists_286 : decode cL_lists 286 = .ok (.goto 18, 3) := by decide +kernel
theorem dL_lists_289 : decode cL_lists 289 = .ok (.aload_n 0, 1) := by decide +kernel
theorem dL_lists_290 : decode cL_lists 290 = .ok (.aload_n 1, 1) := by decide +kernel
theorem dL_lists_291 : decode cL_lists 291 = .ok (.aload_n 2, 1) := by decide +kernel
theorem dL_lists_292 : decode cL_lists 292 = .ok (.aload_n 3, 1) := by decide +kernel
theorem dL_lists_293 : decode cL_lists 293 = .ok (.bipush 10, 2) := by decide +kernel
theorem dL_lists_295 : decode cL_lists 295 = .ok (.aload_n 3, 1) := by decide +kernel
theorem dL_lists_296 : decode cL_lists 296 = .ok (.iconst 0, 1) := by decide +kernel
theorem dL_lists_297 : decode cL_lists 297 = .ok (.iaload, 1) := by decide +kernel
theorem dL_lists_298 : decode cL_lists 298 = .ok (.iadd, 1) := by decide +kernel
theorem dL_lists_299 : decode cL_lists 299 = .ok (.iload 8, 2) := by decide +kernel
theorem dL_lists_301 : decode cL_lists 301 = .ok (.invokestatic 42, 3) := by decide +kernel
theorem dL_lists_304 : decode cL_lists 304 = .ok (.iadd, 1) := by decide +kernel
theorem dL_lists_305 : decode cL_lists 305 = .ok (.iastore, 1) := by decide +kernel
theorem dL_lists_306 : decode cL_lists 306 = .ok (.iinc 7 (-1), 3) := by decide +kernel
theorem dL_lists_309 : decode cL_lists 309 = .ok (.goto (-244), 3) := by decide +kernel
theorem dL_lists_312 : decode cL_lists 312 = .ok (.return_, 1) := by decide +kernel
theorem dL_covered_0 : decode cL_covered 0 = .ok (.iconst 0, 1) := by decide +kernel
theorem dL_covered_1 : decode cL_covered 1 = .ok (.istore_n 3, 1) := by decide +kernel
theorem dL_covered_2 : decode cL_covered 2 = .ok (.iconst 0, 1) := by decide +kernel
theorem dL_covered_3 : decode cL_covered 3 = .ok (.istore 4, 2) := by decide +kernel
theorem dL_covered_5 : decode cL_covered 5 = .ok (.iload 4, 2) := by decide +kernel
theorem dL_covered_7 : decode cL_covered 7 = .ok (.bipush 12, 2) := by decide +kernel
theorem dL_covered_9 : decode cL_covered 9 = .ok (.if_icmp .ge 83, 3) := by decide +kernel
theorem dL_covered_12 : decode cL_covered 12 = .ok (.aload_n 2, 1) := by decide +kernel
theorem dL_covered_13 : decode cL_covered 13 = .ok (.iconst 4, 1) := by decide +kernel
theorem dL_covered_14 : decode cL_covered 14 = .ok (.iaload, 1) := by decide +kernel
theorem dL_covered_15 : decode cL_covered 15 = .ok (.ifCond .lt 77, 3) := by decide +kernel
theorem dL_covered_18 : decode cL_covered 18 = .ok (.aload_n 1, 1) := by decide +kernel
theorem dL_covered_19 : decode cL_covered 19 = .ok (.iconst 5, 1) := by decide +kernel
theorem dL_covered_20 : decode cL_covered 20 = .ok (.iload 4, 2) := by decide +kernel
theorem dL_covered_22 : decode cL_covered 22 = .ok (.imul, 1) := by decide +kernel
theorem dL_covered_23 : decode cL_covered 23 = .ok (.iconst 1, 1) := by decide +kernel
theorem dL_covered_24 : decode cL_covered 24 = .ok (.iadd, 1) := by decide +kernel
theorem dL_covered_25 : decode cL_covered 25 = .ok (.iaload, 1) := by decide +kernel
theorem dL_covered_26 : decode cL_covered 26 = .ok (.aload_n 2, 1) := by decide +kernel
theorem dL_covered_27 : decode cL_covered 27 = .ok (.iconst 5, 1) := by decide +kernel
theorem dL_covered_28 : decode cL_covered 28 = .ok (.iaload, 1) := by decide +kernel
theorem dL_covered_29 : decode cL_covered 29 = .ok (.isub, 1) := by decide +kernel
theorem dL_covered_30 : decode cL_covered 30 = .ok (.istore 5, 2) := by decide +kernel
theorem dL_covered_32 : decode cL_covered 32 = .ok (.aload_n 1, 1) := by decide +kernel
theorem dL_covered_33 : decode cL_covered 33 = .ok (.iconst 5, 1) := by decide +kernel
theorem dL_covered_34 : decode cL_covered 34 = .ok (.iload 4, 2) := by decide +kernel
theorem dL_covered_36 : decode cL_covered 36 = .ok (.imul, 1) := by decide +kernel
theorem dL_covered_37 : decode cL_covered 37 = .ok (.iconst 2, 1) := by decide +kernel
theorem dL_covered_38 : decode cL_covered 38 = .ok (.iadd, 1) := by decide +kernel
theorem dL_covered_39 : decode cL_covered 39 = .ok (.iaload, 1) := by decide +kernel
theorem dL_covered_40 : decode cL_covered 40 = .ok (.aload_n 2, 1) := by decide +kernel
theorem dL_covered_41 : decode cL_covered 41 = .ok (.bipush 6, 2) := by decide +kernel
theorem dL_covered_43 : decode cL_covered 43 = .ok (.iaload, 1) := by decide +kernel
theorem dL_covered_44 : decode cL_covered 44 = .ok (.isub, 1) := by decide +kernel
theorem dL_covered_45 : decode cL_covered 45 = .ok (.istore 6, 2) := by decide +kernel
theorem dL_covered_47 : decode cL_covered 47 = .ok (.iload_n 3, 1) := by decide +kernel
theorem dL_covered_48 : decode cL_covered 48 = .ok (.iload 5, 2) := by decide +kernel
theorem dL_covered_50 : decode cL_covered 50 = .ok (.ifCond .lt 33, 3) := by decide +kernel
theorem dL_covered_53 : decode cL_covered 53 = .ok (.iload 5, 2) := by decide +kernel
theorem dL_covered_55 : decode cL_covered 55 = .ok (.aload_n 2, 1) := by decide +kernel
theorem dL_covered_56 : decode cL_covered 56 = .ok (.bipush 7, 2) := by decide +kernel
theorem dL_covered_58 : decode cL_covered 58 = .ok (.iaload, 1) := by decide +kernel
theorem dL_covered_59 : decode cL_covered 59 = .ok (.if_icmp .ge 24, 3) := by decide +kernel
theorem dL_covered_62 : decode cL_covered 62 = .ok (.iload 6, 2) := by decide +kernel
theorem dL_covered_64 : decode cL_covered 64 = .ok (.ifCond .lt 19, 3) := by decide +kernel
theorem dL_covered_67 : decode cL_covered 67 = .ok (.iload 6, 2) := by decide +kernel
theorem dL_covered_69 : decode cL_covered 69 = .ok (.aload_n 2, 1) := by decide +kernel
theorem dL_covered_70 : decode cL_covered 70 = .ok (.bipush 8, 2) := by decide +kernel
theorem dL_covered_72 : decode cL_covered 72 = .ok (.iaload, 1) := by decide +kernel
theorem dL_covered_73 : decode cL_covered 73 = .ok (.if_icmp .ge 10, 3) := by decide +kernel
theorem dL_covered_76 : decode cL_covered 76 = .ok (.iconst 1, 1) := by decide +kernel
theorem dL_covered_77 : decode cL_covered 77 = .ok (.iload 4, 2) := by decide +kernel
theorem dL_covered_79 : decode cL_covered 79 = .ok (.ishl, 1) := by decide +kernel
theorem dL_covered_80 : decode cL_covered 80 = .ok (.goto 4, 3) := by decide +kernel
theorem dL_covered_83 : decode cL_covered 83 = .ok (.iconst 0, 1) := by decide +kernel
theorem dL_covered_84 : decode cL_covered 84 = .ok (.ior, 1) := by decide +kernel
theorem dL_covered_85 : decode cL_covered 85 = .ok (.istore_n 3, 1) := by decide +kernel
theorem dL_covered_86 : decode cL_covered 86 = .ok (.iinc 4 1, 3) := by decide +kernel
theorem dL_covered_89 : decode cL_covered 89 = .ok (.goto (-84), 3) := by decide +kernel
theorem dL_covered_92 : decode cL_covered 92 = .ok (.iload_n 3, 1) := by decide +kernel
theorem dL_covered_93 : decode cL_covered 93 = .ok (.aload_n 0, 1) := by decide +kernel
theorem dL_covered_94 : decode cL_covered 94 = .ok (.aload_n 1, 1) := by decide +kernel
theorem dL_covered_95 : decode cL_covered 95 = .ok (.invokestatic 46, 3) := by decide +kernel
theorem dL_covered_98 : decode cL_covered 98 = .ok (.iand, 1) := by decide +kernel
theorem dL_covered_99 : decode cL_covered 99 = .ok (.ireturn, 1) := by decide +kernel
theorem dL_place_0 : decode cL_place 0 = .ok (.aload_n 1, 1) := by decide +kernel
theorem dL_place_1 : decode cL_place 1 = .ok (.iconst 0, 1) := by decide +kernel
theorem dL_place_2 : decode cL_place 2 = .ok (.iaload, 1) := by decide +kernel
theorem dL_place_3 : decode cL_place 3 = .ok (.aload_n 0, 1) := by decide +kernel
theorem dL_place_4 : decode cL_place 4 = .ok (.iconst 1, 1) := by decide +kernel
theorem dL_place_5 : decode cL_place 5 = .ok (.iaload, 1) := by decide +kernel
theorem dL_place_6 : decode cL_place 6 = .ok (.idiv, 1) := by decide +kernel
theorem dL_place_7 : decode cL_place 7 = .ok (.aload_n 1, 1) := by decide +kernel
theorem dL_place_8 : decode cL_place 8 = .ok (.iconst 0, 1) := by decide +kernel
theorem dL_place_9 : decode cL_place 9 = .ok (.iaload, 1) := by decide +kernel
theorem dL_place_10 : decode cL_place 10 = .ok (.aload_n 0, 1) := by decide +kernel
theorem dL_place_11 : decode cL_place 11 = .ok (.iconst 1, 1) := by decide +kernel
theorem dL_place_12 : decode cL_place 12 = .ok (.iaload, 1) := by decide +kernel
theorem dL_place_13 : decode cL_place 13 = .ok (.irem, 1) := by decide +kernel
theorem dL_place_14 : decode cL_place 14 = .ok (.ifCond .le 7, 3) := by decide +kernel
theorem dL_place_17 : decode cL_place 17 = .ok (.iconst 1, 1) := by decide +kernel
theorem dL_place_18 : decode cL_place 18 = .ok (.goto 4, 3) := by decide +kernel
theorem dL_place_21 : decode cL_place 21 = .ok (.iconst 0, 1) := by decide +kernel
theorem dL_place_22 : decode cL_place 22 = .ok (.iadd, 1) := by decide +kernel
theorem dL_place_23 : decode cL_place 23 = .ok (.istore_n 3, 1) := by decide +kernel
theorem dL_place_24 : decode cL_place 24 = .ok (.iconst 0, 1) := by decide +kernel
theorem dL_place_25 : decode cL_place 25 = .ok (.istore 4, 2) := by decide +kernel
theorem dL_place_27 : decode cL_place 27 = .ok (.iconst 0, 1) := by decide +kernel
theorem dL_place_28 : decode cL_place 28 = .ok (.istore 5, 2) := by decide +kernel
theorem dL_place_30 : decode cL_place 30 = .ok (.iconst 0, 1) := by decide +kernel
theorem dL_place_31 : decode cL_place 31 = .ok (.istore 6, 2) := by decide +kernel
theorem dL_place_33 : decode cL_place 33 = .ok (.iconst 0, 1) := by decide +kernel
theorem dL_place_34 : decode cL_place 34 = .ok (.istore 7, 2) := by decide +kernel
theorem dL_place_36 : decode cL_place 36 = .ok (.iload 7, 2) := by decide +kernel
theorem dL_place_38 : decode cL_place 38 = .ok (.aload_n 1, 1) := by decide +kernel
theorem dL_place_39 : decode cL_place 39 = .ok (.iconst 0, 1) := by decide +kernel
theorem dL_place_40 : decode cL_place 40 = .ok (.iaload, 1) := by decide +kernel
theorem dL_place_41 : decode cL_place 41 = .ok (.if_icmp .ge 134, 3) := by decide +kernel
theorem dL_place_44 : decode cL_place 44 = .ok (.aload_n 1, 1) := by decide +kernel
theorem dL_place_45 : decode cL_place 45 = .ok (.bipush 10, 2) := by decide +kernel
theorem dL_place_47 : decode cL_place 47 = .ok (.iload 7, 2) := by decide +kernel
theorem dL_place_49 : decode cL_place 49 = .ok (.iadd, 1) := by decide +kernel
theorem dL_place_50 : decode cL_place 50 = .ok (.iaload, 1) := by decide +kernel
theorem dL_place_51 : decode cL_place 51 = .ok (.sipush 20000, 3) := by decide +kernel
theorem dL_place_54 : decode cL_place 54 = .ok (.idiv, 1) := by decide +kernel
theorem dL_place_55 : decode cL_place 55 = .ok (.iconst 1, 1) := by decide +kernel
theorem dL_place_56 : decode cL_place 56 = .ok (.if_icmp .ne 7, 3) := by decide +kernel
theorem dL_place_59 : decode cL_place 59 = .ok (.iconst 1, 1) := by decide +kernel
theorem dL_place_60 : decode cL_place 60 = .ok (.goto 4, 3) := by decide +kernel
theorem dL_place_63 : decode cL_place 63 = .ok (.iconst 0, 1) := by decide +kernel
theorem dL_place_64 : decode cL_place 64 = .ok (.istore 8, 2) := by decide +kernel
theorem dL_place_66 : decode cL_place 66 = .ok (.iload 4, 2) := by decide +kernel
theorem dL_place_68 : decode cL_place 68 = .ok (.iconst 1, 1) := by decide +kernel
theorem dL_place_69 : decode cL_place 69 = .ok (.iadd, 1) := by decide +kernel
theorem dL_place_70 : decode cL_place 70 = .ok (.aload_n 0, 1) := by decide +kernel
theorem dL_place_71 : decode cL_place 71 = .ok (.iconst 1, 1) := by decide +kernel
theorem dL_place_72 : decode cL_place 72 = .ok (.iaload, 1) := by decide +kernel
theorem dL_place_73 : decode cL_place 73 = .ok (.if_icmp .ge 31, 3) := by decide +kernel
theorem dL_place_76 : decode cL_place 76 = .ok (.iload 5, 2) := by decide +kernel
theorem dL_place_78 : decode cL_place 78 = .ok (.iload_n 3, 1) := by decide +kernel
theorem dL_place_79 : decode cL_place 79 = .ok (.if_icmp .ge 21, 3) := by decide +kernel
theorem dL_place_82 : decode cL_place 82 = .ok (.iload 8, 2) := by decide +kernel
theorem dL_place_84 : decode cL_place 84 = .ok (.ifCond .eq 20, 3) := by decide +kernel
theorem dL_place_87 : decode cL_place 87 = .ok (.iload 5, 2) := by decide +kernel
theorem dL_place_89 : decode cL_place 89 = .ok (.ifCond .le 15, 3) := by decide +kernel
theorem dL_place_92 : decode cL_place 92 = .ok (.iload 5, 2) := by decide +kernel
theorem dL_place_94 : decode cL_place 94 = .ok (.iload_n 3, 1) := by decide +kernel
theorem dL_place_95 : decode cL_place 95 = .ok (.iconst 1, 1) := by decide +kernel
theorem dL_place_96 : decode cL_place 96 = .ok (.isub, 1) := by decide +kernel
theorem dL_place_97 : decode cL_place 97 = .ok (.if_icmp .lt 7, 3) := by decide +kernel
theorem dL_place_100 : decode cL_place 100 = .ok (.iconst 1, 1) := by decide +kernel
theorem dL_place_101 : decode cL_place 101 = .ok (.goto 4, 3) := by decide +kernel
theorem dL_place_104 : decode cL_place 104 = .ok (.iconst 0, 1) := by decide +kernel
theorem dL_place_105 : decode cL_place 105 = .ok (.istore 9, 2) := by decide +kernel
theorem dL_place_107 : decode cL_place 107 = .ok (.iload 4, 2) := by decide +kernel
theorem dL_place_109 : decode cL_place 109 = .ok (.iload 9, 2) := by decide +kernel
theorem dL_place_111 : decode cL_place 111 = .ok (.ifCond .eq 7, 3) := by decide +kernel
theorem dL_place_114 : decode cL_place 114 = .ok (.iconst 1, 1) := by decide +kernel
theorem dL_place_115 : decode cL_place 115 = .ok (.goto 4, 3) := by decide +kernel
theorem dL_place_118 : decode cL_place 118 = .ok (.iconst 0, 1) := by decide +kernel
theorem dL_place_119 : decode cL_place 119 = .ok (.iadd, 1) := by decide +kernel
theorem dL_place_120 : decode cL_place 120 = .ok (.istore 4, 2) := by decide +kernel
theorem dL_place_122 : decode cL_place 122 = .ok (.iload 9, 2) := by decide +kernel
theorem dL_place_124 : decode cL_place 124 = .ok (.ifCond .eq 7, 3) := by decide +kernel
theorem dL_place_127 : decode cL_place 127 = .ok (.iconst 0, 1) := by decide +kernel
theorem dL_place_128 : decode cL_place 128 = .ok (.goto 5, 3) := by decide +kernel
theorem dL_place_131 : decode cL_place 131 = .ok (.iload 5, 2) := by decide +kernel
theorem dL_place_133 : decode cL_place 133 = .ok (.istore 5, 2) := by decide +kernel
theorem dL_place_135 : decode cL_place 135 = .ok (.iload 7, 2) := by decide +kernel
theorem dL_place_137 : decode cL_place 137 = .ok (.iload_n 2, 1) := by decide +kernel
theorem dL_place_138 : decode cL_place 138 = .ok (.if_icmp .ne 12, 3) := by decide +kernel
theorem dL_place_141 : decode cL_place 141 = .ok (.iload 4, 2) := by decide +kernel
theorem dL_place_143 : decode cL_place 143 = .ok (.bipush 100, 2) := by decide +kernel
theorem dL_place_145 : decode cL_place 145 = .ok (.iload 5, 2) := by decide +kernel
theorem dL_place_147 : decode cL_place 147 = .ok (.imul, 1) := by decide +kernel
theorem dL_place_148 : decode cL_place 148 = .ok (.iadd, 1) := by decide +kernel
theorem dL_place_149 : decode cL_place 149 = .ok (.ireturn, 1) := by decide +kernel
theorem dL_place_150 : decode cL_place 150 = .ok (.iinc 5 1, 3) := by decide +kernel
theorem dL_place_153 : decode cL_place 153 = .ok (.iload 5, 2) := by decide +kernel
theorem dL_place_155 : decode cL_place 155 = .ok (.iload 6, 2) := by decide +kernel
theorem dL_place_157 : decode cL_place 157 = .ok (.if_icmp .le 8, 3) := by decide +kernel
theorem dL_place_160 : decode cL_place 160 = .ok (.iload 5, 2) := by decide +kernel
theorem dL_place_162 : decode cL_place 162 = .ok (.goto 5, 3) := by decide +kernel
theorem dL_place_165 : decode cL_place 165 = .ok (.iload 6, 2) := by decide +kernel
theorem dL_place_167 : decode cL_place 167 = .ok (.istore 6, 2) := by decide +kernel
theorem dL_place_169 : decode cL_place 169 = .ok (.iinc 7 1, 3) := by decide +kernel
theorem dL_place_172 : decode cL_place 172 = .ok (.goto (-136), 3) := by decide +kernel
theorem dL_place_175 : decode cL_place 175 = .ok (.iload 4, 2) := by decide +kernel
theorem dL_place_177 : decode cL_place 177 = .ok (.iconst 1, 1) := by decide +kernel
theorem dL_place_178 : decode cL_place 178 = .ok (.iadd, 1) := by decide +kernel
theorem dL_place_179 : decode cL_place 179 = .ok (.bipush 100, 2) := by decide +kernel
theorem dL_place_181 : decode cL_place 181 = .ok (.iload 6, 2) := by decide +kernel
theorem dL_place_183 : decode cL_place 183 = .ok (.imul, 1) := by decide +kernel
theorem dL_place_184 : decode cL_place 184 = .ok (.iadd, 1) := by decide +kernel
theorem dL_place_185 : decode cL_place 185 = .ok (.ireturn, 1) := by decide +kernel
theorem dL_box_0 : decode cL_box 0 = .ok (.aload_n 2, 1) := by decide +kernel
theorem dL_box_1 : decode cL_box 1 = .ok (.iconst 4, 1) := by decide +kernel
theorem dL_box_2 : decode cL_box 2 = .ok (.iconst (-1), 1) := by decide +kernel
theorem dL_box_3 : decode cL_box 3 = .ok (.iastore, 1) := by decide +kernel
theorem dL_box_4 : decode cL_box 4 = .ok (.aload_n 2, 1) := by decide +kernel
theorem dL_box_5 : decode cL_box 5 = .ok (.iconst 0, 1) := by decide +kernel
theorem dL_box_6 : decode cL_box 6 = .ok (.iaload, 1) := by decide +kernel
theorem dL_box_7 : decode cL_box 7 = .ok (.ifCond .ne 4, 3) := by decide +kernel
theorem dL_box_10 : decode cL_box 10 = .ok (.return_, 1) := by decide +kernel
theorem dL_box_11 : decode cL_box 11 = .ok (.aload_n 0, 1) := by decide +kernel
theorem dL_box_12 : decode cL_box 12 = .ok (.aload_n 2, 1) := by decide +kernel
theorem dL_box_13 : decode cL_box 13 = .ok (.aload_n 2, 1) := by decide +kernel
theorem dL_box_14 : decode cL_box 14 = .ok (.iconst 0, 1) := by decide +kernel
theorem dL_box_15 : decode cL_box 15 = .ok (.iaload, 1) := by decide +kernel
theorem dL_box_16 : decode cL_box 16 = .ok (.invokestatic 50, 3) := by decide +kernel
theorem dL_box_19 : decode cL_box 19 = .ok (.istore_n 3, 1) := by decide +kernel
theorem dL_box_20 : decode cL_box 20 = .ok (.aload_n 2, 1) := by decide +kernel
theorem dL_box_21 : decode cL_box 21 = .ok (.bipush 7, 2) := by decide +kernel
theorem dL_box_23 : decode cL_box 23 = .ok (.iload_n 3, 1) := by decide +kernel
theorem dL_box_24 : decode cL_box 24 = .ok (.bipush 100, 2) := by decide +kernel
theorem dL_box_26 : decode cL_box 26 = .ok (.irem, 1) := by decide +kernel
theorem dL_box_27 : decode cL_box 27 = .ok (.aload_n 0, 1) := by decide +kernel
theorem dL_box_28 : decode cL_box 28 = .ok (.iconst 2, 1) := by decide +kernel
theorem dL_box_29 : decode cL_box 29 = .ok (.iaload, 1) := by decide +kernel
theorem dL_box_30 : decode cL_box 30 = .ok (.imul, 1) := by decide +kernel
theorem dL_box_31 : decode cL_box 31 = .ok (.iastore, 1) := by decide +kernel
theorem dL_box_32 : decode cL_box 32 = .ok (.aload_n 2, 1) := by decide +kernel
theorem dL_box_33 : decode cL_box 33 = .ok (.bipush 7, 2) := by decide +kernel
theorem dL_box_35 : decode cL_box 35 = .ok (.aload_n 2, 1) := by decide +kernel
theorem dL_box_36 : decode cL_box 36 = .ok (.bipush 7, 2) := by decide +kernel
theorem dL_box_38 : decode cL_box 38 = .ok (.iaload, 1) := by decide +kernel
theorem dL_box_39 : decode cL_box 39 = .ok (.aload_n 0, 1) := by decide +kernel
theorem dL_box_40 : decode cL_box 40 = .ok (.bipush 6, 2) := by decide +kernel
theorem dL_box_42 : decode cL_box 42 = .ok (.iaload, 1) := by decide +kernel
theorem dL_box_43 : decode cL_box 43 = .ok (.if_icmp .le 10, 3) := by decide +kernel
theorem dL_box_46 : decode cL_box 46 = .ok (.aload_n 0, 1) := by decide +kernel
theorem dL_box_47 : decode cL_box 47 = .ok (.bipush 6, 2) := by decide +kernel
theorem dL_box_49 : decode cL_box 49 = .ok (.iaload, 1) := by decide +kernel
theorem dL_box_50 : decode cL_box 50 = .ok (.goto 7, 3) := by decide +kernel
theorem dL_box_53 : decode cL_box 53 = .ok (.aload_n 2, 1) := by decide +kernel
theorem dL_box_54 : decode cL_box 54 = .ok (.bipush 7, 2) := by decide +kernel
theorem dL_box_56 : decode cL_box 56 = .ok (.iaload, 1) := by decide +kernel
theorem dL_box_57 : decode cL_box 57 = .ok (.iastore, 1) := by decide +kernel
theorem dL_box_58 : decode cL_box 58 = .ok (.aload_n 2, 1) := by decide +kernel
theorem dL_box_59 : decode cL_box 59 = .ok (.bipush 8, 2) := by decide +kernel
theorem dL_box_61 : decode cL_box 61 = .ok (.iload_n 3, 1) := by decide +kernel
theorem dL_box_62 : decode cL_box 62 = .ok (.bipush 100, 2) := by decide +kernel
theorem dL_box_64 : decode cL_box 64 = .ok (.idiv, 1) := by decide +kernel
theorem dL_box_65 : decode cL_box 65 = .ok (.aload_n 0, 1) := by decide +kernel
theorem dL_box_66 : decode cL_box 66 = .ok (.iconst 3, 1) := by decide +kernel
theorem dL_box_67 : decode cL_box 67 = .ok (.iaload, 1) := by decide +kernel
theorem dL_box_68 : decode cL_box 68 = .ok (.imul, 1) := by decide +kernel
theorem dL_box_69 : decode cL_box 69 = .ok (.iastore, 1) := by decide +kernel
theorem dL_box_70 : decode cL_box 70 = .ok (.aload_n 2, 1) := by decide +kernel
theorem dL_box_71 : decode cL_box 71 = .ok (.bipush 8, 2) := by decide +kernel
theorem dL_box_73 : decode cL_box 73 = .ok (.aload_n 2, 1) := by decide +kernel
theorem dL_box_74 : decode cL_box 74 = .ok (.bipush 8, 2) := by decide +kernel
theorem dL_box_76 : decode cL_box 76 = .ok (.iaload, 1) := by decide +kernel
theorem dL_box_77 : decode cL_box 77 = .ok (.aload_n 0, 1) := by decide +kernel
theorem dL_box_78 : decode cL_box 78 = .ok (.bipush 7, 2) := by decide +kernel
theorem dL_box_80 : decode cL_box 80 = .ok (.iaload, 1) := by decide +kernel
theorem dL_box_81 : decode cL_box 81 = .ok (.if_icmp .le 10, 3) := by decide +kernel
theorem dL_box_84 : decode cL_box 84 = .ok (.aload_n 0, 1) := by decide +kernel
theorem dL_box_85 : decode cL_box 85 = .ok (.bipush 7, 2) := by decide +kernel
theorem dL_box_87 : decode cL_box 87 = .ok (.iaload, 1) := by decide +kernel
theorem dL_box_88 : decode cL_box 88 = .ok (.goto 7, 3) := by decide +kernel
theorem dL_box_91 : decode cL_box 91 = .ok (.aload_n 2, 1) := by decide +kernel
theorem dL_box_92 : decode cL_box 92 = .ok (.bipush 8, 2) := by decide +kernel
theorem dL_box_94 : decode cL_box 94 = .ok (.iaload, 1) := by decide +kernel
theorem dL_box_95 : decode cL_box 95 = .ok (.iastore, 1) := by decide +kernel
theorem dL_box_96 : decode cL_box 96 = .ok (.iconst (-1), 1) := by decide +kernel
theorem dL_box_97 : decode cL_box 97 = .ok (.istore 4, 2) := by decide +kernel
theorem dL_box_99 : decode cL_box 99 = .ok (.bipush 99, 2) := by decide +kernel
theorem dL_box_101 : decode cL_box 101 = .ok (.istore 5, 2) := by decide +kernel
theorem dL_box_103 : decode cL_box 103 = .ok (.iconst 0, 1) := by decide +kernel
theorem dL_box_104 : decode cL_box 104 = .ok (.istore 6, 2) := by decide +kernel
theorem dL_box_106 : decode cL_box 106 = .ok (.iload 6, 2) := by decide +kernel
theorem dL_box_108 : decode cL_box 108 = .ok (.iconst 5, 1) := by decide +kernel
theorem dL_box_109 : decode cL_box 109 = .ok (.if_icmp .ge 135, 3) := by decide +kernel
theorem dL_box_112 : decode cL_box 112 = .ok (.aload_n 2, 1) := by decide +kernel
theorem dL_box_113 : decode cL_box 113 = .ok (.iconst 4, 1) := by decide +kernel
theorem dL_box_114 : decode cL_box 114 = .ok (.iload 6, 2) := by decide +kernel
theorem dL_box_116 : decode cL_box 116 = .ok (.iconst 4, 1) := by decide +kernel
theorem dL_box_117 : decode cL_box 117 = .ok (.if_icmp .ne 8, 3) := by decide +kernel
theorem dL_box_120 : decode cL_box 120 = .ok (.iload 4, 2) := by decide +kernel
theorem dL_box_122 : decode cL_box 122 = .ok (.goto 5, 3) := by decide +kernel
theorem dL_box_125 : decode cL_box 125 = .ok (.iload 6, 2) := by decide +kernel
theorem dL_box_127 : decode cL_box 127 = .ok (.iastore, 1) := by decide +kernel
theorem dL_box_128 : decode cL_box 128 = .ok (.aload_n 2, 1) := by decide +kernel
theorem dL_box_129 : decode cL_box 129 = .ok (.iconst 5, 1) := by decide +kernel
theorem dL_box_130 : decode cL_box 130 = .ok (.aload_n 2, 1) := by decide +kernel
theorem dL_box_131 : decode cL_box 131 = .ok (.iconst 4, 1) := by decide +kernel
theorem dL_box_132 : decode cL_box 132 = .ok (.iaload, 1) := by decide +kernel
theorem dL_box_133 : decode cL_box 133 = .ok (.iconst 2, 1) := by decide +kernel
theorem dL_box_134 : decode cL_box 134 = .ok (.irem, 1) := by decide +kernel
theorem dL_box_135 : decode cL_box 135 = .ok (.iconst 1, 1) := by decide +kernel
theorem dL_box_136 : decode cL_box 136 = .ok (.if_icmp .ne 19, 3) := by decide +kernel
theorem dL_box_139 : decode cL_box 139 = .ok (.aload_n 0, 1) := by decide +kernel
theorem dL_box_140 : decode cL_box 140 = .ok (.iconst 4, 1) := by decide +kernel
theorem dL_box_141 : decode cL_box 141 = .ok (.iaload, 1) := by decide +kernel
theorem dL_box_142 : decode cL_box 142 = .ok (.aload_n 0, 1) := by decide +kernel
theorem dL_box_143 : decode cL_box 143 = .ok (.bipush 6, 2) := by decide +kernel
theorem dL_box_145 : decode cL_box 145 = .ok (.iaload, 1) := by decide +kernel
theorem dL_box_146 : decode cL_box 146 = .ok (.iadd, 1) := by decide +kernel
theorem dL_box_147 : decode cL_box 147 = .ok (.aload_n 2, 1) := by decide +kernel
theorem dL_box_148 : decode cL_box 148 = .ok (.bipush 7, 2) := by decide +kernel
theorem dL_box_150 : decode cL_box 150 = .ok (.iaload, 1) := by decide +kernel
theorem dL_box_151 : decode cL_box 151 = .ok (.isub, 1) := by decide +kernel
theorem dL_box_152 : decode cL_box 152 = .ok (.goto 6, 3) := by decide +kernel
theorem dL_box_155 : decode cL_box 155 = .ok (.aload_n 0, 1) := by decide +kernel
theorem dL_box_156 : decode cL_box 156 = .ok (.iconst 4, 1) := by decide +kernel
theorem dL_box_157 : decode cL_box 157 = .ok (.iaload, 1) := by decide +kernel
theorem dL_box_158 : decode cL_box 158 = .ok (.iastore, 1) := by decide +kernel
theorem dL_box_159 : decode cL_box 159 = .ok (.aload_n 2, 1) := by decide +kernel
theorem dL_box_160 : decode cL_box 160 = .ok (.bipush 6, 2) := by decide +kernel
theorem dL_box_162 : decode cL_box 162 = .ok (.aload_n 2, 1) := by decide +kernel
theorem dL_box_163 : decode cL_box 163 = .ok (.iconst 4, 1) := by decide +kernel
theorem dL_box_164 : decode cL_box 164 = .ok (.iaload, 1) := by decide +kernel
theorem dL_box_165 : decode cL_box 165 = .ok (.iconst 1, 1) := by decide +kernel
theorem dL_box_166 : decode cL_box 166 = .ok (.if_icmp .le 19, 3) := by decide +kernel
theorem dL_box_169 : decode cL_box 169 = .ok (.aload_n 0, 1) := by decide +kernel
theorem dL_box_170 : decode cL_box 170 = .ok (.iconst 5, 1) := by decide +kernel
theorem dL_box_171 : decode cL_box 171 = .ok (.iaload, 1) := by decide +kernel
theorem dL_box_172 : decode cL_box 172 = .ok (.aload_n 0, 1) := by decide +kernel
theorem dL_box_173 : decode cL_box 173 = .ok (.bipush 7, 2) := by decide +kernel
theorem dL_box_175 : decode cL_box 175 = .ok (.iaload, 1) := by decide +kernel
theorem dL_box_176 : decode cL_box 176 = .ok (.iadd, 1) := by decide +kernel
theorem dL_box_177 : decode cL_box 177 = .ok (.aload_n 2, 1) := by decide +kernel
theorem dL_box_178 : decode cL_box 178 = .ok (.bipush 8, 2) := by decide +kernel
theorem dL_box_180 : decode cL_box 180 = .ok (.iaload, 1) := by decide +kernel
theorem dL_box_181 : decode cL_box 181 = .ok (.isub, 1) := by decide +kernel
theorem dL_box_182 : decode cL_box 182 = .ok (.goto 6, 3) := by decide +kernel
theorem dL_box_185 : decode cL_box 185 = .ok (.aload_n 0, 1) := by decide +kernel
theorem dL_box_186 : decode cL_box 186 = .ok (.iconst 5, 1) := by decide +kernel
theorem dL_box_187 : decode cL_box 187 = .ok (.iaload, 1) := by decide +kernel
theorem dL_box_188 : decode cL_box 188 = .ok (.iastore, 1) := by decide +kernel
theorem dL_box_189 : decode cL_box 189 = .ok (.aload_n 0, 1) := by decide +kernel
theorem dL_box_190 : decode cL_box 190 = .ok (.aload_n 1, 1) := by decide +kernel
theorem dL_box_191 : decode cL_box 191 = .ok (.aload_n 2, 1) := by decide +kernel
theorem dL_box_192 : decode cL_box 192 = .ok (.invokestatic 53, 3) := by decide +kernel
theorem dL_box_195 : decode cL_box 195 = .ok (.invokestatic 31, 3) := by decide +kernel
theorem dL_box_198 : decode cL_box 198 = .ok (.istore 7, 2) := by decide +kernel
theorem dL_box_200 : decode cL_box 200 = .ok (.iload 6, 2) := by decide +kernel
theorem dL_box_202 : decode cL_box 202 = .ok (.iconst 4, 1) := by decide +kernel
theorem dL_box_203 : decode cL_box 203 = .ok (.if_icmp .ge 15, 3) := by decide +kernel
theorem dL_box_206 : decode cL_box 206 = .ok (.iload 7, 2) := by decide +kernel
theorem dL_box_208 : decode cL_box 208 = .ok (.iload 5, 2) := by decide +kernel
theorem dL_box_210 : decode cL_box 210 = .ok (.if_icmp .ge 8, 3) := by decide +kernel
theorem dL_box_213 : decode cL_box 213 = .ok (.iload 6, 2) := by decide +kernel
theorem dL_box_215 : decode cL_box 215 = .ok (.goto 5, 3) := by decide +kernel
theorem dL_box_218 : decode cL_box 218 = .ok (.iload 4, 2) := by decide +kernel
theorem dL_box_220 : decode cL_box 220 = .ok (.istore 4, 2) := by decide +kernel
theorem dL_box_222 : decode cL_box 222 = .ok (.iload 7, 2) := by decide +kernel
theorem dL_box_224 : decode cL_box 224 = .ok (.iload 5, 2) := by decide +kernel
theorem dL_box_226 : decode cL_box 226 = .ok (.if_icmp .ge 8, 3) := by decide +kernel
theorem dL_box_229 : decode cL_box 229 = .ok (.iload 7, 2) := by decide +kernel
theorem dL_box_231 : decode cL_box 231 = .ok (.goto 5, 3) := by decide +kernel
theorem dL_box_234 : decode cL_box 234 = .ok (.iload 5, 2) := by decide +kernel
theorem dL_box_236 : decode cL_box 236 = .ok (.istore 5, 2) := by decide +kernel
theorem dL_box_238 : decode cL_box 238 = .ok (.iinc 6 1, 3) := by decide +kernel
theorem dL_box_241 : decode cL_box 241 = .ok (.goto (-135), 3) := by decide +kernel
theorem dL_box_244 : decode cL_box 244 = .ok (.return_, 1) := by decide +kernel
theorem dL_legend_0 : decode cL_legend 0 = .ok (.bipush 64, 2) := by decide +kernel
theorem dL_legend_2 : decode cL_legend 2 = .ok (.newarray .int, 2) := by decide +kernel
theorem dL_legend_4 : decode cL_legend 4 = .ok (.astore 4, 2) := by decide +kernel
theorem dL_legend_6 : decode cL_legend 6 = .ok (.aload_n 3, 1) := by decide +kernel
theorem dL_legend_7 : decode cL_legend 7 = .ok (.iconst 1, 1) := by decide +kernel
theorem dL_legend_8 : decode cL_legend 8 = .ok (.iconst 0, 1) := by decide +kernel
theorem dL_legend_9 : decode cL_legend 9 = .ok (.iastore, 1) := by decide +kernel
theorem dL_legend_10 : decode cL_legend 10 = .ok (.aload_n 3, 1) := by decide +kernel
theorem dL_legend_11 : decode cL_legend 11 = .ok (.iconst 2, 1) := by decide +kernel
theorem dL_legend_12 : decode cL_legend 12 = .ok (.iconst 0, 1) := by decide +kernel
theorem dL_legend_13 : decode cL_legend 13 = .ok (.iastore, 1) := by decide +kernel
theorem dL_legend_14 : decode cL_legend 14 = .ok (.aload_n 3, 1) := by decide +kernel
theorem dL_legend_15 : decode cL_legend 15 = .ok (.iconst 4, 1) := by decide +kernel
theorem dL_legend_16 : decode cL_legend 16 = .ok (.iconst (-1), 1) := by decide +kernel
theorem dL_legend_17 : decode cL_legend 17 = .ok (.iastore, 1) := by decide +kernel
theorem dL_legend_18 : decode cL_legend 18 = .ok (.aload_n 3, 1) := by decide +kernel
theorem dL_legend_19 : decode cL_legend 19 = .ok (.iconst 1, 1) := by decide +kernel
theorem dL_legend_20 : decode cL_legend 20 = .ok (.iaload, 1) := by decide +kernel
theorem dL_legend_21 : decode cL_legend 21 = .ok (.bipush 8, 2) := by decide +kernel
theorem dL_legend_23 : decode cL_legend 23 = .ok (.if_icmp .ge 179, 3) := by decide +kernel
theorem dL_legend_26 : decode cL_legend 26 = .ok (.aload_n 3, 1) := by decide +kernel
theorem dL_legend_27 : decode cL_legend 27 = .ok (.iconst 2, 1) := by decide +kernel
theorem dL_legend_28 : decode cL_legend 28 = .ok (.iaload, 1) := by decide +kernel
theorem dL_legend_29 : decode cL_legend 29 = .ok (.ifCond .ne 173, 3) := by decide +kernel
theorem dL_legend_32 : decode cL_legend 32 = .ok (.iconst 0, 1) := by decide +kernel
theorem dL_legend_33 : decode cL_legend 33 = .ok (.istore 5, 2) := by decide +kernel
theorem dL_legend_35 : decode cL_legend 35 = .ok (.iload 5, 2) := by decide +kernel
theorem dL_legend_37 : decode cL_legend 37 = .ok (.bipush 64, 2) := by decide +kernel
theorem dL_legend_39 : decode cL_legend 39 = .ok (.if_icmp .ge 18, 3) := by decide +kernel
theorem dL_legend_42 : decode cL_legend 42 = .ok (.aload 4, 2) := by decide +kernel
theorem dL_legend_44 : decode cL_legend 44 = .ok (.iload 5, 2) := by decide +kernel
theorem dL_legend_46 : decode cL_legend 46 = .ok (.aload_n 3, 1) := by decide +kernel
theorem dL_legend_47 : decode cL_legend 47 = .ok (.iload 5, 2) := by decide +kernel
theorem dL_legend_49 : decode cL_legend 49 = .ok (.iaload, 1) := by decide +kernel
theorem dL_legend_50 : decode cL_legend 50 = .ok (.iastore, 1) := by decide +kernel
theorem dL_legend_51 : decode cL_legend 51 = .ok (.iinc 5 1, 3) := by decide +kernel
theorem dL_legend_54 : decode cL_legend 54 = .ok (.goto (-19), 3) := by decide +kernel
theorem dL_legend_57 : decode cL_legend 57 = .ok (.aload_n 3, 1) := by decide +kernel
theorem dL_legend_58 : decode cL_legend 58 = .ok (.iconst 3, 1) := by decide +kernel
theorem dL_legend_59 : decode cL_legend 59 = .ok (.aload_n 0, 1) := by decide +kernel
theorem dL_legend_60 : decode cL_legend 60 = .ok (.aload_n 2, 1) := by decide +kernel
theorem dL_legend_61 : decode cL_legend 61 = .ok (.invokestatic 46, 3) := by decide +kernel
theorem dL_legend_64 : decode cL_legend 64 = .ok (.aload_n 0, 1) := by decide +kernel
theorem dL_legend_65 : decode cL_legend 65 = .ok (.aload_n 2, 1) := by decide +kernel
theorem dL_legend_66 : decode cL_legend 66 = .ok (.aload_n 3, 1) := by decide +kernel
theorem dL_legend_67 : decode cL_legend 67 = .ok (.invokestatic 53, 3) := by decide +kernel
theorem dL_legend_70 : decode cL_legend 70 = .ok (.iconst (-1), 1) := by decide +kernel
theorem dL_legend_71 : decode cL_legend 71 = .ok (.ixor, 1) := by decide +kernel
theorem dL_legend_72 : decode cL_legend 72 = .ok (.iand, 1) := by decide +kernel
theorem dL_legend_73 : decode cL_legend 73 = .ok (.iastore, 1) := by decide +kernel
theorem dL_legend_74 : decode cL_legend 74 = .ok (.aload_n 0, 1) := by decide +kernel
theorem dL_legend_75 : decode cL_legend 75 = .ok (.aload_n 1, 1) := by decide +kernel
theorem dL_legend_76 : decode cL_legend 76 = .ok (.aload_n 2, 1) := by decide +kernel
theorem dL_legend_77 : decode cL_legend 77 = .ok (.aload_n 3, 1) := by decide +kernel
theorem dL_legend_78 : decode cL_legend 78 = .ok (.invokestatic 57, 3) := by decide +kernel
theorem dL_legend_81 : decode cL_legend 81 = .ok (.aload_n 0, 1) := by decide +kernel
theorem dL_legend_82 : decode cL_legend 82 = .ok (.aload_n 2, 1) := by decide +kernel
theorem dL_legend_83 : decode cL_legend 83 = .ok (.aload_n 3, 1) := by decide +kernel
theorem dL_legend_84 : decode cL_legend 84 = .ok (.invokestatic 61, 3) := by decide +kernel
theorem dL_legend_87 : decode cL_legend 87 = .ok (.aload_n 3, 1) := by decide +kernel
theorem dL_legend_88 : decode cL_legend 88 = .ok (.iconst 1, 1) := by decide +kernel
theorem dL_legend_89 : decode cL_legend 89 = .ok (.dup2, 1) := by decide +kernel
theorem dL_legend_90 : decode cL_legend 90 = .ok (.iaload, 1) := by decide +kernel
theorem dL_legend_91 : decode cL_legend 91 = .ok (.iconst 1, 1) := by decide +kernel
theorem dL_legend_92 : decode cL_legend 92 = .ok (.iadd, 1) := by decide +kernel
theorem dL_legend_93 : decode cL_legend 93 = .ok (.iastore, 1) := by decide +kernel
theorem dL_legend_94 : decode cL_legend 94 = .ok (.aload_n 3, 1) := by decide +kernel
theorem dL_legend_95 : decode cL_legend 95 = .ok (.iconst 1, 1) := by decide +kernel
theorem dL_legend_96 : decode cL_legend 96 = .ok (.iaload, 1) := by decide +kernel
theorem dL_legend_97 : decode cL_legend 97 = .ok (.iconst 1, 1) := by decide +kernel
theorem dL_legend_98 : decode cL_legend 98 = .ok (.if_icmp .le 17, 3) := by decide +kernel
theorem dL_legend_101 : decode cL_legend 101 = .ok (.aload_n 3, 1) := by decide +kernel
theorem dL_legend_102 : decode cL_legend 102 = .ok (.iconst 0, 1) := by decide +kernel
theorem dL_legend_103 : decode cL_legend 103 = .ok (.iaload, 1) := by decide +kernel
theorem dL_legend_104 : decode cL_legend 104 = .ok (.aload 4, 2) := by decide +kernel
theorem dL_legend_106 : decode cL_legend 106 = .ok (.iconst 0, 1) := by decide +kernel
theorem dL_legend_107 : decode cL_legend 107 = .ok (.iaload, 1) := by decide +kernel
theorem dL_legend_108 : decode cL_legend 108 = .ok (.if_icmp .ne 7, 3) := by decide +kernel
theorem dL_legend_111 : decode cL_legend 111 = .ok (.iconst 1, 1) := by decide +kernel
theorem dL_legend_112 : decode cL_legend 112 = .ok (.goto 4, 3) := by decide +kernel
theorem dL_legend_115 : decode cL_legend 115 = .ok (.iconst 0, 1) := by decide +kernel
theorem dL_legend_116 : decode cL_legend 116 = .ok (.istore 5, 2) := by decide +kernel
theorem dL_legend_118 : decode cL_legend 118 = .ok (.iconst 0, 1) := by decide +kernel
theorem dL_legend_119 : decode cL_legend 119 = .ok (.istore 6, 2) := by decide +kernel
theorem dL_legend_121 : decode cL_legend 121 = .ok (.iload 6, 2) := by decide +kernel
theorem dL_legend_123 : decode cL_legend 123 = .ok (.aload_n 3, 1) := by decide +kernel
theorem dL_legend_124 : decode cL_legend 124 = .ok (.iconst 0, 1) := by decide +kernel
theorem dL_legend_125 : decode cL_legend 125 = .ok (.iaload, 1) := by decide +kernel
theorem dL_legend_126 : decode cL_legend 126 = .ok (.if_icmp .ge 39, 3) := by decide +kernel
theorem dL_legend_129 : decode cL_legend 129 = .ok (.iload 5, 2) := by decide +kernel
theorem dL_legend_131 : decode cL_legend 131 = .ok (.ifCond .eq 25, 3) := by decide +kernel
theorem dL_legend_134 : decode cL_legend 134 = .ok (.aload_n 3, 1) := by decide +kernel
theorem dL_legend_135 : decode cL_legend 135 = .ok (.bipush 10, 2) := by decide +kernel
theorem dL_legend_137 : decode cL_legend 137 = .ok (.iload 6, 2) := by decide +kernel
theorem dL_legend_139 : decode cL_legend 139 = .ok (.iadd, 1) := by decide +kernel
theorem dL_legend_140 : decode cL_legend 140 = .ok (.iaload, 1) := by decide +kernel
theorem dL_legend_141 : decode cL_legend 141 = .ok (.aload 4, 2) := by decide +kernel
theorem dL_legend_143 : decode cL_legend 143 = .ok (.bipush 10, 2) := by decide +kernel
theorem dL_legend_145 : decode cL_legend 145 = .ok (.iload 6, 2) := by decide +kernel
theorem dL_legend_147 : decode cL_legend 147 = .ok (.iadd, 1) := by decide +kernel
theorem dL_legend_148 : decode cL_legend 148 = .ok (.iaload, 1) := by decide +kernel
theorem dL_legend_149 : decode cL_legend 149 = .ok (.if_icmp .ne 7, 3) := by decide +kernel
theorem dL_legend_152 : decode cL_legend 152 = .ok (.iconst 1, 1) := by decide +kernel
theorem dL_legend_153 : decode cL_legend 153 = .ok (.goto 4, 3) := by decide +kernel
theorem dL_legend_156 : decode cL_legend 156 = .ok (.iconst 0, 1) := by decide +kernel
theorem dL_legend_157 : decode cL_legend 157 = .ok (.istore 5, 2) := by decide +kernel
theorem dL_legend_159 : decode cL_legend 159 = .ok (.iinc 6 1, 3) := by decide +kernel
theorem dL_legend_162 : decode cL_legend 162 = .ok (.goto (-41), 3) := by decide +kernel
theorem dL_legend_165 : decode cL_legend 165 = .ok (.aload_n 3, 1) := by decide +kernel
theorem dL_legend_166 : decode cL_legend 166 = .ok (.iconst 2, 1) := by decide +kernel
theorem dL_legend_167 : decode cL_legend 167 = .ok (.iload 5, 2) := by decide +kernel
theorem dL_legend_169 : decode cL_legend 169 = .ok (.ifCond .eq 7, 3) := by decide +kernel
theorem dL_legend_172 : decode cL_legend 172 = .ok (.iconst 1, 1) := by decide +kernel
theorem dL_legend_173 : decode cL_legend 173 = .ok (.goto 4, 3) := by decide +kernel
theorem dL_legend_176 : decode cL_legend 176 = .ok (.iconst 0, 1) := by decide +kernel
theorem dL_legend_177 : decode cL_legend 177 = .ok (.iastore, 1) := by decide +kernel
theorem dL_legend_178 : decode cL_legend 178 = .ok (.aload_n 3, 1) := by decide +kernel
theorem dL_legend_179 : decode cL_legend 179 = .ok (.bipush 9, 2) := by decide +kernel
theorem dL_legend_181 : decode cL_legend 181 = .ok (.aload_n 3, 1) := by decide +kernel
theorem dL_legend_182 : decode cL_legend 182 = .ok (.iconst 1, 1) := by decide +kernel
theorem dL_legend_183 : decode cL_legend 183 = .ok (.iaload, 1) := by decide +kernel
theorem dL_legend_184 : decode cL_legend 184 = .ok (.iconst 1, 1) := by decide +kernel
theorem dL_legend_185 : decode cL_legend 185 = .ok (.if_icmp .ne 9, 3) := by decide +kernel
theorem dL_legend_188 : decode cL_legend 188 = .ok (.aload_n 3, 1) := by decide +kernel
theorem dL_legend_189 : decode cL_legend 189 = .ok (.iconst 0, 1) := by decide +kernel
theorem dL_legend_190 : decode cL_legend 190 = .ok (.iaload, 1) := by decide +kernel
theorem dL_legend_191 : decode cL_legend 191 = .ok (.goto 7, 3) := by decide +kernel
theorem dL_legend_194 : decode cL_legend 194 = .ok (.aload_n 3, 1) := by decide +kernel
theorem dL_legend_195 : decode cL_legend 195 = .ok (.bipush 9, 2) := by decide +kernel
theorem dL_legend_197 : decode cL_legend 197 = .ok (.iaload, 1) := by decide +kernel
theorem dL_legend_198 : decode cL_legend 198 = .ok (.iastore, 1) := by decide +kernel
theorem dL_legend_199 : decode cL_legend 199 = .ok (.goto (-181), 3) := by decide +kernel
theorem dL_legend_202 : decode cL_legend 202 = .ok (.return_, 1) := by decide +kernel
theorem dL_closes_0 : decode cL_closes 0 = .ok (.iconst 5, 1) := by decide +kernel
theorem dL_closes_1 : decode cL_closes 1 = .ok (.iload_n 1, 1) := by decide +kernel
theorem dL_closes_2 : decode cL_closes 2 = .ok (.imul, 1) := by decide +kernel
theorem dL_closes_3 : decode cL_closes 3 = .ok (.istore_n 2, 1) := by decide +kernel
theorem dL_closes_4 : decode cL_closes 4 = .ok (.iload_n 2, 1) := by decide +kernel
theorem dL_closes_5 : decode cL_closes 5 = .ok (.bipush 55, 2) := by decide +kernel
theorem dL_closes_7 : decode cL_closes 7 = .ok (.if_icmp .ge 17, 3) := by decide +kernel
theorem dL_closes_10 : decode cL_closes 10 = .ok (.aload_n 0, 1) := by decide +kernel
theorem dL_closes_11 : decode cL_closes 11 = .ok (.iload_n 2, 1) := by decide +kernel
theorem dL_closes_12 : decode cL_closes 12 = .ok (.aload_n 0, 1) := by decide +kernel
theorem dL_closes_13 : decode cL_closes 13 = .ok (.iload_n 2, 1) := by decide +kernel
theorem dL_closes_14 : decode cL_closes 14 = .ok (.iconst 5, 1) := by decide +kernel
theorem dL_closes_15 : decode cL_closes 15 = .ok (.iadd, 1) := by decide +kernel
theorem dL_closes_16 : decode cL_closes 16 = .ok (.iaload, 1) := by decide +kernel
theorem dL_closes_17 : decode cL_closes 17 = .ok (.iastore, 1) := by decide +kernel
theorem dL_closes_18 : decode cL_closes 18 = .ok (.iinc 2 1, 3) := by decide +kernel
theorem dL_closes_21 : decode cL_closes 21 = .ok (.goto (-17), 3) := by decide +kernel
theorem dL_closes_24 : decode cL_closes 24 = .ok (.return_, 1) := by decide +kernel
theorem dL_begins_0 : decode cL_begins 0 = .ok (.aload_n 0, 1) := by decide +kernel
theorem dL_begins_1 : decode cL_begins 1 = .ok (.iconst 0, 1) := by decide +kernel
theorem dL_begins_2 : decode cL_begins 2 = .ok (.iconst 3, 1) := by decide +kernel
theorem dL_begins_3 : decode cL_begins 3 = .ok (.iastore, 1) := by decide +kernel
theorem dL_begins_4 : decode cL_begins 4 = .ok (.aload_n 0, 1) := by decide +kernel
theorem dL_begins_5 : decode cL_begins 5 = .ok (.iconst 1, 1) := by decide +kernel
theorem dL_begins_6 : decode cL_begins 6 = .ok (.iconst 1, 1) := by decide +kernel
theorem dL_begins_7 : decode cL_begins 7 = .ok (.iastore, 1) := by decide +kernel
theorem dL_begins_8 : decode cL_begins 8 = .ok (.aload_n 0, 1) := by decide +kernel
theorem dL_begins_9 : decode cL_begins 9 = .ok (.iconst 2, 1) := by decide +kernel
theorem dL_begins_10 : decode cL_begins 10 = .ok (.bipush 20, 2) := by decide +kernel
theorem dL_begins_12 : decode cL_begins 12 = .ok (.iastore, 1) := by decide +kernel
theorem dL_begins_13 : decode cL_begins 13 = .ok (.aload_n 0, 1) := by decide +kernel
theorem dL_begins_14 : decode cL_begins 14 = .ok (.iconst 3, 1) := by decide +kernel
theorem dL_begins_15 : decode cL_begins 15 = .ok (.iconst 5, 1) := by decide +kernel
theorem dL_begins_16 : decode cL_begins 16 = .ok (.iastore, 1) := by decide +kernel
theorem dL_begins_17 : decode cL_begins 17 = .ok (.aload_n 0, 1) := by decide +kernel
theorem dL_begins_18 : decode cL_begins 18 = .ok (.bipush 6, 2) := by decide +kernel
theorem dL_begins_20 : decode cL_begins 20 = .ok (.bipush 100, 2) := by decide +kernel
theorem dL_begins_22 : decode cL_begins 22 = .ok (.iastore, 1) := by decide +kernel
theorem dL_begins_23 : decode cL_begins 23 = .ok (.aload_n 0, 1) := by decide +kernel
theorem dL_begins_24 : decode cL_begins 24 = .ok (.bipush 7, 2) := by decide +kernel
theorem dL_begins_26 : decode cL_begins 26 = .ok (.bipush 100, 2) := by decide +kernel
theorem dL_begins_28 : decode cL_begins 28 = .ok (.iastore, 1) := by decide +kernel
theorem dL_begins_29 : decode cL_begins 29 = .ok (.aload_n 0, 1) := by decide +kernel
theorem dL_begins_30 : decode cL_begins 30 = .ok (.bipush 8, 2) := by decide +kernel
theorem dL_begins_32 : decode cL_begins 32 = .ok (.iconst 5, 1) := by decide +kernel
theorem dL_begins_33 : decode cL_begins 33 = .ok (.iastore, 1) := by decide +kernel
theorem dL_begins_34 : decode cL_begins 34 = .ok (.iconst 0, 1) := by decide +kernel
theorem dL_begins_35 : decode cL_begins 35 = .ok (.istore_n 2, 1) := by decide +kernel
theorem dL_begins_36 : decode cL_begins 36 = .ok (.iload_n 2, 1) := by decide +kernel
theorem dL_begins_37 : decode cL_begins 37 = .ok (.iconst 4, 1) := by decide +kernel
theorem dL_begins_38 : decode cL_begins 38 = .ok (.if_icmp .ge 25, 3) := by decide +kernel
theorem dL_begins_41 : decode cL_begins 41 = .ok (.aload_n 1, 1) := by decide +kernel
theorem dL_begins_42 : decode cL_begins 42 = .ok (.bipush 8, 2) := by decide +kernel
theorem dL_begins_44 : decode cL_begins 44 = .ok (.iload_n 2, 1) := by decide +kernel
theorem dL_begins_45 : decode cL_begins 45 = .ok (.imul, 1) := by decide +kernel
theorem dL_begins_46 : decode cL_begins 46 = .ok (.iload_n 2, 1) := by decide +kernel
theorem dL_begins_47 : decode cL_begins 47 = .ok (.iastore, 1) := by decide +kernel
theorem dL_begins_48 : decode cL_begins 48 = .ok (.aload_n 1, 1) := by decide +kernel
theorem dL_begins_49 : decode cL_begins 49 = .ok (.bipush 8, 2) := by decide +kernel
theorem dL_begins_51 : decode cL_begins 51 = .ok (.iload_n 2, 1) := by decide +kernel
theorem dL_begins_52 : decode cL_begins 52 = .ok (.imul, 1) := by decide +kernel
theorem dL_begins_53 : decode cL_begins 53 = .ok (.iconst 1, 1) := by decide +kernel
theorem dL_begins_54 : decode cL_begins 54 = .ok (.iadd, 1) := by decide +kernel
theorem dL_begins_55 : decode cL_begins 55 = .ok (.iconst (-1), 1) := by decide +kernel
theorem dL_begins_56 : decode cL_begins 56 = .ok (.iastore, 1) := by decide +kernel
theorem dL_begins_57 : decode cL_begins 57 = .ok (.iinc 2 1, 3) := by decide +kernel
theorem dL_begins_60 : decode cL_begins 60 = .ok (.goto (-24), 3) := by decide +kernel
theorem dL_begins_63 : decode cL_begins 63 = .ok (.return_, 1) := by decide +kernel
theorem dL_adds_0 : decode cL_adds 0 = .ok (.aload_n 0, 1) := by decide +kernel
theorem dL_adds_1 : decode cL_adds 1 = .ok (.iload_n 1, 1) := by decide +kernel
theorem dL_adds_2 : decode cL_adds 2 = .ok (.iload_n 2, 1) := by decide +kernel
theorem dL_adds_3 : decode cL_adds 3 = .ok (.iload_n 3, 1) := by decide +kernel
theorem dL_adds_4 : decode cL_adds 4 = .ok (.iload 4, 2) := by decide +kernel
theorem dL_adds_6 : decode cL_adds 6 = .ok (.iload 5, 2) := by decide +kernel
theorem dL_adds_8 : decode cL_adds 8 = .ok (.invokevirtual 105, 3) := by decide +kernel
theorem dL_adds_11 : decode cL_adds 11 = .ok (.ireturn, 1) := by decide +kernel
theorem dL_adds_12 : decode cL_adds 12 = .ok (.astore 6, 2) := by decide +kernel
theorem dL_adds_14 : decode cL_adds 14 = .ok (.ldc 93, 2) := by decide +kernel
theorem dL_adds_16 : decode cL_adds 16 = .ok (.ireturn, 1) := by decide +kernel
theorem dL_adds_17 : decode cL_adds 17 = .ok (.astore 6, 2) := by decide +kernel
theorem dL_adds_19 : decode cL_adds 19 = .ok (.ldc 104, 2) := by decide +kernel
theorem dL_adds_21 : decode cL_adds 21 = .ok (.ireturn, 1) := by decide +kernel
theorem dL_adds_22 : decode cL_adds 22 = .ok (.astore 6, 2) := by decide +kernel
theorem dL_adds_24 : decode cL_adds 24 = .ok (.ldc 88, 2) := by decide +kernel
theorem dL_adds_26 : decode cL_adds 26 = .ok (.ireturn, 1) := by decide +kernel
theorem dL_drops_0 : decode cL_drops 0 = .ok (.aload_n 0, 1) := by decide +kernel
theorem dL_drops_1 : decode cL_drops 1 = .ok (.iload_n 1, 1) := by decide +kernel
theorem dL_drops_2 : decode cL_drops 2 = .ok (.invokevirtual 116, 3) := by decide +kernel
theorem dL_drops_5 : decode cL_drops 5 = .ok (.ireturn, 1) := by decide +kernel
theorem dL_drops_6 : decode cL_drops 6 = .ok (.astore_n 2, 1) := by decide +kernel
theorem dL_drops_7 : decode cL_drops 7 = .ok (.ldc 93, 2) := by decide +kernel
theorem dL_drops_9 : decode cL_drops 9 = .ok (.ireturn, 1) := by decide +kernel
theorem dL_moves_0 : decode cL_moves 0 = .ok (.aload_n 0, 1) := by decide +kernel
theorem dL_moves_1 : decode cL_moves 1 = .ok (.iload_n 1, 1) := by decide +kernel
theorem dL_moves_2 : decode cL_moves 2 = .ok (.iload_n 2, 1) := by decide +kernel
theorem dL_moves_3 : decode cL_moves 3 = .ok (.iload_n 3, 1) := by decide +kernel
theorem dL_moves_4 : decode cL_moves 4 = .ok (.invokevirtual 119, 3) := by decide +kernel
theorem dL_moves_7 : decode cL_moves 7 = .ok (.ireturn, 1) := by decide +kernel
theorem dL_moves_8 : decode cL_moves 8 = .ok (.astore 4, 2) := by decide +kernel
theorem dL_moves_10 : decode cL_moves 10 = .ok (.ldc 93, 2) := by decide +kernel
theorem dL_moves_12 : decode cL_moves 12 = .ok (.ireturn, 1) := by decide +kernel
theorem dL_moves_13 : decode cL_moves 13 = .ok (.astore 4, 2) := by decide +kernel
theorem dL_moves_15 : decode cL_moves 15 = .ok (.ldc 104, 2) := by decide +kernel
theorem dL_moves_17 : decode cL_moves 17 = .ok (.ireturn, 1) := by decide +kernel
theorem dL_windows_0 : decode cL_windows 0 = .ok (.aload_n 0, 1) := by decide +kernel
theorem dL_windows_1 : decode cL_windows 1 = .ok (.iload_n 1, 1) := by decide +kernel
theorem dL_windows_2 : decode cL_windows 2 = .ok (.iload_n 2, 1) := by decide +kernel
theorem dL_windows_3 : decode cL_windows 3 = .ok (.iload_n 3, 1) := by decide +kernel
theorem dL_windows_4 : decode cL_windows 4 = .ok (.iload 4, 2) := by decide +kernel
theorem dL_windows_6 : decode cL_windows 6 = .ok (.iload 5, 2) := by decide +kernel
theorem dL_windows_8 : decode cL_windows 8 = .ok (.invokevirtual 123, 3) := by decide +kernel
theorem dL_windows_11 : decode cL_windows 11 = .ok (.ireturn, 1) := by decide +kernel
theorem dL_windows_12 : decode cL_windows 12 = .ok (.astore 6, 2) := by decide +kernel
theorem dL_windows_14 : decode cL_windows 14 = .ok (.ldc 104, 2) := by decide +kernel
theorem dL_windows_16 : decode cL_windows 16 = .ok (.ireturn, 1) := by decide +kernel
theorem dL_sets_0 : decode cL_sets 0 = .ok (.aload_n 0, 1) := by decide +kernel
theorem dL_sets_1 : decode cL_sets 1 = .ok (.iload_n 1, 1) := by decide +kernel
theorem dL_sets_2 : decode cL_sets 2 = .ok (.iload_n 2, 1) := by decide +kernel
theorem dL_sets_3 : decode cL_sets 3 = .ok (.invokevirtual 126, 3) := by decide +kernel
theorem dL_sets_6 : decode cL_sets 6 = .ok (.ireturn, 1) := by decide +kernel
theorem dL_sets_7 : decode cL_sets 7 = .ok (.astore_n 3, 1) := by decide +kernel
theorem dL_sets_8 : decode cL_sets 8 = .ok (.ldc 104, 2) := by decide +kernel
theorem dL_sets_10 : decode cL_sets 10 = .ok (.ireturn, 1) := by decide +kernel
theorem dL_kinds_0 : decode cL_kinds 0 = .ok (.aload_n 0, 1) := by decide +kernel
theorem dL_kinds_1 : decode cL_kinds 1 = .ok (.iload_n 1, 1) := by decide +kernel
theorem dL_kinds_2 : decode cL_kinds 2 = .ok (.iload_n 2, 1) := by decide +kernel
theorem dL_kinds_3 : decode cL_kinds 3 = .ok (.iload_n 3, 1) := by decide +kernel
theorem dL_kinds_4 : decode cL_kinds 4 = .ok (.invokevirtual 129, 3) := by decide +kernel
theorem dL_kinds_7 : decode cL_kinds 7 = .ok (.ireturn, 1) := by decide +kernel
theorem dL_kinds_8 : decode cL_kinds 8 = .ok (.astore 4, 2) := by decide +kernel
theorem dL_kinds_10 : decode cL_kinds 10 = .ok (.ldc 93, 2) := by decide +kernel
theorem dL_kinds_12 : decode cL_kinds 12 = .ok (.ireturn, 1) := by decide +kernel
theorem dL_kinds_13 : decode cL_kinds 13 = .ok (.astore 4, 2) := by decide +kernel
theorem dL_kinds_15 : decode cL_kinds 15 = .ok (.ldc 104, 2) := by decide +kernel
theorem dL_kinds_17 : decode cL_kinds 17 = .ok (.ireturn, 1) := by decide +kernel
theorem dL_ways_0 : decode cL_ways 0 = .ok (.aload_n 0, 1) := by decide +kernel
theorem dL_ways_1 : decode cL_ways 1 = .ok (.iload_n 1, 1) := by decide +kernel
theorem dL_ways_2 : decode cL_ways 2 = .ok (.iload_n 2, 1) := by decide +kernel
theorem dL_ways_3 : decode cL_ways 3 = .ok (.invokevirtual 132, 3) := by decide +kernel
theorem dL_ways_6 : decode cL_ways 6 = .ok (.ireturn, 1) := by decide +kernel
theorem dL_ways_7 : decode cL_ways 7 = .ok (.astore_n 3, 1) := by decide +kernel
theorem dL_ways_8 : decode cL_ways 8 = .ok (.ldc 93, 2) := by decide +kernel
theorem dL_ways_10 : decode cL_ways 10 = .ok (.ireturn, 1) := by decide +kernel
theorem dL_ways_11 : decode cL_ways 11 = .ok (.astore_n 3, 1) := by decide +kernel
theorem dL_ways_12 : decode cL_ways 12 = .ok (.ldc 104, 2) := by decide +kernel
theorem dL_ways_14 : decode cL_ways 14 = .ok (.ireturn, 1) := by decide +kernel
theorem dL_limits_0 : decode cL_limits 0 = .ok (.aload_n 0, 1) := by decide +kernel
theorem dL_limits_1 : decode cL_limits 1 = .ok (.iload_n 1, 1) := by decide +kernel
theorem dL_limits_2 : decode cL_limits 2 = .ok (.iload_n 2, 1) := by decide +kernel
theorem dL_limits_3 : decode cL_limits 3 = .ok (.invokevirtual 135, 3) := by decide +kernel
theorem dL_limits_6 : decode cL_limits 6 = .ok (.ireturn, 1) := by decide +kernel
theorem dL_limits_7 : decode cL_limits 7 = .ok (.astore_n 3, 1) := by decide +kernel
theorem dL_limits_8 : decode cL_limits 8 = .ok (.ldc 93, 2) := by decide +kernel
theorem dL_limits_10 : decode cL_limits 10 = .ok (.ireturn, 1) := by decide +kernel
theorem dL_limits_11 : decode cL_limits 11 = .ok (.astore_n 3, 1) := by decide +kernel
theorem dL_limits_12 : decode cL_limits 12 = .ok (.ldc 104, 2) := by decide +kernel
theorem dL_limits_14 : decode cL_limits 14 = .ok (.ireturn, 1) := by decide +kernel
theorem dL_limits_15 : decode cL_limits 15 = .ok (.astore_n 3, 1) := by decide +kernel
theorem dL_limits_16 : decode cL_limits 16 = .ok (.ldc 88, 2) := by decide +kernel
theorem dL_limits_18 : decode cL_limits 18 = .ok (.ireturn, 1) := by decide +kernel
theorem dL_valueOf_0 : decode cL_valueOf 0 = .ok (.aload_n 0, 1) := by decide +kernel
theorem dL_valueOf_1 : decode cL_valueOf 1 = .ok (.iload_n 1, 1) := by decide +kernel
theorem dL_valueOf_2 : decode cL_valueOf 2 = .ok (.invokevirtual 138, 3) := by decide +kernel
theorem dL_valueOf_5 : decode cL_valueOf 5 = .ok (.ireturn, 1) := by decide +kernel
theorem dL_valueOf_6 : decode cL_valueOf 6 = .ok (.astore_n 2, 1) := by decide +kernel
theorem dL_valueOf_7 : decode cL_valueOf 7 = .ok (.ldc 104, 2) := by decide +kernel
theorem dL_valueOf_9 : decode cL_valueOf 9 = .ok (.ireturn, 1) := by decide +kernel
theorem dL_signOf_0 : decode cL_signOf 0 = .ok (.aload_n 0, 1) := by decide +kernel
theorem dL_signOf_1 : decode cL_signOf 1 = .ok (.iload_n 1, 1) := by decide +kernel
theorem dL_signOf_2 : decode cL_signOf 2 = .ok (.iload_n 2, 1) := by decide +kernel
theorem dL_signOf_3 : decode cL_signOf 3 = .ok (.invokevirtual 141, 3) := by decide +kernel
theorem dL_signOf_6 : decode cL_signOf 6 = .ok (.ireturn, 1) := by decide +kernel
theorem dL_signOf_7 : decode cL_signOf 7 = .ok (.astore_n 3, 1) := by decide +kernel
theorem dL_signOf_8 : decode cL_signOf 8 = .ok (.ldc 93, 2) := by decide +kernel
theorem dL_signOf_10 : decode cL_signOf 10 = .ok (.ireturn, 1) := by decide +kernel
theorem dL_signOf_11 : decode cL_signOf 11 = .ok (.astore_n 3, 1) := by decide +kernel
theorem dL_signOf_12 : decode cL_signOf 12 = .ok (.ldc 104, 2) := by decide +kernel
theorem dL_signOf_14 : decode cL_signOf 14 = .ok (.ireturn, 1) := by decide +kernel
theorem dL_kindOf_0 : decode cL_kindOf 0 = .ok (.aload_n 0, 1) := by decide +kernel
theorem dL_kindOf_1 : decode cL_kindOf 1 = .ok (.iload_n 1, 1) := by decide +kernel
theorem dL_kindOf_2 : decode cL_kindOf 2 = .ok (.iload_n 2, 1) := by decide +kernel
theorem dL_kindOf_3 : decode cL_kindOf 3 = .ok (.invokevirtual 144, 3) := by decide +kernel
theorem dL_kindOf_6 : decode cL_kindOf 6 = .ok (.ireturn, 1) := by decide +kernel
theorem dL_kindOf_7 : decode cL_kindOf 7 = .ok (.astore_n 3, 1) := by decide +kernel
theorem dL_kindOf_8 : decode cL_kindOf 8 = .ok (.ldc 93, 2) := by decide +kernel
theorem dL_kindOf_10 : decode cL_kindOf 10 = .ok (.ireturn, 1) := by decide +kernel
theorem dL_kindOf_11 : decode cL_kindOf 11 = .ok (.astore_n 3, 1) := by decide +kernel
theorem dL_kindOf_12 : decode cL_kindOf 12 = .ok (.ldc 104, 2) := by decide +kernel
theorem dL_kindOf_14 : decode cL_kindOf 14 = .ok (.ireturn, 1) := by decide +kernel
theorem dL_lineOf_0 : decode cL_lineOf 0 = .ok (.aload_n 0, 1) := by decide +kernel
theorem dL_lineOf_1 : decode cL_lineOf 1 = .ok (.iload_n 1, 1) := by decide +kernel
theorem dL_lineOf_2 : decode cL_lineOf 2 = .ok (.iload_n 2, 1) := by decide +kernel
theorem dL_lineOf_3 : decode cL_lineOf 3 = .ok (.invokevirtual 147, 3) := by decide +kernel
theorem dL_lineOf_6 : decode cL_lineOf 6 = .ok (.ireturn, 1) := by decide +kernel
theorem dL_lineOf_7 : decode cL_lineOf 7 = .ok (.astore_n 3, 1) := by decide +kernel
theorem dL_lineOf_8 : decode cL_lineOf 8 = .ok (.ldc 93, 2) := by decide +kernel
theorem dL_lineOf_10 : decode cL_lineOf 10 = .ok (.ireturn, 1) := by decide +kernel
theorem dL_lineOf_11 : decode cL_lineOf 11 = .ok (.astore_n 3, 1) := by decide +kernel
theorem dL_lineOf_12 : decode cL_lineOf 12 = .ok (.ldc 104, 2) := by decide +kernel
theorem dL_lineOf_14 : decode cL_lineOf 14 = .ok (.ireturn, 1) := by decide +kernel
theorem dL_boxOf_0 : decode cL_boxOf 0 = .ok (.aload_n 0, 1) := by decide +kernel
theorem dL_boxOf_1 : decode cL_boxOf 1 = .ok (.iload_n 1, 1) := by decide +kernel
theorem dL_boxOf_2 : decode cL_boxOf 2 = .ok (.invokevirtual 150, 3) := by decide +kernel
theorem dL_boxOf_5 : decode cL_boxOf 5 = .ok (.ireturn, 1) := by decide +kernel
theorem dL_boxOf_6 : decode cL_boxOf 6 = .ok (.astore_n 2, 1) := by decide +kernel
theorem dL_boxOf_7 : decode cL_boxOf 7 = .ok (.ldc 104, 2) := by decide +kernel
theorem dL_boxOf_9 : decode cL_boxOf 9 = .ok (.ireturn, 1) := by decide +kernel
theorem dL_roundsOf_0 : decode cL_roundsOf 0 = .ok (.aload_n 0, 1) := by decide +kernel
theorem dL_roundsOf_1 : decode cL_roundsOf 1 = .ok (.iload_n 1, 1) := by decide +kernel
theorem dL_roundsOf_2 : decode cL_roundsOf 2 = .ok (.invokevirtual 152, 3) := by decide +kernel
theorem dL_roundsOf_5 : decode cL_roundsOf 5 = .ok (.ireturn, 1) := by decide +kernel
theorem dL_roundsOf_6 : decode cL_roundsOf 6 = .ok (.astore_n 2, 1) := by decide +kernel
theorem dL_roundsOf_7 : decode cL_roundsOf 7 = .ok (.ldc 104, 2) := by decide +kernel
theorem dL_roundsOf_9 : decode cL_roundsOf 9 = .ok (.ireturn, 1) := by decide +kernel
theorem dL_stands_0 : decode cL_stands 0 = .ok (.aload_n 2, 1) := by decide +kernel
theorem dL_stands_1 : decode cL_stands 1 = .ok (.bipush 10, 2) := by decide +kernel
theorem dL_stands_3 : decode cL_stands 3 = .ok (.iload_n 3, 1) := by decide +kernel
theorem dL_stands_4 : decode cL_stands 4 = .ok (.iadd, 1) := by decide +kernel
theorem dL_stands_5 : decode cL_stands 5 = .ok (.iaload, 1) := by decide +kernel
theorem dL_stands_6 : decode cL_stands 6 = .ok (.istore 5, 2) := by decide +kernel
theorem dL_stands_8 : decode cL_stands 8 = .ok (.iload 5, 2) := by decide +kernel
theorem dL_stands_10 : decode cL_stands 10 = .ok (.sipush 20000, 3) := by decide +kernel
theorem dL_stands_13 : decode cL_stands 13 = .ok (.idiv, 1) := by decide +kernel
theorem dL_stands_14 : decode cL_stands 14 = .ok (.istore 6, 2) := by decide +kernel
theorem dL_stands_16 : decode cL_stands 16 = .ok (.iload 5, 2) := by decide +kernel
theorem dL_stands_18 : decode cL_stands 18 = .ok (.bipush 100, 2) := by decide +kernel
theorem dL_stands_20 : decode cL_stands 20 = .ok (.idiv, 1) := by decide +kernel
theorem dL_stands_21 : decode cL_stands 21 = .ok (.bipush 10, 2) := by decide +kernel
theorem dL_stands_23 : decode cL_stands 23 = .ok (.irem, 1) := by decide +kernel
theorem dL_stands_24 : decode cL_stands 24 = .ok (.iconst 1, 1) := by decide +kernel
theorem dL_stands_25 : decode cL_stands 25 = .ok (.isub, 1) := by decide +kernel
theorem dL_stands_26 : decode cL_stands 26 = .ok (.istore 7, 2) := by decide +kernel
theorem dL_stands_28 : decode cL_stands 28 = .ok (.aload_n 0, 1) := by decide +kernel
theorem dL_stands_29 : decode cL_stands 29 = .ok (.aload_n 1, 1) := by decide +kernel
theorem dL_stands_30 : decode cL_stands 30 = .ok (.iload 4, 2) := by decide +kernel
theorem dL_stands_32 : decode cL_stands 32 = .ok (.invokestatic 19, 3) := by decide +kernel
theorem dL_stands_35 : decode cL_stands 35 = .ok (.istore 8, 2) := by decide +kernel
theorem dL_stands_37 : decode cL_stands 37 = .ok (.iload 6, 2) := by decide +kernel
theorem dL_stands_39 : decode cL_stands 39 = .ok (.iconst 2, 1) := by decide +kernel
theorem dL_stands_40 : decode cL_stands 40 = .ok (.if_icmp .ne 29, 3) := by decide +kernel
theorem dL_stands_43 : decode cL_stands 43 = .ok (.aload_n 0, 1) := by decide +kernel
theorem dL_stands_44 : decode cL_stands 44 = .ok (.bipush 8, 2) := by decide +kernel
theorem dL_stands_46 : decode cL_stands 46 = .ok (.aload_n 1, 1) := by decide +kernel
theorem dL_stands_47 : decode cL_stands 47 = .ok (.iconst 5, 1) := by decide +kernel
theorem dL_stands_48 : decode cL_stands 48 = .ok (.iload 4, 2) := by decide +kernel
theorem dL_stands_50 : decode cL_stands 50 = .ok (.imul, 1) := by decide +kernel
theorem dL_stands_51 : decode cL_stands 51 = .ok (.iaload, 1) := by decide +kernel
theorem dL_stands_52 : decode cL_stands 52 = .ok (.imul, 1) := by decide +kernel
theorem dL_stands_53 : decode cL_stands 53 = .ok (.iconst 1, 1) := by decide +kernel
theorem dL_stands_54 : decode cL_stands 54 = .ok (.iadd, 1) := by decide +kernel
theorem dL_stands_55 : decode cL_stands 55 = .ok (.iaload, 1) := by decide +kernel
theorem dL_stands_56 : decode cL_stands 56 = .ok (.iload 7, 2) := by decide +kernel
theorem dL_stands_58 : decode cL_stands 58 = .ok (.if_icmp .ne 7, 3) := by decide +kernel
theorem dL_stands_61 : decode cL_stands 61 = .ok (.iconst 1, 1) := by decide +kernel
theorem dL_stands_62 : decode cL_stands 62 = .ok (.goto 64, 3) := by decide +kernel
theorem dL_stands_65 : decode cL_stands 65 = .ok (.iconst 0, 1) := by decide +kernel
theorem dL_stands_66 : decode cL_stands 66 = .ok (.goto 60, 3) := by decide +kernel
theorem dL_stands_69 : decode cL_stands 69 = .ok (.iload 6, 2) := by decide +kernel
theorem dL_stands_71 : decode cL_stands 71 = .ok (.ifCond .ne 54, 3) := by decide +kernel
theorem dL_stands_74 : decode cL_stands 74 = .ok (.iload 5, 2) := by decide +kernel
theorem dL_stands_76 : decode cL_stands 76 = .ok (.sipush 1000, 3) := by decide +kernel
theorem dL_stands_79 : decode cL_stands 79 = .ok (.idiv, 1) := by decide +kernel
theorem dL_stands_80 : decode cL_stands 80 = .ok (.bipush 20, 2) := by decide +kernel
theorem dL_stands_82 : decode cL_stands 82 = .ok (.irem, 1) := by decide +kernel
theorem dL_stands_83 : decode cL_stands 83 = .ok (.iconst 1, 1) := by decide +kernel
theorem dL_stands_84 : decode cL_stands 84 = .ok (.isub, 1) := by decide +kernel
theorem dL_stands_85 : decode cL_stands 85 = .ok (.aload_n 1, 1) := by decide +kernel
theorem dL_stands_86 : decode cL_stands 86 = .ok (.iconst 5, 1) := by decide +kernel
theorem dL_stands_87 : decode cL_stands 87 = .ok (.iload 4, 2) := by decide +kernel
theorem dL_stands_89 : decode cL_stands 89 = .ok (.imul, 1) := by decide +kernel
theorem dL_stands_90 : decode cL_stands 90 = .ok (.iaload, 1) := by decide +kernel
theorem dL_stands_91 : decode cL_stands 91 = .ok (.if_icmp .ne 34, 3) := by decide +kernel
theorem dL_stands_94 : decode cL_stands 94 = .ok (.iload 8, 2) := by decide +kernel
theorem dL_stands_96 : decode cL_stands 96 = .ok (.iload 5, 2) := by decide +kernel
theorem dL_stands_98 : decode cL_stands 98 = .ok (.bipush 10, 2) := by decide +kernel
theorem dL_stands_100 : decode cL_stands 100 = .ok (.idiv, 1) := by decide +kernel
theorem dL_stands_101 : decode cL_stands 101 = .ok (.bipush 10, 2) := by decide +kernel
theorem dL_stands_103 : decode cL_stands 103 = .ok (.irem, 1) := by decide +kernel
theorem dL_stands_104 : decode cL_stands 104 = .ok (.iconst 1, 1) := by decide +kernel
theorem dL_stands_105 : decode cL_stands 105 = .ok (.isub, 1) := by decide +kernel
theorem dL_stands_106 : decode cL_stands 106 = .ok (.if_icmp .lt 19, 3) := by decide +kernel
theorem dL_stands_109 : decode cL_stands 109 = .ok (.iload 8, 2) := by decide +kernel
theorem dL_stands_111 : decode cL_stands 111 = .ok (.iload 5, 2) := by decide +kernel
theorem dL_stands_113 : decode cL_stands 113 = .ok (.bipush 10, 2) := by decide +kernel
theorem dL_stands_115 : decode cL_stands 115 = .ok (.irem, 1) := by decide +kernel
theorem dL_stands_116 : decode cL_stands 116 = .ok (.iconst 1, 1) := by decide +kernel
theorem dL_stands_117 : decode cL_stands 117 = .ok (.isub, 1) := by decide +kernel
theorem dL_stands_118 : decode cL_stands 118 = .ok (.if_icmp .gt 7, 3) := by decide +kernel
theorem dL_stands_121 : decode cL_stands 121 = .ok (.iconst 1, 1) := by decide +kernel
theorem dL_stands_122 : decode cL_stands 122 = .ok (.goto 4, 3) := by decide +kernel
theorem dL_stands_125 : decode cL_stands 125 = .ok (.iconst 0, 1) := by decide +kernel
theorem dL_stands_126 : decode cL_stands 126 = .ok (.istore 9, 2) := by decide +kernel
theorem dL_stands_128 : decode cL_stands 128 = .ok (.iload 9, 2) := by decide +kernel
theorem dL_stands_130 : decode cL_stands 130 = .ok (.ifCond .eq 19, 3) := by decide +kernel
theorem dL_stands_133 : decode cL_stands 133 = .ok (.aload_n 2, 1) := by decide +kernel
theorem dL_stands_134 : decode cL_stands 134 = .ok (.iconst 3, 1) := by decide +kernel
theorem dL_stands_135 : decode cL_stands 135 = .ok (.iaload, 1) := by decide +kernel
theorem dL_stands_136 : decode cL_stands 136 = .ok (.iload 4, 2) := by decide +kernel
theorem dL_stands_138 : decode cL_stands 138 = .ok (.ishr, 1) := by decide +kernel
theorem dL_stands_139 : decode cL_stands 139 = .ok (.iconst 1, 1) := by decide +kernel
theorem dL_stands_140 : decode cL_stands 140 = .ok (.iand, 1) := by decide +kernel
theorem dL_stands_141 : decode cL_stands 141 = .ok (.iconst 1, 1) := by decide +kernel
theorem dL_stands_142 : decode cL_stands 142 = .ok (.if_icmp .ne 7, 3) := by decide +kernel
theorem dL_stands_145 : decode cL_stands 145 = .ok (.iconst 1, 1) := by decide +kernel
theorem dL_stands_146 : decode cL_stands 146 = .ok (.goto 4, 3) := by decide +kernel
theorem dL_stands_149 : decode cL_stands 149 = .ok (.iconst 0, 1) := by decide +kernel
theorem dL_stands_150 : decode cL_stands 150 = .ok (.ireturn, 1) := by decide +kernel
