theorem in_q {big : List Cond} (ws : List Cond) (ps : List Nat) (hp : ws = ps.filterMap (fun i => big[i]?)) : ∀ w ∈ ws, w ∈ big := by
  intro w hw
  rw [hp] at hw
  obtain ⟨i, -, hi⟩ := List.mem_filterMap.mp hw
  exact List.mem_of_getElem? hi
set_option maxRecDepth 20000 in
theorem IN_1 : ∀ w ∈ wsL_law0_r1, w ∈ lw_tbl := in_q _ [87, 88, 71, 914, 915, 78, 1302, 89, 90, 91, 92, 93, 94, 95, 96, 72, 368, 170, 171, 73, 369, 370, 371, 340] (by decide +kernel)
set_option maxRecDepth 20000 in
theorem IN_2 : ∀ w ∈ wsL_law0_r2, w ∈ lw_tbl := in_q _ [341, 77, 372, 373, 97, 98, 99, 100, 169, 101, 105, 108, 111, 113, 121, 124, 128, 130, 131, 134, 137, 173, 174, 175] (by decide +kernel)
set_option maxRecDepth 20000 in
theorem IN_3 : ∀ w ∈ wsL_law0_r3, w ∈ lw_tbl := in_q _ [207, 294, 296, 176, 177, 74, 302, 208, 209, 75, 304, 306, 267, 268, 76, 307, 179, 180, 181, 182, 185, 186, 188, 190] (by decide +kernel)
set_option maxRecDepth 20000 in
theorem IN_4 : ∀ w ∈ wsL_law0_r4, w ∈ lw_tbl := in_q _ [192, 211, 212, 213, 218, 220, 222, 224, 226, 228, 229, 230, 235, 237, 270, 271, 272, 343, 344, 345, 348, 346, 351, 347] (by decide +kernel)
set_option maxRecDepth 20000 in
theorem IN_5 : ∀ w ∈ wsL_law0_r5, w ∈ lw_tbl := in_q _ [916, 917, 918, 919, 920, 921, 922, 923, 925, 928, 929, 930, 931, 932, 943, 944, 945, 946, 628, 629, 70, 630, 631, 632] (by decide +kernel)
set_option maxRecDepth 20000 in
theorem IN_6 : ∀ w ∈ wsL_law0_r6, w ∈ lw_tbl := in_q _ [633, 634, 635, 636, 637, 728, 84, 115, 638, 639, 640, 641, 82, 709, 710, 711, 712, 83, 562, 564, 17, 565, 375, 374] (by decide +kernel)
set_option maxRecDepth 20000 in
theorem IN_7 : ∀ w ∈ wsL_law0_r7, w ∈ lw_tbl := in_q _ [293, 513, 514, 515, 516, 521, 523, 522, 85, 517, 518, 519, 520, 119, 744, 559, 560, 561, 1012, 1013, 1014, 1015, 1016, 1017] (by decide +kernel)
set_option maxRecDepth 20000 in
theorem IN_8 : ∀ w ∈ wsL_law0_r8, w ∈ lw_tbl := in_q _ [1018, 1019, 1020, 1021, 1022, 1024, 27, 1025, 927, 1026, 1028, 28, 1029, 1030, 1031, 1032, 1033, 1035, 29, 1036, 924, 1037, 1039, 30] (by decide +kernel)
set_option maxRecDepth 20000 in
theorem IN_9 : ∀ w ∈ wsL_law0_r9, w ∈ lw_tbl := in_q _ [1040, 1008, 1009, 1010, 1011, 745, 746, 747, 748, 749, 750, 751, 752, 754, 26, 755, 757, 758, 759, 760, 1041, 1042, 1043, 1044] (by decide +kernel)
set_option maxRecDepth 20000 in
theorem IN_10 : ∀ w ∈ wsL_law0_r10, w ∈ lw_tbl := in_q _ [1045, 1047, 31, 1048, 1049, 1051, 32, 1052, 761, 762, 763, 764, 765, 766, 767, 106, 109, 1053, 1054, 1055, 1056, 1057, 1059, 33] (by decide +kernel)
set_option maxRecDepth 20000 in
theorem IN_11 : ∀ w ∈ wsL_law0_r11, w ∈ lw_tbl := in_q _ [1060, 768, 769, 770, 771, 772, 773, 774, 136, 775, 776, 777, 779, 780, 781, 782, 783, 406, 407, 408, 409, 410, 411, 412] (by decide +kernel)
set_option maxRecDepth 20000 in
theorem IN_12 : ∀ w ∈ wsL_law0_r12, w ∈ lw_tbl := in_q _ [1061, 1062, 1063, 1064, 1065, 1067, 34, 1068, 1069, 1071, 35, 1072, 1073, 1075, 36, 1076, 784, 785, 786, 787, 788, 789, 790, 524] (by decide +kernel)
set_option maxRecDepth 20000 in
theorem IN_13 : ∀ w ∈ wsL_law0_r13, w ∈ lw_tbl := in_q _ [141, 1077, 1078, 1079, 1080, 1081, 1082, 1083, 792, 793, 794, 795, 796, 797, 798, 123, 126, 1084, 1085, 1086, 1087, 1088, 1090, 37] (by decide +kernel)
set_option maxRecDepth 20000 in
theorem IN_14 : ∀ w ∈ wsL_law0_r14, w ∈ lw_tbl := in_q _ [1091, 799, 800, 801, 802, 803, 804, 805, 133, 1092, 1093, 1094, 1095, 807, 808, 809, 810, 811, 812, 813, 129, 815, 816, 817] (by decide +kernel)
set_option maxRecDepth 20000 in
theorem IN_15 : ∀ w ∈ wsL_law0_r15, w ∈ lw_tbl := in_q _ [818, 820, 821, 822, 823, 824, 825, 826, 827, 1096, 1097, 1098, 1099, 828, 829, 830, 831, 832, 833, 834, 397, 398, 399, 400] (by decide +kernel)
set_option maxRecDepth 20000 in
theorem IN_16 : ∀ w ∈ wsL_law0_r16, w ∈ lw_tbl := in_q _ [292, 311, 300, 401, 403, 0, 404, 298, 117, 405, 413, 415, 1, 416, 417, 418, 419, 420, 107, 274, 110, 275, 273, 276] (by decide +kernel)
set_option maxRecDepth 20000 in
theorem IN_17 : ∀ w ∈ wsL_law0_r17, w ∈ lw_tbl := in_q _ [277, 421, 423, 2, 424, 140, 309, 216, 313, 425, 426, 427, 428, 215, 429, 430, 431, 432, 139, 445, 446, 86, 447, 433] (by decide +kernel)
set_option maxRecDepth 20000 in
theorem IN_18 : ∀ w ∈ wsL_law0_r18, w ∈ lw_tbl := in_q _ [435, 3, 436, 118, 102, 437, 438, 439, 440, 441, 443, 4, 444, 448, 450, 5, 451, 452, 453, 454, 455, 236, 125, 456] (by decide +kernel)
set_option maxRecDepth 20000 in
theorem IN_19 : ∀ w ∈ wsL_law0_r19, w ∈ lw_tbl := in_q _ [458, 6, 459, 187, 122, 460, 462, 7, 463, 189, 191, 193, 464, 466, 8, 467, 468, 470, 9, 471, 183, 132, 472, 473] (by decide +kernel)
set_option maxRecDepth 20000 in
theorem IN_20 : ∀ w ∈ wsL_law0_r20, w ∈ lw_tbl := in_q _ [474, 475, 234, 476, 232, 477, 478, 479, 480, 214, 138, 231, 135, 485, 486, 487, 233, 278, 481, 483, 10, 484, 488, 490] (by decide +kernel)
set_option maxRecDepth 20000 in
theorem IN_21 : ∀ w ∈ wsL_law0_r21, w ∈ lw_tbl := in_q _ [11, 491, 492, 493, 494, 495, 120, 496, 497, 498, 499, 500, 573, 575, 18, 576, 299, 301, 1100, 1101, 1102, 1103, 1104, 1106] (by decide +kernel)
set_option maxRecDepth 20000 in
theorem IN_22 : ∀ w ∈ wsL_law0_r22, w ∈ lw_tbl := in_q _ [38, 1107, 938, 933, 936, 937, 935, 1108, 1110, 39, 1111, 934, 1112, 1114, 40, 1115, 939, 941, 940, 942, 1116, 1118, 41, 1119] (by decide +kernel)
set_option maxRecDepth 20000 in
theorem IN_23 : ∀ w ∈ wsL_law0_r23, w ∈ lw_tbl := in_q _ [1120, 1122, 42, 1123, 1124, 1126, 43, 1127, 1128, 1130, 44, 1131, 1132, 1134, 45, 1135, 1136, 1138, 46, 1139, 1140, 1142, 47, 1143] (by decide +kernel)
set_option maxRecDepth 20000 in
theorem IN_24 : ∀ w ∈ wsL_law0_r24, w ∈ lw_tbl := in_q _ [1144, 1146, 48, 1147, 1148, 1150, 49, 1151, 1152, 1154, 50, 1155, 1156, 1158, 51, 1159, 1160, 1162, 52, 1163, 1164, 1166, 53, 1167] (by decide +kernel)
set_option maxRecDepth 20000 in
theorem IN_25 : ∀ w ∈ wsL_law0_r25, w ∈ lw_tbl := in_q _ [1168, 1170, 54, 1171, 1172, 1174, 55, 1175, 835, 836, 837, 838, 839, 840, 841, 597, 599, 22, 600, 104, 112, 114, 295, 297] (by decide +kernel)
set_option maxRecDepth 20000 in
theorem IN_26 : ∀ w ∈ wsL_law0_r26, w ∈ lw_tbl := in_q _ [601, 602, 603, 604, 605, 103, 219, 223, 127, 221, 225, 227, 606, 1176, 1177, 1178, 1179, 1180, 1182, 56, 1183, 1184, 1186, 57] (by decide +kernel)
set_option maxRecDepth 20000 in
theorem IN_27 : ∀ w ∈ wsL_law0_r27, w ∈ lw_tbl := in_q _ [1187, 1188, 1190, 58, 1191, 842, 843, 844, 845, 846, 847, 848, 581, 583, 20, 584, 305, 303, 184, 585, 586, 587, 588, 589] (by decide +kernel)
set_option maxRecDepth 20000 in
theorem IN_28 : ∀ w ∈ wsL_law0_r28, w ∈ lw_tbl := in_q _ [590, 591, 592, 1192, 1193, 1194, 1195, 1196, 1198, 59, 1199, 1200, 1202, 60, 1203, 393, 394, 395, 396, 217, 1204, 1205, 1206, 1207] (by decide +kernel)
set_option maxRecDepth 20000 in
theorem IN_29 : ∀ w ∈ wsL_law0_r29, w ∈ lw_tbl := in_q _ [849, 850, 851, 852, 853, 854, 855, 611, 612, 613, 614, 1208, 1209, 1210, 1211, 1212, 1214, 61, 1215, 857, 858, 859, 860, 861] (by decide +kernel)
set_option maxRecDepth 20000 in
theorem IN_30 : ∀ w ∈ wsL_law0_r30, w ∈ lw_tbl := in_q _ [862, 863, 308, 615, 616, 617, 618, 1216, 1217, 1218, 1219, 1220, 1222, 62, 1223, 864, 865, 866, 867, 868, 869, 870, 619, 621] (by decide +kernel)
set_option maxRecDepth 20000 in
theorem IN_31 : ∀ w ∈ wsL_law0_r31, w ∈ lw_tbl := in_q _ [24, 622, 310, 312, 623, 624, 625, 626, 627, 1224, 1225, 1226, 1227, 1228, 1230, 63, 1231, 501, 502, 503, 504, 314, 1232, 1233] (by decide +kernel)
set_option maxRecDepth 20000 in
theorem IN_32 : ∀ w ∈ wsL_law0_r32, w ∈ lw_tbl := in_q _ [1234, 1235, 505, 506, 507, 508, 1236, 1237, 1238, 1239, 871, 872, 873, 874, 875, 876, 877, 1240, 1241, 1242, 1243, 509, 510, 511] (by decide +kernel)
set_option maxRecDepth 20000 in
theorem IN_33 : ∀ w ∈ wsL_law0_r33, w ∈ lw_tbl := in_q _ [512, 1244, 1245, 1246, 1247, 878, 879, 880, 881, 882, 883, 884, 886, 885, 1248, 1249, 1250, 1251, 887, 888, 889, 890, 891, 892] (by decide +kernel)
set_option maxRecDepth 20000 in
theorem IN_34 : ∀ w ∈ wsL_law0_r34, w ∈ lw_tbl := in_q _ [893, 1252, 1253, 1254, 1255, 894, 895, 896, 897, 898, 899, 900, 350, 902, 903, 904, 905, 349, 1256, 1257, 1258, 1259, 926, 526] (by decide +kernel)
set_option maxRecDepth 20000 in
theorem IN_35 : ∀ w ∈ wsL_law0_r35, w ∈ lw_tbl := in_q _ [527, 528, 529, 1260, 1261, 1262, 1263, 530, 531, 532, 533, 354, 352, 534, 535, 536, 537, 355, 353, 116, 538, 540, 12, 541] (by decide +kernel)
set_option maxRecDepth 20000 in
theorem IN_36 : ∀ w ∈ wsL_law0_r36, w ∈ lw_tbl := in_q _ [542, 544, 13, 545, 546, 548, 14, 549, 550, 552, 15, 553, 554, 556, 16, 557, 558, 566, 1264, 1265, 1266, 1267, 947, 1268] (by decide +kernel)
set_option maxRecDepth 20000 in
theorem IN_37 : ∀ w ∈ wsL_law0_r37, w ∈ lw_tbl := in_q _ [1270, 64, 1271, 1272, 1274, 65, 1275, 1276, 1278, 66, 1279, 1280, 1282, 67, 1283, 906, 907, 908, 909, 910, 911, 912, 1284, 1285] (by decide +kernel)
set_option maxRecDepth 20000 in
theorem IN_38 : ∀ w ∈ wsL_law0_r38, w ∈ lw_tbl := in_q _ [1286, 1287, 567, 568, 569, 570, 571, 572, 577, 579, 19, 580, 593, 595, 21, 596, 607, 609, 23, 610, 1288, 1289, 1290, 1291] (by decide +kernel)
set_option maxRecDepth 20000 in
theorem IN_39 : ∀ w ∈ wsL_law0_r39, w ∈ lw_tbl := in_q _ [1292, 948, 1293, 1295, 68, 1296, 1297, 1298, 1300, 69, 1301] (by decide +kernel)
theorem IN_x0 : ∀ w ∈ (vx_atS RX6 56 "java/lang/IllegalStateException" ["java/lang/RuntimeException", "java/lang/Exception"]).filter goodWord, w ∈ lw_tbl := by decide +kernel
theorem IN_x1 : ∀ w ∈ (vx_atS RX6 110 "java/lang/IndexOutOfBoundsException" ["java/lang/RuntimeException", "java/lang/Exception"]).filter goodWord, w ∈ lw_tbl := by decide +kernel
theorem IN_x2 : ∀ w ∈ (vx_atS RX6 96 "java/lang/IllegalArgumentException" ["java/lang/RuntimeException", "java/lang/Exception"]).filter goodWord, w ∈ lw_tbl := by decide +kernel
set_option maxRecDepth 20000 in
theorem IN_y6 : ∀ w ∈ wsX60, w ∈ lw_tbl := in_q _ [376, 378, 380, 382, 384, 386, 388, 390] (by decide +kernel)
set_option maxRecDepth 20000 in
theorem IN_y7 : ∀ w ∈ wsX70, w ∈ lw_tbl := in_q _ [949, 951, 953, 955, 957, 959, 961, 963, 965, 967, 969, 971, 973, 975, 977, 979, 981, 983, 985, 987, 989, 991, 993, 995, 997, 999, 1001, 1003, 1005] (by decide +kernel)
set_option maxRecDepth 20000 in
theorem IN_y3 : ∀ w ∈ wsX30, w ∈ lw_tbl := in_q _ [142, 144, 146, 148, 150, 152, 154, 156, 158, 160, 162, 164, 166] (by decide +kernel)
set_option maxRecDepth 20000 in
theorem IN_y1 : ∀ w ∈ wsX10, w ∈ lw_tbl := in_q _ [315, 317, 319, 321, 323, 325, 327, 329, 331, 333, 335, 337] (by decide +kernel)
set_option maxRecDepth 20000 in
theorem IN_y5 : ∀ w ∈ wsX50, w ∈ lw_tbl := in_q _ [356, 358, 360, 362, 364] (by decide +kernel)
set_option maxRecDepth 20000 in
theorem IN_y4 : ∀ w ∈ wsX40, w ∈ lw_tbl := in_q _ [194, 196, 198, 200, 202, 204] (by decide +kernel)
set_option maxRecDepth 20000 in
theorem IN_y2 : ∀ w ∈ wsX20, w ∈ lw_tbl := in_q _ [238, 240, 242, 244, 246, 248, 250, 252, 254, 256, 258, 260, 262, 264] (by decide +kernel)
set_option maxRecDepth 20000 in
theorem IN_y0 : ∀ w ∈ wsX00, w ∈ lw_tbl := in_q _ [279, 281, 283, 285, 287, 289] (by decide +kernel)
theorem IN_0 : ∀ w ∈ wsL_law0, w ∈ lw_tbl := by
  unfold wsL_law0
  exact List.forall_mem_append.mpr ⟨List.forall_mem_append.mpr ⟨List.forall_mem_append.mpr ⟨List.forall_mem_append.mpr ⟨List.forall_mem_append.mpr ⟨List.forall_mem_append.mpr ⟨List.forall_mem_append.mpr ⟨List.forall_mem_append.mpr ⟨List.forall_mem_append.mpr ⟨List.forall_mem_append.mpr ⟨IN_1, List.forall_mem_append.mpr ⟨IN_2, List.forall_mem_append.mpr ⟨IN_3, List.forall_mem_append.mpr ⟨IN_4, List.forall_mem_append.mpr ⟨IN_5, List.forall_mem_append.mpr ⟨IN_6, List.forall_mem_append.mpr ⟨IN_7, List.forall_mem_append.mpr ⟨IN_8, List.forall_mem_append.mpr ⟨IN_9, List.forall_mem_append.mpr ⟨IN_10, List.forall_mem_append.mpr ⟨IN_11, List.forall_mem_append.mpr ⟨IN_12, List.forall_mem_append.mpr ⟨IN_13, List.forall_mem_append.mpr ⟨IN_14, List.forall_mem_append.mpr ⟨IN_15, List.forall_mem_append.mpr ⟨IN_16, List.forall_mem_append.mpr ⟨IN_17, List.forall_mem_append.mpr ⟨IN_18, List.forall_mem_append.mpr ⟨IN_19, List.forall_mem_append.mpr ⟨IN_20, List.forall_mem_append.mpr ⟨IN_21, List.forall_mem_append.mpr ⟨IN_22, List.forall_mem_append.mpr ⟨IN_23, List.forall_mem_append.mpr ⟨IN_24, List.forall_mem_append.mpr ⟨IN_25, List.forall_mem_append.mpr ⟨IN_26, List.forall_mem_append.mpr ⟨IN_27, List.forall_mem_append.mpr ⟨IN_28, List.forall_mem_append.mpr ⟨IN_29, List.forall_mem_append.mpr ⟨IN_30, List.forall_mem_append.mpr ⟨IN_31, List.forall_mem_append.mpr ⟨IN_32, List.forall_mem_append.mpr ⟨IN_33, List.forall_mem_append.mpr ⟨IN_34, List.forall_mem_append.mpr ⟨IN_35, List.forall_mem_append.mpr ⟨IN_36, List.forall_mem_append.mpr ⟨IN_37, List.forall_mem_append.mpr ⟨IN_38, IN_39⟩⟩⟩⟩⟩⟩⟩⟩⟩⟩⟩⟩⟩⟩⟩⟩⟩⟩⟩⟩⟩⟩⟩⟩⟩⟩⟩⟩⟩⟩⟩⟩⟩⟩⟩⟩⟩⟩, IN_y6⟩, IN_y7⟩, IN_y3⟩, IN_y1⟩, IN_y5⟩, IN_y4⟩, IN_y2⟩, IN_y0⟩, fun _ h => absurd h List.not_mem_nil⟩
theorem IN_all : ∀ w ∈ wsL_law, w ∈ lw_tbl := List.forall_mem_append.mpr ⟨List.forall_mem_append.mpr ⟨List.forall_mem_append.mpr ⟨IN_0, IN_x0⟩, IN_x1⟩, IN_x2⟩
