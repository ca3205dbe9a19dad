theorem in_q {big : List Cond} (ws : List Cond) (ps : List Nat) (hp : ws = ps.filterMap (fun i => big[i]?)) : ∀ w ∈ ws, w ∈ big := by
  intro w hw
  rw [hp] at hw
  obtain ⟨i, -, hi⟩ := List.mem_filterMap.mp hw
  exact List.mem_of_getElem? hi
set_option maxRecDepth 20000 in
theorem IN_1 : ∀ w ∈ wsL_law0_r1, w ∈ lw_tbl := in_q _ [35, 36, 20, 116, 341, 37, 38, 39, 40, 41, 42, 43, 44, 21, 309, 117, 118, 22, 310, 311, 312, 287, 288, 26] (by decide +kernel)
set_option maxRecDepth 20000 in
theorem IN_2 : ∀ w ∈ wsL_law0_r2, w ∈ lw_tbl := in_q _ [313, 314, 45, 46, 47, 48, 49, 53, 56, 59, 61, 68, 71, 75, 77, 78, 81, 84, 120, 121, 122, 154, 241, 243] (by decide +kernel)
set_option maxRecDepth 20000 in
theorem IN_3 : ∀ w ∈ wsL_law0_r3, w ∈ lw_tbl := in_q _ [123, 124, 23, 249, 155, 156, 24, 251, 253, 214, 215, 25, 254, 126, 127, 128, 129, 132, 133, 135, 137, 139, 158, 159] (by decide +kernel)
set_option maxRecDepth 20000 in
theorem IN_4 : ∀ w ∈ wsL_law0_r4, w ∈ lw_tbl := in_q _ [160, 165, 167, 169, 171, 173, 175, 176, 177, 182, 184, 217, 218, 219, 290, 291, 292, 295, 293, 296, 294, 588, 589, 19] (by decide +kernel)
set_option maxRecDepth 20000 in
theorem IN_5a : ∀ w ∈ ([Cond.code yL_begins cL_begins 3 none, Cond.methodLink RL 196 yL_isSo, Cond.static yL_isSo] : List Cond), w ∈ lw_tbl := in_q _ [590, 591, 592] (by decide +kernel)
set_option maxRecDepth 20000 in
theorem IN_5b : ∀ w ∈ ([Cond.constant RL 93 (-100001), Cond.methodLink RL 155 yL_legend, Cond.static yL_legend, Cond.code yL_legend cL_legend 7 none, Cond.methodLink RL 46 yL_shown, Cond.static yL_shown, Cond.code yL_shown cL_shown 4 (some .int), Cond.methodLink RL 9 yL_within, Cond.static yL_within, Cond.code yL_within cL_within 3 (some .boolean), Cond.methodLink RL 53 yL_covered, Cond.static yL_covered, Cond.code yL_covered cL_covered 7 (some .int), Cond.methodLink RL 57 yL_lists, Cond.static yL_lists, Cond.code yL_lists cL_lists 13 none, Cond.methodLink RL 31 yL_bits, Cond.static yL_bits, Cond.code yL_bits cL_bits 3 (some .int), Cond.methodLink RL 35 yL_block] : List Cond), w ∈ lw_tbl := in_q _ [503, 594, 595, 596, 457, 458, 459, 460, 461, 462, 597, 598, 599, 600, 601, 602, 463, 464, 465, 603] (by decide +kernel)
set_option maxRecDepth 20000 in
theorem IN_5c : Cond.code yL_isSo cL_isSo 10 (some .boolean) ∈ lw_tbl := List.mem_of_getElem? (i := 593) rfl
theorem IN_5 : ∀ w ∈ wsL_law0_r5, w ∈ lw_tbl := fun w h => by
  have e : wsL_law0_r5 = [Cond.code yL_begins cL_begins 3 none, Cond.methodLink RL 196 yL_isSo, Cond.static yL_isSo] ++ (Cond.code yL_isSo cL_isSo 10 (some .boolean) :: [Cond.constant RL 93 (-100001), Cond.methodLink RL 155 yL_legend, Cond.static yL_legend, Cond.code yL_legend cL_legend 7 none, Cond.methodLink RL 46 yL_shown, Cond.static yL_shown, Cond.code yL_shown cL_shown 4 (some .int), Cond.methodLink RL 9 yL_within, Cond.static yL_within, Cond.code yL_within cL_within 3 (some .boolean), Cond.methodLink RL 53 yL_covered, Cond.static yL_covered, Cond.code yL_covered cL_covered 7 (some .int), Cond.methodLink RL 57 yL_lists, Cond.static yL_lists, Cond.code yL_lists cL_lists 13 none, Cond.methodLink RL 31 yL_bits, Cond.static yL_bits, Cond.code yL_bits cL_bits 3 (some .int), Cond.methodLink RL 35 yL_block]) := rfl
  rw [e] at h
  rcases List.mem_append.mp h with h | h
  · exact IN_5a w h
  · rcases List.mem_cons.mp h with h | h
    · rw [h]; exact IN_5c
    · exact IN_5b w h
set_option maxRecDepth 20000 in
theorem IN_6 : ∀ w ∈ wsL_law0_r6, w ∈ lw_tbl := in_q _ [604, 605, 606, 607, 608, 609, 610, 611, 612, 613, 614, 615, 616, 617, 618, 619, 620, 621, 622, 623, 624, 625, 626, 627] (by decide +kernel)
set_option maxRecDepth 20000 in
theorem IN_7 : ∀ w ∈ wsL_law0_r7, w ∈ lw_tbl := in_q _ [628, 629, 630, 631, 632, 633, 252, 164, 634, 635, 636, 637, 239, 258, 247, 638, 640, 3, 641, 245, 64, 642, 449, 450] (by decide +kernel)
set_option maxRecDepth 20000 in
theorem IN_8 : ∀ w ∈ wsL_law0_r8, w ∈ lw_tbl := in_q _ [451, 452, 453, 454, 455, 643, 645, 4, 646, 647, 648, 649, 650, 55, 221, 58, 222, 220, 223, 224, 651, 653, 5, 654] (by decide +kernel)
set_option maxRecDepth 20000 in
theorem IN_9 : ∀ w ∈ wsL_law0_r9, w ∈ lw_tbl := in_q _ [87, 256, 163, 260, 655, 656, 657, 658, 162, 659, 660, 661, 662, 86, 675, 676, 27, 677, 663, 665, 6, 666, 65, 50] (by decide +kernel)
set_option maxRecDepth 20000 in
theorem IN_10 : ∀ w ∈ wsL_law0_r10, w ∈ lw_tbl := in_q _ [667, 668, 669, 670, 671, 673, 7, 674, 678, 680, 8, 681, 682, 683, 684, 685, 183, 72, 686, 688, 9, 689, 134, 69] (by decide +kernel)
set_option maxRecDepth 20000 in
theorem IN_11 : ∀ w ∈ wsL_law0_r11, w ∈ lw_tbl := in_q _ [690, 692, 10, 693, 136, 138, 140, 694, 696, 11, 697, 698, 700, 12, 701, 130, 79, 702, 703, 704, 705, 181, 706, 179] (by decide +kernel)
set_option maxRecDepth 20000 in
theorem IN_12 : ∀ w ∈ wsL_law0_r12, w ∈ lw_tbl := in_q _ [707, 708, 709, 710, 161, 85, 178, 82, 715, 716, 717, 180, 225, 711, 713, 13, 714, 718, 720, 14, 721, 722, 723, 724] (by decide +kernel)
set_option maxRecDepth 20000 in
theorem IN_13 : ∀ w ∈ wsL_law0_r13, w ∈ lw_tbl := in_q _ [725, 67, 726, 727, 728, 729, 730, 731, 732, 733, 734, 261, 735, 736, 737, 349, 456, 738, 739, 740, 741, 354, 355, 356] (by decide +kernel)
set_option maxRecDepth 20000 in
theorem IN_14 : ∀ w ∈ wsL_law0_r14, w ∈ lw_tbl := in_q _ [357, 31, 742, 744, 15, 745, 257, 259, 746, 747, 748, 749, 750, 751, 752, 753, 754, 755, 756, 757, 758, 760, 16, 761] (by decide +kernel)
set_option maxRecDepth 20000 in
theorem IN_15 : ∀ w ∈ wsL_law0_r15, w ∈ lw_tbl := in_q _ [88, 83, 63, 246, 248, 762, 763, 764, 765, 766, 767, 768, 255, 769, 770, 771, 772, 773, 774, 775, 776, 777, 778, 779] (by decide +kernel)
set_option maxRecDepth 20000 in
theorem IN_16 : ∀ w ∈ wsL_law0_r16, w ∈ lw_tbl := in_q _ [780, 781, 782, 479, 783, 784, 785, 786, 487, 32, 788, 789, 790, 791, 792, 793, 794, 795, 796, 797, 798, 557, 559, 2] (by decide +kernel)
set_option maxRecDepth 20000 in
theorem IN_17 : ∀ w ∈ wsL_law0_r17, w ∈ lw_tbl := in_q _ [560, 799, 801, 17, 802, 52, 54, 57, 60, 62, 242, 244, 803, 804, 805, 806, 807, 51, 166, 170, 74, 168, 172, 174] (by decide +kernel)
set_option maxRecDepth 20000 in
theorem IN_18 : ∀ w ∈ wsL_law0_r18, w ∈ lw_tbl := in_q _ [808, 809, 810, 811, 812, 813, 814, 815, 484, 485, 486, 816, 818, 18, 819, 70, 73, 76, 250, 131, 820, 821, 822, 823] (by decide +kernel)
set_option maxRecDepth 20000 in
theorem IN_19a : ∀ w ∈ ([Cond.methodLink RX6 273 yX3_limitAt, Cond.instanceMethod yX3_limitAt, Cond.selects RX3 yX3_limitAt yX3_limitAt, Cond.code yX3_limitAt cX3_limitAt 3 (some .int), Cond.methodLink RL 200 yL_cell, Cond.static yL_cell, Cond.code yL_cell cL_cell 2 (some .int), Cond.constant RL 7 (40503), Cond.methodLink RL 203 yL_acts, Cond.static yL_acts] : List Cond), w ∈ lw_tbl := in_q _ [824, 825, 826, 827, 334, 335, 336, 337, 342, 343] (by decide +kernel)
set_option maxRecDepth 20000 in
theorem IN_19b : ∀ w ∈ ([Cond.constant RL 65 (10000000), Cond.constant RL 88 (-100003), Cond.methodLink RL 66 yL_low, Cond.static yL_low, Cond.code yL_low cL_low 2 (some .int), Cond.methodLink RL 70 yL_windows, Cond.static yL_windows, Cond.codeWith yL_windows cL_windows 7 (some .int) [(0, 11, 12, 112)], Cond.methodLink RL 123 yX6_setWindow, Cond.instanceMethod yX6_setWindow, Cond.selects RX6 yX6_setWindow yX6_setWindow, Cond.code yX6_setWindow cX6_setWindow 6 (some .int), Cond.methodLink RX6 79 yX6_demandSpan] : List Cond), w ∈ lw_tbl := in_q _ [345, 549, 338, 339, 340, 346, 347, 348, 350, 351, 352, 353, 425] (by decide +kernel)
set_option maxRecDepth 20000 in
theorem IN_19c : Cond.code yL_acts cL_acts 19 (some .boolean) ∈ lw_tbl := List.mem_of_getElem? (i := 344) rfl
theorem IN_19 : ∀ w ∈ wsL_law0_r19, w ∈ lw_tbl := fun w h => by
  have e : wsL_law0_r19 = [Cond.methodLink RX6 273 yX3_limitAt, Cond.instanceMethod yX3_limitAt, Cond.selects RX3 yX3_limitAt yX3_limitAt, Cond.code yX3_limitAt cX3_limitAt 3 (some .int), Cond.methodLink RL 200 yL_cell, Cond.static yL_cell, Cond.code yL_cell cL_cell 2 (some .int), Cond.constant RL 7 (40503), Cond.methodLink RL 203 yL_acts, Cond.static yL_acts] ++ (Cond.code yL_acts cL_acts 19 (some .boolean) :: [Cond.constant RL 65 (10000000), Cond.constant RL 88 (-100003), Cond.methodLink RL 66 yL_low, Cond.static yL_low, Cond.code yL_low cL_low 2 (some .int), Cond.methodLink RL 70 yL_windows, Cond.static yL_windows, Cond.codeWith yL_windows cL_windows 7 (some .int) [(0, 11, 12, 112)], Cond.methodLink RL 123 yX6_setWindow, Cond.instanceMethod yX6_setWindow, Cond.selects RX6 yX6_setWindow yX6_setWindow, Cond.code yX6_setWindow cX6_setWindow 6 (some .int), Cond.methodLink RX6 79 yX6_demandSpan]) := rfl
  rw [e] at h
  rcases List.mem_append.mp h with h | h
  · exact IN_19a w h
  · rcases List.mem_cons.mp h with h | h
    · rw [h]; exact IN_19c
    · exact IN_19b w h
set_option maxRecDepth 20000 in
theorem IN_20 : ∀ w ∈ wsL_law0_r20, w ∈ lw_tbl := in_q _ [426, 427, 429, 431, 1, 432, 316, 315, 240, 433, 434, 435, 436, 441, 443, 442, 33, 437, 438, 439, 440, 66, 444, 445] (by decide +kernel)
set_option maxRecDepth 20000 in
theorem IN_21 : ∀ w ∈ wsL_law0_r21, w ∈ lw_tbl := in_q _ [446, 447, 448, 466, 467, 468, 469, 470, 471, 472, 473, 476, 477, 478, 480, 481, 482, 483, 504, 505, 506, 507, 508, 509] (by decide +kernel)
set_option maxRecDepth 20000 in
theorem IN_22 : ∀ w ∈ wsL_law0_r22, w ∈ lw_tbl := in_q _ [510, 80, 512, 513, 514, 515, 516, 517, 518, 519, 525, 34, 521, 522, 523, 524, 541, 542, 543, 544, 545, 546, 547, 548] (by decide +kernel)
set_option maxRecDepth 20000 in
theorem IN_23 : ∀ w ∈ wsL_law0_r23, w ∈ lw_tbl := in_q _ [550, 551, 552, 553, 554, 555, 556, 562, 563, 564, 565, 566, 567, 568, 569, 570, 571, 572, 573, 574, 575, 576, 577, 578] (by decide +kernel)
set_option maxRecDepth 20000 in
theorem IN_24 : ∀ w ∈ wsL_law0_r24, w ∈ lw_tbl := in_q _ [579, 580, 581, 582, 584, 585, 586, 587] (by decide +kernel)
theorem IN_x0 : ∀ w ∈ (vx_atS RX6 96 "java/lang/IllegalArgumentException" ["java/lang/RuntimeException", "java/lang/Exception"]).filter goodWord, w ∈ lw_tbl := by decide +kernel
theorem IN_x1 : ∀ w ∈ (vx_atS RX6 110 "java/lang/IndexOutOfBoundsException" ["java/lang/RuntimeException", "java/lang/Exception"]).filter goodWord, w ∈ lw_tbl := by decide +kernel
theorem IN_x2 : ∀ w ∈ (vx_atS RX6 56 "java/lang/IllegalStateException" ["java/lang/RuntimeException", "java/lang/Exception"]).filter goodWord, w ∈ lw_tbl := by decide +kernel
set_option maxRecDepth 20000 in
theorem IN_y6 : ∀ w ∈ wsX60, w ∈ lw_tbl := in_q _ [317, 319, 321, 323, 325, 327, 329, 331] (by decide +kernel)
set_option maxRecDepth 20000 in
theorem IN_y3 : ∀ w ∈ wsX30, w ∈ lw_tbl := in_q _ [89, 91, 93, 95, 97, 99, 101, 103, 105, 107, 109, 111, 113] (by decide +kernel)
set_option maxRecDepth 20000 in
theorem IN_y1 : ∀ w ∈ wsX10, w ∈ lw_tbl := in_q _ [262, 264, 266, 268, 270, 272, 274, 276, 278, 280, 282, 284] (by decide +kernel)
set_option maxRecDepth 20000 in
theorem IN_y5 : ∀ w ∈ wsX50, w ∈ lw_tbl := in_q _ [297, 299, 301, 303, 305] (by decide +kernel)
set_option maxRecDepth 20000 in
theorem IN_y4 : ∀ w ∈ wsX40, w ∈ lw_tbl := in_q _ [141, 143, 145, 147, 149, 151] (by decide +kernel)
set_option maxRecDepth 20000 in
theorem IN_y2 : ∀ w ∈ wsX20, w ∈ lw_tbl := in_q _ [185, 187, 189, 191, 193, 195, 197, 199, 201, 203, 205, 207, 209, 211] (by decide +kernel)
set_option maxRecDepth 20000 in
theorem IN_y0 : ∀ w ∈ wsX00, w ∈ lw_tbl := in_q _ [226, 228, 230, 232, 234, 236] (by decide +kernel)
theorem IN_0 : ∀ w ∈ wsL_law0, w ∈ lw_tbl := by
  unfold wsL_law0
  exact List.forall_mem_append.mpr ⟨List.forall_mem_append.mpr ⟨List.forall_mem_append.mpr ⟨List.forall_mem_append.mpr ⟨List.forall_mem_append.mpr ⟨List.forall_mem_append.mpr ⟨List.forall_mem_append.mpr ⟨List.forall_mem_append.mpr ⟨List.forall_mem_append.mpr ⟨IN_1, List.forall_mem_append.mpr ⟨IN_2, List.forall_mem_append.mpr ⟨IN_3, List.forall_mem_append.mpr ⟨IN_4, List.forall_mem_append.mpr ⟨IN_5, List.forall_mem_append.mpr ⟨IN_6, List.forall_mem_append.mpr ⟨IN_7, List.forall_mem_append.mpr ⟨IN_8, List.forall_mem_append.mpr ⟨IN_9, List.forall_mem_append.mpr ⟨IN_10, List.forall_mem_append.mpr ⟨IN_11, List.forall_mem_append.mpr ⟨IN_12, List.forall_mem_append.mpr ⟨IN_13, List.forall_mem_append.mpr ⟨IN_14, List.forall_mem_append.mpr ⟨IN_15, List.forall_mem_append.mpr ⟨IN_16, List.forall_mem_append.mpr ⟨IN_17, List.forall_mem_append.mpr ⟨IN_18, List.forall_mem_append.mpr ⟨IN_19, List.forall_mem_append.mpr ⟨IN_20, List.forall_mem_append.mpr ⟨IN_21, List.forall_mem_append.mpr ⟨IN_22, List.forall_mem_append.mpr ⟨IN_23, IN_24⟩⟩⟩⟩⟩⟩⟩⟩⟩⟩⟩⟩⟩⟩⟩⟩⟩⟩⟩⟩⟩⟩⟩, IN_y6⟩, IN_y3⟩, IN_y1⟩, IN_y5⟩, IN_y4⟩, IN_y2⟩, IN_y0⟩, fun _ h => absurd h List.not_mem_nil⟩
theorem IN_all : ∀ w ∈ wsL_law, w ∈ lw_tbl := List.forall_mem_append.mpr ⟨List.forall_mem_append.mpr ⟨List.forall_mem_append.mpr ⟨IN_0, IN_x0⟩, IN_x1⟩, IN_x2⟩
