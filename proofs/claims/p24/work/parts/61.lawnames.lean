theorem dL_cell_0 : decode cL_cell 0 = .ok (.iload_n 1, 1) := by decide +kernel
theorem dL_cell_1 : decode cL_cell 1 = .ok (.aload_n 0, 1) := by decide +kernel
theorem dL_cell_2 : decode cL_cell 2 = .ok (.arraylength, 1) := by decide +kernel
theorem dL_cell_3 : decode cL_cell 3 = .ok (.if_icmp .ge 9, 3) := by decide +kernel
theorem dL_cell_6 : decode cL_cell 6 = .ok (.aload_n 0, 1) := by decide +kernel
theorem dL_cell_7 : decode cL_cell 7 = .ok (.iload_n 1, 1) := by decide +kernel
theorem dL_cell_8 : decode cL_cell 8 = .ok (.iaload, 1) := by decide +kernel
theorem dL_cell_9 : decode cL_cell 9 = .ok (.goto 15, 3) := by decide +kernel
theorem dL_cell_12 : decode cL_cell 12 = .ok (.sipush 7919, 3) := by decide +kernel
theorem dL_cell_15 : decode cL_cell 15 = .ok (.iload_n 1, 1) := by decide +kernel
theorem dL_cell_16 : decode cL_cell 16 = .ok (.iconst 3, 1) := by decide +kernel
theorem dL_cell_17 : decode cL_cell 17 = .ok (.iadd, 1) := by decide +kernel
theorem dL_cell_18 : decode cL_cell 18 = .ok (.imul, 1) := by decide +kernel
theorem dL_cell_19 : decode cL_cell 19 = .ok (.iload_n 1, 1) := by decide +kernel
theorem dL_cell_20 : decode cL_cell 20 = .ok (.bipush 11, 2) := by decide +kernel
theorem dL_cell_22 : decode cL_cell 22 = .ok (.iadd, 1) := by decide +kernel
theorem dL_cell_23 : decode cL_cell 23 = .ok (.imul, 1) := by decide +kernel
theorem dL_cell_24 : decode cL_cell 24 = .ok (.ireturn, 1) := by decide +kernel
theorem dL_low_0 : decode cL_low 0 = .ok (.iload_n 0, 1) := by decide +kernel
theorem dL_low_1 : decode cL_low 1 = .ok (.ldc 7, 2) := by decide +kernel
theorem dL_low_3 : decode cL_low 3 = .ok (.iand, 1) := by decide +kernel
theorem dL_low_4 : decode cL_low 4 = .ok (.iload_n 1, 1) := by decide +kernel
theorem dL_low_5 : decode cL_low 5 = .ok (.irem, 1) := by decide +kernel
theorem dL_low_6 : decode cL_low 6 = .ok (.ireturn, 1) := by decide +kernel
theorem dL_ones_0 : decode cL_ones 0 = .ok (.iconst 0, 1) := by decide +kernel
theorem dL_ones_1 : decode cL_ones 1 = .ok (.istore_n 1, 1) := by decide +kernel
theorem dL_ones_2 : decode cL_ones 2 = .ok (.iconst 0, 1) := by decide +kernel
theorem dL_ones_3 : decode cL_ones 3 = .ok (.istore_n 2, 1) := by decide +kernel
theorem dL_ones_4 : decode cL_ones 4 = .ok (.iload_n 2, 1) := by decide +kernel
theorem dL_ones_5 : decode cL_ones 5 = .ok (.bipush 7, 2) := by decide +kernel
theorem dL_ones_7 : decode cL_ones 7 = .ok (.if_icmp .ge 17, 3) := by decide +kernel
theorem dL_ones_10 : decode cL_ones 10 = .ok (.iload_n 1, 1) := by decide +kernel
theorem dL_ones_11 : decode cL_ones 11 = .ok (.iload_n 0, 1) := by decide +kernel
theorem dL_ones_12 : decode cL_ones 12 = .ok (.iload_n 2, 1) := by decide +kernel
theorem dL_ones_13 : decode cL_ones 13 = .ok (.ishr, 1) := by decide +kernel
theorem dL_ones_14 : decode cL_ones 14 = .ok (.iconst 1, 1) := by decide +kernel
theorem dL_ones_15 : decode cL_ones 15 = .ok (.iand, 1) := by decide +kernel
theorem dL_ones_16 : decode cL_ones 16 = .ok (.iadd, 1) := by decide +kernel
theorem dL_ones_17 : decode cL_ones 17 = .ok (.istore_n 1, 1) := by decide +kernel
theorem dL_ones_18 : decode cL_ones 18 = .ok (.iinc 2 1, 3) := by decide +kernel
theorem dL_ones_21 : decode cL_ones 21 = .ok (.goto (-17), 3) := by decide +kernel
theorem dL_ones_24 : decode cL_ones 24 = .ok (.iload_n 1, 1) := by decide +kernel
theorem dL_ones_25 : decode cL_ones 25 = .ok (.ireturn, 1) := by decide +kernel
set_option maxRecDepth 20000 in
theorem ggL_worth_X5_plot : GoodIn wsL_worth wsX5_plot := goodIn_r _ [5, 6, 7, 8, 9, 10, 4, 11, 12, 13, 14, 15, 16, 17, 94, 95, 96, 97, 98, 99, 100, 101, 102, 103, 104, 105, 106, 107, 108, 109] rfl (by decide +kernel)
set_option maxRecDepth 20000 in
theorem gL_worth_X5_plot : GoodIn wsL_worth (wsV RL 8 RX5 yX5_plot wsX5_plot) := goodIn_app (goodIn_of _ (by decide +kernel)) ggL_worth_X5_plot
set_option maxRecDepth 20000 in
theorem ggL_worth_X5_cousin : GoodIn wsL_worth wsX5_cousin := goodIn_r _ [21, 6, 22, 23, 8, 24, 25, 4, 26, 27, 28, 29, 30, 31, 32, 33, 34, 13, 14, 15, 16, 17, 35, 36, 37, 38, 39, 40, 41, 42, 43, 44, 45, 46, 47, 48, 49, 50, 51, 52, 53, 54, 55, 56, 57, 58, 59, 60, 61, 62, 63, 64, 65, 66, 67, 68, 69, 70, 71, 72, 73, 74, 75, 76, 77, 78, 79, 80, 81, 82, 83, 84, 85, 86, 87, 88, 89, 90, 91, 92, 93, 94, 95, 96, 97, 98, 99, 100, 101, 102, 103, 104, 105, 106, 107, 108, 109, 110, 111, 112, 113, 114] rfl (by decide +kernel)
set_option maxRecDepth 20000 in
theorem gL_worth_X5_cousin : GoodIn wsL_worth (wsV RL 14 RX5 yX5_cousin wsX5_cousin) := goodIn_app (goodIn_of _ (by decide +kernel)) ggL_worth_X5_cousin
theorem dL_worth_0 : decode cL_worth 0 = .ok (.iconst 0, 1) := by decide +kernel
theorem dL_worth_1 : decode cL_worth 1 = .ok (.istore_n 3, 1) := by decide +kernel
theorem dL_worth_2 : decode cL_worth 2 = .ok (.iconst 0, 1) := by decide +kernel
theorem dL_worth_3 : decode cL_worth 3 = .ok (.istore 4, 2) := by decide +kernel
theorem dL_worth_5 : decode cL_worth 5 = .ok (.iload 4, 2) := by decide +kernel
theorem dL_worth_7 : decode cL_worth 7 = .ok (.iconst 4, 1) := by decide +kernel
theorem dL_worth_8 : decode cL_worth 8 = .ok (.if_icmp .ge 27, 3) := by decide +kernel
theorem dL_worth_11 : decode cL_worth 11 = .ok (.iload_n 3, 1) := by decide +kernel
theorem dL_worth_12 : decode cL_worth 12 = .ok (.aload_n 0, 1) := by decide +kernel
theorem dL_worth_13 : decode cL_worth 13 = .ok (.iload_n 2, 1) := by decide +kernel
theorem dL_worth_14 : decode cL_worth 14 = .ok (.iload 4, 2) := by decide +kernel
theorem dL_worth_16 : decode cL_worth 16 = .ok (.invokevirtual 8, 3) := by decide +kernel
theorem dL_worth_19 : decode cL_worth 19 = .ok (.aload_n 0, 1) := by decide +kernel
theorem dL_worth_20 : decode cL_worth 20 = .ok (.iload_n 1, 1) := by decide +kernel
theorem dL_worth_21 : decode cL_worth 21 = .ok (.iload 4, 2) := by decide +kernel
theorem dL_worth_23 : decode cL_worth 23 = .ok (.invokevirtual 14, 3) := by decide +kernel
theorem dL_worth_26 : decode cL_worth 26 = .ok (.imul, 1) := by decide +kernel
theorem dL_worth_27 : decode cL_worth 27 = .ok (.iadd, 1) := by decide +kernel
theorem dL_worth_28 : decode cL_worth 28 = .ok (.istore_n 3, 1) := by decide +kernel
theorem dL_worth_29 : decode cL_worth 29 = .ok (.iinc 4 1, 3) := by decide +kernel
theorem dL_worth_32 : decode cL_worth 32 = .ok (.goto (-27), 3) := by decide +kernel
theorem dL_worth_35 : decode cL_worth 35 = .ok (.iload_n 3, 1) := by decide +kernel
theorem dL_worth_36 : decode cL_worth 36 = .ok (.ireturn, 1) := by decide +kernel
set_option maxRecDepth 20000 in
theorem ggL_isCousin_L_worth : GoodIn wsL_isCousin wsL_worth := goodIn_r _ [4, 5, 6, 7, 8, 9, 10, 11, 12, 13, 14, 15, 16, 17, 18, 19, 20, 21, 22, 23, 24, 25, 26, 27, 28, 29, 30, 31, 32, 33, 34, 35, 36, 37, 38, 39, 40, 41, 42, 43, 44, 45, 46, 47, 48, 49, 50, 51, 52, 53, 54, 55, 56, 57, 58, 59, 60, 61, 62, 63, 64, 65, 66, 67, 68, 69, 70, 71, 72, 73, 74, 75, 76, 77, 78, 79, 80, 81, 82, 83, 84, 85, 86, 87, 88, 89, 90, 91, 92, 93, 94, 95, 96, 97, 141, 142, 143, 144, 145, 146, 147, 148, 149, 150, 151, 152, 153, 154, 155, 156, 157, 158, 159, 160, 161] rfl (by decide +kernel)
set_option maxRecDepth 20000 in
theorem gL_isCousin_L_worth : GoodIn wsL_isCousin (va_wsS RL 17 yL_worth wsL_worth) := goodIn_app (goodIn_of _ (by decide +kernel)) ggL_isCousin_L_worth
set_option maxRecDepth 20000 in
theorem ggL_isCousin_X5_plot : GoodIn wsL_isCousin wsX5_plot := goodIn_r _ [9, 10, 11, 12, 13, 14, 8, 15, 16, 17, 18, 19, 20, 21, 141, 142, 143, 144, 145, 146, 147, 148, 149, 150, 151, 152, 153, 154, 155, 156] rfl (by decide +kernel)
set_option maxRecDepth 20000 in
theorem gL_isCousin_X5_plot : GoodIn wsL_isCousin (wsV RL 8 RX5 yX5_plot wsX5_plot) := goodIn_app (goodIn_of _ (by decide +kernel)) ggL_isCousin_X5_plot
set_option maxRecDepth 20000 in
theorem ggL_isCousin_X5_pair : GoodIn wsL_isCousin wsX5_pair := goodIn_r _ [101, 27, 10, 12, 28, 29, 8, 30, 31, 32, 33, 34, 35, 36, 37, 38, 17, 18, 19, 20, 21, 102, 103, 104, 105, 59, 44, 45, 46, 47, 106, 75, 76, 77, 78, 107, 67, 68, 69, 70, 71, 72, 73, 74, 79, 108, 109, 110, 111, 112, 113, 141, 142, 143, 144, 145, 146, 147, 148, 149, 150, 151, 152, 153, 154, 155, 156, 157, 158, 159, 160, 161] rfl (by decide +kernel)
set_option maxRecDepth 20000 in
theorem gL_isCousin_X5_pair : GoodIn wsL_isCousin (wsV RL 23 RX5 yX5_pair wsX5_pair) := goodIn_app (goodIn_of _ (by decide +kernel)) ggL_isCousin_X5_pair
set_option maxRecDepth 20000 in
theorem ggL_isCousin_X5_total : GoodIn wsL_isCousin wsX5_total := goodIn_r _ [117, 27, 10, 12, 118, 119, 120, 121, 122, 123, 124, 125, 31, 32, 33, 34, 35, 36, 37, 29, 8, 30, 38, 17, 18, 19, 20, 21, 39, 40, 41, 42, 43, 126, 127, 128, 129, 64, 65, 130, 61, 62, 63, 66, 67, 68, 69, 70, 71, 72, 73, 74, 75, 76, 77, 78, 79, 45, 46, 47, 131, 132, 133, 134, 135, 81, 82, 83, 136, 137, 138, 139, 140, 109, 110, 111, 112, 113, 103, 104, 105, 59, 141, 142, 143, 144, 145, 146, 147, 148, 149, 150, 151, 152, 153, 154, 155, 156, 162, 163, 164, 165, 166, 167, 168, 169, 170, 171, 157, 158, 159, 160, 161] rfl (by decide +kernel)
set_option maxRecDepth 20000 in
theorem gL_isCousin_X5_total : GoodIn wsL_isCousin (wsV RL 27 RX5 yX5_total wsX5_total) := goodIn_app (goodIn_of _ (by decide +kernel)) ggL_isCousin_X5_total
set_option maxRecDepth 20000 in
theorem ggL_isCousin_X5_cousin : GoodIn wsL_isCousin wsX5_cousin := goodIn_r _ [25, 10, 26, 27, 12, 28, 29, 8, 30, 31, 32, 33, 34, 35, 36, 37, 38, 17, 18, 19, 20, 21, 39, 40, 41, 42, 43, 44, 45, 46, 47, 48, 49, 50, 51, 52, 53, 54, 55, 56, 57, 58, 59, 60, 61, 62, 63, 64, 65, 66, 67, 68, 69, 70, 71, 72, 73, 74, 75, 76, 77, 78, 79, 80, 81, 82, 83, 84, 85, 86, 87, 88, 89, 90, 91, 92, 93, 94, 95, 96, 97, 141, 142, 143, 144, 145, 146, 147, 148, 149, 150, 151, 152, 153, 154, 155, 156, 157, 158, 159, 160, 161] rfl (by decide +kernel)
set_option maxRecDepth 20000 in
theorem gL_isCousin_X5_cousin : GoodIn wsL_isCousin (wsV RL 14 RX5 yX5_cousin wsX5_cousin) := goodIn_app (goodIn_of _ (by decide +kernel)) ggL_isCousin_X5_cousin
theorem dL_isCousin_0 : decode cL_isCousin 0 = .ok (.iconst 0, 1) := by decide +kernel
theorem dL_isCousin_1 : decode cL_isCousin 1 = .ok (.istore_n 2, 1) := by decide +kernel
theorem dL_isCousin_2 : decode cL_isCousin 2 = .ok (.iconst 0, 1) := by decide +kernel
theorem dL_isCousin_3 : decode cL_isCousin 3 = .ok (.istore_n 3, 1) := by decide +kernel
theorem dL_isCousin_4 : decode cL_isCousin 4 = .ok (.iconst 0, 1) := by decide +kernel
theorem dL_isCousin_5 : decode cL_isCousin 5 = .ok (.istore 4, 2) := by decide +kernel
theorem dL_isCousin_7 : decode cL_isCousin 7 = .ok (.iconst 0, 1) := by decide +kernel
theorem dL_isCousin_8 : decode cL_isCousin 8 = .ok (.istore 5, 2) := by decide +kernel
theorem dL_isCousin_10 : decode cL_isCousin 10 = .ok (.iload 5, 2) := by decide +kernel
theorem dL_isCousin_12 : decode cL_isCousin 12 = .ok (.bipush 24, 2) := by decide +kernel
theorem dL_isCousin_14 : decode cL_isCousin 14 = .ok (.if_icmp .ge 80, 3) := by decide +kernel
theorem dL_isCousin_17 : decode cL_isCousin 17 = .ok (.aload_n 0, 1) := by decide +kernel
theorem dL_isCousin_18 : decode cL_isCousin 18 = .ok (.iload_n 1, 1) := by decide +kernel
theorem dL_isCousin_19 : decode cL_isCousin 19 = .ok (.iload 5, 2) := by decide +kernel
theorem dL_isCousin_21 : decode cL_isCousin 21 = .ok (.invokestatic 17, 3) := by decide +kernel
theorem dL_isCousin_24 : decode cL_isCousin 24 = .ok (.istore 6, 2) := by decide +kernel
theorem dL_isCousin_26 : decode cL_isCousin 26 = .ok (.aload_n 0, 1) := by decide +kernel
theorem dL_isCousin_27 : decode cL_isCousin 27 = .ok (.iload 5, 2) := by decide +kernel
theorem dL_isCousin_29 : decode cL_isCousin 29 = .ok (.iconst 5, 1) := by decide +kernel
theorem dL_isCousin_30 : decode cL_isCousin 30 = .ok (.iload_n 1, 1) := by decide +kernel
theorem dL_isCousin_31 : decode cL_isCousin 31 = .ok (.iadd, 1) := by decide +kernel
theorem dL_isCousin_32 : decode cL_isCousin 32 = .ok (.invokevirtual 8, 3) := by decide +kernel
theorem dL_isCousin_35 : decode cL_isCousin 35 = .ok (.iload 6, 2) := by decide +kernel
theorem dL_isCousin_37 : decode cL_isCousin 37 = .ok (.if_icmp .eq 5, 3) := by decide +kernel
theorem dL_isCousin_40 : decode cL_isCousin 40 = .ok (.iconst 0, 1) := by decide +kernel
theorem dL_isCousin_41 : decode cL_isCousin 41 = .ok (.ireturn, 1) := by decide +kernel
theorem dL_isCousin_42 : decode cL_isCousin 42 = .ok (.iload 4, 2) := by decide +kernel
theorem dL_isCousin_44 : decode cL_isCousin 44 = .ok (.iload 6, 2) := by decide +kernel
theorem dL_isCousin_46 : decode cL_isCousin 46 = .ok (.iadd, 1) := by decide +kernel
theorem dL_isCousin_47 : decode cL_isCousin 47 = .ok (.istore 4, 2) := by decide +kernel
theorem dL_isCousin_49 : decode cL_isCousin 49 = .ok (.iload_n 2, 1) := by decide +kernel
theorem dL_isCousin_50 : decode cL_isCousin 50 = .ok (.aload_n 0, 1) := by decide +kernel
theorem dL_isCousin_51 : decode cL_isCousin 51 = .ok (.iload 5, 2) := by decide +kernel
theorem dL_isCousin_53 : decode cL_isCousin 53 = .ok (.iconst 4, 1) := by decide +kernel
theorem dL_isCousin_54 : decode cL_isCousin 54 = .ok (.invokevirtual 8, 3) := by decide +kernel
theorem dL_isCousin_57 : decode cL_isCousin 57 = .ok (.iload_n 1, 1) := by decide +kernel
theorem dL_isCousin_58 : decode cL_isCousin 58 = .ok (.if_icmp .ne 7, 3) := by decide +kernel
theorem dL_isCousin_61 : decode cL_isCousin 61 = .ok (.iconst 1, 1) := by decide +kernel
theorem dL_isCousin_62 : decode cL_isCousin 62 = .ok (.goto 4, 3) := by decide +kernel
theorem dL_isCousin_65 : decode cL_isCousin 65 = .ok (.iconst 0, 1) := by decide +kernel
theorem dL_isCousin_66 : decode cL_isCousin 66 = .ok (.iadd, 1) := by decide +kernel
theorem dL_isCousin_67 : decode cL_isCousin 67 = .ok (.istore_n 2, 1) := by decide +kernel
theorem dL_isCousin_68 : decode cL_isCousin 68 = .ok (.iload_n 3, 1) := by decide +kernel
theorem dL_isCousin_69 : decode cL_isCousin 69 = .ok (.aload_n 0, 1) := by decide +kernel
theorem dL_isCousin_70 : decode cL_isCousin 70 = .ok (.iload 5, 2) := by decide +kernel
theorem dL_isCousin_72 : decode cL_isCousin 72 = .ok (.iconst 4, 1) := by decide +kernel
theorem dL_isCousin_73 : decode cL_isCousin 73 = .ok (.invokevirtual 8, 3) := by decide +kernel
theorem dL_isCousin_76 : decode cL_isCousin 76 = .ok (.iload_n 1, 1) := by decide +kernel
theorem dL_isCousin_77 : decode cL_isCousin 77 = .ok (.if_icmp .ne 8, 3) := by decide +kernel
theorem dL_isCousin_80 : decode cL_isCousin 80 = .ok (.iload 6, 2) := by decide +kernel
theorem dL_isCousin_82 : decode cL_isCousin 82 = .ok (.goto 4, 3) := by decide +kernel
theorem dL_isCousin_85 : decode cL_isCousin 85 = .ok (.iconst 0, 1) := by decide +kernel
theorem dL_isCousin_86 : decode cL_isCousin 86 = .ok (.iadd, 1) := by decide +kernel
theorem dL_isCousin_87 : decode cL_isCousin 87 = .ok (.istore_n 3, 1) := by decide +kernel
theorem dL_isCousin_88 : decode cL_isCousin 88 = .ok (.iinc 5 1, 3) := by decide +kernel
theorem dL_isCousin_91 : decode cL_isCousin 91 = .ok (.goto (-81), 3) := by decide +kernel
theorem dL_isCousin_94 : decode cL_isCousin 94 = .ok (.iconst 0, 1) := by decide +kernel
theorem dL_isCousin_95 : decode cL_isCousin 95 = .ok (.istore 5, 2) := by decide +kernel
theorem dL_isCousin_97 : decode cL_isCousin 97 = .ok (.iconst 0, 1) := by decide +kernel
theorem dL_isCousin_98 : decode cL_isCousin 98 = .ok (.istore 6, 2) := by decide +kernel
theorem dL_isCousin_100 : decode cL_isCousin 100 = .ok (.iconst 0, 1) := by decide +kernel
theorem dL_isCousin_101 : decode cL_isCousin 101 = .ok (.istore 7, 2) := by decide +kernel
theorem dL_isCousin_103 : decode cL_isCousin 103 = .ok (.iconst 0, 1) := by decide +kernel
theorem dL_isCousin_104 : decode cL_isCousin 104 = .ok (.istore 8, 2) := by decide +kernel
theorem dL_isCousin_106 : decode cL_isCousin 106 = .ok (.iconst 0, 1) := by decide +kernel
theorem dL_isCousin_107 : decode cL_isCousin 107 = .ok (.istore 9, 2) := by decide +kernel
theorem dL_isCousin_109 : decode cL_isCousin 109 = .ok (.iload 9, 2) := by decide +kernel
theorem dL_isCousin_111 : decode cL_isCousin 111 = .ok (.bipush 7, 2) := by decide +kernel
theorem dL_isCousin_113 : decode cL_isCousin 113 = .ok (.if_icmp .ge 189, 3) := by decide +kernel
theorem dL_isCousin_116 : decode cL_isCousin 116 = .ok (.iload 9, 2) := by decide +kernel
theorem dL_isCousin_118 : decode cL_isCousin 118 = .ok (.iload_n 1, 1) := by decide +kernel
theorem dL_isCousin_119 : decode cL_isCousin 119 = .ok (.if_icmp .ne 6, 3) := by decide +kernel
theorem dL_isCousin_122 : decode cL_isCousin 122 = .ok (.goto 174, 3) := by decide +kernel
theorem dL_isCousin_125 : decode cL_isCousin 125 = .ok (.aload_n 0, 1) := by decide +kernel
theorem dL_isCousin_126 : decode cL_isCousin 126 = .ok (.iload_n 1, 1) := by decide +kernel
theorem dL_isCousin_127 : decode cL_isCousin 127 = .ok (.iload 9, 2) := by decide +kernel
theorem dL_isCousin_129 : decode cL_isCousin 129 = .ok (.iconst 0, 1) := by decide +kernel
theorem dL_isCousin_130 : decode cL_isCousin 130 = .ok (.invokevirtual 23, 3) := by decide +kernel
theorem dL_isCousin_133 : decode cL_isCousin 133 = .ok (.istore 10, 2) := by decide +kernel
theorem dL_isCousin_135 : decode cL_isCousin 135 = .ok (.iconst 0, 1) := by decide +kernel
theorem dL_isCousin_136 : decode cL_isCousin 136 = .ok (.istore 11, 2) := by decide +kernel
theorem dL_isCousin_138 : decode cL_isCousin 138 = .ok (.iconst 0, 1) := by decide +kernel
theorem dL_isCousin_139 : decode cL_isCousin 139 = .ok (.istore 12, 2) := by decide +kernel
theorem dL_isCousin_141 : decode cL_isCousin 141 = .ok (.iload 12, 2) := by decide +kernel
theorem dL_isCousin_143 : decode cL_isCousin 143 = .ok (.bipush 24, 2) := by decide +kernel
theorem dL_isCousin_145 : decode cL_isCousin 145 = .ok (.if_icmp .ge 39, 3) := by decide +kernel
theorem dL_isCousin_148 : decode cL_isCousin 148 = .ok (.iload 11, 2) := by decide +kernel
theorem dL_isCousin_150 : decode cL_isCousin 150 = .ok (.aload_n 0, 1) := by decide +kernel
theorem dL_isCousin_151 : decode cL_isCousin 151 = .ok (.iload 12, 2) := by decide +kernel
theorem dL_isCousin_153 : decode cL_isCousin 153 = .ok (.iconst 4, 1) := by decide +kernel
theorem dL_isCousin_154 : decode cL_isCousin 154 = .ok (.invokevirtual 8, 3) := by decide +kernel
theorem dL_isCousin_157 : decode cL_isCousin 157 = .ok (.iload 9, 2) := by decide +kernel
theorem dL_isCousin_159 : decode cL_isCousin 159 = .ok (.if_icmp .ne 15, 3) := by decide +kernel
theorem dL_isCousin_162 : decode cL_isCousin 162 = .ok (.aload_n 0, 1) := by decide +kernel
theorem dL_isCousin_163 : decode cL_isCousin 163 = .ok (.iload 12, 2) := by decide +kernel
theorem dL_isCousin_165 : decode cL_isCousin 165 = .ok (.iconst 5, 1) := by decide +kernel
theorem dL_isCousin_166 : decode cL_isCousin 166 = .ok (.iload_n 1, 1) := by decide +kernel
theorem dL_isCousin_167 : decode cL_isCousin 167 = .ok (.iadd, 1) := by decide +kernel
theorem dL_isCousin_168 : decode cL_isCousin 168 = .ok (.invokevirtual 8, 3) := by decide +kernel
theorem dL_isCousin_171 : decode cL_isCousin 171 = .ok (.goto 4, 3) := by decide +kernel
theorem dL_isCousin_174 : decode cL_isCousin 174 = .ok (.iconst 0, 1) := by decide +kernel
theorem dL_isCousin_175 : decode cL_isCousin 175 = .ok (.iadd, 1) := by decide +kernel
theorem dL_isCousin_176 : decode cL_isCousin 176 = .ok (.istore 11, 2) := by decide +kernel
theorem dL_isCousin_178 : decode cL_isCousin 178 = .ok (.iinc 12 1, 3) := by decide +kernel
theorem dL_isCousin_181 : decode cL_isCousin 181 = .ok (.goto (-40), 3) := by decide +kernel
theorem dL_isCousin_184 : decode cL_isCousin 184 = .ok (.iload 11, 2) := by decide +kernel
theorem dL_isCousin_186 : decode cL_isCousin 186 = .ok (.bipush 10, 2) := by decide +kernel
theorem dL_isCousin_188 : decode cL_isCousin 188 = .ok (.iload 10, 2) := by decide +kernel
theorem dL_isCousin_190 : decode cL_isCousin 190 = .ok (.iadd, 1) := by decide +kernel
theorem dL_isCousin_191 : decode cL_isCousin 191 = .ok (.imul, 1) := by decide +kernel
theorem dL_isCousin_192 : decode cL_isCousin 192 = .ok (.bipush 10, 2) := by decide +kernel
theorem dL_isCousin_194 : decode cL_isCousin 194 = .ok (.idiv, 1) := by decide +kernel
theorem dL_isCousin_195 : decode cL_isCousin 195 = .ok (.istore 12, 2) := by decide +kernel
theorem dL_isCousin_197 : decode cL_isCousin 197 = .ok (.iload 12, 2) := by decide +kernel
theorem dL_isCousin_199 : decode cL_isCousin 199 = .ok (.iload_n 3, 1) := by decide +kernel
theorem dL_isCousin_200 : decode cL_isCousin 200 = .ok (.if_icmp .le 10, 3) := by decide +kernel
theorem dL_isCousin_203 : decode cL_isCousin 203 = .ok (.iload 12, 2) := by decide +kernel
theorem dL_isCousin_205 : decode cL_isCousin 205 = .ok (.iload_n 3, 1) := by decide +kernel
theorem dL_isCousin_206 : decode cL_isCousin 206 = .ok (.isub, 1) := by decide +kernel
theorem dL_isCousin_207 : decode cL_isCousin 207 = .ok (.goto 4, 3) := by decide +kernel
theorem dL_isCousin_210 : decode cL_isCousin 210 = .ok (.iconst 0, 1) := by decide +kernel
theorem dL_isCousin_211 : decode cL_isCousin 211 = .ok (.istore 13, 2) := by decide +kernel
theorem dL_isCousin_213 : decode cL_isCousin 213 = .ok (.aload_n 0, 1) := by decide +kernel
theorem dL_isCousin_214 : decode cL_isCousin 214 = .ok (.iload_n 1, 1) := by decide +kernel
theorem dL_isCousin_215 : decode cL_isCousin 215 = .ok (.iload 9, 2) := by decide +kernel
theorem dL_isCousin_217 : decode cL_isCousin 217 = .ok (.iconst 1, 1) := by decide +kernel
theorem dL_isCousin_218 : decode cL_isCousin 218 = .ok (.invokevirtual 23, 3) := by decide +kernel
theorem dL_isCousin_221 : decode cL_isCousin 221 = .ok (.iload 11, 2) := by decide +kernel
theorem dL_isCousin_223 : decode cL_isCousin 223 = .ok (.if_icmp .ne 41, 3) := by decide +kernel
theorem dL_isCousin_226 : decode cL_isCousin 226 = .ok (.aload_n 0, 1) := by decide +kernel
theorem dL_isCousin_227 : decode cL_isCousin 227 = .ok (.iload_n 1, 1) := by decide +kernel
theorem dL_isCousin_228 : decode cL_isCousin 228 = .ok (.iload 9, 2) := by decide +kernel
theorem dL_isCousin_230 : decode cL_isCousin 230 = .ok (.iconst 2, 1) := by decide +kernel
theorem dL_isCousin_231 : decode cL_isCousin 231 = .ok (.invokevirtual 23, 3) := by decide +kernel
theorem dL_isCousin_234 : decode cL_isCousin 234 = .ok (.iload 12, 2) := by decide +kernel
theorem dL_isCousin_236 : decode cL_isCousin 236 = .ok (.if_icmp .ne 28, 3) := by decide +kernel
theorem dL_isCousin_239 : decode cL_isCousin 239 = .ok (.aload_n 0, 1) := by decide +kernel
theorem dL_isCousin_240 : decode cL_isCousin 240 = .ok (.iload_n 1, 1) := by decide +kernel
theorem dL_isCousin_241 : decode cL_isCousin 241 = .ok (.iload 9, 2) := by decide +kernel
theorem dL_isCousin_243 : decode cL_isCousin 243 = .ok (.iconst 3, 1) := by decide +kernel
theorem dL_isCousin_244 : decode cL_isCousin 244 = .ok (.invokevirtual 23, 3) := by decide +kernel
theorem dL_isCousin_247 : decode cL_isCousin 247 = .ok (.iload 13, 2) := by decide +kernel
theorem dL_isCousin_249 : decode cL_isCousin 249 = .ok (.if_icmp .ne 15, 3) := by decide +kernel
theorem dL_isCousin_252 : decode cL_isCousin 252 = .ok (.iload 10, 2) := by decide +kernel
theorem dL_isCousin_254 : decode cL_isCousin 254 = .ok (.ifCond .lt 10, 3) := by decide +kernel
theorem dL_isCousin_257 : decode cL_isCousin 257 = .ok (.iload 10, 2) := by decide +kernel
theorem dL_isCousin_259 : decode cL_isCousin 259 = .ok (.bipush 9, 2) := by decide +kernel
theorem dL_isCousin_261 : decode cL_isCousin 261 = .ok (.if_icmp .le 5, 3) := by decide +kernel
theorem dL_isCousin_264 : decode cL_isCousin 264 = .ok (.iconst 0, 1) := by decide +kernel
theorem dL_isCousin_265 : decode cL_isCousin 265 = .ok (.ireturn, 1) := by decide +kernel
theorem dL_isCousin_266 : decode cL_isCousin 266 = .ok (.iload 5, 2) := by decide +kernel
theorem dL_isCousin_268 : decode cL_isCousin 268 = .ok (.iload 10, 2) := by decide +kernel
theorem dL_isCousin_270 : decode cL_isCousin 270 = .ok (.iadd, 1) := by decide +kernel
theorem dL_isCousin_271 : decode cL_isCousin 271 = .ok (.istore 5, 2) := by decide +kernel
theorem dL_isCousin_273 : decode cL_isCousin 273 = .ok (.iload 6, 2) := by decide +kernel
theorem dL_isCousin_275 : decode cL_isCousin 275 = .ok (.iload 13, 2) := by decide +kernel
theorem dL_isCousin_277 : decode cL_isCousin 277 = .ok (.iadd, 1) := by decide +kernel
theorem dL_isCousin_278 : decode cL_isCousin 278 = .ok (.istore 6, 2) := by decide +kernel
theorem dL_isCousin_280 : decode cL_isCousin 280 = .ok (.iload 13, 2) := by decide +kernel
theorem dL_isCousin_282 : decode cL_isCousin 282 = .ok (.iload 7, 2) := by decide +kernel
theorem dL_isCousin_284 : decode cL_isCousin 284 = .ok (.if_icmp .le 8, 3) := by decide +kernel
theorem dL_isCousin_287 : decode cL_isCousin 287 = .ok (.iload 13, 2) := by decide +kernel
theorem dL_isCousin_289 : decode cL_isCousin 289 = .ok (.goto 5, 3) := by decide +kernel
theorem dL_isCousin_292 : decode cL_isCousin 292 = .ok (.iload 7, 2) := by decide +kernel
theorem dL_isCousin_294 : decode cL_isCousin 294 = .ok (.istore 7, 2) := by decide +kernel
theorem dL_isCousin_296 : decode cL_isCousin 296 = .ok (.iinc 9 1, 3) := by decide +kernel
theorem dL_isCousin_299 : decode cL_isCousin 299 = .ok (.goto (-190), 3) := by decide +kernel
theorem dL_isCousin_302 : decode cL_isCousin 302 = .ok (.iconst 0, 1) := by decide +kernel
theorem dL_isCousin_303 : decode cL_isCousin 303 = .ok (.istore 9, 2) := by decide +kernel
theorem dL_isCousin_305 : decode cL_isCousin 305 = .ok (.iload 9, 2) := by decide +kernel
theorem dL_isCousin_307 : decode cL_isCousin 307 = .ok (.bipush 7, 2) := by decide +kernel
theorem dL_isCousin_309 : decode cL_isCousin 309 = .ok (.if_icmp .ge 60, 3) := by decide +kernel
theorem dL_isCousin_312 : decode cL_isCousin 312 = .ok (.aload_n 0, 1) := by decide +kernel
theorem dL_isCousin_313 : decode cL_isCousin 313 = .ok (.iconst 0, 1) := by decide +kernel
theorem dL_isCousin_314 : decode cL_isCousin 314 = .ok (.invokevirtual 27, 3) := by decide +kernel
theorem dL_isCousin_317 : decode cL_isCousin 317 = .ok (.ifCond .ne 7, 3) := by decide +kernel
theorem dL_isCousin_320 : decode cL_isCousin 320 = .ok (.iconst 0, 1) := by decide +kernel
theorem dL_isCousin_321 : decode cL_isCousin 321 = .ok (.goto 14, 3) := by decide +kernel
theorem dL_isCousin_324 : decode cL_isCousin 324 = .ok (.aload_n 0, 1) := by decide +kernel
theorem dL_isCousin_325 : decode cL_isCousin 325 = .ok (.iload 9, 2) := by decide +kernel
theorem dL_isCousin_327 : decode cL_isCousin 327 = .ok (.bipush 8, 2) := by decide +kernel
theorem dL_isCousin_329 : decode cL_isCousin 329 = .ok (.invokevirtual 14, 3) := by decide +kernel
theorem dL_isCousin_332 : decode cL_isCousin 332 = .ok (.iload 5, 2) := by decide +kernel
theorem dL_isCousin_334 : decode cL_isCousin 334 = .ok (.isub, 1) := by decide +kernel
theorem dL_isCousin_335 : decode cL_isCousin 335 = .ok (.istore 10, 2) := by decide +kernel
theorem dL_isCousin_337 : decode cL_isCousin 337 = .ok (.iload 8, 2) := by decide +kernel
theorem dL_isCousin_339 : decode cL_isCousin 339 = .ok (.iload 10, 2) := by decide +kernel
theorem dL_isCousin_341 : decode cL_isCousin 341 = .ok (.ifCond .gt 14, 3) := by decide +kernel
theorem dL_isCousin_344 : decode cL_isCousin 344 = .ok (.iload 10, 2) := by decide +kernel
theorem dL_isCousin_346 : decode cL_isCousin 346 = .ok (.ifCond .ne 13, 3) := by decide +kernel
theorem dL_isCousin_349 : decode cL_isCousin 349 = .ok (.iload 9, 2) := by decide +kernel
theorem dL_isCousin_351 : decode cL_isCousin 351 = .ok (.iload_n 1, 1) := by decide +kernel
theorem dL_isCousin_352 : decode cL_isCousin 352 = .ok (.if_icmp .ge 7, 3) := by decide +kernel
theorem dL_isCousin_355 : decode cL_isCousin 355 = .ok (.iconst 1, 1) := by decide +kernel
theorem dL_isCousin_356 : decode cL_isCousin 356 = .ok (.goto 4, 3) := by decide +kernel
theorem dL_isCousin_359 : decode cL_isCousin 359 = .ok (.iconst 0, 1) := by decide +kernel
theorem dL_isCousin_360 : decode cL_isCousin 360 = .ok (.iadd, 1) := by decide +kernel
theorem dL_isCousin_361 : decode cL_isCousin 361 = .ok (.istore 8, 2) := by decide +kernel
theorem dL_isCousin_363 : decode cL_isCousin 363 = .ok (.iinc 9 1, 3) := by decide +kernel
theorem dL_isCousin_366 : decode cL_isCousin 366 = .ok (.goto (-61), 3) := by decide +kernel
theorem dL_isCousin_369 : decode cL_isCousin 369 = .ok (.aload_n 0, 1) := by decide +kernel
theorem dL_isCousin_370 : decode cL_isCousin 370 = .ok (.iload_n 1, 1) := by decide +kernel
theorem dL_isCousin_371 : decode cL_isCousin 371 = .ok (.iconst 4, 1) := by decide +kernel
theorem dL_isCousin_372 : decode cL_isCousin 372 = .ok (.invokevirtual 14, 3) := by decide +kernel
theorem dL_isCousin_375 : decode cL_isCousin 375 = .ok (.iload_n 2, 1) := by decide +kernel
theorem dL_isCousin_376 : decode cL_isCousin 376 = .ok (.if_icmp .ne 103, 3) := by decide +kernel
theorem dL_isCousin_379 : decode cL_isCousin 379 = .ok (.aload_n 0, 1) := by decide +kernel
theorem dL_isCousin_380 : decode cL_isCousin 380 = .ok (.iload_n 1, 1) := by decide +kernel
theorem dL_isCousin_381 : decode cL_isCousin 381 = .ok (.iconst 5, 1) := by decide +kernel
theorem dL_isCousin_382 : decode cL_isCousin 382 = .ok (.invokevirtual 14, 3) := by decide +kernel
theorem dL_isCousin_385 : decode cL_isCousin 385 = .ok (.iload_n 3, 1) := by decide +kernel
theorem dL_isCousin_386 : decode cL_isCousin 386 = .ok (.if_icmp .ne 93, 3) := by decide +kernel
theorem dL_isCousin_389 : decode cL_isCousin 389 = .ok (.aload_n 0, 1) := by decide +kernel
theorem dL_isCousin_390 : decode cL_isCousin 390 = .ok (.iload_n 1, 1) := by decide +kernel
theorem dL_isCousin_391 : decode cL_isCousin 391 = .ok (.bipush 6, 2) := by decide +kernel
theorem dL_isCousin_393 : decode cL_isCousin 393 = .ok (.invokevirtual 14, 3) := by decide +kernel
theorem dL_isCousin_396 : decode cL_isCousin 396 = .ok (.iload 4, 2) := by decide +kernel
theorem dL_isCousin_398 : decode cL_isCousin 398 = .ok (.if_icmp .ne 81, 3) := by decide +kernel
theorem dL_isCousin_401 : decode cL_isCousin 401 = .ok (.aload_n 0, 1) := by decide +kernel
theorem dL_isCousin_402 : decode cL_isCousin 402 = .ok (.iload_n 1, 1) := by decide +kernel
theorem dL_isCousin_403 : decode cL_isCousin 403 = .ok (.bipush 7, 2) := by decide +kernel
theorem dL_isCousin_405 : decode cL_isCousin 405 = .ok (.invokevirtual 14, 3) := by decide +kernel
theorem dL_isCousin_408 : decode cL_isCousin 408 = .ok (.iload 4, 2) := by decide +kernel
theorem dL_isCousin_410 : decode cL_isCousin 410 = .ok (.ifCond .ne 7, 3) := by decide +kernel
theorem dL_isCousin_413 : decode cL_isCousin 413 = .ok (.iconst 0, 1) := by decide +kernel
theorem dL_isCousin_414 : decode cL_isCousin 414 = .ok (.goto 10, 3) := by decide +kernel
theorem dL_isCousin_417 : decode cL_isCousin 417 = .ok (.bipush 100, 2) := by decide +kernel
theorem dL_isCousin_419 : decode cL_isCousin 419 = .ok (.iload_n 3, 1) := by decide +kernel
theorem dL_isCousin_420 : decode cL_isCousin 420 = .ok (.imul, 1) := by decide +kernel
theorem dL_isCousin_421 : decode cL_isCousin 421 = .ok (.iload 4, 2) := by decide +kernel
theorem dL_isCousin_423 : decode cL_isCousin 423 = .ok (.idiv, 1) := by decide +kernel
theorem dL_isCousin_424 : decode cL_isCousin 424 = .ok (.if_icmp .ne 55, 3) := by decide +kernel
theorem dL_isCousin_427 : decode cL_isCousin 427 = .ok (.aload_n 0, 1) := by decide +kernel
theorem dL_isCousin_428 : decode cL_isCousin 428 = .ok (.iload_n 1, 1) := by decide +kernel
theorem dL_isCousin_429 : decode cL_isCousin 429 = .ok (.bipush 8, 2) := by decide +kernel
theorem dL_isCousin_431 : decode cL_isCousin 431 = .ok (.invokevirtual 14, 3) := by decide +kernel
theorem dL_isCousin_434 : decode cL_isCousin 434 = .ok (.iload 5, 2) := by decide +kernel
theorem dL_isCousin_436 : decode cL_isCousin 436 = .ok (.if_icmp .ne 43, 3) := by decide +kernel
theorem dL_isCousin_439 : decode cL_isCousin 439 = .ok (.aload_n 0, 1) := by decide +kernel
theorem dL_isCousin_440 : decode cL_isCousin 440 = .ok (.iload_n 1, 1) := by decide +kernel
theorem dL_isCousin_441 : decode cL_isCousin 441 = .ok (.bipush 9, 2) := by decide +kernel
theorem dL_isCousin_443 : decode cL_isCousin 443 = .ok (.invokevirtual 14, 3) := by decide +kernel
theorem dL_isCousin_446 : decode cL_isCousin 446 = .ok (.iload 6, 2) := by decide +kernel
theorem dL_isCousin_448 : decode cL_isCousin 448 = .ok (.if_icmp .ne 31, 3) := by decide +kernel
theorem dL_isCousin_451 : decode cL_isCousin 451 = .ok (.aload_n 0, 1) := by decide +kernel
theorem dL_isCousin_452 : decode cL_isCousin 452 = .ok (.iload_n 1, 1) := by decide +kernel
theorem dL_isCousin_453 : decode cL_isCousin 453 = .ok (.bipush 10, 2) := by decide +kernel
theorem dL_isCousin_455 : decode cL_isCousin 455 = .ok (.invokevirtual 14, 3) := by decide +kernel
theorem dL_isCousin_458 : decode cL_isCousin 458 = .ok (.iload 7, 2) := by decide +kernel
theorem dL_isCousin_460 : decode cL_isCousin 460 = .ok (.if_icmp .ne 19, 3) := by decide +kernel
theorem dL_isCousin_463 : decode cL_isCousin 463 = .ok (.aload_n 0, 1) := by decide +kernel
theorem dL_isCousin_464 : decode cL_isCousin 464 = .ok (.iload_n 1, 1) := by decide +kernel
theorem dL_isCousin_465 : decode cL_isCousin 465 = .ok (.bipush 12, 2) := by decide +kernel
theorem dL_isCousin_467 : decode cL_isCousin 467 = .ok (.invokevirtual 14, 3) := by decide +kernel
theorem dL_isCousin_470 : decode cL_isCousin 470 = .ok (.iload 8, 2) := by decide +kernel
theorem dL_isCousin_472 : decode cL_isCousin 472 = .ok (.if_icmp .ne 7, 3) := by decide +kernel
theorem dL_isCousin_475 : decode cL_isCousin 475 = .ok (.iconst 1, 1) := by decide +kernel
theorem dL_isCousin_476 : decode cL_isCousin 476 = .ok (.goto 4, 3) := by decide +kernel
theorem dL_isCousin_479 : decode cL_isCousin 479 = .ok (.iconst 0, 1) := by decide +kernel
theorem dL_isCousin_480 : decode cL_isCousin 480 = .ok (.ireturn, 1) := by decide +kernel
set_option maxRecDepth 20000 in
theorem ggL_isWhole_X5_plot : GoodIn wsL_isWhole wsX5_plot := goodIn_r _ [5, 6, 7, 8, 9, 10, 4, 11, 12, 13, 14, 15, 16, 17, 160, 161, 162, 163, 164, 165, 166, 167, 168, 169, 170, 171, 172, 173, 174, 175] rfl (by decide +kernel)
set_option maxRecDepth 20000 in
theorem gL_isWhole_X5_plot : GoodIn wsL_isWhole (wsV RL 8 RX5 yX5_plot wsX5_plot) := goodIn_app (goodIn_of _ (by decide +kernel)) ggL_isWhole_X5_plot
set_option maxRecDepth 20000 in
theorem ggL_isWhole_X5_cousin : GoodIn wsL_isWhole wsX5_cousin := goodIn_r _ [21, 6, 22, 23, 8, 24, 25, 4, 26, 27, 28, 29, 30, 31, 32, 33, 34, 13, 14, 15, 16, 17, 35, 36, 37, 38, 39, 40, 41, 42, 43, 44, 45, 46, 47, 48, 49, 50, 51, 52, 53, 54, 55, 56, 57, 58, 59, 60, 61, 62, 63, 64, 65, 66, 67, 68, 69, 70, 71, 72, 73, 74, 75, 76, 77, 78, 79, 80, 81, 82, 83, 84, 85, 86, 87, 88, 89, 90, 91, 92, 93, 160, 161, 162, 163, 164, 165, 166, 167, 168, 169, 170, 171, 172, 173, 174, 175, 176, 177, 178, 179, 180] rfl (by decide +kernel)
set_option maxRecDepth 20000 in
theorem gL_isWhole_X5_cousin : GoodIn wsL_isWhole (wsV RL 14 RX5 yX5_cousin wsX5_cousin) := goodIn_app (goodIn_of _ (by decide +kernel)) ggL_isWhole_X5_cousin
set_option maxRecDepth 20000 in
theorem ggL_isWhole_X5_pair : GoodIn wsL_isWhole wsX5_pair := goodIn_r _ [97, 23, 6, 8, 24, 25, 4, 26, 27, 28, 29, 30, 31, 32, 33, 34, 13, 14, 15, 16, 17, 98, 99, 100, 101, 55, 40, 41, 42, 43, 102, 71, 72, 73, 74, 103, 63, 64, 65, 66, 67, 68, 69, 70, 75, 104, 105, 106, 107, 108, 109, 160, 161, 162, 163, 164, 165, 166, 167, 168, 169, 170, 171, 172, 173, 174, 175, 176, 177, 178, 179, 180] rfl (by decide +kernel)
set_option maxRecDepth 20000 in
theorem gL_isWhole_X5_pair : GoodIn wsL_isWhole (wsV RL 23 RX5 yX5_pair wsX5_pair) := goodIn_app (goodIn_of _ (by decide +kernel)) ggL_isWhole_X5_pair
set_option maxRecDepth 20000 in
theorem ggL_isWhole_X5_total : GoodIn wsL_isWhole wsX5_total := goodIn_r _ [113, 23, 6, 8, 114, 115, 116, 117, 118, 119, 120, 121, 27, 28, 29, 30, 31, 32, 33, 25, 4, 26, 34, 13, 14, 15, 16, 17, 35, 36, 37, 38, 39, 122, 123, 124, 125, 60, 61, 126, 57, 58, 59, 62, 63, 64, 65, 66, 67, 68, 69, 70, 71, 72, 73, 74, 75, 41, 42, 43, 127, 128, 129, 130, 131, 77, 78, 79, 132, 133, 134, 135, 136, 105, 106, 107, 108, 109, 99, 100, 101, 55, 160, 161, 162, 163, 164, 165, 166, 167, 168, 169, 170, 171, 172, 173, 174, 175, 181, 182, 183, 184, 185, 186, 187, 188, 189, 190, 176, 177, 178, 179, 180] rfl (by decide +kernel)
set_option maxRecDepth 20000 in
theorem gL_isWhole_X5_total : GoodIn wsL_isWhole (wsV RL 27 RX5 yX5_total wsX5_total) := goodIn_app (goodIn_of _ (by decide +kernel)) ggL_isWhole_X5_total
set_option maxRecDepth 20000 in
theorem ggL_isWhole_X5_bestTrade : GoodIn wsL_isWhole wsX5_bestTrade := goodIn_r _ [140, 23, 6, 8, 141, 142, 143, 27, 28, 29, 30, 31, 32, 33, 25, 4, 26, 34, 13, 14, 15, 16, 17, 144, 145, 146, 147, 148, 149, 150, 136, 105, 106, 107, 108, 109, 99, 100, 101, 55, 75, 41, 42, 43, 151, 152, 153, 154, 155, 156, 157, 158, 159, 123, 124, 125, 60, 61, 126, 57, 58, 59, 62, 63, 64, 65, 66, 67, 68, 69, 70, 71, 72, 73, 74, 160, 161, 162, 163, 164, 165, 166, 167, 168, 169, 170, 171, 172, 173, 174, 175, 176, 177, 178, 179, 180] rfl (by decide +kernel)
set_option maxRecDepth 20000 in
theorem gL_isWhole_X5_bestTrade : GoodIn wsL_isWhole (wsV RL 31 RX5 yX5_bestTrade wsX5_bestTrade) := goodIn_app (goodIn_of _ (by decide +kernel)) ggL_isWhole_X5_bestTrade
theorem dL_isWhole_0 : decode cL_isWhole 0 = .ok (.iconst 0, 1) := by decide +kernel
theorem dL_isWhole_1 : decode cL_isWhole 1 = .ok (.istore_n 1, 1) := by decide +kernel
theorem dL_isWhole_2 : decode cL_isWhole 2 = .ok (.iconst 0, 1) := by decide +kernel
theorem dL_isWhole_3 : decode cL_isWhole 3 = .ok (.istore_n 2, 1) := by decide +kernel
theorem dL_isWhole_4 : decode cL_isWhole 4 = .ok (.iconst 0, 1) := by decide +kernel
theorem dL_isWhole_5 : decode cL_isWhole 5 = .ok (.istore_n 3, 1) := by decide +kernel
theorem dL_isWhole_6 : decode cL_isWhole 6 = .ok (.iconst 0, 1) := by decide +kernel
theorem dL_isWhole_7 : decode cL_isWhole 7 = .ok (.istore 4, 2) := by decide +kernel
theorem dL_isWhole_9 : decode cL_isWhole 9 = .ok (.iconst 0, 1) := by decide +kernel
theorem dL_isWhole_10 : decode cL_isWhole 10 = .ok (.istore 5, 2) := by decide +kernel
theorem dL_isWhole_12 : decode cL_isWhole 12 = .ok (.iconst 0, 1) := by decide +kernel
theorem dL_isWhole_13 : decode cL_isWhole 13 = .ok (.istore 6, 2) := by decide +kernel
theorem dL_isWhole_15 : decode cL_isWhole 15 = .ok (.iload 6, 2) := by decide +kernel
theorem dL_isWhole_17 : decode cL_isWhole 17 = .ok (.bipush 24, 2) := by decide +kernel
theorem dL_isWhole_19 : decode cL_isWhole 19 = .ok (.if_icmp .ge 47, 3) := by decide +kernel
theorem dL_isWhole_22 : decode cL_isWhole 22 = .ok (.aload_n 0, 1) := by decide +kernel
theorem dL_isWhole_23 : decode cL_isWhole 23 = .ok (.iload 6, 2) := by decide +kernel
theorem dL_isWhole_25 : decode cL_isWhole 25 = .ok (.iconst 4, 1) := by decide +kernel
theorem dL_isWhole_26 : decode cL_isWhole 26 = .ok (.invokevirtual 8, 3) := by decide +kernel
theorem dL_isWhole_29 : decode cL_isWhole 29 = .ok (.istore 7, 2) := by decide +kernel
theorem dL_isWhole_31 : decode cL_isWhole 31 = .ok (.iload_n 1, 1) := by decide +kernel
theorem dL_isWhole_32 : decode cL_isWhole 32 = .ok (.iload 7, 2) := by decide +kernel
theorem dL_isWhole_34 : decode cL_isWhole 34 = .ok (.bipush 7, 2) := by decide +kernel
theorem dL_isWhole_36 : decode cL_isWhole 36 = .ok (.if_icmp .ne 7, 3) := by decide +kernel
theorem dL_isWhole_39 : decode cL_isWhole 39 = .ok (.iconst 1, 1) := by decide +kernel
theorem dL_isWhole_40 : decode cL_isWhole 40 = .ok (.goto 4, 3) := by decide +kernel
theorem dL_isWhole_43 : decode cL_isWhole 43 = .ok (.iconst 0, 1) := by decide +kernel
theorem dL_isWhole_44 : decode cL_isWhole 44 = .ok (.iadd, 1) := by decide +kernel
theorem dL_isWhole_45 : decode cL_isWhole 45 = .ok (.istore_n 1, 1) := by decide +kernel
theorem dL_isWhole_46 : decode cL_isWhole 46 = .ok (.iload 7, 2) := by decide +kernel
theorem dL_isWhole_48 : decode cL_isWhole 48 = .ok (.ifCond .lt 10, 3) := by decide +kernel
theorem dL_isWhole_51 : decode cL_isWhole 51 = .ok (.iload 7, 2) := by decide +kernel
theorem dL_isWhole_53 : decode cL_isWhole 53 = .ok (.bipush 7, 2) := by decide +kernel
theorem dL_isWhole_55 : decode cL_isWhole 55 = .ok (.if_icmp .le 5, 3) := by decide +kernel
theorem dL_isWhole_58 : decode cL_isWhole 58 = .ok (.iconst 0, 1) := by decide +kernel
theorem dL_isWhole_59 : decode cL_isWhole 59 = .ok (.ireturn, 1) := by decide +kernel
theorem dL_isWhole_60 : decode cL_isWhole 60 = .ok (.iinc 6 1, 3) := by decide +kernel
theorem dL_isWhole_63 : decode cL_isWhole 63 = .ok (.goto (-48), 3) := by decide +kernel
theorem dL_isWhole_66 : decode cL_isWhole 66 = .ok (.iconst 0, 1) := by decide +kernel
theorem dL_isWhole_67 : decode cL_isWhole 67 = .ok (.istore 6, 2) := by decide +kernel
theorem dL_isWhole_69 : decode cL_isWhole 69 = .ok (.iload 6, 2) := by decide +kernel
theorem dL_isWhole_71 : decode cL_isWhole 71 = .ok (.bipush 7, 2) := by decide +kernel
theorem dL_isWhole_73 : decode cL_isWhole 73 = .ok (.if_icmp .ge 269, 3) := by decide +kernel
theorem dL_isWhole_76 : decode cL_isWhole 76 = .ok (.iload_n 2, 1) := by decide +kernel
theorem dL_isWhole_77 : decode cL_isWhole 77 = .ok (.aload_n 0, 1) := by decide +kernel
theorem dL_isWhole_78 : decode cL_isWhole 78 = .ok (.iload 6, 2) := by decide +kernel
theorem dL_isWhole_80 : decode cL_isWhole 80 = .ok (.bipush 9, 2) := by decide +kernel
theorem dL_isWhole_82 : decode cL_isWhole 82 = .ok (.invokevirtual 14, 3) := by decide +kernel
theorem dL_isWhole_85 : decode cL_isWhole 85 = .ok (.iadd, 1) := by decide +kernel
theorem dL_isWhole_86 : decode cL_isWhole 86 = .ok (.istore_n 2, 1) := by decide +kernel
theorem dL_isWhole_87 : decode cL_isWhole 87 = .ok (.iload_n 3, 1) := by decide +kernel
theorem dL_isWhole_88 : decode cL_isWhole 88 = .ok (.aload_n 0, 1) := by decide +kernel
theorem dL_isWhole_89 : decode cL_isWhole 89 = .ok (.iload 6, 2) := by decide +kernel
theorem dL_isWhole_91 : decode cL_isWhole 91 = .ok (.bipush 11, 2) := by decide +kernel
theorem dL_isWhole_93 : decode cL_isWhole 93 = .ok (.invokevirtual 14, 3) := by decide +kernel
theorem dL_isWhole_96 : decode cL_isWhole 96 = .ok (.iadd, 1) := by decide +kernel
theorem dL_isWhole_97 : decode cL_isWhole 97 = .ok (.istore_n 3, 1) := by decide +kernel
theorem dL_isWhole_98 : decode cL_isWhole 98 = .ok (.iload 4, 2) := by decide +kernel
theorem dL_isWhole_100 : decode cL_isWhole 100 = .ok (.aload_n 0, 1) := by decide +kernel
theorem dL_isWhole_101 : decode cL_isWhole 101 = .ok (.iload 6, 2) := by decide +kernel
theorem dL_isWhole_103 : decode cL_isWhole 103 = .ok (.bipush 10, 2) := by decide +kernel
theorem dL_isWhole_105 : decode cL_isWhole 105 = .ok (.invokevirtual 14, 3) := by decide +kernel
theorem dL_isWhole_108 : decode cL_isWhole 108 = .ok (.ifCond .ne 7, 3) := by decide +kernel
theorem dL_isWhole_111 : decode cL_isWhole 111 = .ok (.iconst 1, 1) := by decide +kernel
theorem dL_isWhole_112 : decode cL_isWhole 112 = .ok (.goto 4, 3) := by decide +kernel
theorem dL_isWhole_115 : decode cL_isWhole 115 = .ok (.iconst 0, 1) := by decide +kernel
theorem dL_isWhole_116 : decode cL_isWhole 116 = .ok (.iadd, 1) := by decide +kernel
theorem dL_isWhole_117 : decode cL_isWhole 117 = .ok (.istore 4, 2) := by decide +kernel
theorem dL_isWhole_119 : decode cL_isWhole 119 = .ok (.iload 6, 2) := by decide +kernel
theorem dL_isWhole_121 : decode cL_isWhole 121 = .ok (.iconst 1, 1) := by decide +kernel
theorem dL_isWhole_122 : decode cL_isWhole 122 = .ok (.iadd, 1) := by decide +kernel
theorem dL_isWhole_123 : decode cL_isWhole 123 = .ok (.istore 7, 2) := by decide +kernel
theorem dL_isWhole_125 : decode cL_isWhole 125 = .ok (.iload 7, 2) := by decide +kernel
theorem dL_isWhole_127 : decode cL_isWhole 127 = .ok (.bipush 7, 2) := by decide +kernel
theorem dL_isWhole_129 : decode cL_isWhole 129 = .ok (.if_icmp .ge 207, 3) := by decide +kernel
theorem dL_isWhole_132 : decode cL_isWhole 132 = .ok (.aload_n 0, 1) := by decide +kernel
theorem dL_isWhole_133 : decode cL_isWhole 133 = .ok (.iload 6, 2) := by decide +kernel
theorem dL_isWhole_135 : decode cL_isWhole 135 = .ok (.iload 7, 2) := by decide +kernel
theorem dL_isWhole_137 : decode cL_isWhole 137 = .ok (.iconst 4, 1) := by decide +kernel
theorem dL_isWhole_138 : decode cL_isWhole 138 = .ok (.invokevirtual 23, 3) := by decide +kernel
theorem dL_isWhole_141 : decode cL_isWhole 141 = .ok (.istore 8, 2) := by decide +kernel
theorem dL_isWhole_143 : decode cL_isWhole 143 = .ok (.aload_n 0, 1) := by decide +kernel
theorem dL_isWhole_144 : decode cL_isWhole 144 = .ok (.iload 7, 2) := by decide +kernel
theorem dL_isWhole_146 : decode cL_isWhole 146 = .ok (.iload 6, 2) := by decide +kernel
theorem dL_isWhole_148 : decode cL_isWhole 148 = .ok (.iconst 4, 1) := by decide +kernel
theorem dL_isWhole_149 : decode cL_isWhole 149 = .ok (.invokevirtual 23, 3) := by decide +kernel
theorem dL_isWhole_152 : decode cL_isWhole 152 = .ok (.istore 9, 2) := by decide +kernel
theorem dL_isWhole_154 : decode cL_isWhole 154 = .ok (.iload 5, 2) := by decide +kernel
theorem dL_isWhole_156 : decode cL_isWhole 156 = .ok (.iload 8, 2) := by decide +kernel
theorem dL_isWhole_158 : decode cL_isWhole 158 = .ok (.ifCond .ne 7, 3) := by decide +kernel
theorem dL_isWhole_161 : decode cL_isWhole 161 = .ok (.iconst 1, 1) := by decide +kernel
theorem dL_isWhole_162 : decode cL_isWhole 162 = .ok (.goto 4, 3) := by decide +kernel
theorem dL_isWhole_165 : decode cL_isWhole 165 = .ok (.iconst 0, 1) := by decide +kernel
theorem dL_isWhole_166 : decode cL_isWhole 166 = .ok (.iadd, 1) := by decide +kernel
theorem dL_isWhole_167 : decode cL_isWhole 167 = .ok (.istore 5, 2) := by decide +kernel
theorem dL_isWhole_169 : decode cL_isWhole 169 = .ok (.aload_n 0, 1) := by decide +kernel
theorem dL_isWhole_170 : decode cL_isWhole 170 = .ok (.iload 6, 2) := by decide +kernel
theorem dL_isWhole_172 : decode cL_isWhole 172 = .ok (.iload 7, 2) := by decide +kernel
theorem dL_isWhole_174 : decode cL_isWhole 174 = .ok (.iconst 0, 1) := by decide +kernel
theorem dL_isWhole_175 : decode cL_isWhole 175 = .ok (.invokevirtual 23, 3) := by decide +kernel
theorem dL_isWhole_178 : decode cL_isWhole 178 = .ok (.aload_n 0, 1) := by decide +kernel
theorem dL_isWhole_179 : decode cL_isWhole 179 = .ok (.iconst 1, 1) := by decide +kernel
theorem dL_isWhole_180 : decode cL_isWhole 180 = .ok (.invokevirtual 27, 3) := by decide +kernel
theorem dL_isWhole_183 : decode cL_isWhole 183 = .ok (.if_icmp .ge 20, 3) := by decide +kernel
theorem dL_isWhole_186 : decode cL_isWhole 186 = .ok (.aload_n 0, 1) := by decide +kernel
theorem dL_isWhole_187 : decode cL_isWhole 187 = .ok (.iload 7, 2) := by decide +kernel
theorem dL_isWhole_189 : decode cL_isWhole 189 = .ok (.iload 6, 2) := by decide +kernel
theorem dL_isWhole_191 : decode cL_isWhole 191 = .ok (.iconst 0, 1) := by decide +kernel
theorem dL_isWhole_192 : decode cL_isWhole 192 = .ok (.invokevirtual 23, 3) := by decide +kernel
theorem dL_isWhole_195 : decode cL_isWhole 195 = .ok (.aload_n 0, 1) := by decide +kernel
theorem dL_isWhole_196 : decode cL_isWhole 196 = .ok (.iconst 1, 1) := by decide +kernel
theorem dL_isWhole_197 : decode cL_isWhole 197 = .ok (.invokevirtual 27, 3) := by decide +kernel
theorem dL_isWhole_200 : decode cL_isWhole 200 = .ok (.if_icmp .lt 7, 3) := by decide +kernel
theorem dL_isWhole_203 : decode cL_isWhole 203 = .ok (.iconst 1, 1) := by decide +kernel
theorem dL_isWhole_204 : decode cL_isWhole 204 = .ok (.goto 4, 3) := by decide +kernel
theorem dL_isWhole_207 : decode cL_isWhole 207 = .ok (.iconst 0, 1) := by decide +kernel
theorem dL_isWhole_208 : decode cL_isWhole 208 = .ok (.istore 10, 2) := by decide +kernel
theorem dL_isWhole_210 : decode cL_isWhole 210 = .ok (.aload_n 0, 1) := by decide +kernel
theorem dL_isWhole_211 : decode cL_isWhole 211 = .ok (.iload 6, 2) := by decide +kernel
theorem dL_isWhole_213 : decode cL_isWhole 213 = .ok (.iload 7, 2) := by decide +kernel
theorem dL_isWhole_215 : decode cL_isWhole 215 = .ok (.iconst 1, 1) := by decide +kernel
theorem dL_isWhole_216 : decode cL_isWhole 216 = .ok (.invokevirtual 23, 3) := by decide +kernel
theorem dL_isWhole_219 : decode cL_isWhole 219 = .ok (.aload_n 0, 1) := by decide +kernel
theorem dL_isWhole_220 : decode cL_isWhole 220 = .ok (.iload 6, 2) := by decide +kernel
theorem dL_isWhole_222 : decode cL_isWhole 222 = .ok (.iconst 5, 1) := by decide +kernel
theorem dL_isWhole_223 : decode cL_isWhole 223 = .ok (.invokevirtual 14, 3) := by decide +kernel
theorem dL_isWhole_226 : decode cL_isWhole 226 = .ok (.if_icmp .le 7, 3) := by decide +kernel
theorem dL_isWhole_229 : decode cL_isWhole 229 = .ok (.iconst 1, 1) := by decide +kernel
theorem dL_isWhole_230 : decode cL_isWhole 230 = .ok (.goto 4, 3) := by decide +kernel
theorem dL_isWhole_233 : decode cL_isWhole 233 = .ok (.iconst 0, 1) := by decide +kernel
theorem dL_isWhole_234 : decode cL_isWhole 234 = .ok (.istore 11, 2) := by decide +kernel
theorem dL_isWhole_236 : decode cL_isWhole 236 = .ok (.aload_n 0, 1) := by decide +kernel
theorem dL_isWhole_237 : decode cL_isWhole 237 = .ok (.iload 7, 2) := by decide +kernel
theorem dL_isWhole_239 : decode cL_isWhole 239 = .ok (.iload 6, 2) := by decide +kernel
theorem dL_isWhole_241 : decode cL_isWhole 241 = .ok (.iconst 1, 1) := by decide +kernel
theorem dL_isWhole_242 : decode cL_isWhole 242 = .ok (.invokevirtual 23, 3) := by decide +kernel
theorem dL_isWhole_245 : decode cL_isWhole 245 = .ok (.aload_n 0, 1) := by decide +kernel
theorem dL_isWhole_246 : decode cL_isWhole 246 = .ok (.iload 7, 2) := by decide +kernel
theorem dL_isWhole_248 : decode cL_isWhole 248 = .ok (.iconst 5, 1) := by decide +kernel
theorem dL_isWhole_249 : decode cL_isWhole 249 = .ok (.invokevirtual 14, 3) := by decide +kernel
theorem dL_isWhole_252 : decode cL_isWhole 252 = .ok (.if_icmp .le 7, 3) := by decide +kernel
theorem dL_isWhole_255 : decode cL_isWhole 255 = .ok (.iconst 1, 1) := by decide +kernel
theorem dL_isWhole_256 : decode cL_isWhole 256 = .ok (.goto 4, 3) := by decide +kernel
theorem dL_isWhole_259 : decode cL_isWhole 259 = .ok (.iconst 0, 1) := by decide +kernel
theorem dL_isWhole_260 : decode cL_isWhole 260 = .ok (.istore 12, 2) := by decide +kernel
theorem dL_isWhole_262 : decode cL_isWhole 262 = .ok (.iload 8, 2) := by decide +kernel
theorem dL_isWhole_264 : decode cL_isWhole 264 = .ok (.iload 10, 2) := by decide +kernel
theorem dL_isWhole_266 : decode cL_isWhole 266 = .ok (.ifCond .eq 7, 3) := by decide +kernel
theorem dL_isWhole_269 : decode cL_isWhole 269 = .ok (.iconst 1, 1) := by decide +kernel
theorem dL_isWhole_270 : decode cL_isWhole 270 = .ok (.goto 22, 3) := by decide +kernel
theorem dL_isWhole_273 : decode cL_isWhole 273 = .ok (.iload 11, 2) := by decide +kernel
theorem dL_isWhole_275 : decode cL_isWhole 275 = .ok (.ifCond .ne 7, 3) := by decide +kernel
theorem dL_isWhole_278 : decode cL_isWhole 278 = .ok (.iconst 2, 1) := by decide +kernel
theorem dL_isWhole_279 : decode cL_isWhole 279 = .ok (.goto 13, 3) := by decide +kernel
theorem dL_isWhole_282 : decode cL_isWhole 282 = .ok (.iload 12, 2) := by decide +kernel
theorem dL_isWhole_284 : decode cL_isWhole 284 = .ok (.ifCond .ne 7, 3) := by decide +kernel
theorem dL_isWhole_287 : decode cL_isWhole 287 = .ok (.iconst 3, 1) := by decide +kernel
theorem dL_isWhole_288 : decode cL_isWhole 288 = .ok (.goto 4, 3) := by decide +kernel
theorem dL_isWhole_291 : decode cL_isWhole 291 = .ok (.iconst 0, 1) := by decide +kernel
theorem dL_isWhole_292 : decode cL_isWhole 292 = .ok (.if_icmp .ne 36, 3) := by decide +kernel
theorem dL_isWhole_295 : decode cL_isWhole 295 = .ok (.iload 9, 2) := by decide +kernel
theorem dL_isWhole_297 : decode cL_isWhole 297 = .ok (.iload 10, 2) := by decide +kernel
theorem dL_isWhole_299 : decode cL_isWhole 299 = .ok (.ifCond .eq 7, 3) := by decide +kernel
theorem dL_isWhole_302 : decode cL_isWhole 302 = .ok (.iconst 1, 1) := by decide +kernel
theorem dL_isWhole_303 : decode cL_isWhole 303 = .ok (.goto 22, 3) := by decide +kernel
theorem dL_isWhole_306 : decode cL_isWhole 306 = .ok (.iload 12, 2) := by decide +kernel
theorem dL_isWhole_308 : decode cL_isWhole 308 = .ok (.ifCond .ne 7, 3) := by decide +kernel
theorem dL_isWhole_311 : decode cL_isWhole 311 = .ok (.iconst 2, 1) := by decide +kernel
theorem dL_isWhole_312 : decode cL_isWhole 312 = .ok (.goto 13, 3) := by decide +kernel
theorem dL_isWhole_315 : decode cL_isWhole 315 = .ok (.iload 11, 2) := by decide +kernel
theorem dL_isWhole_317 : decode cL_isWhole 317 = .ok (.ifCond .ne 7, 3) := by decide +kernel
theorem dL_isWhole_320 : decode cL_isWhole 320 = .ok (.iconst 3, 1) := by decide +kernel
theorem dL_isWhole_321 : decode cL_isWhole 321 = .ok (.goto 4, 3) := by decide +kernel
theorem dL_isWhole_324 : decode cL_isWhole 324 = .ok (.iconst 0, 1) := by decide +kernel
theorem dL_isWhole_325 : decode cL_isWhole 325 = .ok (.if_icmp .eq 5, 3) := by decide +kernel
theorem dL_isWhole_328 : decode cL_isWhole 328 = .ok (.iconst 0, 1) := by decide +kernel
theorem dL_isWhole_329 : decode cL_isWhole 329 = .ok (.ireturn, 1) := by decide +kernel
theorem dL_isWhole_330 : decode cL_isWhole 330 = .ok (.iinc 7 1, 3) := by decide +kernel
theorem dL_isWhole_333 : decode cL_isWhole 333 = .ok (.goto (-208), 3) := by decide +kernel
theorem dL_isWhole_336 : decode cL_isWhole 336 = .ok (.iinc 6 1, 3) := by decide +kernel
theorem dL_isWhole_339 : decode cL_isWhole 339 = .ok (.goto (-270), 3) := by decide +kernel
theorem dL_isWhole_342 : decode cL_isWhole 342 = .ok (.aload_n 0, 1) := by decide +kernel
theorem dL_isWhole_343 : decode cL_isWhole 343 = .ok (.iconst 2, 1) := by decide +kernel
theorem dL_isWhole_344 : decode cL_isWhole 344 = .ok (.invokevirtual 27, 3) := by decide +kernel
theorem dL_isWhole_347 : decode cL_isWhole 347 = .ok (.iload_n 1, 1) := by decide +kernel
theorem dL_isWhole_348 : decode cL_isWhole 348 = .ok (.if_icmp .ne 84, 3) := by decide +kernel
theorem dL_isWhole_351 : decode cL_isWhole 351 = .ok (.aload_n 0, 1) := by decide +kernel
theorem dL_isWhole_352 : decode cL_isWhole 352 = .ok (.iconst 3, 1) := by decide +kernel
theorem dL_isWhole_353 : decode cL_isWhole 353 = .ok (.invokevirtual 27, 3) := by decide +kernel
theorem dL_isWhole_356 : decode cL_isWhole 356 = .ok (.iload_n 2, 1) := by decide +kernel
theorem dL_isWhole_357 : decode cL_isWhole 357 = .ok (.if_icmp .ne 75, 3) := by decide +kernel
theorem dL_isWhole_360 : decode cL_isWhole 360 = .ok (.iload_n 2, 1) := by decide +kernel
theorem dL_isWhole_361 : decode cL_isWhole 361 = .ok (.iload_n 3, 1) := by decide +kernel
theorem dL_isWhole_362 : decode cL_isWhole 362 = .ok (.if_icmp .ne 70, 3) := by decide +kernel
theorem dL_isWhole_365 : decode cL_isWhole 365 = .ok (.aload_n 0, 1) := by decide +kernel
theorem dL_isWhole_366 : decode cL_isWhole 366 = .ok (.iconst 4, 1) := by decide +kernel
theorem dL_isWhole_367 : decode cL_isWhole 367 = .ok (.invokevirtual 27, 3) := by decide +kernel
theorem dL_isWhole_370 : decode cL_isWhole 370 = .ok (.iload 4, 2) := by decide +kernel
theorem dL_isWhole_372 : decode cL_isWhole 372 = .ok (.if_icmp .ne 60, 3) := by decide +kernel
theorem dL_isWhole_375 : decode cL_isWhole 375 = .ok (.aload_n 0, 1) := by decide +kernel
theorem dL_isWhole_376 : decode cL_isWhole 376 = .ok (.iconst 5, 1) := by decide +kernel
theorem dL_isWhole_377 : decode cL_isWhole 377 = .ok (.invokevirtual 27, 3) := by decide +kernel
theorem dL_isWhole_380 : decode cL_isWhole 380 = .ok (.iload 5, 2) := by decide +kernel
theorem dL_isWhole_382 : decode cL_isWhole 382 = .ok (.if_icmp .ne 50, 3) := by decide +kernel
theorem dL_isWhole_385 : decode cL_isWhole 385 = .ok (.aload_n 0, 1) := by decide +kernel
theorem dL_isWhole_386 : decode cL_isWhole 386 = .ok (.bipush 7, 2) := by decide +kernel
theorem dL_isWhole_388 : decode cL_isWhole 388 = .ok (.invokevirtual 27, 3) := by decide +kernel
theorem dL_isWhole_391 : decode cL_isWhole 391 = .ok (.aload_n 0, 1) := by decide +kernel
theorem dL_isWhole_392 : decode cL_isWhole 392 = .ok (.bipush 6, 2) := by decide +kernel
theorem dL_isWhole_394 : decode cL_isWhole 394 = .ok (.invokevirtual 27, 3) := by decide +kernel
theorem dL_isWhole_397 : decode cL_isWhole 397 = .ok (.if_icmp .gt 35, 3) := by decide +kernel
theorem dL_isWhole_400 : decode cL_isWhole 400 = .ok (.aload_n 0, 1) := by decide +kernel
theorem dL_isWhole_401 : decode cL_isWhole 401 = .ok (.iconst 0, 1) := by decide +kernel
theorem dL_isWhole_402 : decode cL_isWhole 402 = .ok (.invokevirtual 31, 3) := by decide +kernel
theorem dL_isWhole_405 : decode cL_isWhole 405 = .ok (.bipush (-5), 2) := by decide +kernel
theorem dL_isWhole_407 : decode cL_isWhole 407 = .ok (.if_icmp .ne 7, 3) := by decide +kernel
theorem dL_isWhole_410 : decode cL_isWhole 410 = .ok (.iconst 1, 1) := by decide +kernel
theorem dL_isWhole_411 : decode cL_isWhole 411 = .ok (.goto 4, 3) := by decide +kernel
theorem dL_isWhole_414 : decode cL_isWhole 414 = .ok (.iconst 0, 1) := by decide +kernel
theorem dL_isWhole_415 : decode cL_isWhole 415 = .ok (.iload 5, 2) := by decide +kernel
theorem dL_isWhole_417 : decode cL_isWhole 417 = .ok (.ifCond .ne 7, 3) := by decide +kernel
theorem dL_isWhole_420 : decode cL_isWhole 420 = .ok (.iconst 1, 1) := by decide +kernel
theorem dL_isWhole_421 : decode cL_isWhole 421 = .ok (.goto 4, 3) := by decide +kernel
theorem dL_isWhole_424 : decode cL_isWhole 424 = .ok (.iconst 0, 1) := by decide +kernel
theorem dL_isWhole_425 : decode cL_isWhole 425 = .ok (.if_icmp .ne 7, 3) := by decide +kernel
theorem dL_isWhole_428 : decode cL_isWhole 428 = .ok (.iconst 1, 1) := by decide +kernel
theorem dL_isWhole_429 : decode cL_isWhole 429 = .ok (.goto 4, 3) := by decide +kernel
theorem dL_isWhole_432 : decode cL_isWhole 432 = .ok (.iconst 0, 1) := by decide +kernel
theorem dL_isWhole_433 : decode cL_isWhole 433 = .ok (.ireturn, 1) := by decide +kernel
set_option maxRecDepth 20000 in
theorem ggL_isDivided_X5_ifDivided : GoodIn wsL_isDivided wsX5_ifDivided := goodIn_r _ [5, 6, 7, 8, 9, 10, 11, 12, 13, 4, 14, 15, 16, 17, 18, 19, 20, 21, 22, 23, 24, 25, 26, 27, 28, 29, 30, 31, 32, 33, 34, 35, 36, 37, 38, 39, 40, 41, 42, 43, 44, 45, 46, 47, 48, 49, 50, 51, 52, 53, 54, 55, 56, 57, 58, 59, 60, 61, 62, 63, 64, 65, 66, 67, 68, 69, 70, 71, 72, 73, 74, 75, 76, 77, 78, 79, 80, 81, 82, 83, 84, 85, 86, 87, 88, 89, 90, 91, 92, 93, 94, 95, 96, 97, 98, 99, 100, 101, 102, 103, 104, 105, 106, 107, 108, 109, 110, 111, 112, 113, 114, 115, 116, 117, 118, 119, 120, 121, 122, 123, 124, 125, 126, 233, 234, 235, 236, 237, 238, 239, 240, 241, 242, 243, 244, 245, 246, 247, 248, 249, 250, 251, 252, 253, 254, 255, 256, 257, 258, 259, 260, 261] rfl (by decide +kernel)
set_option maxRecDepth 20000 in
theorem gL_isDivided_X5_ifDivided : GoodIn wsL_isDivided (wsV RL 34 RX5 yX5_ifDivided wsX5_ifDivided) := goodIn_app (goodIn_of _ (by decide +kernel)) ggL_isDivided_X5_ifDivided
set_option maxRecDepth 20000 in
theorem ggL_isDivided_X5_total : GoodIn wsL_isDivided wsX5_total := goodIn_r _ [130, 9, 131, 132, 133, 134, 135, 136, 137, 138, 139, 140, 92, 93, 94, 95, 96, 97, 98, 99, 4, 100, 101, 65, 66, 34, 67, 63, 141, 142, 143, 144, 145, 102, 103, 104, 105, 53, 54, 106, 107, 108, 109, 110, 111, 112, 113, 114, 115, 116, 117, 118, 119, 120, 121, 122, 123, 124, 125, 126, 146, 147, 148, 149, 150, 151, 152, 153, 154, 155, 156, 157, 158, 159, 160, 161, 162, 163, 78, 79, 80, 41, 233, 234, 235, 236, 237, 238, 239, 248, 249, 250, 251, 252, 253, 254, 255, 256, 262, 263, 264, 265, 266, 267, 268, 269, 270, 271, 257, 258, 259, 260, 261] rfl (by decide +kernel)
set_option maxRecDepth 20000 in
theorem gL_isDivided_X5_total : GoodIn wsL_isDivided (wsV RL 27 RX5 yX5_total wsX5_total) := goodIn_app (goodIn_of _ (by decide +kernel)) ggL_isDivided_X5_total
set_option maxRecDepth 20000 in
theorem ggL_isDivided_X5_divide : GoodIn wsL_isDivided wsX5_divide := goodIn_r _ [167, 137, 131, 6, 7, 12, 13, 4, 14, 168, 169, 170, 171, 172, 173, 174, 175, 176, 177, 178, 179, 180, 181, 34, 182, 183, 184, 185, 186, 187, 188, 41, 145, 36, 63, 189, 190, 191, 192, 193, 194, 195, 10, 132, 196, 134, 135, 8, 15, 16, 17, 18, 19, 20, 21, 22, 23, 24, 25, 26, 27, 28, 29, 30, 31, 32, 33, 35, 37, 38, 39, 40, 42, 43, 44, 45, 46, 47, 48, 49, 50, 51, 52, 53, 54, 55, 56, 57, 58, 59, 60, 61, 62, 64, 65, 66, 67, 68, 69, 70, 71, 72, 73, 74, 75, 76, 77, 78, 79, 80, 81, 82, 83, 84, 85, 86, 87, 88, 89, 90, 91, 233, 234, 235, 236, 237, 238, 239, 240, 241, 242, 243, 244, 245, 246, 247, 262, 263, 248, 249, 250, 251, 252, 253, 254, 255, 256] rfl (by decide +kernel)
set_option maxRecDepth 20000 in
theorem gL_isDivided_X5_divide : GoodIn wsL_isDivided (wsV RL 37 RX5 yX5_divide wsX5_divide) := goodIn_app (goodIn_of _ (by decide +kernel)) ggL_isDivided_X5_divide
set_option maxRecDepth 20000 in
theorem ggL_isDivided_X5_plot : GoodIn wsL_isDivided wsX5_plot := goodIn_r _ [200, 131, 201, 132, 202, 203, 4, 204, 205, 65, 66, 34, 67, 63, 233, 234, 235, 236, 237, 238, 239, 248, 249, 250, 251, 252, 253, 254, 255, 256] rfl (by decide +kernel)
set_option maxRecDepth 20000 in
theorem gL_isDivided_X5_plot : GoodIn wsL_isDivided (wsV RL 8 RX5 yX5_plot wsX5_plot) := goodIn_app (goodIn_of _ (by decide +kernel)) ggL_isDivided_X5_plot
set_option maxRecDepth 20000 in
theorem ggL_isDivided_L_ones : GoodIn wsL_isDivided wsL_ones := goodIn_r _ [209] rfl (by decide +kernel)
set_option maxRecDepth 20000 in
theorem gL_isDivided_L_ones : GoodIn wsL_isDivided (va_wsS RL 40 yL_ones wsL_ones) := goodIn_app (goodIn_of _ (by decide +kernel)) ggL_isDivided_L_ones
set_option maxRecDepth 20000 in
theorem ggL_isDivided_X5_cousin : GoodIn wsL_isDivided wsX5_cousin := goodIn_r _ [213, 131, 214, 9, 132, 215, 99, 4, 100, 92, 93, 94, 95, 96, 97, 98, 101, 65, 66, 34, 67, 63, 141, 142, 143, 144, 145, 216, 124, 125, 126, 217, 60, 61, 62, 218, 219, 220, 221, 38, 39, 40, 41, 222, 107, 108, 109, 53, 54, 110, 111, 112, 113, 114, 115, 116, 117, 118, 119, 120, 121, 122, 123, 223, 151, 152, 153, 224, 225, 226, 227, 228, 229, 230, 231, 232, 32, 33, 35, 36, 37, 233, 234, 235, 236, 237, 238, 239, 248, 249, 250, 251, 252, 253, 254, 255, 256, 257, 258, 259, 260, 261] rfl (by decide +kernel)
set_option maxRecDepth 20000 in
theorem gL_isDivided_X5_cousin : GoodIn wsL_isDivided (wsV RL 14 RX5 yX5_cousin wsX5_cousin) := goodIn_app (goodIn_of _ (by decide +kernel)) ggL_isDivided_X5_cousin
theorem dL_isDivided_0 : decode cL_isDivided 0 = .ok (.aload_n 0, 1) := by decide +kernel
theorem dL_isDivided_1 : decode cL_isDivided 1 = .ok (.iload_n 1, 1) := by decide +kernel
theorem dL_isDivided_2 : decode cL_isDivided 2 = .ok (.iconst 0, 1) := by decide +kernel
theorem dL_isDivided_3 : decode cL_isDivided 3 = .ok (.invokevirtual 34, 3) := by decide +kernel
theorem dL_isDivided_6 : decode cL_isDivided 6 = .ok (.istore_n 2, 1) := by decide +kernel
theorem dL_isDivided_7 : decode cL_isDivided 7 = .ok (.aload_n 0, 1) := by decide +kernel
theorem dL_isDivided_8 : decode cL_isDivided 8 = .ok (.iload_n 1, 1) := by decide +kernel
theorem dL_isDivided_9 : decode cL_isDivided 9 = .ok (.iconst 1, 1) := by decide +kernel
theorem dL_isDivided_10 : decode cL_isDivided 10 = .ok (.invokevirtual 34, 3) := by decide +kernel
theorem dL_isDivided_13 : decode cL_isDivided 13 = .ok (.istore_n 3, 1) := by decide +kernel
theorem dL_isDivided_14 : decode cL_isDivided 14 = .ok (.aload_n 0, 1) := by decide +kernel
theorem dL_isDivided_15 : decode cL_isDivided 15 = .ok (.iload_n 1, 1) := by decide +kernel
theorem dL_isDivided_16 : decode cL_isDivided 16 = .ok (.iconst 2, 1) := by decide +kernel
theorem dL_isDivided_17 : decode cL_isDivided 17 = .ok (.invokevirtual 34, 3) := by decide +kernel
theorem dL_isDivided_20 : decode cL_isDivided 20 = .ok (.istore 4, 2) := by decide +kernel
theorem dL_isDivided_22 : decode cL_isDivided 22 = .ok (.aload_n 0, 1) := by decide +kernel
theorem dL_isDivided_23 : decode cL_isDivided 23 = .ok (.iload_n 1, 1) := by decide +kernel
theorem dL_isDivided_24 : decode cL_isDivided 24 = .ok (.iconst 3, 1) := by decide +kernel
theorem dL_isDivided_25 : decode cL_isDivided 25 = .ok (.invokevirtual 34, 3) := by decide +kernel
theorem dL_isDivided_28 : decode cL_isDivided 28 = .ok (.istore 5, 2) := by decide +kernel
theorem dL_isDivided_30 : decode cL_isDivided 30 = .ok (.aload_n 0, 1) := by decide +kernel
theorem dL_isDivided_31 : decode cL_isDivided 31 = .ok (.iload_n 1, 1) := by decide +kernel
theorem dL_isDivided_32 : decode cL_isDivided 32 = .ok (.iconst 4, 1) := by decide +kernel
theorem dL_isDivided_33 : decode cL_isDivided 33 = .ok (.invokevirtual 34, 3) := by decide +kernel
theorem dL_isDivided_36 : decode cL_isDivided 36 = .ok (.istore 6, 2) := by decide +kernel
theorem dL_isDivided_38 : decode cL_isDivided 38 = .ok (.aload_n 0, 1) := by decide +kernel
theorem dL_isDivided_39 : decode cL_isDivided 39 = .ok (.bipush 6, 2) := by decide +kernel
theorem dL_isDivided_41 : decode cL_isDivided 41 = .ok (.invokevirtual 27, 3) := by decide +kernel
theorem dL_isDivided_44 : decode cL_isDivided 44 = .ok (.istore 7, 2) := by decide +kernel
theorem dL_isDivided_46 : decode cL_isDivided 46 = .ok (.aload_n 0, 1) := by decide +kernel
theorem dL_isDivided_47 : decode cL_isDivided 47 = .ok (.bipush 7, 2) := by decide +kernel
theorem dL_isDivided_49 : decode cL_isDivided 49 = .ok (.invokevirtual 27, 3) := by decide +kernel
theorem dL_isDivided_52 : decode cL_isDivided 52 = .ok (.istore 8, 2) := by decide +kernel
theorem dL_isDivided_54 : decode cL_isDivided 54 = .ok (.aload_n 0, 1) := by decide +kernel
theorem dL_isDivided_55 : decode cL_isDivided 55 = .ok (.iconst 1, 1) := by decide +kernel
theorem dL_isDivided_56 : decode cL_isDivided 56 = .ok (.invokevirtual 27, 3) := by decide +kernel
theorem dL_isDivided_59 : decode cL_isDivided 59 = .ok (.istore 9, 2) := by decide +kernel
theorem dL_isDivided_61 : decode cL_isDivided 61 = .ok (.aload_n 0, 1) := by decide +kernel
theorem dL_isDivided_62 : decode cL_isDivided 62 = .ok (.iload_n 1, 1) := by decide +kernel
theorem dL_isDivided_63 : decode cL_isDivided 63 = .ok (.invokevirtual 37, 3) := by decide +kernel
theorem dL_isDivided_66 : decode cL_isDivided 66 = .ok (.iload_n 2, 1) := by decide +kernel
theorem dL_isDivided_67 : decode cL_isDivided 67 = .ok (.if_icmp .ne 63, 3) := by decide +kernel
theorem dL_isDivided_70 : decode cL_isDivided 70 = .ok (.aload_n 0, 1) := by decide +kernel
theorem dL_isDivided_71 : decode cL_isDivided 71 = .ok (.bipush 6, 2) := by decide +kernel
theorem dL_isDivided_73 : decode cL_isDivided 73 = .ok (.invokevirtual 27, 3) := by decide +kernel
theorem dL_isDivided_76 : decode cL_isDivided 76 = .ok (.iload 7, 2) := by decide +kernel
theorem dL_isDivided_78 : decode cL_isDivided 78 = .ok (.iload_n 2, 1) := by decide +kernel
theorem dL_isDivided_79 : decode cL_isDivided 79 = .ok (.iadd, 1) := by decide +kernel
theorem dL_isDivided_80 : decode cL_isDivided 80 = .ok (.if_icmp .ne 50, 3) := by decide +kernel
theorem dL_isDivided_83 : decode cL_isDivided 83 = .ok (.aload_n 0, 1) := by decide +kernel
theorem dL_isDivided_84 : decode cL_isDivided 84 = .ok (.bipush 7, 2) := by decide +kernel
theorem dL_isDivided_86 : decode cL_isDivided 86 = .ok (.invokevirtual 27, 3) := by decide +kernel
theorem dL_isDivided_89 : decode cL_isDivided 89 = .ok (.iload 8, 2) := by decide +kernel
theorem dL_isDivided_91 : decode cL_isDivided 91 = .ok (.iload_n 3, 1) := by decide +kernel
theorem dL_isDivided_92 : decode cL_isDivided 92 = .ok (.iadd, 1) := by decide +kernel
theorem dL_isDivided_93 : decode cL_isDivided 93 = .ok (.if_icmp .ne 37, 3) := by decide +kernel
theorem dL_isDivided_96 : decode cL_isDivided 96 = .ok (.aload_n 0, 1) := by decide +kernel
theorem dL_isDivided_97 : decode cL_isDivided 97 = .ok (.iconst 3, 1) := by decide +kernel
theorem dL_isDivided_98 : decode cL_isDivided 98 = .ok (.invokevirtual 27, 3) := by decide +kernel
theorem dL_isDivided_101 : decode cL_isDivided 101 = .ok (.iload 4, 2) := by decide +kernel
theorem dL_isDivided_103 : decode cL_isDivided 103 = .ok (.if_icmp .ne 27, 3) := by decide +kernel
theorem dL_isDivided_106 : decode cL_isDivided 106 = .ok (.aload_n 0, 1) := by decide +kernel
theorem dL_isDivided_107 : decode cL_isDivided 107 = .ok (.iconst 0, 1) := by decide +kernel
theorem dL_isDivided_108 : decode cL_isDivided 108 = .ok (.iconst 4, 1) := by decide +kernel
theorem dL_isDivided_109 : decode cL_isDivided 109 = .ok (.invokevirtual 8, 3) := by decide +kernel
theorem dL_isDivided_112 : decode cL_isDivided 112 = .ok (.iload 5, 2) := by decide +kernel
theorem dL_isDivided_114 : decode cL_isDivided 114 = .ok (.if_icmp .ne 16, 3) := by decide +kernel
theorem dL_isDivided_117 : decode cL_isDivided 117 = .ok (.aload_n 0, 1) := by decide +kernel
theorem dL_isDivided_118 : decode cL_isDivided 118 = .ok (.iconst 2, 1) := by decide +kernel
theorem dL_isDivided_119 : decode cL_isDivided 119 = .ok (.invokevirtual 27, 3) := by decide +kernel
theorem dL_isDivided_122 : decode cL_isDivided 122 = .ok (.ifCond .ne 8, 3) := by decide +kernel
theorem dL_isDivided_125 : decode cL_isDivided 125 = .ok (.iload_n 3, 1) := by decide +kernel
theorem dL_isDivided_126 : decode cL_isDivided 126 = .ok (.iload_n 2, 1) := by decide +kernel
theorem dL_isDivided_127 : decode cL_isDivided 127 = .ok (.if_icmp .le 5, 3) := by decide +kernel
theorem dL_isDivided_130 : decode cL_isDivided 130 = .ok (.iconst 0, 1) := by decide +kernel
theorem dL_isDivided_131 : decode cL_isDivided 131 = .ok (.ireturn, 1) := by decide +kernel
theorem dL_isDivided_132 : decode cL_isDivided 132 = .ok (.iload_n 1, 1) := by decide +kernel
theorem dL_isDivided_133 : decode cL_isDivided 133 = .ok (.istore 10, 2) := by decide +kernel
theorem dL_isDivided_135 : decode cL_isDivided 135 = .ok (.iconst 0, 1) := by decide +kernel
theorem dL_isDivided_136 : decode cL_isDivided 136 = .ok (.istore 11, 2) := by decide +kernel
theorem dL_isDivided_138 : decode cL_isDivided 138 = .ok (.iload 10, 2) := by decide +kernel
theorem dL_isDivided_140 : decode cL_isDivided 140 = .ok (.invokestatic 40, 3) := by decide +kernel
theorem dL_isDivided_143 : decode cL_isDivided 143 = .ok (.iconst 1, 1) := by decide +kernel
theorem dL_isDivided_144 : decode cL_isDivided 144 = .ok (.if_icmp .le 219, 3) := by decide +kernel
theorem dL_isDivided_147 : decode cL_isDivided 147 = .ok (.iload 11, 2) := by decide +kernel
theorem dL_isDivided_149 : decode cL_isDivided 149 = .ok (.bipush 24, 2) := by decide +kernel
theorem dL_isDivided_151 : decode cL_isDivided 151 = .ok (.if_icmp .ge 13, 3) := by decide +kernel
theorem dL_isDivided_154 : decode cL_isDivided 154 = .ok (.aload_n 0, 1) := by decide +kernel
theorem dL_isDivided_155 : decode cL_isDivided 155 = .ok (.iload 11, 2) := by decide +kernel
theorem dL_isDivided_157 : decode cL_isDivided 157 = .ok (.iconst 4, 1) := by decide +kernel
theorem dL_isDivided_158 : decode cL_isDivided 158 = .ok (.invokevirtual 8, 3) := by decide +kernel
theorem dL_isDivided_161 : decode cL_isDivided 161 = .ok (.goto 5, 3) := by decide +kernel
theorem dL_isDivided_164 : decode cL_isDivided 164 = .ok (.bipush 7, 2) := by decide +kernel
theorem dL_isDivided_166 : decode cL_isDivided 166 = .ok (.istore 12, 2) := by decide +kernel
theorem dL_isDivided_168 : decode cL_isDivided 168 = .ok (.iload 11, 2) := by decide +kernel
theorem dL_isDivided_170 : decode cL_isDivided 170 = .ok (.istore 13, 2) := by decide +kernel
theorem dL_isDivided_172 : decode cL_isDivided 172 = .ok (.iload 13, 2) := by decide +kernel
theorem dL_isDivided_174 : decode cL_isDivided 174 = .ok (.bipush 24, 2) := by decide +kernel
theorem dL_isDivided_176 : decode cL_isDivided 176 = .ok (.if_icmp .ge 21, 3) := by decide +kernel
theorem dL_isDivided_179 : decode cL_isDivided 179 = .ok (.aload_n 0, 1) := by decide +kernel
theorem dL_isDivided_180 : decode cL_isDivided 180 = .ok (.iload 13, 2) := by decide +kernel
theorem dL_isDivided_182 : decode cL_isDivided 182 = .ok (.iconst 4, 1) := by decide +kernel
theorem dL_isDivided_183 : decode cL_isDivided 183 = .ok (.invokevirtual 8, 3) := by decide +kernel
theorem dL_isDivided_186 : decode cL_isDivided 186 = .ok (.iload 12, 2) := by decide +kernel
theorem dL_isDivided_188 : decode cL_isDivided 188 = .ok (.if_icmp .ne 9, 3) := by decide +kernel
theorem dL_isDivided_191 : decode cL_isDivided 191 = .ok (.iinc 13 1, 3) := by decide +kernel
theorem dL_isDivided_194 : decode cL_isDivided 194 = .ok (.goto (-22), 3) := by decide +kernel
theorem dL_isDivided_197 : decode cL_isDivided 197 = .ok (.iload 12, 2) := by decide +kernel
theorem dL_isDivided_199 : decode cL_isDivided 199 = .ok (.bipush 7, 2) := by decide +kernel
theorem dL_isDivided_201 : decode cL_isDivided 201 = .ok (.if_icmp .eq 162, 3) := by decide +kernel
theorem dL_isDivided_204 : decode cL_isDivided 204 = .ok (.iload 12, 2) := by decide +kernel
theorem dL_isDivided_206 : decode cL_isDivided 206 = .ok (.iload 6, 2) := by decide +kernel
theorem dL_isDivided_208 : decode cL_isDivided 208 = .ok (.if_icmp .ne 13, 3) := by decide +kernel
theorem dL_isDivided_211 : decode cL_isDivided 211 = .ok (.iload 13, 2) := by decide +kernel
theorem dL_isDivided_213 : decode cL_isDivided 213 = .ok (.bipush 24, 2) := by decide +kernel
theorem dL_isDivided_215 : decode cL_isDivided 215 = .ok (.if_icmp .ne 6, 3) := by decide +kernel
theorem dL_isDivided_218 : decode cL_isDivided 218 = .ok (.goto 145, 3) := by decide +kernel
theorem dL_isDivided_221 : decode cL_isDivided 221 = .ok (.iload 10, 2) := by decide +kernel
theorem dL_isDivided_223 : decode cL_isDivided 223 = .ok (.iload 12, 2) := by decide +kernel
theorem dL_isDivided_225 : decode cL_isDivided 225 = .ok (.ishr, 1) := by decide +kernel
theorem dL_isDivided_226 : decode cL_isDivided 226 = .ok (.iconst 1, 1) := by decide +kernel
theorem dL_isDivided_227 : decode cL_isDivided 227 = .ok (.iand, 1) := by decide +kernel
theorem dL_isDivided_228 : decode cL_isDivided 228 = .ok (.ifCond .ne 5, 3) := by decide +kernel
theorem dL_isDivided_231 : decode cL_isDivided 231 = .ok (.iconst 0, 1) := by decide +kernel
theorem dL_isDivided_232 : decode cL_isDivided 232 = .ok (.ireturn, 1) := by decide +kernel
theorem dL_isDivided_233 : decode cL_isDivided 233 = .ok (.iconst 0, 1) := by decide +kernel
theorem dL_isDivided_234 : decode cL_isDivided 234 = .ok (.istore 14, 2) := by decide +kernel
theorem dL_isDivided_236 : decode cL_isDivided 236 = .ok (.iload 14, 2) := by decide +kernel
theorem dL_isDivided_238 : decode cL_isDivided 238 = .ok (.bipush 7, 2) := by decide +kernel
theorem dL_isDivided_240 : decode cL_isDivided 240 = .ok (.if_icmp .ge 105, 3) := by decide +kernel
theorem dL_isDivided_243 : decode cL_isDivided 243 = .ok (.iconst 0, 1) := by decide +kernel
theorem dL_isDivided_244 : decode cL_isDivided 244 = .ok (.istore 15, 2) := by decide +kernel
theorem dL_isDivided_246 : decode cL_isDivided 246 = .ok (.iconst 0, 1) := by decide +kernel
theorem dL_isDivided_247 : decode cL_isDivided 247 = .ok (.istore 16, 2) := by decide +kernel
theorem dL_isDivided_249 : decode cL_isDivided 249 = .ok (.iload 11, 2) := by decide +kernel
theorem dL_isDivided_251 : decode cL_isDivided 251 = .ok (.istore 17, 2) := by decide +kernel
theorem dL_isDivided_253 : decode cL_isDivided 253 = .ok (.iload 17, 2) := by decide +kernel
theorem dL_isDivided_255 : decode cL_isDivided 255 = .ok (.bipush 24, 2) := by decide +kernel
theorem dL_isDivided_257 : decode cL_isDivided 257 = .ok (.if_icmp .ge 52, 3) := by decide +kernel
theorem dL_isDivided_260 : decode cL_isDivided 260 = .ok (.iload 16, 2) := by decide +kernel
theorem dL_isDivided_262 : decode cL_isDivided 262 = .ok (.aload_n 0, 1) := by decide +kernel
theorem dL_isDivided_263 : decode cL_isDivided 263 = .ok (.iload 17, 2) := by decide +kernel
theorem dL_isDivided_265 : decode cL_isDivided 265 = .ok (.iconst 5, 1) := by decide +kernel
theorem dL_isDivided_266 : decode cL_isDivided 266 = .ok (.iload 14, 2) := by decide +kernel
theorem dL_isDivided_268 : decode cL_isDivided 268 = .ok (.iadd, 1) := by decide +kernel
theorem dL_isDivided_269 : decode cL_isDivided 269 = .ok (.invokevirtual 8, 3) := by decide +kernel
theorem dL_isDivided_272 : decode cL_isDivided 272 = .ok (.iadd, 1) := by decide +kernel
theorem dL_isDivided_273 : decode cL_isDivided 273 = .ok (.istore 16, 2) := by decide +kernel
theorem dL_isDivided_275 : decode cL_isDivided 275 = .ok (.iload 15, 2) := by decide +kernel
theorem dL_isDivided_277 : decode cL_isDivided 277 = .ok (.iload 17, 2) := by decide +kernel
theorem dL_isDivided_279 : decode cL_isDivided 279 = .ok (.iload 13, 2) := by decide +kernel
theorem dL_isDivided_281 : decode cL_isDivided 281 = .ok (.iconst 1, 1) := by decide +kernel
theorem dL_isDivided_282 : decode cL_isDivided 282 = .ok (.isub, 1) := by decide +kernel
theorem dL_isDivided_283 : decode cL_isDivided 283 = .ok (.if_icmp .ge 16, 3) := by decide +kernel
theorem dL_isDivided_286 : decode cL_isDivided 286 = .ok (.aload_n 0, 1) := by decide +kernel
theorem dL_isDivided_287 : decode cL_isDivided 287 = .ok (.iload 17, 2) := by decide +kernel
theorem dL_isDivided_289 : decode cL_isDivided 289 = .ok (.iconst 5, 1) := by decide +kernel
theorem dL_isDivided_290 : decode cL_isDivided 290 = .ok (.iload 14, 2) := by decide +kernel
theorem dL_isDivided_292 : decode cL_isDivided 292 = .ok (.iadd, 1) := by decide +kernel
theorem dL_isDivided_293 : decode cL_isDivided 293 = .ok (.invokevirtual 8, 3) := by decide +kernel
theorem dL_isDivided_296 : decode cL_isDivided 296 = .ok (.goto 4, 3) := by decide +kernel
theorem dL_isDivided_299 : decode cL_isDivided 299 = .ok (.iconst 0, 1) := by decide +kernel
theorem dL_isDivided_300 : decode cL_isDivided 300 = .ok (.iadd, 1) := by decide +kernel
theorem dL_isDivided_301 : decode cL_isDivided 301 = .ok (.istore 15, 2) := by decide +kernel
theorem dL_isDivided_303 : decode cL_isDivided 303 = .ok (.iinc 17 1, 3) := by decide +kernel
theorem dL_isDivided_306 : decode cL_isDivided 306 = .ok (.goto (-53), 3) := by decide +kernel
theorem dL_isDivided_309 : decode cL_isDivided 309 = .ok (.iload 14, 2) := by decide +kernel
theorem dL_isDivided_311 : decode cL_isDivided 311 = .ok (.iload 12, 2) := by decide +kernel
theorem dL_isDivided_313 : decode cL_isDivided 313 = .ok (.if_icmp .eq 10, 3) := by decide +kernel
theorem dL_isDivided_316 : decode cL_isDivided 316 = .ok (.iload 14, 2) := by decide +kernel
theorem dL_isDivided_318 : decode cL_isDivided 318 = .ok (.iload 6, 2) := by decide +kernel
theorem dL_isDivided_320 : decode cL_isDivided 320 = .ok (.if_icmp .ne 19, 3) := by decide +kernel
theorem dL_isDivided_323 : decode cL_isDivided 323 = .ok (.iload 16, 2) := by decide +kernel
theorem dL_isDivided_325 : decode cL_isDivided 325 = .ok (.ifCond .le 14, 3) := by decide +kernel
theorem dL_isDivided_328 : decode cL_isDivided 328 = .ok (.iconst 2, 1) := by decide +kernel
theorem dL_isDivided_329 : decode cL_isDivided 329 = .ok (.iload 15, 2) := by decide +kernel
theorem dL_isDivided_331 : decode cL_isDivided 331 = .ok (.imul, 1) := by decide +kernel
theorem dL_isDivided_332 : decode cL_isDivided 332 = .ok (.iload 16, 2) := by decide +kernel
theorem dL_isDivided_334 : decode cL_isDivided 334 = .ok (.if_icmp .lt 5, 3) := by decide +kernel
theorem dL_isDivided_337 : decode cL_isDivided 337 = .ok (.iconst 0, 1) := by decide +kernel
theorem dL_isDivided_338 : decode cL_isDivided 338 = .ok (.ireturn, 1) := by decide +kernel
theorem dL_isDivided_339 : decode cL_isDivided 339 = .ok (.iinc 14 1, 3) := by decide +kernel
theorem dL_isDivided_342 : decode cL_isDivided 342 = .ok (.goto (-106), 3) := by decide +kernel
theorem dL_isDivided_345 : decode cL_isDivided 345 = .ok (.iload 10, 2) := by decide +kernel
theorem dL_isDivided_347 : decode cL_isDivided 347 = .ok (.iconst 1, 1) := by decide +kernel
theorem dL_isDivided_348 : decode cL_isDivided 348 = .ok (.iload 12, 2) := by decide +kernel
theorem dL_isDivided_350 : decode cL_isDivided 350 = .ok (.ishl, 1) := by decide +kernel
theorem dL_isDivided_351 : decode cL_isDivided 351 = .ok (.iconst (-1), 1) := by decide +kernel
theorem dL_isDivided_352 : decode cL_isDivided 352 = .ok (.ixor, 1) := by decide +kernel
theorem dL_isDivided_353 : decode cL_isDivided 353 = .ok (.iand, 1) := by decide +kernel
theorem dL_isDivided_354 : decode cL_isDivided 354 = .ok (.istore 10, 2) := by decide +kernel
theorem dL_isDivided_356 : decode cL_isDivided 356 = .ok (.iload 13, 2) := by decide +kernel
theorem dL_isDivided_358 : decode cL_isDivided 358 = .ok (.istore 11, 2) := by decide +kernel
theorem dL_isDivided_360 : decode cL_isDivided 360 = .ok (.goto (-222), 3) := by decide +kernel
theorem dL_isDivided_363 : decode cL_isDivided 363 = .ok (.iconst 0, 1) := by decide +kernel
theorem dL_isDivided_364 : decode cL_isDivided 364 = .ok (.istore 12, 2) := by decide +kernel
theorem dL_isDivided_366 : decode cL_isDivided 366 = .ok (.iconst 0, 1) := by decide +kernel
theorem dL_isDivided_367 : decode cL_isDivided 367 = .ok (.istore 13, 2) := by decide +kernel
theorem dL_isDivided_369 : decode cL_isDivided 369 = .ok (.iload 13, 2) := by decide +kernel
theorem dL_isDivided_371 : decode cL_isDivided 371 = .ok (.bipush 7, 2) := by decide +kernel
theorem dL_isDivided_373 : decode cL_isDivided 373 = .ok (.if_icmp .ge 42, 3) := by decide +kernel
theorem dL_isDivided_376 : decode cL_isDivided 376 = .ok (.iload 12, 2) := by decide +kernel
theorem dL_isDivided_378 : decode cL_isDivided 378 = .ok (.aload_n 0, 1) := by decide +kernel
theorem dL_isDivided_379 : decode cL_isDivided 379 = .ok (.iload 13, 2) := by decide +kernel
theorem dL_isDivided_381 : decode cL_isDivided 381 = .ok (.iconst 4, 1) := by decide +kernel
theorem dL_isDivided_382 : decode cL_isDivided 382 = .ok (.invokevirtual 14, 3) := by decide +kernel
theorem dL_isDivided_385 : decode cL_isDivided 385 = .ok (.iadd, 1) := by decide +kernel
theorem dL_isDivided_386 : decode cL_isDivided 386 = .ok (.istore 12, 2) := by decide +kernel
theorem dL_isDivided_388 : decode cL_isDivided 388 = .ok (.iload_n 1, 1) := by decide +kernel
theorem dL_isDivided_389 : decode cL_isDivided 389 = .ok (.iload 13, 2) := by decide +kernel
theorem dL_isDivided_391 : decode cL_isDivided 391 = .ok (.ishr, 1) := by decide +kernel
theorem dL_isDivided_392 : decode cL_isDivided 392 = .ok (.iconst 1, 1) := by decide +kernel
theorem dL_isDivided_393 : decode cL_isDivided 393 = .ok (.iand, 1) := by decide +kernel
theorem dL_isDivided_394 : decode cL_isDivided 394 = .ok (.ifCond .ne 15, 3) := by decide +kernel
theorem dL_isDivided_397 : decode cL_isDivided 397 = .ok (.aload_n 0, 1) := by decide +kernel
theorem dL_isDivided_398 : decode cL_isDivided 398 = .ok (.iload 13, 2) := by decide +kernel
theorem dL_isDivided_400 : decode cL_isDivided 400 = .ok (.iconst 4, 1) := by decide +kernel
theorem dL_isDivided_401 : decode cL_isDivided 401 = .ok (.invokevirtual 14, 3) := by decide +kernel
theorem dL_isDivided_404 : decode cL_isDivided 404 = .ok (.ifCond .le 5, 3) := by decide +kernel
theorem dL_isDivided_407 : decode cL_isDivided 407 = .ok (.iconst 0, 1) := by decide +kernel
theorem dL_isDivided_408 : decode cL_isDivided 408 = .ok (.ireturn, 1) := by decide +kernel
theorem dL_isDivided_409 : decode cL_isDivided 409 = .ok (.iinc 13 1, 3) := by decide +kernel
theorem dL_isDivided_412 : decode cL_isDivided 412 = .ok (.goto (-43), 3) := by decide +kernel
theorem dL_isDivided_415 : decode cL_isDivided 415 = .ok (.iload 12, 2) := by decide +kernel
theorem dL_isDivided_417 : decode cL_isDivided 417 = .ok (.bipush 24, 2) := by decide +kernel
theorem dL_isDivided_419 : decode cL_isDivided 419 = .ok (.if_icmp .ne 27, 3) := by decide +kernel
theorem dL_isDivided_422 : decode cL_isDivided 422 = .ok (.iload_n 1, 1) := by decide +kernel
theorem dL_isDivided_423 : decode cL_isDivided 423 = .ok (.iload 6, 2) := by decide +kernel
theorem dL_isDivided_425 : decode cL_isDivided 425 = .ok (.ishr, 1) := by decide +kernel
theorem dL_isDivided_426 : decode cL_isDivided 426 = .ok (.iconst 1, 1) := by decide +kernel
theorem dL_isDivided_427 : decode cL_isDivided 427 = .ok (.iand, 1) := by decide +kernel
theorem dL_isDivided_428 : decode cL_isDivided 428 = .ok (.iconst 1, 1) := by decide +kernel
theorem dL_isDivided_429 : decode cL_isDivided 429 = .ok (.if_icmp .ne 17, 3) := by decide +kernel
theorem dL_isDivided_432 : decode cL_isDivided 432 = .ok (.iload 9, 2) := by decide +kernel
theorem dL_isDivided_434 : decode cL_isDivided 434 = .ok (.aload_n 0, 1) := by decide +kernel
theorem dL_isDivided_435 : decode cL_isDivided 435 = .ok (.iconst 1, 1) := by decide +kernel
theorem dL_isDivided_436 : decode cL_isDivided 436 = .ok (.invokevirtual 27, 3) := by decide +kernel
theorem dL_isDivided_439 : decode cL_isDivided 439 = .ok (.if_icmp .ne 7, 3) := by decide +kernel
theorem dL_isDivided_442 : decode cL_isDivided 442 = .ok (.iconst 1, 1) := by decide +kernel
theorem dL_isDivided_443 : decode cL_isDivided 443 = .ok (.goto 4, 3) := by decide +kernel
theorem dL_isDivided_446 : decode cL_isDivided 446 = .ok (.iconst 0, 1) := by decide +kernel
theorem dL_isDivided_447 : decode cL_isDivided 447 = .ok (.ireturn, 1) := by decide +kernel
set_option maxRecDepth 20000 in
theorem ggL_isTraded_X5_bestTrade : GoodIn wsL_isTraded wsX5_bestTrade := goodIn_r _ [5, 6, 7, 8, 9, 10, 11, 12, 13, 14, 15, 16, 17, 18, 19, 4, 20, 21, 22, 23, 24, 25, 26, 27, 28, 29, 30, 31, 32, 33, 34, 35, 36, 37, 38, 39, 40, 41, 42, 43, 44, 45, 46, 47, 48, 49, 50, 51, 52, 53, 54, 55, 56, 57, 58, 59, 60, 61, 62, 63, 64, 65, 66, 67, 68, 69, 70, 71, 72, 73, 74, 75, 76, 77, 78, 200, 201, 202, 203, 204, 205, 206, 207, 208, 209, 210, 211, 212, 213, 214, 215, 216, 217, 218, 219, 220] rfl (by decide +kernel)
set_option maxRecDepth 20000 in
theorem gL_isTraded_X5_bestTrade : GoodIn wsL_isTraded (wsV RL 31 RX5 yX5_bestTrade wsX5_bestTrade) := goodIn_app (goodIn_of _ (by decide +kernel)) ggL_isTraded_X5_bestTrade
set_option maxRecDepth 20000 in
theorem ggL_isTraded_X5_total : GoodIn wsL_isTraded wsX5_total := goodIn_r _ [82, 6, 7, 8, 83, 84, 85, 86, 87, 88, 89, 90, 12, 13, 14, 15, 16, 17, 18, 19, 4, 20, 21, 22, 23, 24, 25, 26, 91, 92, 93, 94, 95, 96, 57, 58, 59, 60, 61, 62, 63, 64, 65, 66, 67, 68, 69, 70, 71, 72, 73, 74, 75, 76, 77, 78, 44, 45, 46, 47, 97, 98, 99, 100, 101, 102, 103, 104, 105, 106, 107, 108, 34, 35, 36, 37, 38, 39, 40, 41, 42, 43, 200, 201, 202, 203, 204, 205, 206, 207, 208, 209, 210, 211, 212, 213, 214, 215, 221, 222, 223, 224, 225, 226, 227, 228, 229, 230, 216, 217, 218, 219, 220] rfl (by decide +kernel)
set_option maxRecDepth 20000 in
theorem gL_isTraded_X5_total : GoodIn wsL_isTraded (wsV RL 27 RX5 yX5_total wsX5_total) := goodIn_app (goodIn_of _ (by decide +kernel)) ggL_isTraded_X5_total
set_option maxRecDepth 20000 in
theorem ggL_isTraded_X5_settle : GoodIn wsL_isTraded wsX5_settle := goodIn_r _ [112, 6, 7, 8, 87, 9, 10, 12, 13, 14, 15, 16, 17, 18, 19, 4, 20, 21, 22, 23, 24, 25, 26, 27, 28, 29, 30, 31, 32, 33, 34, 35, 36, 37, 38, 39, 40, 41, 42, 43, 44, 45, 46, 47, 48, 49, 50, 51, 52, 53, 54, 55, 56, 57, 58, 59, 60, 61, 62, 63, 64, 65, 66, 67, 68, 69, 70, 71, 72, 73, 74, 75, 76, 77, 78, 113, 114, 115, 116, 117, 118, 119, 120, 121, 122, 123, 124, 125, 126, 127, 128, 129, 130, 131, 132, 133, 95, 134, 135, 136, 137, 138, 139, 140, 141, 86, 142, 143, 144, 145, 146, 200, 201, 202, 203, 204, 205, 206, 207, 208, 209, 210, 211, 212, 213, 214, 215, 216, 217, 218, 219, 220, 221, 222] rfl (by decide +kernel)
set_option maxRecDepth 20000 in
theorem gL_isTraded_X5_settle : GoodIn wsL_isTraded (wsV RL 43 RX5 yX5_settle wsX5_settle) := goodIn_app (goodIn_of _ (by decide +kernel)) ggL_isTraded_X5_settle
set_option maxRecDepth 20000 in
theorem ggL_isTraded_X5_pair : GoodIn wsL_isTraded wsX5_pair := goodIn_r _ [150, 6, 7, 8, 151, 19, 4, 20, 12, 13, 14, 15, 16, 17, 18, 21, 22, 23, 24, 25, 26, 152, 40, 41, 42, 43, 153, 45, 46, 47, 154, 75, 76, 77, 78, 155, 67, 68, 69, 70, 71, 72, 73, 74, 44, 156, 35, 36, 37, 38, 39, 200, 201, 202, 203, 204, 205, 206, 207, 208, 209, 210, 211, 212, 213, 214, 215, 216, 217, 218, 219, 220] rfl (by decide +kernel)
set_option maxRecDepth 20000 in
theorem gL_isTraded_X5_pair : GoodIn wsL_isTraded (wsV RL 23 RX5 yX5_pair wsX5_pair) := goodIn_app (goodIn_of _ (by decide +kernel)) ggL_isTraded_X5_pair
set_option maxRecDepth 20000 in
theorem ggL_isTraded_X5_cousin : GoodIn wsL_isTraded wsX5_cousin := goodIn_r _ [160, 7, 161, 6, 8, 151, 19, 4, 20, 12, 13, 14, 15, 16, 17, 18, 21, 22, 23, 24, 25, 26, 91, 92, 93, 94, 95, 153, 45, 46, 47, 162, 163, 164, 165, 166, 167, 168, 169, 170, 171, 172, 43, 173, 63, 64, 65, 60, 61, 66, 67, 68, 69, 70, 71, 72, 73, 74, 75, 76, 77, 78, 44, 174, 102, 103, 104, 175, 176, 177, 178, 179, 180, 181, 182, 183, 184, 185, 186, 134, 187, 200, 201, 202, 203, 204, 205, 206, 207, 208, 209, 210, 211, 212, 213, 214, 215, 216, 217, 218, 219, 220] rfl (by decide +kernel)
set_option maxRecDepth 20000 in
theorem gL_isTraded_X5_cousin : GoodIn wsL_isTraded (wsV RL 14 RX5 yX5_cousin wsX5_cousin) := goodIn_app (goodIn_of _ (by decide +kernel)) ggL_isTraded_X5_cousin
set_option maxRecDepth 20000 in
theorem ggL_isTraded_X5_trade : GoodIn wsL_isTraded wsX5_trade := goodIn_r _ [191, 6, 7, 8, 87, 151, 19, 4, 20, 12, 13, 14, 15, 16, 17, 18, 21, 22, 23, 24, 25, 26, 156, 35, 36, 37, 38, 39, 40, 41, 42, 43, 44, 45, 46, 47, 113, 114, 115, 116, 117, 118, 119, 120, 121, 122, 123, 124, 125, 126, 127, 128, 129, 130, 131, 132, 133, 95, 134, 135, 136, 137, 138, 139, 140, 141, 86, 142, 143, 144, 145, 146, 53, 54, 55, 96, 57, 58, 59, 60, 61, 62, 63, 64, 65, 66, 67, 68, 69, 70, 71, 72, 73, 74, 75, 76, 77, 78, 200, 201, 202, 203, 204, 205, 206, 207, 208, 209, 210, 211, 212, 213, 214, 215, 216, 217, 218, 219, 220, 221, 222] rfl (by decide +kernel)
set_option maxRecDepth 20000 in
theorem gL_isTraded_X5_trade : GoodIn wsL_isTraded (wsV RL 47 RX5 yX5_trade wsX5_trade) := goodIn_app (goodIn_of _ (by decide +kernel)) ggL_isTraded_X5_trade
set_option maxRecDepth 20000 in
theorem ggL_isTraded_X5_undo : GoodIn wsL_isTraded wsX5_undo := goodIn_r _ [195, 87, 88, 7, 196, 197, 198, 116, 199, 118, 119, 124, 125, 126, 24, 127, 128, 129, 130, 131, 132, 133, 43, 95, 134, 26, 135, 136, 137, 200, 201, 202, 203, 204, 205, 206, 221, 222, 207, 208, 209, 210, 211, 212, 213, 214, 215] rfl (by decide +kernel)
set_option maxRecDepth 20000 in
theorem gL_isTraded_X5_undo : GoodIn wsL_isTraded (wsV RL 50 RX5 yX5_undo wsX5_undo) := goodIn_app (goodIn_of _ (by decide +kernel)) ggL_isTraded_X5_undo
theorem dL_isTraded_0 : decode cL_isTraded 0 = .ok (.aload_n 0, 1) := by decide +kernel
theorem dL_isTraded_1 : decode cL_isTraded 1 = .ok (.iconst 0, 1) := by decide +kernel
theorem dL_isTraded_2 : decode cL_isTraded 2 = .ok (.invokevirtual 31, 3) := by decide +kernel
theorem dL_isTraded_5 : decode cL_isTraded 5 = .ok (.istore_n 1, 1) := by decide +kernel
theorem dL_isTraded_6 : decode cL_isTraded 6 = .ok (.aload_n 0, 1) := by decide +kernel
theorem dL_isTraded_7 : decode cL_isTraded 7 = .ok (.iconst 1, 1) := by decide +kernel
theorem dL_isTraded_8 : decode cL_isTraded 8 = .ok (.invokevirtual 31, 3) := by decide +kernel
theorem dL_isTraded_11 : decode cL_isTraded 11 = .ok (.istore_n 2, 1) := by decide +kernel
theorem dL_isTraded_12 : decode cL_isTraded 12 = .ok (.aload_n 0, 1) := by decide +kernel
theorem dL_isTraded_13 : decode cL_isTraded 13 = .ok (.bipush 8, 2) := by decide +kernel
theorem dL_isTraded_15 : decode cL_isTraded 15 = .ok (.invokevirtual 27, 3) := by decide +kernel
theorem dL_isTraded_18 : decode cL_isTraded 18 = .ok (.istore_n 3, 1) := by decide +kernel
theorem dL_isTraded_19 : decode cL_isTraded 19 = .ok (.iload_n 1, 1) := by decide +kernel
theorem dL_isTraded_20 : decode cL_isTraded 20 = .ok (.bipush (-5), 2) := by decide +kernel
theorem dL_isTraded_22 : decode cL_isTraded 22 = .ok (.if_icmp .ne 34, 3) := by decide +kernel
theorem dL_isTraded_25 : decode cL_isTraded 25 = .ok (.iload_n 2, 1) := by decide +kernel
theorem dL_isTraded_26 : decode cL_isTraded 26 = .ok (.bipush (-5), 2) := by decide +kernel
theorem dL_isTraded_28 : decode cL_isTraded 28 = .ok (.if_icmp .ne 26, 3) := by decide +kernel
theorem dL_isTraded_31 : decode cL_isTraded 31 = .ok (.aload_n 0, 1) := by decide +kernel
theorem dL_isTraded_32 : decode cL_isTraded 32 = .ok (.invokevirtual 43, 3) := by decide +kernel
theorem dL_isTraded_35 : decode cL_isTraded 35 = .ok (.bipush (-5), 2) := by decide +kernel
theorem dL_isTraded_37 : decode cL_isTraded 37 = .ok (.if_icmp .ne 17, 3) := by decide +kernel
theorem dL_isTraded_40 : decode cL_isTraded 40 = .ok (.aload_n 0, 1) := by decide +kernel
theorem dL_isTraded_41 : decode cL_isTraded 41 = .ok (.bipush 8, 2) := by decide +kernel
theorem dL_isTraded_43 : decode cL_isTraded 43 = .ok (.invokevirtual 27, 3) := by decide +kernel
theorem dL_isTraded_46 : decode cL_isTraded 46 = .ok (.iload_n 3, 1) := by decide +kernel
theorem dL_isTraded_47 : decode cL_isTraded 47 = .ok (.if_icmp .ne 7, 3) := by decide +kernel
theorem dL_isTraded_50 : decode cL_isTraded 50 = .ok (.iconst 1, 1) := by decide +kernel
theorem dL_isTraded_51 : decode cL_isTraded 51 = .ok (.goto 4, 3) := by decide +kernel
theorem dL_isTraded_54 : decode cL_isTraded 54 = .ok (.iconst 0, 1) := by decide +kernel
theorem dL_isTraded_55 : decode cL_isTraded 55 = .ok (.ireturn, 1) := by decide +kernel
theorem dL_isTraded_56 : decode cL_isTraded 56 = .ok (.bipush (-5), 2) := by decide +kernel
theorem dL_isTraded_58 : decode cL_isTraded 58 = .ok (.istore 4, 2) := by decide +kernel
theorem dL_isTraded_60 : decode cL_isTraded 60 = .ok (.iconst 0, 1) := by decide +kernel
theorem dL_isTraded_61 : decode cL_isTraded 61 = .ok (.istore 5, 2) := by decide +kernel
theorem dL_isTraded_63 : decode cL_isTraded 63 = .ok (.iconst 0, 1) := by decide +kernel
theorem dL_isTraded_64 : decode cL_isTraded 64 = .ok (.istore 6, 2) := by decide +kernel
theorem dL_isTraded_66 : decode cL_isTraded 66 = .ok (.iload 6, 2) := by decide +kernel
theorem dL_isTraded_68 : decode cL_isTraded 68 = .ok (.bipush 49, 2) := by decide +kernel
theorem dL_isTraded_70 : decode cL_isTraded 70 = .ok (.if_icmp .ge 168, 3) := by decide +kernel
theorem dL_isTraded_73 : decode cL_isTraded 73 = .ok (.iload 6, 2) := by decide +kernel
theorem dL_isTraded_75 : decode cL_isTraded 75 = .ok (.bipush 7, 2) := by decide +kernel
theorem dL_isTraded_77 : decode cL_isTraded 77 = .ok (.idiv, 1) := by decide +kernel
theorem dL_isTraded_78 : decode cL_isTraded 78 = .ok (.istore 7, 2) := by decide +kernel
theorem dL_isTraded_80 : decode cL_isTraded 80 = .ok (.iload 6, 2) := by decide +kernel
theorem dL_isTraded_82 : decode cL_isTraded 82 = .ok (.bipush 7, 2) := by decide +kernel
theorem dL_isTraded_84 : decode cL_isTraded 84 = .ok (.irem, 1) := by decide +kernel
theorem dL_isTraded_85 : decode cL_isTraded 85 = .ok (.istore 8, 2) := by decide +kernel
theorem dL_isTraded_87 : decode cL_isTraded 87 = .ok (.iload 7, 2) := by decide +kernel
theorem dL_isTraded_89 : decode cL_isTraded 89 = .ok (.iload 8, 2) := by decide +kernel
theorem dL_isTraded_91 : decode cL_isTraded 91 = .ok (.if_icmp .ge 141, 3) := by decide +kernel
theorem dL_isTraded_94 : decode cL_isTraded 94 = .ok (.aload_n 0, 1) := by decide +kernel
theorem dL_isTraded_95 : decode cL_isTraded 95 = .ok (.iload 7, 2) := by decide +kernel
theorem dL_isTraded_97 : decode cL_isTraded 97 = .ok (.iload 8, 2) := by decide +kernel
theorem dL_isTraded_99 : decode cL_isTraded 99 = .ok (.iconst 4, 1) := by decide +kernel
theorem dL_isTraded_100 : decode cL_isTraded 100 = .ok (.invokevirtual 23, 3) := by decide +kernel
theorem dL_isTraded_103 : decode cL_isTraded 103 = .ok (.ifCond .ne 129, 3) := by decide +kernel
theorem dL_isTraded_106 : decode cL_isTraded 106 = .ok (.aload_n 0, 1) := by decide +kernel
theorem dL_isTraded_107 : decode cL_isTraded 107 = .ok (.iload 7, 2) := by decide +kernel
theorem dL_isTraded_109 : decode cL_isTraded 109 = .ok (.iconst 5, 1) := by decide +kernel
theorem dL_isTraded_110 : decode cL_isTraded 110 = .ok (.invokevirtual 14, 3) := by decide +kernel
theorem dL_isTraded_113 : decode cL_isTraded 113 = .ok (.istore 9, 2) := by decide +kernel
theorem dL_isTraded_115 : decode cL_isTraded 115 = .ok (.aload_n 0, 1) := by decide +kernel
theorem dL_isTraded_116 : decode cL_isTraded 116 = .ok (.iload 8, 2) := by decide +kernel
theorem dL_isTraded_118 : decode cL_isTraded 118 = .ok (.iconst 5, 1) := by decide +kernel
theorem dL_isTraded_119 : decode cL_isTraded 119 = .ok (.invokevirtual 14, 3) := by decide +kernel
theorem dL_isTraded_122 : decode cL_isTraded 122 = .ok (.istore 10, 2) := by decide +kernel
theorem dL_isTraded_124 : decode cL_isTraded 124 = .ok (.aload_n 0, 1) := by decide +kernel
theorem dL_isTraded_125 : decode cL_isTraded 125 = .ok (.iload 8, 2) := by decide +kernel
theorem dL_isTraded_127 : decode cL_isTraded 127 = .ok (.iload 7, 2) := by decide +kernel
theorem dL_isTraded_129 : decode cL_isTraded 129 = .ok (.invokevirtual 47, 3) := by decide +kernel
theorem dL_isTraded_132 : decode cL_isTraded 132 = .ok (.istore 11, 2) := by decide +kernel
theorem dL_isTraded_134 : decode cL_isTraded 134 = .ok (.iload 4, 2) := by decide +kernel
theorem dL_isTraded_136 : decode cL_isTraded 136 = .ok (.bipush (-5), 2) := by decide +kernel
theorem dL_isTraded_138 : decode cL_isTraded 138 = .ok (.if_icmp .eq 10, 3) := by decide +kernel
theorem dL_isTraded_141 : decode cL_isTraded 141 = .ok (.iload 11, 2) := by decide +kernel
theorem dL_isTraded_143 : decode cL_isTraded 143 = .ok (.iload 5, 2) := by decide +kernel
theorem dL_isTraded_145 : decode cL_isTraded 145 = .ok (.if_icmp .ge 7, 3) := by decide +kernel
theorem dL_isTraded_148 : decode cL_isTraded 148 = .ok (.iconst 1, 1) := by decide +kernel
theorem dL_isTraded_149 : decode cL_isTraded 149 = .ok (.goto 4, 3) := by decide +kernel
theorem dL_isTraded_152 : decode cL_isTraded 152 = .ok (.iconst 0, 1) := by decide +kernel
theorem dL_isTraded_153 : decode cL_isTraded 153 = .ok (.istore 12, 2) := by decide +kernel
theorem dL_isTraded_155 : decode cL_isTraded 155 = .ok (.iload 12, 2) := by decide +kernel
theorem dL_isTraded_157 : decode cL_isTraded 157 = .ok (.ifCond .eq 14, 3) := by decide +kernel
theorem dL_isTraded_160 : decode cL_isTraded 160 = .ok (.bipush 10, 2) := by decide +kernel
theorem dL_isTraded_162 : decode cL_isTraded 162 = .ok (.iload 7, 2) := by decide +kernel
theorem dL_isTraded_164 : decode cL_isTraded 164 = .ok (.imul, 1) := by decide +kernel
theorem dL_isTraded_165 : decode cL_isTraded 165 = .ok (.iload 8, 2) := by decide +kernel
theorem dL_isTraded_167 : decode cL_isTraded 167 = .ok (.iadd, 1) := by decide +kernel
theorem dL_isTraded_168 : decode cL_isTraded 168 = .ok (.goto 5, 3) := by decide +kernel
theorem dL_isTraded_171 : decode cL_isTraded 171 = .ok (.iload 4, 2) := by decide +kernel
theorem dL_isTraded_173 : decode cL_isTraded 173 = .ok (.istore 4, 2) := by decide +kernel
theorem dL_isTraded_175 : decode cL_isTraded 175 = .ok (.iload 12, 2) := by decide +kernel
theorem dL_isTraded_177 : decode cL_isTraded 177 = .ok (.ifCond .eq 8, 3) := by decide +kernel
theorem dL_isTraded_180 : decode cL_isTraded 180 = .ok (.iload 11, 2) := by decide +kernel
theorem dL_isTraded_182 : decode cL_isTraded 182 = .ok (.goto 5, 3) := by decide +kernel
theorem dL_isTraded_185 : decode cL_isTraded 185 = .ok (.iload 5, 2) := by decide +kernel
theorem dL_isTraded_187 : decode cL_isTraded 187 = .ok (.istore 5, 2) := by decide +kernel
theorem dL_isTraded_189 : decode cL_isTraded 189 = .ok (.iload 11, 2) := by decide +kernel
theorem dL_isTraded_191 : decode cL_isTraded 191 = .ok (.aload_n 0, 1) := by decide +kernel
theorem dL_isTraded_192 : decode cL_isTraded 192 = .ok (.iconst 3, 1) := by decide +kernel
theorem dL_isTraded_193 : decode cL_isTraded 193 = .ok (.invokevirtual 27, 3) := by decide +kernel
theorem dL_isTraded_196 : decode cL_isTraded 196 = .ok (.if_icmp .ne 34, 3) := by decide +kernel
theorem dL_isTraded_199 : decode cL_isTraded 199 = .ok (.aload_n 0, 1) := by decide +kernel
theorem dL_isTraded_200 : decode cL_isTraded 200 = .ok (.iload 7, 2) := by decide +kernel
theorem dL_isTraded_202 : decode cL_isTraded 202 = .ok (.iconst 5, 1) := by decide +kernel
theorem dL_isTraded_203 : decode cL_isTraded 203 = .ok (.invokevirtual 14, 3) := by decide +kernel
theorem dL_isTraded_206 : decode cL_isTraded 206 = .ok (.iload 9, 2) := by decide +kernel
theorem dL_isTraded_208 : decode cL_isTraded 208 = .ok (.if_icmp .le 22, 3) := by decide +kernel
theorem dL_isTraded_211 : decode cL_isTraded 211 = .ok (.aload_n 0, 1) := by decide +kernel
theorem dL_isTraded_212 : decode cL_isTraded 212 = .ok (.iload 8, 2) := by decide +kernel
theorem dL_isTraded_214 : decode cL_isTraded 214 = .ok (.iconst 5, 1) := by decide +kernel
theorem dL_isTraded_215 : decode cL_isTraded 215 = .ok (.invokevirtual 14, 3) := by decide +kernel
theorem dL_isTraded_218 : decode cL_isTraded 218 = .ok (.iload 10, 2) := by decide +kernel
theorem dL_isTraded_220 : decode cL_isTraded 220 = .ok (.if_icmp .le 10, 3) := by decide +kernel
theorem dL_isTraded_223 : decode cL_isTraded 223 = .ok (.aload_n 0, 1) := by decide +kernel
theorem dL_isTraded_224 : decode cL_isTraded 224 = .ok (.invokevirtual 50, 3) := by decide +kernel
theorem dL_isTraded_227 : decode cL_isTraded 227 = .ok (.ifCond .ge 5, 3) := by decide +kernel
theorem dL_isTraded_230 : decode cL_isTraded 230 = .ok (.iconst 0, 1) := by decide +kernel
theorem dL_isTraded_231 : decode cL_isTraded 231 = .ok (.ireturn, 1) := by decide +kernel
theorem dL_isTraded_232 : decode cL_isTraded 232 = .ok (.iinc 6 1, 3) := by decide +kernel
theorem dL_isTraded_235 : decode cL_isTraded 235 = .ok (.goto (-169), 3) := by decide +kernel
theorem dL_isTraded_238 : decode cL_isTraded 238 = .ok (.aload_n 0, 1) := by decide +kernel
theorem dL_isTraded_239 : decode cL_isTraded 239 = .ok (.invokevirtual 43, 3) := by decide +kernel
theorem dL_isTraded_242 : decode cL_isTraded 242 = .ok (.istore 6, 2) := by decide +kernel
theorem dL_isTraded_244 : decode cL_isTraded 244 = .ok (.iload_n 1, 1) := by decide +kernel
theorem dL_isTraded_245 : decode cL_isTraded 245 = .ok (.iload 4, 2) := by decide +kernel
theorem dL_isTraded_247 : decode cL_isTraded 247 = .ok (.if_icmp .ne 49, 3) := by decide +kernel
theorem dL_isTraded_250 : decode cL_isTraded 250 = .ok (.iload_n 2, 1) := by decide +kernel
theorem dL_isTraded_251 : decode cL_isTraded 251 = .ok (.iload 5, 2) := by decide +kernel
theorem dL_isTraded_253 : decode cL_isTraded 253 = .ok (.if_icmp .ne 43, 3) := by decide +kernel
theorem dL_isTraded_256 : decode cL_isTraded 256 = .ok (.iload 6, 2) := by decide +kernel
theorem dL_isTraded_258 : decode cL_isTraded 258 = .ok (.ifCond .le 38, 3) := by decide +kernel
theorem dL_isTraded_261 : decode cL_isTraded 261 = .ok (.aload_n 0, 1) := by decide +kernel
theorem dL_isTraded_262 : decode cL_isTraded 262 = .ok (.bipush 8, 2) := by decide +kernel
theorem dL_isTraded_264 : decode cL_isTraded 264 = .ok (.invokevirtual 27, 3) := by decide +kernel
theorem dL_isTraded_267 : decode cL_isTraded 267 = .ok (.iload_n 3, 1) := by decide +kernel
theorem dL_isTraded_268 : decode cL_isTraded 268 = .ok (.iload 6, 2) := by decide +kernel
theorem dL_isTraded_270 : decode cL_isTraded 270 = .ok (.iadd, 1) := by decide +kernel
theorem dL_isTraded_271 : decode cL_isTraded 271 = .ok (.if_icmp .ne 25, 3) := by decide +kernel
theorem dL_isTraded_274 : decode cL_isTraded 274 = .ok (.aload_n 0, 1) := by decide +kernel
theorem dL_isTraded_275 : decode cL_isTraded 275 = .ok (.iconst 5, 1) := by decide +kernel
theorem dL_isTraded_276 : decode cL_isTraded 276 = .ok (.invokevirtual 27, 3) := by decide +kernel
theorem dL_isTraded_279 : decode cL_isTraded 279 = .ok (.ifCond .ne 17, 3) := by decide +kernel
theorem dL_isTraded_282 : decode cL_isTraded 282 = .ok (.aload_n 0, 1) := by decide +kernel
theorem dL_isTraded_283 : decode cL_isTraded 283 = .ok (.iconst 1, 1) := by decide +kernel
theorem dL_isTraded_284 : decode cL_isTraded 284 = .ok (.invokevirtual 31, 3) := by decide +kernel
theorem dL_isTraded_287 : decode cL_isTraded 287 = .ok (.bipush (-5), 2) := by decide +kernel
theorem dL_isTraded_289 : decode cL_isTraded 289 = .ok (.if_icmp .ne 7, 3) := by decide +kernel
theorem dL_isTraded_292 : decode cL_isTraded 292 = .ok (.iconst 1, 1) := by decide +kernel
theorem dL_isTraded_293 : decode cL_isTraded 293 = .ok (.goto 4, 3) := by decide +kernel
theorem dL_isTraded_296 : decode cL_isTraded 296 = .ok (.iconst 0, 1) := by decide +kernel
theorem dL_isTraded_297 : decode cL_isTraded 297 = .ok (.ireturn, 1) := by decide +kernel
set_option maxRecDepth 20000 in
theorem ggL_isWithout_X5_bestWithout : GoodIn wsL_isWithout wsX5_bestWithout := goodIn_r _ [5, 6, 7, 8, 4, 9, 10, 11, 12, 13, 14, 15, 16, 17, 18, 19, 20, 21, 22, 23, 24, 25, 26, 27, 28, 29, 30, 31, 32, 33, 34, 35, 36, 37, 38, 39, 40, 41, 42, 43, 44, 45, 46, 47, 48, 49, 50, 51, 52, 53, 54, 55, 56, 57, 58, 59, 60, 61, 62, 63, 64, 65, 66, 67, 68, 69, 70, 71, 72, 73, 74, 75, 76, 77, 78, 79, 80, 81, 82, 83, 84, 85, 86, 87, 88, 89, 90, 91, 92, 93, 94, 95, 96, 97, 98, 99, 100, 101, 102, 103, 104, 105, 106, 107, 108, 109, 110, 111, 112, 113, 114, 115, 116, 117, 118, 119, 120, 121, 122, 123, 124, 125, 194, 195, 196, 197, 198, 199, 200, 201, 202, 203, 204, 205, 206, 207, 208, 209, 210, 211, 212, 213, 214, 215, 216, 217, 218, 219, 220, 221, 222] rfl (by decide +kernel)
set_option maxRecDepth 20000 in
theorem gL_isWithout_X5_bestWithout : GoodIn wsL_isWithout (wsV RL 53 RX5 yX5_bestWithout wsX5_bestWithout) := goodIn_app (goodIn_of _ (by decide +kernel)) ggL_isWithout_X5_bestWithout
set_option maxRecDepth 20000 in
theorem ggL_isWithout_X5_divide : GoodIn wsL_isWithout wsX5_divide := goodIn_r _ [129, 130, 131, 10, 132, 133, 134, 4, 135, 136, 137, 138, 139, 140, 141, 142, 143, 144, 145, 146, 147, 148, 149, 35, 150, 151, 152, 153, 154, 155, 156, 42, 157, 37, 64, 158, 159, 160, 161, 162, 163, 164, 12, 165, 166, 167, 168, 169, 16, 17, 18, 19, 20, 21, 22, 23, 24, 25, 26, 27, 28, 29, 30, 31, 32, 33, 34, 36, 38, 39, 40, 41, 43, 44, 45, 46, 47, 48, 49, 50, 51, 52, 53, 54, 55, 56, 57, 58, 59, 60, 61, 62, 63, 65, 66, 67, 68, 69, 70, 71, 72, 73, 74, 75, 76, 77, 78, 79, 80, 81, 82, 83, 84, 85, 86, 14, 15, 87, 88, 89, 90, 194, 195, 196, 197, 198, 199, 200, 201, 202, 203, 204, 205, 206, 207, 208, 223, 224, 209, 210, 211, 212, 213, 214, 215, 216, 217] rfl (by decide +kernel)
set_option maxRecDepth 20000 in
theorem gL_isWithout_X5_divide : GoodIn wsL_isWithout (wsV RL 37 RX5 yX5_divide wsX5_divide) := goodIn_app (goodIn_of _ (by decide +kernel)) ggL_isWithout_X5_divide
set_option maxRecDepth 20000 in
theorem ggL_isWithout_X5_pair : GoodIn wsL_isWithout wsX5_pair := goodIn_r _ [173, 11, 131, 165, 174, 98, 4, 99, 91, 92, 93, 94, 95, 96, 97, 100, 66, 67, 35, 68, 64, 175, 79, 80, 81, 42, 176, 123, 124, 125, 177, 118, 119, 120, 121, 178, 110, 111, 112, 113, 114, 115, 116, 117, 122, 179, 180, 181, 182, 183, 184, 194, 195, 196, 197, 198, 199, 200, 209, 210, 211, 212, 213, 214, 215, 216, 217, 218, 219, 220, 221, 222] rfl (by decide +kernel)
set_option maxRecDepth 20000 in
theorem gL_isWithout_X5_pair : GoodIn wsL_isWithout (wsV RL 23 RX5 yX5_pair wsX5_pair) := goodIn_app (goodIn_of _ (by decide +kernel)) ggL_isWithout_X5_pair
set_option maxRecDepth 20000 in
theorem ggL_isWithout_X5_undo : GoodIn wsL_isWithout wsX5_undo := goodIn_r _ [188, 130, 189, 131, 190, 191, 192, 139, 193, 141, 142, 147, 148, 149, 35, 150, 151, 152, 153, 154, 155, 156, 42, 157, 37, 64, 158, 159, 160, 194, 195, 196, 197, 198, 199, 200, 223, 224, 209, 210, 211, 212, 213, 214, 215, 216, 217] rfl (by decide +kernel)
set_option maxRecDepth 20000 in
theorem gL_isWithout_X5_undo : GoodIn wsL_isWithout (wsV RL 50 RX5 yX5_undo wsX5_undo) := goodIn_app (goodIn_of _ (by decide +kernel)) ggL_isWithout_X5_undo
theorem dL_isWithout_0 : decode cL_isWithout 0 = .ok (.aload_n 0, 1) := by decide +kernel
theorem dL_isWithout_1 : decode cL_isWithout 1 = .ok (.iconst 0, 1) := by decide +kernel
theorem dL_isWithout_2 : decode cL_isWithout 2 = .ok (.invokevirtual 53, 3) := by decide +kernel
theorem dL_isWithout_5 : decode cL_isWithout 5 = .ok (.istore_n 1, 1) := by decide +kernel
theorem dL_isWithout_6 : decode cL_isWithout 6 = .ok (.aload_n 0, 1) := by decide +kernel
theorem dL_isWithout_7 : decode cL_isWithout 7 = .ok (.iconst 1, 1) := by decide +kernel
theorem dL_isWithout_8 : decode cL_isWithout 8 = .ok (.invokevirtual 53, 3) := by decide +kernel
theorem dL_isWithout_11 : decode cL_isWithout 11 = .ok (.istore_n 2, 1) := by decide +kernel
theorem dL_isWithout_12 : decode cL_isWithout 12 = .ok (.iconst (-1), 1) := by decide +kernel
theorem dL_isWithout_13 : decode cL_isWithout 13 = .ok (.istore_n 3, 1) := by decide +kernel
theorem dL_isWithout_14 : decode cL_isWithout 14 = .ok (.iconst 0, 1) := by decide +kernel
theorem dL_isWithout_15 : decode cL_isWithout 15 = .ok (.istore 4, 2) := by decide +kernel
theorem dL_isWithout_17 : decode cL_isWithout 17 = .ok (.iconst 0, 1) := by decide +kernel
theorem dL_isWithout_18 : decode cL_isWithout 18 = .ok (.istore 5, 2) := by decide +kernel
theorem dL_isWithout_20 : decode cL_isWithout 20 = .ok (.iload 5, 2) := by decide +kernel
theorem dL_isWithout_22 : decode cL_isWithout 22 = .ok (.bipush 7, 2) := by decide +kernel
theorem dL_isWithout_24 : decode cL_isWithout 24 = .ok (.if_icmp .ge 156, 3) := by decide +kernel
theorem dL_isWithout_27 : decode cL_isWithout 27 = .ok (.aload_n 0, 1) := by decide +kernel
theorem dL_isWithout_28 : decode cL_isWithout 28 = .ok (.bipush 127, 2) := by decide +kernel
theorem dL_isWithout_30 : decode cL_isWithout 30 = .ok (.iconst 1, 1) := by decide +kernel
theorem dL_isWithout_31 : decode cL_isWithout 31 = .ok (.iload 5, 2) := by decide +kernel
theorem dL_isWithout_33 : decode cL_isWithout 33 = .ok (.ishl, 1) := by decide +kernel
theorem dL_isWithout_34 : decode cL_isWithout 34 = .ok (.isub, 1) := by decide +kernel
theorem dL_isWithout_35 : decode cL_isWithout 35 = .ok (.invokevirtual 37, 3) := by decide +kernel
theorem dL_isWithout_38 : decode cL_isWithout 38 = .ok (.istore 6, 2) := by decide +kernel
theorem dL_isWithout_40 : decode cL_isWithout 40 = .ok (.iconst 0, 1) := by decide +kernel
theorem dL_isWithout_41 : decode cL_isWithout 41 = .ok (.istore 7, 2) := by decide +kernel
theorem dL_isWithout_43 : decode cL_isWithout 43 = .ok (.iconst 0, 1) := by decide +kernel
theorem dL_isWithout_44 : decode cL_isWithout 44 = .ok (.istore 8, 2) := by decide +kernel
theorem dL_isWithout_46 : decode cL_isWithout 46 = .ok (.iload 8, 2) := by decide +kernel
theorem dL_isWithout_48 : decode cL_isWithout 48 = .ok (.bipush 49, 2) := by decide +kernel
theorem dL_isWithout_50 : decode cL_isWithout 50 = .ok (.if_icmp .ge 66, 3) := by decide +kernel
theorem dL_isWithout_53 : decode cL_isWithout 53 = .ok (.iload 7, 2) := by decide +kernel
theorem dL_isWithout_55 : decode cL_isWithout 55 = .ok (.iload 8, 2) := by decide +kernel
theorem dL_isWithout_57 : decode cL_isWithout 57 = .ok (.bipush 7, 2) := by decide +kernel
theorem dL_isWithout_59 : decode cL_isWithout 59 = .ok (.idiv, 1) := by decide +kernel
theorem dL_isWithout_60 : decode cL_isWithout 60 = .ok (.iload 5, 2) := by decide +kernel
theorem dL_isWithout_62 : decode cL_isWithout 62 = .ok (.if_icmp .eq 44, 3) := by decide +kernel
theorem dL_isWithout_65 : decode cL_isWithout 65 = .ok (.iload 8, 2) := by decide +kernel
theorem dL_isWithout_67 : decode cL_isWithout 67 = .ok (.bipush 7, 2) := by decide +kernel
theorem dL_isWithout_69 : decode cL_isWithout 69 = .ok (.irem, 1) := by decide +kernel
theorem dL_isWithout_70 : decode cL_isWithout 70 = .ok (.iload 5, 2) := by decide +kernel
theorem dL_isWithout_72 : decode cL_isWithout 72 = .ok (.if_icmp .eq 34, 3) := by decide +kernel
theorem dL_isWithout_75 : decode cL_isWithout 75 = .ok (.iload 8, 2) := by decide +kernel
theorem dL_isWithout_77 : decode cL_isWithout 77 = .ok (.bipush 7, 2) := by decide +kernel
theorem dL_isWithout_79 : decode cL_isWithout 79 = .ok (.idiv, 1) := by decide +kernel
theorem dL_isWithout_80 : decode cL_isWithout 80 = .ok (.iload 8, 2) := by decide +kernel
theorem dL_isWithout_82 : decode cL_isWithout 82 = .ok (.bipush 7, 2) := by decide +kernel
theorem dL_isWithout_84 : decode cL_isWithout 84 = .ok (.irem, 1) := by decide +kernel
theorem dL_isWithout_85 : decode cL_isWithout 85 = .ok (.if_icmp .eq 21, 3) := by decide +kernel
theorem dL_isWithout_88 : decode cL_isWithout 88 = .ok (.aload_n 0, 1) := by decide +kernel
theorem dL_isWithout_89 : decode cL_isWithout 89 = .ok (.iload 8, 2) := by decide +kernel
theorem dL_isWithout_91 : decode cL_isWithout 91 = .ok (.bipush 7, 2) := by decide +kernel
theorem dL_isWithout_93 : decode cL_isWithout 93 = .ok (.idiv, 1) := by decide +kernel
theorem dL_isWithout_94 : decode cL_isWithout 94 = .ok (.iload 8, 2) := by decide +kernel
theorem dL_isWithout_96 : decode cL_isWithout 96 = .ok (.bipush 7, 2) := by decide +kernel
theorem dL_isWithout_98 : decode cL_isWithout 98 = .ok (.irem, 1) := by decide +kernel
theorem dL_isWithout_99 : decode cL_isWithout 99 = .ok (.iconst 3, 1) := by decide +kernel
theorem dL_isWithout_100 : decode cL_isWithout 100 = .ok (.invokevirtual 23, 3) := by decide +kernel
theorem dL_isWithout_103 : decode cL_isWithout 103 = .ok (.goto 4, 3) := by decide +kernel
theorem dL_isWithout_106 : decode cL_isWithout 106 = .ok (.iconst 0, 1) := by decide +kernel
theorem dL_isWithout_107 : decode cL_isWithout 107 = .ok (.iadd, 1) := by decide +kernel
theorem dL_isWithout_108 : decode cL_isWithout 108 = .ok (.istore 7, 2) := by decide +kernel
theorem dL_isWithout_110 : decode cL_isWithout 110 = .ok (.iinc 8 1, 3) := by decide +kernel
theorem dL_isWithout_113 : decode cL_isWithout 113 = .ok (.goto (-67), 3) := by decide +kernel
theorem dL_isWithout_116 : decode cL_isWithout 116 = .ok (.iload_n 3, 1) := by decide +kernel
theorem dL_isWithout_117 : decode cL_isWithout 117 = .ok (.ifCond .lt 10, 3) := by decide +kernel
theorem dL_isWithout_120 : decode cL_isWithout 120 = .ok (.iload 7, 2) := by decide +kernel
theorem dL_isWithout_122 : decode cL_isWithout 122 = .ok (.iload 4, 2) := by decide +kernel
theorem dL_isWithout_124 : decode cL_isWithout 124 = .ok (.if_icmp .ge 7, 3) := by decide +kernel
theorem dL_isWithout_127 : decode cL_isWithout 127 = .ok (.iconst 1, 1) := by decide +kernel
theorem dL_isWithout_128 : decode cL_isWithout 128 = .ok (.goto 4, 3) := by decide +kernel
theorem dL_isWithout_131 : decode cL_isWithout 131 = .ok (.iconst 0, 1) := by decide +kernel
theorem dL_isWithout_132 : decode cL_isWithout 132 = .ok (.istore 8, 2) := by decide +kernel
theorem dL_isWithout_134 : decode cL_isWithout 134 = .ok (.iload 8, 2) := by decide +kernel
theorem dL_isWithout_136 : decode cL_isWithout 136 = .ok (.ifCond .eq 8, 3) := by decide +kernel
theorem dL_isWithout_139 : decode cL_isWithout 139 = .ok (.iload 5, 2) := by decide +kernel
theorem dL_isWithout_141 : decode cL_isWithout 141 = .ok (.goto 4, 3) := by decide +kernel
theorem dL_isWithout_144 : decode cL_isWithout 144 = .ok (.iload_n 3, 1) := by decide +kernel
theorem dL_isWithout_145 : decode cL_isWithout 145 = .ok (.istore_n 3, 1) := by decide +kernel
theorem dL_isWithout_146 : decode cL_isWithout 146 = .ok (.iload 8, 2) := by decide +kernel
theorem dL_isWithout_148 : decode cL_isWithout 148 = .ok (.ifCond .eq 8, 3) := by decide +kernel
theorem dL_isWithout_151 : decode cL_isWithout 151 = .ok (.iload 7, 2) := by decide +kernel
theorem dL_isWithout_153 : decode cL_isWithout 153 = .ok (.goto 5, 3) := by decide +kernel
theorem dL_isWithout_156 : decode cL_isWithout 156 = .ok (.iload 4, 2) := by decide +kernel
theorem dL_isWithout_158 : decode cL_isWithout 158 = .ok (.istore 4, 2) := by decide +kernel
theorem dL_isWithout_160 : decode cL_isWithout 160 = .ok (.iload 6, 2) := by decide +kernel
theorem dL_isWithout_162 : decode cL_isWithout 162 = .ok (.ifCond .lt 10, 3) := by decide +kernel
theorem dL_isWithout_165 : decode cL_isWithout 165 = .ok (.aload_n 0, 1) := by decide +kernel
theorem dL_isWithout_166 : decode cL_isWithout 166 = .ok (.invokevirtual 50, 3) := by decide +kernel
theorem dL_isWithout_169 : decode cL_isWithout 169 = .ok (.ifCond .ge 5, 3) := by decide +kernel
theorem dL_isWithout_172 : decode cL_isWithout 172 = .ok (.iconst 0, 1) := by decide +kernel
theorem dL_isWithout_173 : decode cL_isWithout 173 = .ok (.ireturn, 1) := by decide +kernel
theorem dL_isWithout_174 : decode cL_isWithout 174 = .ok (.iinc 5 1, 3) := by decide +kernel
theorem dL_isWithout_177 : decode cL_isWithout 177 = .ok (.goto (-157), 3) := by decide +kernel
theorem dL_isWithout_180 : decode cL_isWithout 180 = .ok (.iload_n 1, 1) := by decide +kernel
theorem dL_isWithout_181 : decode cL_isWithout 181 = .ok (.iload_n 3, 1) := by decide +kernel
theorem dL_isWithout_182 : decode cL_isWithout 182 = .ok (.if_icmp .ne 13, 3) := by decide +kernel
theorem dL_isWithout_185 : decode cL_isWithout 185 = .ok (.iload_n 2, 1) := by decide +kernel
theorem dL_isWithout_186 : decode cL_isWithout 186 = .ok (.iload 4, 2) := by decide +kernel
theorem dL_isWithout_188 : decode cL_isWithout 188 = .ok (.if_icmp .ne 7, 3) := by decide +kernel
theorem dL_isWithout_191 : decode cL_isWithout 191 = .ok (.iconst 1, 1) := by decide +kernel
theorem dL_isWithout_192 : decode cL_isWithout 192 = .ok (.goto 4, 3) := by decide +kernel
theorem dL_isWithout_195 : decode cL_isWithout 195 = .ok (.iconst 0, 1) := by decide +kernel
theorem dL_isWithout_196 : decode cL_isWithout 196 = .ok (.ireturn, 1) := by decide +kernel
set_option maxRecDepth 20000 in
theorem ggL_does_L_low : GoodIn wsL_does wsL_low := goodIn_r _ [4, 5] rfl (by decide +kernel)
set_option maxRecDepth 20000 in
theorem gL_does_L_low : GoodIn wsL_does (va_wsS RL 56 yL_low wsL_low) := goodIn_app (goodIn_of _ (by decide +kernel)) ggL_does_L_low
set_option maxRecDepth 20000 in
theorem ggL_does_X5_plot : GoodIn wsL_does wsX5_plot := goodIn_r _ [10, 11, 12, 13, 14, 15, 9, 16, 17, 18, 19, 20, 21, 22, 348, 349, 350, 351, 352, 353, 354, 355, 356, 357, 358, 359, 360, 361, 362, 363] rfl (by decide +kernel)
set_option maxRecDepth 20000 in
theorem gL_does_X5_plot : GoodIn wsL_does (wsV RL 8 RX5 yX5_plot wsX5_plot) := goodIn_app (goodIn_of _ (by decide +kernel)) ggL_does_X5_plot
set_option maxRecDepth 20000 in
theorem ggL_does_X5_plant : GoodIn wsL_does wsX5_plant := goodIn_r _ [26, 11, 12, 27, 14, 15, 9, 16, 28, 29, 30, 31, 32, 33, 34, 35, 36, 37, 38, 39, 40, 41, 42, 43, 44, 45, 46, 47, 20, 48, 49, 50, 51, 52, 53, 54, 55, 56, 57, 22, 58, 59, 60, 61, 62, 63, 64, 65, 66, 67, 68, 348, 349, 350, 351, 352, 353, 354, 355, 356, 357, 358, 359, 360, 361, 362, 363, 364, 365] rfl (by decide +kernel)
set_option maxRecDepth 20000 in
theorem gL_does_X5_plant : GoodIn wsL_does (wsV RL 59 RX5 yX5_plant wsX5_plant) := goodIn_app (goodIn_of _ (by decide +kernel)) ggL_does_X5_plant
set_option maxRecDepth 20000 in
theorem ggL_does_X5_cousin : GoodIn wsL_does wsX5_cousin := goodIn_r _ [72, 11, 73, 74, 13, 75, 76, 9, 77, 78, 79, 80, 81, 82, 83, 84, 85, 18, 19, 20, 21, 22, 86, 87, 88, 89, 56, 90, 91, 92, 93, 94, 95, 96, 97, 98, 99, 100, 101, 102, 103, 104, 55, 105, 106, 107, 108, 109, 110, 111, 112, 113, 114, 115, 116, 117, 118, 119, 120, 121, 122, 123, 124, 125, 126, 127, 128, 129, 130, 131, 132, 133, 134, 135, 136, 137, 138, 139, 140, 57, 141, 348, 349, 350, 351, 352, 353, 354, 355, 356, 357, 358, 359, 360, 361, 362, 363, 366, 367, 368, 369, 370] rfl (by decide +kernel)
set_option maxRecDepth 20000 in
theorem gL_does_X5_cousin : GoodIn wsL_does (wsV RL 14 RX5 yX5_cousin wsX5_cousin) := goodIn_app (goodIn_of _ (by decide +kernel)) ggL_does_X5_cousin
set_option maxRecDepth 20000 in
theorem ggL_does_X5_weigh : GoodIn wsL_does wsX5_weigh := goodIn_r _ [145, 11, 73, 27, 75, 76, 9, 77, 28, 29, 30, 31, 32, 33, 34, 35, 36, 37, 38, 39, 40, 41, 42, 43, 44, 45, 46, 47, 20, 48, 49, 50, 51, 52, 53, 54, 55, 56, 57, 22, 58, 59, 60, 146, 147, 148, 149, 150, 151, 152, 153, 65, 66, 67, 68, 348, 349, 350, 351, 352, 353, 354, 355, 356, 357, 358, 359, 360, 361, 362, 363, 364, 365] rfl (by decide +kernel)
set_option maxRecDepth 20000 in
theorem gL_does_X5_weigh : GoodIn wsL_does (wsV RL 62 RX5 yX5_weigh wsX5_weigh) := goodIn_app (goodIn_of _ (by decide +kernel)) ggL_does_X5_weigh
set_option maxRecDepth 20000 in
theorem ggL_does_X5_pair : GoodIn wsL_does wsX5_pair := goodIn_r _ [157, 74, 11, 13, 75, 76, 9, 77, 78, 79, 80, 81, 82, 83, 84, 85, 18, 19, 20, 21, 22, 158, 159, 160, 161, 55, 90, 91, 92, 93, 162, 120, 121, 122, 123, 163, 112, 113, 114, 115, 116, 117, 118, 119, 124, 164, 165, 166, 167, 168, 169, 348, 349, 350, 351, 352, 353, 354, 355, 356, 357, 358, 359, 360, 361, 362, 363, 366, 367, 368, 369, 370] rfl (by decide +kernel)
set_option maxRecDepth 20000 in
theorem gL_does_X5_pair : GoodIn wsL_does (wsV RL 23 RX5 yX5_pair wsX5_pair) := goodIn_app (goodIn_of _ (by decide +kernel)) ggL_does_X5_pair
set_option maxRecDepth 20000 in
theorem ggL_does_X5_grudge : GoodIn wsL_does wsX5_grudge := goodIn_r _ [173, 11, 27, 75, 76, 9, 77, 31, 32, 33, 158, 159, 160, 20, 161, 55, 34, 35, 36, 37, 38, 39, 40, 41, 42, 43, 44, 45, 46, 47, 48, 49, 50, 51, 52, 53, 54, 56, 57, 22, 58, 59, 60, 174, 175, 176, 177, 348, 349, 350, 351, 352, 353, 354, 355, 356, 357, 358, 359, 360, 361, 362, 363, 364, 365] rfl (by decide +kernel)
set_option maxRecDepth 20000 in
theorem gL_does_X5_grudge : GoodIn wsL_does (wsV RL 65 RX5 yX5_grudge wsX5_grudge) := goodIn_app (goodIn_of _ (by decide +kernel)) ggL_does_X5_grudge
set_option maxRecDepth 20000 in
theorem ggL_does_X5_total : GoodIn wsL_does wsX5_total := goodIn_r _ [181, 74, 11, 13, 182, 183, 184, 185, 27, 186, 187, 188, 78, 79, 80, 81, 82, 83, 84, 76, 9, 77, 85, 18, 19, 20, 21, 22, 86, 87, 88, 89, 56, 189, 190, 191, 192, 109, 110, 193, 106, 107, 108, 111, 112, 113, 114, 115, 116, 117, 118, 119, 120, 121, 122, 123, 124, 91, 92, 93, 194, 195, 196, 197, 198, 126, 127, 128, 199, 200, 201, 202, 203, 165, 166, 167, 168, 169, 159, 160, 161, 55, 348, 349, 350, 351, 352, 353, 354, 355, 356, 357, 358, 359, 360, 361, 362, 363, 364, 365, 371, 372, 373, 374, 375, 376, 377, 378, 366, 367, 368, 369, 370] rfl (by decide +kernel)
set_option maxRecDepth 20000 in
theorem gL_does_X5_total : GoodIn wsL_does (wsV RL 27 RX5 yX5_total wsX5_total) := goodIn_app (goodIn_of _ (by decide +kernel)) ggL_does_X5_total
set_option maxRecDepth 20000 in
theorem ggL_does_X5_set : GoodIn wsL_does wsX5_set := goodIn_r _ [207, 11, 182, 27, 208, 209, 9, 210, 34, 35, 36, 37, 38, 39, 40, 41, 42, 43, 44, 45, 46, 47, 20, 48, 49, 50, 51, 52, 53, 54, 55, 56, 57, 22, 58, 59, 60, 348, 349, 350, 351, 352, 353, 354, 355, 356, 357, 358, 359, 360, 361, 362, 363, 364, 365] rfl (by decide +kernel)
set_option maxRecDepth 20000 in
theorem gL_does_X5_set : GoodIn wsL_does (wsV RL 68 RX5 yX5_set wsX5_set) := goodIn_app (goodIn_of _ (by decide +kernel)) ggL_does_X5_set
set_option maxRecDepth 20000 in
theorem ggL_does_X5_give : GoodIn wsL_does wsX5_give := goodIn_r _ [214, 11, 13, 27, 14, 15, 9, 16, 75, 76, 77, 34, 35, 36, 37, 38, 39, 40, 41, 42, 43, 44, 45, 46, 47, 20, 48, 49, 50, 51, 52, 53, 54, 55, 56, 57, 22, 58, 59, 60, 348, 349, 350, 351, 352, 353, 354, 355, 356, 357, 358, 359, 360, 361, 362, 363, 364, 365] rfl (by decide +kernel)
set_option maxRecDepth 20000 in
theorem gL_does_X5_give : GoodIn wsL_does (wsV RL 71 RX5 yX5_give wsX5_give) := goodIn_app (goodIn_of _ (by decide +kernel)) ggL_does_X5_give
set_option maxRecDepth 20000 in
theorem ggL_does_X5_trade : GoodIn wsL_does wsX5_trade := goodIn_r _ [218, 74, 11, 13, 27, 75, 76, 9, 77, 78, 79, 80, 81, 82, 83, 84, 85, 18, 19, 20, 21, 22, 164, 165, 166, 167, 168, 169, 159, 160, 161, 55, 124, 91, 92, 93, 34, 35, 36, 37, 38, 39, 40, 41, 42, 43, 44, 45, 46, 47, 48, 49, 50, 51, 52, 53, 54, 56, 57, 58, 59, 60, 219, 220, 221, 222, 185, 223, 224, 225, 226, 227, 228, 229, 230, 189, 190, 191, 192, 109, 110, 193, 106, 107, 108, 111, 112, 113, 114, 115, 116, 117, 118, 119, 120, 121, 122, 123, 348, 349, 350, 351, 352, 353, 354, 355, 356, 357, 358, 359, 360, 361, 362, 363, 366, 367, 368, 369, 370, 364, 365] rfl (by decide +kernel)
set_option maxRecDepth 20000 in
theorem gL_does_X5_trade : GoodIn wsL_does (wsV RL 47 RX5 yX5_trade wsX5_trade) := goodIn_app (goodIn_of _ (by decide +kernel)) ggL_does_X5_trade
set_option maxRecDepth 20000 in
theorem ggL_does_L_isTraded : GoodIn wsL_does wsL_isTraded := goodIn_r _ [233, 234, 235, 236, 9, 237, 74, 11, 13, 238, 239, 240, 78, 79, 80, 81, 82, 83, 84, 76, 77, 85, 18, 19, 20, 21, 22, 241, 242, 243, 244, 245, 246, 247, 203, 165, 166, 167, 168, 169, 159, 160, 161, 55, 124, 91, 92, 93, 248, 249, 250, 251, 252, 228, 229, 230, 253, 190, 191, 192, 109, 110, 193, 106, 107, 108, 111, 112, 113, 114, 115, 116, 117, 118, 119, 120, 121, 122, 123, 178, 179, 180, 181, 182, 183, 184, 185, 27, 186, 187, 188, 86, 87, 88, 89, 56, 189, 194, 195, 196, 197, 198, 126, 127, 128, 199, 200, 201, 202, 254, 255, 256, 257, 34, 35, 36, 37, 38, 39, 40, 41, 42, 43, 44, 45, 46, 47, 48, 49, 50, 51, 52, 53, 54, 57, 58, 59, 60, 219, 220, 221, 222, 223, 224, 225, 226, 227, 154, 155, 156, 157, 75, 158, 90, 162, 163, 164, 69, 70, 71, 72, 73, 94, 95, 96, 97, 98, 99, 100, 101, 102, 103, 104, 105, 125, 129, 130, 131, 132, 133, 134, 135, 136, 137, 138, 139, 140, 141, 215, 216, 217, 218, 258, 259, 260, 261, 262, 263, 264, 265, 348, 349, 350, 351, 352, 353, 354, 355, 356, 357, 358, 359, 360, 361, 362, 363, 366, 367, 368, 369, 370, 364, 365, 371, 372, 373, 374, 375, 376, 377, 378] rfl (by decide +kernel)
set_option maxRecDepth 20000 in
theorem gL_does_L_isTraded : GoodIn wsL_does (va_wsS RL 74 yL_isTraded wsL_isTraded) := goodIn_app (goodIn_of _ (by decide +kernel)) ggL_does_L_isTraded
set_option maxRecDepth 20000 in
theorem ggL_does_L_isDivided : GoodIn wsL_does wsL_isDivided := goodIn_r _ [268, 269, 270, 271, 9, 272, 273, 274, 275, 74, 276, 277, 278, 279, 280, 281, 282, 283, 284, 285, 286, 287, 288, 289, 290, 291, 292, 293, 294, 295, 296, 297, 138, 139, 20, 140, 57, 141, 102, 103, 104, 55, 298, 299, 300, 301, 302, 303, 304, 305, 306, 307, 308, 109, 110, 309, 310, 311, 312, 313, 95, 96, 97, 22, 314, 18, 19, 21, 315, 316, 317, 318, 319, 320, 321, 322, 323, 324, 159, 160, 161, 325, 326, 327, 328, 329, 330, 331, 332, 333, 334, 335, 78, 79, 80, 81, 82, 83, 84, 76, 77, 85, 189, 190, 191, 192, 193, 106, 107, 108, 111, 112, 113, 114, 115, 116, 117, 118, 119, 120, 121, 122, 123, 124, 91, 92, 93, 178, 179, 180, 181, 11, 13, 182, 183, 184, 185, 27, 186, 187, 188, 86, 87, 88, 89, 56, 194, 195, 196, 197, 198, 126, 127, 128, 199, 200, 201, 202, 203, 165, 166, 167, 168, 169, 336, 337, 338, 339, 34, 35, 36, 37, 38, 39, 40, 41, 42, 43, 44, 45, 46, 47, 48, 49, 50, 51, 52, 53, 54, 58, 59, 60, 340, 341, 342, 343, 344, 6, 7, 8, 10, 12, 14, 15, 16, 17, 345, 346, 3, 347, 69, 70, 71, 72, 73, 75, 90, 94, 98, 99, 100, 101, 105, 125, 129, 130, 131, 132, 133, 134, 135, 136, 137, 348, 349, 350, 351, 352, 353, 354, 379, 380, 381, 382, 383, 384, 385, 386, 355, 356, 357, 358, 359, 360, 361, 362, 363, 366, 367, 368, 369, 370, 364, 365, 371, 372, 373, 374, 375, 376, 377, 378] rfl (by decide +kernel)
set_option maxRecDepth 20000 in
theorem gL_does_L_isDivided : GoodIn wsL_does (va_wsS RL 78 yL_isDivided wsL_isDivided) := goodIn_app (goodIn_of _ (by decide +kernel)) ggL_does_L_isDivided
theorem dL_does_0 : decode cL_does 0 = .ok (.iload_n 1, 1) := by decide +kernel
theorem dL_does_1 : decode cL_does 1 = .ok (.iconst 4, 1) := by decide +kernel
theorem dL_does_2 : decode cL_does 2 = .ok (.ishr, 1) := by decide +kernel
theorem dL_does_3 : decode cL_does 3 = .ok (.bipush 24, 2) := by decide +kernel
theorem dL_does_5 : decode cL_does 5 = .ok (.invokestatic 56, 3) := by decide +kernel
theorem dL_does_8 : decode cL_does 8 = .ok (.istore_n 3, 1) := by decide +kernel
theorem dL_does_9 : decode cL_does 9 = .ok (.iload_n 2, 1) := by decide +kernel
theorem dL_does_10 : decode cL_does 10 = .ok (.bipush 7, 2) := by decide +kernel
theorem dL_does_12 : decode cL_does 12 = .ok (.invokestatic 56, 3) := by decide +kernel
theorem dL_does_15 : decode cL_does 15 = .ok (.istore 4, 2) := by decide +kernel
theorem dL_does_17 : decode cL_does 17 = .ok (.iload_n 2, 1) := by decide +kernel
theorem dL_does_18 : decode cL_does 18 = .ok (.iconst 3, 1) := by decide +kernel
theorem dL_does_19 : decode cL_does 19 = .ok (.ishr, 1) := by decide +kernel
theorem dL_does_20 : decode cL_does 20 = .ok (.bipush 7, 2) := by decide +kernel
theorem dL_does_22 : decode cL_does 22 = .ok (.invokestatic 56, 3) := by decide +kernel
theorem dL_does_25 : decode cL_does 25 = .ok (.istore 5, 2) := by decide +kernel
theorem dL_does_27 : decode cL_does 27 = .ok (.iload_n 2, 1) := by decide +kernel
theorem dL_does_28 : decode cL_does 28 = .ok (.bipush 6, 2) := by decide +kernel
theorem dL_does_30 : decode cL_does 30 = .ok (.ishr, 1) := by decide +kernel
theorem dL_does_31 : decode cL_does 31 = .ok (.bipush 10, 2) := by decide +kernel
theorem dL_does_33 : decode cL_does 33 = .ok (.invokestatic 56, 3) := by decide +kernel
theorem dL_does_36 : decode cL_does 36 = .ok (.istore 6, 2) := by decide +kernel
theorem dL_does_38 : decode cL_does 38 = .ok (.iload_n 1, 1) := by decide +kernel
theorem dL_does_39 : decode cL_does 39 = .ok (.bipush 18, 2) := by decide +kernel
theorem dL_does_41 : decode cL_does 41 = .ok (.invokestatic 56, 3) := by decide +kernel
theorem dL_does_44 : decode cL_does 44 = .ok (.tableswitch 498 0 13 #[72, 72, 72, 72, 128, 128, 128, 196, 196, 196, 263, 343, 400, 493], 72) := by decide +kernel
theorem dL_does_116 : decode cL_does 116 = .ok (.aload_n 0, 1) := by decide +kernel
theorem dL_does_117 : decode cL_does 117 = .ok (.iload_n 3, 1) := by decide +kernel
theorem dL_does_118 : decode cL_does 118 = .ok (.iload_n 2, 1) := by decide +kernel
theorem dL_does_119 : decode cL_does 119 = .ok (.iconst 3, 1) := by decide +kernel
theorem dL_does_120 : decode cL_does 120 = .ok (.iand, 1) := by decide +kernel
theorem dL_does_121 : decode cL_does 121 = .ok (.invokevirtual 8, 3) := by decide +kernel
theorem dL_does_124 : decode cL_does 124 = .ok (.istore 7, 2) := by decide +kernel
theorem dL_does_126 : decode cL_does 126 = .ok (.aload_n 0, 1) := by decide +kernel
theorem dL_does_127 : decode cL_does 127 = .ok (.iload_n 3, 1) := by decide +kernel
theorem dL_does_128 : decode cL_does 128 = .ok (.iload_n 2, 1) := by decide +kernel
theorem dL_does_129 : decode cL_does 129 = .ok (.iconst 3, 1) := by decide +kernel
theorem dL_does_130 : decode cL_does 130 = .ok (.iand, 1) := by decide +kernel
theorem dL_does_131 : decode cL_does 131 = .ok (.iload 6, 2) := by decide +kernel
theorem dL_does_133 : decode cL_does 133 = .ok (.invokevirtual 59, 3) := by decide +kernel
theorem dL_does_136 : decode cL_does 136 = .ok (.iload 7, 2) := by decide +kernel
theorem dL_does_138 : decode cL_does 138 = .ok (.iload 6, 2) := by decide +kernel
theorem dL_does_140 : decode cL_does 140 = .ok (.if_icmp .ne 8, 3) := by decide +kernel
theorem dL_does_143 : decode cL_does 143 = .ok (.bipush (-5), 2) := by decide +kernel
theorem dL_does_145 : decode cL_does 145 = .ok (.goto 5, 3) := by decide +kernel
theorem dL_does_148 : decode cL_does 148 = .ok (.iload 7, 2) := by decide +kernel
theorem dL_does_150 : decode cL_does 150 = .ok (.if_icmp .ne 20, 3) := by decide +kernel
theorem dL_does_153 : decode cL_does 153 = .ok (.aload_n 0, 1) := by decide +kernel
theorem dL_does_154 : decode cL_does 154 = .ok (.iload_n 3, 1) := by decide +kernel
theorem dL_does_155 : decode cL_does 155 = .ok (.iload_n 2, 1) := by decide +kernel
theorem dL_does_156 : decode cL_does 156 = .ok (.iconst 3, 1) := by decide +kernel
theorem dL_does_157 : decode cL_does 157 = .ok (.iand, 1) := by decide +kernel
theorem dL_does_158 : decode cL_does 158 = .ok (.invokevirtual 8, 3) := by decide +kernel
theorem dL_does_161 : decode cL_does 161 = .ok (.iload 6, 2) := by decide +kernel
theorem dL_does_163 : decode cL_does 163 = .ok (.if_icmp .ne 7, 3) := by decide +kernel
theorem dL_does_166 : decode cL_does 166 = .ok (.iconst 1, 1) := by decide +kernel
theorem dL_does_167 : decode cL_does 167 = .ok (.goto 4, 3) := by decide +kernel
theorem dL_does_170 : decode cL_does 170 = .ok (.iconst 0, 1) := by decide +kernel
theorem dL_does_171 : decode cL_does 171 = .ok (.ireturn, 1) := by decide +kernel
theorem dL_does_172 : decode cL_does 172 = .ok (.aload_n 0, 1) := by decide +kernel
theorem dL_does_173 : decode cL_does 173 = .ok (.iload 4, 2) := by decide +kernel
theorem dL_does_175 : decode cL_does 175 = .ok (.iload_n 1, 1) := by decide +kernel
theorem dL_does_176 : decode cL_does 176 = .ok (.bipush 9, 2) := by decide +kernel
theorem dL_does_178 : decode cL_does 178 = .ok (.ishr, 1) := by decide +kernel
theorem dL_does_179 : decode cL_does 179 = .ok (.iconst 3, 1) := by decide +kernel
theorem dL_does_180 : decode cL_does 180 = .ok (.iand, 1) := by decide +kernel
theorem dL_does_181 : decode cL_does 181 = .ok (.invokevirtual 14, 3) := by decide +kernel
theorem dL_does_184 : decode cL_does 184 = .ok (.istore 8, 2) := by decide +kernel
theorem dL_does_186 : decode cL_does 186 = .ok (.aload_n 0, 1) := by decide +kernel
theorem dL_does_187 : decode cL_does 187 = .ok (.iload 4, 2) := by decide +kernel
theorem dL_does_189 : decode cL_does 189 = .ok (.iload_n 1, 1) := by decide +kernel
theorem dL_does_190 : decode cL_does 190 = .ok (.bipush 9, 2) := by decide +kernel
theorem dL_does_192 : decode cL_does 192 = .ok (.ishr, 1) := by decide +kernel
theorem dL_does_193 : decode cL_does 193 = .ok (.iconst 3, 1) := by decide +kernel
theorem dL_does_194 : decode cL_does 194 = .ok (.iand, 1) := by decide +kernel
theorem dL_does_195 : decode cL_does 195 = .ok (.iload 6, 2) := by decide +kernel
theorem dL_does_197 : decode cL_does 197 = .ok (.invokevirtual 62, 3) := by decide +kernel
theorem dL_does_200 : decode cL_does 200 = .ok (.iload 8, 2) := by decide +kernel
theorem dL_does_202 : decode cL_does 202 = .ok (.iload 6, 2) := by decide +kernel
theorem dL_does_204 : decode cL_does 204 = .ok (.if_icmp .ne 8, 3) := by decide +kernel
theorem dL_does_207 : decode cL_does 207 = .ok (.bipush (-5), 2) := by decide +kernel
theorem dL_does_209 : decode cL_does 209 = .ok (.goto 5, 3) := by decide +kernel
theorem dL_does_212 : decode cL_does 212 = .ok (.iload 8, 2) := by decide +kernel
theorem dL_does_214 : decode cL_does 214 = .ok (.if_icmp .ne 24, 3) := by decide +kernel
theorem dL_does_217 : decode cL_does 217 = .ok (.aload_n 0, 1) := by decide +kernel
theorem dL_does_218 : decode cL_does 218 = .ok (.iload 4, 2) := by decide +kernel
theorem dL_does_220 : decode cL_does 220 = .ok (.iload_n 1, 1) := by decide +kernel
theorem dL_does_221 : decode cL_does 221 = .ok (.bipush 9, 2) := by decide +kernel
theorem dL_does_223 : decode cL_does 223 = .ok (.ishr, 1) := by decide +kernel
theorem dL_does_224 : decode cL_does 224 = .ok (.iconst 3, 1) := by decide +kernel
theorem dL_does_225 : decode cL_does 225 = .ok (.iand, 1) := by decide +kernel
theorem dL_does_226 : decode cL_does 226 = .ok (.invokevirtual 14, 3) := by decide +kernel
theorem dL_does_229 : decode cL_does 229 = .ok (.iload 6, 2) := by decide +kernel
theorem dL_does_231 : decode cL_does 231 = .ok (.if_icmp .ne 7, 3) := by decide +kernel
theorem dL_does_234 : decode cL_does 234 = .ok (.iconst 1, 1) := by decide +kernel
theorem dL_does_235 : decode cL_does 235 = .ok (.goto 4, 3) := by decide +kernel
theorem dL_does_238 : decode cL_does 238 = .ok (.iconst 0, 1) := by decide +kernel
theorem dL_does_239 : decode cL_does 239 = .ok (.ireturn, 1) := by decide +kernel
theorem dL_does_240 : decode cL_does 240 = .ok (.iload 4, 2) := by decide +kernel
theorem dL_does_242 : decode cL_does 242 = .ok (.iload 5, 2) := by decide +kernel
theorem dL_does_244 : decode cL_does 244 = .ok (.if_icmp .ne 7, 3) := by decide +kernel
theorem dL_does_247 : decode cL_does 247 = .ok (.iconst 0, 1) := by decide +kernel
theorem dL_does_248 : decode cL_does 248 = .ok (.goto 12, 3) := by decide +kernel
theorem dL_does_251 : decode cL_does 251 = .ok (.aload_n 0, 1) := by decide +kernel
theorem dL_does_252 : decode cL_does 252 = .ok (.iload 4, 2) := by decide +kernel
theorem dL_does_254 : decode cL_does 254 = .ok (.iload 5, 2) := by decide +kernel
theorem dL_does_256 : decode cL_does 256 = .ok (.iconst 0, 1) := by decide +kernel
theorem dL_does_257 : decode cL_does 257 = .ok (.invokevirtual 23, 3) := by decide +kernel
theorem dL_does_260 : decode cL_does 260 = .ok (.istore 9, 2) := by decide +kernel
theorem dL_does_262 : decode cL_does 262 = .ok (.aload_n 0, 1) := by decide +kernel
theorem dL_does_263 : decode cL_does 263 = .ok (.iload 4, 2) := by decide +kernel
theorem dL_does_265 : decode cL_does 265 = .ok (.iload 5, 2) := by decide +kernel
theorem dL_does_267 : decode cL_does 267 = .ok (.iload 6, 2) := by decide +kernel
theorem dL_does_269 : decode cL_does 269 = .ok (.invokevirtual 65, 3) := by decide +kernel
theorem dL_does_272 : decode cL_does 272 = .ok (.iload 4, 2) := by decide +kernel
theorem dL_does_274 : decode cL_does 274 = .ok (.iload 5, 2) := by decide +kernel
theorem dL_does_276 : decode cL_does 276 = .ok (.if_icmp .ne 8, 3) := by decide +kernel
theorem dL_does_279 : decode cL_does 279 = .ok (.bipush (-2), 2) := by decide +kernel
theorem dL_does_281 : decode cL_does 281 = .ok (.goto 17, 3) := by decide +kernel
theorem dL_does_284 : decode cL_does 284 = .ok (.iload 9, 2) := by decide +kernel
theorem dL_does_286 : decode cL_does 286 = .ok (.iload 6, 2) := by decide +kernel
theorem dL_does_288 : decode cL_does 288 = .ok (.if_icmp .ne 8, 3) := by decide +kernel
theorem dL_does_291 : decode cL_does 291 = .ok (.bipush (-5), 2) := by decide +kernel
theorem dL_does_293 : decode cL_does 293 = .ok (.goto 5, 3) := by decide +kernel
theorem dL_does_296 : decode cL_does 296 = .ok (.iload 9, 2) := by decide +kernel
theorem dL_does_298 : decode cL_does 298 = .ok (.if_icmp .ne 7, 3) := by decide +kernel
theorem dL_does_301 : decode cL_does 301 = .ok (.iconst 1, 1) := by decide +kernel
theorem dL_does_302 : decode cL_does 302 = .ok (.goto 4, 3) := by decide +kernel
theorem dL_does_305 : decode cL_does 305 = .ok (.iconst 0, 1) := by decide +kernel
theorem dL_does_306 : decode cL_does 306 = .ok (.ireturn, 1) := by decide +kernel
theorem dL_does_307 : decode cL_does 307 = .ok (.iload_n 2, 1) := by decide +kernel
theorem dL_does_308 : decode cL_does 308 = .ok (.iconst 1, 1) := by decide +kernel
theorem dL_does_309 : decode cL_does 309 = .ok (.iand, 1) := by decide +kernel
theorem dL_does_310 : decode cL_does 310 = .ok (.istore 10, 2) := by decide +kernel
theorem dL_does_312 : decode cL_does 312 = .ok (.iload 10, 2) := by decide +kernel
theorem dL_does_314 : decode cL_does 314 = .ok (.ifCond .ne 11, 3) := by decide +kernel
theorem dL_does_317 : decode cL_does 317 = .ok (.iload_n 2, 1) := by decide +kernel
theorem dL_does_318 : decode cL_does 318 = .ok (.iconst 1, 1) := by decide +kernel
theorem dL_does_319 : decode cL_does 319 = .ok (.ishr, 1) := by decide +kernel
theorem dL_does_320 : decode cL_does 320 = .ok (.iconst 1, 1) := by decide +kernel
theorem dL_does_321 : decode cL_does 321 = .ok (.iand, 1) := by decide +kernel
theorem dL_does_322 : decode cL_does 322 = .ok (.goto 13, 3) := by decide +kernel
theorem dL_does_325 : decode cL_does 325 = .ok (.iconst 1, 1) := by decide +kernel
theorem dL_does_326 : decode cL_does 326 = .ok (.iload_n 2, 1) := by decide +kernel
theorem dL_does_327 : decode cL_does 327 = .ok (.iconst 1, 1) := by decide +kernel
theorem dL_does_328 : decode cL_does 328 = .ok (.ishr, 1) := by decide +kernel
theorem dL_does_329 : decode cL_does 329 = .ok (.bipush 10, 2) := by decide +kernel
theorem dL_does_331 : decode cL_does 331 = .ok (.invokestatic 56, 3) := by decide +kernel
theorem dL_does_334 : decode cL_does 334 = .ok (.iadd, 1) := by decide +kernel
theorem dL_does_335 : decode cL_does 335 = .ok (.istore 11, 2) := by decide +kernel
theorem dL_does_337 : decode cL_does 337 = .ok (.aload_n 0, 1) := by decide +kernel
theorem dL_does_338 : decode cL_does 338 = .ok (.iload 10, 2) := by decide +kernel
theorem dL_does_340 : decode cL_does 340 = .ok (.invokevirtual 27, 3) := by decide +kernel
theorem dL_does_343 : decode cL_does 343 = .ok (.istore 12, 2) := by decide +kernel
theorem dL_does_345 : decode cL_does 345 = .ok (.aload_n 0, 1) := by decide +kernel
theorem dL_does_346 : decode cL_does 346 = .ok (.iload 10, 2) := by decide +kernel
theorem dL_does_348 : decode cL_does 348 = .ok (.iload 11, 2) := by decide +kernel
theorem dL_does_350 : decode cL_does 350 = .ok (.invokevirtual 68, 3) := by decide +kernel
theorem dL_does_353 : decode cL_does 353 = .ok (.iload 12, 2) := by decide +kernel
theorem dL_does_355 : decode cL_does 355 = .ok (.iload 11, 2) := by decide +kernel
theorem dL_does_357 : decode cL_does 357 = .ok (.if_icmp .ne 8, 3) := by decide +kernel
theorem dL_does_360 : decode cL_does 360 = .ok (.bipush (-5), 2) := by decide +kernel
theorem dL_does_362 : decode cL_does 362 = .ok (.goto 5, 3) := by decide +kernel
theorem dL_does_365 : decode cL_does 365 = .ok (.iload 12, 2) := by decide +kernel
theorem dL_does_367 : decode cL_does 367 = .ok (.if_icmp .ne 18, 3) := by decide +kernel
theorem dL_does_370 : decode cL_does 370 = .ok (.aload_n 0, 1) := by decide +kernel
theorem dL_does_371 : decode cL_does 371 = .ok (.iload 10, 2) := by decide +kernel
theorem dL_does_373 : decode cL_does 373 = .ok (.invokevirtual 27, 3) := by decide +kernel
theorem dL_does_376 : decode cL_does 376 = .ok (.iload 11, 2) := by decide +kernel
theorem dL_does_378 : decode cL_does 378 = .ok (.if_icmp .ne 7, 3) := by decide +kernel
theorem dL_does_381 : decode cL_does 381 = .ok (.iconst 1, 1) := by decide +kernel
theorem dL_does_382 : decode cL_does 382 = .ok (.goto 4, 3) := by decide +kernel
theorem dL_does_385 : decode cL_does 385 = .ok (.iconst 0, 1) := by decide +kernel
theorem dL_does_386 : decode cL_does 386 = .ok (.ireturn, 1) := by decide +kernel
theorem dL_does_387 : decode cL_does 387 = .ok (.aload_n 0, 1) := by decide +kernel
theorem dL_does_388 : decode cL_does 388 = .ok (.iload_n 3, 1) := by decide +kernel
theorem dL_does_389 : decode cL_does 389 = .ok (.iconst 4, 1) := by decide +kernel
theorem dL_does_390 : decode cL_does 390 = .ok (.invokevirtual 8, 3) := by decide +kernel
theorem dL_does_393 : decode cL_does 393 = .ok (.istore 13, 2) := by decide +kernel
theorem dL_does_395 : decode cL_does 395 = .ok (.iload_n 2, 1) := by decide +kernel
theorem dL_does_396 : decode cL_does 396 = .ok (.bipush 8, 2) := by decide +kernel
theorem dL_does_398 : decode cL_does 398 = .ok (.invokestatic 56, 3) := by decide +kernel
theorem dL_does_401 : decode cL_does 401 = .ok (.istore 14, 2) := by decide +kernel
theorem dL_does_403 : decode cL_does 403 = .ok (.aload_n 0, 1) := by decide +kernel
theorem dL_does_404 : decode cL_does 404 = .ok (.iload_n 3, 1) := by decide +kernel
theorem dL_does_405 : decode cL_does 405 = .ok (.iload 14, 2) := by decide +kernel
theorem dL_does_407 : decode cL_does 407 = .ok (.invokevirtual 71, 3) := by decide +kernel
theorem dL_does_410 : decode cL_does 410 = .ok (.iload 13, 2) := by decide +kernel
theorem dL_does_412 : decode cL_does 412 = .ok (.iload 14, 2) := by decide +kernel
theorem dL_does_414 : decode cL_does 414 = .ok (.if_icmp .ne 8, 3) := by decide +kernel
theorem dL_does_417 : decode cL_does 417 = .ok (.bipush (-5), 2) := by decide +kernel
theorem dL_does_419 : decode cL_does 419 = .ok (.goto 5, 3) := by decide +kernel
theorem dL_does_422 : decode cL_does 422 = .ok (.iload 13, 2) := by decide +kernel
theorem dL_does_424 : decode cL_does 424 = .ok (.if_icmp .ne 18, 3) := by decide +kernel
theorem dL_does_427 : decode cL_does 427 = .ok (.aload_n 0, 1) := by decide +kernel
theorem dL_does_428 : decode cL_does 428 = .ok (.iload_n 3, 1) := by decide +kernel
theorem dL_does_429 : decode cL_does 429 = .ok (.iconst 4, 1) := by decide +kernel
theorem dL_does_430 : decode cL_does 430 = .ok (.invokevirtual 8, 3) := by decide +kernel
theorem dL_does_433 : decode cL_does 433 = .ok (.iload 14, 2) := by decide +kernel
theorem dL_does_435 : decode cL_does 435 = .ok (.if_icmp .ne 7, 3) := by decide +kernel
theorem dL_does_438 : decode cL_does 438 = .ok (.iconst 1, 1) := by decide +kernel
theorem dL_does_439 : decode cL_does 439 = .ok (.goto 4, 3) := by decide +kernel
theorem dL_does_442 : decode cL_does 442 = .ok (.iconst 0, 1) := by decide +kernel
theorem dL_does_443 : decode cL_does 443 = .ok (.ireturn, 1) := by decide +kernel
theorem dL_does_444 : decode cL_does 444 = .ok (.iload 4, 2) := by decide +kernel
theorem dL_does_446 : decode cL_does 446 = .ok (.iload 5, 2) := by decide +kernel
theorem dL_does_448 : decode cL_does 448 = .ok (.if_icmp .ne 7, 3) := by decide +kernel
theorem dL_does_451 : decode cL_does 451 = .ok (.iconst 0, 1) := by decide +kernel
theorem dL_does_452 : decode cL_does 452 = .ok (.goto 12, 3) := by decide +kernel
theorem dL_does_455 : decode cL_does 455 = .ok (.aload_n 0, 1) := by decide +kernel
theorem dL_does_456 : decode cL_does 456 = .ok (.iload 4, 2) := by decide +kernel
theorem dL_does_458 : decode cL_does 458 = .ok (.iload 5, 2) := by decide +kernel
theorem dL_does_460 : decode cL_does 460 = .ok (.iconst 4, 1) := by decide +kernel
theorem dL_does_461 : decode cL_does 461 = .ok (.invokevirtual 23, 3) := by decide +kernel
theorem dL_does_464 : decode cL_does 464 = .ok (.istore 15, 2) := by decide +kernel
theorem dL_does_466 : decode cL_does 466 = .ok (.aload_n 0, 1) := by decide +kernel
theorem dL_does_467 : decode cL_does 467 = .ok (.iload 4, 2) := by decide +kernel
theorem dL_does_469 : decode cL_does 469 = .ok (.iload 5, 2) := by decide +kernel
theorem dL_does_471 : decode cL_does 471 = .ok (.invokevirtual 47, 3) := by decide +kernel
theorem dL_does_474 : decode cL_does 474 = .ok (.istore 16, 2) := by decide +kernel
theorem dL_does_476 : decode cL_does 476 = .ok (.iload 4, 2) := by decide +kernel
theorem dL_does_478 : decode cL_does 478 = .ok (.iload 5, 2) := by decide +kernel
theorem dL_does_480 : decode cL_does 480 = .ok (.if_icmp .ne 18, 3) := by decide +kernel
theorem dL_does_483 : decode cL_does 483 = .ok (.iload 16, 2) := by decide +kernel
theorem dL_does_485 : decode cL_does 485 = .ok (.bipush (-2), 2) := by decide +kernel
theorem dL_does_487 : decode cL_does 487 = .ok (.if_icmp .ne 7, 3) := by decide +kernel
theorem dL_does_490 : decode cL_does 490 = .ok (.iconst 1, 1) := by decide +kernel
theorem dL_does_491 : decode cL_does 491 = .ok (.goto 45, 3) := by decide +kernel
theorem dL_does_494 : decode cL_does 494 = .ok (.iconst 0, 1) := by decide +kernel
theorem dL_does_495 : decode cL_does 495 = .ok (.goto 41, 3) := by decide +kernel
theorem dL_does_498 : decode cL_does 498 = .ok (.iload 15, 2) := by decide +kernel
theorem dL_does_500 : decode cL_does 500 = .ok (.ifCond .le 21, 3) := by decide +kernel
theorem dL_does_503 : decode cL_does 503 = .ok (.iload 16, 2) := by decide +kernel
theorem dL_does_505 : decode cL_does 505 = .ok (.bipush (-10), 2) := by decide +kernel
theorem dL_does_507 : decode cL_does 507 = .ok (.iload 15, 2) := by decide +kernel
theorem dL_does_509 : decode cL_does 509 = .ok (.isub, 1) := by decide +kernel
theorem dL_does_510 : decode cL_does 510 = .ok (.if_icmp .ne 7, 3) := by decide +kernel
theorem dL_does_513 : decode cL_does 513 = .ok (.iconst 1, 1) := by decide +kernel
theorem dL_does_514 : decode cL_does 514 = .ok (.goto 22, 3) := by decide +kernel
theorem dL_does_517 : decode cL_does 517 = .ok (.iconst 0, 1) := by decide +kernel
theorem dL_does_518 : decode cL_does 518 = .ok (.goto 18, 3) := by decide +kernel
theorem dL_does_521 : decode cL_does 521 = .ok (.iload 16, 2) := by decide +kernel
theorem dL_does_523 : decode cL_does 523 = .ok (.aload_n 0, 1) := by decide +kernel
theorem dL_does_524 : decode cL_does 524 = .ok (.iconst 3, 1) := by decide +kernel
theorem dL_does_525 : decode cL_does 525 = .ok (.invokevirtual 27, 3) := by decide +kernel
theorem dL_does_528 : decode cL_does 528 = .ok (.if_icmp .ne 7, 3) := by decide +kernel
theorem dL_does_531 : decode cL_does 531 = .ok (.iconst 1, 1) := by decide +kernel
theorem dL_does_532 : decode cL_does 532 = .ok (.goto 4, 3) := by decide +kernel
theorem dL_does_535 : decode cL_does 535 = .ok (.iconst 0, 1) := by decide +kernel
theorem dL_does_536 : decode cL_does 536 = .ok (.ireturn, 1) := by decide +kernel
theorem dL_does_537 : decode cL_does 537 = .ok (.aload_n 0, 1) := by decide +kernel
theorem dL_does_538 : decode cL_does 538 = .ok (.invokestatic 74, 3) := by decide +kernel
theorem dL_does_541 : decode cL_does 541 = .ok (.ireturn, 1) := by decide +kernel
theorem dL_does_542 : decode cL_does 542 = .ok (.aload_n 0, 1) := by decide +kernel
theorem dL_does_543 : decode cL_does 543 = .ok (.iconst 1, 1) := by decide +kernel
theorem dL_does_544 : decode cL_does 544 = .ok (.iload_n 2, 1) := by decide +kernel
theorem dL_does_545 : decode cL_does 545 = .ok (.bipush 127, 2) := by decide +kernel
theorem dL_does_547 : decode cL_does 547 = .ok (.invokestatic 56, 3) := by decide +kernel
theorem dL_does_550 : decode cL_does 550 = .ok (.iadd, 1) := by decide +kernel
theorem dL_does_551 : decode cL_does 551 = .ok (.invokestatic 78, 3) := by decide +kernel
theorem dL_does_554 : decode cL_does 554 = .ok (.ireturn, 1) := by decide +kernel
set_option maxRecDepth 20000 in
theorem ggL_law_X5_init : GoodIn wsL_law wsX5_init := goodIn_r _ [5, 6, 7, 8, 9, 10, 11, 12, 13, 14, 15, 16, 17, 18, 19, 20, 21, 22, 23, 24, 25, 26, 27, 28, 29, 30, 31, 32, 33, 34, 35, 36, 37, 38, 39, 40, 41, 42, 43, 44, 45, 46, 47, 48, 49, 50, 51, 52, 53, 54, 55, 56, 57, 58, 59, 60, 61, 62, 63, 64, 65, 66, 67, 68, 69, 70, 71, 72, 73, 74, 75, 493, 494, 495, 496, 497, 498, 499, 500, 501, 486, 487, 488, 489, 490, 491, 492, 502, 503, 504, 505, 506, 507, 508, 509, 510, 511, 512, 513, 514, 515, 516, 517, 518, 519, 520, 521, 522, 523, 524] rfl (by decide +kernel)
set_option maxRecDepth 20000 in
theorem gL_law_X5_init : GoodIn wsL_law (wsX5_init) := ggL_law_X5_init
set_option maxRecDepth 20000 in
theorem ggL_law_L_isWhole : GoodIn wsL_law wsL_isWhole := goodIn_r _ [79, 80, 81, 82, 2, 83, 12, 84, 85, 86, 87, 88, 89, 90, 91, 11, 92, 41, 93, 94, 95, 96, 97, 20, 98, 99, 100, 101, 102, 103, 19, 104, 61, 62, 105, 106, 107, 108, 109, 39, 110, 111, 112, 113, 114, 115, 116, 117, 118, 119, 120, 121, 122, 123, 124, 38, 125, 126, 127, 128, 129, 130, 131, 132, 133, 134, 135, 136, 137, 138, 139, 140, 141, 142, 143, 144, 145, 146, 147, 148, 149, 150, 151, 152, 153, 154, 155, 156, 157, 158, 159, 160, 40, 161, 162, 163, 164, 165, 166, 167, 168, 169, 170, 171, 172, 173, 174, 175, 176, 177, 178, 179, 180, 181, 182, 183, 184, 185, 28, 186, 24, 187, 188, 189, 190, 191, 192, 193, 194, 195, 196, 197, 198, 199, 200, 201, 202, 203, 204, 205, 206, 207, 208, 209, 210, 211, 212, 213, 214, 215, 216, 217, 218, 219, 220, 221, 222, 223, 224, 225, 486, 487, 488, 489, 490, 491, 492, 493, 494, 495, 496, 497, 498, 499, 500, 501, 510, 511, 512, 513, 514, 523, 524, 515, 516, 517, 518, 519, 520, 521, 522] rfl (by decide +kernel)
set_option maxRecDepth 20000 in
theorem gL_law_L_isWhole : GoodIn wsL_law (va_wsS RL 83 yL_isWhole wsL_isWhole) := goodIn_app (goodIn_of _ (by decide +kernel)) ggL_law_L_isWhole
set_option maxRecDepth 20000 in
theorem ggL_law_X5_total : GoodIn wsL_law wsX5_total := goodIn_r _ [181, 20, 12, 85, 182, 183, 184, 185, 28, 186, 24, 187, 101, 102, 103, 19, 104, 61, 62, 99, 2, 100, 105, 90, 91, 11, 92, 41, 106, 107, 108, 109, 39, 188, 189, 190, 191, 129, 130, 192, 126, 127, 128, 131, 132, 133, 134, 135, 136, 137, 138, 139, 140, 141, 142, 143, 144, 111, 112, 113, 193, 194, 195, 196, 197, 146, 147, 148, 198, 199, 200, 201, 202, 173, 174, 175, 176, 177, 167, 168, 169, 38, 486, 487, 488, 489, 490, 491, 492, 493, 494, 495, 496, 497, 498, 499, 500, 501, 523, 524, 515, 516, 517, 518, 519, 520, 521, 522, 510, 511, 512, 513, 514] rfl (by decide +kernel)
set_option maxRecDepth 20000 in
theorem gL_law_X5_total : GoodIn wsL_law (wsV RL 27 RX5 yX5_total wsX5_total) := goodIn_app (goodIn_of _ (by decide +kernel)) ggL_law_X5_total
set_option maxRecDepth 20000 in
theorem ggL_law_X5_undo : GoodIn wsL_law wsX5_undo := goodIn_r _ [229, 28, 186, 12, 230, 231, 232, 27, 233, 234, 74, 235, 236, 237, 11, 238, 36, 239, 240, 241, 242, 37, 38, 39, 40, 41, 243, 244, 245, 486, 487, 488, 489, 490, 491, 492, 523, 524, 493, 494, 495, 496, 497, 498, 499, 500, 501] rfl (by decide +kernel)
set_option maxRecDepth 20000 in
theorem gL_law_X5_undo : GoodIn wsL_law (wsV RL 50 RX5 yX5_undo wsX5_undo) := goodIn_app (goodIn_of _ (by decide +kernel)) ggL_law_X5_undo
set_option maxRecDepth 20000 in
theorem ggL_law_X5_restore : GoodIn wsL_law wsX5_restore := goodIn_r _ [249, 30, 28, 12, 29, 250, 251, 252, 27, 253, 234, 74, 254, 255, 256, 257, 235, 236, 237, 11, 238, 36, 239, 240, 241, 242, 37, 38, 39, 40, 41, 243, 244, 245, 258, 106, 107, 108, 109, 486, 487, 488, 489, 490, 491, 492, 523, 524, 493, 494, 495, 496, 497, 498, 499, 500, 501] rfl (by decide +kernel)
set_option maxRecDepth 20000 in
theorem gL_law_X5_restore : GoodIn wsL_law (wsV RL 86 RX5 yX5_restore wsX5_restore) := goodIn_app (goodIn_of _ (by decide +kernel)) ggL_law_X5_restore
set_option maxRecDepth 20000 in
theorem ggL_law_X5_perform : GoodIn wsL_law wsX5_perform := goodIn_r _ [262, 24, 263, 28, 12, 264, 265, 266, 23, 267, 268, 269, 270, 271, 272, 273, 274, 275, 276, 277, 278, 68, 279, 280, 281, 282, 283, 284, 285, 137, 286, 287, 288, 289, 290, 291, 292, 293, 294, 66, 295, 296, 297, 298, 299, 300, 301, 302, 303, 304, 305, 306, 307, 308, 250, 251, 252, 27, 253, 234, 74, 254, 255, 256, 257, 235, 236, 237, 11, 238, 36, 239, 240, 241, 242, 37, 38, 39, 40, 41, 243, 244, 245, 309, 310, 311, 312, 2, 313, 314, 315, 316, 317, 318, 319, 320, 321, 322, 46, 47, 48, 49, 323, 324, 325, 326, 42, 43, 44, 45, 327, 328, 329, 330, 331, 332, 333, 334, 16, 335, 85, 336, 183, 337, 184, 338, 339, 340, 341, 15, 342, 343, 344, 345, 346, 347, 348, 349, 350, 351, 56, 55, 352, 158, 159, 160, 161, 122, 123, 124, 353, 354, 355, 356, 357, 358, 359, 360, 361, 362, 363, 129, 130, 364, 365, 366, 367, 368, 115, 116, 117, 369, 90, 91, 92, 370, 371, 372, 373, 374, 375, 376, 377, 378, 379, 167, 168, 169, 380, 381, 382, 383, 54, 384, 385, 386, 387, 388, 389, 390, 486, 487, 488, 489, 490, 491, 492, 515, 516, 517, 518, 519, 520, 521, 522, 523, 524, 493, 494, 495, 496, 497, 498, 499, 500, 501, 502, 503, 504, 505, 506, 507, 508, 509] rfl (by decide +kernel)
set_option maxRecDepth 20000 in
theorem gL_law_X5_perform : GoodIn wsL_law (wsV RL 89 RX5 yX5_perform wsX5_perform) := goodIn_app (goodIn_of _ (by decide +kernel)) ggL_law_X5_perform
set_option maxRecDepth 20000 in
theorem ggL_law_L_cell : GoodIn wsL_law wsL_cell := goodIn_r _ [393] rfl (by decide +kernel)
set_option maxRecDepth 20000 in
theorem gL_law_L_cell : GoodIn wsL_law (va_wsS RL 92 yL_cell wsL_cell) := goodIn_app (goodIn_of _ (by decide +kernel)) ggL_law_L_cell
set_option maxRecDepth 20000 in
theorem ggL_law_L_does : GoodIn wsL_law wsL_does := goodIn_r _ [396, 397, 398, 78, 399, 400, 80, 81, 82, 2, 83, 12, 84, 85, 86, 87, 88, 89, 90, 91, 11, 92, 41, 401, 402, 403, 404, 28, 405, 406, 407, 408, 409, 410, 250, 251, 252, 27, 253, 234, 74, 254, 255, 256, 257, 235, 236, 237, 238, 36, 239, 240, 241, 242, 37, 38, 39, 40, 243, 244, 245, 319, 320, 321, 322, 46, 47, 48, 49, 93, 94, 95, 96, 97, 20, 98, 99, 100, 101, 102, 103, 19, 104, 61, 62, 105, 106, 107, 108, 109, 110, 111, 112, 113, 114, 115, 116, 117, 118, 119, 120, 121, 122, 123, 124, 125, 126, 127, 128, 129, 130, 131, 132, 133, 134, 135, 136, 137, 138, 139, 140, 141, 142, 143, 144, 145, 146, 147, 148, 149, 150, 151, 152, 153, 154, 155, 156, 157, 158, 159, 160, 161, 411, 412, 413, 414, 323, 324, 325, 326, 42, 43, 44, 45, 162, 163, 164, 165, 166, 167, 168, 169, 170, 171, 172, 173, 174, 175, 176, 177, 415, 416, 417, 418, 327, 328, 329, 330, 178, 179, 180, 181, 182, 183, 184, 185, 186, 24, 187, 188, 189, 190, 191, 192, 193, 194, 195, 196, 197, 198, 199, 200, 201, 202, 419, 420, 421, 422, 423, 424, 425, 426, 427, 428, 429, 430, 431, 432, 433, 434, 435, 436, 437, 438, 439, 440, 441, 442, 222, 223, 224, 443, 444, 445, 203, 204, 205, 206, 207, 208, 209, 210, 211, 212, 213, 214, 215, 216, 217, 218, 219, 220, 221, 225, 446, 447, 448, 449, 226, 227, 228, 229, 230, 231, 232, 233, 450, 451, 452, 453, 454, 455, 456, 16, 337, 338, 335, 457, 458, 459, 460, 339, 340, 341, 15, 342, 343, 344, 345, 346, 347, 348, 349, 350, 351, 56, 55, 352, 353, 354, 355, 356, 357, 358, 359, 360, 361, 362, 363, 364, 365, 366, 367, 368, 369, 370, 371, 372, 373, 374, 375, 376, 377, 378, 379, 380, 381, 382, 383, 54, 384, 385, 386, 387, 388, 389, 461, 462, 463, 464, 331, 332, 333, 334, 336, 465, 466, 467, 486, 487, 488, 489, 490, 491, 492, 493, 494, 495, 496, 497, 498, 499, 500, 501, 523, 524, 510, 511, 512, 513, 514, 515, 516, 517, 518, 519, 520, 521, 522, 502, 503, 504, 505, 506, 507, 508, 509] rfl (by decide +kernel)
set_option maxRecDepth 20000 in
theorem gL_law_L_does : GoodIn wsL_law (va_wsS RL 96 yL_does wsL_does) := goodIn_app (goodIn_of _ (by decide +kernel)) ggL_law_L_does
set_option maxRecDepth 20000 in
theorem ggL_law_L_low : GoodIn wsL_law wsL_low := goodIn_r _ [399, 400] rfl (by decide +kernel)
set_option maxRecDepth 20000 in
theorem gL_law_L_low : GoodIn wsL_law (va_wsS RL 56 yL_low wsL_low) := goodIn_app (goodIn_of _ (by decide +kernel)) ggL_law_L_low
set_option maxRecDepth 20000 in
theorem ggL_law_L_isCousin : GoodIn wsL_law wsL_isCousin := goodIn_r _ [470, 471, 472, 78, 473, 80, 81, 82, 2, 83, 12, 84, 85, 86, 87, 88, 89, 90, 91, 11, 92, 41, 93, 94, 95, 96, 97, 20, 98, 99, 100, 101, 102, 103, 19, 104, 61, 62, 105, 106, 107, 108, 109, 39, 110, 111, 112, 113, 114, 115, 116, 117, 118, 119, 120, 121, 122, 123, 124, 38, 125, 126, 127, 128, 129, 130, 131, 132, 133, 134, 135, 136, 137, 138, 139, 140, 141, 142, 143, 144, 145, 146, 147, 148, 149, 150, 151, 152, 153, 154, 155, 156, 157, 158, 159, 160, 40, 161, 162, 163, 164, 165, 166, 167, 168, 169, 170, 171, 172, 173, 174, 175, 176, 177, 178, 179, 180, 181, 182, 183, 184, 185, 28, 186, 24, 187, 188, 189, 190, 191, 192, 193, 194, 195, 196, 197, 198, 199, 200, 201, 202, 486, 487, 488, 489, 490, 491, 492, 493, 494, 495, 496, 497, 498, 499, 500, 501, 510, 511, 512, 513, 514, 523, 524, 515, 516, 517, 518, 519, 520, 521, 522] rfl (by decide +kernel)
set_option maxRecDepth 20000 in
theorem gL_law_L_isCousin : GoodIn wsL_law (va_wsS RL 100 yL_isCousin wsL_isCousin) := goodIn_app (goodIn_of _ (by decide +kernel)) ggL_law_L_isCousin
set_option maxRecDepth 20000 in
theorem ggL_law_L_isWithout : GoodIn wsL_law wsL_isWithout := goodIn_r _ [476, 477, 478, 479, 2, 480, 481, 482, 483, 484, 16, 20, 335, 485, 384, 385, 339, 340, 341, 15, 342, 343, 344, 345, 346, 347, 348, 349, 350, 351, 56, 55, 352, 158, 159, 11, 160, 40, 161, 122, 123, 124, 38, 353, 354, 355, 356, 357, 358, 359, 360, 361, 362, 363, 129, 130, 364, 365, 366, 367, 368, 115, 116, 117, 41, 369, 90, 91, 92, 370, 371, 372, 373, 374, 375, 376, 377, 378, 379, 167, 168, 169, 380, 381, 382, 383, 54, 386, 387, 388, 389, 101, 102, 103, 19, 104, 61, 62, 99, 100, 105, 188, 189, 190, 191, 192, 126, 127, 128, 131, 132, 133, 134, 135, 136, 137, 138, 139, 140, 141, 142, 143, 144, 111, 112, 113, 461, 462, 463, 464, 28, 12, 337, 458, 459, 460, 250, 251, 252, 27, 253, 234, 74, 254, 255, 256, 257, 235, 236, 237, 238, 36, 239, 240, 241, 242, 37, 39, 243, 244, 245, 331, 332, 333, 334, 85, 336, 183, 184, 338, 162, 163, 164, 165, 98, 166, 110, 170, 171, 172, 173, 174, 175, 176, 177, 226, 227, 228, 229, 186, 230, 231, 232, 233, 486, 487, 488, 489, 490, 491, 492, 502, 503, 504, 505, 506, 507, 508, 509, 493, 494, 495, 496, 497, 498, 499, 500, 501, 510, 511, 512, 513, 514, 523, 524] rfl (by decide +kernel)
set_option maxRecDepth 20000 in
theorem gL_law_L_isWithout : GoodIn wsL_law (va_wsS RL 103 yL_isWithout wsL_isWithout) := goodIn_app (goodIn_of _ (by decide +kernel)) ggL_law_L_isWithout
set_option maxRecDepth 20000 in
theorem ggL_law_X5_plant : GoodIn wsL_law wsX5_plant := goodIn_r _ [404, 12, 84, 28, 86, 87, 2, 88, 405, 406, 407, 408, 409, 410, 250, 251, 252, 27, 253, 234, 74, 254, 255, 256, 257, 235, 236, 237, 11, 238, 36, 239, 240, 241, 242, 37, 38, 39, 40, 41, 243, 244, 245, 319, 320, 321, 322, 46, 47, 48, 49, 486, 487, 488, 489, 490, 491, 492, 493, 494, 495, 496, 497, 498, 499, 500, 501, 523, 524] rfl (by decide +kernel)
set_option maxRecDepth 20000 in
theorem gL_law_X5_plant : GoodIn wsL_law (wsV RL 59 RX5 yX5_plant wsX5_plant) := goodIn_app (goodIn_of _ (by decide +kernel)) ggL_law_X5_plant
set_option maxRecDepth 20000 in
theorem ggL_law_X5_weigh : GoodIn wsL_law wsX5_weigh := goodIn_r _ [414, 12, 97, 28, 98, 99, 2, 100, 405, 406, 407, 408, 409, 410, 250, 251, 252, 27, 253, 234, 74, 254, 255, 256, 257, 235, 236, 237, 11, 238, 36, 239, 240, 241, 242, 37, 38, 39, 40, 41, 243, 244, 245, 323, 324, 325, 326, 42, 43, 44, 45, 46, 47, 48, 49, 486, 487, 488, 489, 490, 491, 492, 493, 494, 495, 496, 497, 498, 499, 500, 501, 523, 524] rfl (by decide +kernel)
set_option maxRecDepth 20000 in
theorem gL_law_X5_weigh : GoodIn wsL_law (wsV RL 62 RX5 yX5_weigh wsX5_weigh) := goodIn_app (goodIn_of _ (by decide +kernel)) ggL_law_X5_weigh
set_option maxRecDepth 20000 in
theorem ggL_law_X5_divide : GoodIn wsL_law wsX5_divide := goodIn_r _ [464, 28, 12, 16, 337, 458, 459, 2, 460, 250, 251, 252, 27, 253, 234, 74, 254, 255, 256, 257, 235, 236, 237, 11, 238, 36, 239, 240, 241, 242, 37, 38, 39, 40, 41, 243, 244, 245, 331, 332, 333, 334, 335, 85, 336, 183, 184, 338, 339, 340, 341, 15, 342, 343, 344, 345, 346, 347, 348, 349, 350, 351, 56, 55, 352, 158, 159, 160, 161, 122, 123, 124, 353, 354, 355, 356, 357, 358, 359, 360, 361, 362, 363, 129, 130, 364, 365, 366, 367, 368, 115, 116, 117, 369, 90, 91, 92, 370, 371, 372, 373, 374, 375, 376, 377, 378, 379, 167, 168, 169, 380, 381, 382, 383, 54, 384, 385, 386, 387, 388, 389, 486, 487, 488, 489, 490, 491, 492, 502, 503, 504, 505, 506, 507, 508, 509, 523, 524, 493, 494, 495, 496, 497, 498, 499, 500, 501] rfl (by decide +kernel)
set_option maxRecDepth 20000 in
theorem gL_law_X5_divide : GoodIn wsL_law (wsV RL 37 RX5 yX5_divide wsX5_divide) := goodIn_app (goodIn_of _ (by decide +kernel)) ggL_law_X5_divide
set_option maxRecDepth 20000 in
theorem ggL_law_X5_give : GoodIn wsL_law wsX5_give := goodIn_r _ [429, 12, 85, 28, 86, 87, 2, 88, 98, 99, 100, 250, 251, 252, 27, 253, 234, 74, 254, 255, 256, 257, 235, 236, 237, 11, 238, 36, 239, 240, 241, 242, 37, 38, 39, 40, 41, 243, 244, 245, 486, 487, 488, 489, 490, 491, 492, 493, 494, 495, 496, 497, 498, 499, 500, 501, 523, 524] rfl (by decide +kernel)
set_option maxRecDepth 20000 in
theorem gL_law_X5_give : GoodIn wsL_law (wsV RL 71 RX5 yX5_give wsX5_give) := goodIn_app (goodIn_of _ (by decide +kernel)) ggL_law_X5_give
set_option maxRecDepth 20000 in
theorem ggL_law_X5_set : GoodIn wsL_law wsX5_set := goodIn_r _ [422, 12, 182, 28, 423, 424, 2, 425, 250, 251, 252, 27, 253, 234, 74, 254, 255, 256, 257, 235, 236, 237, 11, 238, 36, 239, 240, 241, 242, 37, 38, 39, 40, 41, 243, 244, 245, 486, 487, 488, 489, 490, 491, 492, 493, 494, 495, 496, 497, 498, 499, 500, 501, 523, 524] rfl (by decide +kernel)
set_option maxRecDepth 20000 in
theorem gL_law_X5_set : GoodIn wsL_law (wsV RL 68 RX5 yX5_set wsX5_set) := goodIn_app (goodIn_of _ (by decide +kernel)) ggL_law_X5_set
set_option maxRecDepth 20000 in
theorem ggL_law_X5_pair : GoodIn wsL_law wsX5_pair := goodIn_r _ [165, 20, 12, 85, 98, 99, 2, 100, 101, 102, 103, 19, 104, 61, 62, 105, 90, 91, 11, 92, 41, 166, 167, 168, 169, 38, 110, 111, 112, 113, 170, 140, 141, 142, 143, 171, 132, 133, 134, 135, 136, 137, 138, 139, 144, 172, 173, 174, 175, 176, 177, 486, 487, 488, 489, 490, 491, 492, 493, 494, 495, 496, 497, 498, 499, 500, 501, 510, 511, 512, 513, 514] rfl (by decide +kernel)
set_option maxRecDepth 20000 in
theorem gL_law_X5_pair : GoodIn wsL_law (wsV RL 23 RX5 yX5_pair wsX5_pair) := goodIn_app (goodIn_of _ (by decide +kernel)) ggL_law_X5_pair
theorem dL_law_0 : decode cL_law 0 = .ok (.new 9, 3) := by decide +kernel
theorem dL_law_3 : decode cL_law 3 = .ok (.dup, 1) := by decide +kernel
theorem dL_law_4 : decode cL_law 4 = .ok (.invokespecial 82, 3) := by decide +kernel
theorem dL_law_7 : decode cL_law 7 = .ok (.astore_n 1, 1) := by decide +kernel
theorem dL_law_8 : decode cL_law 8 = .ok (.aload_n 1, 1) := by decide +kernel
theorem dL_law_9 : decode cL_law 9 = .ok (.invokestatic 83, 3) := by decide +kernel
theorem dL_law_12 : decode cL_law 12 = .ok (.ifCond .eq 49, 3) := by decide +kernel
theorem dL_law_15 : decode cL_law 15 = .ok (.aload_n 1, 1) := by decide +kernel
theorem dL_law_16 : decode cL_law 16 = .ok (.iconst 2, 1) := by decide +kernel
theorem dL_law_17 : decode cL_law 17 = .ok (.invokevirtual 27, 3) := by decide +kernel
theorem dL_law_20 : decode cL_law 20 = .ok (.bipush 24, 2) := by decide +kernel
theorem dL_law_22 : decode cL_law 22 = .ok (.if_icmp .ne 39, 3) := by decide +kernel
theorem dL_law_25 : decode cL_law 25 = .ok (.aload_n 1, 1) := by decide +kernel
theorem dL_law_26 : decode cL_law 26 = .ok (.iconst 1, 1) := by decide +kernel
theorem dL_law_27 : decode cL_law 27 = .ok (.invokevirtual 27, 3) := by decide +kernel
theorem dL_law_30 : decode cL_law 30 = .ok (.iconst 5, 1) := by decide +kernel
theorem dL_law_31 : decode cL_law 31 = .ok (.if_icmp .ne 30, 3) := by decide +kernel
theorem dL_law_34 : decode cL_law 34 = .ok (.aload_n 1, 1) := by decide +kernel
theorem dL_law_35 : decode cL_law 35 = .ok (.invokevirtual 50, 3) := by decide +kernel
theorem dL_law_38 : decode cL_law 38 = .ok (.bipush (-5), 2) := by decide +kernel
theorem dL_law_40 : decode cL_law 40 = .ok (.if_icmp .ne 21, 3) := by decide +kernel
theorem dL_law_43 : decode cL_law 43 = .ok (.aload_n 1, 1) := by decide +kernel
theorem dL_law_44 : decode cL_law 44 = .ok (.invokevirtual 86, 3) := by decide +kernel
theorem dL_law_47 : decode cL_law 47 = .ok (.bipush (-5), 2) := by decide +kernel
theorem dL_law_49 : decode cL_law 49 = .ok (.if_icmp .ne 12, 3) := by decide +kernel
theorem dL_law_52 : decode cL_law 52 = .ok (.aload_n 1, 1) := by decide +kernel
theorem dL_law_53 : decode cL_law 53 = .ok (.invokevirtual 89, 3) := by decide +kernel
theorem dL_law_56 : decode cL_law 56 = .ok (.bipush (-100), 2) := by decide +kernel
theorem dL_law_58 : decode cL_law 58 = .ok (.if_icmp .eq 5, 3) := by decide +kernel
theorem dL_law_61 : decode cL_law 61 = .ok (.iconst 0, 1) := by decide +kernel
theorem dL_law_62 : decode cL_law 62 = .ok (.ireturn, 1) := by decide +kernel
theorem dL_law_63 : decode cL_law 63 = .ok (.iconst 0, 1) := by decide +kernel
theorem dL_law_64 : decode cL_law 64 = .ok (.istore_n 2, 1) := by decide +kernel
theorem dL_law_65 : decode cL_law 65 = .ok (.iload_n 2, 1) := by decide +kernel
theorem dL_law_66 : decode cL_law 66 = .ok (.bipush 70, 2) := by decide +kernel
theorem dL_law_68 : decode cL_law 68 = .ok (.if_icmp .ge 88, 3) := by decide +kernel
theorem dL_law_71 : decode cL_law 71 = .ok (.aload_n 0, 1) := by decide +kernel
theorem dL_law_72 : decode cL_law 72 = .ok (.iconst 2, 1) := by decide +kernel
theorem dL_law_73 : decode cL_law 73 = .ok (.iload_n 2, 1) := by decide +kernel
theorem dL_law_74 : decode cL_law 74 = .ok (.imul, 1) := by decide +kernel
theorem dL_law_75 : decode cL_law 75 = .ok (.invokestatic 92, 3) := by decide +kernel
theorem dL_law_78 : decode cL_law 78 = .ok (.istore_n 3, 1) := by decide +kernel
theorem dL_law_79 : decode cL_law 79 = .ok (.aload_n 1, 1) := by decide +kernel
theorem dL_law_80 : decode cL_law 80 = .ok (.iload_n 3, 1) := by decide +kernel
theorem dL_law_81 : decode cL_law 81 = .ok (.aload_n 0, 1) := by decide +kernel
theorem dL_law_82 : decode cL_law 82 = .ok (.iconst 2, 1) := by decide +kernel
theorem dL_law_83 : decode cL_law 83 = .ok (.iload_n 2, 1) := by decide +kernel
theorem dL_law_84 : decode cL_law 84 = .ok (.imul, 1) := by decide +kernel
theorem dL_law_85 : decode cL_law 85 = .ok (.iconst 1, 1) := by decide +kernel
theorem dL_law_86 : decode cL_law 86 = .ok (.iadd, 1) := by decide +kernel
theorem dL_law_87 : decode cL_law 87 = .ok (.invokestatic 92, 3) := by decide +kernel
theorem dL_law_90 : decode cL_law 90 = .ok (.invokestatic 96, 3) := by decide +kernel
theorem dL_law_93 : decode cL_law 93 = .ok (.ifCond .eq 55, 3) := by decide +kernel
theorem dL_law_96 : decode cL_law 96 = .ok (.iload_n 2, 1) := by decide +kernel
theorem dL_law_97 : decode cL_law 97 = .ok (.iconst 2, 1) := by decide +kernel
theorem dL_law_98 : decode cL_law 98 = .ok (.irem, 1) := by decide +kernel
theorem dL_law_99 : decode cL_law 99 = .ok (.iconst 1, 1) := by decide +kernel
theorem dL_law_100 : decode cL_law 100 = .ok (.if_icmp .ne 18, 3) := by decide +kernel
theorem dL_law_103 : decode cL_law 103 = .ok (.aload_n 1, 1) := by decide +kernel
theorem dL_law_104 : decode cL_law 104 = .ok (.iload_n 3, 1) := by decide +kernel
theorem dL_law_105 : decode cL_law 105 = .ok (.iconst 5, 1) := by decide +kernel
theorem dL_law_106 : decode cL_law 106 = .ok (.ishr, 1) := by decide +kernel
theorem dL_law_107 : decode cL_law 107 = .ok (.bipush 7, 2) := by decide +kernel
theorem dL_law_109 : decode cL_law 109 = .ok (.invokestatic 56, 3) := by decide +kernel
theorem dL_law_112 : decode cL_law 112 = .ok (.invokestatic 100, 3) := by decide +kernel
theorem dL_law_115 : decode cL_law 115 = .ok (.ifCond .eq 33, 3) := by decide +kernel
theorem dL_law_118 : decode cL_law 118 = .ok (.iload_n 2, 1) := by decide +kernel
theorem dL_law_119 : decode cL_law 119 = .ok (.iconst 5, 1) := by decide +kernel
theorem dL_law_120 : decode cL_law 120 = .ok (.irem, 1) := by decide +kernel
theorem dL_law_121 : decode cL_law 121 = .ok (.iconst 3, 1) := by decide +kernel
theorem dL_law_122 : decode cL_law 122 = .ok (.if_icmp .ne 10, 3) := by decide +kernel
theorem dL_law_125 : decode cL_law 125 = .ok (.aload_n 1, 1) := by decide +kernel
theorem dL_law_126 : decode cL_law 126 = .ok (.invokestatic 83, 3) := by decide +kernel
theorem dL_law_129 : decode cL_law 129 = .ok (.ifCond .eq 19, 3) := by decide +kernel
theorem dL_law_132 : decode cL_law 132 = .ok (.iload_n 2, 1) := by decide +kernel
theorem dL_law_133 : decode cL_law 133 = .ok (.bipush 25, 2) := by decide +kernel
theorem dL_law_135 : decode cL_law 135 = .ok (.irem, 1) := by decide +kernel
theorem dL_law_136 : decode cL_law 136 = .ok (.bipush 14, 2) := by decide +kernel
theorem dL_law_138 : decode cL_law 138 = .ok (.if_icmp .ne 12, 3) := by decide +kernel
theorem dL_law_141 : decode cL_law 141 = .ok (.aload_n 1, 1) := by decide +kernel
theorem dL_law_142 : decode cL_law 142 = .ok (.invokestatic 103, 3) := by decide +kernel
theorem dL_law_145 : decode cL_law 145 = .ok (.ifCond .ne 5, 3) := by decide +kernel
theorem dL_law_148 : decode cL_law 148 = .ok (.iconst 0, 1) := by decide +kernel
theorem dL_law_149 : decode cL_law 149 = .ok (.ireturn, 1) := by decide +kernel
theorem dL_law_150 : decode cL_law 150 = .ok (.iinc 2 1, 3) := by decide +kernel
theorem dL_law_153 : decode cL_law 153 = .ok (.goto (-88), 3) := by decide +kernel
theorem dL_law_156 : decode cL_law 156 = .ok (.aload_n 1, 1) := by decide +kernel
theorem dL_law_157 : decode cL_law 157 = .ok (.bipush 24, 2) := by decide +kernel
theorem dL_law_159 : decode cL_law 159 = .ok (.iconst 0, 1) := by decide +kernel
theorem dL_law_160 : decode cL_law 160 = .ok (.iconst 1, 1) := by decide +kernel
theorem dL_law_161 : decode cL_law 161 = .ok (.invokevirtual 59, 3) := by decide +kernel
theorem dL_law_164 : decode cL_law 164 = .ok (.iconst (-1), 1) := by decide +kernel
theorem dL_law_165 : decode cL_law 165 = .ok (.if_icmp .ne 98, 3) := by decide +kernel
theorem dL_law_168 : decode cL_law 168 = .ok (.aload_n 1, 1) := by decide +kernel
theorem dL_law_169 : decode cL_law 169 = .ok (.iconst 0, 1) := by decide +kernel
theorem dL_law_170 : decode cL_law 170 = .ok (.iconst 0, 1) := by decide +kernel
theorem dL_law_171 : decode cL_law 171 = .ok (.bipush 10, 2) := by decide +kernel
theorem dL_law_173 : decode cL_law 173 = .ok (.invokevirtual 59, 3) := by decide +kernel
theorem dL_law_176 : decode cL_law 176 = .ok (.bipush (-2), 2) := by decide +kernel
theorem dL_law_178 : decode cL_law 178 = .ok (.if_icmp .ne 85, 3) := by decide +kernel
theorem dL_law_181 : decode cL_law 181 = .ok (.aload_n 1, 1) := by decide +kernel
theorem dL_law_182 : decode cL_law 182 = .ok (.iconst 0, 1) := by decide +kernel
theorem dL_law_183 : decode cL_law 183 = .ok (.iconst 4, 1) := by decide +kernel
theorem dL_law_184 : decode cL_law 184 = .ok (.iconst 1, 1) := by decide +kernel
theorem dL_law_185 : decode cL_law 185 = .ok (.invokevirtual 62, 3) := by decide +kernel
theorem dL_law_188 : decode cL_law 188 = .ok (.iconst (-1), 1) := by decide +kernel
theorem dL_law_189 : decode cL_law 189 = .ok (.if_icmp .ne 74, 3) := by decide +kernel
theorem dL_law_192 : decode cL_law 192 = .ok (.aload_n 1, 1) := by decide +kernel
theorem dL_law_193 : decode cL_law 193 = .ok (.iconst 0, 1) := by decide +kernel
theorem dL_law_194 : decode cL_law 194 = .ok (.invokevirtual 37, 3) := by decide +kernel
theorem dL_law_197 : decode cL_law 197 = .ok (.bipush (-2), 2) := by decide +kernel
theorem dL_law_199 : decode cL_law 199 = .ok (.if_icmp .ne 64, 3) := by decide +kernel
theorem dL_law_202 : decode cL_law 202 = .ok (.aload_n 1, 1) := by decide +kernel
theorem dL_law_203 : decode cL_law 203 = .ok (.sipush 128, 3) := by decide +kernel
theorem dL_law_206 : decode cL_law 206 = .ok (.invokevirtual 37, 3) := by decide +kernel
theorem dL_law_209 : decode cL_law 209 = .ok (.bipush (-2), 2) := by decide +kernel
theorem dL_law_211 : decode cL_law 211 = .ok (.if_icmp .ne 52, 3) := by decide +kernel
theorem dL_law_214 : decode cL_law 214 = .ok (.aload_n 1, 1) := by decide +kernel
theorem dL_law_215 : decode cL_law 215 = .ok (.iconst 0, 1) := by decide +kernel
theorem dL_law_216 : decode cL_law 216 = .ok (.bipush 8, 2) := by decide +kernel
theorem dL_law_218 : decode cL_law 218 = .ok (.invokevirtual 71, 3) := by decide +kernel
theorem dL_law_221 : decode cL_law 221 = .ok (.iconst (-1), 1) := by decide +kernel
theorem dL_law_222 : decode cL_law 222 = .ok (.if_icmp .ne 41, 3) := by decide +kernel
theorem dL_law_225 : decode cL_law 225 = .ok (.aload_n 1, 1) := by decide +kernel
theorem dL_law_226 : decode cL_law 226 = .ok (.iconst 1, 1) := by decide +kernel
theorem dL_law_227 : decode cL_law 227 = .ok (.iconst 0, 1) := by decide +kernel
theorem dL_law_228 : decode cL_law 228 = .ok (.invokevirtual 68, 3) := by decide +kernel
theorem dL_law_231 : decode cL_law 231 = .ok (.bipush (-2), 2) := by decide +kernel
theorem dL_law_233 : decode cL_law 233 = .ok (.if_icmp .ne 30, 3) := by decide +kernel
theorem dL_law_236 : decode cL_law 236 = .ok (.aload_n 1, 1) := by decide +kernel
theorem dL_law_237 : decode cL_law 237 = .ok (.bipush 11, 2) := by decide +kernel
theorem dL_law_239 : decode cL_law 239 = .ok (.invokevirtual 27, 3) := by decide +kernel
theorem dL_law_242 : decode cL_law 242 = .ok (.bipush (-2), 2) := by decide +kernel
theorem dL_law_244 : decode cL_law 244 = .ok (.if_icmp .ne 19, 3) := by decide +kernel
theorem dL_law_247 : decode cL_law 247 = .ok (.aload_n 1, 1) := by decide +kernel
theorem dL_law_248 : decode cL_law 248 = .ok (.iconst 1, 1) := by decide +kernel
theorem dL_law_249 : decode cL_law 249 = .ok (.iconst 1, 1) := by decide +kernel
theorem dL_law_250 : decode cL_law 250 = .ok (.iconst 0, 1) := by decide +kernel
theorem dL_law_251 : decode cL_law 251 = .ok (.invokevirtual 23, 3) := by decide +kernel
theorem dL_law_254 : decode cL_law 254 = .ok (.bipush (-2), 2) := by decide +kernel
theorem dL_law_256 : decode cL_law 256 = .ok (.if_icmp .ne 7, 3) := by decide +kernel
theorem dL_law_259 : decode cL_law 259 = .ok (.iconst 1, 1) := by decide +kernel
theorem dL_law_260 : decode cL_law 260 = .ok (.goto 4, 3) := by decide +kernel
theorem dL_law_263 : decode cL_law 263 = .ok (.iconst 0, 1) := by decide +kernel
theorem dL_law_264 : decode cL_law 264 = .ok (.ireturn, 1) := by decide +kernel
