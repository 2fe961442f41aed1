theorem dX6_digitsEnd_44 : decode cX6_digitsEnd 44 = .ok (.iload_n 2, 1) := by decide +kernel
theorem dX6_digitsEnd_45 : decode cX6_digitsEnd 45 = .ok (.iadd, 1) := by decide +kernel
theorem dX6_digitsEnd_46 : decode cX6_digitsEnd 46 = .ok (.iconst 1, 1) := by decide +kernel
theorem dX6_digitsEnd_47 : decode cX6_digitsEnd 47 = .ok (.iadd, 1) := by decide +kernel
theorem dX6_digitsEnd_48 : decode cX6_digitsEnd 48 = .ok (.ireturn, 1) := by decide +kernel
set_option maxRecDepth 20000 in
theorem ggX6_plotEnd_X6_digit : GoodIn wsX6_plotEnd wsX6_digit := goodIn_r _ [5, 6, 7, 8, 4, 9, 10, 11, 12, 13, 14, 15, 16, 17, 18, 19, 20, 21, 22, 23] rfl (by decide +kernel)
set_option maxRecDepth 20000 in
theorem gX6_plotEnd_X6_digit : GoodIn wsX6_plotEnd (wsV RX6 127 RX6 yX6_digit wsX6_digit) := goodIn_app (goodIn_of _ (by decide +kernel)) ggX6_plotEnd_X6_digit
set_option maxRecDepth 20000 in
theorem ggX6_plotEnd_X6_in : GoodIn wsX6_plotEnd wsX6_in := goodIn_r _ [14] rfl (by decide +kernel)
set_option maxRecDepth 20000 in
theorem gX6_plotEnd_X6_in : GoodIn wsX6_plotEnd (va_wsS RX6 25 yX6_in wsX6_in) := goodIn_app (goodIn_of _ (by decide +kernel)) ggX6_plotEnd_X6_in
theorem dX6_plotEnd_0 : decode cX6_plotEnd 0 = .ok (.aload_n 0, 1) := by decide +kernel
theorem dX6_plotEnd_1 : decode cX6_plotEnd 1 = .ok (.iload_n 1, 1) := by decide +kernel
theorem dX6_plotEnd_2 : decode cX6_plotEnd 2 = .ok (.invokevirtual 127, 3) := by decide +kernel
theorem dX6_plotEnd_5 : decode cX6_plotEnd 5 = .ok (.istore_n 2, 1) := by decide +kernel
theorem dX6_plotEnd_6 : decode cX6_plotEnd 6 = .ok (.iload_n 2, 1) := by decide +kernel
theorem dX6_plotEnd_7 : decode cX6_plotEnd 7 = .ok (.ifCond .ge 7, 3) := by decide +kernel
theorem dX6_plotEnd_10 : decode cX6_plotEnd 10 = .ok (.iconst (-1), 1) := by decide +kernel
theorem dX6_plotEnd_11 : decode cX6_plotEnd 11 = .ok (.iload_n 1, 1) := by decide +kernel
theorem dX6_plotEnd_12 : decode cX6_plotEnd 12 = .ok (.isub, 1) := by decide +kernel
theorem dX6_plotEnd_13 : decode cX6_plotEnd 13 = .ok (.ireturn, 1) := by decide +kernel
theorem dX6_plotEnd_14 : decode cX6_plotEnd 14 = .ok (.iload_n 2, 1) := by decide +kernel
theorem dX6_plotEnd_15 : decode cX6_plotEnd 15 = .ok (.iconst 1, 1) := by decide +kernel
theorem dX6_plotEnd_16 : decode cX6_plotEnd 16 = .ok (.if_icmp .ne 13, 3) := by decide +kernel
theorem dX6_plotEnd_19 : decode cX6_plotEnd 19 = .ok (.aload_n 0, 1) := by decide +kernel
theorem dX6_plotEnd_20 : decode cX6_plotEnd 20 = .ok (.iload_n 1, 1) := by decide +kernel
theorem dX6_plotEnd_21 : decode cX6_plotEnd 21 = .ok (.iconst 1, 1) := by decide +kernel
theorem dX6_plotEnd_22 : decode cX6_plotEnd 22 = .ok (.iadd, 1) := by decide +kernel
theorem dX6_plotEnd_23 : decode cX6_plotEnd 23 = .ok (.invokevirtual 127, 3) := by decide +kernel
theorem dX6_plotEnd_26 : decode cX6_plotEnd 26 = .ok (.ifCond .ge 23, 3) := by decide +kernel
theorem dX6_plotEnd_29 : decode cX6_plotEnd 29 = .ok (.iload_n 2, 1) := by decide +kernel
theorem dX6_plotEnd_30 : decode cX6_plotEnd 30 = .ok (.iconst 2, 1) := by decide +kernel
theorem dX6_plotEnd_31 : decode cX6_plotEnd 31 = .ok (.if_icmp .ne 22, 3) := by decide +kernel
theorem dX6_plotEnd_34 : decode cX6_plotEnd 34 = .ok (.aload_n 0, 1) := by decide +kernel
theorem dX6_plotEnd_35 : decode cX6_plotEnd 35 = .ok (.iload_n 1, 1) := by decide +kernel
theorem dX6_plotEnd_36 : decode cX6_plotEnd 36 = .ok (.iconst 1, 1) := by decide +kernel
theorem dX6_plotEnd_37 : decode cX6_plotEnd 37 = .ok (.iadd, 1) := by decide +kernel
theorem dX6_plotEnd_38 : decode cX6_plotEnd 38 = .ok (.invokevirtual 127, 3) := by decide +kernel
theorem dX6_plotEnd_41 : decode cX6_plotEnd 41 = .ok (.iconst 0, 1) := by decide +kernel
theorem dX6_plotEnd_42 : decode cX6_plotEnd 42 = .ok (.iconst 3, 1) := by decide +kernel
theorem dX6_plotEnd_43 : decode cX6_plotEnd 43 = .ok (.invokestatic 25, 3) := by decide +kernel
theorem dX6_plotEnd_46 : decode cX6_plotEnd 46 = .ok (.ifCond .eq 7, 3) := by decide +kernel
theorem dX6_plotEnd_49 : decode cX6_plotEnd 49 = .ok (.iconst 1, 1) := by decide +kernel
theorem dX6_plotEnd_50 : decode cX6_plotEnd 50 = .ok (.goto 4, 3) := by decide +kernel
theorem dX6_plotEnd_53 : decode cX6_plotEnd 53 = .ok (.iconst 0, 1) := by decide +kernel
theorem dX6_plotEnd_54 : decode cX6_plotEnd 54 = .ok (.istore_n 3, 1) := by decide +kernel
theorem dX6_plotEnd_55 : decode cX6_plotEnd 55 = .ok (.iload_n 3, 1) := by decide +kernel
theorem dX6_plotEnd_56 : decode cX6_plotEnd 56 = .ok (.ifCond .eq 9, 3) := by decide +kernel
theorem dX6_plotEnd_59 : decode cX6_plotEnd 59 = .ok (.iload_n 1, 1) := by decide +kernel
theorem dX6_plotEnd_60 : decode cX6_plotEnd 60 = .ok (.iconst 2, 1) := by decide +kernel
theorem dX6_plotEnd_61 : decode cX6_plotEnd 61 = .ok (.iadd, 1) := by decide +kernel
theorem dX6_plotEnd_62 : decode cX6_plotEnd 62 = .ok (.goto 6, 3) := by decide +kernel
theorem dX6_plotEnd_65 : decode cX6_plotEnd 65 = .ok (.iload_n 1, 1) := by decide +kernel
theorem dX6_plotEnd_66 : decode cX6_plotEnd 66 = .ok (.iconst 1, 1) := by decide +kernel
theorem dX6_plotEnd_67 : decode cX6_plotEnd 67 = .ok (.iadd, 1) := by decide +kernel
theorem dX6_plotEnd_68 : decode cX6_plotEnd 68 = .ok (.ireturn, 1) := by decide +kernel
set_option maxRecDepth 20000 in
theorem ggX6_cousinsEnd_X6_digit : GoodIn wsX6_cousinsEnd wsX6_digit := goodIn_r _ [5, 6, 7, 8, 4, 9, 10, 11, 12, 13, 14, 18, 19, 20, 21, 22, 23, 24, 25, 26] rfl (by decide +kernel)
set_option maxRecDepth 20000 in
theorem gX6_cousinsEnd_X6_digit : GoodIn wsX6_cousinsEnd (wsV RX6 127 RX6 yX6_digit wsX6_digit) := goodIn_app (goodIn_of _ (by decide +kernel)) ggX6_cousinsEnd_X6_digit
set_option maxRecDepth 20000 in
theorem ggX6_cousinsEnd_X6_isCousin : GoodIn wsX6_cousinsEnd wsX6_isCousin := goodIn_r _ [17, 12, 13, 4, 14] rfl (by decide +kernel)
set_option maxRecDepth 20000 in
theorem gX6_cousinsEnd_X6_isCousin : GoodIn wsX6_cousinsEnd (va_wsS RX6 112 yX6_isCousin wsX6_isCousin) := goodIn_app (goodIn_of _ (by decide +kernel)) ggX6_cousinsEnd_X6_isCousin
theorem dX6_cousinsEnd_0 : decode cX6_cousinsEnd 0 = .ok (.iconst (-1), 1) := by decide +kernel
theorem dX6_cousinsEnd_1 : decode cX6_cousinsEnd 1 = .ok (.istore_n 2, 1) := by decide +kernel
theorem dX6_cousinsEnd_2 : decode cX6_cousinsEnd 2 = .ok (.iload_n 1, 1) := by decide +kernel
theorem dX6_cousinsEnd_3 : decode cX6_cousinsEnd 3 = .ok (.istore_n 3, 1) := by decide +kernel
theorem dX6_cousinsEnd_4 : decode cX6_cousinsEnd 4 = .ok (.aload_n 0, 1) := by decide +kernel
theorem dX6_cousinsEnd_5 : decode cX6_cousinsEnd 5 = .ok (.iload_n 3, 1) := by decide +kernel
theorem dX6_cousinsEnd_6 : decode cX6_cousinsEnd 6 = .ok (.invokevirtual 127, 3) := by decide +kernel
theorem dX6_cousinsEnd_9 : decode cX6_cousinsEnd 9 = .ok (.invokestatic 112, 3) := by decide +kernel
theorem dX6_cousinsEnd_12 : decode cX6_cousinsEnd 12 = .ok (.ifCond .eq 24, 3) := by decide +kernel
theorem dX6_cousinsEnd_15 : decode cX6_cousinsEnd 15 = .ok (.aload_n 0, 1) := by decide +kernel
theorem dX6_cousinsEnd_16 : decode cX6_cousinsEnd 16 = .ok (.iload_n 3, 1) := by decide +kernel
theorem dX6_cousinsEnd_17 : decode cX6_cousinsEnd 17 = .ok (.invokevirtual 127, 3) := by decide +kernel
theorem dX6_cousinsEnd_20 : decode cX6_cousinsEnd 20 = .ok (.iload_n 2, 1) := by decide +kernel
theorem dX6_cousinsEnd_21 : decode cX6_cousinsEnd 21 = .ok (.if_icmp .le 15, 3) := by decide +kernel
theorem dX6_cousinsEnd_24 : decode cX6_cousinsEnd 24 = .ok (.aload_n 0, 1) := by decide +kernel
theorem dX6_cousinsEnd_25 : decode cX6_cousinsEnd 25 = .ok (.iload_n 3, 1) := by decide +kernel
theorem dX6_cousinsEnd_26 : decode cX6_cousinsEnd 26 = .ok (.invokevirtual 127, 3) := by decide +kernel
theorem dX6_cousinsEnd_29 : decode cX6_cousinsEnd 29 = .ok (.istore_n 2, 1) := by decide +kernel
theorem dX6_cousinsEnd_30 : decode cX6_cousinsEnd 30 = .ok (.iinc 3 1, 3) := by decide +kernel
theorem dX6_cousinsEnd_33 : decode cX6_cousinsEnd 33 = .ok (.goto (-29), 3) := by decide +kernel
theorem dX6_cousinsEnd_36 : decode cX6_cousinsEnd 36 = .ok (.iload_n 3, 1) := by decide +kernel
theorem dX6_cousinsEnd_37 : decode cX6_cousinsEnd 37 = .ok (.iload_n 1, 1) := by decide +kernel
theorem dX6_cousinsEnd_38 : decode cX6_cousinsEnd 38 = .ok (.if_icmp .ne 9, 3) := by decide +kernel
theorem dX6_cousinsEnd_41 : decode cX6_cousinsEnd 41 = .ok (.iconst (-1), 1) := by decide +kernel
theorem dX6_cousinsEnd_42 : decode cX6_cousinsEnd 42 = .ok (.iload_n 1, 1) := by decide +kernel
theorem dX6_cousinsEnd_43 : decode cX6_cousinsEnd 43 = .ok (.isub, 1) := by decide +kernel
theorem dX6_cousinsEnd_44 : decode cX6_cousinsEnd 44 = .ok (.goto 4, 3) := by decide +kernel
theorem dX6_cousinsEnd_47 : decode cX6_cousinsEnd 47 = .ok (.iload_n 3, 1) := by decide +kernel
theorem dX6_cousinsEnd_48 : decode cX6_cousinsEnd 48 = .ok (.ireturn, 1) := by decide +kernel
set_option maxRecDepth 20000 in
theorem ggX6_orderEnd_X6_digit : GoodIn wsX6_orderEnd wsX6_digit := goodIn_r _ [5, 6, 7, 8, 4, 9, 10, 11, 12, 13, 14, 30, 31, 32, 33, 34, 35, 36, 37, 38] rfl (by decide +kernel)
set_option maxRecDepth 20000 in
theorem gX6_orderEnd_X6_digit : GoodIn wsX6_orderEnd (wsV RX6 127 RX6 yX6_digit wsX6_digit) := goodIn_app (goodIn_of _ (by decide +kernel)) ggX6_orderEnd_X6_digit
set_option maxRecDepth 20000 in
theorem ggX6_orderEnd_X6_sign : GoodIn wsX6_orderEnd wsX6_sign := goodIn_r _ [9, 10, 11, 30, 31, 32, 33, 34, 35, 36, 37, 38] rfl (by decide +kernel)
set_option maxRecDepth 20000 in
theorem gX6_orderEnd_X6_sign : GoodIn wsX6_orderEnd (wsV RX6 124 RX6 yX6_sign wsX6_sign) := goodIn_app (goodIn_of _ (by decide +kernel)) ggX6_orderEnd_X6_sign
set_option maxRecDepth 20000 in
theorem ggX6_orderEnd_X6_plotEnd : GoodIn wsX6_orderEnd wsX6_plotEnd := goodIn_r _ [18, 1, 2, 3, 4, 5, 6, 7, 8, 9, 10, 11, 12, 13, 14, 30, 31, 32, 33, 34, 35, 36, 37, 38] rfl (by decide +kernel)
set_option maxRecDepth 20000 in
theorem gX6_orderEnd_X6_plotEnd : GoodIn wsX6_orderEnd (wsV RX6 130 RX6 yX6_plotEnd wsX6_plotEnd) := goodIn_app (goodIn_of _ (by decide +kernel)) ggX6_orderEnd_X6_plotEnd
set_option maxRecDepth 20000 in
theorem ggX6_orderEnd_X6_digitsEnd : GoodIn wsX6_orderEnd wsX6_digitsEnd := goodIn_r _ [22, 6, 7, 8, 4, 9, 10, 11, 1, 2, 3, 5, 12, 13, 14, 30, 31, 32, 33, 34, 35, 36, 37, 38] rfl (by decide +kernel)
set_option maxRecDepth 20000 in
theorem gX6_orderEnd_X6_digitsEnd : GoodIn wsX6_orderEnd (wsV RX6 133 RX6 yX6_digitsEnd wsX6_digitsEnd) := goodIn_app (goodIn_of _ (by decide +kernel)) ggX6_orderEnd_X6_digitsEnd
set_option maxRecDepth 20000 in
theorem ggX6_orderEnd_X6_isCousin : GoodIn wsX6_orderEnd wsX6_isCousin := goodIn_r _ [25, 12, 13, 4, 14] rfl (by decide +kernel)
set_option maxRecDepth 20000 in
theorem gX6_orderEnd_X6_isCousin : GoodIn wsX6_orderEnd (va_wsS RX6 112 yX6_isCousin wsX6_isCousin) := goodIn_app (goodIn_of _ (by decide +kernel)) ggX6_orderEnd_X6_isCousin
set_option maxRecDepth 20000 in
theorem ggX6_orderEnd_X6_cousinsEnd : GoodIn wsX6_orderEnd wsX6_cousinsEnd := goodIn_r _ [29, 1, 2, 3, 4, 5, 6, 7, 8, 9, 10, 11, 12, 13, 14, 23, 24, 25, 30, 31, 32, 33, 34, 35, 36, 37, 38] rfl (by decide +kernel)
set_option maxRecDepth 20000 in
theorem gX6_orderEnd_X6_cousinsEnd : GoodIn wsX6_orderEnd (wsV RX6 136 RX6 yX6_cousinsEnd wsX6_cousinsEnd) := goodIn_app (goodIn_of _ (by decide +kernel)) ggX6_orderEnd_X6_cousinsEnd
theorem dX6_orderEnd_0 : decode cX6_orderEnd 0 = .ok (.aload_n 0, 1) := by decide +kernel
theorem dX6_orderEnd_1 : decode cX6_orderEnd 1 = .ok (.iload_n 1, 1) := by decide +kernel
theorem dX6_orderEnd_2 : decode cX6_orderEnd 2 = .ok (.iconst 1, 1) := by decide +kernel
theorem dX6_orderEnd_3 : decode cX6_orderEnd 3 = .ok (.iadd, 1) := by decide +kernel
theorem dX6_orderEnd_4 : decode cX6_orderEnd 4 = .ok (.invokevirtual 127, 3) := by decide +kernel
theorem dX6_orderEnd_7 : decode cX6_orderEnd 7 = .ok (.istore_n 2, 1) := by decide +kernel
theorem dX6_orderEnd_8 : decode cX6_orderEnd 8 = .ok (.aload_n 0, 1) := by decide +kernel
theorem dX6_orderEnd_9 : decode cX6_orderEnd 9 = .ok (.iload_n 1, 1) := by decide +kernel
theorem dX6_orderEnd_10 : decode cX6_orderEnd 10 = .ok (.invokevirtual 124, 3) := by decide +kernel
theorem dX6_orderEnd_13 : decode cX6_orderEnd 13 = .ok (.lookupswitch 149 #[(100, 141), (103, 89), (112, 43), (119, 66)], 43) := by decide +kernel
theorem dX6_orderEnd_56 : decode cX6_orderEnd 56 = .ok (.aload_n 0, 1) := by decide +kernel
theorem dX6_orderEnd_57 : decode cX6_orderEnd 57 = .ok (.iload_n 1, 1) := by decide +kernel
theorem dX6_orderEnd_58 : decode cX6_orderEnd 58 = .ok (.iconst 1, 1) := by decide +kernel
theorem dX6_orderEnd_59 : decode cX6_orderEnd 59 = .ok (.iadd, 1) := by decide +kernel
theorem dX6_orderEnd_60 : decode cX6_orderEnd 60 = .ok (.invokevirtual 130, 3) := by decide +kernel
theorem dX6_orderEnd_63 : decode cX6_orderEnd 63 = .ok (.istore_n 3, 1) := by decide +kernel
theorem dX6_orderEnd_64 : decode cX6_orderEnd 64 = .ok (.iload_n 3, 1) := by decide +kernel
theorem dX6_orderEnd_65 : decode cX6_orderEnd 65 = .ok (.ifCond .ge 7, 3) := by decide +kernel
theorem dX6_orderEnd_68 : decode cX6_orderEnd 68 = .ok (.iload_n 3, 1) := by decide +kernel
theorem dX6_orderEnd_69 : decode cX6_orderEnd 69 = .ok (.goto 9, 3) := by decide +kernel
theorem dX6_orderEnd_72 : decode cX6_orderEnd 72 = .ok (.aload_n 0, 1) := by decide +kernel
theorem dX6_orderEnd_73 : decode cX6_orderEnd 73 = .ok (.iload_n 3, 1) := by decide +kernel
theorem dX6_orderEnd_74 : decode cX6_orderEnd 74 = .ok (.iconst 4, 1) := by decide +kernel
theorem dX6_orderEnd_75 : decode cX6_orderEnd 75 = .ok (.invokevirtual 133, 3) := by decide +kernel
theorem dX6_orderEnd_78 : decode cX6_orderEnd 78 = .ok (.ireturn, 1) := by decide +kernel
theorem dX6_orderEnd_79 : decode cX6_orderEnd 79 = .ok (.iload_n 2, 1) := by decide +kernel
theorem dX6_orderEnd_80 : decode cX6_orderEnd 80 = .ok (.invokestatic 112, 3) := by decide +kernel
theorem dX6_orderEnd_83 : decode cX6_orderEnd 83 = .ok (.ifCond .eq 14, 3) := by decide +kernel
theorem dX6_orderEnd_86 : decode cX6_orderEnd 86 = .ok (.aload_n 0, 1) := by decide +kernel
theorem dX6_orderEnd_87 : decode cX6_orderEnd 87 = .ok (.iload_n 1, 1) := by decide +kernel
theorem dX6_orderEnd_88 : decode cX6_orderEnd 88 = .ok (.iconst 2, 1) := by decide +kernel
theorem dX6_orderEnd_89 : decode cX6_orderEnd 89 = .ok (.iadd, 1) := by decide +kernel
theorem dX6_orderEnd_90 : decode cX6_orderEnd 90 = .ok (.iconst 4, 1) := by decide +kernel
theorem dX6_orderEnd_91 : decode cX6_orderEnd 91 = .ok (.invokevirtual 133, 3) := by decide +kernel
theorem dX6_orderEnd_94 : decode cX6_orderEnd 94 = .ok (.goto 7, 3) := by decide +kernel
theorem dX6_orderEnd_97 : decode cX6_orderEnd 97 = .ok (.bipush (-2), 2) := by decide +kernel
theorem dX6_orderEnd_99 : decode cX6_orderEnd 99 = .ok (.iload_n 1, 1) := by decide +kernel
theorem dX6_orderEnd_100 : decode cX6_orderEnd 100 = .ok (.isub, 1) := by decide +kernel
theorem dX6_orderEnd_101 : decode cX6_orderEnd 101 = .ok (.ireturn, 1) := by decide +kernel
theorem dX6_orderEnd_102 : decode cX6_orderEnd 102 = .ok (.iload_n 2, 1) := by decide +kernel
theorem dX6_orderEnd_103 : decode cX6_orderEnd 103 = .ok (.invokestatic 112, 3) := by decide +kernel
theorem dX6_orderEnd_106 : decode cX6_orderEnd 106 = .ok (.ifCond .ne 8, 3) := by decide +kernel
theorem dX6_orderEnd_109 : decode cX6_orderEnd 109 = .ok (.bipush (-2), 2) := by decide +kernel
theorem dX6_orderEnd_111 : decode cX6_orderEnd 111 = .ok (.iload_n 1, 1) := by decide +kernel
theorem dX6_orderEnd_112 : decode cX6_orderEnd 112 = .ok (.isub, 1) := by decide +kernel
theorem dX6_orderEnd_113 : decode cX6_orderEnd 113 = .ok (.ireturn, 1) := by decide +kernel
theorem dX6_orderEnd_114 : decode cX6_orderEnd 114 = .ok (.aload_n 0, 1) := by decide +kernel
theorem dX6_orderEnd_115 : decode cX6_orderEnd 115 = .ok (.iload_n 1, 1) := by decide +kernel
theorem dX6_orderEnd_116 : decode cX6_orderEnd 116 = .ok (.iconst 2, 1) := by decide +kernel
theorem dX6_orderEnd_117 : decode cX6_orderEnd 117 = .ok (.iadd, 1) := by decide +kernel
theorem dX6_orderEnd_118 : decode cX6_orderEnd 118 = .ok (.invokevirtual 127, 3) := by decide +kernel
theorem dX6_orderEnd_121 : decode cX6_orderEnd 121 = .ok (.invokestatic 112, 3) := by decide +kernel
theorem dX6_orderEnd_124 : decode cX6_orderEnd 124 = .ok (.ifCond .eq 25, 3) := by decide +kernel
theorem dX6_orderEnd_127 : decode cX6_orderEnd 127 = .ok (.aload_n 0, 1) := by decide +kernel
theorem dX6_orderEnd_128 : decode cX6_orderEnd 128 = .ok (.iload_n 1, 1) := by decide +kernel
theorem dX6_orderEnd_129 : decode cX6_orderEnd 129 = .ok (.iconst 2, 1) := by decide +kernel
theorem dX6_orderEnd_130 : decode cX6_orderEnd 130 = .ok (.iadd, 1) := by decide +kernel
theorem dX6_orderEnd_131 : decode cX6_orderEnd 131 = .ok (.invokevirtual 127, 3) := by decide +kernel
theorem dX6_orderEnd_134 : decode cX6_orderEnd 134 = .ok (.iload_n 2, 1) := by decide +kernel
theorem dX6_orderEnd_135 : decode cX6_orderEnd 135 = .ok (.if_icmp .eq 14, 3) := by decide +kernel
theorem dX6_orderEnd_138 : decode cX6_orderEnd 138 = .ok (.aload_n 0, 1) := by decide +kernel
theorem dX6_orderEnd_139 : decode cX6_orderEnd 139 = .ok (.iload_n 1, 1) := by decide +kernel
theorem dX6_orderEnd_140 : decode cX6_orderEnd 140 = .ok (.iconst 3, 1) := by decide +kernel
theorem dX6_orderEnd_141 : decode cX6_orderEnd 141 = .ok (.iadd, 1) := by decide +kernel
theorem dX6_orderEnd_142 : decode cX6_orderEnd 142 = .ok (.iconst 1, 1) := by decide +kernel
theorem dX6_orderEnd_143 : decode cX6_orderEnd 143 = .ok (.invokevirtual 133, 3) := by decide +kernel
theorem dX6_orderEnd_146 : decode cX6_orderEnd 146 = .ok (.goto 7, 3) := by decide +kernel
theorem dX6_orderEnd_149 : decode cX6_orderEnd 149 = .ok (.bipush (-3), 2) := by decide +kernel
theorem dX6_orderEnd_151 : decode cX6_orderEnd 151 = .ok (.iload_n 1, 1) := by decide +kernel
theorem dX6_orderEnd_152 : decode cX6_orderEnd 152 = .ok (.isub, 1) := by decide +kernel
theorem dX6_orderEnd_153 : decode cX6_orderEnd 153 = .ok (.ireturn, 1) := by decide +kernel
theorem dX6_orderEnd_154 : decode cX6_orderEnd 154 = .ok (.aload_n 0, 1) := by decide +kernel
theorem dX6_orderEnd_155 : decode cX6_orderEnd 155 = .ok (.iload_n 1, 1) := by decide +kernel
theorem dX6_orderEnd_156 : decode cX6_orderEnd 156 = .ok (.iconst 1, 1) := by decide +kernel
theorem dX6_orderEnd_157 : decode cX6_orderEnd 157 = .ok (.iadd, 1) := by decide +kernel
theorem dX6_orderEnd_158 : decode cX6_orderEnd 158 = .ok (.invokevirtual 136, 3) := by decide +kernel
theorem dX6_orderEnd_161 : decode cX6_orderEnd 161 = .ok (.ireturn, 1) := by decide +kernel
theorem dX6_orderEnd_162 : decode cX6_orderEnd 162 = .ok (.iconst (-1), 1) := by decide +kernel
theorem dX6_orderEnd_163 : decode cX6_orderEnd 163 = .ok (.iload_n 1, 1) := by decide +kernel
theorem dX6_orderEnd_164 : decode cX6_orderEnd 164 = .ok (.isub, 1) := by decide +kernel
theorem dX6_orderEnd_165 : decode cX6_orderEnd 165 = .ok (.ireturn, 1) := by decide +kernel
set_option maxRecDepth 20000 in
theorem ggX6_fault_X6_orderEnd : GoodIn wsX6_fault wsX6_orderEnd := goodIn_r _ [6, 7, 8, 9, 5, 10, 11, 12, 13, 14, 1, 15, 16, 17, 18, 19, 20, 21, 22, 23, 24, 25, 26, 27, 28, 29, 30, 31, 32, 33, 34, 35, 36, 37, 38, 39, 40, 41, 42] rfl (by decide +kernel)
set_option maxRecDepth 20000 in
theorem gX6_fault_X6_orderEnd : GoodIn wsX6_fault (wsV RX6 139 RX6 yX6_orderEnd wsX6_orderEnd) := goodIn_app (goodIn_of _ (by decide +kernel)) ggX6_fault_X6_orderEnd
set_option maxRecDepth 20000 in
theorem ggX6_fault_X6_sign : GoodIn wsX6_fault wsX6_sign := goodIn_r _ [14, 1, 15, 34, 35, 36, 37, 38, 39, 40, 41, 42] rfl (by decide +kernel)
set_option maxRecDepth 20000 in
theorem gX6_fault_X6_sign : GoodIn wsX6_fault (wsV RX6 124 RX6 yX6_sign wsX6_sign) := goodIn_app (goodIn_of _ (by decide +kernel)) ggX6_fault_X6_sign
theorem dX6_fault_0 : decode cX6_fault 0 = .ok (.iconst 0, 1) := by decide +kernel
theorem dX6_fault_1 : decode cX6_fault 1 = .ok (.istore_n 1, 1) := by decide +kernel
theorem dX6_fault_2 : decode cX6_fault 2 = .ok (.iconst 0, 1) := by decide +kernel
theorem dX6_fault_3 : decode cX6_fault 3 = .ok (.istore_n 2, 1) := by decide +kernel
theorem dX6_fault_4 : decode cX6_fault 4 = .ok (.iload_n 2, 1) := by decide +kernel
theorem dX6_fault_5 : decode cX6_fault 5 = .ok (.bipush 60, 2) := by decide +kernel
theorem dX6_fault_7 : decode cX6_fault 7 = .ok (.if_icmp .ge 50, 3) := by decide +kernel
theorem dX6_fault_10 : decode cX6_fault 10 = .ok (.aload_n 0, 1) := by decide +kernel
theorem dX6_fault_11 : decode cX6_fault 11 = .ok (.iload_n 1, 1) := by decide +kernel
theorem dX6_fault_12 : decode cX6_fault 12 = .ok (.invokevirtual 139, 3) := by decide +kernel
theorem dX6_fault_15 : decode cX6_fault 15 = .ok (.istore_n 3, 1) := by decide +kernel
theorem dX6_fault_16 : decode cX6_fault 16 = .ok (.iload_n 3, 1) := by decide +kernel
theorem dX6_fault_17 : decode cX6_fault 17 = .ok (.ifCond .ge 7, 3) := by decide +kernel
theorem dX6_fault_20 : decode cX6_fault 20 = .ok (.iconst (-1), 1) := by decide +kernel
theorem dX6_fault_21 : decode cX6_fault 21 = .ok (.iload_n 3, 1) := by decide +kernel
theorem dX6_fault_22 : decode cX6_fault 22 = .ok (.isub, 1) := by decide +kernel
theorem dX6_fault_23 : decode cX6_fault 23 = .ok (.ireturn, 1) := by decide +kernel
theorem dX6_fault_24 : decode cX6_fault 24 = .ok (.iload_n 3, 1) := by decide +kernel
theorem dX6_fault_25 : decode cX6_fault 25 = .ok (.aload_n 0, 1) := by decide +kernel
theorem dX6_fault_26 : decode cX6_fault 26 = .ok (.getfield 121, 3) := by decide +kernel
theorem dX6_fault_29 : decode cX6_fault 29 = .ok (.if_icmp .ne 6, 3) := by decide +kernel
theorem dX6_fault_32 : decode cX6_fault 32 = .ok (.bipush (-5), 2) := by decide +kernel
theorem dX6_fault_34 : decode cX6_fault 34 = .ok (.ireturn, 1) := by decide +kernel
theorem dX6_fault_35 : decode cX6_fault 35 = .ok (.aload_n 0, 1) := by decide +kernel
theorem dX6_fault_36 : decode cX6_fault 36 = .ok (.iload_n 3, 1) := by decide +kernel
theorem dX6_fault_37 : decode cX6_fault 37 = .ok (.invokevirtual 124, 3) := by decide +kernel
theorem dX6_fault_40 : decode cX6_fault 40 = .ok (.bipush 59, 2) := by decide +kernel
theorem dX6_fault_42 : decode cX6_fault 42 = .ok (.if_icmp .eq 5, 3) := by decide +kernel
theorem dX6_fault_45 : decode cX6_fault 45 = .ok (.iload_n 3, 1) := by decide +kernel
theorem dX6_fault_46 : decode cX6_fault 46 = .ok (.ireturn, 1) := by decide +kernel
theorem dX6_fault_47 : decode cX6_fault 47 = .ok (.iload_n 3, 1) := by decide +kernel
theorem dX6_fault_48 : decode cX6_fault 48 = .ok (.iconst 1, 1) := by decide +kernel
theorem dX6_fault_49 : decode cX6_fault 49 = .ok (.iadd, 1) := by decide +kernel
theorem dX6_fault_50 : decode cX6_fault 50 = .ok (.istore_n 1, 1) := by decide +kernel
theorem dX6_fault_51 : decode cX6_fault 51 = .ok (.iinc 2 1, 3) := by decide +kernel
theorem dX6_fault_54 : decode cX6_fault 54 = .ok (.goto (-50), 3) := by decide +kernel
theorem dX6_fault_57 : decode cX6_fault 57 = .ok (.bipush (-5), 2) := by decide +kernel
theorem dX6_fault_59 : decode cX6_fault 59 = .ok (.ireturn, 1) := by decide +kernel
set_option maxRecDepth 20000 in
theorem ggX6_setsFour_X6_digit : GoodIn wsX6_setsFour wsX6_digit := goodIn_r _ [6, 7, 8, 9, 5, 10, 11, 12, 13, 14, 15, 16, 17, 18, 19, 20, 21, 22, 23, 24] rfl (by decide +kernel)
set_option maxRecDepth 20000 in
theorem gX6_setsFour_X6_digit : GoodIn wsX6_setsFour (wsV RX6 127 RX6 yX6_digit wsX6_digit) := goodIn_app (goodIn_of _ (by decide +kernel)) ggX6_setsFour_X6_digit
theorem dX6_setsFour_0 : decode cX6_setsFour 0 = .ok (.iconst 0, 1) := by decide +kernel
theorem dX6_setsFour_1 : decode cX6_setsFour 1 = .ok (.istore_n 3, 1) := by decide +kernel
theorem dX6_setsFour_2 : decode cX6_setsFour 2 = .ok (.iload_n 3, 1) := by decide +kernel
theorem dX6_setsFour_3 : decode cX6_setsFour 3 = .ok (.iconst 4, 1) := by decide +kernel
theorem dX6_setsFour_4 : decode cX6_setsFour 4 = .ok (.if_icmp .ge 24, 3) := by decide +kernel
theorem dX6_setsFour_7 : decode cX6_setsFour 7 = .ok (.aload_n 0, 1) := by decide +kernel
theorem dX6_setsFour_8 : decode cX6_setsFour 8 = .ok (.getfield 7, 3) := by decide +kernel
theorem dX6_setsFour_11 : decode cX6_setsFour 11 = .ok (.iload_n 1, 1) := by decide +kernel
theorem dX6_setsFour_12 : decode cX6_setsFour 12 = .ok (.iload_n 3, 1) := by decide +kernel
theorem dX6_setsFour_13 : decode cX6_setsFour 13 = .ok (.iadd, 1) := by decide +kernel
theorem dX6_setsFour_14 : decode cX6_setsFour 14 = .ok (.aload_n 0, 1) := by decide +kernel
theorem dX6_setsFour_15 : decode cX6_setsFour 15 = .ok (.iload_n 2, 1) := by decide +kernel
theorem dX6_setsFour_16 : decode cX6_setsFour 16 = .ok (.iload_n 3, 1) := by decide +kernel
theorem dX6_setsFour_17 : decode cX6_setsFour 17 = .ok (.iadd, 1) := by decide +kernel
theorem dX6_setsFour_18 : decode cX6_setsFour 18 = .ok (.invokevirtual 127, 3) := by decide +kernel
theorem dX6_setsFour_21 : decode cX6_setsFour 21 = .ok (.iastore, 1) := by decide +kernel
theorem dX6_setsFour_22 : decode cX6_setsFour 22 = .ok (.iinc 3 1, 3) := by decide +kernel
theorem dX6_setsFour_25 : decode cX6_setsFour 25 = .ok (.goto (-23), 3) := by decide +kernel
theorem dX6_setsFour_28 : decode cX6_setsFour 28 = .ok (.return_, 1) := by decide +kernel
set_option maxRecDepth 20000 in
theorem ggX6_does_X6_orderEnd : GoodIn wsX6_does wsX6_orderEnd := goodIn_r _ [6, 7, 8, 9, 5, 10, 11, 12, 13, 14, 15, 16, 17, 18, 19, 20, 21, 22, 23, 24, 25, 26, 27, 28, 29, 30, 31, 32, 33, 34, 88, 89, 90, 91, 92, 93, 94, 95, 96] rfl (by decide +kernel)
set_option maxRecDepth 20000 in
theorem gX6_does_X6_orderEnd : GoodIn wsX6_does (wsV RX6 139 RX6 yX6_orderEnd wsX6_orderEnd) := goodIn_app (goodIn_of _ (by decide +kernel)) ggX6_does_X6_orderEnd
set_option maxRecDepth 20000 in
theorem ggX6_does_X6_digit : GoodIn wsX6_does wsX6_digit := goodIn_r _ [10, 11, 12, 13, 5, 14, 15, 16, 17, 18, 19, 88, 89, 90, 91, 92, 93, 94, 95, 96] rfl (by decide +kernel)
set_option maxRecDepth 20000 in
theorem gX6_does_X6_digit : GoodIn wsX6_does (wsV RX6 127 RX6 yX6_digit wsX6_digit) := goodIn_app (goodIn_of _ (by decide +kernel)) ggX6_does_X6_digit
set_option maxRecDepth 20000 in
theorem ggX6_does_X6_sign : GoodIn wsX6_does wsX6_sign := goodIn_r _ [14, 15, 16, 88, 89, 90, 91, 92, 93, 94, 95, 96] rfl (by decide +kernel)
set_option maxRecDepth 20000 in
theorem gX6_does_X6_sign : GoodIn wsX6_does (wsV RX6 124 RX6 yX6_sign wsX6_sign) := goodIn_app (goodIn_of _ (by decide +kernel)) ggX6_does_X6_sign
set_option maxRecDepth 20000 in
theorem ggX6_does_X6_plotEnd : GoodIn wsX6_does wsX6_plotEnd := goodIn_r _ [23, 7, 8, 9, 5, 10, 11, 12, 13, 14, 15, 16, 17, 18, 19, 88, 89, 90, 91, 92, 93, 94, 95, 96] rfl (by decide +kernel)
set_option maxRecDepth 20000 in
theorem gX6_does_X6_plotEnd : GoodIn wsX6_does (wsV RX6 130 RX6 yX6_plotEnd wsX6_plotEnd) := goodIn_app (goodIn_of _ (by decide +kernel)) ggX6_does_X6_plotEnd
set_option maxRecDepth 20000 in
theorem ggX6_does_X6_setsFour : GoodIn wsX6_does wsX6_setsFour := goodIn_r _ [38, 1, 7, 8, 9, 5, 10, 11, 12, 13, 14, 15, 16, 17, 18, 19, 88, 89, 90, 91, 92, 93, 94, 95, 96] rfl (by decide +kernel)
set_option maxRecDepth 20000 in
theorem gX6_does_X6_setsFour : GoodIn wsX6_does (wsV RX6 142 RX6 yX6_setsFour wsX6_setsFour) := goodIn_app (goodIn_of _ (by decide +kernel)) ggX6_does_X6_setsFour
set_option maxRecDepth 20000 in
theorem ggX6_does_X6_divides : GoodIn wsX6_does wsX6_divides := goodIn_r _ [42, 1, 43, 44, 45, 46, 5, 47, 48, 49, 50, 51, 52, 53, 54, 55, 56, 57, 58, 59, 60, 61, 62, 63, 64, 65, 66, 67, 68, 69, 70, 71, 72, 73, 74, 75, 76, 77, 78, 79, 80, 81, 82, 83, 84, 85, 86, 87, 88, 89, 90, 91, 92, 93, 94, 95, 96] rfl (by decide +kernel)
set_option maxRecDepth 20000 in
theorem gX6_does_X6_divides : GoodIn wsX6_does (wsV RX6 115 RX6 yX6_divides wsX6_divides) := goodIn_app (goodIn_of _ (by decide +kernel)) ggX6_does_X6_divides
theorem dX6_does_0 : decode cX6_does 0 = .ok (.aload_n 0, 1) := by decide +kernel
theorem dX6_does_1 : decode cX6_does 1 = .ok (.iload_n 1, 1) := by decide +kernel
theorem dX6_does_2 : decode cX6_does 2 = .ok (.invokevirtual 139, 3) := by decide +kernel
theorem dX6_does_5 : decode cX6_does 5 = .ok (.istore_n 2, 1) := by decide +kernel
theorem dX6_does_6 : decode cX6_does 6 = .ok (.aload_n 0, 1) := by decide +kernel
theorem dX6_does_7 : decode cX6_does 7 = .ok (.iload_n 1, 1) := by decide +kernel
theorem dX6_does_8 : decode cX6_does 8 = .ok (.iconst 1, 1) := by decide +kernel
theorem dX6_does_9 : decode cX6_does 9 = .ok (.iadd, 1) := by decide +kernel
theorem dX6_does_10 : decode cX6_does 10 = .ok (.invokevirtual 127, 3) := by decide +kernel
theorem dX6_does_13 : decode cX6_does 13 = .ok (.istore_n 3, 1) := by decide +kernel
theorem dX6_does_14 : decode cX6_does 14 = .ok (.aload_n 0, 1) := by decide +kernel
theorem dX6_does_15 : decode cX6_does 15 = .ok (.iload_n 1, 1) := by decide +kernel
theorem dX6_does_16 : decode cX6_does 16 = .ok (.invokevirtual 124, 3) := by decide +kernel
theorem dX6_does_19 : decode cX6_does 19 = .ok (.lookupswitch 127 #[(103, 96), (112, 33), (119, 80)], 33) := by decide +kernel
theorem dX6_does_52 : decode cX6_does 52 = .ok (.aload_n 0, 1) := by decide +kernel
theorem dX6_does_53 : decode cX6_does 53 = .ok (.iload_n 1, 1) := by decide +kernel
theorem dX6_does_54 : decode cX6_does 54 = .ok (.iconst 1, 1) := by decide +kernel
theorem dX6_does_55 : decode cX6_does 55 = .ok (.iadd, 1) := by decide +kernel
theorem dX6_does_56 : decode cX6_does 56 = .ok (.invokevirtual 130, 3) := by decide +kernel
theorem dX6_does_59 : decode cX6_does 59 = .ok (.iload_n 1, 1) := by decide +kernel
theorem dX6_does_60 : decode cX6_does 60 = .ok (.iconst 2, 1) := by decide +kernel
theorem dX6_does_61 : decode cX6_does 61 = .ok (.iadd, 1) := by decide +kernel
theorem dX6_does_62 : decode cX6_does 62 = .ok (.if_icmp .ne 7, 3) := by decide +kernel
theorem dX6_does_65 : decode cX6_does 65 = .ok (.iload_n 3, 1) := by decide +kernel
theorem dX6_does_66 : decode cX6_does 66 = .ok (.goto 15, 3) := by decide +kernel
theorem dX6_does_69 : decode cX6_does 69 = .ok (.bipush 10, 2) := by decide +kernel
theorem dX6_does_71 : decode cX6_does 71 = .ok (.iload_n 3, 1) := by decide +kernel
theorem dX6_does_72 : decode cX6_does 72 = .ok (.imul, 1) := by decide +kernel
theorem dX6_does_73 : decode cX6_does 73 = .ok (.aload_n 0, 1) := by decide +kernel
theorem dX6_does_74 : decode cX6_does 74 = .ok (.iload_n 1, 1) := by decide +kernel
theorem dX6_does_75 : decode cX6_does 75 = .ok (.iconst 2, 1) := by decide +kernel
theorem dX6_does_76 : decode cX6_does 76 = .ok (.iadd, 1) := by decide +kernel
theorem dX6_does_77 : decode cX6_does 77 = .ok (.invokevirtual 127, 3) := by decide +kernel
theorem dX6_does_80 : decode cX6_does 80 = .ok (.iadd, 1) := by decide +kernel
theorem dX6_does_81 : decode cX6_does 81 = .ok (.istore 4, 2) := by decide +kernel
theorem dX6_does_83 : decode cX6_does 83 = .ok (.aload_n 0, 1) := by decide +kernel
theorem dX6_does_84 : decode cX6_does 84 = .ok (.iconst 0, 1) := by decide +kernel
theorem dX6_does_85 : decode cX6_does 85 = .ok (.iconst 4, 1) := by decide +kernel
theorem dX6_does_86 : decode cX6_does 86 = .ok (.iload 4, 2) := by decide +kernel
theorem dX6_does_88 : decode cX6_does 88 = .ok (.imul, 1) := by decide +kernel
theorem dX6_does_89 : decode cX6_does 89 = .ok (.iadd, 1) := by decide +kernel
theorem dX6_does_90 : decode cX6_does 90 = .ok (.iload_n 2, 1) := by decide +kernel
theorem dX6_does_91 : decode cX6_does 91 = .ok (.iconst 4, 1) := by decide +kernel
theorem dX6_does_92 : decode cX6_does 92 = .ok (.isub, 1) := by decide +kernel
theorem dX6_does_93 : decode cX6_does 93 = .ok (.invokevirtual 142, 3) := by decide +kernel
theorem dX6_does_96 : decode cX6_does 96 = .ok (.goto 92, 3) := by decide +kernel
theorem dX6_does_99 : decode cX6_does 99 = .ok (.aload_n 0, 1) := by decide +kernel
theorem dX6_does_100 : decode cX6_does 100 = .ok (.bipush 120, 2) := by decide +kernel
theorem dX6_does_102 : decode cX6_does 102 = .ok (.iconst 4, 1) := by decide +kernel
theorem dX6_does_103 : decode cX6_does 103 = .ok (.iload_n 3, 1) := by decide +kernel
theorem dX6_does_104 : decode cX6_does 104 = .ok (.imul, 1) := by decide +kernel
theorem dX6_does_105 : decode cX6_does 105 = .ok (.iadd, 1) := by decide +kernel
theorem dX6_does_106 : decode cX6_does 106 = .ok (.iload_n 2, 1) := by decide +kernel
theorem dX6_does_107 : decode cX6_does 107 = .ok (.iconst 4, 1) := by decide +kernel
theorem dX6_does_108 : decode cX6_does 108 = .ok (.isub, 1) := by decide +kernel
theorem dX6_does_109 : decode cX6_does 109 = .ok (.invokevirtual 142, 3) := by decide +kernel
theorem dX6_does_112 : decode cX6_does 112 = .ok (.goto 76, 3) := by decide +kernel
theorem dX6_does_115 : decode cX6_does 115 = .ok (.aload_n 0, 1) := by decide +kernel
theorem dX6_does_116 : decode cX6_does 116 = .ok (.getfield 7, 3) := by decide +kernel
theorem dX6_does_119 : decode cX6_does 119 = .ok (.sipush 148, 3) := by decide +kernel
theorem dX6_does_122 : decode cX6_does 122 = .ok (.bipush 7, 2) := by decide +kernel
theorem dX6_does_124 : decode cX6_does 124 = .ok (.iload_n 3, 1) := by decide +kernel
theorem dX6_does_125 : decode cX6_does 125 = .ok (.imul, 1) := by decide +kernel
theorem dX6_does_126 : decode cX6_does 126 = .ok (.iadd, 1) := by decide +kernel
theorem dX6_does_127 : decode cX6_does 127 = .ok (.aload_n 0, 1) := by decide +kernel
theorem dX6_does_128 : decode cX6_does 128 = .ok (.iload_n 1, 1) := by decide +kernel
theorem dX6_does_129 : decode cX6_does 129 = .ok (.iconst 2, 1) := by decide +kernel
theorem dX6_does_130 : decode cX6_does 130 = .ok (.iadd, 1) := by decide +kernel
theorem dX6_does_131 : decode cX6_does 131 = .ok (.invokevirtual 127, 3) := by decide +kernel
theorem dX6_does_134 : decode cX6_does 134 = .ok (.iadd, 1) := by decide +kernel
theorem dX6_does_135 : decode cX6_does 135 = .ok (.aload_n 0, 1) := by decide +kernel
theorem dX6_does_136 : decode cX6_does 136 = .ok (.iload_n 2, 1) := by decide +kernel
theorem dX6_does_137 : decode cX6_does 137 = .ok (.iconst 1, 1) := by decide +kernel
theorem dX6_does_138 : decode cX6_does 138 = .ok (.isub, 1) := by decide +kernel
theorem dX6_does_139 : decode cX6_does 139 = .ok (.invokevirtual 127, 3) := by decide +kernel
theorem dX6_does_142 : decode cX6_does 142 = .ok (.iastore, 1) := by decide +kernel
theorem dX6_does_143 : decode cX6_does 143 = .ok (.goto 45, 3) := by decide +kernel
theorem dX6_does_146 : decode cX6_does 146 = .ok (.iconst 0, 1) := by decide +kernel
theorem dX6_does_147 : decode cX6_does 147 = .ok (.istore 5, 2) := by decide +kernel
theorem dX6_does_149 : decode cX6_does 149 = .ok (.iload_n 1, 1) := by decide +kernel
theorem dX6_does_150 : decode cX6_does 150 = .ok (.iconst 1, 1) := by decide +kernel
theorem dX6_does_151 : decode cX6_does 151 = .ok (.iadd, 1) := by decide +kernel
theorem dX6_does_152 : decode cX6_does 152 = .ok (.istore 6, 2) := by decide +kernel
theorem dX6_does_154 : decode cX6_does 154 = .ok (.iload 6, 2) := by decide +kernel
theorem dX6_does_156 : decode cX6_does 156 = .ok (.iload_n 2, 1) := by decide +kernel
theorem dX6_does_157 : decode cX6_does 157 = .ok (.if_icmp .ge 22, 3) := by decide +kernel
theorem dX6_does_160 : decode cX6_does 160 = .ok (.iload 5, 2) := by decide +kernel
theorem dX6_does_162 : decode cX6_does 162 = .ok (.iconst 1, 1) := by decide +kernel
theorem dX6_does_163 : decode cX6_does 163 = .ok (.aload_n 0, 1) := by decide +kernel
theorem dX6_does_164 : decode cX6_does 164 = .ok (.iload 6, 2) := by decide +kernel
theorem dX6_does_166 : decode cX6_does 166 = .ok (.invokevirtual 127, 3) := by decide +kernel
theorem dX6_does_169 : decode cX6_does 169 = .ok (.ishl, 1) := by decide +kernel
theorem dX6_does_170 : decode cX6_does 170 = .ok (.ior, 1) := by decide +kernel
theorem dX6_does_171 : decode cX6_does 171 = .ok (.istore 5, 2) := by decide +kernel
theorem dX6_does_173 : decode cX6_does 173 = .ok (.iinc 6 1, 3) := by decide +kernel
theorem dX6_does_176 : decode cX6_does 176 = .ok (.goto (-22), 3) := by decide +kernel
theorem dX6_does_179 : decode cX6_does 179 = .ok (.aload_n 0, 1) := by decide +kernel
theorem dX6_does_180 : decode cX6_does 180 = .ok (.iconst 0, 1) := by decide +kernel
theorem dX6_does_181 : decode cX6_does 181 = .ok (.iload 5, 2) := by decide +kernel
theorem dX6_does_183 : decode cX6_does 183 = .ok (.invokevirtual 115, 3) := by decide +kernel
theorem dX6_does_186 : decode cX6_does 186 = .ok (.istore 6, 2) := by decide +kernel
theorem dX6_does_188 : decode cX6_does 188 = .ok (.return_, 1) := by decide +kernel
set_option maxRecDepth 20000 in
theorem ggX6_perform_X6_fault : GoodIn wsX6_perform wsX6_fault := goodIn_r _ [6, 1, 7, 8, 9, 5, 10, 11, 12, 13, 14, 15, 16, 17, 18, 19, 20, 21, 22, 23, 24, 25, 26, 27, 28, 29, 30, 31, 32, 33, 34, 35, 36, 37, 102, 103, 104, 105, 106, 107, 108, 109, 110] rfl (by decide +kernel)
set_option maxRecDepth 20000 in
theorem gX6_perform_X6_fault : GoodIn wsX6_perform (wsV RX6 146 RX6 yX6_fault wsX6_fault) := goodIn_app (goodIn_of _ (by decide +kernel)) ggX6_perform_X6_fault
set_option maxRecDepth 20000 in
theorem ggX6_perform_X6_remembers : GoodIn wsX6_perform wsX6_remembers := goodIn_r _ [41, 42, 43, 44, 102, 103, 104, 105, 106, 107, 108, 109, 110] rfl (by decide +kernel)
set_option maxRecDepth 20000 in
theorem gX6_perform_X6_remembers : GoodIn wsX6_perform (wsV RX6 99 RX6 yX6_remembers wsX6_remembers) := goodIn_app (goodIn_of _ (by decide +kernel)) ggX6_perform_X6_remembers
set_option maxRecDepth 20000 in
theorem ggX6_perform_X6_does : GoodIn wsX6_perform wsX6_does := goodIn_r _ [48, 44, 7, 8, 9, 5, 10, 11, 12, 13, 14, 15, 16, 17, 18, 1, 19, 20, 21, 22, 23, 24, 25, 26, 27, 28, 29, 30, 31, 32, 33, 34, 35, 36, 37, 49, 50, 51, 52, 53, 54, 55, 56, 57, 58, 59, 60, 61, 62, 63, 64, 65, 66, 67, 68, 69, 70, 71, 72, 73, 74, 75, 76, 77, 78, 79, 80, 81, 82, 83, 84, 85, 86, 87, 88, 89, 90, 91, 92, 93, 94, 95, 96, 97, 98, 99, 100, 101, 102, 103, 104, 105, 106, 107, 108, 109, 110] rfl (by decide +kernel)
set_option maxRecDepth 20000 in
theorem gX6_perform_X6_does : GoodIn wsX6_perform (wsV RX6 150 RX6 yX6_does wsX6_does) := goodIn_app (goodIn_of _ (by decide +kernel)) ggX6_perform_X6_does
set_option maxRecDepth 20000 in
theorem ggX6_perform_X6_orderEnd : GoodIn wsX6_perform wsX6_orderEnd := goodIn_r _ [10, 11, 12, 13, 5, 14, 15, 16, 17, 18, 1, 19, 20, 21, 22, 23, 24, 25, 26, 27, 28, 29, 30, 31, 32, 33, 34, 35, 36, 37, 102, 103, 104, 105, 106, 107, 108, 109, 110] rfl (by decide +kernel)
set_option maxRecDepth 20000 in
theorem gX6_perform_X6_orderEnd : GoodIn wsX6_perform (wsV RX6 139 RX6 yX6_orderEnd wsX6_orderEnd) := goodIn_app (goodIn_of _ (by decide +kernel)) ggX6_perform_X6_orderEnd
theorem dX6_perform_0 : decode cX6_perform 0 = .ok (.aload_n 0, 1) := by decide +kernel
theorem dX6_perform_1 : decode cX6_perform 1 = .ok (.invokevirtual 146, 3) := by decide +kernel
theorem dX6_perform_4 : decode cX6_perform 4 = .ok (.istore_n 1, 1) := by decide +kernel
theorem dX6_perform_5 : decode cX6_perform 5 = .ok (.iload_n 1, 1) := by decide +kernel
theorem dX6_perform_6 : decode cX6_perform 6 = .ok (.bipush (-5), 2) := by decide +kernel
theorem dX6_perform_8 : decode cX6_perform 8 = .ok (.if_icmp .eq 8, 3) := by decide +kernel
theorem dX6_perform_11 : decode cX6_perform 11 = .ok (.bipush (-100), 2) := by decide +kernel
theorem dX6_perform_13 : decode cX6_perform 13 = .ok (.iload_n 1, 1) := by decide +kernel
theorem dX6_perform_14 : decode cX6_perform 14 = .ok (.isub, 1) := by decide +kernel
theorem dX6_perform_15 : decode cX6_perform 15 = .ok (.ireturn, 1) := by decide +kernel
theorem dX6_perform_16 : decode cX6_perform 16 = .ok (.aload_n 0, 1) := by decide +kernel
theorem dX6_perform_17 : decode cX6_perform 17 = .ok (.invokevirtual 99, 3) := by decide +kernel
theorem dX6_perform_20 : decode cX6_perform 20 = .ok (.iconst 0, 1) := by decide +kernel
theorem dX6_perform_21 : decode cX6_perform 21 = .ok (.istore_n 2, 1) := by decide +kernel
theorem dX6_perform_22 : decode cX6_perform 22 = .ok (.iconst 0, 1) := by decide +kernel
theorem dX6_perform_23 : decode cX6_perform 23 = .ok (.istore_n 3, 1) := by decide +kernel
theorem dX6_perform_24 : decode cX6_perform 24 = .ok (.iload_n 3, 1) := by decide +kernel
theorem dX6_perform_25 : decode cX6_perform 25 = .ok (.aload_n 0, 1) := by decide +kernel
theorem dX6_perform_26 : decode cX6_perform 26 = .ok (.getfield 121, 3) := by decide +kernel
theorem dX6_perform_29 : decode cX6_perform 29 = .ok (.if_icmp .ge 22, 3) := by decide +kernel
theorem dX6_perform_32 : decode cX6_perform 32 = .ok (.aload_n 0, 1) := by decide +kernel
theorem dX6_perform_33 : decode cX6_perform 33 = .ok (.iload_n 3, 1) := by decide +kernel
theorem dX6_perform_34 : decode cX6_perform 34 = .ok (.invokevirtual 150, 3) := by decide +kernel
theorem dX6_perform_37 : decode cX6_perform 37 = .ok (.iinc 2 1, 3) := by decide +kernel
theorem dX6_perform_40 : decode cX6_perform 40 = .ok (.aload_n 0, 1) := by decide +kernel
theorem dX6_perform_41 : decode cX6_perform 41 = .ok (.iload_n 3, 1) := by decide +kernel
theorem dX6_perform_42 : decode cX6_perform 42 = .ok (.invokevirtual 139, 3) := by decide +kernel
theorem dX6_perform_45 : decode cX6_perform 45 = .ok (.iconst 1, 1) := by decide +kernel
theorem dX6_perform_46 : decode cX6_perform 46 = .ok (.iadd, 1) := by decide +kernel
theorem dX6_perform_47 : decode cX6_perform 47 = .ok (.istore_n 3, 1) := by decide +kernel
theorem dX6_perform_48 : decode cX6_perform 48 = .ok (.goto (-24), 3) := by decide +kernel
theorem dX6_perform_51 : decode cX6_perform 51 = .ok (.iload_n 2, 1) := by decide +kernel
theorem dX6_perform_52 : decode cX6_perform 52 = .ok (.ireturn, 1) := by decide +kernel
theorem dX6_undo_0 : decode cX6_undo 0 = .ok (.aload_n 0, 1) := by decide +kernel
theorem dX6_undo_1 : decode cX6_undo 1 = .ok (.getfield 29, 3) := by decide +kernel
theorem dX6_undo_4 : decode cX6_undo 4 = .ok (.ifCond .ne 6, 3) := by decide +kernel
theorem dX6_undo_7 : decode cX6_undo 7 = .ok (.bipush (-5), 2) := by decide +kernel
theorem dX6_undo_9 : decode cX6_undo 9 = .ok (.ireturn, 1) := by decide +kernel
theorem dX6_undo_10 : decode cX6_undo 10 = .ok (.aload_n 0, 1) := by decide +kernel
theorem dX6_undo_11 : decode cX6_undo 11 = .ok (.dup, 1) := by decide +kernel
theorem dX6_undo_12 : decode cX6_undo 12 = .ok (.getfield 29, 3) := by decide +kernel
theorem dX6_undo_15 : decode cX6_undo 15 = .ok (.iconst 1, 1) := by decide +kernel
theorem dX6_undo_16 : decode cX6_undo 16 = .ok (.isub, 1) := by decide +kernel
theorem dX6_undo_17 : decode cX6_undo 17 = .ok (.putfield 29, 3) := by decide +kernel
theorem dX6_undo_20 : decode cX6_undo 20 = .ok (.iconst 0, 1) := by decide +kernel
theorem dX6_undo_21 : decode cX6_undo 21 = .ok (.istore_n 1, 1) := by decide +kernel
theorem dX6_undo_22 : decode cX6_undo 22 = .ok (.iload_n 1, 1) := by decide +kernel
theorem dX6_undo_23 : decode cX6_undo 23 = .ok (.sipush 202, 3) := by decide +kernel
theorem dX6_undo_26 : decode cX6_undo 26 = .ok (.if_icmp .ge 30, 3) := by decide +kernel
theorem dX6_undo_29 : decode cX6_undo 29 = .ok (.aload_n 0, 1) := by decide +kernel
theorem dX6_undo_30 : decode cX6_undo 30 = .ok (.getfield 7, 3) := by decide +kernel
theorem dX6_undo_33 : decode cX6_undo 33 = .ok (.iload_n 1, 1) := by decide +kernel
theorem dX6_undo_34 : decode cX6_undo 34 = .ok (.aload_n 0, 1) := by decide +kernel
theorem dX6_undo_35 : decode cX6_undo 35 = .ok (.getfield 13, 3) := by decide +kernel
theorem dX6_undo_38 : decode cX6_undo 38 = .ok (.sipush 202, 3) := by decide +kernel
theorem dX6_undo_41 : decode cX6_undo 41 = .ok (.aload_n 0, 1) := by decide +kernel
theorem dX6_undo_42 : decode cX6_undo 42 = .ok (.getfield 29, 3) := by decide +kernel
theorem dX6_undo_45 : decode cX6_undo 45 = .ok (.imul, 1) := by decide +kernel
theorem dX6_undo_46 : decode cX6_undo 46 = .ok (.iload_n 1, 1) := by decide +kernel
theorem dX6_undo_47 : decode cX6_undo 47 = .ok (.iadd, 1) := by decide +kernel
theorem dX6_undo_48 : decode cX6_undo 48 = .ok (.iaload, 1) := by decide +kernel
theorem dX6_undo_49 : decode cX6_undo 49 = .ok (.iastore, 1) := by decide +kernel
theorem dX6_undo_50 : decode cX6_undo 50 = .ok (.iinc 1 1, 3) := by decide +kernel
theorem dX6_undo_53 : decode cX6_undo 53 = .ok (.goto (-31), 3) := by decide +kernel
theorem dX6_undo_56 : decode cX6_undo 56 = .ok (.aload_n 0, 1) := by decide +kernel
theorem dX6_undo_57 : decode cX6_undo 57 = .ok (.getfield 29, 3) := by decide +kernel
theorem dX6_undo_60 : decode cX6_undo 60 = .ok (.ireturn, 1) := by decide +kernel
theorem dX6_plotsOf_0 : decode cX6_plotsOf 0 = .ok (.iconst 0, 1) := by decide +kernel
theorem dX6_plotsOf_1 : decode cX6_plotsOf 1 = .ok (.istore_n 2, 1) := by decide +kernel
theorem dX6_plotsOf_2 : decode cX6_plotsOf 2 = .ok (.iconst 0, 1) := by decide +kernel
theorem dX6_plotsOf_3 : decode cX6_plotsOf 3 = .ok (.istore_n 3, 1) := by decide +kernel
theorem dX6_plotsOf_4 : decode cX6_plotsOf 4 = .ok (.iload_n 3, 1) := by decide +kernel
theorem dX6_plotsOf_5 : decode cX6_plotsOf 5 = .ok (.bipush 24, 2) := by decide +kernel
theorem dX6_plotsOf_7 : decode cX6_plotsOf 7 = .ok (.if_icmp .ge 68, 3) := by decide +kernel
theorem dX6_plotsOf_10 : decode cX6_plotsOf 10 = .ok (.iload_n 1, 1) := by decide +kernel
theorem dX6_plotsOf_11 : decode cX6_plotsOf 11 = .ok (.ifCond .ge 25, 3) := by decide +kernel
theorem dX6_plotsOf_14 : decode cX6_plotsOf 14 = .ok (.aload_n 0, 1) := by decide +kernel
theorem dX6_plotsOf_15 : decode cX6_plotsOf 15 = .ok (.getfield 7, 3) := by decide +kernel
theorem dX6_plotsOf_18 : decode cX6_plotsOf 18 = .ok (.bipush 96, 2) := by decide +kernel
theorem dX6_plotsOf_20 : decode cX6_plotsOf 20 = .ok (.iload_n 3, 1) := by decide +kernel
theorem dX6_plotsOf_21 : decode cX6_plotsOf 21 = .ok (.iadd, 1) := by decide +kernel
theorem dX6_plotsOf_22 : decode cX6_plotsOf 22 = .ok (.iaload, 1) := by decide +kernel
theorem dX6_plotsOf_23 : decode cX6_plotsOf 23 = .ok (.bipush 7, 2) := by decide +kernel
theorem dX6_plotsOf_25 : decode cX6_plotsOf 25 = .ok (.if_icmp .eq 7, 3) := by decide +kernel
theorem dX6_plotsOf_28 : decode cX6_plotsOf 28 = .ok (.iconst 1, 1) := by decide +kernel
theorem dX6_plotsOf_29 : decode cX6_plotsOf 29 = .ok (.goto 25, 3) := by decide +kernel
theorem dX6_plotsOf_32 : decode cX6_plotsOf 32 = .ok (.iconst 0, 1) := by decide +kernel
theorem dX6_plotsOf_33 : decode cX6_plotsOf 33 = .ok (.goto 21, 3) := by decide +kernel
theorem dX6_plotsOf_36 : decode cX6_plotsOf 36 = .ok (.aload_n 0, 1) := by decide +kernel
theorem dX6_plotsOf_37 : decode cX6_plotsOf 37 = .ok (.getfield 7, 3) := by decide +kernel
theorem dX6_plotsOf_40 : decode cX6_plotsOf 40 = .ok (.bipush 96, 2) := by decide +kernel
theorem dX6_plotsOf_42 : decode cX6_plotsOf 42 = .ok (.iload_n 3, 1) := by decide +kernel
theorem dX6_plotsOf_43 : decode cX6_plotsOf 43 = .ok (.iadd, 1) := by decide +kernel
theorem dX6_plotsOf_44 : decode cX6_plotsOf 44 = .ok (.iaload, 1) := by decide +kernel
theorem dX6_plotsOf_45 : decode cX6_plotsOf 45 = .ok (.iload_n 1, 1) := by decide +kernel
theorem dX6_plotsOf_46 : decode cX6_plotsOf 46 = .ok (.if_icmp .ne 7, 3) := by decide +kernel
theorem dX6_plotsOf_49 : decode cX6_plotsOf 49 = .ok (.iconst 1, 1) := by decide +kernel
theorem dX6_plotsOf_50 : decode cX6_plotsOf 50 = .ok (.goto 4, 3) := by decide +kernel
theorem dX6_plotsOf_53 : decode cX6_plotsOf 53 = .ok (.iconst 0, 1) := by decide +kernel
theorem dX6_plotsOf_54 : decode cX6_plotsOf 54 = .ok (.istore 4, 2) := by decide +kernel
theorem dX6_plotsOf_56 : decode cX6_plotsOf 56 = .ok (.iload_n 2, 1) := by decide +kernel
theorem dX6_plotsOf_57 : decode cX6_plotsOf 57 = .ok (.iload 4, 2) := by decide +kernel
theorem dX6_plotsOf_59 : decode cX6_plotsOf 59 = .ok (.ifCond .eq 7, 3) := by decide +kernel
theorem dX6_plotsOf_62 : decode cX6_plotsOf 62 = .ok (.iconst 1, 1) := by decide +kernel
theorem dX6_plotsOf_63 : decode cX6_plotsOf 63 = .ok (.goto 4, 3) := by decide +kernel
theorem dX6_plotsOf_66 : decode cX6_plotsOf 66 = .ok (.iconst 0, 1) := by decide +kernel
theorem dX6_plotsOf_67 : decode cX6_plotsOf 67 = .ok (.iadd, 1) := by decide +kernel
theorem dX6_plotsOf_68 : decode cX6_plotsOf 68 = .ok (.istore_n 2, 1) := by decide +kernel
theorem dX6_plotsOf_69 : decode cX6_plotsOf 69 = .ok (.iinc 3 1, 3) := by decide +kernel
theorem dX6_plotsOf_72 : decode cX6_plotsOf 72 = .ok (.goto (-68), 3) := by decide +kernel
theorem dX6_plotsOf_75 : decode cX6_plotsOf 75 = .ok (.iload_n 2, 1) := by decide +kernel
theorem dX6_plotsOf_76 : decode cX6_plotsOf 76 = .ok (.ireturn, 1) := by decide +kernel
set_option maxRecDepth 20000 in
theorem ggX6_keep_X6_plotsOf : GoodIn wsX6_keep wsX6_plotsOf := goodIn_r _ [8, 2, 9, 10, 11, 12, 13, 14, 15, 16, 17] rfl (by decide +kernel)
set_option maxRecDepth 20000 in
theorem gX6_keep_X6_plotsOf : GoodIn wsX6_keep (wsV RX6 158 RX6 yX6_plotsOf wsX6_plotsOf) := goodIn_app (goodIn_of _ (by decide +kernel)) ggX6_keep_X6_plotsOf
theorem dX6_keep_0 : decode cX6_keep 0 = .ok (.iconst 0, 1) := by decide +kernel
theorem dX6_keep_1 : decode cX6_keep 1 = .ok (.istore_n 1, 1) := by decide +kernel
theorem dX6_keep_2 : decode cX6_keep 2 = .ok (.iload_n 1, 1) := by decide +kernel
theorem dX6_keep_3 : decode cX6_keep 3 = .ok (.sipush 202, 3) := by decide +kernel
theorem dX6_keep_6 : decode cX6_keep 6 = .ok (.if_icmp .ge 21, 3) := by decide +kernel
theorem dX6_keep_9 : decode cX6_keep 9 = .ok (.aload_n 0, 1) := by decide +kernel
theorem dX6_keep_10 : decode cX6_keep 10 = .ok (.getfield 16, 3) := by decide +kernel
theorem dX6_keep_13 : decode cX6_keep 13 = .ok (.iload_n 1, 1) := by decide +kernel
theorem dX6_keep_14 : decode cX6_keep 14 = .ok (.aload_n 0, 1) := by decide +kernel
theorem dX6_keep_15 : decode cX6_keep 15 = .ok (.getfield 7, 3) := by decide +kernel
theorem dX6_keep_18 : decode cX6_keep 18 = .ok (.iload_n 1, 1) := by decide +kernel
theorem dX6_keep_19 : decode cX6_keep 19 = .ok (.iaload, 1) := by decide +kernel
theorem dX6_keep_20 : decode cX6_keep 20 = .ok (.iastore, 1) := by decide +kernel
theorem dX6_keep_21 : decode cX6_keep 21 = .ok (.iinc 1 1, 3) := by decide +kernel
theorem dX6_keep_24 : decode cX6_keep 24 = .ok (.goto (-22), 3) := by decide +kernel
theorem dX6_keep_27 : decode cX6_keep 27 = .ok (.aload_n 0, 1) := by decide +kernel
theorem dX6_keep_28 : decode cX6_keep 28 = .ok (.iconst 1, 1) := by decide +kernel
theorem dX6_keep_29 : decode cX6_keep 29 = .ok (.putfield 154, 3) := by decide +kernel
theorem dX6_keep_32 : decode cX6_keep 32 = .ok (.aload_n 0, 1) := by decide +kernel
theorem dX6_keep_33 : decode cX6_keep 33 = .ok (.iconst (-1), 1) := by decide +kernel
theorem dX6_keep_34 : decode cX6_keep 34 = .ok (.invokevirtual 158, 3) := by decide +kernel
theorem dX6_keep_37 : decode cX6_keep 37 = .ok (.ireturn, 1) := by decide +kernel
set_option maxRecDepth 20000 in
theorem ggX6_restore_X6_remembers : GoodIn wsX6_restore wsX6_remembers := goodIn_r _ [8, 9, 10, 2, 15, 16, 17, 18, 19, 20, 21, 22, 23] rfl (by decide +kernel)
set_option maxRecDepth 20000 in
theorem gX6_restore_X6_remembers : GoodIn wsX6_restore (wsV RX6 99 RX6 yX6_remembers wsX6_remembers) := goodIn_app (goodIn_of _ (by decide +kernel)) ggX6_restore_X6_remembers
set_option maxRecDepth 20000 in
theorem ggX6_restore_X6_plotsOf : GoodIn wsX6_restore wsX6_plotsOf := goodIn_r _ [14, 2, 15, 16, 17, 18, 19, 20, 21, 22, 23] rfl (by decide +kernel)
set_option maxRecDepth 20000 in
theorem gX6_restore_X6_plotsOf : GoodIn wsX6_restore (wsV RX6 158 RX6 yX6_plotsOf wsX6_plotsOf) := goodIn_app (goodIn_of _ (by decide +kernel)) ggX6_restore_X6_plotsOf
theorem dX6_restore_0 : decode cX6_restore 0 = .ok (.aload_n 0, 1) := by decide +kernel
theorem dX6_restore_1 : decode cX6_restore 1 = .ok (.getfield 154, 3) := by decide +kernel
theorem dX6_restore_4 : decode cX6_restore 4 = .ok (.ifCond .ne 6, 3) := by decide +kernel
theorem dX6_restore_7 : decode cX6_restore 7 = .ok (.bipush (-5), 2) := by decide +kernel
theorem dX6_restore_9 : decode cX6_restore 9 = .ok (.ireturn, 1) := by decide +kernel
theorem dX6_restore_10 : decode cX6_restore 10 = .ok (.aload_n 0, 1) := by decide +kernel
theorem dX6_restore_11 : decode cX6_restore 11 = .ok (.invokevirtual 99, 3) := by decide +kernel
theorem dX6_restore_14 : decode cX6_restore 14 = .ok (.iconst 0, 1) := by decide +kernel
theorem dX6_restore_15 : decode cX6_restore 15 = .ok (.istore_n 1, 1) := by decide +kernel
theorem dX6_restore_16 : decode cX6_restore 16 = .ok (.iload_n 1, 1) := by decide +kernel
theorem dX6_restore_17 : decode cX6_restore 17 = .ok (.sipush 202, 3) := by decide +kernel
theorem dX6_restore_20 : decode cX6_restore 20 = .ok (.if_icmp .ge 21, 3) := by decide +kernel
theorem dX6_restore_23 : decode cX6_restore 23 = .ok (.aload_n 0, 1) := by decide +kernel
theorem dX6_restore_24 : decode cX6_restore 24 = .ok (.getfield 7, 3) := by decide +kernel
theorem dX6_restore_27 : decode cX6_restore 27 = .ok (.iload_n 1, 1) := by decide +kernel
theorem dX6_restore_28 : decode cX6_restore 28 = .ok (.aload_n 0, 1) := by decide +kernel
theorem dX6_restore_29 : decode cX6_restore 29 = .ok (.getfield 16, 3) := by decide +kernel
theorem dX6_restore_32 : decode cX6_restore 32 = .ok (.iload_n 1, 1) := by decide +kernel
theorem dX6_restore_33 : decode cX6_restore 33 = .ok (.iaload, 1) := by decide +kernel
theorem dX6_restore_34 : decode cX6_restore 34 = .ok (.iastore, 1) := by decide +kernel
theorem dX6_restore_35 : decode cX6_restore 35 = .ok (.iinc 1 1, 3) := by decide +kernel
theorem dX6_restore_38 : decode cX6_restore 38 = .ok (.goto (-22), 3) := by decide +kernel
theorem dX6_restore_41 : decode cX6_restore 41 = .ok (.aload_n 0, 1) := by decide +kernel
theorem dX6_restore_42 : decode cX6_restore 42 = .ok (.iconst (-1), 1) := by decide +kernel
theorem dX6_restore_43 : decode cX6_restore 43 = .ok (.invokevirtual 158, 3) := by decide +kernel
theorem dX6_restore_46 : decode cX6_restore 46 = .ok (.ireturn, 1) := by decide +kernel
set_option maxRecDepth 20000 in
theorem ggX6_plot_X6_isPlot : GoodIn wsX6_plot wsX6_isPlot := goodIn_r _ [5, 6, 7, 4, 8] rfl (by decide +kernel)
set_option maxRecDepth 20000 in
theorem gX6_plot_X6_isPlot : GoodIn wsX6_plot (va_wsS RX6 102 yX6_isPlot wsX6_isPlot) := goodIn_app (goodIn_of _ (by decide +kernel)) ggX6_plot_X6_isPlot
set_option maxRecDepth 20000 in
theorem ggX6_plot_X6_in : GoodIn wsX6_plot wsX6_in := goodIn_r _ [8] rfl (by decide +kernel)
set_option maxRecDepth 20000 in
theorem gX6_plot_X6_in : GoodIn wsX6_plot (va_wsS RX6 25 yX6_in wsX6_in) := goodIn_app (goodIn_of _ (by decide +kernel)) ggX6_plot_X6_in
set_option maxRecDepth 20000 in
theorem ggX6_plot_X6_worth : GoodIn wsX6_plot wsX6_worth := goodIn_r _ [12, 1, 13, 14, 15, 16, 17, 18, 19, 20, 21] rfl (by decide +kernel)
set_option maxRecDepth 20000 in
theorem gX6_plot_X6_worth : GoodIn wsX6_plot (wsV RX6 33 RX6 yX6_worth wsX6_worth) := goodIn_app (goodIn_of _ (by decide +kernel)) ggX6_plot_X6_worth
theorem dX6_plot_0 : decode cX6_plot 0 = .ok (.iload_n 1, 1) := by decide +kernel
theorem dX6_plot_1 : decode cX6_plot 1 = .ok (.invokestatic 102, 3) := by decide +kernel
theorem dX6_plot_4 : decode cX6_plot 4 = .ok (.ifCond .ne 5, 3) := by decide +kernel
theorem dX6_plot_7 : decode cX6_plot 7 = .ok (.iconst (-1), 1) := by decide +kernel
theorem dX6_plot_8 : decode cX6_plot 8 = .ok (.ireturn, 1) := by decide +kernel
theorem dX6_plot_9 : decode cX6_plot 9 = .ok (.iload_n 2, 1) := by decide +kernel
theorem dX6_plot_10 : decode cX6_plot 10 = .ok (.iconst 0, 1) := by decide +kernel
theorem dX6_plot_11 : decode cX6_plot 11 = .ok (.bipush 11, 2) := by decide +kernel
theorem dX6_plot_13 : decode cX6_plot 13 = .ok (.invokestatic 25, 3) := by decide +kernel
theorem dX6_plot_16 : decode cX6_plot 16 = .ok (.ifCond .ne 6, 3) := by decide +kernel
theorem dX6_plot_19 : decode cX6_plot 19 = .ok (.bipush (-2), 2) := by decide +kernel
theorem dX6_plot_21 : decode cX6_plot 21 = .ok (.ireturn, 1) := by decide +kernel
theorem dX6_plot_22 : decode cX6_plot 22 = .ok (.iload_n 2, 1) := by decide +kernel
theorem dX6_plot_23 : decode cX6_plot 23 = .ok (.iconst 4, 1) := by decide +kernel
theorem dX6_plot_24 : decode cX6_plot 24 = .ok (.if_icmp .ge 18, 3) := by decide +kernel
theorem dX6_plot_27 : decode cX6_plot 27 = .ok (.aload_n 0, 1) := by decide +kernel
theorem dX6_plot_28 : decode cX6_plot 28 = .ok (.getfield 7, 3) := by decide +kernel
theorem dX6_plot_31 : decode cX6_plot 31 = .ok (.iconst 0, 1) := by decide +kernel
theorem dX6_plot_32 : decode cX6_plot 32 = .ok (.iconst 4, 1) := by decide +kernel
theorem dX6_plot_33 : decode cX6_plot 33 = .ok (.iload_n 1, 1) := by decide +kernel
theorem dX6_plot_34 : decode cX6_plot 34 = .ok (.imul, 1) := by decide +kernel
theorem dX6_plot_35 : decode cX6_plot 35 = .ok (.iadd, 1) := by decide +kernel
theorem dX6_plot_36 : decode cX6_plot 36 = .ok (.iload_n 2, 1) := by decide +kernel
theorem dX6_plot_37 : decode cX6_plot 37 = .ok (.iadd, 1) := by decide +kernel
theorem dX6_plot_38 : decode cX6_plot 38 = .ok (.iaload, 1) := by decide +kernel
theorem dX6_plot_39 : decode cX6_plot 39 = .ok (.goto 28, 3) := by decide +kernel
theorem dX6_plot_42 : decode cX6_plot 42 = .ok (.iload_n 2, 1) := by decide +kernel
theorem dX6_plot_43 : decode cX6_plot 43 = .ok (.iconst 4, 1) := by decide +kernel
theorem dX6_plot_44 : decode cX6_plot 44 = .ok (.if_icmp .ne 15, 3) := by decide +kernel
theorem dX6_plot_47 : decode cX6_plot 47 = .ok (.aload_n 0, 1) := by decide +kernel
theorem dX6_plot_48 : decode cX6_plot 48 = .ok (.getfield 7, 3) := by decide +kernel
theorem dX6_plot_51 : decode cX6_plot 51 = .ok (.bipush 96, 2) := by decide +kernel
theorem dX6_plot_53 : decode cX6_plot 53 = .ok (.iload_n 1, 1) := by decide +kernel
theorem dX6_plot_54 : decode cX6_plot 54 = .ok (.iadd, 1) := by decide +kernel
theorem dX6_plot_55 : decode cX6_plot 55 = .ok (.iaload, 1) := by decide +kernel
theorem dX6_plot_56 : decode cX6_plot 56 = .ok (.goto 11, 3) := by decide +kernel
theorem dX6_plot_59 : decode cX6_plot 59 = .ok (.aload_n 0, 1) := by decide +kernel
theorem dX6_plot_60 : decode cX6_plot 60 = .ok (.iload_n 2, 1) := by decide +kernel
theorem dX6_plot_61 : decode cX6_plot 61 = .ok (.iconst 5, 1) := by decide +kernel
theorem dX6_plot_62 : decode cX6_plot 62 = .ok (.isub, 1) := by decide +kernel
theorem dX6_plot_63 : decode cX6_plot 63 = .ok (.iload_n 1, 1) := by decide +kernel
theorem dX6_plot_64 : decode cX6_plot 64 = .ok (.invokevirtual 33, 3) := by decide +kernel
theorem dX6_plot_67 : decode cX6_plot 67 = .ok (.ireturn, 1) := by decide +kernel
set_option maxRecDepth 20000 in
theorem ggX6_hundredths_X6_worthFrom : GoodIn wsX6_hundredths wsX6_worthFrom := goodIn_r _ [5, 6, 7, 8, 4, 9, 10, 15, 16, 17, 18, 19, 20, 21, 22, 23] rfl (by decide +kernel)
set_option maxRecDepth 20000 in
theorem gX6_hundredths_X6_worthFrom : GoodIn wsX6_hundredths (wsV RX6 64 RX6 yX6_worthFrom wsX6_worthFrom) := goodIn_app (goodIn_of _ (by decide +kernel)) ggX6_hundredths_X6_worthFrom
set_option maxRecDepth 20000 in
theorem ggX6_hundredths_X6_share : GoodIn wsX6_hundredths wsX6_share := goodIn_r _ [14, 10, 6, 7, 8, 4, 9, 15, 16, 17, 18, 19, 20, 21, 22, 23] rfl (by decide +kernel)
set_option maxRecDepth 20000 in
theorem gX6_hundredths_X6_share : GoodIn wsX6_hundredths (wsV RX6 37 RX6 yX6_share wsX6_share) := goodIn_app (goodIn_of _ (by decide +kernel)) ggX6_hundredths_X6_share
theorem dX6_hundredths_0 : decode cX6_hundredths 0 = .ok (.aload_n 0, 1) := by decide +kernel
theorem dX6_hundredths_1 : decode cX6_hundredths 1 = .ok (.iload_n 1, 1) := by decide +kernel
theorem dX6_hundredths_2 : decode cX6_hundredths 2 = .ok (.iconst 0, 1) := by decide +kernel
theorem dX6_hundredths_3 : decode cX6_hundredths 3 = .ok (.invokevirtual 64, 3) := by decide +kernel
theorem dX6_hundredths_6 : decode cX6_hundredths 6 = .ok (.istore_n 2, 1) := by decide +kernel
theorem dX6_hundredths_7 : decode cX6_hundredths 7 = .ok (.iload_n 2, 1) := by decide +kernel
theorem dX6_hundredths_8 : decode cX6_hundredths 8 = .ok (.ifCond .ne 7, 3) := by decide +kernel
theorem dX6_hundredths_11 : decode cX6_hundredths 11 = .ok (.iconst 0, 1) := by decide +kernel
theorem dX6_hundredths_12 : decode cX6_hundredths 12 = .ok (.goto 15, 3) := by decide +kernel
theorem dX6_hundredths_15 : decode cX6_hundredths 15 = .ok (.bipush 100, 2) := by decide +kernel
theorem dX6_hundredths_17 : decode cX6_hundredths 17 = .ok (.aload_n 0, 1) := by decide +kernel
theorem dX6_hundredths_18 : decode cX6_hundredths 18 = .ok (.iconst 0, 1) := by decide +kernel
theorem dX6_hundredths_19 : decode cX6_hundredths 19 = .ok (.iload_n 1, 1) := by decide +kernel
theorem dX6_hundredths_20 : decode cX6_hundredths 20 = .ok (.iload_n 1, 1) := by decide +kernel
theorem dX6_hundredths_21 : decode cX6_hundredths 21 = .ok (.invokevirtual 37, 3) := by decide +kernel
theorem dX6_hundredths_24 : decode cX6_hundredths 24 = .ok (.imul, 1) := by decide +kernel
theorem dX6_hundredths_25 : decode cX6_hundredths 25 = .ok (.iload_n 2, 1) := by decide +kernel
theorem dX6_hundredths_26 : decode cX6_hundredths 26 = .ok (.idiv, 1) := by decide +kernel
theorem dX6_hundredths_27 : decode cX6_hundredths 27 = .ok (.ireturn, 1) := by decide +kernel
set_option maxRecDepth 20000 in
theorem ggX6_greatestEnvy_X6_envy : GoodIn wsX6_greatestEnvy wsX6_envy := goodIn_r _ [5, 6, 7, 8, 4, 9, 10, 11, 12, 13, 14, 15, 16, 17, 18, 19, 20, 21, 22, 23, 24, 25, 26, 27, 28, 29, 30, 31] rfl (by decide +kernel)
set_option maxRecDepth 20000 in
theorem gX6_greatestEnvy_X6_envy : GoodIn wsX6_greatestEnvy (wsV RX6 47 RX6 yX6_envy wsX6_envy) := goodIn_app (goodIn_of _ (by decide +kernel)) ggX6_greatestEnvy_X6_envy
theorem dX6_greatestEnvy_0 : decode cX6_greatestEnvy 0 = .ok (.iconst 0, 1) := by decide +kernel
theorem dX6_greatestEnvy_1 : decode cX6_greatestEnvy 1 = .ok (.istore_n 2, 1) := by decide +kernel
theorem dX6_greatestEnvy_2 : decode cX6_greatestEnvy 2 = .ok (.iconst 0, 1) := by decide +kernel
theorem dX6_greatestEnvy_3 : decode cX6_greatestEnvy 3 = .ok (.istore_n 3, 1) := by decide +kernel
theorem dX6_greatestEnvy_4 : decode cX6_greatestEnvy 4 = .ok (.iload_n 3, 1) := by decide +kernel
theorem dX6_greatestEnvy_5 : decode cX6_greatestEnvy 5 = .ok (.bipush 7, 2) := by decide +kernel
theorem dX6_greatestEnvy_7 : decode cX6_greatestEnvy 7 = .ok (.if_icmp .ge 31, 3) := by decide +kernel
theorem dX6_greatestEnvy_10 : decode cX6_greatestEnvy 10 = .ok (.aload_n 0, 1) := by decide +kernel
theorem dX6_greatestEnvy_11 : decode cX6_greatestEnvy 11 = .ok (.iconst 0, 1) := by decide +kernel
theorem dX6_greatestEnvy_12 : decode cX6_greatestEnvy 12 = .ok (.iload_n 1, 1) := by decide +kernel
theorem dX6_greatestEnvy_13 : decode cX6_greatestEnvy 13 = .ok (.iload_n 3, 1) := by decide +kernel
theorem dX6_greatestEnvy_14 : decode cX6_greatestEnvy 14 = .ok (.invokevirtual 47, 3) := by decide +kernel
theorem dX6_greatestEnvy_17 : decode cX6_greatestEnvy 17 = .ok (.istore 4, 2) := by decide +kernel
theorem dX6_greatestEnvy_19 : decode cX6_greatestEnvy 19 = .ok (.iload 4, 2) := by decide +kernel
theorem dX6_greatestEnvy_21 : decode cX6_greatestEnvy 21 = .ok (.iload_n 2, 1) := by decide +kernel
theorem dX6_greatestEnvy_22 : decode cX6_greatestEnvy 22 = .ok (.if_icmp .le 8, 3) := by decide +kernel
theorem dX6_greatestEnvy_25 : decode cX6_greatestEnvy 25 = .ok (.iload 4, 2) := by decide +kernel
theorem dX6_greatestEnvy_27 : decode cX6_greatestEnvy 27 = .ok (.goto 4, 3) := by decide +kernel
theorem dX6_greatestEnvy_30 : decode cX6_greatestEnvy 30 = .ok (.iload_n 2, 1) := by decide +kernel
theorem dX6_greatestEnvy_31 : decode cX6_greatestEnvy 31 = .ok (.istore_n 2, 1) := by decide +kernel
theorem dX6_greatestEnvy_32 : decode cX6_greatestEnvy 32 = .ok (.iinc 3 1, 3) := by decide +kernel
theorem dX6_greatestEnvy_35 : decode cX6_greatestEnvy 35 = .ok (.goto (-31), 3) := by decide +kernel
theorem dX6_greatestEnvy_38 : decode cX6_greatestEnvy 38 = .ok (.iload_n 2, 1) := by decide +kernel
theorem dX6_greatestEnvy_39 : decode cX6_greatestEnvy 39 = .ok (.ireturn, 1) := by decide +kernel
set_option maxRecDepth 20000 in
theorem ggX6_cousin_X6_isCousin : GoodIn wsX6_cousin wsX6_isCousin := goodIn_r _ [5, 6, 7, 4, 8] rfl (by decide +kernel)
set_option maxRecDepth 20000 in
theorem gX6_cousin_X6_isCousin : GoodIn wsX6_cousin (va_wsS RX6 112 yX6_isCousin wsX6_isCousin) := goodIn_app (goodIn_of _ (by decide +kernel)) ggX6_cousin_X6_isCousin
set_option maxRecDepth 20000 in
theorem ggX6_cousin_X6_plotsOf : GoodIn wsX6_cousin wsX6_plotsOf := goodIn_r _ [12, 1, 61, 62, 63, 64, 65, 66, 67, 68, 69] rfl (by decide +kernel)
set_option maxRecDepth 20000 in
theorem gX6_cousin_X6_plotsOf : GoodIn wsX6_cousin (wsV RX6 158 RX6 yX6_plotsOf wsX6_plotsOf) := goodIn_app (goodIn_of _ (by decide +kernel)) ggX6_cousin_X6_plotsOf
set_option maxRecDepth 20000 in
theorem ggX6_cousin_X6_share : GoodIn wsX6_cousin wsX6_share := goodIn_r _ [16, 1, 17, 18, 19, 4, 20, 61, 62, 63, 64, 65, 66, 67, 68, 69] rfl (by decide +kernel)
set_option maxRecDepth 20000 in
theorem gX6_cousin_X6_share : GoodIn wsX6_cousin (wsV RX6 37 RX6 yX6_share wsX6_share) := goodIn_app (goodIn_of _ (by decide +kernel)) ggX6_cousin_X6_share
set_option maxRecDepth 20000 in
theorem ggX6_cousin_X6_worthFrom : GoodIn wsX6_cousin wsX6_worthFrom := goodIn_r _ [24, 17, 18, 19, 4, 20, 1, 61, 62, 63, 64, 65, 66, 67, 68, 69] rfl (by decide +kernel)
set_option maxRecDepth 20000 in
theorem gX6_cousin_X6_worthFrom : GoodIn wsX6_cousin (wsV RX6 64 RX6 yX6_worthFrom wsX6_worthFrom) := goodIn_app (goodIn_of _ (by decide +kernel)) ggX6_cousin_X6_worthFrom
set_option maxRecDepth 20000 in
theorem ggX6_cousin_X6_hundredths : GoodIn wsX6_cousin wsX6_hundredths := goodIn_r _ [28, 21, 22, 23, 4, 24, 17, 18, 19, 20, 1, 13, 14, 15, 16, 61, 62, 63, 64, 65, 66, 67, 68, 69] rfl (by decide +kernel)
set_option maxRecDepth 20000 in
theorem gX6_cousin_X6_hundredths : GoodIn wsX6_cousin (wsV RX6 161 RX6 yX6_hundredths wsX6_hundredths) := goodIn_app (goodIn_of _ (by decide +kernel)) ggX6_cousin_X6_hundredths
set_option maxRecDepth 20000 in
theorem ggX6_cousin_X6_grudges : GoodIn wsX6_cousin wsX6_grudges := goodIn_r _ [32, 33, 34, 35, 4, 36, 1, 61, 62, 63, 64, 65, 66, 67, 68, 69] rfl (by decide +kernel)
set_option maxRecDepth 20000 in
theorem gX6_cousin_X6_grudges : GoodIn wsX6_cousin (wsV RX6 53 RX6 yX6_grudges wsX6_grudges) := goodIn_app (goodIn_of _ (by decide +kernel)) ggX6_cousin_X6_grudges
set_option maxRecDepth 20000 in
theorem ggX6_cousin_X6_envies : GoodIn wsX6_cousin wsX6_envies := goodIn_r _ [40, 41, 42, 43, 4, 44, 45, 46, 47, 48, 13, 14, 15, 16, 1, 17, 18, 19, 20, 33, 34, 35, 36, 61, 62, 63, 64, 65, 66, 67, 68, 69] rfl (by decide +kernel)
set_option maxRecDepth 20000 in
theorem gX6_cousin_X6_envies : GoodIn wsX6_cousin (wsV RX6 50 RX6 yX6_envies wsX6_envies) := goodIn_app (goodIn_of _ (by decide +kernel)) ggX6_cousin_X6_envies
set_option maxRecDepth 20000 in
theorem ggX6_cousin_X6_greatestEnvy : GoodIn wsX6_cousin wsX6_greatestEnvy := goodIn_r _ [52, 41, 42, 43, 4, 44, 45, 46, 47, 48, 13, 14, 15, 16, 1, 17, 18, 19, 20, 33, 34, 35, 36, 61, 62, 63, 64, 65, 66, 67, 68, 69] rfl (by decide +kernel)
set_option maxRecDepth 20000 in
theorem gX6_cousin_X6_greatestEnvy : GoodIn wsX6_cousin (wsV RX6 164 RX6 yX6_greatestEnvy wsX6_greatestEnvy) := goodIn_app (goodIn_of _ (by decide +kernel)) ggX6_cousin_X6_greatestEnvy
set_option maxRecDepth 20000 in
theorem ggX6_cousin_X6_placeOf : GoodIn wsX6_cousin wsX6_placeOf := goodIn_r _ [56, 57, 58, 59, 4, 60, 1, 29, 30, 31, 32, 33, 34, 35, 36, 61, 62, 63, 64, 65, 66, 67, 68, 69] rfl (by decide +kernel)
set_option maxRecDepth 20000 in
theorem gX6_cousin_X6_placeOf : GoodIn wsX6_cousin (wsV RX6 61 RX6 yX6_placeOf wsX6_placeOf) := goodIn_app (goodIn_of _ (by decide +kernel)) ggX6_cousin_X6_placeOf
theorem dX6_cousin_0 : decode cX6_cousin 0 = .ok (.iload_n 1, 1) := by decide +kernel
theorem dX6_cousin_1 : decode cX6_cousin 1 = .ok (.invokestatic 112, 3) := by decide +kernel
theorem dX6_cousin_4 : decode cX6_cousin 4 = .ok (.ifCond .ne 5, 3) := by decide +kernel
theorem dX6_cousin_7 : decode cX6_cousin 7 = .ok (.iconst (-1), 1) := by decide +kernel
theorem dX6_cousin_8 : decode cX6_cousin 8 = .ok (.ireturn, 1) := by decide +kernel
theorem dX6_cousin_9 : decode cX6_cousin 9 = .ok (.iload_n 2, 1) := by decide +kernel
theorem dX6_cousin_10 : decode cX6_cousin 10 = .ok (.tableswitch 147 0 12 #[66, 66, 66, 66, 80, 86, 94, 101, 107, 113, 124, 130, 141], 66) := by decide +kernel
theorem dX6_cousin_76 : decode cX6_cousin 76 = .ok (.aload_n 0, 1) := by decide +kernel
theorem dX6_cousin_77 : decode cX6_cousin 77 = .ok (.getfield 7, 3) := by decide +kernel
theorem dX6_cousin_80 : decode cX6_cousin 80 = .ok (.bipush 120, 2) := by decide +kernel
theorem dX6_cousin_82 : decode cX6_cousin 82 = .ok (.iconst 4, 1) := by decide +kernel
theorem dX6_cousin_83 : decode cX6_cousin 83 = .ok (.iload_n 1, 1) := by decide +kernel
theorem dX6_cousin_84 : decode cX6_cousin 84 = .ok (.imul, 1) := by decide +kernel
theorem dX6_cousin_85 : decode cX6_cousin 85 = .ok (.iadd, 1) := by decide +kernel
theorem dX6_cousin_86 : decode cX6_cousin 86 = .ok (.iload_n 2, 1) := by decide +kernel
theorem dX6_cousin_87 : decode cX6_cousin 87 = .ok (.iadd, 1) := by decide +kernel
theorem dX6_cousin_88 : decode cX6_cousin 88 = .ok (.iaload, 1) := by decide +kernel
theorem dX6_cousin_89 : decode cX6_cousin 89 = .ok (.ireturn, 1) := by decide +kernel
theorem dX6_cousin_90 : decode cX6_cousin 90 = .ok (.aload_n 0, 1) := by decide +kernel
theorem dX6_cousin_91 : decode cX6_cousin 91 = .ok (.iload_n 1, 1) := by decide +kernel
theorem dX6_cousin_92 : decode cX6_cousin 92 = .ok (.invokevirtual 158, 3) := by decide +kernel
theorem dX6_cousin_95 : decode cX6_cousin 95 = .ok (.ireturn, 1) := by decide +kernel
theorem dX6_cousin_96 : decode cX6_cousin 96 = .ok (.aload_n 0, 1) := by decide +kernel
theorem dX6_cousin_97 : decode cX6_cousin 97 = .ok (.iconst 0, 1) := by decide +kernel
theorem dX6_cousin_98 : decode cX6_cousin 98 = .ok (.iload_n 1, 1) := by decide +kernel
theorem dX6_cousin_99 : decode cX6_cousin 99 = .ok (.iload_n 1, 1) := by decide +kernel
theorem dX6_cousin_100 : decode cX6_cousin 100 = .ok (.invokevirtual 37, 3) := by decide +kernel
theorem dX6_cousin_103 : decode cX6_cousin 103 = .ok (.ireturn, 1) := by decide +kernel
theorem dX6_cousin_104 : decode cX6_cousin 104 = .ok (.aload_n 0, 1) := by decide +kernel
theorem dX6_cousin_105 : decode cX6_cousin 105 = .ok (.iload_n 1, 1) := by decide +kernel
theorem dX6_cousin_106 : decode cX6_cousin 106 = .ok (.iconst 0, 1) := by decide +kernel
theorem dX6_cousin_107 : decode cX6_cousin 107 = .ok (.invokevirtual 64, 3) := by decide +kernel
theorem dX6_cousin_110 : decode cX6_cousin 110 = .ok (.ireturn, 1) := by decide +kernel
theorem dX6_cousin_111 : decode cX6_cousin 111 = .ok (.aload_n 0, 1) := by decide +kernel
theorem dX6_cousin_112 : decode cX6_cousin 112 = .ok (.iload_n 1, 1) := by decide +kernel
theorem dX6_cousin_113 : decode cX6_cousin 113 = .ok (.invokevirtual 161, 3) := by decide +kernel
theorem dX6_cousin_116 : decode cX6_cousin 116 = .ok (.ireturn, 1) := by decide +kernel
theorem dX6_cousin_117 : decode cX6_cousin 117 = .ok (.aload_n 0, 1) := by decide +kernel
theorem dX6_cousin_118 : decode cX6_cousin 118 = .ok (.iload_n 1, 1) := by decide +kernel
theorem dX6_cousin_119 : decode cX6_cousin 119 = .ok (.invokevirtual 53, 3) := by decide +kernel
theorem dX6_cousin_122 : decode cX6_cousin 122 = .ok (.ireturn, 1) := by decide +kernel
theorem dX6_cousin_123 : decode cX6_cousin 123 = .ok (.aload_n 0, 1) := by decide +kernel
theorem dX6_cousin_124 : decode cX6_cousin 124 = .ok (.iconst 0, 1) := by decide +kernel
theorem dX6_cousin_125 : decode cX6_cousin 125 = .ok (.iconst 1, 1) := by decide +kernel
theorem dX6_cousin_126 : decode cX6_cousin 126 = .ok (.iload_n 1, 1) := by decide +kernel
theorem dX6_cousin_127 : decode cX6_cousin 127 = .ok (.ishl, 1) := by decide +kernel
theorem dX6_cousin_128 : decode cX6_cousin 128 = .ok (.bipush 127, 2) := by decide +kernel
theorem dX6_cousin_130 : decode cX6_cousin 130 = .ok (.invokevirtual 50, 3) := by decide +kernel
theorem dX6_cousin_133 : decode cX6_cousin 133 = .ok (.ireturn, 1) := by decide +kernel
theorem dX6_cousin_134 : decode cX6_cousin 134 = .ok (.aload_n 0, 1) := by decide +kernel
theorem dX6_cousin_135 : decode cX6_cousin 135 = .ok (.iload_n 1, 1) := by decide +kernel
theorem dX6_cousin_136 : decode cX6_cousin 136 = .ok (.invokevirtual 164, 3) := by decide +kernel
theorem dX6_cousin_139 : decode cX6_cousin 139 = .ok (.ireturn, 1) := by decide +kernel
theorem dX6_cousin_140 : decode cX6_cousin 140 = .ok (.aload_n 0, 1) := by decide +kernel
theorem dX6_cousin_141 : decode cX6_cousin 141 = .ok (.iconst 0, 1) := by decide +kernel
theorem dX6_cousin_142 : decode cX6_cousin 142 = .ok (.bipush 127, 2) := by decide +kernel
theorem dX6_cousin_144 : decode cX6_cousin 144 = .ok (.iconst 1, 1) := by decide +kernel
theorem dX6_cousin_145 : decode cX6_cousin 145 = .ok (.iload_n 1, 1) := by decide +kernel
theorem dX6_cousin_146 : decode cX6_cousin 146 = .ok (.ishl, 1) := by decide +kernel
theorem dX6_cousin_147 : decode cX6_cousin 147 = .ok (.invokevirtual 50, 3) := by decide +kernel
theorem dX6_cousin_150 : decode cX6_cousin 150 = .ok (.ireturn, 1) := by decide +kernel
theorem dX6_cousin_151 : decode cX6_cousin 151 = .ok (.aload_n 0, 1) := by decide +kernel
theorem dX6_cousin_152 : decode cX6_cousin 152 = .ok (.iload_n 1, 1) := by decide +kernel
theorem dX6_cousin_153 : decode cX6_cousin 153 = .ok (.invokevirtual 61, 3) := by decide +kernel
theorem dX6_cousin_156 : decode cX6_cousin 156 = .ok (.ireturn, 1) := by decide +kernel
theorem dX6_cousin_157 : decode cX6_cousin 157 = .ok (.bipush (-2), 2) := by decide +kernel
theorem dX6_cousin_159 : decode cX6_cousin 159 = .ok (.ireturn, 1) := by decide +kernel
set_option maxRecDepth 20000 in
theorem ggX6_pair_X6_isCousin : GoodIn wsX6_pair wsX6_isCousin := goodIn_r _ [4, 5, 6, 3, 7] rfl (by decide +kernel)
set_option maxRecDepth 20000 in
theorem gX6_pair_X6_isCousin : GoodIn wsX6_pair (va_wsS RX6 112 yX6_isCousin wsX6_isCousin) := goodIn_app (goodIn_of _ (by decide +kernel)) ggX6_pair_X6_isCousin
set_option maxRecDepth 20000 in
theorem ggX6_pair_X6_in : GoodIn wsX6_pair wsX6_in := goodIn_r _ [7] rfl (by decide +kernel)
set_option maxRecDepth 20000 in
theorem gX6_pair_X6_in : GoodIn wsX6_pair (va_wsS RX6 25 yX6_in wsX6_in) := goodIn_app (goodIn_of _ (by decide +kernel)) ggX6_pair_X6_in
set_option maxRecDepth 20000 in
theorem ggX6_pair_X6_grudgeOf : GoodIn wsX6_pair wsX6_grudgeOf := goodIn_r _ [11, 12, 33, 34, 35, 36, 37, 38, 39, 40, 41] rfl (by decide +kernel)
set_option maxRecDepth 20000 in
theorem gX6_pair_X6_grudgeOf : GoodIn wsX6_pair (wsV RX6 41 RX6 yX6_grudgeOf wsX6_grudgeOf) := goodIn_app (goodIn_of _ (by decide +kernel)) ggX6_pair_X6_grudgeOf
set_option maxRecDepth 20000 in
theorem ggX6_pair_X6_share : GoodIn wsX6_pair wsX6_share := goodIn_r _ [16, 12, 17, 18, 19, 3, 20, 33, 34, 35, 36, 37, 38, 39, 40, 41] rfl (by decide +kernel)
set_option maxRecDepth 20000 in
theorem gX6_pair_X6_share : GoodIn wsX6_pair (wsV RX6 37 RX6 yX6_share wsX6_share) := goodIn_app (goodIn_of _ (by decide +kernel)) ggX6_pair_X6_share
set_option maxRecDepth 20000 in
theorem ggX6_pair_X6_seems : GoodIn wsX6_pair wsX6_seems := goodIn_r _ [24, 13, 14, 15, 3, 16, 12, 17, 18, 19, 20, 8, 9, 10, 11, 33, 34, 35, 36, 37, 38, 39, 40, 41] rfl (by decide +kernel)
set_option maxRecDepth 20000 in
theorem gX6_pair_X6_seems : GoodIn wsX6_pair (wsV RX6 44 RX6 yX6_seems wsX6_seems) := goodIn_app (goodIn_of _ (by decide +kernel)) ggX6_pair_X6_seems
set_option maxRecDepth 20000 in
theorem ggX6_pair_X6_envy : GoodIn wsX6_pair wsX6_envy := goodIn_r _ [28, 21, 22, 23, 3, 24, 13, 14, 15, 16, 12, 17, 18, 19, 20, 8, 9, 10, 11, 33, 34, 35, 36, 37, 38, 39, 40, 41] rfl (by decide +kernel)
set_option maxRecDepth 20000 in
theorem gX6_pair_X6_envy : GoodIn wsX6_pair (wsV RX6 47 RX6 yX6_envy wsX6_envy) := goodIn_app (goodIn_of _ (by decide +kernel)) ggX6_pair_X6_envy
set_option maxRecDepth 20000 in
theorem ggX6_pair_X6_reason : GoodIn wsX6_pair wsX6_reason := goodIn_r _ [32, 12, 8, 9, 10, 3, 11, 13, 14, 15, 16, 17, 18, 19, 20, 33, 34, 35, 36, 37, 38, 39, 40, 41] rfl (by decide +kernel)
set_option maxRecDepth 20000 in
theorem gX6_pair_X6_reason : GoodIn wsX6_pair (wsV RX6 86 RX6 yX6_reason wsX6_reason) := goodIn_app (goodIn_of _ (by decide +kernel)) ggX6_pair_X6_reason
theorem dX6_pair_0 : decode cX6_pair 0 = .ok (.iload_n 1, 1) := by decide +kernel
theorem dX6_pair_1 : decode cX6_pair 1 = .ok (.invokestatic 112, 3) := by decide +kernel
theorem dX6_pair_4 : decode cX6_pair 4 = .ok (.ifCond .eq 10, 3) := by decide +kernel
theorem dX6_pair_7 : decode cX6_pair 7 = .ok (.iload_n 2, 1) := by decide +kernel
theorem dX6_pair_8 : decode cX6_pair 8 = .ok (.invokestatic 112, 3) := by decide +kernel
theorem dX6_pair_11 : decode cX6_pair 11 = .ok (.ifCond .ne 5, 3) := by decide +kernel
theorem dX6_pair_14 : decode cX6_pair 14 = .ok (.iconst (-1), 1) := by decide +kernel
theorem dX6_pair_15 : decode cX6_pair 15 = .ok (.ireturn, 1) := by decide +kernel
theorem dX6_pair_16 : decode cX6_pair 16 = .ok (.iload_n 1, 1) := by decide +kernel
theorem dX6_pair_17 : decode cX6_pair 17 = .ok (.iload_n 2, 1) := by decide +kernel
theorem dX6_pair_18 : decode cX6_pair 18 = .ok (.if_icmp .eq 12, 3) := by decide +kernel
theorem dX6_pair_21 : decode cX6_pair 21 = .ok (.iload_n 3, 1) := by decide +kernel
theorem dX6_pair_22 : decode cX6_pair 22 = .ok (.iconst 0, 1) := by decide +kernel
theorem dX6_pair_23 : decode cX6_pair 23 = .ok (.iconst 4, 1) := by decide +kernel
theorem dX6_pair_24 : decode cX6_pair 24 = .ok (.invokestatic 25, 3) := by decide +kernel
theorem dX6_pair_27 : decode cX6_pair 27 = .ok (.ifCond .ne 6, 3) := by decide +kernel
theorem dX6_pair_30 : decode cX6_pair 30 = .ok (.bipush (-2), 2) := by decide +kernel
theorem dX6_pair_32 : decode cX6_pair 32 = .ok (.ireturn, 1) := by decide +kernel
theorem dX6_pair_33 : decode cX6_pair 33 = .ok (.iload_n 3, 1) := by decide +kernel
theorem dX6_pair_34 : decode cX6_pair 34 = .ok (.tableswitch 61 0 3 #[30, 37, 45, 53], 30) := by decide +kernel
theorem dX6_pair_64 : decode cX6_pair 64 = .ok (.aload_n 0, 1) := by decide +kernel
theorem dX6_pair_65 : decode cX6_pair 65 = .ok (.iload_n 1, 1) := by decide +kernel
theorem dX6_pair_66 : decode cX6_pair 66 = .ok (.iload_n 2, 1) := by decide +kernel
theorem dX6_pair_67 : decode cX6_pair 67 = .ok (.invokevirtual 41, 3) := by decide +kernel
theorem dX6_pair_70 : decode cX6_pair 70 = .ok (.ireturn, 1) := by decide +kernel
theorem dX6_pair_71 : decode cX6_pair 71 = .ok (.aload_n 0, 1) := by decide +kernel
theorem dX6_pair_72 : decode cX6_pair 72 = .ok (.iconst 0, 1) := by decide +kernel
theorem dX6_pair_73 : decode cX6_pair 73 = .ok (.iload_n 1, 1) := by decide +kernel
theorem dX6_pair_74 : decode cX6_pair 74 = .ok (.iload_n 2, 1) := by decide +kernel
theorem dX6_pair_75 : decode cX6_pair 75 = .ok (.invokevirtual 37, 3) := by decide +kernel
theorem dX6_pair_78 : decode cX6_pair 78 = .ok (.ireturn, 1) := by decide +kernel
theorem dX6_pair_79 : decode cX6_pair 79 = .ok (.aload_n 0, 1) := by decide +kernel
theorem dX6_pair_80 : decode cX6_pair 80 = .ok (.iconst 0, 1) := by decide +kernel
theorem dX6_pair_81 : decode cX6_pair 81 = .ok (.iload_n 1, 1) := by decide +kernel
theorem dX6_pair_82 : decode cX6_pair 82 = .ok (.iload_n 2, 1) := by decide +kernel
theorem dX6_pair_83 : decode cX6_pair 83 = .ok (.invokevirtual 44, 3) := by decide +kernel
theorem dX6_pair_86 : decode cX6_pair 86 = .ok (.ireturn, 1) := by decide +kernel
theorem dX6_pair_87 : decode cX6_pair 87 = .ok (.aload_n 0, 1) := by decide +kernel
theorem dX6_pair_88 : decode cX6_pair 88 = .ok (.iconst 0, 1) := by decide +kernel
theorem dX6_pair_89 : decode cX6_pair 89 = .ok (.iload_n 1, 1) := by decide +kernel
theorem dX6_pair_90 : decode cX6_pair 90 = .ok (.iload_n 2, 1) := by decide +kernel
theorem dX6_pair_91 : decode cX6_pair 91 = .ok (.invokevirtual 47, 3) := by decide +kernel
theorem dX6_pair_94 : decode cX6_pair 94 = .ok (.ireturn, 1) := by decide +kernel
theorem dX6_pair_95 : decode cX6_pair 95 = .ok (.aload_n 0, 1) := by decide +kernel
theorem dX6_pair_96 : decode cX6_pair 96 = .ok (.iconst 0, 1) := by decide +kernel
theorem dX6_pair_97 : decode cX6_pair 97 = .ok (.iload_n 1, 1) := by decide +kernel
theorem dX6_pair_98 : decode cX6_pair 98 = .ok (.iload_n 2, 1) := by decide +kernel
theorem dX6_pair_99 : decode cX6_pair 99 = .ok (.invokevirtual 86, 3) := by decide +kernel
theorem dX6_pair_102 : decode cX6_pair 102 = .ok (.ireturn, 1) := by decide +kernel
set_option maxRecDepth 20000 in
theorem ggX6_content_X6_greatestEnvy : GoodIn wsX6_content wsX6_greatestEnvy := goodIn_r _ [5, 6, 7, 8, 4, 9, 10, 11, 12, 13, 14, 15, 16, 17, 18, 19, 20, 21, 22, 23, 24, 25, 26, 27, 28, 29, 30, 31, 32, 33, 34, 35] rfl (by decide +kernel)
set_option maxRecDepth 20000 in
theorem gX6_content_X6_greatestEnvy : GoodIn wsX6_content (wsV RX6 164 RX6 yX6_greatestEnvy wsX6_greatestEnvy) := goodIn_app (goodIn_of _ (by decide +kernel)) ggX6_content_X6_greatestEnvy
theorem dX6_content_0 : decode cX6_content 0 = .ok (.iconst 0, 1) := by decide +kernel
theorem dX6_content_1 : decode cX6_content 1 = .ok (.istore_n 1, 1) := by decide +kernel
theorem dX6_content_2 : decode cX6_content 2 = .ok (.iconst 0, 1) := by decide +kernel
theorem dX6_content_3 : decode cX6_content 3 = .ok (.istore_n 2, 1) := by decide +kernel
theorem dX6_content_4 : decode cX6_content 4 = .ok (.iload_n 2, 1) := by decide +kernel
theorem dX6_content_5 : decode cX6_content 5 = .ok (.bipush 7, 2) := by decide +kernel
theorem dX6_content_7 : decode cX6_content 7 = .ok (.if_icmp .ge 25, 3) := by decide +kernel
theorem dX6_content_10 : decode cX6_content 10 = .ok (.iload_n 1, 1) := by decide +kernel
theorem dX6_content_11 : decode cX6_content 11 = .ok (.aload_n 0, 1) := by decide +kernel
theorem dX6_content_12 : decode cX6_content 12 = .ok (.iload_n 2, 1) := by decide +kernel
theorem dX6_content_13 : decode cX6_content 13 = .ok (.invokevirtual 164, 3) := by decide +kernel
theorem dX6_content_16 : decode cX6_content 16 = .ok (.ifCond .ne 7, 3) := by decide +kernel
theorem dX6_content_19 : decode cX6_content 19 = .ok (.iconst 1, 1) := by decide +kernel
theorem dX6_content_20 : decode cX6_content 20 = .ok (.goto 4, 3) := by decide +kernel
theorem dX6_content_23 : decode cX6_content 23 = .ok (.iconst 0, 1) := by decide +kernel
theorem dX6_content_24 : decode cX6_content 24 = .ok (.iadd, 1) := by decide +kernel
theorem dX6_content_25 : decode cX6_content 25 = .ok (.istore_n 1, 1) := by decide +kernel
theorem dX6_content_26 : decode cX6_content 26 = .ok (.iinc 2 1, 3) := by decide +kernel
theorem dX6_content_29 : decode cX6_content 29 = .ok (.goto (-25), 3) := by decide +kernel
theorem dX6_content_32 : decode cX6_content 32 = .ok (.iload_n 1, 1) := by decide +kernel
theorem dX6_content_33 : decode cX6_content 33 = .ok (.ireturn, 1) := by decide +kernel
set_option maxRecDepth 20000 in
theorem ggX6_traders_X6_reason : GoodIn wsX6_traders wsX6_reason := goodIn_r _ [5, 6, 7, 8, 9, 4, 10, 11, 12, 13, 14, 15, 16, 17, 18, 19, 20, 21, 22, 23, 24, 25, 26, 27] rfl (by decide +kernel)
set_option maxRecDepth 20000 in
theorem gX6_traders_X6_reason : GoodIn wsX6_traders (wsV RX6 86 RX6 yX6_reason wsX6_reason) := goodIn_app (goodIn_of _ (by decide +kernel)) ggX6_traders_X6_reason
theorem dX6_traders_0 : decode cX6_traders 0 = .ok (.iconst 0, 1) := by decide +kernel
theorem dX6_traders_1 : decode cX6_traders 1 = .ok (.istore_n 1, 1) := by decide +kernel
theorem dX6_traders_2 : decode cX6_traders 2 = .ok (.iconst 0, 1) := by decide +kernel
theorem dX6_traders_3 : decode cX6_traders 3 = .ok (.istore_n 2, 1) := by decide +kernel
theorem dX6_traders_4 : decode cX6_traders 4 = .ok (.iload_n 2, 1) := by decide +kernel
theorem dX6_traders_5 : decode cX6_traders 5 = .ok (.bipush 49, 2) := by decide +kernel
theorem dX6_traders_7 : decode cX6_traders 7 = .ok (.if_icmp .ge 44, 3) := by decide +kernel
theorem dX6_traders_10 : decode cX6_traders 10 = .ok (.iload_n 1, 1) := by decide +kernel
theorem dX6_traders_11 : decode cX6_traders 11 = .ok (.iload_n 2, 1) := by decide +kernel
theorem dX6_traders_12 : decode cX6_traders 12 = .ok (.bipush 7, 2) := by decide +kernel
theorem dX6_traders_14 : decode cX6_traders 14 = .ok (.idiv, 1) := by decide +kernel
theorem dX6_traders_15 : decode cX6_traders 15 = .ok (.iload_n 2, 1) := by decide +kernel
theorem dX6_traders_16 : decode cX6_traders 16 = .ok (.bipush 7, 2) := by decide +kernel
theorem dX6_traders_18 : decode cX6_traders 18 = .ok (.irem, 1) := by decide +kernel
theorem dX6_traders_19 : decode cX6_traders 19 = .ok (.if_icmp .ge 23, 3) := by decide +kernel
theorem dX6_traders_22 : decode cX6_traders 22 = .ok (.aload_n 0, 1) := by decide +kernel
theorem dX6_traders_23 : decode cX6_traders 23 = .ok (.iconst 0, 1) := by decide +kernel
theorem dX6_traders_24 : decode cX6_traders 24 = .ok (.iload_n 2, 1) := by decide +kernel
theorem dX6_traders_25 : decode cX6_traders 25 = .ok (.bipush 7, 2) := by decide +kernel
theorem dX6_traders_27 : decode cX6_traders 27 = .ok (.idiv, 1) := by decide +kernel
theorem dX6_traders_28 : decode cX6_traders 28 = .ok (.iload_n 2, 1) := by decide +kernel
theorem dX6_traders_29 : decode cX6_traders 29 = .ok (.bipush 7, 2) := by decide +kernel
theorem dX6_traders_31 : decode cX6_traders 31 = .ok (.irem, 1) := by decide +kernel
theorem dX6_traders_32 : decode cX6_traders 32 = .ok (.invokevirtual 86, 3) := by decide +kernel
theorem dX6_traders_35 : decode cX6_traders 35 = .ok (.ifCond .ne 7, 3) := by decide +kernel
theorem dX6_traders_38 : decode cX6_traders 38 = .ok (.iconst 1, 1) := by decide +kernel
theorem dX6_traders_39 : decode cX6_traders 39 = .ok (.goto 4, 3) := by decide +kernel
theorem dX6_traders_42 : decode cX6_traders 42 = .ok (.iconst 0, 1) := by decide +kernel
theorem dX6_traders_43 : decode cX6_traders 43 = .ok (.iadd, 1) := by decide +kernel
theorem dX6_traders_44 : decode cX6_traders 44 = .ok (.istore_n 1, 1) := by decide +kernel
theorem dX6_traders_45 : decode cX6_traders 45 = .ok (.iinc 2 1, 3) := by decide +kernel
theorem dX6_traders_48 : decode cX6_traders 48 = .ok (.goto (-44), 3) := by decide +kernel
theorem dX6_traders_51 : decode cX6_traders 51 = .ok (.iload_n 1, 1) := by decide +kernel
theorem dX6_traders_52 : decode cX6_traders 52 = .ok (.ireturn, 1) := by decide +kernel
set_option maxRecDepth 20000 in
theorem ggX6_total_X6_plotsOf : GoodIn wsX6_total wsX6_plotsOf := goodIn_r _ [8, 1, 53, 54, 55, 56, 57, 58, 59, 60, 61] rfl (by decide +kernel)
set_option maxRecDepth 20000 in
theorem gX6_total_X6_plotsOf : GoodIn wsX6_total (wsV RX6 158 RX6 yX6_plotsOf wsX6_plotsOf) := goodIn_app (goodIn_of _ (by decide +kernel)) ggX6_total_X6_plotsOf
set_option maxRecDepth 20000 in
theorem ggX6_total_X6_allEnvies : GoodIn wsX6_total wsX6_allEnvies := goodIn_r _ [12, 13, 14, 15, 7, 16, 17, 18, 19, 20, 21, 22, 23, 24, 25, 26, 27, 28, 1, 29, 30, 31, 32, 33, 34, 35, 36, 53, 54, 55, 56, 57, 58, 59, 60, 61] rfl (by decide +kernel)
set_option maxRecDepth 20000 in
theorem gX6_total_X6_allEnvies : GoodIn wsX6_total (wsV RX6 93 RX6 yX6_allEnvies wsX6_allEnvies) := goodIn_app (goodIn_of _ (by decide +kernel)) ggX6_total_X6_allEnvies
set_option maxRecDepth 20000 in
theorem ggX6_total_X6_content : GoodIn wsX6_total wsX6_content := goodIn_r _ [40, 41, 42, 43, 7, 44, 17, 18, 19, 20, 21, 22, 23, 24, 25, 26, 27, 28, 1, 29, 30, 31, 32, 33, 34, 35, 36, 53, 54, 55, 56, 57, 58, 59, 60, 61] rfl (by decide +kernel)
set_option maxRecDepth 20000 in
theorem gX6_total_X6_content : GoodIn wsX6_total (wsV RX6 167 RX6 yX6_content wsX6_content) := goodIn_app (goodIn_of _ (by decide +kernel)) ggX6_total_X6_content
set_option maxRecDepth 20000 in
theorem ggX6_total_X6_traders : GoodIn wsX6_total wsX6_traders := goodIn_r _ [48, 49, 50, 51, 7, 52, 1, 33, 34, 35, 36, 25, 26, 27, 28, 29, 30, 31, 32, 53, 54, 55, 56, 57, 58, 59, 60, 61] rfl (by decide +kernel)
set_option maxRecDepth 20000 in
theorem gX6_total_X6_traders : GoodIn wsX6_total (wsV RX6 170 RX6 yX6_traders wsX6_traders) := goodIn_app (goodIn_of _ (by decide +kernel)) ggX6_total_X6_traders
theorem dX6_total_0 : decode cX6_total 0 = .ok (.iload_n 1, 1) := by decide +kernel
theorem dX6_total_1 : decode cX6_total 1 = .ok (.tableswitch 117 0 10 #[59, 59, 70, 77, 83, 88, 93, 93, 93, 107, 112], 59) := by decide +kernel
theorem dX6_total_60 : decode cX6_total 60 = .ok (.aload_n 0, 1) := by decide +kernel
theorem dX6_total_61 : decode cX6_total 61 = .ok (.getfield 7, 3) := by decide +kernel
theorem dX6_total_64 : decode cX6_total 64 = .ok (.sipush 197, 3) := by decide +kernel
theorem dX6_total_67 : decode cX6_total 67 = .ok (.iload_n 1, 1) := by decide +kernel
theorem dX6_total_68 : decode cX6_total 68 = .ok (.iadd, 1) := by decide +kernel
theorem dX6_total_69 : decode cX6_total 69 = .ok (.iaload, 1) := by decide +kernel
theorem dX6_total_70 : decode cX6_total 70 = .ok (.ireturn, 1) := by decide +kernel
theorem dX6_total_71 : decode cX6_total 71 = .ok (.aload_n 0, 1) := by decide +kernel
theorem dX6_total_72 : decode cX6_total 72 = .ok (.bipush 7, 2) := by decide +kernel
theorem dX6_total_74 : decode cX6_total 74 = .ok (.invokevirtual 158, 3) := by decide +kernel
theorem dX6_total_77 : decode cX6_total 77 = .ok (.ireturn, 1) := by decide +kernel
theorem dX6_total_78 : decode cX6_total 78 = .ok (.aload_n 0, 1) := by decide +kernel
theorem dX6_total_79 : decode cX6_total 79 = .ok (.iconst 0, 1) := by decide +kernel
theorem dX6_total_80 : decode cX6_total 80 = .ok (.invokevirtual 93, 3) := by decide +kernel
theorem dX6_total_83 : decode cX6_total 83 = .ok (.ireturn, 1) := by decide +kernel
theorem dX6_total_84 : decode cX6_total 84 = .ok (.aload_n 0, 1) := by decide +kernel
theorem dX6_total_85 : decode cX6_total 85 = .ok (.invokevirtual 167, 3) := by decide +kernel
theorem dX6_total_88 : decode cX6_total 88 = .ok (.ireturn, 1) := by decide +kernel
theorem dX6_total_89 : decode cX6_total 89 = .ok (.aload_n 0, 1) := by decide +kernel
theorem dX6_total_90 : decode cX6_total 90 = .ok (.invokevirtual 170, 3) := by decide +kernel
theorem dX6_total_93 : decode cX6_total 93 = .ok (.ireturn, 1) := by decide +kernel
theorem dX6_total_94 : decode cX6_total 94 = .ok (.aload_n 0, 1) := by decide +kernel
theorem dX6_total_95 : decode cX6_total 95 = .ok (.getfield 7, 3) := by decide +kernel
theorem dX6_total_98 : decode cX6_total 98 = .ok (.sipush 199, 3) := by decide +kernel
theorem dX6_total_101 : decode cX6_total 101 = .ok (.iload_n 1, 1) := by decide +kernel
theorem dX6_total_102 : decode cX6_total 102 = .ok (.iadd, 1) := by decide +kernel
theorem dX6_total_103 : decode cX6_total 103 = .ok (.bipush 6, 2) := by decide +kernel
theorem dX6_total_105 : decode cX6_total 105 = .ok (.isub, 1) := by decide +kernel
theorem dX6_total_106 : decode cX6_total 106 = .ok (.iaload, 1) := by decide +kernel
theorem dX6_total_107 : decode cX6_total 107 = .ok (.ireturn, 1) := by decide +kernel
theorem dX6_total_108 : decode cX6_total 108 = .ok (.aload_n 0, 1) := by decide +kernel
theorem dX6_total_109 : decode cX6_total 109 = .ok (.getfield 29, 3) := by decide +kernel
theorem dX6_total_112 : decode cX6_total 112 = .ok (.ireturn, 1) := by decide +kernel
theorem dX6_total_113 : decode cX6_total 113 = .ok (.aload_n 0, 1) := by decide +kernel
theorem dX6_total_114 : decode cX6_total 114 = .ok (.getfield 121, 3) := by decide +kernel
theorem dX6_total_117 : decode cX6_total 117 = .ok (.ireturn, 1) := by decide +kernel
theorem dX6_total_118 : decode cX6_total 118 = .ok (.bipush (-2), 2) := by decide +kernel
theorem dX6_total_120 : decode cX6_total 120 = .ok (.ireturn, 1) := by decide +kernel
set_option maxRecDepth 20000 in
theorem ggX6_ifDivided_X6_in : GoodIn wsX6_ifDivided wsX6_in := goodIn_r _ [6] rfl (by decide +kernel)
set_option maxRecDepth 20000 in
theorem gX6_ifDivided_X6_in : GoodIn wsX6_ifDivided (va_wsS RX6 25 yX6_in wsX6_in) := goodIn_app (goodIn_of _ (by decide +kernel)) ggX6_ifDivided_X6_in
set_option maxRecDepth 20000 in
theorem ggX6_ifDivided_X6_copies : GoodIn wsX6_ifDivided wsX6_copies := goodIn_r _ [10, 1, 79, 80, 81, 82, 83, 84, 85, 86, 87] rfl (by decide +kernel)
set_option maxRecDepth 20000 in
theorem gX6_ifDivided_X6_copies : GoodIn wsX6_ifDivided (wsV RX6 173 RX6 yX6_copies wsX6_copies) := goodIn_app (goodIn_of _ (by decide +kernel)) ggX6_ifDivided_X6_copies
set_option maxRecDepth 20000 in
theorem ggX6_ifDivided_X6_divides : GoodIn wsX6_ifDivided wsX6_divides := goodIn_r _ [14, 1, 2, 15, 16, 17, 5, 18, 19, 20, 21, 22, 23, 24, 25, 26, 27, 28, 29, 30, 31, 32, 33, 34, 35, 36, 37, 38, 39, 40, 41, 42, 43, 44, 45, 46, 47, 48, 49, 50, 51, 52, 53, 54, 55, 56, 57, 58, 79, 80, 81, 82, 83, 84, 85, 86, 87] rfl (by decide +kernel)
set_option maxRecDepth 20000 in
theorem gX6_ifDivided_X6_divides : GoodIn wsX6_ifDivided (wsV RX6 115 RX6 yX6_divides wsX6_divides) := goodIn_app (goodIn_of _ (by decide +kernel)) ggX6_ifDivided_X6_divides
set_option maxRecDepth 20000 in
theorem ggX6_ifDivided_X6_allEnvies : GoodIn wsX6_ifDivided wsX6_allEnvies := goodIn_r _ [62, 63, 64, 65, 5, 66, 67, 68, 69, 70, 71, 72, 73, 74, 75, 76, 77, 78, 1, 51, 52, 53, 54, 32, 33, 34, 35, 79, 80, 81, 82, 83, 84, 85, 86, 87] rfl (by decide +kernel)
set_option maxRecDepth 20000 in
theorem gX6_ifDivided_X6_allEnvies : GoodIn wsX6_ifDivided (wsV RX6 93 RX6 yX6_allEnvies wsX6_allEnvies) := goodIn_app (goodIn_of _ (by decide +kernel)) ggX6_ifDivided_X6_allEnvies
theorem dX6_ifDivided_0 : decode cX6_ifDivided 0 = .ok (.iload_n 1, 1) := by decide +kernel
theorem dX6_ifDivided_1 : decode cX6_ifDivided 1 = .ok (.iconst 1, 1) := by decide +kernel
theorem dX6_ifDivided_2 : decode cX6_ifDivided 2 = .ok (.bipush 127, 2) := by decide +kernel
theorem dX6_ifDivided_4 : decode cX6_ifDivided 4 = .ok (.invokestatic 25, 3) := by decide +kernel
theorem dX6_ifDivided_7 : decode cX6_ifDivided 7 = .ok (.ifCond .eq 12, 3) := by decide +kernel
theorem dX6_ifDivided_10 : decode cX6_ifDivided 10 = .ok (.iload_n 2, 1) := by decide +kernel
theorem dX6_ifDivided_11 : decode cX6_ifDivided 11 = .ok (.iconst 0, 1) := by decide +kernel
theorem dX6_ifDivided_12 : decode cX6_ifDivided 12 = .ok (.iconst 4, 1) := by decide +kernel
theorem dX6_ifDivided_13 : decode cX6_ifDivided 13 = .ok (.invokestatic 25, 3) := by decide +kernel
theorem dX6_ifDivided_16 : decode cX6_ifDivided 16 = .ok (.ifCond .ne 6, 3) := by decide +kernel
theorem dX6_ifDivided_19 : decode cX6_ifDivided 19 = .ok (.bipush (-2), 2) := by decide +kernel
theorem dX6_ifDivided_21 : decode cX6_ifDivided 21 = .ok (.ireturn, 1) := by decide +kernel
theorem dX6_ifDivided_22 : decode cX6_ifDivided 22 = .ok (.aload_n 0, 1) := by decide +kernel
theorem dX6_ifDivided_23 : decode cX6_ifDivided 23 = .ok (.invokevirtual 173, 3) := by decide +kernel
theorem dX6_ifDivided_26 : decode cX6_ifDivided 26 = .ok (.aload_n 0, 1) := by decide +kernel
theorem dX6_ifDivided_27 : decode cX6_ifDivided 27 = .ok (.sipush 202, 3) := by decide +kernel
theorem dX6_ifDivided_30 : decode cX6_ifDivided 30 = .ok (.iload_n 1, 1) := by decide +kernel
theorem dX6_ifDivided_31 : decode cX6_ifDivided 31 = .ok (.invokevirtual 115, 3) := by decide +kernel
theorem dX6_ifDivided_34 : decode cX6_ifDivided 34 = .ok (.istore_n 3, 1) := by decide +kernel
theorem dX6_ifDivided_35 : decode cX6_ifDivided 35 = .ok (.iload_n 2, 1) := by decide +kernel
theorem dX6_ifDivided_36 : decode cX6_ifDivided 36 = .ok (.tableswitch 69 0 3 #[32, 34, 52, 60], 32) := by decide +kernel
theorem dX6_ifDivided_68 : decode cX6_ifDivided 68 = .ok (.iload_n 3, 1) := by decide +kernel
theorem dX6_ifDivided_69 : decode cX6_ifDivided 69 = .ok (.ireturn, 1) := by decide +kernel
theorem dX6_ifDivided_70 : decode cX6_ifDivided 70 = .ok (.aload_n 0, 1) := by decide +kernel
theorem dX6_ifDivided_71 : decode cX6_ifDivided 71 = .ok (.getfield 7, 3) := by decide +kernel
theorem dX6_ifDivided_74 : decode cX6_ifDivided 74 = .ok (.sipush 402, 3) := by decide +kernel
theorem dX6_ifDivided_77 : decode cX6_ifDivided 77 = .ok (.iaload, 1) := by decide +kernel
theorem dX6_ifDivided_78 : decode cX6_ifDivided 78 = .ok (.aload_n 0, 1) := by decide +kernel
theorem dX6_ifDivided_79 : decode cX6_ifDivided 79 = .ok (.getfield 7, 3) := by decide +kernel
theorem dX6_ifDivided_82 : decode cX6_ifDivided 82 = .ok (.sipush 200, 3) := by decide +kernel
theorem dX6_ifDivided_85 : decode cX6_ifDivided 85 = .ok (.iaload, 1) := by decide +kernel
theorem dX6_ifDivided_86 : decode cX6_ifDivided 86 = .ok (.isub, 1) := by decide +kernel
theorem dX6_ifDivided_87 : decode cX6_ifDivided 87 = .ok (.ireturn, 1) := by decide +kernel
theorem dX6_ifDivided_88 : decode cX6_ifDivided 88 = .ok (.aload_n 0, 1) := by decide +kernel
theorem dX6_ifDivided_89 : decode cX6_ifDivided 89 = .ok (.sipush 202, 3) := by decide +kernel
theorem dX6_ifDivided_92 : decode cX6_ifDivided 92 = .ok (.invokevirtual 93, 3) := by decide +kernel
theorem dX6_ifDivided_95 : decode cX6_ifDivided 95 = .ok (.ireturn, 1) := by decide +kernel
theorem dX6_ifDivided_96 : decode cX6_ifDivided 96 = .ok (.aload_n 0, 1) := by decide +kernel
theorem dX6_ifDivided_97 : decode cX6_ifDivided 97 = .ok (.getfield 7, 3) := by decide +kernel
theorem dX6_ifDivided_100 : decode cX6_ifDivided 100 = .ok (.sipush 298, 3) := by decide +kernel
theorem dX6_ifDivided_103 : decode cX6_ifDivided 103 = .ok (.iaload, 1) := by decide +kernel
theorem dX6_ifDivided_104 : decode cX6_ifDivided 104 = .ok (.ireturn, 1) := by decide +kernel
theorem dX6_ifDivided_105 : decode cX6_ifDivided 105 = .ok (.aload_n 0, 1) := by decide +kernel
theorem dX6_ifDivided_106 : decode cX6_ifDivided 106 = .ok (.getfield 83, 3) := by decide +kernel
theorem dX6_ifDivided_109 : decode cX6_ifDivided 109 = .ok (.ireturn, 1) := by decide +kernel
set_option maxRecDepth 20000 in
theorem ggX6_bestTrade_X6_in : GoodIn wsX6_bestTrade wsX6_in := goodIn_r _ [4] rfl (by decide +kernel)
set_option maxRecDepth 20000 in
theorem gX6_bestTrade_X6_in : GoodIn wsX6_bestTrade (va_wsS RX6 25 yX6_in wsX6_in) := goodIn_app (goodIn_of _ (by decide +kernel)) ggX6_bestTrade_X6_in
set_option maxRecDepth 20000 in
theorem ggX6_bestTrade_X6_best : GoodIn wsX6_bestTrade wsX6_best := goodIn_r _ [8, 9, 10, 11, 3, 12, 13, 14, 15, 16, 17, 18, 19, 20, 21, 22, 23, 24, 25, 26, 27, 28, 29, 30, 31, 32, 33, 34, 35, 36, 37, 38, 39, 40, 41, 42, 43, 44, 45, 50, 51, 52, 53, 54, 55, 56, 57, 58] rfl (by decide +kernel)
set_option maxRecDepth 20000 in
theorem gX6_bestTrade_X6_best : GoodIn wsX6_bestTrade (wsV RX6 96 RX6 yX6_best wsX6_best) := goodIn_app (goodIn_of _ (by decide +kernel)) ggX6_bestTrade_X6_best
set_option maxRecDepth 20000 in
theorem ggX6_bestTrade_X6_copies : GoodIn wsX6_bestTrade wsX6_copies := goodIn_r _ [49, 13, 50, 51, 52, 53, 54, 55, 56, 57, 58] rfl (by decide +kernel)
set_option maxRecDepth 20000 in
theorem gX6_bestTrade_X6_copies : GoodIn wsX6_bestTrade (wsV RX6 173 RX6 yX6_copies wsX6_copies) := goodIn_app (goodIn_of _ (by decide +kernel)) ggX6_bestTrade_X6_copies
set_option maxRecDepth 20000 in
theorem ggX6_bestTrade_X6_trades : GoodIn wsX6_bestTrade wsX6_trades := goodIn_r _ [29, 13, 50, 51, 52, 53, 54, 55, 56, 57, 58] rfl (by decide +kernel)
set_option maxRecDepth 20000 in
theorem gX6_bestTrade_X6_trades : GoodIn wsX6_bestTrade (wsV RX6 89 RX6 yX6_trades wsX6_trades) := goodIn_app (goodIn_of _ (by decide +kernel)) ggX6_bestTrade_X6_trades
set_option maxRecDepth 20000 in
theorem ggX6_bestTrade_X6_allEnvies : GoodIn wsX6_bestTrade wsX6_allEnvies := goodIn_r _ [33, 34, 35, 36, 3, 37, 38, 39, 40, 41, 42, 43, 44, 45, 18, 19, 20, 21, 13, 22, 23, 24, 25, 14, 15, 16, 17, 50, 51, 52, 53, 54, 55, 56, 57, 58] rfl (by decide +kernel)
set_option maxRecDepth 20000 in
theorem gX6_bestTrade_X6_allEnvies : GoodIn wsX6_bestTrade (wsV RX6 93 RX6 yX6_allEnvies wsX6_allEnvies) := goodIn_app (goodIn_of _ (by decide +kernel)) ggX6_bestTrade_X6_allEnvies
theorem dX6_bestTrade_0 : decode cX6_bestTrade 0 = .ok (.iload_n 1, 1) := by decide +kernel
theorem dX6_bestTrade_1 : decode cX6_bestTrade 1 = .ok (.iconst 0, 1) := by decide +kernel
theorem dX6_bestTrade_2 : decode cX6_bestTrade 2 = .ok (.iconst 1, 1) := by decide +kernel
theorem dX6_bestTrade_3 : decode cX6_bestTrade 3 = .ok (.invokestatic 25, 3) := by decide +kernel
theorem dX6_bestTrade_6 : decode cX6_bestTrade 6 = .ok (.ifCond .ne 6, 3) := by decide +kernel
theorem dX6_bestTrade_9 : decode cX6_bestTrade 9 = .ok (.bipush (-2), 2) := by decide +kernel
theorem dX6_bestTrade_11 : decode cX6_bestTrade 11 = .ok (.ireturn, 1) := by decide +kernel
theorem dX6_bestTrade_12 : decode cX6_bestTrade 12 = .ok (.aload_n 0, 1) := by decide +kernel
theorem dX6_bestTrade_13 : decode cX6_bestTrade 13 = .ok (.iconst 0, 1) := by decide +kernel
theorem dX6_bestTrade_14 : decode cX6_bestTrade 14 = .ok (.invokevirtual 96, 3) := by decide +kernel
theorem dX6_bestTrade_17 : decode cX6_bestTrade 17 = .ok (.istore_n 2, 1) := by decide +kernel
theorem dX6_bestTrade_18 : decode cX6_bestTrade 18 = .ok (.iload_n 2, 1) := by decide +kernel
theorem dX6_bestTrade_19 : decode cX6_bestTrade 19 = .ok (.bipush (-5), 2) := by decide +kernel
theorem dX6_bestTrade_21 : decode cX6_bestTrade 21 = .ok (.if_icmp .eq 7, 3) := by decide +kernel
theorem dX6_bestTrade_24 : decode cX6_bestTrade 24 = .ok (.iload_n 1, 1) := by decide +kernel
theorem dX6_bestTrade_25 : decode cX6_bestTrade 25 = .ok (.ifCond .ne 5, 3) := by decide +kernel
theorem dX6_bestTrade_28 : decode cX6_bestTrade 28 = .ok (.iload_n 2, 1) := by decide +kernel
theorem dX6_bestTrade_29 : decode cX6_bestTrade 29 = .ok (.ireturn, 1) := by decide +kernel
theorem dX6_bestTrade_30 : decode cX6_bestTrade 30 = .ok (.aload_n 0, 1) := by decide +kernel
theorem dX6_bestTrade_31 : decode cX6_bestTrade 31 = .ok (.invokevirtual 173, 3) := by decide +kernel
theorem dX6_bestTrade_34 : decode cX6_bestTrade 34 = .ok (.aload_n 0, 1) := by decide +kernel
theorem dX6_bestTrade_35 : decode cX6_bestTrade 35 = .ok (.sipush 202, 3) := by decide +kernel
theorem dX6_bestTrade_38 : decode cX6_bestTrade 38 = .ok (.iload_n 2, 1) := by decide +kernel
theorem dX6_bestTrade_39 : decode cX6_bestTrade 39 = .ok (.bipush 10, 2) := by decide +kernel
theorem dX6_bestTrade_41 : decode cX6_bestTrade 41 = .ok (.idiv, 1) := by decide +kernel
theorem dX6_bestTrade_42 : decode cX6_bestTrade 42 = .ok (.iload_n 2, 1) := by decide +kernel
theorem dX6_bestTrade_43 : decode cX6_bestTrade 43 = .ok (.bipush 10, 2) := by decide +kernel
theorem dX6_bestTrade_45 : decode cX6_bestTrade 45 = .ok (.irem, 1) := by decide +kernel
theorem dX6_bestTrade_46 : decode cX6_bestTrade 46 = .ok (.invokevirtual 89, 3) := by decide +kernel
theorem dX6_bestTrade_49 : decode cX6_bestTrade 49 = .ok (.aload_n 0, 1) := by decide +kernel
theorem dX6_bestTrade_50 : decode cX6_bestTrade 50 = .ok (.sipush 202, 3) := by decide +kernel
theorem dX6_bestTrade_53 : decode cX6_bestTrade 53 = .ok (.invokevirtual 93, 3) := by decide +kernel
theorem dX6_bestTrade_56 : decode cX6_bestTrade 56 = .ok (.ireturn, 1) := by decide +kernel
set_option maxRecDepth 20000 in
theorem ggX6_bestWithout_X6_in : GoodIn wsX6_bestWithout wsX6_in := goodIn_r _ [4] rfl (by decide +kernel)
set_option maxRecDepth 20000 in
theorem gX6_bestWithout_X6_in : GoodIn wsX6_bestWithout (va_wsS RX6 25 yX6_in wsX6_in) := goodIn_app (goodIn_of _ (by decide +kernel)) ggX6_bestWithout_X6_in
set_option maxRecDepth 20000 in
theorem ggX6_bestWithout_X6_copies : GoodIn wsX6_bestWithout wsX6_copies := goodIn_r _ [8, 9, 75, 76, 77, 78, 79, 80, 81, 82, 83] rfl (by decide +kernel)
set_option maxRecDepth 20000 in
theorem gX6_bestWithout_X6_copies : GoodIn wsX6_bestWithout (wsV RX6 173 RX6 yX6_copies wsX6_copies) := goodIn_app (goodIn_of _ (by decide +kernel)) ggX6_bestWithout_X6_copies
set_option maxRecDepth 20000 in
theorem ggX6_bestWithout_X6_divides : GoodIn wsX6_bestWithout wsX6_divides := goodIn_r _ [13, 9, 14, 15, 16, 17, 3, 18, 19, 20, 21, 22, 23, 24, 25, 26, 27, 28, 29, 30, 31, 32, 33, 34, 35, 36, 37, 38, 39, 40, 41, 42, 43, 44, 45, 46, 47, 48, 49, 50, 51, 52, 53, 54, 55, 56, 57, 58, 75, 76, 77, 78, 79, 80, 81, 82, 83] rfl (by decide +kernel)
set_option maxRecDepth 20000 in
theorem gX6_bestWithout_X6_divides : GoodIn wsX6_bestWithout (wsV RX6 115 RX6 yX6_divides wsX6_divides) := goodIn_app (goodIn_of _ (by decide +kernel)) ggX6_bestWithout_X6_divides
set_option maxRecDepth 20000 in
theorem ggX6_bestWithout_X6_envies : GoodIn wsX6_bestWithout wsX6_envies := goodIn_r _ [62, 63, 64, 65, 3, 66, 67, 68, 69, 70, 71, 72, 73, 74, 9, 51, 52, 53, 54, 32, 33, 34, 35, 75, 76, 77, 78, 79, 80, 81, 82, 83] rfl (by decide +kernel)
set_option maxRecDepth 20000 in
theorem gX6_bestWithout_X6_envies : GoodIn wsX6_bestWithout (wsV RX6 50 RX6 yX6_envies wsX6_envies) := goodIn_app (goodIn_of _ (by decide +kernel)) ggX6_bestWithout_X6_envies
theorem dX6_bestWithout_0 : decode cX6_bestWithout 0 = .ok (.iload_n 1, 1) := by decide +kernel
theorem dX6_bestWithout_1 : decode cX6_bestWithout 1 = .ok (.iconst 0, 1) := by decide +kernel
theorem dX6_bestWithout_2 : decode cX6_bestWithout 2 = .ok (.iconst 1, 1) := by decide +kernel
theorem dX6_bestWithout_3 : decode cX6_bestWithout 3 = .ok (.invokestatic 25, 3) := by decide +kernel
theorem dX6_bestWithout_6 : decode cX6_bestWithout 6 = .ok (.ifCond .ne 6, 3) := by decide +kernel
theorem dX6_bestWithout_9 : decode cX6_bestWithout 9 = .ok (.bipush (-2), 2) := by decide +kernel
theorem dX6_bestWithout_11 : decode cX6_bestWithout 11 = .ok (.ireturn, 1) := by decide +kernel
theorem dX6_bestWithout_12 : decode cX6_bestWithout 12 = .ok (.bipush (-5), 2) := by decide +kernel
theorem dX6_bestWithout_14 : decode cX6_bestWithout 14 = .ok (.istore_n 2, 1) := by decide +kernel
theorem dX6_bestWithout_15 : decode cX6_bestWithout 15 = .ok (.iconst 0, 1) := by decide +kernel
theorem dX6_bestWithout_16 : decode cX6_bestWithout 16 = .ok (.istore_n 3, 1) := by decide +kernel
theorem dX6_bestWithout_17 : decode cX6_bestWithout 17 = .ok (.iconst 0, 1) := by decide +kernel
theorem dX6_bestWithout_18 : decode cX6_bestWithout 18 = .ok (.istore 4, 2) := by decide +kernel
theorem dX6_bestWithout_20 : decode cX6_bestWithout 20 = .ok (.iload 4, 2) := by decide +kernel
theorem dX6_bestWithout_22 : decode cX6_bestWithout 22 = .ok (.bipush 7, 2) := by decide +kernel
theorem dX6_bestWithout_24 : decode cX6_bestWithout 24 = .ok (.if_icmp .ge 91, 3) := by decide +kernel
theorem dX6_bestWithout_27 : decode cX6_bestWithout 27 = .ok (.bipush 127, 2) := by decide +kernel
theorem dX6_bestWithout_29 : decode cX6_bestWithout 29 = .ok (.iconst 1, 1) := by decide +kernel
theorem dX6_bestWithout_30 : decode cX6_bestWithout 30 = .ok (.iload 4, 2) := by decide +kernel
theorem dX6_bestWithout_32 : decode cX6_bestWithout 32 = .ok (.ishl, 1) := by decide +kernel
theorem dX6_bestWithout_33 : decode cX6_bestWithout 33 = .ok (.iconst (-1), 1) := by decide +kernel
theorem dX6_bestWithout_34 : decode cX6_bestWithout 34 = .ok (.ixor, 1) := by decide +kernel
theorem dX6_bestWithout_35 : decode cX6_bestWithout 35 = .ok (.iand, 1) := by decide +kernel
theorem dX6_bestWithout_36 : decode cX6_bestWithout 36 = .ok (.istore 5, 2) := by decide +kernel
theorem dX6_bestWithout_38 : decode cX6_bestWithout 38 = .ok (.aload_n 0, 1) := by decide +kernel
theorem dX6_bestWithout_39 : decode cX6_bestWithout 39 = .ok (.invokevirtual 173, 3) := by decide +kernel
theorem dX6_bestWithout_42 : decode cX6_bestWithout 42 = .ok (.aload_n 0, 1) := by decide +kernel
theorem dX6_bestWithout_43 : decode cX6_bestWithout 43 = .ok (.sipush 202, 3) := by decide +kernel
theorem dX6_bestWithout_46 : decode cX6_bestWithout 46 = .ok (.iload 5, 2) := by decide +kernel
theorem dX6_bestWithout_48 : decode cX6_bestWithout 48 = .ok (.invokevirtual 115, 3) := by decide +kernel
theorem dX6_bestWithout_51 : decode cX6_bestWithout 51 = .ok (.istore 6, 2) := by decide +kernel
theorem dX6_bestWithout_53 : decode cX6_bestWithout 53 = .ok (.aload_n 0, 1) := by decide +kernel
theorem dX6_bestWithout_54 : decode cX6_bestWithout 54 = .ok (.sipush 202, 3) := by decide +kernel
theorem dX6_bestWithout_57 : decode cX6_bestWithout 57 = .ok (.iload 5, 2) := by decide +kernel
theorem dX6_bestWithout_59 : decode cX6_bestWithout 59 = .ok (.iload 5, 2) := by decide +kernel
theorem dX6_bestWithout_61 : decode cX6_bestWithout 61 = .ok (.invokevirtual 50, 3) := by decide +kernel
theorem dX6_bestWithout_64 : decode cX6_bestWithout 64 = .ok (.istore 7, 2) := by decide +kernel
theorem dX6_bestWithout_66 : decode cX6_bestWithout 66 = .ok (.iload_n 2, 1) := by decide +kernel
theorem dX6_bestWithout_67 : decode cX6_bestWithout 67 = .ok (.bipush (-5), 2) := by decide +kernel
theorem dX6_bestWithout_69 : decode cX6_bestWithout 69 = .ok (.if_icmp .eq 9, 3) := by decide +kernel
theorem dX6_bestWithout_72 : decode cX6_bestWithout 72 = .ok (.iload 7, 2) := by decide +kernel
theorem dX6_bestWithout_74 : decode cX6_bestWithout 74 = .ok (.iload_n 3, 1) := by decide +kernel
theorem dX6_bestWithout_75 : decode cX6_bestWithout 75 = .ok (.if_icmp .ge 7, 3) := by decide +kernel
theorem dX6_bestWithout_78 : decode cX6_bestWithout 78 = .ok (.iconst 1, 1) := by decide +kernel
theorem dX6_bestWithout_79 : decode cX6_bestWithout 79 = .ok (.goto 4, 3) := by decide +kernel
theorem dX6_bestWithout_82 : decode cX6_bestWithout 82 = .ok (.iconst 0, 1) := by decide +kernel
theorem dX6_bestWithout_83 : decode cX6_bestWithout 83 = .ok (.istore 8, 2) := by decide +kernel
theorem dX6_bestWithout_85 : decode cX6_bestWithout 85 = .ok (.iload 8, 2) := by decide +kernel
theorem dX6_bestWithout_87 : decode cX6_bestWithout 87 = .ok (.ifCond .eq 8, 3) := by decide +kernel
theorem dX6_bestWithout_90 : decode cX6_bestWithout 90 = .ok (.iload 4, 2) := by decide +kernel
theorem dX6_bestWithout_92 : decode cX6_bestWithout 92 = .ok (.goto 4, 3) := by decide +kernel
theorem dX6_bestWithout_95 : decode cX6_bestWithout 95 = .ok (.iload_n 2, 1) := by decide +kernel
theorem dX6_bestWithout_96 : decode cX6_bestWithout 96 = .ok (.istore_n 2, 1) := by decide +kernel
theorem dX6_bestWithout_97 : decode cX6_bestWithout 97 = .ok (.iload 8, 2) := by decide +kernel
theorem dX6_bestWithout_99 : decode cX6_bestWithout 99 = .ok (.ifCond .eq 8, 3) := by decide +kernel
theorem dX6_bestWithout_102 : decode cX6_bestWithout 102 = .ok (.iload 7, 2) := by decide +kernel
theorem dX6_bestWithout_104 : decode cX6_bestWithout 104 = .ok (.goto 4, 3) := by decide +kernel
theorem dX6_bestWithout_107 : decode cX6_bestWithout 107 = .ok (.iload_n 3, 1) := by decide +kernel
theorem dX6_bestWithout_108 : decode cX6_bestWithout 108 = .ok (.istore_n 3, 1) := by decide +kernel
theorem dX6_bestWithout_109 : decode cX6_bestWithout 109 = .ok (.iinc 4 1, 3) := by decide +kernel
theorem dX6_bestWithout_112 : decode cX6_bestWithout 112 = .ok (.goto (-92), 3) := by decide +kernel
theorem dX6_bestWithout_115 : decode cX6_bestWithout 115 = .ok (.iload_n 1, 1) := by decide +kernel
theorem dX6_bestWithout_116 : decode cX6_bestWithout 116 = .ok (.ifCond .ne 7, 3) := by decide +kernel
theorem dX6_bestWithout_119 : decode cX6_bestWithout 119 = .ok (.iload_n 2, 1) := by decide +kernel
theorem dX6_bestWithout_120 : decode cX6_bestWithout 120 = .ok (.goto 4, 3) := by decide +kernel
theorem dX6_bestWithout_123 : decode cX6_bestWithout 123 = .ok (.iload_n 3, 1) := by decide +kernel
theorem dX6_bestWithout_124 : decode cX6_bestWithout 124 = .ok (.ireturn, 1) := by decide +kernel
theorem dJ6_bitCount_0f7a4_0 : decode cJ6_bitCount_0f7a4 0 = .ok (.iload_n 0, 1) := by decide +kernel
theorem dJ6_bitCount_0f7a4_1 : decode cJ6_bitCount_0f7a4 1 = .ok (.iload_n 0, 1) := by decide +kernel
theorem dJ6_bitCount_0f7a4_2 : decode cJ6_bitCount_0f7a4 2 = .ok (.iconst 1, 1) := by decide +kernel
theorem dJ6_bitCount_0f7a4_3 : decode cJ6_bitCount_0f7a4 3 = .ok (.iushr, 1) := by decide +kernel
theorem dJ6_bitCount_0f7a4_4 : decode cJ6_bitCount_0f7a4 4 = .ok (.ldc_w 265, 3) := by decide +kernel
theorem dJ6_bitCount_0f7a4_7 : decode cJ6_bitCount_0f7a4 7 = .ok (.iand, 1) := by decide +kernel
theorem dJ6_bitCount_0f7a4_8 : decode cJ6_bitCount_0f7a4 8 = .ok (.isub, 1) := by decide +kernel
theorem dJ6_bitCount_0f7a4_9 : decode cJ6_bitCount_0f7a4 9 = .ok (.istore_n 0, 1) := by decide +kernel
theorem dJ6_bitCount_0f7a4_10 : decode cJ6_bitCount_0f7a4 10 = .ok (.iload_n 0, 1) := by decide +kernel
theorem dJ6_bitCount_0f7a4_11 : decode cJ6_bitCount_0f7a4 11 = .ok (.ldc_w 266, 3) := by decide +kernel
theorem dJ6_bitCount_0f7a4_14 : decode cJ6_bitCount_0f7a4 14 = .ok (.iand, 1) := by decide +kernel
theorem dJ6_bitCount_0f7a4_15 : decode cJ6_bitCount_0f7a4 15 = .ok (.iload_n 0, 1) := by decide +kernel
theorem dJ6_bitCount_0f7a4_16 : decode cJ6_bitCount_0f7a4 16 = .ok (.iconst 2, 1) := by decide +kernel
theorem dJ6_bitCount_0f7a4_17 : decode cJ6_bitCount_0f7a4 17 = .ok (.iushr, 1) := by decide +kernel
theorem dJ6_bitCount_0f7a4_18 : decode cJ6_bitCount_0f7a4 18 = .ok (.ldc_w 266, 3) := by decide +kernel
theorem dJ6_bitCount_0f7a4_21 : decode cJ6_bitCount_0f7a4 21 = .ok (.iand, 1) := by decide +kernel
theorem dJ6_bitCount_0f7a4_22 : decode cJ6_bitCount_0f7a4 22 = .ok (.iadd, 1) := by decide +kernel
theorem dJ6_bitCount_0f7a4_23 : decode cJ6_bitCount_0f7a4 23 = .ok (.istore_n 0, 1) := by decide +kernel
theorem dJ6_bitCount_0f7a4_24 : decode cJ6_bitCount_0f7a4 24 = .ok (.iload_n 0, 1) := by decide +kernel
theorem dJ6_bitCount_0f7a4_25 : decode cJ6_bitCount_0f7a4 25 = .ok (.iload_n 0, 1) := by decide +kernel
theorem dJ6_bitCount_0f7a4_26 : decode cJ6_bitCount_0f7a4 26 = .ok (.iconst 4, 1) := by decide +kernel
theorem dJ6_bitCount_0f7a4_27 : decode cJ6_bitCount_0f7a4 27 = .ok (.iushr, 1) := by decide +kernel
theorem dJ6_bitCount_0f7a4_28 : decode cJ6_bitCount_0f7a4 28 = .ok (.iadd, 1) := by decide +kernel
theorem dJ6_bitCount_0f7a4_29 : decode cJ6_bitCount_0f7a4 29 = .ok (.ldc_w 267, 3) := by decide +kernel
theorem dJ6_bitCount_0f7a4_32 : decode cJ6_bitCount_0f7a4 32 = .ok (.iand, 1) := by decide +kernel
theorem dJ6_bitCount_0f7a4_33 : decode cJ6_bitCount_0f7a4 33 = .ok (.istore_n 0, 1) := by decide +kernel
theorem dJ6_bitCount_0f7a4_34 : decode cJ6_bitCount_0f7a4 34 = .ok (.iload_n 0, 1) := by decide +kernel
theorem dJ6_bitCount_0f7a4_35 : decode cJ6_bitCount_0f7a4 35 = .ok (.iload_n 0, 1) := by decide +kernel
theorem dJ6_bitCount_0f7a4_36 : decode cJ6_bitCount_0f7a4 36 = .ok (.bipush 8, 2) := by decide +kernel
theorem dJ6_bitCount_0f7a4_38 : decode cJ6_bitCount_0f7a4 38 = .ok (.iushr, 1) := by decide +kernel
theorem dJ6_bitCount_0f7a4_39 : decode cJ6_bitCount_0f7a4 39 = .ok (.iadd, 1) := by decide +kernel
theorem dJ6_bitCount_0f7a4_40 : decode cJ6_bitCount_0f7a4 40 = .ok (.istore_n 0, 1) := by decide +kernel
theorem dJ6_bitCount_0f7a4_41 : decode cJ6_bitCount_0f7a4 41 = .ok (.iload_n 0, 1) := by decide +kernel
theorem dJ6_bitCount_0f7a4_42 : decode cJ6_bitCount_0f7a4 42 = .ok (.iload_n 0, 1) := by decide +kernel
theorem dJ6_bitCount_0f7a4_43 : decode cJ6_bitCount_0f7a4 43 = .ok (.bipush 16, 2) := by decide +kernel
theorem dJ6_bitCount_0f7a4_45 : decode cJ6_bitCount_0f7a4 45 = .ok (.iushr, 1) := by decide +kernel
theorem dJ6_bitCount_0f7a4_46 : decode cJ6_bitCount_0f7a4 46 = .ok (.iadd, 1) := by decide +kernel
theorem dJ6_bitCount_0f7a4_47 : decode cJ6_bitCount_0f7a4 47 = .ok (.istore_n 0, 1) := by decide +kernel
theorem dJ6_bitCount_0f7a4_48 : decode cJ6_bitCount_0f7a4 48 = .ok (.iload_n 0, 1) := by decide +kernel
theorem dJ6_bitCount_0f7a4_49 : decode cJ6_bitCount_0f7a4 49 = .ok (.bipush 63, 2) := by decide +kernel
theorem dJ6_bitCount_0f7a4_51 : decode cJ6_bitCount_0f7a4 51 = .ok (.iand, 1) := by decide +kernel
theorem dJ6_bitCount_0f7a4_52 : decode cJ6_bitCount_0f7a4 52 = .ok (.ireturn, 1) := by decide +kernel
theorem dJ9_max_7cf53_0 : decode cJ9_max_7cf53 0 = .ok (.iload_n 0, 1) := by decide +kernel
theorem dJ9_max_7cf53_1 : decode cJ9_max_7cf53 1 = .ok (.iload_n 1, 1) := by decide +kernel
theorem dJ9_max_7cf53_2 : decode cJ9_max_7cf53 2 = .ok (.if_icmp .lt 7, 3) := by decide +kernel
theorem dJ9_max_7cf53_5 : decode cJ9_max_7cf53 5 = .ok (.iload_n 0, 1) := by decide +kernel
theorem dJ9_max_7cf53_6 : decode cJ9_max_7cf53 6 = .ok (.goto 4, 3) := by decide +kernel
theorem dJ9_max_7cf53_9 : decode cJ9_max_7cf53 9 = .ok (.iload_n 1, 1) := by decide +kernel
theorem dJ9_max_7cf53_10 : decode cJ9_max_7cf53 10 = .ok (.ireturn, 1) := by decide +kernel
theorem dJ9_min_7cf53_0 : decode cJ9_min_7cf53 0 = .ok (.iload_n 0, 1) := by decide +kernel
theorem dJ9_min_7cf53_1 : decode cJ9_min_7cf53 1 = .ok (.iload_n 1, 1) := by decide +kernel
theorem dJ9_min_7cf53_2 : decode cJ9_min_7cf53 2 = .ok (.if_icmp .gt 7, 3) := by decide +kernel
theorem dJ9_min_7cf53_5 : decode cJ9_min_7cf53 5 = .ok (.iload_n 0, 1) := by decide +kernel
theorem dJ9_min_7cf53_6 : decode cJ9_min_7cf53 6 = .ok (.goto 4, 3) := by decide +kernel
theorem dJ9_min_7cf53_9 : decode cJ9_min_7cf53 9 = .ok (.iload_n 1, 1) := by decide +kernel
theorem dJ9_min_7cf53_10 : decode cJ9_min_7cf53 10 = .ok (.ireturn, 1) := by decide +kernel
