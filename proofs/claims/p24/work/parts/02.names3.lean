theorem dX5_plot_57 : decode cX5_plot 57 = .ok (.getfield 12, 3) := by decide +kernel
theorem dX5_plot_60 : decode cX5_plot 60 = .ok (.iload_n 1, 1) := by decide +kernel
theorem dX5_plot_61 : decode cX5_plot 61 = .ok (.iload_n 2, 1) := by decide +kernel
theorem dX5_plot_62 : decode cX5_plot 62 = .ok (.iconst 4, 1) := by decide +kernel
theorem dX5_plot_63 : decode cX5_plot 63 = .ok (.isub, 1) := by decide +kernel
theorem dX5_plot_64 : decode cX5_plot 64 = .ok (.iconst 1, 1) := by decide +kernel
theorem dX5_plot_65 : decode cX5_plot 65 = .ok (.isub, 1) := by decide +kernel
theorem dX5_plot_66 : decode cX5_plot 66 = .ok (.invokevirtual 172, 3) := by decide +kernel
theorem dX5_plot_69 : decode cX5_plot 69 = .ok (.ireturn, 1) := by decide +kernel
set_option maxRecDepth 20000 in
theorem ggX5_cousin_X5_isCousin : GoodIn wsX5_cousin wsX5_isCousin := goodIn_r _ [8] rfl (by decide +kernel)
set_option maxRecDepth 20000 in
theorem gX5_cousin_X5_isCousin : GoodIn wsX5_cousin (va_wsS RX5 74 yX5_isCousin wsX5_isCousin) := goodIn_app (goodIn_of _ (by decide +kernel)) ggX5_cousin_X5_isCousin
set_option maxRecDepth 20000 in
theorem ggX5_cousin_X4_measure : GoodIn wsX5_cousin wsX4_measure := goodIn_r _ [13, 14, 15, 6, 7, 8, 16, 17, 18, 19, 20, 21, 97, 98, 99, 100, 101, 88, 89, 90, 91, 92, 93, 94, 95, 96] rfl (by decide +kernel)
set_option maxRecDepth 20000 in
theorem gX5_cousin_X4_measure : GoodIn wsX5_cousin (wsV RX5 111 RX4 yX4_measure wsX4_measure) := goodIn_app (goodIn_of _ (by decide +kernel)) ggX5_cousin_X4_measure
set_option maxRecDepth 20000 in
theorem ggX5_cousin_X1_plotsOf : GoodIn wsX5_cousin wsX1_plotsOf := goodIn_r _ [25, 26, 88, 89, 90, 91, 92, 93, 94, 95, 96] rfl (by decide +kernel)
set_option maxRecDepth 20000 in
theorem gX5_cousin_X1_plotsOf : GoodIn wsX5_cousin (wsV RX5 169 RX1 yX1_plotsOf wsX1_plotsOf) := goodIn_app (goodIn_of _ (by decide +kernel)) ggX5_cousin_X1_plotsOf
set_option maxRecDepth 20000 in
theorem ggX5_cousin_X4_worthOf : GoodIn wsX5_cousin wsX4_worthOf := goodIn_r _ [30, 14, 97, 98, 99, 100, 101] rfl (by decide +kernel)
set_option maxRecDepth 20000 in
theorem gX5_cousin_X4_worthOf : GoodIn wsX5_cousin (wsV RX5 175 RX4 yX4_worthOf wsX4_worthOf) := goodIn_app (goodIn_of _ (by decide +kernel)) ggX5_cousin_X4_worthOf
set_option maxRecDepth 20000 in
theorem ggX5_cousin_X1_worthFrom : GoodIn wsX5_cousin wsX1_worthFrom := goodIn_r _ [34, 21, 88, 89, 90, 91, 92, 93, 94, 95, 96] rfl (by decide +kernel)
set_option maxRecDepth 20000 in
theorem gX5_cousin_X1_worthFrom : GoodIn wsX5_cousin (wsV RX5 176 RX1 yX1_worthFrom wsX1_worthFrom) := goodIn_app (goodIn_of _ (by decide +kernel)) ggX5_cousin_X1_worthFrom
set_option maxRecDepth 20000 in
theorem ggX5_cousin_X5_hundredths : GoodIn wsX5_cousin wsX5_hundredths := goodIn_r _ [37] rfl (by decide +kernel)
set_option maxRecDepth 20000 in
theorem gX5_cousin_X5_hundredths : GoodIn wsX5_cousin (va_wsS RX5 179 yX5_hundredths wsX5_hundredths) := goodIn_app (goodIn_of _ (by decide +kernel)) ggX5_cousin_X5_hundredths
set_option maxRecDepth 20000 in
theorem ggX5_cousin_X1_grudgesOf : GoodIn wsX5_cousin wsX1_grudgesOf := goodIn_r _ [41, 42, 88, 89, 90, 91, 92, 93, 94, 95, 96] rfl (by decide +kernel)
set_option maxRecDepth 20000 in
theorem gX5_cousin_X1_grudgesOf : GoodIn wsX5_cousin (wsV RX5 182 RX1 yX1_grudgesOf wsX1_grudgesOf) := goodIn_app (goodIn_of _ (by decide +kernel)) ggX5_cousin_X1_grudgesOf
set_option maxRecDepth 20000 in
theorem ggX5_cousin_X4_enviesOf : GoodIn wsX5_cousin wsX4_enviesOf := goodIn_r _ [46, 47, 7, 48, 49, 50, 51, 12, 52, 53, 54, 55, 56, 57, 58, 59, 60, 14, 15, 61, 62, 28, 29, 30, 97, 98, 99, 100, 101, 88, 89, 90, 91, 92, 93, 94, 95, 96] rfl (by decide +kernel)
set_option maxRecDepth 20000 in
theorem gX5_cousin_X4_enviesOf : GoodIn wsX5_cousin (wsV RX5 185 RX4 yX4_enviesOf wsX4_enviesOf) := goodIn_app (goodIn_of _ (by decide +kernel)) ggX5_cousin_X4_enviesOf
set_option maxRecDepth 20000 in
theorem ggX5_cousin_X4_greatestEnvyOf : GoodIn wsX5_cousin wsX4_greatestEnvyOf := goodIn_r _ [66, 53, 54, 55, 56, 49, 50, 51, 12, 52, 57, 58, 59, 60, 14, 15, 61, 62, 28, 29, 30, 97, 98, 99, 100, 101, 88, 89, 90, 91, 92, 93, 94, 95, 96] rfl (by decide +kernel)
set_option maxRecDepth 20000 in
theorem gX5_cousin_X4_greatestEnvyOf : GoodIn wsX5_cousin (wsV RX5 188 RX4 yX4_greatestEnvyOf wsX4_greatestEnvyOf) := goodIn_app (goodIn_of _ (by decide +kernel)) ggX5_cousin_X4_greatestEnvyOf
set_option maxRecDepth 20000 in
theorem ggX5_cousin_X4_enviesTowards : GoodIn wsX5_cousin wsX4_enviesTowards := goodIn_r _ [70, 49, 50, 51, 12, 52, 53, 54, 55, 56, 57, 58, 59, 60, 14, 15, 61, 62, 28, 29, 30, 97, 98, 99, 100, 101, 88, 89, 90, 91, 92, 93, 94, 95, 96] rfl (by decide +kernel)
set_option maxRecDepth 20000 in
theorem gX5_cousin_X4_enviesTowards : GoodIn wsX5_cousin (wsV RX5 191 RX4 yX4_enviesTowards wsX4_enviesTowards) := goodIn_app (goodIn_of _ (by decide +kernel)) ggX5_cousin_X4_enviesTowards
set_option maxRecDepth 20000 in
theorem ggX5_cousin_X1_placeOf : GoodIn wsX5_cousin wsX1_placeOf := goodIn_r _ [74, 75, 76, 77, 19, 78, 79, 80, 39, 40, 41, 42, 88, 89, 90, 91, 92, 93, 94, 95, 96] rfl (by decide +kernel)
set_option maxRecDepth 20000 in
theorem gX5_cousin_X1_placeOf : GoodIn wsX5_cousin (wsV RX5 194 RX1 yX1_placeOf wsX1_placeOf) := goodIn_app (goodIn_of _ (by decide +kernel)) ggX5_cousin_X1_placeOf
theorem dX5_cousin_0 : decode cX5_cousin 0 = .ok (.iload_n 1, 1) := by decide +kernel
theorem dX5_cousin_1 : decode cX5_cousin 1 = .ok (.invokestatic 74, 3) := by decide +kernel
theorem dX5_cousin_4 : decode cX5_cousin 4 = .ok (.ifCond .ne 5, 3) := by decide +kernel
theorem dX5_cousin_7 : decode cX5_cousin 7 = .ok (.iconst (-1), 1) := by decide +kernel
theorem dX5_cousin_8 : decode cX5_cousin 8 = .ok (.ireturn, 1) := by decide +kernel
theorem dX5_cousin_9 : decode cX5_cousin 9 = .ok (.iload_n 2, 1) := by decide +kernel
theorem dX5_cousin_10 : decode cX5_cousin 10 = .ok (.ifCond .lt 9, 3) := by decide +kernel
theorem dX5_cousin_13 : decode cX5_cousin 13 = .ok (.iload_n 2, 1) := by decide +kernel
theorem dX5_cousin_14 : decode cX5_cousin 14 = .ok (.bipush 12, 2) := by decide +kernel
theorem dX5_cousin_16 : decode cX5_cousin 16 = .ok (.if_icmp .le 6, 3) := by decide +kernel
theorem dX5_cousin_19 : decode cX5_cousin 19 = .ok (.bipush (-2), 2) := by decide +kernel
theorem dX5_cousin_21 : decode cX5_cousin 21 = .ok (.ireturn, 1) := by decide +kernel
theorem dX5_cousin_22 : decode cX5_cousin 22 = .ok (.iload_n 2, 1) := by decide +kernel
theorem dX5_cousin_23 : decode cX5_cousin 23 = .ok (.iconst 4, 1) := by decide +kernel
theorem dX5_cousin_24 : decode cX5_cousin 24 = .ok (.if_icmp .ge 17, 3) := by decide +kernel
theorem dX5_cousin_27 : decode cX5_cousin 27 = .ok (.aload_n 0, 1) := by decide +kernel
theorem dX5_cousin_28 : decode cX5_cousin 28 = .ok (.getfield 12, 3) := by decide +kernel
theorem dX5_cousin_31 : decode cX5_cousin 31 = .ok (.getfield 77, 3) := by decide +kernel
theorem dX5_cousin_34 : decode cX5_cousin 34 = .ok (.iload_n 1, 1) := by decide +kernel
theorem dX5_cousin_35 : decode cX5_cousin 35 = .ok (.iconst 4, 1) := by decide +kernel
theorem dX5_cousin_36 : decode cX5_cousin 36 = .ok (.imul, 1) := by decide +kernel
theorem dX5_cousin_37 : decode cX5_cousin 37 = .ok (.iload_n 2, 1) := by decide +kernel
theorem dX5_cousin_38 : decode cX5_cousin 38 = .ok (.iadd, 1) := by decide +kernel
theorem dX5_cousin_39 : decode cX5_cousin 39 = .ok (.iaload, 1) := by decide +kernel
theorem dX5_cousin_40 : decode cX5_cousin 40 = .ok (.ireturn, 1) := by decide +kernel
theorem dX5_cousin_41 : decode cX5_cousin 41 = .ok (.aload_n 0, 1) := by decide +kernel
theorem dX5_cousin_42 : decode cX5_cousin 42 = .ok (.getfield 28, 3) := by decide +kernel
theorem dX5_cousin_45 : decode cX5_cousin 45 = .ok (.aload_n 0, 1) := by decide +kernel
theorem dX5_cousin_46 : decode cX5_cousin 46 = .ok (.getfield 12, 3) := by decide +kernel
theorem dX5_cousin_49 : decode cX5_cousin 49 = .ok (.getfield 108, 3) := by decide +kernel
theorem dX5_cousin_52 : decode cX5_cousin 52 = .ok (.invokevirtual 111, 3) := by decide +kernel
theorem dX5_cousin_55 : decode cX5_cousin 55 = .ok (.iload_n 2, 1) := by decide +kernel
theorem dX5_cousin_56 : decode cX5_cousin 56 = .ok (.tableswitch 137 4 11 #[48, 57, 67, 77, 99, 108, 119, 128], 48) := by decide +kernel
theorem dX5_cousin_104 : decode cX5_cousin 104 = .ok (.aload_n 0, 1) := by decide +kernel
theorem dX5_cousin_105 : decode cX5_cousin 105 = .ok (.getfield 12, 3) := by decide +kernel
theorem dX5_cousin_108 : decode cX5_cousin 108 = .ok (.iload_n 1, 1) := by decide +kernel
theorem dX5_cousin_109 : decode cX5_cousin 109 = .ok (.invokevirtual 169, 3) := by decide +kernel
theorem dX5_cousin_112 : decode cX5_cousin 112 = .ok (.ireturn, 1) := by decide +kernel
theorem dX5_cousin_113 : decode cX5_cousin 113 = .ok (.aload_n 0, 1) := by decide +kernel
theorem dX5_cousin_114 : decode cX5_cousin 114 = .ok (.getfield 28, 3) := by decide +kernel
theorem dX5_cousin_117 : decode cX5_cousin 117 = .ok (.iload_n 1, 1) := by decide +kernel
theorem dX5_cousin_118 : decode cX5_cousin 118 = .ok (.iload_n 1, 1) := by decide +kernel
theorem dX5_cousin_119 : decode cX5_cousin 119 = .ok (.invokevirtual 175, 3) := by decide +kernel
theorem dX5_cousin_122 : decode cX5_cousin 122 = .ok (.ireturn, 1) := by decide +kernel
theorem dX5_cousin_123 : decode cX5_cousin 123 = .ok (.aload_n 0, 1) := by decide +kernel
theorem dX5_cousin_124 : decode cX5_cousin 124 = .ok (.getfield 12, 3) := by decide +kernel
theorem dX5_cousin_127 : decode cX5_cousin 127 = .ok (.iconst 0, 1) := by decide +kernel
theorem dX5_cousin_128 : decode cX5_cousin 128 = .ok (.iload_n 1, 1) := by decide +kernel
theorem dX5_cousin_129 : decode cX5_cousin 129 = .ok (.invokevirtual 176, 3) := by decide +kernel
theorem dX5_cousin_132 : decode cX5_cousin 132 = .ok (.ireturn, 1) := by decide +kernel
theorem dX5_cousin_133 : decode cX5_cousin 133 = .ok (.aload_n 0, 1) := by decide +kernel
theorem dX5_cousin_134 : decode cX5_cousin 134 = .ok (.getfield 28, 3) := by decide +kernel
theorem dX5_cousin_137 : decode cX5_cousin 137 = .ok (.iload_n 1, 1) := by decide +kernel
theorem dX5_cousin_138 : decode cX5_cousin 138 = .ok (.iload_n 1, 1) := by decide +kernel
theorem dX5_cousin_139 : decode cX5_cousin 139 = .ok (.invokevirtual 175, 3) := by decide +kernel
theorem dX5_cousin_142 : decode cX5_cousin 142 = .ok (.aload_n 0, 1) := by decide +kernel
theorem dX5_cousin_143 : decode cX5_cousin 143 = .ok (.getfield 12, 3) := by decide +kernel
theorem dX5_cousin_146 : decode cX5_cousin 146 = .ok (.iconst 0, 1) := by decide +kernel
theorem dX5_cousin_147 : decode cX5_cousin 147 = .ok (.iload_n 1, 1) := by decide +kernel
theorem dX5_cousin_148 : decode cX5_cousin 148 = .ok (.invokevirtual 176, 3) := by decide +kernel
theorem dX5_cousin_151 : decode cX5_cousin 151 = .ok (.invokestatic 179, 3) := by decide +kernel
theorem dX5_cousin_154 : decode cX5_cousin 154 = .ok (.ireturn, 1) := by decide +kernel
theorem dX5_cousin_155 : decode cX5_cousin 155 = .ok (.aload_n 0, 1) := by decide +kernel
theorem dX5_cousin_156 : decode cX5_cousin 156 = .ok (.getfield 12, 3) := by decide +kernel
theorem dX5_cousin_159 : decode cX5_cousin 159 = .ok (.iload_n 1, 1) := by decide +kernel
theorem dX5_cousin_160 : decode cX5_cousin 160 = .ok (.invokevirtual 182, 3) := by decide +kernel
theorem dX5_cousin_163 : decode cX5_cousin 163 = .ok (.ireturn, 1) := by decide +kernel
theorem dX5_cousin_164 : decode cX5_cousin 164 = .ok (.aload_n 0, 1) := by decide +kernel
theorem dX5_cousin_165 : decode cX5_cousin 165 = .ok (.getfield 28, 3) := by decide +kernel
theorem dX5_cousin_168 : decode cX5_cousin 168 = .ok (.iload_n 1, 1) := by decide +kernel
theorem dX5_cousin_169 : decode cX5_cousin 169 = .ok (.bipush 127, 2) := by decide +kernel
theorem dX5_cousin_171 : decode cX5_cousin 171 = .ok (.invokevirtual 185, 3) := by decide +kernel
theorem dX5_cousin_174 : decode cX5_cousin 174 = .ok (.ireturn, 1) := by decide +kernel
theorem dX5_cousin_175 : decode cX5_cousin 175 = .ok (.aload_n 0, 1) := by decide +kernel
theorem dX5_cousin_176 : decode cX5_cousin 176 = .ok (.getfield 28, 3) := by decide +kernel
theorem dX5_cousin_179 : decode cX5_cousin 179 = .ok (.iload_n 1, 1) := by decide +kernel
theorem dX5_cousin_180 : decode cX5_cousin 180 = .ok (.invokevirtual 188, 3) := by decide +kernel
theorem dX5_cousin_183 : decode cX5_cousin 183 = .ok (.ireturn, 1) := by decide +kernel
theorem dX5_cousin_184 : decode cX5_cousin 184 = .ok (.aload_n 0, 1) := by decide +kernel
theorem dX5_cousin_185 : decode cX5_cousin 185 = .ok (.getfield 28, 3) := by decide +kernel
theorem dX5_cousin_188 : decode cX5_cousin 188 = .ok (.iload_n 1, 1) := by decide +kernel
theorem dX5_cousin_189 : decode cX5_cousin 189 = .ok (.invokevirtual 191, 3) := by decide +kernel
theorem dX5_cousin_192 : decode cX5_cousin 192 = .ok (.ireturn, 1) := by decide +kernel
theorem dX5_cousin_193 : decode cX5_cousin 193 = .ok (.aload_n 0, 1) := by decide +kernel
theorem dX5_cousin_194 : decode cX5_cousin 194 = .ok (.getfield 12, 3) := by decide +kernel
theorem dX5_cousin_197 : decode cX5_cousin 197 = .ok (.iload_n 1, 1) := by decide +kernel
theorem dX5_cousin_198 : decode cX5_cousin 198 = .ok (.invokevirtual 194, 3) := by decide +kernel
theorem dX5_cousin_201 : decode cX5_cousin 201 = .ok (.ireturn, 1) := by decide +kernel
set_option maxRecDepth 20000 in
theorem ggX5_pair_X5_isCousin : GoodIn wsX5_pair wsX5_isCousin := goodIn_r _ [7] rfl (by decide +kernel)
set_option maxRecDepth 20000 in
theorem gX5_pair_X5_isCousin : GoodIn wsX5_pair (va_wsS RX5 74 yX5_isCousin wsX5_isCousin) := goodIn_app (goodIn_of _ (by decide +kernel)) ggX5_pair_X5_isCousin
set_option maxRecDepth 20000 in
theorem ggX5_pair_X4_measure : GoodIn wsX5_pair wsX4_measure := goodIn_r _ [12, 13, 14, 5, 6, 7, 15, 16, 17, 18, 19, 20, 67, 68, 69, 70, 71, 58, 59, 60, 61, 62, 63, 64, 65, 66] rfl (by decide +kernel)
set_option maxRecDepth 20000 in
theorem gX5_pair_X4_measure : GoodIn wsX5_pair (wsV RX5 111 RX4 yX4_measure wsX4_measure) := goodIn_app (goodIn_of _ (by decide +kernel)) ggX5_pair_X4_measure
set_option maxRecDepth 20000 in
theorem ggX5_pair_X1_grudgeOf : GoodIn wsX5_pair wsX1_grudgeOf := goodIn_r _ [24, 25, 58, 59, 60, 61, 62, 63, 64, 65, 66] rfl (by decide +kernel)
set_option maxRecDepth 20000 in
theorem gX5_pair_X1_grudgeOf : GoodIn wsX5_pair (wsV RX5 83 RX1 yX1_grudgeOf wsX1_grudgeOf) := goodIn_app (goodIn_of _ (by decide +kernel)) ggX5_pair_X1_grudgeOf
set_option maxRecDepth 20000 in
theorem ggX5_pair_X4_worthOf : GoodIn wsX5_pair wsX4_worthOf := goodIn_r _ [29, 13, 67, 68, 69, 70, 71] rfl (by decide +kernel)
set_option maxRecDepth 20000 in
theorem gX5_pair_X4_worthOf : GoodIn wsX5_pair (wsV RX5 175 RX4 yX4_worthOf wsX4_worthOf) := goodIn_app (goodIn_of _ (by decide +kernel)) ggX5_pair_X4_worthOf
set_option maxRecDepth 20000 in
theorem ggX5_pair_X4_seeming : GoodIn wsX5_pair wsX4_seeming := goodIn_r _ [33, 13, 14, 34, 67, 68, 69, 70, 71, 58, 59, 60, 61, 62, 63, 64, 65, 66] rfl (by decide +kernel)
set_option maxRecDepth 20000 in
theorem gX5_pair_X4_seeming : GoodIn wsX5_pair (wsV RX5 197 RX4 yX4_seeming wsX4_seeming) := goodIn_app (goodIn_of _ (by decide +kernel)) ggX5_pair_X4_seeming
set_option maxRecDepth 20000 in
theorem ggX5_pair_X4_envy : GoodIn wsX5_pair wsX4_envy := goodIn_r _ [38, 39, 40, 41, 42, 43, 31, 32, 11, 33, 13, 14, 34, 44, 27, 28, 29, 67, 68, 69, 70, 71, 58, 59, 60, 61, 62, 63, 64, 65, 66] rfl (by decide +kernel)
set_option maxRecDepth 20000 in
theorem gX5_pair_X4_envy : GoodIn wsX5_pair (wsV RX5 200 RX4 yX4_envy wsX4_envy) := goodIn_app (goodIn_of _ (by decide +kernel)) ggX5_pair_X4_envy
set_option maxRecDepth 20000 in
theorem ggX5_pair_X4_whyNoTrade : GoodIn wsX5_pair wsX4_whyNoTrade := goodIn_r _ [48, 14, 49, 50, 22, 23, 18, 24, 25, 44, 27, 28, 11, 29, 13, 67, 68, 69, 70, 71, 58, 59, 60, 61, 62, 63, 64, 65, 66] rfl (by decide +kernel)
set_option maxRecDepth 20000 in
theorem gX5_pair_X4_whyNoTrade : GoodIn wsX5_pair (wsV RX5 115 RX4 yX4_whyNoTrade wsX4_whyNoTrade) := goodIn_app (goodIn_of _ (by decide +kernel)) ggX5_pair_X4_whyNoTrade
theorem dX5_pair_0 : decode cX5_pair 0 = .ok (.iload_n 1, 1) := by decide +kernel
theorem dX5_pair_1 : decode cX5_pair 1 = .ok (.invokestatic 74, 3) := by decide +kernel
theorem dX5_pair_4 : decode cX5_pair 4 = .ok (.ifCond .eq 10, 3) := by decide +kernel
theorem dX5_pair_7 : decode cX5_pair 7 = .ok (.iload_n 2, 1) := by decide +kernel
theorem dX5_pair_8 : decode cX5_pair 8 = .ok (.invokestatic 74, 3) := by decide +kernel
theorem dX5_pair_11 : decode cX5_pair 11 = .ok (.ifCond .ne 5, 3) := by decide +kernel
theorem dX5_pair_14 : decode cX5_pair 14 = .ok (.iconst (-1), 1) := by decide +kernel
theorem dX5_pair_15 : decode cX5_pair 15 = .ok (.ireturn, 1) := by decide +kernel
theorem dX5_pair_16 : decode cX5_pair 16 = .ok (.iload_n 1, 1) := by decide +kernel
theorem dX5_pair_17 : decode cX5_pair 17 = .ok (.iload_n 2, 1) := by decide +kernel
theorem dX5_pair_18 : decode cX5_pair 18 = .ok (.if_icmp .eq 12, 3) := by decide +kernel
theorem dX5_pair_21 : decode cX5_pair 21 = .ok (.iload_n 3, 1) := by decide +kernel
theorem dX5_pair_22 : decode cX5_pair 22 = .ok (.ifCond .lt 8, 3) := by decide +kernel
theorem dX5_pair_25 : decode cX5_pair 25 = .ok (.iload_n 3, 1) := by decide +kernel
theorem dX5_pair_26 : decode cX5_pair 26 = .ok (.iconst 4, 1) := by decide +kernel
theorem dX5_pair_27 : decode cX5_pair 27 = .ok (.if_icmp .le 6, 3) := by decide +kernel
theorem dX5_pair_30 : decode cX5_pair 30 = .ok (.bipush (-2), 2) := by decide +kernel
theorem dX5_pair_32 : decode cX5_pair 32 = .ok (.ireturn, 1) := by decide +kernel
theorem dX5_pair_33 : decode cX5_pair 33 = .ok (.aload_n 0, 1) := by decide +kernel
theorem dX5_pair_34 : decode cX5_pair 34 = .ok (.getfield 28, 3) := by decide +kernel
theorem dX5_pair_37 : decode cX5_pair 37 = .ok (.aload_n 0, 1) := by decide +kernel
theorem dX5_pair_38 : decode cX5_pair 38 = .ok (.getfield 12, 3) := by decide +kernel
theorem dX5_pair_41 : decode cX5_pair 41 = .ok (.getfield 108, 3) := by decide +kernel
theorem dX5_pair_44 : decode cX5_pair 44 = .ok (.invokevirtual 111, 3) := by decide +kernel
theorem dX5_pair_47 : decode cX5_pair 47 = .ok (.iload_n 3, 1) := by decide +kernel
theorem dX5_pair_48 : decode cX5_pair 48 = .ok (.tableswitch 72 0 3 #[32, 42, 52, 62], 32) := by decide +kernel
theorem dX5_pair_80 : decode cX5_pair 80 = .ok (.aload_n 0, 1) := by decide +kernel
theorem dX5_pair_81 : decode cX5_pair 81 = .ok (.getfield 12, 3) := by decide +kernel
theorem dX5_pair_84 : decode cX5_pair 84 = .ok (.iload_n 1, 1) := by decide +kernel
theorem dX5_pair_85 : decode cX5_pair 85 = .ok (.iload_n 2, 1) := by decide +kernel
theorem dX5_pair_86 : decode cX5_pair 86 = .ok (.invokevirtual 83, 3) := by decide +kernel
theorem dX5_pair_89 : decode cX5_pair 89 = .ok (.ireturn, 1) := by decide +kernel
theorem dX5_pair_90 : decode cX5_pair 90 = .ok (.aload_n 0, 1) := by decide +kernel
theorem dX5_pair_91 : decode cX5_pair 91 = .ok (.getfield 28, 3) := by decide +kernel
theorem dX5_pair_94 : decode cX5_pair 94 = .ok (.iload_n 1, 1) := by decide +kernel
theorem dX5_pair_95 : decode cX5_pair 95 = .ok (.iload_n 2, 1) := by decide +kernel
theorem dX5_pair_96 : decode cX5_pair 96 = .ok (.invokevirtual 175, 3) := by decide +kernel
theorem dX5_pair_99 : decode cX5_pair 99 = .ok (.ireturn, 1) := by decide +kernel
theorem dX5_pair_100 : decode cX5_pair 100 = .ok (.aload_n 0, 1) := by decide +kernel
theorem dX5_pair_101 : decode cX5_pair 101 = .ok (.getfield 28, 3) := by decide +kernel
theorem dX5_pair_104 : decode cX5_pair 104 = .ok (.iload_n 1, 1) := by decide +kernel
theorem dX5_pair_105 : decode cX5_pair 105 = .ok (.iload_n 2, 1) := by decide +kernel
theorem dX5_pair_106 : decode cX5_pair 106 = .ok (.invokevirtual 197, 3) := by decide +kernel
theorem dX5_pair_109 : decode cX5_pair 109 = .ok (.ireturn, 1) := by decide +kernel
theorem dX5_pair_110 : decode cX5_pair 110 = .ok (.aload_n 0, 1) := by decide +kernel
theorem dX5_pair_111 : decode cX5_pair 111 = .ok (.getfield 28, 3) := by decide +kernel
theorem dX5_pair_114 : decode cX5_pair 114 = .ok (.iload_n 1, 1) := by decide +kernel
theorem dX5_pair_115 : decode cX5_pair 115 = .ok (.iload_n 2, 1) := by decide +kernel
theorem dX5_pair_116 : decode cX5_pair 116 = .ok (.invokevirtual 200, 3) := by decide +kernel
theorem dX5_pair_119 : decode cX5_pair 119 = .ok (.ireturn, 1) := by decide +kernel
theorem dX5_pair_120 : decode cX5_pair 120 = .ok (.aload_n 0, 1) := by decide +kernel
theorem dX5_pair_121 : decode cX5_pair 121 = .ok (.getfield 28, 3) := by decide +kernel
theorem dX5_pair_124 : decode cX5_pair 124 = .ok (.iload_n 1, 1) := by decide +kernel
theorem dX5_pair_125 : decode cX5_pair 125 = .ok (.iload_n 2, 1) := by decide +kernel
theorem dX5_pair_126 : decode cX5_pair 126 = .ok (.invokevirtual 115, 3) := by decide +kernel
theorem dX5_pair_129 : decode cX5_pair 129 = .ok (.ireturn, 1) := by decide +kernel
set_option maxRecDepth 20000 in
theorem ggX5_total_X4_measure : GoodIn wsX5_total wsX4_measure := goodIn_r _ [16, 17, 18, 19, 20, 21, 22, 23, 24, 25, 26, 27, 108, 109, 110, 111, 112, 89, 90, 91, 92, 93, 94, 95, 96, 97] rfl (by decide +kernel)
set_option maxRecDepth 20000 in
theorem gX5_total_X4_measure : GoodIn wsX5_total (wsV RX5 111 RX4 yX4_measure wsX4_measure) := goodIn_app (goodIn_of _ (by decide +kernel)) ggX5_total_X4_measure
set_option maxRecDepth 20000 in
theorem ggX5_total_X1_plotsOf : GoodIn wsX5_total wsX1_plotsOf := goodIn_r _ [31, 32, 89, 90, 91, 92, 93, 94, 95, 96, 97] rfl (by decide +kernel)
set_option maxRecDepth 20000 in
theorem gX5_total_X1_plotsOf : GoodIn wsX5_total (wsV RX5 169 RX1 yX1_plotsOf wsX1_plotsOf) := goodIn_app (goodIn_of _ (by decide +kernel)) ggX5_total_X1_plotsOf
set_option maxRecDepth 20000 in
theorem ggX5_total_X4_enviesAmong : GoodIn wsX5_total wsX4_enviesAmong := goodIn_r _ [36, 37, 20, 38, 39, 40, 41, 15, 42, 43, 44, 45, 46, 47, 48, 49, 50, 51, 52, 53, 54, 17, 18, 55, 56, 57, 58, 59, 108, 109, 110, 111, 112, 89, 90, 91, 92, 93, 94, 95, 96, 97] rfl (by decide +kernel)
set_option maxRecDepth 20000 in
theorem gX5_total_X4_enviesAmong : GoodIn wsX5_total (wsV RX5 122 RX4 yX4_enviesAmong wsX4_enviesAmong) := goodIn_app (goodIn_of _ (by decide +kernel)) ggX5_total_X4_enviesAmong
set_option maxRecDepth 20000 in
theorem ggX5_total_X4_contentCousins : GoodIn wsX5_total wsX4_contentCousins := goodIn_r _ [63, 64, 65, 66, 15, 67, 47, 48, 49, 50, 43, 44, 45, 46, 51, 52, 53, 54, 17, 18, 55, 56, 57, 58, 59, 108, 109, 110, 111, 112, 89, 90, 91, 92, 93, 94, 95, 96, 97] rfl (by decide +kernel)
set_option maxRecDepth 20000 in
theorem gX5_total_X4_contentCousins : GoodIn wsX5_total (wsV RX5 203 RX4 yX4_contentCousins wsX4_contentCousins) := goodIn_app (goodIn_of _ (by decide +kernel)) ggX5_total_X4_contentCousins
set_option maxRecDepth 20000 in
theorem ggX5_total_X4_tradingPairs : GoodIn wsX5_total wsX4_tradingPairs := goodIn_r _ [71, 72, 73, 74, 15, 75, 18, 76, 77, 78, 79, 25, 80, 81, 56, 57, 58, 59, 17, 108, 109, 110, 111, 112, 89, 90, 91, 92, 93, 94, 95, 96, 97] rfl (by decide +kernel)
set_option maxRecDepth 20000 in
theorem gX5_total_X4_tradingPairs : GoodIn wsX5_total (wsV RX5 206 RX4 yX4_tradingPairs wsX4_tradingPairs) := goodIn_app (goodIn_of _ (by decide +kernel)) ggX5_total_X4_tradingPairs
theorem dX5_total_0 : decode cX5_total 0 = .ok (.iload_n 1, 1) := by decide +kernel
theorem dX5_total_1 : decode cX5_total 1 = .ok (.ifCond .lt 9, 3) := by decide +kernel
theorem dX5_total_4 : decode cX5_total 4 = .ok (.iload_n 1, 1) := by decide +kernel
theorem dX5_total_5 : decode cX5_total 5 = .ok (.bipush 10, 2) := by decide +kernel
theorem dX5_total_7 : decode cX5_total 7 = .ok (.if_icmp .le 6, 3) := by decide +kernel
theorem dX5_total_10 : decode cX5_total 10 = .ok (.bipush (-2), 2) := by decide +kernel
theorem dX5_total_12 : decode cX5_total 12 = .ok (.ireturn, 1) := by decide +kernel
theorem dX5_total_13 : decode cX5_total 13 = .ok (.aload_n 0, 1) := by decide +kernel
theorem dX5_total_14 : decode cX5_total 14 = .ok (.getfield 28, 3) := by decide +kernel
theorem dX5_total_17 : decode cX5_total 17 = .ok (.aload_n 0, 1) := by decide +kernel
theorem dX5_total_18 : decode cX5_total 18 = .ok (.getfield 12, 3) := by decide +kernel
theorem dX5_total_21 : decode cX5_total 21 = .ok (.getfield 108, 3) := by decide +kernel
theorem dX5_total_24 : decode cX5_total 24 = .ok (.invokevirtual 111, 3) := by decide +kernel
theorem dX5_total_27 : decode cX5_total 27 = .ok (.iload_n 1, 1) := by decide +kernel
theorem dX5_total_28 : decode cX5_total 28 = .ok (.tableswitch 144 0 9 #[56, 66, 76, 86, 96, 104, 112, 120, 128, 136], 56) := by decide +kernel
theorem dX5_total_84 : decode cX5_total 84 = .ok (.aload_n 0, 1) := by decide +kernel
theorem dX5_total_85 : decode cX5_total 85 = .ok (.getfield 12, 3) := by decide +kernel
theorem dX5_total_88 : decode cX5_total 88 = .ok (.getfield 94, 3) := by decide +kernel
theorem dX5_total_91 : decode cX5_total 91 = .ok (.iconst 0, 1) := by decide +kernel
theorem dX5_total_92 : decode cX5_total 92 = .ok (.iaload, 1) := by decide +kernel
theorem dX5_total_93 : decode cX5_total 93 = .ok (.ireturn, 1) := by decide +kernel
theorem dX5_total_94 : decode cX5_total 94 = .ok (.aload_n 0, 1) := by decide +kernel
theorem dX5_total_95 : decode cX5_total 95 = .ok (.getfield 12, 3) := by decide +kernel
theorem dX5_total_98 : decode cX5_total 98 = .ok (.getfield 94, 3) := by decide +kernel
theorem dX5_total_101 : decode cX5_total 101 = .ok (.iconst 1, 1) := by decide +kernel
theorem dX5_total_102 : decode cX5_total 102 = .ok (.iaload, 1) := by decide +kernel
theorem dX5_total_103 : decode cX5_total 103 = .ok (.ireturn, 1) := by decide +kernel
theorem dX5_total_104 : decode cX5_total 104 = .ok (.aload_n 0, 1) := by decide +kernel
theorem dX5_total_105 : decode cX5_total 105 = .ok (.getfield 12, 3) := by decide +kernel
theorem dX5_total_108 : decode cX5_total 108 = .ok (.bipush 7, 2) := by decide +kernel
theorem dX5_total_110 : decode cX5_total 110 = .ok (.invokevirtual 169, 3) := by decide +kernel
theorem dX5_total_113 : decode cX5_total 113 = .ok (.ireturn, 1) := by decide +kernel
theorem dX5_total_114 : decode cX5_total 114 = .ok (.aload_n 0, 1) := by decide +kernel
theorem dX5_total_115 : decode cX5_total 115 = .ok (.getfield 28, 3) := by decide +kernel
theorem dX5_total_118 : decode cX5_total 118 = .ok (.bipush 127, 2) := by decide +kernel
theorem dX5_total_120 : decode cX5_total 120 = .ok (.invokevirtual 122, 3) := by decide +kernel
theorem dX5_total_123 : decode cX5_total 123 = .ok (.ireturn, 1) := by decide +kernel
theorem dX5_total_124 : decode cX5_total 124 = .ok (.aload_n 0, 1) := by decide +kernel
theorem dX5_total_125 : decode cX5_total 125 = .ok (.getfield 28, 3) := by decide +kernel
theorem dX5_total_128 : decode cX5_total 128 = .ok (.invokevirtual 203, 3) := by decide +kernel
theorem dX5_total_131 : decode cX5_total 131 = .ok (.ireturn, 1) := by decide +kernel
theorem dX5_total_132 : decode cX5_total 132 = .ok (.aload_n 0, 1) := by decide +kernel
theorem dX5_total_133 : decode cX5_total 133 = .ok (.getfield 28, 3) := by decide +kernel
theorem dX5_total_136 : decode cX5_total 136 = .ok (.invokevirtual 206, 3) := by decide +kernel
theorem dX5_total_139 : decode cX5_total 139 = .ok (.ireturn, 1) := by decide +kernel
theorem dX5_total_140 : decode cX5_total 140 = .ok (.aload_n 0, 1) := by decide +kernel
theorem dX5_total_141 : decode cX5_total 141 = .ok (.getfield 12, 3) := by decide +kernel
theorem dX5_total_144 : decode cX5_total 144 = .ok (.getfield 209, 3) := by decide +kernel
theorem dX5_total_147 : decode cX5_total 147 = .ok (.ireturn, 1) := by decide +kernel
theorem dX5_total_148 : decode cX5_total 148 = .ok (.aload_n 0, 1) := by decide +kernel
theorem dX5_total_149 : decode cX5_total 149 = .ok (.getfield 12, 3) := by decide +kernel
theorem dX5_total_152 : decode cX5_total 152 = .ok (.getfield 210, 3) := by decide +kernel
theorem dX5_total_155 : decode cX5_total 155 = .ok (.ireturn, 1) := by decide +kernel
theorem dX5_total_156 : decode cX5_total 156 = .ok (.aload_n 0, 1) := by decide +kernel
theorem dX5_total_157 : decode cX5_total 157 = .ok (.getfield 12, 3) := by decide +kernel
theorem dX5_total_160 : decode cX5_total 160 = .ok (.getfield 213, 3) := by decide +kernel
theorem dX5_total_163 : decode cX5_total 163 = .ok (.ireturn, 1) := by decide +kernel
theorem dX5_total_164 : decode cX5_total 164 = .ok (.aload_n 0, 1) := by decide +kernel
theorem dX5_total_165 : decode cX5_total 165 = .ok (.getfield 42, 3) := by decide +kernel
theorem dX5_total_168 : decode cX5_total 168 = .ok (.getfield 160, 3) := by decide +kernel
theorem dX5_total_171 : decode cX5_total 171 = .ok (.ireturn, 1) := by decide +kernel
theorem dX5_total_172 : decode cX5_total 172 = .ok (.aload_n 0, 1) := by decide +kernel
theorem dX5_total_173 : decode cX5_total 173 = .ok (.getfield 35, 3) := by decide +kernel
theorem dX5_total_176 : decode cX5_total 176 = .ok (.getfield 136, 3) := by decide +kernel
theorem dX5_total_179 : decode cX5_total 179 = .ok (.ireturn, 1) := by decide +kernel
set_option maxRecDepth 20000 in
theorem ggX5_ifDivided_X5_isParty : GoodIn wsX5_ifDivided wsX5_isParty := goodIn_r _ [10] rfl (by decide +kernel)
set_option maxRecDepth 20000 in
theorem gX5_ifDivided_X5_isParty : GoodIn wsX5_ifDivided (va_wsS RX5 97 yX5_isParty wsX5_isParty) := goodIn_app (goodIn_of _ (by decide +kernel)) ggX5_ifDivided_X5_isParty
set_option maxRecDepth 20000 in
theorem ggX5_ifDivided_X0_run : GoodIn wsX5_ifDivided wsX0_run := goodIn_r _ [15, 16, 17, 18, 19, 20, 21, 22, 23, 14, 24, 25, 26, 27, 28, 29, 30, 31, 32, 33, 34, 35, 36, 37, 38, 39, 40, 41, 42, 43, 44, 45, 46, 47, 48, 49, 9, 50, 51, 52, 53, 54, 55, 56, 57, 58, 59, 60, 61, 62, 63, 64, 65, 66, 67, 68, 69, 70, 71, 72, 73, 74, 75, 76, 77, 78, 79, 80, 81, 82, 83, 84, 85, 86, 87, 130, 131, 132, 133, 134, 135, 136, 137, 138, 139, 140, 141, 142, 143, 144, 145, 146] rfl (by decide +kernel)
set_option maxRecDepth 20000 in
theorem gX5_ifDivided_X0_run : GoodIn wsX5_ifDivided (wsV RX5 216 RX0 yX0_run wsX0_run) := goodIn_app (goodIn_of _ (by decide +kernel)) ggX5_ifDivided_X0_run
set_option maxRecDepth 20000 in
theorem ggX5_ifDivided_X4_measure : GoodIn wsX5_ifDivided wsX4_measure := goodIn_r _ [92, 93, 94, 95, 9, 96, 97, 61, 62, 30, 63, 59, 147, 148, 149, 150, 151, 138, 139, 140, 141, 142, 143, 144, 145, 146] rfl (by decide +kernel)
set_option maxRecDepth 20000 in
theorem gX5_ifDivided_X4_measure : GoodIn wsX5_ifDivided (wsV RX5 111 RX4 yX4_measure wsX4_measure) := goodIn_app (goodIn_of _ (by decide +kernel)) ggX5_ifDivided_X4_measure
set_option maxRecDepth 20000 in
theorem ggX5_ifDivided_X4_enviesAmong : GoodIn wsX5_ifDivided wsX4_enviesAmong := goodIn_r _ [101, 49, 9, 50, 102, 103, 104, 91, 105, 106, 107, 108, 109, 110, 111, 112, 113, 114, 115, 116, 117, 93, 94, 118, 119, 120, 121, 122, 147, 148, 149, 150, 151, 138, 139, 140, 141, 142, 143, 144, 145, 146] rfl (by decide +kernel)
set_option maxRecDepth 20000 in
theorem gX5_ifDivided_X4_enviesAmong : GoodIn wsX5_ifDivided (wsV RX5 122 RX4 yX4_enviesAmong wsX4_enviesAmong) := goodIn_app (goodIn_of _ (by decide +kernel)) ggX5_ifDivided_X4_enviesAmong
theorem dX5_ifDivided_0 : decode cX5_ifDivided 0 = .ok (.iload_n 1, 1) := by decide +kernel
theorem dX5_ifDivided_1 : decode cX5_ifDivided 1 = .ok (.invokestatic 97, 3) := by decide +kernel
theorem dX5_ifDivided_4 : decode cX5_ifDivided 4 = .ok (.ifCond .eq 12, 3) := by decide +kernel
theorem dX5_ifDivided_7 : decode cX5_ifDivided 7 = .ok (.iload_n 2, 1) := by decide +kernel
theorem dX5_ifDivided_8 : decode cX5_ifDivided 8 = .ok (.ifCond .lt 8, 3) := by decide +kernel
theorem dX5_ifDivided_11 : decode cX5_ifDivided 11 = .ok (.iload_n 2, 1) := by decide +kernel
theorem dX5_ifDivided_12 : decode cX5_ifDivided 12 = .ok (.iconst 4, 1) := by decide +kernel
theorem dX5_ifDivided_13 : decode cX5_ifDivided 13 = .ok (.if_icmp .le 6, 3) := by decide +kernel
theorem dX5_ifDivided_16 : decode cX5_ifDivided 16 = .ok (.bipush (-2), 2) := by decide +kernel
theorem dX5_ifDivided_18 : decode cX5_ifDivided 18 = .ok (.ireturn, 1) := by decide +kernel
theorem dX5_ifDivided_19 : decode cX5_ifDivided 19 = .ok (.aload_n 0, 1) := by decide +kernel
theorem dX5_ifDivided_20 : decode cX5_ifDivided 20 = .ok (.getfield 21, 3) := by decide +kernel
theorem dX5_ifDivided_23 : decode cX5_ifDivided 23 = .ok (.iload_n 1, 1) := by decide +kernel
theorem dX5_ifDivided_24 : decode cX5_ifDivided 24 = .ok (.invokevirtual 216, 3) := by decide +kernel
theorem dX5_ifDivided_27 : decode cX5_ifDivided 27 = .ok (.iload_n 2, 1) := by decide +kernel
theorem dX5_ifDivided_28 : decode cX5_ifDivided 28 = .ok (.tableswitch 82 0 3 #[32, 40, 48, 72], 32) := by decide +kernel
theorem dX5_ifDivided_60 : decode cX5_ifDivided 60 = .ok (.aload_n 0, 1) := by decide +kernel
theorem dX5_ifDivided_61 : decode cX5_ifDivided 61 = .ok (.getfield 21, 3) := by decide +kernel
theorem dX5_ifDivided_64 : decode cX5_ifDivided 64 = .ok (.getfield 104, 3) := by decide +kernel
theorem dX5_ifDivided_67 : decode cX5_ifDivided 67 = .ok (.ireturn, 1) := by decide +kernel
theorem dX5_ifDivided_68 : decode cX5_ifDivided 68 = .ok (.aload_n 0, 1) := by decide +kernel
theorem dX5_ifDivided_69 : decode cX5_ifDivided 69 = .ok (.getfield 21, 3) := by decide +kernel
theorem dX5_ifDivided_72 : decode cX5_ifDivided 72 = .ok (.getfield 219, 3) := by decide +kernel
theorem dX5_ifDivided_75 : decode cX5_ifDivided 75 = .ok (.ireturn, 1) := by decide +kernel
theorem dX5_ifDivided_76 : decode cX5_ifDivided 76 = .ok (.aload_n 0, 1) := by decide +kernel
theorem dX5_ifDivided_77 : decode cX5_ifDivided 77 = .ok (.getfield 28, 3) := by decide +kernel
theorem dX5_ifDivided_80 : decode cX5_ifDivided 80 = .ok (.aload_n 0, 1) := by decide +kernel
theorem dX5_ifDivided_81 : decode cX5_ifDivided 81 = .ok (.getfield 21, 3) := by decide +kernel
theorem dX5_ifDivided_84 : decode cX5_ifDivided 84 = .ok (.getfield 220, 3) := by decide +kernel
theorem dX5_ifDivided_87 : decode cX5_ifDivided 87 = .ok (.invokevirtual 111, 3) := by decide +kernel
theorem dX5_ifDivided_90 : decode cX5_ifDivided 90 = .ok (.aload_n 0, 1) := by decide +kernel
theorem dX5_ifDivided_91 : decode cX5_ifDivided 91 = .ok (.getfield 28, 3) := by decide +kernel
theorem dX5_ifDivided_94 : decode cX5_ifDivided 94 = .ok (.bipush 127, 2) := by decide +kernel
theorem dX5_ifDivided_96 : decode cX5_ifDivided 96 = .ok (.invokevirtual 122, 3) := by decide +kernel
theorem dX5_ifDivided_99 : decode cX5_ifDivided 99 = .ok (.ireturn, 1) := by decide +kernel
theorem dX5_ifDivided_100 : decode cX5_ifDivided 100 = .ok (.aload_n 0, 1) := by decide +kernel
theorem dX5_ifDivided_101 : decode cX5_ifDivided 101 = .ok (.getfield 21, 3) := by decide +kernel
theorem dX5_ifDivided_104 : decode cX5_ifDivided 104 = .ok (.getfield 220, 3) := by decide +kernel
theorem dX5_ifDivided_107 : decode cX5_ifDivided 107 = .ok (.iconst 0, 1) := by decide +kernel
theorem dX5_ifDivided_108 : decode cX5_ifDivided 108 = .ok (.iaload, 1) := by decide +kernel
theorem dX5_ifDivided_109 : decode cX5_ifDivided 109 = .ok (.ireturn, 1) := by decide +kernel
theorem dX5_ifDivided_110 : decode cX5_ifDivided 110 = .ok (.aload_n 0, 1) := by decide +kernel
theorem dX5_ifDivided_111 : decode cX5_ifDivided 111 = .ok (.getfield 21, 3) := by decide +kernel
theorem dX5_ifDivided_114 : decode cX5_ifDivided 114 = .ok (.getfield 221, 3) := by decide +kernel
theorem dX5_ifDivided_117 : decode cX5_ifDivided 117 = .ok (.ireturn, 1) := by decide +kernel
set_option maxRecDepth 20000 in
theorem ggX5_bestTrade_X4_measure : GoodIn wsX5_bestTrade wsX4_measure := goodIn_r _ [11, 12, 13, 14, 15, 16, 17, 18, 19, 20, 21, 22, 91, 92, 93, 94, 95, 82, 83, 84, 85, 86, 87, 88, 89, 90] rfl (by decide +kernel)
set_option maxRecDepth 20000 in
theorem gX5_bestTrade_X4_measure : GoodIn wsX5_bestTrade (wsV RX5 111 RX4 yX4_measure wsX4_measure) := goodIn_app (goodIn_of _ (by decide +kernel)) ggX5_bestTrade_X4_measure
set_option maxRecDepth 20000 in
theorem ggX5_bestTrade_X4_findBestTrade : GoodIn wsX5_bestTrade wsX4_findBestTrade := goodIn_r _ [26, 27, 28, 29, 30, 31, 32, 10, 33, 13, 34, 35, 36, 37, 20, 38, 39, 40, 41, 42, 43, 12, 44, 45, 46, 47, 48, 49, 50, 51, 52, 53, 54, 55, 56, 15, 57, 58, 59, 60, 61, 62, 63, 64, 65, 66, 67, 68, 69, 70, 71, 72, 73, 74, 91, 92, 93, 94, 95, 82, 83, 84, 85, 86, 87, 88, 89, 90] rfl (by decide +kernel)
set_option maxRecDepth 20000 in
theorem gX5_bestTrade_X4_findBestTrade : GoodIn wsX5_bestTrade (wsV RX5 126 RX4 yX4_findBestTrade wsX4_findBestTrade) := goodIn_app (goodIn_of _ (by decide +kernel)) ggX5_bestTrade_X4_findBestTrade
theorem dX5_bestTrade_0 : decode cX5_bestTrade 0 = .ok (.iload_n 1, 1) := by decide +kernel
theorem dX5_bestTrade_1 : decode cX5_bestTrade 1 = .ok (.ifCond .lt 8, 3) := by decide +kernel
theorem dX5_bestTrade_4 : decode cX5_bestTrade 4 = .ok (.iload_n 1, 1) := by decide +kernel
theorem dX5_bestTrade_5 : decode cX5_bestTrade 5 = .ok (.iconst 1, 1) := by decide +kernel
theorem dX5_bestTrade_6 : decode cX5_bestTrade 6 = .ok (.if_icmp .le 6, 3) := by decide +kernel
theorem dX5_bestTrade_9 : decode cX5_bestTrade 9 = .ok (.bipush (-2), 2) := by decide +kernel
theorem dX5_bestTrade_11 : decode cX5_bestTrade 11 = .ok (.ireturn, 1) := by decide +kernel
theorem dX5_bestTrade_12 : decode cX5_bestTrade 12 = .ok (.aload_n 0, 1) := by decide +kernel
theorem dX5_bestTrade_13 : decode cX5_bestTrade 13 = .ok (.getfield 28, 3) := by decide +kernel
theorem dX5_bestTrade_16 : decode cX5_bestTrade 16 = .ok (.aload_n 0, 1) := by decide +kernel
theorem dX5_bestTrade_17 : decode cX5_bestTrade 17 = .ok (.getfield 12, 3) := by decide +kernel
theorem dX5_bestTrade_20 : decode cX5_bestTrade 20 = .ok (.getfield 108, 3) := by decide +kernel
theorem dX5_bestTrade_23 : decode cX5_bestTrade 23 = .ok (.invokevirtual 111, 3) := by decide +kernel
theorem dX5_bestTrade_26 : decode cX5_bestTrade 26 = .ok (.aload_n 0, 1) := by decide +kernel
theorem dX5_bestTrade_27 : decode cX5_bestTrade 27 = .ok (.getfield 28, 3) := by decide +kernel
theorem dX5_bestTrade_30 : decode cX5_bestTrade 30 = .ok (.invokevirtual 126, 3) := by decide +kernel
theorem dX5_bestTrade_33 : decode cX5_bestTrade 33 = .ok (.ifCond .ne 6, 3) := by decide +kernel
theorem dX5_bestTrade_36 : decode cX5_bestTrade 36 = .ok (.bipush (-5), 2) := by decide +kernel
theorem dX5_bestTrade_38 : decode cX5_bestTrade 38 = .ok (.ireturn, 1) := by decide +kernel
theorem dX5_bestTrade_39 : decode cX5_bestTrade 39 = .ok (.iload_n 1, 1) := by decide +kernel
theorem dX5_bestTrade_40 : decode cX5_bestTrade 40 = .ok (.ifCond .ne 24, 3) := by decide +kernel
theorem dX5_bestTrade_43 : decode cX5_bestTrade 43 = .ok (.bipush 10, 2) := by decide +kernel
theorem dX5_bestTrade_45 : decode cX5_bestTrade 45 = .ok (.aload_n 0, 1) := by decide +kernel
theorem dX5_bestTrade_46 : decode cX5_bestTrade 46 = .ok (.getfield 28, 3) := by decide +kernel
theorem dX5_bestTrade_49 : decode cX5_bestTrade 49 = .ok (.getfield 130, 3) := by decide +kernel
theorem dX5_bestTrade_52 : decode cX5_bestTrade 52 = .ok (.imul, 1) := by decide +kernel
theorem dX5_bestTrade_53 : decode cX5_bestTrade 53 = .ok (.aload_n 0, 1) := by decide +kernel
theorem dX5_bestTrade_54 : decode cX5_bestTrade 54 = .ok (.getfield 28, 3) := by decide +kernel
theorem dX5_bestTrade_57 : decode cX5_bestTrade 57 = .ok (.getfield 133, 3) := by decide +kernel
theorem dX5_bestTrade_60 : decode cX5_bestTrade 60 = .ok (.iadd, 1) := by decide +kernel
theorem dX5_bestTrade_61 : decode cX5_bestTrade 61 = .ok (.goto 10, 3) := by decide +kernel
theorem dX5_bestTrade_64 : decode cX5_bestTrade 64 = .ok (.aload_n 0, 1) := by decide +kernel
theorem dX5_bestTrade_65 : decode cX5_bestTrade 65 = .ok (.getfield 28, 3) := by decide +kernel
theorem dX5_bestTrade_68 : decode cX5_bestTrade 68 = .ok (.getfield 224, 3) := by decide +kernel
theorem dX5_bestTrade_71 : decode cX5_bestTrade 71 = .ok (.ireturn, 1) := by decide +kernel
set_option maxRecDepth 20000 in
theorem ggX5_bestWithout_X5_enviesWithout : GoodIn wsX5_bestWithout wsX5_enviesWithout := goodIn_r _ [5, 6, 7, 8, 9, 10, 4, 11, 12, 13, 14, 15, 16, 17, 18, 19, 20, 21, 22, 23, 24, 25, 26, 27, 28, 29, 30, 31, 32, 33, 34, 35, 36, 37, 38, 39, 40, 41, 42, 43, 44, 45, 46, 47, 48, 49, 50, 51, 52, 53, 54, 55, 56, 57, 58, 59, 60, 61, 62, 63, 64, 65, 66, 67, 68, 69, 70, 71, 72, 73, 74, 75, 76, 77, 78, 79, 80, 81, 82, 83, 84, 85, 86, 87, 88, 89, 90, 91, 92, 93, 94, 95, 96, 97, 98, 99, 100, 101, 102, 103, 104, 105, 106, 107, 108, 109, 110, 111, 112, 113, 114, 115, 116, 117, 118, 119, 120, 121, 122, 123, 124, 125, 126, 127, 128, 129, 130, 131, 132, 133, 134, 135, 136, 137, 138, 139, 140, 141, 142, 143, 144, 145, 146, 147, 148, 149, 150] rfl (by decide +kernel)
set_option maxRecDepth 20000 in
theorem gX5_bestWithout_X5_enviesWithout : GoodIn wsX5_bestWithout (wsV RX5 227 RX5 yX5_enviesWithout wsX5_enviesWithout) := goodIn_app (goodIn_of _ (by decide +kernel)) ggX5_bestWithout_X5_enviesWithout
theorem dX5_bestWithout_0 : decode cX5_bestWithout 0 = .ok (.iload_n 1, 1) := by decide +kernel
theorem dX5_bestWithout_1 : decode cX5_bestWithout 1 = .ok (.ifCond .lt 8, 3) := by decide +kernel
theorem dX5_bestWithout_4 : decode cX5_bestWithout 4 = .ok (.iload_n 1, 1) := by decide +kernel
theorem dX5_bestWithout_5 : decode cX5_bestWithout 5 = .ok (.iconst 1, 1) := by decide +kernel
theorem dX5_bestWithout_6 : decode cX5_bestWithout 6 = .ok (.if_icmp .le 6, 3) := by decide +kernel
theorem dX5_bestWithout_9 : decode cX5_bestWithout 9 = .ok (.bipush (-2), 2) := by decide +kernel
theorem dX5_bestWithout_11 : decode cX5_bestWithout 11 = .ok (.ireturn, 1) := by decide +kernel
theorem dX5_bestWithout_12 : decode cX5_bestWithout 12 = .ok (.iconst 0, 1) := by decide +kernel
theorem dX5_bestWithout_13 : decode cX5_bestWithout 13 = .ok (.istore_n 2, 1) := by decide +kernel
theorem dX5_bestWithout_14 : decode cX5_bestWithout 14 = .ok (.aload_n 0, 1) := by decide +kernel
theorem dX5_bestWithout_15 : decode cX5_bestWithout 15 = .ok (.iconst 0, 1) := by decide +kernel
theorem dX5_bestWithout_16 : decode cX5_bestWithout 16 = .ok (.invokevirtual 227, 3) := by decide +kernel
theorem dX5_bestWithout_19 : decode cX5_bestWithout 19 = .ok (.istore_n 3, 1) := by decide +kernel
theorem dX5_bestWithout_20 : decode cX5_bestWithout 20 = .ok (.iconst 1, 1) := by decide +kernel
theorem dX5_bestWithout_21 : decode cX5_bestWithout 21 = .ok (.istore 4, 2) := by decide +kernel
theorem dX5_bestWithout_23 : decode cX5_bestWithout 23 = .ok (.iload 4, 2) := by decide +kernel
theorem dX5_bestWithout_25 : decode cX5_bestWithout 25 = .ok (.bipush 7, 2) := by decide +kernel
theorem dX5_bestWithout_27 : decode cX5_bestWithout 27 = .ok (.if_icmp .ge 29, 3) := by decide +kernel
theorem dX5_bestWithout_30 : decode cX5_bestWithout 30 = .ok (.aload_n 0, 1) := by decide +kernel
theorem dX5_bestWithout_31 : decode cX5_bestWithout 31 = .ok (.iload 4, 2) := by decide +kernel
theorem dX5_bestWithout_33 : decode cX5_bestWithout 33 = .ok (.invokevirtual 227, 3) := by decide +kernel
theorem dX5_bestWithout_36 : decode cX5_bestWithout 36 = .ok (.istore 5, 2) := by decide +kernel
theorem dX5_bestWithout_38 : decode cX5_bestWithout 38 = .ok (.iload 5, 2) := by decide +kernel
theorem dX5_bestWithout_40 : decode cX5_bestWithout 40 = .ok (.iload_n 3, 1) := by decide +kernel
theorem dX5_bestWithout_41 : decode cX5_bestWithout 41 = .ok (.if_icmp .ge 9, 3) := by decide +kernel
theorem dX5_bestWithout_44 : decode cX5_bestWithout 44 = .ok (.iload 4, 2) := by decide +kernel
theorem dX5_bestWithout_46 : decode cX5_bestWithout 46 = .ok (.istore_n 2, 1) := by decide +kernel
theorem dX5_bestWithout_47 : decode cX5_bestWithout 47 = .ok (.iload 5, 2) := by decide +kernel
theorem dX5_bestWithout_49 : decode cX5_bestWithout 49 = .ok (.istore_n 3, 1) := by decide +kernel
theorem dX5_bestWithout_50 : decode cX5_bestWithout 50 = .ok (.iinc 4 1, 3) := by decide +kernel
theorem dX5_bestWithout_53 : decode cX5_bestWithout 53 = .ok (.goto (-30), 3) := by decide +kernel
theorem dX5_bestWithout_56 : decode cX5_bestWithout 56 = .ok (.iload_n 1, 1) := by decide +kernel
theorem dX5_bestWithout_57 : decode cX5_bestWithout 57 = .ok (.ifCond .ne 7, 3) := by decide +kernel
theorem dX5_bestWithout_60 : decode cX5_bestWithout 60 = .ok (.iload_n 2, 1) := by decide +kernel
theorem dX5_bestWithout_61 : decode cX5_bestWithout 61 = .ok (.goto 4, 3) := by decide +kernel
theorem dX5_bestWithout_64 : decode cX5_bestWithout 64 = .ok (.iload_n 3, 1) := by decide +kernel
theorem dX5_bestWithout_65 : decode cX5_bestWithout 65 = .ok (.ireturn, 1) := by decide +kernel
theorem dX5_isPlot_0 : decode cX5_isPlot 0 = .ok (.iload_n 0, 1) := by decide +kernel
theorem dX5_isPlot_1 : decode cX5_isPlot 1 = .ok (.ifCond .lt 13, 3) := by decide +kernel
theorem dX5_isPlot_4 : decode cX5_isPlot 4 = .ok (.iload_n 0, 1) := by decide +kernel
theorem dX5_isPlot_5 : decode cX5_isPlot 5 = .ok (.bipush 24, 2) := by decide +kernel
theorem dX5_isPlot_7 : decode cX5_isPlot 7 = .ok (.if_icmp .ge 7, 3) := by decide +kernel
theorem dX5_isPlot_10 : decode cX5_isPlot 10 = .ok (.iconst 1, 1) := by decide +kernel
theorem dX5_isPlot_11 : decode cX5_isPlot 11 = .ok (.goto 4, 3) := by decide +kernel
theorem dX5_isPlot_14 : decode cX5_isPlot 14 = .ok (.iconst 0, 1) := by decide +kernel
theorem dX5_isPlot_15 : decode cX5_isPlot 15 = .ok (.ireturn, 1) := by decide +kernel
theorem dX5_isCrop_0 : decode cX5_isCrop 0 = .ok (.iload_n 0, 1) := by decide +kernel
theorem dX5_isCrop_1 : decode cX5_isCrop 1 = .ok (.ifCond .lt 12, 3) := by decide +kernel
theorem dX5_isCrop_4 : decode cX5_isCrop 4 = .ok (.iload_n 0, 1) := by decide +kernel
theorem dX5_isCrop_5 : decode cX5_isCrop 5 = .ok (.iconst 4, 1) := by decide +kernel
theorem dX5_isCrop_6 : decode cX5_isCrop 6 = .ok (.if_icmp .ge 7, 3) := by decide +kernel
theorem dX5_isCrop_9 : decode cX5_isCrop 9 = .ok (.iconst 1, 1) := by decide +kernel
theorem dX5_isCrop_10 : decode cX5_isCrop 10 = .ok (.goto 4, 3) := by decide +kernel
theorem dX5_isCrop_13 : decode cX5_isCrop 13 = .ok (.iconst 0, 1) := by decide +kernel
theorem dX5_isCrop_14 : decode cX5_isCrop 14 = .ok (.ireturn, 1) := by decide +kernel
theorem dX5_isCousin_0 : decode cX5_isCousin 0 = .ok (.iload_n 0, 1) := by decide +kernel
theorem dX5_isCousin_1 : decode cX5_isCousin 1 = .ok (.ifCond .lt 13, 3) := by decide +kernel
theorem dX5_isCousin_4 : decode cX5_isCousin 4 = .ok (.iload_n 0, 1) := by decide +kernel
theorem dX5_isCousin_5 : decode cX5_isCousin 5 = .ok (.bipush 7, 2) := by decide +kernel
theorem dX5_isCousin_7 : decode cX5_isCousin 7 = .ok (.if_icmp .ge 7, 3) := by decide +kernel
theorem dX5_isCousin_10 : decode cX5_isCousin 10 = .ok (.iconst 1, 1) := by decide +kernel
theorem dX5_isCousin_11 : decode cX5_isCousin 11 = .ok (.goto 4, 3) := by decide +kernel
theorem dX5_isCousin_14 : decode cX5_isCousin 14 = .ok (.iconst 0, 1) := by decide +kernel
theorem dX5_isCousin_15 : decode cX5_isCousin 15 = .ok (.ireturn, 1) := by decide +kernel
theorem dX5_isDigit_0 : decode cX5_isDigit 0 = .ok (.iload_n 0, 1) := by decide +kernel
theorem dX5_isDigit_1 : decode cX5_isDigit 1 = .ok (.ifCond .lt 13, 3) := by decide +kernel
theorem dX5_isDigit_4 : decode cX5_isDigit 4 = .ok (.iload_n 0, 1) := by decide +kernel
theorem dX5_isDigit_5 : decode cX5_isDigit 5 = .ok (.bipush 9, 2) := by decide +kernel
theorem dX5_isDigit_7 : decode cX5_isDigit 7 = .ok (.if_icmp .gt 7, 3) := by decide +kernel
theorem dX5_isDigit_10 : decode cX5_isDigit 10 = .ok (.iconst 1, 1) := by decide +kernel
theorem dX5_isDigit_11 : decode cX5_isDigit 11 = .ok (.goto 4, 3) := by decide +kernel
theorem dX5_isDigit_14 : decode cX5_isDigit 14 = .ok (.iconst 0, 1) := by decide +kernel
theorem dX5_isDigit_15 : decode cX5_isDigit 15 = .ok (.ireturn, 1) := by decide +kernel
theorem dX5_isParty_0 : decode cX5_isParty 0 = .ok (.iload_n 0, 1) := by decide +kernel
theorem dX5_isParty_1 : decode cX5_isParty 1 = .ok (.iconst 1, 1) := by decide +kernel
theorem dX5_isParty_2 : decode cX5_isParty 2 = .ok (.if_icmp .lt 13, 3) := by decide +kernel
theorem dX5_isParty_5 : decode cX5_isParty 5 = .ok (.iload_n 0, 1) := by decide +kernel
theorem dX5_isParty_6 : decode cX5_isParty 6 = .ok (.bipush 127, 2) := by decide +kernel
theorem dX5_isParty_8 : decode cX5_isParty 8 = .ok (.if_icmp .gt 7, 3) := by decide +kernel
theorem dX5_isParty_11 : decode cX5_isParty 11 = .ok (.iconst 1, 1) := by decide +kernel
theorem dX5_isParty_12 : decode cX5_isParty 12 = .ok (.goto 4, 3) := by decide +kernel
theorem dX5_isParty_15 : decode cX5_isParty 15 = .ok (.iconst 0, 1) := by decide +kernel
theorem dX5_isParty_16 : decode cX5_isParty 16 = .ok (.ireturn, 1) := by decide +kernel
theorem dX5_isSettingValue_0 : decode cX5_isSettingValue 0 = .ok (.iload_n 0, 1) := by decide +kernel
theorem dX5_isSettingValue_1 : decode cX5_isSettingValue 1 = .ok (.ifCond .ne 18, 3) := by decide +kernel
theorem dX5_isSettingValue_4 : decode cX5_isSettingValue 4 = .ok (.iload_n 1, 1) := by decide +kernel
theorem dX5_isSettingValue_5 : decode cX5_isSettingValue 5 = .ok (.ifCond .eq 8, 3) := by decide +kernel
theorem dX5_isSettingValue_8 : decode cX5_isSettingValue 8 = .ok (.iload_n 1, 1) := by decide +kernel
theorem dX5_isSettingValue_9 : decode cX5_isSettingValue 9 = .ok (.iconst 1, 1) := by decide +kernel
theorem dX5_isSettingValue_10 : decode cX5_isSettingValue 10 = .ok (.if_icmp .ne 7, 3) := by decide +kernel
theorem dX5_isSettingValue_13 : decode cX5_isSettingValue 13 = .ok (.iconst 1, 1) := by decide +kernel
theorem dX5_isSettingValue_14 : decode cX5_isSettingValue 14 = .ok (.goto 4, 3) := by decide +kernel
theorem dX5_isSettingValue_17 : decode cX5_isSettingValue 17 = .ok (.iconst 0, 1) := by decide +kernel
theorem dX5_isSettingValue_18 : decode cX5_isSettingValue 18 = .ok (.ireturn, 1) := by decide +kernel
theorem dX5_isSettingValue_19 : decode cX5_isSettingValue 19 = .ok (.iload_n 1, 1) := by decide +kernel
theorem dX5_isSettingValue_20 : decode cX5_isSettingValue 20 = .ok (.iconst 1, 1) := by decide +kernel
theorem dX5_isSettingValue_21 : decode cX5_isSettingValue 21 = .ok (.if_icmp .lt 13, 3) := by decide +kernel
theorem dX5_isSettingValue_24 : decode cX5_isSettingValue 24 = .ok (.iload_n 1, 1) := by decide +kernel
theorem dX5_isSettingValue_25 : decode cX5_isSettingValue 25 = .ok (.bipush 10, 2) := by decide +kernel
theorem dX5_isSettingValue_27 : decode cX5_isSettingValue 27 = .ok (.if_icmp .gt 7, 3) := by decide +kernel
theorem dX5_isSettingValue_30 : decode cX5_isSettingValue 30 = .ok (.iconst 1, 1) := by decide +kernel
theorem dX5_isSettingValue_31 : decode cX5_isSettingValue 31 = .ok (.goto 4, 3) := by decide +kernel
theorem dX5_isSettingValue_34 : decode cX5_isSettingValue 34 = .ok (.iconst 0, 1) := by decide +kernel
theorem dX5_isSettingValue_35 : decode cX5_isSettingValue 35 = .ok (.ireturn, 1) := by decide +kernel
theorem dX5_contains_0 : decode cX5_contains 0 = .ok (.iload_n 0, 1) := by decide +kernel
theorem dX5_contains_1 : decode cX5_contains 1 = .ok (.iconst 1, 1) := by decide +kernel
theorem dX5_contains_2 : decode cX5_contains 2 = .ok (.iload_n 1, 1) := by decide +kernel
theorem dX5_contains_3 : decode cX5_contains 3 = .ok (.ishl, 1) := by decide +kernel
theorem dX5_contains_4 : decode cX5_contains 4 = .ok (.iand, 1) := by decide +kernel
theorem dX5_contains_5 : decode cX5_contains 5 = .ok (.ifCond .eq 7, 3) := by decide +kernel
theorem dX5_contains_8 : decode cX5_contains 8 = .ok (.iconst 1, 1) := by decide +kernel
theorem dX5_contains_9 : decode cX5_contains 9 = .ok (.goto 4, 3) := by decide +kernel
theorem dX5_contains_12 : decode cX5_contains 12 = .ok (.iconst 0, 1) := by decide +kernel
theorem dX5_contains_13 : decode cX5_contains 13 = .ok (.ireturn, 1) := by decide +kernel
theorem dX5_without_0 : decode cX5_without 0 = .ok (.iload_n 0, 1) := by decide +kernel
theorem dX5_without_1 : decode cX5_without 1 = .ok (.iconst 1, 1) := by decide +kernel
theorem dX5_without_2 : decode cX5_without 2 = .ok (.iload_n 1, 1) := by decide +kernel
theorem dX5_without_3 : decode cX5_without 3 = .ok (.ishl, 1) := by decide +kernel
theorem dX5_without_4 : decode cX5_without 4 = .ok (.iconst (-1), 1) := by decide +kernel
theorem dX5_without_5 : decode cX5_without 5 = .ok (.ixor, 1) := by decide +kernel
theorem dX5_without_6 : decode cX5_without 6 = .ok (.iand, 1) := by decide +kernel
theorem dX5_without_7 : decode cX5_without 7 = .ok (.ireturn, 1) := by decide +kernel
theorem dX5_hundredths_0 : decode cX5_hundredths 0 = .ok (.iload_n 1, 1) := by decide +kernel
theorem dX5_hundredths_1 : decode cX5_hundredths 1 = .ok (.ifCond .ne 7, 3) := by decide +kernel
theorem dX5_hundredths_4 : decode cX5_hundredths 4 = .ok (.iconst 0, 1) := by decide +kernel
theorem dX5_hundredths_5 : decode cX5_hundredths 5 = .ok (.goto 9, 3) := by decide +kernel
theorem dX5_hundredths_8 : decode cX5_hundredths 8 = .ok (.iload_n 0, 1) := by decide +kernel
theorem dX5_hundredths_9 : decode cX5_hundredths 9 = .ok (.bipush 100, 2) := by decide +kernel
theorem dX5_hundredths_11 : decode cX5_hundredths 11 = .ok (.imul, 1) := by decide +kernel
theorem dX5_hundredths_12 : decode cX5_hundredths 12 = .ok (.iload_n 1, 1) := by decide +kernel
theorem dX5_hundredths_13 : decode cX5_hundredths 13 = .ok (.idiv, 1) := by decide +kernel
theorem dX5_hundredths_14 : decode cX5_hundredths 14 = .ok (.ireturn, 1) := by decide +kernel
set_option maxRecDepth 20000 in
theorem ggX5_divideNow_X0_run : GoodIn wsX5_divideNow wsX0_run := goodIn_r _ [17, 18, 19, 20, 21, 22, 23, 24, 25, 16, 26, 27, 28, 29, 30, 31, 32, 33, 34, 35, 36, 37, 38, 39, 40, 41, 42, 43, 44, 45, 46, 47, 48, 49, 50, 51, 52, 53, 54, 55, 56, 57, 58, 59, 60, 61, 62, 63, 64, 65, 66, 67, 68, 69, 70, 71, 72, 73, 74, 75, 76, 77, 78, 79, 80, 81, 82, 83, 84, 85, 86, 87, 88, 89, 90, 98, 99, 100, 101, 102, 103, 104, 105, 106, 107, 108, 109, 110, 111, 112, 113, 114] rfl (by decide +kernel)
set_option maxRecDepth 20000 in
theorem gX5_divideNow_X0_run : GoodIn wsX5_divideNow (wsV RX5 216 RX0 yX0_run wsX0_run) := goodIn_app (goodIn_of _ (by decide +kernel)) ggX5_divideNow_X0_run
theorem dX5_divideNow_0 : decode cX5_divideNow 0 = .ok (.aload_n 0, 1) := by decide +kernel
theorem dX5_divideNow_1 : decode cX5_divideNow 1 = .ok (.getfield 21, 3) := by decide +kernel
theorem dX5_divideNow_4 : decode cX5_divideNow 4 = .ok (.iload_n 1, 1) := by decide +kernel
theorem dX5_divideNow_5 : decode cX5_divideNow 5 = .ok (.invokevirtual 216, 3) := by decide +kernel
theorem dX5_divideNow_8 : decode cX5_divideNow 8 = .ok (.aload_n 0, 1) := by decide +kernel
theorem dX5_divideNow_9 : decode cX5_divideNow 9 = .ok (.getfield 21, 3) := by decide +kernel
theorem dX5_divideNow_12 : decode cX5_divideNow 12 = .ok (.getfield 220, 3) := by decide +kernel
theorem dX5_divideNow_15 : decode cX5_divideNow 15 = .ok (.iconst 0, 1) := by decide +kernel
theorem dX5_divideNow_16 : decode cX5_divideNow 16 = .ok (.aload_n 0, 1) := by decide +kernel
theorem dX5_divideNow_17 : decode cX5_divideNow 17 = .ok (.getfield 12, 3) := by decide +kernel
theorem dX5_divideNow_20 : decode cX5_divideNow 20 = .ok (.getfield 108, 3) := by decide +kernel
theorem dX5_divideNow_23 : decode cX5_divideNow 23 = .ok (.iconst 0, 1) := by decide +kernel
theorem dX5_divideNow_24 : decode cX5_divideNow 24 = .ok (.bipush 24, 2) := by decide +kernel
theorem dX5_divideNow_26 : decode cX5_divideNow 26 = .ok (.invokestatic 230, 3) := by decide +kernel
theorem dX5_divideNow_29 : decode cX5_divideNow 29 = .ok (.aload_n 0, 1) := by decide +kernel
theorem dX5_divideNow_30 : decode cX5_divideNow 30 = .ok (.getfield 12, 3) := by decide +kernel
theorem dX5_divideNow_33 : decode cX5_divideNow 33 = .ok (.dup, 1) := by decide +kernel
theorem dX5_divideNow_34 : decode cX5_divideNow 34 = .ok (.getfield 209, 3) := by decide +kernel
theorem dX5_divideNow_37 : decode cX5_divideNow 37 = .ok (.aload_n 0, 1) := by decide +kernel
theorem dX5_divideNow_38 : decode cX5_divideNow 38 = .ok (.getfield 21, 3) := by decide +kernel
theorem dX5_divideNow_41 : decode cX5_divideNow 41 = .ok (.getfield 104, 3) := by decide +kernel
theorem dX5_divideNow_44 : decode cX5_divideNow 44 = .ok (.iadd, 1) := by decide +kernel
theorem dX5_divideNow_45 : decode cX5_divideNow 45 = .ok (.putfield 209, 3) := by decide +kernel
theorem dX5_divideNow_48 : decode cX5_divideNow 48 = .ok (.aload_n 0, 1) := by decide +kernel
theorem dX5_divideNow_49 : decode cX5_divideNow 49 = .ok (.getfield 12, 3) := by decide +kernel
theorem dX5_divideNow_52 : decode cX5_divideNow 52 = .ok (.dup, 1) := by decide +kernel
theorem dX5_divideNow_53 : decode cX5_divideNow 53 = .ok (.getfield 210, 3) := by decide +kernel
theorem dX5_divideNow_56 : decode cX5_divideNow 56 = .ok (.aload_n 0, 1) := by decide +kernel
theorem dX5_divideNow_57 : decode cX5_divideNow 57 = .ok (.getfield 21, 3) := by decide +kernel
theorem dX5_divideNow_60 : decode cX5_divideNow 60 = .ok (.getfield 219, 3) := by decide +kernel
theorem dX5_divideNow_63 : decode cX5_divideNow 63 = .ok (.iadd, 1) := by decide +kernel
theorem dX5_divideNow_64 : decode cX5_divideNow 64 = .ok (.putfield 210, 3) := by decide +kernel
theorem dX5_divideNow_67 : decode cX5_divideNow 67 = .ok (.return_, 1) := by decide +kernel
set_option maxRecDepth 20000 in
theorem ggX5_tradeNow_X1_exchange : GoodIn wsX5_tradeNow wsX1_exchange := goodIn_r _ [8, 9, 23, 24, 25, 26, 27, 28, 29, 30, 31] rfl (by decide +kernel)
set_option maxRecDepth 20000 in
theorem gX5_tradeNow_X1_exchange : GoodIn wsX5_tradeNow (wsV RX5 236 RX1 yX1_exchange wsX1_exchange) := goodIn_app (goodIn_of _ (by decide +kernel)) ggX5_tradeNow_X1_exchange
set_option maxRecDepth 20000 in
theorem ggX5_tradeNow_X4_exchange : GoodIn wsX5_tradeNow wsX4_exchange := goodIn_r _ [14, 15, 32, 33, 34, 35, 36] rfl (by decide +kernel)
set_option maxRecDepth 20000 in
theorem gX5_tradeNow_X4_exchange : GoodIn wsX5_tradeNow (wsV RX5 239 RX4 yX4_exchange wsX4_exchange) := goodIn_app (goodIn_of _ (by decide +kernel)) ggX5_tradeNow_X4_exchange
theorem dX5_tradeNow_0 : decode cX5_tradeNow 0 = .ok (.aload_n 0, 1) := by decide +kernel
theorem dX5_tradeNow_1 : decode cX5_tradeNow 1 = .ok (.getfield 12, 3) := by decide +kernel
theorem dX5_tradeNow_4 : decode cX5_tradeNow 4 = .ok (.iload_n 1, 1) := by decide +kernel
theorem dX5_tradeNow_5 : decode cX5_tradeNow 5 = .ok (.iload_n 2, 1) := by decide +kernel
theorem dX5_tradeNow_6 : decode cX5_tradeNow 6 = .ok (.invokevirtual 236, 3) := by decide +kernel
theorem dX5_tradeNow_9 : decode cX5_tradeNow 9 = .ok (.aload_n 0, 1) := by decide +kernel
theorem dX5_tradeNow_10 : decode cX5_tradeNow 10 = .ok (.getfield 12, 3) := by decide +kernel
theorem dX5_tradeNow_13 : decode cX5_tradeNow 13 = .ok (.dup, 1) := by decide +kernel
theorem dX5_tradeNow_14 : decode cX5_tradeNow 14 = .ok (.getfield 213, 3) := by decide +kernel
theorem dX5_tradeNow_17 : decode cX5_tradeNow 17 = .ok (.iconst 1, 1) := by decide +kernel
theorem dX5_tradeNow_18 : decode cX5_tradeNow 18 = .ok (.iadd, 1) := by decide +kernel
theorem dX5_tradeNow_19 : decode cX5_tradeNow 19 = .ok (.putfield 213, 3) := by decide +kernel
theorem dX5_tradeNow_22 : decode cX5_tradeNow 22 = .ok (.aload_n 0, 1) := by decide +kernel
theorem dX5_tradeNow_23 : decode cX5_tradeNow 23 = .ok (.getfield 28, 3) := by decide +kernel
theorem dX5_tradeNow_26 : decode cX5_tradeNow 26 = .ok (.iload_n 1, 1) := by decide +kernel
theorem dX5_tradeNow_27 : decode cX5_tradeNow 27 = .ok (.iload_n 2, 1) := by decide +kernel
theorem dX5_tradeNow_28 : decode cX5_tradeNow 28 = .ok (.invokevirtual 239, 3) := by decide +kernel
theorem dX5_tradeNow_31 : decode cX5_tradeNow 31 = .ok (.return_, 1) := by decide +kernel
set_option maxRecDepth 20000 in
theorem ggX5_enviesWithout_X5_without : GoodIn wsX5_enviesWithout wsX5_without := goodIn_r _ [7] rfl (by decide +kernel)
set_option maxRecDepth 20000 in
theorem gX5_enviesWithout_X5_without : GoodIn wsX5_enviesWithout (va_wsS RX5 240 yX5_without wsX5_without) := goodIn_app (goodIn_of _ (by decide +kernel)) ggX5_enviesWithout_X5_without
set_option maxRecDepth 20000 in
theorem ggX5_enviesWithout_X0_run : GoodIn wsX5_enviesWithout wsX0_run := goodIn_r _ [12, 13, 14, 15, 16, 17, 18, 19, 20, 11, 21, 22, 23, 24, 25, 26, 27, 28, 29, 30, 31, 32, 33, 34, 35, 36, 37, 38, 39, 40, 41, 42, 43, 44, 45, 46, 6, 47, 48, 49, 50, 51, 52, 53, 54, 55, 56, 57, 58, 59, 60, 61, 62, 63, 64, 65, 66, 67, 68, 69, 70, 71, 72, 73, 74, 75, 76, 77, 78, 5, 7, 79, 80, 81, 82, 125, 126, 127, 128, 129, 130, 131, 132, 133, 134, 135, 136, 137, 138, 139, 140, 141] rfl (by decide +kernel)
set_option maxRecDepth 20000 in
theorem gX5_enviesWithout_X0_run : GoodIn wsX5_enviesWithout (wsV RX5 216 RX0 yX0_run wsX0_run) := goodIn_app (goodIn_of _ (by decide +kernel)) ggX5_enviesWithout_X0_run
set_option maxRecDepth 20000 in
theorem ggX5_enviesWithout_X4_measure : GoodIn wsX5_enviesWithout wsX4_measure := goodIn_r _ [87, 88, 89, 90, 6, 91, 92, 58, 59, 27, 60, 56, 142, 143, 144, 145, 146, 133, 134, 135, 136, 137, 138, 139, 140, 141] rfl (by decide +kernel)
set_option maxRecDepth 20000 in
theorem gX5_enviesWithout_X4_measure : GoodIn wsX5_enviesWithout (wsV RX5 111 RX4 yX4_measure wsX4_measure) := goodIn_app (goodIn_of _ (by decide +kernel)) ggX5_enviesWithout_X4_measure
set_option maxRecDepth 20000 in
theorem ggX5_enviesWithout_X4_enviesAmong : GoodIn wsX5_enviesWithout wsX4_enviesAmong := goodIn_r _ [96, 46, 6, 47, 97, 98, 99, 86, 100, 101, 102, 103, 104, 105, 106, 107, 108, 109, 110, 111, 112, 88, 89, 113, 114, 115, 116, 117, 142, 143, 144, 145, 146, 133, 134, 135, 136, 137, 138, 139, 140, 141] rfl (by decide +kernel)
set_option maxRecDepth 20000 in
theorem gX5_enviesWithout_X4_enviesAmong : GoodIn wsX5_enviesWithout (wsV RX5 122 RX4 yX4_enviesAmong wsX4_enviesAmong) := goodIn_app (goodIn_of _ (by decide +kernel)) ggX5_enviesWithout_X4_enviesAmong
theorem dX5_enviesWithout_0 : decode cX5_enviesWithout 0 = .ok (.bipush 127, 2) := by decide +kernel
theorem dX5_enviesWithout_2 : decode cX5_enviesWithout 2 = .ok (.iload_n 1, 1) := by decide +kernel
theorem dX5_enviesWithout_3 : decode cX5_enviesWithout 3 = .ok (.invokestatic 240, 3) := by decide +kernel
theorem dX5_enviesWithout_6 : decode cX5_enviesWithout 6 = .ok (.istore_n 2, 1) := by decide +kernel
theorem dX5_enviesWithout_7 : decode cX5_enviesWithout 7 = .ok (.aload_n 0, 1) := by decide +kernel
theorem dX5_enviesWithout_8 : decode cX5_enviesWithout 8 = .ok (.getfield 21, 3) := by decide +kernel
theorem dX5_enviesWithout_11 : decode cX5_enviesWithout 11 = .ok (.iload_n 2, 1) := by decide +kernel
theorem dX5_enviesWithout_12 : decode cX5_enviesWithout 12 = .ok (.invokevirtual 216, 3) := by decide +kernel
theorem dX5_enviesWithout_15 : decode cX5_enviesWithout 15 = .ok (.aload_n 0, 1) := by decide +kernel
theorem dX5_enviesWithout_16 : decode cX5_enviesWithout 16 = .ok (.getfield 28, 3) := by decide +kernel
theorem dX5_enviesWithout_19 : decode cX5_enviesWithout 19 = .ok (.aload_n 0, 1) := by decide +kernel
theorem dX5_enviesWithout_20 : decode cX5_enviesWithout 20 = .ok (.getfield 21, 3) := by decide +kernel
theorem dX5_enviesWithout_23 : decode cX5_enviesWithout 23 = .ok (.getfield 220, 3) := by decide +kernel
theorem dX5_enviesWithout_26 : decode cX5_enviesWithout 26 = .ok (.invokevirtual 111, 3) := by decide +kernel
theorem dX5_enviesWithout_29 : decode cX5_enviesWithout 29 = .ok (.aload_n 0, 1) := by decide +kernel
theorem dX5_enviesWithout_30 : decode cX5_enviesWithout 30 = .ok (.getfield 28, 3) := by decide +kernel
theorem dX5_enviesWithout_33 : decode cX5_enviesWithout 33 = .ok (.iload_n 2, 1) := by decide +kernel
theorem dX5_enviesWithout_34 : decode cX5_enviesWithout 34 = .ok (.invokevirtual 122, 3) := by decide +kernel
theorem dX5_enviesWithout_37 : decode cX5_enviesWithout 37 = .ok (.ireturn, 1) := by decide +kernel
set_option maxRecDepth 20000 in
theorem ggX5_carryOutOrder_X1_putAmount : GoodIn wsX5_carryOutOrder wsX1_putAmount := goodIn_r _ [12, 13, 14, 15, 16, 11, 17, 18, 19, 138, 139, 140, 141, 142, 143, 144, 145, 146] rfl (by decide +kernel)
set_option maxRecDepth 20000 in
theorem gX5_carryOutOrder_X1_putAmount : GoodIn wsX5_carryOutOrder (wsV RX5 70 RX1 yX1_putAmount wsX1_putAmount) := goodIn_app (goodIn_of _ (by decide +kernel)) ggX5_carryOutOrder_X1_putAmount
set_option maxRecDepth 20000 in
theorem ggX5_carryOutOrder_X1_putWeight : GoodIn wsX5_carryOutOrder wsX1_putWeight := goodIn_r _ [23, 18, 24, 25, 26, 11, 27, 14, 15, 16, 17, 13, 19, 138, 139, 140, 141, 142, 143, 144, 145, 146] rfl (by decide +kernel)
set_option maxRecDepth 20000 in
theorem gX5_carryOutOrder_X1_putWeight : GoodIn wsX5_carryOutOrder (wsV RX5 80 RX1 yX1_putWeight wsX1_putWeight) := goodIn_app (goodIn_of _ (by decide +kernel)) ggX5_carryOutOrder_X1_putWeight
set_option maxRecDepth 20000 in
theorem ggX5_carryOutOrder_X1_putGrudge : GoodIn wsX5_carryOutOrder wsX1_putGrudge := goodIn_r _ [31, 32, 138, 139, 140, 141, 142, 143, 144, 145, 146] rfl (by decide +kernel)
set_option maxRecDepth 20000 in
theorem gX5_carryOutOrder_X1_putGrudge : GoodIn wsX5_carryOutOrder (wsV RX5 87 RX1 yX1_putGrudge wsX1_putGrudge) := goodIn_app (goodIn_of _ (by decide +kernel)) ggX5_carryOutOrder_X1_putGrudge
set_option maxRecDepth 20000 in
theorem ggX5_carryOutOrder_X5_divideNow : GoodIn wsX5_carryOutOrder wsX5_divideNow := goodIn_r _ [37, 38, 39, 3, 40, 41, 42, 43, 44, 45, 46, 47, 48, 49, 50, 51, 52, 53, 54, 55, 56, 57, 58, 59, 60, 61, 62, 63, 64, 65, 66, 67, 11, 68, 69, 70, 71, 72, 73, 32, 74, 75, 76, 77, 78, 79, 80, 81, 82, 83, 84, 85, 36, 86, 87, 88, 89, 90, 91, 92, 93, 94, 19, 95, 96, 97, 98, 99, 100, 101, 102, 103, 104, 105, 106, 107, 108, 109, 110, 111, 112, 113, 114, 115, 116, 117, 118, 119, 120, 121, 122, 123, 124, 125, 126, 127, 128, 129, 147, 148, 149, 150, 151, 152, 153, 154, 138, 139, 140, 141, 142, 143, 144, 145, 146] rfl (by decide +kernel)
set_option maxRecDepth 20000 in
theorem gX5_carryOutOrder_X5_divideNow : GoodIn wsX5_carryOutOrder (wsV RX5 100 RX5 yX5_divideNow wsX5_divideNow) := goodIn_app (goodIn_of _ (by decide +kernel)) ggX5_carryOutOrder_X5_divideNow
theorem dX5_carryOutOrder_0 : decode cX5_carryOutOrder 0 = .ok (.aload_n 0, 1) := by decide +kernel
theorem dX5_carryOutOrder_1 : decode cX5_carryOutOrder 1 = .ok (.getfield 35, 3) := by decide +kernel
theorem dX5_carryOutOrder_4 : decode cX5_carryOutOrder 4 = .ok (.getfield 243, 3) := by decide +kernel
theorem dX5_carryOutOrder_7 : decode cX5_carryOutOrder 7 = .ok (.tableswitch 138 0 2 #[25, 65, 105], 25) := by decide +kernel
theorem dX5_carryOutOrder_32 : decode cX5_carryOutOrder 32 = .ok (.iconst 0, 1) := by decide +kernel
theorem dX5_carryOutOrder_33 : decode cX5_carryOutOrder 33 = .ok (.istore_n 1, 1) := by decide +kernel
theorem dX5_carryOutOrder_34 : decode cX5_carryOutOrder 34 = .ok (.iload_n 1, 1) := by decide +kernel
theorem dX5_carryOutOrder_35 : decode cX5_carryOutOrder 35 = .ok (.iconst 4, 1) := by decide +kernel
theorem dX5_carryOutOrder_36 : decode cX5_carryOutOrder 36 = .ok (.if_icmp .ge 33, 3) := by decide +kernel
theorem dX5_carryOutOrder_39 : decode cX5_carryOutOrder 39 = .ok (.aload_n 0, 1) := by decide +kernel
theorem dX5_carryOutOrder_40 : decode cX5_carryOutOrder 40 = .ok (.getfield 12, 3) := by decide +kernel
theorem dX5_carryOutOrder_43 : decode cX5_carryOutOrder 43 = .ok (.aload_n 0, 1) := by decide +kernel
theorem dX5_carryOutOrder_44 : decode cX5_carryOutOrder 44 = .ok (.getfield 35, 3) := by decide +kernel
theorem dX5_carryOutOrder_47 : decode cX5_carryOutOrder 47 = .ok (.getfield 246, 3) := by decide +kernel
theorem dX5_carryOutOrder_50 : decode cX5_carryOutOrder 50 = .ok (.iload_n 1, 1) := by decide +kernel
theorem dX5_carryOutOrder_51 : decode cX5_carryOutOrder 51 = .ok (.aload_n 0, 1) := by decide +kernel
theorem dX5_carryOutOrder_52 : decode cX5_carryOutOrder 52 = .ok (.getfield 35, 3) := by decide +kernel
theorem dX5_carryOutOrder_55 : decode cX5_carryOutOrder 55 = .ok (.getfield 249, 3) := by decide +kernel
theorem dX5_carryOutOrder_58 : decode cX5_carryOutOrder 58 = .ok (.iload_n 1, 1) := by decide +kernel
theorem dX5_carryOutOrder_59 : decode cX5_carryOutOrder 59 = .ok (.iaload, 1) := by decide +kernel
theorem dX5_carryOutOrder_60 : decode cX5_carryOutOrder 60 = .ok (.invokevirtual 70, 3) := by decide +kernel
theorem dX5_carryOutOrder_63 : decode cX5_carryOutOrder 63 = .ok (.iinc 1 1, 3) := by decide +kernel
theorem dX5_carryOutOrder_66 : decode cX5_carryOutOrder 66 = .ok (.goto (-32), 3) := by decide +kernel
theorem dX5_carryOutOrder_69 : decode cX5_carryOutOrder 69 = .ok (.goto 87, 3) := by decide +kernel
theorem dX5_carryOutOrder_72 : decode cX5_carryOutOrder 72 = .ok (.iconst 0, 1) := by decide +kernel
theorem dX5_carryOutOrder_73 : decode cX5_carryOutOrder 73 = .ok (.istore_n 1, 1) := by decide +kernel
theorem dX5_carryOutOrder_74 : decode cX5_carryOutOrder 74 = .ok (.iload_n 1, 1) := by decide +kernel
theorem dX5_carryOutOrder_75 : decode cX5_carryOutOrder 75 = .ok (.iconst 4, 1) := by decide +kernel
theorem dX5_carryOutOrder_76 : decode cX5_carryOutOrder 76 = .ok (.if_icmp .ge 33, 3) := by decide +kernel
theorem dX5_carryOutOrder_79 : decode cX5_carryOutOrder 79 = .ok (.aload_n 0, 1) := by decide +kernel
theorem dX5_carryOutOrder_80 : decode cX5_carryOutOrder 80 = .ok (.getfield 12, 3) := by decide +kernel
theorem dX5_carryOutOrder_83 : decode cX5_carryOutOrder 83 = .ok (.aload_n 0, 1) := by decide +kernel
theorem dX5_carryOutOrder_84 : decode cX5_carryOutOrder 84 = .ok (.getfield 35, 3) := by decide +kernel
theorem dX5_carryOutOrder_87 : decode cX5_carryOutOrder 87 = .ok (.getfield 246, 3) := by decide +kernel
theorem dX5_carryOutOrder_90 : decode cX5_carryOutOrder 90 = .ok (.iload_n 1, 1) := by decide +kernel
theorem dX5_carryOutOrder_91 : decode cX5_carryOutOrder 91 = .ok (.aload_n 0, 1) := by decide +kernel
theorem dX5_carryOutOrder_92 : decode cX5_carryOutOrder 92 = .ok (.getfield 35, 3) := by decide +kernel
theorem dX5_carryOutOrder_95 : decode cX5_carryOutOrder 95 = .ok (.getfield 249, 3) := by decide +kernel
theorem dX5_carryOutOrder_98 : decode cX5_carryOutOrder 98 = .ok (.iload_n 1, 1) := by decide +kernel
theorem dX5_carryOutOrder_99 : decode cX5_carryOutOrder 99 = .ok (.iaload, 1) := by decide +kernel
theorem dX5_carryOutOrder_100 : decode cX5_carryOutOrder 100 = .ok (.invokevirtual 80, 3) := by decide +kernel
theorem dX5_carryOutOrder_103 : decode cX5_carryOutOrder 103 = .ok (.iinc 1 1, 3) := by decide +kernel
theorem dX5_carryOutOrder_106 : decode cX5_carryOutOrder 106 = .ok (.goto (-32), 3) := by decide +kernel
theorem dX5_carryOutOrder_109 : decode cX5_carryOutOrder 109 = .ok (.goto 47, 3) := by decide +kernel
theorem dX5_carryOutOrder_112 : decode cX5_carryOutOrder 112 = .ok (.aload_n 0, 1) := by decide +kernel
theorem dX5_carryOutOrder_113 : decode cX5_carryOutOrder 113 = .ok (.getfield 12, 3) := by decide +kernel
theorem dX5_carryOutOrder_116 : decode cX5_carryOutOrder 116 = .ok (.aload_n 0, 1) := by decide +kernel
theorem dX5_carryOutOrder_117 : decode cX5_carryOutOrder 117 = .ok (.getfield 35, 3) := by decide +kernel
theorem dX5_carryOutOrder_120 : decode cX5_carryOutOrder 120 = .ok (.getfield 246, 3) := by decide +kernel
theorem dX5_carryOutOrder_123 : decode cX5_carryOutOrder 123 = .ok (.aload_n 0, 1) := by decide +kernel
theorem dX5_carryOutOrder_124 : decode cX5_carryOutOrder 124 = .ok (.getfield 35, 3) := by decide +kernel
theorem dX5_carryOutOrder_127 : decode cX5_carryOutOrder 127 = .ok (.getfield 252, 3) := by decide +kernel
theorem dX5_carryOutOrder_130 : decode cX5_carryOutOrder 130 = .ok (.aload_n 0, 1) := by decide +kernel
theorem dX5_carryOutOrder_131 : decode cX5_carryOutOrder 131 = .ok (.getfield 35, 3) := by decide +kernel
theorem dX5_carryOutOrder_134 : decode cX5_carryOutOrder 134 = .ok (.getfield 249, 3) := by decide +kernel
theorem dX5_carryOutOrder_137 : decode cX5_carryOutOrder 137 = .ok (.iconst 0, 1) := by decide +kernel
theorem dX5_carryOutOrder_138 : decode cX5_carryOutOrder 138 = .ok (.iaload, 1) := by decide +kernel
theorem dX5_carryOutOrder_139 : decode cX5_carryOutOrder 139 = .ok (.invokevirtual 87, 3) := by decide +kernel
theorem dX5_carryOutOrder_142 : decode cX5_carryOutOrder 142 = .ok (.goto 14, 3) := by decide +kernel
theorem dX5_carryOutOrder_145 : decode cX5_carryOutOrder 145 = .ok (.aload_n 0, 1) := by decide +kernel
theorem dX5_carryOutOrder_146 : decode cX5_carryOutOrder 146 = .ok (.aload_n 0, 1) := by decide +kernel
theorem dX5_carryOutOrder_147 : decode cX5_carryOutOrder 147 = .ok (.getfield 35, 3) := by decide +kernel
theorem dX5_carryOutOrder_150 : decode cX5_carryOutOrder 150 = .ok (.getfield 255, 3) := by decide +kernel
theorem dX5_carryOutOrder_153 : decode cX5_carryOutOrder 153 = .ok (.invokevirtual 100, 3) := by decide +kernel
theorem dX5_carryOutOrder_156 : decode cX5_carryOutOrder 156 = .ok (.return_, 1) := by decide +kernel
theorem dJ6_bitCount_0f7a4_0 : decode cJ6_bitCount_0f7a4 0 = .ok (.iload_n 0, 1) := by decide +kernel
theorem dJ6_bitCount_0f7a4_1 : decode cJ6_bitCount_0f7a4 1 = .ok (.iload_n 0, 1) := by decide +kernel
theorem dJ6_bitCount_0f7a4_2 : decode cJ6_bitCount_0f7a4 2 = .ok (.iconst 1, 1) := by decide +kernel
theorem dJ6_bitCount_0f7a4_3 : decode cJ6_bitCount_0f7a4 3 = .ok (.iushr, 1) := by decide +kernel
theorem dJ6_bitCount_0f7a4_4 : decode cJ6_bitCount_0f7a4 4 = .ok (.ldc_w 265, 3) := by decide +kernel
theorem dJ6_bitCount_0f7a4_7 : decode cJ6_bitCount_0f7a4 7 = .ok (.iand, 1) := by decide +kernel
theorem dJ6_bitCount_0f7a4_8 : decode cJ6_bitCount_0f7a4 8 = .ok (.isub, 1) := by decide +kernel
theorem dJ6_bitCount_0f7a4_9 : decode cJ6_bitCount_0f7a4 9 = .ok (.istore_n 0, 1) := by decide +kernel
theorem dJ6_bitCount_0f7a4_10 : decode cJ6_bitCount_0f7a4 10 = .ok (.iload_n 0, 1) := by decide +kernel
theorem dJ6_bitCount_0f7a4_11 : decode cJ6_bitCount_0f7a4 11 = .ok (.ldc_w 266, 3) := by decide +kernel
theorem dJ6_bitCount_0f7a4_14 : decode cJ6_bitCount_0f7a4 14 = .ok (.iand, 1) := by decide +kernel
theorem dJ6_bitCount_0f7a4_15 : decode cJ6_bitCount_0f7a4 15 = .ok (.iload_n 0, 1) := by decide +kernel
theorem dJ6_bitCount_0f7a4_16 : decode cJ6_bitCount_0f7a4 16 = .ok (.iconst 2, 1) := by decide +kernel
theorem dJ6_bitCount_0f7a4_17 : decode cJ6_bitCount_0f7a4 17 = .ok (.iushr, 1) := by decide +kernel
theorem dJ6_bitCount_0f7a4_18 : decode cJ6_bitCount_0f7a4 18 = .ok (.ldc_w 266, 3) := by decide +kernel
theorem dJ6_bitCount_0f7a4_21 : decode cJ6_bitCount_0f7a4 21 = .ok (.iand, 1) := by decide +kernel
theorem dJ6_bitCount_0f7a4_22 : decode cJ6_bitCount_0f7a4 22 = .ok (.iadd, 1) := by decide +kernel
theorem dJ6_bitCount_0f7a4_23 : decode cJ6_bitCount_0f7a4 23 = .ok (.istore_n 0, 1) := by decide +kernel
theorem dJ6_bitCount_0f7a4_24 : decode cJ6_bitCount_0f7a4 24 = .ok (.iload_n 0, 1) := by decide +kernel
theorem dJ6_bitCount_0f7a4_25 : decode cJ6_bitCount_0f7a4 25 = .ok (.iload_n 0, 1) := by decide +kernel
theorem dJ6_bitCount_0f7a4_26 : decode cJ6_bitCount_0f7a4 26 = .ok (.iconst 4, 1) := by decide +kernel
theorem dJ6_bitCount_0f7a4_27 : decode cJ6_bitCount_0f7a4 27 = .ok (.iushr, 1) := by decide +kernel
theorem dJ6_bitCount_0f7a4_28 : decode cJ6_bitCount_0f7a4 28 = .ok (.iadd, 1) := by decide +kernel
theorem dJ6_bitCount_0f7a4_29 : decode cJ6_bitCount_0f7a4 29 = .ok (.ldc_w 267, 3) := by decide +kernel
theorem dJ6_bitCount_0f7a4_32 : decode cJ6_bitCount_0f7a4 32 = .ok (.iand, 1) := by decide +kernel
theorem dJ6_bitCount_0f7a4_33 : decode cJ6_bitCount_0f7a4 33 = .ok (.istore_n 0, 1) := by decide +kernel
theorem dJ6_bitCount_0f7a4_34 : decode cJ6_bitCount_0f7a4 34 = .ok (.iload_n 0, 1) := by decide +kernel
theorem dJ6_bitCount_0f7a4_35 : decode cJ6_bitCount_0f7a4 35 = .ok (.iload_n 0, 1) := by decide +kernel
theorem dJ6_bitCount_0f7a4_36 : decode cJ6_bitCount_0f7a4 36 = .ok (.bipush 8, 2) := by decide +kernel
theorem dJ6_bitCount_0f7a4_38 : decode cJ6_bitCount_0f7a4 38 = .ok (.iushr, 1) := by decide +kernel
theorem dJ6_bitCount_0f7a4_39 : decode cJ6_bitCount_0f7a4 39 = .ok (.iadd, 1) := by decide +kernel
theorem dJ6_bitCount_0f7a4_40 : decode cJ6_bitCount_0f7a4 40 = .ok (.istore_n 0, 1) := by decide +kernel
theorem dJ6_bitCount_0f7a4_41 : decode cJ6_bitCount_0f7a4 41 = .ok (.iload_n 0, 1) := by decide +kernel
theorem dJ6_bitCount_0f7a4_42 : decode cJ6_bitCount_0f7a4 42 = .ok (.iload_n 0, 1) := by decide +kernel
theorem dJ6_bitCount_0f7a4_43 : decode cJ6_bitCount_0f7a4 43 = .ok (.bipush 16, 2) := by decide +kernel
theorem dJ6_bitCount_0f7a4_45 : decode cJ6_bitCount_0f7a4 45 = .ok (.iushr, 1) := by decide +kernel
theorem dJ6_bitCount_0f7a4_46 : decode cJ6_bitCount_0f7a4 46 = .ok (.iadd, 1) := by decide +kernel
theorem dJ6_bitCount_0f7a4_47 : decode cJ6_bitCount_0f7a4 47 = .ok (.istore_n 0, 1) := by decide +kernel
theorem dJ6_bitCount_0f7a4_48 : decode cJ6_bitCount_0f7a4 48 = .ok (.iload_n 0, 1) := by decide +kernel
theorem dJ6_bitCount_0f7a4_49 : decode cJ6_bitCount_0f7a4 49 = .ok (.bipush 63, 2) := by decide +kernel
theorem dJ6_bitCount_0f7a4_51 : decode cJ6_bitCount_0f7a4 51 = .ok (.iand, 1) := by decide +kernel
theorem dJ6_bitCount_0f7a4_52 : decode cJ6_bitCount_0f7a4 52 = .ok (.ireturn, 1) := by decide +kernel
theorem dJ9_max_7cf53_0 : decode cJ9_max_7cf53 0 = .ok (.iload_n 0, 1) := by decide +kernel
theorem dJ9_max_7cf53_1 : decode cJ9_max_7cf53 1 = .ok (.iload_n 1, 1) := by decide +kernel
theorem dJ9_max_7cf53_2 : decode cJ9_max_7cf53 2 = .ok (.if_icmp .lt 7, 3) := by decide +kernel
theorem dJ9_max_7cf53_5 : decode cJ9_max_7cf53 5 = .ok (.iload_n 0, 1) := by decide +kernel
theorem dJ9_max_7cf53_6 : decode cJ9_max_7cf53 6 = .ok (.goto 4, 3) := by decide +kernel
theorem dJ9_max_7cf53_9 : decode cJ9_max_7cf53 9 = .ok (.iload_n 1, 1) := by decide +kernel
theorem dJ9_max_7cf53_10 : decode cJ9_max_7cf53 10 = .ok (.ireturn, 1) := by decide +kernel
theorem dJ9_min_7cf53_0 : decode cJ9_min_7cf53 0 = .ok (.iload_n 0, 1) := by decide +kernel
theorem dJ9_min_7cf53_1 : decode cJ9_min_7cf53 1 = .ok (.iload_n 1, 1) := by decide +kernel
theorem dJ9_min_7cf53_2 : decode cJ9_min_7cf53 2 = .ok (.if_icmp .gt 7, 3) := by decide +kernel
theorem dJ9_min_7cf53_5 : decode cJ9_min_7cf53 5 = .ok (.iload_n 0, 1) := by decide +kernel
theorem dJ9_min_7cf53_6 : decode cJ9_min_7cf53 6 = .ok (.goto 4, 3) := by decide +kernel
theorem dJ9_min_7cf53_9 : decode cJ9_min_7cf53 9 = .ok (.iload_n 1, 1) := by decide +kernel
theorem dJ9_min_7cf53_10 : decode cJ9_min_7cf53 10 = .ok (.ireturn, 1) := by decide +kernel
