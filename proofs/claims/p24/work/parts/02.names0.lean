theorem dX0_init_0 : decode cX0_init 0 = .ok (.aload_n 0, 1) := by decide +kernel
theorem dX0_init_1 : decode cX0_init 1 = .ok (.invokespecial 3, 3) := by decide +kernel
theorem dX0_init_4 : decode cX0_init 4 = .ok (.aload_n 0, 1) := by decide +kernel
theorem dX0_init_5 : decode cX0_init 5 = .ok (.bipush 24, 2) := by decide +kernel
theorem dX0_init_7 : decode cX0_init 7 = .ok (.newarray .int, 2) := by decide +kernel
theorem dX0_init_9 : decode cX0_init 9 = .ok (.putfield 9, 3) := by decide +kernel
theorem dX0_init_12 : decode cX0_init 12 = .ok (.aload_n 0, 1) := by decide +kernel
theorem dX0_init_13 : decode cX0_init 13 = .ok (.bipush 7, 2) := by decide +kernel
theorem dX0_init_15 : decode cX0_init 15 = .ok (.newarray .int, 2) := by decide +kernel
theorem dX0_init_17 : decode cX0_init 17 = .ok (.putfield 15, 3) := by decide +kernel
theorem dX0_init_20 : decode cX0_init 20 = .ok (.aload_n 0, 1) := by decide +kernel
theorem dX0_init_21 : decode cX0_init 21 = .ok (.aload_n 1, 1) := by decide +kernel
theorem dX0_init_22 : decode cX0_init 22 = .ok (.putfield 18, 3) := by decide +kernel
theorem dX0_init_25 : decode cX0_init 25 = .ok (.return_, 1) := by decide +kernel
set_option maxRecDepth 20000 in
theorem ggX0_run_X0_lineUp : GoodIn wsX0_run wsX0_lineUp := goodIn_r _ [10, 11, 12, 13, 14, 15, 16, 17, 18, 19, 20, 21, 22, 23, 75, 76, 77, 78, 79, 80, 81, 82, 83, 84, 85, 86, 87, 88, 89, 90, 91] rfl (by decide +kernel)
set_option maxRecDepth 20000 in
theorem gX0_run_X0_lineUp : GoodIn wsX0_run (wsV RX0 29 RX0 yX0_lineUp wsX0_lineUp) := goodIn_app (goodIn_of _ (by decide +kernel)) ggX0_run_X0_lineUp
set_option maxRecDepth 20000 in
theorem ggX0_run_J6_bitCount_0f7a4 : GoodIn wsX0_run wsJ6_bitCount_0f7a4 := goodIn_r _ [27, 28, 29, 30] rfl (by decide +kernel)
set_option maxRecDepth 20000 in
theorem gX0_run_J6_bitCount_0f7a4 : GoodIn wsX0_run (va_wsS RX0 32 yJ6_bitCount_0f7a4 wsJ6_bitCount_0f7a4) := goodIn_app (goodIn_of _ (by decide +kernel)) ggX0_run_J6_bitCount_0f7a4
set_option maxRecDepth 20000 in
theorem ggX0_run_X0_cutAndTrim : GoodIn wsX0_run wsX0_cutAndTrim := goodIn_r _ [34, 4, 12, 35, 36, 37, 38, 39, 40, 9, 41, 11, 42, 43, 44, 16, 45, 46, 47, 48, 49, 50, 51, 52, 53, 54, 3, 55, 56, 57, 58, 1, 59, 2, 60, 61, 62, 63, 23, 75, 76, 77, 78, 79, 80, 81, 82, 83, 84, 85, 86, 87, 88, 89, 90, 91] rfl (by decide +kernel)
set_option maxRecDepth 20000 in
theorem gX0_run_X0_cutAndTrim : GoodIn wsX0_run (wsV RX0 38 RX0 yX0_cutAndTrim wsX0_cutAndTrim) := goodIn_app (goodIn_of _ (by decide +kernel)) ggX0_run_X0_cutAndTrim
set_option maxRecDepth 20000 in
theorem ggX0_run_X0_handOut : GoodIn wsX0_run wsX0_handOut := goodIn_r _ [67, 68, 75, 76, 77, 78, 79, 80, 81, 82] rfl (by decide +kernel)
set_option maxRecDepth 20000 in
theorem gX0_run_X0_handOut : GoodIn wsX0_run (wsV RX0 48 RX0 yX0_handOut wsX0_handOut) := goodIn_app (goodIn_of _ (by decide +kernel)) ggX0_run_X0_handOut
set_option maxRecDepth 20000 in
theorem ggX0_run_X5_without : GoodIn wsX0_run wsX5_without := goodIn_r _ [70] rfl (by decide +kernel)
set_option maxRecDepth 20000 in
theorem gX0_run_X5_without_n51 : GoodIn wsX0_run (wsX5_without) := ggX0_run_X5_without
set_option maxRecDepth 20000 in
theorem ggX0_run_X0_firstOf : GoodIn wsX0_run wsX0_firstOf := goodIn_r _ [74, 12, 35, 36, 37, 75, 76, 77, 78, 79, 80, 81, 82] rfl (by decide +kernel)
set_option maxRecDepth 20000 in
theorem gX0_run_X0_firstOf : GoodIn wsX0_run (wsV RX0 55 RX0 yX0_firstOf wsX0_firstOf) := goodIn_app (goodIn_of _ (by decide +kernel)) ggX0_run_X0_firstOf
theorem dX0_run_0 : decode cX0_run 0 = .ok (.aload_n 0, 1) := by decide +kernel
theorem dX0_run_1 : decode cX0_run 1 = .ok (.iconst 0, 1) := by decide +kernel
theorem dX0_run_2 : decode cX0_run 2 = .ok (.putfield 22, 3) := by decide +kernel
theorem dX0_run_5 : decode cX0_run 5 = .ok (.aload_n 0, 1) := by decide +kernel
theorem dX0_run_6 : decode cX0_run 6 = .ok (.iconst 0, 1) := by decide +kernel
theorem dX0_run_7 : decode cX0_run 7 = .ok (.putfield 26, 3) := by decide +kernel
theorem dX0_run_10 : decode cX0_run 10 = .ok (.aload_n 0, 1) := by decide +kernel
theorem dX0_run_11 : decode cX0_run 11 = .ok (.invokevirtual 29, 3) := by decide +kernel
theorem dX0_run_14 : decode cX0_run 14 = .ok (.iload_n 1, 1) := by decide +kernel
theorem dX0_run_15 : decode cX0_run 15 = .ok (.istore_n 2, 1) := by decide +kernel
theorem dX0_run_16 : decode cX0_run 16 = .ok (.iconst 0, 1) := by decide +kernel
theorem dX0_run_17 : decode cX0_run 17 = .ok (.istore_n 3, 1) := by decide +kernel
theorem dX0_run_18 : decode cX0_run 18 = .ok (.iload_n 1, 1) := by decide +kernel
theorem dX0_run_19 : decode cX0_run 19 = .ok (.invokestatic 32, 3) := by decide +kernel
theorem dX0_run_22 : decode cX0_run 22 = .ok (.istore 4, 2) := by decide +kernel
theorem dX0_run_24 : decode cX0_run 24 = .ok (.iload 4, 2) := by decide +kernel
theorem dX0_run_26 : decode cX0_run 26 = .ok (.iconst 1, 1) := by decide +kernel
theorem dX0_run_27 : decode cX0_run 27 = .ok (.if_icmp .le 48, 3) := by decide +kernel
theorem dX0_run_30 : decode cX0_run 30 = .ok (.aload_n 0, 1) := by decide +kernel
theorem dX0_run_31 : decode cX0_run 31 = .ok (.iload_n 2, 1) := by decide +kernel
theorem dX0_run_32 : decode cX0_run 32 = .ok (.iload 4, 2) := by decide +kernel
theorem dX0_run_34 : decode cX0_run 34 = .ok (.iload_n 3, 1) := by decide +kernel
theorem dX0_run_35 : decode cX0_run 35 = .ok (.invokevirtual 38, 3) := by decide +kernel
theorem dX0_run_38 : decode cX0_run 38 = .ok (.aload_n 0, 1) := by decide +kernel
theorem dX0_run_39 : decode cX0_run 39 = .ok (.iload_n 3, 1) := by decide +kernel
theorem dX0_run_40 : decode cX0_run 40 = .ok (.iload_n 3, 1) := by decide +kernel
theorem dX0_run_41 : decode cX0_run 41 = .ok (.aload_n 0, 1) := by decide +kernel
theorem dX0_run_42 : decode cX0_run 42 = .ok (.getfield 42, 3) := by decide +kernel
theorem dX0_run_45 : decode cX0_run 45 = .ok (.iadd, 1) := by decide +kernel
theorem dX0_run_46 : decode cX0_run 46 = .ok (.aload_n 0, 1) := by decide +kernel
theorem dX0_run_47 : decode cX0_run 47 = .ok (.getfield 45, 3) := by decide +kernel
theorem dX0_run_50 : decode cX0_run 50 = .ok (.invokevirtual 48, 3) := by decide +kernel
theorem dX0_run_53 : decode cX0_run 53 = .ok (.iload_n 3, 1) := by decide +kernel
theorem dX0_run_54 : decode cX0_run 54 = .ok (.aload_n 0, 1) := by decide +kernel
theorem dX0_run_55 : decode cX0_run 55 = .ok (.getfield 42, 3) := by decide +kernel
theorem dX0_run_58 : decode cX0_run 58 = .ok (.iadd, 1) := by decide +kernel
theorem dX0_run_59 : decode cX0_run 59 = .ok (.istore_n 3, 1) := by decide +kernel
theorem dX0_run_60 : decode cX0_run 60 = .ok (.iload_n 2, 1) := by decide +kernel
theorem dX0_run_61 : decode cX0_run 61 = .ok (.aload_n 0, 1) := by decide +kernel
theorem dX0_run_62 : decode cX0_run 62 = .ok (.getfield 45, 3) := by decide +kernel
theorem dX0_run_65 : decode cX0_run 65 = .ok (.invokestatic 51, 3) := by decide +kernel
theorem dX0_run_68 : decode cX0_run 68 = .ok (.istore_n 2, 1) := by decide +kernel
theorem dX0_run_69 : decode cX0_run 69 = .ok (.iinc 4 (-1), 3) := by decide +kernel
theorem dX0_run_72 : decode cX0_run 72 = .ok (.goto (-48), 3) := by decide +kernel
theorem dX0_run_75 : decode cX0_run 75 = .ok (.aload_n 0, 1) := by decide +kernel
theorem dX0_run_76 : decode cX0_run 76 = .ok (.aload_n 0, 1) := by decide +kernel
theorem dX0_run_77 : decode cX0_run 77 = .ok (.iload_n 2, 1) := by decide +kernel
theorem dX0_run_78 : decode cX0_run 78 = .ok (.invokevirtual 55, 3) := by decide +kernel
theorem dX0_run_81 : decode cX0_run 81 = .ok (.putfield 58, 3) := by decide +kernel
theorem dX0_run_84 : decode cX0_run 84 = .ok (.aload_n 0, 1) := by decide +kernel
theorem dX0_run_85 : decode cX0_run 85 = .ok (.iload_n 3, 1) := by decide +kernel
theorem dX0_run_86 : decode cX0_run 86 = .ok (.bipush 24, 2) := by decide +kernel
theorem dX0_run_88 : decode cX0_run 88 = .ok (.aload_n 0, 1) := by decide +kernel
theorem dX0_run_89 : decode cX0_run 89 = .ok (.getfield 58, 3) := by decide +kernel
theorem dX0_run_92 : decode cX0_run 92 = .ok (.invokevirtual 48, 3) := by decide +kernel
theorem dX0_run_95 : decode cX0_run 95 = .ok (.return_, 1) := by decide +kernel
set_option maxRecDepth 20000 in
theorem ggX0_lineUp_X1_isAhead : GoodIn wsX0_lineUp wsX1_isAhead := goodIn_r _ [7, 8, 9, 10, 11, 6, 12, 13, 22, 23, 24, 25, 26, 27, 28, 29, 30] rfl (by decide +kernel)
set_option maxRecDepth 20000 in
theorem gX0_lineUp_X1_isAhead : GoodIn wsX0_lineUp (wsV RX0 61 RX1 yX1_isAhead wsX1_isAhead) := goodIn_app (goodIn_of _ (by decide +kernel)) ggX0_lineUp_X1_isAhead
theorem dX0_lineUp_0 : decode cX0_lineUp 0 = .ok (.iconst 0, 1) := by decide +kernel
theorem dX0_lineUp_1 : decode cX0_lineUp 1 = .ok (.istore_n 1, 1) := by decide +kernel
theorem dX0_lineUp_2 : decode cX0_lineUp 2 = .ok (.iload_n 1, 1) := by decide +kernel
theorem dX0_lineUp_3 : decode cX0_lineUp 3 = .ok (.bipush 7, 2) := by decide +kernel
theorem dX0_lineUp_5 : decode cX0_lineUp 5 = .ok (.if_icmp .ge 61, 3) := by decide +kernel
theorem dX0_lineUp_8 : decode cX0_lineUp 8 = .ok (.iload_n 1, 1) := by decide +kernel
theorem dX0_lineUp_9 : decode cX0_lineUp 9 = .ok (.istore_n 2, 1) := by decide +kernel
theorem dX0_lineUp_10 : decode cX0_lineUp 10 = .ok (.iload_n 2, 1) := by decide +kernel
theorem dX0_lineUp_11 : decode cX0_lineUp 11 = .ok (.ifCond .le 42, 3) := by decide +kernel
theorem dX0_lineUp_14 : decode cX0_lineUp 14 = .ok (.aload_n 0, 1) := by decide +kernel
theorem dX0_lineUp_15 : decode cX0_lineUp 15 = .ok (.getfield 18, 3) := by decide +kernel
theorem dX0_lineUp_18 : decode cX0_lineUp 18 = .ok (.iload_n 1, 1) := by decide +kernel
theorem dX0_lineUp_19 : decode cX0_lineUp 19 = .ok (.aload_n 0, 1) := by decide +kernel
theorem dX0_lineUp_20 : decode cX0_lineUp 20 = .ok (.getfield 15, 3) := by decide +kernel
theorem dX0_lineUp_23 : decode cX0_lineUp 23 = .ok (.iload_n 2, 1) := by decide +kernel
theorem dX0_lineUp_24 : decode cX0_lineUp 24 = .ok (.iconst 1, 1) := by decide +kernel
theorem dX0_lineUp_25 : decode cX0_lineUp 25 = .ok (.isub, 1) := by decide +kernel
theorem dX0_lineUp_26 : decode cX0_lineUp 26 = .ok (.iaload, 1) := by decide +kernel
theorem dX0_lineUp_27 : decode cX0_lineUp 27 = .ok (.invokevirtual 61, 3) := by decide +kernel
theorem dX0_lineUp_30 : decode cX0_lineUp 30 = .ok (.ifCond .eq 23, 3) := by decide +kernel
theorem dX0_lineUp_33 : decode cX0_lineUp 33 = .ok (.aload_n 0, 1) := by decide +kernel
theorem dX0_lineUp_34 : decode cX0_lineUp 34 = .ok (.getfield 15, 3) := by decide +kernel
theorem dX0_lineUp_37 : decode cX0_lineUp 37 = .ok (.iload_n 2, 1) := by decide +kernel
theorem dX0_lineUp_38 : decode cX0_lineUp 38 = .ok (.aload_n 0, 1) := by decide +kernel
theorem dX0_lineUp_39 : decode cX0_lineUp 39 = .ok (.getfield 15, 3) := by decide +kernel
theorem dX0_lineUp_42 : decode cX0_lineUp 42 = .ok (.iload_n 2, 1) := by decide +kernel
theorem dX0_lineUp_43 : decode cX0_lineUp 43 = .ok (.iconst 1, 1) := by decide +kernel
theorem dX0_lineUp_44 : decode cX0_lineUp 44 = .ok (.isub, 1) := by decide +kernel
theorem dX0_lineUp_45 : decode cX0_lineUp 45 = .ok (.iaload, 1) := by decide +kernel
theorem dX0_lineUp_46 : decode cX0_lineUp 46 = .ok (.iastore, 1) := by decide +kernel
theorem dX0_lineUp_47 : decode cX0_lineUp 47 = .ok (.iinc 2 (-1), 3) := by decide +kernel
theorem dX0_lineUp_50 : decode cX0_lineUp 50 = .ok (.goto (-40), 3) := by decide +kernel
theorem dX0_lineUp_53 : decode cX0_lineUp 53 = .ok (.aload_n 0, 1) := by decide +kernel
theorem dX0_lineUp_54 : decode cX0_lineUp 54 = .ok (.getfield 15, 3) := by decide +kernel
theorem dX0_lineUp_57 : decode cX0_lineUp 57 = .ok (.iload_n 2, 1) := by decide +kernel
theorem dX0_lineUp_58 : decode cX0_lineUp 58 = .ok (.iload_n 1, 1) := by decide +kernel
theorem dX0_lineUp_59 : decode cX0_lineUp 59 = .ok (.iastore, 1) := by decide +kernel
theorem dX0_lineUp_60 : decode cX0_lineUp 60 = .ok (.iinc 1 1, 3) := by decide +kernel
theorem dX0_lineUp_63 : decode cX0_lineUp 63 = .ok (.goto (-61), 3) := by decide +kernel
theorem dX0_lineUp_66 : decode cX0_lineUp 66 = .ok (.return_, 1) := by decide +kernel
set_option maxRecDepth 20000 in
theorem ggX0_cutAndTrim_X5_contains : GoodIn wsX0_cutAndTrim wsX5_contains := goodIn_r _ [5] rfl (by decide +kernel)
set_option maxRecDepth 20000 in
theorem gX0_cutAndTrim_X5_contains_n67 : GoodIn wsX0_cutAndTrim (wsX5_contains) := ggX0_cutAndTrim_X5_contains
set_option maxRecDepth 20000 in
theorem ggX0_cutAndTrim_X0_fairPiece : GoodIn wsX0_cutAndTrim wsX0_fairPiece := goodIn_r _ [10, 11, 12, 13, 14, 15, 16, 17, 18, 19, 20, 21, 39, 40, 41, 42, 43, 44, 45, 46, 47, 48, 49, 50, 51, 52, 53, 54, 55] rfl (by decide +kernel)
set_option maxRecDepth 20000 in
theorem gX0_cutAndTrim_X0_fairPiece : GoodIn wsX0_cutAndTrim (wsV RX0 70 RX0 yX0_fairPiece wsX0_fairPiece) := goodIn_app (goodIn_of _ (by decide +kernel)) ggX0_cutAndTrim_X0_fairPiece
set_option maxRecDepth 20000 in
theorem ggX0_cutAndTrim_X0_hold : GoodIn wsX0_cutAndTrim wsX0_hold := goodIn_r _ [25, 1, 26, 39, 40, 41, 42, 43, 44, 45, 46] rfl (by decide +kernel)
set_option maxRecDepth 20000 in
theorem gX0_cutAndTrim_X0_hold : GoodIn wsX0_cutAndTrim (wsV RX0 74 RX0 yX0_hold wsX0_hold) := goodIn_app (goodIn_of _ (by decide +kernel)) ggX0_cutAndTrim_X0_hold
set_option maxRecDepth 20000 in
theorem ggX0_cutAndTrim_X0_mayTrim : GoodIn wsX0_cutAndTrim wsX0_mayTrim := goodIn_r _ [30, 26, 31, 11, 1, 32, 33, 22, 23, 24, 9, 25, 34, 35, 36, 15, 37, 38, 39, 40, 41, 42, 43, 44, 45, 46, 47, 48, 49, 50, 51, 52, 53, 54, 55] rfl (by decide +kernel)
set_option maxRecDepth 20000 in
theorem gX0_cutAndTrim_X0_mayTrim : GoodIn wsX0_cutAndTrim (wsV RX0 78 RX0 yX0_mayTrim wsX0_mayTrim) := goodIn_app (goodIn_of _ (by decide +kernel)) ggX0_cutAndTrim_X0_mayTrim
theorem dX0_cutAndTrim_0 : decode cX0_cutAndTrim 0 = .ok (.aload_n 0, 1) := by decide +kernel
theorem dX0_cutAndTrim_1 : decode cX0_cutAndTrim 1 = .ok (.bipush 7, 2) := by decide +kernel
theorem dX0_cutAndTrim_3 : decode cX0_cutAndTrim 3 = .ok (.putfield 45, 3) := by decide +kernel
theorem dX0_cutAndTrim_6 : decode cX0_cutAndTrim 6 = .ok (.iconst 0, 1) := by decide +kernel
theorem dX0_cutAndTrim_7 : decode cX0_cutAndTrim 7 = .ok (.istore 4, 2) := by decide +kernel
theorem dX0_cutAndTrim_9 : decode cX0_cutAndTrim 9 = .ok (.iload 4, 2) := by decide +kernel
theorem dX0_cutAndTrim_11 : decode cX0_cutAndTrim 11 = .ok (.bipush 7, 2) := by decide +kernel
theorem dX0_cutAndTrim_13 : decode cX0_cutAndTrim 13 = .ok (.if_icmp .ge 65, 3) := by decide +kernel
theorem dX0_cutAndTrim_16 : decode cX0_cutAndTrim 16 = .ok (.aload_n 0, 1) := by decide +kernel
theorem dX0_cutAndTrim_17 : decode cX0_cutAndTrim 17 = .ok (.getfield 15, 3) := by decide +kernel
theorem dX0_cutAndTrim_20 : decode cX0_cutAndTrim 20 = .ok (.iload 4, 2) := by decide +kernel
theorem dX0_cutAndTrim_22 : decode cX0_cutAndTrim 22 = .ok (.iaload, 1) := by decide +kernel
theorem dX0_cutAndTrim_23 : decode cX0_cutAndTrim 23 = .ok (.istore 5, 2) := by decide +kernel
theorem dX0_cutAndTrim_25 : decode cX0_cutAndTrim 25 = .ok (.iload_n 1, 1) := by decide +kernel
theorem dX0_cutAndTrim_26 : decode cX0_cutAndTrim 26 = .ok (.iload 5, 2) := by decide +kernel
theorem dX0_cutAndTrim_28 : decode cX0_cutAndTrim 28 = .ok (.invokestatic 67, 3) := by decide +kernel
theorem dX0_cutAndTrim_31 : decode cX0_cutAndTrim 31 = .ok (.ifCond .eq 41, 3) := by decide +kernel
theorem dX0_cutAndTrim_34 : decode cX0_cutAndTrim 34 = .ok (.aload_n 0, 1) := by decide +kernel
theorem dX0_cutAndTrim_35 : decode cX0_cutAndTrim 35 = .ok (.iload 5, 2) := by decide +kernel
theorem dX0_cutAndTrim_37 : decode cX0_cutAndTrim 37 = .ok (.iload_n 2, 1) := by decide +kernel
theorem dX0_cutAndTrim_38 : decode cX0_cutAndTrim 38 = .ok (.iload_n 3, 1) := by decide +kernel
theorem dX0_cutAndTrim_39 : decode cX0_cutAndTrim 39 = .ok (.invokevirtual 70, 3) := by decide +kernel
theorem dX0_cutAndTrim_42 : decode cX0_cutAndTrim 42 = .ok (.istore 6, 2) := by decide +kernel
theorem dX0_cutAndTrim_44 : decode cX0_cutAndTrim 44 = .ok (.aload_n 0, 1) := by decide +kernel
theorem dX0_cutAndTrim_45 : decode cX0_cutAndTrim 45 = .ok (.getfield 45, 3) := by decide +kernel
theorem dX0_cutAndTrim_48 : decode cX0_cutAndTrim 48 = .ok (.bipush 7, 2) := by decide +kernel
theorem dX0_cutAndTrim_50 : decode cX0_cutAndTrim 50 = .ok (.if_icmp .ne 14, 3) := by decide +kernel
theorem dX0_cutAndTrim_53 : decode cX0_cutAndTrim 53 = .ok (.aload_n 0, 1) := by decide +kernel
theorem dX0_cutAndTrim_54 : decode cX0_cutAndTrim 54 = .ok (.iload 5, 2) := by decide +kernel
theorem dX0_cutAndTrim_56 : decode cX0_cutAndTrim 56 = .ok (.iload 6, 2) := by decide +kernel
theorem dX0_cutAndTrim_58 : decode cX0_cutAndTrim 58 = .ok (.invokevirtual 74, 3) := by decide +kernel
theorem dX0_cutAndTrim_61 : decode cX0_cutAndTrim 61 = .ok (.goto 11, 3) := by decide +kernel
theorem dX0_cutAndTrim_64 : decode cX0_cutAndTrim 64 = .ok (.aload_n 0, 1) := by decide +kernel
theorem dX0_cutAndTrim_65 : decode cX0_cutAndTrim 65 = .ok (.iload 5, 2) := by decide +kernel
theorem dX0_cutAndTrim_67 : decode cX0_cutAndTrim 67 = .ok (.iload 6, 2) := by decide +kernel
theorem dX0_cutAndTrim_69 : decode cX0_cutAndTrim 69 = .ok (.invokevirtual 78, 3) := by decide +kernel
theorem dX0_cutAndTrim_72 : decode cX0_cutAndTrim 72 = .ok (.iinc 4 1, 3) := by decide +kernel
theorem dX0_cutAndTrim_75 : decode cX0_cutAndTrim 75 = .ok (.goto (-66), 3) := by decide +kernel
theorem dX0_cutAndTrim_78 : decode cX0_cutAndTrim 78 = .ok (.return_, 1) := by decide +kernel
set_option maxRecDepth 20000 in
theorem ggX0_mayTrim_X0_hold : GoodIn wsX0_mayTrim wsX0_hold := goodIn_r _ [11, 4, 1, 18, 19, 20, 21, 22, 23, 24, 25] rfl (by decide +kernel)
set_option maxRecDepth 20000 in
theorem gX0_mayTrim_X0_hold : GoodIn wsX0_mayTrim (wsV RX0 74 RX0 yX0_hold wsX0_hold) := goodIn_app (goodIn_of _ (by decide +kernel)) ggX0_mayTrim_X0_hold
set_option maxRecDepth 20000 in
theorem ggX0_mayTrim_X1_grudgeOf : GoodIn wsX0_mayTrim wsX1_grudgeOf := goodIn_r _ [16, 17, 26, 27, 28, 29, 30, 31, 32, 33, 34] rfl (by decide +kernel)
set_option maxRecDepth 20000 in
theorem gX0_mayTrim_X1_grudgeOf : GoodIn wsX0_mayTrim (wsV RX0 81 RX1 yX1_grudgeOf wsX1_grudgeOf) := goodIn_app (goodIn_of _ (by decide +kernel)) ggX0_mayTrim_X1_grudgeOf
theorem dX0_mayTrim_0 : decode cX0_mayTrim 0 = .ok (.iload_n 2, 1) := by decide +kernel
theorem dX0_mayTrim_1 : decode cX0_mayTrim 1 = .ok (.aload_n 0, 1) := by decide +kernel
theorem dX0_mayTrim_2 : decode cX0_mayTrim 2 = .ok (.getfield 42, 3) := by decide +kernel
theorem dX0_mayTrim_5 : decode cX0_mayTrim 5 = .ok (.if_icmp .ge 22, 3) := by decide +kernel
theorem dX0_mayTrim_8 : decode cX0_mayTrim 8 = .ok (.aload_n 0, 1) := by decide +kernel
theorem dX0_mayTrim_9 : decode cX0_mayTrim 9 = .ok (.dup, 1) := by decide +kernel
theorem dX0_mayTrim_10 : decode cX0_mayTrim 10 = .ok (.getfield 22, 3) := by decide +kernel
theorem dX0_mayTrim_13 : decode cX0_mayTrim 13 = .ok (.iconst 1, 1) := by decide +kernel
theorem dX0_mayTrim_14 : decode cX0_mayTrim 14 = .ok (.iadd, 1) := by decide +kernel
theorem dX0_mayTrim_15 : decode cX0_mayTrim 15 = .ok (.putfield 22, 3) := by decide +kernel
theorem dX0_mayTrim_18 : decode cX0_mayTrim 18 = .ok (.aload_n 0, 1) := by decide +kernel
theorem dX0_mayTrim_19 : decode cX0_mayTrim 19 = .ok (.iload_n 1, 1) := by decide +kernel
theorem dX0_mayTrim_20 : decode cX0_mayTrim 20 = .ok (.iload_n 2, 1) := by decide +kernel
theorem dX0_mayTrim_21 : decode cX0_mayTrim 21 = .ok (.invokevirtual 74, 3) := by decide +kernel
theorem dX0_mayTrim_24 : decode cX0_mayTrim 24 = .ok (.goto 68, 3) := by decide +kernel
theorem dX0_mayTrim_27 : decode cX0_mayTrim 27 = .ok (.iload_n 2, 1) := by decide +kernel
theorem dX0_mayTrim_28 : decode cX0_mayTrim 28 = .ok (.aload_n 0, 1) := by decide +kernel
theorem dX0_mayTrim_29 : decode cX0_mayTrim 29 = .ok (.getfield 42, 3) := by decide +kernel
theorem dX0_mayTrim_32 : decode cX0_mayTrim 32 = .ok (.if_icmp .ne 60, 3) := by decide +kernel
theorem dX0_mayTrim_35 : decode cX0_mayTrim 35 = .ok (.iload_n 2, 1) := by decide +kernel
theorem dX0_mayTrim_36 : decode cX0_mayTrim 36 = .ok (.iconst 1, 1) := by decide +kernel
theorem dX0_mayTrim_37 : decode cX0_mayTrim 37 = .ok (.if_icmp .lt 55, 3) := by decide +kernel
theorem dX0_mayTrim_40 : decode cX0_mayTrim 40 = .ok (.aload_n 0, 1) := by decide +kernel
theorem dX0_mayTrim_41 : decode cX0_mayTrim 41 = .ok (.getfield 18, 3) := by decide +kernel
theorem dX0_mayTrim_44 : decode cX0_mayTrim 44 = .ok (.iload_n 1, 1) := by decide +kernel
theorem dX0_mayTrim_45 : decode cX0_mayTrim 45 = .ok (.aload_n 0, 1) := by decide +kernel
theorem dX0_mayTrim_46 : decode cX0_mayTrim 46 = .ok (.getfield 45, 3) := by decide +kernel
theorem dX0_mayTrim_49 : decode cX0_mayTrim 49 = .ok (.invokevirtual 81, 3) := by decide +kernel
theorem dX0_mayTrim_52 : decode cX0_mayTrim 52 = .ok (.aload_n 0, 1) := by decide +kernel
theorem dX0_mayTrim_53 : decode cX0_mayTrim 53 = .ok (.getfield 18, 3) := by decide +kernel
theorem dX0_mayTrim_56 : decode cX0_mayTrim 56 = .ok (.getfield 84, 3) := by decide +kernel
theorem dX0_mayTrim_59 : decode cX0_mayTrim 59 = .ok (.iconst 1, 1) := by decide +kernel
theorem dX0_mayTrim_60 : decode cX0_mayTrim 60 = .ok (.iaload, 1) := by decide +kernel
theorem dX0_mayTrim_61 : decode cX0_mayTrim 61 = .ok (.if_icmp .lt 31, 3) := by decide +kernel
theorem dX0_mayTrim_64 : decode cX0_mayTrim 64 = .ok (.aload_n 0, 1) := by decide +kernel
theorem dX0_mayTrim_65 : decode cX0_mayTrim 65 = .ok (.dup, 1) := by decide +kernel
theorem dX0_mayTrim_66 : decode cX0_mayTrim 66 = .ok (.getfield 22, 3) := by decide +kernel
theorem dX0_mayTrim_69 : decode cX0_mayTrim 69 = .ok (.iconst 1, 1) := by decide +kernel
theorem dX0_mayTrim_70 : decode cX0_mayTrim 70 = .ok (.iadd, 1) := by decide +kernel
theorem dX0_mayTrim_71 : decode cX0_mayTrim 71 = .ok (.putfield 22, 3) := by decide +kernel
theorem dX0_mayTrim_74 : decode cX0_mayTrim 74 = .ok (.aload_n 0, 1) := by decide +kernel
theorem dX0_mayTrim_75 : decode cX0_mayTrim 75 = .ok (.dup, 1) := by decide +kernel
theorem dX0_mayTrim_76 : decode cX0_mayTrim 76 = .ok (.getfield 26, 3) := by decide +kernel
theorem dX0_mayTrim_79 : decode cX0_mayTrim 79 = .ok (.iconst 1, 1) := by decide +kernel
theorem dX0_mayTrim_80 : decode cX0_mayTrim 80 = .ok (.iadd, 1) := by decide +kernel
theorem dX0_mayTrim_81 : decode cX0_mayTrim 81 = .ok (.putfield 26, 3) := by decide +kernel
theorem dX0_mayTrim_84 : decode cX0_mayTrim 84 = .ok (.aload_n 0, 1) := by decide +kernel
theorem dX0_mayTrim_85 : decode cX0_mayTrim 85 = .ok (.iload_n 1, 1) := by decide +kernel
theorem dX0_mayTrim_86 : decode cX0_mayTrim 86 = .ok (.iload_n 2, 1) := by decide +kernel
theorem dX0_mayTrim_87 : decode cX0_mayTrim 87 = .ok (.iconst 1, 1) := by decide +kernel
theorem dX0_mayTrim_88 : decode cX0_mayTrim 88 = .ok (.isub, 1) := by decide +kernel
theorem dX0_mayTrim_89 : decode cX0_mayTrim 89 = .ok (.invokevirtual 74, 3) := by decide +kernel
theorem dX0_mayTrim_92 : decode cX0_mayTrim 92 = .ok (.return_, 1) := by decide +kernel
theorem dX0_hold_0 : decode cX0_hold 0 = .ok (.aload_n 0, 1) := by decide +kernel
theorem dX0_hold_1 : decode cX0_hold 1 = .ok (.iload_n 1, 1) := by decide +kernel
theorem dX0_hold_2 : decode cX0_hold 2 = .ok (.putfield 45, 3) := by decide +kernel
theorem dX0_hold_5 : decode cX0_hold 5 = .ok (.aload_n 0, 1) := by decide +kernel
theorem dX0_hold_6 : decode cX0_hold 6 = .ok (.iload_n 2, 1) := by decide +kernel
theorem dX0_hold_7 : decode cX0_hold 7 = .ok (.putfield 42, 3) := by decide +kernel
theorem dX0_hold_10 : decode cX0_hold 10 = .ok (.return_, 1) := by decide +kernel
set_option maxRecDepth 20000 in
theorem ggX0_fairPiece_X1_worthFrom : GoodIn wsX0_fairPiece wsX1_worthFrom := goodIn_r _ [6, 7, 20, 21, 22, 23, 24, 25, 26, 27, 28] rfl (by decide +kernel)
set_option maxRecDepth 20000 in
theorem gX0_fairPiece_X1_worthFrom : GoodIn wsX0_fairPiece (wsV RX0 87 RX1 yX1_worthFrom wsX1_worthFrom) := goodIn_app (goodIn_of _ (by decide +kernel)) ggX0_fairPiece_X1_worthFrom
set_option maxRecDepth 20000 in
theorem ggX0_fairPiece_X1_worthOf : GoodIn wsX0_fairPiece wsX1_worthOf := goodIn_r _ [11, 7, 20, 21, 22, 23, 24, 25, 26, 27, 28] rfl (by decide +kernel)
set_option maxRecDepth 20000 in
theorem gX0_fairPiece_X1_worthOf : GoodIn wsX0_fairPiece (wsV RX0 90 RX1 yX1_worthOf wsX1_worthOf) := goodIn_app (goodIn_of _ (by decide +kernel)) ggX0_fairPiece_X1_worthOf
theorem dX0_fairPiece_0 : decode cX0_fairPiece 0 = .ok (.aload_n 0, 1) := by decide +kernel
theorem dX0_fairPiece_1 : decode cX0_fairPiece 1 = .ok (.getfield 18, 3) := by decide +kernel
theorem dX0_fairPiece_4 : decode cX0_fairPiece 4 = .ok (.iload_n 3, 1) := by decide +kernel
theorem dX0_fairPiece_5 : decode cX0_fairPiece 5 = .ok (.iload_n 1, 1) := by decide +kernel
theorem dX0_fairPiece_6 : decode cX0_fairPiece 6 = .ok (.invokevirtual 87, 3) := by decide +kernel
theorem dX0_fairPiece_9 : decode cX0_fairPiece 9 = .ok (.istore 4, 2) := by decide +kernel
theorem dX0_fairPiece_11 : decode cX0_fairPiece 11 = .ok (.iconst 0, 1) := by decide +kernel
theorem dX0_fairPiece_12 : decode cX0_fairPiece 12 = .ok (.istore 5, 2) := by decide +kernel
theorem dX0_fairPiece_14 : decode cX0_fairPiece 14 = .ok (.iconst 0, 1) := by decide +kernel
theorem dX0_fairPiece_15 : decode cX0_fairPiece 15 = .ok (.istore 6, 2) := by decide +kernel
theorem dX0_fairPiece_17 : decode cX0_fairPiece 17 = .ok (.iload_n 3, 1) := by decide +kernel
theorem dX0_fairPiece_18 : decode cX0_fairPiece 18 = .ok (.iload 6, 2) := by decide +kernel
theorem dX0_fairPiece_20 : decode cX0_fairPiece 20 = .ok (.iadd, 1) := by decide +kernel
theorem dX0_fairPiece_21 : decode cX0_fairPiece 21 = .ok (.bipush 24, 2) := by decide +kernel
theorem dX0_fairPiece_23 : decode cX0_fairPiece 23 = .ok (.if_icmp .ge 35, 3) := by decide +kernel
theorem dX0_fairPiece_26 : decode cX0_fairPiece 26 = .ok (.iload 5, 2) := by decide +kernel
theorem dX0_fairPiece_28 : decode cX0_fairPiece 28 = .ok (.iload_n 2, 1) := by decide +kernel
theorem dX0_fairPiece_29 : decode cX0_fairPiece 29 = .ok (.imul, 1) := by decide +kernel
theorem dX0_fairPiece_30 : decode cX0_fairPiece 30 = .ok (.iload 4, 2) := by decide +kernel
theorem dX0_fairPiece_32 : decode cX0_fairPiece 32 = .ok (.if_icmp .ge 26, 3) := by decide +kernel
theorem dX0_fairPiece_35 : decode cX0_fairPiece 35 = .ok (.iload 5, 2) := by decide +kernel
theorem dX0_fairPiece_37 : decode cX0_fairPiece 37 = .ok (.aload_n 0, 1) := by decide +kernel
theorem dX0_fairPiece_38 : decode cX0_fairPiece 38 = .ok (.getfield 18, 3) := by decide +kernel
theorem dX0_fairPiece_41 : decode cX0_fairPiece 41 = .ok (.iload_n 3, 1) := by decide +kernel
theorem dX0_fairPiece_42 : decode cX0_fairPiece 42 = .ok (.iload 6, 2) := by decide +kernel
theorem dX0_fairPiece_44 : decode cX0_fairPiece 44 = .ok (.iadd, 1) := by decide +kernel
theorem dX0_fairPiece_45 : decode cX0_fairPiece 45 = .ok (.iload_n 1, 1) := by decide +kernel
theorem dX0_fairPiece_46 : decode cX0_fairPiece 46 = .ok (.invokevirtual 90, 3) := by decide +kernel
theorem dX0_fairPiece_49 : decode cX0_fairPiece 49 = .ok (.iadd, 1) := by decide +kernel
theorem dX0_fairPiece_50 : decode cX0_fairPiece 50 = .ok (.istore 5, 2) := by decide +kernel
theorem dX0_fairPiece_52 : decode cX0_fairPiece 52 = .ok (.iinc 6 1, 3) := by decide +kernel
theorem dX0_fairPiece_55 : decode cX0_fairPiece 55 = .ok (.goto (-38), 3) := by decide +kernel
theorem dX0_fairPiece_58 : decode cX0_fairPiece 58 = .ok (.iload 6, 2) := by decide +kernel
theorem dX0_fairPiece_60 : decode cX0_fairPiece 60 = .ok (.ireturn, 1) := by decide +kernel
set_option maxRecDepth 20000 in
theorem ggX0_firstOf_X5_contains : GoodIn wsX0_firstOf wsX5_contains := goodIn_r _ [4] rfl (by decide +kernel)
set_option maxRecDepth 20000 in
theorem gX0_firstOf_X5_contains_n67 : GoodIn wsX0_firstOf (wsX5_contains) := ggX0_firstOf_X5_contains
theorem dX0_firstOf_0 : decode cX0_firstOf 0 = .ok (.iconst 0, 1) := by decide +kernel
theorem dX0_firstOf_1 : decode cX0_firstOf 1 = .ok (.istore_n 2, 1) := by decide +kernel
theorem dX0_firstOf_2 : decode cX0_firstOf 2 = .ok (.iload_n 2, 1) := by decide +kernel
theorem dX0_firstOf_3 : decode cX0_firstOf 3 = .ok (.bipush 7, 2) := by decide +kernel
theorem dX0_firstOf_5 : decode cX0_firstOf 5 = .ok (.if_icmp .ge 29, 3) := by decide +kernel
theorem dX0_firstOf_8 : decode cX0_firstOf 8 = .ok (.iload_n 1, 1) := by decide +kernel
theorem dX0_firstOf_9 : decode cX0_firstOf 9 = .ok (.aload_n 0, 1) := by decide +kernel
theorem dX0_firstOf_10 : decode cX0_firstOf 10 = .ok (.getfield 15, 3) := by decide +kernel
theorem dX0_firstOf_13 : decode cX0_firstOf 13 = .ok (.iload_n 2, 1) := by decide +kernel
theorem dX0_firstOf_14 : decode cX0_firstOf 14 = .ok (.iaload, 1) := by decide +kernel
theorem dX0_firstOf_15 : decode cX0_firstOf 15 = .ok (.invokestatic 67, 3) := by decide +kernel
theorem dX0_firstOf_18 : decode cX0_firstOf 18 = .ok (.ifCond .eq 10, 3) := by decide +kernel
theorem dX0_firstOf_21 : decode cX0_firstOf 21 = .ok (.aload_n 0, 1) := by decide +kernel
theorem dX0_firstOf_22 : decode cX0_firstOf 22 = .ok (.getfield 15, 3) := by decide +kernel
theorem dX0_firstOf_25 : decode cX0_firstOf 25 = .ok (.iload_n 2, 1) := by decide +kernel
theorem dX0_firstOf_26 : decode cX0_firstOf 26 = .ok (.iaload, 1) := by decide +kernel
theorem dX0_firstOf_27 : decode cX0_firstOf 27 = .ok (.ireturn, 1) := by decide +kernel
theorem dX0_firstOf_28 : decode cX0_firstOf 28 = .ok (.iinc 2 1, 3) := by decide +kernel
theorem dX0_firstOf_31 : decode cX0_firstOf 31 = .ok (.goto (-29), 3) := by decide +kernel
theorem dX0_firstOf_34 : decode cX0_firstOf 34 = .ok (.bipush 7, 2) := by decide +kernel
theorem dX0_firstOf_36 : decode cX0_firstOf 36 = .ok (.ireturn, 1) := by decide +kernel
theorem dX0_handOut_0 : decode cX0_handOut 0 = .ok (.iload_n 1, 1) := by decide +kernel
theorem dX0_handOut_1 : decode cX0_handOut 1 = .ok (.istore 4, 2) := by decide +kernel
theorem dX0_handOut_3 : decode cX0_handOut 3 = .ok (.iload 4, 2) := by decide +kernel
theorem dX0_handOut_5 : decode cX0_handOut 5 = .ok (.iload_n 2, 1) := by decide +kernel
theorem dX0_handOut_6 : decode cX0_handOut 6 = .ok (.if_icmp .ge 24, 3) := by decide +kernel
theorem dX0_handOut_9 : decode cX0_handOut 9 = .ok (.iload 4, 2) := by decide +kernel
theorem dX0_handOut_11 : decode cX0_handOut 11 = .ok (.bipush 24, 2) := by decide +kernel
theorem dX0_handOut_13 : decode cX0_handOut 13 = .ok (.if_icmp .ge 17, 3) := by decide +kernel
theorem dX0_handOut_16 : decode cX0_handOut 16 = .ok (.aload_n 0, 1) := by decide +kernel
theorem dX0_handOut_17 : decode cX0_handOut 17 = .ok (.getfield 9, 3) := by decide +kernel
theorem dX0_handOut_20 : decode cX0_handOut 20 = .ok (.iload 4, 2) := by decide +kernel
theorem dX0_handOut_22 : decode cX0_handOut 22 = .ok (.iload_n 3, 1) := by decide +kernel
theorem dX0_handOut_23 : decode cX0_handOut 23 = .ok (.iastore, 1) := by decide +kernel
theorem dX0_handOut_24 : decode cX0_handOut 24 = .ok (.iinc 4 1, 3) := by decide +kernel
theorem dX0_handOut_27 : decode cX0_handOut 27 = .ok (.goto (-24), 3) := by decide +kernel
theorem dX0_handOut_30 : decode cX0_handOut 30 = .ok (.return_, 1) := by decide +kernel
set_option maxRecDepth 20000 in
theorem ggX1_init_X1_weighPlots : GoodIn wsX1_init wsX1_weighPlots := goodIn_r _ [15, 16, 17, 18, 14, 19, 5, 6, 10, 20, 21, 22, 23, 24, 25, 26, 27, 28] rfl (by decide +kernel)
set_option maxRecDepth 20000 in
theorem gX1_init_X1_weighPlots : GoodIn wsX1_init (wsV RX1 30 RX1 yX1_weighPlots wsX1_weighPlots) := goodIn_app (goodIn_of _ (by decide +kernel)) ggX1_init_X1_weighPlots
theorem dX1_init_0 : decode cX1_init 0 = .ok (.aload_n 0, 1) := by decide +kernel
theorem dX1_init_1 : decode cX1_init 1 = .ok (.invokespecial 3, 3) := by decide +kernel
theorem dX1_init_4 : decode cX1_init 4 = .ok (.aload_n 0, 1) := by decide +kernel
theorem dX1_init_5 : decode cX1_init 5 = .ok (.bipush 96, 2) := by decide +kernel
theorem dX1_init_7 : decode cX1_init 7 = .ok (.newarray .int, 2) := by decide +kernel
theorem dX1_init_9 : decode cX1_init 9 = .ok (.putfield 9, 3) := by decide +kernel
theorem dX1_init_12 : decode cX1_init 12 = .ok (.aload_n 0, 1) := by decide +kernel
theorem dX1_init_13 : decode cX1_init 13 = .ok (.bipush 28, 2) := by decide +kernel
theorem dX1_init_15 : decode cX1_init 15 = .ok (.newarray .int, 2) := by decide +kernel
theorem dX1_init_17 : decode cX1_init 17 = .ok (.putfield 15, 3) := by decide +kernel
theorem dX1_init_20 : decode cX1_init 20 = .ok (.aload_n 0, 1) := by decide +kernel
theorem dX1_init_21 : decode cX1_init 21 = .ok (.bipush 49, 2) := by decide +kernel
theorem dX1_init_23 : decode cX1_init 23 = .ok (.newarray .int, 2) := by decide +kernel
theorem dX1_init_25 : decode cX1_init 25 = .ok (.putfield 18, 3) := by decide +kernel
theorem dX1_init_28 : decode cX1_init 28 = .ok (.aload_n 0, 1) := by decide +kernel
theorem dX1_init_29 : decode cX1_init 29 = .ok (.bipush 24, 2) := by decide +kernel
theorem dX1_init_31 : decode cX1_init 31 = .ok (.newarray .int, 2) := by decide +kernel
theorem dX1_init_33 : decode cX1_init 33 = .ok (.putfield 21, 3) := by decide +kernel
theorem dX1_init_36 : decode cX1_init 36 = .ok (.aload_n 0, 1) := by decide +kernel
theorem dX1_init_37 : decode cX1_init 37 = .ok (.iconst 2, 1) := by decide +kernel
theorem dX1_init_38 : decode cX1_init 38 = .ok (.newarray .int, 2) := by decide +kernel
theorem dX1_init_40 : decode cX1_init 40 = .ok (.putfield 24, 3) := by decide +kernel
theorem dX1_init_43 : decode cX1_init 43 = .ok (.aload_n 0, 1) := by decide +kernel
theorem dX1_init_44 : decode cX1_init 44 = .ok (.sipush 168, 3) := by decide +kernel
theorem dX1_init_47 : decode cX1_init 47 = .ok (.newarray .int, 2) := by decide +kernel
theorem dX1_init_49 : decode cX1_init 49 = .ok (.putfield 27, 3) := by decide +kernel
theorem dX1_init_52 : decode cX1_init 52 = .ok (.iconst 0, 1) := by decide +kernel
theorem dX1_init_53 : decode cX1_init 53 = .ok (.istore_n 1, 1) := by decide +kernel
theorem dX1_init_54 : decode cX1_init 54 = .ok (.iload_n 1, 1) := by decide +kernel
theorem dX1_init_55 : decode cX1_init 55 = .ok (.bipush 24, 2) := by decide +kernel
theorem dX1_init_57 : decode cX1_init 57 = .ok (.if_icmp .ge 30, 3) := by decide +kernel
theorem dX1_init_60 : decode cX1_init 60 = .ok (.aload_n 0, 1) := by decide +kernel
theorem dX1_init_61 : decode cX1_init 61 = .ok (.getfield 9, 3) := by decide +kernel
theorem dX1_init_64 : decode cX1_init 64 = .ok (.iload_n 1, 1) := by decide +kernel
theorem dX1_init_65 : decode cX1_init 65 = .ok (.iconst 4, 1) := by decide +kernel
theorem dX1_init_66 : decode cX1_init 66 = .ok (.imul, 1) := by decide +kernel
theorem dX1_init_67 : decode cX1_init 67 = .ok (.iload_n 1, 1) := by decide +kernel
theorem dX1_init_68 : decode cX1_init 68 = .ok (.iconst 4, 1) := by decide +kernel
theorem dX1_init_69 : decode cX1_init 69 = .ok (.irem, 1) := by decide +kernel
theorem dX1_init_70 : decode cX1_init 70 = .ok (.iadd, 1) := by decide +kernel
theorem dX1_init_71 : decode cX1_init 71 = .ok (.iconst 1, 1) := by decide +kernel
theorem dX1_init_72 : decode cX1_init 72 = .ok (.iastore, 1) := by decide +kernel
theorem dX1_init_73 : decode cX1_init 73 = .ok (.aload_n 0, 1) := by decide +kernel
theorem dX1_init_74 : decode cX1_init 74 = .ok (.getfield 21, 3) := by decide +kernel
theorem dX1_init_77 : decode cX1_init 77 = .ok (.iload_n 1, 1) := by decide +kernel
theorem dX1_init_78 : decode cX1_init 78 = .ok (.bipush 7, 2) := by decide +kernel
theorem dX1_init_80 : decode cX1_init 80 = .ok (.iastore, 1) := by decide +kernel
theorem dX1_init_81 : decode cX1_init 81 = .ok (.iinc 1 1, 3) := by decide +kernel
theorem dX1_init_84 : decode cX1_init 84 = .ok (.goto (-30), 3) := by decide +kernel
theorem dX1_init_87 : decode cX1_init 87 = .ok (.iconst 0, 1) := by decide +kernel
theorem dX1_init_88 : decode cX1_init 88 = .ok (.istore_n 1, 1) := by decide +kernel
theorem dX1_init_89 : decode cX1_init 89 = .ok (.iload_n 1, 1) := by decide +kernel
theorem dX1_init_90 : decode cX1_init 90 = .ok (.bipush 28, 2) := by decide +kernel
theorem dX1_init_92 : decode cX1_init 92 = .ok (.if_icmp .ge 16, 3) := by decide +kernel
theorem dX1_init_95 : decode cX1_init 95 = .ok (.aload_n 0, 1) := by decide +kernel
theorem dX1_init_96 : decode cX1_init 96 = .ok (.getfield 15, 3) := by decide +kernel
theorem dX1_init_99 : decode cX1_init 99 = .ok (.iload_n 1, 1) := by decide +kernel
theorem dX1_init_100 : decode cX1_init 100 = .ok (.iconst 1, 1) := by decide +kernel
theorem dX1_init_101 : decode cX1_init 101 = .ok (.iastore, 1) := by decide +kernel
theorem dX1_init_102 : decode cX1_init 102 = .ok (.iinc 1 1, 3) := by decide +kernel
theorem dX1_init_105 : decode cX1_init 105 = .ok (.goto (-16), 3) := by decide +kernel
theorem dX1_init_108 : decode cX1_init 108 = .ok (.aload_n 0, 1) := by decide +kernel
theorem dX1_init_109 : decode cX1_init 109 = .ok (.getfield 24, 3) := by decide +kernel
theorem dX1_init_112 : decode cX1_init 112 = .ok (.iconst 0, 1) := by decide +kernel
theorem dX1_init_113 : decode cX1_init 113 = .ok (.iconst 0, 1) := by decide +kernel
theorem dX1_init_114 : decode cX1_init 114 = .ok (.iastore, 1) := by decide +kernel
theorem dX1_init_115 : decode cX1_init 115 = .ok (.aload_n 0, 1) := by decide +kernel
theorem dX1_init_116 : decode cX1_init 116 = .ok (.getfield 24, 3) := by decide +kernel
theorem dX1_init_119 : decode cX1_init 119 = .ok (.iconst 1, 1) := by decide +kernel
theorem dX1_init_120 : decode cX1_init 120 = .ok (.iconst 5, 1) := by decide +kernel
theorem dX1_init_121 : decode cX1_init 121 = .ok (.iastore, 1) := by decide +kernel
theorem dX1_init_122 : decode cX1_init 122 = .ok (.iconst 0, 1) := by decide +kernel
theorem dX1_init_123 : decode cX1_init 123 = .ok (.istore_n 1, 1) := by decide +kernel
theorem dX1_init_124 : decode cX1_init 124 = .ok (.iload_n 1, 1) := by decide +kernel
theorem dX1_init_125 : decode cX1_init 125 = .ok (.bipush 7, 2) := by decide +kernel
theorem dX1_init_127 : decode cX1_init 127 = .ok (.if_icmp .ge 14, 3) := by decide +kernel
theorem dX1_init_130 : decode cX1_init 130 = .ok (.aload_n 0, 1) := by decide +kernel
theorem dX1_init_131 : decode cX1_init 131 = .ok (.iload_n 1, 1) := by decide +kernel
theorem dX1_init_132 : decode cX1_init 132 = .ok (.invokevirtual 30, 3) := by decide +kernel
theorem dX1_init_135 : decode cX1_init 135 = .ok (.iinc 1 1, 3) := by decide +kernel
theorem dX1_init_138 : decode cX1_init 138 = .ok (.goto (-14), 3) := by decide +kernel
theorem dX1_init_141 : decode cX1_init 141 = .ok (.return_, 1) := by decide +kernel
theorem dX1_copyFrom_0 : decode cX1_copyFrom 0 = .ok (.aload_n 1, 1) := by decide +kernel
theorem dX1_copyFrom_1 : decode cX1_copyFrom 1 = .ok (.getfield 9, 3) := by decide +kernel
theorem dX1_copyFrom_4 : decode cX1_copyFrom 4 = .ok (.iconst 0, 1) := by decide +kernel
theorem dX1_copyFrom_5 : decode cX1_copyFrom 5 = .ok (.aload_n 0, 1) := by decide +kernel
theorem dX1_copyFrom_6 : decode cX1_copyFrom 6 = .ok (.getfield 9, 3) := by decide +kernel
theorem dX1_copyFrom_9 : decode cX1_copyFrom 9 = .ok (.iconst 0, 1) := by decide +kernel
theorem dX1_copyFrom_10 : decode cX1_copyFrom 10 = .ok (.bipush 96, 2) := by decide +kernel
theorem dX1_copyFrom_12 : decode cX1_copyFrom 12 = .ok (.invokestatic 34, 3) := by decide +kernel
theorem dX1_copyFrom_15 : decode cX1_copyFrom 15 = .ok (.aload_n 1, 1) := by decide +kernel
theorem dX1_copyFrom_16 : decode cX1_copyFrom 16 = .ok (.getfield 15, 3) := by decide +kernel
theorem dX1_copyFrom_19 : decode cX1_copyFrom 19 = .ok (.iconst 0, 1) := by decide +kernel
theorem dX1_copyFrom_20 : decode cX1_copyFrom 20 = .ok (.aload_n 0, 1) := by decide +kernel
theorem dX1_copyFrom_21 : decode cX1_copyFrom 21 = .ok (.getfield 15, 3) := by decide +kernel
theorem dX1_copyFrom_24 : decode cX1_copyFrom 24 = .ok (.iconst 0, 1) := by decide +kernel
theorem dX1_copyFrom_25 : decode cX1_copyFrom 25 = .ok (.bipush 28, 2) := by decide +kernel
theorem dX1_copyFrom_27 : decode cX1_copyFrom 27 = .ok (.invokestatic 34, 3) := by decide +kernel
theorem dX1_copyFrom_30 : decode cX1_copyFrom 30 = .ok (.aload_n 1, 1) := by decide +kernel
theorem dX1_copyFrom_31 : decode cX1_copyFrom 31 = .ok (.getfield 18, 3) := by decide +kernel
theorem dX1_copyFrom_34 : decode cX1_copyFrom 34 = .ok (.iconst 0, 1) := by decide +kernel
theorem dX1_copyFrom_35 : decode cX1_copyFrom 35 = .ok (.aload_n 0, 1) := by decide +kernel
theorem dX1_copyFrom_36 : decode cX1_copyFrom 36 = .ok (.getfield 18, 3) := by decide +kernel
theorem dX1_copyFrom_39 : decode cX1_copyFrom 39 = .ok (.iconst 0, 1) := by decide +kernel
theorem dX1_copyFrom_40 : decode cX1_copyFrom 40 = .ok (.bipush 49, 2) := by decide +kernel
theorem dX1_copyFrom_42 : decode cX1_copyFrom 42 = .ok (.invokestatic 34, 3) := by decide +kernel
theorem dX1_copyFrom_45 : decode cX1_copyFrom 45 = .ok (.aload_n 1, 1) := by decide +kernel
theorem dX1_copyFrom_46 : decode cX1_copyFrom 46 = .ok (.getfield 21, 3) := by decide +kernel
theorem dX1_copyFrom_49 : decode cX1_copyFrom 49 = .ok (.iconst 0, 1) := by decide +kernel
theorem dX1_copyFrom_50 : decode cX1_copyFrom 50 = .ok (.aload_n 0, 1) := by decide +kernel
theorem dX1_copyFrom_51 : decode cX1_copyFrom 51 = .ok (.getfield 21, 3) := by decide +kernel
theorem dX1_copyFrom_54 : decode cX1_copyFrom 54 = .ok (.iconst 0, 1) := by decide +kernel
theorem dX1_copyFrom_55 : decode cX1_copyFrom 55 = .ok (.bipush 24, 2) := by decide +kernel
theorem dX1_copyFrom_57 : decode cX1_copyFrom 57 = .ok (.invokestatic 34, 3) := by decide +kernel
theorem dX1_copyFrom_60 : decode cX1_copyFrom 60 = .ok (.aload_n 1, 1) := by decide +kernel
theorem dX1_copyFrom_61 : decode cX1_copyFrom 61 = .ok (.getfield 24, 3) := by decide +kernel
theorem dX1_copyFrom_64 : decode cX1_copyFrom 64 = .ok (.iconst 0, 1) := by decide +kernel
theorem dX1_copyFrom_65 : decode cX1_copyFrom 65 = .ok (.aload_n 0, 1) := by decide +kernel
theorem dX1_copyFrom_66 : decode cX1_copyFrom 66 = .ok (.getfield 24, 3) := by decide +kernel
theorem dX1_copyFrom_69 : decode cX1_copyFrom 69 = .ok (.iconst 0, 1) := by decide +kernel
theorem dX1_copyFrom_70 : decode cX1_copyFrom 70 = .ok (.iconst 2, 1) := by decide +kernel
theorem dX1_copyFrom_71 : decode cX1_copyFrom 71 = .ok (.invokestatic 34, 3) := by decide +kernel
theorem dX1_copyFrom_74 : decode cX1_copyFrom 74 = .ok (.aload_n 1, 1) := by decide +kernel
theorem dX1_copyFrom_75 : decode cX1_copyFrom 75 = .ok (.getfield 27, 3) := by decide +kernel
theorem dX1_copyFrom_78 : decode cX1_copyFrom 78 = .ok (.iconst 0, 1) := by decide +kernel
theorem dX1_copyFrom_79 : decode cX1_copyFrom 79 = .ok (.aload_n 0, 1) := by decide +kernel
theorem dX1_copyFrom_80 : decode cX1_copyFrom 80 = .ok (.getfield 27, 3) := by decide +kernel
theorem dX1_copyFrom_83 : decode cX1_copyFrom 83 = .ok (.iconst 0, 1) := by decide +kernel
theorem dX1_copyFrom_84 : decode cX1_copyFrom 84 = .ok (.sipush 168, 3) := by decide +kernel
theorem dX1_copyFrom_87 : decode cX1_copyFrom 87 = .ok (.invokestatic 34, 3) := by decide +kernel
theorem dX1_copyFrom_90 : decode cX1_copyFrom 90 = .ok (.aload_n 0, 1) := by decide +kernel
theorem dX1_copyFrom_91 : decode cX1_copyFrom 91 = .ok (.aload_n 1, 1) := by decide +kernel
theorem dX1_copyFrom_92 : decode cX1_copyFrom 92 = .ok (.getfield 40, 3) := by decide +kernel
theorem dX1_copyFrom_95 : decode cX1_copyFrom 95 = .ok (.putfield 40, 3) := by decide +kernel
theorem dX1_copyFrom_98 : decode cX1_copyFrom 98 = .ok (.aload_n 0, 1) := by decide +kernel
theorem dX1_copyFrom_99 : decode cX1_copyFrom 99 = .ok (.aload_n 1, 1) := by decide +kernel
theorem dX1_copyFrom_100 : decode cX1_copyFrom 100 = .ok (.getfield 44, 3) := by decide +kernel
theorem dX1_copyFrom_103 : decode cX1_copyFrom 103 = .ok (.putfield 44, 3) := by decide +kernel
theorem dX1_copyFrom_106 : decode cX1_copyFrom 106 = .ok (.aload_n 0, 1) := by decide +kernel
theorem dX1_copyFrom_107 : decode cX1_copyFrom 107 = .ok (.aload_n 1, 1) := by decide +kernel
theorem dX1_copyFrom_108 : decode cX1_copyFrom 108 = .ok (.getfield 47, 3) := by decide +kernel
theorem dX1_copyFrom_111 : decode cX1_copyFrom 111 = .ok (.putfield 47, 3) := by decide +kernel
theorem dX1_copyFrom_114 : decode cX1_copyFrom 114 = .ok (.return_, 1) := by decide +kernel
set_option maxRecDepth 20000 in
theorem ggX1_putAmount_X1_weighPlot : GoodIn wsX1_putAmount wsX1_weighPlot := goodIn_r _ [6, 1, 7, 8, 9, 10, 11, 12, 13, 14, 15, 16, 17] rfl (by decide +kernel)
set_option maxRecDepth 20000 in
theorem gX1_putAmount_X1_weighPlot : GoodIn wsX1_putAmount (wsV RX1 50 RX1 yX1_weighPlot wsX1_weighPlot) := goodIn_app (goodIn_of _ (by decide +kernel)) ggX1_putAmount_X1_weighPlot
theorem dX1_putAmount_0 : decode cX1_putAmount 0 = .ok (.aload_n 0, 1) := by decide +kernel
theorem dX1_putAmount_1 : decode cX1_putAmount 1 = .ok (.getfield 9, 3) := by decide +kernel
theorem dX1_putAmount_4 : decode cX1_putAmount 4 = .ok (.iload_n 1, 1) := by decide +kernel
theorem dX1_putAmount_5 : decode cX1_putAmount 5 = .ok (.iconst 4, 1) := by decide +kernel
theorem dX1_putAmount_6 : decode cX1_putAmount 6 = .ok (.imul, 1) := by decide +kernel
theorem dX1_putAmount_7 : decode cX1_putAmount 7 = .ok (.iload_n 2, 1) := by decide +kernel
theorem dX1_putAmount_8 : decode cX1_putAmount 8 = .ok (.iadd, 1) := by decide +kernel
theorem dX1_putAmount_9 : decode cX1_putAmount 9 = .ok (.iload_n 3, 1) := by decide +kernel
theorem dX1_putAmount_10 : decode cX1_putAmount 10 = .ok (.iastore, 1) := by decide +kernel
theorem dX1_putAmount_11 : decode cX1_putAmount 11 = .ok (.iconst 0, 1) := by decide +kernel
theorem dX1_putAmount_12 : decode cX1_putAmount 12 = .ok (.istore 4, 2) := by decide +kernel
theorem dX1_putAmount_14 : decode cX1_putAmount 14 = .ok (.iload 4, 2) := by decide +kernel
theorem dX1_putAmount_16 : decode cX1_putAmount 16 = .ok (.bipush 7, 2) := by decide +kernel
theorem dX1_putAmount_18 : decode cX1_putAmount 18 = .ok (.if_icmp .ge 16, 3) := by decide +kernel
theorem dX1_putAmount_21 : decode cX1_putAmount 21 = .ok (.aload_n 0, 1) := by decide +kernel
theorem dX1_putAmount_22 : decode cX1_putAmount 22 = .ok (.iload_n 1, 1) := by decide +kernel
theorem dX1_putAmount_23 : decode cX1_putAmount 23 = .ok (.iload 4, 2) := by decide +kernel
theorem dX1_putAmount_25 : decode cX1_putAmount 25 = .ok (.invokevirtual 50, 3) := by decide +kernel
theorem dX1_putAmount_28 : decode cX1_putAmount 28 = .ok (.iinc 4 1, 3) := by decide +kernel
theorem dX1_putAmount_31 : decode cX1_putAmount 31 = .ok (.goto (-17), 3) := by decide +kernel
theorem dX1_putAmount_34 : decode cX1_putAmount 34 = .ok (.return_, 1) := by decide +kernel
set_option maxRecDepth 20000 in
theorem ggX1_putWeight_X1_weighPlots : GoodIn wsX1_putWeight wsX1_weighPlots := goodIn_r _ [6, 7, 8, 9, 5, 10, 11, 1, 12, 13, 14, 15, 16, 17, 18, 19, 20, 21] rfl (by decide +kernel)
set_option maxRecDepth 20000 in
theorem gX1_putWeight_X1_weighPlots : GoodIn wsX1_putWeight (wsV RX1 30 RX1 yX1_weighPlots wsX1_weighPlots) := goodIn_app (goodIn_of _ (by decide +kernel)) ggX1_putWeight_X1_weighPlots
theorem dX1_putWeight_0 : decode cX1_putWeight 0 = .ok (.aload_n 0, 1) := by decide +kernel
theorem dX1_putWeight_1 : decode cX1_putWeight 1 = .ok (.getfield 15, 3) := by decide +kernel
theorem dX1_putWeight_4 : decode cX1_putWeight 4 = .ok (.iload_n 1, 1) := by decide +kernel
theorem dX1_putWeight_5 : decode cX1_putWeight 5 = .ok (.iconst 4, 1) := by decide +kernel
theorem dX1_putWeight_6 : decode cX1_putWeight 6 = .ok (.imul, 1) := by decide +kernel
theorem dX1_putWeight_7 : decode cX1_putWeight 7 = .ok (.iload_n 2, 1) := by decide +kernel
theorem dX1_putWeight_8 : decode cX1_putWeight 8 = .ok (.iadd, 1) := by decide +kernel
theorem dX1_putWeight_9 : decode cX1_putWeight 9 = .ok (.iload_n 3, 1) := by decide +kernel
theorem dX1_putWeight_10 : decode cX1_putWeight 10 = .ok (.iastore, 1) := by decide +kernel
theorem dX1_putWeight_11 : decode cX1_putWeight 11 = .ok (.aload_n 0, 1) := by decide +kernel
theorem dX1_putWeight_12 : decode cX1_putWeight 12 = .ok (.iload_n 1, 1) := by decide +kernel
theorem dX1_putWeight_13 : decode cX1_putWeight 13 = .ok (.invokevirtual 30, 3) := by decide +kernel
theorem dX1_putWeight_16 : decode cX1_putWeight 16 = .ok (.return_, 1) := by decide +kernel
theorem dX1_putGrudge_0 : decode cX1_putGrudge 0 = .ok (.aload_n 0, 1) := by decide +kernel
theorem dX1_putGrudge_1 : decode cX1_putGrudge 1 = .ok (.getfield 18, 3) := by decide +kernel
theorem dX1_putGrudge_4 : decode cX1_putGrudge 4 = .ok (.iload_n 1, 1) := by decide +kernel
theorem dX1_putGrudge_5 : decode cX1_putGrudge 5 = .ok (.bipush 7, 2) := by decide +kernel
theorem dX1_putGrudge_7 : decode cX1_putGrudge 7 = .ok (.imul, 1) := by decide +kernel
theorem dX1_putGrudge_8 : decode cX1_putGrudge 8 = .ok (.iload_n 2, 1) := by decide +kernel
theorem dX1_putGrudge_9 : decode cX1_putGrudge 9 = .ok (.iadd, 1) := by decide +kernel
theorem dX1_putGrudge_10 : decode cX1_putGrudge 10 = .ok (.iload_n 3, 1) := by decide +kernel
theorem dX1_putGrudge_11 : decode cX1_putGrudge 11 = .ok (.iastore, 1) := by decide +kernel
theorem dX1_putGrudge_12 : decode cX1_putGrudge 12 = .ok (.return_, 1) := by decide +kernel
set_option maxRecDepth 20000 in
theorem ggX1_weighPlots_X1_weighPlot : GoodIn wsX1_weighPlots wsX1_weighPlot := goodIn_r _ [5, 6, 7, 8, 9, 10, 11, 12, 13, 14, 15, 16, 17] rfl (by decide +kernel)
set_option maxRecDepth 20000 in
theorem gX1_weighPlots_X1_weighPlot : GoodIn wsX1_weighPlots (wsV RX1 50 RX1 yX1_weighPlot wsX1_weighPlot) := goodIn_app (goodIn_of _ (by decide +kernel)) ggX1_weighPlots_X1_weighPlot
theorem dX1_weighPlots_0 : decode cX1_weighPlots 0 = .ok (.iconst 0, 1) := by decide +kernel
theorem dX1_weighPlots_1 : decode cX1_weighPlots 1 = .ok (.istore_n 2, 1) := by decide +kernel
theorem dX1_weighPlots_2 : decode cX1_weighPlots 2 = .ok (.iload_n 2, 1) := by decide +kernel
theorem dX1_weighPlots_3 : decode cX1_weighPlots 3 = .ok (.bipush 24, 2) := by decide +kernel
theorem dX1_weighPlots_5 : decode cX1_weighPlots 5 = .ok (.if_icmp .ge 15, 3) := by decide +kernel
theorem dX1_weighPlots_8 : decode cX1_weighPlots 8 = .ok (.aload_n 0, 1) := by decide +kernel
theorem dX1_weighPlots_9 : decode cX1_weighPlots 9 = .ok (.iload_n 2, 1) := by decide +kernel
theorem dX1_weighPlots_10 : decode cX1_weighPlots 10 = .ok (.iload_n 1, 1) := by decide +kernel
theorem dX1_weighPlots_11 : decode cX1_weighPlots 11 = .ok (.invokevirtual 50, 3) := by decide +kernel
theorem dX1_weighPlots_14 : decode cX1_weighPlots 14 = .ok (.iinc 2 1, 3) := by decide +kernel
theorem dX1_weighPlots_17 : decode cX1_weighPlots 17 = .ok (.goto (-15), 3) := by decide +kernel
theorem dX1_weighPlots_20 : decode cX1_weighPlots 20 = .ok (.return_, 1) := by decide +kernel
theorem dX1_weighPlot_0 : decode cX1_weighPlot 0 = .ok (.iconst 0, 1) := by decide +kernel
theorem dX1_weighPlot_1 : decode cX1_weighPlot 1 = .ok (.istore_n 3, 1) := by decide +kernel
theorem dX1_weighPlot_2 : decode cX1_weighPlot 2 = .ok (.iconst 0, 1) := by decide +kernel
theorem dX1_weighPlot_3 : decode cX1_weighPlot 3 = .ok (.istore 4, 2) := by decide +kernel
theorem dX1_weighPlot_5 : decode cX1_weighPlot 5 = .ok (.iload 4, 2) := by decide +kernel
theorem dX1_weighPlot_7 : decode cX1_weighPlot 7 = .ok (.iconst 4, 1) := by decide +kernel
theorem dX1_weighPlot_8 : decode cX1_weighPlot 8 = .ok (.if_icmp .ge 35, 3) := by decide +kernel
theorem dX1_weighPlot_11 : decode cX1_weighPlot 11 = .ok (.iload_n 3, 1) := by decide +kernel
theorem dX1_weighPlot_12 : decode cX1_weighPlot 12 = .ok (.aload_n 0, 1) := by decide +kernel
theorem dX1_weighPlot_13 : decode cX1_weighPlot 13 = .ok (.getfield 9, 3) := by decide +kernel
theorem dX1_weighPlot_16 : decode cX1_weighPlot 16 = .ok (.iload_n 1, 1) := by decide +kernel
theorem dX1_weighPlot_17 : decode cX1_weighPlot 17 = .ok (.iconst 4, 1) := by decide +kernel
theorem dX1_weighPlot_18 : decode cX1_weighPlot 18 = .ok (.imul, 1) := by decide +kernel
theorem dX1_weighPlot_19 : decode cX1_weighPlot 19 = .ok (.iload 4, 2) := by decide +kernel
theorem dX1_weighPlot_21 : decode cX1_weighPlot 21 = .ok (.iadd, 1) := by decide +kernel
theorem dX1_weighPlot_22 : decode cX1_weighPlot 22 = .ok (.iaload, 1) := by decide +kernel
theorem dX1_weighPlot_23 : decode cX1_weighPlot 23 = .ok (.aload_n 0, 1) := by decide +kernel
theorem dX1_weighPlot_24 : decode cX1_weighPlot 24 = .ok (.getfield 15, 3) := by decide +kernel
theorem dX1_weighPlot_27 : decode cX1_weighPlot 27 = .ok (.iload_n 2, 1) := by decide +kernel
theorem dX1_weighPlot_28 : decode cX1_weighPlot 28 = .ok (.iconst 4, 1) := by decide +kernel
theorem dX1_weighPlot_29 : decode cX1_weighPlot 29 = .ok (.imul, 1) := by decide +kernel
theorem dX1_weighPlot_30 : decode cX1_weighPlot 30 = .ok (.iload 4, 2) := by decide +kernel
theorem dX1_weighPlot_32 : decode cX1_weighPlot 32 = .ok (.iadd, 1) := by decide +kernel
theorem dX1_weighPlot_33 : decode cX1_weighPlot 33 = .ok (.iaload, 1) := by decide +kernel
theorem dX1_weighPlot_34 : decode cX1_weighPlot 34 = .ok (.imul, 1) := by decide +kernel
theorem dX1_weighPlot_35 : decode cX1_weighPlot 35 = .ok (.iadd, 1) := by decide +kernel
theorem dX1_weighPlot_36 : decode cX1_weighPlot 36 = .ok (.istore_n 3, 1) := by decide +kernel
theorem dX1_weighPlot_37 : decode cX1_weighPlot 37 = .ok (.iinc 4 1, 3) := by decide +kernel
theorem dX1_weighPlot_40 : decode cX1_weighPlot 40 = .ok (.goto (-35), 3) := by decide +kernel
theorem dX1_weighPlot_43 : decode cX1_weighPlot 43 = .ok (.aload_n 0, 1) := by decide +kernel
theorem dX1_weighPlot_44 : decode cX1_weighPlot 44 = .ok (.getfield 27, 3) := by decide +kernel
theorem dX1_weighPlot_47 : decode cX1_weighPlot 47 = .ok (.iload_n 1, 1) := by decide +kernel
theorem dX1_weighPlot_48 : decode cX1_weighPlot 48 = .ok (.bipush 7, 2) := by decide +kernel
theorem dX1_weighPlot_50 : decode cX1_weighPlot 50 = .ok (.imul, 1) := by decide +kernel
theorem dX1_weighPlot_51 : decode cX1_weighPlot 51 = .ok (.iload_n 2, 1) := by decide +kernel
theorem dX1_weighPlot_52 : decode cX1_weighPlot 52 = .ok (.iadd, 1) := by decide +kernel
theorem dX1_weighPlot_53 : decode cX1_weighPlot 53 = .ok (.iload_n 3, 1) := by decide +kernel
theorem dX1_weighPlot_54 : decode cX1_weighPlot 54 = .ok (.iastore, 1) := by decide +kernel
theorem dX1_weighPlot_55 : decode cX1_weighPlot 55 = .ok (.return_, 1) := by decide +kernel
theorem dX1_worthOf_0 : decode cX1_worthOf 0 = .ok (.aload_n 0, 1) := by decide +kernel
theorem dX1_worthOf_1 : decode cX1_worthOf 1 = .ok (.getfield 27, 3) := by decide +kernel
theorem dX1_worthOf_4 : decode cX1_worthOf 4 = .ok (.iload_n 1, 1) := by decide +kernel
theorem dX1_worthOf_5 : decode cX1_worthOf 5 = .ok (.bipush 7, 2) := by decide +kernel
theorem dX1_worthOf_7 : decode cX1_worthOf 7 = .ok (.imul, 1) := by decide +kernel
theorem dX1_worthOf_8 : decode cX1_worthOf 8 = .ok (.iload_n 2, 1) := by decide +kernel
theorem dX1_worthOf_9 : decode cX1_worthOf 9 = .ok (.iadd, 1) := by decide +kernel
theorem dX1_worthOf_10 : decode cX1_worthOf 10 = .ok (.iaload, 1) := by decide +kernel
theorem dX1_worthOf_11 : decode cX1_worthOf 11 = .ok (.ireturn, 1) := by decide +kernel
theorem dX1_worthFrom_0 : decode cX1_worthFrom 0 = .ok (.iconst 0, 1) := by decide +kernel
theorem dX1_worthFrom_1 : decode cX1_worthFrom 1 = .ok (.istore_n 3, 1) := by decide +kernel
theorem dX1_worthFrom_2 : decode cX1_worthFrom 2 = .ok (.iload_n 1, 1) := by decide +kernel
theorem dX1_worthFrom_3 : decode cX1_worthFrom 3 = .ok (.istore 4, 2) := by decide +kernel
theorem dX1_worthFrom_5 : decode cX1_worthFrom 5 = .ok (.iload 4, 2) := by decide +kernel
theorem dX1_worthFrom_7 : decode cX1_worthFrom 7 = .ok (.bipush 24, 2) := by decide +kernel
theorem dX1_worthFrom_9 : decode cX1_worthFrom 9 = .ok (.if_icmp .ge 24, 3) := by decide +kernel
theorem dX1_worthFrom_12 : decode cX1_worthFrom 12 = .ok (.iload_n 3, 1) := by decide +kernel
theorem dX1_worthFrom_13 : decode cX1_worthFrom 13 = .ok (.aload_n 0, 1) := by decide +kernel
theorem dX1_worthFrom_14 : decode cX1_worthFrom 14 = .ok (.getfield 27, 3) := by decide +kernel
theorem dX1_worthFrom_17 : decode cX1_worthFrom 17 = .ok (.iload 4, 2) := by decide +kernel
theorem dX1_worthFrom_19 : decode cX1_worthFrom 19 = .ok (.bipush 7, 2) := by decide +kernel
theorem dX1_worthFrom_21 : decode cX1_worthFrom 21 = .ok (.imul, 1) := by decide +kernel
theorem dX1_worthFrom_22 : decode cX1_worthFrom 22 = .ok (.iload_n 2, 1) := by decide +kernel
theorem dX1_worthFrom_23 : decode cX1_worthFrom 23 = .ok (.iadd, 1) := by decide +kernel
theorem dX1_worthFrom_24 : decode cX1_worthFrom 24 = .ok (.iaload, 1) := by decide +kernel
theorem dX1_worthFrom_25 : decode cX1_worthFrom 25 = .ok (.iadd, 1) := by decide +kernel
theorem dX1_worthFrom_26 : decode cX1_worthFrom 26 = .ok (.istore_n 3, 1) := by decide +kernel
theorem dX1_worthFrom_27 : decode cX1_worthFrom 27 = .ok (.iinc 4 1, 3) := by decide +kernel
theorem dX1_worthFrom_30 : decode cX1_worthFrom 30 = .ok (.goto (-25), 3) := by decide +kernel
theorem dX1_worthFrom_33 : decode cX1_worthFrom 33 = .ok (.iload_n 3, 1) := by decide +kernel
theorem dX1_worthFrom_34 : decode cX1_worthFrom 34 = .ok (.ireturn, 1) := by decide +kernel
theorem dX1_grudgeOf_0 : decode cX1_grudgeOf 0 = .ok (.aload_n 0, 1) := by decide +kernel
theorem dX1_grudgeOf_1 : decode cX1_grudgeOf 1 = .ok (.getfield 18, 3) := by decide +kernel
theorem dX1_grudgeOf_4 : decode cX1_grudgeOf 4 = .ok (.iload_n 1, 1) := by decide +kernel
theorem dX1_grudgeOf_5 : decode cX1_grudgeOf 5 = .ok (.bipush 7, 2) := by decide +kernel
theorem dX1_grudgeOf_7 : decode cX1_grudgeOf 7 = .ok (.imul, 1) := by decide +kernel
theorem dX1_grudgeOf_8 : decode cX1_grudgeOf 8 = .ok (.iload_n 2, 1) := by decide +kernel
theorem dX1_grudgeOf_9 : decode cX1_grudgeOf 9 = .ok (.iadd, 1) := by decide +kernel
theorem dX1_grudgeOf_10 : decode cX1_grudgeOf 10 = .ok (.iaload, 1) := by decide +kernel
theorem dX1_grudgeOf_11 : decode cX1_grudgeOf 11 = .ok (.ireturn, 1) := by decide +kernel
theorem dX1_grudgesOf_0 : decode cX1_grudgesOf 0 = .ok (.iconst 0, 1) := by decide +kernel
theorem dX1_grudgesOf_1 : decode cX1_grudgesOf 1 = .ok (.istore_n 2, 1) := by decide +kernel
theorem dX1_grudgesOf_2 : decode cX1_grudgesOf 2 = .ok (.iconst 0, 1) := by decide +kernel
theorem dX1_grudgesOf_3 : decode cX1_grudgesOf 3 = .ok (.istore_n 3, 1) := by decide +kernel
theorem dX1_grudgesOf_4 : decode cX1_grudgesOf 4 = .ok (.iload_n 3, 1) := by decide +kernel
theorem dX1_grudgesOf_5 : decode cX1_grudgesOf 5 = .ok (.bipush 7, 2) := by decide +kernel
theorem dX1_grudgesOf_7 : decode cX1_grudgesOf 7 = .ok (.if_icmp .ge 23, 3) := by decide +kernel
theorem dX1_grudgesOf_10 : decode cX1_grudgesOf 10 = .ok (.iload_n 2, 1) := by decide +kernel
theorem dX1_grudgesOf_11 : decode cX1_grudgesOf 11 = .ok (.aload_n 0, 1) := by decide +kernel
theorem dX1_grudgesOf_12 : decode cX1_grudgesOf 12 = .ok (.getfield 18, 3) := by decide +kernel
theorem dX1_grudgesOf_15 : decode cX1_grudgesOf 15 = .ok (.iload_n 1, 1) := by decide +kernel
theorem dX1_grudgesOf_16 : decode cX1_grudgesOf 16 = .ok (.bipush 7, 2) := by decide +kernel
theorem dX1_grudgesOf_18 : decode cX1_grudgesOf 18 = .ok (.imul, 1) := by decide +kernel
theorem dX1_grudgesOf_19 : decode cX1_grudgesOf 19 = .ok (.iload_n 3, 1) := by decide +kernel
theorem dX1_grudgesOf_20 : decode cX1_grudgesOf 20 = .ok (.iadd, 1) := by decide +kernel
theorem dX1_grudgesOf_21 : decode cX1_grudgesOf 21 = .ok (.iaload, 1) := by decide +kernel
theorem dX1_grudgesOf_22 : decode cX1_grudgesOf 22 = .ok (.iadd, 1) := by decide +kernel
theorem dX1_grudgesOf_23 : decode cX1_grudgesOf 23 = .ok (.istore_n 2, 1) := by decide +kernel
theorem dX1_grudgesOf_24 : decode cX1_grudgesOf 24 = .ok (.iinc 3 1, 3) := by decide +kernel
theorem dX1_grudgesOf_27 : decode cX1_grudgesOf 27 = .ok (.goto (-23), 3) := by decide +kernel
theorem dX1_grudgesOf_30 : decode cX1_grudgesOf 30 = .ok (.iload_n 2, 1) := by decide +kernel
theorem dX1_grudgesOf_31 : decode cX1_grudgesOf 31 = .ok (.ireturn, 1) := by decide +kernel
set_option maxRecDepth 20000 in
theorem ggX1_isAhead_X1_grudgesOf : GoodIn wsX1_isAhead wsX1_grudgesOf := goodIn_r _ [6, 7, 8, 9, 10, 11, 12, 13, 14, 15, 16] rfl (by decide +kernel)
set_option maxRecDepth 20000 in
theorem gX1_isAhead_X1_grudgesOf : GoodIn wsX1_isAhead (wsV RX1 54 RX1 yX1_grudgesOf wsX1_grudgesOf) := goodIn_app (goodIn_of _ (by decide +kernel)) ggX1_isAhead_X1_grudgesOf
theorem dX1_isAhead_0 : decode cX1_isAhead 0 = .ok (.aload_n 0, 1) := by decide +kernel
theorem dX1_isAhead_1 : decode cX1_isAhead 1 = .ok (.getfield 24, 3) := by decide +kernel
theorem dX1_isAhead_4 : decode cX1_isAhead 4 = .ok (.iconst 0, 1) := by decide +kernel
theorem dX1_isAhead_5 : decode cX1_isAhead 5 = .ok (.iaload, 1) := by decide +kernel
theorem dX1_isAhead_6 : decode cX1_isAhead 6 = .ok (.ifCond .ne 14, 3) := by decide +kernel
theorem dX1_isAhead_9 : decode cX1_isAhead 9 = .ok (.iload_n 1, 1) := by decide +kernel
theorem dX1_isAhead_10 : decode cX1_isAhead 10 = .ok (.iload_n 2, 1) := by decide +kernel
theorem dX1_isAhead_11 : decode cX1_isAhead 11 = .ok (.if_icmp .ge 7, 3) := by decide +kernel
theorem dX1_isAhead_14 : decode cX1_isAhead 14 = .ok (.iconst 1, 1) := by decide +kernel
theorem dX1_isAhead_15 : decode cX1_isAhead 15 = .ok (.goto 4, 3) := by decide +kernel
theorem dX1_isAhead_18 : decode cX1_isAhead 18 = .ok (.iconst 0, 1) := by decide +kernel
theorem dX1_isAhead_19 : decode cX1_isAhead 19 = .ok (.ireturn, 1) := by decide +kernel
theorem dX1_isAhead_20 : decode cX1_isAhead 20 = .ok (.aload_n 0, 1) := by decide +kernel
theorem dX1_isAhead_21 : decode cX1_isAhead 21 = .ok (.iload_n 1, 1) := by decide +kernel
theorem dX1_isAhead_22 : decode cX1_isAhead 22 = .ok (.invokevirtual 54, 3) := by decide +kernel
theorem dX1_isAhead_25 : decode cX1_isAhead 25 = .ok (.istore_n 3, 1) := by decide +kernel
theorem dX1_isAhead_26 : decode cX1_isAhead 26 = .ok (.aload_n 0, 1) := by decide +kernel
theorem dX1_isAhead_27 : decode cX1_isAhead 27 = .ok (.iload_n 2, 1) := by decide +kernel
theorem dX1_isAhead_28 : decode cX1_isAhead 28 = .ok (.invokevirtual 54, 3) := by decide +kernel
theorem dX1_isAhead_31 : decode cX1_isAhead 31 = .ok (.istore 4, 2) := by decide +kernel
theorem dX1_isAhead_33 : decode cX1_isAhead 33 = .ok (.iload_n 3, 1) := by decide +kernel
theorem dX1_isAhead_34 : decode cX1_isAhead 34 = .ok (.iload 4, 2) := by decide +kernel
theorem dX1_isAhead_36 : decode cX1_isAhead 36 = .ok (.if_icmp .gt 14, 3) := by decide +kernel
theorem dX1_isAhead_39 : decode cX1_isAhead 39 = .ok (.iload_n 3, 1) := by decide +kernel
theorem dX1_isAhead_40 : decode cX1_isAhead 40 = .ok (.iload 4, 2) := by decide +kernel
theorem dX1_isAhead_42 : decode cX1_isAhead 42 = .ok (.if_icmp .ne 12, 3) := by decide +kernel
theorem dX1_isAhead_45 : decode cX1_isAhead 45 = .ok (.iload_n 1, 1) := by decide +kernel
theorem dX1_isAhead_46 : decode cX1_isAhead 46 = .ok (.iload_n 2, 1) := by decide +kernel
theorem dX1_isAhead_47 : decode cX1_isAhead 47 = .ok (.if_icmp .ge 7, 3) := by decide +kernel
theorem dX1_isAhead_50 : decode cX1_isAhead 50 = .ok (.iconst 1, 1) := by decide +kernel
theorem dX1_isAhead_51 : decode cX1_isAhead 51 = .ok (.goto 4, 3) := by decide +kernel
theorem dX1_isAhead_54 : decode cX1_isAhead 54 = .ok (.iconst 0, 1) := by decide +kernel
theorem dX1_isAhead_55 : decode cX1_isAhead 55 = .ok (.ireturn, 1) := by decide +kernel
set_option maxRecDepth 20000 in
theorem ggX1_placeOf_X1_isAhead : GoodIn wsX1_placeOf wsX1_isAhead := goodIn_r _ [5, 6, 7, 8, 9, 4, 10, 11, 12, 13, 14, 15, 16, 17, 18, 19, 20] rfl (by decide +kernel)
set_option maxRecDepth 20000 in
theorem gX1_placeOf_X1_isAhead : GoodIn wsX1_placeOf (wsV RX1 58 RX1 yX1_isAhead wsX1_isAhead) := goodIn_app (goodIn_of _ (by decide +kernel)) ggX1_placeOf_X1_isAhead
theorem dX1_placeOf_0 : decode cX1_placeOf 0 = .ok (.iconst 0, 1) := by decide +kernel
theorem dX1_placeOf_1 : decode cX1_placeOf 1 = .ok (.istore_n 2, 1) := by decide +kernel
theorem dX1_placeOf_2 : decode cX1_placeOf 2 = .ok (.iconst 0, 1) := by decide +kernel
theorem dX1_placeOf_3 : decode cX1_placeOf 3 = .ok (.istore_n 3, 1) := by decide +kernel
theorem dX1_placeOf_4 : decode cX1_placeOf 4 = .ok (.iload_n 3, 1) := by decide +kernel
theorem dX1_placeOf_5 : decode cX1_placeOf 5 = .ok (.bipush 7, 2) := by decide +kernel
theorem dX1_placeOf_7 : decode cX1_placeOf 7 = .ok (.if_icmp .ge 21, 3) := by decide +kernel
theorem dX1_placeOf_10 : decode cX1_placeOf 10 = .ok (.aload_n 0, 1) := by decide +kernel
theorem dX1_placeOf_11 : decode cX1_placeOf 11 = .ok (.iload_n 3, 1) := by decide +kernel
theorem dX1_placeOf_12 : decode cX1_placeOf 12 = .ok (.iload_n 1, 1) := by decide +kernel
theorem dX1_placeOf_13 : decode cX1_placeOf 13 = .ok (.invokevirtual 58, 3) := by decide +kernel
theorem dX1_placeOf_16 : decode cX1_placeOf 16 = .ok (.ifCond .eq 6, 3) := by decide +kernel
theorem dX1_placeOf_19 : decode cX1_placeOf 19 = .ok (.iinc 2 1, 3) := by decide +kernel
theorem dX1_placeOf_22 : decode cX1_placeOf 22 = .ok (.iinc 3 1, 3) := by decide +kernel
theorem dX1_placeOf_25 : decode cX1_placeOf 25 = .ok (.goto (-21), 3) := by decide +kernel
theorem dX1_placeOf_28 : decode cX1_placeOf 28 = .ok (.iload_n 2, 1) := by decide +kernel
theorem dX1_placeOf_29 : decode cX1_placeOf 29 = .ok (.ireturn, 1) := by decide +kernel
theorem dX1_plotsOf_0 : decode cX1_plotsOf 0 = .ok (.iconst 0, 1) := by decide +kernel
theorem dX1_plotsOf_1 : decode cX1_plotsOf 1 = .ok (.istore_n 2, 1) := by decide +kernel
theorem dX1_plotsOf_2 : decode cX1_plotsOf 2 = .ok (.iconst 0, 1) := by decide +kernel
theorem dX1_plotsOf_3 : decode cX1_plotsOf 3 = .ok (.istore_n 3, 1) := by decide +kernel
theorem dX1_plotsOf_4 : decode cX1_plotsOf 4 = .ok (.iload_n 3, 1) := by decide +kernel
theorem dX1_plotsOf_5 : decode cX1_plotsOf 5 = .ok (.bipush 24, 2) := by decide +kernel
theorem dX1_plotsOf_7 : decode cX1_plotsOf 7 = .ok (.if_icmp .ge 22, 3) := by decide +kernel
theorem dX1_plotsOf_10 : decode cX1_plotsOf 10 = .ok (.aload_n 0, 1) := by decide +kernel
theorem dX1_plotsOf_11 : decode cX1_plotsOf 11 = .ok (.getfield 21, 3) := by decide +kernel
theorem dX1_plotsOf_14 : decode cX1_plotsOf 14 = .ok (.iload_n 3, 1) := by decide +kernel
theorem dX1_plotsOf_15 : decode cX1_plotsOf 15 = .ok (.iaload, 1) := by decide +kernel
theorem dX1_plotsOf_16 : decode cX1_plotsOf 16 = .ok (.iload_n 1, 1) := by decide +kernel
theorem dX1_plotsOf_17 : decode cX1_plotsOf 17 = .ok (.if_icmp .ne 6, 3) := by decide +kernel
theorem dX1_plotsOf_20 : decode cX1_plotsOf 20 = .ok (.iinc 2 1, 3) := by decide +kernel
theorem dX1_plotsOf_23 : decode cX1_plotsOf 23 = .ok (.iinc 3 1, 3) := by decide +kernel
theorem dX1_plotsOf_26 : decode cX1_plotsOf 26 = .ok (.goto (-22), 3) := by decide +kernel
theorem dX1_plotsOf_29 : decode cX1_plotsOf 29 = .ok (.iload_n 2, 1) := by decide +kernel
theorem dX1_plotsOf_30 : decode cX1_plotsOf 30 = .ok (.ireturn, 1) := by decide +kernel
theorem dX1_exchange_0 : decode cX1_exchange 0 = .ok (.iconst 0, 1) := by decide +kernel
theorem dX1_exchange_1 : decode cX1_exchange 1 = .ok (.istore_n 3, 1) := by decide +kernel
theorem dX1_exchange_2 : decode cX1_exchange 2 = .ok (.iload_n 3, 1) := by decide +kernel
theorem dX1_exchange_3 : decode cX1_exchange 3 = .ok (.bipush 24, 2) := by decide +kernel
theorem dX1_exchange_5 : decode cX1_exchange 5 = .ok (.if_icmp .ge 46, 3) := by decide +kernel
theorem dX1_exchange_8 : decode cX1_exchange 8 = .ok (.aload_n 0, 1) := by decide +kernel
theorem dX1_exchange_9 : decode cX1_exchange 9 = .ok (.getfield 21, 3) := by decide +kernel
theorem dX1_exchange_12 : decode cX1_exchange 12 = .ok (.iload_n 3, 1) := by decide +kernel
theorem dX1_exchange_13 : decode cX1_exchange 13 = .ok (.iaload, 1) := by decide +kernel
theorem dX1_exchange_14 : decode cX1_exchange 14 = .ok (.iload_n 1, 1) := by decide +kernel
theorem dX1_exchange_15 : decode cX1_exchange 15 = .ok (.if_icmp .ne 13, 3) := by decide +kernel
theorem dX1_exchange_18 : decode cX1_exchange 18 = .ok (.aload_n 0, 1) := by decide +kernel
theorem dX1_exchange_19 : decode cX1_exchange 19 = .ok (.getfield 21, 3) := by decide +kernel
theorem dX1_exchange_22 : decode cX1_exchange 22 = .ok (.iload_n 3, 1) := by decide +kernel
