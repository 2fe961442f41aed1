theorem dX0_init_0 : decode cX0_init 0 = .ok (.aload_n 0, 1) := by decide +kernel
theorem dX0_init_1 : decode cX0_init 1 = .ok (.invokespecial 3, 3) := by decide +kernel
theorem dX0_init_4 : decode cX0_init 4 = .ok (.aload_n 0, 1) := by decide +kernel
theorem dX0_init_5 : decode cX0_init 5 = .ok (.bipush 24, 2) := by decide +kernel
theorem dX0_init_7 : decode cX0_init 7 = .ok (.newarray .int, 2) := by decide +kernel
theorem dX0_init_9 : decode cX0_init 9 = .ok (.putfield 9, 3) := by decide +kernel
theorem dX0_init_12 : decode cX0_init 12 = .ok (.aload_n 0, 1) := by decide +kernel
theorem dX0_init_13 : decode cX0_init 13 = .ok (.bipush 7, 2) := by decide +kernel
theorem dX0_init_15 : decode cX0_init 15 = .ok (.newarray .int, 2) := by decide +kernel
theorem dX0_init_17 : decode cX0_init 17 = .ok (.putfield 15, 3) := by decide +kernel
theorem dX0_init_20 : decode cX0_init 20 = .ok (.aload_n 0, 1) := by decide +kernel
theorem dX0_init_21 : decode cX0_init 21 = .ok (.aload_n 1, 1) := by decide +kernel
theorem dX0_init_22 : decode cX0_init 22 = .ok (.putfield 18, 3) := by decide +kernel
theorem dX0_init_25 : decode cX0_init 25 = .ok (.return_, 1) := by decide +kernel
set_option maxRecDepth 20000 in
theorem ggX0_run_X0_lineUp : GoodIn wsX0_run wsX0_lineUp := goodIn_r _ [10, 11, 12, 13, 14, 15, 16, 17, 18, 19, 20, 21, 22, 23, 75, 76, 77, 78, 79, 80, 81, 82, 83, 84, 85, 86, 87, 88, 89, 90, 91] rfl (by decide +kernel)
set_option maxRecDepth 20000 in
theorem gX0_run_X0_lineUp : GoodIn wsX0_run (wsV RX0 29 RX0 yX0_lineUp wsX0_lineUp) := goodIn_app (goodIn_of _ (by decide +kernel)) ggX0_run_X0_lineUp
set_option maxRecDepth 20000 in
theorem ggX0_run_J6_bitCount_0f7a4 : GoodIn wsX0_run wsJ6_bitCount_0f7a4 := goodIn_r _ [27, 28, 29, 30] rfl (by decide +kernel)
set_option maxRecDepth 20000 in
theorem gX0_run_J6_bitCount_0f7a4 : GoodIn wsX0_run (va_wsS RX0 32 yJ6_bitCount_0f7a4 wsJ6_bitCount_0f7a4) := goodIn_app (goodIn_of _ (by decide +kernel)) ggX0_run_J6_bitCount_0f7a4
set_option maxRecDepth 20000 in
theorem ggX0_run_X0_cutAndTrim : GoodIn wsX0_run wsX0_cutAndTrim := goodIn_r _ [34, 4, 12, 35, 36, 37, 38, 39, 40, 9, 41, 11, 42, 43, 44, 16, 45, 46, 47, 48, 49, 50, 51, 52, 53, 54, 3, 55, 56, 57, 58, 1, 59, 2, 60, 61, 62, 63, 23, 75, 76, 77, 78, 79, 80, 81, 82, 83, 84, 85, 86, 87, 88, 89, 90, 91] rfl (by decide +kernel)
set_option maxRecDepth 20000 in
theorem gX0_run_X0_cutAndTrim : GoodIn wsX0_run (wsV RX0 38 RX0 yX0_cutAndTrim wsX0_cutAndTrim) := goodIn_app (goodIn_of _ (by decide +kernel)) ggX0_run_X0_cutAndTrim
set_option maxRecDepth 20000 in
theorem ggX0_run_X0_handOut : GoodIn wsX0_run wsX0_handOut := goodIn_r _ [67, 68, 75, 76, 77, 78, 79, 80, 81, 82] rfl (by decide +kernel)
set_option maxRecDepth 20000 in
theorem gX0_run_X0_handOut : GoodIn wsX0_run (wsV RX0 48 RX0 yX0_handOut wsX0_handOut) := goodIn_app (goodIn_of _ (by decide +kernel)) ggX0_run_X0_handOut
set_option maxRecDepth 20000 in
theorem ggX0_run_X5_without : GoodIn wsX0_run wsX5_without := goodIn_r _ [70] rfl (by decide +kernel)
set_option maxRecDepth 20000 in
theorem gX0_run_X5_without_n51 : GoodIn wsX0_run (wsX5_without) := ggX0_run_X5_without
set_option maxRecDepth 20000 in
theorem ggX0_run_X0_firstOf : GoodIn wsX0_run wsX0_firstOf := goodIn_r _ [74, 12, 35, 36, 37, 75, 76, 77, 78, 79, 80, 81, 82] rfl (by decide +kernel)
set_option maxRecDepth 20000 in
theorem gX0_run_X0_firstOf : GoodIn wsX0_run (wsV RX0 55 RX0 yX0_firstOf wsX0_firstOf) := goodIn_app (goodIn_of _ (by decide +kernel)) ggX0_run_X0_firstOf
theorem dX0_run_0 : decode cX0_run 0 = .ok (.aload_n 0, 1) := by decide +kernel
theorem dX0_run_1 : decode cX0_run 1 = .ok (.iconst 0, 1) := by decide +kernel
theorem dX0_run_2 : decode cX0_run 2 = .ok (.putfield 22, 3) := by decide +kernel
theorem dX0_run_5 : decode cX0_run 5 = .ok (.aload_n 0, 1) := by decide +kernel
theorem dX0_run_6 : decode cX0_run 6 = .ok (.iconst 0, 1) := by decide +kernel
theorem dX0_run_7 : decode cX0_run 7 = .ok (.putfield 26, 3) := by decide +kernel
theorem dX0_run_10 : decode cX0_run 10 = .ok (.aload_n 0, 1) := by decide +kernel
theorem dX0_run_11 : decode cX0_run 11 = .ok (.invokevirtual 29, 3) := by decide +kernel
theorem dX0_run_14 : decode cX0_run 14 = .ok (.iload_n 1, 1) := by decide +kernel
theorem dX0_run_15 : decode cX0_run 15 = .ok (.istore_n 2, 1) := by decide +kernel
theorem dX0_run_16 : decode cX0_run 16 = .ok (.iconst 0, 1) := by decide +kernel
theorem dX0_run_17 : decode cX0_run 17 = .ok (.istore_n 3, 1) := by decide +kernel
theorem dX0_run_18 : decode cX0_run 18 = .ok (.iload_n 1, 1) := by decide +kernel
theorem dX0_run_19 : decode cX0_run 19 = .ok (.invokestatic 32, 3) := by decide +kernel
theorem dX0_run_22 : decode cX0_run 22 = .ok (.istore 4, 2) := by decide +kernel
theorem dX0_run_24 : decode cX0_run 24 = .ok (.iload 4, 2) := by decide +kernel
theorem dX0_run_26 : decode cX0_run 26 = .ok (.iconst 1, 1) := by decide +kernel
theorem dX0_run_27 : decode cX0_run 27 = .ok (.if_icmp .le 48, 3) := by decide +kernel
theorem dX0_run_30 : decode cX0_run 30 = .ok (.aload_n 0, 1) := by decide +kernel
theorem dX0_run_31 : decode cX0_run 31 = .ok (.iload_n 2, 1) := by decide +kernel
theorem dX0_run_32 : decode cX0_run 32 = .ok (.iload 4, 2) := by decide +kernel
theorem dX0_run_34 : decode cX0_run 34 = .ok (.iload_n 3, 1) := by decide +kernel
theorem dX0_run_35 : decode cX0_run 35 = .ok (.invokevirtual 38, 3) := by decide +kernel
theorem dX0_run_38 : decode cX0_run 38 = .ok (.aload_n 0, 1) := by decide +kernel
theorem dX0_run_39 : decode cX0_run 39 = .ok (.iload_n 3, 1) := by decide +kernel
theorem dX0_run_40 : decode cX0_run 40 = .ok (.iload_n 3, 1) := by decide +kernel
theorem dX0_run_41 : decode cX0_run 41 = .ok (.aload_n 0, 1) := by decide +kernel
theorem dX0_run_42 : decode cX0_run 42 = .ok (.getfield 42, 3) := by decide +kernel
theorem dX0_run_45 : decode cX0_run 45 = .ok (.iadd, 1) := by decide +kernel
theorem dX0_run_46 : decode cX0_run 46 = .ok (.aload_n 0, 1) := by decide +kernel
theorem dX0_run_47 : decode cX0_run 47 = .ok (.getfield 45, 3) := by decide +kernel
theorem dX0_run_50 : decode cX0_run 50 = .ok (.invokevirtual 48, 3) := by decide +kernel
theorem dX0_run_53 : decode cX0_run 53 = .ok (.iload_n 3, 1) := by decide +kernel
theorem dX0_run_54 : decode cX0_run 54 = .ok (.aload_n 0, 1) := by decide +kernel
theorem dX0_run_55 : decode cX0_run 55 = .ok (.getfield 42, 3) := by decide +kernel
theorem dX0_run_58 : decode cX0_run 58 = .ok (.iadd, 1) := by decide +kernel
theorem dX0_run_59 : decode cX0_run 59 = .ok (.istore_n 3, 1) := by decide +kernel
theorem dX0_run_60 : decode cX0_run 60 = .ok (.iload_n 2, 1) := by decide +kernel
theorem dX0_run_61 : decode cX0_run 61 = .ok (.aload_n 0, 1) := by decide +kernel
theorem dX0_run_62 : decode cX0_run 62 = .ok (.getfield 45, 3) := by decide +kernel
theorem dX0_run_65 : decode cX0_run 65 = .ok (.invokestatic 51, 3) := by decide +kernel
theorem dX0_run_68 : decode cX0_run 68 = .ok (.istore_n 2, 1) := by decide +kernel
theorem dX0_run_69 : decode cX0_run 69 = .ok (.iinc 4 (-1), 3) := by decide +kernel
theorem dX0_run_72 : decode cX0_run 72 = .ok (.goto (-48), 3) := by decide +kernel
theorem dX0_run_75 : decode cX0_run 75 = .ok (.aload_n 0, 1) := by decide +kernel
theorem dX0_run_76 : decode cX0_run 76 = .ok (.aload_n 0, 1) := by decide +kernel
theorem dX0_run_77 : decode cX0_run 77 = .ok (.iload_n 2, 1) := by decide +kernel
theorem dX0_run_78 : decode cX0_run 78 = .ok (.invokevirtual 55, 3) := by decide +kernel
theorem dX0_run_81 : decode cX0_run 81 = .ok (.putfield 58, 3) := by decide +kernel
theorem dX0_run_84 : decode cX0_run 84 = .ok (.aload_n 0, 1) := by decide +kernel
theorem dX0_run_85 : decode cX0_run 85 = .ok (.iload_n 3, 1) := by decide +kernel
theorem dX0_run_86 : decode cX0_run 86 = .ok (.bipush 24, 2) := by decide +kernel
theorem dX0_run_88 : decode cX0_run 88 = .ok (.aload_n 0, 1) := by decide +kernel
theorem dX0_run_89 : decode cX0_run 89 = .ok (.getfield 58, 3) := by decide +kernel
theorem dX0_run_92 : decode cX0_run 92 = .ok (.invokevirtual 48, 3) := by decide +kernel
theorem dX0_run_95 : decode cX0_run 95 = .ok (.return_, 1) := by decide +kernel
set_option maxRecDepth 20000 in
theorem ggX0_lineUp_X1_isAhead : GoodIn wsX0_lineUp wsX1_isAhead := goodIn_r _ [7, 8, 9, 10, 11, 6, 12, 13, 22, 23, 24, 25, 26, 27, 28, 29, 30] rfl (by decide +kernel)
set_option maxRecDepth 20000 in
theorem gX0_lineUp_X1_isAhead : GoodIn wsX0_lineUp (wsV RX0 61 RX1 yX1_isAhead wsX1_isAhead) := goodIn_app (goodIn_of _ (by decide +kernel)) ggX0_lineUp_X1_isAhead
theorem dX0_lineUp_0 : decode cX0_lineUp 0 = .ok (.iconst 0, 1) := by decide +kernel
theorem dX0_lineUp_1 : decode cX0_lineUp 1 = .ok (.istore_n 1, 1) := by decide +kernel
theorem dX0_lineUp_2 : decode cX0_lineUp 2 = .ok (.iload_n 1, 1) := by decide +kernel
theorem dX0_lineUp_3 : decode cX0_lineUp 3 = .ok (.bipush 7, 2) := by decide +kernel
theorem dX0_lineUp_5 : decode cX0_lineUp 5 = .ok (.if_icmp .ge 61, 3) := by decide +kernel
theorem dX0_lineUp_8 : decode cX0_lineUp 8 = .ok (.iload_n 1, 1) := by decide +kernel
theorem dX0_lineUp_9 : decode cX0_lineUp 9 = .ok (.istore_n 2, 1) := by decide +kernel
theorem dX0_lineUp_10 : decode cX0_lineUp 10 = .ok (.iload_n 2, 1) := by decide +kernel
theorem dX0_lineUp_11 : decode cX0_lineUp 11 = .ok (.ifCond .le 42, 3) := by decide +kernel
theorem dX0_lineUp_14 : decode cX0_lineUp 14 = .ok (.aload_n 0, 1) := by decide +kernel
theorem dX0_lineUp_15 : decode cX0_lineUp 15 = .ok (.getfield 18, 3) := by decide +kernel
theorem dX0_lineUp_18 : decode cX0_lineUp 18 = .ok (.iload_n 1, 1) := by decide +kernel
theorem dX0_lineUp_19 : decode cX0_lineUp 19 = .ok (.aload_n 0, 1) := by decide +kernel
theorem dX0_lineUp_20 : decode cX0_lineUp 20 = .ok (.getfield 15, 3) := by decide +kernel
theorem dX0_lineUp_23 : decode cX0_lineUp 23 = .ok (.iload_n 2, 1) := by decide +kernel
theorem dX0_lineUp_24 : decode cX0_lineUp 24 = .ok (.iconst 1, 1) := by decide +kernel
theorem dX0_lineUp_25 : decode cX0_lineUp 25 = .ok (.isub, 1) := by decide +kernel
theorem dX0_lineUp_26 : decode cX0_lineUp 26 = .ok (.iaload, 1) := by decide +kernel
theorem dX0_lineUp_27 : decode cX0_lineUp 27 = .ok (.invokevirtual 61, 3) := by decide +kernel
theorem dX0_lineUp_30 : decode cX0_lineUp 30 = .ok (.ifCond .eq 23, 3) := by decide +kernel
theorem dX0_lineUp_33 : decode cX0_lineUp 33 = .ok (.aload_n 0, 1) := by decide +kernel
theorem dX0_lineUp_34 : decode cX0_lineUp 34 = .ok (.getfield 15, 3) := by decide +kernel
theorem dX0_lineUp_37 : decode cX0_lineUp 37 = .ok (.iload_n 2, 1) := by decide +kernel
theorem dX0_lineUp_38 : decode cX0_lineUp 38 = .ok (.aload_n 0, 1) := by decide +kernel
theorem dX0_lineUp_39 : decode cX0_lineUp 39 = .ok (.getfield 15, 3) := by decide +kernel
theorem dX0_lineUp_42 : decode cX0_lineUp 42 = .ok (.iload_n 2, 1) := by decide +kernel
theorem dX0_lineUp_43 : decode cX0_lineUp 43 = .ok (.iconst 1, 1) := by decide +kernel
theorem dX0_lineUp_44 : decode cX0_lineUp 44 = .ok (.isub, 1) := by decide +kernel
theorem dX0_lineUp_45 : decode cX0_lineUp 45 = .ok (.iaload, 1) := by decide +kernel
theorem dX0_lineUp_46 : decode cX0_lineUp 46 = .ok (.iastore, 1) := by decide +kernel
theorem dX0_lineUp_47 : decode cX0_lineUp 47 = .ok (.iinc 2 (-1), 3) := by decide +kernel
theorem dX0_lineUp_50 : decode cX0_lineUp 50 = .ok (.goto (-40), 3) := by decide +kernel
theorem dX0_lineUp_53 : decode cX0_lineUp 53 = .ok (.aload_n 0, 1) := by decide +kernel
theorem dX0_lineUp_54 : decode cX0_lineUp 54 = .ok (.getfield 15, 3) := by decide +kernel
theorem dX0_lineUp_57 : decode cX0_lineUp 57 = .ok (.iload_n 2, 1) := by decide +kernel
theorem dX0_lineUp_58 : decode cX0_lineUp 58 = .ok (.iload_n 1, 1) := by decide +kernel
theorem dX0_lineUp_59 : decode cX0_lineUp 59 = .ok (.iastore, 1) := by decide +kernel
theorem dX0_lineUp_60 : decode cX0_lineUp 60 = .ok (.iinc 1 1, 3) := by decide +kernel
theorem dX0_lineUp_63 : decode cX0_lineUp 63 = .ok (.goto (-61), 3) := by decide +kernel
theorem dX0_lineUp_66 : decode cX0_lineUp 66 = .ok (.return_, 1) := by decide +kernel
set_option maxRecDepth 20000 in
theorem ggX0_cutAndTrim_X5_contains : GoodIn wsX0_cutAndTrim wsX5_contains := goodIn_r _ [5] rfl (by decide +kernel)
set_option maxRecDepth 20000 in
theorem gX0_cutAndTrim_X5_contains_n67 : GoodIn wsX0_cutAndTrim (wsX5_contains) := ggX0_cutAndTrim_X5_contains
set_option maxRecDepth 20000 in
theorem ggX0_cutAndTrim_X0_fairPiece : GoodIn wsX0_cutAndTrim wsX0_fairPiece := goodIn_r _ [10, 11, 12, 13, 14, 15, 16, 17, 18, 19, 20, 21, 39, 40, 41, 42, 43, 44, 45, 46, 47, 48, 49, 50, 51, 52, 53, 54, 55] rfl (by decide +kernel)
set_option maxRecDepth 20000 in
theorem gX0_cutAndTrim_X0_fairPiece : GoodIn wsX0_cutAndTrim (wsV RX0 70 RX0 yX0_fairPiece wsX0_fairPiece) := goodIn_app (goodIn_of _ (by decide +kernel)) ggX0_cutAndTrim_X0_fairPiece
set_option maxRecDepth 20000 in
theorem ggX0_cutAndTrim_X0_hold : GoodIn wsX0_cutAndTrim wsX0_hold := goodIn_r _ [25, 1, 26, 39, 40, 41, 42, 43, 44, 45, 46] rfl (by decide +kernel)
set_option maxRecDepth 20000 in
theorem gX0_cutAndTrim_X0_hold : GoodIn wsX0_cutAndTrim (wsV RX0 74 RX0 yX0_hold wsX0_hold) := goodIn_app (goodIn_of _ (by decide +kernel)) ggX0_cutAndTrim_X0_hold
set_option maxRecDepth 20000 in
theorem ggX0_cutAndTrim_X0_mayTrim : GoodIn wsX0_cutAndTrim wsX0_mayTrim := goodIn_r _ [30, 26, 31, 11, 1, 32, 33, 22, 23, 24, 9, 25, 34, 35, 36, 15, 37, 38, 39, 40, 41, 42, 43, 44, 45, 46, 47, 48, 49, 50, 51, 52, 53, 54, 55] rfl (by decide +kernel)
set_option maxRecDepth 20000 in
theorem gX0_cutAndTrim_X0_mayTrim : GoodIn wsX0_cutAndTrim (wsV RX0 78 RX0 yX0_mayTrim wsX0_mayTrim) := goodIn_app (goodIn_of _ (by decide +kernel)) ggX0_cutAndTrim_X0_mayTrim
theorem dX0_cutAndTrim_0 : decode cX0_cutAndTrim 0 = .ok (.aload_n 0, 1) := by decide +kernel
theorem dX0_cutAndTrim_1 : decode cX0_cutAndTrim 1 = .ok (.bipush 7, 2) := by decide +kernel
theorem dX0_cutAndTrim_3 : decode cX0_cutAndTrim 3 = .ok (.putfield 45, 3) := by decide +kernel
theorem dX0_cutAndTrim_6 : decode cX0_cutAndTrim 6 = .ok (.iconst 0, 1) := by decide +kernel
theorem dX0_cutAndTrim_7 : decode cX0_cutAndTrim 7 = .ok (.istore 4, 2) := by decide +kernel
theorem dX0_cutAndTrim_9 : decode cX0_cutAndTrim 9 = .ok (.iload 4, 2) := by decide +kernel
theorem dX0_cutAndTrim_11 : decode cX0_cutAndTrim 11 = .ok (.bipush 7, 2) := by decide +kernel
theorem dX0_cutAndTrim_13 : decode cX0_cutAndTrim 13 = .ok (.if_icmp .ge 65, 3) := by decide +kernel
theorem dX0_cutAndTrim_16 : decode cX0_cutAndTrim 16 = .ok (.aload_n 0, 1) := by decide +kernel
theorem dX0_cutAndTrim_17 : decode cX0_cutAndTrim 17 = .ok (.getfield 15, 3) := by decide +kernel
theorem dX0_cutAndTrim_20 : decode cX0_cutAndTrim 20 = .ok (.iload 4, 2) := by decide +kernel
theorem dX0_cutAndTrim_22 : decode cX0_cutAndTrim 22 = .ok (.iaload, 1) := by decide +kernel
theorem dX0_cutAndTrim_23 : decode cX0_cutAndTrim 23 = .ok (.istore 5, 2) := by decide +kernel
theorem dX0_cutAndTrim_25 : decode cX0_cutAndTrim 25 = .ok (.iload_n 1, 1) := by decide +kernel
theorem dX0_cutAndTrim_26 : decode cX0_cutAndTrim 26 = .ok (.iload 5, 2) := by decide +kernel
theorem dX0_cutAndTrim_28 : decode cX0_cutAndTrim 28 = .ok (.invokestatic 67, 3) := by decide +kernel
theorem dX0_cutAndTrim_31 : decode cX0_cutAndTrim 31 = .ok (.ifCond .eq 41, 3) := by decide +kernel
theorem dX0_cutAndTrim_34 : decode cX0_cutAndTrim 34 = .ok (.aload_n 0, 1) := by decide +kernel
theorem dX0_cutAndTrim_35 : decode cX0_cutAndTrim 35 = .ok (.iload 5, 2) := by decide +kernel
theorem dX0_cutAndTrim_37 : decode cX0_cutAndTrim 37 = .ok (.iload_n 2, 1) := by decide +kernel
theorem dX0_cutAndTrim_38 : decode cX0_cutAndTrim 38 = .ok (.iload_n 3, 1) := by decide +kernel
theorem dX0_cutAndTrim_39 : decode cX0_cutAndTrim 39 = .ok (.invokevirtual 70, 3) := by decide +kernel
theorem dX0_cutAndTrim_42 : decode cX0_cutAndTrim 42 = .ok (.istore 6, 2) := by decide +kernel
theorem dX0_cutAndTrim_44 : decode cX0_cutAndTrim 44 = .ok (.aload_n 0, 1) := by decide +kernel
theorem dX0_cutAndTrim_45 : decode cX0_cutAndTrim 45 = .ok (.getfield 45, 3) := by decide +kernel
theorem dX0_cutAndTrim_48 : decode cX0_cutAndTrim 48 = .ok (.bipush 7, 2) := by decide +kernel
theorem dX0_cutAndTrim_50 : decode cX0_cutAndTrim 50 = .ok (.if_icmp .ne 14, 3) := by decide +kernel
theorem dX0_cutAndTrim_53 : decode cX0_cutAndTrim 53 = .ok (.aload_n 0, 1) := by decide +kernel
theorem dX0_cutAndTrim_54 : decode cX0_cutAndTrim 54 = .ok (.iload 5, 2) := by decide +kernel
theorem dX0_cutAndTrim_56 : decode cX0_cutAndTrim 56 = .ok (.iload 6, 2) := by decide +kernel
theorem dX0_cutAndTrim_58 : decode cX0_cutAndTrim 58 = .ok (.invokevirtual 74, 3) := by decide +kernel
theorem dX0_cutAndTrim_61 : decode cX0_cutAndTrim 61 = .ok (.goto 11, 3) := by decide +kernel
theorem dX0_cutAndTrim_64 : decode cX0_cutAndTrim 64 = .ok (.aload_n 0, 1) := by decide +kernel
theorem dX0_cutAndTrim_65 : decode cX0_cutAndTrim 65 = .ok (.iload 5, 2) := by decide +kernel
theorem dX0_cutAndTrim_67 : decode cX0_cutAndTrim 67 = .ok (.iload 6, 2) := by decide +kernel
theorem dX0_cutAndTrim_69 : decode cX0_cutAndTrim 69 = .ok (.invokevirtual 78, 3) := by decide +kernel
theorem dX0_cutAndTrim_72 : decode cX0_cutAndTrim 72 = .ok (.iinc 4 1, 3) := by decide +kernel
theorem dX0_cutAndTrim_75 : decode cX0_cutAndTrim 75 = .ok (.goto (-66), 3) := by decide +kernel
theorem dX0_cutAndTrim_78 : decode cX0_cutAndTrim 78 = .ok (.return_, 1) := by decide +kernel
set_option maxRecDepth 20000 in
theorem ggX0_mayTrim_X0_hold : GoodIn wsX0_mayTrim wsX0_hold := goodIn_r _ [11, 4, 1, 18, 19, 20, 21, 22, 23, 24, 25] rfl (by decide +kernel)
set_option maxRecDepth 20000 in
theorem gX0_mayTrim_X0_hold : GoodIn wsX0_mayTrim (wsV RX0 74 RX0 yX0_hold wsX0_hold) := goodIn_app (goodIn_of _ (by decide +kernel)) ggX0_mayTrim_X0_hold
set_option maxRecDepth 20000 in
theorem ggX0_mayTrim_X1_grudgeOf : GoodIn wsX0_mayTrim wsX1_grudgeOf := goodIn_r _ [16, 17, 26, 27, 28, 29, 30, 31, 32, 33, 34] rfl (by decide +kernel)
set_option maxRecDepth 20000 in
theorem gX0_mayTrim_X1_grudgeOf : GoodIn wsX0_mayTrim (wsV RX0 81 RX1 yX1_grudgeOf wsX1_grudgeOf) := goodIn_app (goodIn_of _ (by decide +kernel)) ggX0_mayTrim_X1_grudgeOf
theorem dX0_mayTrim_0 : decode cX0_mayTrim 0 = .ok (.iload_n 2, 1) := by decide +kernel
theorem dX0_mayTrim_1 : decode cX0_mayTrim 1 = .ok (.aload_n 0, 1) := by decide +kernel
theorem dX0_mayTrim_2 : decode cX0_mayTrim 2 = .ok (.getfield 42, 3) := by decide +kernel
theorem dX0_mayTrim_5 : decode cX0_mayTrim 5 = .ok (.if_icmp .ge 22, 3) := by decide +kernel
theorem dX0_mayTrim_8 : decode cX0_mayTrim 8 = .ok (.aload_n 0, 1) := by decide +kernel
theorem dX0_mayTrim_9 : decode cX0_mayTrim 9 = .ok (.dup, 1) := by decide +kernel
theorem dX0_mayTrim_10 : decode cX0_mayTrim 10 = .ok (.getfield 22, 3) := by decide +kernel
theorem dX0_mayTrim_13 : decode cX0_mayTrim 13 = .ok (.iconst 1, 1) := by decide +kernel
theorem dX0_mayTrim_14 : decode cX0_mayTrim 14 = .ok (.iadd, 1) := by decide +kernel
theorem dX0_mayTrim_15 : decode cX0_mayTrim 15 = .ok (.putfield 22, 3) := by decide +kernel
theorem dX0_mayTrim_18 : decode cX0_mayTrim 18 = .ok (.aload_n 0, 1) := by decide +kernel
theorem dX0_mayTrim_19 : decode cX0_mayTrim 19 = .ok (.iload_n 1, 1) := by decide +kernel
theorem dX0_mayTrim_20 : decode cX0_mayTrim 20 = .ok (.iload_n 2, 1) := by decide +kernel
theorem dX0_mayTrim_21 : decode cX0_mayTrim 21 = .ok (.invokevirtual 74, 3) := by decide +kernel
theorem dX0_mayTrim_24 : decode cX0_mayTrim 24 = .ok (.goto 68, 3) := by decide +kernel
theorem dX0_mayTrim_27 : decode cX0_mayTrim 27 = .ok (.iload_n 2, 1) := by decide +kernel
theorem dX0_mayTrim_28 : decode cX0_mayTrim 28 = .ok (.aload_n 0, 1) := by decide +kernel
theorem dX0_mayTrim_29 : decode cX0_mayTrim 29 = .ok (.getfield 42, 3) := by decide +kernel
theorem dX0_mayTrim_32 : decode cX0_mayTrim 32 = .ok (.if_icmp .ne 60, 3) := by decide +kernel
theorem dX0_mayTrim_35 : decode cX0_mayTrim 35 = .ok (.iload_n 2, 1) := by decide +kernel
theorem dX0_mayTrim_36 : decode cX0_mayTrim 36 = .ok (.iconst 1, 1) := by decide +kernel
theorem dX0_mayTrim_37 : decode cX0_mayTrim 37 = .ok (.if_icmp .lt 55, 3) := by decide +kernel
theorem dX0_mayTrim_40 : decode cX0_mayTrim 40 = .ok (.aload_n 0, 1) := by decide +kernel
theorem dX0_mayTrim_41 : decode cX0_mayTrim 41 = .ok (.getfield 18, 3) := by decide +kernel
theorem dX0_mayTrim_44 : decode cX0_mayTrim 44 = .ok (.iload_n 1, 1) := by decide +kernel
theorem dX0_mayTrim_45 : decode cX0_mayTrim 45 = .ok (.aload_n 0, 1) := by decide +kernel
theorem dX0_mayTrim_46 : decode cX0_mayTrim 46 = .ok (.getfield 45, 3) := by decide +kernel
theorem dX0_mayTrim_49 : decode cX0_mayTrim 49 = .ok (.invokevirtual 81, 3) := by decide +kernel
theorem dX0_mayTrim_52 : decode cX0_mayTrim 52 = .ok (.aload_n 0, 1) := by decide +kernel
theorem dX0_mayTrim_53 : decode cX0_mayTrim 53 = .ok (.getfield 18, 3) := by decide +kernel
theorem dX0_mayTrim_56 : decode cX0_mayTrim 56 = .ok (.getfield 84, 3) := by decide +kernel
theorem dX0_mayTrim_59 : decode cX0_mayTrim 59 = .ok (.iconst 1, 1) := by decide +kernel
theorem dX0_mayTrim_60 : decode cX0_mayTrim 60 = .ok (.iaload, 1) := by decide +kernel
theorem dX0_mayTrim_61 : decode cX0_mayTrim 61 = .ok (.if_icmp .lt 31, 3) := by decide +kernel
theorem dX0_mayTrim_64 : decode cX0_mayTrim 64 = .ok (.aload_n 0, 1) := by decide +kernel
theorem dX0_mayTrim_65 : decode cX0_mayTrim 65 = .ok (.dup, 1) := by decide +kernel
theorem dX0_mayTrim_66 : decode cX0_mayTrim 66 = .ok (.getfield 22, 3) := by decide +kernel
theorem dX0_mayTrim_69 : decode cX0_mayTrim 69 = .ok (.iconst 1, 1) := by decide +kernel
theorem dX0_mayTrim_70 : decode cX0_mayTrim 70 = .ok (.iadd, 1) := by decide +kernel
theorem dX0_mayTrim_71 : decode cX0_mayTrim 71 = .ok (.putfield 22, 3) := by decide +kernel
theorem dX0_mayTrim_74 : decode cX0_mayTrim 74 = .ok (.aload_n 0, 1) := by decide +kernel
theorem dX0_mayTrim_75 : decode cX0_mayTrim 75 = .ok (.dup, 1) := by decide +kernel
theorem dX0_mayTrim_76 : decode cX0_mayTrim 76 = .ok (.getfield 26, 3) := by decide +kernel
theorem dX0_mayTrim_79 : decode cX0_mayTrim 79 = .ok (.iconst 1, 1) := by decide +kernel
theorem dX0_mayTrim_80 : decode cX0_mayTrim 80 = .ok (.iadd, 1) := by decide +kernel
theorem dX0_mayTrim_81 : decode cX0_mayTrim 81 = .ok (.putfield 26, 3) := by decide +kernel
theorem dX0_mayTrim_84 : decode cX0_mayTrim 84 = .ok (.aload_n 0, 1) := by decide +kernel
theorem dX0_mayTrim_85 : decode cX0_mayTrim 85 = .ok (.iload_n 1, 1) := by decide +kernel
theorem dX0_mayTrim_86 : decode cX0_mayTrim 86 = .ok (.iload_n 2, 1) := by decide +kernel
theorem dX0_mayTrim_87 : decode cX0_mayTrim 87 = .ok (.iconst 1, 1) := by decide +kernel
theorem dX0_mayTrim_88 : decode cX0_mayTrim 88 = .ok (.isub, 1) := by decide +kernel
theorem dX0_mayTrim_89 : decode cX0_mayTrim 89 = .ok (.invokevirtual 74, 3) := by decide +kernel
theorem dX0_mayTrim_92 : decode cX0_mayTrim 92 = .ok (.return_, 1) := by decide +kernel
theorem dX0_hold_0 : decode cX0_hold 0 = .ok (.aload_n 0, 1) := by decide +kernel
theorem dX0_hold_1 : decode cX0_hold 1 = .ok (.iload_n 1, 1) := by decide +kernel
theorem dX0_hold_2 : decode cX0_hold 2 = .ok (.putfield 45, 3) := by decide +kernel
theorem dX0_hold_5 : decode cX0_hold 5 = .ok (.aload_n 0, 1) := by decide +kernel
theorem dX0_hold_6 : decode cX0_hold 6 = .ok (.iload_n 2, 1) := by decide +kernel
theorem dX0_hold_7 : decode cX0_hold 7 = .ok (.putfield 42, 3) := by decide +kernel
theorem dX0_hold_10 : decode cX0_hold 10 = .ok (.return_, 1) := by decide +kernel
set_option maxRecDepth 20000 in
theorem ggX0_fairPiece_X1_worthFrom : GoodIn wsX0_fairPiece wsX1_worthFrom := goodIn_r _ [6, 7, 20, 21, 22, 23, 24, 25, 26, 27, 28] rfl (by decide +kernel)
set_option maxRecDepth 20000 in
theorem gX0_fairPiece_X1_worthFrom : GoodIn wsX0_fairPiece (wsV RX0 87 RX1 yX1_worthFrom wsX1_worthFrom) := goodIn_app (goodIn_of _ (by decide +kernel)) ggX0_fairPiece_X1_worthFrom
set_option maxRecDepth 20000 in
theorem ggX0_fairPiece_X1_worthOf : GoodIn wsX0_fairPiece wsX1_worthOf := goodIn_r _ [11, 7, 20, 21, 22, 23, 24, 25, 26, 27, 28] rfl (by decide +kernel)
set_option maxRecDepth 20000 in
theorem gX0_fairPiece_X1_worthOf : GoodIn wsX0_fairPiece (wsV RX0 90 RX1 yX1_worthOf wsX1_worthOf) := goodIn_app (goodIn_of _ (by decide +kernel)) ggX0_fairPiece_X1_worthOf
theorem dX0_fairPiece_0 : decode cX0_fairPiece 0 = .ok (.aload_n 0, 1) := by decide +kernel
theorem dX0_fairPiece_1 : decode cX0_fairPiece 1 = .ok (.getfield 18, 3) := by decide +kernel
theorem dX0_fairPiece_4 : decode cX0_fairPiece 4 = .ok (.iload_n 3, 1) := by decide +kernel
theorem dX0_fairPiece_5 : decode cX0_fairPiece 5 = .ok (.iload_n 1, 1) := by decide +kernel
theorem dX0_fairPiece_6 : decode cX0_fairPiece 6 = .ok (.invokevirtual 87, 3) := by decide +kernel
theorem dX0_fairPiece_9 : decode cX0_fairPiece 9 = .ok (.istore 4, 2) := by decide +kernel
theorem dX0_fairPiece_11 : decode cX0_fairPiece 11 = .ok (.iconst 0, 1) := by decide +kernel
theorem dX0_fairPiece_12 : decode cX0_fairPiece 12 = .ok (.istore 5, 2) := by decide +kernel
theorem dX0_fairPiece_14 : decode cX0_fairPiece 14 = .ok (.iconst 0, 1) := by decide +kernel
theorem dX0_fairPiece_15 : decode cX0_fairPiece 15 = .ok (.istore 6, 2) := by decide +kernel
theorem dX0_fairPiece_17 : decode cX0_fairPiece 17 = .ok (.iload_n 3, 1) := by decide +kernel
theorem dX0_fairPiece_18 : decode cX0_fairPiece 18 = .ok (.iload 6, 2) := by decide +kernel
theorem dX0_fairPiece_20 : decode cX0_fairPiece 20 = .ok (.iadd, 1) := by decide +kernel
theorem dX0_fairPiece_21 : decode cX0_fairPiece 21 = .ok (.bipush 24, 2) := by decide +kernel
theorem dX0_fairPiece_23 : decode cX0_fairPiece 23 = .ok (.if_icmp .ge 35, 3) := by decide +kernel
theorem dX0_fairPiece_26 : decode cX0_fairPiece 26 = .ok (.iload 5, 2) := by decide +kernel
theorem dX0_fairPiece_28 : decode cX0_fairPiece 28 = .ok (.iload_n 2, 1) := by decide +kernel
theorem dX0_fairPiece_29 : decode cX0_fairPiece 29 = .ok (.imul, 1) := by decide +kernel
theorem dX0_fairPiece_30 : decode cX0_fairPiece 30 = .ok (.iload 4, 2) := by decide +kernel
theorem dX0_fairPiece_32 : decode cX0_fairPiece 32 = .ok (.if_icmp .ge 26, 3) := by decide +kernel
theorem dX0_fairPiece_35 : decode cX0_fairPiece 35 = .ok (.iload 5, 2) := by decide +kernel
theorem dX0_fairPiece_37 : decode cX0_fairPiece 37 = .ok (.aload_n 0, 1) := by decide +kernel
theorem dX0_fairPiece_38 : decode cX0_fairPiece 38 = .ok (.getfield 18, 3) := by decide +kernel
theorem dX0_fairPiece_41 : decode cX0_fairPiece 41 = .ok (.iload_n 3, 1) := by decide +kernel
theorem dX0_fairPiece_42 : decode cX0_fairPiece 42 = .ok (.iload 6, 2) := by decide +kernel
theorem dX0_fairPiece_44 : decode cX0_fairPiece 44 = .ok (.iadd, 1) := by decide +kernel
theorem dX0_fairPiece_45 : decode cX0_fairPiece 45 = .ok (.iload_n 1, 1) := by decide +kernel
theorem dX0_fairPiece_46 : decode cX0_fairPiece 46 = .ok (.invokevirtual 90, 3) := by decide +kernel
theorem dX0_fairPiece_49 : decode cX0_fairPiece 49 = .ok (.iadd, 1) := by decide +kernel
theorem dX0_fairPiece_50 : decode cX0_fairPiece 50 = .ok (.istore 5, 2) := by decide +kernel
theorem dX0_fairPiece_52 : decode cX0_fairPiece 52 = .ok (.iinc 6 1, 3) := by decide +kernel
theorem dX0_fairPiece_55 : decode cX0_fairPiece 55 = .ok (.goto (-38), 3) := by decide +kernel
theorem dX0_fairPiece_58 : decode cX0_fairPiece 58 = .ok (.iload 6, 2) := by decide +kernel
theorem dX0_fairPiece_60 : decode cX0_fairPiece 60 = .ok (.ireturn, 1) := by decide +kernel
set_option maxRecDepth 20000 in
theorem ggX0_firstOf_X5_contains : GoodIn wsX0_firstOf wsX5_contains := goodIn_r _ [4] rfl (by decide +kernel)
set_option maxRecDepth 20000 in
theorem gX0_firstOf_X5_contains_n67 : GoodIn wsX0_firstOf (wsX5_contains) := ggX0_firstOf_X5_contains
theorem dX0_firstOf_0 : decode cX0_firstOf 0 = .ok (.iconst 0, 1) := by decide +kernel
theorem dX0_firstOf_1 : decode cX0_firstOf 1 = .ok (.istore_n 2, 1) := by decide +kernel
theorem dX0_firstOf_2 : decode cX0_firstOf 2 = .ok (.iload_n 2, 1) := by decide +kernel
theorem dX0_firstOf_3 : decode cX0_firstOf 3 = .ok (.bipush 7, 2) := by decide +kernel
theorem dX0_firstOf_5 : decode cX0_firstOf 5 = .ok (.if_icmp .ge 29, 3) := by decide +kernel
theorem dX0_firstOf_8 : decode cX0_firstOf 8 = .ok (.iload_n 1, 1) := by decide +kernel
theorem dX0_firstOf_9 : decode cX0_firstOf 9 = .ok (.aload_n 0, 1) := by decide +kernel
theorem dX0_firstOf_10 : decode cX0_firstOf 10 = .ok (.getfield 15, 3) := by decide +kernel
theorem dX0_firstOf_13 : decode cX0_firstOf 13 = .ok (.iload_n 2, 1) := by decide +kernel
theorem dX0_firstOf_14 : decode cX0_firstOf 14 = .ok (.iaload, 1) := by decide +kernel
theorem dX0_firstOf_15 : decode cX0_firstOf 15 = .ok (.invokestatic 67, 3) := by decide +kernel
theorem dX0_firstOf_18 : decode cX0_firstOf 18 = .ok (.ifCond .eq 10, 3) := by decide +kernel
theorem dX0_firstOf_21 : decode cX0_firstOf 21 = .ok (.aload_n 0, 1) := by decide +kernel
theorem dX0_firstOf_22 : decode cX0_firstOf 22 = .ok (.getfield 15, 3) := by decide +kernel
theorem dX0_firstOf_25 : decode cX0_firstOf 25 = .ok (.iload_n 2, 1) := by decide +kernel
theorem dX0_firstOf_26 : decode cX0_firstOf 26 = .ok (.iaload, 1) := by decide +kernel
theorem dX0_firstOf_27 : decode cX0_firstOf 27 = .ok (.ireturn, 1) := by decide +kernel
theorem dX0_firstOf_28 : decode cX0_firstOf 28 = .ok (.iinc 2 1, 3) := by decide +kernel
theorem dX0_firstOf_31 : decode cX0_firstOf 31 = .ok (.goto (-29), 3) := by decide +kernel
theorem dX0_firstOf_34 : decode cX0_firstOf 34 = .ok (.bipush 7, 2) := by decide +kernel
theorem dX0_firstOf_36 : decode cX0_firstOf 36 = .ok (.ireturn, 1) := by decide +kernel
theorem dX0_handOut_0 : decode cX0_handOut 0 = .ok (.iload_n 1, 1) := by decide +kernel
theorem dX0_handOut_1 : decode cX0_handOut 1 = .ok (.istore 4, 2) := by decide +kernel
theorem dX0_handOut_3 : decode cX0_handOut 3 = .ok (.iload 4, 2) := by decide +kernel
theorem dX0_handOut_5 : decode cX0_handOut 5 = .ok (.iload_n 2, 1) := by decide +kernel
theorem dX0_handOut_6 : decode cX0_handOut 6 = .ok (.if_icmp .ge 24, 3) := by decide +kernel
theorem dX0_handOut_9 : decode cX0_handOut 9 = .ok (.iload 4, 2) := by decide +kernel
theorem dX0_handOut_11 : decode cX0_handOut 11 = .ok (.bipush 24, 2) := by decide +kernel
theorem dX0_handOut_13 : decode cX0_handOut 13 = .ok (.if_icmp .ge 17, 3) := by decide +kernel
theorem dX0_handOut_16 : decode cX0_handOut 16 = .ok (.aload_n 0, 1) := by decide +kernel
theorem dX0_handOut_17 : decode cX0_handOut 17 = .ok (.getfield 9, 3) := by decide +kernel
theorem dX0_handOut_20 : decode cX0_handOut 20 = .ok (.iload 4, 2) := by decide +kernel
theorem dX0_handOut_22 : decode cX0_handOut 22 = .ok (.iload_n 3, 1) := by decide +kernel
theorem dX0_handOut_23 : decode cX0_handOut 23 = .ok (.iastore, 1) := by decide +kernel
theorem dX0_handOut_24 : decode cX0_handOut 24 = .ok (.iinc 4 1, 3) := by decide +kernel
theorem dX0_handOut_27 : decode cX0_handOut 27 = .ok (.goto (-24), 3) := by decide +kernel
theorem dX0_handOut_30 : decode cX0_handOut 30 = .ok (.return_, 1) := by decide +kernel
set_option maxRecDepth 20000 in
theorem ggX1_init_X1_weighPlots : GoodIn wsX1_init wsX1_weighPlots := goodIn_r _ [15, 16, 17, 18, 14, 19, 5, 6, 10, 20, 21, 22, 23, 24, 25, 26, 27, 28] rfl (by decide +kernel)
set_option maxRecDepth 20000 in
theorem gX1_init_X1_weighPlots : GoodIn wsX1_init (wsV RX1 30 RX1 yX1_weighPlots wsX1_weighPlots) := goodIn_app (goodIn_of _ (by decide +kernel)) ggX1_init_X1_weighPlots
theorem dX1_init_0 : decode cX1_init 0 = .ok (.aload_n 0, 1) := by decide +kernel
theorem dX1_init_1 : decode cX1_init 1 = .ok (.invokespecial 3, 3) := by decide +kernel
theorem dX1_init_4 : decode cX1_init 4 = .ok (.aload_n 0, 1) := by decide +kernel
theorem dX1_init_5 : decode cX1_init 5 = .ok (.bipush 96, 2) := by decide +kernel
theorem dX1_init_7 : decode cX1_init 7 = .ok (.newarray .int, 2) := by decide +kernel
theorem dX1_init_9 : decode cX1_init 9 = .ok (.putfield 9, 3) := by decide +kernel
theorem dX1_init_12 : decode cX1_init 12 = .ok (.aload_n 0, 1) := by decide +kernel
theorem dX1_init_13 : decode cX1_init 13 = .ok (.bipush 28, 2) := by decide +kernel
theorem dX1_init_15 : decode cX1_init 15 = .ok (.newarray .int, 2) := by decide +kernel
theorem dX1_init_17 : decode cX1_init 17 = .ok (.putfield 15, 3) := by decide +kernel
theorem dX1_init_20 : decode cX1_init 20 = .ok (.aload_n 0, 1) := by decide +kernel
theorem dX1_init_21 : decode cX1_init 21 = .ok (.bipush 49, 2) := by decide +kernel
theorem dX1_init_23 : decode cX1_init 23 = .ok (.newarray .int, 2) := by decide +kernel
theorem dX1_init_25 : decode cX1_init 25 = .ok (.putfield 18, 3) := by decide +kernel
theorem dX1_init_28 : decode cX1_init 28 = .ok (.aload_n 0, 1) := by decide +kernel
theorem dX1_init_29 : decode cX1_init 29 = .ok (.bipush 24, 2) := by decide +kernel
theorem dX1_init_31 : decode cX1_init 31 = .ok (.newarray .int, 2) := by decide +kernel
theorem dX1_init_33 : decode cX1_init 33 = .ok (.putfield 21, 3) := by decide +kernel
theorem dX1_init_36 : decode cX1_init 36 = .ok (.aload_n 0, 1) := by decide +kernel
theorem dX1_init_37 : decode cX1_init 37 = .ok (.iconst 2, 1) := by decide +kernel
theorem dX1_init_38 : decode cX1_init 38 = .ok (.newarray .int, 2) := by decide +kernel
theorem dX1_init_40 : decode cX1_init 40 = .ok (.putfield 24, 3) := by decide +kernel
theorem dX1_init_43 : decode cX1_init 43 = .ok (.aload_n 0, 1) := by decide +kernel
theorem dX1_init_44 : decode cX1_init 44 = .ok (.sipush 168, 3) := by decide +kernel
theorem dX1_init_47 : decode cX1_init 47 = .ok (.newarray .int, 2) := by decide +kernel
theorem dX1_init_49 : decode cX1_init 49 = .ok (.putfield 27, 3) := by decide +kernel
theorem dX1_init_52 : decode cX1_init 52 = .ok (.iconst 0, 1) := by decide +kernel
theorem dX1_init_53 : decode cX1_init 53 = .ok (.istore_n 1, 1) := by decide +kernel
theorem dX1_init_54 : decode cX1_init 54 = .ok (.iload_n 1, 1) := by decide +kernel
theorem dX1_init_55 : decode cX1_init 55 = .ok (.bipush 24, 2) := by decide +kernel
theorem dX1_init_57 : decode cX1_init 57 = .ok (.if_icmp .ge 30, 3) := by decide +kernel
theorem dX1_init_60 : decode cX1_init 60 = .ok (.aload_n 0, 1) := by decide +kernel
theorem dX1_init_61 : decode cX1_init 61 = .ok (.getfield 9, 3) := by decide +kernel
theorem dX1_init_64 : decode cX1_init 64 = .ok (.iload_n 1, 1) := by decide +kernel
theorem dX1_init_65 : decode cX1_init 65 = .ok (.iconst 4, 1) := by decide +kernel
theorem dX1_init_66 : decode cX1_init 66 = .ok (.imul, 1) := by decide +kernel
theorem dX1_init_67 : decode cX1_init 67 = .ok (.iload_n 1, 1) := by decide +kernel
theorem dX1_init_68 : decode cX1_init 68 = .ok (.iconst 4, 1) := by decide +kernel
theorem dX1_init_69 : decode cX1_init 69 = .ok (.irem, 1) := by decide +kernel
theorem dX1_init_70 : decode cX1_init 70 = .ok (.iadd, 1) := by decide +kernel
theorem dX1_init_71 : decode cX1_init 71 = .ok (.iconst 1, 1) := by decide +kernel
theorem dX1_init_72 : decode cX1_init 72 = .ok (.iastore, 1) := by decide +kernel
theorem dX1_init_73 : decode cX1_init 73 = .ok (.aload_n 0, 1) := by decide +kernel
theorem dX1_init_74 : decode cX1_init 74 = .ok (.getfield 21, 3) := by decide +kernel
theorem dX1_init_77 : decode cX1_init 77 = .ok (.iload_n 1, 1) := by decide +kernel
theorem dX1_init_78 : decode cX1_init 78 = .ok (.bipush 7, 2) := by decide +kernel
theorem dX1_init_80 : decode cX1_init 80 = .ok (.iastore, 1) := by decide +kernel
theorem dX1_init_81 : decode cX1_init 81 = .ok (.iinc 1 1, 3) := by decide +kernel
theorem dX1_init_84 : decode cX1_init 84 = .ok (.goto (-30), 3) := by decide +kernel
theorem dX1_init_87 : decode cX1_init 87 = .ok (.iconst 0, 1) := by decide +kernel
theorem dX1_init_88 : decode cX1_init 88 = .ok (.istore_n 1, 1) := by decide +kernel
theorem dX1_init_89 : decode cX1_init 89 = .ok (.iload_n 1, 1) := by decide +kernel
theorem dX1_init_90 : decode cX1_init 90 = .ok (.bipush 28, 2) := by decide +kernel
theorem dX1_init_92 : decode cX1_init 92 = .ok (.if_icmp .ge 16, 3) := by decide +kernel
theorem dX1_init_95 : decode cX1_init 95 = .ok (.aload_n 0, 1) := by decide +kernel
theorem dX1_init_96 : decode cX1_init 96 = .ok (.getfield 15, 3) := by decide +kernel
theorem dX1_init_99 : decode cX1_init 99 = .ok (.iload_n 1, 1) := by decide +kernel
theorem dX1_init_100 : decode cX1_init 100 = .ok (.iconst 1, 1) := by decide +kernel
theorem dX1_init_101 : decode cX1_init 101 = .ok (.iastore, 1) := by decide +kernel
theorem dX1_init_102 : decode cX1_init 102 = .ok (.iinc 1 1, 3) := by decide +kernel
theorem dX1_init_105 : decode cX1_init 105 = .ok (.goto (-16), 3) := by decide +kernel
theorem dX1_init_108 : decode cX1_init 108 = .ok (.aload_n 0, 1) := by decide +kernel
theorem dX1_init_109 : decode cX1_init 109 = .ok (.getfield 24, 3) := by decide +kernel
theorem dX1_init_112 : decode cX1_init 112 = .ok (.iconst 0, 1) := by decide +kernel
theorem dX1_init_113 : decode cX1_init 113 = .ok (.iconst 0, 1) := by decide +kernel
theorem dX1_init_114 : decode cX1_init 114 = .ok (.iastore, 1) := by decide +kernel
theorem dX1_init_115 : decode cX1_init 115 = .ok (.aload_n 0, 1) := by decide +kernel
theorem dX1_init_116 : decode cX1_init 116 = .ok (.getfield 24, 3) := by decide +kernel
theorem dX1_init_119 : decode cX1_init 119 = .ok (.iconst 1, 1) := by decide +kernel
theorem dX1_init_120 : decode cX1_init 120 = .ok (.iconst 5, 1) := by decide +kernel
theorem dX1_init_121 : decode cX1_init 121 = .ok (.iastore, 1) := by decide +kernel
theorem dX1_init_122 : decode cX1_init 122 = .ok (.iconst 0, 1) := by decide +kernel
theorem dX1_init_123 : decode cX1_init 123 = .ok (.istore_n 1, 1) := by decide +kernel
theorem dX1_init_124 : decode cX1_init 124 = .ok (.iload_n 1, 1) := by decide +kernel
theorem dX1_init_125 : decode cX1_init 125 = .ok (.bipush 7, 2) := by decide +kernel
theorem dX1_init_127 : decode cX1_init 127 = .ok (.if_icmp .ge 14, 3) := by decide +kernel
theorem dX1_init_130 : decode cX1_init 130 = .ok (.aload_n 0, 1) := by decide +kernel
theorem dX1_init_131 : decode cX1_init 131 = .ok (.iload_n 1, 1) := by decide +kernel
theorem dX1_init_132 : decode cX1_init 132 = .ok (.invokevirtual 30, 3) := by decide +kernel
theorem dX1_init_135 : decode cX1_init 135 = .ok (.iinc 1 1, 3) := by decide +kernel
theorem dX1_init_138 : decode cX1_init 138 = .ok (.goto (-14), 3) := by decide +kernel
theorem dX1_init_141 : decode cX1_init 141 = .ok (.return_, 1) := by decide +kernel
theorem dX1_copyFrom_0 : decode cX1_copyFrom 0 = .ok (.aload_n 1, 1) := by decide +kernel
theorem dX1_copyFrom_1 : decode cX1_copyFrom 1 = .ok (.getfield 9, 3) := by decide +kernel
theorem dX1_copyFrom_4 : decode cX1_copyFrom 4 = .ok (.iconst 0, 1) := by decide +kernel
theorem dX1_copyFrom_5 : decode cX1_copyFrom 5 = .ok (.aload_n 0, 1) := by decide +kernel
theorem dX1_copyFrom_6 : decode cX1_copyFrom 6 = .ok (.getfield 9, 3) := by decide +kernel
theorem dX1_copyFrom_9 : decode cX1_copyFrom 9 = .ok (.iconst 0, 1) := by decide +kernel
theorem dX1_copyFrom_10 : decode cX1_copyFrom 10 = .ok (.bipush 96, 2) := by decide +kernel
theorem dX1_copyFrom_12 : decode cX1_copyFrom 12 = .ok (.invokestatic 34, 3) := by decide +kernel
theorem dX1_copyFrom_15 : decode cX1_copyFrom 15 = .ok (.aload_n 1, 1) := by decide +kernel
theorem dX1_copyFrom_16 : decode cX1_copyFrom 16 = .ok (.getfield 15, 3) := by decide +kernel
theorem dX1_copyFrom_19 : decode cX1_copyFrom 19 = .ok (.iconst 0, 1) := by decide +kernel
theorem dX1_copyFrom_20 : decode cX1_copyFrom 20 = .ok (.aload_n 0, 1) := by decide +kernel
theorem dX1_copyFrom_21 : decode cX1_copyFrom 21 = .ok (.getfield 15, 3) := by decide +kernel
theorem dX1_copyFrom_24 : decode cX1_copyFrom 24 = .ok (.iconst 0, 1) := by decide +kernel
theorem dX1_copyFrom_25 : decode cX1_copyFrom 25 = .ok (.bipush 28, 2) := by decide +kernel
theorem dX1_copyFrom_27 : decode cX1_copyFrom 27 = .ok (.invokestatic 34, 3) := by decide +kernel
theorem dX1_copyFrom_30 : decode cX1_copyFrom 30 = .ok (.aload_n 1, 1) := by decide +kernel
theorem dX1_copyFrom_31 : decode cX1_copyFrom 31 = .ok (.getfield 18, 3) := by decide +kernel
theorem dX1_copyFrom_34 : decode cX1_copyFrom 34 = .ok (.iconst 0, 1) := by decide +kernel
theorem dX1_copyFrom_35 : decode cX1_copyFrom 35 = .ok (.aload_n 0, 1) := by decide +kernel
theorem dX1_copyFrom_36 : decode cX1_copyFrom 36 = .ok (.getfield 18, 3) := by decide +kernel
theorem dX1_copyFrom_39 : decode cX1_copyFrom 39 = .ok (.iconst 0, 1) := by decide +kernel
theorem dX1_copyFrom_40 : decode cX1_copyFrom 40 = .ok (.bipush 49, 2) := by decide +kernel
theorem dX1_copyFrom_42 : decode cX1_copyFrom 42 = .ok (.invokestatic 34, 3) := by decide +kernel
theorem dX1_copyFrom_45 : decode cX1_copyFrom 45 = .ok (.aload_n 1, 1) := by decide +kernel
theorem dX1_copyFrom_46 : decode cX1_copyFrom 46 = .ok (.getfield 21, 3) := by decide +kernel
theorem dX1_copyFrom_49 : decode cX1_copyFrom 49 = .ok (.iconst 0, 1) := by decide +kernel
theorem dX1_copyFrom_50 : decode cX1_copyFrom 50 = .ok (.aload_n 0, 1) := by decide +kernel
theorem dX1_copyFrom_51 : decode cX1_copyFrom 51 = .ok (.getfield 21, 3) := by decide +kernel
theorem dX1_copyFrom_54 : decode cX1_copyFrom 54 = .ok (.iconst 0, 1) := by decide +kernel
theorem dX1_copyFrom_55 : decode cX1_copyFrom 55 = .ok (.bipush 24, 2) := by decide +kernel
theorem dX1_copyFrom_57 : decode cX1_copyFrom 57 = .ok (.invokestatic 34, 3) := by decide +kernel
theorem dX1_copyFrom_60 : decode cX1_copyFrom 60 = .ok (.aload_n 1, 1) := by decide +kernel
theorem dX1_copyFrom_61 : decode cX1_copyFrom 61 = .ok (.getfield 24, 3) := by decide +kernel
theorem dX1_copyFrom_64 : decode cX1_copyFrom 64 = .ok (.iconst 0, 1) := by decide +kernel
theorem dX1_copyFrom_65 : decode cX1_copyFrom 65 = .ok (.aload_n 0, 1) := by decide +kernel
theorem dX1_copyFrom_66 : decode cX1_copyFrom 66 = .ok (.getfield 24, 3) := by decide +kernel
theorem dX1_copyFrom_69 : decode cX1_copyFrom 69 = .ok (.iconst 0, 1) := by decide +kernel
theorem dX1_copyFrom_70 : decode cX1_copyFrom 70 = .ok (.iconst 2, 1) := by decide +kernel
theorem dX1_copyFrom_71 : decode cX1_copyFrom 71 = .ok (.invokestatic 34, 3) := by decide +kernel
theorem dX1_copyFrom_74 : decode cX1_copyFrom 74 = .ok (.aload_n 1, 1) := by decide +kernel
theorem dX1_copyFrom_75 : decode cX1_copyFrom 75 = .ok (.getfield 27, 3) := by decide +kernel
theorem dX1_copyFrom_78 : decode cX1_copyFrom 78 = .ok (.iconst 0, 1) := by decide +kernel
theorem dX1_copyFrom_79 : decode cX1_copyFrom 79 = .ok (.aload_n 0, 1) := by decide +kernel
theorem dX1_copyFrom_80 : decode cX1_copyFrom 80 = .ok (.getfield 27, 3) := by decide +kernel
theorem dX1_copyFrom_83 : decode cX1_copyFrom 83 = .ok (.iconst 0, 1) := by decide +kernel
theorem dX1_copyFrom_84 : decode cX1_copyFrom 84 = .ok (.sipush 168, 3) := by decide +kernel
theorem dX1_copyFrom_87 : decode cX1_copyFrom 87 = .ok (.invokestatic 34, 3) := by decide +kernel
theorem dX1_copyFrom_90 : decode cX1_copyFrom 90 = .ok (.aload_n 0, 1) := by decide +kernel
theorem dX1_copyFrom_91 : decode cX1_copyFrom 91 = .ok (.aload_n 1, 1) := by decide +kernel
theorem dX1_copyFrom_92 : decode cX1_copyFrom 92 = .ok (.getfield 40, 3) := by decide +kernel
theorem dX1_copyFrom_95 : decode cX1_copyFrom 95 = .ok (.putfield 40, 3) := by decide +kernel
theorem dX1_copyFrom_98 : decode cX1_copyFrom 98 = .ok (.aload_n 0, 1) := by decide +kernel
theorem dX1_copyFrom_99 : decode cX1_copyFrom 99 = .ok (.aload_n 1, 1) := by decide +kernel
theorem dX1_copyFrom_100 : decode cX1_copyFrom 100 = .ok (.getfield 44, 3) := by decide +kernel
theorem dX1_copyFrom_103 : decode cX1_copyFrom 103 = .ok (.putfield 44, 3) := by decide +kernel
theorem dX1_copyFrom_106 : decode cX1_copyFrom 106 = .ok (.aload_n 0, 1) := by decide +kernel
theorem dX1_copyFrom_107 : decode cX1_copyFrom 107 = .ok (.aload_n 1, 1) := by decide +kernel
theorem dX1_copyFrom_108 : decode cX1_copyFrom 108 = .ok (.getfield 47, 3) := by decide +kernel
theorem dX1_copyFrom_111 : decode cX1_copyFrom 111 = .ok (.putfield 47, 3) := by decide +kernel
theorem dX1_copyFrom_114 : decode cX1_copyFrom 114 = .ok (.return_, 1) := by decide +kernel
set_option maxRecDepth 20000 in
theorem ggX1_putAmount_X1_weighPlot : GoodIn wsX1_putAmount wsX1_weighPlot := goodIn_r _ [6, 1, 7, 8, 9, 10, 11, 12, 13, 14, 15, 16, 17] rfl (by decide +kernel)
set_option maxRecDepth 20000 in
theorem gX1_putAmount_X1_weighPlot : GoodIn wsX1_putAmount (wsV RX1 50 RX1 yX1_weighPlot wsX1_weighPlot) := goodIn_app (goodIn_of _ (by decide +kernel)) ggX1_putAmount_X1_weighPlot
theorem dX1_putAmount_0 : decode cX1_putAmount 0 = .ok (.aload_n 0, 1) := by decide +kernel
theorem dX1_putAmount_1 : decode cX1_putAmount 1 = .ok (.getfield 9, 3) := by decide +kernel
theorem dX1_putAmount_4 : decode cX1_putAmount 4 = .ok (.iload_n 1, 1) := by decide +kernel
theorem dX1_putAmount_5 : decode cX1_putAmount 5 = .ok (.iconst 4, 1) := by decide +kernel
theorem dX1_putAmount_6 : decode cX1_putAmount 6 = .ok (.imul, 1) := by decide +kernel
theorem dX1_putAmount_7 : decode cX1_putAmount 7 = .ok (.iload_n 2, 1) := by decide +kernel
theorem dX1_putAmount_8 : decode cX1_putAmount 8 = .ok (.iadd, 1) := by decide +kernel
theorem dX1_putAmount_9 : decode cX1_putAmount 9 = .ok (.iload_n 3, 1) := by decide +kernel
theorem dX1_putAmount_10 : decode cX1_putAmount 10 = .ok (.iastore, 1) := by decide +kernel
theorem dX1_putAmount_11 : decode cX1_putAmount 11 = .ok (.iconst 0, 1) := by decide +kernel
theorem dX1_putAmount_12 : decode cX1_putAmount 12 = .ok (.istore 4, 2) := by decide +kernel
theorem dX1_putAmount_14 : decode cX1_putAmount 14 = .ok (.iload 4, 2) := by decide +kernel
theorem dX1_putAmount_16 : decode cX1_putAmount 16 = .ok (.bipush 7, 2) := by decide +kernel
theorem dX1_putAmount_18 : decode cX1_putAmount 18 = .ok (.if_icmp .ge 16, 3) := by decide +kernel
theorem dX1_putAmount_21 : decode cX1_putAmount 21 = .ok (.aload_n 0, 1) := by decide +kernel
theorem dX1_putAmount_22 : decode cX1_putAmount 22 = .ok (.iload_n 1, 1) := by decide +kernel
theorem dX1_putAmount_23 : decode cX1_putAmount 23 = .ok (.iload 4, 2) := by decide +kernel
theorem dX1_putAmount_25 : decode cX1_putAmount 25 = .ok (.invokevirtual 50, 3) := by decide +kernel
theorem dX1_putAmount_28 : decode cX1_putAmount 28 = .ok (.iinc 4 1, 3) := by decide +kernel
theorem dX1_putAmount_31 : decode cX1_putAmount 31 = .ok (.goto (-17), 3) := by decide +kernel
theorem dX1_putAmount_34 : decode cX1_putAmount 34 = .ok (.return_, 1) := by decide +kernel
set_option maxRecDepth 20000 in
theorem ggX1_putWeight_X1_weighPlots : GoodIn wsX1_putWeight wsX1_weighPlots := goodIn_r _ [6, 7, 8, 9, 5, 10, 11, 1, 12, 13, 14, 15, 16, 17, 18, 19, 20, 21] rfl (by decide +kernel)
set_option maxRecDepth 20000 in
theorem gX1_putWeight_X1_weighPlots : GoodIn wsX1_putWeight (wsV RX1 30 RX1 yX1_weighPlots wsX1_weighPlots) := goodIn_app (goodIn_of _ (by decide +kernel)) ggX1_putWeight_X1_weighPlots
theorem dX1_putWeight_0 : decode cX1_putWeight 0 = .ok (.aload_n 0, 1) := by decide +kernel
theorem dX1_putWeight_1 : decode cX1_putWeight 1 = .ok (.getfield 15, 3) := by decide +kernel
theorem dX1_putWeight_4 : decode cX1_putWeight 4 = .ok (.iload_n 1, 1) := by decide +kernel
theorem dX1_putWeight_5 : decode cX1_putWeight 5 = .ok (.iconst 4, 1) := by decide +kernel
theorem dX1_putWeight_6 : decode cX1_putWeight 6 = .ok (.imul, 1) := by decide +kernel
theorem dX1_putWeight_7 : decode cX1_putWeight 7 = .ok (.iload_n 2, 1) := by decide +kernel
theorem dX1_putWeight_8 : decode cX1_putWeight 8 = .ok (.iadd, 1) := by decide +kernel
theorem dX1_putWeight_9 : decode cX1_putWeight 9 = .ok (.iload_n 3, 1) := by decide +kernel
theorem dX1_putWeight_10 : decode cX1_putWeight 10 = .ok (.iastore, 1) := by decide +kernel
theorem dX1_putWeight_11 : decode cX1_putWeight 11 = .ok (.aload_n 0, 1) := by decide +kernel
theorem dX1_putWeight_12 : decode cX1_putWeight 12 = .ok (.iload_n 1, 1) := by decide +kernel
theorem dX1_putWeight_13 : decode cX1_putWeight 13 = .ok (.invokevirtual 30, 3) := by decide +kernel
theorem dX1_putWeight_16 : decode cX1_putWeight 16 = .ok (.return_, 1) := by decide +kernel
theorem dX1_putGrudge_0 : decode cX1_putGrudge 0 = .ok (.aload_n 0, 1) := by decide +kernel
theorem dX1_putGrudge_1 : decode cX1_putGrudge 1 = .ok (.getfield 18, 3) := by decide +kernel
theorem dX1_putGrudge_4 : decode cX1_putGrudge 4 = .ok (.iload_n 1, 1) := by decide +kernel
theorem dX1_putGrudge_5 : decode cX1_putGrudge 5 = .ok (.bipush 7, 2) := by decide +kernel
theorem dX1_putGrudge_7 : decode cX1_putGrudge 7 = .ok (.imul, 1) := by decide +kernel
theorem dX1_putGrudge_8 : decode cX1_putGrudge 8 = .ok (.iload_n 2, 1) := by decide +kernel
theorem dX1_putGrudge_9 : decode cX1_putGrudge 9 = .ok (.iadd, 1) := by decide +kernel
theorem dX1_putGrudge_10 : decode cX1_putGrudge 10 = .ok (.iload_n 3, 1) := by decide +kernel
theorem dX1_putGrudge_11 : decode cX1_putGrudge 11 = .ok (.iastore, 1) := by decide +kernel
theorem dX1_putGrudge_12 : decode cX1_putGrudge 12 = .ok (.return_, 1) := by decide +kernel
set_option maxRecDepth 20000 in
theorem ggX1_weighPlots_X1_weighPlot : GoodIn wsX1_weighPlots wsX1_weighPlot := goodIn_r _ [5, 6, 7, 8, 9, 10, 11, 12, 13, 14, 15, 16, 17] rfl (by decide +kernel)
set_option maxRecDepth 20000 in
theorem gX1_weighPlots_X1_weighPlot : GoodIn wsX1_weighPlots (wsV RX1 50 RX1 yX1_weighPlot wsX1_weighPlot) := goodIn_app (goodIn_of _ (by decide +kernel)) ggX1_weighPlots_X1_weighPlot
theorem dX1_weighPlots_0 : decode cX1_weighPlots 0 = .ok (.iconst 0, 1) := by decide +kernel
theorem dX1_weighPlots_1 : decode cX1_weighPlots 1 = .ok (.istore_n 2, 1) := by decide +kernel
theorem dX1_weighPlots_2 : decode cX1_weighPlots 2 = .ok (.iload_n 2, 1) := by decide +kernel
theorem dX1_weighPlots_3 : decode cX1_weighPlots 3 = .ok (.bipush 24, 2) := by decide +kernel
theorem dX1_weighPlots_5 : decode cX1_weighPlots 5 = .ok (.if_icmp .ge 15, 3) := by decide +kernel
theorem dX1_weighPlots_8 : decode cX1_weighPlots 8 = .ok (.aload_n 0, 1) := by decide +kernel
theorem dX1_weighPlots_9 : decode cX1_weighPlots 9 = .ok (.iload_n 2, 1) := by decide +kernel
theorem dX1_weighPlots_10 : decode cX1_weighPlots 10 = .ok (.iload_n 1, 1) := by decide +kernel
theorem dX1_weighPlots_11 : decode cX1_weighPlots 11 = .ok (.invokevirtual 50, 3) := by decide +kernel
theorem dX1_weighPlots_14 : decode cX1_weighPlots 14 = .ok (.iinc 2 1, 3) := by decide +kernel
theorem dX1_weighPlots_17 : decode cX1_weighPlots 17 = .ok (.goto (-15), 3) := by decide +kernel
theorem dX1_weighPlots_20 : decode cX1_weighPlots 20 = .ok (.return_, 1) := by decide +kernel
theorem dX1_weighPlot_0 : decode cX1_weighPlot 0 = .ok (.iconst 0, 1) := by decide +kernel
theorem dX1_weighPlot_1 : decode cX1_weighPlot 1 = .ok (.istore_n 3, 1) := by decide +kernel
theorem dX1_weighPlot_2 : decode cX1_weighPlot 2 = .ok (.iconst 0, 1) := by decide +kernel
theorem dX1_weighPlot_3 : decode cX1_weighPlot 3 = .ok (.istore 4, 2) := by decide +kernel
theorem dX1_weighPlot_5 : decode cX1_weighPlot 5 = .ok (.iload 4, 2) := by decide +kernel
theorem dX1_weighPlot_7 : decode cX1_weighPlot 7 = .ok (.iconst 4, 1) := by decide +kernel
theorem dX1_weighPlot_8 : decode cX1_weighPlot 8 = .ok (.if_icmp .ge 35, 3) := by decide +kernel
theorem dX1_weighPlot_11 : decode cX1_weighPlot 11 = .ok (.iload_n 3, 1) := by decide +kernel
theorem dX1_weighPlot_12 : decode cX1_weighPlot 12 = .ok (.aload_n 0, 1) := by decide +kernel
theorem dX1_weighPlot_13 : decode cX1_weighPlot 13 = .ok (.getfield 9, 3) := by decide +kernel
theorem dX1_weighPlot_16 : decode cX1_weighPlot 16 = .ok (.iload_n 1, 1) := by decide +kernel
theorem dX1_weighPlot_17 : decode cX1_weighPlot 17 = .ok (.iconst 4, 1) := by decide +kernel
theorem dX1_weighPlot_18 : decode cX1_weighPlot 18 = .ok (.imul, 1) := by decide +kernel
theorem dX1_weighPlot_19 : decode cX1_weighPlot 19 = .ok (.iload 4, 2) := by decide +kernel
theorem dX1_weighPlot_21 : decode cX1_weighPlot 21 = .ok (.iadd, 1) := by decide +kernel
theorem dX1_weighPlot_22 : decode cX1_weighPlot 22 = .ok (.iaload, 1) := by decide +kernel
theorem dX1_weighPlot_23 : decode cX1_weighPlot 23 = .ok (.aload_n 0, 1) := by decide +kernel
theorem dX1_weighPlot_24 : decode cX1_weighPlot 24 = .ok (.getfield 15, 3) := by decide +kernel
theorem dX1_weighPlot_27 : decode cX1_weighPlot 27 = .ok (.iload_n 2, 1) := by decide +kernel
theorem dX1_weighPlot_28 : decode cX1_weighPlot 28 = .ok (.iconst 4, 1) := by decide +kernel
theorem dX1_weighPlot_29 : decode cX1_weighPlot 29 = .ok (.imul, 1) := by decide +kernel
theorem dX1_weighPlot_30 : decode cX1_weighPlot 30 = .ok (.iload 4, 2) := by decide +kernel
theorem dX1_weighPlot_32 : decode cX1_weighPlot 32 = .ok (.iadd, 1) := by decide +kernel
theorem dX1_weighPlot_33 : decode cX1_weighPlot 33 = .ok (.iaload, 1) := by decide +kernel
theorem dX1_weighPlot_34 : decode cX1_weighPlot 34 = .ok (.imul, 1) := by decide +kernel
theorem dX1_weighPlot_35 : decode cX1_weighPlot 35 = .ok (.iadd, 1) := by decide +kernel
theorem dX1_weighPlot_36 : decode cX1_weighPlot 36 = .ok (.istore_n 3, 1) := by decide +kernel
theorem dX1_weighPlot_37 : decode cX1_weighPlot 37 = .ok (.iinc 4 1, 3) := by decide +kernel
theorem dX1_weighPlot_40 : decode cX1_weighPlot 40 = .ok (.goto (-35), 3) := by decide +kernel
theorem dX1_weighPlot_43 : decode cX1_weighPlot 43 = .ok (.aload_n 0, 1) := by decide +kernel
theorem dX1_weighPlot_44 : decode cX1_weighPlot 44 = .ok (.getfield 27, 3) := by decide +kernel
theorem dX1_weighPlot_47 : decode cX1_weighPlot 47 = .ok (.iload_n 1, 1) := by decide +kernel
theorem dX1_weighPlot_48 : decode cX1_weighPlot 48 = .ok (.bipush 7, 2) := by decide +kernel
theorem dX1_weighPlot_50 : decode cX1_weighPlot 50 = .ok (.imul, 1) := by decide +kernel
theorem dX1_weighPlot_51 : decode cX1_weighPlot 51 = .ok (.iload_n 2, 1) := by decide +kernel
theorem dX1_weighPlot_52 : decode cX1_weighPlot 52 = .ok (.iadd, 1) := by decide +kernel
theorem dX1_weighPlot_53 : decode cX1_weighPlot 53 = .ok (.iload_n 3, 1) := by decide +kernel
theorem dX1_weighPlot_54 : decode cX1_weighPlot 54 = .ok (.iastore, 1) := by decide +kernel
theorem dX1_weighPlot_55 : decode cX1_weighPlot 55 = .ok (.return_, 1) := by decide +kernel
theorem dX1_worthOf_0 : decode cX1_worthOf 0 = .ok (.aload_n 0, 1) := by decide +kernel
theorem dX1_worthOf_1 : decode cX1_worthOf 1 = .ok (.getfield 27, 3) := by decide +kernel
theorem dX1_worthOf_4 : decode cX1_worthOf 4 = .ok (.iload_n 1, 1) := by decide +kernel
theorem dX1_worthOf_5 : decode cX1_worthOf 5 = .ok (.bipush 7, 2) := by decide +kernel
theorem dX1_worthOf_7 : decode cX1_worthOf 7 = .ok (.imul, 1) := by decide +kernel
theorem dX1_worthOf_8 : decode cX1_worthOf 8 = .ok (.iload_n 2, 1) := by decide +kernel
theorem dX1_worthOf_9 : decode cX1_worthOf 9 = .ok (.iadd, 1) := by decide +kernel
theorem dX1_worthOf_10 : decode cX1_worthOf 10 = .ok (.iaload, 1) := by decide +kernel
theorem dX1_worthOf_11 : decode cX1_worthOf 11 = .ok (.ireturn, 1) := by decide +kernel
theorem dX1_worthFrom_0 : decode cX1_worthFrom 0 = .ok (.iconst 0, 1) := by decide +kernel
theorem dX1_worthFrom_1 : decode cX1_worthFrom 1 = .ok (.istore_n 3, 1) := by decide +kernel
theorem dX1_worthFrom_2 : decode cX1_worthFrom 2 = .ok (.iload_n 1, 1) := by decide +kernel
theorem dX1_worthFrom_3 : decode cX1_worthFrom 3 = .ok (.istore 4, 2) := by decide +kernel
theorem dX1_worthFrom_5 : decode cX1_worthFrom 5 = .ok (.iload 4, 2) := by decide +kernel
theorem dX1_worthFrom_7 : decode cX1_worthFrom 7 = .ok (.bipush 24, 2) := by decide +kernel
theorem dX1_worthFrom_9 : decode cX1_worthFrom 9 = .ok (.if_icmp .ge 24, 3) := by decide +kernel
theorem dX1_worthFrom_12 : decode cX1_worthFrom 12 = .ok (.iload_n 3, 1) := by decide +kernel
theorem dX1_worthFrom_13 : decode cX1_worthFrom 13 = .ok (.aload_n 0, 1) := by decide +kernel
theorem dX1_worthFrom_14 : decode cX1_worthFrom 14 = .ok (.getfield 27, 3) := by decide +kernel
theorem dX1_worthFrom_17 : decode cX1_worthFrom 17 = .ok (.iload 4, 2) := by decide +kernel
theorem dX1_worthFrom_19 : decode cX1_worthFrom 19 = .ok (.bipush 7, 2) := by decide +kernel
theorem dX1_worthFrom_21 : decode cX1_worthFrom 21 = .ok (.imul, 1) := by decide +kernel
theorem dX1_worthFrom_22 : decode cX1_worthFrom 22 = .ok (.iload_n 2, 1) := by decide +kernel
theorem dX1_worthFrom_23 : decode cX1_worthFrom 23 = .ok (.iadd, 1) := by decide +kernel
theorem dX1_worthFrom_24 : decode cX1_worthFrom 24 = .ok (.iaload, 1) := by decide +kernel
theorem dX1_worthFrom_25 : decode cX1_worthFrom 25 = .ok (.iadd, 1) := by decide +kernel
theorem dX1_worthFrom_26 : decode cX1_worthFrom 26 = .ok (.istore_n 3, 1) := by decide +kernel
theorem dX1_worthFrom_27 : decode cX1_worthFrom 27 = .ok (.iinc 4 1, 3) := by decide +kernel
theorem dX1_worthFrom_30 : decode cX1_worthFrom 30 = .ok (.goto (-25), 3) := by decide +kernel
theorem dX1_worthFrom_33 : decode cX1_worthFrom 33 = .ok (.iload_n 3, 1) := by decide +kernel
theorem dX1_worthFrom_34 : decode cX1_worthFrom 34 = .ok (.ireturn, 1) := by decide +kernel
theorem dX1_grudgeOf_0 : decode cX1_grudgeOf 0 = .ok (.aload_n 0, 1) := by decide +kernel
theorem dX1_grudgeOf_1 : decode cX1_grudgeOf 1 = .ok (.getfield 18, 3) := by decide +kernel
theorem dX1_grudgeOf_4 : decode cX1_grudgeOf 4 = .ok (.iload_n 1, 1) := by decide +kernel
theorem dX1_grudgeOf_5 : decode cX1_grudgeOf 5 = .ok (.bipush 7, 2) := by decide +kernel
theorem dX1_grudgeOf_7 : decode cX1_grudgeOf 7 = .ok (.imul, 1) := by decide +kernel
theorem dX1_grudgeOf_8 : decode cX1_grudgeOf 8 = .ok (.iload_n 2, 1) := by decide +kernel
theorem dX1_grudgeOf_9 : decode cX1_grudgeOf 9 = .ok (.iadd, 1) := by decide +kernel
theorem dX1_grudgeOf_10 : decode cX1_grudgeOf 10 = .ok (.iaload, 1) := by decide +kernel
theorem dX1_grudgeOf_11 : decode cX1_grudgeOf 11 = .ok (.ireturn, 1) := by decide +kernel
theorem dX1_grudgesOf_0 : decode cX1_grudgesOf 0 = .ok (.iconst 0, 1) := by decide +kernel
theorem dX1_grudgesOf_1 : decode cX1_grudgesOf 1 = .ok (.istore_n 2, 1) := by decide +kernel
theorem dX1_grudgesOf_2 : decode cX1_grudgesOf 2 = .ok (.iconst 0, 1) := by decide +kernel
theorem dX1_grudgesOf_3 : decode cX1_grudgesOf 3 = .ok (.istore_n 3, 1) := by decide +kernel
theorem dX1_grudgesOf_4 : decode cX1_grudgesOf 4 = .ok (.iload_n 3, 1) := by decide +kernel
theorem dX1_grudgesOf_5 : decode cX1_grudgesOf 5 = .ok (.bipush 7, 2) := by decide +kernel
theorem dX1_grudgesOf_7 : decode cX1_grudgesOf 7 = .ok (.if_icmp .ge 23, 3) := by decide +kernel
theorem dX1_grudgesOf_10 : decode cX1_grudgesOf 10 = .ok (.iload_n 2, 1) := by decide +kernel
theorem dX1_grudgesOf_11 : decode cX1_grudgesOf 11 = .ok (.aload_n 0, 1) := by decide +kernel
theorem dX1_grudgesOf_12 : decode cX1_grudgesOf 12 = .ok (.getfield 18, 3) := by decide +kernel
theorem dX1_grudgesOf_15 : decode cX1_grudgesOf 15 = .ok (.iload_n 1, 1) := by decide +kernel
theorem dX1_grudgesOf_16 : decode cX1_grudgesOf 16 = .ok (.bipush 7, 2) := by decide +kernel
theorem dX1_grudgesOf_18 : decode cX1_grudgesOf 18 = .ok (.imul, 1) := by decide +kernel
theorem dX1_grudgesOf_19 : decode cX1_grudgesOf 19 = .ok (.iload_n 3, 1) := by decide +kernel
theorem dX1_grudgesOf_20 : decode cX1_grudgesOf 20 = .ok (.iadd, 1) := by decide +kernel
theorem dX1_grudgesOf_21 : decode cX1_grudgesOf 21 = .ok (.iaload, 1) := by decide +kernel
theorem dX1_grudgesOf_22 : decode cX1_grudgesOf 22 = .ok (.iadd, 1) := by decide +kernel
theorem dX1_grudgesOf_23 : decode cX1_grudgesOf 23 = .ok (.istore_n 2, 1) := by decide +kernel
theorem dX1_grudgesOf_24 : decode cX1_grudgesOf 24 = .ok (.iinc 3 1, 3) := by decide +kernel
theorem dX1_grudgesOf_27 : decode cX1_grudgesOf 27 = .ok (.goto (-23), 3) := by decide +kernel
theorem dX1_grudgesOf_30 : decode cX1_grudgesOf 30 = .ok (.iload_n 2, 1) := by decide +kernel
theorem dX1_grudgesOf_31 : decode cX1_grudgesOf 31 = .ok (.ireturn, 1) := by decide +kernel
set_option maxRecDepth 20000 in
theorem ggX1_isAhead_X1_grudgesOf : GoodIn wsX1_isAhead wsX1_grudgesOf := goodIn_r _ [6, 7, 8, 9, 10, 11, 12, 13, 14, 15, 16] rfl (by decide +kernel)
set_option maxRecDepth 20000 in
theorem gX1_isAhead_X1_grudgesOf : GoodIn wsX1_isAhead (wsV RX1 54 RX1 yX1_grudgesOf wsX1_grudgesOf) := goodIn_app (goodIn_of _ (by decide +kernel)) ggX1_isAhead_X1_grudgesOf
theorem dX1_isAhead_0 : decode cX1_isAhead 0 = .ok (.aload_n 0, 1) := by decide +kernel
theorem dX1_isAhead_1 : decode cX1_isAhead 1 = .ok (.getfield 24, 3) := by decide +kernel
theorem dX1_isAhead_4 : decode cX1_isAhead 4 = .ok (.iconst 0, 1) := by decide +kernel
theorem dX1_isAhead_5 : decode cX1_isAhead 5 = .ok (.iaload, 1) := by decide +kernel
theorem dX1_isAhead_6 : decode cX1_isAhead 6 = .ok (.ifCond .ne 14, 3) := by decide +kernel
theorem dX1_isAhead_9 : decode cX1_isAhead 9 = .ok (.iload_n 1, 1) := by decide +kernel
theorem dX1_isAhead_10 : decode cX1_isAhead 10 = .ok (.iload_n 2, 1) := by decide +kernel
theorem dX1_isAhead_11 : decode cX1_isAhead 11 = .ok (.if_icmp .ge 7, 3) := by decide +kernel
theorem dX1_isAhead_14 : decode cX1_isAhead 14 = .ok (.iconst 1, 1) := by decide +kernel
theorem dX1_isAhead_15 : decode cX1_isAhead 15 = .ok (.goto 4, 3) := by decide +kernel
theorem dX1_isAhead_18 : decode cX1_isAhead 18 = .ok (.iconst 0, 1) := by decide +kernel
theorem dX1_isAhead_19 : decode cX1_isAhead 19 = .ok (.ireturn, 1) := by decide +kernel
theorem dX1_isAhead_20 : decode cX1_isAhead 20 = .ok (.aload_n 0, 1) := by decide +kernel
theorem dX1_isAhead_21 : decode cX1_isAhead 21 = .ok (.iload_n 1, 1) := by decide +kernel
theorem dX1_isAhead_22 : decode cX1_isAhead 22 = .ok (.invokevirtual 54, 3) := by decide +kernel
theorem dX1_isAhead_25 : decode cX1_isAhead 25 = .ok (.istore_n 3, 1) := by decide +kernel
theorem dX1_isAhead_26 : decode cX1_isAhead 26 = .ok (.aload_n 0, 1) := by decide +kernel
theorem dX1_isAhead_27 : decode cX1_isAhead 27 = .ok (.iload_n 2, 1) := by decide +kernel
theorem dX1_isAhead_28 : decode cX1_isAhead 28 = .ok (.invokevirtual 54, 3) := by decide +kernel
theorem dX1_isAhead_31 : decode cX1_isAhead 31 = .ok (.istore 4, 2) := by decide +kernel
theorem dX1_isAhead_33 : decode cX1_isAhead 33 = .ok (.iload_n 3, 1) := by decide +kernel
theorem dX1_isAhead_34 : decode cX1_isAhead 34 = .ok (.iload 4, 2) := by decide +kernel
theorem dX1_isAhead_36 : decode cX1_isAhead 36 = .ok (.if_icmp .gt 14, 3) := by decide +kernel
theorem dX1_isAhead_39 : decode cX1_isAhead 39 = .ok (.iload_n 3, 1) := by decide +kernel
theorem dX1_isAhead_40 : decode cX1_isAhead 40 = .ok (.iload 4, 2) := by decide +kernel
theorem dX1_isAhead_42 : decode cX1_isAhead 42 = .ok (.if_icmp .ne 12, 3) := by decide +kernel
theorem dX1_isAhead_45 : decode cX1_isAhead 45 = .ok (.iload_n 1, 1) := by decide +kernel
theorem dX1_isAhead_46 : decode cX1_isAhead 46 = .ok (.iload_n 2, 1) := by decide +kernel
theorem dX1_isAhead_47 : decode cX1_isAhead 47 = .ok (.if_icmp .ge 7, 3) := by decide +kernel
theorem dX1_isAhead_50 : decode cX1_isAhead 50 = .ok (.iconst 1, 1) := by decide +kernel
theorem dX1_isAhead_51 : decode cX1_isAhead 51 = .ok (.goto 4, 3) := by decide +kernel
theorem dX1_isAhead_54 : decode cX1_isAhead 54 = .ok (.iconst 0, 1) := by decide +kernel
theorem dX1_isAhead_55 : decode cX1_isAhead 55 = .ok (.ireturn, 1) := by decide +kernel
set_option maxRecDepth 20000 in
theorem ggX1_placeOf_X1_isAhead : GoodIn wsX1_placeOf wsX1_isAhead := goodIn_r _ [5, 6, 7, 8, 9, 4, 10, 11, 12, 13, 14, 15, 16, 17, 18, 19, 20] rfl (by decide +kernel)
set_option maxRecDepth 20000 in
theorem gX1_placeOf_X1_isAhead : GoodIn wsX1_placeOf (wsV RX1 58 RX1 yX1_isAhead wsX1_isAhead) := goodIn_app (goodIn_of _ (by decide +kernel)) ggX1_placeOf_X1_isAhead
theorem dX1_placeOf_0 : decode cX1_placeOf 0 = .ok (.iconst 0, 1) := by decide +kernel
theorem dX1_placeOf_1 : decode cX1_placeOf 1 = .ok (.istore_n 2, 1) := by decide +kernel
theorem dX1_placeOf_2 : decode cX1_placeOf 2 = .ok (.iconst 0, 1) := by decide +kernel
theorem dX1_placeOf_3 : decode cX1_placeOf 3 = .ok (.istore_n 3, 1) := by decide +kernel
theorem dX1_placeOf_4 : decode cX1_placeOf 4 = .ok (.iload_n 3, 1) := by decide +kernel
theorem dX1_placeOf_5 : decode cX1_placeOf 5 = .ok (.bipush 7, 2) := by decide +kernel
theorem dX1_placeOf_7 : decode cX1_placeOf 7 = .ok (.if_icmp .ge 21, 3) := by decide +kernel
theorem dX1_placeOf_10 : decode cX1_placeOf 10 = .ok (.aload_n 0, 1) := by decide +kernel
theorem dX1_placeOf_11 : decode cX1_placeOf 11 = .ok (.iload_n 3, 1) := by decide +kernel
theorem dX1_placeOf_12 : decode cX1_placeOf 12 = .ok (.iload_n 1, 1) := by decide +kernel
theorem dX1_placeOf_13 : decode cX1_placeOf 13 = .ok (.invokevirtual 58, 3) := by decide +kernel
theorem dX1_placeOf_16 : decode cX1_placeOf 16 = .ok (.ifCond .eq 6, 3) := by decide +kernel
theorem dX1_placeOf_19 : decode cX1_placeOf 19 = .ok (.iinc 2 1, 3) := by decide +kernel
theorem dX1_placeOf_22 : decode cX1_placeOf 22 = .ok (.iinc 3 1, 3) := by decide +kernel
theorem dX1_placeOf_25 : decode cX1_placeOf 25 = .ok (.goto (-21), 3) := by decide +kernel
theorem dX1_placeOf_28 : decode cX1_placeOf 28 = .ok (.iload_n 2, 1) := by decide +kernel
theorem dX1_placeOf_29 : decode cX1_placeOf 29 = .ok (.ireturn, 1) := by decide +kernel
theorem dX1_plotsOf_0 : decode cX1_plotsOf 0 = .ok (.iconst 0, 1) := by decide +kernel
theorem dX1_plotsOf_1 : decode cX1_plotsOf 1 = .ok (.istore_n 2, 1) := by decide +kernel
theorem dX1_plotsOf_2 : decode cX1_plotsOf 2 = .ok (.iconst 0, 1) := by decide +kernel
theorem dX1_plotsOf_3 : decode cX1_plotsOf 3 = .ok (.istore_n 3, 1) := by decide +kernel
theorem dX1_plotsOf_4 : decode cX1_plotsOf 4 = .ok (.iload_n 3, 1) := by decide +kernel
theorem dX1_plotsOf_5 : decode cX1_plotsOf 5 = .ok (.bipush 24, 2) := by decide +kernel
theorem dX1_plotsOf_7 : decode cX1_plotsOf 7 = .ok (.if_icmp .ge 22, 3) := by decide +kernel
theorem dX1_plotsOf_10 : decode cX1_plotsOf 10 = .ok (.aload_n 0, 1) := by decide +kernel
theorem dX1_plotsOf_11 : decode cX1_plotsOf 11 = .ok (.getfield 21, 3) := by decide +kernel
theorem dX1_plotsOf_14 : decode cX1_plotsOf 14 = .ok (.iload_n 3, 1) := by decide +kernel
theorem dX1_plotsOf_15 : decode cX1_plotsOf 15 = .ok (.iaload, 1) := by decide +kernel
theorem dX1_plotsOf_16 : decode cX1_plotsOf 16 = .ok (.iload_n 1, 1) := by decide +kernel
theorem dX1_plotsOf_17 : decode cX1_plotsOf 17 = .ok (.if_icmp .ne 6, 3) := by decide +kernel
theorem dX1_plotsOf_20 : decode cX1_plotsOf 20 = .ok (.iinc 2 1, 3) := by decide +kernel
theorem dX1_plotsOf_23 : decode cX1_plotsOf 23 = .ok (.iinc 3 1, 3) := by decide +kernel
theorem dX1_plotsOf_26 : decode cX1_plotsOf 26 = .ok (.goto (-22), 3) := by decide +kernel
theorem dX1_plotsOf_29 : decode cX1_plotsOf 29 = .ok (.iload_n 2, 1) := by decide +kernel
theorem dX1_plotsOf_30 : decode cX1_plotsOf 30 = .ok (.ireturn, 1) := by decide +kernel
theorem dX1_exchange_0 : decode cX1_exchange 0 = .ok (.iconst 0, 1) := by decide +kernel
theorem dX1_exchange_1 : decode cX1_exchange 1 = .ok (.istore_n 3, 1) := by decide +kernel
theorem dX1_exchange_2 : decode cX1_exchange 2 = .ok (.iload_n 3, 1) := by decide +kernel
theorem dX1_exchange_3 : decode cX1_exchange 3 = .ok (.bipush 24, 2) := by decide +kernel
theorem dX1_exchange_5 : decode cX1_exchange 5 = .ok (.if_icmp .ge 46, 3) := by decide +kernel
theorem dX1_exchange_8 : decode cX1_exchange 8 = .ok (.aload_n 0, 1) := by decide +kernel
theorem dX1_exchange_9 : decode cX1_exchange 9 = .ok (.getfield 21, 3) := by decide +kernel
theorem dX1_exchange_12 : decode cX1_exchange 12 = .ok (.iload_n 3, 1) := by decide +kernel
theorem dX1_exchange_13 : decode cX1_exchange 13 = .ok (.iaload, 1) := by decide +kernel
theorem dX1_exchange_14 : decode cX1_exchange 14 = .ok (.iload_n 1, 1) := by decide +kernel
theorem dX1_exchange_15 : decode cX1_exchange 15 = .ok (.if_icmp .ne 13, 3) := by decide +kernel
theorem dX1_exchange_18 : decode cX1_exchange 18 = .ok (.aload_n 0, 1) := by decide +kernel
theorem dX1_exchange_19 : decode cX1_exchange 19 = .ok (.getfield 21, 3) := by decide +kernel
theorem dX1_exchange_22 : decode cX1_exchange 22 = .ok (.iload_n 3, 1) := by decide +kernel
theorem dX1_exchange_23 : decode cX1_exchange 23 = .ok (.iload_n 2, 1) := by decide +kernel
theorem dX1_exchange_24 : decode cX1_exchange 24 = .ok (.iastore, 1) := by decide +kernel
theorem dX1_exchange_25 : decode cX1_exchange 25 = .ok (.goto 20, 3) := by decide +kernel
theorem dX1_exchange_28 : decode cX1_exchange 28 = .ok (.aload_n 0, 1) := by decide +kernel
theorem dX1_exchange_29 : decode cX1_exchange 29 = .ok (.getfield 21, 3) := by decide +kernel
theorem dX1_exchange_32 : decode cX1_exchange 32 = .ok (.iload_n 3, 1) := by decide +kernel
theorem dX1_exchange_33 : decode cX1_exchange 33 = .ok (.iaload, 1) := by decide +kernel
theorem dX1_exchange_34 : decode cX1_exchange 34 = .ok (.iload_n 2, 1) := by decide +kernel
theorem dX1_exchange_35 : decode cX1_exchange 35 = .ok (.if_icmp .ne 10, 3) := by decide +kernel
theorem dX1_exchange_38 : decode cX1_exchange 38 = .ok (.aload_n 0, 1) := by decide +kernel
theorem dX1_exchange_39 : decode cX1_exchange 39 = .ok (.getfield 21, 3) := by decide +kernel
theorem dX1_exchange_42 : decode cX1_exchange 42 = .ok (.iload_n 3, 1) := by decide +kernel
theorem dX1_exchange_43 : decode cX1_exchange 43 = .ok (.iload_n 1, 1) := by decide +kernel
theorem dX1_exchange_44 : decode cX1_exchange 44 = .ok (.iastore, 1) := by decide +kernel
theorem dX1_exchange_45 : decode cX1_exchange 45 = .ok (.iinc 3 1, 3) := by decide +kernel
theorem dX1_exchange_48 : decode cX1_exchange 48 = .ok (.goto (-46), 3) := by decide +kernel
theorem dX1_exchange_51 : decode cX1_exchange 51 = .ok (.return_, 1) := by decide +kernel
set_option maxRecDepth 20000 in
theorem ggX2_init_X1_init : GoodIn wsX2_init wsX1_init := goodIn_r _ [10, 11, 2, 3, 12, 13, 14, 15, 16, 17, 18, 19, 20, 21, 7, 22, 23, 24, 25, 26, 29, 30, 31, 32, 33, 34, 35, 36, 37] rfl (by decide +kernel)
set_option maxRecDepth 20000 in
theorem gX2_init_X1_init : GoodIn wsX2_init (wsX1_init) := ggX2_init_X1_init
theorem dX2_init_0 : decode cX2_init 0 = .ok (.aload_n 0, 1) := by decide +kernel
theorem dX2_init_1 : decode cX2_init 1 = .ok (.invokespecial 3, 3) := by decide +kernel
theorem dX2_init_4 : decode cX2_init 4 = .ok (.aload_n 0, 1) := by decide +kernel
theorem dX2_init_5 : decode cX2_init 5 = .ok (.iconst 4, 1) := by decide +kernel
theorem dX2_init_6 : decode cX2_init 6 = .ok (.anewarray 9, 3) := by decide +kernel
theorem dX2_init_9 : decode cX2_init 9 = .ok (.putfield 11, 3) := by decide +kernel
theorem dX2_init_12 : decode cX2_init 12 = .ok (.iconst 0, 1) := by decide +kernel
theorem dX2_init_13 : decode cX2_init 13 = .ok (.istore_n 1, 1) := by decide +kernel
theorem dX2_init_14 : decode cX2_init 14 = .ok (.iload_n 1, 1) := by decide +kernel
theorem dX2_init_15 : decode cX2_init 15 = .ok (.iconst 4, 1) := by decide +kernel
theorem dX2_init_16 : decode cX2_init 16 = .ok (.if_icmp .ge 22, 3) := by decide +kernel
theorem dX2_init_19 : decode cX2_init 19 = .ok (.aload_n 0, 1) := by decide +kernel
theorem dX2_init_20 : decode cX2_init 20 = .ok (.getfield 11, 3) := by decide +kernel
theorem dX2_init_23 : decode cX2_init 23 = .ok (.iload_n 1, 1) := by decide +kernel
theorem dX2_init_24 : decode cX2_init 24 = .ok (.new 9, 3) := by decide +kernel
theorem dX2_init_27 : decode cX2_init 27 = .ok (.dup, 1) := by decide +kernel
theorem dX2_init_28 : decode cX2_init 28 = .ok (.invokespecial 17, 3) := by decide +kernel
theorem dX2_init_31 : decode cX2_init 31 = .ok (.aastore, 1) := by decide +kernel
theorem dX2_init_32 : decode cX2_init 32 = .ok (.iinc 1 1, 3) := by decide +kernel
theorem dX2_init_35 : decode cX2_init 35 = .ok (.goto (-21), 3) := by decide +kernel
theorem dX2_init_38 : decode cX2_init 38 = .ok (.return_, 1) := by decide +kernel
set_option maxRecDepth 20000 in
theorem ggX2_record_X2_dropOldest : GoodIn wsX2_record wsX2_dropOldest := goodIn_r _ [7, 2, 1, 26, 27] rfl (by decide +kernel)
set_option maxRecDepth 20000 in
theorem gX2_record_X2_dropOldest : GoodIn wsX2_record (wsV RX2 22 RX2 yX2_dropOldest wsX2_dropOldest) := goodIn_app (goodIn_of _ (by decide +kernel)) ggX2_record_X2_dropOldest
set_option maxRecDepth 20000 in
theorem ggX2_record_X1_copyFrom : GoodIn wsX2_record wsX1_copyFrom := goodIn_r _ [12, 13, 14, 15, 16, 17, 18, 19, 20, 21, 22, 23, 24, 25, 28, 29, 30, 31, 32, 33, 34, 35, 36] rfl (by decide +kernel)
set_option maxRecDepth 20000 in
theorem gX2_record_X1_copyFrom : GoodIn wsX2_record (wsV RX2 25 RX1 yX1_copyFrom wsX1_copyFrom) := goodIn_app (goodIn_of _ (by decide +kernel)) ggX2_record_X1_copyFrom
theorem dX2_record_0 : decode cX2_record 0 = .ok (.aload_n 0, 1) := by decide +kernel
theorem dX2_record_1 : decode cX2_record 1 = .ok (.getfield 18, 3) := by decide +kernel
theorem dX2_record_4 : decode cX2_record 4 = .ok (.iconst 4, 1) := by decide +kernel
theorem dX2_record_5 : decode cX2_record 5 = .ok (.if_icmp .lt 7, 3) := by decide +kernel
theorem dX2_record_8 : decode cX2_record 8 = .ok (.aload_n 0, 1) := by decide +kernel
theorem dX2_record_9 : decode cX2_record 9 = .ok (.invokevirtual 22, 3) := by decide +kernel
theorem dX2_record_12 : decode cX2_record 12 = .ok (.aload_n 0, 1) := by decide +kernel
theorem dX2_record_13 : decode cX2_record 13 = .ok (.getfield 11, 3) := by decide +kernel
theorem dX2_record_16 : decode cX2_record 16 = .ok (.aload_n 0, 1) := by decide +kernel
theorem dX2_record_17 : decode cX2_record 17 = .ok (.getfield 18, 3) := by decide +kernel
theorem dX2_record_20 : decode cX2_record 20 = .ok (.aaload, 1) := by decide +kernel
theorem dX2_record_21 : decode cX2_record 21 = .ok (.aload_n 1, 1) := by decide +kernel
theorem dX2_record_22 : decode cX2_record 22 = .ok (.invokevirtual 25, 3) := by decide +kernel
theorem dX2_record_25 : decode cX2_record 25 = .ok (.aload_n 0, 1) := by decide +kernel
theorem dX2_record_26 : decode cX2_record 26 = .ok (.dup, 1) := by decide +kernel
theorem dX2_record_27 : decode cX2_record 27 = .ok (.getfield 18, 3) := by decide +kernel
theorem dX2_record_30 : decode cX2_record 30 = .ok (.iconst 1, 1) := by decide +kernel
theorem dX2_record_31 : decode cX2_record 31 = .ok (.iadd, 1) := by decide +kernel
theorem dX2_record_32 : decode cX2_record 32 = .ok (.putfield 18, 3) := by decide +kernel
theorem dX2_record_35 : decode cX2_record 35 = .ok (.return_, 1) := by decide +kernel
set_option maxRecDepth 20000 in
theorem ggX2_takeLatest_X1_copyFrom : GoodIn wsX2_takeLatest wsX1_copyFrom := goodIn_r _ [7, 8, 9, 10, 11, 12, 13, 14, 15, 16, 17, 18, 19, 20, 23, 24, 25, 26, 27, 28, 29, 30, 31] rfl (by decide +kernel)
set_option maxRecDepth 20000 in
theorem gX2_takeLatest_X1_copyFrom : GoodIn wsX2_takeLatest (wsV RX2 25 RX1 yX1_copyFrom wsX1_copyFrom) := goodIn_app (goodIn_of _ (by decide +kernel)) ggX2_takeLatest_X1_copyFrom
theorem dX2_takeLatest_0 : decode cX2_takeLatest 0 = .ok (.aload_n 0, 1) := by decide +kernel
theorem dX2_takeLatest_1 : decode cX2_takeLatest 1 = .ok (.getfield 18, 3) := by decide +kernel
theorem dX2_takeLatest_4 : decode cX2_takeLatest 4 = .ok (.ifCond .le 26, 3) := by decide +kernel
theorem dX2_takeLatest_7 : decode cX2_takeLatest 7 = .ok (.aload_n 0, 1) := by decide +kernel
theorem dX2_takeLatest_8 : decode cX2_takeLatest 8 = .ok (.dup, 1) := by decide +kernel
theorem dX2_takeLatest_9 : decode cX2_takeLatest 9 = .ok (.getfield 18, 3) := by decide +kernel
theorem dX2_takeLatest_12 : decode cX2_takeLatest 12 = .ok (.iconst 1, 1) := by decide +kernel
theorem dX2_takeLatest_13 : decode cX2_takeLatest 13 = .ok (.isub, 1) := by decide +kernel
theorem dX2_takeLatest_14 : decode cX2_takeLatest 14 = .ok (.putfield 18, 3) := by decide +kernel
theorem dX2_takeLatest_17 : decode cX2_takeLatest 17 = .ok (.aload_n 1, 1) := by decide +kernel
theorem dX2_takeLatest_18 : decode cX2_takeLatest 18 = .ok (.aload_n 0, 1) := by decide +kernel
theorem dX2_takeLatest_19 : decode cX2_takeLatest 19 = .ok (.getfield 11, 3) := by decide +kernel
theorem dX2_takeLatest_22 : decode cX2_takeLatest 22 = .ok (.aload_n 0, 1) := by decide +kernel
theorem dX2_takeLatest_23 : decode cX2_takeLatest 23 = .ok (.getfield 18, 3) := by decide +kernel
theorem dX2_takeLatest_26 : decode cX2_takeLatest 26 = .ok (.aaload, 1) := by decide +kernel
theorem dX2_takeLatest_27 : decode cX2_takeLatest 27 = .ok (.invokevirtual 25, 3) := by decide +kernel
theorem dX2_takeLatest_30 : decode cX2_takeLatest 30 = .ok (.return_, 1) := by decide +kernel
theorem dX2_dropOldest_0 : decode cX2_dropOldest 0 = .ok (.aload_n 0, 1) := by decide +kernel
theorem dX2_dropOldest_1 : decode cX2_dropOldest 1 = .ok (.getfield 11, 3) := by decide +kernel
theorem dX2_dropOldest_4 : decode cX2_dropOldest 4 = .ok (.iconst 0, 1) := by decide +kernel
theorem dX2_dropOldest_5 : decode cX2_dropOldest 5 = .ok (.aaload, 1) := by decide +kernel
theorem dX2_dropOldest_6 : decode cX2_dropOldest 6 = .ok (.astore_n 1, 1) := by decide +kernel
theorem dX2_dropOldest_7 : decode cX2_dropOldest 7 = .ok (.iconst 1, 1) := by decide +kernel
theorem dX2_dropOldest_8 : decode cX2_dropOldest 8 = .ok (.istore_n 2, 1) := by decide +kernel
theorem dX2_dropOldest_9 : decode cX2_dropOldest 9 = .ok (.iload_n 2, 1) := by decide +kernel
theorem dX2_dropOldest_10 : decode cX2_dropOldest 10 = .ok (.iconst 4, 1) := by decide +kernel
theorem dX2_dropOldest_11 : decode cX2_dropOldest 11 = .ok (.if_icmp .ge 23, 3) := by decide +kernel
theorem dX2_dropOldest_14 : decode cX2_dropOldest 14 = .ok (.aload_n 0, 1) := by decide +kernel
theorem dX2_dropOldest_15 : decode cX2_dropOldest 15 = .ok (.getfield 11, 3) := by decide +kernel
theorem dX2_dropOldest_18 : decode cX2_dropOldest 18 = .ok (.iload_n 2, 1) := by decide +kernel
theorem dX2_dropOldest_19 : decode cX2_dropOldest 19 = .ok (.iconst 1, 1) := by decide +kernel
theorem dX2_dropOldest_20 : decode cX2_dropOldest 20 = .ok (.isub, 1) := by decide +kernel
theorem dX2_dropOldest_21 : decode cX2_dropOldest 21 = .ok (.aload_n 0, 1) := by decide +kernel
theorem dX2_dropOldest_22 : decode cX2_dropOldest 22 = .ok (.getfield 11, 3) := by decide +kernel
theorem dX2_dropOldest_25 : decode cX2_dropOldest 25 = .ok (.iload_n 2, 1) := by decide +kernel
theorem dX2_dropOldest_26 : decode cX2_dropOldest 26 = .ok (.aaload, 1) := by decide +kernel
theorem dX2_dropOldest_27 : decode cX2_dropOldest 27 = .ok (.aastore, 1) := by decide +kernel
theorem dX2_dropOldest_28 : decode cX2_dropOldest 28 = .ok (.iinc 2 1, 3) := by decide +kernel
theorem dX2_dropOldest_31 : decode cX2_dropOldest 31 = .ok (.goto (-22), 3) := by decide +kernel
theorem dX2_dropOldest_34 : decode cX2_dropOldest 34 = .ok (.aload_n 0, 1) := by decide +kernel
theorem dX2_dropOldest_35 : decode cX2_dropOldest 35 = .ok (.getfield 11, 3) := by decide +kernel
theorem dX2_dropOldest_38 : decode cX2_dropOldest 38 = .ok (.iconst 3, 1) := by decide +kernel
theorem dX2_dropOldest_39 : decode cX2_dropOldest 39 = .ok (.aload_n 1, 1) := by decide +kernel
theorem dX2_dropOldest_40 : decode cX2_dropOldest 40 = .ok (.aastore, 1) := by decide +kernel
theorem dX2_dropOldest_41 : decode cX2_dropOldest 41 = .ok (.aload_n 0, 1) := by decide +kernel
theorem dX2_dropOldest_42 : decode cX2_dropOldest 42 = .ok (.dup, 1) := by decide +kernel
theorem dX2_dropOldest_43 : decode cX2_dropOldest 43 = .ok (.getfield 18, 3) := by decide +kernel
theorem dX2_dropOldest_46 : decode cX2_dropOldest 46 = .ok (.iconst 1, 1) := by decide +kernel
theorem dX2_dropOldest_47 : decode cX2_dropOldest 47 = .ok (.isub, 1) := by decide +kernel
theorem dX2_dropOldest_48 : decode cX2_dropOldest 48 = .ok (.putfield 18, 3) := by decide +kernel
theorem dX2_dropOldest_51 : decode cX2_dropOldest 51 = .ok (.return_, 1) := by decide +kernel
theorem dX3_init_0 : decode cX3_init 0 = .ok (.aload_n 0, 1) := by decide +kernel
theorem dX3_init_1 : decode cX3_init 1 = .ok (.invokespecial 3, 3) := by decide +kernel
theorem dX3_init_4 : decode cX3_init 4 = .ok (.aload_n 0, 1) := by decide +kernel
theorem dX3_init_5 : decode cX3_init 5 = .ok (.iconst 4, 1) := by decide +kernel
theorem dX3_init_6 : decode cX3_init 6 = .ok (.newarray .int, 2) := by decide +kernel
theorem dX3_init_8 : decode cX3_init 8 = .ok (.putfield 9, 3) := by decide +kernel
theorem dX3_init_11 : decode cX3_init 11 = .ok (.aload_n 0, 1) := by decide +kernel
theorem dX3_init_12 : decode cX3_init 12 = .ok (.bipush 60, 2) := by decide +kernel
theorem dX3_init_14 : decode cX3_init 14 = .ok (.newarray .char, 2) := by decide +kernel
theorem dX3_init_16 : decode cX3_init 16 = .ok (.putfield 15, 3) := by decide +kernel
theorem dX3_init_19 : decode cX3_init 19 = .ok (.return_, 1) := by decide +kernel
theorem dX3_append_0 : decode cX3_append 0 = .ok (.aload_n 0, 1) := by decide +kernel
theorem dX3_append_1 : decode cX3_append 1 = .ok (.getfield 19, 3) := by decide +kernel
theorem dX3_append_4 : decode cX3_append 4 = .ok (.bipush 60, 2) := by decide +kernel
theorem dX3_append_6 : decode cX3_append 6 = .ok (.if_icmp .ge 23, 3) := by decide +kernel
theorem dX3_append_9 : decode cX3_append 9 = .ok (.aload_n 0, 1) := by decide +kernel
theorem dX3_append_10 : decode cX3_append 10 = .ok (.getfield 15, 3) := by decide +kernel
theorem dX3_append_13 : decode cX3_append 13 = .ok (.aload_n 0, 1) := by decide +kernel
theorem dX3_append_14 : decode cX3_append 14 = .ok (.getfield 19, 3) := by decide +kernel
theorem dX3_append_17 : decode cX3_append 17 = .ok (.iload_n 1, 1) := by decide +kernel
theorem dX3_append_18 : decode cX3_append 18 = .ok (.castore, 1) := by decide +kernel
theorem dX3_append_19 : decode cX3_append 19 = .ok (.aload_n 0, 1) := by decide +kernel
theorem dX3_append_20 : decode cX3_append 20 = .ok (.dup, 1) := by decide +kernel
theorem dX3_append_21 : decode cX3_append 21 = .ok (.getfield 19, 3) := by decide +kernel
theorem dX3_append_24 : decode cX3_append 24 = .ok (.iconst 1, 1) := by decide +kernel
theorem dX3_append_25 : decode cX3_append 25 = .ok (.iadd, 1) := by decide +kernel
theorem dX3_append_26 : decode cX3_append 26 = .ok (.putfield 19, 3) := by decide +kernel
theorem dX3_append_29 : decode cX3_append 29 = .ok (.return_, 1) := by decide +kernel
set_option maxRecDepth 20000 in
theorem ggX3_countOrders_X3_readOrder : GoodIn wsX3_countOrders wsX3_readOrder := goodIn_r _ [7, 8, 9, 10, 11, 6, 12, 1, 2, 13, 14, 15, 16, 17, 18, 19, 20, 21, 22, 23, 24, 25, 26, 27, 28, 29, 30, 31, 32, 33, 34, 35, 36, 37, 38, 39, 40, 41, 42, 43, 44, 45, 46, 47, 48, 49, 50, 51, 52, 53] rfl (by decide +kernel)
set_option maxRecDepth 20000 in
theorem gX3_countOrders_X3_readOrder : GoodIn wsX3_countOrders (wsV RX3 26 RX3 yX3_readOrder wsX3_readOrder) := goodIn_app (goodIn_of _ (by decide +kernel)) ggX3_countOrders_X3_readOrder
set_option maxRecDepth 20000 in
theorem ggX3_countOrders_X3_readSign : GoodIn wsX3_countOrders wsX3_readSign := goodIn_r _ [12, 1, 2, 13, 46, 47, 48, 49, 50, 51, 52, 53] rfl (by decide +kernel)
set_option maxRecDepth 20000 in
theorem gX3_countOrders_X3_readSign : GoodIn wsX3_countOrders (wsV RX3 30 RX3 yX3_readSign wsX3_readSign) := goodIn_app (goodIn_of _ (by decide +kernel)) ggX3_countOrders_X3_readSign
theorem dX3_countOrders_0 : decode cX3_countOrders 0 = .ok (.aload_n 0, 1) := by decide +kernel
theorem dX3_countOrders_1 : decode cX3_countOrders 1 = .ok (.iconst 0, 1) := by decide +kernel
theorem dX3_countOrders_2 : decode cX3_countOrders 2 = .ok (.putfield 23, 3) := by decide +kernel
theorem dX3_countOrders_5 : decode cX3_countOrders 5 = .ok (.iconst 1, 1) := by decide +kernel
theorem dX3_countOrders_6 : decode cX3_countOrders 6 = .ok (.istore_n 1, 1) := by decide +kernel
theorem dX3_countOrders_7 : decode cX3_countOrders 7 = .ok (.iload_n 1, 1) := by decide +kernel
theorem dX3_countOrders_8 : decode cX3_countOrders 8 = .ok (.bipush 60, 2) := by decide +kernel
theorem dX3_countOrders_10 : decode cX3_countOrders 10 = .ok (.if_icmp .gt 42, 3) := by decide +kernel
theorem dX3_countOrders_13 : decode cX3_countOrders 13 = .ok (.aload_n 0, 1) := by decide +kernel
theorem dX3_countOrders_14 : decode cX3_countOrders 14 = .ok (.invokevirtual 26, 3) := by decide +kernel
theorem dX3_countOrders_17 : decode cX3_countOrders 17 = .ok (.ifCond .ne 5, 3) := by decide +kernel
theorem dX3_countOrders_20 : decode cX3_countOrders 20 = .ok (.iconst 0, 1) := by decide +kernel
theorem dX3_countOrders_21 : decode cX3_countOrders 21 = .ok (.ireturn, 1) := by decide +kernel
theorem dX3_countOrders_22 : decode cX3_countOrders 22 = .ok (.aload_n 0, 1) := by decide +kernel
theorem dX3_countOrders_23 : decode cX3_countOrders 23 = .ok (.getfield 23, 3) := by decide +kernel
theorem dX3_countOrders_26 : decode cX3_countOrders 26 = .ok (.aload_n 0, 1) := by decide +kernel
theorem dX3_countOrders_27 : decode cX3_countOrders 27 = .ok (.getfield 19, 3) := by decide +kernel
theorem dX3_countOrders_30 : decode cX3_countOrders 30 = .ok (.if_icmp .ne 5, 3) := by decide +kernel
theorem dX3_countOrders_33 : decode cX3_countOrders 33 = .ok (.iload_n 1, 1) := by decide +kernel
theorem dX3_countOrders_34 : decode cX3_countOrders 34 = .ok (.ireturn, 1) := by decide +kernel
theorem dX3_countOrders_35 : decode cX3_countOrders 35 = .ok (.aload_n 0, 1) := by decide +kernel
theorem dX3_countOrders_36 : decode cX3_countOrders 36 = .ok (.bipush 59, 2) := by decide +kernel
theorem dX3_countOrders_38 : decode cX3_countOrders 38 = .ok (.invokevirtual 30, 3) := by decide +kernel
theorem dX3_countOrders_41 : decode cX3_countOrders 41 = .ok (.ifCond .ne 5, 3) := by decide +kernel
theorem dX3_countOrders_44 : decode cX3_countOrders 44 = .ok (.iconst 0, 1) := by decide +kernel
theorem dX3_countOrders_45 : decode cX3_countOrders 45 = .ok (.ireturn, 1) := by decide +kernel
theorem dX3_countOrders_46 : decode cX3_countOrders 46 = .ok (.iinc 1 1, 3) := by decide +kernel
theorem dX3_countOrders_49 : decode cX3_countOrders 49 = .ok (.goto (-42), 3) := by decide +kernel
theorem dX3_countOrders_52 : decode cX3_countOrders 52 = .ok (.iconst 0, 1) := by decide +kernel
theorem dX3_countOrders_53 : decode cX3_countOrders 53 = .ok (.ireturn, 1) := by decide +kernel
set_option maxRecDepth 20000 in
theorem ggX3_readOrder_X3_readSign : GoodIn wsX3_readOrder wsX3_readSign := goodIn_r _ [6, 7, 8, 9, 42, 43, 44, 45, 46, 47, 48, 49] rfl (by decide +kernel)
set_option maxRecDepth 20000 in
theorem gX3_readOrder_X3_readSign : GoodIn wsX3_readOrder (wsV RX3 30 RX3 yX3_readSign wsX3_readSign) := goodIn_app (goodIn_of _ (by decide +kernel)) ggX3_readOrder_X3_readSign
set_option maxRecDepth 20000 in
theorem ggX3_readOrder_X3_readPlot : GoodIn wsX3_readOrder wsX3_readPlot := goodIn_r _ [13, 14, 15, 16, 17, 18, 19, 20, 21, 5, 22, 7, 8, 9, 42, 43, 44, 45, 46, 47, 48, 49] rfl (by decide +kernel)
set_option maxRecDepth 20000 in
theorem gX3_readOrder_X3_readPlot : GoodIn wsX3_readOrder (wsV RX3 37 RX3 yX3_readPlot wsX3_readPlot) := goodIn_app (goodIn_of _ (by decide +kernel)) ggX3_readOrder_X3_readPlot
set_option maxRecDepth 20000 in
theorem ggX3_readOrder_X3_readDigits : GoodIn wsX3_readOrder wsX3_readDigits := goodIn_r _ [26, 27, 19, 20, 21, 5, 22, 7, 8, 9, 42, 43, 44, 45, 46, 47, 48, 49] rfl (by decide +kernel)
set_option maxRecDepth 20000 in
theorem gX3_readOrder_X3_readDigits : GoodIn wsX3_readOrder (wsV RX3 40 RX3 yX3_readDigits wsX3_readDigits) := goodIn_app (goodIn_of _ (by decide +kernel)) ggX3_readOrder_X3_readDigits
set_option maxRecDepth 20000 in
theorem ggX3_readOrder_X3_readCousin : GoodIn wsX3_readOrder wsX3_readCousin := goodIn_r _ [31, 14, 19, 20, 21, 5, 22, 7, 8, 9, 42, 43, 44, 45, 46, 47, 48, 49] rfl (by decide +kernel)
set_option maxRecDepth 20000 in
theorem gX3_readOrder_X3_readCousin : GoodIn wsX3_readOrder (wsV RX3 44 RX3 yX3_readCousin wsX3_readCousin) := goodIn_app (goodIn_of _ (by decide +kernel)) ggX3_readOrder_X3_readCousin
set_option maxRecDepth 20000 in
theorem ggX3_readOrder_X3_readOther : GoodIn wsX3_readOrder wsX3_readOther := goodIn_r _ [35, 14, 36, 19, 20, 21, 5, 22, 7, 8, 9, 42, 43, 44, 45, 46, 47, 48, 49] rfl (by decide +kernel)
set_option maxRecDepth 20000 in
theorem gX3_readOrder_X3_readOther : GoodIn wsX3_readOrder (wsV RX3 47 RX3 yX3_readOther wsX3_readOther) := goodIn_app (goodIn_of _ (by decide +kernel)) ggX3_readOrder_X3_readOther
set_option maxRecDepth 20000 in
theorem ggX3_readOrder_X3_readParty : GoodIn wsX3_readOrder wsX3_readParty := goodIn_r _ [40, 41, 19, 20, 21, 5, 22, 7, 8, 9, 42, 43, 44, 45, 46, 47, 48, 49] rfl (by decide +kernel)
set_option maxRecDepth 20000 in
theorem gX3_readOrder_X3_readParty : GoodIn wsX3_readOrder (wsV RX3 50 RX3 yX3_readParty wsX3_readParty) := goodIn_app (goodIn_of _ (by decide +kernel)) ggX3_readOrder_X3_readParty
theorem dX3_readOrder_0 : decode cX3_readOrder 0 = .ok (.aload_n 0, 1) := by decide +kernel
theorem dX3_readOrder_1 : decode cX3_readOrder 1 = .ok (.bipush 112, 2) := by decide +kernel
theorem dX3_readOrder_3 : decode cX3_readOrder 3 = .ok (.invokevirtual 30, 3) := by decide +kernel
theorem dX3_readOrder_6 : decode cX3_readOrder 6 = .ok (.ifCond .eq 38, 3) := by decide +kernel
theorem dX3_readOrder_9 : decode cX3_readOrder 9 = .ok (.aload_n 0, 1) := by decide +kernel
theorem dX3_readOrder_10 : decode cX3_readOrder 10 = .ok (.iconst 0, 1) := by decide +kernel
theorem dX3_readOrder_11 : decode cX3_readOrder 11 = .ok (.putfield 34, 3) := by decide +kernel
theorem dX3_readOrder_14 : decode cX3_readOrder 14 = .ok (.aload_n 0, 1) := by decide +kernel
theorem dX3_readOrder_15 : decode cX3_readOrder 15 = .ok (.invokevirtual 37, 3) := by decide +kernel
theorem dX3_readOrder_18 : decode cX3_readOrder 18 = .ok (.ifCond .eq 24, 3) := by decide +kernel
theorem dX3_readOrder_21 : decode cX3_readOrder 21 = .ok (.aload_n 0, 1) := by decide +kernel
theorem dX3_readOrder_22 : decode cX3_readOrder 22 = .ok (.bipush 61, 2) := by decide +kernel
theorem dX3_readOrder_24 : decode cX3_readOrder 24 = .ok (.invokevirtual 30, 3) := by decide +kernel
theorem dX3_readOrder_27 : decode cX3_readOrder 27 = .ok (.ifCond .eq 15, 3) := by decide +kernel
theorem dX3_readOrder_30 : decode cX3_readOrder 30 = .ok (.aload_n 0, 1) := by decide +kernel
theorem dX3_readOrder_31 : decode cX3_readOrder 31 = .ok (.iconst 4, 1) := by decide +kernel
theorem dX3_readOrder_32 : decode cX3_readOrder 32 = .ok (.invokevirtual 40, 3) := by decide +kernel
theorem dX3_readOrder_35 : decode cX3_readOrder 35 = .ok (.ifCond .eq 7, 3) := by decide +kernel
theorem dX3_readOrder_38 : decode cX3_readOrder 38 = .ok (.iconst 1, 1) := by decide +kernel
theorem dX3_readOrder_39 : decode cX3_readOrder 39 = .ok (.goto 4, 3) := by decide +kernel
theorem dX3_readOrder_42 : decode cX3_readOrder 42 = .ok (.iconst 0, 1) := by decide +kernel
theorem dX3_readOrder_43 : decode cX3_readOrder 43 = .ok (.ireturn, 1) := by decide +kernel
theorem dX3_readOrder_44 : decode cX3_readOrder 44 = .ok (.aload_n 0, 1) := by decide +kernel
theorem dX3_readOrder_45 : decode cX3_readOrder 45 = .ok (.bipush 119, 2) := by decide +kernel
theorem dX3_readOrder_47 : decode cX3_readOrder 47 = .ok (.invokevirtual 30, 3) := by decide +kernel
theorem dX3_readOrder_50 : decode cX3_readOrder 50 = .ok (.ifCond .eq 38, 3) := by decide +kernel
theorem dX3_readOrder_53 : decode cX3_readOrder 53 = .ok (.aload_n 0, 1) := by decide +kernel
theorem dX3_readOrder_54 : decode cX3_readOrder 54 = .ok (.iconst 1, 1) := by decide +kernel
theorem dX3_readOrder_55 : decode cX3_readOrder 55 = .ok (.putfield 34, 3) := by decide +kernel
theorem dX3_readOrder_58 : decode cX3_readOrder 58 = .ok (.aload_n 0, 1) := by decide +kernel
theorem dX3_readOrder_59 : decode cX3_readOrder 59 = .ok (.invokevirtual 44, 3) := by decide +kernel
theorem dX3_readOrder_62 : decode cX3_readOrder 62 = .ok (.ifCond .eq 24, 3) := by decide +kernel
theorem dX3_readOrder_65 : decode cX3_readOrder 65 = .ok (.aload_n 0, 1) := by decide +kernel
theorem dX3_readOrder_66 : decode cX3_readOrder 66 = .ok (.bipush 61, 2) := by decide +kernel
theorem dX3_readOrder_68 : decode cX3_readOrder 68 = .ok (.invokevirtual 30, 3) := by decide +kernel
theorem dX3_readOrder_71 : decode cX3_readOrder 71 = .ok (.ifCond .eq 15, 3) := by decide +kernel
theorem dX3_readOrder_74 : decode cX3_readOrder 74 = .ok (.aload_n 0, 1) := by decide +kernel
theorem dX3_readOrder_75 : decode cX3_readOrder 75 = .ok (.iconst 4, 1) := by decide +kernel
theorem dX3_readOrder_76 : decode cX3_readOrder 76 = .ok (.invokevirtual 40, 3) := by decide +kernel
theorem dX3_readOrder_79 : decode cX3_readOrder 79 = .ok (.ifCond .eq 7, 3) := by decide +kernel
theorem dX3_readOrder_82 : decode cX3_readOrder 82 = .ok (.iconst 1, 1) := by decide +kernel
theorem dX3_readOrder_83 : decode cX3_readOrder 83 = .ok (.goto 4, 3) := by decide +kernel
theorem dX3_readOrder_86 : decode cX3_readOrder 86 = .ok (.iconst 0, 1) := by decide +kernel
theorem dX3_readOrder_87 : decode cX3_readOrder 87 = .ok (.ireturn, 1) := by decide +kernel
theorem dX3_readOrder_88 : decode cX3_readOrder 88 = .ok (.aload_n 0, 1) := by decide +kernel
theorem dX3_readOrder_89 : decode cX3_readOrder 89 = .ok (.bipush 103, 2) := by decide +kernel
theorem dX3_readOrder_91 : decode cX3_readOrder 91 = .ok (.invokevirtual 30, 3) := by decide +kernel
theorem dX3_readOrder_94 : decode cX3_readOrder 94 = .ok (.ifCond .eq 45, 3) := by decide +kernel
theorem dX3_readOrder_97 : decode cX3_readOrder 97 = .ok (.aload_n 0, 1) := by decide +kernel
theorem dX3_readOrder_98 : decode cX3_readOrder 98 = .ok (.iconst 2, 1) := by decide +kernel
theorem dX3_readOrder_99 : decode cX3_readOrder 99 = .ok (.putfield 34, 3) := by decide +kernel
theorem dX3_readOrder_102 : decode cX3_readOrder 102 = .ok (.aload_n 0, 1) := by decide +kernel
theorem dX3_readOrder_103 : decode cX3_readOrder 103 = .ok (.invokevirtual 44, 3) := by decide +kernel
theorem dX3_readOrder_106 : decode cX3_readOrder 106 = .ok (.ifCond .eq 31, 3) := by decide +kernel
theorem dX3_readOrder_109 : decode cX3_readOrder 109 = .ok (.aload_n 0, 1) := by decide +kernel
theorem dX3_readOrder_110 : decode cX3_readOrder 110 = .ok (.invokevirtual 47, 3) := by decide +kernel
theorem dX3_readOrder_113 : decode cX3_readOrder 113 = .ok (.ifCond .eq 24, 3) := by decide +kernel
theorem dX3_readOrder_116 : decode cX3_readOrder 116 = .ok (.aload_n 0, 1) := by decide +kernel
theorem dX3_readOrder_117 : decode cX3_readOrder 117 = .ok (.bipush 61, 2) := by decide +kernel
theorem dX3_readOrder_119 : decode cX3_readOrder 119 = .ok (.invokevirtual 30, 3) := by decide +kernel
theorem dX3_readOrder_122 : decode cX3_readOrder 122 = .ok (.ifCond .eq 15, 3) := by decide +kernel
theorem dX3_readOrder_125 : decode cX3_readOrder 125 = .ok (.aload_n 0, 1) := by decide +kernel
theorem dX3_readOrder_126 : decode cX3_readOrder 126 = .ok (.iconst 1, 1) := by decide +kernel
theorem dX3_readOrder_127 : decode cX3_readOrder 127 = .ok (.invokevirtual 40, 3) := by decide +kernel
theorem dX3_readOrder_130 : decode cX3_readOrder 130 = .ok (.ifCond .eq 7, 3) := by decide +kernel
theorem dX3_readOrder_133 : decode cX3_readOrder 133 = .ok (.iconst 1, 1) := by decide +kernel
theorem dX3_readOrder_134 : decode cX3_readOrder 134 = .ok (.goto 4, 3) := by decide +kernel
theorem dX3_readOrder_137 : decode cX3_readOrder 137 = .ok (.iconst 0, 1) := by decide +kernel
theorem dX3_readOrder_138 : decode cX3_readOrder 138 = .ok (.ireturn, 1) := by decide +kernel
theorem dX3_readOrder_139 : decode cX3_readOrder 139 = .ok (.aload_n 0, 1) := by decide +kernel
theorem dX3_readOrder_140 : decode cX3_readOrder 140 = .ok (.bipush 100, 2) := by decide +kernel
theorem dX3_readOrder_142 : decode cX3_readOrder 142 = .ok (.invokevirtual 30, 3) := by decide +kernel
theorem dX3_readOrder_145 : decode cX3_readOrder 145 = .ok (.ifCond .eq 13, 3) := by decide +kernel
theorem dX3_readOrder_148 : decode cX3_readOrder 148 = .ok (.aload_n 0, 1) := by decide +kernel
theorem dX3_readOrder_149 : decode cX3_readOrder 149 = .ok (.iconst 3, 1) := by decide +kernel
theorem dX3_readOrder_150 : decode cX3_readOrder 150 = .ok (.putfield 34, 3) := by decide +kernel
theorem dX3_readOrder_153 : decode cX3_readOrder 153 = .ok (.aload_n 0, 1) := by decide +kernel
theorem dX3_readOrder_154 : decode cX3_readOrder 154 = .ok (.invokevirtual 50, 3) := by decide +kernel
theorem dX3_readOrder_157 : decode cX3_readOrder 157 = .ok (.ireturn, 1) := by decide +kernel
theorem dX3_readOrder_158 : decode cX3_readOrder 158 = .ok (.iconst 0, 1) := by decide +kernel
theorem dX3_readOrder_159 : decode cX3_readOrder 159 = .ok (.ireturn, 1) := by decide +kernel
theorem dX3_readSign_0 : decode cX3_readSign 0 = .ok (.aload_n 0, 1) := by decide +kernel
theorem dX3_readSign_1 : decode cX3_readSign 1 = .ok (.getfield 23, 3) := by decide +kernel
theorem dX3_readSign_4 : decode cX3_readSign 4 = .ok (.aload_n 0, 1) := by decide +kernel
theorem dX3_readSign_5 : decode cX3_readSign 5 = .ok (.getfield 19, 3) := by decide +kernel
theorem dX3_readSign_8 : decode cX3_readSign 8 = .ok (.if_icmp .ge 28, 3) := by decide +kernel
theorem dX3_readSign_11 : decode cX3_readSign 11 = .ok (.aload_n 0, 1) := by decide +kernel
theorem dX3_readSign_12 : decode cX3_readSign 12 = .ok (.getfield 15, 3) := by decide +kernel
theorem dX3_readSign_15 : decode cX3_readSign 15 = .ok (.aload_n 0, 1) := by decide +kernel
theorem dX3_readSign_16 : decode cX3_readSign 16 = .ok (.getfield 23, 3) := by decide +kernel
theorem dX3_readSign_19 : decode cX3_readSign 19 = .ok (.caload, 1) := by decide +kernel
theorem dX3_readSign_20 : decode cX3_readSign 20 = .ok (.iload_n 1, 1) := by decide +kernel
theorem dX3_readSign_21 : decode cX3_readSign 21 = .ok (.if_icmp .ne 15, 3) := by decide +kernel
theorem dX3_readSign_24 : decode cX3_readSign 24 = .ok (.aload_n 0, 1) := by decide +kernel
theorem dX3_readSign_25 : decode cX3_readSign 25 = .ok (.dup, 1) := by decide +kernel
theorem dX3_readSign_26 : decode cX3_readSign 26 = .ok (.getfield 23, 3) := by decide +kernel
theorem dX3_readSign_29 : decode cX3_readSign 29 = .ok (.iconst 1, 1) := by decide +kernel
theorem dX3_readSign_30 : decode cX3_readSign 30 = .ok (.iadd, 1) := by decide +kernel
theorem dX3_readSign_31 : decode cX3_readSign 31 = .ok (.putfield 23, 3) := by decide +kernel
theorem dX3_readSign_34 : decode cX3_readSign 34 = .ok (.iconst 1, 1) := by decide +kernel
theorem dX3_readSign_35 : decode cX3_readSign 35 = .ok (.ireturn, 1) := by decide +kernel
theorem dX3_readSign_36 : decode cX3_readSign 36 = .ok (.iconst 0, 1) := by decide +kernel
theorem dX3_readSign_37 : decode cX3_readSign 37 = .ok (.ireturn, 1) := by decide +kernel
theorem dX3_readDigit_0 : decode cX3_readDigit 0 = .ok (.aload_n 0, 1) := by decide +kernel
theorem dX3_readDigit_1 : decode cX3_readDigit 1 = .ok (.getfield 23, 3) := by decide +kernel
theorem dX3_readDigit_4 : decode cX3_readDigit 4 = .ok (.aload_n 0, 1) := by decide +kernel
theorem dX3_readDigit_5 : decode cX3_readDigit 5 = .ok (.getfield 19, 3) := by decide +kernel
theorem dX3_readDigit_8 : decode cX3_readDigit 8 = .ok (.if_icmp .lt 5, 3) := by decide +kernel
theorem dX3_readDigit_11 : decode cX3_readDigit 11 = .ok (.iconst (-1), 1) := by decide +kernel
theorem dX3_readDigit_12 : decode cX3_readDigit 12 = .ok (.ireturn, 1) := by decide +kernel
theorem dX3_readDigit_13 : decode cX3_readDigit 13 = .ok (.aload_n 0, 1) := by decide +kernel
theorem dX3_readDigit_14 : decode cX3_readDigit 14 = .ok (.getfield 15, 3) := by decide +kernel
theorem dX3_readDigit_17 : decode cX3_readDigit 17 = .ok (.aload_n 0, 1) := by decide +kernel
theorem dX3_readDigit_18 : decode cX3_readDigit 18 = .ok (.getfield 23, 3) := by decide +kernel
theorem dX3_readDigit_21 : decode cX3_readDigit 21 = .ok (.caload, 1) := by decide +kernel
theorem dX3_readDigit_22 : decode cX3_readDigit 22 = .ok (.bipush 48, 2) := by decide +kernel
theorem dX3_readDigit_24 : decode cX3_readDigit 24 = .ok (.isub, 1) := by decide +kernel
theorem dX3_readDigit_25 : decode cX3_readDigit 25 = .ok (.istore_n 3, 1) := by decide +kernel
theorem dX3_readDigit_26 : decode cX3_readDigit 26 = .ok (.iload_n 3, 1) := by decide +kernel
theorem dX3_readDigit_27 : decode cX3_readDigit 27 = .ok (.iload_n 1, 1) := by decide +kernel
theorem dX3_readDigit_28 : decode cX3_readDigit 28 = .ok (.if_icmp .lt 8, 3) := by decide +kernel
theorem dX3_readDigit_31 : decode cX3_readDigit 31 = .ok (.iload_n 3, 1) := by decide +kernel
theorem dX3_readDigit_32 : decode cX3_readDigit 32 = .ok (.iload_n 2, 1) := by decide +kernel
theorem dX3_readDigit_33 : decode cX3_readDigit 33 = .ok (.if_icmp .le 5, 3) := by decide +kernel
theorem dX3_readDigit_36 : decode cX3_readDigit 36 = .ok (.iconst (-1), 1) := by decide +kernel
theorem dX3_readDigit_37 : decode cX3_readDigit 37 = .ok (.ireturn, 1) := by decide +kernel
theorem dX3_readDigit_38 : decode cX3_readDigit 38 = .ok (.aload_n 0, 1) := by decide +kernel
theorem dX3_readDigit_39 : decode cX3_readDigit 39 = .ok (.dup, 1) := by decide +kernel
theorem dX3_readDigit_40 : decode cX3_readDigit 40 = .ok (.getfield 23, 3) := by decide +kernel
theorem dX3_readDigit_43 : decode cX3_readDigit 43 = .ok (.iconst 1, 1) := by decide +kernel
theorem dX3_readDigit_44 : decode cX3_readDigit 44 = .ok (.iadd, 1) := by decide +kernel
theorem dX3_readDigit_45 : decode cX3_readDigit 45 = .ok (.putfield 23, 3) := by decide +kernel
theorem dX3_readDigit_48 : decode cX3_readDigit 48 = .ok (.iload_n 3, 1) := by decide +kernel
theorem dX3_readDigit_49 : decode cX3_readDigit 49 = .ok (.ireturn, 1) := by decide +kernel
set_option maxRecDepth 20000 in
theorem ggX3_readPlot_X3_readDigit : GoodIn wsX3_readPlot wsX3_readDigit := goodIn_r _ [10, 11, 12, 13, 14, 15, 16, 17, 18, 19, 20, 21] rfl (by decide +kernel)
set_option maxRecDepth 20000 in
theorem gX3_readPlot_X3_readDigit : GoodIn wsX3_readPlot (wsV RX3 53 RX3 yX3_readDigit wsX3_readDigit) := goodIn_app (goodIn_of _ (by decide +kernel)) ggX3_readPlot_X3_readDigit
theorem dX3_readPlot_0 : decode cX3_readPlot 0 = .ok (.aload_n 0, 1) := by decide +kernel
theorem dX3_readPlot_1 : decode cX3_readPlot 1 = .ok (.aload_n 0, 1) := by decide +kernel
theorem dX3_readPlot_2 : decode cX3_readPlot 2 = .ok (.iconst 0, 1) := by decide +kernel
theorem dX3_readPlot_3 : decode cX3_readPlot 3 = .ok (.bipush 9, 2) := by decide +kernel
theorem dX3_readPlot_5 : decode cX3_readPlot 5 = .ok (.invokevirtual 53, 3) := by decide +kernel
theorem dX3_readPlot_8 : decode cX3_readPlot 8 = .ok (.putfield 57, 3) := by decide +kernel
theorem dX3_readPlot_11 : decode cX3_readPlot 11 = .ok (.aload_n 0, 1) := by decide +kernel
theorem dX3_readPlot_12 : decode cX3_readPlot 12 = .ok (.getfield 57, 3) := by decide +kernel
theorem dX3_readPlot_15 : decode cX3_readPlot 15 = .ok (.ifCond .le 41, 3) := by decide +kernel
theorem dX3_readPlot_18 : decode cX3_readPlot 18 = .ok (.aload_n 0, 1) := by decide +kernel
theorem dX3_readPlot_19 : decode cX3_readPlot 19 = .ok (.iconst 0, 1) := by decide +kernel
theorem dX3_readPlot_20 : decode cX3_readPlot 20 = .ok (.bipush 9, 2) := by decide +kernel
theorem dX3_readPlot_22 : decode cX3_readPlot 22 = .ok (.bipush 23, 2) := by decide +kernel
theorem dX3_readPlot_24 : decode cX3_readPlot 24 = .ok (.bipush 10, 2) := by decide +kernel
theorem dX3_readPlot_26 : decode cX3_readPlot 26 = .ok (.aload_n 0, 1) := by decide +kernel
theorem dX3_readPlot_27 : decode cX3_readPlot 27 = .ok (.getfield 57, 3) := by decide +kernel
theorem dX3_readPlot_30 : decode cX3_readPlot 30 = .ok (.imul, 1) := by decide +kernel
theorem dX3_readPlot_31 : decode cX3_readPlot 31 = .ok (.isub, 1) := by decide +kernel
theorem dX3_readPlot_32 : decode cX3_readPlot 32 = .ok (.invokestatic 60, 3) := by decide +kernel
theorem dX3_readPlot_35 : decode cX3_readPlot 35 = .ok (.invokevirtual 53, 3) := by decide +kernel
theorem dX3_readPlot_38 : decode cX3_readPlot 38 = .ok (.istore_n 1, 1) := by decide +kernel
theorem dX3_readPlot_39 : decode cX3_readPlot 39 = .ok (.iload_n 1, 1) := by decide +kernel
theorem dX3_readPlot_40 : decode cX3_readPlot 40 = .ok (.ifCond .lt 16, 3) := by decide +kernel
theorem dX3_readPlot_43 : decode cX3_readPlot 43 = .ok (.aload_n 0, 1) := by decide +kernel
theorem dX3_readPlot_44 : decode cX3_readPlot 44 = .ok (.bipush 10, 2) := by decide +kernel
theorem dX3_readPlot_46 : decode cX3_readPlot 46 = .ok (.aload_n 0, 1) := by decide +kernel
theorem dX3_readPlot_47 : decode cX3_readPlot 47 = .ok (.getfield 57, 3) := by decide +kernel
theorem dX3_readPlot_50 : decode cX3_readPlot 50 = .ok (.imul, 1) := by decide +kernel
theorem dX3_readPlot_51 : decode cX3_readPlot 51 = .ok (.iload_n 1, 1) := by decide +kernel
theorem dX3_readPlot_52 : decode cX3_readPlot 52 = .ok (.iadd, 1) := by decide +kernel
theorem dX3_readPlot_53 : decode cX3_readPlot 53 = .ok (.putfield 57, 3) := by decide +kernel
theorem dX3_readPlot_56 : decode cX3_readPlot 56 = .ok (.aload_n 0, 1) := by decide +kernel
theorem dX3_readPlot_57 : decode cX3_readPlot 57 = .ok (.getfield 57, 3) := by decide +kernel
theorem dX3_readPlot_60 : decode cX3_readPlot 60 = .ok (.ifCond .lt 7, 3) := by decide +kernel
theorem dX3_readPlot_63 : decode cX3_readPlot 63 = .ok (.iconst 1, 1) := by decide +kernel
theorem dX3_readPlot_64 : decode cX3_readPlot 64 = .ok (.goto 4, 3) := by decide +kernel
theorem dX3_readPlot_67 : decode cX3_readPlot 67 = .ok (.iconst 0, 1) := by decide +kernel
theorem dX3_readPlot_68 : decode cX3_readPlot 68 = .ok (.ireturn, 1) := by decide +kernel
set_option maxRecDepth 20000 in
theorem ggX3_readCousin_X3_readDigit : GoodIn wsX3_readCousin wsX3_readDigit := goodIn_r _ [6, 7, 8, 9, 10, 11, 12, 13, 14, 15, 16, 17] rfl (by decide +kernel)
set_option maxRecDepth 20000 in
theorem gX3_readCousin_X3_readDigit : GoodIn wsX3_readCousin (wsV RX3 53 RX3 yX3_readDigit wsX3_readDigit) := goodIn_app (goodIn_of _ (by decide +kernel)) ggX3_readCousin_X3_readDigit
theorem dX3_readCousin_0 : decode cX3_readCousin 0 = .ok (.aload_n 0, 1) := by decide +kernel
theorem dX3_readCousin_1 : decode cX3_readCousin 1 = .ok (.aload_n 0, 1) := by decide +kernel
theorem dX3_readCousin_2 : decode cX3_readCousin 2 = .ok (.iconst 0, 1) := by decide +kernel
theorem dX3_readCousin_3 : decode cX3_readCousin 3 = .ok (.bipush 6, 2) := by decide +kernel
theorem dX3_readCousin_5 : decode cX3_readCousin 5 = .ok (.invokevirtual 53, 3) := by decide +kernel
theorem dX3_readCousin_8 : decode cX3_readCousin 8 = .ok (.putfield 57, 3) := by decide +kernel
theorem dX3_readCousin_11 : decode cX3_readCousin 11 = .ok (.aload_n 0, 1) := by decide +kernel
theorem dX3_readCousin_12 : decode cX3_readCousin 12 = .ok (.getfield 57, 3) := by decide +kernel
theorem dX3_readCousin_15 : decode cX3_readCousin 15 = .ok (.ifCond .lt 7, 3) := by decide +kernel
theorem dX3_readCousin_18 : decode cX3_readCousin 18 = .ok (.iconst 1, 1) := by decide +kernel
theorem dX3_readCousin_19 : decode cX3_readCousin 19 = .ok (.goto 4, 3) := by decide +kernel
theorem dX3_readCousin_22 : decode cX3_readCousin 22 = .ok (.iconst 0, 1) := by decide +kernel
theorem dX3_readCousin_23 : decode cX3_readCousin 23 = .ok (.ireturn, 1) := by decide +kernel
set_option maxRecDepth 20000 in
theorem ggX3_readOther_X3_readDigit : GoodIn wsX3_readOther wsX3_readDigit := goodIn_r _ [7, 8, 9, 10, 11, 12, 13, 14, 15, 16, 17, 18] rfl (by decide +kernel)
set_option maxRecDepth 20000 in
theorem gX3_readOther_X3_readDigit : GoodIn wsX3_readOther (wsV RX3 53 RX3 yX3_readDigit wsX3_readDigit) := goodIn_app (goodIn_of _ (by decide +kernel)) ggX3_readOther_X3_readDigit
theorem dX3_readOther_0 : decode cX3_readOther 0 = .ok (.aload_n 0, 1) := by decide +kernel
theorem dX3_readOther_1 : decode cX3_readOther 1 = .ok (.aload_n 0, 1) := by decide +kernel
theorem dX3_readOther_2 : decode cX3_readOther 2 = .ok (.iconst 0, 1) := by decide +kernel
theorem dX3_readOther_3 : decode cX3_readOther 3 = .ok (.aload_n 0, 1) := by decide +kernel
theorem dX3_readOther_4 : decode cX3_readOther 4 = .ok (.getfield 57, 3) := by decide +kernel
theorem dX3_readOther_7 : decode cX3_readOther 7 = .ok (.iconst 1, 1) := by decide +kernel
theorem dX3_readOther_8 : decode cX3_readOther 8 = .ok (.isub, 1) := by decide +kernel
theorem dX3_readOther_9 : decode cX3_readOther 9 = .ok (.invokevirtual 53, 3) := by decide +kernel
theorem dX3_readOther_12 : decode cX3_readOther 12 = .ok (.putfield 65, 3) := by decide +kernel
theorem dX3_readOther_15 : decode cX3_readOther 15 = .ok (.aload_n 0, 1) := by decide +kernel
theorem dX3_readOther_16 : decode cX3_readOther 16 = .ok (.getfield 65, 3) := by decide +kernel
theorem dX3_readOther_19 : decode cX3_readOther 19 = .ok (.ifCond .ge 19, 3) := by decide +kernel
theorem dX3_readOther_22 : decode cX3_readOther 22 = .ok (.aload_n 0, 1) := by decide +kernel
theorem dX3_readOther_23 : decode cX3_readOther 23 = .ok (.aload_n 0, 1) := by decide +kernel
theorem dX3_readOther_24 : decode cX3_readOther 24 = .ok (.aload_n 0, 1) := by decide +kernel
theorem dX3_readOther_25 : decode cX3_readOther 25 = .ok (.getfield 57, 3) := by decide +kernel
theorem dX3_readOther_28 : decode cX3_readOther 28 = .ok (.iconst 1, 1) := by decide +kernel
theorem dX3_readOther_29 : decode cX3_readOther 29 = .ok (.iadd, 1) := by decide +kernel
theorem dX3_readOther_30 : decode cX3_readOther 30 = .ok (.bipush 6, 2) := by decide +kernel
theorem dX3_readOther_32 : decode cX3_readOther 32 = .ok (.invokevirtual 53, 3) := by decide +kernel
theorem dX3_readOther_35 : decode cX3_readOther 35 = .ok (.putfield 65, 3) := by decide +kernel
theorem dX3_readOther_38 : decode cX3_readOther 38 = .ok (.aload_n 0, 1) := by decide +kernel
theorem dX3_readOther_39 : decode cX3_readOther 39 = .ok (.getfield 65, 3) := by decide +kernel
theorem dX3_readOther_42 : decode cX3_readOther 42 = .ok (.ifCond .lt 7, 3) := by decide +kernel
theorem dX3_readOther_45 : decode cX3_readOther 45 = .ok (.iconst 1, 1) := by decide +kernel
theorem dX3_readOther_46 : decode cX3_readOther 46 = .ok (.goto 4, 3) := by decide +kernel
theorem dX3_readOther_49 : decode cX3_readOther 49 = .ok (.iconst 0, 1) := by decide +kernel
theorem dX3_readOther_50 : decode cX3_readOther 50 = .ok (.ireturn, 1) := by decide +kernel
set_option maxRecDepth 20000 in
theorem ggX3_readDigits_X3_readDigit : GoodIn wsX3_readDigits wsX3_readDigit := goodIn_r _ [6, 7, 8, 9, 10, 11, 12, 13, 14, 15, 16, 17] rfl (by decide +kernel)
set_option maxRecDepth 20000 in
theorem gX3_readDigits_X3_readDigit : GoodIn wsX3_readDigits (wsV RX3 53 RX3 yX3_readDigit wsX3_readDigit) := goodIn_app (goodIn_of _ (by decide +kernel)) ggX3_readDigits_X3_readDigit
theorem dX3_readDigits_0 : decode cX3_readDigits 0 = .ok (.iconst 0, 1) := by decide +kernel
theorem dX3_readDigits_1 : decode cX3_readDigits 1 = .ok (.istore_n 2, 1) := by decide +kernel
theorem dX3_readDigits_2 : decode cX3_readDigits 2 = .ok (.iload_n 2, 1) := by decide +kernel
theorem dX3_readDigits_3 : decode cX3_readDigits 3 = .ok (.iload_n 1, 1) := by decide +kernel
theorem dX3_readDigits_4 : decode cX3_readDigits 4 = .ok (.if_icmp .ge 35, 3) := by decide +kernel
theorem dX3_readDigits_7 : decode cX3_readDigits 7 = .ok (.iload_n 2, 1) := by decide +kernel
theorem dX3_readDigits_8 : decode cX3_readDigits 8 = .ok (.iconst 4, 1) := by decide +kernel
theorem dX3_readDigits_9 : decode cX3_readDigits 9 = .ok (.if_icmp .ge 30, 3) := by decide +kernel
theorem dX3_readDigits_12 : decode cX3_readDigits 12 = .ok (.aload_n 0, 1) := by decide +kernel
theorem dX3_readDigits_13 : decode cX3_readDigits 13 = .ok (.iconst 0, 1) := by decide +kernel
theorem dX3_readDigits_14 : decode cX3_readDigits 14 = .ok (.bipush 9, 2) := by decide +kernel
theorem dX3_readDigits_16 : decode cX3_readDigits 16 = .ok (.invokevirtual 53, 3) := by decide +kernel
theorem dX3_readDigits_19 : decode cX3_readDigits 19 = .ok (.istore_n 3, 1) := by decide +kernel
theorem dX3_readDigits_20 : decode cX3_readDigits 20 = .ok (.iload_n 3, 1) := by decide +kernel
theorem dX3_readDigits_21 : decode cX3_readDigits 21 = .ok (.ifCond .ge 5, 3) := by decide +kernel
theorem dX3_readDigits_24 : decode cX3_readDigits 24 = .ok (.iconst 0, 1) := by decide +kernel
theorem dX3_readDigits_25 : decode cX3_readDigits 25 = .ok (.ireturn, 1) := by decide +kernel
theorem dX3_readDigits_26 : decode cX3_readDigits 26 = .ok (.aload_n 0, 1) := by decide +kernel
theorem dX3_readDigits_27 : decode cX3_readDigits 27 = .ok (.getfield 9, 3) := by decide +kernel
theorem dX3_readDigits_30 : decode cX3_readDigits 30 = .ok (.iload_n 2, 1) := by decide +kernel
theorem dX3_readDigits_31 : decode cX3_readDigits 31 = .ok (.iload_n 3, 1) := by decide +kernel
theorem dX3_readDigits_32 : decode cX3_readDigits 32 = .ok (.iastore, 1) := by decide +kernel
theorem dX3_readDigits_33 : decode cX3_readDigits 33 = .ok (.iinc 2 1, 3) := by decide +kernel
theorem dX3_readDigits_36 : decode cX3_readDigits 36 = .ok (.goto (-34), 3) := by decide +kernel
theorem dX3_readDigits_39 : decode cX3_readDigits 39 = .ok (.iconst 1, 1) := by decide +kernel
theorem dX3_readDigits_40 : decode cX3_readDigits 40 = .ok (.ireturn, 1) := by decide +kernel
set_option maxRecDepth 20000 in
theorem ggX3_readParty_X3_readDigit : GoodIn wsX3_readParty wsX3_readDigit := goodIn_r _ [6, 7, 8, 9, 10, 11, 12, 13, 14, 15, 16, 17] rfl (by decide +kernel)
set_option maxRecDepth 20000 in
theorem gX3_readParty_X3_readDigit : GoodIn wsX3_readParty (wsV RX3 53 RX3 yX3_readDigit wsX3_readDigit) := goodIn_app (goodIn_of _ (by decide +kernel)) ggX3_readParty_X3_readDigit
theorem dX3_readParty_0 : decode cX3_readParty 0 = .ok (.aload_n 0, 1) := by decide +kernel
theorem dX3_readParty_1 : decode cX3_readParty 1 = .ok (.iconst 0, 1) := by decide +kernel
theorem dX3_readParty_2 : decode cX3_readParty 2 = .ok (.putfield 68, 3) := by decide +kernel
theorem dX3_readParty_5 : decode cX3_readParty 5 = .ok (.iconst 0, 1) := by decide +kernel
theorem dX3_readParty_6 : decode cX3_readParty 6 = .ok (.istore_n 1, 1) := by decide +kernel
theorem dX3_readParty_7 : decode cX3_readParty 7 = .ok (.iconst 0, 1) := by decide +kernel
theorem dX3_readParty_8 : decode cX3_readParty 8 = .ok (.istore_n 2, 1) := by decide +kernel
theorem dX3_readParty_9 : decode cX3_readParty 9 = .ok (.iload_n 2, 1) := by decide +kernel
theorem dX3_readParty_10 : decode cX3_readParty 10 = .ok (.bipush 7, 2) := by decide +kernel
theorem dX3_readParty_12 : decode cX3_readParty 12 = .ok (.if_icmp .ge 40, 3) := by decide +kernel
theorem dX3_readParty_15 : decode cX3_readParty 15 = .ok (.aload_n 0, 1) := by decide +kernel
theorem dX3_readParty_16 : decode cX3_readParty 16 = .ok (.iload_n 1, 1) := by decide +kernel
theorem dX3_readParty_17 : decode cX3_readParty 17 = .ok (.bipush 6, 2) := by decide +kernel
theorem dX3_readParty_19 : decode cX3_readParty 19 = .ok (.invokevirtual 53, 3) := by decide +kernel
theorem dX3_readParty_22 : decode cX3_readParty 22 = .ok (.istore_n 3, 1) := by decide +kernel
theorem dX3_readParty_23 : decode cX3_readParty 23 = .ok (.iload_n 3, 1) := by decide +kernel
theorem dX3_readParty_24 : decode cX3_readParty 24 = .ok (.ifCond .ge 6, 3) := by decide +kernel
theorem dX3_readParty_27 : decode cX3_readParty 27 = .ok (.goto 25, 3) := by decide +kernel
theorem dX3_readParty_30 : decode cX3_readParty 30 = .ok (.aload_n 0, 1) := by decide +kernel
theorem dX3_readParty_31 : decode cX3_readParty 31 = .ok (.dup, 1) := by decide +kernel
theorem dX3_readParty_32 : decode cX3_readParty 32 = .ok (.getfield 68, 3) := by decide +kernel
theorem dX3_readParty_35 : decode cX3_readParty 35 = .ok (.iconst 1, 1) := by decide +kernel
theorem dX3_readParty_36 : decode cX3_readParty 36 = .ok (.iload_n 3, 1) := by decide +kernel
theorem dX3_readParty_37 : decode cX3_readParty 37 = .ok (.ishl, 1) := by decide +kernel
theorem dX3_readParty_38 : decode cX3_readParty 38 = .ok (.ior, 1) := by decide +kernel
theorem dX3_readParty_39 : decode cX3_readParty 39 = .ok (.putfield 68, 3) := by decide +kernel
theorem dX3_readParty_42 : decode cX3_readParty 42 = .ok (.iload_n 3, 1) := by decide +kernel
theorem dX3_readParty_43 : decode cX3_readParty 43 = .ok (.iconst 1, 1) := by decide +kernel
theorem dX3_readParty_44 : decode cX3_readParty 44 = .ok (.iadd, 1) := by decide +kernel
theorem dX3_readParty_45 : decode cX3_readParty 45 = .ok (.istore_n 1, 1) := by decide +kernel
theorem dX3_readParty_46 : decode cX3_readParty 46 = .ok (.iinc 2 1, 3) := by decide +kernel
theorem dX3_readParty_49 : decode cX3_readParty 49 = .ok (.goto (-40), 3) := by decide +kernel
theorem dX3_readParty_52 : decode cX3_readParty 52 = .ok (.aload_n 0, 1) := by decide +kernel
theorem dX3_readParty_53 : decode cX3_readParty 53 = .ok (.getfield 68, 3) := by decide +kernel
theorem dX3_readParty_56 : decode cX3_readParty 56 = .ok (.ifCond .eq 7, 3) := by decide +kernel
theorem dX3_readParty_59 : decode cX3_readParty 59 = .ok (.iconst 1, 1) := by decide +kernel
theorem dX3_readParty_60 : decode cX3_readParty 60 = .ok (.goto 4, 3) := by decide +kernel
theorem dX3_readParty_63 : decode cX3_readParty 63 = .ok (.iconst 0, 1) := by decide +kernel
theorem dX3_readParty_64 : decode cX3_readParty 64 = .ok (.ireturn, 1) := by decide +kernel
theorem dX4_init_0 : decode cX4_init 0 = .ok (.aload_n 0, 1) := by decide +kernel
theorem dX4_init_1 : decode cX4_init 1 = .ok (.invokespecial 3, 3) := by decide +kernel
theorem dX4_init_4 : decode cX4_init 4 = .ok (.aload_n 0, 1) := by decide +kernel
theorem dX4_init_5 : decode cX4_init 5 = .ok (.bipush 49, 2) := by decide +kernel
theorem dX4_init_7 : decode cX4_init 7 = .ok (.newarray .int, 2) := by decide +kernel
theorem dX4_init_9 : decode cX4_init 9 = .ok (.putfield 9, 3) := by decide +kernel
theorem dX4_init_12 : decode cX4_init 12 = .ok (.aload_n 0, 1) := by decide +kernel
theorem dX4_init_13 : decode cX4_init 13 = .ok (.aload_n 1, 1) := by decide +kernel
theorem dX4_init_14 : decode cX4_init 14 = .ok (.putfield 15, 3) := by decide +kernel
theorem dX4_init_17 : decode cX4_init 17 = .ok (.return_, 1) := by decide +kernel
set_option maxRecDepth 20000 in
theorem ggX4_measure_X5_isCousin : GoodIn wsX4_measure wsX5_isCousin := goodIn_r _ [5] rfl (by decide +kernel)
set_option maxRecDepth 20000 in
theorem gX4_measure_X5_isCousin_n19 : GoodIn wsX4_measure (wsX5_isCousin) := ggX4_measure_X5_isCousin
set_option maxRecDepth 20000 in
theorem ggX4_measure_X1_worthOf : GoodIn wsX4_measure wsX1_worthOf := goodIn_r _ [10, 11, 17, 18, 19, 20, 21, 22, 23, 24, 25] rfl (by decide +kernel)
set_option maxRecDepth 20000 in
theorem gX4_measure_X1_worthOf : GoodIn wsX4_measure (wsV RX4 23 RX1 yX1_worthOf wsX1_worthOf) := goodIn_app (goodIn_of _ (by decide +kernel)) ggX4_measure_X1_worthOf
theorem dX4_measure_0 : decode cX4_measure 0 = .ok (.iconst 0, 1) := by decide +kernel
theorem dX4_measure_1 : decode cX4_measure 1 = .ok (.istore_n 2, 1) := by decide +kernel
theorem dX4_measure_2 : decode cX4_measure 2 = .ok (.iload_n 2, 1) := by decide +kernel
theorem dX4_measure_3 : decode cX4_measure 3 = .ok (.bipush 49, 2) := by decide +kernel
theorem dX4_measure_5 : decode cX4_measure 5 = .ok (.if_icmp .ge 16, 3) := by decide +kernel
theorem dX4_measure_8 : decode cX4_measure 8 = .ok (.aload_n 0, 1) := by decide +kernel
theorem dX4_measure_9 : decode cX4_measure 9 = .ok (.getfield 9, 3) := by decide +kernel
theorem dX4_measure_12 : decode cX4_measure 12 = .ok (.iload_n 2, 1) := by decide +kernel
theorem dX4_measure_13 : decode cX4_measure 13 = .ok (.iconst 0, 1) := by decide +kernel
theorem dX4_measure_14 : decode cX4_measure 14 = .ok (.iastore, 1) := by decide +kernel
theorem dX4_measure_15 : decode cX4_measure 15 = .ok (.iinc 2 1, 3) := by decide +kernel
theorem dX4_measure_18 : decode cX4_measure 18 = .ok (.goto (-16), 3) := by decide +kernel
theorem dX4_measure_21 : decode cX4_measure 21 = .ok (.iconst 0, 1) := by decide +kernel
theorem dX4_measure_22 : decode cX4_measure 22 = .ok (.istore_n 2, 1) := by decide +kernel
theorem dX4_measure_23 : decode cX4_measure 23 = .ok (.iload_n 2, 1) := by decide +kernel
theorem dX4_measure_24 : decode cX4_measure 24 = .ok (.bipush 24, 2) := by decide +kernel
theorem dX4_measure_26 : decode cX4_measure 26 = .ok (.if_icmp .ge 61, 3) := by decide +kernel
theorem dX4_measure_29 : decode cX4_measure 29 = .ok (.aload_n 1, 1) := by decide +kernel
theorem dX4_measure_30 : decode cX4_measure 30 = .ok (.iload_n 2, 1) := by decide +kernel
theorem dX4_measure_31 : decode cX4_measure 31 = .ok (.iaload, 1) := by decide +kernel
theorem dX4_measure_32 : decode cX4_measure 32 = .ok (.istore_n 3, 1) := by decide +kernel
theorem dX4_measure_33 : decode cX4_measure 33 = .ok (.iload_n 3, 1) := by decide +kernel
theorem dX4_measure_34 : decode cX4_measure 34 = .ok (.invokestatic 19, 3) := by decide +kernel
theorem dX4_measure_37 : decode cX4_measure 37 = .ok (.ifCond .eq 44, 3) := by decide +kernel
theorem dX4_measure_40 : decode cX4_measure 40 = .ok (.iconst 0, 1) := by decide +kernel
theorem dX4_measure_41 : decode cX4_measure 41 = .ok (.istore 4, 2) := by decide +kernel
theorem dX4_measure_43 : decode cX4_measure 43 = .ok (.iload 4, 2) := by decide +kernel
theorem dX4_measure_45 : decode cX4_measure 45 = .ok (.bipush 7, 2) := by decide +kernel
theorem dX4_measure_47 : decode cX4_measure 47 = .ok (.if_icmp .ge 34, 3) := by decide +kernel
theorem dX4_measure_50 : decode cX4_measure 50 = .ok (.aload_n 0, 1) := by decide +kernel
theorem dX4_measure_51 : decode cX4_measure 51 = .ok (.getfield 9, 3) := by decide +kernel
theorem dX4_measure_54 : decode cX4_measure 54 = .ok (.iload 4, 2) := by decide +kernel
theorem dX4_measure_56 : decode cX4_measure 56 = .ok (.bipush 7, 2) := by decide +kernel
theorem dX4_measure_58 : decode cX4_measure 58 = .ok (.imul, 1) := by decide +kernel
theorem dX4_measure_59 : decode cX4_measure 59 = .ok (.iload_n 3, 1) := by decide +kernel
theorem dX4_measure_60 : decode cX4_measure 60 = .ok (.iadd, 1) := by decide +kernel
theorem dX4_measure_61 : decode cX4_measure 61 = .ok (.dup2, 1) := by decide +kernel
theorem dX4_measure_62 : decode cX4_measure 62 = .ok (.iaload, 1) := by decide +kernel
theorem dX4_measure_63 : decode cX4_measure 63 = .ok (.aload_n 0, 1) := by decide +kernel
theorem dX4_measure_64 : decode cX4_measure 64 = .ok (.getfield 15, 3) := by decide +kernel
theorem dX4_measure_67 : decode cX4_measure 67 = .ok (.iload_n 2, 1) := by decide +kernel
theorem dX4_measure_68 : decode cX4_measure 68 = .ok (.iload 4, 2) := by decide +kernel
theorem dX4_measure_70 : decode cX4_measure 70 = .ok (.invokevirtual 23, 3) := by decide +kernel
theorem dX4_measure_73 : decode cX4_measure 73 = .ok (.iadd, 1) := by decide +kernel
theorem dX4_measure_74 : decode cX4_measure 74 = .ok (.iastore, 1) := by decide +kernel
theorem dX4_measure_75 : decode cX4_measure 75 = .ok (.iinc 4 1, 3) := by decide +kernel
theorem dX4_measure_78 : decode cX4_measure 78 = .ok (.goto (-35), 3) := by decide +kernel
theorem dX4_measure_81 : decode cX4_measure 81 = .ok (.iinc 2 1, 3) := by decide +kernel
theorem dX4_measure_84 : decode cX4_measure 84 = .ok (.goto (-61), 3) := by decide +kernel
theorem dX4_measure_87 : decode cX4_measure 87 = .ok (.return_, 1) := by decide +kernel
theorem dX4_exchange_0 : decode cX4_exchange 0 = .ok (.iconst 0, 1) := by decide +kernel
theorem dX4_exchange_1 : decode cX4_exchange 1 = .ok (.istore_n 3, 1) := by decide +kernel
theorem dX4_exchange_2 : decode cX4_exchange 2 = .ok (.iload_n 3, 1) := by decide +kernel
theorem dX4_exchange_3 : decode cX4_exchange 3 = .ok (.bipush 49, 2) := by decide +kernel
theorem dX4_exchange_5 : decode cX4_exchange 5 = .ok (.if_icmp .ge 45, 3) := by decide +kernel
theorem dX4_exchange_8 : decode cX4_exchange 8 = .ok (.aload_n 0, 1) := by decide +kernel
theorem dX4_exchange_9 : decode cX4_exchange 9 = .ok (.getfield 9, 3) := by decide +kernel
theorem dX4_exchange_12 : decode cX4_exchange 12 = .ok (.iload_n 3, 1) := by decide +kernel
theorem dX4_exchange_13 : decode cX4_exchange 13 = .ok (.iload_n 1, 1) := by decide +kernel
theorem dX4_exchange_14 : decode cX4_exchange 14 = .ok (.iadd, 1) := by decide +kernel
theorem dX4_exchange_15 : decode cX4_exchange 15 = .ok (.iaload, 1) := by decide +kernel
theorem dX4_exchange_16 : decode cX4_exchange 16 = .ok (.istore 4, 2) := by decide +kernel
theorem dX4_exchange_18 : decode cX4_exchange 18 = .ok (.aload_n 0, 1) := by decide +kernel
theorem dX4_exchange_19 : decode cX4_exchange 19 = .ok (.getfield 9, 3) := by decide +kernel
theorem dX4_exchange_22 : decode cX4_exchange 22 = .ok (.iload_n 3, 1) := by decide +kernel
theorem dX4_exchange_23 : decode cX4_exchange 23 = .ok (.iload_n 1, 1) := by decide +kernel
theorem dX4_exchange_24 : decode cX4_exchange 24 = .ok (.iadd, 1) := by decide +kernel
theorem dX4_exchange_25 : decode cX4_exchange 25 = .ok (.aload_n 0, 1) := by decide +kernel
theorem dX4_exchange_26 : decode cX4_exchange 26 = .ok (.getfield 9, 3) := by decide +kernel
theorem dX4_exchange_29 : decode cX4_exchange 29 = .ok (.iload_n 3, 1) := by decide +kernel
theorem dX4_exchange_30 : decode cX4_exchange 30 = .ok (.iload_n 2, 1) := by decide +kernel
theorem dX4_exchange_31 : decode cX4_exchange 31 = .ok (.iadd, 1) := by decide +kernel
theorem dX4_exchange_32 : decode cX4_exchange 32 = .ok (.iaload, 1) := by decide +kernel
theorem dX4_exchange_33 : decode cX4_exchange 33 = .ok (.iastore, 1) := by decide +kernel
theorem dX4_exchange_34 : decode cX4_exchange 34 = .ok (.aload_n 0, 1) := by decide +kernel
theorem dX4_exchange_35 : decode cX4_exchange 35 = .ok (.getfield 9, 3) := by decide +kernel
theorem dX4_exchange_38 : decode cX4_exchange 38 = .ok (.iload_n 3, 1) := by decide +kernel
theorem dX4_exchange_39 : decode cX4_exchange 39 = .ok (.iload_n 2, 1) := by decide +kernel
theorem dX4_exchange_40 : decode cX4_exchange 40 = .ok (.iadd, 1) := by decide +kernel
theorem dX4_exchange_41 : decode cX4_exchange 41 = .ok (.iload 4, 2) := by decide +kernel
theorem dX4_exchange_43 : decode cX4_exchange 43 = .ok (.iastore, 1) := by decide +kernel
theorem dX4_exchange_44 : decode cX4_exchange 44 = .ok (.iinc 3 7, 3) := by decide +kernel
theorem dX4_exchange_47 : decode cX4_exchange 47 = .ok (.goto (-45), 3) := by decide +kernel
theorem dX4_exchange_50 : decode cX4_exchange 50 = .ok (.return_, 1) := by decide +kernel
theorem dX4_worthOf_0 : decode cX4_worthOf 0 = .ok (.aload_n 0, 1) := by decide +kernel
theorem dX4_worthOf_1 : decode cX4_worthOf 1 = .ok (.getfield 9, 3) := by decide +kernel
theorem dX4_worthOf_4 : decode cX4_worthOf 4 = .ok (.iload_n 1, 1) := by decide +kernel
theorem dX4_worthOf_5 : decode cX4_worthOf 5 = .ok (.bipush 7, 2) := by decide +kernel
theorem dX4_worthOf_7 : decode cX4_worthOf 7 = .ok (.imul, 1) := by decide +kernel
theorem dX4_worthOf_8 : decode cX4_worthOf 8 = .ok (.iload_n 2, 1) := by decide +kernel
theorem dX4_worthOf_9 : decode cX4_worthOf 9 = .ok (.iadd, 1) := by decide +kernel
theorem dX4_worthOf_10 : decode cX4_worthOf 10 = .ok (.iaload, 1) := by decide +kernel
theorem dX4_worthOf_11 : decode cX4_worthOf 11 = .ok (.ireturn, 1) := by decide +kernel
theorem dX4_seeming_0 : decode cX4_seeming 0 = .ok (.iload_n 1, 1) := by decide +kernel
theorem dX4_seeming_1 : decode cX4_seeming 1 = .ok (.bipush 7, 2) := by decide +kernel
theorem dX4_seeming_3 : decode cX4_seeming 3 = .ok (.imul, 1) := by decide +kernel
theorem dX4_seeming_4 : decode cX4_seeming 4 = .ok (.iload_n 2, 1) := by decide +kernel
theorem dX4_seeming_5 : decode cX4_seeming 5 = .ok (.iadd, 1) := by decide +kernel
theorem dX4_seeming_6 : decode cX4_seeming 6 = .ok (.istore_n 3, 1) := by decide +kernel
theorem dX4_seeming_7 : decode cX4_seeming 7 = .ok (.aload_n 0, 1) := by decide +kernel
theorem dX4_seeming_8 : decode cX4_seeming 8 = .ok (.getfield 9, 3) := by decide +kernel
theorem dX4_seeming_11 : decode cX4_seeming 11 = .ok (.iload_n 3, 1) := by decide +kernel
theorem dX4_seeming_12 : decode cX4_seeming 12 = .ok (.iaload, 1) := by decide +kernel
theorem dX4_seeming_13 : decode cX4_seeming 13 = .ok (.bipush 10, 2) := by decide +kernel
theorem dX4_seeming_15 : decode cX4_seeming 15 = .ok (.aload_n 0, 1) := by decide +kernel
theorem dX4_seeming_16 : decode cX4_seeming 16 = .ok (.getfield 15, 3) := by decide +kernel
theorem dX4_seeming_19 : decode cX4_seeming 19 = .ok (.getfield 29, 3) := by decide +kernel
theorem dX4_seeming_22 : decode cX4_seeming 22 = .ok (.iload_n 3, 1) := by decide +kernel
theorem dX4_seeming_23 : decode cX4_seeming 23 = .ok (.iaload, 1) := by decide +kernel
theorem dX4_seeming_24 : decode cX4_seeming 24 = .ok (.iadd, 1) := by decide +kernel
theorem dX4_seeming_25 : decode cX4_seeming 25 = .ok (.imul, 1) := by decide +kernel
theorem dX4_seeming_26 : decode cX4_seeming 26 = .ok (.bipush 10, 2) := by decide +kernel
theorem dX4_seeming_28 : decode cX4_seeming 28 = .ok (.idiv, 1) := by decide +kernel
theorem dX4_seeming_29 : decode cX4_seeming 29 = .ok (.ireturn, 1) := by decide +kernel
set_option maxRecDepth 20000 in
theorem ggX4_envy_X4_seeming : GoodIn wsX4_envy wsX4_seeming := goodIn_r _ [9, 10, 11, 12, 17, 18, 19, 20, 21, 22, 23, 24, 25, 26, 27, 28, 29, 30] rfl (by decide +kernel)
set_option maxRecDepth 20000 in
theorem gX4_envy_X4_seeming : GoodIn wsX4_envy (wsV RX4 32 RX4 yX4_seeming wsX4_seeming) := goodIn_app (goodIn_of _ (by decide +kernel)) ggX4_envy_X4_seeming
set_option maxRecDepth 20000 in
theorem ggX4_envy_X4_worthOf : GoodIn wsX4_envy wsX4_worthOf := goodIn_r _ [16, 10, 17, 18, 19, 20, 21] rfl (by decide +kernel)
set_option maxRecDepth 20000 in
theorem gX4_envy_X4_worthOf : GoodIn wsX4_envy (wsV RX4 35 RX4 yX4_worthOf wsX4_worthOf) := goodIn_app (goodIn_of _ (by decide +kernel)) ggX4_envy_X4_worthOf
theorem dX4_envy_0 : decode cX4_envy 0 = .ok (.iload_n 1, 1) := by decide +kernel
theorem dX4_envy_1 : decode cX4_envy 1 = .ok (.iload_n 2, 1) := by decide +kernel
theorem dX4_envy_2 : decode cX4_envy 2 = .ok (.if_icmp .ne 5, 3) := by decide +kernel
theorem dX4_envy_5 : decode cX4_envy 5 = .ok (.iconst 0, 1) := by decide +kernel
theorem dX4_envy_6 : decode cX4_envy 6 = .ok (.ireturn, 1) := by decide +kernel
theorem dX4_envy_7 : decode cX4_envy 7 = .ok (.iconst 0, 1) := by decide +kernel
theorem dX4_envy_8 : decode cX4_envy 8 = .ok (.aload_n 0, 1) := by decide +kernel
theorem dX4_envy_9 : decode cX4_envy 9 = .ok (.iload_n 1, 1) := by decide +kernel
theorem dX4_envy_10 : decode cX4_envy 10 = .ok (.iload_n 2, 1) := by decide +kernel
theorem dX4_envy_11 : decode cX4_envy 11 = .ok (.invokevirtual 32, 3) := by decide +kernel
theorem dX4_envy_14 : decode cX4_envy 14 = .ok (.aload_n 0, 1) := by decide +kernel
theorem dX4_envy_15 : decode cX4_envy 15 = .ok (.iload_n 1, 1) := by decide +kernel
theorem dX4_envy_16 : decode cX4_envy 16 = .ok (.iload_n 1, 1) := by decide +kernel
theorem dX4_envy_17 : decode cX4_envy 17 = .ok (.invokevirtual 35, 3) := by decide +kernel
theorem dX4_envy_20 : decode cX4_envy 20 = .ok (.isub, 1) := by decide +kernel
theorem dX4_envy_21 : decode cX4_envy 21 = .ok (.invokestatic 36, 3) := by decide +kernel
theorem dX4_envy_24 : decode cX4_envy 24 = .ok (.ireturn, 1) := by decide +kernel
set_option maxRecDepth 20000 in
theorem ggX4_enviesOf_X5_contains : GoodIn wsX4_enviesOf wsX5_contains := goodIn_r _ [3] rfl (by decide +kernel)
set_option maxRecDepth 20000 in
theorem gX4_enviesOf_X5_contains_n41 : GoodIn wsX4_enviesOf (wsX5_contains) := ggX4_enviesOf_X5_contains
set_option maxRecDepth 20000 in
theorem ggX4_enviesOf_X4_envy : GoodIn wsX4_enviesOf wsX4_envy := goodIn_r _ [8, 9, 10, 11, 12, 13, 14, 15, 7, 16, 17, 18, 19, 20, 21, 22, 23, 24, 25, 26, 27, 28, 29, 30, 31, 32, 33, 34, 35, 36, 37] rfl (by decide +kernel)
set_option maxRecDepth 20000 in
theorem gX4_enviesOf_X4_envy : GoodIn wsX4_enviesOf (wsV RX4 45 RX4 yX4_envy wsX4_envy) := goodIn_app (goodIn_of _ (by decide +kernel)) ggX4_enviesOf_X4_envy
theorem dX4_enviesOf_0 : decode cX4_enviesOf 0 = .ok (.iconst 0, 1) := by decide +kernel
theorem dX4_enviesOf_1 : decode cX4_enviesOf 1 = .ok (.istore_n 3, 1) := by decide +kernel
theorem dX4_enviesOf_2 : decode cX4_enviesOf 2 = .ok (.iconst 0, 1) := by decide +kernel
theorem dX4_enviesOf_3 : decode cX4_enviesOf 3 = .ok (.istore 4, 2) := by decide +kernel
theorem dX4_enviesOf_5 : decode cX4_enviesOf 5 = .ok (.iload 4, 2) := by decide +kernel
theorem dX4_enviesOf_7 : decode cX4_enviesOf 7 = .ok (.bipush 7, 2) := by decide +kernel
theorem dX4_enviesOf_9 : decode cX4_enviesOf 9 = .ok (.if_icmp .ge 28, 3) := by decide +kernel
theorem dX4_enviesOf_12 : decode cX4_enviesOf 12 = .ok (.iload_n 2, 1) := by decide +kernel
theorem dX4_enviesOf_13 : decode cX4_enviesOf 13 = .ok (.iload 4, 2) := by decide +kernel
theorem dX4_enviesOf_15 : decode cX4_enviesOf 15 = .ok (.invokestatic 41, 3) := by decide +kernel
theorem dX4_enviesOf_18 : decode cX4_enviesOf 18 = .ok (.ifCond .eq 13, 3) := by decide +kernel
theorem dX4_enviesOf_21 : decode cX4_enviesOf 21 = .ok (.iload_n 3, 1) := by decide +kernel
theorem dX4_enviesOf_22 : decode cX4_enviesOf 22 = .ok (.aload_n 0, 1) := by decide +kernel
theorem dX4_enviesOf_23 : decode cX4_enviesOf 23 = .ok (.iload_n 1, 1) := by decide +kernel
theorem dX4_enviesOf_24 : decode cX4_enviesOf 24 = .ok (.iload 4, 2) := by decide +kernel
theorem dX4_enviesOf_26 : decode cX4_enviesOf 26 = .ok (.invokevirtual 45, 3) := by decide +kernel
theorem dX4_enviesOf_29 : decode cX4_enviesOf 29 = .ok (.iadd, 1) := by decide +kernel
theorem dX4_enviesOf_30 : decode cX4_enviesOf 30 = .ok (.istore_n 3, 1) := by decide +kernel
theorem dX4_enviesOf_31 : decode cX4_enviesOf 31 = .ok (.iinc 4 1, 3) := by decide +kernel
theorem dX4_enviesOf_34 : decode cX4_enviesOf 34 = .ok (.goto (-29), 3) := by decide +kernel
theorem dX4_enviesOf_37 : decode cX4_enviesOf 37 = .ok (.iload_n 3, 1) := by decide +kernel
theorem dX4_enviesOf_38 : decode cX4_enviesOf 38 = .ok (.ireturn, 1) := by decide +kernel
set_option maxRecDepth 20000 in
theorem ggX4_enviesAmong_X5_contains : GoodIn wsX4_enviesAmong wsX5_contains := goodIn_r _ [3] rfl (by decide +kernel)
set_option maxRecDepth 20000 in
theorem gX4_enviesAmong_X5_contains_n41 : GoodIn wsX4_enviesAmong (wsX5_contains) := ggX4_enviesAmong_X5_contains
set_option maxRecDepth 20000 in
theorem ggX4_enviesAmong_X4_enviesOf : GoodIn wsX4_enviesAmong wsX4_enviesOf := goodIn_r _ [8, 1, 2, 3, 9, 10, 11, 7, 12, 13, 14, 15, 16, 17, 18, 19, 20, 21, 22, 23, 24, 25, 26, 27, 28, 29, 30, 31, 32, 33, 34, 35, 36, 37, 38, 39, 40, 41] rfl (by decide +kernel)
set_option maxRecDepth 20000 in
theorem gX4_enviesAmong_X4_enviesOf : GoodIn wsX4_enviesAmong (wsV RX4 48 RX4 yX4_enviesOf wsX4_enviesOf) := goodIn_app (goodIn_of _ (by decide +kernel)) ggX4_enviesAmong_X4_enviesOf
theorem dX4_enviesAmong_0 : decode cX4_enviesAmong 0 = .ok (.iconst 0, 1) := by decide +kernel
theorem dX4_enviesAmong_1 : decode cX4_enviesAmong 1 = .ok (.istore_n 2, 1) := by decide +kernel
theorem dX4_enviesAmong_2 : decode cX4_enviesAmong 2 = .ok (.iconst 0, 1) := by decide +kernel
theorem dX4_enviesAmong_3 : decode cX4_enviesAmong 3 = .ok (.istore_n 3, 1) := by decide +kernel
theorem dX4_enviesAmong_4 : decode cX4_enviesAmong 4 = .ok (.iload_n 3, 1) := by decide +kernel
theorem dX4_enviesAmong_5 : decode cX4_enviesAmong 5 = .ok (.bipush 7, 2) := by decide +kernel
theorem dX4_enviesAmong_7 : decode cX4_enviesAmong 7 = .ok (.if_icmp .ge 26, 3) := by decide +kernel
theorem dX4_enviesAmong_10 : decode cX4_enviesAmong 10 = .ok (.iload_n 1, 1) := by decide +kernel
theorem dX4_enviesAmong_11 : decode cX4_enviesAmong 11 = .ok (.iload_n 3, 1) := by decide +kernel
theorem dX4_enviesAmong_12 : decode cX4_enviesAmong 12 = .ok (.invokestatic 41, 3) := by decide +kernel
theorem dX4_enviesAmong_15 : decode cX4_enviesAmong 15 = .ok (.ifCond .eq 12, 3) := by decide +kernel
theorem dX4_enviesAmong_18 : decode cX4_enviesAmong 18 = .ok (.iload_n 2, 1) := by decide +kernel
theorem dX4_enviesAmong_19 : decode cX4_enviesAmong 19 = .ok (.aload_n 0, 1) := by decide +kernel
theorem dX4_enviesAmong_20 : decode cX4_enviesAmong 20 = .ok (.iload_n 3, 1) := by decide +kernel
theorem dX4_enviesAmong_21 : decode cX4_enviesAmong 21 = .ok (.iload_n 1, 1) := by decide +kernel
theorem dX4_enviesAmong_22 : decode cX4_enviesAmong 22 = .ok (.invokevirtual 48, 3) := by decide +kernel
theorem dX4_enviesAmong_25 : decode cX4_enviesAmong 25 = .ok (.iadd, 1) := by decide +kernel
theorem dX4_enviesAmong_26 : decode cX4_enviesAmong 26 = .ok (.istore_n 2, 1) := by decide +kernel
theorem dX4_enviesAmong_27 : decode cX4_enviesAmong 27 = .ok (.iinc 3 1, 3) := by decide +kernel
theorem dX4_enviesAmong_30 : decode cX4_enviesAmong 30 = .ok (.goto (-26), 3) := by decide +kernel
theorem dX4_enviesAmong_33 : decode cX4_enviesAmong 33 = .ok (.iload_n 2, 1) := by decide +kernel
theorem dX4_enviesAmong_34 : decode cX4_enviesAmong 34 = .ok (.ireturn, 1) := by decide +kernel
set_option maxRecDepth 20000 in
theorem ggX4_greatestEnvyOf_X4_envy : GoodIn wsX4_greatestEnvyOf wsX4_envy := goodIn_r _ [9, 1, 2, 3, 4, 10, 11, 12, 8, 13, 14, 15, 16, 17, 18, 19, 20, 21, 22, 23, 24, 25, 26, 27, 28, 29, 30, 31, 32, 33, 34] rfl (by decide +kernel)
set_option maxRecDepth 20000 in
theorem gX4_greatestEnvyOf_X4_envy : GoodIn wsX4_greatestEnvyOf (wsV RX4 45 RX4 yX4_envy wsX4_envy) := goodIn_app (goodIn_of _ (by decide +kernel)) ggX4_greatestEnvyOf_X4_envy
theorem dX4_greatestEnvyOf_0 : decode cX4_greatestEnvyOf 0 = .ok (.iconst 0, 1) := by decide +kernel
theorem dX4_greatestEnvyOf_1 : decode cX4_greatestEnvyOf 1 = .ok (.istore_n 2, 1) := by decide +kernel
theorem dX4_greatestEnvyOf_2 : decode cX4_greatestEnvyOf 2 = .ok (.iconst 0, 1) := by decide +kernel
theorem dX4_greatestEnvyOf_3 : decode cX4_greatestEnvyOf 3 = .ok (.istore_n 3, 1) := by decide +kernel
theorem dX4_greatestEnvyOf_4 : decode cX4_greatestEnvyOf 4 = .ok (.iload_n 3, 1) := by decide +kernel
theorem dX4_greatestEnvyOf_5 : decode cX4_greatestEnvyOf 5 = .ok (.bipush 7, 2) := by decide +kernel
theorem dX4_greatestEnvyOf_7 : decode cX4_greatestEnvyOf 7 = .ok (.if_icmp .ge 20, 3) := by decide +kernel
theorem dX4_greatestEnvyOf_10 : decode cX4_greatestEnvyOf 10 = .ok (.iload_n 2, 1) := by decide +kernel
theorem dX4_greatestEnvyOf_11 : decode cX4_greatestEnvyOf 11 = .ok (.aload_n 0, 1) := by decide +kernel
theorem dX4_greatestEnvyOf_12 : decode cX4_greatestEnvyOf 12 = .ok (.iload_n 1, 1) := by decide +kernel
theorem dX4_greatestEnvyOf_13 : decode cX4_greatestEnvyOf 13 = .ok (.iload_n 3, 1) := by decide +kernel
theorem dX4_greatestEnvyOf_14 : decode cX4_greatestEnvyOf 14 = .ok (.invokevirtual 45, 3) := by decide +kernel
theorem dX4_greatestEnvyOf_17 : decode cX4_greatestEnvyOf 17 = .ok (.invokestatic 36, 3) := by decide +kernel
theorem dX4_greatestEnvyOf_20 : decode cX4_greatestEnvyOf 20 = .ok (.istore_n 2, 1) := by decide +kernel
theorem dX4_greatestEnvyOf_21 : decode cX4_greatestEnvyOf 21 = .ok (.iinc 3 1, 3) := by decide +kernel
theorem dX4_greatestEnvyOf_24 : decode cX4_greatestEnvyOf 24 = .ok (.goto (-20), 3) := by decide +kernel
theorem dX4_greatestEnvyOf_27 : decode cX4_greatestEnvyOf 27 = .ok (.iload_n 2, 1) := by decide +kernel
theorem dX4_greatestEnvyOf_28 : decode cX4_greatestEnvyOf 28 = .ok (.ireturn, 1) := by decide +kernel
set_option maxRecDepth 20000 in
theorem ggX4_enviesTowards_X4_envy : GoodIn wsX4_enviesTowards wsX4_envy := goodIn_r _ [5, 6, 7, 8, 9, 10, 11, 12, 4, 13, 14, 15, 16, 17, 18, 19, 20, 21, 22, 23, 24, 25, 26, 27, 28, 29, 30, 31, 32, 33, 34] rfl (by decide +kernel)
set_option maxRecDepth 20000 in
theorem gX4_enviesTowards_X4_envy : GoodIn wsX4_enviesTowards (wsV RX4 45 RX4 yX4_envy wsX4_envy) := goodIn_app (goodIn_of _ (by decide +kernel)) ggX4_enviesTowards_X4_envy
theorem dX4_enviesTowards_0 : decode cX4_enviesTowards 0 = .ok (.iconst 0, 1) := by decide +kernel
theorem dX4_enviesTowards_1 : decode cX4_enviesTowards 1 = .ok (.istore_n 2, 1) := by decide +kernel
theorem dX4_enviesTowards_2 : decode cX4_enviesTowards 2 = .ok (.iconst 0, 1) := by decide +kernel
theorem dX4_enviesTowards_3 : decode cX4_enviesTowards 3 = .ok (.istore_n 3, 1) := by decide +kernel
theorem dX4_enviesTowards_4 : decode cX4_enviesTowards 4 = .ok (.iload_n 3, 1) := by decide +kernel
theorem dX4_enviesTowards_5 : decode cX4_enviesTowards 5 = .ok (.bipush 7, 2) := by decide +kernel
theorem dX4_enviesTowards_7 : decode cX4_enviesTowards 7 = .ok (.if_icmp .ge 18, 3) := by decide +kernel
theorem dX4_enviesTowards_10 : decode cX4_enviesTowards 10 = .ok (.iload_n 2, 1) := by decide +kernel
theorem dX4_enviesTowards_11 : decode cX4_enviesTowards 11 = .ok (.aload_n 0, 1) := by decide +kernel
theorem dX4_enviesTowards_12 : decode cX4_enviesTowards 12 = .ok (.iload_n 3, 1) := by decide +kernel
theorem dX4_enviesTowards_13 : decode cX4_enviesTowards 13 = .ok (.iload_n 1, 1) := by decide +kernel
theorem dX4_enviesTowards_14 : decode cX4_enviesTowards 14 = .ok (.invokevirtual 45, 3) := by decide +kernel
theorem dX4_enviesTowards_17 : decode cX4_enviesTowards 17 = .ok (.iadd, 1) := by decide +kernel
theorem dX4_enviesTowards_18 : decode cX4_enviesTowards 18 = .ok (.istore_n 2, 1) := by decide +kernel
theorem dX4_enviesTowards_19 : decode cX4_enviesTowards 19 = .ok (.iinc 3 1, 3) := by decide +kernel
theorem dX4_enviesTowards_22 : decode cX4_enviesTowards 22 = .ok (.goto (-18), 3) := by decide +kernel
theorem dX4_enviesTowards_25 : decode cX4_enviesTowards 25 = .ok (.iload_n 2, 1) := by decide +kernel
theorem dX4_enviesTowards_26 : decode cX4_enviesTowards 26 = .ok (.ireturn, 1) := by decide +kernel
set_option maxRecDepth 20000 in
theorem ggX4_contentCousins_X4_greatestEnvyOf : GoodIn wsX4_contentCousins wsX4_greatestEnvyOf := goodIn_r _ [5, 6, 7, 8, 9, 10, 11, 12, 4, 13, 14, 15, 16, 17, 18, 19, 20, 21, 22, 23, 24, 25, 26, 27, 28, 29, 30, 31, 32, 33, 34, 35, 36, 37, 38] rfl (by decide +kernel)
set_option maxRecDepth 20000 in
theorem gX4_contentCousins_X4_greatestEnvyOf : GoodIn wsX4_contentCousins (wsV RX4 51 RX4 yX4_greatestEnvyOf wsX4_greatestEnvyOf) := goodIn_app (goodIn_of _ (by decide +kernel)) ggX4_contentCousins_X4_greatestEnvyOf
theorem dX4_contentCousins_0 : decode cX4_contentCousins 0 = .ok (.iconst 0, 1) := by decide +kernel
theorem dX4_contentCousins_1 : decode cX4_contentCousins 1 = .ok (.istore_n 1, 1) := by decide +kernel
theorem dX4_contentCousins_2 : decode cX4_contentCousins 2 = .ok (.iconst 0, 1) := by decide +kernel
theorem dX4_contentCousins_3 : decode cX4_contentCousins 3 = .ok (.istore_n 2, 1) := by decide +kernel
theorem dX4_contentCousins_4 : decode cX4_contentCousins 4 = .ok (.iload_n 2, 1) := by decide +kernel
theorem dX4_contentCousins_5 : decode cX4_contentCousins 5 = .ok (.bipush 7, 2) := by decide +kernel
theorem dX4_contentCousins_7 : decode cX4_contentCousins 7 = .ok (.if_icmp .ge 20, 3) := by decide +kernel
theorem dX4_contentCousins_10 : decode cX4_contentCousins 10 = .ok (.aload_n 0, 1) := by decide +kernel
theorem dX4_contentCousins_11 : decode cX4_contentCousins 11 = .ok (.iload_n 2, 1) := by decide +kernel
theorem dX4_contentCousins_12 : decode cX4_contentCousins 12 = .ok (.invokevirtual 51, 3) := by decide +kernel
theorem dX4_contentCousins_15 : decode cX4_contentCousins 15 = .ok (.ifCond .ne 6, 3) := by decide +kernel
theorem dX4_contentCousins_18 : decode cX4_contentCousins 18 = .ok (.iinc 1 1, 3) := by decide +kernel
theorem dX4_contentCousins_21 : decode cX4_contentCousins 21 = .ok (.iinc 2 1, 3) := by decide +kernel
theorem dX4_contentCousins_24 : decode cX4_contentCousins 24 = .ok (.goto (-20), 3) := by decide +kernel
theorem dX4_contentCousins_27 : decode cX4_contentCousins 27 = .ok (.iload_n 1, 1) := by decide +kernel
theorem dX4_contentCousins_28 : decode cX4_contentCousins 28 = .ok (.ireturn, 1) := by decide +kernel
set_option maxRecDepth 20000 in
theorem ggX4_whyNoTrade_X1_grudgeOf : GoodIn wsX4_whyNoTrade wsX1_grudgeOf := goodIn_r _ [7, 8, 20, 21, 22, 23, 24, 25, 26, 27, 28] rfl (by decide +kernel)
set_option maxRecDepth 20000 in
theorem gX4_whyNoTrade_X1_grudgeOf : GoodIn wsX4_whyNoTrade (wsV RX4 58 RX1 yX1_grudgeOf wsX1_grudgeOf) := goodIn_app (goodIn_of _ (by decide +kernel)) ggX4_whyNoTrade_X1_grudgeOf
set_option maxRecDepth 20000 in
theorem ggX4_whyNoTrade_X4_worthOf : GoodIn wsX4_whyNoTrade wsX4_worthOf := goodIn_r _ [13, 14, 15, 16, 17, 18, 19] rfl (by decide +kernel)
set_option maxRecDepth 20000 in
theorem gX4_whyNoTrade_X4_worthOf : GoodIn wsX4_whyNoTrade (wsV RX4 35 RX4 yX4_worthOf wsX4_worthOf) := goodIn_app (goodIn_of _ (by decide +kernel)) ggX4_whyNoTrade_X4_worthOf
theorem dX4_whyNoTrade_0 : decode cX4_whyNoTrade 0 = .ok (.aload_n 0, 1) := by decide +kernel
theorem dX4_whyNoTrade_1 : decode cX4_whyNoTrade 1 = .ok (.getfield 15, 3) := by decide +kernel
theorem dX4_whyNoTrade_4 : decode cX4_whyNoTrade 4 = .ok (.getfield 55, 3) := by decide +kernel
theorem dX4_whyNoTrade_7 : decode cX4_whyNoTrade 7 = .ok (.iconst 1, 1) := by decide +kernel
theorem dX4_whyNoTrade_8 : decode cX4_whyNoTrade 8 = .ok (.iaload, 1) := by decide +kernel
theorem dX4_whyNoTrade_9 : decode cX4_whyNoTrade 9 = .ok (.istore_n 3, 1) := by decide +kernel
theorem dX4_whyNoTrade_10 : decode cX4_whyNoTrade 10 = .ok (.aload_n 0, 1) := by decide +kernel
theorem dX4_whyNoTrade_11 : decode cX4_whyNoTrade 11 = .ok (.getfield 15, 3) := by decide +kernel
theorem dX4_whyNoTrade_14 : decode cX4_whyNoTrade 14 = .ok (.iload_n 1, 1) := by decide +kernel
theorem dX4_whyNoTrade_15 : decode cX4_whyNoTrade 15 = .ok (.iload_n 2, 1) := by decide +kernel
theorem dX4_whyNoTrade_16 : decode cX4_whyNoTrade 16 = .ok (.invokevirtual 58, 3) := by decide +kernel
theorem dX4_whyNoTrade_19 : decode cX4_whyNoTrade 19 = .ok (.iload_n 3, 1) := by decide +kernel
theorem dX4_whyNoTrade_20 : decode cX4_whyNoTrade 20 = .ok (.if_icmp .ge 16, 3) := by decide +kernel
theorem dX4_whyNoTrade_23 : decode cX4_whyNoTrade 23 = .ok (.aload_n 0, 1) := by decide +kernel
theorem dX4_whyNoTrade_24 : decode cX4_whyNoTrade 24 = .ok (.getfield 15, 3) := by decide +kernel
theorem dX4_whyNoTrade_27 : decode cX4_whyNoTrade 27 = .ok (.iload_n 2, 1) := by decide +kernel
theorem dX4_whyNoTrade_28 : decode cX4_whyNoTrade 28 = .ok (.iload_n 1, 1) := by decide +kernel
theorem dX4_whyNoTrade_29 : decode cX4_whyNoTrade 29 = .ok (.invokevirtual 58, 3) := by decide +kernel
theorem dX4_whyNoTrade_32 : decode cX4_whyNoTrade 32 = .ok (.iload_n 3, 1) := by decide +kernel
theorem dX4_whyNoTrade_33 : decode cX4_whyNoTrade 33 = .ok (.if_icmp .lt 5, 3) := by decide +kernel
theorem dX4_whyNoTrade_36 : decode cX4_whyNoTrade 36 = .ok (.iconst 1, 1) := by decide +kernel
theorem dX4_whyNoTrade_37 : decode cX4_whyNoTrade 37 = .ok (.ireturn, 1) := by decide +kernel
theorem dX4_whyNoTrade_38 : decode cX4_whyNoTrade 38 = .ok (.aload_n 0, 1) := by decide +kernel
theorem dX4_whyNoTrade_39 : decode cX4_whyNoTrade 39 = .ok (.iload_n 1, 1) := by decide +kernel
theorem dX4_whyNoTrade_40 : decode cX4_whyNoTrade 40 = .ok (.iload_n 2, 1) := by decide +kernel
theorem dX4_whyNoTrade_41 : decode cX4_whyNoTrade 41 = .ok (.invokevirtual 35, 3) := by decide +kernel
theorem dX4_whyNoTrade_44 : decode cX4_whyNoTrade 44 = .ok (.aload_n 0, 1) := by decide +kernel
theorem dX4_whyNoTrade_45 : decode cX4_whyNoTrade 45 = .ok (.iload_n 1, 1) := by decide +kernel
theorem dX4_whyNoTrade_46 : decode cX4_whyNoTrade 46 = .ok (.iload_n 1, 1) := by decide +kernel
theorem dX4_whyNoTrade_47 : decode cX4_whyNoTrade 47 = .ok (.invokevirtual 35, 3) := by decide +kernel
theorem dX4_whyNoTrade_50 : decode cX4_whyNoTrade 50 = .ok (.if_icmp .gt 5, 3) := by decide +kernel
theorem dX4_whyNoTrade_53 : decode cX4_whyNoTrade 53 = .ok (.iconst 2, 1) := by decide +kernel
theorem dX4_whyNoTrade_54 : decode cX4_whyNoTrade 54 = .ok (.ireturn, 1) := by decide +kernel
theorem dX4_whyNoTrade_55 : decode cX4_whyNoTrade 55 = .ok (.aload_n 0, 1) := by decide +kernel
theorem dX4_whyNoTrade_56 : decode cX4_whyNoTrade 56 = .ok (.iload_n 2, 1) := by decide +kernel
theorem dX4_whyNoTrade_57 : decode cX4_whyNoTrade 57 = .ok (.iload_n 1, 1) := by decide +kernel
theorem dX4_whyNoTrade_58 : decode cX4_whyNoTrade 58 = .ok (.invokevirtual 35, 3) := by decide +kernel
theorem dX4_whyNoTrade_61 : decode cX4_whyNoTrade 61 = .ok (.aload_n 0, 1) := by decide +kernel
theorem dX4_whyNoTrade_62 : decode cX4_whyNoTrade 62 = .ok (.iload_n 2, 1) := by decide +kernel
theorem dX4_whyNoTrade_63 : decode cX4_whyNoTrade 63 = .ok (.iload_n 2, 1) := by decide +kernel
theorem dX4_whyNoTrade_64 : decode cX4_whyNoTrade 64 = .ok (.invokevirtual 35, 3) := by decide +kernel
theorem dX4_whyNoTrade_67 : decode cX4_whyNoTrade 67 = .ok (.if_icmp .gt 5, 3) := by decide +kernel
theorem dX4_whyNoTrade_70 : decode cX4_whyNoTrade 70 = .ok (.iconst 3, 1) := by decide +kernel
theorem dX4_whyNoTrade_71 : decode cX4_whyNoTrade 71 = .ok (.ireturn, 1) := by decide +kernel
theorem dX4_whyNoTrade_72 : decode cX4_whyNoTrade 72 = .ok (.iconst 0, 1) := by decide +kernel
theorem dX4_whyNoTrade_73 : decode cX4_whyNoTrade 73 = .ok (.ireturn, 1) := by decide +kernel
set_option maxRecDepth 20000 in
theorem ggX4_tradingPairs_X4_whyNoTrade : GoodIn wsX4_tradingPairs wsX4_whyNoTrade := goodIn_r _ [5, 6, 7, 8, 9, 10, 11, 12, 13, 14, 15, 16, 4, 17, 18, 19, 20, 21, 22, 23, 24, 25, 26, 27, 28, 29, 30, 31, 32] rfl (by decide +kernel)
set_option maxRecDepth 20000 in
theorem gX4_tradingPairs_X4_whyNoTrade : GoodIn wsX4_tradingPairs (wsV RX4 61 RX4 yX4_whyNoTrade wsX4_whyNoTrade) := goodIn_app (goodIn_of _ (by decide +kernel)) ggX4_tradingPairs_X4_whyNoTrade
theorem dX4_tradingPairs_0 : decode cX4_tradingPairs 0 = .ok (.iconst 0, 1) := by decide +kernel
theorem dX4_tradingPairs_1 : decode cX4_tradingPairs 1 = .ok (.istore_n 1, 1) := by decide +kernel
theorem dX4_tradingPairs_2 : decode cX4_tradingPairs 2 = .ok (.iconst 0, 1) := by decide +kernel
theorem dX4_tradingPairs_3 : decode cX4_tradingPairs 3 = .ok (.istore_n 2, 1) := by decide +kernel
theorem dX4_tradingPairs_4 : decode cX4_tradingPairs 4 = .ok (.iload_n 2, 1) := by decide +kernel
theorem dX4_tradingPairs_5 : decode cX4_tradingPairs 5 = .ok (.bipush 7, 2) := by decide +kernel
theorem dX4_tradingPairs_7 : decode cX4_tradingPairs 7 = .ok (.if_icmp .ge 37, 3) := by decide +kernel
theorem dX4_tradingPairs_10 : decode cX4_tradingPairs 10 = .ok (.iload_n 2, 1) := by decide +kernel
theorem dX4_tradingPairs_11 : decode cX4_tradingPairs 11 = .ok (.iconst 1, 1) := by decide +kernel
theorem dX4_tradingPairs_12 : decode cX4_tradingPairs 12 = .ok (.iadd, 1) := by decide +kernel
theorem dX4_tradingPairs_13 : decode cX4_tradingPairs 13 = .ok (.istore_n 3, 1) := by decide +kernel
theorem dX4_tradingPairs_14 : decode cX4_tradingPairs 14 = .ok (.iload_n 3, 1) := by decide +kernel
theorem dX4_tradingPairs_15 : decode cX4_tradingPairs 15 = .ok (.bipush 7, 2) := by decide +kernel
theorem dX4_tradingPairs_17 : decode cX4_tradingPairs 17 = .ok (.if_icmp .ge 21, 3) := by decide +kernel
theorem dX4_tradingPairs_20 : decode cX4_tradingPairs 20 = .ok (.aload_n 0, 1) := by decide +kernel
theorem dX4_tradingPairs_21 : decode cX4_tradingPairs 21 = .ok (.iload_n 2, 1) := by decide +kernel
theorem dX4_tradingPairs_22 : decode cX4_tradingPairs 22 = .ok (.iload_n 3, 1) := by decide +kernel
theorem dX4_tradingPairs_23 : decode cX4_tradingPairs 23 = .ok (.invokevirtual 61, 3) := by decide +kernel
theorem dX4_tradingPairs_26 : decode cX4_tradingPairs 26 = .ok (.ifCond .ne 6, 3) := by decide +kernel
theorem dX4_tradingPairs_29 : decode cX4_tradingPairs 29 = .ok (.iinc 1 1, 3) := by decide +kernel
theorem dX4_tradingPairs_32 : decode cX4_tradingPairs 32 = .ok (.iinc 3 1, 3) := by decide +kernel
theorem dX4_tradingPairs_35 : decode cX4_tradingPairs 35 = .ok (.goto (-21), 3) := by decide +kernel
theorem dX4_tradingPairs_38 : decode cX4_tradingPairs 38 = .ok (.iinc 2 1, 3) := by decide +kernel
theorem dX4_tradingPairs_41 : decode cX4_tradingPairs 41 = .ok (.goto (-37), 3) := by decide +kernel
theorem dX4_tradingPairs_44 : decode cX4_tradingPairs 44 = .ok (.iload_n 1, 1) := by decide +kernel
theorem dX4_tradingPairs_45 : decode cX4_tradingPairs 45 = .ok (.ireturn, 1) := by decide +kernel
set_option maxRecDepth 20000 in
theorem ggX4_findBestTrade_X4_whyNoTrade : GoodIn wsX4_findBestTrade wsX4_whyNoTrade := goodIn_r _ [8, 9, 10, 11, 12, 13, 14, 15, 16, 17, 18, 19, 7, 20, 21, 54, 55, 56, 57, 58, 59, 60, 61, 62, 63, 64, 65, 66, 67] rfl (by decide +kernel)
set_option maxRecDepth 20000 in
theorem gX4_findBestTrade_X4_whyNoTrade : GoodIn wsX4_findBestTrade (wsV RX4 61 RX4 yX4_whyNoTrade wsX4_whyNoTrade) := goodIn_app (goodIn_of _ (by decide +kernel)) ggX4_findBestTrade_X4_whyNoTrade
set_option maxRecDepth 20000 in
theorem ggX4_findBestTrade_X4_enviesAfterTrade : GoodIn wsX4_findBestTrade wsX4_enviesAfterTrade := goodIn_r _ [25, 26, 27, 28, 7, 29, 21, 30, 31, 32, 33, 34, 35, 36, 37, 38, 39, 40, 41, 42, 43, 44, 45, 46, 47, 48, 49, 50, 51, 52, 9, 53, 17, 18, 19, 20, 54, 55, 56, 57, 58, 59, 60, 61, 62, 63, 64, 65, 66, 67] rfl (by decide +kernel)
set_option maxRecDepth 20000 in
theorem gX4_findBestTrade_X4_enviesAfterTrade : GoodIn wsX4_findBestTrade (wsV RX4 64 RX4 yX4_enviesAfterTrade wsX4_enviesAfterTrade) := goodIn_app (goodIn_of _ (by decide +kernel)) ggX4_findBestTrade_X4_enviesAfterTrade
theorem dX4_findBestTrade_0 : decode cX4_findBestTrade 0 = .ok (.iconst 0, 1) := by decide +kernel
theorem dX4_findBestTrade_1 : decode cX4_findBestTrade 1 = .ok (.istore_n 1, 1) := by decide +kernel
theorem dX4_findBestTrade_2 : decode cX4_findBestTrade 2 = .ok (.iconst 0, 1) := by decide +kernel
theorem dX4_findBestTrade_3 : decode cX4_findBestTrade 3 = .ok (.istore_n 2, 1) := by decide +kernel
theorem dX4_findBestTrade_4 : decode cX4_findBestTrade 4 = .ok (.iload_n 2, 1) := by decide +kernel
theorem dX4_findBestTrade_5 : decode cX4_findBestTrade 5 = .ok (.bipush 7, 2) := by decide +kernel
theorem dX4_findBestTrade_7 : decode cX4_findBestTrade 7 = .ok (.if_icmp .ge 73, 3) := by decide +kernel
theorem dX4_findBestTrade_10 : decode cX4_findBestTrade 10 = .ok (.iload_n 2, 1) := by decide +kernel
theorem dX4_findBestTrade_11 : decode cX4_findBestTrade 11 = .ok (.iconst 1, 1) := by decide +kernel
theorem dX4_findBestTrade_12 : decode cX4_findBestTrade 12 = .ok (.iadd, 1) := by decide +kernel
theorem dX4_findBestTrade_13 : decode cX4_findBestTrade 13 = .ok (.istore_n 3, 1) := by decide +kernel
theorem dX4_findBestTrade_14 : decode cX4_findBestTrade 14 = .ok (.iload_n 3, 1) := by decide +kernel
theorem dX4_findBestTrade_15 : decode cX4_findBestTrade 15 = .ok (.bipush 7, 2) := by decide +kernel
theorem dX4_findBestTrade_17 : decode cX4_findBestTrade 17 = .ok (.if_icmp .ge 57, 3) := by decide +kernel
theorem dX4_findBestTrade_20 : decode cX4_findBestTrade 20 = .ok (.aload_n 0, 1) := by decide +kernel
theorem dX4_findBestTrade_21 : decode cX4_findBestTrade 21 = .ok (.iload_n 2, 1) := by decide +kernel
theorem dX4_findBestTrade_22 : decode cX4_findBestTrade 22 = .ok (.iload_n 3, 1) := by decide +kernel
theorem dX4_findBestTrade_23 : decode cX4_findBestTrade 23 = .ok (.invokevirtual 61, 3) := by decide +kernel
theorem dX4_findBestTrade_26 : decode cX4_findBestTrade 26 = .ok (.ifCond .ne 42, 3) := by decide +kernel
theorem dX4_findBestTrade_29 : decode cX4_findBestTrade 29 = .ok (.aload_n 0, 1) := by decide +kernel
theorem dX4_findBestTrade_30 : decode cX4_findBestTrade 30 = .ok (.iload_n 2, 1) := by decide +kernel
theorem dX4_findBestTrade_31 : decode cX4_findBestTrade 31 = .ok (.iload_n 3, 1) := by decide +kernel
theorem dX4_findBestTrade_32 : decode cX4_findBestTrade 32 = .ok (.invokevirtual 64, 3) := by decide +kernel
theorem dX4_findBestTrade_35 : decode cX4_findBestTrade 35 = .ok (.istore 4, 2) := by decide +kernel
theorem dX4_findBestTrade_37 : decode cX4_findBestTrade 37 = .ok (.iload_n 1, 1) := by decide +kernel
theorem dX4_findBestTrade_38 : decode cX4_findBestTrade 38 = .ok (.ifCond .eq 12, 3) := by decide +kernel
theorem dX4_findBestTrade_41 : decode cX4_findBestTrade 41 = .ok (.iload 4, 2) := by decide +kernel
theorem dX4_findBestTrade_43 : decode cX4_findBestTrade 43 = .ok (.aload_n 0, 1) := by decide +kernel
theorem dX4_findBestTrade_44 : decode cX4_findBestTrade 44 = .ok (.getfield 67, 3) := by decide +kernel
theorem dX4_findBestTrade_47 : decode cX4_findBestTrade 47 = .ok (.if_icmp .ge 21, 3) := by decide +kernel
theorem dX4_findBestTrade_50 : decode cX4_findBestTrade 50 = .ok (.iconst 1, 1) := by decide +kernel
theorem dX4_findBestTrade_51 : decode cX4_findBestTrade 51 = .ok (.istore_n 1, 1) := by decide +kernel
theorem dX4_findBestTrade_52 : decode cX4_findBestTrade 52 = .ok (.aload_n 0, 1) := by decide +kernel
theorem dX4_findBestTrade_53 : decode cX4_findBestTrade 53 = .ok (.iload_n 2, 1) := by decide +kernel
theorem dX4_findBestTrade_54 : decode cX4_findBestTrade 54 = .ok (.putfield 71, 3) := by decide +kernel
theorem dX4_findBestTrade_57 : decode cX4_findBestTrade 57 = .ok (.aload_n 0, 1) := by decide +kernel
theorem dX4_findBestTrade_58 : decode cX4_findBestTrade 58 = .ok (.iload_n 3, 1) := by decide +kernel
theorem dX4_findBestTrade_59 : decode cX4_findBestTrade 59 = .ok (.putfield 74, 3) := by decide +kernel
theorem dX4_findBestTrade_62 : decode cX4_findBestTrade 62 = .ok (.aload_n 0, 1) := by decide +kernel
theorem dX4_findBestTrade_63 : decode cX4_findBestTrade 63 = .ok (.iload 4, 2) := by decide +kernel
theorem dX4_findBestTrade_65 : decode cX4_findBestTrade 65 = .ok (.putfield 67, 3) := by decide +kernel
theorem dX4_findBestTrade_68 : decode cX4_findBestTrade 68 = .ok (.iinc 3 1, 3) := by decide +kernel
theorem dX4_findBestTrade_71 : decode cX4_findBestTrade 71 = .ok (.goto (-57), 3) := by decide +kernel
theorem dX4_findBestTrade_74 : decode cX4_findBestTrade 74 = .ok (.iinc 2 1, 3) := by decide +kernel
theorem dX4_findBestTrade_77 : decode cX4_findBestTrade 77 = .ok (.goto (-73), 3) := by decide +kernel
theorem dX4_findBestTrade_80 : decode cX4_findBestTrade 80 = .ok (.iload_n 1, 1) := by decide +kernel
theorem dX4_findBestTrade_81 : decode cX4_findBestTrade 81 = .ok (.ireturn, 1) := by decide +kernel
set_option maxRecDepth 20000 in
theorem ggX4_enviesAfterTrade_X4_exchange : GoodIn wsX4_enviesAfterTrade wsX4_exchange := goodIn_r _ [5, 6, 36, 37, 38, 39, 40] rfl (by decide +kernel)
set_option maxRecDepth 20000 in
theorem gX4_enviesAfterTrade_X4_exchange : GoodIn wsX4_enviesAfterTrade (wsV RX4 77 RX4 yX4_exchange wsX4_exchange) := goodIn_app (goodIn_of _ (by decide +kernel)) ggX4_enviesAfterTrade_X4_exchange
set_option maxRecDepth 20000 in
theorem ggX4_enviesAfterTrade_X4_enviesAmong : GoodIn wsX4_enviesAfterTrade wsX4_enviesAmong := goodIn_r _ [10, 11, 12, 13, 14, 15, 16, 4, 17, 18, 19, 20, 21, 22, 23, 24, 25, 26, 27, 28, 29, 6, 30, 31, 32, 33, 34, 35, 36, 37, 38, 39, 40, 41, 42, 43, 44, 45, 46, 47, 48, 49] rfl (by decide +kernel)
set_option maxRecDepth 20000 in
theorem gX4_enviesAfterTrade_X4_enviesAmong : GoodIn wsX4_enviesAfterTrade (wsV RX4 81 RX4 yX4_enviesAmong wsX4_enviesAmong) := goodIn_app (goodIn_of _ (by decide +kernel)) ggX4_enviesAfterTrade_X4_enviesAmong
theorem dX4_enviesAfterTrade_0 : decode cX4_enviesAfterTrade 0 = .ok (.aload_n 0, 1) := by decide +kernel
theorem dX4_enviesAfterTrade_1 : decode cX4_enviesAfterTrade 1 = .ok (.iload_n 1, 1) := by decide +kernel
theorem dX4_enviesAfterTrade_2 : decode cX4_enviesAfterTrade 2 = .ok (.iload_n 2, 1) := by decide +kernel
theorem dX4_enviesAfterTrade_3 : decode cX4_enviesAfterTrade 3 = .ok (.invokevirtual 77, 3) := by decide +kernel
theorem dX4_enviesAfterTrade_6 : decode cX4_enviesAfterTrade 6 = .ok (.aload_n 0, 1) := by decide +kernel
theorem dX4_enviesAfterTrade_7 : decode cX4_enviesAfterTrade 7 = .ok (.bipush 127, 2) := by decide +kernel
theorem dX4_enviesAfterTrade_9 : decode cX4_enviesAfterTrade 9 = .ok (.invokevirtual 81, 3) := by decide +kernel
theorem dX4_enviesAfterTrade_12 : decode cX4_enviesAfterTrade 12 = .ok (.istore_n 3, 1) := by decide +kernel
theorem dX4_enviesAfterTrade_13 : decode cX4_enviesAfterTrade 13 = .ok (.aload_n 0, 1) := by decide +kernel
theorem dX4_enviesAfterTrade_14 : decode cX4_enviesAfterTrade 14 = .ok (.iload_n 1, 1) := by decide +kernel
theorem dX4_enviesAfterTrade_15 : decode cX4_enviesAfterTrade 15 = .ok (.iload_n 2, 1) := by decide +kernel
theorem dX4_enviesAfterTrade_16 : decode cX4_enviesAfterTrade 16 = .ok (.invokevirtual 77, 3) := by decide +kernel
theorem dX4_enviesAfterTrade_19 : decode cX4_enviesAfterTrade 19 = .ok (.iload_n 3, 1) := by decide +kernel
theorem dX4_enviesAfterTrade_20 : decode cX4_enviesAfterTrade 20 = .ok (.ireturn, 1) := by decide +kernel
set_option maxRecDepth 20000 in
theorem ggX5_init_X1_init : GoodIn wsX5_init wsX1_init := goodIn_r _ [28, 29, 2, 3, 30, 31, 32, 33, 34, 35, 36, 37, 38, 39, 6, 40, 41, 42, 43, 44, 71, 72, 73, 74, 75, 76, 77, 78, 79] rfl (by decide +kernel)
set_option maxRecDepth 20000 in
theorem gX5_init_X1_init : GoodIn wsX5_init (wsX1_init) := ggX5_init_X1_init
set_option maxRecDepth 20000 in
theorem ggX5_init_X0_init : GoodIn wsX5_init wsX0_init := goodIn_r _ [47, 48, 2, 3, 30, 49, 50, 51, 87, 88, 89, 90, 91, 92, 93, 94] rfl (by decide +kernel)
set_option maxRecDepth 20000 in
theorem gX5_init_X0_init : GoodIn wsX5_init (wsX0_init) := ggX5_init_X0_init
set_option maxRecDepth 20000 in
theorem ggX5_init_X4_init : GoodIn wsX5_init wsX4_init := goodIn_r _ [54, 55, 2, 3, 30, 56, 57, 95, 96, 97, 98, 99] rfl (by decide +kernel)
set_option maxRecDepth 20000 in
theorem gX5_init_X4_init : GoodIn wsX5_init (wsX4_init) := ggX5_init_X4_init
set_option maxRecDepth 20000 in
theorem ggX5_init_X3_init : GoodIn wsX5_init wsX3_init := goodIn_r _ [59, 60, 2, 3, 30, 61, 62, 63, 100, 101, 102, 103, 104, 105, 106, 107] rfl (by decide +kernel)
set_option maxRecDepth 20000 in
theorem gX5_init_X3_init_n34 : GoodIn wsX5_init (wsX3_init) := ggX5_init_X3_init
set_option maxRecDepth 20000 in
theorem ggX5_init_X2_init : GoodIn wsX5_init wsX2_init := goodIn_r _ [66, 67, 2, 3, 68, 69, 5, 6, 70, 27, 28, 29, 30, 31, 32, 33, 34, 35, 36, 37, 38, 39, 40, 41, 42, 43, 44, 108, 109, 71, 72, 73, 74, 75, 76, 77, 78, 79] rfl (by decide +kernel)
set_option maxRecDepth 20000 in
theorem gX5_init_X2_init : GoodIn wsX5_init (wsX2_init) := ggX5_init_X2_init
theorem dX5_init_0 : decode cX5_init 0 = .ok (.aload_n 0, 1) := by decide +kernel
theorem dX5_init_1 : decode cX5_init 1 = .ok (.invokespecial 3, 3) := by decide +kernel
theorem dX5_init_4 : decode cX5_init 4 = .ok (.aload_n 0, 1) := by decide +kernel
theorem dX5_init_5 : decode cX5_init 5 = .ok (.new 9, 3) := by decide +kernel
theorem dX5_init_8 : decode cX5_init 8 = .ok (.dup, 1) := by decide +kernel
theorem dX5_init_9 : decode cX5_init 9 = .ok (.invokespecial 11, 3) := by decide +kernel
theorem dX5_init_12 : decode cX5_init 12 = .ok (.putfield 12, 3) := by decide +kernel
theorem dX5_init_15 : decode cX5_init 15 = .ok (.aload_n 0, 1) := by decide +kernel
theorem dX5_init_16 : decode cX5_init 16 = .ok (.new 16, 3) := by decide +kernel
theorem dX5_init_19 : decode cX5_init 19 = .ok (.dup, 1) := by decide +kernel
theorem dX5_init_20 : decode cX5_init 20 = .ok (.aload_n 0, 1) := by decide +kernel
theorem dX5_init_21 : decode cX5_init 21 = .ok (.getfield 12, 3) := by decide +kernel
theorem dX5_init_24 : decode cX5_init 24 = .ok (.invokespecial 18, 3) := by decide +kernel
theorem dX5_init_27 : decode cX5_init 27 = .ok (.putfield 21, 3) := by decide +kernel
theorem dX5_init_30 : decode cX5_init 30 = .ok (.aload_n 0, 1) := by decide +kernel
theorem dX5_init_31 : decode cX5_init 31 = .ok (.new 25, 3) := by decide +kernel
theorem dX5_init_34 : decode cX5_init 34 = .ok (.dup, 1) := by decide +kernel
theorem dX5_init_35 : decode cX5_init 35 = .ok (.aload_n 0, 1) := by decide +kernel
theorem dX5_init_36 : decode cX5_init 36 = .ok (.getfield 12, 3) := by decide +kernel
theorem dX5_init_39 : decode cX5_init 39 = .ok (.invokespecial 27, 3) := by decide +kernel
theorem dX5_init_42 : decode cX5_init 42 = .ok (.putfield 28, 3) := by decide +kernel
theorem dX5_init_45 : decode cX5_init 45 = .ok (.aload_n 0, 1) := by decide +kernel
theorem dX5_init_46 : decode cX5_init 46 = .ok (.new 32, 3) := by decide +kernel
theorem dX5_init_49 : decode cX5_init 49 = .ok (.dup, 1) := by decide +kernel
theorem dX5_init_50 : decode cX5_init 50 = .ok (.invokespecial 34, 3) := by decide +kernel
theorem dX5_init_53 : decode cX5_init 53 = .ok (.putfield 35, 3) := by decide +kernel
theorem dX5_init_56 : decode cX5_init 56 = .ok (.aload_n 0, 1) := by decide +kernel
theorem dX5_init_57 : decode cX5_init 57 = .ok (.new 39, 3) := by decide +kernel
theorem dX5_init_60 : decode cX5_init 60 = .ok (.dup, 1) := by decide +kernel
theorem dX5_init_61 : decode cX5_init 61 = .ok (.invokespecial 41, 3) := by decide +kernel
theorem dX5_init_64 : decode cX5_init 64 = .ok (.putfield 42, 3) := by decide +kernel
theorem dX5_init_67 : decode cX5_init 67 = .ok (.aload_n 0, 1) := by decide +kernel
theorem dX5_init_68 : decode cX5_init 68 = .ok (.new 9, 3) := by decide +kernel
theorem dX5_init_71 : decode cX5_init 71 = .ok (.dup, 1) := by decide +kernel
theorem dX5_init_72 : decode cX5_init 72 = .ok (.invokespecial 11, 3) := by decide +kernel
theorem dX5_init_75 : decode cX5_init 75 = .ok (.putfield 46, 3) := by decide +kernel
theorem dX5_init_78 : decode cX5_init 78 = .ok (.aload_n 0, 1) := by decide +kernel
theorem dX5_init_79 : decode cX5_init 79 = .ok (.iconst 0, 1) := by decide +kernel
theorem dX5_init_80 : decode cX5_init 80 = .ok (.putfield 49, 3) := by decide +kernel
theorem dX5_init_83 : decode cX5_init 83 = .ok (.return_, 1) := by decide +kernel
set_option maxRecDepth 20000 in
theorem ggX5_plant_X5_isPlot : GoodIn wsX5_plant wsX5_isPlot := goodIn_r _ [7] rfl (by decide +kernel)
set_option maxRecDepth 20000 in
theorem gX5_plant_X5_isPlot : GoodIn wsX5_plant (va_wsS RX5 53 yX5_isPlot wsX5_isPlot) := goodIn_app (goodIn_of _ (by decide +kernel)) ggX5_plant_X5_isPlot
set_option maxRecDepth 20000 in
theorem ggX5_plant_X5_isCrop : GoodIn wsX5_plant wsX5_isCrop := goodIn_r _ [10] rfl (by decide +kernel)
set_option maxRecDepth 20000 in
theorem gX5_plant_X5_isCrop : GoodIn wsX5_plant (va_wsS RX5 57 yX5_isCrop wsX5_isCrop) := goodIn_app (goodIn_of _ (by decide +kernel)) ggX5_plant_X5_isCrop
set_option maxRecDepth 20000 in
theorem ggX5_plant_X5_isDigit : GoodIn wsX5_plant wsX5_isDigit := goodIn_r _ [13] rfl (by decide +kernel)
set_option maxRecDepth 20000 in
theorem gX5_plant_X5_isDigit : GoodIn wsX5_plant (va_wsS RX5 60 yX5_isDigit wsX5_isDigit) := goodIn_app (goodIn_of _ (by decide +kernel)) ggX5_plant_X5_isDigit
set_option maxRecDepth 20000 in
theorem ggX5_plant_X2_record : GoodIn wsX5_plant wsX2_record := goodIn_r _ [18, 19, 20, 21, 22, 23, 17, 24, 25, 26, 27, 28, 29, 30, 31, 32, 33, 34, 35, 36, 37, 38, 39, 40, 41, 42, 67, 68, 58, 59, 60, 61, 62, 63, 64, 65, 66] rfl (by decide +kernel)
set_option maxRecDepth 20000 in
theorem gX5_plant_X2_record : GoodIn wsX5_plant (wsV RX5 67 RX2 yX2_record wsX2_record) := goodIn_app (goodIn_of _ (by decide +kernel)) ggX5_plant_X2_record
set_option maxRecDepth 20000 in
theorem ggX5_plant_X1_putAmount : GoodIn wsX5_plant wsX1_putAmount := goodIn_r _ [46, 30, 47, 48, 49, 28, 50, 35, 39, 58, 59, 60, 61, 62, 63, 64, 65, 66] rfl (by decide +kernel)
set_option maxRecDepth 20000 in
theorem gX5_plant_X1_putAmount : GoodIn wsX5_plant (wsV RX5 70 RX1 yX1_putAmount wsX1_putAmount) := goodIn_app (goodIn_of _ (by decide +kernel)) ggX5_plant_X1_putAmount
theorem dX5_plant_0 : decode cX5_plant 0 = .ok (.iload_n 1, 1) := by decide +kernel
theorem dX5_plant_1 : decode cX5_plant 1 = .ok (.invokestatic 53, 3) := by decide +kernel
theorem dX5_plant_4 : decode cX5_plant 4 = .ok (.ifCond .eq 10, 3) := by decide +kernel
theorem dX5_plant_7 : decode cX5_plant 7 = .ok (.iload_n 2, 1) := by decide +kernel
theorem dX5_plant_8 : decode cX5_plant 8 = .ok (.invokestatic 57, 3) := by decide +kernel
theorem dX5_plant_11 : decode cX5_plant 11 = .ok (.ifCond .ne 5, 3) := by decide +kernel
theorem dX5_plant_14 : decode cX5_plant 14 = .ok (.iconst (-1), 1) := by decide +kernel
theorem dX5_plant_15 : decode cX5_plant 15 = .ok (.ireturn, 1) := by decide +kernel
theorem dX5_plant_16 : decode cX5_plant 16 = .ok (.iload_n 3, 1) := by decide +kernel
theorem dX5_plant_17 : decode cX5_plant 17 = .ok (.invokestatic 60, 3) := by decide +kernel
theorem dX5_plant_20 : decode cX5_plant 20 = .ok (.ifCond .ne 6, 3) := by decide +kernel
theorem dX5_plant_23 : decode cX5_plant 23 = .ok (.bipush (-2), 2) := by decide +kernel
theorem dX5_plant_25 : decode cX5_plant 25 = .ok (.ireturn, 1) := by decide +kernel
theorem dX5_plant_26 : decode cX5_plant 26 = .ok (.aload_n 0, 1) := by decide +kernel
theorem dX5_plant_27 : decode cX5_plant 27 = .ok (.getfield 12, 3) := by decide +kernel
theorem dX5_plant_30 : decode cX5_plant 30 = .ok (.getfield 63, 3) := by decide +kernel
theorem dX5_plant_33 : decode cX5_plant 33 = .ok (.iload_n 1, 1) := by decide +kernel
theorem dX5_plant_34 : decode cX5_plant 34 = .ok (.iconst 4, 1) := by decide +kernel
theorem dX5_plant_35 : decode cX5_plant 35 = .ok (.imul, 1) := by decide +kernel
theorem dX5_plant_36 : decode cX5_plant 36 = .ok (.iload_n 2, 1) := by decide +kernel
theorem dX5_plant_37 : decode cX5_plant 37 = .ok (.iadd, 1) := by decide +kernel
theorem dX5_plant_38 : decode cX5_plant 38 = .ok (.iaload, 1) := by decide +kernel
theorem dX5_plant_39 : decode cX5_plant 39 = .ok (.istore 4, 2) := by decide +kernel
theorem dX5_plant_41 : decode cX5_plant 41 = .ok (.iload 4, 2) := by decide +kernel
theorem dX5_plant_43 : decode cX5_plant 43 = .ok (.iload_n 3, 1) := by decide +kernel
theorem dX5_plant_44 : decode cX5_plant 44 = .ok (.if_icmp .ne 6, 3) := by decide +kernel
theorem dX5_plant_47 : decode cX5_plant 47 = .ok (.bipush (-5), 2) := by decide +kernel
theorem dX5_plant_49 : decode cX5_plant 49 = .ok (.ireturn, 1) := by decide +kernel
theorem dX5_plant_50 : decode cX5_plant 50 = .ok (.aload_n 0, 1) := by decide +kernel
theorem dX5_plant_51 : decode cX5_plant 51 = .ok (.getfield 42, 3) := by decide +kernel
theorem dX5_plant_54 : decode cX5_plant 54 = .ok (.aload_n 0, 1) := by decide +kernel
theorem dX5_plant_55 : decode cX5_plant 55 = .ok (.getfield 12, 3) := by decide +kernel
theorem dX5_plant_58 : decode cX5_plant 58 = .ok (.invokevirtual 67, 3) := by decide +kernel
theorem dX5_plant_61 : decode cX5_plant 61 = .ok (.aload_n 0, 1) := by decide +kernel
theorem dX5_plant_62 : decode cX5_plant 62 = .ok (.getfield 12, 3) := by decide +kernel
theorem dX5_plant_65 : decode cX5_plant 65 = .ok (.iload_n 1, 1) := by decide +kernel
theorem dX5_plant_66 : decode cX5_plant 66 = .ok (.iload_n 2, 1) := by decide +kernel
theorem dX5_plant_67 : decode cX5_plant 67 = .ok (.iload_n 3, 1) := by decide +kernel
theorem dX5_plant_68 : decode cX5_plant 68 = .ok (.invokevirtual 70, 3) := by decide +kernel
theorem dX5_plant_71 : decode cX5_plant 71 = .ok (.iload 4, 2) := by decide +kernel
theorem dX5_plant_73 : decode cX5_plant 73 = .ok (.ireturn, 1) := by decide +kernel
set_option maxRecDepth 20000 in
theorem ggX5_weigh_X5_isCousin : GoodIn wsX5_weigh wsX5_isCousin := goodIn_r _ [7] rfl (by decide +kernel)
set_option maxRecDepth 20000 in
theorem gX5_weigh_X5_isCousin : GoodIn wsX5_weigh (va_wsS RX5 74 yX5_isCousin wsX5_isCousin) := goodIn_app (goodIn_of _ (by decide +kernel)) ggX5_weigh_X5_isCousin
set_option maxRecDepth 20000 in
theorem ggX5_weigh_X5_isCrop : GoodIn wsX5_weigh wsX5_isCrop := goodIn_r _ [10] rfl (by decide +kernel)
set_option maxRecDepth 20000 in
theorem gX5_weigh_X5_isCrop : GoodIn wsX5_weigh (va_wsS RX5 57 yX5_isCrop wsX5_isCrop) := goodIn_app (goodIn_of _ (by decide +kernel)) ggX5_weigh_X5_isCrop
set_option maxRecDepth 20000 in
theorem ggX5_weigh_X5_isDigit : GoodIn wsX5_weigh wsX5_isDigit := goodIn_r _ [13] rfl (by decide +kernel)
set_option maxRecDepth 20000 in
theorem gX5_weigh_X5_isDigit : GoodIn wsX5_weigh (va_wsS RX5 60 yX5_isDigit wsX5_isDigit) := goodIn_app (goodIn_of _ (by decide +kernel)) ggX5_weigh_X5_isDigit
set_option maxRecDepth 20000 in
theorem ggX5_weigh_X2_record : GoodIn wsX5_weigh wsX2_record := goodIn_r _ [18, 19, 20, 21, 22, 23, 17, 24, 25, 26, 27, 28, 29, 30, 31, 32, 33, 34, 35, 36, 37, 38, 39, 40, 41, 42, 71, 72, 62, 63, 64, 65, 66, 67, 68, 69, 70] rfl (by decide +kernel)
set_option maxRecDepth 20000 in
theorem gX5_weigh_X2_record : GoodIn wsX5_weigh (wsV RX5 67 RX2 yX2_record wsX2_record) := goodIn_app (goodIn_of _ (by decide +kernel)) ggX5_weigh_X2_record
set_option maxRecDepth 20000 in
theorem ggX5_weigh_X1_putWeight : GoodIn wsX5_weigh wsX1_putWeight := goodIn_r _ [46, 35, 47, 48, 49, 28, 50, 51, 52, 53, 54, 30, 39, 62, 63, 64, 65, 66, 67, 68, 69, 70] rfl (by decide +kernel)
set_option maxRecDepth 20000 in
theorem gX5_weigh_X1_putWeight : GoodIn wsX5_weigh (wsV RX5 80 RX1 yX1_putWeight wsX1_putWeight) := goodIn_app (goodIn_of _ (by decide +kernel)) ggX5_weigh_X1_putWeight
theorem dX5_weigh_0 : decode cX5_weigh 0 = .ok (.iload_n 1, 1) := by decide +kernel
theorem dX5_weigh_1 : decode cX5_weigh 1 = .ok (.invokestatic 74, 3) := by decide +kernel
theorem dX5_weigh_4 : decode cX5_weigh 4 = .ok (.ifCond .eq 10, 3) := by decide +kernel
theorem dX5_weigh_7 : decode cX5_weigh 7 = .ok (.iload_n 2, 1) := by decide +kernel
theorem dX5_weigh_8 : decode cX5_weigh 8 = .ok (.invokestatic 57, 3) := by decide +kernel
theorem dX5_weigh_11 : decode cX5_weigh 11 = .ok (.ifCond .ne 5, 3) := by decide +kernel
theorem dX5_weigh_14 : decode cX5_weigh 14 = .ok (.iconst (-1), 1) := by decide +kernel
theorem dX5_weigh_15 : decode cX5_weigh 15 = .ok (.ireturn, 1) := by decide +kernel
theorem dX5_weigh_16 : decode cX5_weigh 16 = .ok (.iload_n 3, 1) := by decide +kernel
theorem dX5_weigh_17 : decode cX5_weigh 17 = .ok (.invokestatic 60, 3) := by decide +kernel
theorem dX5_weigh_20 : decode cX5_weigh 20 = .ok (.ifCond .ne 6, 3) := by decide +kernel
theorem dX5_weigh_23 : decode cX5_weigh 23 = .ok (.bipush (-2), 2) := by decide +kernel
theorem dX5_weigh_25 : decode cX5_weigh 25 = .ok (.ireturn, 1) := by decide +kernel
theorem dX5_weigh_26 : decode cX5_weigh 26 = .ok (.aload_n 0, 1) := by decide +kernel
theorem dX5_weigh_27 : decode cX5_weigh 27 = .ok (.getfield 12, 3) := by decide +kernel
theorem dX5_weigh_30 : decode cX5_weigh 30 = .ok (.getfield 77, 3) := by decide +kernel
theorem dX5_weigh_33 : decode cX5_weigh 33 = .ok (.iload_n 1, 1) := by decide +kernel
theorem dX5_weigh_34 : decode cX5_weigh 34 = .ok (.iconst 4, 1) := by decide +kernel
theorem dX5_weigh_35 : decode cX5_weigh 35 = .ok (.imul, 1) := by decide +kernel
theorem dX5_weigh_36 : decode cX5_weigh 36 = .ok (.iload_n 2, 1) := by decide +kernel
theorem dX5_weigh_37 : decode cX5_weigh 37 = .ok (.iadd, 1) := by decide +kernel
theorem dX5_weigh_38 : decode cX5_weigh 38 = .ok (.iaload, 1) := by decide +kernel
theorem dX5_weigh_39 : decode cX5_weigh 39 = .ok (.istore 4, 2) := by decide +kernel
theorem dX5_weigh_41 : decode cX5_weigh 41 = .ok (.iload 4, 2) := by decide +kernel
theorem dX5_weigh_43 : decode cX5_weigh 43 = .ok (.iload_n 3, 1) := by decide +kernel
theorem dX5_weigh_44 : decode cX5_weigh 44 = .ok (.if_icmp .ne 6, 3) := by decide +kernel
theorem dX5_weigh_47 : decode cX5_weigh 47 = .ok (.bipush (-5), 2) := by decide +kernel
theorem dX5_weigh_49 : decode cX5_weigh 49 = .ok (.ireturn, 1) := by decide +kernel
theorem dX5_weigh_50 : decode cX5_weigh 50 = .ok (.aload_n 0, 1) := by decide +kernel
theorem dX5_weigh_51 : decode cX5_weigh 51 = .ok (.getfield 42, 3) := by decide +kernel
theorem dX5_weigh_54 : decode cX5_weigh 54 = .ok (.aload_n 0, 1) := by decide +kernel
theorem dX5_weigh_55 : decode cX5_weigh 55 = .ok (.getfield 12, 3) := by decide +kernel
theorem dX5_weigh_58 : decode cX5_weigh 58 = .ok (.invokevirtual 67, 3) := by decide +kernel
theorem dX5_weigh_61 : decode cX5_weigh 61 = .ok (.aload_n 0, 1) := by decide +kernel
theorem dX5_weigh_62 : decode cX5_weigh 62 = .ok (.getfield 12, 3) := by decide +kernel
theorem dX5_weigh_65 : decode cX5_weigh 65 = .ok (.iload_n 1, 1) := by decide +kernel
theorem dX5_weigh_66 : decode cX5_weigh 66 = .ok (.iload_n 2, 1) := by decide +kernel
theorem dX5_weigh_67 : decode cX5_weigh 67 = .ok (.iload_n 3, 1) := by decide +kernel
theorem dX5_weigh_68 : decode cX5_weigh 68 = .ok (.invokevirtual 80, 3) := by decide +kernel
theorem dX5_weigh_71 : decode cX5_weigh 71 = .ok (.iload 4, 2) := by decide +kernel
theorem dX5_weigh_73 : decode cX5_weigh 73 = .ok (.ireturn, 1) := by decide +kernel
set_option maxRecDepth 20000 in
theorem ggX5_grudge_X5_isCousin : GoodIn wsX5_grudge wsX5_isCousin := goodIn_r _ [6] rfl (by decide +kernel)
set_option maxRecDepth 20000 in
theorem gX5_grudge_X5_isCousin : GoodIn wsX5_grudge (va_wsS RX5 74 yX5_isCousin wsX5_isCousin) := goodIn_app (goodIn_of _ (by decide +kernel)) ggX5_grudge_X5_isCousin
set_option maxRecDepth 20000 in
theorem ggX5_grudge_X5_isDigit : GoodIn wsX5_grudge wsX5_isDigit := goodIn_r _ [9] rfl (by decide +kernel)
set_option maxRecDepth 20000 in
theorem gX5_grudge_X5_isDigit : GoodIn wsX5_grudge (va_wsS RX5 60 yX5_isDigit wsX5_isDigit) := goodIn_app (goodIn_of _ (by decide +kernel)) ggX5_grudge_X5_isDigit
set_option maxRecDepth 20000 in
theorem ggX5_grudge_X1_grudgeOf : GoodIn wsX5_grudge wsX1_grudgeOf := goodIn_r _ [14, 15, 54, 55, 56, 57, 58, 59, 60, 61, 62] rfl (by decide +kernel)
set_option maxRecDepth 20000 in
theorem gX5_grudge_X1_grudgeOf : GoodIn wsX5_grudge (wsV RX5 83 RX1 yX1_grudgeOf wsX1_grudgeOf) := goodIn_app (goodIn_of _ (by decide +kernel)) ggX5_grudge_X1_grudgeOf
set_option maxRecDepth 20000 in
theorem ggX5_grudge_X2_record : GoodIn wsX5_grudge wsX2_record := goodIn_r _ [20, 21, 22, 23, 24, 25, 19, 26, 27, 28, 29, 13, 30, 31, 32, 33, 34, 35, 36, 15, 37, 38, 39, 40, 41, 42, 63, 64, 54, 55, 56, 57, 58, 59, 60, 61, 62] rfl (by decide +kernel)
set_option maxRecDepth 20000 in
theorem gX5_grudge_X2_record : GoodIn wsX5_grudge (wsV RX5 67 RX2 yX2_record wsX2_record) := goodIn_app (goodIn_of _ (by decide +kernel)) ggX5_grudge_X2_record
set_option maxRecDepth 20000 in
theorem ggX5_grudge_X1_putGrudge : GoodIn wsX5_grudge wsX1_putGrudge := goodIn_r _ [46, 15, 54, 55, 56, 57, 58, 59, 60, 61, 62] rfl (by decide +kernel)
set_option maxRecDepth 20000 in
theorem gX5_grudge_X1_putGrudge : GoodIn wsX5_grudge (wsV RX5 87 RX1 yX1_putGrudge wsX1_putGrudge) := goodIn_app (goodIn_of _ (by decide +kernel)) ggX5_grudge_X1_putGrudge
theorem dX5_grudge_0 : decode cX5_grudge 0 = .ok (.iload_n 1, 1) := by decide +kernel
theorem dX5_grudge_1 : decode cX5_grudge 1 = .ok (.invokestatic 74, 3) := by decide +kernel
theorem dX5_grudge_4 : decode cX5_grudge 4 = .ok (.ifCond .eq 10, 3) := by decide +kernel
theorem dX5_grudge_7 : decode cX5_grudge 7 = .ok (.iload_n 2, 1) := by decide +kernel
theorem dX5_grudge_8 : decode cX5_grudge 8 = .ok (.invokestatic 74, 3) := by decide +kernel
theorem dX5_grudge_11 : decode cX5_grudge 11 = .ok (.ifCond .ne 5, 3) := by decide +kernel
theorem dX5_grudge_14 : decode cX5_grudge 14 = .ok (.iconst (-1), 1) := by decide +kernel
theorem dX5_grudge_15 : decode cX5_grudge 15 = .ok (.ireturn, 1) := by decide +kernel
theorem dX5_grudge_16 : decode cX5_grudge 16 = .ok (.iload_n 1, 1) := by decide +kernel
theorem dX5_grudge_17 : decode cX5_grudge 17 = .ok (.iload_n 2, 1) := by decide +kernel
theorem dX5_grudge_18 : decode cX5_grudge 18 = .ok (.if_icmp .eq 10, 3) := by decide +kernel
theorem dX5_grudge_21 : decode cX5_grudge 21 = .ok (.iload_n 3, 1) := by decide +kernel
theorem dX5_grudge_22 : decode cX5_grudge 22 = .ok (.invokestatic 60, 3) := by decide +kernel
theorem dX5_grudge_25 : decode cX5_grudge 25 = .ok (.ifCond .ne 6, 3) := by decide +kernel
theorem dX5_grudge_28 : decode cX5_grudge 28 = .ok (.bipush (-2), 2) := by decide +kernel
theorem dX5_grudge_30 : decode cX5_grudge 30 = .ok (.ireturn, 1) := by decide +kernel
theorem dX5_grudge_31 : decode cX5_grudge 31 = .ok (.aload_n 0, 1) := by decide +kernel
theorem dX5_grudge_32 : decode cX5_grudge 32 = .ok (.getfield 12, 3) := by decide +kernel
theorem dX5_grudge_35 : decode cX5_grudge 35 = .ok (.iload_n 1, 1) := by decide +kernel
theorem dX5_grudge_36 : decode cX5_grudge 36 = .ok (.iload_n 2, 1) := by decide +kernel
theorem dX5_grudge_37 : decode cX5_grudge 37 = .ok (.invokevirtual 83, 3) := by decide +kernel
theorem dX5_grudge_40 : decode cX5_grudge 40 = .ok (.istore 4, 2) := by decide +kernel
theorem dX5_grudge_42 : decode cX5_grudge 42 = .ok (.iload 4, 2) := by decide +kernel
theorem dX5_grudge_44 : decode cX5_grudge 44 = .ok (.iload_n 3, 1) := by decide +kernel
theorem dX5_grudge_45 : decode cX5_grudge 45 = .ok (.if_icmp .ne 6, 3) := by decide +kernel
theorem dX5_grudge_48 : decode cX5_grudge 48 = .ok (.bipush (-5), 2) := by decide +kernel
theorem dX5_grudge_50 : decode cX5_grudge 50 = .ok (.ireturn, 1) := by decide +kernel
theorem dX5_grudge_51 : decode cX5_grudge 51 = .ok (.aload_n 0, 1) := by decide +kernel
theorem dX5_grudge_52 : decode cX5_grudge 52 = .ok (.getfield 42, 3) := by decide +kernel
theorem dX5_grudge_55 : decode cX5_grudge 55 = .ok (.aload_n 0, 1) := by decide +kernel
theorem dX5_grudge_56 : decode cX5_grudge 56 = .ok (.getfield 12, 3) := by decide +kernel
theorem dX5_grudge_59 : decode cX5_grudge 59 = .ok (.invokevirtual 67, 3) := by decide +kernel
theorem dX5_grudge_62 : decode cX5_grudge 62 = .ok (.aload_n 0, 1) := by decide +kernel
theorem dX5_grudge_63 : decode cX5_grudge 63 = .ok (.getfield 12, 3) := by decide +kernel
theorem dX5_grudge_66 : decode cX5_grudge 66 = .ok (.iload_n 1, 1) := by decide +kernel
theorem dX5_grudge_67 : decode cX5_grudge 67 = .ok (.iload_n 2, 1) := by decide +kernel
theorem dX5_grudge_68 : decode cX5_grudge 68 = .ok (.iload_n 3, 1) := by decide +kernel
theorem dX5_grudge_69 : decode cX5_grudge 69 = .ok (.invokevirtual 87, 3) := by decide +kernel
theorem dX5_grudge_72 : decode cX5_grudge 72 = .ok (.iload 4, 2) := by decide +kernel
theorem dX5_grudge_74 : decode cX5_grudge 74 = .ok (.ireturn, 1) := by decide +kernel
set_option maxRecDepth 20000 in
theorem ggX5_set_X5_isSettingValue : GoodIn wsX5_set wsX5_isSettingValue := goodIn_r _ [7] rfl (by decide +kernel)
set_option maxRecDepth 20000 in
theorem gX5_set_X5_isSettingValue : GoodIn wsX5_set (va_wsS RX5 90 yX5_isSettingValue wsX5_isSettingValue) := goodIn_app (goodIn_of _ (by decide +kernel)) ggX5_set_X5_isSettingValue
set_option maxRecDepth 20000 in
theorem ggX5_set_X2_record : GoodIn wsX5_set wsX2_record := goodIn_r _ [12, 13, 14, 15, 16, 17, 11, 18, 19, 20, 21, 22, 23, 24, 25, 26, 27, 28, 29, 30, 31, 32, 33, 34, 35, 36, 53, 54, 44, 45, 46, 47, 48, 49, 50, 51, 52] rfl (by decide +kernel)
set_option maxRecDepth 20000 in
theorem gX5_set_X2_record : GoodIn wsX5_set (wsV RX5 67 RX2 yX2_record wsX2_record) := goodIn_app (goodIn_of _ (by decide +kernel)) ggX5_set_X2_record
theorem dX5_set_0 : decode cX5_set 0 = .ok (.iload_n 1, 1) := by decide +kernel
theorem dX5_set_1 : decode cX5_set 1 = .ok (.ifCond .lt 8, 3) := by decide +kernel
theorem dX5_set_4 : decode cX5_set 4 = .ok (.iload_n 1, 1) := by decide +kernel
theorem dX5_set_5 : decode cX5_set 5 = .ok (.iconst 2, 1) := by decide +kernel
theorem dX5_set_6 : decode cX5_set 6 = .ok (.if_icmp .lt 5, 3) := by decide +kernel
theorem dX5_set_9 : decode cX5_set 9 = .ok (.iconst (-1), 1) := by decide +kernel
theorem dX5_set_10 : decode cX5_set 10 = .ok (.ireturn, 1) := by decide +kernel
theorem dX5_set_11 : decode cX5_set 11 = .ok (.iload_n 1, 1) := by decide +kernel
theorem dX5_set_12 : decode cX5_set 12 = .ok (.iload_n 2, 1) := by decide +kernel
theorem dX5_set_13 : decode cX5_set 13 = .ok (.invokestatic 90, 3) := by decide +kernel
theorem dX5_set_16 : decode cX5_set 16 = .ok (.ifCond .ne 6, 3) := by decide +kernel
theorem dX5_set_19 : decode cX5_set 19 = .ok (.bipush (-2), 2) := by decide +kernel
theorem dX5_set_21 : decode cX5_set 21 = .ok (.ireturn, 1) := by decide +kernel
theorem dX5_set_22 : decode cX5_set 22 = .ok (.aload_n 0, 1) := by decide +kernel
theorem dX5_set_23 : decode cX5_set 23 = .ok (.getfield 12, 3) := by decide +kernel
theorem dX5_set_26 : decode cX5_set 26 = .ok (.getfield 94, 3) := by decide +kernel
theorem dX5_set_29 : decode cX5_set 29 = .ok (.iload_n 1, 1) := by decide +kernel
theorem dX5_set_30 : decode cX5_set 30 = .ok (.iaload, 1) := by decide +kernel
theorem dX5_set_31 : decode cX5_set 31 = .ok (.istore_n 3, 1) := by decide +kernel
theorem dX5_set_32 : decode cX5_set 32 = .ok (.iload_n 3, 1) := by decide +kernel
theorem dX5_set_33 : decode cX5_set 33 = .ok (.iload_n 2, 1) := by decide +kernel
theorem dX5_set_34 : decode cX5_set 34 = .ok (.if_icmp .ne 6, 3) := by decide +kernel
theorem dX5_set_37 : decode cX5_set 37 = .ok (.bipush (-5), 2) := by decide +kernel
theorem dX5_set_39 : decode cX5_set 39 = .ok (.ireturn, 1) := by decide +kernel
theorem dX5_set_40 : decode cX5_set 40 = .ok (.aload_n 0, 1) := by decide +kernel
theorem dX5_set_41 : decode cX5_set 41 = .ok (.getfield 42, 3) := by decide +kernel
theorem dX5_set_44 : decode cX5_set 44 = .ok (.aload_n 0, 1) := by decide +kernel
theorem dX5_set_45 : decode cX5_set 45 = .ok (.getfield 12, 3) := by decide +kernel
theorem dX5_set_48 : decode cX5_set 48 = .ok (.invokevirtual 67, 3) := by decide +kernel
theorem dX5_set_51 : decode cX5_set 51 = .ok (.aload_n 0, 1) := by decide +kernel
theorem dX5_set_52 : decode cX5_set 52 = .ok (.getfield 12, 3) := by decide +kernel
theorem dX5_set_55 : decode cX5_set 55 = .ok (.getfield 94, 3) := by decide +kernel
theorem dX5_set_58 : decode cX5_set 58 = .ok (.iload_n 1, 1) := by decide +kernel
theorem dX5_set_59 : decode cX5_set 59 = .ok (.iload_n 2, 1) := by decide +kernel
theorem dX5_set_60 : decode cX5_set 60 = .ok (.iastore, 1) := by decide +kernel
theorem dX5_set_61 : decode cX5_set 61 = .ok (.iload_n 3, 1) := by decide +kernel
theorem dX5_set_62 : decode cX5_set 62 = .ok (.ireturn, 1) := by decide +kernel
set_option maxRecDepth 20000 in
theorem ggX5_divide_X5_isParty : GoodIn wsX5_divide wsX5_isParty := goodIn_r _ [8] rfl (by decide +kernel)
set_option maxRecDepth 20000 in
theorem gX5_divide_X5_isParty : GoodIn wsX5_divide (va_wsS RX5 97 yX5_isParty wsX5_isParty) := goodIn_app (goodIn_of _ (by decide +kernel)) ggX5_divide_X5_isParty
set_option maxRecDepth 20000 in
theorem ggX5_divide_X2_record : GoodIn wsX5_divide wsX2_record := goodIn_r _ [13, 14, 15, 16, 17, 18, 12, 19, 20, 21, 22, 23, 24, 25, 26, 27, 28, 29, 30, 31, 32, 33, 34, 35, 36, 37, 136, 137, 138, 139, 140, 141, 142, 143, 144, 145, 146] rfl (by decide +kernel)
set_option maxRecDepth 20000 in
theorem gX5_divide_X2_record : GoodIn wsX5_divide (wsV RX5 67 RX2 yX2_record wsX2_record) := goodIn_app (goodIn_of _ (by decide +kernel)) ggX5_divide_X2_record
set_option maxRecDepth 20000 in
theorem ggX5_divide_X5_divideNow : GoodIn wsX5_divide wsX5_divideNow := goodIn_r _ [41, 3, 42, 2, 43, 44, 27, 28, 29, 45, 4, 46, 47, 48, 49, 50, 51, 52, 53, 54, 55, 56, 57, 58, 59, 60, 61, 62, 63, 64, 65, 66, 23, 67, 33, 68, 69, 70, 71, 31, 72, 73, 74, 75, 76, 77, 78, 79, 80, 81, 82, 83, 7, 84, 85, 86, 87, 88, 89, 90, 91, 92, 34, 93, 94, 95, 96, 97, 98, 99, 100, 101, 102, 103, 104, 105, 106, 107, 108, 109, 110, 111, 112, 113, 114, 115, 116, 117, 118, 119, 120, 121, 122, 123, 124, 125, 126, 127, 128, 129, 130, 131, 132, 133, 134, 135, 138, 139, 140, 141, 142, 143, 144, 145, 146] rfl (by decide +kernel)
set_option maxRecDepth 20000 in
theorem gX5_divide_X5_divideNow : GoodIn wsX5_divide (wsV RX5 100 RX5 yX5_divideNow wsX5_divideNow) := goodIn_app (goodIn_of _ (by decide +kernel)) ggX5_divide_X5_divideNow
theorem dX5_divide_0 : decode cX5_divide 0 = .ok (.iload_n 1, 1) := by decide +kernel
theorem dX5_divide_1 : decode cX5_divide 1 = .ok (.invokestatic 97, 3) := by decide +kernel
theorem dX5_divide_4 : decode cX5_divide 4 = .ok (.ifCond .ne 6, 3) := by decide +kernel
theorem dX5_divide_7 : decode cX5_divide 7 = .ok (.bipush (-2), 2) := by decide +kernel
theorem dX5_divide_9 : decode cX5_divide 9 = .ok (.ireturn, 1) := by decide +kernel
theorem dX5_divide_10 : decode cX5_divide 10 = .ok (.aload_n 0, 1) := by decide +kernel
theorem dX5_divide_11 : decode cX5_divide 11 = .ok (.getfield 42, 3) := by decide +kernel
theorem dX5_divide_14 : decode cX5_divide 14 = .ok (.aload_n 0, 1) := by decide +kernel
theorem dX5_divide_15 : decode cX5_divide 15 = .ok (.getfield 12, 3) := by decide +kernel
theorem dX5_divide_18 : decode cX5_divide 18 = .ok (.invokevirtual 67, 3) := by decide +kernel
theorem dX5_divide_21 : decode cX5_divide 21 = .ok (.aload_n 0, 1) := by decide +kernel
theorem dX5_divide_22 : decode cX5_divide 22 = .ok (.iload_n 1, 1) := by decide +kernel
theorem dX5_divide_23 : decode cX5_divide 23 = .ok (.invokevirtual 100, 3) := by decide +kernel
theorem dX5_divide_26 : decode cX5_divide 26 = .ok (.aload_n 0, 1) := by decide +kernel
theorem dX5_divide_27 : decode cX5_divide 27 = .ok (.getfield 21, 3) := by decide +kernel
theorem dX5_divide_30 : decode cX5_divide 30 = .ok (.getfield 104, 3) := by decide +kernel
theorem dX5_divide_33 : decode cX5_divide 33 = .ok (.ireturn, 1) := by decide +kernel
set_option maxRecDepth 20000 in
theorem ggX5_give_X5_isPlot : GoodIn wsX5_give wsX5_isPlot := goodIn_r _ [7] rfl (by decide +kernel)
set_option maxRecDepth 20000 in
theorem gX5_give_X5_isPlot : GoodIn wsX5_give (va_wsS RX5 53 yX5_isPlot wsX5_isPlot) := goodIn_app (goodIn_of _ (by decide +kernel)) ggX5_give_X5_isPlot
set_option maxRecDepth 20000 in
theorem ggX5_give_X5_isCousin : GoodIn wsX5_give wsX5_isCousin := goodIn_r _ [10] rfl (by decide +kernel)
set_option maxRecDepth 20000 in
theorem gX5_give_X5_isCousin : GoodIn wsX5_give (va_wsS RX5 74 yX5_isCousin wsX5_isCousin) := goodIn_app (goodIn_of _ (by decide +kernel)) ggX5_give_X5_isCousin
set_option maxRecDepth 20000 in
theorem ggX5_give_X2_record : GoodIn wsX5_give wsX2_record := goodIn_r _ [15, 16, 17, 18, 19, 20, 14, 21, 22, 23, 24, 25, 26, 27, 28, 29, 30, 31, 32, 33, 34, 35, 36, 37, 38, 39, 56, 57, 47, 48, 49, 50, 51, 52, 53, 54, 55] rfl (by decide +kernel)
set_option maxRecDepth 20000 in
theorem gX5_give_X2_record : GoodIn wsX5_give (wsV RX5 67 RX2 yX2_record wsX2_record) := goodIn_app (goodIn_of _ (by decide +kernel)) ggX5_give_X2_record
theorem dX5_give_0 : decode cX5_give 0 = .ok (.iload_n 1, 1) := by decide +kernel
theorem dX5_give_1 : decode cX5_give 1 = .ok (.invokestatic 53, 3) := by decide +kernel
theorem dX5_give_4 : decode cX5_give 4 = .ok (.ifCond .eq 16, 3) := by decide +kernel
theorem dX5_give_7 : decode cX5_give 7 = .ok (.iload_n 2, 1) := by decide +kernel
theorem dX5_give_8 : decode cX5_give 8 = .ok (.invokestatic 74, 3) := by decide +kernel
theorem dX5_give_11 : decode cX5_give 11 = .ok (.ifCond .ne 11, 3) := by decide +kernel
theorem dX5_give_14 : decode cX5_give 14 = .ok (.iload_n 2, 1) := by decide +kernel
theorem dX5_give_15 : decode cX5_give 15 = .ok (.bipush 7, 2) := by decide +kernel
theorem dX5_give_17 : decode cX5_give 17 = .ok (.if_icmp .eq 5, 3) := by decide +kernel
theorem dX5_give_20 : decode cX5_give 20 = .ok (.iconst (-1), 1) := by decide +kernel
theorem dX5_give_21 : decode cX5_give 21 = .ok (.ireturn, 1) := by decide +kernel
theorem dX5_give_22 : decode cX5_give 22 = .ok (.aload_n 0, 1) := by decide +kernel
theorem dX5_give_23 : decode cX5_give 23 = .ok (.getfield 12, 3) := by decide +kernel
theorem dX5_give_26 : decode cX5_give 26 = .ok (.getfield 108, 3) := by decide +kernel
theorem dX5_give_29 : decode cX5_give 29 = .ok (.iload_n 1, 1) := by decide +kernel
theorem dX5_give_30 : decode cX5_give 30 = .ok (.iaload, 1) := by decide +kernel
theorem dX5_give_31 : decode cX5_give 31 = .ok (.istore_n 3, 1) := by decide +kernel
theorem dX5_give_32 : decode cX5_give 32 = .ok (.iload_n 3, 1) := by decide +kernel
theorem dX5_give_33 : decode cX5_give 33 = .ok (.iload_n 2, 1) := by decide +kernel
theorem dX5_give_34 : decode cX5_give 34 = .ok (.if_icmp .ne 6, 3) := by decide +kernel
theorem dX5_give_37 : decode cX5_give 37 = .ok (.bipush (-5), 2) := by decide +kernel
theorem dX5_give_39 : decode cX5_give 39 = .ok (.ireturn, 1) := by decide +kernel
theorem dX5_give_40 : decode cX5_give 40 = .ok (.aload_n 0, 1) := by decide +kernel
theorem dX5_give_41 : decode cX5_give 41 = .ok (.getfield 42, 3) := by decide +kernel
theorem dX5_give_44 : decode cX5_give 44 = .ok (.aload_n 0, 1) := by decide +kernel
theorem dX5_give_45 : decode cX5_give 45 = .ok (.getfield 12, 3) := by decide +kernel
theorem dX5_give_48 : decode cX5_give 48 = .ok (.invokevirtual 67, 3) := by decide +kernel
theorem dX5_give_51 : decode cX5_give 51 = .ok (.aload_n 0, 1) := by decide +kernel
theorem dX5_give_52 : decode cX5_give 52 = .ok (.getfield 12, 3) := by decide +kernel
theorem dX5_give_55 : decode cX5_give 55 = .ok (.getfield 108, 3) := by decide +kernel
theorem dX5_give_58 : decode cX5_give 58 = .ok (.iload_n 1, 1) := by decide +kernel
theorem dX5_give_59 : decode cX5_give 59 = .ok (.iload_n 2, 1) := by decide +kernel
theorem dX5_give_60 : decode cX5_give 60 = .ok (.iastore, 1) := by decide +kernel
theorem dX5_give_61 : decode cX5_give 61 = .ok (.iload_n 3, 1) := by decide +kernel
theorem dX5_give_62 : decode cX5_give 62 = .ok (.ireturn, 1) := by decide +kernel
set_option maxRecDepth 20000 in
theorem ggX5_trade_X5_isCousin : GoodIn wsX5_trade wsX5_isCousin := goodIn_r _ [8] rfl (by decide +kernel)
set_option maxRecDepth 20000 in
theorem gX5_trade_X5_isCousin : GoodIn wsX5_trade (va_wsS RX5 74 yX5_isCousin wsX5_isCousin) := goodIn_app (goodIn_of _ (by decide +kernel)) ggX5_trade_X5_isCousin
set_option maxRecDepth 20000 in
theorem ggX5_trade_X4_measure : GoodIn wsX5_trade wsX4_measure := goodIn_r _ [13, 14, 15, 6, 7, 8, 16, 17, 18, 19, 20, 21, 114, 115, 116, 117, 118, 105, 106, 107, 108, 109, 110, 111, 112, 113] rfl (by decide +kernel)
set_option maxRecDepth 20000 in
theorem gX5_trade_X4_measure : GoodIn wsX5_trade (wsV RX5 111 RX4 yX4_measure wsX4_measure) := goodIn_app (goodIn_of _ (by decide +kernel)) ggX5_trade_X4_measure
set_option maxRecDepth 20000 in
theorem ggX5_trade_X4_whyNoTrade : GoodIn wsX5_trade wsX4_whyNoTrade := goodIn_r _ [25, 15, 26, 27, 28, 29, 19, 30, 31, 32, 33, 34, 12, 35, 14, 114, 115, 116, 117, 118, 105, 106, 107, 108, 109, 110, 111, 112, 113] rfl (by decide +kernel)
set_option maxRecDepth 20000 in
theorem gX5_trade_X4_whyNoTrade : GoodIn wsX5_trade (wsV RX5 115 RX4 yX4_whyNoTrade wsX4_whyNoTrade) := goodIn_app (goodIn_of _ (by decide +kernel)) ggX5_trade_X4_whyNoTrade
set_option maxRecDepth 20000 in
theorem ggX5_trade_X2_record : GoodIn wsX5_trade wsX2_record := goodIn_r _ [40, 41, 42, 43, 44, 45, 39, 46, 47, 48, 49, 19, 50, 51, 52, 53, 54, 55, 56, 31, 57, 58, 21, 59, 60, 61, 119, 120, 105, 106, 107, 108, 109, 110, 111, 112, 113] rfl (by decide +kernel)
set_option maxRecDepth 20000 in
theorem gX5_trade_X2_record : GoodIn wsX5_trade (wsV RX5 67 RX2 yX2_record wsX2_record) := goodIn_app (goodIn_of _ (by decide +kernel)) ggX5_trade_X2_record
set_option maxRecDepth 20000 in
theorem ggX5_trade_X5_tradeNow : GoodIn wsX5_trade wsX5_tradeNow := goodIn_r _ [65, 2, 66, 1, 67, 68, 69, 19, 70, 57, 71, 72, 73, 12, 74, 14, 98, 99, 100, 101, 102, 103, 104, 105, 106, 107, 108, 109, 110, 111, 112, 113, 114, 115, 116, 117, 118] rfl (by decide +kernel)
set_option maxRecDepth 20000 in
theorem gX5_trade_X5_tradeNow : GoodIn wsX5_trade (wsV RX5 118 RX5 yX5_tradeNow wsX5_tradeNow) := goodIn_app (goodIn_of _ (by decide +kernel)) ggX5_trade_X5_tradeNow
set_option maxRecDepth 20000 in
theorem ggX5_trade_X4_enviesAmong : GoodIn wsX5_trade wsX4_enviesAmong := goodIn_r _ [78, 79, 7, 80, 81, 82, 83, 12, 84, 85, 86, 87, 88, 89, 90, 91, 92, 93, 94, 95, 96, 14, 15, 97, 32, 33, 34, 35, 114, 115, 116, 117, 118, 105, 106, 107, 108, 109, 110, 111, 112, 113] rfl (by decide +kernel)
set_option maxRecDepth 20000 in
theorem gX5_trade_X4_enviesAmong : GoodIn wsX5_trade (wsV RX5 122 RX4 yX4_enviesAmong wsX4_enviesAmong) := goodIn_app (goodIn_of _ (by decide +kernel)) ggX5_trade_X4_enviesAmong
theorem dX5_trade_0 : decode cX5_trade 0 = .ok (.iload_n 1, 1) := by decide +kernel
theorem dX5_trade_1 : decode cX5_trade 1 = .ok (.invokestatic 74, 3) := by decide +kernel
theorem dX5_trade_4 : decode cX5_trade 4 = .ok (.ifCond .eq 10, 3) := by decide +kernel
theorem dX5_trade_7 : decode cX5_trade 7 = .ok (.iload_n 2, 1) := by decide +kernel
theorem dX5_trade_8 : decode cX5_trade 8 = .ok (.invokestatic 74, 3) := by decide +kernel
theorem dX5_trade_11 : decode cX5_trade 11 = .ok (.ifCond .ne 5, 3) := by decide +kernel
theorem dX5_trade_14 : decode cX5_trade 14 = .ok (.iconst (-1), 1) := by decide +kernel
theorem dX5_trade_15 : decode cX5_trade 15 = .ok (.ireturn, 1) := by decide +kernel
theorem dX5_trade_16 : decode cX5_trade 16 = .ok (.iload_n 1, 1) := by decide +kernel
theorem dX5_trade_17 : decode cX5_trade 17 = .ok (.iload_n 2, 1) := by decide +kernel
theorem dX5_trade_18 : decode cX5_trade 18 = .ok (.if_icmp .ne 6, 3) := by decide +kernel
theorem dX5_trade_21 : decode cX5_trade 21 = .ok (.bipush (-2), 2) := by decide +kernel
theorem dX5_trade_23 : decode cX5_trade 23 = .ok (.ireturn, 1) := by decide +kernel
theorem dX5_trade_24 : decode cX5_trade 24 = .ok (.aload_n 0, 1) := by decide +kernel
theorem dX5_trade_25 : decode cX5_trade 25 = .ok (.getfield 28, 3) := by decide +kernel
theorem dX5_trade_28 : decode cX5_trade 28 = .ok (.aload_n 0, 1) := by decide +kernel
theorem dX5_trade_29 : decode cX5_trade 29 = .ok (.getfield 12, 3) := by decide +kernel
theorem dX5_trade_32 : decode cX5_trade 32 = .ok (.getfield 108, 3) := by decide +kernel
theorem dX5_trade_35 : decode cX5_trade 35 = .ok (.invokevirtual 111, 3) := by decide +kernel
theorem dX5_trade_38 : decode cX5_trade 38 = .ok (.aload_n 0, 1) := by decide +kernel
theorem dX5_trade_39 : decode cX5_trade 39 = .ok (.getfield 28, 3) := by decide +kernel
theorem dX5_trade_42 : decode cX5_trade 42 = .ok (.iload_n 1, 1) := by decide +kernel
theorem dX5_trade_43 : decode cX5_trade 43 = .ok (.iload_n 2, 1) := by decide +kernel
theorem dX5_trade_44 : decode cX5_trade 44 = .ok (.invokevirtual 115, 3) := by decide +kernel
theorem dX5_trade_47 : decode cX5_trade 47 = .ok (.istore_n 3, 1) := by decide +kernel
theorem dX5_trade_48 : decode cX5_trade 48 = .ok (.iload_n 3, 1) := by decide +kernel
theorem dX5_trade_49 : decode cX5_trade 49 = .ok (.ifCond .eq 8, 3) := by decide +kernel
theorem dX5_trade_52 : decode cX5_trade 52 = .ok (.bipush (-10), 2) := by decide +kernel
theorem dX5_trade_54 : decode cX5_trade 54 = .ok (.iload_n 3, 1) := by decide +kernel
theorem dX5_trade_55 : decode cX5_trade 55 = .ok (.isub, 1) := by decide +kernel
theorem dX5_trade_56 : decode cX5_trade 56 = .ok (.ireturn, 1) := by decide +kernel
theorem dX5_trade_57 : decode cX5_trade 57 = .ok (.aload_n 0, 1) := by decide +kernel
theorem dX5_trade_58 : decode cX5_trade 58 = .ok (.getfield 42, 3) := by decide +kernel
