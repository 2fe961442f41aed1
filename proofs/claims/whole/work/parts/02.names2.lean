theorem dX6_worthFrom_28 : decode cX6_worthFrom 28 = .ok (.iload_n 3, 1) := by decide +kernel
theorem dX6_worthFrom_29 : decode cX6_worthFrom 29 = .ok (.ireturn, 1) := by decide +kernel
set_option maxRecDepth 20000 in
theorem ggX6_share_X6_worth : GoodIn wsX6_share wsX6_worth := goodIn_r _ [6, 1, 7, 8, 9, 10, 11, 12, 13, 14, 15] rfl (by decide +kernel)
set_option maxRecDepth 20000 in
theorem gX6_share_X6_worth : GoodIn wsX6_share (wsV RX6 33 RX6 yX6_worth wsX6_worth) := goodIn_app (goodIn_of _ (by decide +kernel)) ggX6_share_X6_worth
theorem dX6_share_0 : decode cX6_share 0 = .ok (.iconst 0, 1) := by decide +kernel
theorem dX6_share_1 : decode cX6_share 1 = .ok (.istore 4, 2) := by decide +kernel
theorem dX6_share_3 : decode cX6_share 3 = .ok (.iconst 0, 1) := by decide +kernel
theorem dX6_share_4 : decode cX6_share 4 = .ok (.istore 5, 2) := by decide +kernel
theorem dX6_share_6 : decode cX6_share 6 = .ok (.iload 5, 2) := by decide +kernel
theorem dX6_share_8 : decode cX6_share 8 = .ok (.bipush 24, 2) := by decide +kernel
theorem dX6_share_10 : decode cX6_share 10 = .ok (.if_icmp .ge 41, 3) := by decide +kernel
theorem dX6_share_13 : decode cX6_share 13 = .ok (.iload 4, 2) := by decide +kernel
theorem dX6_share_15 : decode cX6_share 15 = .ok (.aload_n 0, 1) := by decide +kernel
theorem dX6_share_16 : decode cX6_share 16 = .ok (.getfield 7, 3) := by decide +kernel
theorem dX6_share_19 : decode cX6_share 19 = .ok (.iload_n 1, 1) := by decide +kernel
theorem dX6_share_20 : decode cX6_share 20 = .ok (.bipush 96, 2) := by decide +kernel
theorem dX6_share_22 : decode cX6_share 22 = .ok (.iadd, 1) := by decide +kernel
theorem dX6_share_23 : decode cX6_share 23 = .ok (.iload 5, 2) := by decide +kernel
theorem dX6_share_25 : decode cX6_share 25 = .ok (.iadd, 1) := by decide +kernel
theorem dX6_share_26 : decode cX6_share 26 = .ok (.iaload, 1) := by decide +kernel
theorem dX6_share_27 : decode cX6_share 27 = .ok (.iload_n 3, 1) := by decide +kernel
theorem dX6_share_28 : decode cX6_share 28 = .ok (.if_icmp .ne 13, 3) := by decide +kernel
theorem dX6_share_31 : decode cX6_share 31 = .ok (.aload_n 0, 1) := by decide +kernel
theorem dX6_share_32 : decode cX6_share 32 = .ok (.iload_n 2, 1) := by decide +kernel
theorem dX6_share_33 : decode cX6_share 33 = .ok (.iload 5, 2) := by decide +kernel
theorem dX6_share_35 : decode cX6_share 35 = .ok (.invokevirtual 33, 3) := by decide +kernel
theorem dX6_share_38 : decode cX6_share 38 = .ok (.goto 4, 3) := by decide +kernel
theorem dX6_share_41 : decode cX6_share 41 = .ok (.iconst 0, 1) := by decide +kernel
theorem dX6_share_42 : decode cX6_share 42 = .ok (.iadd, 1) := by decide +kernel
theorem dX6_share_43 : decode cX6_share 43 = .ok (.istore 4, 2) := by decide +kernel
theorem dX6_share_45 : decode cX6_share 45 = .ok (.iinc 5 1, 3) := by decide +kernel
theorem dX6_share_48 : decode cX6_share 48 = .ok (.goto (-42), 3) := by decide +kernel
theorem dX6_share_51 : decode cX6_share 51 = .ok (.iload 4, 2) := by decide +kernel
theorem dX6_share_53 : decode cX6_share 53 = .ok (.ireturn, 1) := by decide +kernel
theorem dX6_grudgeOf_0 : decode cX6_grudgeOf 0 = .ok (.aload_n 0, 1) := by decide +kernel
theorem dX6_grudgeOf_1 : decode cX6_grudgeOf 1 = .ok (.getfield 7, 3) := by decide +kernel
theorem dX6_grudgeOf_4 : decode cX6_grudgeOf 4 = .ok (.sipush 148, 3) := by decide +kernel
theorem dX6_grudgeOf_7 : decode cX6_grudgeOf 7 = .ok (.bipush 7, 2) := by decide +kernel
theorem dX6_grudgeOf_9 : decode cX6_grudgeOf 9 = .ok (.iload_n 1, 1) := by decide +kernel
theorem dX6_grudgeOf_10 : decode cX6_grudgeOf 10 = .ok (.imul, 1) := by decide +kernel
theorem dX6_grudgeOf_11 : decode cX6_grudgeOf 11 = .ok (.iadd, 1) := by decide +kernel
theorem dX6_grudgeOf_12 : decode cX6_grudgeOf 12 = .ok (.iload_n 2, 1) := by decide +kernel
theorem dX6_grudgeOf_13 : decode cX6_grudgeOf 13 = .ok (.iadd, 1) := by decide +kernel
theorem dX6_grudgeOf_14 : decode cX6_grudgeOf 14 = .ok (.iaload, 1) := by decide +kernel
theorem dX6_grudgeOf_15 : decode cX6_grudgeOf 15 = .ok (.ireturn, 1) := by decide +kernel
set_option maxRecDepth 20000 in
theorem ggX6_seems_X6_share : GoodIn wsX6_seems wsX6_share := goodIn_r _ [5, 6, 7, 8, 9, 4, 10, 15, 16, 17, 18, 19, 20, 21, 22, 23] rfl (by decide +kernel)
set_option maxRecDepth 20000 in
theorem gX6_seems_X6_share : GoodIn wsX6_seems (wsV RX6 37 RX6 yX6_share wsX6_share) := goodIn_app (goodIn_of _ (by decide +kernel)) ggX6_seems_X6_share
set_option maxRecDepth 20000 in
theorem ggX6_seems_X6_grudgeOf : GoodIn wsX6_seems wsX6_grudgeOf := goodIn_r _ [14, 6, 15, 16, 17, 18, 19, 20, 21, 22, 23] rfl (by decide +kernel)
set_option maxRecDepth 20000 in
theorem gX6_seems_X6_grudgeOf : GoodIn wsX6_seems (wsV RX6 41 RX6 yX6_grudgeOf wsX6_grudgeOf) := goodIn_app (goodIn_of _ (by decide +kernel)) ggX6_seems_X6_grudgeOf
theorem dX6_seems_0 : decode cX6_seems 0 = .ok (.aload_n 0, 1) := by decide +kernel
theorem dX6_seems_1 : decode cX6_seems 1 = .ok (.iload_n 1, 1) := by decide +kernel
theorem dX6_seems_2 : decode cX6_seems 2 = .ok (.iload_n 2, 1) := by decide +kernel
theorem dX6_seems_3 : decode cX6_seems 3 = .ok (.iload_n 3, 1) := by decide +kernel
theorem dX6_seems_4 : decode cX6_seems 4 = .ok (.invokevirtual 37, 3) := by decide +kernel
theorem dX6_seems_7 : decode cX6_seems 7 = .ok (.bipush 10, 2) := by decide +kernel
theorem dX6_seems_9 : decode cX6_seems 9 = .ok (.aload_n 0, 1) := by decide +kernel
theorem dX6_seems_10 : decode cX6_seems 10 = .ok (.iload_n 2, 1) := by decide +kernel
theorem dX6_seems_11 : decode cX6_seems 11 = .ok (.iload_n 3, 1) := by decide +kernel
theorem dX6_seems_12 : decode cX6_seems 12 = .ok (.invokevirtual 41, 3) := by decide +kernel
theorem dX6_seems_15 : decode cX6_seems 15 = .ok (.iadd, 1) := by decide +kernel
theorem dX6_seems_16 : decode cX6_seems 16 = .ok (.imul, 1) := by decide +kernel
theorem dX6_seems_17 : decode cX6_seems 17 = .ok (.bipush 10, 2) := by decide +kernel
theorem dX6_seems_19 : decode cX6_seems 19 = .ok (.idiv, 1) := by decide +kernel
theorem dX6_seems_20 : decode cX6_seems 20 = .ok (.ireturn, 1) := by decide +kernel
set_option maxRecDepth 20000 in
theorem ggX6_envy_X6_seems : GoodIn wsX6_envy wsX6_seems := goodIn_r _ [5, 6, 7, 8, 4, 9, 10, 11, 12, 13, 14, 15, 16, 17, 18, 19, 20, 21, 22, 23, 24, 25, 26, 27] rfl (by decide +kernel)
set_option maxRecDepth 20000 in
theorem gX6_envy_X6_seems : GoodIn wsX6_envy (wsV RX6 44 RX6 yX6_seems wsX6_seems) := goodIn_app (goodIn_of _ (by decide +kernel)) ggX6_envy_X6_seems
set_option maxRecDepth 20000 in
theorem ggX6_envy_X6_share : GoodIn wsX6_envy wsX6_share := goodIn_r _ [9, 10, 11, 12, 13, 4, 14, 19, 20, 21, 22, 23, 24, 25, 26, 27] rfl (by decide +kernel)
set_option maxRecDepth 20000 in
theorem gX6_envy_X6_share : GoodIn wsX6_envy (wsV RX6 37 RX6 yX6_share wsX6_share) := goodIn_app (goodIn_of _ (by decide +kernel)) ggX6_envy_X6_share
theorem dX6_envy_0 : decode cX6_envy 0 = .ok (.aload_n 0, 1) := by decide +kernel
theorem dX6_envy_1 : decode cX6_envy 1 = .ok (.iload_n 1, 1) := by decide +kernel
theorem dX6_envy_2 : decode cX6_envy 2 = .ok (.iload_n 2, 1) := by decide +kernel
theorem dX6_envy_3 : decode cX6_envy 3 = .ok (.iload_n 3, 1) := by decide +kernel
theorem dX6_envy_4 : decode cX6_envy 4 = .ok (.invokevirtual 44, 3) := by decide +kernel
theorem dX6_envy_7 : decode cX6_envy 7 = .ok (.aload_n 0, 1) := by decide +kernel
theorem dX6_envy_8 : decode cX6_envy 8 = .ok (.iload_n 1, 1) := by decide +kernel
theorem dX6_envy_9 : decode cX6_envy 9 = .ok (.iload_n 2, 1) := by decide +kernel
theorem dX6_envy_10 : decode cX6_envy 10 = .ok (.iload_n 2, 1) := by decide +kernel
theorem dX6_envy_11 : decode cX6_envy 11 = .ok (.invokevirtual 37, 3) := by decide +kernel
theorem dX6_envy_14 : decode cX6_envy 14 = .ok (.isub, 1) := by decide +kernel
theorem dX6_envy_15 : decode cX6_envy 15 = .ok (.istore 4, 2) := by decide +kernel
theorem dX6_envy_17 : decode cX6_envy 17 = .ok (.iload_n 2, 1) := by decide +kernel
theorem dX6_envy_18 : decode cX6_envy 18 = .ok (.iload_n 3, 1) := by decide +kernel
theorem dX6_envy_19 : decode cX6_envy 19 = .ok (.if_icmp .eq 8, 3) := by decide +kernel
theorem dX6_envy_22 : decode cX6_envy 22 = .ok (.iload 4, 2) := by decide +kernel
theorem dX6_envy_24 : decode cX6_envy 24 = .ok (.ifCond .ge 7, 3) := by decide +kernel
theorem dX6_envy_27 : decode cX6_envy 27 = .ok (.iconst 0, 1) := by decide +kernel
theorem dX6_envy_28 : decode cX6_envy 28 = .ok (.goto 5, 3) := by decide +kernel
theorem dX6_envy_31 : decode cX6_envy 31 = .ok (.iload 4, 2) := by decide +kernel
theorem dX6_envy_33 : decode cX6_envy 33 = .ok (.ireturn, 1) := by decide +kernel
set_option maxRecDepth 20000 in
theorem ggX6_envies_X6_envy : GoodIn wsX6_envies wsX6_envy := goodIn_r _ [5, 6, 7, 8, 4, 9, 10, 11, 12, 13, 14, 15, 16, 17, 18, 19, 20, 21, 22, 23, 24, 25, 26, 27, 28, 29, 30, 31] rfl (by decide +kernel)
set_option maxRecDepth 20000 in
theorem gX6_envies_X6_envy : GoodIn wsX6_envies (wsV RX6 47 RX6 yX6_envy wsX6_envy) := goodIn_app (goodIn_of _ (by decide +kernel)) ggX6_envies_X6_envy
theorem dX6_envies_0 : decode cX6_envies 0 = .ok (.iconst 0, 1) := by decide +kernel
theorem dX6_envies_1 : decode cX6_envies 1 = .ok (.istore 4, 2) := by decide +kernel
theorem dX6_envies_3 : decode cX6_envies 3 = .ok (.iconst 0, 1) := by decide +kernel
theorem dX6_envies_4 : decode cX6_envies 4 = .ok (.istore 5, 2) := by decide +kernel
theorem dX6_envies_6 : decode cX6_envies 6 = .ok (.iload 5, 2) := by decide +kernel
theorem dX6_envies_8 : decode cX6_envies 8 = .ok (.bipush 49, 2) := by decide +kernel
theorem dX6_envies_10 : decode cX6_envies 10 = .ok (.if_icmp .ge 71, 3) := by decide +kernel
theorem dX6_envies_13 : decode cX6_envies 13 = .ok (.iload_n 2, 1) := by decide +kernel
theorem dX6_envies_14 : decode cX6_envies 14 = .ok (.iload 5, 2) := by decide +kernel
theorem dX6_envies_16 : decode cX6_envies 16 = .ok (.bipush 7, 2) := by decide +kernel
theorem dX6_envies_18 : decode cX6_envies 18 = .ok (.idiv, 1) := by decide +kernel
theorem dX6_envies_19 : decode cX6_envies 19 = .ok (.ishr, 1) := by decide +kernel
theorem dX6_envies_20 : decode cX6_envies 20 = .ok (.iconst 1, 1) := by decide +kernel
theorem dX6_envies_21 : decode cX6_envies 21 = .ok (.iand, 1) := by decide +kernel
theorem dX6_envies_22 : decode cX6_envies 22 = .ok (.iconst 1, 1) := by decide +kernel
theorem dX6_envies_23 : decode cX6_envies 23 = .ok (.if_icmp .ne 20, 3) := by decide +kernel
theorem dX6_envies_26 : decode cX6_envies 26 = .ok (.iload_n 3, 1) := by decide +kernel
theorem dX6_envies_27 : decode cX6_envies 27 = .ok (.iload 5, 2) := by decide +kernel
theorem dX6_envies_29 : decode cX6_envies 29 = .ok (.bipush 7, 2) := by decide +kernel
theorem dX6_envies_31 : decode cX6_envies 31 = .ok (.irem, 1) := by decide +kernel
theorem dX6_envies_32 : decode cX6_envies 32 = .ok (.ishr, 1) := by decide +kernel
theorem dX6_envies_33 : decode cX6_envies 33 = .ok (.iconst 1, 1) := by decide +kernel
theorem dX6_envies_34 : decode cX6_envies 34 = .ok (.iand, 1) := by decide +kernel
theorem dX6_envies_35 : decode cX6_envies 35 = .ok (.iconst 1, 1) := by decide +kernel
theorem dX6_envies_36 : decode cX6_envies 36 = .ok (.if_icmp .ne 7, 3) := by decide +kernel
theorem dX6_envies_39 : decode cX6_envies 39 = .ok (.iconst 1, 1) := by decide +kernel
theorem dX6_envies_40 : decode cX6_envies 40 = .ok (.goto 4, 3) := by decide +kernel
theorem dX6_envies_43 : decode cX6_envies 43 = .ok (.iconst 0, 1) := by decide +kernel
theorem dX6_envies_44 : decode cX6_envies 44 = .ok (.istore 6, 2) := by decide +kernel
theorem dX6_envies_46 : decode cX6_envies 46 = .ok (.iload 4, 2) := by decide +kernel
theorem dX6_envies_48 : decode cX6_envies 48 = .ok (.iload 6, 2) := by decide +kernel
theorem dX6_envies_50 : decode cX6_envies 50 = .ok (.ifCond .eq 21, 3) := by decide +kernel
theorem dX6_envies_53 : decode cX6_envies 53 = .ok (.aload_n 0, 1) := by decide +kernel
theorem dX6_envies_54 : decode cX6_envies 54 = .ok (.iload_n 1, 1) := by decide +kernel
theorem dX6_envies_55 : decode cX6_envies 55 = .ok (.iload 5, 2) := by decide +kernel
theorem dX6_envies_57 : decode cX6_envies 57 = .ok (.bipush 7, 2) := by decide +kernel
theorem dX6_envies_59 : decode cX6_envies 59 = .ok (.idiv, 1) := by decide +kernel
theorem dX6_envies_60 : decode cX6_envies 60 = .ok (.iload 5, 2) := by decide +kernel
theorem dX6_envies_62 : decode cX6_envies 62 = .ok (.bipush 7, 2) := by decide +kernel
theorem dX6_envies_64 : decode cX6_envies 64 = .ok (.irem, 1) := by decide +kernel
theorem dX6_envies_65 : decode cX6_envies 65 = .ok (.invokevirtual 47, 3) := by decide +kernel
theorem dX6_envies_68 : decode cX6_envies 68 = .ok (.goto 4, 3) := by decide +kernel
theorem dX6_envies_71 : decode cX6_envies 71 = .ok (.iconst 0, 1) := by decide +kernel
theorem dX6_envies_72 : decode cX6_envies 72 = .ok (.iadd, 1) := by decide +kernel
theorem dX6_envies_73 : decode cX6_envies 73 = .ok (.istore 4, 2) := by decide +kernel
theorem dX6_envies_75 : decode cX6_envies 75 = .ok (.iinc 5 1, 3) := by decide +kernel
theorem dX6_envies_78 : decode cX6_envies 78 = .ok (.goto (-72), 3) := by decide +kernel
theorem dX6_envies_81 : decode cX6_envies 81 = .ok (.iload 4, 2) := by decide +kernel
theorem dX6_envies_83 : decode cX6_envies 83 = .ok (.ireturn, 1) := by decide +kernel
set_option maxRecDepth 20000 in
theorem ggX6_allEnvies_X6_envies : GoodIn wsX6_allEnvies wsX6_envies := goodIn_r _ [5, 6, 7, 8, 4, 9, 10, 11, 12, 13, 14, 15, 16, 17, 18, 19, 20, 21, 22, 23, 24, 25, 26, 27, 28, 29, 30, 31, 32, 33, 34, 35] rfl (by decide +kernel)
set_option maxRecDepth 20000 in
theorem gX6_allEnvies_X6_envies : GoodIn wsX6_allEnvies (wsV RX6 50 RX6 yX6_envies wsX6_envies) := goodIn_app (goodIn_of _ (by decide +kernel)) ggX6_allEnvies_X6_envies
theorem dX6_allEnvies_0 : decode cX6_allEnvies 0 = .ok (.aload_n 0, 1) := by decide +kernel
theorem dX6_allEnvies_1 : decode cX6_allEnvies 1 = .ok (.iload_n 1, 1) := by decide +kernel
theorem dX6_allEnvies_2 : decode cX6_allEnvies 2 = .ok (.bipush 127, 2) := by decide +kernel
theorem dX6_allEnvies_4 : decode cX6_allEnvies 4 = .ok (.bipush 127, 2) := by decide +kernel
theorem dX6_allEnvies_6 : decode cX6_allEnvies 6 = .ok (.invokevirtual 50, 3) := by decide +kernel
theorem dX6_allEnvies_9 : decode cX6_allEnvies 9 = .ok (.ireturn, 1) := by decide +kernel
set_option maxRecDepth 20000 in
theorem ggX6_grudges_X6_grudgeOf : GoodIn wsX6_grudges wsX6_grudgeOf := goodIn_r _ [5, 6, 7, 8, 9, 10, 11, 12, 13, 14, 15] rfl (by decide +kernel)
set_option maxRecDepth 20000 in
theorem gX6_grudges_X6_grudgeOf : GoodIn wsX6_grudges (wsV RX6 41 RX6 yX6_grudgeOf wsX6_grudgeOf) := goodIn_app (goodIn_of _ (by decide +kernel)) ggX6_grudges_X6_grudgeOf
theorem dX6_grudges_0 : decode cX6_grudges 0 = .ok (.iconst 0, 1) := by decide +kernel
theorem dX6_grudges_1 : decode cX6_grudges 1 = .ok (.istore_n 2, 1) := by decide +kernel
theorem dX6_grudges_2 : decode cX6_grudges 2 = .ok (.iconst 0, 1) := by decide +kernel
theorem dX6_grudges_3 : decode cX6_grudges 3 = .ok (.istore_n 3, 1) := by decide +kernel
theorem dX6_grudges_4 : decode cX6_grudges 4 = .ok (.iload_n 3, 1) := by decide +kernel
theorem dX6_grudges_5 : decode cX6_grudges 5 = .ok (.bipush 7, 2) := by decide +kernel
theorem dX6_grudges_7 : decode cX6_grudges 7 = .ok (.if_icmp .ge 18, 3) := by decide +kernel
theorem dX6_grudges_10 : decode cX6_grudges 10 = .ok (.iload_n 2, 1) := by decide +kernel
theorem dX6_grudges_11 : decode cX6_grudges 11 = .ok (.aload_n 0, 1) := by decide +kernel
theorem dX6_grudges_12 : decode cX6_grudges 12 = .ok (.iload_n 1, 1) := by decide +kernel
theorem dX6_grudges_13 : decode cX6_grudges 13 = .ok (.iload_n 3, 1) := by decide +kernel
theorem dX6_grudges_14 : decode cX6_grudges 14 = .ok (.invokevirtual 41, 3) := by decide +kernel
theorem dX6_grudges_17 : decode cX6_grudges 17 = .ok (.iadd, 1) := by decide +kernel
theorem dX6_grudges_18 : decode cX6_grudges 18 = .ok (.istore_n 2, 1) := by decide +kernel
theorem dX6_grudges_19 : decode cX6_grudges 19 = .ok (.iinc 3 1, 3) := by decide +kernel
theorem dX6_grudges_22 : decode cX6_grudges 22 = .ok (.goto (-18), 3) := by decide +kernel
theorem dX6_grudges_25 : decode cX6_grudges 25 = .ok (.iload_n 2, 1) := by decide +kernel
theorem dX6_grudges_26 : decode cX6_grudges 26 = .ok (.ireturn, 1) := by decide +kernel
set_option maxRecDepth 20000 in
theorem ggX6_isAhead_X6_grudges : GoodIn wsX6_isAhead wsX6_grudges := goodIn_r _ [6, 7, 8, 9, 5, 10, 1, 11, 12, 13, 14, 15, 16, 17, 18, 19] rfl (by decide +kernel)
set_option maxRecDepth 20000 in
theorem gX6_isAhead_X6_grudges : GoodIn wsX6_isAhead (wsV RX6 53 RX6 yX6_grudges wsX6_grudges) := goodIn_app (goodIn_of _ (by decide +kernel)) ggX6_isAhead_X6_grudges
theorem dX6_isAhead_0 : decode cX6_isAhead 0 = .ok (.aload_n 0, 1) := by decide +kernel
theorem dX6_isAhead_1 : decode cX6_isAhead 1 = .ok (.getfield 7, 3) := by decide +kernel
theorem dX6_isAhead_4 : decode cX6_isAhead 4 = .ok (.sipush 197, 3) := by decide +kernel
theorem dX6_isAhead_7 : decode cX6_isAhead 7 = .ok (.iaload, 1) := by decide +kernel
theorem dX6_isAhead_8 : decode cX6_isAhead 8 = .ok (.ifCond .ne 7, 3) := by decide +kernel
theorem dX6_isAhead_11 : decode cX6_isAhead 11 = .ok (.iconst 0, 1) := by decide +kernel
theorem dX6_isAhead_12 : decode cX6_isAhead 12 = .ok (.goto 14, 3) := by decide +kernel
theorem dX6_isAhead_15 : decode cX6_isAhead 15 = .ok (.aload_n 0, 1) := by decide +kernel
theorem dX6_isAhead_16 : decode cX6_isAhead 16 = .ok (.iload_n 1, 1) := by decide +kernel
theorem dX6_isAhead_17 : decode cX6_isAhead 17 = .ok (.invokevirtual 53, 3) := by decide +kernel
theorem dX6_isAhead_20 : decode cX6_isAhead 20 = .ok (.aload_n 0, 1) := by decide +kernel
theorem dX6_isAhead_21 : decode cX6_isAhead 21 = .ok (.iload_n 2, 1) := by decide +kernel
theorem dX6_isAhead_22 : decode cX6_isAhead 22 = .ok (.invokevirtual 53, 3) := by decide +kernel
theorem dX6_isAhead_25 : decode cX6_isAhead 25 = .ok (.isub, 1) := by decide +kernel
theorem dX6_isAhead_26 : decode cX6_isAhead 26 = .ok (.istore_n 3, 1) := by decide +kernel
theorem dX6_isAhead_27 : decode cX6_isAhead 27 = .ok (.iload_n 3, 1) := by decide +kernel
theorem dX6_isAhead_28 : decode cX6_isAhead 28 = .ok (.ifCond .gt 12, 3) := by decide +kernel
theorem dX6_isAhead_31 : decode cX6_isAhead 31 = .ok (.iload_n 3, 1) := by decide +kernel
theorem dX6_isAhead_32 : decode cX6_isAhead 32 = .ok (.ifCond .ne 12, 3) := by decide +kernel
theorem dX6_isAhead_35 : decode cX6_isAhead 35 = .ok (.iload_n 1, 1) := by decide +kernel
theorem dX6_isAhead_36 : decode cX6_isAhead 36 = .ok (.iload_n 2, 1) := by decide +kernel
theorem dX6_isAhead_37 : decode cX6_isAhead 37 = .ok (.if_icmp .ge 7, 3) := by decide +kernel
theorem dX6_isAhead_40 : decode cX6_isAhead 40 = .ok (.iconst 1, 1) := by decide +kernel
theorem dX6_isAhead_41 : decode cX6_isAhead 41 = .ok (.goto 4, 3) := by decide +kernel
theorem dX6_isAhead_44 : decode cX6_isAhead 44 = .ok (.iconst 0, 1) := by decide +kernel
theorem dX6_isAhead_45 : decode cX6_isAhead 45 = .ok (.ireturn, 1) := by decide +kernel
set_option maxRecDepth 20000 in
theorem ggX6_placeOf_X6_isAhead : GoodIn wsX6_placeOf wsX6_isAhead := goodIn_r _ [5, 6, 7, 8, 9, 4, 10, 11, 12, 13, 14, 15, 16, 17, 18, 19, 20, 21, 22, 23] rfl (by decide +kernel)
set_option maxRecDepth 20000 in
theorem gX6_placeOf_X6_isAhead : GoodIn wsX6_placeOf (wsV RX6 57 RX6 yX6_isAhead wsX6_isAhead) := goodIn_app (goodIn_of _ (by decide +kernel)) ggX6_placeOf_X6_isAhead
theorem dX6_placeOf_0 : decode cX6_placeOf 0 = .ok (.iconst 0, 1) := by decide +kernel
theorem dX6_placeOf_1 : decode cX6_placeOf 1 = .ok (.istore_n 2, 1) := by decide +kernel
theorem dX6_placeOf_2 : decode cX6_placeOf 2 = .ok (.iconst 0, 1) := by decide +kernel
theorem dX6_placeOf_3 : decode cX6_placeOf 3 = .ok (.istore_n 3, 1) := by decide +kernel
theorem dX6_placeOf_4 : decode cX6_placeOf 4 = .ok (.iload_n 3, 1) := by decide +kernel
theorem dX6_placeOf_5 : decode cX6_placeOf 5 = .ok (.bipush 7, 2) := by decide +kernel
theorem dX6_placeOf_7 : decode cX6_placeOf 7 = .ok (.if_icmp .ge 26, 3) := by decide +kernel
theorem dX6_placeOf_10 : decode cX6_placeOf 10 = .ok (.iload_n 2, 1) := by decide +kernel
theorem dX6_placeOf_11 : decode cX6_placeOf 11 = .ok (.aload_n 0, 1) := by decide +kernel
theorem dX6_placeOf_12 : decode cX6_placeOf 12 = .ok (.iload_n 3, 1) := by decide +kernel
theorem dX6_placeOf_13 : decode cX6_placeOf 13 = .ok (.iload_n 1, 1) := by decide +kernel
theorem dX6_placeOf_14 : decode cX6_placeOf 14 = .ok (.invokevirtual 57, 3) := by decide +kernel
theorem dX6_placeOf_17 : decode cX6_placeOf 17 = .ok (.ifCond .eq 7, 3) := by decide +kernel
theorem dX6_placeOf_20 : decode cX6_placeOf 20 = .ok (.iconst 1, 1) := by decide +kernel
theorem dX6_placeOf_21 : decode cX6_placeOf 21 = .ok (.goto 4, 3) := by decide +kernel
theorem dX6_placeOf_24 : decode cX6_placeOf 24 = .ok (.iconst 0, 1) := by decide +kernel
theorem dX6_placeOf_25 : decode cX6_placeOf 25 = .ok (.iadd, 1) := by decide +kernel
theorem dX6_placeOf_26 : decode cX6_placeOf 26 = .ok (.istore_n 2, 1) := by decide +kernel
theorem dX6_placeOf_27 : decode cX6_placeOf 27 = .ok (.iinc 3 1, 3) := by decide +kernel
theorem dX6_placeOf_30 : decode cX6_placeOf 30 = .ok (.goto (-26), 3) := by decide +kernel
theorem dX6_placeOf_33 : decode cX6_placeOf 33 = .ok (.iload_n 2, 1) := by decide +kernel
theorem dX6_placeOf_34 : decode cX6_placeOf 34 = .ok (.ireturn, 1) := by decide +kernel
set_option maxRecDepth 20000 in
theorem ggX6_orders_X6_placeOf : GoodIn wsX6_orders wsX6_placeOf := goodIn_r _ [6, 7, 8, 9, 5, 10, 11, 12, 13, 14, 15, 16, 17, 18, 19, 20, 21, 22, 23, 24, 25, 26, 27, 28] rfl (by decide +kernel)
set_option maxRecDepth 20000 in
theorem gX6_orders_X6_placeOf : GoodIn wsX6_orders (wsV RX6 61 RX6 yX6_placeOf wsX6_placeOf) := goodIn_app (goodIn_of _ (by decide +kernel)) ggX6_orders_X6_placeOf
theorem dX6_orders_0 : decode cX6_orders 0 = .ok (.iconst 0, 1) := by decide +kernel
theorem dX6_orders_1 : decode cX6_orders 1 = .ok (.istore_n 1, 1) := by decide +kernel
theorem dX6_orders_2 : decode cX6_orders 2 = .ok (.iload_n 1, 1) := by decide +kernel
theorem dX6_orders_3 : decode cX6_orders 3 = .ok (.bipush 7, 2) := by decide +kernel
theorem dX6_orders_5 : decode cX6_orders 5 = .ok (.if_icmp .ge 20, 3) := by decide +kernel
theorem dX6_orders_8 : decode cX6_orders 8 = .ok (.aload_n 0, 1) := by decide +kernel
theorem dX6_orders_9 : decode cX6_orders 9 = .ok (.getfield 22, 3) := by decide +kernel
theorem dX6_orders_12 : decode cX6_orders 12 = .ok (.aload_n 0, 1) := by decide +kernel
theorem dX6_orders_13 : decode cX6_orders 13 = .ok (.iload_n 1, 1) := by decide +kernel
theorem dX6_orders_14 : decode cX6_orders 14 = .ok (.invokevirtual 61, 3) := by decide +kernel
theorem dX6_orders_17 : decode cX6_orders 17 = .ok (.iload_n 1, 1) := by decide +kernel
theorem dX6_orders_18 : decode cX6_orders 18 = .ok (.iastore, 1) := by decide +kernel
theorem dX6_orders_19 : decode cX6_orders 19 = .ok (.iinc 1 1, 3) := by decide +kernel
theorem dX6_orders_22 : decode cX6_orders 22 = .ok (.goto (-20), 3) := by decide +kernel
theorem dX6_orders_25 : decode cX6_orders 25 = .ok (.return_, 1) := by decide +kernel
theorem dX6_ones_0 : decode cX6_ones 0 = .ok (.iconst 0, 1) := by decide +kernel
theorem dX6_ones_1 : decode cX6_ones 1 = .ok (.istore_n 1, 1) := by decide +kernel
theorem dX6_ones_2 : decode cX6_ones 2 = .ok (.iconst 0, 1) := by decide +kernel
theorem dX6_ones_3 : decode cX6_ones 3 = .ok (.istore_n 2, 1) := by decide +kernel
theorem dX6_ones_4 : decode cX6_ones 4 = .ok (.iload_n 2, 1) := by decide +kernel
theorem dX6_ones_5 : decode cX6_ones 5 = .ok (.bipush 7, 2) := by decide +kernel
theorem dX6_ones_7 : decode cX6_ones 7 = .ok (.if_icmp .ge 17, 3) := by decide +kernel
theorem dX6_ones_10 : decode cX6_ones 10 = .ok (.iload_n 1, 1) := by decide +kernel
theorem dX6_ones_11 : decode cX6_ones 11 = .ok (.iload_n 0, 1) := by decide +kernel
theorem dX6_ones_12 : decode cX6_ones 12 = .ok (.iload_n 2, 1) := by decide +kernel
theorem dX6_ones_13 : decode cX6_ones 13 = .ok (.ishr, 1) := by decide +kernel
theorem dX6_ones_14 : decode cX6_ones 14 = .ok (.iconst 1, 1) := by decide +kernel
theorem dX6_ones_15 : decode cX6_ones 15 = .ok (.iand, 1) := by decide +kernel
theorem dX6_ones_16 : decode cX6_ones 16 = .ok (.iadd, 1) := by decide +kernel
theorem dX6_ones_17 : decode cX6_ones 17 = .ok (.istore_n 1, 1) := by decide +kernel
theorem dX6_ones_18 : decode cX6_ones 18 = .ok (.iinc 2 1, 3) := by decide +kernel
theorem dX6_ones_21 : decode cX6_ones 21 = .ok (.goto (-17), 3) := by decide +kernel
theorem dX6_ones_24 : decode cX6_ones 24 = .ok (.iload_n 1, 1) := by decide +kernel
theorem dX6_ones_25 : decode cX6_ones 25 = .ok (.ireturn, 1) := by decide +kernel
set_option maxRecDepth 20000 in
theorem ggX6_fair_X6_worthFrom : GoodIn wsX6_fair wsX6_worthFrom := goodIn_r _ [5, 6, 7, 8, 4, 9, 10, 11, 12, 13, 14, 15, 16, 17, 18, 19] rfl (by decide +kernel)
set_option maxRecDepth 20000 in
theorem gX6_fair_X6_worthFrom : GoodIn wsX6_fair (wsV RX6 64 RX6 yX6_worthFrom wsX6_worthFrom) := goodIn_app (goodIn_of _ (by decide +kernel)) ggX6_fair_X6_worthFrom
set_option maxRecDepth 20000 in
theorem ggX6_fair_X6_worth : GoodIn wsX6_fair wsX6_worth := goodIn_r _ [9, 10, 11, 12, 13, 14, 15, 16, 17, 18, 19] rfl (by decide +kernel)
set_option maxRecDepth 20000 in
theorem gX6_fair_X6_worth : GoodIn wsX6_fair (wsV RX6 33 RX6 yX6_worth wsX6_worth) := goodIn_app (goodIn_of _ (by decide +kernel)) ggX6_fair_X6_worth
theorem dX6_fair_0 : decode cX6_fair 0 = .ok (.aload_n 0, 1) := by decide +kernel
theorem dX6_fair_1 : decode cX6_fair 1 = .ok (.iload_n 1, 1) := by decide +kernel
theorem dX6_fair_2 : decode cX6_fair 2 = .ok (.iload_n 2, 1) := by decide +kernel
theorem dX6_fair_3 : decode cX6_fair 3 = .ok (.invokevirtual 64, 3) := by decide +kernel
theorem dX6_fair_6 : decode cX6_fair 6 = .ok (.istore 4, 2) := by decide +kernel
theorem dX6_fair_8 : decode cX6_fair 8 = .ok (.iconst 0, 1) := by decide +kernel
theorem dX6_fair_9 : decode cX6_fair 9 = .ok (.istore 5, 2) := by decide +kernel
theorem dX6_fair_11 : decode cX6_fair 11 = .ok (.iconst 0, 1) := by decide +kernel
theorem dX6_fair_12 : decode cX6_fair 12 = .ok (.istore 6, 2) := by decide +kernel
theorem dX6_fair_14 : decode cX6_fair 14 = .ok (.iload 6, 2) := by decide +kernel
theorem dX6_fair_16 : decode cX6_fair 16 = .ok (.iload_n 3, 1) := by decide +kernel
theorem dX6_fair_17 : decode cX6_fair 17 = .ok (.imul, 1) := by decide +kernel
theorem dX6_fair_18 : decode cX6_fair 18 = .ok (.iload 4, 2) := by decide +kernel
theorem dX6_fair_20 : decode cX6_fair 20 = .ok (.if_icmp .ge 23, 3) := by decide +kernel
theorem dX6_fair_23 : decode cX6_fair 23 = .ok (.iload 6, 2) := by decide +kernel
theorem dX6_fair_25 : decode cX6_fair 25 = .ok (.aload_n 0, 1) := by decide +kernel
theorem dX6_fair_26 : decode cX6_fair 26 = .ok (.iload_n 1, 1) := by decide +kernel
theorem dX6_fair_27 : decode cX6_fair 27 = .ok (.iload_n 2, 1) := by decide +kernel
theorem dX6_fair_28 : decode cX6_fair 28 = .ok (.iload 5, 2) := by decide +kernel
theorem dX6_fair_30 : decode cX6_fair 30 = .ok (.iadd, 1) := by decide +kernel
theorem dX6_fair_31 : decode cX6_fair 31 = .ok (.invokevirtual 33, 3) := by decide +kernel
theorem dX6_fair_34 : decode cX6_fair 34 = .ok (.iadd, 1) := by decide +kernel
theorem dX6_fair_35 : decode cX6_fair 35 = .ok (.istore 6, 2) := by decide +kernel
theorem dX6_fair_37 : decode cX6_fair 37 = .ok (.iinc 5 1, 3) := by decide +kernel
theorem dX6_fair_40 : decode cX6_fair 40 = .ok (.goto (-26), 3) := by decide +kernel
theorem dX6_fair_43 : decode cX6_fair 43 = .ok (.iload 5, 2) := by decide +kernel
theorem dX6_fair_45 : decode cX6_fair 45 = .ok (.ireturn, 1) := by decide +kernel
set_option maxRecDepth 20000 in
theorem ggX6_round_X6_ones : GoodIn wsX6_round wsX6_ones := goodIn_r _ [6] rfl (by decide +kernel)
set_option maxRecDepth 20000 in
theorem gX6_round_X6_ones : GoodIn wsX6_round (va_wsS RX6 67 yX6_ones wsX6_ones) := goodIn_app (goodIn_of _ (by decide +kernel)) ggX6_round_X6_ones
set_option maxRecDepth 20000 in
theorem ggX6_round_X6_fair : GoodIn wsX6_round wsX6_fair := goodIn_r _ [10, 11, 12, 13, 5, 14, 15, 16, 17, 18, 2, 23, 24, 25, 26, 27, 28, 29, 30, 31] rfl (by decide +kernel)
set_option maxRecDepth 20000 in
theorem gX6_round_X6_fair : GoodIn wsX6_round (wsV RX6 70 RX6 yX6_fair wsX6_fair) := goodIn_app (goodIn_of _ (by decide +kernel)) ggX6_round_X6_fair
set_option maxRecDepth 20000 in
theorem ggX6_round_X6_grudgeOf : GoodIn wsX6_round wsX6_grudgeOf := goodIn_r _ [22, 2, 23, 24, 25, 26, 27, 28, 29, 30, 31] rfl (by decide +kernel)
set_option maxRecDepth 20000 in
theorem gX6_round_X6_grudgeOf : GoodIn wsX6_round (wsV RX6 41 RX6 yX6_grudgeOf wsX6_grudgeOf) := goodIn_app (goodIn_of _ (by decide +kernel)) ggX6_round_X6_grudgeOf
theorem dX6_round_0 : decode cX6_round 0 = .ok (.iload_n 3, 1) := by decide +kernel
theorem dX6_round_1 : decode cX6_round 1 = .ok (.invokestatic 67, 3) := by decide +kernel
theorem dX6_round_4 : decode cX6_round 4 = .ok (.istore 4, 2) := by decide +kernel
theorem dX6_round_6 : decode cX6_round 6 = .ok (.bipush 7, 2) := by decide +kernel
theorem dX6_round_8 : decode cX6_round 8 = .ok (.istore 5, 2) := by decide +kernel
theorem dX6_round_10 : decode cX6_round 10 = .ok (.iconst 0, 1) := by decide +kernel
theorem dX6_round_11 : decode cX6_round 11 = .ok (.istore 6, 2) := by decide +kernel
theorem dX6_round_13 : decode cX6_round 13 = .ok (.iconst 0, 1) := by decide +kernel
theorem dX6_round_14 : decode cX6_round 14 = .ok (.istore 7, 2) := by decide +kernel
theorem dX6_round_16 : decode cX6_round 16 = .ok (.iload 7, 2) := by decide +kernel
theorem dX6_round_18 : decode cX6_round 18 = .ok (.bipush 7, 2) := by decide +kernel
theorem dX6_round_20 : decode cX6_round 20 = .ok (.if_icmp .ge 221, 3) := by decide +kernel
theorem dX6_round_23 : decode cX6_round 23 = .ok (.aload_n 0, 1) := by decide +kernel
theorem dX6_round_24 : decode cX6_round 24 = .ok (.getfield 22, 3) := by decide +kernel
theorem dX6_round_27 : decode cX6_round 27 = .ok (.iload 7, 2) := by decide +kernel
theorem dX6_round_29 : decode cX6_round 29 = .ok (.iaload, 1) := by decide +kernel
theorem dX6_round_30 : decode cX6_round 30 = .ok (.istore 8, 2) := by decide +kernel
theorem dX6_round_32 : decode cX6_round 32 = .ok (.iload_n 3, 1) := by decide +kernel
theorem dX6_round_33 : decode cX6_round 33 = .ok (.iload 8, 2) := by decide +kernel
theorem dX6_round_35 : decode cX6_round 35 = .ok (.ishr, 1) := by decide +kernel
theorem dX6_round_36 : decode cX6_round 36 = .ok (.iconst 1, 1) := by decide +kernel
theorem dX6_round_37 : decode cX6_round 37 = .ok (.iand, 1) := by decide +kernel
theorem dX6_round_38 : decode cX6_round 38 = .ok (.iconst 1, 1) := by decide +kernel
theorem dX6_round_39 : decode cX6_round 39 = .ok (.if_icmp .ne 196, 3) := by decide +kernel
theorem dX6_round_42 : decode cX6_round 42 = .ok (.aload_n 0, 1) := by decide +kernel
theorem dX6_round_43 : decode cX6_round 43 = .ok (.iload 8, 2) := by decide +kernel
theorem dX6_round_45 : decode cX6_round 45 = .ok (.iload_n 2, 1) := by decide +kernel
theorem dX6_round_46 : decode cX6_round 46 = .ok (.iload 4, 2) := by decide +kernel
theorem dX6_round_48 : decode cX6_round 48 = .ok (.invokevirtual 70, 3) := by decide +kernel
theorem dX6_round_51 : decode cX6_round 51 = .ok (.istore 9, 2) := by decide +kernel
theorem dX6_round_53 : decode cX6_round 53 = .ok (.iload 5, 2) := by decide +kernel
theorem dX6_round_55 : decode cX6_round 55 = .ok (.bipush 7, 2) := by decide +kernel
theorem dX6_round_57 : decode cX6_round 57 = .ok (.if_icmp .ne 7, 3) := by decide +kernel
theorem dX6_round_60 : decode cX6_round 60 = .ok (.iconst 1, 1) := by decide +kernel
theorem dX6_round_61 : decode cX6_round 61 = .ok (.goto 4, 3) := by decide +kernel
theorem dX6_round_64 : decode cX6_round 64 = .ok (.iconst 0, 1) := by decide +kernel
theorem dX6_round_65 : decode cX6_round 65 = .ok (.istore 10, 2) := by decide +kernel
theorem dX6_round_67 : decode cX6_round 67 = .ok (.iload 10, 2) := by decide +kernel
theorem dX6_round_69 : decode cX6_round 69 = .ok (.ifCond .ne 14, 3) := by decide +kernel
theorem dX6_round_72 : decode cX6_round 72 = .ok (.iload 9, 2) := by decide +kernel
theorem dX6_round_74 : decode cX6_round 74 = .ok (.iload 6, 2) := by decide +kernel
theorem dX6_round_76 : decode cX6_round 76 = .ok (.if_icmp .ge 7, 3) := by decide +kernel
theorem dX6_round_79 : decode cX6_round 79 = .ok (.iconst 1, 1) := by decide +kernel
theorem dX6_round_80 : decode cX6_round 80 = .ok (.goto 4, 3) := by decide +kernel
theorem dX6_round_83 : decode cX6_round 83 = .ok (.iconst 0, 1) := by decide +kernel
theorem dX6_round_84 : decode cX6_round 84 = .ok (.istore 11, 2) := by decide +kernel
theorem dX6_round_86 : decode cX6_round 86 = .ok (.iload 10, 2) := by decide +kernel
theorem dX6_round_88 : decode cX6_round 88 = .ok (.ifCond .ne 38, 3) := by decide +kernel
theorem dX6_round_91 : decode cX6_round 91 = .ok (.iload 9, 2) := by decide +kernel
theorem dX6_round_93 : decode cX6_round 93 = .ok (.iload 6, 2) := by decide +kernel
theorem dX6_round_95 : decode cX6_round 95 = .ok (.if_icmp .ne 31, 3) := by decide +kernel
theorem dX6_round_98 : decode cX6_round 98 = .ok (.iload 9, 2) := by decide +kernel
theorem dX6_round_100 : decode cX6_round 100 = .ok (.ifCond .le 26, 3) := by decide +kernel
theorem dX6_round_103 : decode cX6_round 103 = .ok (.aload_n 0, 1) := by decide +kernel
theorem dX6_round_104 : decode cX6_round 104 = .ok (.iload 8, 2) := by decide +kernel
theorem dX6_round_106 : decode cX6_round 106 = .ok (.iload 5, 2) := by decide +kernel
theorem dX6_round_108 : decode cX6_round 108 = .ok (.invokevirtual 41, 3) := by decide +kernel
theorem dX6_round_111 : decode cX6_round 111 = .ok (.aload_n 0, 1) := by decide +kernel
theorem dX6_round_112 : decode cX6_round 112 = .ok (.getfield 7, 3) := by decide +kernel
theorem dX6_round_115 : decode cX6_round 115 = .ok (.sipush 198, 3) := by decide +kernel
theorem dX6_round_118 : decode cX6_round 118 = .ok (.iaload, 1) := by decide +kernel
theorem dX6_round_119 : decode cX6_round 119 = .ok (.if_icmp .lt 7, 3) := by decide +kernel
theorem dX6_round_122 : decode cX6_round 122 = .ok (.iconst 1, 1) := by decide +kernel
theorem dX6_round_123 : decode cX6_round 123 = .ok (.goto 4, 3) := by decide +kernel
theorem dX6_round_126 : decode cX6_round 126 = .ok (.iconst 0, 1) := by decide +kernel
theorem dX6_round_127 : decode cX6_round 127 = .ok (.istore 12, 2) := by decide +kernel
theorem dX6_round_129 : decode cX6_round 129 = .ok (.iload 10, 2) := by decide +kernel
theorem dX6_round_131 : decode cX6_round 131 = .ok (.ifCond .ne 8, 3) := by decide +kernel
theorem dX6_round_134 : decode cX6_round 134 = .ok (.iload 11, 2) := by decide +kernel
theorem dX6_round_136 : decode cX6_round 136 = .ok (.ifCond .eq 8, 3) := by decide +kernel
theorem dX6_round_139 : decode cX6_round 139 = .ok (.iload 9, 2) := by decide +kernel
theorem dX6_round_141 : decode cX6_round 141 = .ok (.goto 17, 3) := by decide +kernel
theorem dX6_round_144 : decode cX6_round 144 = .ok (.iload 12, 2) := by decide +kernel
theorem dX6_round_146 : decode cX6_round 146 = .ok (.ifCond .eq 10, 3) := by decide +kernel
theorem dX6_round_149 : decode cX6_round 149 = .ok (.iload 9, 2) := by decide +kernel
theorem dX6_round_151 : decode cX6_round 151 = .ok (.iconst 1, 1) := by decide +kernel
theorem dX6_round_152 : decode cX6_round 152 = .ok (.isub, 1) := by decide +kernel
theorem dX6_round_153 : decode cX6_round 153 = .ok (.goto 5, 3) := by decide +kernel
theorem dX6_round_156 : decode cX6_round 156 = .ok (.iload 6, 2) := by decide +kernel
theorem dX6_round_158 : decode cX6_round 158 = .ok (.istore 6, 2) := by decide +kernel
theorem dX6_round_160 : decode cX6_round 160 = .ok (.iload 10, 2) := by decide +kernel
theorem dX6_round_162 : decode cX6_round 162 = .ok (.ifCond .ne 13, 3) := by decide +kernel
theorem dX6_round_165 : decode cX6_round 165 = .ok (.iload 11, 2) := by decide +kernel
theorem dX6_round_167 : decode cX6_round 167 = .ok (.ifCond .ne 8, 3) := by decide +kernel
theorem dX6_round_170 : decode cX6_round 170 = .ok (.iload 12, 2) := by decide +kernel
theorem dX6_round_172 : decode cX6_round 172 = .ok (.ifCond .eq 8, 3) := by decide +kernel
theorem dX6_round_175 : decode cX6_round 175 = .ok (.iload 8, 2) := by decide +kernel
theorem dX6_round_177 : decode cX6_round 177 = .ok (.goto 5, 3) := by decide +kernel
theorem dX6_round_180 : decode cX6_round 180 = .ok (.iload 5, 2) := by decide +kernel
theorem dX6_round_182 : decode cX6_round 182 = .ok (.istore 5, 2) := by decide +kernel
theorem dX6_round_184 : decode cX6_round 184 = .ok (.aload_n 0, 1) := by decide +kernel
theorem dX6_round_185 : decode cX6_round 185 = .ok (.getfield 7, 3) := by decide +kernel
theorem dX6_round_188 : decode cX6_round 188 = .ok (.iload_n 1, 1) := by decide +kernel
theorem dX6_round_189 : decode cX6_round 189 = .ok (.sipush 199, 3) := by decide +kernel
theorem dX6_round_192 : decode cX6_round 192 = .ok (.iadd, 1) := by decide +kernel
theorem dX6_round_193 : decode cX6_round 193 = .ok (.dup2, 1) := by decide +kernel
theorem dX6_round_194 : decode cX6_round 194 = .ok (.iaload, 1) := by decide +kernel
theorem dX6_round_195 : decode cX6_round 195 = .ok (.iload 11, 2) := by decide +kernel
theorem dX6_round_197 : decode cX6_round 197 = .ok (.ifCond .ne 8, 3) := by decide +kernel
theorem dX6_round_200 : decode cX6_round 200 = .ok (.iload 12, 2) := by decide +kernel
theorem dX6_round_202 : decode cX6_round 202 = .ok (.ifCond .eq 7, 3) := by decide +kernel
theorem dX6_round_205 : decode cX6_round 205 = .ok (.iconst 1, 1) := by decide +kernel
theorem dX6_round_206 : decode cX6_round 206 = .ok (.goto 4, 3) := by decide +kernel
theorem dX6_round_209 : decode cX6_round 209 = .ok (.iconst 0, 1) := by decide +kernel
theorem dX6_round_210 : decode cX6_round 210 = .ok (.iadd, 1) := by decide +kernel
theorem dX6_round_211 : decode cX6_round 211 = .ok (.iastore, 1) := by decide +kernel
theorem dX6_round_212 : decode cX6_round 212 = .ok (.aload_n 0, 1) := by decide +kernel
theorem dX6_round_213 : decode cX6_round 213 = .ok (.getfield 7, 3) := by decide +kernel
theorem dX6_round_216 : decode cX6_round 216 = .ok (.iload_n 1, 1) := by decide +kernel
theorem dX6_round_217 : decode cX6_round 217 = .ok (.sipush 200, 3) := by decide +kernel
theorem dX6_round_220 : decode cX6_round 220 = .ok (.iadd, 1) := by decide +kernel
theorem dX6_round_221 : decode cX6_round 221 = .ok (.dup2, 1) := by decide +kernel
theorem dX6_round_222 : decode cX6_round 222 = .ok (.iaload, 1) := by decide +kernel
theorem dX6_round_223 : decode cX6_round 223 = .ok (.iload 12, 2) := by decide +kernel
theorem dX6_round_225 : decode cX6_round 225 = .ok (.ifCond .eq 7, 3) := by decide +kernel
theorem dX6_round_228 : decode cX6_round 228 = .ok (.iconst 1, 1) := by decide +kernel
theorem dX6_round_229 : decode cX6_round 229 = .ok (.goto 4, 3) := by decide +kernel
theorem dX6_round_232 : decode cX6_round 232 = .ok (.iconst 0, 1) := by decide +kernel
theorem dX6_round_233 : decode cX6_round 233 = .ok (.iadd, 1) := by decide +kernel
theorem dX6_round_234 : decode cX6_round 234 = .ok (.iastore, 1) := by decide +kernel
theorem dX6_round_235 : decode cX6_round 235 = .ok (.iinc 7 1, 3) := by decide +kernel
theorem dX6_round_238 : decode cX6_round 238 = .ok (.goto (-222), 3) := by decide +kernel
theorem dX6_round_241 : decode cX6_round 241 = .ok (.bipush 10, 2) := by decide +kernel
theorem dX6_round_243 : decode cX6_round 243 = .ok (.iload 6, 2) := by decide +kernel
theorem dX6_round_245 : decode cX6_round 245 = .ok (.imul, 1) := by decide +kernel
theorem dX6_round_246 : decode cX6_round 246 = .ok (.iload 5, 2) := by decide +kernel
theorem dX6_round_248 : decode cX6_round 248 = .ok (.iadd, 1) := by decide +kernel
theorem dX6_round_249 : decode cX6_round 249 = .ok (.ireturn, 1) := by decide +kernel
theorem dX6_gets_0 : decode cX6_gets 0 = .ok (.iload_n 2, 1) := by decide +kernel
theorem dX6_gets_1 : decode cX6_gets 1 = .ok (.istore 5, 2) := by decide +kernel
theorem dX6_gets_3 : decode cX6_gets 3 = .ok (.iload 5, 2) := by decide +kernel
theorem dX6_gets_5 : decode cX6_gets 5 = .ok (.iload_n 3, 1) := by decide +kernel
theorem dX6_gets_6 : decode cX6_gets 6 = .ok (.if_icmp .ge 23, 3) := by decide +kernel
theorem dX6_gets_9 : decode cX6_gets 9 = .ok (.aload_n 0, 1) := by decide +kernel
theorem dX6_gets_10 : decode cX6_gets 10 = .ok (.getfield 7, 3) := by decide +kernel
theorem dX6_gets_13 : decode cX6_gets 13 = .ok (.iload_n 1, 1) := by decide +kernel
theorem dX6_gets_14 : decode cX6_gets 14 = .ok (.bipush 96, 2) := by decide +kernel
theorem dX6_gets_16 : decode cX6_gets 16 = .ok (.iadd, 1) := by decide +kernel
theorem dX6_gets_17 : decode cX6_gets 17 = .ok (.iload 5, 2) := by decide +kernel
theorem dX6_gets_19 : decode cX6_gets 19 = .ok (.iadd, 1) := by decide +kernel
theorem dX6_gets_20 : decode cX6_gets 20 = .ok (.iload 4, 2) := by decide +kernel
theorem dX6_gets_22 : decode cX6_gets 22 = .ok (.iastore, 1) := by decide +kernel
theorem dX6_gets_23 : decode cX6_gets 23 = .ok (.iinc 5 1, 3) := by decide +kernel
theorem dX6_gets_26 : decode cX6_gets 26 = .ok (.goto (-23), 3) := by decide +kernel
theorem dX6_gets_29 : decode cX6_gets 29 = .ok (.return_, 1) := by decide +kernel
set_option maxRecDepth 20000 in
theorem ggX6_divides_X6_orders : GoodIn wsX6_divides wsX6_orders := goodIn_r _ [7, 8, 9, 10, 11, 6, 12, 13, 14, 15, 16, 1, 17, 18, 19, 20, 21, 22, 23, 24, 48, 49, 50, 51, 52, 53, 54, 55, 56] rfl (by decide +kernel)
set_option maxRecDepth 20000 in
theorem gX6_divides_X6_orders : GoodIn wsX6_divides (wsV RX6 73 RX6 yX6_orders wsX6_orders) := goodIn_app (goodIn_of _ (by decide +kernel)) ggX6_divides_X6_orders
set_option maxRecDepth 20000 in
theorem ggX6_divides_X6_ones : GoodIn wsX6_divides wsX6_ones := goodIn_r _ [27] rfl (by decide +kernel)
set_option maxRecDepth 20000 in
theorem gX6_divides_X6_ones : GoodIn wsX6_divides (va_wsS RX6 67 yX6_ones wsX6_ones) := goodIn_app (goodIn_of _ (by decide +kernel)) ggX6_divides_X6_ones
set_option maxRecDepth 20000 in
theorem ggX6_divides_X6_round : GoodIn wsX6_divides wsX6_round := goodIn_r _ [31, 8, 1, 25, 26, 6, 27, 32, 33, 34, 35, 36, 37, 38, 39, 40, 41, 42, 43, 21, 22, 23, 24, 48, 49, 50, 51, 52, 53, 54, 55, 56] rfl (by decide +kernel)
set_option maxRecDepth 20000 in
theorem gX6_divides_X6_round : GoodIn wsX6_divides (wsV RX6 76 RX6 yX6_round wsX6_round) := goodIn_app (goodIn_of _ (by decide +kernel)) ggX6_divides_X6_round
set_option maxRecDepth 20000 in
theorem ggX6_divides_X6_gets : GoodIn wsX6_divides wsX6_gets := goodIn_r _ [47, 1, 48, 49, 50, 51, 52, 53, 54, 55, 56] rfl (by decide +kernel)
set_option maxRecDepth 20000 in
theorem gX6_divides_X6_gets : GoodIn wsX6_divides (wsV RX6 79 RX6 yX6_gets wsX6_gets) := goodIn_app (goodIn_of _ (by decide +kernel)) ggX6_divides_X6_gets
theorem dX6_divides_0 : decode cX6_divides 0 = .ok (.aload_n 0, 1) := by decide +kernel
theorem dX6_divides_1 : decode cX6_divides 1 = .ok (.getfield 7, 3) := by decide +kernel
theorem dX6_divides_4 : decode cX6_divides 4 = .ok (.iload_n 1, 1) := by decide +kernel
theorem dX6_divides_5 : decode cX6_divides 5 = .ok (.sipush 199, 3) := by decide +kernel
theorem dX6_divides_8 : decode cX6_divides 8 = .ok (.iadd, 1) := by decide +kernel
theorem dX6_divides_9 : decode cX6_divides 9 = .ok (.iaload, 1) := by decide +kernel
theorem dX6_divides_10 : decode cX6_divides 10 = .ok (.istore_n 3, 1) := by decide +kernel
theorem dX6_divides_11 : decode cX6_divides 11 = .ok (.iload_n 2, 1) := by decide +kernel
theorem dX6_divides_12 : decode cX6_divides 12 = .ok (.istore 4, 2) := by decide +kernel
theorem dX6_divides_14 : decode cX6_divides 14 = .ok (.iconst 0, 1) := by decide +kernel
theorem dX6_divides_15 : decode cX6_divides 15 = .ok (.istore 5, 2) := by decide +kernel
theorem dX6_divides_17 : decode cX6_divides 17 = .ok (.aload_n 0, 1) := by decide +kernel
theorem dX6_divides_18 : decode cX6_divides 18 = .ok (.invokevirtual 73, 3) := by decide +kernel
theorem dX6_divides_21 : decode cX6_divides 21 = .ok (.iload 4, 2) := by decide +kernel
theorem dX6_divides_23 : decode cX6_divides 23 = .ok (.invokestatic 67, 3) := by decide +kernel
theorem dX6_divides_26 : decode cX6_divides 26 = .ok (.iconst 1, 1) := by decide +kernel
theorem dX6_divides_27 : decode cX6_divides 27 = .ok (.if_icmp .le 61, 3) := by decide +kernel
theorem dX6_divides_30 : decode cX6_divides 30 = .ok (.aload_n 0, 1) := by decide +kernel
theorem dX6_divides_31 : decode cX6_divides 31 = .ok (.iload_n 1, 1) := by decide +kernel
theorem dX6_divides_32 : decode cX6_divides 32 = .ok (.iload 5, 2) := by decide +kernel
theorem dX6_divides_34 : decode cX6_divides 34 = .ok (.iload 4, 2) := by decide +kernel
theorem dX6_divides_36 : decode cX6_divides 36 = .ok (.invokevirtual 76, 3) := by decide +kernel
theorem dX6_divides_39 : decode cX6_divides 39 = .ok (.istore 6, 2) := by decide +kernel
theorem dX6_divides_41 : decode cX6_divides 41 = .ok (.aload_n 0, 1) := by decide +kernel
theorem dX6_divides_42 : decode cX6_divides 42 = .ok (.iload_n 1, 1) := by decide +kernel
theorem dX6_divides_43 : decode cX6_divides 43 = .ok (.iload 5, 2) := by decide +kernel
theorem dX6_divides_45 : decode cX6_divides 45 = .ok (.iload 5, 2) := by decide +kernel
theorem dX6_divides_47 : decode cX6_divides 47 = .ok (.iload 6, 2) := by decide +kernel
theorem dX6_divides_49 : decode cX6_divides 49 = .ok (.bipush 10, 2) := by decide +kernel
theorem dX6_divides_51 : decode cX6_divides 51 = .ok (.idiv, 1) := by decide +kernel
theorem dX6_divides_52 : decode cX6_divides 52 = .ok (.iadd, 1) := by decide +kernel
theorem dX6_divides_53 : decode cX6_divides 53 = .ok (.iload 6, 2) := by decide +kernel
theorem dX6_divides_55 : decode cX6_divides 55 = .ok (.bipush 10, 2) := by decide +kernel
theorem dX6_divides_57 : decode cX6_divides 57 = .ok (.irem, 1) := by decide +kernel
theorem dX6_divides_58 : decode cX6_divides 58 = .ok (.invokevirtual 79, 3) := by decide +kernel
theorem dX6_divides_61 : decode cX6_divides 61 = .ok (.iload 5, 2) := by decide +kernel
theorem dX6_divides_63 : decode cX6_divides 63 = .ok (.iload 6, 2) := by decide +kernel
theorem dX6_divides_65 : decode cX6_divides 65 = .ok (.bipush 10, 2) := by decide +kernel
theorem dX6_divides_67 : decode cX6_divides 67 = .ok (.idiv, 1) := by decide +kernel
theorem dX6_divides_68 : decode cX6_divides 68 = .ok (.iadd, 1) := by decide +kernel
theorem dX6_divides_69 : decode cX6_divides 69 = .ok (.istore 5, 2) := by decide +kernel
theorem dX6_divides_71 : decode cX6_divides 71 = .ok (.iload 4, 2) := by decide +kernel
theorem dX6_divides_73 : decode cX6_divides 73 = .ok (.iconst 1, 1) := by decide +kernel
theorem dX6_divides_74 : decode cX6_divides 74 = .ok (.iload 6, 2) := by decide +kernel
theorem dX6_divides_76 : decode cX6_divides 76 = .ok (.bipush 10, 2) := by decide +kernel
theorem dX6_divides_78 : decode cX6_divides 78 = .ok (.irem, 1) := by decide +kernel
theorem dX6_divides_79 : decode cX6_divides 79 = .ok (.ishl, 1) := by decide +kernel
theorem dX6_divides_80 : decode cX6_divides 80 = .ok (.iconst (-1), 1) := by decide +kernel
theorem dX6_divides_81 : decode cX6_divides 81 = .ok (.ixor, 1) := by decide +kernel
theorem dX6_divides_82 : decode cX6_divides 82 = .ok (.iand, 1) := by decide +kernel
theorem dX6_divides_83 : decode cX6_divides 83 = .ok (.istore 4, 2) := by decide +kernel
theorem dX6_divides_85 : decode cX6_divides 85 = .ok (.goto (-64), 3) := by decide +kernel
theorem dX6_divides_88 : decode cX6_divides 88 = .ok (.aload_n 0, 1) := by decide +kernel
theorem dX6_divides_89 : decode cX6_divides 89 = .ok (.iconst 0, 1) := by decide +kernel
theorem dX6_divides_90 : decode cX6_divides 90 = .ok (.putfield 83, 3) := by decide +kernel
theorem dX6_divides_93 : decode cX6_divides 93 = .ok (.iload 4, 2) := by decide +kernel
theorem dX6_divides_95 : decode cX6_divides 95 = .ok (.aload_n 0, 1) := by decide +kernel
theorem dX6_divides_96 : decode cX6_divides 96 = .ok (.getfield 83, 3) := by decide +kernel
theorem dX6_divides_99 : decode cX6_divides 99 = .ok (.ishr, 1) := by decide +kernel
theorem dX6_divides_100 : decode cX6_divides 100 = .ok (.iconst 1, 1) := by decide +kernel
theorem dX6_divides_101 : decode cX6_divides 101 = .ok (.iand, 1) := by decide +kernel
theorem dX6_divides_102 : decode cX6_divides 102 = .ok (.ifCond .ne 16, 3) := by decide +kernel
theorem dX6_divides_105 : decode cX6_divides 105 = .ok (.aload_n 0, 1) := by decide +kernel
theorem dX6_divides_106 : decode cX6_divides 106 = .ok (.dup, 1) := by decide +kernel
theorem dX6_divides_107 : decode cX6_divides 107 = .ok (.getfield 83, 3) := by decide +kernel
theorem dX6_divides_110 : decode cX6_divides 110 = .ok (.iconst 1, 1) := by decide +kernel
theorem dX6_divides_111 : decode cX6_divides 111 = .ok (.iadd, 1) := by decide +kernel
theorem dX6_divides_112 : decode cX6_divides 112 = .ok (.putfield 83, 3) := by decide +kernel
theorem dX6_divides_115 : decode cX6_divides 115 = .ok (.goto (-22), 3) := by decide +kernel
theorem dX6_divides_118 : decode cX6_divides 118 = .ok (.aload_n 0, 1) := by decide +kernel
theorem dX6_divides_119 : decode cX6_divides 119 = .ok (.iload_n 1, 1) := by decide +kernel
theorem dX6_divides_120 : decode cX6_divides 120 = .ok (.iload 5, 2) := by decide +kernel
theorem dX6_divides_122 : decode cX6_divides 122 = .ok (.bipush 24, 2) := by decide +kernel
theorem dX6_divides_124 : decode cX6_divides 124 = .ok (.aload_n 0, 1) := by decide +kernel
theorem dX6_divides_125 : decode cX6_divides 125 = .ok (.getfield 83, 3) := by decide +kernel
theorem dX6_divides_128 : decode cX6_divides 128 = .ok (.invokevirtual 79, 3) := by decide +kernel
theorem dX6_divides_131 : decode cX6_divides 131 = .ok (.aload_n 0, 1) := by decide +kernel
theorem dX6_divides_132 : decode cX6_divides 132 = .ok (.getfield 7, 3) := by decide +kernel
theorem dX6_divides_135 : decode cX6_divides 135 = .ok (.iload_n 1, 1) := by decide +kernel
theorem dX6_divides_136 : decode cX6_divides 136 = .ok (.sipush 199, 3) := by decide +kernel
theorem dX6_divides_139 : decode cX6_divides 139 = .ok (.iadd, 1) := by decide +kernel
theorem dX6_divides_140 : decode cX6_divides 140 = .ok (.iaload, 1) := by decide +kernel
theorem dX6_divides_141 : decode cX6_divides 141 = .ok (.iload_n 3, 1) := by decide +kernel
theorem dX6_divides_142 : decode cX6_divides 142 = .ok (.isub, 1) := by decide +kernel
theorem dX6_divides_143 : decode cX6_divides 143 = .ok (.ireturn, 1) := by decide +kernel
set_option maxRecDepth 20000 in
theorem ggX6_reason_X6_grudgeOf : GoodIn wsX6_reason wsX6_grudgeOf := goodIn_r _ [6, 1, 15, 16, 17, 18, 19, 20, 21, 22, 23] rfl (by decide +kernel)
set_option maxRecDepth 20000 in
theorem gX6_reason_X6_grudgeOf : GoodIn wsX6_reason (wsV RX6 41 RX6 yX6_grudgeOf wsX6_grudgeOf) := goodIn_app (goodIn_of _ (by decide +kernel)) ggX6_reason_X6_grudgeOf
set_option maxRecDepth 20000 in
theorem ggX6_reason_X6_share : GoodIn wsX6_reason wsX6_share := goodIn_r _ [10, 1, 11, 12, 13, 5, 14, 15, 16, 17, 18, 19, 20, 21, 22, 23] rfl (by decide +kernel)
set_option maxRecDepth 20000 in
theorem gX6_reason_X6_share : GoodIn wsX6_reason (wsV RX6 37 RX6 yX6_share wsX6_share) := goodIn_app (goodIn_of _ (by decide +kernel)) ggX6_reason_X6_share
theorem dX6_reason_0 : decode cX6_reason 0 = .ok (.aload_n 0, 1) := by decide +kernel
theorem dX6_reason_1 : decode cX6_reason 1 = .ok (.getfield 7, 3) := by decide +kernel
theorem dX6_reason_4 : decode cX6_reason 4 = .ok (.sipush 198, 3) := by decide +kernel
theorem dX6_reason_7 : decode cX6_reason 7 = .ok (.iaload, 1) := by decide +kernel
theorem dX6_reason_8 : decode cX6_reason 8 = .ok (.istore 4, 2) := by decide +kernel
theorem dX6_reason_10 : decode cX6_reason 10 = .ok (.aload_n 0, 1) := by decide +kernel
theorem dX6_reason_11 : decode cX6_reason 11 = .ok (.iload_n 2, 1) := by decide +kernel
theorem dX6_reason_12 : decode cX6_reason 12 = .ok (.iload_n 3, 1) := by decide +kernel
theorem dX6_reason_13 : decode cX6_reason 13 = .ok (.invokevirtual 41, 3) := by decide +kernel
theorem dX6_reason_16 : decode cX6_reason 16 = .ok (.iload 4, 2) := by decide +kernel
theorem dX6_reason_18 : decode cX6_reason 18 = .ok (.if_icmp .ge 14, 3) := by decide +kernel
theorem dX6_reason_21 : decode cX6_reason 21 = .ok (.aload_n 0, 1) := by decide +kernel
theorem dX6_reason_22 : decode cX6_reason 22 = .ok (.iload_n 3, 1) := by decide +kernel
theorem dX6_reason_23 : decode cX6_reason 23 = .ok (.iload_n 2, 1) := by decide +kernel
theorem dX6_reason_24 : decode cX6_reason 24 = .ok (.invokevirtual 41, 3) := by decide +kernel
theorem dX6_reason_27 : decode cX6_reason 27 = .ok (.iload 4, 2) := by decide +kernel
theorem dX6_reason_29 : decode cX6_reason 29 = .ok (.if_icmp .lt 5, 3) := by decide +kernel
theorem dX6_reason_32 : decode cX6_reason 32 = .ok (.iconst 1, 1) := by decide +kernel
theorem dX6_reason_33 : decode cX6_reason 33 = .ok (.ireturn, 1) := by decide +kernel
theorem dX6_reason_34 : decode cX6_reason 34 = .ok (.aload_n 0, 1) := by decide +kernel
theorem dX6_reason_35 : decode cX6_reason 35 = .ok (.iload_n 1, 1) := by decide +kernel
theorem dX6_reason_36 : decode cX6_reason 36 = .ok (.iload_n 2, 1) := by decide +kernel
theorem dX6_reason_37 : decode cX6_reason 37 = .ok (.iload_n 3, 1) := by decide +kernel
theorem dX6_reason_38 : decode cX6_reason 38 = .ok (.invokevirtual 37, 3) := by decide +kernel
theorem dX6_reason_41 : decode cX6_reason 41 = .ok (.aload_n 0, 1) := by decide +kernel
theorem dX6_reason_42 : decode cX6_reason 42 = .ok (.iload_n 1, 1) := by decide +kernel
theorem dX6_reason_43 : decode cX6_reason 43 = .ok (.iload_n 2, 1) := by decide +kernel
theorem dX6_reason_44 : decode cX6_reason 44 = .ok (.iload_n 2, 1) := by decide +kernel
theorem dX6_reason_45 : decode cX6_reason 45 = .ok (.invokevirtual 37, 3) := by decide +kernel
theorem dX6_reason_48 : decode cX6_reason 48 = .ok (.if_icmp .le 7, 3) := by decide +kernel
theorem dX6_reason_51 : decode cX6_reason 51 = .ok (.iconst 1, 1) := by decide +kernel
theorem dX6_reason_52 : decode cX6_reason 52 = .ok (.goto 4, 3) := by decide +kernel
theorem dX6_reason_55 : decode cX6_reason 55 = .ok (.iconst 0, 1) := by decide +kernel
theorem dX6_reason_56 : decode cX6_reason 56 = .ok (.istore 5, 2) := by decide +kernel
theorem dX6_reason_58 : decode cX6_reason 58 = .ok (.aload_n 0, 1) := by decide +kernel
theorem dX6_reason_59 : decode cX6_reason 59 = .ok (.iload_n 1, 1) := by decide +kernel
theorem dX6_reason_60 : decode cX6_reason 60 = .ok (.iload_n 3, 1) := by decide +kernel
theorem dX6_reason_61 : decode cX6_reason 61 = .ok (.iload_n 2, 1) := by decide +kernel
theorem dX6_reason_62 : decode cX6_reason 62 = .ok (.invokevirtual 37, 3) := by decide +kernel
theorem dX6_reason_65 : decode cX6_reason 65 = .ok (.aload_n 0, 1) := by decide +kernel
theorem dX6_reason_66 : decode cX6_reason 66 = .ok (.iload_n 1, 1) := by decide +kernel
theorem dX6_reason_67 : decode cX6_reason 67 = .ok (.iload_n 3, 1) := by decide +kernel
theorem dX6_reason_68 : decode cX6_reason 68 = .ok (.iload_n 3, 1) := by decide +kernel
theorem dX6_reason_69 : decode cX6_reason 69 = .ok (.invokevirtual 37, 3) := by decide +kernel
theorem dX6_reason_72 : decode cX6_reason 72 = .ok (.if_icmp .le 7, 3) := by decide +kernel
theorem dX6_reason_75 : decode cX6_reason 75 = .ok (.iconst 1, 1) := by decide +kernel
theorem dX6_reason_76 : decode cX6_reason 76 = .ok (.goto 4, 3) := by decide +kernel
theorem dX6_reason_79 : decode cX6_reason 79 = .ok (.iconst 0, 1) := by decide +kernel
theorem dX6_reason_80 : decode cX6_reason 80 = .ok (.istore 6, 2) := by decide +kernel
theorem dX6_reason_82 : decode cX6_reason 82 = .ok (.iload 5, 2) := by decide +kernel
theorem dX6_reason_84 : decode cX6_reason 84 = .ok (.ifCond .ne 7, 3) := by decide +kernel
theorem dX6_reason_87 : decode cX6_reason 87 = .ok (.iconst 2, 1) := by decide +kernel
theorem dX6_reason_88 : decode cX6_reason 88 = .ok (.goto 13, 3) := by decide +kernel
theorem dX6_reason_91 : decode cX6_reason 91 = .ok (.iload 6, 2) := by decide +kernel
theorem dX6_reason_93 : decode cX6_reason 93 = .ok (.ifCond .eq 7, 3) := by decide +kernel
theorem dX6_reason_96 : decode cX6_reason 96 = .ok (.iconst 0, 1) := by decide +kernel
theorem dX6_reason_97 : decode cX6_reason 97 = .ok (.goto 4, 3) := by decide +kernel
theorem dX6_reason_100 : decode cX6_reason 100 = .ok (.iconst 3, 1) := by decide +kernel
theorem dX6_reason_101 : decode cX6_reason 101 = .ok (.ireturn, 1) := by decide +kernel
theorem dX6_trades_0 : decode cX6_trades 0 = .ok (.iconst 0, 1) := by decide +kernel
theorem dX6_trades_1 : decode cX6_trades 1 = .ok (.istore 4, 2) := by decide +kernel
theorem dX6_trades_3 : decode cX6_trades 3 = .ok (.iload 4, 2) := by decide +kernel
theorem dX6_trades_5 : decode cX6_trades 5 = .ok (.bipush 24, 2) := by decide +kernel
theorem dX6_trades_7 : decode cX6_trades 7 = .ok (.if_icmp .ge 57, 3) := by decide +kernel
theorem dX6_trades_10 : decode cX6_trades 10 = .ok (.aload_n 0, 1) := by decide +kernel
theorem dX6_trades_11 : decode cX6_trades 11 = .ok (.getfield 7, 3) := by decide +kernel
theorem dX6_trades_14 : decode cX6_trades 14 = .ok (.iload_n 1, 1) := by decide +kernel
theorem dX6_trades_15 : decode cX6_trades 15 = .ok (.bipush 96, 2) := by decide +kernel
theorem dX6_trades_17 : decode cX6_trades 17 = .ok (.iadd, 1) := by decide +kernel
theorem dX6_trades_18 : decode cX6_trades 18 = .ok (.iload 4, 2) := by decide +kernel
theorem dX6_trades_20 : decode cX6_trades 20 = .ok (.iadd, 1) := by decide +kernel
theorem dX6_trades_21 : decode cX6_trades 21 = .ok (.iaload, 1) := by decide +kernel
theorem dX6_trades_22 : decode cX6_trades 22 = .ok (.istore 5, 2) := by decide +kernel
theorem dX6_trades_24 : decode cX6_trades 24 = .ok (.aload_n 0, 1) := by decide +kernel
theorem dX6_trades_25 : decode cX6_trades 25 = .ok (.getfield 7, 3) := by decide +kernel
theorem dX6_trades_28 : decode cX6_trades 28 = .ok (.iload_n 1, 1) := by decide +kernel
theorem dX6_trades_29 : decode cX6_trades 29 = .ok (.bipush 96, 2) := by decide +kernel
theorem dX6_trades_31 : decode cX6_trades 31 = .ok (.iadd, 1) := by decide +kernel
theorem dX6_trades_32 : decode cX6_trades 32 = .ok (.iload 4, 2) := by decide +kernel
theorem dX6_trades_34 : decode cX6_trades 34 = .ok (.iadd, 1) := by decide +kernel
theorem dX6_trades_35 : decode cX6_trades 35 = .ok (.iload 5, 2) := by decide +kernel
theorem dX6_trades_37 : decode cX6_trades 37 = .ok (.iload_n 2, 1) := by decide +kernel
theorem dX6_trades_38 : decode cX6_trades 38 = .ok (.if_icmp .ne 7, 3) := by decide +kernel
theorem dX6_trades_41 : decode cX6_trades 41 = .ok (.iload_n 3, 1) := by decide +kernel
theorem dX6_trades_42 : decode cX6_trades 42 = .ok (.goto 15, 3) := by decide +kernel
theorem dX6_trades_45 : decode cX6_trades 45 = .ok (.iload 5, 2) := by decide +kernel
theorem dX6_trades_47 : decode cX6_trades 47 = .ok (.iload_n 3, 1) := by decide +kernel
theorem dX6_trades_48 : decode cX6_trades 48 = .ok (.if_icmp .ne 7, 3) := by decide +kernel
theorem dX6_trades_51 : decode cX6_trades 51 = .ok (.iload_n 2, 1) := by decide +kernel
theorem dX6_trades_52 : decode cX6_trades 52 = .ok (.goto 5, 3) := by decide +kernel
theorem dX6_trades_55 : decode cX6_trades 55 = .ok (.iload 5, 2) := by decide +kernel
theorem dX6_trades_57 : decode cX6_trades 57 = .ok (.iastore, 1) := by decide +kernel
theorem dX6_trades_58 : decode cX6_trades 58 = .ok (.iinc 4 1, 3) := by decide +kernel
theorem dX6_trades_61 : decode cX6_trades 61 = .ok (.goto (-58), 3) := by decide +kernel
theorem dX6_trades_64 : decode cX6_trades 64 = .ok (.return_, 1) := by decide +kernel
set_option maxRecDepth 20000 in
theorem ggX6_best_X6_reason : GoodIn wsX6_best wsX6_reason := goodIn_r _ [5, 6, 7, 8, 9, 4, 10, 11, 12, 13, 14, 15, 16, 17, 18, 39, 40, 41, 42, 43, 44, 45, 46, 47] rfl (by decide +kernel)
set_option maxRecDepth 20000 in
theorem gX6_best_X6_reason : GoodIn wsX6_best (wsV RX6 86 RX6 yX6_reason wsX6_reason) := goodIn_app (goodIn_of _ (by decide +kernel)) ggX6_best_X6_reason
set_option maxRecDepth 20000 in
theorem ggX6_best_X6_trades : GoodIn wsX6_best wsX6_trades := goodIn_r _ [22, 6, 39, 40, 41, 42, 43, 44, 45, 46, 47] rfl (by decide +kernel)
set_option maxRecDepth 20000 in
theorem gX6_best_X6_trades : GoodIn wsX6_best (wsV RX6 89 RX6 yX6_trades wsX6_trades) := goodIn_app (goodIn_of _ (by decide +kernel)) ggX6_best_X6_trades
set_option maxRecDepth 20000 in
theorem ggX6_best_X6_allEnvies : GoodIn wsX6_best wsX6_allEnvies := goodIn_r _ [26, 27, 28, 29, 4, 30, 31, 32, 33, 34, 35, 36, 37, 38, 11, 12, 13, 14, 6, 15, 16, 17, 18, 7, 8, 9, 10, 39, 40, 41, 42, 43, 44, 45, 46, 47] rfl (by decide +kernel)
set_option maxRecDepth 20000 in
theorem gX6_best_X6_allEnvies : GoodIn wsX6_best (wsV RX6 93 RX6 yX6_allEnvies wsX6_allEnvies) := goodIn_app (goodIn_of _ (by decide +kernel)) ggX6_best_X6_allEnvies
theorem dX6_best_0 : decode cX6_best 0 = .ok (.bipush (-5), 2) := by decide +kernel
theorem dX6_best_2 : decode cX6_best 2 = .ok (.istore_n 2, 1) := by decide +kernel
theorem dX6_best_3 : decode cX6_best 3 = .ok (.iconst 0, 1) := by decide +kernel
theorem dX6_best_4 : decode cX6_best 4 = .ok (.istore_n 3, 1) := by decide +kernel
theorem dX6_best_5 : decode cX6_best 5 = .ok (.iconst 0, 1) := by decide +kernel
theorem dX6_best_6 : decode cX6_best 6 = .ok (.istore 4, 2) := by decide +kernel
theorem dX6_best_8 : decode cX6_best 8 = .ok (.iload 4, 2) := by decide +kernel
theorem dX6_best_10 : decode cX6_best 10 = .ok (.bipush 49, 2) := by decide +kernel
theorem dX6_best_12 : decode cX6_best 12 = .ok (.if_icmp .ge 111, 3) := by decide +kernel
theorem dX6_best_15 : decode cX6_best 15 = .ok (.iload 4, 2) := by decide +kernel
theorem dX6_best_17 : decode cX6_best 17 = .ok (.bipush 7, 2) := by decide +kernel
theorem dX6_best_19 : decode cX6_best 19 = .ok (.idiv, 1) := by decide +kernel
theorem dX6_best_20 : decode cX6_best 20 = .ok (.istore 5, 2) := by decide +kernel
theorem dX6_best_22 : decode cX6_best 22 = .ok (.iload 4, 2) := by decide +kernel
theorem dX6_best_24 : decode cX6_best 24 = .ok (.bipush 7, 2) := by decide +kernel
theorem dX6_best_26 : decode cX6_best 26 = .ok (.irem, 1) := by decide +kernel
theorem dX6_best_27 : decode cX6_best 27 = .ok (.istore 6, 2) := by decide +kernel
theorem dX6_best_29 : decode cX6_best 29 = .ok (.iload 5, 2) := by decide +kernel
theorem dX6_best_31 : decode cX6_best 31 = .ok (.iload 6, 2) := by decide +kernel
theorem dX6_best_33 : decode cX6_best 33 = .ok (.if_icmp .ge 84, 3) := by decide +kernel
theorem dX6_best_36 : decode cX6_best 36 = .ok (.aload_n 0, 1) := by decide +kernel
theorem dX6_best_37 : decode cX6_best 37 = .ok (.iload_n 1, 1) := by decide +kernel
theorem dX6_best_38 : decode cX6_best 38 = .ok (.iload 5, 2) := by decide +kernel
theorem dX6_best_40 : decode cX6_best 40 = .ok (.iload 6, 2) := by decide +kernel
theorem dX6_best_42 : decode cX6_best 42 = .ok (.invokevirtual 86, 3) := by decide +kernel
theorem dX6_best_45 : decode cX6_best 45 = .ok (.ifCond .ne 72, 3) := by decide +kernel
theorem dX6_best_48 : decode cX6_best 48 = .ok (.aload_n 0, 1) := by decide +kernel
theorem dX6_best_49 : decode cX6_best 49 = .ok (.iload_n 1, 1) := by decide +kernel
theorem dX6_best_50 : decode cX6_best 50 = .ok (.iload 5, 2) := by decide +kernel
theorem dX6_best_52 : decode cX6_best 52 = .ok (.iload 6, 2) := by decide +kernel
theorem dX6_best_54 : decode cX6_best 54 = .ok (.invokevirtual 89, 3) := by decide +kernel
theorem dX6_best_57 : decode cX6_best 57 = .ok (.aload_n 0, 1) := by decide +kernel
theorem dX6_best_58 : decode cX6_best 58 = .ok (.iload_n 1, 1) := by decide +kernel
theorem dX6_best_59 : decode cX6_best 59 = .ok (.invokevirtual 93, 3) := by decide +kernel
theorem dX6_best_62 : decode cX6_best 62 = .ok (.istore 7, 2) := by decide +kernel
theorem dX6_best_64 : decode cX6_best 64 = .ok (.aload_n 0, 1) := by decide +kernel
theorem dX6_best_65 : decode cX6_best 65 = .ok (.iload_n 1, 1) := by decide +kernel
theorem dX6_best_66 : decode cX6_best 66 = .ok (.iload 5, 2) := by decide +kernel
theorem dX6_best_68 : decode cX6_best 68 = .ok (.iload 6, 2) := by decide +kernel
theorem dX6_best_70 : decode cX6_best 70 = .ok (.invokevirtual 89, 3) := by decide +kernel
theorem dX6_best_73 : decode cX6_best 73 = .ok (.iload_n 2, 1) := by decide +kernel
theorem dX6_best_74 : decode cX6_best 74 = .ok (.bipush (-5), 2) := by decide +kernel
theorem dX6_best_76 : decode cX6_best 76 = .ok (.if_icmp .eq 9, 3) := by decide +kernel
theorem dX6_best_79 : decode cX6_best 79 = .ok (.iload 7, 2) := by decide +kernel
theorem dX6_best_81 : decode cX6_best 81 = .ok (.iload_n 3, 1) := by decide +kernel
theorem dX6_best_82 : decode cX6_best 82 = .ok (.if_icmp .ge 14, 3) := by decide +kernel
theorem dX6_best_85 : decode cX6_best 85 = .ok (.bipush 10, 2) := by decide +kernel
theorem dX6_best_87 : decode cX6_best 87 = .ok (.iload 5, 2) := by decide +kernel
theorem dX6_best_89 : decode cX6_best 89 = .ok (.imul, 1) := by decide +kernel
theorem dX6_best_90 : decode cX6_best 90 = .ok (.iload 6, 2) := by decide +kernel
theorem dX6_best_92 : decode cX6_best 92 = .ok (.iadd, 1) := by decide +kernel
theorem dX6_best_93 : decode cX6_best 93 = .ok (.goto 4, 3) := by decide +kernel
theorem dX6_best_96 : decode cX6_best 96 = .ok (.iload_n 2, 1) := by decide +kernel
theorem dX6_best_97 : decode cX6_best 97 = .ok (.istore_n 2, 1) := by decide +kernel
theorem dX6_best_98 : decode cX6_best 98 = .ok (.iload_n 2, 1) := by decide +kernel
theorem dX6_best_99 : decode cX6_best 99 = .ok (.bipush 10, 2) := by decide +kernel
theorem dX6_best_101 : decode cX6_best 101 = .ok (.iload 5, 2) := by decide +kernel
theorem dX6_best_103 : decode cX6_best 103 = .ok (.imul, 1) := by decide +kernel
theorem dX6_best_104 : decode cX6_best 104 = .ok (.iload 6, 2) := by decide +kernel
theorem dX6_best_106 : decode cX6_best 106 = .ok (.iadd, 1) := by decide +kernel
theorem dX6_best_107 : decode cX6_best 107 = .ok (.if_icmp .ne 8, 3) := by decide +kernel
theorem dX6_best_110 : decode cX6_best 110 = .ok (.iload 7, 2) := by decide +kernel
theorem dX6_best_112 : decode cX6_best 112 = .ok (.goto 4, 3) := by decide +kernel
theorem dX6_best_115 : decode cX6_best 115 = .ok (.iload_n 3, 1) := by decide +kernel
theorem dX6_best_116 : decode cX6_best 116 = .ok (.istore_n 3, 1) := by decide +kernel
theorem dX6_best_117 : decode cX6_best 117 = .ok (.iinc 4 1, 3) := by decide +kernel
theorem dX6_best_120 : decode cX6_best 120 = .ok (.goto (-112), 3) := by decide +kernel
theorem dX6_best_123 : decode cX6_best 123 = .ok (.iload_n 2, 1) := by decide +kernel
theorem dX6_best_124 : decode cX6_best 124 = .ok (.ireturn, 1) := by decide +kernel
set_option maxRecDepth 20000 in
theorem ggX6_settles_X6_best : GoodIn wsX6_settles wsX6_best := goodIn_r _ [6, 7, 8, 9, 5, 10, 1, 11, 12, 13, 14, 15, 16, 17, 18, 19, 20, 21, 22, 23, 24, 25, 26, 27, 28, 29, 30, 31, 32, 33, 34, 35, 36, 37, 38, 39, 40, 41, 42, 43, 44, 45, 46, 47, 48, 49, 50, 51] rfl (by decide +kernel)
set_option maxRecDepth 20000 in
theorem gX6_settles_X6_best : GoodIn wsX6_settles (wsV RX6 96 RX6 yX6_best wsX6_best) := goodIn_app (goodIn_of _ (by decide +kernel)) ggX6_settles_X6_best
set_option maxRecDepth 20000 in
theorem ggX6_settles_X6_trades : GoodIn wsX6_settles wsX6_trades := goodIn_r _ [26, 1, 43, 44, 45, 46, 47, 48, 49, 50, 51] rfl (by decide +kernel)
set_option maxRecDepth 20000 in
theorem gX6_settles_X6_trades : GoodIn wsX6_settles (wsV RX6 89 RX6 yX6_trades wsX6_trades) := goodIn_app (goodIn_of _ (by decide +kernel)) ggX6_settles_X6_trades
theorem dX6_settles_0 : decode cX6_settles 0 = .ok (.iconst 0, 1) := by decide +kernel
theorem dX6_settles_1 : decode cX6_settles 1 = .ok (.istore_n 2, 1) := by decide +kernel
theorem dX6_settles_2 : decode cX6_settles 2 = .ok (.aload_n 0, 1) := by decide +kernel
theorem dX6_settles_3 : decode cX6_settles 3 = .ok (.iload_n 1, 1) := by decide +kernel
theorem dX6_settles_4 : decode cX6_settles 4 = .ok (.invokevirtual 96, 3) := by decide +kernel
theorem dX6_settles_7 : decode cX6_settles 7 = .ok (.istore_n 3, 1) := by decide +kernel
theorem dX6_settles_8 : decode cX6_settles 8 = .ok (.iload_n 3, 1) := by decide +kernel
theorem dX6_settles_9 : decode cX6_settles 9 = .ok (.bipush (-5), 2) := by decide +kernel
theorem dX6_settles_11 : decode cX6_settles 11 = .ok (.if_icmp .eq 28, 3) := by decide +kernel
theorem dX6_settles_14 : decode cX6_settles 14 = .ok (.aload_n 0, 1) := by decide +kernel
theorem dX6_settles_15 : decode cX6_settles 15 = .ok (.iload_n 1, 1) := by decide +kernel
theorem dX6_settles_16 : decode cX6_settles 16 = .ok (.iload_n 3, 1) := by decide +kernel
theorem dX6_settles_17 : decode cX6_settles 17 = .ok (.bipush 10, 2) := by decide +kernel
theorem dX6_settles_19 : decode cX6_settles 19 = .ok (.idiv, 1) := by decide +kernel
theorem dX6_settles_20 : decode cX6_settles 20 = .ok (.iload_n 3, 1) := by decide +kernel
theorem dX6_settles_21 : decode cX6_settles 21 = .ok (.bipush 10, 2) := by decide +kernel
theorem dX6_settles_23 : decode cX6_settles 23 = .ok (.irem, 1) := by decide +kernel
theorem dX6_settles_24 : decode cX6_settles 24 = .ok (.invokevirtual 89, 3) := by decide +kernel
theorem dX6_settles_27 : decode cX6_settles 27 = .ok (.iinc 2 1, 3) := by decide +kernel
theorem dX6_settles_30 : decode cX6_settles 30 = .ok (.aload_n 0, 1) := by decide +kernel
theorem dX6_settles_31 : decode cX6_settles 31 = .ok (.iload_n 1, 1) := by decide +kernel
theorem dX6_settles_32 : decode cX6_settles 32 = .ok (.invokevirtual 96, 3) := by decide +kernel
theorem dX6_settles_35 : decode cX6_settles 35 = .ok (.istore_n 3, 1) := by decide +kernel
theorem dX6_settles_36 : decode cX6_settles 36 = .ok (.goto (-28), 3) := by decide +kernel
theorem dX6_settles_39 : decode cX6_settles 39 = .ok (.aload_n 0, 1) := by decide +kernel
theorem dX6_settles_40 : decode cX6_settles 40 = .ok (.getfield 7, 3) := by decide +kernel
theorem dX6_settles_43 : decode cX6_settles 43 = .ok (.iload_n 1, 1) := by decide +kernel
theorem dX6_settles_44 : decode cX6_settles 44 = .ok (.sipush 201, 3) := by decide +kernel
theorem dX6_settles_47 : decode cX6_settles 47 = .ok (.iadd, 1) := by decide +kernel
theorem dX6_settles_48 : decode cX6_settles 48 = .ok (.dup2, 1) := by decide +kernel
theorem dX6_settles_49 : decode cX6_settles 49 = .ok (.iaload, 1) := by decide +kernel
theorem dX6_settles_50 : decode cX6_settles 50 = .ok (.iload_n 2, 1) := by decide +kernel
theorem dX6_settles_51 : decode cX6_settles 51 = .ok (.iadd, 1) := by decide +kernel
theorem dX6_settles_52 : decode cX6_settles 52 = .ok (.iastore, 1) := by decide +kernel
theorem dX6_settles_53 : decode cX6_settles 53 = .ok (.iload_n 2, 1) := by decide +kernel
theorem dX6_settles_54 : decode cX6_settles 54 = .ok (.ireturn, 1) := by decide +kernel
set_option maxRecDepth 20000 in
theorem ggX6_changes_X6_remembers : GoodIn wsX6_changes wsX6_remembers := goodIn_r _ [6, 7, 8, 1, 9, 10, 11, 12, 13, 14, 15, 16, 17] rfl (by decide +kernel)
set_option maxRecDepth 20000 in
theorem gX6_changes_X6_remembers : GoodIn wsX6_changes (wsV RX6 99 RX6 yX6_remembers wsX6_remembers) := goodIn_app (goodIn_of _ (by decide +kernel)) ggX6_changes_X6_remembers
theorem dX6_changes_0 : decode cX6_changes 0 = .ok (.aload_n 0, 1) := by decide +kernel
theorem dX6_changes_1 : decode cX6_changes 1 = .ok (.getfield 7, 3) := by decide +kernel
theorem dX6_changes_4 : decode cX6_changes 4 = .ok (.iload_n 1, 1) := by decide +kernel
theorem dX6_changes_5 : decode cX6_changes 5 = .ok (.iaload, 1) := by decide +kernel
theorem dX6_changes_6 : decode cX6_changes 6 = .ok (.istore_n 3, 1) := by decide +kernel
theorem dX6_changes_7 : decode cX6_changes 7 = .ok (.iload_n 3, 1) := by decide +kernel
theorem dX6_changes_8 : decode cX6_changes 8 = .ok (.iload_n 2, 1) := by decide +kernel
theorem dX6_changes_9 : decode cX6_changes 9 = .ok (.if_icmp .ne 6, 3) := by decide +kernel
theorem dX6_changes_12 : decode cX6_changes 12 = .ok (.bipush (-5), 2) := by decide +kernel
theorem dX6_changes_14 : decode cX6_changes 14 = .ok (.ireturn, 1) := by decide +kernel
theorem dX6_changes_15 : decode cX6_changes 15 = .ok (.aload_n 0, 1) := by decide +kernel
theorem dX6_changes_16 : decode cX6_changes 16 = .ok (.invokevirtual 99, 3) := by decide +kernel
theorem dX6_changes_19 : decode cX6_changes 19 = .ok (.aload_n 0, 1) := by decide +kernel
theorem dX6_changes_20 : decode cX6_changes 20 = .ok (.getfield 7, 3) := by decide +kernel
theorem dX6_changes_23 : decode cX6_changes 23 = .ok (.iload_n 1, 1) := by decide +kernel
theorem dX6_changes_24 : decode cX6_changes 24 = .ok (.iload_n 2, 1) := by decide +kernel
theorem dX6_changes_25 : decode cX6_changes 25 = .ok (.iastore, 1) := by decide +kernel
theorem dX6_changes_26 : decode cX6_changes 26 = .ok (.iload_n 3, 1) := by decide +kernel
theorem dX6_changes_27 : decode cX6_changes 27 = .ok (.ireturn, 1) := by decide +kernel
set_option maxRecDepth 20000 in
theorem ggX6_plant_X6_isPlot : GoodIn wsX6_plant wsX6_isPlot := goodIn_r _ [4, 5, 6, 3, 7] rfl (by decide +kernel)
set_option maxRecDepth 20000 in
theorem gX6_plant_X6_isPlot : GoodIn wsX6_plant (va_wsS RX6 102 yX6_isPlot wsX6_isPlot) := goodIn_app (goodIn_of _ (by decide +kernel)) ggX6_plant_X6_isPlot
set_option maxRecDepth 20000 in
theorem ggX6_plant_X6_isCrop : GoodIn wsX6_plant wsX6_isCrop := goodIn_r _ [10, 5, 6, 3, 7] rfl (by decide +kernel)
set_option maxRecDepth 20000 in
theorem gX6_plant_X6_isCrop : GoodIn wsX6_plant (va_wsS RX6 106 yX6_isCrop wsX6_isCrop) := goodIn_app (goodIn_of _ (by decide +kernel)) ggX6_plant_X6_isCrop
set_option maxRecDepth 20000 in
theorem ggX6_plant_X6_in : GoodIn wsX6_plant wsX6_in := goodIn_r _ [7] rfl (by decide +kernel)
set_option maxRecDepth 20000 in
theorem gX6_plant_X6_in : GoodIn wsX6_plant (va_wsS RX6 25 yX6_in wsX6_in) := goodIn_app (goodIn_of _ (by decide +kernel)) ggX6_plant_X6_in
set_option maxRecDepth 20000 in
theorem ggX6_plant_X6_changes : GoodIn wsX6_plant wsX6_changes := goodIn_r _ [14, 15, 16, 17, 18, 3, 19, 20, 21, 22, 23, 24, 25, 26, 27, 28, 29, 30] rfl (by decide +kernel)
set_option maxRecDepth 20000 in
theorem gX6_plant_X6_changes : GoodIn wsX6_plant (wsV RX6 109 RX6 yX6_changes wsX6_changes) := goodIn_app (goodIn_of _ (by decide +kernel)) ggX6_plant_X6_changes
theorem dX6_plant_0 : decode cX6_plant 0 = .ok (.iload_n 1, 1) := by decide +kernel
theorem dX6_plant_1 : decode cX6_plant 1 = .ok (.invokestatic 102, 3) := by decide +kernel
theorem dX6_plant_4 : decode cX6_plant 4 = .ok (.ifCond .eq 10, 3) := by decide +kernel
theorem dX6_plant_7 : decode cX6_plant 7 = .ok (.iload_n 2, 1) := by decide +kernel
theorem dX6_plant_8 : decode cX6_plant 8 = .ok (.invokestatic 106, 3) := by decide +kernel
theorem dX6_plant_11 : decode cX6_plant 11 = .ok (.ifCond .ne 5, 3) := by decide +kernel
theorem dX6_plant_14 : decode cX6_plant 14 = .ok (.iconst (-1), 1) := by decide +kernel
theorem dX6_plant_15 : decode cX6_plant 15 = .ok (.ireturn, 1) := by decide +kernel
theorem dX6_plant_16 : decode cX6_plant 16 = .ok (.iload_n 3, 1) := by decide +kernel
theorem dX6_plant_17 : decode cX6_plant 17 = .ok (.iconst 0, 1) := by decide +kernel
theorem dX6_plant_18 : decode cX6_plant 18 = .ok (.bipush 9, 2) := by decide +kernel
theorem dX6_plant_20 : decode cX6_plant 20 = .ok (.invokestatic 25, 3) := by decide +kernel
theorem dX6_plant_23 : decode cX6_plant 23 = .ok (.ifCond .eq 18, 3) := by decide +kernel
theorem dX6_plant_26 : decode cX6_plant 26 = .ok (.aload_n 0, 1) := by decide +kernel
theorem dX6_plant_27 : decode cX6_plant 27 = .ok (.iconst 0, 1) := by decide +kernel
theorem dX6_plant_28 : decode cX6_plant 28 = .ok (.iconst 4, 1) := by decide +kernel
theorem dX6_plant_29 : decode cX6_plant 29 = .ok (.iload_n 1, 1) := by decide +kernel
theorem dX6_plant_30 : decode cX6_plant 30 = .ok (.imul, 1) := by decide +kernel
theorem dX6_plant_31 : decode cX6_plant 31 = .ok (.iadd, 1) := by decide +kernel
theorem dX6_plant_32 : decode cX6_plant 32 = .ok (.iload_n 2, 1) := by decide +kernel
theorem dX6_plant_33 : decode cX6_plant 33 = .ok (.iadd, 1) := by decide +kernel
theorem dX6_plant_34 : decode cX6_plant 34 = .ok (.iload_n 3, 1) := by decide +kernel
theorem dX6_plant_35 : decode cX6_plant 35 = .ok (.invokevirtual 109, 3) := by decide +kernel
theorem dX6_plant_38 : decode cX6_plant 38 = .ok (.goto 5, 3) := by decide +kernel
theorem dX6_plant_41 : decode cX6_plant 41 = .ok (.bipush (-2), 2) := by decide +kernel
theorem dX6_plant_43 : decode cX6_plant 43 = .ok (.ireturn, 1) := by decide +kernel
set_option maxRecDepth 20000 in
theorem ggX6_weigh_X6_isCousin : GoodIn wsX6_weigh wsX6_isCousin := goodIn_r _ [4, 5, 6, 3, 7] rfl (by decide +kernel)
set_option maxRecDepth 20000 in
theorem gX6_weigh_X6_isCousin : GoodIn wsX6_weigh (va_wsS RX6 112 yX6_isCousin wsX6_isCousin) := goodIn_app (goodIn_of _ (by decide +kernel)) ggX6_weigh_X6_isCousin
set_option maxRecDepth 20000 in
theorem ggX6_weigh_X6_isCrop : GoodIn wsX6_weigh wsX6_isCrop := goodIn_r _ [10, 5, 6, 3, 7] rfl (by decide +kernel)
set_option maxRecDepth 20000 in
theorem gX6_weigh_X6_isCrop : GoodIn wsX6_weigh (va_wsS RX6 106 yX6_isCrop wsX6_isCrop) := goodIn_app (goodIn_of _ (by decide +kernel)) ggX6_weigh_X6_isCrop
set_option maxRecDepth 20000 in
theorem ggX6_weigh_X6_in : GoodIn wsX6_weigh wsX6_in := goodIn_r _ [7] rfl (by decide +kernel)
set_option maxRecDepth 20000 in
theorem gX6_weigh_X6_in : GoodIn wsX6_weigh (va_wsS RX6 25 yX6_in wsX6_in) := goodIn_app (goodIn_of _ (by decide +kernel)) ggX6_weigh_X6_in
set_option maxRecDepth 20000 in
theorem ggX6_weigh_X6_changes : GoodIn wsX6_weigh wsX6_changes := goodIn_r _ [14, 15, 16, 17, 18, 3, 19, 20, 21, 22, 23, 24, 25, 26, 27, 28, 29, 30] rfl (by decide +kernel)
set_option maxRecDepth 20000 in
theorem gX6_weigh_X6_changes : GoodIn wsX6_weigh (wsV RX6 109 RX6 yX6_changes wsX6_changes) := goodIn_app (goodIn_of _ (by decide +kernel)) ggX6_weigh_X6_changes
theorem dX6_weigh_0 : decode cX6_weigh 0 = .ok (.iload_n 1, 1) := by decide +kernel
theorem dX6_weigh_1 : decode cX6_weigh 1 = .ok (.invokestatic 112, 3) := by decide +kernel
theorem dX6_weigh_4 : decode cX6_weigh 4 = .ok (.ifCond .eq 10, 3) := by decide +kernel
theorem dX6_weigh_7 : decode cX6_weigh 7 = .ok (.iload_n 2, 1) := by decide +kernel
theorem dX6_weigh_8 : decode cX6_weigh 8 = .ok (.invokestatic 106, 3) := by decide +kernel
theorem dX6_weigh_11 : decode cX6_weigh 11 = .ok (.ifCond .ne 5, 3) := by decide +kernel
theorem dX6_weigh_14 : decode cX6_weigh 14 = .ok (.iconst (-1), 1) := by decide +kernel
theorem dX6_weigh_15 : decode cX6_weigh 15 = .ok (.ireturn, 1) := by decide +kernel
theorem dX6_weigh_16 : decode cX6_weigh 16 = .ok (.iload_n 3, 1) := by decide +kernel
theorem dX6_weigh_17 : decode cX6_weigh 17 = .ok (.iconst 0, 1) := by decide +kernel
theorem dX6_weigh_18 : decode cX6_weigh 18 = .ok (.bipush 9, 2) := by decide +kernel
theorem dX6_weigh_20 : decode cX6_weigh 20 = .ok (.invokestatic 25, 3) := by decide +kernel
theorem dX6_weigh_23 : decode cX6_weigh 23 = .ok (.ifCond .eq 19, 3) := by decide +kernel
theorem dX6_weigh_26 : decode cX6_weigh 26 = .ok (.aload_n 0, 1) := by decide +kernel
theorem dX6_weigh_27 : decode cX6_weigh 27 = .ok (.bipush 120, 2) := by decide +kernel
theorem dX6_weigh_29 : decode cX6_weigh 29 = .ok (.iconst 4, 1) := by decide +kernel
theorem dX6_weigh_30 : decode cX6_weigh 30 = .ok (.iload_n 1, 1) := by decide +kernel
theorem dX6_weigh_31 : decode cX6_weigh 31 = .ok (.imul, 1) := by decide +kernel
theorem dX6_weigh_32 : decode cX6_weigh 32 = .ok (.iadd, 1) := by decide +kernel
theorem dX6_weigh_33 : decode cX6_weigh 33 = .ok (.iload_n 2, 1) := by decide +kernel
theorem dX6_weigh_34 : decode cX6_weigh 34 = .ok (.iadd, 1) := by decide +kernel
theorem dX6_weigh_35 : decode cX6_weigh 35 = .ok (.iload_n 3, 1) := by decide +kernel
theorem dX6_weigh_36 : decode cX6_weigh 36 = .ok (.invokevirtual 109, 3) := by decide +kernel
theorem dX6_weigh_39 : decode cX6_weigh 39 = .ok (.goto 5, 3) := by decide +kernel
theorem dX6_weigh_42 : decode cX6_weigh 42 = .ok (.bipush (-2), 2) := by decide +kernel
theorem dX6_weigh_44 : decode cX6_weigh 44 = .ok (.ireturn, 1) := by decide +kernel
set_option maxRecDepth 20000 in
theorem ggX6_grudge_X6_isCousin : GoodIn wsX6_grudge wsX6_isCousin := goodIn_r _ [4, 5, 6, 3, 7] rfl (by decide +kernel)
set_option maxRecDepth 20000 in
theorem gX6_grudge_X6_isCousin : GoodIn wsX6_grudge (va_wsS RX6 112 yX6_isCousin wsX6_isCousin) := goodIn_app (goodIn_of _ (by decide +kernel)) ggX6_grudge_X6_isCousin
set_option maxRecDepth 20000 in
theorem ggX6_grudge_X6_in : GoodIn wsX6_grudge wsX6_in := goodIn_r _ [7] rfl (by decide +kernel)
set_option maxRecDepth 20000 in
theorem gX6_grudge_X6_in : GoodIn wsX6_grudge (va_wsS RX6 25 yX6_in wsX6_in) := goodIn_app (goodIn_of _ (by decide +kernel)) ggX6_grudge_X6_in
set_option maxRecDepth 20000 in
theorem ggX6_grudge_X6_changes : GoodIn wsX6_grudge wsX6_changes := goodIn_r _ [11, 12, 13, 14, 15, 3, 16, 17, 18, 19, 20, 21, 22, 23, 24, 25, 26, 27] rfl (by decide +kernel)
set_option maxRecDepth 20000 in
theorem gX6_grudge_X6_changes : GoodIn wsX6_grudge (wsV RX6 109 RX6 yX6_changes wsX6_changes) := goodIn_app (goodIn_of _ (by decide +kernel)) ggX6_grudge_X6_changes
theorem dX6_grudge_0 : decode cX6_grudge 0 = .ok (.iload_n 1, 1) := by decide +kernel
theorem dX6_grudge_1 : decode cX6_grudge 1 = .ok (.invokestatic 112, 3) := by decide +kernel
theorem dX6_grudge_4 : decode cX6_grudge 4 = .ok (.ifCond .eq 10, 3) := by decide +kernel
theorem dX6_grudge_7 : decode cX6_grudge 7 = .ok (.iload_n 2, 1) := by decide +kernel
theorem dX6_grudge_8 : decode cX6_grudge 8 = .ok (.invokestatic 112, 3) := by decide +kernel
theorem dX6_grudge_11 : decode cX6_grudge 11 = .ok (.ifCond .ne 5, 3) := by decide +kernel
theorem dX6_grudge_14 : decode cX6_grudge 14 = .ok (.iconst (-1), 1) := by decide +kernel
theorem dX6_grudge_15 : decode cX6_grudge 15 = .ok (.ireturn, 1) := by decide +kernel
theorem dX6_grudge_16 : decode cX6_grudge 16 = .ok (.iload_n 1, 1) := by decide +kernel
theorem dX6_grudge_17 : decode cX6_grudge 17 = .ok (.iload_n 2, 1) := by decide +kernel
theorem dX6_grudge_18 : decode cX6_grudge 18 = .ok (.if_icmp .eq 31, 3) := by decide +kernel
theorem dX6_grudge_21 : decode cX6_grudge 21 = .ok (.iload_n 3, 1) := by decide +kernel
theorem dX6_grudge_22 : decode cX6_grudge 22 = .ok (.iconst 0, 1) := by decide +kernel
theorem dX6_grudge_23 : decode cX6_grudge 23 = .ok (.bipush 9, 2) := by decide +kernel
theorem dX6_grudge_25 : decode cX6_grudge 25 = .ok (.invokestatic 25, 3) := by decide +kernel
theorem dX6_grudge_28 : decode cX6_grudge 28 = .ok (.ifCond .eq 21, 3) := by decide +kernel
theorem dX6_grudge_31 : decode cX6_grudge 31 = .ok (.aload_n 0, 1) := by decide +kernel
theorem dX6_grudge_32 : decode cX6_grudge 32 = .ok (.sipush 148, 3) := by decide +kernel
theorem dX6_grudge_35 : decode cX6_grudge 35 = .ok (.bipush 7, 2) := by decide +kernel
theorem dX6_grudge_37 : decode cX6_grudge 37 = .ok (.iload_n 1, 1) := by decide +kernel
theorem dX6_grudge_38 : decode cX6_grudge 38 = .ok (.imul, 1) := by decide +kernel
theorem dX6_grudge_39 : decode cX6_grudge 39 = .ok (.iadd, 1) := by decide +kernel
theorem dX6_grudge_40 : decode cX6_grudge 40 = .ok (.iload_n 2, 1) := by decide +kernel
theorem dX6_grudge_41 : decode cX6_grudge 41 = .ok (.iadd, 1) := by decide +kernel
theorem dX6_grudge_42 : decode cX6_grudge 42 = .ok (.iload_n 3, 1) := by decide +kernel
theorem dX6_grudge_43 : decode cX6_grudge 43 = .ok (.invokevirtual 109, 3) := by decide +kernel
theorem dX6_grudge_46 : decode cX6_grudge 46 = .ok (.goto 5, 3) := by decide +kernel
theorem dX6_grudge_49 : decode cX6_grudge 49 = .ok (.bipush (-2), 2) := by decide +kernel
theorem dX6_grudge_51 : decode cX6_grudge 51 = .ok (.ireturn, 1) := by decide +kernel
set_option maxRecDepth 20000 in
theorem ggX6_set_X6_in : GoodIn wsX6_set wsX6_in := goodIn_r _ [4] rfl (by decide +kernel)
set_option maxRecDepth 20000 in
theorem gX6_set_X6_in : GoodIn wsX6_set (va_wsS RX6 25 yX6_in wsX6_in) := goodIn_app (goodIn_of _ (by decide +kernel)) ggX6_set_X6_in
set_option maxRecDepth 20000 in
theorem ggX6_set_X6_changes : GoodIn wsX6_set wsX6_changes := goodIn_r _ [8, 9, 10, 11, 12, 3, 13, 14, 15, 16, 17, 18, 19, 20, 21, 22, 23, 24] rfl (by decide +kernel)
set_option maxRecDepth 20000 in
theorem gX6_set_X6_changes : GoodIn wsX6_set (wsV RX6 109 RX6 yX6_changes wsX6_changes) := goodIn_app (goodIn_of _ (by decide +kernel)) ggX6_set_X6_changes
theorem dX6_set_0 : decode cX6_set 0 = .ok (.iload_n 1, 1) := by decide +kernel
theorem dX6_set_1 : decode cX6_set 1 = .ok (.iconst 0, 1) := by decide +kernel
theorem dX6_set_2 : decode cX6_set 2 = .ok (.iconst 1, 1) := by decide +kernel
theorem dX6_set_3 : decode cX6_set 3 = .ok (.invokestatic 25, 3) := by decide +kernel
theorem dX6_set_6 : decode cX6_set 6 = .ok (.ifCond .ne 5, 3) := by decide +kernel
theorem dX6_set_9 : decode cX6_set 9 = .ok (.iconst (-1), 1) := by decide +kernel
theorem dX6_set_10 : decode cX6_set 10 = .ok (.ireturn, 1) := by decide +kernel
theorem dX6_set_11 : decode cX6_set 11 = .ok (.iload_n 1, 1) := by decide +kernel
theorem dX6_set_12 : decode cX6_set 12 = .ok (.ifCond .ne 12, 3) := by decide +kernel
theorem dX6_set_15 : decode cX6_set 15 = .ok (.iload_n 2, 1) := by decide +kernel
theorem dX6_set_16 : decode cX6_set 16 = .ok (.iconst 0, 1) := by decide +kernel
theorem dX6_set_17 : decode cX6_set 17 = .ok (.iconst 1, 1) := by decide +kernel
theorem dX6_set_18 : decode cX6_set 18 = .ok (.invokestatic 25, 3) := by decide +kernel
theorem dX6_set_21 : decode cX6_set 21 = .ok (.goto 10, 3) := by decide +kernel
theorem dX6_set_24 : decode cX6_set 24 = .ok (.iload_n 2, 1) := by decide +kernel
theorem dX6_set_25 : decode cX6_set 25 = .ok (.iconst 1, 1) := by decide +kernel
theorem dX6_set_26 : decode cX6_set 26 = .ok (.bipush 10, 2) := by decide +kernel
theorem dX6_set_28 : decode cX6_set 28 = .ok (.invokestatic 25, 3) := by decide +kernel
theorem dX6_set_31 : decode cX6_set 31 = .ok (.istore_n 3, 1) := by decide +kernel
theorem dX6_set_32 : decode cX6_set 32 = .ok (.iload_n 3, 1) := by decide +kernel
theorem dX6_set_33 : decode cX6_set 33 = .ok (.ifCond .eq 16, 3) := by decide +kernel
theorem dX6_set_36 : decode cX6_set 36 = .ok (.aload_n 0, 1) := by decide +kernel
theorem dX6_set_37 : decode cX6_set 37 = .ok (.sipush 197, 3) := by decide +kernel
theorem dX6_set_40 : decode cX6_set 40 = .ok (.iload_n 1, 1) := by decide +kernel
theorem dX6_set_41 : decode cX6_set 41 = .ok (.iadd, 1) := by decide +kernel
theorem dX6_set_42 : decode cX6_set 42 = .ok (.iload_n 2, 1) := by decide +kernel
theorem dX6_set_43 : decode cX6_set 43 = .ok (.invokevirtual 109, 3) := by decide +kernel
theorem dX6_set_46 : decode cX6_set 46 = .ok (.goto 5, 3) := by decide +kernel
theorem dX6_set_49 : decode cX6_set 49 = .ok (.bipush (-2), 2) := by decide +kernel
theorem dX6_set_51 : decode cX6_set 51 = .ok (.ireturn, 1) := by decide +kernel
set_option maxRecDepth 20000 in
theorem ggX6_divide_X6_in : GoodIn wsX6_divide wsX6_in := goodIn_r _ [4] rfl (by decide +kernel)
set_option maxRecDepth 20000 in
theorem gX6_divide_X6_in : GoodIn wsX6_divide (va_wsS RX6 25 yX6_in wsX6_in) := goodIn_app (goodIn_of _ (by decide +kernel)) ggX6_divide_X6_in
set_option maxRecDepth 20000 in
theorem ggX6_divide_X6_remembers : GoodIn wsX6_divide wsX6_remembers := goodIn_r _ [8, 9, 10, 11, 61, 62, 63, 64, 65, 66, 67, 68, 69] rfl (by decide +kernel)
set_option maxRecDepth 20000 in
theorem gX6_divide_X6_remembers : GoodIn wsX6_divide (wsV RX6 99 RX6 yX6_remembers wsX6_remembers) := goodIn_app (goodIn_of _ (by decide +kernel)) ggX6_divide_X6_remembers
set_option maxRecDepth 20000 in
theorem ggX6_divide_X6_divides : GoodIn wsX6_divide wsX6_divides := goodIn_r _ [15, 11, 16, 17, 18, 19, 3, 20, 21, 22, 23, 24, 25, 26, 27, 28, 29, 30, 31, 32, 33, 34, 35, 36, 37, 38, 39, 40, 41, 42, 43, 44, 45, 46, 47, 48, 49, 50, 51, 52, 53, 54, 55, 56, 57, 58, 59, 60, 61, 62, 63, 64, 65, 66, 67, 68, 69] rfl (by decide +kernel)
set_option maxRecDepth 20000 in
theorem gX6_divide_X6_divides : GoodIn wsX6_divide (wsV RX6 115 RX6 yX6_divides wsX6_divides) := goodIn_app (goodIn_of _ (by decide +kernel)) ggX6_divide_X6_divides
theorem dX6_divide_0 : decode cX6_divide 0 = .ok (.iload_n 1, 1) := by decide +kernel
theorem dX6_divide_1 : decode cX6_divide 1 = .ok (.iconst 1, 1) := by decide +kernel
theorem dX6_divide_2 : decode cX6_divide 2 = .ok (.bipush 127, 2) := by decide +kernel
theorem dX6_divide_4 : decode cX6_divide 4 = .ok (.invokestatic 25, 3) := by decide +kernel
theorem dX6_divide_7 : decode cX6_divide 7 = .ok (.ifCond .ne 6, 3) := by decide +kernel
theorem dX6_divide_10 : decode cX6_divide 10 = .ok (.bipush (-2), 2) := by decide +kernel
theorem dX6_divide_12 : decode cX6_divide 12 = .ok (.ireturn, 1) := by decide +kernel
theorem dX6_divide_13 : decode cX6_divide 13 = .ok (.aload_n 0, 1) := by decide +kernel
theorem dX6_divide_14 : decode cX6_divide 14 = .ok (.invokevirtual 99, 3) := by decide +kernel
theorem dX6_divide_17 : decode cX6_divide 17 = .ok (.aload_n 0, 1) := by decide +kernel
theorem dX6_divide_18 : decode cX6_divide 18 = .ok (.iconst 0, 1) := by decide +kernel
theorem dX6_divide_19 : decode cX6_divide 19 = .ok (.iload_n 1, 1) := by decide +kernel
theorem dX6_divide_20 : decode cX6_divide 20 = .ok (.invokevirtual 115, 3) := by decide +kernel
theorem dX6_divide_23 : decode cX6_divide 23 = .ok (.ireturn, 1) := by decide +kernel
set_option maxRecDepth 20000 in
theorem ggX6_give_X6_isPlot : GoodIn wsX6_give wsX6_isPlot := goodIn_r _ [4, 5, 6, 3, 7] rfl (by decide +kernel)
set_option maxRecDepth 20000 in
theorem gX6_give_X6_isPlot : GoodIn wsX6_give (va_wsS RX6 102 yX6_isPlot wsX6_isPlot) := goodIn_app (goodIn_of _ (by decide +kernel)) ggX6_give_X6_isPlot
set_option maxRecDepth 20000 in
theorem ggX6_give_X6_in : GoodIn wsX6_give wsX6_in := goodIn_r _ [7] rfl (by decide +kernel)
set_option maxRecDepth 20000 in
theorem gX6_give_X6_in : GoodIn wsX6_give (va_wsS RX6 25 yX6_in wsX6_in) := goodIn_app (goodIn_of _ (by decide +kernel)) ggX6_give_X6_in
set_option maxRecDepth 20000 in
theorem ggX6_give_X6_changes : GoodIn wsX6_give wsX6_changes := goodIn_r _ [11, 12, 13, 14, 15, 3, 16, 17, 18, 19, 20, 21, 22, 23, 24, 25, 26, 27] rfl (by decide +kernel)
set_option maxRecDepth 20000 in
theorem gX6_give_X6_changes : GoodIn wsX6_give (wsV RX6 109 RX6 yX6_changes wsX6_changes) := goodIn_app (goodIn_of _ (by decide +kernel)) ggX6_give_X6_changes
theorem dX6_give_0 : decode cX6_give 0 = .ok (.iload_n 1, 1) := by decide +kernel
theorem dX6_give_1 : decode cX6_give 1 = .ok (.invokestatic 102, 3) := by decide +kernel
theorem dX6_give_4 : decode cX6_give 4 = .ok (.ifCond .eq 25, 3) := by decide +kernel
theorem dX6_give_7 : decode cX6_give 7 = .ok (.iload_n 2, 1) := by decide +kernel
theorem dX6_give_8 : decode cX6_give 8 = .ok (.iconst 0, 1) := by decide +kernel
theorem dX6_give_9 : decode cX6_give 9 = .ok (.bipush 7, 2) := by decide +kernel
theorem dX6_give_11 : decode cX6_give 11 = .ok (.invokestatic 25, 3) := by decide +kernel
theorem dX6_give_14 : decode cX6_give 14 = .ok (.ifCond .eq 15, 3) := by decide +kernel
theorem dX6_give_17 : decode cX6_give 17 = .ok (.aload_n 0, 1) := by decide +kernel
theorem dX6_give_18 : decode cX6_give 18 = .ok (.bipush 96, 2) := by decide +kernel
theorem dX6_give_20 : decode cX6_give 20 = .ok (.iload_n 1, 1) := by decide +kernel
theorem dX6_give_21 : decode cX6_give 21 = .ok (.iadd, 1) := by decide +kernel
theorem dX6_give_22 : decode cX6_give 22 = .ok (.iload_n 2, 1) := by decide +kernel
theorem dX6_give_23 : decode cX6_give 23 = .ok (.invokevirtual 109, 3) := by decide +kernel
theorem dX6_give_26 : decode cX6_give 26 = .ok (.goto 4, 3) := by decide +kernel
theorem dX6_give_29 : decode cX6_give 29 = .ok (.iconst (-1), 1) := by decide +kernel
theorem dX6_give_30 : decode cX6_give 30 = .ok (.ireturn, 1) := by decide +kernel
set_option maxRecDepth 20000 in
theorem ggX6_trade_X6_isCousin : GoodIn wsX6_trade wsX6_isCousin := goodIn_r _ [5, 6, 7, 4, 8] rfl (by decide +kernel)
set_option maxRecDepth 20000 in
theorem gX6_trade_X6_isCousin : GoodIn wsX6_trade (va_wsS RX6 112 yX6_isCousin wsX6_isCousin) := goodIn_app (goodIn_of _ (by decide +kernel)) ggX6_trade_X6_isCousin
set_option maxRecDepth 20000 in
theorem ggX6_trade_X6_reason : GoodIn wsX6_trade wsX6_reason := goodIn_r _ [12, 1, 13, 14, 15, 4, 16, 17, 18, 19, 20, 21, 22, 23, 24, 51, 52, 53, 54, 55, 56, 57, 58, 59] rfl (by decide +kernel)
set_option maxRecDepth 20000 in
theorem gX6_trade_X6_reason : GoodIn wsX6_trade (wsV RX6 86 RX6 yX6_reason wsX6_reason) := goodIn_app (goodIn_of _ (by decide +kernel)) ggX6_trade_X6_reason
set_option maxRecDepth 20000 in
theorem ggX6_trade_X6_remembers : GoodIn wsX6_trade wsX6_remembers := goodIn_r _ [28, 29, 30, 1, 51, 52, 53, 54, 55, 56, 57, 58, 59] rfl (by decide +kernel)
set_option maxRecDepth 20000 in
theorem gX6_trade_X6_remembers : GoodIn wsX6_trade (wsV RX6 99 RX6 yX6_remembers wsX6_remembers) := goodIn_app (goodIn_of _ (by decide +kernel)) ggX6_trade_X6_remembers
set_option maxRecDepth 20000 in
theorem ggX6_trade_X6_trades : GoodIn wsX6_trade wsX6_trades := goodIn_r _ [34, 1, 51, 52, 53, 54, 55, 56, 57, 58, 59] rfl (by decide +kernel)
set_option maxRecDepth 20000 in
theorem gX6_trade_X6_trades : GoodIn wsX6_trade (wsV RX6 89 RX6 yX6_trades wsX6_trades) := goodIn_app (goodIn_of _ (by decide +kernel)) ggX6_trade_X6_trades
set_option maxRecDepth 20000 in
theorem ggX6_trade_X6_allEnvies : GoodIn wsX6_trade wsX6_allEnvies := goodIn_r _ [38, 39, 40, 41, 4, 42, 43, 44, 45, 46, 47, 48, 49, 50, 17, 18, 19, 20, 1, 21, 22, 23, 24, 13, 14, 15, 16, 51, 52, 53, 54, 55, 56, 57, 58, 59] rfl (by decide +kernel)
set_option maxRecDepth 20000 in
theorem gX6_trade_X6_allEnvies : GoodIn wsX6_trade (wsV RX6 93 RX6 yX6_allEnvies wsX6_allEnvies) := goodIn_app (goodIn_of _ (by decide +kernel)) ggX6_trade_X6_allEnvies
theorem dX6_trade_0 : decode cX6_trade 0 = .ok (.iload_n 1, 1) := by decide +kernel
theorem dX6_trade_1 : decode cX6_trade 1 = .ok (.invokestatic 112, 3) := by decide +kernel
theorem dX6_trade_4 : decode cX6_trade 4 = .ok (.ifCond .eq 10, 3) := by decide +kernel
theorem dX6_trade_7 : decode cX6_trade 7 = .ok (.iload_n 2, 1) := by decide +kernel
theorem dX6_trade_8 : decode cX6_trade 8 = .ok (.invokestatic 112, 3) := by decide +kernel
theorem dX6_trade_11 : decode cX6_trade 11 = .ok (.ifCond .ne 5, 3) := by decide +kernel
theorem dX6_trade_14 : decode cX6_trade 14 = .ok (.iconst (-1), 1) := by decide +kernel
theorem dX6_trade_15 : decode cX6_trade 15 = .ok (.ireturn, 1) := by decide +kernel
theorem dX6_trade_16 : decode cX6_trade 16 = .ok (.iload_n 1, 1) := by decide +kernel
theorem dX6_trade_17 : decode cX6_trade 17 = .ok (.iload_n 2, 1) := by decide +kernel
theorem dX6_trade_18 : decode cX6_trade 18 = .ok (.if_icmp .ne 6, 3) := by decide +kernel
theorem dX6_trade_21 : decode cX6_trade 21 = .ok (.bipush (-2), 2) := by decide +kernel
theorem dX6_trade_23 : decode cX6_trade 23 = .ok (.ireturn, 1) := by decide +kernel
theorem dX6_trade_24 : decode cX6_trade 24 = .ok (.aload_n 0, 1) := by decide +kernel
theorem dX6_trade_25 : decode cX6_trade 25 = .ok (.iconst 0, 1) := by decide +kernel
theorem dX6_trade_26 : decode cX6_trade 26 = .ok (.iload_n 1, 1) := by decide +kernel
theorem dX6_trade_27 : decode cX6_trade 27 = .ok (.iload_n 2, 1) := by decide +kernel
theorem dX6_trade_28 : decode cX6_trade 28 = .ok (.invokevirtual 86, 3) := by decide +kernel
theorem dX6_trade_31 : decode cX6_trade 31 = .ok (.istore_n 3, 1) := by decide +kernel
theorem dX6_trade_32 : decode cX6_trade 32 = .ok (.iload_n 3, 1) := by decide +kernel
theorem dX6_trade_33 : decode cX6_trade 33 = .ok (.ifCond .le 8, 3) := by decide +kernel
theorem dX6_trade_36 : decode cX6_trade 36 = .ok (.bipush (-10), 2) := by decide +kernel
theorem dX6_trade_38 : decode cX6_trade 38 = .ok (.iload_n 3, 1) := by decide +kernel
theorem dX6_trade_39 : decode cX6_trade 39 = .ok (.isub, 1) := by decide +kernel
theorem dX6_trade_40 : decode cX6_trade 40 = .ok (.ireturn, 1) := by decide +kernel
theorem dX6_trade_41 : decode cX6_trade 41 = .ok (.aload_n 0, 1) := by decide +kernel
theorem dX6_trade_42 : decode cX6_trade 42 = .ok (.invokevirtual 99, 3) := by decide +kernel
theorem dX6_trade_45 : decode cX6_trade 45 = .ok (.aload_n 0, 1) := by decide +kernel
theorem dX6_trade_46 : decode cX6_trade 46 = .ok (.iconst 0, 1) := by decide +kernel
theorem dX6_trade_47 : decode cX6_trade 47 = .ok (.iload_n 1, 1) := by decide +kernel
theorem dX6_trade_48 : decode cX6_trade 48 = .ok (.iload_n 2, 1) := by decide +kernel
theorem dX6_trade_49 : decode cX6_trade 49 = .ok (.invokevirtual 89, 3) := by decide +kernel
theorem dX6_trade_52 : decode cX6_trade 52 = .ok (.aload_n 0, 1) := by decide +kernel
theorem dX6_trade_53 : decode cX6_trade 53 = .ok (.getfield 7, 3) := by decide +kernel
theorem dX6_trade_56 : decode cX6_trade 56 = .ok (.sipush 201, 3) := by decide +kernel
theorem dX6_trade_59 : decode cX6_trade 59 = .ok (.dup2, 1) := by decide +kernel
theorem dX6_trade_60 : decode cX6_trade 60 = .ok (.iaload, 1) := by decide +kernel
theorem dX6_trade_61 : decode cX6_trade 61 = .ok (.iconst 1, 1) := by decide +kernel
theorem dX6_trade_62 : decode cX6_trade 62 = .ok (.iadd, 1) := by decide +kernel
theorem dX6_trade_63 : decode cX6_trade 63 = .ok (.iastore, 1) := by decide +kernel
theorem dX6_trade_64 : decode cX6_trade 64 = .ok (.aload_n 0, 1) := by decide +kernel
theorem dX6_trade_65 : decode cX6_trade 65 = .ok (.iconst 0, 1) := by decide +kernel
theorem dX6_trade_66 : decode cX6_trade 66 = .ok (.invokevirtual 93, 3) := by decide +kernel
theorem dX6_trade_69 : decode cX6_trade 69 = .ok (.ireturn, 1) := by decide +kernel
set_option maxRecDepth 20000 in
theorem ggX6_settle_X6_best : GoodIn wsX6_settle wsX6_best := goodIn_r _ [5, 6, 7, 8, 4, 9, 10, 11, 12, 13, 14, 15, 16, 17, 18, 19, 20, 21, 22, 23, 24, 25, 26, 27, 28, 29, 30, 31, 32, 33, 34, 35, 36, 37, 38, 39, 40, 41, 42, 53, 54, 55, 56, 57, 58, 59, 60, 61] rfl (by decide +kernel)
set_option maxRecDepth 20000 in
theorem gX6_settle_X6_best : GoodIn wsX6_settle (wsV RX6 96 RX6 yX6_best wsX6_best) := goodIn_app (goodIn_of _ (by decide +kernel)) ggX6_settle_X6_best
set_option maxRecDepth 20000 in
theorem ggX6_settle_X6_remembers : GoodIn wsX6_settle wsX6_remembers := goodIn_r _ [46, 47, 48, 10, 53, 54, 55, 56, 57, 58, 59, 60, 61] rfl (by decide +kernel)
set_option maxRecDepth 20000 in
theorem gX6_settle_X6_remembers : GoodIn wsX6_settle (wsV RX6 99 RX6 yX6_remembers wsX6_remembers) := goodIn_app (goodIn_of _ (by decide +kernel)) ggX6_settle_X6_remembers
set_option maxRecDepth 20000 in
theorem ggX6_settle_X6_settles : GoodIn wsX6_settle wsX6_settles := goodIn_r _ [52, 10, 1, 2, 3, 4, 5, 6, 7, 8, 9, 11, 12, 13, 14, 15, 16, 17, 18, 19, 20, 21, 22, 23, 24, 25, 26, 27, 28, 29, 30, 31, 32, 33, 34, 35, 36, 37, 38, 39, 40, 41, 42, 53, 54, 55, 56, 57, 58, 59, 60, 61] rfl (by decide +kernel)
set_option maxRecDepth 20000 in
theorem gX6_settle_X6_settles : GoodIn wsX6_settle (wsV RX6 118 RX6 yX6_settles wsX6_settles) := goodIn_app (goodIn_of _ (by decide +kernel)) ggX6_settle_X6_settles
theorem dX6_settle_0 : decode cX6_settle 0 = .ok (.aload_n 0, 1) := by decide +kernel
theorem dX6_settle_1 : decode cX6_settle 1 = .ok (.iconst 0, 1) := by decide +kernel
theorem dX6_settle_2 : decode cX6_settle 2 = .ok (.invokevirtual 96, 3) := by decide +kernel
theorem dX6_settle_5 : decode cX6_settle 5 = .ok (.bipush (-5), 2) := by decide +kernel
theorem dX6_settle_7 : decode cX6_settle 7 = .ok (.if_icmp .ne 6, 3) := by decide +kernel
theorem dX6_settle_10 : decode cX6_settle 10 = .ok (.bipush (-5), 2) := by decide +kernel
theorem dX6_settle_12 : decode cX6_settle 12 = .ok (.ireturn, 1) := by decide +kernel
theorem dX6_settle_13 : decode cX6_settle 13 = .ok (.aload_n 0, 1) := by decide +kernel
theorem dX6_settle_14 : decode cX6_settle 14 = .ok (.invokevirtual 99, 3) := by decide +kernel
theorem dX6_settle_17 : decode cX6_settle 17 = .ok (.aload_n 0, 1) := by decide +kernel
theorem dX6_settle_18 : decode cX6_settle 18 = .ok (.iconst 0, 1) := by decide +kernel
theorem dX6_settle_19 : decode cX6_settle 19 = .ok (.invokevirtual 118, 3) := by decide +kernel
theorem dX6_settle_22 : decode cX6_settle 22 = .ok (.ireturn, 1) := by decide +kernel
theorem dX6_type_0 : decode cX6_type 0 = .ok (.aload_n 0, 1) := by decide +kernel
theorem dX6_type_1 : decode cX6_type 1 = .ok (.getfield 121, 3) := by decide +kernel
theorem dX6_type_4 : decode cX6_type 4 = .ok (.bipush 60, 2) := by decide +kernel
theorem dX6_type_6 : decode cX6_type 6 = .ok (.if_icmp .ne 6, 3) := by decide +kernel
theorem dX6_type_9 : decode cX6_type 9 = .ok (.bipush (-3), 2) := by decide +kernel
theorem dX6_type_11 : decode cX6_type 11 = .ok (.ireturn, 1) := by decide +kernel
theorem dX6_type_12 : decode cX6_type 12 = .ok (.aload_n 0, 1) := by decide +kernel
theorem dX6_type_13 : decode cX6_type 13 = .ok (.getfield 19, 3) := by decide +kernel
theorem dX6_type_16 : decode cX6_type 16 = .ok (.aload_n 0, 1) := by decide +kernel
theorem dX6_type_17 : decode cX6_type 17 = .ok (.getfield 121, 3) := by decide +kernel
theorem dX6_type_20 : decode cX6_type 20 = .ok (.iload_n 1, 1) := by decide +kernel
theorem dX6_type_21 : decode cX6_type 21 = .ok (.iastore, 1) := by decide +kernel
theorem dX6_type_22 : decode cX6_type 22 = .ok (.aload_n 0, 1) := by decide +kernel
theorem dX6_type_23 : decode cX6_type 23 = .ok (.dup, 1) := by decide +kernel
theorem dX6_type_24 : decode cX6_type 24 = .ok (.getfield 121, 3) := by decide +kernel
theorem dX6_type_27 : decode cX6_type 27 = .ok (.iconst 1, 1) := by decide +kernel
theorem dX6_type_28 : decode cX6_type 28 = .ok (.iadd, 1) := by decide +kernel
theorem dX6_type_29 : decode cX6_type 29 = .ok (.putfield 121, 3) := by decide +kernel
theorem dX6_type_32 : decode cX6_type 32 = .ok (.aload_n 0, 1) := by decide +kernel
theorem dX6_type_33 : decode cX6_type 33 = .ok (.getfield 121, 3) := by decide +kernel
theorem dX6_type_36 : decode cX6_type 36 = .ok (.ireturn, 1) := by decide +kernel
theorem dX6_clearText_0 : decode cX6_clearText 0 = .ok (.aload_n 0, 1) := by decide +kernel
theorem dX6_clearText_1 : decode cX6_clearText 1 = .ok (.getfield 121, 3) := by decide +kernel
theorem dX6_clearText_4 : decode cX6_clearText 4 = .ok (.istore_n 1, 1) := by decide +kernel
theorem dX6_clearText_5 : decode cX6_clearText 5 = .ok (.aload_n 0, 1) := by decide +kernel
theorem dX6_clearText_6 : decode cX6_clearText 6 = .ok (.iconst 0, 1) := by decide +kernel
theorem dX6_clearText_7 : decode cX6_clearText 7 = .ok (.putfield 121, 3) := by decide +kernel
theorem dX6_clearText_10 : decode cX6_clearText 10 = .ok (.iload_n 1, 1) := by decide +kernel
theorem dX6_clearText_11 : decode cX6_clearText 11 = .ok (.ireturn, 1) := by decide +kernel
theorem dX6_sign_0 : decode cX6_sign 0 = .ok (.iload_n 1, 1) := by decide +kernel
theorem dX6_sign_1 : decode cX6_sign 1 = .ok (.aload_n 0, 1) := by decide +kernel
theorem dX6_sign_2 : decode cX6_sign 2 = .ok (.getfield 121, 3) := by decide +kernel
theorem dX6_sign_5 : decode cX6_sign 5 = .ok (.if_icmp .ge 12, 3) := by decide +kernel
theorem dX6_sign_8 : decode cX6_sign 8 = .ok (.aload_n 0, 1) := by decide +kernel
theorem dX6_sign_9 : decode cX6_sign 9 = .ok (.getfield 19, 3) := by decide +kernel
theorem dX6_sign_12 : decode cX6_sign 12 = .ok (.iload_n 1, 1) := by decide +kernel
theorem dX6_sign_13 : decode cX6_sign 13 = .ok (.iaload, 1) := by decide +kernel
theorem dX6_sign_14 : decode cX6_sign 14 = .ok (.goto 4, 3) := by decide +kernel
theorem dX6_sign_17 : decode cX6_sign 17 = .ok (.iconst (-1), 1) := by decide +kernel
theorem dX6_sign_18 : decode cX6_sign 18 = .ok (.ireturn, 1) := by decide +kernel
set_option maxRecDepth 20000 in
theorem ggX6_digit_X6_sign : GoodIn wsX6_digit wsX6_sign := goodIn_r _ [5, 6, 7, 11, 12, 13, 14, 15, 16, 17, 18, 19] rfl (by decide +kernel)
set_option maxRecDepth 20000 in
theorem gX6_digit_X6_sign : GoodIn wsX6_digit (wsV RX6 124 RX6 yX6_sign wsX6_sign) := goodIn_app (goodIn_of _ (by decide +kernel)) ggX6_digit_X6_sign
set_option maxRecDepth 20000 in
theorem ggX6_digit_X6_in : GoodIn wsX6_digit wsX6_in := goodIn_r _ [10] rfl (by decide +kernel)
set_option maxRecDepth 20000 in
theorem gX6_digit_X6_in : GoodIn wsX6_digit (va_wsS RX6 25 yX6_in wsX6_in) := goodIn_app (goodIn_of _ (by decide +kernel)) ggX6_digit_X6_in
theorem dX6_digit_0 : decode cX6_digit 0 = .ok (.aload_n 0, 1) := by decide +kernel
theorem dX6_digit_1 : decode cX6_digit 1 = .ok (.iload_n 1, 1) := by decide +kernel
theorem dX6_digit_2 : decode cX6_digit 2 = .ok (.invokevirtual 124, 3) := by decide +kernel
theorem dX6_digit_5 : decode cX6_digit 5 = .ok (.bipush 48, 2) := by decide +kernel
theorem dX6_digit_7 : decode cX6_digit 7 = .ok (.bipush 57, 2) := by decide +kernel
theorem dX6_digit_9 : decode cX6_digit 9 = .ok (.invokestatic 25, 3) := by decide +kernel
theorem dX6_digit_12 : decode cX6_digit 12 = .ok (.ifCond .eq 14, 3) := by decide +kernel
theorem dX6_digit_15 : decode cX6_digit 15 = .ok (.aload_n 0, 1) := by decide +kernel
theorem dX6_digit_16 : decode cX6_digit 16 = .ok (.iload_n 1, 1) := by decide +kernel
theorem dX6_digit_17 : decode cX6_digit 17 = .ok (.invokevirtual 124, 3) := by decide +kernel
theorem dX6_digit_20 : decode cX6_digit 20 = .ok (.bipush 48, 2) := by decide +kernel
theorem dX6_digit_22 : decode cX6_digit 22 = .ok (.isub, 1) := by decide +kernel
theorem dX6_digit_23 : decode cX6_digit 23 = .ok (.goto 4, 3) := by decide +kernel
theorem dX6_digit_26 : decode cX6_digit 26 = .ok (.iconst (-1), 1) := by decide +kernel
theorem dX6_digit_27 : decode cX6_digit 27 = .ok (.ireturn, 1) := by decide +kernel
set_option maxRecDepth 20000 in
theorem ggX6_digitsEnd_X6_sign : GoodIn wsX6_digitsEnd wsX6_sign := goodIn_r _ [5, 6, 7, 15, 16, 17, 18, 19, 20, 21, 22, 23] rfl (by decide +kernel)
set_option maxRecDepth 20000 in
theorem gX6_digitsEnd_X6_sign : GoodIn wsX6_digitsEnd (wsV RX6 124 RX6 yX6_sign wsX6_sign) := goodIn_app (goodIn_of _ (by decide +kernel)) ggX6_digitsEnd_X6_sign
set_option maxRecDepth 20000 in
theorem ggX6_digitsEnd_X6_digit : GoodIn wsX6_digitsEnd wsX6_digit := goodIn_r _ [11, 1, 2, 3, 4, 5, 6, 7, 12, 13, 14, 15, 16, 17, 18, 19, 20, 21, 22, 23] rfl (by decide +kernel)
set_option maxRecDepth 20000 in
theorem gX6_digitsEnd_X6_digit : GoodIn wsX6_digitsEnd (wsV RX6 127 RX6 yX6_digit wsX6_digit) := goodIn_app (goodIn_of _ (by decide +kernel)) ggX6_digitsEnd_X6_digit
theorem dX6_digitsEnd_0 : decode cX6_digitsEnd 0 = .ok (.aload_n 0, 1) := by decide +kernel
theorem dX6_digitsEnd_1 : decode cX6_digitsEnd 1 = .ok (.iload_n 1, 1) := by decide +kernel
theorem dX6_digitsEnd_2 : decode cX6_digitsEnd 2 = .ok (.invokevirtual 124, 3) := by decide +kernel
theorem dX6_digitsEnd_5 : decode cX6_digitsEnd 5 = .ok (.bipush 61, 2) := by decide +kernel
theorem dX6_digitsEnd_7 : decode cX6_digitsEnd 7 = .ok (.if_icmp .eq 7, 3) := by decide +kernel
theorem dX6_digitsEnd_10 : decode cX6_digitsEnd 10 = .ok (.iconst (-1), 1) := by decide +kernel
theorem dX6_digitsEnd_11 : decode cX6_digitsEnd 11 = .ok (.iload_n 1, 1) := by decide +kernel
theorem dX6_digitsEnd_12 : decode cX6_digitsEnd 12 = .ok (.isub, 1) := by decide +kernel
theorem dX6_digitsEnd_13 : decode cX6_digitsEnd 13 = .ok (.ireturn, 1) := by decide +kernel
theorem dX6_digitsEnd_14 : decode cX6_digitsEnd 14 = .ok (.iconst 1, 1) := by decide +kernel
theorem dX6_digitsEnd_15 : decode cX6_digitsEnd 15 = .ok (.istore_n 3, 1) := by decide +kernel
theorem dX6_digitsEnd_16 : decode cX6_digitsEnd 16 = .ok (.iload_n 3, 1) := by decide +kernel
theorem dX6_digitsEnd_17 : decode cX6_digitsEnd 17 = .ok (.iload_n 2, 1) := by decide +kernel
theorem dX6_digitsEnd_18 : decode cX6_digitsEnd 18 = .ok (.if_icmp .gt 25, 3) := by decide +kernel
theorem dX6_digitsEnd_21 : decode cX6_digitsEnd 21 = .ok (.aload_n 0, 1) := by decide +kernel
theorem dX6_digitsEnd_22 : decode cX6_digitsEnd 22 = .ok (.iload_n 1, 1) := by decide +kernel
theorem dX6_digitsEnd_23 : decode cX6_digitsEnd 23 = .ok (.iload_n 3, 1) := by decide +kernel
theorem dX6_digitsEnd_24 : decode cX6_digitsEnd 24 = .ok (.iadd, 1) := by decide +kernel
theorem dX6_digitsEnd_25 : decode cX6_digitsEnd 25 = .ok (.invokevirtual 127, 3) := by decide +kernel
theorem dX6_digitsEnd_28 : decode cX6_digitsEnd 28 = .ok (.ifCond .ge 9, 3) := by decide +kernel
theorem dX6_digitsEnd_31 : decode cX6_digitsEnd 31 = .ok (.iconst (-1), 1) := by decide +kernel
theorem dX6_digitsEnd_32 : decode cX6_digitsEnd 32 = .ok (.iload_n 1, 1) := by decide +kernel
theorem dX6_digitsEnd_33 : decode cX6_digitsEnd 33 = .ok (.isub, 1) := by decide +kernel
theorem dX6_digitsEnd_34 : decode cX6_digitsEnd 34 = .ok (.iload_n 3, 1) := by decide +kernel
theorem dX6_digitsEnd_35 : decode cX6_digitsEnd 35 = .ok (.isub, 1) := by decide +kernel
theorem dX6_digitsEnd_36 : decode cX6_digitsEnd 36 = .ok (.ireturn, 1) := by decide +kernel
theorem dX6_digitsEnd_37 : decode cX6_digitsEnd 37 = .ok (.iinc 3 1, 3) := by decide +kernel
theorem dX6_digitsEnd_40 : decode cX6_digitsEnd 40 = .ok (.goto (-24), 3) := by decide +kernel
theorem dX6_digitsEnd_43 : decode cX6_digitsEnd 43 = .ok (.iload_n 1, 1) := by decide +kernel
